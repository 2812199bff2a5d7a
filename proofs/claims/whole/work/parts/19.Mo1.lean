theorem d_Mo_declare_0 : decode b_Mo_declare 0 = .ok (.iload_n 1, 1) := by decide +kernel
theorem d_Mo_declare_1 : decode b_Mo_declare 1 = .ok (.ifCond .lt 8, 3) := by decide +kernel
theorem d_Mo_declare_4 : decode b_Mo_declare 4 = .ok (.iload_n 1, 1) := by decide +kernel
theorem d_Mo_declare_5 : decode b_Mo_declare 5 = .ok (.iconst 4, 1) := by decide +kernel
theorem d_Mo_declare_6 : decode b_Mo_declare 6 = .ok (.if_icmp .le 5, 3) := by decide +kernel
theorem d_Mo_declare_9 : decode b_Mo_declare 9 = .ok (.iconst 0, 1) := by decide +kernel
theorem d_Mo_declare_10 : decode b_Mo_declare 10 = .ok (.ireturn, 1) := by decide +kernel
theorem d_Mo_declare_11 : decode b_Mo_declare 11 = .ok (.aload_n 0, 1) := by decide +kernel
theorem d_Mo_declare_12 : decode b_Mo_declare 12 = .ok (.iload_n 1, 1) := by decide +kernel
theorem d_Mo_declare_13 : decode b_Mo_declare 13 = .ok (.putfield 46, 3) := by decide +kernel
theorem d_Mo_declare_16 : decode b_Mo_declare 16 = .ok (.aload_n 0, 1) := by decide +kernel
theorem d_Mo_declare_17 : decode b_Mo_declare 17 = .ok (.iconst 0, 1) := by decide +kernel
theorem d_Mo_declare_18 : decode b_Mo_declare 18 = .ok (.putfield 50, 3) := by decide +kernel
theorem d_Mo_declare_21 : decode b_Mo_declare 21 = .ok (.aload_n 0, 1) := by decide +kernel
theorem d_Mo_declare_22 : decode b_Mo_declare 22 = .ok (.iconst 0, 1) := by decide +kernel
theorem d_Mo_declare_23 : decode b_Mo_declare 23 = .ok (.putfield 53, 3) := by decide +kernel
theorem d_Mo_declare_26 : decode b_Mo_declare 26 = .ok (.iconst 1, 1) := by decide +kernel
theorem d_Mo_declare_27 : decode b_Mo_declare 27 = .ok (.ireturn, 1) := by decide +kernel
def f_Mo_declare (a1 : Int32) (S : zSt) : Option (Int32 × zSt) := (if a1 < 0 then (gdb 0 (some (0, S))) else (if a1 ≤ 4 then sq (su S 66 0 a1) fun S1 => sq (su S1 66 1 0) fun S2 => sq (su S2 66 3 0) fun S3 => (gdb 1 (some (1, S3))) else (gdb 0 (some (0, S)))))
set_option maxHeartbeats 4000000 in
set_option maxRecDepth 100000 in
theorem c_Mo_declare (l : Launch) (g : zG) (hD : GD g) (a1 : Int32) (S : zSt) (u : (Int32 × zSt)) (h : f_Mo_declare a1 S = some u) : Met l y_Mo_declare (mw y_Mo_declare b_Mo_declare 2 (some .boolean)) (rmD 0) (Pw g [.ref (ga g 66), .int a1] S) (Qis g u) 0 0 (gA g) := by
  refine z_go (own := R_Mo) (lv0 := [(0, .ref (ga g 66)), (1, .int a1)]) hD (by decide) rfl (Nat.le_of_ble_eq_true rfl) rfl ?_
  intro p e s m args below meth c C D ls hl
  have hx := C.1
  have hb := C.2.1
  have hown := C.2.2.2.1
  have hts := C.2.2.2.2.1
  unfold f_Mo_declare at h
  refine lv_iload_n hx hb d_Mo_declare_0 rfl (lv_at hl 1 rfl) ?_
  refine lv_if_lt hx hb d_Mo_declare_1 rfl (fun z => ?_) (fun z => ?_)
  · replace h := if_t z h
    refine lv_iconst (v := 0) hx hb d_Mo_declare_9 (by decide) ?_
    exact x_zrs C D h d_Mo_declare_10
  · replace h := if_f z h
    refine lv_iload_n hx hb d_Mo_declare_4 rfl (lv_at hl 1 rfl) ?_
    refine lv_iconst (v := 4) hx hb d_Mo_declare_5 (by decide) ?_
    refine lv_icmp_le hx hb d_Mo_declare_6 rfl (fun z => ?_) (fun z => ?_)
    · replace h := if_t z h
      refine lv_aload_n hx hb d_Mo_declare_11 rfl (lv_at hl 0 rfl) ?_
      refine lv_iload_n hx hb d_Mo_declare_12 rfl (lv_at hl 1 rfl) ?_
      refine x_put C D kc_Mo (by decide) sh_66 0 rfl (by decide) wf_Mo_46 rfl rfl a1 rfl ⟨rfl, rfl⟩ d_Mo_declare_13 h (fun S1 H locs h D => ?_)
      refine lv_aload_n hx hb d_Mo_declare_16 rfl (lv_at hl 0 rfl) ?_
      refine lv_iconst (v := 0) hx hb d_Mo_declare_17 (by decide) ?_
      refine x_put C D kc_Mo (by decide) sh_66 1 rfl (by decide) wf_Mo_50 rfl rfl 0 rfl ⟨rfl, rfl⟩ d_Mo_declare_18 h (fun S2 H locs h D => ?_)
      refine lv_aload_n hx hb d_Mo_declare_21 rfl (lv_at hl 0 rfl) ?_
      refine lv_iconst (v := 0) hx hb d_Mo_declare_22 (by decide) ?_
      refine x_put C D kc_Mo (by decide) sh_66 3 rfl (by decide) wf_Mo_53 rfl rfl 0 rfl ⟨rfl, rfl⟩ d_Mo_declare_23 h (fun S3 H locs h D => ?_)
      refine lv_iconst (v := 1) hx hb d_Mo_declare_26 (by decide) ?_
      exact x_zrs C D h d_Mo_declare_27
    · replace h := if_f z h
      refine lv_iconst (v := 0) hx hb d_Mo_declare_9 (by decide) ?_
      exact x_zrs C D h d_Mo_declare_10
theorem d_Mo_template_0 : decode b_Mo_template 0 = .ok (.iload_n 1, 1) := by decide +kernel
theorem d_Mo_template_1 : decode b_Mo_template 1 = .ok (.bipush 33, 2) := by decide +kernel
theorem d_Mo_template_3 : decode b_Mo_template 3 = .ok (.if_icmp .lt 18, 3) := by decide +kernel
theorem d_Mo_template_6 : decode b_Mo_template 6 = .ok (.iload_n 1, 1) := by decide +kernel
theorem d_Mo_template_7 : decode b_Mo_template 7 = .ok (.bipush 126, 2) := by decide +kernel
theorem d_Mo_template_9 : decode b_Mo_template 9 = .ok (.if_icmp .gt 12, 3) := by decide +kernel
theorem d_Mo_template_12 : decode b_Mo_template 12 = .ok (.aload_n 0, 1) := by decide +kernel
theorem d_Mo_template_13 : decode b_Mo_template 13 = .ok (.getfield 50, 3) := by decide +kernel
theorem d_Mo_template_16 : decode b_Mo_template 16 = .ok (.bipush 40, 2) := by decide +kernel
theorem d_Mo_template_18 : decode b_Mo_template 18 = .ok (.if_icmp .ne 5, 3) := by decide +kernel
theorem d_Mo_template_21 : decode b_Mo_template 21 = .ok (.iconst 0, 1) := by decide +kernel
theorem d_Mo_template_22 : decode b_Mo_template 22 = .ok (.ireturn, 1) := by decide +kernel
theorem d_Mo_template_23 : decode b_Mo_template 23 = .ok (.aload_n 0, 1) := by decide +kernel
theorem d_Mo_template_24 : decode b_Mo_template 24 = .ok (.getfield 7, 3) := by decide +kernel
theorem d_Mo_template_27 : decode b_Mo_template 27 = .ok (.aload_n 0, 1) := by decide +kernel
theorem d_Mo_template_28 : decode b_Mo_template 28 = .ok (.getfield 50, 3) := by decide +kernel
theorem d_Mo_template_31 : decode b_Mo_template 31 = .ok (.iload_n 1, 1) := by decide +kernel
theorem d_Mo_template_32 : decode b_Mo_template 32 = .ok (.iastore, 1) := by decide +kernel
theorem d_Mo_template_33 : decode b_Mo_template 33 = .ok (.aload_n 0, 1) := by decide +kernel
theorem d_Mo_template_34 : decode b_Mo_template 34 = .ok (.dup, 1) := by decide +kernel
theorem d_Mo_template_35 : decode b_Mo_template 35 = .ok (.getfield 50, 3) := by decide +kernel
theorem d_Mo_template_38 : decode b_Mo_template 38 = .ok (.iconst 1, 1) := by decide +kernel
theorem d_Mo_template_39 : decode b_Mo_template 39 = .ok (.iadd, 1) := by decide +kernel
theorem d_Mo_template_40 : decode b_Mo_template 40 = .ok (.putfield 50, 3) := by decide +kernel
theorem d_Mo_template_43 : decode b_Mo_template 43 = .ok (.iconst 1, 1) := by decide +kernel
theorem d_Mo_template_44 : decode b_Mo_template 44 = .ok (.ireturn, 1) := by decide +kernel
def f_Mo_template (a1 : Int32) (S : zSt) : Option (Int32 × zSt) := (if a1 < 33 then (gdb 0 (some (0, S))) else (if 126 < a1 then (gdb 0 (some (0, S))) else (if (S 66 1) = 40 then (gdb 0 (some (0, S))) else gdi (S 66 1) 40 (sq (su S 67 (S 66 1).toNatClampNeg a1) fun S1 => sq (su S1 66 1 ((S1 66 1) + 1)) fun S2 => (gdb 1 (some (1, S2)))))))
set_option maxHeartbeats 4000000 in
set_option maxRecDepth 100000 in
theorem c_Mo_template (l : Launch) (g : zG) (hD : GD g) (a1 : Int32) (S : zSt) (u : (Int32 × zSt)) (h : f_Mo_template a1 S = some u) : Met l y_Mo_template (mw y_Mo_template b_Mo_template 2 (some .boolean)) (rmD 0) (Pw g [.ref (ga g 66), .int a1] S) (Qis g u) 0 0 (gA g) := by
  refine z_go (own := R_Mo) (lv0 := [(0, .ref (ga g 66)), (1, .int a1)]) hD (by decide) rfl (Nat.le_of_ble_eq_true rfl) rfl ?_
  intro p e s m args below meth c C D ls hl
  have hx := C.1
  have hb := C.2.1
  have hown := C.2.2.2.1
  have hts := C.2.2.2.2.1
  unfold f_Mo_template at h
  refine lv_iload_n hx hb d_Mo_template_0 rfl (lv_at hl 1 rfl) ?_
  refine lv_bipush (v := 33) hx hb d_Mo_template_1 (by decide) ?_
  refine lv_icmp_lt hx hb d_Mo_template_3 rfl (fun z => ?_) (fun z => ?_)
  · replace h := if_t z h
    refine lv_iconst (v := 0) hx hb d_Mo_template_21 (by decide) ?_
    exact x_zrs C D h d_Mo_template_22
  · replace h := if_f z h
    refine lv_iload_n hx hb d_Mo_template_6 rfl (lv_at hl 1 rfl) ?_
    refine lv_bipush (v := 126) hx hb d_Mo_template_7 (by decide) ?_
    refine lv_icmp_gt hx hb d_Mo_template_9 rfl (fun z => ?_) (fun z => ?_)
    · replace h := if_t z h
      refine lv_iconst (v := 0) hx hb d_Mo_template_21 (by decide) ?_
      exact x_zrs C D h d_Mo_template_22
    · replace h := if_f z h
      refine lv_aload_n hx hb d_Mo_template_12 rfl (lv_at hl 0 rfl) ?_
      refine x_get (v := .int (S 66 1)) C D kc_Mo (by decide) sh_66 1 rfl (by decide) wf_Mo_50 rfl rfl d_Mo_template_13 ?_
      refine lv_bipush (v := 40) hx hb d_Mo_template_16 (by decide) ?_
      refine lv_icmp_ne hx hb d_Mo_template_18 rfl (fun z => ?_) (fun z => ?_)
      · replace h := if_f z h
        refine lv_aload_n hx hb d_Mo_template_23 rfl (lv_at hl 0 rfl) ?_
        refine x_get (v := .ref (ga g 67)) C D kc_Mo (by decide) sh_66 2 rfl (by decide) wf_Mo_7 rfl rfl d_Mo_template_24 ?_
        refine lv_aload_n hx hb d_Mo_template_27 rfl (lv_at hl 0 rfl) ?_
        refine x_get (v := .int (S 66 1)) C D kc_Mo (by decide) sh_66 1 rfl (by decide) wf_Mo_50 rfl rfl d_Mo_template_28 ?_
        refine lv_iload_n hx hb d_Mo_template_31 rfl (lv_at hl 1 rfl) ?_
        refine x_iast C D (by decide) sh_67 d_Mo_template_32 h (fun S1 H locs h D => ?_)
        refine lv_aload_n hx hb d_Mo_template_33 rfl (lv_at hl 0 rfl) ?_
        refine lv_dup hx hb d_Mo_template_34 rfl ?_
        refine x_get (v := .int (S1 66 1)) C D kc_Mo (by decide) sh_66 1 rfl (by decide) wf_Mo_50 rfl rfl d_Mo_template_35 ?_
        refine lv_iconst (v := 1) hx hb d_Mo_template_38 (by decide) ?_
        refine lv_iadd hx hb d_Mo_template_39 ?_
        refine x_put C D kc_Mo (by decide) sh_66 1 rfl (by decide) wf_Mo_50 rfl rfl ((S1 66 1) + 1) rfl ⟨rfl, rfl⟩ d_Mo_template_40 h (fun S2 H locs h D => ?_)
        refine lv_iconst (v := 1) hx hb d_Mo_template_43 (by decide) ?_
        exact x_zrs C D h d_Mo_template_44
      · replace h := if_t z h
        refine lv_iconst (v := 0) hx hb d_Mo_template_21 (by decide) ?_
        exact x_zrs C D h d_Mo_template_22
theorem d_Mo_parameter_0 : decode b_Mo_parameter 0 = .ok (.iload_n 1, 1) := by decide +kernel
theorem d_Mo_parameter_1 : decode b_Mo_parameter 1 = .ok (.ifCond .lt 20, 3) := by decide +kernel
theorem d_Mo_parameter_4 : decode b_Mo_parameter 4 = .ok (.iload_n 1, 1) := by decide +kernel
theorem d_Mo_parameter_5 : decode b_Mo_parameter 5 = .ok (.iconst 5, 1) := by decide +kernel
theorem d_Mo_parameter_6 : decode b_Mo_parameter 6 = .ok (.if_icmp .gt 15, 3) := by decide +kernel
theorem d_Mo_parameter_9 : decode b_Mo_parameter 9 = .ok (.iload_n 2, 1) := by decide +kernel
theorem d_Mo_parameter_10 : decode b_Mo_parameter 10 = .ok (.bipush 97, 2) := by decide +kernel
theorem d_Mo_parameter_12 : decode b_Mo_parameter 12 = .ok (.if_icmp .lt 9, 3) := by decide +kernel
theorem d_Mo_parameter_15 : decode b_Mo_parameter 15 = .ok (.iload_n 2, 1) := by decide +kernel
theorem d_Mo_parameter_16 : decode b_Mo_parameter 16 = .ok (.bipush 122, 2) := by decide +kernel
theorem d_Mo_parameter_18 : decode b_Mo_parameter 18 = .ok (.if_icmp .le 6, 3) := by decide +kernel
theorem d_Mo_parameter_21 : decode b_Mo_parameter 21 = .ok (.bipush (-11), 2) := by decide +kernel
theorem d_Mo_parameter_23 : decode b_Mo_parameter 23 = .ok (.ireturn, 1) := by decide +kernel
theorem d_Mo_parameter_24 : decode b_Mo_parameter 24 = .ok (.aload_n 0, 1) := by decide +kernel
theorem d_Mo_parameter_25 : decode b_Mo_parameter 25 = .ok (.getfield 53, 3) := by decide +kernel
theorem d_Mo_parameter_28 : decode b_Mo_parameter 28 = .ok (.bipush 6, 2) := by decide +kernel
theorem d_Mo_parameter_30 : decode b_Mo_parameter 30 = .ok (.if_icmp .ne 6, 3) := by decide +kernel
theorem d_Mo_parameter_33 : decode b_Mo_parameter 33 = .ok (.bipush (-12), 2) := by decide +kernel
theorem d_Mo_parameter_35 : decode b_Mo_parameter 35 = .ok (.ireturn, 1) := by decide +kernel
theorem d_Mo_parameter_36 : decode b_Mo_parameter 36 = .ok (.aload_n 0, 1) := by decide +kernel
theorem d_Mo_parameter_37 : decode b_Mo_parameter 37 = .ok (.getfield 13, 3) := by decide +kernel
theorem d_Mo_parameter_40 : decode b_Mo_parameter 40 = .ok (.aload_n 0, 1) := by decide +kernel
theorem d_Mo_parameter_41 : decode b_Mo_parameter 41 = .ok (.getfield 53, 3) := by decide +kernel
theorem d_Mo_parameter_44 : decode b_Mo_parameter 44 = .ok (.iload_n 1, 1) := by decide +kernel
theorem d_Mo_parameter_45 : decode b_Mo_parameter 45 = .ok (.iastore, 1) := by decide +kernel
theorem d_Mo_parameter_46 : decode b_Mo_parameter 46 = .ok (.aload_n 0, 1) := by decide +kernel
theorem d_Mo_parameter_47 : decode b_Mo_parameter 47 = .ok (.getfield 16, 3) := by decide +kernel
theorem d_Mo_parameter_50 : decode b_Mo_parameter 50 = .ok (.aload_n 0, 1) := by decide +kernel
theorem d_Mo_parameter_51 : decode b_Mo_parameter 51 = .ok (.getfield 53, 3) := by decide +kernel
theorem d_Mo_parameter_54 : decode b_Mo_parameter 54 = .ok (.iload_n 2, 1) := by decide +kernel
theorem d_Mo_parameter_55 : decode b_Mo_parameter 55 = .ok (.iastore, 1) := by decide +kernel
theorem d_Mo_parameter_56 : decode b_Mo_parameter 56 = .ok (.aload_n 0, 1) := by decide +kernel
theorem d_Mo_parameter_57 : decode b_Mo_parameter 57 = .ok (.getfield 19, 3) := by decide +kernel
theorem d_Mo_parameter_60 : decode b_Mo_parameter 60 = .ok (.aload_n 0, 1) := by decide +kernel
theorem d_Mo_parameter_61 : decode b_Mo_parameter 61 = .ok (.getfield 53, 3) := by decide +kernel
theorem d_Mo_parameter_64 : decode b_Mo_parameter 64 = .ok (.iconst 0, 1) := by decide +kernel
theorem d_Mo_parameter_65 : decode b_Mo_parameter 65 = .ok (.iastore, 1) := by decide +kernel
theorem d_Mo_parameter_66 : decode b_Mo_parameter 66 = .ok (.aload_n 0, 1) := by decide +kernel
theorem d_Mo_parameter_67 : decode b_Mo_parameter 67 = .ok (.dup, 1) := by decide +kernel
theorem d_Mo_parameter_68 : decode b_Mo_parameter 68 = .ok (.getfield 53, 3) := by decide +kernel
theorem d_Mo_parameter_71 : decode b_Mo_parameter 71 = .ok (.iconst 1, 1) := by decide +kernel
theorem d_Mo_parameter_72 : decode b_Mo_parameter 72 = .ok (.iadd, 1) := by decide +kernel
theorem d_Mo_parameter_73 : decode b_Mo_parameter 73 = .ok (.putfield 53, 3) := by decide +kernel
theorem d_Mo_parameter_76 : decode b_Mo_parameter 76 = .ok (.aload_n 0, 1) := by decide +kernel
theorem d_Mo_parameter_77 : decode b_Mo_parameter 77 = .ok (.getfield 53, 3) := by decide +kernel
theorem d_Mo_parameter_80 : decode b_Mo_parameter 80 = .ok (.iconst 1, 1) := by decide +kernel
theorem d_Mo_parameter_81 : decode b_Mo_parameter 81 = .ok (.isub, 1) := by decide +kernel
theorem d_Mo_parameter_82 : decode b_Mo_parameter 82 = .ok (.ireturn, 1) := by decide +kernel
def f_Mo_parameter (a1 : Int32) (a2 : Int32) (S : zSt) : Option (Int32 × zSt) := (if a1 < 0 then (some ((-11), S)) else (if 5 < a1 then (some ((-11), S)) else (if a2 < 97 then (some ((-11), S)) else (if a2 ≤ 122 then (if (S 66 3) = 6 then (some ((-12), S)) else gdi (S 66 3) 6 (sq (su S 68 (S 66 3).toNatClampNeg a1) fun S1 => gdi (S1 66 3) 6 (sq (su S1 69 (S1 66 3).toNatClampNeg a2) fun S2 => gdi (S2 66 3) 6 (sq (su S2 70 (S2 66 3).toNatClampNeg 0) fun S3 => sq (su S3 66 3 ((S3 66 3) + 1)) fun S4 => (some (((S4 66 3) - 1), S4)))))) else (some ((-11), S))))))
set_option maxHeartbeats 4000000 in
set_option maxRecDepth 100000 in
theorem c_Mo_parameter (l : Launch) (g : zG) (hD : GD g) (a1 : Int32) (a2 : Int32) (S : zSt) (u : (Int32 × zSt)) (h : f_Mo_parameter a1 a2 S = some u) : Met l y_Mo_parameter (mw y_Mo_parameter b_Mo_parameter 3 (some .int)) (rmD 0) (Pw g [.ref (ga g 66), .int a1, .int a2] S) (Qis g u) 0 0 (gA g) := by
  refine z_go (own := R_Mo) (lv0 := [(0, .ref (ga g 66)), (1, .int a1), (2, .int a2)]) hD (by decide) rfl (Nat.le_of_ble_eq_true rfl) rfl ?_
  intro p e s m args below meth c C D ls hl
  have hx := C.1
  have hb := C.2.1
  have hown := C.2.2.2.1
  have hts := C.2.2.2.2.1
  unfold f_Mo_parameter at h
  refine lv_iload_n hx hb d_Mo_parameter_0 rfl (lv_at hl 1 rfl) ?_
  refine lv_if_lt hx hb d_Mo_parameter_1 rfl (fun z => ?_) (fun z => ?_)
  · replace h := if_t z h
    refine lv_bipush (v := (-11)) hx hb d_Mo_parameter_21 (by decide) ?_
    exact x_irs C D h d_Mo_parameter_23
  · replace h := if_f z h
    refine lv_iload_n hx hb d_Mo_parameter_4 rfl (lv_at hl 1 rfl) ?_
    refine lv_iconst (v := 5) hx hb d_Mo_parameter_5 (by decide) ?_
    refine lv_icmp_gt hx hb d_Mo_parameter_6 rfl (fun z => ?_) (fun z => ?_)
    · replace h := if_t z h
      refine lv_bipush (v := (-11)) hx hb d_Mo_parameter_21 (by decide) ?_
      exact x_irs C D h d_Mo_parameter_23
    · replace h := if_f z h
      refine lv_iload_n hx hb d_Mo_parameter_9 rfl (lv_at hl 2 rfl) ?_
      refine lv_bipush (v := 97) hx hb d_Mo_parameter_10 (by decide) ?_
      refine lv_icmp_lt hx hb d_Mo_parameter_12 rfl (fun z => ?_) (fun z => ?_)
      · replace h := if_t z h
        refine lv_bipush (v := (-11)) hx hb d_Mo_parameter_21 (by decide) ?_
        exact x_irs C D h d_Mo_parameter_23
      · replace h := if_f z h
        refine lv_iload_n hx hb d_Mo_parameter_15 rfl (lv_at hl 2 rfl) ?_
        refine lv_bipush (v := 122) hx hb d_Mo_parameter_16 (by decide) ?_
        refine lv_icmp_le hx hb d_Mo_parameter_18 rfl (fun z => ?_) (fun z => ?_)
        · replace h := if_t z h
          refine lv_aload_n hx hb d_Mo_parameter_24 rfl (lv_at hl 0 rfl) ?_
          refine x_get (v := .int (S 66 3)) C D kc_Mo (by decide) sh_66 3 rfl (by decide) wf_Mo_53 rfl rfl d_Mo_parameter_25 ?_
          refine lv_bipush (v := 6) hx hb d_Mo_parameter_28 (by decide) ?_
          refine lv_icmp_ne hx hb d_Mo_parameter_30 rfl (fun z => ?_) (fun z => ?_)
          · replace h := if_f z h
            refine lv_aload_n hx hb d_Mo_parameter_36 rfl (lv_at hl 0 rfl) ?_
            refine x_get (v := .ref (ga g 68)) C D kc_Mo (by decide) sh_66 4 rfl (by decide) wf_Mo_13 rfl rfl d_Mo_parameter_37 ?_
            refine lv_aload_n hx hb d_Mo_parameter_40 rfl (lv_at hl 0 rfl) ?_
            refine x_get (v := .int (S 66 3)) C D kc_Mo (by decide) sh_66 3 rfl (by decide) wf_Mo_53 rfl rfl d_Mo_parameter_41 ?_
            refine lv_iload_n hx hb d_Mo_parameter_44 rfl (lv_at hl 1 rfl) ?_
            refine x_iast C D (by decide) sh_68 d_Mo_parameter_45 h (fun S1 H locs h D => ?_)
            refine lv_aload_n hx hb d_Mo_parameter_46 rfl (lv_at hl 0 rfl) ?_
            refine x_get (v := .ref (ga g 69)) C D kc_Mo (by decide) sh_66 5 rfl (by decide) wf_Mo_16 rfl rfl d_Mo_parameter_47 ?_
            refine lv_aload_n hx hb d_Mo_parameter_50 rfl (lv_at hl 0 rfl) ?_
            refine x_get (v := .int (S1 66 3)) C D kc_Mo (by decide) sh_66 3 rfl (by decide) wf_Mo_53 rfl rfl d_Mo_parameter_51 ?_
            refine lv_iload_n hx hb d_Mo_parameter_54 rfl (lv_at hl 2 rfl) ?_
            refine x_iast C D (by decide) sh_69 d_Mo_parameter_55 h (fun S2 H locs h D => ?_)
            refine lv_aload_n hx hb d_Mo_parameter_56 rfl (lv_at hl 0 rfl) ?_
            refine x_get (v := .ref (ga g 70)) C D kc_Mo (by decide) sh_66 6 rfl (by decide) wf_Mo_19 rfl rfl d_Mo_parameter_57 ?_
            refine lv_aload_n hx hb d_Mo_parameter_60 rfl (lv_at hl 0 rfl) ?_
            refine x_get (v := .int (S2 66 3)) C D kc_Mo (by decide) sh_66 3 rfl (by decide) wf_Mo_53 rfl rfl d_Mo_parameter_61 ?_
            refine lv_iconst (v := 0) hx hb d_Mo_parameter_64 (by decide) ?_
            refine x_iast C D (by decide) sh_70 d_Mo_parameter_65 h (fun S3 H locs h D => ?_)
            refine lv_aload_n hx hb d_Mo_parameter_66 rfl (lv_at hl 0 rfl) ?_
            refine lv_dup hx hb d_Mo_parameter_67 rfl ?_
            refine x_get (v := .int (S3 66 3)) C D kc_Mo (by decide) sh_66 3 rfl (by decide) wf_Mo_53 rfl rfl d_Mo_parameter_68 ?_
            refine lv_iconst (v := 1) hx hb d_Mo_parameter_71 (by decide) ?_
            refine lv_iadd hx hb d_Mo_parameter_72 ?_
            refine x_put C D kc_Mo (by decide) sh_66 3 rfl (by decide) wf_Mo_53 rfl rfl ((S3 66 3) + 1) rfl ⟨rfl, rfl⟩ d_Mo_parameter_73 h (fun S4 H locs h D => ?_)
            refine lv_aload_n hx hb d_Mo_parameter_76 rfl (lv_at hl 0 rfl) ?_
            refine x_get (v := .int (S4 66 3)) C D kc_Mo (by decide) sh_66 3 rfl (by decide) wf_Mo_53 rfl rfl d_Mo_parameter_77 ?_
            refine lv_iconst (v := 1) hx hb d_Mo_parameter_80 (by decide) ?_
            refine lv_isub hx hb d_Mo_parameter_81 ?_
            exact x_irs C D h d_Mo_parameter_82
          · replace h := if_t z h
            refine lv_bipush (v := (-12)) hx hb d_Mo_parameter_33 (by decide) ?_
            exact x_irs C D h d_Mo_parameter_35
        · replace h := if_f z h
          refine lv_bipush (v := (-11)) hx hb d_Mo_parameter_21 (by decide) ?_
          exact x_irs C D h d_Mo_parameter_23
theorem d_Mo_isParameter_0 : decode b_Mo_isParameter 0 = .ok (.iload_n 1, 1) := by decide +kernel
theorem d_Mo_isParameter_1 : decode b_Mo_isParameter 1 = .ok (.ifCond .lt 15, 3) := by decide +kernel
theorem d_Mo_isParameter_4 : decode b_Mo_isParameter 4 = .ok (.iload_n 1, 1) := by decide +kernel
theorem d_Mo_isParameter_5 : decode b_Mo_isParameter 5 = .ok (.aload_n 0, 1) := by decide +kernel
theorem d_Mo_isParameter_6 : decode b_Mo_isParameter 6 = .ok (.getfield 53, 3) := by decide +kernel
theorem d_Mo_isParameter_9 : decode b_Mo_isParameter 9 = .ok (.if_icmp .ge 7, 3) := by decide +kernel
theorem d_Mo_isParameter_12 : decode b_Mo_isParameter 12 = .ok (.iconst 1, 1) := by decide +kernel
theorem d_Mo_isParameter_13 : decode b_Mo_isParameter 13 = .ok (.goto 4, 3) := by decide +kernel
theorem d_Mo_isParameter_16 : decode b_Mo_isParameter 16 = .ok (.iconst 0, 1) := by decide +kernel
theorem d_Mo_isParameter_17 : decode b_Mo_isParameter 17 = .ok (.ireturn, 1) := by decide +kernel
def f_Mo_isParameter_16 (S : zSt) : Option Int32 := (gdb 0 (some 0))
def f_Mo_isParameter (a1 : Int32) (S : zSt) : Option Int32 := (if a1 < 0 then (f_Mo_isParameter_16 S) else (if (S 66 3) ≤ a1 then (f_Mo_isParameter_16 S) else (gdb 1 (some 1))))
set_option maxHeartbeats 4000000 in
set_option maxRecDepth 100000 in
theorem c_Mo_isParameter (l : Launch) (g : zG) (hD : GD g) (a1 : Int32) (S : zSt) (u : Int32) (h : f_Mo_isParameter a1 S = some u) : Met l y_Mo_isParameter (mw y_Mo_isParameter b_Mo_isParameter 2 (some .boolean)) (rmD 0) (Pw g [.ref (ga g 66), .int a1] S) (Qip g S u) 0 0 (gA g) := by
  refine z_go (own := R_Mo) (lv0 := [(0, .ref (ga g 66)), (1, .int a1)]) hD (by decide) rfl (Nat.le_of_ble_eq_true rfl) rfl ?_
  intro p e s m args below meth c C D ls hl
  have hx := C.1
  have hb := C.2.1
  have hown := C.2.2.2.1
  have hts := C.2.2.2.2.1
  have B16 : ∀ (H : Heap) (locs : List Loc) (ls : Array Slot), f_Mo_isParameter_16 S = some u → Dy g s S H locs → lv_has ls 2 [] → W p l e (rmD 0) s m args below meth c H locs 0 0 (MQ below (Qip g S u) args s 0 0 (gA g)) (F0 m 16 ls []) := by
    intro H locs ls h D hl
    unfold f_Mo_isParameter_16 at h
    refine lv_iconst (v := 0) hx hb d_Mo_isParameter_16 (by decide) ?_
    exact x_zrp C D h d_Mo_isParameter_17
  unfold f_Mo_isParameter at h
  refine lv_iload_n hx hb d_Mo_isParameter_0 rfl (lv_at hl 1 rfl) ?_
  refine lv_if_lt hx hb d_Mo_isParameter_1 rfl (fun z => ?_) (fun z => ?_)
  · replace h := if_t z h
    exact B16 _ _ _ h D (lv_sub hl [] rfl)
  · replace h := if_f z h
    refine lv_iload_n hx hb d_Mo_isParameter_4 rfl (lv_at hl 1 rfl) ?_
    refine lv_aload_n hx hb d_Mo_isParameter_5 rfl (lv_at hl 0 rfl) ?_
    refine x_get (v := .int (S 66 3)) C D kc_Mo (by decide) sh_66 3 rfl (by decide) wf_Mo_53 rfl rfl d_Mo_isParameter_6 ?_
    refine lv_icmp_ge hx hb d_Mo_isParameter_9 rfl (fun z => ?_) (fun z => ?_)
    · replace h := if_t z h
      exact B16 _ _ _ h D (lv_sub hl [] rfl)
    · replace h := if_f z h
      refine lv_iconst (v := 1) hx hb d_Mo_isParameter_12 (by decide) ?_
      refine lv_goto hx hb d_Mo_isParameter_13 rfl ?_
      exact x_zrp C D h d_Mo_isParameter_17
theorem d_Mo_character_0 : decode b_Mo_character 0 = .ok (.iload_n 1, 1) := by decide +kernel
theorem d_Mo_character_1 : decode b_Mo_character 1 = .ok (.ifCond .lt 20, 3) := by decide +kernel
theorem d_Mo_character_4 : decode b_Mo_character 4 = .ok (.iload_n 1, 1) := by decide +kernel
theorem d_Mo_character_5 : decode b_Mo_character 5 = .ok (.aload_n 0, 1) := by decide +kernel
theorem d_Mo_character_6 : decode b_Mo_character 6 = .ok (.getfield 50, 3) := by decide +kernel
theorem d_Mo_character_9 : decode b_Mo_character 9 = .ok (.if_icmp .ge 12, 3) := by decide +kernel
theorem d_Mo_character_12 : decode b_Mo_character 12 = .ok (.aload_n 0, 1) := by decide +kernel
theorem d_Mo_character_13 : decode b_Mo_character 13 = .ok (.getfield 7, 3) := by decide +kernel
theorem d_Mo_character_16 : decode b_Mo_character 16 = .ok (.iload_n 1, 1) := by decide +kernel
theorem d_Mo_character_17 : decode b_Mo_character 17 = .ok (.iaload, 1) := by decide +kernel
theorem d_Mo_character_18 : decode b_Mo_character 18 = .ok (.goto 4, 3) := by decide +kernel
theorem d_Mo_character_21 : decode b_Mo_character 21 = .ok (.iconst 0, 1) := by decide +kernel
theorem d_Mo_character_22 : decode b_Mo_character 22 = .ok (.ireturn, 1) := by decide +kernel
def f_Mo_character_21 (S : zSt) : Option Int32 := (some 0)
def f_Mo_character (a1 : Int32) (S : zSt) : Option Int32 := (if a1 < 0 then (f_Mo_character_21 S) else (if (S 66 1) ≤ a1 then (f_Mo_character_21 S) else gdi a1 40 ((some (S 67 a1.toNatClampNeg)))))
set_option maxHeartbeats 4000000 in
set_option maxRecDepth 100000 in
theorem c_Mo_character (l : Launch) (g : zG) (hD : GD g) (a1 : Int32) (S : zSt) (u : Int32) (h : f_Mo_character a1 S = some u) : Met l y_Mo_character (mw y_Mo_character b_Mo_character 2 (some .int)) (rmD 0) (Pw g [.ref (ga g 66), .int a1] S) (Qip g S u) 0 0 (gA g) := by
  refine z_go (own := R_Mo) (lv0 := [(0, .ref (ga g 66)), (1, .int a1)]) hD (by decide) rfl (Nat.le_of_ble_eq_true rfl) rfl ?_
  intro p e s m args below meth c C D ls hl
  have hx := C.1
  have hb := C.2.1
  have hown := C.2.2.2.1
  have hts := C.2.2.2.2.1
  have B21 : ∀ (H : Heap) (locs : List Loc) (ls : Array Slot), f_Mo_character_21 S = some u → Dy g s S H locs → lv_has ls 2 [] → W p l e (rmD 0) s m args below meth c H locs 0 0 (MQ below (Qip g S u) args s 0 0 (gA g)) (F0 m 21 ls []) := by
    intro H locs ls h D hl
    unfold f_Mo_character_21 at h
    refine lv_iconst (v := 0) hx hb d_Mo_character_21 (by decide) ?_
    exact x_irp C D h d_Mo_character_22
  unfold f_Mo_character at h
  refine lv_iload_n hx hb d_Mo_character_0 rfl (lv_at hl 1 rfl) ?_
  refine lv_if_lt hx hb d_Mo_character_1 rfl (fun z => ?_) (fun z => ?_)
  · replace h := if_t z h
    exact B21 _ _ _ h D (lv_sub hl [] rfl)
  · replace h := if_f z h
    refine lv_iload_n hx hb d_Mo_character_4 rfl (lv_at hl 1 rfl) ?_
    refine lv_aload_n hx hb d_Mo_character_5 rfl (lv_at hl 0 rfl) ?_
    refine x_get (v := .int (S 66 1)) C D kc_Mo (by decide) sh_66 1 rfl (by decide) wf_Mo_50 rfl rfl d_Mo_character_6 ?_
    refine lv_icmp_ge hx hb d_Mo_character_9 rfl (fun z => ?_) (fun z => ?_)
    · replace h := if_t z h
      exact B21 _ _ _ h D (lv_sub hl [] rfl)
    · replace h := if_f z h
      refine lv_aload_n hx hb d_Mo_character_12 rfl (lv_at hl 0 rfl) ?_
      refine x_get (v := .ref (ga g 67)) C D kc_Mo (by decide) sh_66 2 rfl (by decide) wf_Mo_7 rfl rfl d_Mo_character_13 ?_
      refine lv_iload_n hx hb d_Mo_character_16 rfl (lv_at hl 1 rfl) ?_
      refine x_iald C D (by decide) sh_67 d_Mo_character_17 h (fun _ h => ?_)
      refine lv_goto hx hb d_Mo_character_18 rfl ?_
      exact x_irp C D h d_Mo_character_22
theorem d_Mo_small_0 : decode b_Mo_small 0 = .ok (.iload_n 0, 1) := by decide +kernel
theorem d_Mo_small_1 : decode b_Mo_small 1 = .ok (.bipush 97, 2) := by decide +kernel
theorem d_Mo_small_3 : decode b_Mo_small 3 = .ok (.if_icmp .lt 13, 3) := by decide +kernel
theorem d_Mo_small_6 : decode b_Mo_small 6 = .ok (.iload_n 0, 1) := by decide +kernel
theorem d_Mo_small_7 : decode b_Mo_small 7 = .ok (.bipush 122, 2) := by decide +kernel
theorem d_Mo_small_9 : decode b_Mo_small 9 = .ok (.if_icmp .gt 7, 3) := by decide +kernel
theorem d_Mo_small_12 : decode b_Mo_small 12 = .ok (.iconst 1, 1) := by decide +kernel
theorem d_Mo_small_13 : decode b_Mo_small 13 = .ok (.goto 4, 3) := by decide +kernel
theorem d_Mo_small_16 : decode b_Mo_small 16 = .ok (.iconst 0, 1) := by decide +kernel
theorem d_Mo_small_17 : decode b_Mo_small 17 = .ok (.ireturn, 1) := by decide +kernel
def f_Mo_small_16 (S : zSt) : Option Int32 := (gdb 0 (some 0))
def f_Mo_small (a0 : Int32) (S : zSt) : Option Int32 := (if a0 < 97 then (f_Mo_small_16 S) else (if 122 < a0 then (f_Mo_small_16 S) else (gdb 1 (some 1))))
set_option maxHeartbeats 4000000 in
set_option maxRecDepth 100000 in
theorem c_Mo_small (l : Launch) (g : zG) (hD : GD g) (a0 : Int32) (S : zSt) (u : Int32) (h : f_Mo_small a0 S = some u) : Met l y_Mo_small (mw y_Mo_small b_Mo_small 1 (some .boolean)) (rmD 0) (Pw g [.int a0] S) (Qip g S u) 0 0 (gA g) := by
  refine z_go (own := R_Mo) (lv0 := [(0, .int a0)]) hD (by decide) rfl (Nat.le_of_ble_eq_true rfl) rfl ?_
  intro p e s m args below meth c C D ls hl
  have hx := C.1
  have hb := C.2.1
  have hown := C.2.2.2.1
  have hts := C.2.2.2.2.1
  have B16 : ∀ (H : Heap) (locs : List Loc) (ls : Array Slot), f_Mo_small_16 S = some u → Dy g s S H locs → lv_has ls 1 [] → W p l e (rmD 0) s m args below meth c H locs 0 0 (MQ below (Qip g S u) args s 0 0 (gA g)) (F0 m 16 ls []) := by
    intro H locs ls h D hl
    unfold f_Mo_small_16 at h
    refine lv_iconst (v := 0) hx hb d_Mo_small_16 (by decide) ?_
    exact x_zrp C D h d_Mo_small_17
  unfold f_Mo_small at h
  refine lv_iload_n hx hb d_Mo_small_0 rfl (lv_at hl 0 rfl) ?_
  refine lv_bipush (v := 97) hx hb d_Mo_small_1 (by decide) ?_
  refine lv_icmp_lt hx hb d_Mo_small_3 rfl (fun z => ?_) (fun z => ?_)
  · replace h := if_t z h
    exact B16 _ _ _ h D (lv_sub hl [] rfl)
  · replace h := if_f z h
    refine lv_iload_n hx hb d_Mo_small_6 rfl (lv_at hl 0 rfl) ?_
    refine lv_bipush (v := 122) hx hb d_Mo_small_7 (by decide) ?_
    refine lv_icmp_gt hx hb d_Mo_small_9 rfl (fun z => ?_) (fun z => ?_)
    · replace h := if_t z h
      exact B16 _ _ _ h D (lv_sub hl [] rfl)
    · replace h := if_f z h
      refine lv_iconst (v := 1) hx hb d_Mo_small_12 (by decide) ?_
      refine lv_goto hx hb d_Mo_small_13 rfl ?_
      exact x_zrp C D h d_Mo_small_17
theorem d_Mo_digit_0 : decode b_Mo_digit 0 = .ok (.iload_n 0, 1) := by decide +kernel
theorem d_Mo_digit_1 : decode b_Mo_digit 1 = .ok (.bipush 48, 2) := by decide +kernel
theorem d_Mo_digit_3 : decode b_Mo_digit 3 = .ok (.if_icmp .lt 13, 3) := by decide +kernel
theorem d_Mo_digit_6 : decode b_Mo_digit 6 = .ok (.iload_n 0, 1) := by decide +kernel
theorem d_Mo_digit_7 : decode b_Mo_digit 7 = .ok (.bipush 57, 2) := by decide +kernel
theorem d_Mo_digit_9 : decode b_Mo_digit 9 = .ok (.if_icmp .gt 7, 3) := by decide +kernel
theorem d_Mo_digit_12 : decode b_Mo_digit 12 = .ok (.iconst 1, 1) := by decide +kernel
theorem d_Mo_digit_13 : decode b_Mo_digit 13 = .ok (.goto 4, 3) := by decide +kernel
theorem d_Mo_digit_16 : decode b_Mo_digit 16 = .ok (.iconst 0, 1) := by decide +kernel
theorem d_Mo_digit_17 : decode b_Mo_digit 17 = .ok (.ireturn, 1) := by decide +kernel
def f_Mo_digit_16 (S : zSt) : Option Int32 := (gdb 0 (some 0))
def f_Mo_digit (a0 : Int32) (S : zSt) : Option Int32 := (if a0 < 48 then (f_Mo_digit_16 S) else (if 57 < a0 then (f_Mo_digit_16 S) else (gdb 1 (some 1))))
set_option maxHeartbeats 4000000 in
set_option maxRecDepth 100000 in
theorem c_Mo_digit (l : Launch) (g : zG) (hD : GD g) (a0 : Int32) (S : zSt) (u : Int32) (h : f_Mo_digit a0 S = some u) : Met l y_Mo_digit (mw y_Mo_digit b_Mo_digit 1 (some .boolean)) (rmD 0) (Pw g [.int a0] S) (Qip g S u) 0 0 (gA g) := by
  refine z_go (own := R_Mo) (lv0 := [(0, .int a0)]) hD (by decide) rfl (Nat.le_of_ble_eq_true rfl) rfl ?_
  intro p e s m args below meth c C D ls hl
  have hx := C.1
  have hb := C.2.1
  have hown := C.2.2.2.1
  have hts := C.2.2.2.2.1
  have B16 : ∀ (H : Heap) (locs : List Loc) (ls : Array Slot), f_Mo_digit_16 S = some u → Dy g s S H locs → lv_has ls 1 [] → W p l e (rmD 0) s m args below meth c H locs 0 0 (MQ below (Qip g S u) args s 0 0 (gA g)) (F0 m 16 ls []) := by
    intro H locs ls h D hl
    unfold f_Mo_digit_16 at h
    refine lv_iconst (v := 0) hx hb d_Mo_digit_16 (by decide) ?_
    exact x_zrp C D h d_Mo_digit_17
  unfold f_Mo_digit at h
  refine lv_iload_n hx hb d_Mo_digit_0 rfl (lv_at hl 0 rfl) ?_
  refine lv_bipush (v := 48) hx hb d_Mo_digit_1 (by decide) ?_
  refine lv_icmp_lt hx hb d_Mo_digit_3 rfl (fun z => ?_) (fun z => ?_)
  · replace h := if_t z h
    exact B16 _ _ _ h D (lv_sub hl [] rfl)
  · replace h := if_f z h
    refine lv_iload_n hx hb d_Mo_digit_6 rfl (lv_at hl 0 rfl) ?_
    refine lv_bipush (v := 57) hx hb d_Mo_digit_7 (by decide) ?_
    refine lv_icmp_gt hx hb d_Mo_digit_9 rfl (fun z => ?_) (fun z => ?_)
    · replace h := if_t z h
      exact B16 _ _ _ h D (lv_sub hl [] rfl)
    · replace h := if_f z h
      refine lv_iconst (v := 1) hx hb d_Mo_digit_12 (by decide) ?_
      refine lv_goto hx hb d_Mo_digit_13 rfl ?_
      exact x_zrp C D h d_Mo_digit_17
theorem d_Mo_operator_0 : decode b_Mo_operator 0 = .ok (.iload_n 0, 1) := by decide +kernel
theorem d_Mo_operator_1 : decode b_Mo_operator 1 = .ok (.bipush 43, 2) := by decide +kernel
theorem d_Mo_operator_3 : decode b_Mo_operator 3 = .ok (.if_icmp .eq 33, 3) := by decide +kernel
theorem d_Mo_operator_6 : decode b_Mo_operator 6 = .ok (.iload_n 0, 1) := by decide +kernel
theorem d_Mo_operator_7 : decode b_Mo_operator 7 = .ok (.bipush 46, 2) := by decide +kernel
theorem d_Mo_operator_9 : decode b_Mo_operator 9 = .ok (.if_icmp .eq 27, 3) := by decide +kernel
theorem d_Mo_operator_12 : decode b_Mo_operator 12 = .ok (.iload_n 0, 1) := by decide +kernel
theorem d_Mo_operator_13 : decode b_Mo_operator 13 = .ok (.bipush 47, 2) := by decide +kernel
theorem d_Mo_operator_15 : decode b_Mo_operator 15 = .ok (.if_icmp .eq 21, 3) := by decide +kernel
theorem d_Mo_operator_18 : decode b_Mo_operator 18 = .ok (.iload_n 0, 1) := by decide +kernel
theorem d_Mo_operator_19 : decode b_Mo_operator 19 = .ok (.bipush 59, 2) := by decide +kernel
theorem d_Mo_operator_21 : decode b_Mo_operator 21 = .ok (.if_icmp .eq 15, 3) := by decide +kernel
theorem d_Mo_operator_24 : decode b_Mo_operator 24 = .ok (.iload_n 0, 1) := by decide +kernel
theorem d_Mo_operator_25 : decode b_Mo_operator 25 = .ok (.bipush 63, 2) := by decide +kernel
theorem d_Mo_operator_27 : decode b_Mo_operator 27 = .ok (.if_icmp .eq 9, 3) := by decide +kernel
theorem d_Mo_operator_30 : decode b_Mo_operator 30 = .ok (.iload_n 0, 1) := by decide +kernel
theorem d_Mo_operator_31 : decode b_Mo_operator 31 = .ok (.bipush 38, 2) := by decide +kernel
theorem d_Mo_operator_33 : decode b_Mo_operator 33 = .ok (.if_icmp .ne 7, 3) := by decide +kernel
theorem d_Mo_operator_36 : decode b_Mo_operator 36 = .ok (.iconst 1, 1) := by decide +kernel
theorem d_Mo_operator_37 : decode b_Mo_operator 37 = .ok (.goto 4, 3) := by decide +kernel
theorem d_Mo_operator_40 : decode b_Mo_operator 40 = .ok (.iconst 0, 1) := by decide +kernel
theorem d_Mo_operator_41 : decode b_Mo_operator 41 = .ok (.ireturn, 1) := by decide +kernel
def f_Mo_operator_36 (S : zSt) : Option Int32 := (gdb 1 (some 1))
def f_Mo_operator (a0 : Int32) (S : zSt) : Option Int32 := (if a0 = 43 then (f_Mo_operator_36 S) else (if a0 = 46 then (f_Mo_operator_36 S) else (if a0 = 47 then (f_Mo_operator_36 S) else (if a0 = 59 then (f_Mo_operator_36 S) else (if a0 = 63 then (f_Mo_operator_36 S) else (if a0 = 38 then (f_Mo_operator_36 S) else (gdb 0 (some 0))))))))
set_option maxHeartbeats 4000000 in
set_option maxRecDepth 100000 in
theorem c_Mo_operator (l : Launch) (g : zG) (hD : GD g) (a0 : Int32) (S : zSt) (u : Int32) (h : f_Mo_operator a0 S = some u) : Met l y_Mo_operator (mw y_Mo_operator b_Mo_operator 1 (some .boolean)) (rmD 0) (Pw g [.int a0] S) (Qip g S u) 0 0 (gA g) := by
  refine z_go (own := R_Mo) (lv0 := [(0, .int a0)]) hD (by decide) rfl (Nat.le_of_ble_eq_true rfl) rfl ?_
  intro p e s m args below meth c C D ls hl
  have hx := C.1
  have hb := C.2.1
  have hown := C.2.2.2.1
  have hts := C.2.2.2.2.1
  have B36 : ∀ (H : Heap) (locs : List Loc) (ls : Array Slot), f_Mo_operator_36 S = some u → Dy g s S H locs → lv_has ls 1 [] → W p l e (rmD 0) s m args below meth c H locs 0 0 (MQ below (Qip g S u) args s 0 0 (gA g)) (F0 m 36 ls []) := by
    intro H locs ls h D hl
    unfold f_Mo_operator_36 at h
    refine lv_iconst (v := 1) hx hb d_Mo_operator_36 (by decide) ?_
    refine lv_goto hx hb d_Mo_operator_37 rfl ?_
    exact x_zrp C D h d_Mo_operator_41
  unfold f_Mo_operator at h
  refine lv_iload_n hx hb d_Mo_operator_0 rfl (lv_at hl 0 rfl) ?_
  refine lv_bipush (v := 43) hx hb d_Mo_operator_1 (by decide) ?_
  refine lv_icmp_eq hx hb d_Mo_operator_3 rfl (fun z => ?_) (fun z => ?_)
  · replace h := if_t z h
    exact B36 _ _ _ h D (lv_sub hl [] rfl)
  · replace h := if_f z h
    refine lv_iload_n hx hb d_Mo_operator_6 rfl (lv_at hl 0 rfl) ?_
    refine lv_bipush (v := 46) hx hb d_Mo_operator_7 (by decide) ?_
    refine lv_icmp_eq hx hb d_Mo_operator_9 rfl (fun z => ?_) (fun z => ?_)
    · replace h := if_t z h
      exact B36 _ _ _ h D (lv_sub hl [] rfl)
    · replace h := if_f z h
      refine lv_iload_n hx hb d_Mo_operator_12 rfl (lv_at hl 0 rfl) ?_
      refine lv_bipush (v := 47) hx hb d_Mo_operator_13 (by decide) ?_
      refine lv_icmp_eq hx hb d_Mo_operator_15 rfl (fun z => ?_) (fun z => ?_)
      · replace h := if_t z h
        exact B36 _ _ _ h D (lv_sub hl [] rfl)
      · replace h := if_f z h
        refine lv_iload_n hx hb d_Mo_operator_18 rfl (lv_at hl 0 rfl) ?_
        refine lv_bipush (v := 59) hx hb d_Mo_operator_19 (by decide) ?_
        refine lv_icmp_eq hx hb d_Mo_operator_21 rfl (fun z => ?_) (fun z => ?_)
        · replace h := if_t z h
          exact B36 _ _ _ h D (lv_sub hl [] rfl)
        · replace h := if_f z h
          refine lv_iload_n hx hb d_Mo_operator_24 rfl (lv_at hl 0 rfl) ?_
          refine lv_bipush (v := 63) hx hb d_Mo_operator_25 (by decide) ?_
          refine lv_icmp_eq hx hb d_Mo_operator_27 rfl (fun z => ?_) (fun z => ?_)
          · replace h := if_t z h
            exact B36 _ _ _ h D (lv_sub hl [] rfl)
          · replace h := if_f z h
            refine lv_iload_n hx hb d_Mo_operator_30 rfl (lv_at hl 0 rfl) ?_
            refine lv_bipush (v := 38) hx hb d_Mo_operator_31 (by decide) ?_
            refine lv_icmp_ne hx hb d_Mo_operator_33 rfl (fun z => ?_) (fun z => ?_)
            · replace h := if_f z h
              refine lv_iconst (v := 0) hx hb d_Mo_operator_40 (by decide) ?_
              exact x_zrp C D h d_Mo_operator_41
            · replace h := if_t z h
              exact B36 _ _ _ h D (lv_sub hl [] rfl)
theorem d_Mo_named_0 : decode b_Mo_named 0 = .ok (.iconst (-1), 1) := by decide +kernel
theorem d_Mo_named_1 : decode b_Mo_named 1 = .ok (.istore_n 2, 1) := by decide +kernel
theorem d_Mo_named_2 : decode b_Mo_named 2 = .ok (.aload_n 0, 1) := by decide +kernel
theorem d_Mo_named_3 : decode b_Mo_named 3 = .ok (.getfield 53, 3) := by decide +kernel
theorem d_Mo_named_6 : decode b_Mo_named 6 = .ok (.iconst 1, 1) := by decide +kernel
theorem d_Mo_named_7 : decode b_Mo_named 7 = .ok (.isub, 1) := by decide +kernel
theorem d_Mo_named_8 : decode b_Mo_named 8 = .ok (.istore_n 3, 1) := by decide +kernel
theorem d_Mo_named_9 : decode b_Mo_named 9 = .ok (.iload_n 3, 1) := by decide +kernel
theorem d_Mo_named_10 : decode b_Mo_named 10 = .ok (.ifCond .lt 35, 3) := by decide +kernel
theorem d_Mo_named_13 : decode b_Mo_named 13 = .ok (.aload_n 0, 1) := by decide +kernel
theorem d_Mo_named_14 : decode b_Mo_named 14 = .ok (.getfield 13, 3) := by decide +kernel
theorem d_Mo_named_17 : decode b_Mo_named 17 = .ok (.iload_n 3, 1) := by decide +kernel
theorem d_Mo_named_18 : decode b_Mo_named 18 = .ok (.iaload, 1) := by decide +kernel
theorem d_Mo_named_19 : decode b_Mo_named 19 = .ok (.iconst 1, 1) := by decide +kernel
theorem d_Mo_named_20 : decode b_Mo_named 20 = .ok (.if_icmp .gt 17, 3) := by decide +kernel
theorem d_Mo_named_23 : decode b_Mo_named 23 = .ok (.aload_n 0, 1) := by decide +kernel
theorem d_Mo_named_24 : decode b_Mo_named 24 = .ok (.getfield 16, 3) := by decide +kernel
theorem d_Mo_named_27 : decode b_Mo_named 27 = .ok (.iload_n 3, 1) := by decide +kernel
theorem d_Mo_named_28 : decode b_Mo_named 28 = .ok (.iaload, 1) := by decide +kernel
theorem d_Mo_named_29 : decode b_Mo_named 29 = .ok (.iload_n 1, 1) := by decide +kernel
theorem d_Mo_named_30 : decode b_Mo_named 30 = .ok (.if_icmp .ne 7, 3) := by decide +kernel
theorem d_Mo_named_33 : decode b_Mo_named 33 = .ok (.iload_n 3, 1) := by decide +kernel
theorem d_Mo_named_34 : decode b_Mo_named 34 = .ok (.goto 4, 3) := by decide +kernel
theorem d_Mo_named_37 : decode b_Mo_named 37 = .ok (.iload_n 2, 1) := by decide +kernel
theorem d_Mo_named_38 : decode b_Mo_named 38 = .ok (.istore_n 2, 1) := by decide +kernel
theorem d_Mo_named_39 : decode b_Mo_named 39 = .ok (.iinc 3 (-1), 3) := by decide +kernel
theorem d_Mo_named_42 : decode b_Mo_named 42 = .ok (.goto (-33), 3) := by decide +kernel
theorem d_Mo_named_45 : decode b_Mo_named 45 = .ok (.iload_n 2, 1) := by decide +kernel
theorem d_Mo_named_46 : decode b_Mo_named 46 = .ok (.ireturn, 1) := by decide +kernel
def f_Mo_named_38 (K9 : Int32 → Int32 → Int32 → zSt → Option Int32) (a1 : Int32) (a3 : Int32) (t0 : Int32) (S : zSt) : Option Int32 := (K9 a1 t0 (a3 + (-1)) S)
def f_Mo_named_37 (K9 : Int32 → Int32 → Int32 → zSt → Option Int32) (a1 : Int32) (a2 : Int32) (a3 : Int32) (S : zSt) : Option Int32 := (f_Mo_named_38 K9 a1 a3 a2 S)
def f_Mo_named_9 : Nat → Int32 → Int32 → Int32 → zSt → Option Int32
  | 0, _, _, _, _ => none
  | n + 1, a1, a2, a3, S => (if a3 < 0 then (some a2) else gdi a3 6 ((if 1 < (S 68 a3.toNatClampNeg) then (f_Mo_named_37 (f_Mo_named_9 n) a1 a2 a3 S) else gdi a3 6 ((if (S 69 a3.toNatClampNeg) = a1 then (f_Mo_named_38 (f_Mo_named_9 n) a1 a3 a3 S) else (f_Mo_named_37 (f_Mo_named_9 n) a1 a2 a3 S))))))
def f_Mo_named (a1 : Int32) (S : zSt) : Option Int32 := (f_Mo_named_9 fu a1 (-1) ((S 66 3) - 1) S)
set_option maxHeartbeats 4000000 in
set_option maxRecDepth 100000 in
theorem c_Mo_named (l : Launch) (g : zG) (hD : GD g) (a1 : Int32) (S : zSt) (u : Int32) (h : f_Mo_named a1 S = some u) : Met l y_Mo_named (mw y_Mo_named b_Mo_named 4 (some .int)) (rmD 0) (Pw g [.ref (ga g 66), .int a1] S) (Qip g S u) 0 0 (gA g) := by
  refine z_go (own := R_Mo) (lv0 := [(0, .ref (ga g 66)), (1, .int a1)]) hD (by decide) rfl (Nat.le_of_ble_eq_true rfl) rfl ?_
  intro p e s m args below meth c C D ls hl
  have hx := C.1
  have hb := C.2.1
  have hown := C.2.2.2.1
  have hts := C.2.2.2.2.1
  have B38 : ∀ (K9 : Int32 → Int32 → Int32 → zSt → Option Int32) (hK9 : ∀ (H : Heap) (locs : List Loc) (ls : Array Slot) (a1 : Int32) (a2 : Int32) (a3 : Int32), K9 a1 a2 a3 S = some u → Dy g s S H locs → lv_has ls 4 [(0, .ref (ga g 66)), (1, .int a1), (2, .int a2), (3, .int a3)] → W p l e (rmD 0) s m args below meth c H locs 0 0 (MQ below (Qip g S u) args s 0 0 (gA g)) (F0 m 9 ls [])) (H : Heap) (locs : List Loc) (ls : Array Slot) (a1 : Int32) (a3 : Int32) (t0 : Int32), f_Mo_named_38 K9 a1 a3 t0 S = some u → Dy g s S H locs → lv_has ls 4 [(0, .ref (ga g 66)), (1, .int a1), (3, .int a3)] → W p l e (rmD 0) s m args below meth c H locs 0 0 (MQ below (Qip g S u) args s 0 0 (gA g)) (F0 m 38 ls [.int t0]) := by
    intro K9 hK9 H locs ls a1 a3 t0 h D hl
    unfold f_Mo_named_38 at h
    refine lv_istore_n (lv' := [(2, .int t0), (0, .ref (ga g 66)), (1, .int a1), (3, .int a3)]) hx hb d_Mo_named_38 rfl hl (by decide) rfl (fun ls hl => ?_)
    refine lv_iinc (k := 3) (lv' := [(3, .int (a3 + (-1))), (2, .int t0), (0, .ref (ga g 66)), (1, .int a1)]) hx hb d_Mo_named_39 hl rfl (iim1 _) (by decide) rfl (fun ls hl => ?_)
    refine lv_goto hx hb d_Mo_named_42 rfl ?_
    exact hK9 _ _ _ _ _ _ h D (lv_sub hl [2, 3, 1, 0] rfl)
  have B37 : ∀ (K9 : Int32 → Int32 → Int32 → zSt → Option Int32) (hK9 : ∀ (H : Heap) (locs : List Loc) (ls : Array Slot) (a1 : Int32) (a2 : Int32) (a3 : Int32), K9 a1 a2 a3 S = some u → Dy g s S H locs → lv_has ls 4 [(0, .ref (ga g 66)), (1, .int a1), (2, .int a2), (3, .int a3)] → W p l e (rmD 0) s m args below meth c H locs 0 0 (MQ below (Qip g S u) args s 0 0 (gA g)) (F0 m 9 ls [])) (H : Heap) (locs : List Loc) (ls : Array Slot) (a1 : Int32) (a2 : Int32) (a3 : Int32), f_Mo_named_37 K9 a1 a2 a3 S = some u → Dy g s S H locs → lv_has ls 4 [(0, .ref (ga g 66)), (1, .int a1), (2, .int a2), (3, .int a3)] → W p l e (rmD 0) s m args below meth c H locs 0 0 (MQ below (Qip g S u) args s 0 0 (gA g)) (F0 m 37 ls []) := by
    intro K9 hK9 H locs ls a1 a2 a3 h D hl
    unfold f_Mo_named_37 at h
    refine lv_iload_n hx hb d_Mo_named_37 rfl (lv_at hl 2 rfl) ?_
    exact B38 _ hK9 _ _ _ _ _ _ h D (lv_sub hl [0, 1, 3] rfl)
  have L9 : ∀ (n : Nat) (H : Heap) (locs : List Loc) (ls : Array Slot) (a1 : Int32) (a2 : Int32) (a3 : Int32), f_Mo_named_9 n a1 a2 a3 S = some u → Dy g s S H locs → lv_has ls 4 [(0, .ref (ga g 66)), (1, .int a1), (2, .int a2), (3, .int a3)] → W p l e (rmD 0) s m args below meth c H locs 0 0 (MQ below (Qip g S u) args s 0 0 (gA g)) (F0 m 9 ls []) := by
    intro n
    induction n with
    | zero => intro H locs ls a1 a2 a3 h D hl; rw [f_Mo_named_9] at h; cases h
    | succ n hK9 =>
      intro H locs ls a1 a2 a3 h D hl
      rw [f_Mo_named_9] at h
      refine lv_iload_n hx hb d_Mo_named_9 rfl (lv_at hl 3 rfl) ?_
      refine lv_if_lt hx hb d_Mo_named_10 rfl (fun z => ?_) (fun z => ?_)
      · replace h := if_t z h
        refine lv_iload_n hx hb d_Mo_named_45 rfl (lv_at hl 2 rfl) ?_
        exact x_irp C D h d_Mo_named_46
      · replace h := if_f z h
        refine lv_aload_n hx hb d_Mo_named_13 rfl (lv_at hl 0 rfl) ?_
        refine x_get (v := .ref (ga g 68)) C D kc_Mo (by decide) sh_66 4 rfl (by decide) wf_Mo_13 rfl rfl d_Mo_named_14 ?_
        refine lv_iload_n hx hb d_Mo_named_17 rfl (lv_at hl 3 rfl) ?_
        refine x_iald C D (by decide) sh_68 d_Mo_named_18 h (fun _ h => ?_)
        refine lv_iconst (v := 1) hx hb d_Mo_named_19 (by decide) ?_
        refine lv_icmp_gt hx hb d_Mo_named_20 rfl (fun z => ?_) (fun z => ?_)
        · replace h := if_t z h
          exact B37 _ hK9 _ _ _ _ _ _ h D (lv_sub hl [0, 1, 2, 3] rfl)
        · replace h := if_f z h
          refine lv_aload_n hx hb d_Mo_named_23 rfl (lv_at hl 0 rfl) ?_
          refine x_get (v := .ref (ga g 69)) C D kc_Mo (by decide) sh_66 5 rfl (by decide) wf_Mo_16 rfl rfl d_Mo_named_24 ?_
          refine lv_iload_n hx hb d_Mo_named_27 rfl (lv_at hl 3 rfl) ?_
          refine x_iald C D (by decide) sh_69 d_Mo_named_28 h (fun _ h => ?_)
          refine lv_iload_n hx hb d_Mo_named_29 rfl (lv_at hl 1 rfl) ?_
          refine lv_icmp_ne hx hb d_Mo_named_30 rfl (fun z => ?_) (fun z => ?_)
          · replace h := if_f z h
            exact B37 _ hK9 _ _ _ _ _ _ h D (lv_sub hl [0, 1, 2, 3] rfl)
          · replace h := if_t z h
            refine lv_iload_n hx hb d_Mo_named_33 rfl (lv_at hl 3 rfl) ?_
            refine lv_goto hx hb d_Mo_named_34 rfl ?_
            exact B38 _ hK9 _ _ _ _ _ _ h D (lv_sub hl [0, 1, 3] rfl)
  unfold f_Mo_named at h
  refine lv_iconst (v := (-1)) hx hb d_Mo_named_0 (by decide) ?_
  refine lv_istore_n (lv' := [(2, .int (-1)), (0, .ref (ga g 66)), (1, .int a1)]) hx hb d_Mo_named_1 rfl hl (by decide) rfl (fun ls hl => ?_)
  refine lv_aload_n hx hb d_Mo_named_2 rfl (lv_at hl 1 rfl) ?_
  refine x_get (v := .int (S 66 3)) C D kc_Mo (by decide) sh_66 3 rfl (by decide) wf_Mo_53 rfl rfl d_Mo_named_3 ?_
  refine lv_iconst (v := 1) hx hb d_Mo_named_6 (by decide) ?_
  refine lv_isub hx hb d_Mo_named_7 ?_
  refine lv_istore_n (lv' := [(3, .int ((S 66 3) - 1)), (2, .int (-1)), (0, .ref (ga g 66)), (1, .int a1)]) hx hb d_Mo_named_8 rfl hl (by decide) rfl (fun ls hl => ?_)
  exact L9 _ _ _ _ _ _ _ h D (lv_sub hl [2, 3, 1, 0] rfl)
theorem d_Mo_kinds_0 : decode b_Mo_kinds 0 = .ok (.iconst 0, 1) := by decide +kernel
theorem d_Mo_kinds_1 : decode b_Mo_kinds 1 = .ok (.istore_n 2, 1) := by decide +kernel
theorem d_Mo_kinds_2 : decode b_Mo_kinds 2 = .ok (.iconst 0, 1) := by decide +kernel
theorem d_Mo_kinds_3 : decode b_Mo_kinds 3 = .ok (.istore_n 3, 1) := by decide +kernel
theorem d_Mo_kinds_4 : decode b_Mo_kinds 4 = .ok (.iload_n 3, 1) := by decide +kernel
theorem d_Mo_kinds_5 : decode b_Mo_kinds 5 = .ok (.aload_n 0, 1) := by decide +kernel
theorem d_Mo_kinds_6 : decode b_Mo_kinds 6 = .ok (.getfield 53, 3) := by decide +kernel
theorem d_Mo_kinds_9 : decode b_Mo_kinds 9 = .ok (.if_icmp .ge 27, 3) := by decide +kernel
theorem d_Mo_kinds_12 : decode b_Mo_kinds 12 = .ok (.iload_n 2, 1) := by decide +kernel
theorem d_Mo_kinds_13 : decode b_Mo_kinds 13 = .ok (.aload_n 0, 1) := by decide +kernel
theorem d_Mo_kinds_14 : decode b_Mo_kinds 14 = .ok (.getfield 13, 3) := by decide +kernel
theorem d_Mo_kinds_17 : decode b_Mo_kinds 17 = .ok (.iload_n 3, 1) := by decide +kernel
theorem d_Mo_kinds_18 : decode b_Mo_kinds 18 = .ok (.iaload, 1) := by decide +kernel
theorem d_Mo_kinds_19 : decode b_Mo_kinds 19 = .ok (.iload_n 1, 1) := by decide +kernel
theorem d_Mo_kinds_20 : decode b_Mo_kinds 20 = .ok (.if_icmp .ne 7, 3) := by decide +kernel
theorem d_Mo_kinds_23 : decode b_Mo_kinds 23 = .ok (.iconst 1, 1) := by decide +kernel
theorem d_Mo_kinds_24 : decode b_Mo_kinds 24 = .ok (.goto 4, 3) := by decide +kernel
theorem d_Mo_kinds_27 : decode b_Mo_kinds 27 = .ok (.iconst 0, 1) := by decide +kernel
theorem d_Mo_kinds_28 : decode b_Mo_kinds 28 = .ok (.iadd, 1) := by decide +kernel
theorem d_Mo_kinds_29 : decode b_Mo_kinds 29 = .ok (.istore_n 2, 1) := by decide +kernel
theorem d_Mo_kinds_30 : decode b_Mo_kinds 30 = .ok (.iinc 3 1, 3) := by decide +kernel
theorem d_Mo_kinds_33 : decode b_Mo_kinds 33 = .ok (.goto (-29), 3) := by decide +kernel
theorem d_Mo_kinds_36 : decode b_Mo_kinds 36 = .ok (.iload_n 2, 1) := by decide +kernel
theorem d_Mo_kinds_37 : decode b_Mo_kinds 37 = .ok (.ireturn, 1) := by decide +kernel
def f_Mo_kinds_28 (K4 : Int32 → Int32 → Int32 → zSt → Option Int32) (a1 : Int32) (a3 : Int32) (t0 : Int32) (t1 : Int32) (S : zSt) : Option Int32 := (K4 a1 (t1 + t0) (a3 + 1) S)
def f_Mo_kinds_4 : Nat → Int32 → Int32 → Int32 → zSt → Option Int32
  | 0, _, _, _, _ => none
  | n + 1, a1, a2, a3, S => (if (S 66 3) ≤ a3 then (some a2) else gdi a3 6 ((if (S 68 a3.toNatClampNeg) = a1 then (f_Mo_kinds_28 (f_Mo_kinds_4 n) a1 a3 1 a2 S) else (f_Mo_kinds_28 (f_Mo_kinds_4 n) a1 a3 0 a2 S))))
def f_Mo_kinds (a1 : Int32) (S : zSt) : Option Int32 := (f_Mo_kinds_4 fu a1 0 0 S)
set_option maxHeartbeats 4000000 in
set_option maxRecDepth 100000 in
theorem c_Mo_kinds (l : Launch) (g : zG) (hD : GD g) (a1 : Int32) (S : zSt) (u : Int32) (h : f_Mo_kinds a1 S = some u) : Met l y_Mo_kinds (mw y_Mo_kinds b_Mo_kinds 4 (some .int)) (rmD 0) (Pw g [.ref (ga g 66), .int a1] S) (Qip g S u) 0 0 (gA g) := by
  refine z_go (own := R_Mo) (lv0 := [(0, .ref (ga g 66)), (1, .int a1)]) hD (by decide) rfl (Nat.le_of_ble_eq_true rfl) rfl ?_
  intro p e s m args below meth c C D ls hl
  have hx := C.1
  have hb := C.2.1
  have hown := C.2.2.2.1
  have hts := C.2.2.2.2.1
  have B28 : ∀ (K4 : Int32 → Int32 → Int32 → zSt → Option Int32) (hK4 : ∀ (H : Heap) (locs : List Loc) (ls : Array Slot) (a1 : Int32) (a2 : Int32) (a3 : Int32), K4 a1 a2 a3 S = some u → Dy g s S H locs → lv_has ls 4 [(0, .ref (ga g 66)), (1, .int a1), (2, .int a2), (3, .int a3)] → W p l e (rmD 0) s m args below meth c H locs 0 0 (MQ below (Qip g S u) args s 0 0 (gA g)) (F0 m 4 ls [])) (H : Heap) (locs : List Loc) (ls : Array Slot) (a1 : Int32) (a3 : Int32) (t0 : Int32) (t1 : Int32), f_Mo_kinds_28 K4 a1 a3 t0 t1 S = some u → Dy g s S H locs → lv_has ls 4 [(0, .ref (ga g 66)), (1, .int a1), (3, .int a3)] → W p l e (rmD 0) s m args below meth c H locs 0 0 (MQ below (Qip g S u) args s 0 0 (gA g)) (F0 m 28 ls [.int t0, .int t1]) := by
    intro K4 hK4 H locs ls a1 a3 t0 t1 h D hl
    unfold f_Mo_kinds_28 at h
    refine lv_iadd hx hb d_Mo_kinds_28 ?_
    refine lv_istore_n (lv' := [(2, .int (t1 + t0)), (0, .ref (ga g 66)), (1, .int a1), (3, .int a3)]) hx hb d_Mo_kinds_29 rfl hl (by decide) rfl (fun ls hl => ?_)
    refine lv_iinc (k := 3) (lv' := [(3, .int (a3 + 1)), (2, .int (t1 + t0)), (0, .ref (ga g 66)), (1, .int a1)]) hx hb d_Mo_kinds_30 hl rfl (ii1 _) (by decide) rfl (fun ls hl => ?_)
    refine lv_goto hx hb d_Mo_kinds_33 rfl ?_
    exact hK4 _ _ _ _ _ _ h D (lv_sub hl [2, 3, 1, 0] rfl)
  have L4 : ∀ (n : Nat) (H : Heap) (locs : List Loc) (ls : Array Slot) (a1 : Int32) (a2 : Int32) (a3 : Int32), f_Mo_kinds_4 n a1 a2 a3 S = some u → Dy g s S H locs → lv_has ls 4 [(0, .ref (ga g 66)), (1, .int a1), (2, .int a2), (3, .int a3)] → W p l e (rmD 0) s m args below meth c H locs 0 0 (MQ below (Qip g S u) args s 0 0 (gA g)) (F0 m 4 ls []) := by
    intro n
    induction n with
    | zero => intro H locs ls a1 a2 a3 h D hl; rw [f_Mo_kinds_4] at h; cases h
    | succ n hK4 =>
      intro H locs ls a1 a2 a3 h D hl
      rw [f_Mo_kinds_4] at h
      refine lv_iload_n hx hb d_Mo_kinds_4 rfl (lv_at hl 3 rfl) ?_
      refine lv_aload_n hx hb d_Mo_kinds_5 rfl (lv_at hl 0 rfl) ?_
      refine x_get (v := .int (S 66 3)) C D kc_Mo (by decide) sh_66 3 rfl (by decide) wf_Mo_53 rfl rfl d_Mo_kinds_6 ?_
      refine lv_icmp_ge hx hb d_Mo_kinds_9 rfl (fun z => ?_) (fun z => ?_)
      · replace h := if_t z h
        refine lv_iload_n hx hb d_Mo_kinds_36 rfl (lv_at hl 2 rfl) ?_
        exact x_irp C D h d_Mo_kinds_37
      · replace h := if_f z h
        refine lv_iload_n hx hb d_Mo_kinds_12 rfl (lv_at hl 2 rfl) ?_
        refine lv_aload_n hx hb d_Mo_kinds_13 rfl (lv_at hl 0 rfl) ?_
        refine x_get (v := .ref (ga g 68)) C D kc_Mo (by decide) sh_66 4 rfl (by decide) wf_Mo_13 rfl rfl d_Mo_kinds_14 ?_
        refine lv_iload_n hx hb d_Mo_kinds_17 rfl (lv_at hl 3 rfl) ?_
        refine x_iald C D (by decide) sh_68 d_Mo_kinds_18 h (fun _ h => ?_)
        refine lv_iload_n hx hb d_Mo_kinds_19 rfl (lv_at hl 1 rfl) ?_
        refine lv_icmp_ne hx hb d_Mo_kinds_20 rfl (fun z => ?_) (fun z => ?_)
        · replace h := if_f z h
          refine lv_iconst (v := 0) hx hb d_Mo_kinds_27 (by decide) ?_
          exact B28 _ hK4 _ _ _ _ _ _ _ h D (lv_sub hl [0, 1, 3] rfl)
        · replace h := if_t z h
          refine lv_iconst (v := 1) hx hb d_Mo_kinds_23 (by decide) ?_
          refine lv_goto hx hb d_Mo_kinds_24 rfl ?_
          exact B28 _ hK4 _ _ _ _ _ _ _ h D (lv_sub hl [0, 1, 3] rfl)
  unfold f_Mo_kinds at h
  refine lv_iconst (v := 0) hx hb d_Mo_kinds_0 (by decide) ?_
  refine lv_istore_n (lv' := [(2, .int 0), (0, .ref (ga g 66)), (1, .int a1)]) hx hb d_Mo_kinds_1 rfl hl (by decide) rfl (fun ls hl => ?_)
  refine lv_iconst (v := 0) hx hb d_Mo_kinds_2 (by decide) ?_
  refine lv_istore_n (lv' := [(3, .int 0), (2, .int 0), (0, .ref (ga g 66)), (1, .int a1)]) hx hb d_Mo_kinds_3 rfl hl (by decide) rfl (fun ls hl => ?_)
  exact L4 _ _ _ _ _ _ _ h D (lv_sub hl [2, 3, 1, 0] rfl)
theorem d_Mo_high_0 : decode b_Mo_high 0 = .ok (.iload_n 0, 1) := by decide +kernel
theorem d_Mo_high_1 : decode b_Mo_high 1 = .ok (.ldc 107, 2) := by decide +kernel
theorem d_Mo_high_3 : decode b_Mo_high 3 = .ok (.if_icmp .lt 13, 3) := by decide +kernel
theorem d_Mo_high_6 : decode b_Mo_high 6 = .ok (.iload_n 0, 1) := by decide +kernel
theorem d_Mo_high_7 : decode b_Mo_high 7 = .ok (.ldc 108, 2) := by decide +kernel
theorem d_Mo_high_9 : decode b_Mo_high 9 = .ok (.if_icmp .gt 7, 3) := by decide +kernel
theorem d_Mo_high_12 : decode b_Mo_high 12 = .ok (.iconst 1, 1) := by decide +kernel
theorem d_Mo_high_13 : decode b_Mo_high 13 = .ok (.goto 4, 3) := by decide +kernel
theorem d_Mo_high_16 : decode b_Mo_high 16 = .ok (.iconst 0, 1) := by decide +kernel
theorem d_Mo_high_17 : decode b_Mo_high 17 = .ok (.ireturn, 1) := by decide +kernel
def f_Mo_high_16 (S : zSt) : Option Int32 := (gdb 0 (some 0))
def f_Mo_high (a0 : Int32) (S : zSt) : Option Int32 := (if a0 < 55296 then (f_Mo_high_16 S) else (if 56319 < a0 then (f_Mo_high_16 S) else (gdb 1 (some 1))))
set_option maxHeartbeats 4000000 in
set_option maxRecDepth 100000 in
theorem c_Mo_high (l : Launch) (g : zG) (hD : GD g) (a0 : Int32) (S : zSt) (u : Int32) (h : f_Mo_high a0 S = some u) : Met l y_Mo_high (mw y_Mo_high b_Mo_high 1 (some .boolean)) (rmD 0) (Pw g [.int a0] S) (Qip g S u) 0 0 (gA g) := by
  refine z_go (own := R_Mo) (lv0 := [(0, .int a0)]) hD (by decide) rfl (Nat.le_of_ble_eq_true rfl) rfl ?_
  intro p e s m args below meth c C D ls hl
  have hx := C.1
  have hb := C.2.1
  have hown := C.2.2.2.1
  have hts := C.2.2.2.2.1
  have B16 : ∀ (H : Heap) (locs : List Loc) (ls : Array Slot), f_Mo_high_16 S = some u → Dy g s S H locs → lv_has ls 1 [] → W p l e (rmD 0) s m args below meth c H locs 0 0 (MQ below (Qip g S u) args s 0 0 (gA g)) (F0 m 16 ls []) := by
    intro H locs ls h D hl
    unfold f_Mo_high_16 at h
    refine lv_iconst (v := 0) hx hb d_Mo_high_16 (by decide) ?_
    exact x_zrp C D h d_Mo_high_17
  unfold f_Mo_high at h
  refine lv_iload_n hx hb d_Mo_high_0 rfl (lv_at hl 0 rfl) ?_
  refine lv_ldc (v := 55296) hx hb hown (hts _ wk_Mo_107) d_Mo_high_1 ?_
  refine lv_icmp_lt hx hb d_Mo_high_3 rfl (fun z => ?_) (fun z => ?_)
  · replace h := if_t z h
    exact B16 _ _ _ h D (lv_sub hl [] rfl)
  · replace h := if_f z h
    refine lv_iload_n hx hb d_Mo_high_6 rfl (lv_at hl 0 rfl) ?_
    refine lv_ldc (v := 56319) hx hb hown (hts _ wk_Mo_108) d_Mo_high_7 ?_
    refine lv_icmp_gt hx hb d_Mo_high_9 rfl (fun z => ?_) (fun z => ?_)
    · replace h := if_t z h
      exact B16 _ _ _ h D (lv_sub hl [] rfl)
    · replace h := if_f z h
      refine lv_iconst (v := 1) hx hb d_Mo_high_12 (by decide) ?_
      refine lv_goto hx hb d_Mo_high_13 rfl ?_
      exact x_zrp C D h d_Mo_high_17
theorem d_Mo_low_0 : decode b_Mo_low 0 = .ok (.iload_n 0, 1) := by decide +kernel
theorem d_Mo_low_1 : decode b_Mo_low 1 = .ok (.ldc 109, 2) := by decide +kernel
theorem d_Mo_low_3 : decode b_Mo_low 3 = .ok (.if_icmp .lt 13, 3) := by decide +kernel
theorem d_Mo_low_6 : decode b_Mo_low 6 = .ok (.iload_n 0, 1) := by decide +kernel
theorem d_Mo_low_7 : decode b_Mo_low 7 = .ok (.ldc 110, 2) := by decide +kernel
theorem d_Mo_low_9 : decode b_Mo_low 9 = .ok (.if_icmp .gt 7, 3) := by decide +kernel
theorem d_Mo_low_12 : decode b_Mo_low 12 = .ok (.iconst 1, 1) := by decide +kernel
theorem d_Mo_low_13 : decode b_Mo_low 13 = .ok (.goto 4, 3) := by decide +kernel
theorem d_Mo_low_16 : decode b_Mo_low 16 = .ok (.iconst 0, 1) := by decide +kernel
theorem d_Mo_low_17 : decode b_Mo_low 17 = .ok (.ireturn, 1) := by decide +kernel
def f_Mo_low_16 (S : zSt) : Option Int32 := (gdb 0 (some 0))
def f_Mo_low (a0 : Int32) (S : zSt) : Option Int32 := (if a0 < 56320 then (f_Mo_low_16 S) else (if 57343 < a0 then (f_Mo_low_16 S) else (gdb 1 (some 1))))
set_option maxHeartbeats 4000000 in
set_option maxRecDepth 100000 in
theorem c_Mo_low (l : Launch) (g : zG) (hD : GD g) (a0 : Int32) (S : zSt) (u : Int32) (h : f_Mo_low a0 S = some u) : Met l y_Mo_low (mw y_Mo_low b_Mo_low 1 (some .boolean)) (rmD 0) (Pw g [.int a0] S) (Qip g S u) 0 0 (gA g) := by
  refine z_go (own := R_Mo) (lv0 := [(0, .int a0)]) hD (by decide) rfl (Nat.le_of_ble_eq_true rfl) rfl ?_
  intro p e s m args below meth c C D ls hl
  have hx := C.1
  have hb := C.2.1
  have hown := C.2.2.2.1
  have hts := C.2.2.2.2.1
  have B16 : ∀ (H : Heap) (locs : List Loc) (ls : Array Slot), f_Mo_low_16 S = some u → Dy g s S H locs → lv_has ls 1 [] → W p l e (rmD 0) s m args below meth c H locs 0 0 (MQ below (Qip g S u) args s 0 0 (gA g)) (F0 m 16 ls []) := by
    intro H locs ls h D hl
    unfold f_Mo_low_16 at h
    refine lv_iconst (v := 0) hx hb d_Mo_low_16 (by decide) ?_
    exact x_zrp C D h d_Mo_low_17
  unfold f_Mo_low at h
  refine lv_iload_n hx hb d_Mo_low_0 rfl (lv_at hl 0 rfl) ?_
  refine lv_ldc (v := 56320) hx hb hown (hts _ wk_Mo_109) d_Mo_low_1 ?_
  refine lv_icmp_lt hx hb d_Mo_low_3 rfl (fun z => ?_) (fun z => ?_)
  · replace h := if_t z h
    exact B16 _ _ _ h D (lv_sub hl [] rfl)
  · replace h := if_f z h
    refine lv_iload_n hx hb d_Mo_low_6 rfl (lv_at hl 0 rfl) ?_
    refine lv_ldc (v := 57343) hx hb hown (hts _ wk_Mo_110) d_Mo_low_7 ?_
    refine lv_icmp_gt hx hb d_Mo_low_9 rfl (fun z => ?_) (fun z => ?_)
    · replace h := if_t z h
      exact B16 _ _ _ h D (lv_sub hl [] rfl)
    · replace h := if_f z h
      refine lv_iconst (v := 1) hx hb d_Mo_low_12 (by decide) ?_
      refine lv_goto hx hb d_Mo_low_13 rfl ?_
      exact x_zrp C D h d_Mo_low_17
theorem d_Mo_unfitIn_0 : decode b_Mo_unfitIn 0 = .ok (.aload_n 0, 1) := by decide +kernel
theorem d_Mo_unfitIn_1 : decode b_Mo_unfitIn 1 = .ok (.getfield 22, 3) := by decide +kernel
theorem d_Mo_unfitIn_4 : decode b_Mo_unfitIn 4 = .ok (.iload_n 1, 1) := by decide +kernel
theorem d_Mo_unfitIn_5 : decode b_Mo_unfitIn 5 = .ok (.iaload, 1) := by decide +kernel
theorem d_Mo_unfitIn_6 : decode b_Mo_unfitIn 6 = .ok (.istore_n 2, 1) := by decide +kernel
theorem d_Mo_unfitIn_7 : decode b_Mo_unfitIn 7 = .ok (.iload_n 2, 1) := by decide +kernel
theorem d_Mo_unfitIn_8 : decode b_Mo_unfitIn 8 = .ok (.ifCond .le 39, 3) := by decide +kernel
theorem d_Mo_unfitIn_11 : decode b_Mo_unfitIn 11 = .ok (.aload_n 0, 1) := by decide +kernel
theorem d_Mo_unfitIn_12 : decode b_Mo_unfitIn 12 = .ok (.getfield 25, 3) := by decide +kernel
theorem d_Mo_unfitIn_15 : decode b_Mo_unfitIn 15 = .ok (.bipush 8, 2) := by decide +kernel
theorem d_Mo_unfitIn_17 : decode b_Mo_unfitIn 17 = .ok (.iload_n 1, 1) := by decide +kernel
theorem d_Mo_unfitIn_18 : decode b_Mo_unfitIn 18 = .ok (.imul, 1) := by decide +kernel
theorem d_Mo_unfitIn_19 : decode b_Mo_unfitIn 19 = .ok (.iaload, 1) := by decide +kernel
theorem d_Mo_unfitIn_20 : decode b_Mo_unfitIn 20 = .ok (.bipush 32, 2) := by decide +kernel
theorem d_Mo_unfitIn_22 : decode b_Mo_unfitIn 22 = .ok (.if_icmp .eq 21, 3) := by decide +kernel
theorem d_Mo_unfitIn_25 : decode b_Mo_unfitIn 25 = .ok (.aload_n 0, 1) := by decide +kernel
theorem d_Mo_unfitIn_26 : decode b_Mo_unfitIn 26 = .ok (.getfield 25, 3) := by decide +kernel
theorem d_Mo_unfitIn_29 : decode b_Mo_unfitIn 29 = .ok (.bipush 8, 2) := by decide +kernel
theorem d_Mo_unfitIn_31 : decode b_Mo_unfitIn 31 = .ok (.iload_n 1, 1) := by decide +kernel
theorem d_Mo_unfitIn_32 : decode b_Mo_unfitIn 32 = .ok (.imul, 1) := by decide +kernel
theorem d_Mo_unfitIn_33 : decode b_Mo_unfitIn 33 = .ok (.iload_n 2, 1) := by decide +kernel
theorem d_Mo_unfitIn_34 : decode b_Mo_unfitIn 34 = .ok (.iadd, 1) := by decide +kernel
theorem d_Mo_unfitIn_35 : decode b_Mo_unfitIn 35 = .ok (.iconst 1, 1) := by decide +kernel
theorem d_Mo_unfitIn_36 : decode b_Mo_unfitIn 36 = .ok (.isub, 1) := by decide +kernel
theorem d_Mo_unfitIn_37 : decode b_Mo_unfitIn 37 = .ok (.iaload, 1) := by decide +kernel
theorem d_Mo_unfitIn_38 : decode b_Mo_unfitIn 38 = .ok (.bipush 32, 2) := by decide +kernel
theorem d_Mo_unfitIn_40 : decode b_Mo_unfitIn 40 = .ok (.if_icmp .ne 7, 3) := by decide +kernel
theorem d_Mo_unfitIn_43 : decode b_Mo_unfitIn 43 = .ok (.iconst 1, 1) := by decide +kernel
theorem d_Mo_unfitIn_44 : decode b_Mo_unfitIn 44 = .ok (.goto 4, 3) := by decide +kernel
theorem d_Mo_unfitIn_47 : decode b_Mo_unfitIn 47 = .ok (.iconst 0, 1) := by decide +kernel
theorem d_Mo_unfitIn_48 : decode b_Mo_unfitIn 48 = .ok (.istore_n 3, 1) := by decide +kernel
theorem d_Mo_unfitIn_49 : decode b_Mo_unfitIn 49 = .ok (.iconst 0, 1) := by decide +kernel
theorem d_Mo_unfitIn_50 : decode b_Mo_unfitIn 50 = .ok (.istore 4, 2) := by decide +kernel
theorem d_Mo_unfitIn_52 : decode b_Mo_unfitIn 52 = .ok (.iload 4, 2) := by decide +kernel
theorem d_Mo_unfitIn_54 : decode b_Mo_unfitIn 54 = .ok (.iload_n 2, 1) := by decide +kernel
theorem d_Mo_unfitIn_55 : decode b_Mo_unfitIn 55 = .ok (.if_icmp .ge 47, 3) := by decide +kernel
theorem d_Mo_unfitIn_58 : decode b_Mo_unfitIn 58 = .ok (.aload_n 0, 1) := by decide +kernel
theorem d_Mo_unfitIn_59 : decode b_Mo_unfitIn 59 = .ok (.getfield 25, 3) := by decide +kernel
theorem d_Mo_unfitIn_62 : decode b_Mo_unfitIn 62 = .ok (.bipush 8, 2) := by decide +kernel
theorem d_Mo_unfitIn_64 : decode b_Mo_unfitIn 64 = .ok (.iload_n 1, 1) := by decide +kernel
theorem d_Mo_unfitIn_65 : decode b_Mo_unfitIn 65 = .ok (.imul, 1) := by decide +kernel
theorem d_Mo_unfitIn_66 : decode b_Mo_unfitIn 66 = .ok (.iload 4, 2) := by decide +kernel
theorem d_Mo_unfitIn_68 : decode b_Mo_unfitIn 68 = .ok (.iadd, 1) := by decide +kernel
theorem d_Mo_unfitIn_69 : decode b_Mo_unfitIn 69 = .ok (.iaload, 1) := by decide +kernel
theorem d_Mo_unfitIn_70 : decode b_Mo_unfitIn 70 = .ok (.istore 5, 2) := by decide +kernel
theorem d_Mo_unfitIn_72 : decode b_Mo_unfitIn 72 = .ok (.iload_n 3, 1) := by decide +kernel
theorem d_Mo_unfitIn_73 : decode b_Mo_unfitIn 73 = .ok (.ifCond .ne 17, 3) := by decide +kernel
theorem d_Mo_unfitIn_76 : decode b_Mo_unfitIn 76 = .ok (.iload 5, 2) := by decide +kernel
theorem d_Mo_unfitIn_78 : decode b_Mo_unfitIn 78 = .ok (.bipush 32, 2) := by decide +kernel
theorem d_Mo_unfitIn_80 : decode b_Mo_unfitIn 80 = .ok (.if_icmp .lt 10, 3) := by decide +kernel
theorem d_Mo_unfitIn_83 : decode b_Mo_unfitIn 83 = .ok (.iload 5, 2) := by decide +kernel
theorem d_Mo_unfitIn_85 : decode b_Mo_unfitIn 85 = .ok (.bipush 126, 2) := by decide +kernel
theorem d_Mo_unfitIn_87 : decode b_Mo_unfitIn 87 = .ok (.if_icmp .le 7, 3) := by decide +kernel
theorem d_Mo_unfitIn_90 : decode b_Mo_unfitIn 90 = .ok (.iconst 1, 1) := by decide +kernel
theorem d_Mo_unfitIn_91 : decode b_Mo_unfitIn 91 = .ok (.goto 4, 3) := by decide +kernel
theorem d_Mo_unfitIn_94 : decode b_Mo_unfitIn 94 = .ok (.iconst 0, 1) := by decide +kernel
theorem d_Mo_unfitIn_95 : decode b_Mo_unfitIn 95 = .ok (.istore_n 3, 1) := by decide +kernel
theorem d_Mo_unfitIn_96 : decode b_Mo_unfitIn 96 = .ok (.iinc 4 1, 3) := by decide +kernel
theorem d_Mo_unfitIn_99 : decode b_Mo_unfitIn 99 = .ok (.goto (-47), 3) := by decide +kernel
theorem d_Mo_unfitIn_102 : decode b_Mo_unfitIn 102 = .ok (.iload_n 3, 1) := by decide +kernel
theorem d_Mo_unfitIn_103 : decode b_Mo_unfitIn 103 = .ok (.ireturn, 1) := by decide +kernel
def f_Mo_unfitIn_95 (K52 : Int32 → Int32 → Int32 → Int32 → zSt → Option Int32) (a1 : Int32) (a2 : Int32) (a4 : Int32) (t0 : Int32) (S : zSt) : Option Int32 := (K52 a1 a2 t0 (a4 + 1) S)
def f_Mo_unfitIn_90 (K52 : Int32 → Int32 → Int32 → Int32 → zSt → Option Int32) (a1 : Int32) (a2 : Int32) (a4 : Int32) (S : zSt) : Option Int32 := (f_Mo_unfitIn_95 K52 a1 a2 a4 1 S)
def f_Mo_unfitIn_52 : Nat → Int32 → Int32 → Int32 → Int32 → zSt → Option Int32
  | 0, _, _, _, _, _ => none
  | n + 1, a1, a2, a3, a4, S => (if a2 ≤ a4 then (gdb a3 (some a3)) else gdi ((8 * a1) + a4) 144 ((if a3 = 0 then (if (S 72 ((8 * a1) + a4).toNatClampNeg) < 32 then (f_Mo_unfitIn_90 (f_Mo_unfitIn_52 n) a1 a2 a4 S) else (if (S 72 ((8 * a1) + a4).toNatClampNeg) ≤ 126 then (f_Mo_unfitIn_95 (f_Mo_unfitIn_52 n) a1 a2 a4 0 S) else (f_Mo_unfitIn_90 (f_Mo_unfitIn_52 n) a1 a2 a4 S))) else (f_Mo_unfitIn_90 (f_Mo_unfitIn_52 n) a1 a2 a4 S))))
def f_Mo_unfitIn_48 (a1 : Int32) (a2 : Int32) (t0 : Int32) (S : zSt) : Option Int32 := (f_Mo_unfitIn_52 fu a1 a2 t0 0 S)
def f_Mo_unfitIn_47 (a1 : Int32) (a2 : Int32) (S : zSt) : Option Int32 := (f_Mo_unfitIn_48 a1 a2 0 S)
def f_Mo_unfitIn_43 (a1 : Int32) (a2 : Int32) (S : zSt) : Option Int32 := (f_Mo_unfitIn_48 a1 a2 1 S)
def f_Mo_unfitIn (a1 : Int32) (S : zSt) : Option Int32 := gdi a1 18 ((if (S 71 a1.toNatClampNeg) ≤ 0 then (f_Mo_unfitIn_47 a1 (S 71 a1.toNatClampNeg) S) else gdi (8 * a1) 144 ((if (S 72 (8 * a1).toNatClampNeg) = 32 then (f_Mo_unfitIn_43 a1 (S 71 a1.toNatClampNeg) S) else gdi (((8 * a1) + (S 71 a1.toNatClampNeg)) - 1) 144 ((if (S 72 (((8 * a1) + (S 71 a1.toNatClampNeg)) - 1).toNatClampNeg) = 32 then (f_Mo_unfitIn_43 a1 (S 71 a1.toNatClampNeg) S) else (f_Mo_unfitIn_47 a1 (S 71 a1.toNatClampNeg) S)))))))
set_option maxHeartbeats 4000000 in
set_option maxRecDepth 100000 in
theorem c_Mo_unfitIn (l : Launch) (g : zG) (hD : GD g) (a1 : Int32) (S : zSt) (u : Int32) (h : f_Mo_unfitIn a1 S = some u) : Met l y_Mo_unfitIn (mw y_Mo_unfitIn b_Mo_unfitIn 6 (some .boolean)) (rmD 0) (Pw g [.ref (ga g 66), .int a1] S) (Qip g S u) 0 0 (gA g) := by
  refine z_go (own := R_Mo) (lv0 := [(0, .ref (ga g 66)), (1, .int a1)]) hD (by decide) rfl (Nat.le_of_ble_eq_true rfl) rfl ?_
  intro p e s m args below meth c C D ls hl
  have hx := C.1
  have hb := C.2.1
  have hown := C.2.2.2.1
  have hts := C.2.2.2.2.1
  have B95 : ∀ (K52 : Int32 → Int32 → Int32 → Int32 → zSt → Option Int32) (hK52 : ∀ (H : Heap) (locs : List Loc) (ls : Array Slot) (a1 : Int32) (a2 : Int32) (a3 : Int32) (a4 : Int32), K52 a1 a2 a3 a4 S = some u → Dy g s S H locs → lv_has ls 6 [(0, .ref (ga g 66)), (1, .int a1), (2, .int a2), (3, .int a3), (4, .int a4)] → W p l e (rmD 0) s m args below meth c H locs 0 0 (MQ below (Qip g S u) args s 0 0 (gA g)) (F0 m 52 ls [])) (H : Heap) (locs : List Loc) (ls : Array Slot) (a1 : Int32) (a2 : Int32) (a4 : Int32) (t0 : Int32), f_Mo_unfitIn_95 K52 a1 a2 a4 t0 S = some u → Dy g s S H locs → lv_has ls 6 [(0, .ref (ga g 66)), (1, .int a1), (2, .int a2), (4, .int a4)] → W p l e (rmD 0) s m args below meth c H locs 0 0 (MQ below (Qip g S u) args s 0 0 (gA g)) (F0 m 95 ls [.int t0]) := by
    intro K52 hK52 H locs ls a1 a2 a4 t0 h D hl
    unfold f_Mo_unfitIn_95 at h
    refine lv_istore_n (lv' := [(3, .int t0), (0, .ref (ga g 66)), (1, .int a1), (2, .int a2), (4, .int a4)]) hx hb d_Mo_unfitIn_95 rfl hl (by decide) rfl (fun ls hl => ?_)
    refine lv_iinc (k := 4) (lv' := [(4, .int (a4 + 1)), (3, .int t0), (0, .ref (ga g 66)), (1, .int a1), (2, .int a2)]) hx hb d_Mo_unfitIn_96 hl rfl (ii1 _) (by decide) rfl (fun ls hl => ?_)
    refine lv_goto hx hb d_Mo_unfitIn_99 rfl ?_
    exact hK52 _ _ _ _ _ _ _ h D (lv_sub hl [2, 3, 4, 1, 0] rfl)
  have B90 : ∀ (K52 : Int32 → Int32 → Int32 → Int32 → zSt → Option Int32) (hK52 : ∀ (H : Heap) (locs : List Loc) (ls : Array Slot) (a1 : Int32) (a2 : Int32) (a3 : Int32) (a4 : Int32), K52 a1 a2 a3 a4 S = some u → Dy g s S H locs → lv_has ls 6 [(0, .ref (ga g 66)), (1, .int a1), (2, .int a2), (3, .int a3), (4, .int a4)] → W p l e (rmD 0) s m args below meth c H locs 0 0 (MQ below (Qip g S u) args s 0 0 (gA g)) (F0 m 52 ls [])) (H : Heap) (locs : List Loc) (ls : Array Slot) (a1 : Int32) (a2 : Int32) (a4 : Int32), f_Mo_unfitIn_90 K52 a1 a2 a4 S = some u → Dy g s S H locs → lv_has ls 6 [(0, .ref (ga g 66)), (1, .int a1), (2, .int a2), (4, .int a4)] → W p l e (rmD 0) s m args below meth c H locs 0 0 (MQ below (Qip g S u) args s 0 0 (gA g)) (F0 m 90 ls []) := by
    intro K52 hK52 H locs ls a1 a2 a4 h D hl
    unfold f_Mo_unfitIn_90 at h
    refine lv_iconst (v := 1) hx hb d_Mo_unfitIn_90 (by decide) ?_
    refine lv_goto hx hb d_Mo_unfitIn_91 rfl ?_
    exact B95 _ hK52 _ _ _ _ _ _ _ h D (lv_sub hl [0, 1, 2, 3] rfl)
  have L52 : ∀ (n : Nat) (H : Heap) (locs : List Loc) (ls : Array Slot) (a1 : Int32) (a2 : Int32) (a3 : Int32) (a4 : Int32), f_Mo_unfitIn_52 n a1 a2 a3 a4 S = some u → Dy g s S H locs → lv_has ls 6 [(0, .ref (ga g 66)), (1, .int a1), (2, .int a2), (3, .int a3), (4, .int a4)] → W p l e (rmD 0) s m args below meth c H locs 0 0 (MQ below (Qip g S u) args s 0 0 (gA g)) (F0 m 52 ls []) := by
    intro n
    induction n with
    | zero => intro H locs ls a1 a2 a3 a4 h D hl; rw [f_Mo_unfitIn_52] at h; cases h
    | succ n hK52 =>
      intro H locs ls a1 a2 a3 a4 h D hl
      rw [f_Mo_unfitIn_52] at h
      refine lv_iload hx hb d_Mo_unfitIn_52 (lv_at hl 4 rfl) ?_
      refine lv_iload_n hx hb d_Mo_unfitIn_54 rfl (lv_at hl 2 rfl) ?_
      refine lv_icmp_ge hx hb d_Mo_unfitIn_55 rfl (fun z => ?_) (fun z => ?_)
      · replace h := if_t z h
        refine lv_iload_n hx hb d_Mo_unfitIn_102 rfl (lv_at hl 3 rfl) ?_
        exact x_zrp C D h d_Mo_unfitIn_103
      · replace h := if_f z h
        refine lv_aload_n hx hb d_Mo_unfitIn_58 rfl (lv_at hl 0 rfl) ?_
        refine x_get (v := .ref (ga g 72)) C D kc_Mo (by decide) sh_66 8 rfl (by decide) wf_Mo_25 rfl rfl d_Mo_unfitIn_59 ?_
        refine lv_bipush (v := 8) hx hb d_Mo_unfitIn_62 (by decide) ?_
        refine lv_iload_n hx hb d_Mo_unfitIn_64 rfl (lv_at hl 1 rfl) ?_
        refine lv_imul hx hb d_Mo_unfitIn_65 ?_
        refine lv_iload hx hb d_Mo_unfitIn_66 (lv_at hl 4 rfl) ?_
        refine lv_iadd hx hb d_Mo_unfitIn_68 ?_
        refine x_iald C D (by decide) sh_72 d_Mo_unfitIn_69 h (fun _ h => ?_)
        refine lv_istore (lv' := [(5, .int (S 72 ((8 * a1) + a4).toNatClampNeg)), (0, .ref (ga g 66)), (1, .int a1), (2, .int a2), (3, .int a3), (4, .int a4)]) hx hb d_Mo_unfitIn_70 hl (by decide) rfl (fun ls hl => ?_)
        refine lv_iload_n hx hb d_Mo_unfitIn_72 rfl (lv_at hl 4 rfl) ?_
        refine lv_if_ne hx hb d_Mo_unfitIn_73 rfl (fun z => ?_) (fun z => ?_)
        · replace h := if_f z h
          exact B90 _ hK52 _ _ _ _ _ _ h D (lv_sub hl [1, 2, 3, 5] rfl)
        · replace h := if_t z h
          refine lv_iload hx hb d_Mo_unfitIn_76 (lv_at hl 0 rfl) ?_
          refine lv_bipush (v := 32) hx hb d_Mo_unfitIn_78 (by decide) ?_
          refine lv_icmp_lt hx hb d_Mo_unfitIn_80 rfl (fun z => ?_) (fun z => ?_)
          · replace h := if_t z h
            exact B90 _ hK52 _ _ _ _ _ _ h D (lv_sub hl [1, 2, 3, 5] rfl)
          · replace h := if_f z h
            refine lv_iload hx hb d_Mo_unfitIn_83 (lv_at hl 0 rfl) ?_
            refine lv_bipush (v := 126) hx hb d_Mo_unfitIn_85 (by decide) ?_
            refine lv_icmp_le hx hb d_Mo_unfitIn_87 rfl (fun z => ?_) (fun z => ?_)
            · replace h := if_t z h
              refine lv_iconst (v := 0) hx hb d_Mo_unfitIn_94 (by decide) ?_
              exact B95 _ hK52 _ _ _ _ _ _ _ h D (lv_sub hl [1, 2, 3, 5] rfl)
            · replace h := if_f z h
              exact B90 _ hK52 _ _ _ _ _ _ h D (lv_sub hl [1, 2, 3, 5] rfl)
  have B48 : ∀ (H : Heap) (locs : List Loc) (ls : Array Slot) (a1 : Int32) (a2 : Int32) (t0 : Int32), f_Mo_unfitIn_48 a1 a2 t0 S = some u → Dy g s S H locs → lv_has ls 6 [(0, .ref (ga g 66)), (1, .int a1), (2, .int a2)] → W p l e (rmD 0) s m args below meth c H locs 0 0 (MQ below (Qip g S u) args s 0 0 (gA g)) (F0 m 48 ls [.int t0]) := by
    intro H locs ls a1 a2 t0 h D hl
    unfold f_Mo_unfitIn_48 at h
    refine lv_istore_n (lv' := [(3, .int t0), (0, .ref (ga g 66)), (1, .int a1), (2, .int a2)]) hx hb d_Mo_unfitIn_48 rfl hl (by decide) rfl (fun ls hl => ?_)
    refine lv_iconst (v := 0) hx hb d_Mo_unfitIn_49 (by decide) ?_
    refine lv_istore (lv' := [(4, .int 0), (3, .int t0), (0, .ref (ga g 66)), (1, .int a1), (2, .int a2)]) hx hb d_Mo_unfitIn_50 hl (by decide) rfl (fun ls hl => ?_)
    exact L52 _ _ _ _ _ _ _ _ h D (lv_sub hl [2, 3, 4, 1, 0] rfl)
  have B47 : ∀ (H : Heap) (locs : List Loc) (ls : Array Slot) (a1 : Int32) (a2 : Int32), f_Mo_unfitIn_47 a1 a2 S = some u → Dy g s S H locs → lv_has ls 6 [(0, .ref (ga g 66)), (1, .int a1), (2, .int a2)] → W p l e (rmD 0) s m args below meth c H locs 0 0 (MQ below (Qip g S u) args s 0 0 (gA g)) (F0 m 47 ls []) := by
    intro H locs ls a1 a2 h D hl
    unfold f_Mo_unfitIn_47 at h
    refine lv_iconst (v := 0) hx hb d_Mo_unfitIn_47 (by decide) ?_
    exact B48 _ _ _ _ _ _ h D (lv_sub hl [0, 1, 2] rfl)
  have B43 : ∀ (H : Heap) (locs : List Loc) (ls : Array Slot) (a1 : Int32) (a2 : Int32), f_Mo_unfitIn_43 a1 a2 S = some u → Dy g s S H locs → lv_has ls 6 [(0, .ref (ga g 66)), (1, .int a1), (2, .int a2)] → W p l e (rmD 0) s m args below meth c H locs 0 0 (MQ below (Qip g S u) args s 0 0 (gA g)) (F0 m 43 ls []) := by
    intro H locs ls a1 a2 h D hl
    unfold f_Mo_unfitIn_43 at h
    refine lv_iconst (v := 1) hx hb d_Mo_unfitIn_43 (by decide) ?_
    refine lv_goto hx hb d_Mo_unfitIn_44 rfl ?_
    exact B48 _ _ _ _ _ _ h D (lv_sub hl [0, 1, 2] rfl)
  unfold f_Mo_unfitIn at h
  refine lv_aload_n hx hb d_Mo_unfitIn_0 rfl (lv_at hl 0 rfl) ?_
  refine x_get (v := .ref (ga g 71)) C D kc_Mo (by decide) sh_66 7 rfl (by decide) wf_Mo_22 rfl rfl d_Mo_unfitIn_1 ?_
  refine lv_iload_n hx hb d_Mo_unfitIn_4 rfl (lv_at hl 1 rfl) ?_
  refine x_iald C D (by decide) sh_71 d_Mo_unfitIn_5 h (fun _ h => ?_)
  refine lv_istore_n (lv' := [(2, .int (S 71 a1.toNatClampNeg)), (0, .ref (ga g 66)), (1, .int a1)]) hx hb d_Mo_unfitIn_6 rfl hl (by decide) rfl (fun ls hl => ?_)
  refine lv_iload_n hx hb d_Mo_unfitIn_7 rfl (lv_at hl 0 rfl) ?_
  refine lv_if_le hx hb d_Mo_unfitIn_8 rfl (fun z => ?_) (fun z => ?_)
  · replace h := if_t z h
    exact B47 _ _ _ _ _ h D (lv_sub hl [1, 2, 0] rfl)
  · replace h := if_f z h
    refine lv_aload_n hx hb d_Mo_unfitIn_11 rfl (lv_at hl 1 rfl) ?_
    refine x_get (v := .ref (ga g 72)) C D kc_Mo (by decide) sh_66 8 rfl (by decide) wf_Mo_25 rfl rfl d_Mo_unfitIn_12 ?_
    refine lv_bipush (v := 8) hx hb d_Mo_unfitIn_15 (by decide) ?_
    refine lv_iload_n hx hb d_Mo_unfitIn_17 rfl (lv_at hl 2 rfl) ?_
    refine lv_imul hx hb d_Mo_unfitIn_18 ?_
    refine x_iald C D (by decide) sh_72 d_Mo_unfitIn_19 h (fun _ h => ?_)
    refine lv_bipush (v := 32) hx hb d_Mo_unfitIn_20 (by decide) ?_
    refine lv_icmp_eq hx hb d_Mo_unfitIn_22 rfl (fun z => ?_) (fun z => ?_)
    · replace h := if_t z h
      exact B43 _ _ _ _ _ h D (lv_sub hl [1, 2, 0] rfl)
    · replace h := if_f z h
      refine lv_aload_n hx hb d_Mo_unfitIn_25 rfl (lv_at hl 1 rfl) ?_
      refine x_get (v := .ref (ga g 72)) C D kc_Mo (by decide) sh_66 8 rfl (by decide) wf_Mo_25 rfl rfl d_Mo_unfitIn_26 ?_
      refine lv_bipush (v := 8) hx hb d_Mo_unfitIn_29 (by decide) ?_
      refine lv_iload_n hx hb d_Mo_unfitIn_31 rfl (lv_at hl 2 rfl) ?_
      refine lv_imul hx hb d_Mo_unfitIn_32 ?_
      refine lv_iload_n hx hb d_Mo_unfitIn_33 rfl (lv_at hl 0 rfl) ?_
      refine lv_iadd hx hb d_Mo_unfitIn_34 ?_
      refine lv_iconst (v := 1) hx hb d_Mo_unfitIn_35 (by decide) ?_
      refine lv_isub hx hb d_Mo_unfitIn_36 ?_
      refine x_iald C D (by decide) sh_72 d_Mo_unfitIn_37 h (fun _ h => ?_)
      refine lv_bipush (v := 32) hx hb d_Mo_unfitIn_38 (by decide) ?_
      refine lv_icmp_ne hx hb d_Mo_unfitIn_40 rfl (fun z => ?_) (fun z => ?_)
      · replace h := if_f z h
        exact B47 _ _ _ _ _ h D (lv_sub hl [1, 2, 0] rfl)
      · replace h := if_t z h
        exact B43 _ _ _ _ _ h D (lv_sub hl [1, 2, 0] rfl)
theorem d_Mo_put_0 : decode b_Mo_put 0 = .ok (.aload_n 0, 1) := by decide +kernel
theorem d_Mo_put_1 : decode b_Mo_put 1 = .ok (.getfield 127, 3) := by decide +kernel
theorem d_Mo_put_4 : decode b_Mo_put 4 = .ok (.ifCond .eq 24, 3) := by decide +kernel
theorem d_Mo_put_7 : decode b_Mo_put 7 = .ok (.aload_n 0, 1) := by decide +kernel
theorem d_Mo_put_8 : decode b_Mo_put 8 = .ok (.getfield 34, 3) := by decide +kernel
theorem d_Mo_put_11 : decode b_Mo_put 11 = .ok (.aload_n 0, 1) := by decide +kernel
theorem d_Mo_put_12 : decode b_Mo_put 12 = .ok (.getfield 131, 3) := by decide +kernel
theorem d_Mo_put_15 : decode b_Mo_put 15 = .ok (.iload_n 1, 1) := by decide +kernel
theorem d_Mo_put_16 : decode b_Mo_put 16 = .ok (.iastore, 1) := by decide +kernel
theorem d_Mo_put_17 : decode b_Mo_put 17 = .ok (.aload_n 0, 1) := by decide +kernel
theorem d_Mo_put_18 : decode b_Mo_put 18 = .ok (.dup, 1) := by decide +kernel
theorem d_Mo_put_19 : decode b_Mo_put 19 = .ok (.getfield 131, 3) := by decide +kernel
theorem d_Mo_put_22 : decode b_Mo_put 22 = .ok (.iconst 1, 1) := by decide +kernel
theorem d_Mo_put_23 : decode b_Mo_put 23 = .ok (.iadd, 1) := by decide +kernel
theorem d_Mo_put_24 : decode b_Mo_put 24 = .ok (.putfield 131, 3) := by decide +kernel
theorem d_Mo_put_27 : decode b_Mo_put 27 = .ok (.return_, 1) := by decide +kernel
theorem d_Mo_put_28 : decode b_Mo_put 28 = .ok (.aload_n 0, 1) := by decide +kernel
theorem d_Mo_put_29 : decode b_Mo_put 29 = .ok (.getfield 134, 3) := by decide +kernel
theorem d_Mo_put_32 : decode b_Mo_put 32 = .ok (.sipush 1000, 3) := by decide +kernel
theorem d_Mo_put_35 : decode b_Mo_put 35 = .ok (.if_icmp .ge 13, 3) := by decide +kernel
theorem d_Mo_put_38 : decode b_Mo_put 38 = .ok (.aload_n 0, 1) := by decide +kernel
theorem d_Mo_put_39 : decode b_Mo_put 39 = .ok (.getfield 31, 3) := by decide +kernel
theorem d_Mo_put_42 : decode b_Mo_put 42 = .ok (.aload_n 0, 1) := by decide +kernel
theorem d_Mo_put_43 : decode b_Mo_put 43 = .ok (.getfield 134, 3) := by decide +kernel
theorem d_Mo_put_46 : decode b_Mo_put 46 = .ok (.iload_n 1, 1) := by decide +kernel
theorem d_Mo_put_47 : decode b_Mo_put 47 = .ok (.iastore, 1) := by decide +kernel
theorem d_Mo_put_48 : decode b_Mo_put 48 = .ok (.aload_n 0, 1) := by decide +kernel
theorem d_Mo_put_49 : decode b_Mo_put 49 = .ok (.dup, 1) := by decide +kernel
theorem d_Mo_put_50 : decode b_Mo_put 50 = .ok (.getfield 134, 3) := by decide +kernel
theorem d_Mo_put_53 : decode b_Mo_put 53 = .ok (.iconst 1, 1) := by decide +kernel
theorem d_Mo_put_54 : decode b_Mo_put 54 = .ok (.iadd, 1) := by decide +kernel
theorem d_Mo_put_55 : decode b_Mo_put 55 = .ok (.putfield 134, 3) := by decide +kernel
theorem d_Mo_put_58 : decode b_Mo_put 58 = .ok (.aload_n 0, 1) := by decide +kernel
theorem d_Mo_put_59 : decode b_Mo_put 59 = .ok (.aload_n 0, 1) := by decide +kernel
theorem d_Mo_put_60 : decode b_Mo_put 60 = .ok (.getfield 137, 3) := by decide +kernel
theorem d_Mo_put_63 : decode b_Mo_put 63 = .ok (.ifCond .ne 9, 3) := by decide +kernel
theorem d_Mo_put_66 : decode b_Mo_put 66 = .ok (.iload_n 1, 1) := by decide +kernel
theorem d_Mo_put_67 : decode b_Mo_put 67 = .ok (.bipush 63, 2) := by decide +kernel
theorem d_Mo_put_69 : decode b_Mo_put 69 = .ok (.if_icmp .ne 7, 3) := by decide +kernel
theorem d_Mo_put_72 : decode b_Mo_put 72 = .ok (.iconst 1, 1) := by decide +kernel
theorem d_Mo_put_73 : decode b_Mo_put 73 = .ok (.goto 4, 3) := by decide +kernel
theorem d_Mo_put_76 : decode b_Mo_put 76 = .ok (.iconst 0, 1) := by decide +kernel
theorem d_Mo_put_77 : decode b_Mo_put 77 = .ok (.putfield 137, 3) := by decide +kernel
theorem d_Mo_put_80 : decode b_Mo_put 80 = .ok (.return_, 1) := by decide +kernel
def f_Mo_put_77 (t0 : Int32) (S : zSt) : Option zSt := gdb t0 (sq (su S 66 13 t0) fun S2 => (some S2))
def f_Mo_put_72 (S : zSt) : Option zSt := (f_Mo_put_77 1 S)
def f_Mo_put_48 (a1 : Int32) (S : zSt) : Option zSt := sq (su S 66 11 ((S 66 11) + 1)) fun S1 => (if (S1 66 13) = 0 then (if a1 = 63 then (f_Mo_put_72 S1) else (f_Mo_put_77 0 S1)) else (f_Mo_put_72 S1))
def f_Mo_put (a1 : Int32) (S : zSt) : Option zSt := (if (S 66 14) = 0 then (if 1000 ≤ (S 66 11) then (f_Mo_put_48 a1 S) else gdi (S 66 11) 1000 (sq (su S 74 (S 66 11).toNatClampNeg a1) fun S4 => (f_Mo_put_48 a1 S4))) else gdi (S 66 15) 1400 (sq (su S 75 (S 66 15).toNatClampNeg a1) fun S5 => sq (su S5 66 15 ((S5 66 15) + 1)) fun S6 => (some S6)))
set_option maxHeartbeats 4000000 in
set_option maxRecDepth 100000 in
theorem c_Mo_put (l : Launch) (g : zG) (hD : GD g) (a1 : Int32) (S : zSt) (u : zSt) (h : f_Mo_put a1 S = some u) : Met l y_Mo_put (mw y_Mo_put b_Mo_put 2 none) (rmD 0) (Pw g [.ref (ga g 66), .int a1] S) (Qvs g u) 0 0 (gA g) := by
  refine z_go (own := R_Mo) (lv0 := [(0, .ref (ga g 66)), (1, .int a1)]) hD (by decide) rfl (Nat.le_of_ble_eq_true rfl) rfl ?_
  intro p e s m args below meth c C D ls hl
  have hx := C.1
  have hb := C.2.1
  have hown := C.2.2.2.1
  have hts := C.2.2.2.2.1
  have B77 : ∀ (H : Heap) (locs : List Loc) (S : zSt) (ls : Array Slot) (t0 : Int32), f_Mo_put_77 t0 S = some u → Dy g s S H locs → lv_has ls 2 [] → W p l e (rmD 0) s m args below meth c H locs 0 0 (MQ below (Qvs g u) args s 0 0 (gA g)) (F0 m 77 ls [.int t0, .ref (ga g 66)]) := by
    intro H locs S ls t0 h D hl
    unfold f_Mo_put_77 at h
    obtain ⟨z3, h⟩ := gdb_some h
    refine x_put C D kc_Mo (by decide) sh_66 13 rfl (by decide) wf_Mo_137 rfl rfl t0 rfl z3 d_Mo_put_77 h (fun S2 H locs h D => ?_)
    exact x_vrs C D h d_Mo_put_80
  have B72 : ∀ (H : Heap) (locs : List Loc) (S : zSt) (ls : Array Slot), f_Mo_put_72 S = some u → Dy g s S H locs → lv_has ls 2 [] → W p l e (rmD 0) s m args below meth c H locs 0 0 (MQ below (Qvs g u) args s 0 0 (gA g)) (F0 m 72 ls [.ref (ga g 66)]) := by
    intro H locs S ls h D hl
    unfold f_Mo_put_72 at h
    refine lv_iconst (v := 1) hx hb d_Mo_put_72 (by decide) ?_
    refine lv_goto hx hb d_Mo_put_73 rfl ?_
    exact B77 _ _ _ _ _ h D (lv_sub hl [] rfl)
  have B48 : ∀ (H : Heap) (locs : List Loc) (S : zSt) (ls : Array Slot) (a1 : Int32), f_Mo_put_48 a1 S = some u → Dy g s S H locs → lv_has ls 2 [(0, .ref (ga g 66)), (1, .int a1)] → W p l e (rmD 0) s m args below meth c H locs 0 0 (MQ below (Qvs g u) args s 0 0 (gA g)) (F0 m 48 ls []) := by
    intro H locs S ls a1 h D hl
    unfold f_Mo_put_48 at h
    refine lv_aload_n hx hb d_Mo_put_48 rfl (lv_at hl 0 rfl) ?_
    refine lv_dup hx hb d_Mo_put_49 rfl ?_
    refine x_get (v := .int (S 66 11)) C D kc_Mo (by decide) sh_66 11 rfl (by decide) wf_Mo_134 rfl rfl d_Mo_put_50 ?_
    refine lv_iconst (v := 1) hx hb d_Mo_put_53 (by decide) ?_
    refine lv_iadd hx hb d_Mo_put_54 ?_
    refine x_put C D kc_Mo (by decide) sh_66 11 rfl (by decide) wf_Mo_134 rfl rfl ((S 66 11) + 1) rfl ⟨rfl, rfl⟩ d_Mo_put_55 h (fun S1 H locs h D => ?_)
    refine lv_aload_n hx hb d_Mo_put_58 rfl (lv_at hl 0 rfl) ?_
    refine lv_aload_n hx hb d_Mo_put_59 rfl (lv_at hl 0 rfl) ?_
    refine x_get (v := .int (S1 66 13)) C D kc_Mo (by decide) sh_66 13 rfl (by decide) wf_Mo_137 rfl rfl d_Mo_put_60 ?_
    refine lv_if_ne hx hb d_Mo_put_63 rfl (fun z => ?_) (fun z => ?_)
    · replace h := if_f z h
      exact B72 _ _ _ _ h D (lv_sub hl [] rfl)
    · replace h := if_t z h
      refine lv_iload_n hx hb d_Mo_put_66 rfl (lv_at hl 1 rfl) ?_
      refine lv_bipush (v := 63) hx hb d_Mo_put_67 (by decide) ?_
      refine lv_icmp_ne hx hb d_Mo_put_69 rfl (fun z => ?_) (fun z => ?_)
      · replace h := if_f z h
        refine lv_iconst (v := 0) hx hb d_Mo_put_76 (by decide) ?_
        exact B77 _ _ _ _ _ h D (lv_sub hl [] rfl)
      · replace h := if_t z h
        exact B72 _ _ _ _ h D (lv_sub hl [] rfl)
  unfold f_Mo_put at h
  refine lv_aload_n hx hb d_Mo_put_0 rfl (lv_at hl 0 rfl) ?_
  refine x_get (v := .int (S 66 14)) C D kc_Mo (by decide) sh_66 14 rfl (by decide) wf_Mo_127 rfl rfl d_Mo_put_1 ?_
  refine lv_if_eq hx hb d_Mo_put_4 rfl (fun z => ?_) (fun z => ?_)
  · replace h := if_t z h
    refine lv_aload_n hx hb d_Mo_put_28 rfl (lv_at hl 0 rfl) ?_
    refine x_get (v := .int (S 66 11)) C D kc_Mo (by decide) sh_66 11 rfl (by decide) wf_Mo_134 rfl rfl d_Mo_put_29 ?_
    refine lv_sipush (v := 1000) hx hb d_Mo_put_32 (by decide) ?_
    refine lv_icmp_ge hx hb d_Mo_put_35 rfl (fun z => ?_) (fun z => ?_)
    · replace h := if_t z h
      exact B48 _ _ _ _ _ h D (lv_sub hl [0, 1] rfl)
    · replace h := if_f z h
      refine lv_aload_n hx hb d_Mo_put_38 rfl (lv_at hl 0 rfl) ?_
      refine x_get (v := .ref (ga g 74)) C D kc_Mo (by decide) sh_66 12 rfl (by decide) wf_Mo_31 rfl rfl d_Mo_put_39 ?_
      refine lv_aload_n hx hb d_Mo_put_42 rfl (lv_at hl 0 rfl) ?_
      refine x_get (v := .int (S 66 11)) C D kc_Mo (by decide) sh_66 11 rfl (by decide) wf_Mo_134 rfl rfl d_Mo_put_43 ?_
      refine lv_iload_n hx hb d_Mo_put_46 rfl (lv_at hl 1 rfl) ?_
      refine x_iast C D (by decide) sh_74 d_Mo_put_47 h (fun S4 H locs h D => ?_)
      exact B48 _ _ _ _ _ h D (lv_sub hl [0, 1] rfl)
  · replace h := if_f z h
    refine lv_aload_n hx hb d_Mo_put_7 rfl (lv_at hl 0 rfl) ?_
    refine x_get (v := .ref (ga g 75)) C D kc_Mo (by decide) sh_66 16 rfl (by decide) wf_Mo_34 rfl rfl d_Mo_put_8 ?_
    refine lv_aload_n hx hb d_Mo_put_11 rfl (lv_at hl 0 rfl) ?_
    refine x_get (v := .int (S 66 15)) C D kc_Mo (by decide) sh_66 15 rfl (by decide) wf_Mo_131 rfl rfl d_Mo_put_12 ?_
    refine lv_iload_n hx hb d_Mo_put_15 rfl (lv_at hl 1 rfl) ?_
    refine x_iast C D (by decide) sh_75 d_Mo_put_16 h (fun S5 H locs h D => ?_)
    refine lv_aload_n hx hb d_Mo_put_17 rfl (lv_at hl 0 rfl) ?_
    refine lv_dup hx hb d_Mo_put_18 rfl ?_
    refine x_get (v := .int (S5 66 15)) C D kc_Mo (by decide) sh_66 15 rfl (by decide) wf_Mo_131 rfl rfl d_Mo_put_19 ?_
    refine lv_iconst (v := 1) hx hb d_Mo_put_22 (by decide) ?_
    refine lv_iadd hx hb d_Mo_put_23 ?_
    refine x_put C D kc_Mo (by decide) sh_66 15 rfl (by decide) wf_Mo_131 rfl rfl ((S5 66 15) + 1) rfl ⟨rfl, rfl⟩ d_Mo_put_24 h (fun S6 H locs h D => ?_)
    exact x_vrs C D h d_Mo_put_27
theorem d_Mo_loose_0 : decode b_Mo_loose 0 = .ok (.iload_n 0, 1) := by decide +kernel
theorem d_Mo_loose_1 : decode b_Mo_loose 1 = .ok (.bipush 58, 2) := by decide +kernel
theorem d_Mo_loose_3 : decode b_Mo_loose 3 = .ok (.if_icmp .eq 57, 3) := by decide +kernel
theorem d_Mo_loose_6 : decode b_Mo_loose 6 = .ok (.iload_n 0, 1) := by decide +kernel
theorem d_Mo_loose_7 : decode b_Mo_loose 7 = .ok (.bipush 47, 2) := by decide +kernel
theorem d_Mo_loose_9 : decode b_Mo_loose 9 = .ok (.if_icmp .eq 51, 3) := by decide +kernel
theorem d_Mo_loose_12 : decode b_Mo_loose 12 = .ok (.iload_n 0, 1) := by decide +kernel
theorem d_Mo_loose_13 : decode b_Mo_loose 13 = .ok (.bipush 63, 2) := by decide +kernel
theorem d_Mo_loose_15 : decode b_Mo_loose 15 = .ok (.if_icmp .eq 45, 3) := by decide +kernel
theorem d_Mo_loose_18 : decode b_Mo_loose 18 = .ok (.iload_n 0, 1) := by decide +kernel
theorem d_Mo_loose_19 : decode b_Mo_loose 19 = .ok (.bipush 64, 2) := by decide +kernel
theorem d_Mo_loose_21 : decode b_Mo_loose 21 = .ok (.if_icmp .eq 39, 3) := by decide +kernel
theorem d_Mo_loose_24 : decode b_Mo_loose 24 = .ok (.iload_n 0, 1) := by decide +kernel
theorem d_Mo_loose_25 : decode b_Mo_loose 25 = .ok (.bipush 33, 2) := by decide +kernel
theorem d_Mo_loose_27 : decode b_Mo_loose 27 = .ok (.if_icmp .eq 33, 3) := by decide +kernel
theorem d_Mo_loose_30 : decode b_Mo_loose 30 = .ok (.iload_n 0, 1) := by decide +kernel
theorem d_Mo_loose_31 : decode b_Mo_loose 31 = .ok (.bipush 36, 2) := by decide +kernel
theorem d_Mo_loose_33 : decode b_Mo_loose 33 = .ok (.if_icmp .eq 27, 3) := by decide +kernel
theorem d_Mo_loose_36 : decode b_Mo_loose 36 = .ok (.iload_n 0, 1) := by decide +kernel
theorem d_Mo_loose_37 : decode b_Mo_loose 37 = .ok (.bipush 38, 2) := by decide +kernel
theorem d_Mo_loose_39 : decode b_Mo_loose 39 = .ok (.if_icmp .lt 9, 3) := by decide +kernel
theorem d_Mo_loose_42 : decode b_Mo_loose 42 = .ok (.iload_n 0, 1) := by decide +kernel
theorem d_Mo_loose_43 : decode b_Mo_loose 43 = .ok (.bipush 44, 2) := by decide +kernel
theorem d_Mo_loose_45 : decode b_Mo_loose 45 = .ok (.if_icmp .le 15, 3) := by decide +kernel
theorem d_Mo_loose_48 : decode b_Mo_loose 48 = .ok (.iload_n 0, 1) := by decide +kernel
theorem d_Mo_loose_49 : decode b_Mo_loose 49 = .ok (.bipush 59, 2) := by decide +kernel
theorem d_Mo_loose_51 : decode b_Mo_loose 51 = .ok (.if_icmp .eq 9, 3) := by decide +kernel
theorem d_Mo_loose_54 : decode b_Mo_loose 54 = .ok (.iload_n 0, 1) := by decide +kernel
theorem d_Mo_loose_55 : decode b_Mo_loose 55 = .ok (.bipush 61, 2) := by decide +kernel
theorem d_Mo_loose_57 : decode b_Mo_loose 57 = .ok (.if_icmp .ne 7, 3) := by decide +kernel
theorem d_Mo_loose_60 : decode b_Mo_loose 60 = .ok (.iconst 1, 1) := by decide +kernel
theorem d_Mo_loose_61 : decode b_Mo_loose 61 = .ok (.goto 4, 3) := by decide +kernel
theorem d_Mo_loose_64 : decode b_Mo_loose 64 = .ok (.iconst 0, 1) := by decide +kernel
theorem d_Mo_loose_65 : decode b_Mo_loose 65 = .ok (.ireturn, 1) := by decide +kernel
def f_Mo_loose_60 (S : zSt) : Option Int32 := (gdb 1 (some 1))
def f_Mo_loose_48 (a0 : Int32) (S : zSt) : Option Int32 := (if a0 = 59 then (f_Mo_loose_60 S) else (if a0 = 61 then (f_Mo_loose_60 S) else (gdb 0 (some 0))))
def f_Mo_loose (a0 : Int32) (S : zSt) : Option Int32 := (if a0 = 58 then (f_Mo_loose_60 S) else (if a0 = 47 then (f_Mo_loose_60 S) else (if a0 = 63 then (f_Mo_loose_60 S) else (if a0 = 64 then (f_Mo_loose_60 S) else (if a0 = 33 then (f_Mo_loose_60 S) else (if a0 = 36 then (f_Mo_loose_60 S) else (if a0 < 38 then (f_Mo_loose_48 a0 S) else (if a0 ≤ 44 then (f_Mo_loose_60 S) else (f_Mo_loose_48 a0 S)))))))))
set_option maxHeartbeats 4000000 in
set_option maxRecDepth 100000 in
theorem c_Mo_loose (l : Launch) (g : zG) (hD : GD g) (a0 : Int32) (S : zSt) (u : Int32) (h : f_Mo_loose a0 S = some u) : Met l y_Mo_loose (mw y_Mo_loose b_Mo_loose 1 (some .boolean)) (rmD 0) (Pw g [.int a0] S) (Qip g S u) 0 0 (gA g) := by
  refine z_go (own := R_Mo) (lv0 := [(0, .int a0)]) hD (by decide) rfl (Nat.le_of_ble_eq_true rfl) rfl ?_
  intro p e s m args below meth c C D ls hl
  have hx := C.1
  have hb := C.2.1
  have hown := C.2.2.2.1
  have hts := C.2.2.2.2.1
  have B60 : ∀ (H : Heap) (locs : List Loc) (ls : Array Slot), f_Mo_loose_60 S = some u → Dy g s S H locs → lv_has ls 1 [] → W p l e (rmD 0) s m args below meth c H locs 0 0 (MQ below (Qip g S u) args s 0 0 (gA g)) (F0 m 60 ls []) := by
    intro H locs ls h D hl
    unfold f_Mo_loose_60 at h
    refine lv_iconst (v := 1) hx hb d_Mo_loose_60 (by decide) ?_
    refine lv_goto hx hb d_Mo_loose_61 rfl ?_
    exact x_zrp C D h d_Mo_loose_65
  have B48 : ∀ (H : Heap) (locs : List Loc) (ls : Array Slot) (a0 : Int32), f_Mo_loose_48 a0 S = some u → Dy g s S H locs → lv_has ls 1 [(0, .int a0)] → W p l e (rmD 0) s m args below meth c H locs 0 0 (MQ below (Qip g S u) args s 0 0 (gA g)) (F0 m 48 ls []) := by
    intro H locs ls a0 h D hl
    unfold f_Mo_loose_48 at h
    refine lv_iload_n hx hb d_Mo_loose_48 rfl (lv_at hl 0 rfl) ?_
    refine lv_bipush (v := 59) hx hb d_Mo_loose_49 (by decide) ?_
    refine lv_icmp_eq hx hb d_Mo_loose_51 rfl (fun z => ?_) (fun z => ?_)
    · replace h := if_t z h
      exact B60 _ _ _ h D (lv_sub hl [] rfl)
    · replace h := if_f z h
      refine lv_iload_n hx hb d_Mo_loose_54 rfl (lv_at hl 0 rfl) ?_
      refine lv_bipush (v := 61) hx hb d_Mo_loose_55 (by decide) ?_
      refine lv_icmp_ne hx hb d_Mo_loose_57 rfl (fun z => ?_) (fun z => ?_)
      · replace h := if_f z h
        refine lv_iconst (v := 0) hx hb d_Mo_loose_64 (by decide) ?_
        exact x_zrp C D h d_Mo_loose_65
      · replace h := if_t z h
        exact B60 _ _ _ h D (lv_sub hl [] rfl)
  unfold f_Mo_loose at h
  refine lv_iload_n hx hb d_Mo_loose_0 rfl (lv_at hl 0 rfl) ?_
  refine lv_bipush (v := 58) hx hb d_Mo_loose_1 (by decide) ?_
  refine lv_icmp_eq hx hb d_Mo_loose_3 rfl (fun z => ?_) (fun z => ?_)
  · replace h := if_t z h
    exact B60 _ _ _ h D (lv_sub hl [] rfl)
  · replace h := if_f z h
    refine lv_iload_n hx hb d_Mo_loose_6 rfl (lv_at hl 0 rfl) ?_
    refine lv_bipush (v := 47) hx hb d_Mo_loose_7 (by decide) ?_
    refine lv_icmp_eq hx hb d_Mo_loose_9 rfl (fun z => ?_) (fun z => ?_)
    · replace h := if_t z h
      exact B60 _ _ _ h D (lv_sub hl [] rfl)
    · replace h := if_f z h
      refine lv_iload_n hx hb d_Mo_loose_12 rfl (lv_at hl 0 rfl) ?_
      refine lv_bipush (v := 63) hx hb d_Mo_loose_13 (by decide) ?_
      refine lv_icmp_eq hx hb d_Mo_loose_15 rfl (fun z => ?_) (fun z => ?_)
      · replace h := if_t z h
        exact B60 _ _ _ h D (lv_sub hl [] rfl)
      · replace h := if_f z h
        refine lv_iload_n hx hb d_Mo_loose_18 rfl (lv_at hl 0 rfl) ?_
        refine lv_bipush (v := 64) hx hb d_Mo_loose_19 (by decide) ?_
        refine lv_icmp_eq hx hb d_Mo_loose_21 rfl (fun z => ?_) (fun z => ?_)
        · replace h := if_t z h
          exact B60 _ _ _ h D (lv_sub hl [] rfl)
        · replace h := if_f z h
          refine lv_iload_n hx hb d_Mo_loose_24 rfl (lv_at hl 0 rfl) ?_
          refine lv_bipush (v := 33) hx hb d_Mo_loose_25 (by decide) ?_
          refine lv_icmp_eq hx hb d_Mo_loose_27 rfl (fun z => ?_) (fun z => ?_)
          · replace h := if_t z h
            exact B60 _ _ _ h D (lv_sub hl [] rfl)
          · replace h := if_f z h
            refine lv_iload_n hx hb d_Mo_loose_30 rfl (lv_at hl 0 rfl) ?_
            refine lv_bipush (v := 36) hx hb d_Mo_loose_31 (by decide) ?_
            refine lv_icmp_eq hx hb d_Mo_loose_33 rfl (fun z => ?_) (fun z => ?_)
            · replace h := if_t z h
              exact B60 _ _ _ h D (lv_sub hl [] rfl)
            · replace h := if_f z h
              refine lv_iload_n hx hb d_Mo_loose_36 rfl (lv_at hl 0 rfl) ?_
              refine lv_bipush (v := 38) hx hb d_Mo_loose_37 (by decide) ?_
              refine lv_icmp_lt hx hb d_Mo_loose_39 rfl (fun z => ?_) (fun z => ?_)
              · replace h := if_t z h
                exact B48 _ _ _ _ h D (lv_sub hl [0] rfl)
              · replace h := if_f z h
                refine lv_iload_n hx hb d_Mo_loose_42 rfl (lv_at hl 0 rfl) ?_
                refine lv_bipush (v := 44) hx hb d_Mo_loose_43 (by decide) ?_
                refine lv_icmp_le hx hb d_Mo_loose_45 rfl (fun z => ?_) (fun z => ?_)
                · replace h := if_t z h
                  exact B60 _ _ _ h D (lv_sub hl [] rfl)
                · replace h := if_f z h
                  exact B48 _ _ _ _ h D (lv_sub hl [0] rfl)
