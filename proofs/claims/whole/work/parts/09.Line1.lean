theorem d_Line_clear_0 : decode b_Line_clear 0 = .ok (.aload_n 0, 1) := by decide +kernel
theorem d_Line_clear_1 : decode b_Line_clear 1 = .ok (.iconst 0, 1) := by decide +kernel
theorem d_Line_clear_2 : decode b_Line_clear 2 = .ok (.putfield 13, 3) := by decide +kernel
theorem d_Line_clear_5 : decode b_Line_clear 5 = .ok (.aload_n 0, 1) := by decide +kernel
theorem d_Line_clear_6 : decode b_Line_clear 6 = .ok (.iconst 0, 1) := by decide +kernel
theorem d_Line_clear_7 : decode b_Line_clear 7 = .ok (.putfield 17, 3) := by decide +kernel
theorem d_Line_clear_10 : decode b_Line_clear 10 = .ok (.return_, 1) := by decide +kernel
def f_Line_clear (S : zSt) : Option zSt := sq (su S 7 1 0) fun S1 => gdb 0 (sq (su S1 7 2 0) fun S2 => (some S2))
set_option maxHeartbeats 4000000 in
set_option maxRecDepth 100000 in
theorem c_Line_clear (l : Launch) (g : zG) (hD : GD g) (S : zSt) (u : zSt) (h : f_Line_clear S = some u) : Met l y_Line_clear (mw y_Line_clear b_Line_clear 1 none) (rmD 0) (Pw g [.ref (ga g 7)] S) (Qvs g u) 0 0 (gA g) := by
  refine z_go (own := R_Line) (lv0 := [(0, .ref (ga g 7))]) hD (by decide) rfl (Nat.le_of_ble_eq_true rfl) rfl ?_
  intro p e s m args below meth c C D ls hl
  have hx := C.1
  have hb := C.2.1
  have hown := C.2.2.2.1
  have hts := C.2.2.2.2.1
  unfold f_Line_clear at h
  refine lv_aload_n hx hb d_Line_clear_0 rfl (lv_at hl 0 rfl) ?_
  refine lv_iconst (v := 0) hx hb d_Line_clear_1 (by decide) ?_
  refine x_put C D kc_Line (by decide) sh_7 1 rfl (by decide) wf_Line_13 rfl rfl 0 rfl ⟨rfl, rfl⟩ d_Line_clear_2 h (fun S1 H locs h D => ?_)
  refine lv_aload_n hx hb d_Line_clear_5 rfl (lv_at hl 0 rfl) ?_
  refine lv_iconst (v := 0) hx hb d_Line_clear_6 (by decide) ?_
  obtain ⟨z3, h⟩ := gdb_some h
  refine x_put C D kc_Line (by decide) sh_7 2 rfl (by decide) wf_Line_17 rfl rfl 0 rfl z3 d_Line_clear_7 h (fun S2 H locs h D => ?_)
  exact x_vrs C D h d_Line_clear_10
theorem d_Line_add_0 : decode b_Line_add 0 = .ok (.aload_n 0, 1) := by decide +kernel
theorem d_Line_add_1 : decode b_Line_add 1 = .ok (.getfield 17, 3) := by decide +kernel
theorem d_Line_add_4 : decode b_Line_add 4 = .ok (.ifCond .eq 15, 3) := by decide +kernel
theorem d_Line_add_7 : decode b_Line_add 7 = .ok (.iload_n 1, 1) := by decide +kernel
theorem d_Line_add_8 : decode b_Line_add 8 = .ok (.bipush 10, 2) := by decide +kernel
theorem d_Line_add_10 : decode b_Line_add 10 = .ok (.if_icmp .ne 7, 3) := by decide +kernel
theorem d_Line_add_13 : decode b_Line_add 13 = .ok (.iconst 1, 1) := by decide +kernel
theorem d_Line_add_14 : decode b_Line_add 14 = .ok (.goto 4, 3) := by decide +kernel
theorem d_Line_add_17 : decode b_Line_add 17 = .ok (.iconst 2, 1) := by decide +kernel
theorem d_Line_add_18 : decode b_Line_add 18 = .ok (.ireturn, 1) := by decide +kernel
theorem d_Line_add_19 : decode b_Line_add 19 = .ok (.iload_n 1, 1) := by decide +kernel
theorem d_Line_add_20 : decode b_Line_add 20 = .ok (.bipush 13, 2) := by decide +kernel
theorem d_Line_add_22 : decode b_Line_add 22 = .ok (.if_icmp .ne 10, 3) := by decide +kernel
theorem d_Line_add_25 : decode b_Line_add 25 = .ok (.aload_n 0, 1) := by decide +kernel
theorem d_Line_add_26 : decode b_Line_add 26 = .ok (.iconst 1, 1) := by decide +kernel
theorem d_Line_add_27 : decode b_Line_add 27 = .ok (.putfield 17, 3) := by decide +kernel
theorem d_Line_add_30 : decode b_Line_add 30 = .ok (.iconst 0, 1) := by decide +kernel
theorem d_Line_add_31 : decode b_Line_add 31 = .ok (.ireturn, 1) := by decide +kernel
theorem d_Line_add_32 : decode b_Line_add 32 = .ok (.aload_n 0, 1) := by decide +kernel
theorem d_Line_add_33 : decode b_Line_add 33 = .ok (.getfield 13, 3) := by decide +kernel
theorem d_Line_add_36 : decode b_Line_add 36 = .ok (.bipush 60, 2) := by decide +kernel
theorem d_Line_add_38 : decode b_Line_add 38 = .ok (.if_icmp .ge 21, 3) := by decide +kernel
theorem d_Line_add_41 : decode b_Line_add 41 = .ok (.iload_n 1, 1) := by decide +kernel
theorem d_Line_add_42 : decode b_Line_add 42 = .ok (.bipush 9, 2) := by decide +kernel
theorem d_Line_add_44 : decode b_Line_add 44 = .ok (.if_icmp .eq 17, 3) := by decide +kernel
theorem d_Line_add_47 : decode b_Line_add 47 = .ok (.iload_n 1, 1) := by decide +kernel
theorem d_Line_add_48 : decode b_Line_add 48 = .ok (.bipush 32, 2) := by decide +kernel
theorem d_Line_add_50 : decode b_Line_add 50 = .ok (.if_icmp .lt 9, 3) := by decide +kernel
theorem d_Line_add_53 : decode b_Line_add 53 = .ok (.iload_n 1, 1) := by decide +kernel
theorem d_Line_add_54 : decode b_Line_add 54 = .ok (.bipush 126, 2) := by decide +kernel
theorem d_Line_add_56 : decode b_Line_add 56 = .ok (.if_icmp .le 5, 3) := by decide +kernel
theorem d_Line_add_59 : decode b_Line_add 59 = .ok (.iconst 2, 1) := by decide +kernel
theorem d_Line_add_60 : decode b_Line_add 60 = .ok (.ireturn, 1) := by decide +kernel
theorem d_Line_add_61 : decode b_Line_add 61 = .ok (.aload_n 0, 1) := by decide +kernel
theorem d_Line_add_62 : decode b_Line_add 62 = .ok (.getfield 9, 3) := by decide +kernel
theorem d_Line_add_65 : decode b_Line_add 65 = .ok (.aload_n 0, 1) := by decide +kernel
theorem d_Line_add_66 : decode b_Line_add 66 = .ok (.getfield 13, 3) := by decide +kernel
theorem d_Line_add_69 : decode b_Line_add 69 = .ok (.iload_n 1, 1) := by decide +kernel
theorem d_Line_add_70 : decode b_Line_add 70 = .ok (.i2c, 1) := by decide +kernel
theorem d_Line_add_71 : decode b_Line_add 71 = .ok (.castore, 1) := by decide +kernel
theorem d_Line_add_72 : decode b_Line_add 72 = .ok (.aload_n 0, 1) := by decide +kernel
theorem d_Line_add_73 : decode b_Line_add 73 = .ok (.dup, 1) := by decide +kernel
theorem d_Line_add_74 : decode b_Line_add 74 = .ok (.getfield 13, 3) := by decide +kernel
theorem d_Line_add_77 : decode b_Line_add 77 = .ok (.iconst 1, 1) := by decide +kernel
theorem d_Line_add_78 : decode b_Line_add 78 = .ok (.iadd, 1) := by decide +kernel
theorem d_Line_add_79 : decode b_Line_add 79 = .ok (.putfield 13, 3) := by decide +kernel
theorem d_Line_add_82 : decode b_Line_add 82 = .ok (.iconst 0, 1) := by decide +kernel
theorem d_Line_add_83 : decode b_Line_add 83 = .ok (.ireturn, 1) := by decide +kernel
def f_Line_add_61 (a1 : Int32) (S : zSt) : Option (Int32 × zSt) := gdi (S 7 1) 60 (sq (su S 8 (S 7 1).toNatClampNeg (vp_nar .char ((a1.toUInt32 % 65536).toInt32))) fun S1 => sq (su S1 7 1 ((S1 7 1) + 1)) fun S2 => (some (0, S2)))
def f_Line_add (a1 : Int32) (S : zSt) : Option (Int32 × zSt) := (if (S 7 2) = 0 then (if a1 = 13 then gdb 1 (sq (su S 7 2 1) fun S3 => (some (0, S3))) else (if 60 ≤ (S 7 1) then (some (2, S)) else (if a1 = 9 then (f_Line_add_61 a1 S) else (if a1 < 32 then (some (2, S)) else (if a1 ≤ 126 then (f_Line_add_61 a1 S) else (some (2, S))))))) else (if a1 = 10 then (some (1, S)) else (some (2, S))))
set_option maxHeartbeats 4000000 in
set_option maxRecDepth 100000 in
theorem c_Line_add (l : Launch) (g : zG) (hD : GD g) (a1 : Int32) (S : zSt) (u : (Int32 × zSt)) (h : f_Line_add a1 S = some u) : Met l y_Line_add (mw y_Line_add b_Line_add 2 (some .int)) (rmD 0) (Pw g [.ref (ga g 7), .int a1] S) (Qis g u) 0 0 (gA g) := by
  refine z_go (own := R_Line) (lv0 := [(0, .ref (ga g 7)), (1, .int a1)]) hD (by decide) rfl (Nat.le_of_ble_eq_true rfl) rfl ?_
  intro p e s m args below meth c C D ls hl
  have hx := C.1
  have hb := C.2.1
  have hown := C.2.2.2.1
  have hts := C.2.2.2.2.1
  have B61 : ∀ (H : Heap) (locs : List Loc) (S : zSt) (ls : Array Slot) (a1 : Int32), f_Line_add_61 a1 S = some u → Dy g s S H locs → lv_has ls 2 [(0, .ref (ga g 7)), (1, .int a1)] → W p l e (rmD 0) s m args below meth c H locs 0 0 (MQ below (Qis g u) args s 0 0 (gA g)) (F0 m 61 ls []) := by
    intro H locs S ls a1 h D hl
    unfold f_Line_add_61 at h
    refine lv_aload_n hx hb d_Line_add_61 rfl (lv_at hl 0 rfl) ?_
    refine x_get (v := .ref (ga g 8)) C D kc_Line (by decide) sh_7 0 rfl (by decide) wf_Line_9 rfl rfl d_Line_add_62 ?_
    refine lv_aload_n hx hb d_Line_add_65 rfl (lv_at hl 0 rfl) ?_
    refine x_get (v := .int (S 7 1)) C D kc_Line (by decide) sh_7 1 rfl (by decide) wf_Line_13 rfl rfl d_Line_add_66 ?_
    refine lv_iload_n hx hb d_Line_add_69 rfl (lv_at hl 1 rfl) ?_
    refine lv_i2c hx hb d_Line_add_70 rfl ?_
    refine x_cast C D (by decide) sh_8 d_Line_add_71 h (fun S1 H locs h D => ?_)
    refine lv_aload_n hx hb d_Line_add_72 rfl (lv_at hl 0 rfl) ?_
    refine lv_dup hx hb d_Line_add_73 rfl ?_
    refine x_get (v := .int (S1 7 1)) C D kc_Line (by decide) sh_7 1 rfl (by decide) wf_Line_13 rfl rfl d_Line_add_74 ?_
    refine lv_iconst (v := 1) hx hb d_Line_add_77 (by decide) ?_
    refine lv_iadd hx hb d_Line_add_78 ?_
    refine x_put C D kc_Line (by decide) sh_7 1 rfl (by decide) wf_Line_13 rfl rfl ((S1 7 1) + 1) rfl ⟨rfl, rfl⟩ d_Line_add_79 h (fun S2 H locs h D => ?_)
    refine lv_iconst (v := 0) hx hb d_Line_add_82 (by decide) ?_
    exact x_irs C D h d_Line_add_83
  unfold f_Line_add at h
  refine lv_aload_n hx hb d_Line_add_0 rfl (lv_at hl 0 rfl) ?_
  refine x_get (v := .int (S 7 2)) C D kc_Line (by decide) sh_7 2 rfl (by decide) wf_Line_17 rfl rfl d_Line_add_1 ?_
  refine lv_if_eq hx hb d_Line_add_4 rfl (fun z => ?_) (fun z => ?_)
  · replace h := if_t z h
    refine lv_iload_n hx hb d_Line_add_19 rfl (lv_at hl 1 rfl) ?_
    refine lv_bipush (v := 13) hx hb d_Line_add_20 (by decide) ?_
    refine lv_icmp_ne hx hb d_Line_add_22 rfl (fun z => ?_) (fun z => ?_)
    · replace h := if_f z h
      refine lv_aload_n hx hb d_Line_add_32 rfl (lv_at hl 0 rfl) ?_
      refine x_get (v := .int (S 7 1)) C D kc_Line (by decide) sh_7 1 rfl (by decide) wf_Line_13 rfl rfl d_Line_add_33 ?_
      refine lv_bipush (v := 60) hx hb d_Line_add_36 (by decide) ?_
      refine lv_icmp_ge hx hb d_Line_add_38 rfl (fun z => ?_) (fun z => ?_)
      · replace h := if_t z h
        refine lv_iconst (v := 2) hx hb d_Line_add_59 (by decide) ?_
        exact x_irs C D h d_Line_add_60
      · replace h := if_f z h
        refine lv_iload_n hx hb d_Line_add_41 rfl (lv_at hl 1 rfl) ?_
        refine lv_bipush (v := 9) hx hb d_Line_add_42 (by decide) ?_
        refine lv_icmp_eq hx hb d_Line_add_44 rfl (fun z => ?_) (fun z => ?_)
        · replace h := if_t z h
          exact B61 _ _ _ _ _ h D (lv_sub hl [0, 1] rfl)
        · replace h := if_f z h
          refine lv_iload_n hx hb d_Line_add_47 rfl (lv_at hl 1 rfl) ?_
          refine lv_bipush (v := 32) hx hb d_Line_add_48 (by decide) ?_
          refine lv_icmp_lt hx hb d_Line_add_50 rfl (fun z => ?_) (fun z => ?_)
          · replace h := if_t z h
            refine lv_iconst (v := 2) hx hb d_Line_add_59 (by decide) ?_
            exact x_irs C D h d_Line_add_60
          · replace h := if_f z h
            refine lv_iload_n hx hb d_Line_add_53 rfl (lv_at hl 1 rfl) ?_
            refine lv_bipush (v := 126) hx hb d_Line_add_54 (by decide) ?_
            refine lv_icmp_le hx hb d_Line_add_56 rfl (fun z => ?_) (fun z => ?_)
            · replace h := if_t z h
              exact B61 _ _ _ _ _ h D (lv_sub hl [0, 1] rfl)
            · replace h := if_f z h
              refine lv_iconst (v := 2) hx hb d_Line_add_59 (by decide) ?_
              exact x_irs C D h d_Line_add_60
    · replace h := if_t z h
      refine lv_aload_n hx hb d_Line_add_25 rfl (lv_at hl 0 rfl) ?_
      refine lv_iconst (v := 1) hx hb d_Line_add_26 (by decide) ?_
      obtain ⟨z4, h⟩ := gdb_some h
      refine x_put C D kc_Line (by decide) sh_7 2 rfl (by decide) wf_Line_17 rfl rfl 1 rfl z4 d_Line_add_27 h (fun S3 H locs h D => ?_)
      refine lv_iconst (v := 0) hx hb d_Line_add_30 (by decide) ?_
      exact x_irs C D h d_Line_add_31
  · replace h := if_f z h
    refine lv_iload_n hx hb d_Line_add_7 rfl (lv_at hl 1 rfl) ?_
    refine lv_bipush (v := 10) hx hb d_Line_add_8 (by decide) ?_
    refine lv_icmp_ne hx hb d_Line_add_10 rfl (fun z => ?_) (fun z => ?_)
    · replace h := if_f z h
      refine lv_iconst (v := 2) hx hb d_Line_add_17 (by decide) ?_
      exact x_irs C D h d_Line_add_18
    · replace h := if_t z h
      refine lv_iconst (v := 1) hx hb d_Line_add_13 (by decide) ?_
      refine lv_goto hx hb d_Line_add_14 rfl ?_
      exact x_irs C D h d_Line_add_18
theorem d_Line_at_0 : decode b_Line_at 0 = .ok (.iload_n 1, 1) := by decide +kernel
theorem d_Line_at_1 : decode b_Line_at 1 = .ok (.ifCond .lt 20, 3) := by decide +kernel
theorem d_Line_at_4 : decode b_Line_at 4 = .ok (.iload_n 1, 1) := by decide +kernel
theorem d_Line_at_5 : decode b_Line_at 5 = .ok (.aload_n 0, 1) := by decide +kernel
theorem d_Line_at_6 : decode b_Line_at 6 = .ok (.getfield 13, 3) := by decide +kernel
theorem d_Line_at_9 : decode b_Line_at 9 = .ok (.if_icmp .ge 12, 3) := by decide +kernel
theorem d_Line_at_12 : decode b_Line_at 12 = .ok (.aload_n 0, 1) := by decide +kernel
theorem d_Line_at_13 : decode b_Line_at 13 = .ok (.getfield 9, 3) := by decide +kernel
theorem d_Line_at_16 : decode b_Line_at 16 = .ok (.iload_n 1, 1) := by decide +kernel
theorem d_Line_at_17 : decode b_Line_at 17 = .ok (.caload, 1) := by decide +kernel
theorem d_Line_at_18 : decode b_Line_at 18 = .ok (.goto 4, 3) := by decide +kernel
theorem d_Line_at_21 : decode b_Line_at 21 = .ok (.iconst 0, 1) := by decide +kernel
theorem d_Line_at_22 : decode b_Line_at 22 = .ok (.ireturn, 1) := by decide +kernel
def f_Line_at_21 (S : zSt) : Option Int32 := (gdc 0 (some 0))
def f_Line_at (a1 : Int32) (S : zSt) : Option Int32 := (if a1 < 0 then (f_Line_at_21 S) else (if (S 7 1) ≤ a1 then (f_Line_at_21 S) else gdi a1 60 ((gdc (S 8 a1.toNatClampNeg) (some (S 8 a1.toNatClampNeg))))))
set_option maxHeartbeats 4000000 in
set_option maxRecDepth 100000 in
theorem c_Line_at (l : Launch) (g : zG) (hD : GD g) (a1 : Int32) (S : zSt) (u : Int32) (h : f_Line_at a1 S = some u) : Met l y_Line_at (mw y_Line_at b_Line_at 2 (some .char)) (rmD 0) (Pw g [.ref (ga g 7), .int a1] S) (Qip g S u) 0 0 (gA g) := by
  refine z_go (own := R_Line) (lv0 := [(0, .ref (ga g 7)), (1, .int a1)]) hD (by decide) rfl (Nat.le_of_ble_eq_true rfl) rfl ?_
  intro p e s m args below meth c C D ls hl
  have hx := C.1
  have hb := C.2.1
  have hown := C.2.2.2.1
  have hts := C.2.2.2.2.1
  have B21 : ∀ (H : Heap) (locs : List Loc) (ls : Array Slot), f_Line_at_21 S = some u → Dy g s S H locs → lv_has ls 2 [] → W p l e (rmD 0) s m args below meth c H locs 0 0 (MQ below (Qip g S u) args s 0 0 (gA g)) (F0 m 21 ls []) := by
    intro H locs ls h D hl
    unfold f_Line_at_21 at h
    refine lv_iconst (v := 0) hx hb d_Line_at_21 (by decide) ?_
    exact x_crp C D h d_Line_at_22
  unfold f_Line_at at h
  refine lv_iload_n hx hb d_Line_at_0 rfl (lv_at hl 1 rfl) ?_
  refine lv_if_lt hx hb d_Line_at_1 rfl (fun z => ?_) (fun z => ?_)
  · replace h := if_t z h
    exact B21 _ _ _ h D (lv_sub hl [] rfl)
  · replace h := if_f z h
    refine lv_iload_n hx hb d_Line_at_4 rfl (lv_at hl 1 rfl) ?_
    refine lv_aload_n hx hb d_Line_at_5 rfl (lv_at hl 0 rfl) ?_
    refine x_get (v := .int (S 7 1)) C D kc_Line (by decide) sh_7 1 rfl (by decide) wf_Line_13 rfl rfl d_Line_at_6 ?_
    refine lv_icmp_ge hx hb d_Line_at_9 rfl (fun z => ?_) (fun z => ?_)
    · replace h := if_t z h
      exact B21 _ _ _ h D (lv_sub hl [] rfl)
    · replace h := if_f z h
      refine lv_aload_n hx hb d_Line_at_12 rfl (lv_at hl 0 rfl) ?_
      refine x_get (v := .ref (ga g 8)) C D kc_Line (by decide) sh_7 0 rfl (by decide) wf_Line_9 rfl rfl d_Line_at_13 ?_
      refine lv_iload_n hx hb d_Line_at_16 rfl (lv_at hl 1 rfl) ?_
      refine x_cald C D (by decide) sh_8 d_Line_at_17 h (fun _ h => ?_)
      refine lv_goto hx hb d_Line_at_18 rfl ?_
      exact x_crp C D h d_Line_at_22
theorem d_Line_colonBehindName_0 : decode b_Line_colonBehindName 0 = .ok (.iconst 0, 1) := by decide +kernel
theorem d_Line_colonBehindName_1 : decode b_Line_colonBehindName 1 = .ok (.istore_n 1, 1) := by decide +kernel
theorem d_Line_colonBehindName_2 : decode b_Line_colonBehindName 2 = .ok (.iload_n 1, 1) := by decide +kernel
theorem d_Line_colonBehindName_3 : decode b_Line_colonBehindName 3 = .ok (.aload_n 0, 1) := by decide +kernel
theorem d_Line_colonBehindName_4 : decode b_Line_colonBehindName 4 = .ok (.getfield 13, 3) := by decide +kernel
theorem d_Line_colonBehindName_7 : decode b_Line_colonBehindName 7 = .ok (.if_icmp .ge 55, 3) := by decide +kernel
theorem d_Line_colonBehindName_10 : decode b_Line_colonBehindName 10 = .ok (.aload_n 0, 1) := by decide +kernel
theorem d_Line_colonBehindName_11 : decode b_Line_colonBehindName 11 = .ok (.getfield 9, 3) := by decide +kernel
theorem d_Line_colonBehindName_14 : decode b_Line_colonBehindName 14 = .ok (.iload_n 1, 1) := by decide +kernel
theorem d_Line_colonBehindName_15 : decode b_Line_colonBehindName 15 = .ok (.caload, 1) := by decide +kernel
theorem d_Line_colonBehindName_16 : decode b_Line_colonBehindName 16 = .ok (.bipush 58, 2) := by decide +kernel
theorem d_Line_colonBehindName_18 : decode b_Line_colonBehindName 18 = .ok (.if_icmp .ne 13, 3) := by decide +kernel
theorem d_Line_colonBehindName_21 : decode b_Line_colonBehindName 21 = .ok (.iload_n 1, 1) := by decide +kernel
theorem d_Line_colonBehindName_22 : decode b_Line_colonBehindName 22 = .ok (.ifCond .le 7, 3) := by decide +kernel
theorem d_Line_colonBehindName_25 : decode b_Line_colonBehindName 25 = .ok (.iload_n 1, 1) := by decide +kernel
theorem d_Line_colonBehindName_26 : decode b_Line_colonBehindName 26 = .ok (.goto 4, 3) := by decide +kernel
theorem d_Line_colonBehindName_29 : decode b_Line_colonBehindName 29 = .ok (.iconst (-1), 1) := by decide +kernel
theorem d_Line_colonBehindName_30 : decode b_Line_colonBehindName 30 = .ok (.ireturn, 1) := by decide +kernel
theorem d_Line_colonBehindName_31 : decode b_Line_colonBehindName 31 = .ok (.aload_n 0, 1) := by decide +kernel
theorem d_Line_colonBehindName_32 : decode b_Line_colonBehindName 32 = .ok (.getfield 9, 3) := by decide +kernel
theorem d_Line_colonBehindName_35 : decode b_Line_colonBehindName 35 = .ok (.iload_n 1, 1) := by decide +kernel
theorem d_Line_colonBehindName_36 : decode b_Line_colonBehindName 36 = .ok (.caload, 1) := by decide +kernel
theorem d_Line_colonBehindName_37 : decode b_Line_colonBehindName 37 = .ok (.invokestatic 40, 3) := by decide +kernel
theorem d_Line_colonBehindName_40 : decode b_Line_colonBehindName 40 = .ok (.ifCond .ne 16, 3) := by decide +kernel
theorem d_Line_colonBehindName_43 : decode b_Line_colonBehindName 43 = .ok (.aload_n 0, 1) := by decide +kernel
theorem d_Line_colonBehindName_44 : decode b_Line_colonBehindName 44 = .ok (.getfield 9, 3) := by decide +kernel
theorem d_Line_colonBehindName_47 : decode b_Line_colonBehindName 47 = .ok (.iload_n 1, 1) := by decide +kernel
theorem d_Line_colonBehindName_48 : decode b_Line_colonBehindName 48 = .ok (.caload, 1) := by decide +kernel
theorem d_Line_colonBehindName_49 : decode b_Line_colonBehindName 49 = .ok (.bipush 45, 2) := by decide +kernel
theorem d_Line_colonBehindName_51 : decode b_Line_colonBehindName 51 = .ok (.if_icmp .eq 5, 3) := by decide +kernel
theorem d_Line_colonBehindName_54 : decode b_Line_colonBehindName 54 = .ok (.iconst (-1), 1) := by decide +kernel
theorem d_Line_colonBehindName_55 : decode b_Line_colonBehindName 55 = .ok (.ireturn, 1) := by decide +kernel
theorem d_Line_colonBehindName_56 : decode b_Line_colonBehindName 56 = .ok (.iinc 1 1, 3) := by decide +kernel
theorem d_Line_colonBehindName_59 : decode b_Line_colonBehindName 59 = .ok (.goto (-57), 3) := by decide +kernel
theorem d_Line_colonBehindName_62 : decode b_Line_colonBehindName 62 = .ok (.iconst (-1), 1) := by decide +kernel
theorem d_Line_colonBehindName_63 : decode b_Line_colonBehindName 63 = .ok (.ireturn, 1) := by decide +kernel
def f_Line_colonBehindName_56 (K2 : Int32 → zSt → Option Int32) (a1 : Int32) (S : zSt) : Option Int32 := (K2 (a1 + 1) S)
def f_Line_colonBehindName_2 : Nat → Int32 → zSt → Option Int32
  | 0, _, _ => none
  | n + 1, a1, S => (if (S 7 1) ≤ a1 then (some (-1)) else gdi a1 60 ((if (S 8 a1.toNatClampNeg) = 58 then (if a1 ≤ 0 then (some (-1)) else (some a1)) else gdi a1 60 (((f_Chars_isLetterOrDigit (S 8 a1.toNatClampNeg) S).bind fun u1 => (if u1 = 0 then gdi a1 60 ((if (S 8 a1.toNatClampNeg) = 45 then (f_Line_colonBehindName_56 (f_Line_colonBehindName_2 n) a1 S) else (some (-1)))) else (f_Line_colonBehindName_56 (f_Line_colonBehindName_2 n) a1 S)))))))
def f_Line_colonBehindName (S : zSt) : Option Int32 := (f_Line_colonBehindName_2 fu 0 S)
set_option maxHeartbeats 4000000 in
set_option maxRecDepth 100000 in
theorem c_Line_colonBehindName (l : Launch) (g : zG) (hD : GD g) (S : zSt) (u : Int32) (h : f_Line_colonBehindName S = some u) : Met l y_Line_colonBehindName (mw y_Line_colonBehindName b_Line_colonBehindName 2 (some .int)) (rmD 1) (Pw g [.ref (ga g 7)] S) (Qip g S u) 0 0 (gA g) := by
  refine z_go (own := R_Line) (lv0 := [(0, .ref (ga g 7))]) hD (by decide) rfl (Nat.le_of_ble_eq_true rfl) rfl ?_
  intro p e s m args below meth c C D ls hl
  have hx := C.1
  have hb := C.2.1
  have hown := C.2.2.2.1
  have hts := C.2.2.2.2.1
  have B56 : ∀ (K2 : Int32 → zSt → Option Int32) (hK2 : ∀ (H : Heap) (locs : List Loc) (ls : Array Slot) (a1 : Int32), K2 a1 S = some u → Dy g s S H locs → lv_has ls 2 [(0, .ref (ga g 7)), (1, .int a1)] → W p l e (rmD 1) s m args below meth c H locs 0 0 (MQ below (Qip g S u) args s 0 0 (gA g)) (F0 m 2 ls [])) (H : Heap) (locs : List Loc) (ls : Array Slot) (a1 : Int32), f_Line_colonBehindName_56 K2 a1 S = some u → Dy g s S H locs → lv_has ls 2 [(0, .ref (ga g 7)), (1, .int a1)] → W p l e (rmD 1) s m args below meth c H locs 0 0 (MQ below (Qip g S u) args s 0 0 (gA g)) (F0 m 56 ls []) := by
    intro K2 hK2 H locs ls a1 h D hl
    unfold f_Line_colonBehindName_56 at h
    refine lv_iinc (k := 1) (lv' := [(1, .int (a1 + 1)), (0, .ref (ga g 7))]) hx hb d_Line_colonBehindName_56 hl rfl (ii1 _) (by decide) rfl (fun ls hl => ?_)
    refine lv_goto hx hb d_Line_colonBehindName_59 rfl ?_
    exact hK2 _ _ _ _ h D (lv_sub hl [1, 0] rfl)
  have L2 : ∀ (n : Nat) (H : Heap) (locs : List Loc) (ls : Array Slot) (a1 : Int32), f_Line_colonBehindName_2 n a1 S = some u → Dy g s S H locs → lv_has ls 2 [(0, .ref (ga g 7)), (1, .int a1)] → W p l e (rmD 1) s m args below meth c H locs 0 0 (MQ below (Qip g S u) args s 0 0 (gA g)) (F0 m 2 ls []) := by
    intro n
    induction n with
    | zero => intro H locs ls a1 h D hl; rw [f_Line_colonBehindName_2] at h; cases h
    | succ n hK2 =>
      intro H locs ls a1 h D hl
      rw [f_Line_colonBehindName_2] at h
      refine lv_iload_n hx hb d_Line_colonBehindName_2 rfl (lv_at hl 1 rfl) ?_
      refine lv_aload_n hx hb d_Line_colonBehindName_3 rfl (lv_at hl 0 rfl) ?_
      refine x_get (v := .int (S 7 1)) C D kc_Line (by decide) sh_7 1 rfl (by decide) wf_Line_13 rfl rfl d_Line_colonBehindName_4 ?_
      refine lv_icmp_ge hx hb d_Line_colonBehindName_7 rfl (fun z => ?_) (fun z => ?_)
      · replace h := if_t z h
        refine lv_iconst (v := (-1)) hx hb d_Line_colonBehindName_62 (by decide) ?_
        exact x_irp C D h d_Line_colonBehindName_63
      · replace h := if_f z h
        refine lv_aload_n hx hb d_Line_colonBehindName_10 rfl (lv_at hl 0 rfl) ?_
        refine x_get (v := .ref (ga g 8)) C D kc_Line (by decide) sh_7 0 rfl (by decide) wf_Line_9 rfl rfl d_Line_colonBehindName_11 ?_
        refine lv_iload_n hx hb d_Line_colonBehindName_14 rfl (lv_at hl 1 rfl) ?_
        refine x_cald C D (by decide) sh_8 d_Line_colonBehindName_15 h (fun _ h => ?_)
        refine lv_bipush (v := 58) hx hb d_Line_colonBehindName_16 (by decide) ?_
        refine lv_icmp_ne hx hb d_Line_colonBehindName_18 rfl (fun z => ?_) (fun z => ?_)
        · replace h := if_f z h
          refine lv_aload_n hx hb d_Line_colonBehindName_31 rfl (lv_at hl 0 rfl) ?_
          refine x_get (v := .ref (ga g 8)) C D kc_Line (by decide) sh_7 0 rfl (by decide) wf_Line_9 rfl rfl d_Line_colonBehindName_32 ?_
          refine lv_iload_n hx hb d_Line_colonBehindName_35 rfl (lv_at hl 1 rfl) ?_
          refine x_cald C D (by decide) sh_8 d_Line_colonBehindName_36 h (fun _ h => ?_)
          obtain ⟨u1, hu1, h⟩ := bd_some h
          refine x_cip (rest := []) (r_S C D (c_Chars_isLetterOrDigit l g hD (S 8 a1.toNatClampNeg) S u1 hu1) wc_Chars_isLetterOrDigit wm_Line_40 wt_Chars_isLetterOrDigit wd_Chars_isLetterOrDigit rfl rfl hl (Nat.le_of_ble_eq_true rfl) (by decide) d_Line_colonBehindName_37) D (fun H locs D => ?_)
          refine lv_if_ne hx hb d_Line_colonBehindName_40 rfl (fun z => ?_) (fun z => ?_)
          · replace h := if_f z h
            exact B56 _ hK2 _ _ _ _ h D (lv_sub hl [0, 1] rfl)
          · replace h := if_t z h
            refine lv_aload_n hx hb d_Line_colonBehindName_43 rfl (lv_at hl 0 rfl) ?_
            refine x_get (v := .ref (ga g 8)) C D kc_Line (by decide) sh_7 0 rfl (by decide) wf_Line_9 rfl rfl d_Line_colonBehindName_44 ?_
            refine lv_iload_n hx hb d_Line_colonBehindName_47 rfl (lv_at hl 1 rfl) ?_
            refine x_cald C D (by decide) sh_8 d_Line_colonBehindName_48 h (fun _ h => ?_)
            refine lv_bipush (v := 45) hx hb d_Line_colonBehindName_49 (by decide) ?_
            refine lv_icmp_eq hx hb d_Line_colonBehindName_51 rfl (fun z => ?_) (fun z => ?_)
            · replace h := if_t z h
              exact B56 _ hK2 _ _ _ _ h D (lv_sub hl [0, 1] rfl)
            · replace h := if_f z h
              refine lv_iconst (v := (-1)) hx hb d_Line_colonBehindName_54 (by decide) ?_
              exact x_irp C D h d_Line_colonBehindName_55
        · replace h := if_t z h
          refine lv_iload_n hx hb d_Line_colonBehindName_21 rfl (lv_at hl 1 rfl) ?_
          refine lv_if_le hx hb d_Line_colonBehindName_22 rfl (fun z => ?_) (fun z => ?_)
          · replace h := if_t z h
            refine lv_iconst (v := (-1)) hx hb d_Line_colonBehindName_29 (by decide) ?_
            exact x_irp C D h d_Line_colonBehindName_30
          · replace h := if_f z h
            refine lv_iload_n hx hb d_Line_colonBehindName_25 rfl (lv_at hl 1 rfl) ?_
            refine lv_goto hx hb d_Line_colonBehindName_26 rfl ?_
            exact x_irp C D h d_Line_colonBehindName_30
  unfold f_Line_colonBehindName at h
  refine lv_iconst (v := 0) hx hb d_Line_colonBehindName_0 (by decide) ?_
  refine lv_istore_n (lv' := [(1, .int 0), (0, .ref (ga g 7))]) hx hb d_Line_colonBehindName_1 rfl hl (by decide) rfl (fun ls hl => ?_)
  exact L2 _ _ _ _ _ h D (lv_sub hl [1, 0] rfl)
theorem d_Line_skipBlanks_0 : decode b_Line_skipBlanks 0 = .ok (.iload_n 1, 1) := by decide +kernel
theorem d_Line_skipBlanks_1 : decode b_Line_skipBlanks 1 = .ok (.istore_n 2, 1) := by decide +kernel
theorem d_Line_skipBlanks_2 : decode b_Line_skipBlanks 2 = .ok (.iload_n 2, 1) := by decide +kernel
theorem d_Line_skipBlanks_3 : decode b_Line_skipBlanks 3 = .ok (.aload_n 0, 1) := by decide +kernel
theorem d_Line_skipBlanks_4 : decode b_Line_skipBlanks 4 = .ok (.getfield 13, 3) := by decide +kernel
theorem d_Line_skipBlanks_7 : decode b_Line_skipBlanks 7 = .ok (.if_icmp .ge 20, 3) := by decide +kernel
theorem d_Line_skipBlanks_10 : decode b_Line_skipBlanks 10 = .ok (.aload_n 0, 1) := by decide +kernel
theorem d_Line_skipBlanks_11 : decode b_Line_skipBlanks 11 = .ok (.iload_n 2, 1) := by decide +kernel
theorem d_Line_skipBlanks_12 : decode b_Line_skipBlanks 12 = .ok (.invokevirtual 27, 3) := by decide +kernel
theorem d_Line_skipBlanks_15 : decode b_Line_skipBlanks 15 = .ok (.invokestatic 44, 3) := by decide +kernel
theorem d_Line_skipBlanks_18 : decode b_Line_skipBlanks 18 = .ok (.ifCond .eq 9, 3) := by decide +kernel
theorem d_Line_skipBlanks_21 : decode b_Line_skipBlanks 21 = .ok (.iinc 2 1, 3) := by decide +kernel
theorem d_Line_skipBlanks_24 : decode b_Line_skipBlanks 24 = .ok (.goto (-22), 3) := by decide +kernel
theorem d_Line_skipBlanks_27 : decode b_Line_skipBlanks 27 = .ok (.iload_n 2, 1) := by decide +kernel
theorem d_Line_skipBlanks_28 : decode b_Line_skipBlanks 28 = .ok (.ireturn, 1) := by decide +kernel
def f_Line_skipBlanks_2 : Nat → Int32 → zSt → Option Int32
  | 0, _, _ => none
  | n + 1, a2, S => (if (S 7 1) ≤ a2 then (some a2) else ((f_Line_at a2 S).bind fun u1 => ((f_Chars_isBlank u1 S).bind fun u2 => (if u2 = 0 then (some a2) else ((f_Line_skipBlanks_2 n) (a2 + 1) S)))))
def f_Line_skipBlanks (a1 : Int32) (S : zSt) : Option Int32 := (f_Line_skipBlanks_2 fu a1 S)
set_option maxHeartbeats 4000000 in
set_option maxRecDepth 100000 in
theorem c_Line_skipBlanks (l : Launch) (g : zG) (hD : GD g) (a1 : Int32) (S : zSt) (u : Int32) (h : f_Line_skipBlanks a1 S = some u) : Met l y_Line_skipBlanks (mw y_Line_skipBlanks b_Line_skipBlanks 3 (some .int)) (rmD 1) (Pw g [.ref (ga g 7), .int a1] S) (Qip g S u) 0 0 (gA g) := by
  refine z_go (own := R_Line) (lv0 := [(0, .ref (ga g 7)), (1, .int a1)]) hD (by decide) rfl (Nat.le_of_ble_eq_true rfl) rfl ?_
  intro p e s m args below meth c C D ls hl
  have hx := C.1
  have hb := C.2.1
  have hown := C.2.2.2.1
  have hts := C.2.2.2.2.1
  have L2 : ∀ (n : Nat) (H : Heap) (locs : List Loc) (ls : Array Slot) (a2 : Int32), f_Line_skipBlanks_2 n a2 S = some u → Dy g s S H locs → lv_has ls 3 [(0, .ref (ga g 7)), (2, .int a2)] → W p l e (rmD 1) s m args below meth c H locs 0 0 (MQ below (Qip g S u) args s 0 0 (gA g)) (F0 m 2 ls []) := by
    intro n
    induction n with
    | zero => intro H locs ls a2 h D hl; rw [f_Line_skipBlanks_2] at h; cases h
    | succ n hK2 =>
      intro H locs ls a2 h D hl
      rw [f_Line_skipBlanks_2] at h
      refine lv_iload_n hx hb d_Line_skipBlanks_2 rfl (lv_at hl 1 rfl) ?_
      refine lv_aload_n hx hb d_Line_skipBlanks_3 rfl (lv_at hl 0 rfl) ?_
      refine x_get (v := .int (S 7 1)) C D kc_Line (by decide) sh_7 1 rfl (by decide) wf_Line_13 rfl rfl d_Line_skipBlanks_4 ?_
      refine lv_icmp_ge hx hb d_Line_skipBlanks_7 rfl (fun z => ?_) (fun z => ?_)
      · replace h := if_t z h
        refine lv_iload_n hx hb d_Line_skipBlanks_27 rfl (lv_at hl 1 rfl) ?_
        exact x_irp C D h d_Line_skipBlanks_28
      · replace h := if_f z h
        refine lv_aload_n hx hb d_Line_skipBlanks_10 rfl (lv_at hl 0 rfl) ?_
        refine lv_iload_n hx hb d_Line_skipBlanks_11 rfl (lv_at hl 1 rfl) ?_
        obtain ⟨u1, hu1, h⟩ := bd_some h
        refine x_cip (rest := []) (r_V C D (c_Line_at l g hD a2 S u1 hu1) wc_Line_at wm_Line_27 wi_Line_at wd_Line_at (by decide) sh_7 kc_Line.1 rfl rfl hl (Nat.le_of_ble_eq_true rfl) (by decide) d_Line_skipBlanks_12) D (fun H locs D => ?_)
        obtain ⟨u2, hu2, h⟩ := bd_some h
        refine x_cip (rest := []) (r_S C D (c_Chars_isBlank l g hD u1 S u2 hu2) wc_Chars_isBlank wm_Line_44 wt_Chars_isBlank wd_Chars_isBlank rfl rfl hl (Nat.le_of_ble_eq_true rfl) (by decide) d_Line_skipBlanks_15) D (fun H locs D => ?_)
        refine lv_if_eq hx hb d_Line_skipBlanks_18 rfl (fun z => ?_) (fun z => ?_)
        · replace h := if_t z h
          refine lv_iload_n hx hb d_Line_skipBlanks_27 rfl (lv_at hl 1 rfl) ?_
          exact x_irp C D h d_Line_skipBlanks_28
        · replace h := if_f z h
          refine lv_iinc (k := 1) (lv' := [(2, .int (a2 + 1)), (0, .ref (ga g 7))]) hx hb d_Line_skipBlanks_21 hl rfl (ii1 _) (by decide) rfl (fun ls hl => ?_)
          refine lv_goto hx hb d_Line_skipBlanks_24 rfl ?_
          exact hK2 _ _ _ _ h D (lv_sub hl [1, 0] rfl)
  unfold f_Line_skipBlanks at h
  refine lv_iload_n hx hb d_Line_skipBlanks_0 rfl (lv_at hl 1 rfl) ?_
  refine lv_istore_n (lv' := [(2, .int a1), (0, .ref (ga g 7)), (1, .int a1)]) hx hb d_Line_skipBlanks_1 rfl hl (by decide) rfl (fun ls hl => ?_)
  exact L2 _ _ _ _ _ h D (lv_sub hl [1, 0] rfl)
theorem d_Line_endWithoutBlanks_0 : decode b_Line_endWithoutBlanks 0 = .ok (.aload_n 0, 1) := by decide +kernel
theorem d_Line_endWithoutBlanks_1 : decode b_Line_endWithoutBlanks 1 = .ok (.getfield 13, 3) := by decide +kernel
theorem d_Line_endWithoutBlanks_4 : decode b_Line_endWithoutBlanks 4 = .ok (.istore_n 2, 1) := by decide +kernel
theorem d_Line_endWithoutBlanks_5 : decode b_Line_endWithoutBlanks 5 = .ok (.iload_n 2, 1) := by decide +kernel
theorem d_Line_endWithoutBlanks_6 : decode b_Line_endWithoutBlanks 6 = .ok (.iload_n 1, 1) := by decide +kernel
theorem d_Line_endWithoutBlanks_7 : decode b_Line_endWithoutBlanks 7 = .ok (.if_icmp .le 22, 3) := by decide +kernel
theorem d_Line_endWithoutBlanks_10 : decode b_Line_endWithoutBlanks 10 = .ok (.aload_n 0, 1) := by decide +kernel
theorem d_Line_endWithoutBlanks_11 : decode b_Line_endWithoutBlanks 11 = .ok (.iload_n 2, 1) := by decide +kernel
theorem d_Line_endWithoutBlanks_12 : decode b_Line_endWithoutBlanks 12 = .ok (.iconst 1, 1) := by decide +kernel
theorem d_Line_endWithoutBlanks_13 : decode b_Line_endWithoutBlanks 13 = .ok (.isub, 1) := by decide +kernel
theorem d_Line_endWithoutBlanks_14 : decode b_Line_endWithoutBlanks 14 = .ok (.invokevirtual 27, 3) := by decide +kernel
theorem d_Line_endWithoutBlanks_17 : decode b_Line_endWithoutBlanks 17 = .ok (.invokestatic 44, 3) := by decide +kernel
theorem d_Line_endWithoutBlanks_20 : decode b_Line_endWithoutBlanks 20 = .ok (.ifCond .eq 9, 3) := by decide +kernel
theorem d_Line_endWithoutBlanks_23 : decode b_Line_endWithoutBlanks 23 = .ok (.iinc 2 (-1), 3) := by decide +kernel
theorem d_Line_endWithoutBlanks_26 : decode b_Line_endWithoutBlanks 26 = .ok (.goto (-21), 3) := by decide +kernel
theorem d_Line_endWithoutBlanks_29 : decode b_Line_endWithoutBlanks 29 = .ok (.iload_n 2, 1) := by decide +kernel
theorem d_Line_endWithoutBlanks_30 : decode b_Line_endWithoutBlanks 30 = .ok (.ireturn, 1) := by decide +kernel
def f_Line_endWithoutBlanks_5 : Nat → Int32 → Int32 → zSt → Option Int32
  | 0, _, _, _ => none
  | n + 1, a1, a2, S => (if a2 ≤ a1 then (some a2) else ((f_Line_at (a2 - 1) S).bind fun u1 => ((f_Chars_isBlank u1 S).bind fun u2 => (if u2 = 0 then (some a2) else ((f_Line_endWithoutBlanks_5 n) a1 (a2 + (-1)) S)))))
def f_Line_endWithoutBlanks (a1 : Int32) (S : zSt) : Option Int32 := (f_Line_endWithoutBlanks_5 fu a1 (S 7 1) S)
set_option maxHeartbeats 4000000 in
set_option maxRecDepth 100000 in
theorem c_Line_endWithoutBlanks (l : Launch) (g : zG) (hD : GD g) (a1 : Int32) (S : zSt) (u : Int32) (h : f_Line_endWithoutBlanks a1 S = some u) : Met l y_Line_endWithoutBlanks (mw y_Line_endWithoutBlanks b_Line_endWithoutBlanks 3 (some .int)) (rmD 1) (Pw g [.ref (ga g 7), .int a1] S) (Qip g S u) 0 0 (gA g) := by
  refine z_go (own := R_Line) (lv0 := [(0, .ref (ga g 7)), (1, .int a1)]) hD (by decide) rfl (Nat.le_of_ble_eq_true rfl) rfl ?_
  intro p e s m args below meth c C D ls hl
  have hx := C.1
  have hb := C.2.1
  have hown := C.2.2.2.1
  have hts := C.2.2.2.2.1
  have L5 : ∀ (n : Nat) (H : Heap) (locs : List Loc) (ls : Array Slot) (a1 : Int32) (a2 : Int32), f_Line_endWithoutBlanks_5 n a1 a2 S = some u → Dy g s S H locs → lv_has ls 3 [(0, .ref (ga g 7)), (1, .int a1), (2, .int a2)] → W p l e (rmD 1) s m args below meth c H locs 0 0 (MQ below (Qip g S u) args s 0 0 (gA g)) (F0 m 5 ls []) := by
    intro n
    induction n with
    | zero => intro H locs ls a1 a2 h D hl; rw [f_Line_endWithoutBlanks_5] at h; cases h
    | succ n hK5 =>
      intro H locs ls a1 a2 h D hl
      rw [f_Line_endWithoutBlanks_5] at h
      refine lv_iload_n hx hb d_Line_endWithoutBlanks_5 rfl (lv_at hl 2 rfl) ?_
      refine lv_iload_n hx hb d_Line_endWithoutBlanks_6 rfl (lv_at hl 1 rfl) ?_
      refine lv_icmp_le hx hb d_Line_endWithoutBlanks_7 rfl (fun z => ?_) (fun z => ?_)
      · replace h := if_t z h
        refine lv_iload_n hx hb d_Line_endWithoutBlanks_29 rfl (lv_at hl 2 rfl) ?_
        exact x_irp C D h d_Line_endWithoutBlanks_30
      · replace h := if_f z h
        refine lv_aload_n hx hb d_Line_endWithoutBlanks_10 rfl (lv_at hl 0 rfl) ?_
        refine lv_iload_n hx hb d_Line_endWithoutBlanks_11 rfl (lv_at hl 2 rfl) ?_
        refine lv_iconst (v := 1) hx hb d_Line_endWithoutBlanks_12 (by decide) ?_
        refine lv_isub hx hb d_Line_endWithoutBlanks_13 ?_
        obtain ⟨u1, hu1, h⟩ := bd_some h
        refine x_cip (rest := []) (r_V C D (c_Line_at l g hD (a2 - 1) S u1 hu1) wc_Line_at wm_Line_27 wi_Line_at wd_Line_at (by decide) sh_7 kc_Line.1 rfl rfl hl (Nat.le_of_ble_eq_true rfl) (by decide) d_Line_endWithoutBlanks_14) D (fun H locs D => ?_)
        obtain ⟨u2, hu2, h⟩ := bd_some h
        refine x_cip (rest := []) (r_S C D (c_Chars_isBlank l g hD u1 S u2 hu2) wc_Chars_isBlank wm_Line_44 wt_Chars_isBlank wd_Chars_isBlank rfl rfl hl (Nat.le_of_ble_eq_true rfl) (by decide) d_Line_endWithoutBlanks_17) D (fun H locs D => ?_)
        refine lv_if_eq hx hb d_Line_endWithoutBlanks_20 rfl (fun z => ?_) (fun z => ?_)
        · replace h := if_t z h
          refine lv_iload_n hx hb d_Line_endWithoutBlanks_29 rfl (lv_at hl 2 rfl) ?_
          exact x_irp C D h d_Line_endWithoutBlanks_30
        · replace h := if_f z h
          refine lv_iinc (k := 2) (lv' := [(2, .int (a2 + (-1))), (0, .ref (ga g 7)), (1, .int a1)]) hx hb d_Line_endWithoutBlanks_23 hl rfl (iim1 _) (by decide) rfl (fun ls hl => ?_)
          refine lv_goto hx hb d_Line_endWithoutBlanks_26 rfl ?_
          exact hK5 _ _ _ _ _ h D (lv_sub hl [1, 2, 0] rfl)
  unfold f_Line_endWithoutBlanks at h
  refine lv_aload_n hx hb d_Line_endWithoutBlanks_0 rfl (lv_at hl 0 rfl) ?_
  refine x_get (v := .int (S 7 1)) C D kc_Line (by decide) sh_7 1 rfl (by decide) wf_Line_13 rfl rfl d_Line_endWithoutBlanks_1 ?_
  refine lv_istore_n (lv' := [(2, .int (S 7 1)), (0, .ref (ga g 7)), (1, .int a1)]) hx hb d_Line_endWithoutBlanks_4 rfl hl (by decide) rfl (fun ls hl => ?_)
  exact L5 _ _ _ _ _ _ h D (lv_sub hl [1, 2, 0] rfl)
theorem d_Line_number_0 : decode b_Line_number 0 = .ok (.iload_n 2, 1) := by decide +kernel
theorem d_Line_number_1 : decode b_Line_number 1 = .ok (.iload_n 1, 1) := by decide +kernel
theorem d_Line_number_2 : decode b_Line_number 2 = .ok (.if_icmp .le 10, 3) := by decide +kernel
theorem d_Line_number_5 : decode b_Line_number 5 = .ok (.iload_n 2, 1) := by decide +kernel
theorem d_Line_number_6 : decode b_Line_number 6 = .ok (.iload_n 1, 1) := by decide +kernel
theorem d_Line_number_7 : decode b_Line_number 7 = .ok (.isub, 1) := by decide +kernel
theorem d_Line_number_8 : decode b_Line_number 8 = .ok (.iconst 4, 1) := by decide +kernel
theorem d_Line_number_9 : decode b_Line_number 9 = .ok (.if_icmp .le 5, 3) := by decide +kernel
theorem d_Line_number_12 : decode b_Line_number 12 = .ok (.iconst (-1), 1) := by decide +kernel
theorem d_Line_number_13 : decode b_Line_number 13 = .ok (.ireturn, 1) := by decide +kernel
theorem d_Line_number_14 : decode b_Line_number 14 = .ok (.iconst 0, 1) := by decide +kernel
theorem d_Line_number_15 : decode b_Line_number 15 = .ok (.istore_n 3, 1) := by decide +kernel
theorem d_Line_number_16 : decode b_Line_number 16 = .ok (.iload_n 1, 1) := by decide +kernel
theorem d_Line_number_17 : decode b_Line_number 17 = .ok (.istore 4, 2) := by decide +kernel
theorem d_Line_number_19 : decode b_Line_number 19 = .ok (.iload 4, 2) := by decide +kernel
theorem d_Line_number_21 : decode b_Line_number 21 = .ok (.iload_n 2, 1) := by decide +kernel
theorem d_Line_number_22 : decode b_Line_number 22 = .ok (.if_icmp .ge 38, 3) := by decide +kernel
theorem d_Line_number_25 : decode b_Line_number 25 = .ok (.aload_n 0, 1) := by decide +kernel
theorem d_Line_number_26 : decode b_Line_number 26 = .ok (.iload 4, 2) := by decide +kernel
theorem d_Line_number_28 : decode b_Line_number 28 = .ok (.invokevirtual 27, 3) := by decide +kernel
theorem d_Line_number_31 : decode b_Line_number 31 = .ok (.invokestatic 47, 3) := by decide +kernel
theorem d_Line_number_34 : decode b_Line_number 34 = .ok (.ifCond .ne 5, 3) := by decide +kernel
theorem d_Line_number_37 : decode b_Line_number 37 = .ok (.iconst (-1), 1) := by decide +kernel
theorem d_Line_number_38 : decode b_Line_number 38 = .ok (.ireturn, 1) := by decide +kernel
theorem d_Line_number_39 : decode b_Line_number 39 = .ok (.iload_n 3, 1) := by decide +kernel
theorem d_Line_number_40 : decode b_Line_number 40 = .ok (.bipush 10, 2) := by decide +kernel
theorem d_Line_number_42 : decode b_Line_number 42 = .ok (.imul, 1) := by decide +kernel
theorem d_Line_number_43 : decode b_Line_number 43 = .ok (.aload_n 0, 1) := by decide +kernel
theorem d_Line_number_44 : decode b_Line_number 44 = .ok (.iload 4, 2) := by decide +kernel
theorem d_Line_number_46 : decode b_Line_number 46 = .ok (.invokevirtual 27, 3) := by decide +kernel
theorem d_Line_number_49 : decode b_Line_number 49 = .ok (.iadd, 1) := by decide +kernel
theorem d_Line_number_50 : decode b_Line_number 50 = .ok (.bipush 48, 2) := by decide +kernel
theorem d_Line_number_52 : decode b_Line_number 52 = .ok (.isub, 1) := by decide +kernel
theorem d_Line_number_53 : decode b_Line_number 53 = .ok (.istore_n 3, 1) := by decide +kernel
theorem d_Line_number_54 : decode b_Line_number 54 = .ok (.iinc 4 1, 3) := by decide +kernel
theorem d_Line_number_57 : decode b_Line_number 57 = .ok (.goto (-38), 3) := by decide +kernel
theorem d_Line_number_60 : decode b_Line_number 60 = .ok (.iload_n 3, 1) := by decide +kernel
theorem d_Line_number_61 : decode b_Line_number 61 = .ok (.ireturn, 1) := by decide +kernel
def f_Line_number_19 : Nat → Int32 → Int32 → Int32 → zSt → Option Int32
  | 0, _, _, _, _ => none
  | n + 1, a2, a3, a4, S => (if a2 ≤ a4 then (some a3) else ((f_Line_at a4 S).bind fun u1 => ((f_Chars_isDigit u1 S).bind fun u2 => (if u2 = 0 then (some (-1)) else ((f_Line_at a4 S).bind fun u3 => ((f_Line_number_19 n) a2 (((a3 * 10) + u3) - 48) (a4 + 1) S))))))
def f_Line_number (a1 : Int32) (a2 : Int32) (S : zSt) : Option Int32 := (if a2 ≤ a1 then (some (-1)) else (if (a2 - a1) ≤ 4 then (f_Line_number_19 fu a2 0 a1 S) else (some (-1))))
set_option maxHeartbeats 4000000 in
set_option maxRecDepth 100000 in
theorem c_Line_number (l : Launch) (g : zG) (hD : GD g) (a1 : Int32) (a2 : Int32) (S : zSt) (u : Int32) (h : f_Line_number a1 a2 S = some u) : Met l y_Line_number (mw y_Line_number b_Line_number 5 (some .int)) (rmD 1) (Pw g [.ref (ga g 7), .int a1, .int a2] S) (Qip g S u) 0 0 (gA g) := by
  refine z_go (own := R_Line) (lv0 := [(0, .ref (ga g 7)), (1, .int a1), (2, .int a2)]) hD (by decide) rfl (Nat.le_of_ble_eq_true rfl) rfl ?_
  intro p e s m args below meth c C D ls hl
  have hx := C.1
  have hb := C.2.1
  have hown := C.2.2.2.1
  have hts := C.2.2.2.2.1
  have L19 : ∀ (n : Nat) (H : Heap) (locs : List Loc) (ls : Array Slot) (a2 : Int32) (a3 : Int32) (a4 : Int32), f_Line_number_19 n a2 a3 a4 S = some u → Dy g s S H locs → lv_has ls 5 [(0, .ref (ga g 7)), (2, .int a2), (3, .int a3), (4, .int a4)] → W p l e (rmD 1) s m args below meth c H locs 0 0 (MQ below (Qip g S u) args s 0 0 (gA g)) (F0 m 19 ls []) := by
    intro n
    induction n with
    | zero => intro H locs ls a2 a3 a4 h D hl; rw [f_Line_number_19] at h; cases h
    | succ n hK19 =>
      intro H locs ls a2 a3 a4 h D hl
      rw [f_Line_number_19] at h
      refine lv_iload hx hb d_Line_number_19 (lv_at hl 3 rfl) ?_
      refine lv_iload_n hx hb d_Line_number_21 rfl (lv_at hl 1 rfl) ?_
      refine lv_icmp_ge hx hb d_Line_number_22 rfl (fun z => ?_) (fun z => ?_)
      · replace h := if_t z h
        refine lv_iload_n hx hb d_Line_number_60 rfl (lv_at hl 2 rfl) ?_
        exact x_irp C D h d_Line_number_61
      · replace h := if_f z h
        refine lv_aload_n hx hb d_Line_number_25 rfl (lv_at hl 0 rfl) ?_
        refine lv_iload hx hb d_Line_number_26 (lv_at hl 3 rfl) ?_
        obtain ⟨u1, hu1, h⟩ := bd_some h
        refine x_cip (rest := []) (r_V C D (c_Line_at l g hD a4 S u1 hu1) wc_Line_at wm_Line_27 wi_Line_at wd_Line_at (by decide) sh_7 kc_Line.1 rfl rfl hl (Nat.le_of_ble_eq_true rfl) (by decide) d_Line_number_28) D (fun H locs D => ?_)
        obtain ⟨u2, hu2, h⟩ := bd_some h
        refine x_cip (rest := []) (r_S C D (c_Chars_isDigit l g hD u1 S u2 hu2) wc_Chars_isDigit wm_Line_47 wt_Chars_isDigit wd_Chars_isDigit rfl rfl hl (Nat.le_of_ble_eq_true rfl) (by decide) d_Line_number_31) D (fun H locs D => ?_)
        refine lv_if_ne hx hb d_Line_number_34 rfl (fun z => ?_) (fun z => ?_)
        · replace h := if_f z h
          refine lv_iload_n hx hb d_Line_number_39 rfl (lv_at hl 2 rfl) ?_
          refine lv_bipush (v := 10) hx hb d_Line_number_40 (by decide) ?_
          refine lv_imul hx hb d_Line_number_42 ?_
          refine lv_aload_n hx hb d_Line_number_43 rfl (lv_at hl 0 rfl) ?_
          refine lv_iload hx hb d_Line_number_44 (lv_at hl 3 rfl) ?_
          obtain ⟨u3, hu3, h⟩ := bd_some h
          refine x_cip (rest := [.int (a3 * 10)]) (r_V C D (c_Line_at l g hD a4 S u3 hu3) wc_Line_at wm_Line_27 wi_Line_at wd_Line_at (by decide) sh_7 kc_Line.1 rfl rfl hl (Nat.le_of_ble_eq_true rfl) (by decide) d_Line_number_46) D (fun H locs D => ?_)
          refine lv_iadd hx hb d_Line_number_49 ?_
          refine lv_bipush (v := 48) hx hb d_Line_number_50 (by decide) ?_
          refine lv_isub hx hb d_Line_number_52 ?_
          refine lv_istore_n (lv' := [(3, .int (((a3 * 10) + u3) - 48)), (0, .ref (ga g 7)), (2, .int a2), (4, .int a4)]) hx hb d_Line_number_53 rfl hl (by decide) rfl (fun ls hl => ?_)
          refine lv_iinc (k := 3) (lv' := [(4, .int (a4 + 1)), (3, .int (((a3 * 10) + u3) - 48)), (0, .ref (ga g 7)), (2, .int a2)]) hx hb d_Line_number_54 hl rfl (ii1 _) (by decide) rfl (fun ls hl => ?_)
          refine lv_goto hx hb d_Line_number_57 rfl ?_
          exact hK19 _ _ _ _ _ _ h D (lv_sub hl [2, 3, 1, 0] rfl)
        · replace h := if_t z h
          refine lv_iconst (v := (-1)) hx hb d_Line_number_37 (by decide) ?_
          exact x_irp C D h d_Line_number_38
  unfold f_Line_number at h
  refine lv_iload_n hx hb d_Line_number_0 rfl (lv_at hl 2 rfl) ?_
  refine lv_iload_n hx hb d_Line_number_1 rfl (lv_at hl 1 rfl) ?_
  refine lv_icmp_le hx hb d_Line_number_2 rfl (fun z => ?_) (fun z => ?_)
  · replace h := if_t z h
    refine lv_iconst (v := (-1)) hx hb d_Line_number_12 (by decide) ?_
    exact x_irp C D h d_Line_number_13
  · replace h := if_f z h
    refine lv_iload_n hx hb d_Line_number_5 rfl (lv_at hl 2 rfl) ?_
    refine lv_iload_n hx hb d_Line_number_6 rfl (lv_at hl 1 rfl) ?_
    refine lv_isub hx hb d_Line_number_7 ?_
    refine lv_iconst (v := 4) hx hb d_Line_number_8 (by decide) ?_
    refine lv_icmp_le hx hb d_Line_number_9 rfl (fun z => ?_) (fun z => ?_)
    · replace h := if_t z h
      refine lv_iconst (v := 0) hx hb d_Line_number_14 (by decide) ?_
      refine lv_istore_n (lv' := [(3, .int 0), (0, .ref (ga g 7)), (1, .int a1), (2, .int a2)]) hx hb d_Line_number_15 rfl hl (by decide) rfl (fun ls hl => ?_)
      refine lv_iload_n hx hb d_Line_number_16 rfl (lv_at hl 2 rfl) ?_
      refine lv_istore (lv' := [(4, .int a1), (3, .int 0), (0, .ref (ga g 7)), (1, .int a1), (2, .int a2)]) hx hb d_Line_number_17 hl (by decide) rfl (fun ls hl => ?_)
      exact L19 _ _ _ _ _ _ _ h D (lv_sub hl [2, 4, 1, 0] rfl)
    · replace h := if_f z h
      refine lv_iconst (v := (-1)) hx hb d_Line_number_12 (by decide) ?_
      exact x_irp C D h d_Line_number_13
theorem d_Line_chunkSize_0 : decode b_Line_chunkSize 0 = .ok (.iconst 0, 1) := by decide +kernel
theorem d_Line_chunkSize_1 : decode b_Line_chunkSize 1 = .ok (.istore_n 1, 1) := by decide +kernel
theorem d_Line_chunkSize_2 : decode b_Line_chunkSize 2 = .ok (.iconst 0, 1) := by decide +kernel
theorem d_Line_chunkSize_3 : decode b_Line_chunkSize 3 = .ok (.istore_n 2, 1) := by decide +kernel
theorem d_Line_chunkSize_4 : decode b_Line_chunkSize 4 = .ok (.iload_n 2, 1) := by decide +kernel
theorem d_Line_chunkSize_5 : decode b_Line_chunkSize 5 = .ok (.iconst 3, 1) := by decide +kernel
theorem d_Line_chunkSize_6 : decode b_Line_chunkSize 6 = .ok (.if_icmp .ge 34, 3) := by decide +kernel
theorem d_Line_chunkSize_9 : decode b_Line_chunkSize 9 = .ok (.aload_n 0, 1) := by decide +kernel
theorem d_Line_chunkSize_10 : decode b_Line_chunkSize 10 = .ok (.iload_n 2, 1) := by decide +kernel
theorem d_Line_chunkSize_11 : decode b_Line_chunkSize 11 = .ok (.invokevirtual 27, 3) := by decide +kernel
theorem d_Line_chunkSize_14 : decode b_Line_chunkSize 14 = .ok (.invokestatic 50, 3) := by decide +kernel
theorem d_Line_chunkSize_17 : decode b_Line_chunkSize 17 = .ok (.ifCond .lt 23, 3) := by decide +kernel
theorem d_Line_chunkSize_20 : decode b_Line_chunkSize 20 = .ok (.iload_n 1, 1) := by decide +kernel
theorem d_Line_chunkSize_21 : decode b_Line_chunkSize 21 = .ok (.bipush 16, 2) := by decide +kernel
theorem d_Line_chunkSize_23 : decode b_Line_chunkSize 23 = .ok (.imul, 1) := by decide +kernel
theorem d_Line_chunkSize_24 : decode b_Line_chunkSize 24 = .ok (.aload_n 0, 1) := by decide +kernel
theorem d_Line_chunkSize_25 : decode b_Line_chunkSize 25 = .ok (.iload_n 2, 1) := by decide +kernel
theorem d_Line_chunkSize_26 : decode b_Line_chunkSize 26 = .ok (.invokevirtual 27, 3) := by decide +kernel
theorem d_Line_chunkSize_29 : decode b_Line_chunkSize 29 = .ok (.invokestatic 50, 3) := by decide +kernel
theorem d_Line_chunkSize_32 : decode b_Line_chunkSize 32 = .ok (.iadd, 1) := by decide +kernel
theorem d_Line_chunkSize_33 : decode b_Line_chunkSize 33 = .ok (.istore_n 1, 1) := by decide +kernel
theorem d_Line_chunkSize_34 : decode b_Line_chunkSize 34 = .ok (.iinc 2 1, 3) := by decide +kernel
theorem d_Line_chunkSize_37 : decode b_Line_chunkSize 37 = .ok (.goto (-33), 3) := by decide +kernel
theorem d_Line_chunkSize_40 : decode b_Line_chunkSize 40 = .ok (.iload_n 2, 1) := by decide +kernel
theorem d_Line_chunkSize_41 : decode b_Line_chunkSize 41 = .ok (.aload_n 0, 1) := by decide +kernel
theorem d_Line_chunkSize_42 : decode b_Line_chunkSize 42 = .ok (.getfield 13, 3) := by decide +kernel
theorem d_Line_chunkSize_45 : decode b_Line_chunkSize 45 = .ok (.if_icmp .eq 13, 3) := by decide +kernel
theorem d_Line_chunkSize_48 : decode b_Line_chunkSize 48 = .ok (.aload_n 0, 1) := by decide +kernel
theorem d_Line_chunkSize_49 : decode b_Line_chunkSize 49 = .ok (.iload_n 2, 1) := by decide +kernel
theorem d_Line_chunkSize_50 : decode b_Line_chunkSize 50 = .ok (.invokevirtual 27, 3) := by decide +kernel
theorem d_Line_chunkSize_53 : decode b_Line_chunkSize 53 = .ok (.bipush 59, 2) := by decide +kernel
theorem d_Line_chunkSize_55 : decode b_Line_chunkSize 55 = .ok (.if_icmp .ne 7, 3) := by decide +kernel
theorem d_Line_chunkSize_58 : decode b_Line_chunkSize 58 = .ok (.iconst 1, 1) := by decide +kernel
theorem d_Line_chunkSize_59 : decode b_Line_chunkSize 59 = .ok (.goto 4, 3) := by decide +kernel
theorem d_Line_chunkSize_62 : decode b_Line_chunkSize 62 = .ok (.iconst 0, 1) := by decide +kernel
theorem d_Line_chunkSize_63 : decode b_Line_chunkSize 63 = .ok (.istore_n 3, 1) := by decide +kernel
theorem d_Line_chunkSize_64 : decode b_Line_chunkSize 64 = .ok (.iload_n 2, 1) := by decide +kernel
theorem d_Line_chunkSize_65 : decode b_Line_chunkSize 65 = .ok (.ifCond .le 11, 3) := by decide +kernel
theorem d_Line_chunkSize_68 : decode b_Line_chunkSize 68 = .ok (.iload_n 3, 1) := by decide +kernel
theorem d_Line_chunkSize_69 : decode b_Line_chunkSize 69 = .ok (.ifCond .eq 7, 3) := by decide +kernel
theorem d_Line_chunkSize_72 : decode b_Line_chunkSize 72 = .ok (.iload_n 1, 1) := by decide +kernel
theorem d_Line_chunkSize_73 : decode b_Line_chunkSize 73 = .ok (.goto 4, 3) := by decide +kernel
theorem d_Line_chunkSize_76 : decode b_Line_chunkSize 76 = .ok (.iconst (-1), 1) := by decide +kernel
theorem d_Line_chunkSize_77 : decode b_Line_chunkSize 77 = .ok (.ireturn, 1) := by decide +kernel
def f_Line_chunkSize_76 (S : zSt) : Option Int32 := (some (-1))
def f_Line_chunkSize_63 (a1 : Int32) (a2 : Int32) (t0 : Int32) (S : zSt) : Option Int32 := (if a2 ≤ 0 then (f_Line_chunkSize_76 S) else (if t0 = 0 then (f_Line_chunkSize_76 S) else (some a1)))
def f_Line_chunkSize_58 (a1 : Int32) (a2 : Int32) (S : zSt) : Option Int32 := (f_Line_chunkSize_63 a1 a2 1 S)
def f_Line_chunkSize_40 (a1 : Int32) (a2 : Int32) (S : zSt) : Option Int32 := (if a2 = (S 7 1) then (f_Line_chunkSize_58 a1 a2 S) else ((f_Line_at a2 S).bind fun u1 => (if u1 = 59 then (f_Line_chunkSize_58 a1 a2 S) else (f_Line_chunkSize_63 a1 a2 0 S))))
def f_Line_chunkSize_4 : Nat → Int32 → Int32 → zSt → Option Int32
  | 0, _, _, _ => none
  | n + 1, a1, a2, S => (if 3 ≤ a2 then (f_Line_chunkSize_40 a1 a2 S) else ((f_Line_at a2 S).bind fun u2 => ((f_Chars_hexValue u2 S).bind fun u3 => (if u3 < 0 then (f_Line_chunkSize_40 a1 a2 S) else ((f_Line_at a2 S).bind fun u4 => ((f_Chars_hexValue u4 S).bind fun u5 => ((f_Line_chunkSize_4 n) ((a1 * 16) + u5) (a2 + 1) S)))))))
def f_Line_chunkSize (S : zSt) : Option Int32 := (f_Line_chunkSize_4 fu 0 0 S)
set_option maxHeartbeats 4000000 in
set_option maxRecDepth 100000 in
theorem c_Line_chunkSize (l : Launch) (g : zG) (hD : GD g) (S : zSt) (u : Int32) (h : f_Line_chunkSize S = some u) : Met l y_Line_chunkSize (mw y_Line_chunkSize b_Line_chunkSize 4 (some .int)) (rmD 1) (Pw g [.ref (ga g 7)] S) (Qip g S u) 0 0 (gA g) := by
  refine z_go (own := R_Line) (lv0 := [(0, .ref (ga g 7))]) hD (by decide) rfl (Nat.le_of_ble_eq_true rfl) rfl ?_
  intro p e s m args below meth c C D ls hl
  have hx := C.1
  have hb := C.2.1
  have hown := C.2.2.2.1
  have hts := C.2.2.2.2.1
  have B76 : ∀ (H : Heap) (locs : List Loc) (ls : Array Slot), f_Line_chunkSize_76 S = some u → Dy g s S H locs → lv_has ls 4 [] → W p l e (rmD 1) s m args below meth c H locs 0 0 (MQ below (Qip g S u) args s 0 0 (gA g)) (F0 m 76 ls []) := by
    intro H locs ls h D hl
    unfold f_Line_chunkSize_76 at h
    refine lv_iconst (v := (-1)) hx hb d_Line_chunkSize_76 (by decide) ?_
    exact x_irp C D h d_Line_chunkSize_77
  have B63 : ∀ (H : Heap) (locs : List Loc) (ls : Array Slot) (a1 : Int32) (a2 : Int32) (t0 : Int32), f_Line_chunkSize_63 a1 a2 t0 S = some u → Dy g s S H locs → lv_has ls 4 [(1, .int a1), (2, .int a2)] → W p l e (rmD 1) s m args below meth c H locs 0 0 (MQ below (Qip g S u) args s 0 0 (gA g)) (F0 m 63 ls [.int t0]) := by
    intro H locs ls a1 a2 t0 h D hl
    unfold f_Line_chunkSize_63 at h
    refine lv_istore_n (lv' := [(3, .int t0), (1, .int a1), (2, .int a2)]) hx hb d_Line_chunkSize_63 rfl hl (by decide) rfl (fun ls hl => ?_)
    refine lv_iload_n hx hb d_Line_chunkSize_64 rfl (lv_at hl 2 rfl) ?_
    refine lv_if_le hx hb d_Line_chunkSize_65 rfl (fun z => ?_) (fun z => ?_)
    · replace h := if_t z h
      exact B76 _ _ _ h D (lv_sub hl [] rfl)
    · replace h := if_f z h
      refine lv_iload_n hx hb d_Line_chunkSize_68 rfl (lv_at hl 0 rfl) ?_
      refine lv_if_eq hx hb d_Line_chunkSize_69 rfl (fun z => ?_) (fun z => ?_)
      · replace h := if_t z h
        exact B76 _ _ _ h D (lv_sub hl [] rfl)
      · replace h := if_f z h
        refine lv_iload_n hx hb d_Line_chunkSize_72 rfl (lv_at hl 1 rfl) ?_
        refine lv_goto hx hb d_Line_chunkSize_73 rfl ?_
        exact x_irp C D h d_Line_chunkSize_77
  have B58 : ∀ (H : Heap) (locs : List Loc) (ls : Array Slot) (a1 : Int32) (a2 : Int32), f_Line_chunkSize_58 a1 a2 S = some u → Dy g s S H locs → lv_has ls 4 [(1, .int a1), (2, .int a2)] → W p l e (rmD 1) s m args below meth c H locs 0 0 (MQ below (Qip g S u) args s 0 0 (gA g)) (F0 m 58 ls []) := by
    intro H locs ls a1 a2 h D hl
    unfold f_Line_chunkSize_58 at h
    refine lv_iconst (v := 1) hx hb d_Line_chunkSize_58 (by decide) ?_
    refine lv_goto hx hb d_Line_chunkSize_59 rfl ?_
    exact B63 _ _ _ _ _ _ h D (lv_sub hl [0, 1] rfl)
  have B40 : ∀ (H : Heap) (locs : List Loc) (ls : Array Slot) (a1 : Int32) (a2 : Int32), f_Line_chunkSize_40 a1 a2 S = some u → Dy g s S H locs → lv_has ls 4 [(0, .ref (ga g 7)), (1, .int a1), (2, .int a2)] → W p l e (rmD 1) s m args below meth c H locs 0 0 (MQ below (Qip g S u) args s 0 0 (gA g)) (F0 m 40 ls []) := by
    intro H locs ls a1 a2 h D hl
    unfold f_Line_chunkSize_40 at h
    refine lv_iload_n hx hb d_Line_chunkSize_40 rfl (lv_at hl 2 rfl) ?_
    refine lv_aload_n hx hb d_Line_chunkSize_41 rfl (lv_at hl 0 rfl) ?_
    refine x_get (v := .int (S 7 1)) C D kc_Line (by decide) sh_7 1 rfl (by decide) wf_Line_13 rfl rfl d_Line_chunkSize_42 ?_
    refine lv_icmp_eq hx hb d_Line_chunkSize_45 rfl (fun z => ?_) (fun z => ?_)
    · replace h := if_t z h
      exact B58 _ _ _ _ _ h D (lv_sub hl [1, 2] rfl)
    · replace h := if_f z h
      refine lv_aload_n hx hb d_Line_chunkSize_48 rfl (lv_at hl 0 rfl) ?_
      refine lv_iload_n hx hb d_Line_chunkSize_49 rfl (lv_at hl 2 rfl) ?_
      obtain ⟨u1, hu1, h⟩ := bd_some h
      refine x_cip (rest := []) (r_V C D (c_Line_at l g hD a2 S u1 hu1) wc_Line_at wm_Line_27 wi_Line_at wd_Line_at (by decide) sh_7 kc_Line.1 rfl rfl hl (Nat.le_of_ble_eq_true rfl) (by decide) d_Line_chunkSize_50) D (fun H locs D => ?_)
      refine lv_bipush (v := 59) hx hb d_Line_chunkSize_53 (by decide) ?_
      refine lv_icmp_ne hx hb d_Line_chunkSize_55 rfl (fun z => ?_) (fun z => ?_)
      · replace h := if_f z h
        refine lv_iconst (v := 0) hx hb d_Line_chunkSize_62 (by decide) ?_
        exact B63 _ _ _ _ _ _ h D (lv_sub hl [1, 2] rfl)
      · replace h := if_t z h
        exact B58 _ _ _ _ _ h D (lv_sub hl [1, 2] rfl)
  have L4 : ∀ (n : Nat) (H : Heap) (locs : List Loc) (ls : Array Slot) (a1 : Int32) (a2 : Int32), f_Line_chunkSize_4 n a1 a2 S = some u → Dy g s S H locs → lv_has ls 4 [(0, .ref (ga g 7)), (1, .int a1), (2, .int a2)] → W p l e (rmD 1) s m args below meth c H locs 0 0 (MQ below (Qip g S u) args s 0 0 (gA g)) (F0 m 4 ls []) := by
    intro n
    induction n with
    | zero => intro H locs ls a1 a2 h D hl; rw [f_Line_chunkSize_4] at h; cases h
    | succ n hK4 =>
      intro H locs ls a1 a2 h D hl
      rw [f_Line_chunkSize_4] at h
      refine lv_iload_n hx hb d_Line_chunkSize_4 rfl (lv_at hl 2 rfl) ?_
      refine lv_iconst (v := 3) hx hb d_Line_chunkSize_5 (by decide) ?_
      refine lv_icmp_ge hx hb d_Line_chunkSize_6 rfl (fun z => ?_) (fun z => ?_)
      · replace h := if_t z h
        exact B40 _ _ _ _ _ h D (lv_sub hl [0, 1, 2] rfl)
      · replace h := if_f z h
        refine lv_aload_n hx hb d_Line_chunkSize_9 rfl (lv_at hl 0 rfl) ?_
        refine lv_iload_n hx hb d_Line_chunkSize_10 rfl (lv_at hl 2 rfl) ?_
        obtain ⟨u2, hu2, h⟩ := bd_some h
        refine x_cip (rest := []) (r_V C D (c_Line_at l g hD a2 S u2 hu2) wc_Line_at wm_Line_27 wi_Line_at wd_Line_at (by decide) sh_7 kc_Line.1 rfl rfl hl (Nat.le_of_ble_eq_true rfl) (by decide) d_Line_chunkSize_11) D (fun H locs D => ?_)
        obtain ⟨u3, hu3, h⟩ := bd_some h
        refine x_cip (rest := []) (r_S C D (c_Chars_hexValue l g hD u2 S u3 hu3) wc_Chars_hexValue wm_Line_50 wt_Chars_hexValue wd_Chars_hexValue rfl rfl hl (Nat.le_of_ble_eq_true rfl) (by decide) d_Line_chunkSize_14) D (fun H locs D => ?_)
        refine lv_if_lt hx hb d_Line_chunkSize_17 rfl (fun z => ?_) (fun z => ?_)
        · replace h := if_t z h
          exact B40 _ _ _ _ _ h D (lv_sub hl [0, 1, 2] rfl)
        · replace h := if_f z h
          refine lv_iload_n hx hb d_Line_chunkSize_20 rfl (lv_at hl 1 rfl) ?_
          refine lv_bipush (v := 16) hx hb d_Line_chunkSize_21 (by decide) ?_
          refine lv_imul hx hb d_Line_chunkSize_23 ?_
          refine lv_aload_n hx hb d_Line_chunkSize_24 rfl (lv_at hl 0 rfl) ?_
          refine lv_iload_n hx hb d_Line_chunkSize_25 rfl (lv_at hl 2 rfl) ?_
          obtain ⟨u4, hu4, h⟩ := bd_some h
          refine x_cip (rest := [.int (a1 * 16)]) (r_V C D (c_Line_at l g hD a2 S u4 hu4) wc_Line_at wm_Line_27 wi_Line_at wd_Line_at (by decide) sh_7 kc_Line.1 rfl rfl hl (Nat.le_of_ble_eq_true rfl) (by decide) d_Line_chunkSize_26) D (fun H locs D => ?_)
          obtain ⟨u5, hu5, h⟩ := bd_some h
          refine x_cip (rest := [.int (a1 * 16)]) (r_S C D (c_Chars_hexValue l g hD u4 S u5 hu5) wc_Chars_hexValue wm_Line_50 wt_Chars_hexValue wd_Chars_hexValue rfl rfl hl (Nat.le_of_ble_eq_true rfl) (by decide) d_Line_chunkSize_29) D (fun H locs D => ?_)
          refine lv_iadd hx hb d_Line_chunkSize_32 ?_
          refine lv_istore_n (lv' := [(1, .int ((a1 * 16) + u5)), (0, .ref (ga g 7)), (2, .int a2)]) hx hb d_Line_chunkSize_33 rfl hl (by decide) rfl (fun ls hl => ?_)
          refine lv_iinc (k := 2) (lv' := [(2, .int (a2 + 1)), (1, .int ((a1 * 16) + u5)), (0, .ref (ga g 7))]) hx hb d_Line_chunkSize_34 hl rfl (ii1 _) (by decide) rfl (fun ls hl => ?_)
          refine lv_goto hx hb d_Line_chunkSize_37 rfl ?_
          exact hK4 _ _ _ _ _ h D (lv_sub hl [2, 1, 0] rfl)
  unfold f_Line_chunkSize at h
  refine lv_iconst (v := 0) hx hb d_Line_chunkSize_0 (by decide) ?_
  refine lv_istore_n (lv' := [(1, .int 0), (0, .ref (ga g 7))]) hx hb d_Line_chunkSize_1 rfl hl (by decide) rfl (fun ls hl => ?_)
  refine lv_iconst (v := 0) hx hb d_Line_chunkSize_2 (by decide) ?_
  refine lv_istore_n (lv' := [(2, .int 0), (1, .int 0), (0, .ref (ga g 7))]) hx hb d_Line_chunkSize_3 rfl hl (by decide) rfl (fun ls hl => ?_)
  exact L4 _ _ _ _ _ _ h D (lv_sub hl [2, 1, 0] rfl)
theorem d_Line_startsWith_0 : decode b_Line_startsWith 0 = .ok (.iconst 0, 1) := by decide +kernel
theorem d_Line_startsWith_1 : decode b_Line_startsWith 1 = .ok (.istore_n 2, 1) := by decide +kernel
theorem d_Line_startsWith_2 : decode b_Line_startsWith 2 = .ok (.iload_n 2, 1) := by decide +kernel
theorem d_Line_startsWith_3 : decode b_Line_startsWith 3 = .ok (.aload_n 1, 1) := by decide +kernel
theorem d_Line_startsWith_4 : decode b_Line_startsWith 4 = .ok (.invokevirtual 21, 3) := by decide +kernel
theorem d_Line_startsWith_7 : decode b_Line_startsWith 7 = .ok (.if_icmp .ge 24, 3) := by decide +kernel
theorem d_Line_startsWith_10 : decode b_Line_startsWith 10 = .ok (.aload_n 0, 1) := by decide +kernel
theorem d_Line_startsWith_11 : decode b_Line_startsWith 11 = .ok (.iload_n 2, 1) := by decide +kernel
theorem d_Line_startsWith_12 : decode b_Line_startsWith 12 = .ok (.invokevirtual 27, 3) := by decide +kernel
theorem d_Line_startsWith_15 : decode b_Line_startsWith 15 = .ok (.aload_n 1, 1) := by decide +kernel
theorem d_Line_startsWith_16 : decode b_Line_startsWith 16 = .ok (.iload_n 2, 1) := by decide +kernel
theorem d_Line_startsWith_17 : decode b_Line_startsWith 17 = .ok (.invokevirtual 31, 3) := by decide +kernel
theorem d_Line_startsWith_20 : decode b_Line_startsWith 20 = .ok (.if_icmp .eq 5, 3) := by decide +kernel
theorem d_Line_startsWith_23 : decode b_Line_startsWith 23 = .ok (.iconst 0, 1) := by decide +kernel
theorem d_Line_startsWith_24 : decode b_Line_startsWith 24 = .ok (.ireturn, 1) := by decide +kernel
theorem d_Line_startsWith_25 : decode b_Line_startsWith 25 = .ok (.iinc 2 1, 3) := by decide +kernel
theorem d_Line_startsWith_28 : decode b_Line_startsWith 28 = .ok (.goto (-26), 3) := by decide +kernel
theorem d_Line_startsWith_31 : decode b_Line_startsWith 31 = .ok (.iconst 1, 1) := by decide +kernel
theorem d_Line_startsWith_32 : decode b_Line_startsWith 32 = .ok (.ireturn, 1) := by decide +kernel
def f_Line_startsWith_2 : Nat → Nat → Int32 → zSt → Option Int32
  | 0, _, _, _ => none
  | n + 1, k1, a2, S => ((f_String_length k1 S).bind fun u1 => (if u1 ≤ a2 then (gdb 1 (some 1)) else ((f_Line_at a2 S).bind fun u2 => ((f_String_charAt k1 a2 S).bind fun u3 => (if u2 = u3 then ((f_Line_startsWith_2 n) k1 (a2 + 1) S) else (gdb 0 (some 0)))))))
def f_Line_startsWith (k1 : Nat) (S : zSt) : Option Int32 := (f_Line_startsWith_2 fu k1 0 S)
set_option maxHeartbeats 4000000 in
set_option maxRecDepth 100000 in
theorem c_Line_startsWith (l : Launch) (g : zG) (hD : GD g) (k1 : Nat) (hk1 : k1 < nS) (S : zSt) (u : Int32) (h : f_Line_startsWith k1 S = some u) : Met l y_Line_startsWith (mw y_Line_startsWith b_Line_startsWith 3 (some .boolean)) (rmD 4) (Pw g [.ref (ga g 7), .ref (gK g k1)] S) (Qip g S u) 0 0 (gA g) := by
  refine z_go (own := R_Line) (lv0 := [(0, .ref (ga g 7)), (1, .ref (gK g k1))]) hD (by decide) rfl (Nat.le_of_ble_eq_true rfl) rfl ?_
  intro p e s m args below meth c C D ls hl
  have hx := C.1
  have hb := C.2.1
  have hown := C.2.2.2.1
  have hts := C.2.2.2.2.1
  have L2 : ∀ (n : Nat) (H : Heap) (locs : List Loc) (ls : Array Slot) (k1 : Nat) (hk1 : k1 < nS) (a2 : Int32), f_Line_startsWith_2 n k1 a2 S = some u → Dy g s S H locs → lv_has ls 3 [(0, .ref (ga g 7)), (1, .ref (gK g k1)), (2, .int a2)] → W p l e (rmD 4) s m args below meth c H locs 0 0 (MQ below (Qip g S u) args s 0 0 (gA g)) (F0 m 2 ls []) := by
    intro n
    induction n with
    | zero => intro H locs ls k1 hk1 a2 h D hl; rw [f_Line_startsWith_2] at h; cases h
    | succ n hK2 =>
      intro H locs ls k1 hk1 a2 h D hl
      rw [f_Line_startsWith_2] at h
      refine lv_iload_n hx hb d_Line_startsWith_2 rfl (lv_at hl 2 rfl) ?_
      refine lv_aload_n hx hb d_Line_startsWith_3 rfl (lv_at hl 1 rfl) ?_
      obtain ⟨u1, hu1, h⟩ := bd_some h
      refine x_cip (rest := [.int a2]) (r_Str C D (c_String_length l g hD k1 hk1 S u1 hu1) wc_String_length wm_Line_21 wi_String_length wd_String_length hk1 rfl rfl rfl hl (Nat.le_of_ble_eq_true rfl) (by decide) d_Line_startsWith_4) D (fun H locs D => ?_)
      refine lv_icmp_ge hx hb d_Line_startsWith_7 rfl (fun z => ?_) (fun z => ?_)
      · replace h := if_t z h
        refine lv_iconst (v := 1) hx hb d_Line_startsWith_31 (by decide) ?_
        exact x_zrp C D h d_Line_startsWith_32
      · replace h := if_f z h
        refine lv_aload_n hx hb d_Line_startsWith_10 rfl (lv_at hl 0 rfl) ?_
        refine lv_iload_n hx hb d_Line_startsWith_11 rfl (lv_at hl 2 rfl) ?_
        obtain ⟨u2, hu2, h⟩ := bd_some h
        refine x_cip (rest := []) (r_V C D (c_Line_at l g hD a2 S u2 hu2) wc_Line_at wm_Line_27 wi_Line_at wd_Line_at (by decide) sh_7 kc_Line.1 rfl rfl hl (Nat.le_of_ble_eq_true rfl) (by decide) d_Line_startsWith_12) D (fun H locs D => ?_)
        refine lv_aload_n hx hb d_Line_startsWith_15 rfl (lv_at hl 1 rfl) ?_
        refine lv_iload_n hx hb d_Line_startsWith_16 rfl (lv_at hl 2 rfl) ?_
        obtain ⟨u3, hu3, h⟩ := bd_some h
        refine x_cip (rest := [.int u2]) (r_Str C D (c_String_charAt l g hD k1 hk1 a2 S u3 hu3) wc_String_charAt wm_Line_31 wi_String_charAt wd_String_charAt hk1 rfl rfl rfl hl (Nat.le_of_ble_eq_true rfl) (by decide) d_Line_startsWith_17) D (fun H locs D => ?_)
        refine lv_icmp_eq hx hb d_Line_startsWith_20 rfl (fun z => ?_) (fun z => ?_)
        · replace h := if_t z h
          refine lv_iinc (k := 2) (lv' := [(2, .int (a2 + 1)), (0, .ref (ga g 7)), (1, .ref (gK g k1))]) hx hb d_Line_startsWith_25 hl rfl (ii1 _) (by decide) rfl (fun ls hl => ?_)
          refine lv_goto hx hb d_Line_startsWith_28 rfl ?_
          exact hK2 _ _ _ _ hk1 _ h D (lv_sub hl [1, 2, 0] rfl)
        · replace h := if_f z h
          refine lv_iconst (v := 0) hx hb d_Line_startsWith_23 (by decide) ?_
          exact x_zrp C D h d_Line_startsWith_24
  unfold f_Line_startsWith at h
  refine lv_iconst (v := 0) hx hb d_Line_startsWith_0 (by decide) ?_
  refine lv_istore_n (lv' := [(2, .int 0), (0, .ref (ga g 7)), (1, .ref (gK g k1))]) hx hb d_Line_startsWith_1 rfl hl (by decide) rfl (fun ls hl => ?_)
  exact L2 _ _ _ _ _ hk1 _ h D (lv_sub hl [1, 2, 0] rfl)
theorem d_Line_isWord_0 : decode b_Line_isWord 0 = .ok (.iload_n 2, 1) := by decide +kernel
theorem d_Line_isWord_1 : decode b_Line_isWord 1 = .ok (.iload_n 1, 1) := by decide +kernel
theorem d_Line_isWord_2 : decode b_Line_isWord 2 = .ok (.isub, 1) := by decide +kernel
theorem d_Line_isWord_3 : decode b_Line_isWord 3 = .ok (.aload_n 3, 1) := by decide +kernel
theorem d_Line_isWord_4 : decode b_Line_isWord 4 = .ok (.invokevirtual 21, 3) := by decide +kernel
theorem d_Line_isWord_7 : decode b_Line_isWord 7 = .ok (.if_icmp .eq 5, 3) := by decide +kernel
theorem d_Line_isWord_10 : decode b_Line_isWord 10 = .ok (.iconst 0, 1) := by decide +kernel
theorem d_Line_isWord_11 : decode b_Line_isWord 11 = .ok (.ireturn, 1) := by decide +kernel
theorem d_Line_isWord_12 : decode b_Line_isWord 12 = .ok (.iconst 0, 1) := by decide +kernel
theorem d_Line_isWord_13 : decode b_Line_isWord 13 = .ok (.istore 4, 2) := by decide +kernel
theorem d_Line_isWord_15 : decode b_Line_isWord 15 = .ok (.iload 4, 2) := by decide +kernel
theorem d_Line_isWord_17 : decode b_Line_isWord 17 = .ok (.aload_n 3, 1) := by decide +kernel
theorem d_Line_isWord_18 : decode b_Line_isWord 18 = .ok (.invokevirtual 21, 3) := by decide +kernel
theorem d_Line_isWord_21 : decode b_Line_isWord 21 = .ok (.if_icmp .ge 31, 3) := by decide +kernel
theorem d_Line_isWord_24 : decode b_Line_isWord 24 = .ok (.aload_n 0, 1) := by decide +kernel
theorem d_Line_isWord_25 : decode b_Line_isWord 25 = .ok (.iload_n 1, 1) := by decide +kernel
theorem d_Line_isWord_26 : decode b_Line_isWord 26 = .ok (.iload 4, 2) := by decide +kernel
theorem d_Line_isWord_28 : decode b_Line_isWord 28 = .ok (.iadd, 1) := by decide +kernel
theorem d_Line_isWord_29 : decode b_Line_isWord 29 = .ok (.invokevirtual 27, 3) := by decide +kernel
theorem d_Line_isWord_32 : decode b_Line_isWord 32 = .ok (.invokestatic 34, 3) := by decide +kernel
theorem d_Line_isWord_35 : decode b_Line_isWord 35 = .ok (.aload_n 3, 1) := by decide +kernel
theorem d_Line_isWord_36 : decode b_Line_isWord 36 = .ok (.iload 4, 2) := by decide +kernel
theorem d_Line_isWord_38 : decode b_Line_isWord 38 = .ok (.invokevirtual 31, 3) := by decide +kernel
theorem d_Line_isWord_41 : decode b_Line_isWord 41 = .ok (.if_icmp .eq 5, 3) := by decide +kernel
theorem d_Line_isWord_44 : decode b_Line_isWord 44 = .ok (.iconst 0, 1) := by decide +kernel
theorem d_Line_isWord_45 : decode b_Line_isWord 45 = .ok (.ireturn, 1) := by decide +kernel
theorem d_Line_isWord_46 : decode b_Line_isWord 46 = .ok (.iinc 4 1, 3) := by decide +kernel
theorem d_Line_isWord_49 : decode b_Line_isWord 49 = .ok (.goto (-34), 3) := by decide +kernel
theorem d_Line_isWord_52 : decode b_Line_isWord 52 = .ok (.iconst 1, 1) := by decide +kernel
theorem d_Line_isWord_53 : decode b_Line_isWord 53 = .ok (.ireturn, 1) := by decide +kernel
def f_Line_isWord_15 : Nat → Int32 → Nat → Int32 → zSt → Option Int32
  | 0, _, _, _, _ => none
  | n + 1, a1, k3, a4, S => ((f_String_length k3 S).bind fun u2 => (if u2 ≤ a4 then (gdb 1 (some 1)) else ((f_Line_at (a1 + a4) S).bind fun u3 => ((f_Chars_toSmall u3 S).bind fun u4 => ((f_String_charAt k3 a4 S).bind fun u5 => (if u4 = u5 then ((f_Line_isWord_15 n) a1 k3 (a4 + 1) S) else (gdb 0 (some 0))))))))
def f_Line_isWord (a1 : Int32) (a2 : Int32) (k3 : Nat) (S : zSt) : Option Int32 := ((f_String_length k3 S).bind fun u1 => (if (a2 - a1) = u1 then (f_Line_isWord_15 fu a1 k3 0 S) else (gdb 0 (some 0))))
set_option maxHeartbeats 4000000 in
set_option maxRecDepth 100000 in
theorem c_Line_isWord (l : Launch) (g : zG) (hD : GD g) (a1 : Int32) (a2 : Int32) (k3 : Nat) (hk3 : k3 < nS) (S : zSt) (u : Int32) (h : f_Line_isWord a1 a2 k3 S = some u) : Met l y_Line_isWord (mw y_Line_isWord b_Line_isWord 5 (some .boolean)) (rmD 4) (Pw g [.ref (ga g 7), .int a1, .int a2, .ref (gK g k3)] S) (Qip g S u) 0 0 (gA g) := by
  refine z_go (own := R_Line) (lv0 := [(0, .ref (ga g 7)), (1, .int a1), (2, .int a2), (3, .ref (gK g k3))]) hD (by decide) rfl (Nat.le_of_ble_eq_true rfl) rfl ?_
  intro p e s m args below meth c C D ls hl
  have hx := C.1
  have hb := C.2.1
  have hown := C.2.2.2.1
  have hts := C.2.2.2.2.1
  have L15 : ∀ (n : Nat) (H : Heap) (locs : List Loc) (ls : Array Slot) (a1 : Int32) (k3 : Nat) (hk3 : k3 < nS) (a4 : Int32), f_Line_isWord_15 n a1 k3 a4 S = some u → Dy g s S H locs → lv_has ls 5 [(0, .ref (ga g 7)), (1, .int a1), (3, .ref (gK g k3)), (4, .int a4)] → W p l e (rmD 4) s m args below meth c H locs 0 0 (MQ below (Qip g S u) args s 0 0 (gA g)) (F0 m 15 ls []) := by
    intro n
    induction n with
    | zero => intro H locs ls a1 k3 hk3 a4 h D hl; rw [f_Line_isWord_15] at h; cases h
    | succ n hK15 =>
      intro H locs ls a1 k3 hk3 a4 h D hl
      rw [f_Line_isWord_15] at h
      refine lv_iload hx hb d_Line_isWord_15 (lv_at hl 3 rfl) ?_
      refine lv_aload_n hx hb d_Line_isWord_17 rfl (lv_at hl 2 rfl) ?_
      obtain ⟨u2, hu2, h⟩ := bd_some h
      refine x_cip (rest := [.int a4]) (r_Str C D (c_String_length l g hD k3 hk3 S u2 hu2) wc_String_length wm_Line_21 wi_String_length wd_String_length hk3 rfl rfl rfl hl (Nat.le_of_ble_eq_true rfl) (by decide) d_Line_isWord_18) D (fun H locs D => ?_)
      refine lv_icmp_ge hx hb d_Line_isWord_21 rfl (fun z => ?_) (fun z => ?_)
      · replace h := if_t z h
        refine lv_iconst (v := 1) hx hb d_Line_isWord_52 (by decide) ?_
        exact x_zrp C D h d_Line_isWord_53
      · replace h := if_f z h
        refine lv_aload_n hx hb d_Line_isWord_24 rfl (lv_at hl 0 rfl) ?_
        refine lv_iload_n hx hb d_Line_isWord_25 rfl (lv_at hl 1 rfl) ?_
        refine lv_iload hx hb d_Line_isWord_26 (lv_at hl 3 rfl) ?_
        refine lv_iadd hx hb d_Line_isWord_28 ?_
        obtain ⟨u3, hu3, h⟩ := bd_some h
        refine x_cip (rest := []) (r_V C D (c_Line_at l g hD (a1 + a4) S u3 hu3) wc_Line_at wm_Line_27 wi_Line_at wd_Line_at (by decide) sh_7 kc_Line.1 rfl rfl hl (Nat.le_of_ble_eq_true rfl) (by decide) d_Line_isWord_29) D (fun H locs D => ?_)
        obtain ⟨u4, hu4, h⟩ := bd_some h
        refine x_cip (rest := []) (r_S C D (c_Chars_toSmall l g hD u3 S u4 hu4) wc_Chars_toSmall wm_Line_34 wt_Chars_toSmall wd_Chars_toSmall rfl rfl hl (Nat.le_of_ble_eq_true rfl) (by decide) d_Line_isWord_32) D (fun H locs D => ?_)
        refine lv_aload_n hx hb d_Line_isWord_35 rfl (lv_at hl 2 rfl) ?_
        refine lv_iload hx hb d_Line_isWord_36 (lv_at hl 3 rfl) ?_
        obtain ⟨u5, hu5, h⟩ := bd_some h
        refine x_cip (rest := [.int u4]) (r_Str C D (c_String_charAt l g hD k3 hk3 a4 S u5 hu5) wc_String_charAt wm_Line_31 wi_String_charAt wd_String_charAt hk3 rfl rfl rfl hl (Nat.le_of_ble_eq_true rfl) (by decide) d_Line_isWord_38) D (fun H locs D => ?_)
        refine lv_icmp_eq hx hb d_Line_isWord_41 rfl (fun z => ?_) (fun z => ?_)
        · replace h := if_t z h
          refine lv_iinc (k := 3) (lv' := [(4, .int (a4 + 1)), (0, .ref (ga g 7)), (1, .int a1), (3, .ref (gK g k3))]) hx hb d_Line_isWord_46 hl rfl (ii1 _) (by decide) rfl (fun ls hl => ?_)
          refine lv_goto hx hb d_Line_isWord_49 rfl ?_
          exact hK15 _ _ _ _ _ hk3 _ h D (lv_sub hl [1, 2, 3, 0] rfl)
        · replace h := if_f z h
          refine lv_iconst (v := 0) hx hb d_Line_isWord_44 (by decide) ?_
          exact x_zrp C D h d_Line_isWord_45
  unfold f_Line_isWord at h
  refine lv_iload_n hx hb d_Line_isWord_0 rfl (lv_at hl 2 rfl) ?_
  refine lv_iload_n hx hb d_Line_isWord_1 rfl (lv_at hl 1 rfl) ?_
  refine lv_isub hx hb d_Line_isWord_2 ?_
  refine lv_aload_n hx hb d_Line_isWord_3 rfl (lv_at hl 3 rfl) ?_
  obtain ⟨u1, hu1, h⟩ := bd_some h
  refine x_cip (rest := [.int (a2 - a1)]) (r_Str C D (c_String_length l g hD k3 hk3 S u1 hu1) wc_String_length wm_Line_21 wi_String_length wd_String_length hk3 rfl rfl rfl hl (Nat.le_of_ble_eq_true rfl) (by decide) d_Line_isWord_4) D (fun H locs D => ?_)
  refine lv_icmp_eq hx hb d_Line_isWord_7 rfl (fun z => ?_) (fun z => ?_)
  · replace h := if_t z h
    refine lv_iconst (v := 0) hx hb d_Line_isWord_12 (by decide) ?_
    refine lv_istore (lv' := [(4, .int 0), (0, .ref (ga g 7)), (1, .int a1), (2, .int a2), (3, .ref (gK g k3))]) hx hb d_Line_isWord_13 hl (by decide) rfl (fun ls hl => ?_)
    exact L15 _ _ _ _ _ _ hk3 _ h D (lv_sub hl [1, 2, 4, 0] rfl)
  · replace h := if_f z h
    refine lv_iconst (v := 0) hx hb d_Line_isWord_10 (by decide) ?_
    exact x_zrp C D h d_Line_isWord_11
