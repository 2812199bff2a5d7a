theorem d_Reader_end_0 : decode b_Reader_end 0 = .ok (.aload_n 0, 1) := by decide +kernel
theorem d_Reader_end_1 : decode b_Reader_end 1 = .ok (.getfield 45, 3) := by decide +kernel
theorem d_Reader_end_4 : decode b_Reader_end 4 = .ok (.iconst 1, 1) := by decide +kernel
theorem d_Reader_end_5 : decode b_Reader_end 5 = .ok (.if_icmp .ne 19, 3) := by decide +kernel
theorem d_Reader_end_8 : decode b_Reader_end 8 = .ok (.aload_n 0, 1) := by decide +kernel
theorem d_Reader_end_9 : decode b_Reader_end 9 = .ok (.getfield 48, 3) := by decide +kernel
theorem d_Reader_end_12 : decode b_Reader_end 12 = .ok (.iconst 5, 1) := by decide +kernel
theorem d_Reader_end_13 : decode b_Reader_end 13 = .ok (.if_icmp .ne 11, 3) := by decide +kernel
theorem d_Reader_end_16 : decode b_Reader_end 16 = .ok (.aload_n 0, 1) := by decide +kernel
theorem d_Reader_end_17 : decode b_Reader_end 17 = .ok (.iconst 2, 1) := by decide +kernel
theorem d_Reader_end_18 : decode b_Reader_end 18 = .ok (.putfield 45, 3) := by decide +kernel
theorem d_Reader_end_21 : decode b_Reader_end 21 = .ok (.goto 16, 3) := by decide +kernel
theorem d_Reader_end_24 : decode b_Reader_end 24 = .ok (.aload_n 0, 1) := by decide +kernel
theorem d_Reader_end_25 : decode b_Reader_end 25 = .ok (.getfield 45, 3) := by decide +kernel
theorem d_Reader_end_28 : decode b_Reader_end 28 = .ok (.iconst 2, 1) := by decide +kernel
theorem d_Reader_end_29 : decode b_Reader_end 29 = .ok (.if_icmp .eq 8, 3) := by decide +kernel
theorem d_Reader_end_32 : decode b_Reader_end 32 = .ok (.aload_n 0, 1) := by decide +kernel
theorem d_Reader_end_33 : decode b_Reader_end 33 = .ok (.iconst 3, 1) := by decide +kernel
theorem d_Reader_end_34 : decode b_Reader_end 34 = .ok (.putfield 45, 3) := by decide +kernel
theorem d_Reader_end_37 : decode b_Reader_end 37 = .ok (.return_, 1) := by decide +kernel
def f_Reader_end_24 (S : zSt) : Option zSt := (if (S 6 3) = 2 then (some S) else sq (su S 6 3 3) fun S1 => (some S1))
def f_Reader_end (S : zSt) : Option zSt := (if (S 6 3) = 1 then (if (S 6 4) = 5 then sq (su S 6 3 2) fun S2 => (some S2) else (f_Reader_end_24 S)) else (f_Reader_end_24 S))
set_option maxHeartbeats 4000000 in
set_option maxRecDepth 100000 in
theorem c_Reader_end (l : Launch) (g : zG) (hD : GD g) (S : zSt) (u : zSt) (h : f_Reader_end S = some u) : Met l y_Reader_end (mw y_Reader_end b_Reader_end 1 none) (rmD 0) (Pw g [.ref (ga g 6)] S) (Qvs g u) 0 0 (gA g) := by
  refine z_go (own := R_Reader) (lv0 := [(0, .ref (ga g 6))]) hD (by decide) rfl (Nat.le_of_ble_eq_true rfl) rfl ?_
  intro p e s m args below meth c C D ls hl
  have hx := C.1
  have hb := C.2.1
  have hown := C.2.2.2.1
  have hts := C.2.2.2.2.1
  have B24 : ∀ (H : Heap) (locs : List Loc) (S : zSt) (ls : Array Slot), f_Reader_end_24 S = some u → Dy g s S H locs → lv_has ls 1 [(0, .ref (ga g 6))] → W p l e (rmD 0) s m args below meth c H locs 0 0 (MQ below (Qvs g u) args s 0 0 (gA g)) (F0 m 24 ls []) := by
    intro H locs S ls h D hl
    unfold f_Reader_end_24 at h
    refine lv_aload_n hx hb d_Reader_end_24 rfl (lv_at hl 0 rfl) ?_
    refine x_get (v := .int (S 6 3)) C D kc_Reader (by decide) sh_6 3 rfl (by decide) wf_Reader_45 rfl rfl d_Reader_end_25 ?_
    refine lv_iconst (v := 2) hx hb d_Reader_end_28 (by decide) ?_
    refine lv_icmp_eq hx hb d_Reader_end_29 rfl (fun z => ?_) (fun z => ?_)
    · replace h := if_t z h
      exact x_vrs C D h d_Reader_end_37
    · replace h := if_f z h
      refine lv_aload_n hx hb d_Reader_end_32 rfl (lv_at hl 0 rfl) ?_
      refine lv_iconst (v := 3) hx hb d_Reader_end_33 (by decide) ?_
      refine x_put C D kc_Reader (by decide) sh_6 3 rfl (by decide) wf_Reader_45 rfl rfl 3 rfl ⟨rfl, rfl⟩ d_Reader_end_34 h (fun S1 H locs h D => ?_)
      exact x_vrs C D h d_Reader_end_37
  unfold f_Reader_end at h
  refine lv_aload_n hx hb d_Reader_end_0 rfl (lv_at hl 0 rfl) ?_
  refine x_get (v := .int (S 6 3)) C D kc_Reader (by decide) sh_6 3 rfl (by decide) wf_Reader_45 rfl rfl d_Reader_end_1 ?_
  refine lv_iconst (v := 1) hx hb d_Reader_end_4 (by decide) ?_
  refine lv_icmp_ne hx hb d_Reader_end_5 rfl (fun z => ?_) (fun z => ?_)
  · replace h := if_f z h
    exact B24 _ _ _ _ h D (lv_sub hl [0] rfl)
  · replace h := if_t z h
    refine lv_aload_n hx hb d_Reader_end_8 rfl (lv_at hl 0 rfl) ?_
    refine x_get (v := .int (S 6 4)) C D kc_Reader (by decide) sh_6 4 rfl (by decide) wf_Reader_48 rfl rfl d_Reader_end_9 ?_
    refine lv_iconst (v := 5) hx hb d_Reader_end_12 (by decide) ?_
    refine lv_icmp_ne hx hb d_Reader_end_13 rfl (fun z => ?_) (fun z => ?_)
    · replace h := if_f z h
      exact B24 _ _ _ _ h D (lv_sub hl [0] rfl)
    · replace h := if_t z h
      refine lv_aload_n hx hb d_Reader_end_16 rfl (lv_at hl 0 rfl) ?_
      refine lv_iconst (v := 2) hx hb d_Reader_end_17 (by decide) ?_
      refine x_put C D kc_Reader (by decide) sh_6 3 rfl (by decide) wf_Reader_45 rfl rfl 2 rfl ⟨rfl, rfl⟩ d_Reader_end_18 h (fun S2 H locs h D => ?_)
      refine lv_goto hx hb d_Reader_end_21 rfl ?_
      exact x_vrs C D h d_Reader_end_37
theorem d_Reader_takeDue_0 : decode b_Reader_takeDue 0 = .ok (.iload_n 1, 1) := by decide +kernel
theorem d_Reader_takeDue_1 : decode b_Reader_takeDue 1 = .ok (.iload_n 2, 1) := by decide +kernel
theorem d_Reader_takeDue_2 : decode b_Reader_takeDue 2 = .ok (.if_icmp .ne 11, 3) := by decide +kernel
theorem d_Reader_takeDue_5 : decode b_Reader_takeDue 5 = .ok (.aload_n 0, 1) := by decide +kernel
theorem d_Reader_takeDue_6 : decode b_Reader_takeDue 6 = .ok (.iload_n 3, 1) := by decide +kernel
theorem d_Reader_takeDue_7 : decode b_Reader_takeDue 7 = .ok (.putfield 48, 3) := by decide +kernel
theorem d_Reader_takeDue_10 : decode b_Reader_takeDue 10 = .ok (.goto 8, 3) := by decide +kernel
theorem d_Reader_takeDue_13 : decode b_Reader_takeDue 13 = .ok (.aload_n 0, 1) := by decide +kernel
theorem d_Reader_takeDue_14 : decode b_Reader_takeDue 14 = .ok (.iconst 3, 1) := by decide +kernel
theorem d_Reader_takeDue_15 : decode b_Reader_takeDue 15 = .ok (.putfield 45, 3) := by decide +kernel
theorem d_Reader_takeDue_18 : decode b_Reader_takeDue 18 = .ok (.return_, 1) := by decide +kernel
def f_Reader_takeDue (a1 : Int32) (a2 : Int32) (a3 : Int32) (S : zSt) : Option zSt := (if a1 = a2 then sq (su S 6 4 a3) fun S2 => (some S2) else sq (su S 6 3 3) fun S1 => (some S1))
set_option maxHeartbeats 4000000 in
set_option maxRecDepth 100000 in
theorem c_Reader_takeDue (l : Launch) (g : zG) (hD : GD g) (a1 : Int32) (a2 : Int32) (a3 : Int32) (S : zSt) (u : zSt) (h : f_Reader_takeDue a1 a2 a3 S = some u) : Met l y_Reader_takeDue (mw y_Reader_takeDue b_Reader_takeDue 4 none) (rmD 0) (Pw g [.ref (ga g 6), .int a1, .int a2, .int a3] S) (Qvs g u) 0 0 (gA g) := by
  refine z_go (own := R_Reader) (lv0 := [(0, .ref (ga g 6)), (1, .int a1), (2, .int a2), (3, .int a3)]) hD (by decide) rfl (Nat.le_of_ble_eq_true rfl) rfl ?_
  intro p e s m args below meth c C D ls hl
  have hx := C.1
  have hb := C.2.1
  have hown := C.2.2.2.1
  have hts := C.2.2.2.2.1
  unfold f_Reader_takeDue at h
  refine lv_iload_n hx hb d_Reader_takeDue_0 rfl (lv_at hl 1 rfl) ?_
  refine lv_iload_n hx hb d_Reader_takeDue_1 rfl (lv_at hl 2 rfl) ?_
  refine lv_icmp_ne hx hb d_Reader_takeDue_2 rfl (fun z => ?_) (fun z => ?_)
  · replace h := if_f z h
    refine lv_aload_n hx hb d_Reader_takeDue_13 rfl (lv_at hl 0 rfl) ?_
    refine lv_iconst (v := 3) hx hb d_Reader_takeDue_14 (by decide) ?_
    refine x_put C D kc_Reader (by decide) sh_6 3 rfl (by decide) wf_Reader_45 rfl rfl 3 rfl ⟨rfl, rfl⟩ d_Reader_takeDue_15 h (fun S1 H locs h D => ?_)
    exact x_vrs C D h d_Reader_takeDue_18
  · replace h := if_t z h
    refine lv_aload_n hx hb d_Reader_takeDue_5 rfl (lv_at hl 0 rfl) ?_
    refine lv_iload_n hx hb d_Reader_takeDue_6 rfl (lv_at hl 3 rfl) ?_
    refine x_put C D kc_Reader (by decide) sh_6 4 rfl (by decide) wf_Reader_48 rfl rfl a3 rfl ⟨rfl, rfl⟩ d_Reader_takeDue_7 h (fun S2 H locs h D => ?_)
    refine lv_goto hx hb d_Reader_takeDue_10 rfl ?_
    exact x_vrs C D h d_Reader_takeDue_18
theorem d_Reader_beginContent_0 : decode b_Reader_beginContent 0 = .ok (.aload_n 0, 1) := by decide +kernel
theorem d_Reader_beginContent_1 : decode b_Reader_beginContent 1 = .ok (.getfield 21, 3) := by decide +kernel
theorem d_Reader_beginContent_4 : decode b_Reader_beginContent 4 = .ok (.getfield 119, 3) := by decide +kernel
theorem d_Reader_beginContent_7 : decode b_Reader_beginContent 7 = .ok (.bipush 120, 2) := by decide +kernel
theorem d_Reader_beginContent_9 : decode b_Reader_beginContent 9 = .ok (.if_icmp .le 5, 3) := by decide +kernel
theorem d_Reader_beginContent_12 : decode b_Reader_beginContent 12 = .ok (.iconst 0, 1) := by decide +kernel
theorem d_Reader_beginContent_13 : decode b_Reader_beginContent 13 = .ok (.ireturn, 1) := by decide +kernel
theorem d_Reader_beginContent_14 : decode b_Reader_beginContent 14 = .ok (.aload_n 0, 1) := by decide +kernel
theorem d_Reader_beginContent_15 : decode b_Reader_beginContent 15 = .ok (.aload_n 0, 1) := by decide +kernel
theorem d_Reader_beginContent_16 : decode b_Reader_beginContent 16 = .ok (.getfield 21, 3) := by decide +kernel
theorem d_Reader_beginContent_19 : decode b_Reader_beginContent 19 = .ok (.getfield 119, 3) := by decide +kernel
theorem d_Reader_beginContent_22 : decode b_Reader_beginContent 22 = .ok (.ifCond .ne 7, 3) := by decide +kernel
theorem d_Reader_beginContent_25 : decode b_Reader_beginContent 25 = .ok (.iconst 2, 1) := by decide +kernel
theorem d_Reader_beginContent_26 : decode b_Reader_beginContent 26 = .ok (.goto 4, 3) := by decide +kernel
theorem d_Reader_beginContent_29 : decode b_Reader_beginContent 29 = .ok (.iconst 1, 1) := by decide +kernel
theorem d_Reader_beginContent_30 : decode b_Reader_beginContent 30 = .ok (.putfield 45, 3) := by decide +kernel
theorem d_Reader_beginContent_33 : decode b_Reader_beginContent 33 = .ok (.aload_n 0, 1) := by decide +kernel
theorem d_Reader_beginContent_34 : decode b_Reader_beginContent 34 = .ok (.getfield 21, 3) := by decide +kernel
theorem d_Reader_beginContent_37 : decode b_Reader_beginContent 37 = .ok (.getfield 122, 3) := by decide +kernel
theorem d_Reader_beginContent_40 : decode b_Reader_beginContent 40 = .ok (.ifCond .eq 11, 3) := by decide +kernel
theorem d_Reader_beginContent_43 : decode b_Reader_beginContent 43 = .ok (.aload_n 0, 1) := by decide +kernel
theorem d_Reader_beginContent_44 : decode b_Reader_beginContent 44 = .ok (.iconst 2, 1) := by decide +kernel
theorem d_Reader_beginContent_45 : decode b_Reader_beginContent 45 = .ok (.putfield 48, 3) := by decide +kernel
theorem d_Reader_beginContent_48 : decode b_Reader_beginContent 48 = .ok (.goto 38, 3) := by decide +kernel
theorem d_Reader_beginContent_51 : decode b_Reader_beginContent 51 = .ok (.aload_n 0, 1) := by decide +kernel
theorem d_Reader_beginContent_52 : decode b_Reader_beginContent 52 = .ok (.getfield 21, 3) := by decide +kernel
theorem d_Reader_beginContent_55 : decode b_Reader_beginContent 55 = .ok (.getfield 119, 3) := by decide +kernel
theorem d_Reader_beginContent_58 : decode b_Reader_beginContent 58 = .ok (.iconst (-1), 1) := by decide +kernel
theorem d_Reader_beginContent_59 : decode b_Reader_beginContent 59 = .ok (.if_icmp .ne 11, 3) := by decide +kernel
theorem d_Reader_beginContent_62 : decode b_Reader_beginContent 62 = .ok (.aload_n 0, 1) := by decide +kernel
theorem d_Reader_beginContent_63 : decode b_Reader_beginContent 63 = .ok (.iconst 5, 1) := by decide +kernel
theorem d_Reader_beginContent_64 : decode b_Reader_beginContent 64 = .ok (.putfield 48, 3) := by decide +kernel
theorem d_Reader_beginContent_67 : decode b_Reader_beginContent 67 = .ok (.goto 19, 3) := by decide +kernel
theorem d_Reader_beginContent_70 : decode b_Reader_beginContent 70 = .ok (.aload_n 0, 1) := by decide +kernel
theorem d_Reader_beginContent_71 : decode b_Reader_beginContent 71 = .ok (.iconst 4, 1) := by decide +kernel
theorem d_Reader_beginContent_72 : decode b_Reader_beginContent 72 = .ok (.putfield 48, 3) := by decide +kernel
theorem d_Reader_beginContent_75 : decode b_Reader_beginContent 75 = .ok (.aload_n 0, 1) := by decide +kernel
theorem d_Reader_beginContent_76 : decode b_Reader_beginContent 76 = .ok (.aload_n 0, 1) := by decide +kernel
theorem d_Reader_beginContent_77 : decode b_Reader_beginContent 77 = .ok (.getfield 21, 3) := by decide +kernel
theorem d_Reader_beginContent_80 : decode b_Reader_beginContent 80 = .ok (.getfield 119, 3) := by decide +kernel
theorem d_Reader_beginContent_83 : decode b_Reader_beginContent 83 = .ok (.putfield 54, 3) := by decide +kernel
theorem d_Reader_beginContent_86 : decode b_Reader_beginContent 86 = .ok (.iconst 1, 1) := by decide +kernel
theorem d_Reader_beginContent_87 : decode b_Reader_beginContent 87 = .ok (.ireturn, 1) := by decide +kernel
def f_Reader_beginContent_30 (t0 : Int32) (S : zSt) : Option (Int32 × zSt) := sq (su S 6 3 t0) fun S1 => (if (S1 9 4) = 0 then (if (S1 9 3) = (-1) then sq (su S1 6 4 5) fun S4 => (gdb 1 (some (1, S4))) else sq (su S1 6 4 4) fun S2 => sq (su S2 6 6 (S2 9 3)) fun S3 => (gdb 1 (some (1, S3)))) else sq (su S1 6 4 2) fun S5 => (gdb 1 (some (1, S5))))
def f_Reader_beginContent (S : zSt) : Option (Int32 × zSt) := (if (S 9 3) ≤ 120 then (if (S 9 3) = 0 then (f_Reader_beginContent_30 2 S) else (f_Reader_beginContent_30 1 S)) else (gdb 0 (some (0, S))))
set_option maxHeartbeats 4000000 in
set_option maxRecDepth 100000 in
theorem c_Reader_beginContent (l : Launch) (g : zG) (hD : GD g) (S : zSt) (u : (Int32 × zSt)) (h : f_Reader_beginContent S = some u) : Met l y_Reader_beginContent (mw y_Reader_beginContent b_Reader_beginContent 1 (some .boolean)) (rmD 0) (Pw g [.ref (ga g 6)] S) (Qis g u) 0 0 (gA g) := by
  refine z_go (own := R_Reader) (lv0 := [(0, .ref (ga g 6))]) hD (by decide) rfl (Nat.le_of_ble_eq_true rfl) rfl ?_
  intro p e s m args below meth c C D ls hl
  have hx := C.1
  have hb := C.2.1
  have hown := C.2.2.2.1
  have hts := C.2.2.2.2.1
  have B30 : ∀ (H : Heap) (locs : List Loc) (S : zSt) (ls : Array Slot) (t0 : Int32), f_Reader_beginContent_30 t0 S = some u → Dy g s S H locs → lv_has ls 1 [(0, .ref (ga g 6))] → W p l e (rmD 0) s m args below meth c H locs 0 0 (MQ below (Qis g u) args s 0 0 (gA g)) (F0 m 30 ls [.int t0, .ref (ga g 6)]) := by
    intro H locs S ls t0 h D hl
    unfold f_Reader_beginContent_30 at h
    refine x_put C D kc_Reader (by decide) sh_6 3 rfl (by decide) wf_Reader_45 rfl rfl t0 rfl ⟨rfl, rfl⟩ d_Reader_beginContent_30 h (fun S1 H locs h D => ?_)
    refine lv_aload_n hx hb d_Reader_beginContent_33 rfl (lv_at hl 0 rfl) ?_
    refine x_get (v := .ref (ga g 9)) C D kc_Reader (by decide) sh_6 1 rfl (by decide) wf_Reader_21 rfl rfl d_Reader_beginContent_34 ?_
    refine x_getN (v := .int (S1 9 4)) C D kc_Head (by decide) sh_9 4 rfl (by decide) nf_Reader_122 rfl rfl d_Reader_beginContent_37 ?_
    refine lv_if_eq hx hb d_Reader_beginContent_40 rfl (fun z => ?_) (fun z => ?_)
    · replace h := if_t z h
      refine lv_aload_n hx hb d_Reader_beginContent_51 rfl (lv_at hl 0 rfl) ?_
      refine x_get (v := .ref (ga g 9)) C D kc_Reader (by decide) sh_6 1 rfl (by decide) wf_Reader_21 rfl rfl d_Reader_beginContent_52 ?_
      refine x_getN (v := .int (S1 9 3)) C D kc_Head (by decide) sh_9 3 rfl (by decide) nf_Reader_119 rfl rfl d_Reader_beginContent_55 ?_
      refine lv_iconst (v := (-1)) hx hb d_Reader_beginContent_58 (by decide) ?_
      refine lv_icmp_ne hx hb d_Reader_beginContent_59 rfl (fun z => ?_) (fun z => ?_)
      · replace h := if_f z h
        refine lv_aload_n hx hb d_Reader_beginContent_70 rfl (lv_at hl 0 rfl) ?_
        refine lv_iconst (v := 4) hx hb d_Reader_beginContent_71 (by decide) ?_
        refine x_put C D kc_Reader (by decide) sh_6 4 rfl (by decide) wf_Reader_48 rfl rfl 4 rfl ⟨rfl, rfl⟩ d_Reader_beginContent_72 h (fun S2 H locs h D => ?_)
        refine lv_aload_n hx hb d_Reader_beginContent_75 rfl (lv_at hl 0 rfl) ?_
        refine lv_aload_n hx hb d_Reader_beginContent_76 rfl (lv_at hl 0 rfl) ?_
        refine x_get (v := .ref (ga g 9)) C D kc_Reader (by decide) sh_6 1 rfl (by decide) wf_Reader_21 rfl rfl d_Reader_beginContent_77 ?_
        refine x_getN (v := .int (S2 9 3)) C D kc_Head (by decide) sh_9 3 rfl (by decide) nf_Reader_119 rfl rfl d_Reader_beginContent_80 ?_
        refine x_put C D kc_Reader (by decide) sh_6 6 rfl (by decide) wf_Reader_54 rfl rfl (S2 9 3) rfl ⟨rfl, rfl⟩ d_Reader_beginContent_83 h (fun S3 H locs h D => ?_)
        refine lv_iconst (v := 1) hx hb d_Reader_beginContent_86 (by decide) ?_
        exact x_zrs C D h d_Reader_beginContent_87
      · replace h := if_t z h
        refine lv_aload_n hx hb d_Reader_beginContent_62 rfl (lv_at hl 0 rfl) ?_
        refine lv_iconst (v := 5) hx hb d_Reader_beginContent_63 (by decide) ?_
        refine x_put C D kc_Reader (by decide) sh_6 4 rfl (by decide) wf_Reader_48 rfl rfl 5 rfl ⟨rfl, rfl⟩ d_Reader_beginContent_64 h (fun S4 H locs h D => ?_)
        refine lv_goto hx hb d_Reader_beginContent_67 rfl ?_
        refine lv_iconst (v := 1) hx hb d_Reader_beginContent_86 (by decide) ?_
        exact x_zrs C D h d_Reader_beginContent_87
    · replace h := if_f z h
      refine lv_aload_n hx hb d_Reader_beginContent_43 rfl (lv_at hl 0 rfl) ?_
      refine lv_iconst (v := 2) hx hb d_Reader_beginContent_44 (by decide) ?_
      refine x_put C D kc_Reader (by decide) sh_6 4 rfl (by decide) wf_Reader_48 rfl rfl 2 rfl ⟨rfl, rfl⟩ d_Reader_beginContent_45 h (fun S5 H locs h D => ?_)
      refine lv_goto hx hb d_Reader_beginContent_48 rfl ?_
      refine lv_iconst (v := 1) hx hb d_Reader_beginContent_86 (by decide) ?_
      exact x_zrs C D h d_Reader_beginContent_87
  unfold f_Reader_beginContent at h
  refine lv_aload_n hx hb d_Reader_beginContent_0 rfl (lv_at hl 0 rfl) ?_
  refine x_get (v := .ref (ga g 9)) C D kc_Reader (by decide) sh_6 1 rfl (by decide) wf_Reader_21 rfl rfl d_Reader_beginContent_1 ?_
  refine x_getN (v := .int (S 9 3)) C D kc_Head (by decide) sh_9 3 rfl (by decide) nf_Reader_119 rfl rfl d_Reader_beginContent_4 ?_
  refine lv_bipush (v := 120) hx hb d_Reader_beginContent_7 (by decide) ?_
  refine lv_icmp_le hx hb d_Reader_beginContent_9 rfl (fun z => ?_) (fun z => ?_)
  · replace h := if_t z h
    refine lv_aload_n hx hb d_Reader_beginContent_14 rfl (lv_at hl 0 rfl) ?_
    refine lv_aload_n hx hb d_Reader_beginContent_15 rfl (lv_at hl 0 rfl) ?_
    refine x_get (v := .ref (ga g 9)) C D kc_Reader (by decide) sh_6 1 rfl (by decide) wf_Reader_21 rfl rfl d_Reader_beginContent_16 ?_
    refine x_getN (v := .int (S 9 3)) C D kc_Head (by decide) sh_9 3 rfl (by decide) nf_Reader_119 rfl rfl d_Reader_beginContent_19 ?_
    refine lv_if_ne hx hb d_Reader_beginContent_22 rfl (fun z => ?_) (fun z => ?_)
    · replace h := if_f z h
      refine lv_iconst (v := 1) hx hb d_Reader_beginContent_29 (by decide) ?_
      exact B30 _ _ _ _ _ h D (lv_sub hl [0] rfl)
    · replace h := if_t z h
      refine lv_iconst (v := 2) hx hb d_Reader_beginContent_25 (by decide) ?_
      refine lv_goto hx hb d_Reader_beginContent_26 rfl ?_
      exact B30 _ _ _ _ _ h D (lv_sub hl [0] rfl)
  · replace h := if_f z h
    refine lv_iconst (v := 0) hx hb d_Reader_beginContent_12 (by decide) ?_
    exact x_zrs C D h d_Reader_beginContent_13
theorem d_Reader_beginChunk_0 : decode b_Reader_beginChunk 0 = .ok (.iload_n 1, 1) := by decide +kernel
theorem d_Reader_beginChunk_1 : decode b_Reader_beginChunk 1 = .ok (.ifCond .lt 17, 3) := by decide +kernel
theorem d_Reader_beginChunk_4 : decode b_Reader_beginChunk 4 = .ok (.aload_n 0, 1) := by decide +kernel
theorem d_Reader_beginChunk_5 : decode b_Reader_beginChunk 5 = .ok (.getfield 30, 3) := by decide +kernel
theorem d_Reader_beginChunk_8 : decode b_Reader_beginChunk 8 = .ok (.getfield 41, 3) := by decide +kernel
theorem d_Reader_beginChunk_11 : decode b_Reader_beginChunk 11 = .ok (.iload_n 1, 1) := by decide +kernel
theorem d_Reader_beginChunk_12 : decode b_Reader_beginChunk 12 = .ok (.iadd, 1) := by decide +kernel
theorem d_Reader_beginChunk_13 : decode b_Reader_beginChunk 13 = .ok (.bipush 120, 2) := by decide +kernel
theorem d_Reader_beginChunk_15 : decode b_Reader_beginChunk 15 = .ok (.if_icmp .le 5, 3) := by decide +kernel
theorem d_Reader_beginChunk_18 : decode b_Reader_beginChunk 18 = .ok (.iconst 0, 1) := by decide +kernel
theorem d_Reader_beginChunk_19 : decode b_Reader_beginChunk 19 = .ok (.ireturn, 1) := by decide +kernel
theorem d_Reader_beginChunk_20 : decode b_Reader_beginChunk 20 = .ok (.aload_n 0, 1) := by decide +kernel
theorem d_Reader_beginChunk_21 : decode b_Reader_beginChunk 21 = .ok (.iload_n 1, 1) := by decide +kernel
theorem d_Reader_beginChunk_22 : decode b_Reader_beginChunk 22 = .ok (.ifCond .ne 7, 3) := by decide +kernel
theorem d_Reader_beginChunk_25 : decode b_Reader_beginChunk 25 = .ok (.iconst 3, 1) := by decide +kernel
theorem d_Reader_beginChunk_26 : decode b_Reader_beginChunk 26 = .ok (.goto 5, 3) := by decide +kernel
theorem d_Reader_beginChunk_29 : decode b_Reader_beginChunk 29 = .ok (.bipush 6, 2) := by decide +kernel
theorem d_Reader_beginChunk_31 : decode b_Reader_beginChunk 31 = .ok (.putfield 48, 3) := by decide +kernel
theorem d_Reader_beginChunk_34 : decode b_Reader_beginChunk 34 = .ok (.aload_n 0, 1) := by decide +kernel
theorem d_Reader_beginChunk_35 : decode b_Reader_beginChunk 35 = .ok (.iload_n 1, 1) := by decide +kernel
theorem d_Reader_beginChunk_36 : decode b_Reader_beginChunk 36 = .ok (.putfield 54, 3) := by decide +kernel
theorem d_Reader_beginChunk_39 : decode b_Reader_beginChunk 39 = .ok (.iconst 1, 1) := by decide +kernel
theorem d_Reader_beginChunk_40 : decode b_Reader_beginChunk 40 = .ok (.ireturn, 1) := by decide +kernel
def f_Reader_beginChunk_31 (a1 : Int32) (t0 : Int32) (S : zSt) : Option (Int32 × zSt) := sq (su S 6 4 t0) fun S1 => sq (su S1 6 6 a1) fun S2 => (gdb 1 (some (1, S2)))
def f_Reader_beginChunk (a1 : Int32) (S : zSt) : Option (Int32 × zSt) := (if a1 < 0 then (gdb 0 (some (0, S))) else (if ((S (58 + 3) 1) + a1) ≤ 120 then (if a1 = 0 then (f_Reader_beginChunk_31 a1 3 S) else (f_Reader_beginChunk_31 a1 6 S)) else (gdb 0 (some (0, S)))))
set_option maxHeartbeats 4000000 in
set_option maxRecDepth 100000 in
theorem c_Reader_beginChunk (l : Launch) (g : zG) (hD : GD g) (a1 : Int32) (S : zSt) (u : (Int32 × zSt)) (h : f_Reader_beginChunk a1 S = some u) : Met l y_Reader_beginChunk (mw y_Reader_beginChunk b_Reader_beginChunk 2 (some .boolean)) (rmD 0) (Pw g [.ref (ga g 6), .int a1] S) (Qis g u) 0 0 (gA g) := by
  refine z_go (own := R_Reader) (lv0 := [(0, .ref (ga g 6)), (1, .int a1)]) hD (by decide) rfl (Nat.le_of_ble_eq_true rfl) rfl ?_
  intro p e s m args below meth c C D ls hl
  have hx := C.1
  have hb := C.2.1
  have hown := C.2.2.2.1
  have hts := C.2.2.2.2.1
  have B31 : ∀ (H : Heap) (locs : List Loc) (S : zSt) (ls : Array Slot) (a1 : Int32) (t0 : Int32), f_Reader_beginChunk_31 a1 t0 S = some u → Dy g s S H locs → lv_has ls 2 [(0, .ref (ga g 6)), (1, .int a1)] → W p l e (rmD 0) s m args below meth c H locs 0 0 (MQ below (Qis g u) args s 0 0 (gA g)) (F0 m 31 ls [.int t0, .ref (ga g 6)]) := by
    intro H locs S ls a1 t0 h D hl
    unfold f_Reader_beginChunk_31 at h
    refine x_put C D kc_Reader (by decide) sh_6 4 rfl (by decide) wf_Reader_48 rfl rfl t0 rfl ⟨rfl, rfl⟩ d_Reader_beginChunk_31 h (fun S1 H locs h D => ?_)
    refine lv_aload_n hx hb d_Reader_beginChunk_34 rfl (lv_at hl 0 rfl) ?_
    refine lv_iload_n hx hb d_Reader_beginChunk_35 rfl (lv_at hl 1 rfl) ?_
    refine x_put C D kc_Reader (by decide) sh_6 6 rfl (by decide) wf_Reader_54 rfl rfl a1 rfl ⟨rfl, rfl⟩ d_Reader_beginChunk_36 h (fun S2 H locs h D => ?_)
    refine lv_iconst (v := 1) hx hb d_Reader_beginChunk_39 (by decide) ?_
    exact x_zrs C D h d_Reader_beginChunk_40
  unfold f_Reader_beginChunk at h
  refine lv_iload_n hx hb d_Reader_beginChunk_0 rfl (lv_at hl 1 rfl) ?_
  refine lv_if_lt hx hb d_Reader_beginChunk_1 rfl (fun z => ?_) (fun z => ?_)
  · replace h := if_t z h
    refine lv_iconst (v := 0) hx hb d_Reader_beginChunk_18 (by decide) ?_
    exact x_zrs C D h d_Reader_beginChunk_19
  · replace h := if_f z h
    refine lv_aload_n hx hb d_Reader_beginChunk_4 rfl (lv_at hl 0 rfl) ?_
    refine x_get (v := .ref (ga g (58 + 3))) C D kc_Reader (by decide) sh_6 2 rfl (by decide) wf_Reader_30 rfl rfl d_Reader_beginChunk_5 ?_
    refine x_getN (v := .int (S (58 + 3) 1)) C D kc_ByteRow (nR (by decide)) (sh_R (by decide)) 1 rfl (by decide) nf_Reader_41 rfl rfl d_Reader_beginChunk_8 ?_
    refine lv_iload_n hx hb d_Reader_beginChunk_11 rfl (lv_at hl 1 rfl) ?_
    refine lv_iadd hx hb d_Reader_beginChunk_12 ?_
    refine lv_bipush (v := 120) hx hb d_Reader_beginChunk_13 (by decide) ?_
    refine lv_icmp_le hx hb d_Reader_beginChunk_15 rfl (fun z => ?_) (fun z => ?_)
    · replace h := if_t z h
      refine lv_aload_n hx hb d_Reader_beginChunk_20 rfl (lv_at hl 0 rfl) ?_
      refine lv_iload_n hx hb d_Reader_beginChunk_21 rfl (lv_at hl 1 rfl) ?_
      refine lv_if_ne hx hb d_Reader_beginChunk_22 rfl (fun z => ?_) (fun z => ?_)
      · replace h := if_f z h
        refine lv_bipush (v := 6) hx hb d_Reader_beginChunk_29 (by decide) ?_
        exact B31 _ _ _ _ _ _ h D (lv_sub hl [0, 1] rfl)
      · replace h := if_t z h
        refine lv_iconst (v := 3) hx hb d_Reader_beginChunk_25 (by decide) ?_
        refine lv_goto hx hb d_Reader_beginChunk_26 rfl ?_
        exact B31 _ _ _ _ _ _ h D (lv_sub hl [0, 1] rfl)
    · replace h := if_f z h
      refine lv_iconst (v := 0) hx hb d_Reader_beginChunk_18 (by decide) ?_
      exact x_zrs C D h d_Reader_beginChunk_19
theorem d_Reader_endContent_0 : decode b_Reader_endContent 0 = .ok (.aload_n 0, 1) := by decide +kernel
theorem d_Reader_endContent_1 : decode b_Reader_endContent 1 = .ok (.iconst 2, 1) := by decide +kernel
theorem d_Reader_endContent_2 : decode b_Reader_endContent 2 = .ok (.putfield 45, 3) := by decide +kernel
theorem d_Reader_endContent_5 : decode b_Reader_endContent 5 = .ok (.iconst 1, 1) := by decide +kernel
theorem d_Reader_endContent_6 : decode b_Reader_endContent 6 = .ok (.ireturn, 1) := by decide +kernel
def f_Reader_endContent (S : zSt) : Option (Int32 × zSt) := sq (su S 6 3 2) fun S1 => (gdb 1 (some (1, S1)))
set_option maxHeartbeats 4000000 in
set_option maxRecDepth 100000 in
theorem c_Reader_endContent (l : Launch) (g : zG) (hD : GD g) (S : zSt) (u : (Int32 × zSt)) (h : f_Reader_endContent S = some u) : Met l y_Reader_endContent (mw y_Reader_endContent b_Reader_endContent 1 (some .boolean)) (rmD 0) (Pw g [.ref (ga g 6)] S) (Qis g u) 0 0 (gA g) := by
  refine z_go (own := R_Reader) (lv0 := [(0, .ref (ga g 6))]) hD (by decide) rfl (Nat.le_of_ble_eq_true rfl) rfl ?_
  intro p e s m args below meth c C D ls hl
  have hx := C.1
  have hb := C.2.1
  have hown := C.2.2.2.1
  have hts := C.2.2.2.2.1
  unfold f_Reader_endContent at h
  refine lv_aload_n hx hb d_Reader_endContent_0 rfl (lv_at hl 0 rfl) ?_
  refine lv_iconst (v := 2) hx hb d_Reader_endContent_1 (by decide) ?_
  refine x_put C D kc_Reader (by decide) sh_6 3 rfl (by decide) wf_Reader_45 rfl rfl 2 rfl ⟨rfl, rfl⟩ d_Reader_endContent_2 h (fun S1 H locs h D => ?_)
  refine lv_iconst (v := 1) hx hb d_Reader_endContent_5 (by decide) ?_
  exact x_zrs C D h d_Reader_endContent_6
theorem d_Reader_restart_0 : decode b_Reader_restart 0 = .ok (.aload_n 0, 1) := by decide +kernel
theorem d_Reader_restart_1 : decode b_Reader_restart 1 = .ok (.getfield 12, 3) := by decide +kernel
theorem d_Reader_restart_4 : decode b_Reader_restart 4 = .ok (.invokevirtual 37, 3) := by decide +kernel
theorem d_Reader_restart_7 : decode b_Reader_restart 7 = .ok (.aload_n 0, 1) := by decide +kernel
theorem d_Reader_restart_8 : decode b_Reader_restart 8 = .ok (.getfield 21, 3) := by decide +kernel
theorem d_Reader_restart_11 : decode b_Reader_restart 11 = .ok (.invokevirtual 40, 3) := by decide +kernel
theorem d_Reader_restart_14 : decode b_Reader_restart 14 = .ok (.aload_n 0, 1) := by decide +kernel
theorem d_Reader_restart_15 : decode b_Reader_restart 15 = .ok (.getfield 30, 3) := by decide +kernel
theorem d_Reader_restart_18 : decode b_Reader_restart 18 = .ok (.iconst 0, 1) := by decide +kernel
theorem d_Reader_restart_19 : decode b_Reader_restart 19 = .ok (.putfield 41, 3) := by decide +kernel
theorem d_Reader_restart_22 : decode b_Reader_restart 22 = .ok (.aload_n 0, 1) := by decide +kernel
theorem d_Reader_restart_23 : decode b_Reader_restart 23 = .ok (.iconst 0, 1) := by decide +kernel
theorem d_Reader_restart_24 : decode b_Reader_restart 24 = .ok (.putfield 45, 3) := by decide +kernel
theorem d_Reader_restart_27 : decode b_Reader_restart 27 = .ok (.aload_n 0, 1) := by decide +kernel
theorem d_Reader_restart_28 : decode b_Reader_restart 28 = .ok (.iconst 0, 1) := by decide +kernel
theorem d_Reader_restart_29 : decode b_Reader_restart 29 = .ok (.putfield 48, 3) := by decide +kernel
theorem d_Reader_restart_32 : decode b_Reader_restart 32 = .ok (.aload_n 0, 1) := by decide +kernel
theorem d_Reader_restart_33 : decode b_Reader_restart 33 = .ok (.iconst 0, 1) := by decide +kernel
theorem d_Reader_restart_34 : decode b_Reader_restart 34 = .ok (.putfield 51, 3) := by decide +kernel
theorem d_Reader_restart_37 : decode b_Reader_restart 37 = .ok (.aload_n 0, 1) := by decide +kernel
theorem d_Reader_restart_38 : decode b_Reader_restart 38 = .ok (.iconst 0, 1) := by decide +kernel
theorem d_Reader_restart_39 : decode b_Reader_restart 39 = .ok (.putfield 54, 3) := by decide +kernel
theorem d_Reader_restart_42 : decode b_Reader_restart 42 = .ok (.return_, 1) := by decide +kernel
def f_Reader_restart (S : zSt) : Option zSt := ((f_Line_clear S).bind fun u1 => ((f_Head_clear u1).bind fun u2 => sq (su u2 (58 + 3) 1 0) fun S3 => sq (su S3 6 3 0) fun S4 => sq (su S4 6 4 0) fun S5 => sq (su S5 6 5 0) fun S6 => sq (su S6 6 6 0) fun S7 => (some S7)))
set_option maxHeartbeats 4000000 in
set_option maxRecDepth 100000 in
theorem c_Reader_restart (l : Launch) (g : zG) (hD : GD g) (S : zSt) (u : zSt) (h : f_Reader_restart S = some u) : Met l y_Reader_restart (mw y_Reader_restart b_Reader_restart 1 none) (rmD 1) (Pw g [.ref (ga g 6)] S) (Qvs g u) 0 0 (gA g) := by
  refine z_go (own := R_Reader) (lv0 := [(0, .ref (ga g 6))]) hD (by decide) rfl (Nat.le_of_ble_eq_true rfl) rfl ?_
  intro p e s m args below meth c C D ls hl
  have hx := C.1
  have hb := C.2.1
  have hown := C.2.2.2.1
  have hts := C.2.2.2.2.1
  unfold f_Reader_restart at h
  refine lv_aload_n hx hb d_Reader_restart_0 rfl (lv_at hl 0 rfl) ?_
  refine x_get (v := .ref (ga g 7)) C D kc_Reader (by decide) sh_6 0 rfl (by decide) wf_Reader_12 rfl rfl d_Reader_restart_1 ?_
  obtain ⟨u1, hu1, h⟩ := bd_some h
  refine x_cvs (rest := []) (r_V C D (c_Line_clear l g hD S u1 hu1) wc_Line_clear wm_Reader_37 wi_Line_clear wd_Line_clear (by decide) sh_7 kc_Line.1 rfl rfl hl (Nat.le_of_ble_eq_true rfl) (by decide) d_Reader_restart_4) D (fun H locs D => ?_)
  refine lv_aload_n hx hb d_Reader_restart_7 rfl (lv_at hl 0 rfl) ?_
  refine x_get (v := .ref (ga g 9)) C D kc_Reader (by decide) sh_6 1 rfl (by decide) wf_Reader_21 rfl rfl d_Reader_restart_8 ?_
  obtain ⟨u2, hu2, h⟩ := bd_some h
  refine x_cvs (rest := []) (r_V C D (c_Head_clear l g hD u1 u2 hu2) wc_Head_clear wm_Reader_40 wi_Head_clear wd_Head_clear (by decide) sh_9 kc_Head.1 rfl rfl hl (Nat.le_of_ble_eq_true rfl) (by decide) d_Reader_restart_11) D (fun H locs D => ?_)
  refine lv_aload_n hx hb d_Reader_restart_14 rfl (lv_at hl 0 rfl) ?_
  refine x_get (v := .ref (ga g (58 + 3))) C D kc_Reader (by decide) sh_6 2 rfl (by decide) wf_Reader_30 rfl rfl d_Reader_restart_15 ?_
  refine lv_iconst (v := 0) hx hb d_Reader_restart_18 (by decide) ?_
  refine x_putN C D kc_ByteRow (nR (by decide)) (sh_R (by decide)) 1 rfl (by decide) nf_Reader_41 rfl rfl 0 rfl ⟨rfl, rfl⟩ d_Reader_restart_19 h (fun S3 H locs h D => ?_)
  refine lv_aload_n hx hb d_Reader_restart_22 rfl (lv_at hl 0 rfl) ?_
  refine lv_iconst (v := 0) hx hb d_Reader_restart_23 (by decide) ?_
  refine x_put C D kc_Reader (by decide) sh_6 3 rfl (by decide) wf_Reader_45 rfl rfl 0 rfl ⟨rfl, rfl⟩ d_Reader_restart_24 h (fun S4 H locs h D => ?_)
  refine lv_aload_n hx hb d_Reader_restart_27 rfl (lv_at hl 0 rfl) ?_
  refine lv_iconst (v := 0) hx hb d_Reader_restart_28 (by decide) ?_
  refine x_put C D kc_Reader (by decide) sh_6 4 rfl (by decide) wf_Reader_48 rfl rfl 0 rfl ⟨rfl, rfl⟩ d_Reader_restart_29 h (fun S5 H locs h D => ?_)
  refine lv_aload_n hx hb d_Reader_restart_32 rfl (lv_at hl 0 rfl) ?_
  refine lv_iconst (v := 0) hx hb d_Reader_restart_33 (by decide) ?_
  refine x_put C D kc_Reader (by decide) sh_6 5 rfl (by decide) wf_Reader_51 rfl rfl 0 rfl ⟨rfl, rfl⟩ d_Reader_restart_34 h (fun S6 H locs h D => ?_)
  refine lv_aload_n hx hb d_Reader_restart_37 rfl (lv_at hl 0 rfl) ?_
  refine lv_iconst (v := 0) hx hb d_Reader_restart_38 (by decide) ?_
  refine x_put C D kc_Reader (by decide) sh_6 6 rfl (by decide) wf_Reader_54 rfl rfl 0 rfl ⟨rfl, rfl⟩ d_Reader_restart_39 h (fun S7 H locs h D => ?_)
  exact x_vrs C D h d_Reader_restart_42
theorem d_Reader_takeCounted_0 : decode b_Reader_takeCounted 0 = .ok (.aload_n 0, 1) := by decide +kernel
theorem d_Reader_takeCounted_1 : decode b_Reader_takeCounted 1 = .ok (.getfield 30, 3) := by decide +kernel
theorem d_Reader_takeCounted_4 : decode b_Reader_takeCounted 4 = .ok (.iload_n 1, 1) := by decide +kernel
theorem d_Reader_takeCounted_5 : decode b_Reader_takeCounted 5 = .ok (.invokevirtual 71, 3) := by decide +kernel
theorem d_Reader_takeCounted_8 : decode b_Reader_takeCounted 8 = .ok (.aload_n 0, 1) := by decide +kernel
theorem d_Reader_takeCounted_9 : decode b_Reader_takeCounted 9 = .ok (.dup, 1) := by decide +kernel
theorem d_Reader_takeCounted_10 : decode b_Reader_takeCounted 10 = .ok (.getfield 54, 3) := by decide +kernel
theorem d_Reader_takeCounted_13 : decode b_Reader_takeCounted 13 = .ok (.iconst 1, 1) := by decide +kernel
theorem d_Reader_takeCounted_14 : decode b_Reader_takeCounted 14 = .ok (.isub, 1) := by decide +kernel
theorem d_Reader_takeCounted_15 : decode b_Reader_takeCounted 15 = .ok (.putfield 54, 3) := by decide +kernel
theorem d_Reader_takeCounted_18 : decode b_Reader_takeCounted 18 = .ok (.aload_n 0, 1) := by decide +kernel
theorem d_Reader_takeCounted_19 : decode b_Reader_takeCounted 19 = .ok (.getfield 54, 3) := by decide +kernel
theorem d_Reader_takeCounted_22 : decode b_Reader_takeCounted 22 = .ok (.ifCond .le 4, 3) := by decide +kernel
theorem d_Reader_takeCounted_25 : decode b_Reader_takeCounted 25 = .ok (.return_, 1) := by decide +kernel
theorem d_Reader_takeCounted_26 : decode b_Reader_takeCounted 26 = .ok (.aload_n 0, 1) := by decide +kernel
theorem d_Reader_takeCounted_27 : decode b_Reader_takeCounted 27 = .ok (.getfield 48, 3) := by decide +kernel
theorem d_Reader_takeCounted_30 : decode b_Reader_takeCounted 30 = .ok (.bipush 6, 2) := by decide +kernel
theorem d_Reader_takeCounted_32 : decode b_Reader_takeCounted 32 = .ok (.if_icmp .ne 12, 3) := by decide +kernel
theorem d_Reader_takeCounted_35 : decode b_Reader_takeCounted 35 = .ok (.aload_n 0, 1) := by decide +kernel
theorem d_Reader_takeCounted_36 : decode b_Reader_takeCounted 36 = .ok (.bipush 7, 2) := by decide +kernel
theorem d_Reader_takeCounted_38 : decode b_Reader_takeCounted 38 = .ok (.putfield 48, 3) := by decide +kernel
theorem d_Reader_takeCounted_41 : decode b_Reader_takeCounted 41 = .ok (.goto 8, 3) := by decide +kernel
theorem d_Reader_takeCounted_44 : decode b_Reader_takeCounted 44 = .ok (.aload_n 0, 1) := by decide +kernel
theorem d_Reader_takeCounted_45 : decode b_Reader_takeCounted 45 = .ok (.iconst 2, 1) := by decide +kernel
theorem d_Reader_takeCounted_46 : decode b_Reader_takeCounted 46 = .ok (.putfield 45, 3) := by decide +kernel
theorem d_Reader_takeCounted_49 : decode b_Reader_takeCounted 49 = .ok (.return_, 1) := by decide +kernel
def f_Reader_takeCounted (a1 : Int32) (S : zSt) : Option zSt := ((f_ByteRow_put 3 a1 S).bind fun u1 => sq (su u1 6 6 ((u1 6 6) - 1)) fun S2 => (if (S2 6 6) ≤ 0 then (if (S2 6 4) = 6 then sq (su S2 6 4 7) fun S4 => (some S4) else sq (su S2 6 3 2) fun S3 => (some S3)) else (some S2)))
set_option maxHeartbeats 4000000 in
set_option maxRecDepth 100000 in
theorem c_Reader_takeCounted (l : Launch) (g : zG) (hD : GD g) (a1 : Int32) (S : zSt) (u : zSt) (h : f_Reader_takeCounted a1 S = some u) : Met l y_Reader_takeCounted (mw y_Reader_takeCounted b_Reader_takeCounted 2 none) (rmD 1) (Pw g [.ref (ga g 6), .int a1] S) (Qvs g u) 0 0 (gA g) := by
  refine z_go (own := R_Reader) (lv0 := [(0, .ref (ga g 6)), (1, .int a1)]) hD (by decide) rfl (Nat.le_of_ble_eq_true rfl) rfl ?_
  intro p e s m args below meth c C D ls hl
  have hx := C.1
  have hb := C.2.1
  have hown := C.2.2.2.1
  have hts := C.2.2.2.2.1
  unfold f_Reader_takeCounted at h
  refine lv_aload_n hx hb d_Reader_takeCounted_0 rfl (lv_at hl 0 rfl) ?_
  refine x_get (v := .ref (ga g (58 + 3))) C D kc_Reader (by decide) sh_6 2 rfl (by decide) wf_Reader_30 rfl rfl d_Reader_takeCounted_1 ?_
  refine lv_iload_n hx hb d_Reader_takeCounted_4 rfl (lv_at hl 1 rfl) ?_
  obtain ⟨u1, hu1, h⟩ := bd_some h
  refine x_cvs (rest := []) (r_V C D (c_ByteRow_put l g hD 3 (by decide) a1 S u1 hu1) wc_ByteRow_put wm_Reader_71 wi_ByteRow_put wd_ByteRow_put (nR (by decide)) (sh_R (by decide)) kc_ByteRow.1 rfl rfl hl (Nat.le_of_ble_eq_true rfl) (by decide) d_Reader_takeCounted_5) D (fun H locs D => ?_)
  refine lv_aload_n hx hb d_Reader_takeCounted_8 rfl (lv_at hl 0 rfl) ?_
  refine lv_dup hx hb d_Reader_takeCounted_9 rfl ?_
  refine x_get (v := .int (u1 6 6)) C D kc_Reader (by decide) sh_6 6 rfl (by decide) wf_Reader_54 rfl rfl d_Reader_takeCounted_10 ?_
  refine lv_iconst (v := 1) hx hb d_Reader_takeCounted_13 (by decide) ?_
  refine lv_isub hx hb d_Reader_takeCounted_14 ?_
  refine x_put C D kc_Reader (by decide) sh_6 6 rfl (by decide) wf_Reader_54 rfl rfl ((u1 6 6) - 1) rfl ⟨rfl, rfl⟩ d_Reader_takeCounted_15 h (fun S2 H locs h D => ?_)
  refine lv_aload_n hx hb d_Reader_takeCounted_18 rfl (lv_at hl 0 rfl) ?_
  refine x_get (v := .int (S2 6 6)) C D kc_Reader (by decide) sh_6 6 rfl (by decide) wf_Reader_54 rfl rfl d_Reader_takeCounted_19 ?_
  refine lv_if_le hx hb d_Reader_takeCounted_22 rfl (fun z => ?_) (fun z => ?_)
  · replace h := if_t z h
    refine lv_aload_n hx hb d_Reader_takeCounted_26 rfl (lv_at hl 0 rfl) ?_
    refine x_get (v := .int (S2 6 4)) C D kc_Reader (by decide) sh_6 4 rfl (by decide) wf_Reader_48 rfl rfl d_Reader_takeCounted_27 ?_
    refine lv_bipush (v := 6) hx hb d_Reader_takeCounted_30 (by decide) ?_
    refine lv_icmp_ne hx hb d_Reader_takeCounted_32 rfl (fun z => ?_) (fun z => ?_)
    · replace h := if_f z h
      refine lv_aload_n hx hb d_Reader_takeCounted_44 rfl (lv_at hl 0 rfl) ?_
      refine lv_iconst (v := 2) hx hb d_Reader_takeCounted_45 (by decide) ?_
      refine x_put C D kc_Reader (by decide) sh_6 3 rfl (by decide) wf_Reader_45 rfl rfl 2 rfl ⟨rfl, rfl⟩ d_Reader_takeCounted_46 h (fun S3 H locs h D => ?_)
      exact x_vrs C D h d_Reader_takeCounted_49
    · replace h := if_t z h
      refine lv_aload_n hx hb d_Reader_takeCounted_35 rfl (lv_at hl 0 rfl) ?_
      refine lv_bipush (v := 7) hx hb d_Reader_takeCounted_36 (by decide) ?_
      refine x_put C D kc_Reader (by decide) sh_6 4 rfl (by decide) wf_Reader_48 rfl rfl 7 rfl ⟨rfl, rfl⟩ d_Reader_takeCounted_38 h (fun S4 H locs h D => ?_)
      refine lv_goto hx hb d_Reader_takeCounted_41 rfl ?_
      exact x_vrs C D h d_Reader_takeCounted_49
  · replace h := if_f z h
    exact x_vrs C D h d_Reader_takeCounted_25
theorem d_Reader_takeUncounted_0 : decode b_Reader_takeUncounted 0 = .ok (.aload_n 0, 1) := by decide +kernel
theorem d_Reader_takeUncounted_1 : decode b_Reader_takeUncounted 1 = .ok (.getfield 30, 3) := by decide +kernel
theorem d_Reader_takeUncounted_4 : decode b_Reader_takeUncounted 4 = .ok (.getfield 41, 3) := by decide +kernel
theorem d_Reader_takeUncounted_7 : decode b_Reader_takeUncounted 7 = .ok (.bipush 120, 2) := by decide +kernel
theorem d_Reader_takeUncounted_9 : decode b_Reader_takeUncounted 9 = .ok (.if_icmp .lt 11, 3) := by decide +kernel
theorem d_Reader_takeUncounted_12 : decode b_Reader_takeUncounted 12 = .ok (.aload_n 0, 1) := by decide +kernel
theorem d_Reader_takeUncounted_13 : decode b_Reader_takeUncounted 13 = .ok (.iconst 3, 1) := by decide +kernel
theorem d_Reader_takeUncounted_14 : decode b_Reader_takeUncounted 14 = .ok (.putfield 45, 3) := by decide +kernel
theorem d_Reader_takeUncounted_17 : decode b_Reader_takeUncounted 17 = .ok (.goto 11, 3) := by decide +kernel
theorem d_Reader_takeUncounted_20 : decode b_Reader_takeUncounted 20 = .ok (.aload_n 0, 1) := by decide +kernel
theorem d_Reader_takeUncounted_21 : decode b_Reader_takeUncounted 21 = .ok (.getfield 30, 3) := by decide +kernel
theorem d_Reader_takeUncounted_24 : decode b_Reader_takeUncounted 24 = .ok (.iload_n 1, 1) := by decide +kernel
theorem d_Reader_takeUncounted_25 : decode b_Reader_takeUncounted 25 = .ok (.invokevirtual 71, 3) := by decide +kernel
theorem d_Reader_takeUncounted_28 : decode b_Reader_takeUncounted 28 = .ok (.return_, 1) := by decide +kernel
def f_Reader_takeUncounted (a1 : Int32) (S : zSt) : Option zSt := (if (S (58 + 3) 1) < 120 then ((f_ByteRow_put 3 a1 S).bind fun u1 => (some u1)) else sq (su S 6 3 3) fun S2 => (some S2))
set_option maxHeartbeats 4000000 in
set_option maxRecDepth 100000 in
theorem c_Reader_takeUncounted (l : Launch) (g : zG) (hD : GD g) (a1 : Int32) (S : zSt) (u : zSt) (h : f_Reader_takeUncounted a1 S = some u) : Met l y_Reader_takeUncounted (mw y_Reader_takeUncounted b_Reader_takeUncounted 2 none) (rmD 1) (Pw g [.ref (ga g 6), .int a1] S) (Qvs g u) 0 0 (gA g) := by
  refine z_go (own := R_Reader) (lv0 := [(0, .ref (ga g 6)), (1, .int a1)]) hD (by decide) rfl (Nat.le_of_ble_eq_true rfl) rfl ?_
  intro p e s m args below meth c C D ls hl
  have hx := C.1
  have hb := C.2.1
  have hown := C.2.2.2.1
  have hts := C.2.2.2.2.1
  unfold f_Reader_takeUncounted at h
  refine lv_aload_n hx hb d_Reader_takeUncounted_0 rfl (lv_at hl 0 rfl) ?_
  refine x_get (v := .ref (ga g (58 + 3))) C D kc_Reader (by decide) sh_6 2 rfl (by decide) wf_Reader_30 rfl rfl d_Reader_takeUncounted_1 ?_
  refine x_getN (v := .int (S (58 + 3) 1)) C D kc_ByteRow (nR (by decide)) (sh_R (by decide)) 1 rfl (by decide) nf_Reader_41 rfl rfl d_Reader_takeUncounted_4 ?_
  refine lv_bipush (v := 120) hx hb d_Reader_takeUncounted_7 (by decide) ?_
  refine lv_icmp_lt hx hb d_Reader_takeUncounted_9 rfl (fun z => ?_) (fun z => ?_)
  · replace h := if_t z h
    refine lv_aload_n hx hb d_Reader_takeUncounted_20 rfl (lv_at hl 0 rfl) ?_
    refine x_get (v := .ref (ga g (58 + 3))) C D kc_Reader (by decide) sh_6 2 rfl (by decide) wf_Reader_30 rfl rfl d_Reader_takeUncounted_21 ?_
    refine lv_iload_n hx hb d_Reader_takeUncounted_24 rfl (lv_at hl 1 rfl) ?_
    obtain ⟨u1, hu1, h⟩ := bd_some h
    refine x_cvs (rest := []) (r_V C D (c_ByteRow_put l g hD 3 (by decide) a1 S u1 hu1) wc_ByteRow_put wm_Reader_71 wi_ByteRow_put wd_ByteRow_put (nR (by decide)) (sh_R (by decide)) kc_ByteRow.1 rfl rfl hl (Nat.le_of_ble_eq_true rfl) (by decide) d_Reader_takeUncounted_25) D (fun H locs D => ?_)
    exact x_vrs C D h d_Reader_takeUncounted_28
  · replace h := if_f z h
    refine lv_aload_n hx hb d_Reader_takeUncounted_12 rfl (lv_at hl 0 rfl) ?_
    refine lv_iconst (v := 3) hx hb d_Reader_takeUncounted_13 (by decide) ?_
    refine x_put C D kc_Reader (by decide) sh_6 3 rfl (by decide) wf_Reader_45 rfl rfl 3 rfl ⟨rfl, rfl⟩ d_Reader_takeUncounted_14 h (fun S2 H locs h D => ?_)
    refine lv_goto hx hb d_Reader_takeUncounted_17 rfl ?_
    exact x_vrs C D h d_Reader_takeUncounted_28
theorem d_Reader_endHead_0 : decode b_Reader_endHead 0 = .ok (.aload_n 0, 1) := by decide +kernel
theorem d_Reader_endHead_1 : decode b_Reader_endHead 1 = .ok (.getfield 21, 3) := by decide +kernel
theorem d_Reader_endHead_4 : decode b_Reader_endHead 4 = .ok (.invokevirtual 107, 3) := by decide +kernel
theorem d_Reader_endHead_7 : decode b_Reader_endHead 7 = .ok (.ifCond .eq 17, 3) := by decide +kernel
theorem d_Reader_endHead_10 : decode b_Reader_endHead 10 = .ok (.aload_n 0, 1) := by decide +kernel
theorem d_Reader_endHead_11 : decode b_Reader_endHead 11 = .ok (.getfield 21, 3) := by decide +kernel
theorem d_Reader_endHead_14 : decode b_Reader_endHead 14 = .ok (.invokevirtual 40, 3) := by decide +kernel
theorem d_Reader_endHead_17 : decode b_Reader_endHead 17 = .ok (.aload_n 0, 1) := by decide +kernel
theorem d_Reader_endHead_18 : decode b_Reader_endHead 18 = .ok (.iconst 0, 1) := by decide +kernel
theorem d_Reader_endHead_19 : decode b_Reader_endHead 19 = .ok (.putfield 48, 3) := by decide +kernel
theorem d_Reader_endHead_22 : decode b_Reader_endHead 22 = .ok (.iconst 1, 1) := by decide +kernel
theorem d_Reader_endHead_23 : decode b_Reader_endHead 23 = .ok (.ireturn, 1) := by decide +kernel
theorem d_Reader_endHead_24 : decode b_Reader_endHead 24 = .ok (.aload_n 0, 1) := by decide +kernel
theorem d_Reader_endHead_25 : decode b_Reader_endHead 25 = .ok (.aload_n 0, 1) := by decide +kernel
theorem d_Reader_endHead_26 : decode b_Reader_endHead 26 = .ok (.getfield 21, 3) := by decide +kernel
theorem d_Reader_endHead_29 : decode b_Reader_endHead 29 = .ok (.getfield 110, 3) := by decide +kernel
theorem d_Reader_endHead_32 : decode b_Reader_endHead 32 = .ok (.putfield 51, 3) := by decide +kernel
theorem d_Reader_endHead_35 : decode b_Reader_endHead 35 = .ok (.aload_n 0, 1) := by decide +kernel
theorem d_Reader_endHead_36 : decode b_Reader_endHead 36 = .ok (.getfield 51, 3) := by decide +kernel
theorem d_Reader_endHead_39 : decode b_Reader_endHead 39 = .ok (.bipush 101, 2) := by decide +kernel
theorem d_Reader_endHead_41 : decode b_Reader_endHead 41 = .ok (.if_icmp .ne 5, 3) := by decide +kernel
theorem d_Reader_endHead_44 : decode b_Reader_endHead 44 = .ok (.iconst 0, 1) := by decide +kernel
theorem d_Reader_endHead_45 : decode b_Reader_endHead 45 = .ok (.ireturn, 1) := by decide +kernel
theorem d_Reader_endHead_46 : decode b_Reader_endHead 46 = .ok (.aload_n 0, 1) := by decide +kernel
theorem d_Reader_endHead_47 : decode b_Reader_endHead 47 = .ok (.getfield 21, 3) := by decide +kernel
theorem d_Reader_endHead_50 : decode b_Reader_endHead 50 = .ok (.iload_n 1, 1) := by decide +kernel
theorem d_Reader_endHead_51 : decode b_Reader_endHead 51 = .ok (.invokevirtual 113, 3) := by decide +kernel
theorem d_Reader_endHead_54 : decode b_Reader_endHead 54 = .ok (.ifCond .eq 10, 3) := by decide +kernel
theorem d_Reader_endHead_57 : decode b_Reader_endHead 57 = .ok (.aload_n 0, 1) := by decide +kernel
theorem d_Reader_endHead_58 : decode b_Reader_endHead 58 = .ok (.invokevirtual 100, 3) := by decide +kernel
theorem d_Reader_endHead_61 : decode b_Reader_endHead 61 = .ok (.goto 7, 3) := by decide +kernel
theorem d_Reader_endHead_64 : decode b_Reader_endHead 64 = .ok (.aload_n 0, 1) := by decide +kernel
theorem d_Reader_endHead_65 : decode b_Reader_endHead 65 = .ok (.invokevirtual 116, 3) := by decide +kernel
theorem d_Reader_endHead_68 : decode b_Reader_endHead 68 = .ok (.ireturn, 1) := by decide +kernel
def f_Reader_endHead (a1 : Int32) (S : zSt) : Option (Int32 × zSt) := ((f_Head_isForgotten S).bind fun u1 => (if u1 = 0 then sq (su S 6 5 (S 9 0)) fun S2 => (if (S2 6 5) = 101 then (gdb 0 (some (0, S2))) else ((f_Head_hasNoContent a1 S2).bind fun u3 => (if u3 = 0 then ((f_Reader_beginContent S2).bind fun u4 => (gdb u4.1 (some (u4.1, u4.2)))) else ((f_Reader_endContent S2).bind fun u5 => (gdb u5.1 (some (u5.1, u5.2))))))) else ((f_Head_clear S).bind fun u6 => sq (su u6 6 4 0) fun S7 => (gdb 1 (some (1, S7))))))
set_option maxHeartbeats 4000000 in
set_option maxRecDepth 100000 in
theorem c_Reader_endHead (l : Launch) (g : zG) (hD : GD g) (a1 : Int32) (S : zSt) (u : (Int32 × zSt)) (h : f_Reader_endHead a1 S = some u) : Met l y_Reader_endHead (mw y_Reader_endHead b_Reader_endHead 2 (some .boolean)) (rmD 1) (Pw g [.ref (ga g 6), .int a1] S) (Qis g u) 0 0 (gA g) := by
  refine z_go (own := R_Reader) (lv0 := [(0, .ref (ga g 6)), (1, .int a1)]) hD (by decide) rfl (Nat.le_of_ble_eq_true rfl) rfl ?_
  intro p e s m args below meth c C D ls hl
  have hx := C.1
  have hb := C.2.1
  have hown := C.2.2.2.1
  have hts := C.2.2.2.2.1
  unfold f_Reader_endHead at h
  refine lv_aload_n hx hb d_Reader_endHead_0 rfl (lv_at hl 0 rfl) ?_
  refine x_get (v := .ref (ga g 9)) C D kc_Reader (by decide) sh_6 1 rfl (by decide) wf_Reader_21 rfl rfl d_Reader_endHead_1 ?_
  obtain ⟨u1, hu1, h⟩ := bd_some h
  refine x_cip (rest := []) (r_V C D (c_Head_isForgotten l g hD S u1 hu1) wc_Head_isForgotten wm_Reader_107 wi_Head_isForgotten wd_Head_isForgotten (by decide) sh_9 kc_Head.1 rfl rfl hl (Nat.le_of_ble_eq_true rfl) (by decide) d_Reader_endHead_4) D (fun H locs D => ?_)
  refine lv_if_eq hx hb d_Reader_endHead_7 rfl (fun z => ?_) (fun z => ?_)
  · replace h := if_t z h
    refine lv_aload_n hx hb d_Reader_endHead_24 rfl (lv_at hl 0 rfl) ?_
    refine lv_aload_n hx hb d_Reader_endHead_25 rfl (lv_at hl 0 rfl) ?_
    refine x_get (v := .ref (ga g 9)) C D kc_Reader (by decide) sh_6 1 rfl (by decide) wf_Reader_21 rfl rfl d_Reader_endHead_26 ?_
    refine x_getN (v := .int (S 9 0)) C D kc_Head (by decide) sh_9 0 rfl (by decide) nf_Reader_110 rfl rfl d_Reader_endHead_29 ?_
    refine x_put C D kc_Reader (by decide) sh_6 5 rfl (by decide) wf_Reader_51 rfl rfl (S 9 0) rfl ⟨rfl, rfl⟩ d_Reader_endHead_32 h (fun S2 H locs h D => ?_)
    refine lv_aload_n hx hb d_Reader_endHead_35 rfl (lv_at hl 0 rfl) ?_
    refine x_get (v := .int (S2 6 5)) C D kc_Reader (by decide) sh_6 5 rfl (by decide) wf_Reader_51 rfl rfl d_Reader_endHead_36 ?_
    refine lv_bipush (v := 101) hx hb d_Reader_endHead_39 (by decide) ?_
    refine lv_icmp_ne hx hb d_Reader_endHead_41 rfl (fun z => ?_) (fun z => ?_)
    · replace h := if_f z h
      refine lv_aload_n hx hb d_Reader_endHead_46 rfl (lv_at hl 0 rfl) ?_
      refine x_get (v := .ref (ga g 9)) C D kc_Reader (by decide) sh_6 1 rfl (by decide) wf_Reader_21 rfl rfl d_Reader_endHead_47 ?_
      refine lv_iload_n hx hb d_Reader_endHead_50 rfl (lv_at hl 1 rfl) ?_
      obtain ⟨u3, hu3, h⟩ := bd_some h
      refine x_cip (rest := []) (r_V C D (c_Head_hasNoContent l g hD a1 S2 u3 hu3) wc_Head_hasNoContent wm_Reader_113 wi_Head_hasNoContent wd_Head_hasNoContent (by decide) sh_9 kc_Head.1 rfl rfl hl (Nat.le_of_ble_eq_true rfl) (by decide) d_Reader_endHead_51) D (fun H locs D => ?_)
      refine lv_if_eq hx hb d_Reader_endHead_54 rfl (fun z => ?_) (fun z => ?_)
      · replace h := if_t z h
        refine lv_aload_n hx hb d_Reader_endHead_64 rfl (lv_at hl 0 rfl) ?_
        obtain ⟨u4, hu4, h⟩ := bd_some h
        refine x_cis (rest := []) (r_V C D (c_Reader_beginContent l g hD S2 u4 hu4) wc_Reader_beginContent wm_Reader_116 wi_Reader_beginContent wd_Reader_beginContent (by decide) sh_6 kc_Reader.1 rfl rfl hl (Nat.le_of_ble_eq_true rfl) (by decide) d_Reader_endHead_65) D (fun H locs D => ?_)
        exact x_zrs C D h d_Reader_endHead_68
      · replace h := if_f z h
        refine lv_aload_n hx hb d_Reader_endHead_57 rfl (lv_at hl 0 rfl) ?_
        obtain ⟨u5, hu5, h⟩ := bd_some h
        refine x_cis (rest := []) (r_V C D (c_Reader_endContent l g hD S2 u5 hu5) wc_Reader_endContent wm_Reader_100 wi_Reader_endContent wd_Reader_endContent (by decide) sh_6 kc_Reader.1 rfl rfl hl (Nat.le_of_ble_eq_true rfl) (by decide) d_Reader_endHead_58) D (fun H locs D => ?_)
        refine lv_goto hx hb d_Reader_endHead_61 rfl ?_
        exact x_zrs C D h d_Reader_endHead_68
    · replace h := if_t z h
      refine lv_iconst (v := 0) hx hb d_Reader_endHead_44 (by decide) ?_
      exact x_zrs C D h d_Reader_endHead_45
  · replace h := if_f z h
    refine lv_aload_n hx hb d_Reader_endHead_10 rfl (lv_at hl 0 rfl) ?_
    refine x_get (v := .ref (ga g 9)) C D kc_Reader (by decide) sh_6 1 rfl (by decide) wf_Reader_21 rfl rfl d_Reader_endHead_11 ?_
    obtain ⟨u6, hu6, h⟩ := bd_some h
    refine x_cvs (rest := []) (r_V C D (c_Head_clear l g hD S u6 hu6) wc_Head_clear wm_Reader_40 wi_Head_clear wd_Head_clear (by decide) sh_9 kc_Head.1 rfl rfl hl (Nat.le_of_ble_eq_true rfl) (by decide) d_Reader_endHead_14) D (fun H locs D => ?_)
    refine lv_aload_n hx hb d_Reader_endHead_17 rfl (lv_at hl 0 rfl) ?_
    refine lv_iconst (v := 0) hx hb d_Reader_endHead_18 (by decide) ?_
    refine x_put C D kc_Reader (by decide) sh_6 4 rfl (by decide) wf_Reader_48 rfl rfl 0 rfl ⟨rfl, rfl⟩ d_Reader_endHead_19 h (fun S7 H locs h D => ?_)
    refine lv_iconst (v := 1) hx hb d_Reader_endHead_22 (by decide) ?_
    exact x_zrs C D h d_Reader_endHead_23
theorem d_Reader_readLine_0 : decode b_Reader_readLine 0 = .ok (.aload_n 0, 1) := by decide +kernel
theorem d_Reader_readLine_1 : decode b_Reader_readLine 1 = .ok (.getfield 48, 3) := by decide +kernel
theorem d_Reader_readLine_4 : decode b_Reader_readLine 4 = .ok (.tableswitch 87 0 2 #[28, 45, 75], 28) := by decide +kernel
theorem d_Reader_readLine_32 : decode b_Reader_readLine 32 = .ok (.aload_n 0, 1) := by decide +kernel
theorem d_Reader_readLine_33 : decode b_Reader_readLine 33 = .ok (.iconst 1, 1) := by decide +kernel
theorem d_Reader_readLine_34 : decode b_Reader_readLine 34 = .ok (.putfield 48, 3) := by decide +kernel
theorem d_Reader_readLine_37 : decode b_Reader_readLine 37 = .ok (.aload_n 0, 1) := by decide +kernel
theorem d_Reader_readLine_38 : decode b_Reader_readLine 38 = .ok (.getfield 21, 3) := by decide +kernel
theorem d_Reader_readLine_41 : decode b_Reader_readLine 41 = .ok (.aload_n 0, 1) := by decide +kernel
theorem d_Reader_readLine_42 : decode b_Reader_readLine 42 = .ok (.getfield 12, 3) := by decide +kernel
theorem d_Reader_readLine_45 : decode b_Reader_readLine 45 = .ok (.invokevirtual 82, 3) := by decide +kernel
theorem d_Reader_readLine_48 : decode b_Reader_readLine 48 = .ok (.ireturn, 1) := by decide +kernel
theorem d_Reader_readLine_49 : decode b_Reader_readLine 49 = .ok (.aload_n 0, 1) := by decide +kernel
theorem d_Reader_readLine_50 : decode b_Reader_readLine 50 = .ok (.getfield 12, 3) := by decide +kernel
theorem d_Reader_readLine_53 : decode b_Reader_readLine 53 = .ok (.getfield 86, 3) := by decide +kernel
theorem d_Reader_readLine_56 : decode b_Reader_readLine 56 = .ok (.ifCond .ne 11, 3) := by decide +kernel
theorem d_Reader_readLine_59 : decode b_Reader_readLine 59 = .ok (.aload_n 0, 1) := by decide +kernel
theorem d_Reader_readLine_60 : decode b_Reader_readLine 60 = .ok (.iload_n 1, 1) := by decide +kernel
theorem d_Reader_readLine_61 : decode b_Reader_readLine 61 = .ok (.invokevirtual 87, 3) := by decide +kernel
theorem d_Reader_readLine_64 : decode b_Reader_readLine 64 = .ok (.goto 14, 3) := by decide +kernel
theorem d_Reader_readLine_67 : decode b_Reader_readLine 67 = .ok (.aload_n 0, 1) := by decide +kernel
theorem d_Reader_readLine_68 : decode b_Reader_readLine 68 = .ok (.getfield 21, 3) := by decide +kernel
theorem d_Reader_readLine_71 : decode b_Reader_readLine 71 = .ok (.aload_n 0, 1) := by decide +kernel
theorem d_Reader_readLine_72 : decode b_Reader_readLine 72 = .ok (.getfield 12, 3) := by decide +kernel
theorem d_Reader_readLine_75 : decode b_Reader_readLine 75 = .ok (.invokevirtual 90, 3) := by decide +kernel
theorem d_Reader_readLine_78 : decode b_Reader_readLine 78 = .ok (.ireturn, 1) := by decide +kernel
theorem d_Reader_readLine_79 : decode b_Reader_readLine 79 = .ok (.aload_n 0, 1) := by decide +kernel
theorem d_Reader_readLine_80 : decode b_Reader_readLine 80 = .ok (.aload_n 0, 1) := by decide +kernel
theorem d_Reader_readLine_81 : decode b_Reader_readLine 81 = .ok (.getfield 12, 3) := by decide +kernel
theorem d_Reader_readLine_84 : decode b_Reader_readLine 84 = .ok (.invokevirtual 93, 3) := by decide +kernel
theorem d_Reader_readLine_87 : decode b_Reader_readLine 87 = .ok (.invokevirtual 97, 3) := by decide +kernel
theorem d_Reader_readLine_90 : decode b_Reader_readLine 90 = .ok (.ireturn, 1) := by decide +kernel
theorem d_Reader_readLine_91 : decode b_Reader_readLine 91 = .ok (.aload_n 0, 1) := by decide +kernel
theorem d_Reader_readLine_92 : decode b_Reader_readLine 92 = .ok (.getfield 12, 3) := by decide +kernel
theorem d_Reader_readLine_95 : decode b_Reader_readLine 95 = .ok (.getfield 86, 3) := by decide +kernel
theorem d_Reader_readLine_98 : decode b_Reader_readLine 98 = .ok (.ifCond .ne 10, 3) := by decide +kernel
theorem d_Reader_readLine_101 : decode b_Reader_readLine 101 = .ok (.aload_n 0, 1) := by decide +kernel
theorem d_Reader_readLine_102 : decode b_Reader_readLine 102 = .ok (.invokevirtual 100, 3) := by decide +kernel
theorem d_Reader_readLine_105 : decode b_Reader_readLine 105 = .ok (.goto 14, 3) := by decide +kernel
theorem d_Reader_readLine_108 : decode b_Reader_readLine 108 = .ok (.aload_n 0, 1) := by decide +kernel
theorem d_Reader_readLine_109 : decode b_Reader_readLine 109 = .ok (.getfield 21, 3) := by decide +kernel
theorem d_Reader_readLine_112 : decode b_Reader_readLine 112 = .ok (.aload_n 0, 1) := by decide +kernel
theorem d_Reader_readLine_113 : decode b_Reader_readLine 113 = .ok (.getfield 12, 3) := by decide +kernel
theorem d_Reader_readLine_116 : decode b_Reader_readLine 116 = .ok (.invokevirtual 104, 3) := by decide +kernel
theorem d_Reader_readLine_119 : decode b_Reader_readLine 119 = .ok (.ireturn, 1) := by decide +kernel
def f_Reader_readLine (a1 : Int32) (S : zSt) : Option (Int32 × zSt) := (if (S 6 4) = 0 then sq (su S 6 4 1) fun S2 => ((f_Head_readFirst S2).bind fun u3 => (gdb u3.1 (some (u3.1, u3.2)))) else (if (S 6 4) = 1 then (if (S 7 1) = 0 then ((f_Reader_endHead a1 S).bind fun u6 => (gdb u6.1 (some (u6.1, u6.2)))) else ((f_Head_readField S).bind fun u5 => (gdb u5.1 (some (u5.1, u5.2))))) else (if (S 6 4) = 2 then ((f_Line_chunkSize S).bind fun u8 => ((f_Reader_beginChunk u8 S).bind fun u9 => (gdb u9.1 (some (u9.1, u9.2))))) else (if (S 7 1) = 0 then ((f_Reader_endContent S).bind fun u11 => (gdb u11.1 (some (u11.1, u11.2)))) else ((f_Head_readTrailing S).bind fun u10 => (gdb u10.1 (some (u10.1, u10.2))))))))
set_option maxHeartbeats 4000000 in
set_option maxRecDepth 100000 in
theorem c_Reader_readLine (l : Launch) (g : zG) (hD : GD g) (a1 : Int32) (S : zSt) (u : (Int32 × zSt)) (h : f_Reader_readLine a1 S = some u) : Met l y_Reader_readLine (mw y_Reader_readLine b_Reader_readLine 2 (some .boolean)) (rmD 6) (Pw g [.ref (ga g 6), .int a1] S) (Qis g u) 0 0 (gA g) := by
  refine z_go (own := R_Reader) (lv0 := [(0, .ref (ga g 6)), (1, .int a1)]) hD (by decide) rfl (Nat.le_of_ble_eq_true rfl) rfl ?_
  intro p e s m args below meth c C D ls hl
  have hx := C.1
  have hb := C.2.1
  have hown := C.2.2.2.1
  have hts := C.2.2.2.2.1
  unfold f_Reader_readLine at h
  refine lv_aload_n hx hb d_Reader_readLine_0 rfl (lv_at hl 0 rfl) ?_
  refine x_get (v := .int (S 6 4)) C D kc_Reader (by decide) sh_6 4 rfl (by decide) wf_Reader_48 rfl rfl d_Reader_readLine_1 ?_
  by_cases e1 : (S 6 4) = 0
  · replace h := if_t e1 h
    refine lv_tableIn (off := 28) hx hb d_Reader_readLine_4 (by rw [e1]; decide) (by rw [e1]; decide) (by rw [e1]; rfl) rfl ?_
    refine lv_aload_n hx hb d_Reader_readLine_32 rfl (lv_at hl 0 rfl) ?_
    refine lv_iconst (v := 1) hx hb d_Reader_readLine_33 (by decide) ?_
    refine x_put C D kc_Reader (by decide) sh_6 4 rfl (by decide) wf_Reader_48 rfl rfl 1 rfl ⟨rfl, rfl⟩ d_Reader_readLine_34 h (fun S2 H locs h D => ?_)
    refine lv_aload_n hx hb d_Reader_readLine_37 rfl (lv_at hl 0 rfl) ?_
    refine x_get (v := .ref (ga g 9)) C D kc_Reader (by decide) sh_6 1 rfl (by decide) wf_Reader_21 rfl rfl d_Reader_readLine_38 ?_
    refine lv_aload_n hx hb d_Reader_readLine_41 rfl (lv_at hl 0 rfl) ?_
    refine x_get (v := .ref (ga g 7)) C D kc_Reader (by decide) sh_6 0 rfl (by decide) wf_Reader_12 rfl rfl d_Reader_readLine_42 ?_
    obtain ⟨u3, hu3, h⟩ := bd_some h
    refine x_cis (rest := []) (r_V C D (c_Head_readFirst l g hD S2 u3 hu3) wc_Head_readFirst wm_Reader_82 wi_Head_readFirst wd_Head_readFirst (by decide) sh_9 kc_Head.1 rfl rfl hl (Nat.le_of_ble_eq_true rfl) (by decide) d_Reader_readLine_45) D (fun H locs D => ?_)
    exact x_zrs C D h d_Reader_readLine_48
  · replace h := if_f e1 h
    by_cases e4 : (S 6 4) = 1
    · replace h := if_t e4 h
      refine lv_tableIn (off := 45) hx hb d_Reader_readLine_4 (by rw [e4]; decide) (by rw [e4]; decide) (by rw [e4]; rfl) rfl ?_
      refine lv_aload_n hx hb d_Reader_readLine_49 rfl (lv_at hl 0 rfl) ?_
      refine x_get (v := .ref (ga g 7)) C D kc_Reader (by decide) sh_6 0 rfl (by decide) wf_Reader_12 rfl rfl d_Reader_readLine_50 ?_
      refine x_getN (v := .int (S 7 1)) C D kc_Line (by decide) sh_7 1 rfl (by decide) nf_Reader_86 rfl rfl d_Reader_readLine_53 ?_
      refine lv_if_ne hx hb d_Reader_readLine_56 rfl (fun z => ?_) (fun z => ?_)
      · replace h := if_f z h
        refine lv_aload_n hx hb d_Reader_readLine_67 rfl (lv_at hl 0 rfl) ?_
        refine x_get (v := .ref (ga g 9)) C D kc_Reader (by decide) sh_6 1 rfl (by decide) wf_Reader_21 rfl rfl d_Reader_readLine_68 ?_
        refine lv_aload_n hx hb d_Reader_readLine_71 rfl (lv_at hl 0 rfl) ?_
        refine x_get (v := .ref (ga g 7)) C D kc_Reader (by decide) sh_6 0 rfl (by decide) wf_Reader_12 rfl rfl d_Reader_readLine_72 ?_
        obtain ⟨u5, hu5, h⟩ := bd_some h
        refine x_cis (rest := []) (r_V C D (c_Head_readField l g hD S u5 hu5) wc_Head_readField wm_Reader_90 wi_Head_readField wd_Head_readField (by decide) sh_9 kc_Head.1 rfl rfl hl (Nat.le_of_ble_eq_true rfl) (by decide) d_Reader_readLine_75) D (fun H locs D => ?_)
        exact x_zrs C D h d_Reader_readLine_78
      · replace h := if_t z h
        refine lv_aload_n hx hb d_Reader_readLine_59 rfl (lv_at hl 0 rfl) ?_
        refine lv_iload_n hx hb d_Reader_readLine_60 rfl (lv_at hl 1 rfl) ?_
        obtain ⟨u6, hu6, h⟩ := bd_some h
        refine x_cis (rest := []) (r_V C D (c_Reader_endHead l g hD a1 S u6 hu6) wc_Reader_endHead wm_Reader_87 wi_Reader_endHead wd_Reader_endHead (by decide) sh_6 kc_Reader.1 rfl rfl hl (Nat.le_of_ble_eq_true rfl) (by decide) d_Reader_readLine_61) D (fun H locs D => ?_)
        refine lv_goto hx hb d_Reader_readLine_64 rfl ?_
        exact x_zrs C D h d_Reader_readLine_78
    · replace h := if_f e4 h
      by_cases e7 : (S 6 4) = 2
      · replace h := if_t e7 h
        refine lv_tableIn (off := 75) hx hb d_Reader_readLine_4 (by rw [e7]; decide) (by rw [e7]; decide) (by rw [e7]; rfl) rfl ?_
        refine lv_aload_n hx hb d_Reader_readLine_79 rfl (lv_at hl 0 rfl) ?_
        refine lv_aload_n hx hb d_Reader_readLine_80 rfl (lv_at hl 0 rfl) ?_
        refine x_get (v := .ref (ga g 7)) C D kc_Reader (by decide) sh_6 0 rfl (by decide) wf_Reader_12 rfl rfl d_Reader_readLine_81 ?_
        obtain ⟨u8, hu8, h⟩ := bd_some h
        refine x_cip (rest := [.ref (ga g 6)]) (r_V C D (c_Line_chunkSize l g hD S u8 hu8) wc_Line_chunkSize wm_Reader_93 wi_Line_chunkSize wd_Line_chunkSize (by decide) sh_7 kc_Line.1 rfl rfl hl (Nat.le_of_ble_eq_true rfl) (by decide) d_Reader_readLine_84) D (fun H locs D => ?_)
        obtain ⟨u9, hu9, h⟩ := bd_some h
        refine x_cis (rest := []) (r_V C D (c_Reader_beginChunk l g hD u8 S u9 hu9) wc_Reader_beginChunk wm_Reader_97 wi_Reader_beginChunk wd_Reader_beginChunk (by decide) sh_6 kc_Reader.1 rfl rfl hl (Nat.le_of_ble_eq_true rfl) (by decide) d_Reader_readLine_87) D (fun H locs D => ?_)
        exact x_zrs C D h d_Reader_readLine_90
      · replace h := if_f e7 h
        have ne1 := lv_neT e1 (a := 0) (by decide)
        have ne4 := lv_neT e4 (a := 1) (by decide)
        have ne7 := lv_neT e7 (a := 2) (by decide)
        refine lv_tableOut hx hb d_Reader_readLine_4 (by omega) rfl ?_
        refine lv_aload_n hx hb d_Reader_readLine_91 rfl (lv_at hl 0 rfl) ?_
        refine x_get (v := .ref (ga g 7)) C D kc_Reader (by decide) sh_6 0 rfl (by decide) wf_Reader_12 rfl rfl d_Reader_readLine_92 ?_
        refine x_getN (v := .int (S 7 1)) C D kc_Line (by decide) sh_7 1 rfl (by decide) nf_Reader_86 rfl rfl d_Reader_readLine_95 ?_
        refine lv_if_ne hx hb d_Reader_readLine_98 rfl (fun z => ?_) (fun z => ?_)
        · replace h := if_f z h
          refine lv_aload_n hx hb d_Reader_readLine_108 rfl (lv_at hl 0 rfl) ?_
          refine x_get (v := .ref (ga g 9)) C D kc_Reader (by decide) sh_6 1 rfl (by decide) wf_Reader_21 rfl rfl d_Reader_readLine_109 ?_
          refine lv_aload_n hx hb d_Reader_readLine_112 rfl (lv_at hl 0 rfl) ?_
          refine x_get (v := .ref (ga g 7)) C D kc_Reader (by decide) sh_6 0 rfl (by decide) wf_Reader_12 rfl rfl d_Reader_readLine_113 ?_
          obtain ⟨u10, hu10, h⟩ := bd_some h
          refine x_cis (rest := []) (r_V C D (c_Head_readTrailing l g hD S u10 hu10) wc_Head_readTrailing wm_Reader_104 wi_Head_readTrailing wd_Head_readTrailing (by decide) sh_9 kc_Head.1 rfl rfl hl (Nat.le_of_ble_eq_true rfl) (by decide) d_Reader_readLine_116) D (fun H locs D => ?_)
          exact x_zrs C D h d_Reader_readLine_119
        · replace h := if_t z h
          refine lv_aload_n hx hb d_Reader_readLine_101 rfl (lv_at hl 0 rfl) ?_
          obtain ⟨u11, hu11, h⟩ := bd_some h
          refine x_cis (rest := []) (r_V C D (c_Reader_endContent l g hD S u11 hu11) wc_Reader_endContent wm_Reader_100 wi_Reader_endContent wd_Reader_endContent (by decide) sh_6 kc_Reader.1 rfl rfl hl (Nat.le_of_ble_eq_true rfl) (by decide) d_Reader_readLine_102) D (fun H locs D => ?_)
          refine lv_goto hx hb d_Reader_readLine_105 rfl ?_
          exact x_zrs C D h d_Reader_readLine_119
theorem d_Reader_takeOfLine_0 : decode b_Reader_takeOfLine 0 = .ok (.aload_n 0, 1) := by decide +kernel
theorem d_Reader_takeOfLine_1 : decode b_Reader_takeOfLine 1 = .ok (.getfield 12, 3) := by decide +kernel
theorem d_Reader_takeOfLine_4 : decode b_Reader_takeOfLine 4 = .ok (.iload_n 1, 1) := by decide +kernel
theorem d_Reader_takeOfLine_5 : decode b_Reader_takeOfLine 5 = .ok (.invokevirtual 74, 3) := by decide +kernel
theorem d_Reader_takeOfLine_8 : decode b_Reader_takeOfLine 8 = .ok (.istore_n 3, 1) := by decide +kernel
theorem d_Reader_takeOfLine_9 : decode b_Reader_takeOfLine 9 = .ok (.iload_n 3, 1) := by decide +kernel
theorem d_Reader_takeOfLine_10 : decode b_Reader_takeOfLine 10 = .ok (.iconst 2, 1) := by decide +kernel
theorem d_Reader_takeOfLine_11 : decode b_Reader_takeOfLine 11 = .ok (.if_icmp .ne 11, 3) := by decide +kernel
theorem d_Reader_takeOfLine_14 : decode b_Reader_takeOfLine 14 = .ok (.aload_n 0, 1) := by decide +kernel
theorem d_Reader_takeOfLine_15 : decode b_Reader_takeOfLine 15 = .ok (.iconst 3, 1) := by decide +kernel
theorem d_Reader_takeOfLine_16 : decode b_Reader_takeOfLine 16 = .ok (.putfield 45, 3) := by decide +kernel
theorem d_Reader_takeOfLine_19 : decode b_Reader_takeOfLine 19 = .ok (.goto 28, 3) := by decide +kernel
theorem d_Reader_takeOfLine_22 : decode b_Reader_takeOfLine 22 = .ok (.iload_n 3, 1) := by decide +kernel
theorem d_Reader_takeOfLine_23 : decode b_Reader_takeOfLine 23 = .ok (.iconst 1, 1) := by decide +kernel
theorem d_Reader_takeOfLine_24 : decode b_Reader_takeOfLine 24 = .ok (.if_icmp .ne 23, 3) := by decide +kernel
theorem d_Reader_takeOfLine_27 : decode b_Reader_takeOfLine 27 = .ok (.aload_n 0, 1) := by decide +kernel
theorem d_Reader_takeOfLine_28 : decode b_Reader_takeOfLine 28 = .ok (.iload_n 2, 1) := by decide +kernel
theorem d_Reader_takeOfLine_29 : decode b_Reader_takeOfLine 29 = .ok (.invokevirtual 78, 3) := by decide +kernel
theorem d_Reader_takeOfLine_32 : decode b_Reader_takeOfLine 32 = .ok (.ifCond .ne 8, 3) := by decide +kernel
theorem d_Reader_takeOfLine_35 : decode b_Reader_takeOfLine 35 = .ok (.aload_n 0, 1) := by decide +kernel
theorem d_Reader_takeOfLine_36 : decode b_Reader_takeOfLine 36 = .ok (.iconst 3, 1) := by decide +kernel
theorem d_Reader_takeOfLine_37 : decode b_Reader_takeOfLine 37 = .ok (.putfield 45, 3) := by decide +kernel
theorem d_Reader_takeOfLine_40 : decode b_Reader_takeOfLine 40 = .ok (.aload_n 0, 1) := by decide +kernel
theorem d_Reader_takeOfLine_41 : decode b_Reader_takeOfLine 41 = .ok (.getfield 12, 3) := by decide +kernel
theorem d_Reader_takeOfLine_44 : decode b_Reader_takeOfLine 44 = .ok (.invokevirtual 37, 3) := by decide +kernel
theorem d_Reader_takeOfLine_47 : decode b_Reader_takeOfLine 47 = .ok (.return_, 1) := by decide +kernel
def f_Reader_takeOfLine_40 (S : zSt) : Option zSt := ((f_Line_clear S).bind fun u3 => (some u3))
def f_Reader_takeOfLine (a1 : Int32) (a2 : Int32) (S : zSt) : Option zSt := ((f_Line_add a1 S).bind fun u1 => (if u1.1 = 2 then sq (su u1.2 6 3 3) fun S5 => (some S5) else (if u1.1 = 1 then ((f_Reader_readLine a2 u1.2).bind fun u2 => (if u2.1 = 0 then sq (su u2.2 6 3 3) fun S4 => (f_Reader_takeOfLine_40 S4) else (f_Reader_takeOfLine_40 u2.2))) else (some u1.2))))
set_option maxHeartbeats 4000000 in
set_option maxRecDepth 100000 in
theorem c_Reader_takeOfLine (l : Launch) (g : zG) (hD : GD g) (a1 : Int32) (a2 : Int32) (S : zSt) (u : zSt) (h : f_Reader_takeOfLine a1 a2 S = some u) : Met l y_Reader_takeOfLine (mw y_Reader_takeOfLine b_Reader_takeOfLine 4 none) (rmD 7) (Pw g [.ref (ga g 6), .int a1, .int a2] S) (Qvs g u) 0 0 (gA g) := by
  refine z_go (own := R_Reader) (lv0 := [(0, .ref (ga g 6)), (1, .int a1), (2, .int a2)]) hD (by decide) rfl (Nat.le_of_ble_eq_true rfl) rfl ?_
  intro p e s m args below meth c C D ls hl
  have hx := C.1
  have hb := C.2.1
  have hown := C.2.2.2.1
  have hts := C.2.2.2.2.1
  have B40 : ∀ (H : Heap) (locs : List Loc) (S : zSt) (ls : Array Slot), f_Reader_takeOfLine_40 S = some u → Dy g s S H locs → lv_has ls 4 [(0, .ref (ga g 6))] → W p l e (rmD 7) s m args below meth c H locs 0 0 (MQ below (Qvs g u) args s 0 0 (gA g)) (F0 m 40 ls []) := by
    intro H locs S ls h D hl
    unfold f_Reader_takeOfLine_40 at h
    refine lv_aload_n hx hb d_Reader_takeOfLine_40 rfl (lv_at hl 0 rfl) ?_
    refine x_get (v := .ref (ga g 7)) C D kc_Reader (by decide) sh_6 0 rfl (by decide) wf_Reader_12 rfl rfl d_Reader_takeOfLine_41 ?_
    obtain ⟨u3, hu3, h⟩ := bd_some h
    refine x_cvs (rest := []) (r_V C D (c_Line_clear l g hD S u3 hu3) wc_Line_clear wm_Reader_37 wi_Line_clear wd_Line_clear (by decide) sh_7 kc_Line.1 rfl rfl hl (Nat.le_of_ble_eq_true rfl) (by decide) d_Reader_takeOfLine_44) D (fun H locs D => ?_)
    exact x_vrs C D h d_Reader_takeOfLine_47
  unfold f_Reader_takeOfLine at h
  refine lv_aload_n hx hb d_Reader_takeOfLine_0 rfl (lv_at hl 0 rfl) ?_
  refine x_get (v := .ref (ga g 7)) C D kc_Reader (by decide) sh_6 0 rfl (by decide) wf_Reader_12 rfl rfl d_Reader_takeOfLine_1 ?_
  refine lv_iload_n hx hb d_Reader_takeOfLine_4 rfl (lv_at hl 1 rfl) ?_
  obtain ⟨u1, hu1, h⟩ := bd_some h
  refine x_cis (rest := []) (r_V C D (c_Line_add l g hD a1 S u1 hu1) wc_Line_add wm_Reader_74 wi_Line_add wd_Line_add (by decide) sh_7 kc_Line.1 rfl rfl hl (Nat.le_of_ble_eq_true rfl) (by decide) d_Reader_takeOfLine_5) D (fun H locs D => ?_)
  refine lv_istore_n (lv' := [(3, .int u1.1), (0, .ref (ga g 6)), (1, .int a1), (2, .int a2)]) hx hb d_Reader_takeOfLine_8 rfl hl (by decide) rfl (fun ls hl => ?_)
  refine lv_iload_n hx hb d_Reader_takeOfLine_9 rfl (lv_at hl 0 rfl) ?_
  refine lv_iconst (v := 2) hx hb d_Reader_takeOfLine_10 (by decide) ?_
  refine lv_icmp_ne hx hb d_Reader_takeOfLine_11 rfl (fun z => ?_) (fun z => ?_)
  · replace h := if_f z h
    refine lv_iload_n hx hb d_Reader_takeOfLine_22 rfl (lv_at hl 0 rfl) ?_
    refine lv_iconst (v := 1) hx hb d_Reader_takeOfLine_23 (by decide) ?_
    refine lv_icmp_ne hx hb d_Reader_takeOfLine_24 rfl (fun z => ?_) (fun z => ?_)
    · replace h := if_f z h
      exact x_vrs C D h d_Reader_takeOfLine_47
    · replace h := if_t z h
      refine lv_aload_n hx hb d_Reader_takeOfLine_27 rfl (lv_at hl 1 rfl) ?_
      refine lv_iload_n hx hb d_Reader_takeOfLine_28 rfl (lv_at hl 3 rfl) ?_
      obtain ⟨u2, hu2, h⟩ := bd_some h
      refine x_cis (rest := []) (r_V C D (c_Reader_readLine l g hD a2 u1.2 u2 hu2) wc_Reader_readLine wm_Reader_78 wi_Reader_readLine wd_Reader_readLine (by decide) sh_6 kc_Reader.1 rfl rfl hl (Nat.le_of_ble_eq_true rfl) (by decide) d_Reader_takeOfLine_29) D (fun H locs D => ?_)
      refine lv_if_ne hx hb d_Reader_takeOfLine_32 rfl (fun z => ?_) (fun z => ?_)
      · replace h := if_f z h
        exact B40 _ _ _ _ h D (lv_sub hl [1] rfl)
      · replace h := if_t z h
        refine lv_aload_n hx hb d_Reader_takeOfLine_35 rfl (lv_at hl 1 rfl) ?_
        refine lv_iconst (v := 3) hx hb d_Reader_takeOfLine_36 (by decide) ?_
        refine x_put C D kc_Reader (by decide) sh_6 3 rfl (by decide) wf_Reader_45 rfl rfl 3 rfl ⟨rfl, rfl⟩ d_Reader_takeOfLine_37 h (fun S4 H locs h D => ?_)
        exact B40 _ _ _ _ h D (lv_sub hl [1] rfl)
  · replace h := if_t z h
    refine lv_aload_n hx hb d_Reader_takeOfLine_14 rfl (lv_at hl 1 rfl) ?_
    refine lv_iconst (v := 3) hx hb d_Reader_takeOfLine_15 (by decide) ?_
    refine x_put C D kc_Reader (by decide) sh_6 3 rfl (by decide) wf_Reader_45 rfl rfl 3 rfl ⟨rfl, rfl⟩ d_Reader_takeOfLine_16 h (fun S5 H locs h D => ?_)
    refine lv_goto hx hb d_Reader_takeOfLine_19 rfl ?_
    exact x_vrs C D h d_Reader_takeOfLine_47
theorem d_Reader_take_0 : decode b_Reader_take 0 = .ok (.aload_n 0, 1) := by decide +kernel
theorem d_Reader_take_1 : decode b_Reader_take 1 = .ok (.getfield 45, 3) := by decide +kernel
theorem d_Reader_take_4 : decode b_Reader_take 4 = .ok (.iconst 2, 1) := by decide +kernel
theorem d_Reader_take_5 : decode b_Reader_take 5 = .ok (.if_icmp .eq 11, 3) := by decide +kernel
theorem d_Reader_take_8 : decode b_Reader_take 8 = .ok (.aload_n 0, 1) := by decide +kernel
theorem d_Reader_take_9 : decode b_Reader_take 9 = .ok (.getfield 45, 3) := by decide +kernel
theorem d_Reader_take_12 : decode b_Reader_take 12 = .ok (.iconst 3, 1) := by decide +kernel
theorem d_Reader_take_13 : decode b_Reader_take 13 = .ok (.if_icmp .ne 4, 3) := by decide +kernel
theorem d_Reader_take_16 : decode b_Reader_take 16 = .ok (.return_, 1) := by decide +kernel
theorem d_Reader_take_17 : decode b_Reader_take 17 = .ok (.aload_n 0, 1) := by decide +kernel
theorem d_Reader_take_18 : decode b_Reader_take 18 = .ok (.getfield 48, 3) := by decide +kernel
theorem d_Reader_take_21 : decode b_Reader_take 21 = .ok (.tableswitch 74 4 8 #[35, 43, 35, 51, 63], 35) := by decide +kernel
theorem d_Reader_take_56 : decode b_Reader_take 56 = .ok (.aload_n 0, 1) := by decide +kernel
theorem d_Reader_take_57 : decode b_Reader_take 57 = .ok (.iload_n 1, 1) := by decide +kernel
theorem d_Reader_take_58 : decode b_Reader_take 58 = .ok (.invokevirtual 57, 3) := by decide +kernel
theorem d_Reader_take_61 : decode b_Reader_take 61 = .ok (.goto 40, 3) := by decide +kernel
theorem d_Reader_take_64 : decode b_Reader_take 64 = .ok (.aload_n 0, 1) := by decide +kernel
theorem d_Reader_take_65 : decode b_Reader_take 65 = .ok (.iload_n 1, 1) := by decide +kernel
theorem d_Reader_take_66 : decode b_Reader_take 66 = .ok (.invokevirtual 60, 3) := by decide +kernel
theorem d_Reader_take_69 : decode b_Reader_take 69 = .ok (.goto 32, 3) := by decide +kernel
theorem d_Reader_take_72 : decode b_Reader_take 72 = .ok (.aload_n 0, 1) := by decide +kernel
theorem d_Reader_take_73 : decode b_Reader_take 73 = .ok (.iload_n 1, 1) := by decide +kernel
theorem d_Reader_take_74 : decode b_Reader_take 74 = .ok (.bipush 13, 2) := by decide +kernel
theorem d_Reader_take_76 : decode b_Reader_take 76 = .ok (.bipush 8, 2) := by decide +kernel
theorem d_Reader_take_78 : decode b_Reader_take 78 = .ok (.invokevirtual 63, 3) := by decide +kernel
theorem d_Reader_take_81 : decode b_Reader_take 81 = .ok (.goto 20, 3) := by decide +kernel
theorem d_Reader_take_84 : decode b_Reader_take 84 = .ok (.aload_n 0, 1) := by decide +kernel
theorem d_Reader_take_85 : decode b_Reader_take 85 = .ok (.iload_n 1, 1) := by decide +kernel
theorem d_Reader_take_86 : decode b_Reader_take 86 = .ok (.bipush 10, 2) := by decide +kernel
theorem d_Reader_take_88 : decode b_Reader_take 88 = .ok (.iconst 2, 1) := by decide +kernel
theorem d_Reader_take_89 : decode b_Reader_take 89 = .ok (.invokevirtual 63, 3) := by decide +kernel
theorem d_Reader_take_92 : decode b_Reader_take 92 = .ok (.goto 9, 3) := by decide +kernel
theorem d_Reader_take_95 : decode b_Reader_take 95 = .ok (.aload_n 0, 1) := by decide +kernel
theorem d_Reader_take_96 : decode b_Reader_take 96 = .ok (.iload_n 1, 1) := by decide +kernel
theorem d_Reader_take_97 : decode b_Reader_take 97 = .ok (.iload_n 2, 1) := by decide +kernel
theorem d_Reader_take_98 : decode b_Reader_take 98 = .ok (.invokevirtual 67, 3) := by decide +kernel
theorem d_Reader_take_101 : decode b_Reader_take 101 = .ok (.return_, 1) := by decide +kernel
def f_Reader_take (a1 : Int32) (a2 : Int32) (S : zSt) : Option zSt := (if (S 6 3) = 2 then (some S) else (if (S 6 3) = 3 then (some S) else (if (S 6 4) = 4 then ((f_Reader_takeCounted a1 S).bind fun u2 => (some u2)) else (if (S 6 4) = 5 then ((f_Reader_takeUncounted a1 S).bind fun u4 => (some u4)) else (if (S 6 4) = 6 then ((f_Reader_takeCounted a1 S).bind fun u6 => (some u6)) else (if (S 6 4) = 7 then ((f_Reader_takeDue a1 13 8 S).bind fun u8 => (some u8)) else (if (S 6 4) = 8 then ((f_Reader_takeDue a1 10 2 S).bind fun u10 => (some u10)) else ((f_Reader_takeOfLine a1 a2 S).bind fun u11 => (some u11)))))))))
set_option maxHeartbeats 4000000 in
set_option maxRecDepth 100000 in
theorem c_Reader_take (l : Launch) (g : zG) (hD : GD g) (a1 : Int32) (a2 : Int32) (S : zSt) (u : zSt) (h : f_Reader_take a1 a2 S = some u) : Met l y_Reader_take (mw y_Reader_take b_Reader_take 3 none) (rmD 8) (Pw g [.ref (ga g 6), .int a1, .int a2] S) (Qvs g u) 0 0 (gA g) := by
  refine z_go (own := R_Reader) (lv0 := [(0, .ref (ga g 6)), (1, .int a1), (2, .int a2)]) hD (by decide) rfl (Nat.le_of_ble_eq_true rfl) rfl ?_
  intro p e s m args below meth c C D ls hl
  have hx := C.1
  have hb := C.2.1
  have hown := C.2.2.2.1
  have hts := C.2.2.2.2.1
  unfold f_Reader_take at h
  refine lv_aload_n hx hb d_Reader_take_0 rfl (lv_at hl 0 rfl) ?_
  refine x_get (v := .int (S 6 3)) C D kc_Reader (by decide) sh_6 3 rfl (by decide) wf_Reader_45 rfl rfl d_Reader_take_1 ?_
  refine lv_iconst (v := 2) hx hb d_Reader_take_4 (by decide) ?_
  refine lv_icmp_eq hx hb d_Reader_take_5 rfl (fun z => ?_) (fun z => ?_)
  · replace h := if_t z h
    exact x_vrs C D h d_Reader_take_16
  · replace h := if_f z h
    refine lv_aload_n hx hb d_Reader_take_8 rfl (lv_at hl 0 rfl) ?_
    refine x_get (v := .int (S 6 3)) C D kc_Reader (by decide) sh_6 3 rfl (by decide) wf_Reader_45 rfl rfl d_Reader_take_9 ?_
    refine lv_iconst (v := 3) hx hb d_Reader_take_12 (by decide) ?_
    refine lv_icmp_ne hx hb d_Reader_take_13 rfl (fun z => ?_) (fun z => ?_)
    · replace h := if_f z h
      refine lv_aload_n hx hb d_Reader_take_17 rfl (lv_at hl 0 rfl) ?_
      refine x_get (v := .int (S 6 4)) C D kc_Reader (by decide) sh_6 4 rfl (by decide) wf_Reader_48 rfl rfl d_Reader_take_18 ?_
      by_cases e1 : (S 6 4) = 4
      · replace h := if_t e1 h
        refine lv_tableIn (off := 35) hx hb d_Reader_take_21 (by rw [e1]; decide) (by rw [e1]; decide) (by rw [e1]; rfl) rfl ?_
        refine lv_aload_n hx hb d_Reader_take_56 rfl (lv_at hl 0 rfl) ?_
        refine lv_iload_n hx hb d_Reader_take_57 rfl (lv_at hl 1 rfl) ?_
        obtain ⟨u2, hu2, h⟩ := bd_some h
        refine x_cvs (rest := []) (r_V C D (c_Reader_takeCounted l g hD a1 S u2 hu2) wc_Reader_takeCounted wm_Reader_57 wi_Reader_takeCounted wd_Reader_takeCounted (by decide) sh_6 kc_Reader.1 rfl rfl hl (Nat.le_of_ble_eq_true rfl) (by decide) d_Reader_take_58) D (fun H locs D => ?_)
        refine lv_goto hx hb d_Reader_take_61 rfl ?_
        exact x_vrs C D h d_Reader_take_101
      · replace h := if_f e1 h
        by_cases e3 : (S 6 4) = 5
        · replace h := if_t e3 h
          refine lv_tableIn (off := 43) hx hb d_Reader_take_21 (by rw [e3]; decide) (by rw [e3]; decide) (by rw [e3]; rfl) rfl ?_
          refine lv_aload_n hx hb d_Reader_take_64 rfl (lv_at hl 0 rfl) ?_
          refine lv_iload_n hx hb d_Reader_take_65 rfl (lv_at hl 1 rfl) ?_
          obtain ⟨u4, hu4, h⟩ := bd_some h
          refine x_cvs (rest := []) (r_V C D (c_Reader_takeUncounted l g hD a1 S u4 hu4) wc_Reader_takeUncounted wm_Reader_60 wi_Reader_takeUncounted wd_Reader_takeUncounted (by decide) sh_6 kc_Reader.1 rfl rfl hl (Nat.le_of_ble_eq_true rfl) (by decide) d_Reader_take_66) D (fun H locs D => ?_)
          refine lv_goto hx hb d_Reader_take_69 rfl ?_
          exact x_vrs C D h d_Reader_take_101
        · replace h := if_f e3 h
          by_cases e5 : (S 6 4) = 6
          · replace h := if_t e5 h
            refine lv_tableIn (off := 35) hx hb d_Reader_take_21 (by rw [e5]; decide) (by rw [e5]; decide) (by rw [e5]; rfl) rfl ?_
            refine lv_aload_n hx hb d_Reader_take_56 rfl (lv_at hl 0 rfl) ?_
            refine lv_iload_n hx hb d_Reader_take_57 rfl (lv_at hl 1 rfl) ?_
            obtain ⟨u6, hu6, h⟩ := bd_some h
            refine x_cvs (rest := []) (r_V C D (c_Reader_takeCounted l g hD a1 S u6 hu6) wc_Reader_takeCounted wm_Reader_57 wi_Reader_takeCounted wd_Reader_takeCounted (by decide) sh_6 kc_Reader.1 rfl rfl hl (Nat.le_of_ble_eq_true rfl) (by decide) d_Reader_take_58) D (fun H locs D => ?_)
            refine lv_goto hx hb d_Reader_take_61 rfl ?_
            exact x_vrs C D h d_Reader_take_101
          · replace h := if_f e5 h
            by_cases e7 : (S 6 4) = 7
            · replace h := if_t e7 h
              refine lv_tableIn (off := 51) hx hb d_Reader_take_21 (by rw [e7]; decide) (by rw [e7]; decide) (by rw [e7]; rfl) rfl ?_
              refine lv_aload_n hx hb d_Reader_take_72 rfl (lv_at hl 0 rfl) ?_
              refine lv_iload_n hx hb d_Reader_take_73 rfl (lv_at hl 1 rfl) ?_
              refine lv_bipush (v := 13) hx hb d_Reader_take_74 (by decide) ?_
              refine lv_bipush (v := 8) hx hb d_Reader_take_76 (by decide) ?_
              obtain ⟨u8, hu8, h⟩ := bd_some h
              refine x_cvs (rest := []) (r_V C D (c_Reader_takeDue l g hD a1 13 8 S u8 hu8) wc_Reader_takeDue wm_Reader_63 wi_Reader_takeDue wd_Reader_takeDue (by decide) sh_6 kc_Reader.1 rfl rfl hl (Nat.le_of_ble_eq_true rfl) (by decide) d_Reader_take_78) D (fun H locs D => ?_)
              refine lv_goto hx hb d_Reader_take_81 rfl ?_
              exact x_vrs C D h d_Reader_take_101
            · replace h := if_f e7 h
              by_cases e9 : (S 6 4) = 8
              · replace h := if_t e9 h
                refine lv_tableIn (off := 63) hx hb d_Reader_take_21 (by rw [e9]; decide) (by rw [e9]; decide) (by rw [e9]; rfl) rfl ?_
                refine lv_aload_n hx hb d_Reader_take_84 rfl (lv_at hl 0 rfl) ?_
                refine lv_iload_n hx hb d_Reader_take_85 rfl (lv_at hl 1 rfl) ?_
                refine lv_bipush (v := 10) hx hb d_Reader_take_86 (by decide) ?_
                refine lv_iconst (v := 2) hx hb d_Reader_take_88 (by decide) ?_
                obtain ⟨u10, hu10, h⟩ := bd_some h
                refine x_cvs (rest := []) (r_V C D (c_Reader_takeDue l g hD a1 10 2 S u10 hu10) wc_Reader_takeDue wm_Reader_63 wi_Reader_takeDue wd_Reader_takeDue (by decide) sh_6 kc_Reader.1 rfl rfl hl (Nat.le_of_ble_eq_true rfl) (by decide) d_Reader_take_89) D (fun H locs D => ?_)
                refine lv_goto hx hb d_Reader_take_92 rfl ?_
                exact x_vrs C D h d_Reader_take_101
              · replace h := if_f e9 h
                have ne1 := lv_neT e1 (a := 4) (by decide)
                have ne3 := lv_neT e3 (a := 5) (by decide)
                have ne5 := lv_neT e5 (a := 6) (by decide)
                have ne7 := lv_neT e7 (a := 7) (by decide)
                have ne9 := lv_neT e9 (a := 8) (by decide)
                refine lv_tableOut hx hb d_Reader_take_21 (by omega) rfl ?_
                refine lv_aload_n hx hb d_Reader_take_95 rfl (lv_at hl 0 rfl) ?_
                refine lv_iload_n hx hb d_Reader_take_96 rfl (lv_at hl 1 rfl) ?_
                refine lv_iload_n hx hb d_Reader_take_97 rfl (lv_at hl 2 rfl) ?_
                obtain ⟨u11, hu11, h⟩ := bd_some h
                refine x_cvs (rest := []) (r_V C D (c_Reader_takeOfLine l g hD a1 a2 S u11 hu11) wc_Reader_takeOfLine wm_Reader_67 wi_Reader_takeOfLine wd_Reader_takeOfLine (by decide) sh_6 kc_Reader.1 rfl rfl hl (Nat.le_of_ble_eq_true rfl) (by decide) d_Reader_take_98) D (fun H locs D => ?_)
                exact x_vrs C D h d_Reader_take_101
    · replace h := if_t z h
      exact x_vrs C D h d_Reader_take_16
