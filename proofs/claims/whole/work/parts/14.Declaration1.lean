theorem d_Declaration_begin_0 : decode b_Declaration_begin 0 = .ok (.aload_n 0, 1) := by decide +kernel
theorem d_Declaration_begin_1 : decode b_Declaration_begin 1 = .ok (.iload_n 1, 1) := by decide +kernel
theorem d_Declaration_begin_2 : decode b_Declaration_begin 2 = .ok (.putfield 28, 3) := by decide +kernel
theorem d_Declaration_begin_5 : decode b_Declaration_begin 5 = .ok (.aload_n 0, 1) := by decide +kernel
theorem d_Declaration_begin_6 : decode b_Declaration_begin 6 = .ok (.getfield 12, 3) := by decide +kernel
theorem d_Declaration_begin_9 : decode b_Declaration_begin 9 = .ok (.iconst 0, 1) := by decide +kernel
theorem d_Declaration_begin_10 : decode b_Declaration_begin 10 = .ok (.putfield 32, 3) := by decide +kernel
theorem d_Declaration_begin_13 : decode b_Declaration_begin 13 = .ok (.aload_n 0, 1) := by decide +kernel
theorem d_Declaration_begin_14 : decode b_Declaration_begin 14 = .ok (.iconst 0, 1) := by decide +kernel
theorem d_Declaration_begin_15 : decode b_Declaration_begin 15 = .ok (.putfield 24, 3) := by decide +kernel
theorem d_Declaration_begin_18 : decode b_Declaration_begin 18 = .ok (.return_, 1) := by decide +kernel
def f_Declaration_begin (a1 : Int32) (S : zSt) : Option zSt := sq (su S 1 3 a1) fun S1 => sq (su S1 2 1 0) fun S2 => sq (su S2 1 2 0) fun S3 => (some S3)
set_option maxHeartbeats 4000000 in
set_option maxRecDepth 100000 in
theorem c_Declaration_begin (l : Launch) (g : zG) (hD : GD g) (a1 : Int32) (S : zSt) (u : zSt) (h : f_Declaration_begin a1 S = some u) : Met l y_Declaration_begin (mw y_Declaration_begin b_Declaration_begin 2 none) (rmD 0) (Pw g [.ref (ga g 1), .int a1] S) (Qvs g u) 0 0 (gA g) := by
  refine z_go (own := R_Declaration) (lv0 := [(0, .ref (ga g 1)), (1, .int a1)]) hD (by decide) rfl (Nat.le_of_ble_eq_true rfl) rfl ?_
  intro p e s m args below meth c C D ls hl
  have hx := C.1
  have hb := C.2.1
  have hown := C.2.2.2.1
  have hts := C.2.2.2.2.1
  unfold f_Declaration_begin at h
  refine lv_aload_n hx hb d_Declaration_begin_0 rfl (lv_at hl 0 rfl) ?_
  refine lv_iload_n hx hb d_Declaration_begin_1 rfl (lv_at hl 1 rfl) ?_
  refine x_put C D kc_Declaration (by decide) sh_1 3 rfl (by decide) wf_Declaration_28 rfl rfl a1 rfl ⟨rfl, rfl⟩ d_Declaration_begin_2 h (fun S1 H locs h D => ?_)
  refine lv_aload_n hx hb d_Declaration_begin_5 rfl (lv_at hl 0 rfl) ?_
  refine x_get (v := .ref (ga g 2)) C D kc_Declaration (by decide) sh_1 0 rfl (by decide) wf_Declaration_12 rfl rfl d_Declaration_begin_6 ?_
  refine lv_iconst (v := 0) hx hb d_Declaration_begin_9 (by decide) ?_
  refine x_putN C D kc_PathTemplate (by decide) sh_2 1 rfl (by decide) nf_Declaration_32 rfl rfl 0 rfl ⟨rfl, rfl⟩ d_Declaration_begin_10 h (fun S2 H locs h D => ?_)
  refine lv_aload_n hx hb d_Declaration_begin_13 rfl (lv_at hl 0 rfl) ?_
  refine lv_iconst (v := 0) hx hb d_Declaration_begin_14 (by decide) ?_
  refine x_put C D kc_Declaration (by decide) sh_1 2 rfl (by decide) wf_Declaration_24 rfl rfl 0 rfl ⟨rfl, rfl⟩ d_Declaration_begin_15 h (fun S3 H locs h D => ?_)
  exact x_vrs C D h d_Declaration_begin_18
theorem d_Declaration_verbName_0 : decode b_Declaration_verbName 0 = .ok (.aload_n 0, 1) := by decide +kernel
theorem d_Declaration_verbName_1 : decode b_Declaration_verbName 1 = .ok (.getfield 28, 3) := by decide +kernel
theorem d_Declaration_verbName_4 : decode b_Declaration_verbName 4 = .ok (.tableswitch 44 1 4 #[32, 35, 38, 41], 32) := by decide +kernel
theorem d_Declaration_verbName_36 : decode b_Declaration_verbName 36 = .ok (.ldc 35, 2) := by decide +kernel
theorem d_Declaration_verbName_38 : decode b_Declaration_verbName 38 = .ok (.areturn, 1) := by decide +kernel
theorem d_Declaration_verbName_39 : decode b_Declaration_verbName 39 = .ok (.ldc 37, 2) := by decide +kernel
theorem d_Declaration_verbName_41 : decode b_Declaration_verbName 41 = .ok (.areturn, 1) := by decide +kernel
theorem d_Declaration_verbName_42 : decode b_Declaration_verbName 42 = .ok (.ldc 39, 2) := by decide +kernel
theorem d_Declaration_verbName_44 : decode b_Declaration_verbName 44 = .ok (.areturn, 1) := by decide +kernel
theorem d_Declaration_verbName_45 : decode b_Declaration_verbName 45 = .ok (.ldc 41, 2) := by decide +kernel
theorem d_Declaration_verbName_47 : decode b_Declaration_verbName 47 = .ok (.areturn, 1) := by decide +kernel
theorem d_Declaration_verbName_48 : decode b_Declaration_verbName 48 = .ok (.ldc 43, 2) := by decide +kernel
theorem d_Declaration_verbName_50 : decode b_Declaration_verbName 50 = .ok (.areturn, 1) := by decide +kernel
def f_Declaration_verbName (S : zSt) : Option Nat := (if (S 1 3) = 1 then (some 2) else (if (S 1 3) = 2 then (some 3) else (if (S 1 3) = 3 then (some 4) else (if (S 1 3) = 4 then (some 5) else (some 6)))))
set_option maxHeartbeats 4000000 in
set_option maxRecDepth 100000 in
theorem c_Declaration_verbName (l : Launch) (g : zG) (hD : GD g) (S : zSt) (u : Nat) (h : f_Declaration_verbName S = some u) : Met l y_Declaration_verbName (mw y_Declaration_verbName b_Declaration_verbName 1 (some (.object "java/lang/String"))) (rmD 0) (Pw g [.ref (ga g 1)] S) (Qqp g S (some (gK g u))) 0 0 (gA g) := by
  refine z_go (own := R_Declaration) (lv0 := [(0, .ref (ga g 1))]) hD (by decide) rfl (Nat.le_of_ble_eq_true rfl) rfl ?_
  intro p e s m args below meth c C D ls hl
  have hx := C.1
  have hb := C.2.1
  have hown := C.2.2.2.1
  have hts := C.2.2.2.2.1
  unfold f_Declaration_verbName at h
  refine lv_aload_n hx hb d_Declaration_verbName_0 rfl (lv_at hl 0 rfl) ?_
  refine x_get (v := .int (S 1 3)) C D kc_Declaration (by decide) sh_1 3 rfl (by decide) wf_Declaration_28 rfl rfl d_Declaration_verbName_1 ?_
  by_cases e1 : (S 1 3) = 1
  · replace h := if_t e1 h
    refine lv_tableIn (off := 32) hx hb d_Declaration_verbName_4 (by rw [e1]; decide) (by rw [e1]; decide) (by rw [e1]; rfl) rfl ?_
    refine x_lds C (q := 2) wl_Declaration_35 d_Declaration_verbName_36 ?_
    exact x_arp C D (congrArg (fun q => some (gK g q)) (Option.some.inj h)) d_Declaration_verbName_38
  · replace h := if_f e1 h
    by_cases e2 : (S 1 3) = 2
    · replace h := if_t e2 h
      refine lv_tableIn (off := 35) hx hb d_Declaration_verbName_4 (by rw [e2]; decide) (by rw [e2]; decide) (by rw [e2]; rfl) rfl ?_
      refine x_lds C (q := 3) wl_Declaration_37 d_Declaration_verbName_39 ?_
      exact x_arp C D (congrArg (fun q => some (gK g q)) (Option.some.inj h)) d_Declaration_verbName_41
    · replace h := if_f e2 h
      by_cases e3 : (S 1 3) = 3
      · replace h := if_t e3 h
        refine lv_tableIn (off := 38) hx hb d_Declaration_verbName_4 (by rw [e3]; decide) (by rw [e3]; decide) (by rw [e3]; rfl) rfl ?_
        refine x_lds C (q := 4) wl_Declaration_39 d_Declaration_verbName_42 ?_
        exact x_arp C D (congrArg (fun q => some (gK g q)) (Option.some.inj h)) d_Declaration_verbName_44
      · replace h := if_f e3 h
        by_cases e4 : (S 1 3) = 4
        · replace h := if_t e4 h
          refine lv_tableIn (off := 41) hx hb d_Declaration_verbName_4 (by rw [e4]; decide) (by rw [e4]; decide) (by rw [e4]; rfl) rfl ?_
          refine x_lds C (q := 5) wl_Declaration_41 d_Declaration_verbName_45 ?_
          exact x_arp C D (congrArg (fun q => some (gK g q)) (Option.some.inj h)) d_Declaration_verbName_47
        · replace h := if_f e4 h
          have ne1 := lv_neT e1 (a := 1) (by decide)
          have ne2 := lv_neT e2 (a := 2) (by decide)
          have ne3 := lv_neT e3 (a := 3) (by decide)
          have ne4 := lv_neT e4 (a := 4) (by decide)
          refine lv_tableOut hx hb d_Declaration_verbName_4 (by omega) rfl ?_
          refine x_lds C (q := 6) wl_Declaration_43 d_Declaration_verbName_48 ?_
          exact x_arp C D (congrArg (fun q => some (gK g q)) (Option.some.inj h)) d_Declaration_verbName_50
theorem d_Declaration_mayHaveContent_0 : decode b_Declaration_mayHaveContent 0 = .ok (.aload_n 0, 1) := by decide +kernel
theorem d_Declaration_mayHaveContent_1 : decode b_Declaration_mayHaveContent 1 = .ok (.getfield 28, 3) := by decide +kernel
theorem d_Declaration_mayHaveContent_4 : decode b_Declaration_mayHaveContent 4 = .ok (.iconst 2, 1) := by decide +kernel
theorem d_Declaration_mayHaveContent_5 : decode b_Declaration_mayHaveContent 5 = .ok (.if_icmp .eq 11, 3) := by decide +kernel
theorem d_Declaration_mayHaveContent_8 : decode b_Declaration_mayHaveContent 8 = .ok (.aload_n 0, 1) := by decide +kernel
theorem d_Declaration_mayHaveContent_9 : decode b_Declaration_mayHaveContent 9 = .ok (.getfield 28, 3) := by decide +kernel
theorem d_Declaration_mayHaveContent_12 : decode b_Declaration_mayHaveContent 12 = .ok (.iconst 3, 1) := by decide +kernel
theorem d_Declaration_mayHaveContent_13 : decode b_Declaration_mayHaveContent 13 = .ok (.if_icmp .ne 7, 3) := by decide +kernel
theorem d_Declaration_mayHaveContent_16 : decode b_Declaration_mayHaveContent 16 = .ok (.iconst 1, 1) := by decide +kernel
theorem d_Declaration_mayHaveContent_17 : decode b_Declaration_mayHaveContent 17 = .ok (.goto 4, 3) := by decide +kernel
theorem d_Declaration_mayHaveContent_20 : decode b_Declaration_mayHaveContent 20 = .ok (.iconst 0, 1) := by decide +kernel
theorem d_Declaration_mayHaveContent_21 : decode b_Declaration_mayHaveContent 21 = .ok (.ireturn, 1) := by decide +kernel
def f_Declaration_mayHaveContent_16 (S : zSt) : Option Int32 := (gdb 1 (some 1))
def f_Declaration_mayHaveContent (S : zSt) : Option Int32 := (if (S 1 3) = 2 then (f_Declaration_mayHaveContent_16 S) else (if (S 1 3) = 3 then (f_Declaration_mayHaveContent_16 S) else (gdb 0 (some 0))))
set_option maxHeartbeats 4000000 in
set_option maxRecDepth 100000 in
theorem c_Declaration_mayHaveContent (l : Launch) (g : zG) (hD : GD g) (S : zSt) (u : Int32) (h : f_Declaration_mayHaveContent S = some u) : Met l y_Declaration_mayHaveContent (mw y_Declaration_mayHaveContent b_Declaration_mayHaveContent 1 (some .boolean)) (rmD 0) (Pw g [.ref (ga g 1)] S) (Qip g S u) 0 0 (gA g) := by
  refine z_go (own := R_Declaration) (lv0 := [(0, .ref (ga g 1))]) hD (by decide) rfl (Nat.le_of_ble_eq_true rfl) rfl ?_
  intro p e s m args below meth c C D ls hl
  have hx := C.1
  have hb := C.2.1
  have hown := C.2.2.2.1
  have hts := C.2.2.2.2.1
  have B16 : ∀ (H : Heap) (locs : List Loc) (ls : Array Slot), f_Declaration_mayHaveContent_16 S = some u → Dy g s S H locs → lv_has ls 1 [] → W p l e (rmD 0) s m args below meth c H locs 0 0 (MQ below (Qip g S u) args s 0 0 (gA g)) (F0 m 16 ls []) := by
    intro H locs ls h D hl
    unfold f_Declaration_mayHaveContent_16 at h
    refine lv_iconst (v := 1) hx hb d_Declaration_mayHaveContent_16 (by decide) ?_
    refine lv_goto hx hb d_Declaration_mayHaveContent_17 rfl ?_
    exact x_zrp C D h d_Declaration_mayHaveContent_21
  unfold f_Declaration_mayHaveContent at h
  refine lv_aload_n hx hb d_Declaration_mayHaveContent_0 rfl (lv_at hl 0 rfl) ?_
  refine x_get (v := .int (S 1 3)) C D kc_Declaration (by decide) sh_1 3 rfl (by decide) wf_Declaration_28 rfl rfl d_Declaration_mayHaveContent_1 ?_
  refine lv_iconst (v := 2) hx hb d_Declaration_mayHaveContent_4 (by decide) ?_
  refine lv_icmp_eq hx hb d_Declaration_mayHaveContent_5 rfl (fun z => ?_) (fun z => ?_)
  · replace h := if_t z h
    exact B16 _ _ _ h D (lv_sub hl [] rfl)
  · replace h := if_f z h
    refine lv_aload_n hx hb d_Declaration_mayHaveContent_8 rfl (lv_at hl 0 rfl) ?_
    refine x_get (v := .int (S 1 3)) C D kc_Declaration (by decide) sh_1 3 rfl (by decide) wf_Declaration_28 rfl rfl d_Declaration_mayHaveContent_9 ?_
    refine lv_iconst (v := 3) hx hb d_Declaration_mayHaveContent_12 (by decide) ?_
    refine lv_icmp_ne hx hb d_Declaration_mayHaveContent_13 rfl (fun z => ?_) (fun z => ?_)
    · replace h := if_f z h
      refine lv_iconst (v := 0) hx hb d_Declaration_mayHaveContent_20 (by decide) ?_
      exact x_zrp C D h d_Declaration_mayHaveContent_21
    · replace h := if_t z h
      exact B16 _ _ _ h D (lv_sub hl [] rfl)
theorem d_Declaration_parameterAt_0 : decode b_Declaration_parameterAt 0 = .ok (.iload_n 1, 1) := by decide +kernel
theorem d_Declaration_parameterAt_1 : decode b_Declaration_parameterAt 1 = .ok (.ifCond .lt 20, 3) := by decide +kernel
theorem d_Declaration_parameterAt_4 : decode b_Declaration_parameterAt 4 = .ok (.iload_n 1, 1) := by decide +kernel
theorem d_Declaration_parameterAt_5 : decode b_Declaration_parameterAt 5 = .ok (.aload_n 0, 1) := by decide +kernel
theorem d_Declaration_parameterAt_6 : decode b_Declaration_parameterAt 6 = .ok (.getfield 24, 3) := by decide +kernel
theorem d_Declaration_parameterAt_9 : decode b_Declaration_parameterAt 9 = .ok (.if_icmp .ge 12, 3) := by decide +kernel
theorem d_Declaration_parameterAt_12 : decode b_Declaration_parameterAt 12 = .ok (.aload_n 0, 1) := by decide +kernel
theorem d_Declaration_parameterAt_13 : decode b_Declaration_parameterAt 13 = .ok (.getfield 20, 3) := by decide +kernel
theorem d_Declaration_parameterAt_16 : decode b_Declaration_parameterAt 16 = .ok (.iload_n 1, 1) := by decide +kernel
theorem d_Declaration_parameterAt_17 : decode b_Declaration_parameterAt 17 = .ok (.aaload, 1) := by decide +kernel
theorem d_Declaration_parameterAt_18 : decode b_Declaration_parameterAt 18 = .ok (.goto 4, 3) := by decide +kernel
theorem d_Declaration_parameterAt_21 : decode b_Declaration_parameterAt 21 = .ok (.aconst_null, 1) := by decide +kernel
theorem d_Declaration_parameterAt_22 : decode b_Declaration_parameterAt 22 = .ok (.areturn, 1) := by decide +kernel
def f_Declaration_parameterAt_21 (S : zSt) : Option (Option Nat) := (some none)
def f_Declaration_parameterAt (a1 : Int32) (S : zSt) : Option (Option Nat) := (if a1 < 0 then (f_Declaration_parameterAt_21 S) else (if (S 1 2) ≤ a1 then (f_Declaration_parameterAt_21 S) else gdi a1 6 ((some (some a1.toNatClampNeg)))))
set_option maxHeartbeats 4000000 in
set_option maxRecDepth 100000 in
theorem c_Declaration_parameterAt (l : Launch) (g : zG) (hD : GD g) (a1 : Int32) (S : zSt) (u : (Option Nat)) (h : f_Declaration_parameterAt a1 S = some u) : Met l y_Declaration_parameterAt (mw y_Declaration_parameterAt b_Declaration_parameterAt 2 (some (.object "TemplateCaller$Parameter"))) (rmD 0) (Pw g [.ref (ga g 1), .int a1] S) (Qqp g S (u.map fun k => ga g (10 + k))) 0 0 (gA g) := by
  refine z_go (own := R_Declaration) (lv0 := [(0, .ref (ga g 1)), (1, .int a1)]) hD (by decide) rfl (Nat.le_of_ble_eq_true rfl) rfl ?_
  intro p e s m args below meth c C D ls hl
  have hx := C.1
  have hb := C.2.1
  have hown := C.2.2.2.1
  have hts := C.2.2.2.2.1
  have B21 : ∀ (H : Heap) (locs : List Loc) (ls : Array Slot), f_Declaration_parameterAt_21 S = some u → Dy g s S H locs → lv_has ls 2 [] → W p l e (rmD 0) s m args below meth c H locs 0 0 (MQ below (Qqp g S (u.map fun k => ga g (10 + k))) args s 0 0 (gA g)) (F0 m 21 ls []) := by
    intro H locs ls h D hl
    unfold f_Declaration_parameterAt_21 at h
    refine lv_null hx hb d_Declaration_parameterAt_21 ?_
    exact x_arn C D (congrArg (Option.map fun k => ga g (10 + k)) (Option.some.inj h)) d_Declaration_parameterAt_22
  unfold f_Declaration_parameterAt at h
  refine lv_iload_n hx hb d_Declaration_parameterAt_0 rfl (lv_at hl 1 rfl) ?_
  refine lv_if_lt hx hb d_Declaration_parameterAt_1 rfl (fun z => ?_) (fun z => ?_)
  · replace h := if_t z h
    exact B21 _ _ _ h D (lv_sub hl [] rfl)
  · replace h := if_f z h
    refine lv_iload_n hx hb d_Declaration_parameterAt_4 rfl (lv_at hl 1 rfl) ?_
    refine lv_aload_n hx hb d_Declaration_parameterAt_5 rfl (lv_at hl 0 rfl) ?_
    refine x_get (v := .int (S 1 2)) C D kc_Declaration (by decide) sh_1 2 rfl (by decide) wf_Declaration_24 rfl rfl d_Declaration_parameterAt_6 ?_
    refine lv_icmp_ge hx hb d_Declaration_parameterAt_9 rfl (fun z => ?_) (fun z => ?_)
    · replace h := if_t z h
      exact B21 _ _ _ h D (lv_sub hl [] rfl)
    · replace h := if_f z h
      refine lv_aload_n hx hb d_Declaration_parameterAt_12 rfl (lv_at hl 0 rfl) ?_
      refine x_get (v := .ref (ga g 4)) C D kc_Declaration (by decide) sh_1 1 rfl (by decide) wf_Declaration_20 rfl rfl d_Declaration_parameterAt_13 ?_
      refine lv_iload_n hx hb d_Declaration_parameterAt_16 rfl (lv_at hl 1 rfl) ?_
      refine x_aald3 C D (by decide) sh_4 d_Declaration_parameterAt_17 h (fun q1 h => ?_)
      refine lv_goto hx hb d_Declaration_parameterAt_18 rfl ?_
      exact x_arp C D (congrArg (Option.map fun k => ga g (10 + k)) (Option.some.inj h)) d_Declaration_parameterAt_22
theorem d_Declaration_countOf_0 : decode b_Declaration_countOf 0 = .ok (.iconst 0, 1) := by decide +kernel
theorem d_Declaration_countOf_1 : decode b_Declaration_countOf 1 = .ok (.istore_n 2, 1) := by decide +kernel
theorem d_Declaration_countOf_2 : decode b_Declaration_countOf 2 = .ok (.iconst 0, 1) := by decide +kernel
theorem d_Declaration_countOf_3 : decode b_Declaration_countOf 3 = .ok (.istore_n 3, 1) := by decide +kernel
theorem d_Declaration_countOf_4 : decode b_Declaration_countOf 4 = .ok (.iload_n 3, 1) := by decide +kernel
theorem d_Declaration_countOf_5 : decode b_Declaration_countOf 5 = .ok (.aload_n 0, 1) := by decide +kernel
theorem d_Declaration_countOf_6 : decode b_Declaration_countOf 6 = .ok (.getfield 24, 3) := by decide +kernel
theorem d_Declaration_countOf_9 : decode b_Declaration_countOf 9 = .ok (.if_icmp .ge 25, 3) := by decide +kernel
theorem d_Declaration_countOf_12 : decode b_Declaration_countOf 12 = .ok (.aload_n 0, 1) := by decide +kernel
theorem d_Declaration_countOf_13 : decode b_Declaration_countOf 13 = .ok (.getfield 20, 3) := by decide +kernel
theorem d_Declaration_countOf_16 : decode b_Declaration_countOf 16 = .ok (.iload_n 3, 1) := by decide +kernel
theorem d_Declaration_countOf_17 : decode b_Declaration_countOf 17 = .ok (.aaload, 1) := by decide +kernel
theorem d_Declaration_countOf_18 : decode b_Declaration_countOf 18 = .ok (.getfield 82, 3) := by decide +kernel
theorem d_Declaration_countOf_21 : decode b_Declaration_countOf 21 = .ok (.iload_n 1, 1) := by decide +kernel
theorem d_Declaration_countOf_22 : decode b_Declaration_countOf 22 = .ok (.if_icmp .ne 6, 3) := by decide +kernel
theorem d_Declaration_countOf_25 : decode b_Declaration_countOf 25 = .ok (.iinc 2 1, 3) := by decide +kernel
theorem d_Declaration_countOf_28 : decode b_Declaration_countOf 28 = .ok (.iinc 3 1, 3) := by decide +kernel
theorem d_Declaration_countOf_31 : decode b_Declaration_countOf 31 = .ok (.goto (-27), 3) := by decide +kernel
theorem d_Declaration_countOf_34 : decode b_Declaration_countOf 34 = .ok (.iload_n 2, 1) := by decide +kernel
theorem d_Declaration_countOf_35 : decode b_Declaration_countOf 35 = .ok (.ireturn, 1) := by decide +kernel
def f_Declaration_countOf_28 (K4 : Int32 → Int32 → Int32 → zSt → Option Int32) (a1 : Int32) (a2 : Int32) (a3 : Int32) (S : zSt) : Option Int32 := (K4 a1 a2 (a3 + 1) S)
def f_Declaration_countOf_4 : Nat → Int32 → Int32 → Int32 → zSt → Option Int32
  | 0, _, _, _, _ => none
  | n + 1, a1, a2, a3, S => (if (S 1 2) ≤ a3 then (some a2) else gdi a3 6 ((if (S (10 + a3.toNatClampNeg) 2) = a1 then (f_Declaration_countOf_28 (f_Declaration_countOf_4 n) a1 (a2 + 1) a3 S) else (f_Declaration_countOf_28 (f_Declaration_countOf_4 n) a1 a2 a3 S))))
def f_Declaration_countOf (a1 : Int32) (S : zSt) : Option Int32 := (f_Declaration_countOf_4 fu a1 0 0 S)
set_option maxHeartbeats 4000000 in
set_option maxRecDepth 100000 in
theorem c_Declaration_countOf (l : Launch) (g : zG) (hD : GD g) (a1 : Int32) (S : zSt) (u : Int32) (h : f_Declaration_countOf a1 S = some u) : Met l y_Declaration_countOf (mw y_Declaration_countOf b_Declaration_countOf 4 (some .int)) (rmD 0) (Pw g [.ref (ga g 1), .int a1] S) (Qip g S u) 0 0 (gA g) := by
  refine z_go (own := R_Declaration) (lv0 := [(0, .ref (ga g 1)), (1, .int a1)]) hD (by decide) rfl (Nat.le_of_ble_eq_true rfl) rfl ?_
  intro p e s m args below meth c C D ls hl
  have hx := C.1
  have hb := C.2.1
  have hown := C.2.2.2.1
  have hts := C.2.2.2.2.1
  have B28 : ∀ (K4 : Int32 → Int32 → Int32 → zSt → Option Int32) (hK4 : ∀ (H : Heap) (locs : List Loc) (ls : Array Slot) (a1 : Int32) (a2 : Int32) (a3 : Int32), K4 a1 a2 a3 S = some u → Dy g s S H locs → lv_has ls 4 [(0, .ref (ga g 1)), (1, .int a1), (2, .int a2), (3, .int a3)] → W p l e (rmD 0) s m args below meth c H locs 0 0 (MQ below (Qip g S u) args s 0 0 (gA g)) (F0 m 4 ls [])) (H : Heap) (locs : List Loc) (ls : Array Slot) (a1 : Int32) (a2 : Int32) (a3 : Int32), f_Declaration_countOf_28 K4 a1 a2 a3 S = some u → Dy g s S H locs → lv_has ls 4 [(0, .ref (ga g 1)), (1, .int a1), (2, .int a2), (3, .int a3)] → W p l e (rmD 0) s m args below meth c H locs 0 0 (MQ below (Qip g S u) args s 0 0 (gA g)) (F0 m 28 ls []) := by
    intro K4 hK4 H locs ls a1 a2 a3 h D hl
    unfold f_Declaration_countOf_28 at h
    refine lv_iinc (k := 3) (lv' := [(3, .int (a3 + 1)), (0, .ref (ga g 1)), (1, .int a1), (2, .int a2)]) hx hb d_Declaration_countOf_28 hl rfl (ii1 _) (by decide) rfl (fun ls hl => ?_)
    refine lv_goto hx hb d_Declaration_countOf_31 rfl ?_
    exact hK4 _ _ _ _ _ _ h D (lv_sub hl [1, 2, 3, 0] rfl)
  have L4 : ∀ (n : Nat) (H : Heap) (locs : List Loc) (ls : Array Slot) (a1 : Int32) (a2 : Int32) (a3 : Int32), f_Declaration_countOf_4 n a1 a2 a3 S = some u → Dy g s S H locs → lv_has ls 4 [(0, .ref (ga g 1)), (1, .int a1), (2, .int a2), (3, .int a3)] → W p l e (rmD 0) s m args below meth c H locs 0 0 (MQ below (Qip g S u) args s 0 0 (gA g)) (F0 m 4 ls []) := by
    intro n
    induction n with
    | zero => intro H locs ls a1 a2 a3 h D hl; rw [f_Declaration_countOf_4] at h; cases h
    | succ n hK4 =>
      intro H locs ls a1 a2 a3 h D hl
      rw [f_Declaration_countOf_4] at h
      refine lv_iload_n hx hb d_Declaration_countOf_4 rfl (lv_at hl 3 rfl) ?_
      refine lv_aload_n hx hb d_Declaration_countOf_5 rfl (lv_at hl 0 rfl) ?_
      refine x_get (v := .int (S 1 2)) C D kc_Declaration (by decide) sh_1 2 rfl (by decide) wf_Declaration_24 rfl rfl d_Declaration_countOf_6 ?_
      refine lv_icmp_ge hx hb d_Declaration_countOf_9 rfl (fun z => ?_) (fun z => ?_)
      · replace h := if_t z h
        refine lv_iload_n hx hb d_Declaration_countOf_34 rfl (lv_at hl 2 rfl) ?_
        exact x_irp C D h d_Declaration_countOf_35
      · replace h := if_f z h
        refine lv_aload_n hx hb d_Declaration_countOf_12 rfl (lv_at hl 0 rfl) ?_
        refine x_get (v := .ref (ga g 4)) C D kc_Declaration (by decide) sh_1 1 rfl (by decide) wf_Declaration_20 rfl rfl d_Declaration_countOf_13 ?_
        refine lv_iload_n hx hb d_Declaration_countOf_16 rfl (lv_at hl 3 rfl) ?_
        refine x_aald3 C D (by decide) sh_4 d_Declaration_countOf_17 h (fun q1 h => ?_)
        refine x_getN (v := .int (S (10 + a3.toNatClampNeg) 2)) C D kc_Parameter (nP q1) (sh_P q1) 2 rfl (by decide) nf_Declaration_82 rfl rfl d_Declaration_countOf_18 ?_
        refine lv_iload_n hx hb d_Declaration_countOf_21 rfl (lv_at hl 1 rfl) ?_
        refine lv_icmp_ne hx hb d_Declaration_countOf_22 rfl (fun z => ?_) (fun z => ?_)
        · replace h := if_f z h
          exact B28 _ hK4 _ _ _ _ _ _ h D (lv_sub hl [0, 1, 2, 3] rfl)
        · replace h := if_t z h
          refine lv_iinc (k := 2) (lv' := [(2, .int (a2 + 1)), (0, .ref (ga g 1)), (1, .int a1), (3, .int a3)]) hx hb d_Declaration_countOf_25 hl rfl (ii1 _) (by decide) rfl (fun ls hl => ?_)
          exact B28 _ hK4 _ _ _ _ _ _ h D (lv_sub hl [1, 2, 0, 3] rfl)
  unfold f_Declaration_countOf at h
  refine lv_iconst (v := 0) hx hb d_Declaration_countOf_0 (by decide) ?_
  refine lv_istore_n (lv' := [(2, .int 0), (0, .ref (ga g 1)), (1, .int a1)]) hx hb d_Declaration_countOf_1 rfl hl (by decide) rfl (fun ls hl => ?_)
  refine lv_iconst (v := 0) hx hb d_Declaration_countOf_2 (by decide) ?_
  refine lv_istore_n (lv' := [(3, .int 0), (2, .int 0), (0, .ref (ga g 1)), (1, .int a1)]) hx hb d_Declaration_countOf_3 rfl hl (by decide) rfl (fun ls hl => ?_)
  exact L4 _ _ _ _ _ _ _ h D (lv_sub hl [2, 3, 1, 0] rfl)
theorem d_Declaration_addParameter_0 : decode b_Declaration_addParameter 0 = .ok (.aload_n 0, 1) := by decide +kernel
theorem d_Declaration_addParameter_1 : decode b_Declaration_addParameter 1 = .ok (.getfield 24, 3) := by decide +kernel
theorem d_Declaration_addParameter_4 : decode b_Declaration_addParameter 4 = .ok (.bipush 6, 2) := by decide +kernel
theorem d_Declaration_addParameter_6 : decode b_Declaration_addParameter 6 = .ok (.if_icmp .lt 6, 3) := by decide +kernel
theorem d_Declaration_addParameter_9 : decode b_Declaration_addParameter 9 = .ok (.bipush (-12), 2) := by decide +kernel
theorem d_Declaration_addParameter_11 : decode b_Declaration_addParameter 11 = .ok (.ireturn, 1) := by decide +kernel
theorem d_Declaration_addParameter_12 : decode b_Declaration_addParameter 12 = .ok (.aload_n 0, 1) := by decide +kernel
theorem d_Declaration_addParameter_13 : decode b_Declaration_addParameter 13 = .ok (.getfield 20, 3) := by decide +kernel
theorem d_Declaration_addParameter_16 : decode b_Declaration_addParameter 16 = .ok (.aload_n 0, 1) := by decide +kernel
theorem d_Declaration_addParameter_17 : decode b_Declaration_addParameter 17 = .ok (.getfield 24, 3) := by decide +kernel
theorem d_Declaration_addParameter_20 : decode b_Declaration_addParameter 20 = .ok (.aaload, 1) := by decide +kernel
theorem d_Declaration_addParameter_21 : decode b_Declaration_addParameter 21 = .ok (.iload_n 1, 1) := by decide +kernel
theorem d_Declaration_addParameter_22 : decode b_Declaration_addParameter 22 = .ok (.iload_n 2, 1) := by decide +kernel
theorem d_Declaration_addParameter_23 : decode b_Declaration_addParameter 23 = .ok (.invokevirtual 45, 3) := by decide +kernel
theorem d_Declaration_addParameter_26 : decode b_Declaration_addParameter 26 = .ok (.aload_n 0, 1) := by decide +kernel
theorem d_Declaration_addParameter_27 : decode b_Declaration_addParameter 27 = .ok (.dup, 1) := by decide +kernel
theorem d_Declaration_addParameter_28 : decode b_Declaration_addParameter 28 = .ok (.getfield 24, 3) := by decide +kernel
theorem d_Declaration_addParameter_31 : decode b_Declaration_addParameter 31 = .ok (.iconst 1, 1) := by decide +kernel
theorem d_Declaration_addParameter_32 : decode b_Declaration_addParameter 32 = .ok (.iadd, 1) := by decide +kernel
theorem d_Declaration_addParameter_33 : decode b_Declaration_addParameter 33 = .ok (.putfield 24, 3) := by decide +kernel
theorem d_Declaration_addParameter_36 : decode b_Declaration_addParameter 36 = .ok (.aload_n 0, 1) := by decide +kernel
theorem d_Declaration_addParameter_37 : decode b_Declaration_addParameter 37 = .ok (.getfield 24, 3) := by decide +kernel
theorem d_Declaration_addParameter_40 : decode b_Declaration_addParameter 40 = .ok (.iconst 1, 1) := by decide +kernel
theorem d_Declaration_addParameter_41 : decode b_Declaration_addParameter 41 = .ok (.isub, 1) := by decide +kernel
theorem d_Declaration_addParameter_42 : decode b_Declaration_addParameter 42 = .ok (.ireturn, 1) := by decide +kernel
def f_Declaration_addParameter (a1 : Int32) (a2 : Int32) (S : zSt) : Option (Int32 × zSt) := (if (S 1 2) < 6 then gdi (S 1 2) 6 (((f_Parameter_begin (S 1 2).toNatClampNeg a1 a2 S).bind fun u2 => sq (su u2 1 2 ((u2 1 2) + 1)) fun S3 => (some (((S3 1 2) - 1), S3)))) else (some ((-12), S)))
set_option maxHeartbeats 4000000 in
set_option maxRecDepth 100000 in
theorem c_Declaration_addParameter (l : Launch) (g : zG) (hD : GD g) (a1 : Int32) (a2 : Int32) (S : zSt) (u : (Int32 × zSt)) (h : f_Declaration_addParameter a1 a2 S = some u) : Met l y_Declaration_addParameter (mw y_Declaration_addParameter b_Declaration_addParameter 3 (some .int)) (rmD 1) (Pw g [.ref (ga g 1), .int a1, .int a2] S) (Qis g u) 0 0 (gA g) := by
  refine z_go (own := R_Declaration) (lv0 := [(0, .ref (ga g 1)), (1, .int a1), (2, .int a2)]) hD (by decide) rfl (Nat.le_of_ble_eq_true rfl) rfl ?_
  intro p e s m args below meth c C D ls hl
  have hx := C.1
  have hb := C.2.1
  have hown := C.2.2.2.1
  have hts := C.2.2.2.2.1
  unfold f_Declaration_addParameter at h
  refine lv_aload_n hx hb d_Declaration_addParameter_0 rfl (lv_at hl 0 rfl) ?_
  refine x_get (v := .int (S 1 2)) C D kc_Declaration (by decide) sh_1 2 rfl (by decide) wf_Declaration_24 rfl rfl d_Declaration_addParameter_1 ?_
  refine lv_bipush (v := 6) hx hb d_Declaration_addParameter_4 (by decide) ?_
  refine lv_icmp_lt hx hb d_Declaration_addParameter_6 rfl (fun z => ?_) (fun z => ?_)
  · replace h := if_t z h
    refine lv_aload_n hx hb d_Declaration_addParameter_12 rfl (lv_at hl 0 rfl) ?_
    refine x_get (v := .ref (ga g 4)) C D kc_Declaration (by decide) sh_1 1 rfl (by decide) wf_Declaration_20 rfl rfl d_Declaration_addParameter_13 ?_
    refine lv_aload_n hx hb d_Declaration_addParameter_16 rfl (lv_at hl 0 rfl) ?_
    refine x_get (v := .int (S 1 2)) C D kc_Declaration (by decide) sh_1 2 rfl (by decide) wf_Declaration_24 rfl rfl d_Declaration_addParameter_17 ?_
    refine x_aald3 C D (by decide) sh_4 d_Declaration_addParameter_20 h (fun q1 h => ?_)
    refine lv_iload_n hx hb d_Declaration_addParameter_21 rfl (lv_at hl 1 rfl) ?_
    refine lv_iload_n hx hb d_Declaration_addParameter_22 rfl (lv_at hl 2 rfl) ?_
    obtain ⟨u2, hu2, h⟩ := bd_some h
    refine x_cvs (rest := []) (r_V C D (c_Parameter_begin l g hD (S 1 2).toNatClampNeg q1 a1 a2 S u2 hu2) wc_Parameter_begin wm_Declaration_45 wi_Parameter_begin wd_Parameter_begin (nP q1) (sh_P q1) kc_Parameter.1 rfl rfl hl (Nat.le_of_ble_eq_true rfl) (by decide) d_Declaration_addParameter_23) D (fun H locs D => ?_)
    refine lv_aload_n hx hb d_Declaration_addParameter_26 rfl (lv_at hl 0 rfl) ?_
    refine lv_dup hx hb d_Declaration_addParameter_27 rfl ?_
    refine x_get (v := .int (u2 1 2)) C D kc_Declaration (by decide) sh_1 2 rfl (by decide) wf_Declaration_24 rfl rfl d_Declaration_addParameter_28 ?_
    refine lv_iconst (v := 1) hx hb d_Declaration_addParameter_31 (by decide) ?_
    refine lv_iadd hx hb d_Declaration_addParameter_32 ?_
    refine x_put C D kc_Declaration (by decide) sh_1 2 rfl (by decide) wf_Declaration_24 rfl rfl ((u2 1 2) + 1) rfl ⟨rfl, rfl⟩ d_Declaration_addParameter_33 h (fun S3 H locs h D => ?_)
    refine lv_aload_n hx hb d_Declaration_addParameter_36 rfl (lv_at hl 0 rfl) ?_
    refine x_get (v := .int (S3 1 2)) C D kc_Declaration (by decide) sh_1 2 rfl (by decide) wf_Declaration_24 rfl rfl d_Declaration_addParameter_37 ?_
    refine lv_iconst (v := 1) hx hb d_Declaration_addParameter_40 (by decide) ?_
    refine lv_isub hx hb d_Declaration_addParameter_41 ?_
    exact x_irs C D h d_Declaration_addParameter_42
  · replace h := if_f z h
    refine lv_bipush (v := (-12)) hx hb d_Declaration_addParameter_9 (by decide) ?_
    exact x_irs C D h d_Declaration_addParameter_11
theorem d_Declaration_parameterOf_0 : decode b_Declaration_parameterOf 0 = .ok (.iconst 0, 1) := by decide +kernel
theorem d_Declaration_parameterOf_1 : decode b_Declaration_parameterOf 1 = .ok (.istore_n 2, 1) := by decide +kernel
theorem d_Declaration_parameterOf_2 : decode b_Declaration_parameterOf 2 = .ok (.iload_n 2, 1) := by decide +kernel
theorem d_Declaration_parameterOf_3 : decode b_Declaration_parameterOf 3 = .ok (.aload_n 0, 1) := by decide +kernel
theorem d_Declaration_parameterOf_4 : decode b_Declaration_parameterOf 4 = .ok (.getfield 24, 3) := by decide +kernel
theorem d_Declaration_parameterOf_7 : decode b_Declaration_parameterOf 7 = .ok (.if_icmp .ge 41, 3) := by decide +kernel
theorem d_Declaration_parameterOf_10 : decode b_Declaration_parameterOf 10 = .ok (.aload_n 0, 1) := by decide +kernel
theorem d_Declaration_parameterOf_11 : decode b_Declaration_parameterOf 11 = .ok (.getfield 20, 3) := by decide +kernel
theorem d_Declaration_parameterOf_14 : decode b_Declaration_parameterOf 14 = .ok (.iload_n 2, 1) := by decide +kernel
theorem d_Declaration_parameterOf_15 : decode b_Declaration_parameterOf 15 = .ok (.aaload, 1) := by decide +kernel
theorem d_Declaration_parameterOf_16 : decode b_Declaration_parameterOf 16 = .ok (.invokevirtual 49, 3) := by decide +kernel
theorem d_Declaration_parameterOf_19 : decode b_Declaration_parameterOf 19 = .ok (.ifCond .eq 23, 3) := by decide +kernel
theorem d_Declaration_parameterOf_22 : decode b_Declaration_parameterOf 22 = .ok (.aload_n 0, 1) := by decide +kernel
theorem d_Declaration_parameterOf_23 : decode b_Declaration_parameterOf 23 = .ok (.getfield 20, 3) := by decide +kernel
theorem d_Declaration_parameterOf_26 : decode b_Declaration_parameterOf 26 = .ok (.iload_n 2, 1) := by decide +kernel
theorem d_Declaration_parameterOf_27 : decode b_Declaration_parameterOf 27 = .ok (.aaload, 1) := by decide +kernel
theorem d_Declaration_parameterOf_28 : decode b_Declaration_parameterOf 28 = .ok (.getfield 53, 3) := by decide +kernel
theorem d_Declaration_parameterOf_31 : decode b_Declaration_parameterOf 31 = .ok (.iload_n 1, 1) := by decide +kernel
theorem d_Declaration_parameterOf_32 : decode b_Declaration_parameterOf 32 = .ok (.if_icmp .ne 10, 3) := by decide +kernel
theorem d_Declaration_parameterOf_35 : decode b_Declaration_parameterOf 35 = .ok (.aload_n 0, 1) := by decide +kernel
theorem d_Declaration_parameterOf_36 : decode b_Declaration_parameterOf 36 = .ok (.getfield 20, 3) := by decide +kernel
theorem d_Declaration_parameterOf_39 : decode b_Declaration_parameterOf 39 = .ok (.iload_n 2, 1) := by decide +kernel
theorem d_Declaration_parameterOf_40 : decode b_Declaration_parameterOf 40 = .ok (.aaload, 1) := by decide +kernel
theorem d_Declaration_parameterOf_41 : decode b_Declaration_parameterOf 41 = .ok (.areturn, 1) := by decide +kernel
theorem d_Declaration_parameterOf_42 : decode b_Declaration_parameterOf 42 = .ok (.iinc 2 1, 3) := by decide +kernel
theorem d_Declaration_parameterOf_45 : decode b_Declaration_parameterOf 45 = .ok (.goto (-43), 3) := by decide +kernel
theorem d_Declaration_parameterOf_48 : decode b_Declaration_parameterOf 48 = .ok (.aconst_null, 1) := by decide +kernel
theorem d_Declaration_parameterOf_49 : decode b_Declaration_parameterOf 49 = .ok (.areturn, 1) := by decide +kernel
def f_Declaration_parameterOf_42 (K2 : Int32 → Int32 → zSt → Option (Option Nat)) (a1 : Int32) (a2 : Int32) (S : zSt) : Option (Option Nat) := (K2 a1 (a2 + 1) S)
def f_Declaration_parameterOf_2 : Nat → Int32 → Int32 → zSt → Option (Option Nat)
  | 0, _, _, _ => none
  | n + 1, a1, a2, S => (if (S 1 2) ≤ a2 then (some none) else gdi a2 6 (((f_Parameter_isInPath a2.toNatClampNeg S).bind fun u2 => (if u2 = 0 then (f_Declaration_parameterOf_42 (f_Declaration_parameterOf_2 n) a1 a2 S) else gdi a2 6 ((if (S (10 + a2.toNatClampNeg) 3) = a1 then gdi a2 6 ((some (some a2.toNatClampNeg))) else (f_Declaration_parameterOf_42 (f_Declaration_parameterOf_2 n) a1 a2 S)))))))
def f_Declaration_parameterOf (a1 : Int32) (S : zSt) : Option (Option Nat) := (f_Declaration_parameterOf_2 fu a1 0 S)
set_option maxHeartbeats 4000000 in
set_option maxRecDepth 100000 in
theorem c_Declaration_parameterOf (l : Launch) (g : zG) (hD : GD g) (a1 : Int32) (S : zSt) (u : (Option Nat)) (h : f_Declaration_parameterOf a1 S = some u) : Met l y_Declaration_parameterOf (mw y_Declaration_parameterOf b_Declaration_parameterOf 3 (some (.object "TemplateCaller$Parameter"))) (rmD 1) (Pw g [.ref (ga g 1), .int a1] S) (Qqp g S (u.map fun k => ga g (10 + k))) 0 0 (gA g) := by
  refine z_go (own := R_Declaration) (lv0 := [(0, .ref (ga g 1)), (1, .int a1)]) hD (by decide) rfl (Nat.le_of_ble_eq_true rfl) rfl ?_
  intro p e s m args below meth c C D ls hl
  have hx := C.1
  have hb := C.2.1
  have hown := C.2.2.2.1
  have hts := C.2.2.2.2.1
  have B42 : ∀ (K2 : Int32 → Int32 → zSt → Option (Option Nat)) (hK2 : ∀ (H : Heap) (locs : List Loc) (ls : Array Slot) (a1 : Int32) (a2 : Int32), K2 a1 a2 S = some u → Dy g s S H locs → lv_has ls 3 [(0, .ref (ga g 1)), (1, .int a1), (2, .int a2)] → W p l e (rmD 1) s m args below meth c H locs 0 0 (MQ below (Qqp g S (u.map fun k => ga g (10 + k))) args s 0 0 (gA g)) (F0 m 2 ls [])) (H : Heap) (locs : List Loc) (ls : Array Slot) (a1 : Int32) (a2 : Int32), f_Declaration_parameterOf_42 K2 a1 a2 S = some u → Dy g s S H locs → lv_has ls 3 [(0, .ref (ga g 1)), (1, .int a1), (2, .int a2)] → W p l e (rmD 1) s m args below meth c H locs 0 0 (MQ below (Qqp g S (u.map fun k => ga g (10 + k))) args s 0 0 (gA g)) (F0 m 42 ls []) := by
    intro K2 hK2 H locs ls a1 a2 h D hl
    unfold f_Declaration_parameterOf_42 at h
    refine lv_iinc (k := 2) (lv' := [(2, .int (a2 + 1)), (0, .ref (ga g 1)), (1, .int a1)]) hx hb d_Declaration_parameterOf_42 hl rfl (ii1 _) (by decide) rfl (fun ls hl => ?_)
    refine lv_goto hx hb d_Declaration_parameterOf_45 rfl ?_
    exact hK2 _ _ _ _ _ h D (lv_sub hl [1, 2, 0] rfl)
  have L2 : ∀ (n : Nat) (H : Heap) (locs : List Loc) (ls : Array Slot) (a1 : Int32) (a2 : Int32), f_Declaration_parameterOf_2 n a1 a2 S = some u → Dy g s S H locs → lv_has ls 3 [(0, .ref (ga g 1)), (1, .int a1), (2, .int a2)] → W p l e (rmD 1) s m args below meth c H locs 0 0 (MQ below (Qqp g S (u.map fun k => ga g (10 + k))) args s 0 0 (gA g)) (F0 m 2 ls []) := by
    intro n
    induction n with
    | zero => intro H locs ls a1 a2 h D hl; rw [f_Declaration_parameterOf_2] at h; cases h
    | succ n hK2 =>
      intro H locs ls a1 a2 h D hl
      rw [f_Declaration_parameterOf_2] at h
      refine lv_iload_n hx hb d_Declaration_parameterOf_2 rfl (lv_at hl 2 rfl) ?_
      refine lv_aload_n hx hb d_Declaration_parameterOf_3 rfl (lv_at hl 0 rfl) ?_
      refine x_get (v := .int (S 1 2)) C D kc_Declaration (by decide) sh_1 2 rfl (by decide) wf_Declaration_24 rfl rfl d_Declaration_parameterOf_4 ?_
      refine lv_icmp_ge hx hb d_Declaration_parameterOf_7 rfl (fun z => ?_) (fun z => ?_)
      · replace h := if_t z h
        refine lv_null hx hb d_Declaration_parameterOf_48 ?_
        exact x_arn C D (congrArg (Option.map fun k => ga g (10 + k)) (Option.some.inj h)) d_Declaration_parameterOf_49
      · replace h := if_f z h
        refine lv_aload_n hx hb d_Declaration_parameterOf_10 rfl (lv_at hl 0 rfl) ?_
        refine x_get (v := .ref (ga g 4)) C D kc_Declaration (by decide) sh_1 1 rfl (by decide) wf_Declaration_20 rfl rfl d_Declaration_parameterOf_11 ?_
        refine lv_iload_n hx hb d_Declaration_parameterOf_14 rfl (lv_at hl 2 rfl) ?_
        refine x_aald3 C D (by decide) sh_4 d_Declaration_parameterOf_15 h (fun q1 h => ?_)
        obtain ⟨u2, hu2, h⟩ := bd_some h
        refine x_cip (rest := []) (r_V C D (c_Parameter_isInPath l g hD a2.toNatClampNeg q1 S u2 hu2) wc_Parameter_isInPath wm_Declaration_49 wi_Parameter_isInPath wd_Parameter_isInPath (nP q1) (sh_P q1) kc_Parameter.1 rfl rfl hl (Nat.le_of_ble_eq_true rfl) (by decide) d_Declaration_parameterOf_16) D (fun H locs D => ?_)
        refine lv_if_eq hx hb d_Declaration_parameterOf_19 rfl (fun z => ?_) (fun z => ?_)
        · replace h := if_t z h
          exact B42 _ hK2 _ _ _ _ _ h D (lv_sub hl [0, 1, 2] rfl)
        · replace h := if_f z h
          refine lv_aload_n hx hb d_Declaration_parameterOf_22 rfl (lv_at hl 0 rfl) ?_
          refine x_get (v := .ref (ga g 4)) C D kc_Declaration (by decide) sh_1 1 rfl (by decide) wf_Declaration_20 rfl rfl d_Declaration_parameterOf_23 ?_
          refine lv_iload_n hx hb d_Declaration_parameterOf_26 rfl (lv_at hl 2 rfl) ?_
          refine x_aald3 C D (by decide) sh_4 d_Declaration_parameterOf_27 h (fun q3 h => ?_)
          refine x_getN (v := .int (S (10 + a2.toNatClampNeg) 3)) C D kc_Parameter (nP q3) (sh_P q3) 3 rfl (by decide) nf_Declaration_53 rfl rfl d_Declaration_parameterOf_28 ?_
          refine lv_iload_n hx hb d_Declaration_parameterOf_31 rfl (lv_at hl 1 rfl) ?_
          refine lv_icmp_ne hx hb d_Declaration_parameterOf_32 rfl (fun z => ?_) (fun z => ?_)
          · replace h := if_f z h
            exact B42 _ hK2 _ _ _ _ _ h D (lv_sub hl [0, 1, 2] rfl)
          · replace h := if_t z h
            refine lv_aload_n hx hb d_Declaration_parameterOf_35 rfl (lv_at hl 0 rfl) ?_
            refine x_get (v := .ref (ga g 4)) C D kc_Declaration (by decide) sh_1 1 rfl (by decide) wf_Declaration_20 rfl rfl d_Declaration_parameterOf_36 ?_
            refine lv_iload_n hx hb d_Declaration_parameterOf_39 rfl (lv_at hl 2 rfl) ?_
            refine x_aald3 C D (by decide) sh_4 d_Declaration_parameterOf_40 h (fun q4 h => ?_)
            exact x_arp C D (congrArg (Option.map fun k => ga g (10 + k)) (Option.some.inj h)) d_Declaration_parameterOf_41
  unfold f_Declaration_parameterOf at h
  refine lv_iconst (v := 0) hx hb d_Declaration_parameterOf_0 (by decide) ?_
  refine lv_istore_n (lv' := [(2, .int 0), (0, .ref (ga g 1)), (1, .int a1)]) hx hb d_Declaration_parameterOf_1 rfl hl (by decide) rfl (fun ls hl => ?_)
  exact L2 _ _ _ _ _ _ h D (lv_sub hl [1, 2, 0] rfl)
theorem d_Declaration_hasLetterTwice_0 : decode b_Declaration_hasLetterTwice 0 = .ok (.iconst 0, 1) := by decide +kernel
theorem d_Declaration_hasLetterTwice_1 : decode b_Declaration_hasLetterTwice 1 = .ok (.istore_n 1, 1) := by decide +kernel
theorem d_Declaration_hasLetterTwice_2 : decode b_Declaration_hasLetterTwice 2 = .ok (.iload_n 1, 1) := by decide +kernel
theorem d_Declaration_hasLetterTwice_3 : decode b_Declaration_hasLetterTwice 3 = .ok (.aload_n 0, 1) := by decide +kernel
theorem d_Declaration_hasLetterTwice_4 : decode b_Declaration_hasLetterTwice 4 = .ok (.getfield 24, 3) := by decide +kernel
theorem d_Declaration_hasLetterTwice_7 : decode b_Declaration_hasLetterTwice 7 = .ok (.if_icmp .ge 69, 3) := by decide +kernel
theorem d_Declaration_hasLetterTwice_10 : decode b_Declaration_hasLetterTwice 10 = .ok (.iconst 0, 1) := by decide +kernel
theorem d_Declaration_hasLetterTwice_11 : decode b_Declaration_hasLetterTwice 11 = .ok (.istore_n 2, 1) := by decide +kernel
theorem d_Declaration_hasLetterTwice_12 : decode b_Declaration_hasLetterTwice 12 = .ok (.iload_n 2, 1) := by decide +kernel
theorem d_Declaration_hasLetterTwice_13 : decode b_Declaration_hasLetterTwice 13 = .ok (.iload_n 1, 1) := by decide +kernel
theorem d_Declaration_hasLetterTwice_14 : decode b_Declaration_hasLetterTwice 14 = .ok (.if_icmp .ge 56, 3) := by decide +kernel
theorem d_Declaration_hasLetterTwice_17 : decode b_Declaration_hasLetterTwice 17 = .ok (.aload_n 0, 1) := by decide +kernel
theorem d_Declaration_hasLetterTwice_18 : decode b_Declaration_hasLetterTwice 18 = .ok (.getfield 20, 3) := by decide +kernel
theorem d_Declaration_hasLetterTwice_21 : decode b_Declaration_hasLetterTwice 21 = .ok (.iload_n 1, 1) := by decide +kernel
theorem d_Declaration_hasLetterTwice_22 : decode b_Declaration_hasLetterTwice 22 = .ok (.aaload, 1) := by decide +kernel
theorem d_Declaration_hasLetterTwice_23 : decode b_Declaration_hasLetterTwice 23 = .ok (.invokevirtual 49, 3) := by decide +kernel
theorem d_Declaration_hasLetterTwice_26 : decode b_Declaration_hasLetterTwice 26 = .ok (.ifCond .eq 38, 3) := by decide +kernel
theorem d_Declaration_hasLetterTwice_29 : decode b_Declaration_hasLetterTwice 29 = .ok (.aload_n 0, 1) := by decide +kernel
theorem d_Declaration_hasLetterTwice_30 : decode b_Declaration_hasLetterTwice 30 = .ok (.getfield 20, 3) := by decide +kernel
theorem d_Declaration_hasLetterTwice_33 : decode b_Declaration_hasLetterTwice 33 = .ok (.iload_n 2, 1) := by decide +kernel
theorem d_Declaration_hasLetterTwice_34 : decode b_Declaration_hasLetterTwice 34 = .ok (.aaload, 1) := by decide +kernel
theorem d_Declaration_hasLetterTwice_35 : decode b_Declaration_hasLetterTwice 35 = .ok (.invokevirtual 49, 3) := by decide +kernel
theorem d_Declaration_hasLetterTwice_38 : decode b_Declaration_hasLetterTwice 38 = .ok (.ifCond .eq 26, 3) := by decide +kernel
theorem d_Declaration_hasLetterTwice_41 : decode b_Declaration_hasLetterTwice 41 = .ok (.aload_n 0, 1) := by decide +kernel
theorem d_Declaration_hasLetterTwice_42 : decode b_Declaration_hasLetterTwice 42 = .ok (.getfield 20, 3) := by decide +kernel
theorem d_Declaration_hasLetterTwice_45 : decode b_Declaration_hasLetterTwice 45 = .ok (.iload_n 1, 1) := by decide +kernel
theorem d_Declaration_hasLetterTwice_46 : decode b_Declaration_hasLetterTwice 46 = .ok (.aaload, 1) := by decide +kernel
theorem d_Declaration_hasLetterTwice_47 : decode b_Declaration_hasLetterTwice 47 = .ok (.getfield 53, 3) := by decide +kernel
theorem d_Declaration_hasLetterTwice_50 : decode b_Declaration_hasLetterTwice 50 = .ok (.aload_n 0, 1) := by decide +kernel
theorem d_Declaration_hasLetterTwice_51 : decode b_Declaration_hasLetterTwice 51 = .ok (.getfield 20, 3) := by decide +kernel
theorem d_Declaration_hasLetterTwice_54 : decode b_Declaration_hasLetterTwice 54 = .ok (.iload_n 2, 1) := by decide +kernel
theorem d_Declaration_hasLetterTwice_55 : decode b_Declaration_hasLetterTwice 55 = .ok (.aaload, 1) := by decide +kernel
theorem d_Declaration_hasLetterTwice_56 : decode b_Declaration_hasLetterTwice 56 = .ok (.getfield 53, 3) := by decide +kernel
theorem d_Declaration_hasLetterTwice_59 : decode b_Declaration_hasLetterTwice 59 = .ok (.if_icmp .ne 5, 3) := by decide +kernel
theorem d_Declaration_hasLetterTwice_62 : decode b_Declaration_hasLetterTwice 62 = .ok (.iconst 1, 1) := by decide +kernel
theorem d_Declaration_hasLetterTwice_63 : decode b_Declaration_hasLetterTwice 63 = .ok (.ireturn, 1) := by decide +kernel
theorem d_Declaration_hasLetterTwice_64 : decode b_Declaration_hasLetterTwice 64 = .ok (.iinc 2 1, 3) := by decide +kernel
theorem d_Declaration_hasLetterTwice_67 : decode b_Declaration_hasLetterTwice 67 = .ok (.goto (-55), 3) := by decide +kernel
theorem d_Declaration_hasLetterTwice_70 : decode b_Declaration_hasLetterTwice 70 = .ok (.iinc 1 1, 3) := by decide +kernel
theorem d_Declaration_hasLetterTwice_73 : decode b_Declaration_hasLetterTwice 73 = .ok (.goto (-71), 3) := by decide +kernel
theorem d_Declaration_hasLetterTwice_76 : decode b_Declaration_hasLetterTwice 76 = .ok (.iconst 0, 1) := by decide +kernel
theorem d_Declaration_hasLetterTwice_77 : decode b_Declaration_hasLetterTwice 77 = .ok (.ireturn, 1) := by decide +kernel
def f_Declaration_hasLetterTwice_64 (K2 : Int32 → zSt → Option Int32) (K12 : Int32 → Int32 → zSt → Option Int32) (a1 : Int32) (a2 : Int32) (S : zSt) : Option Int32 := (K12 a1 (a2 + 1) S)
def f_Declaration_hasLetterTwice_12 (K2 : Int32 → zSt → Option Int32) : Nat → Int32 → Int32 → zSt → Option Int32
  | 0, _, _, _ => none
  | n + 1, a1, a2, S => (if a1 ≤ a2 then (K2 (a1 + 1) S) else gdi a1 6 (((f_Parameter_isInPath a1.toNatClampNeg S).bind fun u2 => (if u2 = 0 then (f_Declaration_hasLetterTwice_64 K2 (f_Declaration_hasLetterTwice_12 K2 n) a1 a2 S) else gdi a2 6 (((f_Parameter_isInPath a2.toNatClampNeg S).bind fun u4 => (if u4 = 0 then (f_Declaration_hasLetterTwice_64 K2 (f_Declaration_hasLetterTwice_12 K2 n) a1 a2 S) else gdi a1 6 (gdi a2 6 ((if (S (10 + a1.toNatClampNeg) 3) = (S (10 + a2.toNatClampNeg) 3) then (gdb 1 (some 1)) else (f_Declaration_hasLetterTwice_64 K2 (f_Declaration_hasLetterTwice_12 K2 n) a1 a2 S)))))))))))
def f_Declaration_hasLetterTwice_2 : Nat → Int32 → zSt → Option Int32
  | 0, _, _ => none
  | n + 1, a1, S => (if (S 1 2) ≤ a1 then (gdb 0 (some 0)) else (f_Declaration_hasLetterTwice_12 (f_Declaration_hasLetterTwice_2 n) fu a1 0 S))
def f_Declaration_hasLetterTwice (S : zSt) : Option Int32 := (f_Declaration_hasLetterTwice_2 fu 0 S)
set_option maxHeartbeats 4000000 in
set_option maxRecDepth 100000 in
theorem c_Declaration_hasLetterTwice (l : Launch) (g : zG) (hD : GD g) (S : zSt) (u : Int32) (h : f_Declaration_hasLetterTwice S = some u) : Met l y_Declaration_hasLetterTwice (mw y_Declaration_hasLetterTwice b_Declaration_hasLetterTwice 3 (some .boolean)) (rmD 1) (Pw g [.ref (ga g 1)] S) (Qip g S u) 0 0 (gA g) := by
  refine z_go (own := R_Declaration) (lv0 := [(0, .ref (ga g 1))]) hD (by decide) rfl (Nat.le_of_ble_eq_true rfl) rfl ?_
  intro p e s m args below meth c C D ls hl
  have hx := C.1
  have hb := C.2.1
  have hown := C.2.2.2.1
  have hts := C.2.2.2.2.1
  have B64 : ∀ (K2 : Int32 → zSt → Option Int32) (hK2 : ∀ (H : Heap) (locs : List Loc) (ls : Array Slot) (a1 : Int32), K2 a1 S = some u → Dy g s S H locs → lv_has ls 3 [(0, .ref (ga g 1)), (1, .int a1)] → W p l e (rmD 1) s m args below meth c H locs 0 0 (MQ below (Qip g S u) args s 0 0 (gA g)) (F0 m 2 ls [])) (K12 : Int32 → Int32 → zSt → Option Int32) (hK12 : ∀ (H : Heap) (locs : List Loc) (ls : Array Slot) (a1 : Int32) (a2 : Int32), K12 a1 a2 S = some u → Dy g s S H locs → lv_has ls 3 [(0, .ref (ga g 1)), (1, .int a1), (2, .int a2)] → W p l e (rmD 1) s m args below meth c H locs 0 0 (MQ below (Qip g S u) args s 0 0 (gA g)) (F0 m 12 ls [])) (H : Heap) (locs : List Loc) (ls : Array Slot) (a1 : Int32) (a2 : Int32), f_Declaration_hasLetterTwice_64 K2 K12 a1 a2 S = some u → Dy g s S H locs → lv_has ls 3 [(0, .ref (ga g 1)), (1, .int a1), (2, .int a2)] → W p l e (rmD 1) s m args below meth c H locs 0 0 (MQ below (Qip g S u) args s 0 0 (gA g)) (F0 m 64 ls []) := by
    intro K2 hK2 K12 hK12 H locs ls a1 a2 h D hl
    unfold f_Declaration_hasLetterTwice_64 at h
    refine lv_iinc (k := 2) (lv' := [(2, .int (a2 + 1)), (0, .ref (ga g 1)), (1, .int a1)]) hx hb d_Declaration_hasLetterTwice_64 hl rfl (ii1 _) (by decide) rfl (fun ls hl => ?_)
    refine lv_goto hx hb d_Declaration_hasLetterTwice_67 rfl ?_
    exact hK12 _ _ _ _ _ h D (lv_sub hl [1, 2, 0] rfl)
  have L12 : ∀ (K2 : Int32 → zSt → Option Int32) (hK2 : ∀ (H : Heap) (locs : List Loc) (ls : Array Slot) (a1 : Int32), K2 a1 S = some u → Dy g s S H locs → lv_has ls 3 [(0, .ref (ga g 1)), (1, .int a1)] → W p l e (rmD 1) s m args below meth c H locs 0 0 (MQ below (Qip g S u) args s 0 0 (gA g)) (F0 m 2 ls [])) (n : Nat) (H : Heap) (locs : List Loc) (ls : Array Slot) (a1 : Int32) (a2 : Int32), f_Declaration_hasLetterTwice_12 K2 n a1 a2 S = some u → Dy g s S H locs → lv_has ls 3 [(0, .ref (ga g 1)), (1, .int a1), (2, .int a2)] → W p l e (rmD 1) s m args below meth c H locs 0 0 (MQ below (Qip g S u) args s 0 0 (gA g)) (F0 m 12 ls []) := by
    intro K2 hK2 n
    induction n with
    | zero => intro H locs ls a1 a2 h D hl; rw [f_Declaration_hasLetterTwice_12] at h; cases h
    | succ n hK12 =>
      intro H locs ls a1 a2 h D hl
      rw [f_Declaration_hasLetterTwice_12] at h
      refine lv_iload_n hx hb d_Declaration_hasLetterTwice_12 rfl (lv_at hl 2 rfl) ?_
      refine lv_iload_n hx hb d_Declaration_hasLetterTwice_13 rfl (lv_at hl 1 rfl) ?_
      refine lv_icmp_ge hx hb d_Declaration_hasLetterTwice_14 rfl (fun z => ?_) (fun z => ?_)
      · replace h := if_t z h
        refine lv_iinc (k := 1) (lv' := [(1, .int (a1 + 1)), (0, .ref (ga g 1)), (2, .int a2)]) hx hb d_Declaration_hasLetterTwice_70 hl rfl (ii1 _) (by decide) rfl (fun ls hl => ?_)
        refine lv_goto hx hb d_Declaration_hasLetterTwice_73 rfl ?_
        exact hK2 _ _ _ _ h D (lv_sub hl [1, 0] rfl)
      · replace h := if_f z h
        refine lv_aload_n hx hb d_Declaration_hasLetterTwice_17 rfl (lv_at hl 0 rfl) ?_
        refine x_get (v := .ref (ga g 4)) C D kc_Declaration (by decide) sh_1 1 rfl (by decide) wf_Declaration_20 rfl rfl d_Declaration_hasLetterTwice_18 ?_
        refine lv_iload_n hx hb d_Declaration_hasLetterTwice_21 rfl (lv_at hl 1 rfl) ?_
        refine x_aald3 C D (by decide) sh_4 d_Declaration_hasLetterTwice_22 h (fun q1 h => ?_)
        obtain ⟨u2, hu2, h⟩ := bd_some h
        refine x_cip (rest := []) (r_V C D (c_Parameter_isInPath l g hD a1.toNatClampNeg q1 S u2 hu2) wc_Parameter_isInPath wm_Declaration_49 wi_Parameter_isInPath wd_Parameter_isInPath (nP q1) (sh_P q1) kc_Parameter.1 rfl rfl hl (Nat.le_of_ble_eq_true rfl) (by decide) d_Declaration_hasLetterTwice_23) D (fun H locs D => ?_)
        refine lv_if_eq hx hb d_Declaration_hasLetterTwice_26 rfl (fun z => ?_) (fun z => ?_)
        · replace h := if_t z h
          exact B64 _ hK2 _ hK12 _ _ _ _ _ h D (lv_sub hl [0, 1, 2] rfl)
        · replace h := if_f z h
          refine lv_aload_n hx hb d_Declaration_hasLetterTwice_29 rfl (lv_at hl 0 rfl) ?_
          refine x_get (v := .ref (ga g 4)) C D kc_Declaration (by decide) sh_1 1 rfl (by decide) wf_Declaration_20 rfl rfl d_Declaration_hasLetterTwice_30 ?_
          refine lv_iload_n hx hb d_Declaration_hasLetterTwice_33 rfl (lv_at hl 2 rfl) ?_
          refine x_aald3 C D (by decide) sh_4 d_Declaration_hasLetterTwice_34 h (fun q3 h => ?_)
          obtain ⟨u4, hu4, h⟩ := bd_some h
          refine x_cip (rest := []) (r_V C D (c_Parameter_isInPath l g hD a2.toNatClampNeg q3 S u4 hu4) wc_Parameter_isInPath wm_Declaration_49 wi_Parameter_isInPath wd_Parameter_isInPath (nP q3) (sh_P q3) kc_Parameter.1 rfl rfl hl (Nat.le_of_ble_eq_true rfl) (by decide) d_Declaration_hasLetterTwice_35) D (fun H locs D => ?_)
          refine lv_if_eq hx hb d_Declaration_hasLetterTwice_38 rfl (fun z => ?_) (fun z => ?_)
          · replace h := if_t z h
            exact B64 _ hK2 _ hK12 _ _ _ _ _ h D (lv_sub hl [0, 1, 2] rfl)
          · replace h := if_f z h
            refine lv_aload_n hx hb d_Declaration_hasLetterTwice_41 rfl (lv_at hl 0 rfl) ?_
            refine x_get (v := .ref (ga g 4)) C D kc_Declaration (by decide) sh_1 1 rfl (by decide) wf_Declaration_20 rfl rfl d_Declaration_hasLetterTwice_42 ?_
            refine lv_iload_n hx hb d_Declaration_hasLetterTwice_45 rfl (lv_at hl 1 rfl) ?_
            refine x_aald3 C D (by decide) sh_4 d_Declaration_hasLetterTwice_46 h (fun q5 h => ?_)
            refine x_getN (v := .int (S (10 + a1.toNatClampNeg) 3)) C D kc_Parameter (nP q5) (sh_P q5) 3 rfl (by decide) nf_Declaration_53 rfl rfl d_Declaration_hasLetterTwice_47 ?_
            refine lv_aload_n hx hb d_Declaration_hasLetterTwice_50 rfl (lv_at hl 0 rfl) ?_
            refine x_get (v := .ref (ga g 4)) C D kc_Declaration (by decide) sh_1 1 rfl (by decide) wf_Declaration_20 rfl rfl d_Declaration_hasLetterTwice_51 ?_
            refine lv_iload_n hx hb d_Declaration_hasLetterTwice_54 rfl (lv_at hl 2 rfl) ?_
            refine x_aald3 C D (by decide) sh_4 d_Declaration_hasLetterTwice_55 h (fun q6 h => ?_)
            refine x_getN (v := .int (S (10 + a2.toNatClampNeg) 3)) C D kc_Parameter (nP q6) (sh_P q6) 3 rfl (by decide) nf_Declaration_53 rfl rfl d_Declaration_hasLetterTwice_56 ?_
            refine lv_icmp_ne hx hb d_Declaration_hasLetterTwice_59 rfl (fun z => ?_) (fun z => ?_)
            · replace h := if_f z h
              exact B64 _ hK2 _ hK12 _ _ _ _ _ h D (lv_sub hl [0, 1, 2] rfl)
            · replace h := if_t z h
              refine lv_iconst (v := 1) hx hb d_Declaration_hasLetterTwice_62 (by decide) ?_
              exact x_zrp C D h d_Declaration_hasLetterTwice_63
  have L2 : ∀ (n : Nat) (H : Heap) (locs : List Loc) (ls : Array Slot) (a1 : Int32), f_Declaration_hasLetterTwice_2 n a1 S = some u → Dy g s S H locs → lv_has ls 3 [(0, .ref (ga g 1)), (1, .int a1)] → W p l e (rmD 1) s m args below meth c H locs 0 0 (MQ below (Qip g S u) args s 0 0 (gA g)) (F0 m 2 ls []) := by
    intro n
    induction n with
    | zero => intro H locs ls a1 h D hl; rw [f_Declaration_hasLetterTwice_2] at h; cases h
    | succ n hK2 =>
      intro H locs ls a1 h D hl
      rw [f_Declaration_hasLetterTwice_2] at h
      refine lv_iload_n hx hb d_Declaration_hasLetterTwice_2 rfl (lv_at hl 1 rfl) ?_
      refine lv_aload_n hx hb d_Declaration_hasLetterTwice_3 rfl (lv_at hl 0 rfl) ?_
      refine x_get (v := .int (S 1 2)) C D kc_Declaration (by decide) sh_1 2 rfl (by decide) wf_Declaration_24 rfl rfl d_Declaration_hasLetterTwice_4 ?_
      refine lv_icmp_ge hx hb d_Declaration_hasLetterTwice_7 rfl (fun z => ?_) (fun z => ?_)
      · replace h := if_t z h
        refine lv_iconst (v := 0) hx hb d_Declaration_hasLetterTwice_76 (by decide) ?_
        exact x_zrp C D h d_Declaration_hasLetterTwice_77
      · replace h := if_f z h
        refine lv_iconst (v := 0) hx hb d_Declaration_hasLetterTwice_10 (by decide) ?_
        refine lv_istore_n (lv' := [(2, .int 0), (0, .ref (ga g 1)), (1, .int a1)]) hx hb d_Declaration_hasLetterTwice_11 rfl hl (by decide) rfl (fun ls hl => ?_)
        exact L12 _ hK2 _ _ _ _ _ _ h D (lv_sub hl [1, 2, 0] rfl)
  unfold f_Declaration_hasLetterTwice at h
  refine lv_iconst (v := 0) hx hb d_Declaration_hasLetterTwice_0 (by decide) ?_
  refine lv_istore_n (lv' := [(1, .int 0), (0, .ref (ga g 1))]) hx hb d_Declaration_hasLetterTwice_1 rfl hl (by decide) rfl (fun ls hl => ?_)
  exact L2 _ _ _ _ _ h D (lv_sub hl [1, 0] rfl)
theorem d_Declaration_hasUnknownVariable_0 : decode b_Declaration_hasUnknownVariable 0 = .ok (.iconst 0, 1) := by decide +kernel
theorem d_Declaration_hasUnknownVariable_1 : decode b_Declaration_hasUnknownVariable 1 = .ok (.istore_n 1, 1) := by decide +kernel
theorem d_Declaration_hasUnknownVariable_2 : decode b_Declaration_hasUnknownVariable 2 = .ok (.iload_n 1, 1) := by decide +kernel
theorem d_Declaration_hasUnknownVariable_3 : decode b_Declaration_hasUnknownVariable 3 = .ok (.aload_n 0, 1) := by decide +kernel
theorem d_Declaration_hasUnknownVariable_4 : decode b_Declaration_hasUnknownVariable 4 = .ok (.getfield 12, 3) := by decide +kernel
theorem d_Declaration_hasUnknownVariable_7 : decode b_Declaration_hasUnknownVariable 7 = .ok (.getfield 32, 3) := by decide +kernel
theorem d_Declaration_hasUnknownVariable_10 : decode b_Declaration_hasUnknownVariable 10 = .ok (.if_icmp .ge 37, 3) := by decide +kernel
theorem d_Declaration_hasUnknownVariable_13 : decode b_Declaration_hasUnknownVariable 13 = .ok (.aload_n 0, 1) := by decide +kernel
theorem d_Declaration_hasUnknownVariable_14 : decode b_Declaration_hasUnknownVariable 14 = .ok (.getfield 12, 3) := by decide +kernel
theorem d_Declaration_hasUnknownVariable_17 : decode b_Declaration_hasUnknownVariable 17 = .ok (.iload_n 1, 1) := by decide +kernel
theorem d_Declaration_hasUnknownVariable_18 : decode b_Declaration_hasUnknownVariable 18 = .ok (.invokevirtual 88, 3) := by decide +kernel
theorem d_Declaration_hasUnknownVariable_21 : decode b_Declaration_hasUnknownVariable 21 = .ok (.ifCond .eq 20, 3) := by decide +kernel
theorem d_Declaration_hasUnknownVariable_24 : decode b_Declaration_hasUnknownVariable 24 = .ok (.aload_n 0, 1) := by decide +kernel
theorem d_Declaration_hasUnknownVariable_25 : decode b_Declaration_hasUnknownVariable 25 = .ok (.aload_n 0, 1) := by decide +kernel
theorem d_Declaration_hasUnknownVariable_26 : decode b_Declaration_hasUnknownVariable 26 = .ok (.getfield 12, 3) := by decide +kernel
theorem d_Declaration_hasUnknownVariable_29 : decode b_Declaration_hasUnknownVariable 29 = .ok (.iload_n 1, 1) := by decide +kernel
theorem d_Declaration_hasUnknownVariable_30 : decode b_Declaration_hasUnknownVariable 30 = .ok (.invokevirtual 92, 3) := by decide +kernel
theorem d_Declaration_hasUnknownVariable_33 : decode b_Declaration_hasUnknownVariable 33 = .ok (.invokevirtual 96, 3) := by decide +kernel
theorem d_Declaration_hasUnknownVariable_36 : decode b_Declaration_hasUnknownVariable 36 = .ok (.ifnonnull 5, 3) := by decide +kernel
theorem d_Declaration_hasUnknownVariable_39 : decode b_Declaration_hasUnknownVariable 39 = .ok (.iconst 1, 1) := by decide +kernel
theorem d_Declaration_hasUnknownVariable_40 : decode b_Declaration_hasUnknownVariable 40 = .ok (.ireturn, 1) := by decide +kernel
theorem d_Declaration_hasUnknownVariable_41 : decode b_Declaration_hasUnknownVariable 41 = .ok (.iinc 1 1, 3) := by decide +kernel
theorem d_Declaration_hasUnknownVariable_44 : decode b_Declaration_hasUnknownVariable 44 = .ok (.goto (-42), 3) := by decide +kernel
theorem d_Declaration_hasUnknownVariable_47 : decode b_Declaration_hasUnknownVariable 47 = .ok (.iconst 0, 1) := by decide +kernel
theorem d_Declaration_hasUnknownVariable_48 : decode b_Declaration_hasUnknownVariable 48 = .ok (.ireturn, 1) := by decide +kernel
def f_Declaration_hasUnknownVariable_41 (K2 : Int32 → zSt → Option Int32) (a1 : Int32) (S : zSt) : Option Int32 := (K2 (a1 + 1) S)
def f_Declaration_hasUnknownVariable_2 : Nat → Int32 → zSt → Option Int32
  | 0, _, _ => none
  | n + 1, a1, S => (if (S 2 1) ≤ a1 then (gdb 0 (some 0)) else ((f_PathTemplate_isVariable a1 S).bind fun u1 => (if u1 = 0 then (f_Declaration_hasUnknownVariable_41 (f_Declaration_hasUnknownVariable_2 n) a1 S) else ((f_PathTemplate_at a1 S).bind fun u2 => ((f_Declaration_parameterOf u2 S).bind fun u3 => match u3 with | none => (gdb 1 (some 1)) | some k4 => gdn k4 6 ((f_Declaration_hasUnknownVariable_41 (f_Declaration_hasUnknownVariable_2 n) a1 S)))))))
def f_Declaration_hasUnknownVariable (S : zSt) : Option Int32 := (f_Declaration_hasUnknownVariable_2 fu 0 S)
set_option maxHeartbeats 4000000 in
set_option maxRecDepth 100000 in
theorem c_Declaration_hasUnknownVariable (l : Launch) (g : zG) (hD : GD g) (S : zSt) (u : Int32) (h : f_Declaration_hasUnknownVariable S = some u) : Met l y_Declaration_hasUnknownVariable (mw y_Declaration_hasUnknownVariable b_Declaration_hasUnknownVariable 2 (some .boolean)) (rmD 2) (Pw g [.ref (ga g 1)] S) (Qip g S u) 0 0 (gA g) := by
  refine z_go (own := R_Declaration) (lv0 := [(0, .ref (ga g 1))]) hD (by decide) rfl (Nat.le_of_ble_eq_true rfl) rfl ?_
  intro p e s m args below meth c C D ls hl
  have hx := C.1
  have hb := C.2.1
  have hown := C.2.2.2.1
  have hts := C.2.2.2.2.1
  have B41 : ∀ (K2 : Int32 → zSt → Option Int32) (hK2 : ∀ (H : Heap) (locs : List Loc) (ls : Array Slot) (a1 : Int32), K2 a1 S = some u → Dy g s S H locs → lv_has ls 2 [(0, .ref (ga g 1)), (1, .int a1)] → W p l e (rmD 2) s m args below meth c H locs 0 0 (MQ below (Qip g S u) args s 0 0 (gA g)) (F0 m 2 ls [])) (H : Heap) (locs : List Loc) (ls : Array Slot) (a1 : Int32), f_Declaration_hasUnknownVariable_41 K2 a1 S = some u → Dy g s S H locs → lv_has ls 2 [(0, .ref (ga g 1)), (1, .int a1)] → W p l e (rmD 2) s m args below meth c H locs 0 0 (MQ below (Qip g S u) args s 0 0 (gA g)) (F0 m 41 ls []) := by
    intro K2 hK2 H locs ls a1 h D hl
    unfold f_Declaration_hasUnknownVariable_41 at h
    refine lv_iinc (k := 1) (lv' := [(1, .int (a1 + 1)), (0, .ref (ga g 1))]) hx hb d_Declaration_hasUnknownVariable_41 hl rfl (ii1 _) (by decide) rfl (fun ls hl => ?_)
    refine lv_goto hx hb d_Declaration_hasUnknownVariable_44 rfl ?_
    exact hK2 _ _ _ _ h D (lv_sub hl [1, 0] rfl)
  have L2 : ∀ (n : Nat) (H : Heap) (locs : List Loc) (ls : Array Slot) (a1 : Int32), f_Declaration_hasUnknownVariable_2 n a1 S = some u → Dy g s S H locs → lv_has ls 2 [(0, .ref (ga g 1)), (1, .int a1)] → W p l e (rmD 2) s m args below meth c H locs 0 0 (MQ below (Qip g S u) args s 0 0 (gA g)) (F0 m 2 ls []) := by
    intro n
    induction n with
    | zero => intro H locs ls a1 h D hl; rw [f_Declaration_hasUnknownVariable_2] at h; cases h
    | succ n hK2 =>
      intro H locs ls a1 h D hl
      rw [f_Declaration_hasUnknownVariable_2] at h
      refine lv_iload_n hx hb d_Declaration_hasUnknownVariable_2 rfl (lv_at hl 1 rfl) ?_
      refine lv_aload_n hx hb d_Declaration_hasUnknownVariable_3 rfl (lv_at hl 0 rfl) ?_
      refine x_get (v := .ref (ga g 2)) C D kc_Declaration (by decide) sh_1 0 rfl (by decide) wf_Declaration_12 rfl rfl d_Declaration_hasUnknownVariable_4 ?_
      refine x_getN (v := .int (S 2 1)) C D kc_PathTemplate (by decide) sh_2 1 rfl (by decide) nf_Declaration_32 rfl rfl d_Declaration_hasUnknownVariable_7 ?_
      refine lv_icmp_ge hx hb d_Declaration_hasUnknownVariable_10 rfl (fun z => ?_) (fun z => ?_)
      · replace h := if_t z h
        refine lv_iconst (v := 0) hx hb d_Declaration_hasUnknownVariable_47 (by decide) ?_
        exact x_zrp C D h d_Declaration_hasUnknownVariable_48
      · replace h := if_f z h
        refine lv_aload_n hx hb d_Declaration_hasUnknownVariable_13 rfl (lv_at hl 0 rfl) ?_
        refine x_get (v := .ref (ga g 2)) C D kc_Declaration (by decide) sh_1 0 rfl (by decide) wf_Declaration_12 rfl rfl d_Declaration_hasUnknownVariable_14 ?_
        refine lv_iload_n hx hb d_Declaration_hasUnknownVariable_17 rfl (lv_at hl 1 rfl) ?_
        obtain ⟨u1, hu1, h⟩ := bd_some h
        refine x_cip (rest := []) (r_V C D (c_PathTemplate_isVariable l g hD a1 S u1 hu1) wc_PathTemplate_isVariable wm_Declaration_88 wi_PathTemplate_isVariable wd_PathTemplate_isVariable (by decide) sh_2 kc_PathTemplate.1 rfl rfl hl (Nat.le_of_ble_eq_true rfl) (by decide) d_Declaration_hasUnknownVariable_18) D (fun H locs D => ?_)
        refine lv_if_eq hx hb d_Declaration_hasUnknownVariable_21 rfl (fun z => ?_) (fun z => ?_)
        · replace h := if_t z h
          exact B41 _ hK2 _ _ _ _ h D (lv_sub hl [0, 1] rfl)
        · replace h := if_f z h
          refine lv_aload_n hx hb d_Declaration_hasUnknownVariable_24 rfl (lv_at hl 0 rfl) ?_
          refine lv_aload_n hx hb d_Declaration_hasUnknownVariable_25 rfl (lv_at hl 0 rfl) ?_
          refine x_get (v := .ref (ga g 2)) C D kc_Declaration (by decide) sh_1 0 rfl (by decide) wf_Declaration_12 rfl rfl d_Declaration_hasUnknownVariable_26 ?_
          refine lv_iload_n hx hb d_Declaration_hasUnknownVariable_29 rfl (lv_at hl 1 rfl) ?_
          obtain ⟨u2, hu2, h⟩ := bd_some h
          refine x_cip (rest := [.ref (ga g 1)]) (r_V C D (c_PathTemplate_at l g hD a1 S u2 hu2) wc_PathTemplate_at wm_Declaration_92 wi_PathTemplate_at wd_PathTemplate_at (by decide) sh_2 kc_PathTemplate.1 rfl rfl hl (Nat.le_of_ble_eq_true rfl) (by decide) d_Declaration_hasUnknownVariable_30) D (fun H locs D => ?_)
          obtain ⟨u3, hu3, h⟩ := bd_some h
          refine x_cqp (rest := []) (r_V C D (c_Declaration_parameterOf l g hD u2 S u3 hu3) wc_Declaration_parameterOf wm_Declaration_96 wi_Declaration_parameterOf wd_Declaration_parameterOf (by decide) sh_1 kc_Declaration.1 rfl rfl hl (Nat.le_of_ble_eq_true rfl) (by decide) d_Declaration_hasUnknownVariable_33) D (fun H locs D => ?_)
          cases u3 with
          | none =>
            refine lv_ifnonnullN hx hb d_Declaration_hasUnknownVariable_36 ?_
            refine lv_iconst (v := 1) hx hb d_Declaration_hasUnknownVariable_39 (by decide) ?_
            exact x_zrp C D h d_Declaration_hasUnknownVariable_40
          | some k4 =>
            obtain ⟨hk4, h⟩ := gdn_some h
            refine lv_ifnonnull hx hb d_Declaration_hasUnknownVariable_36 rfl ?_
            exact B41 _ hK2 _ _ _ _ h D (lv_sub hl [0, 1] rfl)
  unfold f_Declaration_hasUnknownVariable at h
  refine lv_iconst (v := 0) hx hb d_Declaration_hasUnknownVariable_0 (by decide) ?_
  refine lv_istore_n (lv' := [(1, .int 0), (0, .ref (ga g 1))]) hx hb d_Declaration_hasUnknownVariable_1 rfl hl (by decide) rfl (fun ls hl => ?_)
  exact L2 _ _ _ _ _ h D (lv_sub hl [1, 0] rfl)
theorem d_Declaration_hasVariable_0 : decode b_Declaration_hasVariable 0 = .ok (.iconst 0, 1) := by decide +kernel
theorem d_Declaration_hasVariable_1 : decode b_Declaration_hasVariable 1 = .ok (.istore_n 2, 1) := by decide +kernel
theorem d_Declaration_hasVariable_2 : decode b_Declaration_hasVariable 2 = .ok (.iload_n 2, 1) := by decide +kernel
theorem d_Declaration_hasVariable_3 : decode b_Declaration_hasVariable 3 = .ok (.aload_n 0, 1) := by decide +kernel
theorem d_Declaration_hasVariable_4 : decode b_Declaration_hasVariable 4 = .ok (.getfield 12, 3) := by decide +kernel
theorem d_Declaration_hasVariable_7 : decode b_Declaration_hasVariable 7 = .ok (.getfield 32, 3) := by decide +kernel
theorem d_Declaration_hasVariable_10 : decode b_Declaration_hasVariable 10 = .ok (.if_icmp .ge 34, 3) := by decide +kernel
theorem d_Declaration_hasVariable_13 : decode b_Declaration_hasVariable 13 = .ok (.aload_n 0, 1) := by decide +kernel
theorem d_Declaration_hasVariable_14 : decode b_Declaration_hasVariable 14 = .ok (.getfield 12, 3) := by decide +kernel
theorem d_Declaration_hasVariable_17 : decode b_Declaration_hasVariable 17 = .ok (.iload_n 2, 1) := by decide +kernel
theorem d_Declaration_hasVariable_18 : decode b_Declaration_hasVariable 18 = .ok (.invokevirtual 92, 3) := by decide +kernel
theorem d_Declaration_hasVariable_21 : decode b_Declaration_hasVariable 21 = .ok (.iload_n 1, 1) := by decide +kernel
theorem d_Declaration_hasVariable_22 : decode b_Declaration_hasVariable 22 = .ok (.if_icmp .ne 16, 3) := by decide +kernel
theorem d_Declaration_hasVariable_25 : decode b_Declaration_hasVariable 25 = .ok (.aload_n 0, 1) := by decide +kernel
theorem d_Declaration_hasVariable_26 : decode b_Declaration_hasVariable 26 = .ok (.getfield 12, 3) := by decide +kernel
theorem d_Declaration_hasVariable_29 : decode b_Declaration_hasVariable 29 = .ok (.iload_n 2, 1) := by decide +kernel
theorem d_Declaration_hasVariable_30 : decode b_Declaration_hasVariable 30 = .ok (.invokevirtual 88, 3) := by decide +kernel
theorem d_Declaration_hasVariable_33 : decode b_Declaration_hasVariable 33 = .ok (.ifCond .eq 5, 3) := by decide +kernel
theorem d_Declaration_hasVariable_36 : decode b_Declaration_hasVariable 36 = .ok (.iconst 1, 1) := by decide +kernel
theorem d_Declaration_hasVariable_37 : decode b_Declaration_hasVariable 37 = .ok (.ireturn, 1) := by decide +kernel
theorem d_Declaration_hasVariable_38 : decode b_Declaration_hasVariable 38 = .ok (.iinc 2 1, 3) := by decide +kernel
theorem d_Declaration_hasVariable_41 : decode b_Declaration_hasVariable 41 = .ok (.goto (-39), 3) := by decide +kernel
theorem d_Declaration_hasVariable_44 : decode b_Declaration_hasVariable 44 = .ok (.iconst 0, 1) := by decide +kernel
theorem d_Declaration_hasVariable_45 : decode b_Declaration_hasVariable 45 = .ok (.ireturn, 1) := by decide +kernel
def f_Declaration_hasVariable_38 (K2 : Int32 → Int32 → zSt → Option Int32) (a1 : Int32) (a2 : Int32) (S : zSt) : Option Int32 := (K2 a1 (a2 + 1) S)
def f_Declaration_hasVariable_2 : Nat → Int32 → Int32 → zSt → Option Int32
  | 0, _, _, _ => none
  | n + 1, a1, a2, S => (if (S 2 1) ≤ a2 then (gdb 0 (some 0)) else ((f_PathTemplate_at a2 S).bind fun u1 => (if u1 = a1 then ((f_PathTemplate_isVariable a2 S).bind fun u2 => (if u2 = 0 then (f_Declaration_hasVariable_38 (f_Declaration_hasVariable_2 n) a1 a2 S) else (gdb 1 (some 1)))) else (f_Declaration_hasVariable_38 (f_Declaration_hasVariable_2 n) a1 a2 S))))
def f_Declaration_hasVariable (a1 : Int32) (S : zSt) : Option Int32 := (f_Declaration_hasVariable_2 fu a1 0 S)
set_option maxHeartbeats 4000000 in
set_option maxRecDepth 100000 in
theorem c_Declaration_hasVariable (l : Launch) (g : zG) (hD : GD g) (a1 : Int32) (S : zSt) (u : Int32) (h : f_Declaration_hasVariable a1 S = some u) : Met l y_Declaration_hasVariable (mw y_Declaration_hasVariable b_Declaration_hasVariable 3 (some .boolean)) (rmD 2) (Pw g [.ref (ga g 1), .int a1] S) (Qip g S u) 0 0 (gA g) := by
  refine z_go (own := R_Declaration) (lv0 := [(0, .ref (ga g 1)), (1, .int a1)]) hD (by decide) rfl (Nat.le_of_ble_eq_true rfl) rfl ?_
  intro p e s m args below meth c C D ls hl
  have hx := C.1
  have hb := C.2.1
  have hown := C.2.2.2.1
  have hts := C.2.2.2.2.1
  have B38 : ∀ (K2 : Int32 → Int32 → zSt → Option Int32) (hK2 : ∀ (H : Heap) (locs : List Loc) (ls : Array Slot) (a1 : Int32) (a2 : Int32), K2 a1 a2 S = some u → Dy g s S H locs → lv_has ls 3 [(0, .ref (ga g 1)), (1, .int a1), (2, .int a2)] → W p l e (rmD 2) s m args below meth c H locs 0 0 (MQ below (Qip g S u) args s 0 0 (gA g)) (F0 m 2 ls [])) (H : Heap) (locs : List Loc) (ls : Array Slot) (a1 : Int32) (a2 : Int32), f_Declaration_hasVariable_38 K2 a1 a2 S = some u → Dy g s S H locs → lv_has ls 3 [(0, .ref (ga g 1)), (1, .int a1), (2, .int a2)] → W p l e (rmD 2) s m args below meth c H locs 0 0 (MQ below (Qip g S u) args s 0 0 (gA g)) (F0 m 38 ls []) := by
    intro K2 hK2 H locs ls a1 a2 h D hl
    unfold f_Declaration_hasVariable_38 at h
    refine lv_iinc (k := 2) (lv' := [(2, .int (a2 + 1)), (0, .ref (ga g 1)), (1, .int a1)]) hx hb d_Declaration_hasVariable_38 hl rfl (ii1 _) (by decide) rfl (fun ls hl => ?_)
    refine lv_goto hx hb d_Declaration_hasVariable_41 rfl ?_
    exact hK2 _ _ _ _ _ h D (lv_sub hl [1, 2, 0] rfl)
  have L2 : ∀ (n : Nat) (H : Heap) (locs : List Loc) (ls : Array Slot) (a1 : Int32) (a2 : Int32), f_Declaration_hasVariable_2 n a1 a2 S = some u → Dy g s S H locs → lv_has ls 3 [(0, .ref (ga g 1)), (1, .int a1), (2, .int a2)] → W p l e (rmD 2) s m args below meth c H locs 0 0 (MQ below (Qip g S u) args s 0 0 (gA g)) (F0 m 2 ls []) := by
    intro n
    induction n with
    | zero => intro H locs ls a1 a2 h D hl; rw [f_Declaration_hasVariable_2] at h; cases h
    | succ n hK2 =>
      intro H locs ls a1 a2 h D hl
      rw [f_Declaration_hasVariable_2] at h
      refine lv_iload_n hx hb d_Declaration_hasVariable_2 rfl (lv_at hl 2 rfl) ?_
      refine lv_aload_n hx hb d_Declaration_hasVariable_3 rfl (lv_at hl 0 rfl) ?_
      refine x_get (v := .ref (ga g 2)) C D kc_Declaration (by decide) sh_1 0 rfl (by decide) wf_Declaration_12 rfl rfl d_Declaration_hasVariable_4 ?_
      refine x_getN (v := .int (S 2 1)) C D kc_PathTemplate (by decide) sh_2 1 rfl (by decide) nf_Declaration_32 rfl rfl d_Declaration_hasVariable_7 ?_
      refine lv_icmp_ge hx hb d_Declaration_hasVariable_10 rfl (fun z => ?_) (fun z => ?_)
      · replace h := if_t z h
        refine lv_iconst (v := 0) hx hb d_Declaration_hasVariable_44 (by decide) ?_
        exact x_zrp C D h d_Declaration_hasVariable_45
      · replace h := if_f z h
        refine lv_aload_n hx hb d_Declaration_hasVariable_13 rfl (lv_at hl 0 rfl) ?_
        refine x_get (v := .ref (ga g 2)) C D kc_Declaration (by decide) sh_1 0 rfl (by decide) wf_Declaration_12 rfl rfl d_Declaration_hasVariable_14 ?_
        refine lv_iload_n hx hb d_Declaration_hasVariable_17 rfl (lv_at hl 2 rfl) ?_
        obtain ⟨u1, hu1, h⟩ := bd_some h
        refine x_cip (rest := []) (r_V C D (c_PathTemplate_at l g hD a2 S u1 hu1) wc_PathTemplate_at wm_Declaration_92 wi_PathTemplate_at wd_PathTemplate_at (by decide) sh_2 kc_PathTemplate.1 rfl rfl hl (Nat.le_of_ble_eq_true rfl) (by decide) d_Declaration_hasVariable_18) D (fun H locs D => ?_)
        refine lv_iload_n hx hb d_Declaration_hasVariable_21 rfl (lv_at hl 1 rfl) ?_
        refine lv_icmp_ne hx hb d_Declaration_hasVariable_22 rfl (fun z => ?_) (fun z => ?_)
        · replace h := if_f z h
          exact B38 _ hK2 _ _ _ _ _ h D (lv_sub hl [0, 1, 2] rfl)
        · replace h := if_t z h
          refine lv_aload_n hx hb d_Declaration_hasVariable_25 rfl (lv_at hl 0 rfl) ?_
          refine x_get (v := .ref (ga g 2)) C D kc_Declaration (by decide) sh_1 0 rfl (by decide) wf_Declaration_12 rfl rfl d_Declaration_hasVariable_26 ?_
          refine lv_iload_n hx hb d_Declaration_hasVariable_29 rfl (lv_at hl 2 rfl) ?_
          obtain ⟨u2, hu2, h⟩ := bd_some h
          refine x_cip (rest := []) (r_V C D (c_PathTemplate_isVariable l g hD a2 S u2 hu2) wc_PathTemplate_isVariable wm_Declaration_88 wi_PathTemplate_isVariable wd_PathTemplate_isVariable (by decide) sh_2 kc_PathTemplate.1 rfl rfl hl (Nat.le_of_ble_eq_true rfl) (by decide) d_Declaration_hasVariable_30) D (fun H locs D => ?_)
          refine lv_if_eq hx hb d_Declaration_hasVariable_33 rfl (fun z => ?_) (fun z => ?_)
          · replace h := if_t z h
            exact B38 _ hK2 _ _ _ _ _ h D (lv_sub hl [0, 1, 2] rfl)
          · replace h := if_f z h
            refine lv_iconst (v := 1) hx hb d_Declaration_hasVariable_36 (by decide) ?_
            exact x_zrp C D h d_Declaration_hasVariable_37
  unfold f_Declaration_hasVariable at h
  refine lv_iconst (v := 0) hx hb d_Declaration_hasVariable_0 (by decide) ?_
  refine lv_istore_n (lv' := [(2, .int 0), (0, .ref (ga g 1)), (1, .int a1)]) hx hb d_Declaration_hasVariable_1 rfl hl (by decide) rfl (fun ls hl => ?_)
  exact L2 _ _ _ _ _ _ h D (lv_sub hl [1, 2, 0] rfl)
theorem d_Declaration_hasCutList_0 : decode b_Declaration_hasCutList 0 = .ok (.iconst 0, 1) := by decide +kernel
theorem d_Declaration_hasCutList_1 : decode b_Declaration_hasCutList 1 = .ok (.istore_n 1, 1) := by decide +kernel
theorem d_Declaration_hasCutList_2 : decode b_Declaration_hasCutList 2 = .ok (.iload_n 1, 1) := by decide +kernel
theorem d_Declaration_hasCutList_3 : decode b_Declaration_hasCutList 3 = .ok (.aload_n 0, 1) := by decide +kernel
theorem d_Declaration_hasCutList_4 : decode b_Declaration_hasCutList 4 = .ok (.getfield 12, 3) := by decide +kernel
theorem d_Declaration_hasCutList_7 : decode b_Declaration_hasCutList 7 = .ok (.getfield 32, 3) := by decide +kernel
theorem d_Declaration_hasCutList_10 : decode b_Declaration_hasCutList 10 = .ok (.if_icmp .ge 58, 3) := by decide +kernel
theorem d_Declaration_hasCutList_13 : decode b_Declaration_hasCutList 13 = .ok (.aload_n 0, 1) := by decide +kernel
theorem d_Declaration_hasCutList_14 : decode b_Declaration_hasCutList 14 = .ok (.getfield 12, 3) := by decide +kernel
theorem d_Declaration_hasCutList_17 : decode b_Declaration_hasCutList 17 = .ok (.iload_n 1, 1) := by decide +kernel
theorem d_Declaration_hasCutList_18 : decode b_Declaration_hasCutList 18 = .ok (.invokevirtual 88, 3) := by decide +kernel
theorem d_Declaration_hasCutList_21 : decode b_Declaration_hasCutList 21 = .ok (.ifCond .eq 41, 3) := by decide +kernel
theorem d_Declaration_hasCutList_24 : decode b_Declaration_hasCutList 24 = .ok (.aload_n 0, 1) := by decide +kernel
theorem d_Declaration_hasCutList_25 : decode b_Declaration_hasCutList 25 = .ok (.getfield 12, 3) := by decide +kernel
theorem d_Declaration_hasCutList_28 : decode b_Declaration_hasCutList 28 = .ok (.iload_n 1, 1) := by decide +kernel
theorem d_Declaration_hasCutList_29 : decode b_Declaration_hasCutList 29 = .ok (.invokevirtual 104, 3) := by decide +kernel
theorem d_Declaration_hasCutList_32 : decode b_Declaration_hasCutList 32 = .ok (.ifCond .eq 30, 3) := by decide +kernel
theorem d_Declaration_hasCutList_35 : decode b_Declaration_hasCutList 35 = .ok (.aload_n 0, 1) := by decide +kernel
theorem d_Declaration_hasCutList_36 : decode b_Declaration_hasCutList 36 = .ok (.aload_n 0, 1) := by decide +kernel
theorem d_Declaration_hasCutList_37 : decode b_Declaration_hasCutList 37 = .ok (.getfield 12, 3) := by decide +kernel
theorem d_Declaration_hasCutList_40 : decode b_Declaration_hasCutList 40 = .ok (.iload_n 1, 1) := by decide +kernel
theorem d_Declaration_hasCutList_41 : decode b_Declaration_hasCutList 41 = .ok (.invokevirtual 92, 3) := by decide +kernel
theorem d_Declaration_hasCutList_44 : decode b_Declaration_hasCutList 44 = .ok (.invokevirtual 96, 3) := by decide +kernel
theorem d_Declaration_hasCutList_47 : decode b_Declaration_hasCutList 47 = .ok (.astore_n 2, 1) := by decide +kernel
theorem d_Declaration_hasCutList_48 : decode b_Declaration_hasCutList 48 = .ok (.aload_n 2, 1) := by decide +kernel
theorem d_Declaration_hasCutList_49 : decode b_Declaration_hasCutList 49 = .ok (.ifnull 13, 3) := by decide +kernel
theorem d_Declaration_hasCutList_52 : decode b_Declaration_hasCutList 52 = .ok (.aload_n 2, 1) := by decide +kernel
theorem d_Declaration_hasCutList_53 : decode b_Declaration_hasCutList 53 = .ok (.getfield 82, 3) := by decide +kernel
theorem d_Declaration_hasCutList_56 : decode b_Declaration_hasCutList 56 = .ok (.iconst 1, 1) := by decide +kernel
theorem d_Declaration_hasCutList_57 : decode b_Declaration_hasCutList 57 = .ok (.if_icmp .ne 5, 3) := by decide +kernel
theorem d_Declaration_hasCutList_60 : decode b_Declaration_hasCutList 60 = .ok (.iconst 1, 1) := by decide +kernel
theorem d_Declaration_hasCutList_61 : decode b_Declaration_hasCutList 61 = .ok (.ireturn, 1) := by decide +kernel
theorem d_Declaration_hasCutList_62 : decode b_Declaration_hasCutList 62 = .ok (.iinc 1 1, 3) := by decide +kernel
theorem d_Declaration_hasCutList_65 : decode b_Declaration_hasCutList 65 = .ok (.goto (-63), 3) := by decide +kernel
theorem d_Declaration_hasCutList_68 : decode b_Declaration_hasCutList 68 = .ok (.iconst 0, 1) := by decide +kernel
theorem d_Declaration_hasCutList_69 : decode b_Declaration_hasCutList 69 = .ok (.ireturn, 1) := by decide +kernel
def f_Declaration_hasCutList_62 (K2 : Int32 → zSt → Option Int32) (a1 : Int32) (S : zSt) : Option Int32 := (K2 (a1 + 1) S)
def f_Declaration_hasCutList_2 : Nat → Int32 → zSt → Option Int32
  | 0, _, _ => none
  | n + 1, a1, S => (if (S 2 1) ≤ a1 then (gdb 0 (some 0)) else ((f_PathTemplate_isVariable a1 S).bind fun u1 => (if u1 = 0 then (f_Declaration_hasCutList_62 (f_Declaration_hasCutList_2 n) a1 S) else ((f_PathTemplate_isCut a1 S).bind fun u2 => (if u2 = 0 then (f_Declaration_hasCutList_62 (f_Declaration_hasCutList_2 n) a1 S) else ((f_PathTemplate_at a1 S).bind fun u3 => ((f_Declaration_parameterOf u3 S).bind fun u4 => match u4 with | none => (f_Declaration_hasCutList_62 (f_Declaration_hasCutList_2 n) a1 S) | some k5 => gdn k5 6 ((if (S (10 + k5) 2) = 1 then (gdb 1 (some 1)) else (f_Declaration_hasCutList_62 (f_Declaration_hasCutList_2 n) a1 S))))))))))
def f_Declaration_hasCutList (S : zSt) : Option Int32 := (f_Declaration_hasCutList_2 fu 0 S)
set_option maxHeartbeats 4000000 in
set_option maxRecDepth 100000 in
theorem c_Declaration_hasCutList (l : Launch) (g : zG) (hD : GD g) (S : zSt) (u : Int32) (h : f_Declaration_hasCutList S = some u) : Met l y_Declaration_hasCutList (mw y_Declaration_hasCutList b_Declaration_hasCutList 3 (some .boolean)) (rmD 2) (Pw g [.ref (ga g 1)] S) (Qip g S u) 0 0 (gA g) := by
  refine z_go (own := R_Declaration) (lv0 := [(0, .ref (ga g 1))]) hD (by decide) rfl (Nat.le_of_ble_eq_true rfl) rfl ?_
  intro p e s m args below meth c C D ls hl
  have hx := C.1
  have hb := C.2.1
  have hown := C.2.2.2.1
  have hts := C.2.2.2.2.1
  have B62 : ∀ (K2 : Int32 → zSt → Option Int32) (hK2 : ∀ (H : Heap) (locs : List Loc) (ls : Array Slot) (a1 : Int32), K2 a1 S = some u → Dy g s S H locs → lv_has ls 3 [(0, .ref (ga g 1)), (1, .int a1)] → W p l e (rmD 2) s m args below meth c H locs 0 0 (MQ below (Qip g S u) args s 0 0 (gA g)) (F0 m 2 ls [])) (H : Heap) (locs : List Loc) (ls : Array Slot) (a1 : Int32), f_Declaration_hasCutList_62 K2 a1 S = some u → Dy g s S H locs → lv_has ls 3 [(0, .ref (ga g 1)), (1, .int a1)] → W p l e (rmD 2) s m args below meth c H locs 0 0 (MQ below (Qip g S u) args s 0 0 (gA g)) (F0 m 62 ls []) := by
    intro K2 hK2 H locs ls a1 h D hl
    unfold f_Declaration_hasCutList_62 at h
    refine lv_iinc (k := 1) (lv' := [(1, .int (a1 + 1)), (0, .ref (ga g 1))]) hx hb d_Declaration_hasCutList_62 hl rfl (ii1 _) (by decide) rfl (fun ls hl => ?_)
    refine lv_goto hx hb d_Declaration_hasCutList_65 rfl ?_
    exact hK2 _ _ _ _ h D (lv_sub hl [1, 0] rfl)
  have L2 : ∀ (n : Nat) (H : Heap) (locs : List Loc) (ls : Array Slot) (a1 : Int32), f_Declaration_hasCutList_2 n a1 S = some u → Dy g s S H locs → lv_has ls 3 [(0, .ref (ga g 1)), (1, .int a1)] → W p l e (rmD 2) s m args below meth c H locs 0 0 (MQ below (Qip g S u) args s 0 0 (gA g)) (F0 m 2 ls []) := by
    intro n
    induction n with
    | zero => intro H locs ls a1 h D hl; rw [f_Declaration_hasCutList_2] at h; cases h
    | succ n hK2 =>
      intro H locs ls a1 h D hl
      rw [f_Declaration_hasCutList_2] at h
      refine lv_iload_n hx hb d_Declaration_hasCutList_2 rfl (lv_at hl 1 rfl) ?_
      refine lv_aload_n hx hb d_Declaration_hasCutList_3 rfl (lv_at hl 0 rfl) ?_
      refine x_get (v := .ref (ga g 2)) C D kc_Declaration (by decide) sh_1 0 rfl (by decide) wf_Declaration_12 rfl rfl d_Declaration_hasCutList_4 ?_
      refine x_getN (v := .int (S 2 1)) C D kc_PathTemplate (by decide) sh_2 1 rfl (by decide) nf_Declaration_32 rfl rfl d_Declaration_hasCutList_7 ?_
      refine lv_icmp_ge hx hb d_Declaration_hasCutList_10 rfl (fun z => ?_) (fun z => ?_)
      · replace h := if_t z h
        refine lv_iconst (v := 0) hx hb d_Declaration_hasCutList_68 (by decide) ?_
        exact x_zrp C D h d_Declaration_hasCutList_69
      · replace h := if_f z h
        refine lv_aload_n hx hb d_Declaration_hasCutList_13 rfl (lv_at hl 0 rfl) ?_
        refine x_get (v := .ref (ga g 2)) C D kc_Declaration (by decide) sh_1 0 rfl (by decide) wf_Declaration_12 rfl rfl d_Declaration_hasCutList_14 ?_
        refine lv_iload_n hx hb d_Declaration_hasCutList_17 rfl (lv_at hl 1 rfl) ?_
        obtain ⟨u1, hu1, h⟩ := bd_some h
        refine x_cip (rest := []) (r_V C D (c_PathTemplate_isVariable l g hD a1 S u1 hu1) wc_PathTemplate_isVariable wm_Declaration_88 wi_PathTemplate_isVariable wd_PathTemplate_isVariable (by decide) sh_2 kc_PathTemplate.1 rfl rfl hl (Nat.le_of_ble_eq_true rfl) (by decide) d_Declaration_hasCutList_18) D (fun H locs D => ?_)
        refine lv_if_eq hx hb d_Declaration_hasCutList_21 rfl (fun z => ?_) (fun z => ?_)
        · replace h := if_t z h
          exact B62 _ hK2 _ _ _ _ h D (lv_sub hl [0, 1] rfl)
        · replace h := if_f z h
          refine lv_aload_n hx hb d_Declaration_hasCutList_24 rfl (lv_at hl 0 rfl) ?_
          refine x_get (v := .ref (ga g 2)) C D kc_Declaration (by decide) sh_1 0 rfl (by decide) wf_Declaration_12 rfl rfl d_Declaration_hasCutList_25 ?_
          refine lv_iload_n hx hb d_Declaration_hasCutList_28 rfl (lv_at hl 1 rfl) ?_
          obtain ⟨u2, hu2, h⟩ := bd_some h
          refine x_cip (rest := []) (r_V C D (c_PathTemplate_isCut l g hD a1 S u2 hu2) wc_PathTemplate_isCut wm_Declaration_104 wi_PathTemplate_isCut wd_PathTemplate_isCut (by decide) sh_2 kc_PathTemplate.1 rfl rfl hl (Nat.le_of_ble_eq_true rfl) (by decide) d_Declaration_hasCutList_29) D (fun H locs D => ?_)
          refine lv_if_eq hx hb d_Declaration_hasCutList_32 rfl (fun z => ?_) (fun z => ?_)
          · replace h := if_t z h
            exact B62 _ hK2 _ _ _ _ h D (lv_sub hl [0, 1] rfl)
          · replace h := if_f z h
            refine lv_aload_n hx hb d_Declaration_hasCutList_35 rfl (lv_at hl 0 rfl) ?_
            refine lv_aload_n hx hb d_Declaration_hasCutList_36 rfl (lv_at hl 0 rfl) ?_
            refine x_get (v := .ref (ga g 2)) C D kc_Declaration (by decide) sh_1 0 rfl (by decide) wf_Declaration_12 rfl rfl d_Declaration_hasCutList_37 ?_
            refine lv_iload_n hx hb d_Declaration_hasCutList_40 rfl (lv_at hl 1 rfl) ?_
            obtain ⟨u3, hu3, h⟩ := bd_some h
            refine x_cip (rest := [.ref (ga g 1)]) (r_V C D (c_PathTemplate_at l g hD a1 S u3 hu3) wc_PathTemplate_at wm_Declaration_92 wi_PathTemplate_at wd_PathTemplate_at (by decide) sh_2 kc_PathTemplate.1 rfl rfl hl (Nat.le_of_ble_eq_true rfl) (by decide) d_Declaration_hasCutList_41) D (fun H locs D => ?_)
            obtain ⟨u4, hu4, h⟩ := bd_some h
            refine x_cqp (rest := []) (r_V C D (c_Declaration_parameterOf l g hD u3 S u4 hu4) wc_Declaration_parameterOf wm_Declaration_96 wi_Declaration_parameterOf wd_Declaration_parameterOf (by decide) sh_1 kc_Declaration.1 rfl rfl hl (Nat.le_of_ble_eq_true rfl) (by decide) d_Declaration_hasCutList_44) D (fun H locs D => ?_)
            cases u4 with
            | none =>
              refine lv_astore_nN (lv' := [(2, .null), (0, .ref (ga g 1)), (1, .int a1)]) hx hb d_Declaration_hasCutList_47 rfl hl (by decide) rfl (fun ls hl => ?_)
              refine lv_aload_nN hx hb d_Declaration_hasCutList_48 rfl (lv_at hl 0 rfl) ?_
              refine lv_ifnullN hx hb d_Declaration_hasCutList_49 rfl ?_
              exact B62 _ hK2 _ _ _ _ h D (lv_sub hl [1, 2] rfl)
            | some k5 =>
              obtain ⟨hk5, h⟩ := gdn_some h
              refine lv_astore_n (lv' := [(2, .ref (ga g (10 + k5))), (0, .ref (ga g 1)), (1, .int a1)]) hx hb d_Declaration_hasCutList_47 rfl hl (by decide) rfl (fun ls hl => ?_)
              refine lv_aload_n hx hb d_Declaration_hasCutList_48 rfl (lv_at hl 0 rfl) ?_
              refine lv_ifnull hx hb d_Declaration_hasCutList_49 ?_
              refine lv_aload_n hx hb d_Declaration_hasCutList_52 rfl (lv_at hl 0 rfl) ?_
              refine x_getN (v := .int (S (10 + k5) 2)) C D kc_Parameter (nP hk5) (sh_P hk5) 2 rfl (by decide) nf_Declaration_82 rfl rfl d_Declaration_hasCutList_53 ?_
              refine lv_iconst (v := 1) hx hb d_Declaration_hasCutList_56 (by decide) ?_
              refine lv_icmp_ne hx hb d_Declaration_hasCutList_57 rfl (fun z => ?_) (fun z => ?_)
              · replace h := if_f z h
                exact B62 _ hK2 _ _ _ _ h D (lv_sub hl [1, 2] rfl)
              · replace h := if_t z h
                refine lv_iconst (v := 1) hx hb d_Declaration_hasCutList_60 (by decide) ?_
                exact x_zrp C D h d_Declaration_hasCutList_61
  unfold f_Declaration_hasCutList at h
  refine lv_iconst (v := 0) hx hb d_Declaration_hasCutList_0 (by decide) ?_
  refine lv_istore_n (lv' := [(1, .int 0), (0, .ref (ga g 1))]) hx hb d_Declaration_hasCutList_1 rfl hl (by decide) rfl (fun ls hl => ?_)
  exact L2 _ _ _ _ _ h D (lv_sub hl [1, 0] rfl)
theorem d_Declaration_argumentFault_0 : decode b_Declaration_argumentFault 0 = .ok (.iconst 0, 1) := by decide +kernel
theorem d_Declaration_argumentFault_1 : decode b_Declaration_argumentFault 1 = .ok (.istore_n 1, 1) := by decide +kernel
theorem d_Declaration_argumentFault_2 : decode b_Declaration_argumentFault 2 = .ok (.iload_n 1, 1) := by decide +kernel
theorem d_Declaration_argumentFault_3 : decode b_Declaration_argumentFault 3 = .ok (.aload_n 0, 1) := by decide +kernel
theorem d_Declaration_argumentFault_4 : decode b_Declaration_argumentFault 4 = .ok (.getfield 24, 3) := by decide +kernel
theorem d_Declaration_argumentFault_7 : decode b_Declaration_argumentFault 7 = .ok (.if_icmp .ge 24, 3) := by decide +kernel
theorem d_Declaration_argumentFault_10 : decode b_Declaration_argumentFault 10 = .ok (.aload_n 0, 1) := by decide +kernel
theorem d_Declaration_argumentFault_11 : decode b_Declaration_argumentFault 11 = .ok (.getfield 20, 3) := by decide +kernel
theorem d_Declaration_argumentFault_14 : decode b_Declaration_argumentFault 14 = .ok (.iload_n 1, 1) := by decide +kernel
theorem d_Declaration_argumentFault_15 : decode b_Declaration_argumentFault 15 = .ok (.aaload, 1) := by decide +kernel
theorem d_Declaration_argumentFault_16 : decode b_Declaration_argumentFault 16 = .ok (.invokevirtual 79, 3) := by decide +kernel
theorem d_Declaration_argumentFault_19 : decode b_Declaration_argumentFault 19 = .ok (.ifCond .eq 6, 3) := by decide +kernel
theorem d_Declaration_argumentFault_22 : decode b_Declaration_argumentFault 22 = .ok (.bipush (-8), 2) := by decide +kernel
theorem d_Declaration_argumentFault_24 : decode b_Declaration_argumentFault 24 = .ok (.ireturn, 1) := by decide +kernel
theorem d_Declaration_argumentFault_25 : decode b_Declaration_argumentFault 25 = .ok (.iinc 1 1, 3) := by decide +kernel
theorem d_Declaration_argumentFault_28 : decode b_Declaration_argumentFault 28 = .ok (.goto (-26), 3) := by decide +kernel
theorem d_Declaration_argumentFault_31 : decode b_Declaration_argumentFault 31 = .ok (.iconst 0, 1) := by decide +kernel
theorem d_Declaration_argumentFault_32 : decode b_Declaration_argumentFault 32 = .ok (.istore_n 1, 1) := by decide +kernel
theorem d_Declaration_argumentFault_33 : decode b_Declaration_argumentFault 33 = .ok (.iload_n 1, 1) := by decide +kernel
theorem d_Declaration_argumentFault_34 : decode b_Declaration_argumentFault 34 = .ok (.aload_n 0, 1) := by decide +kernel
theorem d_Declaration_argumentFault_35 : decode b_Declaration_argumentFault 35 = .ok (.getfield 24, 3) := by decide +kernel
theorem d_Declaration_argumentFault_38 : decode b_Declaration_argumentFault 38 = .ok (.if_icmp .ge 37, 3) := by decide +kernel
theorem d_Declaration_argumentFault_41 : decode b_Declaration_argumentFault 41 = .ok (.aload_n 0, 1) := by decide +kernel
theorem d_Declaration_argumentFault_42 : decode b_Declaration_argumentFault 42 = .ok (.getfield 20, 3) := by decide +kernel
theorem d_Declaration_argumentFault_45 : decode b_Declaration_argumentFault 45 = .ok (.iload_n 1, 1) := by decide +kernel
theorem d_Declaration_argumentFault_46 : decode b_Declaration_argumentFault 46 = .ok (.aaload, 1) := by decide +kernel
theorem d_Declaration_argumentFault_47 : decode b_Declaration_argumentFault 47 = .ok (.getfield 82, 3) := by decide +kernel
theorem d_Declaration_argumentFault_50 : decode b_Declaration_argumentFault 50 = .ok (.iconst 3, 1) := by decide +kernel
theorem d_Declaration_argumentFault_51 : decode b_Declaration_argumentFault 51 = .ok (.if_icmp .ne 18, 3) := by decide +kernel
theorem d_Declaration_argumentFault_54 : decode b_Declaration_argumentFault 54 = .ok (.aload_n 0, 1) := by decide +kernel
theorem d_Declaration_argumentFault_55 : decode b_Declaration_argumentFault 55 = .ok (.getfield 20, 3) := by decide +kernel
theorem d_Declaration_argumentFault_58 : decode b_Declaration_argumentFault 58 = .ok (.iload_n 1, 1) := by decide +kernel
theorem d_Declaration_argumentFault_59 : decode b_Declaration_argumentFault 59 = .ok (.aaload, 1) := by decide +kernel
theorem d_Declaration_argumentFault_60 : decode b_Declaration_argumentFault 60 = .ok (.invokevirtual 85, 3) := by decide +kernel
theorem d_Declaration_argumentFault_63 : decode b_Declaration_argumentFault 63 = .ok (.ifCond .ne 6, 3) := by decide +kernel
theorem d_Declaration_argumentFault_66 : decode b_Declaration_argumentFault 66 = .ok (.bipush (-9), 2) := by decide +kernel
theorem d_Declaration_argumentFault_68 : decode b_Declaration_argumentFault 68 = .ok (.ireturn, 1) := by decide +kernel
theorem d_Declaration_argumentFault_69 : decode b_Declaration_argumentFault 69 = .ok (.iinc 1 1, 3) := by decide +kernel
theorem d_Declaration_argumentFault_72 : decode b_Declaration_argumentFault 72 = .ok (.goto (-39), 3) := by decide +kernel
theorem d_Declaration_argumentFault_75 : decode b_Declaration_argumentFault 75 = .ok (.iconst 0, 1) := by decide +kernel
theorem d_Declaration_argumentFault_76 : decode b_Declaration_argumentFault 76 = .ok (.ireturn, 1) := by decide +kernel
def f_Declaration_argumentFault_69 (K33 : Int32 → zSt → Option Int32) (a1 : Int32) (S : zSt) : Option Int32 := (K33 (a1 + 1) S)
def f_Declaration_argumentFault_33 : Nat → Int32 → zSt → Option Int32
  | 0, _, _ => none
  | n + 1, a1, S => (if (S 1 2) ≤ a1 then (some 0) else gdi a1 6 ((if (S (10 + a1.toNatClampNeg) 2) = 3 then gdi a1 6 (((f_Parameter_fitsHeader a1.toNatClampNeg S).bind fun u3 => (if u3 = 0 then (some (-9)) else (f_Declaration_argumentFault_69 (f_Declaration_argumentFault_33 n) a1 S)))) else (f_Declaration_argumentFault_69 (f_Declaration_argumentFault_33 n) a1 S))))
def f_Declaration_argumentFault_2 : Nat → Int32 → zSt → Option Int32
  | 0, _, _ => none
  | n + 1, a1, S => (if (S 1 2) ≤ a1 then (f_Declaration_argumentFault_33 fu 0 S) else gdi a1 6 (((f_Parameter_hasLone a1.toNatClampNeg S).bind fun u5 => (if u5 = 0 then ((f_Declaration_argumentFault_2 n) (a1 + 1) S) else (some (-8))))))
def f_Declaration_argumentFault (S : zSt) : Option Int32 := (f_Declaration_argumentFault_2 fu 0 S)
set_option maxHeartbeats 4000000 in
set_option maxRecDepth 100000 in
theorem c_Declaration_argumentFault (l : Launch) (g : zG) (hD : GD g) (S : zSt) (u : Int32) (h : f_Declaration_argumentFault S = some u) : Met l y_Declaration_argumentFault (mw y_Declaration_argumentFault b_Declaration_argumentFault 2 (some .int)) (rmD 3) (Pw g [.ref (ga g 1)] S) (Qip g S u) 0 0 (gA g) := by
  refine z_go (own := R_Declaration) (lv0 := [(0, .ref (ga g 1))]) hD (by decide) rfl (Nat.le_of_ble_eq_true rfl) rfl ?_
  intro p e s m args below meth c C D ls hl
  have hx := C.1
  have hb := C.2.1
  have hown := C.2.2.2.1
  have hts := C.2.2.2.2.1
  have B69 : ∀ (K33 : Int32 → zSt → Option Int32) (hK33 : ∀ (H : Heap) (locs : List Loc) (ls : Array Slot) (a1 : Int32), K33 a1 S = some u → Dy g s S H locs → lv_has ls 2 [(0, .ref (ga g 1)), (1, .int a1)] → W p l e (rmD 3) s m args below meth c H locs 0 0 (MQ below (Qip g S u) args s 0 0 (gA g)) (F0 m 33 ls [])) (H : Heap) (locs : List Loc) (ls : Array Slot) (a1 : Int32), f_Declaration_argumentFault_69 K33 a1 S = some u → Dy g s S H locs → lv_has ls 2 [(0, .ref (ga g 1)), (1, .int a1)] → W p l e (rmD 3) s m args below meth c H locs 0 0 (MQ below (Qip g S u) args s 0 0 (gA g)) (F0 m 69 ls []) := by
    intro K33 hK33 H locs ls a1 h D hl
    unfold f_Declaration_argumentFault_69 at h
    refine lv_iinc (k := 1) (lv' := [(1, .int (a1 + 1)), (0, .ref (ga g 1))]) hx hb d_Declaration_argumentFault_69 hl rfl (ii1 _) (by decide) rfl (fun ls hl => ?_)
    refine lv_goto hx hb d_Declaration_argumentFault_72 rfl ?_
    exact hK33 _ _ _ _ h D (lv_sub hl [1, 0] rfl)
  have L33 : ∀ (n : Nat) (H : Heap) (locs : List Loc) (ls : Array Slot) (a1 : Int32), f_Declaration_argumentFault_33 n a1 S = some u → Dy g s S H locs → lv_has ls 2 [(0, .ref (ga g 1)), (1, .int a1)] → W p l e (rmD 3) s m args below meth c H locs 0 0 (MQ below (Qip g S u) args s 0 0 (gA g)) (F0 m 33 ls []) := by
    intro n
    induction n with
    | zero => intro H locs ls a1 h D hl; rw [f_Declaration_argumentFault_33] at h; cases h
    | succ n hK33 =>
      intro H locs ls a1 h D hl
      rw [f_Declaration_argumentFault_33] at h
      refine lv_iload_n hx hb d_Declaration_argumentFault_33 rfl (lv_at hl 1 rfl) ?_
      refine lv_aload_n hx hb d_Declaration_argumentFault_34 rfl (lv_at hl 0 rfl) ?_
      refine x_get (v := .int (S 1 2)) C D kc_Declaration (by decide) sh_1 2 rfl (by decide) wf_Declaration_24 rfl rfl d_Declaration_argumentFault_35 ?_
      refine lv_icmp_ge hx hb d_Declaration_argumentFault_38 rfl (fun z => ?_) (fun z => ?_)
      · replace h := if_t z h
        refine lv_iconst (v := 0) hx hb d_Declaration_argumentFault_75 (by decide) ?_
        exact x_irp C D h d_Declaration_argumentFault_76
      · replace h := if_f z h
        refine lv_aload_n hx hb d_Declaration_argumentFault_41 rfl (lv_at hl 0 rfl) ?_
        refine x_get (v := .ref (ga g 4)) C D kc_Declaration (by decide) sh_1 1 rfl (by decide) wf_Declaration_20 rfl rfl d_Declaration_argumentFault_42 ?_
        refine lv_iload_n hx hb d_Declaration_argumentFault_45 rfl (lv_at hl 1 rfl) ?_
        refine x_aald3 C D (by decide) sh_4 d_Declaration_argumentFault_46 h (fun q1 h => ?_)
        refine x_getN (v := .int (S (10 + a1.toNatClampNeg) 2)) C D kc_Parameter (nP q1) (sh_P q1) 2 rfl (by decide) nf_Declaration_82 rfl rfl d_Declaration_argumentFault_47 ?_
        refine lv_iconst (v := 3) hx hb d_Declaration_argumentFault_50 (by decide) ?_
        refine lv_icmp_ne hx hb d_Declaration_argumentFault_51 rfl (fun z => ?_) (fun z => ?_)
        · replace h := if_f z h
          exact B69 _ hK33 _ _ _ _ h D (lv_sub hl [0, 1] rfl)
        · replace h := if_t z h
          refine lv_aload_n hx hb d_Declaration_argumentFault_54 rfl (lv_at hl 0 rfl) ?_
          refine x_get (v := .ref (ga g 4)) C D kc_Declaration (by decide) sh_1 1 rfl (by decide) wf_Declaration_20 rfl rfl d_Declaration_argumentFault_55 ?_
          refine lv_iload_n hx hb d_Declaration_argumentFault_58 rfl (lv_at hl 1 rfl) ?_
          refine x_aald3 C D (by decide) sh_4 d_Declaration_argumentFault_59 h (fun q2 h => ?_)
          obtain ⟨u3, hu3, h⟩ := bd_some h
          refine x_cip (rest := []) (r_V C D (c_Parameter_fitsHeader l g hD a1.toNatClampNeg q2 S u3 hu3) wc_Parameter_fitsHeader wm_Declaration_85 wi_Parameter_fitsHeader wd_Parameter_fitsHeader (nP q2) (sh_P q2) kc_Parameter.1 rfl rfl hl (Nat.le_of_ble_eq_true rfl) (by decide) d_Declaration_argumentFault_60) D (fun H locs D => ?_)
          refine lv_if_ne hx hb d_Declaration_argumentFault_63 rfl (fun z => ?_) (fun z => ?_)
          · replace h := if_f z h
            exact B69 _ hK33 _ _ _ _ h D (lv_sub hl [0, 1] rfl)
          · replace h := if_t z h
            refine lv_bipush (v := (-9)) hx hb d_Declaration_argumentFault_66 (by decide) ?_
            exact x_irp C D h d_Declaration_argumentFault_68
  have L2 : ∀ (n : Nat) (H : Heap) (locs : List Loc) (ls : Array Slot) (a1 : Int32), f_Declaration_argumentFault_2 n a1 S = some u → Dy g s S H locs → lv_has ls 2 [(0, .ref (ga g 1)), (1, .int a1)] → W p l e (rmD 3) s m args below meth c H locs 0 0 (MQ below (Qip g S u) args s 0 0 (gA g)) (F0 m 2 ls []) := by
    intro n
    induction n with
    | zero => intro H locs ls a1 h D hl; rw [f_Declaration_argumentFault_2] at h; cases h
    | succ n hK2 =>
      intro H locs ls a1 h D hl
      rw [f_Declaration_argumentFault_2] at h
      refine lv_iload_n hx hb d_Declaration_argumentFault_2 rfl (lv_at hl 1 rfl) ?_
      refine lv_aload_n hx hb d_Declaration_argumentFault_3 rfl (lv_at hl 0 rfl) ?_
      refine x_get (v := .int (S 1 2)) C D kc_Declaration (by decide) sh_1 2 rfl (by decide) wf_Declaration_24 rfl rfl d_Declaration_argumentFault_4 ?_
      refine lv_icmp_ge hx hb d_Declaration_argumentFault_7 rfl (fun z => ?_) (fun z => ?_)
      · replace h := if_t z h
        refine lv_iconst (v := 0) hx hb d_Declaration_argumentFault_31 (by decide) ?_
        refine lv_istore_n (lv' := [(1, .int 0), (0, .ref (ga g 1))]) hx hb d_Declaration_argumentFault_32 rfl hl (by decide) rfl (fun ls hl => ?_)
        exact L33 _ _ _ _ _ h D (lv_sub hl [1, 0] rfl)
      · replace h := if_f z h
        refine lv_aload_n hx hb d_Declaration_argumentFault_10 rfl (lv_at hl 0 rfl) ?_
        refine x_get (v := .ref (ga g 4)) C D kc_Declaration (by decide) sh_1 1 rfl (by decide) wf_Declaration_20 rfl rfl d_Declaration_argumentFault_11 ?_
        refine lv_iload_n hx hb d_Declaration_argumentFault_14 rfl (lv_at hl 1 rfl) ?_
        refine x_aald3 C D (by decide) sh_4 d_Declaration_argumentFault_15 h (fun q4 h => ?_)
        obtain ⟨u5, hu5, h⟩ := bd_some h
        refine x_cip (rest := []) (r_V C D (c_Parameter_hasLone l g hD a1.toNatClampNeg q4 S u5 hu5) wc_Parameter_hasLone wm_Declaration_79 wi_Parameter_hasLone wd_Parameter_hasLone (nP q4) (sh_P q4) kc_Parameter.1 rfl rfl hl (Nat.le_of_ble_eq_true rfl) (by decide) d_Declaration_argumentFault_16) D (fun H locs D => ?_)
        refine lv_if_eq hx hb d_Declaration_argumentFault_19 rfl (fun z => ?_) (fun z => ?_)
        · replace h := if_t z h
          refine lv_iinc (k := 1) (lv' := [(1, .int (a1 + 1)), (0, .ref (ga g 1))]) hx hb d_Declaration_argumentFault_25 hl rfl (ii1 _) (by decide) rfl (fun ls hl => ?_)
          refine lv_goto hx hb d_Declaration_argumentFault_28 rfl ?_
          exact hK2 _ _ _ _ h D (lv_sub hl [1, 0] rfl)
        · replace h := if_f z h
          refine lv_bipush (v := (-8)) hx hb d_Declaration_argumentFault_22 (by decide) ?_
          exact x_irp C D h d_Declaration_argumentFault_24
  unfold f_Declaration_argumentFault at h
  refine lv_iconst (v := 0) hx hb d_Declaration_argumentFault_0 (by decide) ?_
  refine lv_istore_n (lv' := [(1, .int 0), (0, .ref (ga g 1))]) hx hb d_Declaration_argumentFault_1 rfl hl (by decide) rfl (fun ls hl => ?_)
  exact L2 _ _ _ _ _ h D (lv_sub hl [1, 0] rfl)
theorem d_Declaration_hasUnusedParameter_0 : decode b_Declaration_hasUnusedParameter 0 = .ok (.iconst 0, 1) := by decide +kernel
theorem d_Declaration_hasUnusedParameter_1 : decode b_Declaration_hasUnusedParameter 1 = .ok (.istore_n 1, 1) := by decide +kernel
theorem d_Declaration_hasUnusedParameter_2 : decode b_Declaration_hasUnusedParameter 2 = .ok (.iload_n 1, 1) := by decide +kernel
theorem d_Declaration_hasUnusedParameter_3 : decode b_Declaration_hasUnusedParameter 3 = .ok (.aload_n 0, 1) := by decide +kernel
theorem d_Declaration_hasUnusedParameter_4 : decode b_Declaration_hasUnusedParameter 4 = .ok (.getfield 24, 3) := by decide +kernel
theorem d_Declaration_hasUnusedParameter_7 : decode b_Declaration_hasUnusedParameter 7 = .ok (.if_icmp .ge 39, 3) := by decide +kernel
theorem d_Declaration_hasUnusedParameter_10 : decode b_Declaration_hasUnusedParameter 10 = .ok (.aload_n 0, 1) := by decide +kernel
theorem d_Declaration_hasUnusedParameter_11 : decode b_Declaration_hasUnusedParameter 11 = .ok (.getfield 20, 3) := by decide +kernel
theorem d_Declaration_hasUnusedParameter_14 : decode b_Declaration_hasUnusedParameter 14 = .ok (.iload_n 1, 1) := by decide +kernel
theorem d_Declaration_hasUnusedParameter_15 : decode b_Declaration_hasUnusedParameter 15 = .ok (.aaload, 1) := by decide +kernel
theorem d_Declaration_hasUnusedParameter_16 : decode b_Declaration_hasUnusedParameter 16 = .ok (.invokevirtual 49, 3) := by decide +kernel
theorem d_Declaration_hasUnusedParameter_19 : decode b_Declaration_hasUnusedParameter 19 = .ok (.ifCond .eq 21, 3) := by decide +kernel
theorem d_Declaration_hasUnusedParameter_22 : decode b_Declaration_hasUnusedParameter 22 = .ok (.aload_n 0, 1) := by decide +kernel
theorem d_Declaration_hasUnusedParameter_23 : decode b_Declaration_hasUnusedParameter 23 = .ok (.aload_n 0, 1) := by decide +kernel
theorem d_Declaration_hasUnusedParameter_24 : decode b_Declaration_hasUnusedParameter 24 = .ok (.getfield 20, 3) := by decide +kernel
theorem d_Declaration_hasUnusedParameter_27 : decode b_Declaration_hasUnusedParameter 27 = .ok (.iload_n 1, 1) := by decide +kernel
theorem d_Declaration_hasUnusedParameter_28 : decode b_Declaration_hasUnusedParameter 28 = .ok (.aaload, 1) := by decide +kernel
theorem d_Declaration_hasUnusedParameter_29 : decode b_Declaration_hasUnusedParameter 29 = .ok (.getfield 53, 3) := by decide +kernel
theorem d_Declaration_hasUnusedParameter_32 : decode b_Declaration_hasUnusedParameter 32 = .ok (.invokevirtual 100, 3) := by decide +kernel
theorem d_Declaration_hasUnusedParameter_35 : decode b_Declaration_hasUnusedParameter 35 = .ok (.ifCond .ne 5, 3) := by decide +kernel
theorem d_Declaration_hasUnusedParameter_38 : decode b_Declaration_hasUnusedParameter 38 = .ok (.iconst 1, 1) := by decide +kernel
theorem d_Declaration_hasUnusedParameter_39 : decode b_Declaration_hasUnusedParameter 39 = .ok (.ireturn, 1) := by decide +kernel
theorem d_Declaration_hasUnusedParameter_40 : decode b_Declaration_hasUnusedParameter 40 = .ok (.iinc 1 1, 3) := by decide +kernel
theorem d_Declaration_hasUnusedParameter_43 : decode b_Declaration_hasUnusedParameter 43 = .ok (.goto (-41), 3) := by decide +kernel
theorem d_Declaration_hasUnusedParameter_46 : decode b_Declaration_hasUnusedParameter 46 = .ok (.iconst 0, 1) := by decide +kernel
theorem d_Declaration_hasUnusedParameter_47 : decode b_Declaration_hasUnusedParameter 47 = .ok (.ireturn, 1) := by decide +kernel
def f_Declaration_hasUnusedParameter_40 (K2 : Int32 → zSt → Option Int32) (a1 : Int32) (S : zSt) : Option Int32 := (K2 (a1 + 1) S)
def f_Declaration_hasUnusedParameter_2 : Nat → Int32 → zSt → Option Int32
  | 0, _, _ => none
  | n + 1, a1, S => (if (S 1 2) ≤ a1 then (gdb 0 (some 0)) else gdi a1 6 (((f_Parameter_isInPath a1.toNatClampNeg S).bind fun u2 => (if u2 = 0 then (f_Declaration_hasUnusedParameter_40 (f_Declaration_hasUnusedParameter_2 n) a1 S) else gdi a1 6 (((f_Declaration_hasVariable (S (10 + a1.toNatClampNeg) 3) S).bind fun u4 => (if u4 = 0 then (gdb 1 (some 1)) else (f_Declaration_hasUnusedParameter_40 (f_Declaration_hasUnusedParameter_2 n) a1 S))))))))
def f_Declaration_hasUnusedParameter (S : zSt) : Option Int32 := (f_Declaration_hasUnusedParameter_2 fu 0 S)
set_option maxHeartbeats 4000000 in
set_option maxRecDepth 100000 in
theorem c_Declaration_hasUnusedParameter (l : Launch) (g : zG) (hD : GD g) (S : zSt) (u : Int32) (h : f_Declaration_hasUnusedParameter S = some u) : Met l y_Declaration_hasUnusedParameter (mw y_Declaration_hasUnusedParameter b_Declaration_hasUnusedParameter 2 (some .boolean)) (rmD 3) (Pw g [.ref (ga g 1)] S) (Qip g S u) 0 0 (gA g) := by
  refine z_go (own := R_Declaration) (lv0 := [(0, .ref (ga g 1))]) hD (by decide) rfl (Nat.le_of_ble_eq_true rfl) rfl ?_
  intro p e s m args below meth c C D ls hl
  have hx := C.1
  have hb := C.2.1
  have hown := C.2.2.2.1
  have hts := C.2.2.2.2.1
  have B40 : ∀ (K2 : Int32 → zSt → Option Int32) (hK2 : ∀ (H : Heap) (locs : List Loc) (ls : Array Slot) (a1 : Int32), K2 a1 S = some u → Dy g s S H locs → lv_has ls 2 [(0, .ref (ga g 1)), (1, .int a1)] → W p l e (rmD 3) s m args below meth c H locs 0 0 (MQ below (Qip g S u) args s 0 0 (gA g)) (F0 m 2 ls [])) (H : Heap) (locs : List Loc) (ls : Array Slot) (a1 : Int32), f_Declaration_hasUnusedParameter_40 K2 a1 S = some u → Dy g s S H locs → lv_has ls 2 [(0, .ref (ga g 1)), (1, .int a1)] → W p l e (rmD 3) s m args below meth c H locs 0 0 (MQ below (Qip g S u) args s 0 0 (gA g)) (F0 m 40 ls []) := by
    intro K2 hK2 H locs ls a1 h D hl
    unfold f_Declaration_hasUnusedParameter_40 at h
    refine lv_iinc (k := 1) (lv' := [(1, .int (a1 + 1)), (0, .ref (ga g 1))]) hx hb d_Declaration_hasUnusedParameter_40 hl rfl (ii1 _) (by decide) rfl (fun ls hl => ?_)
    refine lv_goto hx hb d_Declaration_hasUnusedParameter_43 rfl ?_
    exact hK2 _ _ _ _ h D (lv_sub hl [1, 0] rfl)
  have L2 : ∀ (n : Nat) (H : Heap) (locs : List Loc) (ls : Array Slot) (a1 : Int32), f_Declaration_hasUnusedParameter_2 n a1 S = some u → Dy g s S H locs → lv_has ls 2 [(0, .ref (ga g 1)), (1, .int a1)] → W p l e (rmD 3) s m args below meth c H locs 0 0 (MQ below (Qip g S u) args s 0 0 (gA g)) (F0 m 2 ls []) := by
    intro n
    induction n with
    | zero => intro H locs ls a1 h D hl; rw [f_Declaration_hasUnusedParameter_2] at h; cases h
    | succ n hK2 =>
      intro H locs ls a1 h D hl
      rw [f_Declaration_hasUnusedParameter_2] at h
      refine lv_iload_n hx hb d_Declaration_hasUnusedParameter_2 rfl (lv_at hl 1 rfl) ?_
      refine lv_aload_n hx hb d_Declaration_hasUnusedParameter_3 rfl (lv_at hl 0 rfl) ?_
      refine x_get (v := .int (S 1 2)) C D kc_Declaration (by decide) sh_1 2 rfl (by decide) wf_Declaration_24 rfl rfl d_Declaration_hasUnusedParameter_4 ?_
      refine lv_icmp_ge hx hb d_Declaration_hasUnusedParameter_7 rfl (fun z => ?_) (fun z => ?_)
      · replace h := if_t z h
        refine lv_iconst (v := 0) hx hb d_Declaration_hasUnusedParameter_46 (by decide) ?_
        exact x_zrp C D h d_Declaration_hasUnusedParameter_47
      · replace h := if_f z h
        refine lv_aload_n hx hb d_Declaration_hasUnusedParameter_10 rfl (lv_at hl 0 rfl) ?_
        refine x_get (v := .ref (ga g 4)) C D kc_Declaration (by decide) sh_1 1 rfl (by decide) wf_Declaration_20 rfl rfl d_Declaration_hasUnusedParameter_11 ?_
        refine lv_iload_n hx hb d_Declaration_hasUnusedParameter_14 rfl (lv_at hl 1 rfl) ?_
        refine x_aald3 C D (by decide) sh_4 d_Declaration_hasUnusedParameter_15 h (fun q1 h => ?_)
        obtain ⟨u2, hu2, h⟩ := bd_some h
        refine x_cip (rest := []) (r_V C D (c_Parameter_isInPath l g hD a1.toNatClampNeg q1 S u2 hu2) wc_Parameter_isInPath wm_Declaration_49 wi_Parameter_isInPath wd_Parameter_isInPath (nP q1) (sh_P q1) kc_Parameter.1 rfl rfl hl (Nat.le_of_ble_eq_true rfl) (by decide) d_Declaration_hasUnusedParameter_16) D (fun H locs D => ?_)
        refine lv_if_eq hx hb d_Declaration_hasUnusedParameter_19 rfl (fun z => ?_) (fun z => ?_)
        · replace h := if_t z h
          exact B40 _ hK2 _ _ _ _ h D (lv_sub hl [0, 1] rfl)
        · replace h := if_f z h
          refine lv_aload_n hx hb d_Declaration_hasUnusedParameter_22 rfl (lv_at hl 0 rfl) ?_
          refine lv_aload_n hx hb d_Declaration_hasUnusedParameter_23 rfl (lv_at hl 0 rfl) ?_
          refine x_get (v := .ref (ga g 4)) C D kc_Declaration (by decide) sh_1 1 rfl (by decide) wf_Declaration_20 rfl rfl d_Declaration_hasUnusedParameter_24 ?_
          refine lv_iload_n hx hb d_Declaration_hasUnusedParameter_27 rfl (lv_at hl 1 rfl) ?_
          refine x_aald3 C D (by decide) sh_4 d_Declaration_hasUnusedParameter_28 h (fun q3 h => ?_)
          refine x_getN (v := .int (S (10 + a1.toNatClampNeg) 3)) C D kc_Parameter (nP q3) (sh_P q3) 3 rfl (by decide) nf_Declaration_53 rfl rfl d_Declaration_hasUnusedParameter_29 ?_
          obtain ⟨u4, hu4, h⟩ := bd_some h
          refine x_cip (rest := []) (r_V C D (c_Declaration_hasVariable l g hD (S (10 + a1.toNatClampNeg) 3) S u4 hu4) wc_Declaration_hasVariable wm_Declaration_100 wi_Declaration_hasVariable wd_Declaration_hasVariable (by decide) sh_1 kc_Declaration.1 rfl rfl hl (Nat.le_of_ble_eq_true rfl) (by decide) d_Declaration_hasUnusedParameter_32) D (fun H locs D => ?_)
          refine lv_if_ne hx hb d_Declaration_hasUnusedParameter_35 rfl (fun z => ?_) (fun z => ?_)
          · replace h := if_f z h
            exact B40 _ hK2 _ _ _ _ h D (lv_sub hl [0, 1] rfl)
          · replace h := if_t z h
            refine lv_iconst (v := 1) hx hb d_Declaration_hasUnusedParameter_38 (by decide) ?_
            exact x_zrp C D h d_Declaration_hasUnusedParameter_39
  unfold f_Declaration_hasUnusedParameter at h
  refine lv_iconst (v := 0) hx hb d_Declaration_hasUnusedParameter_0 (by decide) ?_
  refine lv_istore_n (lv' := [(1, .int 0), (0, .ref (ga g 1))]) hx hb d_Declaration_hasUnusedParameter_1 rfl hl (by decide) rfl (fun ls hl => ?_)
  exact L2 _ _ _ _ _ h D (lv_sub hl [1, 0] rfl)
theorem d_Declaration_fault_0 : decode b_Declaration_fault 0 = .ok (.aload_n 0, 1) := by decide +kernel
theorem d_Declaration_fault_1 : decode b_Declaration_fault 1 = .ok (.getfield 12, 3) := by decide +kernel
theorem d_Declaration_fault_4 : decode b_Declaration_fault 4 = .ok (.invokevirtual 57, 3) := by decide +kernel
theorem d_Declaration_fault_7 : decode b_Declaration_fault 7 = .ok (.ifCond .ne 5, 3) := by decide +kernel
theorem d_Declaration_fault_10 : decode b_Declaration_fault 10 = .ok (.iconst (-1), 1) := by decide +kernel
theorem d_Declaration_fault_11 : decode b_Declaration_fault 11 = .ok (.ireturn, 1) := by decide +kernel
theorem d_Declaration_fault_12 : decode b_Declaration_fault 12 = .ok (.aload_n 0, 1) := by decide +kernel
theorem d_Declaration_fault_13 : decode b_Declaration_fault 13 = .ok (.invokevirtual 60, 3) := by decide +kernel
theorem d_Declaration_fault_16 : decode b_Declaration_fault 16 = .ok (.ifCond .eq 6, 3) := by decide +kernel
theorem d_Declaration_fault_19 : decode b_Declaration_fault 19 = .ok (.bipush (-2), 2) := by decide +kernel
theorem d_Declaration_fault_21 : decode b_Declaration_fault 21 = .ok (.ireturn, 1) := by decide +kernel
theorem d_Declaration_fault_22 : decode b_Declaration_fault 22 = .ok (.aload_n 0, 1) := by decide +kernel
theorem d_Declaration_fault_23 : decode b_Declaration_fault 23 = .ok (.invokevirtual 63, 3) := by decide +kernel
theorem d_Declaration_fault_26 : decode b_Declaration_fault 26 = .ok (.ifCond .eq 6, 3) := by decide +kernel
theorem d_Declaration_fault_29 : decode b_Declaration_fault 29 = .ok (.bipush (-3), 2) := by decide +kernel
theorem d_Declaration_fault_31 : decode b_Declaration_fault 31 = .ok (.ireturn, 1) := by decide +kernel
theorem d_Declaration_fault_32 : decode b_Declaration_fault 32 = .ok (.aload_n 0, 1) := by decide +kernel
theorem d_Declaration_fault_33 : decode b_Declaration_fault 33 = .ok (.invokevirtual 66, 3) := by decide +kernel
theorem d_Declaration_fault_36 : decode b_Declaration_fault 36 = .ok (.ifCond .eq 6, 3) := by decide +kernel
theorem d_Declaration_fault_39 : decode b_Declaration_fault 39 = .ok (.bipush (-4), 2) := by decide +kernel
theorem d_Declaration_fault_41 : decode b_Declaration_fault 41 = .ok (.ireturn, 1) := by decide +kernel
theorem d_Declaration_fault_42 : decode b_Declaration_fault 42 = .ok (.aload_n 0, 1) := by decide +kernel
theorem d_Declaration_fault_43 : decode b_Declaration_fault 43 = .ok (.invokevirtual 69, 3) := by decide +kernel
theorem d_Declaration_fault_46 : decode b_Declaration_fault 46 = .ok (.ifCond .eq 6, 3) := by decide +kernel
theorem d_Declaration_fault_49 : decode b_Declaration_fault 49 = .ok (.bipush (-5), 2) := by decide +kernel
theorem d_Declaration_fault_51 : decode b_Declaration_fault 51 = .ok (.ireturn, 1) := by decide +kernel
theorem d_Declaration_fault_52 : decode b_Declaration_fault 52 = .ok (.aload_n 0, 1) := by decide +kernel
theorem d_Declaration_fault_53 : decode b_Declaration_fault 53 = .ok (.iconst 5, 1) := by decide +kernel
theorem d_Declaration_fault_54 : decode b_Declaration_fault 54 = .ok (.invokevirtual 72, 3) := by decide +kernel
theorem d_Declaration_fault_57 : decode b_Declaration_fault 57 = .ok (.istore_n 1, 1) := by decide +kernel
theorem d_Declaration_fault_58 : decode b_Declaration_fault 58 = .ok (.aload_n 0, 1) := by decide +kernel
theorem d_Declaration_fault_59 : decode b_Declaration_fault 59 = .ok (.iconst 4, 1) := by decide +kernel
theorem d_Declaration_fault_60 : decode b_Declaration_fault 60 = .ok (.invokevirtual 72, 3) := by decide +kernel
theorem d_Declaration_fault_63 : decode b_Declaration_fault 63 = .ok (.istore_n 2, 1) := by decide +kernel
theorem d_Declaration_fault_64 : decode b_Declaration_fault 64 = .ok (.iload_n 1, 1) := by decide +kernel
theorem d_Declaration_fault_65 : decode b_Declaration_fault 65 = .ok (.iconst 1, 1) := by decide +kernel
theorem d_Declaration_fault_66 : decode b_Declaration_fault 66 = .ok (.if_icmp .gt 11, 3) := by decide +kernel
theorem d_Declaration_fault_69 : decode b_Declaration_fault 69 = .ok (.iload_n 1, 1) := by decide +kernel
theorem d_Declaration_fault_70 : decode b_Declaration_fault 70 = .ok (.ifCond .le 10, 3) := by decide +kernel
theorem d_Declaration_fault_73 : decode b_Declaration_fault 73 = .ok (.iload_n 2, 1) := by decide +kernel
theorem d_Declaration_fault_74 : decode b_Declaration_fault 74 = .ok (.ifCond .le 6, 3) := by decide +kernel
theorem d_Declaration_fault_77 : decode b_Declaration_fault 77 = .ok (.bipush (-6), 2) := by decide +kernel
theorem d_Declaration_fault_79 : decode b_Declaration_fault 79 = .ok (.ireturn, 1) := by decide +kernel
theorem d_Declaration_fault_80 : decode b_Declaration_fault 80 = .ok (.iload_n 1, 1) := by decide +kernel
theorem d_Declaration_fault_81 : decode b_Declaration_fault 81 = .ok (.iload_n 2, 1) := by decide +kernel
theorem d_Declaration_fault_82 : decode b_Declaration_fault 82 = .ok (.iadd, 1) := by decide +kernel
theorem d_Declaration_fault_83 : decode b_Declaration_fault 83 = .ok (.ifCond .le 15, 3) := by decide +kernel
theorem d_Declaration_fault_86 : decode b_Declaration_fault 86 = .ok (.aload_n 0, 1) := by decide +kernel
theorem d_Declaration_fault_87 : decode b_Declaration_fault 87 = .ok (.invokevirtual 76, 3) := by decide +kernel
theorem d_Declaration_fault_90 : decode b_Declaration_fault 90 = .ok (.ifCond .ne 8, 3) := by decide +kernel
theorem d_Declaration_fault_93 : decode b_Declaration_fault 93 = .ok (.bipush (-7), 2) := by decide +kernel
theorem d_Declaration_fault_95 : decode b_Declaration_fault 95 = .ok (.goto 4, 3) := by decide +kernel
theorem d_Declaration_fault_98 : decode b_Declaration_fault 98 = .ok (.iconst 0, 1) := by decide +kernel
theorem d_Declaration_fault_99 : decode b_Declaration_fault 99 = .ok (.ireturn, 1) := by decide +kernel
def f_Declaration_fault_98 (S : zSt) : Option Int32 := (some 0)
def f_Declaration_fault_80 (a1 : Int32) (a2 : Int32) (S : zSt) : Option Int32 := (if (a1 + a2) ≤ 0 then (f_Declaration_fault_98 S) else ((f_Declaration_mayHaveContent S).bind fun u8 => (if u8 = 0 then (some (-7)) else (f_Declaration_fault_98 S))))
def f_Declaration_fault (S : zSt) : Option Int32 := ((f_PathTemplate_isWellFormed S).bind fun u1 => (if u1 = 0 then (some (-1)) else ((f_Declaration_hasUnknownVariable S).bind fun u2 => (if u2 = 0 then ((f_Declaration_hasLetterTwice S).bind fun u3 => (if u3 = 0 then ((f_Declaration_hasUnusedParameter S).bind fun u4 => (if u4 = 0 then ((f_Declaration_hasCutList S).bind fun u5 => (if u5 = 0 then ((f_Declaration_countOf 5 S).bind fun u6 => ((f_Declaration_countOf 4 S).bind fun u7 => (if 1 < u6 then (some (-6)) else (if u6 ≤ 0 then (f_Declaration_fault_80 u6 u7 S) else (if u7 ≤ 0 then (f_Declaration_fault_80 u6 u7 S) else (some (-6))))))) else (some (-5)))) else (some (-4)))) else (some (-3)))) else (some (-2))))))
set_option maxHeartbeats 4000000 in
set_option maxRecDepth 100000 in
theorem c_Declaration_fault (l : Launch) (g : zG) (hD : GD g) (S : zSt) (u : Int32) (h : f_Declaration_fault S = some u) : Met l y_Declaration_fault (mw y_Declaration_fault b_Declaration_fault 3 (some .int)) (rmD 7) (Pw g [.ref (ga g 1)] S) (Qip g S u) 0 0 (gA g) := by
  refine z_go (own := R_Declaration) (lv0 := [(0, .ref (ga g 1))]) hD (by decide) rfl (Nat.le_of_ble_eq_true rfl) rfl ?_
  intro p e s m args below meth c C D ls hl
  have hx := C.1
  have hb := C.2.1
  have hown := C.2.2.2.1
  have hts := C.2.2.2.2.1
  have B98 : ∀ (H : Heap) (locs : List Loc) (ls : Array Slot), f_Declaration_fault_98 S = some u → Dy g s S H locs → lv_has ls 3 [] → W p l e (rmD 7) s m args below meth c H locs 0 0 (MQ below (Qip g S u) args s 0 0 (gA g)) (F0 m 98 ls []) := by
    intro H locs ls h D hl
    unfold f_Declaration_fault_98 at h
    refine lv_iconst (v := 0) hx hb d_Declaration_fault_98 (by decide) ?_
    exact x_irp C D h d_Declaration_fault_99
  have B80 : ∀ (H : Heap) (locs : List Loc) (ls : Array Slot) (a1 : Int32) (a2 : Int32), f_Declaration_fault_80 a1 a2 S = some u → Dy g s S H locs → lv_has ls 3 [(0, .ref (ga g 1)), (1, .int a1), (2, .int a2)] → W p l e (rmD 7) s m args below meth c H locs 0 0 (MQ below (Qip g S u) args s 0 0 (gA g)) (F0 m 80 ls []) := by
    intro H locs ls a1 a2 h D hl
    unfold f_Declaration_fault_80 at h
    refine lv_iload_n hx hb d_Declaration_fault_80 rfl (lv_at hl 1 rfl) ?_
    refine lv_iload_n hx hb d_Declaration_fault_81 rfl (lv_at hl 2 rfl) ?_
    refine lv_iadd hx hb d_Declaration_fault_82 ?_
    refine lv_if_le hx hb d_Declaration_fault_83 rfl (fun z => ?_) (fun z => ?_)
    · replace h := if_t z h
      exact B98 _ _ _ h D (lv_sub hl [] rfl)
    · replace h := if_f z h
      refine lv_aload_n hx hb d_Declaration_fault_86 rfl (lv_at hl 0 rfl) ?_
      obtain ⟨u8, hu8, h⟩ := bd_some h
      refine x_cip (rest := []) (r_V C D (c_Declaration_mayHaveContent l g hD S u8 hu8) wc_Declaration_mayHaveContent wm_Declaration_76 wi_Declaration_mayHaveContent wd_Declaration_mayHaveContent (by decide) sh_1 kc_Declaration.1 rfl rfl hl (Nat.le_of_ble_eq_true rfl) (by decide) d_Declaration_fault_87) D (fun H locs D => ?_)
      refine lv_if_ne hx hb d_Declaration_fault_90 rfl (fun z => ?_) (fun z => ?_)
      · replace h := if_f z h
        exact B98 _ _ _ h D (lv_sub hl [] rfl)
      · replace h := if_t z h
        refine lv_bipush (v := (-7)) hx hb d_Declaration_fault_93 (by decide) ?_
        refine lv_goto hx hb d_Declaration_fault_95 rfl ?_
        exact x_irp C D h d_Declaration_fault_99
  unfold f_Declaration_fault at h
  refine lv_aload_n hx hb d_Declaration_fault_0 rfl (lv_at hl 0 rfl) ?_
  refine x_get (v := .ref (ga g 2)) C D kc_Declaration (by decide) sh_1 0 rfl (by decide) wf_Declaration_12 rfl rfl d_Declaration_fault_1 ?_
  obtain ⟨u1, hu1, h⟩ := bd_some h
  refine x_cip (rest := []) (r_V C D (c_PathTemplate_isWellFormed l g hD S u1 hu1) wc_PathTemplate_isWellFormed wm_Declaration_57 wi_PathTemplate_isWellFormed wd_PathTemplate_isWellFormed (by decide) sh_2 kc_PathTemplate.1 rfl rfl hl (Nat.le_of_ble_eq_true rfl) (by decide) d_Declaration_fault_4) D (fun H locs D => ?_)
  refine lv_if_ne hx hb d_Declaration_fault_7 rfl (fun z => ?_) (fun z => ?_)
  · replace h := if_f z h
    refine lv_aload_n hx hb d_Declaration_fault_12 rfl (lv_at hl 0 rfl) ?_
    obtain ⟨u2, hu2, h⟩ := bd_some h
    refine x_cip (rest := []) (r_V C D (c_Declaration_hasUnknownVariable l g hD S u2 hu2) wc_Declaration_hasUnknownVariable wm_Declaration_60 wi_Declaration_hasUnknownVariable wd_Declaration_hasUnknownVariable (by decide) sh_1 kc_Declaration.1 rfl rfl hl (Nat.le_of_ble_eq_true rfl) (by decide) d_Declaration_fault_13) D (fun H locs D => ?_)
    refine lv_if_eq hx hb d_Declaration_fault_16 rfl (fun z => ?_) (fun z => ?_)
    · replace h := if_t z h
      refine lv_aload_n hx hb d_Declaration_fault_22 rfl (lv_at hl 0 rfl) ?_
      obtain ⟨u3, hu3, h⟩ := bd_some h
      refine x_cip (rest := []) (r_V C D (c_Declaration_hasLetterTwice l g hD S u3 hu3) wc_Declaration_hasLetterTwice wm_Declaration_63 wi_Declaration_hasLetterTwice wd_Declaration_hasLetterTwice (by decide) sh_1 kc_Declaration.1 rfl rfl hl (Nat.le_of_ble_eq_true rfl) (by decide) d_Declaration_fault_23) D (fun H locs D => ?_)
      refine lv_if_eq hx hb d_Declaration_fault_26 rfl (fun z => ?_) (fun z => ?_)
      · replace h := if_t z h
        refine lv_aload_n hx hb d_Declaration_fault_32 rfl (lv_at hl 0 rfl) ?_
        obtain ⟨u4, hu4, h⟩ := bd_some h
        refine x_cip (rest := []) (r_V C D (c_Declaration_hasUnusedParameter l g hD S u4 hu4) wc_Declaration_hasUnusedParameter wm_Declaration_66 wi_Declaration_hasUnusedParameter wd_Declaration_hasUnusedParameter (by decide) sh_1 kc_Declaration.1 rfl rfl hl (Nat.le_of_ble_eq_true rfl) (by decide) d_Declaration_fault_33) D (fun H locs D => ?_)
        refine lv_if_eq hx hb d_Declaration_fault_36 rfl (fun z => ?_) (fun z => ?_)
        · replace h := if_t z h
          refine lv_aload_n hx hb d_Declaration_fault_42 rfl (lv_at hl 0 rfl) ?_
          obtain ⟨u5, hu5, h⟩ := bd_some h
          refine x_cip (rest := []) (r_V C D (c_Declaration_hasCutList l g hD S u5 hu5) wc_Declaration_hasCutList wm_Declaration_69 wi_Declaration_hasCutList wd_Declaration_hasCutList (by decide) sh_1 kc_Declaration.1 rfl rfl hl (Nat.le_of_ble_eq_true rfl) (by decide) d_Declaration_fault_43) D (fun H locs D => ?_)
          refine lv_if_eq hx hb d_Declaration_fault_46 rfl (fun z => ?_) (fun z => ?_)
          · replace h := if_t z h
            refine lv_aload_n hx hb d_Declaration_fault_52 rfl (lv_at hl 0 rfl) ?_
            refine lv_iconst (v := 5) hx hb d_Declaration_fault_53 (by decide) ?_
            obtain ⟨u6, hu6, h⟩ := bd_some h
            refine x_cip (rest := []) (r_V C D (c_Declaration_countOf l g hD 5 S u6 hu6) wc_Declaration_countOf wm_Declaration_72 wi_Declaration_countOf wd_Declaration_countOf (by decide) sh_1 kc_Declaration.1 rfl rfl hl (Nat.le_of_ble_eq_true rfl) (by decide) d_Declaration_fault_54) D (fun H locs D => ?_)
            refine lv_istore_n (lv' := [(1, .int u6), (0, .ref (ga g 1))]) hx hb d_Declaration_fault_57 rfl hl (by decide) rfl (fun ls hl => ?_)
            refine lv_aload_n hx hb d_Declaration_fault_58 rfl (lv_at hl 1 rfl) ?_
            refine lv_iconst (v := 4) hx hb d_Declaration_fault_59 (by decide) ?_
            obtain ⟨u7, hu7, h⟩ := bd_some h
            refine x_cip (rest := []) (r_V C D (c_Declaration_countOf l g hD 4 S u7 hu7) wc_Declaration_countOf wm_Declaration_72 wi_Declaration_countOf wd_Declaration_countOf (by decide) sh_1 kc_Declaration.1 rfl rfl hl (Nat.le_of_ble_eq_true rfl) (by decide) d_Declaration_fault_60) D (fun H locs D => ?_)
            refine lv_istore_n (lv' := [(2, .int u7), (1, .int u6), (0, .ref (ga g 1))]) hx hb d_Declaration_fault_63 rfl hl (by decide) rfl (fun ls hl => ?_)
            refine lv_iload_n hx hb d_Declaration_fault_64 rfl (lv_at hl 1 rfl) ?_
            refine lv_iconst (v := 1) hx hb d_Declaration_fault_65 (by decide) ?_
            refine lv_icmp_gt hx hb d_Declaration_fault_66 rfl (fun z => ?_) (fun z => ?_)
            · replace h := if_t z h
              refine lv_bipush (v := (-6)) hx hb d_Declaration_fault_77 (by decide) ?_
              exact x_irp C D h d_Declaration_fault_79
            · replace h := if_f z h
              refine lv_iload_n hx hb d_Declaration_fault_69 rfl (lv_at hl 1 rfl) ?_
              refine lv_if_le hx hb d_Declaration_fault_70 rfl (fun z => ?_) (fun z => ?_)
              · replace h := if_t z h
                exact B80 _ _ _ _ _ h D (lv_sub hl [2, 1, 0] rfl)
              · replace h := if_f z h
                refine lv_iload_n hx hb d_Declaration_fault_73 rfl (lv_at hl 0 rfl) ?_
                refine lv_if_le hx hb d_Declaration_fault_74 rfl (fun z => ?_) (fun z => ?_)
                · replace h := if_t z h
                  exact B80 _ _ _ _ _ h D (lv_sub hl [2, 1, 0] rfl)
                · replace h := if_f z h
                  refine lv_bipush (v := (-6)) hx hb d_Declaration_fault_77 (by decide) ?_
                  exact x_irp C D h d_Declaration_fault_79
          · replace h := if_f z h
            refine lv_bipush (v := (-5)) hx hb d_Declaration_fault_49 (by decide) ?_
            exact x_irp C D h d_Declaration_fault_51
        · replace h := if_f z h
          refine lv_bipush (v := (-4)) hx hb d_Declaration_fault_39 (by decide) ?_
          exact x_irp C D h d_Declaration_fault_41
      · replace h := if_f z h
        refine lv_bipush (v := (-3)) hx hb d_Declaration_fault_29 (by decide) ?_
        exact x_irp C D h d_Declaration_fault_31
    · replace h := if_f z h
      refine lv_bipush (v := (-2)) hx hb d_Declaration_fault_19 (by decide) ?_
      exact x_irp C D h d_Declaration_fault_21
  · replace h := if_t z h
    refine lv_iconst (v := (-1)) hx hb d_Declaration_fault_10 (by decide) ?_
    exact x_irp C D h d_Declaration_fault_11
