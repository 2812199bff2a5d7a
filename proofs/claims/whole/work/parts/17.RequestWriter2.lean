theorem d_RequestWriter_putBodyOrForm_0 : decode b_RequestWriter_putBodyOrForm 0 = .ok (.iconst 0, 1) := by decide +kernel
theorem d_RequestWriter_putBodyOrForm_1 : decode b_RequestWriter_putBodyOrForm 1 = .ok (.istore_n 2, 1) := by decide +kernel
theorem d_RequestWriter_putBodyOrForm_2 : decode b_RequestWriter_putBodyOrForm 2 = .ok (.iconst 0, 1) := by decide +kernel
theorem d_RequestWriter_putBodyOrForm_3 : decode b_RequestWriter_putBodyOrForm 3 = .ok (.istore_n 3, 1) := by decide +kernel
theorem d_RequestWriter_putBodyOrForm_4 : decode b_RequestWriter_putBodyOrForm 4 = .ok (.iload_n 3, 1) := by decide +kernel
theorem d_RequestWriter_putBodyOrForm_5 : decode b_RequestWriter_putBodyOrForm 5 = .ok (.aload_n 0, 1) := by decide +kernel
theorem d_RequestWriter_putBodyOrForm_6 : decode b_RequestWriter_putBodyOrForm 6 = .ok (.getfield 18, 3) := by decide +kernel
theorem d_RequestWriter_putBodyOrForm_9 : decode b_RequestWriter_putBodyOrForm 9 = .ok (.getfield 138, 3) := by decide +kernel
theorem d_RequestWriter_putBodyOrForm_12 : decode b_RequestWriter_putBodyOrForm 12 = .ok (.if_icmp .ge 75, 3) := by decide +kernel
theorem d_RequestWriter_putBodyOrForm_15 : decode b_RequestWriter_putBodyOrForm 15 = .ok (.aload_n 0, 1) := by decide +kernel
theorem d_RequestWriter_putBodyOrForm_16 : decode b_RequestWriter_putBodyOrForm 16 = .ok (.getfield 18, 3) := by decide +kernel
theorem d_RequestWriter_putBodyOrForm_19 : decode b_RequestWriter_putBodyOrForm 19 = .ok (.getfield 139, 3) := by decide +kernel
theorem d_RequestWriter_putBodyOrForm_22 : decode b_RequestWriter_putBodyOrForm 22 = .ok (.iload_n 3, 1) := by decide +kernel
theorem d_RequestWriter_putBodyOrForm_23 : decode b_RequestWriter_putBodyOrForm 23 = .ok (.aaload, 1) := by decide +kernel
theorem d_RequestWriter_putBodyOrForm_24 : decode b_RequestWriter_putBodyOrForm 24 = .ok (.astore 4, 2) := by decide +kernel
theorem d_RequestWriter_putBodyOrForm_26 : decode b_RequestWriter_putBodyOrForm 26 = .ok (.aload 4, 2) := by decide +kernel
theorem d_RequestWriter_putBodyOrForm_28 : decode b_RequestWriter_putBodyOrForm 28 = .ok (.getfield 143, 3) := by decide +kernel
theorem d_RequestWriter_putBodyOrForm_31 : decode b_RequestWriter_putBodyOrForm 31 = .ok (.iconst 5, 1) := by decide +kernel
theorem d_RequestWriter_putBodyOrForm_32 : decode b_RequestWriter_putBodyOrForm 32 = .ok (.if_icmp .ne 25, 3) := by decide +kernel
theorem d_RequestWriter_putBodyOrForm_35 : decode b_RequestWriter_putBodyOrForm 35 = .ok (.aload 4, 2) := by decide +kernel
theorem d_RequestWriter_putBodyOrForm_37 : decode b_RequestWriter_putBodyOrForm 37 = .ok (.getfield 90, 3) := by decide +kernel
theorem d_RequestWriter_putBodyOrForm_40 : decode b_RequestWriter_putBodyOrForm 40 = .ok (.ifCond .le 17, 3) := by decide +kernel
theorem d_RequestWriter_putBodyOrForm_43 : decode b_RequestWriter_putBodyOrForm 43 = .ok (.aload_n 1, 1) := by decide +kernel
theorem d_RequestWriter_putBodyOrForm_44 : decode b_RequestWriter_putBodyOrForm 44 = .ok (.aload 4, 2) := by decide +kernel
theorem d_RequestWriter_putBodyOrForm_46 : decode b_RequestWriter_putBodyOrForm 46 = .ok (.getfield 120, 3) := by decide +kernel
theorem d_RequestWriter_putBodyOrForm_49 : decode b_RequestWriter_putBodyOrForm 49 = .ok (.iconst 0, 1) := by decide +kernel
theorem d_RequestWriter_putBodyOrForm_50 : decode b_RequestWriter_putBodyOrForm 50 = .ok (.aaload, 1) := by decide +kernel
theorem d_RequestWriter_putBodyOrForm_51 : decode b_RequestWriter_putBodyOrForm 51 = .ok (.invokestatic 167, 3) := by decide +kernel
theorem d_RequestWriter_putBodyOrForm_54 : decode b_RequestWriter_putBodyOrForm 54 = .ok (.goto 27, 3) := by decide +kernel
theorem d_RequestWriter_putBodyOrForm_57 : decode b_RequestWriter_putBodyOrForm 57 = .ok (.aload 4, 2) := by decide +kernel
theorem d_RequestWriter_putBodyOrForm_59 : decode b_RequestWriter_putBodyOrForm 59 = .ok (.getfield 143, 3) := by decide +kernel
theorem d_RequestWriter_putBodyOrForm_62 : decode b_RequestWriter_putBodyOrForm 62 = .ok (.iconst 4, 1) := by decide +kernel
theorem d_RequestWriter_putBodyOrForm_63 : decode b_RequestWriter_putBodyOrForm 63 = .ok (.if_icmp .ne 18, 3) := by decide +kernel
theorem d_RequestWriter_putBodyOrForm_66 : decode b_RequestWriter_putBodyOrForm 66 = .ok (.aload_n 1, 1) := by decide +kernel
theorem d_RequestWriter_putBodyOrForm_67 : decode b_RequestWriter_putBodyOrForm 67 = .ok (.aload 4, 2) := by decide +kernel
theorem d_RequestWriter_putBodyOrForm_69 : decode b_RequestWriter_putBodyOrForm 69 = .ok (.iload_n 2, 1) := by decide +kernel
theorem d_RequestWriter_putBodyOrForm_70 : decode b_RequestWriter_putBodyOrForm 70 = .ok (.invokestatic 170, 3) := by decide +kernel
theorem d_RequestWriter_putBodyOrForm_73 : decode b_RequestWriter_putBodyOrForm 73 = .ok (.iload_n 2, 1) := by decide +kernel
theorem d_RequestWriter_putBodyOrForm_74 : decode b_RequestWriter_putBodyOrForm 74 = .ok (.aload 4, 2) := by decide +kernel
theorem d_RequestWriter_putBodyOrForm_76 : decode b_RequestWriter_putBodyOrForm 76 = .ok (.getfield 90, 3) := by decide +kernel
theorem d_RequestWriter_putBodyOrForm_79 : decode b_RequestWriter_putBodyOrForm 79 = .ok (.iadd, 1) := by decide +kernel
theorem d_RequestWriter_putBodyOrForm_80 : decode b_RequestWriter_putBodyOrForm 80 = .ok (.istore_n 2, 1) := by decide +kernel
theorem d_RequestWriter_putBodyOrForm_81 : decode b_RequestWriter_putBodyOrForm 81 = .ok (.iinc 3 1, 3) := by decide +kernel
theorem d_RequestWriter_putBodyOrForm_84 : decode b_RequestWriter_putBodyOrForm 84 = .ok (.goto (-80), 3) := by decide +kernel
theorem d_RequestWriter_putBodyOrForm_87 : decode b_RequestWriter_putBodyOrForm 87 = .ok (.return_, 1) := by decide +kernel
def f_RequestWriter_putBodyOrForm_81 (K4 : Nat → Int32 → Int32 → zSt → Option zSt) (k1 : Nat) (a2 : Int32) (a3 : Int32) (S : zSt) : Option zSt := (K4 k1 a2 (a3 + 1) S)
def f_RequestWriter_putBodyOrForm_57 (K4 : Nat → Int32 → Int32 → zSt → Option zSt) (k1 : Nat) (a2 : Int32) (a3 : Int32) (k4 : Nat) (S : zSt) : Option zSt := (if (S (10 + k4) 2) = 4 then ((f_RequestWriter_putFormItems k1 k4 a2 S).bind fun u2 => (f_RequestWriter_putBodyOrForm_81 K4 k1 (a2 + (u2 (10 + k4) 1)) a3 u2)) else (f_RequestWriter_putBodyOrForm_81 K4 k1 a2 a3 S))
def f_RequestWriter_putBodyOrForm_4 : Nat → Nat → Int32 → Int32 → zSt → Option zSt
  | 0, _, _, _, _ => none
  | n + 1, k1, a2, a3, S => (if (S 1 2) ≤ a3 then (some S) else gdi a3 6 ((if (S (10 + a3.toNatClampNeg) 2) = 5 then (if (S (10 + a3.toNatClampNeg) 1) ≤ 0 then (f_RequestWriter_putBodyOrForm_57 (f_RequestWriter_putBodyOrForm_4 n) k1 a2 a3 a3.toNatClampNeg S) else gdi 0 3 (((f_Encoder_putUtf8 k1 (3 * a3.toNatClampNeg + (0 : Int32).toNatClampNeg) S).bind fun u4 => (f_RequestWriter_putBodyOrForm_81 (f_RequestWriter_putBodyOrForm_4 n) k1 a2 a3 u4)))) else (f_RequestWriter_putBodyOrForm_57 (f_RequestWriter_putBodyOrForm_4 n) k1 a2 a3 a3.toNatClampNeg S))))
def f_RequestWriter_putBodyOrForm (k1 : Nat) (S : zSt) : Option zSt := (f_RequestWriter_putBodyOrForm_4 fu k1 0 0 S)
set_option maxHeartbeats 4000000 in
set_option maxRecDepth 100000 in
theorem c_RequestWriter_putBodyOrForm (l : Launch) (g : zG) (hD : GD g) (k1 : Nat) (hk1 : k1 < 4) (S : zSt) (u : zSt) (h : f_RequestWriter_putBodyOrForm k1 S = some u) : Met l y_RequestWriter_putBodyOrForm (mw y_RequestWriter_putBodyOrForm b_RequestWriter_putBodyOrForm 5 none) (rmD 7) (Pw g [.ref (ga g 5), .ref (ga g (58 + k1))] S) (Qvs g u) 0 0 (gA g) := by
  refine z_go (own := R_RequestWriter) (lv0 := [(0, .ref (ga g 5)), (1, .ref (ga g (58 + k1)))]) hD (by decide) rfl (Nat.le_of_ble_eq_true rfl) rfl ?_
  intro p e s m args below meth c C D ls hl
  have hx := C.1
  have hb := C.2.1
  have hown := C.2.2.2.1
  have hts := C.2.2.2.2.1
  have B81 : ∀ (K4 : Nat → Int32 → Int32 → zSt → Option zSt) (hK4 : ∀ (H : Heap) (locs : List Loc) (S : zSt) (ls : Array Slot) (k1 : Nat) (hk1 : k1 < 4) (a2 : Int32) (a3 : Int32), K4 k1 a2 a3 S = some u → Dy g s S H locs → lv_has ls 5 [(0, .ref (ga g 5)), (1, .ref (ga g (58 + k1))), (2, .int a2), (3, .int a3)] → W p l e (rmD 7) s m args below meth c H locs 0 0 (MQ below (Qvs g u) args s 0 0 (gA g)) (F0 m 4 ls [])) (H : Heap) (locs : List Loc) (S : zSt) (ls : Array Slot) (k1 : Nat) (hk1 : k1 < 4) (a2 : Int32) (a3 : Int32), f_RequestWriter_putBodyOrForm_81 K4 k1 a2 a3 S = some u → Dy g s S H locs → lv_has ls 5 [(0, .ref (ga g 5)), (1, .ref (ga g (58 + k1))), (2, .int a2), (3, .int a3)] → W p l e (rmD 7) s m args below meth c H locs 0 0 (MQ below (Qvs g u) args s 0 0 (gA g)) (F0 m 81 ls []) := by
    intro K4 hK4 H locs S ls k1 hk1 a2 a3 h D hl
    unfold f_RequestWriter_putBodyOrForm_81 at h
    refine lv_iinc (k := 3) (lv' := [(3, .int (a3 + 1)), (0, .ref (ga g 5)), (1, .ref (ga g (58 + k1))), (2, .int a2)]) hx hb d_RequestWriter_putBodyOrForm_81 hl rfl (ii1 _) (by decide) rfl (fun ls hl => ?_)
    refine lv_goto hx hb d_RequestWriter_putBodyOrForm_84 rfl ?_
    exact hK4 _ _ _ _ _ hk1 _ _ h D (lv_sub hl [1, 2, 3, 0] rfl)
  have B57 : ∀ (K4 : Nat → Int32 → Int32 → zSt → Option zSt) (hK4 : ∀ (H : Heap) (locs : List Loc) (S : zSt) (ls : Array Slot) (k1 : Nat) (hk1 : k1 < 4) (a2 : Int32) (a3 : Int32), K4 k1 a2 a3 S = some u → Dy g s S H locs → lv_has ls 5 [(0, .ref (ga g 5)), (1, .ref (ga g (58 + k1))), (2, .int a2), (3, .int a3)] → W p l e (rmD 7) s m args below meth c H locs 0 0 (MQ below (Qvs g u) args s 0 0 (gA g)) (F0 m 4 ls [])) (H : Heap) (locs : List Loc) (S : zSt) (ls : Array Slot) (k1 : Nat) (hk1 : k1 < 4) (a2 : Int32) (a3 : Int32) (k4 : Nat) (hk4 : k4 < 6), f_RequestWriter_putBodyOrForm_57 K4 k1 a2 a3 k4 S = some u → Dy g s S H locs → lv_has ls 5 [(0, .ref (ga g 5)), (1, .ref (ga g (58 + k1))), (2, .int a2), (3, .int a3), (4, .ref (ga g (10 + k4)))] → W p l e (rmD 7) s m args below meth c H locs 0 0 (MQ below (Qvs g u) args s 0 0 (gA g)) (F0 m 57 ls []) := by
    intro K4 hK4 H locs S ls k1 hk1 a2 a3 k4 hk4 h D hl
    unfold f_RequestWriter_putBodyOrForm_57 at h
    refine lv_aload hx hb d_RequestWriter_putBodyOrForm_57 (lv_at hl 4 rfl) ?_
    refine x_getN (v := .int (S (10 + k4) 2)) C D kc_Parameter (nP hk4) (sh_P hk4) 2 rfl (by decide) nf_RequestWriter_143 rfl rfl d_RequestWriter_putBodyOrForm_59 ?_
    refine lv_iconst (v := 4) hx hb d_RequestWriter_putBodyOrForm_62 (by decide) ?_
    refine lv_icmp_ne hx hb d_RequestWriter_putBodyOrForm_63 rfl (fun z => ?_) (fun z => ?_)
    · replace h := if_f z h
      exact B81 _ hK4 _ _ _ _ _ hk1 _ _ h D (lv_sub hl [0, 1, 2, 3] rfl)
    · replace h := if_t z h
      refine lv_aload_n hx hb d_RequestWriter_putBodyOrForm_66 rfl (lv_at hl 1 rfl) ?_
      refine lv_aload hx hb d_RequestWriter_putBodyOrForm_67 (lv_at hl 4 rfl) ?_
      refine lv_iload_n hx hb d_RequestWriter_putBodyOrForm_69 rfl (lv_at hl 2 rfl) ?_
      obtain ⟨u2, hu2, h⟩ := bd_some h
      refine x_cvs (rest := []) (r_S C D (c_RequestWriter_putFormItems l g hD k1 hk1 k4 hk4 a2 S u2 hu2) wc_RequestWriter_putFormItems wm_RequestWriter_170 wt_RequestWriter_putFormItems wd_RequestWriter_putFormItems rfl rfl hl (Nat.le_of_ble_eq_true rfl) (by decide) d_RequestWriter_putBodyOrForm_70) D (fun H locs D => ?_)
      refine lv_iload_n hx hb d_RequestWriter_putBodyOrForm_73 rfl (lv_at hl 2 rfl) ?_
      refine lv_aload hx hb d_RequestWriter_putBodyOrForm_74 (lv_at hl 4 rfl) ?_
      refine x_getN (v := .int (u2 (10 + k4) 1)) C D kc_Parameter (nP hk4) (sh_P hk4) 1 rfl (by decide) nf_RequestWriter_90 rfl rfl d_RequestWriter_putBodyOrForm_76 ?_
      refine lv_iadd hx hb d_RequestWriter_putBodyOrForm_79 ?_
      refine lv_istore_n (lv' := [(2, .int (a2 + (u2 (10 + k4) 1))), (0, .ref (ga g 5)), (1, .ref (ga g (58 + k1))), (3, .int a3), (4, .ref (ga g (10 + k4)))]) hx hb d_RequestWriter_putBodyOrForm_80 rfl hl (by decide) rfl (fun ls hl => ?_)
      exact B81 _ hK4 _ _ _ _ _ hk1 _ _ h D (lv_sub hl [1, 2, 0, 3] rfl)
  have L4 : ∀ (n : Nat) (H : Heap) (locs : List Loc) (S : zSt) (ls : Array Slot) (k1 : Nat) (hk1 : k1 < 4) (a2 : Int32) (a3 : Int32), f_RequestWriter_putBodyOrForm_4 n k1 a2 a3 S = some u → Dy g s S H locs → lv_has ls 5 [(0, .ref (ga g 5)), (1, .ref (ga g (58 + k1))), (2, .int a2), (3, .int a3)] → W p l e (rmD 7) s m args below meth c H locs 0 0 (MQ below (Qvs g u) args s 0 0 (gA g)) (F0 m 4 ls []) := by
    intro n
    induction n with
    | zero => intro H locs S ls k1 hk1 a2 a3 h D hl; rw [f_RequestWriter_putBodyOrForm_4] at h; cases h
    | succ n hK4 =>
      intro H locs S ls k1 hk1 a2 a3 h D hl
      rw [f_RequestWriter_putBodyOrForm_4] at h
      refine lv_iload_n hx hb d_RequestWriter_putBodyOrForm_4 rfl (lv_at hl 3 rfl) ?_
      refine lv_aload_n hx hb d_RequestWriter_putBodyOrForm_5 rfl (lv_at hl 0 rfl) ?_
      refine x_get (v := .ref (ga g 1)) C D kc_RequestWriter (by decide) sh_5 0 rfl (by decide) wf_RequestWriter_18 rfl rfl d_RequestWriter_putBodyOrForm_6 ?_
      refine x_getN (v := .int (S 1 2)) C D kc_Declaration (by decide) sh_1 2 rfl (by decide) nf_RequestWriter_138 rfl rfl d_RequestWriter_putBodyOrForm_9 ?_
      refine lv_icmp_ge hx hb d_RequestWriter_putBodyOrForm_12 rfl (fun z => ?_) (fun z => ?_)
      · replace h := if_t z h
        exact x_vrs C D h d_RequestWriter_putBodyOrForm_87
      · replace h := if_f z h
        refine lv_aload_n hx hb d_RequestWriter_putBodyOrForm_15 rfl (lv_at hl 0 rfl) ?_
        refine x_get (v := .ref (ga g 1)) C D kc_RequestWriter (by decide) sh_5 0 rfl (by decide) wf_RequestWriter_18 rfl rfl d_RequestWriter_putBodyOrForm_16 ?_
        refine x_getN (v := .ref (ga g 4)) C D kc_Declaration (by decide) sh_1 1 rfl (by decide) nf_RequestWriter_139 rfl rfl d_RequestWriter_putBodyOrForm_19 ?_
        refine lv_iload_n hx hb d_RequestWriter_putBodyOrForm_22 rfl (lv_at hl 3 rfl) ?_
        refine x_aald3 C D (by decide) sh_4 d_RequestWriter_putBodyOrForm_23 h (fun q1 h => ?_)
        refine lv_astore (lv' := [(4, .ref (ga g (10 + a3.toNatClampNeg))), (0, .ref (ga g 5)), (1, .ref (ga g (58 + k1))), (2, .int a2), (3, .int a3)]) hx hb d_RequestWriter_putBodyOrForm_24 hl (by decide) rfl (fun ls hl => ?_)
        refine lv_aload hx hb d_RequestWriter_putBodyOrForm_26 (lv_at hl 0 rfl) ?_
        refine x_getN (v := .int (S (10 + a3.toNatClampNeg) 2)) C D kc_Parameter (nP q1) (sh_P q1) 2 rfl (by decide) nf_RequestWriter_143 rfl rfl d_RequestWriter_putBodyOrForm_28 ?_
        refine lv_iconst (v := 5) hx hb d_RequestWriter_putBodyOrForm_31 (by decide) ?_
        refine lv_icmp_ne hx hb d_RequestWriter_putBodyOrForm_32 rfl (fun z => ?_) (fun z => ?_)
        · replace h := if_f z h
          exact B57 _ hK4 _ _ _ _ _ hk1 _ _ _ q1 h D (lv_sub hl [1, 2, 3, 4, 0] rfl)
        · replace h := if_t z h
          refine lv_aload hx hb d_RequestWriter_putBodyOrForm_35 (lv_at hl 0 rfl) ?_
          refine x_getN (v := .int (S (10 + a3.toNatClampNeg) 1)) C D kc_Parameter (nP q1) (sh_P q1) 1 rfl (by decide) nf_RequestWriter_90 rfl rfl d_RequestWriter_putBodyOrForm_37 ?_
          refine lv_if_le hx hb d_RequestWriter_putBodyOrForm_40 rfl (fun z => ?_) (fun z => ?_)
          · replace h := if_t z h
            exact B57 _ hK4 _ _ _ _ _ hk1 _ _ _ q1 h D (lv_sub hl [1, 2, 3, 4, 0] rfl)
          · replace h := if_f z h
            refine lv_aload_n hx hb d_RequestWriter_putBodyOrForm_43 rfl (lv_at hl 2 rfl) ?_
            refine lv_aload hx hb d_RequestWriter_putBodyOrForm_44 (lv_at hl 0 rfl) ?_
            refine x_getN (v := .ref (ga g (16 + a3.toNatClampNeg))) C D kc_Parameter (nP q1) (sh_P q1) 0 rfl (by decide) nf_RequestWriter_120 rfl (fvv_r _ _ (by have q_ : a3.toNatClampNeg < 6 := q1; omega)) d_RequestWriter_putBodyOrForm_46 ?_
            refine lv_iconst (v := 0) hx hb d_RequestWriter_putBodyOrForm_49 (by decide) ?_
            refine x_aald4 C D (nPI q1) (sh_PI q1) d_RequestWriter_putBodyOrForm_50 h (fun q3 h => ?_)
            obtain ⟨u4, hu4, h⟩ := bd_some h
            refine x_cvs (rest := []) (r_S C D (c_Encoder_putUtf8 l g hD k1 hk1 (3 * a3.toNatClampNeg + (0 : Int32).toNatClampNeg) (i3 q1 q3) S u4 hu4) wc_Encoder_putUtf8 wm_RequestWriter_167 wt_Encoder_putUtf8 wd_Encoder_putUtf8 rfl rfl hl (Nat.le_of_ble_eq_true rfl) (by decide) d_RequestWriter_putBodyOrForm_51) D (fun H locs D => ?_)
            refine lv_goto hx hb d_RequestWriter_putBodyOrForm_54 rfl ?_
            exact B81 _ hK4 _ _ _ _ _ hk1 _ _ h D (lv_sub hl [1, 2, 3, 4] rfl)
  unfold f_RequestWriter_putBodyOrForm at h
  refine lv_iconst (v := 0) hx hb d_RequestWriter_putBodyOrForm_0 (by decide) ?_
  refine lv_istore_n (lv' := [(2, .int 0), (0, .ref (ga g 5)), (1, .ref (ga g (58 + k1)))]) hx hb d_RequestWriter_putBodyOrForm_1 rfl hl (by decide) rfl (fun ls hl => ?_)
  refine lv_iconst (v := 0) hx hb d_RequestWriter_putBodyOrForm_2 (by decide) ?_
  refine lv_istore_n (lv' := [(3, .int 0), (2, .int 0), (0, .ref (ga g 5)), (1, .ref (ga g (58 + k1)))]) hx hb d_RequestWriter_putBodyOrForm_3 rfl hl (by decide) rfl (fun ls hl => ?_)
  exact L4 _ _ _ _ _ _ hk1 _ _ h D (lv_sub hl [2, 3, 1, 0] rfl)
theorem d_RequestWriter_compose_0 : decode b_RequestWriter_compose 0 = .ok (.aload_n 1, 1) := by decide +kernel
theorem d_RequestWriter_compose_1 : decode b_RequestWriter_compose 1 = .ok (.iconst 0, 1) := by decide +kernel
theorem d_RequestWriter_compose_2 : decode b_RequestWriter_compose 2 = .ok (.putfield 29, 3) := by decide +kernel
theorem d_RequestWriter_compose_5 : decode b_RequestWriter_compose 5 = .ok (.aload_n 1, 1) := by decide +kernel
theorem d_RequestWriter_compose_6 : decode b_RequestWriter_compose 6 = .ok (.aload_n 0, 1) := by decide +kernel
theorem d_RequestWriter_compose_7 : decode b_RequestWriter_compose 7 = .ok (.getfield 18, 3) := by decide +kernel
theorem d_RequestWriter_compose_10 : decode b_RequestWriter_compose 10 = .ok (.invokevirtual 33, 3) := by decide +kernel
theorem d_RequestWriter_compose_13 : decode b_RequestWriter_compose 13 = .ok (.invokevirtual 37, 3) := by decide +kernel
theorem d_RequestWriter_compose_16 : decode b_RequestWriter_compose 16 = .ok (.aload_n 1, 1) := by decide +kernel
theorem d_RequestWriter_compose_17 : decode b_RequestWriter_compose 17 = .ok (.bipush 32, 2) := by decide +kernel
theorem d_RequestWriter_compose_19 : decode b_RequestWriter_compose 19 = .ok (.invokevirtual 41, 3) := by decide +kernel
theorem d_RequestWriter_compose_22 : decode b_RequestWriter_compose 22 = .ok (.aload_n 0, 1) := by decide +kernel
theorem d_RequestWriter_compose_23 : decode b_RequestWriter_compose 23 = .ok (.aload_n 1, 1) := by decide +kernel
theorem d_RequestWriter_compose_24 : decode b_RequestWriter_compose 24 = .ok (.invokevirtual 44, 3) := by decide +kernel
theorem d_RequestWriter_compose_27 : decode b_RequestWriter_compose 27 = .ok (.aload_n 0, 1) := by decide +kernel
theorem d_RequestWriter_compose_28 : decode b_RequestWriter_compose 28 = .ok (.aload_n 1, 1) := by decide +kernel
theorem d_RequestWriter_compose_29 : decode b_RequestWriter_compose 29 = .ok (.invokevirtual 48, 3) := by decide +kernel
theorem d_RequestWriter_compose_32 : decode b_RequestWriter_compose 32 = .ok (.aload_n 1, 1) := by decide +kernel
theorem d_RequestWriter_compose_33 : decode b_RequestWriter_compose 33 = .ok (.ldc 51, 2) := by decide +kernel
theorem d_RequestWriter_compose_35 : decode b_RequestWriter_compose 35 = .ok (.invokevirtual 37, 3) := by decide +kernel
theorem d_RequestWriter_compose_38 : decode b_RequestWriter_compose 38 = .ok (.aload_n 0, 1) := by decide +kernel
theorem d_RequestWriter_compose_39 : decode b_RequestWriter_compose 39 = .ok (.aload_n 1, 1) := by decide +kernel
theorem d_RequestWriter_compose_40 : decode b_RequestWriter_compose 40 = .ok (.invokevirtual 53, 3) := by decide +kernel
theorem d_RequestWriter_compose_43 : decode b_RequestWriter_compose 43 = .ok (.aload_n 0, 1) := by decide +kernel
theorem d_RequestWriter_compose_44 : decode b_RequestWriter_compose 44 = .ok (.getfield 18, 3) := by decide +kernel
theorem d_RequestWriter_compose_47 : decode b_RequestWriter_compose 47 = .ok (.invokevirtual 56, 3) := by decide +kernel
theorem d_RequestWriter_compose_50 : decode b_RequestWriter_compose 50 = .ok (.ifCond .eq 42, 3) := by decide +kernel
theorem d_RequestWriter_compose_53 : decode b_RequestWriter_compose 53 = .ok (.aload_n 0, 1) := by decide +kernel
theorem d_RequestWriter_compose_54 : decode b_RequestWriter_compose 54 = .ok (.getfield 12, 3) := by decide +kernel
theorem d_RequestWriter_compose_57 : decode b_RequestWriter_compose 57 = .ok (.iconst 0, 1) := by decide +kernel
theorem d_RequestWriter_compose_58 : decode b_RequestWriter_compose 58 = .ok (.putfield 29, 3) := by decide +kernel
theorem d_RequestWriter_compose_61 : decode b_RequestWriter_compose 61 = .ok (.aload_n 0, 1) := by decide +kernel
theorem d_RequestWriter_compose_62 : decode b_RequestWriter_compose 62 = .ok (.aload_n 0, 1) := by decide +kernel
theorem d_RequestWriter_compose_63 : decode b_RequestWriter_compose 63 = .ok (.getfield 12, 3) := by decide +kernel
theorem d_RequestWriter_compose_66 : decode b_RequestWriter_compose 66 = .ok (.invokevirtual 60, 3) := by decide +kernel
theorem d_RequestWriter_compose_69 : decode b_RequestWriter_compose 69 = .ok (.aload_n 1, 1) := by decide +kernel
theorem d_RequestWriter_compose_70 : decode b_RequestWriter_compose 70 = .ok (.ldc 63, 2) := by decide +kernel
theorem d_RequestWriter_compose_72 : decode b_RequestWriter_compose 72 = .ok (.invokevirtual 37, 3) := by decide +kernel
theorem d_RequestWriter_compose_75 : decode b_RequestWriter_compose 75 = .ok (.aload_n 1, 1) := by decide +kernel
theorem d_RequestWriter_compose_76 : decode b_RequestWriter_compose 76 = .ok (.aload_n 0, 1) := by decide +kernel
theorem d_RequestWriter_compose_77 : decode b_RequestWriter_compose 77 = .ok (.getfield 12, 3) := by decide +kernel
theorem d_RequestWriter_compose_80 : decode b_RequestWriter_compose 80 = .ok (.getfield 29, 3) := by decide +kernel
theorem d_RequestWriter_compose_83 : decode b_RequestWriter_compose 83 = .ok (.invokevirtual 65, 3) := by decide +kernel
theorem d_RequestWriter_compose_86 : decode b_RequestWriter_compose 86 = .ok (.aload_n 1, 1) := by decide +kernel
theorem d_RequestWriter_compose_87 : decode b_RequestWriter_compose 87 = .ok (.ldc 68, 2) := by decide +kernel
theorem d_RequestWriter_compose_89 : decode b_RequestWriter_compose 89 = .ok (.invokevirtual 37, 3) := by decide +kernel
theorem d_RequestWriter_compose_92 : decode b_RequestWriter_compose 92 = .ok (.aload_n 1, 1) := by decide +kernel
theorem d_RequestWriter_compose_93 : decode b_RequestWriter_compose 93 = .ok (.ldc 68, 2) := by decide +kernel
theorem d_RequestWriter_compose_95 : decode b_RequestWriter_compose 95 = .ok (.invokevirtual 37, 3) := by decide +kernel
theorem d_RequestWriter_compose_98 : decode b_RequestWriter_compose 98 = .ok (.aload_n 0, 1) := by decide +kernel
theorem d_RequestWriter_compose_99 : decode b_RequestWriter_compose 99 = .ok (.aload_n 1, 1) := by decide +kernel
theorem d_RequestWriter_compose_100 : decode b_RequestWriter_compose 100 = .ok (.invokevirtual 60, 3) := by decide +kernel
theorem d_RequestWriter_compose_103 : decode b_RequestWriter_compose 103 = .ok (.return_, 1) := by decide +kernel
def f_RequestWriter_compose_92 (k1 : Nat) (S : zSt) : Option zSt := ((f_ByteRow_putText k1 13 S).bind fun u10 => ((f_RequestWriter_putBodyOrForm k1 u10).bind fun u11 => (some u11)))
def f_RequestWriter_compose (k1 : Nat) (S : zSt) : Option zSt := sq (su S (58 + k1) 1 0) fun S1 => ((f_Declaration_verbName S1).bind fun u2 => gdn u2 nS (((f_ByteRow_putText k1 u2 S1).bind fun u3 => ((f_ByteRow_put k1 32 u3).bind fun u4 => ((f_RequestWriter_putExpanded k1 u4).bind fun u5 => ((f_RequestWriter_putQuery k1 u5).bind fun u6 => ((f_ByteRow_putText k1 9 u6).bind fun u7 => ((f_RequestWriter_putHeaders k1 u7).bind fun u8 => ((f_Declaration_mayHaveContent u8).bind fun u9 => (if u9 = 0 then (f_RequestWriter_compose_92 k1 u8) else sq (su u8 (58 + 2) 1 0) fun S12 => ((f_RequestWriter_putBodyOrForm 2 S12).bind fun u13 => ((f_ByteRow_putText k1 14 u13).bind fun u14 => ((f_ByteRow_putNumber k1 (u14 (58 + 2) 1) u14).bind fun u15 => ((f_ByteRow_putText k1 13 u15).bind fun u16 => (f_RequestWriter_compose_92 k1 u16)))))))))))))))
set_option maxHeartbeats 4000000 in
set_option maxRecDepth 100000 in
theorem c_RequestWriter_compose (l : Launch) (g : zG) (hD : GD g) (k1 : Nat) (hk1 : k1 < 4) (S : zSt) (u : zSt) (h : f_RequestWriter_compose k1 S = some u) : Met l y_RequestWriter_compose (mw y_RequestWriter_compose b_RequestWriter_compose 2 none) (rmD 8) (Pw g [.ref (ga g 5), .ref (ga g (58 + k1))] S) (Qvs g u) 0 0 (gA g) := by
  refine z_go (own := R_RequestWriter) (lv0 := [(0, .ref (ga g 5)), (1, .ref (ga g (58 + k1)))]) hD (by decide) rfl (Nat.le_of_ble_eq_true rfl) rfl ?_
  intro p e s m args below meth c C D ls hl
  have hx := C.1
  have hb := C.2.1
  have hown := C.2.2.2.1
  have hts := C.2.2.2.2.1
  have B92 : ∀ (H : Heap) (locs : List Loc) (S : zSt) (ls : Array Slot) (k1 : Nat) (hk1 : k1 < 4), f_RequestWriter_compose_92 k1 S = some u → Dy g s S H locs → lv_has ls 2 [(0, .ref (ga g 5)), (1, .ref (ga g (58 + k1)))] → W p l e (rmD 8) s m args below meth c H locs 0 0 (MQ below (Qvs g u) args s 0 0 (gA g)) (F0 m 92 ls []) := by
    intro H locs S ls k1 hk1 h D hl
    unfold f_RequestWriter_compose_92 at h
    refine lv_aload_n hx hb d_RequestWriter_compose_92 rfl (lv_at hl 1 rfl) ?_
    refine x_lds C (q := 13) wl_RequestWriter_68 d_RequestWriter_compose_93 ?_
    obtain ⟨u10, hu10, h⟩ := bd_some h
    refine x_cvs (rest := []) (r_V C D (c_ByteRow_putText l g hD k1 hk1 13 (by decide) S u10 hu10) wc_ByteRow_putText wm_RequestWriter_37 wi_ByteRow_putText wd_ByteRow_putText (nR hk1) (sh_R hk1) kc_ByteRow.1 rfl rfl hl (Nat.le_of_ble_eq_true rfl) (by decide) d_RequestWriter_compose_95) D (fun H locs D => ?_)
    refine lv_aload_n hx hb d_RequestWriter_compose_98 rfl (lv_at hl 0 rfl) ?_
    refine lv_aload_n hx hb d_RequestWriter_compose_99 rfl (lv_at hl 1 rfl) ?_
    obtain ⟨u11, hu11, h⟩ := bd_some h
    refine x_cvs (rest := []) (r_V C D (c_RequestWriter_putBodyOrForm l g hD k1 hk1 u10 u11 hu11) wc_RequestWriter_putBodyOrForm wm_RequestWriter_60 wi_RequestWriter_putBodyOrForm wd_RequestWriter_putBodyOrForm (by decide) sh_5 kc_RequestWriter.1 rfl rfl hl (Nat.le_of_ble_eq_true rfl) (by decide) d_RequestWriter_compose_100) D (fun H locs D => ?_)
    exact x_vrs C D h d_RequestWriter_compose_103
  unfold f_RequestWriter_compose at h
  refine lv_aload_n hx hb d_RequestWriter_compose_0 rfl (lv_at hl 1 rfl) ?_
  refine lv_iconst (v := 0) hx hb d_RequestWriter_compose_1 (by decide) ?_
  refine x_putN C D kc_ByteRow (nR hk1) (sh_R hk1) 1 rfl (by decide) nf_RequestWriter_29 rfl rfl 0 rfl ⟨rfl, rfl⟩ d_RequestWriter_compose_2 h (fun S1 H locs h D => ?_)
  refine lv_aload_n hx hb d_RequestWriter_compose_5 rfl (lv_at hl 1 rfl) ?_
  refine lv_aload_n hx hb d_RequestWriter_compose_6 rfl (lv_at hl 0 rfl) ?_
  refine x_get (v := .ref (ga g 1)) C D kc_RequestWriter (by decide) sh_5 0 rfl (by decide) wf_RequestWriter_18 rfl rfl d_RequestWriter_compose_7 ?_
  obtain ⟨u2, hu2, h⟩ := bd_some h
  refine x_cqp (rest := [.ref (ga g (58 + k1))]) (r_V C D (c_Declaration_verbName l g hD S1 u2 hu2) wc_Declaration_verbName wm_RequestWriter_33 wi_Declaration_verbName wd_Declaration_verbName (by decide) sh_1 kc_Declaration.1 rfl rfl hl (Nat.le_of_ble_eq_true rfl) (by decide) d_RequestWriter_compose_10) D (fun H locs D => ?_)
  obtain ⟨qu2, h⟩ := gdn_some h
  obtain ⟨u3, hu3, h⟩ := bd_some h
  refine x_cvs (rest := []) (r_V C D (c_ByteRow_putText l g hD k1 hk1 u2 qu2 S1 u3 hu3) wc_ByteRow_putText wm_RequestWriter_37 wi_ByteRow_putText wd_ByteRow_putText (nR hk1) (sh_R hk1) kc_ByteRow.1 rfl rfl hl (Nat.le_of_ble_eq_true rfl) (by decide) d_RequestWriter_compose_13) D (fun H locs D => ?_)
  refine lv_aload_n hx hb d_RequestWriter_compose_16 rfl (lv_at hl 1 rfl) ?_
  refine lv_bipush (v := 32) hx hb d_RequestWriter_compose_17 (by decide) ?_
  obtain ⟨u4, hu4, h⟩ := bd_some h
  refine x_cvs (rest := []) (r_V C D (c_ByteRow_put l g hD k1 hk1 32 u3 u4 hu4) wc_ByteRow_put wm_RequestWriter_41 wi_ByteRow_put wd_ByteRow_put (nR hk1) (sh_R hk1) kc_ByteRow.1 rfl rfl hl (Nat.le_of_ble_eq_true rfl) (by decide) d_RequestWriter_compose_19) D (fun H locs D => ?_)
  refine lv_aload_n hx hb d_RequestWriter_compose_22 rfl (lv_at hl 0 rfl) ?_
  refine lv_aload_n hx hb d_RequestWriter_compose_23 rfl (lv_at hl 1 rfl) ?_
  obtain ⟨u5, hu5, h⟩ := bd_some h
  refine x_cvs (rest := []) (r_V C D (c_RequestWriter_putExpanded l g hD k1 hk1 u4 u5 hu5) wc_RequestWriter_putExpanded wm_RequestWriter_44 wi_RequestWriter_putExpanded wd_RequestWriter_putExpanded (by decide) sh_5 kc_RequestWriter.1 rfl rfl hl (Nat.le_of_ble_eq_true rfl) (by decide) d_RequestWriter_compose_24) D (fun H locs D => ?_)
  refine lv_aload_n hx hb d_RequestWriter_compose_27 rfl (lv_at hl 0 rfl) ?_
  refine lv_aload_n hx hb d_RequestWriter_compose_28 rfl (lv_at hl 1 rfl) ?_
  obtain ⟨u6, hu6, h⟩ := bd_some h
  refine x_cvs (rest := []) (r_V C D (c_RequestWriter_putQuery l g hD k1 hk1 u5 u6 hu6) wc_RequestWriter_putQuery wm_RequestWriter_48 wi_RequestWriter_putQuery wd_RequestWriter_putQuery (by decide) sh_5 kc_RequestWriter.1 rfl rfl hl (Nat.le_of_ble_eq_true rfl) (by decide) d_RequestWriter_compose_29) D (fun H locs D => ?_)
  refine lv_aload_n hx hb d_RequestWriter_compose_32 rfl (lv_at hl 1 rfl) ?_
  refine x_lds C (q := 9) wl_RequestWriter_51 d_RequestWriter_compose_33 ?_
  obtain ⟨u7, hu7, h⟩ := bd_some h
  refine x_cvs (rest := []) (r_V C D (c_ByteRow_putText l g hD k1 hk1 9 (by decide) u6 u7 hu7) wc_ByteRow_putText wm_RequestWriter_37 wi_ByteRow_putText wd_ByteRow_putText (nR hk1) (sh_R hk1) kc_ByteRow.1 rfl rfl hl (Nat.le_of_ble_eq_true rfl) (by decide) d_RequestWriter_compose_35) D (fun H locs D => ?_)
  refine lv_aload_n hx hb d_RequestWriter_compose_38 rfl (lv_at hl 0 rfl) ?_
  refine lv_aload_n hx hb d_RequestWriter_compose_39 rfl (lv_at hl 1 rfl) ?_
  obtain ⟨u8, hu8, h⟩ := bd_some h
  refine x_cvs (rest := []) (r_V C D (c_RequestWriter_putHeaders l g hD k1 hk1 u7 u8 hu8) wc_RequestWriter_putHeaders wm_RequestWriter_53 wi_RequestWriter_putHeaders wd_RequestWriter_putHeaders (by decide) sh_5 kc_RequestWriter.1 rfl rfl hl (Nat.le_of_ble_eq_true rfl) (by decide) d_RequestWriter_compose_40) D (fun H locs D => ?_)
  refine lv_aload_n hx hb d_RequestWriter_compose_43 rfl (lv_at hl 0 rfl) ?_
  refine x_get (v := .ref (ga g 1)) C D kc_RequestWriter (by decide) sh_5 0 rfl (by decide) wf_RequestWriter_18 rfl rfl d_RequestWriter_compose_44 ?_
  obtain ⟨u9, hu9, h⟩ := bd_some h
  refine x_cip (rest := []) (r_V C D (c_Declaration_mayHaveContent l g hD u8 u9 hu9) wc_Declaration_mayHaveContent wm_RequestWriter_56 wi_Declaration_mayHaveContent wd_Declaration_mayHaveContent (by decide) sh_1 kc_Declaration.1 rfl rfl hl (Nat.le_of_ble_eq_true rfl) (by decide) d_RequestWriter_compose_47) D (fun H locs D => ?_)
  refine lv_if_eq hx hb d_RequestWriter_compose_50 rfl (fun z => ?_) (fun z => ?_)
  · replace h := if_t z h
    exact B92 _ _ _ _ _ hk1 h D (lv_sub hl [0, 1] rfl)
  · replace h := if_f z h
    refine lv_aload_n hx hb d_RequestWriter_compose_53 rfl (lv_at hl 0 rfl) ?_
    refine x_get (v := .ref (ga g (58 + 2))) C D kc_RequestWriter (by decide) sh_5 2 rfl (by decide) wf_RequestWriter_12 rfl rfl d_RequestWriter_compose_54 ?_
    refine lv_iconst (v := 0) hx hb d_RequestWriter_compose_57 (by decide) ?_
    refine x_putN C D kc_ByteRow (nR (by decide)) (sh_R (by decide)) 1 rfl (by decide) nf_RequestWriter_29 rfl rfl 0 rfl ⟨rfl, rfl⟩ d_RequestWriter_compose_58 h (fun S12 H locs h D => ?_)
    refine lv_aload_n hx hb d_RequestWriter_compose_61 rfl (lv_at hl 0 rfl) ?_
    refine lv_aload_n hx hb d_RequestWriter_compose_62 rfl (lv_at hl 0 rfl) ?_
    refine x_get (v := .ref (ga g (58 + 2))) C D kc_RequestWriter (by decide) sh_5 2 rfl (by decide) wf_RequestWriter_12 rfl rfl d_RequestWriter_compose_63 ?_
    obtain ⟨u13, hu13, h⟩ := bd_some h
    refine x_cvs (rest := []) (r_V C D (c_RequestWriter_putBodyOrForm l g hD 2 (by decide) S12 u13 hu13) wc_RequestWriter_putBodyOrForm wm_RequestWriter_60 wi_RequestWriter_putBodyOrForm wd_RequestWriter_putBodyOrForm (by decide) sh_5 kc_RequestWriter.1 rfl rfl hl (Nat.le_of_ble_eq_true rfl) (by decide) d_RequestWriter_compose_66) D (fun H locs D => ?_)
    refine lv_aload_n hx hb d_RequestWriter_compose_69 rfl (lv_at hl 1 rfl) ?_
    refine x_lds C (q := 14) wl_RequestWriter_63 d_RequestWriter_compose_70 ?_
    obtain ⟨u14, hu14, h⟩ := bd_some h
    refine x_cvs (rest := []) (r_V C D (c_ByteRow_putText l g hD k1 hk1 14 (by decide) u13 u14 hu14) wc_ByteRow_putText wm_RequestWriter_37 wi_ByteRow_putText wd_ByteRow_putText (nR hk1) (sh_R hk1) kc_ByteRow.1 rfl rfl hl (Nat.le_of_ble_eq_true rfl) (by decide) d_RequestWriter_compose_72) D (fun H locs D => ?_)
    refine lv_aload_n hx hb d_RequestWriter_compose_75 rfl (lv_at hl 1 rfl) ?_
    refine lv_aload_n hx hb d_RequestWriter_compose_76 rfl (lv_at hl 0 rfl) ?_
    refine x_get (v := .ref (ga g (58 + 2))) C D kc_RequestWriter (by decide) sh_5 2 rfl (by decide) wf_RequestWriter_12 rfl rfl d_RequestWriter_compose_77 ?_
    refine x_getN (v := .int (u14 (58 + 2) 1)) C D kc_ByteRow (nR (by decide)) (sh_R (by decide)) 1 rfl (by decide) nf_RequestWriter_29 rfl rfl d_RequestWriter_compose_80 ?_
    obtain ⟨u15, hu15, h⟩ := bd_some h
    refine x_cvs (rest := []) (r_V C D (c_ByteRow_putNumber l g hD k1 hk1 (u14 (58 + 2) 1) u14 u15 hu15) wc_ByteRow_putNumber wm_RequestWriter_65 wi_ByteRow_putNumber wd_ByteRow_putNumber (nR hk1) (sh_R hk1) kc_ByteRow.1 rfl rfl hl (Nat.le_of_ble_eq_true rfl) (by decide) d_RequestWriter_compose_83) D (fun H locs D => ?_)
    refine lv_aload_n hx hb d_RequestWriter_compose_86 rfl (lv_at hl 1 rfl) ?_
    refine x_lds C (q := 13) wl_RequestWriter_68 d_RequestWriter_compose_87 ?_
    obtain ⟨u16, hu16, h⟩ := bd_some h
    refine x_cvs (rest := []) (r_V C D (c_ByteRow_putText l g hD k1 hk1 13 (by decide) u15 u16 hu16) wc_ByteRow_putText wm_RequestWriter_37 wi_ByteRow_putText wd_ByteRow_putText (nR hk1) (sh_R hk1) kc_ByteRow.1 rfl rfl hl (Nat.le_of_ble_eq_true rfl) (by decide) d_RequestWriter_compose_89) D (fun H locs D => ?_)
    exact B92 _ _ _ _ _ hk1 h D (lv_sub hl [0, 1] rfl)
