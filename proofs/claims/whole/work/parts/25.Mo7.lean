theorem d_Mo_compose_0 : decode b_Mo_compose 0 = .ok (.aload_n 0, 1) := by decide +kernel
theorem d_Mo_compose_1 : decode b_Mo_compose 1 = .ok (.iconst 0, 1) := by decide +kernel
theorem d_Mo_compose_2 : decode b_Mo_compose 2 = .ok (.putfield 131, 3) := by decide +kernel
theorem d_Mo_compose_5 : decode b_Mo_compose 5 = .ok (.aload_n 0, 1) := by decide +kernel
theorem d_Mo_compose_6 : decode b_Mo_compose 6 = .ok (.iconst 1, 1) := by decide +kernel
theorem d_Mo_compose_7 : decode b_Mo_compose 7 = .ok (.putfield 127, 3) := by decide +kernel
theorem d_Mo_compose_10 : decode b_Mo_compose 10 = .ok (.iconst 0, 1) := by decide +kernel
theorem d_Mo_compose_11 : decode b_Mo_compose 11 = .ok (.istore_n 1, 1) := by decide +kernel
theorem d_Mo_compose_12 : decode b_Mo_compose 12 = .ok (.iload_n 1, 1) := by decide +kernel
theorem d_Mo_compose_13 : decode b_Mo_compose 13 = .ok (.aload_n 0, 1) := by decide +kernel
theorem d_Mo_compose_14 : decode b_Mo_compose 14 = .ok (.getfield 53, 3) := by decide +kernel
theorem d_Mo_compose_17 : decode b_Mo_compose 17 = .ok (.if_icmp .ge 107, 3) := by decide +kernel
theorem d_Mo_compose_20 : decode b_Mo_compose 20 = .ok (.aload_n 0, 1) := by decide +kernel
theorem d_Mo_compose_21 : decode b_Mo_compose 21 = .ok (.getfield 13, 3) := by decide +kernel
theorem d_Mo_compose_24 : decode b_Mo_compose 24 = .ok (.iload_n 1, 1) := by decide +kernel
theorem d_Mo_compose_25 : decode b_Mo_compose 25 = .ok (.iaload, 1) := by decide +kernel
theorem d_Mo_compose_26 : decode b_Mo_compose 26 = .ok (.iconst 5, 1) := by decide +kernel
theorem d_Mo_compose_27 : decode b_Mo_compose 27 = .ok (.if_icmp .ne 22, 3) := by decide +kernel
theorem d_Mo_compose_30 : decode b_Mo_compose 30 = .ok (.aload_n 0, 1) := by decide +kernel
theorem d_Mo_compose_31 : decode b_Mo_compose 31 = .ok (.getfield 19, 3) := by decide +kernel
theorem d_Mo_compose_34 : decode b_Mo_compose 34 = .ok (.iload_n 1, 1) := by decide +kernel
theorem d_Mo_compose_35 : decode b_Mo_compose 35 = .ok (.iaload, 1) := by decide +kernel
theorem d_Mo_compose_36 : decode b_Mo_compose 36 = .ok (.ifCond .le 13, 3) := by decide +kernel
theorem d_Mo_compose_39 : decode b_Mo_compose 39 = .ok (.aload_n 0, 1) := by decide +kernel
theorem d_Mo_compose_40 : decode b_Mo_compose 40 = .ok (.iconst 3, 1) := by decide +kernel
theorem d_Mo_compose_41 : decode b_Mo_compose 41 = .ok (.iload_n 1, 1) := by decide +kernel
theorem d_Mo_compose_42 : decode b_Mo_compose 42 = .ok (.imul, 1) := by decide +kernel
theorem d_Mo_compose_43 : decode b_Mo_compose 43 = .ok (.bipush 8, 2) := by decide +kernel
theorem d_Mo_compose_45 : decode b_Mo_compose 45 = .ok (.iconst 3, 1) := by decide +kernel
theorem d_Mo_compose_46 : decode b_Mo_compose 46 = .ok (.invokevirtual 164, 3) := by decide +kernel
theorem d_Mo_compose_49 : decode b_Mo_compose 49 = .ok (.iconst 0, 1) := by decide +kernel
theorem d_Mo_compose_50 : decode b_Mo_compose 50 = .ok (.istore_n 2, 1) := by decide +kernel
theorem d_Mo_compose_51 : decode b_Mo_compose 51 = .ok (.aload_n 0, 1) := by decide +kernel
theorem d_Mo_compose_52 : decode b_Mo_compose 52 = .ok (.getfield 13, 3) := by decide +kernel
theorem d_Mo_compose_55 : decode b_Mo_compose 55 = .ok (.iload_n 1, 1) := by decide +kernel
theorem d_Mo_compose_56 : decode b_Mo_compose 56 = .ok (.iaload, 1) := by decide +kernel
theorem d_Mo_compose_57 : decode b_Mo_compose 57 = .ok (.iconst 4, 1) := by decide +kernel
theorem d_Mo_compose_58 : decode b_Mo_compose 58 = .ok (.if_icmp .ne 60, 3) := by decide +kernel
theorem d_Mo_compose_61 : decode b_Mo_compose 61 = .ok (.iload_n 2, 1) := by decide +kernel
theorem d_Mo_compose_62 : decode b_Mo_compose 62 = .ok (.aload_n 0, 1) := by decide +kernel
theorem d_Mo_compose_63 : decode b_Mo_compose 63 = .ok (.getfield 19, 3) := by decide +kernel
theorem d_Mo_compose_66 : decode b_Mo_compose 66 = .ok (.iload_n 1, 1) := by decide +kernel
theorem d_Mo_compose_67 : decode b_Mo_compose 67 = .ok (.iaload, 1) := by decide +kernel
theorem d_Mo_compose_68 : decode b_Mo_compose 68 = .ok (.if_icmp .ge 50, 3) := by decide +kernel
theorem d_Mo_compose_71 : decode b_Mo_compose 71 = .ok (.aload_n 0, 1) := by decide +kernel
theorem d_Mo_compose_72 : decode b_Mo_compose 72 = .ok (.getfield 131, 3) := by decide +kernel
theorem d_Mo_compose_75 : decode b_Mo_compose 75 = .ok (.ifCond .le 9, 3) := by decide +kernel
theorem d_Mo_compose_78 : decode b_Mo_compose 78 = .ok (.aload_n 0, 1) := by decide +kernel
theorem d_Mo_compose_79 : decode b_Mo_compose 79 = .ok (.bipush 38, 2) := by decide +kernel
theorem d_Mo_compose_81 : decode b_Mo_compose 81 = .ok (.invokevirtual 142, 3) := by decide +kernel
theorem d_Mo_compose_84 : decode b_Mo_compose 84 = .ok (.aload_n 0, 1) := by decide +kernel
theorem d_Mo_compose_85 : decode b_Mo_compose 85 = .ok (.aload_n 0, 1) := by decide +kernel
theorem d_Mo_compose_86 : decode b_Mo_compose 86 = .ok (.getfield 16, 3) := by decide +kernel
theorem d_Mo_compose_89 : decode b_Mo_compose 89 = .ok (.iload_n 1, 1) := by decide +kernel
theorem d_Mo_compose_90 : decode b_Mo_compose 90 = .ok (.iaload, 1) := by decide +kernel
theorem d_Mo_compose_91 : decode b_Mo_compose 91 = .ok (.invokevirtual 142, 3) := by decide +kernel
theorem d_Mo_compose_94 : decode b_Mo_compose 94 = .ok (.aload_n 0, 1) := by decide +kernel
theorem d_Mo_compose_95 : decode b_Mo_compose 95 = .ok (.bipush 61, 2) := by decide +kernel
theorem d_Mo_compose_97 : decode b_Mo_compose 97 = .ok (.invokevirtual 142, 3) := by decide +kernel
theorem d_Mo_compose_100 : decode b_Mo_compose 100 = .ok (.aload_n 0, 1) := by decide +kernel
theorem d_Mo_compose_101 : decode b_Mo_compose 101 = .ok (.iconst 3, 1) := by decide +kernel
theorem d_Mo_compose_102 : decode b_Mo_compose 102 = .ok (.iload_n 1, 1) := by decide +kernel
theorem d_Mo_compose_103 : decode b_Mo_compose 103 = .ok (.imul, 1) := by decide +kernel
theorem d_Mo_compose_104 : decode b_Mo_compose 104 = .ok (.iload_n 2, 1) := by decide +kernel
theorem d_Mo_compose_105 : decode b_Mo_compose 105 = .ok (.iadd, 1) := by decide +kernel
theorem d_Mo_compose_106 : decode b_Mo_compose 106 = .ok (.bipush 8, 2) := by decide +kernel
theorem d_Mo_compose_108 : decode b_Mo_compose 108 = .ok (.iconst 2, 1) := by decide +kernel
theorem d_Mo_compose_109 : decode b_Mo_compose 109 = .ok (.invokevirtual 164, 3) := by decide +kernel
theorem d_Mo_compose_112 : decode b_Mo_compose 112 = .ok (.iinc 2 1, 3) := by decide +kernel
theorem d_Mo_compose_115 : decode b_Mo_compose 115 = .ok (.goto (-64), 3) := by decide +kernel
theorem d_Mo_compose_118 : decode b_Mo_compose 118 = .ok (.iinc 1 1, 3) := by decide +kernel
theorem d_Mo_compose_121 : decode b_Mo_compose 121 = .ok (.goto (-109), 3) := by decide +kernel
theorem d_Mo_compose_124 : decode b_Mo_compose 124 = .ok (.aload_n 0, 1) := by decide +kernel
theorem d_Mo_compose_125 : decode b_Mo_compose 125 = .ok (.iconst 0, 1) := by decide +kernel
theorem d_Mo_compose_126 : decode b_Mo_compose 126 = .ok (.putfield 127, 3) := by decide +kernel
theorem d_Mo_compose_129 : decode b_Mo_compose 129 = .ok (.return_, 1) := by decide +kernel
def f_Mo_compose_118 (K12 : Int32 → zSt → Option zSt) (a1 : Int32) (S : zSt) : Option zSt := (K12 (a1 + 1) S)
def f_Mo_compose_84 (K12 : Int32 → zSt → Option zSt) (K51 : Int32 → Int32 → zSt → Option zSt) (a1 : Int32) (a2 : Int32) (S : zSt) : Option zSt := gdi a1 6 (((f_Mo_put (S 69 a1.toNatClampNeg) S).bind fun u6 => ((f_Mo_put 61 u6).bind fun u7 => ((f_Mo_encode ((3 * a1) + a2) 8 2 u7).bind fun u8 => (K51 a1 (a2 + 1) u8)))))
def f_Mo_compose_51 (K12 : Int32 → zSt → Option zSt) : Nat → Int32 → Int32 → zSt → Option zSt
  | 0, _, _, _ => none
  | n + 1, a1, a2, S => gdi a1 6 ((if (S 68 a1.toNatClampNeg) = 4 then gdi a1 6 ((if (S 70 a1.toNatClampNeg) ≤ a2 then (f_Mo_compose_118 K12 a1 S) else (if (S 66 15) ≤ 0 then (f_Mo_compose_84 K12 (f_Mo_compose_51 K12 n) a1 a2 S) else ((f_Mo_put 38 S).bind fun u9 => (f_Mo_compose_84 K12 (f_Mo_compose_51 K12 n) a1 a2 u9))))) else (f_Mo_compose_118 K12 a1 S)))
def f_Mo_compose_49 (K12 : Int32 → zSt → Option zSt) (a1 : Int32) (S : zSt) : Option zSt := (f_Mo_compose_51 K12 fu a1 0 S)
def f_Mo_compose_12 : Nat → Int32 → zSt → Option zSt
  | 0, _, _ => none
  | n + 1, a1, S => (if (S 66 3) ≤ a1 then gdb 0 (sq (su S 66 14 0) fun S4 => (some S4)) else gdi a1 6 ((if (S 68 a1.toNatClampNeg) = 5 then gdi a1 6 ((if (S 70 a1.toNatClampNeg) ≤ 0 then (f_Mo_compose_49 (f_Mo_compose_12 n) a1 S) else ((f_Mo_encode (3 * a1) 8 3 S).bind fun u10 => (f_Mo_compose_49 (f_Mo_compose_12 n) a1 u10)))) else (f_Mo_compose_49 (f_Mo_compose_12 n) a1 S))))
def f_Mo_compose (S : zSt) : Option zSt := sq (su S 66 15 0) fun S1 => gdb 1 (sq (su S1 66 14 1) fun S2 => (f_Mo_compose_12 fu 0 S2))
set_option maxHeartbeats 4000000 in
set_option maxRecDepth 100000 in
theorem c_Mo_compose (l : Launch) (g : zG) (hD : GD g) (S : zSt) (u : zSt) (h : f_Mo_compose S = some u) : Met l y_Mo_compose (mw y_Mo_compose b_Mo_compose 3 none) (rmD 5) (Pw g [.ref (ga g 66)] S) (Qvs g u) 0 0 (gA g) := by
  refine z_go (own := R_Mo) (lv0 := [(0, .ref (ga g 66))]) hD (by decide) rfl (Nat.le_of_ble_eq_true rfl) rfl ?_
  intro p e s m args below meth c C D ls hl
  have hx := C.1
  have hb := C.2.1
  have hown := C.2.2.2.1
  have hts := C.2.2.2.2.1
  have B118 : ∀ (K12 : Int32 → zSt → Option zSt) (hK12 : ∀ (H : Heap) (locs : List Loc) (S : zSt) (ls : Array Slot) (a1 : Int32), K12 a1 S = some u → Dy g s S H locs → lv_has ls 3 [(0, .ref (ga g 66)), (1, .int a1)] → W p l e (rmD 5) s m args below meth c H locs 0 0 (MQ below (Qvs g u) args s 0 0 (gA g)) (F0 m 12 ls [])) (H : Heap) (locs : List Loc) (S : zSt) (ls : Array Slot) (a1 : Int32), f_Mo_compose_118 K12 a1 S = some u → Dy g s S H locs → lv_has ls 3 [(0, .ref (ga g 66)), (1, .int a1)] → W p l e (rmD 5) s m args below meth c H locs 0 0 (MQ below (Qvs g u) args s 0 0 (gA g)) (F0 m 118 ls []) := by
    intro K12 hK12 H locs S ls a1 h D hl
    unfold f_Mo_compose_118 at h
    refine lv_iinc (k := 1) (lv' := [(1, .int (a1 + 1)), (0, .ref (ga g 66))]) hx hb d_Mo_compose_118 hl rfl (ii1 _) (by decide) rfl (fun ls hl => ?_)
    refine lv_goto hx hb d_Mo_compose_121 rfl ?_
    exact hK12 _ _ _ _ _ h D (lv_sub hl [1, 0] rfl)
  have B84 : ∀ (K12 : Int32 → zSt → Option zSt) (hK12 : ∀ (H : Heap) (locs : List Loc) (S : zSt) (ls : Array Slot) (a1 : Int32), K12 a1 S = some u → Dy g s S H locs → lv_has ls 3 [(0, .ref (ga g 66)), (1, .int a1)] → W p l e (rmD 5) s m args below meth c H locs 0 0 (MQ below (Qvs g u) args s 0 0 (gA g)) (F0 m 12 ls [])) (K51 : Int32 → Int32 → zSt → Option zSt) (hK51 : ∀ (H : Heap) (locs : List Loc) (S : zSt) (ls : Array Slot) (a1 : Int32) (a2 : Int32), K51 a1 a2 S = some u → Dy g s S H locs → lv_has ls 3 [(0, .ref (ga g 66)), (1, .int a1), (2, .int a2)] → W p l e (rmD 5) s m args below meth c H locs 0 0 (MQ below (Qvs g u) args s 0 0 (gA g)) (F0 m 51 ls [])) (H : Heap) (locs : List Loc) (S : zSt) (ls : Array Slot) (a1 : Int32) (a2 : Int32), f_Mo_compose_84 K12 K51 a1 a2 S = some u → Dy g s S H locs → lv_has ls 3 [(0, .ref (ga g 66)), (1, .int a1), (2, .int a2)] → W p l e (rmD 5) s m args below meth c H locs 0 0 (MQ below (Qvs g u) args s 0 0 (gA g)) (F0 m 84 ls []) := by
    intro K12 hK12 K51 hK51 H locs S ls a1 a2 h D hl
    unfold f_Mo_compose_84 at h
    refine lv_aload_n hx hb d_Mo_compose_84 rfl (lv_at hl 0 rfl) ?_
    refine lv_aload_n hx hb d_Mo_compose_85 rfl (lv_at hl 0 rfl) ?_
    refine x_get (v := .ref (ga g 69)) C D kc_Mo (by decide) sh_66 5 rfl (by decide) wf_Mo_16 rfl rfl d_Mo_compose_86 ?_
    refine lv_iload_n hx hb d_Mo_compose_89 rfl (lv_at hl 1 rfl) ?_
    refine x_iald C D (by decide) sh_69 d_Mo_compose_90 h (fun _ h => ?_)
    obtain ⟨u6, hu6, h⟩ := bd_some h
    refine x_cvs (rest := []) (r_V C D (c_Mo_put l g hD (S 69 a1.toNatClampNeg) S u6 hu6) wc_Mo_put wm_Mo_142 wi_Mo_put wd_Mo_put (by decide) sh_66 kc_Mo.1 rfl rfl hl (Nat.le_of_ble_eq_true rfl) (by decide) d_Mo_compose_91) D (fun H locs D => ?_)
    refine lv_aload_n hx hb d_Mo_compose_94 rfl (lv_at hl 0 rfl) ?_
    refine lv_bipush (v := 61) hx hb d_Mo_compose_95 (by decide) ?_
    obtain ⟨u7, hu7, h⟩ := bd_some h
    refine x_cvs (rest := []) (r_V C D (c_Mo_put l g hD 61 u6 u7 hu7) wc_Mo_put wm_Mo_142 wi_Mo_put wd_Mo_put (by decide) sh_66 kc_Mo.1 rfl rfl hl (Nat.le_of_ble_eq_true rfl) (by decide) d_Mo_compose_97) D (fun H locs D => ?_)
    refine lv_aload_n hx hb d_Mo_compose_100 rfl (lv_at hl 0 rfl) ?_
    refine lv_iconst (v := 3) hx hb d_Mo_compose_101 (by decide) ?_
    refine lv_iload_n hx hb d_Mo_compose_102 rfl (lv_at hl 1 rfl) ?_
    refine lv_imul hx hb d_Mo_compose_103 ?_
    refine lv_iload_n hx hb d_Mo_compose_104 rfl (lv_at hl 2 rfl) ?_
    refine lv_iadd hx hb d_Mo_compose_105 ?_
    refine lv_bipush (v := 8) hx hb d_Mo_compose_106 (by decide) ?_
    refine lv_iconst (v := 2) hx hb d_Mo_compose_108 (by decide) ?_
    obtain ⟨u8, hu8, h⟩ := bd_some h
    refine x_cvs (rest := []) (r_V C D (c_Mo_encode l g hD ((3 * a1) + a2) 8 2 u7 u8 hu8) wc_Mo_encode wm_Mo_164 wi_Mo_encode wd_Mo_encode (by decide) sh_66 kc_Mo.1 rfl rfl hl (Nat.le_of_ble_eq_true rfl) (by decide) d_Mo_compose_109) D (fun H locs D => ?_)
    refine lv_iinc (k := 2) (lv' := [(2, .int (a2 + 1)), (0, .ref (ga g 66)), (1, .int a1)]) hx hb d_Mo_compose_112 hl rfl (ii1 _) (by decide) rfl (fun ls hl => ?_)
    refine lv_goto hx hb d_Mo_compose_115 rfl ?_
    exact hK51 _ _ _ _ _ _ h D (lv_sub hl [1, 2, 0] rfl)
  have L51 : ∀ (K12 : Int32 → zSt → Option zSt) (hK12 : ∀ (H : Heap) (locs : List Loc) (S : zSt) (ls : Array Slot) (a1 : Int32), K12 a1 S = some u → Dy g s S H locs → lv_has ls 3 [(0, .ref (ga g 66)), (1, .int a1)] → W p l e (rmD 5) s m args below meth c H locs 0 0 (MQ below (Qvs g u) args s 0 0 (gA g)) (F0 m 12 ls [])) (n : Nat) (H : Heap) (locs : List Loc) (S : zSt) (ls : Array Slot) (a1 : Int32) (a2 : Int32), f_Mo_compose_51 K12 n a1 a2 S = some u → Dy g s S H locs → lv_has ls 3 [(0, .ref (ga g 66)), (1, .int a1), (2, .int a2)] → W p l e (rmD 5) s m args below meth c H locs 0 0 (MQ below (Qvs g u) args s 0 0 (gA g)) (F0 m 51 ls []) := by
    intro K12 hK12 n
    induction n with
    | zero => intro H locs S ls a1 a2 h D hl; rw [f_Mo_compose_51] at h; cases h
    | succ n hK51 =>
      intro H locs S ls a1 a2 h D hl
      rw [f_Mo_compose_51] at h
      refine lv_aload_n hx hb d_Mo_compose_51 rfl (lv_at hl 0 rfl) ?_
      refine x_get (v := .ref (ga g 68)) C D kc_Mo (by decide) sh_66 4 rfl (by decide) wf_Mo_13 rfl rfl d_Mo_compose_52 ?_
      refine lv_iload_n hx hb d_Mo_compose_55 rfl (lv_at hl 1 rfl) ?_
      refine x_iald C D (by decide) sh_68 d_Mo_compose_56 h (fun _ h => ?_)
      refine lv_iconst (v := 4) hx hb d_Mo_compose_57 (by decide) ?_
      refine lv_icmp_ne hx hb d_Mo_compose_58 rfl (fun z => ?_) (fun z => ?_)
      · replace h := if_f z h
        exact B118 _ hK12 _ _ _ _ _ h D (lv_sub hl [0, 1] rfl)
      · replace h := if_t z h
        refine lv_iload_n hx hb d_Mo_compose_61 rfl (lv_at hl 2 rfl) ?_
        refine lv_aload_n hx hb d_Mo_compose_62 rfl (lv_at hl 0 rfl) ?_
        refine x_get (v := .ref (ga g 70)) C D kc_Mo (by decide) sh_66 6 rfl (by decide) wf_Mo_19 rfl rfl d_Mo_compose_63 ?_
        refine lv_iload_n hx hb d_Mo_compose_66 rfl (lv_at hl 1 rfl) ?_
        refine x_iald C D (by decide) sh_70 d_Mo_compose_67 h (fun _ h => ?_)
        refine lv_icmp_ge hx hb d_Mo_compose_68 rfl (fun z => ?_) (fun z => ?_)
        · replace h := if_t z h
          exact B118 _ hK12 _ _ _ _ _ h D (lv_sub hl [0, 1] rfl)
        · replace h := if_f z h
          refine lv_aload_n hx hb d_Mo_compose_71 rfl (lv_at hl 0 rfl) ?_
          refine x_get (v := .int (S 66 15)) C D kc_Mo (by decide) sh_66 15 rfl (by decide) wf_Mo_131 rfl rfl d_Mo_compose_72 ?_
          refine lv_if_le hx hb d_Mo_compose_75 rfl (fun z => ?_) (fun z => ?_)
          · replace h := if_t z h
            exact B84 _ hK12 _ hK51 _ _ _ _ _ _ h D (lv_sub hl [0, 1, 2] rfl)
          · replace h := if_f z h
            refine lv_aload_n hx hb d_Mo_compose_78 rfl (lv_at hl 0 rfl) ?_
            refine lv_bipush (v := 38) hx hb d_Mo_compose_79 (by decide) ?_
            obtain ⟨u9, hu9, h⟩ := bd_some h
            refine x_cvs (rest := []) (r_V C D (c_Mo_put l g hD 38 S u9 hu9) wc_Mo_put wm_Mo_142 wi_Mo_put wd_Mo_put (by decide) sh_66 kc_Mo.1 rfl rfl hl (Nat.le_of_ble_eq_true rfl) (by decide) d_Mo_compose_81) D (fun H locs D => ?_)
            exact B84 _ hK12 _ hK51 _ _ _ _ _ _ h D (lv_sub hl [0, 1, 2] rfl)
  have B49 : ∀ (K12 : Int32 → zSt → Option zSt) (hK12 : ∀ (H : Heap) (locs : List Loc) (S : zSt) (ls : Array Slot) (a1 : Int32), K12 a1 S = some u → Dy g s S H locs → lv_has ls 3 [(0, .ref (ga g 66)), (1, .int a1)] → W p l e (rmD 5) s m args below meth c H locs 0 0 (MQ below (Qvs g u) args s 0 0 (gA g)) (F0 m 12 ls [])) (H : Heap) (locs : List Loc) (S : zSt) (ls : Array Slot) (a1 : Int32), f_Mo_compose_49 K12 a1 S = some u → Dy g s S H locs → lv_has ls 3 [(0, .ref (ga g 66)), (1, .int a1)] → W p l e (rmD 5) s m args below meth c H locs 0 0 (MQ below (Qvs g u) args s 0 0 (gA g)) (F0 m 49 ls []) := by
    intro K12 hK12 H locs S ls a1 h D hl
    unfold f_Mo_compose_49 at h
    refine lv_iconst (v := 0) hx hb d_Mo_compose_49 (by decide) ?_
    refine lv_istore_n (lv' := [(2, .int 0), (0, .ref (ga g 66)), (1, .int a1)]) hx hb d_Mo_compose_50 rfl hl (by decide) rfl (fun ls hl => ?_)
    exact L51 _ hK12 _ _ _ _ _ _ _ h D (lv_sub hl [1, 2, 0] rfl)
  have L12 : ∀ (n : Nat) (H : Heap) (locs : List Loc) (S : zSt) (ls : Array Slot) (a1 : Int32), f_Mo_compose_12 n a1 S = some u → Dy g s S H locs → lv_has ls 3 [(0, .ref (ga g 66)), (1, .int a1)] → W p l e (rmD 5) s m args below meth c H locs 0 0 (MQ below (Qvs g u) args s 0 0 (gA g)) (F0 m 12 ls []) := by
    intro n
    induction n with
    | zero => intro H locs S ls a1 h D hl; rw [f_Mo_compose_12] at h; cases h
    | succ n hK12 =>
      intro H locs S ls a1 h D hl
      rw [f_Mo_compose_12] at h
      refine lv_iload_n hx hb d_Mo_compose_12 rfl (lv_at hl 1 rfl) ?_
      refine lv_aload_n hx hb d_Mo_compose_13 rfl (lv_at hl 0 rfl) ?_
      refine x_get (v := .int (S 66 3)) C D kc_Mo (by decide) sh_66 3 rfl (by decide) wf_Mo_53 rfl rfl d_Mo_compose_14 ?_
      refine lv_icmp_ge hx hb d_Mo_compose_17 rfl (fun z => ?_) (fun z => ?_)
      · replace h := if_t z h
        refine lv_aload_n hx hb d_Mo_compose_124 rfl (lv_at hl 0 rfl) ?_
        refine lv_iconst (v := 0) hx hb d_Mo_compose_125 (by decide) ?_
        obtain ⟨z5, h⟩ := gdb_some h
        refine x_put C D kc_Mo (by decide) sh_66 14 rfl (by decide) wf_Mo_127 rfl rfl 0 rfl z5 d_Mo_compose_126 h (fun S4 H locs h D => ?_)
        exact x_vrs C D h d_Mo_compose_129
      · replace h := if_f z h
        refine lv_aload_n hx hb d_Mo_compose_20 rfl (lv_at hl 0 rfl) ?_
        refine x_get (v := .ref (ga g 68)) C D kc_Mo (by decide) sh_66 4 rfl (by decide) wf_Mo_13 rfl rfl d_Mo_compose_21 ?_
        refine lv_iload_n hx hb d_Mo_compose_24 rfl (lv_at hl 1 rfl) ?_
        refine x_iald C D (by decide) sh_68 d_Mo_compose_25 h (fun _ h => ?_)
        refine lv_iconst (v := 5) hx hb d_Mo_compose_26 (by decide) ?_
        refine lv_icmp_ne hx hb d_Mo_compose_27 rfl (fun z => ?_) (fun z => ?_)
        · replace h := if_f z h
          exact B49 _ hK12 _ _ _ _ _ h D (lv_sub hl [0, 1] rfl)
        · replace h := if_t z h
          refine lv_aload_n hx hb d_Mo_compose_30 rfl (lv_at hl 0 rfl) ?_
          refine x_get (v := .ref (ga g 70)) C D kc_Mo (by decide) sh_66 6 rfl (by decide) wf_Mo_19 rfl rfl d_Mo_compose_31 ?_
          refine lv_iload_n hx hb d_Mo_compose_34 rfl (lv_at hl 1 rfl) ?_
          refine x_iald C D (by decide) sh_70 d_Mo_compose_35 h (fun _ h => ?_)
          refine lv_if_le hx hb d_Mo_compose_36 rfl (fun z => ?_) (fun z => ?_)
          · replace h := if_t z h
            exact B49 _ hK12 _ _ _ _ _ h D (lv_sub hl [0, 1] rfl)
          · replace h := if_f z h
            refine lv_aload_n hx hb d_Mo_compose_39 rfl (lv_at hl 0 rfl) ?_
            refine lv_iconst (v := 3) hx hb d_Mo_compose_40 (by decide) ?_
            refine lv_iload_n hx hb d_Mo_compose_41 rfl (lv_at hl 1 rfl) ?_
            refine lv_imul hx hb d_Mo_compose_42 ?_
            refine lv_bipush (v := 8) hx hb d_Mo_compose_43 (by decide) ?_
            refine lv_iconst (v := 3) hx hb d_Mo_compose_45 (by decide) ?_
            obtain ⟨u10, hu10, h⟩ := bd_some h
            refine x_cvs (rest := []) (r_V C D (c_Mo_encode l g hD (3 * a1) 8 3 S u10 hu10) wc_Mo_encode wm_Mo_164 wi_Mo_encode wd_Mo_encode (by decide) sh_66 kc_Mo.1 rfl rfl hl (Nat.le_of_ble_eq_true rfl) (by decide) d_Mo_compose_46) D (fun H locs D => ?_)
            exact B49 _ hK12 _ _ _ _ _ h D (lv_sub hl [0, 1] rfl)
  unfold f_Mo_compose at h
  refine lv_aload_n hx hb d_Mo_compose_0 rfl (lv_at hl 0 rfl) ?_
  refine lv_iconst (v := 0) hx hb d_Mo_compose_1 (by decide) ?_
  refine x_put C D kc_Mo (by decide) sh_66 15 rfl (by decide) wf_Mo_131 rfl rfl 0 rfl ⟨rfl, rfl⟩ d_Mo_compose_2 h (fun S1 H locs h D => ?_)
  refine lv_aload_n hx hb d_Mo_compose_5 rfl (lv_at hl 0 rfl) ?_
  refine lv_iconst (v := 1) hx hb d_Mo_compose_6 (by decide) ?_
  obtain ⟨z3, h⟩ := gdb_some h
  refine x_put C D kc_Mo (by decide) sh_66 14 rfl (by decide) wf_Mo_127 rfl rfl 1 rfl z3 d_Mo_compose_7 h (fun S2 H locs h D => ?_)
  refine lv_iconst (v := 0) hx hb d_Mo_compose_10 (by decide) ?_
  refine lv_istore_n (lv' := [(1, .int 0), (0, .ref (ga g 66))]) hx hb d_Mo_compose_11 rfl hl (by decide) rfl (fun ls hl => ?_)
  exact L12 _ _ _ _ _ _ h D (lv_sub hl [1, 0] rfl)
theorem d_Mo_headers_0 : decode b_Mo_headers 0 = .ok (.iconst 0, 1) := by decide +kernel
theorem d_Mo_headers_1 : decode b_Mo_headers 1 = .ok (.istore_n 1, 1) := by decide +kernel
theorem d_Mo_headers_2 : decode b_Mo_headers 2 = .ok (.iload_n 1, 1) := by decide +kernel
theorem d_Mo_headers_3 : decode b_Mo_headers 3 = .ok (.aload_n 0, 1) := by decide +kernel
theorem d_Mo_headers_4 : decode b_Mo_headers 4 = .ok (.getfield 53, 3) := by decide +kernel
theorem d_Mo_headers_7 : decode b_Mo_headers 7 = .ok (.if_icmp .ge 97, 3) := by decide +kernel
theorem d_Mo_headers_10 : decode b_Mo_headers 10 = .ok (.aload_n 0, 1) := by decide +kernel
theorem d_Mo_headers_11 : decode b_Mo_headers 11 = .ok (.getfield 13, 3) := by decide +kernel
theorem d_Mo_headers_14 : decode b_Mo_headers 14 = .ok (.iload_n 1, 1) := by decide +kernel
theorem d_Mo_headers_15 : decode b_Mo_headers 15 = .ok (.iaload, 1) := by decide +kernel
theorem d_Mo_headers_16 : decode b_Mo_headers 16 = .ok (.iconst 3, 1) := by decide +kernel
theorem d_Mo_headers_17 : decode b_Mo_headers 17 = .ok (.if_icmp .ne 81, 3) := by decide +kernel
theorem d_Mo_headers_20 : decode b_Mo_headers 20 = .ok (.aload_n 0, 1) := by decide +kernel
theorem d_Mo_headers_21 : decode b_Mo_headers 21 = .ok (.getfield 19, 3) := by decide +kernel
theorem d_Mo_headers_24 : decode b_Mo_headers 24 = .ok (.iload_n 1, 1) := by decide +kernel
theorem d_Mo_headers_25 : decode b_Mo_headers 25 = .ok (.iaload, 1) := by decide +kernel
theorem d_Mo_headers_26 : decode b_Mo_headers 26 = .ok (.ifCond .le 72, 3) := by decide +kernel
theorem d_Mo_headers_29 : decode b_Mo_headers 29 = .ok (.aload_n 0, 1) := by decide +kernel
theorem d_Mo_headers_30 : decode b_Mo_headers 30 = .ok (.ldc2_w 178, 3) := by decide +kernel
theorem d_Mo_headers_33 : decode b_Mo_headers 33 = .ok (.invokevirtual 180, 3) := by decide +kernel
theorem d_Mo_headers_36 : decode b_Mo_headers 36 = .ok (.aload_n 0, 1) := by decide +kernel
theorem d_Mo_headers_37 : decode b_Mo_headers 37 = .ok (.aload_n 0, 1) := by decide +kernel
theorem d_Mo_headers_38 : decode b_Mo_headers 38 = .ok (.getfield 16, 3) := by decide +kernel
theorem d_Mo_headers_41 : decode b_Mo_headers 41 = .ok (.iload_n 1, 1) := by decide +kernel
theorem d_Mo_headers_42 : decode b_Mo_headers 42 = .ok (.iaload, 1) := by decide +kernel
theorem d_Mo_headers_43 : decode b_Mo_headers 43 = .ok (.invokevirtual 142, 3) := by decide +kernel
theorem d_Mo_headers_46 : decode b_Mo_headers 46 = .ok (.aload_n 0, 1) := by decide +kernel
theorem d_Mo_headers_47 : decode b_Mo_headers 47 = .ok (.ldc2_w 184, 3) := by decide +kernel
theorem d_Mo_headers_50 : decode b_Mo_headers 50 = .ok (.invokevirtual 180, 3) := by decide +kernel
theorem d_Mo_headers_53 : decode b_Mo_headers 53 = .ok (.iconst 0, 1) := by decide +kernel
theorem d_Mo_headers_54 : decode b_Mo_headers 54 = .ok (.istore_n 2, 1) := by decide +kernel
theorem d_Mo_headers_55 : decode b_Mo_headers 55 = .ok (.iload_n 2, 1) := by decide +kernel
theorem d_Mo_headers_56 : decode b_Mo_headers 56 = .ok (.aload_n 0, 1) := by decide +kernel
theorem d_Mo_headers_57 : decode b_Mo_headers 57 = .ok (.getfield 19, 3) := by decide +kernel
theorem d_Mo_headers_60 : decode b_Mo_headers 60 = .ok (.iload_n 1, 1) := by decide +kernel
theorem d_Mo_headers_61 : decode b_Mo_headers 61 = .ok (.iaload, 1) := by decide +kernel
theorem d_Mo_headers_62 : decode b_Mo_headers 62 = .ok (.if_icmp .ge 32, 3) := by decide +kernel
theorem d_Mo_headers_65 : decode b_Mo_headers 65 = .ok (.iload_n 2, 1) := by decide +kernel
theorem d_Mo_headers_66 : decode b_Mo_headers 66 = .ok (.ifCond .le 10, 3) := by decide +kernel
theorem d_Mo_headers_69 : decode b_Mo_headers 69 = .ok (.aload_n 0, 1) := by decide +kernel
theorem d_Mo_headers_70 : decode b_Mo_headers 70 = .ok (.ldc2_w 186, 3) := by decide +kernel
theorem d_Mo_headers_73 : decode b_Mo_headers 73 = .ok (.invokevirtual 180, 3) := by decide +kernel
theorem d_Mo_headers_76 : decode b_Mo_headers 76 = .ok (.aload_n 0, 1) := by decide +kernel
theorem d_Mo_headers_77 : decode b_Mo_headers 77 = .ok (.iconst 3, 1) := by decide +kernel
theorem d_Mo_headers_78 : decode b_Mo_headers 78 = .ok (.iload_n 1, 1) := by decide +kernel
theorem d_Mo_headers_79 : decode b_Mo_headers 79 = .ok (.imul, 1) := by decide +kernel
theorem d_Mo_headers_80 : decode b_Mo_headers 80 = .ok (.iload_n 2, 1) := by decide +kernel
theorem d_Mo_headers_81 : decode b_Mo_headers 81 = .ok (.iadd, 1) := by decide +kernel
theorem d_Mo_headers_82 : decode b_Mo_headers 82 = .ok (.bipush 8, 2) := by decide +kernel
theorem d_Mo_headers_84 : decode b_Mo_headers 84 = .ok (.iconst 3, 1) := by decide +kernel
theorem d_Mo_headers_85 : decode b_Mo_headers 85 = .ok (.invokevirtual 164, 3) := by decide +kernel
theorem d_Mo_headers_88 : decode b_Mo_headers 88 = .ok (.iinc 2 1, 3) := by decide +kernel
theorem d_Mo_headers_91 : decode b_Mo_headers 91 = .ok (.goto (-36), 3) := by decide +kernel
theorem d_Mo_headers_94 : decode b_Mo_headers 94 = .ok (.aload_n 0, 1) := by decide +kernel
theorem d_Mo_headers_95 : decode b_Mo_headers 95 = .ok (.invokevirtual 188, 3) := by decide +kernel
theorem d_Mo_headers_98 : decode b_Mo_headers 98 = .ok (.iinc 1 1, 3) := by decide +kernel
theorem d_Mo_headers_101 : decode b_Mo_headers 101 = .ok (.goto (-99), 3) := by decide +kernel
theorem d_Mo_headers_104 : decode b_Mo_headers 104 = .ok (.return_, 1) := by decide +kernel
def f_Mo_headers_98 (K2 : Int32 → zSt → Option zSt) (a1 : Int32) (S : zSt) : Option zSt := (K2 (a1 + 1) S)
def f_Mo_headers_76 (K2 : Int32 → zSt → Option zSt) (K55 : Int32 → Int32 → zSt → Option zSt) (a1 : Int32) (a2 : Int32) (S : zSt) : Option zSt := ((f_Mo_encode ((3 * a1) + a2) 8 3 S).bind fun u5 => (K55 a1 (a2 + 1) u5))
def f_Mo_headers_55 (K2 : Int32 → zSt → Option zSt) : Nat → Int32 → Int32 → zSt → Option zSt
  | 0, _, _, _ => none
  | n + 1, a1, a2, S => gdi a1 6 ((if (S 70 a1.toNatClampNeg) ≤ a2 then ((f_Mo_end S).bind fun u4 => (f_Mo_headers_98 K2 a1 u4)) else (if a2 ≤ 0 then (f_Mo_headers_76 K2 (f_Mo_headers_55 K2 n) a1 a2 S) else ((f_Mo_spell (8236 : Int64) S).bind fun u6 => (f_Mo_headers_76 K2 (f_Mo_headers_55 K2 n) a1 a2 u6)))))
def f_Mo_headers_2 : Nat → Int32 → zSt → Option zSt
  | 0, _, _ => none
  | n + 1, a1, S => (if (S 66 3) ≤ a1 then (some S) else gdi a1 6 ((if (S 68 a1.toNatClampNeg) = 3 then gdi a1 6 ((if (S 70 a1.toNatClampNeg) ≤ 0 then (f_Mo_headers_98 (f_Mo_headers_2 n) a1 S) else ((f_Mo_spell (11640 : Int64) S).bind fun u1 => gdi a1 6 (((f_Mo_put (u1 69 a1.toNatClampNeg) u1).bind fun u2 => ((f_Mo_spell (8250 : Int64) u2).bind fun u3 => (f_Mo_headers_55 (f_Mo_headers_2 n) fu a1 0 u3))))))) else (f_Mo_headers_98 (f_Mo_headers_2 n) a1 S))))
def f_Mo_headers (S : zSt) : Option zSt := (f_Mo_headers_2 fu 0 S)
set_option maxHeartbeats 4000000 in
set_option maxRecDepth 100000 in
theorem c_Mo_headers (l : Launch) (g : zG) (hD : GD g) (S : zSt) (u : zSt) (h : f_Mo_headers S = some u) : Met l y_Mo_headers (mw y_Mo_headers b_Mo_headers 3 none) (rmD 5) (Pw g [.ref (ga g 66)] S) (Qvs g u) 0 0 (gA g) := by
  refine z_go (own := R_Mo) (lv0 := [(0, .ref (ga g 66))]) hD (by decide) rfl (Nat.le_of_ble_eq_true rfl) rfl ?_
  intro p e s m args below meth c C D ls hl
  have hx := C.1
  have hb := C.2.1
  have hown := C.2.2.2.1
  have hts := C.2.2.2.2.1
  have B98 : ∀ (K2 : Int32 → zSt → Option zSt) (hK2 : ∀ (H : Heap) (locs : List Loc) (S : zSt) (ls : Array Slot) (a1 : Int32), K2 a1 S = some u → Dy g s S H locs → lv_has ls 3 [(0, .ref (ga g 66)), (1, .int a1)] → W p l e (rmD 5) s m args below meth c H locs 0 0 (MQ below (Qvs g u) args s 0 0 (gA g)) (F0 m 2 ls [])) (H : Heap) (locs : List Loc) (S : zSt) (ls : Array Slot) (a1 : Int32), f_Mo_headers_98 K2 a1 S = some u → Dy g s S H locs → lv_has ls 3 [(0, .ref (ga g 66)), (1, .int a1)] → W p l e (rmD 5) s m args below meth c H locs 0 0 (MQ below (Qvs g u) args s 0 0 (gA g)) (F0 m 98 ls []) := by
    intro K2 hK2 H locs S ls a1 h D hl
    unfold f_Mo_headers_98 at h
    refine lv_iinc (k := 1) (lv' := [(1, .int (a1 + 1)), (0, .ref (ga g 66))]) hx hb d_Mo_headers_98 hl rfl (ii1 _) (by decide) rfl (fun ls hl => ?_)
    refine lv_goto hx hb d_Mo_headers_101 rfl ?_
    exact hK2 _ _ _ _ _ h D (lv_sub hl [1, 0] rfl)
  have B76 : ∀ (K2 : Int32 → zSt → Option zSt) (hK2 : ∀ (H : Heap) (locs : List Loc) (S : zSt) (ls : Array Slot) (a1 : Int32), K2 a1 S = some u → Dy g s S H locs → lv_has ls 3 [(0, .ref (ga g 66)), (1, .int a1)] → W p l e (rmD 5) s m args below meth c H locs 0 0 (MQ below (Qvs g u) args s 0 0 (gA g)) (F0 m 2 ls [])) (K55 : Int32 → Int32 → zSt → Option zSt) (hK55 : ∀ (H : Heap) (locs : List Loc) (S : zSt) (ls : Array Slot) (a1 : Int32) (a2 : Int32), K55 a1 a2 S = some u → Dy g s S H locs → lv_has ls 3 [(0, .ref (ga g 66)), (1, .int a1), (2, .int a2)] → W p l e (rmD 5) s m args below meth c H locs 0 0 (MQ below (Qvs g u) args s 0 0 (gA g)) (F0 m 55 ls [])) (H : Heap) (locs : List Loc) (S : zSt) (ls : Array Slot) (a1 : Int32) (a2 : Int32), f_Mo_headers_76 K2 K55 a1 a2 S = some u → Dy g s S H locs → lv_has ls 3 [(0, .ref (ga g 66)), (1, .int a1), (2, .int a2)] → W p l e (rmD 5) s m args below meth c H locs 0 0 (MQ below (Qvs g u) args s 0 0 (gA g)) (F0 m 76 ls []) := by
    intro K2 hK2 K55 hK55 H locs S ls a1 a2 h D hl
    unfold f_Mo_headers_76 at h
    refine lv_aload_n hx hb d_Mo_headers_76 rfl (lv_at hl 0 rfl) ?_
    refine lv_iconst (v := 3) hx hb d_Mo_headers_77 (by decide) ?_
    refine lv_iload_n hx hb d_Mo_headers_78 rfl (lv_at hl 1 rfl) ?_
    refine lv_imul hx hb d_Mo_headers_79 ?_
    refine lv_iload_n hx hb d_Mo_headers_80 rfl (lv_at hl 2 rfl) ?_
    refine lv_iadd hx hb d_Mo_headers_81 ?_
    refine lv_bipush (v := 8) hx hb d_Mo_headers_82 (by decide) ?_
    refine lv_iconst (v := 3) hx hb d_Mo_headers_84 (by decide) ?_
    obtain ⟨u5, hu5, h⟩ := bd_some h
    refine x_cvs (rest := []) (r_V C D (c_Mo_encode l g hD ((3 * a1) + a2) 8 3 S u5 hu5) wc_Mo_encode wm_Mo_164 wi_Mo_encode wd_Mo_encode (by decide) sh_66 kc_Mo.1 rfl rfl hl (Nat.le_of_ble_eq_true rfl) (by decide) d_Mo_headers_85) D (fun H locs D => ?_)
    refine lv_iinc (k := 2) (lv' := [(2, .int (a2 + 1)), (0, .ref (ga g 66)), (1, .int a1)]) hx hb d_Mo_headers_88 hl rfl (ii1 _) (by decide) rfl (fun ls hl => ?_)
    refine lv_goto hx hb d_Mo_headers_91 rfl ?_
    exact hK55 _ _ _ _ _ _ h D (lv_sub hl [1, 2, 0] rfl)
  have L55 : ∀ (K2 : Int32 → zSt → Option zSt) (hK2 : ∀ (H : Heap) (locs : List Loc) (S : zSt) (ls : Array Slot) (a1 : Int32), K2 a1 S = some u → Dy g s S H locs → lv_has ls 3 [(0, .ref (ga g 66)), (1, .int a1)] → W p l e (rmD 5) s m args below meth c H locs 0 0 (MQ below (Qvs g u) args s 0 0 (gA g)) (F0 m 2 ls [])) (n : Nat) (H : Heap) (locs : List Loc) (S : zSt) (ls : Array Slot) (a1 : Int32) (a2 : Int32), f_Mo_headers_55 K2 n a1 a2 S = some u → Dy g s S H locs → lv_has ls 3 [(0, .ref (ga g 66)), (1, .int a1), (2, .int a2)] → W p l e (rmD 5) s m args below meth c H locs 0 0 (MQ below (Qvs g u) args s 0 0 (gA g)) (F0 m 55 ls []) := by
    intro K2 hK2 n
    induction n with
    | zero => intro H locs S ls a1 a2 h D hl; rw [f_Mo_headers_55] at h; cases h
    | succ n hK55 =>
      intro H locs S ls a1 a2 h D hl
      rw [f_Mo_headers_55] at h
      refine lv_iload_n hx hb d_Mo_headers_55 rfl (lv_at hl 2 rfl) ?_
      refine lv_aload_n hx hb d_Mo_headers_56 rfl (lv_at hl 0 rfl) ?_
      refine x_get (v := .ref (ga g 70)) C D kc_Mo (by decide) sh_66 6 rfl (by decide) wf_Mo_19 rfl rfl d_Mo_headers_57 ?_
      refine lv_iload_n hx hb d_Mo_headers_60 rfl (lv_at hl 1 rfl) ?_
      refine x_iald C D (by decide) sh_70 d_Mo_headers_61 h (fun _ h => ?_)
      refine lv_icmp_ge hx hb d_Mo_headers_62 rfl (fun z => ?_) (fun z => ?_)
      · replace h := if_t z h
        refine lv_aload_n hx hb d_Mo_headers_94 rfl (lv_at hl 0 rfl) ?_
        obtain ⟨u4, hu4, h⟩ := bd_some h
        refine x_cvs (rest := []) (r_V C D (c_Mo_end l g hD S u4 hu4) wc_Mo_end wm_Mo_188 wi_Mo_end wd_Mo_end (by decide) sh_66 kc_Mo.1 rfl rfl hl (Nat.le_of_ble_eq_true rfl) (by decide) d_Mo_headers_95) D (fun H locs D => ?_)
        exact B98 _ hK2 _ _ _ _ _ h D (lv_sub hl [0, 1] rfl)
      · replace h := if_f z h
        refine lv_iload_n hx hb d_Mo_headers_65 rfl (lv_at hl 2 rfl) ?_
        refine lv_if_le hx hb d_Mo_headers_66 rfl (fun z => ?_) (fun z => ?_)
        · replace h := if_t z h
          exact B76 _ hK2 _ hK55 _ _ _ _ _ _ h D (lv_sub hl [0, 1, 2] rfl)
        · replace h := if_f z h
          refine lv_aload_n hx hb d_Mo_headers_69 rfl (lv_at hl 0 rfl) ?_
          refine lv_ldc2 (v := 8236) hx hb hown (hts _ wk_Mo_186) d_Mo_headers_70 ?_
          obtain ⟨u6, hu6, h⟩ := bd_some h
          refine x_cvs (rest := []) (r_V C D (c_Mo_spell l g hD (8236 : Int64) S u6 hu6) wc_Mo_spell wm_Mo_180 wi_Mo_spell wd_Mo_spell (by decide) sh_66 kc_Mo.1 rfl rfl hl (Nat.le_of_ble_eq_true rfl) (by decide) d_Mo_headers_73) D (fun H locs D => ?_)
          exact B76 _ hK2 _ hK55 _ _ _ _ _ _ h D (lv_sub hl [0, 1, 2] rfl)
  have L2 : ∀ (n : Nat) (H : Heap) (locs : List Loc) (S : zSt) (ls : Array Slot) (a1 : Int32), f_Mo_headers_2 n a1 S = some u → Dy g s S H locs → lv_has ls 3 [(0, .ref (ga g 66)), (1, .int a1)] → W p l e (rmD 5) s m args below meth c H locs 0 0 (MQ below (Qvs g u) args s 0 0 (gA g)) (F0 m 2 ls []) := by
    intro n
    induction n with
    | zero => intro H locs S ls a1 h D hl; rw [f_Mo_headers_2] at h; cases h
    | succ n hK2 =>
      intro H locs S ls a1 h D hl
      rw [f_Mo_headers_2] at h
      refine lv_iload_n hx hb d_Mo_headers_2 rfl (lv_at hl 1 rfl) ?_
      refine lv_aload_n hx hb d_Mo_headers_3 rfl (lv_at hl 0 rfl) ?_
      refine x_get (v := .int (S 66 3)) C D kc_Mo (by decide) sh_66 3 rfl (by decide) wf_Mo_53 rfl rfl d_Mo_headers_4 ?_
      refine lv_icmp_ge hx hb d_Mo_headers_7 rfl (fun z => ?_) (fun z => ?_)
      · replace h := if_t z h
        exact x_vrs C D h d_Mo_headers_104
      · replace h := if_f z h
        refine lv_aload_n hx hb d_Mo_headers_10 rfl (lv_at hl 0 rfl) ?_
        refine x_get (v := .ref (ga g 68)) C D kc_Mo (by decide) sh_66 4 rfl (by decide) wf_Mo_13 rfl rfl d_Mo_headers_11 ?_
        refine lv_iload_n hx hb d_Mo_headers_14 rfl (lv_at hl 1 rfl) ?_
        refine x_iald C D (by decide) sh_68 d_Mo_headers_15 h (fun _ h => ?_)
        refine lv_iconst (v := 3) hx hb d_Mo_headers_16 (by decide) ?_
        refine lv_icmp_ne hx hb d_Mo_headers_17 rfl (fun z => ?_) (fun z => ?_)
        · replace h := if_f z h
          exact B98 _ hK2 _ _ _ _ _ h D (lv_sub hl [0, 1] rfl)
        · replace h := if_t z h
          refine lv_aload_n hx hb d_Mo_headers_20 rfl (lv_at hl 0 rfl) ?_
          refine x_get (v := .ref (ga g 70)) C D kc_Mo (by decide) sh_66 6 rfl (by decide) wf_Mo_19 rfl rfl d_Mo_headers_21 ?_
          refine lv_iload_n hx hb d_Mo_headers_24 rfl (lv_at hl 1 rfl) ?_
          refine x_iald C D (by decide) sh_70 d_Mo_headers_25 h (fun _ h => ?_)
          refine lv_if_le hx hb d_Mo_headers_26 rfl (fun z => ?_) (fun z => ?_)
          · replace h := if_t z h
            exact B98 _ hK2 _ _ _ _ _ h D (lv_sub hl [0, 1] rfl)
          · replace h := if_f z h
            refine lv_aload_n hx hb d_Mo_headers_29 rfl (lv_at hl 0 rfl) ?_
            refine lv_ldc2 (v := 11640) hx hb hown (hts _ wk_Mo_178) d_Mo_headers_30 ?_
            obtain ⟨u1, hu1, h⟩ := bd_some h
            refine x_cvs (rest := []) (r_V C D (c_Mo_spell l g hD (11640 : Int64) S u1 hu1) wc_Mo_spell wm_Mo_180 wi_Mo_spell wd_Mo_spell (by decide) sh_66 kc_Mo.1 rfl rfl hl (Nat.le_of_ble_eq_true rfl) (by decide) d_Mo_headers_33) D (fun H locs D => ?_)
            refine lv_aload_n hx hb d_Mo_headers_36 rfl (lv_at hl 0 rfl) ?_
            refine lv_aload_n hx hb d_Mo_headers_37 rfl (lv_at hl 0 rfl) ?_
            refine x_get (v := .ref (ga g 69)) C D kc_Mo (by decide) sh_66 5 rfl (by decide) wf_Mo_16 rfl rfl d_Mo_headers_38 ?_
            refine lv_iload_n hx hb d_Mo_headers_41 rfl (lv_at hl 1 rfl) ?_
            refine x_iald C D (by decide) sh_69 d_Mo_headers_42 h (fun _ h => ?_)
            obtain ⟨u2, hu2, h⟩ := bd_some h
            refine x_cvs (rest := []) (r_V C D (c_Mo_put l g hD (u1 69 a1.toNatClampNeg) u1 u2 hu2) wc_Mo_put wm_Mo_142 wi_Mo_put wd_Mo_put (by decide) sh_66 kc_Mo.1 rfl rfl hl (Nat.le_of_ble_eq_true rfl) (by decide) d_Mo_headers_43) D (fun H locs D => ?_)
            refine lv_aload_n hx hb d_Mo_headers_46 rfl (lv_at hl 0 rfl) ?_
            refine lv_ldc2 (v := 8250) hx hb hown (hts _ wk_Mo_184) d_Mo_headers_47 ?_
            obtain ⟨u3, hu3, h⟩ := bd_some h
            refine x_cvs (rest := []) (r_V C D (c_Mo_spell l g hD (8250 : Int64) u2 u3 hu3) wc_Mo_spell wm_Mo_180 wi_Mo_spell wd_Mo_spell (by decide) sh_66 kc_Mo.1 rfl rfl hl (Nat.le_of_ble_eq_true rfl) (by decide) d_Mo_headers_50) D (fun H locs D => ?_)
            refine lv_iconst (v := 0) hx hb d_Mo_headers_53 (by decide) ?_
            refine lv_istore_n (lv' := [(2, .int 0), (0, .ref (ga g 66)), (1, .int a1)]) hx hb d_Mo_headers_54 rfl hl (by decide) rfl (fun ls hl => ?_)
            exact L55 _ hK2 _ _ _ _ _ _ _ h D (lv_sub hl [1, 2, 0] rfl)
  unfold f_Mo_headers at h
  refine lv_iconst (v := 0) hx hb d_Mo_headers_0 (by decide) ?_
  refine lv_istore_n (lv' := [(1, .int 0), (0, .ref (ga g 66))]) hx hb d_Mo_headers_1 rfl hl (by decide) rfl (fun ls hl => ?_)
  exact L2 _ _ _ _ _ _ h D (lv_sub hl [1, 0] rfl)
theorem d_Mo_after_0 : decode b_Mo_after 0 = .ok (.aload_n 0, 1) := by decide +kernel
theorem d_Mo_after_1 : decode b_Mo_after 1 = .ok (.getfield 261, 3) := by decide +kernel
theorem d_Mo_after_4 : decode b_Mo_after 4 = .ok (.ifCond .eq 10, 3) := by decide +kernel
theorem d_Mo_after_7 : decode b_Mo_after 7 = .ok (.aload_n 0, 1) := by decide +kernel
theorem d_Mo_after_8 : decode b_Mo_after 8 = .ok (.invokevirtual 301, 3) := by decide +kernel
theorem d_Mo_after_11 : decode b_Mo_after 11 = .ok (.goto 102, 3) := by decide +kernel
theorem d_Mo_after_14 : decode b_Mo_after 14 = .ok (.aload_n 0, 1) := by decide +kernel
theorem d_Mo_after_15 : decode b_Mo_after 15 = .ok (.getfield 264, 3) := by decide +kernel
theorem d_Mo_after_18 : decode b_Mo_after 18 = .ok (.bipush 120, 2) := by decide +kernel
theorem d_Mo_after_20 : decode b_Mo_after 20 = .ok (.if_icmp .le 11, 3) := by decide +kernel
theorem d_Mo_after_23 : decode b_Mo_after 23 = .ok (.aload_n 0, 1) := by decide +kernel
theorem d_Mo_after_24 : decode b_Mo_after 24 = .ok (.iconst 3, 1) := by decide +kernel
theorem d_Mo_after_25 : decode b_Mo_after 25 = .ok (.putfield 292, 3) := by decide +kernel
theorem d_Mo_after_28 : decode b_Mo_after 28 = .ok (.goto 85, 3) := by decide +kernel
theorem d_Mo_after_31 : decode b_Mo_after 31 = .ok (.aload_n 0, 1) := by decide +kernel
theorem d_Mo_after_32 : decode b_Mo_after 32 = .ok (.getfield 264, 3) := by decide +kernel
theorem d_Mo_after_35 : decode b_Mo_after 35 = .ok (.ifCond .lt 26, 3) := by decide +kernel
theorem d_Mo_after_38 : decode b_Mo_after 38 = .ok (.aload_n 0, 1) := by decide +kernel
theorem d_Mo_after_39 : decode b_Mo_after 39 = .ok (.aload_n 0, 1) := by decide +kernel
theorem d_Mo_after_40 : decode b_Mo_after 40 = .ok (.aload_n 0, 1) := by decide +kernel
theorem d_Mo_after_41 : decode b_Mo_after 41 = .ok (.getfield 264, 3) := by decide +kernel
theorem d_Mo_after_44 : decode b_Mo_after 44 = .ok (.invokevirtual 298, 3) := by decide +kernel
theorem d_Mo_after_47 : decode b_Mo_after 47 = .ok (.ifCond .eq 7, 3) := by decide +kernel
theorem d_Mo_after_50 : decode b_Mo_after 50 = .ok (.iconst 2, 1) := by decide +kernel
theorem d_Mo_after_51 : decode b_Mo_after 51 = .ok (.goto 4, 3) := by decide +kernel
theorem d_Mo_after_54 : decode b_Mo_after 54 = .ok (.iconst 1, 1) := by decide +kernel
theorem d_Mo_after_55 : decode b_Mo_after 55 = .ok (.putfield 292, 3) := by decide +kernel
theorem d_Mo_after_58 : decode b_Mo_after 58 = .ok (.goto 55, 3) := by decide +kernel
theorem d_Mo_after_61 : decode b_Mo_after 61 = .ok (.aload_n 0, 1) := by decide +kernel
theorem d_Mo_after_62 : decode b_Mo_after 62 = .ok (.iconst 1, 1) := by decide +kernel
theorem d_Mo_after_63 : decode b_Mo_after 63 = .ok (.putfield 304, 3) := by decide +kernel
theorem d_Mo_after_66 : decode b_Mo_after 66 = .ok (.aload_n 0, 1) := by decide +kernel
theorem d_Mo_after_67 : decode b_Mo_after 67 = .ok (.getfield 234, 3) := by decide +kernel
theorem d_Mo_after_70 : decode b_Mo_after 70 = .ok (.aload_n 0, 1) := by decide +kernel
theorem d_Mo_after_71 : decode b_Mo_after 71 = .ok (.getfield 231, 3) := by decide +kernel
theorem d_Mo_after_74 : decode b_Mo_after 74 = .ok (.isub, 1) := by decide +kernel
theorem d_Mo_after_75 : decode b_Mo_after 75 = .ok (.istore_n 1, 1) := by decide +kernel
theorem d_Mo_after_76 : decode b_Mo_after 76 = .ok (.aload_n 0, 1) := by decide +kernel
theorem d_Mo_after_77 : decode b_Mo_after 77 = .ok (.iload_n 1, 1) := by decide +kernel
theorem d_Mo_after_78 : decode b_Mo_after 78 = .ok (.bipush 120, 2) := by decide +kernel
theorem d_Mo_after_80 : decode b_Mo_after 80 = .ok (.if_icmp .ge 7, 3) := by decide +kernel
theorem d_Mo_after_83 : decode b_Mo_after 83 = .ok (.iload_n 1, 1) := by decide +kernel
theorem d_Mo_after_84 : decode b_Mo_after 84 = .ok (.goto 5, 3) := by decide +kernel
theorem d_Mo_after_87 : decode b_Mo_after 87 = .ok (.bipush 120, 2) := by decide +kernel
theorem d_Mo_after_89 : decode b_Mo_after 89 = .ok (.invokevirtual 298, 3) := by decide +kernel
theorem d_Mo_after_92 : decode b_Mo_after 92 = .ok (.pop, 1) := by decide +kernel
theorem d_Mo_after_93 : decode b_Mo_after 93 = .ok (.aload_n 0, 1) := by decide +kernel
theorem d_Mo_after_94 : decode b_Mo_after 94 = .ok (.aload_n 0, 1) := by decide +kernel
theorem d_Mo_after_95 : decode b_Mo_after 95 = .ok (.getfield 231, 3) := by decide +kernel
theorem d_Mo_after_98 : decode b_Mo_after 98 = .ok (.aload_n 0, 1) := by decide +kernel
theorem d_Mo_after_99 : decode b_Mo_after 99 = .ok (.getfield 234, 3) := by decide +kernel
theorem d_Mo_after_102 : decode b_Mo_after 102 = .ok (.if_icmp .ge 7, 3) := by decide +kernel
theorem d_Mo_after_105 : decode b_Mo_after 105 = .ok (.iconst 3, 1) := by decide +kernel
theorem d_Mo_after_106 : decode b_Mo_after 106 = .ok (.goto 4, 3) := by decide +kernel
theorem d_Mo_after_109 : decode b_Mo_after 109 = .ok (.iconst 1, 1) := by decide +kernel
theorem d_Mo_after_110 : decode b_Mo_after 110 = .ok (.putfield 292, 3) := by decide +kernel
theorem d_Mo_after_113 : decode b_Mo_after 113 = .ok (.return_, 1) := by decide +kernel
def f_Mo_after_110 (t0 : Int32) (S : zSt) : Option zSt := sq (su S 66 23 t0) fun S4 => (some S4)
def f_Mo_after_89 (t0 : Int32) (S : zSt) : Option zSt := ((f_Mo_take t0 S).bind fun u3 => (if (u3.2 66 17) ≤ (u3.2 66 21) then (f_Mo_after_110 1 u3.2) else (f_Mo_after_110 3 u3.2)))
def f_Mo_after_55 (t0 : Int32) (S : zSt) : Option zSt := sq (su S 66 23 t0) fun S6 => (some S6)
def f_Mo_after (S : zSt) : Option zSt := (if (S 66 29) = 0 then (if (S 66 28) ≤ 120 then (if (S 66 28) < 0 then gdb 1 (sq (su S 66 30 1) fun S1 => (if 120 ≤ ((S1 66 17) - (S1 66 21)) then (f_Mo_after_89 120 S1) else (f_Mo_after_89 ((S1 66 17) - (S1 66 21)) S1))) else ((f_Mo_take (S 66 28) S).bind fun u5 => (if u5.1 = 0 then (f_Mo_after_55 1 u5.2) else (f_Mo_after_55 2 u5.2)))) else sq (su S 66 23 3) fun S7 => (some S7)) else ((f_Mo_chunks S).bind fun u8 => (some u8)))
set_option maxHeartbeats 4000000 in
set_option maxRecDepth 100000 in
theorem c_Mo_after (l : Launch) (g : zG) (hD : GD g) (S : zSt) (u : zSt) (h : f_Mo_after S = some u) : Met l y_Mo_after (mw y_Mo_after b_Mo_after 2 none) (rmD 5) (Pw g [.ref (ga g 66)] S) (Qvs g u) 0 0 (gA g) := by
  refine z_go (own := R_Mo) (lv0 := [(0, .ref (ga g 66))]) hD (by decide) rfl (Nat.le_of_ble_eq_true rfl) rfl ?_
  intro p e s m args below meth c C D ls hl
  have hx := C.1
  have hb := C.2.1
  have hown := C.2.2.2.1
  have hts := C.2.2.2.2.1
  have B110 : ∀ (H : Heap) (locs : List Loc) (S : zSt) (ls : Array Slot) (t0 : Int32), f_Mo_after_110 t0 S = some u → Dy g s S H locs → lv_has ls 2 [] → W p l e (rmD 5) s m args below meth c H locs 0 0 (MQ below (Qvs g u) args s 0 0 (gA g)) (F0 m 110 ls [.int t0, .ref (ga g 66)]) := by
    intro H locs S ls t0 h D hl
    unfold f_Mo_after_110 at h
    refine x_put C D kc_Mo (by decide) sh_66 23 rfl (by decide) wf_Mo_292 rfl rfl t0 rfl ⟨rfl, rfl⟩ d_Mo_after_110 h (fun S4 H locs h D => ?_)
    exact x_vrs C D h d_Mo_after_113
  have B89 : ∀ (H : Heap) (locs : List Loc) (S : zSt) (ls : Array Slot) (t0 : Int32), f_Mo_after_89 t0 S = some u → Dy g s S H locs → lv_has ls 2 [(0, .ref (ga g 66))] → W p l e (rmD 5) s m args below meth c H locs 0 0 (MQ below (Qvs g u) args s 0 0 (gA g)) (F0 m 89 ls [.int t0, .ref (ga g 66)]) := by
    intro H locs S ls t0 h D hl
    unfold f_Mo_after_89 at h
    obtain ⟨u3, hu3, h⟩ := bd_some h
    refine x_cis (rest := []) (r_V C D (c_Mo_take l g hD t0 S u3 hu3) wc_Mo_take wm_Mo_298 wi_Mo_take wd_Mo_take (by decide) sh_66 kc_Mo.1 rfl rfl hl (Nat.le_of_ble_eq_true rfl) (by decide) d_Mo_after_89) D (fun H locs D => ?_)
    refine lv_pop hx hb d_Mo_after_92 rfl ?_
    refine lv_aload_n hx hb d_Mo_after_93 rfl (lv_at hl 0 rfl) ?_
    refine lv_aload_n hx hb d_Mo_after_94 rfl (lv_at hl 0 rfl) ?_
    refine x_get (v := .int (u3.2 66 21)) C D kc_Mo (by decide) sh_66 21 rfl (by decide) wf_Mo_231 rfl rfl d_Mo_after_95 ?_
    refine lv_aload_n hx hb d_Mo_after_98 rfl (lv_at hl 0 rfl) ?_
    refine x_get (v := .int (u3.2 66 17)) C D kc_Mo (by decide) sh_66 17 rfl (by decide) wf_Mo_234 rfl rfl d_Mo_after_99 ?_
    refine lv_icmp_ge hx hb d_Mo_after_102 rfl (fun z => ?_) (fun z => ?_)
    · replace h := if_t z h
      refine lv_iconst (v := 1) hx hb d_Mo_after_109 (by decide) ?_
      exact B110 _ _ _ _ _ h D (lv_sub hl [] rfl)
    · replace h := if_f z h
      refine lv_iconst (v := 3) hx hb d_Mo_after_105 (by decide) ?_
      refine lv_goto hx hb d_Mo_after_106 rfl ?_
      exact B110 _ _ _ _ _ h D (lv_sub hl [] rfl)
  have B55 : ∀ (H : Heap) (locs : List Loc) (S : zSt) (ls : Array Slot) (t0 : Int32), f_Mo_after_55 t0 S = some u → Dy g s S H locs → lv_has ls 2 [] → W p l e (rmD 5) s m args below meth c H locs 0 0 (MQ below (Qvs g u) args s 0 0 (gA g)) (F0 m 55 ls [.int t0, .ref (ga g 66)]) := by
    intro H locs S ls t0 h D hl
    unfold f_Mo_after_55 at h
    refine x_put C D kc_Mo (by decide) sh_66 23 rfl (by decide) wf_Mo_292 rfl rfl t0 rfl ⟨rfl, rfl⟩ d_Mo_after_55 h (fun S6 H locs h D => ?_)
    refine lv_goto hx hb d_Mo_after_58 rfl ?_
    exact x_vrs C D h d_Mo_after_113
  unfold f_Mo_after at h
  refine lv_aload_n hx hb d_Mo_after_0 rfl (lv_at hl 0 rfl) ?_
  refine x_get (v := .int (S 66 29)) C D kc_Mo (by decide) sh_66 29 rfl (by decide) wf_Mo_261 rfl rfl d_Mo_after_1 ?_
  refine lv_if_eq hx hb d_Mo_after_4 rfl (fun z => ?_) (fun z => ?_)
  · replace h := if_t z h
    refine lv_aload_n hx hb d_Mo_after_14 rfl (lv_at hl 0 rfl) ?_
    refine x_get (v := .int (S 66 28)) C D kc_Mo (by decide) sh_66 28 rfl (by decide) wf_Mo_264 rfl rfl d_Mo_after_15 ?_
    refine lv_bipush (v := 120) hx hb d_Mo_after_18 (by decide) ?_
    refine lv_icmp_le hx hb d_Mo_after_20 rfl (fun z => ?_) (fun z => ?_)
    · replace h := if_t z h
      refine lv_aload_n hx hb d_Mo_after_31 rfl (lv_at hl 0 rfl) ?_
      refine x_get (v := .int (S 66 28)) C D kc_Mo (by decide) sh_66 28 rfl (by decide) wf_Mo_264 rfl rfl d_Mo_after_32 ?_
      refine lv_if_lt hx hb d_Mo_after_35 rfl (fun z => ?_) (fun z => ?_)
      · replace h := if_t z h
        refine lv_aload_n hx hb d_Mo_after_61 rfl (lv_at hl 0 rfl) ?_
        refine lv_iconst (v := 1) hx hb d_Mo_after_62 (by decide) ?_
        obtain ⟨z2, h⟩ := gdb_some h
        refine x_put C D kc_Mo (by decide) sh_66 30 rfl (by decide) wf_Mo_304 rfl rfl 1 rfl z2 d_Mo_after_63 h (fun S1 H locs h D => ?_)
        refine lv_aload_n hx hb d_Mo_after_66 rfl (lv_at hl 0 rfl) ?_
        refine x_get (v := .int (S1 66 17)) C D kc_Mo (by decide) sh_66 17 rfl (by decide) wf_Mo_234 rfl rfl d_Mo_after_67 ?_
        refine lv_aload_n hx hb d_Mo_after_70 rfl (lv_at hl 0 rfl) ?_
        refine x_get (v := .int (S1 66 21)) C D kc_Mo (by decide) sh_66 21 rfl (by decide) wf_Mo_231 rfl rfl d_Mo_after_71 ?_
        refine lv_isub hx hb d_Mo_after_74 ?_
        refine lv_istore_n (lv' := [(1, .int ((S1 66 17) - (S1 66 21))), (0, .ref (ga g 66))]) hx hb d_Mo_after_75 rfl hl (by decide) rfl (fun ls hl => ?_)
        refine lv_aload_n hx hb d_Mo_after_76 rfl (lv_at hl 1 rfl) ?_
        refine lv_iload_n hx hb d_Mo_after_77 rfl (lv_at hl 0 rfl) ?_
        refine lv_bipush (v := 120) hx hb d_Mo_after_78 (by decide) ?_
        refine lv_icmp_ge hx hb d_Mo_after_80 rfl (fun z => ?_) (fun z => ?_)
        · replace h := if_t z h
          refine lv_bipush (v := 120) hx hb d_Mo_after_87 (by decide) ?_
          exact B89 _ _ _ _ _ h D (lv_sub hl [1] rfl)
        · replace h := if_f z h
          refine lv_iload_n hx hb d_Mo_after_83 rfl (lv_at hl 0 rfl) ?_
          refine lv_goto hx hb d_Mo_after_84 rfl ?_
          exact B89 _ _ _ _ _ h D (lv_sub hl [1] rfl)
      · replace h := if_f z h
        refine lv_aload_n hx hb d_Mo_after_38 rfl (lv_at hl 0 rfl) ?_
        refine lv_aload_n hx hb d_Mo_after_39 rfl (lv_at hl 0 rfl) ?_
        refine lv_aload_n hx hb d_Mo_after_40 rfl (lv_at hl 0 rfl) ?_
        refine x_get (v := .int (S 66 28)) C D kc_Mo (by decide) sh_66 28 rfl (by decide) wf_Mo_264 rfl rfl d_Mo_after_41 ?_
        obtain ⟨u5, hu5, h⟩ := bd_some h
        refine x_cis (rest := [.ref (ga g 66)]) (r_V C D (c_Mo_take l g hD (S 66 28) S u5 hu5) wc_Mo_take wm_Mo_298 wi_Mo_take wd_Mo_take (by decide) sh_66 kc_Mo.1 rfl rfl hl (Nat.le_of_ble_eq_true rfl) (by decide) d_Mo_after_44) D (fun H locs D => ?_)
        refine lv_if_eq hx hb d_Mo_after_47 rfl (fun z => ?_) (fun z => ?_)
        · replace h := if_t z h
          refine lv_iconst (v := 1) hx hb d_Mo_after_54 (by decide) ?_
          exact B55 _ _ _ _ _ h D (lv_sub hl [] rfl)
        · replace h := if_f z h
          refine lv_iconst (v := 2) hx hb d_Mo_after_50 (by decide) ?_
          refine lv_goto hx hb d_Mo_after_51 rfl ?_
          exact B55 _ _ _ _ _ h D (lv_sub hl [] rfl)
    · replace h := if_f z h
      refine lv_aload_n hx hb d_Mo_after_23 rfl (lv_at hl 0 rfl) ?_
      refine lv_iconst (v := 3) hx hb d_Mo_after_24 (by decide) ?_
      refine x_put C D kc_Mo (by decide) sh_66 23 rfl (by decide) wf_Mo_292 rfl rfl 3 rfl ⟨rfl, rfl⟩ d_Mo_after_25 h (fun S7 H locs h D => ?_)
      refine lv_goto hx hb d_Mo_after_28 rfl ?_
      exact x_vrs C D h d_Mo_after_113
  · replace h := if_f z h
    refine lv_aload_n hx hb d_Mo_after_7 rfl (lv_at hl 0 rfl) ?_
    obtain ⟨u8, hu8, h⟩ := bd_some h
    refine x_cvs (rest := []) (r_V C D (c_Mo_chunks l g hD S u8 hu8) wc_Mo_chunks wm_Mo_301 wi_Mo_chunks wd_Mo_chunks (by decide) sh_66 kc_Mo.1 rfl rfl hl (Nat.le_of_ble_eq_true rfl) (by decide) d_Mo_after_8) D (fun H locs D => ?_)
    refine lv_goto hx hb d_Mo_after_11 rfl ?_
    exact x_vrs C D h d_Mo_after_113
theorem d_Mo_expression_0 : decode b_Mo_expression 0 = .ok (.aload_n 0, 1) := by decide +kernel
theorem d_Mo_expression_1 : decode b_Mo_expression 1 = .ok (.getfield 7, 3) := by decide +kernel
theorem d_Mo_expression_4 : decode b_Mo_expression 4 = .ok (.iload_n 1, 1) := by decide +kernel
theorem d_Mo_expression_5 : decode b_Mo_expression 5 = .ok (.iconst 1, 1) := by decide +kernel
theorem d_Mo_expression_6 : decode b_Mo_expression 6 = .ok (.iadd, 1) := by decide +kernel
theorem d_Mo_expression_7 : decode b_Mo_expression 7 = .ok (.iaload, 1) := by decide +kernel
theorem d_Mo_expression_8 : decode b_Mo_expression 8 = .ok (.invokestatic 73, 3) := by decide +kernel
theorem d_Mo_expression_11 : decode b_Mo_expression 11 = .ok (.ifCond .eq 14, 3) := by decide +kernel
theorem d_Mo_expression_14 : decode b_Mo_expression 14 = .ok (.aload_n 0, 1) := by decide +kernel
theorem d_Mo_expression_15 : decode b_Mo_expression 15 = .ok (.getfield 7, 3) := by decide +kernel
theorem d_Mo_expression_18 : decode b_Mo_expression 18 = .ok (.iload_n 1, 1) := by decide +kernel
theorem d_Mo_expression_19 : decode b_Mo_expression 19 = .ok (.iconst 1, 1) := by decide +kernel
theorem d_Mo_expression_20 : decode b_Mo_expression 20 = .ok (.iadd, 1) := by decide +kernel
theorem d_Mo_expression_21 : decode b_Mo_expression 21 = .ok (.iaload, 1) := by decide +kernel
theorem d_Mo_expression_22 : decode b_Mo_expression 22 = .ok (.goto 4, 3) := by decide +kernel
theorem d_Mo_expression_25 : decode b_Mo_expression 25 = .ok (.iconst 0, 1) := by decide +kernel
theorem d_Mo_expression_26 : decode b_Mo_expression 26 = .ok (.istore_n 2, 1) := by decide +kernel
theorem d_Mo_expression_27 : decode b_Mo_expression 27 = .ok (.aload_n 0, 1) := by decide +kernel
theorem d_Mo_expression_28 : decode b_Mo_expression 28 = .ok (.iload_n 1, 1) := by decide +kernel
theorem d_Mo_expression_29 : decode b_Mo_expression 29 = .ok (.invokevirtual 76, 3) := by decide +kernel
theorem d_Mo_expression_32 : decode b_Mo_expression 32 = .ok (.istore_n 3, 1) := by decide +kernel
theorem d_Mo_expression_33 : decode b_Mo_expression 33 = .ok (.iconst 1, 1) := by decide +kernel
theorem d_Mo_expression_34 : decode b_Mo_expression 34 = .ok (.istore 4, 2) := by decide +kernel
theorem d_Mo_expression_36 : decode b_Mo_expression 36 = .ok (.iload_n 1, 1) := by decide +kernel
theorem d_Mo_expression_37 : decode b_Mo_expression 37 = .ok (.iconst 1, 1) := by decide +kernel
theorem d_Mo_expression_38 : decode b_Mo_expression 38 = .ok (.iadd, 1) := by decide +kernel
theorem d_Mo_expression_39 : decode b_Mo_expression 39 = .ok (.istore 5, 2) := by decide +kernel
theorem d_Mo_expression_41 : decode b_Mo_expression 41 = .ok (.iload 5, 2) := by decide +kernel
theorem d_Mo_expression_43 : decode b_Mo_expression 43 = .ok (.iload_n 3, 1) := by decide +kernel
theorem d_Mo_expression_44 : decode b_Mo_expression 44 = .ok (.if_icmp .ge 240, 3) := by decide +kernel
theorem d_Mo_expression_47 : decode b_Mo_expression 47 = .ok (.aload_n 0, 1) := by decide +kernel
theorem d_Mo_expression_48 : decode b_Mo_expression 48 = .ok (.getfield 7, 3) := by decide +kernel
theorem d_Mo_expression_51 : decode b_Mo_expression 51 = .ok (.iload 5, 2) := by decide +kernel
theorem d_Mo_expression_53 : decode b_Mo_expression 53 = .ok (.iaload, 1) := by decide +kernel
theorem d_Mo_expression_54 : decode b_Mo_expression 54 = .ok (.invokestatic 60, 3) := by decide +kernel
theorem d_Mo_expression_57 : decode b_Mo_expression 57 = .ok (.ifCond .eq 17, 3) := by decide +kernel
theorem d_Mo_expression_60 : decode b_Mo_expression 60 = .ok (.aload_n 0, 1) := by decide +kernel
theorem d_Mo_expression_61 : decode b_Mo_expression 61 = .ok (.aload_n 0, 1) := by decide +kernel
theorem d_Mo_expression_62 : decode b_Mo_expression 62 = .ok (.getfield 7, 3) := by decide +kernel
theorem d_Mo_expression_65 : decode b_Mo_expression 65 = .ok (.iload 5, 2) := by decide +kernel
theorem d_Mo_expression_67 : decode b_Mo_expression 67 = .ok (.iaload, 1) := by decide +kernel
theorem d_Mo_expression_68 : decode b_Mo_expression 68 = .ok (.invokevirtual 85, 3) := by decide +kernel
theorem d_Mo_expression_71 : decode b_Mo_expression 71 = .ok (.goto 4, 3) := by decide +kernel
theorem d_Mo_expression_74 : decode b_Mo_expression 74 = .ok (.iconst (-1), 1) := by decide +kernel
theorem d_Mo_expression_75 : decode b_Mo_expression 75 = .ok (.istore 6, 2) := by decide +kernel
theorem d_Mo_expression_77 : decode b_Mo_expression 77 = .ok (.iload 6, 2) := by decide +kernel
theorem d_Mo_expression_79 : decode b_Mo_expression 79 = .ok (.ifCond .lt 199, 3) := by decide +kernel
theorem d_Mo_expression_82 : decode b_Mo_expression 82 = .ok (.aload_n 0, 1) := by decide +kernel
theorem d_Mo_expression_83 : decode b_Mo_expression 83 = .ok (.getfield 19, 3) := by decide +kernel
theorem d_Mo_expression_86 : decode b_Mo_expression 86 = .ok (.iload 6, 2) := by decide +kernel
theorem d_Mo_expression_88 : decode b_Mo_expression 88 = .ok (.iaload, 1) := by decide +kernel
theorem d_Mo_expression_89 : decode b_Mo_expression 89 = .ok (.ifCond .le 189, 3) := by decide +kernel
theorem d_Mo_expression_92 : decode b_Mo_expression 92 = .ok (.iload 4, 2) := by decide +kernel
theorem d_Mo_expression_94 : decode b_Mo_expression 94 = .ok (.ifCond .ne 11, 3) := by decide +kernel
theorem d_Mo_expression_97 : decode b_Mo_expression 97 = .ok (.aload_n 0, 1) := by decide +kernel
theorem d_Mo_expression_98 : decode b_Mo_expression 98 = .ok (.iload_n 2, 1) := by decide +kernel
theorem d_Mo_expression_99 : decode b_Mo_expression 99 = .ok (.invokevirtual 168, 3) := by decide +kernel
theorem d_Mo_expression_102 : decode b_Mo_expression 102 = .ok (.goto 18, 3) := by decide +kernel
theorem d_Mo_expression_105 : decode b_Mo_expression 105 = .ok (.iload_n 2, 1) := by decide +kernel
theorem d_Mo_expression_106 : decode b_Mo_expression 106 = .ok (.ifCond .eq 14, 3) := by decide +kernel
theorem d_Mo_expression_109 : decode b_Mo_expression 109 = .ok (.iload_n 2, 1) := by decide +kernel
theorem d_Mo_expression_110 : decode b_Mo_expression 110 = .ok (.bipush 43, 2) := by decide +kernel
theorem d_Mo_expression_112 : decode b_Mo_expression 112 = .ok (.if_icmp .eq 8, 3) := by decide +kernel
theorem d_Mo_expression_115 : decode b_Mo_expression 115 = .ok (.aload_n 0, 1) := by decide +kernel
theorem d_Mo_expression_116 : decode b_Mo_expression 116 = .ok (.iload_n 2, 1) := by decide +kernel
theorem d_Mo_expression_117 : decode b_Mo_expression 117 = .ok (.invokevirtual 142, 3) := by decide +kernel
theorem d_Mo_expression_120 : decode b_Mo_expression 120 = .ok (.iconst 0, 1) := by decide +kernel
theorem d_Mo_expression_121 : decode b_Mo_expression 121 = .ok (.istore 4, 2) := by decide +kernel
theorem d_Mo_expression_123 : decode b_Mo_expression 123 = .ok (.aload_n 0, 1) := by decide +kernel
theorem d_Mo_expression_124 : decode b_Mo_expression 124 = .ok (.getfield 7, 3) := by decide +kernel
theorem d_Mo_expression_127 : decode b_Mo_expression 127 = .ok (.iload 5, 2) := by decide +kernel
theorem d_Mo_expression_129 : decode b_Mo_expression 129 = .ok (.iconst 1, 1) := by decide +kernel
theorem d_Mo_expression_130 : decode b_Mo_expression 130 = .ok (.iadd, 1) := by decide +kernel
theorem d_Mo_expression_131 : decode b_Mo_expression 131 = .ok (.iaload, 1) := by decide +kernel
theorem d_Mo_expression_132 : decode b_Mo_expression 132 = .ok (.bipush 42, 2) := by decide +kernel
theorem d_Mo_expression_134 : decode b_Mo_expression 134 = .ok (.if_icmp .ne 7, 3) := by decide +kernel
theorem d_Mo_expression_137 : decode b_Mo_expression 137 = .ok (.iconst 1, 1) := by decide +kernel
theorem d_Mo_expression_138 : decode b_Mo_expression 138 = .ok (.goto 4, 3) := by decide +kernel
theorem d_Mo_expression_141 : decode b_Mo_expression 141 = .ok (.iconst 0, 1) := by decide +kernel
theorem d_Mo_expression_142 : decode b_Mo_expression 142 = .ok (.istore 7, 2) := by decide +kernel
theorem d_Mo_expression_144 : decode b_Mo_expression 144 = .ok (.aload_n 0, 1) := by decide +kernel
theorem d_Mo_expression_145 : decode b_Mo_expression 145 = .ok (.getfield 7, 3) := by decide +kernel
theorem d_Mo_expression_148 : decode b_Mo_expression 148 = .ok (.iload 5, 2) := by decide +kernel
theorem d_Mo_expression_150 : decode b_Mo_expression 150 = .ok (.iconst 1, 1) := by decide +kernel
theorem d_Mo_expression_151 : decode b_Mo_expression 151 = .ok (.iadd, 1) := by decide +kernel
theorem d_Mo_expression_152 : decode b_Mo_expression 152 = .ok (.iaload, 1) := by decide +kernel
theorem d_Mo_expression_153 : decode b_Mo_expression 153 = .ok (.bipush 58, 2) := by decide +kernel
theorem d_Mo_expression_155 : decode b_Mo_expression 155 = .ok (.if_icmp .ne 18, 3) := by decide +kernel
theorem d_Mo_expression_158 : decode b_Mo_expression 158 = .ok (.aload_n 0, 1) := by decide +kernel
theorem d_Mo_expression_159 : decode b_Mo_expression 159 = .ok (.getfield 7, 3) := by decide +kernel
theorem d_Mo_expression_162 : decode b_Mo_expression 162 = .ok (.iload 5, 2) := by decide +kernel
theorem d_Mo_expression_164 : decode b_Mo_expression 164 = .ok (.iconst 2, 1) := by decide +kernel
theorem d_Mo_expression_165 : decode b_Mo_expression 165 = .ok (.iadd, 1) := by decide +kernel
theorem d_Mo_expression_166 : decode b_Mo_expression 166 = .ok (.iaload, 1) := by decide +kernel
theorem d_Mo_expression_167 : decode b_Mo_expression 167 = .ok (.bipush 48, 2) := by decide +kernel
theorem d_Mo_expression_169 : decode b_Mo_expression 169 = .ok (.isub, 1) := by decide +kernel
theorem d_Mo_expression_170 : decode b_Mo_expression 170 = .ok (.goto 5, 3) := by decide +kernel
theorem d_Mo_expression_173 : decode b_Mo_expression 173 = .ok (.bipush 8, 2) := by decide +kernel
theorem d_Mo_expression_175 : decode b_Mo_expression 175 = .ok (.istore 8, 2) := by decide +kernel
theorem d_Mo_expression_177 : decode b_Mo_expression 177 = .ok (.iconst 0, 1) := by decide +kernel
theorem d_Mo_expression_178 : decode b_Mo_expression 178 = .ok (.istore 9, 2) := by decide +kernel
theorem d_Mo_expression_180 : decode b_Mo_expression 180 = .ok (.iload 7, 2) := by decide +kernel
theorem d_Mo_expression_182 : decode b_Mo_expression 182 = .ok (.ifCond .eq 61, 3) := by decide +kernel
theorem d_Mo_expression_185 : decode b_Mo_expression 185 = .ok (.iload 9, 2) := by decide +kernel
theorem d_Mo_expression_187 : decode b_Mo_expression 187 = .ok (.aload_n 0, 1) := by decide +kernel
theorem d_Mo_expression_188 : decode b_Mo_expression 188 = .ok (.getfield 19, 3) := by decide +kernel
theorem d_Mo_expression_191 : decode b_Mo_expression 191 = .ok (.iload 6, 2) := by decide +kernel
theorem d_Mo_expression_193 : decode b_Mo_expression 193 = .ok (.iaload, 1) := by decide +kernel
theorem d_Mo_expression_194 : decode b_Mo_expression 194 = .ok (.if_icmp .ge 49, 3) := by decide +kernel
theorem d_Mo_expression_197 : decode b_Mo_expression 197 = .ok (.iload 9, 2) := by decide +kernel
theorem d_Mo_expression_199 : decode b_Mo_expression 199 = .ok (.ifCond .le 8, 3) := by decide +kernel
theorem d_Mo_expression_202 : decode b_Mo_expression 202 = .ok (.aload_n 0, 1) := by decide +kernel
theorem d_Mo_expression_203 : decode b_Mo_expression 203 = .ok (.iload_n 2, 1) := by decide +kernel
theorem d_Mo_expression_204 : decode b_Mo_expression 204 = .ok (.invokevirtual 168, 3) := by decide +kernel
theorem d_Mo_expression_207 : decode b_Mo_expression 207 = .ok (.aload_n 0, 1) := by decide +kernel
theorem d_Mo_expression_208 : decode b_Mo_expression 208 = .ok (.aload_n 0, 1) := by decide +kernel
theorem d_Mo_expression_209 : decode b_Mo_expression 209 = .ok (.getfield 7, 3) := by decide +kernel
theorem d_Mo_expression_212 : decode b_Mo_expression 212 = .ok (.iload 5, 2) := by decide +kernel
theorem d_Mo_expression_214 : decode b_Mo_expression 214 = .ok (.iaload, 1) := by decide +kernel
theorem d_Mo_expression_215 : decode b_Mo_expression 215 = .ok (.iconst 3, 1) := by decide +kernel
theorem d_Mo_expression_216 : decode b_Mo_expression 216 = .ok (.iload 6, 2) := by decide +kernel
theorem d_Mo_expression_218 : decode b_Mo_expression 218 = .ok (.imul, 1) := by decide +kernel
theorem d_Mo_expression_219 : decode b_Mo_expression 219 = .ok (.iload 9, 2) := by decide +kernel
theorem d_Mo_expression_221 : decode b_Mo_expression 221 = .ok (.iadd, 1) := by decide +kernel
theorem d_Mo_expression_222 : decode b_Mo_expression 222 = .ok (.iconst 3, 1) := by decide +kernel
theorem d_Mo_expression_223 : decode b_Mo_expression 223 = .ok (.iload 6, 2) := by decide +kernel
theorem d_Mo_expression_225 : decode b_Mo_expression 225 = .ok (.imul, 1) := by decide +kernel
theorem d_Mo_expression_226 : decode b_Mo_expression 226 = .ok (.iload 9, 2) := by decide +kernel
theorem d_Mo_expression_228 : decode b_Mo_expression 228 = .ok (.iadd, 1) := by decide +kernel
theorem d_Mo_expression_229 : decode b_Mo_expression 229 = .ok (.iconst 1, 1) := by decide +kernel
theorem d_Mo_expression_230 : decode b_Mo_expression 230 = .ok (.iadd, 1) := by decide +kernel
theorem d_Mo_expression_231 : decode b_Mo_expression 231 = .ok (.bipush 8, 2) := by decide +kernel
theorem d_Mo_expression_233 : decode b_Mo_expression 233 = .ok (.iload_n 2, 1) := by decide +kernel
theorem d_Mo_expression_234 : decode b_Mo_expression 234 = .ok (.invokevirtual 171, 3) := by decide +kernel
theorem d_Mo_expression_237 : decode b_Mo_expression 237 = .ok (.iinc 9 1, 3) := by decide +kernel
theorem d_Mo_expression_240 : decode b_Mo_expression 240 = .ok (.goto (-60), 3) := by decide +kernel
theorem d_Mo_expression_243 : decode b_Mo_expression 243 = .ok (.iload 7, 2) := by decide +kernel
theorem d_Mo_expression_245 : decode b_Mo_expression 245 = .ok (.ifCond .ne 33, 3) := by decide +kernel
theorem d_Mo_expression_248 : decode b_Mo_expression 248 = .ok (.aload_n 0, 1) := by decide +kernel
theorem d_Mo_expression_249 : decode b_Mo_expression 249 = .ok (.aload_n 0, 1) := by decide +kernel
theorem d_Mo_expression_250 : decode b_Mo_expression 250 = .ok (.getfield 7, 3) := by decide +kernel
theorem d_Mo_expression_253 : decode b_Mo_expression 253 = .ok (.iload 5, 2) := by decide +kernel
theorem d_Mo_expression_255 : decode b_Mo_expression 255 = .ok (.iaload, 1) := by decide +kernel
theorem d_Mo_expression_256 : decode b_Mo_expression 256 = .ok (.iconst 3, 1) := by decide +kernel
theorem d_Mo_expression_257 : decode b_Mo_expression 257 = .ok (.iload 6, 2) := by decide +kernel
theorem d_Mo_expression_259 : decode b_Mo_expression 259 = .ok (.imul, 1) := by decide +kernel
theorem d_Mo_expression_260 : decode b_Mo_expression 260 = .ok (.iconst 3, 1) := by decide +kernel
theorem d_Mo_expression_261 : decode b_Mo_expression 261 = .ok (.iload 6, 2) := by decide +kernel
theorem d_Mo_expression_263 : decode b_Mo_expression 263 = .ok (.imul, 1) := by decide +kernel
theorem d_Mo_expression_264 : decode b_Mo_expression 264 = .ok (.aload_n 0, 1) := by decide +kernel
theorem d_Mo_expression_265 : decode b_Mo_expression 265 = .ok (.getfield 19, 3) := by decide +kernel
theorem d_Mo_expression_268 : decode b_Mo_expression 268 = .ok (.iload 6, 2) := by decide +kernel
theorem d_Mo_expression_270 : decode b_Mo_expression 270 = .ok (.iaload, 1) := by decide +kernel
theorem d_Mo_expression_271 : decode b_Mo_expression 271 = .ok (.iadd, 1) := by decide +kernel
theorem d_Mo_expression_272 : decode b_Mo_expression 272 = .ok (.iload 8, 2) := by decide +kernel
theorem d_Mo_expression_274 : decode b_Mo_expression 274 = .ok (.iload_n 2, 1) := by decide +kernel
theorem d_Mo_expression_275 : decode b_Mo_expression 275 = .ok (.invokevirtual 171, 3) := by decide +kernel
theorem d_Mo_expression_278 : decode b_Mo_expression 278 = .ok (.iinc 5 1, 3) := by decide +kernel
theorem d_Mo_expression_281 : decode b_Mo_expression 281 = .ok (.goto (-240), 3) := by decide +kernel
theorem d_Mo_expression_284 : decode b_Mo_expression 284 = .ok (.return_, 1) := by decide +kernel
def f_Mo_expression_278 (K41 : Int32 → Int32 → Int32 → Int32 → zSt → Option zSt) (a2 : Int32) (a3 : Int32) (a4 : Int32) (a5 : Int32) (S : zSt) : Option zSt := (K41 a2 a3 a4 (a5 + 1) S)
def f_Mo_expression_243 (K41 : Int32 → Int32 → Int32 → Int32 → zSt → Option zSt) (a2 : Int32) (a3 : Int32) (a4 : Int32) (a5 : Int32) (a6 : Int32) (a7 : Int32) (a8 : Int32) (S : zSt) : Option zSt := (if a7 = 0 then gdi a5 40 (gdi a6 6 (((f_Mo_give (S 67 a5.toNatClampNeg) (3 * a6) ((3 * a6) + (S 70 a6.toNatClampNeg)) a8 a2 S).bind fun u4 => (f_Mo_expression_278 K41 a2 a3 a4 a5 u4)))) else (f_Mo_expression_278 K41 a2 a3 a4 a5 S))
def f_Mo_expression_207 (K41 : Int32 → Int32 → Int32 → Int32 → zSt → Option zSt) (K180 : Int32 → Int32 → Int32 → Int32 → Int32 → Int32 → Int32 → Int32 → zSt → Option zSt) (a2 : Int32) (a3 : Int32) (a4 : Int32) (a5 : Int32) (a6 : Int32) (a7 : Int32) (a8 : Int32) (a9 : Int32) (S : zSt) : Option zSt := gdi a5 40 (((f_Mo_give (S 67 a5.toNatClampNeg) ((3 * a6) + a9) (((3 * a6) + a9) + 1) 8 a2 S).bind fun u5 => (K180 a2 a3 a4 a5 a6 a7 a8 (a9 + 1) u5)))
def f_Mo_expression_180 (K41 : Int32 → Int32 → Int32 → Int32 → zSt → Option zSt) : Nat → Int32 → Int32 → Int32 → Int32 → Int32 → Int32 → Int32 → Int32 → zSt → Option zSt
  | 0, _, _, _, _, _, _, _, _, _ => none
  | n + 1, a2, a3, a4, a5, a6, a7, a8, a9, S => (if a7 = 0 then (f_Mo_expression_243 K41 a2 a3 a4 a5 a6 a7 a8 S) else gdi a6 6 ((if (S 70 a6.toNatClampNeg) ≤ a9 then (f_Mo_expression_243 K41 a2 a3 a4 a5 a6 a7 a8 S) else (if a9 ≤ 0 then (f_Mo_expression_207 K41 (f_Mo_expression_180 K41 n) a2 a3 a4 a5 a6 a7 a8 a9 S) else ((f_Mo_between a2 S).bind fun u6 => (f_Mo_expression_207 K41 (f_Mo_expression_180 K41 n) a2 a3 a4 a5 a6 a7 a8 a9 u6))))))
def f_Mo_expression_175 (K41 : Int32 → Int32 → Int32 → Int32 → zSt → Option zSt) (a2 : Int32) (a3 : Int32) (a4 : Int32) (a5 : Int32) (a6 : Int32) (a7 : Int32) (t0 : Int32) (S : zSt) : Option zSt := (f_Mo_expression_180 K41 fu a2 a3 a4 a5 a6 a7 t0 0 S)
def f_Mo_expression_142 (K41 : Int32 → Int32 → Int32 → Int32 → zSt → Option zSt) (a2 : Int32) (a3 : Int32) (a4 : Int32) (a5 : Int32) (a6 : Int32) (t0 : Int32) (S : zSt) : Option zSt := gdi (a5 + 1) 40 ((if (S 67 (a5 + 1).toNatClampNeg) = 58 then gdi (a5 + 2) 40 ((f_Mo_expression_175 K41 a2 a3 a4 a5 a6 t0 ((S 67 (a5 + 2).toNatClampNeg) - 48) S)) else (f_Mo_expression_175 K41 a2 a3 a4 a5 a6 t0 8 S)))
def f_Mo_expression_120 (K41 : Int32 → Int32 → Int32 → Int32 → zSt → Option zSt) (a2 : Int32) (a3 : Int32) (a5 : Int32) (a6 : Int32) (S : zSt) : Option zSt := gdi (a5 + 1) 40 ((if (S 67 (a5 + 1).toNatClampNeg) = 42 then (f_Mo_expression_142 K41 a2 a3 0 a5 a6 1 S) else (f_Mo_expression_142 K41 a2 a3 0 a5 a6 0 S)))
def f_Mo_expression_75 (K41 : Int32 → Int32 → Int32 → Int32 → zSt → Option zSt) (a2 : Int32) (a3 : Int32) (a4 : Int32) (a5 : Int32) (t0 : Int32) (S : zSt) : Option zSt := (if t0 < 0 then (f_Mo_expression_278 K41 a2 a3 a4 a5 S) else gdi t0 6 ((if (S 70 t0.toNatClampNeg) ≤ 0 then (f_Mo_expression_278 K41 a2 a3 a4 a5 S) else (if a4 = 0 then ((f_Mo_between a2 S).bind fun u8 => (f_Mo_expression_120 K41 a2 a3 a5 t0 u8)) else (if a2 = 0 then (f_Mo_expression_120 K41 a2 a3 a5 t0 S) else (if a2 = 43 then (f_Mo_expression_120 K41 a2 a3 a5 t0 S) else ((f_Mo_put a2 S).bind fun u7 => (f_Mo_expression_120 K41 a2 a3 a5 t0 u7))))))))
def f_Mo_expression_41 : Nat → Int32 → Int32 → Int32 → Int32 → zSt → Option zSt
  | 0, _, _, _, _, _ => none
  | n + 1, a2, a3, a4, a5, S => (if a3 ≤ a5 then (some S) else gdi a5 40 (((f_Mo_small (S 67 a5.toNatClampNeg) S).bind fun u3 => (if u3 = 0 then (f_Mo_expression_75 (f_Mo_expression_41 n) a2 a3 a4 a5 (-1) S) else gdi a5 40 (((f_Mo_named (S 67 a5.toNatClampNeg) S).bind fun u9 => (f_Mo_expression_75 (f_Mo_expression_41 n) a2 a3 a4 a5 u9 S)))))))
def f_Mo_expression_26 (a1 : Int32) (t0 : Int32) (S : zSt) : Option zSt := ((f_Mo_behind a1 S).bind fun u2 => (f_Mo_expression_41 fu t0 u2 1 (a1 + 1) S))
def f_Mo_expression (a1 : Int32) (S : zSt) : Option zSt := gdi (a1 + 1) 40 (((f_Mo_operator (S 67 (a1 + 1).toNatClampNeg) S).bind fun u1 => (if u1 = 0 then (f_Mo_expression_26 a1 0 S) else gdi (a1 + 1) 40 ((f_Mo_expression_26 a1 (S 67 (a1 + 1).toNatClampNeg) S)))))
set_option maxHeartbeats 4000000 in
set_option maxRecDepth 100000 in
theorem c_Mo_expression (l : Launch) (g : zG) (hD : GD g) (a1 : Int32) (S : zSt) (u : zSt) (h : f_Mo_expression a1 S = some u) : Met l y_Mo_expression (mw y_Mo_expression b_Mo_expression 10 none) (rmD 6) (Pw g [.ref (ga g 66), .int a1] S) (Qvs g u) 0 0 (gA g) := by
  refine z_go (own := R_Mo) (lv0 := [(0, .ref (ga g 66)), (1, .int a1)]) hD (by decide) rfl (Nat.le_of_ble_eq_true rfl) rfl ?_
  intro p e s m args below meth c C D ls hl
  have hx := C.1
  have hb := C.2.1
  have hown := C.2.2.2.1
  have hts := C.2.2.2.2.1
  have B278 : ∀ (K41 : Int32 → Int32 → Int32 → Int32 → zSt → Option zSt) (hK41 : ∀ (H : Heap) (locs : List Loc) (S : zSt) (ls : Array Slot) (a2 : Int32) (a3 : Int32) (a4 : Int32) (a5 : Int32), K41 a2 a3 a4 a5 S = some u → Dy g s S H locs → lv_has ls 10 [(0, .ref (ga g 66)), (2, .int a2), (3, .int a3), (4, .int a4), (5, .int a5)] → W p l e (rmD 6) s m args below meth c H locs 0 0 (MQ below (Qvs g u) args s 0 0 (gA g)) (F0 m 41 ls [])) (H : Heap) (locs : List Loc) (S : zSt) (ls : Array Slot) (a2 : Int32) (a3 : Int32) (a4 : Int32) (a5 : Int32), f_Mo_expression_278 K41 a2 a3 a4 a5 S = some u → Dy g s S H locs → lv_has ls 10 [(0, .ref (ga g 66)), (2, .int a2), (3, .int a3), (4, .int a4), (5, .int a5)] → W p l e (rmD 6) s m args below meth c H locs 0 0 (MQ below (Qvs g u) args s 0 0 (gA g)) (F0 m 278 ls []) := by
    intro K41 hK41 H locs S ls a2 a3 a4 a5 h D hl
    unfold f_Mo_expression_278 at h
    refine lv_iinc (k := 4) (lv' := [(5, .int (a5 + 1)), (0, .ref (ga g 66)), (2, .int a2), (3, .int a3), (4, .int a4)]) hx hb d_Mo_expression_278 hl rfl (ii1 _) (by decide) rfl (fun ls hl => ?_)
    refine lv_goto hx hb d_Mo_expression_281 rfl ?_
    exact hK41 _ _ _ _ _ _ _ _ h D (lv_sub hl [1, 2, 3, 4, 0] rfl)
  have B243 : ∀ (K41 : Int32 → Int32 → Int32 → Int32 → zSt → Option zSt) (hK41 : ∀ (H : Heap) (locs : List Loc) (S : zSt) (ls : Array Slot) (a2 : Int32) (a3 : Int32) (a4 : Int32) (a5 : Int32), K41 a2 a3 a4 a5 S = some u → Dy g s S H locs → lv_has ls 10 [(0, .ref (ga g 66)), (2, .int a2), (3, .int a3), (4, .int a4), (5, .int a5)] → W p l e (rmD 6) s m args below meth c H locs 0 0 (MQ below (Qvs g u) args s 0 0 (gA g)) (F0 m 41 ls [])) (H : Heap) (locs : List Loc) (S : zSt) (ls : Array Slot) (a2 : Int32) (a3 : Int32) (a4 : Int32) (a5 : Int32) (a6 : Int32) (a7 : Int32) (a8 : Int32), f_Mo_expression_243 K41 a2 a3 a4 a5 a6 a7 a8 S = some u → Dy g s S H locs → lv_has ls 10 [(0, .ref (ga g 66)), (2, .int a2), (3, .int a3), (4, .int a4), (5, .int a5), (6, .int a6), (7, .int a7), (8, .int a8)] → W p l e (rmD 6) s m args below meth c H locs 0 0 (MQ below (Qvs g u) args s 0 0 (gA g)) (F0 m 243 ls []) := by
    intro K41 hK41 H locs S ls a2 a3 a4 a5 a6 a7 a8 h D hl
    unfold f_Mo_expression_243 at h
    refine lv_iload hx hb d_Mo_expression_243 (lv_at hl 6 rfl) ?_
    refine lv_if_ne hx hb d_Mo_expression_245 rfl (fun z => ?_) (fun z => ?_)
    · replace h := if_f z h
      exact B278 _ hK41 _ _ _ _ _ _ _ _ h D (lv_sub hl [0, 1, 2, 3, 4] rfl)
    · replace h := if_t z h
      refine lv_aload_n hx hb d_Mo_expression_248 rfl (lv_at hl 0 rfl) ?_
      refine lv_aload_n hx hb d_Mo_expression_249 rfl (lv_at hl 0 rfl) ?_
      refine x_get (v := .ref (ga g 67)) C D kc_Mo (by decide) sh_66 2 rfl (by decide) wf_Mo_7 rfl rfl d_Mo_expression_250 ?_
      refine lv_iload hx hb d_Mo_expression_253 (lv_at hl 4 rfl) ?_
      refine x_iald C D (by decide) sh_67 d_Mo_expression_255 h (fun _ h => ?_)
      refine lv_iconst (v := 3) hx hb d_Mo_expression_256 (by decide) ?_
      refine lv_iload hx hb d_Mo_expression_257 (lv_at hl 5 rfl) ?_
      refine lv_imul hx hb d_Mo_expression_259 ?_
      refine lv_iconst (v := 3) hx hb d_Mo_expression_260 (by decide) ?_
      refine lv_iload hx hb d_Mo_expression_261 (lv_at hl 5 rfl) ?_
      refine lv_imul hx hb d_Mo_expression_263 ?_
      refine lv_aload_n hx hb d_Mo_expression_264 rfl (lv_at hl 0 rfl) ?_
      refine x_get (v := .ref (ga g 70)) C D kc_Mo (by decide) sh_66 6 rfl (by decide) wf_Mo_19 rfl rfl d_Mo_expression_265 ?_
      refine lv_iload hx hb d_Mo_expression_268 (lv_at hl 5 rfl) ?_
      refine x_iald C D (by decide) sh_70 d_Mo_expression_270 h (fun _ h => ?_)
      refine lv_iadd hx hb d_Mo_expression_271 ?_
      refine lv_iload hx hb d_Mo_expression_272 (lv_at hl 7 rfl) ?_
      refine lv_iload_n hx hb d_Mo_expression_274 rfl (lv_at hl 1 rfl) ?_
      obtain ⟨u4, hu4, h⟩ := bd_some h
      refine x_cvs (rest := []) (r_V C D (c_Mo_give l g hD (S 67 a5.toNatClampNeg) (3 * a6) ((3 * a6) + (S 70 a6.toNatClampNeg)) a8 a2 S u4 hu4) wc_Mo_give wm_Mo_171 wi_Mo_give wd_Mo_give (by decide) sh_66 kc_Mo.1 rfl rfl hl (Nat.le_of_ble_eq_true rfl) (by decide) d_Mo_expression_275) D (fun H locs D => ?_)
      exact B278 _ hK41 _ _ _ _ _ _ _ _ h D (lv_sub hl [0, 1, 2, 3, 4] rfl)
  have B207 : ∀ (K41 : Int32 → Int32 → Int32 → Int32 → zSt → Option zSt) (hK41 : ∀ (H : Heap) (locs : List Loc) (S : zSt) (ls : Array Slot) (a2 : Int32) (a3 : Int32) (a4 : Int32) (a5 : Int32), K41 a2 a3 a4 a5 S = some u → Dy g s S H locs → lv_has ls 10 [(0, .ref (ga g 66)), (2, .int a2), (3, .int a3), (4, .int a4), (5, .int a5)] → W p l e (rmD 6) s m args below meth c H locs 0 0 (MQ below (Qvs g u) args s 0 0 (gA g)) (F0 m 41 ls [])) (K180 : Int32 → Int32 → Int32 → Int32 → Int32 → Int32 → Int32 → Int32 → zSt → Option zSt) (hK180 : ∀ (H : Heap) (locs : List Loc) (S : zSt) (ls : Array Slot) (a2 : Int32) (a3 : Int32) (a4 : Int32) (a5 : Int32) (a6 : Int32) (a7 : Int32) (a8 : Int32) (a9 : Int32), K180 a2 a3 a4 a5 a6 a7 a8 a9 S = some u → Dy g s S H locs → lv_has ls 10 [(0, .ref (ga g 66)), (2, .int a2), (3, .int a3), (4, .int a4), (5, .int a5), (6, .int a6), (7, .int a7), (8, .int a8), (9, .int a9)] → W p l e (rmD 6) s m args below meth c H locs 0 0 (MQ below (Qvs g u) args s 0 0 (gA g)) (F0 m 180 ls [])) (H : Heap) (locs : List Loc) (S : zSt) (ls : Array Slot) (a2 : Int32) (a3 : Int32) (a4 : Int32) (a5 : Int32) (a6 : Int32) (a7 : Int32) (a8 : Int32) (a9 : Int32), f_Mo_expression_207 K41 K180 a2 a3 a4 a5 a6 a7 a8 a9 S = some u → Dy g s S H locs → lv_has ls 10 [(0, .ref (ga g 66)), (2, .int a2), (3, .int a3), (4, .int a4), (5, .int a5), (6, .int a6), (7, .int a7), (8, .int a8), (9, .int a9)] → W p l e (rmD 6) s m args below meth c H locs 0 0 (MQ below (Qvs g u) args s 0 0 (gA g)) (F0 m 207 ls []) := by
    intro K41 hK41 K180 hK180 H locs S ls a2 a3 a4 a5 a6 a7 a8 a9 h D hl
    unfold f_Mo_expression_207 at h
    refine lv_aload_n hx hb d_Mo_expression_207 rfl (lv_at hl 0 rfl) ?_
    refine lv_aload_n hx hb d_Mo_expression_208 rfl (lv_at hl 0 rfl) ?_
    refine x_get (v := .ref (ga g 67)) C D kc_Mo (by decide) sh_66 2 rfl (by decide) wf_Mo_7 rfl rfl d_Mo_expression_209 ?_
    refine lv_iload hx hb d_Mo_expression_212 (lv_at hl 4 rfl) ?_
    refine x_iald C D (by decide) sh_67 d_Mo_expression_214 h (fun _ h => ?_)
    refine lv_iconst (v := 3) hx hb d_Mo_expression_215 (by decide) ?_
    refine lv_iload hx hb d_Mo_expression_216 (lv_at hl 5 rfl) ?_
    refine lv_imul hx hb d_Mo_expression_218 ?_
    refine lv_iload hx hb d_Mo_expression_219 (lv_at hl 8 rfl) ?_
    refine lv_iadd hx hb d_Mo_expression_221 ?_
    refine lv_iconst (v := 3) hx hb d_Mo_expression_222 (by decide) ?_
    refine lv_iload hx hb d_Mo_expression_223 (lv_at hl 5 rfl) ?_
    refine lv_imul hx hb d_Mo_expression_225 ?_
    refine lv_iload hx hb d_Mo_expression_226 (lv_at hl 8 rfl) ?_
    refine lv_iadd hx hb d_Mo_expression_228 ?_
    refine lv_iconst (v := 1) hx hb d_Mo_expression_229 (by decide) ?_
    refine lv_iadd hx hb d_Mo_expression_230 ?_
    refine lv_bipush (v := 8) hx hb d_Mo_expression_231 (by decide) ?_
    refine lv_iload_n hx hb d_Mo_expression_233 rfl (lv_at hl 1 rfl) ?_
    obtain ⟨u5, hu5, h⟩ := bd_some h
    refine x_cvs (rest := []) (r_V C D (c_Mo_give l g hD (S 67 a5.toNatClampNeg) ((3 * a6) + a9) (((3 * a6) + a9) + 1) 8 a2 S u5 hu5) wc_Mo_give wm_Mo_171 wi_Mo_give wd_Mo_give (by decide) sh_66 kc_Mo.1 rfl rfl hl (Nat.le_of_ble_eq_true rfl) (by decide) d_Mo_expression_234) D (fun H locs D => ?_)
    refine lv_iinc (k := 8) (lv' := [(9, .int (a9 + 1)), (0, .ref (ga g 66)), (2, .int a2), (3, .int a3), (4, .int a4), (5, .int a5), (6, .int a6), (7, .int a7), (8, .int a8)]) hx hb d_Mo_expression_237 hl rfl (ii1 _) (by decide) rfl (fun ls hl => ?_)
    refine lv_goto hx hb d_Mo_expression_240 rfl ?_
    exact hK180 _ _ _ _ _ _ _ _ _ _ _ _ h D (lv_sub hl [1, 2, 3, 4, 5, 6, 7, 8, 0] rfl)
  have L180 : ∀ (K41 : Int32 → Int32 → Int32 → Int32 → zSt → Option zSt) (hK41 : ∀ (H : Heap) (locs : List Loc) (S : zSt) (ls : Array Slot) (a2 : Int32) (a3 : Int32) (a4 : Int32) (a5 : Int32), K41 a2 a3 a4 a5 S = some u → Dy g s S H locs → lv_has ls 10 [(0, .ref (ga g 66)), (2, .int a2), (3, .int a3), (4, .int a4), (5, .int a5)] → W p l e (rmD 6) s m args below meth c H locs 0 0 (MQ below (Qvs g u) args s 0 0 (gA g)) (F0 m 41 ls [])) (n : Nat) (H : Heap) (locs : List Loc) (S : zSt) (ls : Array Slot) (a2 : Int32) (a3 : Int32) (a4 : Int32) (a5 : Int32) (a6 : Int32) (a7 : Int32) (a8 : Int32) (a9 : Int32), f_Mo_expression_180 K41 n a2 a3 a4 a5 a6 a7 a8 a9 S = some u → Dy g s S H locs → lv_has ls 10 [(0, .ref (ga g 66)), (2, .int a2), (3, .int a3), (4, .int a4), (5, .int a5), (6, .int a6), (7, .int a7), (8, .int a8), (9, .int a9)] → W p l e (rmD 6) s m args below meth c H locs 0 0 (MQ below (Qvs g u) args s 0 0 (gA g)) (F0 m 180 ls []) := by
    intro K41 hK41 n
    induction n with
    | zero => intro H locs S ls a2 a3 a4 a5 a6 a7 a8 a9 h D hl; rw [f_Mo_expression_180] at h; cases h
    | succ n hK180 =>
      intro H locs S ls a2 a3 a4 a5 a6 a7 a8 a9 h D hl
      rw [f_Mo_expression_180] at h
      refine lv_iload hx hb d_Mo_expression_180 (lv_at hl 6 rfl) ?_
      refine lv_if_eq hx hb d_Mo_expression_182 rfl (fun z => ?_) (fun z => ?_)
      · replace h := if_t z h
        exact B243 _ hK41 _ _ _ _ _ _ _ _ _ _ _ h D (lv_sub hl [0, 1, 2, 3, 4, 5, 6, 7] rfl)
      · replace h := if_f z h
        refine lv_iload hx hb d_Mo_expression_185 (lv_at hl 8 rfl) ?_
        refine lv_aload_n hx hb d_Mo_expression_187 rfl (lv_at hl 0 rfl) ?_
        refine x_get (v := .ref (ga g 70)) C D kc_Mo (by decide) sh_66 6 rfl (by decide) wf_Mo_19 rfl rfl d_Mo_expression_188 ?_
        refine lv_iload hx hb d_Mo_expression_191 (lv_at hl 5 rfl) ?_
        refine x_iald C D (by decide) sh_70 d_Mo_expression_193 h (fun _ h => ?_)
        refine lv_icmp_ge hx hb d_Mo_expression_194 rfl (fun z => ?_) (fun z => ?_)
        · replace h := if_t z h
          exact B243 _ hK41 _ _ _ _ _ _ _ _ _ _ _ h D (lv_sub hl [0, 1, 2, 3, 4, 5, 6, 7] rfl)
        · replace h := if_f z h
          refine lv_iload hx hb d_Mo_expression_197 (lv_at hl 8 rfl) ?_
          refine lv_if_le hx hb d_Mo_expression_199 rfl (fun z => ?_) (fun z => ?_)
          · replace h := if_t z h
            exact B207 _ hK41 _ hK180 _ _ _ _ _ _ _ _ _ _ _ _ h D (lv_sub hl [0, 1, 2, 3, 4, 5, 6, 7, 8] rfl)
          · replace h := if_f z h
            refine lv_aload_n hx hb d_Mo_expression_202 rfl (lv_at hl 0 rfl) ?_
            refine lv_iload_n hx hb d_Mo_expression_203 rfl (lv_at hl 1 rfl) ?_
            obtain ⟨u6, hu6, h⟩ := bd_some h
            refine x_cvs (rest := []) (r_V C D (c_Mo_between l g hD a2 S u6 hu6) wc_Mo_between wm_Mo_168 wi_Mo_between wd_Mo_between (by decide) sh_66 kc_Mo.1 rfl rfl hl (Nat.le_of_ble_eq_true rfl) (by decide) d_Mo_expression_204) D (fun H locs D => ?_)
            exact B207 _ hK41 _ hK180 _ _ _ _ _ _ _ _ _ _ _ _ h D (lv_sub hl [0, 1, 2, 3, 4, 5, 6, 7, 8] rfl)
  have B175 : ∀ (K41 : Int32 → Int32 → Int32 → Int32 → zSt → Option zSt) (hK41 : ∀ (H : Heap) (locs : List Loc) (S : zSt) (ls : Array Slot) (a2 : Int32) (a3 : Int32) (a4 : Int32) (a5 : Int32), K41 a2 a3 a4 a5 S = some u → Dy g s S H locs → lv_has ls 10 [(0, .ref (ga g 66)), (2, .int a2), (3, .int a3), (4, .int a4), (5, .int a5)] → W p l e (rmD 6) s m args below meth c H locs 0 0 (MQ below (Qvs g u) args s 0 0 (gA g)) (F0 m 41 ls [])) (H : Heap) (locs : List Loc) (S : zSt) (ls : Array Slot) (a2 : Int32) (a3 : Int32) (a4 : Int32) (a5 : Int32) (a6 : Int32) (a7 : Int32) (t0 : Int32), f_Mo_expression_175 K41 a2 a3 a4 a5 a6 a7 t0 S = some u → Dy g s S H locs → lv_has ls 10 [(0, .ref (ga g 66)), (2, .int a2), (3, .int a3), (4, .int a4), (5, .int a5), (6, .int a6), (7, .int a7)] → W p l e (rmD 6) s m args below meth c H locs 0 0 (MQ below (Qvs g u) args s 0 0 (gA g)) (F0 m 175 ls [.int t0]) := by
    intro K41 hK41 H locs S ls a2 a3 a4 a5 a6 a7 t0 h D hl
    unfold f_Mo_expression_175 at h
    refine lv_istore (lv' := [(8, .int t0), (0, .ref (ga g 66)), (2, .int a2), (3, .int a3), (4, .int a4), (5, .int a5), (6, .int a6), (7, .int a7)]) hx hb d_Mo_expression_175 hl (by decide) rfl (fun ls hl => ?_)
    refine lv_iconst (v := 0) hx hb d_Mo_expression_177 (by decide) ?_
    refine lv_istore (lv' := [(9, .int 0), (8, .int t0), (0, .ref (ga g 66)), (2, .int a2), (3, .int a3), (4, .int a4), (5, .int a5), (6, .int a6), (7, .int a7)]) hx hb d_Mo_expression_178 hl (by decide) rfl (fun ls hl => ?_)
    exact L180 _ hK41 _ _ _ _ _ _ _ _ _ _ _ _ _ h D (lv_sub hl [2, 3, 4, 5, 6, 7, 8, 1, 0] rfl)
  have B142 : ∀ (K41 : Int32 → Int32 → Int32 → Int32 → zSt → Option zSt) (hK41 : ∀ (H : Heap) (locs : List Loc) (S : zSt) (ls : Array Slot) (a2 : Int32) (a3 : Int32) (a4 : Int32) (a5 : Int32), K41 a2 a3 a4 a5 S = some u → Dy g s S H locs → lv_has ls 10 [(0, .ref (ga g 66)), (2, .int a2), (3, .int a3), (4, .int a4), (5, .int a5)] → W p l e (rmD 6) s m args below meth c H locs 0 0 (MQ below (Qvs g u) args s 0 0 (gA g)) (F0 m 41 ls [])) (H : Heap) (locs : List Loc) (S : zSt) (ls : Array Slot) (a2 : Int32) (a3 : Int32) (a4 : Int32) (a5 : Int32) (a6 : Int32) (t0 : Int32), f_Mo_expression_142 K41 a2 a3 a4 a5 a6 t0 S = some u → Dy g s S H locs → lv_has ls 10 [(0, .ref (ga g 66)), (2, .int a2), (3, .int a3), (4, .int a4), (5, .int a5), (6, .int a6)] → W p l e (rmD 6) s m args below meth c H locs 0 0 (MQ below (Qvs g u) args s 0 0 (gA g)) (F0 m 142 ls [.int t0]) := by
    intro K41 hK41 H locs S ls a2 a3 a4 a5 a6 t0 h D hl
    unfold f_Mo_expression_142 at h
    refine lv_istore (lv' := [(7, .int t0), (0, .ref (ga g 66)), (2, .int a2), (3, .int a3), (4, .int a4), (5, .int a5), (6, .int a6)]) hx hb d_Mo_expression_142 hl (by decide) rfl (fun ls hl => ?_)
    refine lv_aload_n hx hb d_Mo_expression_144 rfl (lv_at hl 1 rfl) ?_
    refine x_get (v := .ref (ga g 67)) C D kc_Mo (by decide) sh_66 2 rfl (by decide) wf_Mo_7 rfl rfl d_Mo_expression_145 ?_
    refine lv_iload hx hb d_Mo_expression_148 (lv_at hl 5 rfl) ?_
    refine lv_iconst (v := 1) hx hb d_Mo_expression_150 (by decide) ?_
    refine lv_iadd hx hb d_Mo_expression_151 ?_
    refine x_iald C D (by decide) sh_67 d_Mo_expression_152 h (fun _ h => ?_)
    refine lv_bipush (v := 58) hx hb d_Mo_expression_153 (by decide) ?_
    refine lv_icmp_ne hx hb d_Mo_expression_155 rfl (fun z => ?_) (fun z => ?_)
    · replace h := if_f z h
      refine lv_bipush (v := 8) hx hb d_Mo_expression_173 (by decide) ?_
      exact B175 _ hK41 _ _ _ _ _ _ _ _ _ _ _ h D (lv_sub hl [1, 2, 3, 4, 5, 6, 0] rfl)
    · replace h := if_t z h
      refine lv_aload_n hx hb d_Mo_expression_158 rfl (lv_at hl 1 rfl) ?_
      refine x_get (v := .ref (ga g 67)) C D kc_Mo (by decide) sh_66 2 rfl (by decide) wf_Mo_7 rfl rfl d_Mo_expression_159 ?_
      refine lv_iload hx hb d_Mo_expression_162 (lv_at hl 5 rfl) ?_
      refine lv_iconst (v := 2) hx hb d_Mo_expression_164 (by decide) ?_
      refine lv_iadd hx hb d_Mo_expression_165 ?_
      refine x_iald C D (by decide) sh_67 d_Mo_expression_166 h (fun _ h => ?_)
      refine lv_bipush (v := 48) hx hb d_Mo_expression_167 (by decide) ?_
      refine lv_isub hx hb d_Mo_expression_169 ?_
      refine lv_goto hx hb d_Mo_expression_170 rfl ?_
      exact B175 _ hK41 _ _ _ _ _ _ _ _ _ _ _ h D (lv_sub hl [1, 2, 3, 4, 5, 6, 0] rfl)
  have B120 : ∀ (K41 : Int32 → Int32 → Int32 → Int32 → zSt → Option zSt) (hK41 : ∀ (H : Heap) (locs : List Loc) (S : zSt) (ls : Array Slot) (a2 : Int32) (a3 : Int32) (a4 : Int32) (a5 : Int32), K41 a2 a3 a4 a5 S = some u → Dy g s S H locs → lv_has ls 10 [(0, .ref (ga g 66)), (2, .int a2), (3, .int a3), (4, .int a4), (5, .int a5)] → W p l e (rmD 6) s m args below meth c H locs 0 0 (MQ below (Qvs g u) args s 0 0 (gA g)) (F0 m 41 ls [])) (H : Heap) (locs : List Loc) (S : zSt) (ls : Array Slot) (a2 : Int32) (a3 : Int32) (a5 : Int32) (a6 : Int32), f_Mo_expression_120 K41 a2 a3 a5 a6 S = some u → Dy g s S H locs → lv_has ls 10 [(0, .ref (ga g 66)), (2, .int a2), (3, .int a3), (5, .int a5), (6, .int a6)] → W p l e (rmD 6) s m args below meth c H locs 0 0 (MQ below (Qvs g u) args s 0 0 (gA g)) (F0 m 120 ls []) := by
    intro K41 hK41 H locs S ls a2 a3 a5 a6 h D hl
    unfold f_Mo_expression_120 at h
    refine lv_iconst (v := 0) hx hb d_Mo_expression_120 (by decide) ?_
    refine lv_istore (lv' := [(4, .int 0), (0, .ref (ga g 66)), (2, .int a2), (3, .int a3), (5, .int a5), (6, .int a6)]) hx hb d_Mo_expression_121 hl (by decide) rfl (fun ls hl => ?_)
    refine lv_aload_n hx hb d_Mo_expression_123 rfl (lv_at hl 1 rfl) ?_
    refine x_get (v := .ref (ga g 67)) C D kc_Mo (by decide) sh_66 2 rfl (by decide) wf_Mo_7 rfl rfl d_Mo_expression_124 ?_
    refine lv_iload hx hb d_Mo_expression_127 (lv_at hl 4 rfl) ?_
    refine lv_iconst (v := 1) hx hb d_Mo_expression_129 (by decide) ?_
    refine lv_iadd hx hb d_Mo_expression_130 ?_
    refine x_iald C D (by decide) sh_67 d_Mo_expression_131 h (fun _ h => ?_)
    refine lv_bipush (v := 42) hx hb d_Mo_expression_132 (by decide) ?_
    refine lv_icmp_ne hx hb d_Mo_expression_134 rfl (fun z => ?_) (fun z => ?_)
    · replace h := if_f z h
      refine lv_iconst (v := 0) hx hb d_Mo_expression_141 (by decide) ?_
      exact B142 _ hK41 _ _ _ _ _ _ _ _ _ _ h D (lv_sub hl [1, 2, 3, 0, 4, 5] rfl)
    · replace h := if_t z h
      refine lv_iconst (v := 1) hx hb d_Mo_expression_137 (by decide) ?_
      refine lv_goto hx hb d_Mo_expression_138 rfl ?_
      exact B142 _ hK41 _ _ _ _ _ _ _ _ _ _ h D (lv_sub hl [1, 2, 3, 0, 4, 5] rfl)
  have B75 : ∀ (K41 : Int32 → Int32 → Int32 → Int32 → zSt → Option zSt) (hK41 : ∀ (H : Heap) (locs : List Loc) (S : zSt) (ls : Array Slot) (a2 : Int32) (a3 : Int32) (a4 : Int32) (a5 : Int32), K41 a2 a3 a4 a5 S = some u → Dy g s S H locs → lv_has ls 10 [(0, .ref (ga g 66)), (2, .int a2), (3, .int a3), (4, .int a4), (5, .int a5)] → W p l e (rmD 6) s m args below meth c H locs 0 0 (MQ below (Qvs g u) args s 0 0 (gA g)) (F0 m 41 ls [])) (H : Heap) (locs : List Loc) (S : zSt) (ls : Array Slot) (a2 : Int32) (a3 : Int32) (a4 : Int32) (a5 : Int32) (t0 : Int32), f_Mo_expression_75 K41 a2 a3 a4 a5 t0 S = some u → Dy g s S H locs → lv_has ls 10 [(0, .ref (ga g 66)), (2, .int a2), (3, .int a3), (4, .int a4), (5, .int a5)] → W p l e (rmD 6) s m args below meth c H locs 0 0 (MQ below (Qvs g u) args s 0 0 (gA g)) (F0 m 75 ls [.int t0]) := by
    intro K41 hK41 H locs S ls a2 a3 a4 a5 t0 h D hl
    unfold f_Mo_expression_75 at h
    refine lv_istore (lv' := [(6, .int t0), (0, .ref (ga g 66)), (2, .int a2), (3, .int a3), (4, .int a4), (5, .int a5)]) hx hb d_Mo_expression_75 hl (by decide) rfl (fun ls hl => ?_)
    refine lv_iload hx hb d_Mo_expression_77 (lv_at hl 0 rfl) ?_
    refine lv_if_lt hx hb d_Mo_expression_79 rfl (fun z => ?_) (fun z => ?_)
    · replace h := if_t z h
      exact B278 _ hK41 _ _ _ _ _ _ _ _ h D (lv_sub hl [1, 2, 3, 4, 5] rfl)
    · replace h := if_f z h
      refine lv_aload_n hx hb d_Mo_expression_82 rfl (lv_at hl 1 rfl) ?_
      refine x_get (v := .ref (ga g 70)) C D kc_Mo (by decide) sh_66 6 rfl (by decide) wf_Mo_19 rfl rfl d_Mo_expression_83 ?_
      refine lv_iload hx hb d_Mo_expression_86 (lv_at hl 0 rfl) ?_
      refine x_iald C D (by decide) sh_70 d_Mo_expression_88 h (fun _ h => ?_)
      refine lv_if_le hx hb d_Mo_expression_89 rfl (fun z => ?_) (fun z => ?_)
      · replace h := if_t z h
        exact B278 _ hK41 _ _ _ _ _ _ _ _ h D (lv_sub hl [1, 2, 3, 4, 5] rfl)
      · replace h := if_f z h
        refine lv_iload hx hb d_Mo_expression_92 (lv_at hl 4 rfl) ?_
        refine lv_if_ne hx hb d_Mo_expression_94 rfl (fun z => ?_) (fun z => ?_)
        · replace h := if_f z h
          refine lv_iload_n hx hb d_Mo_expression_105 rfl (lv_at hl 2 rfl) ?_
          refine lv_if_eq hx hb d_Mo_expression_106 rfl (fun z => ?_) (fun z => ?_)
          · replace h := if_t z h
            exact B120 _ hK41 _ _ _ _ _ _ _ _ h D (lv_sub hl [1, 2, 3, 5, 0] rfl)
          · replace h := if_f z h
            refine lv_iload_n hx hb d_Mo_expression_109 rfl (lv_at hl 2 rfl) ?_
            refine lv_bipush (v := 43) hx hb d_Mo_expression_110 (by decide) ?_
            refine lv_icmp_eq hx hb d_Mo_expression_112 rfl (fun z => ?_) (fun z => ?_)
            · replace h := if_t z h
              exact B120 _ hK41 _ _ _ _ _ _ _ _ h D (lv_sub hl [1, 2, 3, 5, 0] rfl)
            · replace h := if_f z h
              refine lv_aload_n hx hb d_Mo_expression_115 rfl (lv_at hl 1 rfl) ?_
              refine lv_iload_n hx hb d_Mo_expression_116 rfl (lv_at hl 2 rfl) ?_
              obtain ⟨u7, hu7, h⟩ := bd_some h
              refine x_cvs (rest := []) (r_V C D (c_Mo_put l g hD a2 S u7 hu7) wc_Mo_put wm_Mo_142 wi_Mo_put wd_Mo_put (by decide) sh_66 kc_Mo.1 rfl rfl hl (Nat.le_of_ble_eq_true rfl) (by decide) d_Mo_expression_117) D (fun H locs D => ?_)
              exact B120 _ hK41 _ _ _ _ _ _ _ _ h D (lv_sub hl [1, 2, 3, 5, 0] rfl)
        · replace h := if_t z h
          refine lv_aload_n hx hb d_Mo_expression_97 rfl (lv_at hl 1 rfl) ?_
          refine lv_iload_n hx hb d_Mo_expression_98 rfl (lv_at hl 2 rfl) ?_
          obtain ⟨u8, hu8, h⟩ := bd_some h
          refine x_cvs (rest := []) (r_V C D (c_Mo_between l g hD a2 S u8 hu8) wc_Mo_between wm_Mo_168 wi_Mo_between wd_Mo_between (by decide) sh_66 kc_Mo.1 rfl rfl hl (Nat.le_of_ble_eq_true rfl) (by decide) d_Mo_expression_99) D (fun H locs D => ?_)
          refine lv_goto hx hb d_Mo_expression_102 rfl ?_
          exact B120 _ hK41 _ _ _ _ _ _ _ _ h D (lv_sub hl [1, 2, 3, 5, 0] rfl)
  have L41 : ∀ (n : Nat) (H : Heap) (locs : List Loc) (S : zSt) (ls : Array Slot) (a2 : Int32) (a3 : Int32) (a4 : Int32) (a5 : Int32), f_Mo_expression_41 n a2 a3 a4 a5 S = some u → Dy g s S H locs → lv_has ls 10 [(0, .ref (ga g 66)), (2, .int a2), (3, .int a3), (4, .int a4), (5, .int a5)] → W p l e (rmD 6) s m args below meth c H locs 0 0 (MQ below (Qvs g u) args s 0 0 (gA g)) (F0 m 41 ls []) := by
    intro n
    induction n with
    | zero => intro H locs S ls a2 a3 a4 a5 h D hl; rw [f_Mo_expression_41] at h; cases h
    | succ n hK41 =>
      intro H locs S ls a2 a3 a4 a5 h D hl
      rw [f_Mo_expression_41] at h
      refine lv_iload hx hb d_Mo_expression_41 (lv_at hl 4 rfl) ?_
      refine lv_iload_n hx hb d_Mo_expression_43 rfl (lv_at hl 2 rfl) ?_
      refine lv_icmp_ge hx hb d_Mo_expression_44 rfl (fun z => ?_) (fun z => ?_)
      · replace h := if_t z h
        exact x_vrs C D h d_Mo_expression_284
      · replace h := if_f z h
        refine lv_aload_n hx hb d_Mo_expression_47 rfl (lv_at hl 0 rfl) ?_
        refine x_get (v := .ref (ga g 67)) C D kc_Mo (by decide) sh_66 2 rfl (by decide) wf_Mo_7 rfl rfl d_Mo_expression_48 ?_
        refine lv_iload hx hb d_Mo_expression_51 (lv_at hl 4 rfl) ?_
        refine x_iald C D (by decide) sh_67 d_Mo_expression_53 h (fun _ h => ?_)
        obtain ⟨u3, hu3, h⟩ := bd_some h
        refine x_cip (rest := []) (r_S C D (c_Mo_small l g hD (S 67 a5.toNatClampNeg) S u3 hu3) wc_Mo_small wm_Mo_60 wt_Mo_small wd_Mo_small rfl rfl hl (Nat.le_of_ble_eq_true rfl) (by decide) d_Mo_expression_54) D (fun H locs D => ?_)
        refine lv_if_eq hx hb d_Mo_expression_57 rfl (fun z => ?_) (fun z => ?_)
        · replace h := if_t z h
          refine lv_iconst (v := (-1)) hx hb d_Mo_expression_74 (by decide) ?_
          exact B75 _ hK41 _ _ _ _ _ _ _ _ _ h D (lv_sub hl [0, 1, 2, 3, 4] rfl)
        · replace h := if_f z h
          refine lv_aload_n hx hb d_Mo_expression_60 rfl (lv_at hl 0 rfl) ?_
          refine lv_aload_n hx hb d_Mo_expression_61 rfl (lv_at hl 0 rfl) ?_
          refine x_get (v := .ref (ga g 67)) C D kc_Mo (by decide) sh_66 2 rfl (by decide) wf_Mo_7 rfl rfl d_Mo_expression_62 ?_
          refine lv_iload hx hb d_Mo_expression_65 (lv_at hl 4 rfl) ?_
          refine x_iald C D (by decide) sh_67 d_Mo_expression_67 h (fun _ h => ?_)
          obtain ⟨u9, hu9, h⟩ := bd_some h
          refine x_cip (rest := []) (r_V C D (c_Mo_named l g hD (S 67 a5.toNatClampNeg) S u9 hu9) wc_Mo_named wm_Mo_85 wi_Mo_named wd_Mo_named (by decide) sh_66 kc_Mo.1 rfl rfl hl (Nat.le_of_ble_eq_true rfl) (by decide) d_Mo_expression_68) D (fun H locs D => ?_)
          refine lv_goto hx hb d_Mo_expression_71 rfl ?_
          exact B75 _ hK41 _ _ _ _ _ _ _ _ _ h D (lv_sub hl [0, 1, 2, 3, 4] rfl)
  have B26 : ∀ (H : Heap) (locs : List Loc) (S : zSt) (ls : Array Slot) (a1 : Int32) (t0 : Int32), f_Mo_expression_26 a1 t0 S = some u → Dy g s S H locs → lv_has ls 10 [(0, .ref (ga g 66)), (1, .int a1)] → W p l e (rmD 6) s m args below meth c H locs 0 0 (MQ below (Qvs g u) args s 0 0 (gA g)) (F0 m 26 ls [.int t0]) := by
    intro H locs S ls a1 t0 h D hl
    unfold f_Mo_expression_26 at h
    refine lv_istore_n (lv' := [(2, .int t0), (0, .ref (ga g 66)), (1, .int a1)]) hx hb d_Mo_expression_26 rfl hl (by decide) rfl (fun ls hl => ?_)
    refine lv_aload_n hx hb d_Mo_expression_27 rfl (lv_at hl 1 rfl) ?_
    refine lv_iload_n hx hb d_Mo_expression_28 rfl (lv_at hl 2 rfl) ?_
    obtain ⟨u2, hu2, h⟩ := bd_some h
    refine x_cip (rest := []) (r_V C D (c_Mo_behind l g hD a1 S u2 hu2) wc_Mo_behind wm_Mo_76 wi_Mo_behind wd_Mo_behind (by decide) sh_66 kc_Mo.1 rfl rfl hl (Nat.le_of_ble_eq_true rfl) (by decide) d_Mo_expression_29) D (fun H locs D => ?_)
    refine lv_istore_n (lv' := [(3, .int u2), (2, .int t0), (0, .ref (ga g 66)), (1, .int a1)]) hx hb d_Mo_expression_32 rfl hl (by decide) rfl (fun ls hl => ?_)
    refine lv_iconst (v := 1) hx hb d_Mo_expression_33 (by decide) ?_
    refine lv_istore (lv' := [(4, .int 1), (3, .int u2), (2, .int t0), (0, .ref (ga g 66)), (1, .int a1)]) hx hb d_Mo_expression_34 hl (by decide) rfl (fun ls hl => ?_)
    refine lv_iload_n hx hb d_Mo_expression_36 rfl (lv_at hl 4 rfl) ?_
    refine lv_iconst (v := 1) hx hb d_Mo_expression_37 (by decide) ?_
    refine lv_iadd hx hb d_Mo_expression_38 ?_
    refine lv_istore (lv' := [(5, .int (a1 + 1)), (4, .int 1), (3, .int u2), (2, .int t0), (0, .ref (ga g 66)), (1, .int a1)]) hx hb d_Mo_expression_39 hl (by decide) rfl (fun ls hl => ?_)
    exact L41 _ _ _ _ _ _ _ _ _ h D (lv_sub hl [4, 3, 2, 1, 0] rfl)
  unfold f_Mo_expression at h
  refine lv_aload_n hx hb d_Mo_expression_0 rfl (lv_at hl 0 rfl) ?_
  refine x_get (v := .ref (ga g 67)) C D kc_Mo (by decide) sh_66 2 rfl (by decide) wf_Mo_7 rfl rfl d_Mo_expression_1 ?_
  refine lv_iload_n hx hb d_Mo_expression_4 rfl (lv_at hl 1 rfl) ?_
  refine lv_iconst (v := 1) hx hb d_Mo_expression_5 (by decide) ?_
  refine lv_iadd hx hb d_Mo_expression_6 ?_
  refine x_iald C D (by decide) sh_67 d_Mo_expression_7 h (fun _ h => ?_)
  obtain ⟨u1, hu1, h⟩ := bd_some h
  refine x_cip (rest := []) (r_S C D (c_Mo_operator l g hD (S 67 (a1 + 1).toNatClampNeg) S u1 hu1) wc_Mo_operator wm_Mo_73 wt_Mo_operator wd_Mo_operator rfl rfl hl (Nat.le_of_ble_eq_true rfl) (by decide) d_Mo_expression_8) D (fun H locs D => ?_)
  refine lv_if_eq hx hb d_Mo_expression_11 rfl (fun z => ?_) (fun z => ?_)
  · replace h := if_t z h
    refine lv_iconst (v := 0) hx hb d_Mo_expression_25 (by decide) ?_
    exact B26 _ _ _ _ _ _ h D (lv_sub hl [0, 1] rfl)
  · replace h := if_f z h
    refine lv_aload_n hx hb d_Mo_expression_14 rfl (lv_at hl 0 rfl) ?_
    refine x_get (v := .ref (ga g 67)) C D kc_Mo (by decide) sh_66 2 rfl (by decide) wf_Mo_7 rfl rfl d_Mo_expression_15 ?_
    refine lv_iload_n hx hb d_Mo_expression_18 rfl (lv_at hl 1 rfl) ?_
    refine lv_iconst (v := 1) hx hb d_Mo_expression_19 (by decide) ?_
    refine lv_iadd hx hb d_Mo_expression_20 ?_
    refine x_iald C D (by decide) sh_67 d_Mo_expression_21 h (fun _ h => ?_)
    refine lv_goto hx hb d_Mo_expression_22 rfl ?_
    exact B26 _ _ _ _ _ _ h D (lv_sub hl [0, 1] rfl)
