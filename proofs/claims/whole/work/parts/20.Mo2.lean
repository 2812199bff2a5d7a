theorem d_Mo_sent_0 : decode b_Mo_sent 0 = .ok (.iload_n 1, 1) := by decide +kernel
theorem d_Mo_sent_1 : decode b_Mo_sent 1 = .ok (.ifCond .lt 11, 3) := by decide +kernel
theorem d_Mo_sent_4 : decode b_Mo_sent 4 = .ok (.iload_n 1, 1) := by decide +kernel
theorem d_Mo_sent_5 : decode b_Mo_sent 5 = .ok (.aload_n 0, 1) := by decide +kernel
theorem d_Mo_sent_6 : decode b_Mo_sent 6 = .ok (.getfield 228, 3) := by decide +kernel
theorem d_Mo_sent_9 : decode b_Mo_sent 9 = .ok (.if_icmp .lt 7, 3) := by decide +kernel
theorem d_Mo_sent_12 : decode b_Mo_sent 12 = .ok (.iconst (-1), 1) := by decide +kernel
theorem d_Mo_sent_13 : decode b_Mo_sent 13 = .ok (.goto 9, 3) := by decide +kernel
theorem d_Mo_sent_16 : decode b_Mo_sent 16 = .ok (.aload_n 0, 1) := by decide +kernel
theorem d_Mo_sent_17 : decode b_Mo_sent 17 = .ok (.getfield 28, 3) := by decide +kernel
theorem d_Mo_sent_20 : decode b_Mo_sent 20 = .ok (.iload_n 1, 1) := by decide +kernel
theorem d_Mo_sent_21 : decode b_Mo_sent 21 = .ok (.iaload, 1) := by decide +kernel
theorem d_Mo_sent_22 : decode b_Mo_sent 22 = .ok (.ireturn, 1) := by decide +kernel
def f_Mo_sent_12 (S : zSt) : Option Int32 := (some (-1))
def f_Mo_sent (a1 : Int32) (S : zSt) : Option Int32 := (if a1 < 0 then (f_Mo_sent_12 S) else (if a1 < (S 66 9) then gdi a1 1000 ((some (S 73 a1.toNatClampNeg))) else (f_Mo_sent_12 S)))
set_option maxHeartbeats 4000000 in
set_option maxRecDepth 100000 in
theorem c_Mo_sent (l : Launch) (g : zG) (hD : GD g) (a1 : Int32) (S : zSt) (u : Int32) (h : f_Mo_sent a1 S = some u) : Met l y_Mo_sent (mw y_Mo_sent b_Mo_sent 2 (some .int)) (rmD 0) (Pw g [.ref (ga g 66), .int a1] S) (Qip g S u) 0 0 (gA g) := by
  refine z_go (own := R_Mo) (lv0 := [(0, .ref (ga g 66)), (1, .int a1)]) hD (by decide) rfl (Nat.le_of_ble_eq_true rfl) rfl ?_
  intro p e s m args below meth c C D ls hl
  have hx := C.1
  have hb := C.2.1
  have hown := C.2.2.2.1
  have hts := C.2.2.2.2.1
  have B12 : ∀ (H : Heap) (locs : List Loc) (ls : Array Slot), f_Mo_sent_12 S = some u → Dy g s S H locs → lv_has ls 2 [] → W p l e (rmD 0) s m args below meth c H locs 0 0 (MQ below (Qip g S u) args s 0 0 (gA g)) (F0 m 12 ls []) := by
    intro H locs ls h D hl
    unfold f_Mo_sent_12 at h
    refine lv_iconst (v := (-1)) hx hb d_Mo_sent_12 (by decide) ?_
    refine lv_goto hx hb d_Mo_sent_13 rfl ?_
    exact x_irp C D h d_Mo_sent_22
  unfold f_Mo_sent at h
  refine lv_iload_n hx hb d_Mo_sent_0 rfl (lv_at hl 1 rfl) ?_
  refine lv_if_lt hx hb d_Mo_sent_1 rfl (fun z => ?_) (fun z => ?_)
  · replace h := if_t z h
    exact B12 _ _ _ h D (lv_sub hl [] rfl)
  · replace h := if_f z h
    refine lv_iload_n hx hb d_Mo_sent_4 rfl (lv_at hl 1 rfl) ?_
    refine lv_aload_n hx hb d_Mo_sent_5 rfl (lv_at hl 0 rfl) ?_
    refine x_get (v := .int (S 66 9)) C D kc_Mo (by decide) sh_66 9 rfl (by decide) wf_Mo_228 rfl rfl d_Mo_sent_6 ?_
    refine lv_icmp_lt hx hb d_Mo_sent_9 rfl (fun z => ?_) (fun z => ?_)
    · replace h := if_t z h
      refine lv_aload_n hx hb d_Mo_sent_16 rfl (lv_at hl 0 rfl) ?_
      refine x_get (v := .ref (ga g 73)) C D kc_Mo (by decide) sh_66 10 rfl (by decide) wf_Mo_28 rfl rfl d_Mo_sent_17 ?_
      refine lv_iload_n hx hb d_Mo_sent_20 rfl (lv_at hl 1 rfl) ?_
      refine x_iald C D (by decide) sh_73 d_Mo_sent_21 h (fun _ h => ?_)
      exact x_irp C D h d_Mo_sent_22
    · replace h := if_f z h
      exact B12 _ _ _ h D (lv_sub hl [] rfl)
theorem d_Mo_line_0 : decode b_Mo_line 0 = .ok (.aload_n 0, 1) := by decide +kernel
theorem d_Mo_line_1 : decode b_Mo_line 1 = .ok (.getfield 231, 3) := by decide +kernel
theorem d_Mo_line_4 : decode b_Mo_line 4 = .ok (.istore_n 1, 1) := by decide +kernel
theorem d_Mo_line_5 : decode b_Mo_line 5 = .ok (.iload_n 1, 1) := by decide +kernel
theorem d_Mo_line_6 : decode b_Mo_line 6 = .ok (.aload_n 0, 1) := by decide +kernel
theorem d_Mo_line_7 : decode b_Mo_line 7 = .ok (.getfield 234, 3) := by decide +kernel
theorem d_Mo_line_10 : decode b_Mo_line 10 = .ok (.if_icmp .ge 58, 3) := by decide +kernel
theorem d_Mo_line_13 : decode b_Mo_line 13 = .ok (.aload_n 0, 1) := by decide +kernel
theorem d_Mo_line_14 : decode b_Mo_line 14 = .ok (.getfield 37, 3) := by decide +kernel
theorem d_Mo_line_17 : decode b_Mo_line 17 = .ok (.iload_n 1, 1) := by decide +kernel
theorem d_Mo_line_18 : decode b_Mo_line 18 = .ok (.iaload, 1) := by decide +kernel
theorem d_Mo_line_19 : decode b_Mo_line 19 = .ok (.bipush 13, 2) := by decide +kernel
theorem d_Mo_line_21 : decode b_Mo_line 21 = .ok (.if_icmp .eq 47, 3) := by decide +kernel
theorem d_Mo_line_24 : decode b_Mo_line 24 = .ok (.aload_n 0, 1) := by decide +kernel
theorem d_Mo_line_25 : decode b_Mo_line 25 = .ok (.getfield 37, 3) := by decide +kernel
theorem d_Mo_line_28 : decode b_Mo_line 28 = .ok (.iload_n 1, 1) := by decide +kernel
theorem d_Mo_line_29 : decode b_Mo_line 29 = .ok (.iaload, 1) := by decide +kernel
theorem d_Mo_line_30 : decode b_Mo_line 30 = .ok (.istore_n 2, 1) := by decide +kernel
theorem d_Mo_line_31 : decode b_Mo_line 31 = .ok (.iload_n 2, 1) := by decide +kernel
theorem d_Mo_line_32 : decode b_Mo_line 32 = .ok (.bipush 9, 2) := by decide +kernel
theorem d_Mo_line_34 : decode b_Mo_line 34 = .ok (.if_icmp .eq 15, 3) := by decide +kernel
theorem d_Mo_line_37 : decode b_Mo_line 37 = .ok (.iload_n 2, 1) := by decide +kernel
theorem d_Mo_line_38 : decode b_Mo_line 38 = .ok (.bipush 32, 2) := by decide +kernel
theorem d_Mo_line_40 : decode b_Mo_line 40 = .ok (.if_icmp .lt 20, 3) := by decide +kernel
theorem d_Mo_line_43 : decode b_Mo_line 43 = .ok (.iload_n 2, 1) := by decide +kernel
theorem d_Mo_line_44 : decode b_Mo_line 44 = .ok (.bipush 126, 2) := by decide +kernel
theorem d_Mo_line_46 : decode b_Mo_line 46 = .ok (.if_icmp .gt 14, 3) := by decide +kernel
theorem d_Mo_line_49 : decode b_Mo_line 49 = .ok (.iload_n 1, 1) := by decide +kernel
theorem d_Mo_line_50 : decode b_Mo_line 50 = .ok (.aload_n 0, 1) := by decide +kernel
theorem d_Mo_line_51 : decode b_Mo_line 51 = .ok (.getfield 231, 3) := by decide +kernel
theorem d_Mo_line_54 : decode b_Mo_line 54 = .ok (.isub, 1) := by decide +kernel
theorem d_Mo_line_55 : decode b_Mo_line 55 = .ok (.bipush 60, 2) := by decide +kernel
theorem d_Mo_line_57 : decode b_Mo_line 57 = .ok (.if_icmp .ne 5, 3) := by decide +kernel
theorem d_Mo_line_60 : decode b_Mo_line 60 = .ok (.iconst (-1), 1) := by decide +kernel
theorem d_Mo_line_61 : decode b_Mo_line 61 = .ok (.ireturn, 1) := by decide +kernel
theorem d_Mo_line_62 : decode b_Mo_line 62 = .ok (.iinc 1 1, 3) := by decide +kernel
theorem d_Mo_line_65 : decode b_Mo_line 65 = .ok (.goto (-60), 3) := by decide +kernel
theorem d_Mo_line_68 : decode b_Mo_line 68 = .ok (.iload_n 1, 1) := by decide +kernel
theorem d_Mo_line_69 : decode b_Mo_line 69 = .ok (.iconst 1, 1) := by decide +kernel
theorem d_Mo_line_70 : decode b_Mo_line 70 = .ok (.iadd, 1) := by decide +kernel
theorem d_Mo_line_71 : decode b_Mo_line 71 = .ok (.aload_n 0, 1) := by decide +kernel
theorem d_Mo_line_72 : decode b_Mo_line 72 = .ok (.getfield 234, 3) := by decide +kernel
theorem d_Mo_line_75 : decode b_Mo_line 75 = .ok (.if_icmp .lt 5, 3) := by decide +kernel
theorem d_Mo_line_78 : decode b_Mo_line 78 = .ok (.iconst 0, 1) := by decide +kernel
theorem d_Mo_line_79 : decode b_Mo_line 79 = .ok (.ireturn, 1) := by decide +kernel
theorem d_Mo_line_80 : decode b_Mo_line 80 = .ok (.aload_n 0, 1) := by decide +kernel
theorem d_Mo_line_81 : decode b_Mo_line 81 = .ok (.iload_n 1, 1) := by decide +kernel
theorem d_Mo_line_82 : decode b_Mo_line 82 = .ok (.putfield 237, 3) := by decide +kernel
theorem d_Mo_line_85 : decode b_Mo_line 85 = .ok (.aload_n 0, 1) := by decide +kernel
theorem d_Mo_line_86 : decode b_Mo_line 86 = .ok (.getfield 37, 3) := by decide +kernel
theorem d_Mo_line_89 : decode b_Mo_line 89 = .ok (.iload_n 1, 1) := by decide +kernel
theorem d_Mo_line_90 : decode b_Mo_line 90 = .ok (.iconst 1, 1) := by decide +kernel
theorem d_Mo_line_91 : decode b_Mo_line 91 = .ok (.iadd, 1) := by decide +kernel
theorem d_Mo_line_92 : decode b_Mo_line 92 = .ok (.iaload, 1) := by decide +kernel
theorem d_Mo_line_93 : decode b_Mo_line 93 = .ok (.bipush 10, 2) := by decide +kernel
theorem d_Mo_line_95 : decode b_Mo_line 95 = .ok (.if_icmp .ne 7, 3) := by decide +kernel
theorem d_Mo_line_98 : decode b_Mo_line 98 = .ok (.iconst 1, 1) := by decide +kernel
theorem d_Mo_line_99 : decode b_Mo_line 99 = .ok (.goto 4, 3) := by decide +kernel
theorem d_Mo_line_102 : decode b_Mo_line 102 = .ok (.iconst (-1), 1) := by decide +kernel
theorem d_Mo_line_103 : decode b_Mo_line 103 = .ok (.ireturn, 1) := by decide +kernel
def f_Mo_line_68 (a1 : Int32) (S : zSt) : Option (Int32 × zSt) := (if (a1 + 1) < (S 66 17) then sq (su S 66 22 a1) fun S1 => gdi (a1 + 1) 520 ((if (S1 76 (a1 + 1).toNatClampNeg) = 10 then (some (1, S1)) else (some ((-1), S1)))) else (some (0, S)))
def f_Mo_line_49 (K5 : Int32 → zSt → Option (Int32 × zSt)) (a1 : Int32) (S : zSt) : Option (Int32 × zSt) := (if (a1 - (S 66 21)) = 60 then (some ((-1), S)) else (K5 (a1 + 1) S))
def f_Mo_line_5 : Nat → Int32 → zSt → Option (Int32 × zSt)
  | 0, _, _ => none
  | n + 1, a1, S => (if (S 66 17) ≤ a1 then (f_Mo_line_68 a1 S) else gdi a1 520 ((if (S 76 a1.toNatClampNeg) = 13 then (f_Mo_line_68 a1 S) else gdi a1 520 ((if (S 76 a1.toNatClampNeg) = 9 then (f_Mo_line_49 (f_Mo_line_5 n) a1 S) else (if (S 76 a1.toNatClampNeg) < 32 then (some ((-1), S)) else (if 126 < (S 76 a1.toNatClampNeg) then (some ((-1), S)) else (f_Mo_line_49 (f_Mo_line_5 n) a1 S))))))))
def f_Mo_line (S : zSt) : Option (Int32 × zSt) := (f_Mo_line_5 fu (S 66 21) S)
set_option maxHeartbeats 4000000 in
set_option maxRecDepth 100000 in
theorem c_Mo_line (l : Launch) (g : zG) (hD : GD g) (S : zSt) (u : (Int32 × zSt)) (h : f_Mo_line S = some u) : Met l y_Mo_line (mw y_Mo_line b_Mo_line 3 (some .int)) (rmD 0) (Pw g [.ref (ga g 66)] S) (Qis g u) 0 0 (gA g) := by
  refine z_go (own := R_Mo) (lv0 := [(0, .ref (ga g 66))]) hD (by decide) rfl (Nat.le_of_ble_eq_true rfl) rfl ?_
  intro p e s m args below meth c C D ls hl
  have hx := C.1
  have hb := C.2.1
  have hown := C.2.2.2.1
  have hts := C.2.2.2.2.1
  have B68 : ∀ (H : Heap) (locs : List Loc) (S : zSt) (ls : Array Slot) (a1 : Int32), f_Mo_line_68 a1 S = some u → Dy g s S H locs → lv_has ls 3 [(0, .ref (ga g 66)), (1, .int a1)] → W p l e (rmD 0) s m args below meth c H locs 0 0 (MQ below (Qis g u) args s 0 0 (gA g)) (F0 m 68 ls []) := by
    intro H locs S ls a1 h D hl
    unfold f_Mo_line_68 at h
    refine lv_iload_n hx hb d_Mo_line_68 rfl (lv_at hl 1 rfl) ?_
    refine lv_iconst (v := 1) hx hb d_Mo_line_69 (by decide) ?_
    refine lv_iadd hx hb d_Mo_line_70 ?_
    refine lv_aload_n hx hb d_Mo_line_71 rfl (lv_at hl 0 rfl) ?_
    refine x_get (v := .int (S 66 17)) C D kc_Mo (by decide) sh_66 17 rfl (by decide) wf_Mo_234 rfl rfl d_Mo_line_72 ?_
    refine lv_icmp_lt hx hb d_Mo_line_75 rfl (fun z => ?_) (fun z => ?_)
    · replace h := if_t z h
      refine lv_aload_n hx hb d_Mo_line_80 rfl (lv_at hl 0 rfl) ?_
      refine lv_iload_n hx hb d_Mo_line_81 rfl (lv_at hl 1 rfl) ?_
      refine x_put C D kc_Mo (by decide) sh_66 22 rfl (by decide) wf_Mo_237 rfl rfl a1 rfl ⟨rfl, rfl⟩ d_Mo_line_82 h (fun S1 H locs h D => ?_)
      refine lv_aload_n hx hb d_Mo_line_85 rfl (lv_at hl 0 rfl) ?_
      refine x_get (v := .ref (ga g 76)) C D kc_Mo (by decide) sh_66 18 rfl (by decide) wf_Mo_37 rfl rfl d_Mo_line_86 ?_
      refine lv_iload_n hx hb d_Mo_line_89 rfl (lv_at hl 1 rfl) ?_
      refine lv_iconst (v := 1) hx hb d_Mo_line_90 (by decide) ?_
      refine lv_iadd hx hb d_Mo_line_91 ?_
      refine x_iald C D (by decide) sh_76 d_Mo_line_92 h (fun _ h => ?_)
      refine lv_bipush (v := 10) hx hb d_Mo_line_93 (by decide) ?_
      refine lv_icmp_ne hx hb d_Mo_line_95 rfl (fun z => ?_) (fun z => ?_)
      · replace h := if_f z h
        refine lv_iconst (v := (-1)) hx hb d_Mo_line_102 (by decide) ?_
        exact x_irs C D h d_Mo_line_103
      · replace h := if_t z h
        refine lv_iconst (v := 1) hx hb d_Mo_line_98 (by decide) ?_
        refine lv_goto hx hb d_Mo_line_99 rfl ?_
        exact x_irs C D h d_Mo_line_103
    · replace h := if_f z h
      refine lv_iconst (v := 0) hx hb d_Mo_line_78 (by decide) ?_
      exact x_irs C D h d_Mo_line_79
  have B49 : ∀ (K5 : Int32 → zSt → Option (Int32 × zSt)) (hK5 : ∀ (H : Heap) (locs : List Loc) (S : zSt) (ls : Array Slot) (a1 : Int32), K5 a1 S = some u → Dy g s S H locs → lv_has ls 3 [(0, .ref (ga g 66)), (1, .int a1)] → W p l e (rmD 0) s m args below meth c H locs 0 0 (MQ below (Qis g u) args s 0 0 (gA g)) (F0 m 5 ls [])) (H : Heap) (locs : List Loc) (S : zSt) (ls : Array Slot) (a1 : Int32), f_Mo_line_49 K5 a1 S = some u → Dy g s S H locs → lv_has ls 3 [(0, .ref (ga g 66)), (1, .int a1)] → W p l e (rmD 0) s m args below meth c H locs 0 0 (MQ below (Qis g u) args s 0 0 (gA g)) (F0 m 49 ls []) := by
    intro K5 hK5 H locs S ls a1 h D hl
    unfold f_Mo_line_49 at h
    refine lv_iload_n hx hb d_Mo_line_49 rfl (lv_at hl 1 rfl) ?_
    refine lv_aload_n hx hb d_Mo_line_50 rfl (lv_at hl 0 rfl) ?_
    refine x_get (v := .int (S 66 21)) C D kc_Mo (by decide) sh_66 21 rfl (by decide) wf_Mo_231 rfl rfl d_Mo_line_51 ?_
    refine lv_isub hx hb d_Mo_line_54 ?_
    refine lv_bipush (v := 60) hx hb d_Mo_line_55 (by decide) ?_
    refine lv_icmp_ne hx hb d_Mo_line_57 rfl (fun z => ?_) (fun z => ?_)
    · replace h := if_f z h
      refine lv_iinc (k := 1) (lv' := [(1, .int (a1 + 1)), (0, .ref (ga g 66))]) hx hb d_Mo_line_62 hl rfl (ii1 _) (by decide) rfl (fun ls hl => ?_)
      refine lv_goto hx hb d_Mo_line_65 rfl ?_
      exact hK5 _ _ _ _ _ h D (lv_sub hl [1, 0] rfl)
    · replace h := if_t z h
      refine lv_iconst (v := (-1)) hx hb d_Mo_line_60 (by decide) ?_
      exact x_irs C D h d_Mo_line_61
  have L5 : ∀ (n : Nat) (H : Heap) (locs : List Loc) (S : zSt) (ls : Array Slot) (a1 : Int32), f_Mo_line_5 n a1 S = some u → Dy g s S H locs → lv_has ls 3 [(0, .ref (ga g 66)), (1, .int a1)] → W p l e (rmD 0) s m args below meth c H locs 0 0 (MQ below (Qis g u) args s 0 0 (gA g)) (F0 m 5 ls []) := by
    intro n
    induction n with
    | zero => intro H locs S ls a1 h D hl; rw [f_Mo_line_5] at h; cases h
    | succ n hK5 =>
      intro H locs S ls a1 h D hl
      rw [f_Mo_line_5] at h
      refine lv_iload_n hx hb d_Mo_line_5 rfl (lv_at hl 1 rfl) ?_
      refine lv_aload_n hx hb d_Mo_line_6 rfl (lv_at hl 0 rfl) ?_
      refine x_get (v := .int (S 66 17)) C D kc_Mo (by decide) sh_66 17 rfl (by decide) wf_Mo_234 rfl rfl d_Mo_line_7 ?_
      refine lv_icmp_ge hx hb d_Mo_line_10 rfl (fun z => ?_) (fun z => ?_)
      · replace h := if_t z h
        exact B68 _ _ _ _ _ h D (lv_sub hl [0, 1] rfl)
      · replace h := if_f z h
        refine lv_aload_n hx hb d_Mo_line_13 rfl (lv_at hl 0 rfl) ?_
        refine x_get (v := .ref (ga g 76)) C D kc_Mo (by decide) sh_66 18 rfl (by decide) wf_Mo_37 rfl rfl d_Mo_line_14 ?_
        refine lv_iload_n hx hb d_Mo_line_17 rfl (lv_at hl 1 rfl) ?_
        refine x_iald C D (by decide) sh_76 d_Mo_line_18 h (fun _ h => ?_)
        refine lv_bipush (v := 13) hx hb d_Mo_line_19 (by decide) ?_
        refine lv_icmp_eq hx hb d_Mo_line_21 rfl (fun z => ?_) (fun z => ?_)
        · replace h := if_t z h
          exact B68 _ _ _ _ _ h D (lv_sub hl [0, 1] rfl)
        · replace h := if_f z h
          refine lv_aload_n hx hb d_Mo_line_24 rfl (lv_at hl 0 rfl) ?_
          refine x_get (v := .ref (ga g 76)) C D kc_Mo (by decide) sh_66 18 rfl (by decide) wf_Mo_37 rfl rfl d_Mo_line_25 ?_
          refine lv_iload_n hx hb d_Mo_line_28 rfl (lv_at hl 1 rfl) ?_
          refine x_iald C D (by decide) sh_76 d_Mo_line_29 h (fun _ h => ?_)
          refine lv_istore_n (lv' := [(2, .int (S 76 a1.toNatClampNeg)), (0, .ref (ga g 66)), (1, .int a1)]) hx hb d_Mo_line_30 rfl hl (by decide) rfl (fun ls hl => ?_)
          refine lv_iload_n hx hb d_Mo_line_31 rfl (lv_at hl 0 rfl) ?_
          refine lv_bipush (v := 9) hx hb d_Mo_line_32 (by decide) ?_
          refine lv_icmp_eq hx hb d_Mo_line_34 rfl (fun z => ?_) (fun z => ?_)
          · replace h := if_t z h
            exact B49 _ hK5 _ _ _ _ _ h D (lv_sub hl [1, 2] rfl)
          · replace h := if_f z h
            refine lv_iload_n hx hb d_Mo_line_37 rfl (lv_at hl 0 rfl) ?_
            refine lv_bipush (v := 32) hx hb d_Mo_line_38 (by decide) ?_
            refine lv_icmp_lt hx hb d_Mo_line_40 rfl (fun z => ?_) (fun z => ?_)
            · replace h := if_t z h
              refine lv_iconst (v := (-1)) hx hb d_Mo_line_60 (by decide) ?_
              exact x_irs C D h d_Mo_line_61
            · replace h := if_f z h
              refine lv_iload_n hx hb d_Mo_line_43 rfl (lv_at hl 0 rfl) ?_
              refine lv_bipush (v := 126) hx hb d_Mo_line_44 (by decide) ?_
              refine lv_icmp_gt hx hb d_Mo_line_46 rfl (fun z => ?_) (fun z => ?_)
              · replace h := if_t z h
                refine lv_iconst (v := (-1)) hx hb d_Mo_line_60 (by decide) ?_
                exact x_irs C D h d_Mo_line_61
              · replace h := if_f z h
                exact B49 _ hK5 _ _ _ _ _ h D (lv_sub hl [1, 2] rfl)
  unfold f_Mo_line at h
  refine lv_aload_n hx hb d_Mo_line_0 rfl (lv_at hl 0 rfl) ?_
  refine x_get (v := .int (S 66 21)) C D kc_Mo (by decide) sh_66 21 rfl (by decide) wf_Mo_231 rfl rfl d_Mo_line_1 ?_
  refine lv_istore_n (lv' := [(1, .int (S 66 21)), (0, .ref (ga g 66))]) hx hb d_Mo_line_4 rfl hl (by decide) rfl (fun ls hl => ?_)
  exact L5 _ _ _ _ _ _ h D (lv_sub hl [1, 0] rfl)
theorem d_Mo_lower_0 : decode b_Mo_lower 0 = .ok (.iload_n 0, 1) := by decide +kernel
theorem d_Mo_lower_1 : decode b_Mo_lower 1 = .ok (.bipush 65, 2) := by decide +kernel
theorem d_Mo_lower_3 : decode b_Mo_lower 3 = .ok (.if_icmp .lt 16, 3) := by decide +kernel
theorem d_Mo_lower_6 : decode b_Mo_lower 6 = .ok (.iload_n 0, 1) := by decide +kernel
theorem d_Mo_lower_7 : decode b_Mo_lower 7 = .ok (.bipush 90, 2) := by decide +kernel
theorem d_Mo_lower_9 : decode b_Mo_lower 9 = .ok (.if_icmp .gt 10, 3) := by decide +kernel
theorem d_Mo_lower_12 : decode b_Mo_lower 12 = .ok (.iload_n 0, 1) := by decide +kernel
theorem d_Mo_lower_13 : decode b_Mo_lower 13 = .ok (.bipush 32, 2) := by decide +kernel
theorem d_Mo_lower_15 : decode b_Mo_lower 15 = .ok (.iadd, 1) := by decide +kernel
theorem d_Mo_lower_16 : decode b_Mo_lower 16 = .ok (.goto 4, 3) := by decide +kernel
theorem d_Mo_lower_19 : decode b_Mo_lower 19 = .ok (.iload_n 0, 1) := by decide +kernel
theorem d_Mo_lower_20 : decode b_Mo_lower 20 = .ok (.ireturn, 1) := by decide +kernel
def f_Mo_lower_19 (a0 : Int32) (S : zSt) : Option Int32 := (some a0)
def f_Mo_lower (a0 : Int32) (S : zSt) : Option Int32 := (if a0 < 65 then (f_Mo_lower_19 a0 S) else (if 90 < a0 then (f_Mo_lower_19 a0 S) else (some (a0 + 32))))
set_option maxHeartbeats 4000000 in
set_option maxRecDepth 100000 in
theorem c_Mo_lower (l : Launch) (g : zG) (hD : GD g) (a0 : Int32) (S : zSt) (u : Int32) (h : f_Mo_lower a0 S = some u) : Met l y_Mo_lower (mw y_Mo_lower b_Mo_lower 1 (some .int)) (rmD 0) (Pw g [.int a0] S) (Qip g S u) 0 0 (gA g) := by
  refine z_go (own := R_Mo) (lv0 := [(0, .int a0)]) hD (by decide) rfl (Nat.le_of_ble_eq_true rfl) rfl ?_
  intro p e s m args below meth c C D ls hl
  have hx := C.1
  have hb := C.2.1
  have hown := C.2.2.2.1
  have hts := C.2.2.2.2.1
  have B19 : ∀ (H : Heap) (locs : List Loc) (ls : Array Slot) (a0 : Int32), f_Mo_lower_19 a0 S = some u → Dy g s S H locs → lv_has ls 1 [(0, .int a0)] → W p l e (rmD 0) s m args below meth c H locs 0 0 (MQ below (Qip g S u) args s 0 0 (gA g)) (F0 m 19 ls []) := by
    intro H locs ls a0 h D hl
    unfold f_Mo_lower_19 at h
    refine lv_iload_n hx hb d_Mo_lower_19 rfl (lv_at hl 0 rfl) ?_
    exact x_irp C D h d_Mo_lower_20
  unfold f_Mo_lower at h
  refine lv_iload_n hx hb d_Mo_lower_0 rfl (lv_at hl 0 rfl) ?_
  refine lv_bipush (v := 65) hx hb d_Mo_lower_1 (by decide) ?_
  refine lv_icmp_lt hx hb d_Mo_lower_3 rfl (fun z => ?_) (fun z => ?_)
  · replace h := if_t z h
    exact B19 _ _ _ _ h D (lv_sub hl [0] rfl)
  · replace h := if_f z h
    refine lv_iload_n hx hb d_Mo_lower_6 rfl (lv_at hl 0 rfl) ?_
    refine lv_bipush (v := 90) hx hb d_Mo_lower_7 (by decide) ?_
    refine lv_icmp_gt hx hb d_Mo_lower_9 rfl (fun z => ?_) (fun z => ?_)
    · replace h := if_t z h
      exact B19 _ _ _ _ h D (lv_sub hl [0] rfl)
    · replace h := if_f z h
      refine lv_iload_n hx hb d_Mo_lower_12 rfl (lv_at hl 0 rfl) ?_
      refine lv_bipush (v := 32) hx hb d_Mo_lower_13 (by decide) ?_
      refine lv_iadd hx hb d_Mo_lower_15 ?_
      refine lv_goto hx hb d_Mo_lower_16 rfl ?_
      exact x_irp C D h d_Mo_lower_20
theorem d_Mo_take_0 : decode b_Mo_take 0 = .ok (.iconst 0, 1) := by decide +kernel
theorem d_Mo_take_1 : decode b_Mo_take 1 = .ok (.istore_n 2, 1) := by decide +kernel
theorem d_Mo_take_2 : decode b_Mo_take 2 = .ok (.iload_n 2, 1) := by decide +kernel
theorem d_Mo_take_3 : decode b_Mo_take 3 = .ok (.iload_n 1, 1) := by decide +kernel
theorem d_Mo_take_4 : decode b_Mo_take 4 = .ok (.if_icmp .ge 58, 3) := by decide +kernel
theorem d_Mo_take_7 : decode b_Mo_take 7 = .ok (.aload_n 0, 1) := by decide +kernel
theorem d_Mo_take_8 : decode b_Mo_take 8 = .ok (.getfield 231, 3) := by decide +kernel
theorem d_Mo_take_11 : decode b_Mo_take 11 = .ok (.aload_n 0, 1) := by decide +kernel
theorem d_Mo_take_12 : decode b_Mo_take 12 = .ok (.getfield 234, 3) := by decide +kernel
theorem d_Mo_take_15 : decode b_Mo_take 15 = .ok (.if_icmp .ge 47, 3) := by decide +kernel
theorem d_Mo_take_18 : decode b_Mo_take 18 = .ok (.aload_n 0, 1) := by decide +kernel
theorem d_Mo_take_19 : decode b_Mo_take 19 = .ok (.getfield 43, 3) := by decide +kernel
theorem d_Mo_take_22 : decode b_Mo_take 22 = .ok (.aload_n 0, 1) := by decide +kernel
theorem d_Mo_take_23 : decode b_Mo_take 23 = .ok (.getfield 289, 3) := by decide +kernel
theorem d_Mo_take_26 : decode b_Mo_take 26 = .ok (.aload_n 0, 1) := by decide +kernel
theorem d_Mo_take_27 : decode b_Mo_take 27 = .ok (.getfield 37, 3) := by decide +kernel
theorem d_Mo_take_30 : decode b_Mo_take 30 = .ok (.aload_n 0, 1) := by decide +kernel
theorem d_Mo_take_31 : decode b_Mo_take 31 = .ok (.getfield 231, 3) := by decide +kernel
theorem d_Mo_take_34 : decode b_Mo_take 34 = .ok (.iaload, 1) := by decide +kernel
theorem d_Mo_take_35 : decode b_Mo_take 35 = .ok (.iastore, 1) := by decide +kernel
theorem d_Mo_take_36 : decode b_Mo_take 36 = .ok (.aload_n 0, 1) := by decide +kernel
theorem d_Mo_take_37 : decode b_Mo_take 37 = .ok (.dup, 1) := by decide +kernel
theorem d_Mo_take_38 : decode b_Mo_take 38 = .ok (.getfield 289, 3) := by decide +kernel
theorem d_Mo_take_41 : decode b_Mo_take 41 = .ok (.iconst 1, 1) := by decide +kernel
theorem d_Mo_take_42 : decode b_Mo_take 42 = .ok (.iadd, 1) := by decide +kernel
theorem d_Mo_take_43 : decode b_Mo_take 43 = .ok (.putfield 289, 3) := by decide +kernel
theorem d_Mo_take_46 : decode b_Mo_take 46 = .ok (.aload_n 0, 1) := by decide +kernel
theorem d_Mo_take_47 : decode b_Mo_take 47 = .ok (.dup, 1) := by decide +kernel
theorem d_Mo_take_48 : decode b_Mo_take 48 = .ok (.getfield 231, 3) := by decide +kernel
theorem d_Mo_take_51 : decode b_Mo_take 51 = .ok (.iconst 1, 1) := by decide +kernel
theorem d_Mo_take_52 : decode b_Mo_take 52 = .ok (.iadd, 1) := by decide +kernel
theorem d_Mo_take_53 : decode b_Mo_take 53 = .ok (.putfield 231, 3) := by decide +kernel
theorem d_Mo_take_56 : decode b_Mo_take 56 = .ok (.iinc 2 1, 3) := by decide +kernel
theorem d_Mo_take_59 : decode b_Mo_take 59 = .ok (.goto (-57), 3) := by decide +kernel
theorem d_Mo_take_62 : decode b_Mo_take 62 = .ok (.iload_n 2, 1) := by decide +kernel
theorem d_Mo_take_63 : decode b_Mo_take 63 = .ok (.iload_n 1, 1) := by decide +kernel
theorem d_Mo_take_64 : decode b_Mo_take 64 = .ok (.if_icmp .ne 7, 3) := by decide +kernel
theorem d_Mo_take_67 : decode b_Mo_take 67 = .ok (.iconst 1, 1) := by decide +kernel
theorem d_Mo_take_68 : decode b_Mo_take 68 = .ok (.goto 4, 3) := by decide +kernel
theorem d_Mo_take_71 : decode b_Mo_take 71 = .ok (.iconst 0, 1) := by decide +kernel
theorem d_Mo_take_72 : decode b_Mo_take 72 = .ok (.ireturn, 1) := by decide +kernel
def f_Mo_take_62 (a1 : Int32) (a2 : Int32) (S : zSt) : Option (Int32 × zSt) := (if a2 = a1 then (gdb 1 (some (1, S))) else (gdb 0 (some (0, S))))
def f_Mo_take_2 : Nat → Int32 → Int32 → zSt → Option (Int32 × zSt)
  | 0, _, _, _ => none
  | n + 1, a1, a2, S => (if a1 ≤ a2 then (f_Mo_take_62 a1 a2 S) else (if (S 66 17) ≤ (S 66 21) then (f_Mo_take_62 a1 a2 S) else gdi (S 66 21) 520 (gdi (S 66 26) 120 (sq (su S 78 (S 66 26).toNatClampNeg (S 76 (S 66 21).toNatClampNeg)) fun S1 => sq (su S1 66 26 ((S1 66 26) + 1)) fun S2 => sq (su S2 66 21 ((S2 66 21) + 1)) fun S3 => ((f_Mo_take_2 n) a1 (a2 + 1) S3)))))
def f_Mo_take (a1 : Int32) (S : zSt) : Option (Int32 × zSt) := (f_Mo_take_2 fu a1 0 S)
set_option maxHeartbeats 4000000 in
set_option maxRecDepth 100000 in
theorem c_Mo_take (l : Launch) (g : zG) (hD : GD g) (a1 : Int32) (S : zSt) (u : (Int32 × zSt)) (h : f_Mo_take a1 S = some u) : Met l y_Mo_take (mw y_Mo_take b_Mo_take 3 (some .boolean)) (rmD 0) (Pw g [.ref (ga g 66), .int a1] S) (Qis g u) 0 0 (gA g) := by
  refine z_go (own := R_Mo) (lv0 := [(0, .ref (ga g 66)), (1, .int a1)]) hD (by decide) rfl (Nat.le_of_ble_eq_true rfl) rfl ?_
  intro p e s m args below meth c C D ls hl
  have hx := C.1
  have hb := C.2.1
  have hown := C.2.2.2.1
  have hts := C.2.2.2.2.1
  have B62 : ∀ (H : Heap) (locs : List Loc) (S : zSt) (ls : Array Slot) (a1 : Int32) (a2 : Int32), f_Mo_take_62 a1 a2 S = some u → Dy g s S H locs → lv_has ls 3 [(1, .int a1), (2, .int a2)] → W p l e (rmD 0) s m args below meth c H locs 0 0 (MQ below (Qis g u) args s 0 0 (gA g)) (F0 m 62 ls []) := by
    intro H locs S ls a1 a2 h D hl
    unfold f_Mo_take_62 at h
    refine lv_iload_n hx hb d_Mo_take_62 rfl (lv_at hl 1 rfl) ?_
    refine lv_iload_n hx hb d_Mo_take_63 rfl (lv_at hl 0 rfl) ?_
    refine lv_icmp_ne hx hb d_Mo_take_64 rfl (fun z => ?_) (fun z => ?_)
    · replace h := if_f z h
      refine lv_iconst (v := 0) hx hb d_Mo_take_71 (by decide) ?_
      exact x_zrs C D h d_Mo_take_72
    · replace h := if_t z h
      refine lv_iconst (v := 1) hx hb d_Mo_take_67 (by decide) ?_
      refine lv_goto hx hb d_Mo_take_68 rfl ?_
      exact x_zrs C D h d_Mo_take_72
  have L2 : ∀ (n : Nat) (H : Heap) (locs : List Loc) (S : zSt) (ls : Array Slot) (a1 : Int32) (a2 : Int32), f_Mo_take_2 n a1 a2 S = some u → Dy g s S H locs → lv_has ls 3 [(0, .ref (ga g 66)), (1, .int a1), (2, .int a2)] → W p l e (rmD 0) s m args below meth c H locs 0 0 (MQ below (Qis g u) args s 0 0 (gA g)) (F0 m 2 ls []) := by
    intro n
    induction n with
    | zero => intro H locs S ls a1 a2 h D hl; rw [f_Mo_take_2] at h; cases h
    | succ n hK2 =>
      intro H locs S ls a1 a2 h D hl
      rw [f_Mo_take_2] at h
      refine lv_iload_n hx hb d_Mo_take_2 rfl (lv_at hl 2 rfl) ?_
      refine lv_iload_n hx hb d_Mo_take_3 rfl (lv_at hl 1 rfl) ?_
      refine lv_icmp_ge hx hb d_Mo_take_4 rfl (fun z => ?_) (fun z => ?_)
      · replace h := if_t z h
        exact B62 _ _ _ _ _ _ h D (lv_sub hl [1, 2] rfl)
      · replace h := if_f z h
        refine lv_aload_n hx hb d_Mo_take_7 rfl (lv_at hl 0 rfl) ?_
        refine x_get (v := .int (S 66 21)) C D kc_Mo (by decide) sh_66 21 rfl (by decide) wf_Mo_231 rfl rfl d_Mo_take_8 ?_
        refine lv_aload_n hx hb d_Mo_take_11 rfl (lv_at hl 0 rfl) ?_
        refine x_get (v := .int (S 66 17)) C D kc_Mo (by decide) sh_66 17 rfl (by decide) wf_Mo_234 rfl rfl d_Mo_take_12 ?_
        refine lv_icmp_ge hx hb d_Mo_take_15 rfl (fun z => ?_) (fun z => ?_)
        · replace h := if_t z h
          exact B62 _ _ _ _ _ _ h D (lv_sub hl [1, 2] rfl)
        · replace h := if_f z h
          refine lv_aload_n hx hb d_Mo_take_18 rfl (lv_at hl 0 rfl) ?_
          refine x_get (v := .ref (ga g 78)) C D kc_Mo (by decide) sh_66 27 rfl (by decide) wf_Mo_43 rfl rfl d_Mo_take_19 ?_
          refine lv_aload_n hx hb d_Mo_take_22 rfl (lv_at hl 0 rfl) ?_
          refine x_get (v := .int (S 66 26)) C D kc_Mo (by decide) sh_66 26 rfl (by decide) wf_Mo_289 rfl rfl d_Mo_take_23 ?_
          refine lv_aload_n hx hb d_Mo_take_26 rfl (lv_at hl 0 rfl) ?_
          refine x_get (v := .ref (ga g 76)) C D kc_Mo (by decide) sh_66 18 rfl (by decide) wf_Mo_37 rfl rfl d_Mo_take_27 ?_
          refine lv_aload_n hx hb d_Mo_take_30 rfl (lv_at hl 0 rfl) ?_
          refine x_get (v := .int (S 66 21)) C D kc_Mo (by decide) sh_66 21 rfl (by decide) wf_Mo_231 rfl rfl d_Mo_take_31 ?_
          refine x_iald C D (by decide) sh_76 d_Mo_take_34 h (fun _ h => ?_)
          refine x_iast C D (by decide) sh_78 d_Mo_take_35 h (fun S1 H locs h D => ?_)
          refine lv_aload_n hx hb d_Mo_take_36 rfl (lv_at hl 0 rfl) ?_
          refine lv_dup hx hb d_Mo_take_37 rfl ?_
          refine x_get (v := .int (S1 66 26)) C D kc_Mo (by decide) sh_66 26 rfl (by decide) wf_Mo_289 rfl rfl d_Mo_take_38 ?_
          refine lv_iconst (v := 1) hx hb d_Mo_take_41 (by decide) ?_
          refine lv_iadd hx hb d_Mo_take_42 ?_
          refine x_put C D kc_Mo (by decide) sh_66 26 rfl (by decide) wf_Mo_289 rfl rfl ((S1 66 26) + 1) rfl ⟨rfl, rfl⟩ d_Mo_take_43 h (fun S2 H locs h D => ?_)
          refine lv_aload_n hx hb d_Mo_take_46 rfl (lv_at hl 0 rfl) ?_
          refine lv_dup hx hb d_Mo_take_47 rfl ?_
          refine x_get (v := .int (S2 66 21)) C D kc_Mo (by decide) sh_66 21 rfl (by decide) wf_Mo_231 rfl rfl d_Mo_take_48 ?_
          refine lv_iconst (v := 1) hx hb d_Mo_take_51 (by decide) ?_
          refine lv_iadd hx hb d_Mo_take_52 ?_
          refine x_put C D kc_Mo (by decide) sh_66 21 rfl (by decide) wf_Mo_231 rfl rfl ((S2 66 21) + 1) rfl ⟨rfl, rfl⟩ d_Mo_take_53 h (fun S3 H locs h D => ?_)
          refine lv_iinc (k := 2) (lv' := [(2, .int (a2 + 1)), (0, .ref (ga g 66)), (1, .int a1)]) hx hb d_Mo_take_56 hl rfl (ii1 _) (by decide) rfl (fun ls hl => ?_)
          refine lv_goto hx hb d_Mo_take_59 rfl ?_
          exact hK2 _ _ _ _ _ _ h D (lv_sub hl [1, 2, 0] rfl)
  unfold f_Mo_take at h
  refine lv_iconst (v := 0) hx hb d_Mo_take_0 (by decide) ?_
  refine lv_istore_n (lv' := [(2, .int 0), (0, .ref (ga g 66)), (1, .int a1)]) hx hb d_Mo_take_1 rfl hl (by decide) rfl (fun ls hl => ?_)
  exact L2 _ _ _ _ _ _ _ h D (lv_sub hl [1, 2, 0] rfl)
theorem d_Mo_reset_0 : decode b_Mo_reset 0 = .ok (.aload_n 0, 1) := by decide +kernel
theorem d_Mo_reset_1 : decode b_Mo_reset 1 = .ok (.iconst 0, 1) := by decide +kernel
theorem d_Mo_reset_2 : decode b_Mo_reset 2 = .ok (.putfield 234, 3) := by decide +kernel
theorem d_Mo_reset_5 : decode b_Mo_reset 5 = .ok (.aload_n 0, 1) := by decide +kernel
theorem d_Mo_reset_6 : decode b_Mo_reset 6 = .ok (.iconst 0, 1) := by decide +kernel
theorem d_Mo_reset_7 : decode b_Mo_reset 7 = .ok (.putfield 313, 3) := by decide +kernel
theorem d_Mo_reset_10 : decode b_Mo_reset 10 = .ok (.return_, 1) := by decide +kernel
def f_Mo_reset (S : zSt) : Option zSt := sq (su S 66 17 0) fun S1 => gdb 0 (sq (su S1 66 20 0) fun S2 => (some S2))
set_option maxHeartbeats 4000000 in
set_option maxRecDepth 100000 in
theorem c_Mo_reset (l : Launch) (g : zG) (hD : GD g) (S : zSt) (u : zSt) (h : f_Mo_reset S = some u) : Met l y_Mo_reset (mw y_Mo_reset b_Mo_reset 1 none) (rmD 0) (Pw g [.ref (ga g 66)] S) (Qvs g u) 0 0 (gA g) := by
  refine z_go (own := R_Mo) (lv0 := [(0, .ref (ga g 66))]) hD (by decide) rfl (Nat.le_of_ble_eq_true rfl) rfl ?_
  intro p e s m args below meth c C D ls hl
  have hx := C.1
  have hb := C.2.1
  have hown := C.2.2.2.1
  have hts := C.2.2.2.2.1
  unfold f_Mo_reset at h
  refine lv_aload_n hx hb d_Mo_reset_0 rfl (lv_at hl 0 rfl) ?_
  refine lv_iconst (v := 0) hx hb d_Mo_reset_1 (by decide) ?_
  refine x_put C D kc_Mo (by decide) sh_66 17 rfl (by decide) wf_Mo_234 rfl rfl 0 rfl ⟨rfl, rfl⟩ d_Mo_reset_2 h (fun S1 H locs h D => ?_)
  refine lv_aload_n hx hb d_Mo_reset_5 rfl (lv_at hl 0 rfl) ?_
  refine lv_iconst (v := 0) hx hb d_Mo_reset_6 (by decide) ?_
  obtain ⟨z3, h⟩ := gdb_some h
  refine x_put C D kc_Mo (by decide) sh_66 20 rfl (by decide) wf_Mo_313 rfl rfl 0 rfl z3 d_Mo_reset_7 h (fun S2 H locs h D => ?_)
  exact x_vrs C D h d_Mo_reset_10
theorem d_Mo_item_0 : decode b_Mo_item 0 = .ok (.aload_n 0, 1) := by decide +kernel
theorem d_Mo_item_1 : decode b_Mo_item 1 = .ok (.iload_n 1, 1) := by decide +kernel
theorem d_Mo_item_2 : decode b_Mo_item 2 = .ok (.invokevirtual 56, 3) := by decide +kernel
theorem d_Mo_item_5 : decode b_Mo_item 5 = .ok (.ifCond .ne 5, 3) := by decide +kernel
theorem d_Mo_item_8 : decode b_Mo_item 8 = .ok (.iconst 0, 1) := by decide +kernel
theorem d_Mo_item_9 : decode b_Mo_item 9 = .ok (.ireturn, 1) := by decide +kernel
theorem d_Mo_item_10 : decode b_Mo_item 10 = .ok (.aload_n 0, 1) := by decide +kernel
theorem d_Mo_item_11 : decode b_Mo_item 11 = .ok (.getfield 13, 3) := by decide +kernel
theorem d_Mo_item_14 : decode b_Mo_item 14 = .ok (.iload_n 1, 1) := by decide +kernel
theorem d_Mo_item_15 : decode b_Mo_item 15 = .ok (.iaload, 1) := by decide +kernel
theorem d_Mo_item_16 : decode b_Mo_item 16 = .ok (.ifCond .eq 13, 3) := by decide +kernel
theorem d_Mo_item_19 : decode b_Mo_item 19 = .ok (.aload_n 0, 1) := by decide +kernel
theorem d_Mo_item_20 : decode b_Mo_item 20 = .ok (.getfield 13, 3) := by decide +kernel
theorem d_Mo_item_23 : decode b_Mo_item 23 = .ok (.iload_n 1, 1) := by decide +kernel
theorem d_Mo_item_24 : decode b_Mo_item 24 = .ok (.iaload, 1) := by decide +kernel
theorem d_Mo_item_25 : decode b_Mo_item 25 = .ok (.iconst 5, 1) := by decide +kernel
theorem d_Mo_item_26 : decode b_Mo_item 26 = .ok (.if_icmp .ne 7, 3) := by decide +kernel
theorem d_Mo_item_29 : decode b_Mo_item 29 = .ok (.iconst 1, 1) := by decide +kernel
theorem d_Mo_item_30 : decode b_Mo_item 30 = .ok (.goto 4, 3) := by decide +kernel
theorem d_Mo_item_33 : decode b_Mo_item 33 = .ok (.iconst 3, 1) := by decide +kernel
theorem d_Mo_item_34 : decode b_Mo_item 34 = .ok (.istore_n 2, 1) := by decide +kernel
theorem d_Mo_item_35 : decode b_Mo_item 35 = .ok (.aload_n 0, 1) := by decide +kernel
theorem d_Mo_item_36 : decode b_Mo_item 36 = .ok (.getfield 19, 3) := by decide +kernel
theorem d_Mo_item_39 : decode b_Mo_item 39 = .ok (.iload_n 1, 1) := by decide +kernel
theorem d_Mo_item_40 : decode b_Mo_item 40 = .ok (.iaload, 1) := by decide +kernel
theorem d_Mo_item_41 : decode b_Mo_item 41 = .ok (.iload_n 2, 1) := by decide +kernel
theorem d_Mo_item_42 : decode b_Mo_item 42 = .ok (.if_icmp .ne 5, 3) := by decide +kernel
theorem d_Mo_item_45 : decode b_Mo_item 45 = .ok (.iconst 0, 1) := by decide +kernel
theorem d_Mo_item_46 : decode b_Mo_item 46 = .ok (.ireturn, 1) := by decide +kernel
theorem d_Mo_item_47 : decode b_Mo_item 47 = .ok (.aload_n 0, 1) := by decide +kernel
theorem d_Mo_item_48 : decode b_Mo_item 48 = .ok (.getfield 22, 3) := by decide +kernel
theorem d_Mo_item_51 : decode b_Mo_item 51 = .ok (.iconst 3, 1) := by decide +kernel
theorem d_Mo_item_52 : decode b_Mo_item 52 = .ok (.iload_n 1, 1) := by decide +kernel
theorem d_Mo_item_53 : decode b_Mo_item 53 = .ok (.imul, 1) := by decide +kernel
theorem d_Mo_item_54 : decode b_Mo_item 54 = .ok (.aload_n 0, 1) := by decide +kernel
theorem d_Mo_item_55 : decode b_Mo_item 55 = .ok (.getfield 19, 3) := by decide +kernel
theorem d_Mo_item_58 : decode b_Mo_item 58 = .ok (.iload_n 1, 1) := by decide +kernel
theorem d_Mo_item_59 : decode b_Mo_item 59 = .ok (.iaload, 1) := by decide +kernel
theorem d_Mo_item_60 : decode b_Mo_item 60 = .ok (.iadd, 1) := by decide +kernel
theorem d_Mo_item_61 : decode b_Mo_item 61 = .ok (.iconst 0, 1) := by decide +kernel
theorem d_Mo_item_62 : decode b_Mo_item 62 = .ok (.iastore, 1) := by decide +kernel
theorem d_Mo_item_63 : decode b_Mo_item 63 = .ok (.aload_n 0, 1) := by decide +kernel
theorem d_Mo_item_64 : decode b_Mo_item 64 = .ok (.getfield 19, 3) := by decide +kernel
theorem d_Mo_item_67 : decode b_Mo_item 67 = .ok (.iload_n 1, 1) := by decide +kernel
theorem d_Mo_item_68 : decode b_Mo_item 68 = .ok (.dup2, 1) := by decide +kernel
theorem d_Mo_item_69 : decode b_Mo_item 69 = .ok (.iaload, 1) := by decide +kernel
theorem d_Mo_item_70 : decode b_Mo_item 70 = .ok (.iconst 1, 1) := by decide +kernel
theorem d_Mo_item_71 : decode b_Mo_item 71 = .ok (.iadd, 1) := by decide +kernel
theorem d_Mo_item_72 : decode b_Mo_item 72 = .ok (.iastore, 1) := by decide +kernel
theorem d_Mo_item_73 : decode b_Mo_item 73 = .ok (.iconst 1, 1) := by decide +kernel
theorem d_Mo_item_74 : decode b_Mo_item 74 = .ok (.ireturn, 1) := by decide +kernel
def f_Mo_item_34 (a1 : Int32) (t0 : Int32) (S : zSt) : Option (Int32 × zSt) := gdi a1 6 ((if (S 70 a1.toNatClampNeg) = t0 then (gdb 0 (some (0, S))) else gdi a1 6 (gdi ((3 * a1) + (S 70 a1.toNatClampNeg)) 18 (sq (su S 71 ((3 * a1) + (S 70 a1.toNatClampNeg)).toNatClampNeg 0) fun S2 => gdi a1 6 (gdi a1 6 (sq (su S2 70 a1.toNatClampNeg ((S2 70 a1.toNatClampNeg) + 1)) fun S3 => (gdb 1 (some (1, S3)))))))))
def f_Mo_item_29 (a1 : Int32) (S : zSt) : Option (Int32 × zSt) := (f_Mo_item_34 a1 1 S)
def f_Mo_item (a1 : Int32) (S : zSt) : Option (Int32 × zSt) := ((f_Mo_isParameter a1 S).bind fun u1 => (if u1 = 0 then (gdb 0 (some (0, S))) else gdi a1 6 ((if (S 68 a1.toNatClampNeg) = 0 then (f_Mo_item_29 a1 S) else gdi a1 6 ((if (S 68 a1.toNatClampNeg) = 5 then (f_Mo_item_29 a1 S) else (f_Mo_item_34 a1 3 S)))))))
set_option maxHeartbeats 4000000 in
set_option maxRecDepth 100000 in
theorem c_Mo_item (l : Launch) (g : zG) (hD : GD g) (a1 : Int32) (S : zSt) (u : (Int32 × zSt)) (h : f_Mo_item a1 S = some u) : Met l y_Mo_item (mw y_Mo_item b_Mo_item 3 (some .boolean)) (rmD 1) (Pw g [.ref (ga g 66), .int a1] S) (Qis g u) 0 0 (gA g) := by
  refine z_go (own := R_Mo) (lv0 := [(0, .ref (ga g 66)), (1, .int a1)]) hD (by decide) rfl (Nat.le_of_ble_eq_true rfl) rfl ?_
  intro p e s m args below meth c C D ls hl
  have hx := C.1
  have hb := C.2.1
  have hown := C.2.2.2.1
  have hts := C.2.2.2.2.1
  have B34 : ∀ (H : Heap) (locs : List Loc) (S : zSt) (ls : Array Slot) (a1 : Int32) (t0 : Int32), f_Mo_item_34 a1 t0 S = some u → Dy g s S H locs → lv_has ls 3 [(0, .ref (ga g 66)), (1, .int a1)] → W p l e (rmD 1) s m args below meth c H locs 0 0 (MQ below (Qis g u) args s 0 0 (gA g)) (F0 m 34 ls [.int t0]) := by
    intro H locs S ls a1 t0 h D hl
    unfold f_Mo_item_34 at h
    refine lv_istore_n (lv' := [(2, .int t0), (0, .ref (ga g 66)), (1, .int a1)]) hx hb d_Mo_item_34 rfl hl (by decide) rfl (fun ls hl => ?_)
    refine lv_aload_n hx hb d_Mo_item_35 rfl (lv_at hl 1 rfl) ?_
    refine x_get (v := .ref (ga g 70)) C D kc_Mo (by decide) sh_66 6 rfl (by decide) wf_Mo_19 rfl rfl d_Mo_item_36 ?_
    refine lv_iload_n hx hb d_Mo_item_39 rfl (lv_at hl 2 rfl) ?_
    refine x_iald C D (by decide) sh_70 d_Mo_item_40 h (fun _ h => ?_)
    refine lv_iload_n hx hb d_Mo_item_41 rfl (lv_at hl 0 rfl) ?_
    refine lv_icmp_ne hx hb d_Mo_item_42 rfl (fun z => ?_) (fun z => ?_)
    · replace h := if_f z h
      refine lv_aload_n hx hb d_Mo_item_47 rfl (lv_at hl 1 rfl) ?_
      refine x_get (v := .ref (ga g 71)) C D kc_Mo (by decide) sh_66 7 rfl (by decide) wf_Mo_22 rfl rfl d_Mo_item_48 ?_
      refine lv_iconst (v := 3) hx hb d_Mo_item_51 (by decide) ?_
      refine lv_iload_n hx hb d_Mo_item_52 rfl (lv_at hl 2 rfl) ?_
      refine lv_imul hx hb d_Mo_item_53 ?_
      refine lv_aload_n hx hb d_Mo_item_54 rfl (lv_at hl 1 rfl) ?_
      refine x_get (v := .ref (ga g 70)) C D kc_Mo (by decide) sh_66 6 rfl (by decide) wf_Mo_19 rfl rfl d_Mo_item_55 ?_
      refine lv_iload_n hx hb d_Mo_item_58 rfl (lv_at hl 2 rfl) ?_
      refine x_iald C D (by decide) sh_70 d_Mo_item_59 h (fun _ h => ?_)
      refine lv_iadd hx hb d_Mo_item_60 ?_
      refine lv_iconst (v := 0) hx hb d_Mo_item_61 (by decide) ?_
      refine x_iast C D (by decide) sh_71 d_Mo_item_62 h (fun S2 H locs h D => ?_)
      refine lv_aload_n hx hb d_Mo_item_63 rfl (lv_at hl 1 rfl) ?_
      refine x_get (v := .ref (ga g 70)) C D kc_Mo (by decide) sh_66 6 rfl (by decide) wf_Mo_19 rfl rfl d_Mo_item_64 ?_
      refine lv_iload_n hx hb d_Mo_item_67 rfl (lv_at hl 2 rfl) ?_
      refine lv_dup2_11 hx hb d_Mo_item_68 rfl rfl ?_
      refine x_iald C D (by decide) sh_70 d_Mo_item_69 h (fun _ h => ?_)
      refine lv_iconst (v := 1) hx hb d_Mo_item_70 (by decide) ?_
      refine lv_iadd hx hb d_Mo_item_71 ?_
      refine x_iast C D (by decide) sh_70 d_Mo_item_72 h (fun S3 H locs h D => ?_)
      refine lv_iconst (v := 1) hx hb d_Mo_item_73 (by decide) ?_
      exact x_zrs C D h d_Mo_item_74
    · replace h := if_t z h
      refine lv_iconst (v := 0) hx hb d_Mo_item_45 (by decide) ?_
      exact x_zrs C D h d_Mo_item_46
  have B29 : ∀ (H : Heap) (locs : List Loc) (S : zSt) (ls : Array Slot) (a1 : Int32), f_Mo_item_29 a1 S = some u → Dy g s S H locs → lv_has ls 3 [(0, .ref (ga g 66)), (1, .int a1)] → W p l e (rmD 1) s m args below meth c H locs 0 0 (MQ below (Qis g u) args s 0 0 (gA g)) (F0 m 29 ls []) := by
    intro H locs S ls a1 h D hl
    unfold f_Mo_item_29 at h
    refine lv_iconst (v := 1) hx hb d_Mo_item_29 (by decide) ?_
    refine lv_goto hx hb d_Mo_item_30 rfl ?_
    exact B34 _ _ _ _ _ _ h D (lv_sub hl [0, 1] rfl)
  unfold f_Mo_item at h
  refine lv_aload_n hx hb d_Mo_item_0 rfl (lv_at hl 0 rfl) ?_
  refine lv_iload_n hx hb d_Mo_item_1 rfl (lv_at hl 1 rfl) ?_
  obtain ⟨u1, hu1, h⟩ := bd_some h
  refine x_cip (rest := []) (r_V C D (c_Mo_isParameter l g hD a1 S u1 hu1) wc_Mo_isParameter wm_Mo_56 wi_Mo_isParameter wd_Mo_isParameter (by decide) sh_66 kc_Mo.1 rfl rfl hl (Nat.le_of_ble_eq_true rfl) (by decide) d_Mo_item_2) D (fun H locs D => ?_)
  refine lv_if_ne hx hb d_Mo_item_5 rfl (fun z => ?_) (fun z => ?_)
  · replace h := if_f z h
    refine lv_aload_n hx hb d_Mo_item_10 rfl (lv_at hl 0 rfl) ?_
    refine x_get (v := .ref (ga g 68)) C D kc_Mo (by decide) sh_66 4 rfl (by decide) wf_Mo_13 rfl rfl d_Mo_item_11 ?_
    refine lv_iload_n hx hb d_Mo_item_14 rfl (lv_at hl 1 rfl) ?_
    refine x_iald C D (by decide) sh_68 d_Mo_item_15 h (fun _ h => ?_)
    refine lv_if_eq hx hb d_Mo_item_16 rfl (fun z => ?_) (fun z => ?_)
    · replace h := if_t z h
      exact B29 _ _ _ _ _ h D (lv_sub hl [0, 1] rfl)
    · replace h := if_f z h
      refine lv_aload_n hx hb d_Mo_item_19 rfl (lv_at hl 0 rfl) ?_
      refine x_get (v := .ref (ga g 68)) C D kc_Mo (by decide) sh_66 4 rfl (by decide) wf_Mo_13 rfl rfl d_Mo_item_20 ?_
      refine lv_iload_n hx hb d_Mo_item_23 rfl (lv_at hl 1 rfl) ?_
      refine x_iald C D (by decide) sh_68 d_Mo_item_24 h (fun _ h => ?_)
      refine lv_iconst (v := 5) hx hb d_Mo_item_25 (by decide) ?_
      refine lv_icmp_ne hx hb d_Mo_item_26 rfl (fun z => ?_) (fun z => ?_)
      · replace h := if_f z h
        refine lv_iconst (v := 3) hx hb d_Mo_item_33 (by decide) ?_
        exact B34 _ _ _ _ _ _ h D (lv_sub hl [0, 1] rfl)
      · replace h := if_t z h
        exact B29 _ _ _ _ _ h D (lv_sub hl [0, 1] rfl)
  · replace h := if_t z h
    refine lv_iconst (v := 0) hx hb d_Mo_item_8 (by decide) ?_
    exact x_zrs C D h d_Mo_item_9
theorem d_Mo_write_0 : decode b_Mo_write 0 = .ok (.aload_n 0, 1) := by decide +kernel
theorem d_Mo_write_1 : decode b_Mo_write 1 = .ok (.iload_n 1, 1) := by decide +kernel
theorem d_Mo_write_2 : decode b_Mo_write 2 = .ok (.invokevirtual 56, 3) := by decide +kernel
theorem d_Mo_write_5 : decode b_Mo_write 5 = .ok (.ifCond .eq 12, 3) := by decide +kernel
theorem d_Mo_write_8 : decode b_Mo_write 8 = .ok (.aload_n 0, 1) := by decide +kernel
theorem d_Mo_write_9 : decode b_Mo_write 9 = .ok (.getfield 19, 3) := by decide +kernel
theorem d_Mo_write_12 : decode b_Mo_write 12 = .ok (.iload_n 1, 1) := by decide +kernel
theorem d_Mo_write_13 : decode b_Mo_write 13 = .ok (.iaload, 1) := by decide +kernel
theorem d_Mo_write_14 : decode b_Mo_write 14 = .ok (.ifCond .ne 5, 3) := by decide +kernel
theorem d_Mo_write_17 : decode b_Mo_write 17 = .ok (.iconst 0, 1) := by decide +kernel
theorem d_Mo_write_18 : decode b_Mo_write 18 = .ok (.ireturn, 1) := by decide +kernel
theorem d_Mo_write_19 : decode b_Mo_write 19 = .ok (.iconst 3, 1) := by decide +kernel
theorem d_Mo_write_20 : decode b_Mo_write 20 = .ok (.iload_n 1, 1) := by decide +kernel
theorem d_Mo_write_21 : decode b_Mo_write 21 = .ok (.imul, 1) := by decide +kernel
theorem d_Mo_write_22 : decode b_Mo_write 22 = .ok (.aload_n 0, 1) := by decide +kernel
theorem d_Mo_write_23 : decode b_Mo_write 23 = .ok (.getfield 19, 3) := by decide +kernel
theorem d_Mo_write_26 : decode b_Mo_write 26 = .ok (.iload_n 1, 1) := by decide +kernel
theorem d_Mo_write_27 : decode b_Mo_write 27 = .ok (.iaload, 1) := by decide +kernel
theorem d_Mo_write_28 : decode b_Mo_write 28 = .ok (.iadd, 1) := by decide +kernel
theorem d_Mo_write_29 : decode b_Mo_write 29 = .ok (.iconst 1, 1) := by decide +kernel
theorem d_Mo_write_30 : decode b_Mo_write 30 = .ok (.isub, 1) := by decide +kernel
theorem d_Mo_write_31 : decode b_Mo_write 31 = .ok (.istore_n 3, 1) := by decide +kernel
theorem d_Mo_write_32 : decode b_Mo_write 32 = .ok (.aload_n 0, 1) := by decide +kernel
theorem d_Mo_write_33 : decode b_Mo_write 33 = .ok (.getfield 22, 3) := by decide +kernel
theorem d_Mo_write_36 : decode b_Mo_write 36 = .ok (.iload_n 3, 1) := by decide +kernel
theorem d_Mo_write_37 : decode b_Mo_write 37 = .ok (.iaload, 1) := by decide +kernel
theorem d_Mo_write_38 : decode b_Mo_write 38 = .ok (.bipush 8, 2) := by decide +kernel
theorem d_Mo_write_40 : decode b_Mo_write 40 = .ok (.if_icmp .ne 5, 3) := by decide +kernel
theorem d_Mo_write_43 : decode b_Mo_write 43 = .ok (.iconst 0, 1) := by decide +kernel
theorem d_Mo_write_44 : decode b_Mo_write 44 = .ok (.ireturn, 1) := by decide +kernel
theorem d_Mo_write_45 : decode b_Mo_write 45 = .ok (.aload_n 0, 1) := by decide +kernel
theorem d_Mo_write_46 : decode b_Mo_write 46 = .ok (.getfield 25, 3) := by decide +kernel
theorem d_Mo_write_49 : decode b_Mo_write 49 = .ok (.bipush 8, 2) := by decide +kernel
theorem d_Mo_write_51 : decode b_Mo_write 51 = .ok (.iload_n 3, 1) := by decide +kernel
theorem d_Mo_write_52 : decode b_Mo_write 52 = .ok (.imul, 1) := by decide +kernel
theorem d_Mo_write_53 : decode b_Mo_write 53 = .ok (.aload_n 0, 1) := by decide +kernel
theorem d_Mo_write_54 : decode b_Mo_write 54 = .ok (.getfield 22, 3) := by decide +kernel
theorem d_Mo_write_57 : decode b_Mo_write 57 = .ok (.iload_n 3, 1) := by decide +kernel
theorem d_Mo_write_58 : decode b_Mo_write 58 = .ok (.iaload, 1) := by decide +kernel
theorem d_Mo_write_59 : decode b_Mo_write 59 = .ok (.iadd, 1) := by decide +kernel
theorem d_Mo_write_60 : decode b_Mo_write 60 = .ok (.iload_n 2, 1) := by decide +kernel
theorem d_Mo_write_61 : decode b_Mo_write 61 = .ok (.iastore, 1) := by decide +kernel
theorem d_Mo_write_62 : decode b_Mo_write 62 = .ok (.aload_n 0, 1) := by decide +kernel
theorem d_Mo_write_63 : decode b_Mo_write 63 = .ok (.getfield 22, 3) := by decide +kernel
theorem d_Mo_write_66 : decode b_Mo_write 66 = .ok (.iload_n 3, 1) := by decide +kernel
theorem d_Mo_write_67 : decode b_Mo_write 67 = .ok (.dup2, 1) := by decide +kernel
theorem d_Mo_write_68 : decode b_Mo_write 68 = .ok (.iaload, 1) := by decide +kernel
theorem d_Mo_write_69 : decode b_Mo_write 69 = .ok (.iconst 1, 1) := by decide +kernel
theorem d_Mo_write_70 : decode b_Mo_write 70 = .ok (.iadd, 1) := by decide +kernel
theorem d_Mo_write_71 : decode b_Mo_write 71 = .ok (.iastore, 1) := by decide +kernel
theorem d_Mo_write_72 : decode b_Mo_write 72 = .ok (.iconst 1, 1) := by decide +kernel
theorem d_Mo_write_73 : decode b_Mo_write 73 = .ok (.ireturn, 1) := by decide +kernel
def f_Mo_write (a1 : Int32) (a2 : Int32) (S : zSt) : Option (Int32 × zSt) := ((f_Mo_isParameter a1 S).bind fun u1 => (if u1 = 0 then (gdb 0 (some (0, S))) else gdi a1 6 ((if (S 70 a1.toNatClampNeg) = 0 then (gdb 0 (some (0, S))) else gdi a1 6 (gdi (((3 * a1) + (S 70 a1.toNatClampNeg)) - 1) 18 ((if (S 71 (((3 * a1) + (S 70 a1.toNatClampNeg)) - 1).toNatClampNeg) = 8 then (gdb 0 (some (0, S))) else gdi (((3 * a1) + (S 70 a1.toNatClampNeg)) - 1) 18 (gdi ((8 * (((3 * a1) + (S 70 a1.toNatClampNeg)) - 1)) + (S 71 (((3 * a1) + (S 70 a1.toNatClampNeg)) - 1).toNatClampNeg)) 144 (sq (su S 72 ((8 * (((3 * a1) + (S 70 a1.toNatClampNeg)) - 1)) + (S 71 (((3 * a1) + (S 70 a1.toNatClampNeg)) - 1).toNatClampNeg)).toNatClampNeg a2) fun S2 => gdi (((3 * a1) + (S 70 a1.toNatClampNeg)) - 1) 18 (gdi (((3 * a1) + (S 70 a1.toNatClampNeg)) - 1) 18 (sq (su S2 71 (((3 * a1) + (S 70 a1.toNatClampNeg)) - 1).toNatClampNeg ((S2 71 (((3 * a1) + (S 70 a1.toNatClampNeg)) - 1).toNatClampNeg) + 1)) fun S3 => (gdb 1 (some (1, S3))))))))))))))
set_option maxHeartbeats 4000000 in
set_option maxRecDepth 100000 in
theorem c_Mo_write (l : Launch) (g : zG) (hD : GD g) (a1 : Int32) (a2 : Int32) (S : zSt) (u : (Int32 × zSt)) (h : f_Mo_write a1 a2 S = some u) : Met l y_Mo_write (mw y_Mo_write b_Mo_write 4 (some .boolean)) (rmD 1) (Pw g [.ref (ga g 66), .int a1, .int a2] S) (Qis g u) 0 0 (gA g) := by
  refine z_go (own := R_Mo) (lv0 := [(0, .ref (ga g 66)), (1, .int a1), (2, .int a2)]) hD (by decide) rfl (Nat.le_of_ble_eq_true rfl) rfl ?_
  intro p e s m args below meth c C D ls hl
  have hx := C.1
  have hb := C.2.1
  have hown := C.2.2.2.1
  have hts := C.2.2.2.2.1
  unfold f_Mo_write at h
  refine lv_aload_n hx hb d_Mo_write_0 rfl (lv_at hl 0 rfl) ?_
  refine lv_iload_n hx hb d_Mo_write_1 rfl (lv_at hl 1 rfl) ?_
  obtain ⟨u1, hu1, h⟩ := bd_some h
  refine x_cip (rest := []) (r_V C D (c_Mo_isParameter l g hD a1 S u1 hu1) wc_Mo_isParameter wm_Mo_56 wi_Mo_isParameter wd_Mo_isParameter (by decide) sh_66 kc_Mo.1 rfl rfl hl (Nat.le_of_ble_eq_true rfl) (by decide) d_Mo_write_2) D (fun H locs D => ?_)
  refine lv_if_eq hx hb d_Mo_write_5 rfl (fun z => ?_) (fun z => ?_)
  · replace h := if_t z h
    refine lv_iconst (v := 0) hx hb d_Mo_write_17 (by decide) ?_
    exact x_zrs C D h d_Mo_write_18
  · replace h := if_f z h
    refine lv_aload_n hx hb d_Mo_write_8 rfl (lv_at hl 0 rfl) ?_
    refine x_get (v := .ref (ga g 70)) C D kc_Mo (by decide) sh_66 6 rfl (by decide) wf_Mo_19 rfl rfl d_Mo_write_9 ?_
    refine lv_iload_n hx hb d_Mo_write_12 rfl (lv_at hl 1 rfl) ?_
    refine x_iald C D (by decide) sh_70 d_Mo_write_13 h (fun _ h => ?_)
    refine lv_if_ne hx hb d_Mo_write_14 rfl (fun z => ?_) (fun z => ?_)
    · replace h := if_f z h
      refine lv_iconst (v := 3) hx hb d_Mo_write_19 (by decide) ?_
      refine lv_iload_n hx hb d_Mo_write_20 rfl (lv_at hl 1 rfl) ?_
      refine lv_imul hx hb d_Mo_write_21 ?_
      refine lv_aload_n hx hb d_Mo_write_22 rfl (lv_at hl 0 rfl) ?_
      refine x_get (v := .ref (ga g 70)) C D kc_Mo (by decide) sh_66 6 rfl (by decide) wf_Mo_19 rfl rfl d_Mo_write_23 ?_
      refine lv_iload_n hx hb d_Mo_write_26 rfl (lv_at hl 1 rfl) ?_
      refine x_iald C D (by decide) sh_70 d_Mo_write_27 h (fun _ h => ?_)
      refine lv_iadd hx hb d_Mo_write_28 ?_
      refine lv_iconst (v := 1) hx hb d_Mo_write_29 (by decide) ?_
      refine lv_isub hx hb d_Mo_write_30 ?_
      refine lv_istore_n (lv' := [(3, .int (((3 * a1) + (S 70 a1.toNatClampNeg)) - 1)), (0, .ref (ga g 66)), (1, .int a1), (2, .int a2)]) hx hb d_Mo_write_31 rfl hl (by decide) rfl (fun ls hl => ?_)
      refine lv_aload_n hx hb d_Mo_write_32 rfl (lv_at hl 1 rfl) ?_
      refine x_get (v := .ref (ga g 71)) C D kc_Mo (by decide) sh_66 7 rfl (by decide) wf_Mo_22 rfl rfl d_Mo_write_33 ?_
      refine lv_iload_n hx hb d_Mo_write_36 rfl (lv_at hl 0 rfl) ?_
      refine x_iald C D (by decide) sh_71 d_Mo_write_37 h (fun _ h => ?_)
      refine lv_bipush (v := 8) hx hb d_Mo_write_38 (by decide) ?_
      refine lv_icmp_ne hx hb d_Mo_write_40 rfl (fun z => ?_) (fun z => ?_)
      · replace h := if_f z h
        refine lv_aload_n hx hb d_Mo_write_45 rfl (lv_at hl 1 rfl) ?_
        refine x_get (v := .ref (ga g 72)) C D kc_Mo (by decide) sh_66 8 rfl (by decide) wf_Mo_25 rfl rfl d_Mo_write_46 ?_
        refine lv_bipush (v := 8) hx hb d_Mo_write_49 (by decide) ?_
        refine lv_iload_n hx hb d_Mo_write_51 rfl (lv_at hl 0 rfl) ?_
        refine lv_imul hx hb d_Mo_write_52 ?_
        refine lv_aload_n hx hb d_Mo_write_53 rfl (lv_at hl 1 rfl) ?_
        refine x_get (v := .ref (ga g 71)) C D kc_Mo (by decide) sh_66 7 rfl (by decide) wf_Mo_22 rfl rfl d_Mo_write_54 ?_
        refine lv_iload_n hx hb d_Mo_write_57 rfl (lv_at hl 0 rfl) ?_
        refine x_iald C D (by decide) sh_71 d_Mo_write_58 h (fun _ h => ?_)
        refine lv_iadd hx hb d_Mo_write_59 ?_
        refine lv_iload_n hx hb d_Mo_write_60 rfl (lv_at hl 3 rfl) ?_
        refine x_iast C D (by decide) sh_72 d_Mo_write_61 h (fun S2 H locs h D => ?_)
        refine lv_aload_n hx hb d_Mo_write_62 rfl (lv_at hl 1 rfl) ?_
        refine x_get (v := .ref (ga g 71)) C D kc_Mo (by decide) sh_66 7 rfl (by decide) wf_Mo_22 rfl rfl d_Mo_write_63 ?_
        refine lv_iload_n hx hb d_Mo_write_66 rfl (lv_at hl 0 rfl) ?_
        refine lv_dup2_11 hx hb d_Mo_write_67 rfl rfl ?_
        refine x_iald C D (by decide) sh_71 d_Mo_write_68 h (fun _ h => ?_)
        refine lv_iconst (v := 1) hx hb d_Mo_write_69 (by decide) ?_
        refine lv_iadd hx hb d_Mo_write_70 ?_
        refine x_iast C D (by decide) sh_71 d_Mo_write_71 h (fun S3 H locs h D => ?_)
        refine lv_iconst (v := 1) hx hb d_Mo_write_72 (by decide) ?_
        exact x_zrs C D h d_Mo_write_73
      · replace h := if_t z h
        refine lv_iconst (v := 0) hx hb d_Mo_write_43 (by decide) ?_
        exact x_zrs C D h d_Mo_write_44
    · replace h := if_t z h
      refine lv_iconst (v := 0) hx hb d_Mo_write_17 (by decide) ?_
      exact x_zrs C D h d_Mo_write_18
theorem d_Mo_empty_0 : decode b_Mo_empty 0 = .ok (.aload_n 0, 1) := by decide +kernel
theorem d_Mo_empty_1 : decode b_Mo_empty 1 = .ok (.iload_n 1, 1) := by decide +kernel
theorem d_Mo_empty_2 : decode b_Mo_empty 2 = .ok (.invokevirtual 56, 3) := by decide +kernel
theorem d_Mo_empty_5 : decode b_Mo_empty 5 = .ok (.ifCond .ne 5, 3) := by decide +kernel
theorem d_Mo_empty_8 : decode b_Mo_empty 8 = .ok (.iconst 0, 1) := by decide +kernel
theorem d_Mo_empty_9 : decode b_Mo_empty 9 = .ok (.ireturn, 1) := by decide +kernel
theorem d_Mo_empty_10 : decode b_Mo_empty 10 = .ok (.aload_n 0, 1) := by decide +kernel
theorem d_Mo_empty_11 : decode b_Mo_empty 11 = .ok (.getfield 19, 3) := by decide +kernel
theorem d_Mo_empty_14 : decode b_Mo_empty 14 = .ok (.iload_n 1, 1) := by decide +kernel
theorem d_Mo_empty_15 : decode b_Mo_empty 15 = .ok (.iconst 0, 1) := by decide +kernel
theorem d_Mo_empty_16 : decode b_Mo_empty 16 = .ok (.iastore, 1) := by decide +kernel
theorem d_Mo_empty_17 : decode b_Mo_empty 17 = .ok (.iconst 1, 1) := by decide +kernel
theorem d_Mo_empty_18 : decode b_Mo_empty 18 = .ok (.ireturn, 1) := by decide +kernel
def f_Mo_empty (a1 : Int32) (S : zSt) : Option (Int32 × zSt) := ((f_Mo_isParameter a1 S).bind fun u1 => (if u1 = 0 then (gdb 0 (some (0, S))) else gdi a1 6 (sq (su S 70 a1.toNatClampNeg 0) fun S2 => (gdb 1 (some (1, S2))))))
set_option maxHeartbeats 4000000 in
set_option maxRecDepth 100000 in
theorem c_Mo_empty (l : Launch) (g : zG) (hD : GD g) (a1 : Int32) (S : zSt) (u : (Int32 × zSt)) (h : f_Mo_empty a1 S = some u) : Met l y_Mo_empty (mw y_Mo_empty b_Mo_empty 2 (some .boolean)) (rmD 1) (Pw g [.ref (ga g 66), .int a1] S) (Qis g u) 0 0 (gA g) := by
  refine z_go (own := R_Mo) (lv0 := [(0, .ref (ga g 66)), (1, .int a1)]) hD (by decide) rfl (Nat.le_of_ble_eq_true rfl) rfl ?_
  intro p e s m args below meth c C D ls hl
  have hx := C.1
  have hb := C.2.1
  have hown := C.2.2.2.1
  have hts := C.2.2.2.2.1
  unfold f_Mo_empty at h
  refine lv_aload_n hx hb d_Mo_empty_0 rfl (lv_at hl 0 rfl) ?_
  refine lv_iload_n hx hb d_Mo_empty_1 rfl (lv_at hl 1 rfl) ?_
  obtain ⟨u1, hu1, h⟩ := bd_some h
  refine x_cip (rest := []) (r_V C D (c_Mo_isParameter l g hD a1 S u1 hu1) wc_Mo_isParameter wm_Mo_56 wi_Mo_isParameter wd_Mo_isParameter (by decide) sh_66 kc_Mo.1 rfl rfl hl (Nat.le_of_ble_eq_true rfl) (by decide) d_Mo_empty_2) D (fun H locs D => ?_)
  refine lv_if_ne hx hb d_Mo_empty_5 rfl (fun z => ?_) (fun z => ?_)
  · replace h := if_f z h
    refine lv_aload_n hx hb d_Mo_empty_10 rfl (lv_at hl 0 rfl) ?_
    refine x_get (v := .ref (ga g 70)) C D kc_Mo (by decide) sh_66 6 rfl (by decide) wf_Mo_19 rfl rfl d_Mo_empty_11 ?_
    refine lv_iload_n hx hb d_Mo_empty_14 rfl (lv_at hl 1 rfl) ?_
    refine lv_iconst (v := 0) hx hb d_Mo_empty_15 (by decide) ?_
    refine x_iast C D (by decide) sh_70 d_Mo_empty_16 h (fun S2 H locs h D => ?_)
    refine lv_iconst (v := 1) hx hb d_Mo_empty_17 (by decide) ?_
    exact x_zrs C D h d_Mo_empty_18
  · replace h := if_t z h
    refine lv_iconst (v := 0) hx hb d_Mo_empty_8 (by decide) ?_
    exact x_zrs C D h d_Mo_empty_9
theorem d_Mo_letterOrDigit_0 : decode b_Mo_letterOrDigit 0 = .ok (.iload_n 0, 1) := by decide +kernel
theorem d_Mo_letterOrDigit_1 : decode b_Mo_letterOrDigit 1 = .ok (.invokestatic 60, 3) := by decide +kernel
theorem d_Mo_letterOrDigit_4 : decode b_Mo_letterOrDigit 4 = .ok (.ifCond .ne 22, 3) := by decide +kernel
theorem d_Mo_letterOrDigit_7 : decode b_Mo_letterOrDigit 7 = .ok (.iload_n 0, 1) := by decide +kernel
theorem d_Mo_letterOrDigit_8 : decode b_Mo_letterOrDigit 8 = .ok (.bipush 65, 2) := by decide +kernel
theorem d_Mo_letterOrDigit_10 : decode b_Mo_letterOrDigit 10 = .ok (.if_icmp .lt 9, 3) := by decide +kernel
theorem d_Mo_letterOrDigit_13 : decode b_Mo_letterOrDigit 13 = .ok (.iload_n 0, 1) := by decide +kernel
theorem d_Mo_letterOrDigit_14 : decode b_Mo_letterOrDigit 14 = .ok (.bipush 90, 2) := by decide +kernel
theorem d_Mo_letterOrDigit_16 : decode b_Mo_letterOrDigit 16 = .ok (.if_icmp .le 10, 3) := by decide +kernel
theorem d_Mo_letterOrDigit_19 : decode b_Mo_letterOrDigit 19 = .ok (.iload_n 0, 1) := by decide +kernel
theorem d_Mo_letterOrDigit_20 : decode b_Mo_letterOrDigit 20 = .ok (.invokestatic 63, 3) := by decide +kernel
theorem d_Mo_letterOrDigit_23 : decode b_Mo_letterOrDigit 23 = .ok (.ifCond .eq 7, 3) := by decide +kernel
theorem d_Mo_letterOrDigit_26 : decode b_Mo_letterOrDigit 26 = .ok (.iconst 1, 1) := by decide +kernel
theorem d_Mo_letterOrDigit_27 : decode b_Mo_letterOrDigit 27 = .ok (.goto 4, 3) := by decide +kernel
theorem d_Mo_letterOrDigit_30 : decode b_Mo_letterOrDigit 30 = .ok (.iconst 0, 1) := by decide +kernel
theorem d_Mo_letterOrDigit_31 : decode b_Mo_letterOrDigit 31 = .ok (.ireturn, 1) := by decide +kernel
def f_Mo_letterOrDigit_26 (S : zSt) : Option Int32 := (gdb 1 (some 1))
def f_Mo_letterOrDigit_19 (a0 : Int32) (S : zSt) : Option Int32 := ((f_Mo_digit a0 S).bind fun u2 => (if u2 = 0 then (gdb 0 (some 0)) else (f_Mo_letterOrDigit_26 S)))
def f_Mo_letterOrDigit (a0 : Int32) (S : zSt) : Option Int32 := ((f_Mo_small a0 S).bind fun u1 => (if u1 = 0 then (if a0 < 65 then (f_Mo_letterOrDigit_19 a0 S) else (if a0 ≤ 90 then (f_Mo_letterOrDigit_26 S) else (f_Mo_letterOrDigit_19 a0 S))) else (f_Mo_letterOrDigit_26 S)))
set_option maxHeartbeats 4000000 in
set_option maxRecDepth 100000 in
theorem c_Mo_letterOrDigit (l : Launch) (g : zG) (hD : GD g) (a0 : Int32) (S : zSt) (u : Int32) (h : f_Mo_letterOrDigit a0 S = some u) : Met l y_Mo_letterOrDigit (mw y_Mo_letterOrDigit b_Mo_letterOrDigit 1 (some .boolean)) (rmD 1) (Pw g [.int a0] S) (Qip g S u) 0 0 (gA g) := by
  refine z_go (own := R_Mo) (lv0 := [(0, .int a0)]) hD (by decide) rfl (Nat.le_of_ble_eq_true rfl) rfl ?_
  intro p e s m args below meth c C D ls hl
  have hx := C.1
  have hb := C.2.1
  have hown := C.2.2.2.1
  have hts := C.2.2.2.2.1
  have B26 : ∀ (H : Heap) (locs : List Loc) (ls : Array Slot), f_Mo_letterOrDigit_26 S = some u → Dy g s S H locs → lv_has ls 1 [] → W p l e (rmD 1) s m args below meth c H locs 0 0 (MQ below (Qip g S u) args s 0 0 (gA g)) (F0 m 26 ls []) := by
    intro H locs ls h D hl
    unfold f_Mo_letterOrDigit_26 at h
    refine lv_iconst (v := 1) hx hb d_Mo_letterOrDigit_26 (by decide) ?_
    refine lv_goto hx hb d_Mo_letterOrDigit_27 rfl ?_
    exact x_zrp C D h d_Mo_letterOrDigit_31
  have B19 : ∀ (H : Heap) (locs : List Loc) (ls : Array Slot) (a0 : Int32), f_Mo_letterOrDigit_19 a0 S = some u → Dy g s S H locs → lv_has ls 1 [(0, .int a0)] → W p l e (rmD 1) s m args below meth c H locs 0 0 (MQ below (Qip g S u) args s 0 0 (gA g)) (F0 m 19 ls []) := by
    intro H locs ls a0 h D hl
    unfold f_Mo_letterOrDigit_19 at h
    refine lv_iload_n hx hb d_Mo_letterOrDigit_19 rfl (lv_at hl 0 rfl) ?_
    obtain ⟨u2, hu2, h⟩ := bd_some h
    refine x_cip (rest := []) (r_S C D (c_Mo_digit l g hD a0 S u2 hu2) wc_Mo_digit wm_Mo_63 wt_Mo_digit wd_Mo_digit rfl rfl hl (Nat.le_of_ble_eq_true rfl) (by decide) d_Mo_letterOrDigit_20) D (fun H locs D => ?_)
    refine lv_if_eq hx hb d_Mo_letterOrDigit_23 rfl (fun z => ?_) (fun z => ?_)
    · replace h := if_t z h
      refine lv_iconst (v := 0) hx hb d_Mo_letterOrDigit_30 (by decide) ?_
      exact x_zrp C D h d_Mo_letterOrDigit_31
    · replace h := if_f z h
      exact B26 _ _ _ h D (lv_sub hl [] rfl)
  unfold f_Mo_letterOrDigit at h
  refine lv_iload_n hx hb d_Mo_letterOrDigit_0 rfl (lv_at hl 0 rfl) ?_
  obtain ⟨u1, hu1, h⟩ := bd_some h
  refine x_cip (rest := []) (r_S C D (c_Mo_small l g hD a0 S u1 hu1) wc_Mo_small wm_Mo_60 wt_Mo_small wd_Mo_small rfl rfl hl (Nat.le_of_ble_eq_true rfl) (by decide) d_Mo_letterOrDigit_1) D (fun H locs D => ?_)
  refine lv_if_ne hx hb d_Mo_letterOrDigit_4 rfl (fun z => ?_) (fun z => ?_)
  · replace h := if_f z h
    exact B26 _ _ _ h D (lv_sub hl [] rfl)
  · replace h := if_t z h
    refine lv_iload_n hx hb d_Mo_letterOrDigit_7 rfl (lv_at hl 0 rfl) ?_
    refine lv_bipush (v := 65) hx hb d_Mo_letterOrDigit_8 (by decide) ?_
    refine lv_icmp_lt hx hb d_Mo_letterOrDigit_10 rfl (fun z => ?_) (fun z => ?_)
    · replace h := if_t z h
      exact B19 _ _ _ _ h D (lv_sub hl [0] rfl)
    · replace h := if_f z h
      refine lv_iload_n hx hb d_Mo_letterOrDigit_13 rfl (lv_at hl 0 rfl) ?_
      refine lv_bipush (v := 90) hx hb d_Mo_letterOrDigit_14 (by decide) ?_
      refine lv_icmp_le hx hb d_Mo_letterOrDigit_16 rfl (fun z => ?_) (fun z => ?_)
      · replace h := if_t z h
        exact B26 _ _ _ h D (lv_sub hl [] rfl)
      · replace h := if_f z h
        exact B19 _ _ _ _ h D (lv_sub hl [0] rfl)
theorem d_Mo_behind_0 : decode b_Mo_behind 0 = .ok (.aload_n 0, 1) := by decide +kernel
theorem d_Mo_behind_1 : decode b_Mo_behind 1 = .ok (.iload_n 1, 1) := by decide +kernel
theorem d_Mo_behind_2 : decode b_Mo_behind 2 = .ok (.iconst 1, 1) := by decide +kernel
theorem d_Mo_behind_3 : decode b_Mo_behind 3 = .ok (.iadd, 1) := by decide +kernel
theorem d_Mo_behind_4 : decode b_Mo_behind 4 = .ok (.invokevirtual 69, 3) := by decide +kernel
theorem d_Mo_behind_7 : decode b_Mo_behind 7 = .ok (.invokestatic 73, 3) := by decide +kernel
theorem d_Mo_behind_10 : decode b_Mo_behind 10 = .ok (.ifCond .eq 9, 3) := by decide +kernel
theorem d_Mo_behind_13 : decode b_Mo_behind 13 = .ok (.iload_n 1, 1) := by decide +kernel
theorem d_Mo_behind_14 : decode b_Mo_behind 14 = .ok (.iconst 2, 1) := by decide +kernel
theorem d_Mo_behind_15 : decode b_Mo_behind 15 = .ok (.iadd, 1) := by decide +kernel
theorem d_Mo_behind_16 : decode b_Mo_behind 16 = .ok (.goto 6, 3) := by decide +kernel
theorem d_Mo_behind_19 : decode b_Mo_behind 19 = .ok (.iload_n 1, 1) := by decide +kernel
theorem d_Mo_behind_20 : decode b_Mo_behind 20 = .ok (.iconst 1, 1) := by decide +kernel
theorem d_Mo_behind_21 : decode b_Mo_behind 21 = .ok (.iadd, 1) := by decide +kernel
theorem d_Mo_behind_22 : decode b_Mo_behind 22 = .ok (.istore_n 2, 1) := by decide +kernel
theorem d_Mo_behind_23 : decode b_Mo_behind 23 = .ok (.iconst 0, 1) := by decide +kernel
theorem d_Mo_behind_24 : decode b_Mo_behind 24 = .ok (.istore_n 3, 1) := by decide +kernel
theorem d_Mo_behind_25 : decode b_Mo_behind 25 = .ok (.iload_n 3, 1) := by decide +kernel
theorem d_Mo_behind_26 : decode b_Mo_behind 26 = .ok (.bipush 40, 2) := by decide +kernel
theorem d_Mo_behind_28 : decode b_Mo_behind 28 = .ok (.if_icmp .ge 109, 3) := by decide +kernel
theorem d_Mo_behind_31 : decode b_Mo_behind 31 = .ok (.aload_n 0, 1) := by decide +kernel
theorem d_Mo_behind_32 : decode b_Mo_behind 32 = .ok (.iload_n 2, 1) := by decide +kernel
theorem d_Mo_behind_33 : decode b_Mo_behind 33 = .ok (.invokevirtual 69, 3) := by decide +kernel
theorem d_Mo_behind_36 : decode b_Mo_behind 36 = .ok (.invokestatic 60, 3) := by decide +kernel
theorem d_Mo_behind_39 : decode b_Mo_behind 39 = .ok (.ifCond .ne 5, 3) := by decide +kernel
theorem d_Mo_behind_42 : decode b_Mo_behind 42 = .ok (.iconst (-1), 1) := by decide +kernel
theorem d_Mo_behind_43 : decode b_Mo_behind 43 = .ok (.ireturn, 1) := by decide +kernel
theorem d_Mo_behind_44 : decode b_Mo_behind 44 = .ok (.iinc 2 1, 3) := by decide +kernel
theorem d_Mo_behind_47 : decode b_Mo_behind 47 = .ok (.aload_n 0, 1) := by decide +kernel
theorem d_Mo_behind_48 : decode b_Mo_behind 48 = .ok (.iload_n 2, 1) := by decide +kernel
theorem d_Mo_behind_49 : decode b_Mo_behind 49 = .ok (.invokevirtual 69, 3) := by decide +kernel
theorem d_Mo_behind_52 : decode b_Mo_behind 52 = .ok (.bipush 42, 2) := by decide +kernel
theorem d_Mo_behind_54 : decode b_Mo_behind 54 = .ok (.if_icmp .ne 9, 3) := by decide +kernel
theorem d_Mo_behind_57 : decode b_Mo_behind 57 = .ok (.iinc 2 1, 3) := by decide +kernel
theorem d_Mo_behind_60 : decode b_Mo_behind 60 = .ok (.goto 42, 3) := by decide +kernel
theorem d_Mo_behind_63 : decode b_Mo_behind 63 = .ok (.aload_n 0, 1) := by decide +kernel
theorem d_Mo_behind_64 : decode b_Mo_behind 64 = .ok (.iload_n 2, 1) := by decide +kernel
theorem d_Mo_behind_65 : decode b_Mo_behind 65 = .ok (.invokevirtual 69, 3) := by decide +kernel
theorem d_Mo_behind_68 : decode b_Mo_behind 68 = .ok (.bipush 58, 2) := by decide +kernel
theorem d_Mo_behind_70 : decode b_Mo_behind 70 = .ok (.if_icmp .ne 32, 3) := by decide +kernel
theorem d_Mo_behind_73 : decode b_Mo_behind 73 = .ok (.aload_n 0, 1) := by decide +kernel
theorem d_Mo_behind_74 : decode b_Mo_behind 74 = .ok (.iload_n 2, 1) := by decide +kernel
theorem d_Mo_behind_75 : decode b_Mo_behind 75 = .ok (.iconst 1, 1) := by decide +kernel
theorem d_Mo_behind_76 : decode b_Mo_behind 76 = .ok (.iadd, 1) := by decide +kernel
theorem d_Mo_behind_77 : decode b_Mo_behind 77 = .ok (.invokevirtual 69, 3) := by decide +kernel
theorem d_Mo_behind_80 : decode b_Mo_behind 80 = .ok (.bipush 49, 2) := by decide +kernel
theorem d_Mo_behind_82 : decode b_Mo_behind 82 = .ok (.if_icmp .lt 15, 3) := by decide +kernel
theorem d_Mo_behind_85 : decode b_Mo_behind 85 = .ok (.aload_n 0, 1) := by decide +kernel
theorem d_Mo_behind_86 : decode b_Mo_behind 86 = .ok (.iload_n 2, 1) := by decide +kernel
theorem d_Mo_behind_87 : decode b_Mo_behind 87 = .ok (.iconst 1, 1) := by decide +kernel
theorem d_Mo_behind_88 : decode b_Mo_behind 88 = .ok (.iadd, 1) := by decide +kernel
theorem d_Mo_behind_89 : decode b_Mo_behind 89 = .ok (.invokevirtual 69, 3) := by decide +kernel
theorem d_Mo_behind_92 : decode b_Mo_behind 92 = .ok (.bipush 57, 2) := by decide +kernel
theorem d_Mo_behind_94 : decode b_Mo_behind 94 = .ok (.if_icmp .le 5, 3) := by decide +kernel
theorem d_Mo_behind_97 : decode b_Mo_behind 97 = .ok (.iconst (-1), 1) := by decide +kernel
theorem d_Mo_behind_98 : decode b_Mo_behind 98 = .ok (.ireturn, 1) := by decide +kernel
theorem d_Mo_behind_99 : decode b_Mo_behind 99 = .ok (.iinc 2 2, 3) := by decide +kernel
theorem d_Mo_behind_102 : decode b_Mo_behind 102 = .ok (.aload_n 0, 1) := by decide +kernel
theorem d_Mo_behind_103 : decode b_Mo_behind 103 = .ok (.iload_n 2, 1) := by decide +kernel
theorem d_Mo_behind_104 : decode b_Mo_behind 104 = .ok (.invokevirtual 69, 3) := by decide +kernel
theorem d_Mo_behind_107 : decode b_Mo_behind 107 = .ok (.bipush 125, 2) := by decide +kernel
theorem d_Mo_behind_109 : decode b_Mo_behind 109 = .ok (.if_icmp .ne 7, 3) := by decide +kernel
theorem d_Mo_behind_112 : decode b_Mo_behind 112 = .ok (.iload_n 2, 1) := by decide +kernel
theorem d_Mo_behind_113 : decode b_Mo_behind 113 = .ok (.iconst 1, 1) := by decide +kernel
theorem d_Mo_behind_114 : decode b_Mo_behind 114 = .ok (.iadd, 1) := by decide +kernel
theorem d_Mo_behind_115 : decode b_Mo_behind 115 = .ok (.ireturn, 1) := by decide +kernel
theorem d_Mo_behind_116 : decode b_Mo_behind 116 = .ok (.aload_n 0, 1) := by decide +kernel
theorem d_Mo_behind_117 : decode b_Mo_behind 117 = .ok (.iload_n 2, 1) := by decide +kernel
theorem d_Mo_behind_118 : decode b_Mo_behind 118 = .ok (.invokevirtual 69, 3) := by decide +kernel
theorem d_Mo_behind_121 : decode b_Mo_behind 121 = .ok (.bipush 44, 2) := by decide +kernel
theorem d_Mo_behind_123 : decode b_Mo_behind 123 = .ok (.if_icmp .eq 5, 3) := by decide +kernel
theorem d_Mo_behind_126 : decode b_Mo_behind 126 = .ok (.iconst (-1), 1) := by decide +kernel
theorem d_Mo_behind_127 : decode b_Mo_behind 127 = .ok (.ireturn, 1) := by decide +kernel
theorem d_Mo_behind_128 : decode b_Mo_behind 128 = .ok (.iinc 2 1, 3) := by decide +kernel
theorem d_Mo_behind_131 : decode b_Mo_behind 131 = .ok (.iinc 3 1, 3) := by decide +kernel
theorem d_Mo_behind_134 : decode b_Mo_behind 134 = .ok (.goto (-109), 3) := by decide +kernel
theorem d_Mo_behind_137 : decode b_Mo_behind 137 = .ok (.iconst (-1), 1) := by decide +kernel
theorem d_Mo_behind_138 : decode b_Mo_behind 138 = .ok (.ireturn, 1) := by decide +kernel
def f_Mo_behind_102 (K25 : Int32 → Int32 → zSt → Option Int32) (a2 : Int32) (a3 : Int32) (S : zSt) : Option Int32 := ((f_Mo_character a2 S).bind fun u7 => (if u7 = 125 then (some (a2 + 1)) else ((f_Mo_character a2 S).bind fun u8 => (if u8 = 44 then (K25 (a2 + 1) (a3 + 1) S) else (some (-1))))))
def f_Mo_behind_25 : Nat → Int32 → Int32 → zSt → Option Int32
  | 0, _, _, _ => none
  | n + 1, a2, a3, S => (if 40 ≤ a3 then (some (-1)) else ((f_Mo_character a2 S).bind fun u3 => ((f_Mo_small u3 S).bind fun u4 => (if u4 = 0 then (some (-1)) else ((f_Mo_character (a2 + 1) S).bind fun u5 => (if u5 = 42 then (f_Mo_behind_102 (f_Mo_behind_25 n) ((a2 + 1) + 1) a3 S) else ((f_Mo_character (a2 + 1) S).bind fun u6 => (if u6 = 58 then ((f_Mo_character ((a2 + 1) + 1) S).bind fun u9 => (if u9 < 49 then (some (-1)) else ((f_Mo_character ((a2 + 1) + 1) S).bind fun u10 => (if u10 ≤ 57 then (f_Mo_behind_102 (f_Mo_behind_25 n) ((a2 + 1) + 2) a3 S) else (some (-1)))))) else (f_Mo_behind_102 (f_Mo_behind_25 n) (a2 + 1) a3 S)))))))))
def f_Mo_behind_22 (t0 : Int32) (S : zSt) : Option Int32 := (f_Mo_behind_25 fu t0 0 S)
def f_Mo_behind (a1 : Int32) (S : zSt) : Option Int32 := ((f_Mo_character (a1 + 1) S).bind fun u1 => ((f_Mo_operator u1 S).bind fun u2 => (if u2 = 0 then (f_Mo_behind_22 (a1 + 1) S) else (f_Mo_behind_22 (a1 + 2) S))))
set_option maxHeartbeats 4000000 in
set_option maxRecDepth 100000 in
theorem c_Mo_behind (l : Launch) (g : zG) (hD : GD g) (a1 : Int32) (S : zSt) (u : Int32) (h : f_Mo_behind a1 S = some u) : Met l y_Mo_behind (mw y_Mo_behind b_Mo_behind 4 (some .int)) (rmD 1) (Pw g [.ref (ga g 66), .int a1] S) (Qip g S u) 0 0 (gA g) := by
  refine z_go (own := R_Mo) (lv0 := [(0, .ref (ga g 66)), (1, .int a1)]) hD (by decide) rfl (Nat.le_of_ble_eq_true rfl) rfl ?_
  intro p e s m args below meth c C D ls hl
  have hx := C.1
  have hb := C.2.1
  have hown := C.2.2.2.1
  have hts := C.2.2.2.2.1
  have B102 : ∀ (K25 : Int32 → Int32 → zSt → Option Int32) (hK25 : ∀ (H : Heap) (locs : List Loc) (ls : Array Slot) (a2 : Int32) (a3 : Int32), K25 a2 a3 S = some u → Dy g s S H locs → lv_has ls 4 [(0, .ref (ga g 66)), (2, .int a2), (3, .int a3)] → W p l e (rmD 1) s m args below meth c H locs 0 0 (MQ below (Qip g S u) args s 0 0 (gA g)) (F0 m 25 ls [])) (H : Heap) (locs : List Loc) (ls : Array Slot) (a2 : Int32) (a3 : Int32), f_Mo_behind_102 K25 a2 a3 S = some u → Dy g s S H locs → lv_has ls 4 [(0, .ref (ga g 66)), (2, .int a2), (3, .int a3)] → W p l e (rmD 1) s m args below meth c H locs 0 0 (MQ below (Qip g S u) args s 0 0 (gA g)) (F0 m 102 ls []) := by
    intro K25 hK25 H locs ls a2 a3 h D hl
    unfold f_Mo_behind_102 at h
    refine lv_aload_n hx hb d_Mo_behind_102 rfl (lv_at hl 0 rfl) ?_
    refine lv_iload_n hx hb d_Mo_behind_103 rfl (lv_at hl 1 rfl) ?_
    obtain ⟨u7, hu7, h⟩ := bd_some h
    refine x_cip (rest := []) (r_V C D (c_Mo_character l g hD a2 S u7 hu7) wc_Mo_character wm_Mo_69 wi_Mo_character wd_Mo_character (by decide) sh_66 kc_Mo.1 rfl rfl hl (Nat.le_of_ble_eq_true rfl) (by decide) d_Mo_behind_104) D (fun H locs D => ?_)
    refine lv_bipush (v := 125) hx hb d_Mo_behind_107 (by decide) ?_
    refine lv_icmp_ne hx hb d_Mo_behind_109 rfl (fun z => ?_) (fun z => ?_)
    · replace h := if_f z h
      refine lv_aload_n hx hb d_Mo_behind_116 rfl (lv_at hl 0 rfl) ?_
      refine lv_iload_n hx hb d_Mo_behind_117 rfl (lv_at hl 1 rfl) ?_
      obtain ⟨u8, hu8, h⟩ := bd_some h
      refine x_cip (rest := []) (r_V C D (c_Mo_character l g hD a2 S u8 hu8) wc_Mo_character wm_Mo_69 wi_Mo_character wd_Mo_character (by decide) sh_66 kc_Mo.1 rfl rfl hl (Nat.le_of_ble_eq_true rfl) (by decide) d_Mo_behind_118) D (fun H locs D => ?_)
      refine lv_bipush (v := 44) hx hb d_Mo_behind_121 (by decide) ?_
      refine lv_icmp_eq hx hb d_Mo_behind_123 rfl (fun z => ?_) (fun z => ?_)
      · replace h := if_t z h
        refine lv_iinc (k := 1) (lv' := [(2, .int (a2 + 1)), (0, .ref (ga g 66)), (3, .int a3)]) hx hb d_Mo_behind_128 hl rfl (ii1 _) (by decide) rfl (fun ls hl => ?_)
        refine lv_iinc (k := 2) (lv' := [(3, .int (a3 + 1)), (2, .int (a2 + 1)), (0, .ref (ga g 66))]) hx hb d_Mo_behind_131 hl rfl (ii1 _) (by decide) rfl (fun ls hl => ?_)
        refine lv_goto hx hb d_Mo_behind_134 rfl ?_
        exact hK25 _ _ _ _ _ h D (lv_sub hl [2, 1, 0] rfl)
      · replace h := if_f z h
        refine lv_iconst (v := (-1)) hx hb d_Mo_behind_126 (by decide) ?_
        exact x_irp C D h d_Mo_behind_127
    · replace h := if_t z h
      refine lv_iload_n hx hb d_Mo_behind_112 rfl (lv_at hl 1 rfl) ?_
      refine lv_iconst (v := 1) hx hb d_Mo_behind_113 (by decide) ?_
      refine lv_iadd hx hb d_Mo_behind_114 ?_
      exact x_irp C D h d_Mo_behind_115
  have L25 : ∀ (n : Nat) (H : Heap) (locs : List Loc) (ls : Array Slot) (a2 : Int32) (a3 : Int32), f_Mo_behind_25 n a2 a3 S = some u → Dy g s S H locs → lv_has ls 4 [(0, .ref (ga g 66)), (2, .int a2), (3, .int a3)] → W p l e (rmD 1) s m args below meth c H locs 0 0 (MQ below (Qip g S u) args s 0 0 (gA g)) (F0 m 25 ls []) := by
    intro n
    induction n with
    | zero => intro H locs ls a2 a3 h D hl; rw [f_Mo_behind_25] at h; cases h
    | succ n hK25 =>
      intro H locs ls a2 a3 h D hl
      rw [f_Mo_behind_25] at h
      refine lv_iload_n hx hb d_Mo_behind_25 rfl (lv_at hl 2 rfl) ?_
      refine lv_bipush (v := 40) hx hb d_Mo_behind_26 (by decide) ?_
      refine lv_icmp_ge hx hb d_Mo_behind_28 rfl (fun z => ?_) (fun z => ?_)
      · replace h := if_t z h
        refine lv_iconst (v := (-1)) hx hb d_Mo_behind_137 (by decide) ?_
        exact x_irp C D h d_Mo_behind_138
      · replace h := if_f z h
        refine lv_aload_n hx hb d_Mo_behind_31 rfl (lv_at hl 0 rfl) ?_
        refine lv_iload_n hx hb d_Mo_behind_32 rfl (lv_at hl 1 rfl) ?_
        obtain ⟨u3, hu3, h⟩ := bd_some h
        refine x_cip (rest := []) (r_V C D (c_Mo_character l g hD a2 S u3 hu3) wc_Mo_character wm_Mo_69 wi_Mo_character wd_Mo_character (by decide) sh_66 kc_Mo.1 rfl rfl hl (Nat.le_of_ble_eq_true rfl) (by decide) d_Mo_behind_33) D (fun H locs D => ?_)
        obtain ⟨u4, hu4, h⟩ := bd_some h
        refine x_cip (rest := []) (r_S C D (c_Mo_small l g hD u3 S u4 hu4) wc_Mo_small wm_Mo_60 wt_Mo_small wd_Mo_small rfl rfl hl (Nat.le_of_ble_eq_true rfl) (by decide) d_Mo_behind_36) D (fun H locs D => ?_)
        refine lv_if_ne hx hb d_Mo_behind_39 rfl (fun z => ?_) (fun z => ?_)
        · replace h := if_f z h
          refine lv_iinc (k := 1) (lv' := [(2, .int (a2 + 1)), (0, .ref (ga g 66)), (3, .int a3)]) hx hb d_Mo_behind_44 hl rfl (ii1 _) (by decide) rfl (fun ls hl => ?_)
          refine lv_aload_n hx hb d_Mo_behind_47 rfl (lv_at hl 1 rfl) ?_
          refine lv_iload_n hx hb d_Mo_behind_48 rfl (lv_at hl 0 rfl) ?_
          obtain ⟨u5, hu5, h⟩ := bd_some h
          refine x_cip (rest := []) (r_V C D (c_Mo_character l g hD (a2 + 1) S u5 hu5) wc_Mo_character wm_Mo_69 wi_Mo_character wd_Mo_character (by decide) sh_66 kc_Mo.1 rfl rfl hl (Nat.le_of_ble_eq_true rfl) (by decide) d_Mo_behind_49) D (fun H locs D => ?_)
          refine lv_bipush (v := 42) hx hb d_Mo_behind_52 (by decide) ?_
          refine lv_icmp_ne hx hb d_Mo_behind_54 rfl (fun z => ?_) (fun z => ?_)
          · replace h := if_f z h
            refine lv_aload_n hx hb d_Mo_behind_63 rfl (lv_at hl 1 rfl) ?_
            refine lv_iload_n hx hb d_Mo_behind_64 rfl (lv_at hl 0 rfl) ?_
            obtain ⟨u6, hu6, h⟩ := bd_some h
            refine x_cip (rest := []) (r_V C D (c_Mo_character l g hD (a2 + 1) S u6 hu6) wc_Mo_character wm_Mo_69 wi_Mo_character wd_Mo_character (by decide) sh_66 kc_Mo.1 rfl rfl hl (Nat.le_of_ble_eq_true rfl) (by decide) d_Mo_behind_65) D (fun H locs D => ?_)
            refine lv_bipush (v := 58) hx hb d_Mo_behind_68 (by decide) ?_
            refine lv_icmp_ne hx hb d_Mo_behind_70 rfl (fun z => ?_) (fun z => ?_)
            · replace h := if_f z h
              exact B102 _ hK25 _ _ _ _ _ h D (lv_sub hl [1, 0, 2] rfl)
            · replace h := if_t z h
              refine lv_aload_n hx hb d_Mo_behind_73 rfl (lv_at hl 1 rfl) ?_
              refine lv_iload_n hx hb d_Mo_behind_74 rfl (lv_at hl 0 rfl) ?_
              refine lv_iconst (v := 1) hx hb d_Mo_behind_75 (by decide) ?_
              refine lv_iadd hx hb d_Mo_behind_76 ?_
              obtain ⟨u9, hu9, h⟩ := bd_some h
              refine x_cip (rest := []) (r_V C D (c_Mo_character l g hD ((a2 + 1) + 1) S u9 hu9) wc_Mo_character wm_Mo_69 wi_Mo_character wd_Mo_character (by decide) sh_66 kc_Mo.1 rfl rfl hl (Nat.le_of_ble_eq_true rfl) (by decide) d_Mo_behind_77) D (fun H locs D => ?_)
              refine lv_bipush (v := 49) hx hb d_Mo_behind_80 (by decide) ?_
              refine lv_icmp_lt hx hb d_Mo_behind_82 rfl (fun z => ?_) (fun z => ?_)
              · replace h := if_t z h
                refine lv_iconst (v := (-1)) hx hb d_Mo_behind_97 (by decide) ?_
                exact x_irp C D h d_Mo_behind_98
              · replace h := if_f z h
                refine lv_aload_n hx hb d_Mo_behind_85 rfl (lv_at hl 1 rfl) ?_
                refine lv_iload_n hx hb d_Mo_behind_86 rfl (lv_at hl 0 rfl) ?_
                refine lv_iconst (v := 1) hx hb d_Mo_behind_87 (by decide) ?_
                refine lv_iadd hx hb d_Mo_behind_88 ?_
                obtain ⟨u10, hu10, h⟩ := bd_some h
                refine x_cip (rest := []) (r_V C D (c_Mo_character l g hD ((a2 + 1) + 1) S u10 hu10) wc_Mo_character wm_Mo_69 wi_Mo_character wd_Mo_character (by decide) sh_66 kc_Mo.1 rfl rfl hl (Nat.le_of_ble_eq_true rfl) (by decide) d_Mo_behind_89) D (fun H locs D => ?_)
                refine lv_bipush (v := 57) hx hb d_Mo_behind_92 (by decide) ?_
                refine lv_icmp_le hx hb d_Mo_behind_94 rfl (fun z => ?_) (fun z => ?_)
                · replace h := if_t z h
                  refine lv_iinc (k := 0) (lv' := [(2, .int ((a2 + 1) + 2)), (0, .ref (ga g 66)), (3, .int a3)]) hx hb d_Mo_behind_99 hl rfl (ii2 _) (by decide) rfl (fun ls hl => ?_)
                  exact B102 _ hK25 _ _ _ _ _ h D (lv_sub hl [1, 0, 2] rfl)
                · replace h := if_f z h
                  refine lv_iconst (v := (-1)) hx hb d_Mo_behind_97 (by decide) ?_
                  exact x_irp C D h d_Mo_behind_98
          · replace h := if_t z h
            refine lv_iinc (k := 0) (lv' := [(2, .int ((a2 + 1) + 1)), (0, .ref (ga g 66)), (3, .int a3)]) hx hb d_Mo_behind_57 hl rfl (ii1 _) (by decide) rfl (fun ls hl => ?_)
            refine lv_goto hx hb d_Mo_behind_60 rfl ?_
            exact B102 _ hK25 _ _ _ _ _ h D (lv_sub hl [1, 0, 2] rfl)
        · replace h := if_t z h
          refine lv_iconst (v := (-1)) hx hb d_Mo_behind_42 (by decide) ?_
          exact x_irp C D h d_Mo_behind_43
  have B22 : ∀ (H : Heap) (locs : List Loc) (ls : Array Slot) (t0 : Int32), f_Mo_behind_22 t0 S = some u → Dy g s S H locs → lv_has ls 4 [(0, .ref (ga g 66))] → W p l e (rmD 1) s m args below meth c H locs 0 0 (MQ below (Qip g S u) args s 0 0 (gA g)) (F0 m 22 ls [.int t0]) := by
    intro H locs ls t0 h D hl
    unfold f_Mo_behind_22 at h
    refine lv_istore_n (lv' := [(2, .int t0), (0, .ref (ga g 66))]) hx hb d_Mo_behind_22 rfl hl (by decide) rfl (fun ls hl => ?_)
    refine lv_iconst (v := 0) hx hb d_Mo_behind_23 (by decide) ?_
    refine lv_istore_n (lv' := [(3, .int 0), (2, .int t0), (0, .ref (ga g 66))]) hx hb d_Mo_behind_24 rfl hl (by decide) rfl (fun ls hl => ?_)
    exact L25 _ _ _ _ _ _ h D (lv_sub hl [2, 1, 0] rfl)
  unfold f_Mo_behind at h
  refine lv_aload_n hx hb d_Mo_behind_0 rfl (lv_at hl 0 rfl) ?_
  refine lv_iload_n hx hb d_Mo_behind_1 rfl (lv_at hl 1 rfl) ?_
  refine lv_iconst (v := 1) hx hb d_Mo_behind_2 (by decide) ?_
  refine lv_iadd hx hb d_Mo_behind_3 ?_
  obtain ⟨u1, hu1, h⟩ := bd_some h
  refine x_cip (rest := []) (r_V C D (c_Mo_character l g hD (a1 + 1) S u1 hu1) wc_Mo_character wm_Mo_69 wi_Mo_character wd_Mo_character (by decide) sh_66 kc_Mo.1 rfl rfl hl (Nat.le_of_ble_eq_true rfl) (by decide) d_Mo_behind_4) D (fun H locs D => ?_)
  obtain ⟨u2, hu2, h⟩ := bd_some h
  refine x_cip (rest := []) (r_S C D (c_Mo_operator l g hD u1 S u2 hu2) wc_Mo_operator wm_Mo_73 wt_Mo_operator wd_Mo_operator rfl rfl hl (Nat.le_of_ble_eq_true rfl) (by decide) d_Mo_behind_7) D (fun H locs D => ?_)
  refine lv_if_eq hx hb d_Mo_behind_10 rfl (fun z => ?_) (fun z => ?_)
  · replace h := if_t z h
    refine lv_iload_n hx hb d_Mo_behind_19 rfl (lv_at hl 1 rfl) ?_
    refine lv_iconst (v := 1) hx hb d_Mo_behind_20 (by decide) ?_
    refine lv_iadd hx hb d_Mo_behind_21 ?_
    exact B22 _ _ _ _ h D (lv_sub hl [0] rfl)
  · replace h := if_f z h
    refine lv_iload_n hx hb d_Mo_behind_13 rfl (lv_at hl 1 rfl) ?_
    refine lv_iconst (v := 2) hx hb d_Mo_behind_14 (by decide) ?_
    refine lv_iadd hx hb d_Mo_behind_15 ?_
    refine lv_goto hx hb d_Mo_behind_16 rfl ?_
    exact B22 _ _ _ _ h D (lv_sub hl [0] rfl)
theorem d_Mo_variableAt_0 : decode b_Mo_variableAt 0 = .ok (.iconst 0, 1) := by decide +kernel
theorem d_Mo_variableAt_1 : decode b_Mo_variableAt 1 = .ok (.istore_n 2, 1) := by decide +kernel
theorem d_Mo_variableAt_2 : decode b_Mo_variableAt 2 = .ok (.iconst 0, 1) := by decide +kernel
theorem d_Mo_variableAt_3 : decode b_Mo_variableAt 3 = .ok (.istore_n 3, 1) := by decide +kernel
theorem d_Mo_variableAt_4 : decode b_Mo_variableAt 4 = .ok (.iload_n 3, 1) := by decide +kernel
theorem d_Mo_variableAt_5 : decode b_Mo_variableAt 5 = .ok (.iload_n 1, 1) := by decide +kernel
theorem d_Mo_variableAt_6 : decode b_Mo_variableAt 6 = .ok (.if_icmp .ge 41, 3) := by decide +kernel
theorem d_Mo_variableAt_9 : decode b_Mo_variableAt 9 = .ok (.aload_n 0, 1) := by decide +kernel
theorem d_Mo_variableAt_10 : decode b_Mo_variableAt 10 = .ok (.getfield 7, 3) := by decide +kernel
theorem d_Mo_variableAt_13 : decode b_Mo_variableAt 13 = .ok (.iload_n 3, 1) := by decide +kernel
theorem d_Mo_variableAt_14 : decode b_Mo_variableAt 14 = .ok (.iaload, 1) := by decide +kernel
theorem d_Mo_variableAt_15 : decode b_Mo_variableAt 15 = .ok (.bipush 123, 2) := by decide +kernel
theorem d_Mo_variableAt_17 : decode b_Mo_variableAt 17 = .ok (.if_icmp .eq 18, 3) := by decide +kernel
theorem d_Mo_variableAt_20 : decode b_Mo_variableAt 20 = .ok (.iload_n 2, 1) := by decide +kernel
theorem d_Mo_variableAt_21 : decode b_Mo_variableAt 21 = .ok (.ifCond .eq 18, 3) := by decide +kernel
theorem d_Mo_variableAt_24 : decode b_Mo_variableAt 24 = .ok (.aload_n 0, 1) := by decide +kernel
theorem d_Mo_variableAt_25 : decode b_Mo_variableAt 25 = .ok (.getfield 7, 3) := by decide +kernel
theorem d_Mo_variableAt_28 : decode b_Mo_variableAt 28 = .ok (.iload_n 3, 1) := by decide +kernel
theorem d_Mo_variableAt_29 : decode b_Mo_variableAt 29 = .ok (.iaload, 1) := by decide +kernel
theorem d_Mo_variableAt_30 : decode b_Mo_variableAt 30 = .ok (.bipush 125, 2) := by decide +kernel
theorem d_Mo_variableAt_32 : decode b_Mo_variableAt 32 = .ok (.if_icmp .eq 7, 3) := by decide +kernel
theorem d_Mo_variableAt_35 : decode b_Mo_variableAt 35 = .ok (.iconst 1, 1) := by decide +kernel
theorem d_Mo_variableAt_36 : decode b_Mo_variableAt 36 = .ok (.goto 4, 3) := by decide +kernel
theorem d_Mo_variableAt_39 : decode b_Mo_variableAt 39 = .ok (.iconst 0, 1) := by decide +kernel
theorem d_Mo_variableAt_40 : decode b_Mo_variableAt 40 = .ok (.istore_n 2, 1) := by decide +kernel
theorem d_Mo_variableAt_41 : decode b_Mo_variableAt 41 = .ok (.iinc 3 1, 3) := by decide +kernel
theorem d_Mo_variableAt_44 : decode b_Mo_variableAt 44 = .ok (.goto (-40), 3) := by decide +kernel
theorem d_Mo_variableAt_47 : decode b_Mo_variableAt 47 = .ok (.iload_n 2, 1) := by decide +kernel
theorem d_Mo_variableAt_48 : decode b_Mo_variableAt 48 = .ok (.ifCond .eq 18, 3) := by decide +kernel
theorem d_Mo_variableAt_51 : decode b_Mo_variableAt 51 = .ok (.aload_n 0, 1) := by decide +kernel
theorem d_Mo_variableAt_52 : decode b_Mo_variableAt 52 = .ok (.iload_n 1, 1) := by decide +kernel
theorem d_Mo_variableAt_53 : decode b_Mo_variableAt 53 = .ok (.invokevirtual 69, 3) := by decide +kernel
theorem d_Mo_variableAt_56 : decode b_Mo_variableAt 56 = .ok (.invokestatic 60, 3) := by decide +kernel
theorem d_Mo_variableAt_59 : decode b_Mo_variableAt 59 = .ok (.ifCond .eq 7, 3) := by decide +kernel
theorem d_Mo_variableAt_62 : decode b_Mo_variableAt 62 = .ok (.iconst 1, 1) := by decide +kernel
theorem d_Mo_variableAt_63 : decode b_Mo_variableAt 63 = .ok (.goto 4, 3) := by decide +kernel
theorem d_Mo_variableAt_66 : decode b_Mo_variableAt 66 = .ok (.iconst 0, 1) := by decide +kernel
theorem d_Mo_variableAt_67 : decode b_Mo_variableAt 67 = .ok (.ireturn, 1) := by decide +kernel
def f_Mo_variableAt_66 (S : zSt) : Option Int32 := (gdb 0 (some 0))
def f_Mo_variableAt_40 (K4 : Int32 → Int32 → Int32 → zSt → Option Int32) (a1 : Int32) (a3 : Int32) (t0 : Int32) (S : zSt) : Option Int32 := (K4 a1 t0 (a3 + 1) S)
def f_Mo_variableAt_35 (K4 : Int32 → Int32 → Int32 → zSt → Option Int32) (a1 : Int32) (a3 : Int32) (S : zSt) : Option Int32 := (f_Mo_variableAt_40 K4 a1 a3 1 S)
def f_Mo_variableAt_39 (K4 : Int32 → Int32 → Int32 → zSt → Option Int32) (a1 : Int32) (a3 : Int32) (S : zSt) : Option Int32 := (f_Mo_variableAt_40 K4 a1 a3 0 S)
def f_Mo_variableAt_4 : Nat → Int32 → Int32 → Int32 → zSt → Option Int32
  | 0, _, _, _, _ => none
  | n + 1, a1, a2, a3, S => (if a1 ≤ a3 then (if a2 = 0 then (f_Mo_variableAt_66 S) else ((f_Mo_character a1 S).bind fun u1 => ((f_Mo_small u1 S).bind fun u2 => (if u2 = 0 then (f_Mo_variableAt_66 S) else (gdb 1 (some 1)))))) else gdi a3 40 ((if (S 67 a3.toNatClampNeg) = 123 then (f_Mo_variableAt_35 (f_Mo_variableAt_4 n) a1 a3 S) else (if a2 = 0 then (f_Mo_variableAt_39 (f_Mo_variableAt_4 n) a1 a3 S) else gdi a3 40 ((if (S 67 a3.toNatClampNeg) = 125 then (f_Mo_variableAt_39 (f_Mo_variableAt_4 n) a1 a3 S) else (f_Mo_variableAt_35 (f_Mo_variableAt_4 n) a1 a3 S)))))))
def f_Mo_variableAt (a1 : Int32) (S : zSt) : Option Int32 := (f_Mo_variableAt_4 fu a1 0 0 S)
set_option maxHeartbeats 4000000 in
set_option maxRecDepth 100000 in
theorem c_Mo_variableAt (l : Launch) (g : zG) (hD : GD g) (a1 : Int32) (S : zSt) (u : Int32) (h : f_Mo_variableAt a1 S = some u) : Met l y_Mo_variableAt (mw y_Mo_variableAt b_Mo_variableAt 4 (some .boolean)) (rmD 1) (Pw g [.ref (ga g 66), .int a1] S) (Qip g S u) 0 0 (gA g) := by
  refine z_go (own := R_Mo) (lv0 := [(0, .ref (ga g 66)), (1, .int a1)]) hD (by decide) rfl (Nat.le_of_ble_eq_true rfl) rfl ?_
  intro p e s m args below meth c C D ls hl
  have hx := C.1
  have hb := C.2.1
  have hown := C.2.2.2.1
  have hts := C.2.2.2.2.1
  have B66 : ∀ (H : Heap) (locs : List Loc) (ls : Array Slot), f_Mo_variableAt_66 S = some u → Dy g s S H locs → lv_has ls 4 [] → W p l e (rmD 1) s m args below meth c H locs 0 0 (MQ below (Qip g S u) args s 0 0 (gA g)) (F0 m 66 ls []) := by
    intro H locs ls h D hl
    unfold f_Mo_variableAt_66 at h
    refine lv_iconst (v := 0) hx hb d_Mo_variableAt_66 (by decide) ?_
    exact x_zrp C D h d_Mo_variableAt_67
  have B40 : ∀ (K4 : Int32 → Int32 → Int32 → zSt → Option Int32) (hK4 : ∀ (H : Heap) (locs : List Loc) (ls : Array Slot) (a1 : Int32) (a2 : Int32) (a3 : Int32), K4 a1 a2 a3 S = some u → Dy g s S H locs → lv_has ls 4 [(0, .ref (ga g 66)), (1, .int a1), (2, .int a2), (3, .int a3)] → W p l e (rmD 1) s m args below meth c H locs 0 0 (MQ below (Qip g S u) args s 0 0 (gA g)) (F0 m 4 ls [])) (H : Heap) (locs : List Loc) (ls : Array Slot) (a1 : Int32) (a3 : Int32) (t0 : Int32), f_Mo_variableAt_40 K4 a1 a3 t0 S = some u → Dy g s S H locs → lv_has ls 4 [(0, .ref (ga g 66)), (1, .int a1), (3, .int a3)] → W p l e (rmD 1) s m args below meth c H locs 0 0 (MQ below (Qip g S u) args s 0 0 (gA g)) (F0 m 40 ls [.int t0]) := by
    intro K4 hK4 H locs ls a1 a3 t0 h D hl
    unfold f_Mo_variableAt_40 at h
    refine lv_istore_n (lv' := [(2, .int t0), (0, .ref (ga g 66)), (1, .int a1), (3, .int a3)]) hx hb d_Mo_variableAt_40 rfl hl (by decide) rfl (fun ls hl => ?_)
    refine lv_iinc (k := 3) (lv' := [(3, .int (a3 + 1)), (2, .int t0), (0, .ref (ga g 66)), (1, .int a1)]) hx hb d_Mo_variableAt_41 hl rfl (ii1 _) (by decide) rfl (fun ls hl => ?_)
    refine lv_goto hx hb d_Mo_variableAt_44 rfl ?_
    exact hK4 _ _ _ _ _ _ h D (lv_sub hl [2, 3, 1, 0] rfl)
  have B35 : ∀ (K4 : Int32 → Int32 → Int32 → zSt → Option Int32) (hK4 : ∀ (H : Heap) (locs : List Loc) (ls : Array Slot) (a1 : Int32) (a2 : Int32) (a3 : Int32), K4 a1 a2 a3 S = some u → Dy g s S H locs → lv_has ls 4 [(0, .ref (ga g 66)), (1, .int a1), (2, .int a2), (3, .int a3)] → W p l e (rmD 1) s m args below meth c H locs 0 0 (MQ below (Qip g S u) args s 0 0 (gA g)) (F0 m 4 ls [])) (H : Heap) (locs : List Loc) (ls : Array Slot) (a1 : Int32) (a3 : Int32), f_Mo_variableAt_35 K4 a1 a3 S = some u → Dy g s S H locs → lv_has ls 4 [(0, .ref (ga g 66)), (1, .int a1), (3, .int a3)] → W p l e (rmD 1) s m args below meth c H locs 0 0 (MQ below (Qip g S u) args s 0 0 (gA g)) (F0 m 35 ls []) := by
    intro K4 hK4 H locs ls a1 a3 h D hl
    unfold f_Mo_variableAt_35 at h
    refine lv_iconst (v := 1) hx hb d_Mo_variableAt_35 (by decide) ?_
    refine lv_goto hx hb d_Mo_variableAt_36 rfl ?_
    exact B40 _ hK4 _ _ _ _ _ _ h D (lv_sub hl [0, 1, 2] rfl)
  have B39 : ∀ (K4 : Int32 → Int32 → Int32 → zSt → Option Int32) (hK4 : ∀ (H : Heap) (locs : List Loc) (ls : Array Slot) (a1 : Int32) (a2 : Int32) (a3 : Int32), K4 a1 a2 a3 S = some u → Dy g s S H locs → lv_has ls 4 [(0, .ref (ga g 66)), (1, .int a1), (2, .int a2), (3, .int a3)] → W p l e (rmD 1) s m args below meth c H locs 0 0 (MQ below (Qip g S u) args s 0 0 (gA g)) (F0 m 4 ls [])) (H : Heap) (locs : List Loc) (ls : Array Slot) (a1 : Int32) (a3 : Int32), f_Mo_variableAt_39 K4 a1 a3 S = some u → Dy g s S H locs → lv_has ls 4 [(0, .ref (ga g 66)), (1, .int a1), (3, .int a3)] → W p l e (rmD 1) s m args below meth c H locs 0 0 (MQ below (Qip g S u) args s 0 0 (gA g)) (F0 m 39 ls []) := by
    intro K4 hK4 H locs ls a1 a3 h D hl
    unfold f_Mo_variableAt_39 at h
    refine lv_iconst (v := 0) hx hb d_Mo_variableAt_39 (by decide) ?_
    exact B40 _ hK4 _ _ _ _ _ _ h D (lv_sub hl [0, 1, 2] rfl)
  have L4 : ∀ (n : Nat) (H : Heap) (locs : List Loc) (ls : Array Slot) (a1 : Int32) (a2 : Int32) (a3 : Int32), f_Mo_variableAt_4 n a1 a2 a3 S = some u → Dy g s S H locs → lv_has ls 4 [(0, .ref (ga g 66)), (1, .int a1), (2, .int a2), (3, .int a3)] → W p l e (rmD 1) s m args below meth c H locs 0 0 (MQ below (Qip g S u) args s 0 0 (gA g)) (F0 m 4 ls []) := by
    intro n
    induction n with
    | zero => intro H locs ls a1 a2 a3 h D hl; rw [f_Mo_variableAt_4] at h; cases h
    | succ n hK4 =>
      intro H locs ls a1 a2 a3 h D hl
      rw [f_Mo_variableAt_4] at h
      refine lv_iload_n hx hb d_Mo_variableAt_4 rfl (lv_at hl 3 rfl) ?_
      refine lv_iload_n hx hb d_Mo_variableAt_5 rfl (lv_at hl 1 rfl) ?_
      refine lv_icmp_ge hx hb d_Mo_variableAt_6 rfl (fun z => ?_) (fun z => ?_)
      · replace h := if_t z h
        refine lv_iload_n hx hb d_Mo_variableAt_47 rfl (lv_at hl 2 rfl) ?_
        refine lv_if_eq hx hb d_Mo_variableAt_48 rfl (fun z => ?_) (fun z => ?_)
        · replace h := if_t z h
          exact B66 _ _ _ h D (lv_sub hl [] rfl)
        · replace h := if_f z h
          refine lv_aload_n hx hb d_Mo_variableAt_51 rfl (lv_at hl 0 rfl) ?_
          refine lv_iload_n hx hb d_Mo_variableAt_52 rfl (lv_at hl 1 rfl) ?_
          obtain ⟨u1, hu1, h⟩ := bd_some h
          refine x_cip (rest := []) (r_V C D (c_Mo_character l g hD a1 S u1 hu1) wc_Mo_character wm_Mo_69 wi_Mo_character wd_Mo_character (by decide) sh_66 kc_Mo.1 rfl rfl hl (Nat.le_of_ble_eq_true rfl) (by decide) d_Mo_variableAt_53) D (fun H locs D => ?_)
          obtain ⟨u2, hu2, h⟩ := bd_some h
          refine x_cip (rest := []) (r_S C D (c_Mo_small l g hD u1 S u2 hu2) wc_Mo_small wm_Mo_60 wt_Mo_small wd_Mo_small rfl rfl hl (Nat.le_of_ble_eq_true rfl) (by decide) d_Mo_variableAt_56) D (fun H locs D => ?_)
          refine lv_if_eq hx hb d_Mo_variableAt_59 rfl (fun z => ?_) (fun z => ?_)
          · replace h := if_t z h
            exact B66 _ _ _ h D (lv_sub hl [] rfl)
          · replace h := if_f z h
            refine lv_iconst (v := 1) hx hb d_Mo_variableAt_62 (by decide) ?_
            refine lv_goto hx hb d_Mo_variableAt_63 rfl ?_
            exact x_zrp C D h d_Mo_variableAt_67
      · replace h := if_f z h
        refine lv_aload_n hx hb d_Mo_variableAt_9 rfl (lv_at hl 0 rfl) ?_
        refine x_get (v := .ref (ga g 67)) C D kc_Mo (by decide) sh_66 2 rfl (by decide) wf_Mo_7 rfl rfl d_Mo_variableAt_10 ?_
        refine lv_iload_n hx hb d_Mo_variableAt_13 rfl (lv_at hl 3 rfl) ?_
        refine x_iald C D (by decide) sh_67 d_Mo_variableAt_14 h (fun _ h => ?_)
        refine lv_bipush (v := 123) hx hb d_Mo_variableAt_15 (by decide) ?_
        refine lv_icmp_eq hx hb d_Mo_variableAt_17 rfl (fun z => ?_) (fun z => ?_)
        · replace h := if_t z h
          exact B35 _ hK4 _ _ _ _ _ h D (lv_sub hl [0, 1, 3] rfl)
        · replace h := if_f z h
          refine lv_iload_n hx hb d_Mo_variableAt_20 rfl (lv_at hl 2 rfl) ?_
          refine lv_if_eq hx hb d_Mo_variableAt_21 rfl (fun z => ?_) (fun z => ?_)
          · replace h := if_t z h
            exact B39 _ hK4 _ _ _ _ _ h D (lv_sub hl [0, 1, 3] rfl)
          · replace h := if_f z h
            refine lv_aload_n hx hb d_Mo_variableAt_24 rfl (lv_at hl 0 rfl) ?_
            refine x_get (v := .ref (ga g 67)) C D kc_Mo (by decide) sh_66 2 rfl (by decide) wf_Mo_7 rfl rfl d_Mo_variableAt_25 ?_
            refine lv_iload_n hx hb d_Mo_variableAt_28 rfl (lv_at hl 3 rfl) ?_
            refine x_iald C D (by decide) sh_67 d_Mo_variableAt_29 h (fun _ h => ?_)
            refine lv_bipush (v := 125) hx hb d_Mo_variableAt_30 (by decide) ?_
            refine lv_icmp_eq hx hb d_Mo_variableAt_32 rfl (fun z => ?_) (fun z => ?_)
            · replace h := if_t z h
              exact B39 _ hK4 _ _ _ _ _ h D (lv_sub hl [0, 1, 3] rfl)
            · replace h := if_f z h
              exact B35 _ hK4 _ _ _ _ _ h D (lv_sub hl [0, 1, 3] rfl)
  unfold f_Mo_variableAt at h
  refine lv_iconst (v := 0) hx hb d_Mo_variableAt_0 (by decide) ?_
  refine lv_istore_n (lv' := [(2, .int 0), (0, .ref (ga g 66)), (1, .int a1)]) hx hb d_Mo_variableAt_1 rfl hl (by decide) rfl (fun ls hl => ?_)
  refine lv_iconst (v := 0) hx hb d_Mo_variableAt_2 (by decide) ?_
  refine lv_istore_n (lv' := [(3, .int 0), (2, .int 0), (0, .ref (ga g 66)), (1, .int a1)]) hx hb d_Mo_variableAt_3 rfl hl (by decide) rfl (fun ls hl => ?_)
  exact L4 _ _ _ _ _ _ _ h D (lv_sub hl [2, 3, 1, 0] rfl)
