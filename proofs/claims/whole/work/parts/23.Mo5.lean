theorem d_Mo_chunkSize_0 : decode b_Mo_chunkSize 0 = .ok (.aload_n 0, 1) := by decide +kernel
theorem d_Mo_chunkSize_1 : decode b_Mo_chunkSize 1 = .ok (.getfield 231, 3) := by decide +kernel
theorem d_Mo_chunkSize_4 : decode b_Mo_chunkSize 4 = .ok (.istore_n 1, 1) := by decide +kernel
theorem d_Mo_chunkSize_5 : decode b_Mo_chunkSize 5 = .ok (.iconst 0, 1) := by decide +kernel
theorem d_Mo_chunkSize_6 : decode b_Mo_chunkSize 6 = .ok (.istore_n 2, 1) := by decide +kernel
theorem d_Mo_chunkSize_7 : decode b_Mo_chunkSize 7 = .ok (.iload_n 1, 1) := by decide +kernel
theorem d_Mo_chunkSize_8 : decode b_Mo_chunkSize 8 = .ok (.aload_n 0, 1) := by decide +kernel
theorem d_Mo_chunkSize_9 : decode b_Mo_chunkSize 9 = .ok (.getfield 237, 3) := by decide +kernel
theorem d_Mo_chunkSize_12 : decode b_Mo_chunkSize 12 = .ok (.if_icmp .ge 64, 3) := by decide +kernel
theorem d_Mo_chunkSize_15 : decode b_Mo_chunkSize 15 = .ok (.iload_n 1, 1) := by decide +kernel
theorem d_Mo_chunkSize_16 : decode b_Mo_chunkSize 16 = .ok (.aload_n 0, 1) := by decide +kernel
theorem d_Mo_chunkSize_17 : decode b_Mo_chunkSize 17 = .ok (.getfield 231, 3) := by decide +kernel
theorem d_Mo_chunkSize_20 : decode b_Mo_chunkSize 20 = .ok (.iconst 3, 1) := by decide +kernel
theorem d_Mo_chunkSize_21 : decode b_Mo_chunkSize 21 = .ok (.iadd, 1) := by decide +kernel
theorem d_Mo_chunkSize_22 : decode b_Mo_chunkSize 22 = .ok (.if_icmp .ge 54, 3) := by decide +kernel
theorem d_Mo_chunkSize_25 : decode b_Mo_chunkSize 25 = .ok (.aload_n 0, 1) := by decide +kernel
theorem d_Mo_chunkSize_26 : decode b_Mo_chunkSize 26 = .ok (.getfield 37, 3) := by decide +kernel
theorem d_Mo_chunkSize_29 : decode b_Mo_chunkSize 29 = .ok (.iload_n 1, 1) := by decide +kernel
theorem d_Mo_chunkSize_30 : decode b_Mo_chunkSize 30 = .ok (.iaload, 1) := by decide +kernel
theorem d_Mo_chunkSize_31 : decode b_Mo_chunkSize 31 = .ok (.invokestatic 155, 3) := by decide +kernel
theorem d_Mo_chunkSize_34 : decode b_Mo_chunkSize 34 = .ok (.ifCond .eq 42, 3) := by decide +kernel
theorem d_Mo_chunkSize_37 : decode b_Mo_chunkSize 37 = .ok (.aload_n 0, 1) := by decide +kernel
theorem d_Mo_chunkSize_38 : decode b_Mo_chunkSize 38 = .ok (.getfield 37, 3) := by decide +kernel
theorem d_Mo_chunkSize_41 : decode b_Mo_chunkSize 41 = .ok (.iload_n 1, 1) := by decide +kernel
theorem d_Mo_chunkSize_42 : decode b_Mo_chunkSize 42 = .ok (.iaload, 1) := by decide +kernel
theorem d_Mo_chunkSize_43 : decode b_Mo_chunkSize 43 = .ok (.invokestatic 240, 3) := by decide +kernel
theorem d_Mo_chunkSize_46 : decode b_Mo_chunkSize 46 = .ok (.istore_n 3, 1) := by decide +kernel
theorem d_Mo_chunkSize_47 : decode b_Mo_chunkSize 47 = .ok (.bipush 16, 2) := by decide +kernel
theorem d_Mo_chunkSize_49 : decode b_Mo_chunkSize 49 = .ok (.iload_n 2, 1) := by decide +kernel
theorem d_Mo_chunkSize_50 : decode b_Mo_chunkSize 50 = .ok (.imul, 1) := by decide +kernel
theorem d_Mo_chunkSize_51 : decode b_Mo_chunkSize 51 = .ok (.iload_n 3, 1) := by decide +kernel
theorem d_Mo_chunkSize_52 : decode b_Mo_chunkSize 52 = .ok (.bipush 97, 2) := by decide +kernel
theorem d_Mo_chunkSize_54 : decode b_Mo_chunkSize 54 = .ok (.if_icmp .ge 10, 3) := by decide +kernel
theorem d_Mo_chunkSize_57 : decode b_Mo_chunkSize 57 = .ok (.iload_n 3, 1) := by decide +kernel
theorem d_Mo_chunkSize_58 : decode b_Mo_chunkSize 58 = .ok (.bipush 48, 2) := by decide +kernel
theorem d_Mo_chunkSize_60 : decode b_Mo_chunkSize 60 = .ok (.isub, 1) := by decide +kernel
theorem d_Mo_chunkSize_61 : decode b_Mo_chunkSize 61 = .ok (.goto 7, 3) := by decide +kernel
theorem d_Mo_chunkSize_64 : decode b_Mo_chunkSize 64 = .ok (.iload_n 3, 1) := by decide +kernel
theorem d_Mo_chunkSize_65 : decode b_Mo_chunkSize 65 = .ok (.bipush 87, 2) := by decide +kernel
theorem d_Mo_chunkSize_67 : decode b_Mo_chunkSize 67 = .ok (.isub, 1) := by decide +kernel
theorem d_Mo_chunkSize_68 : decode b_Mo_chunkSize 68 = .ok (.iadd, 1) := by decide +kernel
theorem d_Mo_chunkSize_69 : decode b_Mo_chunkSize 69 = .ok (.istore_n 2, 1) := by decide +kernel
theorem d_Mo_chunkSize_70 : decode b_Mo_chunkSize 70 = .ok (.iinc 1 1, 3) := by decide +kernel
theorem d_Mo_chunkSize_73 : decode b_Mo_chunkSize 73 = .ok (.goto (-66), 3) := by decide +kernel
theorem d_Mo_chunkSize_76 : decode b_Mo_chunkSize 76 = .ok (.iload_n 1, 1) := by decide +kernel
theorem d_Mo_chunkSize_77 : decode b_Mo_chunkSize 77 = .ok (.aload_n 0, 1) := by decide +kernel
theorem d_Mo_chunkSize_78 : decode b_Mo_chunkSize 78 = .ok (.getfield 231, 3) := by decide +kernel
theorem d_Mo_chunkSize_81 : decode b_Mo_chunkSize 81 = .ok (.if_icmp .eq 22, 3) := by decide +kernel
theorem d_Mo_chunkSize_84 : decode b_Mo_chunkSize 84 = .ok (.iload_n 1, 1) := by decide +kernel
theorem d_Mo_chunkSize_85 : decode b_Mo_chunkSize 85 = .ok (.aload_n 0, 1) := by decide +kernel
theorem d_Mo_chunkSize_86 : decode b_Mo_chunkSize 86 = .ok (.getfield 237, 3) := by decide +kernel
theorem d_Mo_chunkSize_89 : decode b_Mo_chunkSize 89 = .ok (.if_icmp .ge 18, 3) := by decide +kernel
theorem d_Mo_chunkSize_92 : decode b_Mo_chunkSize 92 = .ok (.aload_n 0, 1) := by decide +kernel
theorem d_Mo_chunkSize_93 : decode b_Mo_chunkSize 93 = .ok (.getfield 37, 3) := by decide +kernel
theorem d_Mo_chunkSize_96 : decode b_Mo_chunkSize 96 = .ok (.iload_n 1, 1) := by decide +kernel
theorem d_Mo_chunkSize_97 : decode b_Mo_chunkSize 97 = .ok (.iaload, 1) := by decide +kernel
theorem d_Mo_chunkSize_98 : decode b_Mo_chunkSize 98 = .ok (.bipush 59, 2) := by decide +kernel
theorem d_Mo_chunkSize_100 : decode b_Mo_chunkSize 100 = .ok (.if_icmp .eq 7, 3) := by decide +kernel
theorem d_Mo_chunkSize_103 : decode b_Mo_chunkSize 103 = .ok (.iconst (-1), 1) := by decide +kernel
theorem d_Mo_chunkSize_104 : decode b_Mo_chunkSize 104 = .ok (.goto 4, 3) := by decide +kernel
theorem d_Mo_chunkSize_107 : decode b_Mo_chunkSize 107 = .ok (.iload_n 2, 1) := by decide +kernel
theorem d_Mo_chunkSize_108 : decode b_Mo_chunkSize 108 = .ok (.ireturn, 1) := by decide +kernel
def f_Mo_chunkSize_103 (S : zSt) : Option Int32 := (some (-1))
def f_Mo_chunkSize_107 (a2 : Int32) (S : zSt) : Option Int32 := (some a2)
def f_Mo_chunkSize_76 (a1 : Int32) (a2 : Int32) (S : zSt) : Option Int32 := (if a1 = (S 66 21) then (f_Mo_chunkSize_103 S) else (if (S 66 22) ≤ a1 then (f_Mo_chunkSize_107 a2 S) else gdi a1 520 ((if (S 76 a1.toNatClampNeg) = 59 then (f_Mo_chunkSize_107 a2 S) else (f_Mo_chunkSize_103 S)))))
def f_Mo_chunkSize_68 (K7 : Int32 → Int32 → zSt → Option Int32) (a1 : Int32) (t0 : Int32) (t1 : Int32) (S : zSt) : Option Int32 := (K7 (a1 + 1) (t1 + t0) S)
def f_Mo_chunkSize_7 : Nat → Int32 → Int32 → zSt → Option Int32
  | 0, _, _, _ => none
  | n + 1, a1, a2, S => (if (S 66 22) ≤ a1 then (f_Mo_chunkSize_76 a1 a2 S) else (if ((S 66 21) + 3) ≤ a1 then (f_Mo_chunkSize_76 a1 a2 S) else gdi a1 520 (((f_Mo_hex (S 76 a1.toNatClampNeg) S).bind fun u1 => (if u1 = 0 then (f_Mo_chunkSize_76 a1 a2 S) else gdi a1 520 (((f_Mo_lower (S 76 a1.toNatClampNeg) S).bind fun u2 => (if 97 ≤ u2 then (f_Mo_chunkSize_68 (f_Mo_chunkSize_7 n) a1 (u2 - 87) (16 * a2) S) else (f_Mo_chunkSize_68 (f_Mo_chunkSize_7 n) a1 (u2 - 48) (16 * a2) S)))))))))
def f_Mo_chunkSize (S : zSt) : Option Int32 := (f_Mo_chunkSize_7 fu (S 66 21) 0 S)
set_option maxHeartbeats 4000000 in
set_option maxRecDepth 100000 in
theorem c_Mo_chunkSize (l : Launch) (g : zG) (hD : GD g) (S : zSt) (u : Int32) (h : f_Mo_chunkSize S = some u) : Met l y_Mo_chunkSize (mw y_Mo_chunkSize b_Mo_chunkSize 4 (some .int)) (rmD 2) (Pw g [.ref (ga g 66)] S) (Qip g S u) 0 0 (gA g) := by
  refine z_go (own := R_Mo) (lv0 := [(0, .ref (ga g 66))]) hD (by decide) rfl (Nat.le_of_ble_eq_true rfl) rfl ?_
  intro p e s m args below meth c C D ls hl
  have hx := C.1
  have hb := C.2.1
  have hown := C.2.2.2.1
  have hts := C.2.2.2.2.1
  have B103 : ∀ (H : Heap) (locs : List Loc) (ls : Array Slot), f_Mo_chunkSize_103 S = some u → Dy g s S H locs → lv_has ls 4 [] → W p l e (rmD 2) s m args below meth c H locs 0 0 (MQ below (Qip g S u) args s 0 0 (gA g)) (F0 m 103 ls []) := by
    intro H locs ls h D hl
    unfold f_Mo_chunkSize_103 at h
    refine lv_iconst (v := (-1)) hx hb d_Mo_chunkSize_103 (by decide) ?_
    refine lv_goto hx hb d_Mo_chunkSize_104 rfl ?_
    exact x_irp C D h d_Mo_chunkSize_108
  have B107 : ∀ (H : Heap) (locs : List Loc) (ls : Array Slot) (a2 : Int32), f_Mo_chunkSize_107 a2 S = some u → Dy g s S H locs → lv_has ls 4 [(2, .int a2)] → W p l e (rmD 2) s m args below meth c H locs 0 0 (MQ below (Qip g S u) args s 0 0 (gA g)) (F0 m 107 ls []) := by
    intro H locs ls a2 h D hl
    unfold f_Mo_chunkSize_107 at h
    refine lv_iload_n hx hb d_Mo_chunkSize_107 rfl (lv_at hl 0 rfl) ?_
    exact x_irp C D h d_Mo_chunkSize_108
  have B76 : ∀ (H : Heap) (locs : List Loc) (ls : Array Slot) (a1 : Int32) (a2 : Int32), f_Mo_chunkSize_76 a1 a2 S = some u → Dy g s S H locs → lv_has ls 4 [(0, .ref (ga g 66)), (1, .int a1), (2, .int a2)] → W p l e (rmD 2) s m args below meth c H locs 0 0 (MQ below (Qip g S u) args s 0 0 (gA g)) (F0 m 76 ls []) := by
    intro H locs ls a1 a2 h D hl
    unfold f_Mo_chunkSize_76 at h
    refine lv_iload_n hx hb d_Mo_chunkSize_76 rfl (lv_at hl 1 rfl) ?_
    refine lv_aload_n hx hb d_Mo_chunkSize_77 rfl (lv_at hl 0 rfl) ?_
    refine x_get (v := .int (S 66 21)) C D kc_Mo (by decide) sh_66 21 rfl (by decide) wf_Mo_231 rfl rfl d_Mo_chunkSize_78 ?_
    refine lv_icmp_eq hx hb d_Mo_chunkSize_81 rfl (fun z => ?_) (fun z => ?_)
    · replace h := if_t z h
      exact B103 _ _ _ h D (lv_sub hl [] rfl)
    · replace h := if_f z h
      refine lv_iload_n hx hb d_Mo_chunkSize_84 rfl (lv_at hl 1 rfl) ?_
      refine lv_aload_n hx hb d_Mo_chunkSize_85 rfl (lv_at hl 0 rfl) ?_
      refine x_get (v := .int (S 66 22)) C D kc_Mo (by decide) sh_66 22 rfl (by decide) wf_Mo_237 rfl rfl d_Mo_chunkSize_86 ?_
      refine lv_icmp_ge hx hb d_Mo_chunkSize_89 rfl (fun z => ?_) (fun z => ?_)
      · replace h := if_t z h
        exact B107 _ _ _ _ h D (lv_sub hl [2] rfl)
      · replace h := if_f z h
        refine lv_aload_n hx hb d_Mo_chunkSize_92 rfl (lv_at hl 0 rfl) ?_
        refine x_get (v := .ref (ga g 76)) C D kc_Mo (by decide) sh_66 18 rfl (by decide) wf_Mo_37 rfl rfl d_Mo_chunkSize_93 ?_
        refine lv_iload_n hx hb d_Mo_chunkSize_96 rfl (lv_at hl 1 rfl) ?_
        refine x_iald C D (by decide) sh_76 d_Mo_chunkSize_97 h (fun _ h => ?_)
        refine lv_bipush (v := 59) hx hb d_Mo_chunkSize_98 (by decide) ?_
        refine lv_icmp_eq hx hb d_Mo_chunkSize_100 rfl (fun z => ?_) (fun z => ?_)
        · replace h := if_t z h
          exact B107 _ _ _ _ h D (lv_sub hl [2] rfl)
        · replace h := if_f z h
          exact B103 _ _ _ h D (lv_sub hl [] rfl)
  have B68 : ∀ (K7 : Int32 → Int32 → zSt → Option Int32) (hK7 : ∀ (H : Heap) (locs : List Loc) (ls : Array Slot) (a1 : Int32) (a2 : Int32), K7 a1 a2 S = some u → Dy g s S H locs → lv_has ls 4 [(0, .ref (ga g 66)), (1, .int a1), (2, .int a2)] → W p l e (rmD 2) s m args below meth c H locs 0 0 (MQ below (Qip g S u) args s 0 0 (gA g)) (F0 m 7 ls [])) (H : Heap) (locs : List Loc) (ls : Array Slot) (a1 : Int32) (t0 : Int32) (t1 : Int32), f_Mo_chunkSize_68 K7 a1 t0 t1 S = some u → Dy g s S H locs → lv_has ls 4 [(0, .ref (ga g 66)), (1, .int a1)] → W p l e (rmD 2) s m args below meth c H locs 0 0 (MQ below (Qip g S u) args s 0 0 (gA g)) (F0 m 68 ls [.int t0, .int t1]) := by
    intro K7 hK7 H locs ls a1 t0 t1 h D hl
    unfold f_Mo_chunkSize_68 at h
    refine lv_iadd hx hb d_Mo_chunkSize_68 ?_
    refine lv_istore_n (lv' := [(2, .int (t1 + t0)), (0, .ref (ga g 66)), (1, .int a1)]) hx hb d_Mo_chunkSize_69 rfl hl (by decide) rfl (fun ls hl => ?_)
    refine lv_iinc (k := 2) (lv' := [(1, .int (a1 + 1)), (2, .int (t1 + t0)), (0, .ref (ga g 66))]) hx hb d_Mo_chunkSize_70 hl rfl (ii1 _) (by decide) rfl (fun ls hl => ?_)
    refine lv_goto hx hb d_Mo_chunkSize_73 rfl ?_
    exact hK7 _ _ _ _ _ h D (lv_sub hl [2, 0, 1] rfl)
  have L7 : ∀ (n : Nat) (H : Heap) (locs : List Loc) (ls : Array Slot) (a1 : Int32) (a2 : Int32), f_Mo_chunkSize_7 n a1 a2 S = some u → Dy g s S H locs → lv_has ls 4 [(0, .ref (ga g 66)), (1, .int a1), (2, .int a2)] → W p l e (rmD 2) s m args below meth c H locs 0 0 (MQ below (Qip g S u) args s 0 0 (gA g)) (F0 m 7 ls []) := by
    intro n
    induction n with
    | zero => intro H locs ls a1 a2 h D hl; rw [f_Mo_chunkSize_7] at h; cases h
    | succ n hK7 =>
      intro H locs ls a1 a2 h D hl
      rw [f_Mo_chunkSize_7] at h
      refine lv_iload_n hx hb d_Mo_chunkSize_7 rfl (lv_at hl 1 rfl) ?_
      refine lv_aload_n hx hb d_Mo_chunkSize_8 rfl (lv_at hl 0 rfl) ?_
      refine x_get (v := .int (S 66 22)) C D kc_Mo (by decide) sh_66 22 rfl (by decide) wf_Mo_237 rfl rfl d_Mo_chunkSize_9 ?_
      refine lv_icmp_ge hx hb d_Mo_chunkSize_12 rfl (fun z => ?_) (fun z => ?_)
      · replace h := if_t z h
        exact B76 _ _ _ _ _ h D (lv_sub hl [0, 1, 2] rfl)
      · replace h := if_f z h
        refine lv_iload_n hx hb d_Mo_chunkSize_15 rfl (lv_at hl 1 rfl) ?_
        refine lv_aload_n hx hb d_Mo_chunkSize_16 rfl (lv_at hl 0 rfl) ?_
        refine x_get (v := .int (S 66 21)) C D kc_Mo (by decide) sh_66 21 rfl (by decide) wf_Mo_231 rfl rfl d_Mo_chunkSize_17 ?_
        refine lv_iconst (v := 3) hx hb d_Mo_chunkSize_20 (by decide) ?_
        refine lv_iadd hx hb d_Mo_chunkSize_21 ?_
        refine lv_icmp_ge hx hb d_Mo_chunkSize_22 rfl (fun z => ?_) (fun z => ?_)
        · replace h := if_t z h
          exact B76 _ _ _ _ _ h D (lv_sub hl [0, 1, 2] rfl)
        · replace h := if_f z h
          refine lv_aload_n hx hb d_Mo_chunkSize_25 rfl (lv_at hl 0 rfl) ?_
          refine x_get (v := .ref (ga g 76)) C D kc_Mo (by decide) sh_66 18 rfl (by decide) wf_Mo_37 rfl rfl d_Mo_chunkSize_26 ?_
          refine lv_iload_n hx hb d_Mo_chunkSize_29 rfl (lv_at hl 1 rfl) ?_
          refine x_iald C D (by decide) sh_76 d_Mo_chunkSize_30 h (fun _ h => ?_)
          obtain ⟨u1, hu1, h⟩ := bd_some h
          refine x_cip (rest := []) (r_S C D (c_Mo_hex l g hD (S 76 a1.toNatClampNeg) S u1 hu1) wc_Mo_hex wm_Mo_155 wt_Mo_hex wd_Mo_hex rfl rfl hl (Nat.le_of_ble_eq_true rfl) (by decide) d_Mo_chunkSize_31) D (fun H locs D => ?_)
          refine lv_if_eq hx hb d_Mo_chunkSize_34 rfl (fun z => ?_) (fun z => ?_)
          · replace h := if_t z h
            exact B76 _ _ _ _ _ h D (lv_sub hl [0, 1, 2] rfl)
          · replace h := if_f z h
            refine lv_aload_n hx hb d_Mo_chunkSize_37 rfl (lv_at hl 0 rfl) ?_
            refine x_get (v := .ref (ga g 76)) C D kc_Mo (by decide) sh_66 18 rfl (by decide) wf_Mo_37 rfl rfl d_Mo_chunkSize_38 ?_
            refine lv_iload_n hx hb d_Mo_chunkSize_41 rfl (lv_at hl 1 rfl) ?_
            refine x_iald C D (by decide) sh_76 d_Mo_chunkSize_42 h (fun _ h => ?_)
            obtain ⟨u2, hu2, h⟩ := bd_some h
            refine x_cip (rest := []) (r_S C D (c_Mo_lower l g hD (S 76 a1.toNatClampNeg) S u2 hu2) wc_Mo_lower wm_Mo_240 wt_Mo_lower wd_Mo_lower rfl rfl hl (Nat.le_of_ble_eq_true rfl) (by decide) d_Mo_chunkSize_43) D (fun H locs D => ?_)
            refine lv_istore_n (lv' := [(3, .int u2), (0, .ref (ga g 66)), (1, .int a1), (2, .int a2)]) hx hb d_Mo_chunkSize_46 rfl hl (by decide) rfl (fun ls hl => ?_)
            refine lv_bipush (v := 16) hx hb d_Mo_chunkSize_47 (by decide) ?_
            refine lv_iload_n hx hb d_Mo_chunkSize_49 rfl (lv_at hl 3 rfl) ?_
            refine lv_imul hx hb d_Mo_chunkSize_50 ?_
            refine lv_iload_n hx hb d_Mo_chunkSize_51 rfl (lv_at hl 0 rfl) ?_
            refine lv_bipush (v := 97) hx hb d_Mo_chunkSize_52 (by decide) ?_
            refine lv_icmp_ge hx hb d_Mo_chunkSize_54 rfl (fun z => ?_) (fun z => ?_)
            · replace h := if_t z h
              refine lv_iload_n hx hb d_Mo_chunkSize_64 rfl (lv_at hl 0 rfl) ?_
              refine lv_bipush (v := 87) hx hb d_Mo_chunkSize_65 (by decide) ?_
              refine lv_isub hx hb d_Mo_chunkSize_67 ?_
              exact B68 _ hK7 _ _ _ _ _ _ h D (lv_sub hl [1, 2] rfl)
            · replace h := if_f z h
              refine lv_iload_n hx hb d_Mo_chunkSize_57 rfl (lv_at hl 0 rfl) ?_
              refine lv_bipush (v := 48) hx hb d_Mo_chunkSize_58 (by decide) ?_
              refine lv_isub hx hb d_Mo_chunkSize_60 ?_
              refine lv_goto hx hb d_Mo_chunkSize_61 rfl ?_
              exact B68 _ hK7 _ _ _ _ _ _ h D (lv_sub hl [1, 2] rfl)
  unfold f_Mo_chunkSize at h
  refine lv_aload_n hx hb d_Mo_chunkSize_0 rfl (lv_at hl 0 rfl) ?_
  refine x_get (v := .int (S 66 21)) C D kc_Mo (by decide) sh_66 21 rfl (by decide) wf_Mo_231 rfl rfl d_Mo_chunkSize_1 ?_
  refine lv_istore_n (lv' := [(1, .int (S 66 21)), (0, .ref (ga g 66))]) hx hb d_Mo_chunkSize_4 rfl hl (by decide) rfl (fun ls hl => ?_)
  refine lv_iconst (v := 0) hx hb d_Mo_chunkSize_5 (by decide) ?_
  refine lv_istore_n (lv' := [(2, .int 0), (1, .int (S 66 21)), (0, .ref (ga g 66))]) hx hb d_Mo_chunkSize_6 rfl hl (by decide) rfl (fun ls hl => ?_)
  exact L7 _ _ _ _ _ _ h D (lv_sub hl [2, 1, 0] rfl)
theorem d_Mo_wellFormed_0 : decode b_Mo_wellFormed 0 = .ok (.iconst 0, 1) := by decide +kernel
theorem d_Mo_wellFormed_1 : decode b_Mo_wellFormed 1 = .ok (.istore_n 1, 1) := by decide +kernel
theorem d_Mo_wellFormed_2 : decode b_Mo_wellFormed 2 = .ok (.iload_n 1, 1) := by decide +kernel
theorem d_Mo_wellFormed_3 : decode b_Mo_wellFormed 3 = .ok (.aload_n 0, 1) := by decide +kernel
theorem d_Mo_wellFormed_4 : decode b_Mo_wellFormed 4 = .ok (.getfield 50, 3) := by decide +kernel
theorem d_Mo_wellFormed_7 : decode b_Mo_wellFormed 7 = .ok (.if_icmp .ge 70, 3) := by decide +kernel
theorem d_Mo_wellFormed_10 : decode b_Mo_wellFormed 10 = .ok (.aload_n 0, 1) := by decide +kernel
theorem d_Mo_wellFormed_11 : decode b_Mo_wellFormed 11 = .ok (.getfield 7, 3) := by decide +kernel
theorem d_Mo_wellFormed_14 : decode b_Mo_wellFormed 14 = .ok (.iload_n 1, 1) := by decide +kernel
theorem d_Mo_wellFormed_15 : decode b_Mo_wellFormed 15 = .ok (.iaload, 1) := by decide +kernel
theorem d_Mo_wellFormed_16 : decode b_Mo_wellFormed 16 = .ok (.istore_n 2, 1) := by decide +kernel
theorem d_Mo_wellFormed_17 : decode b_Mo_wellFormed 17 = .ok (.iload_n 2, 1) := by decide +kernel
theorem d_Mo_wellFormed_18 : decode b_Mo_wellFormed 18 = .ok (.bipush 123, 2) := by decide +kernel
theorem d_Mo_wellFormed_20 : decode b_Mo_wellFormed 20 = .ok (.if_icmp .ne 15, 3) := by decide +kernel
theorem d_Mo_wellFormed_23 : decode b_Mo_wellFormed 23 = .ok (.aload_n 0, 1) := by decide +kernel
theorem d_Mo_wellFormed_24 : decode b_Mo_wellFormed 24 = .ok (.iload_n 1, 1) := by decide +kernel
theorem d_Mo_wellFormed_25 : decode b_Mo_wellFormed 25 = .ok (.invokevirtual 76, 3) := by decide +kernel
theorem d_Mo_wellFormed_28 : decode b_Mo_wellFormed 28 = .ok (.istore_n 1, 1) := by decide +kernel
theorem d_Mo_wellFormed_29 : decode b_Mo_wellFormed 29 = .ok (.iload_n 1, 1) := by decide +kernel
theorem d_Mo_wellFormed_30 : decode b_Mo_wellFormed 30 = .ok (.ifCond .ge 44, 3) := by decide +kernel
theorem d_Mo_wellFormed_33 : decode b_Mo_wellFormed 33 = .ok (.iconst 0, 1) := by decide +kernel
theorem d_Mo_wellFormed_34 : decode b_Mo_wellFormed 34 = .ok (.ireturn, 1) := by decide +kernel
theorem d_Mo_wellFormed_35 : decode b_Mo_wellFormed 35 = .ok (.iload_n 2, 1) := by decide +kernel
theorem d_Mo_wellFormed_36 : decode b_Mo_wellFormed 36 = .ok (.invokestatic 79, 3) := by decide +kernel
theorem d_Mo_wellFormed_39 : decode b_Mo_wellFormed 39 = .ok (.ifCond .ne 27, 3) := by decide +kernel
theorem d_Mo_wellFormed_42 : decode b_Mo_wellFormed 42 = .ok (.iload_n 2, 1) := by decide +kernel
theorem d_Mo_wellFormed_43 : decode b_Mo_wellFormed 43 = .ok (.bipush 47, 2) := by decide +kernel
theorem d_Mo_wellFormed_45 : decode b_Mo_wellFormed 45 = .ok (.if_icmp .eq 21, 3) := by decide +kernel
theorem d_Mo_wellFormed_48 : decode b_Mo_wellFormed 48 = .ok (.iload_n 2, 1) := by decide +kernel
theorem d_Mo_wellFormed_49 : decode b_Mo_wellFormed 49 = .ok (.bipush 63, 2) := by decide +kernel
theorem d_Mo_wellFormed_51 : decode b_Mo_wellFormed 51 = .ok (.if_icmp .eq 15, 3) := by decide +kernel
theorem d_Mo_wellFormed_54 : decode b_Mo_wellFormed 54 = .ok (.iload_n 2, 1) := by decide +kernel
theorem d_Mo_wellFormed_55 : decode b_Mo_wellFormed 55 = .ok (.bipush 61, 2) := by decide +kernel
theorem d_Mo_wellFormed_57 : decode b_Mo_wellFormed 57 = .ok (.if_icmp .eq 9, 3) := by decide +kernel
theorem d_Mo_wellFormed_60 : decode b_Mo_wellFormed 60 = .ok (.iload_n 2, 1) := by decide +kernel
theorem d_Mo_wellFormed_61 : decode b_Mo_wellFormed 61 = .ok (.bipush 38, 2) := by decide +kernel
theorem d_Mo_wellFormed_63 : decode b_Mo_wellFormed 63 = .ok (.if_icmp .ne 9, 3) := by decide +kernel
theorem d_Mo_wellFormed_66 : decode b_Mo_wellFormed 66 = .ok (.iinc 1 1, 3) := by decide +kernel
theorem d_Mo_wellFormed_69 : decode b_Mo_wellFormed 69 = .ok (.goto 5, 3) := by decide +kernel
theorem d_Mo_wellFormed_72 : decode b_Mo_wellFormed 72 = .ok (.iconst 0, 1) := by decide +kernel
theorem d_Mo_wellFormed_73 : decode b_Mo_wellFormed 73 = .ok (.ireturn, 1) := by decide +kernel
theorem d_Mo_wellFormed_74 : decode b_Mo_wellFormed 74 = .ok (.goto (-72), 3) := by decide +kernel
theorem d_Mo_wellFormed_77 : decode b_Mo_wellFormed 77 = .ok (.aload_n 0, 1) := by decide +kernel
theorem d_Mo_wellFormed_78 : decode b_Mo_wellFormed 78 = .ok (.getfield 50, 3) := by decide +kernel
theorem d_Mo_wellFormed_81 : decode b_Mo_wellFormed 81 = .ok (.ifCond .le 18, 3) := by decide +kernel
theorem d_Mo_wellFormed_84 : decode b_Mo_wellFormed 84 = .ok (.aload_n 0, 1) := by decide +kernel
theorem d_Mo_wellFormed_85 : decode b_Mo_wellFormed 85 = .ok (.getfield 7, 3) := by decide +kernel
theorem d_Mo_wellFormed_88 : decode b_Mo_wellFormed 88 = .ok (.iconst 0, 1) := by decide +kernel
theorem d_Mo_wellFormed_89 : decode b_Mo_wellFormed 89 = .ok (.iaload, 1) := by decide +kernel
theorem d_Mo_wellFormed_90 : decode b_Mo_wellFormed 90 = .ok (.bipush 47, 2) := by decide +kernel
theorem d_Mo_wellFormed_92 : decode b_Mo_wellFormed 92 = .ok (.if_icmp .ne 7, 3) := by decide +kernel
theorem d_Mo_wellFormed_95 : decode b_Mo_wellFormed 95 = .ok (.iconst 1, 1) := by decide +kernel
theorem d_Mo_wellFormed_96 : decode b_Mo_wellFormed 96 = .ok (.goto 4, 3) := by decide +kernel
theorem d_Mo_wellFormed_99 : decode b_Mo_wellFormed 99 = .ok (.iconst 0, 1) := by decide +kernel
theorem d_Mo_wellFormed_100 : decode b_Mo_wellFormed 100 = .ok (.ireturn, 1) := by decide +kernel
def f_Mo_wellFormed_99 (S : zSt) : Option Int32 := (gdb 0 (some 0))
def f_Mo_wellFormed_74 (K2 : Int32 → zSt → Option Int32) (a1 : Int32) (S : zSt) : Option Int32 := (K2 a1 S)
def f_Mo_wellFormed_66 (K2 : Int32 → zSt → Option Int32) (a1 : Int32) (S : zSt) : Option Int32 := (f_Mo_wellFormed_74 K2 (a1 + 1) S)
def f_Mo_wellFormed_2 : Nat → Int32 → zSt → Option Int32
  | 0, _, _ => none
  | n + 1, a1, S => (if (S 66 1) ≤ a1 then (if (S 66 1) ≤ 0 then (f_Mo_wellFormed_99 S) else gdi 0 40 ((if (S 67 (0 : Int32).toNatClampNeg) = 47 then (gdb 1 (some 1)) else (f_Mo_wellFormed_99 S)))) else gdi a1 40 ((if (S 67 a1.toNatClampNeg) = 123 then ((f_Mo_behind a1 S).bind fun u2 => (if 0 ≤ u2 then (f_Mo_wellFormed_74 (f_Mo_wellFormed_2 n) u2 S) else (gdb 0 (some 0)))) else ((f_Mo_plain (S 67 a1.toNatClampNeg) S).bind fun u1 => (if u1 = 0 then (if (S 67 a1.toNatClampNeg) = 47 then (f_Mo_wellFormed_66 (f_Mo_wellFormed_2 n) a1 S) else (if (S 67 a1.toNatClampNeg) = 63 then (f_Mo_wellFormed_66 (f_Mo_wellFormed_2 n) a1 S) else (if (S 67 a1.toNatClampNeg) = 61 then (f_Mo_wellFormed_66 (f_Mo_wellFormed_2 n) a1 S) else (if (S 67 a1.toNatClampNeg) = 38 then (f_Mo_wellFormed_66 (f_Mo_wellFormed_2 n) a1 S) else (gdb 0 (some 0)))))) else (f_Mo_wellFormed_66 (f_Mo_wellFormed_2 n) a1 S))))))
def f_Mo_wellFormed (S : zSt) : Option Int32 := (f_Mo_wellFormed_2 fu 0 S)
set_option maxHeartbeats 4000000 in
set_option maxRecDepth 100000 in
theorem c_Mo_wellFormed (l : Launch) (g : zG) (hD : GD g) (S : zSt) (u : Int32) (h : f_Mo_wellFormed S = some u) : Met l y_Mo_wellFormed (mw y_Mo_wellFormed b_Mo_wellFormed 3 (some .boolean)) (rmD 3) (Pw g [.ref (ga g 66)] S) (Qip g S u) 0 0 (gA g) := by
  refine z_go (own := R_Mo) (lv0 := [(0, .ref (ga g 66))]) hD (by decide) rfl (Nat.le_of_ble_eq_true rfl) rfl ?_
  intro p e s m args below meth c C D ls hl
  have hx := C.1
  have hb := C.2.1
  have hown := C.2.2.2.1
  have hts := C.2.2.2.2.1
  have B99 : ∀ (H : Heap) (locs : List Loc) (ls : Array Slot), f_Mo_wellFormed_99 S = some u → Dy g s S H locs → lv_has ls 3 [] → W p l e (rmD 3) s m args below meth c H locs 0 0 (MQ below (Qip g S u) args s 0 0 (gA g)) (F0 m 99 ls []) := by
    intro H locs ls h D hl
    unfold f_Mo_wellFormed_99 at h
    refine lv_iconst (v := 0) hx hb d_Mo_wellFormed_99 (by decide) ?_
    exact x_zrp C D h d_Mo_wellFormed_100
  have B74 : ∀ (K2 : Int32 → zSt → Option Int32) (hK2 : ∀ (H : Heap) (locs : List Loc) (ls : Array Slot) (a1 : Int32), K2 a1 S = some u → Dy g s S H locs → lv_has ls 3 [(0, .ref (ga g 66)), (1, .int a1)] → W p l e (rmD 3) s m args below meth c H locs 0 0 (MQ below (Qip g S u) args s 0 0 (gA g)) (F0 m 2 ls [])) (H : Heap) (locs : List Loc) (ls : Array Slot) (a1 : Int32), f_Mo_wellFormed_74 K2 a1 S = some u → Dy g s S H locs → lv_has ls 3 [(0, .ref (ga g 66)), (1, .int a1)] → W p l e (rmD 3) s m args below meth c H locs 0 0 (MQ below (Qip g S u) args s 0 0 (gA g)) (F0 m 74 ls []) := by
    intro K2 hK2 H locs ls a1 h D hl
    unfold f_Mo_wellFormed_74 at h
    refine lv_goto hx hb d_Mo_wellFormed_74 rfl ?_
    exact hK2 _ _ _ _ h D (lv_sub hl [0, 1] rfl)
  have B66 : ∀ (K2 : Int32 → zSt → Option Int32) (hK2 : ∀ (H : Heap) (locs : List Loc) (ls : Array Slot) (a1 : Int32), K2 a1 S = some u → Dy g s S H locs → lv_has ls 3 [(0, .ref (ga g 66)), (1, .int a1)] → W p l e (rmD 3) s m args below meth c H locs 0 0 (MQ below (Qip g S u) args s 0 0 (gA g)) (F0 m 2 ls [])) (H : Heap) (locs : List Loc) (ls : Array Slot) (a1 : Int32), f_Mo_wellFormed_66 K2 a1 S = some u → Dy g s S H locs → lv_has ls 3 [(0, .ref (ga g 66)), (1, .int a1)] → W p l e (rmD 3) s m args below meth c H locs 0 0 (MQ below (Qip g S u) args s 0 0 (gA g)) (F0 m 66 ls []) := by
    intro K2 hK2 H locs ls a1 h D hl
    unfold f_Mo_wellFormed_66 at h
    refine lv_iinc (k := 1) (lv' := [(1, .int (a1 + 1)), (0, .ref (ga g 66))]) hx hb d_Mo_wellFormed_66 hl rfl (ii1 _) (by decide) rfl (fun ls hl => ?_)
    refine lv_goto hx hb d_Mo_wellFormed_69 rfl ?_
    exact B74 _ hK2 _ _ _ _ h D (lv_sub hl [1, 0] rfl)
  have L2 : ∀ (n : Nat) (H : Heap) (locs : List Loc) (ls : Array Slot) (a1 : Int32), f_Mo_wellFormed_2 n a1 S = some u → Dy g s S H locs → lv_has ls 3 [(0, .ref (ga g 66)), (1, .int a1)] → W p l e (rmD 3) s m args below meth c H locs 0 0 (MQ below (Qip g S u) args s 0 0 (gA g)) (F0 m 2 ls []) := by
    intro n
    induction n with
    | zero => intro H locs ls a1 h D hl; rw [f_Mo_wellFormed_2] at h; cases h
    | succ n hK2 =>
      intro H locs ls a1 h D hl
      rw [f_Mo_wellFormed_2] at h
      refine lv_iload_n hx hb d_Mo_wellFormed_2 rfl (lv_at hl 1 rfl) ?_
      refine lv_aload_n hx hb d_Mo_wellFormed_3 rfl (lv_at hl 0 rfl) ?_
      refine x_get (v := .int (S 66 1)) C D kc_Mo (by decide) sh_66 1 rfl (by decide) wf_Mo_50 rfl rfl d_Mo_wellFormed_4 ?_
      refine lv_icmp_ge hx hb d_Mo_wellFormed_7 rfl (fun z => ?_) (fun z => ?_)
      · replace h := if_t z h
        refine lv_aload_n hx hb d_Mo_wellFormed_77 rfl (lv_at hl 0 rfl) ?_
        refine x_get (v := .int (S 66 1)) C D kc_Mo (by decide) sh_66 1 rfl (by decide) wf_Mo_50 rfl rfl d_Mo_wellFormed_78 ?_
        refine lv_if_le hx hb d_Mo_wellFormed_81 rfl (fun z => ?_) (fun z => ?_)
        · replace h := if_t z h
          exact B99 _ _ _ h D (lv_sub hl [] rfl)
        · replace h := if_f z h
          refine lv_aload_n hx hb d_Mo_wellFormed_84 rfl (lv_at hl 0 rfl) ?_
          refine x_get (v := .ref (ga g 67)) C D kc_Mo (by decide) sh_66 2 rfl (by decide) wf_Mo_7 rfl rfl d_Mo_wellFormed_85 ?_
          refine lv_iconst (v := 0) hx hb d_Mo_wellFormed_88 (by decide) ?_
          refine x_iald C D (by decide) sh_67 d_Mo_wellFormed_89 h (fun _ h => ?_)
          refine lv_bipush (v := 47) hx hb d_Mo_wellFormed_90 (by decide) ?_
          refine lv_icmp_ne hx hb d_Mo_wellFormed_92 rfl (fun z => ?_) (fun z => ?_)
          · replace h := if_f z h
            exact B99 _ _ _ h D (lv_sub hl [] rfl)
          · replace h := if_t z h
            refine lv_iconst (v := 1) hx hb d_Mo_wellFormed_95 (by decide) ?_
            refine lv_goto hx hb d_Mo_wellFormed_96 rfl ?_
            exact x_zrp C D h d_Mo_wellFormed_100
      · replace h := if_f z h
        refine lv_aload_n hx hb d_Mo_wellFormed_10 rfl (lv_at hl 0 rfl) ?_
        refine x_get (v := .ref (ga g 67)) C D kc_Mo (by decide) sh_66 2 rfl (by decide) wf_Mo_7 rfl rfl d_Mo_wellFormed_11 ?_
        refine lv_iload_n hx hb d_Mo_wellFormed_14 rfl (lv_at hl 1 rfl) ?_
        refine x_iald C D (by decide) sh_67 d_Mo_wellFormed_15 h (fun _ h => ?_)
        refine lv_istore_n (lv' := [(2, .int (S 67 a1.toNatClampNeg)), (0, .ref (ga g 66)), (1, .int a1)]) hx hb d_Mo_wellFormed_16 rfl hl (by decide) rfl (fun ls hl => ?_)
        refine lv_iload_n hx hb d_Mo_wellFormed_17 rfl (lv_at hl 0 rfl) ?_
        refine lv_bipush (v := 123) hx hb d_Mo_wellFormed_18 (by decide) ?_
        refine lv_icmp_ne hx hb d_Mo_wellFormed_20 rfl (fun z => ?_) (fun z => ?_)
        · replace h := if_f z h
          refine lv_iload_n hx hb d_Mo_wellFormed_35 rfl (lv_at hl 0 rfl) ?_
          obtain ⟨u1, hu1, h⟩ := bd_some h
          refine x_cip (rest := []) (r_S C D (c_Mo_plain l g hD (S 67 a1.toNatClampNeg) S u1 hu1) wc_Mo_plain wm_Mo_79 wt_Mo_plain wd_Mo_plain rfl rfl hl (Nat.le_of_ble_eq_true rfl) (by decide) d_Mo_wellFormed_36) D (fun H locs D => ?_)
          refine lv_if_ne hx hb d_Mo_wellFormed_39 rfl (fun z => ?_) (fun z => ?_)
          · replace h := if_f z h
            exact B66 _ hK2 _ _ _ _ h D (lv_sub hl [1, 2] rfl)
          · replace h := if_t z h
            refine lv_iload_n hx hb d_Mo_wellFormed_42 rfl (lv_at hl 0 rfl) ?_
            refine lv_bipush (v := 47) hx hb d_Mo_wellFormed_43 (by decide) ?_
            refine lv_icmp_eq hx hb d_Mo_wellFormed_45 rfl (fun z => ?_) (fun z => ?_)
            · replace h := if_t z h
              exact B66 _ hK2 _ _ _ _ h D (lv_sub hl [1, 2] rfl)
            · replace h := if_f z h
              refine lv_iload_n hx hb d_Mo_wellFormed_48 rfl (lv_at hl 0 rfl) ?_
              refine lv_bipush (v := 63) hx hb d_Mo_wellFormed_49 (by decide) ?_
              refine lv_icmp_eq hx hb d_Mo_wellFormed_51 rfl (fun z => ?_) (fun z => ?_)
              · replace h := if_t z h
                exact B66 _ hK2 _ _ _ _ h D (lv_sub hl [1, 2] rfl)
              · replace h := if_f z h
                refine lv_iload_n hx hb d_Mo_wellFormed_54 rfl (lv_at hl 0 rfl) ?_
                refine lv_bipush (v := 61) hx hb d_Mo_wellFormed_55 (by decide) ?_
                refine lv_icmp_eq hx hb d_Mo_wellFormed_57 rfl (fun z => ?_) (fun z => ?_)
                · replace h := if_t z h
                  exact B66 _ hK2 _ _ _ _ h D (lv_sub hl [1, 2] rfl)
                · replace h := if_f z h
                  refine lv_iload_n hx hb d_Mo_wellFormed_60 rfl (lv_at hl 0 rfl) ?_
                  refine lv_bipush (v := 38) hx hb d_Mo_wellFormed_61 (by decide) ?_
                  refine lv_icmp_ne hx hb d_Mo_wellFormed_63 rfl (fun z => ?_) (fun z => ?_)
                  · replace h := if_f z h
                    refine lv_iconst (v := 0) hx hb d_Mo_wellFormed_72 (by decide) ?_
                    exact x_zrp C D h d_Mo_wellFormed_73
                  · replace h := if_t z h
                    exact B66 _ hK2 _ _ _ _ h D (lv_sub hl [1, 2] rfl)
        · replace h := if_t z h
          refine lv_aload_n hx hb d_Mo_wellFormed_23 rfl (lv_at hl 1 rfl) ?_
          refine lv_iload_n hx hb d_Mo_wellFormed_24 rfl (lv_at hl 2 rfl) ?_
          obtain ⟨u2, hu2, h⟩ := bd_some h
          refine x_cip (rest := []) (r_V C D (c_Mo_behind l g hD a1 S u2 hu2) wc_Mo_behind wm_Mo_76 wi_Mo_behind wd_Mo_behind (by decide) sh_66 kc_Mo.1 rfl rfl hl (Nat.le_of_ble_eq_true rfl) (by decide) d_Mo_wellFormed_25) D (fun H locs D => ?_)
          refine lv_istore_n (lv' := [(1, .int u2), (2, .int (S 67 a1.toNatClampNeg)), (0, .ref (ga g 66))]) hx hb d_Mo_wellFormed_28 rfl hl (by decide) rfl (fun ls hl => ?_)
          refine lv_iload_n hx hb d_Mo_wellFormed_29 rfl (lv_at hl 0 rfl) ?_
          refine lv_if_ge hx hb d_Mo_wellFormed_30 rfl (fun z => ?_) (fun z => ?_)
          · replace h := if_t z h
            exact B74 _ hK2 _ _ _ _ h D (lv_sub hl [2, 0] rfl)
          · replace h := if_f z h
            refine lv_iconst (v := 0) hx hb d_Mo_wellFormed_33 (by decide) ?_
            exact x_zrp C D h d_Mo_wellFormed_34
  unfold f_Mo_wellFormed at h
  refine lv_iconst (v := 0) hx hb d_Mo_wellFormed_0 (by decide) ?_
  refine lv_istore_n (lv' := [(1, .int 0), (0, .ref (ga g 66))]) hx hb d_Mo_wellFormed_1 rfl hl (by decide) rfl (fun ls hl => ?_)
  exact L2 _ _ _ _ _ h D (lv_sub hl [1, 0] rfl)
theorem d_Mo_itemFault_0 : decode b_Mo_itemFault 0 = .ok (.iconst 0, 1) := by decide +kernel
theorem d_Mo_itemFault_1 : decode b_Mo_itemFault 1 = .ok (.istore_n 1, 1) := by decide +kernel
theorem d_Mo_itemFault_2 : decode b_Mo_itemFault 2 = .ok (.iconst 0, 1) := by decide +kernel
theorem d_Mo_itemFault_3 : decode b_Mo_itemFault 3 = .ok (.istore_n 2, 1) := by decide +kernel
theorem d_Mo_itemFault_4 : decode b_Mo_itemFault 4 = .ok (.iconst 0, 1) := by decide +kernel
theorem d_Mo_itemFault_5 : decode b_Mo_itemFault 5 = .ok (.istore_n 3, 1) := by decide +kernel
theorem d_Mo_itemFault_6 : decode b_Mo_itemFault 6 = .ok (.iload_n 3, 1) := by decide +kernel
theorem d_Mo_itemFault_7 : decode b_Mo_itemFault 7 = .ok (.aload_n 0, 1) := by decide +kernel
theorem d_Mo_itemFault_8 : decode b_Mo_itemFault 8 = .ok (.getfield 53, 3) := by decide +kernel
theorem d_Mo_itemFault_11 : decode b_Mo_itemFault 11 = .ok (.if_icmp .ge 85, 3) := by decide +kernel
theorem d_Mo_itemFault_14 : decode b_Mo_itemFault 14 = .ok (.iconst 0, 1) := by decide +kernel
theorem d_Mo_itemFault_15 : decode b_Mo_itemFault 15 = .ok (.istore 4, 2) := by decide +kernel
theorem d_Mo_itemFault_17 : decode b_Mo_itemFault 17 = .ok (.iload 4, 2) := by decide +kernel
theorem d_Mo_itemFault_19 : decode b_Mo_itemFault 19 = .ok (.aload_n 0, 1) := by decide +kernel
theorem d_Mo_itemFault_20 : decode b_Mo_itemFault 20 = .ok (.getfield 19, 3) := by decide +kernel
theorem d_Mo_itemFault_23 : decode b_Mo_itemFault 23 = .ok (.iload_n 3, 1) := by decide +kernel
theorem d_Mo_itemFault_24 : decode b_Mo_itemFault 24 = .ok (.iaload, 1) := by decide +kernel
theorem d_Mo_itemFault_25 : decode b_Mo_itemFault 25 = .ok (.if_icmp .ge 65, 3) := by decide +kernel
theorem d_Mo_itemFault_28 : decode b_Mo_itemFault 28 = .ok (.iload_n 1, 1) := by decide +kernel
theorem d_Mo_itemFault_29 : decode b_Mo_itemFault 29 = .ok (.ifCond .ne 16, 3) := by decide +kernel
theorem d_Mo_itemFault_32 : decode b_Mo_itemFault 32 = .ok (.aload_n 0, 1) := by decide +kernel
theorem d_Mo_itemFault_33 : decode b_Mo_itemFault 33 = .ok (.iconst 3, 1) := by decide +kernel
theorem d_Mo_itemFault_34 : decode b_Mo_itemFault 34 = .ok (.iload_n 3, 1) := by decide +kernel
theorem d_Mo_itemFault_35 : decode b_Mo_itemFault 35 = .ok (.imul, 1) := by decide +kernel
theorem d_Mo_itemFault_36 : decode b_Mo_itemFault 36 = .ok (.iload 4, 2) := by decide +kernel
theorem d_Mo_itemFault_38 : decode b_Mo_itemFault 38 = .ok (.iadd, 1) := by decide +kernel
theorem d_Mo_itemFault_39 : decode b_Mo_itemFault 39 = .ok (.invokevirtual 121, 3) := by decide +kernel
theorem d_Mo_itemFault_42 : decode b_Mo_itemFault 42 = .ok (.ifCond .eq 7, 3) := by decide +kernel
theorem d_Mo_itemFault_45 : decode b_Mo_itemFault 45 = .ok (.iconst 1, 1) := by decide +kernel
theorem d_Mo_itemFault_46 : decode b_Mo_itemFault 46 = .ok (.goto 4, 3) := by decide +kernel
theorem d_Mo_itemFault_49 : decode b_Mo_itemFault 49 = .ok (.iconst 0, 1) := by decide +kernel
theorem d_Mo_itemFault_50 : decode b_Mo_itemFault 50 = .ok (.istore_n 1, 1) := by decide +kernel
theorem d_Mo_itemFault_51 : decode b_Mo_itemFault 51 = .ok (.iload_n 2, 1) := by decide +kernel
theorem d_Mo_itemFault_52 : decode b_Mo_itemFault 52 = .ok (.ifCond .ne 26, 3) := by decide +kernel
theorem d_Mo_itemFault_55 : decode b_Mo_itemFault 55 = .ok (.aload_n 0, 1) := by decide +kernel
theorem d_Mo_itemFault_56 : decode b_Mo_itemFault 56 = .ok (.getfield 13, 3) := by decide +kernel
theorem d_Mo_itemFault_59 : decode b_Mo_itemFault 59 = .ok (.iload_n 3, 1) := by decide +kernel
theorem d_Mo_itemFault_60 : decode b_Mo_itemFault 60 = .ok (.iaload, 1) := by decide +kernel
theorem d_Mo_itemFault_61 : decode b_Mo_itemFault 61 = .ok (.iconst 3, 1) := by decide +kernel
theorem d_Mo_itemFault_62 : decode b_Mo_itemFault 62 = .ok (.if_icmp .ne 20, 3) := by decide +kernel
theorem d_Mo_itemFault_65 : decode b_Mo_itemFault 65 = .ok (.aload_n 0, 1) := by decide +kernel
theorem d_Mo_itemFault_66 : decode b_Mo_itemFault 66 = .ok (.iconst 3, 1) := by decide +kernel
theorem d_Mo_itemFault_67 : decode b_Mo_itemFault 67 = .ok (.iload_n 3, 1) := by decide +kernel
theorem d_Mo_itemFault_68 : decode b_Mo_itemFault 68 = .ok (.imul, 1) := by decide +kernel
theorem d_Mo_itemFault_69 : decode b_Mo_itemFault 69 = .ok (.iload 4, 2) := by decide +kernel
theorem d_Mo_itemFault_71 : decode b_Mo_itemFault 71 = .ok (.iadd, 1) := by decide +kernel
theorem d_Mo_itemFault_72 : decode b_Mo_itemFault 72 = .ok (.invokevirtual 124, 3) := by decide +kernel
theorem d_Mo_itemFault_75 : decode b_Mo_itemFault 75 = .ok (.ifCond .eq 7, 3) := by decide +kernel
theorem d_Mo_itemFault_78 : decode b_Mo_itemFault 78 = .ok (.iconst 1, 1) := by decide +kernel
theorem d_Mo_itemFault_79 : decode b_Mo_itemFault 79 = .ok (.goto 4, 3) := by decide +kernel
theorem d_Mo_itemFault_82 : decode b_Mo_itemFault 82 = .ok (.iconst 0, 1) := by decide +kernel
theorem d_Mo_itemFault_83 : decode b_Mo_itemFault 83 = .ok (.istore_n 2, 1) := by decide +kernel
theorem d_Mo_itemFault_84 : decode b_Mo_itemFault 84 = .ok (.iinc 4 1, 3) := by decide +kernel
theorem d_Mo_itemFault_87 : decode b_Mo_itemFault 87 = .ok (.goto (-70), 3) := by decide +kernel
theorem d_Mo_itemFault_90 : decode b_Mo_itemFault 90 = .ok (.iinc 3 1, 3) := by decide +kernel
theorem d_Mo_itemFault_93 : decode b_Mo_itemFault 93 = .ok (.goto (-87), 3) := by decide +kernel
theorem d_Mo_itemFault_96 : decode b_Mo_itemFault 96 = .ok (.iload_n 1, 1) := by decide +kernel
theorem d_Mo_itemFault_97 : decode b_Mo_itemFault 97 = .ok (.ifCond .eq 8, 3) := by decide +kernel
theorem d_Mo_itemFault_100 : decode b_Mo_itemFault 100 = .ok (.bipush (-8), 2) := by decide +kernel
theorem d_Mo_itemFault_102 : decode b_Mo_itemFault 102 = .ok (.goto 13, 3) := by decide +kernel
theorem d_Mo_itemFault_105 : decode b_Mo_itemFault 105 = .ok (.iload_n 2, 1) := by decide +kernel
theorem d_Mo_itemFault_106 : decode b_Mo_itemFault 106 = .ok (.ifCond .eq 8, 3) := by decide +kernel
theorem d_Mo_itemFault_109 : decode b_Mo_itemFault 109 = .ok (.bipush (-9), 2) := by decide +kernel
theorem d_Mo_itemFault_111 : decode b_Mo_itemFault 111 = .ok (.goto 4, 3) := by decide +kernel
theorem d_Mo_itemFault_114 : decode b_Mo_itemFault 114 = .ok (.iconst 0, 1) := by decide +kernel
theorem d_Mo_itemFault_115 : decode b_Mo_itemFault 115 = .ok (.ireturn, 1) := by decide +kernel
def f_Mo_itemFault_83 (K6 : Int32 → Int32 → Int32 → zSt → Option Int32) (K17 : Int32 → Int32 → Int32 → Int32 → zSt → Option Int32) (a1 : Int32) (a3 : Int32) (a4 : Int32) (t0 : Int32) (S : zSt) : Option Int32 := (K17 a1 t0 a3 (a4 + 1) S)
def f_Mo_itemFault_78 (K6 : Int32 → Int32 → Int32 → zSt → Option Int32) (K17 : Int32 → Int32 → Int32 → Int32 → zSt → Option Int32) (a1 : Int32) (a3 : Int32) (a4 : Int32) (S : zSt) : Option Int32 := (f_Mo_itemFault_83 K6 K17 a1 a3 a4 1 S)
def f_Mo_itemFault_82 (K6 : Int32 → Int32 → Int32 → zSt → Option Int32) (K17 : Int32 → Int32 → Int32 → Int32 → zSt → Option Int32) (a1 : Int32) (a3 : Int32) (a4 : Int32) (S : zSt) : Option Int32 := (f_Mo_itemFault_83 K6 K17 a1 a3 a4 0 S)
def f_Mo_itemFault_50 (K6 : Int32 → Int32 → Int32 → zSt → Option Int32) (K17 : Int32 → Int32 → Int32 → Int32 → zSt → Option Int32) (a2 : Int32) (a3 : Int32) (a4 : Int32) (t0 : Int32) (S : zSt) : Option Int32 := (if a2 = 0 then gdi a3 6 ((if (S 68 a3.toNatClampNeg) = 3 then ((f_Mo_unfitIn ((3 * a3) + a4) S).bind fun u1 => (if u1 = 0 then (f_Mo_itemFault_82 K6 K17 t0 a3 a4 S) else (f_Mo_itemFault_78 K6 K17 t0 a3 a4 S))) else (f_Mo_itemFault_82 K6 K17 t0 a3 a4 S))) else (f_Mo_itemFault_78 K6 K17 t0 a3 a4 S))
def f_Mo_itemFault_45 (K6 : Int32 → Int32 → Int32 → zSt → Option Int32) (K17 : Int32 → Int32 → Int32 → Int32 → zSt → Option Int32) (a2 : Int32) (a3 : Int32) (a4 : Int32) (S : zSt) : Option Int32 := (f_Mo_itemFault_50 K6 K17 a2 a3 a4 1 S)
def f_Mo_itemFault_17 (K6 : Int32 → Int32 → Int32 → zSt → Option Int32) : Nat → Int32 → Int32 → Int32 → Int32 → zSt → Option Int32
  | 0, _, _, _, _, _ => none
  | n + 1, a1, a2, a3, a4, S => gdi a3 6 ((if (S 70 a3.toNatClampNeg) ≤ a4 then (K6 a1 a2 (a3 + 1) S) else (if a1 = 0 then ((f_Mo_loneIn ((3 * a3) + a4) S).bind fun u2 => (if u2 = 0 then (f_Mo_itemFault_50 K6 (f_Mo_itemFault_17 K6 n) a2 a3 a4 0 S) else (f_Mo_itemFault_45 K6 (f_Mo_itemFault_17 K6 n) a2 a3 a4 S))) else (f_Mo_itemFault_45 K6 (f_Mo_itemFault_17 K6 n) a2 a3 a4 S))))
def f_Mo_itemFault_6 : Nat → Int32 → Int32 → Int32 → zSt → Option Int32
  | 0, _, _, _, _ => none
  | n + 1, a1, a2, a3, S => (if (S 66 3) ≤ a3 then (if a1 = 0 then (if a2 = 0 then (some 0) else (some (-9))) else (some (-8))) else (f_Mo_itemFault_17 (f_Mo_itemFault_6 n) fu a1 a2 a3 0 S))
def f_Mo_itemFault (S : zSt) : Option Int32 := (f_Mo_itemFault_6 fu 0 0 0 S)
set_option maxHeartbeats 4000000 in
set_option maxRecDepth 100000 in
theorem c_Mo_itemFault (l : Launch) (g : zG) (hD : GD g) (S : zSt) (u : Int32) (h : f_Mo_itemFault S = some u) : Met l y_Mo_itemFault (mw y_Mo_itemFault b_Mo_itemFault 5 (some .int)) (rmD 3) (Pw g [.ref (ga g 66)] S) (Qip g S u) 0 0 (gA g) := by
  refine z_go (own := R_Mo) (lv0 := [(0, .ref (ga g 66))]) hD (by decide) rfl (Nat.le_of_ble_eq_true rfl) rfl ?_
  intro p e s m args below meth c C D ls hl
  have hx := C.1
  have hb := C.2.1
  have hown := C.2.2.2.1
  have hts := C.2.2.2.2.1
  have B83 : ∀ (K6 : Int32 → Int32 → Int32 → zSt → Option Int32) (hK6 : ∀ (H : Heap) (locs : List Loc) (ls : Array Slot) (a1 : Int32) (a2 : Int32) (a3 : Int32), K6 a1 a2 a3 S = some u → Dy g s S H locs → lv_has ls 5 [(0, .ref (ga g 66)), (1, .int a1), (2, .int a2), (3, .int a3)] → W p l e (rmD 3) s m args below meth c H locs 0 0 (MQ below (Qip g S u) args s 0 0 (gA g)) (F0 m 6 ls [])) (K17 : Int32 → Int32 → Int32 → Int32 → zSt → Option Int32) (hK17 : ∀ (H : Heap) (locs : List Loc) (ls : Array Slot) (a1 : Int32) (a2 : Int32) (a3 : Int32) (a4 : Int32), K17 a1 a2 a3 a4 S = some u → Dy g s S H locs → lv_has ls 5 [(0, .ref (ga g 66)), (1, .int a1), (2, .int a2), (3, .int a3), (4, .int a4)] → W p l e (rmD 3) s m args below meth c H locs 0 0 (MQ below (Qip g S u) args s 0 0 (gA g)) (F0 m 17 ls [])) (H : Heap) (locs : List Loc) (ls : Array Slot) (a1 : Int32) (a3 : Int32) (a4 : Int32) (t0 : Int32), f_Mo_itemFault_83 K6 K17 a1 a3 a4 t0 S = some u → Dy g s S H locs → lv_has ls 5 [(0, .ref (ga g 66)), (1, .int a1), (3, .int a3), (4, .int a4)] → W p l e (rmD 3) s m args below meth c H locs 0 0 (MQ below (Qip g S u) args s 0 0 (gA g)) (F0 m 83 ls [.int t0]) := by
    intro K6 hK6 K17 hK17 H locs ls a1 a3 a4 t0 h D hl
    unfold f_Mo_itemFault_83 at h
    refine lv_istore_n (lv' := [(2, .int t0), (0, .ref (ga g 66)), (1, .int a1), (3, .int a3), (4, .int a4)]) hx hb d_Mo_itemFault_83 rfl hl (by decide) rfl (fun ls hl => ?_)
    refine lv_iinc (k := 4) (lv' := [(4, .int (a4 + 1)), (2, .int t0), (0, .ref (ga g 66)), (1, .int a1), (3, .int a3)]) hx hb d_Mo_itemFault_84 hl rfl (ii1 _) (by decide) rfl (fun ls hl => ?_)
    refine lv_goto hx hb d_Mo_itemFault_87 rfl ?_
    exact hK17 _ _ _ _ _ _ _ h D (lv_sub hl [2, 3, 1, 4, 0] rfl)
  have B78 : ∀ (K6 : Int32 → Int32 → Int32 → zSt → Option Int32) (hK6 : ∀ (H : Heap) (locs : List Loc) (ls : Array Slot) (a1 : Int32) (a2 : Int32) (a3 : Int32), K6 a1 a2 a3 S = some u → Dy g s S H locs → lv_has ls 5 [(0, .ref (ga g 66)), (1, .int a1), (2, .int a2), (3, .int a3)] → W p l e (rmD 3) s m args below meth c H locs 0 0 (MQ below (Qip g S u) args s 0 0 (gA g)) (F0 m 6 ls [])) (K17 : Int32 → Int32 → Int32 → Int32 → zSt → Option Int32) (hK17 : ∀ (H : Heap) (locs : List Loc) (ls : Array Slot) (a1 : Int32) (a2 : Int32) (a3 : Int32) (a4 : Int32), K17 a1 a2 a3 a4 S = some u → Dy g s S H locs → lv_has ls 5 [(0, .ref (ga g 66)), (1, .int a1), (2, .int a2), (3, .int a3), (4, .int a4)] → W p l e (rmD 3) s m args below meth c H locs 0 0 (MQ below (Qip g S u) args s 0 0 (gA g)) (F0 m 17 ls [])) (H : Heap) (locs : List Loc) (ls : Array Slot) (a1 : Int32) (a3 : Int32) (a4 : Int32), f_Mo_itemFault_78 K6 K17 a1 a3 a4 S = some u → Dy g s S H locs → lv_has ls 5 [(0, .ref (ga g 66)), (1, .int a1), (3, .int a3), (4, .int a4)] → W p l e (rmD 3) s m args below meth c H locs 0 0 (MQ below (Qip g S u) args s 0 0 (gA g)) (F0 m 78 ls []) := by
    intro K6 hK6 K17 hK17 H locs ls a1 a3 a4 h D hl
    unfold f_Mo_itemFault_78 at h
    refine lv_iconst (v := 1) hx hb d_Mo_itemFault_78 (by decide) ?_
    refine lv_goto hx hb d_Mo_itemFault_79 rfl ?_
    exact B83 _ hK6 _ hK17 _ _ _ _ _ _ _ h D (lv_sub hl [0, 1, 2, 3] rfl)
  have B82 : ∀ (K6 : Int32 → Int32 → Int32 → zSt → Option Int32) (hK6 : ∀ (H : Heap) (locs : List Loc) (ls : Array Slot) (a1 : Int32) (a2 : Int32) (a3 : Int32), K6 a1 a2 a3 S = some u → Dy g s S H locs → lv_has ls 5 [(0, .ref (ga g 66)), (1, .int a1), (2, .int a2), (3, .int a3)] → W p l e (rmD 3) s m args below meth c H locs 0 0 (MQ below (Qip g S u) args s 0 0 (gA g)) (F0 m 6 ls [])) (K17 : Int32 → Int32 → Int32 → Int32 → zSt → Option Int32) (hK17 : ∀ (H : Heap) (locs : List Loc) (ls : Array Slot) (a1 : Int32) (a2 : Int32) (a3 : Int32) (a4 : Int32), K17 a1 a2 a3 a4 S = some u → Dy g s S H locs → lv_has ls 5 [(0, .ref (ga g 66)), (1, .int a1), (2, .int a2), (3, .int a3), (4, .int a4)] → W p l e (rmD 3) s m args below meth c H locs 0 0 (MQ below (Qip g S u) args s 0 0 (gA g)) (F0 m 17 ls [])) (H : Heap) (locs : List Loc) (ls : Array Slot) (a1 : Int32) (a3 : Int32) (a4 : Int32), f_Mo_itemFault_82 K6 K17 a1 a3 a4 S = some u → Dy g s S H locs → lv_has ls 5 [(0, .ref (ga g 66)), (1, .int a1), (3, .int a3), (4, .int a4)] → W p l e (rmD 3) s m args below meth c H locs 0 0 (MQ below (Qip g S u) args s 0 0 (gA g)) (F0 m 82 ls []) := by
    intro K6 hK6 K17 hK17 H locs ls a1 a3 a4 h D hl
    unfold f_Mo_itemFault_82 at h
    refine lv_iconst (v := 0) hx hb d_Mo_itemFault_82 (by decide) ?_
    exact B83 _ hK6 _ hK17 _ _ _ _ _ _ _ h D (lv_sub hl [0, 1, 2, 3] rfl)
  have B50 : ∀ (K6 : Int32 → Int32 → Int32 → zSt → Option Int32) (hK6 : ∀ (H : Heap) (locs : List Loc) (ls : Array Slot) (a1 : Int32) (a2 : Int32) (a3 : Int32), K6 a1 a2 a3 S = some u → Dy g s S H locs → lv_has ls 5 [(0, .ref (ga g 66)), (1, .int a1), (2, .int a2), (3, .int a3)] → W p l e (rmD 3) s m args below meth c H locs 0 0 (MQ below (Qip g S u) args s 0 0 (gA g)) (F0 m 6 ls [])) (K17 : Int32 → Int32 → Int32 → Int32 → zSt → Option Int32) (hK17 : ∀ (H : Heap) (locs : List Loc) (ls : Array Slot) (a1 : Int32) (a2 : Int32) (a3 : Int32) (a4 : Int32), K17 a1 a2 a3 a4 S = some u → Dy g s S H locs → lv_has ls 5 [(0, .ref (ga g 66)), (1, .int a1), (2, .int a2), (3, .int a3), (4, .int a4)] → W p l e (rmD 3) s m args below meth c H locs 0 0 (MQ below (Qip g S u) args s 0 0 (gA g)) (F0 m 17 ls [])) (H : Heap) (locs : List Loc) (ls : Array Slot) (a2 : Int32) (a3 : Int32) (a4 : Int32) (t0 : Int32), f_Mo_itemFault_50 K6 K17 a2 a3 a4 t0 S = some u → Dy g s S H locs → lv_has ls 5 [(0, .ref (ga g 66)), (2, .int a2), (3, .int a3), (4, .int a4)] → W p l e (rmD 3) s m args below meth c H locs 0 0 (MQ below (Qip g S u) args s 0 0 (gA g)) (F0 m 50 ls [.int t0]) := by
    intro K6 hK6 K17 hK17 H locs ls a2 a3 a4 t0 h D hl
    unfold f_Mo_itemFault_50 at h
    refine lv_istore_n (lv' := [(1, .int t0), (0, .ref (ga g 66)), (2, .int a2), (3, .int a3), (4, .int a4)]) hx hb d_Mo_itemFault_50 rfl hl (by decide) rfl (fun ls hl => ?_)
    refine lv_iload_n hx hb d_Mo_itemFault_51 rfl (lv_at hl 2 rfl) ?_
    refine lv_if_ne hx hb d_Mo_itemFault_52 rfl (fun z => ?_) (fun z => ?_)
    · replace h := if_f z h
      exact B78 _ hK6 _ hK17 _ _ _ _ _ _ h D (lv_sub hl [1, 0, 3, 4] rfl)
    · replace h := if_t z h
      refine lv_aload_n hx hb d_Mo_itemFault_55 rfl (lv_at hl 1 rfl) ?_
      refine x_get (v := .ref (ga g 68)) C D kc_Mo (by decide) sh_66 4 rfl (by decide) wf_Mo_13 rfl rfl d_Mo_itemFault_56 ?_
      refine lv_iload_n hx hb d_Mo_itemFault_59 rfl (lv_at hl 3 rfl) ?_
      refine x_iald C D (by decide) sh_68 d_Mo_itemFault_60 h (fun _ h => ?_)
      refine lv_iconst (v := 3) hx hb d_Mo_itemFault_61 (by decide) ?_
      refine lv_icmp_ne hx hb d_Mo_itemFault_62 rfl (fun z => ?_) (fun z => ?_)
      · replace h := if_f z h
        exact B82 _ hK6 _ hK17 _ _ _ _ _ _ h D (lv_sub hl [1, 0, 3, 4] rfl)
      · replace h := if_t z h
        refine lv_aload_n hx hb d_Mo_itemFault_65 rfl (lv_at hl 1 rfl) ?_
        refine lv_iconst (v := 3) hx hb d_Mo_itemFault_66 (by decide) ?_
        refine lv_iload_n hx hb d_Mo_itemFault_67 rfl (lv_at hl 3 rfl) ?_
        refine lv_imul hx hb d_Mo_itemFault_68 ?_
        refine lv_iload hx hb d_Mo_itemFault_69 (lv_at hl 4 rfl) ?_
        refine lv_iadd hx hb d_Mo_itemFault_71 ?_
        obtain ⟨u1, hu1, h⟩ := bd_some h
        refine x_cip (rest := []) (r_V C D (c_Mo_unfitIn l g hD ((3 * a3) + a4) S u1 hu1) wc_Mo_unfitIn wm_Mo_124 wi_Mo_unfitIn wd_Mo_unfitIn (by decide) sh_66 kc_Mo.1 rfl rfl hl (Nat.le_of_ble_eq_true rfl) (by decide) d_Mo_itemFault_72) D (fun H locs D => ?_)
        refine lv_if_eq hx hb d_Mo_itemFault_75 rfl (fun z => ?_) (fun z => ?_)
        · replace h := if_t z h
          exact B82 _ hK6 _ hK17 _ _ _ _ _ _ h D (lv_sub hl [1, 0, 3, 4] rfl)
        · replace h := if_f z h
          exact B78 _ hK6 _ hK17 _ _ _ _ _ _ h D (lv_sub hl [1, 0, 3, 4] rfl)
  have B45 : ∀ (K6 : Int32 → Int32 → Int32 → zSt → Option Int32) (hK6 : ∀ (H : Heap) (locs : List Loc) (ls : Array Slot) (a1 : Int32) (a2 : Int32) (a3 : Int32), K6 a1 a2 a3 S = some u → Dy g s S H locs → lv_has ls 5 [(0, .ref (ga g 66)), (1, .int a1), (2, .int a2), (3, .int a3)] → W p l e (rmD 3) s m args below meth c H locs 0 0 (MQ below (Qip g S u) args s 0 0 (gA g)) (F0 m 6 ls [])) (K17 : Int32 → Int32 → Int32 → Int32 → zSt → Option Int32) (hK17 : ∀ (H : Heap) (locs : List Loc) (ls : Array Slot) (a1 : Int32) (a2 : Int32) (a3 : Int32) (a4 : Int32), K17 a1 a2 a3 a4 S = some u → Dy g s S H locs → lv_has ls 5 [(0, .ref (ga g 66)), (1, .int a1), (2, .int a2), (3, .int a3), (4, .int a4)] → W p l e (rmD 3) s m args below meth c H locs 0 0 (MQ below (Qip g S u) args s 0 0 (gA g)) (F0 m 17 ls [])) (H : Heap) (locs : List Loc) (ls : Array Slot) (a2 : Int32) (a3 : Int32) (a4 : Int32), f_Mo_itemFault_45 K6 K17 a2 a3 a4 S = some u → Dy g s S H locs → lv_has ls 5 [(0, .ref (ga g 66)), (2, .int a2), (3, .int a3), (4, .int a4)] → W p l e (rmD 3) s m args below meth c H locs 0 0 (MQ below (Qip g S u) args s 0 0 (gA g)) (F0 m 45 ls []) := by
    intro K6 hK6 K17 hK17 H locs ls a2 a3 a4 h D hl
    unfold f_Mo_itemFault_45 at h
    refine lv_iconst (v := 1) hx hb d_Mo_itemFault_45 (by decide) ?_
    refine lv_goto hx hb d_Mo_itemFault_46 rfl ?_
    exact B50 _ hK6 _ hK17 _ _ _ _ _ _ _ h D (lv_sub hl [0, 1, 2, 3] rfl)
  have L17 : ∀ (K6 : Int32 → Int32 → Int32 → zSt → Option Int32) (hK6 : ∀ (H : Heap) (locs : List Loc) (ls : Array Slot) (a1 : Int32) (a2 : Int32) (a3 : Int32), K6 a1 a2 a3 S = some u → Dy g s S H locs → lv_has ls 5 [(0, .ref (ga g 66)), (1, .int a1), (2, .int a2), (3, .int a3)] → W p l e (rmD 3) s m args below meth c H locs 0 0 (MQ below (Qip g S u) args s 0 0 (gA g)) (F0 m 6 ls [])) (n : Nat) (H : Heap) (locs : List Loc) (ls : Array Slot) (a1 : Int32) (a2 : Int32) (a3 : Int32) (a4 : Int32), f_Mo_itemFault_17 K6 n a1 a2 a3 a4 S = some u → Dy g s S H locs → lv_has ls 5 [(0, .ref (ga g 66)), (1, .int a1), (2, .int a2), (3, .int a3), (4, .int a4)] → W p l e (rmD 3) s m args below meth c H locs 0 0 (MQ below (Qip g S u) args s 0 0 (gA g)) (F0 m 17 ls []) := by
    intro K6 hK6 n
    induction n with
    | zero => intro H locs ls a1 a2 a3 a4 h D hl; rw [f_Mo_itemFault_17] at h; cases h
    | succ n hK17 =>
      intro H locs ls a1 a2 a3 a4 h D hl
      rw [f_Mo_itemFault_17] at h
      refine lv_iload hx hb d_Mo_itemFault_17 (lv_at hl 4 rfl) ?_
      refine lv_aload_n hx hb d_Mo_itemFault_19 rfl (lv_at hl 0 rfl) ?_
      refine x_get (v := .ref (ga g 70)) C D kc_Mo (by decide) sh_66 6 rfl (by decide) wf_Mo_19 rfl rfl d_Mo_itemFault_20 ?_
      refine lv_iload_n hx hb d_Mo_itemFault_23 rfl (lv_at hl 3 rfl) ?_
      refine x_iald C D (by decide) sh_70 d_Mo_itemFault_24 h (fun _ h => ?_)
      refine lv_icmp_ge hx hb d_Mo_itemFault_25 rfl (fun z => ?_) (fun z => ?_)
      · replace h := if_t z h
        refine lv_iinc (k := 3) (lv' := [(3, .int (a3 + 1)), (0, .ref (ga g 66)), (1, .int a1), (2, .int a2), (4, .int a4)]) hx hb d_Mo_itemFault_90 hl rfl (ii1 _) (by decide) rfl (fun ls hl => ?_)
        refine lv_goto hx hb d_Mo_itemFault_93 rfl ?_
        exact hK6 _ _ _ _ _ _ h D (lv_sub hl [1, 2, 3, 0] rfl)
      · replace h := if_f z h
        refine lv_iload_n hx hb d_Mo_itemFault_28 rfl (lv_at hl 1 rfl) ?_
        refine lv_if_ne hx hb d_Mo_itemFault_29 rfl (fun z => ?_) (fun z => ?_)
        · replace h := if_f z h
          exact B45 _ hK6 _ hK17 _ _ _ _ _ _ h D (lv_sub hl [0, 2, 3, 4] rfl)
        · replace h := if_t z h
          refine lv_aload_n hx hb d_Mo_itemFault_32 rfl (lv_at hl 0 rfl) ?_
          refine lv_iconst (v := 3) hx hb d_Mo_itemFault_33 (by decide) ?_
          refine lv_iload_n hx hb d_Mo_itemFault_34 rfl (lv_at hl 3 rfl) ?_
          refine lv_imul hx hb d_Mo_itemFault_35 ?_
          refine lv_iload hx hb d_Mo_itemFault_36 (lv_at hl 4 rfl) ?_
          refine lv_iadd hx hb d_Mo_itemFault_38 ?_
          obtain ⟨u2, hu2, h⟩ := bd_some h
          refine x_cip (rest := []) (r_V C D (c_Mo_loneIn l g hD ((3 * a3) + a4) S u2 hu2) wc_Mo_loneIn wm_Mo_121 wi_Mo_loneIn wd_Mo_loneIn (by decide) sh_66 kc_Mo.1 rfl rfl hl (Nat.le_of_ble_eq_true rfl) (by decide) d_Mo_itemFault_39) D (fun H locs D => ?_)
          refine lv_if_eq hx hb d_Mo_itemFault_42 rfl (fun z => ?_) (fun z => ?_)
          · replace h := if_t z h
            refine lv_iconst (v := 0) hx hb d_Mo_itemFault_49 (by decide) ?_
            exact B50 _ hK6 _ hK17 _ _ _ _ _ _ _ h D (lv_sub hl [0, 2, 3, 4] rfl)
          · replace h := if_f z h
            exact B45 _ hK6 _ hK17 _ _ _ _ _ _ h D (lv_sub hl [0, 2, 3, 4] rfl)
  have L6 : ∀ (n : Nat) (H : Heap) (locs : List Loc) (ls : Array Slot) (a1 : Int32) (a2 : Int32) (a3 : Int32), f_Mo_itemFault_6 n a1 a2 a3 S = some u → Dy g s S H locs → lv_has ls 5 [(0, .ref (ga g 66)), (1, .int a1), (2, .int a2), (3, .int a3)] → W p l e (rmD 3) s m args below meth c H locs 0 0 (MQ below (Qip g S u) args s 0 0 (gA g)) (F0 m 6 ls []) := by
    intro n
    induction n with
    | zero => intro H locs ls a1 a2 a3 h D hl; rw [f_Mo_itemFault_6] at h; cases h
    | succ n hK6 =>
      intro H locs ls a1 a2 a3 h D hl
      rw [f_Mo_itemFault_6] at h
      refine lv_iload_n hx hb d_Mo_itemFault_6 rfl (lv_at hl 3 rfl) ?_
      refine lv_aload_n hx hb d_Mo_itemFault_7 rfl (lv_at hl 0 rfl) ?_
      refine x_get (v := .int (S 66 3)) C D kc_Mo (by decide) sh_66 3 rfl (by decide) wf_Mo_53 rfl rfl d_Mo_itemFault_8 ?_
      refine lv_icmp_ge hx hb d_Mo_itemFault_11 rfl (fun z => ?_) (fun z => ?_)
      · replace h := if_t z h
        refine lv_iload_n hx hb d_Mo_itemFault_96 rfl (lv_at hl 1 rfl) ?_
        refine lv_if_eq hx hb d_Mo_itemFault_97 rfl (fun z => ?_) (fun z => ?_)
        · replace h := if_t z h
          refine lv_iload_n hx hb d_Mo_itemFault_105 rfl (lv_at hl 2 rfl) ?_
          refine lv_if_eq hx hb d_Mo_itemFault_106 rfl (fun z => ?_) (fun z => ?_)
          · replace h := if_t z h
            refine lv_iconst (v := 0) hx hb d_Mo_itemFault_114 (by decide) ?_
            exact x_irp C D h d_Mo_itemFault_115
          · replace h := if_f z h
            refine lv_bipush (v := (-9)) hx hb d_Mo_itemFault_109 (by decide) ?_
            refine lv_goto hx hb d_Mo_itemFault_111 rfl ?_
            exact x_irp C D h d_Mo_itemFault_115
        · replace h := if_f z h
          refine lv_bipush (v := (-8)) hx hb d_Mo_itemFault_100 (by decide) ?_
          refine lv_goto hx hb d_Mo_itemFault_102 rfl ?_
          exact x_irp C D h d_Mo_itemFault_115
      · replace h := if_f z h
        refine lv_iconst (v := 0) hx hb d_Mo_itemFault_14 (by decide) ?_
        refine lv_istore (lv' := [(4, .int 0), (0, .ref (ga g 66)), (1, .int a1), (2, .int a2), (3, .int a3)]) hx hb d_Mo_itemFault_15 hl (by decide) rfl (fun ls hl => ?_)
        exact L17 _ hK6 _ _ _ _ _ _ _ _ h D (lv_sub hl [1, 2, 3, 4, 0] rfl)
  unfold f_Mo_itemFault at h
  refine lv_iconst (v := 0) hx hb d_Mo_itemFault_0 (by decide) ?_
  refine lv_istore_n (lv' := [(1, .int 0), (0, .ref (ga g 66))]) hx hb d_Mo_itemFault_1 rfl hl (by decide) rfl (fun ls hl => ?_)
  refine lv_iconst (v := 0) hx hb d_Mo_itemFault_2 (by decide) ?_
  refine lv_istore_n (lv' := [(2, .int 0), (1, .int 0), (0, .ref (ga g 66))]) hx hb d_Mo_itemFault_3 rfl hl (by decide) rfl (fun ls hl => ?_)
  refine lv_iconst (v := 0) hx hb d_Mo_itemFault_4 (by decide) ?_
  refine lv_istore_n (lv' := [(3, .int 0), (2, .int 0), (1, .int 0), (0, .ref (ga g 66))]) hx hb d_Mo_itemFault_5 rfl hl (by decide) rfl (fun ls hl => ?_)
  exact L6 _ _ _ _ _ _ _ h D (lv_sub hl [3, 2, 1, 0] rfl)
theorem d_Mo_utf_0 : decode b_Mo_utf 0 = .ok (.iload_n 1, 1) := by decide +kernel
theorem d_Mo_utf_1 : decode b_Mo_utf 1 = .ok (.sipush 128, 3) := by decide +kernel
theorem d_Mo_utf_4 : decode b_Mo_utf 4 = .ok (.if_icmp .ge 12, 3) := by decide +kernel
theorem d_Mo_utf_7 : decode b_Mo_utf 7 = .ok (.aload_n 0, 1) := by decide +kernel
theorem d_Mo_utf_8 : decode b_Mo_utf 8 = .ok (.iload_n 1, 1) := by decide +kernel
theorem d_Mo_utf_9 : decode b_Mo_utf 9 = .ok (.iload_n 2, 1) := by decide +kernel
theorem d_Mo_utf_10 : decode b_Mo_utf 10 = .ok (.invokevirtual 149, 3) := by decide +kernel
theorem d_Mo_utf_13 : decode b_Mo_utf 13 = .ok (.goto 150, 3) := by decide +kernel
theorem d_Mo_utf_16 : decode b_Mo_utf 16 = .ok (.iload_n 1, 1) := by decide +kernel
theorem d_Mo_utf_17 : decode b_Mo_utf 17 = .ok (.sipush 2048, 3) := by decide +kernel
theorem d_Mo_utf_20 : decode b_Mo_utf 20 = .ok (.if_icmp .ge 32, 3) := by decide +kernel
theorem d_Mo_utf_23 : decode b_Mo_utf 23 = .ok (.aload_n 0, 1) := by decide +kernel
theorem d_Mo_utf_24 : decode b_Mo_utf 24 = .ok (.sipush 192, 3) := by decide +kernel
theorem d_Mo_utf_27 : decode b_Mo_utf 27 = .ok (.iload_n 1, 1) := by decide +kernel
theorem d_Mo_utf_28 : decode b_Mo_utf 28 = .ok (.bipush 64, 2) := by decide +kernel
theorem d_Mo_utf_30 : decode b_Mo_utf 30 = .ok (.idiv, 1) := by decide +kernel
theorem d_Mo_utf_31 : decode b_Mo_utf 31 = .ok (.iadd, 1) := by decide +kernel
theorem d_Mo_utf_32 : decode b_Mo_utf 32 = .ok (.iload_n 2, 1) := by decide +kernel
theorem d_Mo_utf_33 : decode b_Mo_utf 33 = .ok (.invokevirtual 149, 3) := by decide +kernel
theorem d_Mo_utf_36 : decode b_Mo_utf 36 = .ok (.aload_n 0, 1) := by decide +kernel
theorem d_Mo_utf_37 : decode b_Mo_utf 37 = .ok (.sipush 128, 3) := by decide +kernel
theorem d_Mo_utf_40 : decode b_Mo_utf 40 = .ok (.iload_n 1, 1) := by decide +kernel
theorem d_Mo_utf_41 : decode b_Mo_utf 41 = .ok (.bipush 64, 2) := by decide +kernel
theorem d_Mo_utf_43 : decode b_Mo_utf 43 = .ok (.irem, 1) := by decide +kernel
theorem d_Mo_utf_44 : decode b_Mo_utf 44 = .ok (.iadd, 1) := by decide +kernel
theorem d_Mo_utf_45 : decode b_Mo_utf 45 = .ok (.iload_n 2, 1) := by decide +kernel
theorem d_Mo_utf_46 : decode b_Mo_utf 46 = .ok (.invokevirtual 149, 3) := by decide +kernel
theorem d_Mo_utf_49 : decode b_Mo_utf 49 = .ok (.goto 114, 3) := by decide +kernel
theorem d_Mo_utf_52 : decode b_Mo_utf 52 = .ok (.iload_n 1, 1) := by decide +kernel
theorem d_Mo_utf_53 : decode b_Mo_utf 53 = .ok (.ldc 153, 2) := by decide +kernel
theorem d_Mo_utf_55 : decode b_Mo_utf 55 = .ok (.if_icmp .ge 49, 3) := by decide +kernel
theorem d_Mo_utf_58 : decode b_Mo_utf 58 = .ok (.aload_n 0, 1) := by decide +kernel
theorem d_Mo_utf_59 : decode b_Mo_utf 59 = .ok (.sipush 224, 3) := by decide +kernel
theorem d_Mo_utf_62 : decode b_Mo_utf 62 = .ok (.iload_n 1, 1) := by decide +kernel
theorem d_Mo_utf_63 : decode b_Mo_utf 63 = .ok (.sipush 4096, 3) := by decide +kernel
theorem d_Mo_utf_66 : decode b_Mo_utf 66 = .ok (.idiv, 1) := by decide +kernel
theorem d_Mo_utf_67 : decode b_Mo_utf 67 = .ok (.iadd, 1) := by decide +kernel
theorem d_Mo_utf_68 : decode b_Mo_utf 68 = .ok (.iload_n 2, 1) := by decide +kernel
theorem d_Mo_utf_69 : decode b_Mo_utf 69 = .ok (.invokevirtual 149, 3) := by decide +kernel
theorem d_Mo_utf_72 : decode b_Mo_utf 72 = .ok (.aload_n 0, 1) := by decide +kernel
theorem d_Mo_utf_73 : decode b_Mo_utf 73 = .ok (.sipush 128, 3) := by decide +kernel
theorem d_Mo_utf_76 : decode b_Mo_utf 76 = .ok (.iload_n 1, 1) := by decide +kernel
theorem d_Mo_utf_77 : decode b_Mo_utf 77 = .ok (.bipush 64, 2) := by decide +kernel
theorem d_Mo_utf_79 : decode b_Mo_utf 79 = .ok (.idiv, 1) := by decide +kernel
theorem d_Mo_utf_80 : decode b_Mo_utf 80 = .ok (.bipush 64, 2) := by decide +kernel
theorem d_Mo_utf_82 : decode b_Mo_utf 82 = .ok (.irem, 1) := by decide +kernel
theorem d_Mo_utf_83 : decode b_Mo_utf 83 = .ok (.iadd, 1) := by decide +kernel
theorem d_Mo_utf_84 : decode b_Mo_utf 84 = .ok (.iload_n 2, 1) := by decide +kernel
theorem d_Mo_utf_85 : decode b_Mo_utf 85 = .ok (.invokevirtual 149, 3) := by decide +kernel
theorem d_Mo_utf_88 : decode b_Mo_utf 88 = .ok (.aload_n 0, 1) := by decide +kernel
theorem d_Mo_utf_89 : decode b_Mo_utf 89 = .ok (.sipush 128, 3) := by decide +kernel
theorem d_Mo_utf_92 : decode b_Mo_utf 92 = .ok (.iload_n 1, 1) := by decide +kernel
theorem d_Mo_utf_93 : decode b_Mo_utf 93 = .ok (.bipush 64, 2) := by decide +kernel
theorem d_Mo_utf_95 : decode b_Mo_utf 95 = .ok (.irem, 1) := by decide +kernel
theorem d_Mo_utf_96 : decode b_Mo_utf 96 = .ok (.iadd, 1) := by decide +kernel
theorem d_Mo_utf_97 : decode b_Mo_utf 97 = .ok (.iload_n 2, 1) := by decide +kernel
theorem d_Mo_utf_98 : decode b_Mo_utf 98 = .ok (.invokevirtual 149, 3) := by decide +kernel
theorem d_Mo_utf_101 : decode b_Mo_utf 101 = .ok (.goto 62, 3) := by decide +kernel
theorem d_Mo_utf_104 : decode b_Mo_utf 104 = .ok (.aload_n 0, 1) := by decide +kernel
theorem d_Mo_utf_105 : decode b_Mo_utf 105 = .ok (.sipush 240, 3) := by decide +kernel
theorem d_Mo_utf_108 : decode b_Mo_utf 108 = .ok (.iload_n 1, 1) := by decide +kernel
theorem d_Mo_utf_109 : decode b_Mo_utf 109 = .ok (.ldc 154, 2) := by decide +kernel
theorem d_Mo_utf_111 : decode b_Mo_utf 111 = .ok (.idiv, 1) := by decide +kernel
theorem d_Mo_utf_112 : decode b_Mo_utf 112 = .ok (.iadd, 1) := by decide +kernel
theorem d_Mo_utf_113 : decode b_Mo_utf 113 = .ok (.iload_n 2, 1) := by decide +kernel
theorem d_Mo_utf_114 : decode b_Mo_utf 114 = .ok (.invokevirtual 149, 3) := by decide +kernel
theorem d_Mo_utf_117 : decode b_Mo_utf 117 = .ok (.aload_n 0, 1) := by decide +kernel
theorem d_Mo_utf_118 : decode b_Mo_utf 118 = .ok (.sipush 128, 3) := by decide +kernel
theorem d_Mo_utf_121 : decode b_Mo_utf 121 = .ok (.iload_n 1, 1) := by decide +kernel
theorem d_Mo_utf_122 : decode b_Mo_utf 122 = .ok (.sipush 4096, 3) := by decide +kernel
theorem d_Mo_utf_125 : decode b_Mo_utf 125 = .ok (.idiv, 1) := by decide +kernel
theorem d_Mo_utf_126 : decode b_Mo_utf 126 = .ok (.bipush 64, 2) := by decide +kernel
theorem d_Mo_utf_128 : decode b_Mo_utf 128 = .ok (.irem, 1) := by decide +kernel
theorem d_Mo_utf_129 : decode b_Mo_utf 129 = .ok (.iadd, 1) := by decide +kernel
theorem d_Mo_utf_130 : decode b_Mo_utf 130 = .ok (.iload_n 2, 1) := by decide +kernel
theorem d_Mo_utf_131 : decode b_Mo_utf 131 = .ok (.invokevirtual 149, 3) := by decide +kernel
theorem d_Mo_utf_134 : decode b_Mo_utf 134 = .ok (.aload_n 0, 1) := by decide +kernel
theorem d_Mo_utf_135 : decode b_Mo_utf 135 = .ok (.sipush 128, 3) := by decide +kernel
theorem d_Mo_utf_138 : decode b_Mo_utf 138 = .ok (.iload_n 1, 1) := by decide +kernel
theorem d_Mo_utf_139 : decode b_Mo_utf 139 = .ok (.bipush 64, 2) := by decide +kernel
theorem d_Mo_utf_141 : decode b_Mo_utf 141 = .ok (.idiv, 1) := by decide +kernel
theorem d_Mo_utf_142 : decode b_Mo_utf 142 = .ok (.bipush 64, 2) := by decide +kernel
theorem d_Mo_utf_144 : decode b_Mo_utf 144 = .ok (.irem, 1) := by decide +kernel
theorem d_Mo_utf_145 : decode b_Mo_utf 145 = .ok (.iadd, 1) := by decide +kernel
theorem d_Mo_utf_146 : decode b_Mo_utf 146 = .ok (.iload_n 2, 1) := by decide +kernel
theorem d_Mo_utf_147 : decode b_Mo_utf 147 = .ok (.invokevirtual 149, 3) := by decide +kernel
theorem d_Mo_utf_150 : decode b_Mo_utf 150 = .ok (.aload_n 0, 1) := by decide +kernel
theorem d_Mo_utf_151 : decode b_Mo_utf 151 = .ok (.sipush 128, 3) := by decide +kernel
theorem d_Mo_utf_154 : decode b_Mo_utf 154 = .ok (.iload_n 1, 1) := by decide +kernel
theorem d_Mo_utf_155 : decode b_Mo_utf 155 = .ok (.bipush 64, 2) := by decide +kernel
theorem d_Mo_utf_157 : decode b_Mo_utf 157 = .ok (.irem, 1) := by decide +kernel
theorem d_Mo_utf_158 : decode b_Mo_utf 158 = .ok (.iadd, 1) := by decide +kernel
theorem d_Mo_utf_159 : decode b_Mo_utf 159 = .ok (.iload_n 2, 1) := by decide +kernel
theorem d_Mo_utf_160 : decode b_Mo_utf 160 = .ok (.invokevirtual 149, 3) := by decide +kernel
theorem d_Mo_utf_163 : decode b_Mo_utf 163 = .ok (.return_, 1) := by decide +kernel
def f_Mo_utf (a1 : Int32) (a2 : Int32) (S : zSt) : Option zSt := (if 128 ≤ a1 then (if 2048 ≤ a1 then (if 65536 ≤ a1 then gdz 262144 (((f_Mo_single (240 + (a1 / 262144)) a2 S).bind fun u2 => gdz 4096 (gdz 64 (((f_Mo_single (128 + ((a1 / 4096) - (a1 / 4096) / 64 * 64)) a2 u2).bind fun u5 => gdz 64 (gdz 64 (((f_Mo_single (128 + ((a1 / 64) - (a1 / 64) / 64 * 64)) a2 u5).bind fun u8 => gdz 64 (((f_Mo_single (128 + (a1 - a1 / 64 * 64)) a2 u8).bind fun u10 => (some u10))))))))))) else gdz 4096 (((f_Mo_single (224 + (a1 / 4096)) a2 S).bind fun u12 => gdz 64 (gdz 64 (((f_Mo_single (128 + ((a1 / 64) - (a1 / 64) / 64 * 64)) a2 u12).bind fun u15 => gdz 64 (((f_Mo_single (128 + (a1 - a1 / 64 * 64)) a2 u15).bind fun u17 => (some u17))))))))) else gdz 64 (((f_Mo_single (192 + (a1 / 64)) a2 S).bind fun u19 => gdz 64 (((f_Mo_single (128 + (a1 - a1 / 64 * 64)) a2 u19).bind fun u21 => (some u21)))))) else ((f_Mo_single a1 a2 S).bind fun u22 => (some u22)))
set_option maxHeartbeats 4000000 in
set_option maxRecDepth 100000 in
theorem c_Mo_utf (l : Launch) (g : zG) (hD : GD g) (a1 : Int32) (a2 : Int32) (S : zSt) (u : zSt) (h : f_Mo_utf a1 a2 S = some u) : Met l y_Mo_utf (mw y_Mo_utf b_Mo_utf 3 none) (rmD 3) (Pw g [.ref (ga g 66), .int a1, .int a2] S) (Qvs g u) 0 0 (gA g) := by
  refine z_go (own := R_Mo) (lv0 := [(0, .ref (ga g 66)), (1, .int a1), (2, .int a2)]) hD (by decide) rfl (Nat.le_of_ble_eq_true rfl) rfl ?_
  intro p e s m args below meth c C D ls hl
  have hx := C.1
  have hb := C.2.1
  have hown := C.2.2.2.1
  have hts := C.2.2.2.2.1
  unfold f_Mo_utf at h
  refine lv_iload_n hx hb d_Mo_utf_0 rfl (lv_at hl 1 rfl) ?_
  refine lv_sipush (v := 128) hx hb d_Mo_utf_1 (by decide) ?_
  refine lv_icmp_ge hx hb d_Mo_utf_4 rfl (fun z => ?_) (fun z => ?_)
  · replace h := if_t z h
    refine lv_iload_n hx hb d_Mo_utf_16 rfl (lv_at hl 1 rfl) ?_
    refine lv_sipush (v := 2048) hx hb d_Mo_utf_17 (by decide) ?_
    refine lv_icmp_ge hx hb d_Mo_utf_20 rfl (fun z => ?_) (fun z => ?_)
    · replace h := if_t z h
      refine lv_iload_n hx hb d_Mo_utf_52 rfl (lv_at hl 1 rfl) ?_
      refine lv_ldc (v := 65536) hx hb hown (hts _ wk_Mo_153) d_Mo_utf_53 ?_
      refine lv_icmp_ge hx hb d_Mo_utf_55 rfl (fun z => ?_) (fun z => ?_)
      · replace h := if_t z h
        refine lv_aload_n hx hb d_Mo_utf_104 rfl (lv_at hl 0 rfl) ?_
        refine lv_sipush (v := 240) hx hb d_Mo_utf_105 (by decide) ?_
        refine lv_iload_n hx hb d_Mo_utf_108 rfl (lv_at hl 1 rfl) ?_
        refine lv_ldc (v := 262144) hx hb hown (hts _ wk_Mo_154) d_Mo_utf_109 ?_
        obtain ⟨z1, h⟩ := gdz_some h
        refine lv_idiv hx hb d_Mo_utf_111 z1 ?_
        refine lv_iadd hx hb d_Mo_utf_112 ?_
        refine lv_iload_n hx hb d_Mo_utf_113 rfl (lv_at hl 2 rfl) ?_
        obtain ⟨u2, hu2, h⟩ := bd_some h
        refine x_cvs (rest := []) (r_V C D (c_Mo_single l g hD (240 + (a1 / 262144)) a2 S u2 hu2) wc_Mo_single wm_Mo_149 wi_Mo_single wd_Mo_single (by decide) sh_66 kc_Mo.1 rfl rfl hl (Nat.le_of_ble_eq_true rfl) (by decide) d_Mo_utf_114) D (fun H locs D => ?_)
        refine lv_aload_n hx hb d_Mo_utf_117 rfl (lv_at hl 0 rfl) ?_
        refine lv_sipush (v := 128) hx hb d_Mo_utf_118 (by decide) ?_
        refine lv_iload_n hx hb d_Mo_utf_121 rfl (lv_at hl 1 rfl) ?_
        refine lv_sipush (v := 4096) hx hb d_Mo_utf_122 (by decide) ?_
        obtain ⟨z3, h⟩ := gdz_some h
        refine lv_idiv hx hb d_Mo_utf_125 z3 ?_
        refine lv_bipush (v := 64) hx hb d_Mo_utf_126 (by decide) ?_
        obtain ⟨z4, h⟩ := gdz_some h
        refine lv_irem hx hb d_Mo_utf_128 z4 ?_
        refine lv_iadd hx hb d_Mo_utf_129 ?_
        refine lv_iload_n hx hb d_Mo_utf_130 rfl (lv_at hl 2 rfl) ?_
        obtain ⟨u5, hu5, h⟩ := bd_some h
        refine x_cvs (rest := []) (r_V C D (c_Mo_single l g hD (128 + ((a1 / 4096) - (a1 / 4096) / 64 * 64)) a2 u2 u5 hu5) wc_Mo_single wm_Mo_149 wi_Mo_single wd_Mo_single (by decide) sh_66 kc_Mo.1 rfl rfl hl (Nat.le_of_ble_eq_true rfl) (by decide) d_Mo_utf_131) D (fun H locs D => ?_)
        refine lv_aload_n hx hb d_Mo_utf_134 rfl (lv_at hl 0 rfl) ?_
        refine lv_sipush (v := 128) hx hb d_Mo_utf_135 (by decide) ?_
        refine lv_iload_n hx hb d_Mo_utf_138 rfl (lv_at hl 1 rfl) ?_
        refine lv_bipush (v := 64) hx hb d_Mo_utf_139 (by decide) ?_
        obtain ⟨z6, h⟩ := gdz_some h
        refine lv_idiv hx hb d_Mo_utf_141 z6 ?_
        refine lv_bipush (v := 64) hx hb d_Mo_utf_142 (by decide) ?_
        obtain ⟨z7, h⟩ := gdz_some h
        refine lv_irem hx hb d_Mo_utf_144 z7 ?_
        refine lv_iadd hx hb d_Mo_utf_145 ?_
        refine lv_iload_n hx hb d_Mo_utf_146 rfl (lv_at hl 2 rfl) ?_
        obtain ⟨u8, hu8, h⟩ := bd_some h
        refine x_cvs (rest := []) (r_V C D (c_Mo_single l g hD (128 + ((a1 / 64) - (a1 / 64) / 64 * 64)) a2 u5 u8 hu8) wc_Mo_single wm_Mo_149 wi_Mo_single wd_Mo_single (by decide) sh_66 kc_Mo.1 rfl rfl hl (Nat.le_of_ble_eq_true rfl) (by decide) d_Mo_utf_147) D (fun H locs D => ?_)
        refine lv_aload_n hx hb d_Mo_utf_150 rfl (lv_at hl 0 rfl) ?_
        refine lv_sipush (v := 128) hx hb d_Mo_utf_151 (by decide) ?_
        refine lv_iload_n hx hb d_Mo_utf_154 rfl (lv_at hl 1 rfl) ?_
        refine lv_bipush (v := 64) hx hb d_Mo_utf_155 (by decide) ?_
        obtain ⟨z9, h⟩ := gdz_some h
        refine lv_irem hx hb d_Mo_utf_157 z9 ?_
        refine lv_iadd hx hb d_Mo_utf_158 ?_
        refine lv_iload_n hx hb d_Mo_utf_159 rfl (lv_at hl 2 rfl) ?_
        obtain ⟨u10, hu10, h⟩ := bd_some h
        refine x_cvs (rest := []) (r_V C D (c_Mo_single l g hD (128 + (a1 - a1 / 64 * 64)) a2 u8 u10 hu10) wc_Mo_single wm_Mo_149 wi_Mo_single wd_Mo_single (by decide) sh_66 kc_Mo.1 rfl rfl hl (Nat.le_of_ble_eq_true rfl) (by decide) d_Mo_utf_160) D (fun H locs D => ?_)
        exact x_vrs C D h d_Mo_utf_163
      · replace h := if_f z h
        refine lv_aload_n hx hb d_Mo_utf_58 rfl (lv_at hl 0 rfl) ?_
        refine lv_sipush (v := 224) hx hb d_Mo_utf_59 (by decide) ?_
        refine lv_iload_n hx hb d_Mo_utf_62 rfl (lv_at hl 1 rfl) ?_
        refine lv_sipush (v := 4096) hx hb d_Mo_utf_63 (by decide) ?_
        obtain ⟨z11, h⟩ := gdz_some h
        refine lv_idiv hx hb d_Mo_utf_66 z11 ?_
        refine lv_iadd hx hb d_Mo_utf_67 ?_
        refine lv_iload_n hx hb d_Mo_utf_68 rfl (lv_at hl 2 rfl) ?_
        obtain ⟨u12, hu12, h⟩ := bd_some h
        refine x_cvs (rest := []) (r_V C D (c_Mo_single l g hD (224 + (a1 / 4096)) a2 S u12 hu12) wc_Mo_single wm_Mo_149 wi_Mo_single wd_Mo_single (by decide) sh_66 kc_Mo.1 rfl rfl hl (Nat.le_of_ble_eq_true rfl) (by decide) d_Mo_utf_69) D (fun H locs D => ?_)
        refine lv_aload_n hx hb d_Mo_utf_72 rfl (lv_at hl 0 rfl) ?_
        refine lv_sipush (v := 128) hx hb d_Mo_utf_73 (by decide) ?_
        refine lv_iload_n hx hb d_Mo_utf_76 rfl (lv_at hl 1 rfl) ?_
        refine lv_bipush (v := 64) hx hb d_Mo_utf_77 (by decide) ?_
        obtain ⟨z13, h⟩ := gdz_some h
        refine lv_idiv hx hb d_Mo_utf_79 z13 ?_
        refine lv_bipush (v := 64) hx hb d_Mo_utf_80 (by decide) ?_
        obtain ⟨z14, h⟩ := gdz_some h
        refine lv_irem hx hb d_Mo_utf_82 z14 ?_
        refine lv_iadd hx hb d_Mo_utf_83 ?_
        refine lv_iload_n hx hb d_Mo_utf_84 rfl (lv_at hl 2 rfl) ?_
        obtain ⟨u15, hu15, h⟩ := bd_some h
        refine x_cvs (rest := []) (r_V C D (c_Mo_single l g hD (128 + ((a1 / 64) - (a1 / 64) / 64 * 64)) a2 u12 u15 hu15) wc_Mo_single wm_Mo_149 wi_Mo_single wd_Mo_single (by decide) sh_66 kc_Mo.1 rfl rfl hl (Nat.le_of_ble_eq_true rfl) (by decide) d_Mo_utf_85) D (fun H locs D => ?_)
        refine lv_aload_n hx hb d_Mo_utf_88 rfl (lv_at hl 0 rfl) ?_
        refine lv_sipush (v := 128) hx hb d_Mo_utf_89 (by decide) ?_
        refine lv_iload_n hx hb d_Mo_utf_92 rfl (lv_at hl 1 rfl) ?_
        refine lv_bipush (v := 64) hx hb d_Mo_utf_93 (by decide) ?_
        obtain ⟨z16, h⟩ := gdz_some h
        refine lv_irem hx hb d_Mo_utf_95 z16 ?_
        refine lv_iadd hx hb d_Mo_utf_96 ?_
        refine lv_iload_n hx hb d_Mo_utf_97 rfl (lv_at hl 2 rfl) ?_
        obtain ⟨u17, hu17, h⟩ := bd_some h
        refine x_cvs (rest := []) (r_V C D (c_Mo_single l g hD (128 + (a1 - a1 / 64 * 64)) a2 u15 u17 hu17) wc_Mo_single wm_Mo_149 wi_Mo_single wd_Mo_single (by decide) sh_66 kc_Mo.1 rfl rfl hl (Nat.le_of_ble_eq_true rfl) (by decide) d_Mo_utf_98) D (fun H locs D => ?_)
        refine lv_goto hx hb d_Mo_utf_101 rfl ?_
        exact x_vrs C D h d_Mo_utf_163
    · replace h := if_f z h
      refine lv_aload_n hx hb d_Mo_utf_23 rfl (lv_at hl 0 rfl) ?_
      refine lv_sipush (v := 192) hx hb d_Mo_utf_24 (by decide) ?_
      refine lv_iload_n hx hb d_Mo_utf_27 rfl (lv_at hl 1 rfl) ?_
      refine lv_bipush (v := 64) hx hb d_Mo_utf_28 (by decide) ?_
      obtain ⟨z18, h⟩ := gdz_some h
      refine lv_idiv hx hb d_Mo_utf_30 z18 ?_
      refine lv_iadd hx hb d_Mo_utf_31 ?_
      refine lv_iload_n hx hb d_Mo_utf_32 rfl (lv_at hl 2 rfl) ?_
      obtain ⟨u19, hu19, h⟩ := bd_some h
      refine x_cvs (rest := []) (r_V C D (c_Mo_single l g hD (192 + (a1 / 64)) a2 S u19 hu19) wc_Mo_single wm_Mo_149 wi_Mo_single wd_Mo_single (by decide) sh_66 kc_Mo.1 rfl rfl hl (Nat.le_of_ble_eq_true rfl) (by decide) d_Mo_utf_33) D (fun H locs D => ?_)
      refine lv_aload_n hx hb d_Mo_utf_36 rfl (lv_at hl 0 rfl) ?_
      refine lv_sipush (v := 128) hx hb d_Mo_utf_37 (by decide) ?_
      refine lv_iload_n hx hb d_Mo_utf_40 rfl (lv_at hl 1 rfl) ?_
      refine lv_bipush (v := 64) hx hb d_Mo_utf_41 (by decide) ?_
      obtain ⟨z20, h⟩ := gdz_some h
      refine lv_irem hx hb d_Mo_utf_43 z20 ?_
      refine lv_iadd hx hb d_Mo_utf_44 ?_
      refine lv_iload_n hx hb d_Mo_utf_45 rfl (lv_at hl 2 rfl) ?_
      obtain ⟨u21, hu21, h⟩ := bd_some h
      refine x_cvs (rest := []) (r_V C D (c_Mo_single l g hD (128 + (a1 - a1 / 64 * 64)) a2 u19 u21 hu21) wc_Mo_single wm_Mo_149 wi_Mo_single wd_Mo_single (by decide) sh_66 kc_Mo.1 rfl rfl hl (Nat.le_of_ble_eq_true rfl) (by decide) d_Mo_utf_46) D (fun H locs D => ?_)
      refine lv_goto hx hb d_Mo_utf_49 rfl ?_
      exact x_vrs C D h d_Mo_utf_163
  · replace h := if_f z h
    refine lv_aload_n hx hb d_Mo_utf_7 rfl (lv_at hl 0 rfl) ?_
    refine lv_iload_n hx hb d_Mo_utf_8 rfl (lv_at hl 1 rfl) ?_
    refine lv_iload_n hx hb d_Mo_utf_9 rfl (lv_at hl 2 rfl) ?_
    obtain ⟨u22, hu22, h⟩ := bd_some h
    refine x_cvs (rest := []) (r_V C D (c_Mo_single l g hD a1 a2 S u22 hu22) wc_Mo_single wm_Mo_149 wi_Mo_single wd_Mo_single (by decide) sh_66 kc_Mo.1 rfl rfl hl (Nat.le_of_ble_eq_true rfl) (by decide) d_Mo_utf_10) D (fun H locs D => ?_)
    refine lv_goto hx hb d_Mo_utf_13 rfl ?_
    exact x_vrs C D h d_Mo_utf_163
theorem d_Mo_fieldLines_0 : decode b_Mo_fieldLines 0 = .ok (.iconst 0, 1) := by decide +kernel
theorem d_Mo_fieldLines_1 : decode b_Mo_fieldLines 1 = .ok (.istore_n 2, 1) := by decide +kernel
theorem d_Mo_fieldLines_2 : decode b_Mo_fieldLines 2 = .ok (.aload_n 0, 1) := by decide +kernel
theorem d_Mo_fieldLines_3 : decode b_Mo_fieldLines 3 = .ok (.invokevirtual 269, 3) := by decide +kernel
theorem d_Mo_fieldLines_6 : decode b_Mo_fieldLines 6 = .ok (.istore_n 3, 1) := by decide +kernel
theorem d_Mo_fieldLines_7 : decode b_Mo_fieldLines 7 = .ok (.iload_n 3, 1) := by decide +kernel
theorem d_Mo_fieldLines_8 : decode b_Mo_fieldLines 8 = .ok (.iconst 1, 1) := by decide +kernel
theorem d_Mo_fieldLines_9 : decode b_Mo_fieldLines 9 = .ok (.if_icmp .ne 69, 3) := by decide +kernel
theorem d_Mo_fieldLines_12 : decode b_Mo_fieldLines 12 = .ok (.aload_n 0, 1) := by decide +kernel
theorem d_Mo_fieldLines_13 : decode b_Mo_fieldLines 13 = .ok (.getfield 237, 3) := by decide +kernel
theorem d_Mo_fieldLines_16 : decode b_Mo_fieldLines 16 = .ok (.aload_n 0, 1) := by decide +kernel
theorem d_Mo_fieldLines_17 : decode b_Mo_fieldLines 17 = .ok (.getfield 231, 3) := by decide +kernel
theorem d_Mo_fieldLines_20 : decode b_Mo_fieldLines 20 = .ok (.if_icmp .le 58, 3) := by decide +kernel
theorem d_Mo_fieldLines_23 : decode b_Mo_fieldLines 23 = .ok (.iload_n 2, 1) := by decide +kernel
theorem d_Mo_fieldLines_24 : decode b_Mo_fieldLines 24 = .ok (.bipush 8, 2) := by decide +kernel
theorem d_Mo_fieldLines_26 : decode b_Mo_fieldLines 26 = .ok (.if_icmp .eq 11, 3) := by decide +kernel
theorem d_Mo_fieldLines_29 : decode b_Mo_fieldLines 29 = .ok (.aload_n 0, 1) := by decide +kernel
theorem d_Mo_fieldLines_30 : decode b_Mo_fieldLines 30 = .ok (.iload_n 1, 1) := by decide +kernel
theorem d_Mo_fieldLines_31 : decode b_Mo_fieldLines 31 = .ok (.invokevirtual 272, 3) := by decide +kernel
theorem d_Mo_fieldLines_34 : decode b_Mo_fieldLines 34 = .ok (.ifCond .ne 5, 3) := by decide +kernel
theorem d_Mo_fieldLines_37 : decode b_Mo_fieldLines 37 = .ok (.iconst (-1), 1) := by decide +kernel
theorem d_Mo_fieldLines_38 : decode b_Mo_fieldLines 38 = .ok (.ireturn, 1) := by decide +kernel
theorem d_Mo_fieldLines_39 : decode b_Mo_fieldLines 39 = .ok (.iinc 2 1, 3) := by decide +kernel
theorem d_Mo_fieldLines_42 : decode b_Mo_fieldLines 42 = .ok (.aload_n 0, 1) := by decide +kernel
theorem d_Mo_fieldLines_43 : decode b_Mo_fieldLines 43 = .ok (.dup, 1) := by decide +kernel
theorem d_Mo_fieldLines_44 : decode b_Mo_fieldLines 44 = .ok (.getfield 276, 3) := by decide +kernel
theorem d_Mo_fieldLines_47 : decode b_Mo_fieldLines 47 = .ok (.iload_n 1, 1) := by decide +kernel
theorem d_Mo_fieldLines_48 : decode b_Mo_fieldLines 48 = .ok (.ifCond .eq 7, 3) := by decide +kernel
theorem d_Mo_fieldLines_51 : decode b_Mo_fieldLines 51 = .ok (.iconst 0, 1) := by decide +kernel
theorem d_Mo_fieldLines_52 : decode b_Mo_fieldLines 52 = .ok (.goto 4, 3) := by decide +kernel
theorem d_Mo_fieldLines_55 : decode b_Mo_fieldLines 55 = .ok (.iconst 1, 1) := by decide +kernel
theorem d_Mo_fieldLines_56 : decode b_Mo_fieldLines 56 = .ok (.iadd, 1) := by decide +kernel
theorem d_Mo_fieldLines_57 : decode b_Mo_fieldLines 57 = .ok (.putfield 276, 3) := by decide +kernel
theorem d_Mo_fieldLines_60 : decode b_Mo_fieldLines 60 = .ok (.aload_n 0, 1) := by decide +kernel
theorem d_Mo_fieldLines_61 : decode b_Mo_fieldLines 61 = .ok (.aload_n 0, 1) := by decide +kernel
theorem d_Mo_fieldLines_62 : decode b_Mo_fieldLines 62 = .ok (.getfield 237, 3) := by decide +kernel
theorem d_Mo_fieldLines_65 : decode b_Mo_fieldLines 65 = .ok (.iconst 2, 1) := by decide +kernel
theorem d_Mo_fieldLines_66 : decode b_Mo_fieldLines 66 = .ok (.iadd, 1) := by decide +kernel
theorem d_Mo_fieldLines_67 : decode b_Mo_fieldLines 67 = .ok (.putfield 231, 3) := by decide +kernel
theorem d_Mo_fieldLines_70 : decode b_Mo_fieldLines 70 = .ok (.aload_n 0, 1) := by decide +kernel
theorem d_Mo_fieldLines_71 : decode b_Mo_fieldLines 71 = .ok (.invokevirtual 269, 3) := by decide +kernel
theorem d_Mo_fieldLines_74 : decode b_Mo_fieldLines 74 = .ok (.istore_n 3, 1) := by decide +kernel
theorem d_Mo_fieldLines_75 : decode b_Mo_fieldLines 75 = .ok (.goto (-68), 3) := by decide +kernel
theorem d_Mo_fieldLines_78 : decode b_Mo_fieldLines 78 = .ok (.aload_n 0, 1) := by decide +kernel
theorem d_Mo_fieldLines_79 : decode b_Mo_fieldLines 79 = .ok (.iload_n 3, 1) := by decide +kernel
theorem d_Mo_fieldLines_80 : decode b_Mo_fieldLines 80 = .ok (.iconst 1, 1) := by decide +kernel
theorem d_Mo_fieldLines_81 : decode b_Mo_fieldLines 81 = .ok (.if_icmp .ne 12, 3) := by decide +kernel
theorem d_Mo_fieldLines_84 : decode b_Mo_fieldLines 84 = .ok (.aload_n 0, 1) := by decide +kernel
theorem d_Mo_fieldLines_85 : decode b_Mo_fieldLines 85 = .ok (.getfield 237, 3) := by decide +kernel
theorem d_Mo_fieldLines_88 : decode b_Mo_fieldLines 88 = .ok (.iconst 2, 1) := by decide +kernel
theorem d_Mo_fieldLines_89 : decode b_Mo_fieldLines 89 = .ok (.iadd, 1) := by decide +kernel
theorem d_Mo_fieldLines_90 : decode b_Mo_fieldLines 90 = .ok (.goto 7, 3) := by decide +kernel
theorem d_Mo_fieldLines_93 : decode b_Mo_fieldLines 93 = .ok (.aload_n 0, 1) := by decide +kernel
theorem d_Mo_fieldLines_94 : decode b_Mo_fieldLines 94 = .ok (.getfield 231, 3) := by decide +kernel
theorem d_Mo_fieldLines_97 : decode b_Mo_fieldLines 97 = .ok (.putfield 231, 3) := by decide +kernel
theorem d_Mo_fieldLines_100 : decode b_Mo_fieldLines 100 = .ok (.iload_n 3, 1) := by decide +kernel
theorem d_Mo_fieldLines_101 : decode b_Mo_fieldLines 101 = .ok (.ireturn, 1) := by decide +kernel
def f_Mo_fieldLines_97 (a3 : Int32) (t0 : Int32) (S : zSt) : Option (Int32 × zSt) := sq (su S 66 21 t0) fun S2 => (some (a3, S2))
def f_Mo_fieldLines_78 (a3 : Int32) (S : zSt) : Option (Int32 × zSt) := (if a3 = 1 then (f_Mo_fieldLines_97 a3 ((S 66 22) + 2) S) else (f_Mo_fieldLines_97 a3 (S 66 21) S))
def f_Mo_fieldLines_56 (K7 : Int32 → Int32 → Int32 → zSt → Option (Int32 × zSt)) (a1 : Int32) (a2 : Int32) (t0 : Int32) (t1 : Int32) (S : zSt) : Option (Int32 × zSt) := sq (su S 66 25 (t1 + t0)) fun S4 => sq (su S4 66 21 ((S4 66 22) + 2)) fun S5 => ((f_Mo_line S5).bind fun u6 => (K7 a1 a2 u6.1 u6.2))
def f_Mo_fieldLines_7 : Nat → Int32 → Int32 → Int32 → zSt → Option (Int32 × zSt)
  | 0, _, _, _, _ => none
  | n + 1, a1, a2, a3, S => (if a3 = 1 then (if (S 66 22) ≤ (S 66 21) then (f_Mo_fieldLines_78 a3 S) else (if a2 = 8 then (some ((-1), S)) else ((f_Mo_fieldLine a1 S).bind fun u3 => (if u3.1 = 0 then (some ((-1), u3.2)) else (if a1 = 0 then (f_Mo_fieldLines_56 (f_Mo_fieldLines_7 n) a1 (a2 + 1) 1 (u3.2 66 25) u3.2) else (f_Mo_fieldLines_56 (f_Mo_fieldLines_7 n) a1 (a2 + 1) 0 (u3.2 66 25) u3.2)))))) else (f_Mo_fieldLines_78 a3 S))
def f_Mo_fieldLines (a1 : Int32) (S : zSt) : Option (Int32 × zSt) := ((f_Mo_line S).bind fun u1 => (f_Mo_fieldLines_7 fu a1 0 u1.1 u1.2))
set_option maxHeartbeats 4000000 in
set_option maxRecDepth 100000 in
theorem c_Mo_fieldLines (l : Launch) (g : zG) (hD : GD g) (a1 : Int32) (S : zSt) (u : (Int32 × zSt)) (h : f_Mo_fieldLines a1 S = some u) : Met l y_Mo_fieldLines (mw y_Mo_fieldLines b_Mo_fieldLines 4 (some .int)) (rmD 3) (Pw g [.ref (ga g 66), .int a1] S) (Qis g u) 0 0 (gA g) := by
  refine z_go (own := R_Mo) (lv0 := [(0, .ref (ga g 66)), (1, .int a1)]) hD (by decide) rfl (Nat.le_of_ble_eq_true rfl) rfl ?_
  intro p e s m args below meth c C D ls hl
  have hx := C.1
  have hb := C.2.1
  have hown := C.2.2.2.1
  have hts := C.2.2.2.2.1
  have B97 : ∀ (H : Heap) (locs : List Loc) (S : zSt) (ls : Array Slot) (a3 : Int32) (t0 : Int32), f_Mo_fieldLines_97 a3 t0 S = some u → Dy g s S H locs → lv_has ls 4 [(3, .int a3)] → W p l e (rmD 3) s m args below meth c H locs 0 0 (MQ below (Qis g u) args s 0 0 (gA g)) (F0 m 97 ls [.int t0, .ref (ga g 66)]) := by
    intro H locs S ls a3 t0 h D hl
    unfold f_Mo_fieldLines_97 at h
    refine x_put C D kc_Mo (by decide) sh_66 21 rfl (by decide) wf_Mo_231 rfl rfl t0 rfl ⟨rfl, rfl⟩ d_Mo_fieldLines_97 h (fun S2 H locs h D => ?_)
    refine lv_iload_n hx hb d_Mo_fieldLines_100 rfl (lv_at hl 0 rfl) ?_
    exact x_irs C D h d_Mo_fieldLines_101
  have B78 : ∀ (H : Heap) (locs : List Loc) (S : zSt) (ls : Array Slot) (a3 : Int32), f_Mo_fieldLines_78 a3 S = some u → Dy g s S H locs → lv_has ls 4 [(0, .ref (ga g 66)), (3, .int a3)] → W p l e (rmD 3) s m args below meth c H locs 0 0 (MQ below (Qis g u) args s 0 0 (gA g)) (F0 m 78 ls []) := by
    intro H locs S ls a3 h D hl
    unfold f_Mo_fieldLines_78 at h
    refine lv_aload_n hx hb d_Mo_fieldLines_78 rfl (lv_at hl 0 rfl) ?_
    refine lv_iload_n hx hb d_Mo_fieldLines_79 rfl (lv_at hl 1 rfl) ?_
    refine lv_iconst (v := 1) hx hb d_Mo_fieldLines_80 (by decide) ?_
    refine lv_icmp_ne hx hb d_Mo_fieldLines_81 rfl (fun z => ?_) (fun z => ?_)
    · replace h := if_f z h
      refine lv_aload_n hx hb d_Mo_fieldLines_93 rfl (lv_at hl 0 rfl) ?_
      refine x_get (v := .int (S 66 21)) C D kc_Mo (by decide) sh_66 21 rfl (by decide) wf_Mo_231 rfl rfl d_Mo_fieldLines_94 ?_
      exact B97 _ _ _ _ _ _ h D (lv_sub hl [1] rfl)
    · replace h := if_t z h
      refine lv_aload_n hx hb d_Mo_fieldLines_84 rfl (lv_at hl 0 rfl) ?_
      refine x_get (v := .int (S 66 22)) C D kc_Mo (by decide) sh_66 22 rfl (by decide) wf_Mo_237 rfl rfl d_Mo_fieldLines_85 ?_
      refine lv_iconst (v := 2) hx hb d_Mo_fieldLines_88 (by decide) ?_
      refine lv_iadd hx hb d_Mo_fieldLines_89 ?_
      refine lv_goto hx hb d_Mo_fieldLines_90 rfl ?_
      exact B97 _ _ _ _ _ _ h D (lv_sub hl [1] rfl)
  have B56 : ∀ (K7 : Int32 → Int32 → Int32 → zSt → Option (Int32 × zSt)) (hK7 : ∀ (H : Heap) (locs : List Loc) (S : zSt) (ls : Array Slot) (a1 : Int32) (a2 : Int32) (a3 : Int32), K7 a1 a2 a3 S = some u → Dy g s S H locs → lv_has ls 4 [(0, .ref (ga g 66)), (1, .int a1), (2, .int a2), (3, .int a3)] → W p l e (rmD 3) s m args below meth c H locs 0 0 (MQ below (Qis g u) args s 0 0 (gA g)) (F0 m 7 ls [])) (H : Heap) (locs : List Loc) (S : zSt) (ls : Array Slot) (a1 : Int32) (a2 : Int32) (t0 : Int32) (t1 : Int32), f_Mo_fieldLines_56 K7 a1 a2 t0 t1 S = some u → Dy g s S H locs → lv_has ls 4 [(0, .ref (ga g 66)), (1, .int a1), (2, .int a2)] → W p l e (rmD 3) s m args below meth c H locs 0 0 (MQ below (Qis g u) args s 0 0 (gA g)) (F0 m 56 ls [.int t0, .int t1, .ref (ga g 66)]) := by
    intro K7 hK7 H locs S ls a1 a2 t0 t1 h D hl
    unfold f_Mo_fieldLines_56 at h
    refine lv_iadd hx hb d_Mo_fieldLines_56 ?_
    refine x_put C D kc_Mo (by decide) sh_66 25 rfl (by decide) wf_Mo_276 rfl rfl (t1 + t0) rfl ⟨rfl, rfl⟩ d_Mo_fieldLines_57 h (fun S4 H locs h D => ?_)
    refine lv_aload_n hx hb d_Mo_fieldLines_60 rfl (lv_at hl 0 rfl) ?_
    refine lv_aload_n hx hb d_Mo_fieldLines_61 rfl (lv_at hl 0 rfl) ?_
    refine x_get (v := .int (S4 66 22)) C D kc_Mo (by decide) sh_66 22 rfl (by decide) wf_Mo_237 rfl rfl d_Mo_fieldLines_62 ?_
    refine lv_iconst (v := 2) hx hb d_Mo_fieldLines_65 (by decide) ?_
    refine lv_iadd hx hb d_Mo_fieldLines_66 ?_
    refine x_put C D kc_Mo (by decide) sh_66 21 rfl (by decide) wf_Mo_231 rfl rfl ((S4 66 22) + 2) rfl ⟨rfl, rfl⟩ d_Mo_fieldLines_67 h (fun S5 H locs h D => ?_)
    refine lv_aload_n hx hb d_Mo_fieldLines_70 rfl (lv_at hl 0 rfl) ?_
    obtain ⟨u6, hu6, h⟩ := bd_some h
    refine x_cis (rest := []) (r_V C D (c_Mo_line l g hD S5 u6 hu6) wc_Mo_line wm_Mo_269 wi_Mo_line wd_Mo_line (by decide) sh_66 kc_Mo.1 rfl rfl hl (Nat.le_of_ble_eq_true rfl) (by decide) d_Mo_fieldLines_71) D (fun H locs D => ?_)
    refine lv_istore_n (lv' := [(3, .int u6.1), (0, .ref (ga g 66)), (1, .int a1), (2, .int a2)]) hx hb d_Mo_fieldLines_74 rfl hl (by decide) rfl (fun ls hl => ?_)
    refine lv_goto hx hb d_Mo_fieldLines_75 rfl ?_
    exact hK7 _ _ _ _ _ _ _ h D (lv_sub hl [1, 2, 3, 0] rfl)
  have L7 : ∀ (n : Nat) (H : Heap) (locs : List Loc) (S : zSt) (ls : Array Slot) (a1 : Int32) (a2 : Int32) (a3 : Int32), f_Mo_fieldLines_7 n a1 a2 a3 S = some u → Dy g s S H locs → lv_has ls 4 [(0, .ref (ga g 66)), (1, .int a1), (2, .int a2), (3, .int a3)] → W p l e (rmD 3) s m args below meth c H locs 0 0 (MQ below (Qis g u) args s 0 0 (gA g)) (F0 m 7 ls []) := by
    intro n
    induction n with
    | zero => intro H locs S ls a1 a2 a3 h D hl; rw [f_Mo_fieldLines_7] at h; cases h
    | succ n hK7 =>
      intro H locs S ls a1 a2 a3 h D hl
      rw [f_Mo_fieldLines_7] at h
      refine lv_iload_n hx hb d_Mo_fieldLines_7 rfl (lv_at hl 3 rfl) ?_
      refine lv_iconst (v := 1) hx hb d_Mo_fieldLines_8 (by decide) ?_
      refine lv_icmp_ne hx hb d_Mo_fieldLines_9 rfl (fun z => ?_) (fun z => ?_)
      · replace h := if_f z h
        exact B78 _ _ _ _ _ h D (lv_sub hl [0, 3] rfl)
      · replace h := if_t z h
        refine lv_aload_n hx hb d_Mo_fieldLines_12 rfl (lv_at hl 0 rfl) ?_
        refine x_get (v := .int (S 66 22)) C D kc_Mo (by decide) sh_66 22 rfl (by decide) wf_Mo_237 rfl rfl d_Mo_fieldLines_13 ?_
        refine lv_aload_n hx hb d_Mo_fieldLines_16 rfl (lv_at hl 0 rfl) ?_
        refine x_get (v := .int (S 66 21)) C D kc_Mo (by decide) sh_66 21 rfl (by decide) wf_Mo_231 rfl rfl d_Mo_fieldLines_17 ?_
        refine lv_icmp_le hx hb d_Mo_fieldLines_20 rfl (fun z => ?_) (fun z => ?_)
        · replace h := if_t z h
          exact B78 _ _ _ _ _ h D (lv_sub hl [0, 3] rfl)
        · replace h := if_f z h
          refine lv_iload_n hx hb d_Mo_fieldLines_23 rfl (lv_at hl 2 rfl) ?_
          refine lv_bipush (v := 8) hx hb d_Mo_fieldLines_24 (by decide) ?_
          refine lv_icmp_eq hx hb d_Mo_fieldLines_26 rfl (fun z => ?_) (fun z => ?_)
          · replace h := if_t z h
            refine lv_iconst (v := (-1)) hx hb d_Mo_fieldLines_37 (by decide) ?_
            exact x_irs C D h d_Mo_fieldLines_38
          · replace h := if_f z h
            refine lv_aload_n hx hb d_Mo_fieldLines_29 rfl (lv_at hl 0 rfl) ?_
            refine lv_iload_n hx hb d_Mo_fieldLines_30 rfl (lv_at hl 1 rfl) ?_
            obtain ⟨u3, hu3, h⟩ := bd_some h
            refine x_cis (rest := []) (r_V C D (c_Mo_fieldLine l g hD a1 S u3 hu3) wc_Mo_fieldLine wm_Mo_272 wi_Mo_fieldLine wd_Mo_fieldLine (by decide) sh_66 kc_Mo.1 rfl rfl hl (Nat.le_of_ble_eq_true rfl) (by decide) d_Mo_fieldLines_31) D (fun H locs D => ?_)
            refine lv_if_ne hx hb d_Mo_fieldLines_34 rfl (fun z => ?_) (fun z => ?_)
            · replace h := if_f z h
              refine lv_iinc (k := 2) (lv' := [(2, .int (a2 + 1)), (0, .ref (ga g 66)), (1, .int a1), (3, .int a3)]) hx hb d_Mo_fieldLines_39 hl rfl (ii1 _) (by decide) rfl (fun ls hl => ?_)
              refine lv_aload_n hx hb d_Mo_fieldLines_42 rfl (lv_at hl 1 rfl) ?_
              refine lv_dup hx hb d_Mo_fieldLines_43 rfl ?_
              refine x_get (v := .int (u3.2 66 25)) C D kc_Mo (by decide) sh_66 25 rfl (by decide) wf_Mo_276 rfl rfl d_Mo_fieldLines_44 ?_
              refine lv_iload_n hx hb d_Mo_fieldLines_47 rfl (lv_at hl 2 rfl) ?_
              refine lv_if_eq hx hb d_Mo_fieldLines_48 rfl (fun z => ?_) (fun z => ?_)
              · replace h := if_t z h
                refine lv_iconst (v := 1) hx hb d_Mo_fieldLines_55 (by decide) ?_
                exact B56 _ hK7 _ _ _ _ _ _ _ _ h D (lv_sub hl [1, 2, 0] rfl)
              · replace h := if_f z h
                refine lv_iconst (v := 0) hx hb d_Mo_fieldLines_51 (by decide) ?_
                refine lv_goto hx hb d_Mo_fieldLines_52 rfl ?_
                exact B56 _ hK7 _ _ _ _ _ _ _ _ h D (lv_sub hl [1, 2, 0] rfl)
            · replace h := if_t z h
              refine lv_iconst (v := (-1)) hx hb d_Mo_fieldLines_37 (by decide) ?_
              exact x_irs C D h d_Mo_fieldLines_38
  unfold f_Mo_fieldLines at h
  refine lv_iconst (v := 0) hx hb d_Mo_fieldLines_0 (by decide) ?_
  refine lv_istore_n (lv' := [(2, .int 0), (0, .ref (ga g 66)), (1, .int a1)]) hx hb d_Mo_fieldLines_1 rfl hl (by decide) rfl (fun ls hl => ?_)
  refine lv_aload_n hx hb d_Mo_fieldLines_2 rfl (lv_at hl 1 rfl) ?_
  obtain ⟨u1, hu1, h⟩ := bd_some h
  refine x_cis (rest := []) (r_V C D (c_Mo_line l g hD S u1 hu1) wc_Mo_line wm_Mo_269 wi_Mo_line wd_Mo_line (by decide) sh_66 kc_Mo.1 rfl rfl hl (Nat.le_of_ble_eq_true rfl) (by decide) d_Mo_fieldLines_3) D (fun H locs D => ?_)
  refine lv_istore_n (lv' := [(3, .int u1.1), (2, .int 0), (0, .ref (ga g 66)), (1, .int a1)]) hx hb d_Mo_fieldLines_6 rfl hl (by decide) rfl (fun ls hl => ?_)
  exact L7 _ _ _ _ _ _ _ _ h D (lv_sub hl [2, 3, 1, 0] rfl)
theorem d_Mo_check_0 : decode b_Mo_check 0 = .ok (.aload_n 0, 1) := by decide +kernel
theorem d_Mo_check_1 : decode b_Mo_check 1 = .ok (.invokevirtual 88, 3) := by decide +kernel
theorem d_Mo_check_4 : decode b_Mo_check 4 = .ok (.ifCond .ne 5, 3) := by decide +kernel
theorem d_Mo_check_7 : decode b_Mo_check 7 = .ok (.iconst (-1), 1) := by decide +kernel
theorem d_Mo_check_8 : decode b_Mo_check 8 = .ok (.ireturn, 1) := by decide +kernel
theorem d_Mo_check_9 : decode b_Mo_check 9 = .ok (.aload_n 0, 1) := by decide +kernel
theorem d_Mo_check_10 : decode b_Mo_check 10 = .ok (.invokevirtual 92, 3) := by decide +kernel
theorem d_Mo_check_13 : decode b_Mo_check 13 = .ok (.ifCond .eq 6, 3) := by decide +kernel
theorem d_Mo_check_16 : decode b_Mo_check 16 = .ok (.bipush (-2), 2) := by decide +kernel
theorem d_Mo_check_18 : decode b_Mo_check 18 = .ok (.ireturn, 1) := by decide +kernel
theorem d_Mo_check_19 : decode b_Mo_check 19 = .ok (.aload_n 0, 1) := by decide +kernel
theorem d_Mo_check_20 : decode b_Mo_check 20 = .ok (.invokevirtual 95, 3) := by decide +kernel
theorem d_Mo_check_23 : decode b_Mo_check 23 = .ok (.ifCond .eq 6, 3) := by decide +kernel
theorem d_Mo_check_26 : decode b_Mo_check 26 = .ok (.bipush (-3), 2) := by decide +kernel
theorem d_Mo_check_28 : decode b_Mo_check 28 = .ok (.ireturn, 1) := by decide +kernel
theorem d_Mo_check_29 : decode b_Mo_check 29 = .ok (.aload_n 0, 1) := by decide +kernel
theorem d_Mo_check_30 : decode b_Mo_check 30 = .ok (.invokevirtual 98, 3) := by decide +kernel
theorem d_Mo_check_33 : decode b_Mo_check 33 = .ok (.ifCond .eq 6, 3) := by decide +kernel
theorem d_Mo_check_36 : decode b_Mo_check 36 = .ok (.bipush (-4), 2) := by decide +kernel
theorem d_Mo_check_38 : decode b_Mo_check 38 = .ok (.ireturn, 1) := by decide +kernel
theorem d_Mo_check_39 : decode b_Mo_check 39 = .ok (.aload_n 0, 1) := by decide +kernel
theorem d_Mo_check_40 : decode b_Mo_check 40 = .ok (.invokevirtual 101, 3) := by decide +kernel
theorem d_Mo_check_43 : decode b_Mo_check 43 = .ok (.ifCond .eq 6, 3) := by decide +kernel
theorem d_Mo_check_46 : decode b_Mo_check 46 = .ok (.bipush (-5), 2) := by decide +kernel
theorem d_Mo_check_48 : decode b_Mo_check 48 = .ok (.ireturn, 1) := by decide +kernel
theorem d_Mo_check_49 : decode b_Mo_check 49 = .ok (.aload_n 0, 1) := by decide +kernel
theorem d_Mo_check_50 : decode b_Mo_check 50 = .ok (.iconst 5, 1) := by decide +kernel
theorem d_Mo_check_51 : decode b_Mo_check 51 = .ok (.invokevirtual 104, 3) := by decide +kernel
theorem d_Mo_check_54 : decode b_Mo_check 54 = .ok (.istore_n 1, 1) := by decide +kernel
theorem d_Mo_check_55 : decode b_Mo_check 55 = .ok (.aload_n 0, 1) := by decide +kernel
theorem d_Mo_check_56 : decode b_Mo_check 56 = .ok (.iconst 4, 1) := by decide +kernel
theorem d_Mo_check_57 : decode b_Mo_check 57 = .ok (.invokevirtual 104, 3) := by decide +kernel
theorem d_Mo_check_60 : decode b_Mo_check 60 = .ok (.istore_n 2, 1) := by decide +kernel
theorem d_Mo_check_61 : decode b_Mo_check 61 = .ok (.iload_n 1, 1) := by decide +kernel
theorem d_Mo_check_62 : decode b_Mo_check 62 = .ok (.iconst 1, 1) := by decide +kernel
theorem d_Mo_check_63 : decode b_Mo_check 63 = .ok (.if_icmp .gt 11, 3) := by decide +kernel
theorem d_Mo_check_66 : decode b_Mo_check 66 = .ok (.iload_n 1, 1) := by decide +kernel
theorem d_Mo_check_67 : decode b_Mo_check 67 = .ok (.ifCond .le 10, 3) := by decide +kernel
theorem d_Mo_check_70 : decode b_Mo_check 70 = .ok (.iload_n 2, 1) := by decide +kernel
theorem d_Mo_check_71 : decode b_Mo_check 71 = .ok (.ifCond .le 6, 3) := by decide +kernel
theorem d_Mo_check_74 : decode b_Mo_check 74 = .ok (.bipush (-6), 2) := by decide +kernel
theorem d_Mo_check_76 : decode b_Mo_check 76 = .ok (.ireturn, 1) := by decide +kernel
theorem d_Mo_check_77 : decode b_Mo_check 77 = .ok (.iload_n 1, 1) := by decide +kernel
theorem d_Mo_check_78 : decode b_Mo_check 78 = .ok (.iload_n 2, 1) := by decide +kernel
theorem d_Mo_check_79 : decode b_Mo_check 79 = .ok (.iadd, 1) := by decide +kernel
theorem d_Mo_check_80 : decode b_Mo_check 80 = .ok (.ifCond .le 24, 3) := by decide +kernel
theorem d_Mo_check_83 : decode b_Mo_check 83 = .ok (.aload_n 0, 1) := by decide +kernel
theorem d_Mo_check_84 : decode b_Mo_check 84 = .ok (.getfield 46, 3) := by decide +kernel
theorem d_Mo_check_87 : decode b_Mo_check 87 = .ok (.iconst 2, 1) := by decide +kernel
theorem d_Mo_check_88 : decode b_Mo_check 88 = .ok (.if_icmp .eq 16, 3) := by decide +kernel
theorem d_Mo_check_91 : decode b_Mo_check 91 = .ok (.aload_n 0, 1) := by decide +kernel
theorem d_Mo_check_92 : decode b_Mo_check 92 = .ok (.getfield 46, 3) := by decide +kernel
theorem d_Mo_check_95 : decode b_Mo_check 95 = .ok (.iconst 3, 1) := by decide +kernel
theorem d_Mo_check_96 : decode b_Mo_check 96 = .ok (.if_icmp .eq 8, 3) := by decide +kernel
theorem d_Mo_check_99 : decode b_Mo_check 99 = .ok (.bipush (-7), 2) := by decide +kernel
theorem d_Mo_check_101 : decode b_Mo_check 101 = .ok (.goto 4, 3) := by decide +kernel
theorem d_Mo_check_104 : decode b_Mo_check 104 = .ok (.iconst 0, 1) := by decide +kernel
theorem d_Mo_check_105 : decode b_Mo_check 105 = .ok (.ireturn, 1) := by decide +kernel
def f_Mo_check_104 (S : zSt) : Option Int32 := (some 0)
def f_Mo_check_77 (a1 : Int32) (a2 : Int32) (S : zSt) : Option Int32 := (if (a1 + a2) ≤ 0 then (f_Mo_check_104 S) else (if (S 66 0) = 2 then (f_Mo_check_104 S) else (if (S 66 0) = 3 then (f_Mo_check_104 S) else (some (-7)))))
def f_Mo_check (S : zSt) : Option Int32 := ((f_Mo_wellFormed S).bind fun u1 => (if u1 = 0 then (some (-1)) else ((f_Mo_unknown S).bind fun u2 => (if u2 = 0 then ((f_Mo_twice S).bind fun u3 => (if u3 = 0 then ((f_Mo_unused S).bind fun u4 => (if u4 = 0 then ((f_Mo_cutList S).bind fun u5 => (if u5 = 0 then ((f_Mo_kinds 5 S).bind fun u6 => ((f_Mo_kinds 4 S).bind fun u7 => (if 1 < u6 then (some (-6)) else (if u6 ≤ 0 then (f_Mo_check_77 u6 u7 S) else (if u7 ≤ 0 then (f_Mo_check_77 u6 u7 S) else (some (-6))))))) else (some (-5)))) else (some (-4)))) else (some (-3)))) else (some (-2))))))
set_option maxHeartbeats 4000000 in
set_option maxRecDepth 100000 in
theorem c_Mo_check (l : Launch) (g : zG) (hD : GD g) (S : zSt) (u : Int32) (h : f_Mo_check S = some u) : Met l y_Mo_check (mw y_Mo_check b_Mo_check 3 (some .int)) (rmD 4) (Pw g [.ref (ga g 66)] S) (Qip g S u) 0 0 (gA g) := by
  refine z_go (own := R_Mo) (lv0 := [(0, .ref (ga g 66))]) hD (by decide) rfl (Nat.le_of_ble_eq_true rfl) rfl ?_
  intro p e s m args below meth c C D ls hl
  have hx := C.1
  have hb := C.2.1
  have hown := C.2.2.2.1
  have hts := C.2.2.2.2.1
  have B104 : ∀ (H : Heap) (locs : List Loc) (ls : Array Slot), f_Mo_check_104 S = some u → Dy g s S H locs → lv_has ls 3 [] → W p l e (rmD 4) s m args below meth c H locs 0 0 (MQ below (Qip g S u) args s 0 0 (gA g)) (F0 m 104 ls []) := by
    intro H locs ls h D hl
    unfold f_Mo_check_104 at h
    refine lv_iconst (v := 0) hx hb d_Mo_check_104 (by decide) ?_
    exact x_irp C D h d_Mo_check_105
  have B77 : ∀ (H : Heap) (locs : List Loc) (ls : Array Slot) (a1 : Int32) (a2 : Int32), f_Mo_check_77 a1 a2 S = some u → Dy g s S H locs → lv_has ls 3 [(0, .ref (ga g 66)), (1, .int a1), (2, .int a2)] → W p l e (rmD 4) s m args below meth c H locs 0 0 (MQ below (Qip g S u) args s 0 0 (gA g)) (F0 m 77 ls []) := by
    intro H locs ls a1 a2 h D hl
    unfold f_Mo_check_77 at h
    refine lv_iload_n hx hb d_Mo_check_77 rfl (lv_at hl 1 rfl) ?_
    refine lv_iload_n hx hb d_Mo_check_78 rfl (lv_at hl 2 rfl) ?_
    refine lv_iadd hx hb d_Mo_check_79 ?_
    refine lv_if_le hx hb d_Mo_check_80 rfl (fun z => ?_) (fun z => ?_)
    · replace h := if_t z h
      exact B104 _ _ _ h D (lv_sub hl [] rfl)
    · replace h := if_f z h
      refine lv_aload_n hx hb d_Mo_check_83 rfl (lv_at hl 0 rfl) ?_
      refine x_get (v := .int (S 66 0)) C D kc_Mo (by decide) sh_66 0 rfl (by decide) wf_Mo_46 rfl rfl d_Mo_check_84 ?_
      refine lv_iconst (v := 2) hx hb d_Mo_check_87 (by decide) ?_
      refine lv_icmp_eq hx hb d_Mo_check_88 rfl (fun z => ?_) (fun z => ?_)
      · replace h := if_t z h
        exact B104 _ _ _ h D (lv_sub hl [] rfl)
      · replace h := if_f z h
        refine lv_aload_n hx hb d_Mo_check_91 rfl (lv_at hl 0 rfl) ?_
        refine x_get (v := .int (S 66 0)) C D kc_Mo (by decide) sh_66 0 rfl (by decide) wf_Mo_46 rfl rfl d_Mo_check_92 ?_
        refine lv_iconst (v := 3) hx hb d_Mo_check_95 (by decide) ?_
        refine lv_icmp_eq hx hb d_Mo_check_96 rfl (fun z => ?_) (fun z => ?_)
        · replace h := if_t z h
          exact B104 _ _ _ h D (lv_sub hl [] rfl)
        · replace h := if_f z h
          refine lv_bipush (v := (-7)) hx hb d_Mo_check_99 (by decide) ?_
          refine lv_goto hx hb d_Mo_check_101 rfl ?_
          exact x_irp C D h d_Mo_check_105
  unfold f_Mo_check at h
  refine lv_aload_n hx hb d_Mo_check_0 rfl (lv_at hl 0 rfl) ?_
  obtain ⟨u1, hu1, h⟩ := bd_some h
  refine x_cip (rest := []) (r_V C D (c_Mo_wellFormed l g hD S u1 hu1) wc_Mo_wellFormed wm_Mo_88 wi_Mo_wellFormed wd_Mo_wellFormed (by decide) sh_66 kc_Mo.1 rfl rfl hl (Nat.le_of_ble_eq_true rfl) (by decide) d_Mo_check_1) D (fun H locs D => ?_)
  refine lv_if_ne hx hb d_Mo_check_4 rfl (fun z => ?_) (fun z => ?_)
  · replace h := if_f z h
    refine lv_aload_n hx hb d_Mo_check_9 rfl (lv_at hl 0 rfl) ?_
    obtain ⟨u2, hu2, h⟩ := bd_some h
    refine x_cip (rest := []) (r_V C D (c_Mo_unknown l g hD S u2 hu2) wc_Mo_unknown wm_Mo_92 wi_Mo_unknown wd_Mo_unknown (by decide) sh_66 kc_Mo.1 rfl rfl hl (Nat.le_of_ble_eq_true rfl) (by decide) d_Mo_check_10) D (fun H locs D => ?_)
    refine lv_if_eq hx hb d_Mo_check_13 rfl (fun z => ?_) (fun z => ?_)
    · replace h := if_t z h
      refine lv_aload_n hx hb d_Mo_check_19 rfl (lv_at hl 0 rfl) ?_
      obtain ⟨u3, hu3, h⟩ := bd_some h
      refine x_cip (rest := []) (r_V C D (c_Mo_twice l g hD S u3 hu3) wc_Mo_twice wm_Mo_95 wi_Mo_twice wd_Mo_twice (by decide) sh_66 kc_Mo.1 rfl rfl hl (Nat.le_of_ble_eq_true rfl) (by decide) d_Mo_check_20) D (fun H locs D => ?_)
      refine lv_if_eq hx hb d_Mo_check_23 rfl (fun z => ?_) (fun z => ?_)
      · replace h := if_t z h
        refine lv_aload_n hx hb d_Mo_check_29 rfl (lv_at hl 0 rfl) ?_
        obtain ⟨u4, hu4, h⟩ := bd_some h
        refine x_cip (rest := []) (r_V C D (c_Mo_unused l g hD S u4 hu4) wc_Mo_unused wm_Mo_98 wi_Mo_unused wd_Mo_unused (by decide) sh_66 kc_Mo.1 rfl rfl hl (Nat.le_of_ble_eq_true rfl) (by decide) d_Mo_check_30) D (fun H locs D => ?_)
        refine lv_if_eq hx hb d_Mo_check_33 rfl (fun z => ?_) (fun z => ?_)
        · replace h := if_t z h
          refine lv_aload_n hx hb d_Mo_check_39 rfl (lv_at hl 0 rfl) ?_
          obtain ⟨u5, hu5, h⟩ := bd_some h
          refine x_cip (rest := []) (r_V C D (c_Mo_cutList l g hD S u5 hu5) wc_Mo_cutList wm_Mo_101 wi_Mo_cutList wd_Mo_cutList (by decide) sh_66 kc_Mo.1 rfl rfl hl (Nat.le_of_ble_eq_true rfl) (by decide) d_Mo_check_40) D (fun H locs D => ?_)
          refine lv_if_eq hx hb d_Mo_check_43 rfl (fun z => ?_) (fun z => ?_)
          · replace h := if_t z h
            refine lv_aload_n hx hb d_Mo_check_49 rfl (lv_at hl 0 rfl) ?_
            refine lv_iconst (v := 5) hx hb d_Mo_check_50 (by decide) ?_
            obtain ⟨u6, hu6, h⟩ := bd_some h
            refine x_cip (rest := []) (r_V C D (c_Mo_kinds l g hD 5 S u6 hu6) wc_Mo_kinds wm_Mo_104 wi_Mo_kinds wd_Mo_kinds (by decide) sh_66 kc_Mo.1 rfl rfl hl (Nat.le_of_ble_eq_true rfl) (by decide) d_Mo_check_51) D (fun H locs D => ?_)
            refine lv_istore_n (lv' := [(1, .int u6), (0, .ref (ga g 66))]) hx hb d_Mo_check_54 rfl hl (by decide) rfl (fun ls hl => ?_)
            refine lv_aload_n hx hb d_Mo_check_55 rfl (lv_at hl 1 rfl) ?_
            refine lv_iconst (v := 4) hx hb d_Mo_check_56 (by decide) ?_
            obtain ⟨u7, hu7, h⟩ := bd_some h
            refine x_cip (rest := []) (r_V C D (c_Mo_kinds l g hD 4 S u7 hu7) wc_Mo_kinds wm_Mo_104 wi_Mo_kinds wd_Mo_kinds (by decide) sh_66 kc_Mo.1 rfl rfl hl (Nat.le_of_ble_eq_true rfl) (by decide) d_Mo_check_57) D (fun H locs D => ?_)
            refine lv_istore_n (lv' := [(2, .int u7), (1, .int u6), (0, .ref (ga g 66))]) hx hb d_Mo_check_60 rfl hl (by decide) rfl (fun ls hl => ?_)
            refine lv_iload_n hx hb d_Mo_check_61 rfl (lv_at hl 1 rfl) ?_
            refine lv_iconst (v := 1) hx hb d_Mo_check_62 (by decide) ?_
            refine lv_icmp_gt hx hb d_Mo_check_63 rfl (fun z => ?_) (fun z => ?_)
            · replace h := if_t z h
              refine lv_bipush (v := (-6)) hx hb d_Mo_check_74 (by decide) ?_
              exact x_irp C D h d_Mo_check_76
            · replace h := if_f z h
              refine lv_iload_n hx hb d_Mo_check_66 rfl (lv_at hl 1 rfl) ?_
              refine lv_if_le hx hb d_Mo_check_67 rfl (fun z => ?_) (fun z => ?_)
              · replace h := if_t z h
                exact B77 _ _ _ _ _ h D (lv_sub hl [2, 1, 0] rfl)
              · replace h := if_f z h
                refine lv_iload_n hx hb d_Mo_check_70 rfl (lv_at hl 0 rfl) ?_
                refine lv_if_le hx hb d_Mo_check_71 rfl (fun z => ?_) (fun z => ?_)
                · replace h := if_t z h
                  exact B77 _ _ _ _ _ h D (lv_sub hl [2, 1, 0] rfl)
                · replace h := if_f z h
                  refine lv_bipush (v := (-6)) hx hb d_Mo_check_74 (by decide) ?_
                  exact x_irp C D h d_Mo_check_76
          · replace h := if_f z h
            refine lv_bipush (v := (-5)) hx hb d_Mo_check_46 (by decide) ?_
            exact x_irp C D h d_Mo_check_48
        · replace h := if_f z h
          refine lv_bipush (v := (-4)) hx hb d_Mo_check_36 (by decide) ?_
          exact x_irp C D h d_Mo_check_38
      · replace h := if_f z h
        refine lv_bipush (v := (-3)) hx hb d_Mo_check_26 (by decide) ?_
        exact x_irp C D h d_Mo_check_28
    · replace h := if_f z h
      refine lv_bipush (v := (-2)) hx hb d_Mo_check_16 (by decide) ?_
      exact x_irp C D h d_Mo_check_18
  · replace h := if_t z h
    refine lv_iconst (v := (-1)) hx hb d_Mo_check_7 (by decide) ?_
    exact x_irp C D h d_Mo_check_8
