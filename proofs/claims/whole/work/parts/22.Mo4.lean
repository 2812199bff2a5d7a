theorem d_Mo_cutList_0 : decode b_Mo_cutList 0 = .ok (.iconst 0, 1) := by decide +kernel
theorem d_Mo_cutList_1 : decode b_Mo_cutList 1 = .ok (.istore_n 1, 1) := by decide +kernel
theorem d_Mo_cutList_2 : decode b_Mo_cutList 2 = .ok (.iconst 0, 1) := by decide +kernel
theorem d_Mo_cutList_3 : decode b_Mo_cutList 3 = .ok (.istore_n 2, 1) := by decide +kernel
theorem d_Mo_cutList_4 : decode b_Mo_cutList 4 = .ok (.iload_n 2, 1) := by decide +kernel
theorem d_Mo_cutList_5 : decode b_Mo_cutList 5 = .ok (.aload_n 0, 1) := by decide +kernel
theorem d_Mo_cutList_6 : decode b_Mo_cutList 6 = .ok (.getfield 50, 3) := by decide +kernel
theorem d_Mo_cutList_9 : decode b_Mo_cutList 9 = .ok (.if_icmp .ge 64, 3) := by decide +kernel
theorem d_Mo_cutList_12 : decode b_Mo_cutList 12 = .ok (.aload_n 0, 1) := by decide +kernel
theorem d_Mo_cutList_13 : decode b_Mo_cutList 13 = .ok (.iload_n 2, 1) := by decide +kernel
theorem d_Mo_cutList_14 : decode b_Mo_cutList 14 = .ok (.invokevirtual 82, 3) := by decide +kernel
theorem d_Mo_cutList_17 : decode b_Mo_cutList 17 = .ok (.ifCond .eq 50, 3) := by decide +kernel
theorem d_Mo_cutList_20 : decode b_Mo_cutList 20 = .ok (.aload_n 0, 1) := by decide +kernel
theorem d_Mo_cutList_21 : decode b_Mo_cutList 21 = .ok (.iload_n 2, 1) := by decide +kernel
theorem d_Mo_cutList_22 : decode b_Mo_cutList 22 = .ok (.iconst 1, 1) := by decide +kernel
theorem d_Mo_cutList_23 : decode b_Mo_cutList 23 = .ok (.iadd, 1) := by decide +kernel
theorem d_Mo_cutList_24 : decode b_Mo_cutList 24 = .ok (.invokevirtual 69, 3) := by decide +kernel
theorem d_Mo_cutList_27 : decode b_Mo_cutList 27 = .ok (.bipush 58, 2) := by decide +kernel
theorem d_Mo_cutList_29 : decode b_Mo_cutList 29 = .ok (.if_icmp .ne 38, 3) := by decide +kernel
theorem d_Mo_cutList_32 : decode b_Mo_cutList 32 = .ok (.aload_n 0, 1) := by decide +kernel
theorem d_Mo_cutList_33 : decode b_Mo_cutList 33 = .ok (.aload_n 0, 1) := by decide +kernel
theorem d_Mo_cutList_34 : decode b_Mo_cutList 34 = .ok (.getfield 7, 3) := by decide +kernel
theorem d_Mo_cutList_37 : decode b_Mo_cutList 37 = .ok (.iload_n 2, 1) := by decide +kernel
theorem d_Mo_cutList_38 : decode b_Mo_cutList 38 = .ok (.iaload, 1) := by decide +kernel
theorem d_Mo_cutList_39 : decode b_Mo_cutList 39 = .ok (.invokevirtual 85, 3) := by decide +kernel
theorem d_Mo_cutList_42 : decode b_Mo_cutList 42 = .ok (.istore_n 3, 1) := by decide +kernel
theorem d_Mo_cutList_43 : decode b_Mo_cutList 43 = .ok (.iload_n 1, 1) := by decide +kernel
theorem d_Mo_cutList_44 : decode b_Mo_cutList 44 = .ok (.ifCond .ne 17, 3) := by decide +kernel
theorem d_Mo_cutList_47 : decode b_Mo_cutList 47 = .ok (.iload_n 3, 1) := by decide +kernel
theorem d_Mo_cutList_48 : decode b_Mo_cutList 48 = .ok (.ifCond .lt 17, 3) := by decide +kernel
theorem d_Mo_cutList_51 : decode b_Mo_cutList 51 = .ok (.aload_n 0, 1) := by decide +kernel
theorem d_Mo_cutList_52 : decode b_Mo_cutList 52 = .ok (.getfield 13, 3) := by decide +kernel
theorem d_Mo_cutList_55 : decode b_Mo_cutList 55 = .ok (.iload_n 3, 1) := by decide +kernel
theorem d_Mo_cutList_56 : decode b_Mo_cutList 56 = .ok (.iaload, 1) := by decide +kernel
theorem d_Mo_cutList_57 : decode b_Mo_cutList 57 = .ok (.iconst 1, 1) := by decide +kernel
theorem d_Mo_cutList_58 : decode b_Mo_cutList 58 = .ok (.if_icmp .ne 7, 3) := by decide +kernel
theorem d_Mo_cutList_61 : decode b_Mo_cutList 61 = .ok (.iconst 1, 1) := by decide +kernel
theorem d_Mo_cutList_62 : decode b_Mo_cutList 62 = .ok (.goto 4, 3) := by decide +kernel
theorem d_Mo_cutList_65 : decode b_Mo_cutList 65 = .ok (.iconst 0, 1) := by decide +kernel
theorem d_Mo_cutList_66 : decode b_Mo_cutList 66 = .ok (.istore_n 1, 1) := by decide +kernel
theorem d_Mo_cutList_67 : decode b_Mo_cutList 67 = .ok (.iinc 2 1, 3) := by decide +kernel
theorem d_Mo_cutList_70 : decode b_Mo_cutList 70 = .ok (.goto (-66), 3) := by decide +kernel
theorem d_Mo_cutList_73 : decode b_Mo_cutList 73 = .ok (.iload_n 1, 1) := by decide +kernel
theorem d_Mo_cutList_74 : decode b_Mo_cutList 74 = .ok (.ireturn, 1) := by decide +kernel
def f_Mo_cutList_67 (K4 : Int32 → Int32 → zSt → Option Int32) (a1 : Int32) (a2 : Int32) (S : zSt) : Option Int32 := (K4 a1 (a2 + 1) S)
def f_Mo_cutList_66 (K4 : Int32 → Int32 → zSt → Option Int32) (a2 : Int32) (t0 : Int32) (S : zSt) : Option Int32 := (f_Mo_cutList_67 K4 t0 a2 S)
def f_Mo_cutList_61 (K4 : Int32 → Int32 → zSt → Option Int32) (a2 : Int32) (S : zSt) : Option Int32 := (f_Mo_cutList_66 K4 a2 1 S)
def f_Mo_cutList_65 (K4 : Int32 → Int32 → zSt → Option Int32) (a2 : Int32) (S : zSt) : Option Int32 := (f_Mo_cutList_66 K4 a2 0 S)
def f_Mo_cutList_4 : Nat → Int32 → Int32 → zSt → Option Int32
  | 0, _, _, _ => none
  | n + 1, a1, a2, S => (if (S 66 1) ≤ a2 then (gdb a1 (some a1)) else ((f_Mo_variableAt a2 S).bind fun u1 => (if u1 = 0 then (f_Mo_cutList_67 (f_Mo_cutList_4 n) a1 a2 S) else ((f_Mo_character (a2 + 1) S).bind fun u2 => (if u2 = 58 then gdi a2 40 (((f_Mo_named (S 67 a2.toNatClampNeg) S).bind fun u3 => (if a1 = 0 then (if u3 < 0 then (f_Mo_cutList_65 (f_Mo_cutList_4 n) a2 S) else gdi u3 6 ((if (S 68 u3.toNatClampNeg) = 1 then (f_Mo_cutList_61 (f_Mo_cutList_4 n) a2 S) else (f_Mo_cutList_65 (f_Mo_cutList_4 n) a2 S)))) else (f_Mo_cutList_61 (f_Mo_cutList_4 n) a2 S)))) else (f_Mo_cutList_67 (f_Mo_cutList_4 n) a1 a2 S))))))
def f_Mo_cutList (S : zSt) : Option Int32 := (f_Mo_cutList_4 fu 0 0 S)
set_option maxHeartbeats 4000000 in
set_option maxRecDepth 100000 in
theorem c_Mo_cutList (l : Launch) (g : zG) (hD : GD g) (S : zSt) (u : Int32) (h : f_Mo_cutList S = some u) : Met l y_Mo_cutList (mw y_Mo_cutList b_Mo_cutList 4 (some .boolean)) (rmD 2) (Pw g [.ref (ga g 66)] S) (Qip g S u) 0 0 (gA g) := by
  refine z_go (own := R_Mo) (lv0 := [(0, .ref (ga g 66))]) hD (by decide) rfl (Nat.le_of_ble_eq_true rfl) rfl ?_
  intro p e s m args below meth c C D ls hl
  have hx := C.1
  have hb := C.2.1
  have hown := C.2.2.2.1
  have hts := C.2.2.2.2.1
  have B67 : ∀ (K4 : Int32 → Int32 → zSt → Option Int32) (hK4 : ∀ (H : Heap) (locs : List Loc) (ls : Array Slot) (a1 : Int32) (a2 : Int32), K4 a1 a2 S = some u → Dy g s S H locs → lv_has ls 4 [(0, .ref (ga g 66)), (1, .int a1), (2, .int a2)] → W p l e (rmD 2) s m args below meth c H locs 0 0 (MQ below (Qip g S u) args s 0 0 (gA g)) (F0 m 4 ls [])) (H : Heap) (locs : List Loc) (ls : Array Slot) (a1 : Int32) (a2 : Int32), f_Mo_cutList_67 K4 a1 a2 S = some u → Dy g s S H locs → lv_has ls 4 [(0, .ref (ga g 66)), (1, .int a1), (2, .int a2)] → W p l e (rmD 2) s m args below meth c H locs 0 0 (MQ below (Qip g S u) args s 0 0 (gA g)) (F0 m 67 ls []) := by
    intro K4 hK4 H locs ls a1 a2 h D hl
    unfold f_Mo_cutList_67 at h
    refine lv_iinc (k := 2) (lv' := [(2, .int (a2 + 1)), (0, .ref (ga g 66)), (1, .int a1)]) hx hb d_Mo_cutList_67 hl rfl (ii1 _) (by decide) rfl (fun ls hl => ?_)
    refine lv_goto hx hb d_Mo_cutList_70 rfl ?_
    exact hK4 _ _ _ _ _ h D (lv_sub hl [1, 2, 0] rfl)
  have B66 : ∀ (K4 : Int32 → Int32 → zSt → Option Int32) (hK4 : ∀ (H : Heap) (locs : List Loc) (ls : Array Slot) (a1 : Int32) (a2 : Int32), K4 a1 a2 S = some u → Dy g s S H locs → lv_has ls 4 [(0, .ref (ga g 66)), (1, .int a1), (2, .int a2)] → W p l e (rmD 2) s m args below meth c H locs 0 0 (MQ below (Qip g S u) args s 0 0 (gA g)) (F0 m 4 ls [])) (H : Heap) (locs : List Loc) (ls : Array Slot) (a2 : Int32) (t0 : Int32), f_Mo_cutList_66 K4 a2 t0 S = some u → Dy g s S H locs → lv_has ls 4 [(0, .ref (ga g 66)), (2, .int a2)] → W p l e (rmD 2) s m args below meth c H locs 0 0 (MQ below (Qip g S u) args s 0 0 (gA g)) (F0 m 66 ls [.int t0]) := by
    intro K4 hK4 H locs ls a2 t0 h D hl
    unfold f_Mo_cutList_66 at h
    refine lv_istore_n (lv' := [(1, .int t0), (0, .ref (ga g 66)), (2, .int a2)]) hx hb d_Mo_cutList_66 rfl hl (by decide) rfl (fun ls hl => ?_)
    exact B67 _ hK4 _ _ _ _ _ h D (lv_sub hl [1, 0, 2] rfl)
  have B61 : ∀ (K4 : Int32 → Int32 → zSt → Option Int32) (hK4 : ∀ (H : Heap) (locs : List Loc) (ls : Array Slot) (a1 : Int32) (a2 : Int32), K4 a1 a2 S = some u → Dy g s S H locs → lv_has ls 4 [(0, .ref (ga g 66)), (1, .int a1), (2, .int a2)] → W p l e (rmD 2) s m args below meth c H locs 0 0 (MQ below (Qip g S u) args s 0 0 (gA g)) (F0 m 4 ls [])) (H : Heap) (locs : List Loc) (ls : Array Slot) (a2 : Int32), f_Mo_cutList_61 K4 a2 S = some u → Dy g s S H locs → lv_has ls 4 [(0, .ref (ga g 66)), (2, .int a2)] → W p l e (rmD 2) s m args below meth c H locs 0 0 (MQ below (Qip g S u) args s 0 0 (gA g)) (F0 m 61 ls []) := by
    intro K4 hK4 H locs ls a2 h D hl
    unfold f_Mo_cutList_61 at h
    refine lv_iconst (v := 1) hx hb d_Mo_cutList_61 (by decide) ?_
    refine lv_goto hx hb d_Mo_cutList_62 rfl ?_
    exact B66 _ hK4 _ _ _ _ _ h D (lv_sub hl [0, 1] rfl)
  have B65 : ∀ (K4 : Int32 → Int32 → zSt → Option Int32) (hK4 : ∀ (H : Heap) (locs : List Loc) (ls : Array Slot) (a1 : Int32) (a2 : Int32), K4 a1 a2 S = some u → Dy g s S H locs → lv_has ls 4 [(0, .ref (ga g 66)), (1, .int a1), (2, .int a2)] → W p l e (rmD 2) s m args below meth c H locs 0 0 (MQ below (Qip g S u) args s 0 0 (gA g)) (F0 m 4 ls [])) (H : Heap) (locs : List Loc) (ls : Array Slot) (a2 : Int32), f_Mo_cutList_65 K4 a2 S = some u → Dy g s S H locs → lv_has ls 4 [(0, .ref (ga g 66)), (2, .int a2)] → W p l e (rmD 2) s m args below meth c H locs 0 0 (MQ below (Qip g S u) args s 0 0 (gA g)) (F0 m 65 ls []) := by
    intro K4 hK4 H locs ls a2 h D hl
    unfold f_Mo_cutList_65 at h
    refine lv_iconst (v := 0) hx hb d_Mo_cutList_65 (by decide) ?_
    exact B66 _ hK4 _ _ _ _ _ h D (lv_sub hl [0, 1] rfl)
  have L4 : ∀ (n : Nat) (H : Heap) (locs : List Loc) (ls : Array Slot) (a1 : Int32) (a2 : Int32), f_Mo_cutList_4 n a1 a2 S = some u → Dy g s S H locs → lv_has ls 4 [(0, .ref (ga g 66)), (1, .int a1), (2, .int a2)] → W p l e (rmD 2) s m args below meth c H locs 0 0 (MQ below (Qip g S u) args s 0 0 (gA g)) (F0 m 4 ls []) := by
    intro n
    induction n with
    | zero => intro H locs ls a1 a2 h D hl; rw [f_Mo_cutList_4] at h; cases h
    | succ n hK4 =>
      intro H locs ls a1 a2 h D hl
      rw [f_Mo_cutList_4] at h
      refine lv_iload_n hx hb d_Mo_cutList_4 rfl (lv_at hl 2 rfl) ?_
      refine lv_aload_n hx hb d_Mo_cutList_5 rfl (lv_at hl 0 rfl) ?_
      refine x_get (v := .int (S 66 1)) C D kc_Mo (by decide) sh_66 1 rfl (by decide) wf_Mo_50 rfl rfl d_Mo_cutList_6 ?_
      refine lv_icmp_ge hx hb d_Mo_cutList_9 rfl (fun z => ?_) (fun z => ?_)
      · replace h := if_t z h
        refine lv_iload_n hx hb d_Mo_cutList_73 rfl (lv_at hl 1 rfl) ?_
        exact x_zrp C D h d_Mo_cutList_74
      · replace h := if_f z h
        refine lv_aload_n hx hb d_Mo_cutList_12 rfl (lv_at hl 0 rfl) ?_
        refine lv_iload_n hx hb d_Mo_cutList_13 rfl (lv_at hl 2 rfl) ?_
        obtain ⟨u1, hu1, h⟩ := bd_some h
        refine x_cip (rest := []) (r_V C D (c_Mo_variableAt l g hD a2 S u1 hu1) wc_Mo_variableAt wm_Mo_82 wi_Mo_variableAt wd_Mo_variableAt (by decide) sh_66 kc_Mo.1 rfl rfl hl (Nat.le_of_ble_eq_true rfl) (by decide) d_Mo_cutList_14) D (fun H locs D => ?_)
        refine lv_if_eq hx hb d_Mo_cutList_17 rfl (fun z => ?_) (fun z => ?_)
        · replace h := if_t z h
          exact B67 _ hK4 _ _ _ _ _ h D (lv_sub hl [0, 1, 2] rfl)
        · replace h := if_f z h
          refine lv_aload_n hx hb d_Mo_cutList_20 rfl (lv_at hl 0 rfl) ?_
          refine lv_iload_n hx hb d_Mo_cutList_21 rfl (lv_at hl 2 rfl) ?_
          refine lv_iconst (v := 1) hx hb d_Mo_cutList_22 (by decide) ?_
          refine lv_iadd hx hb d_Mo_cutList_23 ?_
          obtain ⟨u2, hu2, h⟩ := bd_some h
          refine x_cip (rest := []) (r_V C D (c_Mo_character l g hD (a2 + 1) S u2 hu2) wc_Mo_character wm_Mo_69 wi_Mo_character wd_Mo_character (by decide) sh_66 kc_Mo.1 rfl rfl hl (Nat.le_of_ble_eq_true rfl) (by decide) d_Mo_cutList_24) D (fun H locs D => ?_)
          refine lv_bipush (v := 58) hx hb d_Mo_cutList_27 (by decide) ?_
          refine lv_icmp_ne hx hb d_Mo_cutList_29 rfl (fun z => ?_) (fun z => ?_)
          · replace h := if_f z h
            exact B67 _ hK4 _ _ _ _ _ h D (lv_sub hl [0, 1, 2] rfl)
          · replace h := if_t z h
            refine lv_aload_n hx hb d_Mo_cutList_32 rfl (lv_at hl 0 rfl) ?_
            refine lv_aload_n hx hb d_Mo_cutList_33 rfl (lv_at hl 0 rfl) ?_
            refine x_get (v := .ref (ga g 67)) C D kc_Mo (by decide) sh_66 2 rfl (by decide) wf_Mo_7 rfl rfl d_Mo_cutList_34 ?_
            refine lv_iload_n hx hb d_Mo_cutList_37 rfl (lv_at hl 2 rfl) ?_
            refine x_iald C D (by decide) sh_67 d_Mo_cutList_38 h (fun _ h => ?_)
            obtain ⟨u3, hu3, h⟩ := bd_some h
            refine x_cip (rest := []) (r_V C D (c_Mo_named l g hD (S 67 a2.toNatClampNeg) S u3 hu3) wc_Mo_named wm_Mo_85 wi_Mo_named wd_Mo_named (by decide) sh_66 kc_Mo.1 rfl rfl hl (Nat.le_of_ble_eq_true rfl) (by decide) d_Mo_cutList_39) D (fun H locs D => ?_)
            refine lv_istore_n (lv' := [(3, .int u3), (0, .ref (ga g 66)), (1, .int a1), (2, .int a2)]) hx hb d_Mo_cutList_42 rfl hl (by decide) rfl (fun ls hl => ?_)
            refine lv_iload_n hx hb d_Mo_cutList_43 rfl (lv_at hl 2 rfl) ?_
            refine lv_if_ne hx hb d_Mo_cutList_44 rfl (fun z => ?_) (fun z => ?_)
            · replace h := if_f z h
              exact B61 _ hK4 _ _ _ _ h D (lv_sub hl [1, 3] rfl)
            · replace h := if_t z h
              refine lv_iload_n hx hb d_Mo_cutList_47 rfl (lv_at hl 0 rfl) ?_
              refine lv_if_lt hx hb d_Mo_cutList_48 rfl (fun z => ?_) (fun z => ?_)
              · replace h := if_t z h
                exact B65 _ hK4 _ _ _ _ h D (lv_sub hl [1, 3] rfl)
              · replace h := if_f z h
                refine lv_aload_n hx hb d_Mo_cutList_51 rfl (lv_at hl 1 rfl) ?_
                refine x_get (v := .ref (ga g 68)) C D kc_Mo (by decide) sh_66 4 rfl (by decide) wf_Mo_13 rfl rfl d_Mo_cutList_52 ?_
                refine lv_iload_n hx hb d_Mo_cutList_55 rfl (lv_at hl 0 rfl) ?_
                refine x_iald C D (by decide) sh_68 d_Mo_cutList_56 h (fun _ h => ?_)
                refine lv_iconst (v := 1) hx hb d_Mo_cutList_57 (by decide) ?_
                refine lv_icmp_ne hx hb d_Mo_cutList_58 rfl (fun z => ?_) (fun z => ?_)
                · replace h := if_f z h
                  exact B65 _ hK4 _ _ _ _ h D (lv_sub hl [1, 3] rfl)
                · replace h := if_t z h
                  exact B61 _ hK4 _ _ _ _ h D (lv_sub hl [1, 3] rfl)
  unfold f_Mo_cutList at h
  refine lv_iconst (v := 0) hx hb d_Mo_cutList_0 (by decide) ?_
  refine lv_istore_n (lv' := [(1, .int 0), (0, .ref (ga g 66))]) hx hb d_Mo_cutList_1 rfl hl (by decide) rfl (fun ls hl => ?_)
  refine lv_iconst (v := 0) hx hb d_Mo_cutList_2 (by decide) ?_
  refine lv_istore_n (lv' := [(2, .int 0), (1, .int 0), (0, .ref (ga g 66))]) hx hb d_Mo_cutList_3 rfl hl (by decide) rfl (fun ls hl => ?_)
  exact L4 _ _ _ _ _ _ h D (lv_sub hl [2, 1, 0] rfl)
theorem d_Mo_loneIn_0 : decode b_Mo_loneIn 0 = .ok (.iconst 0, 1) := by decide +kernel
theorem d_Mo_loneIn_1 : decode b_Mo_loneIn 1 = .ok (.istore_n 2, 1) := by decide +kernel
theorem d_Mo_loneIn_2 : decode b_Mo_loneIn 2 = .ok (.iconst 0, 1) := by decide +kernel
theorem d_Mo_loneIn_3 : decode b_Mo_loneIn 3 = .ok (.istore_n 3, 1) := by decide +kernel
theorem d_Mo_loneIn_4 : decode b_Mo_loneIn 4 = .ok (.iload_n 3, 1) := by decide +kernel
theorem d_Mo_loneIn_5 : decode b_Mo_loneIn 5 = .ok (.aload_n 0, 1) := by decide +kernel
theorem d_Mo_loneIn_6 : decode b_Mo_loneIn 6 = .ok (.getfield 22, 3) := by decide +kernel
theorem d_Mo_loneIn_9 : decode b_Mo_loneIn 9 = .ok (.iload_n 1, 1) := by decide +kernel
theorem d_Mo_loneIn_10 : decode b_Mo_loneIn 10 = .ok (.iaload, 1) := by decide +kernel
theorem d_Mo_loneIn_11 : decode b_Mo_loneIn 11 = .ok (.if_icmp .ge 68, 3) := by decide +kernel
theorem d_Mo_loneIn_14 : decode b_Mo_loneIn 14 = .ok (.aload_n 0, 1) := by decide +kernel
theorem d_Mo_loneIn_15 : decode b_Mo_loneIn 15 = .ok (.getfield 25, 3) := by decide +kernel
theorem d_Mo_loneIn_18 : decode b_Mo_loneIn 18 = .ok (.bipush 8, 2) := by decide +kernel
theorem d_Mo_loneIn_20 : decode b_Mo_loneIn 20 = .ok (.iload_n 1, 1) := by decide +kernel
theorem d_Mo_loneIn_21 : decode b_Mo_loneIn 21 = .ok (.imul, 1) := by decide +kernel
theorem d_Mo_loneIn_22 : decode b_Mo_loneIn 22 = .ok (.iload_n 3, 1) := by decide +kernel
theorem d_Mo_loneIn_23 : decode b_Mo_loneIn 23 = .ok (.iadd, 1) := by decide +kernel
theorem d_Mo_loneIn_24 : decode b_Mo_loneIn 24 = .ok (.iaload, 1) := by decide +kernel
theorem d_Mo_loneIn_25 : decode b_Mo_loneIn 25 = .ok (.istore 4, 2) := by decide +kernel
theorem d_Mo_loneIn_27 : decode b_Mo_loneIn 27 = .ok (.iload_n 2, 1) := by decide +kernel
theorem d_Mo_loneIn_28 : decode b_Mo_loneIn 28 = .ok (.ifCond .ne 39, 3) := by decide +kernel
theorem d_Mo_loneIn_31 : decode b_Mo_loneIn 31 = .ok (.iload 4, 2) := by decide +kernel
theorem d_Mo_loneIn_33 : decode b_Mo_loneIn 33 = .ok (.invokestatic 111, 3) := by decide +kernel
theorem d_Mo_loneIn_36 : decode b_Mo_loneIn 36 = .ok (.ifCond .eq 12, 3) := by decide +kernel
theorem d_Mo_loneIn_39 : decode b_Mo_loneIn 39 = .ok (.aload_n 0, 1) := by decide +kernel
theorem d_Mo_loneIn_40 : decode b_Mo_loneIn 40 = .ok (.iload_n 1, 1) := by decide +kernel
theorem d_Mo_loneIn_41 : decode b_Mo_loneIn 41 = .ok (.iload_n 3, 1) := by decide +kernel
theorem d_Mo_loneIn_42 : decode b_Mo_loneIn 42 = .ok (.invokevirtual 117, 3) := by decide +kernel
theorem d_Mo_loneIn_45 : decode b_Mo_loneIn 45 = .ok (.ifCond .eq 22, 3) := by decide +kernel
theorem d_Mo_loneIn_48 : decode b_Mo_loneIn 48 = .ok (.iload 4, 2) := by decide +kernel
theorem d_Mo_loneIn_50 : decode b_Mo_loneIn 50 = .ok (.invokestatic 114, 3) := by decide +kernel
theorem d_Mo_loneIn_53 : decode b_Mo_loneIn 53 = .ok (.ifCond .eq 18, 3) := by decide +kernel
theorem d_Mo_loneIn_56 : decode b_Mo_loneIn 56 = .ok (.aload_n 0, 1) := by decide +kernel
theorem d_Mo_loneIn_57 : decode b_Mo_loneIn 57 = .ok (.iload_n 1, 1) := by decide +kernel
theorem d_Mo_loneIn_58 : decode b_Mo_loneIn 58 = .ok (.iload_n 3, 1) := by decide +kernel
theorem d_Mo_loneIn_59 : decode b_Mo_loneIn 59 = .ok (.iconst 1, 1) := by decide +kernel
theorem d_Mo_loneIn_60 : decode b_Mo_loneIn 60 = .ok (.isub, 1) := by decide +kernel
theorem d_Mo_loneIn_61 : decode b_Mo_loneIn 61 = .ok (.invokevirtual 117, 3) := by decide +kernel
theorem d_Mo_loneIn_64 : decode b_Mo_loneIn 64 = .ok (.ifCond .ne 7, 3) := by decide +kernel
theorem d_Mo_loneIn_67 : decode b_Mo_loneIn 67 = .ok (.iconst 1, 1) := by decide +kernel
theorem d_Mo_loneIn_68 : decode b_Mo_loneIn 68 = .ok (.goto 4, 3) := by decide +kernel
theorem d_Mo_loneIn_71 : decode b_Mo_loneIn 71 = .ok (.iconst 0, 1) := by decide +kernel
theorem d_Mo_loneIn_72 : decode b_Mo_loneIn 72 = .ok (.istore_n 2, 1) := by decide +kernel
theorem d_Mo_loneIn_73 : decode b_Mo_loneIn 73 = .ok (.iinc 3 1, 3) := by decide +kernel
theorem d_Mo_loneIn_76 : decode b_Mo_loneIn 76 = .ok (.goto (-72), 3) := by decide +kernel
theorem d_Mo_loneIn_79 : decode b_Mo_loneIn 79 = .ok (.iload_n 2, 1) := by decide +kernel
theorem d_Mo_loneIn_80 : decode b_Mo_loneIn 80 = .ok (.ireturn, 1) := by decide +kernel
def f_Mo_loneIn_72 (K4 : Int32 → Int32 → Int32 → zSt → Option Int32) (a1 : Int32) (a3 : Int32) (t0 : Int32) (S : zSt) : Option Int32 := (K4 a1 t0 (a3 + 1) S)
def f_Mo_loneIn_67 (K4 : Int32 → Int32 → Int32 → zSt → Option Int32) (a1 : Int32) (a3 : Int32) (S : zSt) : Option Int32 := (f_Mo_loneIn_72 K4 a1 a3 1 S)
def f_Mo_loneIn_71 (K4 : Int32 → Int32 → Int32 → zSt → Option Int32) (a1 : Int32) (a3 : Int32) (S : zSt) : Option Int32 := (f_Mo_loneIn_72 K4 a1 a3 0 S)
def f_Mo_loneIn_48 (K4 : Int32 → Int32 → Int32 → zSt → Option Int32) (a1 : Int32) (a3 : Int32) (a4 : Int32) (S : zSt) : Option Int32 := ((f_Mo_low a4 S).bind fun u2 => (if u2 = 0 then (f_Mo_loneIn_71 K4 a1 a3 S) else ((f_Mo_pair a1 (a3 - 1) S).bind fun u3 => (if u3 = 0 then (f_Mo_loneIn_67 K4 a1 a3 S) else (f_Mo_loneIn_71 K4 a1 a3 S)))))
def f_Mo_loneIn_4 : Nat → Int32 → Int32 → Int32 → zSt → Option Int32
  | 0, _, _, _, _ => none
  | n + 1, a1, a2, a3, S => gdi a1 18 ((if (S 71 a1.toNatClampNeg) ≤ a3 then (gdb a2 (some a2)) else gdi ((8 * a1) + a3) 144 ((if a2 = 0 then ((f_Mo_high (S 72 ((8 * a1) + a3).toNatClampNeg) S).bind fun u1 => (if u1 = 0 then (f_Mo_loneIn_48 (f_Mo_loneIn_4 n) a1 a3 (S 72 ((8 * a1) + a3).toNatClampNeg) S) else ((f_Mo_pair a1 a3 S).bind fun u4 => (if u4 = 0 then (f_Mo_loneIn_67 (f_Mo_loneIn_4 n) a1 a3 S) else (f_Mo_loneIn_48 (f_Mo_loneIn_4 n) a1 a3 (S 72 ((8 * a1) + a3).toNatClampNeg) S))))) else (f_Mo_loneIn_67 (f_Mo_loneIn_4 n) a1 a3 S)))))
def f_Mo_loneIn (a1 : Int32) (S : zSt) : Option Int32 := (f_Mo_loneIn_4 fu a1 0 0 S)
set_option maxHeartbeats 4000000 in
set_option maxRecDepth 100000 in
theorem c_Mo_loneIn (l : Launch) (g : zG) (hD : GD g) (a1 : Int32) (S : zSt) (u : Int32) (h : f_Mo_loneIn a1 S = some u) : Met l y_Mo_loneIn (mw y_Mo_loneIn b_Mo_loneIn 5 (some .boolean)) (rmD 2) (Pw g [.ref (ga g 66), .int a1] S) (Qip g S u) 0 0 (gA g) := by
  refine z_go (own := R_Mo) (lv0 := [(0, .ref (ga g 66)), (1, .int a1)]) hD (by decide) rfl (Nat.le_of_ble_eq_true rfl) rfl ?_
  intro p e s m args below meth c C D ls hl
  have hx := C.1
  have hb := C.2.1
  have hown := C.2.2.2.1
  have hts := C.2.2.2.2.1
  have B72 : ∀ (K4 : Int32 → Int32 → Int32 → zSt → Option Int32) (hK4 : ∀ (H : Heap) (locs : List Loc) (ls : Array Slot) (a1 : Int32) (a2 : Int32) (a3 : Int32), K4 a1 a2 a3 S = some u → Dy g s S H locs → lv_has ls 5 [(0, .ref (ga g 66)), (1, .int a1), (2, .int a2), (3, .int a3)] → W p l e (rmD 2) s m args below meth c H locs 0 0 (MQ below (Qip g S u) args s 0 0 (gA g)) (F0 m 4 ls [])) (H : Heap) (locs : List Loc) (ls : Array Slot) (a1 : Int32) (a3 : Int32) (t0 : Int32), f_Mo_loneIn_72 K4 a1 a3 t0 S = some u → Dy g s S H locs → lv_has ls 5 [(0, .ref (ga g 66)), (1, .int a1), (3, .int a3)] → W p l e (rmD 2) s m args below meth c H locs 0 0 (MQ below (Qip g S u) args s 0 0 (gA g)) (F0 m 72 ls [.int t0]) := by
    intro K4 hK4 H locs ls a1 a3 t0 h D hl
    unfold f_Mo_loneIn_72 at h
    refine lv_istore_n (lv' := [(2, .int t0), (0, .ref (ga g 66)), (1, .int a1), (3, .int a3)]) hx hb d_Mo_loneIn_72 rfl hl (by decide) rfl (fun ls hl => ?_)
    refine lv_iinc (k := 3) (lv' := [(3, .int (a3 + 1)), (2, .int t0), (0, .ref (ga g 66)), (1, .int a1)]) hx hb d_Mo_loneIn_73 hl rfl (ii1 _) (by decide) rfl (fun ls hl => ?_)
    refine lv_goto hx hb d_Mo_loneIn_76 rfl ?_
    exact hK4 _ _ _ _ _ _ h D (lv_sub hl [2, 3, 1, 0] rfl)
  have B67 : ∀ (K4 : Int32 → Int32 → Int32 → zSt → Option Int32) (hK4 : ∀ (H : Heap) (locs : List Loc) (ls : Array Slot) (a1 : Int32) (a2 : Int32) (a3 : Int32), K4 a1 a2 a3 S = some u → Dy g s S H locs → lv_has ls 5 [(0, .ref (ga g 66)), (1, .int a1), (2, .int a2), (3, .int a3)] → W p l e (rmD 2) s m args below meth c H locs 0 0 (MQ below (Qip g S u) args s 0 0 (gA g)) (F0 m 4 ls [])) (H : Heap) (locs : List Loc) (ls : Array Slot) (a1 : Int32) (a3 : Int32), f_Mo_loneIn_67 K4 a1 a3 S = some u → Dy g s S H locs → lv_has ls 5 [(0, .ref (ga g 66)), (1, .int a1), (3, .int a3)] → W p l e (rmD 2) s m args below meth c H locs 0 0 (MQ below (Qip g S u) args s 0 0 (gA g)) (F0 m 67 ls []) := by
    intro K4 hK4 H locs ls a1 a3 h D hl
    unfold f_Mo_loneIn_67 at h
    refine lv_iconst (v := 1) hx hb d_Mo_loneIn_67 (by decide) ?_
    refine lv_goto hx hb d_Mo_loneIn_68 rfl ?_
    exact B72 _ hK4 _ _ _ _ _ _ h D (lv_sub hl [0, 1, 2] rfl)
  have B71 : ∀ (K4 : Int32 → Int32 → Int32 → zSt → Option Int32) (hK4 : ∀ (H : Heap) (locs : List Loc) (ls : Array Slot) (a1 : Int32) (a2 : Int32) (a3 : Int32), K4 a1 a2 a3 S = some u → Dy g s S H locs → lv_has ls 5 [(0, .ref (ga g 66)), (1, .int a1), (2, .int a2), (3, .int a3)] → W p l e (rmD 2) s m args below meth c H locs 0 0 (MQ below (Qip g S u) args s 0 0 (gA g)) (F0 m 4 ls [])) (H : Heap) (locs : List Loc) (ls : Array Slot) (a1 : Int32) (a3 : Int32), f_Mo_loneIn_71 K4 a1 a3 S = some u → Dy g s S H locs → lv_has ls 5 [(0, .ref (ga g 66)), (1, .int a1), (3, .int a3)] → W p l e (rmD 2) s m args below meth c H locs 0 0 (MQ below (Qip g S u) args s 0 0 (gA g)) (F0 m 71 ls []) := by
    intro K4 hK4 H locs ls a1 a3 h D hl
    unfold f_Mo_loneIn_71 at h
    refine lv_iconst (v := 0) hx hb d_Mo_loneIn_71 (by decide) ?_
    exact B72 _ hK4 _ _ _ _ _ _ h D (lv_sub hl [0, 1, 2] rfl)
  have B48 : ∀ (K4 : Int32 → Int32 → Int32 → zSt → Option Int32) (hK4 : ∀ (H : Heap) (locs : List Loc) (ls : Array Slot) (a1 : Int32) (a2 : Int32) (a3 : Int32), K4 a1 a2 a3 S = some u → Dy g s S H locs → lv_has ls 5 [(0, .ref (ga g 66)), (1, .int a1), (2, .int a2), (3, .int a3)] → W p l e (rmD 2) s m args below meth c H locs 0 0 (MQ below (Qip g S u) args s 0 0 (gA g)) (F0 m 4 ls [])) (H : Heap) (locs : List Loc) (ls : Array Slot) (a1 : Int32) (a3 : Int32) (a4 : Int32), f_Mo_loneIn_48 K4 a1 a3 a4 S = some u → Dy g s S H locs → lv_has ls 5 [(0, .ref (ga g 66)), (1, .int a1), (3, .int a3), (4, .int a4)] → W p l e (rmD 2) s m args below meth c H locs 0 0 (MQ below (Qip g S u) args s 0 0 (gA g)) (F0 m 48 ls []) := by
    intro K4 hK4 H locs ls a1 a3 a4 h D hl
    unfold f_Mo_loneIn_48 at h
    refine lv_iload hx hb d_Mo_loneIn_48 (lv_at hl 3 rfl) ?_
    obtain ⟨u2, hu2, h⟩ := bd_some h
    refine x_cip (rest := []) (r_S C D (c_Mo_low l g hD a4 S u2 hu2) wc_Mo_low wm_Mo_114 wt_Mo_low wd_Mo_low rfl rfl hl (Nat.le_of_ble_eq_true rfl) (by decide) d_Mo_loneIn_50) D (fun H locs D => ?_)
    refine lv_if_eq hx hb d_Mo_loneIn_53 rfl (fun z => ?_) (fun z => ?_)
    · replace h := if_t z h
      exact B71 _ hK4 _ _ _ _ _ h D (lv_sub hl [0, 1, 2] rfl)
    · replace h := if_f z h
      refine lv_aload_n hx hb d_Mo_loneIn_56 rfl (lv_at hl 0 rfl) ?_
      refine lv_iload_n hx hb d_Mo_loneIn_57 rfl (lv_at hl 1 rfl) ?_
      refine lv_iload_n hx hb d_Mo_loneIn_58 rfl (lv_at hl 2 rfl) ?_
      refine lv_iconst (v := 1) hx hb d_Mo_loneIn_59 (by decide) ?_
      refine lv_isub hx hb d_Mo_loneIn_60 ?_
      obtain ⟨u3, hu3, h⟩ := bd_some h
      refine x_cip (rest := []) (r_V C D (c_Mo_pair l g hD a1 (a3 - 1) S u3 hu3) wc_Mo_pair wm_Mo_117 wi_Mo_pair wd_Mo_pair (by decide) sh_66 kc_Mo.1 rfl rfl hl (Nat.le_of_ble_eq_true rfl) (by decide) d_Mo_loneIn_61) D (fun H locs D => ?_)
      refine lv_if_ne hx hb d_Mo_loneIn_64 rfl (fun z => ?_) (fun z => ?_)
      · replace h := if_f z h
        exact B71 _ hK4 _ _ _ _ _ h D (lv_sub hl [0, 1, 2] rfl)
      · replace h := if_t z h
        exact B67 _ hK4 _ _ _ _ _ h D (lv_sub hl [0, 1, 2] rfl)
  have L4 : ∀ (n : Nat) (H : Heap) (locs : List Loc) (ls : Array Slot) (a1 : Int32) (a2 : Int32) (a3 : Int32), f_Mo_loneIn_4 n a1 a2 a3 S = some u → Dy g s S H locs → lv_has ls 5 [(0, .ref (ga g 66)), (1, .int a1), (2, .int a2), (3, .int a3)] → W p l e (rmD 2) s m args below meth c H locs 0 0 (MQ below (Qip g S u) args s 0 0 (gA g)) (F0 m 4 ls []) := by
    intro n
    induction n with
    | zero => intro H locs ls a1 a2 a3 h D hl; rw [f_Mo_loneIn_4] at h; cases h
    | succ n hK4 =>
      intro H locs ls a1 a2 a3 h D hl
      rw [f_Mo_loneIn_4] at h
      refine lv_iload_n hx hb d_Mo_loneIn_4 rfl (lv_at hl 3 rfl) ?_
      refine lv_aload_n hx hb d_Mo_loneIn_5 rfl (lv_at hl 0 rfl) ?_
      refine x_get (v := .ref (ga g 71)) C D kc_Mo (by decide) sh_66 7 rfl (by decide) wf_Mo_22 rfl rfl d_Mo_loneIn_6 ?_
      refine lv_iload_n hx hb d_Mo_loneIn_9 rfl (lv_at hl 1 rfl) ?_
      refine x_iald C D (by decide) sh_71 d_Mo_loneIn_10 h (fun _ h => ?_)
      refine lv_icmp_ge hx hb d_Mo_loneIn_11 rfl (fun z => ?_) (fun z => ?_)
      · replace h := if_t z h
        refine lv_iload_n hx hb d_Mo_loneIn_79 rfl (lv_at hl 2 rfl) ?_
        exact x_zrp C D h d_Mo_loneIn_80
      · replace h := if_f z h
        refine lv_aload_n hx hb d_Mo_loneIn_14 rfl (lv_at hl 0 rfl) ?_
        refine x_get (v := .ref (ga g 72)) C D kc_Mo (by decide) sh_66 8 rfl (by decide) wf_Mo_25 rfl rfl d_Mo_loneIn_15 ?_
        refine lv_bipush (v := 8) hx hb d_Mo_loneIn_18 (by decide) ?_
        refine lv_iload_n hx hb d_Mo_loneIn_20 rfl (lv_at hl 1 rfl) ?_
        refine lv_imul hx hb d_Mo_loneIn_21 ?_
        refine lv_iload_n hx hb d_Mo_loneIn_22 rfl (lv_at hl 3 rfl) ?_
        refine lv_iadd hx hb d_Mo_loneIn_23 ?_
        refine x_iald C D (by decide) sh_72 d_Mo_loneIn_24 h (fun _ h => ?_)
        refine lv_istore (lv' := [(4, .int (S 72 ((8 * a1) + a3).toNatClampNeg)), (0, .ref (ga g 66)), (1, .int a1), (2, .int a2), (3, .int a3)]) hx hb d_Mo_loneIn_25 hl (by decide) rfl (fun ls hl => ?_)
        refine lv_iload_n hx hb d_Mo_loneIn_27 rfl (lv_at hl 3 rfl) ?_
        refine lv_if_ne hx hb d_Mo_loneIn_28 rfl (fun z => ?_) (fun z => ?_)
        · replace h := if_f z h
          exact B67 _ hK4 _ _ _ _ _ h D (lv_sub hl [1, 2, 4] rfl)
        · replace h := if_t z h
          refine lv_iload hx hb d_Mo_loneIn_31 (lv_at hl 0 rfl) ?_
          obtain ⟨u1, hu1, h⟩ := bd_some h
          refine x_cip (rest := []) (r_S C D (c_Mo_high l g hD (S 72 ((8 * a1) + a3).toNatClampNeg) S u1 hu1) wc_Mo_high wm_Mo_111 wt_Mo_high wd_Mo_high rfl rfl hl (Nat.le_of_ble_eq_true rfl) (by decide) d_Mo_loneIn_33) D (fun H locs D => ?_)
          refine lv_if_eq hx hb d_Mo_loneIn_36 rfl (fun z => ?_) (fun z => ?_)
          · replace h := if_t z h
            exact B48 _ hK4 _ _ _ _ _ _ h D (lv_sub hl [1, 2, 4, 0] rfl)
          · replace h := if_f z h
            refine lv_aload_n hx hb d_Mo_loneIn_39 rfl (lv_at hl 1 rfl) ?_
            refine lv_iload_n hx hb d_Mo_loneIn_40 rfl (lv_at hl 2 rfl) ?_
            refine lv_iload_n hx hb d_Mo_loneIn_41 rfl (lv_at hl 4 rfl) ?_
            obtain ⟨u4, hu4, h⟩ := bd_some h
            refine x_cip (rest := []) (r_V C D (c_Mo_pair l g hD a1 a3 S u4 hu4) wc_Mo_pair wm_Mo_117 wi_Mo_pair wd_Mo_pair (by decide) sh_66 kc_Mo.1 rfl rfl hl (Nat.le_of_ble_eq_true rfl) (by decide) d_Mo_loneIn_42) D (fun H locs D => ?_)
            refine lv_if_eq hx hb d_Mo_loneIn_45 rfl (fun z => ?_) (fun z => ?_)
            · replace h := if_t z h
              exact B67 _ hK4 _ _ _ _ _ h D (lv_sub hl [1, 2, 4] rfl)
            · replace h := if_f z h
              exact B48 _ hK4 _ _ _ _ _ _ h D (lv_sub hl [1, 2, 4, 0] rfl)
  unfold f_Mo_loneIn at h
  refine lv_iconst (v := 0) hx hb d_Mo_loneIn_0 (by decide) ?_
  refine lv_istore_n (lv' := [(2, .int 0), (0, .ref (ga g 66)), (1, .int a1)]) hx hb d_Mo_loneIn_1 rfl hl (by decide) rfl (fun ls hl => ?_)
  refine lv_iconst (v := 0) hx hb d_Mo_loneIn_2 (by decide) ?_
  refine lv_istore_n (lv' := [(3, .int 0), (2, .int 0), (0, .ref (ga g 66)), (1, .int a1)]) hx hb d_Mo_loneIn_3 rfl hl (by decide) rfl (fun ls hl => ?_)
  exact L4 _ _ _ _ _ _ _ h D (lv_sub hl [2, 3, 1, 0] rfl)
theorem d_Mo_single_0 : decode b_Mo_single 0 = .ok (.iload_n 2, 1) := by decide +kernel
theorem d_Mo_single_1 : decode b_Mo_single 1 = .ok (.ifCond .eq 9, 3) := by decide +kernel
theorem d_Mo_single_4 : decode b_Mo_single 4 = .ok (.aload_n 0, 1) := by decide +kernel
theorem d_Mo_single_5 : decode b_Mo_single 5 = .ok (.iload_n 1, 1) := by decide +kernel
theorem d_Mo_single_6 : decode b_Mo_single 6 = .ok (.invokevirtual 142, 3) := by decide +kernel
theorem d_Mo_single_9 : decode b_Mo_single 9 = .ok (.return_, 1) := by decide +kernel
theorem d_Mo_single_10 : decode b_Mo_single 10 = .ok (.aload_n 0, 1) := by decide +kernel
theorem d_Mo_single_11 : decode b_Mo_single 11 = .ok (.bipush 37, 2) := by decide +kernel
theorem d_Mo_single_13 : decode b_Mo_single 13 = .ok (.invokevirtual 142, 3) := by decide +kernel
theorem d_Mo_single_16 : decode b_Mo_single 16 = .ok (.aload_n 0, 1) := by decide +kernel
theorem d_Mo_single_17 : decode b_Mo_single 17 = .ok (.iload_n 1, 1) := by decide +kernel
theorem d_Mo_single_18 : decode b_Mo_single 18 = .ok (.bipush 16, 2) := by decide +kernel
theorem d_Mo_single_20 : decode b_Mo_single 20 = .ok (.idiv, 1) := by decide +kernel
theorem d_Mo_single_21 : decode b_Mo_single 21 = .ok (.invokevirtual 146, 3) := by decide +kernel
theorem d_Mo_single_24 : decode b_Mo_single 24 = .ok (.aload_n 0, 1) := by decide +kernel
theorem d_Mo_single_25 : decode b_Mo_single 25 = .ok (.iload_n 1, 1) := by decide +kernel
theorem d_Mo_single_26 : decode b_Mo_single 26 = .ok (.bipush 16, 2) := by decide +kernel
theorem d_Mo_single_28 : decode b_Mo_single 28 = .ok (.irem, 1) := by decide +kernel
theorem d_Mo_single_29 : decode b_Mo_single 29 = .ok (.invokevirtual 146, 3) := by decide +kernel
theorem d_Mo_single_32 : decode b_Mo_single 32 = .ok (.return_, 1) := by decide +kernel
def f_Mo_single (a1 : Int32) (a2 : Int32) (S : zSt) : Option zSt := (if a2 = 0 then ((f_Mo_put 37 S).bind fun u1 => gdz 16 (((f_Mo_hexadecimal (a1 / 16) u1).bind fun u3 => gdz 16 (((f_Mo_hexadecimal (a1 - a1 / 16 * 16) u3).bind fun u5 => (some u5)))))) else ((f_Mo_put a1 S).bind fun u6 => (some u6)))
set_option maxHeartbeats 4000000 in
set_option maxRecDepth 100000 in
theorem c_Mo_single (l : Launch) (g : zG) (hD : GD g) (a1 : Int32) (a2 : Int32) (S : zSt) (u : zSt) (h : f_Mo_single a1 a2 S = some u) : Met l y_Mo_single (mw y_Mo_single b_Mo_single 3 none) (rmD 2) (Pw g [.ref (ga g 66), .int a1, .int a2] S) (Qvs g u) 0 0 (gA g) := by
  refine z_go (own := R_Mo) (lv0 := [(0, .ref (ga g 66)), (1, .int a1), (2, .int a2)]) hD (by decide) rfl (Nat.le_of_ble_eq_true rfl) rfl ?_
  intro p e s m args below meth c C D ls hl
  have hx := C.1
  have hb := C.2.1
  have hown := C.2.2.2.1
  have hts := C.2.2.2.2.1
  unfold f_Mo_single at h
  refine lv_iload_n hx hb d_Mo_single_0 rfl (lv_at hl 2 rfl) ?_
  refine lv_if_eq hx hb d_Mo_single_1 rfl (fun z => ?_) (fun z => ?_)
  · replace h := if_t z h
    refine lv_aload_n hx hb d_Mo_single_10 rfl (lv_at hl 0 rfl) ?_
    refine lv_bipush (v := 37) hx hb d_Mo_single_11 (by decide) ?_
    obtain ⟨u1, hu1, h⟩ := bd_some h
    refine x_cvs (rest := []) (r_V C D (c_Mo_put l g hD 37 S u1 hu1) wc_Mo_put wm_Mo_142 wi_Mo_put wd_Mo_put (by decide) sh_66 kc_Mo.1 rfl rfl hl (Nat.le_of_ble_eq_true rfl) (by decide) d_Mo_single_13) D (fun H locs D => ?_)
    refine lv_aload_n hx hb d_Mo_single_16 rfl (lv_at hl 0 rfl) ?_
    refine lv_iload_n hx hb d_Mo_single_17 rfl (lv_at hl 1 rfl) ?_
    refine lv_bipush (v := 16) hx hb d_Mo_single_18 (by decide) ?_
    obtain ⟨z2, h⟩ := gdz_some h
    refine lv_idiv hx hb d_Mo_single_20 z2 ?_
    obtain ⟨u3, hu3, h⟩ := bd_some h
    refine x_cvs (rest := []) (r_V C D (c_Mo_hexadecimal l g hD (a1 / 16) u1 u3 hu3) wc_Mo_hexadecimal wm_Mo_146 wi_Mo_hexadecimal wd_Mo_hexadecimal (by decide) sh_66 kc_Mo.1 rfl rfl hl (Nat.le_of_ble_eq_true rfl) (by decide) d_Mo_single_21) D (fun H locs D => ?_)
    refine lv_aload_n hx hb d_Mo_single_24 rfl (lv_at hl 0 rfl) ?_
    refine lv_iload_n hx hb d_Mo_single_25 rfl (lv_at hl 1 rfl) ?_
    refine lv_bipush (v := 16) hx hb d_Mo_single_26 (by decide) ?_
    obtain ⟨z4, h⟩ := gdz_some h
    refine lv_irem hx hb d_Mo_single_28 z4 ?_
    obtain ⟨u5, hu5, h⟩ := bd_some h
    refine x_cvs (rest := []) (r_V C D (c_Mo_hexadecimal l g hD (a1 - a1 / 16 * 16) u3 u5 hu5) wc_Mo_hexadecimal wm_Mo_146 wi_Mo_hexadecimal wd_Mo_hexadecimal (by decide) sh_66 kc_Mo.1 rfl rfl hl (Nat.le_of_ble_eq_true rfl) (by decide) d_Mo_single_29) D (fun H locs D => ?_)
    exact x_vrs C D h d_Mo_single_32
  · replace h := if_f z h
    refine lv_aload_n hx hb d_Mo_single_4 rfl (lv_at hl 0 rfl) ?_
    refine lv_iload_n hx hb d_Mo_single_5 rfl (lv_at hl 1 rfl) ?_
    obtain ⟨u6, hu6, h⟩ := bd_some h
    refine x_cvs (rest := []) (r_V C D (c_Mo_put l g hD a1 S u6 hu6) wc_Mo_put wm_Mo_142 wi_Mo_put wd_Mo_put (by decide) sh_66 kc_Mo.1 rfl rfl hl (Nat.le_of_ble_eq_true rfl) (by decide) d_Mo_single_6) D (fun H locs D => ?_)
    exact x_vrs C D h d_Mo_single_9
theorem d_Mo_statusLine_0 : decode b_Mo_statusLine 0 = .ok (.aload_n 0, 1) := by decide +kernel
theorem d_Mo_statusLine_1 : decode b_Mo_statusLine 1 = .ok (.getfield 237, 3) := by decide +kernel
theorem d_Mo_statusLine_4 : decode b_Mo_statusLine 4 = .ok (.aload_n 0, 1) := by decide +kernel
theorem d_Mo_statusLine_5 : decode b_Mo_statusLine 5 = .ok (.getfield 231, 3) := by decide +kernel
theorem d_Mo_statusLine_8 : decode b_Mo_statusLine 8 = .ok (.isub, 1) := by decide +kernel
theorem d_Mo_statusLine_9 : decode b_Mo_statusLine 9 = .ok (.bipush 13, 2) := by decide +kernel
theorem d_Mo_statusLine_11 : decode b_Mo_statusLine 11 = .ok (.if_icmp .lt 69, 3) := by decide +kernel
theorem d_Mo_statusLine_14 : decode b_Mo_statusLine 14 = .ok (.aload_n 0, 1) := by decide +kernel
theorem d_Mo_statusLine_15 : decode b_Mo_statusLine 15 = .ok (.getfield 37, 3) := by decide +kernel
theorem d_Mo_statusLine_18 : decode b_Mo_statusLine 18 = .ok (.aload_n 0, 1) := by decide +kernel
theorem d_Mo_statusLine_19 : decode b_Mo_statusLine 19 = .ok (.getfield 231, 3) := by decide +kernel
theorem d_Mo_statusLine_22 : decode b_Mo_statusLine 22 = .ok (.iaload, 1) := by decide +kernel
theorem d_Mo_statusLine_23 : decode b_Mo_statusLine 23 = .ok (.bipush 72, 2) := by decide +kernel
theorem d_Mo_statusLine_25 : decode b_Mo_statusLine 25 = .ok (.if_icmp .ne 55, 3) := by decide +kernel
theorem d_Mo_statusLine_28 : decode b_Mo_statusLine 28 = .ok (.aload_n 0, 1) := by decide +kernel
theorem d_Mo_statusLine_29 : decode b_Mo_statusLine 29 = .ok (.getfield 37, 3) := by decide +kernel
theorem d_Mo_statusLine_32 : decode b_Mo_statusLine 32 = .ok (.aload_n 0, 1) := by decide +kernel
theorem d_Mo_statusLine_33 : decode b_Mo_statusLine 33 = .ok (.getfield 231, 3) := by decide +kernel
theorem d_Mo_statusLine_36 : decode b_Mo_statusLine 36 = .ok (.iconst 1, 1) := by decide +kernel
theorem d_Mo_statusLine_37 : decode b_Mo_statusLine 37 = .ok (.iadd, 1) := by decide +kernel
theorem d_Mo_statusLine_38 : decode b_Mo_statusLine 38 = .ok (.iaload, 1) := by decide +kernel
theorem d_Mo_statusLine_39 : decode b_Mo_statusLine 39 = .ok (.bipush 84, 2) := by decide +kernel
theorem d_Mo_statusLine_41 : decode b_Mo_statusLine 41 = .ok (.if_icmp .ne 39, 3) := by decide +kernel
theorem d_Mo_statusLine_44 : decode b_Mo_statusLine 44 = .ok (.aload_n 0, 1) := by decide +kernel
theorem d_Mo_statusLine_45 : decode b_Mo_statusLine 45 = .ok (.getfield 37, 3) := by decide +kernel
theorem d_Mo_statusLine_48 : decode b_Mo_statusLine 48 = .ok (.aload_n 0, 1) := by decide +kernel
theorem d_Mo_statusLine_49 : decode b_Mo_statusLine 49 = .ok (.getfield 231, 3) := by decide +kernel
theorem d_Mo_statusLine_52 : decode b_Mo_statusLine 52 = .ok (.iconst 2, 1) := by decide +kernel
theorem d_Mo_statusLine_53 : decode b_Mo_statusLine 53 = .ok (.iadd, 1) := by decide +kernel
theorem d_Mo_statusLine_54 : decode b_Mo_statusLine 54 = .ok (.iaload, 1) := by decide +kernel
theorem d_Mo_statusLine_55 : decode b_Mo_statusLine 55 = .ok (.bipush 84, 2) := by decide +kernel
theorem d_Mo_statusLine_57 : decode b_Mo_statusLine 57 = .ok (.if_icmp .ne 23, 3) := by decide +kernel
theorem d_Mo_statusLine_60 : decode b_Mo_statusLine 60 = .ok (.aload_n 0, 1) := by decide +kernel
theorem d_Mo_statusLine_61 : decode b_Mo_statusLine 61 = .ok (.getfield 37, 3) := by decide +kernel
theorem d_Mo_statusLine_64 : decode b_Mo_statusLine 64 = .ok (.aload_n 0, 1) := by decide +kernel
theorem d_Mo_statusLine_65 : decode b_Mo_statusLine 65 = .ok (.getfield 231, 3) := by decide +kernel
theorem d_Mo_statusLine_68 : decode b_Mo_statusLine 68 = .ok (.iconst 3, 1) := by decide +kernel
theorem d_Mo_statusLine_69 : decode b_Mo_statusLine 69 = .ok (.iadd, 1) := by decide +kernel
theorem d_Mo_statusLine_70 : decode b_Mo_statusLine 70 = .ok (.iaload, 1) := by decide +kernel
theorem d_Mo_statusLine_71 : decode b_Mo_statusLine 71 = .ok (.bipush 80, 2) := by decide +kernel
theorem d_Mo_statusLine_73 : decode b_Mo_statusLine 73 = .ok (.if_icmp .ne 7, 3) := by decide +kernel
theorem d_Mo_statusLine_76 : decode b_Mo_statusLine 76 = .ok (.iconst 1, 1) := by decide +kernel
theorem d_Mo_statusLine_77 : decode b_Mo_statusLine 77 = .ok (.goto 4, 3) := by decide +kernel
theorem d_Mo_statusLine_80 : decode b_Mo_statusLine 80 = .ok (.iconst 0, 1) := by decide +kernel
theorem d_Mo_statusLine_81 : decode b_Mo_statusLine 81 = .ok (.istore_n 1, 1) := by decide +kernel
theorem d_Mo_statusLine_82 : decode b_Mo_statusLine 82 = .ok (.iload_n 1, 1) := by decide +kernel
theorem d_Mo_statusLine_83 : decode b_Mo_statusLine 83 = .ok (.ifCond .eq 62, 3) := by decide +kernel
theorem d_Mo_statusLine_86 : decode b_Mo_statusLine 86 = .ok (.aload_n 0, 1) := by decide +kernel
theorem d_Mo_statusLine_87 : decode b_Mo_statusLine 87 = .ok (.aload_n 0, 1) := by decide +kernel
theorem d_Mo_statusLine_88 : decode b_Mo_statusLine 88 = .ok (.getfield 231, 3) := by decide +kernel
theorem d_Mo_statusLine_91 : decode b_Mo_statusLine 91 = .ok (.iconst 4, 1) := by decide +kernel
theorem d_Mo_statusLine_92 : decode b_Mo_statusLine 92 = .ok (.iadd, 1) := by decide +kernel
theorem d_Mo_statusLine_93 : decode b_Mo_statusLine 93 = .ok (.aload_n 0, 1) := by decide +kernel
theorem d_Mo_statusLine_94 : decode b_Mo_statusLine 94 = .ok (.getfield 231, 3) := by decide +kernel
theorem d_Mo_statusLine_97 : decode b_Mo_statusLine 97 = .ok (.bipush 8, 2) := by decide +kernel
theorem d_Mo_statusLine_99 : decode b_Mo_statusLine 99 = .ok (.iadd, 1) := by decide +kernel
theorem d_Mo_statusLine_100 : decode b_Mo_statusLine 100 = .ok (.ldc2_w 243, 3) := by decide +kernel
theorem d_Mo_statusLine_103 : decode b_Mo_statusLine 103 = .ok (.lconst 0, 1) := by decide +kernel
theorem d_Mo_statusLine_104 : decode b_Mo_statusLine 104 = .ok (.lconst 0, 1) := by decide +kernel
theorem d_Mo_statusLine_105 : decode b_Mo_statusLine 105 = .ok (.invokevirtual 245, 3) := by decide +kernel
theorem d_Mo_statusLine_108 : decode b_Mo_statusLine 108 = .ok (.ifCond .eq 37, 3) := by decide +kernel
theorem d_Mo_statusLine_111 : decode b_Mo_statusLine 111 = .ok (.aload_n 0, 1) := by decide +kernel
theorem d_Mo_statusLine_112 : decode b_Mo_statusLine 112 = .ok (.getfield 37, 3) := by decide +kernel
theorem d_Mo_statusLine_115 : decode b_Mo_statusLine 115 = .ok (.aload_n 0, 1) := by decide +kernel
theorem d_Mo_statusLine_116 : decode b_Mo_statusLine 116 = .ok (.getfield 231, 3) := by decide +kernel
theorem d_Mo_statusLine_119 : decode b_Mo_statusLine 119 = .ok (.bipush 8, 2) := by decide +kernel
theorem d_Mo_statusLine_121 : decode b_Mo_statusLine 121 = .ok (.iadd, 1) := by decide +kernel
theorem d_Mo_statusLine_122 : decode b_Mo_statusLine 122 = .ok (.iaload, 1) := by decide +kernel
theorem d_Mo_statusLine_123 : decode b_Mo_statusLine 123 = .ok (.bipush 32, 2) := by decide +kernel
theorem d_Mo_statusLine_125 : decode b_Mo_statusLine 125 = .ok (.if_icmp .ne 20, 3) := by decide +kernel
theorem d_Mo_statusLine_128 : decode b_Mo_statusLine 128 = .ok (.aload_n 0, 1) := by decide +kernel
theorem d_Mo_statusLine_129 : decode b_Mo_statusLine 129 = .ok (.getfield 37, 3) := by decide +kernel
theorem d_Mo_statusLine_132 : decode b_Mo_statusLine 132 = .ok (.aload_n 0, 1) := by decide +kernel
theorem d_Mo_statusLine_133 : decode b_Mo_statusLine 133 = .ok (.getfield 231, 3) := by decide +kernel
theorem d_Mo_statusLine_136 : decode b_Mo_statusLine 136 = .ok (.bipush 12, 2) := by decide +kernel
theorem d_Mo_statusLine_138 : decode b_Mo_statusLine 138 = .ok (.iadd, 1) := by decide +kernel
theorem d_Mo_statusLine_139 : decode b_Mo_statusLine 139 = .ok (.iaload, 1) := by decide +kernel
theorem d_Mo_statusLine_140 : decode b_Mo_statusLine 140 = .ok (.bipush 32, 2) := by decide +kernel
theorem d_Mo_statusLine_142 : decode b_Mo_statusLine 142 = .ok (.if_icmp .eq 5, 3) := by decide +kernel
theorem d_Mo_statusLine_145 : decode b_Mo_statusLine 145 = .ok (.iconst (-1), 1) := by decide +kernel
theorem d_Mo_statusLine_146 : decode b_Mo_statusLine 146 = .ok (.ireturn, 1) := by decide +kernel
theorem d_Mo_statusLine_147 : decode b_Mo_statusLine 147 = .ok (.aload_n 0, 1) := by decide +kernel
theorem d_Mo_statusLine_148 : decode b_Mo_statusLine 148 = .ok (.getfield 37, 3) := by decide +kernel
theorem d_Mo_statusLine_151 : decode b_Mo_statusLine 151 = .ok (.aload_n 0, 1) := by decide +kernel
theorem d_Mo_statusLine_152 : decode b_Mo_statusLine 152 = .ok (.getfield 231, 3) := by decide +kernel
theorem d_Mo_statusLine_155 : decode b_Mo_statusLine 155 = .ok (.bipush 9, 2) := by decide +kernel
theorem d_Mo_statusLine_157 : decode b_Mo_statusLine 157 = .ok (.iadd, 1) := by decide +kernel
theorem d_Mo_statusLine_158 : decode b_Mo_statusLine 158 = .ok (.iaload, 1) := by decide +kernel
theorem d_Mo_statusLine_159 : decode b_Mo_statusLine 159 = .ok (.istore_n 2, 1) := by decide +kernel
theorem d_Mo_statusLine_160 : decode b_Mo_statusLine 160 = .ok (.aload_n 0, 1) := by decide +kernel
theorem d_Mo_statusLine_161 : decode b_Mo_statusLine 161 = .ok (.getfield 37, 3) := by decide +kernel
theorem d_Mo_statusLine_164 : decode b_Mo_statusLine 164 = .ok (.aload_n 0, 1) := by decide +kernel
theorem d_Mo_statusLine_165 : decode b_Mo_statusLine 165 = .ok (.getfield 231, 3) := by decide +kernel
theorem d_Mo_statusLine_168 : decode b_Mo_statusLine 168 = .ok (.bipush 10, 2) := by decide +kernel
theorem d_Mo_statusLine_170 : decode b_Mo_statusLine 170 = .ok (.iadd, 1) := by decide +kernel
theorem d_Mo_statusLine_171 : decode b_Mo_statusLine 171 = .ok (.iaload, 1) := by decide +kernel
theorem d_Mo_statusLine_172 : decode b_Mo_statusLine 172 = .ok (.istore_n 3, 1) := by decide +kernel
theorem d_Mo_statusLine_173 : decode b_Mo_statusLine 173 = .ok (.aload_n 0, 1) := by decide +kernel
theorem d_Mo_statusLine_174 : decode b_Mo_statusLine 174 = .ok (.getfield 37, 3) := by decide +kernel
theorem d_Mo_statusLine_177 : decode b_Mo_statusLine 177 = .ok (.aload_n 0, 1) := by decide +kernel
theorem d_Mo_statusLine_178 : decode b_Mo_statusLine 178 = .ok (.getfield 231, 3) := by decide +kernel
theorem d_Mo_statusLine_181 : decode b_Mo_statusLine 181 = .ok (.bipush 11, 2) := by decide +kernel
theorem d_Mo_statusLine_183 : decode b_Mo_statusLine 183 = .ok (.iadd, 1) := by decide +kernel
theorem d_Mo_statusLine_184 : decode b_Mo_statusLine 184 = .ok (.iaload, 1) := by decide +kernel
theorem d_Mo_statusLine_185 : decode b_Mo_statusLine 185 = .ok (.istore 4, 2) := by decide +kernel
theorem d_Mo_statusLine_187 : decode b_Mo_statusLine 187 = .ok (.iload_n 2, 1) := by decide +kernel
theorem d_Mo_statusLine_188 : decode b_Mo_statusLine 188 = .ok (.bipush 49, 2) := by decide +kernel
theorem d_Mo_statusLine_190 : decode b_Mo_statusLine 190 = .ok (.if_icmp .lt 48, 3) := by decide +kernel
theorem d_Mo_statusLine_193 : decode b_Mo_statusLine 193 = .ok (.iload_n 2, 1) := by decide +kernel
theorem d_Mo_statusLine_194 : decode b_Mo_statusLine 194 = .ok (.bipush 53, 2) := by decide +kernel
theorem d_Mo_statusLine_196 : decode b_Mo_statusLine 196 = .ok (.if_icmp .gt 42, 3) := by decide +kernel
theorem d_Mo_statusLine_199 : decode b_Mo_statusLine 199 = .ok (.iload_n 3, 1) := by decide +kernel
theorem d_Mo_statusLine_200 : decode b_Mo_statusLine 200 = .ok (.invokestatic 63, 3) := by decide +kernel
theorem d_Mo_statusLine_203 : decode b_Mo_statusLine 203 = .ok (.ifCond .eq 35, 3) := by decide +kernel
theorem d_Mo_statusLine_206 : decode b_Mo_statusLine 206 = .ok (.iload 4, 2) := by decide +kernel
theorem d_Mo_statusLine_208 : decode b_Mo_statusLine 208 = .ok (.invokestatic 63, 3) := by decide +kernel
theorem d_Mo_statusLine_211 : decode b_Mo_statusLine 211 = .ok (.ifCond .eq 27, 3) := by decide +kernel
theorem d_Mo_statusLine_214 : decode b_Mo_statusLine 214 = .ok (.bipush 100, 2) := by decide +kernel
theorem d_Mo_statusLine_216 : decode b_Mo_statusLine 216 = .ok (.iload_n 2, 1) := by decide +kernel
theorem d_Mo_statusLine_217 : decode b_Mo_statusLine 217 = .ok (.bipush 48, 2) := by decide +kernel
theorem d_Mo_statusLine_219 : decode b_Mo_statusLine 219 = .ok (.isub, 1) := by decide +kernel
theorem d_Mo_statusLine_220 : decode b_Mo_statusLine 220 = .ok (.imul, 1) := by decide +kernel
theorem d_Mo_statusLine_221 : decode b_Mo_statusLine 221 = .ok (.bipush 10, 2) := by decide +kernel
theorem d_Mo_statusLine_223 : decode b_Mo_statusLine 223 = .ok (.iload_n 3, 1) := by decide +kernel
theorem d_Mo_statusLine_224 : decode b_Mo_statusLine 224 = .ok (.bipush 48, 2) := by decide +kernel
theorem d_Mo_statusLine_226 : decode b_Mo_statusLine 226 = .ok (.isub, 1) := by decide +kernel
theorem d_Mo_statusLine_227 : decode b_Mo_statusLine 227 = .ok (.imul, 1) := by decide +kernel
theorem d_Mo_statusLine_228 : decode b_Mo_statusLine 228 = .ok (.iadd, 1) := by decide +kernel
theorem d_Mo_statusLine_229 : decode b_Mo_statusLine 229 = .ok (.iload 4, 2) := by decide +kernel
theorem d_Mo_statusLine_231 : decode b_Mo_statusLine 231 = .ok (.iadd, 1) := by decide +kernel
theorem d_Mo_statusLine_232 : decode b_Mo_statusLine 232 = .ok (.bipush 48, 2) := by decide +kernel
theorem d_Mo_statusLine_234 : decode b_Mo_statusLine 234 = .ok (.isub, 1) := by decide +kernel
theorem d_Mo_statusLine_235 : decode b_Mo_statusLine 235 = .ok (.goto 4, 3) := by decide +kernel
theorem d_Mo_statusLine_238 : decode b_Mo_statusLine 238 = .ok (.iconst (-1), 1) := by decide +kernel
theorem d_Mo_statusLine_239 : decode b_Mo_statusLine 239 = .ok (.ireturn, 1) := by decide +kernel
def f_Mo_statusLine_238 (S : zSt) : Option Int32 := (some (-1))
def f_Mo_statusLine_81 (t0 : Int32) (S : zSt) : Option Int32 := (if t0 = 0 then (some (-1)) else ((f_Mo_spelt ((S 66 21) + 4) ((S 66 21) + 8) (825110831 : Int64) 0 0 S).bind fun u1 => (if u1 = 0 then (some (-1)) else gdi ((S 66 21) + 8) 520 ((if (S 76 ((S 66 21) + 8).toNatClampNeg) = 32 then gdi ((S 66 21) + 12) 520 ((if (S 76 ((S 66 21) + 12).toNatClampNeg) = 32 then gdi ((S 66 21) + 9) 520 (gdi ((S 66 21) + 10) 520 (gdi ((S 66 21) + 11) 520 ((if (S 76 ((S 66 21) + 9).toNatClampNeg) < 49 then (f_Mo_statusLine_238 S) else (if 53 < (S 76 ((S 66 21) + 9).toNatClampNeg) then (f_Mo_statusLine_238 S) else ((f_Mo_digit (S 76 ((S 66 21) + 10).toNatClampNeg) S).bind fun u2 => (if u2 = 0 then (f_Mo_statusLine_238 S) else ((f_Mo_digit (S 76 ((S 66 21) + 11).toNatClampNeg) S).bind fun u3 => (if u3 = 0 then (f_Mo_statusLine_238 S) else (some ((((100 * ((S 76 ((S 66 21) + 9).toNatClampNeg) - 48)) + (10 * ((S 76 ((S 66 21) + 10).toNatClampNeg) - 48))) + (S 76 ((S 66 21) + 11).toNatClampNeg)) - 48))))))))))) else (some (-1)))) else (some (-1)))))))
def f_Mo_statusLine_80 (S : zSt) : Option Int32 := (f_Mo_statusLine_81 0 S)
def f_Mo_statusLine (S : zSt) : Option Int32 := (if ((S 66 22) - (S 66 21)) < 13 then (f_Mo_statusLine_80 S) else gdi (S 66 21) 520 ((if (S 76 (S 66 21).toNatClampNeg) = 72 then gdi ((S 66 21) + 1) 520 ((if (S 76 ((S 66 21) + 1).toNatClampNeg) = 84 then gdi ((S 66 21) + 2) 520 ((if (S 76 ((S 66 21) + 2).toNatClampNeg) = 84 then gdi ((S 66 21) + 3) 520 ((if (S 76 ((S 66 21) + 3).toNatClampNeg) = 80 then (f_Mo_statusLine_81 1 S) else (f_Mo_statusLine_80 S))) else (f_Mo_statusLine_80 S))) else (f_Mo_statusLine_80 S))) else (f_Mo_statusLine_80 S))))
set_option maxHeartbeats 4000000 in
set_option maxRecDepth 100000 in
theorem c_Mo_statusLine (l : Launch) (g : zG) (hD : GD g) (S : zSt) (u : Int32) (h : f_Mo_statusLine S = some u) : Met l y_Mo_statusLine (mw y_Mo_statusLine b_Mo_statusLine 5 (some .int)) (rmD 2) (Pw g [.ref (ga g 66)] S) (Qip g S u) 0 0 (gA g) := by
  refine z_go (own := R_Mo) (lv0 := [(0, .ref (ga g 66))]) hD (by decide) rfl (Nat.le_of_ble_eq_true rfl) rfl ?_
  intro p e s m args below meth c C D ls hl
  have hx := C.1
  have hb := C.2.1
  have hown := C.2.2.2.1
  have hts := C.2.2.2.2.1
  have B238 : ∀ (H : Heap) (locs : List Loc) (ls : Array Slot), f_Mo_statusLine_238 S = some u → Dy g s S H locs → lv_has ls 5 [] → W p l e (rmD 2) s m args below meth c H locs 0 0 (MQ below (Qip g S u) args s 0 0 (gA g)) (F0 m 238 ls []) := by
    intro H locs ls h D hl
    unfold f_Mo_statusLine_238 at h
    refine lv_iconst (v := (-1)) hx hb d_Mo_statusLine_238 (by decide) ?_
    exact x_irp C D h d_Mo_statusLine_239
  have B81 : ∀ (H : Heap) (locs : List Loc) (ls : Array Slot) (t0 : Int32), f_Mo_statusLine_81 t0 S = some u → Dy g s S H locs → lv_has ls 5 [(0, .ref (ga g 66))] → W p l e (rmD 2) s m args below meth c H locs 0 0 (MQ below (Qip g S u) args s 0 0 (gA g)) (F0 m 81 ls [.int t0]) := by
    intro H locs ls t0 h D hl
    unfold f_Mo_statusLine_81 at h
    refine lv_istore_n (lv' := [(1, .int t0), (0, .ref (ga g 66))]) hx hb d_Mo_statusLine_81 rfl hl (by decide) rfl (fun ls hl => ?_)
    refine lv_iload_n hx hb d_Mo_statusLine_82 rfl (lv_at hl 0 rfl) ?_
    refine lv_if_eq hx hb d_Mo_statusLine_83 rfl (fun z => ?_) (fun z => ?_)
    · replace h := if_t z h
      refine lv_iconst (v := (-1)) hx hb d_Mo_statusLine_145 (by decide) ?_
      exact x_irp C D h d_Mo_statusLine_146
    · replace h := if_f z h
      refine lv_aload_n hx hb d_Mo_statusLine_86 rfl (lv_at hl 1 rfl) ?_
      refine lv_aload_n hx hb d_Mo_statusLine_87 rfl (lv_at hl 1 rfl) ?_
      refine x_get (v := .int (S 66 21)) C D kc_Mo (by decide) sh_66 21 rfl (by decide) wf_Mo_231 rfl rfl d_Mo_statusLine_88 ?_
      refine lv_iconst (v := 4) hx hb d_Mo_statusLine_91 (by decide) ?_
      refine lv_iadd hx hb d_Mo_statusLine_92 ?_
      refine lv_aload_n hx hb d_Mo_statusLine_93 rfl (lv_at hl 1 rfl) ?_
      refine x_get (v := .int (S 66 21)) C D kc_Mo (by decide) sh_66 21 rfl (by decide) wf_Mo_231 rfl rfl d_Mo_statusLine_94 ?_
      refine lv_bipush (v := 8) hx hb d_Mo_statusLine_97 (by decide) ?_
      refine lv_iadd hx hb d_Mo_statusLine_99 ?_
      refine lv_ldc2 (v := 825110831) hx hb hown (hts _ wk_Mo_243) d_Mo_statusLine_100 ?_
      refine lv_lconst (v := 0) hx hb d_Mo_statusLine_103 (by decide) ?_
      refine lv_lconst (v := 0) hx hb d_Mo_statusLine_104 (by decide) ?_
      obtain ⟨u1, hu1, h⟩ := bd_some h
      refine x_cip (rest := []) (r_V C D (c_Mo_spelt l g hD ((S 66 21) + 4) ((S 66 21) + 8) (825110831 : Int64) 0 0 S u1 hu1) wc_Mo_spelt wm_Mo_245 wi_Mo_spelt wd_Mo_spelt (by decide) sh_66 kc_Mo.1 rfl rfl hl (Nat.le_of_ble_eq_true rfl) (by decide) d_Mo_statusLine_105) D (fun H locs D => ?_)
      refine lv_if_eq hx hb d_Mo_statusLine_108 rfl (fun z => ?_) (fun z => ?_)
      · replace h := if_t z h
        refine lv_iconst (v := (-1)) hx hb d_Mo_statusLine_145 (by decide) ?_
        exact x_irp C D h d_Mo_statusLine_146
      · replace h := if_f z h
        refine lv_aload_n hx hb d_Mo_statusLine_111 rfl (lv_at hl 1 rfl) ?_
        refine x_get (v := .ref (ga g 76)) C D kc_Mo (by decide) sh_66 18 rfl (by decide) wf_Mo_37 rfl rfl d_Mo_statusLine_112 ?_
        refine lv_aload_n hx hb d_Mo_statusLine_115 rfl (lv_at hl 1 rfl) ?_
        refine x_get (v := .int (S 66 21)) C D kc_Mo (by decide) sh_66 21 rfl (by decide) wf_Mo_231 rfl rfl d_Mo_statusLine_116 ?_
        refine lv_bipush (v := 8) hx hb d_Mo_statusLine_119 (by decide) ?_
        refine lv_iadd hx hb d_Mo_statusLine_121 ?_
        refine x_iald C D (by decide) sh_76 d_Mo_statusLine_122 h (fun _ h => ?_)
        refine lv_bipush (v := 32) hx hb d_Mo_statusLine_123 (by decide) ?_
        refine lv_icmp_ne hx hb d_Mo_statusLine_125 rfl (fun z => ?_) (fun z => ?_)
        · replace h := if_f z h
          refine lv_iconst (v := (-1)) hx hb d_Mo_statusLine_145 (by decide) ?_
          exact x_irp C D h d_Mo_statusLine_146
        · replace h := if_t z h
          refine lv_aload_n hx hb d_Mo_statusLine_128 rfl (lv_at hl 1 rfl) ?_
          refine x_get (v := .ref (ga g 76)) C D kc_Mo (by decide) sh_66 18 rfl (by decide) wf_Mo_37 rfl rfl d_Mo_statusLine_129 ?_
          refine lv_aload_n hx hb d_Mo_statusLine_132 rfl (lv_at hl 1 rfl) ?_
          refine x_get (v := .int (S 66 21)) C D kc_Mo (by decide) sh_66 21 rfl (by decide) wf_Mo_231 rfl rfl d_Mo_statusLine_133 ?_
          refine lv_bipush (v := 12) hx hb d_Mo_statusLine_136 (by decide) ?_
          refine lv_iadd hx hb d_Mo_statusLine_138 ?_
          refine x_iald C D (by decide) sh_76 d_Mo_statusLine_139 h (fun _ h => ?_)
          refine lv_bipush (v := 32) hx hb d_Mo_statusLine_140 (by decide) ?_
          refine lv_icmp_eq hx hb d_Mo_statusLine_142 rfl (fun z => ?_) (fun z => ?_)
          · replace h := if_t z h
            refine lv_aload_n hx hb d_Mo_statusLine_147 rfl (lv_at hl 1 rfl) ?_
            refine x_get (v := .ref (ga g 76)) C D kc_Mo (by decide) sh_66 18 rfl (by decide) wf_Mo_37 rfl rfl d_Mo_statusLine_148 ?_
            refine lv_aload_n hx hb d_Mo_statusLine_151 rfl (lv_at hl 1 rfl) ?_
            refine x_get (v := .int (S 66 21)) C D kc_Mo (by decide) sh_66 21 rfl (by decide) wf_Mo_231 rfl rfl d_Mo_statusLine_152 ?_
            refine lv_bipush (v := 9) hx hb d_Mo_statusLine_155 (by decide) ?_
            refine lv_iadd hx hb d_Mo_statusLine_157 ?_
            refine x_iald C D (by decide) sh_76 d_Mo_statusLine_158 h (fun _ h => ?_)
            refine lv_istore_n (lv' := [(2, .int (S 76 ((S 66 21) + 9).toNatClampNeg)), (1, .int t0), (0, .ref (ga g 66))]) hx hb d_Mo_statusLine_159 rfl hl (by decide) rfl (fun ls hl => ?_)
            refine lv_aload_n hx hb d_Mo_statusLine_160 rfl (lv_at hl 2 rfl) ?_
            refine x_get (v := .ref (ga g 76)) C D kc_Mo (by decide) sh_66 18 rfl (by decide) wf_Mo_37 rfl rfl d_Mo_statusLine_161 ?_
            refine lv_aload_n hx hb d_Mo_statusLine_164 rfl (lv_at hl 2 rfl) ?_
            refine x_get (v := .int (S 66 21)) C D kc_Mo (by decide) sh_66 21 rfl (by decide) wf_Mo_231 rfl rfl d_Mo_statusLine_165 ?_
            refine lv_bipush (v := 10) hx hb d_Mo_statusLine_168 (by decide) ?_
            refine lv_iadd hx hb d_Mo_statusLine_170 ?_
            refine x_iald C D (by decide) sh_76 d_Mo_statusLine_171 h (fun _ h => ?_)
            refine lv_istore_n (lv' := [(3, .int (S 76 ((S 66 21) + 10).toNatClampNeg)), (2, .int (S 76 ((S 66 21) + 9).toNatClampNeg)), (1, .int t0), (0, .ref (ga g 66))]) hx hb d_Mo_statusLine_172 rfl hl (by decide) rfl (fun ls hl => ?_)
            refine lv_aload_n hx hb d_Mo_statusLine_173 rfl (lv_at hl 3 rfl) ?_
            refine x_get (v := .ref (ga g 76)) C D kc_Mo (by decide) sh_66 18 rfl (by decide) wf_Mo_37 rfl rfl d_Mo_statusLine_174 ?_
            refine lv_aload_n hx hb d_Mo_statusLine_177 rfl (lv_at hl 3 rfl) ?_
            refine x_get (v := .int (S 66 21)) C D kc_Mo (by decide) sh_66 21 rfl (by decide) wf_Mo_231 rfl rfl d_Mo_statusLine_178 ?_
            refine lv_bipush (v := 11) hx hb d_Mo_statusLine_181 (by decide) ?_
            refine lv_iadd hx hb d_Mo_statusLine_183 ?_
            refine x_iald C D (by decide) sh_76 d_Mo_statusLine_184 h (fun _ h => ?_)
            refine lv_istore (lv' := [(4, .int (S 76 ((S 66 21) + 11).toNatClampNeg)), (3, .int (S 76 ((S 66 21) + 10).toNatClampNeg)), (2, .int (S 76 ((S 66 21) + 9).toNatClampNeg)), (1, .int t0), (0, .ref (ga g 66))]) hx hb d_Mo_statusLine_185 hl (by decide) rfl (fun ls hl => ?_)
            refine lv_iload_n hx hb d_Mo_statusLine_187 rfl (lv_at hl 2 rfl) ?_
            refine lv_bipush (v := 49) hx hb d_Mo_statusLine_188 (by decide) ?_
            refine lv_icmp_lt hx hb d_Mo_statusLine_190 rfl (fun z => ?_) (fun z => ?_)
            · replace h := if_t z h
              exact B238 _ _ _ h D (lv_sub hl [] rfl)
            · replace h := if_f z h
              refine lv_iload_n hx hb d_Mo_statusLine_193 rfl (lv_at hl 2 rfl) ?_
              refine lv_bipush (v := 53) hx hb d_Mo_statusLine_194 (by decide) ?_
              refine lv_icmp_gt hx hb d_Mo_statusLine_196 rfl (fun z => ?_) (fun z => ?_)
              · replace h := if_t z h
                exact B238 _ _ _ h D (lv_sub hl [] rfl)
              · replace h := if_f z h
                refine lv_iload_n hx hb d_Mo_statusLine_199 rfl (lv_at hl 1 rfl) ?_
                obtain ⟨u2, hu2, h⟩ := bd_some h
                refine x_cip (rest := []) (r_S C D (c_Mo_digit l g hD (S 76 ((S 66 21) + 10).toNatClampNeg) S u2 hu2) wc_Mo_digit wm_Mo_63 wt_Mo_digit wd_Mo_digit rfl rfl hl (Nat.le_of_ble_eq_true rfl) (by decide) d_Mo_statusLine_200) D (fun H locs D => ?_)
                refine lv_if_eq hx hb d_Mo_statusLine_203 rfl (fun z => ?_) (fun z => ?_)
                · replace h := if_t z h
                  exact B238 _ _ _ h D (lv_sub hl [] rfl)
                · replace h := if_f z h
                  refine lv_iload hx hb d_Mo_statusLine_206 (lv_at hl 0 rfl) ?_
                  obtain ⟨u3, hu3, h⟩ := bd_some h
                  refine x_cip (rest := []) (r_S C D (c_Mo_digit l g hD (S 76 ((S 66 21) + 11).toNatClampNeg) S u3 hu3) wc_Mo_digit wm_Mo_63 wt_Mo_digit wd_Mo_digit rfl rfl hl (Nat.le_of_ble_eq_true rfl) (by decide) d_Mo_statusLine_208) D (fun H locs D => ?_)
                  refine lv_if_eq hx hb d_Mo_statusLine_211 rfl (fun z => ?_) (fun z => ?_)
                  · replace h := if_t z h
                    exact B238 _ _ _ h D (lv_sub hl [] rfl)
                  · replace h := if_f z h
                    refine lv_bipush (v := 100) hx hb d_Mo_statusLine_214 (by decide) ?_
                    refine lv_iload_n hx hb d_Mo_statusLine_216 rfl (lv_at hl 2 rfl) ?_
                    refine lv_bipush (v := 48) hx hb d_Mo_statusLine_217 (by decide) ?_
                    refine lv_isub hx hb d_Mo_statusLine_219 ?_
                    refine lv_imul hx hb d_Mo_statusLine_220 ?_
                    refine lv_bipush (v := 10) hx hb d_Mo_statusLine_221 (by decide) ?_
                    refine lv_iload_n hx hb d_Mo_statusLine_223 rfl (lv_at hl 1 rfl) ?_
                    refine lv_bipush (v := 48) hx hb d_Mo_statusLine_224 (by decide) ?_
                    refine lv_isub hx hb d_Mo_statusLine_226 ?_
                    refine lv_imul hx hb d_Mo_statusLine_227 ?_
                    refine lv_iadd hx hb d_Mo_statusLine_228 ?_
                    refine lv_iload hx hb d_Mo_statusLine_229 (lv_at hl 0 rfl) ?_
                    refine lv_iadd hx hb d_Mo_statusLine_231 ?_
                    refine lv_bipush (v := 48) hx hb d_Mo_statusLine_232 (by decide) ?_
                    refine lv_isub hx hb d_Mo_statusLine_234 ?_
                    refine lv_goto hx hb d_Mo_statusLine_235 rfl ?_
                    exact x_irp C D h d_Mo_statusLine_239
          · replace h := if_f z h
            refine lv_iconst (v := (-1)) hx hb d_Mo_statusLine_145 (by decide) ?_
            exact x_irp C D h d_Mo_statusLine_146
  have B80 : ∀ (H : Heap) (locs : List Loc) (ls : Array Slot), f_Mo_statusLine_80 S = some u → Dy g s S H locs → lv_has ls 5 [(0, .ref (ga g 66))] → W p l e (rmD 2) s m args below meth c H locs 0 0 (MQ below (Qip g S u) args s 0 0 (gA g)) (F0 m 80 ls []) := by
    intro H locs ls h D hl
    unfold f_Mo_statusLine_80 at h
    refine lv_iconst (v := 0) hx hb d_Mo_statusLine_80 (by decide) ?_
    exact B81 _ _ _ _ h D (lv_sub hl [0] rfl)
  unfold f_Mo_statusLine at h
  refine lv_aload_n hx hb d_Mo_statusLine_0 rfl (lv_at hl 0 rfl) ?_
  refine x_get (v := .int (S 66 22)) C D kc_Mo (by decide) sh_66 22 rfl (by decide) wf_Mo_237 rfl rfl d_Mo_statusLine_1 ?_
  refine lv_aload_n hx hb d_Mo_statusLine_4 rfl (lv_at hl 0 rfl) ?_
  refine x_get (v := .int (S 66 21)) C D kc_Mo (by decide) sh_66 21 rfl (by decide) wf_Mo_231 rfl rfl d_Mo_statusLine_5 ?_
  refine lv_isub hx hb d_Mo_statusLine_8 ?_
  refine lv_bipush (v := 13) hx hb d_Mo_statusLine_9 (by decide) ?_
  refine lv_icmp_lt hx hb d_Mo_statusLine_11 rfl (fun z => ?_) (fun z => ?_)
  · replace h := if_t z h
    exact B80 _ _ _ h D (lv_sub hl [0] rfl)
  · replace h := if_f z h
    refine lv_aload_n hx hb d_Mo_statusLine_14 rfl (lv_at hl 0 rfl) ?_
    refine x_get (v := .ref (ga g 76)) C D kc_Mo (by decide) sh_66 18 rfl (by decide) wf_Mo_37 rfl rfl d_Mo_statusLine_15 ?_
    refine lv_aload_n hx hb d_Mo_statusLine_18 rfl (lv_at hl 0 rfl) ?_
    refine x_get (v := .int (S 66 21)) C D kc_Mo (by decide) sh_66 21 rfl (by decide) wf_Mo_231 rfl rfl d_Mo_statusLine_19 ?_
    refine x_iald C D (by decide) sh_76 d_Mo_statusLine_22 h (fun _ h => ?_)
    refine lv_bipush (v := 72) hx hb d_Mo_statusLine_23 (by decide) ?_
    refine lv_icmp_ne hx hb d_Mo_statusLine_25 rfl (fun z => ?_) (fun z => ?_)
    · replace h := if_f z h
      exact B80 _ _ _ h D (lv_sub hl [0] rfl)
    · replace h := if_t z h
      refine lv_aload_n hx hb d_Mo_statusLine_28 rfl (lv_at hl 0 rfl) ?_
      refine x_get (v := .ref (ga g 76)) C D kc_Mo (by decide) sh_66 18 rfl (by decide) wf_Mo_37 rfl rfl d_Mo_statusLine_29 ?_
      refine lv_aload_n hx hb d_Mo_statusLine_32 rfl (lv_at hl 0 rfl) ?_
      refine x_get (v := .int (S 66 21)) C D kc_Mo (by decide) sh_66 21 rfl (by decide) wf_Mo_231 rfl rfl d_Mo_statusLine_33 ?_
      refine lv_iconst (v := 1) hx hb d_Mo_statusLine_36 (by decide) ?_
      refine lv_iadd hx hb d_Mo_statusLine_37 ?_
      refine x_iald C D (by decide) sh_76 d_Mo_statusLine_38 h (fun _ h => ?_)
      refine lv_bipush (v := 84) hx hb d_Mo_statusLine_39 (by decide) ?_
      refine lv_icmp_ne hx hb d_Mo_statusLine_41 rfl (fun z => ?_) (fun z => ?_)
      · replace h := if_f z h
        exact B80 _ _ _ h D (lv_sub hl [0] rfl)
      · replace h := if_t z h
        refine lv_aload_n hx hb d_Mo_statusLine_44 rfl (lv_at hl 0 rfl) ?_
        refine x_get (v := .ref (ga g 76)) C D kc_Mo (by decide) sh_66 18 rfl (by decide) wf_Mo_37 rfl rfl d_Mo_statusLine_45 ?_
        refine lv_aload_n hx hb d_Mo_statusLine_48 rfl (lv_at hl 0 rfl) ?_
        refine x_get (v := .int (S 66 21)) C D kc_Mo (by decide) sh_66 21 rfl (by decide) wf_Mo_231 rfl rfl d_Mo_statusLine_49 ?_
        refine lv_iconst (v := 2) hx hb d_Mo_statusLine_52 (by decide) ?_
        refine lv_iadd hx hb d_Mo_statusLine_53 ?_
        refine x_iald C D (by decide) sh_76 d_Mo_statusLine_54 h (fun _ h => ?_)
        refine lv_bipush (v := 84) hx hb d_Mo_statusLine_55 (by decide) ?_
        refine lv_icmp_ne hx hb d_Mo_statusLine_57 rfl (fun z => ?_) (fun z => ?_)
        · replace h := if_f z h
          exact B80 _ _ _ h D (lv_sub hl [0] rfl)
        · replace h := if_t z h
          refine lv_aload_n hx hb d_Mo_statusLine_60 rfl (lv_at hl 0 rfl) ?_
          refine x_get (v := .ref (ga g 76)) C D kc_Mo (by decide) sh_66 18 rfl (by decide) wf_Mo_37 rfl rfl d_Mo_statusLine_61 ?_
          refine lv_aload_n hx hb d_Mo_statusLine_64 rfl (lv_at hl 0 rfl) ?_
          refine x_get (v := .int (S 66 21)) C D kc_Mo (by decide) sh_66 21 rfl (by decide) wf_Mo_231 rfl rfl d_Mo_statusLine_65 ?_
          refine lv_iconst (v := 3) hx hb d_Mo_statusLine_68 (by decide) ?_
          refine lv_iadd hx hb d_Mo_statusLine_69 ?_
          refine x_iald C D (by decide) sh_76 d_Mo_statusLine_70 h (fun _ h => ?_)
          refine lv_bipush (v := 80) hx hb d_Mo_statusLine_71 (by decide) ?_
          refine lv_icmp_ne hx hb d_Mo_statusLine_73 rfl (fun z => ?_) (fun z => ?_)
          · replace h := if_f z h
            exact B80 _ _ _ h D (lv_sub hl [0] rfl)
          · replace h := if_t z h
            refine lv_iconst (v := 1) hx hb d_Mo_statusLine_76 (by decide) ?_
            refine lv_goto hx hb d_Mo_statusLine_77 rfl ?_
            exact B81 _ _ _ _ h D (lv_sub hl [0] rfl)
theorem d_Mo_fieldLine_0 : decode b_Mo_fieldLine 0 = .ok (.aload_n 0, 1) := by decide +kernel
theorem d_Mo_fieldLine_1 : decode b_Mo_fieldLine 1 = .ok (.getfield 231, 3) := by decide +kernel
theorem d_Mo_fieldLine_4 : decode b_Mo_fieldLine 4 = .ok (.istore_n 2, 1) := by decide +kernel
theorem d_Mo_fieldLine_5 : decode b_Mo_fieldLine 5 = .ok (.iload_n 2, 1) := by decide +kernel
theorem d_Mo_fieldLine_6 : decode b_Mo_fieldLine 6 = .ok (.aload_n 0, 1) := by decide +kernel
theorem d_Mo_fieldLine_7 : decode b_Mo_fieldLine 7 = .ok (.getfield 237, 3) := by decide +kernel
theorem d_Mo_fieldLine_10 : decode b_Mo_fieldLine 10 = .ok (.if_icmp .ge 32, 3) := by decide +kernel
theorem d_Mo_fieldLine_13 : decode b_Mo_fieldLine 13 = .ok (.aload_n 0, 1) := by decide +kernel
theorem d_Mo_fieldLine_14 : decode b_Mo_fieldLine 14 = .ok (.getfield 37, 3) := by decide +kernel
theorem d_Mo_fieldLine_17 : decode b_Mo_fieldLine 17 = .ok (.iload_n 2, 1) := by decide +kernel
theorem d_Mo_fieldLine_18 : decode b_Mo_fieldLine 18 = .ok (.iaload, 1) := by decide +kernel
theorem d_Mo_fieldLine_19 : decode b_Mo_fieldLine 19 = .ok (.invokestatic 66, 3) := by decide +kernel
theorem d_Mo_fieldLine_22 : decode b_Mo_fieldLine 22 = .ok (.ifCond .ne 14, 3) := by decide +kernel
theorem d_Mo_fieldLine_25 : decode b_Mo_fieldLine 25 = .ok (.aload_n 0, 1) := by decide +kernel
theorem d_Mo_fieldLine_26 : decode b_Mo_fieldLine 26 = .ok (.getfield 37, 3) := by decide +kernel
theorem d_Mo_fieldLine_29 : decode b_Mo_fieldLine 29 = .ok (.iload_n 2, 1) := by decide +kernel
theorem d_Mo_fieldLine_30 : decode b_Mo_fieldLine 30 = .ok (.iaload, 1) := by decide +kernel
theorem d_Mo_fieldLine_31 : decode b_Mo_fieldLine 31 = .ok (.bipush 45, 2) := by decide +kernel
theorem d_Mo_fieldLine_33 : decode b_Mo_fieldLine 33 = .ok (.if_icmp .ne 9, 3) := by decide +kernel
theorem d_Mo_fieldLine_36 : decode b_Mo_fieldLine 36 = .ok (.iinc 2 1, 3) := by decide +kernel
theorem d_Mo_fieldLine_39 : decode b_Mo_fieldLine 39 = .ok (.goto (-34), 3) := by decide +kernel
theorem d_Mo_fieldLine_42 : decode b_Mo_fieldLine 42 = .ok (.iload_n 2, 1) := by decide +kernel
theorem d_Mo_fieldLine_43 : decode b_Mo_fieldLine 43 = .ok (.aload_n 0, 1) := by decide +kernel
theorem d_Mo_fieldLine_44 : decode b_Mo_fieldLine 44 = .ok (.getfield 231, 3) := by decide +kernel
theorem d_Mo_fieldLine_47 : decode b_Mo_fieldLine 47 = .ok (.if_icmp .eq 22, 3) := by decide +kernel
theorem d_Mo_fieldLine_50 : decode b_Mo_fieldLine 50 = .ok (.iload_n 2, 1) := by decide +kernel
theorem d_Mo_fieldLine_51 : decode b_Mo_fieldLine 51 = .ok (.aload_n 0, 1) := by decide +kernel
theorem d_Mo_fieldLine_52 : decode b_Mo_fieldLine 52 = .ok (.getfield 237, 3) := by decide +kernel
theorem d_Mo_fieldLine_55 : decode b_Mo_fieldLine 55 = .ok (.if_icmp .eq 14, 3) := by decide +kernel
theorem d_Mo_fieldLine_58 : decode b_Mo_fieldLine 58 = .ok (.aload_n 0, 1) := by decide +kernel
theorem d_Mo_fieldLine_59 : decode b_Mo_fieldLine 59 = .ok (.getfield 37, 3) := by decide +kernel
theorem d_Mo_fieldLine_62 : decode b_Mo_fieldLine 62 = .ok (.iload_n 2, 1) := by decide +kernel
theorem d_Mo_fieldLine_63 : decode b_Mo_fieldLine 63 = .ok (.iaload, 1) := by decide +kernel
theorem d_Mo_fieldLine_64 : decode b_Mo_fieldLine 64 = .ok (.bipush 58, 2) := by decide +kernel
theorem d_Mo_fieldLine_66 : decode b_Mo_fieldLine 66 = .ok (.if_icmp .eq 5, 3) := by decide +kernel
theorem d_Mo_fieldLine_69 : decode b_Mo_fieldLine 69 = .ok (.iconst 0, 1) := by decide +kernel
theorem d_Mo_fieldLine_70 : decode b_Mo_fieldLine 70 = .ok (.ireturn, 1) := by decide +kernel
theorem d_Mo_fieldLine_71 : decode b_Mo_fieldLine 71 = .ok (.iload_n 2, 1) := by decide +kernel
theorem d_Mo_fieldLine_72 : decode b_Mo_fieldLine 72 = .ok (.iconst 1, 1) := by decide +kernel
theorem d_Mo_fieldLine_73 : decode b_Mo_fieldLine 73 = .ok (.iadd, 1) := by decide +kernel
theorem d_Mo_fieldLine_74 : decode b_Mo_fieldLine 74 = .ok (.istore_n 3, 1) := by decide +kernel
theorem d_Mo_fieldLine_75 : decode b_Mo_fieldLine 75 = .ok (.aload_n 0, 1) := by decide +kernel
theorem d_Mo_fieldLine_76 : decode b_Mo_fieldLine 76 = .ok (.getfield 237, 3) := by decide +kernel
theorem d_Mo_fieldLine_79 : decode b_Mo_fieldLine 79 = .ok (.istore 4, 2) := by decide +kernel
theorem d_Mo_fieldLine_81 : decode b_Mo_fieldLine 81 = .ok (.iload_n 3, 1) := by decide +kernel
theorem d_Mo_fieldLine_82 : decode b_Mo_fieldLine 82 = .ok (.iload 4, 2) := by decide +kernel
theorem d_Mo_fieldLine_84 : decode b_Mo_fieldLine 84 = .ok (.if_icmp .ge 31, 3) := by decide +kernel
theorem d_Mo_fieldLine_87 : decode b_Mo_fieldLine 87 = .ok (.aload_n 0, 1) := by decide +kernel
theorem d_Mo_fieldLine_88 : decode b_Mo_fieldLine 88 = .ok (.getfield 37, 3) := by decide +kernel
theorem d_Mo_fieldLine_91 : decode b_Mo_fieldLine 91 = .ok (.iload_n 3, 1) := by decide +kernel
theorem d_Mo_fieldLine_92 : decode b_Mo_fieldLine 92 = .ok (.iaload, 1) := by decide +kernel
theorem d_Mo_fieldLine_93 : decode b_Mo_fieldLine 93 = .ok (.bipush 32, 2) := by decide +kernel
theorem d_Mo_fieldLine_95 : decode b_Mo_fieldLine 95 = .ok (.if_icmp .eq 14, 3) := by decide +kernel
theorem d_Mo_fieldLine_98 : decode b_Mo_fieldLine 98 = .ok (.aload_n 0, 1) := by decide +kernel
theorem d_Mo_fieldLine_99 : decode b_Mo_fieldLine 99 = .ok (.getfield 37, 3) := by decide +kernel
theorem d_Mo_fieldLine_102 : decode b_Mo_fieldLine 102 = .ok (.iload_n 3, 1) := by decide +kernel
theorem d_Mo_fieldLine_103 : decode b_Mo_fieldLine 103 = .ok (.iaload, 1) := by decide +kernel
theorem d_Mo_fieldLine_104 : decode b_Mo_fieldLine 104 = .ok (.bipush 9, 2) := by decide +kernel
theorem d_Mo_fieldLine_106 : decode b_Mo_fieldLine 106 = .ok (.if_icmp .ne 9, 3) := by decide +kernel
theorem d_Mo_fieldLine_109 : decode b_Mo_fieldLine 109 = .ok (.iinc 3 1, 3) := by decide +kernel
theorem d_Mo_fieldLine_112 : decode b_Mo_fieldLine 112 = .ok (.goto (-31), 3) := by decide +kernel
theorem d_Mo_fieldLine_115 : decode b_Mo_fieldLine 115 = .ok (.iload_n 3, 1) := by decide +kernel
theorem d_Mo_fieldLine_116 : decode b_Mo_fieldLine 116 = .ok (.iload 4, 2) := by decide +kernel
theorem d_Mo_fieldLine_118 : decode b_Mo_fieldLine 118 = .ok (.if_icmp .ge 37, 3) := by decide +kernel
theorem d_Mo_fieldLine_121 : decode b_Mo_fieldLine 121 = .ok (.aload_n 0, 1) := by decide +kernel
theorem d_Mo_fieldLine_122 : decode b_Mo_fieldLine 122 = .ok (.getfield 37, 3) := by decide +kernel
theorem d_Mo_fieldLine_125 : decode b_Mo_fieldLine 125 = .ok (.iload 4, 2) := by decide +kernel
theorem d_Mo_fieldLine_127 : decode b_Mo_fieldLine 127 = .ok (.iconst 1, 1) := by decide +kernel
theorem d_Mo_fieldLine_128 : decode b_Mo_fieldLine 128 = .ok (.isub, 1) := by decide +kernel
theorem d_Mo_fieldLine_129 : decode b_Mo_fieldLine 129 = .ok (.iaload, 1) := by decide +kernel
theorem d_Mo_fieldLine_130 : decode b_Mo_fieldLine 130 = .ok (.bipush 32, 2) := by decide +kernel
theorem d_Mo_fieldLine_132 : decode b_Mo_fieldLine 132 = .ok (.if_icmp .eq 17, 3) := by decide +kernel
theorem d_Mo_fieldLine_135 : decode b_Mo_fieldLine 135 = .ok (.aload_n 0, 1) := by decide +kernel
theorem d_Mo_fieldLine_136 : decode b_Mo_fieldLine 136 = .ok (.getfield 37, 3) := by decide +kernel
theorem d_Mo_fieldLine_139 : decode b_Mo_fieldLine 139 = .ok (.iload 4, 2) := by decide +kernel
theorem d_Mo_fieldLine_141 : decode b_Mo_fieldLine 141 = .ok (.iconst 1, 1) := by decide +kernel
theorem d_Mo_fieldLine_142 : decode b_Mo_fieldLine 142 = .ok (.isub, 1) := by decide +kernel
theorem d_Mo_fieldLine_143 : decode b_Mo_fieldLine 143 = .ok (.iaload, 1) := by decide +kernel
theorem d_Mo_fieldLine_144 : decode b_Mo_fieldLine 144 = .ok (.bipush 9, 2) := by decide +kernel
theorem d_Mo_fieldLine_146 : decode b_Mo_fieldLine 146 = .ok (.if_icmp .ne 9, 3) := by decide +kernel
theorem d_Mo_fieldLine_149 : decode b_Mo_fieldLine 149 = .ok (.iinc 4 (-1), 3) := by decide +kernel
theorem d_Mo_fieldLine_152 : decode b_Mo_fieldLine 152 = .ok (.goto (-37), 3) := by decide +kernel
theorem d_Mo_fieldLine_155 : decode b_Mo_fieldLine 155 = .ok (.aload_n 0, 1) := by decide +kernel
theorem d_Mo_fieldLine_156 : decode b_Mo_fieldLine 156 = .ok (.aload_n 0, 1) := by decide +kernel
theorem d_Mo_fieldLine_157 : decode b_Mo_fieldLine 157 = .ok (.getfield 231, 3) := by decide +kernel
theorem d_Mo_fieldLine_160 : decode b_Mo_fieldLine 160 = .ok (.iload_n 2, 1) := by decide +kernel
theorem d_Mo_fieldLine_161 : decode b_Mo_fieldLine 161 = .ok (.ldc2_w 221, 3) := by decide +kernel
theorem d_Mo_fieldLine_164 : decode b_Mo_fieldLine 164 = .ok (.ldc2_w 249, 3) := by decide +kernel
theorem d_Mo_fieldLine_167 : decode b_Mo_fieldLine 167 = .ok (.lconst 0, 1) := by decide +kernel
theorem d_Mo_fieldLine_168 : decode b_Mo_fieldLine 168 = .ok (.invokevirtual 245, 3) := by decide +kernel
theorem d_Mo_fieldLine_171 : decode b_Mo_fieldLine 171 = .ok (.istore 5, 2) := by decide +kernel
theorem d_Mo_fieldLine_173 : decode b_Mo_fieldLine 173 = .ok (.aload_n 0, 1) := by decide +kernel
theorem d_Mo_fieldLine_174 : decode b_Mo_fieldLine 174 = .ok (.aload_n 0, 1) := by decide +kernel
theorem d_Mo_fieldLine_175 : decode b_Mo_fieldLine 175 = .ok (.getfield 231, 3) := by decide +kernel
theorem d_Mo_fieldLine_178 : decode b_Mo_fieldLine 178 = .ok (.iload_n 2, 1) := by decide +kernel
theorem d_Mo_fieldLine_179 : decode b_Mo_fieldLine 179 = .ok (.ldc2_w 251, 3) := by decide +kernel
theorem d_Mo_fieldLine_182 : decode b_Mo_fieldLine 182 = .ok (.ldc2_w 253, 3) := by decide +kernel
theorem d_Mo_fieldLine_185 : decode b_Mo_fieldLine 185 = .ok (.ldc2_w 255, 3) := by decide +kernel
theorem d_Mo_fieldLine_188 : decode b_Mo_fieldLine 188 = .ok (.invokevirtual 245, 3) := by decide +kernel
theorem d_Mo_fieldLine_191 : decode b_Mo_fieldLine 191 = .ok (.istore 6, 2) := by decide +kernel
theorem d_Mo_fieldLine_193 : decode b_Mo_fieldLine 193 = .ok (.iload_n 1, 1) := by decide +kernel
theorem d_Mo_fieldLine_194 : decode b_Mo_fieldLine 194 = .ok (.ifCond .eq 19, 3) := by decide +kernel
theorem d_Mo_fieldLine_197 : decode b_Mo_fieldLine 197 = .ok (.iload 5, 2) := by decide +kernel
theorem d_Mo_fieldLine_199 : decode b_Mo_fieldLine 199 = .ok (.ifCond .ne 12, 3) := by decide +kernel
theorem d_Mo_fieldLine_202 : decode b_Mo_fieldLine 202 = .ok (.iload 6, 2) := by decide +kernel
theorem d_Mo_fieldLine_204 : decode b_Mo_fieldLine 204 = .ok (.ifCond .ne 7, 3) := by decide +kernel
theorem d_Mo_fieldLine_207 : decode b_Mo_fieldLine 207 = .ok (.iconst 1, 1) := by decide +kernel
theorem d_Mo_fieldLine_208 : decode b_Mo_fieldLine 208 = .ok (.goto 4, 3) := by decide +kernel
theorem d_Mo_fieldLine_211 : decode b_Mo_fieldLine 211 = .ok (.iconst 0, 1) := by decide +kernel
theorem d_Mo_fieldLine_212 : decode b_Mo_fieldLine 212 = .ok (.ireturn, 1) := by decide +kernel
theorem d_Mo_fieldLine_213 : decode b_Mo_fieldLine 213 = .ok (.iload 5, 2) := by decide +kernel
theorem d_Mo_fieldLine_215 : decode b_Mo_fieldLine 215 = .ok (.ifCond .eq 48, 3) := by decide +kernel
theorem d_Mo_fieldLine_218 : decode b_Mo_fieldLine 218 = .ok (.aload_n 0, 1) := by decide +kernel
theorem d_Mo_fieldLine_219 : decode b_Mo_fieldLine 219 = .ok (.iload_n 3, 1) := by decide +kernel
theorem d_Mo_fieldLine_220 : decode b_Mo_fieldLine 220 = .ok (.iload 4, 2) := by decide +kernel
theorem d_Mo_fieldLine_222 : decode b_Mo_fieldLine 222 = .ok (.invokevirtual 257, 3) := by decide +kernel
theorem d_Mo_fieldLine_225 : decode b_Mo_fieldLine 225 = .ok (.istore 7, 2) := by decide +kernel
theorem d_Mo_fieldLine_227 : decode b_Mo_fieldLine 227 = .ok (.iload 7, 2) := by decide +kernel
theorem d_Mo_fieldLine_229 : decode b_Mo_fieldLine 229 = .ok (.ifCond .lt 26, 3) := by decide +kernel
theorem d_Mo_fieldLine_232 : decode b_Mo_fieldLine 232 = .ok (.aload_n 0, 1) := by decide +kernel
theorem d_Mo_fieldLine_233 : decode b_Mo_fieldLine 233 = .ok (.getfield 261, 3) := by decide +kernel
theorem d_Mo_fieldLine_236 : decode b_Mo_fieldLine 236 = .ok (.ifCond .ne 19, 3) := by decide +kernel
theorem d_Mo_fieldLine_239 : decode b_Mo_fieldLine 239 = .ok (.aload_n 0, 1) := by decide +kernel
theorem d_Mo_fieldLine_240 : decode b_Mo_fieldLine 240 = .ok (.getfield 264, 3) := by decide +kernel
theorem d_Mo_fieldLine_243 : decode b_Mo_fieldLine 243 = .ok (.ifCond .lt 14, 3) := by decide +kernel
theorem d_Mo_fieldLine_246 : decode b_Mo_fieldLine 246 = .ok (.aload_n 0, 1) := by decide +kernel
theorem d_Mo_fieldLine_247 : decode b_Mo_fieldLine 247 = .ok (.getfield 264, 3) := by decide +kernel
theorem d_Mo_fieldLine_250 : decode b_Mo_fieldLine 250 = .ok (.iload 7, 2) := by decide +kernel
theorem d_Mo_fieldLine_252 : decode b_Mo_fieldLine 252 = .ok (.if_icmp .eq 5, 3) := by decide +kernel
theorem d_Mo_fieldLine_255 : decode b_Mo_fieldLine 255 = .ok (.iconst 0, 1) := by decide +kernel
theorem d_Mo_fieldLine_256 : decode b_Mo_fieldLine 256 = .ok (.ireturn, 1) := by decide +kernel
theorem d_Mo_fieldLine_257 : decode b_Mo_fieldLine 257 = .ok (.aload_n 0, 1) := by decide +kernel
theorem d_Mo_fieldLine_258 : decode b_Mo_fieldLine 258 = .ok (.iload 7, 2) := by decide +kernel
theorem d_Mo_fieldLine_260 : decode b_Mo_fieldLine 260 = .ok (.putfield 264, 3) := by decide +kernel
theorem d_Mo_fieldLine_263 : decode b_Mo_fieldLine 263 = .ok (.iload 6, 2) := by decide +kernel
theorem d_Mo_fieldLine_265 : decode b_Mo_fieldLine 265 = .ok (.ifCond .eq 39, 3) := by decide +kernel
theorem d_Mo_fieldLine_268 : decode b_Mo_fieldLine 268 = .ok (.aload_n 0, 1) := by decide +kernel
theorem d_Mo_fieldLine_269 : decode b_Mo_fieldLine 269 = .ok (.getfield 261, 3) := by decide +kernel
theorem d_Mo_fieldLine_272 : decode b_Mo_fieldLine 272 = .ok (.ifCond .ne 25, 3) := by decide +kernel
theorem d_Mo_fieldLine_275 : decode b_Mo_fieldLine 275 = .ok (.aload_n 0, 1) := by decide +kernel
theorem d_Mo_fieldLine_276 : decode b_Mo_fieldLine 276 = .ok (.getfield 264, 3) := by decide +kernel
theorem d_Mo_fieldLine_279 : decode b_Mo_fieldLine 279 = .ok (.ifCond .ge 18, 3) := by decide +kernel
theorem d_Mo_fieldLine_282 : decode b_Mo_fieldLine 282 = .ok (.aload_n 0, 1) := by decide +kernel
theorem d_Mo_fieldLine_283 : decode b_Mo_fieldLine 283 = .ok (.iload_n 3, 1) := by decide +kernel
theorem d_Mo_fieldLine_284 : decode b_Mo_fieldLine 284 = .ok (.iload 4, 2) := by decide +kernel
theorem d_Mo_fieldLine_286 : decode b_Mo_fieldLine 286 = .ok (.ldc2_w 267, 3) := by decide +kernel
theorem d_Mo_fieldLine_289 : decode b_Mo_fieldLine 289 = .ok (.lconst 0, 1) := by decide +kernel
theorem d_Mo_fieldLine_290 : decode b_Mo_fieldLine 290 = .ok (.lconst 0, 1) := by decide +kernel
theorem d_Mo_fieldLine_291 : decode b_Mo_fieldLine 291 = .ok (.invokevirtual 245, 3) := by decide +kernel
theorem d_Mo_fieldLine_294 : decode b_Mo_fieldLine 294 = .ok (.ifCond .ne 5, 3) := by decide +kernel
theorem d_Mo_fieldLine_297 : decode b_Mo_fieldLine 297 = .ok (.iconst 0, 1) := by decide +kernel
theorem d_Mo_fieldLine_298 : decode b_Mo_fieldLine 298 = .ok (.ireturn, 1) := by decide +kernel
theorem d_Mo_fieldLine_299 : decode b_Mo_fieldLine 299 = .ok (.aload_n 0, 1) := by decide +kernel
theorem d_Mo_fieldLine_300 : decode b_Mo_fieldLine 300 = .ok (.iconst 1, 1) := by decide +kernel
theorem d_Mo_fieldLine_301 : decode b_Mo_fieldLine 301 = .ok (.putfield 261, 3) := by decide +kernel
theorem d_Mo_fieldLine_304 : decode b_Mo_fieldLine 304 = .ok (.iconst 1, 1) := by decide +kernel
theorem d_Mo_fieldLine_305 : decode b_Mo_fieldLine 305 = .ok (.ireturn, 1) := by decide +kernel
def f_Mo_fieldLine_263 (a3 : Int32) (a4 : Int32) (a6 : Int32) (S : zSt) : Option (Int32 × zSt) := (if a6 = 0 then (gdb 1 (some (1, S))) else (if (S 66 29) = 0 then (if 0 ≤ (S 66 28) then (gdb 0 (some (0, S))) else ((f_Mo_spelt a3 a4 (28259009760159843 : Int64) 0 0 S).bind fun u3 => (if u3 = 0 then (gdb 0 (some (0, S))) else gdb 1 (sq (su S 66 29 1) fun S4 => (gdb 1 (some (1, S4))))))) else (gdb 0 (some (0, S)))))
def f_Mo_fieldLine_257 (a3 : Int32) (a4 : Int32) (a6 : Int32) (a7 : Int32) (S : zSt) : Option (Int32 × zSt) := sq (su S 66 28 a7) fun S7 => (f_Mo_fieldLine_263 a3 a4 a6 S7)
def f_Mo_fieldLine_211 (S : zSt) : Option (Int32 × zSt) := (gdb 0 (some (0, S)))
def f_Mo_fieldLine_155 (a1 : Int32) (a2 : Int32) (a3 : Int32) (a4 : Int32) (S : zSt) : Option (Int32 × zSt) := ((f_Mo_spelt (S 66 21) a2 (3275364211029340003 : Int64) (114849160783212 : Int64) 0 S).bind fun u1 => ((f_Mo_spelt (S 66 21) a2 (8243107338930713204 : Int64) (7956000646299018541 : Int64) (103 : Int64) S).bind fun u2 => (if a1 = 0 then (if u1 = 0 then (f_Mo_fieldLine_263 a3 a4 u2 S) else ((f_Mo_counted a3 a4 S).bind fun u6 => (if u6 < 0 then (gdb 0 (some (0, S))) else (if (S 66 29) = 0 then (if (S 66 28) < 0 then (f_Mo_fieldLine_257 a3 a4 u2 u6 S) else (if (S 66 28) = u6 then (f_Mo_fieldLine_257 a3 a4 u2 u6 S) else (gdb 0 (some (0, S))))) else (gdb 0 (some (0, S))))))) else (if u1 = 0 then (if u2 = 0 then (gdb 1 (some (1, S))) else (f_Mo_fieldLine_211 S)) else (f_Mo_fieldLine_211 S)))))
def f_Mo_fieldLine_149 (K115 : Int32 → Int32 → Int32 → Int32 → zSt → Option (Int32 × zSt)) (a1 : Int32) (a2 : Int32) (a3 : Int32) (a4 : Int32) (S : zSt) : Option (Int32 × zSt) := (K115 a1 a2 a3 (a4 + (-1)) S)
def f_Mo_fieldLine_115 : Nat → Int32 → Int32 → Int32 → Int32 → zSt → Option (Int32 × zSt)
  | 0, _, _, _, _, _ => none
  | n + 1, a1, a2, a3, a4, S => (if a4 ≤ a3 then (f_Mo_fieldLine_155 a1 a2 a3 a4 S) else gdi (a4 - 1) 520 ((if (S 76 (a4 - 1).toNatClampNeg) = 32 then (f_Mo_fieldLine_149 (f_Mo_fieldLine_115 n) a1 a2 a3 a4 S) else gdi (a4 - 1) 520 ((if (S 76 (a4 - 1).toNatClampNeg) = 9 then (f_Mo_fieldLine_149 (f_Mo_fieldLine_115 n) a1 a2 a3 a4 S) else (f_Mo_fieldLine_155 a1 a2 a3 a4 S))))))
def f_Mo_fieldLine_109 (K81 : Int32 → Int32 → Int32 → Int32 → zSt → Option (Int32 × zSt)) (a1 : Int32) (a2 : Int32) (a3 : Int32) (a4 : Int32) (S : zSt) : Option (Int32 × zSt) := (K81 a1 a2 (a3 + 1) a4 S)
def f_Mo_fieldLine_81 : Nat → Int32 → Int32 → Int32 → Int32 → zSt → Option (Int32 × zSt)
  | 0, _, _, _, _, _ => none
  | n + 1, a1, a2, a3, a4, S => (if a4 ≤ a3 then (f_Mo_fieldLine_115 fu a1 a2 a3 a4 S) else gdi a3 520 ((if (S 76 a3.toNatClampNeg) = 32 then (f_Mo_fieldLine_109 (f_Mo_fieldLine_81 n) a1 a2 a3 a4 S) else gdi a3 520 ((if (S 76 a3.toNatClampNeg) = 9 then (f_Mo_fieldLine_109 (f_Mo_fieldLine_81 n) a1 a2 a3 a4 S) else (f_Mo_fieldLine_115 fu a1 a2 a3 a4 S))))))
def f_Mo_fieldLine_42 (a1 : Int32) (a2 : Int32) (S : zSt) : Option (Int32 × zSt) := (if a2 = (S 66 21) then (gdb 0 (some (0, S))) else (if a2 = (S 66 22) then (gdb 0 (some (0, S))) else gdi a2 520 ((if (S 76 a2.toNatClampNeg) = 58 then (f_Mo_fieldLine_81 fu a1 a2 (a2 + 1) (S 66 22) S) else (gdb 0 (some (0, S)))))))
def f_Mo_fieldLine_36 (K5 : Int32 → Int32 → zSt → Option (Int32 × zSt)) (a1 : Int32) (a2 : Int32) (S : zSt) : Option (Int32 × zSt) := (K5 a1 (a2 + 1) S)
def f_Mo_fieldLine_5 : Nat → Int32 → Int32 → zSt → Option (Int32 × zSt)
  | 0, _, _, _ => none
  | n + 1, a1, a2, S => (if (S 66 22) ≤ a2 then (f_Mo_fieldLine_42 a1 a2 S) else gdi a2 520 (((f_Mo_letterOrDigit (S 76 a2.toNatClampNeg) S).bind fun u8 => (if u8 = 0 then gdi a2 520 ((if (S 76 a2.toNatClampNeg) = 45 then (f_Mo_fieldLine_36 (f_Mo_fieldLine_5 n) a1 a2 S) else (f_Mo_fieldLine_42 a1 a2 S))) else (f_Mo_fieldLine_36 (f_Mo_fieldLine_5 n) a1 a2 S)))))
def f_Mo_fieldLine (a1 : Int32) (S : zSt) : Option (Int32 × zSt) := (f_Mo_fieldLine_5 fu a1 (S 66 21) S)
set_option maxHeartbeats 4000000 in
set_option maxRecDepth 100000 in
theorem c_Mo_fieldLine (l : Launch) (g : zG) (hD : GD g) (a1 : Int32) (S : zSt) (u : (Int32 × zSt)) (h : f_Mo_fieldLine a1 S = some u) : Met l y_Mo_fieldLine (mw y_Mo_fieldLine b_Mo_fieldLine 8 (some .boolean)) (rmD 2) (Pw g [.ref (ga g 66), .int a1] S) (Qis g u) 0 0 (gA g) := by
  refine z_go (own := R_Mo) (lv0 := [(0, .ref (ga g 66)), (1, .int a1)]) hD (by decide) rfl (Nat.le_of_ble_eq_true rfl) rfl ?_
  intro p e s m args below meth c C D ls hl
  have hx := C.1
  have hb := C.2.1
  have hown := C.2.2.2.1
  have hts := C.2.2.2.2.1
  have B263 : ∀ (H : Heap) (locs : List Loc) (S : zSt) (ls : Array Slot) (a3 : Int32) (a4 : Int32) (a6 : Int32), f_Mo_fieldLine_263 a3 a4 a6 S = some u → Dy g s S H locs → lv_has ls 8 [(0, .ref (ga g 66)), (3, .int a3), (4, .int a4), (6, .int a6)] → W p l e (rmD 2) s m args below meth c H locs 0 0 (MQ below (Qis g u) args s 0 0 (gA g)) (F0 m 263 ls []) := by
    intro H locs S ls a3 a4 a6 h D hl
    unfold f_Mo_fieldLine_263 at h
    refine lv_iload hx hb d_Mo_fieldLine_263 (lv_at hl 3 rfl) ?_
    refine lv_if_eq hx hb d_Mo_fieldLine_265 rfl (fun z => ?_) (fun z => ?_)
    · replace h := if_t z h
      refine lv_iconst (v := 1) hx hb d_Mo_fieldLine_304 (by decide) ?_
      exact x_zrs C D h d_Mo_fieldLine_305
    · replace h := if_f z h
      refine lv_aload_n hx hb d_Mo_fieldLine_268 rfl (lv_at hl 0 rfl) ?_
      refine x_get (v := .int (S 66 29)) C D kc_Mo (by decide) sh_66 29 rfl (by decide) wf_Mo_261 rfl rfl d_Mo_fieldLine_269 ?_
      refine lv_if_ne hx hb d_Mo_fieldLine_272 rfl (fun z => ?_) (fun z => ?_)
      · replace h := if_f z h
        refine lv_iconst (v := 0) hx hb d_Mo_fieldLine_297 (by decide) ?_
        exact x_zrs C D h d_Mo_fieldLine_298
      · replace h := if_t z h
        refine lv_aload_n hx hb d_Mo_fieldLine_275 rfl (lv_at hl 0 rfl) ?_
        refine x_get (v := .int (S 66 28)) C D kc_Mo (by decide) sh_66 28 rfl (by decide) wf_Mo_264 rfl rfl d_Mo_fieldLine_276 ?_
        refine lv_if_ge hx hb d_Mo_fieldLine_279 rfl (fun z => ?_) (fun z => ?_)
        · replace h := if_t z h
          refine lv_iconst (v := 0) hx hb d_Mo_fieldLine_297 (by decide) ?_
          exact x_zrs C D h d_Mo_fieldLine_298
        · replace h := if_f z h
          refine lv_aload_n hx hb d_Mo_fieldLine_282 rfl (lv_at hl 0 rfl) ?_
          refine lv_iload_n hx hb d_Mo_fieldLine_283 rfl (lv_at hl 1 rfl) ?_
          refine lv_iload hx hb d_Mo_fieldLine_284 (lv_at hl 2 rfl) ?_
          refine lv_ldc2 (v := 28259009760159843) hx hb hown (hts _ wk_Mo_267) d_Mo_fieldLine_286 ?_
          refine lv_lconst (v := 0) hx hb d_Mo_fieldLine_289 (by decide) ?_
          refine lv_lconst (v := 0) hx hb d_Mo_fieldLine_290 (by decide) ?_
          obtain ⟨u3, hu3, h⟩ := bd_some h
          refine x_cip (rest := []) (r_V C D (c_Mo_spelt l g hD a3 a4 (28259009760159843 : Int64) 0 0 S u3 hu3) wc_Mo_spelt wm_Mo_245 wi_Mo_spelt wd_Mo_spelt (by decide) sh_66 kc_Mo.1 rfl rfl hl (Nat.le_of_ble_eq_true rfl) (by decide) d_Mo_fieldLine_291) D (fun H locs D => ?_)
          refine lv_if_ne hx hb d_Mo_fieldLine_294 rfl (fun z => ?_) (fun z => ?_)
          · replace h := if_f z h
            refine lv_aload_n hx hb d_Mo_fieldLine_299 rfl (lv_at hl 0 rfl) ?_
            refine lv_iconst (v := 1) hx hb d_Mo_fieldLine_300 (by decide) ?_
            obtain ⟨z5, h⟩ := gdb_some h
            refine x_put C D kc_Mo (by decide) sh_66 29 rfl (by decide) wf_Mo_261 rfl rfl 1 rfl z5 d_Mo_fieldLine_301 h (fun S4 H locs h D => ?_)
            refine lv_iconst (v := 1) hx hb d_Mo_fieldLine_304 (by decide) ?_
            exact x_zrs C D h d_Mo_fieldLine_305
          · replace h := if_t z h
            refine lv_iconst (v := 0) hx hb d_Mo_fieldLine_297 (by decide) ?_
            exact x_zrs C D h d_Mo_fieldLine_298
  have B257 : ∀ (H : Heap) (locs : List Loc) (S : zSt) (ls : Array Slot) (a3 : Int32) (a4 : Int32) (a6 : Int32) (a7 : Int32), f_Mo_fieldLine_257 a3 a4 a6 a7 S = some u → Dy g s S H locs → lv_has ls 8 [(0, .ref (ga g 66)), (3, .int a3), (4, .int a4), (6, .int a6), (7, .int a7)] → W p l e (rmD 2) s m args below meth c H locs 0 0 (MQ below (Qis g u) args s 0 0 (gA g)) (F0 m 257 ls []) := by
    intro H locs S ls a3 a4 a6 a7 h D hl
    unfold f_Mo_fieldLine_257 at h
    refine lv_aload_n hx hb d_Mo_fieldLine_257 rfl (lv_at hl 0 rfl) ?_
    refine lv_iload hx hb d_Mo_fieldLine_258 (lv_at hl 4 rfl) ?_
    refine x_put C D kc_Mo (by decide) sh_66 28 rfl (by decide) wf_Mo_264 rfl rfl a7 rfl ⟨rfl, rfl⟩ d_Mo_fieldLine_260 h (fun S7 H locs h D => ?_)
    exact B263 _ _ _ _ _ _ _ h D (lv_sub hl [0, 1, 2, 3] rfl)
  have B211 : ∀ (H : Heap) (locs : List Loc) (S : zSt) (ls : Array Slot), f_Mo_fieldLine_211 S = some u → Dy g s S H locs → lv_has ls 8 [] → W p l e (rmD 2) s m args below meth c H locs 0 0 (MQ below (Qis g u) args s 0 0 (gA g)) (F0 m 211 ls []) := by
    intro H locs S ls h D hl
    unfold f_Mo_fieldLine_211 at h
    refine lv_iconst (v := 0) hx hb d_Mo_fieldLine_211 (by decide) ?_
    exact x_zrs C D h d_Mo_fieldLine_212
  have B155 : ∀ (H : Heap) (locs : List Loc) (S : zSt) (ls : Array Slot) (a1 : Int32) (a2 : Int32) (a3 : Int32) (a4 : Int32), f_Mo_fieldLine_155 a1 a2 a3 a4 S = some u → Dy g s S H locs → lv_has ls 8 [(0, .ref (ga g 66)), (1, .int a1), (2, .int a2), (3, .int a3), (4, .int a4)] → W p l e (rmD 2) s m args below meth c H locs 0 0 (MQ below (Qis g u) args s 0 0 (gA g)) (F0 m 155 ls []) := by
    intro H locs S ls a1 a2 a3 a4 h D hl
    unfold f_Mo_fieldLine_155 at h
    refine lv_aload_n hx hb d_Mo_fieldLine_155 rfl (lv_at hl 0 rfl) ?_
    refine lv_aload_n hx hb d_Mo_fieldLine_156 rfl (lv_at hl 0 rfl) ?_
    refine x_get (v := .int (S 66 21)) C D kc_Mo (by decide) sh_66 21 rfl (by decide) wf_Mo_231 rfl rfl d_Mo_fieldLine_157 ?_
    refine lv_iload_n hx hb d_Mo_fieldLine_160 rfl (lv_at hl 2 rfl) ?_
    refine lv_ldc2 (v := 3275364211029340003) hx hb hown (hts _ wk_Mo_221) d_Mo_fieldLine_161 ?_
    refine lv_ldc2 (v := 114849160783212) hx hb hown (hts _ wk_Mo_249) d_Mo_fieldLine_164 ?_
    refine lv_lconst (v := 0) hx hb d_Mo_fieldLine_167 (by decide) ?_
    obtain ⟨u1, hu1, h⟩ := bd_some h
    refine x_cip (rest := []) (r_V C D (c_Mo_spelt l g hD (S 66 21) a2 (3275364211029340003 : Int64) (114849160783212 : Int64) 0 S u1 hu1) wc_Mo_spelt wm_Mo_245 wi_Mo_spelt wd_Mo_spelt (by decide) sh_66 kc_Mo.1 rfl rfl hl (Nat.le_of_ble_eq_true rfl) (by decide) d_Mo_fieldLine_168) D (fun H locs D => ?_)
    refine lv_istore (lv' := [(5, .int u1), (0, .ref (ga g 66)), (1, .int a1), (2, .int a2), (3, .int a3), (4, .int a4)]) hx hb d_Mo_fieldLine_171 hl (by decide) rfl (fun ls hl => ?_)
    refine lv_aload_n hx hb d_Mo_fieldLine_173 rfl (lv_at hl 1 rfl) ?_
    refine lv_aload_n hx hb d_Mo_fieldLine_174 rfl (lv_at hl 1 rfl) ?_
    refine x_get (v := .int (S 66 21)) C D kc_Mo (by decide) sh_66 21 rfl (by decide) wf_Mo_231 rfl rfl d_Mo_fieldLine_175 ?_
    refine lv_iload_n hx hb d_Mo_fieldLine_178 rfl (lv_at hl 3 rfl) ?_
    refine lv_ldc2 (v := 8243107338930713204) hx hb hown (hts _ wk_Mo_251) d_Mo_fieldLine_179 ?_
    refine lv_ldc2 (v := 7956000646299018541) hx hb hown (hts _ wk_Mo_253) d_Mo_fieldLine_182 ?_
    refine lv_ldc2 (v := 103) hx hb hown (hts _ wk_Mo_255) d_Mo_fieldLine_185 ?_
    obtain ⟨u2, hu2, h⟩ := bd_some h
    refine x_cip (rest := []) (r_V C D (c_Mo_spelt l g hD (S 66 21) a2 (8243107338930713204 : Int64) (7956000646299018541 : Int64) (103 : Int64) S u2 hu2) wc_Mo_spelt wm_Mo_245 wi_Mo_spelt wd_Mo_spelt (by decide) sh_66 kc_Mo.1 rfl rfl hl (Nat.le_of_ble_eq_true rfl) (by decide) d_Mo_fieldLine_188) D (fun H locs D => ?_)
    refine lv_istore (lv' := [(6, .int u2), (5, .int u1), (0, .ref (ga g 66)), (1, .int a1), (2, .int a2), (3, .int a3), (4, .int a4)]) hx hb d_Mo_fieldLine_191 hl (by decide) rfl (fun ls hl => ?_)
    refine lv_iload_n hx hb d_Mo_fieldLine_193 rfl (lv_at hl 3 rfl) ?_
    refine lv_if_eq hx hb d_Mo_fieldLine_194 rfl (fun z => ?_) (fun z => ?_)
    · replace h := if_t z h
      refine lv_iload hx hb d_Mo_fieldLine_213 (lv_at hl 1 rfl) ?_
      refine lv_if_eq hx hb d_Mo_fieldLine_215 rfl (fun z => ?_) (fun z => ?_)
      · replace h := if_t z h
        exact B263 _ _ _ _ _ _ _ h D (lv_sub hl [2, 5, 6, 0] rfl)
      · replace h := if_f z h
        refine lv_aload_n hx hb d_Mo_fieldLine_218 rfl (lv_at hl 2 rfl) ?_
        refine lv_iload_n hx hb d_Mo_fieldLine_219 rfl (lv_at hl 5 rfl) ?_
        refine lv_iload hx hb d_Mo_fieldLine_220 (lv_at hl 6 rfl) ?_
        obtain ⟨u6, hu6, h⟩ := bd_some h
        refine x_cip (rest := []) (r_V C D (c_Mo_counted l g hD a3 a4 S u6 hu6) wc_Mo_counted wm_Mo_257 wi_Mo_counted wd_Mo_counted (by decide) sh_66 kc_Mo.1 rfl rfl hl (Nat.le_of_ble_eq_true rfl) (by decide) d_Mo_fieldLine_222) D (fun H locs D => ?_)
        refine lv_istore (lv' := [(7, .int u6), (6, .int u2), (5, .int u1), (0, .ref (ga g 66)), (1, .int a1), (2, .int a2), (3, .int a3), (4, .int a4)]) hx hb d_Mo_fieldLine_225 hl (by decide) rfl (fun ls hl => ?_)
        refine lv_iload hx hb d_Mo_fieldLine_227 (lv_at hl 0 rfl) ?_
        refine lv_if_lt hx hb d_Mo_fieldLine_229 rfl (fun z => ?_) (fun z => ?_)
        · replace h := if_t z h
          refine lv_iconst (v := 0) hx hb d_Mo_fieldLine_255 (by decide) ?_
          exact x_zrs C D h d_Mo_fieldLine_256
        · replace h := if_f z h
          refine lv_aload_n hx hb d_Mo_fieldLine_232 rfl (lv_at hl 3 rfl) ?_
          refine x_get (v := .int (S 66 29)) C D kc_Mo (by decide) sh_66 29 rfl (by decide) wf_Mo_261 rfl rfl d_Mo_fieldLine_233 ?_
          refine lv_if_ne hx hb d_Mo_fieldLine_236 rfl (fun z => ?_) (fun z => ?_)
          · replace h := if_f z h
            refine lv_iconst (v := 0) hx hb d_Mo_fieldLine_255 (by decide) ?_
            exact x_zrs C D h d_Mo_fieldLine_256
          · replace h := if_t z h
            refine lv_aload_n hx hb d_Mo_fieldLine_239 rfl (lv_at hl 3 rfl) ?_
            refine x_get (v := .int (S 66 28)) C D kc_Mo (by decide) sh_66 28 rfl (by decide) wf_Mo_264 rfl rfl d_Mo_fieldLine_240 ?_
            refine lv_if_lt hx hb d_Mo_fieldLine_243 rfl (fun z => ?_) (fun z => ?_)
            · replace h := if_t z h
              exact B257 _ _ _ _ _ _ _ _ h D (lv_sub hl [3, 6, 7, 1, 0] rfl)
            · replace h := if_f z h
              refine lv_aload_n hx hb d_Mo_fieldLine_246 rfl (lv_at hl 3 rfl) ?_
              refine x_get (v := .int (S 66 28)) C D kc_Mo (by decide) sh_66 28 rfl (by decide) wf_Mo_264 rfl rfl d_Mo_fieldLine_247 ?_
              refine lv_iload hx hb d_Mo_fieldLine_250 (lv_at hl 0 rfl) ?_
              refine lv_icmp_eq hx hb d_Mo_fieldLine_252 rfl (fun z => ?_) (fun z => ?_)
              · replace h := if_t z h
                exact B257 _ _ _ _ _ _ _ _ h D (lv_sub hl [3, 6, 7, 1, 0] rfl)
              · replace h := if_f z h
                refine lv_iconst (v := 0) hx hb d_Mo_fieldLine_255 (by decide) ?_
                exact x_zrs C D h d_Mo_fieldLine_256
    · replace h := if_f z h
      refine lv_iload hx hb d_Mo_fieldLine_197 (lv_at hl 1 rfl) ?_
      refine lv_if_ne hx hb d_Mo_fieldLine_199 rfl (fun z => ?_) (fun z => ?_)
      · replace h := if_f z h
        exact B211 _ _ _ _ h D (lv_sub hl [] rfl)
      · replace h := if_t z h
        refine lv_iload hx hb d_Mo_fieldLine_202 (lv_at hl 0 rfl) ?_
        refine lv_if_ne hx hb d_Mo_fieldLine_204 rfl (fun z => ?_) (fun z => ?_)
        · replace h := if_f z h
          exact B211 _ _ _ _ h D (lv_sub hl [] rfl)
        · replace h := if_t z h
          refine lv_iconst (v := 1) hx hb d_Mo_fieldLine_207 (by decide) ?_
          refine lv_goto hx hb d_Mo_fieldLine_208 rfl ?_
          exact x_zrs C D h d_Mo_fieldLine_212
  have B149 : ∀ (K115 : Int32 → Int32 → Int32 → Int32 → zSt → Option (Int32 × zSt)) (hK115 : ∀ (H : Heap) (locs : List Loc) (S : zSt) (ls : Array Slot) (a1 : Int32) (a2 : Int32) (a3 : Int32) (a4 : Int32), K115 a1 a2 a3 a4 S = some u → Dy g s S H locs → lv_has ls 8 [(0, .ref (ga g 66)), (1, .int a1), (2, .int a2), (3, .int a3), (4, .int a4)] → W p l e (rmD 2) s m args below meth c H locs 0 0 (MQ below (Qis g u) args s 0 0 (gA g)) (F0 m 115 ls [])) (H : Heap) (locs : List Loc) (S : zSt) (ls : Array Slot) (a1 : Int32) (a2 : Int32) (a3 : Int32) (a4 : Int32), f_Mo_fieldLine_149 K115 a1 a2 a3 a4 S = some u → Dy g s S H locs → lv_has ls 8 [(0, .ref (ga g 66)), (1, .int a1), (2, .int a2), (3, .int a3), (4, .int a4)] → W p l e (rmD 2) s m args below meth c H locs 0 0 (MQ below (Qis g u) args s 0 0 (gA g)) (F0 m 149 ls []) := by
    intro K115 hK115 H locs S ls a1 a2 a3 a4 h D hl
    unfold f_Mo_fieldLine_149 at h
    refine lv_iinc (k := 4) (lv' := [(4, .int (a4 + (-1))), (0, .ref (ga g 66)), (1, .int a1), (2, .int a2), (3, .int a3)]) hx hb d_Mo_fieldLine_149 hl rfl (iim1 _) (by decide) rfl (fun ls hl => ?_)
    refine lv_goto hx hb d_Mo_fieldLine_152 rfl ?_
    exact hK115 _ _ _ _ _ _ _ _ h D (lv_sub hl [1, 2, 3, 4, 0] rfl)
  have L115 : ∀ (n : Nat) (H : Heap) (locs : List Loc) (S : zSt) (ls : Array Slot) (a1 : Int32) (a2 : Int32) (a3 : Int32) (a4 : Int32), f_Mo_fieldLine_115 n a1 a2 a3 a4 S = some u → Dy g s S H locs → lv_has ls 8 [(0, .ref (ga g 66)), (1, .int a1), (2, .int a2), (3, .int a3), (4, .int a4)] → W p l e (rmD 2) s m args below meth c H locs 0 0 (MQ below (Qis g u) args s 0 0 (gA g)) (F0 m 115 ls []) := by
    intro n
    induction n with
    | zero => intro H locs S ls a1 a2 a3 a4 h D hl; rw [f_Mo_fieldLine_115] at h; cases h
    | succ n hK115 =>
      intro H locs S ls a1 a2 a3 a4 h D hl
      rw [f_Mo_fieldLine_115] at h
      refine lv_iload_n hx hb d_Mo_fieldLine_115 rfl (lv_at hl 3 rfl) ?_
      refine lv_iload hx hb d_Mo_fieldLine_116 (lv_at hl 4 rfl) ?_
      refine lv_icmp_ge hx hb d_Mo_fieldLine_118 rfl (fun z => ?_) (fun z => ?_)
      · replace h := if_t z h
        exact B155 _ _ _ _ _ _ _ _ h D (lv_sub hl [0, 1, 2, 3, 4] rfl)
      · replace h := if_f z h
        refine lv_aload_n hx hb d_Mo_fieldLine_121 rfl (lv_at hl 0 rfl) ?_
        refine x_get (v := .ref (ga g 76)) C D kc_Mo (by decide) sh_66 18 rfl (by decide) wf_Mo_37 rfl rfl d_Mo_fieldLine_122 ?_
        refine lv_iload hx hb d_Mo_fieldLine_125 (lv_at hl 4 rfl) ?_
        refine lv_iconst (v := 1) hx hb d_Mo_fieldLine_127 (by decide) ?_
        refine lv_isub hx hb d_Mo_fieldLine_128 ?_
        refine x_iald C D (by decide) sh_76 d_Mo_fieldLine_129 h (fun _ h => ?_)
        refine lv_bipush (v := 32) hx hb d_Mo_fieldLine_130 (by decide) ?_
        refine lv_icmp_eq hx hb d_Mo_fieldLine_132 rfl (fun z => ?_) (fun z => ?_)
        · replace h := if_t z h
          exact B149 _ hK115 _ _ _ _ _ _ _ _ h D (lv_sub hl [0, 1, 2, 3, 4] rfl)
        · replace h := if_f z h
          refine lv_aload_n hx hb d_Mo_fieldLine_135 rfl (lv_at hl 0 rfl) ?_
          refine x_get (v := .ref (ga g 76)) C D kc_Mo (by decide) sh_66 18 rfl (by decide) wf_Mo_37 rfl rfl d_Mo_fieldLine_136 ?_
          refine lv_iload hx hb d_Mo_fieldLine_139 (lv_at hl 4 rfl) ?_
          refine lv_iconst (v := 1) hx hb d_Mo_fieldLine_141 (by decide) ?_
          refine lv_isub hx hb d_Mo_fieldLine_142 ?_
          refine x_iald C D (by decide) sh_76 d_Mo_fieldLine_143 h (fun _ h => ?_)
          refine lv_bipush (v := 9) hx hb d_Mo_fieldLine_144 (by decide) ?_
          refine lv_icmp_ne hx hb d_Mo_fieldLine_146 rfl (fun z => ?_) (fun z => ?_)
          · replace h := if_f z h
            exact B155 _ _ _ _ _ _ _ _ h D (lv_sub hl [0, 1, 2, 3, 4] rfl)
          · replace h := if_t z h
            exact B149 _ hK115 _ _ _ _ _ _ _ _ h D (lv_sub hl [0, 1, 2, 3, 4] rfl)
  have B109 : ∀ (K81 : Int32 → Int32 → Int32 → Int32 → zSt → Option (Int32 × zSt)) (hK81 : ∀ (H : Heap) (locs : List Loc) (S : zSt) (ls : Array Slot) (a1 : Int32) (a2 : Int32) (a3 : Int32) (a4 : Int32), K81 a1 a2 a3 a4 S = some u → Dy g s S H locs → lv_has ls 8 [(0, .ref (ga g 66)), (1, .int a1), (2, .int a2), (3, .int a3), (4, .int a4)] → W p l e (rmD 2) s m args below meth c H locs 0 0 (MQ below (Qis g u) args s 0 0 (gA g)) (F0 m 81 ls [])) (H : Heap) (locs : List Loc) (S : zSt) (ls : Array Slot) (a1 : Int32) (a2 : Int32) (a3 : Int32) (a4 : Int32), f_Mo_fieldLine_109 K81 a1 a2 a3 a4 S = some u → Dy g s S H locs → lv_has ls 8 [(0, .ref (ga g 66)), (1, .int a1), (2, .int a2), (3, .int a3), (4, .int a4)] → W p l e (rmD 2) s m args below meth c H locs 0 0 (MQ below (Qis g u) args s 0 0 (gA g)) (F0 m 109 ls []) := by
    intro K81 hK81 H locs S ls a1 a2 a3 a4 h D hl
    unfold f_Mo_fieldLine_109 at h
    refine lv_iinc (k := 3) (lv' := [(3, .int (a3 + 1)), (0, .ref (ga g 66)), (1, .int a1), (2, .int a2), (4, .int a4)]) hx hb d_Mo_fieldLine_109 hl rfl (ii1 _) (by decide) rfl (fun ls hl => ?_)
    refine lv_goto hx hb d_Mo_fieldLine_112 rfl ?_
    exact hK81 _ _ _ _ _ _ _ _ h D (lv_sub hl [1, 2, 3, 0, 4] rfl)
  have L81 : ∀ (n : Nat) (H : Heap) (locs : List Loc) (S : zSt) (ls : Array Slot) (a1 : Int32) (a2 : Int32) (a3 : Int32) (a4 : Int32), f_Mo_fieldLine_81 n a1 a2 a3 a4 S = some u → Dy g s S H locs → lv_has ls 8 [(0, .ref (ga g 66)), (1, .int a1), (2, .int a2), (3, .int a3), (4, .int a4)] → W p l e (rmD 2) s m args below meth c H locs 0 0 (MQ below (Qis g u) args s 0 0 (gA g)) (F0 m 81 ls []) := by
    intro n
    induction n with
    | zero => intro H locs S ls a1 a2 a3 a4 h D hl; rw [f_Mo_fieldLine_81] at h; cases h
    | succ n hK81 =>
      intro H locs S ls a1 a2 a3 a4 h D hl
      rw [f_Mo_fieldLine_81] at h
      refine lv_iload_n hx hb d_Mo_fieldLine_81 rfl (lv_at hl 3 rfl) ?_
      refine lv_iload hx hb d_Mo_fieldLine_82 (lv_at hl 4 rfl) ?_
      refine lv_icmp_ge hx hb d_Mo_fieldLine_84 rfl (fun z => ?_) (fun z => ?_)
      · replace h := if_t z h
        exact L115 _ _ _ _ _ _ _ _ _ h D (lv_sub hl [0, 1, 2, 3, 4] rfl)
      · replace h := if_f z h
        refine lv_aload_n hx hb d_Mo_fieldLine_87 rfl (lv_at hl 0 rfl) ?_
        refine x_get (v := .ref (ga g 76)) C D kc_Mo (by decide) sh_66 18 rfl (by decide) wf_Mo_37 rfl rfl d_Mo_fieldLine_88 ?_
        refine lv_iload_n hx hb d_Mo_fieldLine_91 rfl (lv_at hl 3 rfl) ?_
        refine x_iald C D (by decide) sh_76 d_Mo_fieldLine_92 h (fun _ h => ?_)
        refine lv_bipush (v := 32) hx hb d_Mo_fieldLine_93 (by decide) ?_
        refine lv_icmp_eq hx hb d_Mo_fieldLine_95 rfl (fun z => ?_) (fun z => ?_)
        · replace h := if_t z h
          exact B109 _ hK81 _ _ _ _ _ _ _ _ h D (lv_sub hl [0, 1, 2, 3, 4] rfl)
        · replace h := if_f z h
          refine lv_aload_n hx hb d_Mo_fieldLine_98 rfl (lv_at hl 0 rfl) ?_
          refine x_get (v := .ref (ga g 76)) C D kc_Mo (by decide) sh_66 18 rfl (by decide) wf_Mo_37 rfl rfl d_Mo_fieldLine_99 ?_
          refine lv_iload_n hx hb d_Mo_fieldLine_102 rfl (lv_at hl 3 rfl) ?_
          refine x_iald C D (by decide) sh_76 d_Mo_fieldLine_103 h (fun _ h => ?_)
          refine lv_bipush (v := 9) hx hb d_Mo_fieldLine_104 (by decide) ?_
          refine lv_icmp_ne hx hb d_Mo_fieldLine_106 rfl (fun z => ?_) (fun z => ?_)
          · replace h := if_f z h
            exact L115 _ _ _ _ _ _ _ _ _ h D (lv_sub hl [0, 1, 2, 3, 4] rfl)
          · replace h := if_t z h
            exact B109 _ hK81 _ _ _ _ _ _ _ _ h D (lv_sub hl [0, 1, 2, 3, 4] rfl)
  have B42 : ∀ (H : Heap) (locs : List Loc) (S : zSt) (ls : Array Slot) (a1 : Int32) (a2 : Int32), f_Mo_fieldLine_42 a1 a2 S = some u → Dy g s S H locs → lv_has ls 8 [(0, .ref (ga g 66)), (1, .int a1), (2, .int a2)] → W p l e (rmD 2) s m args below meth c H locs 0 0 (MQ below (Qis g u) args s 0 0 (gA g)) (F0 m 42 ls []) := by
    intro H locs S ls a1 a2 h D hl
    unfold f_Mo_fieldLine_42 at h
    refine lv_iload_n hx hb d_Mo_fieldLine_42 rfl (lv_at hl 2 rfl) ?_
    refine lv_aload_n hx hb d_Mo_fieldLine_43 rfl (lv_at hl 0 rfl) ?_
    refine x_get (v := .int (S 66 21)) C D kc_Mo (by decide) sh_66 21 rfl (by decide) wf_Mo_231 rfl rfl d_Mo_fieldLine_44 ?_
    refine lv_icmp_eq hx hb d_Mo_fieldLine_47 rfl (fun z => ?_) (fun z => ?_)
    · replace h := if_t z h
      refine lv_iconst (v := 0) hx hb d_Mo_fieldLine_69 (by decide) ?_
      exact x_zrs C D h d_Mo_fieldLine_70
    · replace h := if_f z h
      refine lv_iload_n hx hb d_Mo_fieldLine_50 rfl (lv_at hl 2 rfl) ?_
      refine lv_aload_n hx hb d_Mo_fieldLine_51 rfl (lv_at hl 0 rfl) ?_
      refine x_get (v := .int (S 66 22)) C D kc_Mo (by decide) sh_66 22 rfl (by decide) wf_Mo_237 rfl rfl d_Mo_fieldLine_52 ?_
      refine lv_icmp_eq hx hb d_Mo_fieldLine_55 rfl (fun z => ?_) (fun z => ?_)
      · replace h := if_t z h
        refine lv_iconst (v := 0) hx hb d_Mo_fieldLine_69 (by decide) ?_
        exact x_zrs C D h d_Mo_fieldLine_70
      · replace h := if_f z h
        refine lv_aload_n hx hb d_Mo_fieldLine_58 rfl (lv_at hl 0 rfl) ?_
        refine x_get (v := .ref (ga g 76)) C D kc_Mo (by decide) sh_66 18 rfl (by decide) wf_Mo_37 rfl rfl d_Mo_fieldLine_59 ?_
        refine lv_iload_n hx hb d_Mo_fieldLine_62 rfl (lv_at hl 2 rfl) ?_
        refine x_iald C D (by decide) sh_76 d_Mo_fieldLine_63 h (fun _ h => ?_)
        refine lv_bipush (v := 58) hx hb d_Mo_fieldLine_64 (by decide) ?_
        refine lv_icmp_eq hx hb d_Mo_fieldLine_66 rfl (fun z => ?_) (fun z => ?_)
        · replace h := if_t z h
          refine lv_iload_n hx hb d_Mo_fieldLine_71 rfl (lv_at hl 2 rfl) ?_
          refine lv_iconst (v := 1) hx hb d_Mo_fieldLine_72 (by decide) ?_
          refine lv_iadd hx hb d_Mo_fieldLine_73 ?_
          refine lv_istore_n (lv' := [(3, .int (a2 + 1)), (0, .ref (ga g 66)), (1, .int a1), (2, .int a2)]) hx hb d_Mo_fieldLine_74 rfl hl (by decide) rfl (fun ls hl => ?_)
          refine lv_aload_n hx hb d_Mo_fieldLine_75 rfl (lv_at hl 1 rfl) ?_
          refine x_get (v := .int (S 66 22)) C D kc_Mo (by decide) sh_66 22 rfl (by decide) wf_Mo_237 rfl rfl d_Mo_fieldLine_76 ?_
          refine lv_istore (lv' := [(4, .int (S 66 22)), (3, .int (a2 + 1)), (0, .ref (ga g 66)), (1, .int a1), (2, .int a2)]) hx hb d_Mo_fieldLine_79 hl (by decide) rfl (fun ls hl => ?_)
          exact L81 _ _ _ _ _ _ _ _ _ h D (lv_sub hl [2, 3, 4, 1, 0] rfl)
        · replace h := if_f z h
          refine lv_iconst (v := 0) hx hb d_Mo_fieldLine_69 (by decide) ?_
          exact x_zrs C D h d_Mo_fieldLine_70
  have B36 : ∀ (K5 : Int32 → Int32 → zSt → Option (Int32 × zSt)) (hK5 : ∀ (H : Heap) (locs : List Loc) (S : zSt) (ls : Array Slot) (a1 : Int32) (a2 : Int32), K5 a1 a2 S = some u → Dy g s S H locs → lv_has ls 8 [(0, .ref (ga g 66)), (1, .int a1), (2, .int a2)] → W p l e (rmD 2) s m args below meth c H locs 0 0 (MQ below (Qis g u) args s 0 0 (gA g)) (F0 m 5 ls [])) (H : Heap) (locs : List Loc) (S : zSt) (ls : Array Slot) (a1 : Int32) (a2 : Int32), f_Mo_fieldLine_36 K5 a1 a2 S = some u → Dy g s S H locs → lv_has ls 8 [(0, .ref (ga g 66)), (1, .int a1), (2, .int a2)] → W p l e (rmD 2) s m args below meth c H locs 0 0 (MQ below (Qis g u) args s 0 0 (gA g)) (F0 m 36 ls []) := by
    intro K5 hK5 H locs S ls a1 a2 h D hl
    unfold f_Mo_fieldLine_36 at h
    refine lv_iinc (k := 2) (lv' := [(2, .int (a2 + 1)), (0, .ref (ga g 66)), (1, .int a1)]) hx hb d_Mo_fieldLine_36 hl rfl (ii1 _) (by decide) rfl (fun ls hl => ?_)
    refine lv_goto hx hb d_Mo_fieldLine_39 rfl ?_
    exact hK5 _ _ _ _ _ _ h D (lv_sub hl [1, 2, 0] rfl)
  have L5 : ∀ (n : Nat) (H : Heap) (locs : List Loc) (S : zSt) (ls : Array Slot) (a1 : Int32) (a2 : Int32), f_Mo_fieldLine_5 n a1 a2 S = some u → Dy g s S H locs → lv_has ls 8 [(0, .ref (ga g 66)), (1, .int a1), (2, .int a2)] → W p l e (rmD 2) s m args below meth c H locs 0 0 (MQ below (Qis g u) args s 0 0 (gA g)) (F0 m 5 ls []) := by
    intro n
    induction n with
    | zero => intro H locs S ls a1 a2 h D hl; rw [f_Mo_fieldLine_5] at h; cases h
    | succ n hK5 =>
      intro H locs S ls a1 a2 h D hl
      rw [f_Mo_fieldLine_5] at h
      refine lv_iload_n hx hb d_Mo_fieldLine_5 rfl (lv_at hl 2 rfl) ?_
      refine lv_aload_n hx hb d_Mo_fieldLine_6 rfl (lv_at hl 0 rfl) ?_
      refine x_get (v := .int (S 66 22)) C D kc_Mo (by decide) sh_66 22 rfl (by decide) wf_Mo_237 rfl rfl d_Mo_fieldLine_7 ?_
      refine lv_icmp_ge hx hb d_Mo_fieldLine_10 rfl (fun z => ?_) (fun z => ?_)
      · replace h := if_t z h
        exact B42 _ _ _ _ _ _ h D (lv_sub hl [0, 1, 2] rfl)
      · replace h := if_f z h
        refine lv_aload_n hx hb d_Mo_fieldLine_13 rfl (lv_at hl 0 rfl) ?_
        refine x_get (v := .ref (ga g 76)) C D kc_Mo (by decide) sh_66 18 rfl (by decide) wf_Mo_37 rfl rfl d_Mo_fieldLine_14 ?_
        refine lv_iload_n hx hb d_Mo_fieldLine_17 rfl (lv_at hl 2 rfl) ?_
        refine x_iald C D (by decide) sh_76 d_Mo_fieldLine_18 h (fun _ h => ?_)
        obtain ⟨u8, hu8, h⟩ := bd_some h
        refine x_cip (rest := []) (r_S C D (c_Mo_letterOrDigit l g hD (S 76 a2.toNatClampNeg) S u8 hu8) wc_Mo_letterOrDigit wm_Mo_66 wt_Mo_letterOrDigit wd_Mo_letterOrDigit rfl rfl hl (Nat.le_of_ble_eq_true rfl) (by decide) d_Mo_fieldLine_19) D (fun H locs D => ?_)
        refine lv_if_ne hx hb d_Mo_fieldLine_22 rfl (fun z => ?_) (fun z => ?_)
        · replace h := if_f z h
          exact B36 _ hK5 _ _ _ _ _ _ h D (lv_sub hl [0, 1, 2] rfl)
        · replace h := if_t z h
          refine lv_aload_n hx hb d_Mo_fieldLine_25 rfl (lv_at hl 0 rfl) ?_
          refine x_get (v := .ref (ga g 76)) C D kc_Mo (by decide) sh_66 18 rfl (by decide) wf_Mo_37 rfl rfl d_Mo_fieldLine_26 ?_
          refine lv_iload_n hx hb d_Mo_fieldLine_29 rfl (lv_at hl 2 rfl) ?_
          refine x_iald C D (by decide) sh_76 d_Mo_fieldLine_30 h (fun _ h => ?_)
          refine lv_bipush (v := 45) hx hb d_Mo_fieldLine_31 (by decide) ?_
          refine lv_icmp_ne hx hb d_Mo_fieldLine_33 rfl (fun z => ?_) (fun z => ?_)
          · replace h := if_f z h
            exact B42 _ _ _ _ _ _ h D (lv_sub hl [0, 1, 2] rfl)
          · replace h := if_t z h
            exact B36 _ hK5 _ _ _ _ _ _ h D (lv_sub hl [0, 1, 2] rfl)
  unfold f_Mo_fieldLine at h
  refine lv_aload_n hx hb d_Mo_fieldLine_0 rfl (lv_at hl 0 rfl) ?_
  refine x_get (v := .int (S 66 21)) C D kc_Mo (by decide) sh_66 21 rfl (by decide) wf_Mo_231 rfl rfl d_Mo_fieldLine_1 ?_
  refine lv_istore_n (lv' := [(2, .int (S 66 21)), (0, .ref (ga g 66)), (1, .int a1)]) hx hb d_Mo_fieldLine_4 rfl hl (by decide) rfl (fun ls hl => ?_)
  exact L5 _ _ _ _ _ _ _ h D (lv_sub hl [1, 2, 0] rfl)
