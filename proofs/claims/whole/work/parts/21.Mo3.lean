theorem d_Mo_twice_0 : decode b_Mo_twice 0 = .ok (.iconst 0, 1) := by decide +kernel
theorem d_Mo_twice_1 : decode b_Mo_twice 1 = .ok (.istore_n 1, 1) := by decide +kernel
theorem d_Mo_twice_2 : decode b_Mo_twice 2 = .ok (.iconst 0, 1) := by decide +kernel
theorem d_Mo_twice_3 : decode b_Mo_twice 3 = .ok (.istore_n 2, 1) := by decide +kernel
theorem d_Mo_twice_4 : decode b_Mo_twice 4 = .ok (.iload_n 2, 1) := by decide +kernel
theorem d_Mo_twice_5 : decode b_Mo_twice 5 = .ok (.aload_n 0, 1) := by decide +kernel
theorem d_Mo_twice_6 : decode b_Mo_twice 6 = .ok (.getfield 53, 3) := by decide +kernel
theorem d_Mo_twice_9 : decode b_Mo_twice 9 = .ok (.if_icmp .ge 43, 3) := by decide +kernel
theorem d_Mo_twice_12 : decode b_Mo_twice 12 = .ok (.iload_n 1, 1) := by decide +kernel
theorem d_Mo_twice_13 : decode b_Mo_twice 13 = .ok (.ifCond .ne 27, 3) := by decide +kernel
theorem d_Mo_twice_16 : decode b_Mo_twice 16 = .ok (.aload_n 0, 1) := by decide +kernel
theorem d_Mo_twice_17 : decode b_Mo_twice 17 = .ok (.getfield 13, 3) := by decide +kernel
theorem d_Mo_twice_20 : decode b_Mo_twice 20 = .ok (.iload_n 2, 1) := by decide +kernel
theorem d_Mo_twice_21 : decode b_Mo_twice 21 = .ok (.iaload, 1) := by decide +kernel
theorem d_Mo_twice_22 : decode b_Mo_twice 22 = .ok (.iconst 1, 1) := by decide +kernel
theorem d_Mo_twice_23 : decode b_Mo_twice 23 = .ok (.if_icmp .gt 21, 3) := by decide +kernel
theorem d_Mo_twice_26 : decode b_Mo_twice 26 = .ok (.aload_n 0, 1) := by decide +kernel
theorem d_Mo_twice_27 : decode b_Mo_twice 27 = .ok (.aload_n 0, 1) := by decide +kernel
theorem d_Mo_twice_28 : decode b_Mo_twice 28 = .ok (.getfield 16, 3) := by decide +kernel
theorem d_Mo_twice_31 : decode b_Mo_twice 31 = .ok (.iload_n 2, 1) := by decide +kernel
theorem d_Mo_twice_32 : decode b_Mo_twice 32 = .ok (.iaload, 1) := by decide +kernel
theorem d_Mo_twice_33 : decode b_Mo_twice 33 = .ok (.invokevirtual 85, 3) := by decide +kernel
theorem d_Mo_twice_36 : decode b_Mo_twice 36 = .ok (.iload_n 2, 1) := by decide +kernel
theorem d_Mo_twice_37 : decode b_Mo_twice 37 = .ok (.if_icmp .eq 7, 3) := by decide +kernel
theorem d_Mo_twice_40 : decode b_Mo_twice 40 = .ok (.iconst 1, 1) := by decide +kernel
theorem d_Mo_twice_41 : decode b_Mo_twice 41 = .ok (.goto 4, 3) := by decide +kernel
theorem d_Mo_twice_44 : decode b_Mo_twice 44 = .ok (.iconst 0, 1) := by decide +kernel
theorem d_Mo_twice_45 : decode b_Mo_twice 45 = .ok (.istore_n 1, 1) := by decide +kernel
theorem d_Mo_twice_46 : decode b_Mo_twice 46 = .ok (.iinc 2 1, 3) := by decide +kernel
theorem d_Mo_twice_49 : decode b_Mo_twice 49 = .ok (.goto (-45), 3) := by decide +kernel
theorem d_Mo_twice_52 : decode b_Mo_twice 52 = .ok (.iload_n 1, 1) := by decide +kernel
theorem d_Mo_twice_53 : decode b_Mo_twice 53 = .ok (.ireturn, 1) := by decide +kernel
def f_Mo_twice_45 (K4 : Int32 → Int32 → zSt → Option Int32) (a2 : Int32) (t0 : Int32) (S : zSt) : Option Int32 := (K4 t0 (a2 + 1) S)
def f_Mo_twice_40 (K4 : Int32 → Int32 → zSt → Option Int32) (a2 : Int32) (S : zSt) : Option Int32 := (f_Mo_twice_45 K4 a2 1 S)
def f_Mo_twice_44 (K4 : Int32 → Int32 → zSt → Option Int32) (a2 : Int32) (S : zSt) : Option Int32 := (f_Mo_twice_45 K4 a2 0 S)
def f_Mo_twice_4 : Nat → Int32 → Int32 → zSt → Option Int32
  | 0, _, _, _ => none
  | n + 1, a1, a2, S => (if (S 66 3) ≤ a2 then (gdb a1 (some a1)) else (if a1 = 0 then gdi a2 6 ((if 1 < (S 68 a2.toNatClampNeg) then (f_Mo_twice_44 (f_Mo_twice_4 n) a2 S) else gdi a2 6 (((f_Mo_named (S 69 a2.toNatClampNeg) S).bind fun u1 => (if u1 = a2 then (f_Mo_twice_44 (f_Mo_twice_4 n) a2 S) else (f_Mo_twice_40 (f_Mo_twice_4 n) a2 S)))))) else (f_Mo_twice_40 (f_Mo_twice_4 n) a2 S)))
def f_Mo_twice (S : zSt) : Option Int32 := (f_Mo_twice_4 fu 0 0 S)
set_option maxHeartbeats 4000000 in
set_option maxRecDepth 100000 in
theorem c_Mo_twice (l : Launch) (g : zG) (hD : GD g) (S : zSt) (u : Int32) (h : f_Mo_twice S = some u) : Met l y_Mo_twice (mw y_Mo_twice b_Mo_twice 3 (some .boolean)) (rmD 1) (Pw g [.ref (ga g 66)] S) (Qip g S u) 0 0 (gA g) := by
  refine z_go (own := R_Mo) (lv0 := [(0, .ref (ga g 66))]) hD (by decide) rfl (Nat.le_of_ble_eq_true rfl) rfl ?_
  intro p e s m args below meth c C D ls hl
  have hx := C.1
  have hb := C.2.1
  have hown := C.2.2.2.1
  have hts := C.2.2.2.2.1
  have B45 : ∀ (K4 : Int32 → Int32 → zSt → Option Int32) (hK4 : ∀ (H : Heap) (locs : List Loc) (ls : Array Slot) (a1 : Int32) (a2 : Int32), K4 a1 a2 S = some u → Dy g s S H locs → lv_has ls 3 [(0, .ref (ga g 66)), (1, .int a1), (2, .int a2)] → W p l e (rmD 1) s m args below meth c H locs 0 0 (MQ below (Qip g S u) args s 0 0 (gA g)) (F0 m 4 ls [])) (H : Heap) (locs : List Loc) (ls : Array Slot) (a2 : Int32) (t0 : Int32), f_Mo_twice_45 K4 a2 t0 S = some u → Dy g s S H locs → lv_has ls 3 [(0, .ref (ga g 66)), (2, .int a2)] → W p l e (rmD 1) s m args below meth c H locs 0 0 (MQ below (Qip g S u) args s 0 0 (gA g)) (F0 m 45 ls [.int t0]) := by
    intro K4 hK4 H locs ls a2 t0 h D hl
    unfold f_Mo_twice_45 at h
    refine lv_istore_n (lv' := [(1, .int t0), (0, .ref (ga g 66)), (2, .int a2)]) hx hb d_Mo_twice_45 rfl hl (by decide) rfl (fun ls hl => ?_)
    refine lv_iinc (k := 2) (lv' := [(2, .int (a2 + 1)), (1, .int t0), (0, .ref (ga g 66))]) hx hb d_Mo_twice_46 hl rfl (ii1 _) (by decide) rfl (fun ls hl => ?_)
    refine lv_goto hx hb d_Mo_twice_49 rfl ?_
    exact hK4 _ _ _ _ _ h D (lv_sub hl [2, 1, 0] rfl)
  have B40 : ∀ (K4 : Int32 → Int32 → zSt → Option Int32) (hK4 : ∀ (H : Heap) (locs : List Loc) (ls : Array Slot) (a1 : Int32) (a2 : Int32), K4 a1 a2 S = some u → Dy g s S H locs → lv_has ls 3 [(0, .ref (ga g 66)), (1, .int a1), (2, .int a2)] → W p l e (rmD 1) s m args below meth c H locs 0 0 (MQ below (Qip g S u) args s 0 0 (gA g)) (F0 m 4 ls [])) (H : Heap) (locs : List Loc) (ls : Array Slot) (a2 : Int32), f_Mo_twice_40 K4 a2 S = some u → Dy g s S H locs → lv_has ls 3 [(0, .ref (ga g 66)), (2, .int a2)] → W p l e (rmD 1) s m args below meth c H locs 0 0 (MQ below (Qip g S u) args s 0 0 (gA g)) (F0 m 40 ls []) := by
    intro K4 hK4 H locs ls a2 h D hl
    unfold f_Mo_twice_40 at h
    refine lv_iconst (v := 1) hx hb d_Mo_twice_40 (by decide) ?_
    refine lv_goto hx hb d_Mo_twice_41 rfl ?_
    exact B45 _ hK4 _ _ _ _ _ h D (lv_sub hl [0, 1] rfl)
  have B44 : ∀ (K4 : Int32 → Int32 → zSt → Option Int32) (hK4 : ∀ (H : Heap) (locs : List Loc) (ls : Array Slot) (a1 : Int32) (a2 : Int32), K4 a1 a2 S = some u → Dy g s S H locs → lv_has ls 3 [(0, .ref (ga g 66)), (1, .int a1), (2, .int a2)] → W p l e (rmD 1) s m args below meth c H locs 0 0 (MQ below (Qip g S u) args s 0 0 (gA g)) (F0 m 4 ls [])) (H : Heap) (locs : List Loc) (ls : Array Slot) (a2 : Int32), f_Mo_twice_44 K4 a2 S = some u → Dy g s S H locs → lv_has ls 3 [(0, .ref (ga g 66)), (2, .int a2)] → W p l e (rmD 1) s m args below meth c H locs 0 0 (MQ below (Qip g S u) args s 0 0 (gA g)) (F0 m 44 ls []) := by
    intro K4 hK4 H locs ls a2 h D hl
    unfold f_Mo_twice_44 at h
    refine lv_iconst (v := 0) hx hb d_Mo_twice_44 (by decide) ?_
    exact B45 _ hK4 _ _ _ _ _ h D (lv_sub hl [0, 1] rfl)
  have L4 : ∀ (n : Nat) (H : Heap) (locs : List Loc) (ls : Array Slot) (a1 : Int32) (a2 : Int32), f_Mo_twice_4 n a1 a2 S = some u → Dy g s S H locs → lv_has ls 3 [(0, .ref (ga g 66)), (1, .int a1), (2, .int a2)] → W p l e (rmD 1) s m args below meth c H locs 0 0 (MQ below (Qip g S u) args s 0 0 (gA g)) (F0 m 4 ls []) := by
    intro n
    induction n with
    | zero => intro H locs ls a1 a2 h D hl; rw [f_Mo_twice_4] at h; cases h
    | succ n hK4 =>
      intro H locs ls a1 a2 h D hl
      rw [f_Mo_twice_4] at h
      refine lv_iload_n hx hb d_Mo_twice_4 rfl (lv_at hl 2 rfl) ?_
      refine lv_aload_n hx hb d_Mo_twice_5 rfl (lv_at hl 0 rfl) ?_
      refine x_get (v := .int (S 66 3)) C D kc_Mo (by decide) sh_66 3 rfl (by decide) wf_Mo_53 rfl rfl d_Mo_twice_6 ?_
      refine lv_icmp_ge hx hb d_Mo_twice_9 rfl (fun z => ?_) (fun z => ?_)
      · replace h := if_t z h
        refine lv_iload_n hx hb d_Mo_twice_52 rfl (lv_at hl 1 rfl) ?_
        exact x_zrp C D h d_Mo_twice_53
      · replace h := if_f z h
        refine lv_iload_n hx hb d_Mo_twice_12 rfl (lv_at hl 1 rfl) ?_
        refine lv_if_ne hx hb d_Mo_twice_13 rfl (fun z => ?_) (fun z => ?_)
        · replace h := if_f z h
          exact B40 _ hK4 _ _ _ _ h D (lv_sub hl [0, 2] rfl)
        · replace h := if_t z h
          refine lv_aload_n hx hb d_Mo_twice_16 rfl (lv_at hl 0 rfl) ?_
          refine x_get (v := .ref (ga g 68)) C D kc_Mo (by decide) sh_66 4 rfl (by decide) wf_Mo_13 rfl rfl d_Mo_twice_17 ?_
          refine lv_iload_n hx hb d_Mo_twice_20 rfl (lv_at hl 2 rfl) ?_
          refine x_iald C D (by decide) sh_68 d_Mo_twice_21 h (fun _ h => ?_)
          refine lv_iconst (v := 1) hx hb d_Mo_twice_22 (by decide) ?_
          refine lv_icmp_gt hx hb d_Mo_twice_23 rfl (fun z => ?_) (fun z => ?_)
          · replace h := if_t z h
            exact B44 _ hK4 _ _ _ _ h D (lv_sub hl [0, 2] rfl)
          · replace h := if_f z h
            refine lv_aload_n hx hb d_Mo_twice_26 rfl (lv_at hl 0 rfl) ?_
            refine lv_aload_n hx hb d_Mo_twice_27 rfl (lv_at hl 0 rfl) ?_
            refine x_get (v := .ref (ga g 69)) C D kc_Mo (by decide) sh_66 5 rfl (by decide) wf_Mo_16 rfl rfl d_Mo_twice_28 ?_
            refine lv_iload_n hx hb d_Mo_twice_31 rfl (lv_at hl 2 rfl) ?_
            refine x_iald C D (by decide) sh_69 d_Mo_twice_32 h (fun _ h => ?_)
            obtain ⟨u1, hu1, h⟩ := bd_some h
            refine x_cip (rest := []) (r_V C D (c_Mo_named l g hD (S 69 a2.toNatClampNeg) S u1 hu1) wc_Mo_named wm_Mo_85 wi_Mo_named wd_Mo_named (by decide) sh_66 kc_Mo.1 rfl rfl hl (Nat.le_of_ble_eq_true rfl) (by decide) d_Mo_twice_33) D (fun H locs D => ?_)
            refine lv_iload_n hx hb d_Mo_twice_36 rfl (lv_at hl 2 rfl) ?_
            refine lv_icmp_eq hx hb d_Mo_twice_37 rfl (fun z => ?_) (fun z => ?_)
            · replace h := if_t z h
              exact B44 _ hK4 _ _ _ _ h D (lv_sub hl [0, 2] rfl)
            · replace h := if_f z h
              exact B40 _ hK4 _ _ _ _ h D (lv_sub hl [0, 2] rfl)
  unfold f_Mo_twice at h
  refine lv_iconst (v := 0) hx hb d_Mo_twice_0 (by decide) ?_
  refine lv_istore_n (lv' := [(1, .int 0), (0, .ref (ga g 66))]) hx hb d_Mo_twice_1 rfl hl (by decide) rfl (fun ls hl => ?_)
  refine lv_iconst (v := 0) hx hb d_Mo_twice_2 (by decide) ?_
  refine lv_istore_n (lv' := [(2, .int 0), (1, .int 0), (0, .ref (ga g 66))]) hx hb d_Mo_twice_3 rfl hl (by decide) rfl (fun ls hl => ?_)
  exact L4 _ _ _ _ _ _ h D (lv_sub hl [2, 1, 0] rfl)
theorem d_Mo_pair_0 : decode b_Mo_pair 0 = .ok (.iload_n 2, 1) := by decide +kernel
theorem d_Mo_pair_1 : decode b_Mo_pair 1 = .ok (.ifCond .lt 55, 3) := by decide +kernel
theorem d_Mo_pair_4 : decode b_Mo_pair 4 = .ok (.iload_n 2, 1) := by decide +kernel
theorem d_Mo_pair_5 : decode b_Mo_pair 5 = .ok (.iconst 1, 1) := by decide +kernel
theorem d_Mo_pair_6 : decode b_Mo_pair 6 = .ok (.iadd, 1) := by decide +kernel
theorem d_Mo_pair_7 : decode b_Mo_pair 7 = .ok (.aload_n 0, 1) := by decide +kernel
theorem d_Mo_pair_8 : decode b_Mo_pair 8 = .ok (.getfield 22, 3) := by decide +kernel
theorem d_Mo_pair_11 : decode b_Mo_pair 11 = .ok (.iload_n 1, 1) := by decide +kernel
theorem d_Mo_pair_12 : decode b_Mo_pair 12 = .ok (.iaload, 1) := by decide +kernel
theorem d_Mo_pair_13 : decode b_Mo_pair 13 = .ok (.if_icmp .ge 43, 3) := by decide +kernel
theorem d_Mo_pair_16 : decode b_Mo_pair 16 = .ok (.aload_n 0, 1) := by decide +kernel
theorem d_Mo_pair_17 : decode b_Mo_pair 17 = .ok (.getfield 25, 3) := by decide +kernel
theorem d_Mo_pair_20 : decode b_Mo_pair 20 = .ok (.bipush 8, 2) := by decide +kernel
theorem d_Mo_pair_22 : decode b_Mo_pair 22 = .ok (.iload_n 1, 1) := by decide +kernel
theorem d_Mo_pair_23 : decode b_Mo_pair 23 = .ok (.imul, 1) := by decide +kernel
theorem d_Mo_pair_24 : decode b_Mo_pair 24 = .ok (.iload_n 2, 1) := by decide +kernel
theorem d_Mo_pair_25 : decode b_Mo_pair 25 = .ok (.iadd, 1) := by decide +kernel
theorem d_Mo_pair_26 : decode b_Mo_pair 26 = .ok (.iaload, 1) := by decide +kernel
theorem d_Mo_pair_27 : decode b_Mo_pair 27 = .ok (.invokestatic 111, 3) := by decide +kernel
theorem d_Mo_pair_30 : decode b_Mo_pair 30 = .ok (.ifCond .eq 26, 3) := by decide +kernel
theorem d_Mo_pair_33 : decode b_Mo_pair 33 = .ok (.aload_n 0, 1) := by decide +kernel
theorem d_Mo_pair_34 : decode b_Mo_pair 34 = .ok (.getfield 25, 3) := by decide +kernel
theorem d_Mo_pair_37 : decode b_Mo_pair 37 = .ok (.bipush 8, 2) := by decide +kernel
theorem d_Mo_pair_39 : decode b_Mo_pair 39 = .ok (.iload_n 1, 1) := by decide +kernel
theorem d_Mo_pair_40 : decode b_Mo_pair 40 = .ok (.imul, 1) := by decide +kernel
theorem d_Mo_pair_41 : decode b_Mo_pair 41 = .ok (.iload_n 2, 1) := by decide +kernel
theorem d_Mo_pair_42 : decode b_Mo_pair 42 = .ok (.iadd, 1) := by decide +kernel
theorem d_Mo_pair_43 : decode b_Mo_pair 43 = .ok (.iconst 1, 1) := by decide +kernel
theorem d_Mo_pair_44 : decode b_Mo_pair 44 = .ok (.iadd, 1) := by decide +kernel
theorem d_Mo_pair_45 : decode b_Mo_pair 45 = .ok (.iaload, 1) := by decide +kernel
theorem d_Mo_pair_46 : decode b_Mo_pair 46 = .ok (.invokestatic 114, 3) := by decide +kernel
theorem d_Mo_pair_49 : decode b_Mo_pair 49 = .ok (.ifCond .eq 7, 3) := by decide +kernel
theorem d_Mo_pair_52 : decode b_Mo_pair 52 = .ok (.iconst 1, 1) := by decide +kernel
theorem d_Mo_pair_53 : decode b_Mo_pair 53 = .ok (.goto 4, 3) := by decide +kernel
theorem d_Mo_pair_56 : decode b_Mo_pair 56 = .ok (.iconst 0, 1) := by decide +kernel
theorem d_Mo_pair_57 : decode b_Mo_pair 57 = .ok (.ireturn, 1) := by decide +kernel
def f_Mo_pair_56 (S : zSt) : Option Int32 := (gdb 0 (some 0))
def f_Mo_pair (a1 : Int32) (a2 : Int32) (S : zSt) : Option Int32 := (if a2 < 0 then (f_Mo_pair_56 S) else gdi a1 18 ((if (S 71 a1.toNatClampNeg) ≤ (a2 + 1) then (f_Mo_pair_56 S) else gdi ((8 * a1) + a2) 144 (((f_Mo_high (S 72 ((8 * a1) + a2).toNatClampNeg) S).bind fun u1 => (if u1 = 0 then (f_Mo_pair_56 S) else gdi (((8 * a1) + a2) + 1) 144 (((f_Mo_low (S 72 (((8 * a1) + a2) + 1).toNatClampNeg) S).bind fun u2 => (if u2 = 0 then (f_Mo_pair_56 S) else (gdb 1 (some 1)))))))))))
set_option maxHeartbeats 4000000 in
set_option maxRecDepth 100000 in
theorem c_Mo_pair (l : Launch) (g : zG) (hD : GD g) (a1 : Int32) (a2 : Int32) (S : zSt) (u : Int32) (h : f_Mo_pair a1 a2 S = some u) : Met l y_Mo_pair (mw y_Mo_pair b_Mo_pair 3 (some .boolean)) (rmD 1) (Pw g [.ref (ga g 66), .int a1, .int a2] S) (Qip g S u) 0 0 (gA g) := by
  refine z_go (own := R_Mo) (lv0 := [(0, .ref (ga g 66)), (1, .int a1), (2, .int a2)]) hD (by decide) rfl (Nat.le_of_ble_eq_true rfl) rfl ?_
  intro p e s m args below meth c C D ls hl
  have hx := C.1
  have hb := C.2.1
  have hown := C.2.2.2.1
  have hts := C.2.2.2.2.1
  have B56 : ∀ (H : Heap) (locs : List Loc) (ls : Array Slot), f_Mo_pair_56 S = some u → Dy g s S H locs → lv_has ls 3 [] → W p l e (rmD 1) s m args below meth c H locs 0 0 (MQ below (Qip g S u) args s 0 0 (gA g)) (F0 m 56 ls []) := by
    intro H locs ls h D hl
    unfold f_Mo_pair_56 at h
    refine lv_iconst (v := 0) hx hb d_Mo_pair_56 (by decide) ?_
    exact x_zrp C D h d_Mo_pair_57
  unfold f_Mo_pair at h
  refine lv_iload_n hx hb d_Mo_pair_0 rfl (lv_at hl 2 rfl) ?_
  refine lv_if_lt hx hb d_Mo_pair_1 rfl (fun z => ?_) (fun z => ?_)
  · replace h := if_t z h
    exact B56 _ _ _ h D (lv_sub hl [] rfl)
  · replace h := if_f z h
    refine lv_iload_n hx hb d_Mo_pair_4 rfl (lv_at hl 2 rfl) ?_
    refine lv_iconst (v := 1) hx hb d_Mo_pair_5 (by decide) ?_
    refine lv_iadd hx hb d_Mo_pair_6 ?_
    refine lv_aload_n hx hb d_Mo_pair_7 rfl (lv_at hl 0 rfl) ?_
    refine x_get (v := .ref (ga g 71)) C D kc_Mo (by decide) sh_66 7 rfl (by decide) wf_Mo_22 rfl rfl d_Mo_pair_8 ?_
    refine lv_iload_n hx hb d_Mo_pair_11 rfl (lv_at hl 1 rfl) ?_
    refine x_iald C D (by decide) sh_71 d_Mo_pair_12 h (fun _ h => ?_)
    refine lv_icmp_ge hx hb d_Mo_pair_13 rfl (fun z => ?_) (fun z => ?_)
    · replace h := if_t z h
      exact B56 _ _ _ h D (lv_sub hl [] rfl)
    · replace h := if_f z h
      refine lv_aload_n hx hb d_Mo_pair_16 rfl (lv_at hl 0 rfl) ?_
      refine x_get (v := .ref (ga g 72)) C D kc_Mo (by decide) sh_66 8 rfl (by decide) wf_Mo_25 rfl rfl d_Mo_pair_17 ?_
      refine lv_bipush (v := 8) hx hb d_Mo_pair_20 (by decide) ?_
      refine lv_iload_n hx hb d_Mo_pair_22 rfl (lv_at hl 1 rfl) ?_
      refine lv_imul hx hb d_Mo_pair_23 ?_
      refine lv_iload_n hx hb d_Mo_pair_24 rfl (lv_at hl 2 rfl) ?_
      refine lv_iadd hx hb d_Mo_pair_25 ?_
      refine x_iald C D (by decide) sh_72 d_Mo_pair_26 h (fun _ h => ?_)
      obtain ⟨u1, hu1, h⟩ := bd_some h
      refine x_cip (rest := []) (r_S C D (c_Mo_high l g hD (S 72 ((8 * a1) + a2).toNatClampNeg) S u1 hu1) wc_Mo_high wm_Mo_111 wt_Mo_high wd_Mo_high rfl rfl hl (Nat.le_of_ble_eq_true rfl) (by decide) d_Mo_pair_27) D (fun H locs D => ?_)
      refine lv_if_eq hx hb d_Mo_pair_30 rfl (fun z => ?_) (fun z => ?_)
      · replace h := if_t z h
        exact B56 _ _ _ h D (lv_sub hl [] rfl)
      · replace h := if_f z h
        refine lv_aload_n hx hb d_Mo_pair_33 rfl (lv_at hl 0 rfl) ?_
        refine x_get (v := .ref (ga g 72)) C D kc_Mo (by decide) sh_66 8 rfl (by decide) wf_Mo_25 rfl rfl d_Mo_pair_34 ?_
        refine lv_bipush (v := 8) hx hb d_Mo_pair_37 (by decide) ?_
        refine lv_iload_n hx hb d_Mo_pair_39 rfl (lv_at hl 1 rfl) ?_
        refine lv_imul hx hb d_Mo_pair_40 ?_
        refine lv_iload_n hx hb d_Mo_pair_41 rfl (lv_at hl 2 rfl) ?_
        refine lv_iadd hx hb d_Mo_pair_42 ?_
        refine lv_iconst (v := 1) hx hb d_Mo_pair_43 (by decide) ?_
        refine lv_iadd hx hb d_Mo_pair_44 ?_
        refine x_iald C D (by decide) sh_72 d_Mo_pair_45 h (fun _ h => ?_)
        obtain ⟨u2, hu2, h⟩ := bd_some h
        refine x_cip (rest := []) (r_S C D (c_Mo_low l g hD (S 72 (((8 * a1) + a2) + 1).toNatClampNeg) S u2 hu2) wc_Mo_low wm_Mo_114 wt_Mo_low wd_Mo_low rfl rfl hl (Nat.le_of_ble_eq_true rfl) (by decide) d_Mo_pair_46) D (fun H locs D => ?_)
        refine lv_if_eq hx hb d_Mo_pair_49 rfl (fun z => ?_) (fun z => ?_)
        · replace h := if_t z h
          exact B56 _ _ _ h D (lv_sub hl [] rfl)
        · replace h := if_f z h
          refine lv_iconst (v := 1) hx hb d_Mo_pair_52 (by decide) ?_
          refine lv_goto hx hb d_Mo_pair_53 rfl ?_
          exact x_zrp C D h d_Mo_pair_57
theorem d_Mo_spell_0 : decode b_Mo_spell 0 = .ok (.lload_n 1, 1) := by decide +kernel
theorem d_Mo_spell_1 : decode b_Mo_spell 1 = .ok (.lstore_n 3, 1) := by decide +kernel
theorem d_Mo_spell_2 : decode b_Mo_spell 2 = .ok (.lload_n 3, 1) := by decide +kernel
theorem d_Mo_spell_3 : decode b_Mo_spell 3 = .ok (.lconst 0, 1) := by decide +kernel
theorem d_Mo_spell_4 : decode b_Mo_spell 4 = .ok (.lcmp, 1) := by decide +kernel
theorem d_Mo_spell_5 : decode b_Mo_spell 5 = .ok (.ifCond .eq 21, 3) := by decide +kernel
theorem d_Mo_spell_8 : decode b_Mo_spell 8 = .ok (.aload_n 0, 1) := by decide +kernel
theorem d_Mo_spell_9 : decode b_Mo_spell 9 = .ok (.lload_n 3, 1) := by decide +kernel
theorem d_Mo_spell_10 : decode b_Mo_spell 10 = .ok (.ldc2_w 140, 3) := by decide +kernel
theorem d_Mo_spell_13 : decode b_Mo_spell 13 = .ok (.land, 1) := by decide +kernel
theorem d_Mo_spell_14 : decode b_Mo_spell 14 = .ok (.l2i, 1) := by decide +kernel
theorem d_Mo_spell_15 : decode b_Mo_spell 15 = .ok (.invokevirtual 142, 3) := by decide +kernel
theorem d_Mo_spell_18 : decode b_Mo_spell 18 = .ok (.lload_n 3, 1) := by decide +kernel
theorem d_Mo_spell_19 : decode b_Mo_spell 19 = .ok (.bipush 8, 2) := by decide +kernel
theorem d_Mo_spell_21 : decode b_Mo_spell 21 = .ok (.lushr, 1) := by decide +kernel
theorem d_Mo_spell_22 : decode b_Mo_spell 22 = .ok (.lstore_n 3, 1) := by decide +kernel
theorem d_Mo_spell_23 : decode b_Mo_spell 23 = .ok (.goto (-21), 3) := by decide +kernel
theorem d_Mo_spell_26 : decode b_Mo_spell 26 = .ok (.return_, 1) := by decide +kernel
def f_Mo_spell_2 : Nat → Int64 → zSt → Option zSt
  | 0, _, _ => none
  | n + 1, a3, S => (if (lg_cmp a3 0) = 0 then (some S) else ((f_Mo_put ((a3 &&& (255 : Int64)).toInt32) S).bind fun u1 => ((f_Mo_spell_2 n) (((a3).toUInt64 >>> ((8 : Int32).toInt64.toUInt64 &&& Int64.toUInt64 63)).toInt64) u1)))
def f_Mo_spell (a1 : Int64) (S : zSt) : Option zSt := (f_Mo_spell_2 fu a1 S)
set_option maxHeartbeats 4000000 in
set_option maxRecDepth 100000 in
theorem c_Mo_spell (l : Launch) (g : zG) (hD : GD g) (a1 : Int64) (S : zSt) (u : zSt) (h : f_Mo_spell a1 S = some u) : Met l y_Mo_spell (mw y_Mo_spell b_Mo_spell 5 none) (rmD 1) (Pw g [.ref (ga g 66), .long a1] S) (Qvs g u) 0 0 (gA g) := by
  refine z_go (own := R_Mo) (lv0 := [(0, .ref (ga g 66)), (1, .long a1)]) hD (by decide) rfl (Nat.le_of_ble_eq_true rfl) rfl ?_
  intro p e s m args below meth c C D ls hl
  have hx := C.1
  have hb := C.2.1
  have hown := C.2.2.2.1
  have hts := C.2.2.2.2.1
  have L2 : ∀ (n : Nat) (H : Heap) (locs : List Loc) (S : zSt) (ls : Array Slot) (a3 : Int64), f_Mo_spell_2 n a3 S = some u → Dy g s S H locs → lv_has ls 5 [(0, .ref (ga g 66)), (3, .long a3)] → W p l e (rmD 1) s m args below meth c H locs 0 0 (MQ below (Qvs g u) args s 0 0 (gA g)) (F0 m 2 ls []) := by
    intro n
    induction n with
    | zero => intro H locs S ls a3 h D hl; rw [f_Mo_spell_2] at h; cases h
    | succ n hK2 =>
      intro H locs S ls a3 h D hl
      rw [f_Mo_spell_2] at h
      refine lv_lload_n hx hb d_Mo_spell_2 rfl (lv_at hl 1 rfl) ?_
      refine lv_lconst (v := 0) hx hb d_Mo_spell_3 (by decide) ?_
      refine W.lcmp hx hb d_Mo_spell_4 ?_
      refine lv_if_eq hx hb d_Mo_spell_5 rfl (fun z => ?_) (fun z => ?_)
      · replace h := if_t z h
        exact x_vrs C D h d_Mo_spell_26
      · replace h := if_f z h
        refine lv_aload_n hx hb d_Mo_spell_8 rfl (lv_at hl 0 rfl) ?_
        refine lv_lload_n hx hb d_Mo_spell_9 rfl (lv_at hl 1 rfl) ?_
        refine lv_ldc2 (v := 255) hx hb hown (hts _ wk_Mo_140) d_Mo_spell_10 ?_
        refine lv_land hx hb d_Mo_spell_13 ?_
        refine lv_l2i hx hb d_Mo_spell_14 rfl ?_
        obtain ⟨u1, hu1, h⟩ := bd_some h
        refine x_cvs (rest := []) (r_V C D (c_Mo_put l g hD ((a3 &&& (255 : Int64)).toInt32) S u1 hu1) wc_Mo_put wm_Mo_142 wi_Mo_put wd_Mo_put (by decide) sh_66 kc_Mo.1 rfl rfl hl (Nat.le_of_ble_eq_true rfl) (by decide) d_Mo_spell_15) D (fun H locs D => ?_)
        refine lv_lload_n hx hb d_Mo_spell_18 rfl (lv_at hl 1 rfl) ?_
        refine lv_bipush (v := 8) hx hb d_Mo_spell_19 (by decide) ?_
        refine lv_lushr hx hb d_Mo_spell_21 rfl ?_
        refine lv_lstore_n (lv' := [(3, .long (((a3).toUInt64 >>> ((8 : Int32).toInt64.toUInt64 &&& Int64.toUInt64 63)).toInt64)), (0, .ref (ga g 66))]) hx hb d_Mo_spell_22 rfl hl (by decide) rfl (fun ls hl => ?_)
        refine lv_goto hx hb d_Mo_spell_23 rfl ?_
        exact hK2 _ _ _ _ _ h D (lv_sub hl [1, 0] rfl)
  unfold f_Mo_spell at h
  refine lv_lload_n hx hb d_Mo_spell_0 rfl (lv_at hl 1 rfl) ?_
  refine lv_lstore_n (lv' := [(3, .long a1), (0, .ref (ga g 66)), (1, .long a1)]) hx hb d_Mo_spell_1 rfl hl (by decide) rfl (fun ls hl => ?_)
  exact L2 _ _ _ _ _ _ h D (lv_sub hl [1, 0] rfl)
theorem d_Mo_number_0 : decode b_Mo_number 0 = .ok (.iconst 1, 1) := by decide +kernel
theorem d_Mo_number_1 : decode b_Mo_number 1 = .ok (.istore_n 2, 1) := by decide +kernel
theorem d_Mo_number_2 : decode b_Mo_number 2 = .ok (.iload_n 2, 1) := by decide +kernel
theorem d_Mo_number_3 : decode b_Mo_number 3 = .ok (.iload_n 1, 1) := by decide +kernel
theorem d_Mo_number_4 : decode b_Mo_number 4 = .ok (.bipush 10, 2) := by decide +kernel
theorem d_Mo_number_6 : decode b_Mo_number 6 = .ok (.idiv, 1) := by decide +kernel
theorem d_Mo_number_7 : decode b_Mo_number 7 = .ok (.if_icmp .gt 11, 3) := by decide +kernel
theorem d_Mo_number_10 : decode b_Mo_number 10 = .ok (.iload_n 2, 1) := by decide +kernel
theorem d_Mo_number_11 : decode b_Mo_number 11 = .ok (.bipush 10, 2) := by decide +kernel
theorem d_Mo_number_13 : decode b_Mo_number 13 = .ok (.imul, 1) := by decide +kernel
theorem d_Mo_number_14 : decode b_Mo_number 14 = .ok (.istore_n 2, 1) := by decide +kernel
theorem d_Mo_number_15 : decode b_Mo_number 15 = .ok (.goto (-13), 3) := by decide +kernel
theorem d_Mo_number_18 : decode b_Mo_number 18 = .ok (.iload_n 2, 1) := by decide +kernel
theorem d_Mo_number_19 : decode b_Mo_number 19 = .ok (.ifCond .le 24, 3) := by decide +kernel
theorem d_Mo_number_22 : decode b_Mo_number 22 = .ok (.aload_n 0, 1) := by decide +kernel
theorem d_Mo_number_23 : decode b_Mo_number 23 = .ok (.bipush 48, 2) := by decide +kernel
theorem d_Mo_number_25 : decode b_Mo_number 25 = .ok (.iload_n 1, 1) := by decide +kernel
theorem d_Mo_number_26 : decode b_Mo_number 26 = .ok (.iload_n 2, 1) := by decide +kernel
theorem d_Mo_number_27 : decode b_Mo_number 27 = .ok (.idiv, 1) := by decide +kernel
theorem d_Mo_number_28 : decode b_Mo_number 28 = .ok (.bipush 10, 2) := by decide +kernel
theorem d_Mo_number_30 : decode b_Mo_number 30 = .ok (.irem, 1) := by decide +kernel
theorem d_Mo_number_31 : decode b_Mo_number 31 = .ok (.iadd, 1) := by decide +kernel
theorem d_Mo_number_32 : decode b_Mo_number 32 = .ok (.invokevirtual 142, 3) := by decide +kernel
theorem d_Mo_number_35 : decode b_Mo_number 35 = .ok (.iload_n 2, 1) := by decide +kernel
theorem d_Mo_number_36 : decode b_Mo_number 36 = .ok (.bipush 10, 2) := by decide +kernel
theorem d_Mo_number_38 : decode b_Mo_number 38 = .ok (.idiv, 1) := by decide +kernel
theorem d_Mo_number_39 : decode b_Mo_number 39 = .ok (.istore_n 2, 1) := by decide +kernel
theorem d_Mo_number_40 : decode b_Mo_number 40 = .ok (.goto (-22), 3) := by decide +kernel
theorem d_Mo_number_43 : decode b_Mo_number 43 = .ok (.return_, 1) := by decide +kernel
def f_Mo_number_18 : Nat → Int32 → Int32 → zSt → Option zSt
  | 0, _, _, _ => none
  | n + 1, a1, a2, S => (if a2 ≤ 0 then (some S) else gdz a2 (gdz 10 (((f_Mo_put (48 + ((a1 / a2) - (a1 / a2) / 10 * 10)) S).bind fun u4 => gdz 10 (((f_Mo_number_18 n) a1 (a2 / 10) u4))))))
def f_Mo_number_2 : Nat → Int32 → Int32 → zSt → Option zSt
  | 0, _, _, _ => none
  | n + 1, a1, a2, S => gdz 10 ((if (a1 / 10) < a2 then (f_Mo_number_18 fu a1 a2 S) else ((f_Mo_number_2 n) a1 (a2 * 10) S)))
def f_Mo_number (a1 : Int32) (S : zSt) : Option zSt := (f_Mo_number_2 fu a1 1 S)
set_option maxHeartbeats 4000000 in
set_option maxRecDepth 100000 in
theorem c_Mo_number (l : Launch) (g : zG) (hD : GD g) (a1 : Int32) (S : zSt) (u : zSt) (h : f_Mo_number a1 S = some u) : Met l y_Mo_number (mw y_Mo_number b_Mo_number 3 none) (rmD 1) (Pw g [.ref (ga g 66), .int a1] S) (Qvs g u) 0 0 (gA g) := by
  refine z_go (own := R_Mo) (lv0 := [(0, .ref (ga g 66)), (1, .int a1)]) hD (by decide) rfl (Nat.le_of_ble_eq_true rfl) rfl ?_
  intro p e s m args below meth c C D ls hl
  have hx := C.1
  have hb := C.2.1
  have hown := C.2.2.2.1
  have hts := C.2.2.2.2.1
  have L18 : ∀ (n : Nat) (H : Heap) (locs : List Loc) (S : zSt) (ls : Array Slot) (a1 : Int32) (a2 : Int32), f_Mo_number_18 n a1 a2 S = some u → Dy g s S H locs → lv_has ls 3 [(0, .ref (ga g 66)), (1, .int a1), (2, .int a2)] → W p l e (rmD 1) s m args below meth c H locs 0 0 (MQ below (Qvs g u) args s 0 0 (gA g)) (F0 m 18 ls []) := by
    intro n
    induction n with
    | zero => intro H locs S ls a1 a2 h D hl; rw [f_Mo_number_18] at h; cases h
    | succ n hK18 =>
      intro H locs S ls a1 a2 h D hl
      rw [f_Mo_number_18] at h
      refine lv_iload_n hx hb d_Mo_number_18 rfl (lv_at hl 2 rfl) ?_
      refine lv_if_le hx hb d_Mo_number_19 rfl (fun z => ?_) (fun z => ?_)
      · replace h := if_t z h
        exact x_vrs C D h d_Mo_number_43
      · replace h := if_f z h
        refine lv_aload_n hx hb d_Mo_number_22 rfl (lv_at hl 0 rfl) ?_
        refine lv_bipush (v := 48) hx hb d_Mo_number_23 (by decide) ?_
        refine lv_iload_n hx hb d_Mo_number_25 rfl (lv_at hl 1 rfl) ?_
        refine lv_iload_n hx hb d_Mo_number_26 rfl (lv_at hl 2 rfl) ?_
        obtain ⟨z2, h⟩ := gdz_some h
        refine lv_idiv hx hb d_Mo_number_27 z2 ?_
        refine lv_bipush (v := 10) hx hb d_Mo_number_28 (by decide) ?_
        obtain ⟨z3, h⟩ := gdz_some h
        refine lv_irem hx hb d_Mo_number_30 z3 ?_
        refine lv_iadd hx hb d_Mo_number_31 ?_
        obtain ⟨u4, hu4, h⟩ := bd_some h
        refine x_cvs (rest := []) (r_V C D (c_Mo_put l g hD (48 + ((a1 / a2) - (a1 / a2) / 10 * 10)) S u4 hu4) wc_Mo_put wm_Mo_142 wi_Mo_put wd_Mo_put (by decide) sh_66 kc_Mo.1 rfl rfl hl (Nat.le_of_ble_eq_true rfl) (by decide) d_Mo_number_32) D (fun H locs D => ?_)
        refine lv_iload_n hx hb d_Mo_number_35 rfl (lv_at hl 2 rfl) ?_
        refine lv_bipush (v := 10) hx hb d_Mo_number_36 (by decide) ?_
        obtain ⟨z5, h⟩ := gdz_some h
        refine lv_idiv hx hb d_Mo_number_38 z5 ?_
        refine lv_istore_n (lv' := [(2, .int (a2 / 10)), (0, .ref (ga g 66)), (1, .int a1)]) hx hb d_Mo_number_39 rfl hl (by decide) rfl (fun ls hl => ?_)
        refine lv_goto hx hb d_Mo_number_40 rfl ?_
        exact hK18 _ _ _ _ _ _ h D (lv_sub hl [1, 2, 0] rfl)
  have L2 : ∀ (n : Nat) (H : Heap) (locs : List Loc) (S : zSt) (ls : Array Slot) (a1 : Int32) (a2 : Int32), f_Mo_number_2 n a1 a2 S = some u → Dy g s S H locs → lv_has ls 3 [(0, .ref (ga g 66)), (1, .int a1), (2, .int a2)] → W p l e (rmD 1) s m args below meth c H locs 0 0 (MQ below (Qvs g u) args s 0 0 (gA g)) (F0 m 2 ls []) := by
    intro n
    induction n with
    | zero => intro H locs S ls a1 a2 h D hl; rw [f_Mo_number_2] at h; cases h
    | succ n hK2 =>
      intro H locs S ls a1 a2 h D hl
      rw [f_Mo_number_2] at h
      refine lv_iload_n hx hb d_Mo_number_2 rfl (lv_at hl 2 rfl) ?_
      refine lv_iload_n hx hb d_Mo_number_3 rfl (lv_at hl 1 rfl) ?_
      refine lv_bipush (v := 10) hx hb d_Mo_number_4 (by decide) ?_
      obtain ⟨z1, h⟩ := gdz_some h
      refine lv_idiv hx hb d_Mo_number_6 z1 ?_
      refine lv_icmp_gt hx hb d_Mo_number_7 rfl (fun z => ?_) (fun z => ?_)
      · replace h := if_t z h
        exact L18 _ _ _ _ _ _ _ h D (lv_sub hl [0, 1, 2] rfl)
      · replace h := if_f z h
        refine lv_iload_n hx hb d_Mo_number_10 rfl (lv_at hl 2 rfl) ?_
        refine lv_bipush (v := 10) hx hb d_Mo_number_11 (by decide) ?_
        refine lv_imul hx hb d_Mo_number_13 ?_
        refine lv_istore_n (lv' := [(2, .int (a2 * 10)), (0, .ref (ga g 66)), (1, .int a1)]) hx hb d_Mo_number_14 rfl hl (by decide) rfl (fun ls hl => ?_)
        refine lv_goto hx hb d_Mo_number_15 rfl ?_
        exact hK2 _ _ _ _ _ _ h D (lv_sub hl [1, 2, 0] rfl)
  unfold f_Mo_number at h
  refine lv_iconst (v := 1) hx hb d_Mo_number_0 (by decide) ?_
  refine lv_istore_n (lv' := [(2, .int 1), (0, .ref (ga g 66)), (1, .int a1)]) hx hb d_Mo_number_1 rfl hl (by decide) rfl (fun ls hl => ?_)
  exact L2 _ _ _ _ _ _ _ h D (lv_sub hl [1, 2, 0] rfl)
theorem d_Mo_end_0 : decode b_Mo_end 0 = .ok (.aload_n 0, 1) := by decide +kernel
theorem d_Mo_end_1 : decode b_Mo_end 1 = .ok (.bipush 13, 2) := by decide +kernel
theorem d_Mo_end_3 : decode b_Mo_end 3 = .ok (.invokevirtual 142, 3) := by decide +kernel
theorem d_Mo_end_6 : decode b_Mo_end 6 = .ok (.aload_n 0, 1) := by decide +kernel
theorem d_Mo_end_7 : decode b_Mo_end 7 = .ok (.bipush 10, 2) := by decide +kernel
theorem d_Mo_end_9 : decode b_Mo_end 9 = .ok (.invokevirtual 142, 3) := by decide +kernel
theorem d_Mo_end_12 : decode b_Mo_end 12 = .ok (.return_, 1) := by decide +kernel
def f_Mo_end (S : zSt) : Option zSt := ((f_Mo_put 13 S).bind fun u1 => ((f_Mo_put 10 u1).bind fun u2 => (some u2)))
set_option maxHeartbeats 4000000 in
set_option maxRecDepth 100000 in
theorem c_Mo_end (l : Launch) (g : zG) (hD : GD g) (S : zSt) (u : zSt) (h : f_Mo_end S = some u) : Met l y_Mo_end (mw y_Mo_end b_Mo_end 1 none) (rmD 1) (Pw g [.ref (ga g 66)] S) (Qvs g u) 0 0 (gA g) := by
  refine z_go (own := R_Mo) (lv0 := [(0, .ref (ga g 66))]) hD (by decide) rfl (Nat.le_of_ble_eq_true rfl) rfl ?_
  intro p e s m args below meth c C D ls hl
  have hx := C.1
  have hb := C.2.1
  have hown := C.2.2.2.1
  have hts := C.2.2.2.2.1
  unfold f_Mo_end at h
  refine lv_aload_n hx hb d_Mo_end_0 rfl (lv_at hl 0 rfl) ?_
  refine lv_bipush (v := 13) hx hb d_Mo_end_1 (by decide) ?_
  obtain ⟨u1, hu1, h⟩ := bd_some h
  refine x_cvs (rest := []) (r_V C D (c_Mo_put l g hD 13 S u1 hu1) wc_Mo_put wm_Mo_142 wi_Mo_put wd_Mo_put (by decide) sh_66 kc_Mo.1 rfl rfl hl (Nat.le_of_ble_eq_true rfl) (by decide) d_Mo_end_3) D (fun H locs D => ?_)
  refine lv_aload_n hx hb d_Mo_end_6 rfl (lv_at hl 0 rfl) ?_
  refine lv_bipush (v := 10) hx hb d_Mo_end_7 (by decide) ?_
  obtain ⟨u2, hu2, h⟩ := bd_some h
  refine x_cvs (rest := []) (r_V C D (c_Mo_put l g hD 10 u1 u2 hu2) wc_Mo_put wm_Mo_142 wi_Mo_put wd_Mo_put (by decide) sh_66 kc_Mo.1 rfl rfl hl (Nat.le_of_ble_eq_true rfl) (by decide) d_Mo_end_9) D (fun H locs D => ?_)
  exact x_vrs C D h d_Mo_end_12
theorem d_Mo_hexadecimal_0 : decode b_Mo_hexadecimal 0 = .ok (.aload_n 0, 1) := by decide +kernel
theorem d_Mo_hexadecimal_1 : decode b_Mo_hexadecimal 1 = .ok (.iload_n 1, 1) := by decide +kernel
theorem d_Mo_hexadecimal_2 : decode b_Mo_hexadecimal 2 = .ok (.bipush 10, 2) := by decide +kernel
theorem d_Mo_hexadecimal_4 : decode b_Mo_hexadecimal 4 = .ok (.if_icmp .ge 10, 3) := by decide +kernel
theorem d_Mo_hexadecimal_7 : decode b_Mo_hexadecimal 7 = .ok (.bipush 48, 2) := by decide +kernel
theorem d_Mo_hexadecimal_9 : decode b_Mo_hexadecimal 9 = .ok (.iload_n 1, 1) := by decide +kernel
theorem d_Mo_hexadecimal_10 : decode b_Mo_hexadecimal 10 = .ok (.iadd, 1) := by decide +kernel
theorem d_Mo_hexadecimal_11 : decode b_Mo_hexadecimal 11 = .ok (.goto 7, 3) := by decide +kernel
theorem d_Mo_hexadecimal_14 : decode b_Mo_hexadecimal 14 = .ok (.bipush 55, 2) := by decide +kernel
theorem d_Mo_hexadecimal_16 : decode b_Mo_hexadecimal 16 = .ok (.iload_n 1, 1) := by decide +kernel
theorem d_Mo_hexadecimal_17 : decode b_Mo_hexadecimal 17 = .ok (.iadd, 1) := by decide +kernel
theorem d_Mo_hexadecimal_18 : decode b_Mo_hexadecimal 18 = .ok (.invokevirtual 142, 3) := by decide +kernel
theorem d_Mo_hexadecimal_21 : decode b_Mo_hexadecimal 21 = .ok (.return_, 1) := by decide +kernel
def f_Mo_hexadecimal_18 (t0 : Int32) (S : zSt) : Option zSt := ((f_Mo_put t0 S).bind fun u1 => (some u1))
def f_Mo_hexadecimal (a1 : Int32) (S : zSt) : Option zSt := (if 10 ≤ a1 then (f_Mo_hexadecimal_18 (55 + a1) S) else (f_Mo_hexadecimal_18 (48 + a1) S))
set_option maxHeartbeats 4000000 in
set_option maxRecDepth 100000 in
theorem c_Mo_hexadecimal (l : Launch) (g : zG) (hD : GD g) (a1 : Int32) (S : zSt) (u : zSt) (h : f_Mo_hexadecimal a1 S = some u) : Met l y_Mo_hexadecimal (mw y_Mo_hexadecimal b_Mo_hexadecimal 2 none) (rmD 1) (Pw g [.ref (ga g 66), .int a1] S) (Qvs g u) 0 0 (gA g) := by
  refine z_go (own := R_Mo) (lv0 := [(0, .ref (ga g 66)), (1, .int a1)]) hD (by decide) rfl (Nat.le_of_ble_eq_true rfl) rfl ?_
  intro p e s m args below meth c C D ls hl
  have hx := C.1
  have hb := C.2.1
  have hown := C.2.2.2.1
  have hts := C.2.2.2.2.1
  have B18 : ∀ (H : Heap) (locs : List Loc) (S : zSt) (ls : Array Slot) (t0 : Int32), f_Mo_hexadecimal_18 t0 S = some u → Dy g s S H locs → lv_has ls 2 [] → W p l e (rmD 1) s m args below meth c H locs 0 0 (MQ below (Qvs g u) args s 0 0 (gA g)) (F0 m 18 ls [.int t0, .ref (ga g 66)]) := by
    intro H locs S ls t0 h D hl
    unfold f_Mo_hexadecimal_18 at h
    obtain ⟨u1, hu1, h⟩ := bd_some h
    refine x_cvs (rest := []) (r_V C D (c_Mo_put l g hD t0 S u1 hu1) wc_Mo_put wm_Mo_142 wi_Mo_put wd_Mo_put (by decide) sh_66 kc_Mo.1 rfl rfl hl (Nat.le_of_ble_eq_true rfl) (by decide) d_Mo_hexadecimal_18) D (fun H locs D => ?_)
    exact x_vrs C D h d_Mo_hexadecimal_21
  unfold f_Mo_hexadecimal at h
  refine lv_aload_n hx hb d_Mo_hexadecimal_0 rfl (lv_at hl 0 rfl) ?_
  refine lv_iload_n hx hb d_Mo_hexadecimal_1 rfl (lv_at hl 1 rfl) ?_
  refine lv_bipush (v := 10) hx hb d_Mo_hexadecimal_2 (by decide) ?_
  refine lv_icmp_ge hx hb d_Mo_hexadecimal_4 rfl (fun z => ?_) (fun z => ?_)
  · replace h := if_t z h
    refine lv_bipush (v := 55) hx hb d_Mo_hexadecimal_14 (by decide) ?_
    refine lv_iload_n hx hb d_Mo_hexadecimal_16 rfl (lv_at hl 1 rfl) ?_
    refine lv_iadd hx hb d_Mo_hexadecimal_17 ?_
    exact B18 _ _ _ _ _ h D (lv_sub hl [] rfl)
  · replace h := if_f z h
    refine lv_bipush (v := 48) hx hb d_Mo_hexadecimal_7 (by decide) ?_
    refine lv_iload_n hx hb d_Mo_hexadecimal_9 rfl (lv_at hl 1 rfl) ?_
    refine lv_iadd hx hb d_Mo_hexadecimal_10 ?_
    refine lv_goto hx hb d_Mo_hexadecimal_11 rfl ?_
    exact B18 _ _ _ _ _ h D (lv_sub hl [] rfl)
theorem d_Mo_hex_0 : decode b_Mo_hex 0 = .ok (.iload_n 0, 1) := by decide +kernel
theorem d_Mo_hex_1 : decode b_Mo_hex 1 = .ok (.invokestatic 63, 3) := by decide +kernel
theorem d_Mo_hex_4 : decode b_Mo_hex 4 = .ok (.ifCond .ne 27, 3) := by decide +kernel
theorem d_Mo_hex_7 : decode b_Mo_hex 7 = .ok (.iload_n 0, 1) := by decide +kernel
theorem d_Mo_hex_8 : decode b_Mo_hex 8 = .ok (.bipush 97, 2) := by decide +kernel
theorem d_Mo_hex_10 : decode b_Mo_hex 10 = .ok (.if_icmp .lt 9, 3) := by decide +kernel
theorem d_Mo_hex_13 : decode b_Mo_hex 13 = .ok (.iload_n 0, 1) := by decide +kernel
theorem d_Mo_hex_14 : decode b_Mo_hex 14 = .ok (.bipush 102, 2) := by decide +kernel
theorem d_Mo_hex_16 : decode b_Mo_hex 16 = .ok (.if_icmp .le 15, 3) := by decide +kernel
theorem d_Mo_hex_19 : decode b_Mo_hex 19 = .ok (.iload_n 0, 1) := by decide +kernel
theorem d_Mo_hex_20 : decode b_Mo_hex 20 = .ok (.bipush 65, 2) := by decide +kernel
theorem d_Mo_hex_22 : decode b_Mo_hex 22 = .ok (.if_icmp .lt 13, 3) := by decide +kernel
theorem d_Mo_hex_25 : decode b_Mo_hex 25 = .ok (.iload_n 0, 1) := by decide +kernel
theorem d_Mo_hex_26 : decode b_Mo_hex 26 = .ok (.bipush 70, 2) := by decide +kernel
theorem d_Mo_hex_28 : decode b_Mo_hex 28 = .ok (.if_icmp .gt 7, 3) := by decide +kernel
theorem d_Mo_hex_31 : decode b_Mo_hex 31 = .ok (.iconst 1, 1) := by decide +kernel
theorem d_Mo_hex_32 : decode b_Mo_hex 32 = .ok (.goto 4, 3) := by decide +kernel
theorem d_Mo_hex_35 : decode b_Mo_hex 35 = .ok (.iconst 0, 1) := by decide +kernel
theorem d_Mo_hex_36 : decode b_Mo_hex 36 = .ok (.ireturn, 1) := by decide +kernel
def f_Mo_hex_31 (S : zSt) : Option Int32 := (gdb 1 (some 1))
def f_Mo_hex_35 (S : zSt) : Option Int32 := (gdb 0 (some 0))
def f_Mo_hex_19 (a0 : Int32) (S : zSt) : Option Int32 := (if a0 < 65 then (f_Mo_hex_35 S) else (if 70 < a0 then (f_Mo_hex_35 S) else (f_Mo_hex_31 S)))
def f_Mo_hex (a0 : Int32) (S : zSt) : Option Int32 := ((f_Mo_digit a0 S).bind fun u1 => (if u1 = 0 then (if a0 < 97 then (f_Mo_hex_19 a0 S) else (if a0 ≤ 102 then (f_Mo_hex_31 S) else (f_Mo_hex_19 a0 S))) else (f_Mo_hex_31 S)))
set_option maxHeartbeats 4000000 in
set_option maxRecDepth 100000 in
theorem c_Mo_hex (l : Launch) (g : zG) (hD : GD g) (a0 : Int32) (S : zSt) (u : Int32) (h : f_Mo_hex a0 S = some u) : Met l y_Mo_hex (mw y_Mo_hex b_Mo_hex 1 (some .boolean)) (rmD 1) (Pw g [.int a0] S) (Qip g S u) 0 0 (gA g) := by
  refine z_go (own := R_Mo) (lv0 := [(0, .int a0)]) hD (by decide) rfl (Nat.le_of_ble_eq_true rfl) rfl ?_
  intro p e s m args below meth c C D ls hl
  have hx := C.1
  have hb := C.2.1
  have hown := C.2.2.2.1
  have hts := C.2.2.2.2.1
  have B31 : ∀ (H : Heap) (locs : List Loc) (ls : Array Slot), f_Mo_hex_31 S = some u → Dy g s S H locs → lv_has ls 1 [] → W p l e (rmD 1) s m args below meth c H locs 0 0 (MQ below (Qip g S u) args s 0 0 (gA g)) (F0 m 31 ls []) := by
    intro H locs ls h D hl
    unfold f_Mo_hex_31 at h
    refine lv_iconst (v := 1) hx hb d_Mo_hex_31 (by decide) ?_
    refine lv_goto hx hb d_Mo_hex_32 rfl ?_
    exact x_zrp C D h d_Mo_hex_36
  have B35 : ∀ (H : Heap) (locs : List Loc) (ls : Array Slot), f_Mo_hex_35 S = some u → Dy g s S H locs → lv_has ls 1 [] → W p l e (rmD 1) s m args below meth c H locs 0 0 (MQ below (Qip g S u) args s 0 0 (gA g)) (F0 m 35 ls []) := by
    intro H locs ls h D hl
    unfold f_Mo_hex_35 at h
    refine lv_iconst (v := 0) hx hb d_Mo_hex_35 (by decide) ?_
    exact x_zrp C D h d_Mo_hex_36
  have B19 : ∀ (H : Heap) (locs : List Loc) (ls : Array Slot) (a0 : Int32), f_Mo_hex_19 a0 S = some u → Dy g s S H locs → lv_has ls 1 [(0, .int a0)] → W p l e (rmD 1) s m args below meth c H locs 0 0 (MQ below (Qip g S u) args s 0 0 (gA g)) (F0 m 19 ls []) := by
    intro H locs ls a0 h D hl
    unfold f_Mo_hex_19 at h
    refine lv_iload_n hx hb d_Mo_hex_19 rfl (lv_at hl 0 rfl) ?_
    refine lv_bipush (v := 65) hx hb d_Mo_hex_20 (by decide) ?_
    refine lv_icmp_lt hx hb d_Mo_hex_22 rfl (fun z => ?_) (fun z => ?_)
    · replace h := if_t z h
      exact B35 _ _ _ h D (lv_sub hl [] rfl)
    · replace h := if_f z h
      refine lv_iload_n hx hb d_Mo_hex_25 rfl (lv_at hl 0 rfl) ?_
      refine lv_bipush (v := 70) hx hb d_Mo_hex_26 (by decide) ?_
      refine lv_icmp_gt hx hb d_Mo_hex_28 rfl (fun z => ?_) (fun z => ?_)
      · replace h := if_t z h
        exact B35 _ _ _ h D (lv_sub hl [] rfl)
      · replace h := if_f z h
        exact B31 _ _ _ h D (lv_sub hl [] rfl)
  unfold f_Mo_hex at h
  refine lv_iload_n hx hb d_Mo_hex_0 rfl (lv_at hl 0 rfl) ?_
  obtain ⟨u1, hu1, h⟩ := bd_some h
  refine x_cip (rest := []) (r_S C D (c_Mo_digit l g hD a0 S u1 hu1) wc_Mo_digit wm_Mo_63 wt_Mo_digit wd_Mo_digit rfl rfl hl (Nat.le_of_ble_eq_true rfl) (by decide) d_Mo_hex_1) D (fun H locs D => ?_)
  refine lv_if_ne hx hb d_Mo_hex_4 rfl (fun z => ?_) (fun z => ?_)
  · replace h := if_f z h
    exact B31 _ _ _ h D (lv_sub hl [] rfl)
  · replace h := if_t z h
    refine lv_iload_n hx hb d_Mo_hex_7 rfl (lv_at hl 0 rfl) ?_
    refine lv_bipush (v := 97) hx hb d_Mo_hex_8 (by decide) ?_
    refine lv_icmp_lt hx hb d_Mo_hex_10 rfl (fun z => ?_) (fun z => ?_)
    · replace h := if_t z h
      exact B19 _ _ _ _ h D (lv_sub hl [0] rfl)
    · replace h := if_f z h
      refine lv_iload_n hx hb d_Mo_hex_13 rfl (lv_at hl 0 rfl) ?_
      refine lv_bipush (v := 102) hx hb d_Mo_hex_14 (by decide) ?_
      refine lv_icmp_le hx hb d_Mo_hex_16 rfl (fun z => ?_) (fun z => ?_)
      · replace h := if_t z h
        exact B31 _ _ _ h D (lv_sub hl [] rfl)
      · replace h := if_f z h
        exact B19 _ _ _ _ h D (lv_sub hl [0] rfl)
theorem d_Mo_between_0 : decode b_Mo_between 0 = .ok (.aload_n 0, 1) := by decide +kernel
theorem d_Mo_between_1 : decode b_Mo_between 1 = .ok (.iload_n 1, 1) := by decide +kernel
theorem d_Mo_between_2 : decode b_Mo_between 2 = .ok (.ifCond .eq 9, 3) := by decide +kernel
theorem d_Mo_between_5 : decode b_Mo_between 5 = .ok (.iload_n 1, 1) := by decide +kernel
theorem d_Mo_between_6 : decode b_Mo_between 6 = .ok (.bipush 43, 2) := by decide +kernel
theorem d_Mo_between_8 : decode b_Mo_between 8 = .ok (.if_icmp .ne 8, 3) := by decide +kernel
theorem d_Mo_between_11 : decode b_Mo_between 11 = .ok (.bipush 44, 2) := by decide +kernel
theorem d_Mo_between_13 : decode b_Mo_between 13 = .ok (.goto 15, 3) := by decide +kernel
theorem d_Mo_between_16 : decode b_Mo_between 16 = .ok (.iload_n 1, 1) := by decide +kernel
theorem d_Mo_between_17 : decode b_Mo_between 17 = .ok (.bipush 63, 2) := by decide +kernel
theorem d_Mo_between_19 : decode b_Mo_between 19 = .ok (.if_icmp .ne 8, 3) := by decide +kernel
theorem d_Mo_between_22 : decode b_Mo_between 22 = .ok (.bipush 38, 2) := by decide +kernel
theorem d_Mo_between_24 : decode b_Mo_between 24 = .ok (.goto 4, 3) := by decide +kernel
theorem d_Mo_between_27 : decode b_Mo_between 27 = .ok (.iload_n 1, 1) := by decide +kernel
theorem d_Mo_between_28 : decode b_Mo_between 28 = .ok (.invokevirtual 142, 3) := by decide +kernel
theorem d_Mo_between_31 : decode b_Mo_between 31 = .ok (.return_, 1) := by decide +kernel
def f_Mo_between_28 (t0 : Int32) (S : zSt) : Option zSt := ((f_Mo_put t0 S).bind fun u1 => (some u1))
def f_Mo_between_11 (S : zSt) : Option zSt := (f_Mo_between_28 44 S)
def f_Mo_between (a1 : Int32) (S : zSt) : Option zSt := (if a1 = 0 then (f_Mo_between_11 S) else (if a1 = 43 then (f_Mo_between_11 S) else (if a1 = 63 then (f_Mo_between_28 38 S) else (f_Mo_between_28 a1 S))))
set_option maxHeartbeats 4000000 in
set_option maxRecDepth 100000 in
theorem c_Mo_between (l : Launch) (g : zG) (hD : GD g) (a1 : Int32) (S : zSt) (u : zSt) (h : f_Mo_between a1 S = some u) : Met l y_Mo_between (mw y_Mo_between b_Mo_between 2 none) (rmD 1) (Pw g [.ref (ga g 66), .int a1] S) (Qvs g u) 0 0 (gA g) := by
  refine z_go (own := R_Mo) (lv0 := [(0, .ref (ga g 66)), (1, .int a1)]) hD (by decide) rfl (Nat.le_of_ble_eq_true rfl) rfl ?_
  intro p e s m args below meth c C D ls hl
  have hx := C.1
  have hb := C.2.1
  have hown := C.2.2.2.1
  have hts := C.2.2.2.2.1
  have B28 : ∀ (H : Heap) (locs : List Loc) (S : zSt) (ls : Array Slot) (t0 : Int32), f_Mo_between_28 t0 S = some u → Dy g s S H locs → lv_has ls 2 [] → W p l e (rmD 1) s m args below meth c H locs 0 0 (MQ below (Qvs g u) args s 0 0 (gA g)) (F0 m 28 ls [.int t0, .ref (ga g 66)]) := by
    intro H locs S ls t0 h D hl
    unfold f_Mo_between_28 at h
    obtain ⟨u1, hu1, h⟩ := bd_some h
    refine x_cvs (rest := []) (r_V C D (c_Mo_put l g hD t0 S u1 hu1) wc_Mo_put wm_Mo_142 wi_Mo_put wd_Mo_put (by decide) sh_66 kc_Mo.1 rfl rfl hl (Nat.le_of_ble_eq_true rfl) (by decide) d_Mo_between_28) D (fun H locs D => ?_)
    exact x_vrs C D h d_Mo_between_31
  have B11 : ∀ (H : Heap) (locs : List Loc) (S : zSt) (ls : Array Slot), f_Mo_between_11 S = some u → Dy g s S H locs → lv_has ls 2 [] → W p l e (rmD 1) s m args below meth c H locs 0 0 (MQ below (Qvs g u) args s 0 0 (gA g)) (F0 m 11 ls [.ref (ga g 66)]) := by
    intro H locs S ls h D hl
    unfold f_Mo_between_11 at h
    refine lv_bipush (v := 44) hx hb d_Mo_between_11 (by decide) ?_
    refine lv_goto hx hb d_Mo_between_13 rfl ?_
    exact B28 _ _ _ _ _ h D (lv_sub hl [] rfl)
  unfold f_Mo_between at h
  refine lv_aload_n hx hb d_Mo_between_0 rfl (lv_at hl 0 rfl) ?_
  refine lv_iload_n hx hb d_Mo_between_1 rfl (lv_at hl 1 rfl) ?_
  refine lv_if_eq hx hb d_Mo_between_2 rfl (fun z => ?_) (fun z => ?_)
  · replace h := if_t z h
    exact B11 _ _ _ _ h D (lv_sub hl [] rfl)
  · replace h := if_f z h
    refine lv_iload_n hx hb d_Mo_between_5 rfl (lv_at hl 1 rfl) ?_
    refine lv_bipush (v := 43) hx hb d_Mo_between_6 (by decide) ?_
    refine lv_icmp_ne hx hb d_Mo_between_8 rfl (fun z => ?_) (fun z => ?_)
    · replace h := if_f z h
      refine lv_iload_n hx hb d_Mo_between_16 rfl (lv_at hl 1 rfl) ?_
      refine lv_bipush (v := 63) hx hb d_Mo_between_17 (by decide) ?_
      refine lv_icmp_ne hx hb d_Mo_between_19 rfl (fun z => ?_) (fun z => ?_)
      · replace h := if_f z h
        refine lv_iload_n hx hb d_Mo_between_27 rfl (lv_at hl 1 rfl) ?_
        exact B28 _ _ _ _ _ h D (lv_sub hl [] rfl)
      · replace h := if_t z h
        refine lv_bipush (v := 38) hx hb d_Mo_between_22 (by decide) ?_
        refine lv_goto hx hb d_Mo_between_24 rfl ?_
        exact B28 _ _ _ _ _ h D (lv_sub hl [] rfl)
    · replace h := if_t z h
      exact B11 _ _ _ _ h D (lv_sub hl [] rfl)
theorem d_Mo_spelt_0 : decode b_Mo_spelt 0 = .ok (.iconst 0, 1) := by decide +kernel
theorem d_Mo_spelt_1 : decode b_Mo_spelt 1 = .ok (.istore 9, 2) := by decide +kernel
theorem d_Mo_spelt_3 : decode b_Mo_spelt 3 = .ok (.iconst 1, 1) := by decide +kernel
theorem d_Mo_spelt_4 : decode b_Mo_spelt 4 = .ok (.istore 10, 2) := by decide +kernel
theorem d_Mo_spelt_6 : decode b_Mo_spelt 6 = .ok (.iconst 0, 1) := by decide +kernel
theorem d_Mo_spelt_7 : decode b_Mo_spelt 7 = .ok (.istore 11, 2) := by decide +kernel
theorem d_Mo_spelt_9 : decode b_Mo_spelt 9 = .ok (.iload 11, 2) := by decide +kernel
theorem d_Mo_spelt_11 : decode b_Mo_spelt 11 = .ok (.iconst 3, 1) := by decide +kernel
theorem d_Mo_spelt_12 : decode b_Mo_spelt 12 = .ok (.if_icmp .ge 95, 3) := by decide +kernel
theorem d_Mo_spelt_15 : decode b_Mo_spelt 15 = .ok (.iload 11, 2) := by decide +kernel
theorem d_Mo_spelt_17 : decode b_Mo_spelt 17 = .ok (.ifCond .ne 7, 3) := by decide +kernel
theorem d_Mo_spelt_20 : decode b_Mo_spelt 20 = .ok (.lload_n 3, 1) := by decide +kernel
theorem d_Mo_spelt_21 : decode b_Mo_spelt 21 = .ok (.goto 16, 3) := by decide +kernel
theorem d_Mo_spelt_24 : decode b_Mo_spelt 24 = .ok (.iload 11, 2) := by decide +kernel
theorem d_Mo_spelt_26 : decode b_Mo_spelt 26 = .ok (.iconst 1, 1) := by decide +kernel
theorem d_Mo_spelt_27 : decode b_Mo_spelt 27 = .ok (.if_icmp .ne 8, 3) := by decide +kernel
theorem d_Mo_spelt_30 : decode b_Mo_spelt 30 = .ok (.lload 5, 2) := by decide +kernel
theorem d_Mo_spelt_32 : decode b_Mo_spelt 32 = .ok (.goto 5, 3) := by decide +kernel
theorem d_Mo_spelt_35 : decode b_Mo_spelt 35 = .ok (.lload 7, 2) := by decide +kernel
theorem d_Mo_spelt_37 : decode b_Mo_spelt 37 = .ok (.lstore 12, 2) := by decide +kernel
theorem d_Mo_spelt_39 : decode b_Mo_spelt 39 = .ok (.lload 12, 2) := by decide +kernel
theorem d_Mo_spelt_41 : decode b_Mo_spelt 41 = .ok (.lconst 0, 1) := by decide +kernel
theorem d_Mo_spelt_42 : decode b_Mo_spelt 42 = .ok (.lcmp, 1) := by decide +kernel
theorem d_Mo_spelt_43 : decode b_Mo_spelt 43 = .ok (.ifCond .eq 58, 3) := by decide +kernel
theorem d_Mo_spelt_46 : decode b_Mo_spelt 46 = .ok (.iload 10, 2) := by decide +kernel
theorem d_Mo_spelt_48 : decode b_Mo_spelt 48 = .ok (.ifCond .eq 37, 3) := by decide +kernel
theorem d_Mo_spelt_51 : decode b_Mo_spelt 51 = .ok (.iload_n 1, 1) := by decide +kernel
theorem d_Mo_spelt_52 : decode b_Mo_spelt 52 = .ok (.iload 9, 2) := by decide +kernel
theorem d_Mo_spelt_54 : decode b_Mo_spelt 54 = .ok (.iadd, 1) := by decide +kernel
theorem d_Mo_spelt_55 : decode b_Mo_spelt 55 = .ok (.iload_n 2, 1) := by decide +kernel
theorem d_Mo_spelt_56 : decode b_Mo_spelt 56 = .ok (.if_icmp .ge 29, 3) := by decide +kernel
theorem d_Mo_spelt_59 : decode b_Mo_spelt 59 = .ok (.aload_n 0, 1) := by decide +kernel
theorem d_Mo_spelt_60 : decode b_Mo_spelt 60 = .ok (.getfield 37, 3) := by decide +kernel
theorem d_Mo_spelt_63 : decode b_Mo_spelt 63 = .ok (.iload_n 1, 1) := by decide +kernel
theorem d_Mo_spelt_64 : decode b_Mo_spelt 64 = .ok (.iload 9, 2) := by decide +kernel
theorem d_Mo_spelt_66 : decode b_Mo_spelt 66 = .ok (.iadd, 1) := by decide +kernel
theorem d_Mo_spelt_67 : decode b_Mo_spelt 67 = .ok (.iaload, 1) := by decide +kernel
theorem d_Mo_spelt_68 : decode b_Mo_spelt 68 = .ok (.invokestatic 240, 3) := by decide +kernel
theorem d_Mo_spelt_71 : decode b_Mo_spelt 71 = .ok (.lload 12, 2) := by decide +kernel
theorem d_Mo_spelt_73 : decode b_Mo_spelt 73 = .ok (.ldc2_w 140, 3) := by decide +kernel
theorem d_Mo_spelt_76 : decode b_Mo_spelt 76 = .ok (.land, 1) := by decide +kernel
theorem d_Mo_spelt_77 : decode b_Mo_spelt 77 = .ok (.l2i, 1) := by decide +kernel
theorem d_Mo_spelt_78 : decode b_Mo_spelt 78 = .ok (.if_icmp .ne 7, 3) := by decide +kernel
theorem d_Mo_spelt_81 : decode b_Mo_spelt 81 = .ok (.iconst 1, 1) := by decide +kernel
theorem d_Mo_spelt_82 : decode b_Mo_spelt 82 = .ok (.goto 4, 3) := by decide +kernel
theorem d_Mo_spelt_85 : decode b_Mo_spelt 85 = .ok (.iconst 0, 1) := by decide +kernel
theorem d_Mo_spelt_86 : decode b_Mo_spelt 86 = .ok (.istore 10, 2) := by decide +kernel
theorem d_Mo_spelt_88 : decode b_Mo_spelt 88 = .ok (.iinc 9 1, 3) := by decide +kernel
theorem d_Mo_spelt_91 : decode b_Mo_spelt 91 = .ok (.lload 12, 2) := by decide +kernel
theorem d_Mo_spelt_93 : decode b_Mo_spelt 93 = .ok (.bipush 8, 2) := by decide +kernel
theorem d_Mo_spelt_95 : decode b_Mo_spelt 95 = .ok (.lushr, 1) := by decide +kernel
theorem d_Mo_spelt_96 : decode b_Mo_spelt 96 = .ok (.lstore 12, 2) := by decide +kernel
theorem d_Mo_spelt_98 : decode b_Mo_spelt 98 = .ok (.goto (-59), 3) := by decide +kernel
theorem d_Mo_spelt_101 : decode b_Mo_spelt 101 = .ok (.iinc 11 1, 3) := by decide +kernel
theorem d_Mo_spelt_104 : decode b_Mo_spelt 104 = .ok (.goto (-95), 3) := by decide +kernel
theorem d_Mo_spelt_107 : decode b_Mo_spelt 107 = .ok (.iload 10, 2) := by decide +kernel
theorem d_Mo_spelt_109 : decode b_Mo_spelt 109 = .ok (.ifCond .eq 15, 3) := by decide +kernel
theorem d_Mo_spelt_112 : decode b_Mo_spelt 112 = .ok (.iload 9, 2) := by decide +kernel
theorem d_Mo_spelt_114 : decode b_Mo_spelt 114 = .ok (.iload_n 2, 1) := by decide +kernel
theorem d_Mo_spelt_115 : decode b_Mo_spelt 115 = .ok (.iload_n 1, 1) := by decide +kernel
theorem d_Mo_spelt_116 : decode b_Mo_spelt 116 = .ok (.isub, 1) := by decide +kernel
theorem d_Mo_spelt_117 : decode b_Mo_spelt 117 = .ok (.if_icmp .ne 7, 3) := by decide +kernel
theorem d_Mo_spelt_120 : decode b_Mo_spelt 120 = .ok (.iconst 1, 1) := by decide +kernel
theorem d_Mo_spelt_121 : decode b_Mo_spelt 121 = .ok (.goto 4, 3) := by decide +kernel
theorem d_Mo_spelt_124 : decode b_Mo_spelt 124 = .ok (.iconst 0, 1) := by decide +kernel
theorem d_Mo_spelt_125 : decode b_Mo_spelt 125 = .ok (.ireturn, 1) := by decide +kernel
def f_Mo_spelt_124 (S : zSt) : Option Int32 := (gdb 0 (some 0))
def f_Mo_spelt_86 (K9 : Int32 → Int32 → Int64 → Int64 → Int64 → Int32 → Int32 → Int32 → zSt → Option Int32) (K39 : Int32 → Int32 → Int64 → Int64 → Int64 → Int32 → Int32 → Int32 → Int64 → zSt → Option Int32) (a1 : Int32) (a2 : Int32) (a3 : Int64) (a5 : Int64) (a7 : Int64) (a9 : Int32) (a11 : Int32) (a12 : Int64) (t0 : Int32) (S : zSt) : Option Int32 := (K39 a1 a2 a3 a5 a7 (a9 + 1) t0 a11 (((a12).toUInt64 >>> ((8 : Int32).toInt64.toUInt64 &&& Int64.toUInt64 63)).toInt64) S)
def f_Mo_spelt_85 (K9 : Int32 → Int32 → Int64 → Int64 → Int64 → Int32 → Int32 → Int32 → zSt → Option Int32) (K39 : Int32 → Int32 → Int64 → Int64 → Int64 → Int32 → Int32 → Int32 → Int64 → zSt → Option Int32) (a1 : Int32) (a2 : Int32) (a3 : Int64) (a5 : Int64) (a7 : Int64) (a9 : Int32) (a11 : Int32) (a12 : Int64) (S : zSt) : Option Int32 := (f_Mo_spelt_86 K9 K39 a1 a2 a3 a5 a7 a9 a11 a12 0 S)
def f_Mo_spelt_39 (K9 : Int32 → Int32 → Int64 → Int64 → Int64 → Int32 → Int32 → Int32 → zSt → Option Int32) : Nat → Int32 → Int32 → Int64 → Int64 → Int64 → Int32 → Int32 → Int32 → Int64 → zSt → Option Int32
  | 0, _, _, _, _, _, _, _, _, _, _ => none
  | n + 1, a1, a2, a3, a5, a7, a9, a10, a11, a12, S => (if (lg_cmp a12 0) = 0 then (K9 a1 a2 a3 a5 a7 a9 a10 (a11 + 1) S) else (if a10 = 0 then (f_Mo_spelt_85 K9 (f_Mo_spelt_39 K9 n) a1 a2 a3 a5 a7 a9 a11 a12 S) else (if a2 ≤ (a1 + a9) then (f_Mo_spelt_85 K9 (f_Mo_spelt_39 K9 n) a1 a2 a3 a5 a7 a9 a11 a12 S) else gdi (a1 + a9) 520 (((f_Mo_lower (S 76 (a1 + a9).toNatClampNeg) S).bind fun u1 => (if u1 = ((a12 &&& (255 : Int64)).toInt32) then (f_Mo_spelt_86 K9 (f_Mo_spelt_39 K9 n) a1 a2 a3 a5 a7 a9 a11 a12 1 S) else (f_Mo_spelt_85 K9 (f_Mo_spelt_39 K9 n) a1 a2 a3 a5 a7 a9 a11 a12 S)))))))
def f_Mo_spelt_37 (K9 : Int32 → Int32 → Int64 → Int64 → Int64 → Int32 → Int32 → Int32 → zSt → Option Int32) (a1 : Int32) (a2 : Int32) (a3 : Int64) (a5 : Int64) (a7 : Int64) (a9 : Int32) (a10 : Int32) (a11 : Int32) (t0 : Int64) (S : zSt) : Option Int32 := (f_Mo_spelt_39 K9 fu a1 a2 a3 a5 a7 a9 a10 a11 t0 S)
def f_Mo_spelt_9 : Nat → Int32 → Int32 → Int64 → Int64 → Int64 → Int32 → Int32 → Int32 → zSt → Option Int32
  | 0, _, _, _, _, _, _, _, _, _ => none
  | n + 1, a1, a2, a3, a5, a7, a9, a10, a11, S => (if 3 ≤ a11 then (if a10 = 0 then (f_Mo_spelt_124 S) else (if a9 = (a2 - a1) then (gdb 1 (some 1)) else (f_Mo_spelt_124 S))) else (if a11 = 0 then (f_Mo_spelt_37 (f_Mo_spelt_9 n) a1 a2 a3 a5 a7 a9 a10 a11 a3 S) else (if a11 = 1 then (f_Mo_spelt_37 (f_Mo_spelt_9 n) a1 a2 a3 a5 a7 a9 a10 a11 a5 S) else (f_Mo_spelt_37 (f_Mo_spelt_9 n) a1 a2 a3 a5 a7 a9 a10 a11 a7 S))))
def f_Mo_spelt (a1 : Int32) (a2 : Int32) (a3 : Int64) (a5 : Int64) (a7 : Int64) (S : zSt) : Option Int32 := (f_Mo_spelt_9 fu a1 a2 a3 a5 a7 0 1 0 S)
set_option maxHeartbeats 4000000 in
set_option maxRecDepth 100000 in
theorem c_Mo_spelt (l : Launch) (g : zG) (hD : GD g) (a1 : Int32) (a2 : Int32) (a3 : Int64) (a5 : Int64) (a7 : Int64) (S : zSt) (u : Int32) (h : f_Mo_spelt a1 a2 a3 a5 a7 S = some u) : Met l y_Mo_spelt (mw y_Mo_spelt b_Mo_spelt 14 (some .boolean)) (rmD 1) (Pw g [.ref (ga g 66), .int a1, .int a2, .long a3, .long a5, .long a7] S) (Qip g S u) 0 0 (gA g) := by
  refine z_go (own := R_Mo) (lv0 := [(0, .ref (ga g 66)), (1, .int a1), (2, .int a2), (3, .long a3), (5, .long a5), (7, .long a7)]) hD (by decide) rfl (Nat.le_of_ble_eq_true rfl) rfl ?_
  intro p e s m args below meth c C D ls hl
  have hx := C.1
  have hb := C.2.1
  have hown := C.2.2.2.1
  have hts := C.2.2.2.2.1
  have B124 : ∀ (H : Heap) (locs : List Loc) (ls : Array Slot), f_Mo_spelt_124 S = some u → Dy g s S H locs → lv_has ls 14 [] → W p l e (rmD 1) s m args below meth c H locs 0 0 (MQ below (Qip g S u) args s 0 0 (gA g)) (F0 m 124 ls []) := by
    intro H locs ls h D hl
    unfold f_Mo_spelt_124 at h
    refine lv_iconst (v := 0) hx hb d_Mo_spelt_124 (by decide) ?_
    exact x_zrp C D h d_Mo_spelt_125
  have B86 : ∀ (K9 : Int32 → Int32 → Int64 → Int64 → Int64 → Int32 → Int32 → Int32 → zSt → Option Int32) (hK9 : ∀ (H : Heap) (locs : List Loc) (ls : Array Slot) (a1 : Int32) (a2 : Int32) (a3 : Int64) (a5 : Int64) (a7 : Int64) (a9 : Int32) (a10 : Int32) (a11 : Int32), K9 a1 a2 a3 a5 a7 a9 a10 a11 S = some u → Dy g s S H locs → lv_has ls 14 [(0, .ref (ga g 66)), (1, .int a1), (2, .int a2), (3, .long a3), (5, .long a5), (7, .long a7), (9, .int a9), (10, .int a10), (11, .int a11)] → W p l e (rmD 1) s m args below meth c H locs 0 0 (MQ below (Qip g S u) args s 0 0 (gA g)) (F0 m 9 ls [])) (K39 : Int32 → Int32 → Int64 → Int64 → Int64 → Int32 → Int32 → Int32 → Int64 → zSt → Option Int32) (hK39 : ∀ (H : Heap) (locs : List Loc) (ls : Array Slot) (a1 : Int32) (a2 : Int32) (a3 : Int64) (a5 : Int64) (a7 : Int64) (a9 : Int32) (a10 : Int32) (a11 : Int32) (a12 : Int64), K39 a1 a2 a3 a5 a7 a9 a10 a11 a12 S = some u → Dy g s S H locs → lv_has ls 14 [(0, .ref (ga g 66)), (1, .int a1), (2, .int a2), (3, .long a3), (5, .long a5), (7, .long a7), (9, .int a9), (10, .int a10), (11, .int a11), (12, .long a12)] → W p l e (rmD 1) s m args below meth c H locs 0 0 (MQ below (Qip g S u) args s 0 0 (gA g)) (F0 m 39 ls [])) (H : Heap) (locs : List Loc) (ls : Array Slot) (a1 : Int32) (a2 : Int32) (a3 : Int64) (a5 : Int64) (a7 : Int64) (a9 : Int32) (a11 : Int32) (a12 : Int64) (t0 : Int32), f_Mo_spelt_86 K9 K39 a1 a2 a3 a5 a7 a9 a11 a12 t0 S = some u → Dy g s S H locs → lv_has ls 14 [(0, .ref (ga g 66)), (1, .int a1), (2, .int a2), (3, .long a3), (5, .long a5), (7, .long a7), (9, .int a9), (11, .int a11), (12, .long a12)] → W p l e (rmD 1) s m args below meth c H locs 0 0 (MQ below (Qip g S u) args s 0 0 (gA g)) (F0 m 86 ls [.int t0]) := by
    intro K9 hK9 K39 hK39 H locs ls a1 a2 a3 a5 a7 a9 a11 a12 t0 h D hl
    unfold f_Mo_spelt_86 at h
    refine lv_istore (lv' := [(10, .int t0), (0, .ref (ga g 66)), (1, .int a1), (2, .int a2), (3, .long a3), (5, .long a5), (7, .long a7), (9, .int a9), (11, .int a11), (12, .long a12)]) hx hb d_Mo_spelt_86 hl (by decide) rfl (fun ls hl => ?_)
    refine lv_iinc (k := 7) (lv' := [(9, .int (a9 + 1)), (10, .int t0), (0, .ref (ga g 66)), (1, .int a1), (2, .int a2), (3, .long a3), (5, .long a5), (7, .long a7), (11, .int a11), (12, .long a12)]) hx hb d_Mo_spelt_88 hl rfl (ii1 _) (by decide) rfl (fun ls hl => ?_)
    refine lv_lload hx hb d_Mo_spelt_91 (lv_at hl 9 rfl) ?_
    refine lv_bipush (v := 8) hx hb d_Mo_spelt_93 (by decide) ?_
    refine lv_lushr hx hb d_Mo_spelt_95 rfl ?_
    refine lv_lstore (lv' := [(12, .long (((a12).toUInt64 >>> ((8 : Int32).toInt64.toUInt64 &&& Int64.toUInt64 63)).toInt64)), (9, .int (a9 + 1)), (10, .int t0), (0, .ref (ga g 66)), (1, .int a1), (2, .int a2), (3, .long a3), (5, .long a5), (7, .long a7), (11, .int a11)]) hx hb d_Mo_spelt_96 hl (by decide) rfl (fun ls hl => ?_)
    refine lv_goto hx hb d_Mo_spelt_98 rfl ?_
    exact hK39 _ _ _ _ _ _ _ _ _ _ _ _ h D (lv_sub hl [3, 4, 5, 6, 7, 8, 1, 2, 9, 0] rfl)
  have B85 : ∀ (K9 : Int32 → Int32 → Int64 → Int64 → Int64 → Int32 → Int32 → Int32 → zSt → Option Int32) (hK9 : ∀ (H : Heap) (locs : List Loc) (ls : Array Slot) (a1 : Int32) (a2 : Int32) (a3 : Int64) (a5 : Int64) (a7 : Int64) (a9 : Int32) (a10 : Int32) (a11 : Int32), K9 a1 a2 a3 a5 a7 a9 a10 a11 S = some u → Dy g s S H locs → lv_has ls 14 [(0, .ref (ga g 66)), (1, .int a1), (2, .int a2), (3, .long a3), (5, .long a5), (7, .long a7), (9, .int a9), (10, .int a10), (11, .int a11)] → W p l e (rmD 1) s m args below meth c H locs 0 0 (MQ below (Qip g S u) args s 0 0 (gA g)) (F0 m 9 ls [])) (K39 : Int32 → Int32 → Int64 → Int64 → Int64 → Int32 → Int32 → Int32 → Int64 → zSt → Option Int32) (hK39 : ∀ (H : Heap) (locs : List Loc) (ls : Array Slot) (a1 : Int32) (a2 : Int32) (a3 : Int64) (a5 : Int64) (a7 : Int64) (a9 : Int32) (a10 : Int32) (a11 : Int32) (a12 : Int64), K39 a1 a2 a3 a5 a7 a9 a10 a11 a12 S = some u → Dy g s S H locs → lv_has ls 14 [(0, .ref (ga g 66)), (1, .int a1), (2, .int a2), (3, .long a3), (5, .long a5), (7, .long a7), (9, .int a9), (10, .int a10), (11, .int a11), (12, .long a12)] → W p l e (rmD 1) s m args below meth c H locs 0 0 (MQ below (Qip g S u) args s 0 0 (gA g)) (F0 m 39 ls [])) (H : Heap) (locs : List Loc) (ls : Array Slot) (a1 : Int32) (a2 : Int32) (a3 : Int64) (a5 : Int64) (a7 : Int64) (a9 : Int32) (a11 : Int32) (a12 : Int64), f_Mo_spelt_85 K9 K39 a1 a2 a3 a5 a7 a9 a11 a12 S = some u → Dy g s S H locs → lv_has ls 14 [(0, .ref (ga g 66)), (1, .int a1), (2, .int a2), (3, .long a3), (5, .long a5), (7, .long a7), (9, .int a9), (11, .int a11), (12, .long a12)] → W p l e (rmD 1) s m args below meth c H locs 0 0 (MQ below (Qip g S u) args s 0 0 (gA g)) (F0 m 85 ls []) := by
    intro K9 hK9 K39 hK39 H locs ls a1 a2 a3 a5 a7 a9 a11 a12 h D hl
    unfold f_Mo_spelt_85 at h
    refine lv_iconst (v := 0) hx hb d_Mo_spelt_85 (by decide) ?_
    exact B86 _ hK9 _ hK39 _ _ _ _ _ _ _ _ _ _ _ _ h D (lv_sub hl [0, 1, 2, 3, 4, 5, 6, 7, 8] rfl)
  have L39 : ∀ (K9 : Int32 → Int32 → Int64 → Int64 → Int64 → Int32 → Int32 → Int32 → zSt → Option Int32) (hK9 : ∀ (H : Heap) (locs : List Loc) (ls : Array Slot) (a1 : Int32) (a2 : Int32) (a3 : Int64) (a5 : Int64) (a7 : Int64) (a9 : Int32) (a10 : Int32) (a11 : Int32), K9 a1 a2 a3 a5 a7 a9 a10 a11 S = some u → Dy g s S H locs → lv_has ls 14 [(0, .ref (ga g 66)), (1, .int a1), (2, .int a2), (3, .long a3), (5, .long a5), (7, .long a7), (9, .int a9), (10, .int a10), (11, .int a11)] → W p l e (rmD 1) s m args below meth c H locs 0 0 (MQ below (Qip g S u) args s 0 0 (gA g)) (F0 m 9 ls [])) (n : Nat) (H : Heap) (locs : List Loc) (ls : Array Slot) (a1 : Int32) (a2 : Int32) (a3 : Int64) (a5 : Int64) (a7 : Int64) (a9 : Int32) (a10 : Int32) (a11 : Int32) (a12 : Int64), f_Mo_spelt_39 K9 n a1 a2 a3 a5 a7 a9 a10 a11 a12 S = some u → Dy g s S H locs → lv_has ls 14 [(0, .ref (ga g 66)), (1, .int a1), (2, .int a2), (3, .long a3), (5, .long a5), (7, .long a7), (9, .int a9), (10, .int a10), (11, .int a11), (12, .long a12)] → W p l e (rmD 1) s m args below meth c H locs 0 0 (MQ below (Qip g S u) args s 0 0 (gA g)) (F0 m 39 ls []) := by
    intro K9 hK9 n
    induction n with
    | zero => intro H locs ls a1 a2 a3 a5 a7 a9 a10 a11 a12 h D hl; rw [f_Mo_spelt_39] at h; cases h
    | succ n hK39 =>
      intro H locs ls a1 a2 a3 a5 a7 a9 a10 a11 a12 h D hl
      rw [f_Mo_spelt_39] at h
      refine lv_lload hx hb d_Mo_spelt_39 (lv_at hl 9 rfl) ?_
      refine lv_lconst (v := 0) hx hb d_Mo_spelt_41 (by decide) ?_
      refine W.lcmp hx hb d_Mo_spelt_42 ?_
      refine lv_if_eq hx hb d_Mo_spelt_43 rfl (fun z => ?_) (fun z => ?_)
      · replace h := if_t z h
        refine lv_iinc (k := 8) (lv' := [(11, .int (a11 + 1)), (0, .ref (ga g 66)), (1, .int a1), (2, .int a2), (3, .long a3), (5, .long a5), (7, .long a7), (9, .int a9), (10, .int a10), (12, .long a12)]) hx hb d_Mo_spelt_101 hl rfl (ii1 _) (by decide) rfl (fun ls hl => ?_)
        refine lv_goto hx hb d_Mo_spelt_104 rfl ?_
        exact hK9 _ _ _ _ _ _ _ _ _ _ _ h D (lv_sub hl [1, 2, 3, 4, 5, 6, 7, 8, 0] rfl)
      · replace h := if_f z h
        refine lv_iload hx hb d_Mo_spelt_46 (lv_at hl 7 rfl) ?_
        refine lv_if_eq hx hb d_Mo_spelt_48 rfl (fun z => ?_) (fun z => ?_)
        · replace h := if_t z h
          exact B85 _ hK9 _ hK39 _ _ _ _ _ _ _ _ _ _ _ h D (lv_sub hl [0, 1, 2, 3, 4, 5, 6, 8, 9] rfl)
        · replace h := if_f z h
          refine lv_iload_n hx hb d_Mo_spelt_51 rfl (lv_at hl 1 rfl) ?_
          refine lv_iload hx hb d_Mo_spelt_52 (lv_at hl 6 rfl) ?_
          refine lv_iadd hx hb d_Mo_spelt_54 ?_
          refine lv_iload_n hx hb d_Mo_spelt_55 rfl (lv_at hl 2 rfl) ?_
          refine lv_icmp_ge hx hb d_Mo_spelt_56 rfl (fun z => ?_) (fun z => ?_)
          · replace h := if_t z h
            exact B85 _ hK9 _ hK39 _ _ _ _ _ _ _ _ _ _ _ h D (lv_sub hl [0, 1, 2, 3, 4, 5, 6, 8, 9] rfl)
          · replace h := if_f z h
            refine lv_aload_n hx hb d_Mo_spelt_59 rfl (lv_at hl 0 rfl) ?_
            refine x_get (v := .ref (ga g 76)) C D kc_Mo (by decide) sh_66 18 rfl (by decide) wf_Mo_37 rfl rfl d_Mo_spelt_60 ?_
            refine lv_iload_n hx hb d_Mo_spelt_63 rfl (lv_at hl 1 rfl) ?_
            refine lv_iload hx hb d_Mo_spelt_64 (lv_at hl 6 rfl) ?_
            refine lv_iadd hx hb d_Mo_spelt_66 ?_
            refine x_iald C D (by decide) sh_76 d_Mo_spelt_67 h (fun _ h => ?_)
            obtain ⟨u1, hu1, h⟩ := bd_some h
            refine x_cip (rest := []) (r_S C D (c_Mo_lower l g hD (S 76 (a1 + a9).toNatClampNeg) S u1 hu1) wc_Mo_lower wm_Mo_240 wt_Mo_lower wd_Mo_lower rfl rfl hl (Nat.le_of_ble_eq_true rfl) (by decide) d_Mo_spelt_68) D (fun H locs D => ?_)
            refine lv_lload hx hb d_Mo_spelt_71 (lv_at hl 9 rfl) ?_
            refine lv_ldc2 (v := 255) hx hb hown (hts _ wk_Mo_140) d_Mo_spelt_73 ?_
            refine lv_land hx hb d_Mo_spelt_76 ?_
            refine lv_l2i hx hb d_Mo_spelt_77 rfl ?_
            refine lv_icmp_ne hx hb d_Mo_spelt_78 rfl (fun z => ?_) (fun z => ?_)
            · replace h := if_f z h
              exact B85 _ hK9 _ hK39 _ _ _ _ _ _ _ _ _ _ _ h D (lv_sub hl [0, 1, 2, 3, 4, 5, 6, 8, 9] rfl)
            · replace h := if_t z h
              refine lv_iconst (v := 1) hx hb d_Mo_spelt_81 (by decide) ?_
              refine lv_goto hx hb d_Mo_spelt_82 rfl ?_
              exact B86 _ hK9 _ hK39 _ _ _ _ _ _ _ _ _ _ _ _ h D (lv_sub hl [0, 1, 2, 3, 4, 5, 6, 8, 9] rfl)
  have B37 : ∀ (K9 : Int32 → Int32 → Int64 → Int64 → Int64 → Int32 → Int32 → Int32 → zSt → Option Int32) (hK9 : ∀ (H : Heap) (locs : List Loc) (ls : Array Slot) (a1 : Int32) (a2 : Int32) (a3 : Int64) (a5 : Int64) (a7 : Int64) (a9 : Int32) (a10 : Int32) (a11 : Int32), K9 a1 a2 a3 a5 a7 a9 a10 a11 S = some u → Dy g s S H locs → lv_has ls 14 [(0, .ref (ga g 66)), (1, .int a1), (2, .int a2), (3, .long a3), (5, .long a5), (7, .long a7), (9, .int a9), (10, .int a10), (11, .int a11)] → W p l e (rmD 1) s m args below meth c H locs 0 0 (MQ below (Qip g S u) args s 0 0 (gA g)) (F0 m 9 ls [])) (H : Heap) (locs : List Loc) (ls : Array Slot) (a1 : Int32) (a2 : Int32) (a3 : Int64) (a5 : Int64) (a7 : Int64) (a9 : Int32) (a10 : Int32) (a11 : Int32) (t0 : Int64), f_Mo_spelt_37 K9 a1 a2 a3 a5 a7 a9 a10 a11 t0 S = some u → Dy g s S H locs → lv_has ls 14 [(0, .ref (ga g 66)), (1, .int a1), (2, .int a2), (3, .long a3), (5, .long a5), (7, .long a7), (9, .int a9), (10, .int a10), (11, .int a11)] → W p l e (rmD 1) s m args below meth c H locs 0 0 (MQ below (Qip g S u) args s 0 0 (gA g)) (F0 m 37 ls [.long t0]) := by
    intro K9 hK9 H locs ls a1 a2 a3 a5 a7 a9 a10 a11 t0 h D hl
    unfold f_Mo_spelt_37 at h
    refine lv_lstore (lv' := [(12, .long t0), (0, .ref (ga g 66)), (1, .int a1), (2, .int a2), (3, .long a3), (5, .long a5), (7, .long a7), (9, .int a9), (10, .int a10), (11, .int a11)]) hx hb d_Mo_spelt_37 hl (by decide) rfl (fun ls hl => ?_)
    exact L39 _ hK9 _ _ _ _ _ _ _ _ _ _ _ _ _ h D (lv_sub hl [1, 2, 3, 4, 5, 6, 7, 8, 9, 0] rfl)
  have L9 : ∀ (n : Nat) (H : Heap) (locs : List Loc) (ls : Array Slot) (a1 : Int32) (a2 : Int32) (a3 : Int64) (a5 : Int64) (a7 : Int64) (a9 : Int32) (a10 : Int32) (a11 : Int32), f_Mo_spelt_9 n a1 a2 a3 a5 a7 a9 a10 a11 S = some u → Dy g s S H locs → lv_has ls 14 [(0, .ref (ga g 66)), (1, .int a1), (2, .int a2), (3, .long a3), (5, .long a5), (7, .long a7), (9, .int a9), (10, .int a10), (11, .int a11)] → W p l e (rmD 1) s m args below meth c H locs 0 0 (MQ below (Qip g S u) args s 0 0 (gA g)) (F0 m 9 ls []) := by
    intro n
    induction n with
    | zero => intro H locs ls a1 a2 a3 a5 a7 a9 a10 a11 h D hl; rw [f_Mo_spelt_9] at h; cases h
    | succ n hK9 =>
      intro H locs ls a1 a2 a3 a5 a7 a9 a10 a11 h D hl
      rw [f_Mo_spelt_9] at h
      refine lv_iload hx hb d_Mo_spelt_9 (lv_at hl 8 rfl) ?_
      refine lv_iconst (v := 3) hx hb d_Mo_spelt_11 (by decide) ?_
      refine lv_icmp_ge hx hb d_Mo_spelt_12 rfl (fun z => ?_) (fun z => ?_)
      · replace h := if_t z h
        refine lv_iload hx hb d_Mo_spelt_107 (lv_at hl 7 rfl) ?_
        refine lv_if_eq hx hb d_Mo_spelt_109 rfl (fun z => ?_) (fun z => ?_)
        · replace h := if_t z h
          exact B124 _ _ _ h D (lv_sub hl [] rfl)
        · replace h := if_f z h
          refine lv_iload hx hb d_Mo_spelt_112 (lv_at hl 6 rfl) ?_
          refine lv_iload_n hx hb d_Mo_spelt_114 rfl (lv_at hl 2 rfl) ?_
          refine lv_iload_n hx hb d_Mo_spelt_115 rfl (lv_at hl 1 rfl) ?_
          refine lv_isub hx hb d_Mo_spelt_116 ?_
          refine lv_icmp_ne hx hb d_Mo_spelt_117 rfl (fun z => ?_) (fun z => ?_)
          · replace h := if_f z h
            exact B124 _ _ _ h D (lv_sub hl [] rfl)
          · replace h := if_t z h
            refine lv_iconst (v := 1) hx hb d_Mo_spelt_120 (by decide) ?_
            refine lv_goto hx hb d_Mo_spelt_121 rfl ?_
            exact x_zrp C D h d_Mo_spelt_125
      · replace h := if_f z h
        refine lv_iload hx hb d_Mo_spelt_15 (lv_at hl 8 rfl) ?_
        refine lv_if_ne hx hb d_Mo_spelt_17 rfl (fun z => ?_) (fun z => ?_)
        · replace h := if_f z h
          refine lv_iload hx hb d_Mo_spelt_24 (lv_at hl 8 rfl) ?_
          refine lv_iconst (v := 1) hx hb d_Mo_spelt_26 (by decide) ?_
          refine lv_icmp_ne hx hb d_Mo_spelt_27 rfl (fun z => ?_) (fun z => ?_)
          · replace h := if_f z h
            refine lv_lload hx hb d_Mo_spelt_35 (lv_at hl 5 rfl) ?_
            exact B37 _ hK9 _ _ _ _ _ _ _ _ _ _ _ _ h D (lv_sub hl [0, 1, 2, 3, 4, 5, 6, 7, 8] rfl)
          · replace h := if_t z h
            refine lv_lload hx hb d_Mo_spelt_30 (lv_at hl 4 rfl) ?_
            refine lv_goto hx hb d_Mo_spelt_32 rfl ?_
            exact B37 _ hK9 _ _ _ _ _ _ _ _ _ _ _ _ h D (lv_sub hl [0, 1, 2, 3, 4, 5, 6, 7, 8] rfl)
        · replace h := if_t z h
          refine lv_lload_n hx hb d_Mo_spelt_20 rfl (lv_at hl 3 rfl) ?_
          refine lv_goto hx hb d_Mo_spelt_21 rfl ?_
          exact B37 _ hK9 _ _ _ _ _ _ _ _ _ _ _ _ h D (lv_sub hl [0, 1, 2, 3, 4, 5, 6, 7, 8] rfl)
  unfold f_Mo_spelt at h
  refine lv_iconst (v := 0) hx hb d_Mo_spelt_0 (by decide) ?_
  refine lv_istore (lv' := [(9, .int 0), (0, .ref (ga g 66)), (1, .int a1), (2, .int a2), (3, .long a3), (5, .long a5), (7, .long a7)]) hx hb d_Mo_spelt_1 hl (by decide) rfl (fun ls hl => ?_)
  refine lv_iconst (v := 1) hx hb d_Mo_spelt_3 (by decide) ?_
  refine lv_istore (lv' := [(10, .int 1), (9, .int 0), (0, .ref (ga g 66)), (1, .int a1), (2, .int a2), (3, .long a3), (5, .long a5), (7, .long a7)]) hx hb d_Mo_spelt_4 hl (by decide) rfl (fun ls hl => ?_)
  refine lv_iconst (v := 0) hx hb d_Mo_spelt_6 (by decide) ?_
  refine lv_istore (lv' := [(11, .int 0), (10, .int 1), (9, .int 0), (0, .ref (ga g 66)), (1, .int a1), (2, .int a2), (3, .long a3), (5, .long a5), (7, .long a7)]) hx hb d_Mo_spelt_7 hl (by decide) rfl (fun ls hl => ?_)
  exact L9 _ _ _ _ _ _ _ _ _ _ _ _ h D (lv_sub hl [3, 4, 5, 6, 7, 8, 2, 1, 0] rfl)
theorem d_Mo_counted_0 : decode b_Mo_counted 0 = .ok (.iconst 0, 1) := by decide +kernel
theorem d_Mo_counted_1 : decode b_Mo_counted 1 = .ok (.istore_n 3, 1) := by decide +kernel
theorem d_Mo_counted_2 : decode b_Mo_counted 2 = .ok (.iload_n 2, 1) := by decide +kernel
theorem d_Mo_counted_3 : decode b_Mo_counted 3 = .ok (.iload_n 1, 1) := by decide +kernel
theorem d_Mo_counted_4 : decode b_Mo_counted 4 = .ok (.isub, 1) := by decide +kernel
theorem d_Mo_counted_5 : decode b_Mo_counted 5 = .ok (.iconst 1, 1) := by decide +kernel
theorem d_Mo_counted_6 : decode b_Mo_counted 6 = .ok (.if_icmp .lt 14, 3) := by decide +kernel
theorem d_Mo_counted_9 : decode b_Mo_counted 9 = .ok (.iload_n 2, 1) := by decide +kernel
theorem d_Mo_counted_10 : decode b_Mo_counted 10 = .ok (.iload_n 1, 1) := by decide +kernel
theorem d_Mo_counted_11 : decode b_Mo_counted 11 = .ok (.isub, 1) := by decide +kernel
theorem d_Mo_counted_12 : decode b_Mo_counted 12 = .ok (.iconst 4, 1) := by decide +kernel
theorem d_Mo_counted_13 : decode b_Mo_counted 13 = .ok (.if_icmp .gt 7, 3) := by decide +kernel
theorem d_Mo_counted_16 : decode b_Mo_counted 16 = .ok (.iconst 1, 1) := by decide +kernel
theorem d_Mo_counted_17 : decode b_Mo_counted 17 = .ok (.goto 4, 3) := by decide +kernel
theorem d_Mo_counted_20 : decode b_Mo_counted 20 = .ok (.iconst 0, 1) := by decide +kernel
theorem d_Mo_counted_21 : decode b_Mo_counted 21 = .ok (.istore 4, 2) := by decide +kernel
theorem d_Mo_counted_23 : decode b_Mo_counted 23 = .ok (.iload_n 1, 1) := by decide +kernel
theorem d_Mo_counted_24 : decode b_Mo_counted 24 = .ok (.istore 5, 2) := by decide +kernel
theorem d_Mo_counted_26 : decode b_Mo_counted 26 = .ok (.iload 5, 2) := by decide +kernel
theorem d_Mo_counted_28 : decode b_Mo_counted 28 = .ok (.iload_n 2, 1) := by decide +kernel
theorem d_Mo_counted_29 : decode b_Mo_counted 29 = .ok (.if_icmp .ge 42, 3) := by decide +kernel
theorem d_Mo_counted_32 : decode b_Mo_counted 32 = .ok (.iload 4, 2) := by decide +kernel
theorem d_Mo_counted_34 : decode b_Mo_counted 34 = .ok (.ifCond .eq 37, 3) := by decide +kernel
theorem d_Mo_counted_37 : decode b_Mo_counted 37 = .ok (.aload_n 0, 1) := by decide +kernel
theorem d_Mo_counted_38 : decode b_Mo_counted 38 = .ok (.getfield 37, 3) := by decide +kernel
theorem d_Mo_counted_41 : decode b_Mo_counted 41 = .ok (.iload 5, 2) := by decide +kernel
theorem d_Mo_counted_43 : decode b_Mo_counted 43 = .ok (.iaload, 1) := by decide +kernel
theorem d_Mo_counted_44 : decode b_Mo_counted 44 = .ok (.invokestatic 63, 3) := by decide +kernel
theorem d_Mo_counted_47 : decode b_Mo_counted 47 = .ok (.istore 4, 2) := by decide +kernel
theorem d_Mo_counted_49 : decode b_Mo_counted 49 = .ok (.bipush 10, 2) := by decide +kernel
theorem d_Mo_counted_51 : decode b_Mo_counted 51 = .ok (.iload_n 3, 1) := by decide +kernel
theorem d_Mo_counted_52 : decode b_Mo_counted 52 = .ok (.imul, 1) := by decide +kernel
theorem d_Mo_counted_53 : decode b_Mo_counted 53 = .ok (.aload_n 0, 1) := by decide +kernel
theorem d_Mo_counted_54 : decode b_Mo_counted 54 = .ok (.getfield 37, 3) := by decide +kernel
theorem d_Mo_counted_57 : decode b_Mo_counted 57 = .ok (.iload 5, 2) := by decide +kernel
theorem d_Mo_counted_59 : decode b_Mo_counted 59 = .ok (.iaload, 1) := by decide +kernel
theorem d_Mo_counted_60 : decode b_Mo_counted 60 = .ok (.iadd, 1) := by decide +kernel
theorem d_Mo_counted_61 : decode b_Mo_counted 61 = .ok (.bipush 48, 2) := by decide +kernel
theorem d_Mo_counted_63 : decode b_Mo_counted 63 = .ok (.isub, 1) := by decide +kernel
theorem d_Mo_counted_64 : decode b_Mo_counted 64 = .ok (.istore_n 3, 1) := by decide +kernel
theorem d_Mo_counted_65 : decode b_Mo_counted 65 = .ok (.iinc 5 1, 3) := by decide +kernel
theorem d_Mo_counted_68 : decode b_Mo_counted 68 = .ok (.goto (-42), 3) := by decide +kernel
theorem d_Mo_counted_71 : decode b_Mo_counted 71 = .ok (.iload 4, 2) := by decide +kernel
theorem d_Mo_counted_73 : decode b_Mo_counted 73 = .ok (.ifCond .eq 7, 3) := by decide +kernel
theorem d_Mo_counted_76 : decode b_Mo_counted 76 = .ok (.iload_n 3, 1) := by decide +kernel
theorem d_Mo_counted_77 : decode b_Mo_counted 77 = .ok (.goto 4, 3) := by decide +kernel
theorem d_Mo_counted_80 : decode b_Mo_counted 80 = .ok (.iconst (-1), 1) := by decide +kernel
theorem d_Mo_counted_81 : decode b_Mo_counted 81 = .ok (.ireturn, 1) := by decide +kernel
def f_Mo_counted_71 (a3 : Int32) (a4 : Int32) (S : zSt) : Option Int32 := (if a4 = 0 then (some (-1)) else (some a3))
def f_Mo_counted_26 : Nat → Int32 → Int32 → Int32 → Int32 → zSt → Option Int32
  | 0, _, _, _, _, _ => none
  | n + 1, a2, a3, a4, a5, S => (if a2 ≤ a5 then (f_Mo_counted_71 a3 a4 S) else (if a4 = 0 then (f_Mo_counted_71 a3 a4 S) else gdi a5 520 (((f_Mo_digit (S 76 a5.toNatClampNeg) S).bind fun u1 => gdi a5 520 (((f_Mo_counted_26 n) a2 (((10 * a3) + (S 76 a5.toNatClampNeg)) - 48) u1 (a5 + 1) S))))))
def f_Mo_counted_21 (a1 : Int32) (a2 : Int32) (a3 : Int32) (t0 : Int32) (S : zSt) : Option Int32 := (f_Mo_counted_26 fu a2 a3 t0 a1 S)
def f_Mo_counted_20 (a1 : Int32) (a2 : Int32) (a3 : Int32) (S : zSt) : Option Int32 := (f_Mo_counted_21 a1 a2 a3 0 S)
def f_Mo_counted (a1 : Int32) (a2 : Int32) (S : zSt) : Option Int32 := (if (a2 - a1) < 1 then (f_Mo_counted_20 a1 a2 0 S) else (if 4 < (a2 - a1) then (f_Mo_counted_20 a1 a2 0 S) else (f_Mo_counted_21 a1 a2 0 1 S)))
set_option maxHeartbeats 4000000 in
set_option maxRecDepth 100000 in
theorem c_Mo_counted (l : Launch) (g : zG) (hD : GD g) (a1 : Int32) (a2 : Int32) (S : zSt) (u : Int32) (h : f_Mo_counted a1 a2 S = some u) : Met l y_Mo_counted (mw y_Mo_counted b_Mo_counted 6 (some .int)) (rmD 1) (Pw g [.ref (ga g 66), .int a1, .int a2] S) (Qip g S u) 0 0 (gA g) := by
  refine z_go (own := R_Mo) (lv0 := [(0, .ref (ga g 66)), (1, .int a1), (2, .int a2)]) hD (by decide) rfl (Nat.le_of_ble_eq_true rfl) rfl ?_
  intro p e s m args below meth c C D ls hl
  have hx := C.1
  have hb := C.2.1
  have hown := C.2.2.2.1
  have hts := C.2.2.2.2.1
  have B71 : ∀ (H : Heap) (locs : List Loc) (ls : Array Slot) (a3 : Int32) (a4 : Int32), f_Mo_counted_71 a3 a4 S = some u → Dy g s S H locs → lv_has ls 6 [(3, .int a3), (4, .int a4)] → W p l e (rmD 1) s m args below meth c H locs 0 0 (MQ below (Qip g S u) args s 0 0 (gA g)) (F0 m 71 ls []) := by
    intro H locs ls a3 a4 h D hl
    unfold f_Mo_counted_71 at h
    refine lv_iload hx hb d_Mo_counted_71 (lv_at hl 1 rfl) ?_
    refine lv_if_eq hx hb d_Mo_counted_73 rfl (fun z => ?_) (fun z => ?_)
    · replace h := if_t z h
      refine lv_iconst (v := (-1)) hx hb d_Mo_counted_80 (by decide) ?_
      exact x_irp C D h d_Mo_counted_81
    · replace h := if_f z h
      refine lv_iload_n hx hb d_Mo_counted_76 rfl (lv_at hl 0 rfl) ?_
      refine lv_goto hx hb d_Mo_counted_77 rfl ?_
      exact x_irp C D h d_Mo_counted_81
  have L26 : ∀ (n : Nat) (H : Heap) (locs : List Loc) (ls : Array Slot) (a2 : Int32) (a3 : Int32) (a4 : Int32) (a5 : Int32), f_Mo_counted_26 n a2 a3 a4 a5 S = some u → Dy g s S H locs → lv_has ls 6 [(0, .ref (ga g 66)), (2, .int a2), (3, .int a3), (4, .int a4), (5, .int a5)] → W p l e (rmD 1) s m args below meth c H locs 0 0 (MQ below (Qip g S u) args s 0 0 (gA g)) (F0 m 26 ls []) := by
    intro n
    induction n with
    | zero => intro H locs ls a2 a3 a4 a5 h D hl; rw [f_Mo_counted_26] at h; cases h
    | succ n hK26 =>
      intro H locs ls a2 a3 a4 a5 h D hl
      rw [f_Mo_counted_26] at h
      refine lv_iload hx hb d_Mo_counted_26 (lv_at hl 4 rfl) ?_
      refine lv_iload_n hx hb d_Mo_counted_28 rfl (lv_at hl 1 rfl) ?_
      refine lv_icmp_ge hx hb d_Mo_counted_29 rfl (fun z => ?_) (fun z => ?_)
      · replace h := if_t z h
        exact B71 _ _ _ _ _ h D (lv_sub hl [2, 3] rfl)
      · replace h := if_f z h
        refine lv_iload hx hb d_Mo_counted_32 (lv_at hl 3 rfl) ?_
        refine lv_if_eq hx hb d_Mo_counted_34 rfl (fun z => ?_) (fun z => ?_)
        · replace h := if_t z h
          exact B71 _ _ _ _ _ h D (lv_sub hl [2, 3] rfl)
        · replace h := if_f z h
          refine lv_aload_n hx hb d_Mo_counted_37 rfl (lv_at hl 0 rfl) ?_
          refine x_get (v := .ref (ga g 76)) C D kc_Mo (by decide) sh_66 18 rfl (by decide) wf_Mo_37 rfl rfl d_Mo_counted_38 ?_
          refine lv_iload hx hb d_Mo_counted_41 (lv_at hl 4 rfl) ?_
          refine x_iald C D (by decide) sh_76 d_Mo_counted_43 h (fun _ h => ?_)
          obtain ⟨u1, hu1, h⟩ := bd_some h
          refine x_cip (rest := []) (r_S C D (c_Mo_digit l g hD (S 76 a5.toNatClampNeg) S u1 hu1) wc_Mo_digit wm_Mo_63 wt_Mo_digit wd_Mo_digit rfl rfl hl (Nat.le_of_ble_eq_true rfl) (by decide) d_Mo_counted_44) D (fun H locs D => ?_)
          refine lv_istore (lv' := [(4, .int u1), (0, .ref (ga g 66)), (2, .int a2), (3, .int a3), (5, .int a5)]) hx hb d_Mo_counted_47 hl (by decide) rfl (fun ls hl => ?_)
          refine lv_bipush (v := 10) hx hb d_Mo_counted_49 (by decide) ?_
          refine lv_iload_n hx hb d_Mo_counted_51 rfl (lv_at hl 3 rfl) ?_
          refine lv_imul hx hb d_Mo_counted_52 ?_
          refine lv_aload_n hx hb d_Mo_counted_53 rfl (lv_at hl 1 rfl) ?_
          refine x_get (v := .ref (ga g 76)) C D kc_Mo (by decide) sh_66 18 rfl (by decide) wf_Mo_37 rfl rfl d_Mo_counted_54 ?_
          refine lv_iload hx hb d_Mo_counted_57 (lv_at hl 4 rfl) ?_
          refine x_iald C D (by decide) sh_76 d_Mo_counted_59 h (fun _ h => ?_)
          refine lv_iadd hx hb d_Mo_counted_60 ?_
          refine lv_bipush (v := 48) hx hb d_Mo_counted_61 (by decide) ?_
          refine lv_isub hx hb d_Mo_counted_63 ?_
          refine lv_istore_n (lv' := [(3, .int (((10 * a3) + (S 76 a5.toNatClampNeg)) - 48)), (4, .int u1), (0, .ref (ga g 66)), (2, .int a2), (5, .int a5)]) hx hb d_Mo_counted_64 rfl hl (by decide) rfl (fun ls hl => ?_)
          refine lv_iinc (k := 4) (lv' := [(5, .int (a5 + 1)), (3, .int (((10 * a3) + (S 76 a5.toNatClampNeg)) - 48)), (4, .int u1), (0, .ref (ga g 66)), (2, .int a2)]) hx hb d_Mo_counted_65 hl rfl (ii1 _) (by decide) rfl (fun ls hl => ?_)
          refine lv_goto hx hb d_Mo_counted_68 rfl ?_
          exact hK26 _ _ _ _ _ _ _ h D (lv_sub hl [3, 4, 1, 2, 0] rfl)
  have B21 : ∀ (H : Heap) (locs : List Loc) (ls : Array Slot) (a1 : Int32) (a2 : Int32) (a3 : Int32) (t0 : Int32), f_Mo_counted_21 a1 a2 a3 t0 S = some u → Dy g s S H locs → lv_has ls 6 [(0, .ref (ga g 66)), (1, .int a1), (2, .int a2), (3, .int a3)] → W p l e (rmD 1) s m args below meth c H locs 0 0 (MQ below (Qip g S u) args s 0 0 (gA g)) (F0 m 21 ls [.int t0]) := by
    intro H locs ls a1 a2 a3 t0 h D hl
    unfold f_Mo_counted_21 at h
    refine lv_istore (lv' := [(4, .int t0), (0, .ref (ga g 66)), (1, .int a1), (2, .int a2), (3, .int a3)]) hx hb d_Mo_counted_21 hl (by decide) rfl (fun ls hl => ?_)
    refine lv_iload_n hx hb d_Mo_counted_23 rfl (lv_at hl 2 rfl) ?_
    refine lv_istore (lv' := [(5, .int a1), (4, .int t0), (0, .ref (ga g 66)), (1, .int a1), (2, .int a2), (3, .int a3)]) hx hb d_Mo_counted_24 hl (by decide) rfl (fun ls hl => ?_)
    exact L26 _ _ _ _ _ _ _ _ h D (lv_sub hl [2, 4, 5, 1, 0] rfl)
  have B20 : ∀ (H : Heap) (locs : List Loc) (ls : Array Slot) (a1 : Int32) (a2 : Int32) (a3 : Int32), f_Mo_counted_20 a1 a2 a3 S = some u → Dy g s S H locs → lv_has ls 6 [(0, .ref (ga g 66)), (1, .int a1), (2, .int a2), (3, .int a3)] → W p l e (rmD 1) s m args below meth c H locs 0 0 (MQ below (Qip g S u) args s 0 0 (gA g)) (F0 m 20 ls []) := by
    intro H locs ls a1 a2 a3 h D hl
    unfold f_Mo_counted_20 at h
    refine lv_iconst (v := 0) hx hb d_Mo_counted_20 (by decide) ?_
    exact B21 _ _ _ _ _ _ _ h D (lv_sub hl [0, 1, 2, 3] rfl)
  unfold f_Mo_counted at h
  refine lv_iconst (v := 0) hx hb d_Mo_counted_0 (by decide) ?_
  refine lv_istore_n (lv' := [(3, .int 0), (0, .ref (ga g 66)), (1, .int a1), (2, .int a2)]) hx hb d_Mo_counted_1 rfl hl (by decide) rfl (fun ls hl => ?_)
  refine lv_iload_n hx hb d_Mo_counted_2 rfl (lv_at hl 3 rfl) ?_
  refine lv_iload_n hx hb d_Mo_counted_3 rfl (lv_at hl 2 rfl) ?_
  refine lv_isub hx hb d_Mo_counted_4 ?_
  refine lv_iconst (v := 1) hx hb d_Mo_counted_5 (by decide) ?_
  refine lv_icmp_lt hx hb d_Mo_counted_6 rfl (fun z => ?_) (fun z => ?_)
  · replace h := if_t z h
    exact B20 _ _ _ _ _ _ h D (lv_sub hl [1, 2, 3, 0] rfl)
  · replace h := if_f z h
    refine lv_iload_n hx hb d_Mo_counted_9 rfl (lv_at hl 3 rfl) ?_
    refine lv_iload_n hx hb d_Mo_counted_10 rfl (lv_at hl 2 rfl) ?_
    refine lv_isub hx hb d_Mo_counted_11 ?_
    refine lv_iconst (v := 4) hx hb d_Mo_counted_12 (by decide) ?_
    refine lv_icmp_gt hx hb d_Mo_counted_13 rfl (fun z => ?_) (fun z => ?_)
    · replace h := if_t z h
      exact B20 _ _ _ _ _ _ h D (lv_sub hl [1, 2, 3, 0] rfl)
    · replace h := if_f z h
      refine lv_iconst (v := 1) hx hb d_Mo_counted_16 (by decide) ?_
      refine lv_goto hx hb d_Mo_counted_17 rfl ?_
      exact B21 _ _ _ _ _ _ _ h D (lv_sub hl [1, 2, 3, 0] rfl)
theorem d_Mo_plain_0 : decode b_Mo_plain 0 = .ok (.iload_n 0, 1) := by decide +kernel
theorem d_Mo_plain_1 : decode b_Mo_plain 1 = .ok (.invokestatic 66, 3) := by decide +kernel
theorem d_Mo_plain_4 : decode b_Mo_plain 4 = .ok (.ifCond .ne 27, 3) := by decide +kernel
theorem d_Mo_plain_7 : decode b_Mo_plain 7 = .ok (.iload_n 0, 1) := by decide +kernel
theorem d_Mo_plain_8 : decode b_Mo_plain 8 = .ok (.bipush 45, 2) := by decide +kernel
theorem d_Mo_plain_10 : decode b_Mo_plain 10 = .ok (.if_icmp .eq 21, 3) := by decide +kernel
theorem d_Mo_plain_13 : decode b_Mo_plain 13 = .ok (.iload_n 0, 1) := by decide +kernel
theorem d_Mo_plain_14 : decode b_Mo_plain 14 = .ok (.bipush 46, 2) := by decide +kernel
theorem d_Mo_plain_16 : decode b_Mo_plain 16 = .ok (.if_icmp .eq 15, 3) := by decide +kernel
theorem d_Mo_plain_19 : decode b_Mo_plain 19 = .ok (.iload_n 0, 1) := by decide +kernel
theorem d_Mo_plain_20 : decode b_Mo_plain 20 = .ok (.bipush 95, 2) := by decide +kernel
theorem d_Mo_plain_22 : decode b_Mo_plain 22 = .ok (.if_icmp .eq 9, 3) := by decide +kernel
theorem d_Mo_plain_25 : decode b_Mo_plain 25 = .ok (.iload_n 0, 1) := by decide +kernel
theorem d_Mo_plain_26 : decode b_Mo_plain 26 = .ok (.bipush 126, 2) := by decide +kernel
theorem d_Mo_plain_28 : decode b_Mo_plain 28 = .ok (.if_icmp .ne 7, 3) := by decide +kernel
theorem d_Mo_plain_31 : decode b_Mo_plain 31 = .ok (.iconst 1, 1) := by decide +kernel
theorem d_Mo_plain_32 : decode b_Mo_plain 32 = .ok (.goto 4, 3) := by decide +kernel
theorem d_Mo_plain_35 : decode b_Mo_plain 35 = .ok (.iconst 0, 1) := by decide +kernel
theorem d_Mo_plain_36 : decode b_Mo_plain 36 = .ok (.ireturn, 1) := by decide +kernel
def f_Mo_plain_31 (S : zSt) : Option Int32 := (gdb 1 (some 1))
def f_Mo_plain (a0 : Int32) (S : zSt) : Option Int32 := ((f_Mo_letterOrDigit a0 S).bind fun u1 => (if u1 = 0 then (if a0 = 45 then (f_Mo_plain_31 S) else (if a0 = 46 then (f_Mo_plain_31 S) else (if a0 = 95 then (f_Mo_plain_31 S) else (if a0 = 126 then (f_Mo_plain_31 S) else (gdb 0 (some 0)))))) else (f_Mo_plain_31 S)))
set_option maxHeartbeats 4000000 in
set_option maxRecDepth 100000 in
theorem c_Mo_plain (l : Launch) (g : zG) (hD : GD g) (a0 : Int32) (S : zSt) (u : Int32) (h : f_Mo_plain a0 S = some u) : Met l y_Mo_plain (mw y_Mo_plain b_Mo_plain 1 (some .boolean)) (rmD 2) (Pw g [.int a0] S) (Qip g S u) 0 0 (gA g) := by
  refine z_go (own := R_Mo) (lv0 := [(0, .int a0)]) hD (by decide) rfl (Nat.le_of_ble_eq_true rfl) rfl ?_
  intro p e s m args below meth c C D ls hl
  have hx := C.1
  have hb := C.2.1
  have hown := C.2.2.2.1
  have hts := C.2.2.2.2.1
  have B31 : ∀ (H : Heap) (locs : List Loc) (ls : Array Slot), f_Mo_plain_31 S = some u → Dy g s S H locs → lv_has ls 1 [] → W p l e (rmD 2) s m args below meth c H locs 0 0 (MQ below (Qip g S u) args s 0 0 (gA g)) (F0 m 31 ls []) := by
    intro H locs ls h D hl
    unfold f_Mo_plain_31 at h
    refine lv_iconst (v := 1) hx hb d_Mo_plain_31 (by decide) ?_
    refine lv_goto hx hb d_Mo_plain_32 rfl ?_
    exact x_zrp C D h d_Mo_plain_36
  unfold f_Mo_plain at h
  refine lv_iload_n hx hb d_Mo_plain_0 rfl (lv_at hl 0 rfl) ?_
  obtain ⟨u1, hu1, h⟩ := bd_some h
  refine x_cip (rest := []) (r_S C D (c_Mo_letterOrDigit l g hD a0 S u1 hu1) wc_Mo_letterOrDigit wm_Mo_66 wt_Mo_letterOrDigit wd_Mo_letterOrDigit rfl rfl hl (Nat.le_of_ble_eq_true rfl) (by decide) d_Mo_plain_1) D (fun H locs D => ?_)
  refine lv_if_ne hx hb d_Mo_plain_4 rfl (fun z => ?_) (fun z => ?_)
  · replace h := if_f z h
    exact B31 _ _ _ h D (lv_sub hl [] rfl)
  · replace h := if_t z h
    refine lv_iload_n hx hb d_Mo_plain_7 rfl (lv_at hl 0 rfl) ?_
    refine lv_bipush (v := 45) hx hb d_Mo_plain_8 (by decide) ?_
    refine lv_icmp_eq hx hb d_Mo_plain_10 rfl (fun z => ?_) (fun z => ?_)
    · replace h := if_t z h
      exact B31 _ _ _ h D (lv_sub hl [] rfl)
    · replace h := if_f z h
      refine lv_iload_n hx hb d_Mo_plain_13 rfl (lv_at hl 0 rfl) ?_
      refine lv_bipush (v := 46) hx hb d_Mo_plain_14 (by decide) ?_
      refine lv_icmp_eq hx hb d_Mo_plain_16 rfl (fun z => ?_) (fun z => ?_)
      · replace h := if_t z h
        exact B31 _ _ _ h D (lv_sub hl [] rfl)
      · replace h := if_f z h
        refine lv_iload_n hx hb d_Mo_plain_19 rfl (lv_at hl 0 rfl) ?_
        refine lv_bipush (v := 95) hx hb d_Mo_plain_20 (by decide) ?_
        refine lv_icmp_eq hx hb d_Mo_plain_22 rfl (fun z => ?_) (fun z => ?_)
        · replace h := if_t z h
          exact B31 _ _ _ h D (lv_sub hl [] rfl)
        · replace h := if_f z h
          refine lv_iload_n hx hb d_Mo_plain_25 rfl (lv_at hl 0 rfl) ?_
          refine lv_bipush (v := 126) hx hb d_Mo_plain_26 (by decide) ?_
          refine lv_icmp_ne hx hb d_Mo_plain_28 rfl (fun z => ?_) (fun z => ?_)
          · replace h := if_f z h
            refine lv_iconst (v := 0) hx hb d_Mo_plain_35 (by decide) ?_
            exact x_zrp C D h d_Mo_plain_36
          · replace h := if_t z h
            exact B31 _ _ _ h D (lv_sub hl [] rfl)
theorem d_Mo_unknown_0 : decode b_Mo_unknown 0 = .ok (.iconst 0, 1) := by decide +kernel
theorem d_Mo_unknown_1 : decode b_Mo_unknown 1 = .ok (.istore_n 1, 1) := by decide +kernel
theorem d_Mo_unknown_2 : decode b_Mo_unknown 2 = .ok (.iconst 0, 1) := by decide +kernel
theorem d_Mo_unknown_3 : decode b_Mo_unknown 3 = .ok (.istore_n 2, 1) := by decide +kernel
theorem d_Mo_unknown_4 : decode b_Mo_unknown 4 = .ok (.iload_n 2, 1) := by decide +kernel
theorem d_Mo_unknown_5 : decode b_Mo_unknown 5 = .ok (.aload_n 0, 1) := by decide +kernel
theorem d_Mo_unknown_6 : decode b_Mo_unknown 6 = .ok (.getfield 50, 3) := by decide +kernel
theorem d_Mo_unknown_9 : decode b_Mo_unknown 9 = .ok (.if_icmp .ge 40, 3) := by decide +kernel
theorem d_Mo_unknown_12 : decode b_Mo_unknown 12 = .ok (.iload_n 1, 1) := by decide +kernel
theorem d_Mo_unknown_13 : decode b_Mo_unknown 13 = .ok (.ifCond .ne 24, 3) := by decide +kernel
theorem d_Mo_unknown_16 : decode b_Mo_unknown 16 = .ok (.aload_n 0, 1) := by decide +kernel
theorem d_Mo_unknown_17 : decode b_Mo_unknown 17 = .ok (.iload_n 2, 1) := by decide +kernel
theorem d_Mo_unknown_18 : decode b_Mo_unknown 18 = .ok (.invokevirtual 82, 3) := by decide +kernel
theorem d_Mo_unknown_21 : decode b_Mo_unknown 21 = .ok (.ifCond .eq 20, 3) := by decide +kernel
theorem d_Mo_unknown_24 : decode b_Mo_unknown 24 = .ok (.aload_n 0, 1) := by decide +kernel
theorem d_Mo_unknown_25 : decode b_Mo_unknown 25 = .ok (.aload_n 0, 1) := by decide +kernel
theorem d_Mo_unknown_26 : decode b_Mo_unknown 26 = .ok (.getfield 7, 3) := by decide +kernel
theorem d_Mo_unknown_29 : decode b_Mo_unknown 29 = .ok (.iload_n 2, 1) := by decide +kernel
theorem d_Mo_unknown_30 : decode b_Mo_unknown 30 = .ok (.iaload, 1) := by decide +kernel
theorem d_Mo_unknown_31 : decode b_Mo_unknown 31 = .ok (.invokevirtual 85, 3) := by decide +kernel
theorem d_Mo_unknown_34 : decode b_Mo_unknown 34 = .ok (.ifCond .ge 7, 3) := by decide +kernel
theorem d_Mo_unknown_37 : decode b_Mo_unknown 37 = .ok (.iconst 1, 1) := by decide +kernel
theorem d_Mo_unknown_38 : decode b_Mo_unknown 38 = .ok (.goto 4, 3) := by decide +kernel
theorem d_Mo_unknown_41 : decode b_Mo_unknown 41 = .ok (.iconst 0, 1) := by decide +kernel
theorem d_Mo_unknown_42 : decode b_Mo_unknown 42 = .ok (.istore_n 1, 1) := by decide +kernel
theorem d_Mo_unknown_43 : decode b_Mo_unknown 43 = .ok (.iinc 2 1, 3) := by decide +kernel
theorem d_Mo_unknown_46 : decode b_Mo_unknown 46 = .ok (.goto (-42), 3) := by decide +kernel
theorem d_Mo_unknown_49 : decode b_Mo_unknown 49 = .ok (.iload_n 1, 1) := by decide +kernel
theorem d_Mo_unknown_50 : decode b_Mo_unknown 50 = .ok (.ireturn, 1) := by decide +kernel
def f_Mo_unknown_42 (K4 : Int32 → Int32 → zSt → Option Int32) (a2 : Int32) (t0 : Int32) (S : zSt) : Option Int32 := (K4 t0 (a2 + 1) S)
def f_Mo_unknown_37 (K4 : Int32 → Int32 → zSt → Option Int32) (a2 : Int32) (S : zSt) : Option Int32 := (f_Mo_unknown_42 K4 a2 1 S)
def f_Mo_unknown_41 (K4 : Int32 → Int32 → zSt → Option Int32) (a2 : Int32) (S : zSt) : Option Int32 := (f_Mo_unknown_42 K4 a2 0 S)
def f_Mo_unknown_4 : Nat → Int32 → Int32 → zSt → Option Int32
  | 0, _, _, _ => none
  | n + 1, a1, a2, S => (if (S 66 1) ≤ a2 then (gdb a1 (some a1)) else (if a1 = 0 then ((f_Mo_variableAt a2 S).bind fun u1 => (if u1 = 0 then (f_Mo_unknown_41 (f_Mo_unknown_4 n) a2 S) else gdi a2 40 (((f_Mo_named (S 67 a2.toNatClampNeg) S).bind fun u2 => (if 0 ≤ u2 then (f_Mo_unknown_41 (f_Mo_unknown_4 n) a2 S) else (f_Mo_unknown_37 (f_Mo_unknown_4 n) a2 S)))))) else (f_Mo_unknown_37 (f_Mo_unknown_4 n) a2 S)))
def f_Mo_unknown (S : zSt) : Option Int32 := (f_Mo_unknown_4 fu 0 0 S)
set_option maxHeartbeats 4000000 in
set_option maxRecDepth 100000 in
theorem c_Mo_unknown (l : Launch) (g : zG) (hD : GD g) (S : zSt) (u : Int32) (h : f_Mo_unknown S = some u) : Met l y_Mo_unknown (mw y_Mo_unknown b_Mo_unknown 3 (some .boolean)) (rmD 2) (Pw g [.ref (ga g 66)] S) (Qip g S u) 0 0 (gA g) := by
  refine z_go (own := R_Mo) (lv0 := [(0, .ref (ga g 66))]) hD (by decide) rfl (Nat.le_of_ble_eq_true rfl) rfl ?_
  intro p e s m args below meth c C D ls hl
  have hx := C.1
  have hb := C.2.1
  have hown := C.2.2.2.1
  have hts := C.2.2.2.2.1
  have B42 : ∀ (K4 : Int32 → Int32 → zSt → Option Int32) (hK4 : ∀ (H : Heap) (locs : List Loc) (ls : Array Slot) (a1 : Int32) (a2 : Int32), K4 a1 a2 S = some u → Dy g s S H locs → lv_has ls 3 [(0, .ref (ga g 66)), (1, .int a1), (2, .int a2)] → W p l e (rmD 2) s m args below meth c H locs 0 0 (MQ below (Qip g S u) args s 0 0 (gA g)) (F0 m 4 ls [])) (H : Heap) (locs : List Loc) (ls : Array Slot) (a2 : Int32) (t0 : Int32), f_Mo_unknown_42 K4 a2 t0 S = some u → Dy g s S H locs → lv_has ls 3 [(0, .ref (ga g 66)), (2, .int a2)] → W p l e (rmD 2) s m args below meth c H locs 0 0 (MQ below (Qip g S u) args s 0 0 (gA g)) (F0 m 42 ls [.int t0]) := by
    intro K4 hK4 H locs ls a2 t0 h D hl
    unfold f_Mo_unknown_42 at h
    refine lv_istore_n (lv' := [(1, .int t0), (0, .ref (ga g 66)), (2, .int a2)]) hx hb d_Mo_unknown_42 rfl hl (by decide) rfl (fun ls hl => ?_)
    refine lv_iinc (k := 2) (lv' := [(2, .int (a2 + 1)), (1, .int t0), (0, .ref (ga g 66))]) hx hb d_Mo_unknown_43 hl rfl (ii1 _) (by decide) rfl (fun ls hl => ?_)
    refine lv_goto hx hb d_Mo_unknown_46 rfl ?_
    exact hK4 _ _ _ _ _ h D (lv_sub hl [2, 1, 0] rfl)
  have B37 : ∀ (K4 : Int32 → Int32 → zSt → Option Int32) (hK4 : ∀ (H : Heap) (locs : List Loc) (ls : Array Slot) (a1 : Int32) (a2 : Int32), K4 a1 a2 S = some u → Dy g s S H locs → lv_has ls 3 [(0, .ref (ga g 66)), (1, .int a1), (2, .int a2)] → W p l e (rmD 2) s m args below meth c H locs 0 0 (MQ below (Qip g S u) args s 0 0 (gA g)) (F0 m 4 ls [])) (H : Heap) (locs : List Loc) (ls : Array Slot) (a2 : Int32), f_Mo_unknown_37 K4 a2 S = some u → Dy g s S H locs → lv_has ls 3 [(0, .ref (ga g 66)), (2, .int a2)] → W p l e (rmD 2) s m args below meth c H locs 0 0 (MQ below (Qip g S u) args s 0 0 (gA g)) (F0 m 37 ls []) := by
    intro K4 hK4 H locs ls a2 h D hl
    unfold f_Mo_unknown_37 at h
    refine lv_iconst (v := 1) hx hb d_Mo_unknown_37 (by decide) ?_
    refine lv_goto hx hb d_Mo_unknown_38 rfl ?_
    exact B42 _ hK4 _ _ _ _ _ h D (lv_sub hl [0, 1] rfl)
  have B41 : ∀ (K4 : Int32 → Int32 → zSt → Option Int32) (hK4 : ∀ (H : Heap) (locs : List Loc) (ls : Array Slot) (a1 : Int32) (a2 : Int32), K4 a1 a2 S = some u → Dy g s S H locs → lv_has ls 3 [(0, .ref (ga g 66)), (1, .int a1), (2, .int a2)] → W p l e (rmD 2) s m args below meth c H locs 0 0 (MQ below (Qip g S u) args s 0 0 (gA g)) (F0 m 4 ls [])) (H : Heap) (locs : List Loc) (ls : Array Slot) (a2 : Int32), f_Mo_unknown_41 K4 a2 S = some u → Dy g s S H locs → lv_has ls 3 [(0, .ref (ga g 66)), (2, .int a2)] → W p l e (rmD 2) s m args below meth c H locs 0 0 (MQ below (Qip g S u) args s 0 0 (gA g)) (F0 m 41 ls []) := by
    intro K4 hK4 H locs ls a2 h D hl
    unfold f_Mo_unknown_41 at h
    refine lv_iconst (v := 0) hx hb d_Mo_unknown_41 (by decide) ?_
    exact B42 _ hK4 _ _ _ _ _ h D (lv_sub hl [0, 1] rfl)
  have L4 : ∀ (n : Nat) (H : Heap) (locs : List Loc) (ls : Array Slot) (a1 : Int32) (a2 : Int32), f_Mo_unknown_4 n a1 a2 S = some u → Dy g s S H locs → lv_has ls 3 [(0, .ref (ga g 66)), (1, .int a1), (2, .int a2)] → W p l e (rmD 2) s m args below meth c H locs 0 0 (MQ below (Qip g S u) args s 0 0 (gA g)) (F0 m 4 ls []) := by
    intro n
    induction n with
    | zero => intro H locs ls a1 a2 h D hl; rw [f_Mo_unknown_4] at h; cases h
    | succ n hK4 =>
      intro H locs ls a1 a2 h D hl
      rw [f_Mo_unknown_4] at h
      refine lv_iload_n hx hb d_Mo_unknown_4 rfl (lv_at hl 2 rfl) ?_
      refine lv_aload_n hx hb d_Mo_unknown_5 rfl (lv_at hl 0 rfl) ?_
      refine x_get (v := .int (S 66 1)) C D kc_Mo (by decide) sh_66 1 rfl (by decide) wf_Mo_50 rfl rfl d_Mo_unknown_6 ?_
      refine lv_icmp_ge hx hb d_Mo_unknown_9 rfl (fun z => ?_) (fun z => ?_)
      · replace h := if_t z h
        refine lv_iload_n hx hb d_Mo_unknown_49 rfl (lv_at hl 1 rfl) ?_
        exact x_zrp C D h d_Mo_unknown_50
      · replace h := if_f z h
        refine lv_iload_n hx hb d_Mo_unknown_12 rfl (lv_at hl 1 rfl) ?_
        refine lv_if_ne hx hb d_Mo_unknown_13 rfl (fun z => ?_) (fun z => ?_)
        · replace h := if_f z h
          exact B37 _ hK4 _ _ _ _ h D (lv_sub hl [0, 2] rfl)
        · replace h := if_t z h
          refine lv_aload_n hx hb d_Mo_unknown_16 rfl (lv_at hl 0 rfl) ?_
          refine lv_iload_n hx hb d_Mo_unknown_17 rfl (lv_at hl 2 rfl) ?_
          obtain ⟨u1, hu1, h⟩ := bd_some h
          refine x_cip (rest := []) (r_V C D (c_Mo_variableAt l g hD a2 S u1 hu1) wc_Mo_variableAt wm_Mo_82 wi_Mo_variableAt wd_Mo_variableAt (by decide) sh_66 kc_Mo.1 rfl rfl hl (Nat.le_of_ble_eq_true rfl) (by decide) d_Mo_unknown_18) D (fun H locs D => ?_)
          refine lv_if_eq hx hb d_Mo_unknown_21 rfl (fun z => ?_) (fun z => ?_)
          · replace h := if_t z h
            exact B41 _ hK4 _ _ _ _ h D (lv_sub hl [0, 2] rfl)
          · replace h := if_f z h
            refine lv_aload_n hx hb d_Mo_unknown_24 rfl (lv_at hl 0 rfl) ?_
            refine lv_aload_n hx hb d_Mo_unknown_25 rfl (lv_at hl 0 rfl) ?_
            refine x_get (v := .ref (ga g 67)) C D kc_Mo (by decide) sh_66 2 rfl (by decide) wf_Mo_7 rfl rfl d_Mo_unknown_26 ?_
            refine lv_iload_n hx hb d_Mo_unknown_29 rfl (lv_at hl 2 rfl) ?_
            refine x_iald C D (by decide) sh_67 d_Mo_unknown_30 h (fun _ h => ?_)
            obtain ⟨u2, hu2, h⟩ := bd_some h
            refine x_cip (rest := []) (r_V C D (c_Mo_named l g hD (S 67 a2.toNatClampNeg) S u2 hu2) wc_Mo_named wm_Mo_85 wi_Mo_named wd_Mo_named (by decide) sh_66 kc_Mo.1 rfl rfl hl (Nat.le_of_ble_eq_true rfl) (by decide) d_Mo_unknown_31) D (fun H locs D => ?_)
            refine lv_if_ge hx hb d_Mo_unknown_34 rfl (fun z => ?_) (fun z => ?_)
            · replace h := if_t z h
              exact B41 _ hK4 _ _ _ _ h D (lv_sub hl [0, 2] rfl)
            · replace h := if_f z h
              exact B37 _ hK4 _ _ _ _ h D (lv_sub hl [0, 2] rfl)
  unfold f_Mo_unknown at h
  refine lv_iconst (v := 0) hx hb d_Mo_unknown_0 (by decide) ?_
  refine lv_istore_n (lv' := [(1, .int 0), (0, .ref (ga g 66))]) hx hb d_Mo_unknown_1 rfl hl (by decide) rfl (fun ls hl => ?_)
  refine lv_iconst (v := 0) hx hb d_Mo_unknown_2 (by decide) ?_
  refine lv_istore_n (lv' := [(2, .int 0), (1, .int 0), (0, .ref (ga g 66))]) hx hb d_Mo_unknown_3 rfl hl (by decide) rfl (fun ls hl => ?_)
  exact L4 _ _ _ _ _ _ h D (lv_sub hl [2, 1, 0] rfl)
theorem d_Mo_unused_0 : decode b_Mo_unused 0 = .ok (.iconst 0, 1) := by decide +kernel
theorem d_Mo_unused_1 : decode b_Mo_unused 1 = .ok (.istore_n 1, 1) := by decide +kernel
theorem d_Mo_unused_2 : decode b_Mo_unused 2 = .ok (.iconst 0, 1) := by decide +kernel
theorem d_Mo_unused_3 : decode b_Mo_unused 3 = .ok (.istore_n 2, 1) := by decide +kernel
theorem d_Mo_unused_4 : decode b_Mo_unused 4 = .ok (.iload_n 2, 1) := by decide +kernel
theorem d_Mo_unused_5 : decode b_Mo_unused 5 = .ok (.aload_n 0, 1) := by decide +kernel
theorem d_Mo_unused_6 : decode b_Mo_unused 6 = .ok (.getfield 53, 3) := by decide +kernel
theorem d_Mo_unused_9 : decode b_Mo_unused 9 = .ok (.if_icmp .ge 92, 3) := by decide +kernel
theorem d_Mo_unused_12 : decode b_Mo_unused 12 = .ok (.aload_n 0, 1) := by decide +kernel
theorem d_Mo_unused_13 : decode b_Mo_unused 13 = .ok (.getfield 13, 3) := by decide +kernel
theorem d_Mo_unused_16 : decode b_Mo_unused 16 = .ok (.iload_n 2, 1) := by decide +kernel
theorem d_Mo_unused_17 : decode b_Mo_unused 17 = .ok (.iaload, 1) := by decide +kernel
theorem d_Mo_unused_18 : decode b_Mo_unused 18 = .ok (.iconst 1, 1) := by decide +kernel
theorem d_Mo_unused_19 : decode b_Mo_unused 19 = .ok (.if_icmp .le 7, 3) := by decide +kernel
theorem d_Mo_unused_22 : decode b_Mo_unused 22 = .ok (.iconst 1, 1) := by decide +kernel
theorem d_Mo_unused_23 : decode b_Mo_unused 23 = .ok (.goto 4, 3) := by decide +kernel
theorem d_Mo_unused_26 : decode b_Mo_unused 26 = .ok (.iconst 0, 1) := by decide +kernel
theorem d_Mo_unused_27 : decode b_Mo_unused 27 = .ok (.istore_n 3, 1) := by decide +kernel
theorem d_Mo_unused_28 : decode b_Mo_unused 28 = .ok (.iconst 0, 1) := by decide +kernel
theorem d_Mo_unused_29 : decode b_Mo_unused 29 = .ok (.istore 4, 2) := by decide +kernel
theorem d_Mo_unused_31 : decode b_Mo_unused 31 = .ok (.iload 4, 2) := by decide +kernel
theorem d_Mo_unused_33 : decode b_Mo_unused 33 = .ok (.aload_n 0, 1) := by decide +kernel
theorem d_Mo_unused_34 : decode b_Mo_unused 34 = .ok (.getfield 50, 3) := by decide +kernel
theorem d_Mo_unused_37 : decode b_Mo_unused 37 = .ok (.if_icmp .ge 44, 3) := by decide +kernel
theorem d_Mo_unused_40 : decode b_Mo_unused 40 = .ok (.iload_n 3, 1) := by decide +kernel
theorem d_Mo_unused_41 : decode b_Mo_unused 41 = .ok (.ifCond .ne 28, 3) := by decide +kernel
theorem d_Mo_unused_44 : decode b_Mo_unused 44 = .ok (.aload_n 0, 1) := by decide +kernel
theorem d_Mo_unused_45 : decode b_Mo_unused 45 = .ok (.iload 4, 2) := by decide +kernel
theorem d_Mo_unused_47 : decode b_Mo_unused 47 = .ok (.invokevirtual 82, 3) := by decide +kernel
theorem d_Mo_unused_50 : decode b_Mo_unused 50 = .ok (.ifCond .eq 23, 3) := by decide +kernel
theorem d_Mo_unused_53 : decode b_Mo_unused 53 = .ok (.aload_n 0, 1) := by decide +kernel
theorem d_Mo_unused_54 : decode b_Mo_unused 54 = .ok (.getfield 7, 3) := by decide +kernel
theorem d_Mo_unused_57 : decode b_Mo_unused 57 = .ok (.iload 4, 2) := by decide +kernel
theorem d_Mo_unused_59 : decode b_Mo_unused 59 = .ok (.iaload, 1) := by decide +kernel
theorem d_Mo_unused_60 : decode b_Mo_unused 60 = .ok (.aload_n 0, 1) := by decide +kernel
theorem d_Mo_unused_61 : decode b_Mo_unused 61 = .ok (.getfield 16, 3) := by decide +kernel
theorem d_Mo_unused_64 : decode b_Mo_unused 64 = .ok (.iload_n 2, 1) := by decide +kernel
theorem d_Mo_unused_65 : decode b_Mo_unused 65 = .ok (.iaload, 1) := by decide +kernel
theorem d_Mo_unused_66 : decode b_Mo_unused 66 = .ok (.if_icmp .ne 7, 3) := by decide +kernel
theorem d_Mo_unused_69 : decode b_Mo_unused 69 = .ok (.iconst 1, 1) := by decide +kernel
theorem d_Mo_unused_70 : decode b_Mo_unused 70 = .ok (.goto 4, 3) := by decide +kernel
theorem d_Mo_unused_73 : decode b_Mo_unused 73 = .ok (.iconst 0, 1) := by decide +kernel
theorem d_Mo_unused_74 : decode b_Mo_unused 74 = .ok (.istore_n 3, 1) := by decide +kernel
theorem d_Mo_unused_75 : decode b_Mo_unused 75 = .ok (.iinc 4 1, 3) := by decide +kernel
theorem d_Mo_unused_78 : decode b_Mo_unused 78 = .ok (.goto (-47), 3) := by decide +kernel
theorem d_Mo_unused_81 : decode b_Mo_unused 81 = .ok (.iload_n 1, 1) := by decide +kernel
theorem d_Mo_unused_82 : decode b_Mo_unused 82 = .ok (.ifCond .ne 7, 3) := by decide +kernel
theorem d_Mo_unused_85 : decode b_Mo_unused 85 = .ok (.iload_n 3, 1) := by decide +kernel
theorem d_Mo_unused_86 : decode b_Mo_unused 86 = .ok (.ifCond .ne 7, 3) := by decide +kernel
theorem d_Mo_unused_89 : decode b_Mo_unused 89 = .ok (.iconst 1, 1) := by decide +kernel
theorem d_Mo_unused_90 : decode b_Mo_unused 90 = .ok (.goto 4, 3) := by decide +kernel
theorem d_Mo_unused_93 : decode b_Mo_unused 93 = .ok (.iconst 0, 1) := by decide +kernel
theorem d_Mo_unused_94 : decode b_Mo_unused 94 = .ok (.istore_n 1, 1) := by decide +kernel
theorem d_Mo_unused_95 : decode b_Mo_unused 95 = .ok (.iinc 2 1, 3) := by decide +kernel
theorem d_Mo_unused_98 : decode b_Mo_unused 98 = .ok (.goto (-94), 3) := by decide +kernel
theorem d_Mo_unused_101 : decode b_Mo_unused 101 = .ok (.iload_n 1, 1) := by decide +kernel
theorem d_Mo_unused_102 : decode b_Mo_unused 102 = .ok (.ireturn, 1) := by decide +kernel
def f_Mo_unused_94 (K4 : Int32 → Int32 → zSt → Option Int32) (a2 : Int32) (t0 : Int32) (S : zSt) : Option Int32 := (K4 t0 (a2 + 1) S)
def f_Mo_unused_89 (K4 : Int32 → Int32 → zSt → Option Int32) (a2 : Int32) (S : zSt) : Option Int32 := (f_Mo_unused_94 K4 a2 1 S)
def f_Mo_unused_74 (K4 : Int32 → Int32 → zSt → Option Int32) (K31 : Int32 → Int32 → Int32 → Int32 → zSt → Option Int32) (a1 : Int32) (a2 : Int32) (a4 : Int32) (t0 : Int32) (S : zSt) : Option Int32 := (K31 a1 a2 t0 (a4 + 1) S)
def f_Mo_unused_69 (K4 : Int32 → Int32 → zSt → Option Int32) (K31 : Int32 → Int32 → Int32 → Int32 → zSt → Option Int32) (a1 : Int32) (a2 : Int32) (a4 : Int32) (S : zSt) : Option Int32 := (f_Mo_unused_74 K4 K31 a1 a2 a4 1 S)
def f_Mo_unused_73 (K4 : Int32 → Int32 → zSt → Option Int32) (K31 : Int32 → Int32 → Int32 → Int32 → zSt → Option Int32) (a1 : Int32) (a2 : Int32) (a4 : Int32) (S : zSt) : Option Int32 := (f_Mo_unused_74 K4 K31 a1 a2 a4 0 S)
def f_Mo_unused_31 (K4 : Int32 → Int32 → zSt → Option Int32) : Nat → Int32 → Int32 → Int32 → Int32 → zSt → Option Int32
  | 0, _, _, _, _, _ => none
  | n + 1, a1, a2, a3, a4, S => (if (S 66 1) ≤ a4 then (if a1 = 0 then (if a3 = 0 then (f_Mo_unused_89 K4 a2 S) else (f_Mo_unused_94 K4 a2 0 S)) else (f_Mo_unused_89 K4 a2 S)) else (if a3 = 0 then ((f_Mo_variableAt a4 S).bind fun u1 => (if u1 = 0 then (f_Mo_unused_73 K4 (f_Mo_unused_31 K4 n) a1 a2 a4 S) else gdi a4 40 (gdi a2 6 ((if (S 67 a4.toNatClampNeg) = (S 69 a2.toNatClampNeg) then (f_Mo_unused_69 K4 (f_Mo_unused_31 K4 n) a1 a2 a4 S) else (f_Mo_unused_73 K4 (f_Mo_unused_31 K4 n) a1 a2 a4 S)))))) else (f_Mo_unused_69 K4 (f_Mo_unused_31 K4 n) a1 a2 a4 S)))
def f_Mo_unused_27 (K4 : Int32 → Int32 → zSt → Option Int32) (a1 : Int32) (a2 : Int32) (t0 : Int32) (S : zSt) : Option Int32 := (f_Mo_unused_31 K4 fu a1 a2 t0 0 S)
def f_Mo_unused_4 : Nat → Int32 → Int32 → zSt → Option Int32
  | 0, _, _, _ => none
  | n + 1, a1, a2, S => (if (S 66 3) ≤ a2 then (gdb a1 (some a1)) else gdi a2 6 ((if (S 68 a2.toNatClampNeg) ≤ 1 then (f_Mo_unused_27 (f_Mo_unused_4 n) a1 a2 0 S) else (f_Mo_unused_27 (f_Mo_unused_4 n) a1 a2 1 S))))
def f_Mo_unused (S : zSt) : Option Int32 := (f_Mo_unused_4 fu 0 0 S)
set_option maxHeartbeats 4000000 in
set_option maxRecDepth 100000 in
theorem c_Mo_unused (l : Launch) (g : zG) (hD : GD g) (S : zSt) (u : Int32) (h : f_Mo_unused S = some u) : Met l y_Mo_unused (mw y_Mo_unused b_Mo_unused 5 (some .boolean)) (rmD 2) (Pw g [.ref (ga g 66)] S) (Qip g S u) 0 0 (gA g) := by
  refine z_go (own := R_Mo) (lv0 := [(0, .ref (ga g 66))]) hD (by decide) rfl (Nat.le_of_ble_eq_true rfl) rfl ?_
  intro p e s m args below meth c C D ls hl
  have hx := C.1
  have hb := C.2.1
  have hown := C.2.2.2.1
  have hts := C.2.2.2.2.1
  have B94 : ∀ (K4 : Int32 → Int32 → zSt → Option Int32) (hK4 : ∀ (H : Heap) (locs : List Loc) (ls : Array Slot) (a1 : Int32) (a2 : Int32), K4 a1 a2 S = some u → Dy g s S H locs → lv_has ls 5 [(0, .ref (ga g 66)), (1, .int a1), (2, .int a2)] → W p l e (rmD 2) s m args below meth c H locs 0 0 (MQ below (Qip g S u) args s 0 0 (gA g)) (F0 m 4 ls [])) (H : Heap) (locs : List Loc) (ls : Array Slot) (a2 : Int32) (t0 : Int32), f_Mo_unused_94 K4 a2 t0 S = some u → Dy g s S H locs → lv_has ls 5 [(0, .ref (ga g 66)), (2, .int a2)] → W p l e (rmD 2) s m args below meth c H locs 0 0 (MQ below (Qip g S u) args s 0 0 (gA g)) (F0 m 94 ls [.int t0]) := by
    intro K4 hK4 H locs ls a2 t0 h D hl
    unfold f_Mo_unused_94 at h
    refine lv_istore_n (lv' := [(1, .int t0), (0, .ref (ga g 66)), (2, .int a2)]) hx hb d_Mo_unused_94 rfl hl (by decide) rfl (fun ls hl => ?_)
    refine lv_iinc (k := 2) (lv' := [(2, .int (a2 + 1)), (1, .int t0), (0, .ref (ga g 66))]) hx hb d_Mo_unused_95 hl rfl (ii1 _) (by decide) rfl (fun ls hl => ?_)
    refine lv_goto hx hb d_Mo_unused_98 rfl ?_
    exact hK4 _ _ _ _ _ h D (lv_sub hl [2, 1, 0] rfl)
  have B89 : ∀ (K4 : Int32 → Int32 → zSt → Option Int32) (hK4 : ∀ (H : Heap) (locs : List Loc) (ls : Array Slot) (a1 : Int32) (a2 : Int32), K4 a1 a2 S = some u → Dy g s S H locs → lv_has ls 5 [(0, .ref (ga g 66)), (1, .int a1), (2, .int a2)] → W p l e (rmD 2) s m args below meth c H locs 0 0 (MQ below (Qip g S u) args s 0 0 (gA g)) (F0 m 4 ls [])) (H : Heap) (locs : List Loc) (ls : Array Slot) (a2 : Int32), f_Mo_unused_89 K4 a2 S = some u → Dy g s S H locs → lv_has ls 5 [(0, .ref (ga g 66)), (2, .int a2)] → W p l e (rmD 2) s m args below meth c H locs 0 0 (MQ below (Qip g S u) args s 0 0 (gA g)) (F0 m 89 ls []) := by
    intro K4 hK4 H locs ls a2 h D hl
    unfold f_Mo_unused_89 at h
    refine lv_iconst (v := 1) hx hb d_Mo_unused_89 (by decide) ?_
    refine lv_goto hx hb d_Mo_unused_90 rfl ?_
    exact B94 _ hK4 _ _ _ _ _ h D (lv_sub hl [0, 1] rfl)
  have B74 : ∀ (K4 : Int32 → Int32 → zSt → Option Int32) (hK4 : ∀ (H : Heap) (locs : List Loc) (ls : Array Slot) (a1 : Int32) (a2 : Int32), K4 a1 a2 S = some u → Dy g s S H locs → lv_has ls 5 [(0, .ref (ga g 66)), (1, .int a1), (2, .int a2)] → W p l e (rmD 2) s m args below meth c H locs 0 0 (MQ below (Qip g S u) args s 0 0 (gA g)) (F0 m 4 ls [])) (K31 : Int32 → Int32 → Int32 → Int32 → zSt → Option Int32) (hK31 : ∀ (H : Heap) (locs : List Loc) (ls : Array Slot) (a1 : Int32) (a2 : Int32) (a3 : Int32) (a4 : Int32), K31 a1 a2 a3 a4 S = some u → Dy g s S H locs → lv_has ls 5 [(0, .ref (ga g 66)), (1, .int a1), (2, .int a2), (3, .int a3), (4, .int a4)] → W p l e (rmD 2) s m args below meth c H locs 0 0 (MQ below (Qip g S u) args s 0 0 (gA g)) (F0 m 31 ls [])) (H : Heap) (locs : List Loc) (ls : Array Slot) (a1 : Int32) (a2 : Int32) (a4 : Int32) (t0 : Int32), f_Mo_unused_74 K4 K31 a1 a2 a4 t0 S = some u → Dy g s S H locs → lv_has ls 5 [(0, .ref (ga g 66)), (1, .int a1), (2, .int a2), (4, .int a4)] → W p l e (rmD 2) s m args below meth c H locs 0 0 (MQ below (Qip g S u) args s 0 0 (gA g)) (F0 m 74 ls [.int t0]) := by
    intro K4 hK4 K31 hK31 H locs ls a1 a2 a4 t0 h D hl
    unfold f_Mo_unused_74 at h
    refine lv_istore_n (lv' := [(3, .int t0), (0, .ref (ga g 66)), (1, .int a1), (2, .int a2), (4, .int a4)]) hx hb d_Mo_unused_74 rfl hl (by decide) rfl (fun ls hl => ?_)
    refine lv_iinc (k := 4) (lv' := [(4, .int (a4 + 1)), (3, .int t0), (0, .ref (ga g 66)), (1, .int a1), (2, .int a2)]) hx hb d_Mo_unused_75 hl rfl (ii1 _) (by decide) rfl (fun ls hl => ?_)
    refine lv_goto hx hb d_Mo_unused_78 rfl ?_
    exact hK31 _ _ _ _ _ _ _ h D (lv_sub hl [2, 3, 4, 1, 0] rfl)
  have B69 : ∀ (K4 : Int32 → Int32 → zSt → Option Int32) (hK4 : ∀ (H : Heap) (locs : List Loc) (ls : Array Slot) (a1 : Int32) (a2 : Int32), K4 a1 a2 S = some u → Dy g s S H locs → lv_has ls 5 [(0, .ref (ga g 66)), (1, .int a1), (2, .int a2)] → W p l e (rmD 2) s m args below meth c H locs 0 0 (MQ below (Qip g S u) args s 0 0 (gA g)) (F0 m 4 ls [])) (K31 : Int32 → Int32 → Int32 → Int32 → zSt → Option Int32) (hK31 : ∀ (H : Heap) (locs : List Loc) (ls : Array Slot) (a1 : Int32) (a2 : Int32) (a3 : Int32) (a4 : Int32), K31 a1 a2 a3 a4 S = some u → Dy g s S H locs → lv_has ls 5 [(0, .ref (ga g 66)), (1, .int a1), (2, .int a2), (3, .int a3), (4, .int a4)] → W p l e (rmD 2) s m args below meth c H locs 0 0 (MQ below (Qip g S u) args s 0 0 (gA g)) (F0 m 31 ls [])) (H : Heap) (locs : List Loc) (ls : Array Slot) (a1 : Int32) (a2 : Int32) (a4 : Int32), f_Mo_unused_69 K4 K31 a1 a2 a4 S = some u → Dy g s S H locs → lv_has ls 5 [(0, .ref (ga g 66)), (1, .int a1), (2, .int a2), (4, .int a4)] → W p l e (rmD 2) s m args below meth c H locs 0 0 (MQ below (Qip g S u) args s 0 0 (gA g)) (F0 m 69 ls []) := by
    intro K4 hK4 K31 hK31 H locs ls a1 a2 a4 h D hl
    unfold f_Mo_unused_69 at h
    refine lv_iconst (v := 1) hx hb d_Mo_unused_69 (by decide) ?_
    refine lv_goto hx hb d_Mo_unused_70 rfl ?_
    exact B74 _ hK4 _ hK31 _ _ _ _ _ _ _ h D (lv_sub hl [0, 1, 2, 3] rfl)
  have B73 : ∀ (K4 : Int32 → Int32 → zSt → Option Int32) (hK4 : ∀ (H : Heap) (locs : List Loc) (ls : Array Slot) (a1 : Int32) (a2 : Int32), K4 a1 a2 S = some u → Dy g s S H locs → lv_has ls 5 [(0, .ref (ga g 66)), (1, .int a1), (2, .int a2)] → W p l e (rmD 2) s m args below meth c H locs 0 0 (MQ below (Qip g S u) args s 0 0 (gA g)) (F0 m 4 ls [])) (K31 : Int32 → Int32 → Int32 → Int32 → zSt → Option Int32) (hK31 : ∀ (H : Heap) (locs : List Loc) (ls : Array Slot) (a1 : Int32) (a2 : Int32) (a3 : Int32) (a4 : Int32), K31 a1 a2 a3 a4 S = some u → Dy g s S H locs → lv_has ls 5 [(0, .ref (ga g 66)), (1, .int a1), (2, .int a2), (3, .int a3), (4, .int a4)] → W p l e (rmD 2) s m args below meth c H locs 0 0 (MQ below (Qip g S u) args s 0 0 (gA g)) (F0 m 31 ls [])) (H : Heap) (locs : List Loc) (ls : Array Slot) (a1 : Int32) (a2 : Int32) (a4 : Int32), f_Mo_unused_73 K4 K31 a1 a2 a4 S = some u → Dy g s S H locs → lv_has ls 5 [(0, .ref (ga g 66)), (1, .int a1), (2, .int a2), (4, .int a4)] → W p l e (rmD 2) s m args below meth c H locs 0 0 (MQ below (Qip g S u) args s 0 0 (gA g)) (F0 m 73 ls []) := by
    intro K4 hK4 K31 hK31 H locs ls a1 a2 a4 h D hl
    unfold f_Mo_unused_73 at h
    refine lv_iconst (v := 0) hx hb d_Mo_unused_73 (by decide) ?_
    exact B74 _ hK4 _ hK31 _ _ _ _ _ _ _ h D (lv_sub hl [0, 1, 2, 3] rfl)
  have L31 : ∀ (K4 : Int32 → Int32 → zSt → Option Int32) (hK4 : ∀ (H : Heap) (locs : List Loc) (ls : Array Slot) (a1 : Int32) (a2 : Int32), K4 a1 a2 S = some u → Dy g s S H locs → lv_has ls 5 [(0, .ref (ga g 66)), (1, .int a1), (2, .int a2)] → W p l e (rmD 2) s m args below meth c H locs 0 0 (MQ below (Qip g S u) args s 0 0 (gA g)) (F0 m 4 ls [])) (n : Nat) (H : Heap) (locs : List Loc) (ls : Array Slot) (a1 : Int32) (a2 : Int32) (a3 : Int32) (a4 : Int32), f_Mo_unused_31 K4 n a1 a2 a3 a4 S = some u → Dy g s S H locs → lv_has ls 5 [(0, .ref (ga g 66)), (1, .int a1), (2, .int a2), (3, .int a3), (4, .int a4)] → W p l e (rmD 2) s m args below meth c H locs 0 0 (MQ below (Qip g S u) args s 0 0 (gA g)) (F0 m 31 ls []) := by
    intro K4 hK4 n
    induction n with
    | zero => intro H locs ls a1 a2 a3 a4 h D hl; rw [f_Mo_unused_31] at h; cases h
    | succ n hK31 =>
      intro H locs ls a1 a2 a3 a4 h D hl
      rw [f_Mo_unused_31] at h
      refine lv_iload hx hb d_Mo_unused_31 (lv_at hl 4 rfl) ?_
      refine lv_aload_n hx hb d_Mo_unused_33 rfl (lv_at hl 0 rfl) ?_
      refine x_get (v := .int (S 66 1)) C D kc_Mo (by decide) sh_66 1 rfl (by decide) wf_Mo_50 rfl rfl d_Mo_unused_34 ?_
      refine lv_icmp_ge hx hb d_Mo_unused_37 rfl (fun z => ?_) (fun z => ?_)
      · replace h := if_t z h
        refine lv_iload_n hx hb d_Mo_unused_81 rfl (lv_at hl 1 rfl) ?_
        refine lv_if_ne hx hb d_Mo_unused_82 rfl (fun z => ?_) (fun z => ?_)
        · replace h := if_f z h
          exact B89 _ hK4 _ _ _ _ h D (lv_sub hl [0, 2] rfl)
        · replace h := if_t z h
          refine lv_iload_n hx hb d_Mo_unused_85 rfl (lv_at hl 3 rfl) ?_
          refine lv_if_ne hx hb d_Mo_unused_86 rfl (fun z => ?_) (fun z => ?_)
          · replace h := if_f z h
            refine lv_iconst (v := 0) hx hb d_Mo_unused_93 (by decide) ?_
            exact B94 _ hK4 _ _ _ _ _ h D (lv_sub hl [0, 2] rfl)
          · replace h := if_t z h
            exact B89 _ hK4 _ _ _ _ h D (lv_sub hl [0, 2] rfl)
      · replace h := if_f z h
        refine lv_iload_n hx hb d_Mo_unused_40 rfl (lv_at hl 3 rfl) ?_
        refine lv_if_ne hx hb d_Mo_unused_41 rfl (fun z => ?_) (fun z => ?_)
        · replace h := if_f z h
          exact B69 _ hK4 _ hK31 _ _ _ _ _ _ h D (lv_sub hl [0, 1, 2, 4] rfl)
        · replace h := if_t z h
          refine lv_aload_n hx hb d_Mo_unused_44 rfl (lv_at hl 0 rfl) ?_
          refine lv_iload hx hb d_Mo_unused_45 (lv_at hl 4 rfl) ?_
          obtain ⟨u1, hu1, h⟩ := bd_some h
          refine x_cip (rest := []) (r_V C D (c_Mo_variableAt l g hD a4 S u1 hu1) wc_Mo_variableAt wm_Mo_82 wi_Mo_variableAt wd_Mo_variableAt (by decide) sh_66 kc_Mo.1 rfl rfl hl (Nat.le_of_ble_eq_true rfl) (by decide) d_Mo_unused_47) D (fun H locs D => ?_)
          refine lv_if_eq hx hb d_Mo_unused_50 rfl (fun z => ?_) (fun z => ?_)
          · replace h := if_t z h
            exact B73 _ hK4 _ hK31 _ _ _ _ _ _ h D (lv_sub hl [0, 1, 2, 4] rfl)
          · replace h := if_f z h
            refine lv_aload_n hx hb d_Mo_unused_53 rfl (lv_at hl 0 rfl) ?_
            refine x_get (v := .ref (ga g 67)) C D kc_Mo (by decide) sh_66 2 rfl (by decide) wf_Mo_7 rfl rfl d_Mo_unused_54 ?_
            refine lv_iload hx hb d_Mo_unused_57 (lv_at hl 4 rfl) ?_
            refine x_iald C D (by decide) sh_67 d_Mo_unused_59 h (fun _ h => ?_)
            refine lv_aload_n hx hb d_Mo_unused_60 rfl (lv_at hl 0 rfl) ?_
            refine x_get (v := .ref (ga g 69)) C D kc_Mo (by decide) sh_66 5 rfl (by decide) wf_Mo_16 rfl rfl d_Mo_unused_61 ?_
            refine lv_iload_n hx hb d_Mo_unused_64 rfl (lv_at hl 2 rfl) ?_
            refine x_iald C D (by decide) sh_69 d_Mo_unused_65 h (fun _ h => ?_)
            refine lv_icmp_ne hx hb d_Mo_unused_66 rfl (fun z => ?_) (fun z => ?_)
            · replace h := if_f z h
              exact B73 _ hK4 _ hK31 _ _ _ _ _ _ h D (lv_sub hl [0, 1, 2, 4] rfl)
            · replace h := if_t z h
              exact B69 _ hK4 _ hK31 _ _ _ _ _ _ h D (lv_sub hl [0, 1, 2, 4] rfl)
  have B27 : ∀ (K4 : Int32 → Int32 → zSt → Option Int32) (hK4 : ∀ (H : Heap) (locs : List Loc) (ls : Array Slot) (a1 : Int32) (a2 : Int32), K4 a1 a2 S = some u → Dy g s S H locs → lv_has ls 5 [(0, .ref (ga g 66)), (1, .int a1), (2, .int a2)] → W p l e (rmD 2) s m args below meth c H locs 0 0 (MQ below (Qip g S u) args s 0 0 (gA g)) (F0 m 4 ls [])) (H : Heap) (locs : List Loc) (ls : Array Slot) (a1 : Int32) (a2 : Int32) (t0 : Int32), f_Mo_unused_27 K4 a1 a2 t0 S = some u → Dy g s S H locs → lv_has ls 5 [(0, .ref (ga g 66)), (1, .int a1), (2, .int a2)] → W p l e (rmD 2) s m args below meth c H locs 0 0 (MQ below (Qip g S u) args s 0 0 (gA g)) (F0 m 27 ls [.int t0]) := by
    intro K4 hK4 H locs ls a1 a2 t0 h D hl
    unfold f_Mo_unused_27 at h
    refine lv_istore_n (lv' := [(3, .int t0), (0, .ref (ga g 66)), (1, .int a1), (2, .int a2)]) hx hb d_Mo_unused_27 rfl hl (by decide) rfl (fun ls hl => ?_)
    refine lv_iconst (v := 0) hx hb d_Mo_unused_28 (by decide) ?_
    refine lv_istore (lv' := [(4, .int 0), (3, .int t0), (0, .ref (ga g 66)), (1, .int a1), (2, .int a2)]) hx hb d_Mo_unused_29 hl (by decide) rfl (fun ls hl => ?_)
    exact L31 _ hK4 _ _ _ _ _ _ _ _ h D (lv_sub hl [2, 3, 4, 1, 0] rfl)
  have L4 : ∀ (n : Nat) (H : Heap) (locs : List Loc) (ls : Array Slot) (a1 : Int32) (a2 : Int32), f_Mo_unused_4 n a1 a2 S = some u → Dy g s S H locs → lv_has ls 5 [(0, .ref (ga g 66)), (1, .int a1), (2, .int a2)] → W p l e (rmD 2) s m args below meth c H locs 0 0 (MQ below (Qip g S u) args s 0 0 (gA g)) (F0 m 4 ls []) := by
    intro n
    induction n with
    | zero => intro H locs ls a1 a2 h D hl; rw [f_Mo_unused_4] at h; cases h
    | succ n hK4 =>
      intro H locs ls a1 a2 h D hl
      rw [f_Mo_unused_4] at h
      refine lv_iload_n hx hb d_Mo_unused_4 rfl (lv_at hl 2 rfl) ?_
      refine lv_aload_n hx hb d_Mo_unused_5 rfl (lv_at hl 0 rfl) ?_
      refine x_get (v := .int (S 66 3)) C D kc_Mo (by decide) sh_66 3 rfl (by decide) wf_Mo_53 rfl rfl d_Mo_unused_6 ?_
      refine lv_icmp_ge hx hb d_Mo_unused_9 rfl (fun z => ?_) (fun z => ?_)
      · replace h := if_t z h
        refine lv_iload_n hx hb d_Mo_unused_101 rfl (lv_at hl 1 rfl) ?_
        exact x_zrp C D h d_Mo_unused_102
      · replace h := if_f z h
        refine lv_aload_n hx hb d_Mo_unused_12 rfl (lv_at hl 0 rfl) ?_
        refine x_get (v := .ref (ga g 68)) C D kc_Mo (by decide) sh_66 4 rfl (by decide) wf_Mo_13 rfl rfl d_Mo_unused_13 ?_
        refine lv_iload_n hx hb d_Mo_unused_16 rfl (lv_at hl 2 rfl) ?_
        refine x_iald C D (by decide) sh_68 d_Mo_unused_17 h (fun _ h => ?_)
        refine lv_iconst (v := 1) hx hb d_Mo_unused_18 (by decide) ?_
        refine lv_icmp_le hx hb d_Mo_unused_19 rfl (fun z => ?_) (fun z => ?_)
        · replace h := if_t z h
          refine lv_iconst (v := 0) hx hb d_Mo_unused_26 (by decide) ?_
          exact B27 _ hK4 _ _ _ _ _ _ h D (lv_sub hl [0, 1, 2] rfl)
        · replace h := if_f z h
          refine lv_iconst (v := 1) hx hb d_Mo_unused_22 (by decide) ?_
          refine lv_goto hx hb d_Mo_unused_23 rfl ?_
          exact B27 _ hK4 _ _ _ _ _ _ h D (lv_sub hl [0, 1, 2] rfl)
  unfold f_Mo_unused at h
  refine lv_iconst (v := 0) hx hb d_Mo_unused_0 (by decide) ?_
  refine lv_istore_n (lv' := [(1, .int 0), (0, .ref (ga g 66))]) hx hb d_Mo_unused_1 rfl hl (by decide) rfl (fun ls hl => ?_)
  refine lv_iconst (v := 0) hx hb d_Mo_unused_2 (by decide) ?_
  refine lv_istore_n (lv' := [(2, .int 0), (1, .int 0), (0, .ref (ga g 66))]) hx hb d_Mo_unused_3 rfl hl (by decide) rfl (fun ls hl => ?_)
  exact L4 _ _ _ _ _ _ h D (lv_sub hl [2, 1, 0] rfl)
