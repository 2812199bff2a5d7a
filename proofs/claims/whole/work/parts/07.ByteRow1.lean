theorem d_ByteRow_put_0 : decode b_ByteRow_put 0 = .ok (.aload_n 0, 1) := by decide +kernel
theorem d_ByteRow_put_1 : decode b_ByteRow_put 1 = .ok (.getfield 7, 3) := by decide +kernel
theorem d_ByteRow_put_4 : decode b_ByteRow_put 4 = .ok (.aload_n 0, 1) := by decide +kernel
theorem d_ByteRow_put_5 : decode b_ByteRow_put 5 = .ok (.getfield 13, 3) := by decide +kernel
theorem d_ByteRow_put_8 : decode b_ByteRow_put 8 = .ok (.arraylength, 1) := by decide +kernel
theorem d_ByteRow_put_9 : decode b_ByteRow_put 9 = .ok (.if_icmp .ge 14, 3) := by decide +kernel
theorem d_ByteRow_put_12 : decode b_ByteRow_put 12 = .ok (.aload_n 0, 1) := by decide +kernel
theorem d_ByteRow_put_13 : decode b_ByteRow_put 13 = .ok (.getfield 13, 3) := by decide +kernel
theorem d_ByteRow_put_16 : decode b_ByteRow_put 16 = .ok (.aload_n 0, 1) := by decide +kernel
theorem d_ByteRow_put_17 : decode b_ByteRow_put 17 = .ok (.getfield 7, 3) := by decide +kernel
theorem d_ByteRow_put_20 : decode b_ByteRow_put 20 = .ok (.iload_n 1, 1) := by decide +kernel
theorem d_ByteRow_put_21 : decode b_ByteRow_put 21 = .ok (.i2b, 1) := by decide +kernel
theorem d_ByteRow_put_22 : decode b_ByteRow_put 22 = .ok (.bastore, 1) := by decide +kernel
theorem d_ByteRow_put_23 : decode b_ByteRow_put 23 = .ok (.aload_n 0, 1) := by decide +kernel
theorem d_ByteRow_put_24 : decode b_ByteRow_put 24 = .ok (.dup, 1) := by decide +kernel
theorem d_ByteRow_put_25 : decode b_ByteRow_put 25 = .ok (.getfield 7, 3) := by decide +kernel
theorem d_ByteRow_put_28 : decode b_ByteRow_put 28 = .ok (.iconst 1, 1) := by decide +kernel
theorem d_ByteRow_put_29 : decode b_ByteRow_put 29 = .ok (.iadd, 1) := by decide +kernel
theorem d_ByteRow_put_30 : decode b_ByteRow_put 30 = .ok (.putfield 7, 3) := by decide +kernel
theorem d_ByteRow_put_33 : decode b_ByteRow_put 33 = .ok (.return_, 1) := by decide +kernel
def f_ByteRow_put_23 (k0 : Nat) (S : zSt) : Option zSt := sq (su S (58 + k0) 1 ((S (58 + k0) 1) + 1)) fun S1 => (some S1)
def f_ByteRow_put (k0 : Nat) (a1 : Int32) (S : zSt) : Option zSt := (if (Int32.ofNat (bl k0)) ≤ (S (58 + k0) 1) then (f_ByteRow_put_23 k0 S) else gdi (S (58 + k0) 1) (bl k0) (sq (su S (62 + k0) (S (58 + k0) 1).toNatClampNeg (vp_nar .byte (a1.toInt8.toInt32))) fun S2 => (f_ByteRow_put_23 k0 S2)))
set_option maxHeartbeats 4000000 in
set_option maxRecDepth 100000 in
theorem c_ByteRow_put (l : Launch) (g : zG) (hD : GD g) (k0 : Nat) (hk0 : k0 < 4) (a1 : Int32) (S : zSt) (u : zSt) (h : f_ByteRow_put k0 a1 S = some u) : Met l y_ByteRow_put (mw y_ByteRow_put b_ByteRow_put 2 none) (rmD 0) (Pw g [.ref (ga g (58 + k0)), .int a1] S) (Qvs g u) 0 0 (gA g) := by
  refine z_go (own := R_ByteRow) (lv0 := [(0, .ref (ga g (58 + k0))), (1, .int a1)]) hD (by decide) rfl (Nat.le_of_ble_eq_true rfl) rfl ?_
  intro p e s m args below meth c C D ls hl
  have hx := C.1
  have hb := C.2.1
  have hown := C.2.2.2.1
  have hts := C.2.2.2.2.1
  have B23 : ∀ (H : Heap) (locs : List Loc) (S : zSt) (ls : Array Slot) (k0 : Nat) (hk0 : k0 < 4), f_ByteRow_put_23 k0 S = some u → Dy g s S H locs → lv_has ls 2 [(0, .ref (ga g (58 + k0)))] → W p l e (rmD 0) s m args below meth c H locs 0 0 (MQ below (Qvs g u) args s 0 0 (gA g)) (F0 m 23 ls []) := by
    intro H locs S ls k0 hk0 h D hl
    unfold f_ByteRow_put_23 at h
    refine lv_aload_n hx hb d_ByteRow_put_23 rfl (lv_at hl 0 rfl) ?_
    refine lv_dup hx hb d_ByteRow_put_24 rfl ?_
    refine x_get (v := .int (S (58 + k0) 1)) C D kc_ByteRow (nR hk0) (sh_R hk0) 1 rfl (by decide) wf_ByteRow_7 rfl rfl d_ByteRow_put_25 ?_
    refine lv_iconst (v := 1) hx hb d_ByteRow_put_28 (by decide) ?_
    refine lv_iadd hx hb d_ByteRow_put_29 ?_
    refine x_put C D kc_ByteRow (nR hk0) (sh_R hk0) 1 rfl (by decide) wf_ByteRow_7 rfl rfl ((S (58 + k0) 1) + 1) rfl ⟨rfl, rfl⟩ d_ByteRow_put_30 h (fun S1 H locs h D => ?_)
    exact x_vrs C D h d_ByteRow_put_33
  unfold f_ByteRow_put at h
  refine lv_aload_n hx hb d_ByteRow_put_0 rfl (lv_at hl 0 rfl) ?_
  refine x_get (v := .int (S (58 + k0) 1)) C D kc_ByteRow (nR hk0) (sh_R hk0) 1 rfl (by decide) wf_ByteRow_7 rfl rfl d_ByteRow_put_1 ?_
  refine lv_aload_n hx hb d_ByteRow_put_4 rfl (lv_at hl 0 rfl) ?_
  refine x_get (v := .ref (ga g (62 + k0))) C D kc_ByteRow (nR hk0) (sh_R hk0) 0 rfl (by decide) wf_ByteRow_13 rfl (fvv_r _ _ (by have q_ : k0 < 4 := hk0; omega)) d_ByteRow_put_5 ?_
  refine x_alen2 C D (nRB hk0) (sh_RB hk0) d_ByteRow_put_8 ?_
  refine lv_icmp_ge hx hb d_ByteRow_put_9 rfl (fun z => ?_) (fun z => ?_)
  · replace h := if_t z h
    exact B23 _ _ _ _ _ hk0 h D (lv_sub hl [0] rfl)
  · replace h := if_f z h
    refine lv_aload_n hx hb d_ByteRow_put_12 rfl (lv_at hl 0 rfl) ?_
    refine x_get (v := .ref (ga g (62 + k0))) C D kc_ByteRow (nR hk0) (sh_R hk0) 0 rfl (by decide) wf_ByteRow_13 rfl (fvv_r _ _ (by have q_ : k0 < 4 := hk0; omega)) d_ByteRow_put_13 ?_
    refine lv_aload_n hx hb d_ByteRow_put_16 rfl (lv_at hl 0 rfl) ?_
    refine x_get (v := .int (S (58 + k0) 1)) C D kc_ByteRow (nR hk0) (sh_R hk0) 1 rfl (by decide) wf_ByteRow_7 rfl rfl d_ByteRow_put_17 ?_
    refine lv_iload_n hx hb d_ByteRow_put_20 rfl (lv_at hl 1 rfl) ?_
    refine lv_i2b hx hb d_ByteRow_put_21 rfl ?_
    refine x_bast C D (nRB hk0) (sh_RB hk0) d_ByteRow_put_22 h (fun S2 H locs h D => ?_)
    exact B23 _ _ _ _ _ hk0 h D (lv_sub hl [0] rfl)
theorem d_ByteRow_has_0 : decode b_ByteRow_has 0 = .ok (.iconst 0, 1) := by decide +kernel
theorem d_ByteRow_has_1 : decode b_ByteRow_has 1 = .ok (.istore_n 2, 1) := by decide +kernel
theorem d_ByteRow_has_2 : decode b_ByteRow_has 2 = .ok (.iload_n 2, 1) := by decide +kernel
theorem d_ByteRow_has_3 : decode b_ByteRow_has 3 = .ok (.aload_n 0, 1) := by decide +kernel
theorem d_ByteRow_has_4 : decode b_ByteRow_has 4 = .ok (.getfield 7, 3) := by decide +kernel
theorem d_ByteRow_has_7 : decode b_ByteRow_has 7 = .ok (.if_icmp .ge 30, 3) := by decide +kernel
theorem d_ByteRow_has_10 : decode b_ByteRow_has 10 = .ok (.iload_n 2, 1) := by decide +kernel
theorem d_ByteRow_has_11 : decode b_ByteRow_has 11 = .ok (.aload_n 0, 1) := by decide +kernel
theorem d_ByteRow_has_12 : decode b_ByteRow_has 12 = .ok (.getfield 13, 3) := by decide +kernel
theorem d_ByteRow_has_15 : decode b_ByteRow_has 15 = .ok (.arraylength, 1) := by decide +kernel
theorem d_ByteRow_has_16 : decode b_ByteRow_has 16 = .ok (.if_icmp .ge 21, 3) := by decide +kernel
theorem d_ByteRow_has_19 : decode b_ByteRow_has 19 = .ok (.aload_n 0, 1) := by decide +kernel
theorem d_ByteRow_has_20 : decode b_ByteRow_has 20 = .ok (.getfield 13, 3) := by decide +kernel
theorem d_ByteRow_has_23 : decode b_ByteRow_has 23 = .ok (.iload_n 2, 1) := by decide +kernel
theorem d_ByteRow_has_24 : decode b_ByteRow_has 24 = .ok (.baload, 1) := by decide +kernel
theorem d_ByteRow_has_25 : decode b_ByteRow_has 25 = .ok (.iload_n 1, 1) := by decide +kernel
theorem d_ByteRow_has_26 : decode b_ByteRow_has 26 = .ok (.if_icmp .ne 5, 3) := by decide +kernel
theorem d_ByteRow_has_29 : decode b_ByteRow_has 29 = .ok (.iconst 1, 1) := by decide +kernel
theorem d_ByteRow_has_30 : decode b_ByteRow_has 30 = .ok (.ireturn, 1) := by decide +kernel
theorem d_ByteRow_has_31 : decode b_ByteRow_has 31 = .ok (.iinc 2 1, 3) := by decide +kernel
theorem d_ByteRow_has_34 : decode b_ByteRow_has 34 = .ok (.goto (-32), 3) := by decide +kernel
theorem d_ByteRow_has_37 : decode b_ByteRow_has 37 = .ok (.iconst 0, 1) := by decide +kernel
theorem d_ByteRow_has_38 : decode b_ByteRow_has 38 = .ok (.ireturn, 1) := by decide +kernel
def f_ByteRow_has_2 : Nat → Nat → Int32 → Int32 → zSt → Option Int32
  | 0, _, _, _, _ => none
  | n + 1, k0, a1, a2, S => (if (S (58 + k0) 1) ≤ a2 then (gdb 0 (some 0)) else (if (Int32.ofNat (bl k0)) ≤ a2 then (gdb 0 (some 0)) else gdi a2 (bl k0) ((if (S (62 + k0) a2.toNatClampNeg) = a1 then (gdb 1 (some 1)) else ((f_ByteRow_has_2 n) k0 a1 (a2 + 1) S)))))
def f_ByteRow_has (k0 : Nat) (a1 : Int32) (S : zSt) : Option Int32 := (f_ByteRow_has_2 fu k0 a1 0 S)
set_option maxHeartbeats 4000000 in
set_option maxRecDepth 100000 in
theorem c_ByteRow_has (l : Launch) (g : zG) (hD : GD g) (k0 : Nat) (hk0 : k0 < 4) (a1 : Int32) (S : zSt) (u : Int32) (h : f_ByteRow_has k0 a1 S = some u) : Met l y_ByteRow_has (mw y_ByteRow_has b_ByteRow_has 3 (some .boolean)) (rmD 0) (Pw g [.ref (ga g (58 + k0)), .int a1] S) (Qip g S u) 0 0 (gA g) := by
  refine z_go (own := R_ByteRow) (lv0 := [(0, .ref (ga g (58 + k0))), (1, .int a1)]) hD (by decide) rfl (Nat.le_of_ble_eq_true rfl) rfl ?_
  intro p e s m args below meth c C D ls hl
  have hx := C.1
  have hb := C.2.1
  have hown := C.2.2.2.1
  have hts := C.2.2.2.2.1
  have L2 : ∀ (n : Nat) (H : Heap) (locs : List Loc) (ls : Array Slot) (k0 : Nat) (hk0 : k0 < 4) (a1 : Int32) (a2 : Int32), f_ByteRow_has_2 n k0 a1 a2 S = some u → Dy g s S H locs → lv_has ls 3 [(0, .ref (ga g (58 + k0))), (1, .int a1), (2, .int a2)] → W p l e (rmD 0) s m args below meth c H locs 0 0 (MQ below (Qip g S u) args s 0 0 (gA g)) (F0 m 2 ls []) := by
    intro n
    induction n with
    | zero => intro H locs ls k0 hk0 a1 a2 h D hl; rw [f_ByteRow_has_2] at h; cases h
    | succ n hK2 =>
      intro H locs ls k0 hk0 a1 a2 h D hl
      rw [f_ByteRow_has_2] at h
      refine lv_iload_n hx hb d_ByteRow_has_2 rfl (lv_at hl 2 rfl) ?_
      refine lv_aload_n hx hb d_ByteRow_has_3 rfl (lv_at hl 0 rfl) ?_
      refine x_get (v := .int (S (58 + k0) 1)) C D kc_ByteRow (nR hk0) (sh_R hk0) 1 rfl (by decide) wf_ByteRow_7 rfl rfl d_ByteRow_has_4 ?_
      refine lv_icmp_ge hx hb d_ByteRow_has_7 rfl (fun z => ?_) (fun z => ?_)
      · replace h := if_t z h
        refine lv_iconst (v := 0) hx hb d_ByteRow_has_37 (by decide) ?_
        exact x_zrp C D h d_ByteRow_has_38
      · replace h := if_f z h
        refine lv_iload_n hx hb d_ByteRow_has_10 rfl (lv_at hl 2 rfl) ?_
        refine lv_aload_n hx hb d_ByteRow_has_11 rfl (lv_at hl 0 rfl) ?_
        refine x_get (v := .ref (ga g (62 + k0))) C D kc_ByteRow (nR hk0) (sh_R hk0) 0 rfl (by decide) wf_ByteRow_13 rfl (fvv_r _ _ (by have q_ : k0 < 4 := hk0; omega)) d_ByteRow_has_12 ?_
        refine x_alen2 C D (nRB hk0) (sh_RB hk0) d_ByteRow_has_15 ?_
        refine lv_icmp_ge hx hb d_ByteRow_has_16 rfl (fun z => ?_) (fun z => ?_)
        · replace h := if_t z h
          refine lv_iconst (v := 0) hx hb d_ByteRow_has_37 (by decide) ?_
          exact x_zrp C D h d_ByteRow_has_38
        · replace h := if_f z h
          refine lv_aload_n hx hb d_ByteRow_has_19 rfl (lv_at hl 0 rfl) ?_
          refine x_get (v := .ref (ga g (62 + k0))) C D kc_ByteRow (nR hk0) (sh_R hk0) 0 rfl (by decide) wf_ByteRow_13 rfl (fvv_r _ _ (by have q_ : k0 < 4 := hk0; omega)) d_ByteRow_has_20 ?_
          refine lv_iload_n hx hb d_ByteRow_has_23 rfl (lv_at hl 2 rfl) ?_
          refine x_bald C D (nRB hk0) (sh_RB hk0) d_ByteRow_has_24 h (fun _ h => ?_)
          refine lv_iload_n hx hb d_ByteRow_has_25 rfl (lv_at hl 1 rfl) ?_
          refine lv_icmp_ne hx hb d_ByteRow_has_26 rfl (fun z => ?_) (fun z => ?_)
          · replace h := if_f z h
            refine lv_iinc (k := 2) (lv' := [(2, .int (a2 + 1)), (0, .ref (ga g (58 + k0))), (1, .int a1)]) hx hb d_ByteRow_has_31 hl rfl (ii1 _) (by decide) rfl (fun ls hl => ?_)
            refine lv_goto hx hb d_ByteRow_has_34 rfl ?_
            exact hK2 _ _ _ _ hk0 _ _ h D (lv_sub hl [1, 2, 0] rfl)
          · replace h := if_t z h
            refine lv_iconst (v := 1) hx hb d_ByteRow_has_29 (by decide) ?_
            exact x_zrp C D h d_ByteRow_has_30
  unfold f_ByteRow_has at h
  refine lv_iconst (v := 0) hx hb d_ByteRow_has_0 (by decide) ?_
  refine lv_istore_n (lv' := [(2, .int 0), (0, .ref (ga g (58 + k0))), (1, .int a1)]) hx hb d_ByteRow_has_1 rfl hl (by decide) rfl (fun ls hl => ?_)
  exact L2 _ _ _ _ _ hk0 _ _ h D (lv_sub hl [1, 2, 0] rfl)
theorem d_ByteRow_at_0 : decode b_ByteRow_at 0 = .ok (.iload_n 1, 1) := by decide +kernel
theorem d_ByteRow_at_1 : decode b_ByteRow_at 1 = .ok (.ifCond .lt 33, 3) := by decide +kernel
theorem d_ByteRow_at_4 : decode b_ByteRow_at 4 = .ok (.iload_n 1, 1) := by decide +kernel
theorem d_ByteRow_at_5 : decode b_ByteRow_at 5 = .ok (.aload_n 0, 1) := by decide +kernel
theorem d_ByteRow_at_6 : decode b_ByteRow_at 6 = .ok (.getfield 7, 3) := by decide +kernel
theorem d_ByteRow_at_9 : decode b_ByteRow_at 9 = .ok (.if_icmp .ge 25, 3) := by decide +kernel
theorem d_ByteRow_at_12 : decode b_ByteRow_at 12 = .ok (.iload_n 1, 1) := by decide +kernel
theorem d_ByteRow_at_13 : decode b_ByteRow_at 13 = .ok (.aload_n 0, 1) := by decide +kernel
theorem d_ByteRow_at_14 : decode b_ByteRow_at 14 = .ok (.getfield 13, 3) := by decide +kernel
theorem d_ByteRow_at_17 : decode b_ByteRow_at 17 = .ok (.arraylength, 1) := by decide +kernel
theorem d_ByteRow_at_18 : decode b_ByteRow_at 18 = .ok (.if_icmp .ge 16, 3) := by decide +kernel
theorem d_ByteRow_at_21 : decode b_ByteRow_at 21 = .ok (.aload_n 0, 1) := by decide +kernel
theorem d_ByteRow_at_22 : decode b_ByteRow_at 22 = .ok (.getfield 13, 3) := by decide +kernel
theorem d_ByteRow_at_25 : decode b_ByteRow_at 25 = .ok (.iload_n 1, 1) := by decide +kernel
theorem d_ByteRow_at_26 : decode b_ByteRow_at 26 = .ok (.baload, 1) := by decide +kernel
theorem d_ByteRow_at_27 : decode b_ByteRow_at 27 = .ok (.sipush 255, 3) := by decide +kernel
theorem d_ByteRow_at_30 : decode b_ByteRow_at 30 = .ok (.iand, 1) := by decide +kernel
theorem d_ByteRow_at_31 : decode b_ByteRow_at 31 = .ok (.goto 4, 3) := by decide +kernel
theorem d_ByteRow_at_34 : decode b_ByteRow_at 34 = .ok (.iconst (-1), 1) := by decide +kernel
theorem d_ByteRow_at_35 : decode b_ByteRow_at 35 = .ok (.ireturn, 1) := by decide +kernel
def f_ByteRow_at_34 (S : zSt) : Option Int32 := (some (-1))
def f_ByteRow_at (k0 : Nat) (a1 : Int32) (S : zSt) : Option Int32 := (if a1 < 0 then (f_ByteRow_at_34 S) else (if (S (58 + k0) 1) ≤ a1 then (f_ByteRow_at_34 S) else (if (Int32.ofNat (bl k0)) ≤ a1 then (f_ByteRow_at_34 S) else gdi a1 (bl k0) ((some ((S (62 + k0) a1.toNatClampNeg) &&& 255))))))
set_option maxHeartbeats 4000000 in
set_option maxRecDepth 100000 in
theorem c_ByteRow_at (l : Launch) (g : zG) (hD : GD g) (k0 : Nat) (hk0 : k0 < 4) (a1 : Int32) (S : zSt) (u : Int32) (h : f_ByteRow_at k0 a1 S = some u) : Met l y_ByteRow_at (mw y_ByteRow_at b_ByteRow_at 2 (some .int)) (rmD 0) (Pw g [.ref (ga g (58 + k0)), .int a1] S) (Qip g S u) 0 0 (gA g) := by
  refine z_go (own := R_ByteRow) (lv0 := [(0, .ref (ga g (58 + k0))), (1, .int a1)]) hD (by decide) rfl (Nat.le_of_ble_eq_true rfl) rfl ?_
  intro p e s m args below meth c C D ls hl
  have hx := C.1
  have hb := C.2.1
  have hown := C.2.2.2.1
  have hts := C.2.2.2.2.1
  have B34 : ∀ (H : Heap) (locs : List Loc) (ls : Array Slot), f_ByteRow_at_34 S = some u → Dy g s S H locs → lv_has ls 2 [] → W p l e (rmD 0) s m args below meth c H locs 0 0 (MQ below (Qip g S u) args s 0 0 (gA g)) (F0 m 34 ls []) := by
    intro H locs ls h D hl
    unfold f_ByteRow_at_34 at h
    refine lv_iconst (v := (-1)) hx hb d_ByteRow_at_34 (by decide) ?_
    exact x_irp C D h d_ByteRow_at_35
  unfold f_ByteRow_at at h
  refine lv_iload_n hx hb d_ByteRow_at_0 rfl (lv_at hl 1 rfl) ?_
  refine lv_if_lt hx hb d_ByteRow_at_1 rfl (fun z => ?_) (fun z => ?_)
  · replace h := if_t z h
    exact B34 _ _ _ h D (lv_sub hl [] rfl)
  · replace h := if_f z h
    refine lv_iload_n hx hb d_ByteRow_at_4 rfl (lv_at hl 1 rfl) ?_
    refine lv_aload_n hx hb d_ByteRow_at_5 rfl (lv_at hl 0 rfl) ?_
    refine x_get (v := .int (S (58 + k0) 1)) C D kc_ByteRow (nR hk0) (sh_R hk0) 1 rfl (by decide) wf_ByteRow_7 rfl rfl d_ByteRow_at_6 ?_
    refine lv_icmp_ge hx hb d_ByteRow_at_9 rfl (fun z => ?_) (fun z => ?_)
    · replace h := if_t z h
      exact B34 _ _ _ h D (lv_sub hl [] rfl)
    · replace h := if_f z h
      refine lv_iload_n hx hb d_ByteRow_at_12 rfl (lv_at hl 1 rfl) ?_
      refine lv_aload_n hx hb d_ByteRow_at_13 rfl (lv_at hl 0 rfl) ?_
      refine x_get (v := .ref (ga g (62 + k0))) C D kc_ByteRow (nR hk0) (sh_R hk0) 0 rfl (by decide) wf_ByteRow_13 rfl (fvv_r _ _ (by have q_ : k0 < 4 := hk0; omega)) d_ByteRow_at_14 ?_
      refine x_alen2 C D (nRB hk0) (sh_RB hk0) d_ByteRow_at_17 ?_
      refine lv_icmp_ge hx hb d_ByteRow_at_18 rfl (fun z => ?_) (fun z => ?_)
      · replace h := if_t z h
        exact B34 _ _ _ h D (lv_sub hl [] rfl)
      · replace h := if_f z h
        refine lv_aload_n hx hb d_ByteRow_at_21 rfl (lv_at hl 0 rfl) ?_
        refine x_get (v := .ref (ga g (62 + k0))) C D kc_ByteRow (nR hk0) (sh_R hk0) 0 rfl (by decide) wf_ByteRow_13 rfl (fvv_r _ _ (by have q_ : k0 < 4 := hk0; omega)) d_ByteRow_at_22 ?_
        refine lv_iload_n hx hb d_ByteRow_at_25 rfl (lv_at hl 1 rfl) ?_
        refine x_bald C D (nRB hk0) (sh_RB hk0) d_ByteRow_at_26 h (fun _ h => ?_)
        refine lv_sipush (v := 255) hx hb d_ByteRow_at_27 (by decide) ?_
        refine lv_iand hx hb d_ByteRow_at_30 ?_
        refine lv_goto hx hb d_ByteRow_at_31 rfl ?_
        exact x_irp C D h d_ByteRow_at_35
theorem d_ByteRow_putNumber_0 : decode b_ByteRow_putNumber 0 = .ok (.sipush 1000, 3) := by decide +kernel
theorem d_ByteRow_putNumber_3 : decode b_ByteRow_putNumber 3 = .ok (.istore_n 2, 1) := by decide +kernel
theorem d_ByteRow_putNumber_4 : decode b_ByteRow_putNumber 4 = .ok (.iload_n 2, 1) := by decide +kernel
theorem d_ByteRow_putNumber_5 : decode b_ByteRow_putNumber 5 = .ok (.ifCond .le 34, 3) := by decide +kernel
theorem d_ByteRow_putNumber_8 : decode b_ByteRow_putNumber 8 = .ok (.iload_n 1, 1) := by decide +kernel
theorem d_ByteRow_putNumber_9 : decode b_ByteRow_putNumber 9 = .ok (.iload_n 2, 1) := by decide +kernel
theorem d_ByteRow_putNumber_10 : decode b_ByteRow_putNumber 10 = .ok (.if_icmp .ge 8, 3) := by decide +kernel
theorem d_ByteRow_putNumber_13 : decode b_ByteRow_putNumber 13 = .ok (.iload_n 2, 1) := by decide +kernel
theorem d_ByteRow_putNumber_14 : decode b_ByteRow_putNumber 14 = .ok (.iconst 1, 1) := by decide +kernel
theorem d_ByteRow_putNumber_15 : decode b_ByteRow_putNumber 15 = .ok (.if_icmp .ne 16, 3) := by decide +kernel
theorem d_ByteRow_putNumber_18 : decode b_ByteRow_putNumber 18 = .ok (.aload_n 0, 1) := by decide +kernel
theorem d_ByteRow_putNumber_19 : decode b_ByteRow_putNumber 19 = .ok (.bipush 48, 2) := by decide +kernel
theorem d_ByteRow_putNumber_21 : decode b_ByteRow_putNumber 21 = .ok (.iload_n 1, 1) := by decide +kernel
theorem d_ByteRow_putNumber_22 : decode b_ByteRow_putNumber 22 = .ok (.iload_n 2, 1) := by decide +kernel
theorem d_ByteRow_putNumber_23 : decode b_ByteRow_putNumber 23 = .ok (.idiv, 1) := by decide +kernel
theorem d_ByteRow_putNumber_24 : decode b_ByteRow_putNumber 24 = .ok (.bipush 10, 2) := by decide +kernel
theorem d_ByteRow_putNumber_26 : decode b_ByteRow_putNumber 26 = .ok (.irem, 1) := by decide +kernel
theorem d_ByteRow_putNumber_27 : decode b_ByteRow_putNumber 27 = .ok (.iadd, 1) := by decide +kernel
theorem d_ByteRow_putNumber_28 : decode b_ByteRow_putNumber 28 = .ok (.invokevirtual 27, 3) := by decide +kernel
theorem d_ByteRow_putNumber_31 : decode b_ByteRow_putNumber 31 = .ok (.iload_n 2, 1) := by decide +kernel
theorem d_ByteRow_putNumber_32 : decode b_ByteRow_putNumber 32 = .ok (.bipush 10, 2) := by decide +kernel
theorem d_ByteRow_putNumber_34 : decode b_ByteRow_putNumber 34 = .ok (.idiv, 1) := by decide +kernel
theorem d_ByteRow_putNumber_35 : decode b_ByteRow_putNumber 35 = .ok (.istore_n 2, 1) := by decide +kernel
theorem d_ByteRow_putNumber_36 : decode b_ByteRow_putNumber 36 = .ok (.goto (-32), 3) := by decide +kernel
theorem d_ByteRow_putNumber_39 : decode b_ByteRow_putNumber 39 = .ok (.return_, 1) := by decide +kernel
def f_ByteRow_putNumber_31 (K4 : Nat → Int32 → Int32 → zSt → Option zSt) (k0 : Nat) (a1 : Int32) (a2 : Int32) (S : zSt) : Option zSt := gdz 10 ((K4 k0 a1 (a2 / 10) S))
def f_ByteRow_putNumber_18 (K4 : Nat → Int32 → Int32 → zSt → Option zSt) (k0 : Nat) (a1 : Int32) (a2 : Int32) (S : zSt) : Option zSt := gdz a2 (gdz 10 (((f_ByteRow_put k0 (48 + ((a1 / a2) - (a1 / a2) / 10 * 10)) S).bind fun u3 => (f_ByteRow_putNumber_31 K4 k0 a1 a2 u3))))
def f_ByteRow_putNumber_4 : Nat → Nat → Int32 → Int32 → zSt → Option zSt
  | 0, _, _, _, _ => none
  | n + 1, k0, a1, a2, S => (if a2 ≤ 0 then (some S) else (if a2 ≤ a1 then (f_ByteRow_putNumber_18 (f_ByteRow_putNumber_4 n) k0 a1 a2 S) else (if a2 = 1 then (f_ByteRow_putNumber_18 (f_ByteRow_putNumber_4 n) k0 a1 a2 S) else (f_ByteRow_putNumber_31 (f_ByteRow_putNumber_4 n) k0 a1 a2 S))))
def f_ByteRow_putNumber (k0 : Nat) (a1 : Int32) (S : zSt) : Option zSt := (f_ByteRow_putNumber_4 fu k0 a1 1000 S)
set_option maxHeartbeats 4000000 in
set_option maxRecDepth 100000 in
theorem c_ByteRow_putNumber (l : Launch) (g : zG) (hD : GD g) (k0 : Nat) (hk0 : k0 < 4) (a1 : Int32) (S : zSt) (u : zSt) (h : f_ByteRow_putNumber k0 a1 S = some u) : Met l y_ByteRow_putNumber (mw y_ByteRow_putNumber b_ByteRow_putNumber 3 none) (rmD 1) (Pw g [.ref (ga g (58 + k0)), .int a1] S) (Qvs g u) 0 0 (gA g) := by
  refine z_go (own := R_ByteRow) (lv0 := [(0, .ref (ga g (58 + k0))), (1, .int a1)]) hD (by decide) rfl (Nat.le_of_ble_eq_true rfl) rfl ?_
  intro p e s m args below meth c C D ls hl
  have hx := C.1
  have hb := C.2.1
  have hown := C.2.2.2.1
  have hts := C.2.2.2.2.1
  have B31 : ∀ (K4 : Nat → Int32 → Int32 → zSt → Option zSt) (hK4 : ∀ (H : Heap) (locs : List Loc) (S : zSt) (ls : Array Slot) (k0 : Nat) (hk0 : k0 < 4) (a1 : Int32) (a2 : Int32), K4 k0 a1 a2 S = some u → Dy g s S H locs → lv_has ls 3 [(0, .ref (ga g (58 + k0))), (1, .int a1), (2, .int a2)] → W p l e (rmD 1) s m args below meth c H locs 0 0 (MQ below (Qvs g u) args s 0 0 (gA g)) (F0 m 4 ls [])) (H : Heap) (locs : List Loc) (S : zSt) (ls : Array Slot) (k0 : Nat) (hk0 : k0 < 4) (a1 : Int32) (a2 : Int32), f_ByteRow_putNumber_31 K4 k0 a1 a2 S = some u → Dy g s S H locs → lv_has ls 3 [(0, .ref (ga g (58 + k0))), (1, .int a1), (2, .int a2)] → W p l e (rmD 1) s m args below meth c H locs 0 0 (MQ below (Qvs g u) args s 0 0 (gA g)) (F0 m 31 ls []) := by
    intro K4 hK4 H locs S ls k0 hk0 a1 a2 h D hl
    unfold f_ByteRow_putNumber_31 at h
    refine lv_iload_n hx hb d_ByteRow_putNumber_31 rfl (lv_at hl 2 rfl) ?_
    refine lv_bipush (v := 10) hx hb d_ByteRow_putNumber_32 (by decide) ?_
    obtain ⟨z4, h⟩ := gdz_some h
    refine lv_idiv hx hb d_ByteRow_putNumber_34 z4 ?_
    refine lv_istore_n (lv' := [(2, .int (a2 / 10)), (0, .ref (ga g (58 + k0))), (1, .int a1)]) hx hb d_ByteRow_putNumber_35 rfl hl (by decide) rfl (fun ls hl => ?_)
    refine lv_goto hx hb d_ByteRow_putNumber_36 rfl ?_
    exact hK4 _ _ _ _ _ hk0 _ _ h D (lv_sub hl [1, 2, 0] rfl)
  have B18 : ∀ (K4 : Nat → Int32 → Int32 → zSt → Option zSt) (hK4 : ∀ (H : Heap) (locs : List Loc) (S : zSt) (ls : Array Slot) (k0 : Nat) (hk0 : k0 < 4) (a1 : Int32) (a2 : Int32), K4 k0 a1 a2 S = some u → Dy g s S H locs → lv_has ls 3 [(0, .ref (ga g (58 + k0))), (1, .int a1), (2, .int a2)] → W p l e (rmD 1) s m args below meth c H locs 0 0 (MQ below (Qvs g u) args s 0 0 (gA g)) (F0 m 4 ls [])) (H : Heap) (locs : List Loc) (S : zSt) (ls : Array Slot) (k0 : Nat) (hk0 : k0 < 4) (a1 : Int32) (a2 : Int32), f_ByteRow_putNumber_18 K4 k0 a1 a2 S = some u → Dy g s S H locs → lv_has ls 3 [(0, .ref (ga g (58 + k0))), (1, .int a1), (2, .int a2)] → W p l e (rmD 1) s m args below meth c H locs 0 0 (MQ below (Qvs g u) args s 0 0 (gA g)) (F0 m 18 ls []) := by
    intro K4 hK4 H locs S ls k0 hk0 a1 a2 h D hl
    unfold f_ByteRow_putNumber_18 at h
    refine lv_aload_n hx hb d_ByteRow_putNumber_18 rfl (lv_at hl 0 rfl) ?_
    refine lv_bipush (v := 48) hx hb d_ByteRow_putNumber_19 (by decide) ?_
    refine lv_iload_n hx hb d_ByteRow_putNumber_21 rfl (lv_at hl 1 rfl) ?_
    refine lv_iload_n hx hb d_ByteRow_putNumber_22 rfl (lv_at hl 2 rfl) ?_
    obtain ⟨z1, h⟩ := gdz_some h
    refine lv_idiv hx hb d_ByteRow_putNumber_23 z1 ?_
    refine lv_bipush (v := 10) hx hb d_ByteRow_putNumber_24 (by decide) ?_
    obtain ⟨z2, h⟩ := gdz_some h
    refine lv_irem hx hb d_ByteRow_putNumber_26 z2 ?_
    refine lv_iadd hx hb d_ByteRow_putNumber_27 ?_
    obtain ⟨u3, hu3, h⟩ := bd_some h
    refine x_cvs (rest := []) (r_V C D (c_ByteRow_put l g hD k0 hk0 (48 + ((a1 / a2) - (a1 / a2) / 10 * 10)) S u3 hu3) wc_ByteRow_put wm_ByteRow_27 wi_ByteRow_put wd_ByteRow_put (nR hk0) (sh_R hk0) kc_ByteRow.1 rfl rfl hl (Nat.le_of_ble_eq_true rfl) (by decide) d_ByteRow_putNumber_28) D (fun H locs D => ?_)
    exact B31 _ hK4 _ _ _ _ _ hk0 _ _ h D (lv_sub hl [0, 1, 2] rfl)
  have L4 : ∀ (n : Nat) (H : Heap) (locs : List Loc) (S : zSt) (ls : Array Slot) (k0 : Nat) (hk0 : k0 < 4) (a1 : Int32) (a2 : Int32), f_ByteRow_putNumber_4 n k0 a1 a2 S = some u → Dy g s S H locs → lv_has ls 3 [(0, .ref (ga g (58 + k0))), (1, .int a1), (2, .int a2)] → W p l e (rmD 1) s m args below meth c H locs 0 0 (MQ below (Qvs g u) args s 0 0 (gA g)) (F0 m 4 ls []) := by
    intro n
    induction n with
    | zero => intro H locs S ls k0 hk0 a1 a2 h D hl; rw [f_ByteRow_putNumber_4] at h; cases h
    | succ n hK4 =>
      intro H locs S ls k0 hk0 a1 a2 h D hl
      rw [f_ByteRow_putNumber_4] at h
      refine lv_iload_n hx hb d_ByteRow_putNumber_4 rfl (lv_at hl 2 rfl) ?_
      refine lv_if_le hx hb d_ByteRow_putNumber_5 rfl (fun z => ?_) (fun z => ?_)
      · replace h := if_t z h
        exact x_vrs C D h d_ByteRow_putNumber_39
      · replace h := if_f z h
        refine lv_iload_n hx hb d_ByteRow_putNumber_8 rfl (lv_at hl 1 rfl) ?_
        refine lv_iload_n hx hb d_ByteRow_putNumber_9 rfl (lv_at hl 2 rfl) ?_
        refine lv_icmp_ge hx hb d_ByteRow_putNumber_10 rfl (fun z => ?_) (fun z => ?_)
        · replace h := if_t z h
          exact B18 _ hK4 _ _ _ _ _ hk0 _ _ h D (lv_sub hl [0, 1, 2] rfl)
        · replace h := if_f z h
          refine lv_iload_n hx hb d_ByteRow_putNumber_13 rfl (lv_at hl 2 rfl) ?_
          refine lv_iconst (v := 1) hx hb d_ByteRow_putNumber_14 (by decide) ?_
          refine lv_icmp_ne hx hb d_ByteRow_putNumber_15 rfl (fun z => ?_) (fun z => ?_)
          · replace h := if_f z h
            exact B31 _ hK4 _ _ _ _ _ hk0 _ _ h D (lv_sub hl [0, 1, 2] rfl)
          · replace h := if_t z h
            exact B18 _ hK4 _ _ _ _ _ hk0 _ _ h D (lv_sub hl [0, 1, 2] rfl)
  unfold f_ByteRow_putNumber at h
  refine lv_sipush (v := 1000) hx hb d_ByteRow_putNumber_0 (by decide) ?_
  refine lv_istore_n (lv' := [(2, .int 1000), (0, .ref (ga g (58 + k0))), (1, .int a1)]) hx hb d_ByteRow_putNumber_3 rfl hl (by decide) rfl (fun ls hl => ?_)
  exact L4 _ _ _ _ _ _ hk0 _ _ h D (lv_sub hl [1, 2, 0] rfl)
theorem d_ByteRow_putText_0 : decode b_ByteRow_putText 0 = .ok (.iconst 0, 1) := by decide +kernel
theorem d_ByteRow_putText_1 : decode b_ByteRow_putText 1 = .ok (.istore_n 2, 1) := by decide +kernel
theorem d_ByteRow_putText_2 : decode b_ByteRow_putText 2 = .ok (.iload_n 2, 1) := by decide +kernel
theorem d_ByteRow_putText_3 : decode b_ByteRow_putText 3 = .ok (.aload_n 1, 1) := by decide +kernel
theorem d_ByteRow_putText_4 : decode b_ByteRow_putText 4 = .ok (.invokevirtual 17, 3) := by decide +kernel
theorem d_ByteRow_putText_7 : decode b_ByteRow_putText 7 = .ok (.if_icmp .ge 18, 3) := by decide +kernel
theorem d_ByteRow_putText_10 : decode b_ByteRow_putText 10 = .ok (.aload_n 0, 1) := by decide +kernel
theorem d_ByteRow_putText_11 : decode b_ByteRow_putText 11 = .ok (.aload_n 1, 1) := by decide +kernel
theorem d_ByteRow_putText_12 : decode b_ByteRow_putText 12 = .ok (.iload_n 2, 1) := by decide +kernel
theorem d_ByteRow_putText_13 : decode b_ByteRow_putText 13 = .ok (.invokevirtual 23, 3) := by decide +kernel
theorem d_ByteRow_putText_16 : decode b_ByteRow_putText 16 = .ok (.invokevirtual 27, 3) := by decide +kernel
theorem d_ByteRow_putText_19 : decode b_ByteRow_putText 19 = .ok (.iinc 2 1, 3) := by decide +kernel
theorem d_ByteRow_putText_22 : decode b_ByteRow_putText 22 = .ok (.goto (-20), 3) := by decide +kernel
theorem d_ByteRow_putText_25 : decode b_ByteRow_putText 25 = .ok (.return_, 1) := by decide +kernel
def f_ByteRow_putText_2 : Nat → Nat → Nat → Int32 → zSt → Option zSt
  | 0, _, _, _, _ => none
  | n + 1, k0, k1, a2, S => ((f_String_length k1 S).bind fun u1 => (if u1 ≤ a2 then (some S) else ((f_String_charAt k1 a2 S).bind fun u2 => ((f_ByteRow_put k0 u2 S).bind fun u3 => ((f_ByteRow_putText_2 n) k0 k1 (a2 + 1) u3)))))
def f_ByteRow_putText (k0 : Nat) (k1 : Nat) (S : zSt) : Option zSt := (f_ByteRow_putText_2 fu k0 k1 0 S)
set_option maxHeartbeats 4000000 in
set_option maxRecDepth 100000 in
theorem c_ByteRow_putText (l : Launch) (g : zG) (hD : GD g) (k0 : Nat) (hk0 : k0 < 4) (k1 : Nat) (hk1 : k1 < nS) (S : zSt) (u : zSt) (h : f_ByteRow_putText k0 k1 S = some u) : Met l y_ByteRow_putText (mw y_ByteRow_putText b_ByteRow_putText 3 none) (rmD 4) (Pw g [.ref (ga g (58 + k0)), .ref (gK g k1)] S) (Qvs g u) 0 0 (gA g) := by
  refine z_go (own := R_ByteRow) (lv0 := [(0, .ref (ga g (58 + k0))), (1, .ref (gK g k1))]) hD (by decide) rfl (Nat.le_of_ble_eq_true rfl) rfl ?_
  intro p e s m args below meth c C D ls hl
  have hx := C.1
  have hb := C.2.1
  have hown := C.2.2.2.1
  have hts := C.2.2.2.2.1
  have L2 : ∀ (n : Nat) (H : Heap) (locs : List Loc) (S : zSt) (ls : Array Slot) (k0 : Nat) (hk0 : k0 < 4) (k1 : Nat) (hk1 : k1 < nS) (a2 : Int32), f_ByteRow_putText_2 n k0 k1 a2 S = some u → Dy g s S H locs → lv_has ls 3 [(0, .ref (ga g (58 + k0))), (1, .ref (gK g k1)), (2, .int a2)] → W p l e (rmD 4) s m args below meth c H locs 0 0 (MQ below (Qvs g u) args s 0 0 (gA g)) (F0 m 2 ls []) := by
    intro n
    induction n with
    | zero => intro H locs S ls k0 hk0 k1 hk1 a2 h D hl; rw [f_ByteRow_putText_2] at h; cases h
    | succ n hK2 =>
      intro H locs S ls k0 hk0 k1 hk1 a2 h D hl
      rw [f_ByteRow_putText_2] at h
      refine lv_iload_n hx hb d_ByteRow_putText_2 rfl (lv_at hl 2 rfl) ?_
      refine lv_aload_n hx hb d_ByteRow_putText_3 rfl (lv_at hl 1 rfl) ?_
      obtain ⟨u1, hu1, h⟩ := bd_some h
      refine x_cip (rest := [.int a2]) (r_Str C D (c_String_length l g hD k1 hk1 S u1 hu1) wc_String_length wm_ByteRow_17 wi_String_length wd_String_length hk1 rfl rfl rfl hl (Nat.le_of_ble_eq_true rfl) (by decide) d_ByteRow_putText_4) D (fun H locs D => ?_)
      refine lv_icmp_ge hx hb d_ByteRow_putText_7 rfl (fun z => ?_) (fun z => ?_)
      · replace h := if_t z h
        exact x_vrs C D h d_ByteRow_putText_25
      · replace h := if_f z h
        refine lv_aload_n hx hb d_ByteRow_putText_10 rfl (lv_at hl 0 rfl) ?_
        refine lv_aload_n hx hb d_ByteRow_putText_11 rfl (lv_at hl 1 rfl) ?_
        refine lv_iload_n hx hb d_ByteRow_putText_12 rfl (lv_at hl 2 rfl) ?_
        obtain ⟨u2, hu2, h⟩ := bd_some h
        refine x_cip (rest := [.ref (ga g (58 + k0))]) (r_Str C D (c_String_charAt l g hD k1 hk1 a2 S u2 hu2) wc_String_charAt wm_ByteRow_23 wi_String_charAt wd_String_charAt hk1 rfl rfl rfl hl (Nat.le_of_ble_eq_true rfl) (by decide) d_ByteRow_putText_13) D (fun H locs D => ?_)
        obtain ⟨u3, hu3, h⟩ := bd_some h
        refine x_cvs (rest := []) (r_V C D (c_ByteRow_put l g hD k0 hk0 u2 S u3 hu3) wc_ByteRow_put wm_ByteRow_27 wi_ByteRow_put wd_ByteRow_put (nR hk0) (sh_R hk0) kc_ByteRow.1 rfl rfl hl (Nat.le_of_ble_eq_true rfl) (by decide) d_ByteRow_putText_16) D (fun H locs D => ?_)
        refine lv_iinc (k := 2) (lv' := [(2, .int (a2 + 1)), (0, .ref (ga g (58 + k0))), (1, .ref (gK g k1))]) hx hb d_ByteRow_putText_19 hl rfl (ii1 _) (by decide) rfl (fun ls hl => ?_)
        refine lv_goto hx hb d_ByteRow_putText_22 rfl ?_
        exact hK2 _ _ _ _ _ hk0 _ hk1 _ h D (lv_sub hl [1, 2, 0] rfl)
  unfold f_ByteRow_putText at h
  refine lv_iconst (v := 0) hx hb d_ByteRow_putText_0 (by decide) ?_
  refine lv_istore_n (lv' := [(2, .int 0), (0, .ref (ga g (58 + k0))), (1, .ref (gK g k1))]) hx hb d_ByteRow_putText_1 rfl hl (by decide) rfl (fun ls hl => ?_)
  exact L2 _ _ _ _ _ _ hk0 _ hk1 _ h D (lv_sub hl [1, 2, 0] rfl)
