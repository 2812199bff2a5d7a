theorem d_RequestWriter_startsWithItself_0 : decode b_RequestWriter_startsWithItself 0 = .ok (.iload_n 0, 1) := by decide +kernel
theorem d_RequestWriter_startsWithItself_1 : decode b_RequestWriter_startsWithItself 1 = .ok (.bipush 32, 2) := by decide +kernel
theorem d_RequestWriter_startsWithItself_3 : decode b_RequestWriter_startsWithItself 3 = .ok (.if_icmp .eq 13, 3) := by decide +kernel
theorem d_RequestWriter_startsWithItself_6 : decode b_RequestWriter_startsWithItself 6 = .ok (.iload_n 0, 1) := by decide +kernel
theorem d_RequestWriter_startsWithItself_7 : decode b_RequestWriter_startsWithItself 7 = .ok (.bipush 43, 2) := by decide +kernel
theorem d_RequestWriter_startsWithItself_9 : decode b_RequestWriter_startsWithItself 9 = .ok (.if_icmp .eq 7, 3) := by decide +kernel
theorem d_RequestWriter_startsWithItself_12 : decode b_RequestWriter_startsWithItself 12 = .ok (.iconst 1, 1) := by decide +kernel
theorem d_RequestWriter_startsWithItself_13 : decode b_RequestWriter_startsWithItself 13 = .ok (.goto 4, 3) := by decide +kernel
theorem d_RequestWriter_startsWithItself_16 : decode b_RequestWriter_startsWithItself 16 = .ok (.iconst 0, 1) := by decide +kernel
theorem d_RequestWriter_startsWithItself_17 : decode b_RequestWriter_startsWithItself 17 = .ok (.ireturn, 1) := by decide +kernel
def f_RequestWriter_startsWithItself_16 (S : zSt) : Option Int32 := (gdb 0 (some 0))
def f_RequestWriter_startsWithItself (a0 : Int32) (S : zSt) : Option Int32 := (if a0 = 32 then (f_RequestWriter_startsWithItself_16 S) else (if a0 = 43 then (f_RequestWriter_startsWithItself_16 S) else (gdb 1 (some 1))))
set_option maxHeartbeats 4000000 in
set_option maxRecDepth 100000 in
theorem c_RequestWriter_startsWithItself (l : Launch) (g : zG) (hD : GD g) (a0 : Int32) (S : zSt) (u : Int32) (h : f_RequestWriter_startsWithItself a0 S = some u) : Met l y_RequestWriter_startsWithItself (mw y_RequestWriter_startsWithItself b_RequestWriter_startsWithItself 1 (some .boolean)) (rmD 0) (Pw g [.int a0] S) (Qip g S u) 0 0 (gA g) := by
  refine z_go (own := R_RequestWriter) (lv0 := [(0, .int a0)]) hD (by decide) rfl (Nat.le_of_ble_eq_true rfl) rfl ?_
  intro p e s m args below meth c C D ls hl
  have hx := C.1
  have hb := C.2.1
  have hown := C.2.2.2.1
  have hts := C.2.2.2.2.1
  have B16 : ∀ (H : Heap) (locs : List Loc) (ls : Array Slot), f_RequestWriter_startsWithItself_16 S = some u → Dy g s S H locs → lv_has ls 1 [] → W p l e (rmD 0) s m args below meth c H locs 0 0 (MQ below (Qip g S u) args s 0 0 (gA g)) (F0 m 16 ls []) := by
    intro H locs ls h D hl
    unfold f_RequestWriter_startsWithItself_16 at h
    refine lv_iconst (v := 0) hx hb d_RequestWriter_startsWithItself_16 (by decide) ?_
    exact x_zrp C D h d_RequestWriter_startsWithItself_17
  unfold f_RequestWriter_startsWithItself at h
  refine lv_iload_n hx hb d_RequestWriter_startsWithItself_0 rfl (lv_at hl 0 rfl) ?_
  refine lv_bipush (v := 32) hx hb d_RequestWriter_startsWithItself_1 (by decide) ?_
  refine lv_icmp_eq hx hb d_RequestWriter_startsWithItself_3 rfl (fun z => ?_) (fun z => ?_)
  · replace h := if_t z h
    exact B16 _ _ _ h D (lv_sub hl [] rfl)
  · replace h := if_f z h
    refine lv_iload_n hx hb d_RequestWriter_startsWithItself_6 rfl (lv_at hl 0 rfl) ?_
    refine lv_bipush (v := 43) hx hb d_RequestWriter_startsWithItself_7 (by decide) ?_
    refine lv_icmp_eq hx hb d_RequestWriter_startsWithItself_9 rfl (fun z => ?_) (fun z => ?_)
    · replace h := if_t z h
      exact B16 _ _ _ h D (lv_sub hl [] rfl)
    · replace h := if_f z h
      refine lv_iconst (v := 1) hx hb d_RequestWriter_startsWithItself_12 (by decide) ?_
      refine lv_goto hx hb d_RequestWriter_startsWithItself_13 rfl ?_
      exact x_zrp C D h d_RequestWriter_startsWithItself_17
theorem d_RequestWriter_breakOf_0 : decode b_RequestWriter_breakOf 0 = .ok (.iload_n 0, 1) := by decide +kernel
theorem d_RequestWriter_breakOf_1 : decode b_RequestWriter_breakOf 1 = .ok (.bipush 63, 2) := by decide +kernel
theorem d_RequestWriter_breakOf_3 : decode b_RequestWriter_breakOf 3 = .ok (.if_icmp .ne 8, 3) := by decide +kernel
theorem d_RequestWriter_breakOf_6 : decode b_RequestWriter_breakOf 6 = .ok (.bipush 38, 2) := by decide +kernel
theorem d_RequestWriter_breakOf_8 : decode b_RequestWriter_breakOf 8 = .ok (.goto 16, 3) := by decide +kernel
theorem d_RequestWriter_breakOf_11 : decode b_RequestWriter_breakOf 11 = .ok (.iload_n 0, 1) := by decide +kernel
theorem d_RequestWriter_breakOf_12 : decode b_RequestWriter_breakOf 12 = .ok (.invokestatic 107, 3) := by decide +kernel
theorem d_RequestWriter_breakOf_15 : decode b_RequestWriter_breakOf 15 = .ok (.ifCond .eq 7, 3) := by decide +kernel
theorem d_RequestWriter_breakOf_18 : decode b_RequestWriter_breakOf 18 = .ok (.iload_n 0, 1) := by decide +kernel
theorem d_RequestWriter_breakOf_19 : decode b_RequestWriter_breakOf 19 = .ok (.goto 5, 3) := by decide +kernel
theorem d_RequestWriter_breakOf_22 : decode b_RequestWriter_breakOf 22 = .ok (.bipush 44, 2) := by decide +kernel
theorem d_RequestWriter_breakOf_24 : decode b_RequestWriter_breakOf 24 = .ok (.ireturn, 1) := by decide +kernel
def f_RequestWriter_breakOf (a0 : Int32) (S : zSt) : Option Int32 := (if a0 = 63 then (gdc 38 (some 38)) else ((f_RequestWriter_startsWithItself a0 S).bind fun u1 => (if u1 = 0 then (gdc 44 (some 44)) else (gdc a0 (some a0)))))
set_option maxHeartbeats 4000000 in
set_option maxRecDepth 100000 in
theorem c_RequestWriter_breakOf (l : Launch) (g : zG) (hD : GD g) (a0 : Int32) (S : zSt) (u : Int32) (h : f_RequestWriter_breakOf a0 S = some u) : Met l y_RequestWriter_breakOf (mw y_RequestWriter_breakOf b_RequestWriter_breakOf 1 (some .char)) (rmD 1) (Pw g [.int a0] S) (Qip g S u) 0 0 (gA g) := by
  refine z_go (own := R_RequestWriter) (lv0 := [(0, .int a0)]) hD (by decide) rfl (Nat.le_of_ble_eq_true rfl) rfl ?_
  intro p e s m args below meth c C D ls hl
  have hx := C.1
  have hb := C.2.1
  have hown := C.2.2.2.1
  have hts := C.2.2.2.2.1
  unfold f_RequestWriter_breakOf at h
  refine lv_iload_n hx hb d_RequestWriter_breakOf_0 rfl (lv_at hl 0 rfl) ?_
  refine lv_bipush (v := 63) hx hb d_RequestWriter_breakOf_1 (by decide) ?_
  refine lv_icmp_ne hx hb d_RequestWriter_breakOf_3 rfl (fun z => ?_) (fun z => ?_)
  · replace h := if_f z h
    refine lv_iload_n hx hb d_RequestWriter_breakOf_11 rfl (lv_at hl 0 rfl) ?_
    obtain ⟨u1, hu1, h⟩ := bd_some h
    refine x_cip (rest := []) (r_S C D (c_RequestWriter_startsWithItself l g hD a0 S u1 hu1) wc_RequestWriter_startsWithItself wm_RequestWriter_107 wt_RequestWriter_startsWithItself wd_RequestWriter_startsWithItself rfl rfl hl (Nat.le_of_ble_eq_true rfl) (by decide) d_RequestWriter_breakOf_12) D (fun H locs D => ?_)
    refine lv_if_eq hx hb d_RequestWriter_breakOf_15 rfl (fun z => ?_) (fun z => ?_)
    · replace h := if_t z h
      refine lv_bipush (v := 44) hx hb d_RequestWriter_breakOf_22 (by decide) ?_
      exact x_crp C D h d_RequestWriter_breakOf_24
    · replace h := if_f z h
      refine lv_iload_n hx hb d_RequestWriter_breakOf_18 rfl (lv_at hl 0 rfl) ?_
      refine lv_goto hx hb d_RequestWriter_breakOf_19 rfl ?_
      exact x_crp C D h d_RequestWriter_breakOf_24
  · replace h := if_t z h
    refine lv_bipush (v := 38) hx hb d_RequestWriter_breakOf_6 (by decide) ?_
    refine lv_goto hx hb d_RequestWriter_breakOf_8 rfl ?_
    exact x_crp C D h d_RequestWriter_breakOf_24
theorem d_RequestWriter_putAscii_0 : decode b_RequestWriter_putAscii 0 = .ok (.iconst 0, 1) := by decide +kernel
theorem d_RequestWriter_putAscii_1 : decode b_RequestWriter_putAscii 1 = .ok (.istore_n 2, 1) := by decide +kernel
theorem d_RequestWriter_putAscii_2 : decode b_RequestWriter_putAscii 2 = .ok (.iload_n 2, 1) := by decide +kernel
theorem d_RequestWriter_putAscii_3 : decode b_RequestWriter_putAscii 3 = .ok (.aload_n 1, 1) := by decide +kernel
theorem d_RequestWriter_putAscii_4 : decode b_RequestWriter_putAscii 4 = .ok (.getfield 128, 3) := by decide +kernel
theorem d_RequestWriter_putAscii_7 : decode b_RequestWriter_putAscii 7 = .ok (.if_icmp .ge 18, 3) := by decide +kernel
theorem d_RequestWriter_putAscii_10 : decode b_RequestWriter_putAscii 10 = .ok (.aload_n 0, 1) := by decide +kernel
theorem d_RequestWriter_putAscii_11 : decode b_RequestWriter_putAscii 11 = .ok (.aload_n 1, 1) := by decide +kernel
theorem d_RequestWriter_putAscii_12 : decode b_RequestWriter_putAscii 12 = .ok (.iload_n 2, 1) := by decide +kernel
theorem d_RequestWriter_putAscii_13 : decode b_RequestWriter_putAscii 13 = .ok (.invokevirtual 166, 3) := by decide +kernel
theorem d_RequestWriter_putAscii_16 : decode b_RequestWriter_putAscii 16 = .ok (.invokevirtual 41, 3) := by decide +kernel
theorem d_RequestWriter_putAscii_19 : decode b_RequestWriter_putAscii 19 = .ok (.iinc 2 1, 3) := by decide +kernel
theorem d_RequestWriter_putAscii_22 : decode b_RequestWriter_putAscii 22 = .ok (.goto (-20), 3) := by decide +kernel
theorem d_RequestWriter_putAscii_25 : decode b_RequestWriter_putAscii 25 = .ok (.return_, 1) := by decide +kernel
def f_RequestWriter_putAscii_2 : Nat → Nat → Nat → Int32 → zSt → Option zSt
  | 0, _, _, _, _ => none
  | n + 1, k0, k1, a2, S => (if (S (22 + k1) 1) ≤ a2 then (some S) else ((f_Item_at k1 a2 S).bind fun u1 => ((f_ByteRow_put k0 u1 S).bind fun u2 => ((f_RequestWriter_putAscii_2 n) k0 k1 (a2 + 1) u2))))
def f_RequestWriter_putAscii (k0 : Nat) (k1 : Nat) (S : zSt) : Option zSt := (f_RequestWriter_putAscii_2 fu k0 k1 0 S)
set_option maxHeartbeats 4000000 in
set_option maxRecDepth 100000 in
theorem c_RequestWriter_putAscii (l : Launch) (g : zG) (hD : GD g) (k0 : Nat) (hk0 : k0 < 4) (k1 : Nat) (hk1 : k1 < 18) (S : zSt) (u : zSt) (h : f_RequestWriter_putAscii k0 k1 S = some u) : Met l y_RequestWriter_putAscii (mw y_RequestWriter_putAscii b_RequestWriter_putAscii 3 none) (rmD 1) (Pw g [.ref (ga g (58 + k0)), .ref (ga g (22 + k1))] S) (Qvs g u) 0 0 (gA g) := by
  refine z_go (own := R_RequestWriter) (lv0 := [(0, .ref (ga g (58 + k0))), (1, .ref (ga g (22 + k1)))]) hD (by decide) rfl (Nat.le_of_ble_eq_true rfl) rfl ?_
  intro p e s m args below meth c C D ls hl
  have hx := C.1
  have hb := C.2.1
  have hown := C.2.2.2.1
  have hts := C.2.2.2.2.1
  have L2 : ∀ (n : Nat) (H : Heap) (locs : List Loc) (S : zSt) (ls : Array Slot) (k0 : Nat) (hk0 : k0 < 4) (k1 : Nat) (hk1 : k1 < 18) (a2 : Int32), f_RequestWriter_putAscii_2 n k0 k1 a2 S = some u → Dy g s S H locs → lv_has ls 3 [(0, .ref (ga g (58 + k0))), (1, .ref (ga g (22 + k1))), (2, .int a2)] → W p l e (rmD 1) s m args below meth c H locs 0 0 (MQ below (Qvs g u) args s 0 0 (gA g)) (F0 m 2 ls []) := by
    intro n
    induction n with
    | zero => intro H locs S ls k0 hk0 k1 hk1 a2 h D hl; rw [f_RequestWriter_putAscii_2] at h; cases h
    | succ n hK2 =>
      intro H locs S ls k0 hk0 k1 hk1 a2 h D hl
      rw [f_RequestWriter_putAscii_2] at h
      refine lv_iload_n hx hb d_RequestWriter_putAscii_2 rfl (lv_at hl 2 rfl) ?_
      refine lv_aload_n hx hb d_RequestWriter_putAscii_3 rfl (lv_at hl 1 rfl) ?_
      refine x_getN (v := .int (S (22 + k1) 1)) C D kc_Item (nI_ hk1) (sh_I hk1) 1 rfl (by decide) nf_RequestWriter_128 rfl rfl d_RequestWriter_putAscii_4 ?_
      refine lv_icmp_ge hx hb d_RequestWriter_putAscii_7 rfl (fun z => ?_) (fun z => ?_)
      · replace h := if_t z h
        exact x_vrs C D h d_RequestWriter_putAscii_25
      · replace h := if_f z h
        refine lv_aload_n hx hb d_RequestWriter_putAscii_10 rfl (lv_at hl 0 rfl) ?_
        refine lv_aload_n hx hb d_RequestWriter_putAscii_11 rfl (lv_at hl 1 rfl) ?_
        refine lv_iload_n hx hb d_RequestWriter_putAscii_12 rfl (lv_at hl 2 rfl) ?_
        obtain ⟨u1, hu1, h⟩ := bd_some h
        refine x_cip (rest := [.ref (ga g (58 + k0))]) (r_V C D (c_Item_at l g hD k1 hk1 a2 S u1 hu1) wc_Item_at wm_RequestWriter_166 wi_Item_at wd_Item_at (nI_ hk1) (sh_I hk1) kc_Item.1 rfl rfl hl (Nat.le_of_ble_eq_true rfl) (by decide) d_RequestWriter_putAscii_13) D (fun H locs D => ?_)
        obtain ⟨u2, hu2, h⟩ := bd_some h
        refine x_cvs (rest := []) (r_V C D (c_ByteRow_put l g hD k0 hk0 u1 S u2 hu2) wc_ByteRow_put wm_RequestWriter_41 wi_ByteRow_put wd_ByteRow_put (nR hk0) (sh_R hk0) kc_ByteRow.1 rfl rfl hl (Nat.le_of_ble_eq_true rfl) (by decide) d_RequestWriter_putAscii_16) D (fun H locs D => ?_)
        refine lv_iinc (k := 2) (lv' := [(2, .int (a2 + 1)), (0, .ref (ga g (58 + k0))), (1, .ref (ga g (22 + k1)))]) hx hb d_RequestWriter_putAscii_19 hl rfl (ii1 _) (by decide) rfl (fun ls hl => ?_)
        refine lv_goto hx hb d_RequestWriter_putAscii_22 rfl ?_
        exact hK2 _ _ _ _ _ hk0 _ hk1 _ h D (lv_sub hl [1, 2, 0] rfl)
  unfold f_RequestWriter_putAscii at h
  refine lv_iconst (v := 0) hx hb d_RequestWriter_putAscii_0 (by decide) ?_
  refine lv_istore_n (lv' := [(2, .int 0), (0, .ref (ga g (58 + k0))), (1, .ref (ga g (22 + k1)))]) hx hb d_RequestWriter_putAscii_1 rfl hl (by decide) rfl (fun ls hl => ?_)
  exact L2 _ _ _ _ _ _ hk0 _ hk1 _ h D (lv_sub hl [1, 2, 0] rfl)
theorem d_RequestWriter_putStartOrBreak_0 : decode b_RequestWriter_putStartOrBreak 0 = .ok (.iload_n 2, 1) := by decide +kernel
theorem d_RequestWriter_putStartOrBreak_1 : decode b_RequestWriter_putStartOrBreak 1 = .ok (.ifCond .eq 14, 3) := by decide +kernel
theorem d_RequestWriter_putStartOrBreak_4 : decode b_RequestWriter_putStartOrBreak 4 = .ok (.aload_n 0, 1) := by decide +kernel
theorem d_RequestWriter_putStartOrBreak_5 : decode b_RequestWriter_putStartOrBreak 5 = .ok (.iload_n 1, 1) := by decide +kernel
theorem d_RequestWriter_putStartOrBreak_6 : decode b_RequestWriter_putStartOrBreak 6 = .ok (.invokestatic 103, 3) := by decide +kernel
theorem d_RequestWriter_putStartOrBreak_9 : decode b_RequestWriter_putStartOrBreak 9 = .ok (.invokevirtual 41, 3) := by decide +kernel
theorem d_RequestWriter_putStartOrBreak_12 : decode b_RequestWriter_putStartOrBreak 12 = .ok (.goto 15, 3) := by decide +kernel
theorem d_RequestWriter_putStartOrBreak_15 : decode b_RequestWriter_putStartOrBreak 15 = .ok (.iload_n 1, 1) := by decide +kernel
theorem d_RequestWriter_putStartOrBreak_16 : decode b_RequestWriter_putStartOrBreak 16 = .ok (.invokestatic 107, 3) := by decide +kernel
theorem d_RequestWriter_putStartOrBreak_19 : decode b_RequestWriter_putStartOrBreak 19 = .ok (.ifCond .eq 8, 3) := by decide +kernel
theorem d_RequestWriter_putStartOrBreak_22 : decode b_RequestWriter_putStartOrBreak 22 = .ok (.aload_n 0, 1) := by decide +kernel
theorem d_RequestWriter_putStartOrBreak_23 : decode b_RequestWriter_putStartOrBreak 23 = .ok (.iload_n 1, 1) := by decide +kernel
theorem d_RequestWriter_putStartOrBreak_24 : decode b_RequestWriter_putStartOrBreak 24 = .ok (.invokevirtual 41, 3) := by decide +kernel
theorem d_RequestWriter_putStartOrBreak_27 : decode b_RequestWriter_putStartOrBreak 27 = .ok (.return_, 1) := by decide +kernel
def f_RequestWriter_putStartOrBreak (k0 : Nat) (a1 : Int32) (a2 : Int32) (S : zSt) : Option zSt := (if a2 = 0 then ((f_RequestWriter_startsWithItself a1 S).bind fun u1 => (if u1 = 0 then (some S) else ((f_ByteRow_put k0 a1 S).bind fun u2 => (some u2)))) else ((f_RequestWriter_breakOf a1 S).bind fun u3 => ((f_ByteRow_put k0 u3 S).bind fun u4 => (some u4))))
set_option maxHeartbeats 4000000 in
set_option maxRecDepth 100000 in
theorem c_RequestWriter_putStartOrBreak (l : Launch) (g : zG) (hD : GD g) (k0 : Nat) (hk0 : k0 < 4) (a1 : Int32) (a2 : Int32) (S : zSt) (u : zSt) (h : f_RequestWriter_putStartOrBreak k0 a1 a2 S = some u) : Met l y_RequestWriter_putStartOrBreak (mw y_RequestWriter_putStartOrBreak b_RequestWriter_putStartOrBreak 3 none) (rmD 2) (Pw g [.ref (ga g (58 + k0)), .int a1, .int a2] S) (Qvs g u) 0 0 (gA g) := by
  refine z_go (own := R_RequestWriter) (lv0 := [(0, .ref (ga g (58 + k0))), (1, .int a1), (2, .int a2)]) hD (by decide) rfl (Nat.le_of_ble_eq_true rfl) rfl ?_
  intro p e s m args below meth c C D ls hl
  have hx := C.1
  have hb := C.2.1
  have hown := C.2.2.2.1
  have hts := C.2.2.2.2.1
  unfold f_RequestWriter_putStartOrBreak at h
  refine lv_iload_n hx hb d_RequestWriter_putStartOrBreak_0 rfl (lv_at hl 2 rfl) ?_
  refine lv_if_eq hx hb d_RequestWriter_putStartOrBreak_1 rfl (fun z => ?_) (fun z => ?_)
  · replace h := if_t z h
    refine lv_iload_n hx hb d_RequestWriter_putStartOrBreak_15 rfl (lv_at hl 1 rfl) ?_
    obtain ⟨u1, hu1, h⟩ := bd_some h
    refine x_cip (rest := []) (r_S C D (c_RequestWriter_startsWithItself l g hD a1 S u1 hu1) wc_RequestWriter_startsWithItself wm_RequestWriter_107 wt_RequestWriter_startsWithItself wd_RequestWriter_startsWithItself rfl rfl hl (Nat.le_of_ble_eq_true rfl) (by decide) d_RequestWriter_putStartOrBreak_16) D (fun H locs D => ?_)
    refine lv_if_eq hx hb d_RequestWriter_putStartOrBreak_19 rfl (fun z => ?_) (fun z => ?_)
    · replace h := if_t z h
      exact x_vrs C D h d_RequestWriter_putStartOrBreak_27
    · replace h := if_f z h
      refine lv_aload_n hx hb d_RequestWriter_putStartOrBreak_22 rfl (lv_at hl 0 rfl) ?_
      refine lv_iload_n hx hb d_RequestWriter_putStartOrBreak_23 rfl (lv_at hl 1 rfl) ?_
      obtain ⟨u2, hu2, h⟩ := bd_some h
      refine x_cvs (rest := []) (r_V C D (c_ByteRow_put l g hD k0 hk0 a1 S u2 hu2) wc_ByteRow_put wm_RequestWriter_41 wi_ByteRow_put wd_ByteRow_put (nR hk0) (sh_R hk0) kc_ByteRow.1 rfl rfl hl (Nat.le_of_ble_eq_true rfl) (by decide) d_RequestWriter_putStartOrBreak_24) D (fun H locs D => ?_)
      exact x_vrs C D h d_RequestWriter_putStartOrBreak_27
  · replace h := if_f z h
    refine lv_aload_n hx hb d_RequestWriter_putStartOrBreak_4 rfl (lv_at hl 0 rfl) ?_
    refine lv_iload_n hx hb d_RequestWriter_putStartOrBreak_5 rfl (lv_at hl 1 rfl) ?_
    obtain ⟨u3, hu3, h⟩ := bd_some h
    refine x_cip (rest := [.ref (ga g (58 + k0))]) (r_S C D (c_RequestWriter_breakOf l g hD a1 S u3 hu3) wc_RequestWriter_breakOf wm_RequestWriter_103 wt_RequestWriter_breakOf wd_RequestWriter_breakOf rfl rfl hl (Nat.le_of_ble_eq_true rfl) (by decide) d_RequestWriter_putStartOrBreak_6) D (fun H locs D => ?_)
    obtain ⟨u4, hu4, h⟩ := bd_some h
    refine x_cvs (rest := []) (r_V C D (c_ByteRow_put l g hD k0 hk0 u3 S u4 hu4) wc_ByteRow_put wm_RequestWriter_41 wi_ByteRow_put wd_ByteRow_put (nR hk0) (sh_R hk0) kc_ByteRow.1 rfl rfl hl (Nat.le_of_ble_eq_true rfl) (by decide) d_RequestWriter_putStartOrBreak_9) D (fun H locs D => ?_)
    refine lv_goto hx hb d_RequestWriter_putStartOrBreak_12 rfl ?_
    exact x_vrs C D h d_RequestWriter_putStartOrBreak_27
theorem d_RequestWriter_putHeader_0 : decode b_RequestWriter_putHeader 0 = .ok (.aload_n 0, 1) := by decide +kernel
theorem d_RequestWriter_putHeader_1 : decode b_RequestWriter_putHeader 1 = .ok (.ldc 156, 2) := by decide +kernel
theorem d_RequestWriter_putHeader_3 : decode b_RequestWriter_putHeader 3 = .ok (.invokevirtual 37, 3) := by decide +kernel
theorem d_RequestWriter_putHeader_6 : decode b_RequestWriter_putHeader 6 = .ok (.aload_n 0, 1) := by decide +kernel
theorem d_RequestWriter_putHeader_7 : decode b_RequestWriter_putHeader 7 = .ok (.aload_n 1, 1) := by decide +kernel
theorem d_RequestWriter_putHeader_8 : decode b_RequestWriter_putHeader 8 = .ok (.getfield 124, 3) := by decide +kernel
theorem d_RequestWriter_putHeader_11 : decode b_RequestWriter_putHeader 11 = .ok (.invokevirtual 41, 3) := by decide +kernel
theorem d_RequestWriter_putHeader_14 : decode b_RequestWriter_putHeader 14 = .ok (.aload_n 0, 1) := by decide +kernel
theorem d_RequestWriter_putHeader_15 : decode b_RequestWriter_putHeader 15 = .ok (.ldc 158, 2) := by decide +kernel
theorem d_RequestWriter_putHeader_17 : decode b_RequestWriter_putHeader 17 = .ok (.invokevirtual 37, 3) := by decide +kernel
theorem d_RequestWriter_putHeader_20 : decode b_RequestWriter_putHeader 20 = .ok (.iconst 0, 1) := by decide +kernel
theorem d_RequestWriter_putHeader_21 : decode b_RequestWriter_putHeader 21 = .ok (.istore_n 2, 1) := by decide +kernel
theorem d_RequestWriter_putHeader_22 : decode b_RequestWriter_putHeader 22 = .ok (.iload_n 2, 1) := by decide +kernel
theorem d_RequestWriter_putHeader_23 : decode b_RequestWriter_putHeader 23 = .ok (.aload_n 1, 1) := by decide +kernel
theorem d_RequestWriter_putHeader_24 : decode b_RequestWriter_putHeader 24 = .ok (.getfield 90, 3) := by decide +kernel
theorem d_RequestWriter_putHeader_27 : decode b_RequestWriter_putHeader 27 = .ok (.if_icmp .ge 29, 3) := by decide +kernel
theorem d_RequestWriter_putHeader_30 : decode b_RequestWriter_putHeader 30 = .ok (.iload_n 2, 1) := by decide +kernel
theorem d_RequestWriter_putHeader_31 : decode b_RequestWriter_putHeader 31 = .ok (.ifCond .le 9, 3) := by decide +kernel
theorem d_RequestWriter_putHeader_34 : decode b_RequestWriter_putHeader 34 = .ok (.aload_n 0, 1) := by decide +kernel
theorem d_RequestWriter_putHeader_35 : decode b_RequestWriter_putHeader 35 = .ok (.ldc 160, 2) := by decide +kernel
theorem d_RequestWriter_putHeader_37 : decode b_RequestWriter_putHeader 37 = .ok (.invokevirtual 37, 3) := by decide +kernel
theorem d_RequestWriter_putHeader_40 : decode b_RequestWriter_putHeader 40 = .ok (.aload_n 0, 1) := by decide +kernel
theorem d_RequestWriter_putHeader_41 : decode b_RequestWriter_putHeader 41 = .ok (.aload_n 1, 1) := by decide +kernel
theorem d_RequestWriter_putHeader_42 : decode b_RequestWriter_putHeader 42 = .ok (.getfield 120, 3) := by decide +kernel
theorem d_RequestWriter_putHeader_45 : decode b_RequestWriter_putHeader 45 = .ok (.iload_n 2, 1) := by decide +kernel
theorem d_RequestWriter_putHeader_46 : decode b_RequestWriter_putHeader 46 = .ok (.aaload, 1) := by decide +kernel
theorem d_RequestWriter_putHeader_47 : decode b_RequestWriter_putHeader 47 = .ok (.invokestatic 162, 3) := by decide +kernel
theorem d_RequestWriter_putHeader_50 : decode b_RequestWriter_putHeader 50 = .ok (.iinc 2 1, 3) := by decide +kernel
theorem d_RequestWriter_putHeader_53 : decode b_RequestWriter_putHeader 53 = .ok (.goto (-31), 3) := by decide +kernel
theorem d_RequestWriter_putHeader_56 : decode b_RequestWriter_putHeader 56 = .ok (.aload_n 0, 1) := by decide +kernel
theorem d_RequestWriter_putHeader_57 : decode b_RequestWriter_putHeader 57 = .ok (.ldc 68, 2) := by decide +kernel
theorem d_RequestWriter_putHeader_59 : decode b_RequestWriter_putHeader 59 = .ok (.invokevirtual 37, 3) := by decide +kernel
theorem d_RequestWriter_putHeader_62 : decode b_RequestWriter_putHeader 62 = .ok (.return_, 1) := by decide +kernel
def f_RequestWriter_putHeader_40 (K22 : Nat → Nat → Int32 → zSt → Option zSt) (k0 : Nat) (k1 : Nat) (a2 : Int32) (S : zSt) : Option zSt := gdi a2 3 (((f_RequestWriter_putAscii k0 (3 * k1 + a2.toNatClampNeg) S).bind fun u6 => (K22 k0 k1 (a2 + 1) u6)))
def f_RequestWriter_putHeader_22 : Nat → Nat → Nat → Int32 → zSt → Option zSt
  | 0, _, _, _, _ => none
  | n + 1, k0, k1, a2, S => (if (S (10 + k1) 1) ≤ a2 then ((f_ByteRow_putText k0 13 S).bind fun u4 => (some u4)) else (if a2 ≤ 0 then (f_RequestWriter_putHeader_40 (f_RequestWriter_putHeader_22 n) k0 k1 a2 S) else ((f_ByteRow_putText k0 12 S).bind fun u7 => (f_RequestWriter_putHeader_40 (f_RequestWriter_putHeader_22 n) k0 k1 a2 u7))))
def f_RequestWriter_putHeader (k0 : Nat) (k1 : Nat) (S : zSt) : Option zSt := ((f_ByteRow_putText k0 10 S).bind fun u1 => ((f_ByteRow_put k0 (u1 (10 + k1) 3) u1).bind fun u2 => ((f_ByteRow_putText k0 11 u2).bind fun u3 => (f_RequestWriter_putHeader_22 fu k0 k1 0 u3))))
set_option maxHeartbeats 4000000 in
set_option maxRecDepth 100000 in
theorem c_RequestWriter_putHeader (l : Launch) (g : zG) (hD : GD g) (k0 : Nat) (hk0 : k0 < 4) (k1 : Nat) (hk1 : k1 < 6) (S : zSt) (u : zSt) (h : f_RequestWriter_putHeader k0 k1 S = some u) : Met l y_RequestWriter_putHeader (mw y_RequestWriter_putHeader b_RequestWriter_putHeader 3 none) (rmD 5) (Pw g [.ref (ga g (58 + k0)), .ref (ga g (10 + k1))] S) (Qvs g u) 0 0 (gA g) := by
  refine z_go (own := R_RequestWriter) (lv0 := [(0, .ref (ga g (58 + k0))), (1, .ref (ga g (10 + k1)))]) hD (by decide) rfl (Nat.le_of_ble_eq_true rfl) rfl ?_
  intro p e s m args below meth c C D ls hl
  have hx := C.1
  have hb := C.2.1
  have hown := C.2.2.2.1
  have hts := C.2.2.2.2.1
  have B40 : ∀ (K22 : Nat → Nat → Int32 → zSt → Option zSt) (hK22 : ∀ (H : Heap) (locs : List Loc) (S : zSt) (ls : Array Slot) (k0 : Nat) (hk0 : k0 < 4) (k1 : Nat) (hk1 : k1 < 6) (a2 : Int32), K22 k0 k1 a2 S = some u → Dy g s S H locs → lv_has ls 3 [(0, .ref (ga g (58 + k0))), (1, .ref (ga g (10 + k1))), (2, .int a2)] → W p l e (rmD 5) s m args below meth c H locs 0 0 (MQ below (Qvs g u) args s 0 0 (gA g)) (F0 m 22 ls [])) (H : Heap) (locs : List Loc) (S : zSt) (ls : Array Slot) (k0 : Nat) (hk0 : k0 < 4) (k1 : Nat) (hk1 : k1 < 6) (a2 : Int32), f_RequestWriter_putHeader_40 K22 k0 k1 a2 S = some u → Dy g s S H locs → lv_has ls 3 [(0, .ref (ga g (58 + k0))), (1, .ref (ga g (10 + k1))), (2, .int a2)] → W p l e (rmD 5) s m args below meth c H locs 0 0 (MQ below (Qvs g u) args s 0 0 (gA g)) (F0 m 40 ls []) := by
    intro K22 hK22 H locs S ls k0 hk0 k1 hk1 a2 h D hl
    unfold f_RequestWriter_putHeader_40 at h
    refine lv_aload_n hx hb d_RequestWriter_putHeader_40 rfl (lv_at hl 0 rfl) ?_
    refine lv_aload_n hx hb d_RequestWriter_putHeader_41 rfl (lv_at hl 1 rfl) ?_
    refine x_getN (v := .ref (ga g (16 + k1))) C D kc_Parameter (nP hk1) (sh_P hk1) 0 rfl (by decide) nf_RequestWriter_120 rfl (fvv_r _ _ (by have q_ : k1 < 6 := hk1; omega)) d_RequestWriter_putHeader_42 ?_
    refine lv_iload_n hx hb d_RequestWriter_putHeader_45 rfl (lv_at hl 2 rfl) ?_
    refine x_aald4 C D (nPI hk1) (sh_PI hk1) d_RequestWriter_putHeader_46 h (fun q5 h => ?_)
    obtain ⟨u6, hu6, h⟩ := bd_some h
    refine x_cvs (rest := []) (r_S C D (c_RequestWriter_putAscii l g hD k0 hk0 (3 * k1 + a2.toNatClampNeg) (i3 hk1 q5) S u6 hu6) wc_RequestWriter_putAscii wm_RequestWriter_162 wt_RequestWriter_putAscii wd_RequestWriter_putAscii rfl rfl hl (Nat.le_of_ble_eq_true rfl) (by decide) d_RequestWriter_putHeader_47) D (fun H locs D => ?_)
    refine lv_iinc (k := 2) (lv' := [(2, .int (a2 + 1)), (0, .ref (ga g (58 + k0))), (1, .ref (ga g (10 + k1)))]) hx hb d_RequestWriter_putHeader_50 hl rfl (ii1 _) (by decide) rfl (fun ls hl => ?_)
    refine lv_goto hx hb d_RequestWriter_putHeader_53 rfl ?_
    exact hK22 _ _ _ _ _ hk0 _ hk1 _ h D (lv_sub hl [1, 2, 0] rfl)
  have L22 : ∀ (n : Nat) (H : Heap) (locs : List Loc) (S : zSt) (ls : Array Slot) (k0 : Nat) (hk0 : k0 < 4) (k1 : Nat) (hk1 : k1 < 6) (a2 : Int32), f_RequestWriter_putHeader_22 n k0 k1 a2 S = some u → Dy g s S H locs → lv_has ls 3 [(0, .ref (ga g (58 + k0))), (1, .ref (ga g (10 + k1))), (2, .int a2)] → W p l e (rmD 5) s m args below meth c H locs 0 0 (MQ below (Qvs g u) args s 0 0 (gA g)) (F0 m 22 ls []) := by
    intro n
    induction n with
    | zero => intro H locs S ls k0 hk0 k1 hk1 a2 h D hl; rw [f_RequestWriter_putHeader_22] at h; cases h
    | succ n hK22 =>
      intro H locs S ls k0 hk0 k1 hk1 a2 h D hl
      rw [f_RequestWriter_putHeader_22] at h
      refine lv_iload_n hx hb d_RequestWriter_putHeader_22 rfl (lv_at hl 2 rfl) ?_
      refine lv_aload_n hx hb d_RequestWriter_putHeader_23 rfl (lv_at hl 1 rfl) ?_
      refine x_getN (v := .int (S (10 + k1) 1)) C D kc_Parameter (nP hk1) (sh_P hk1) 1 rfl (by decide) nf_RequestWriter_90 rfl rfl d_RequestWriter_putHeader_24 ?_
      refine lv_icmp_ge hx hb d_RequestWriter_putHeader_27 rfl (fun z => ?_) (fun z => ?_)
      · replace h := if_t z h
        refine lv_aload_n hx hb d_RequestWriter_putHeader_56 rfl (lv_at hl 0 rfl) ?_
        refine x_lds C (q := 13) wl_RequestWriter_68 d_RequestWriter_putHeader_57 ?_
        obtain ⟨u4, hu4, h⟩ := bd_some h
        refine x_cvs (rest := []) (r_V C D (c_ByteRow_putText l g hD k0 hk0 13 (by decide) S u4 hu4) wc_ByteRow_putText wm_RequestWriter_37 wi_ByteRow_putText wd_ByteRow_putText (nR hk0) (sh_R hk0) kc_ByteRow.1 rfl rfl hl (Nat.le_of_ble_eq_true rfl) (by decide) d_RequestWriter_putHeader_59) D (fun H locs D => ?_)
        exact x_vrs C D h d_RequestWriter_putHeader_62
      · replace h := if_f z h
        refine lv_iload_n hx hb d_RequestWriter_putHeader_30 rfl (lv_at hl 2 rfl) ?_
        refine lv_if_le hx hb d_RequestWriter_putHeader_31 rfl (fun z => ?_) (fun z => ?_)
        · replace h := if_t z h
          exact B40 _ hK22 _ _ _ _ _ hk0 _ hk1 _ h D (lv_sub hl [0, 1, 2] rfl)
        · replace h := if_f z h
          refine lv_aload_n hx hb d_RequestWriter_putHeader_34 rfl (lv_at hl 0 rfl) ?_
          refine x_lds C (q := 12) wl_RequestWriter_160 d_RequestWriter_putHeader_35 ?_
          obtain ⟨u7, hu7, h⟩ := bd_some h
          refine x_cvs (rest := []) (r_V C D (c_ByteRow_putText l g hD k0 hk0 12 (by decide) S u7 hu7) wc_ByteRow_putText wm_RequestWriter_37 wi_ByteRow_putText wd_ByteRow_putText (nR hk0) (sh_R hk0) kc_ByteRow.1 rfl rfl hl (Nat.le_of_ble_eq_true rfl) (by decide) d_RequestWriter_putHeader_37) D (fun H locs D => ?_)
          exact B40 _ hK22 _ _ _ _ _ hk0 _ hk1 _ h D (lv_sub hl [0, 1, 2] rfl)
  unfold f_RequestWriter_putHeader at h
  refine lv_aload_n hx hb d_RequestWriter_putHeader_0 rfl (lv_at hl 0 rfl) ?_
  refine x_lds C (q := 10) wl_RequestWriter_156 d_RequestWriter_putHeader_1 ?_
  obtain ⟨u1, hu1, h⟩ := bd_some h
  refine x_cvs (rest := []) (r_V C D (c_ByteRow_putText l g hD k0 hk0 10 (by decide) S u1 hu1) wc_ByteRow_putText wm_RequestWriter_37 wi_ByteRow_putText wd_ByteRow_putText (nR hk0) (sh_R hk0) kc_ByteRow.1 rfl rfl hl (Nat.le_of_ble_eq_true rfl) (by decide) d_RequestWriter_putHeader_3) D (fun H locs D => ?_)
  refine lv_aload_n hx hb d_RequestWriter_putHeader_6 rfl (lv_at hl 0 rfl) ?_
  refine lv_aload_n hx hb d_RequestWriter_putHeader_7 rfl (lv_at hl 1 rfl) ?_
  refine x_getN (v := .int (u1 (10 + k1) 3)) C D kc_Parameter (nP hk1) (sh_P hk1) 3 rfl (by decide) nf_RequestWriter_124 rfl rfl d_RequestWriter_putHeader_8 ?_
  obtain ⟨u2, hu2, h⟩ := bd_some h
  refine x_cvs (rest := []) (r_V C D (c_ByteRow_put l g hD k0 hk0 (u1 (10 + k1) 3) u1 u2 hu2) wc_ByteRow_put wm_RequestWriter_41 wi_ByteRow_put wd_ByteRow_put (nR hk0) (sh_R hk0) kc_ByteRow.1 rfl rfl hl (Nat.le_of_ble_eq_true rfl) (by decide) d_RequestWriter_putHeader_11) D (fun H locs D => ?_)
  refine lv_aload_n hx hb d_RequestWriter_putHeader_14 rfl (lv_at hl 0 rfl) ?_
  refine x_lds C (q := 11) wl_RequestWriter_158 d_RequestWriter_putHeader_15 ?_
  obtain ⟨u3, hu3, h⟩ := bd_some h
  refine x_cvs (rest := []) (r_V C D (c_ByteRow_putText l g hD k0 hk0 11 (by decide) u2 u3 hu3) wc_ByteRow_putText wm_RequestWriter_37 wi_ByteRow_putText wd_ByteRow_putText (nR hk0) (sh_R hk0) kc_ByteRow.1 rfl rfl hl (Nat.le_of_ble_eq_true rfl) (by decide) d_RequestWriter_putHeader_17) D (fun H locs D => ?_)
  refine lv_iconst (v := 0) hx hb d_RequestWriter_putHeader_20 (by decide) ?_
  refine lv_istore_n (lv' := [(2, .int 0), (0, .ref (ga g (58 + k0))), (1, .ref (ga g (10 + k1)))]) hx hb d_RequestWriter_putHeader_21 rfl hl (by decide) rfl (fun ls hl => ?_)
  exact L22 _ _ _ _ _ _ hk0 _ hk1 _ h D (lv_sub hl [1, 2, 0] rfl)
theorem d_RequestWriter_putVariable_0 : decode b_RequestWriter_putVariable 0 = .ok (.aload_n 0, 1) := by decide +kernel
theorem d_RequestWriter_putVariable_1 : decode b_RequestWriter_putVariable 1 = .ok (.getfield 28, 3) := by decide +kernel
theorem d_RequestWriter_putVariable_4 : decode b_RequestWriter_putVariable 4 = .ok (.iload_n 2, 1) := by decide +kernel
theorem d_RequestWriter_putVariable_5 : decode b_RequestWriter_putVariable 5 = .ok (.invokevirtual 110, 3) := by decide +kernel
theorem d_RequestWriter_putVariable_8 : decode b_RequestWriter_putVariable 8 = .ok (.istore 5, 2) := by decide +kernel
theorem d_RequestWriter_putVariable_10 : decode b_RequestWriter_putVariable 10 = .ok (.iload 4, 2) := by decide +kernel
theorem d_RequestWriter_putVariable_12 : decode b_RequestWriter_putVariable 12 = .ok (.bipush 59, 2) := by decide +kernel
theorem d_RequestWriter_putVariable_14 : decode b_RequestWriter_putVariable 14 = .ok (.if_icmp .eq 17, 3) := by decide +kernel
theorem d_RequestWriter_putVariable_17 : decode b_RequestWriter_putVariable 17 = .ok (.iload 4, 2) := by decide +kernel
theorem d_RequestWriter_putVariable_19 : decode b_RequestWriter_putVariable 19 = .ok (.bipush 63, 2) := by decide +kernel
theorem d_RequestWriter_putVariable_21 : decode b_RequestWriter_putVariable 21 = .ok (.if_icmp .eq 10, 3) := by decide +kernel
theorem d_RequestWriter_putVariable_24 : decode b_RequestWriter_putVariable 24 = .ok (.iload 4, 2) := by decide +kernel
theorem d_RequestWriter_putVariable_26 : decode b_RequestWriter_putVariable 26 = .ok (.bipush 38, 2) := by decide +kernel
theorem d_RequestWriter_putVariable_28 : decode b_RequestWriter_putVariable 28 = .ok (.if_icmp .ne 7, 3) := by decide +kernel
theorem d_RequestWriter_putVariable_31 : decode b_RequestWriter_putVariable 31 = .ok (.iconst 1, 1) := by decide +kernel
theorem d_RequestWriter_putVariable_32 : decode b_RequestWriter_putVariable 32 = .ok (.goto 4, 3) := by decide +kernel
theorem d_RequestWriter_putVariable_35 : decode b_RequestWriter_putVariable 35 = .ok (.iconst 0, 1) := by decide +kernel
theorem d_RequestWriter_putVariable_36 : decode b_RequestWriter_putVariable 36 = .ok (.istore 6, 2) := by decide +kernel
theorem d_RequestWriter_putVariable_38 : decode b_RequestWriter_putVariable 38 = .ok (.iload 4, 2) := by decide +kernel
theorem d_RequestWriter_putVariable_40 : decode b_RequestWriter_putVariable 40 = .ok (.bipush 43, 2) := by decide +kernel
theorem d_RequestWriter_putVariable_42 : decode b_RequestWriter_putVariable 42 = .ok (.if_icmp .ne 7, 3) := by decide +kernel
theorem d_RequestWriter_putVariable_45 : decode b_RequestWriter_putVariable 45 = .ok (.iconst 1, 1) := by decide +kernel
theorem d_RequestWriter_putVariable_46 : decode b_RequestWriter_putVariable 46 = .ok (.goto 4, 3) := by decide +kernel
theorem d_RequestWriter_putVariable_49 : decode b_RequestWriter_putVariable 49 = .ok (.iconst 0, 1) := by decide +kernel
theorem d_RequestWriter_putVariable_50 : decode b_RequestWriter_putVariable 50 = .ok (.istore 7, 2) := by decide +kernel
theorem d_RequestWriter_putVariable_52 : decode b_RequestWriter_putVariable 52 = .ok (.aload_n 0, 1) := by decide +kernel
theorem d_RequestWriter_putVariable_53 : decode b_RequestWriter_putVariable 53 = .ok (.getfield 28, 3) := by decide +kernel
theorem d_RequestWriter_putVariable_56 : decode b_RequestWriter_putVariable 56 = .ok (.iload_n 2, 1) := by decide +kernel
theorem d_RequestWriter_putVariable_57 : decode b_RequestWriter_putVariable 57 = .ok (.invokevirtual 116, 3) := by decide +kernel
theorem d_RequestWriter_putVariable_60 : decode b_RequestWriter_putVariable 60 = .ok (.istore 8, 2) := by decide +kernel
theorem d_RequestWriter_putVariable_62 : decode b_RequestWriter_putVariable 62 = .ok (.iconst 0, 1) := by decide +kernel
theorem d_RequestWriter_putVariable_63 : decode b_RequestWriter_putVariable 63 = .ok (.istore 9, 2) := by decide +kernel
theorem d_RequestWriter_putVariable_65 : decode b_RequestWriter_putVariable 65 = .ok (.iload 9, 2) := by decide +kernel
theorem d_RequestWriter_putVariable_67 : decode b_RequestWriter_putVariable 67 = .ok (.aload_n 3, 1) := by decide +kernel
theorem d_RequestWriter_putVariable_68 : decode b_RequestWriter_putVariable 68 = .ok (.getfield 90, 3) := by decide +kernel
theorem d_RequestWriter_putVariable_71 : decode b_RequestWriter_putVariable 71 = .ok (.if_icmp .ge 126, 3) := by decide +kernel
theorem d_RequestWriter_putVariable_74 : decode b_RequestWriter_putVariable 74 = .ok (.aload_n 3, 1) := by decide +kernel
theorem d_RequestWriter_putVariable_75 : decode b_RequestWriter_putVariable 75 = .ok (.getfield 120, 3) := by decide +kernel
theorem d_RequestWriter_putVariable_78 : decode b_RequestWriter_putVariable 78 = .ok (.iload 9, 2) := by decide +kernel
theorem d_RequestWriter_putVariable_80 : decode b_RequestWriter_putVariable 80 = .ok (.aaload, 1) := by decide +kernel
theorem d_RequestWriter_putVariable_81 : decode b_RequestWriter_putVariable 81 = .ok (.astore 10, 2) := by decide +kernel
theorem d_RequestWriter_putVariable_83 : decode b_RequestWriter_putVariable 83 = .ok (.iload 9, 2) := by decide +kernel
theorem d_RequestWriter_putVariable_85 : decode b_RequestWriter_putVariable 85 = .ok (.ifCond .le 22, 3) := by decide +kernel
theorem d_RequestWriter_putVariable_88 : decode b_RequestWriter_putVariable 88 = .ok (.aload_n 1, 1) := by decide +kernel
theorem d_RequestWriter_putVariable_89 : decode b_RequestWriter_putVariable 89 = .ok (.iload 5, 2) := by decide +kernel
theorem d_RequestWriter_putVariable_91 : decode b_RequestWriter_putVariable 91 = .ok (.ifCond .eq 11, 3) := by decide +kernel
theorem d_RequestWriter_putVariable_94 : decode b_RequestWriter_putVariable 94 = .ok (.iload 4, 2) := by decide +kernel
theorem d_RequestWriter_putVariable_96 : decode b_RequestWriter_putVariable 96 = .ok (.invokestatic 103, 3) := by decide +kernel
theorem d_RequestWriter_putVariable_99 : decode b_RequestWriter_putVariable 99 = .ok (.goto 5, 3) := by decide +kernel
theorem d_RequestWriter_putVariable_102 : decode b_RequestWriter_putVariable 102 = .ok (.bipush 44, 2) := by decide +kernel
theorem d_RequestWriter_putVariable_104 : decode b_RequestWriter_putVariable 104 = .ok (.invokevirtual 41, 3) := by decide +kernel
theorem d_RequestWriter_putVariable_107 : decode b_RequestWriter_putVariable 107 = .ok (.iload 6, 2) := by decide +kernel
theorem d_RequestWriter_putVariable_109 : decode b_RequestWriter_putVariable 109 = .ok (.ifCond .eq 67, 3) := by decide +kernel
theorem d_RequestWriter_putVariable_112 : decode b_RequestWriter_putVariable 112 = .ok (.iload 9, 2) := by decide +kernel
theorem d_RequestWriter_putVariable_114 : decode b_RequestWriter_putVariable 114 = .ok (.ifCond .eq 8, 3) := by decide +kernel
theorem d_RequestWriter_putVariable_117 : decode b_RequestWriter_putVariable 117 = .ok (.iload 5, 2) := by decide +kernel
theorem d_RequestWriter_putVariable_119 : decode b_RequestWriter_putVariable 119 = .ok (.ifCond .eq 57, 3) := by decide +kernel
theorem d_RequestWriter_putVariable_122 : decode b_RequestWriter_putVariable 122 = .ok (.iload 5, 2) := by decide +kernel
theorem d_RequestWriter_putVariable_124 : decode b_RequestWriter_putVariable 124 = .ok (.ifCond .ne 11, 3) := by decide +kernel
theorem d_RequestWriter_putVariable_127 : decode b_RequestWriter_putVariable 127 = .ok (.aload_n 3, 1) := by decide +kernel
theorem d_RequestWriter_putVariable_128 : decode b_RequestWriter_putVariable 128 = .ok (.getfield 90, 3) := by decide +kernel
theorem d_RequestWriter_putVariable_131 : decode b_RequestWriter_putVariable 131 = .ok (.iconst 1, 1) := by decide +kernel
theorem d_RequestWriter_putVariable_132 : decode b_RequestWriter_putVariable 132 = .ok (.if_icmp .ne 7, 3) := by decide +kernel
theorem d_RequestWriter_putVariable_135 : decode b_RequestWriter_putVariable 135 = .ok (.iconst 1, 1) := by decide +kernel
theorem d_RequestWriter_putVariable_136 : decode b_RequestWriter_putVariable 136 = .ok (.goto 4, 3) := by decide +kernel
theorem d_RequestWriter_putVariable_139 : decode b_RequestWriter_putVariable 139 = .ok (.iconst 0, 1) := by decide +kernel
theorem d_RequestWriter_putVariable_140 : decode b_RequestWriter_putVariable 140 = .ok (.istore 11, 2) := by decide +kernel
theorem d_RequestWriter_putVariable_142 : decode b_RequestWriter_putVariable 142 = .ok (.aload_n 1, 1) := by decide +kernel
theorem d_RequestWriter_putVariable_143 : decode b_RequestWriter_putVariable 143 = .ok (.aload_n 3, 1) := by decide +kernel
theorem d_RequestWriter_putVariable_144 : decode b_RequestWriter_putVariable 144 = .ok (.getfield 124, 3) := by decide +kernel
theorem d_RequestWriter_putVariable_147 : decode b_RequestWriter_putVariable 147 = .ok (.invokevirtual 41, 3) := by decide +kernel
theorem d_RequestWriter_putVariable_150 : decode b_RequestWriter_putVariable 150 = .ok (.iload 4, 2) := by decide +kernel
theorem d_RequestWriter_putVariable_152 : decode b_RequestWriter_putVariable 152 = .ok (.bipush 59, 2) := by decide +kernel
theorem d_RequestWriter_putVariable_154 : decode b_RequestWriter_putVariable 154 = .ok (.if_icmp .ne 16, 3) := by decide +kernel
theorem d_RequestWriter_putVariable_157 : decode b_RequestWriter_putVariable 157 = .ok (.iload 11, 2) := by decide +kernel
theorem d_RequestWriter_putVariable_159 : decode b_RequestWriter_putVariable 159 = .ok (.ifCond .eq 11, 3) := by decide +kernel
theorem d_RequestWriter_putVariable_162 : decode b_RequestWriter_putVariable 162 = .ok (.aload 10, 2) := by decide +kernel
theorem d_RequestWriter_putVariable_164 : decode b_RequestWriter_putVariable 164 = .ok (.getfield 128, 3) := by decide +kernel
theorem d_RequestWriter_putVariable_167 : decode b_RequestWriter_putVariable 167 = .ok (.ifCond .le 9, 3) := by decide +kernel
theorem d_RequestWriter_putVariable_170 : decode b_RequestWriter_putVariable 170 = .ok (.aload_n 1, 1) := by decide +kernel
theorem d_RequestWriter_putVariable_171 : decode b_RequestWriter_putVariable 171 = .ok (.bipush 61, 2) := by decide +kernel
theorem d_RequestWriter_putVariable_173 : decode b_RequestWriter_putVariable 173 = .ok (.invokevirtual 41, 3) := by decide +kernel
theorem d_RequestWriter_putVariable_176 : decode b_RequestWriter_putVariable 176 = .ok (.aload_n 1, 1) := by decide +kernel
theorem d_RequestWriter_putVariable_177 : decode b_RequestWriter_putVariable 177 = .ok (.aload 10, 2) := by decide +kernel
theorem d_RequestWriter_putVariable_179 : decode b_RequestWriter_putVariable 179 = .ok (.aload 10, 2) := by decide +kernel
theorem d_RequestWriter_putVariable_181 : decode b_RequestWriter_putVariable 181 = .ok (.iload 8, 2) := by decide +kernel
theorem d_RequestWriter_putVariable_183 : decode b_RequestWriter_putVariable 183 = .ok (.invokevirtual 131, 3) := by decide +kernel
theorem d_RequestWriter_putVariable_186 : decode b_RequestWriter_putVariable 186 = .ok (.iload 7, 2) := by decide +kernel
theorem d_RequestWriter_putVariable_188 : decode b_RequestWriter_putVariable 188 = .ok (.invokestatic 134, 3) := by decide +kernel
theorem d_RequestWriter_putVariable_191 : decode b_RequestWriter_putVariable 191 = .ok (.iinc 9 1, 3) := by decide +kernel
theorem d_RequestWriter_putVariable_194 : decode b_RequestWriter_putVariable 194 = .ok (.goto (-129), 3) := by decide +kernel
theorem d_RequestWriter_putVariable_197 : decode b_RequestWriter_putVariable 197 = .ok (.return_, 1) := by decide +kernel
def f_RequestWriter_putVariable_176 (K65 : Nat → Nat → Int32 → Int32 → Int32 → Int32 → Int32 → Int32 → zSt → Option zSt) (k1 : Nat) (k3 : Nat) (a4 : Int32) (a5 : Int32) (a6 : Int32) (a7 : Int32) (a8 : Int32) (a9 : Int32) (k10 : Nat) (S : zSt) : Option zSt := ((f_Item_endOf k10 a8 S).bind fun u4 => ((f_Encoder_putEncoded k1 k10 u4 a7 S).bind fun u5 => (K65 k1 k3 a4 a5 a6 a7 a8 (a9 + 1) u5)))
def f_RequestWriter_putVariable_170 (K65 : Nat → Nat → Int32 → Int32 → Int32 → Int32 → Int32 → Int32 → zSt → Option zSt) (k1 : Nat) (k3 : Nat) (a4 : Int32) (a5 : Int32) (a6 : Int32) (a7 : Int32) (a8 : Int32) (a9 : Int32) (k10 : Nat) (S : zSt) : Option zSt := ((f_ByteRow_put k1 61 S).bind fun u7 => (f_RequestWriter_putVariable_176 K65 k1 k3 a4 a5 a6 a7 a8 a9 k10 u7))
def f_RequestWriter_putVariable_140 (K65 : Nat → Nat → Int32 → Int32 → Int32 → Int32 → Int32 → Int32 → zSt → Option zSt) (k1 : Nat) (k3 : Nat) (a4 : Int32) (a5 : Int32) (a6 : Int32) (a7 : Int32) (a8 : Int32) (a9 : Int32) (k10 : Nat) (t0 : Int32) (S : zSt) : Option zSt := ((f_ByteRow_put k1 (S (10 + k3) 3) S).bind fun u6 => (if a4 = 59 then (if t0 = 0 then (f_RequestWriter_putVariable_170 K65 k1 k3 a4 a5 a6 a7 a8 a9 k10 u6) else (if (u6 (22 + k10) 1) ≤ 0 then (f_RequestWriter_putVariable_176 K65 k1 k3 a4 a5 a6 a7 a8 a9 k10 u6) else (f_RequestWriter_putVariable_170 K65 k1 k3 a4 a5 a6 a7 a8 a9 k10 u6))) else (f_RequestWriter_putVariable_170 K65 k1 k3 a4 a5 a6 a7 a8 a9 k10 u6)))
def f_RequestWriter_putVariable_135 (K65 : Nat → Nat → Int32 → Int32 → Int32 → Int32 → Int32 → Int32 → zSt → Option zSt) (k1 : Nat) (k3 : Nat) (a4 : Int32) (a5 : Int32) (a6 : Int32) (a7 : Int32) (a8 : Int32) (a9 : Int32) (k10 : Nat) (S : zSt) : Option zSt := (f_RequestWriter_putVariable_140 K65 k1 k3 a4 a5 a6 a7 a8 a9 k10 1 S)
def f_RequestWriter_putVariable_122 (K65 : Nat → Nat → Int32 → Int32 → Int32 → Int32 → Int32 → Int32 → zSt → Option zSt) (k1 : Nat) (k3 : Nat) (a4 : Int32) (a5 : Int32) (a6 : Int32) (a7 : Int32) (a8 : Int32) (a9 : Int32) (k10 : Nat) (S : zSt) : Option zSt := (if a5 = 0 then (if (S (10 + k3) 1) = 1 then (f_RequestWriter_putVariable_135 K65 k1 k3 a4 a5 a6 a7 a8 a9 k10 S) else (f_RequestWriter_putVariable_140 K65 k1 k3 a4 a5 a6 a7 a8 a9 k10 0 S)) else (f_RequestWriter_putVariable_135 K65 k1 k3 a4 a5 a6 a7 a8 a9 k10 S))
def f_RequestWriter_putVariable_107 (K65 : Nat → Nat → Int32 → Int32 → Int32 → Int32 → Int32 → Int32 → zSt → Option zSt) (k1 : Nat) (k3 : Nat) (a4 : Int32) (a5 : Int32) (a6 : Int32) (a7 : Int32) (a8 : Int32) (a9 : Int32) (k10 : Nat) (S : zSt) : Option zSt := (if a6 = 0 then (f_RequestWriter_putVariable_176 K65 k1 k3 a4 a5 a6 a7 a8 a9 k10 S) else (if a9 = 0 then (f_RequestWriter_putVariable_122 K65 k1 k3 a4 a5 a6 a7 a8 a9 k10 S) else (if a5 = 0 then (f_RequestWriter_putVariable_176 K65 k1 k3 a4 a5 a6 a7 a8 a9 k10 S) else (f_RequestWriter_putVariable_122 K65 k1 k3 a4 a5 a6 a7 a8 a9 k10 S))))
def f_RequestWriter_putVariable_104 (K65 : Nat → Nat → Int32 → Int32 → Int32 → Int32 → Int32 → Int32 → zSt → Option zSt) (k1 : Nat) (k3 : Nat) (a4 : Int32) (a5 : Int32) (a6 : Int32) (a7 : Int32) (a8 : Int32) (a9 : Int32) (k10 : Nat) (t0 : Int32) (kt1 : Nat) (S : zSt) : Option zSt := ((f_ByteRow_put kt1 t0 S).bind fun u8 => (f_RequestWriter_putVariable_107 K65 k1 k3 a4 a5 a6 a7 a8 a9 k10 u8))
def f_RequestWriter_putVariable_65 : Nat → Nat → Nat → Int32 → Int32 → Int32 → Int32 → Int32 → Int32 → zSt → Option zSt
  | 0, _, _, _, _, _, _, _, _, _ => none
  | n + 1, k1, k3, a4, a5, a6, a7, a8, a9, S => (if (S (10 + k3) 1) ≤ a9 then (some S) else gdi a9 3 ((if a9 ≤ 0 then (f_RequestWriter_putVariable_107 (f_RequestWriter_putVariable_65 n) k1 k3 a4 a5 a6 a7 a8 a9 (3 * k3 + a9.toNatClampNeg) S) else (if a5 = 0 then (f_RequestWriter_putVariable_104 (f_RequestWriter_putVariable_65 n) k1 k3 a4 a5 a6 a7 a8 a9 (3 * k3 + a9.toNatClampNeg) 44 k1 S) else ((f_RequestWriter_breakOf a4 S).bind fun u9 => (f_RequestWriter_putVariable_104 (f_RequestWriter_putVariable_65 n) k1 k3 a4 a5 a6 a7 a8 a9 (3 * k3 + a9.toNatClampNeg) u9 k1 S))))))
def f_RequestWriter_putVariable_50 (k1 : Nat) (a2 : Int32) (k3 : Nat) (a4 : Int32) (a5 : Int32) (a6 : Int32) (t0 : Int32) (S : zSt) : Option zSt := ((f_PathTemplate_charactersFor a2 S).bind fun u2 => (f_RequestWriter_putVariable_65 fu k1 k3 a4 a5 a6 t0 u2 0 S))
def f_RequestWriter_putVariable_36 (k1 : Nat) (a2 : Int32) (k3 : Nat) (a4 : Int32) (a5 : Int32) (t0 : Int32) (S : zSt) : Option zSt := (if a4 = 43 then (f_RequestWriter_putVariable_50 k1 a2 k3 a4 a5 t0 1 S) else (f_RequestWriter_putVariable_50 k1 a2 k3 a4 a5 t0 0 S))
def f_RequestWriter_putVariable_31 (k1 : Nat) (a2 : Int32) (k3 : Nat) (a4 : Int32) (a5 : Int32) (S : zSt) : Option zSt := (f_RequestWriter_putVariable_36 k1 a2 k3 a4 a5 1 S)
def f_RequestWriter_putVariable (k1 : Nat) (a2 : Int32) (k3 : Nat) (a4 : Int32) (S : zSt) : Option zSt := ((f_PathTemplate_isSpread a2 S).bind fun u1 => (if a4 = 59 then (f_RequestWriter_putVariable_31 k1 a2 k3 a4 u1 S) else (if a4 = 63 then (f_RequestWriter_putVariable_31 k1 a2 k3 a4 u1 S) else (if a4 = 38 then (f_RequestWriter_putVariable_31 k1 a2 k3 a4 u1 S) else (f_RequestWriter_putVariable_36 k1 a2 k3 a4 u1 0 S)))))
set_option maxHeartbeats 4000000 in
set_option maxRecDepth 100000 in
theorem c_RequestWriter_putVariable (l : Launch) (g : zG) (hD : GD g) (k1 : Nat) (hk1 : k1 < 4) (a2 : Int32) (k3 : Nat) (hk3 : k3 < 6) (a4 : Int32) (S : zSt) (u : zSt) (h : f_RequestWriter_putVariable k1 a2 k3 a4 S = some u) : Met l y_RequestWriter_putVariable (mw y_RequestWriter_putVariable b_RequestWriter_putVariable 12 none) (rmD 6) (Pw g [.ref (ga g 5), .ref (ga g (58 + k1)), .int a2, .ref (ga g (10 + k3)), .int a4] S) (Qvs g u) 0 0 (gA g) := by
  refine z_go (own := R_RequestWriter) (lv0 := [(0, .ref (ga g 5)), (1, .ref (ga g (58 + k1))), (2, .int a2), (3, .ref (ga g (10 + k3))), (4, .int a4)]) hD (by decide) rfl (Nat.le_of_ble_eq_true rfl) rfl ?_
  intro p e s m args below meth c C D ls hl
  have hx := C.1
  have hb := C.2.1
  have hown := C.2.2.2.1
  have hts := C.2.2.2.2.1
  have B176 : ∀ (K65 : Nat → Nat → Int32 → Int32 → Int32 → Int32 → Int32 → Int32 → zSt → Option zSt) (hK65 : ∀ (H : Heap) (locs : List Loc) (S : zSt) (ls : Array Slot) (k1 : Nat) (hk1 : k1 < 4) (k3 : Nat) (hk3 : k3 < 6) (a4 : Int32) (a5 : Int32) (a6 : Int32) (a7 : Int32) (a8 : Int32) (a9 : Int32), K65 k1 k3 a4 a5 a6 a7 a8 a9 S = some u → Dy g s S H locs → lv_has ls 12 [(1, .ref (ga g (58 + k1))), (3, .ref (ga g (10 + k3))), (4, .int a4), (5, .int a5), (6, .int a6), (7, .int a7), (8, .int a8), (9, .int a9)] → W p l e (rmD 6) s m args below meth c H locs 0 0 (MQ below (Qvs g u) args s 0 0 (gA g)) (F0 m 65 ls [])) (H : Heap) (locs : List Loc) (S : zSt) (ls : Array Slot) (k1 : Nat) (hk1 : k1 < 4) (k3 : Nat) (hk3 : k3 < 6) (a4 : Int32) (a5 : Int32) (a6 : Int32) (a7 : Int32) (a8 : Int32) (a9 : Int32) (k10 : Nat) (hk10 : k10 < 18), f_RequestWriter_putVariable_176 K65 k1 k3 a4 a5 a6 a7 a8 a9 k10 S = some u → Dy g s S H locs → lv_has ls 12 [(1, .ref (ga g (58 + k1))), (3, .ref (ga g (10 + k3))), (4, .int a4), (5, .int a5), (6, .int a6), (7, .int a7), (8, .int a8), (9, .int a9), (10, .ref (ga g (22 + k10)))] → W p l e (rmD 6) s m args below meth c H locs 0 0 (MQ below (Qvs g u) args s 0 0 (gA g)) (F0 m 176 ls []) := by
    intro K65 hK65 H locs S ls k1 hk1 k3 hk3 a4 a5 a6 a7 a8 a9 k10 hk10 h D hl
    unfold f_RequestWriter_putVariable_176 at h
    refine lv_aload_n hx hb d_RequestWriter_putVariable_176 rfl (lv_at hl 0 rfl) ?_
    refine lv_aload hx hb d_RequestWriter_putVariable_177 (lv_at hl 8 rfl) ?_
    refine lv_aload hx hb d_RequestWriter_putVariable_179 (lv_at hl 8 rfl) ?_
    refine lv_iload hx hb d_RequestWriter_putVariable_181 (lv_at hl 6 rfl) ?_
    obtain ⟨u4, hu4, h⟩ := bd_some h
    refine x_cip (rest := [.ref (ga g (22 + k10)), .ref (ga g (58 + k1))]) (r_V C D (c_Item_endOf l g hD k10 hk10 a8 S u4 hu4) wc_Item_endOf wm_RequestWriter_131 wi_Item_endOf wd_Item_endOf (nI_ hk10) (sh_I hk10) kc_Item.1 rfl rfl hl (Nat.le_of_ble_eq_true rfl) (by decide) d_RequestWriter_putVariable_183) D (fun H locs D => ?_)
    refine lv_iload hx hb d_RequestWriter_putVariable_186 (lv_at hl 5 rfl) ?_
    obtain ⟨u5, hu5, h⟩ := bd_some h
    refine x_cvs (rest := []) (r_S C D (c_Encoder_putEncoded l g hD k1 hk1 k10 hk10 u4 a7 S u5 hu5) wc_Encoder_putEncoded wm_RequestWriter_134 wt_Encoder_putEncoded wd_Encoder_putEncoded rfl rfl hl (Nat.le_of_ble_eq_true rfl) (by decide) d_RequestWriter_putVariable_188) D (fun H locs D => ?_)
    refine lv_iinc (k := 7) (lv' := [(9, .int (a9 + 1)), (1, .ref (ga g (58 + k1))), (3, .ref (ga g (10 + k3))), (4, .int a4), (5, .int a5), (6, .int a6), (7, .int a7), (8, .int a8), (10, .ref (ga g (22 + k10)))]) hx hb d_RequestWriter_putVariable_191 hl rfl (ii1 _) (by decide) rfl (fun ls hl => ?_)
    refine lv_goto hx hb d_RequestWriter_putVariable_194 rfl ?_
    exact hK65 _ _ _ _ _ hk1 _ hk3 _ _ _ _ _ _ h D (lv_sub hl [1, 2, 3, 4, 5, 6, 7, 0] rfl)
  have B170 : ∀ (K65 : Nat → Nat → Int32 → Int32 → Int32 → Int32 → Int32 → Int32 → zSt → Option zSt) (hK65 : ∀ (H : Heap) (locs : List Loc) (S : zSt) (ls : Array Slot) (k1 : Nat) (hk1 : k1 < 4) (k3 : Nat) (hk3 : k3 < 6) (a4 : Int32) (a5 : Int32) (a6 : Int32) (a7 : Int32) (a8 : Int32) (a9 : Int32), K65 k1 k3 a4 a5 a6 a7 a8 a9 S = some u → Dy g s S H locs → lv_has ls 12 [(1, .ref (ga g (58 + k1))), (3, .ref (ga g (10 + k3))), (4, .int a4), (5, .int a5), (6, .int a6), (7, .int a7), (8, .int a8), (9, .int a9)] → W p l e (rmD 6) s m args below meth c H locs 0 0 (MQ below (Qvs g u) args s 0 0 (gA g)) (F0 m 65 ls [])) (H : Heap) (locs : List Loc) (S : zSt) (ls : Array Slot) (k1 : Nat) (hk1 : k1 < 4) (k3 : Nat) (hk3 : k3 < 6) (a4 : Int32) (a5 : Int32) (a6 : Int32) (a7 : Int32) (a8 : Int32) (a9 : Int32) (k10 : Nat) (hk10 : k10 < 18), f_RequestWriter_putVariable_170 K65 k1 k3 a4 a5 a6 a7 a8 a9 k10 S = some u → Dy g s S H locs → lv_has ls 12 [(1, .ref (ga g (58 + k1))), (3, .ref (ga g (10 + k3))), (4, .int a4), (5, .int a5), (6, .int a6), (7, .int a7), (8, .int a8), (9, .int a9), (10, .ref (ga g (22 + k10)))] → W p l e (rmD 6) s m args below meth c H locs 0 0 (MQ below (Qvs g u) args s 0 0 (gA g)) (F0 m 170 ls []) := by
    intro K65 hK65 H locs S ls k1 hk1 k3 hk3 a4 a5 a6 a7 a8 a9 k10 hk10 h D hl
    unfold f_RequestWriter_putVariable_170 at h
    refine lv_aload_n hx hb d_RequestWriter_putVariable_170 rfl (lv_at hl 0 rfl) ?_
    refine lv_bipush (v := 61) hx hb d_RequestWriter_putVariable_171 (by decide) ?_
    obtain ⟨u7, hu7, h⟩ := bd_some h
    refine x_cvs (rest := []) (r_V C D (c_ByteRow_put l g hD k1 hk1 61 S u7 hu7) wc_ByteRow_put wm_RequestWriter_41 wi_ByteRow_put wd_ByteRow_put (nR hk1) (sh_R hk1) kc_ByteRow.1 rfl rfl hl (Nat.le_of_ble_eq_true rfl) (by decide) d_RequestWriter_putVariable_173) D (fun H locs D => ?_)
    exact B176 _ hK65 _ _ _ _ _ hk1 _ hk3 _ _ _ _ _ _ _ hk10 h D (lv_sub hl [0, 1, 2, 3, 4, 5, 6, 7, 8] rfl)
  have B140 : ∀ (K65 : Nat → Nat → Int32 → Int32 → Int32 → Int32 → Int32 → Int32 → zSt → Option zSt) (hK65 : ∀ (H : Heap) (locs : List Loc) (S : zSt) (ls : Array Slot) (k1 : Nat) (hk1 : k1 < 4) (k3 : Nat) (hk3 : k3 < 6) (a4 : Int32) (a5 : Int32) (a6 : Int32) (a7 : Int32) (a8 : Int32) (a9 : Int32), K65 k1 k3 a4 a5 a6 a7 a8 a9 S = some u → Dy g s S H locs → lv_has ls 12 [(1, .ref (ga g (58 + k1))), (3, .ref (ga g (10 + k3))), (4, .int a4), (5, .int a5), (6, .int a6), (7, .int a7), (8, .int a8), (9, .int a9)] → W p l e (rmD 6) s m args below meth c H locs 0 0 (MQ below (Qvs g u) args s 0 0 (gA g)) (F0 m 65 ls [])) (H : Heap) (locs : List Loc) (S : zSt) (ls : Array Slot) (k1 : Nat) (hk1 : k1 < 4) (k3 : Nat) (hk3 : k3 < 6) (a4 : Int32) (a5 : Int32) (a6 : Int32) (a7 : Int32) (a8 : Int32) (a9 : Int32) (k10 : Nat) (hk10 : k10 < 18) (t0 : Int32), f_RequestWriter_putVariable_140 K65 k1 k3 a4 a5 a6 a7 a8 a9 k10 t0 S = some u → Dy g s S H locs → lv_has ls 12 [(1, .ref (ga g (58 + k1))), (3, .ref (ga g (10 + k3))), (4, .int a4), (5, .int a5), (6, .int a6), (7, .int a7), (8, .int a8), (9, .int a9), (10, .ref (ga g (22 + k10)))] → W p l e (rmD 6) s m args below meth c H locs 0 0 (MQ below (Qvs g u) args s 0 0 (gA g)) (F0 m 140 ls [.int t0]) := by
    intro K65 hK65 H locs S ls k1 hk1 k3 hk3 a4 a5 a6 a7 a8 a9 k10 hk10 t0 h D hl
    unfold f_RequestWriter_putVariable_140 at h
    refine lv_istore (lv' := [(11, .int t0), (1, .ref (ga g (58 + k1))), (3, .ref (ga g (10 + k3))), (4, .int a4), (5, .int a5), (6, .int a6), (7, .int a7), (8, .int a8), (9, .int a9), (10, .ref (ga g (22 + k10)))]) hx hb d_RequestWriter_putVariable_140 hl (by decide) rfl (fun ls hl => ?_)
    refine lv_aload_n hx hb d_RequestWriter_putVariable_142 rfl (lv_at hl 1 rfl) ?_
    refine lv_aload_n hx hb d_RequestWriter_putVariable_143 rfl (lv_at hl 2 rfl) ?_
    refine x_getN (v := .int (S (10 + k3) 3)) C D kc_Parameter (nP hk3) (sh_P hk3) 3 rfl (by decide) nf_RequestWriter_124 rfl rfl d_RequestWriter_putVariable_144 ?_
    obtain ⟨u6, hu6, h⟩ := bd_some h
    refine x_cvs (rest := []) (r_V C D (c_ByteRow_put l g hD k1 hk1 (S (10 + k3) 3) S u6 hu6) wc_ByteRow_put wm_RequestWriter_41 wi_ByteRow_put wd_ByteRow_put (nR hk1) (sh_R hk1) kc_ByteRow.1 rfl rfl hl (Nat.le_of_ble_eq_true rfl) (by decide) d_RequestWriter_putVariable_147) D (fun H locs D => ?_)
    refine lv_iload hx hb d_RequestWriter_putVariable_150 (lv_at hl 3 rfl) ?_
    refine lv_bipush (v := 59) hx hb d_RequestWriter_putVariable_152 (by decide) ?_
    refine lv_icmp_ne hx hb d_RequestWriter_putVariable_154 rfl (fun z => ?_) (fun z => ?_)
    · replace h := if_f z h
      exact B170 _ hK65 _ _ _ _ _ hk1 _ hk3 _ _ _ _ _ _ _ hk10 h D (lv_sub hl [1, 2, 3, 4, 5, 6, 7, 8, 9] rfl)
    · replace h := if_t z h
      refine lv_iload hx hb d_RequestWriter_putVariable_157 (lv_at hl 0 rfl) ?_
      refine lv_if_eq hx hb d_RequestWriter_putVariable_159 rfl (fun z => ?_) (fun z => ?_)
      · replace h := if_t z h
        exact B170 _ hK65 _ _ _ _ _ hk1 _ hk3 _ _ _ _ _ _ _ hk10 h D (lv_sub hl [1, 2, 3, 4, 5, 6, 7, 8, 9] rfl)
      · replace h := if_f z h
        refine lv_aload hx hb d_RequestWriter_putVariable_162 (lv_at hl 9 rfl) ?_
        refine x_getN (v := .int (u6 (22 + k10) 1)) C D kc_Item (nI_ hk10) (sh_I hk10) 1 rfl (by decide) nf_RequestWriter_128 rfl rfl d_RequestWriter_putVariable_164 ?_
        refine lv_if_le hx hb d_RequestWriter_putVariable_167 rfl (fun z => ?_) (fun z => ?_)
        · replace h := if_t z h
          exact B176 _ hK65 _ _ _ _ _ hk1 _ hk3 _ _ _ _ _ _ _ hk10 h D (lv_sub hl [1, 2, 3, 4, 5, 6, 7, 8, 9] rfl)
        · replace h := if_f z h
          exact B170 _ hK65 _ _ _ _ _ hk1 _ hk3 _ _ _ _ _ _ _ hk10 h D (lv_sub hl [1, 2, 3, 4, 5, 6, 7, 8, 9] rfl)
  have B135 : ∀ (K65 : Nat → Nat → Int32 → Int32 → Int32 → Int32 → Int32 → Int32 → zSt → Option zSt) (hK65 : ∀ (H : Heap) (locs : List Loc) (S : zSt) (ls : Array Slot) (k1 : Nat) (hk1 : k1 < 4) (k3 : Nat) (hk3 : k3 < 6) (a4 : Int32) (a5 : Int32) (a6 : Int32) (a7 : Int32) (a8 : Int32) (a9 : Int32), K65 k1 k3 a4 a5 a6 a7 a8 a9 S = some u → Dy g s S H locs → lv_has ls 12 [(1, .ref (ga g (58 + k1))), (3, .ref (ga g (10 + k3))), (4, .int a4), (5, .int a5), (6, .int a6), (7, .int a7), (8, .int a8), (9, .int a9)] → W p l e (rmD 6) s m args below meth c H locs 0 0 (MQ below (Qvs g u) args s 0 0 (gA g)) (F0 m 65 ls [])) (H : Heap) (locs : List Loc) (S : zSt) (ls : Array Slot) (k1 : Nat) (hk1 : k1 < 4) (k3 : Nat) (hk3 : k3 < 6) (a4 : Int32) (a5 : Int32) (a6 : Int32) (a7 : Int32) (a8 : Int32) (a9 : Int32) (k10 : Nat) (hk10 : k10 < 18), f_RequestWriter_putVariable_135 K65 k1 k3 a4 a5 a6 a7 a8 a9 k10 S = some u → Dy g s S H locs → lv_has ls 12 [(1, .ref (ga g (58 + k1))), (3, .ref (ga g (10 + k3))), (4, .int a4), (5, .int a5), (6, .int a6), (7, .int a7), (8, .int a8), (9, .int a9), (10, .ref (ga g (22 + k10)))] → W p l e (rmD 6) s m args below meth c H locs 0 0 (MQ below (Qvs g u) args s 0 0 (gA g)) (F0 m 135 ls []) := by
    intro K65 hK65 H locs S ls k1 hk1 k3 hk3 a4 a5 a6 a7 a8 a9 k10 hk10 h D hl
    unfold f_RequestWriter_putVariable_135 at h
    refine lv_iconst (v := 1) hx hb d_RequestWriter_putVariable_135 (by decide) ?_
    refine lv_goto hx hb d_RequestWriter_putVariable_136 rfl ?_
    exact B140 _ hK65 _ _ _ _ _ hk1 _ hk3 _ _ _ _ _ _ _ hk10 _ h D (lv_sub hl [0, 1, 2, 3, 4, 5, 6, 7, 8] rfl)
  have B122 : ∀ (K65 : Nat → Nat → Int32 → Int32 → Int32 → Int32 → Int32 → Int32 → zSt → Option zSt) (hK65 : ∀ (H : Heap) (locs : List Loc) (S : zSt) (ls : Array Slot) (k1 : Nat) (hk1 : k1 < 4) (k3 : Nat) (hk3 : k3 < 6) (a4 : Int32) (a5 : Int32) (a6 : Int32) (a7 : Int32) (a8 : Int32) (a9 : Int32), K65 k1 k3 a4 a5 a6 a7 a8 a9 S = some u → Dy g s S H locs → lv_has ls 12 [(1, .ref (ga g (58 + k1))), (3, .ref (ga g (10 + k3))), (4, .int a4), (5, .int a5), (6, .int a6), (7, .int a7), (8, .int a8), (9, .int a9)] → W p l e (rmD 6) s m args below meth c H locs 0 0 (MQ below (Qvs g u) args s 0 0 (gA g)) (F0 m 65 ls [])) (H : Heap) (locs : List Loc) (S : zSt) (ls : Array Slot) (k1 : Nat) (hk1 : k1 < 4) (k3 : Nat) (hk3 : k3 < 6) (a4 : Int32) (a5 : Int32) (a6 : Int32) (a7 : Int32) (a8 : Int32) (a9 : Int32) (k10 : Nat) (hk10 : k10 < 18), f_RequestWriter_putVariable_122 K65 k1 k3 a4 a5 a6 a7 a8 a9 k10 S = some u → Dy g s S H locs → lv_has ls 12 [(1, .ref (ga g (58 + k1))), (3, .ref (ga g (10 + k3))), (4, .int a4), (5, .int a5), (6, .int a6), (7, .int a7), (8, .int a8), (9, .int a9), (10, .ref (ga g (22 + k10)))] → W p l e (rmD 6) s m args below meth c H locs 0 0 (MQ below (Qvs g u) args s 0 0 (gA g)) (F0 m 122 ls []) := by
    intro K65 hK65 H locs S ls k1 hk1 k3 hk3 a4 a5 a6 a7 a8 a9 k10 hk10 h D hl
    unfold f_RequestWriter_putVariable_122 at h
    refine lv_iload hx hb d_RequestWriter_putVariable_122 (lv_at hl 3 rfl) ?_
    refine lv_if_ne hx hb d_RequestWriter_putVariable_124 rfl (fun z => ?_) (fun z => ?_)
    · replace h := if_f z h
      exact B135 _ hK65 _ _ _ _ _ hk1 _ hk3 _ _ _ _ _ _ _ hk10 h D (lv_sub hl [0, 1, 2, 3, 4, 5, 6, 7, 8] rfl)
    · replace h := if_t z h
      refine lv_aload_n hx hb d_RequestWriter_putVariable_127 rfl (lv_at hl 1 rfl) ?_
      refine x_getN (v := .int (S (10 + k3) 1)) C D kc_Parameter (nP hk3) (sh_P hk3) 1 rfl (by decide) nf_RequestWriter_90 rfl rfl d_RequestWriter_putVariable_128 ?_
      refine lv_iconst (v := 1) hx hb d_RequestWriter_putVariable_131 (by decide) ?_
      refine lv_icmp_ne hx hb d_RequestWriter_putVariable_132 rfl (fun z => ?_) (fun z => ?_)
      · replace h := if_f z h
        refine lv_iconst (v := 0) hx hb d_RequestWriter_putVariable_139 (by decide) ?_
        exact B140 _ hK65 _ _ _ _ _ hk1 _ hk3 _ _ _ _ _ _ _ hk10 _ h D (lv_sub hl [0, 1, 2, 3, 4, 5, 6, 7, 8] rfl)
      · replace h := if_t z h
        exact B135 _ hK65 _ _ _ _ _ hk1 _ hk3 _ _ _ _ _ _ _ hk10 h D (lv_sub hl [0, 1, 2, 3, 4, 5, 6, 7, 8] rfl)
  have B107 : ∀ (K65 : Nat → Nat → Int32 → Int32 → Int32 → Int32 → Int32 → Int32 → zSt → Option zSt) (hK65 : ∀ (H : Heap) (locs : List Loc) (S : zSt) (ls : Array Slot) (k1 : Nat) (hk1 : k1 < 4) (k3 : Nat) (hk3 : k3 < 6) (a4 : Int32) (a5 : Int32) (a6 : Int32) (a7 : Int32) (a8 : Int32) (a9 : Int32), K65 k1 k3 a4 a5 a6 a7 a8 a9 S = some u → Dy g s S H locs → lv_has ls 12 [(1, .ref (ga g (58 + k1))), (3, .ref (ga g (10 + k3))), (4, .int a4), (5, .int a5), (6, .int a6), (7, .int a7), (8, .int a8), (9, .int a9)] → W p l e (rmD 6) s m args below meth c H locs 0 0 (MQ below (Qvs g u) args s 0 0 (gA g)) (F0 m 65 ls [])) (H : Heap) (locs : List Loc) (S : zSt) (ls : Array Slot) (k1 : Nat) (hk1 : k1 < 4) (k3 : Nat) (hk3 : k3 < 6) (a4 : Int32) (a5 : Int32) (a6 : Int32) (a7 : Int32) (a8 : Int32) (a9 : Int32) (k10 : Nat) (hk10 : k10 < 18), f_RequestWriter_putVariable_107 K65 k1 k3 a4 a5 a6 a7 a8 a9 k10 S = some u → Dy g s S H locs → lv_has ls 12 [(1, .ref (ga g (58 + k1))), (3, .ref (ga g (10 + k3))), (4, .int a4), (5, .int a5), (6, .int a6), (7, .int a7), (8, .int a8), (9, .int a9), (10, .ref (ga g (22 + k10)))] → W p l e (rmD 6) s m args below meth c H locs 0 0 (MQ below (Qvs g u) args s 0 0 (gA g)) (F0 m 107 ls []) := by
    intro K65 hK65 H locs S ls k1 hk1 k3 hk3 a4 a5 a6 a7 a8 a9 k10 hk10 h D hl
    unfold f_RequestWriter_putVariable_107 at h
    refine lv_iload hx hb d_RequestWriter_putVariable_107 (lv_at hl 4 rfl) ?_
    refine lv_if_eq hx hb d_RequestWriter_putVariable_109 rfl (fun z => ?_) (fun z => ?_)
    · replace h := if_t z h
      exact B176 _ hK65 _ _ _ _ _ hk1 _ hk3 _ _ _ _ _ _ _ hk10 h D (lv_sub hl [0, 1, 2, 3, 4, 5, 6, 7, 8] rfl)
    · replace h := if_f z h
      refine lv_iload hx hb d_RequestWriter_putVariable_112 (lv_at hl 7 rfl) ?_
      refine lv_if_eq hx hb d_RequestWriter_putVariable_114 rfl (fun z => ?_) (fun z => ?_)
      · replace h := if_t z h
        exact B122 _ hK65 _ _ _ _ _ hk1 _ hk3 _ _ _ _ _ _ _ hk10 h D (lv_sub hl [0, 1, 2, 3, 4, 5, 6, 7, 8] rfl)
      · replace h := if_f z h
        refine lv_iload hx hb d_RequestWriter_putVariable_117 (lv_at hl 3 rfl) ?_
        refine lv_if_eq hx hb d_RequestWriter_putVariable_119 rfl (fun z => ?_) (fun z => ?_)
        · replace h := if_t z h
          exact B176 _ hK65 _ _ _ _ _ hk1 _ hk3 _ _ _ _ _ _ _ hk10 h D (lv_sub hl [0, 1, 2, 3, 4, 5, 6, 7, 8] rfl)
        · replace h := if_f z h
          exact B122 _ hK65 _ _ _ _ _ hk1 _ hk3 _ _ _ _ _ _ _ hk10 h D (lv_sub hl [0, 1, 2, 3, 4, 5, 6, 7, 8] rfl)
  have B104 : ∀ (K65 : Nat → Nat → Int32 → Int32 → Int32 → Int32 → Int32 → Int32 → zSt → Option zSt) (hK65 : ∀ (H : Heap) (locs : List Loc) (S : zSt) (ls : Array Slot) (k1 : Nat) (hk1 : k1 < 4) (k3 : Nat) (hk3 : k3 < 6) (a4 : Int32) (a5 : Int32) (a6 : Int32) (a7 : Int32) (a8 : Int32) (a9 : Int32), K65 k1 k3 a4 a5 a6 a7 a8 a9 S = some u → Dy g s S H locs → lv_has ls 12 [(1, .ref (ga g (58 + k1))), (3, .ref (ga g (10 + k3))), (4, .int a4), (5, .int a5), (6, .int a6), (7, .int a7), (8, .int a8), (9, .int a9)] → W p l e (rmD 6) s m args below meth c H locs 0 0 (MQ below (Qvs g u) args s 0 0 (gA g)) (F0 m 65 ls [])) (H : Heap) (locs : List Loc) (S : zSt) (ls : Array Slot) (k1 : Nat) (hk1 : k1 < 4) (k3 : Nat) (hk3 : k3 < 6) (a4 : Int32) (a5 : Int32) (a6 : Int32) (a7 : Int32) (a8 : Int32) (a9 : Int32) (k10 : Nat) (hk10 : k10 < 18) (t0 : Int32) (kt1 : Nat) (hkt1 : kt1 < 4), f_RequestWriter_putVariable_104 K65 k1 k3 a4 a5 a6 a7 a8 a9 k10 t0 kt1 S = some u → Dy g s S H locs → lv_has ls 12 [(1, .ref (ga g (58 + k1))), (3, .ref (ga g (10 + k3))), (4, .int a4), (5, .int a5), (6, .int a6), (7, .int a7), (8, .int a8), (9, .int a9), (10, .ref (ga g (22 + k10)))] → W p l e (rmD 6) s m args below meth c H locs 0 0 (MQ below (Qvs g u) args s 0 0 (gA g)) (F0 m 104 ls [.int t0, .ref (ga g (58 + kt1))]) := by
    intro K65 hK65 H locs S ls k1 hk1 k3 hk3 a4 a5 a6 a7 a8 a9 k10 hk10 t0 kt1 hkt1 h D hl
    unfold f_RequestWriter_putVariable_104 at h
    obtain ⟨u8, hu8, h⟩ := bd_some h
    refine x_cvs (rest := []) (r_V C D (c_ByteRow_put l g hD kt1 hkt1 t0 S u8 hu8) wc_ByteRow_put wm_RequestWriter_41 wi_ByteRow_put wd_ByteRow_put (nR hkt1) (sh_R hkt1) kc_ByteRow.1 rfl rfl hl (Nat.le_of_ble_eq_true rfl) (by decide) d_RequestWriter_putVariable_104) D (fun H locs D => ?_)
    exact B107 _ hK65 _ _ _ _ _ hk1 _ hk3 _ _ _ _ _ _ _ hk10 h D (lv_sub hl [0, 1, 2, 3, 4, 5, 6, 7, 8] rfl)
  have L65 : ∀ (n : Nat) (H : Heap) (locs : List Loc) (S : zSt) (ls : Array Slot) (k1 : Nat) (hk1 : k1 < 4) (k3 : Nat) (hk3 : k3 < 6) (a4 : Int32) (a5 : Int32) (a6 : Int32) (a7 : Int32) (a8 : Int32) (a9 : Int32), f_RequestWriter_putVariable_65 n k1 k3 a4 a5 a6 a7 a8 a9 S = some u → Dy g s S H locs → lv_has ls 12 [(1, .ref (ga g (58 + k1))), (3, .ref (ga g (10 + k3))), (4, .int a4), (5, .int a5), (6, .int a6), (7, .int a7), (8, .int a8), (9, .int a9)] → W p l e (rmD 6) s m args below meth c H locs 0 0 (MQ below (Qvs g u) args s 0 0 (gA g)) (F0 m 65 ls []) := by
    intro n
    induction n with
    | zero => intro H locs S ls k1 hk1 k3 hk3 a4 a5 a6 a7 a8 a9 h D hl; rw [f_RequestWriter_putVariable_65] at h; cases h
    | succ n hK65 =>
      intro H locs S ls k1 hk1 k3 hk3 a4 a5 a6 a7 a8 a9 h D hl
      rw [f_RequestWriter_putVariable_65] at h
      refine lv_iload hx hb d_RequestWriter_putVariable_65 (lv_at hl 7 rfl) ?_
      refine lv_aload_n hx hb d_RequestWriter_putVariable_67 rfl (lv_at hl 1 rfl) ?_
      refine x_getN (v := .int (S (10 + k3) 1)) C D kc_Parameter (nP hk3) (sh_P hk3) 1 rfl (by decide) nf_RequestWriter_90 rfl rfl d_RequestWriter_putVariable_68 ?_
      refine lv_icmp_ge hx hb d_RequestWriter_putVariable_71 rfl (fun z => ?_) (fun z => ?_)
      · replace h := if_t z h
        exact x_vrs C D h d_RequestWriter_putVariable_197
      · replace h := if_f z h
        refine lv_aload_n hx hb d_RequestWriter_putVariable_74 rfl (lv_at hl 1 rfl) ?_
        refine x_getN (v := .ref (ga g (16 + k3))) C D kc_Parameter (nP hk3) (sh_P hk3) 0 rfl (by decide) nf_RequestWriter_120 rfl (fvv_r _ _ (by have q_ : k3 < 6 := hk3; omega)) d_RequestWriter_putVariable_75 ?_
        refine lv_iload hx hb d_RequestWriter_putVariable_78 (lv_at hl 7 rfl) ?_
        refine x_aald4 C D (nPI hk3) (sh_PI hk3) d_RequestWriter_putVariable_80 h (fun q3 h => ?_)
        refine lv_astore (lv' := [(10, .ref (ga g (22 + (3 * k3 + a9.toNatClampNeg)))), (1, .ref (ga g (58 + k1))), (3, .ref (ga g (10 + k3))), (4, .int a4), (5, .int a5), (6, .int a6), (7, .int a7), (8, .int a8), (9, .int a9)]) hx hb d_RequestWriter_putVariable_81 hl (by decide) rfl (fun ls hl => ?_)
        refine lv_iload hx hb d_RequestWriter_putVariable_83 (lv_at hl 8 rfl) ?_
        refine lv_if_le hx hb d_RequestWriter_putVariable_85 rfl (fun z => ?_) (fun z => ?_)
        · replace h := if_t z h
          exact B107 _ hK65 _ _ _ _ _ hk1 _ hk3 _ _ _ _ _ _ _ (i3 hk3 q3) h D (lv_sub hl [1, 2, 3, 4, 5, 6, 7, 8, 0] rfl)
        · replace h := if_f z h
          refine lv_aload_n hx hb d_RequestWriter_putVariable_88 rfl (lv_at hl 1 rfl) ?_
          refine lv_iload hx hb d_RequestWriter_putVariable_89 (lv_at hl 4 rfl) ?_
          refine lv_if_eq hx hb d_RequestWriter_putVariable_91 rfl (fun z => ?_) (fun z => ?_)
          · replace h := if_t z h
            refine lv_bipush (v := 44) hx hb d_RequestWriter_putVariable_102 (by decide) ?_
            exact B104 _ hK65 _ _ _ _ _ hk1 _ hk3 _ _ _ _ _ _ _ (i3 hk3 q3) _ _ hk1 h D (lv_sub hl [1, 2, 3, 4, 5, 6, 7, 8, 0] rfl)
          · replace h := if_f z h
            refine lv_iload hx hb d_RequestWriter_putVariable_94 (lv_at hl 3 rfl) ?_
            obtain ⟨u9, hu9, h⟩ := bd_some h
            refine x_cip (rest := [.ref (ga g (58 + k1))]) (r_S C D (c_RequestWriter_breakOf l g hD a4 S u9 hu9) wc_RequestWriter_breakOf wm_RequestWriter_103 wt_RequestWriter_breakOf wd_RequestWriter_breakOf rfl rfl hl (Nat.le_of_ble_eq_true rfl) (by decide) d_RequestWriter_putVariable_96) D (fun H locs D => ?_)
            refine lv_goto hx hb d_RequestWriter_putVariable_99 rfl ?_
            exact B104 _ hK65 _ _ _ _ _ hk1 _ hk3 _ _ _ _ _ _ _ (i3 hk3 q3) _ _ hk1 h D (lv_sub hl [1, 2, 3, 4, 5, 6, 7, 8, 0] rfl)
  have B50 : ∀ (H : Heap) (locs : List Loc) (S : zSt) (ls : Array Slot) (k1 : Nat) (hk1 : k1 < 4) (a2 : Int32) (k3 : Nat) (hk3 : k3 < 6) (a4 : Int32) (a5 : Int32) (a6 : Int32) (t0 : Int32), f_RequestWriter_putVariable_50 k1 a2 k3 a4 a5 a6 t0 S = some u → Dy g s S H locs → lv_has ls 12 [(0, .ref (ga g 5)), (1, .ref (ga g (58 + k1))), (2, .int a2), (3, .ref (ga g (10 + k3))), (4, .int a4), (5, .int a5), (6, .int a6)] → W p l e (rmD 6) s m args below meth c H locs 0 0 (MQ below (Qvs g u) args s 0 0 (gA g)) (F0 m 50 ls [.int t0]) := by
    intro H locs S ls k1 hk1 a2 k3 hk3 a4 a5 a6 t0 h D hl
    unfold f_RequestWriter_putVariable_50 at h
    refine lv_istore (lv' := [(7, .int t0), (0, .ref (ga g 5)), (1, .ref (ga g (58 + k1))), (2, .int a2), (3, .ref (ga g (10 + k3))), (4, .int a4), (5, .int a5), (6, .int a6)]) hx hb d_RequestWriter_putVariable_50 hl (by decide) rfl (fun ls hl => ?_)
    refine lv_aload_n hx hb d_RequestWriter_putVariable_52 rfl (lv_at hl 1 rfl) ?_
    refine x_get (v := .ref (ga g 2)) C D kc_RequestWriter (by decide) sh_5 1 rfl (by decide) wf_RequestWriter_28 rfl rfl d_RequestWriter_putVariable_53 ?_
    refine lv_iload_n hx hb d_RequestWriter_putVariable_56 rfl (lv_at hl 3 rfl) ?_
    obtain ⟨u2, hu2, h⟩ := bd_some h
    refine x_cip (rest := []) (r_V C D (c_PathTemplate_charactersFor l g hD a2 S u2 hu2) wc_PathTemplate_charactersFor wm_RequestWriter_116 wi_PathTemplate_charactersFor wd_PathTemplate_charactersFor (by decide) sh_2 kc_PathTemplate.1 rfl rfl hl (Nat.le_of_ble_eq_true rfl) (by decide) d_RequestWriter_putVariable_57) D (fun H locs D => ?_)
    refine lv_istore (lv' := [(8, .int u2), (7, .int t0), (0, .ref (ga g 5)), (1, .ref (ga g (58 + k1))), (2, .int a2), (3, .ref (ga g (10 + k3))), (4, .int a4), (5, .int a5), (6, .int a6)]) hx hb d_RequestWriter_putVariable_60 hl (by decide) rfl (fun ls hl => ?_)
    refine lv_iconst (v := 0) hx hb d_RequestWriter_putVariable_62 (by decide) ?_
    refine lv_istore (lv' := [(9, .int 0), (8, .int u2), (7, .int t0), (0, .ref (ga g 5)), (1, .ref (ga g (58 + k1))), (2, .int a2), (3, .ref (ga g (10 + k3))), (4, .int a4), (5, .int a5), (6, .int a6)]) hx hb d_RequestWriter_putVariable_63 hl (by decide) rfl (fun ls hl => ?_)
    exact L65 _ _ _ _ _ _ hk1 _ hk3 _ _ _ _ _ _ h D (lv_sub hl [4, 6, 7, 8, 9, 2, 1, 0] rfl)
  have B36 : ∀ (H : Heap) (locs : List Loc) (S : zSt) (ls : Array Slot) (k1 : Nat) (hk1 : k1 < 4) (a2 : Int32) (k3 : Nat) (hk3 : k3 < 6) (a4 : Int32) (a5 : Int32) (t0 : Int32), f_RequestWriter_putVariable_36 k1 a2 k3 a4 a5 t0 S = some u → Dy g s S H locs → lv_has ls 12 [(0, .ref (ga g 5)), (1, .ref (ga g (58 + k1))), (2, .int a2), (3, .ref (ga g (10 + k3))), (4, .int a4), (5, .int a5)] → W p l e (rmD 6) s m args below meth c H locs 0 0 (MQ below (Qvs g u) args s 0 0 (gA g)) (F0 m 36 ls [.int t0]) := by
    intro H locs S ls k1 hk1 a2 k3 hk3 a4 a5 t0 h D hl
    unfold f_RequestWriter_putVariable_36 at h
    refine lv_istore (lv' := [(6, .int t0), (0, .ref (ga g 5)), (1, .ref (ga g (58 + k1))), (2, .int a2), (3, .ref (ga g (10 + k3))), (4, .int a4), (5, .int a5)]) hx hb d_RequestWriter_putVariable_36 hl (by decide) rfl (fun ls hl => ?_)
    refine lv_iload hx hb d_RequestWriter_putVariable_38 (lv_at hl 5 rfl) ?_
    refine lv_bipush (v := 43) hx hb d_RequestWriter_putVariable_40 (by decide) ?_
    refine lv_icmp_ne hx hb d_RequestWriter_putVariable_42 rfl (fun z => ?_) (fun z => ?_)
    · replace h := if_f z h
      refine lv_iconst (v := 0) hx hb d_RequestWriter_putVariable_49 (by decide) ?_
      exact B50 _ _ _ _ _ hk1 _ _ hk3 _ _ _ _ h D (lv_sub hl [1, 2, 3, 4, 5, 6, 0] rfl)
    · replace h := if_t z h
      refine lv_iconst (v := 1) hx hb d_RequestWriter_putVariable_45 (by decide) ?_
      refine lv_goto hx hb d_RequestWriter_putVariable_46 rfl ?_
      exact B50 _ _ _ _ _ hk1 _ _ hk3 _ _ _ _ h D (lv_sub hl [1, 2, 3, 4, 5, 6, 0] rfl)
  have B31 : ∀ (H : Heap) (locs : List Loc) (S : zSt) (ls : Array Slot) (k1 : Nat) (hk1 : k1 < 4) (a2 : Int32) (k3 : Nat) (hk3 : k3 < 6) (a4 : Int32) (a5 : Int32), f_RequestWriter_putVariable_31 k1 a2 k3 a4 a5 S = some u → Dy g s S H locs → lv_has ls 12 [(0, .ref (ga g 5)), (1, .ref (ga g (58 + k1))), (2, .int a2), (3, .ref (ga g (10 + k3))), (4, .int a4), (5, .int a5)] → W p l e (rmD 6) s m args below meth c H locs 0 0 (MQ below (Qvs g u) args s 0 0 (gA g)) (F0 m 31 ls []) := by
    intro H locs S ls k1 hk1 a2 k3 hk3 a4 a5 h D hl
    unfold f_RequestWriter_putVariable_31 at h
    refine lv_iconst (v := 1) hx hb d_RequestWriter_putVariable_31 (by decide) ?_
    refine lv_goto hx hb d_RequestWriter_putVariable_32 rfl ?_
    exact B36 _ _ _ _ _ hk1 _ _ hk3 _ _ _ h D (lv_sub hl [0, 1, 2, 3, 4, 5] rfl)
  unfold f_RequestWriter_putVariable at h
  refine lv_aload_n hx hb d_RequestWriter_putVariable_0 rfl (lv_at hl 0 rfl) ?_
  refine x_get (v := .ref (ga g 2)) C D kc_RequestWriter (by decide) sh_5 1 rfl (by decide) wf_RequestWriter_28 rfl rfl d_RequestWriter_putVariable_1 ?_
  refine lv_iload_n hx hb d_RequestWriter_putVariable_4 rfl (lv_at hl 2 rfl) ?_
  obtain ⟨u1, hu1, h⟩ := bd_some h
  refine x_cip (rest := []) (r_V C D (c_PathTemplate_isSpread l g hD a2 S u1 hu1) wc_PathTemplate_isSpread wm_RequestWriter_110 wi_PathTemplate_isSpread wd_PathTemplate_isSpread (by decide) sh_2 kc_PathTemplate.1 rfl rfl hl (Nat.le_of_ble_eq_true rfl) (by decide) d_RequestWriter_putVariable_5) D (fun H locs D => ?_)
  refine lv_istore (lv' := [(5, .int u1), (0, .ref (ga g 5)), (1, .ref (ga g (58 + k1))), (2, .int a2), (3, .ref (ga g (10 + k3))), (4, .int a4)]) hx hb d_RequestWriter_putVariable_8 hl (by decide) rfl (fun ls hl => ?_)
  refine lv_iload hx hb d_RequestWriter_putVariable_10 (lv_at hl 5 rfl) ?_
  refine lv_bipush (v := 59) hx hb d_RequestWriter_putVariable_12 (by decide) ?_
  refine lv_icmp_eq hx hb d_RequestWriter_putVariable_14 rfl (fun z => ?_) (fun z => ?_)
  · replace h := if_t z h
    exact B31 _ _ _ _ _ hk1 _ _ hk3 _ _ h D (lv_sub hl [1, 2, 3, 4, 5, 0] rfl)
  · replace h := if_f z h
    refine lv_iload hx hb d_RequestWriter_putVariable_17 (lv_at hl 5 rfl) ?_
    refine lv_bipush (v := 63) hx hb d_RequestWriter_putVariable_19 (by decide) ?_
    refine lv_icmp_eq hx hb d_RequestWriter_putVariable_21 rfl (fun z => ?_) (fun z => ?_)
    · replace h := if_t z h
      exact B31 _ _ _ _ _ hk1 _ _ hk3 _ _ h D (lv_sub hl [1, 2, 3, 4, 5, 0] rfl)
    · replace h := if_f z h
      refine lv_iload hx hb d_RequestWriter_putVariable_24 (lv_at hl 5 rfl) ?_
      refine lv_bipush (v := 38) hx hb d_RequestWriter_putVariable_26 (by decide) ?_
      refine lv_icmp_ne hx hb d_RequestWriter_putVariable_28 rfl (fun z => ?_) (fun z => ?_)
      · replace h := if_f z h
        refine lv_iconst (v := 0) hx hb d_RequestWriter_putVariable_35 (by decide) ?_
        exact B36 _ _ _ _ _ hk1 _ _ hk3 _ _ _ h D (lv_sub hl [1, 2, 3, 4, 5, 0] rfl)
      · replace h := if_t z h
        exact B31 _ _ _ _ _ hk1 _ _ hk3 _ _ h D (lv_sub hl [1, 2, 3, 4, 5, 0] rfl)
theorem d_RequestWriter_putQueryItems_0 : decode b_RequestWriter_putQueryItems 0 = .ok (.iconst 0, 1) := by decide +kernel
theorem d_RequestWriter_putQueryItems_1 : decode b_RequestWriter_putQueryItems 1 = .ok (.istore_n 2, 1) := by decide +kernel
theorem d_RequestWriter_putQueryItems_2 : decode b_RequestWriter_putQueryItems 2 = .ok (.iload_n 2, 1) := by decide +kernel
theorem d_RequestWriter_putQueryItems_3 : decode b_RequestWriter_putQueryItems 3 = .ok (.aload_n 1, 1) := by decide +kernel
theorem d_RequestWriter_putQueryItems_4 : decode b_RequestWriter_putQueryItems 4 = .ok (.getfield 90, 3) := by decide +kernel
theorem d_RequestWriter_putQueryItems_7 : decode b_RequestWriter_putQueryItems 7 = .ok (.if_icmp .ge 60, 3) := by decide +kernel
theorem d_RequestWriter_putQueryItems_10 : decode b_RequestWriter_putQueryItems 10 = .ok (.aload_n 1, 1) := by decide +kernel
theorem d_RequestWriter_putQueryItems_11 : decode b_RequestWriter_putQueryItems 11 = .ok (.getfield 120, 3) := by decide +kernel
theorem d_RequestWriter_putQueryItems_14 : decode b_RequestWriter_putQueryItems 14 = .ok (.iload_n 2, 1) := by decide +kernel
theorem d_RequestWriter_putQueryItems_15 : decode b_RequestWriter_putQueryItems 15 = .ok (.aaload, 1) := by decide +kernel
theorem d_RequestWriter_putQueryItems_16 : decode b_RequestWriter_putQueryItems 16 = .ok (.astore_n 3, 1) := by decide +kernel
theorem d_RequestWriter_putQueryItems_17 : decode b_RequestWriter_putQueryItems 17 = .ok (.aload_n 0, 1) := by decide +kernel
theorem d_RequestWriter_putQueryItems_18 : decode b_RequestWriter_putQueryItems 18 = .ok (.aload_n 0, 1) := by decide +kernel
theorem d_RequestWriter_putQueryItems_19 : decode b_RequestWriter_putQueryItems 19 = .ok (.bipush 63, 2) := by decide +kernel
theorem d_RequestWriter_putQueryItems_21 : decode b_RequestWriter_putQueryItems 21 = .ok (.invokevirtual 150, 3) := by decide +kernel
theorem d_RequestWriter_putQueryItems_24 : decode b_RequestWriter_putQueryItems 24 = .ok (.ifCond .eq 8, 3) := by decide +kernel
theorem d_RequestWriter_putQueryItems_27 : decode b_RequestWriter_putQueryItems 27 = .ok (.bipush 38, 2) := by decide +kernel
theorem d_RequestWriter_putQueryItems_29 : decode b_RequestWriter_putQueryItems 29 = .ok (.goto 5, 3) := by decide +kernel
theorem d_RequestWriter_putQueryItems_32 : decode b_RequestWriter_putQueryItems 32 = .ok (.bipush 63, 2) := by decide +kernel
theorem d_RequestWriter_putQueryItems_34 : decode b_RequestWriter_putQueryItems 34 = .ok (.invokevirtual 41, 3) := by decide +kernel
theorem d_RequestWriter_putQueryItems_37 : decode b_RequestWriter_putQueryItems 37 = .ok (.aload_n 0, 1) := by decide +kernel
theorem d_RequestWriter_putQueryItems_38 : decode b_RequestWriter_putQueryItems 38 = .ok (.aload_n 1, 1) := by decide +kernel
theorem d_RequestWriter_putQueryItems_39 : decode b_RequestWriter_putQueryItems 39 = .ok (.getfield 124, 3) := by decide +kernel
theorem d_RequestWriter_putQueryItems_42 : decode b_RequestWriter_putQueryItems 42 = .ok (.invokevirtual 41, 3) := by decide +kernel
theorem d_RequestWriter_putQueryItems_45 : decode b_RequestWriter_putQueryItems 45 = .ok (.aload_n 0, 1) := by decide +kernel
theorem d_RequestWriter_putQueryItems_46 : decode b_RequestWriter_putQueryItems 46 = .ok (.bipush 61, 2) := by decide +kernel
theorem d_RequestWriter_putQueryItems_48 : decode b_RequestWriter_putQueryItems 48 = .ok (.invokevirtual 41, 3) := by decide +kernel
theorem d_RequestWriter_putQueryItems_51 : decode b_RequestWriter_putQueryItems 51 = .ok (.aload_n 0, 1) := by decide +kernel
theorem d_RequestWriter_putQueryItems_52 : decode b_RequestWriter_putQueryItems 52 = .ok (.aload_n 3, 1) := by decide +kernel
theorem d_RequestWriter_putQueryItems_53 : decode b_RequestWriter_putQueryItems 53 = .ok (.aload_n 3, 1) := by decide +kernel
theorem d_RequestWriter_putQueryItems_54 : decode b_RequestWriter_putQueryItems 54 = .ok (.getfield 128, 3) := by decide +kernel
theorem d_RequestWriter_putQueryItems_57 : decode b_RequestWriter_putQueryItems 57 = .ok (.iconst 0, 1) := by decide +kernel
theorem d_RequestWriter_putQueryItems_58 : decode b_RequestWriter_putQueryItems 58 = .ok (.invokestatic 134, 3) := by decide +kernel
theorem d_RequestWriter_putQueryItems_61 : decode b_RequestWriter_putQueryItems 61 = .ok (.iinc 2 1, 3) := by decide +kernel
theorem d_RequestWriter_putQueryItems_64 : decode b_RequestWriter_putQueryItems 64 = .ok (.goto (-62), 3) := by decide +kernel
theorem d_RequestWriter_putQueryItems_67 : decode b_RequestWriter_putQueryItems 67 = .ok (.return_, 1) := by decide +kernel
def f_RequestWriter_putQueryItems_34 (K2 : Nat → Nat → Int32 → zSt → Option zSt) (k0 : Nat) (k1 : Nat) (a2 : Int32) (k3 : Nat) (t0 : Int32) (kt1 : Nat) (S : zSt) : Option zSt := ((f_ByteRow_put kt1 t0 S).bind fun u3 => ((f_ByteRow_put k0 (u3 (10 + k1) 3) u3).bind fun u4 => ((f_ByteRow_put k0 61 u4).bind fun u5 => ((f_Encoder_putEncoded k0 k3 (u5 (22 + k3) 1) 0 u5).bind fun u6 => (K2 k0 k1 (a2 + 1) u6)))))
def f_RequestWriter_putQueryItems_2 : Nat → Nat → Nat → Int32 → zSt → Option zSt
  | 0, _, _, _, _ => none
  | n + 1, k0, k1, a2, S => (if (S (10 + k1) 1) ≤ a2 then (some S) else gdi a2 3 (((f_ByteRow_has k0 63 S).bind fun u2 => (if u2 = 0 then (f_RequestWriter_putQueryItems_34 (f_RequestWriter_putQueryItems_2 n) k0 k1 a2 (3 * k1 + a2.toNatClampNeg) 63 k0 S) else (f_RequestWriter_putQueryItems_34 (f_RequestWriter_putQueryItems_2 n) k0 k1 a2 (3 * k1 + a2.toNatClampNeg) 38 k0 S)))))
def f_RequestWriter_putQueryItems (k0 : Nat) (k1 : Nat) (S : zSt) : Option zSt := (f_RequestWriter_putQueryItems_2 fu k0 k1 0 S)
set_option maxHeartbeats 4000000 in
set_option maxRecDepth 100000 in
theorem c_RequestWriter_putQueryItems (l : Launch) (g : zG) (hD : GD g) (k0 : Nat) (hk0 : k0 < 4) (k1 : Nat) (hk1 : k1 < 6) (S : zSt) (u : zSt) (h : f_RequestWriter_putQueryItems k0 k1 S = some u) : Met l y_RequestWriter_putQueryItems (mw y_RequestWriter_putQueryItems b_RequestWriter_putQueryItems 4 none) (rmD 6) (Pw g [.ref (ga g (58 + k0)), .ref (ga g (10 + k1))] S) (Qvs g u) 0 0 (gA g) := by
  refine z_go (own := R_RequestWriter) (lv0 := [(0, .ref (ga g (58 + k0))), (1, .ref (ga g (10 + k1)))]) hD (by decide) rfl (Nat.le_of_ble_eq_true rfl) rfl ?_
  intro p e s m args below meth c C D ls hl
  have hx := C.1
  have hb := C.2.1
  have hown := C.2.2.2.1
  have hts := C.2.2.2.2.1
  have B34 : ∀ (K2 : Nat → Nat → Int32 → zSt → Option zSt) (hK2 : ∀ (H : Heap) (locs : List Loc) (S : zSt) (ls : Array Slot) (k0 : Nat) (hk0 : k0 < 4) (k1 : Nat) (hk1 : k1 < 6) (a2 : Int32), K2 k0 k1 a2 S = some u → Dy g s S H locs → lv_has ls 4 [(0, .ref (ga g (58 + k0))), (1, .ref (ga g (10 + k1))), (2, .int a2)] → W p l e (rmD 6) s m args below meth c H locs 0 0 (MQ below (Qvs g u) args s 0 0 (gA g)) (F0 m 2 ls [])) (H : Heap) (locs : List Loc) (S : zSt) (ls : Array Slot) (k0 : Nat) (hk0 : k0 < 4) (k1 : Nat) (hk1 : k1 < 6) (a2 : Int32) (k3 : Nat) (hk3 : k3 < 18) (t0 : Int32) (kt1 : Nat) (hkt1 : kt1 < 4), f_RequestWriter_putQueryItems_34 K2 k0 k1 a2 k3 t0 kt1 S = some u → Dy g s S H locs → lv_has ls 4 [(0, .ref (ga g (58 + k0))), (1, .ref (ga g (10 + k1))), (2, .int a2), (3, .ref (ga g (22 + k3)))] → W p l e (rmD 6) s m args below meth c H locs 0 0 (MQ below (Qvs g u) args s 0 0 (gA g)) (F0 m 34 ls [.int t0, .ref (ga g (58 + kt1))]) := by
    intro K2 hK2 H locs S ls k0 hk0 k1 hk1 a2 k3 hk3 t0 kt1 hkt1 h D hl
    unfold f_RequestWriter_putQueryItems_34 at h
    obtain ⟨u3, hu3, h⟩ := bd_some h
    refine x_cvs (rest := []) (r_V C D (c_ByteRow_put l g hD kt1 hkt1 t0 S u3 hu3) wc_ByteRow_put wm_RequestWriter_41 wi_ByteRow_put wd_ByteRow_put (nR hkt1) (sh_R hkt1) kc_ByteRow.1 rfl rfl hl (Nat.le_of_ble_eq_true rfl) (by decide) d_RequestWriter_putQueryItems_34) D (fun H locs D => ?_)
    refine lv_aload_n hx hb d_RequestWriter_putQueryItems_37 rfl (lv_at hl 0 rfl) ?_
    refine lv_aload_n hx hb d_RequestWriter_putQueryItems_38 rfl (lv_at hl 1 rfl) ?_
    refine x_getN (v := .int (u3 (10 + k1) 3)) C D kc_Parameter (nP hk1) (sh_P hk1) 3 rfl (by decide) nf_RequestWriter_124 rfl rfl d_RequestWriter_putQueryItems_39 ?_
    obtain ⟨u4, hu4, h⟩ := bd_some h
    refine x_cvs (rest := []) (r_V C D (c_ByteRow_put l g hD k0 hk0 (u3 (10 + k1) 3) u3 u4 hu4) wc_ByteRow_put wm_RequestWriter_41 wi_ByteRow_put wd_ByteRow_put (nR hk0) (sh_R hk0) kc_ByteRow.1 rfl rfl hl (Nat.le_of_ble_eq_true rfl) (by decide) d_RequestWriter_putQueryItems_42) D (fun H locs D => ?_)
    refine lv_aload_n hx hb d_RequestWriter_putQueryItems_45 rfl (lv_at hl 0 rfl) ?_
    refine lv_bipush (v := 61) hx hb d_RequestWriter_putQueryItems_46 (by decide) ?_
    obtain ⟨u5, hu5, h⟩ := bd_some h
    refine x_cvs (rest := []) (r_V C D (c_ByteRow_put l g hD k0 hk0 61 u4 u5 hu5) wc_ByteRow_put wm_RequestWriter_41 wi_ByteRow_put wd_ByteRow_put (nR hk0) (sh_R hk0) kc_ByteRow.1 rfl rfl hl (Nat.le_of_ble_eq_true rfl) (by decide) d_RequestWriter_putQueryItems_48) D (fun H locs D => ?_)
    refine lv_aload_n hx hb d_RequestWriter_putQueryItems_51 rfl (lv_at hl 0 rfl) ?_
    refine lv_aload_n hx hb d_RequestWriter_putQueryItems_52 rfl (lv_at hl 3 rfl) ?_
    refine lv_aload_n hx hb d_RequestWriter_putQueryItems_53 rfl (lv_at hl 3 rfl) ?_
    refine x_getN (v := .int (u5 (22 + k3) 1)) C D kc_Item (nI_ hk3) (sh_I hk3) 1 rfl (by decide) nf_RequestWriter_128 rfl rfl d_RequestWriter_putQueryItems_54 ?_
    refine lv_iconst (v := 0) hx hb d_RequestWriter_putQueryItems_57 (by decide) ?_
    obtain ⟨u6, hu6, h⟩ := bd_some h
    refine x_cvs (rest := []) (r_S C D (c_Encoder_putEncoded l g hD k0 hk0 k3 hk3 (u5 (22 + k3) 1) 0 u5 u6 hu6) wc_Encoder_putEncoded wm_RequestWriter_134 wt_Encoder_putEncoded wd_Encoder_putEncoded rfl rfl hl (Nat.le_of_ble_eq_true rfl) (by decide) d_RequestWriter_putQueryItems_58) D (fun H locs D => ?_)
    refine lv_iinc (k := 2) (lv' := [(2, .int (a2 + 1)), (0, .ref (ga g (58 + k0))), (1, .ref (ga g (10 + k1))), (3, .ref (ga g (22 + k3)))]) hx hb d_RequestWriter_putQueryItems_61 hl rfl (ii1 _) (by decide) rfl (fun ls hl => ?_)
    refine lv_goto hx hb d_RequestWriter_putQueryItems_64 rfl ?_
    exact hK2 _ _ _ _ _ hk0 _ hk1 _ h D (lv_sub hl [1, 2, 0] rfl)
  have L2 : ∀ (n : Nat) (H : Heap) (locs : List Loc) (S : zSt) (ls : Array Slot) (k0 : Nat) (hk0 : k0 < 4) (k1 : Nat) (hk1 : k1 < 6) (a2 : Int32), f_RequestWriter_putQueryItems_2 n k0 k1 a2 S = some u → Dy g s S H locs → lv_has ls 4 [(0, .ref (ga g (58 + k0))), (1, .ref (ga g (10 + k1))), (2, .int a2)] → W p l e (rmD 6) s m args below meth c H locs 0 0 (MQ below (Qvs g u) args s 0 0 (gA g)) (F0 m 2 ls []) := by
    intro n
    induction n with
    | zero => intro H locs S ls k0 hk0 k1 hk1 a2 h D hl; rw [f_RequestWriter_putQueryItems_2] at h; cases h
    | succ n hK2 =>
      intro H locs S ls k0 hk0 k1 hk1 a2 h D hl
      rw [f_RequestWriter_putQueryItems_2] at h
      refine lv_iload_n hx hb d_RequestWriter_putQueryItems_2 rfl (lv_at hl 2 rfl) ?_
      refine lv_aload_n hx hb d_RequestWriter_putQueryItems_3 rfl (lv_at hl 1 rfl) ?_
      refine x_getN (v := .int (S (10 + k1) 1)) C D kc_Parameter (nP hk1) (sh_P hk1) 1 rfl (by decide) nf_RequestWriter_90 rfl rfl d_RequestWriter_putQueryItems_4 ?_
      refine lv_icmp_ge hx hb d_RequestWriter_putQueryItems_7 rfl (fun z => ?_) (fun z => ?_)
      · replace h := if_t z h
        exact x_vrs C D h d_RequestWriter_putQueryItems_67
      · replace h := if_f z h
        refine lv_aload_n hx hb d_RequestWriter_putQueryItems_10 rfl (lv_at hl 1 rfl) ?_
        refine x_getN (v := .ref (ga g (16 + k1))) C D kc_Parameter (nP hk1) (sh_P hk1) 0 rfl (by decide) nf_RequestWriter_120 rfl (fvv_r _ _ (by have q_ : k1 < 6 := hk1; omega)) d_RequestWriter_putQueryItems_11 ?_
        refine lv_iload_n hx hb d_RequestWriter_putQueryItems_14 rfl (lv_at hl 2 rfl) ?_
        refine x_aald4 C D (nPI hk1) (sh_PI hk1) d_RequestWriter_putQueryItems_15 h (fun q1 h => ?_)
        refine lv_astore_n (lv' := [(3, .ref (ga g (22 + (3 * k1 + a2.toNatClampNeg)))), (0, .ref (ga g (58 + k0))), (1, .ref (ga g (10 + k1))), (2, .int a2)]) hx hb d_RequestWriter_putQueryItems_16 rfl hl (by decide) rfl (fun ls hl => ?_)
        refine lv_aload_n hx hb d_RequestWriter_putQueryItems_17 rfl (lv_at hl 1 rfl) ?_
        refine lv_aload_n hx hb d_RequestWriter_putQueryItems_18 rfl (lv_at hl 1 rfl) ?_
        refine lv_bipush (v := 63) hx hb d_RequestWriter_putQueryItems_19 (by decide) ?_
        obtain ⟨u2, hu2, h⟩ := bd_some h
        refine x_cip (rest := [.ref (ga g (58 + k0))]) (r_V C D (c_ByteRow_has l g hD k0 hk0 63 S u2 hu2) wc_ByteRow_has wm_RequestWriter_150 wi_ByteRow_has wd_ByteRow_has (nR hk0) (sh_R hk0) kc_ByteRow.1 rfl rfl hl (Nat.le_of_ble_eq_true rfl) (by decide) d_RequestWriter_putQueryItems_21) D (fun H locs D => ?_)
        refine lv_if_eq hx hb d_RequestWriter_putQueryItems_24 rfl (fun z => ?_) (fun z => ?_)
        · replace h := if_t z h
          refine lv_bipush (v := 63) hx hb d_RequestWriter_putQueryItems_32 (by decide) ?_
          exact B34 _ hK2 _ _ _ _ _ hk0 _ hk1 _ _ (i3 hk1 q1) _ _ hk0 h D (lv_sub hl [1, 2, 3, 0] rfl)
        · replace h := if_f z h
          refine lv_bipush (v := 38) hx hb d_RequestWriter_putQueryItems_27 (by decide) ?_
          refine lv_goto hx hb d_RequestWriter_putQueryItems_29 rfl ?_
          exact B34 _ hK2 _ _ _ _ _ hk0 _ hk1 _ _ (i3 hk1 q1) _ _ hk0 h D (lv_sub hl [1, 2, 3, 0] rfl)
  unfold f_RequestWriter_putQueryItems at h
  refine lv_iconst (v := 0) hx hb d_RequestWriter_putQueryItems_0 (by decide) ?_
  refine lv_istore_n (lv' := [(2, .int 0), (0, .ref (ga g (58 + k0))), (1, .ref (ga g (10 + k1)))]) hx hb d_RequestWriter_putQueryItems_1 rfl hl (by decide) rfl (fun ls hl => ?_)
  exact L2 _ _ _ _ _ _ hk0 _ hk1 _ h D (lv_sub hl [1, 2, 0] rfl)
theorem d_RequestWriter_putHeaders_0 : decode b_RequestWriter_putHeaders 0 = .ok (.iconst 0, 1) := by decide +kernel
theorem d_RequestWriter_putHeaders_1 : decode b_RequestWriter_putHeaders 1 = .ok (.istore_n 2, 1) := by decide +kernel
theorem d_RequestWriter_putHeaders_2 : decode b_RequestWriter_putHeaders 2 = .ok (.iload_n 2, 1) := by decide +kernel
theorem d_RequestWriter_putHeaders_3 : decode b_RequestWriter_putHeaders 3 = .ok (.aload_n 0, 1) := by decide +kernel
theorem d_RequestWriter_putHeaders_4 : decode b_RequestWriter_putHeaders 4 = .ok (.getfield 18, 3) := by decide +kernel
theorem d_RequestWriter_putHeaders_7 : decode b_RequestWriter_putHeaders 7 = .ok (.getfield 138, 3) := by decide +kernel
theorem d_RequestWriter_putHeaders_10 : decode b_RequestWriter_putHeaders 10 = .ok (.if_icmp .ge 39, 3) := by decide +kernel
theorem d_RequestWriter_putHeaders_13 : decode b_RequestWriter_putHeaders 13 = .ok (.aload_n 0, 1) := by decide +kernel
theorem d_RequestWriter_putHeaders_14 : decode b_RequestWriter_putHeaders 14 = .ok (.getfield 18, 3) := by decide +kernel
theorem d_RequestWriter_putHeaders_17 : decode b_RequestWriter_putHeaders 17 = .ok (.getfield 139, 3) := by decide +kernel
theorem d_RequestWriter_putHeaders_20 : decode b_RequestWriter_putHeaders 20 = .ok (.iload_n 2, 1) := by decide +kernel
theorem d_RequestWriter_putHeaders_21 : decode b_RequestWriter_putHeaders 21 = .ok (.aaload, 1) := by decide +kernel
theorem d_RequestWriter_putHeaders_22 : decode b_RequestWriter_putHeaders 22 = .ok (.astore_n 3, 1) := by decide +kernel
theorem d_RequestWriter_putHeaders_23 : decode b_RequestWriter_putHeaders 23 = .ok (.aload_n 3, 1) := by decide +kernel
theorem d_RequestWriter_putHeaders_24 : decode b_RequestWriter_putHeaders 24 = .ok (.getfield 143, 3) := by decide +kernel
theorem d_RequestWriter_putHeaders_27 : decode b_RequestWriter_putHeaders 27 = .ok (.iconst 3, 1) := by decide +kernel
theorem d_RequestWriter_putHeaders_28 : decode b_RequestWriter_putHeaders 28 = .ok (.if_icmp .ne 15, 3) := by decide +kernel
theorem d_RequestWriter_putHeaders_31 : decode b_RequestWriter_putHeaders 31 = .ok (.aload_n 3, 1) := by decide +kernel
theorem d_RequestWriter_putHeaders_32 : decode b_RequestWriter_putHeaders 32 = .ok (.getfield 90, 3) := by decide +kernel
theorem d_RequestWriter_putHeaders_35 : decode b_RequestWriter_putHeaders 35 = .ok (.ifCond .le 8, 3) := by decide +kernel
theorem d_RequestWriter_putHeaders_38 : decode b_RequestWriter_putHeaders 38 = .ok (.aload_n 1, 1) := by decide +kernel
theorem d_RequestWriter_putHeaders_39 : decode b_RequestWriter_putHeaders 39 = .ok (.aload_n 3, 1) := by decide +kernel
theorem d_RequestWriter_putHeaders_40 : decode b_RequestWriter_putHeaders 40 = .ok (.invokestatic 153, 3) := by decide +kernel
theorem d_RequestWriter_putHeaders_43 : decode b_RequestWriter_putHeaders 43 = .ok (.iinc 2 1, 3) := by decide +kernel
theorem d_RequestWriter_putHeaders_46 : decode b_RequestWriter_putHeaders 46 = .ok (.goto (-44), 3) := by decide +kernel
theorem d_RequestWriter_putHeaders_49 : decode b_RequestWriter_putHeaders 49 = .ok (.return_, 1) := by decide +kernel
def f_RequestWriter_putHeaders_43 (K2 : Nat → Int32 → zSt → Option zSt) (k1 : Nat) (a2 : Int32) (S : zSt) : Option zSt := (K2 k1 (a2 + 1) S)
def f_RequestWriter_putHeaders_2 : Nat → Nat → Int32 → zSt → Option zSt
  | 0, _, _, _ => none
  | n + 1, k1, a2, S => (if (S 1 2) ≤ a2 then (some S) else gdi a2 6 ((if (S (10 + a2.toNatClampNeg) 2) = 3 then (if (S (10 + a2.toNatClampNeg) 1) ≤ 0 then (f_RequestWriter_putHeaders_43 (f_RequestWriter_putHeaders_2 n) k1 a2 S) else ((f_RequestWriter_putHeader k1 a2.toNatClampNeg S).bind fun u2 => (f_RequestWriter_putHeaders_43 (f_RequestWriter_putHeaders_2 n) k1 a2 u2))) else (f_RequestWriter_putHeaders_43 (f_RequestWriter_putHeaders_2 n) k1 a2 S))))
def f_RequestWriter_putHeaders (k1 : Nat) (S : zSt) : Option zSt := (f_RequestWriter_putHeaders_2 fu k1 0 S)
set_option maxHeartbeats 4000000 in
set_option maxRecDepth 100000 in
theorem c_RequestWriter_putHeaders (l : Launch) (g : zG) (hD : GD g) (k1 : Nat) (hk1 : k1 < 4) (S : zSt) (u : zSt) (h : f_RequestWriter_putHeaders k1 S = some u) : Met l y_RequestWriter_putHeaders (mw y_RequestWriter_putHeaders b_RequestWriter_putHeaders 4 none) (rmD 6) (Pw g [.ref (ga g 5), .ref (ga g (58 + k1))] S) (Qvs g u) 0 0 (gA g) := by
  refine z_go (own := R_RequestWriter) (lv0 := [(0, .ref (ga g 5)), (1, .ref (ga g (58 + k1)))]) hD (by decide) rfl (Nat.le_of_ble_eq_true rfl) rfl ?_
  intro p e s m args below meth c C D ls hl
  have hx := C.1
  have hb := C.2.1
  have hown := C.2.2.2.1
  have hts := C.2.2.2.2.1
  have B43 : ∀ (K2 : Nat → Int32 → zSt → Option zSt) (hK2 : ∀ (H : Heap) (locs : List Loc) (S : zSt) (ls : Array Slot) (k1 : Nat) (hk1 : k1 < 4) (a2 : Int32), K2 k1 a2 S = some u → Dy g s S H locs → lv_has ls 4 [(0, .ref (ga g 5)), (1, .ref (ga g (58 + k1))), (2, .int a2)] → W p l e (rmD 6) s m args below meth c H locs 0 0 (MQ below (Qvs g u) args s 0 0 (gA g)) (F0 m 2 ls [])) (H : Heap) (locs : List Loc) (S : zSt) (ls : Array Slot) (k1 : Nat) (hk1 : k1 < 4) (a2 : Int32), f_RequestWriter_putHeaders_43 K2 k1 a2 S = some u → Dy g s S H locs → lv_has ls 4 [(0, .ref (ga g 5)), (1, .ref (ga g (58 + k1))), (2, .int a2)] → W p l e (rmD 6) s m args below meth c H locs 0 0 (MQ below (Qvs g u) args s 0 0 (gA g)) (F0 m 43 ls []) := by
    intro K2 hK2 H locs S ls k1 hk1 a2 h D hl
    unfold f_RequestWriter_putHeaders_43 at h
    refine lv_iinc (k := 2) (lv' := [(2, .int (a2 + 1)), (0, .ref (ga g 5)), (1, .ref (ga g (58 + k1)))]) hx hb d_RequestWriter_putHeaders_43 hl rfl (ii1 _) (by decide) rfl (fun ls hl => ?_)
    refine lv_goto hx hb d_RequestWriter_putHeaders_46 rfl ?_
    exact hK2 _ _ _ _ _ hk1 _ h D (lv_sub hl [1, 2, 0] rfl)
  have L2 : ∀ (n : Nat) (H : Heap) (locs : List Loc) (S : zSt) (ls : Array Slot) (k1 : Nat) (hk1 : k1 < 4) (a2 : Int32), f_RequestWriter_putHeaders_2 n k1 a2 S = some u → Dy g s S H locs → lv_has ls 4 [(0, .ref (ga g 5)), (1, .ref (ga g (58 + k1))), (2, .int a2)] → W p l e (rmD 6) s m args below meth c H locs 0 0 (MQ below (Qvs g u) args s 0 0 (gA g)) (F0 m 2 ls []) := by
    intro n
    induction n with
    | zero => intro H locs S ls k1 hk1 a2 h D hl; rw [f_RequestWriter_putHeaders_2] at h; cases h
    | succ n hK2 =>
      intro H locs S ls k1 hk1 a2 h D hl
      rw [f_RequestWriter_putHeaders_2] at h
      refine lv_iload_n hx hb d_RequestWriter_putHeaders_2 rfl (lv_at hl 2 rfl) ?_
      refine lv_aload_n hx hb d_RequestWriter_putHeaders_3 rfl (lv_at hl 0 rfl) ?_
      refine x_get (v := .ref (ga g 1)) C D kc_RequestWriter (by decide) sh_5 0 rfl (by decide) wf_RequestWriter_18 rfl rfl d_RequestWriter_putHeaders_4 ?_
      refine x_getN (v := .int (S 1 2)) C D kc_Declaration (by decide) sh_1 2 rfl (by decide) nf_RequestWriter_138 rfl rfl d_RequestWriter_putHeaders_7 ?_
      refine lv_icmp_ge hx hb d_RequestWriter_putHeaders_10 rfl (fun z => ?_) (fun z => ?_)
      · replace h := if_t z h
        exact x_vrs C D h d_RequestWriter_putHeaders_49
      · replace h := if_f z h
        refine lv_aload_n hx hb d_RequestWriter_putHeaders_13 rfl (lv_at hl 0 rfl) ?_
        refine x_get (v := .ref (ga g 1)) C D kc_RequestWriter (by decide) sh_5 0 rfl (by decide) wf_RequestWriter_18 rfl rfl d_RequestWriter_putHeaders_14 ?_
        refine x_getN (v := .ref (ga g 4)) C D kc_Declaration (by decide) sh_1 1 rfl (by decide) nf_RequestWriter_139 rfl rfl d_RequestWriter_putHeaders_17 ?_
        refine lv_iload_n hx hb d_RequestWriter_putHeaders_20 rfl (lv_at hl 2 rfl) ?_
        refine x_aald3 C D (by decide) sh_4 d_RequestWriter_putHeaders_21 h (fun q1 h => ?_)
        refine lv_astore_n (lv' := [(3, .ref (ga g (10 + a2.toNatClampNeg))), (0, .ref (ga g 5)), (1, .ref (ga g (58 + k1))), (2, .int a2)]) hx hb d_RequestWriter_putHeaders_22 rfl hl (by decide) rfl (fun ls hl => ?_)
        refine lv_aload_n hx hb d_RequestWriter_putHeaders_23 rfl (lv_at hl 0 rfl) ?_
        refine x_getN (v := .int (S (10 + a2.toNatClampNeg) 2)) C D kc_Parameter (nP q1) (sh_P q1) 2 rfl (by decide) nf_RequestWriter_143 rfl rfl d_RequestWriter_putHeaders_24 ?_
        refine lv_iconst (v := 3) hx hb d_RequestWriter_putHeaders_27 (by decide) ?_
        refine lv_icmp_ne hx hb d_RequestWriter_putHeaders_28 rfl (fun z => ?_) (fun z => ?_)
        · replace h := if_f z h
          exact B43 _ hK2 _ _ _ _ _ hk1 _ h D (lv_sub hl [1, 2, 3] rfl)
        · replace h := if_t z h
          refine lv_aload_n hx hb d_RequestWriter_putHeaders_31 rfl (lv_at hl 0 rfl) ?_
          refine x_getN (v := .int (S (10 + a2.toNatClampNeg) 1)) C D kc_Parameter (nP q1) (sh_P q1) 1 rfl (by decide) nf_RequestWriter_90 rfl rfl d_RequestWriter_putHeaders_32 ?_
          refine lv_if_le hx hb d_RequestWriter_putHeaders_35 rfl (fun z => ?_) (fun z => ?_)
          · replace h := if_t z h
            exact B43 _ hK2 _ _ _ _ _ hk1 _ h D (lv_sub hl [1, 2, 3] rfl)
          · replace h := if_f z h
            refine lv_aload_n hx hb d_RequestWriter_putHeaders_38 rfl (lv_at hl 2 rfl) ?_
            refine lv_aload_n hx hb d_RequestWriter_putHeaders_39 rfl (lv_at hl 0 rfl) ?_
            obtain ⟨u2, hu2, h⟩ := bd_some h
            refine x_cvs (rest := []) (r_S C D (c_RequestWriter_putHeader l g hD k1 hk1 a2.toNatClampNeg q1 S u2 hu2) wc_RequestWriter_putHeader wm_RequestWriter_153 wt_RequestWriter_putHeader wd_RequestWriter_putHeader rfl rfl hl (Nat.le_of_ble_eq_true rfl) (by decide) d_RequestWriter_putHeaders_40) D (fun H locs D => ?_)
            exact B43 _ hK2 _ _ _ _ _ hk1 _ h D (lv_sub hl [1, 2, 3] rfl)
  unfold f_RequestWriter_putHeaders at h
  refine lv_iconst (v := 0) hx hb d_RequestWriter_putHeaders_0 (by decide) ?_
  refine lv_istore_n (lv' := [(2, .int 0), (0, .ref (ga g 5)), (1, .ref (ga g (58 + k1)))]) hx hb d_RequestWriter_putHeaders_1 rfl hl (by decide) rfl (fun ls hl => ?_)
  exact L2 _ _ _ _ _ _ hk1 _ h D (lv_sub hl [1, 2, 0] rfl)
theorem d_RequestWriter_putFormItems_0 : decode b_RequestWriter_putFormItems 0 = .ok (.iconst 0, 1) := by decide +kernel
theorem d_RequestWriter_putFormItems_1 : decode b_RequestWriter_putFormItems 1 = .ok (.istore_n 3, 1) := by decide +kernel
theorem d_RequestWriter_putFormItems_2 : decode b_RequestWriter_putFormItems 2 = .ok (.iload_n 3, 1) := by decide +kernel
theorem d_RequestWriter_putFormItems_3 : decode b_RequestWriter_putFormItems 3 = .ok (.aload_n 1, 1) := by decide +kernel
theorem d_RequestWriter_putFormItems_4 : decode b_RequestWriter_putFormItems 4 = .ok (.getfield 90, 3) := by decide +kernel
theorem d_RequestWriter_putFormItems_7 : decode b_RequestWriter_putFormItems 7 = .ok (.if_icmp .ge 55, 3) := by decide +kernel
theorem d_RequestWriter_putFormItems_10 : decode b_RequestWriter_putFormItems 10 = .ok (.aload_n 1, 1) := by decide +kernel
theorem d_RequestWriter_putFormItems_11 : decode b_RequestWriter_putFormItems 11 = .ok (.getfield 120, 3) := by decide +kernel
theorem d_RequestWriter_putFormItems_14 : decode b_RequestWriter_putFormItems 14 = .ok (.iload_n 3, 1) := by decide +kernel
theorem d_RequestWriter_putFormItems_15 : decode b_RequestWriter_putFormItems 15 = .ok (.aaload, 1) := by decide +kernel
theorem d_RequestWriter_putFormItems_16 : decode b_RequestWriter_putFormItems 16 = .ok (.astore 4, 2) := by decide +kernel
theorem d_RequestWriter_putFormItems_18 : decode b_RequestWriter_putFormItems 18 = .ok (.iload_n 2, 1) := by decide +kernel
theorem d_RequestWriter_putFormItems_19 : decode b_RequestWriter_putFormItems 19 = .ok (.iload_n 3, 1) := by decide +kernel
theorem d_RequestWriter_putFormItems_20 : decode b_RequestWriter_putFormItems 20 = .ok (.iadd, 1) := by decide +kernel
theorem d_RequestWriter_putFormItems_21 : decode b_RequestWriter_putFormItems 21 = .ok (.ifCond .le 9, 3) := by decide +kernel
theorem d_RequestWriter_putFormItems_24 : decode b_RequestWriter_putFormItems 24 = .ok (.aload_n 0, 1) := by decide +kernel
theorem d_RequestWriter_putFormItems_25 : decode b_RequestWriter_putFormItems 25 = .ok (.bipush 38, 2) := by decide +kernel
theorem d_RequestWriter_putFormItems_27 : decode b_RequestWriter_putFormItems 27 = .ok (.invokevirtual 41, 3) := by decide +kernel
theorem d_RequestWriter_putFormItems_30 : decode b_RequestWriter_putFormItems 30 = .ok (.aload_n 0, 1) := by decide +kernel
theorem d_RequestWriter_putFormItems_31 : decode b_RequestWriter_putFormItems 31 = .ok (.aload_n 1, 1) := by decide +kernel
theorem d_RequestWriter_putFormItems_32 : decode b_RequestWriter_putFormItems 32 = .ok (.getfield 124, 3) := by decide +kernel
theorem d_RequestWriter_putFormItems_35 : decode b_RequestWriter_putFormItems 35 = .ok (.invokevirtual 41, 3) := by decide +kernel
theorem d_RequestWriter_putFormItems_38 : decode b_RequestWriter_putFormItems 38 = .ok (.aload_n 0, 1) := by decide +kernel
theorem d_RequestWriter_putFormItems_39 : decode b_RequestWriter_putFormItems 39 = .ok (.bipush 61, 2) := by decide +kernel
theorem d_RequestWriter_putFormItems_41 : decode b_RequestWriter_putFormItems 41 = .ok (.invokevirtual 41, 3) := by decide +kernel
theorem d_RequestWriter_putFormItems_44 : decode b_RequestWriter_putFormItems 44 = .ok (.aload_n 0, 1) := by decide +kernel
theorem d_RequestWriter_putFormItems_45 : decode b_RequestWriter_putFormItems 45 = .ok (.aload 4, 2) := by decide +kernel
theorem d_RequestWriter_putFormItems_47 : decode b_RequestWriter_putFormItems 47 = .ok (.aload 4, 2) := by decide +kernel
theorem d_RequestWriter_putFormItems_49 : decode b_RequestWriter_putFormItems 49 = .ok (.getfield 128, 3) := by decide +kernel
theorem d_RequestWriter_putFormItems_52 : decode b_RequestWriter_putFormItems 52 = .ok (.iconst 2, 1) := by decide +kernel
theorem d_RequestWriter_putFormItems_53 : decode b_RequestWriter_putFormItems 53 = .ok (.invokestatic 134, 3) := by decide +kernel
theorem d_RequestWriter_putFormItems_56 : decode b_RequestWriter_putFormItems 56 = .ok (.iinc 3 1, 3) := by decide +kernel
theorem d_RequestWriter_putFormItems_59 : decode b_RequestWriter_putFormItems 59 = .ok (.goto (-57), 3) := by decide +kernel
theorem d_RequestWriter_putFormItems_62 : decode b_RequestWriter_putFormItems 62 = .ok (.return_, 1) := by decide +kernel
def f_RequestWriter_putFormItems_30 (K2 : Nat → Nat → Int32 → Int32 → zSt → Option zSt) (k0 : Nat) (k1 : Nat) (a2 : Int32) (a3 : Int32) (k4 : Nat) (S : zSt) : Option zSt := ((f_ByteRow_put k0 (S (10 + k1) 3) S).bind fun u2 => ((f_ByteRow_put k0 61 u2).bind fun u3 => ((f_Encoder_putEncoded k0 k4 (u3 (22 + k4) 1) 2 u3).bind fun u4 => (K2 k0 k1 a2 (a3 + 1) u4))))
def f_RequestWriter_putFormItems_2 : Nat → Nat → Nat → Int32 → Int32 → zSt → Option zSt
  | 0, _, _, _, _, _ => none
  | n + 1, k0, k1, a2, a3, S => (if (S (10 + k1) 1) ≤ a3 then (some S) else gdi a3 3 ((if (a2 + a3) ≤ 0 then (f_RequestWriter_putFormItems_30 (f_RequestWriter_putFormItems_2 n) k0 k1 a2 a3 (3 * k1 + a3.toNatClampNeg) S) else ((f_ByteRow_put k0 38 S).bind fun u5 => (f_RequestWriter_putFormItems_30 (f_RequestWriter_putFormItems_2 n) k0 k1 a2 a3 (3 * k1 + a3.toNatClampNeg) u5)))))
def f_RequestWriter_putFormItems (k0 : Nat) (k1 : Nat) (a2 : Int32) (S : zSt) : Option zSt := (f_RequestWriter_putFormItems_2 fu k0 k1 a2 0 S)
set_option maxHeartbeats 4000000 in
set_option maxRecDepth 100000 in
theorem c_RequestWriter_putFormItems (l : Launch) (g : zG) (hD : GD g) (k0 : Nat) (hk0 : k0 < 4) (k1 : Nat) (hk1 : k1 < 6) (a2 : Int32) (S : zSt) (u : zSt) (h : f_RequestWriter_putFormItems k0 k1 a2 S = some u) : Met l y_RequestWriter_putFormItems (mw y_RequestWriter_putFormItems b_RequestWriter_putFormItems 5 none) (rmD 6) (Pw g [.ref (ga g (58 + k0)), .ref (ga g (10 + k1)), .int a2] S) (Qvs g u) 0 0 (gA g) := by
  refine z_go (own := R_RequestWriter) (lv0 := [(0, .ref (ga g (58 + k0))), (1, .ref (ga g (10 + k1))), (2, .int a2)]) hD (by decide) rfl (Nat.le_of_ble_eq_true rfl) rfl ?_
  intro p e s m args below meth c C D ls hl
  have hx := C.1
  have hb := C.2.1
  have hown := C.2.2.2.1
  have hts := C.2.2.2.2.1
  have B30 : ∀ (K2 : Nat → Nat → Int32 → Int32 → zSt → Option zSt) (hK2 : ∀ (H : Heap) (locs : List Loc) (S : zSt) (ls : Array Slot) (k0 : Nat) (hk0 : k0 < 4) (k1 : Nat) (hk1 : k1 < 6) (a2 : Int32) (a3 : Int32), K2 k0 k1 a2 a3 S = some u → Dy g s S H locs → lv_has ls 5 [(0, .ref (ga g (58 + k0))), (1, .ref (ga g (10 + k1))), (2, .int a2), (3, .int a3)] → W p l e (rmD 6) s m args below meth c H locs 0 0 (MQ below (Qvs g u) args s 0 0 (gA g)) (F0 m 2 ls [])) (H : Heap) (locs : List Loc) (S : zSt) (ls : Array Slot) (k0 : Nat) (hk0 : k0 < 4) (k1 : Nat) (hk1 : k1 < 6) (a2 : Int32) (a3 : Int32) (k4 : Nat) (hk4 : k4 < 18), f_RequestWriter_putFormItems_30 K2 k0 k1 a2 a3 k4 S = some u → Dy g s S H locs → lv_has ls 5 [(0, .ref (ga g (58 + k0))), (1, .ref (ga g (10 + k1))), (2, .int a2), (3, .int a3), (4, .ref (ga g (22 + k4)))] → W p l e (rmD 6) s m args below meth c H locs 0 0 (MQ below (Qvs g u) args s 0 0 (gA g)) (F0 m 30 ls []) := by
    intro K2 hK2 H locs S ls k0 hk0 k1 hk1 a2 a3 k4 hk4 h D hl
    unfold f_RequestWriter_putFormItems_30 at h
    refine lv_aload_n hx hb d_RequestWriter_putFormItems_30 rfl (lv_at hl 0 rfl) ?_
    refine lv_aload_n hx hb d_RequestWriter_putFormItems_31 rfl (lv_at hl 1 rfl) ?_
    refine x_getN (v := .int (S (10 + k1) 3)) C D kc_Parameter (nP hk1) (sh_P hk1) 3 rfl (by decide) nf_RequestWriter_124 rfl rfl d_RequestWriter_putFormItems_32 ?_
    obtain ⟨u2, hu2, h⟩ := bd_some h
    refine x_cvs (rest := []) (r_V C D (c_ByteRow_put l g hD k0 hk0 (S (10 + k1) 3) S u2 hu2) wc_ByteRow_put wm_RequestWriter_41 wi_ByteRow_put wd_ByteRow_put (nR hk0) (sh_R hk0) kc_ByteRow.1 rfl rfl hl (Nat.le_of_ble_eq_true rfl) (by decide) d_RequestWriter_putFormItems_35) D (fun H locs D => ?_)
    refine lv_aload_n hx hb d_RequestWriter_putFormItems_38 rfl (lv_at hl 0 rfl) ?_
    refine lv_bipush (v := 61) hx hb d_RequestWriter_putFormItems_39 (by decide) ?_
    obtain ⟨u3, hu3, h⟩ := bd_some h
    refine x_cvs (rest := []) (r_V C D (c_ByteRow_put l g hD k0 hk0 61 u2 u3 hu3) wc_ByteRow_put wm_RequestWriter_41 wi_ByteRow_put wd_ByteRow_put (nR hk0) (sh_R hk0) kc_ByteRow.1 rfl rfl hl (Nat.le_of_ble_eq_true rfl) (by decide) d_RequestWriter_putFormItems_41) D (fun H locs D => ?_)
    refine lv_aload_n hx hb d_RequestWriter_putFormItems_44 rfl (lv_at hl 0 rfl) ?_
    refine lv_aload hx hb d_RequestWriter_putFormItems_45 (lv_at hl 4 rfl) ?_
    refine lv_aload hx hb d_RequestWriter_putFormItems_47 (lv_at hl 4 rfl) ?_
    refine x_getN (v := .int (u3 (22 + k4) 1)) C D kc_Item (nI_ hk4) (sh_I hk4) 1 rfl (by decide) nf_RequestWriter_128 rfl rfl d_RequestWriter_putFormItems_49 ?_
    refine lv_iconst (v := 2) hx hb d_RequestWriter_putFormItems_52 (by decide) ?_
    obtain ⟨u4, hu4, h⟩ := bd_some h
    refine x_cvs (rest := []) (r_S C D (c_Encoder_putEncoded l g hD k0 hk0 k4 hk4 (u3 (22 + k4) 1) 2 u3 u4 hu4) wc_Encoder_putEncoded wm_RequestWriter_134 wt_Encoder_putEncoded wd_Encoder_putEncoded rfl rfl hl (Nat.le_of_ble_eq_true rfl) (by decide) d_RequestWriter_putFormItems_53) D (fun H locs D => ?_)
    refine lv_iinc (k := 3) (lv' := [(3, .int (a3 + 1)), (0, .ref (ga g (58 + k0))), (1, .ref (ga g (10 + k1))), (2, .int a2), (4, .ref (ga g (22 + k4)))]) hx hb d_RequestWriter_putFormItems_56 hl rfl (ii1 _) (by decide) rfl (fun ls hl => ?_)
    refine lv_goto hx hb d_RequestWriter_putFormItems_59 rfl ?_
    exact hK2 _ _ _ _ _ hk0 _ hk1 _ _ h D (lv_sub hl [1, 2, 3, 0] rfl)
  have L2 : ∀ (n : Nat) (H : Heap) (locs : List Loc) (S : zSt) (ls : Array Slot) (k0 : Nat) (hk0 : k0 < 4) (k1 : Nat) (hk1 : k1 < 6) (a2 : Int32) (a3 : Int32), f_RequestWriter_putFormItems_2 n k0 k1 a2 a3 S = some u → Dy g s S H locs → lv_has ls 5 [(0, .ref (ga g (58 + k0))), (1, .ref (ga g (10 + k1))), (2, .int a2), (3, .int a3)] → W p l e (rmD 6) s m args below meth c H locs 0 0 (MQ below (Qvs g u) args s 0 0 (gA g)) (F0 m 2 ls []) := by
    intro n
    induction n with
    | zero => intro H locs S ls k0 hk0 k1 hk1 a2 a3 h D hl; rw [f_RequestWriter_putFormItems_2] at h; cases h
    | succ n hK2 =>
      intro H locs S ls k0 hk0 k1 hk1 a2 a3 h D hl
      rw [f_RequestWriter_putFormItems_2] at h
      refine lv_iload_n hx hb d_RequestWriter_putFormItems_2 rfl (lv_at hl 3 rfl) ?_
      refine lv_aload_n hx hb d_RequestWriter_putFormItems_3 rfl (lv_at hl 1 rfl) ?_
      refine x_getN (v := .int (S (10 + k1) 1)) C D kc_Parameter (nP hk1) (sh_P hk1) 1 rfl (by decide) nf_RequestWriter_90 rfl rfl d_RequestWriter_putFormItems_4 ?_
      refine lv_icmp_ge hx hb d_RequestWriter_putFormItems_7 rfl (fun z => ?_) (fun z => ?_)
      · replace h := if_t z h
        exact x_vrs C D h d_RequestWriter_putFormItems_62
      · replace h := if_f z h
        refine lv_aload_n hx hb d_RequestWriter_putFormItems_10 rfl (lv_at hl 1 rfl) ?_
        refine x_getN (v := .ref (ga g (16 + k1))) C D kc_Parameter (nP hk1) (sh_P hk1) 0 rfl (by decide) nf_RequestWriter_120 rfl (fvv_r _ _ (by have q_ : k1 < 6 := hk1; omega)) d_RequestWriter_putFormItems_11 ?_
        refine lv_iload_n hx hb d_RequestWriter_putFormItems_14 rfl (lv_at hl 3 rfl) ?_
        refine x_aald4 C D (nPI hk1) (sh_PI hk1) d_RequestWriter_putFormItems_15 h (fun q1 h => ?_)
        refine lv_astore (lv' := [(4, .ref (ga g (22 + (3 * k1 + a3.toNatClampNeg)))), (0, .ref (ga g (58 + k0))), (1, .ref (ga g (10 + k1))), (2, .int a2), (3, .int a3)]) hx hb d_RequestWriter_putFormItems_16 hl (by decide) rfl (fun ls hl => ?_)
        refine lv_iload_n hx hb d_RequestWriter_putFormItems_18 rfl (lv_at hl 3 rfl) ?_
        refine lv_iload_n hx hb d_RequestWriter_putFormItems_19 rfl (lv_at hl 4 rfl) ?_
        refine lv_iadd hx hb d_RequestWriter_putFormItems_20 ?_
        refine lv_if_le hx hb d_RequestWriter_putFormItems_21 rfl (fun z => ?_) (fun z => ?_)
        · replace h := if_t z h
          exact B30 _ hK2 _ _ _ _ _ hk0 _ hk1 _ _ _ (i3 hk1 q1) h D (lv_sub hl [1, 2, 3, 4, 0] rfl)
        · replace h := if_f z h
          refine lv_aload_n hx hb d_RequestWriter_putFormItems_24 rfl (lv_at hl 1 rfl) ?_
          refine lv_bipush (v := 38) hx hb d_RequestWriter_putFormItems_25 (by decide) ?_
          obtain ⟨u5, hu5, h⟩ := bd_some h
          refine x_cvs (rest := []) (r_V C D (c_ByteRow_put l g hD k0 hk0 38 S u5 hu5) wc_ByteRow_put wm_RequestWriter_41 wi_ByteRow_put wd_ByteRow_put (nR hk0) (sh_R hk0) kc_ByteRow.1 rfl rfl hl (Nat.le_of_ble_eq_true rfl) (by decide) d_RequestWriter_putFormItems_27) D (fun H locs D => ?_)
          exact B30 _ hK2 _ _ _ _ _ hk0 _ hk1 _ _ _ (i3 hk1 q1) h D (lv_sub hl [1, 2, 3, 4, 0] rfl)
  unfold f_RequestWriter_putFormItems at h
  refine lv_iconst (v := 0) hx hb d_RequestWriter_putFormItems_0 (by decide) ?_
  refine lv_istore_n (lv' := [(3, .int 0), (0, .ref (ga g (58 + k0))), (1, .ref (ga g (10 + k1))), (2, .int a2)]) hx hb d_RequestWriter_putFormItems_1 rfl hl (by decide) rfl (fun ls hl => ?_)
  exact L2 _ _ _ _ _ _ hk0 _ hk1 _ _ h D (lv_sub hl [1, 2, 3, 0] rfl)
theorem d_RequestWriter_putExpanded_0 : decode b_RequestWriter_putExpanded 0 = .ok (.iconst 0, 1) := by decide +kernel
theorem d_RequestWriter_putExpanded_1 : decode b_RequestWriter_putExpanded 1 = .ok (.istore_n 2, 1) := by decide +kernel
theorem d_RequestWriter_putExpanded_2 : decode b_RequestWriter_putExpanded 2 = .ok (.iconst 0, 1) := by decide +kernel
theorem d_RequestWriter_putExpanded_3 : decode b_RequestWriter_putExpanded 3 = .ok (.istore_n 3, 1) := by decide +kernel
theorem d_RequestWriter_putExpanded_4 : decode b_RequestWriter_putExpanded 4 = .ok (.bipush 32, 2) := by decide +kernel
theorem d_RequestWriter_putExpanded_6 : decode b_RequestWriter_putExpanded 6 = .ok (.istore 4, 2) := by decide +kernel
theorem d_RequestWriter_putExpanded_8 : decode b_RequestWriter_putExpanded 8 = .ok (.iconst 0, 1) := by decide +kernel
theorem d_RequestWriter_putExpanded_9 : decode b_RequestWriter_putExpanded 9 = .ok (.istore 5, 2) := by decide +kernel
theorem d_RequestWriter_putExpanded_11 : decode b_RequestWriter_putExpanded 11 = .ok (.iload 5, 2) := by decide +kernel
theorem d_RequestWriter_putExpanded_13 : decode b_RequestWriter_putExpanded 13 = .ok (.aload_n 0, 1) := by decide +kernel
theorem d_RequestWriter_putExpanded_14 : decode b_RequestWriter_putExpanded 14 = .ok (.getfield 28, 3) := by decide +kernel
theorem d_RequestWriter_putExpanded_17 : decode b_RequestWriter_putExpanded 17 = .ok (.getfield 72, 3) := by decide +kernel
theorem d_RequestWriter_putExpanded_20 : decode b_RequestWriter_putExpanded 20 = .ok (.if_icmp .ge 122, 3) := by decide +kernel
theorem d_RequestWriter_putExpanded_23 : decode b_RequestWriter_putExpanded 23 = .ok (.aload_n 0, 1) := by decide +kernel
theorem d_RequestWriter_putExpanded_24 : decode b_RequestWriter_putExpanded 24 = .ok (.getfield 28, 3) := by decide +kernel
theorem d_RequestWriter_putExpanded_27 : decode b_RequestWriter_putExpanded 27 = .ok (.iload 5, 2) := by decide +kernel
theorem d_RequestWriter_putExpanded_29 : decode b_RequestWriter_putExpanded 29 = .ok (.invokevirtual 73, 3) := by decide +kernel
theorem d_RequestWriter_putExpanded_32 : decode b_RequestWriter_putExpanded 32 = .ok (.istore 6, 2) := by decide +kernel
theorem d_RequestWriter_putExpanded_34 : decode b_RequestWriter_putExpanded 34 = .ok (.iload 6, 2) := by decide +kernel
theorem d_RequestWriter_putExpanded_36 : decode b_RequestWriter_putExpanded 36 = .ok (.bipush 123, 2) := by decide +kernel
theorem d_RequestWriter_putExpanded_38 : decode b_RequestWriter_putExpanded 38 = .ok (.if_icmp .ne 21, 3) := by decide +kernel
theorem d_RequestWriter_putExpanded_41 : decode b_RequestWriter_putExpanded 41 = .ok (.iconst 1, 1) := by decide +kernel
theorem d_RequestWriter_putExpanded_42 : decode b_RequestWriter_putExpanded 42 = .ok (.istore_n 2, 1) := by decide +kernel
theorem d_RequestWriter_putExpanded_43 : decode b_RequestWriter_putExpanded 43 = .ok (.iconst 0, 1) := by decide +kernel
theorem d_RequestWriter_putExpanded_44 : decode b_RequestWriter_putExpanded 44 = .ok (.istore_n 3, 1) := by decide +kernel
theorem d_RequestWriter_putExpanded_45 : decode b_RequestWriter_putExpanded 45 = .ok (.aload_n 0, 1) := by decide +kernel
theorem d_RequestWriter_putExpanded_46 : decode b_RequestWriter_putExpanded 46 = .ok (.getfield 28, 3) := by decide +kernel
theorem d_RequestWriter_putExpanded_49 : decode b_RequestWriter_putExpanded 49 = .ok (.iload 5, 2) := by decide +kernel
theorem d_RequestWriter_putExpanded_51 : decode b_RequestWriter_putExpanded 51 = .ok (.invokevirtual 77, 3) := by decide +kernel
theorem d_RequestWriter_putExpanded_54 : decode b_RequestWriter_putExpanded 54 = .ok (.istore 4, 2) := by decide +kernel
theorem d_RequestWriter_putExpanded_56 : decode b_RequestWriter_putExpanded 56 = .ok (.goto 80, 3) := by decide +kernel
theorem d_RequestWriter_putExpanded_59 : decode b_RequestWriter_putExpanded 59 = .ok (.iload 6, 2) := by decide +kernel
theorem d_RequestWriter_putExpanded_61 : decode b_RequestWriter_putExpanded 61 = .ok (.bipush 125, 2) := by decide +kernel
theorem d_RequestWriter_putExpanded_63 : decode b_RequestWriter_putExpanded 63 = .ok (.if_icmp .ne 8, 3) := by decide +kernel
theorem d_RequestWriter_putExpanded_66 : decode b_RequestWriter_putExpanded 66 = .ok (.iconst 0, 1) := by decide +kernel
theorem d_RequestWriter_putExpanded_67 : decode b_RequestWriter_putExpanded 67 = .ok (.istore_n 2, 1) := by decide +kernel
theorem d_RequestWriter_putExpanded_68 : decode b_RequestWriter_putExpanded 68 = .ok (.goto 68, 3) := by decide +kernel
theorem d_RequestWriter_putExpanded_71 : decode b_RequestWriter_putExpanded 71 = .ok (.iload_n 2, 1) := by decide +kernel
theorem d_RequestWriter_putExpanded_72 : decode b_RequestWriter_putExpanded 72 = .ok (.ifCond .ne 12, 3) := by decide +kernel
theorem d_RequestWriter_putExpanded_75 : decode b_RequestWriter_putExpanded 75 = .ok (.aload_n 1, 1) := by decide +kernel
theorem d_RequestWriter_putExpanded_76 : decode b_RequestWriter_putExpanded 76 = .ok (.iload 6, 2) := by decide +kernel
theorem d_RequestWriter_putExpanded_78 : decode b_RequestWriter_putExpanded 78 = .ok (.invokevirtual 41, 3) := by decide +kernel
theorem d_RequestWriter_putExpanded_81 : decode b_RequestWriter_putExpanded 81 = .ok (.goto 55, 3) := by decide +kernel
theorem d_RequestWriter_putExpanded_84 : decode b_RequestWriter_putExpanded 84 = .ok (.iload 6, 2) := by decide +kernel
theorem d_RequestWriter_putExpanded_86 : decode b_RequestWriter_putExpanded 86 = .ok (.invokestatic 80, 3) := by decide +kernel
theorem d_RequestWriter_putExpanded_89 : decode b_RequestWriter_putExpanded 89 = .ok (.ifCond .eq 47, 3) := by decide +kernel
theorem d_RequestWriter_putExpanded_92 : decode b_RequestWriter_putExpanded 92 = .ok (.aload_n 0, 1) := by decide +kernel
theorem d_RequestWriter_putExpanded_93 : decode b_RequestWriter_putExpanded 93 = .ok (.getfield 18, 3) := by decide +kernel
theorem d_RequestWriter_putExpanded_96 : decode b_RequestWriter_putExpanded 96 = .ok (.iload 6, 2) := by decide +kernel
theorem d_RequestWriter_putExpanded_98 : decode b_RequestWriter_putExpanded 98 = .ok (.invokevirtual 86, 3) := by decide +kernel
theorem d_RequestWriter_putExpanded_101 : decode b_RequestWriter_putExpanded 101 = .ok (.astore 7, 2) := by decide +kernel
theorem d_RequestWriter_putExpanded_103 : decode b_RequestWriter_putExpanded 103 = .ok (.aload 7, 2) := by decide +kernel
theorem d_RequestWriter_putExpanded_105 : decode b_RequestWriter_putExpanded 105 = .ok (.ifnull 31, 3) := by decide +kernel
theorem d_RequestWriter_putExpanded_108 : decode b_RequestWriter_putExpanded 108 = .ok (.aload 7, 2) := by decide +kernel
theorem d_RequestWriter_putExpanded_110 : decode b_RequestWriter_putExpanded 110 = .ok (.getfield 90, 3) := by decide +kernel
theorem d_RequestWriter_putExpanded_113 : decode b_RequestWriter_putExpanded 113 = .ok (.ifCond .le 23, 3) := by decide +kernel
theorem d_RequestWriter_putExpanded_116 : decode b_RequestWriter_putExpanded 116 = .ok (.aload_n 1, 1) := by decide +kernel
theorem d_RequestWriter_putExpanded_117 : decode b_RequestWriter_putExpanded 117 = .ok (.iload 4, 2) := by decide +kernel
theorem d_RequestWriter_putExpanded_119 : decode b_RequestWriter_putExpanded 119 = .ok (.iload_n 3, 1) := by decide +kernel
theorem d_RequestWriter_putExpanded_120 : decode b_RequestWriter_putExpanded 120 = .ok (.invokestatic 95, 3) := by decide +kernel
theorem d_RequestWriter_putExpanded_123 : decode b_RequestWriter_putExpanded 123 = .ok (.aload_n 0, 1) := by decide +kernel
theorem d_RequestWriter_putExpanded_124 : decode b_RequestWriter_putExpanded 124 = .ok (.aload_n 1, 1) := by decide +kernel
theorem d_RequestWriter_putExpanded_125 : decode b_RequestWriter_putExpanded 125 = .ok (.iload 5, 2) := by decide +kernel
theorem d_RequestWriter_putExpanded_127 : decode b_RequestWriter_putExpanded 127 = .ok (.aload 7, 2) := by decide +kernel
theorem d_RequestWriter_putExpanded_129 : decode b_RequestWriter_putExpanded 129 = .ok (.iload 4, 2) := by decide +kernel
theorem d_RequestWriter_putExpanded_131 : decode b_RequestWriter_putExpanded 131 = .ok (.invokevirtual 99, 3) := by decide +kernel
theorem d_RequestWriter_putExpanded_134 : decode b_RequestWriter_putExpanded 134 = .ok (.iconst 1, 1) := by decide +kernel
theorem d_RequestWriter_putExpanded_135 : decode b_RequestWriter_putExpanded 135 = .ok (.istore_n 3, 1) := by decide +kernel
theorem d_RequestWriter_putExpanded_136 : decode b_RequestWriter_putExpanded 136 = .ok (.iinc 5 1, 3) := by decide +kernel
theorem d_RequestWriter_putExpanded_139 : decode b_RequestWriter_putExpanded 139 = .ok (.goto (-128), 3) := by decide +kernel
theorem d_RequestWriter_putExpanded_142 : decode b_RequestWriter_putExpanded 142 = .ok (.return_, 1) := by decide +kernel
def f_RequestWriter_putExpanded_136 (K11 : Nat → Int32 → Int32 → Int32 → Int32 → zSt → Option zSt) (k1 : Nat) (a2 : Int32) (a3 : Int32) (a4 : Int32) (a5 : Int32) (S : zSt) : Option zSt := (K11 k1 a2 a3 a4 (a5 + 1) S)
def f_RequestWriter_putExpanded_11 : Nat → Nat → Int32 → Int32 → Int32 → Int32 → zSt → Option zSt
  | 0, _, _, _, _, _, _ => none
  | n + 1, k1, a2, a3, a4, a5, S => (if (S 2 1) ≤ a5 then (some S) else ((f_PathTemplate_at a5 S).bind fun u1 => (if u1 = 123 then ((f_PathTemplate_operatorBehind a5 S).bind fun u8 => (f_RequestWriter_putExpanded_136 (f_RequestWriter_putExpanded_11 n) k1 1 0 u8 a5 S)) else (if u1 = 125 then (f_RequestWriter_putExpanded_136 (f_RequestWriter_putExpanded_11 n) k1 0 a3 a4 a5 S) else (if a2 = 0 then ((f_ByteRow_put k1 u1 S).bind fun u7 => (f_RequestWriter_putExpanded_136 (f_RequestWriter_putExpanded_11 n) k1 a2 a3 a4 a5 u7)) else ((f_Chars_isSmall u1 S).bind fun u2 => (if u2 = 0 then (f_RequestWriter_putExpanded_136 (f_RequestWriter_putExpanded_11 n) k1 a2 a3 a4 a5 S) else ((f_Declaration_parameterOf u1 S).bind fun u3 => match u3 with | none => (f_RequestWriter_putExpanded_136 (f_RequestWriter_putExpanded_11 n) k1 a2 a3 a4 a5 S) | some k4 => gdn k4 6 ((if (S (10 + k4) 1) ≤ 0 then (f_RequestWriter_putExpanded_136 (f_RequestWriter_putExpanded_11 n) k1 a2 a3 a4 a5 S) else ((f_RequestWriter_putStartOrBreak k1 a4 a3 S).bind fun u5 => ((f_RequestWriter_putVariable k1 a5 k4 a4 u5).bind fun u6 => (f_RequestWriter_putExpanded_136 (f_RequestWriter_putExpanded_11 n) k1 a2 1 a4 a5 u6)))))))))))))
def f_RequestWriter_putExpanded (k1 : Nat) (S : zSt) : Option zSt := (f_RequestWriter_putExpanded_11 fu k1 0 0 32 0 S)
set_option maxHeartbeats 4000000 in
set_option maxRecDepth 100000 in
theorem c_RequestWriter_putExpanded (l : Launch) (g : zG) (hD : GD g) (k1 : Nat) (hk1 : k1 < 4) (S : zSt) (u : zSt) (h : f_RequestWriter_putExpanded k1 S = some u) : Met l y_RequestWriter_putExpanded (mw y_RequestWriter_putExpanded b_RequestWriter_putExpanded 8 none) (rmD 7) (Pw g [.ref (ga g 5), .ref (ga g (58 + k1))] S) (Qvs g u) 0 0 (gA g) := by
  refine z_go (own := R_RequestWriter) (lv0 := [(0, .ref (ga g 5)), (1, .ref (ga g (58 + k1)))]) hD (by decide) rfl (Nat.le_of_ble_eq_true rfl) rfl ?_
  intro p e s m args below meth c C D ls hl
  have hx := C.1
  have hb := C.2.1
  have hown := C.2.2.2.1
  have hts := C.2.2.2.2.1
  have B136 : ∀ (K11 : Nat → Int32 → Int32 → Int32 → Int32 → zSt → Option zSt) (hK11 : ∀ (H : Heap) (locs : List Loc) (S : zSt) (ls : Array Slot) (k1 : Nat) (hk1 : k1 < 4) (a2 : Int32) (a3 : Int32) (a4 : Int32) (a5 : Int32), K11 k1 a2 a3 a4 a5 S = some u → Dy g s S H locs → lv_has ls 8 [(0, .ref (ga g 5)), (1, .ref (ga g (58 + k1))), (2, .int a2), (3, .int a3), (4, .int a4), (5, .int a5)] → W p l e (rmD 7) s m args below meth c H locs 0 0 (MQ below (Qvs g u) args s 0 0 (gA g)) (F0 m 11 ls [])) (H : Heap) (locs : List Loc) (S : zSt) (ls : Array Slot) (k1 : Nat) (hk1 : k1 < 4) (a2 : Int32) (a3 : Int32) (a4 : Int32) (a5 : Int32), f_RequestWriter_putExpanded_136 K11 k1 a2 a3 a4 a5 S = some u → Dy g s S H locs → lv_has ls 8 [(0, .ref (ga g 5)), (1, .ref (ga g (58 + k1))), (2, .int a2), (3, .int a3), (4, .int a4), (5, .int a5)] → W p l e (rmD 7) s m args below meth c H locs 0 0 (MQ below (Qvs g u) args s 0 0 (gA g)) (F0 m 136 ls []) := by
    intro K11 hK11 H locs S ls k1 hk1 a2 a3 a4 a5 h D hl
    unfold f_RequestWriter_putExpanded_136 at h
    refine lv_iinc (k := 5) (lv' := [(5, .int (a5 + 1)), (0, .ref (ga g 5)), (1, .ref (ga g (58 + k1))), (2, .int a2), (3, .int a3), (4, .int a4)]) hx hb d_RequestWriter_putExpanded_136 hl rfl (ii1 _) (by decide) rfl (fun ls hl => ?_)
    refine lv_goto hx hb d_RequestWriter_putExpanded_139 rfl ?_
    exact hK11 _ _ _ _ _ hk1 _ _ _ _ h D (lv_sub hl [1, 2, 3, 4, 5, 0] rfl)
  have L11 : ∀ (n : Nat) (H : Heap) (locs : List Loc) (S : zSt) (ls : Array Slot) (k1 : Nat) (hk1 : k1 < 4) (a2 : Int32) (a3 : Int32) (a4 : Int32) (a5 : Int32), f_RequestWriter_putExpanded_11 n k1 a2 a3 a4 a5 S = some u → Dy g s S H locs → lv_has ls 8 [(0, .ref (ga g 5)), (1, .ref (ga g (58 + k1))), (2, .int a2), (3, .int a3), (4, .int a4), (5, .int a5)] → W p l e (rmD 7) s m args below meth c H locs 0 0 (MQ below (Qvs g u) args s 0 0 (gA g)) (F0 m 11 ls []) := by
    intro n
    induction n with
    | zero => intro H locs S ls k1 hk1 a2 a3 a4 a5 h D hl; rw [f_RequestWriter_putExpanded_11] at h; cases h
    | succ n hK11 =>
      intro H locs S ls k1 hk1 a2 a3 a4 a5 h D hl
      rw [f_RequestWriter_putExpanded_11] at h
      refine lv_iload hx hb d_RequestWriter_putExpanded_11 (lv_at hl 5 rfl) ?_
      refine lv_aload_n hx hb d_RequestWriter_putExpanded_13 rfl (lv_at hl 0 rfl) ?_
      refine x_get (v := .ref (ga g 2)) C D kc_RequestWriter (by decide) sh_5 1 rfl (by decide) wf_RequestWriter_28 rfl rfl d_RequestWriter_putExpanded_14 ?_
      refine x_getN (v := .int (S 2 1)) C D kc_PathTemplate (by decide) sh_2 1 rfl (by decide) nf_RequestWriter_72 rfl rfl d_RequestWriter_putExpanded_17 ?_
      refine lv_icmp_ge hx hb d_RequestWriter_putExpanded_20 rfl (fun z => ?_) (fun z => ?_)
      · replace h := if_t z h
        exact x_vrs C D h d_RequestWriter_putExpanded_142
      · replace h := if_f z h
        refine lv_aload_n hx hb d_RequestWriter_putExpanded_23 rfl (lv_at hl 0 rfl) ?_
        refine x_get (v := .ref (ga g 2)) C D kc_RequestWriter (by decide) sh_5 1 rfl (by decide) wf_RequestWriter_28 rfl rfl d_RequestWriter_putExpanded_24 ?_
        refine lv_iload hx hb d_RequestWriter_putExpanded_27 (lv_at hl 5 rfl) ?_
        obtain ⟨u1, hu1, h⟩ := bd_some h
        refine x_cip (rest := []) (r_V C D (c_PathTemplate_at l g hD a5 S u1 hu1) wc_PathTemplate_at wm_RequestWriter_73 wi_PathTemplate_at wd_PathTemplate_at (by decide) sh_2 kc_PathTemplate.1 rfl rfl hl (Nat.le_of_ble_eq_true rfl) (by decide) d_RequestWriter_putExpanded_29) D (fun H locs D => ?_)
        refine lv_istore (lv' := [(6, .int u1), (0, .ref (ga g 5)), (1, .ref (ga g (58 + k1))), (2, .int a2), (3, .int a3), (4, .int a4), (5, .int a5)]) hx hb d_RequestWriter_putExpanded_32 hl (by decide) rfl (fun ls hl => ?_)
        refine lv_iload hx hb d_RequestWriter_putExpanded_34 (lv_at hl 0 rfl) ?_
        refine lv_bipush (v := 123) hx hb d_RequestWriter_putExpanded_36 (by decide) ?_
        refine lv_icmp_ne hx hb d_RequestWriter_putExpanded_38 rfl (fun z => ?_) (fun z => ?_)
        · replace h := if_f z h
          refine lv_iload hx hb d_RequestWriter_putExpanded_59 (lv_at hl 0 rfl) ?_
          refine lv_bipush (v := 125) hx hb d_RequestWriter_putExpanded_61 (by decide) ?_
          refine lv_icmp_ne hx hb d_RequestWriter_putExpanded_63 rfl (fun z => ?_) (fun z => ?_)
          · replace h := if_f z h
            refine lv_iload_n hx hb d_RequestWriter_putExpanded_71 rfl (lv_at hl 3 rfl) ?_
            refine lv_if_ne hx hb d_RequestWriter_putExpanded_72 rfl (fun z => ?_) (fun z => ?_)
            · replace h := if_f z h
              refine lv_iload hx hb d_RequestWriter_putExpanded_84 (lv_at hl 0 rfl) ?_
              obtain ⟨u2, hu2, h⟩ := bd_some h
              refine x_cip (rest := []) (r_S C D (c_Chars_isSmall l g hD u1 S u2 hu2) wc_Chars_isSmall wm_RequestWriter_80 wt_Chars_isSmall wd_Chars_isSmall rfl rfl hl (Nat.le_of_ble_eq_true rfl) (by decide) d_RequestWriter_putExpanded_86) D (fun H locs D => ?_)
              refine lv_if_eq hx hb d_RequestWriter_putExpanded_89 rfl (fun z => ?_) (fun z => ?_)
              · replace h := if_t z h
                exact B136 _ hK11 _ _ _ _ _ hk1 _ _ _ _ h D (lv_sub hl [1, 2, 3, 4, 5, 6] rfl)
              · replace h := if_f z h
                refine lv_aload_n hx hb d_RequestWriter_putExpanded_92 rfl (lv_at hl 1 rfl) ?_
                refine x_get (v := .ref (ga g 1)) C D kc_RequestWriter (by decide) sh_5 0 rfl (by decide) wf_RequestWriter_18 rfl rfl d_RequestWriter_putExpanded_93 ?_
                refine lv_iload hx hb d_RequestWriter_putExpanded_96 (lv_at hl 0 rfl) ?_
                obtain ⟨u3, hu3, h⟩ := bd_some h
                refine x_cqp (rest := []) (r_V C D (c_Declaration_parameterOf l g hD u1 S u3 hu3) wc_Declaration_parameterOf wm_RequestWriter_86 wi_Declaration_parameterOf wd_Declaration_parameterOf (by decide) sh_1 kc_Declaration.1 rfl rfl hl (Nat.le_of_ble_eq_true rfl) (by decide) d_RequestWriter_putExpanded_98) D (fun H locs D => ?_)
                cases u3 with
                | none =>
                  refine lv_astoreN (lv' := [(7, .null), (6, .int u1), (0, .ref (ga g 5)), (1, .ref (ga g (58 + k1))), (2, .int a2), (3, .int a3), (4, .int a4), (5, .int a5)]) hx hb d_RequestWriter_putExpanded_101 hl (by decide) rfl (fun ls hl => ?_)
                  refine lv_aloadN hx hb d_RequestWriter_putExpanded_103 (lv_at hl 0 rfl) ?_
                  refine lv_ifnullN hx hb d_RequestWriter_putExpanded_105 rfl ?_
                  exact B136 _ hK11 _ _ _ _ _ hk1 _ _ _ _ h D (lv_sub hl [2, 3, 4, 5, 6, 7] rfl)
                | some k4 =>
                  obtain ⟨hk4, h⟩ := gdn_some h
                  refine lv_astore (lv' := [(7, .ref (ga g (10 + k4))), (6, .int u1), (0, .ref (ga g 5)), (1, .ref (ga g (58 + k1))), (2, .int a2), (3, .int a3), (4, .int a4), (5, .int a5)]) hx hb d_RequestWriter_putExpanded_101 hl (by decide) rfl (fun ls hl => ?_)
                  refine lv_aload hx hb d_RequestWriter_putExpanded_103 (lv_at hl 0 rfl) ?_
                  refine lv_ifnull hx hb d_RequestWriter_putExpanded_105 ?_
                  refine lv_aload hx hb d_RequestWriter_putExpanded_108 (lv_at hl 0 rfl) ?_
                  refine x_getN (v := .int (S (10 + k4) 1)) C D kc_Parameter (nP hk4) (sh_P hk4) 1 rfl (by decide) nf_RequestWriter_90 rfl rfl d_RequestWriter_putExpanded_110 ?_
                  refine lv_if_le hx hb d_RequestWriter_putExpanded_113 rfl (fun z => ?_) (fun z => ?_)
                  · replace h := if_t z h
                    exact B136 _ hK11 _ _ _ _ _ hk1 _ _ _ _ h D (lv_sub hl [2, 3, 4, 5, 6, 7] rfl)
                  · replace h := if_f z h
                    refine lv_aload_n hx hb d_RequestWriter_putExpanded_116 rfl (lv_at hl 3 rfl) ?_
                    refine lv_iload hx hb d_RequestWriter_putExpanded_117 (lv_at hl 6 rfl) ?_
                    refine lv_iload_n hx hb d_RequestWriter_putExpanded_119 rfl (lv_at hl 5 rfl) ?_
                    obtain ⟨u5, hu5, h⟩ := bd_some h
                    refine x_cvs (rest := []) (r_S C D (c_RequestWriter_putStartOrBreak l g hD k1 hk1 a4 a3 S u5 hu5) wc_RequestWriter_putStartOrBreak wm_RequestWriter_95 wt_RequestWriter_putStartOrBreak wd_RequestWriter_putStartOrBreak rfl rfl hl (Nat.le_of_ble_eq_true rfl) (by decide) d_RequestWriter_putExpanded_120) D (fun H locs D => ?_)
                    refine lv_aload_n hx hb d_RequestWriter_putExpanded_123 rfl (lv_at hl 2 rfl) ?_
                    refine lv_aload_n hx hb d_RequestWriter_putExpanded_124 rfl (lv_at hl 3 rfl) ?_
                    refine lv_iload hx hb d_RequestWriter_putExpanded_125 (lv_at hl 7 rfl) ?_
                    refine lv_aload hx hb d_RequestWriter_putExpanded_127 (lv_at hl 0 rfl) ?_
                    refine lv_iload hx hb d_RequestWriter_putExpanded_129 (lv_at hl 6 rfl) ?_
                    obtain ⟨u6, hu6, h⟩ := bd_some h
                    refine x_cvs (rest := []) (r_V C D (c_RequestWriter_putVariable l g hD k1 hk1 a5 k4 hk4 a4 u5 u6 hu6) wc_RequestWriter_putVariable wm_RequestWriter_99 wi_RequestWriter_putVariable wd_RequestWriter_putVariable (by decide) sh_5 kc_RequestWriter.1 rfl rfl hl (Nat.le_of_ble_eq_true rfl) (by decide) d_RequestWriter_putExpanded_131) D (fun H locs D => ?_)
                    refine lv_iconst (v := 1) hx hb d_RequestWriter_putExpanded_134 (by decide) ?_
                    refine lv_istore_n (lv' := [(3, .int 1), (7, .ref (ga g (10 + k4))), (6, .int u1), (0, .ref (ga g 5)), (1, .ref (ga g (58 + k1))), (2, .int a2), (4, .int a4), (5, .int a5)]) hx hb d_RequestWriter_putExpanded_135 rfl hl (by decide) rfl (fun ls hl => ?_)
                    exact B136 _ hK11 _ _ _ _ _ hk1 _ _ _ _ h D (lv_sub hl [3, 4, 5, 0, 6, 7] rfl)
            · replace h := if_t z h
              refine lv_aload_n hx hb d_RequestWriter_putExpanded_75 rfl (lv_at hl 2 rfl) ?_
              refine lv_iload hx hb d_RequestWriter_putExpanded_76 (lv_at hl 0 rfl) ?_
              obtain ⟨u7, hu7, h⟩ := bd_some h
              refine x_cvs (rest := []) (r_V C D (c_ByteRow_put l g hD k1 hk1 u1 S u7 hu7) wc_ByteRow_put wm_RequestWriter_41 wi_ByteRow_put wd_ByteRow_put (nR hk1) (sh_R hk1) kc_ByteRow.1 rfl rfl hl (Nat.le_of_ble_eq_true rfl) (by decide) d_RequestWriter_putExpanded_78) D (fun H locs D => ?_)
              refine lv_goto hx hb d_RequestWriter_putExpanded_81 rfl ?_
              exact B136 _ hK11 _ _ _ _ _ hk1 _ _ _ _ h D (lv_sub hl [1, 2, 3, 4, 5, 6] rfl)
          · replace h := if_t z h
            refine lv_iconst (v := 0) hx hb d_RequestWriter_putExpanded_66 (by decide) ?_
            refine lv_istore_n (lv' := [(2, .int 0), (6, .int u1), (0, .ref (ga g 5)), (1, .ref (ga g (58 + k1))), (3, .int a3), (4, .int a4), (5, .int a5)]) hx hb d_RequestWriter_putExpanded_67 rfl hl (by decide) rfl (fun ls hl => ?_)
            refine lv_goto hx hb d_RequestWriter_putExpanded_68 rfl ?_
            exact B136 _ hK11 _ _ _ _ _ hk1 _ _ _ _ h D (lv_sub hl [2, 3, 0, 4, 5, 6] rfl)
        · replace h := if_t z h
          refine lv_iconst (v := 1) hx hb d_RequestWriter_putExpanded_41 (by decide) ?_
          refine lv_istore_n (lv' := [(2, .int 1), (6, .int u1), (0, .ref (ga g 5)), (1, .ref (ga g (58 + k1))), (3, .int a3), (4, .int a4), (5, .int a5)]) hx hb d_RequestWriter_putExpanded_42 rfl hl (by decide) rfl (fun ls hl => ?_)
          refine lv_iconst (v := 0) hx hb d_RequestWriter_putExpanded_43 (by decide) ?_
          refine lv_istore_n (lv' := [(3, .int 0), (2, .int 1), (6, .int u1), (0, .ref (ga g 5)), (1, .ref (ga g (58 + k1))), (4, .int a4), (5, .int a5)]) hx hb d_RequestWriter_putExpanded_44 rfl hl (by decide) rfl (fun ls hl => ?_)
          refine lv_aload_n hx hb d_RequestWriter_putExpanded_45 rfl (lv_at hl 3 rfl) ?_
          refine x_get (v := .ref (ga g 2)) C D kc_RequestWriter (by decide) sh_5 1 rfl (by decide) wf_RequestWriter_28 rfl rfl d_RequestWriter_putExpanded_46 ?_
          refine lv_iload hx hb d_RequestWriter_putExpanded_49 (lv_at hl 6 rfl) ?_
          obtain ⟨u8, hu8, h⟩ := bd_some h
          refine x_cip (rest := []) (r_V C D (c_PathTemplate_operatorBehind l g hD a5 S u8 hu8) wc_PathTemplate_operatorBehind wm_RequestWriter_77 wi_PathTemplate_operatorBehind wd_PathTemplate_operatorBehind (by decide) sh_2 kc_PathTemplate.1 rfl rfl hl (Nat.le_of_ble_eq_true rfl) (by decide) d_RequestWriter_putExpanded_51) D (fun H locs D => ?_)
          refine lv_istore (lv' := [(4, .int u8), (3, .int 0), (2, .int 1), (6, .int u1), (0, .ref (ga g 5)), (1, .ref (ga g (58 + k1))), (5, .int a5)]) hx hb d_RequestWriter_putExpanded_54 hl (by decide) rfl (fun ls hl => ?_)
          refine lv_goto hx hb d_RequestWriter_putExpanded_56 rfl ?_
          exact B136 _ hK11 _ _ _ _ _ hk1 _ _ _ _ h D (lv_sub hl [4, 5, 2, 1, 0, 6] rfl)
  unfold f_RequestWriter_putExpanded at h
  refine lv_iconst (v := 0) hx hb d_RequestWriter_putExpanded_0 (by decide) ?_
  refine lv_istore_n (lv' := [(2, .int 0), (0, .ref (ga g 5)), (1, .ref (ga g (58 + k1)))]) hx hb d_RequestWriter_putExpanded_1 rfl hl (by decide) rfl (fun ls hl => ?_)
  refine lv_iconst (v := 0) hx hb d_RequestWriter_putExpanded_2 (by decide) ?_
  refine lv_istore_n (lv' := [(3, .int 0), (2, .int 0), (0, .ref (ga g 5)), (1, .ref (ga g (58 + k1)))]) hx hb d_RequestWriter_putExpanded_3 rfl hl (by decide) rfl (fun ls hl => ?_)
  refine lv_bipush (v := 32) hx hb d_RequestWriter_putExpanded_4 (by decide) ?_
  refine lv_istore (lv' := [(4, .int 32), (3, .int 0), (2, .int 0), (0, .ref (ga g 5)), (1, .ref (ga g (58 + k1)))]) hx hb d_RequestWriter_putExpanded_6 hl (by decide) rfl (fun ls hl => ?_)
  refine lv_iconst (v := 0) hx hb d_RequestWriter_putExpanded_8 (by decide) ?_
  refine lv_istore (lv' := [(5, .int 0), (4, .int 32), (3, .int 0), (2, .int 0), (0, .ref (ga g 5)), (1, .ref (ga g (58 + k1)))]) hx hb d_RequestWriter_putExpanded_9 hl (by decide) rfl (fun ls hl => ?_)
  exact L11 _ _ _ _ _ _ hk1 _ _ _ _ h D (lv_sub hl [4, 5, 3, 2, 1, 0] rfl)
theorem d_RequestWriter_putQuery_0 : decode b_RequestWriter_putQuery 0 = .ok (.iconst 0, 1) := by decide +kernel
theorem d_RequestWriter_putQuery_1 : decode b_RequestWriter_putQuery 1 = .ok (.istore_n 2, 1) := by decide +kernel
theorem d_RequestWriter_putQuery_2 : decode b_RequestWriter_putQuery 2 = .ok (.iload_n 2, 1) := by decide +kernel
theorem d_RequestWriter_putQuery_3 : decode b_RequestWriter_putQuery 3 = .ok (.aload_n 0, 1) := by decide +kernel
theorem d_RequestWriter_putQuery_4 : decode b_RequestWriter_putQuery 4 = .ok (.getfield 18, 3) := by decide +kernel
theorem d_RequestWriter_putQuery_7 : decode b_RequestWriter_putQuery 7 = .ok (.getfield 138, 3) := by decide +kernel
theorem d_RequestWriter_putQuery_10 : decode b_RequestWriter_putQuery 10 = .ok (.if_icmp .ge 32, 3) := by decide +kernel
theorem d_RequestWriter_putQuery_13 : decode b_RequestWriter_putQuery 13 = .ok (.aload_n 0, 1) := by decide +kernel
theorem d_RequestWriter_putQuery_14 : decode b_RequestWriter_putQuery 14 = .ok (.getfield 18, 3) := by decide +kernel
theorem d_RequestWriter_putQuery_17 : decode b_RequestWriter_putQuery 17 = .ok (.getfield 139, 3) := by decide +kernel
theorem d_RequestWriter_putQuery_20 : decode b_RequestWriter_putQuery 20 = .ok (.iload_n 2, 1) := by decide +kernel
theorem d_RequestWriter_putQuery_21 : decode b_RequestWriter_putQuery 21 = .ok (.aaload, 1) := by decide +kernel
theorem d_RequestWriter_putQuery_22 : decode b_RequestWriter_putQuery 22 = .ok (.astore_n 3, 1) := by decide +kernel
theorem d_RequestWriter_putQuery_23 : decode b_RequestWriter_putQuery 23 = .ok (.aload_n 3, 1) := by decide +kernel
theorem d_RequestWriter_putQuery_24 : decode b_RequestWriter_putQuery 24 = .ok (.getfield 143, 3) := by decide +kernel
theorem d_RequestWriter_putQuery_27 : decode b_RequestWriter_putQuery 27 = .ok (.iconst 2, 1) := by decide +kernel
theorem d_RequestWriter_putQuery_28 : decode b_RequestWriter_putQuery 28 = .ok (.if_icmp .ne 8, 3) := by decide +kernel
theorem d_RequestWriter_putQuery_31 : decode b_RequestWriter_putQuery 31 = .ok (.aload_n 1, 1) := by decide +kernel
theorem d_RequestWriter_putQuery_32 : decode b_RequestWriter_putQuery 32 = .ok (.aload_n 3, 1) := by decide +kernel
theorem d_RequestWriter_putQuery_33 : decode b_RequestWriter_putQuery 33 = .ok (.invokestatic 146, 3) := by decide +kernel
theorem d_RequestWriter_putQuery_36 : decode b_RequestWriter_putQuery 36 = .ok (.iinc 2 1, 3) := by decide +kernel
theorem d_RequestWriter_putQuery_39 : decode b_RequestWriter_putQuery 39 = .ok (.goto (-37), 3) := by decide +kernel
theorem d_RequestWriter_putQuery_42 : decode b_RequestWriter_putQuery 42 = .ok (.return_, 1) := by decide +kernel
def f_RequestWriter_putQuery_36 (K2 : Nat → Int32 → zSt → Option zSt) (k1 : Nat) (a2 : Int32) (S : zSt) : Option zSt := (K2 k1 (a2 + 1) S)
def f_RequestWriter_putQuery_2 : Nat → Nat → Int32 → zSt → Option zSt
  | 0, _, _, _ => none
  | n + 1, k1, a2, S => (if (S 1 2) ≤ a2 then (some S) else gdi a2 6 ((if (S (10 + a2.toNatClampNeg) 2) = 2 then ((f_RequestWriter_putQueryItems k1 a2.toNatClampNeg S).bind fun u2 => (f_RequestWriter_putQuery_36 (f_RequestWriter_putQuery_2 n) k1 a2 u2)) else (f_RequestWriter_putQuery_36 (f_RequestWriter_putQuery_2 n) k1 a2 S))))
def f_RequestWriter_putQuery (k1 : Nat) (S : zSt) : Option zSt := (f_RequestWriter_putQuery_2 fu k1 0 S)
set_option maxHeartbeats 4000000 in
set_option maxRecDepth 100000 in
theorem c_RequestWriter_putQuery (l : Launch) (g : zG) (hD : GD g) (k1 : Nat) (hk1 : k1 < 4) (S : zSt) (u : zSt) (h : f_RequestWriter_putQuery k1 S = some u) : Met l y_RequestWriter_putQuery (mw y_RequestWriter_putQuery b_RequestWriter_putQuery 4 none) (rmD 7) (Pw g [.ref (ga g 5), .ref (ga g (58 + k1))] S) (Qvs g u) 0 0 (gA g) := by
  refine z_go (own := R_RequestWriter) (lv0 := [(0, .ref (ga g 5)), (1, .ref (ga g (58 + k1)))]) hD (by decide) rfl (Nat.le_of_ble_eq_true rfl) rfl ?_
  intro p e s m args below meth c C D ls hl
  have hx := C.1
  have hb := C.2.1
  have hown := C.2.2.2.1
  have hts := C.2.2.2.2.1
  have B36 : ∀ (K2 : Nat → Int32 → zSt → Option zSt) (hK2 : ∀ (H : Heap) (locs : List Loc) (S : zSt) (ls : Array Slot) (k1 : Nat) (hk1 : k1 < 4) (a2 : Int32), K2 k1 a2 S = some u → Dy g s S H locs → lv_has ls 4 [(0, .ref (ga g 5)), (1, .ref (ga g (58 + k1))), (2, .int a2)] → W p l e (rmD 7) s m args below meth c H locs 0 0 (MQ below (Qvs g u) args s 0 0 (gA g)) (F0 m 2 ls [])) (H : Heap) (locs : List Loc) (S : zSt) (ls : Array Slot) (k1 : Nat) (hk1 : k1 < 4) (a2 : Int32), f_RequestWriter_putQuery_36 K2 k1 a2 S = some u → Dy g s S H locs → lv_has ls 4 [(0, .ref (ga g 5)), (1, .ref (ga g (58 + k1))), (2, .int a2)] → W p l e (rmD 7) s m args below meth c H locs 0 0 (MQ below (Qvs g u) args s 0 0 (gA g)) (F0 m 36 ls []) := by
    intro K2 hK2 H locs S ls k1 hk1 a2 h D hl
    unfold f_RequestWriter_putQuery_36 at h
    refine lv_iinc (k := 2) (lv' := [(2, .int (a2 + 1)), (0, .ref (ga g 5)), (1, .ref (ga g (58 + k1)))]) hx hb d_RequestWriter_putQuery_36 hl rfl (ii1 _) (by decide) rfl (fun ls hl => ?_)
    refine lv_goto hx hb d_RequestWriter_putQuery_39 rfl ?_
    exact hK2 _ _ _ _ _ hk1 _ h D (lv_sub hl [1, 2, 0] rfl)
  have L2 : ∀ (n : Nat) (H : Heap) (locs : List Loc) (S : zSt) (ls : Array Slot) (k1 : Nat) (hk1 : k1 < 4) (a2 : Int32), f_RequestWriter_putQuery_2 n k1 a2 S = some u → Dy g s S H locs → lv_has ls 4 [(0, .ref (ga g 5)), (1, .ref (ga g (58 + k1))), (2, .int a2)] → W p l e (rmD 7) s m args below meth c H locs 0 0 (MQ below (Qvs g u) args s 0 0 (gA g)) (F0 m 2 ls []) := by
    intro n
    induction n with
    | zero => intro H locs S ls k1 hk1 a2 h D hl; rw [f_RequestWriter_putQuery_2] at h; cases h
    | succ n hK2 =>
      intro H locs S ls k1 hk1 a2 h D hl
      rw [f_RequestWriter_putQuery_2] at h
      refine lv_iload_n hx hb d_RequestWriter_putQuery_2 rfl (lv_at hl 2 rfl) ?_
      refine lv_aload_n hx hb d_RequestWriter_putQuery_3 rfl (lv_at hl 0 rfl) ?_
      refine x_get (v := .ref (ga g 1)) C D kc_RequestWriter (by decide) sh_5 0 rfl (by decide) wf_RequestWriter_18 rfl rfl d_RequestWriter_putQuery_4 ?_
      refine x_getN (v := .int (S 1 2)) C D kc_Declaration (by decide) sh_1 2 rfl (by decide) nf_RequestWriter_138 rfl rfl d_RequestWriter_putQuery_7 ?_
      refine lv_icmp_ge hx hb d_RequestWriter_putQuery_10 rfl (fun z => ?_) (fun z => ?_)
      · replace h := if_t z h
        exact x_vrs C D h d_RequestWriter_putQuery_42
      · replace h := if_f z h
        refine lv_aload_n hx hb d_RequestWriter_putQuery_13 rfl (lv_at hl 0 rfl) ?_
        refine x_get (v := .ref (ga g 1)) C D kc_RequestWriter (by decide) sh_5 0 rfl (by decide) wf_RequestWriter_18 rfl rfl d_RequestWriter_putQuery_14 ?_
        refine x_getN (v := .ref (ga g 4)) C D kc_Declaration (by decide) sh_1 1 rfl (by decide) nf_RequestWriter_139 rfl rfl d_RequestWriter_putQuery_17 ?_
        refine lv_iload_n hx hb d_RequestWriter_putQuery_20 rfl (lv_at hl 2 rfl) ?_
        refine x_aald3 C D (by decide) sh_4 d_RequestWriter_putQuery_21 h (fun q1 h => ?_)
        refine lv_astore_n (lv' := [(3, .ref (ga g (10 + a2.toNatClampNeg))), (0, .ref (ga g 5)), (1, .ref (ga g (58 + k1))), (2, .int a2)]) hx hb d_RequestWriter_putQuery_22 rfl hl (by decide) rfl (fun ls hl => ?_)
        refine lv_aload_n hx hb d_RequestWriter_putQuery_23 rfl (lv_at hl 0 rfl) ?_
        refine x_getN (v := .int (S (10 + a2.toNatClampNeg) 2)) C D kc_Parameter (nP q1) (sh_P q1) 2 rfl (by decide) nf_RequestWriter_143 rfl rfl d_RequestWriter_putQuery_24 ?_
        refine lv_iconst (v := 2) hx hb d_RequestWriter_putQuery_27 (by decide) ?_
        refine lv_icmp_ne hx hb d_RequestWriter_putQuery_28 rfl (fun z => ?_) (fun z => ?_)
        · replace h := if_f z h
          exact B36 _ hK2 _ _ _ _ _ hk1 _ h D (lv_sub hl [1, 2, 3] rfl)
        · replace h := if_t z h
          refine lv_aload_n hx hb d_RequestWriter_putQuery_31 rfl (lv_at hl 2 rfl) ?_
          refine lv_aload_n hx hb d_RequestWriter_putQuery_32 rfl (lv_at hl 0 rfl) ?_
          obtain ⟨u2, hu2, h⟩ := bd_some h
          refine x_cvs (rest := []) (r_S C D (c_RequestWriter_putQueryItems l g hD k1 hk1 a2.toNatClampNeg q1 S u2 hu2) wc_RequestWriter_putQueryItems wm_RequestWriter_146 wt_RequestWriter_putQueryItems wd_RequestWriter_putQueryItems rfl rfl hl (Nat.le_of_ble_eq_true rfl) (by decide) d_RequestWriter_putQuery_33) D (fun H locs D => ?_)
          exact B36 _ hK2 _ _ _ _ _ hk1 _ h D (lv_sub hl [1, 2, 3] rfl)
  unfold f_RequestWriter_putQuery at h
  refine lv_iconst (v := 0) hx hb d_RequestWriter_putQuery_0 (by decide) ?_
  refine lv_istore_n (lv' := [(2, .int 0), (0, .ref (ga g 5)), (1, .ref (ga g (58 + k1)))]) hx hb d_RequestWriter_putQuery_1 rfl hl (by decide) rfl (fun ls hl => ?_)
  exact L2 _ _ _ _ _ _ hk1 _ h D (lv_sub hl [1, 2, 0] rfl)
