theorem fvv_r (ad : Nat → Nat) (v : Int32) {j : Nat} (h : j ≠ 1000) : fvv ad (some j) v = .ref (ad j) := by unfold fvv; simp [h]
-- Preconditions.checkIndex and String.checkIndex, by hand (the third argument is a static of which only 'a reference or null' is known)
theorem d_Preconditions_checkIndex_0 : decode b_Preconditions_checkIndex 0 = .ok (.iload_n 0, 1) := by decide +kernel
theorem d_Preconditions_checkIndex_1 : decode b_Preconditions_checkIndex 1 = .ok (.ifCond .lt 8, 3) := by decide +kernel
theorem d_Preconditions_checkIndex_4 : decode b_Preconditions_checkIndex 4 = .ok (.iload_n 0, 1) := by decide +kernel
theorem d_Preconditions_checkIndex_5 : decode b_Preconditions_checkIndex 5 = .ok (.iload_n 1, 1) := by decide +kernel
theorem d_Preconditions_checkIndex_6 : decode b_Preconditions_checkIndex 6 = .ok (.if_icmp .lt 10, 3) := by decide +kernel
theorem d_Preconditions_checkIndex_16 : decode b_Preconditions_checkIndex 16 = .ok (.iload_n 0, 1) := by decide +kernel
theorem d_Preconditions_checkIndex_17 : decode b_Preconditions_checkIndex 17 = .ok (.ireturn, 1) := by decide +kernel
def f_Preconditions_checkIndex (a0 a1 : Int32) (S : zSt) : Option Int32 := if a0 < 0 then none else if a0 < a1 then some a0 else none
set_option maxHeartbeats 4000000 in
theorem c_Preconditions_checkIndex (l : Launch) (g : zG) (hD : GD g) (a0 a1 : Int32) (r : Option Nat) (S : zSt) (u : Int32) (h : f_Preconditions_checkIndex a0 a1 S = some u) : Met l y_Preconditions_checkIndex (mw y_Preconditions_checkIndex b_Preconditions_checkIndex 3 (some .int)) (rmD 0) (Pw g [.int a0, .int a1, va_rf r] S) (Qip g S u) 0 0 (gA g) := by
  have main : ∀ v : Value, (lg_sl [.int a0, .int a1, v]).length ≤ 3 → lv_args 0 [.int a0, .int a1, v] = [(0, .int a0), (1, .int a1), (2, v)] → Met l y_Preconditions_checkIndex (mw y_Preconditions_checkIndex b_Preconditions_checkIndex 3 (some .int)) (rmD 0) (Pw g [.int a0, .int a1, v] S) (Qip g S u) 0 0 (gA g) := by
    intro v hv hw
    refine z_go (own := R_Preconditions) (lv0 := [(0, .int a0), (1, .int a1), (2, v)]) hD (by decide) rfl hv hw ?_
    intro p e s m args below meth c C D ls hl
    have hx := C.1
    have hb := C.2.1
    unfold f_Preconditions_checkIndex at h
    refine lv_iload_n hx hb d_Preconditions_checkIndex_0 rfl (lv_at hl 0 rfl) ?_
    refine lv_if_lt hx hb d_Preconditions_checkIndex_1 rfl (fun z => ?_) (fun z => ?_)
    · replace h := if_t z h
      cases h
    · replace h := if_f z h
      refine lv_iload_n hx hb d_Preconditions_checkIndex_4 rfl (lv_at hl 0 rfl) ?_
      refine lv_iload_n hx hb d_Preconditions_checkIndex_5 rfl (lv_at hl 1 rfl) ?_
      refine lv_icmp_lt hx hb d_Preconditions_checkIndex_6 rfl (fun z => ?_) (fun z => ?_)
      · replace h := if_t z h
        refine lv_iload_n hx hb d_Preconditions_checkIndex_16 rfl (lv_at hl 0 rfl) ?_
        exact x_irp C D h d_Preconditions_checkIndex_17
      · replace h := if_f z h
        cases h
  cases r with
  | none => exact main .null (Nat.le_of_ble_eq_true rfl) rfl
  | some a => exact main (.ref a) (Nat.le_of_ble_eq_true rfl) rfl
theorem d_String_checkIndex_0 : decode b_String_checkIndex 0 = .ok (.iload_n 0, 1) := by decide +kernel
theorem d_String_checkIndex_1 : decode b_String_checkIndex 1 = .ok (.iload_n 1, 1) := by decide +kernel
theorem d_String_checkIndex_2 : decode b_String_checkIndex 2 = .ok (.getstatic 1053, 3) := by decide +kernel
theorem d_String_checkIndex_5 : decode b_String_checkIndex 5 = .ok (.invokestatic 1059, 3) := by decide +kernel
theorem d_String_checkIndex_8 : decode b_String_checkIndex 8 = .ok (.pop, 1) := by decide +kernel
theorem d_String_checkIndex_9 : decode b_String_checkIndex 9 = .ok (.return_, 1) := by decide +kernel
def f_String_checkIndex (a0 a1 : Int32) (S : zSt) : Option Int32 := f_Preconditions_checkIndex a0 a1 S
set_option maxHeartbeats 4000000 in
theorem c_String_checkIndex (l : Launch) (g : zG) (hD : GD g) (a0 a1 : Int32) (S : zSt) (u1 : Int32) (hu1 : f_String_checkIndex a0 a1 S = some u1) : Met l y_String_checkIndex (mw y_String_checkIndex b_String_checkIndex 2 none) (rmD 1) (Pw g [.int a0, .int a1] S) (Qvs g S) 0 0 (gA g) := by
  refine z_go (own := R_String) (lv0 := [(0, .int a0), (1, .int a1)]) hD (by decide) rfl (Nat.le_of_ble_eq_true rfl) rfl ?_
  intro p e s m args below meth c C D ls hl
  have hx := C.1
  have hb := C.2.1
  have hown := C.2.2.2.1
  have hts := C.2.2.2.2.1
  unfold f_String_checkIndex at hu1
  refine lv_iload_n hx hb d_String_checkIndex_0 rfl (lv_at hl 0 rfl) ?_
  refine lv_iload_n hx hb d_String_checkIndex_1 rfl (lv_at hl 1 rfl) ?_
  have fin : ∀ (H1 : Heap) (locs1 : List Loc), Dy g s S H1 locs1 → W p l e (rmD 1) s m args below meth c H1 locs1 0 0 (MQ below (Qvs g S) args s 0 0 (gA g)) (F0 m 8 ls [.int u1]) := by
    intro H1 locs1 D
    refine lv_pop hx hb d_String_checkIndex_8 rfl ?_
    exact x_vrs C D rfl d_String_checkIndex_9
  rcases C.2.2.2.2.2.1.2.2.2.2.1 with hz | ⟨t, hz⟩
  · refine va_gets hx hb hz D.2 hown (hts _ wf_String_1053) (fun x h => h) d_String_checkIndex_2 ?_
    refine x_cip (rest := []) (r_S C D (c_Preconditions_checkIndex l g hD a0 a1 none S u1 hu1) wc_Preconditions_checkIndex wm_String_1059 wt_Preconditions_checkIndex wd_Preconditions_checkIndex rfl rfl hl (Nat.le_of_ble_eq_true rfl) (by decide) d_String_checkIndex_5) D (fun H locs D => ?_)
    exact fin _ _ D
  · refine va_gets hx hb hz D.2 hown (hts _ wf_String_1053) (fun x h => h) d_String_checkIndex_2 ?_
    refine x_cip (rest := []) (r_S C D (c_Preconditions_checkIndex l g hD a0 a1 (some t) S u1 hu1) wc_Preconditions_checkIndex wm_String_1059 wt_Preconditions_checkIndex wd_Preconditions_checkIndex rfl rfl hl (Nat.le_of_ble_eq_true rfl) (by decide) d_String_checkIndex_5) D (fun H locs D => ?_)
    exact fin _ _ D
theorem d_String_coder_0 : decode b_String_coder 0 = .ok (.getstatic 38, 3) := by decide +kernel
theorem d_String_coder_3 : decode b_String_coder 3 = .ok (.ifCond .eq 10, 3) := by decide +kernel
theorem d_String_coder_6 : decode b_String_coder 6 = .ok (.aload_n 0, 1) := by decide +kernel
theorem d_String_coder_7 : decode b_String_coder 7 = .ok (.getfield 15, 3) := by decide +kernel
theorem d_String_coder_10 : decode b_String_coder 10 = .ok (.goto 4, 3) := by decide +kernel
theorem d_String_coder_13 : decode b_String_coder 13 = .ok (.iconst 1, 1) := by decide +kernel
theorem d_String_coder_14 : decode b_String_coder 14 = .ok (.ireturn, 1) := by decide +kernel
def f_String_coder (k0 : Nat) (S : zSt) : Option Int32 := (if (1 : Int32) = 0 then (gdy 1 (some 1)) else (gdy 0 (some 0)))
set_option maxHeartbeats 4000000 in
set_option maxRecDepth 100000 in
theorem c_String_coder (l : Launch) (g : zG) (hD : GD g) (k0 : Nat) (hk0 : k0 < nS) (S : zSt) (u : Int32) (h : f_String_coder k0 S = some u) : Met l y_String_coder (mw y_String_coder b_String_coder 1 (some .byte)) (rmD 0) (Pw g [.ref (gK g k0)] S) (Qip g S u) 0 0 (gA g) := by
  refine z_go (own := R_String) (lv0 := [(0, .ref (gK g k0))]) hD (by decide) rfl (Nat.le_of_ble_eq_true rfl) rfl ?_
  intro p e s m args below meth c C D ls hl
  have hx := C.1
  have hb := C.2.1
  have hown := C.2.2.2.1
  have hts := C.2.2.2.2.1
  unfold f_String_coder at h
  refine x_gst C D (v := 1) zs_COMPACT_STRINGS wf_String_38 d_String_coder_0 ?_
  refine lv_if_eq hx hb d_String_coder_3 rfl (fun z => ?_) (fun z => ?_)
  · replace h := if_t z h
    refine lv_iconst (v := 1) hx hb d_String_coder_13 (by decide) ?_
    exact x_brp C D h d_String_coder_14
  · replace h := if_f z h
    refine lv_aload_n hx hb d_String_coder_6 rfl (lv_at hl 0 rfl) ?_
    refine x_scoder C D hk0 wf_String_15 d_String_coder_7 ?_
    refine lv_goto hx hb d_String_coder_10 rfl ?_
    exact x_brp C D h d_String_coder_14
theorem d_String_isLatin1_0 : decode b_String_isLatin1 0 = .ok (.getstatic 38, 3) := by decide +kernel
theorem d_String_isLatin1_3 : decode b_String_isLatin1 3 = .ok (.ifCond .eq 14, 3) := by decide +kernel
theorem d_String_isLatin1_6 : decode b_String_isLatin1 6 = .ok (.aload_n 0, 1) := by decide +kernel
theorem d_String_isLatin1_7 : decode b_String_isLatin1 7 = .ok (.getfield 15, 3) := by decide +kernel
theorem d_String_isLatin1_10 : decode b_String_isLatin1 10 = .ok (.ifCond .ne 7, 3) := by decide +kernel
theorem d_String_isLatin1_13 : decode b_String_isLatin1 13 = .ok (.iconst 1, 1) := by decide +kernel
theorem d_String_isLatin1_14 : decode b_String_isLatin1 14 = .ok (.goto 4, 3) := by decide +kernel
theorem d_String_isLatin1_17 : decode b_String_isLatin1 17 = .ok (.iconst 0, 1) := by decide +kernel
theorem d_String_isLatin1_18 : decode b_String_isLatin1 18 = .ok (.ireturn, 1) := by decide +kernel
def f_String_isLatin1_17 (S : zSt) : Option Int32 := (gdb 0 (some 0))
def f_String_isLatin1 (k0 : Nat) (S : zSt) : Option Int32 := (if (1 : Int32) = 0 then (f_String_isLatin1_17 S) else (if (0 : Int32) = 0 then (gdb 1 (some 1)) else (f_String_isLatin1_17 S)))
set_option maxHeartbeats 4000000 in
set_option maxRecDepth 100000 in
theorem c_String_isLatin1 (l : Launch) (g : zG) (hD : GD g) (k0 : Nat) (hk0 : k0 < nS) (S : zSt) (u : Int32) (h : f_String_isLatin1 k0 S = some u) : Met l y_String_isLatin1 (mw y_String_isLatin1 b_String_isLatin1 1 (some .boolean)) (rmD 0) (Pw g [.ref (gK g k0)] S) (Qip g S u) 0 0 (gA g) := by
  refine z_go (own := R_String) (lv0 := [(0, .ref (gK g k0))]) hD (by decide) rfl (Nat.le_of_ble_eq_true rfl) rfl ?_
  intro p e s m args below meth c C D ls hl
  have hx := C.1
  have hb := C.2.1
  have hown := C.2.2.2.1
  have hts := C.2.2.2.2.1
  have B17 : ∀ (H : Heap) (locs : List Loc) (ls : Array Slot), f_String_isLatin1_17 S = some u → Dy g s S H locs → lv_has ls 1 [] → W p l e (rmD 0) s m args below meth c H locs 0 0 (MQ below (Qip g S u) args s 0 0 (gA g)) (F0 m 17 ls []) := by
    intro H locs ls h D hl
    unfold f_String_isLatin1_17 at h
    refine lv_iconst (v := 0) hx hb d_String_isLatin1_17 (by decide) ?_
    exact x_zrp C D h d_String_isLatin1_18
  unfold f_String_isLatin1 at h
  refine x_gst C D (v := 1) zs_COMPACT_STRINGS wf_String_38 d_String_isLatin1_0 ?_
  refine lv_if_eq hx hb d_String_isLatin1_3 rfl (fun z => ?_) (fun z => ?_)
  · replace h := if_t z h
    exact B17 _ _ _ h D (lv_sub hl [] rfl)
  · replace h := if_f z h
    refine lv_aload_n hx hb d_String_isLatin1_6 rfl (lv_at hl 0 rfl) ?_
    refine x_scoder C D hk0 wf_String_15 d_String_isLatin1_7 ?_
    refine lv_if_ne hx hb d_String_isLatin1_10 rfl (fun z => ?_) (fun z => ?_)
    · replace h := if_f z h
      exact B17 _ _ _ h D (lv_sub hl [] rfl)
    · replace h := if_t z h
      refine lv_iconst (v := 1) hx hb d_String_isLatin1_13 (by decide) ?_
      refine lv_goto hx hb d_String_isLatin1_14 rfl ?_
      exact x_zrp C D h d_String_isLatin1_18
theorem d_StringLatin1_canEncode_0 : decode b_StringLatin1_canEncode 0 = .ok (.iload_n 0, 1) := by decide +kernel
theorem d_StringLatin1_canEncode_1 : decode b_StringLatin1_canEncode 1 = .ok (.ifCond .lt 14, 3) := by decide +kernel
theorem d_StringLatin1_canEncode_4 : decode b_StringLatin1_canEncode 4 = .ok (.iload_n 0, 1) := by decide +kernel
theorem d_StringLatin1_canEncode_5 : decode b_StringLatin1_canEncode 5 = .ok (.sipush 255, 3) := by decide +kernel
theorem d_StringLatin1_canEncode_8 : decode b_StringLatin1_canEncode 8 = .ok (.if_icmp .gt 7, 3) := by decide +kernel
theorem d_StringLatin1_canEncode_11 : decode b_StringLatin1_canEncode 11 = .ok (.iconst 1, 1) := by decide +kernel
theorem d_StringLatin1_canEncode_12 : decode b_StringLatin1_canEncode 12 = .ok (.goto 4, 3) := by decide +kernel
theorem d_StringLatin1_canEncode_15 : decode b_StringLatin1_canEncode 15 = .ok (.iconst 0, 1) := by decide +kernel
theorem d_StringLatin1_canEncode_16 : decode b_StringLatin1_canEncode 16 = .ok (.ireturn, 1) := by decide +kernel
def f_StringLatin1_canEncode_15 (S : zSt) : Option Int32 := (gdb 0 (some 0))
def f_StringLatin1_canEncode (a0 : Int32) (S : zSt) : Option Int32 := (if a0 < 0 then (f_StringLatin1_canEncode_15 S) else (if 255 < a0 then (f_StringLatin1_canEncode_15 S) else (gdb 1 (some 1))))
set_option maxHeartbeats 4000000 in
set_option maxRecDepth 100000 in
theorem c_StringLatin1_canEncode (l : Launch) (g : zG) (hD : GD g) (a0 : Int32) (S : zSt) (u : Int32) (h : f_StringLatin1_canEncode a0 S = some u) : Met l y_StringLatin1_canEncode (mw y_StringLatin1_canEncode b_StringLatin1_canEncode 1 (some .boolean)) (rmD 0) (Pw g [.int a0] S) (Qip g S u) 0 0 (gA g) := by
  refine z_go (own := R_StringLatin1) (lv0 := [(0, .int a0)]) hD (by decide) rfl (Nat.le_of_ble_eq_true rfl) rfl ?_
  intro p e s m args below meth c C D ls hl
  have hx := C.1
  have hb := C.2.1
  have hown := C.2.2.2.1
  have hts := C.2.2.2.2.1
  have B15 : ∀ (H : Heap) (locs : List Loc) (ls : Array Slot), f_StringLatin1_canEncode_15 S = some u → Dy g s S H locs → lv_has ls 1 [] → W p l e (rmD 0) s m args below meth c H locs 0 0 (MQ below (Qip g S u) args s 0 0 (gA g)) (F0 m 15 ls []) := by
    intro H locs ls h D hl
    unfold f_StringLatin1_canEncode_15 at h
    refine lv_iconst (v := 0) hx hb d_StringLatin1_canEncode_15 (by decide) ?_
    exact x_zrp C D h d_StringLatin1_canEncode_16
  unfold f_StringLatin1_canEncode at h
  refine lv_iload_n hx hb d_StringLatin1_canEncode_0 rfl (lv_at hl 0 rfl) ?_
  refine lv_if_lt hx hb d_StringLatin1_canEncode_1 rfl (fun z => ?_) (fun z => ?_)
  · replace h := if_t z h
    exact B15 _ _ _ h D (lv_sub hl [] rfl)
  · replace h := if_f z h
    refine lv_iload_n hx hb d_StringLatin1_canEncode_4 rfl (lv_at hl 0 rfl) ?_
    refine lv_sipush (v := 255) hx hb d_StringLatin1_canEncode_5 (by decide) ?_
    refine lv_icmp_gt hx hb d_StringLatin1_canEncode_8 rfl (fun z => ?_) (fun z => ?_)
    · replace h := if_t z h
      exact B15 _ _ _ h D (lv_sub hl [] rfl)
    · replace h := if_f z h
      refine lv_iconst (v := 1) hx hb d_StringLatin1_canEncode_11 (by decide) ?_
      refine lv_goto hx hb d_StringLatin1_canEncode_12 rfl ?_
      exact x_zrp C D h d_StringLatin1_canEncode_16
theorem d_StringLatin1_indexOfChar_0 : decode b_StringLatin1_indexOfChar 0 = .ok (.iload_n 1, 1) := by decide +kernel
theorem d_StringLatin1_indexOfChar_1 : decode b_StringLatin1_indexOfChar 1 = .ok (.i2b, 1) := by decide +kernel
theorem d_StringLatin1_indexOfChar_2 : decode b_StringLatin1_indexOfChar 2 = .ok (.istore 4, 2) := by decide +kernel
theorem d_StringLatin1_indexOfChar_4 : decode b_StringLatin1_indexOfChar 4 = .ok (.iload_n 2, 1) := by decide +kernel
theorem d_StringLatin1_indexOfChar_5 : decode b_StringLatin1_indexOfChar 5 = .ok (.istore 5, 2) := by decide +kernel
theorem d_StringLatin1_indexOfChar_7 : decode b_StringLatin1_indexOfChar 7 = .ok (.iload 5, 2) := by decide +kernel
theorem d_StringLatin1_indexOfChar_9 : decode b_StringLatin1_indexOfChar 9 = .ok (.iload_n 3, 1) := by decide +kernel
theorem d_StringLatin1_indexOfChar_10 : decode b_StringLatin1_indexOfChar 10 = .ok (.if_icmp .ge 21, 3) := by decide +kernel
theorem d_StringLatin1_indexOfChar_13 : decode b_StringLatin1_indexOfChar 13 = .ok (.aload_n 0, 1) := by decide +kernel
theorem d_StringLatin1_indexOfChar_14 : decode b_StringLatin1_indexOfChar 14 = .ok (.iload 5, 2) := by decide +kernel
theorem d_StringLatin1_indexOfChar_16 : decode b_StringLatin1_indexOfChar 16 = .ok (.baload, 1) := by decide +kernel
theorem d_StringLatin1_indexOfChar_17 : decode b_StringLatin1_indexOfChar 17 = .ok (.iload 4, 2) := by decide +kernel
theorem d_StringLatin1_indexOfChar_19 : decode b_StringLatin1_indexOfChar 19 = .ok (.if_icmp .ne 6, 3) := by decide +kernel
theorem d_StringLatin1_indexOfChar_22 : decode b_StringLatin1_indexOfChar 22 = .ok (.iload 5, 2) := by decide +kernel
theorem d_StringLatin1_indexOfChar_24 : decode b_StringLatin1_indexOfChar 24 = .ok (.ireturn, 1) := by decide +kernel
theorem d_StringLatin1_indexOfChar_25 : decode b_StringLatin1_indexOfChar 25 = .ok (.iinc 5 1, 3) := by decide +kernel
theorem d_StringLatin1_indexOfChar_28 : decode b_StringLatin1_indexOfChar 28 = .ok (.goto (-21), 3) := by decide +kernel
theorem d_StringLatin1_indexOfChar_31 : decode b_StringLatin1_indexOfChar 31 = .ok (.iconst (-1), 1) := by decide +kernel
theorem d_StringLatin1_indexOfChar_32 : decode b_StringLatin1_indexOfChar 32 = .ok (.ireturn, 1) := by decide +kernel
def f_StringLatin1_indexOfChar_7 : Nat → Nat → Int32 → Int32 → Int32 → zSt → Option Int32
  | 0, _, _, _, _, _ => none
  | n + 1, k0, a3, a4, a5, S => (if a3 ≤ a5 then (some (-1)) else gdi a5 (lenS.getD k0 0) ((if ((bytS.getD k0 []).getD a5.toNatClampNeg 0) = a4 then (some a5) else ((f_StringLatin1_indexOfChar_7 n) k0 a3 a4 (a5 + 1) S))))
def f_StringLatin1_indexOfChar (k0 : Nat) (a1 : Int32) (a2 : Int32) (a3 : Int32) (S : zSt) : Option Int32 := (f_StringLatin1_indexOfChar_7 fu k0 a3 (a1.toInt8.toInt32) a2 S)
set_option maxHeartbeats 4000000 in
set_option maxRecDepth 100000 in
theorem c_StringLatin1_indexOfChar (l : Launch) (g : zG) (hD : GD g) (k0 : Nat) (hk0 : k0 < nS) (a1 : Int32) (a2 : Int32) (a3 : Int32) (S : zSt) (u : Int32) (h : f_StringLatin1_indexOfChar k0 a1 a2 a3 S = some u) : Met l y_StringLatin1_indexOfChar (mw y_StringLatin1_indexOfChar b_StringLatin1_indexOfChar 6 (some .int)) (rmD 0) (Pw g [.ref (gV g k0), .int a1, .int a2, .int a3] S) (Qip g S u) 0 0 (gA g) := by
  refine z_go (own := R_StringLatin1) (lv0 := [(0, .ref (gV g k0)), (1, .int a1), (2, .int a2), (3, .int a3)]) hD (by decide) rfl (Nat.le_of_ble_eq_true rfl) rfl ?_
  intro p e s m args below meth c C D ls hl
  have hx := C.1
  have hb := C.2.1
  have hown := C.2.2.2.1
  have hts := C.2.2.2.2.1
  have L7 : ∀ (n : Nat) (H : Heap) (locs : List Loc) (ls : Array Slot) (k0 : Nat) (hk0 : k0 < nS) (a3 : Int32) (a4 : Int32) (a5 : Int32), f_StringLatin1_indexOfChar_7 n k0 a3 a4 a5 S = some u → Dy g s S H locs → lv_has ls 6 [(0, .ref (gV g k0)), (3, .int a3), (4, .int a4), (5, .int a5)] → W p l e (rmD 0) s m args below meth c H locs 0 0 (MQ below (Qip g S u) args s 0 0 (gA g)) (F0 m 7 ls []) := by
    intro n
    induction n with
    | zero => intro H locs ls k0 hk0 a3 a4 a5 h D hl; rw [f_StringLatin1_indexOfChar_7] at h; cases h
    | succ n hK7 =>
      intro H locs ls k0 hk0 a3 a4 a5 h D hl
      rw [f_StringLatin1_indexOfChar_7] at h
      refine lv_iload hx hb d_StringLatin1_indexOfChar_7 (lv_at hl 3 rfl) ?_
      refine lv_iload_n hx hb d_StringLatin1_indexOfChar_9 rfl (lv_at hl 1 rfl) ?_
      refine lv_icmp_ge hx hb d_StringLatin1_indexOfChar_10 rfl (fun z => ?_) (fun z => ?_)
      · replace h := if_t z h
        refine lv_iconst (v := (-1)) hx hb d_StringLatin1_indexOfChar_31 (by decide) ?_
        exact x_irp C D h d_StringLatin1_indexOfChar_32
      · replace h := if_f z h
        refine lv_aload_n hx hb d_StringLatin1_indexOfChar_13 rfl (lv_at hl 0 rfl) ?_
        refine lv_iload hx hb d_StringLatin1_indexOfChar_14 (lv_at hl 3 rfl) ?_
        refine x_tb C D hk0 d_StringLatin1_indexOfChar_16 h (fun _ h => ?_)
        refine lv_iload hx hb d_StringLatin1_indexOfChar_17 (lv_at hl 2 rfl) ?_
        refine lv_icmp_ne hx hb d_StringLatin1_indexOfChar_19 rfl (fun z => ?_) (fun z => ?_)
        · replace h := if_f z h
          refine lv_iinc (k := 3) (lv' := [(5, .int (a5 + 1)), (0, .ref (gV g k0)), (3, .int a3), (4, .int a4)]) hx hb d_StringLatin1_indexOfChar_25 hl rfl (ii1 _) (by decide) rfl (fun ls hl => ?_)
          refine lv_goto hx hb d_StringLatin1_indexOfChar_28 rfl ?_
          exact hK7 _ _ _ _ hk0 _ _ _ h D (lv_sub hl [1, 2, 3, 0] rfl)
        · replace h := if_t z h
          refine lv_iload hx hb d_StringLatin1_indexOfChar_22 (lv_at hl 3 rfl) ?_
          exact x_irp C D h d_StringLatin1_indexOfChar_24
  unfold f_StringLatin1_indexOfChar at h
  refine lv_iload_n hx hb d_StringLatin1_indexOfChar_0 rfl (lv_at hl 1 rfl) ?_
  refine lv_i2b hx hb d_StringLatin1_indexOfChar_1 rfl ?_
  refine lv_istore (lv' := [(4, .int (a1.toInt8.toInt32)), (0, .ref (gV g k0)), (1, .int a1), (2, .int a2), (3, .int a3)]) hx hb d_StringLatin1_indexOfChar_2 hl (by decide) rfl (fun ls hl => ?_)
  refine lv_iload_n hx hb d_StringLatin1_indexOfChar_4 rfl (lv_at hl 3 rfl) ?_
  refine lv_istore (lv' := [(5, .int a2), (4, .int (a1.toInt8.toInt32)), (0, .ref (gV g k0)), (1, .int a1), (2, .int a2), (3, .int a3)]) hx hb d_StringLatin1_indexOfChar_5 hl (by decide) rfl (fun ls hl => ?_)
  exact L7 _ _ _ _ _ hk0 _ _ _ h D (lv_sub hl [2, 5, 1, 0] rfl)
theorem d_String_length_0 : decode b_String_length 0 = .ok (.aload_n 0, 1) := by decide +kernel
theorem d_String_length_1 : decode b_String_length 1 = .ok (.getfield 9, 3) := by decide +kernel
theorem d_String_length_4 : decode b_String_length 4 = .ok (.arraylength, 1) := by decide +kernel
theorem d_String_length_5 : decode b_String_length 5 = .ok (.aload_n 0, 1) := by decide +kernel
theorem d_String_length_6 : decode b_String_length 6 = .ok (.invokevirtual 335, 3) := by decide +kernel
theorem d_String_length_9 : decode b_String_length 9 = .ok (.ishr, 1) := by decide +kernel
theorem d_String_length_10 : decode b_String_length 10 = .ok (.ireturn, 1) := by decide +kernel
def f_String_length (k0 : Nat) (S : zSt) : Option Int32 := ((f_String_coder k0 S).bind fun u1 => (some ((Int32.ofNat (lenS.getD k0 0)) >>> (u1 &&& 31))))
set_option maxHeartbeats 4000000 in
set_option maxRecDepth 100000 in
theorem c_String_length (l : Launch) (g : zG) (hD : GD g) (k0 : Nat) (hk0 : k0 < nS) (S : zSt) (u : Int32) (h : f_String_length k0 S = some u) : Met l y_String_length (mw y_String_length b_String_length 1 (some .int)) (rmD 1) (Pw g [.ref (gK g k0)] S) (Qip g S u) 0 0 (gA g) := by
  refine z_go (own := R_String) (lv0 := [(0, .ref (gK g k0))]) hD (by decide) rfl (Nat.le_of_ble_eq_true rfl) rfl ?_
  intro p e s m args below meth c C D ls hl
  have hx := C.1
  have hb := C.2.1
  have hown := C.2.2.2.1
  have hts := C.2.2.2.2.1
  unfold f_String_length at h
  refine lv_aload_n hx hb d_String_length_0 rfl (lv_at hl 0 rfl) ?_
  refine x_svalue C D hk0 wf_String_9 d_String_length_1 ?_
  refine x_tlen C D hk0 d_String_length_4 ?_
  refine lv_aload_n hx hb d_String_length_5 rfl (lv_at hl 0 rfl) ?_
  obtain ⟨u1, hu1, h⟩ := bd_some h
  refine x_cip (rest := [.int (Int32.ofNat (lenS.getD k0 0))]) (r_Str C D (c_String_coder l g hD k0 hk0 S u1 hu1) wc_String_coder wm_String_335 wi_String_coder wd_String_coder hk0 rfl rfl rfl hl (Nat.le_of_ble_eq_true rfl) (by decide) d_String_length_6) D (fun H locs D => ?_)
  refine lv_ishr hx hb d_String_length_9 ?_
  exact x_irp C D h d_String_length_10
theorem d_StringLatin1_indexOf_0 : decode b_StringLatin1_indexOf 0 = .ok (.iload_n 1, 1) := by decide +kernel
theorem d_StringLatin1_indexOf_1 : decode b_StringLatin1_indexOf 1 = .ok (.invokestatic 88, 3) := by decide +kernel
theorem d_StringLatin1_indexOf_4 : decode b_StringLatin1_indexOf 4 = .ok (.ifCond .ne 5, 3) := by decide +kernel
theorem d_StringLatin1_indexOf_7 : decode b_StringLatin1_indexOf 7 = .ok (.iconst (-1), 1) := by decide +kernel
theorem d_StringLatin1_indexOf_8 : decode b_StringLatin1_indexOf 8 = .ok (.ireturn, 1) := by decide +kernel
theorem d_StringLatin1_indexOf_9 : decode b_StringLatin1_indexOf 9 = .ok (.iload_n 2, 1) := by decide +kernel
theorem d_StringLatin1_indexOf_10 : decode b_StringLatin1_indexOf 10 = .ok (.iconst 0, 1) := by decide +kernel
theorem d_StringLatin1_indexOf_11 : decode b_StringLatin1_indexOf 11 = .ok (.invokestatic 92, 3) := by decide +kernel
theorem d_StringLatin1_indexOf_14 : decode b_StringLatin1_indexOf 14 = .ok (.istore_n 2, 1) := by decide +kernel
theorem d_StringLatin1_indexOf_15 : decode b_StringLatin1_indexOf 15 = .ok (.iload_n 3, 1) := by decide +kernel
theorem d_StringLatin1_indexOf_16 : decode b_StringLatin1_indexOf 16 = .ok (.aload_n 0, 1) := by decide +kernel
theorem d_StringLatin1_indexOf_17 : decode b_StringLatin1_indexOf 17 = .ok (.arraylength, 1) := by decide +kernel
theorem d_StringLatin1_indexOf_18 : decode b_StringLatin1_indexOf 18 = .ok (.invokestatic 38, 3) := by decide +kernel
theorem d_StringLatin1_indexOf_21 : decode b_StringLatin1_indexOf 21 = .ok (.istore_n 3, 1) := by decide +kernel
theorem d_StringLatin1_indexOf_22 : decode b_StringLatin1_indexOf 22 = .ok (.iload_n 2, 1) := by decide +kernel
theorem d_StringLatin1_indexOf_23 : decode b_StringLatin1_indexOf 23 = .ok (.iload_n 3, 1) := by decide +kernel
theorem d_StringLatin1_indexOf_24 : decode b_StringLatin1_indexOf 24 = .ok (.if_icmp .lt 5, 3) := by decide +kernel
theorem d_StringLatin1_indexOf_27 : decode b_StringLatin1_indexOf 27 = .ok (.iconst (-1), 1) := by decide +kernel
theorem d_StringLatin1_indexOf_28 : decode b_StringLatin1_indexOf 28 = .ok (.ireturn, 1) := by decide +kernel
theorem d_StringLatin1_indexOf_29 : decode b_StringLatin1_indexOf 29 = .ok (.aload_n 0, 1) := by decide +kernel
theorem d_StringLatin1_indexOf_30 : decode b_StringLatin1_indexOf 30 = .ok (.iload_n 1, 1) := by decide +kernel
theorem d_StringLatin1_indexOf_31 : decode b_StringLatin1_indexOf 31 = .ok (.iload_n 2, 1) := by decide +kernel
theorem d_StringLatin1_indexOf_32 : decode b_StringLatin1_indexOf 32 = .ok (.iload_n 3, 1) := by decide +kernel
theorem d_StringLatin1_indexOf_33 : decode b_StringLatin1_indexOf 33 = .ok (.invokestatic 95, 3) := by decide +kernel
theorem d_StringLatin1_indexOf_36 : decode b_StringLatin1_indexOf 36 = .ok (.ireturn, 1) := by decide +kernel
def f_StringLatin1_indexOf (k0 : Nat) (a1 : Int32) (a2 : Int32) (a3 : Int32) (S : zSt) : Option Int32 := ((f_StringLatin1_canEncode a1 S).bind fun u1 => (if u1 = 0 then (some (-1)) else (if (if a2 < 0 then 0 else a2) < (if (Int32.ofNat (lenS.getD k0 0)) < a3 then (Int32.ofNat (lenS.getD k0 0)) else a3) then ((f_StringLatin1_indexOfChar k0 a1 (if a2 < 0 then 0 else a2) (if (Int32.ofNat (lenS.getD k0 0)) < a3 then (Int32.ofNat (lenS.getD k0 0)) else a3) S).bind fun u2 => (some u2)) else (some (-1)))))
set_option maxHeartbeats 4000000 in
set_option maxRecDepth 100000 in
theorem c_StringLatin1_indexOf (l : Launch) (g : zG) (hD : GD g) (k0 : Nat) (hk0 : k0 < nS) (a1 : Int32) (a2 : Int32) (a3 : Int32) (S : zSt) (u : Int32) (h : f_StringLatin1_indexOf k0 a1 a2 a3 S = some u) : Met l y_StringLatin1_indexOf (mw y_StringLatin1_indexOf b_StringLatin1_indexOf 4 (some .int)) (rmD 1) (Pw g [.ref (gV g k0), .int a1, .int a2, .int a3] S) (Qip g S u) 0 0 (gA g) := by
  refine z_go (own := R_StringLatin1) (lv0 := [(0, .ref (gV g k0)), (1, .int a1), (2, .int a2), (3, .int a3)]) hD (by decide) rfl (Nat.le_of_ble_eq_true rfl) rfl ?_
  intro p e s m args below meth c C D ls hl
  have hx := C.1
  have hb := C.2.1
  have hown := C.2.2.2.1
  have hts := C.2.2.2.2.1
  unfold f_StringLatin1_indexOf at h
  refine lv_iload_n hx hb d_StringLatin1_indexOf_0 rfl (lv_at hl 1 rfl) ?_
  obtain ⟨u1, hu1, h⟩ := bd_some h
  refine x_cip (rest := []) (r_S C D (c_StringLatin1_canEncode l g hD a1 S u1 hu1) wc_StringLatin1_canEncode wm_StringLatin1_88 wt_StringLatin1_canEncode wd_StringLatin1_canEncode rfl rfl hl (Nat.le_of_ble_eq_true rfl) (by decide) d_StringLatin1_indexOf_1) D (fun H locs D => ?_)
  refine lv_if_ne hx hb d_StringLatin1_indexOf_4 rfl (fun z => ?_) (fun z => ?_)
  · replace h := if_f z h
    refine lv_iload_n hx hb d_StringLatin1_indexOf_9 rfl (lv_at hl 2 rfl) ?_
    refine lv_iconst (v := 0) hx hb d_StringLatin1_indexOf_10 (by decide) ?_
    refine va_mmax hx hb (C.2.2.1.trans hl.1.symm) hown (hts _ wm_StringLatin1_92) (hts _ wt_Math_max.1) (hts _ wt_Math_max.2) (hts _ wc_Math_max) (Nat.le_of_ble_eq_true rfl) (Nat.le_of_ble_eq_true rfl) (Nat.le_refl _) (Nat.le_refl _) d_StringLatin1_indexOf_11 ?_
    refine lv_istore_n (lv' := [(2, .int (if a2 < 0 then 0 else a2)), (0, .ref (gV g k0)), (1, .int a1), (3, .int a3)]) hx hb d_StringLatin1_indexOf_14 rfl hl (by decide) rfl (fun ls hl => ?_)
    refine lv_iload_n hx hb d_StringLatin1_indexOf_15 rfl (lv_at hl 3 rfl) ?_
    refine lv_aload_n hx hb d_StringLatin1_indexOf_16 rfl (lv_at hl 1 rfl) ?_
    refine x_tlen C D hk0 d_StringLatin1_indexOf_17 ?_
    refine va_mmin hx hb (C.2.2.1.trans hl.1.symm) hown (hts _ wm_StringLatin1_38) (hts _ wt_Math_min.1) (hts _ wt_Math_min.2) (hts _ wc_Math_min) (Nat.le_of_ble_eq_true rfl) (Nat.le_of_ble_eq_true rfl) (Nat.le_refl _) (Nat.le_refl _) d_StringLatin1_indexOf_18 ?_
    refine lv_istore_n (lv' := [(3, .int (if (Int32.ofNat (lenS.getD k0 0)) < a3 then (Int32.ofNat (lenS.getD k0 0)) else a3)), (2, .int (if a2 < 0 then 0 else a2)), (0, .ref (gV g k0)), (1, .int a1)]) hx hb d_StringLatin1_indexOf_21 rfl hl (by decide) rfl (fun ls hl => ?_)
    refine lv_iload_n hx hb d_StringLatin1_indexOf_22 rfl (lv_at hl 1 rfl) ?_
    refine lv_iload_n hx hb d_StringLatin1_indexOf_23 rfl (lv_at hl 0 rfl) ?_
    refine lv_icmp_lt hx hb d_StringLatin1_indexOf_24 rfl (fun z => ?_) (fun z => ?_)
    · replace h := if_t z h
      refine lv_aload_n hx hb d_StringLatin1_indexOf_29 rfl (lv_at hl 2 rfl) ?_
      refine lv_iload_n hx hb d_StringLatin1_indexOf_30 rfl (lv_at hl 3 rfl) ?_
      refine lv_iload_n hx hb d_StringLatin1_indexOf_31 rfl (lv_at hl 1 rfl) ?_
      refine lv_iload_n hx hb d_StringLatin1_indexOf_32 rfl (lv_at hl 0 rfl) ?_
      obtain ⟨u2, hu2, h⟩ := bd_some h
      refine x_cip (rest := []) (r_S C D (c_StringLatin1_indexOfChar l g hD k0 hk0 a1 (if a2 < 0 then 0 else a2) (if (Int32.ofNat (lenS.getD k0 0)) < a3 then (Int32.ofNat (lenS.getD k0 0)) else a3) S u2 hu2) wc_StringLatin1_indexOfChar wm_StringLatin1_95 wt_StringLatin1_indexOfChar wd_StringLatin1_indexOfChar rfl rfl hl (Nat.le_of_ble_eq_true rfl) (by decide) d_StringLatin1_indexOf_33) D (fun H locs D => ?_)
      exact x_irp C D h d_StringLatin1_indexOf_36
    · replace h := if_f z h
      refine lv_iconst (v := (-1)) hx hb d_StringLatin1_indexOf_27 (by decide) ?_
      exact x_irp C D h d_StringLatin1_indexOf_28
  · replace h := if_t z h
    refine lv_iconst (v := (-1)) hx hb d_StringLatin1_indexOf_7 (by decide) ?_
    exact x_irp C D h d_StringLatin1_indexOf_8
theorem d_String_indexOf2_0 : decode b_String_indexOf2 0 = .ok (.aload_n 0, 1) := by decide +kernel
theorem d_String_indexOf2_1 : decode b_String_indexOf2 1 = .ok (.invokevirtual 492, 3) := by decide +kernel
theorem d_String_indexOf2_4 : decode b_String_indexOf2 4 = .ok (.ifCond .eq 19, 3) := by decide +kernel
theorem d_String_indexOf2_7 : decode b_String_indexOf2 7 = .ok (.aload_n 0, 1) := by decide +kernel
theorem d_String_indexOf2_8 : decode b_String_indexOf2 8 = .ok (.getfield 9, 3) := by decide +kernel
theorem d_String_indexOf2_11 : decode b_String_indexOf2 11 = .ok (.iload_n 1, 1) := by decide +kernel
theorem d_String_indexOf2_12 : decode b_String_indexOf2 12 = .ok (.iload_n 2, 1) := by decide +kernel
theorem d_String_indexOf2_13 : decode b_String_indexOf2 13 = .ok (.aload_n 0, 1) := by decide +kernel
theorem d_String_indexOf2_14 : decode b_String_indexOf2 14 = .ok (.invokevirtual 505, 3) := by decide +kernel
theorem d_String_indexOf2_17 : decode b_String_indexOf2 17 = .ok (.invokestatic 637, 3) := by decide +kernel
theorem d_String_indexOf2_20 : decode b_String_indexOf2 20 = .ok (.goto 16, 3) := by decide +kernel
theorem d_String_indexOf2_23 : decode b_String_indexOf2 23 = .ok (.aload_n 0, 1) := by decide +kernel
theorem d_String_indexOf2_24 : decode b_String_indexOf2 24 = .ok (.getfield 9, 3) := by decide +kernel
theorem d_String_indexOf2_27 : decode b_String_indexOf2 27 = .ok (.iload_n 1, 1) := by decide +kernel
theorem d_String_indexOf2_28 : decode b_String_indexOf2 28 = .ok (.iload_n 2, 1) := by decide +kernel
theorem d_String_indexOf2_29 : decode b_String_indexOf2 29 = .ok (.aload_n 0, 1) := by decide +kernel
theorem d_String_indexOf2_30 : decode b_String_indexOf2 30 = .ok (.invokevirtual 505, 3) := by decide +kernel
theorem d_String_indexOf2_33 : decode b_String_indexOf2 33 = .ok (.invokestatic 640, 3) := by decide +kernel
theorem d_String_indexOf2_36 : decode b_String_indexOf2 36 = .ok (.ireturn, 1) := by decide +kernel
def f_String_indexOf2 (k0 : Nat) (a1 : Int32) (a2 : Int32) (S : zSt) : Option Int32 := ((f_String_isLatin1 k0 S).bind fun u1 => (if u1 = 0 then ((f_String_length k0 S).bind fun u2 => none) else ((f_String_length k0 S).bind fun u3 => ((f_StringLatin1_indexOf k0 a1 a2 u3 S).bind fun u4 => (some u4)))))
set_option maxHeartbeats 4000000 in
set_option maxRecDepth 100000 in
theorem c_String_indexOf2 (l : Launch) (g : zG) (hD : GD g) (k0 : Nat) (hk0 : k0 < nS) (a1 : Int32) (a2 : Int32) (S : zSt) (u : Int32) (h : f_String_indexOf2 k0 a1 a2 S = some u) : Met l y_String_indexOf2 (mw y_String_indexOf2 b_String_indexOf2 3 (some .int)) (rmD 2) (Pw g [.ref (gK g k0), .int a1, .int a2] S) (Qip g S u) 0 0 (gA g) := by
  refine z_go (own := R_String) (lv0 := [(0, .ref (gK g k0)), (1, .int a1), (2, .int a2)]) hD (by decide) rfl (Nat.le_of_ble_eq_true rfl) rfl ?_
  intro p e s m args below meth c C D ls hl
  have hx := C.1
  have hb := C.2.1
  have hown := C.2.2.2.1
  have hts := C.2.2.2.2.1
  unfold f_String_indexOf2 at h
  refine lv_aload_n hx hb d_String_indexOf2_0 rfl (lv_at hl 0 rfl) ?_
  obtain ⟨u1, hu1, h⟩ := bd_some h
  refine x_cip (rest := []) (r_Str C D (c_String_isLatin1 l g hD k0 hk0 S u1 hu1) wc_String_isLatin1 wm_String_492 wi_String_isLatin1 wd_String_isLatin1 hk0 rfl rfl rfl hl (Nat.le_of_ble_eq_true rfl) (by decide) d_String_indexOf2_1) D (fun H locs D => ?_)
  refine lv_if_eq hx hb d_String_indexOf2_4 rfl (fun z => ?_) (fun z => ?_)
  · replace h := if_t z h
    refine lv_aload_n hx hb d_String_indexOf2_23 rfl (lv_at hl 0 rfl) ?_
    refine x_svalue C D hk0 wf_String_9 d_String_indexOf2_24 ?_
    refine lv_iload_n hx hb d_String_indexOf2_27 rfl (lv_at hl 1 rfl) ?_
    refine lv_iload_n hx hb d_String_indexOf2_28 rfl (lv_at hl 2 rfl) ?_
    refine lv_aload_n hx hb d_String_indexOf2_29 rfl (lv_at hl 0 rfl) ?_
    obtain ⟨u2, hu2, h⟩ := bd_some h
    refine x_cip (rest := [.int a2, .int a1, .ref (gV g k0)]) (r_Str C D (c_String_length l g hD k0 hk0 S u2 hu2) wc_String_length wm_String_505 wi_String_length wd_String_length hk0 rfl rfl rfl hl (Nat.le_of_ble_eq_true rfl) (by decide) d_String_indexOf2_30) D (fun H locs D => ?_)
    cases h
  · replace h := if_f z h
    refine lv_aload_n hx hb d_String_indexOf2_7 rfl (lv_at hl 0 rfl) ?_
    refine x_svalue C D hk0 wf_String_9 d_String_indexOf2_8 ?_
    refine lv_iload_n hx hb d_String_indexOf2_11 rfl (lv_at hl 1 rfl) ?_
    refine lv_iload_n hx hb d_String_indexOf2_12 rfl (lv_at hl 2 rfl) ?_
    refine lv_aload_n hx hb d_String_indexOf2_13 rfl (lv_at hl 0 rfl) ?_
    obtain ⟨u3, hu3, h⟩ := bd_some h
    refine x_cip (rest := [.int a2, .int a1, .ref (gV g k0)]) (r_Str C D (c_String_length l g hD k0 hk0 S u3 hu3) wc_String_length wm_String_505 wi_String_length wd_String_length hk0 rfl rfl rfl hl (Nat.le_of_ble_eq_true rfl) (by decide) d_String_indexOf2_14) D (fun H locs D => ?_)
    obtain ⟨u4, hu4, h⟩ := bd_some h
    refine x_cip (rest := []) (r_S C D (c_StringLatin1_indexOf l g hD k0 hk0 a1 a2 u3 S u4 hu4) wc_StringLatin1_indexOf wm_String_637 wt_StringLatin1_indexOf wd_StringLatin1_indexOf rfl rfl hl (Nat.le_of_ble_eq_true rfl) (by decide) d_String_indexOf2_17) D (fun H locs D => ?_)
    refine lv_goto hx hb d_String_indexOf2_20 rfl ?_
    exact x_irp C D h d_String_indexOf2_36
theorem d_StringLatin1_charAt_0 : decode b_StringLatin1_charAt 0 = .ok (.iload_n 1, 1) := by decide +kernel
theorem d_StringLatin1_charAt_1 : decode b_StringLatin1_charAt 1 = .ok (.aload_n 0, 1) := by decide +kernel
theorem d_StringLatin1_charAt_2 : decode b_StringLatin1_charAt 2 = .ok (.arraylength, 1) := by decide +kernel
theorem d_StringLatin1_charAt_3 : decode b_StringLatin1_charAt 3 = .ok (.invokestatic 9, 3) := by decide +kernel
theorem d_StringLatin1_charAt_6 : decode b_StringLatin1_charAt 6 = .ok (.aload_n 0, 1) := by decide +kernel
theorem d_StringLatin1_charAt_7 : decode b_StringLatin1_charAt 7 = .ok (.iload_n 1, 1) := by decide +kernel
theorem d_StringLatin1_charAt_8 : decode b_StringLatin1_charAt 8 = .ok (.baload, 1) := by decide +kernel
theorem d_StringLatin1_charAt_9 : decode b_StringLatin1_charAt 9 = .ok (.sipush 255, 3) := by decide +kernel
theorem d_StringLatin1_charAt_12 : decode b_StringLatin1_charAt 12 = .ok (.iand, 1) := by decide +kernel
theorem d_StringLatin1_charAt_13 : decode b_StringLatin1_charAt 13 = .ok (.i2c, 1) := by decide +kernel
theorem d_StringLatin1_charAt_14 : decode b_StringLatin1_charAt 14 = .ok (.ireturn, 1) := by decide +kernel
def f_StringLatin1_charAt (k0 : Nat) (a1 : Int32) (S : zSt) : Option Int32 := ((f_String_checkIndex a1 (Int32.ofNat (lenS.getD k0 0)) S).bind fun u1 => gdi a1 (lenS.getD k0 0) ((gdc (((((bytS.getD k0 []).getD a1.toNatClampNeg 0) &&& 255).toUInt32 % 65536).toInt32) (some (((((bytS.getD k0 []).getD a1.toNatClampNeg 0) &&& 255).toUInt32 % 65536).toInt32)))))
set_option maxHeartbeats 4000000 in
set_option maxRecDepth 100000 in
theorem c_StringLatin1_charAt (l : Launch) (g : zG) (hD : GD g) (k0 : Nat) (hk0 : k0 < nS) (a1 : Int32) (S : zSt) (u : Int32) (h : f_StringLatin1_charAt k0 a1 S = some u) : Met l y_StringLatin1_charAt (mw y_StringLatin1_charAt b_StringLatin1_charAt 2 (some .char)) (rmD 2) (Pw g [.ref (gV g k0), .int a1] S) (Qip g S u) 0 0 (gA g) := by
  refine z_go (own := R_StringLatin1) (lv0 := [(0, .ref (gV g k0)), (1, .int a1)]) hD (by decide) rfl (Nat.le_of_ble_eq_true rfl) rfl ?_
  intro p e s m args below meth c C D ls hl
  have hx := C.1
  have hb := C.2.1
  have hown := C.2.2.2.1
  have hts := C.2.2.2.2.1
  unfold f_StringLatin1_charAt at h
  refine lv_iload_n hx hb d_StringLatin1_charAt_0 rfl (lv_at hl 1 rfl) ?_
  refine lv_aload_n hx hb d_StringLatin1_charAt_1 rfl (lv_at hl 0 rfl) ?_
  refine x_tlen C D hk0 d_StringLatin1_charAt_2 ?_
  obtain ⟨u1, hu1, h⟩ := bd_some h
  refine x_cvs (rest := []) (r_S C D (c_String_checkIndex l g hD a1 (Int32.ofNat (lenS.getD k0 0)) S u1 hu1) wc_String_checkIndex wm_StringLatin1_9 wt_String_checkIndex wd_String_checkIndex rfl rfl hl (Nat.le_of_ble_eq_true rfl) (by decide) d_StringLatin1_charAt_3) D (fun H locs D => ?_)
  refine lv_aload_n hx hb d_StringLatin1_charAt_6 rfl (lv_at hl 0 rfl) ?_
  refine lv_iload_n hx hb d_StringLatin1_charAt_7 rfl (lv_at hl 1 rfl) ?_
  refine x_tb C D hk0 d_StringLatin1_charAt_8 h (fun _ h => ?_)
  refine lv_sipush (v := 255) hx hb d_StringLatin1_charAt_9 (by decide) ?_
  refine lv_iand hx hb d_StringLatin1_charAt_12 ?_
  refine lv_i2c hx hb d_StringLatin1_charAt_13 rfl ?_
  exact x_crp C D h d_StringLatin1_charAt_14
theorem d_String_charAt_0 : decode b_String_charAt 0 = .ok (.aload_n 0, 1) := by decide +kernel
theorem d_String_charAt_1 : decode b_String_charAt 1 = .ok (.invokevirtual 492, 3) := by decide +kernel
theorem d_String_charAt_4 : decode b_String_charAt 4 = .ok (.ifCond .eq 12, 3) := by decide +kernel
theorem d_String_charAt_7 : decode b_String_charAt 7 = .ok (.aload_n 0, 1) := by decide +kernel
theorem d_String_charAt_8 : decode b_String_charAt 8 = .ok (.getfield 9, 3) := by decide +kernel
theorem d_String_charAt_11 : decode b_String_charAt 11 = .ok (.iload_n 1, 1) := by decide +kernel
theorem d_String_charAt_12 : decode b_String_charAt 12 = .ok (.invokestatic 495, 3) := by decide +kernel
theorem d_String_charAt_15 : decode b_String_charAt 15 = .ok (.ireturn, 1) := by decide +kernel
theorem d_String_charAt_16 : decode b_String_charAt 16 = .ok (.aload_n 0, 1) := by decide +kernel
theorem d_String_charAt_17 : decode b_String_charAt 17 = .ok (.getfield 9, 3) := by decide +kernel
theorem d_String_charAt_20 : decode b_String_charAt 20 = .ok (.iload_n 1, 1) := by decide +kernel
theorem d_String_charAt_21 : decode b_String_charAt 21 = .ok (.invokestatic 498, 3) := by decide +kernel
theorem d_String_charAt_24 : decode b_String_charAt 24 = .ok (.ireturn, 1) := by decide +kernel
def f_String_charAt (k0 : Nat) (a1 : Int32) (S : zSt) : Option Int32 := ((f_String_isLatin1 k0 S).bind fun u1 => (if u1 = 0 then none else ((f_StringLatin1_charAt k0 a1 S).bind fun u2 => (gdc u2 (some u2)))))
set_option maxHeartbeats 4000000 in
set_option maxRecDepth 100000 in
theorem c_String_charAt (l : Launch) (g : zG) (hD : GD g) (k0 : Nat) (hk0 : k0 < nS) (a1 : Int32) (S : zSt) (u : Int32) (h : f_String_charAt k0 a1 S = some u) : Met l y_String_charAt (mw y_String_charAt b_String_charAt 2 (some .char)) (rmD 3) (Pw g [.ref (gK g k0), .int a1] S) (Qip g S u) 0 0 (gA g) := by
  refine z_go (own := R_String) (lv0 := [(0, .ref (gK g k0)), (1, .int a1)]) hD (by decide) rfl (Nat.le_of_ble_eq_true rfl) rfl ?_
  intro p e s m args below meth c C D ls hl
  have hx := C.1
  have hb := C.2.1
  have hown := C.2.2.2.1
  have hts := C.2.2.2.2.1
  unfold f_String_charAt at h
  refine lv_aload_n hx hb d_String_charAt_0 rfl (lv_at hl 0 rfl) ?_
  obtain ⟨u1, hu1, h⟩ := bd_some h
  refine x_cip (rest := []) (r_Str C D (c_String_isLatin1 l g hD k0 hk0 S u1 hu1) wc_String_isLatin1 wm_String_492 wi_String_isLatin1 wd_String_isLatin1 hk0 rfl rfl rfl hl (Nat.le_of_ble_eq_true rfl) (by decide) d_String_charAt_1) D (fun H locs D => ?_)
  refine lv_if_eq hx hb d_String_charAt_4 rfl (fun z => ?_) (fun z => ?_)
  · replace h := if_t z h
    refine lv_aload_n hx hb d_String_charAt_16 rfl (lv_at hl 0 rfl) ?_
    refine x_svalue C D hk0 wf_String_9 d_String_charAt_17 ?_
    refine lv_iload_n hx hb d_String_charAt_20 rfl (lv_at hl 1 rfl) ?_
    cases h
  · replace h := if_f z h
    refine lv_aload_n hx hb d_String_charAt_7 rfl (lv_at hl 0 rfl) ?_
    refine x_svalue C D hk0 wf_String_9 d_String_charAt_8 ?_
    refine lv_iload_n hx hb d_String_charAt_11 rfl (lv_at hl 1 rfl) ?_
    obtain ⟨u2, hu2, h⟩ := bd_some h
    refine x_cip (rest := []) (r_S C D (c_StringLatin1_charAt l g hD k0 hk0 a1 S u2 hu2) wc_StringLatin1_charAt wm_String_495 wt_StringLatin1_charAt wd_StringLatin1_charAt rfl rfl hl (Nat.le_of_ble_eq_true rfl) (by decide) d_String_charAt_12) D (fun H locs D => ?_)
    exact x_crp C D h d_String_charAt_15
theorem d_String_indexOf_0 : decode b_String_indexOf 0 = .ok (.aload_n 0, 1) := by decide +kernel
theorem d_String_indexOf_1 : decode b_String_indexOf 1 = .ok (.iload_n 1, 1) := by decide +kernel
theorem d_String_indexOf_2 : decode b_String_indexOf 2 = .ok (.iconst 0, 1) := by decide +kernel
theorem d_String_indexOf_3 : decode b_String_indexOf 3 = .ok (.invokevirtual 633, 3) := by decide +kernel
theorem d_String_indexOf_6 : decode b_String_indexOf 6 = .ok (.ireturn, 1) := by decide +kernel
def f_String_indexOf (k0 : Nat) (a1 : Int32) (S : zSt) : Option Int32 := ((f_String_indexOf2 k0 a1 0 S).bind fun u1 => (some u1))
set_option maxHeartbeats 4000000 in
set_option maxRecDepth 100000 in
theorem c_String_indexOf (l : Launch) (g : zG) (hD : GD g) (k0 : Nat) (hk0 : k0 < nS) (a1 : Int32) (S : zSt) (u : Int32) (h : f_String_indexOf k0 a1 S = some u) : Met l y_String_indexOf (mw y_String_indexOf b_String_indexOf 2 (some .int)) (rmD 3) (Pw g [.ref (gK g k0), .int a1] S) (Qip g S u) 0 0 (gA g) := by
  refine z_go (own := R_String) (lv0 := [(0, .ref (gK g k0)), (1, .int a1)]) hD (by decide) rfl (Nat.le_of_ble_eq_true rfl) rfl ?_
  intro p e s m args below meth c C D ls hl
  have hx := C.1
  have hb := C.2.1
  have hown := C.2.2.2.1
  have hts := C.2.2.2.2.1
  unfold f_String_indexOf at h
  refine lv_aload_n hx hb d_String_indexOf_0 rfl (lv_at hl 0 rfl) ?_
  refine lv_iload_n hx hb d_String_indexOf_1 rfl (lv_at hl 1 rfl) ?_
  refine lv_iconst (v := 0) hx hb d_String_indexOf_2 (by decide) ?_
  obtain ⟨u1, hu1, h⟩ := bd_some h
  refine x_cip (rest := []) (r_Str C D (c_String_indexOf2 l g hD k0 hk0 a1 0 S u1 hu1) wc_String_indexOf2 wm_String_633 wi_String_indexOf2 wd_String_indexOf2 hk0 rfl rfl rfl hl (Nat.le_of_ble_eq_true rfl) (by decide) d_String_indexOf_3) D (fun H locs D => ?_)
  exact x_irp C D h d_String_indexOf_6
