theorem d_Chars_isSmall_0 : decode b_Chars_isSmall 0 = .ok (.iload_n 0, 1) := by decide +kernel
theorem d_Chars_isSmall_1 : decode b_Chars_isSmall 1 = .ok (.bipush 97, 2) := by decide +kernel
theorem d_Chars_isSmall_3 : decode b_Chars_isSmall 3 = .ok (.if_icmp .lt 13, 3) := by decide +kernel
theorem d_Chars_isSmall_6 : decode b_Chars_isSmall 6 = .ok (.iload_n 0, 1) := by decide +kernel
theorem d_Chars_isSmall_7 : decode b_Chars_isSmall 7 = .ok (.bipush 122, 2) := by decide +kernel
theorem d_Chars_isSmall_9 : decode b_Chars_isSmall 9 = .ok (.if_icmp .gt 7, 3) := by decide +kernel
theorem d_Chars_isSmall_12 : decode b_Chars_isSmall 12 = .ok (.iconst 1, 1) := by decide +kernel
theorem d_Chars_isSmall_13 : decode b_Chars_isSmall 13 = .ok (.goto 4, 3) := by decide +kernel
theorem d_Chars_isSmall_16 : decode b_Chars_isSmall 16 = .ok (.iconst 0, 1) := by decide +kernel
theorem d_Chars_isSmall_17 : decode b_Chars_isSmall 17 = .ok (.ireturn, 1) := by decide +kernel
def f_Chars_isSmall_16 (S : zSt) : Option Int32 := (gdb 0 (some 0))
def f_Chars_isSmall (a0 : Int32) (S : zSt) : Option Int32 := (if a0 < 97 then (f_Chars_isSmall_16 S) else (if 122 < a0 then (f_Chars_isSmall_16 S) else (gdb 1 (some 1))))
set_option maxHeartbeats 4000000 in
set_option maxRecDepth 100000 in
theorem c_Chars_isSmall (l : Launch) (g : zG) (hD : GD g) (a0 : Int32) (S : zSt) (u : Int32) (h : f_Chars_isSmall a0 S = some u) : Met l y_Chars_isSmall (mw y_Chars_isSmall b_Chars_isSmall 1 (some .boolean)) (rmD 0) (Pw g [.int a0] S) (Qip g S u) 0 0 (gA g) := by
  refine z_go (own := R_Chars) (lv0 := [(0, .int a0)]) hD (by decide) rfl (Nat.le_of_ble_eq_true rfl) rfl ?_
  intro p e s m args below meth c C D ls hl
  have hx := C.1
  have hb := C.2.1
  have hown := C.2.2.2.1
  have hts := C.2.2.2.2.1
  have B16 : ∀ (H : Heap) (locs : List Loc) (ls : Array Slot), f_Chars_isSmall_16 S = some u → Dy g s S H locs → lv_has ls 1 [] → W p l e (rmD 0) s m args below meth c H locs 0 0 (MQ below (Qip g S u) args s 0 0 (gA g)) (F0 m 16 ls []) := by
    intro H locs ls h D hl
    unfold f_Chars_isSmall_16 at h
    refine lv_iconst (v := 0) hx hb d_Chars_isSmall_16 (by decide) ?_
    exact x_zrp C D h d_Chars_isSmall_17
  unfold f_Chars_isSmall at h
  refine lv_iload_n hx hb d_Chars_isSmall_0 rfl (lv_at hl 0 rfl) ?_
  refine lv_bipush (v := 97) hx hb d_Chars_isSmall_1 (by decide) ?_
  refine lv_icmp_lt hx hb d_Chars_isSmall_3 rfl (fun z => ?_) (fun z => ?_)
  · replace h := if_t z h
    exact B16 _ _ _ h D (lv_sub hl [] rfl)
  · replace h := if_f z h
    refine lv_iload_n hx hb d_Chars_isSmall_6 rfl (lv_at hl 0 rfl) ?_
    refine lv_bipush (v := 122) hx hb d_Chars_isSmall_7 (by decide) ?_
    refine lv_icmp_gt hx hb d_Chars_isSmall_9 rfl (fun z => ?_) (fun z => ?_)
    · replace h := if_t z h
      exact B16 _ _ _ h D (lv_sub hl [] rfl)
    · replace h := if_f z h
      refine lv_iconst (v := 1) hx hb d_Chars_isSmall_12 (by decide) ?_
      refine lv_goto hx hb d_Chars_isSmall_13 rfl ?_
      exact x_zrp C D h d_Chars_isSmall_17
theorem d_Chars_isDigit_0 : decode b_Chars_isDigit 0 = .ok (.iload_n 0, 1) := by decide +kernel
theorem d_Chars_isDigit_1 : decode b_Chars_isDigit 1 = .ok (.bipush 48, 2) := by decide +kernel
theorem d_Chars_isDigit_3 : decode b_Chars_isDigit 3 = .ok (.if_icmp .lt 13, 3) := by decide +kernel
theorem d_Chars_isDigit_6 : decode b_Chars_isDigit 6 = .ok (.iload_n 0, 1) := by decide +kernel
theorem d_Chars_isDigit_7 : decode b_Chars_isDigit 7 = .ok (.bipush 57, 2) := by decide +kernel
theorem d_Chars_isDigit_9 : decode b_Chars_isDigit 9 = .ok (.if_icmp .gt 7, 3) := by decide +kernel
theorem d_Chars_isDigit_12 : decode b_Chars_isDigit 12 = .ok (.iconst 1, 1) := by decide +kernel
theorem d_Chars_isDigit_13 : decode b_Chars_isDigit 13 = .ok (.goto 4, 3) := by decide +kernel
theorem d_Chars_isDigit_16 : decode b_Chars_isDigit 16 = .ok (.iconst 0, 1) := by decide +kernel
theorem d_Chars_isDigit_17 : decode b_Chars_isDigit 17 = .ok (.ireturn, 1) := by decide +kernel
def f_Chars_isDigit_16 (S : zSt) : Option Int32 := (gdb 0 (some 0))
def f_Chars_isDigit (a0 : Int32) (S : zSt) : Option Int32 := (if a0 < 48 then (f_Chars_isDigit_16 S) else (if 57 < a0 then (f_Chars_isDigit_16 S) else (gdb 1 (some 1))))
set_option maxHeartbeats 4000000 in
set_option maxRecDepth 100000 in
theorem c_Chars_isDigit (l : Launch) (g : zG) (hD : GD g) (a0 : Int32) (S : zSt) (u : Int32) (h : f_Chars_isDigit a0 S = some u) : Met l y_Chars_isDigit (mw y_Chars_isDigit b_Chars_isDigit 1 (some .boolean)) (rmD 0) (Pw g [.int a0] S) (Qip g S u) 0 0 (gA g) := by
  refine z_go (own := R_Chars) (lv0 := [(0, .int a0)]) hD (by decide) rfl (Nat.le_of_ble_eq_true rfl) rfl ?_
  intro p e s m args below meth c C D ls hl
  have hx := C.1
  have hb := C.2.1
  have hown := C.2.2.2.1
  have hts := C.2.2.2.2.1
  have B16 : ∀ (H : Heap) (locs : List Loc) (ls : Array Slot), f_Chars_isDigit_16 S = some u → Dy g s S H locs → lv_has ls 1 [] → W p l e (rmD 0) s m args below meth c H locs 0 0 (MQ below (Qip g S u) args s 0 0 (gA g)) (F0 m 16 ls []) := by
    intro H locs ls h D hl
    unfold f_Chars_isDigit_16 at h
    refine lv_iconst (v := 0) hx hb d_Chars_isDigit_16 (by decide) ?_
    exact x_zrp C D h d_Chars_isDigit_17
  unfold f_Chars_isDigit at h
  refine lv_iload_n hx hb d_Chars_isDigit_0 rfl (lv_at hl 0 rfl) ?_
  refine lv_bipush (v := 48) hx hb d_Chars_isDigit_1 (by decide) ?_
  refine lv_icmp_lt hx hb d_Chars_isDigit_3 rfl (fun z => ?_) (fun z => ?_)
  · replace h := if_t z h
    exact B16 _ _ _ h D (lv_sub hl [] rfl)
  · replace h := if_f z h
    refine lv_iload_n hx hb d_Chars_isDigit_6 rfl (lv_at hl 0 rfl) ?_
    refine lv_bipush (v := 57) hx hb d_Chars_isDigit_7 (by decide) ?_
    refine lv_icmp_gt hx hb d_Chars_isDigit_9 rfl (fun z => ?_) (fun z => ?_)
    · replace h := if_t z h
      exact B16 _ _ _ h D (lv_sub hl [] rfl)
    · replace h := if_f z h
      refine lv_iconst (v := 1) hx hb d_Chars_isDigit_12 (by decide) ?_
      refine lv_goto hx hb d_Chars_isDigit_13 rfl ?_
      exact x_zrp C D h d_Chars_isDigit_17
theorem d_Chars_isLetterOrDigit_0 : decode b_Chars_isLetterOrDigit 0 = .ok (.iload_n 0, 1) := by decide +kernel
theorem d_Chars_isLetterOrDigit_1 : decode b_Chars_isLetterOrDigit 1 = .ok (.bipush 97, 2) := by decide +kernel
theorem d_Chars_isLetterOrDigit_3 : decode b_Chars_isLetterOrDigit 3 = .ok (.if_icmp .lt 9, 3) := by decide +kernel
theorem d_Chars_isLetterOrDigit_6 : decode b_Chars_isLetterOrDigit 6 = .ok (.iload_n 0, 1) := by decide +kernel
theorem d_Chars_isLetterOrDigit_7 : decode b_Chars_isLetterOrDigit 7 = .ok (.bipush 122, 2) := by decide +kernel
theorem d_Chars_isLetterOrDigit_9 : decode b_Chars_isLetterOrDigit 9 = .ok (.if_icmp .le 27, 3) := by decide +kernel
theorem d_Chars_isLetterOrDigit_12 : decode b_Chars_isLetterOrDigit 12 = .ok (.iload_n 0, 1) := by decide +kernel
theorem d_Chars_isLetterOrDigit_13 : decode b_Chars_isLetterOrDigit 13 = .ok (.bipush 65, 2) := by decide +kernel
theorem d_Chars_isLetterOrDigit_15 : decode b_Chars_isLetterOrDigit 15 = .ok (.if_icmp .lt 9, 3) := by decide +kernel
theorem d_Chars_isLetterOrDigit_18 : decode b_Chars_isLetterOrDigit 18 = .ok (.iload_n 0, 1) := by decide +kernel
theorem d_Chars_isLetterOrDigit_19 : decode b_Chars_isLetterOrDigit 19 = .ok (.bipush 90, 2) := by decide +kernel
theorem d_Chars_isLetterOrDigit_21 : decode b_Chars_isLetterOrDigit 21 = .ok (.if_icmp .le 15, 3) := by decide +kernel
theorem d_Chars_isLetterOrDigit_24 : decode b_Chars_isLetterOrDigit 24 = .ok (.iload_n 0, 1) := by decide +kernel
theorem d_Chars_isLetterOrDigit_25 : decode b_Chars_isLetterOrDigit 25 = .ok (.bipush 48, 2) := by decide +kernel
theorem d_Chars_isLetterOrDigit_27 : decode b_Chars_isLetterOrDigit 27 = .ok (.if_icmp .lt 13, 3) := by decide +kernel
theorem d_Chars_isLetterOrDigit_30 : decode b_Chars_isLetterOrDigit 30 = .ok (.iload_n 0, 1) := by decide +kernel
theorem d_Chars_isLetterOrDigit_31 : decode b_Chars_isLetterOrDigit 31 = .ok (.bipush 57, 2) := by decide +kernel
theorem d_Chars_isLetterOrDigit_33 : decode b_Chars_isLetterOrDigit 33 = .ok (.if_icmp .gt 7, 3) := by decide +kernel
theorem d_Chars_isLetterOrDigit_36 : decode b_Chars_isLetterOrDigit 36 = .ok (.iconst 1, 1) := by decide +kernel
theorem d_Chars_isLetterOrDigit_37 : decode b_Chars_isLetterOrDigit 37 = .ok (.goto 4, 3) := by decide +kernel
theorem d_Chars_isLetterOrDigit_40 : decode b_Chars_isLetterOrDigit 40 = .ok (.iconst 0, 1) := by decide +kernel
theorem d_Chars_isLetterOrDigit_41 : decode b_Chars_isLetterOrDigit 41 = .ok (.ireturn, 1) := by decide +kernel
def f_Chars_isLetterOrDigit_40 (S : zSt) : Option Int32 := (gdb 0 (some 0))
def f_Chars_isLetterOrDigit_36 (S : zSt) : Option Int32 := (gdb 1 (some 1))
def f_Chars_isLetterOrDigit_24 (a0 : Int32) (S : zSt) : Option Int32 := (if a0 < 48 then (f_Chars_isLetterOrDigit_40 S) else (if 57 < a0 then (f_Chars_isLetterOrDigit_40 S) else (f_Chars_isLetterOrDigit_36 S)))
def f_Chars_isLetterOrDigit_12 (a0 : Int32) (S : zSt) : Option Int32 := (if a0 < 65 then (f_Chars_isLetterOrDigit_24 a0 S) else (if a0 ≤ 90 then (f_Chars_isLetterOrDigit_36 S) else (f_Chars_isLetterOrDigit_24 a0 S)))
def f_Chars_isLetterOrDigit (a0 : Int32) (S : zSt) : Option Int32 := (if a0 < 97 then (f_Chars_isLetterOrDigit_12 a0 S) else (if a0 ≤ 122 then (f_Chars_isLetterOrDigit_36 S) else (f_Chars_isLetterOrDigit_12 a0 S)))
set_option maxHeartbeats 4000000 in
set_option maxRecDepth 100000 in
theorem c_Chars_isLetterOrDigit (l : Launch) (g : zG) (hD : GD g) (a0 : Int32) (S : zSt) (u : Int32) (h : f_Chars_isLetterOrDigit a0 S = some u) : Met l y_Chars_isLetterOrDigit (mw y_Chars_isLetterOrDigit b_Chars_isLetterOrDigit 1 (some .boolean)) (rmD 0) (Pw g [.int a0] S) (Qip g S u) 0 0 (gA g) := by
  refine z_go (own := R_Chars) (lv0 := [(0, .int a0)]) hD (by decide) rfl (Nat.le_of_ble_eq_true rfl) rfl ?_
  intro p e s m args below meth c C D ls hl
  have hx := C.1
  have hb := C.2.1
  have hown := C.2.2.2.1
  have hts := C.2.2.2.2.1
  have B40 : ∀ (H : Heap) (locs : List Loc) (ls : Array Slot), f_Chars_isLetterOrDigit_40 S = some u → Dy g s S H locs → lv_has ls 1 [] → W p l e (rmD 0) s m args below meth c H locs 0 0 (MQ below (Qip g S u) args s 0 0 (gA g)) (F0 m 40 ls []) := by
    intro H locs ls h D hl
    unfold f_Chars_isLetterOrDigit_40 at h
    refine lv_iconst (v := 0) hx hb d_Chars_isLetterOrDigit_40 (by decide) ?_
    exact x_zrp C D h d_Chars_isLetterOrDigit_41
  have B36 : ∀ (H : Heap) (locs : List Loc) (ls : Array Slot), f_Chars_isLetterOrDigit_36 S = some u → Dy g s S H locs → lv_has ls 1 [] → W p l e (rmD 0) s m args below meth c H locs 0 0 (MQ below (Qip g S u) args s 0 0 (gA g)) (F0 m 36 ls []) := by
    intro H locs ls h D hl
    unfold f_Chars_isLetterOrDigit_36 at h
    refine lv_iconst (v := 1) hx hb d_Chars_isLetterOrDigit_36 (by decide) ?_
    refine lv_goto hx hb d_Chars_isLetterOrDigit_37 rfl ?_
    exact x_zrp C D h d_Chars_isLetterOrDigit_41
  have B24 : ∀ (H : Heap) (locs : List Loc) (ls : Array Slot) (a0 : Int32), f_Chars_isLetterOrDigit_24 a0 S = some u → Dy g s S H locs → lv_has ls 1 [(0, .int a0)] → W p l e (rmD 0) s m args below meth c H locs 0 0 (MQ below (Qip g S u) args s 0 0 (gA g)) (F0 m 24 ls []) := by
    intro H locs ls a0 h D hl
    unfold f_Chars_isLetterOrDigit_24 at h
    refine lv_iload_n hx hb d_Chars_isLetterOrDigit_24 rfl (lv_at hl 0 rfl) ?_
    refine lv_bipush (v := 48) hx hb d_Chars_isLetterOrDigit_25 (by decide) ?_
    refine lv_icmp_lt hx hb d_Chars_isLetterOrDigit_27 rfl (fun z => ?_) (fun z => ?_)
    · replace h := if_t z h
      exact B40 _ _ _ h D (lv_sub hl [] rfl)
    · replace h := if_f z h
      refine lv_iload_n hx hb d_Chars_isLetterOrDigit_30 rfl (lv_at hl 0 rfl) ?_
      refine lv_bipush (v := 57) hx hb d_Chars_isLetterOrDigit_31 (by decide) ?_
      refine lv_icmp_gt hx hb d_Chars_isLetterOrDigit_33 rfl (fun z => ?_) (fun z => ?_)
      · replace h := if_t z h
        exact B40 _ _ _ h D (lv_sub hl [] rfl)
      · replace h := if_f z h
        exact B36 _ _ _ h D (lv_sub hl [] rfl)
  have B12 : ∀ (H : Heap) (locs : List Loc) (ls : Array Slot) (a0 : Int32), f_Chars_isLetterOrDigit_12 a0 S = some u → Dy g s S H locs → lv_has ls 1 [(0, .int a0)] → W p l e (rmD 0) s m args below meth c H locs 0 0 (MQ below (Qip g S u) args s 0 0 (gA g)) (F0 m 12 ls []) := by
    intro H locs ls a0 h D hl
    unfold f_Chars_isLetterOrDigit_12 at h
    refine lv_iload_n hx hb d_Chars_isLetterOrDigit_12 rfl (lv_at hl 0 rfl) ?_
    refine lv_bipush (v := 65) hx hb d_Chars_isLetterOrDigit_13 (by decide) ?_
    refine lv_icmp_lt hx hb d_Chars_isLetterOrDigit_15 rfl (fun z => ?_) (fun z => ?_)
    · replace h := if_t z h
      exact B24 _ _ _ _ h D (lv_sub hl [0] rfl)
    · replace h := if_f z h
      refine lv_iload_n hx hb d_Chars_isLetterOrDigit_18 rfl (lv_at hl 0 rfl) ?_
      refine lv_bipush (v := 90) hx hb d_Chars_isLetterOrDigit_19 (by decide) ?_
      refine lv_icmp_le hx hb d_Chars_isLetterOrDigit_21 rfl (fun z => ?_) (fun z => ?_)
      · replace h := if_t z h
        exact B36 _ _ _ h D (lv_sub hl [] rfl)
      · replace h := if_f z h
        exact B24 _ _ _ _ h D (lv_sub hl [0] rfl)
  unfold f_Chars_isLetterOrDigit at h
  refine lv_iload_n hx hb d_Chars_isLetterOrDigit_0 rfl (lv_at hl 0 rfl) ?_
  refine lv_bipush (v := 97) hx hb d_Chars_isLetterOrDigit_1 (by decide) ?_
  refine lv_icmp_lt hx hb d_Chars_isLetterOrDigit_3 rfl (fun z => ?_) (fun z => ?_)
  · replace h := if_t z h
    exact B12 _ _ _ _ h D (lv_sub hl [0] rfl)
  · replace h := if_f z h
    refine lv_iload_n hx hb d_Chars_isLetterOrDigit_6 rfl (lv_at hl 0 rfl) ?_
    refine lv_bipush (v := 122) hx hb d_Chars_isLetterOrDigit_7 (by decide) ?_
    refine lv_icmp_le hx hb d_Chars_isLetterOrDigit_9 rfl (fun z => ?_) (fun z => ?_)
    · replace h := if_t z h
      exact B36 _ _ _ h D (lv_sub hl [] rfl)
    · replace h := if_f z h
      exact B12 _ _ _ _ h D (lv_sub hl [0] rfl)
theorem d_Chars_isBlank_0 : decode b_Chars_isBlank 0 = .ok (.iload_n 0, 1) := by decide +kernel
theorem d_Chars_isBlank_1 : decode b_Chars_isBlank 1 = .ok (.bipush 32, 2) := by decide +kernel
theorem d_Chars_isBlank_3 : decode b_Chars_isBlank 3 = .ok (.if_icmp .eq 9, 3) := by decide +kernel
theorem d_Chars_isBlank_6 : decode b_Chars_isBlank 6 = .ok (.iload_n 0, 1) := by decide +kernel
theorem d_Chars_isBlank_7 : decode b_Chars_isBlank 7 = .ok (.bipush 9, 2) := by decide +kernel
theorem d_Chars_isBlank_9 : decode b_Chars_isBlank 9 = .ok (.if_icmp .ne 7, 3) := by decide +kernel
theorem d_Chars_isBlank_12 : decode b_Chars_isBlank 12 = .ok (.iconst 1, 1) := by decide +kernel
theorem d_Chars_isBlank_13 : decode b_Chars_isBlank 13 = .ok (.goto 4, 3) := by decide +kernel
theorem d_Chars_isBlank_16 : decode b_Chars_isBlank 16 = .ok (.iconst 0, 1) := by decide +kernel
theorem d_Chars_isBlank_17 : decode b_Chars_isBlank 17 = .ok (.ireturn, 1) := by decide +kernel
def f_Chars_isBlank_12 (S : zSt) : Option Int32 := (gdb 1 (some 1))
def f_Chars_isBlank (a0 : Int32) (S : zSt) : Option Int32 := (if a0 = 32 then (f_Chars_isBlank_12 S) else (if a0 = 9 then (f_Chars_isBlank_12 S) else (gdb 0 (some 0))))
set_option maxHeartbeats 4000000 in
set_option maxRecDepth 100000 in
theorem c_Chars_isBlank (l : Launch) (g : zG) (hD : GD g) (a0 : Int32) (S : zSt) (u : Int32) (h : f_Chars_isBlank a0 S = some u) : Met l y_Chars_isBlank (mw y_Chars_isBlank b_Chars_isBlank 1 (some .boolean)) (rmD 0) (Pw g [.int a0] S) (Qip g S u) 0 0 (gA g) := by
  refine z_go (own := R_Chars) (lv0 := [(0, .int a0)]) hD (by decide) rfl (Nat.le_of_ble_eq_true rfl) rfl ?_
  intro p e s m args below meth c C D ls hl
  have hx := C.1
  have hb := C.2.1
  have hown := C.2.2.2.1
  have hts := C.2.2.2.2.1
  have B12 : ∀ (H : Heap) (locs : List Loc) (ls : Array Slot), f_Chars_isBlank_12 S = some u → Dy g s S H locs → lv_has ls 1 [] → W p l e (rmD 0) s m args below meth c H locs 0 0 (MQ below (Qip g S u) args s 0 0 (gA g)) (F0 m 12 ls []) := by
    intro H locs ls h D hl
    unfold f_Chars_isBlank_12 at h
    refine lv_iconst (v := 1) hx hb d_Chars_isBlank_12 (by decide) ?_
    refine lv_goto hx hb d_Chars_isBlank_13 rfl ?_
    exact x_zrp C D h d_Chars_isBlank_17
  unfold f_Chars_isBlank at h
  refine lv_iload_n hx hb d_Chars_isBlank_0 rfl (lv_at hl 0 rfl) ?_
  refine lv_bipush (v := 32) hx hb d_Chars_isBlank_1 (by decide) ?_
  refine lv_icmp_eq hx hb d_Chars_isBlank_3 rfl (fun z => ?_) (fun z => ?_)
  · replace h := if_t z h
    exact B12 _ _ _ h D (lv_sub hl [] rfl)
  · replace h := if_f z h
    refine lv_iload_n hx hb d_Chars_isBlank_6 rfl (lv_at hl 0 rfl) ?_
    refine lv_bipush (v := 9) hx hb d_Chars_isBlank_7 (by decide) ?_
    refine lv_icmp_ne hx hb d_Chars_isBlank_9 rfl (fun z => ?_) (fun z => ?_)
    · replace h := if_f z h
      refine lv_iconst (v := 0) hx hb d_Chars_isBlank_16 (by decide) ?_
      exact x_zrp C D h d_Chars_isBlank_17
    · replace h := if_t z h
      exact B12 _ _ _ h D (lv_sub hl [] rfl)
theorem d_Chars_toSmall_0 : decode b_Chars_toSmall 0 = .ok (.iload_n 0, 1) := by decide +kernel
theorem d_Chars_toSmall_1 : decode b_Chars_toSmall 1 = .ok (.bipush 65, 2) := by decide +kernel
theorem d_Chars_toSmall_3 : decode b_Chars_toSmall 3 = .ok (.if_icmp .lt 20, 3) := by decide +kernel
theorem d_Chars_toSmall_6 : decode b_Chars_toSmall 6 = .ok (.iload_n 0, 1) := by decide +kernel
theorem d_Chars_toSmall_7 : decode b_Chars_toSmall 7 = .ok (.bipush 90, 2) := by decide +kernel
theorem d_Chars_toSmall_9 : decode b_Chars_toSmall 9 = .ok (.if_icmp .gt 14, 3) := by decide +kernel
theorem d_Chars_toSmall_12 : decode b_Chars_toSmall 12 = .ok (.iload_n 0, 1) := by decide +kernel
theorem d_Chars_toSmall_13 : decode b_Chars_toSmall 13 = .ok (.bipush 65, 2) := by decide +kernel
theorem d_Chars_toSmall_15 : decode b_Chars_toSmall 15 = .ok (.isub, 1) := by decide +kernel
theorem d_Chars_toSmall_16 : decode b_Chars_toSmall 16 = .ok (.bipush 97, 2) := by decide +kernel
theorem d_Chars_toSmall_18 : decode b_Chars_toSmall 18 = .ok (.iadd, 1) := by decide +kernel
theorem d_Chars_toSmall_19 : decode b_Chars_toSmall 19 = .ok (.i2c, 1) := by decide +kernel
theorem d_Chars_toSmall_20 : decode b_Chars_toSmall 20 = .ok (.goto 4, 3) := by decide +kernel
theorem d_Chars_toSmall_23 : decode b_Chars_toSmall 23 = .ok (.iload_n 0, 1) := by decide +kernel
theorem d_Chars_toSmall_24 : decode b_Chars_toSmall 24 = .ok (.ireturn, 1) := by decide +kernel
def f_Chars_toSmall_23 (a0 : Int32) (S : zSt) : Option Int32 := (gdc a0 (some a0))
def f_Chars_toSmall (a0 : Int32) (S : zSt) : Option Int32 := (if a0 < 65 then (f_Chars_toSmall_23 a0 S) else (if 90 < a0 then (f_Chars_toSmall_23 a0 S) else (gdc ((((a0 - 65) + 97).toUInt32 % 65536).toInt32) (some ((((a0 - 65) + 97).toUInt32 % 65536).toInt32)))))
set_option maxHeartbeats 4000000 in
set_option maxRecDepth 100000 in
theorem c_Chars_toSmall (l : Launch) (g : zG) (hD : GD g) (a0 : Int32) (S : zSt) (u : Int32) (h : f_Chars_toSmall a0 S = some u) : Met l y_Chars_toSmall (mw y_Chars_toSmall b_Chars_toSmall 1 (some .char)) (rmD 0) (Pw g [.int a0] S) (Qip g S u) 0 0 (gA g) := by
  refine z_go (own := R_Chars) (lv0 := [(0, .int a0)]) hD (by decide) rfl (Nat.le_of_ble_eq_true rfl) rfl ?_
  intro p e s m args below meth c C D ls hl
  have hx := C.1
  have hb := C.2.1
  have hown := C.2.2.2.1
  have hts := C.2.2.2.2.1
  have B23 : ∀ (H : Heap) (locs : List Loc) (ls : Array Slot) (a0 : Int32), f_Chars_toSmall_23 a0 S = some u → Dy g s S H locs → lv_has ls 1 [(0, .int a0)] → W p l e (rmD 0) s m args below meth c H locs 0 0 (MQ below (Qip g S u) args s 0 0 (gA g)) (F0 m 23 ls []) := by
    intro H locs ls a0 h D hl
    unfold f_Chars_toSmall_23 at h
    refine lv_iload_n hx hb d_Chars_toSmall_23 rfl (lv_at hl 0 rfl) ?_
    exact x_crp C D h d_Chars_toSmall_24
  unfold f_Chars_toSmall at h
  refine lv_iload_n hx hb d_Chars_toSmall_0 rfl (lv_at hl 0 rfl) ?_
  refine lv_bipush (v := 65) hx hb d_Chars_toSmall_1 (by decide) ?_
  refine lv_icmp_lt hx hb d_Chars_toSmall_3 rfl (fun z => ?_) (fun z => ?_)
  · replace h := if_t z h
    exact B23 _ _ _ _ h D (lv_sub hl [0] rfl)
  · replace h := if_f z h
    refine lv_iload_n hx hb d_Chars_toSmall_6 rfl (lv_at hl 0 rfl) ?_
    refine lv_bipush (v := 90) hx hb d_Chars_toSmall_7 (by decide) ?_
    refine lv_icmp_gt hx hb d_Chars_toSmall_9 rfl (fun z => ?_) (fun z => ?_)
    · replace h := if_t z h
      exact B23 _ _ _ _ h D (lv_sub hl [0] rfl)
    · replace h := if_f z h
      refine lv_iload_n hx hb d_Chars_toSmall_12 rfl (lv_at hl 0 rfl) ?_
      refine lv_bipush (v := 65) hx hb d_Chars_toSmall_13 (by decide) ?_
      refine lv_isub hx hb d_Chars_toSmall_15 ?_
      refine lv_bipush (v := 97) hx hb d_Chars_toSmall_16 (by decide) ?_
      refine lv_iadd hx hb d_Chars_toSmall_18 ?_
      refine lv_i2c hx hb d_Chars_toSmall_19 rfl ?_
      refine lv_goto hx hb d_Chars_toSmall_20 rfl ?_
      exact x_crp C D h d_Chars_toSmall_24
theorem d_Chars_hexValue_0 : decode b_Chars_hexValue 0 = .ok (.iload_n 0, 1) := by decide +kernel
theorem d_Chars_hexValue_1 : decode b_Chars_hexValue 1 = .ok (.bipush 48, 2) := by decide +kernel
theorem d_Chars_hexValue_3 : decode b_Chars_hexValue 3 = .ok (.if_icmp .lt 14, 3) := by decide +kernel
theorem d_Chars_hexValue_6 : decode b_Chars_hexValue 6 = .ok (.iload_n 0, 1) := by decide +kernel
theorem d_Chars_hexValue_7 : decode b_Chars_hexValue 7 = .ok (.bipush 57, 2) := by decide +kernel
theorem d_Chars_hexValue_9 : decode b_Chars_hexValue 9 = .ok (.if_icmp .gt 8, 3) := by decide +kernel
theorem d_Chars_hexValue_12 : decode b_Chars_hexValue 12 = .ok (.iload_n 0, 1) := by decide +kernel
theorem d_Chars_hexValue_13 : decode b_Chars_hexValue 13 = .ok (.bipush 48, 2) := by decide +kernel
theorem d_Chars_hexValue_15 : decode b_Chars_hexValue 15 = .ok (.isub, 1) := by decide +kernel
theorem d_Chars_hexValue_16 : decode b_Chars_hexValue 16 = .ok (.ireturn, 1) := by decide +kernel
theorem d_Chars_hexValue_17 : decode b_Chars_hexValue 17 = .ok (.iload_n 0, 1) := by decide +kernel
theorem d_Chars_hexValue_18 : decode b_Chars_hexValue 18 = .ok (.bipush 97, 2) := by decide +kernel
theorem d_Chars_hexValue_20 : decode b_Chars_hexValue 20 = .ok (.if_icmp .lt 17, 3) := by decide +kernel
theorem d_Chars_hexValue_23 : decode b_Chars_hexValue 23 = .ok (.iload_n 0, 1) := by decide +kernel
theorem d_Chars_hexValue_24 : decode b_Chars_hexValue 24 = .ok (.bipush 102, 2) := by decide +kernel
theorem d_Chars_hexValue_26 : decode b_Chars_hexValue 26 = .ok (.if_icmp .gt 11, 3) := by decide +kernel
theorem d_Chars_hexValue_29 : decode b_Chars_hexValue 29 = .ok (.iload_n 0, 1) := by decide +kernel
theorem d_Chars_hexValue_30 : decode b_Chars_hexValue 30 = .ok (.bipush 97, 2) := by decide +kernel
theorem d_Chars_hexValue_32 : decode b_Chars_hexValue 32 = .ok (.isub, 1) := by decide +kernel
theorem d_Chars_hexValue_33 : decode b_Chars_hexValue 33 = .ok (.bipush 10, 2) := by decide +kernel
theorem d_Chars_hexValue_35 : decode b_Chars_hexValue 35 = .ok (.iadd, 1) := by decide +kernel
theorem d_Chars_hexValue_36 : decode b_Chars_hexValue 36 = .ok (.ireturn, 1) := by decide +kernel
theorem d_Chars_hexValue_37 : decode b_Chars_hexValue 37 = .ok (.iload_n 0, 1) := by decide +kernel
theorem d_Chars_hexValue_38 : decode b_Chars_hexValue 38 = .ok (.bipush 65, 2) := by decide +kernel
theorem d_Chars_hexValue_40 : decode b_Chars_hexValue 40 = .ok (.if_icmp .lt 19, 3) := by decide +kernel
theorem d_Chars_hexValue_43 : decode b_Chars_hexValue 43 = .ok (.iload_n 0, 1) := by decide +kernel
theorem d_Chars_hexValue_44 : decode b_Chars_hexValue 44 = .ok (.bipush 70, 2) := by decide +kernel
theorem d_Chars_hexValue_46 : decode b_Chars_hexValue 46 = .ok (.if_icmp .gt 13, 3) := by decide +kernel
theorem d_Chars_hexValue_49 : decode b_Chars_hexValue 49 = .ok (.iload_n 0, 1) := by decide +kernel
theorem d_Chars_hexValue_50 : decode b_Chars_hexValue 50 = .ok (.bipush 65, 2) := by decide +kernel
theorem d_Chars_hexValue_52 : decode b_Chars_hexValue 52 = .ok (.isub, 1) := by decide +kernel
theorem d_Chars_hexValue_53 : decode b_Chars_hexValue 53 = .ok (.bipush 10, 2) := by decide +kernel
theorem d_Chars_hexValue_55 : decode b_Chars_hexValue 55 = .ok (.iadd, 1) := by decide +kernel
theorem d_Chars_hexValue_56 : decode b_Chars_hexValue 56 = .ok (.goto 4, 3) := by decide +kernel
theorem d_Chars_hexValue_59 : decode b_Chars_hexValue 59 = .ok (.iconst (-1), 1) := by decide +kernel
theorem d_Chars_hexValue_60 : decode b_Chars_hexValue 60 = .ok (.ireturn, 1) := by decide +kernel
def f_Chars_hexValue_59 (S : zSt) : Option Int32 := (some (-1))
def f_Chars_hexValue_37 (a0 : Int32) (S : zSt) : Option Int32 := (if a0 < 65 then (f_Chars_hexValue_59 S) else (if 70 < a0 then (f_Chars_hexValue_59 S) else (some ((a0 - 65) + 10))))
def f_Chars_hexValue_17 (a0 : Int32) (S : zSt) : Option Int32 := (if a0 < 97 then (f_Chars_hexValue_37 a0 S) else (if 102 < a0 then (f_Chars_hexValue_37 a0 S) else (some ((a0 - 97) + 10))))
def f_Chars_hexValue (a0 : Int32) (S : zSt) : Option Int32 := (if a0 < 48 then (f_Chars_hexValue_17 a0 S) else (if 57 < a0 then (f_Chars_hexValue_17 a0 S) else (some (a0 - 48))))
set_option maxHeartbeats 4000000 in
set_option maxRecDepth 100000 in
theorem c_Chars_hexValue (l : Launch) (g : zG) (hD : GD g) (a0 : Int32) (S : zSt) (u : Int32) (h : f_Chars_hexValue a0 S = some u) : Met l y_Chars_hexValue (mw y_Chars_hexValue b_Chars_hexValue 1 (some .int)) (rmD 0) (Pw g [.int a0] S) (Qip g S u) 0 0 (gA g) := by
  refine z_go (own := R_Chars) (lv0 := [(0, .int a0)]) hD (by decide) rfl (Nat.le_of_ble_eq_true rfl) rfl ?_
  intro p e s m args below meth c C D ls hl
  have hx := C.1
  have hb := C.2.1
  have hown := C.2.2.2.1
  have hts := C.2.2.2.2.1
  have B59 : ∀ (H : Heap) (locs : List Loc) (ls : Array Slot), f_Chars_hexValue_59 S = some u → Dy g s S H locs → lv_has ls 1 [] → W p l e (rmD 0) s m args below meth c H locs 0 0 (MQ below (Qip g S u) args s 0 0 (gA g)) (F0 m 59 ls []) := by
    intro H locs ls h D hl
    unfold f_Chars_hexValue_59 at h
    refine lv_iconst (v := (-1)) hx hb d_Chars_hexValue_59 (by decide) ?_
    exact x_irp C D h d_Chars_hexValue_60
  have B37 : ∀ (H : Heap) (locs : List Loc) (ls : Array Slot) (a0 : Int32), f_Chars_hexValue_37 a0 S = some u → Dy g s S H locs → lv_has ls 1 [(0, .int a0)] → W p l e (rmD 0) s m args below meth c H locs 0 0 (MQ below (Qip g S u) args s 0 0 (gA g)) (F0 m 37 ls []) := by
    intro H locs ls a0 h D hl
    unfold f_Chars_hexValue_37 at h
    refine lv_iload_n hx hb d_Chars_hexValue_37 rfl (lv_at hl 0 rfl) ?_
    refine lv_bipush (v := 65) hx hb d_Chars_hexValue_38 (by decide) ?_
    refine lv_icmp_lt hx hb d_Chars_hexValue_40 rfl (fun z => ?_) (fun z => ?_)
    · replace h := if_t z h
      exact B59 _ _ _ h D (lv_sub hl [] rfl)
    · replace h := if_f z h
      refine lv_iload_n hx hb d_Chars_hexValue_43 rfl (lv_at hl 0 rfl) ?_
      refine lv_bipush (v := 70) hx hb d_Chars_hexValue_44 (by decide) ?_
      refine lv_icmp_gt hx hb d_Chars_hexValue_46 rfl (fun z => ?_) (fun z => ?_)
      · replace h := if_t z h
        exact B59 _ _ _ h D (lv_sub hl [] rfl)
      · replace h := if_f z h
        refine lv_iload_n hx hb d_Chars_hexValue_49 rfl (lv_at hl 0 rfl) ?_
        refine lv_bipush (v := 65) hx hb d_Chars_hexValue_50 (by decide) ?_
        refine lv_isub hx hb d_Chars_hexValue_52 ?_
        refine lv_bipush (v := 10) hx hb d_Chars_hexValue_53 (by decide) ?_
        refine lv_iadd hx hb d_Chars_hexValue_55 ?_
        refine lv_goto hx hb d_Chars_hexValue_56 rfl ?_
        exact x_irp C D h d_Chars_hexValue_60
  have B17 : ∀ (H : Heap) (locs : List Loc) (ls : Array Slot) (a0 : Int32), f_Chars_hexValue_17 a0 S = some u → Dy g s S H locs → lv_has ls 1 [(0, .int a0)] → W p l e (rmD 0) s m args below meth c H locs 0 0 (MQ below (Qip g S u) args s 0 0 (gA g)) (F0 m 17 ls []) := by
    intro H locs ls a0 h D hl
    unfold f_Chars_hexValue_17 at h
    refine lv_iload_n hx hb d_Chars_hexValue_17 rfl (lv_at hl 0 rfl) ?_
    refine lv_bipush (v := 97) hx hb d_Chars_hexValue_18 (by decide) ?_
    refine lv_icmp_lt hx hb d_Chars_hexValue_20 rfl (fun z => ?_) (fun z => ?_)
    · replace h := if_t z h
      exact B37 _ _ _ _ h D (lv_sub hl [0] rfl)
    · replace h := if_f z h
      refine lv_iload_n hx hb d_Chars_hexValue_23 rfl (lv_at hl 0 rfl) ?_
      refine lv_bipush (v := 102) hx hb d_Chars_hexValue_24 (by decide) ?_
      refine lv_icmp_gt hx hb d_Chars_hexValue_26 rfl (fun z => ?_) (fun z => ?_)
      · replace h := if_t z h
        exact B37 _ _ _ _ h D (lv_sub hl [0] rfl)
      · replace h := if_f z h
        refine lv_iload_n hx hb d_Chars_hexValue_29 rfl (lv_at hl 0 rfl) ?_
        refine lv_bipush (v := 97) hx hb d_Chars_hexValue_30 (by decide) ?_
        refine lv_isub hx hb d_Chars_hexValue_32 ?_
        refine lv_bipush (v := 10) hx hb d_Chars_hexValue_33 (by decide) ?_
        refine lv_iadd hx hb d_Chars_hexValue_35 ?_
        exact x_irp C D h d_Chars_hexValue_36
  unfold f_Chars_hexValue at h
  refine lv_iload_n hx hb d_Chars_hexValue_0 rfl (lv_at hl 0 rfl) ?_
  refine lv_bipush (v := 48) hx hb d_Chars_hexValue_1 (by decide) ?_
  refine lv_icmp_lt hx hb d_Chars_hexValue_3 rfl (fun z => ?_) (fun z => ?_)
  · replace h := if_t z h
    exact B17 _ _ _ _ h D (lv_sub hl [0] rfl)
  · replace h := if_f z h
    refine lv_iload_n hx hb d_Chars_hexValue_6 rfl (lv_at hl 0 rfl) ?_
    refine lv_bipush (v := 57) hx hb d_Chars_hexValue_7 (by decide) ?_
    refine lv_icmp_gt hx hb d_Chars_hexValue_9 rfl (fun z => ?_) (fun z => ?_)
    · replace h := if_t z h
      exact B17 _ _ _ _ h D (lv_sub hl [0] rfl)
    · replace h := if_f z h
      refine lv_iload_n hx hb d_Chars_hexValue_12 rfl (lv_at hl 0 rfl) ?_
      refine lv_bipush (v := 48) hx hb d_Chars_hexValue_13 (by decide) ?_
      refine lv_isub hx hb d_Chars_hexValue_15 ?_
      exact x_irp C D h d_Chars_hexValue_16
theorem d_Chars_hexDigit_0 : decode b_Chars_hexDigit 0 = .ok (.iload_n 0, 1) := by decide +kernel
theorem d_Chars_hexDigit_1 : decode b_Chars_hexDigit 1 = .ok (.bipush 10, 2) := by decide +kernel
theorem d_Chars_hexDigit_3 : decode b_Chars_hexDigit 3 = .ok (.if_icmp .ge 10, 3) := by decide +kernel
theorem d_Chars_hexDigit_6 : decode b_Chars_hexDigit 6 = .ok (.bipush 48, 2) := by decide +kernel
theorem d_Chars_hexDigit_8 : decode b_Chars_hexDigit 8 = .ok (.iload_n 0, 1) := by decide +kernel
theorem d_Chars_hexDigit_9 : decode b_Chars_hexDigit 9 = .ok (.iadd, 1) := by decide +kernel
theorem d_Chars_hexDigit_10 : decode b_Chars_hexDigit 10 = .ok (.goto 10, 3) := by decide +kernel
theorem d_Chars_hexDigit_13 : decode b_Chars_hexDigit 13 = .ok (.bipush 65, 2) := by decide +kernel
theorem d_Chars_hexDigit_15 : decode b_Chars_hexDigit 15 = .ok (.iload_n 0, 1) := by decide +kernel
theorem d_Chars_hexDigit_16 : decode b_Chars_hexDigit 16 = .ok (.iadd, 1) := by decide +kernel
theorem d_Chars_hexDigit_17 : decode b_Chars_hexDigit 17 = .ok (.bipush 10, 2) := by decide +kernel
theorem d_Chars_hexDigit_19 : decode b_Chars_hexDigit 19 = .ok (.isub, 1) := by decide +kernel
theorem d_Chars_hexDigit_20 : decode b_Chars_hexDigit 20 = .ok (.ireturn, 1) := by decide +kernel
def f_Chars_hexDigit (a0 : Int32) (S : zSt) : Option Int32 := (if 10 ≤ a0 then (some ((65 + a0) - 10)) else (some (48 + a0)))
set_option maxHeartbeats 4000000 in
set_option maxRecDepth 100000 in
theorem c_Chars_hexDigit (l : Launch) (g : zG) (hD : GD g) (a0 : Int32) (S : zSt) (u : Int32) (h : f_Chars_hexDigit a0 S = some u) : Met l y_Chars_hexDigit (mw y_Chars_hexDigit b_Chars_hexDigit 1 (some .int)) (rmD 0) (Pw g [.int a0] S) (Qip g S u) 0 0 (gA g) := by
  refine z_go (own := R_Chars) (lv0 := [(0, .int a0)]) hD (by decide) rfl (Nat.le_of_ble_eq_true rfl) rfl ?_
  intro p e s m args below meth c C D ls hl
  have hx := C.1
  have hb := C.2.1
  have hown := C.2.2.2.1
  have hts := C.2.2.2.2.1
  unfold f_Chars_hexDigit at h
  refine lv_iload_n hx hb d_Chars_hexDigit_0 rfl (lv_at hl 0 rfl) ?_
  refine lv_bipush (v := 10) hx hb d_Chars_hexDigit_1 (by decide) ?_
  refine lv_icmp_ge hx hb d_Chars_hexDigit_3 rfl (fun z => ?_) (fun z => ?_)
  · replace h := if_t z h
    refine lv_bipush (v := 65) hx hb d_Chars_hexDigit_13 (by decide) ?_
    refine lv_iload_n hx hb d_Chars_hexDigit_15 rfl (lv_at hl 0 rfl) ?_
    refine lv_iadd hx hb d_Chars_hexDigit_16 ?_
    refine lv_bipush (v := 10) hx hb d_Chars_hexDigit_17 (by decide) ?_
    refine lv_isub hx hb d_Chars_hexDigit_19 ?_
    exact x_irp C D h d_Chars_hexDigit_20
  · replace h := if_f z h
    refine lv_bipush (v := 48) hx hb d_Chars_hexDigit_6 (by decide) ?_
    refine lv_iload_n hx hb d_Chars_hexDigit_8 rfl (lv_at hl 0 rfl) ?_
    refine lv_iadd hx hb d_Chars_hexDigit_9 ?_
    refine lv_goto hx hb d_Chars_hexDigit_10 rfl ?_
    exact x_irp C D h d_Chars_hexDigit_20
theorem d_Chars_isUnreserved_0 : decode b_Chars_isUnreserved 0 = .ok (.iload_n 0, 1) := by decide +kernel
theorem d_Chars_isUnreserved_1 : decode b_Chars_isUnreserved 1 = .ok (.invokestatic 7, 3) := by decide +kernel
theorem d_Chars_isUnreserved_4 : decode b_Chars_isUnreserved 4 = .ok (.ifCond .ne 12, 3) := by decide +kernel
theorem d_Chars_isUnreserved_7 : decode b_Chars_isUnreserved 7 = .ok (.ldc 13, 2) := by decide +kernel
theorem d_Chars_isUnreserved_9 : decode b_Chars_isUnreserved 9 = .ok (.iload_n 0, 1) := by decide +kernel
theorem d_Chars_isUnreserved_10 : decode b_Chars_isUnreserved 10 = .ok (.invokevirtual 15, 3) := by decide +kernel
theorem d_Chars_isUnreserved_13 : decode b_Chars_isUnreserved 13 = .ok (.ifCond .lt 7, 3) := by decide +kernel
theorem d_Chars_isUnreserved_16 : decode b_Chars_isUnreserved 16 = .ok (.iconst 1, 1) := by decide +kernel
theorem d_Chars_isUnreserved_17 : decode b_Chars_isUnreserved 17 = .ok (.goto 4, 3) := by decide +kernel
theorem d_Chars_isUnreserved_20 : decode b_Chars_isUnreserved 20 = .ok (.iconst 0, 1) := by decide +kernel
theorem d_Chars_isUnreserved_21 : decode b_Chars_isUnreserved 21 = .ok (.ireturn, 1) := by decide +kernel
def f_Chars_isUnreserved_16 (S : zSt) : Option Int32 := (gdb 1 (some 1))
def f_Chars_isUnreserved (a0 : Int32) (S : zSt) : Option Int32 := ((f_Chars_isLetterOrDigit a0 S).bind fun u1 => (if u1 = 0 then ((f_String_indexOf 7 a0 S).bind fun u2 => (if u2 < 0 then (gdb 0 (some 0)) else (f_Chars_isUnreserved_16 S))) else (f_Chars_isUnreserved_16 S)))
set_option maxHeartbeats 4000000 in
set_option maxRecDepth 100000 in
theorem c_Chars_isUnreserved (l : Launch) (g : zG) (hD : GD g) (a0 : Int32) (S : zSt) (u : Int32) (h : f_Chars_isUnreserved a0 S = some u) : Met l y_Chars_isUnreserved (mw y_Chars_isUnreserved b_Chars_isUnreserved 1 (some .boolean)) (rmD 4) (Pw g [.int a0] S) (Qip g S u) 0 0 (gA g) := by
  refine z_go (own := R_Chars) (lv0 := [(0, .int a0)]) hD (by decide) rfl (Nat.le_of_ble_eq_true rfl) rfl ?_
  intro p e s m args below meth c C D ls hl
  have hx := C.1
  have hb := C.2.1
  have hown := C.2.2.2.1
  have hts := C.2.2.2.2.1
  have B16 : ∀ (H : Heap) (locs : List Loc) (ls : Array Slot), f_Chars_isUnreserved_16 S = some u → Dy g s S H locs → lv_has ls 1 [] → W p l e (rmD 4) s m args below meth c H locs 0 0 (MQ below (Qip g S u) args s 0 0 (gA g)) (F0 m 16 ls []) := by
    intro H locs ls h D hl
    unfold f_Chars_isUnreserved_16 at h
    refine lv_iconst (v := 1) hx hb d_Chars_isUnreserved_16 (by decide) ?_
    refine lv_goto hx hb d_Chars_isUnreserved_17 rfl ?_
    exact x_zrp C D h d_Chars_isUnreserved_21
  unfold f_Chars_isUnreserved at h
  refine lv_iload_n hx hb d_Chars_isUnreserved_0 rfl (lv_at hl 0 rfl) ?_
  obtain ⟨u1, hu1, h⟩ := bd_some h
  refine x_cip (rest := []) (r_S C D (c_Chars_isLetterOrDigit l g hD a0 S u1 hu1) wc_Chars_isLetterOrDigit wm_Chars_7 wt_Chars_isLetterOrDigit wd_Chars_isLetterOrDigit rfl rfl hl (Nat.le_of_ble_eq_true rfl) (by decide) d_Chars_isUnreserved_1) D (fun H locs D => ?_)
  refine lv_if_ne hx hb d_Chars_isUnreserved_4 rfl (fun z => ?_) (fun z => ?_)
  · replace h := if_f z h
    exact B16 _ _ _ h D (lv_sub hl [] rfl)
  · replace h := if_t z h
    refine x_lds C (q := 7) wl_Chars_13 d_Chars_isUnreserved_7 ?_
    refine lv_iload_n hx hb d_Chars_isUnreserved_9 rfl (lv_at hl 0 rfl) ?_
    obtain ⟨u2, hu2, h⟩ := bd_some h
    refine x_cip (rest := []) (r_Str C D (c_String_indexOf l g hD 7 (by decide) a0 S u2 hu2) wc_String_indexOf wm_Chars_15 wi_String_indexOf wd_String_indexOf (by decide) rfl rfl rfl hl (Nat.le_of_ble_eq_true rfl) (by decide) d_Chars_isUnreserved_10) D (fun H locs D => ?_)
    refine lv_if_lt hx hb d_Chars_isUnreserved_13 rfl (fun z => ?_) (fun z => ?_)
    · replace h := if_t z h
      refine lv_iconst (v := 0) hx hb d_Chars_isUnreserved_20 (by decide) ?_
      exact x_zrp C D h d_Chars_isUnreserved_21
    · replace h := if_f z h
      exact B16 _ _ _ h D (lv_sub hl [] rfl)
theorem d_Chars_isLiteral_0 : decode b_Chars_isLiteral 0 = .ok (.iload_n 0, 1) := by decide +kernel
theorem d_Chars_isLiteral_1 : decode b_Chars_isLiteral 1 = .ok (.invokestatic 7, 3) := by decide +kernel
theorem d_Chars_isLiteral_4 : decode b_Chars_isLiteral 4 = .ok (.ifCond .ne 12, 3) := by decide +kernel
theorem d_Chars_isLiteral_7 : decode b_Chars_isLiteral 7 = .ok (.ldc 21, 2) := by decide +kernel
theorem d_Chars_isLiteral_9 : decode b_Chars_isLiteral 9 = .ok (.iload_n 0, 1) := by decide +kernel
theorem d_Chars_isLiteral_10 : decode b_Chars_isLiteral 10 = .ok (.invokevirtual 15, 3) := by decide +kernel
theorem d_Chars_isLiteral_13 : decode b_Chars_isLiteral 13 = .ok (.ifCond .lt 7, 3) := by decide +kernel
theorem d_Chars_isLiteral_16 : decode b_Chars_isLiteral 16 = .ok (.iconst 1, 1) := by decide +kernel
theorem d_Chars_isLiteral_17 : decode b_Chars_isLiteral 17 = .ok (.goto 4, 3) := by decide +kernel
theorem d_Chars_isLiteral_20 : decode b_Chars_isLiteral 20 = .ok (.iconst 0, 1) := by decide +kernel
theorem d_Chars_isLiteral_21 : decode b_Chars_isLiteral 21 = .ok (.ireturn, 1) := by decide +kernel
def f_Chars_isLiteral_16 (S : zSt) : Option Int32 := (gdb 1 (some 1))
def f_Chars_isLiteral (a0 : Int32) (S : zSt) : Option Int32 := ((f_Chars_isLetterOrDigit a0 S).bind fun u1 => (if u1 = 0 then ((f_String_indexOf 0 a0 S).bind fun u2 => (if u2 < 0 then (gdb 0 (some 0)) else (f_Chars_isLiteral_16 S))) else (f_Chars_isLiteral_16 S)))
set_option maxHeartbeats 4000000 in
set_option maxRecDepth 100000 in
theorem c_Chars_isLiteral (l : Launch) (g : zG) (hD : GD g) (a0 : Int32) (S : zSt) (u : Int32) (h : f_Chars_isLiteral a0 S = some u) : Met l y_Chars_isLiteral (mw y_Chars_isLiteral b_Chars_isLiteral 1 (some .boolean)) (rmD 4) (Pw g [.int a0] S) (Qip g S u) 0 0 (gA g) := by
  refine z_go (own := R_Chars) (lv0 := [(0, .int a0)]) hD (by decide) rfl (Nat.le_of_ble_eq_true rfl) rfl ?_
  intro p e s m args below meth c C D ls hl
  have hx := C.1
  have hb := C.2.1
  have hown := C.2.2.2.1
  have hts := C.2.2.2.2.1
  have B16 : ∀ (H : Heap) (locs : List Loc) (ls : Array Slot), f_Chars_isLiteral_16 S = some u → Dy g s S H locs → lv_has ls 1 [] → W p l e (rmD 4) s m args below meth c H locs 0 0 (MQ below (Qip g S u) args s 0 0 (gA g)) (F0 m 16 ls []) := by
    intro H locs ls h D hl
    unfold f_Chars_isLiteral_16 at h
    refine lv_iconst (v := 1) hx hb d_Chars_isLiteral_16 (by decide) ?_
    refine lv_goto hx hb d_Chars_isLiteral_17 rfl ?_
    exact x_zrp C D h d_Chars_isLiteral_21
  unfold f_Chars_isLiteral at h
  refine lv_iload_n hx hb d_Chars_isLiteral_0 rfl (lv_at hl 0 rfl) ?_
  obtain ⟨u1, hu1, h⟩ := bd_some h
  refine x_cip (rest := []) (r_S C D (c_Chars_isLetterOrDigit l g hD a0 S u1 hu1) wc_Chars_isLetterOrDigit wm_Chars_7 wt_Chars_isLetterOrDigit wd_Chars_isLetterOrDigit rfl rfl hl (Nat.le_of_ble_eq_true rfl) (by decide) d_Chars_isLiteral_1) D (fun H locs D => ?_)
  refine lv_if_ne hx hb d_Chars_isLiteral_4 rfl (fun z => ?_) (fun z => ?_)
  · replace h := if_f z h
    exact B16 _ _ _ h D (lv_sub hl [] rfl)
  · replace h := if_t z h
    refine x_lds C (q := 0) wl_Chars_21 d_Chars_isLiteral_7 ?_
    refine lv_iload_n hx hb d_Chars_isLiteral_9 rfl (lv_at hl 0 rfl) ?_
    obtain ⟨u2, hu2, h⟩ := bd_some h
    refine x_cip (rest := []) (r_Str C D (c_String_indexOf l g hD 0 (by decide) a0 S u2 hu2) wc_String_indexOf wm_Chars_15 wi_String_indexOf wd_String_indexOf (by decide) rfl rfl rfl hl (Nat.le_of_ble_eq_true rfl) (by decide) d_Chars_isLiteral_10) D (fun H locs D => ?_)
    refine lv_if_lt hx hb d_Chars_isLiteral_13 rfl (fun z => ?_) (fun z => ?_)
    · replace h := if_t z h
      refine lv_iconst (v := 0) hx hb d_Chars_isLiteral_20 (by decide) ?_
      exact x_zrp C D h d_Chars_isLiteral_21
    · replace h := if_f z h
      exact B16 _ _ _ h D (lv_sub hl [] rfl)
theorem d_Chars_isOperator_0 : decode b_Chars_isOperator 0 = .ok (.ldc 23, 2) := by decide +kernel
theorem d_Chars_isOperator_2 : decode b_Chars_isOperator 2 = .ok (.iload_n 0, 1) := by decide +kernel
theorem d_Chars_isOperator_3 : decode b_Chars_isOperator 3 = .ok (.invokevirtual 15, 3) := by decide +kernel
theorem d_Chars_isOperator_6 : decode b_Chars_isOperator 6 = .ok (.ifCond .lt 7, 3) := by decide +kernel
theorem d_Chars_isOperator_9 : decode b_Chars_isOperator 9 = .ok (.iconst 1, 1) := by decide +kernel
theorem d_Chars_isOperator_10 : decode b_Chars_isOperator 10 = .ok (.goto 4, 3) := by decide +kernel
theorem d_Chars_isOperator_13 : decode b_Chars_isOperator 13 = .ok (.iconst 0, 1) := by decide +kernel
theorem d_Chars_isOperator_14 : decode b_Chars_isOperator 14 = .ok (.ireturn, 1) := by decide +kernel
def f_Chars_isOperator (a0 : Int32) (S : zSt) : Option Int32 := ((f_String_indexOf 1 a0 S).bind fun u1 => (if u1 < 0 then (gdb 0 (some 0)) else (gdb 1 (some 1))))
set_option maxHeartbeats 4000000 in
set_option maxRecDepth 100000 in
theorem c_Chars_isOperator (l : Launch) (g : zG) (hD : GD g) (a0 : Int32) (S : zSt) (u : Int32) (h : f_Chars_isOperator a0 S = some u) : Met l y_Chars_isOperator (mw y_Chars_isOperator b_Chars_isOperator 1 (some .boolean)) (rmD 4) (Pw g [.int a0] S) (Qip g S u) 0 0 (gA g) := by
  refine z_go (own := R_Chars) (lv0 := [(0, .int a0)]) hD (by decide) rfl (Nat.le_of_ble_eq_true rfl) rfl ?_
  intro p e s m args below meth c C D ls hl
  have hx := C.1
  have hb := C.2.1
  have hown := C.2.2.2.1
  have hts := C.2.2.2.2.1
  unfold f_Chars_isOperator at h
  refine x_lds C (q := 1) wl_Chars_23 d_Chars_isOperator_0 ?_
  refine lv_iload_n hx hb d_Chars_isOperator_2 rfl (lv_at hl 0 rfl) ?_
  obtain ⟨u1, hu1, h⟩ := bd_some h
  refine x_cip (rest := []) (r_Str C D (c_String_indexOf l g hD 1 (by decide) a0 S u1 hu1) wc_String_indexOf wm_Chars_15 wi_String_indexOf wd_String_indexOf (by decide) rfl rfl rfl hl (Nat.le_of_ble_eq_true rfl) (by decide) d_Chars_isOperator_3) D (fun H locs D => ?_)
  refine lv_if_lt hx hb d_Chars_isOperator_6 rfl (fun z => ?_) (fun z => ?_)
  · replace h := if_t z h
    refine lv_iconst (v := 0) hx hb d_Chars_isOperator_13 (by decide) ?_
    exact x_zrp C D h d_Chars_isOperator_14
  · replace h := if_f z h
    refine lv_iconst (v := 1) hx hb d_Chars_isOperator_9 (by decide) ?_
    refine lv_goto hx hb d_Chars_isOperator_10 rfl ?_
    exact x_zrp C D h d_Chars_isOperator_14
theorem d_Chars_isLooseMark_0 : decode b_Chars_isLooseMark 0 = .ok (.ldc 25, 2) := by decide +kernel
theorem d_Chars_isLooseMark_2 : decode b_Chars_isLooseMark 2 = .ok (.iload_n 0, 1) := by decide +kernel
theorem d_Chars_isLooseMark_3 : decode b_Chars_isLooseMark 3 = .ok (.invokevirtual 15, 3) := by decide +kernel
theorem d_Chars_isLooseMark_6 : decode b_Chars_isLooseMark 6 = .ok (.ifCond .lt 7, 3) := by decide +kernel
theorem d_Chars_isLooseMark_9 : decode b_Chars_isLooseMark 9 = .ok (.iconst 1, 1) := by decide +kernel
theorem d_Chars_isLooseMark_10 : decode b_Chars_isLooseMark 10 = .ok (.goto 4, 3) := by decide +kernel
theorem d_Chars_isLooseMark_13 : decode b_Chars_isLooseMark 13 = .ok (.iconst 0, 1) := by decide +kernel
theorem d_Chars_isLooseMark_14 : decode b_Chars_isLooseMark 14 = .ok (.ireturn, 1) := by decide +kernel
def f_Chars_isLooseMark (a0 : Int32) (S : zSt) : Option Int32 := ((f_String_indexOf 8 a0 S).bind fun u1 => (if u1 < 0 then (gdb 0 (some 0)) else (gdb 1 (some 1))))
set_option maxHeartbeats 4000000 in
set_option maxRecDepth 100000 in
theorem c_Chars_isLooseMark (l : Launch) (g : zG) (hD : GD g) (a0 : Int32) (S : zSt) (u : Int32) (h : f_Chars_isLooseMark a0 S = some u) : Met l y_Chars_isLooseMark (mw y_Chars_isLooseMark b_Chars_isLooseMark 1 (some .boolean)) (rmD 4) (Pw g [.int a0] S) (Qip g S u) 0 0 (gA g) := by
  refine z_go (own := R_Chars) (lv0 := [(0, .int a0)]) hD (by decide) rfl (Nat.le_of_ble_eq_true rfl) rfl ?_
  intro p e s m args below meth c C D ls hl
  have hx := C.1
  have hb := C.2.1
  have hown := C.2.2.2.1
  have hts := C.2.2.2.2.1
  unfold f_Chars_isLooseMark at h
  refine x_lds C (q := 8) wl_Chars_25 d_Chars_isLooseMark_0 ?_
  refine lv_iload_n hx hb d_Chars_isLooseMark_2 rfl (lv_at hl 0 rfl) ?_
  obtain ⟨u1, hu1, h⟩ := bd_some h
  refine x_cip (rest := []) (r_Str C D (c_String_indexOf l g hD 8 (by decide) a0 S u1 hu1) wc_String_indexOf wm_Chars_15 wi_String_indexOf wd_String_indexOf (by decide) rfl rfl rfl hl (Nat.le_of_ble_eq_true rfl) (by decide) d_Chars_isLooseMark_3) D (fun H locs D => ?_)
  refine lv_if_lt hx hb d_Chars_isLooseMark_6 rfl (fun z => ?_) (fun z => ?_)
  · replace h := if_t z h
    refine lv_iconst (v := 0) hx hb d_Chars_isLooseMark_13 (by decide) ?_
    exact x_zrp C D h d_Chars_isLooseMark_14
  · replace h := if_f z h
    refine lv_iconst (v := 1) hx hb d_Chars_isLooseMark_9 (by decide) ?_
    refine lv_goto hx hb d_Chars_isLooseMark_10 rfl ?_
    exact x_zrp C D h d_Chars_isLooseMark_14
