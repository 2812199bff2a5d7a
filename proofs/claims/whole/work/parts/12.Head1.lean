theorem d_Head_clear_0 : decode b_Head_clear 0 = .ok (.aload_n 0, 1) := by decide +kernel
theorem d_Head_clear_1 : decode b_Head_clear 1 = .ok (.iconst 0, 1) := by decide +kernel
theorem d_Head_clear_2 : decode b_Head_clear 2 = .ok (.putfield 12, 3) := by decide +kernel
theorem d_Head_clear_5 : decode b_Head_clear 5 = .ok (.aload_n 0, 1) := by decide +kernel
theorem d_Head_clear_6 : decode b_Head_clear 6 = .ok (.iconst 0, 1) := by decide +kernel
theorem d_Head_clear_7 : decode b_Head_clear 7 = .ok (.putfield 16, 3) := by decide +kernel
theorem d_Head_clear_10 : decode b_Head_clear 10 = .ok (.aload_n 0, 1) := by decide +kernel
theorem d_Head_clear_11 : decode b_Head_clear 11 = .ok (.iconst 0, 1) := by decide +kernel
theorem d_Head_clear_12 : decode b_Head_clear 12 = .ok (.putfield 19, 3) := by decide +kernel
theorem d_Head_clear_15 : decode b_Head_clear 15 = .ok (.aload_n 0, 1) := by decide +kernel
theorem d_Head_clear_16 : decode b_Head_clear 16 = .ok (.iconst (-1), 1) := by decide +kernel
theorem d_Head_clear_17 : decode b_Head_clear 17 = .ok (.putfield 22, 3) := by decide +kernel
theorem d_Head_clear_20 : decode b_Head_clear 20 = .ok (.aload_n 0, 1) := by decide +kernel
theorem d_Head_clear_21 : decode b_Head_clear 21 = .ok (.iconst 0, 1) := by decide +kernel
theorem d_Head_clear_22 : decode b_Head_clear 22 = .ok (.putfield 25, 3) := by decide +kernel
theorem d_Head_clear_25 : decode b_Head_clear 25 = .ok (.return_, 1) := by decide +kernel
def f_Head_clear (S : zSt) : Option zSt := sq (su S 9 0 0) fun S1 => sq (su S1 9 1 0) fun S2 => sq (su S2 9 2 0) fun S3 => sq (su S3 9 3 (-1)) fun S4 => gdb 0 (sq (su S4 9 4 0) fun S5 => (some S5))
set_option maxHeartbeats 4000000 in
set_option maxRecDepth 100000 in
theorem c_Head_clear (l : Launch) (g : zG) (hD : GD g) (S : zSt) (u : zSt) (h : f_Head_clear S = some u) : Met l y_Head_clear (mw y_Head_clear b_Head_clear 1 none) (rmD 0) (Pw g [.ref (ga g 9)] S) (Qvs g u) 0 0 (gA g) := by
  refine z_go (own := R_Head) (lv0 := [(0, .ref (ga g 9))]) hD (by decide) rfl (Nat.le_of_ble_eq_true rfl) rfl ?_
  intro p e s m args below meth c C D ls hl
  have hx := C.1
  have hb := C.2.1
  have hown := C.2.2.2.1
  have hts := C.2.2.2.2.1
  unfold f_Head_clear at h
  refine lv_aload_n hx hb d_Head_clear_0 rfl (lv_at hl 0 rfl) ?_
  refine lv_iconst (v := 0) hx hb d_Head_clear_1 (by decide) ?_
  refine x_put C D kc_Head (by decide) sh_9 0 rfl (by decide) wf_Head_12 rfl rfl 0 rfl ⟨rfl, rfl⟩ d_Head_clear_2 h (fun S1 H locs h D => ?_)
  refine lv_aload_n hx hb d_Head_clear_5 rfl (lv_at hl 0 rfl) ?_
  refine lv_iconst (v := 0) hx hb d_Head_clear_6 (by decide) ?_
  refine x_put C D kc_Head (by decide) sh_9 1 rfl (by decide) wf_Head_16 rfl rfl 0 rfl ⟨rfl, rfl⟩ d_Head_clear_7 h (fun S2 H locs h D => ?_)
  refine lv_aload_n hx hb d_Head_clear_10 rfl (lv_at hl 0 rfl) ?_
  refine lv_iconst (v := 0) hx hb d_Head_clear_11 (by decide) ?_
  refine x_put C D kc_Head (by decide) sh_9 2 rfl (by decide) wf_Head_19 rfl rfl 0 rfl ⟨rfl, rfl⟩ d_Head_clear_12 h (fun S3 H locs h D => ?_)
  refine lv_aload_n hx hb d_Head_clear_15 rfl (lv_at hl 0 rfl) ?_
  refine lv_iconst (v := (-1)) hx hb d_Head_clear_16 (by decide) ?_
  refine x_put C D kc_Head (by decide) sh_9 3 rfl (by decide) wf_Head_22 rfl rfl (-1) rfl ⟨rfl, rfl⟩ d_Head_clear_17 h (fun S4 H locs h D => ?_)
  refine lv_aload_n hx hb d_Head_clear_20 rfl (lv_at hl 0 rfl) ?_
  refine lv_iconst (v := 0) hx hb d_Head_clear_21 (by decide) ?_
  obtain ⟨z6, h⟩ := gdb_some h
  refine x_put C D kc_Head (by decide) sh_9 4 rfl (by decide) wf_Head_25 rfl rfl 0 rfl z6 d_Head_clear_22 h (fun S5 H locs h D => ?_)
  exact x_vrs C D h d_Head_clear_25
theorem d_Head_isForgotten_0 : decode b_Head_isForgotten 0 = .ok (.aload_n 0, 1) := by decide +kernel
theorem d_Head_isForgotten_1 : decode b_Head_isForgotten 1 = .ok (.getfield 12, 3) := by decide +kernel
theorem d_Head_isForgotten_4 : decode b_Head_isForgotten 4 = .ok (.bipush 100, 2) := by decide +kernel
theorem d_Head_isForgotten_6 : decode b_Head_isForgotten 6 = .ok (.if_icmp .lt 26, 3) := by decide +kernel
theorem d_Head_isForgotten_9 : decode b_Head_isForgotten 9 = .ok (.aload_n 0, 1) := by decide +kernel
theorem d_Head_isForgotten_10 : decode b_Head_isForgotten 10 = .ok (.getfield 12, 3) := by decide +kernel
theorem d_Head_isForgotten_13 : decode b_Head_isForgotten 13 = .ok (.sipush 199, 3) := by decide +kernel
theorem d_Head_isForgotten_16 : decode b_Head_isForgotten 16 = .ok (.if_icmp .gt 16, 3) := by decide +kernel
theorem d_Head_isForgotten_19 : decode b_Head_isForgotten 19 = .ok (.aload_n 0, 1) := by decide +kernel
theorem d_Head_isForgotten_20 : decode b_Head_isForgotten 20 = .ok (.getfield 12, 3) := by decide +kernel
theorem d_Head_isForgotten_23 : decode b_Head_isForgotten 23 = .ok (.bipush 101, 2) := by decide +kernel
theorem d_Head_isForgotten_25 : decode b_Head_isForgotten 25 = .ok (.if_icmp .eq 7, 3) := by decide +kernel
theorem d_Head_isForgotten_28 : decode b_Head_isForgotten 28 = .ok (.iconst 1, 1) := by decide +kernel
theorem d_Head_isForgotten_29 : decode b_Head_isForgotten 29 = .ok (.goto 4, 3) := by decide +kernel
theorem d_Head_isForgotten_32 : decode b_Head_isForgotten 32 = .ok (.iconst 0, 1) := by decide +kernel
theorem d_Head_isForgotten_33 : decode b_Head_isForgotten 33 = .ok (.ireturn, 1) := by decide +kernel
def f_Head_isForgotten_32 (S : zSt) : Option Int32 := (gdb 0 (some 0))
def f_Head_isForgotten (S : zSt) : Option Int32 := (if (S 9 0) < 100 then (f_Head_isForgotten_32 S) else (if 199 < (S 9 0) then (f_Head_isForgotten_32 S) else (if (S 9 0) = 101 then (f_Head_isForgotten_32 S) else (gdb 1 (some 1)))))
set_option maxHeartbeats 4000000 in
set_option maxRecDepth 100000 in
theorem c_Head_isForgotten (l : Launch) (g : zG) (hD : GD g) (S : zSt) (u : Int32) (h : f_Head_isForgotten S = some u) : Met l y_Head_isForgotten (mw y_Head_isForgotten b_Head_isForgotten 1 (some .boolean)) (rmD 0) (Pw g [.ref (ga g 9)] S) (Qip g S u) 0 0 (gA g) := by
  refine z_go (own := R_Head) (lv0 := [(0, .ref (ga g 9))]) hD (by decide) rfl (Nat.le_of_ble_eq_true rfl) rfl ?_
  intro p e s m args below meth c C D ls hl
  have hx := C.1
  have hb := C.2.1
  have hown := C.2.2.2.1
  have hts := C.2.2.2.2.1
  have B32 : ∀ (H : Heap) (locs : List Loc) (ls : Array Slot), f_Head_isForgotten_32 S = some u → Dy g s S H locs → lv_has ls 1 [] → W p l e (rmD 0) s m args below meth c H locs 0 0 (MQ below (Qip g S u) args s 0 0 (gA g)) (F0 m 32 ls []) := by
    intro H locs ls h D hl
    unfold f_Head_isForgotten_32 at h
    refine lv_iconst (v := 0) hx hb d_Head_isForgotten_32 (by decide) ?_
    exact x_zrp C D h d_Head_isForgotten_33
  unfold f_Head_isForgotten at h
  refine lv_aload_n hx hb d_Head_isForgotten_0 rfl (lv_at hl 0 rfl) ?_
  refine x_get (v := .int (S 9 0)) C D kc_Head (by decide) sh_9 0 rfl (by decide) wf_Head_12 rfl rfl d_Head_isForgotten_1 ?_
  refine lv_bipush (v := 100) hx hb d_Head_isForgotten_4 (by decide) ?_
  refine lv_icmp_lt hx hb d_Head_isForgotten_6 rfl (fun z => ?_) (fun z => ?_)
  · replace h := if_t z h
    exact B32 _ _ _ h D (lv_sub hl [] rfl)
  · replace h := if_f z h
    refine lv_aload_n hx hb d_Head_isForgotten_9 rfl (lv_at hl 0 rfl) ?_
    refine x_get (v := .int (S 9 0)) C D kc_Head (by decide) sh_9 0 rfl (by decide) wf_Head_12 rfl rfl d_Head_isForgotten_10 ?_
    refine lv_sipush (v := 199) hx hb d_Head_isForgotten_13 (by decide) ?_
    refine lv_icmp_gt hx hb d_Head_isForgotten_16 rfl (fun z => ?_) (fun z => ?_)
    · replace h := if_t z h
      exact B32 _ _ _ h D (lv_sub hl [] rfl)
    · replace h := if_f z h
      refine lv_aload_n hx hb d_Head_isForgotten_19 rfl (lv_at hl 0 rfl) ?_
      refine x_get (v := .int (S 9 0)) C D kc_Head (by decide) sh_9 0 rfl (by decide) wf_Head_12 rfl rfl d_Head_isForgotten_20 ?_
      refine lv_bipush (v := 101) hx hb d_Head_isForgotten_23 (by decide) ?_
      refine lv_icmp_eq hx hb d_Head_isForgotten_25 rfl (fun z => ?_) (fun z => ?_)
      · replace h := if_t z h
        exact B32 _ _ _ h D (lv_sub hl [] rfl)
      · replace h := if_f z h
        refine lv_iconst (v := 1) hx hb d_Head_isForgotten_28 (by decide) ?_
        refine lv_goto hx hb d_Head_isForgotten_29 rfl ?_
        exact x_zrp C D h d_Head_isForgotten_33
theorem d_Head_hasNoContent_0 : decode b_Head_hasNoContent 0 = .ok (.iload_n 1, 1) := by decide +kernel
theorem d_Head_hasNoContent_1 : decode b_Head_hasNoContent 1 = .ok (.iconst 1, 1) := by decide +kernel
theorem d_Head_hasNoContent_2 : decode b_Head_hasNoContent 2 = .ok (.if_icmp .eq 23, 3) := by decide +kernel
theorem d_Head_hasNoContent_5 : decode b_Head_hasNoContent 5 = .ok (.aload_n 0, 1) := by decide +kernel
theorem d_Head_hasNoContent_6 : decode b_Head_hasNoContent 6 = .ok (.getfield 12, 3) := by decide +kernel
theorem d_Head_hasNoContent_9 : decode b_Head_hasNoContent 9 = .ok (.sipush 204, 3) := by decide +kernel
theorem d_Head_hasNoContent_12 : decode b_Head_hasNoContent 12 = .ok (.if_icmp .eq 13, 3) := by decide +kernel
theorem d_Head_hasNoContent_15 : decode b_Head_hasNoContent 15 = .ok (.aload_n 0, 1) := by decide +kernel
theorem d_Head_hasNoContent_16 : decode b_Head_hasNoContent 16 = .ok (.getfield 12, 3) := by decide +kernel
theorem d_Head_hasNoContent_19 : decode b_Head_hasNoContent 19 = .ok (.sipush 304, 3) := by decide +kernel
theorem d_Head_hasNoContent_22 : decode b_Head_hasNoContent 22 = .ok (.if_icmp .ne 7, 3) := by decide +kernel
theorem d_Head_hasNoContent_25 : decode b_Head_hasNoContent 25 = .ok (.iconst 1, 1) := by decide +kernel
theorem d_Head_hasNoContent_26 : decode b_Head_hasNoContent 26 = .ok (.goto 4, 3) := by decide +kernel
theorem d_Head_hasNoContent_29 : decode b_Head_hasNoContent 29 = .ok (.iconst 0, 1) := by decide +kernel
theorem d_Head_hasNoContent_30 : decode b_Head_hasNoContent 30 = .ok (.ireturn, 1) := by decide +kernel
def f_Head_hasNoContent_25 (S : zSt) : Option Int32 := (gdb 1 (some 1))
def f_Head_hasNoContent (a1 : Int32) (S : zSt) : Option Int32 := (if a1 = 1 then (f_Head_hasNoContent_25 S) else (if (S 9 0) = 204 then (f_Head_hasNoContent_25 S) else (if (S 9 0) = 304 then (f_Head_hasNoContent_25 S) else (gdb 0 (some 0)))))
set_option maxHeartbeats 4000000 in
set_option maxRecDepth 100000 in
theorem c_Head_hasNoContent (l : Launch) (g : zG) (hD : GD g) (a1 : Int32) (S : zSt) (u : Int32) (h : f_Head_hasNoContent a1 S = some u) : Met l y_Head_hasNoContent (mw y_Head_hasNoContent b_Head_hasNoContent 2 (some .boolean)) (rmD 0) (Pw g [.ref (ga g 9), .int a1] S) (Qip g S u) 0 0 (gA g) := by
  refine z_go (own := R_Head) (lv0 := [(0, .ref (ga g 9)), (1, .int a1)]) hD (by decide) rfl (Nat.le_of_ble_eq_true rfl) rfl ?_
  intro p e s m args below meth c C D ls hl
  have hx := C.1
  have hb := C.2.1
  have hown := C.2.2.2.1
  have hts := C.2.2.2.2.1
  have B25 : ∀ (H : Heap) (locs : List Loc) (ls : Array Slot), f_Head_hasNoContent_25 S = some u → Dy g s S H locs → lv_has ls 2 [] → W p l e (rmD 0) s m args below meth c H locs 0 0 (MQ below (Qip g S u) args s 0 0 (gA g)) (F0 m 25 ls []) := by
    intro H locs ls h D hl
    unfold f_Head_hasNoContent_25 at h
    refine lv_iconst (v := 1) hx hb d_Head_hasNoContent_25 (by decide) ?_
    refine lv_goto hx hb d_Head_hasNoContent_26 rfl ?_
    exact x_zrp C D h d_Head_hasNoContent_30
  unfold f_Head_hasNoContent at h
  refine lv_iload_n hx hb d_Head_hasNoContent_0 rfl (lv_at hl 1 rfl) ?_
  refine lv_iconst (v := 1) hx hb d_Head_hasNoContent_1 (by decide) ?_
  refine lv_icmp_eq hx hb d_Head_hasNoContent_2 rfl (fun z => ?_) (fun z => ?_)
  · replace h := if_t z h
    exact B25 _ _ _ h D (lv_sub hl [] rfl)
  · replace h := if_f z h
    refine lv_aload_n hx hb d_Head_hasNoContent_5 rfl (lv_at hl 0 rfl) ?_
    refine x_get (v := .int (S 9 0)) C D kc_Head (by decide) sh_9 0 rfl (by decide) wf_Head_12 rfl rfl d_Head_hasNoContent_6 ?_
    refine lv_sipush (v := 204) hx hb d_Head_hasNoContent_9 (by decide) ?_
    refine lv_icmp_eq hx hb d_Head_hasNoContent_12 rfl (fun z => ?_) (fun z => ?_)
    · replace h := if_t z h
      exact B25 _ _ _ h D (lv_sub hl [] rfl)
    · replace h := if_f z h
      refine lv_aload_n hx hb d_Head_hasNoContent_15 rfl (lv_at hl 0 rfl) ?_
      refine x_get (v := .int (S 9 0)) C D kc_Head (by decide) sh_9 0 rfl (by decide) wf_Head_12 rfl rfl d_Head_hasNoContent_16 ?_
      refine lv_sipush (v := 304) hx hb d_Head_hasNoContent_19 (by decide) ?_
      refine lv_icmp_ne hx hb d_Head_hasNoContent_22 rfl (fun z => ?_) (fun z => ?_)
      · replace h := if_f z h
        refine lv_iconst (v := 0) hx hb d_Head_hasNoContent_29 (by decide) ?_
        exact x_zrp C D h d_Head_hasNoContent_30
      · replace h := if_t z h
        exact B25 _ _ _ h D (lv_sub hl [] rfl)
theorem d_Head_setContentLength_0 : decode b_Head_setContentLength 0 = .ok (.iload_n 1, 1) := by decide +kernel
theorem d_Head_setContentLength_1 : decode b_Head_setContentLength 1 = .ok (.ifCond .lt 26, 3) := by decide +kernel
theorem d_Head_setContentLength_4 : decode b_Head_setContentLength 4 = .ok (.aload_n 0, 1) := by decide +kernel
theorem d_Head_setContentLength_5 : decode b_Head_setContentLength 5 = .ok (.getfield 25, 3) := by decide +kernel
theorem d_Head_setContentLength_8 : decode b_Head_setContentLength 8 = .ok (.ifCond .ne 19, 3) := by decide +kernel
theorem d_Head_setContentLength_11 : decode b_Head_setContentLength 11 = .ok (.aload_n 0, 1) := by decide +kernel
theorem d_Head_setContentLength_12 : decode b_Head_setContentLength 12 = .ok (.getfield 22, 3) := by decide +kernel
theorem d_Head_setContentLength_15 : decode b_Head_setContentLength 15 = .ok (.iconst (-1), 1) := by decide +kernel
theorem d_Head_setContentLength_16 : decode b_Head_setContentLength 16 = .ok (.if_icmp .eq 13, 3) := by decide +kernel
theorem d_Head_setContentLength_19 : decode b_Head_setContentLength 19 = .ok (.aload_n 0, 1) := by decide +kernel
theorem d_Head_setContentLength_20 : decode b_Head_setContentLength 20 = .ok (.getfield 22, 3) := by decide +kernel
theorem d_Head_setContentLength_23 : decode b_Head_setContentLength 23 = .ok (.iload_n 1, 1) := by decide +kernel
theorem d_Head_setContentLength_24 : decode b_Head_setContentLength 24 = .ok (.if_icmp .eq 5, 3) := by decide +kernel
theorem d_Head_setContentLength_27 : decode b_Head_setContentLength 27 = .ok (.iconst 0, 1) := by decide +kernel
theorem d_Head_setContentLength_28 : decode b_Head_setContentLength 28 = .ok (.ireturn, 1) := by decide +kernel
theorem d_Head_setContentLength_29 : decode b_Head_setContentLength 29 = .ok (.aload_n 0, 1) := by decide +kernel
theorem d_Head_setContentLength_30 : decode b_Head_setContentLength 30 = .ok (.iload_n 1, 1) := by decide +kernel
theorem d_Head_setContentLength_31 : decode b_Head_setContentLength 31 = .ok (.putfield 22, 3) := by decide +kernel
theorem d_Head_setContentLength_34 : decode b_Head_setContentLength 34 = .ok (.iconst 1, 1) := by decide +kernel
theorem d_Head_setContentLength_35 : decode b_Head_setContentLength 35 = .ok (.ireturn, 1) := by decide +kernel
def f_Head_setContentLength_29 (a1 : Int32) (S : zSt) : Option (Int32 × zSt) := sq (su S 9 3 a1) fun S1 => (gdb 1 (some (1, S1)))
def f_Head_setContentLength (a1 : Int32) (S : zSt) : Option (Int32 × zSt) := (if a1 < 0 then (gdb 0 (some (0, S))) else (if (S 9 4) = 0 then (if (S 9 3) = (-1) then (f_Head_setContentLength_29 a1 S) else (if (S 9 3) = a1 then (f_Head_setContentLength_29 a1 S) else (gdb 0 (some (0, S))))) else (gdb 0 (some (0, S)))))
set_option maxHeartbeats 4000000 in
set_option maxRecDepth 100000 in
theorem c_Head_setContentLength (l : Launch) (g : zG) (hD : GD g) (a1 : Int32) (S : zSt) (u : (Int32 × zSt)) (h : f_Head_setContentLength a1 S = some u) : Met l y_Head_setContentLength (mw y_Head_setContentLength b_Head_setContentLength 2 (some .boolean)) (rmD 0) (Pw g [.ref (ga g 9), .int a1] S) (Qis g u) 0 0 (gA g) := by
  refine z_go (own := R_Head) (lv0 := [(0, .ref (ga g 9)), (1, .int a1)]) hD (by decide) rfl (Nat.le_of_ble_eq_true rfl) rfl ?_
  intro p e s m args below meth c C D ls hl
  have hx := C.1
  have hb := C.2.1
  have hown := C.2.2.2.1
  have hts := C.2.2.2.2.1
  have B29 : ∀ (H : Heap) (locs : List Loc) (S : zSt) (ls : Array Slot) (a1 : Int32), f_Head_setContentLength_29 a1 S = some u → Dy g s S H locs → lv_has ls 2 [(0, .ref (ga g 9)), (1, .int a1)] → W p l e (rmD 0) s m args below meth c H locs 0 0 (MQ below (Qis g u) args s 0 0 (gA g)) (F0 m 29 ls []) := by
    intro H locs S ls a1 h D hl
    unfold f_Head_setContentLength_29 at h
    refine lv_aload_n hx hb d_Head_setContentLength_29 rfl (lv_at hl 0 rfl) ?_
    refine lv_iload_n hx hb d_Head_setContentLength_30 rfl (lv_at hl 1 rfl) ?_
    refine x_put C D kc_Head (by decide) sh_9 3 rfl (by decide) wf_Head_22 rfl rfl a1 rfl ⟨rfl, rfl⟩ d_Head_setContentLength_31 h (fun S1 H locs h D => ?_)
    refine lv_iconst (v := 1) hx hb d_Head_setContentLength_34 (by decide) ?_
    exact x_zrs C D h d_Head_setContentLength_35
  unfold f_Head_setContentLength at h
  refine lv_iload_n hx hb d_Head_setContentLength_0 rfl (lv_at hl 1 rfl) ?_
  refine lv_if_lt hx hb d_Head_setContentLength_1 rfl (fun z => ?_) (fun z => ?_)
  · replace h := if_t z h
    refine lv_iconst (v := 0) hx hb d_Head_setContentLength_27 (by decide) ?_
    exact x_zrs C D h d_Head_setContentLength_28
  · replace h := if_f z h
    refine lv_aload_n hx hb d_Head_setContentLength_4 rfl (lv_at hl 0 rfl) ?_
    refine x_get (v := .int (S 9 4)) C D kc_Head (by decide) sh_9 4 rfl (by decide) wf_Head_25 rfl rfl d_Head_setContentLength_5 ?_
    refine lv_if_ne hx hb d_Head_setContentLength_8 rfl (fun z => ?_) (fun z => ?_)
    · replace h := if_f z h
      refine lv_iconst (v := 0) hx hb d_Head_setContentLength_27 (by decide) ?_
      exact x_zrs C D h d_Head_setContentLength_28
    · replace h := if_t z h
      refine lv_aload_n hx hb d_Head_setContentLength_11 rfl (lv_at hl 0 rfl) ?_
      refine x_get (v := .int (S 9 3)) C D kc_Head (by decide) sh_9 3 rfl (by decide) wf_Head_22 rfl rfl d_Head_setContentLength_12 ?_
      refine lv_iconst (v := (-1)) hx hb d_Head_setContentLength_15 (by decide) ?_
      refine lv_icmp_eq hx hb d_Head_setContentLength_16 rfl (fun z => ?_) (fun z => ?_)
      · replace h := if_t z h
        exact B29 _ _ _ _ _ h D (lv_sub hl [0, 1] rfl)
      · replace h := if_f z h
        refine lv_aload_n hx hb d_Head_setContentLength_19 rfl (lv_at hl 0 rfl) ?_
        refine x_get (v := .int (S 9 3)) C D kc_Head (by decide) sh_9 3 rfl (by decide) wf_Head_22 rfl rfl d_Head_setContentLength_20 ?_
        refine lv_iload_n hx hb d_Head_setContentLength_23 rfl (lv_at hl 1 rfl) ?_
        refine lv_icmp_eq hx hb d_Head_setContentLength_24 rfl (fun z => ?_) (fun z => ?_)
        · replace h := if_t z h
          exact B29 _ _ _ _ _ h D (lv_sub hl [0, 1] rfl)
        · replace h := if_f z h
          refine lv_iconst (v := 0) hx hb d_Head_setContentLength_27 (by decide) ?_
          exact x_zrs C D h d_Head_setContentLength_28
theorem d_Head_setChunked_0 : decode b_Head_setChunked 0 = .ok (.aload_n 0, 1) := by decide +kernel
theorem d_Head_setChunked_1 : decode b_Head_setChunked 1 = .ok (.getfield 25, 3) := by decide +kernel
theorem d_Head_setChunked_4 : decode b_Head_setChunked 4 = .ok (.ifCond .ne 11, 3) := by decide +kernel
theorem d_Head_setChunked_7 : decode b_Head_setChunked 7 = .ok (.aload_n 0, 1) := by decide +kernel
theorem d_Head_setChunked_8 : decode b_Head_setChunked 8 = .ok (.getfield 22, 3) := by decide +kernel
theorem d_Head_setChunked_11 : decode b_Head_setChunked 11 = .ok (.iconst (-1), 1) := by decide +kernel
theorem d_Head_setChunked_12 : decode b_Head_setChunked 12 = .ok (.if_icmp .eq 5, 3) := by decide +kernel
theorem d_Head_setChunked_15 : decode b_Head_setChunked 15 = .ok (.iconst 0, 1) := by decide +kernel
theorem d_Head_setChunked_16 : decode b_Head_setChunked 16 = .ok (.ireturn, 1) := by decide +kernel
theorem d_Head_setChunked_17 : decode b_Head_setChunked 17 = .ok (.aload_n 0, 1) := by decide +kernel
theorem d_Head_setChunked_18 : decode b_Head_setChunked 18 = .ok (.iconst 1, 1) := by decide +kernel
theorem d_Head_setChunked_19 : decode b_Head_setChunked 19 = .ok (.putfield 25, 3) := by decide +kernel
theorem d_Head_setChunked_22 : decode b_Head_setChunked 22 = .ok (.iconst 1, 1) := by decide +kernel
theorem d_Head_setChunked_23 : decode b_Head_setChunked 23 = .ok (.ireturn, 1) := by decide +kernel
def f_Head_setChunked (S : zSt) : Option (Int32 × zSt) := (if (S 9 4) = 0 then (if (S 9 3) = (-1) then gdb 1 (sq (su S 9 4 1) fun S1 => (gdb 1 (some (1, S1)))) else (gdb 0 (some (0, S)))) else (gdb 0 (some (0, S))))
set_option maxHeartbeats 4000000 in
set_option maxRecDepth 100000 in
theorem c_Head_setChunked (l : Launch) (g : zG) (hD : GD g) (S : zSt) (u : (Int32 × zSt)) (h : f_Head_setChunked S = some u) : Met l y_Head_setChunked (mw y_Head_setChunked b_Head_setChunked 1 (some .boolean)) (rmD 0) (Pw g [.ref (ga g 9)] S) (Qis g u) 0 0 (gA g) := by
  refine z_go (own := R_Head) (lv0 := [(0, .ref (ga g 9))]) hD (by decide) rfl (Nat.le_of_ble_eq_true rfl) rfl ?_
  intro p e s m args below meth c C D ls hl
  have hx := C.1
  have hb := C.2.1
  have hown := C.2.2.2.1
  have hts := C.2.2.2.2.1
  unfold f_Head_setChunked at h
  refine lv_aload_n hx hb d_Head_setChunked_0 rfl (lv_at hl 0 rfl) ?_
  refine x_get (v := .int (S 9 4)) C D kc_Head (by decide) sh_9 4 rfl (by decide) wf_Head_25 rfl rfl d_Head_setChunked_1 ?_
  refine lv_if_ne hx hb d_Head_setChunked_4 rfl (fun z => ?_) (fun z => ?_)
  · replace h := if_f z h
    refine lv_iconst (v := 0) hx hb d_Head_setChunked_15 (by decide) ?_
    exact x_zrs C D h d_Head_setChunked_16
  · replace h := if_t z h
    refine lv_aload_n hx hb d_Head_setChunked_7 rfl (lv_at hl 0 rfl) ?_
    refine x_get (v := .int (S 9 3)) C D kc_Head (by decide) sh_9 3 rfl (by decide) wf_Head_22 rfl rfl d_Head_setChunked_8 ?_
    refine lv_iconst (v := (-1)) hx hb d_Head_setChunked_11 (by decide) ?_
    refine lv_icmp_eq hx hb d_Head_setChunked_12 rfl (fun z => ?_) (fun z => ?_)
    · replace h := if_t z h
      refine lv_aload_n hx hb d_Head_setChunked_17 rfl (lv_at hl 0 rfl) ?_
      refine lv_iconst (v := 1) hx hb d_Head_setChunked_18 (by decide) ?_
      obtain ⟨z2, h⟩ := gdb_some h
      refine x_put C D kc_Head (by decide) sh_9 4 rfl (by decide) wf_Head_25 rfl rfl 1 rfl z2 d_Head_setChunked_19 h (fun S1 H locs h D => ?_)
      refine lv_iconst (v := 1) hx hb d_Head_setChunked_22 (by decide) ?_
      exact x_zrs C D h d_Head_setChunked_23
    · replace h := if_f z h
      refine lv_iconst (v := 0) hx hb d_Head_setChunked_15 (by decide) ?_
      exact x_zrs C D h d_Head_setChunked_16
theorem d_Head_readFirst_0 : decode b_Head_readFirst 0 = .ok (.aload_n 1, 1) := by decide +kernel
theorem d_Head_readFirst_1 : decode b_Head_readFirst 1 = .ok (.bipush 9, 2) := by decide +kernel
theorem d_Head_readFirst_3 : decode b_Head_readFirst 3 = .ok (.bipush 12, 2) := by decide +kernel
theorem d_Head_readFirst_5 : decode b_Head_readFirst 5 = .ok (.invokevirtual 31, 3) := by decide +kernel
theorem d_Head_readFirst_8 : decode b_Head_readFirst 8 = .ok (.istore_n 2, 1) := by decide +kernel
theorem d_Head_readFirst_9 : decode b_Head_readFirst 9 = .ok (.aload_n 1, 1) := by decide +kernel
theorem d_Head_readFirst_10 : decode b_Head_readFirst 10 = .ok (.ldc 37, 2) := by decide +kernel
theorem d_Head_readFirst_12 : decode b_Head_readFirst 12 = .ok (.invokevirtual 39, 3) := by decide +kernel
theorem d_Head_readFirst_15 : decode b_Head_readFirst 15 = .ok (.ifCond .eq 27, 3) := by decide +kernel
theorem d_Head_readFirst_18 : decode b_Head_readFirst 18 = .ok (.aload_n 1, 1) := by decide +kernel
theorem d_Head_readFirst_19 : decode b_Head_readFirst 19 = .ok (.bipush 12, 2) := by decide +kernel
theorem d_Head_readFirst_21 : decode b_Head_readFirst 21 = .ok (.invokevirtual 43, 3) := by decide +kernel
theorem d_Head_readFirst_24 : decode b_Head_readFirst 24 = .ok (.bipush 32, 2) := by decide +kernel
theorem d_Head_readFirst_26 : decode b_Head_readFirst 26 = .ok (.if_icmp .ne 16, 3) := by decide +kernel
theorem d_Head_readFirst_29 : decode b_Head_readFirst 29 = .ok (.iload_n 2, 1) := by decide +kernel
theorem d_Head_readFirst_30 : decode b_Head_readFirst 30 = .ok (.bipush 100, 2) := by decide +kernel
theorem d_Head_readFirst_32 : decode b_Head_readFirst 32 = .ok (.if_icmp .lt 10, 3) := by decide +kernel
theorem d_Head_readFirst_35 : decode b_Head_readFirst 35 = .ok (.iload_n 2, 1) := by decide +kernel
theorem d_Head_readFirst_36 : decode b_Head_readFirst 36 = .ok (.sipush 599, 3) := by decide +kernel
theorem d_Head_readFirst_39 : decode b_Head_readFirst 39 = .ok (.if_icmp .le 5, 3) := by decide +kernel
theorem d_Head_readFirst_42 : decode b_Head_readFirst 42 = .ok (.iconst 0, 1) := by decide +kernel
theorem d_Head_readFirst_43 : decode b_Head_readFirst 43 = .ok (.ireturn, 1) := by decide +kernel
theorem d_Head_readFirst_44 : decode b_Head_readFirst 44 = .ok (.aload_n 0, 1) := by decide +kernel
theorem d_Head_readFirst_45 : decode b_Head_readFirst 45 = .ok (.iload_n 2, 1) := by decide +kernel
theorem d_Head_readFirst_46 : decode b_Head_readFirst 46 = .ok (.putfield 12, 3) := by decide +kernel
theorem d_Head_readFirst_49 : decode b_Head_readFirst 49 = .ok (.iconst 1, 1) := by decide +kernel
theorem d_Head_readFirst_50 : decode b_Head_readFirst 50 = .ok (.ireturn, 1) := by decide +kernel
def f_Head_readFirst (S : zSt) : Option (Int32 × zSt) := ((f_Line_number 9 12 S).bind fun u1 => ((f_Line_startsWith 15 S).bind fun u2 => (if u2 = 0 then (gdb 0 (some (0, S))) else ((f_Line_at 12 S).bind fun u3 => (if u3 = 32 then (if u1 < 100 then (gdb 0 (some (0, S))) else (if u1 ≤ 599 then sq (su S 9 0 u1) fun S4 => (gdb 1 (some (1, S4))) else (gdb 0 (some (0, S))))) else (gdb 0 (some (0, S))))))))
set_option maxHeartbeats 4000000 in
set_option maxRecDepth 100000 in
theorem c_Head_readFirst (l : Launch) (g : zG) (hD : GD g) (S : zSt) (u : (Int32 × zSt)) (h : f_Head_readFirst S = some u) : Met l y_Head_readFirst (mw y_Head_readFirst b_Head_readFirst 3 (some .boolean)) (rmD 5) (Pw g [.ref (ga g 9), .ref (ga g 7)] S) (Qis g u) 0 0 (gA g) := by
  refine z_go (own := R_Head) (lv0 := [(0, .ref (ga g 9)), (1, .ref (ga g 7))]) hD (by decide) rfl (Nat.le_of_ble_eq_true rfl) rfl ?_
  intro p e s m args below meth c C D ls hl
  have hx := C.1
  have hb := C.2.1
  have hown := C.2.2.2.1
  have hts := C.2.2.2.2.1
  unfold f_Head_readFirst at h
  refine lv_aload_n hx hb d_Head_readFirst_0 rfl (lv_at hl 1 rfl) ?_
  refine lv_bipush (v := 9) hx hb d_Head_readFirst_1 (by decide) ?_
  refine lv_bipush (v := 12) hx hb d_Head_readFirst_3 (by decide) ?_
  obtain ⟨u1, hu1, h⟩ := bd_some h
  refine x_cip (rest := []) (r_V C D (c_Line_number l g hD 9 12 S u1 hu1) wc_Line_number wm_Head_31 wi_Line_number wd_Line_number (by decide) sh_7 kc_Line.1 rfl rfl hl (Nat.le_of_ble_eq_true rfl) (by decide) d_Head_readFirst_5) D (fun H locs D => ?_)
  refine lv_istore_n (lv' := [(2, .int u1), (0, .ref (ga g 9)), (1, .ref (ga g 7))]) hx hb d_Head_readFirst_8 rfl hl (by decide) rfl (fun ls hl => ?_)
  refine lv_aload_n hx hb d_Head_readFirst_9 rfl (lv_at hl 2 rfl) ?_
  refine x_lds C (q := 15) wl_Head_37 d_Head_readFirst_10 ?_
  obtain ⟨u2, hu2, h⟩ := bd_some h
  refine x_cip (rest := []) (r_V C D (c_Line_startsWith l g hD 15 (by decide) S u2 hu2) wc_Line_startsWith wm_Head_39 wi_Line_startsWith wd_Line_startsWith (by decide) sh_7 kc_Line.1 rfl rfl hl (Nat.le_of_ble_eq_true rfl) (by decide) d_Head_readFirst_12) D (fun H locs D => ?_)
  refine lv_if_eq hx hb d_Head_readFirst_15 rfl (fun z => ?_) (fun z => ?_)
  · replace h := if_t z h
    refine lv_iconst (v := 0) hx hb d_Head_readFirst_42 (by decide) ?_
    exact x_zrs C D h d_Head_readFirst_43
  · replace h := if_f z h
    refine lv_aload_n hx hb d_Head_readFirst_18 rfl (lv_at hl 2 rfl) ?_
    refine lv_bipush (v := 12) hx hb d_Head_readFirst_19 (by decide) ?_
    obtain ⟨u3, hu3, h⟩ := bd_some h
    refine x_cip (rest := []) (r_V C D (c_Line_at l g hD 12 S u3 hu3) wc_Line_at wm_Head_43 wi_Line_at wd_Line_at (by decide) sh_7 kc_Line.1 rfl rfl hl (Nat.le_of_ble_eq_true rfl) (by decide) d_Head_readFirst_21) D (fun H locs D => ?_)
    refine lv_bipush (v := 32) hx hb d_Head_readFirst_24 (by decide) ?_
    refine lv_icmp_ne hx hb d_Head_readFirst_26 rfl (fun z => ?_) (fun z => ?_)
    · replace h := if_f z h
      refine lv_iconst (v := 0) hx hb d_Head_readFirst_42 (by decide) ?_
      exact x_zrs C D h d_Head_readFirst_43
    · replace h := if_t z h
      refine lv_iload_n hx hb d_Head_readFirst_29 rfl (lv_at hl 0 rfl) ?_
      refine lv_bipush (v := 100) hx hb d_Head_readFirst_30 (by decide) ?_
      refine lv_icmp_lt hx hb d_Head_readFirst_32 rfl (fun z => ?_) (fun z => ?_)
      · replace h := if_t z h
        refine lv_iconst (v := 0) hx hb d_Head_readFirst_42 (by decide) ?_
        exact x_zrs C D h d_Head_readFirst_43
      · replace h := if_f z h
        refine lv_iload_n hx hb d_Head_readFirst_35 rfl (lv_at hl 0 rfl) ?_
        refine lv_sipush (v := 599) hx hb d_Head_readFirst_36 (by decide) ?_
        refine lv_icmp_le hx hb d_Head_readFirst_39 rfl (fun z => ?_) (fun z => ?_)
        · replace h := if_t z h
          refine lv_aload_n hx hb d_Head_readFirst_44 rfl (lv_at hl 1 rfl) ?_
          refine lv_iload_n hx hb d_Head_readFirst_45 rfl (lv_at hl 0 rfl) ?_
          refine x_put C D kc_Head (by decide) sh_9 0 rfl (by decide) wf_Head_12 rfl rfl u1 rfl ⟨rfl, rfl⟩ d_Head_readFirst_46 h (fun S4 H locs h D => ?_)
          refine lv_iconst (v := 1) hx hb d_Head_readFirst_49 (by decide) ?_
          exact x_zrs C D h d_Head_readFirst_50
        · replace h := if_f z h
          refine lv_iconst (v := 0) hx hb d_Head_readFirst_42 (by decide) ?_
          exact x_zrs C D h d_Head_readFirst_43
theorem d_Head_readField_0 : decode b_Head_readField 0 = .ok (.aload_n 1, 1) := by decide +kernel
theorem d_Head_readField_1 : decode b_Head_readField 1 = .ok (.invokevirtual 47, 3) := by decide +kernel
theorem d_Head_readField_4 : decode b_Head_readField 4 = .ok (.istore_n 2, 1) := by decide +kernel
theorem d_Head_readField_5 : decode b_Head_readField 5 = .ok (.iload_n 2, 1) := by decide +kernel
theorem d_Head_readField_6 : decode b_Head_readField 6 = .ok (.ifCond .lt 12, 3) := by decide +kernel
theorem d_Head_readField_9 : decode b_Head_readField 9 = .ok (.aload_n 0, 1) := by decide +kernel
theorem d_Head_readField_10 : decode b_Head_readField 10 = .ok (.getfield 16, 3) := by decide +kernel
theorem d_Head_readField_13 : decode b_Head_readField 13 = .ok (.bipush 8, 2) := by decide +kernel
theorem d_Head_readField_15 : decode b_Head_readField 15 = .ok (.if_icmp .lt 5, 3) := by decide +kernel
theorem d_Head_readField_18 : decode b_Head_readField 18 = .ok (.iconst 0, 1) := by decide +kernel
theorem d_Head_readField_19 : decode b_Head_readField 19 = .ok (.ireturn, 1) := by decide +kernel
theorem d_Head_readField_20 : decode b_Head_readField 20 = .ok (.aload_n 1, 1) := by decide +kernel
theorem d_Head_readField_21 : decode b_Head_readField 21 = .ok (.iload_n 2, 1) := by decide +kernel
theorem d_Head_readField_22 : decode b_Head_readField 22 = .ok (.iconst 1, 1) := by decide +kernel
theorem d_Head_readField_23 : decode b_Head_readField 23 = .ok (.iadd, 1) := by decide +kernel
theorem d_Head_readField_24 : decode b_Head_readField 24 = .ok (.invokevirtual 51, 3) := by decide +kernel
theorem d_Head_readField_27 : decode b_Head_readField 27 = .ok (.istore_n 3, 1) := by decide +kernel
theorem d_Head_readField_28 : decode b_Head_readField 28 = .ok (.aload_n 1, 1) := by decide +kernel
theorem d_Head_readField_29 : decode b_Head_readField 29 = .ok (.iload_n 3, 1) := by decide +kernel
theorem d_Head_readField_30 : decode b_Head_readField 30 = .ok (.invokevirtual 55, 3) := by decide +kernel
theorem d_Head_readField_33 : decode b_Head_readField 33 = .ok (.istore 4, 2) := by decide +kernel
theorem d_Head_readField_35 : decode b_Head_readField 35 = .ok (.iconst 1, 1) := by decide +kernel
theorem d_Head_readField_36 : decode b_Head_readField 36 = .ok (.istore 5, 2) := by decide +kernel
theorem d_Head_readField_38 : decode b_Head_readField 38 = .ok (.aload_n 1, 1) := by decide +kernel
theorem d_Head_readField_39 : decode b_Head_readField 39 = .ok (.iconst 0, 1) := by decide +kernel
theorem d_Head_readField_40 : decode b_Head_readField 40 = .ok (.iload_n 2, 1) := by decide +kernel
theorem d_Head_readField_41 : decode b_Head_readField 41 = .ok (.ldc 58, 2) := by decide +kernel
theorem d_Head_readField_43 : decode b_Head_readField 43 = .ok (.invokevirtual 60, 3) := by decide +kernel
theorem d_Head_readField_46 : decode b_Head_readField 46 = .ok (.ifCond .eq 19, 3) := by decide +kernel
theorem d_Head_readField_49 : decode b_Head_readField 49 = .ok (.aload_n 0, 1) := by decide +kernel
theorem d_Head_readField_50 : decode b_Head_readField 50 = .ok (.aload_n 1, 1) := by decide +kernel
theorem d_Head_readField_51 : decode b_Head_readField 51 = .ok (.iload_n 3, 1) := by decide +kernel
theorem d_Head_readField_52 : decode b_Head_readField 52 = .ok (.iload 4, 2) := by decide +kernel
theorem d_Head_readField_54 : decode b_Head_readField 54 = .ok (.invokevirtual 31, 3) := by decide +kernel
theorem d_Head_readField_57 : decode b_Head_readField 57 = .ok (.invokevirtual 64, 3) := by decide +kernel
theorem d_Head_readField_60 : decode b_Head_readField 60 = .ok (.istore 5, 2) := by decide +kernel
theorem d_Head_readField_62 : decode b_Head_readField 62 = .ok (.goto 40, 3) := by decide +kernel
theorem d_Head_readField_65 : decode b_Head_readField 65 = .ok (.aload_n 1, 1) := by decide +kernel
theorem d_Head_readField_66 : decode b_Head_readField 66 = .ok (.iconst 0, 1) := by decide +kernel
theorem d_Head_readField_67 : decode b_Head_readField 67 = .ok (.iload_n 2, 1) := by decide +kernel
theorem d_Head_readField_68 : decode b_Head_readField 68 = .ok (.ldc 68, 2) := by decide +kernel
theorem d_Head_readField_70 : decode b_Head_readField 70 = .ok (.invokevirtual 60, 3) := by decide +kernel
theorem d_Head_readField_73 : decode b_Head_readField 73 = .ok (.ifCond .eq 29, 3) := by decide +kernel
theorem d_Head_readField_76 : decode b_Head_readField 76 = .ok (.aload_n 1, 1) := by decide +kernel
theorem d_Head_readField_77 : decode b_Head_readField 77 = .ok (.iload_n 3, 1) := by decide +kernel
theorem d_Head_readField_78 : decode b_Head_readField 78 = .ok (.iload 4, 2) := by decide +kernel
theorem d_Head_readField_80 : decode b_Head_readField 80 = .ok (.ldc 70, 2) := by decide +kernel
theorem d_Head_readField_82 : decode b_Head_readField 82 = .ok (.invokevirtual 60, 3) := by decide +kernel
theorem d_Head_readField_85 : decode b_Head_readField 85 = .ok (.ifCond .eq 14, 3) := by decide +kernel
theorem d_Head_readField_88 : decode b_Head_readField 88 = .ok (.aload_n 0, 1) := by decide +kernel
theorem d_Head_readField_89 : decode b_Head_readField 89 = .ok (.invokevirtual 71, 3) := by decide +kernel
theorem d_Head_readField_92 : decode b_Head_readField 92 = .ok (.ifCond .eq 7, 3) := by decide +kernel
theorem d_Head_readField_95 : decode b_Head_readField 95 = .ok (.iconst 1, 1) := by decide +kernel
theorem d_Head_readField_96 : decode b_Head_readField 96 = .ok (.goto 4, 3) := by decide +kernel
theorem d_Head_readField_99 : decode b_Head_readField 99 = .ok (.iconst 0, 1) := by decide +kernel
theorem d_Head_readField_100 : decode b_Head_readField 100 = .ok (.istore 5, 2) := by decide +kernel
theorem d_Head_readField_102 : decode b_Head_readField 102 = .ok (.iload 5, 2) := by decide +kernel
theorem d_Head_readField_104 : decode b_Head_readField 104 = .ok (.ifCond .eq 13, 3) := by decide +kernel
theorem d_Head_readField_107 : decode b_Head_readField 107 = .ok (.aload_n 0, 1) := by decide +kernel
theorem d_Head_readField_108 : decode b_Head_readField 108 = .ok (.dup, 1) := by decide +kernel
theorem d_Head_readField_109 : decode b_Head_readField 109 = .ok (.getfield 16, 3) := by decide +kernel
theorem d_Head_readField_112 : decode b_Head_readField 112 = .ok (.iconst 1, 1) := by decide +kernel
theorem d_Head_readField_113 : decode b_Head_readField 113 = .ok (.iadd, 1) := by decide +kernel
theorem d_Head_readField_114 : decode b_Head_readField 114 = .ok (.putfield 16, 3) := by decide +kernel
theorem d_Head_readField_117 : decode b_Head_readField 117 = .ok (.iload 5, 2) := by decide +kernel
theorem d_Head_readField_119 : decode b_Head_readField 119 = .ok (.ireturn, 1) := by decide +kernel
def f_Head_readField_102 (a5 : Int32) (S : zSt) : Option (Int32 × zSt) := (if a5 = 0 then (gdb a5 (some (a5, S))) else sq (su S 9 1 ((S 9 1) + 1)) fun S6 => (gdb a5 (some (a5, S6))))
def f_Head_readField_100 (t0 : Int32) (S : zSt) : Option (Int32 × zSt) := (f_Head_readField_102 t0 S)
def f_Head_readField_99 (S : zSt) : Option (Int32 × zSt) := (f_Head_readField_100 0 S)
def f_Head_readField (S : zSt) : Option (Int32 × zSt) := ((f_Line_colonBehindName S).bind fun u1 => (if u1 < 0 then (gdb 0 (some (0, S))) else (if (S 9 1) < 8 then ((f_Line_skipBlanks (u1 + 1) S).bind fun u2 => ((f_Line_endWithoutBlanks u2 S).bind fun u3 => ((f_Line_isWord 0 u1 16 S).bind fun u4 => (if u4 = 0 then ((f_Line_isWord 0 u1 17 S).bind fun u5 => (if u5 = 0 then (f_Head_readField_102 1 S) else ((f_Line_isWord u2 u3 18 S).bind fun u7 => (if u7 = 0 then (f_Head_readField_99 S) else ((f_Head_setChunked S).bind fun u8 => (if u8.1 = 0 then (f_Head_readField_99 u8.2) else (f_Head_readField_100 1 u8.2))))))) else ((f_Line_number u2 u3 S).bind fun u9 => ((f_Head_setContentLength u9 S).bind fun u10 => (f_Head_readField_102 u10.1 u10.2))))))) else (gdb 0 (some (0, S))))))
set_option maxHeartbeats 4000000 in
set_option maxRecDepth 100000 in
theorem c_Head_readField (l : Launch) (g : zG) (hD : GD g) (S : zSt) (u : (Int32 × zSt)) (h : f_Head_readField S = some u) : Met l y_Head_readField (mw y_Head_readField b_Head_readField 6 (some .boolean)) (rmD 5) (Pw g [.ref (ga g 9), .ref (ga g 7)] S) (Qis g u) 0 0 (gA g) := by
  refine z_go (own := R_Head) (lv0 := [(0, .ref (ga g 9)), (1, .ref (ga g 7))]) hD (by decide) rfl (Nat.le_of_ble_eq_true rfl) rfl ?_
  intro p e s m args below meth c C D ls hl
  have hx := C.1
  have hb := C.2.1
  have hown := C.2.2.2.1
  have hts := C.2.2.2.2.1
  have B102 : ∀ (H : Heap) (locs : List Loc) (S : zSt) (ls : Array Slot) (a5 : Int32), f_Head_readField_102 a5 S = some u → Dy g s S H locs → lv_has ls 6 [(0, .ref (ga g 9)), (5, .int a5)] → W p l e (rmD 5) s m args below meth c H locs 0 0 (MQ below (Qis g u) args s 0 0 (gA g)) (F0 m 102 ls []) := by
    intro H locs S ls a5 h D hl
    unfold f_Head_readField_102 at h
    refine lv_iload hx hb d_Head_readField_102 (lv_at hl 1 rfl) ?_
    refine lv_if_eq hx hb d_Head_readField_104 rfl (fun z => ?_) (fun z => ?_)
    · replace h := if_t z h
      refine lv_iload hx hb d_Head_readField_117 (lv_at hl 1 rfl) ?_
      exact x_zrs C D h d_Head_readField_119
    · replace h := if_f z h
      refine lv_aload_n hx hb d_Head_readField_107 rfl (lv_at hl 0 rfl) ?_
      refine lv_dup hx hb d_Head_readField_108 rfl ?_
      refine x_get (v := .int (S 9 1)) C D kc_Head (by decide) sh_9 1 rfl (by decide) wf_Head_16 rfl rfl d_Head_readField_109 ?_
      refine lv_iconst (v := 1) hx hb d_Head_readField_112 (by decide) ?_
      refine lv_iadd hx hb d_Head_readField_113 ?_
      refine x_put C D kc_Head (by decide) sh_9 1 rfl (by decide) wf_Head_16 rfl rfl ((S 9 1) + 1) rfl ⟨rfl, rfl⟩ d_Head_readField_114 h (fun S6 H locs h D => ?_)
      refine lv_iload hx hb d_Head_readField_117 (lv_at hl 1 rfl) ?_
      exact x_zrs C D h d_Head_readField_119
  have B100 : ∀ (H : Heap) (locs : List Loc) (S : zSt) (ls : Array Slot) (t0 : Int32), f_Head_readField_100 t0 S = some u → Dy g s S H locs → lv_has ls 6 [(0, .ref (ga g 9))] → W p l e (rmD 5) s m args below meth c H locs 0 0 (MQ below (Qis g u) args s 0 0 (gA g)) (F0 m 100 ls [.int t0]) := by
    intro H locs S ls t0 h D hl
    unfold f_Head_readField_100 at h
    refine lv_istore (lv' := [(5, .int t0), (0, .ref (ga g 9))]) hx hb d_Head_readField_100 hl (by decide) rfl (fun ls hl => ?_)
    exact B102 _ _ _ _ _ h D (lv_sub hl [1, 0] rfl)
  have B99 : ∀ (H : Heap) (locs : List Loc) (S : zSt) (ls : Array Slot), f_Head_readField_99 S = some u → Dy g s S H locs → lv_has ls 6 [(0, .ref (ga g 9))] → W p l e (rmD 5) s m args below meth c H locs 0 0 (MQ below (Qis g u) args s 0 0 (gA g)) (F0 m 99 ls []) := by
    intro H locs S ls h D hl
    unfold f_Head_readField_99 at h
    refine lv_iconst (v := 0) hx hb d_Head_readField_99 (by decide) ?_
    exact B100 _ _ _ _ _ h D (lv_sub hl [0] rfl)
  unfold f_Head_readField at h
  refine lv_aload_n hx hb d_Head_readField_0 rfl (lv_at hl 1 rfl) ?_
  obtain ⟨u1, hu1, h⟩ := bd_some h
  refine x_cip (rest := []) (r_V C D (c_Line_colonBehindName l g hD S u1 hu1) wc_Line_colonBehindName wm_Head_47 wi_Line_colonBehindName wd_Line_colonBehindName (by decide) sh_7 kc_Line.1 rfl rfl hl (Nat.le_of_ble_eq_true rfl) (by decide) d_Head_readField_1) D (fun H locs D => ?_)
  refine lv_istore_n (lv' := [(2, .int u1), (0, .ref (ga g 9)), (1, .ref (ga g 7))]) hx hb d_Head_readField_4 rfl hl (by decide) rfl (fun ls hl => ?_)
  refine lv_iload_n hx hb d_Head_readField_5 rfl (lv_at hl 0 rfl) ?_
  refine lv_if_lt hx hb d_Head_readField_6 rfl (fun z => ?_) (fun z => ?_)
  · replace h := if_t z h
    refine lv_iconst (v := 0) hx hb d_Head_readField_18 (by decide) ?_
    exact x_zrs C D h d_Head_readField_19
  · replace h := if_f z h
    refine lv_aload_n hx hb d_Head_readField_9 rfl (lv_at hl 1 rfl) ?_
    refine x_get (v := .int (S 9 1)) C D kc_Head (by decide) sh_9 1 rfl (by decide) wf_Head_16 rfl rfl d_Head_readField_10 ?_
    refine lv_bipush (v := 8) hx hb d_Head_readField_13 (by decide) ?_
    refine lv_icmp_lt hx hb d_Head_readField_15 rfl (fun z => ?_) (fun z => ?_)
    · replace h := if_t z h
      refine lv_aload_n hx hb d_Head_readField_20 rfl (lv_at hl 2 rfl) ?_
      refine lv_iload_n hx hb d_Head_readField_21 rfl (lv_at hl 0 rfl) ?_
      refine lv_iconst (v := 1) hx hb d_Head_readField_22 (by decide) ?_
      refine lv_iadd hx hb d_Head_readField_23 ?_
      obtain ⟨u2, hu2, h⟩ := bd_some h
      refine x_cip (rest := []) (r_V C D (c_Line_skipBlanks l g hD (u1 + 1) S u2 hu2) wc_Line_skipBlanks wm_Head_51 wi_Line_skipBlanks wd_Line_skipBlanks (by decide) sh_7 kc_Line.1 rfl rfl hl (Nat.le_of_ble_eq_true rfl) (by decide) d_Head_readField_24) D (fun H locs D => ?_)
      refine lv_istore_n (lv' := [(3, .int u2), (2, .int u1), (0, .ref (ga g 9)), (1, .ref (ga g 7))]) hx hb d_Head_readField_27 rfl hl (by decide) rfl (fun ls hl => ?_)
      refine lv_aload_n hx hb d_Head_readField_28 rfl (lv_at hl 3 rfl) ?_
      refine lv_iload_n hx hb d_Head_readField_29 rfl (lv_at hl 0 rfl) ?_
      obtain ⟨u3, hu3, h⟩ := bd_some h
      refine x_cip (rest := []) (r_V C D (c_Line_endWithoutBlanks l g hD u2 S u3 hu3) wc_Line_endWithoutBlanks wm_Head_55 wi_Line_endWithoutBlanks wd_Line_endWithoutBlanks (by decide) sh_7 kc_Line.1 rfl rfl hl (Nat.le_of_ble_eq_true rfl) (by decide) d_Head_readField_30) D (fun H locs D => ?_)
      refine lv_istore (lv' := [(4, .int u3), (3, .int u2), (2, .int u1), (0, .ref (ga g 9)), (1, .ref (ga g 7))]) hx hb d_Head_readField_33 hl (by decide) rfl (fun ls hl => ?_)
      refine lv_iconst (v := 1) hx hb d_Head_readField_35 (by decide) ?_
      refine lv_istore (lv' := [(5, .int 1), (4, .int u3), (3, .int u2), (2, .int u1), (0, .ref (ga g 9)), (1, .ref (ga g 7))]) hx hb d_Head_readField_36 hl (by decide) rfl (fun ls hl => ?_)
      refine lv_aload_n hx hb d_Head_readField_38 rfl (lv_at hl 5 rfl) ?_
      refine lv_iconst (v := 0) hx hb d_Head_readField_39 (by decide) ?_
      refine lv_iload_n hx hb d_Head_readField_40 rfl (lv_at hl 3 rfl) ?_
      refine x_lds C (q := 16) wl_Head_58 d_Head_readField_41 ?_
      obtain ⟨u4, hu4, h⟩ := bd_some h
      refine x_cip (rest := []) (r_V C D (c_Line_isWord l g hD 0 u1 16 (by decide) S u4 hu4) wc_Line_isWord wm_Head_60 wi_Line_isWord wd_Line_isWord (by decide) sh_7 kc_Line.1 rfl rfl hl (Nat.le_of_ble_eq_true rfl) (by decide) d_Head_readField_43) D (fun H locs D => ?_)
      refine lv_if_eq hx hb d_Head_readField_46 rfl (fun z => ?_) (fun z => ?_)
      · replace h := if_t z h
        refine lv_aload_n hx hb d_Head_readField_65 rfl (lv_at hl 5 rfl) ?_
        refine lv_iconst (v := 0) hx hb d_Head_readField_66 (by decide) ?_
        refine lv_iload_n hx hb d_Head_readField_67 rfl (lv_at hl 3 rfl) ?_
        refine x_lds C (q := 17) wl_Head_68 d_Head_readField_68 ?_
        obtain ⟨u5, hu5, h⟩ := bd_some h
        refine x_cip (rest := []) (r_V C D (c_Line_isWord l g hD 0 u1 17 (by decide) S u5 hu5) wc_Line_isWord wm_Head_60 wi_Line_isWord wd_Line_isWord (by decide) sh_7 kc_Line.1 rfl rfl hl (Nat.le_of_ble_eq_true rfl) (by decide) d_Head_readField_70) D (fun H locs D => ?_)
        refine lv_if_eq hx hb d_Head_readField_73 rfl (fun z => ?_) (fun z => ?_)
        · replace h := if_t z h
          exact B102 _ _ _ _ _ h D (lv_sub hl [4, 0] rfl)
        · replace h := if_f z h
          refine lv_aload_n hx hb d_Head_readField_76 rfl (lv_at hl 5 rfl) ?_
          refine lv_iload_n hx hb d_Head_readField_77 rfl (lv_at hl 2 rfl) ?_
          refine lv_iload hx hb d_Head_readField_78 (lv_at hl 1 rfl) ?_
          refine x_lds C (q := 18) wl_Head_70 d_Head_readField_80 ?_
          obtain ⟨u7, hu7, h⟩ := bd_some h
          refine x_cip (rest := []) (r_V C D (c_Line_isWord l g hD u2 u3 18 (by decide) S u7 hu7) wc_Line_isWord wm_Head_60 wi_Line_isWord wd_Line_isWord (by decide) sh_7 kc_Line.1 rfl rfl hl (Nat.le_of_ble_eq_true rfl) (by decide) d_Head_readField_82) D (fun H locs D => ?_)
          refine lv_if_eq hx hb d_Head_readField_85 rfl (fun z => ?_) (fun z => ?_)
          · replace h := if_t z h
            exact B99 _ _ _ _ h D (lv_sub hl [4] rfl)
          · replace h := if_f z h
            refine lv_aload_n hx hb d_Head_readField_88 rfl (lv_at hl 4 rfl) ?_
            obtain ⟨u8, hu8, h⟩ := bd_some h
            refine x_cis (rest := []) (r_V C D (c_Head_setChunked l g hD S u8 hu8) wc_Head_setChunked wm_Head_71 wi_Head_setChunked wd_Head_setChunked (by decide) sh_9 kc_Head.1 rfl rfl hl (Nat.le_of_ble_eq_true rfl) (by decide) d_Head_readField_89) D (fun H locs D => ?_)
            refine lv_if_eq hx hb d_Head_readField_92 rfl (fun z => ?_) (fun z => ?_)
            · replace h := if_t z h
              exact B99 _ _ _ _ h D (lv_sub hl [4] rfl)
            · replace h := if_f z h
              refine lv_iconst (v := 1) hx hb d_Head_readField_95 (by decide) ?_
              refine lv_goto hx hb d_Head_readField_96 rfl ?_
              exact B100 _ _ _ _ _ h D (lv_sub hl [4] rfl)
      · replace h := if_f z h
        refine lv_aload_n hx hb d_Head_readField_49 rfl (lv_at hl 4 rfl) ?_
        refine lv_aload_n hx hb d_Head_readField_50 rfl (lv_at hl 5 rfl) ?_
        refine lv_iload_n hx hb d_Head_readField_51 rfl (lv_at hl 2 rfl) ?_
        refine lv_iload hx hb d_Head_readField_52 (lv_at hl 1 rfl) ?_
        obtain ⟨u9, hu9, h⟩ := bd_some h
        refine x_cip (rest := [.ref (ga g 9)]) (r_V C D (c_Line_number l g hD u2 u3 S u9 hu9) wc_Line_number wm_Head_31 wi_Line_number wd_Line_number (by decide) sh_7 kc_Line.1 rfl rfl hl (Nat.le_of_ble_eq_true rfl) (by decide) d_Head_readField_54) D (fun H locs D => ?_)
        obtain ⟨u10, hu10, h⟩ := bd_some h
        refine x_cis (rest := []) (r_V C D (c_Head_setContentLength l g hD u9 S u10 hu10) wc_Head_setContentLength wm_Head_64 wi_Head_setContentLength wd_Head_setContentLength (by decide) sh_9 kc_Head.1 rfl rfl hl (Nat.le_of_ble_eq_true rfl) (by decide) d_Head_readField_57) D (fun H locs D => ?_)
        refine lv_istore (lv' := [(5, .int u10.1), (4, .int u3), (3, .int u2), (2, .int u1), (0, .ref (ga g 9)), (1, .ref (ga g 7))]) hx hb d_Head_readField_60 hl (by decide) rfl (fun ls hl => ?_)
        refine lv_goto hx hb d_Head_readField_62 rfl ?_
        exact B102 _ _ _ _ _ h D (lv_sub hl [4, 0] rfl)
    · replace h := if_f z h
      refine lv_iconst (v := 0) hx hb d_Head_readField_18 (by decide) ?_
      exact x_zrs C D h d_Head_readField_19
theorem d_Head_readTrailing_0 : decode b_Head_readTrailing 0 = .ok (.aload_n 1, 1) := by decide +kernel
theorem d_Head_readTrailing_1 : decode b_Head_readTrailing 1 = .ok (.invokevirtual 47, 3) := by decide +kernel
theorem d_Head_readTrailing_4 : decode b_Head_readTrailing 4 = .ok (.istore_n 2, 1) := by decide +kernel
theorem d_Head_readTrailing_5 : decode b_Head_readTrailing 5 = .ok (.aload_n 0, 1) := by decide +kernel
theorem d_Head_readTrailing_6 : decode b_Head_readTrailing 6 = .ok (.dup, 1) := by decide +kernel
theorem d_Head_readTrailing_7 : decode b_Head_readTrailing 7 = .ok (.getfield 19, 3) := by decide +kernel
theorem d_Head_readTrailing_10 : decode b_Head_readTrailing 10 = .ok (.iconst 1, 1) := by decide +kernel
theorem d_Head_readTrailing_11 : decode b_Head_readTrailing 11 = .ok (.iadd, 1) := by decide +kernel
theorem d_Head_readTrailing_12 : decode b_Head_readTrailing 12 = .ok (.putfield 19, 3) := by decide +kernel
theorem d_Head_readTrailing_15 : decode b_Head_readTrailing 15 = .ok (.iload_n 2, 1) := by decide +kernel
theorem d_Head_readTrailing_16 : decode b_Head_readTrailing 16 = .ok (.ifCond .lt 38, 3) := by decide +kernel
theorem d_Head_readTrailing_19 : decode b_Head_readTrailing 19 = .ok (.aload_n 0, 1) := by decide +kernel
theorem d_Head_readTrailing_20 : decode b_Head_readTrailing 20 = .ok (.getfield 19, 3) := by decide +kernel
theorem d_Head_readTrailing_23 : decode b_Head_readTrailing 23 = .ok (.bipush 8, 2) := by decide +kernel
theorem d_Head_readTrailing_25 : decode b_Head_readTrailing 25 = .ok (.if_icmp .gt 29, 3) := by decide +kernel
theorem d_Head_readTrailing_28 : decode b_Head_readTrailing 28 = .ok (.aload_n 1, 1) := by decide +kernel
theorem d_Head_readTrailing_29 : decode b_Head_readTrailing 29 = .ok (.iconst 0, 1) := by decide +kernel
theorem d_Head_readTrailing_30 : decode b_Head_readTrailing 30 = .ok (.iload_n 2, 1) := by decide +kernel
theorem d_Head_readTrailing_31 : decode b_Head_readTrailing 31 = .ok (.ldc 58, 2) := by decide +kernel
theorem d_Head_readTrailing_33 : decode b_Head_readTrailing 33 = .ok (.invokevirtual 60, 3) := by decide +kernel
theorem d_Head_readTrailing_36 : decode b_Head_readTrailing 36 = .ok (.ifCond .ne 18, 3) := by decide +kernel
theorem d_Head_readTrailing_39 : decode b_Head_readTrailing 39 = .ok (.aload_n 1, 1) := by decide +kernel
theorem d_Head_readTrailing_40 : decode b_Head_readTrailing 40 = .ok (.iconst 0, 1) := by decide +kernel
theorem d_Head_readTrailing_41 : decode b_Head_readTrailing 41 = .ok (.iload_n 2, 1) := by decide +kernel
theorem d_Head_readTrailing_42 : decode b_Head_readTrailing 42 = .ok (.ldc 68, 2) := by decide +kernel
theorem d_Head_readTrailing_44 : decode b_Head_readTrailing 44 = .ok (.invokevirtual 60, 3) := by decide +kernel
theorem d_Head_readTrailing_47 : decode b_Head_readTrailing 47 = .ok (.ifCond .ne 7, 3) := by decide +kernel
theorem d_Head_readTrailing_50 : decode b_Head_readTrailing 50 = .ok (.iconst 1, 1) := by decide +kernel
theorem d_Head_readTrailing_51 : decode b_Head_readTrailing 51 = .ok (.goto 4, 3) := by decide +kernel
theorem d_Head_readTrailing_54 : decode b_Head_readTrailing 54 = .ok (.iconst 0, 1) := by decide +kernel
theorem d_Head_readTrailing_55 : decode b_Head_readTrailing 55 = .ok (.ireturn, 1) := by decide +kernel
def f_Head_readTrailing_54 (S : zSt) : Option (Int32 × zSt) := (gdb 0 (some (0, S)))
def f_Head_readTrailing (S : zSt) : Option (Int32 × zSt) := ((f_Line_colonBehindName S).bind fun u1 => sq (su S 9 2 ((S 9 2) + 1)) fun S2 => (if u1 < 0 then (f_Head_readTrailing_54 S2) else (if 8 < (S2 9 2) then (f_Head_readTrailing_54 S2) else ((f_Line_isWord 0 u1 16 S2).bind fun u3 => (if u3 = 0 then ((f_Line_isWord 0 u1 17 S2).bind fun u4 => (if u4 = 0 then (gdb 1 (some (1, S2))) else (f_Head_readTrailing_54 S2))) else (f_Head_readTrailing_54 S2))))))
set_option maxHeartbeats 4000000 in
set_option maxRecDepth 100000 in
theorem c_Head_readTrailing (l : Launch) (g : zG) (hD : GD g) (S : zSt) (u : (Int32 × zSt)) (h : f_Head_readTrailing S = some u) : Met l y_Head_readTrailing (mw y_Head_readTrailing b_Head_readTrailing 3 (some .boolean)) (rmD 5) (Pw g [.ref (ga g 9), .ref (ga g 7)] S) (Qis g u) 0 0 (gA g) := by
  refine z_go (own := R_Head) (lv0 := [(0, .ref (ga g 9)), (1, .ref (ga g 7))]) hD (by decide) rfl (Nat.le_of_ble_eq_true rfl) rfl ?_
  intro p e s m args below meth c C D ls hl
  have hx := C.1
  have hb := C.2.1
  have hown := C.2.2.2.1
  have hts := C.2.2.2.2.1
  have B54 : ∀ (H : Heap) (locs : List Loc) (S : zSt) (ls : Array Slot), f_Head_readTrailing_54 S = some u → Dy g s S H locs → lv_has ls 3 [] → W p l e (rmD 5) s m args below meth c H locs 0 0 (MQ below (Qis g u) args s 0 0 (gA g)) (F0 m 54 ls []) := by
    intro H locs S ls h D hl
    unfold f_Head_readTrailing_54 at h
    refine lv_iconst (v := 0) hx hb d_Head_readTrailing_54 (by decide) ?_
    exact x_zrs C D h d_Head_readTrailing_55
  unfold f_Head_readTrailing at h
  refine lv_aload_n hx hb d_Head_readTrailing_0 rfl (lv_at hl 1 rfl) ?_
  obtain ⟨u1, hu1, h⟩ := bd_some h
  refine x_cip (rest := []) (r_V C D (c_Line_colonBehindName l g hD S u1 hu1) wc_Line_colonBehindName wm_Head_47 wi_Line_colonBehindName wd_Line_colonBehindName (by decide) sh_7 kc_Line.1 rfl rfl hl (Nat.le_of_ble_eq_true rfl) (by decide) d_Head_readTrailing_1) D (fun H locs D => ?_)
  refine lv_istore_n (lv' := [(2, .int u1), (0, .ref (ga g 9)), (1, .ref (ga g 7))]) hx hb d_Head_readTrailing_4 rfl hl (by decide) rfl (fun ls hl => ?_)
  refine lv_aload_n hx hb d_Head_readTrailing_5 rfl (lv_at hl 1 rfl) ?_
  refine lv_dup hx hb d_Head_readTrailing_6 rfl ?_
  refine x_get (v := .int (S 9 2)) C D kc_Head (by decide) sh_9 2 rfl (by decide) wf_Head_19 rfl rfl d_Head_readTrailing_7 ?_
  refine lv_iconst (v := 1) hx hb d_Head_readTrailing_10 (by decide) ?_
  refine lv_iadd hx hb d_Head_readTrailing_11 ?_
  refine x_put C D kc_Head (by decide) sh_9 2 rfl (by decide) wf_Head_19 rfl rfl ((S 9 2) + 1) rfl ⟨rfl, rfl⟩ d_Head_readTrailing_12 h (fun S2 H locs h D => ?_)
  refine lv_iload_n hx hb d_Head_readTrailing_15 rfl (lv_at hl 0 rfl) ?_
  refine lv_if_lt hx hb d_Head_readTrailing_16 rfl (fun z => ?_) (fun z => ?_)
  · replace h := if_t z h
    exact B54 _ _ _ _ h D (lv_sub hl [] rfl)
  · replace h := if_f z h
    refine lv_aload_n hx hb d_Head_readTrailing_19 rfl (lv_at hl 1 rfl) ?_
    refine x_get (v := .int (S2 9 2)) C D kc_Head (by decide) sh_9 2 rfl (by decide) wf_Head_19 rfl rfl d_Head_readTrailing_20 ?_
    refine lv_bipush (v := 8) hx hb d_Head_readTrailing_23 (by decide) ?_
    refine lv_icmp_gt hx hb d_Head_readTrailing_25 rfl (fun z => ?_) (fun z => ?_)
    · replace h := if_t z h
      exact B54 _ _ _ _ h D (lv_sub hl [] rfl)
    · replace h := if_f z h
      refine lv_aload_n hx hb d_Head_readTrailing_28 rfl (lv_at hl 2 rfl) ?_
      refine lv_iconst (v := 0) hx hb d_Head_readTrailing_29 (by decide) ?_
      refine lv_iload_n hx hb d_Head_readTrailing_30 rfl (lv_at hl 0 rfl) ?_
      refine x_lds C (q := 16) wl_Head_58 d_Head_readTrailing_31 ?_
      obtain ⟨u3, hu3, h⟩ := bd_some h
      refine x_cip (rest := []) (r_V C D (c_Line_isWord l g hD 0 u1 16 (by decide) S2 u3 hu3) wc_Line_isWord wm_Head_60 wi_Line_isWord wd_Line_isWord (by decide) sh_7 kc_Line.1 rfl rfl hl (Nat.le_of_ble_eq_true rfl) (by decide) d_Head_readTrailing_33) D (fun H locs D => ?_)
      refine lv_if_ne hx hb d_Head_readTrailing_36 rfl (fun z => ?_) (fun z => ?_)
      · replace h := if_f z h
        exact B54 _ _ _ _ h D (lv_sub hl [] rfl)
      · replace h := if_t z h
        refine lv_aload_n hx hb d_Head_readTrailing_39 rfl (lv_at hl 2 rfl) ?_
        refine lv_iconst (v := 0) hx hb d_Head_readTrailing_40 (by decide) ?_
        refine lv_iload_n hx hb d_Head_readTrailing_41 rfl (lv_at hl 0 rfl) ?_
        refine x_lds C (q := 17) wl_Head_68 d_Head_readTrailing_42 ?_
        obtain ⟨u4, hu4, h⟩ := bd_some h
        refine x_cip (rest := []) (r_V C D (c_Line_isWord l g hD 0 u1 17 (by decide) S2 u4 hu4) wc_Line_isWord wm_Head_60 wi_Line_isWord wd_Line_isWord (by decide) sh_7 kc_Line.1 rfl rfl hl (Nat.le_of_ble_eq_true rfl) (by decide) d_Head_readTrailing_44) D (fun H locs D => ?_)
        refine lv_if_ne hx hb d_Head_readTrailing_47 rfl (fun z => ?_) (fun z => ?_)
        · replace h := if_f z h
          exact B54 _ _ _ _ h D (lv_sub hl [] rfl)
        · replace h := if_t z h
          refine lv_iconst (v := 1) hx hb d_Head_readTrailing_50 (by decide) ?_
          refine lv_goto hx hb d_Head_readTrailing_51 rfl ?_
          exact x_zrs C D h d_Head_readTrailing_55
