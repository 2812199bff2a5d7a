theorem d_Parameter_begin_0 : decode b_Parameter_begin 0 = .ok (.aload_n 0, 1) := by decide +kernel
theorem d_Parameter_begin_1 : decode b_Parameter_begin 1 = .ok (.iload_n 1, 1) := by decide +kernel
theorem d_Parameter_begin_2 : decode b_Parameter_begin 2 = .ok (.putfield 19, 3) := by decide +kernel
theorem d_Parameter_begin_5 : decode b_Parameter_begin 5 = .ok (.aload_n 0, 1) := by decide +kernel
theorem d_Parameter_begin_6 : decode b_Parameter_begin 6 = .ok (.iload_n 2, 1) := by decide +kernel
theorem d_Parameter_begin_7 : decode b_Parameter_begin 7 = .ok (.putfield 22, 3) := by decide +kernel
theorem d_Parameter_begin_10 : decode b_Parameter_begin 10 = .ok (.aload_n 0, 1) := by decide +kernel
theorem d_Parameter_begin_11 : decode b_Parameter_begin 11 = .ok (.iconst 0, 1) := by decide +kernel
theorem d_Parameter_begin_12 : decode b_Parameter_begin 12 = .ok (.putfield 15, 3) := by decide +kernel
theorem d_Parameter_begin_15 : decode b_Parameter_begin 15 = .ok (.return_, 1) := by decide +kernel
def f_Parameter_begin (k0 : Nat) (a1 : Int32) (a2 : Int32) (S : zSt) : Option zSt := sq (su S (10 + k0) 2 a1) fun S1 => gdc a2 (sq (su S1 (10 + k0) 3 a2) fun S2 => sq (su S2 (10 + k0) 1 0) fun S4 => (some S4))
set_option maxHeartbeats 4000000 in
set_option maxRecDepth 100000 in
theorem c_Parameter_begin (l : Launch) (g : zG) (hD : GD g) (k0 : Nat) (hk0 : k0 < 6) (a1 : Int32) (a2 : Int32) (S : zSt) (u : zSt) (h : f_Parameter_begin k0 a1 a2 S = some u) : Met l y_Parameter_begin (mw y_Parameter_begin b_Parameter_begin 3 none) (rmD 0) (Pw g [.ref (ga g (10 + k0)), .int a1, .int a2] S) (Qvs g u) 0 0 (gA g) := by
  refine z_go (own := R_Parameter) (lv0 := [(0, .ref (ga g (10 + k0))), (1, .int a1), (2, .int a2)]) hD (by decide) rfl (Nat.le_of_ble_eq_true rfl) rfl ?_
  intro p e s m args below meth c C D ls hl
  have hx := C.1
  have hb := C.2.1
  have hown := C.2.2.2.1
  have hts := C.2.2.2.2.1
  unfold f_Parameter_begin at h
  refine lv_aload_n hx hb d_Parameter_begin_0 rfl (lv_at hl 0 rfl) ?_
  refine lv_iload_n hx hb d_Parameter_begin_1 rfl (lv_at hl 1 rfl) ?_
  refine x_put C D kc_Parameter (nP hk0) (sh_P hk0) 2 rfl (by decide) wf_Parameter_19 rfl rfl a1 rfl ⟨rfl, rfl⟩ d_Parameter_begin_2 h (fun S1 H locs h D => ?_)
  refine lv_aload_n hx hb d_Parameter_begin_5 rfl (lv_at hl 0 rfl) ?_
  refine lv_iload_n hx hb d_Parameter_begin_6 rfl (lv_at hl 2 rfl) ?_
  obtain ⟨z3, h⟩ := gdc_some h
  refine x_put C D kc_Parameter (nP hk0) (sh_P hk0) 3 rfl (by decide) wf_Parameter_22 rfl rfl a2 rfl z3 d_Parameter_begin_7 h (fun S2 H locs h D => ?_)
  refine lv_aload_n hx hb d_Parameter_begin_10 rfl (lv_at hl 0 rfl) ?_
  refine lv_iconst (v := 0) hx hb d_Parameter_begin_11 (by decide) ?_
  refine x_put C D kc_Parameter (nP hk0) (sh_P hk0) 1 rfl (by decide) wf_Parameter_15 rfl rfl 0 rfl ⟨rfl, rfl⟩ d_Parameter_begin_12 h (fun S4 H locs h D => ?_)
  exact x_vrs C D h d_Parameter_begin_15
theorem d_Parameter_isInPath_0 : decode b_Parameter_isInPath 0 = .ok (.aload_n 0, 1) := by decide +kernel
theorem d_Parameter_isInPath_1 : decode b_Parameter_isInPath 1 = .ok (.getfield 19, 3) := by decide +kernel
theorem d_Parameter_isInPath_4 : decode b_Parameter_isInPath 4 = .ok (.ifCond .eq 11, 3) := by decide +kernel
theorem d_Parameter_isInPath_7 : decode b_Parameter_isInPath 7 = .ok (.aload_n 0, 1) := by decide +kernel
theorem d_Parameter_isInPath_8 : decode b_Parameter_isInPath 8 = .ok (.getfield 19, 3) := by decide +kernel
theorem d_Parameter_isInPath_11 : decode b_Parameter_isInPath 11 = .ok (.iconst 1, 1) := by decide +kernel
theorem d_Parameter_isInPath_12 : decode b_Parameter_isInPath 12 = .ok (.if_icmp .ne 7, 3) := by decide +kernel
theorem d_Parameter_isInPath_15 : decode b_Parameter_isInPath 15 = .ok (.iconst 1, 1) := by decide +kernel
theorem d_Parameter_isInPath_16 : decode b_Parameter_isInPath 16 = .ok (.goto 4, 3) := by decide +kernel
theorem d_Parameter_isInPath_19 : decode b_Parameter_isInPath 19 = .ok (.iconst 0, 1) := by decide +kernel
theorem d_Parameter_isInPath_20 : decode b_Parameter_isInPath 20 = .ok (.ireturn, 1) := by decide +kernel
def f_Parameter_isInPath_15 (S : zSt) : Option Int32 := (gdb 1 (some 1))
def f_Parameter_isInPath (k0 : Nat) (S : zSt) : Option Int32 := (if (S (10 + k0) 2) = 0 then (f_Parameter_isInPath_15 S) else (if (S (10 + k0) 2) = 1 then (f_Parameter_isInPath_15 S) else (gdb 0 (some 0))))
set_option maxHeartbeats 4000000 in
set_option maxRecDepth 100000 in
theorem c_Parameter_isInPath (l : Launch) (g : zG) (hD : GD g) (k0 : Nat) (hk0 : k0 < 6) (S : zSt) (u : Int32) (h : f_Parameter_isInPath k0 S = some u) : Met l y_Parameter_isInPath (mw y_Parameter_isInPath b_Parameter_isInPath 1 (some .boolean)) (rmD 0) (Pw g [.ref (ga g (10 + k0))] S) (Qip g S u) 0 0 (gA g) := by
  refine z_go (own := R_Parameter) (lv0 := [(0, .ref (ga g (10 + k0)))]) hD (by decide) rfl (Nat.le_of_ble_eq_true rfl) rfl ?_
  intro p e s m args below meth c C D ls hl
  have hx := C.1
  have hb := C.2.1
  have hown := C.2.2.2.1
  have hts := C.2.2.2.2.1
  have B15 : ∀ (H : Heap) (locs : List Loc) (ls : Array Slot), f_Parameter_isInPath_15 S = some u → Dy g s S H locs → lv_has ls 1 [] → W p l e (rmD 0) s m args below meth c H locs 0 0 (MQ below (Qip g S u) args s 0 0 (gA g)) (F0 m 15 ls []) := by
    intro H locs ls h D hl
    unfold f_Parameter_isInPath_15 at h
    refine lv_iconst (v := 1) hx hb d_Parameter_isInPath_15 (by decide) ?_
    refine lv_goto hx hb d_Parameter_isInPath_16 rfl ?_
    exact x_zrp C D h d_Parameter_isInPath_20
  unfold f_Parameter_isInPath at h
  refine lv_aload_n hx hb d_Parameter_isInPath_0 rfl (lv_at hl 0 rfl) ?_
  refine x_get (v := .int (S (10 + k0) 2)) C D kc_Parameter (nP hk0) (sh_P hk0) 2 rfl (by decide) wf_Parameter_19 rfl rfl d_Parameter_isInPath_1 ?_
  refine lv_if_eq hx hb d_Parameter_isInPath_4 rfl (fun z => ?_) (fun z => ?_)
  · replace h := if_t z h
    exact B15 _ _ _ h D (lv_sub hl [] rfl)
  · replace h := if_f z h
    refine lv_aload_n hx hb d_Parameter_isInPath_7 rfl (lv_at hl 0 rfl) ?_
    refine x_get (v := .int (S (10 + k0) 2)) C D kc_Parameter (nP hk0) (sh_P hk0) 2 rfl (by decide) wf_Parameter_19 rfl rfl d_Parameter_isInPath_8 ?_
    refine lv_iconst (v := 1) hx hb d_Parameter_isInPath_11 (by decide) ?_
    refine lv_icmp_ne hx hb d_Parameter_isInPath_12 rfl (fun z => ?_) (fun z => ?_)
    · replace h := if_f z h
      refine lv_iconst (v := 0) hx hb d_Parameter_isInPath_19 (by decide) ?_
      exact x_zrp C D h d_Parameter_isInPath_20
    · replace h := if_t z h
      exact B15 _ _ _ h D (lv_sub hl [] rfl)
theorem d_Parameter_addItem_0 : decode b_Parameter_addItem 0 = .ok (.aload_n 0, 1) := by decide +kernel
theorem d_Parameter_addItem_1 : decode b_Parameter_addItem 1 = .ok (.getfield 19, 3) := by decide +kernel
theorem d_Parameter_addItem_4 : decode b_Parameter_addItem 4 = .ok (.ifCond .eq 11, 3) := by decide +kernel
theorem d_Parameter_addItem_7 : decode b_Parameter_addItem 7 = .ok (.aload_n 0, 1) := by decide +kernel
theorem d_Parameter_addItem_8 : decode b_Parameter_addItem 8 = .ok (.getfield 19, 3) := by decide +kernel
theorem d_Parameter_addItem_11 : decode b_Parameter_addItem 11 = .ok (.iconst 5, 1) := by decide +kernel
theorem d_Parameter_addItem_12 : decode b_Parameter_addItem 12 = .ok (.if_icmp .ne 7, 3) := by decide +kernel
theorem d_Parameter_addItem_15 : decode b_Parameter_addItem 15 = .ok (.iconst 1, 1) := by decide +kernel
theorem d_Parameter_addItem_16 : decode b_Parameter_addItem 16 = .ok (.goto 4, 3) := by decide +kernel
theorem d_Parameter_addItem_19 : decode b_Parameter_addItem 19 = .ok (.iconst 3, 1) := by decide +kernel
theorem d_Parameter_addItem_20 : decode b_Parameter_addItem 20 = .ok (.istore_n 1, 1) := by decide +kernel
theorem d_Parameter_addItem_21 : decode b_Parameter_addItem 21 = .ok (.aload_n 0, 1) := by decide +kernel
theorem d_Parameter_addItem_22 : decode b_Parameter_addItem 22 = .ok (.getfield 15, 3) := by decide +kernel
theorem d_Parameter_addItem_25 : decode b_Parameter_addItem 25 = .ok (.iload_n 1, 1) := by decide +kernel
theorem d_Parameter_addItem_26 : decode b_Parameter_addItem 26 = .ok (.if_icmp .lt 5, 3) := by decide +kernel
theorem d_Parameter_addItem_29 : decode b_Parameter_addItem 29 = .ok (.iconst 0, 1) := by decide +kernel
theorem d_Parameter_addItem_30 : decode b_Parameter_addItem 30 = .ok (.ireturn, 1) := by decide +kernel
theorem d_Parameter_addItem_31 : decode b_Parameter_addItem 31 = .ok (.aload_n 0, 1) := by decide +kernel
theorem d_Parameter_addItem_32 : decode b_Parameter_addItem 32 = .ok (.getfield 11, 3) := by decide +kernel
theorem d_Parameter_addItem_35 : decode b_Parameter_addItem 35 = .ok (.aload_n 0, 1) := by decide +kernel
theorem d_Parameter_addItem_36 : decode b_Parameter_addItem 36 = .ok (.getfield 15, 3) := by decide +kernel
theorem d_Parameter_addItem_39 : decode b_Parameter_addItem 39 = .ok (.aaload, 1) := by decide +kernel
theorem d_Parameter_addItem_40 : decode b_Parameter_addItem 40 = .ok (.iconst 0, 1) := by decide +kernel
theorem d_Parameter_addItem_41 : decode b_Parameter_addItem 41 = .ok (.putfield 27, 3) := by decide +kernel
theorem d_Parameter_addItem_44 : decode b_Parameter_addItem 44 = .ok (.aload_n 0, 1) := by decide +kernel
theorem d_Parameter_addItem_45 : decode b_Parameter_addItem 45 = .ok (.dup, 1) := by decide +kernel
theorem d_Parameter_addItem_46 : decode b_Parameter_addItem 46 = .ok (.getfield 15, 3) := by decide +kernel
theorem d_Parameter_addItem_49 : decode b_Parameter_addItem 49 = .ok (.iconst 1, 1) := by decide +kernel
theorem d_Parameter_addItem_50 : decode b_Parameter_addItem 50 = .ok (.iadd, 1) := by decide +kernel
theorem d_Parameter_addItem_51 : decode b_Parameter_addItem 51 = .ok (.putfield 15, 3) := by decide +kernel
theorem d_Parameter_addItem_54 : decode b_Parameter_addItem 54 = .ok (.iconst 1, 1) := by decide +kernel
theorem d_Parameter_addItem_55 : decode b_Parameter_addItem 55 = .ok (.ireturn, 1) := by decide +kernel
def f_Parameter_addItem_20 (k0 : Nat) (t0 : Int32) (S : zSt) : Option (Int32 × zSt) := (if (S (10 + k0) 1) < t0 then gdi (S (10 + k0) 1) 3 (sq (su S (22 + (3 * k0 + (S (10 + k0) 1).toNatClampNeg)) 1 0) fun S2 => sq (su S2 (10 + k0) 1 ((S2 (10 + k0) 1) + 1)) fun S3 => (gdb 1 (some (1, S3)))) else (gdb 0 (some (0, S))))
def f_Parameter_addItem_15 (k0 : Nat) (S : zSt) : Option (Int32 × zSt) := (f_Parameter_addItem_20 k0 1 S)
def f_Parameter_addItem (k0 : Nat) (S : zSt) : Option (Int32 × zSt) := (if (S (10 + k0) 2) = 0 then (f_Parameter_addItem_15 k0 S) else (if (S (10 + k0) 2) = 5 then (f_Parameter_addItem_15 k0 S) else (f_Parameter_addItem_20 k0 3 S)))
set_option maxHeartbeats 4000000 in
set_option maxRecDepth 100000 in
theorem c_Parameter_addItem (l : Launch) (g : zG) (hD : GD g) (k0 : Nat) (hk0 : k0 < 6) (S : zSt) (u : (Int32 × zSt)) (h : f_Parameter_addItem k0 S = some u) : Met l y_Parameter_addItem (mw y_Parameter_addItem b_Parameter_addItem 2 (some .boolean)) (rmD 0) (Pw g [.ref (ga g (10 + k0))] S) (Qis g u) 0 0 (gA g) := by
  refine z_go (own := R_Parameter) (lv0 := [(0, .ref (ga g (10 + k0)))]) hD (by decide) rfl (Nat.le_of_ble_eq_true rfl) rfl ?_
  intro p e s m args below meth c C D ls hl
  have hx := C.1
  have hb := C.2.1
  have hown := C.2.2.2.1
  have hts := C.2.2.2.2.1
  have B20 : ∀ (H : Heap) (locs : List Loc) (S : zSt) (ls : Array Slot) (k0 : Nat) (hk0 : k0 < 6) (t0 : Int32), f_Parameter_addItem_20 k0 t0 S = some u → Dy g s S H locs → lv_has ls 2 [(0, .ref (ga g (10 + k0)))] → W p l e (rmD 0) s m args below meth c H locs 0 0 (MQ below (Qis g u) args s 0 0 (gA g)) (F0 m 20 ls [.int t0]) := by
    intro H locs S ls k0 hk0 t0 h D hl
    unfold f_Parameter_addItem_20 at h
    refine lv_istore_n (lv' := [(1, .int t0), (0, .ref (ga g (10 + k0)))]) hx hb d_Parameter_addItem_20 rfl hl (by decide) rfl (fun ls hl => ?_)
    refine lv_aload_n hx hb d_Parameter_addItem_21 rfl (lv_at hl 1 rfl) ?_
    refine x_get (v := .int (S (10 + k0) 1)) C D kc_Parameter (nP hk0) (sh_P hk0) 1 rfl (by decide) wf_Parameter_15 rfl rfl d_Parameter_addItem_22 ?_
    refine lv_iload_n hx hb d_Parameter_addItem_25 rfl (lv_at hl 0 rfl) ?_
    refine lv_icmp_lt hx hb d_Parameter_addItem_26 rfl (fun z => ?_) (fun z => ?_)
    · replace h := if_t z h
      refine lv_aload_n hx hb d_Parameter_addItem_31 rfl (lv_at hl 1 rfl) ?_
      refine x_get (v := .ref (ga g (16 + k0))) C D kc_Parameter (nP hk0) (sh_P hk0) 0 rfl (by decide) wf_Parameter_11 rfl (fvv_r _ _ (by have q_ : k0 < 6 := hk0; omega)) d_Parameter_addItem_32 ?_
      refine lv_aload_n hx hb d_Parameter_addItem_35 rfl (lv_at hl 1 rfl) ?_
      refine x_get (v := .int (S (10 + k0) 1)) C D kc_Parameter (nP hk0) (sh_P hk0) 1 rfl (by decide) wf_Parameter_15 rfl rfl d_Parameter_addItem_36 ?_
      refine x_aald4 C D (nPI hk0) (sh_PI hk0) d_Parameter_addItem_39 h (fun q1 h => ?_)
      refine lv_iconst (v := 0) hx hb d_Parameter_addItem_40 (by decide) ?_
      refine x_putN C D kc_Item (nI_ (i3 hk0 q1)) (sh_I (i3 hk0 q1)) 1 rfl (by decide) nf_Parameter_27 rfl rfl 0 rfl ⟨rfl, rfl⟩ d_Parameter_addItem_41 h (fun S2 H locs h D => ?_)
      refine lv_aload_n hx hb d_Parameter_addItem_44 rfl (lv_at hl 1 rfl) ?_
      refine lv_dup hx hb d_Parameter_addItem_45 rfl ?_
      refine x_get (v := .int (S2 (10 + k0) 1)) C D kc_Parameter (nP hk0) (sh_P hk0) 1 rfl (by decide) wf_Parameter_15 rfl rfl d_Parameter_addItem_46 ?_
      refine lv_iconst (v := 1) hx hb d_Parameter_addItem_49 (by decide) ?_
      refine lv_iadd hx hb d_Parameter_addItem_50 ?_
      refine x_put C D kc_Parameter (nP hk0) (sh_P hk0) 1 rfl (by decide) wf_Parameter_15 rfl rfl ((S2 (10 + k0) 1) + 1) rfl ⟨rfl, rfl⟩ d_Parameter_addItem_51 h (fun S3 H locs h D => ?_)
      refine lv_iconst (v := 1) hx hb d_Parameter_addItem_54 (by decide) ?_
      exact x_zrs C D h d_Parameter_addItem_55
    · replace h := if_f z h
      refine lv_iconst (v := 0) hx hb d_Parameter_addItem_29 (by decide) ?_
      exact x_zrs C D h d_Parameter_addItem_30
  have B15 : ∀ (H : Heap) (locs : List Loc) (S : zSt) (ls : Array Slot) (k0 : Nat) (hk0 : k0 < 6), f_Parameter_addItem_15 k0 S = some u → Dy g s S H locs → lv_has ls 2 [(0, .ref (ga g (10 + k0)))] → W p l e (rmD 0) s m args below meth c H locs 0 0 (MQ below (Qis g u) args s 0 0 (gA g)) (F0 m 15 ls []) := by
    intro H locs S ls k0 hk0 h D hl
    unfold f_Parameter_addItem_15 at h
    refine lv_iconst (v := 1) hx hb d_Parameter_addItem_15 (by decide) ?_
    refine lv_goto hx hb d_Parameter_addItem_16 rfl ?_
    exact B20 _ _ _ _ _ hk0 _ h D (lv_sub hl [0] rfl)
  unfold f_Parameter_addItem at h
  refine lv_aload_n hx hb d_Parameter_addItem_0 rfl (lv_at hl 0 rfl) ?_
  refine x_get (v := .int (S (10 + k0) 2)) C D kc_Parameter (nP hk0) (sh_P hk0) 2 rfl (by decide) wf_Parameter_19 rfl rfl d_Parameter_addItem_1 ?_
  refine lv_if_eq hx hb d_Parameter_addItem_4 rfl (fun z => ?_) (fun z => ?_)
  · replace h := if_t z h
    exact B15 _ _ _ _ _ hk0 h D (lv_sub hl [0] rfl)
  · replace h := if_f z h
    refine lv_aload_n hx hb d_Parameter_addItem_7 rfl (lv_at hl 0 rfl) ?_
    refine x_get (v := .int (S (10 + k0) 2)) C D kc_Parameter (nP hk0) (sh_P hk0) 2 rfl (by decide) wf_Parameter_19 rfl rfl d_Parameter_addItem_8 ?_
    refine lv_iconst (v := 5) hx hb d_Parameter_addItem_11 (by decide) ?_
    refine lv_icmp_ne hx hb d_Parameter_addItem_12 rfl (fun z => ?_) (fun z => ?_)
    · replace h := if_f z h
      refine lv_iconst (v := 3) hx hb d_Parameter_addItem_19 (by decide) ?_
      exact B20 _ _ _ _ _ hk0 _ h D (lv_sub hl [0] rfl)
    · replace h := if_t z h
      exact B15 _ _ _ _ _ hk0 h D (lv_sub hl [0] rfl)
theorem d_Parameter_dropItems_0 : decode b_Parameter_dropItems 0 = .ok (.aload_n 0, 1) := by decide +kernel
theorem d_Parameter_dropItems_1 : decode b_Parameter_dropItems 1 = .ok (.iconst 0, 1) := by decide +kernel
theorem d_Parameter_dropItems_2 : decode b_Parameter_dropItems 2 = .ok (.putfield 15, 3) := by decide +kernel
theorem d_Parameter_dropItems_5 : decode b_Parameter_dropItems 5 = .ok (.return_, 1) := by decide +kernel
def f_Parameter_dropItems (k0 : Nat) (S : zSt) : Option zSt := sq (su S (10 + k0) 1 0) fun S1 => (some S1)
set_option maxHeartbeats 4000000 in
set_option maxRecDepth 100000 in
theorem c_Parameter_dropItems (l : Launch) (g : zG) (hD : GD g) (k0 : Nat) (hk0 : k0 < 6) (S : zSt) (u : zSt) (h : f_Parameter_dropItems k0 S = some u) : Met l y_Parameter_dropItems (mw y_Parameter_dropItems b_Parameter_dropItems 1 none) (rmD 0) (Pw g [.ref (ga g (10 + k0))] S) (Qvs g u) 0 0 (gA g) := by
  refine z_go (own := R_Parameter) (lv0 := [(0, .ref (ga g (10 + k0)))]) hD (by decide) rfl (Nat.le_of_ble_eq_true rfl) rfl ?_
  intro p e s m args below meth c C D ls hl
  have hx := C.1
  have hb := C.2.1
  have hown := C.2.2.2.1
  have hts := C.2.2.2.2.1
  unfold f_Parameter_dropItems at h
  refine lv_aload_n hx hb d_Parameter_dropItems_0 rfl (lv_at hl 0 rfl) ?_
  refine lv_iconst (v := 0) hx hb d_Parameter_dropItems_1 (by decide) ?_
  refine x_put C D kc_Parameter (nP hk0) (sh_P hk0) 1 rfl (by decide) wf_Parameter_15 rfl rfl 0 rfl ⟨rfl, rfl⟩ d_Parameter_dropItems_2 h (fun S1 H locs h D => ?_)
  exact x_vrs C D h d_Parameter_dropItems_5
theorem d_Parameter_addChar_0 : decode b_Parameter_addChar 0 = .ok (.aload_n 0, 1) := by decide +kernel
theorem d_Parameter_addChar_1 : decode b_Parameter_addChar 1 = .ok (.getfield 15, 3) := by decide +kernel
theorem d_Parameter_addChar_4 : decode b_Parameter_addChar 4 = .ok (.ifCond .le 25, 3) := by decide +kernel
theorem d_Parameter_addChar_7 : decode b_Parameter_addChar 7 = .ok (.aload_n 0, 1) := by decide +kernel
theorem d_Parameter_addChar_8 : decode b_Parameter_addChar 8 = .ok (.getfield 11, 3) := by decide +kernel
theorem d_Parameter_addChar_11 : decode b_Parameter_addChar 11 = .ok (.aload_n 0, 1) := by decide +kernel
theorem d_Parameter_addChar_12 : decode b_Parameter_addChar 12 = .ok (.getfield 15, 3) := by decide +kernel
theorem d_Parameter_addChar_15 : decode b_Parameter_addChar 15 = .ok (.iconst 1, 1) := by decide +kernel
theorem d_Parameter_addChar_16 : decode b_Parameter_addChar 16 = .ok (.isub, 1) := by decide +kernel
theorem d_Parameter_addChar_17 : decode b_Parameter_addChar 17 = .ok (.aaload, 1) := by decide +kernel
theorem d_Parameter_addChar_18 : decode b_Parameter_addChar 18 = .ok (.iload_n 1, 1) := by decide +kernel
theorem d_Parameter_addChar_19 : decode b_Parameter_addChar 19 = .ok (.invokevirtual 30, 3) := by decide +kernel
theorem d_Parameter_addChar_22 : decode b_Parameter_addChar 22 = .ok (.ifCond .eq 7, 3) := by decide +kernel
theorem d_Parameter_addChar_25 : decode b_Parameter_addChar 25 = .ok (.iconst 1, 1) := by decide +kernel
theorem d_Parameter_addChar_26 : decode b_Parameter_addChar 26 = .ok (.goto 4, 3) := by decide +kernel
theorem d_Parameter_addChar_29 : decode b_Parameter_addChar 29 = .ok (.iconst 0, 1) := by decide +kernel
theorem d_Parameter_addChar_30 : decode b_Parameter_addChar 30 = .ok (.ireturn, 1) := by decide +kernel
def f_Parameter_addChar_29 (S : zSt) : Option (Int32 × zSt) := (gdb 0 (some (0, S)))
def f_Parameter_addChar (k0 : Nat) (a1 : Int32) (S : zSt) : Option (Int32 × zSt) := (if (S (10 + k0) 1) ≤ 0 then (f_Parameter_addChar_29 S) else gdi ((S (10 + k0) 1) - 1) 3 (((f_Item_add (3 * k0 + ((S (10 + k0) 1) - 1).toNatClampNeg) a1 S).bind fun u2 => (if u2.1 = 0 then (f_Parameter_addChar_29 u2.2) else (gdb 1 (some (1, u2.2)))))))
set_option maxHeartbeats 4000000 in
set_option maxRecDepth 100000 in
theorem c_Parameter_addChar (l : Launch) (g : zG) (hD : GD g) (k0 : Nat) (hk0 : k0 < 6) (a1 : Int32) (S : zSt) (u : (Int32 × zSt)) (h : f_Parameter_addChar k0 a1 S = some u) : Met l y_Parameter_addChar (mw y_Parameter_addChar b_Parameter_addChar 2 (some .boolean)) (rmD 1) (Pw g [.ref (ga g (10 + k0)), .int a1] S) (Qis g u) 0 0 (gA g) := by
  refine z_go (own := R_Parameter) (lv0 := [(0, .ref (ga g (10 + k0))), (1, .int a1)]) hD (by decide) rfl (Nat.le_of_ble_eq_true rfl) rfl ?_
  intro p e s m args below meth c C D ls hl
  have hx := C.1
  have hb := C.2.1
  have hown := C.2.2.2.1
  have hts := C.2.2.2.2.1
  have B29 : ∀ (H : Heap) (locs : List Loc) (S : zSt) (ls : Array Slot), f_Parameter_addChar_29 S = some u → Dy g s S H locs → lv_has ls 2 [] → W p l e (rmD 1) s m args below meth c H locs 0 0 (MQ below (Qis g u) args s 0 0 (gA g)) (F0 m 29 ls []) := by
    intro H locs S ls h D hl
    unfold f_Parameter_addChar_29 at h
    refine lv_iconst (v := 0) hx hb d_Parameter_addChar_29 (by decide) ?_
    exact x_zrs C D h d_Parameter_addChar_30
  unfold f_Parameter_addChar at h
  refine lv_aload_n hx hb d_Parameter_addChar_0 rfl (lv_at hl 0 rfl) ?_
  refine x_get (v := .int (S (10 + k0) 1)) C D kc_Parameter (nP hk0) (sh_P hk0) 1 rfl (by decide) wf_Parameter_15 rfl rfl d_Parameter_addChar_1 ?_
  refine lv_if_le hx hb d_Parameter_addChar_4 rfl (fun z => ?_) (fun z => ?_)
  · replace h := if_t z h
    exact B29 _ _ _ _ h D (lv_sub hl [] rfl)
  · replace h := if_f z h
    refine lv_aload_n hx hb d_Parameter_addChar_7 rfl (lv_at hl 0 rfl) ?_
    refine x_get (v := .ref (ga g (16 + k0))) C D kc_Parameter (nP hk0) (sh_P hk0) 0 rfl (by decide) wf_Parameter_11 rfl (fvv_r _ _ (by have q_ : k0 < 6 := hk0; omega)) d_Parameter_addChar_8 ?_
    refine lv_aload_n hx hb d_Parameter_addChar_11 rfl (lv_at hl 0 rfl) ?_
    refine x_get (v := .int (S (10 + k0) 1)) C D kc_Parameter (nP hk0) (sh_P hk0) 1 rfl (by decide) wf_Parameter_15 rfl rfl d_Parameter_addChar_12 ?_
    refine lv_iconst (v := 1) hx hb d_Parameter_addChar_15 (by decide) ?_
    refine lv_isub hx hb d_Parameter_addChar_16 ?_
    refine x_aald4 C D (nPI hk0) (sh_PI hk0) d_Parameter_addChar_17 h (fun q1 h => ?_)
    refine lv_iload_n hx hb d_Parameter_addChar_18 rfl (lv_at hl 1 rfl) ?_
    obtain ⟨u2, hu2, h⟩ := bd_some h
    refine x_cis (rest := []) (r_V C D (c_Item_add l g hD (3 * k0 + ((S (10 + k0) 1) - 1).toNatClampNeg) (i3 hk0 q1) a1 S u2 hu2) wc_Item_add wm_Parameter_30 wi_Item_add wd_Item_add (nI_ (i3 hk0 q1)) (sh_I (i3 hk0 q1)) kc_Item.1 rfl rfl hl (Nat.le_of_ble_eq_true rfl) (by decide) d_Parameter_addChar_19) D (fun H locs D => ?_)
    refine lv_if_eq hx hb d_Parameter_addChar_22 rfl (fun z => ?_) (fun z => ?_)
    · replace h := if_t z h
      exact B29 _ _ _ _ h D (lv_sub hl [] rfl)
    · replace h := if_f z h
      refine lv_iconst (v := 1) hx hb d_Parameter_addChar_25 (by decide) ?_
      refine lv_goto hx hb d_Parameter_addChar_26 rfl ?_
      exact x_zrs C D h d_Parameter_addChar_30
theorem d_Parameter_hasLone_0 : decode b_Parameter_hasLone 0 = .ok (.iconst 0, 1) := by decide +kernel
theorem d_Parameter_hasLone_1 : decode b_Parameter_hasLone 1 = .ok (.istore_n 1, 1) := by decide +kernel
theorem d_Parameter_hasLone_2 : decode b_Parameter_hasLone 2 = .ok (.iload_n 1, 1) := by decide +kernel
theorem d_Parameter_hasLone_3 : decode b_Parameter_hasLone 3 = .ok (.aload_n 0, 1) := by decide +kernel
theorem d_Parameter_hasLone_4 : decode b_Parameter_hasLone 4 = .ok (.getfield 15, 3) := by decide +kernel
theorem d_Parameter_hasLone_7 : decode b_Parameter_hasLone 7 = .ok (.if_icmp .ge 23, 3) := by decide +kernel
theorem d_Parameter_hasLone_10 : decode b_Parameter_hasLone 10 = .ok (.aload_n 0, 1) := by decide +kernel
theorem d_Parameter_hasLone_11 : decode b_Parameter_hasLone 11 = .ok (.getfield 11, 3) := by decide +kernel
theorem d_Parameter_hasLone_14 : decode b_Parameter_hasLone 14 = .ok (.iload_n 1, 1) := by decide +kernel
theorem d_Parameter_hasLone_15 : decode b_Parameter_hasLone 15 = .ok (.aaload, 1) := by decide +kernel
theorem d_Parameter_hasLone_16 : decode b_Parameter_hasLone 16 = .ok (.invokevirtual 34, 3) := by decide +kernel
theorem d_Parameter_hasLone_19 : decode b_Parameter_hasLone 19 = .ok (.ifCond .eq 5, 3) := by decide +kernel
theorem d_Parameter_hasLone_22 : decode b_Parameter_hasLone 22 = .ok (.iconst 1, 1) := by decide +kernel
theorem d_Parameter_hasLone_23 : decode b_Parameter_hasLone 23 = .ok (.ireturn, 1) := by decide +kernel
theorem d_Parameter_hasLone_24 : decode b_Parameter_hasLone 24 = .ok (.iinc 1 1, 3) := by decide +kernel
theorem d_Parameter_hasLone_27 : decode b_Parameter_hasLone 27 = .ok (.goto (-25), 3) := by decide +kernel
theorem d_Parameter_hasLone_30 : decode b_Parameter_hasLone 30 = .ok (.iconst 0, 1) := by decide +kernel
theorem d_Parameter_hasLone_31 : decode b_Parameter_hasLone 31 = .ok (.ireturn, 1) := by decide +kernel
def f_Parameter_hasLone_2 : Nat → Nat → Int32 → zSt → Option Int32
  | 0, _, _, _ => none
  | n + 1, k0, a1, S => (if (S (10 + k0) 1) ≤ a1 then (gdb 0 (some 0)) else gdi a1 3 (((f_Item_hasLone (3 * k0 + a1.toNatClampNeg) S).bind fun u2 => (if u2 = 0 then ((f_Parameter_hasLone_2 n) k0 (a1 + 1) S) else (gdb 1 (some 1))))))
def f_Parameter_hasLone (k0 : Nat) (S : zSt) : Option Int32 := (f_Parameter_hasLone_2 fu k0 0 S)
set_option maxHeartbeats 4000000 in
set_option maxRecDepth 100000 in
theorem c_Parameter_hasLone (l : Launch) (g : zG) (hD : GD g) (k0 : Nat) (hk0 : k0 < 6) (S : zSt) (u : Int32) (h : f_Parameter_hasLone k0 S = some u) : Met l y_Parameter_hasLone (mw y_Parameter_hasLone b_Parameter_hasLone 2 (some .boolean)) (rmD 2) (Pw g [.ref (ga g (10 + k0))] S) (Qip g S u) 0 0 (gA g) := by
  refine z_go (own := R_Parameter) (lv0 := [(0, .ref (ga g (10 + k0)))]) hD (by decide) rfl (Nat.le_of_ble_eq_true rfl) rfl ?_
  intro p e s m args below meth c C D ls hl
  have hx := C.1
  have hb := C.2.1
  have hown := C.2.2.2.1
  have hts := C.2.2.2.2.1
  have L2 : ∀ (n : Nat) (H : Heap) (locs : List Loc) (ls : Array Slot) (k0 : Nat) (hk0 : k0 < 6) (a1 : Int32), f_Parameter_hasLone_2 n k0 a1 S = some u → Dy g s S H locs → lv_has ls 2 [(0, .ref (ga g (10 + k0))), (1, .int a1)] → W p l e (rmD 2) s m args below meth c H locs 0 0 (MQ below (Qip g S u) args s 0 0 (gA g)) (F0 m 2 ls []) := by
    intro n
    induction n with
    | zero => intro H locs ls k0 hk0 a1 h D hl; rw [f_Parameter_hasLone_2] at h; cases h
    | succ n hK2 =>
      intro H locs ls k0 hk0 a1 h D hl
      rw [f_Parameter_hasLone_2] at h
      refine lv_iload_n hx hb d_Parameter_hasLone_2 rfl (lv_at hl 1 rfl) ?_
      refine lv_aload_n hx hb d_Parameter_hasLone_3 rfl (lv_at hl 0 rfl) ?_
      refine x_get (v := .int (S (10 + k0) 1)) C D kc_Parameter (nP hk0) (sh_P hk0) 1 rfl (by decide) wf_Parameter_15 rfl rfl d_Parameter_hasLone_4 ?_
      refine lv_icmp_ge hx hb d_Parameter_hasLone_7 rfl (fun z => ?_) (fun z => ?_)
      · replace h := if_t z h
        refine lv_iconst (v := 0) hx hb d_Parameter_hasLone_30 (by decide) ?_
        exact x_zrp C D h d_Parameter_hasLone_31
      · replace h := if_f z h
        refine lv_aload_n hx hb d_Parameter_hasLone_10 rfl (lv_at hl 0 rfl) ?_
        refine x_get (v := .ref (ga g (16 + k0))) C D kc_Parameter (nP hk0) (sh_P hk0) 0 rfl (by decide) wf_Parameter_11 rfl (fvv_r _ _ (by have q_ : k0 < 6 := hk0; omega)) d_Parameter_hasLone_11 ?_
        refine lv_iload_n hx hb d_Parameter_hasLone_14 rfl (lv_at hl 1 rfl) ?_
        refine x_aald4 C D (nPI hk0) (sh_PI hk0) d_Parameter_hasLone_15 h (fun q1 h => ?_)
        obtain ⟨u2, hu2, h⟩ := bd_some h
        refine x_cip (rest := []) (r_V C D (c_Item_hasLone l g hD (3 * k0 + a1.toNatClampNeg) (i3 hk0 q1) S u2 hu2) wc_Item_hasLone wm_Parameter_34 wi_Item_hasLone wd_Item_hasLone (nI_ (i3 hk0 q1)) (sh_I (i3 hk0 q1)) kc_Item.1 rfl rfl hl (Nat.le_of_ble_eq_true rfl) (by decide) d_Parameter_hasLone_16) D (fun H locs D => ?_)
        refine lv_if_eq hx hb d_Parameter_hasLone_19 rfl (fun z => ?_) (fun z => ?_)
        · replace h := if_t z h
          refine lv_iinc (k := 1) (lv' := [(1, .int (a1 + 1)), (0, .ref (ga g (10 + k0)))]) hx hb d_Parameter_hasLone_24 hl rfl (ii1 _) (by decide) rfl (fun ls hl => ?_)
          refine lv_goto hx hb d_Parameter_hasLone_27 rfl ?_
          exact hK2 _ _ _ _ hk0 _ h D (lv_sub hl [1, 0] rfl)
        · replace h := if_f z h
          refine lv_iconst (v := 1) hx hb d_Parameter_hasLone_22 (by decide) ?_
          exact x_zrp C D h d_Parameter_hasLone_23
  unfold f_Parameter_hasLone at h
  refine lv_iconst (v := 0) hx hb d_Parameter_hasLone_0 (by decide) ?_
  refine lv_istore_n (lv' := [(1, .int 0), (0, .ref (ga g (10 + k0)))]) hx hb d_Parameter_hasLone_1 rfl hl (by decide) rfl (fun ls hl => ?_)
  exact L2 _ _ _ _ _ hk0 _ h D (lv_sub hl [1, 0] rfl)
theorem d_Parameter_fitsHeader_0 : decode b_Parameter_fitsHeader 0 = .ok (.iconst 0, 1) := by decide +kernel
theorem d_Parameter_fitsHeader_1 : decode b_Parameter_fitsHeader 1 = .ok (.istore_n 1, 1) := by decide +kernel
theorem d_Parameter_fitsHeader_2 : decode b_Parameter_fitsHeader 2 = .ok (.iload_n 1, 1) := by decide +kernel
theorem d_Parameter_fitsHeader_3 : decode b_Parameter_fitsHeader 3 = .ok (.aload_n 0, 1) := by decide +kernel
theorem d_Parameter_fitsHeader_4 : decode b_Parameter_fitsHeader 4 = .ok (.getfield 15, 3) := by decide +kernel
theorem d_Parameter_fitsHeader_7 : decode b_Parameter_fitsHeader 7 = .ok (.if_icmp .ge 23, 3) := by decide +kernel
theorem d_Parameter_fitsHeader_10 : decode b_Parameter_fitsHeader 10 = .ok (.aload_n 0, 1) := by decide +kernel
theorem d_Parameter_fitsHeader_11 : decode b_Parameter_fitsHeader 11 = .ok (.getfield 11, 3) := by decide +kernel
theorem d_Parameter_fitsHeader_14 : decode b_Parameter_fitsHeader 14 = .ok (.iload_n 1, 1) := by decide +kernel
theorem d_Parameter_fitsHeader_15 : decode b_Parameter_fitsHeader 15 = .ok (.aaload, 1) := by decide +kernel
theorem d_Parameter_fitsHeader_16 : decode b_Parameter_fitsHeader 16 = .ok (.invokevirtual 38, 3) := by decide +kernel
theorem d_Parameter_fitsHeader_19 : decode b_Parameter_fitsHeader 19 = .ok (.ifCond .ne 5, 3) := by decide +kernel
theorem d_Parameter_fitsHeader_22 : decode b_Parameter_fitsHeader 22 = .ok (.iconst 0, 1) := by decide +kernel
theorem d_Parameter_fitsHeader_23 : decode b_Parameter_fitsHeader 23 = .ok (.ireturn, 1) := by decide +kernel
theorem d_Parameter_fitsHeader_24 : decode b_Parameter_fitsHeader 24 = .ok (.iinc 1 1, 3) := by decide +kernel
theorem d_Parameter_fitsHeader_27 : decode b_Parameter_fitsHeader 27 = .ok (.goto (-25), 3) := by decide +kernel
theorem d_Parameter_fitsHeader_30 : decode b_Parameter_fitsHeader 30 = .ok (.iconst 1, 1) := by decide +kernel
theorem d_Parameter_fitsHeader_31 : decode b_Parameter_fitsHeader 31 = .ok (.ireturn, 1) := by decide +kernel
def f_Parameter_fitsHeader_2 : Nat → Nat → Int32 → zSt → Option Int32
  | 0, _, _, _ => none
  | n + 1, k0, a1, S => (if (S (10 + k0) 1) ≤ a1 then (gdb 1 (some 1)) else gdi a1 3 (((f_Item_fitsHeader (3 * k0 + a1.toNatClampNeg) S).bind fun u2 => (if u2 = 0 then (gdb 0 (some 0)) else ((f_Parameter_fitsHeader_2 n) k0 (a1 + 1) S)))))
def f_Parameter_fitsHeader (k0 : Nat) (S : zSt) : Option Int32 := (f_Parameter_fitsHeader_2 fu k0 0 S)
set_option maxHeartbeats 4000000 in
set_option maxRecDepth 100000 in
theorem c_Parameter_fitsHeader (l : Launch) (g : zG) (hD : GD g) (k0 : Nat) (hk0 : k0 < 6) (S : zSt) (u : Int32) (h : f_Parameter_fitsHeader k0 S = some u) : Met l y_Parameter_fitsHeader (mw y_Parameter_fitsHeader b_Parameter_fitsHeader 2 (some .boolean)) (rmD 2) (Pw g [.ref (ga g (10 + k0))] S) (Qip g S u) 0 0 (gA g) := by
  refine z_go (own := R_Parameter) (lv0 := [(0, .ref (ga g (10 + k0)))]) hD (by decide) rfl (Nat.le_of_ble_eq_true rfl) rfl ?_
  intro p e s m args below meth c C D ls hl
  have hx := C.1
  have hb := C.2.1
  have hown := C.2.2.2.1
  have hts := C.2.2.2.2.1
  have L2 : ∀ (n : Nat) (H : Heap) (locs : List Loc) (ls : Array Slot) (k0 : Nat) (hk0 : k0 < 6) (a1 : Int32), f_Parameter_fitsHeader_2 n k0 a1 S = some u → Dy g s S H locs → lv_has ls 2 [(0, .ref (ga g (10 + k0))), (1, .int a1)] → W p l e (rmD 2) s m args below meth c H locs 0 0 (MQ below (Qip g S u) args s 0 0 (gA g)) (F0 m 2 ls []) := by
    intro n
    induction n with
    | zero => intro H locs ls k0 hk0 a1 h D hl; rw [f_Parameter_fitsHeader_2] at h; cases h
    | succ n hK2 =>
      intro H locs ls k0 hk0 a1 h D hl
      rw [f_Parameter_fitsHeader_2] at h
      refine lv_iload_n hx hb d_Parameter_fitsHeader_2 rfl (lv_at hl 1 rfl) ?_
      refine lv_aload_n hx hb d_Parameter_fitsHeader_3 rfl (lv_at hl 0 rfl) ?_
      refine x_get (v := .int (S (10 + k0) 1)) C D kc_Parameter (nP hk0) (sh_P hk0) 1 rfl (by decide) wf_Parameter_15 rfl rfl d_Parameter_fitsHeader_4 ?_
      refine lv_icmp_ge hx hb d_Parameter_fitsHeader_7 rfl (fun z => ?_) (fun z => ?_)
      · replace h := if_t z h
        refine lv_iconst (v := 1) hx hb d_Parameter_fitsHeader_30 (by decide) ?_
        exact x_zrp C D h d_Parameter_fitsHeader_31
      · replace h := if_f z h
        refine lv_aload_n hx hb d_Parameter_fitsHeader_10 rfl (lv_at hl 0 rfl) ?_
        refine x_get (v := .ref (ga g (16 + k0))) C D kc_Parameter (nP hk0) (sh_P hk0) 0 rfl (by decide) wf_Parameter_11 rfl (fvv_r _ _ (by have q_ : k0 < 6 := hk0; omega)) d_Parameter_fitsHeader_11 ?_
        refine lv_iload_n hx hb d_Parameter_fitsHeader_14 rfl (lv_at hl 1 rfl) ?_
        refine x_aald4 C D (nPI hk0) (sh_PI hk0) d_Parameter_fitsHeader_15 h (fun q1 h => ?_)
        obtain ⟨u2, hu2, h⟩ := bd_some h
        refine x_cip (rest := []) (r_V C D (c_Item_fitsHeader l g hD (3 * k0 + a1.toNatClampNeg) (i3 hk0 q1) S u2 hu2) wc_Item_fitsHeader wm_Parameter_38 wi_Item_fitsHeader wd_Item_fitsHeader (nI_ (i3 hk0 q1)) (sh_I (i3 hk0 q1)) kc_Item.1 rfl rfl hl (Nat.le_of_ble_eq_true rfl) (by decide) d_Parameter_fitsHeader_16) D (fun H locs D => ?_)
        refine lv_if_ne hx hb d_Parameter_fitsHeader_19 rfl (fun z => ?_) (fun z => ?_)
        · replace h := if_f z h
          refine lv_iinc (k := 1) (lv' := [(1, .int (a1 + 1)), (0, .ref (ga g (10 + k0)))]) hx hb d_Parameter_fitsHeader_24 hl rfl (ii1 _) (by decide) rfl (fun ls hl => ?_)
          refine lv_goto hx hb d_Parameter_fitsHeader_27 rfl ?_
          exact hK2 _ _ _ _ hk0 _ h D (lv_sub hl [1, 0] rfl)
        · replace h := if_t z h
          refine lv_iconst (v := 0) hx hb d_Parameter_fitsHeader_22 (by decide) ?_
          exact x_zrp C D h d_Parameter_fitsHeader_23
  unfold f_Parameter_fitsHeader at h
  refine lv_iconst (v := 0) hx hb d_Parameter_fitsHeader_0 (by decide) ?_
  refine lv_istore_n (lv' := [(1, .int 0), (0, .ref (ga g (10 + k0)))]) hx hb d_Parameter_fitsHeader_1 rfl hl (by decide) rfl (fun ls hl => ?_)
  exact L2 _ _ _ _ _ hk0 _ h D (lv_sub hl [1, 0] rfl)
