theorem d_Item_add_0 : decode b_Item_add 0 = .ok (.aload_n 0, 1) := by decide +kernel
theorem d_Item_add_1 : decode b_Item_add 1 = .ok (.getfield 13, 3) := by decide +kernel
theorem d_Item_add_4 : decode b_Item_add 4 = .ok (.bipush 8, 2) := by decide +kernel
theorem d_Item_add_6 : decode b_Item_add 6 = .ok (.if_icmp .lt 5, 3) := by decide +kernel
theorem d_Item_add_9 : decode b_Item_add 9 = .ok (.iconst 0, 1) := by decide +kernel
theorem d_Item_add_10 : decode b_Item_add 10 = .ok (.ireturn, 1) := by decide +kernel
theorem d_Item_add_11 : decode b_Item_add 11 = .ok (.aload_n 0, 1) := by decide +kernel
theorem d_Item_add_12 : decode b_Item_add 12 = .ok (.getfield 9, 3) := by decide +kernel
theorem d_Item_add_15 : decode b_Item_add 15 = .ok (.aload_n 0, 1) := by decide +kernel
theorem d_Item_add_16 : decode b_Item_add 16 = .ok (.getfield 13, 3) := by decide +kernel
theorem d_Item_add_19 : decode b_Item_add 19 = .ok (.iload_n 1, 1) := by decide +kernel
theorem d_Item_add_20 : decode b_Item_add 20 = .ok (.castore, 1) := by decide +kernel
theorem d_Item_add_21 : decode b_Item_add 21 = .ok (.aload_n 0, 1) := by decide +kernel
theorem d_Item_add_22 : decode b_Item_add 22 = .ok (.dup, 1) := by decide +kernel
theorem d_Item_add_23 : decode b_Item_add 23 = .ok (.getfield 13, 3) := by decide +kernel
theorem d_Item_add_26 : decode b_Item_add 26 = .ok (.iconst 1, 1) := by decide +kernel
theorem d_Item_add_27 : decode b_Item_add 27 = .ok (.iadd, 1) := by decide +kernel
theorem d_Item_add_28 : decode b_Item_add 28 = .ok (.putfield 13, 3) := by decide +kernel
theorem d_Item_add_31 : decode b_Item_add 31 = .ok (.iconst 1, 1) := by decide +kernel
theorem d_Item_add_32 : decode b_Item_add 32 = .ok (.ireturn, 1) := by decide +kernel
def f_Item_add (k0 : Nat) (a1 : Int32) (S : zSt) : Option (Int32 × zSt) := (if (S (22 + k0) 1) < 8 then gdi (S (22 + k0) 1) 8 (sq (su S (40 + k0) (S (22 + k0) 1).toNatClampNeg (vp_nar .char a1)) fun S1 => sq (su S1 (22 + k0) 1 ((S1 (22 + k0) 1) + 1)) fun S2 => (gdb 1 (some (1, S2)))) else (gdb 0 (some (0, S))))
set_option maxHeartbeats 4000000 in
set_option maxRecDepth 100000 in
theorem c_Item_add (l : Launch) (g : zG) (hD : GD g) (k0 : Nat) (hk0 : k0 < 18) (a1 : Int32) (S : zSt) (u : (Int32 × zSt)) (h : f_Item_add k0 a1 S = some u) : Met l y_Item_add (mw y_Item_add b_Item_add 2 (some .boolean)) (rmD 0) (Pw g [.ref (ga g (22 + k0)), .int a1] S) (Qis g u) 0 0 (gA g) := by
  refine z_go (own := R_Item) (lv0 := [(0, .ref (ga g (22 + k0))), (1, .int a1)]) hD (by decide) rfl (Nat.le_of_ble_eq_true rfl) rfl ?_
  intro p e s m args below meth c C D ls hl
  have hx := C.1
  have hb := C.2.1
  have hown := C.2.2.2.1
  have hts := C.2.2.2.2.1
  unfold f_Item_add at h
  refine lv_aload_n hx hb d_Item_add_0 rfl (lv_at hl 0 rfl) ?_
  refine x_get (v := .int (S (22 + k0) 1)) C D kc_Item (nI_ hk0) (sh_I hk0) 1 rfl (by decide) wf_Item_13 rfl rfl d_Item_add_1 ?_
  refine lv_bipush (v := 8) hx hb d_Item_add_4 (by decide) ?_
  refine lv_icmp_lt hx hb d_Item_add_6 rfl (fun z => ?_) (fun z => ?_)
  · replace h := if_t z h
    refine lv_aload_n hx hb d_Item_add_11 rfl (lv_at hl 0 rfl) ?_
    refine x_get (v := .ref (ga g (40 + k0))) C D kc_Item (nI_ hk0) (sh_I hk0) 0 rfl (by decide) wf_Item_9 rfl (fvv_r _ _ (by have q_ : k0 < 18 := hk0; omega)) d_Item_add_12 ?_
    refine lv_aload_n hx hb d_Item_add_15 rfl (lv_at hl 0 rfl) ?_
    refine x_get (v := .int (S (22 + k0) 1)) C D kc_Item (nI_ hk0) (sh_I hk0) 1 rfl (by decide) wf_Item_13 rfl rfl d_Item_add_16 ?_
    refine lv_iload_n hx hb d_Item_add_19 rfl (lv_at hl 1 rfl) ?_
    refine x_cast C D (nIC hk0) (sh_IC hk0) d_Item_add_20 h (fun S1 H locs h D => ?_)
    refine lv_aload_n hx hb d_Item_add_21 rfl (lv_at hl 0 rfl) ?_
    refine lv_dup hx hb d_Item_add_22 rfl ?_
    refine x_get (v := .int (S1 (22 + k0) 1)) C D kc_Item (nI_ hk0) (sh_I hk0) 1 rfl (by decide) wf_Item_13 rfl rfl d_Item_add_23 ?_
    refine lv_iconst (v := 1) hx hb d_Item_add_26 (by decide) ?_
    refine lv_iadd hx hb d_Item_add_27 ?_
    refine x_put C D kc_Item (nI_ hk0) (sh_I hk0) 1 rfl (by decide) wf_Item_13 rfl rfl ((S1 (22 + k0) 1) + 1) rfl ⟨rfl, rfl⟩ d_Item_add_28 h (fun S2 H locs h D => ?_)
    refine lv_iconst (v := 1) hx hb d_Item_add_31 (by decide) ?_
    exact x_zrs C D h d_Item_add_32
  · replace h := if_f z h
    refine lv_iconst (v := 0) hx hb d_Item_add_9 (by decide) ?_
    exact x_zrs C D h d_Item_add_10
theorem d_Item_at_0 : decode b_Item_at 0 = .ok (.iload_n 1, 1) := by decide +kernel
theorem d_Item_at_1 : decode b_Item_at 1 = .ok (.ifCond .lt 20, 3) := by decide +kernel
theorem d_Item_at_4 : decode b_Item_at 4 = .ok (.iload_n 1, 1) := by decide +kernel
theorem d_Item_at_5 : decode b_Item_at 5 = .ok (.aload_n 0, 1) := by decide +kernel
theorem d_Item_at_6 : decode b_Item_at 6 = .ok (.getfield 13, 3) := by decide +kernel
theorem d_Item_at_9 : decode b_Item_at 9 = .ok (.if_icmp .ge 12, 3) := by decide +kernel
theorem d_Item_at_12 : decode b_Item_at 12 = .ok (.aload_n 0, 1) := by decide +kernel
theorem d_Item_at_13 : decode b_Item_at 13 = .ok (.getfield 9, 3) := by decide +kernel
theorem d_Item_at_16 : decode b_Item_at 16 = .ok (.iload_n 1, 1) := by decide +kernel
theorem d_Item_at_17 : decode b_Item_at 17 = .ok (.caload, 1) := by decide +kernel
theorem d_Item_at_18 : decode b_Item_at 18 = .ok (.goto 4, 3) := by decide +kernel
theorem d_Item_at_21 : decode b_Item_at 21 = .ok (.iconst 0, 1) := by decide +kernel
theorem d_Item_at_22 : decode b_Item_at 22 = .ok (.ireturn, 1) := by decide +kernel
def f_Item_at_21 (S : zSt) : Option Int32 := (gdc 0 (some 0))
def f_Item_at (k0 : Nat) (a1 : Int32) (S : zSt) : Option Int32 := (if a1 < 0 then (f_Item_at_21 S) else (if (S (22 + k0) 1) ≤ a1 then (f_Item_at_21 S) else gdi a1 8 ((gdc (S (40 + k0) a1.toNatClampNeg) (some (S (40 + k0) a1.toNatClampNeg))))))
set_option maxHeartbeats 4000000 in
set_option maxRecDepth 100000 in
theorem c_Item_at (l : Launch) (g : zG) (hD : GD g) (k0 : Nat) (hk0 : k0 < 18) (a1 : Int32) (S : zSt) (u : Int32) (h : f_Item_at k0 a1 S = some u) : Met l y_Item_at (mw y_Item_at b_Item_at 2 (some .char)) (rmD 0) (Pw g [.ref (ga g (22 + k0)), .int a1] S) (Qip g S u) 0 0 (gA g) := by
  refine z_go (own := R_Item) (lv0 := [(0, .ref (ga g (22 + k0))), (1, .int a1)]) hD (by decide) rfl (Nat.le_of_ble_eq_true rfl) rfl ?_
  intro p e s m args below meth c C D ls hl
  have hx := C.1
  have hb := C.2.1
  have hown := C.2.2.2.1
  have hts := C.2.2.2.2.1
  have B21 : ∀ (H : Heap) (locs : List Loc) (ls : Array Slot), f_Item_at_21 S = some u → Dy g s S H locs → lv_has ls 2 [] → W p l e (rmD 0) s m args below meth c H locs 0 0 (MQ below (Qip g S u) args s 0 0 (gA g)) (F0 m 21 ls []) := by
    intro H locs ls h D hl
    unfold f_Item_at_21 at h
    refine lv_iconst (v := 0) hx hb d_Item_at_21 (by decide) ?_
    exact x_crp C D h d_Item_at_22
  unfold f_Item_at at h
  refine lv_iload_n hx hb d_Item_at_0 rfl (lv_at hl 1 rfl) ?_
  refine lv_if_lt hx hb d_Item_at_1 rfl (fun z => ?_) (fun z => ?_)
  · replace h := if_t z h
    exact B21 _ _ _ h D (lv_sub hl [] rfl)
  · replace h := if_f z h
    refine lv_iload_n hx hb d_Item_at_4 rfl (lv_at hl 1 rfl) ?_
    refine lv_aload_n hx hb d_Item_at_5 rfl (lv_at hl 0 rfl) ?_
    refine x_get (v := .int (S (22 + k0) 1)) C D kc_Item (nI_ hk0) (sh_I hk0) 1 rfl (by decide) wf_Item_13 rfl rfl d_Item_at_6 ?_
    refine lv_icmp_ge hx hb d_Item_at_9 rfl (fun z => ?_) (fun z => ?_)
    · replace h := if_t z h
      exact B21 _ _ _ h D (lv_sub hl [] rfl)
    · replace h := if_f z h
      refine lv_aload_n hx hb d_Item_at_12 rfl (lv_at hl 0 rfl) ?_
      refine x_get (v := .ref (ga g (40 + k0))) C D kc_Item (nI_ hk0) (sh_I hk0) 0 rfl (by decide) wf_Item_9 rfl (fvv_r _ _ (by have q_ : k0 < 18 := hk0; omega)) d_Item_at_13 ?_
      refine lv_iload_n hx hb d_Item_at_16 rfl (lv_at hl 1 rfl) ?_
      refine x_cald C D (nIC hk0) (sh_IC hk0) d_Item_at_17 h (fun _ h => ?_)
      refine lv_goto hx hb d_Item_at_18 rfl ?_
      exact x_crp C D h d_Item_at_22
theorem d_Item_isPair_0 : decode b_Item_isPair 0 = .ok (.iload_n 1, 1) := by decide +kernel
theorem d_Item_isPair_1 : decode b_Item_isPair 1 = .ok (.ifCond .lt 65, 3) := by decide +kernel
theorem d_Item_isPair_4 : decode b_Item_isPair 4 = .ok (.iload_n 1, 1) := by decide +kernel
theorem d_Item_isPair_5 : decode b_Item_isPair 5 = .ok (.iconst 1, 1) := by decide +kernel
theorem d_Item_isPair_6 : decode b_Item_isPair 6 = .ok (.iadd, 1) := by decide +kernel
theorem d_Item_isPair_7 : decode b_Item_isPair 7 = .ok (.aload_n 0, 1) := by decide +kernel
theorem d_Item_isPair_8 : decode b_Item_isPair 8 = .ok (.getfield 13, 3) := by decide +kernel
theorem d_Item_isPair_11 : decode b_Item_isPair 11 = .ok (.if_icmp .ge 55, 3) := by decide +kernel
theorem d_Item_isPair_14 : decode b_Item_isPair 14 = .ok (.aload_n 0, 1) := by decide +kernel
theorem d_Item_isPair_15 : decode b_Item_isPair 15 = .ok (.getfield 9, 3) := by decide +kernel
theorem d_Item_isPair_18 : decode b_Item_isPair 18 = .ok (.iload_n 1, 1) := by decide +kernel
theorem d_Item_isPair_19 : decode b_Item_isPair 19 = .ok (.caload, 1) := by decide +kernel
theorem d_Item_isPair_20 : decode b_Item_isPair 20 = .ok (.ldc 17, 2) := by decide +kernel
theorem d_Item_isPair_22 : decode b_Item_isPair 22 = .ok (.if_icmp .lt 44, 3) := by decide +kernel
theorem d_Item_isPair_25 : decode b_Item_isPair 25 = .ok (.aload_n 0, 1) := by decide +kernel
theorem d_Item_isPair_26 : decode b_Item_isPair 26 = .ok (.getfield 9, 3) := by decide +kernel
theorem d_Item_isPair_29 : decode b_Item_isPair 29 = .ok (.iload_n 1, 1) := by decide +kernel
theorem d_Item_isPair_30 : decode b_Item_isPair 30 = .ok (.caload, 1) := by decide +kernel
theorem d_Item_isPair_31 : decode b_Item_isPair 31 = .ok (.ldc 18, 2) := by decide +kernel
theorem d_Item_isPair_33 : decode b_Item_isPair 33 = .ok (.if_icmp .ge 33, 3) := by decide +kernel
theorem d_Item_isPair_36 : decode b_Item_isPair 36 = .ok (.aload_n 0, 1) := by decide +kernel
theorem d_Item_isPair_37 : decode b_Item_isPair 37 = .ok (.getfield 9, 3) := by decide +kernel
theorem d_Item_isPair_40 : decode b_Item_isPair 40 = .ok (.iload_n 1, 1) := by decide +kernel
theorem d_Item_isPair_41 : decode b_Item_isPair 41 = .ok (.iconst 1, 1) := by decide +kernel
theorem d_Item_isPair_42 : decode b_Item_isPair 42 = .ok (.iadd, 1) := by decide +kernel
theorem d_Item_isPair_43 : decode b_Item_isPair 43 = .ok (.caload, 1) := by decide +kernel
theorem d_Item_isPair_44 : decode b_Item_isPair 44 = .ok (.ldc 18, 2) := by decide +kernel
theorem d_Item_isPair_46 : decode b_Item_isPair 46 = .ok (.if_icmp .lt 20, 3) := by decide +kernel
theorem d_Item_isPair_49 : decode b_Item_isPair 49 = .ok (.aload_n 0, 1) := by decide +kernel
theorem d_Item_isPair_50 : decode b_Item_isPair 50 = .ok (.getfield 9, 3) := by decide +kernel
theorem d_Item_isPair_53 : decode b_Item_isPair 53 = .ok (.iload_n 1, 1) := by decide +kernel
theorem d_Item_isPair_54 : decode b_Item_isPair 54 = .ok (.iconst 1, 1) := by decide +kernel
theorem d_Item_isPair_55 : decode b_Item_isPair 55 = .ok (.iadd, 1) := by decide +kernel
theorem d_Item_isPair_56 : decode b_Item_isPair 56 = .ok (.caload, 1) := by decide +kernel
theorem d_Item_isPair_57 : decode b_Item_isPair 57 = .ok (.ldc 19, 2) := by decide +kernel
theorem d_Item_isPair_59 : decode b_Item_isPair 59 = .ok (.if_icmp .gt 7, 3) := by decide +kernel
theorem d_Item_isPair_62 : decode b_Item_isPair 62 = .ok (.iconst 1, 1) := by decide +kernel
theorem d_Item_isPair_63 : decode b_Item_isPair 63 = .ok (.goto 4, 3) := by decide +kernel
theorem d_Item_isPair_66 : decode b_Item_isPair 66 = .ok (.iconst 0, 1) := by decide +kernel
theorem d_Item_isPair_67 : decode b_Item_isPair 67 = .ok (.ireturn, 1) := by decide +kernel
def f_Item_isPair_66 (S : zSt) : Option Int32 := (gdb 0 (some 0))
def f_Item_isPair (k0 : Nat) (a1 : Int32) (S : zSt) : Option Int32 := (if a1 < 0 then (f_Item_isPair_66 S) else (if (S (22 + k0) 1) ≤ (a1 + 1) then (f_Item_isPair_66 S) else gdi a1 8 ((if (S (40 + k0) a1.toNatClampNeg) < 55296 then (f_Item_isPair_66 S) else gdi a1 8 ((if 56320 ≤ (S (40 + k0) a1.toNatClampNeg) then (f_Item_isPair_66 S) else gdi (a1 + 1) 8 ((if (S (40 + k0) (a1 + 1).toNatClampNeg) < 56320 then (f_Item_isPair_66 S) else gdi (a1 + 1) 8 ((if 57343 < (S (40 + k0) (a1 + 1).toNatClampNeg) then (f_Item_isPair_66 S) else (gdb 1 (some 1))))))))))))
set_option maxHeartbeats 4000000 in
set_option maxRecDepth 100000 in
theorem c_Item_isPair (l : Launch) (g : zG) (hD : GD g) (k0 : Nat) (hk0 : k0 < 18) (a1 : Int32) (S : zSt) (u : Int32) (h : f_Item_isPair k0 a1 S = some u) : Met l y_Item_isPair (mw y_Item_isPair b_Item_isPair 2 (some .boolean)) (rmD 0) (Pw g [.ref (ga g (22 + k0)), .int a1] S) (Qip g S u) 0 0 (gA g) := by
  refine z_go (own := R_Item) (lv0 := [(0, .ref (ga g (22 + k0))), (1, .int a1)]) hD (by decide) rfl (Nat.le_of_ble_eq_true rfl) rfl ?_
  intro p e s m args below meth c C D ls hl
  have hx := C.1
  have hb := C.2.1
  have hown := C.2.2.2.1
  have hts := C.2.2.2.2.1
  have B66 : ∀ (H : Heap) (locs : List Loc) (ls : Array Slot), f_Item_isPair_66 S = some u → Dy g s S H locs → lv_has ls 2 [] → W p l e (rmD 0) s m args below meth c H locs 0 0 (MQ below (Qip g S u) args s 0 0 (gA g)) (F0 m 66 ls []) := by
    intro H locs ls h D hl
    unfold f_Item_isPair_66 at h
    refine lv_iconst (v := 0) hx hb d_Item_isPair_66 (by decide) ?_
    exact x_zrp C D h d_Item_isPair_67
  unfold f_Item_isPair at h
  refine lv_iload_n hx hb d_Item_isPair_0 rfl (lv_at hl 1 rfl) ?_
  refine lv_if_lt hx hb d_Item_isPair_1 rfl (fun z => ?_) (fun z => ?_)
  · replace h := if_t z h
    exact B66 _ _ _ h D (lv_sub hl [] rfl)
  · replace h := if_f z h
    refine lv_iload_n hx hb d_Item_isPair_4 rfl (lv_at hl 1 rfl) ?_
    refine lv_iconst (v := 1) hx hb d_Item_isPair_5 (by decide) ?_
    refine lv_iadd hx hb d_Item_isPair_6 ?_
    refine lv_aload_n hx hb d_Item_isPair_7 rfl (lv_at hl 0 rfl) ?_
    refine x_get (v := .int (S (22 + k0) 1)) C D kc_Item (nI_ hk0) (sh_I hk0) 1 rfl (by decide) wf_Item_13 rfl rfl d_Item_isPair_8 ?_
    refine lv_icmp_ge hx hb d_Item_isPair_11 rfl (fun z => ?_) (fun z => ?_)
    · replace h := if_t z h
      exact B66 _ _ _ h D (lv_sub hl [] rfl)
    · replace h := if_f z h
      refine lv_aload_n hx hb d_Item_isPair_14 rfl (lv_at hl 0 rfl) ?_
      refine x_get (v := .ref (ga g (40 + k0))) C D kc_Item (nI_ hk0) (sh_I hk0) 0 rfl (by decide) wf_Item_9 rfl (fvv_r _ _ (by have q_ : k0 < 18 := hk0; omega)) d_Item_isPair_15 ?_
      refine lv_iload_n hx hb d_Item_isPair_18 rfl (lv_at hl 1 rfl) ?_
      refine x_cald C D (nIC hk0) (sh_IC hk0) d_Item_isPair_19 h (fun _ h => ?_)
      refine lv_ldc (v := 55296) hx hb hown (hts _ wk_Item_17) d_Item_isPair_20 ?_
      refine lv_icmp_lt hx hb d_Item_isPair_22 rfl (fun z => ?_) (fun z => ?_)
      · replace h := if_t z h
        exact B66 _ _ _ h D (lv_sub hl [] rfl)
      · replace h := if_f z h
        refine lv_aload_n hx hb d_Item_isPair_25 rfl (lv_at hl 0 rfl) ?_
        refine x_get (v := .ref (ga g (40 + k0))) C D kc_Item (nI_ hk0) (sh_I hk0) 0 rfl (by decide) wf_Item_9 rfl (fvv_r _ _ (by have q_ : k0 < 18 := hk0; omega)) d_Item_isPair_26 ?_
        refine lv_iload_n hx hb d_Item_isPair_29 rfl (lv_at hl 1 rfl) ?_
        refine x_cald C D (nIC hk0) (sh_IC hk0) d_Item_isPair_30 h (fun _ h => ?_)
        refine lv_ldc (v := 56320) hx hb hown (hts _ wk_Item_18) d_Item_isPair_31 ?_
        refine lv_icmp_ge hx hb d_Item_isPair_33 rfl (fun z => ?_) (fun z => ?_)
        · replace h := if_t z h
          exact B66 _ _ _ h D (lv_sub hl [] rfl)
        · replace h := if_f z h
          refine lv_aload_n hx hb d_Item_isPair_36 rfl (lv_at hl 0 rfl) ?_
          refine x_get (v := .ref (ga g (40 + k0))) C D kc_Item (nI_ hk0) (sh_I hk0) 0 rfl (by decide) wf_Item_9 rfl (fvv_r _ _ (by have q_ : k0 < 18 := hk0; omega)) d_Item_isPair_37 ?_
          refine lv_iload_n hx hb d_Item_isPair_40 rfl (lv_at hl 1 rfl) ?_
          refine lv_iconst (v := 1) hx hb d_Item_isPair_41 (by decide) ?_
          refine lv_iadd hx hb d_Item_isPair_42 ?_
          refine x_cald C D (nIC hk0) (sh_IC hk0) d_Item_isPair_43 h (fun _ h => ?_)
          refine lv_ldc (v := 56320) hx hb hown (hts _ wk_Item_18) d_Item_isPair_44 ?_
          refine lv_icmp_lt hx hb d_Item_isPair_46 rfl (fun z => ?_) (fun z => ?_)
          · replace h := if_t z h
            exact B66 _ _ _ h D (lv_sub hl [] rfl)
          · replace h := if_f z h
            refine lv_aload_n hx hb d_Item_isPair_49 rfl (lv_at hl 0 rfl) ?_
            refine x_get (v := .ref (ga g (40 + k0))) C D kc_Item (nI_ hk0) (sh_I hk0) 0 rfl (by decide) wf_Item_9 rfl (fvv_r _ _ (by have q_ : k0 < 18 := hk0; omega)) d_Item_isPair_50 ?_
            refine lv_iload_n hx hb d_Item_isPair_53 rfl (lv_at hl 1 rfl) ?_
            refine lv_iconst (v := 1) hx hb d_Item_isPair_54 (by decide) ?_
            refine lv_iadd hx hb d_Item_isPair_55 ?_
            refine x_cald C D (nIC hk0) (sh_IC hk0) d_Item_isPair_56 h (fun _ h => ?_)
            refine lv_ldc (v := 57343) hx hb hown (hts _ wk_Item_19) d_Item_isPair_57 ?_
            refine lv_icmp_gt hx hb d_Item_isPair_59 rfl (fun z => ?_) (fun z => ?_)
            · replace h := if_t z h
              exact B66 _ _ _ h D (lv_sub hl [] rfl)
            · replace h := if_f z h
              refine lv_iconst (v := 1) hx hb d_Item_isPair_62 (by decide) ?_
              refine lv_goto hx hb d_Item_isPair_63 rfl ?_
              exact x_zrp C D h d_Item_isPair_67
theorem d_Item_codeAt_0 : decode b_Item_codeAt 0 = .ok (.aload_n 0, 1) := by decide +kernel
theorem d_Item_codeAt_1 : decode b_Item_codeAt 1 = .ok (.iload_n 1, 1) := by decide +kernel
theorem d_Item_codeAt_2 : decode b_Item_codeAt 2 = .ok (.invokevirtual 20, 3) := by decide +kernel
theorem d_Item_codeAt_5 : decode b_Item_codeAt 5 = .ok (.ifCond .ne 9, 3) := by decide +kernel
theorem d_Item_codeAt_8 : decode b_Item_codeAt 8 = .ok (.aload_n 0, 1) := by decide +kernel
theorem d_Item_codeAt_9 : decode b_Item_codeAt 9 = .ok (.iload_n 1, 1) := by decide +kernel
theorem d_Item_codeAt_10 : decode b_Item_codeAt 10 = .ok (.invokevirtual 24, 3) := by decide +kernel
theorem d_Item_codeAt_13 : decode b_Item_codeAt 13 = .ok (.ireturn, 1) := by decide +kernel
theorem d_Item_codeAt_14 : decode b_Item_codeAt 14 = .ok (.ldc 28, 2) := by decide +kernel
theorem d_Item_codeAt_16 : decode b_Item_codeAt 16 = .ok (.sipush 1024, 3) := by decide +kernel
theorem d_Item_codeAt_19 : decode b_Item_codeAt 19 = .ok (.aload_n 0, 1) := by decide +kernel
theorem d_Item_codeAt_20 : decode b_Item_codeAt 20 = .ok (.iload_n 1, 1) := by decide +kernel
theorem d_Item_codeAt_21 : decode b_Item_codeAt 21 = .ok (.invokevirtual 24, 3) := by decide +kernel
theorem d_Item_codeAt_24 : decode b_Item_codeAt 24 = .ok (.ldc 17, 2) := by decide +kernel
theorem d_Item_codeAt_26 : decode b_Item_codeAt 26 = .ok (.isub, 1) := by decide +kernel
theorem d_Item_codeAt_27 : decode b_Item_codeAt 27 = .ok (.imul, 1) := by decide +kernel
theorem d_Item_codeAt_28 : decode b_Item_codeAt 28 = .ok (.iadd, 1) := by decide +kernel
theorem d_Item_codeAt_29 : decode b_Item_codeAt 29 = .ok (.aload_n 0, 1) := by decide +kernel
theorem d_Item_codeAt_30 : decode b_Item_codeAt 30 = .ok (.iload_n 1, 1) := by decide +kernel
theorem d_Item_codeAt_31 : decode b_Item_codeAt 31 = .ok (.iconst 1, 1) := by decide +kernel
theorem d_Item_codeAt_32 : decode b_Item_codeAt 32 = .ok (.iadd, 1) := by decide +kernel
theorem d_Item_codeAt_33 : decode b_Item_codeAt 33 = .ok (.invokevirtual 24, 3) := by decide +kernel
theorem d_Item_codeAt_36 : decode b_Item_codeAt 36 = .ok (.ldc 18, 2) := by decide +kernel
theorem d_Item_codeAt_38 : decode b_Item_codeAt 38 = .ok (.isub, 1) := by decide +kernel
theorem d_Item_codeAt_39 : decode b_Item_codeAt 39 = .ok (.iadd, 1) := by decide +kernel
theorem d_Item_codeAt_40 : decode b_Item_codeAt 40 = .ok (.ireturn, 1) := by decide +kernel
def f_Item_codeAt (k0 : Nat) (a1 : Int32) (S : zSt) : Option Int32 := ((f_Item_isPair k0 a1 S).bind fun u1 => (if u1 = 0 then ((f_Item_at k0 a1 S).bind fun u4 => (some u4)) else ((f_Item_at k0 a1 S).bind fun u2 => ((f_Item_at k0 (a1 + 1) S).bind fun u3 => (some ((65536 + (1024 * (u2 - 55296))) + (u3 - 56320)))))))
set_option maxHeartbeats 4000000 in
set_option maxRecDepth 100000 in
theorem c_Item_codeAt (l : Launch) (g : zG) (hD : GD g) (k0 : Nat) (hk0 : k0 < 18) (a1 : Int32) (S : zSt) (u : Int32) (h : f_Item_codeAt k0 a1 S = some u) : Met l y_Item_codeAt (mw y_Item_codeAt b_Item_codeAt 2 (some .int)) (rmD 1) (Pw g [.ref (ga g (22 + k0)), .int a1] S) (Qip g S u) 0 0 (gA g) := by
  refine z_go (own := R_Item) (lv0 := [(0, .ref (ga g (22 + k0))), (1, .int a1)]) hD (by decide) rfl (Nat.le_of_ble_eq_true rfl) rfl ?_
  intro p e s m args below meth c C D ls hl
  have hx := C.1
  have hb := C.2.1
  have hown := C.2.2.2.1
  have hts := C.2.2.2.2.1
  unfold f_Item_codeAt at h
  refine lv_aload_n hx hb d_Item_codeAt_0 rfl (lv_at hl 0 rfl) ?_
  refine lv_iload_n hx hb d_Item_codeAt_1 rfl (lv_at hl 1 rfl) ?_
  obtain ⟨u1, hu1, h⟩ := bd_some h
  refine x_cip (rest := []) (r_V C D (c_Item_isPair l g hD k0 hk0 a1 S u1 hu1) wc_Item_isPair wm_Item_20 wi_Item_isPair wd_Item_isPair (nI_ hk0) (sh_I hk0) kc_Item.1 rfl rfl hl (Nat.le_of_ble_eq_true rfl) (by decide) d_Item_codeAt_2) D (fun H locs D => ?_)
  refine lv_if_ne hx hb d_Item_codeAt_5 rfl (fun z => ?_) (fun z => ?_)
  · replace h := if_f z h
    refine lv_ldc (v := 65536) hx hb hown (hts _ wk_Item_28) d_Item_codeAt_14 ?_
    refine lv_sipush (v := 1024) hx hb d_Item_codeAt_16 (by decide) ?_
    refine lv_aload_n hx hb d_Item_codeAt_19 rfl (lv_at hl 0 rfl) ?_
    refine lv_iload_n hx hb d_Item_codeAt_20 rfl (lv_at hl 1 rfl) ?_
    obtain ⟨u2, hu2, h⟩ := bd_some h
    refine x_cip (rest := [.int 1024, .int 65536]) (r_V C D (c_Item_at l g hD k0 hk0 a1 S u2 hu2) wc_Item_at wm_Item_24 wi_Item_at wd_Item_at (nI_ hk0) (sh_I hk0) kc_Item.1 rfl rfl hl (Nat.le_of_ble_eq_true rfl) (by decide) d_Item_codeAt_21) D (fun H locs D => ?_)
    refine lv_ldc (v := 55296) hx hb hown (hts _ wk_Item_17) d_Item_codeAt_24 ?_
    refine lv_isub hx hb d_Item_codeAt_26 ?_
    refine lv_imul hx hb d_Item_codeAt_27 ?_
    refine lv_iadd hx hb d_Item_codeAt_28 ?_
    refine lv_aload_n hx hb d_Item_codeAt_29 rfl (lv_at hl 0 rfl) ?_
    refine lv_iload_n hx hb d_Item_codeAt_30 rfl (lv_at hl 1 rfl) ?_
    refine lv_iconst (v := 1) hx hb d_Item_codeAt_31 (by decide) ?_
    refine lv_iadd hx hb d_Item_codeAt_32 ?_
    obtain ⟨u3, hu3, h⟩ := bd_some h
    refine x_cip (rest := [.int (65536 + (1024 * (u2 - 55296)))]) (r_V C D (c_Item_at l g hD k0 hk0 (a1 + 1) S u3 hu3) wc_Item_at wm_Item_24 wi_Item_at wd_Item_at (nI_ hk0) (sh_I hk0) kc_Item.1 rfl rfl hl (Nat.le_of_ble_eq_true rfl) (by decide) d_Item_codeAt_33) D (fun H locs D => ?_)
    refine lv_ldc (v := 56320) hx hb hown (hts _ wk_Item_18) d_Item_codeAt_36 ?_
    refine lv_isub hx hb d_Item_codeAt_38 ?_
    refine lv_iadd hx hb d_Item_codeAt_39 ?_
    exact x_irp C D h d_Item_codeAt_40
  · replace h := if_t z h
    refine lv_aload_n hx hb d_Item_codeAt_8 rfl (lv_at hl 0 rfl) ?_
    refine lv_iload_n hx hb d_Item_codeAt_9 rfl (lv_at hl 1 rfl) ?_
    obtain ⟨u4, hu4, h⟩ := bd_some h
    refine x_cip (rest := []) (r_V C D (c_Item_at l g hD k0 hk0 a1 S u4 hu4) wc_Item_at wm_Item_24 wi_Item_at wd_Item_at (nI_ hk0) (sh_I hk0) kc_Item.1 rfl rfl hl (Nat.le_of_ble_eq_true rfl) (by decide) d_Item_codeAt_10) D (fun H locs D => ?_)
    exact x_irp C D h d_Item_codeAt_13
theorem d_Item_endOf_0 : decode b_Item_endOf 0 = .ok (.iconst 0, 1) := by decide +kernel
theorem d_Item_endOf_1 : decode b_Item_endOf 1 = .ok (.istore_n 2, 1) := by decide +kernel
theorem d_Item_endOf_2 : decode b_Item_endOf 2 = .ok (.iconst 0, 1) := by decide +kernel
theorem d_Item_endOf_3 : decode b_Item_endOf 3 = .ok (.istore_n 3, 1) := by decide +kernel
theorem d_Item_endOf_4 : decode b_Item_endOf 4 = .ok (.iload_n 3, 1) := by decide +kernel
theorem d_Item_endOf_5 : decode b_Item_endOf 5 = .ok (.iload_n 1, 1) := by decide +kernel
theorem d_Item_endOf_6 : decode b_Item_endOf 6 = .ok (.if_icmp .ge 33, 3) := by decide +kernel
theorem d_Item_endOf_9 : decode b_Item_endOf 9 = .ok (.iload_n 2, 1) := by decide +kernel
theorem d_Item_endOf_10 : decode b_Item_endOf 10 = .ok (.aload_n 0, 1) := by decide +kernel
theorem d_Item_endOf_11 : decode b_Item_endOf 11 = .ok (.getfield 13, 3) := by decide +kernel
theorem d_Item_endOf_14 : decode b_Item_endOf 14 = .ok (.if_icmp .ge 25, 3) := by decide +kernel
theorem d_Item_endOf_17 : decode b_Item_endOf 17 = .ok (.iload_n 2, 1) := by decide +kernel
theorem d_Item_endOf_18 : decode b_Item_endOf 18 = .ok (.aload_n 0, 1) := by decide +kernel
theorem d_Item_endOf_19 : decode b_Item_endOf 19 = .ok (.iload_n 2, 1) := by decide +kernel
theorem d_Item_endOf_20 : decode b_Item_endOf 20 = .ok (.invokevirtual 20, 3) := by decide +kernel
theorem d_Item_endOf_23 : decode b_Item_endOf 23 = .ok (.ifCond .eq 7, 3) := by decide +kernel
theorem d_Item_endOf_26 : decode b_Item_endOf 26 = .ok (.iconst 2, 1) := by decide +kernel
theorem d_Item_endOf_27 : decode b_Item_endOf 27 = .ok (.goto 4, 3) := by decide +kernel
theorem d_Item_endOf_30 : decode b_Item_endOf 30 = .ok (.iconst 1, 1) := by decide +kernel
theorem d_Item_endOf_31 : decode b_Item_endOf 31 = .ok (.iadd, 1) := by decide +kernel
theorem d_Item_endOf_32 : decode b_Item_endOf 32 = .ok (.istore_n 2, 1) := by decide +kernel
theorem d_Item_endOf_33 : decode b_Item_endOf 33 = .ok (.iinc 3 1, 3) := by decide +kernel
theorem d_Item_endOf_36 : decode b_Item_endOf 36 = .ok (.goto (-32), 3) := by decide +kernel
theorem d_Item_endOf_39 : decode b_Item_endOf 39 = .ok (.iload_n 2, 1) := by decide +kernel
theorem d_Item_endOf_40 : decode b_Item_endOf 40 = .ok (.ireturn, 1) := by decide +kernel
def f_Item_endOf_31 (K4 : Nat → Int32 → Int32 → Int32 → zSt → Option Int32) (k0 : Nat) (a1 : Int32) (a3 : Int32) (t0 : Int32) (t1 : Int32) (S : zSt) : Option Int32 := (K4 k0 a1 (t1 + t0) (a3 + 1) S)
def f_Item_endOf_4 : Nat → Nat → Int32 → Int32 → Int32 → zSt → Option Int32
  | 0, _, _, _, _, _ => none
  | n + 1, k0, a1, a2, a3, S => (if a1 ≤ a3 then (some a2) else (if (S (22 + k0) 1) ≤ a2 then (some a2) else ((f_Item_isPair k0 a2 S).bind fun u1 => (if u1 = 0 then (f_Item_endOf_31 (f_Item_endOf_4 n) k0 a1 a3 1 a2 S) else (f_Item_endOf_31 (f_Item_endOf_4 n) k0 a1 a3 2 a2 S)))))
def f_Item_endOf (k0 : Nat) (a1 : Int32) (S : zSt) : Option Int32 := (f_Item_endOf_4 fu k0 a1 0 0 S)
set_option maxHeartbeats 4000000 in
set_option maxRecDepth 100000 in
theorem c_Item_endOf (l : Launch) (g : zG) (hD : GD g) (k0 : Nat) (hk0 : k0 < 18) (a1 : Int32) (S : zSt) (u : Int32) (h : f_Item_endOf k0 a1 S = some u) : Met l y_Item_endOf (mw y_Item_endOf b_Item_endOf 4 (some .int)) (rmD 1) (Pw g [.ref (ga g (22 + k0)), .int a1] S) (Qip g S u) 0 0 (gA g) := by
  refine z_go (own := R_Item) (lv0 := [(0, .ref (ga g (22 + k0))), (1, .int a1)]) hD (by decide) rfl (Nat.le_of_ble_eq_true rfl) rfl ?_
  intro p e s m args below meth c C D ls hl
  have hx := C.1
  have hb := C.2.1
  have hown := C.2.2.2.1
  have hts := C.2.2.2.2.1
  have B31 : ∀ (K4 : Nat → Int32 → Int32 → Int32 → zSt → Option Int32) (hK4 : ∀ (H : Heap) (locs : List Loc) (ls : Array Slot) (k0 : Nat) (hk0 : k0 < 18) (a1 : Int32) (a2 : Int32) (a3 : Int32), K4 k0 a1 a2 a3 S = some u → Dy g s S H locs → lv_has ls 4 [(0, .ref (ga g (22 + k0))), (1, .int a1), (2, .int a2), (3, .int a3)] → W p l e (rmD 1) s m args below meth c H locs 0 0 (MQ below (Qip g S u) args s 0 0 (gA g)) (F0 m 4 ls [])) (H : Heap) (locs : List Loc) (ls : Array Slot) (k0 : Nat) (hk0 : k0 < 18) (a1 : Int32) (a3 : Int32) (t0 : Int32) (t1 : Int32), f_Item_endOf_31 K4 k0 a1 a3 t0 t1 S = some u → Dy g s S H locs → lv_has ls 4 [(0, .ref (ga g (22 + k0))), (1, .int a1), (3, .int a3)] → W p l e (rmD 1) s m args below meth c H locs 0 0 (MQ below (Qip g S u) args s 0 0 (gA g)) (F0 m 31 ls [.int t0, .int t1]) := by
    intro K4 hK4 H locs ls k0 hk0 a1 a3 t0 t1 h D hl
    unfold f_Item_endOf_31 at h
    refine lv_iadd hx hb d_Item_endOf_31 ?_
    refine lv_istore_n (lv' := [(2, .int (t1 + t0)), (0, .ref (ga g (22 + k0))), (1, .int a1), (3, .int a3)]) hx hb d_Item_endOf_32 rfl hl (by decide) rfl (fun ls hl => ?_)
    refine lv_iinc (k := 3) (lv' := [(3, .int (a3 + 1)), (2, .int (t1 + t0)), (0, .ref (ga g (22 + k0))), (1, .int a1)]) hx hb d_Item_endOf_33 hl rfl (ii1 _) (by decide) rfl (fun ls hl => ?_)
    refine lv_goto hx hb d_Item_endOf_36 rfl ?_
    exact hK4 _ _ _ _ hk0 _ _ _ h D (lv_sub hl [2, 3, 1, 0] rfl)
  have L4 : ∀ (n : Nat) (H : Heap) (locs : List Loc) (ls : Array Slot) (k0 : Nat) (hk0 : k0 < 18) (a1 : Int32) (a2 : Int32) (a3 : Int32), f_Item_endOf_4 n k0 a1 a2 a3 S = some u → Dy g s S H locs → lv_has ls 4 [(0, .ref (ga g (22 + k0))), (1, .int a1), (2, .int a2), (3, .int a3)] → W p l e (rmD 1) s m args below meth c H locs 0 0 (MQ below (Qip g S u) args s 0 0 (gA g)) (F0 m 4 ls []) := by
    intro n
    induction n with
    | zero => intro H locs ls k0 hk0 a1 a2 a3 h D hl; rw [f_Item_endOf_4] at h; cases h
    | succ n hK4 =>
      intro H locs ls k0 hk0 a1 a2 a3 h D hl
      rw [f_Item_endOf_4] at h
      refine lv_iload_n hx hb d_Item_endOf_4 rfl (lv_at hl 3 rfl) ?_
      refine lv_iload_n hx hb d_Item_endOf_5 rfl (lv_at hl 1 rfl) ?_
      refine lv_icmp_ge hx hb d_Item_endOf_6 rfl (fun z => ?_) (fun z => ?_)
      · replace h := if_t z h
        refine lv_iload_n hx hb d_Item_endOf_39 rfl (lv_at hl 2 rfl) ?_
        exact x_irp C D h d_Item_endOf_40
      · replace h := if_f z h
        refine lv_iload_n hx hb d_Item_endOf_9 rfl (lv_at hl 2 rfl) ?_
        refine lv_aload_n hx hb d_Item_endOf_10 rfl (lv_at hl 0 rfl) ?_
        refine x_get (v := .int (S (22 + k0) 1)) C D kc_Item (nI_ hk0) (sh_I hk0) 1 rfl (by decide) wf_Item_13 rfl rfl d_Item_endOf_11 ?_
        refine lv_icmp_ge hx hb d_Item_endOf_14 rfl (fun z => ?_) (fun z => ?_)
        · replace h := if_t z h
          refine lv_iload_n hx hb d_Item_endOf_39 rfl (lv_at hl 2 rfl) ?_
          exact x_irp C D h d_Item_endOf_40
        · replace h := if_f z h
          refine lv_iload_n hx hb d_Item_endOf_17 rfl (lv_at hl 2 rfl) ?_
          refine lv_aload_n hx hb d_Item_endOf_18 rfl (lv_at hl 0 rfl) ?_
          refine lv_iload_n hx hb d_Item_endOf_19 rfl (lv_at hl 2 rfl) ?_
          obtain ⟨u1, hu1, h⟩ := bd_some h
          refine x_cip (rest := [.int a2]) (r_V C D (c_Item_isPair l g hD k0 hk0 a2 S u1 hu1) wc_Item_isPair wm_Item_20 wi_Item_isPair wd_Item_isPair (nI_ hk0) (sh_I hk0) kc_Item.1 rfl rfl hl (Nat.le_of_ble_eq_true rfl) (by decide) d_Item_endOf_20) D (fun H locs D => ?_)
          refine lv_if_eq hx hb d_Item_endOf_23 rfl (fun z => ?_) (fun z => ?_)
          · replace h := if_t z h
            refine lv_iconst (v := 1) hx hb d_Item_endOf_30 (by decide) ?_
            exact B31 _ hK4 _ _ _ _ hk0 _ _ _ _ h D (lv_sub hl [0, 1, 3] rfl)
          · replace h := if_f z h
            refine lv_iconst (v := 2) hx hb d_Item_endOf_26 (by decide) ?_
            refine lv_goto hx hb d_Item_endOf_27 rfl ?_
            exact B31 _ hK4 _ _ _ _ hk0 _ _ _ _ h D (lv_sub hl [0, 1, 3] rfl)
  unfold f_Item_endOf at h
  refine lv_iconst (v := 0) hx hb d_Item_endOf_0 (by decide) ?_
  refine lv_istore_n (lv' := [(2, .int 0), (0, .ref (ga g (22 + k0))), (1, .int a1)]) hx hb d_Item_endOf_1 rfl hl (by decide) rfl (fun ls hl => ?_)
  refine lv_iconst (v := 0) hx hb d_Item_endOf_2 (by decide) ?_
  refine lv_istore_n (lv' := [(3, .int 0), (2, .int 0), (0, .ref (ga g (22 + k0))), (1, .int a1)]) hx hb d_Item_endOf_3 rfl hl (by decide) rfl (fun ls hl => ?_)
  exact L4 _ _ _ _ _ hk0 _ _ _ h D (lv_sub hl [2, 3, 1, 0] rfl)
theorem d_Item_hasLone_0 : decode b_Item_hasLone 0 = .ok (.iconst 0, 1) := by decide +kernel
theorem d_Item_hasLone_1 : decode b_Item_hasLone 1 = .ok (.istore_n 1, 1) := by decide +kernel
theorem d_Item_hasLone_2 : decode b_Item_hasLone 2 = .ok (.iload_n 1, 1) := by decide +kernel
theorem d_Item_hasLone_3 : decode b_Item_hasLone 3 = .ok (.aload_n 0, 1) := by decide +kernel
theorem d_Item_hasLone_4 : decode b_Item_hasLone 4 = .ok (.getfield 13, 3) := by decide +kernel
theorem d_Item_hasLone_7 : decode b_Item_hasLone 7 = .ok (.if_icmp .ge 52, 3) := by decide +kernel
theorem d_Item_hasLone_10 : decode b_Item_hasLone 10 = .ok (.aload_n 0, 1) := by decide +kernel
theorem d_Item_hasLone_11 : decode b_Item_hasLone 11 = .ok (.iload_n 1, 1) := by decide +kernel
theorem d_Item_hasLone_12 : decode b_Item_hasLone 12 = .ok (.invokevirtual 20, 3) := by decide +kernel
theorem d_Item_hasLone_15 : decode b_Item_hasLone 15 = .ok (.ifCond .ne 25, 3) := by decide +kernel
theorem d_Item_hasLone_18 : decode b_Item_hasLone 18 = .ok (.aload_n 0, 1) := by decide +kernel
theorem d_Item_hasLone_19 : decode b_Item_hasLone 19 = .ok (.iload_n 1, 1) := by decide +kernel
theorem d_Item_hasLone_20 : decode b_Item_hasLone 20 = .ok (.invokevirtual 24, 3) := by decide +kernel
theorem d_Item_hasLone_23 : decode b_Item_hasLone 23 = .ok (.ldc 17, 2) := by decide +kernel
theorem d_Item_hasLone_25 : decode b_Item_hasLone 25 = .ok (.if_icmp .lt 15, 3) := by decide +kernel
theorem d_Item_hasLone_28 : decode b_Item_hasLone 28 = .ok (.aload_n 0, 1) := by decide +kernel
theorem d_Item_hasLone_29 : decode b_Item_hasLone 29 = .ok (.iload_n 1, 1) := by decide +kernel
theorem d_Item_hasLone_30 : decode b_Item_hasLone 30 = .ok (.invokevirtual 24, 3) := by decide +kernel
theorem d_Item_hasLone_33 : decode b_Item_hasLone 33 = .ok (.ldc 19, 2) := by decide +kernel
theorem d_Item_hasLone_35 : decode b_Item_hasLone 35 = .ok (.if_icmp .gt 5, 3) := by decide +kernel
theorem d_Item_hasLone_38 : decode b_Item_hasLone 38 = .ok (.iconst 1, 1) := by decide +kernel
theorem d_Item_hasLone_39 : decode b_Item_hasLone 39 = .ok (.ireturn, 1) := by decide +kernel
theorem d_Item_hasLone_40 : decode b_Item_hasLone 40 = .ok (.iload_n 1, 1) := by decide +kernel
theorem d_Item_hasLone_41 : decode b_Item_hasLone 41 = .ok (.aload_n 0, 1) := by decide +kernel
theorem d_Item_hasLone_42 : decode b_Item_hasLone 42 = .ok (.iload_n 1, 1) := by decide +kernel
theorem d_Item_hasLone_43 : decode b_Item_hasLone 43 = .ok (.invokevirtual 20, 3) := by decide +kernel
theorem d_Item_hasLone_46 : decode b_Item_hasLone 46 = .ok (.ifCond .eq 7, 3) := by decide +kernel
theorem d_Item_hasLone_49 : decode b_Item_hasLone 49 = .ok (.iconst 2, 1) := by decide +kernel
theorem d_Item_hasLone_50 : decode b_Item_hasLone 50 = .ok (.goto 4, 3) := by decide +kernel
theorem d_Item_hasLone_53 : decode b_Item_hasLone 53 = .ok (.iconst 1, 1) := by decide +kernel
theorem d_Item_hasLone_54 : decode b_Item_hasLone 54 = .ok (.iadd, 1) := by decide +kernel
theorem d_Item_hasLone_55 : decode b_Item_hasLone 55 = .ok (.istore_n 1, 1) := by decide +kernel
theorem d_Item_hasLone_56 : decode b_Item_hasLone 56 = .ok (.goto (-54), 3) := by decide +kernel
theorem d_Item_hasLone_59 : decode b_Item_hasLone 59 = .ok (.iconst 0, 1) := by decide +kernel
theorem d_Item_hasLone_60 : decode b_Item_hasLone 60 = .ok (.ireturn, 1) := by decide +kernel
def f_Item_hasLone_54 (K2 : Nat → Int32 → zSt → Option Int32) (k0 : Nat) (t0 : Int32) (t1 : Int32) (S : zSt) : Option Int32 := (K2 k0 (t1 + t0) S)
def f_Item_hasLone_40 (K2 : Nat → Int32 → zSt → Option Int32) (k0 : Nat) (a1 : Int32) (S : zSt) : Option Int32 := ((f_Item_isPair k0 a1 S).bind fun u2 => (if u2 = 0 then (f_Item_hasLone_54 K2 k0 1 a1 S) else (f_Item_hasLone_54 K2 k0 2 a1 S)))
def f_Item_hasLone_2 : Nat → Nat → Int32 → zSt → Option Int32
  | 0, _, _, _ => none
  | n + 1, k0, a1, S => (if (S (22 + k0) 1) ≤ a1 then (gdb 0 (some 0)) else ((f_Item_isPair k0 a1 S).bind fun u1 => (if u1 = 0 then ((f_Item_at k0 a1 S).bind fun u3 => (if u3 < 55296 then (f_Item_hasLone_40 (f_Item_hasLone_2 n) k0 a1 S) else ((f_Item_at k0 a1 S).bind fun u4 => (if 57343 < u4 then (f_Item_hasLone_40 (f_Item_hasLone_2 n) k0 a1 S) else (gdb 1 (some 1)))))) else (f_Item_hasLone_40 (f_Item_hasLone_2 n) k0 a1 S))))
def f_Item_hasLone (k0 : Nat) (S : zSt) : Option Int32 := (f_Item_hasLone_2 fu k0 0 S)
set_option maxHeartbeats 4000000 in
set_option maxRecDepth 100000 in
theorem c_Item_hasLone (l : Launch) (g : zG) (hD : GD g) (k0 : Nat) (hk0 : k0 < 18) (S : zSt) (u : Int32) (h : f_Item_hasLone k0 S = some u) : Met l y_Item_hasLone (mw y_Item_hasLone b_Item_hasLone 2 (some .boolean)) (rmD 1) (Pw g [.ref (ga g (22 + k0))] S) (Qip g S u) 0 0 (gA g) := by
  refine z_go (own := R_Item) (lv0 := [(0, .ref (ga g (22 + k0)))]) hD (by decide) rfl (Nat.le_of_ble_eq_true rfl) rfl ?_
  intro p e s m args below meth c C D ls hl
  have hx := C.1
  have hb := C.2.1
  have hown := C.2.2.2.1
  have hts := C.2.2.2.2.1
  have B54 : ∀ (K2 : Nat → Int32 → zSt → Option Int32) (hK2 : ∀ (H : Heap) (locs : List Loc) (ls : Array Slot) (k0 : Nat) (hk0 : k0 < 18) (a1 : Int32), K2 k0 a1 S = some u → Dy g s S H locs → lv_has ls 2 [(0, .ref (ga g (22 + k0))), (1, .int a1)] → W p l e (rmD 1) s m args below meth c H locs 0 0 (MQ below (Qip g S u) args s 0 0 (gA g)) (F0 m 2 ls [])) (H : Heap) (locs : List Loc) (ls : Array Slot) (k0 : Nat) (hk0 : k0 < 18) (t0 : Int32) (t1 : Int32), f_Item_hasLone_54 K2 k0 t0 t1 S = some u → Dy g s S H locs → lv_has ls 2 [(0, .ref (ga g (22 + k0)))] → W p l e (rmD 1) s m args below meth c H locs 0 0 (MQ below (Qip g S u) args s 0 0 (gA g)) (F0 m 54 ls [.int t0, .int t1]) := by
    intro K2 hK2 H locs ls k0 hk0 t0 t1 h D hl
    unfold f_Item_hasLone_54 at h
    refine lv_iadd hx hb d_Item_hasLone_54 ?_
    refine lv_istore_n (lv' := [(1, .int (t1 + t0)), (0, .ref (ga g (22 + k0)))]) hx hb d_Item_hasLone_55 rfl hl (by decide) rfl (fun ls hl => ?_)
    refine lv_goto hx hb d_Item_hasLone_56 rfl ?_
    exact hK2 _ _ _ _ hk0 _ h D (lv_sub hl [1, 0] rfl)
  have B40 : ∀ (K2 : Nat → Int32 → zSt → Option Int32) (hK2 : ∀ (H : Heap) (locs : List Loc) (ls : Array Slot) (k0 : Nat) (hk0 : k0 < 18) (a1 : Int32), K2 k0 a1 S = some u → Dy g s S H locs → lv_has ls 2 [(0, .ref (ga g (22 + k0))), (1, .int a1)] → W p l e (rmD 1) s m args below meth c H locs 0 0 (MQ below (Qip g S u) args s 0 0 (gA g)) (F0 m 2 ls [])) (H : Heap) (locs : List Loc) (ls : Array Slot) (k0 : Nat) (hk0 : k0 < 18) (a1 : Int32), f_Item_hasLone_40 K2 k0 a1 S = some u → Dy g s S H locs → lv_has ls 2 [(0, .ref (ga g (22 + k0))), (1, .int a1)] → W p l e (rmD 1) s m args below meth c H locs 0 0 (MQ below (Qip g S u) args s 0 0 (gA g)) (F0 m 40 ls []) := by
    intro K2 hK2 H locs ls k0 hk0 a1 h D hl
    unfold f_Item_hasLone_40 at h
    refine lv_iload_n hx hb d_Item_hasLone_40 rfl (lv_at hl 1 rfl) ?_
    refine lv_aload_n hx hb d_Item_hasLone_41 rfl (lv_at hl 0 rfl) ?_
    refine lv_iload_n hx hb d_Item_hasLone_42 rfl (lv_at hl 1 rfl) ?_
    obtain ⟨u2, hu2, h⟩ := bd_some h
    refine x_cip (rest := [.int a1]) (r_V C D (c_Item_isPair l g hD k0 hk0 a1 S u2 hu2) wc_Item_isPair wm_Item_20 wi_Item_isPair wd_Item_isPair (nI_ hk0) (sh_I hk0) kc_Item.1 rfl rfl hl (Nat.le_of_ble_eq_true rfl) (by decide) d_Item_hasLone_43) D (fun H locs D => ?_)
    refine lv_if_eq hx hb d_Item_hasLone_46 rfl (fun z => ?_) (fun z => ?_)
    · replace h := if_t z h
      refine lv_iconst (v := 1) hx hb d_Item_hasLone_53 (by decide) ?_
      exact B54 _ hK2 _ _ _ _ hk0 _ _ h D (lv_sub hl [0] rfl)
    · replace h := if_f z h
      refine lv_iconst (v := 2) hx hb d_Item_hasLone_49 (by decide) ?_
      refine lv_goto hx hb d_Item_hasLone_50 rfl ?_
      exact B54 _ hK2 _ _ _ _ hk0 _ _ h D (lv_sub hl [0] rfl)
  have L2 : ∀ (n : Nat) (H : Heap) (locs : List Loc) (ls : Array Slot) (k0 : Nat) (hk0 : k0 < 18) (a1 : Int32), f_Item_hasLone_2 n k0 a1 S = some u → Dy g s S H locs → lv_has ls 2 [(0, .ref (ga g (22 + k0))), (1, .int a1)] → W p l e (rmD 1) s m args below meth c H locs 0 0 (MQ below (Qip g S u) args s 0 0 (gA g)) (F0 m 2 ls []) := by
    intro n
    induction n with
    | zero => intro H locs ls k0 hk0 a1 h D hl; rw [f_Item_hasLone_2] at h; cases h
    | succ n hK2 =>
      intro H locs ls k0 hk0 a1 h D hl
      rw [f_Item_hasLone_2] at h
      refine lv_iload_n hx hb d_Item_hasLone_2 rfl (lv_at hl 1 rfl) ?_
      refine lv_aload_n hx hb d_Item_hasLone_3 rfl (lv_at hl 0 rfl) ?_
      refine x_get (v := .int (S (22 + k0) 1)) C D kc_Item (nI_ hk0) (sh_I hk0) 1 rfl (by decide) wf_Item_13 rfl rfl d_Item_hasLone_4 ?_
      refine lv_icmp_ge hx hb d_Item_hasLone_7 rfl (fun z => ?_) (fun z => ?_)
      · replace h := if_t z h
        refine lv_iconst (v := 0) hx hb d_Item_hasLone_59 (by decide) ?_
        exact x_zrp C D h d_Item_hasLone_60
      · replace h := if_f z h
        refine lv_aload_n hx hb d_Item_hasLone_10 rfl (lv_at hl 0 rfl) ?_
        refine lv_iload_n hx hb d_Item_hasLone_11 rfl (lv_at hl 1 rfl) ?_
        obtain ⟨u1, hu1, h⟩ := bd_some h
        refine x_cip (rest := []) (r_V C D (c_Item_isPair l g hD k0 hk0 a1 S u1 hu1) wc_Item_isPair wm_Item_20 wi_Item_isPair wd_Item_isPair (nI_ hk0) (sh_I hk0) kc_Item.1 rfl rfl hl (Nat.le_of_ble_eq_true rfl) (by decide) d_Item_hasLone_12) D (fun H locs D => ?_)
        refine lv_if_ne hx hb d_Item_hasLone_15 rfl (fun z => ?_) (fun z => ?_)
        · replace h := if_f z h
          exact B40 _ hK2 _ _ _ _ hk0 _ h D (lv_sub hl [0, 1] rfl)
        · replace h := if_t z h
          refine lv_aload_n hx hb d_Item_hasLone_18 rfl (lv_at hl 0 rfl) ?_
          refine lv_iload_n hx hb d_Item_hasLone_19 rfl (lv_at hl 1 rfl) ?_
          obtain ⟨u3, hu3, h⟩ := bd_some h
          refine x_cip (rest := []) (r_V C D (c_Item_at l g hD k0 hk0 a1 S u3 hu3) wc_Item_at wm_Item_24 wi_Item_at wd_Item_at (nI_ hk0) (sh_I hk0) kc_Item.1 rfl rfl hl (Nat.le_of_ble_eq_true rfl) (by decide) d_Item_hasLone_20) D (fun H locs D => ?_)
          refine lv_ldc (v := 55296) hx hb hown (hts _ wk_Item_17) d_Item_hasLone_23 ?_
          refine lv_icmp_lt hx hb d_Item_hasLone_25 rfl (fun z => ?_) (fun z => ?_)
          · replace h := if_t z h
            exact B40 _ hK2 _ _ _ _ hk0 _ h D (lv_sub hl [0, 1] rfl)
          · replace h := if_f z h
            refine lv_aload_n hx hb d_Item_hasLone_28 rfl (lv_at hl 0 rfl) ?_
            refine lv_iload_n hx hb d_Item_hasLone_29 rfl (lv_at hl 1 rfl) ?_
            obtain ⟨u4, hu4, h⟩ := bd_some h
            refine x_cip (rest := []) (r_V C D (c_Item_at l g hD k0 hk0 a1 S u4 hu4) wc_Item_at wm_Item_24 wi_Item_at wd_Item_at (nI_ hk0) (sh_I hk0) kc_Item.1 rfl rfl hl (Nat.le_of_ble_eq_true rfl) (by decide) d_Item_hasLone_30) D (fun H locs D => ?_)
            refine lv_ldc (v := 57343) hx hb hown (hts _ wk_Item_19) d_Item_hasLone_33 ?_
            refine lv_icmp_gt hx hb d_Item_hasLone_35 rfl (fun z => ?_) (fun z => ?_)
            · replace h := if_t z h
              exact B40 _ hK2 _ _ _ _ hk0 _ h D (lv_sub hl [0, 1] rfl)
            · replace h := if_f z h
              refine lv_iconst (v := 1) hx hb d_Item_hasLone_38 (by decide) ?_
              exact x_zrp C D h d_Item_hasLone_39
  unfold f_Item_hasLone at h
  refine lv_iconst (v := 0) hx hb d_Item_hasLone_0 (by decide) ?_
  refine lv_istore_n (lv' := [(1, .int 0), (0, .ref (ga g (22 + k0)))]) hx hb d_Item_hasLone_1 rfl hl (by decide) rfl (fun ls hl => ?_)
  exact L2 _ _ _ _ _ hk0 _ h D (lv_sub hl [1, 0] rfl)
theorem d_Item_fitsHeader_0 : decode b_Item_fitsHeader 0 = .ok (.iconst 0, 1) := by decide +kernel
theorem d_Item_fitsHeader_1 : decode b_Item_fitsHeader 1 = .ok (.istore_n 1, 1) := by decide +kernel
theorem d_Item_fitsHeader_2 : decode b_Item_fitsHeader 2 = .ok (.iload_n 1, 1) := by decide +kernel
theorem d_Item_fitsHeader_3 : decode b_Item_fitsHeader 3 = .ok (.aload_n 0, 1) := by decide +kernel
theorem d_Item_fitsHeader_4 : decode b_Item_fitsHeader 4 = .ok (.getfield 13, 3) := by decide +kernel
theorem d_Item_fitsHeader_7 : decode b_Item_fitsHeader 7 = .ok (.if_icmp .ge 33, 3) := by decide +kernel
theorem d_Item_fitsHeader_10 : decode b_Item_fitsHeader 10 = .ok (.aload_n 0, 1) := by decide +kernel
theorem d_Item_fitsHeader_11 : decode b_Item_fitsHeader 11 = .ok (.getfield 9, 3) := by decide +kernel
theorem d_Item_fitsHeader_14 : decode b_Item_fitsHeader 14 = .ok (.iload_n 1, 1) := by decide +kernel
theorem d_Item_fitsHeader_15 : decode b_Item_fitsHeader 15 = .ok (.caload, 1) := by decide +kernel
theorem d_Item_fitsHeader_16 : decode b_Item_fitsHeader 16 = .ok (.bipush 32, 2) := by decide +kernel
theorem d_Item_fitsHeader_18 : decode b_Item_fitsHeader 18 = .ok (.if_icmp .lt 14, 3) := by decide +kernel
theorem d_Item_fitsHeader_21 : decode b_Item_fitsHeader 21 = .ok (.aload_n 0, 1) := by decide +kernel
theorem d_Item_fitsHeader_22 : decode b_Item_fitsHeader 22 = .ok (.getfield 9, 3) := by decide +kernel
theorem d_Item_fitsHeader_25 : decode b_Item_fitsHeader 25 = .ok (.iload_n 1, 1) := by decide +kernel
theorem d_Item_fitsHeader_26 : decode b_Item_fitsHeader 26 = .ok (.caload, 1) := by decide +kernel
theorem d_Item_fitsHeader_27 : decode b_Item_fitsHeader 27 = .ok (.bipush 126, 2) := by decide +kernel
theorem d_Item_fitsHeader_29 : decode b_Item_fitsHeader 29 = .ok (.if_icmp .le 5, 3) := by decide +kernel
theorem d_Item_fitsHeader_32 : decode b_Item_fitsHeader 32 = .ok (.iconst 0, 1) := by decide +kernel
theorem d_Item_fitsHeader_33 : decode b_Item_fitsHeader 33 = .ok (.ireturn, 1) := by decide +kernel
theorem d_Item_fitsHeader_34 : decode b_Item_fitsHeader 34 = .ok (.iinc 1 1, 3) := by decide +kernel
theorem d_Item_fitsHeader_37 : decode b_Item_fitsHeader 37 = .ok (.goto (-35), 3) := by decide +kernel
theorem d_Item_fitsHeader_40 : decode b_Item_fitsHeader 40 = .ok (.aload_n 0, 1) := by decide +kernel
theorem d_Item_fitsHeader_41 : decode b_Item_fitsHeader 41 = .ok (.iconst 0, 1) := by decide +kernel
theorem d_Item_fitsHeader_42 : decode b_Item_fitsHeader 42 = .ok (.invokevirtual 24, 3) := by decide +kernel
theorem d_Item_fitsHeader_45 : decode b_Item_fitsHeader 45 = .ok (.bipush 32, 2) := by decide +kernel
theorem d_Item_fitsHeader_47 : decode b_Item_fitsHeader 47 = .ok (.if_icmp .eq 22, 3) := by decide +kernel
theorem d_Item_fitsHeader_50 : decode b_Item_fitsHeader 50 = .ok (.aload_n 0, 1) := by decide +kernel
theorem d_Item_fitsHeader_51 : decode b_Item_fitsHeader 51 = .ok (.aload_n 0, 1) := by decide +kernel
theorem d_Item_fitsHeader_52 : decode b_Item_fitsHeader 52 = .ok (.getfield 13, 3) := by decide +kernel
theorem d_Item_fitsHeader_55 : decode b_Item_fitsHeader 55 = .ok (.iconst 1, 1) := by decide +kernel
theorem d_Item_fitsHeader_56 : decode b_Item_fitsHeader 56 = .ok (.isub, 1) := by decide +kernel
theorem d_Item_fitsHeader_57 : decode b_Item_fitsHeader 57 = .ok (.invokevirtual 24, 3) := by decide +kernel
theorem d_Item_fitsHeader_60 : decode b_Item_fitsHeader 60 = .ok (.bipush 32, 2) := by decide +kernel
theorem d_Item_fitsHeader_62 : decode b_Item_fitsHeader 62 = .ok (.if_icmp .eq 7, 3) := by decide +kernel
theorem d_Item_fitsHeader_65 : decode b_Item_fitsHeader 65 = .ok (.iconst 1, 1) := by decide +kernel
theorem d_Item_fitsHeader_66 : decode b_Item_fitsHeader 66 = .ok (.goto 4, 3) := by decide +kernel
theorem d_Item_fitsHeader_69 : decode b_Item_fitsHeader 69 = .ok (.iconst 0, 1) := by decide +kernel
theorem d_Item_fitsHeader_70 : decode b_Item_fitsHeader 70 = .ok (.ireturn, 1) := by decide +kernel
def f_Item_fitsHeader_69 (S : zSt) : Option Int32 := (gdb 0 (some 0))
def f_Item_fitsHeader_2 : Nat → Nat → Int32 → zSt → Option Int32
  | 0, _, _, _ => none
  | n + 1, k0, a1, S => (if (S (22 + k0) 1) ≤ a1 then ((f_Item_at k0 0 S).bind fun u1 => (if u1 = 32 then (f_Item_fitsHeader_69 S) else ((f_Item_at k0 ((S (22 + k0) 1) - 1) S).bind fun u2 => (if u2 = 32 then (f_Item_fitsHeader_69 S) else (gdb 1 (some 1)))))) else gdi a1 8 ((if (S (40 + k0) a1.toNatClampNeg) < 32 then (gdb 0 (some 0)) else gdi a1 8 ((if (S (40 + k0) a1.toNatClampNeg) ≤ 126 then ((f_Item_fitsHeader_2 n) k0 (a1 + 1) S) else (gdb 0 (some 0)))))))
def f_Item_fitsHeader (k0 : Nat) (S : zSt) : Option Int32 := (f_Item_fitsHeader_2 fu k0 0 S)
set_option maxHeartbeats 4000000 in
set_option maxRecDepth 100000 in
theorem c_Item_fitsHeader (l : Launch) (g : zG) (hD : GD g) (k0 : Nat) (hk0 : k0 < 18) (S : zSt) (u : Int32) (h : f_Item_fitsHeader k0 S = some u) : Met l y_Item_fitsHeader (mw y_Item_fitsHeader b_Item_fitsHeader 2 (some .boolean)) (rmD 1) (Pw g [.ref (ga g (22 + k0))] S) (Qip g S u) 0 0 (gA g) := by
  refine z_go (own := R_Item) (lv0 := [(0, .ref (ga g (22 + k0)))]) hD (by decide) rfl (Nat.le_of_ble_eq_true rfl) rfl ?_
  intro p e s m args below meth c C D ls hl
  have hx := C.1
  have hb := C.2.1
  have hown := C.2.2.2.1
  have hts := C.2.2.2.2.1
  have B69 : ∀ (H : Heap) (locs : List Loc) (ls : Array Slot), f_Item_fitsHeader_69 S = some u → Dy g s S H locs → lv_has ls 2 [] → W p l e (rmD 1) s m args below meth c H locs 0 0 (MQ below (Qip g S u) args s 0 0 (gA g)) (F0 m 69 ls []) := by
    intro H locs ls h D hl
    unfold f_Item_fitsHeader_69 at h
    refine lv_iconst (v := 0) hx hb d_Item_fitsHeader_69 (by decide) ?_
    exact x_zrp C D h d_Item_fitsHeader_70
  have L2 : ∀ (n : Nat) (H : Heap) (locs : List Loc) (ls : Array Slot) (k0 : Nat) (hk0 : k0 < 18) (a1 : Int32), f_Item_fitsHeader_2 n k0 a1 S = some u → Dy g s S H locs → lv_has ls 2 [(0, .ref (ga g (22 + k0))), (1, .int a1)] → W p l e (rmD 1) s m args below meth c H locs 0 0 (MQ below (Qip g S u) args s 0 0 (gA g)) (F0 m 2 ls []) := by
    intro n
    induction n with
    | zero => intro H locs ls k0 hk0 a1 h D hl; rw [f_Item_fitsHeader_2] at h; cases h
    | succ n hK2 =>
      intro H locs ls k0 hk0 a1 h D hl
      rw [f_Item_fitsHeader_2] at h
      refine lv_iload_n hx hb d_Item_fitsHeader_2 rfl (lv_at hl 1 rfl) ?_
      refine lv_aload_n hx hb d_Item_fitsHeader_3 rfl (lv_at hl 0 rfl) ?_
      refine x_get (v := .int (S (22 + k0) 1)) C D kc_Item (nI_ hk0) (sh_I hk0) 1 rfl (by decide) wf_Item_13 rfl rfl d_Item_fitsHeader_4 ?_
      refine lv_icmp_ge hx hb d_Item_fitsHeader_7 rfl (fun z => ?_) (fun z => ?_)
      · replace h := if_t z h
        refine lv_aload_n hx hb d_Item_fitsHeader_40 rfl (lv_at hl 0 rfl) ?_
        refine lv_iconst (v := 0) hx hb d_Item_fitsHeader_41 (by decide) ?_
        obtain ⟨u1, hu1, h⟩ := bd_some h
        refine x_cip (rest := []) (r_V C D (c_Item_at l g hD k0 hk0 0 S u1 hu1) wc_Item_at wm_Item_24 wi_Item_at wd_Item_at (nI_ hk0) (sh_I hk0) kc_Item.1 rfl rfl hl (Nat.le_of_ble_eq_true rfl) (by decide) d_Item_fitsHeader_42) D (fun H locs D => ?_)
        refine lv_bipush (v := 32) hx hb d_Item_fitsHeader_45 (by decide) ?_
        refine lv_icmp_eq hx hb d_Item_fitsHeader_47 rfl (fun z => ?_) (fun z => ?_)
        · replace h := if_t z h
          exact B69 _ _ _ h D (lv_sub hl [] rfl)
        · replace h := if_f z h
          refine lv_aload_n hx hb d_Item_fitsHeader_50 rfl (lv_at hl 0 rfl) ?_
          refine lv_aload_n hx hb d_Item_fitsHeader_51 rfl (lv_at hl 0 rfl) ?_
          refine x_get (v := .int (S (22 + k0) 1)) C D kc_Item (nI_ hk0) (sh_I hk0) 1 rfl (by decide) wf_Item_13 rfl rfl d_Item_fitsHeader_52 ?_
          refine lv_iconst (v := 1) hx hb d_Item_fitsHeader_55 (by decide) ?_
          refine lv_isub hx hb d_Item_fitsHeader_56 ?_
          obtain ⟨u2, hu2, h⟩ := bd_some h
          refine x_cip (rest := []) (r_V C D (c_Item_at l g hD k0 hk0 ((S (22 + k0) 1) - 1) S u2 hu2) wc_Item_at wm_Item_24 wi_Item_at wd_Item_at (nI_ hk0) (sh_I hk0) kc_Item.1 rfl rfl hl (Nat.le_of_ble_eq_true rfl) (by decide) d_Item_fitsHeader_57) D (fun H locs D => ?_)
          refine lv_bipush (v := 32) hx hb d_Item_fitsHeader_60 (by decide) ?_
          refine lv_icmp_eq hx hb d_Item_fitsHeader_62 rfl (fun z => ?_) (fun z => ?_)
          · replace h := if_t z h
            exact B69 _ _ _ h D (lv_sub hl [] rfl)
          · replace h := if_f z h
            refine lv_iconst (v := 1) hx hb d_Item_fitsHeader_65 (by decide) ?_
            refine lv_goto hx hb d_Item_fitsHeader_66 rfl ?_
            exact x_zrp C D h d_Item_fitsHeader_70
      · replace h := if_f z h
        refine lv_aload_n hx hb d_Item_fitsHeader_10 rfl (lv_at hl 0 rfl) ?_
        refine x_get (v := .ref (ga g (40 + k0))) C D kc_Item (nI_ hk0) (sh_I hk0) 0 rfl (by decide) wf_Item_9 rfl (fvv_r _ _ (by have q_ : k0 < 18 := hk0; omega)) d_Item_fitsHeader_11 ?_
        refine lv_iload_n hx hb d_Item_fitsHeader_14 rfl (lv_at hl 1 rfl) ?_
        refine x_cald C D (nIC hk0) (sh_IC hk0) d_Item_fitsHeader_15 h (fun _ h => ?_)
        refine lv_bipush (v := 32) hx hb d_Item_fitsHeader_16 (by decide) ?_
        refine lv_icmp_lt hx hb d_Item_fitsHeader_18 rfl (fun z => ?_) (fun z => ?_)
        · replace h := if_t z h
          refine lv_iconst (v := 0) hx hb d_Item_fitsHeader_32 (by decide) ?_
          exact x_zrp C D h d_Item_fitsHeader_33
        · replace h := if_f z h
          refine lv_aload_n hx hb d_Item_fitsHeader_21 rfl (lv_at hl 0 rfl) ?_
          refine x_get (v := .ref (ga g (40 + k0))) C D kc_Item (nI_ hk0) (sh_I hk0) 0 rfl (by decide) wf_Item_9 rfl (fvv_r _ _ (by have q_ : k0 < 18 := hk0; omega)) d_Item_fitsHeader_22 ?_
          refine lv_iload_n hx hb d_Item_fitsHeader_25 rfl (lv_at hl 1 rfl) ?_
          refine x_cald C D (nIC hk0) (sh_IC hk0) d_Item_fitsHeader_26 h (fun _ h => ?_)
          refine lv_bipush (v := 126) hx hb d_Item_fitsHeader_27 (by decide) ?_
          refine lv_icmp_le hx hb d_Item_fitsHeader_29 rfl (fun z => ?_) (fun z => ?_)
          · replace h := if_t z h
            refine lv_iinc (k := 1) (lv' := [(1, .int (a1 + 1)), (0, .ref (ga g (22 + k0)))]) hx hb d_Item_fitsHeader_34 hl rfl (ii1 _) (by decide) rfl (fun ls hl => ?_)
            refine lv_goto hx hb d_Item_fitsHeader_37 rfl ?_
            exact hK2 _ _ _ _ hk0 _ h D (lv_sub hl [1, 0] rfl)
          · replace h := if_f z h
            refine lv_iconst (v := 0) hx hb d_Item_fitsHeader_32 (by decide) ?_
            exact x_zrp C D h d_Item_fitsHeader_33
  unfold f_Item_fitsHeader at h
  refine lv_iconst (v := 0) hx hb d_Item_fitsHeader_0 (by decide) ?_
  refine lv_istore_n (lv' := [(1, .int 0), (0, .ref (ga g (22 + k0)))]) hx hb d_Item_fitsHeader_1 rfl hl (by decide) rfl (fun ls hl => ?_)
  exact L2 _ _ _ _ _ hk0 _ h D (lv_sub hl [1, 0] rfl)
theorem d_Item_isEscape_0 : decode b_Item_isEscape 0 = .ok (.aload_n 0, 1) := by decide +kernel
theorem d_Item_isEscape_1 : decode b_Item_isEscape 1 = .ok (.iload_n 1, 1) := by decide +kernel
theorem d_Item_isEscape_2 : decode b_Item_isEscape 2 = .ok (.invokevirtual 24, 3) := by decide +kernel
theorem d_Item_isEscape_5 : decode b_Item_isEscape 5 = .ok (.bipush 37, 2) := by decide +kernel
theorem d_Item_isEscape_7 : decode b_Item_isEscape 7 = .ok (.if_icmp .ne 40, 3) := by decide +kernel
theorem d_Item_isEscape_10 : decode b_Item_isEscape 10 = .ok (.iload_n 1, 1) := by decide +kernel
theorem d_Item_isEscape_11 : decode b_Item_isEscape 11 = .ok (.iconst 2, 1) := by decide +kernel
theorem d_Item_isEscape_12 : decode b_Item_isEscape 12 = .ok (.iadd, 1) := by decide +kernel
theorem d_Item_isEscape_13 : decode b_Item_isEscape 13 = .ok (.iload_n 2, 1) := by decide +kernel
theorem d_Item_isEscape_14 : decode b_Item_isEscape 14 = .ok (.if_icmp .ge 33, 3) := by decide +kernel
theorem d_Item_isEscape_17 : decode b_Item_isEscape 17 = .ok (.aload_n 0, 1) := by decide +kernel
theorem d_Item_isEscape_18 : decode b_Item_isEscape 18 = .ok (.iload_n 1, 1) := by decide +kernel
theorem d_Item_isEscape_19 : decode b_Item_isEscape 19 = .ok (.iconst 1, 1) := by decide +kernel
theorem d_Item_isEscape_20 : decode b_Item_isEscape 20 = .ok (.iadd, 1) := by decide +kernel
theorem d_Item_isEscape_21 : decode b_Item_isEscape 21 = .ok (.invokevirtual 24, 3) := by decide +kernel
theorem d_Item_isEscape_24 : decode b_Item_isEscape 24 = .ok (.invokestatic 29, 3) := by decide +kernel
theorem d_Item_isEscape_27 : decode b_Item_isEscape 27 = .ok (.ifCond .lt 20, 3) := by decide +kernel
theorem d_Item_isEscape_30 : decode b_Item_isEscape 30 = .ok (.aload_n 0, 1) := by decide +kernel
theorem d_Item_isEscape_31 : decode b_Item_isEscape 31 = .ok (.iload_n 1, 1) := by decide +kernel
theorem d_Item_isEscape_32 : decode b_Item_isEscape 32 = .ok (.iconst 2, 1) := by decide +kernel
theorem d_Item_isEscape_33 : decode b_Item_isEscape 33 = .ok (.iadd, 1) := by decide +kernel
theorem d_Item_isEscape_34 : decode b_Item_isEscape 34 = .ok (.invokevirtual 24, 3) := by decide +kernel
theorem d_Item_isEscape_37 : decode b_Item_isEscape 37 = .ok (.invokestatic 29, 3) := by decide +kernel
theorem d_Item_isEscape_40 : decode b_Item_isEscape 40 = .ok (.ifCond .lt 7, 3) := by decide +kernel
theorem d_Item_isEscape_43 : decode b_Item_isEscape 43 = .ok (.iconst 1, 1) := by decide +kernel
theorem d_Item_isEscape_44 : decode b_Item_isEscape 44 = .ok (.goto 4, 3) := by decide +kernel
theorem d_Item_isEscape_47 : decode b_Item_isEscape 47 = .ok (.iconst 0, 1) := by decide +kernel
theorem d_Item_isEscape_48 : decode b_Item_isEscape 48 = .ok (.ireturn, 1) := by decide +kernel
def f_Item_isEscape_47 (S : zSt) : Option Int32 := (gdb 0 (some 0))
def f_Item_isEscape (k0 : Nat) (a1 : Int32) (a2 : Int32) (S : zSt) : Option Int32 := ((f_Item_at k0 a1 S).bind fun u1 => (if u1 = 37 then (if a2 ≤ (a1 + 2) then (f_Item_isEscape_47 S) else ((f_Item_at k0 (a1 + 1) S).bind fun u2 => ((f_Chars_hexValue u2 S).bind fun u3 => (if u3 < 0 then (f_Item_isEscape_47 S) else ((f_Item_at k0 (a1 + 2) S).bind fun u4 => ((f_Chars_hexValue u4 S).bind fun u5 => (if u5 < 0 then (f_Item_isEscape_47 S) else (gdb 1 (some 1))))))))) else (f_Item_isEscape_47 S)))
set_option maxHeartbeats 4000000 in
set_option maxRecDepth 100000 in
theorem c_Item_isEscape (l : Launch) (g : zG) (hD : GD g) (k0 : Nat) (hk0 : k0 < 18) (a1 : Int32) (a2 : Int32) (S : zSt) (u : Int32) (h : f_Item_isEscape k0 a1 a2 S = some u) : Met l y_Item_isEscape (mw y_Item_isEscape b_Item_isEscape 3 (some .boolean)) (rmD 1) (Pw g [.ref (ga g (22 + k0)), .int a1, .int a2] S) (Qip g S u) 0 0 (gA g) := by
  refine z_go (own := R_Item) (lv0 := [(0, .ref (ga g (22 + k0))), (1, .int a1), (2, .int a2)]) hD (by decide) rfl (Nat.le_of_ble_eq_true rfl) rfl ?_
  intro p e s m args below meth c C D ls hl
  have hx := C.1
  have hb := C.2.1
  have hown := C.2.2.2.1
  have hts := C.2.2.2.2.1
  have B47 : ∀ (H : Heap) (locs : List Loc) (ls : Array Slot), f_Item_isEscape_47 S = some u → Dy g s S H locs → lv_has ls 3 [] → W p l e (rmD 1) s m args below meth c H locs 0 0 (MQ below (Qip g S u) args s 0 0 (gA g)) (F0 m 47 ls []) := by
    intro H locs ls h D hl
    unfold f_Item_isEscape_47 at h
    refine lv_iconst (v := 0) hx hb d_Item_isEscape_47 (by decide) ?_
    exact x_zrp C D h d_Item_isEscape_48
  unfold f_Item_isEscape at h
  refine lv_aload_n hx hb d_Item_isEscape_0 rfl (lv_at hl 0 rfl) ?_
  refine lv_iload_n hx hb d_Item_isEscape_1 rfl (lv_at hl 1 rfl) ?_
  obtain ⟨u1, hu1, h⟩ := bd_some h
  refine x_cip (rest := []) (r_V C D (c_Item_at l g hD k0 hk0 a1 S u1 hu1) wc_Item_at wm_Item_24 wi_Item_at wd_Item_at (nI_ hk0) (sh_I hk0) kc_Item.1 rfl rfl hl (Nat.le_of_ble_eq_true rfl) (by decide) d_Item_isEscape_2) D (fun H locs D => ?_)
  refine lv_bipush (v := 37) hx hb d_Item_isEscape_5 (by decide) ?_
  refine lv_icmp_ne hx hb d_Item_isEscape_7 rfl (fun z => ?_) (fun z => ?_)
  · replace h := if_f z h
    exact B47 _ _ _ h D (lv_sub hl [] rfl)
  · replace h := if_t z h
    refine lv_iload_n hx hb d_Item_isEscape_10 rfl (lv_at hl 1 rfl) ?_
    refine lv_iconst (v := 2) hx hb d_Item_isEscape_11 (by decide) ?_
    refine lv_iadd hx hb d_Item_isEscape_12 ?_
    refine lv_iload_n hx hb d_Item_isEscape_13 rfl (lv_at hl 2 rfl) ?_
    refine lv_icmp_ge hx hb d_Item_isEscape_14 rfl (fun z => ?_) (fun z => ?_)
    · replace h := if_t z h
      exact B47 _ _ _ h D (lv_sub hl [] rfl)
    · replace h := if_f z h
      refine lv_aload_n hx hb d_Item_isEscape_17 rfl (lv_at hl 0 rfl) ?_
      refine lv_iload_n hx hb d_Item_isEscape_18 rfl (lv_at hl 1 rfl) ?_
      refine lv_iconst (v := 1) hx hb d_Item_isEscape_19 (by decide) ?_
      refine lv_iadd hx hb d_Item_isEscape_20 ?_
      obtain ⟨u2, hu2, h⟩ := bd_some h
      refine x_cip (rest := []) (r_V C D (c_Item_at l g hD k0 hk0 (a1 + 1) S u2 hu2) wc_Item_at wm_Item_24 wi_Item_at wd_Item_at (nI_ hk0) (sh_I hk0) kc_Item.1 rfl rfl hl (Nat.le_of_ble_eq_true rfl) (by decide) d_Item_isEscape_21) D (fun H locs D => ?_)
      obtain ⟨u3, hu3, h⟩ := bd_some h
      refine x_cip (rest := []) (r_S C D (c_Chars_hexValue l g hD u2 S u3 hu3) wc_Chars_hexValue wm_Item_29 wt_Chars_hexValue wd_Chars_hexValue rfl rfl hl (Nat.le_of_ble_eq_true rfl) (by decide) d_Item_isEscape_24) D (fun H locs D => ?_)
      refine lv_if_lt hx hb d_Item_isEscape_27 rfl (fun z => ?_) (fun z => ?_)
      · replace h := if_t z h
        exact B47 _ _ _ h D (lv_sub hl [] rfl)
      · replace h := if_f z h
        refine lv_aload_n hx hb d_Item_isEscape_30 rfl (lv_at hl 0 rfl) ?_
        refine lv_iload_n hx hb d_Item_isEscape_31 rfl (lv_at hl 1 rfl) ?_
        refine lv_iconst (v := 2) hx hb d_Item_isEscape_32 (by decide) ?_
        refine lv_iadd hx hb d_Item_isEscape_33 ?_
        obtain ⟨u4, hu4, h⟩ := bd_some h
        refine x_cip (rest := []) (r_V C D (c_Item_at l g hD k0 hk0 (a1 + 2) S u4 hu4) wc_Item_at wm_Item_24 wi_Item_at wd_Item_at (nI_ hk0) (sh_I hk0) kc_Item.1 rfl rfl hl (Nat.le_of_ble_eq_true rfl) (by decide) d_Item_isEscape_34) D (fun H locs D => ?_)
        obtain ⟨u5, hu5, h⟩ := bd_some h
        refine x_cip (rest := []) (r_S C D (c_Chars_hexValue l g hD u4 S u5 hu5) wc_Chars_hexValue wm_Item_29 wt_Chars_hexValue wd_Chars_hexValue rfl rfl hl (Nat.le_of_ble_eq_true rfl) (by decide) d_Item_isEscape_37) D (fun H locs D => ?_)
        refine lv_if_lt hx hb d_Item_isEscape_40 rfl (fun z => ?_) (fun z => ?_)
        · replace h := if_t z h
          exact B47 _ _ _ h D (lv_sub hl [] rfl)
        · replace h := if_f z h
          refine lv_iconst (v := 1) hx hb d_Item_isEscape_43 (by decide) ?_
          refine lv_goto hx hb d_Item_isEscape_44 rfl ?_
          exact x_zrp C D h d_Item_isEscape_48
