theorem d_PathTemplate_add_0 : decode b_PathTemplate_add 0 = .ok (.iload_n 1, 1) := by decide +kernel
theorem d_PathTemplate_add_1 : decode b_PathTemplate_add 1 = .ok (.bipush 33, 2) := by decide +kernel
theorem d_PathTemplate_add_3 : decode b_PathTemplate_add 3 = .ok (.if_icmp .lt 18, 3) := by decide +kernel
theorem d_PathTemplate_add_6 : decode b_PathTemplate_add 6 = .ok (.iload_n 1, 1) := by decide +kernel
theorem d_PathTemplate_add_7 : decode b_PathTemplate_add 7 = .ok (.bipush 126, 2) := by decide +kernel
theorem d_PathTemplate_add_9 : decode b_PathTemplate_add 9 = .ok (.if_icmp .gt 12, 3) := by decide +kernel
theorem d_PathTemplate_add_12 : decode b_PathTemplate_add 12 = .ok (.aload_n 0, 1) := by decide +kernel
theorem d_PathTemplate_add_13 : decode b_PathTemplate_add 13 = .ok (.getfield 13, 3) := by decide +kernel
theorem d_PathTemplate_add_16 : decode b_PathTemplate_add 16 = .ok (.bipush 40, 2) := by decide +kernel
theorem d_PathTemplate_add_18 : decode b_PathTemplate_add 18 = .ok (.if_icmp .lt 5, 3) := by decide +kernel
theorem d_PathTemplate_add_21 : decode b_PathTemplate_add 21 = .ok (.iconst 0, 1) := by decide +kernel
theorem d_PathTemplate_add_22 : decode b_PathTemplate_add 22 = .ok (.ireturn, 1) := by decide +kernel
theorem d_PathTemplate_add_23 : decode b_PathTemplate_add 23 = .ok (.aload_n 0, 1) := by decide +kernel
theorem d_PathTemplate_add_24 : decode b_PathTemplate_add 24 = .ok (.getfield 9, 3) := by decide +kernel
theorem d_PathTemplate_add_27 : decode b_PathTemplate_add 27 = .ok (.aload_n 0, 1) := by decide +kernel
theorem d_PathTemplate_add_28 : decode b_PathTemplate_add 28 = .ok (.getfield 13, 3) := by decide +kernel
theorem d_PathTemplate_add_31 : decode b_PathTemplate_add 31 = .ok (.iload_n 1, 1) := by decide +kernel
theorem d_PathTemplate_add_32 : decode b_PathTemplate_add 32 = .ok (.castore, 1) := by decide +kernel
theorem d_PathTemplate_add_33 : decode b_PathTemplate_add 33 = .ok (.aload_n 0, 1) := by decide +kernel
theorem d_PathTemplate_add_34 : decode b_PathTemplate_add 34 = .ok (.dup, 1) := by decide +kernel
theorem d_PathTemplate_add_35 : decode b_PathTemplate_add 35 = .ok (.getfield 13, 3) := by decide +kernel
theorem d_PathTemplate_add_38 : decode b_PathTemplate_add 38 = .ok (.iconst 1, 1) := by decide +kernel
theorem d_PathTemplate_add_39 : decode b_PathTemplate_add 39 = .ok (.iadd, 1) := by decide +kernel
theorem d_PathTemplate_add_40 : decode b_PathTemplate_add 40 = .ok (.putfield 13, 3) := by decide +kernel
theorem d_PathTemplate_add_43 : decode b_PathTemplate_add 43 = .ok (.iconst 1, 1) := by decide +kernel
theorem d_PathTemplate_add_44 : decode b_PathTemplate_add 44 = .ok (.ireturn, 1) := by decide +kernel
def f_PathTemplate_add (a1 : Int32) (S : zSt) : Option (Int32 × zSt) := (if a1 < 33 then (gdb 0 (some (0, S))) else (if 126 < a1 then (gdb 0 (some (0, S))) else (if (S 2 1) < 40 then gdi (S 2 1) 40 (sq (su S 3 (S 2 1).toNatClampNeg (vp_nar .char a1)) fun S1 => sq (su S1 2 1 ((S1 2 1) + 1)) fun S2 => (gdb 1 (some (1, S2)))) else (gdb 0 (some (0, S))))))
set_option maxHeartbeats 4000000 in
set_option maxRecDepth 100000 in
theorem c_PathTemplate_add (l : Launch) (g : zG) (hD : GD g) (a1 : Int32) (S : zSt) (u : (Int32 × zSt)) (h : f_PathTemplate_add a1 S = some u) : Met l y_PathTemplate_add (mw y_PathTemplate_add b_PathTemplate_add 2 (some .boolean)) (rmD 0) (Pw g [.ref (ga g 2), .int a1] S) (Qis g u) 0 0 (gA g) := by
  refine z_go (own := R_PathTemplate) (lv0 := [(0, .ref (ga g 2)), (1, .int a1)]) hD (by decide) rfl (Nat.le_of_ble_eq_true rfl) rfl ?_
  intro p e s m args below meth c C D ls hl
  have hx := C.1
  have hb := C.2.1
  have hown := C.2.2.2.1
  have hts := C.2.2.2.2.1
  unfold f_PathTemplate_add at h
  refine lv_iload_n hx hb d_PathTemplate_add_0 rfl (lv_at hl 1 rfl) ?_
  refine lv_bipush (v := 33) hx hb d_PathTemplate_add_1 (by decide) ?_
  refine lv_icmp_lt hx hb d_PathTemplate_add_3 rfl (fun z => ?_) (fun z => ?_)
  · replace h := if_t z h
    refine lv_iconst (v := 0) hx hb d_PathTemplate_add_21 (by decide) ?_
    exact x_zrs C D h d_PathTemplate_add_22
  · replace h := if_f z h
    refine lv_iload_n hx hb d_PathTemplate_add_6 rfl (lv_at hl 1 rfl) ?_
    refine lv_bipush (v := 126) hx hb d_PathTemplate_add_7 (by decide) ?_
    refine lv_icmp_gt hx hb d_PathTemplate_add_9 rfl (fun z => ?_) (fun z => ?_)
    · replace h := if_t z h
      refine lv_iconst (v := 0) hx hb d_PathTemplate_add_21 (by decide) ?_
      exact x_zrs C D h d_PathTemplate_add_22
    · replace h := if_f z h
      refine lv_aload_n hx hb d_PathTemplate_add_12 rfl (lv_at hl 0 rfl) ?_
      refine x_get (v := .int (S 2 1)) C D kc_PathTemplate (by decide) sh_2 1 rfl (by decide) wf_PathTemplate_13 rfl rfl d_PathTemplate_add_13 ?_
      refine lv_bipush (v := 40) hx hb d_PathTemplate_add_16 (by decide) ?_
      refine lv_icmp_lt hx hb d_PathTemplate_add_18 rfl (fun z => ?_) (fun z => ?_)
      · replace h := if_t z h
        refine lv_aload_n hx hb d_PathTemplate_add_23 rfl (lv_at hl 0 rfl) ?_
        refine x_get (v := .ref (ga g 3)) C D kc_PathTemplate (by decide) sh_2 0 rfl (by decide) wf_PathTemplate_9 rfl rfl d_PathTemplate_add_24 ?_
        refine lv_aload_n hx hb d_PathTemplate_add_27 rfl (lv_at hl 0 rfl) ?_
        refine x_get (v := .int (S 2 1)) C D kc_PathTemplate (by decide) sh_2 1 rfl (by decide) wf_PathTemplate_13 rfl rfl d_PathTemplate_add_28 ?_
        refine lv_iload_n hx hb d_PathTemplate_add_31 rfl (lv_at hl 1 rfl) ?_
        refine x_cast C D (by decide) sh_3 d_PathTemplate_add_32 h (fun S1 H locs h D => ?_)
        refine lv_aload_n hx hb d_PathTemplate_add_33 rfl (lv_at hl 0 rfl) ?_
        refine lv_dup hx hb d_PathTemplate_add_34 rfl ?_
        refine x_get (v := .int (S1 2 1)) C D kc_PathTemplate (by decide) sh_2 1 rfl (by decide) wf_PathTemplate_13 rfl rfl d_PathTemplate_add_35 ?_
        refine lv_iconst (v := 1) hx hb d_PathTemplate_add_38 (by decide) ?_
        refine lv_iadd hx hb d_PathTemplate_add_39 ?_
        refine x_put C D kc_PathTemplate (by decide) sh_2 1 rfl (by decide) wf_PathTemplate_13 rfl rfl ((S1 2 1) + 1) rfl ⟨rfl, rfl⟩ d_PathTemplate_add_40 h (fun S2 H locs h D => ?_)
        refine lv_iconst (v := 1) hx hb d_PathTemplate_add_43 (by decide) ?_
        exact x_zrs C D h d_PathTemplate_add_44
      · replace h := if_f z h
        refine lv_iconst (v := 0) hx hb d_PathTemplate_add_21 (by decide) ?_
        exact x_zrs C D h d_PathTemplate_add_22
theorem d_PathTemplate_at_0 : decode b_PathTemplate_at 0 = .ok (.iload_n 1, 1) := by decide +kernel
theorem d_PathTemplate_at_1 : decode b_PathTemplate_at 1 = .ok (.ifCond .lt 20, 3) := by decide +kernel
theorem d_PathTemplate_at_4 : decode b_PathTemplate_at 4 = .ok (.iload_n 1, 1) := by decide +kernel
theorem d_PathTemplate_at_5 : decode b_PathTemplate_at 5 = .ok (.aload_n 0, 1) := by decide +kernel
theorem d_PathTemplate_at_6 : decode b_PathTemplate_at 6 = .ok (.getfield 13, 3) := by decide +kernel
theorem d_PathTemplate_at_9 : decode b_PathTemplate_at 9 = .ok (.if_icmp .ge 12, 3) := by decide +kernel
theorem d_PathTemplate_at_12 : decode b_PathTemplate_at 12 = .ok (.aload_n 0, 1) := by decide +kernel
theorem d_PathTemplate_at_13 : decode b_PathTemplate_at 13 = .ok (.getfield 9, 3) := by decide +kernel
theorem d_PathTemplate_at_16 : decode b_PathTemplate_at 16 = .ok (.iload_n 1, 1) := by decide +kernel
theorem d_PathTemplate_at_17 : decode b_PathTemplate_at 17 = .ok (.caload, 1) := by decide +kernel
theorem d_PathTemplate_at_18 : decode b_PathTemplate_at 18 = .ok (.goto 4, 3) := by decide +kernel
theorem d_PathTemplate_at_21 : decode b_PathTemplate_at 21 = .ok (.iconst 0, 1) := by decide +kernel
theorem d_PathTemplate_at_22 : decode b_PathTemplate_at 22 = .ok (.ireturn, 1) := by decide +kernel
def f_PathTemplate_at_21 (S : zSt) : Option Int32 := (gdc 0 (some 0))
def f_PathTemplate_at (a1 : Int32) (S : zSt) : Option Int32 := (if a1 < 0 then (f_PathTemplate_at_21 S) else (if (S 2 1) ≤ a1 then (f_PathTemplate_at_21 S) else gdi a1 40 ((gdc (S 3 a1.toNatClampNeg) (some (S 3 a1.toNatClampNeg))))))
set_option maxHeartbeats 4000000 in
set_option maxRecDepth 100000 in
theorem c_PathTemplate_at (l : Launch) (g : zG) (hD : GD g) (a1 : Int32) (S : zSt) (u : Int32) (h : f_PathTemplate_at a1 S = some u) : Met l y_PathTemplate_at (mw y_PathTemplate_at b_PathTemplate_at 2 (some .char)) (rmD 0) (Pw g [.ref (ga g 2), .int a1] S) (Qip g S u) 0 0 (gA g) := by
  refine z_go (own := R_PathTemplate) (lv0 := [(0, .ref (ga g 2)), (1, .int a1)]) hD (by decide) rfl (Nat.le_of_ble_eq_true rfl) rfl ?_
  intro p e s m args below meth c C D ls hl
  have hx := C.1
  have hb := C.2.1
  have hown := C.2.2.2.1
  have hts := C.2.2.2.2.1
  have B21 : ∀ (H : Heap) (locs : List Loc) (ls : Array Slot), f_PathTemplate_at_21 S = some u → Dy g s S H locs → lv_has ls 2 [] → W p l e (rmD 0) s m args below meth c H locs 0 0 (MQ below (Qip g S u) args s 0 0 (gA g)) (F0 m 21 ls []) := by
    intro H locs ls h D hl
    unfold f_PathTemplate_at_21 at h
    refine lv_iconst (v := 0) hx hb d_PathTemplate_at_21 (by decide) ?_
    exact x_crp C D h d_PathTemplate_at_22
  unfold f_PathTemplate_at at h
  refine lv_iload_n hx hb d_PathTemplate_at_0 rfl (lv_at hl 1 rfl) ?_
  refine lv_if_lt hx hb d_PathTemplate_at_1 rfl (fun z => ?_) (fun z => ?_)
  · replace h := if_t z h
    exact B21 _ _ _ h D (lv_sub hl [] rfl)
  · replace h := if_f z h
    refine lv_iload_n hx hb d_PathTemplate_at_4 rfl (lv_at hl 1 rfl) ?_
    refine lv_aload_n hx hb d_PathTemplate_at_5 rfl (lv_at hl 0 rfl) ?_
    refine x_get (v := .int (S 2 1)) C D kc_PathTemplate (by decide) sh_2 1 rfl (by decide) wf_PathTemplate_13 rfl rfl d_PathTemplate_at_6 ?_
    refine lv_icmp_ge hx hb d_PathTemplate_at_9 rfl (fun z => ?_) (fun z => ?_)
    · replace h := if_t z h
      exact B21 _ _ _ h D (lv_sub hl [] rfl)
    · replace h := if_f z h
      refine lv_aload_n hx hb d_PathTemplate_at_12 rfl (lv_at hl 0 rfl) ?_
      refine x_get (v := .ref (ga g 3)) C D kc_PathTemplate (by decide) sh_2 0 rfl (by decide) wf_PathTemplate_9 rfl rfl d_PathTemplate_at_13 ?_
      refine lv_iload_n hx hb d_PathTemplate_at_16 rfl (lv_at hl 1 rfl) ?_
      refine x_cald C D (by decide) sh_3 d_PathTemplate_at_17 h (fun _ h => ?_)
      refine lv_goto hx hb d_PathTemplate_at_18 rfl ?_
      exact x_crp C D h d_PathTemplate_at_22
theorem d_PathTemplate_placeBehindVariable_0 : decode b_PathTemplate_placeBehindVariable 0 = .ok (.iload_n 0, 1) := by decide +kernel
theorem d_PathTemplate_placeBehindVariable_1 : decode b_PathTemplate_placeBehindVariable 1 = .ok (.bipush 44, 2) := by decide +kernel
theorem d_PathTemplate_placeBehindVariable_3 : decode b_PathTemplate_placeBehindVariable 3 = .ok (.if_icmp .ne 7, 3) := by decide +kernel
theorem d_PathTemplate_placeBehindVariable_6 : decode b_PathTemplate_placeBehindVariable 6 = .ok (.iconst 2, 1) := by decide +kernel
theorem d_PathTemplate_placeBehindVariable_7 : decode b_PathTemplate_placeBehindVariable 7 = .ok (.goto 15, 3) := by decide +kernel
theorem d_PathTemplate_placeBehindVariable_10 : decode b_PathTemplate_placeBehindVariable 10 = .ok (.iload_n 0, 1) := by decide +kernel
theorem d_PathTemplate_placeBehindVariable_11 : decode b_PathTemplate_placeBehindVariable 11 = .ok (.bipush 125, 2) := by decide +kernel
theorem d_PathTemplate_placeBehindVariable_13 : decode b_PathTemplate_placeBehindVariable 13 = .ok (.if_icmp .ne 7, 3) := by decide +kernel
theorem d_PathTemplate_placeBehindVariable_16 : decode b_PathTemplate_placeBehindVariable 16 = .ok (.iconst 0, 1) := by decide +kernel
theorem d_PathTemplate_placeBehindVariable_17 : decode b_PathTemplate_placeBehindVariable 17 = .ok (.goto 5, 3) := by decide +kernel
theorem d_PathTemplate_placeBehindVariable_20 : decode b_PathTemplate_placeBehindVariable 20 = .ok (.bipush 6, 2) := by decide +kernel
theorem d_PathTemplate_placeBehindVariable_22 : decode b_PathTemplate_placeBehindVariable 22 = .ok (.ireturn, 1) := by decide +kernel
def f_PathTemplate_placeBehindVariable (a0 : Int32) (S : zSt) : Option Int32 := (if a0 = 44 then (some 2) else (if a0 = 125 then (some 0) else (some 6)))
set_option maxHeartbeats 4000000 in
set_option maxRecDepth 100000 in
theorem c_PathTemplate_placeBehindVariable (l : Launch) (g : zG) (hD : GD g) (a0 : Int32) (S : zSt) (u : Int32) (h : f_PathTemplate_placeBehindVariable a0 S = some u) : Met l y_PathTemplate_placeBehindVariable (mw y_PathTemplate_placeBehindVariable b_PathTemplate_placeBehindVariable 1 (some .int)) (rmD 0) (Pw g [.int a0] S) (Qip g S u) 0 0 (gA g) := by
  refine z_go (own := R_PathTemplate) (lv0 := [(0, .int a0)]) hD (by decide) rfl (Nat.le_of_ble_eq_true rfl) rfl ?_
  intro p e s m args below meth c C D ls hl
  have hx := C.1
  have hb := C.2.1
  have hown := C.2.2.2.1
  have hts := C.2.2.2.2.1
  unfold f_PathTemplate_placeBehindVariable at h
  refine lv_iload_n hx hb d_PathTemplate_placeBehindVariable_0 rfl (lv_at hl 0 rfl) ?_
  refine lv_bipush (v := 44) hx hb d_PathTemplate_placeBehindVariable_1 (by decide) ?_
  refine lv_icmp_ne hx hb d_PathTemplate_placeBehindVariable_3 rfl (fun z => ?_) (fun z => ?_)
  · replace h := if_f z h
    refine lv_iload_n hx hb d_PathTemplate_placeBehindVariable_10 rfl (lv_at hl 0 rfl) ?_
    refine lv_bipush (v := 125) hx hb d_PathTemplate_placeBehindVariable_11 (by decide) ?_
    refine lv_icmp_ne hx hb d_PathTemplate_placeBehindVariable_13 rfl (fun z => ?_) (fun z => ?_)
    · replace h := if_f z h
      refine lv_bipush (v := 6) hx hb d_PathTemplate_placeBehindVariable_20 (by decide) ?_
      exact x_irp C D h d_PathTemplate_placeBehindVariable_22
    · replace h := if_t z h
      refine lv_iconst (v := 0) hx hb d_PathTemplate_placeBehindVariable_16 (by decide) ?_
      refine lv_goto hx hb d_PathTemplate_placeBehindVariable_17 rfl ?_
      exact x_irp C D h d_PathTemplate_placeBehindVariable_22
  · replace h := if_t z h
    refine lv_iconst (v := 2) hx hb d_PathTemplate_placeBehindVariable_6 (by decide) ?_
    refine lv_goto hx hb d_PathTemplate_placeBehindVariable_7 rfl ?_
    exact x_irp C D h d_PathTemplate_placeBehindVariable_22
theorem d_PathTemplate_isVariable_0 : decode b_PathTemplate_isVariable 0 = .ok (.aload_n 0, 1) := by decide +kernel
theorem d_PathTemplate_isVariable_1 : decode b_PathTemplate_isVariable 1 = .ok (.iload_n 1, 1) := by decide +kernel
theorem d_PathTemplate_isVariable_2 : decode b_PathTemplate_isVariable 2 = .ok (.invokevirtual 17, 3) := by decide +kernel
theorem d_PathTemplate_isVariable_5 : decode b_PathTemplate_isVariable 5 = .ok (.invokestatic 34, 3) := by decide +kernel
theorem d_PathTemplate_isVariable_8 : decode b_PathTemplate_isVariable 8 = .ok (.ifCond .ne 5, 3) := by decide +kernel
theorem d_PathTemplate_isVariable_11 : decode b_PathTemplate_isVariable 11 = .ok (.iconst 0, 1) := by decide +kernel
theorem d_PathTemplate_isVariable_12 : decode b_PathTemplate_isVariable 12 = .ok (.ireturn, 1) := by decide +kernel
theorem d_PathTemplate_isVariable_13 : decode b_PathTemplate_isVariable 13 = .ok (.iload_n 1, 1) := by decide +kernel
theorem d_PathTemplate_isVariable_14 : decode b_PathTemplate_isVariable 14 = .ok (.iconst 1, 1) := by decide +kernel
theorem d_PathTemplate_isVariable_15 : decode b_PathTemplate_isVariable 15 = .ok (.isub, 1) := by decide +kernel
theorem d_PathTemplate_isVariable_16 : decode b_PathTemplate_isVariable 16 = .ok (.istore_n 2, 1) := by decide +kernel
theorem d_PathTemplate_isVariable_17 : decode b_PathTemplate_isVariable 17 = .ok (.iload_n 2, 1) := by decide +kernel
theorem d_PathTemplate_isVariable_18 : decode b_PathTemplate_isVariable 18 = .ok (.ifCond .lt 48, 3) := by decide +kernel
theorem d_PathTemplate_isVariable_21 : decode b_PathTemplate_isVariable 21 = .ok (.aload_n 0, 1) := by decide +kernel
theorem d_PathTemplate_isVariable_22 : decode b_PathTemplate_isVariable 22 = .ok (.getfield 9, 3) := by decide +kernel
theorem d_PathTemplate_isVariable_25 : decode b_PathTemplate_isVariable 25 = .ok (.iload_n 2, 1) := by decide +kernel
theorem d_PathTemplate_isVariable_26 : decode b_PathTemplate_isVariable 26 = .ok (.caload, 1) := by decide +kernel
theorem d_PathTemplate_isVariable_27 : decode b_PathTemplate_isVariable 27 = .ok (.bipush 123, 2) := by decide +kernel
theorem d_PathTemplate_isVariable_29 : decode b_PathTemplate_isVariable 29 = .ok (.if_icmp .eq 14, 3) := by decide +kernel
theorem d_PathTemplate_isVariable_32 : decode b_PathTemplate_isVariable 32 = .ok (.aload_n 0, 1) := by decide +kernel
theorem d_PathTemplate_isVariable_33 : decode b_PathTemplate_isVariable 33 = .ok (.getfield 9, 3) := by decide +kernel
theorem d_PathTemplate_isVariable_36 : decode b_PathTemplate_isVariable 36 = .ok (.iload_n 2, 1) := by decide +kernel
theorem d_PathTemplate_isVariable_37 : decode b_PathTemplate_isVariable 37 = .ok (.caload, 1) := by decide +kernel
theorem d_PathTemplate_isVariable_38 : decode b_PathTemplate_isVariable 38 = .ok (.bipush 125, 2) := by decide +kernel
theorem d_PathTemplate_isVariable_40 : decode b_PathTemplate_isVariable 40 = .ok (.if_icmp .ne 20, 3) := by decide +kernel
theorem d_PathTemplate_isVariable_43 : decode b_PathTemplate_isVariable 43 = .ok (.aload_n 0, 1) := by decide +kernel
theorem d_PathTemplate_isVariable_44 : decode b_PathTemplate_isVariable 44 = .ok (.getfield 9, 3) := by decide +kernel
theorem d_PathTemplate_isVariable_47 : decode b_PathTemplate_isVariable 47 = .ok (.iload_n 2, 1) := by decide +kernel
theorem d_PathTemplate_isVariable_48 : decode b_PathTemplate_isVariable 48 = .ok (.caload, 1) := by decide +kernel
theorem d_PathTemplate_isVariable_49 : decode b_PathTemplate_isVariable 49 = .ok (.bipush 123, 2) := by decide +kernel
theorem d_PathTemplate_isVariable_51 : decode b_PathTemplate_isVariable 51 = .ok (.if_icmp .ne 7, 3) := by decide +kernel
theorem d_PathTemplate_isVariable_54 : decode b_PathTemplate_isVariable 54 = .ok (.iconst 1, 1) := by decide +kernel
theorem d_PathTemplate_isVariable_55 : decode b_PathTemplate_isVariable 55 = .ok (.goto 4, 3) := by decide +kernel
theorem d_PathTemplate_isVariable_58 : decode b_PathTemplate_isVariable 58 = .ok (.iconst 0, 1) := by decide +kernel
theorem d_PathTemplate_isVariable_59 : decode b_PathTemplate_isVariable 59 = .ok (.ireturn, 1) := by decide +kernel
theorem d_PathTemplate_isVariable_60 : decode b_PathTemplate_isVariable 60 = .ok (.iinc 2 (-1), 3) := by decide +kernel
theorem d_PathTemplate_isVariable_63 : decode b_PathTemplate_isVariable 63 = .ok (.goto (-46), 3) := by decide +kernel
theorem d_PathTemplate_isVariable_66 : decode b_PathTemplate_isVariable 66 = .ok (.iconst 0, 1) := by decide +kernel
theorem d_PathTemplate_isVariable_67 : decode b_PathTemplate_isVariable 67 = .ok (.ireturn, 1) := by decide +kernel
def f_PathTemplate_isVariable_43 (a2 : Int32) (S : zSt) : Option Int32 := gdi a2 40 ((if (S 3 a2.toNatClampNeg) = 123 then (gdb 1 (some 1)) else (gdb 0 (some 0))))
def f_PathTemplate_isVariable_17 : Nat → Int32 → zSt → Option Int32
  | 0, _, _ => none
  | n + 1, a2, S => (if a2 < 0 then (gdb 0 (some 0)) else gdi a2 40 ((if (S 3 a2.toNatClampNeg) = 123 then (f_PathTemplate_isVariable_43 a2 S) else gdi a2 40 ((if (S 3 a2.toNatClampNeg) = 125 then (f_PathTemplate_isVariable_43 a2 S) else ((f_PathTemplate_isVariable_17 n) (a2 + (-1)) S))))))
def f_PathTemplate_isVariable (a1 : Int32) (S : zSt) : Option Int32 := ((f_PathTemplate_at a1 S).bind fun u1 => ((f_Chars_isSmall u1 S).bind fun u2 => (if u2 = 0 then (gdb 0 (some 0)) else (f_PathTemplate_isVariable_17 fu (a1 - 1) S))))
set_option maxHeartbeats 4000000 in
set_option maxRecDepth 100000 in
theorem c_PathTemplate_isVariable (l : Launch) (g : zG) (hD : GD g) (a1 : Int32) (S : zSt) (u : Int32) (h : f_PathTemplate_isVariable a1 S = some u) : Met l y_PathTemplate_isVariable (mw y_PathTemplate_isVariable b_PathTemplate_isVariable 3 (some .boolean)) (rmD 1) (Pw g [.ref (ga g 2), .int a1] S) (Qip g S u) 0 0 (gA g) := by
  refine z_go (own := R_PathTemplate) (lv0 := [(0, .ref (ga g 2)), (1, .int a1)]) hD (by decide) rfl (Nat.le_of_ble_eq_true rfl) rfl ?_
  intro p e s m args below meth c C D ls hl
  have hx := C.1
  have hb := C.2.1
  have hown := C.2.2.2.1
  have hts := C.2.2.2.2.1
  have B43 : ∀ (H : Heap) (locs : List Loc) (ls : Array Slot) (a2 : Int32), f_PathTemplate_isVariable_43 a2 S = some u → Dy g s S H locs → lv_has ls 3 [(0, .ref (ga g 2)), (2, .int a2)] → W p l e (rmD 1) s m args below meth c H locs 0 0 (MQ below (Qip g S u) args s 0 0 (gA g)) (F0 m 43 ls []) := by
    intro H locs ls a2 h D hl
    unfold f_PathTemplate_isVariable_43 at h
    refine lv_aload_n hx hb d_PathTemplate_isVariable_43 rfl (lv_at hl 0 rfl) ?_
    refine x_get (v := .ref (ga g 3)) C D kc_PathTemplate (by decide) sh_2 0 rfl (by decide) wf_PathTemplate_9 rfl rfl d_PathTemplate_isVariable_44 ?_
    refine lv_iload_n hx hb d_PathTemplate_isVariable_47 rfl (lv_at hl 1 rfl) ?_
    refine x_cald C D (by decide) sh_3 d_PathTemplate_isVariable_48 h (fun _ h => ?_)
    refine lv_bipush (v := 123) hx hb d_PathTemplate_isVariable_49 (by decide) ?_
    refine lv_icmp_ne hx hb d_PathTemplate_isVariable_51 rfl (fun z => ?_) (fun z => ?_)
    · replace h := if_f z h
      refine lv_iconst (v := 0) hx hb d_PathTemplate_isVariable_58 (by decide) ?_
      exact x_zrp C D h d_PathTemplate_isVariable_59
    · replace h := if_t z h
      refine lv_iconst (v := 1) hx hb d_PathTemplate_isVariable_54 (by decide) ?_
      refine lv_goto hx hb d_PathTemplate_isVariable_55 rfl ?_
      exact x_zrp C D h d_PathTemplate_isVariable_59
  have L17 : ∀ (n : Nat) (H : Heap) (locs : List Loc) (ls : Array Slot) (a2 : Int32), f_PathTemplate_isVariable_17 n a2 S = some u → Dy g s S H locs → lv_has ls 3 [(0, .ref (ga g 2)), (2, .int a2)] → W p l e (rmD 1) s m args below meth c H locs 0 0 (MQ below (Qip g S u) args s 0 0 (gA g)) (F0 m 17 ls []) := by
    intro n
    induction n with
    | zero => intro H locs ls a2 h D hl; rw [f_PathTemplate_isVariable_17] at h; cases h
    | succ n hK17 =>
      intro H locs ls a2 h D hl
      rw [f_PathTemplate_isVariable_17] at h
      refine lv_iload_n hx hb d_PathTemplate_isVariable_17 rfl (lv_at hl 1 rfl) ?_
      refine lv_if_lt hx hb d_PathTemplate_isVariable_18 rfl (fun z => ?_) (fun z => ?_)
      · replace h := if_t z h
        refine lv_iconst (v := 0) hx hb d_PathTemplate_isVariable_66 (by decide) ?_
        exact x_zrp C D h d_PathTemplate_isVariable_67
      · replace h := if_f z h
        refine lv_aload_n hx hb d_PathTemplate_isVariable_21 rfl (lv_at hl 0 rfl) ?_
        refine x_get (v := .ref (ga g 3)) C D kc_PathTemplate (by decide) sh_2 0 rfl (by decide) wf_PathTemplate_9 rfl rfl d_PathTemplate_isVariable_22 ?_
        refine lv_iload_n hx hb d_PathTemplate_isVariable_25 rfl (lv_at hl 1 rfl) ?_
        refine x_cald C D (by decide) sh_3 d_PathTemplate_isVariable_26 h (fun _ h => ?_)
        refine lv_bipush (v := 123) hx hb d_PathTemplate_isVariable_27 (by decide) ?_
        refine lv_icmp_eq hx hb d_PathTemplate_isVariable_29 rfl (fun z => ?_) (fun z => ?_)
        · replace h := if_t z h
          exact B43 _ _ _ _ h D (lv_sub hl [0, 1] rfl)
        · replace h := if_f z h
          refine lv_aload_n hx hb d_PathTemplate_isVariable_32 rfl (lv_at hl 0 rfl) ?_
          refine x_get (v := .ref (ga g 3)) C D kc_PathTemplate (by decide) sh_2 0 rfl (by decide) wf_PathTemplate_9 rfl rfl d_PathTemplate_isVariable_33 ?_
          refine lv_iload_n hx hb d_PathTemplate_isVariable_36 rfl (lv_at hl 1 rfl) ?_
          refine x_cald C D (by decide) sh_3 d_PathTemplate_isVariable_37 h (fun _ h => ?_)
          refine lv_bipush (v := 125) hx hb d_PathTemplate_isVariable_38 (by decide) ?_
          refine lv_icmp_ne hx hb d_PathTemplate_isVariable_40 rfl (fun z => ?_) (fun z => ?_)
          · replace h := if_f z h
            refine lv_iinc (k := 1) (lv' := [(2, .int (a2 + (-1))), (0, .ref (ga g 2))]) hx hb d_PathTemplate_isVariable_60 hl rfl (iim1 _) (by decide) rfl (fun ls hl => ?_)
            refine lv_goto hx hb d_PathTemplate_isVariable_63 rfl ?_
            exact hK17 _ _ _ _ h D (lv_sub hl [1, 0] rfl)
          · replace h := if_t z h
            exact B43 _ _ _ _ h D (lv_sub hl [0, 1] rfl)
  unfold f_PathTemplate_isVariable at h
  refine lv_aload_n hx hb d_PathTemplate_isVariable_0 rfl (lv_at hl 0 rfl) ?_
  refine lv_iload_n hx hb d_PathTemplate_isVariable_1 rfl (lv_at hl 1 rfl) ?_
  obtain ⟨u1, hu1, h⟩ := bd_some h
  refine x_cip (rest := []) (r_V C D (c_PathTemplate_at l g hD a1 S u1 hu1) wc_PathTemplate_at wm_PathTemplate_17 wi_PathTemplate_at wd_PathTemplate_at (by decide) sh_2 kc_PathTemplate.1 rfl rfl hl (Nat.le_of_ble_eq_true rfl) (by decide) d_PathTemplate_isVariable_2) D (fun H locs D => ?_)
  obtain ⟨u2, hu2, h⟩ := bd_some h
  refine x_cip (rest := []) (r_S C D (c_Chars_isSmall l g hD u1 S u2 hu2) wc_Chars_isSmall wm_PathTemplate_34 wt_Chars_isSmall wd_Chars_isSmall rfl rfl hl (Nat.le_of_ble_eq_true rfl) (by decide) d_PathTemplate_isVariable_5) D (fun H locs D => ?_)
  refine lv_if_ne hx hb d_PathTemplate_isVariable_8 rfl (fun z => ?_) (fun z => ?_)
  · replace h := if_f z h
    refine lv_iload_n hx hb d_PathTemplate_isVariable_13 rfl (lv_at hl 1 rfl) ?_
    refine lv_iconst (v := 1) hx hb d_PathTemplate_isVariable_14 (by decide) ?_
    refine lv_isub hx hb d_PathTemplate_isVariable_15 ?_
    refine lv_istore_n (lv' := [(2, .int (a1 - 1)), (0, .ref (ga g 2)), (1, .int a1)]) hx hb d_PathTemplate_isVariable_16 rfl hl (by decide) rfl (fun ls hl => ?_)
    exact L17 _ _ _ _ _ h D (lv_sub hl [1, 0] rfl)
  · replace h := if_t z h
    refine lv_iconst (v := 0) hx hb d_PathTemplate_isVariable_11 (by decide) ?_
    exact x_zrp C D h d_PathTemplate_isVariable_12
theorem d_PathTemplate_isSpread_0 : decode b_PathTemplate_isSpread 0 = .ok (.aload_n 0, 1) := by decide +kernel
theorem d_PathTemplate_isSpread_1 : decode b_PathTemplate_isSpread 1 = .ok (.iload_n 1, 1) := by decide +kernel
theorem d_PathTemplate_isSpread_2 : decode b_PathTemplate_isSpread 2 = .ok (.iconst 1, 1) := by decide +kernel
theorem d_PathTemplate_isSpread_3 : decode b_PathTemplate_isSpread 3 = .ok (.iadd, 1) := by decide +kernel
theorem d_PathTemplate_isSpread_4 : decode b_PathTemplate_isSpread 4 = .ok (.invokevirtual 17, 3) := by decide +kernel
theorem d_PathTemplate_isSpread_7 : decode b_PathTemplate_isSpread 7 = .ok (.bipush 42, 2) := by decide +kernel
theorem d_PathTemplate_isSpread_9 : decode b_PathTemplate_isSpread 9 = .ok (.if_icmp .ne 7, 3) := by decide +kernel
theorem d_PathTemplate_isSpread_12 : decode b_PathTemplate_isSpread 12 = .ok (.iconst 1, 1) := by decide +kernel
theorem d_PathTemplate_isSpread_13 : decode b_PathTemplate_isSpread 13 = .ok (.goto 4, 3) := by decide +kernel
theorem d_PathTemplate_isSpread_16 : decode b_PathTemplate_isSpread 16 = .ok (.iconst 0, 1) := by decide +kernel
theorem d_PathTemplate_isSpread_17 : decode b_PathTemplate_isSpread 17 = .ok (.ireturn, 1) := by decide +kernel
def f_PathTemplate_isSpread (a1 : Int32) (S : zSt) : Option Int32 := ((f_PathTemplate_at (a1 + 1) S).bind fun u1 => (if u1 = 42 then (gdb 1 (some 1)) else (gdb 0 (some 0))))
set_option maxHeartbeats 4000000 in
set_option maxRecDepth 100000 in
theorem c_PathTemplate_isSpread (l : Launch) (g : zG) (hD : GD g) (a1 : Int32) (S : zSt) (u : Int32) (h : f_PathTemplate_isSpread a1 S = some u) : Met l y_PathTemplate_isSpread (mw y_PathTemplate_isSpread b_PathTemplate_isSpread 2 (some .boolean)) (rmD 1) (Pw g [.ref (ga g 2), .int a1] S) (Qip g S u) 0 0 (gA g) := by
  refine z_go (own := R_PathTemplate) (lv0 := [(0, .ref (ga g 2)), (1, .int a1)]) hD (by decide) rfl (Nat.le_of_ble_eq_true rfl) rfl ?_
  intro p e s m args below meth c C D ls hl
  have hx := C.1
  have hb := C.2.1
  have hown := C.2.2.2.1
  have hts := C.2.2.2.2.1
  unfold f_PathTemplate_isSpread at h
  refine lv_aload_n hx hb d_PathTemplate_isSpread_0 rfl (lv_at hl 0 rfl) ?_
  refine lv_iload_n hx hb d_PathTemplate_isSpread_1 rfl (lv_at hl 1 rfl) ?_
  refine lv_iconst (v := 1) hx hb d_PathTemplate_isSpread_2 (by decide) ?_
  refine lv_iadd hx hb d_PathTemplate_isSpread_3 ?_
  obtain ⟨u1, hu1, h⟩ := bd_some h
  refine x_cip (rest := []) (r_V C D (c_PathTemplate_at l g hD (a1 + 1) S u1 hu1) wc_PathTemplate_at wm_PathTemplate_17 wi_PathTemplate_at wd_PathTemplate_at (by decide) sh_2 kc_PathTemplate.1 rfl rfl hl (Nat.le_of_ble_eq_true rfl) (by decide) d_PathTemplate_isSpread_4) D (fun H locs D => ?_)
  refine lv_bipush (v := 42) hx hb d_PathTemplate_isSpread_7 (by decide) ?_
  refine lv_icmp_ne hx hb d_PathTemplate_isSpread_9 rfl (fun z => ?_) (fun z => ?_)
  · replace h := if_f z h
    refine lv_iconst (v := 0) hx hb d_PathTemplate_isSpread_16 (by decide) ?_
    exact x_zrp C D h d_PathTemplate_isSpread_17
  · replace h := if_t z h
    refine lv_iconst (v := 1) hx hb d_PathTemplate_isSpread_12 (by decide) ?_
    refine lv_goto hx hb d_PathTemplate_isSpread_13 rfl ?_
    exact x_zrp C D h d_PathTemplate_isSpread_17
theorem d_PathTemplate_isCut_0 : decode b_PathTemplate_isCut 0 = .ok (.aload_n 0, 1) := by decide +kernel
theorem d_PathTemplate_isCut_1 : decode b_PathTemplate_isCut 1 = .ok (.iload_n 1, 1) := by decide +kernel
theorem d_PathTemplate_isCut_2 : decode b_PathTemplate_isCut 2 = .ok (.iconst 1, 1) := by decide +kernel
theorem d_PathTemplate_isCut_3 : decode b_PathTemplate_isCut 3 = .ok (.iadd, 1) := by decide +kernel
theorem d_PathTemplate_isCut_4 : decode b_PathTemplate_isCut 4 = .ok (.invokevirtual 17, 3) := by decide +kernel
theorem d_PathTemplate_isCut_7 : decode b_PathTemplate_isCut 7 = .ok (.bipush 58, 2) := by decide +kernel
theorem d_PathTemplate_isCut_9 : decode b_PathTemplate_isCut 9 = .ok (.if_icmp .ne 7, 3) := by decide +kernel
theorem d_PathTemplate_isCut_12 : decode b_PathTemplate_isCut 12 = .ok (.iconst 1, 1) := by decide +kernel
theorem d_PathTemplate_isCut_13 : decode b_PathTemplate_isCut 13 = .ok (.goto 4, 3) := by decide +kernel
theorem d_PathTemplate_isCut_16 : decode b_PathTemplate_isCut 16 = .ok (.iconst 0, 1) := by decide +kernel
theorem d_PathTemplate_isCut_17 : decode b_PathTemplate_isCut 17 = .ok (.ireturn, 1) := by decide +kernel
def f_PathTemplate_isCut (a1 : Int32) (S : zSt) : Option Int32 := ((f_PathTemplate_at (a1 + 1) S).bind fun u1 => (if u1 = 58 then (gdb 1 (some 1)) else (gdb 0 (some 0))))
set_option maxHeartbeats 4000000 in
set_option maxRecDepth 100000 in
theorem c_PathTemplate_isCut (l : Launch) (g : zG) (hD : GD g) (a1 : Int32) (S : zSt) (u : Int32) (h : f_PathTemplate_isCut a1 S = some u) : Met l y_PathTemplate_isCut (mw y_PathTemplate_isCut b_PathTemplate_isCut 2 (some .boolean)) (rmD 1) (Pw g [.ref (ga g 2), .int a1] S) (Qip g S u) 0 0 (gA g) := by
  refine z_go (own := R_PathTemplate) (lv0 := [(0, .ref (ga g 2)), (1, .int a1)]) hD (by decide) rfl (Nat.le_of_ble_eq_true rfl) rfl ?_
  intro p e s m args below meth c C D ls hl
  have hx := C.1
  have hb := C.2.1
  have hown := C.2.2.2.1
  have hts := C.2.2.2.2.1
  unfold f_PathTemplate_isCut at h
  refine lv_aload_n hx hb d_PathTemplate_isCut_0 rfl (lv_at hl 0 rfl) ?_
  refine lv_iload_n hx hb d_PathTemplate_isCut_1 rfl (lv_at hl 1 rfl) ?_
  refine lv_iconst (v := 1) hx hb d_PathTemplate_isCut_2 (by decide) ?_
  refine lv_iadd hx hb d_PathTemplate_isCut_3 ?_
  obtain ⟨u1, hu1, h⟩ := bd_some h
  refine x_cip (rest := []) (r_V C D (c_PathTemplate_at l g hD (a1 + 1) S u1 hu1) wc_PathTemplate_at wm_PathTemplate_17 wi_PathTemplate_at wd_PathTemplate_at (by decide) sh_2 kc_PathTemplate.1 rfl rfl hl (Nat.le_of_ble_eq_true rfl) (by decide) d_PathTemplate_isCut_4) D (fun H locs D => ?_)
  refine lv_bipush (v := 58) hx hb d_PathTemplate_isCut_7 (by decide) ?_
  refine lv_icmp_ne hx hb d_PathTemplate_isCut_9 rfl (fun z => ?_) (fun z => ?_)
  · replace h := if_f z h
    refine lv_iconst (v := 0) hx hb d_PathTemplate_isCut_16 (by decide) ?_
    exact x_zrp C D h d_PathTemplate_isCut_17
  · replace h := if_t z h
    refine lv_iconst (v := 1) hx hb d_PathTemplate_isCut_12 (by decide) ?_
    refine lv_goto hx hb d_PathTemplate_isCut_13 rfl ?_
    exact x_zrp C D h d_PathTemplate_isCut_17
theorem d_PathTemplate_charactersFor_0 : decode b_PathTemplate_charactersFor 0 = .ok (.aload_n 0, 1) := by decide +kernel
theorem d_PathTemplate_charactersFor_1 : decode b_PathTemplate_charactersFor 1 = .ok (.iload_n 1, 1) := by decide +kernel
theorem d_PathTemplate_charactersFor_2 : decode b_PathTemplate_charactersFor 2 = .ok (.invokevirtual 41, 3) := by decide +kernel
theorem d_PathTemplate_charactersFor_5 : decode b_PathTemplate_charactersFor 5 = .ok (.ifCond .eq 16, 3) := by decide +kernel
theorem d_PathTemplate_charactersFor_8 : decode b_PathTemplate_charactersFor 8 = .ok (.aload_n 0, 1) := by decide +kernel
theorem d_PathTemplate_charactersFor_9 : decode b_PathTemplate_charactersFor 9 = .ok (.iload_n 1, 1) := by decide +kernel
theorem d_PathTemplate_charactersFor_10 : decode b_PathTemplate_charactersFor 10 = .ok (.iconst 2, 1) := by decide +kernel
theorem d_PathTemplate_charactersFor_11 : decode b_PathTemplate_charactersFor 11 = .ok (.iadd, 1) := by decide +kernel
theorem d_PathTemplate_charactersFor_12 : decode b_PathTemplate_charactersFor 12 = .ok (.invokevirtual 17, 3) := by decide +kernel
theorem d_PathTemplate_charactersFor_15 : decode b_PathTemplate_charactersFor 15 = .ok (.bipush 48, 2) := by decide +kernel
theorem d_PathTemplate_charactersFor_17 : decode b_PathTemplate_charactersFor 17 = .ok (.isub, 1) := by decide +kernel
theorem d_PathTemplate_charactersFor_18 : decode b_PathTemplate_charactersFor 18 = .ok (.goto 5, 3) := by decide +kernel
theorem d_PathTemplate_charactersFor_21 : decode b_PathTemplate_charactersFor 21 = .ok (.bipush 8, 2) := by decide +kernel
theorem d_PathTemplate_charactersFor_23 : decode b_PathTemplate_charactersFor 23 = .ok (.ireturn, 1) := by decide +kernel
def f_PathTemplate_charactersFor (a1 : Int32) (S : zSt) : Option Int32 := ((f_PathTemplate_isCut a1 S).bind fun u1 => (if u1 = 0 then (some 8) else ((f_PathTemplate_at (a1 + 2) S).bind fun u2 => (some (u2 - 48)))))
set_option maxHeartbeats 4000000 in
set_option maxRecDepth 100000 in
theorem c_PathTemplate_charactersFor (l : Launch) (g : zG) (hD : GD g) (a1 : Int32) (S : zSt) (u : Int32) (h : f_PathTemplate_charactersFor a1 S = some u) : Met l y_PathTemplate_charactersFor (mw y_PathTemplate_charactersFor b_PathTemplate_charactersFor 2 (some .int)) (rmD 2) (Pw g [.ref (ga g 2), .int a1] S) (Qip g S u) 0 0 (gA g) := by
  refine z_go (own := R_PathTemplate) (lv0 := [(0, .ref (ga g 2)), (1, .int a1)]) hD (by decide) rfl (Nat.le_of_ble_eq_true rfl) rfl ?_
  intro p e s m args below meth c C D ls hl
  have hx := C.1
  have hb := C.2.1
  have hown := C.2.2.2.1
  have hts := C.2.2.2.2.1
  unfold f_PathTemplate_charactersFor at h
  refine lv_aload_n hx hb d_PathTemplate_charactersFor_0 rfl (lv_at hl 0 rfl) ?_
  refine lv_iload_n hx hb d_PathTemplate_charactersFor_1 rfl (lv_at hl 1 rfl) ?_
  obtain ⟨u1, hu1, h⟩ := bd_some h
  refine x_cip (rest := []) (r_V C D (c_PathTemplate_isCut l g hD a1 S u1 hu1) wc_PathTemplate_isCut wm_PathTemplate_41 wi_PathTemplate_isCut wd_PathTemplate_isCut (by decide) sh_2 kc_PathTemplate.1 rfl rfl hl (Nat.le_of_ble_eq_true rfl) (by decide) d_PathTemplate_charactersFor_2) D (fun H locs D => ?_)
  refine lv_if_eq hx hb d_PathTemplate_charactersFor_5 rfl (fun z => ?_) (fun z => ?_)
  · replace h := if_t z h
    refine lv_bipush (v := 8) hx hb d_PathTemplate_charactersFor_21 (by decide) ?_
    exact x_irp C D h d_PathTemplate_charactersFor_23
  · replace h := if_f z h
    refine lv_aload_n hx hb d_PathTemplate_charactersFor_8 rfl (lv_at hl 0 rfl) ?_
    refine lv_iload_n hx hb d_PathTemplate_charactersFor_9 rfl (lv_at hl 1 rfl) ?_
    refine lv_iconst (v := 2) hx hb d_PathTemplate_charactersFor_10 (by decide) ?_
    refine lv_iadd hx hb d_PathTemplate_charactersFor_11 ?_
    obtain ⟨u2, hu2, h⟩ := bd_some h
    refine x_cip (rest := []) (r_V C D (c_PathTemplate_at l g hD (a1 + 2) S u2 hu2) wc_PathTemplate_at wm_PathTemplate_17 wi_PathTemplate_at wd_PathTemplate_at (by decide) sh_2 kc_PathTemplate.1 rfl rfl hl (Nat.le_of_ble_eq_true rfl) (by decide) d_PathTemplate_charactersFor_12) D (fun H locs D => ?_)
    refine lv_bipush (v := 48) hx hb d_PathTemplate_charactersFor_15 (by decide) ?_
    refine lv_isub hx hb d_PathTemplate_charactersFor_17 ?_
    refine lv_goto hx hb d_PathTemplate_charactersFor_18 rfl ?_
    exact x_irp C D h d_PathTemplate_charactersFor_23
theorem d_PathTemplate_placeBehind_0 : decode b_PathTemplate_placeBehind 0 = .ok (.iload_n 0, 1) := by decide +kernel
theorem d_PathTemplate_placeBehind_1 : decode b_PathTemplate_placeBehind 1 = .ok (.tableswitch 151 0 5 #[39, 63, 88, 102, 127, 146], 39) := by decide +kernel
theorem d_PathTemplate_placeBehind_40 : decode b_PathTemplate_placeBehind 40 = .ok (.iload_n 1, 1) := by decide +kernel
theorem d_PathTemplate_placeBehind_41 : decode b_PathTemplate_placeBehind 41 = .ok (.bipush 123, 2) := by decide +kernel
theorem d_PathTemplate_placeBehind_43 : decode b_PathTemplate_placeBehind 43 = .ok (.if_icmp .ne 7, 3) := by decide +kernel
theorem d_PathTemplate_placeBehind_46 : decode b_PathTemplate_placeBehind 46 = .ok (.iconst 1, 1) := by decide +kernel
theorem d_PathTemplate_placeBehind_47 : decode b_PathTemplate_placeBehind 47 = .ok (.goto 16, 3) := by decide +kernel
theorem d_PathTemplate_placeBehind_50 : decode b_PathTemplate_placeBehind 50 = .ok (.iload_n 1, 1) := by decide +kernel
theorem d_PathTemplate_placeBehind_51 : decode b_PathTemplate_placeBehind 51 = .ok (.invokestatic 25, 3) := by decide +kernel
theorem d_PathTemplate_placeBehind_54 : decode b_PathTemplate_placeBehind 54 = .ok (.ifCond .eq 7, 3) := by decide +kernel
theorem d_PathTemplate_placeBehind_57 : decode b_PathTemplate_placeBehind 57 = .ok (.iconst 0, 1) := by decide +kernel
theorem d_PathTemplate_placeBehind_58 : decode b_PathTemplate_placeBehind 58 = .ok (.goto 5, 3) := by decide +kernel
theorem d_PathTemplate_placeBehind_61 : decode b_PathTemplate_placeBehind 61 = .ok (.bipush 6, 2) := by decide +kernel
theorem d_PathTemplate_placeBehind_63 : decode b_PathTemplate_placeBehind 63 = .ok (.ireturn, 1) := by decide +kernel
theorem d_PathTemplate_placeBehind_64 : decode b_PathTemplate_placeBehind 64 = .ok (.iload_n 1, 1) := by decide +kernel
theorem d_PathTemplate_placeBehind_65 : decode b_PathTemplate_placeBehind 65 = .ok (.invokestatic 31, 3) := by decide +kernel
theorem d_PathTemplate_placeBehind_68 : decode b_PathTemplate_placeBehind 68 = .ok (.ifCond .eq 7, 3) := by decide +kernel
theorem d_PathTemplate_placeBehind_71 : decode b_PathTemplate_placeBehind 71 = .ok (.iconst 2, 1) := by decide +kernel
theorem d_PathTemplate_placeBehind_72 : decode b_PathTemplate_placeBehind 72 = .ok (.goto 16, 3) := by decide +kernel
theorem d_PathTemplate_placeBehind_75 : decode b_PathTemplate_placeBehind 75 = .ok (.iload_n 1, 1) := by decide +kernel
theorem d_PathTemplate_placeBehind_76 : decode b_PathTemplate_placeBehind 76 = .ok (.invokestatic 34, 3) := by decide +kernel
theorem d_PathTemplate_placeBehind_79 : decode b_PathTemplate_placeBehind 79 = .ok (.ifCond .eq 7, 3) := by decide +kernel
theorem d_PathTemplate_placeBehind_82 : decode b_PathTemplate_placeBehind 82 = .ok (.iconst 3, 1) := by decide +kernel
theorem d_PathTemplate_placeBehind_83 : decode b_PathTemplate_placeBehind 83 = .ok (.goto 5, 3) := by decide +kernel
theorem d_PathTemplate_placeBehind_86 : decode b_PathTemplate_placeBehind 86 = .ok (.bipush 6, 2) := by decide +kernel
theorem d_PathTemplate_placeBehind_88 : decode b_PathTemplate_placeBehind 88 = .ok (.ireturn, 1) := by decide +kernel
theorem d_PathTemplate_placeBehind_89 : decode b_PathTemplate_placeBehind 89 = .ok (.iload_n 1, 1) := by decide +kernel
theorem d_PathTemplate_placeBehind_90 : decode b_PathTemplate_placeBehind 90 = .ok (.invokestatic 34, 3) := by decide +kernel
theorem d_PathTemplate_placeBehind_93 : decode b_PathTemplate_placeBehind 93 = .ok (.ifCond .eq 7, 3) := by decide +kernel
theorem d_PathTemplate_placeBehind_96 : decode b_PathTemplate_placeBehind 96 = .ok (.iconst 3, 1) := by decide +kernel
theorem d_PathTemplate_placeBehind_97 : decode b_PathTemplate_placeBehind 97 = .ok (.goto 5, 3) := by decide +kernel
theorem d_PathTemplate_placeBehind_100 : decode b_PathTemplate_placeBehind 100 = .ok (.bipush 6, 2) := by decide +kernel
theorem d_PathTemplate_placeBehind_102 : decode b_PathTemplate_placeBehind 102 = .ok (.ireturn, 1) := by decide +kernel
theorem d_PathTemplate_placeBehind_103 : decode b_PathTemplate_placeBehind 103 = .ok (.iload_n 1, 1) := by decide +kernel
theorem d_PathTemplate_placeBehind_104 : decode b_PathTemplate_placeBehind 104 = .ok (.bipush 42, 2) := by decide +kernel
theorem d_PathTemplate_placeBehind_106 : decode b_PathTemplate_placeBehind 106 = .ok (.if_icmp .ne 7, 3) := by decide +kernel
theorem d_PathTemplate_placeBehind_109 : decode b_PathTemplate_placeBehind 109 = .ok (.iconst 5, 1) := by decide +kernel
theorem d_PathTemplate_placeBehind_110 : decode b_PathTemplate_placeBehind 110 = .ok (.goto 17, 3) := by decide +kernel
theorem d_PathTemplate_placeBehind_113 : decode b_PathTemplate_placeBehind 113 = .ok (.iload_n 1, 1) := by decide +kernel
theorem d_PathTemplate_placeBehind_114 : decode b_PathTemplate_placeBehind 114 = .ok (.bipush 58, 2) := by decide +kernel
theorem d_PathTemplate_placeBehind_116 : decode b_PathTemplate_placeBehind 116 = .ok (.if_icmp .ne 7, 3) := by decide +kernel
theorem d_PathTemplate_placeBehind_119 : decode b_PathTemplate_placeBehind 119 = .ok (.iconst 4, 1) := by decide +kernel
theorem d_PathTemplate_placeBehind_120 : decode b_PathTemplate_placeBehind 120 = .ok (.goto 7, 3) := by decide +kernel
theorem d_PathTemplate_placeBehind_123 : decode b_PathTemplate_placeBehind 123 = .ok (.iload_n 1, 1) := by decide +kernel
theorem d_PathTemplate_placeBehind_124 : decode b_PathTemplate_placeBehind 124 = .ok (.invokestatic 37, 3) := by decide +kernel
theorem d_PathTemplate_placeBehind_127 : decode b_PathTemplate_placeBehind 127 = .ok (.ireturn, 1) := by decide +kernel
theorem d_PathTemplate_placeBehind_128 : decode b_PathTemplate_placeBehind 128 = .ok (.iload_n 1, 1) := by decide +kernel
theorem d_PathTemplate_placeBehind_129 : decode b_PathTemplate_placeBehind 129 = .ok (.bipush 49, 2) := by decide +kernel
theorem d_PathTemplate_placeBehind_131 : decode b_PathTemplate_placeBehind 131 = .ok (.if_icmp .lt 13, 3) := by decide +kernel
theorem d_PathTemplate_placeBehind_134 : decode b_PathTemplate_placeBehind 134 = .ok (.iload_n 1, 1) := by decide +kernel
theorem d_PathTemplate_placeBehind_135 : decode b_PathTemplate_placeBehind 135 = .ok (.bipush 57, 2) := by decide +kernel
theorem d_PathTemplate_placeBehind_137 : decode b_PathTemplate_placeBehind 137 = .ok (.if_icmp .gt 7, 3) := by decide +kernel
theorem d_PathTemplate_placeBehind_140 : decode b_PathTemplate_placeBehind 140 = .ok (.iconst 5, 1) := by decide +kernel
theorem d_PathTemplate_placeBehind_141 : decode b_PathTemplate_placeBehind 141 = .ok (.goto 5, 3) := by decide +kernel
theorem d_PathTemplate_placeBehind_144 : decode b_PathTemplate_placeBehind 144 = .ok (.bipush 6, 2) := by decide +kernel
theorem d_PathTemplate_placeBehind_146 : decode b_PathTemplate_placeBehind 146 = .ok (.ireturn, 1) := by decide +kernel
theorem d_PathTemplate_placeBehind_147 : decode b_PathTemplate_placeBehind 147 = .ok (.iload_n 1, 1) := by decide +kernel
theorem d_PathTemplate_placeBehind_148 : decode b_PathTemplate_placeBehind 148 = .ok (.invokestatic 37, 3) := by decide +kernel
theorem d_PathTemplate_placeBehind_151 : decode b_PathTemplate_placeBehind 151 = .ok (.ireturn, 1) := by decide +kernel
theorem d_PathTemplate_placeBehind_152 : decode b_PathTemplate_placeBehind 152 = .ok (.bipush 6, 2) := by decide +kernel
theorem d_PathTemplate_placeBehind_154 : decode b_PathTemplate_placeBehind 154 = .ok (.ireturn, 1) := by decide +kernel
def f_PathTemplate_placeBehind_144 (S : zSt) : Option Int32 := (some 6)
def f_PathTemplate_placeBehind (a0 : Int32) (a1 : Int32) (S : zSt) : Option Int32 := (if a0 = 0 then (if a1 = 123 then (some 1) else ((f_Chars_isLiteral a1 S).bind fun u2 => (if u2 = 0 then (some 6) else (some 0)))) else (if a0 = 1 then ((f_Chars_isOperator a1 S).bind fun u4 => (if u4 = 0 then ((f_Chars_isSmall a1 S).bind fun u5 => (if u5 = 0 then (some 6) else (some 3))) else (some 2))) else (if a0 = 2 then ((f_Chars_isSmall a1 S).bind fun u7 => (if u7 = 0 then (some 6) else (some 3))) else (if a0 = 3 then (if a1 = 42 then (some 5) else (if a1 = 58 then (some 4) else ((f_PathTemplate_placeBehindVariable a1 S).bind fun u9 => (some u9)))) else (if a0 = 4 then (if a1 < 49 then (f_PathTemplate_placeBehind_144 S) else (if 57 < a1 then (f_PathTemplate_placeBehind_144 S) else (some 5))) else (if a0 = 5 then ((f_PathTemplate_placeBehindVariable a1 S).bind fun u12 => (some u12)) else (some 6)))))))
set_option maxHeartbeats 4000000 in
set_option maxRecDepth 100000 in
theorem c_PathTemplate_placeBehind (l : Launch) (g : zG) (hD : GD g) (a0 : Int32) (a1 : Int32) (S : zSt) (u : Int32) (h : f_PathTemplate_placeBehind a0 a1 S = some u) : Met l y_PathTemplate_placeBehind (mw y_PathTemplate_placeBehind b_PathTemplate_placeBehind 2 (some .int)) (rmD 5) (Pw g [.int a0, .int a1] S) (Qip g S u) 0 0 (gA g) := by
  refine z_go (own := R_PathTemplate) (lv0 := [(0, .int a0), (1, .int a1)]) hD (by decide) rfl (Nat.le_of_ble_eq_true rfl) rfl ?_
  intro p e s m args below meth c C D ls hl
  have hx := C.1
  have hb := C.2.1
  have hown := C.2.2.2.1
  have hts := C.2.2.2.2.1
  have B144 : ∀ (H : Heap) (locs : List Loc) (ls : Array Slot), f_PathTemplate_placeBehind_144 S = some u → Dy g s S H locs → lv_has ls 2 [] → W p l e (rmD 5) s m args below meth c H locs 0 0 (MQ below (Qip g S u) args s 0 0 (gA g)) (F0 m 144 ls []) := by
    intro H locs ls h D hl
    unfold f_PathTemplate_placeBehind_144 at h
    refine lv_bipush (v := 6) hx hb d_PathTemplate_placeBehind_144 (by decide) ?_
    exact x_irp C D h d_PathTemplate_placeBehind_146
  unfold f_PathTemplate_placeBehind at h
  refine lv_iload_n hx hb d_PathTemplate_placeBehind_0 rfl (lv_at hl 0 rfl) ?_
  by_cases e1 : a0 = 0
  · replace h := if_t e1 h
    refine lv_tableIn (off := 39) hx hb d_PathTemplate_placeBehind_1 (by rw [e1]; decide) (by rw [e1]; decide) (by rw [e1]; rfl) rfl ?_
    refine lv_iload_n hx hb d_PathTemplate_placeBehind_40 rfl (lv_at hl 1 rfl) ?_
    refine lv_bipush (v := 123) hx hb d_PathTemplate_placeBehind_41 (by decide) ?_
    refine lv_icmp_ne hx hb d_PathTemplate_placeBehind_43 rfl (fun z => ?_) (fun z => ?_)
    · replace h := if_f z h
      refine lv_iload_n hx hb d_PathTemplate_placeBehind_50 rfl (lv_at hl 1 rfl) ?_
      obtain ⟨u2, hu2, h⟩ := bd_some h
      refine x_cip (rest := []) (r_S C D (c_Chars_isLiteral l g hD a1 S u2 hu2) wc_Chars_isLiteral wm_PathTemplate_25 wt_Chars_isLiteral wd_Chars_isLiteral rfl rfl hl (Nat.le_of_ble_eq_true rfl) (by decide) d_PathTemplate_placeBehind_51) D (fun H locs D => ?_)
      refine lv_if_eq hx hb d_PathTemplate_placeBehind_54 rfl (fun z => ?_) (fun z => ?_)
      · replace h := if_t z h
        refine lv_bipush (v := 6) hx hb d_PathTemplate_placeBehind_61 (by decide) ?_
        exact x_irp C D h d_PathTemplate_placeBehind_63
      · replace h := if_f z h
        refine lv_iconst (v := 0) hx hb d_PathTemplate_placeBehind_57 (by decide) ?_
        refine lv_goto hx hb d_PathTemplate_placeBehind_58 rfl ?_
        exact x_irp C D h d_PathTemplate_placeBehind_63
    · replace h := if_t z h
      refine lv_iconst (v := 1) hx hb d_PathTemplate_placeBehind_46 (by decide) ?_
      refine lv_goto hx hb d_PathTemplate_placeBehind_47 rfl ?_
      exact x_irp C D h d_PathTemplate_placeBehind_63
  · replace h := if_f e1 h
    by_cases e3 : a0 = 1
    · replace h := if_t e3 h
      refine lv_tableIn (off := 63) hx hb d_PathTemplate_placeBehind_1 (by rw [e3]; decide) (by rw [e3]; decide) (by rw [e3]; rfl) rfl ?_
      refine lv_iload_n hx hb d_PathTemplate_placeBehind_64 rfl (lv_at hl 1 rfl) ?_
      obtain ⟨u4, hu4, h⟩ := bd_some h
      refine x_cip (rest := []) (r_S C D (c_Chars_isOperator l g hD a1 S u4 hu4) wc_Chars_isOperator wm_PathTemplate_31 wt_Chars_isOperator wd_Chars_isOperator rfl rfl hl (Nat.le_of_ble_eq_true rfl) (by decide) d_PathTemplate_placeBehind_65) D (fun H locs D => ?_)
      refine lv_if_eq hx hb d_PathTemplate_placeBehind_68 rfl (fun z => ?_) (fun z => ?_)
      · replace h := if_t z h
        refine lv_iload_n hx hb d_PathTemplate_placeBehind_75 rfl (lv_at hl 1 rfl) ?_
        obtain ⟨u5, hu5, h⟩ := bd_some h
        refine x_cip (rest := []) (r_S C D (c_Chars_isSmall l g hD a1 S u5 hu5) wc_Chars_isSmall wm_PathTemplate_34 wt_Chars_isSmall wd_Chars_isSmall rfl rfl hl (Nat.le_of_ble_eq_true rfl) (by decide) d_PathTemplate_placeBehind_76) D (fun H locs D => ?_)
        refine lv_if_eq hx hb d_PathTemplate_placeBehind_79 rfl (fun z => ?_) (fun z => ?_)
        · replace h := if_t z h
          refine lv_bipush (v := 6) hx hb d_PathTemplate_placeBehind_86 (by decide) ?_
          exact x_irp C D h d_PathTemplate_placeBehind_88
        · replace h := if_f z h
          refine lv_iconst (v := 3) hx hb d_PathTemplate_placeBehind_82 (by decide) ?_
          refine lv_goto hx hb d_PathTemplate_placeBehind_83 rfl ?_
          exact x_irp C D h d_PathTemplate_placeBehind_88
      · replace h := if_f z h
        refine lv_iconst (v := 2) hx hb d_PathTemplate_placeBehind_71 (by decide) ?_
        refine lv_goto hx hb d_PathTemplate_placeBehind_72 rfl ?_
        exact x_irp C D h d_PathTemplate_placeBehind_88
    · replace h := if_f e3 h
      by_cases e6 : a0 = 2
      · replace h := if_t e6 h
        refine lv_tableIn (off := 88) hx hb d_PathTemplate_placeBehind_1 (by rw [e6]; decide) (by rw [e6]; decide) (by rw [e6]; rfl) rfl ?_
        refine lv_iload_n hx hb d_PathTemplate_placeBehind_89 rfl (lv_at hl 1 rfl) ?_
        obtain ⟨u7, hu7, h⟩ := bd_some h
        refine x_cip (rest := []) (r_S C D (c_Chars_isSmall l g hD a1 S u7 hu7) wc_Chars_isSmall wm_PathTemplate_34 wt_Chars_isSmall wd_Chars_isSmall rfl rfl hl (Nat.le_of_ble_eq_true rfl) (by decide) d_PathTemplate_placeBehind_90) D (fun H locs D => ?_)
        refine lv_if_eq hx hb d_PathTemplate_placeBehind_93 rfl (fun z => ?_) (fun z => ?_)
        · replace h := if_t z h
          refine lv_bipush (v := 6) hx hb d_PathTemplate_placeBehind_100 (by decide) ?_
          exact x_irp C D h d_PathTemplate_placeBehind_102
        · replace h := if_f z h
          refine lv_iconst (v := 3) hx hb d_PathTemplate_placeBehind_96 (by decide) ?_
          refine lv_goto hx hb d_PathTemplate_placeBehind_97 rfl ?_
          exact x_irp C D h d_PathTemplate_placeBehind_102
      · replace h := if_f e6 h
        by_cases e8 : a0 = 3
        · replace h := if_t e8 h
          refine lv_tableIn (off := 102) hx hb d_PathTemplate_placeBehind_1 (by rw [e8]; decide) (by rw [e8]; decide) (by rw [e8]; rfl) rfl ?_
          refine lv_iload_n hx hb d_PathTemplate_placeBehind_103 rfl (lv_at hl 1 rfl) ?_
          refine lv_bipush (v := 42) hx hb d_PathTemplate_placeBehind_104 (by decide) ?_
          refine lv_icmp_ne hx hb d_PathTemplate_placeBehind_106 rfl (fun z => ?_) (fun z => ?_)
          · replace h := if_f z h
            refine lv_iload_n hx hb d_PathTemplate_placeBehind_113 rfl (lv_at hl 1 rfl) ?_
            refine lv_bipush (v := 58) hx hb d_PathTemplate_placeBehind_114 (by decide) ?_
            refine lv_icmp_ne hx hb d_PathTemplate_placeBehind_116 rfl (fun z => ?_) (fun z => ?_)
            · replace h := if_f z h
              refine lv_iload_n hx hb d_PathTemplate_placeBehind_123 rfl (lv_at hl 1 rfl) ?_
              obtain ⟨u9, hu9, h⟩ := bd_some h
              refine x_cip (rest := []) (r_S C D (c_PathTemplate_placeBehindVariable l g hD a1 S u9 hu9) wc_PathTemplate_placeBehindVariable wm_PathTemplate_37 wt_PathTemplate_placeBehindVariable wd_PathTemplate_placeBehindVariable rfl rfl hl (Nat.le_of_ble_eq_true rfl) (by decide) d_PathTemplate_placeBehind_124) D (fun H locs D => ?_)
              exact x_irp C D h d_PathTemplate_placeBehind_127
            · replace h := if_t z h
              refine lv_iconst (v := 4) hx hb d_PathTemplate_placeBehind_119 (by decide) ?_
              refine lv_goto hx hb d_PathTemplate_placeBehind_120 rfl ?_
              exact x_irp C D h d_PathTemplate_placeBehind_127
          · replace h := if_t z h
            refine lv_iconst (v := 5) hx hb d_PathTemplate_placeBehind_109 (by decide) ?_
            refine lv_goto hx hb d_PathTemplate_placeBehind_110 rfl ?_
            exact x_irp C D h d_PathTemplate_placeBehind_127
        · replace h := if_f e8 h
          by_cases e10 : a0 = 4
          · replace h := if_t e10 h
            refine lv_tableIn (off := 127) hx hb d_PathTemplate_placeBehind_1 (by rw [e10]; decide) (by rw [e10]; decide) (by rw [e10]; rfl) rfl ?_
            refine lv_iload_n hx hb d_PathTemplate_placeBehind_128 rfl (lv_at hl 1 rfl) ?_
            refine lv_bipush (v := 49) hx hb d_PathTemplate_placeBehind_129 (by decide) ?_
            refine lv_icmp_lt hx hb d_PathTemplate_placeBehind_131 rfl (fun z => ?_) (fun z => ?_)
            · replace h := if_t z h
              exact B144 _ _ _ h D (lv_sub hl [] rfl)
            · replace h := if_f z h
              refine lv_iload_n hx hb d_PathTemplate_placeBehind_134 rfl (lv_at hl 1 rfl) ?_
              refine lv_bipush (v := 57) hx hb d_PathTemplate_placeBehind_135 (by decide) ?_
              refine lv_icmp_gt hx hb d_PathTemplate_placeBehind_137 rfl (fun z => ?_) (fun z => ?_)
              · replace h := if_t z h
                exact B144 _ _ _ h D (lv_sub hl [] rfl)
              · replace h := if_f z h
                refine lv_iconst (v := 5) hx hb d_PathTemplate_placeBehind_140 (by decide) ?_
                refine lv_goto hx hb d_PathTemplate_placeBehind_141 rfl ?_
                exact x_irp C D h d_PathTemplate_placeBehind_146
          · replace h := if_f e10 h
            by_cases e11 : a0 = 5
            · replace h := if_t e11 h
              refine lv_tableIn (off := 146) hx hb d_PathTemplate_placeBehind_1 (by rw [e11]; decide) (by rw [e11]; decide) (by rw [e11]; rfl) rfl ?_
              refine lv_iload_n hx hb d_PathTemplate_placeBehind_147 rfl (lv_at hl 1 rfl) ?_
              obtain ⟨u12, hu12, h⟩ := bd_some h
              refine x_cip (rest := []) (r_S C D (c_PathTemplate_placeBehindVariable l g hD a1 S u12 hu12) wc_PathTemplate_placeBehindVariable wm_PathTemplate_37 wt_PathTemplate_placeBehindVariable wd_PathTemplate_placeBehindVariable rfl rfl hl (Nat.le_of_ble_eq_true rfl) (by decide) d_PathTemplate_placeBehind_148) D (fun H locs D => ?_)
              exact x_irp C D h d_PathTemplate_placeBehind_151
            · replace h := if_f e11 h
              have ne1 := lv_neT e1 (a := 0) (by decide)
              have ne3 := lv_neT e3 (a := 1) (by decide)
              have ne6 := lv_neT e6 (a := 2) (by decide)
              have ne8 := lv_neT e8 (a := 3) (by decide)
              have ne10 := lv_neT e10 (a := 4) (by decide)
              have ne11 := lv_neT e11 (a := 5) (by decide)
              refine lv_tableOut hx hb d_PathTemplate_placeBehind_1 (by omega) rfl ?_
              refine lv_bipush (v := 6) hx hb d_PathTemplate_placeBehind_152 (by decide) ?_
              exact x_irp C D h d_PathTemplate_placeBehind_154
theorem d_PathTemplate_operatorBehind_0 : decode b_PathTemplate_operatorBehind 0 = .ok (.aload_n 0, 1) := by decide +kernel
theorem d_PathTemplate_operatorBehind_1 : decode b_PathTemplate_operatorBehind 1 = .ok (.iload_n 1, 1) := by decide +kernel
theorem d_PathTemplate_operatorBehind_2 : decode b_PathTemplate_operatorBehind 2 = .ok (.iconst 1, 1) := by decide +kernel
theorem d_PathTemplate_operatorBehind_3 : decode b_PathTemplate_operatorBehind 3 = .ok (.iadd, 1) := by decide +kernel
theorem d_PathTemplate_operatorBehind_4 : decode b_PathTemplate_operatorBehind 4 = .ok (.invokevirtual 17, 3) := by decide +kernel
theorem d_PathTemplate_operatorBehind_7 : decode b_PathTemplate_operatorBehind 7 = .ok (.istore_n 2, 1) := by decide +kernel
theorem d_PathTemplate_operatorBehind_8 : decode b_PathTemplate_operatorBehind 8 = .ok (.iload_n 2, 1) := by decide +kernel
theorem d_PathTemplate_operatorBehind_9 : decode b_PathTemplate_operatorBehind 9 = .ok (.invokestatic 31, 3) := by decide +kernel
theorem d_PathTemplate_operatorBehind_12 : decode b_PathTemplate_operatorBehind 12 = .ok (.ifCond .eq 7, 3) := by decide +kernel
theorem d_PathTemplate_operatorBehind_15 : decode b_PathTemplate_operatorBehind 15 = .ok (.iload_n 2, 1) := by decide +kernel
theorem d_PathTemplate_operatorBehind_16 : decode b_PathTemplate_operatorBehind 16 = .ok (.goto 5, 3) := by decide +kernel
theorem d_PathTemplate_operatorBehind_19 : decode b_PathTemplate_operatorBehind 19 = .ok (.bipush 32, 2) := by decide +kernel
theorem d_PathTemplate_operatorBehind_21 : decode b_PathTemplate_operatorBehind 21 = .ok (.ireturn, 1) := by decide +kernel
def f_PathTemplate_operatorBehind (a1 : Int32) (S : zSt) : Option Int32 := ((f_PathTemplate_at (a1 + 1) S).bind fun u1 => ((f_Chars_isOperator u1 S).bind fun u2 => (if u2 = 0 then (gdc 32 (some 32)) else (gdc u1 (some u1)))))
set_option maxHeartbeats 4000000 in
set_option maxRecDepth 100000 in
theorem c_PathTemplate_operatorBehind (l : Launch) (g : zG) (hD : GD g) (a1 : Int32) (S : zSt) (u : Int32) (h : f_PathTemplate_operatorBehind a1 S = some u) : Met l y_PathTemplate_operatorBehind (mw y_PathTemplate_operatorBehind b_PathTemplate_operatorBehind 3 (some .char)) (rmD 5) (Pw g [.ref (ga g 2), .int a1] S) (Qip g S u) 0 0 (gA g) := by
  refine z_go (own := R_PathTemplate) (lv0 := [(0, .ref (ga g 2)), (1, .int a1)]) hD (by decide) rfl (Nat.le_of_ble_eq_true rfl) rfl ?_
  intro p e s m args below meth c C D ls hl
  have hx := C.1
  have hb := C.2.1
  have hown := C.2.2.2.1
  have hts := C.2.2.2.2.1
  unfold f_PathTemplate_operatorBehind at h
  refine lv_aload_n hx hb d_PathTemplate_operatorBehind_0 rfl (lv_at hl 0 rfl) ?_
  refine lv_iload_n hx hb d_PathTemplate_operatorBehind_1 rfl (lv_at hl 1 rfl) ?_
  refine lv_iconst (v := 1) hx hb d_PathTemplate_operatorBehind_2 (by decide) ?_
  refine lv_iadd hx hb d_PathTemplate_operatorBehind_3 ?_
  obtain ⟨u1, hu1, h⟩ := bd_some h
  refine x_cip (rest := []) (r_V C D (c_PathTemplate_at l g hD (a1 + 1) S u1 hu1) wc_PathTemplate_at wm_PathTemplate_17 wi_PathTemplate_at wd_PathTemplate_at (by decide) sh_2 kc_PathTemplate.1 rfl rfl hl (Nat.le_of_ble_eq_true rfl) (by decide) d_PathTemplate_operatorBehind_4) D (fun H locs D => ?_)
  refine lv_istore_n (lv' := [(2, .int u1), (0, .ref (ga g 2)), (1, .int a1)]) hx hb d_PathTemplate_operatorBehind_7 rfl hl (by decide) rfl (fun ls hl => ?_)
  refine lv_iload_n hx hb d_PathTemplate_operatorBehind_8 rfl (lv_at hl 0 rfl) ?_
  obtain ⟨u2, hu2, h⟩ := bd_some h
  refine x_cip (rest := []) (r_S C D (c_Chars_isOperator l g hD u1 S u2 hu2) wc_Chars_isOperator wm_PathTemplate_31 wt_Chars_isOperator wd_Chars_isOperator rfl rfl hl (Nat.le_of_ble_eq_true rfl) (by decide) d_PathTemplate_operatorBehind_9) D (fun H locs D => ?_)
  refine lv_if_eq hx hb d_PathTemplate_operatorBehind_12 rfl (fun z => ?_) (fun z => ?_)
  · replace h := if_t z h
    refine lv_bipush (v := 32) hx hb d_PathTemplate_operatorBehind_19 (by decide) ?_
    exact x_crp C D h d_PathTemplate_operatorBehind_21
  · replace h := if_f z h
    refine lv_iload_n hx hb d_PathTemplate_operatorBehind_15 rfl (lv_at hl 0 rfl) ?_
    refine lv_goto hx hb d_PathTemplate_operatorBehind_16 rfl ?_
    exact x_crp C D h d_PathTemplate_operatorBehind_21
theorem d_PathTemplate_isWellFormed_0 : decode b_PathTemplate_isWellFormed 0 = .ok (.aload_n 0, 1) := by decide +kernel
theorem d_PathTemplate_isWellFormed_1 : decode b_PathTemplate_isWellFormed 1 = .ok (.iconst 0, 1) := by decide +kernel
theorem d_PathTemplate_isWellFormed_2 : decode b_PathTemplate_isWellFormed 2 = .ok (.invokevirtual 17, 3) := by decide +kernel
theorem d_PathTemplate_isWellFormed_5 : decode b_PathTemplate_isWellFormed 5 = .ok (.bipush 47, 2) := by decide +kernel
theorem d_PathTemplate_isWellFormed_7 : decode b_PathTemplate_isWellFormed 7 = .ok (.if_icmp .eq 5, 3) := by decide +kernel
theorem d_PathTemplate_isWellFormed_10 : decode b_PathTemplate_isWellFormed 10 = .ok (.iconst 0, 1) := by decide +kernel
theorem d_PathTemplate_isWellFormed_11 : decode b_PathTemplate_isWellFormed 11 = .ok (.ireturn, 1) := by decide +kernel
theorem d_PathTemplate_isWellFormed_12 : decode b_PathTemplate_isWellFormed 12 = .ok (.iconst 0, 1) := by decide +kernel
theorem d_PathTemplate_isWellFormed_13 : decode b_PathTemplate_isWellFormed 13 = .ok (.istore_n 1, 1) := by decide +kernel
theorem d_PathTemplate_isWellFormed_14 : decode b_PathTemplate_isWellFormed 14 = .ok (.iconst 0, 1) := by decide +kernel
theorem d_PathTemplate_isWellFormed_15 : decode b_PathTemplate_isWellFormed 15 = .ok (.istore_n 2, 1) := by decide +kernel
theorem d_PathTemplate_isWellFormed_16 : decode b_PathTemplate_isWellFormed 16 = .ok (.iload_n 2, 1) := by decide +kernel
theorem d_PathTemplate_isWellFormed_17 : decode b_PathTemplate_isWellFormed 17 = .ok (.aload_n 0, 1) := by decide +kernel
theorem d_PathTemplate_isWellFormed_18 : decode b_PathTemplate_isWellFormed 18 = .ok (.getfield 13, 3) := by decide +kernel
theorem d_PathTemplate_isWellFormed_21 : decode b_PathTemplate_isWellFormed 21 = .ok (.if_icmp .ge 20, 3) := by decide +kernel
theorem d_PathTemplate_isWellFormed_24 : decode b_PathTemplate_isWellFormed 24 = .ok (.iload_n 1, 1) := by decide +kernel
theorem d_PathTemplate_isWellFormed_25 : decode b_PathTemplate_isWellFormed 25 = .ok (.aload_n 0, 1) := by decide +kernel
theorem d_PathTemplate_isWellFormed_26 : decode b_PathTemplate_isWellFormed 26 = .ok (.getfield 9, 3) := by decide +kernel
theorem d_PathTemplate_isWellFormed_29 : decode b_PathTemplate_isWellFormed 29 = .ok (.iload_n 2, 1) := by decide +kernel
theorem d_PathTemplate_isWellFormed_30 : decode b_PathTemplate_isWellFormed 30 = .ok (.caload, 1) := by decide +kernel
theorem d_PathTemplate_isWellFormed_31 : decode b_PathTemplate_isWellFormed 31 = .ok (.invokestatic 21, 3) := by decide +kernel
theorem d_PathTemplate_isWellFormed_34 : decode b_PathTemplate_isWellFormed 34 = .ok (.istore_n 1, 1) := by decide +kernel
theorem d_PathTemplate_isWellFormed_35 : decode b_PathTemplate_isWellFormed 35 = .ok (.iinc 2 1, 3) := by decide +kernel
theorem d_PathTemplate_isWellFormed_38 : decode b_PathTemplate_isWellFormed 38 = .ok (.goto (-22), 3) := by decide +kernel
theorem d_PathTemplate_isWellFormed_41 : decode b_PathTemplate_isWellFormed 41 = .ok (.iload_n 1, 1) := by decide +kernel
theorem d_PathTemplate_isWellFormed_42 : decode b_PathTemplate_isWellFormed 42 = .ok (.ifCond .ne 7, 3) := by decide +kernel
theorem d_PathTemplate_isWellFormed_45 : decode b_PathTemplate_isWellFormed 45 = .ok (.iconst 1, 1) := by decide +kernel
theorem d_PathTemplate_isWellFormed_46 : decode b_PathTemplate_isWellFormed 46 = .ok (.goto 4, 3) := by decide +kernel
theorem d_PathTemplate_isWellFormed_49 : decode b_PathTemplate_isWellFormed 49 = .ok (.iconst 0, 1) := by decide +kernel
theorem d_PathTemplate_isWellFormed_50 : decode b_PathTemplate_isWellFormed 50 = .ok (.ireturn, 1) := by decide +kernel
def f_PathTemplate_isWellFormed_16 : Nat → Int32 → Int32 → zSt → Option Int32
  | 0, _, _, _ => none
  | n + 1, a1, a2, S => (if (S 2 1) ≤ a2 then (if a1 = 0 then (gdb 1 (some 1)) else (gdb 0 (some 0))) else gdi a2 40 (((f_PathTemplate_placeBehind a1 (S 3 a2.toNatClampNeg) S).bind fun u2 => ((f_PathTemplate_isWellFormed_16 n) u2 (a2 + 1) S))))
def f_PathTemplate_isWellFormed (S : zSt) : Option Int32 := ((f_PathTemplate_at 0 S).bind fun u1 => (if u1 = 47 then (f_PathTemplate_isWellFormed_16 fu 0 0 S) else (gdb 0 (some 0))))
set_option maxHeartbeats 4000000 in
set_option maxRecDepth 100000 in
theorem c_PathTemplate_isWellFormed (l : Launch) (g : zG) (hD : GD g) (S : zSt) (u : Int32) (h : f_PathTemplate_isWellFormed S = some u) : Met l y_PathTemplate_isWellFormed (mw y_PathTemplate_isWellFormed b_PathTemplate_isWellFormed 3 (some .boolean)) (rmD 6) (Pw g [.ref (ga g 2)] S) (Qip g S u) 0 0 (gA g) := by
  refine z_go (own := R_PathTemplate) (lv0 := [(0, .ref (ga g 2))]) hD (by decide) rfl (Nat.le_of_ble_eq_true rfl) rfl ?_
  intro p e s m args below meth c C D ls hl
  have hx := C.1
  have hb := C.2.1
  have hown := C.2.2.2.1
  have hts := C.2.2.2.2.1
  have L16 : ∀ (n : Nat) (H : Heap) (locs : List Loc) (ls : Array Slot) (a1 : Int32) (a2 : Int32), f_PathTemplate_isWellFormed_16 n a1 a2 S = some u → Dy g s S H locs → lv_has ls 3 [(0, .ref (ga g 2)), (1, .int a1), (2, .int a2)] → W p l e (rmD 6) s m args below meth c H locs 0 0 (MQ below (Qip g S u) args s 0 0 (gA g)) (F0 m 16 ls []) := by
    intro n
    induction n with
    | zero => intro H locs ls a1 a2 h D hl; rw [f_PathTemplate_isWellFormed_16] at h; cases h
    | succ n hK16 =>
      intro H locs ls a1 a2 h D hl
      rw [f_PathTemplate_isWellFormed_16] at h
      refine lv_iload_n hx hb d_PathTemplate_isWellFormed_16 rfl (lv_at hl 2 rfl) ?_
      refine lv_aload_n hx hb d_PathTemplate_isWellFormed_17 rfl (lv_at hl 0 rfl) ?_
      refine x_get (v := .int (S 2 1)) C D kc_PathTemplate (by decide) sh_2 1 rfl (by decide) wf_PathTemplate_13 rfl rfl d_PathTemplate_isWellFormed_18 ?_
      refine lv_icmp_ge hx hb d_PathTemplate_isWellFormed_21 rfl (fun z => ?_) (fun z => ?_)
      · replace h := if_t z h
        refine lv_iload_n hx hb d_PathTemplate_isWellFormed_41 rfl (lv_at hl 1 rfl) ?_
        refine lv_if_ne hx hb d_PathTemplate_isWellFormed_42 rfl (fun z => ?_) (fun z => ?_)
        · replace h := if_f z h
          refine lv_iconst (v := 0) hx hb d_PathTemplate_isWellFormed_49 (by decide) ?_
          exact x_zrp C D h d_PathTemplate_isWellFormed_50
        · replace h := if_t z h
          refine lv_iconst (v := 1) hx hb d_PathTemplate_isWellFormed_45 (by decide) ?_
          refine lv_goto hx hb d_PathTemplate_isWellFormed_46 rfl ?_
          exact x_zrp C D h d_PathTemplate_isWellFormed_50
      · replace h := if_f z h
        refine lv_iload_n hx hb d_PathTemplate_isWellFormed_24 rfl (lv_at hl 1 rfl) ?_
        refine lv_aload_n hx hb d_PathTemplate_isWellFormed_25 rfl (lv_at hl 0 rfl) ?_
        refine x_get (v := .ref (ga g 3)) C D kc_PathTemplate (by decide) sh_2 0 rfl (by decide) wf_PathTemplate_9 rfl rfl d_PathTemplate_isWellFormed_26 ?_
        refine lv_iload_n hx hb d_PathTemplate_isWellFormed_29 rfl (lv_at hl 2 rfl) ?_
        refine x_cald C D (by decide) sh_3 d_PathTemplate_isWellFormed_30 h (fun _ h => ?_)
        obtain ⟨u2, hu2, h⟩ := bd_some h
        refine x_cip (rest := []) (r_S C D (c_PathTemplate_placeBehind l g hD a1 (S 3 a2.toNatClampNeg) S u2 hu2) wc_PathTemplate_placeBehind wm_PathTemplate_21 wt_PathTemplate_placeBehind wd_PathTemplate_placeBehind rfl rfl hl (Nat.le_of_ble_eq_true rfl) (by decide) d_PathTemplate_isWellFormed_31) D (fun H locs D => ?_)
        refine lv_istore_n (lv' := [(1, .int u2), (0, .ref (ga g 2)), (2, .int a2)]) hx hb d_PathTemplate_isWellFormed_34 rfl hl (by decide) rfl (fun ls hl => ?_)
        refine lv_iinc (k := 2) (lv' := [(2, .int (a2 + 1)), (1, .int u2), (0, .ref (ga g 2))]) hx hb d_PathTemplate_isWellFormed_35 hl rfl (ii1 _) (by decide) rfl (fun ls hl => ?_)
        refine lv_goto hx hb d_PathTemplate_isWellFormed_38 rfl ?_
        exact hK16 _ _ _ _ _ h D (lv_sub hl [2, 1, 0] rfl)
  unfold f_PathTemplate_isWellFormed at h
  refine lv_aload_n hx hb d_PathTemplate_isWellFormed_0 rfl (lv_at hl 0 rfl) ?_
  refine lv_iconst (v := 0) hx hb d_PathTemplate_isWellFormed_1 (by decide) ?_
  obtain ⟨u1, hu1, h⟩ := bd_some h
  refine x_cip (rest := []) (r_V C D (c_PathTemplate_at l g hD 0 S u1 hu1) wc_PathTemplate_at wm_PathTemplate_17 wi_PathTemplate_at wd_PathTemplate_at (by decide) sh_2 kc_PathTemplate.1 rfl rfl hl (Nat.le_of_ble_eq_true rfl) (by decide) d_PathTemplate_isWellFormed_2) D (fun H locs D => ?_)
  refine lv_bipush (v := 47) hx hb d_PathTemplate_isWellFormed_5 (by decide) ?_
  refine lv_icmp_eq hx hb d_PathTemplate_isWellFormed_7 rfl (fun z => ?_) (fun z => ?_)
  · replace h := if_t z h
    refine lv_iconst (v := 0) hx hb d_PathTemplate_isWellFormed_12 (by decide) ?_
    refine lv_istore_n (lv' := [(1, .int 0), (0, .ref (ga g 2))]) hx hb d_PathTemplate_isWellFormed_13 rfl hl (by decide) rfl (fun ls hl => ?_)
    refine lv_iconst (v := 0) hx hb d_PathTemplate_isWellFormed_14 (by decide) ?_
    refine lv_istore_n (lv' := [(2, .int 0), (1, .int 0), (0, .ref (ga g 2))]) hx hb d_PathTemplate_isWellFormed_15 rfl hl (by decide) rfl (fun ls hl => ?_)
    exact L16 _ _ _ _ _ _ h D (lv_sub hl [2, 1, 0] rfl)
  · replace h := if_f z h
    refine lv_iconst (v := 0) hx hb d_PathTemplate_isWellFormed_10 (by decide) ?_
    exact x_zrp C D h d_PathTemplate_isWellFormed_11
