theorem d_TC_state_0 : decode b_TC_state 0 = .ok (.aload_n 0, 1) := by decide +kernel
theorem d_TC_state_1 : decode b_TC_state 1 = .ok (.getfield 28, 3) := by decide +kernel
theorem d_TC_state_4 : decode b_TC_state 4 = .ok (.getfield 108, 3) := by decide +kernel
theorem d_TC_state_7 : decode b_TC_state 7 = .ok (.ireturn, 1) := by decide +kernel
def f_TC_state (S : zSt) : Option Int32 := (some (S 6 3))
set_option maxHeartbeats 4000000 in
set_option maxRecDepth 100000 in
theorem c_TC_state (l : Launch) (g : zG) (hD : GD g) (S : zSt) (u : Int32) (h : f_TC_state S = some u) : Met l y_TC_state (mw y_TC_state b_TC_state 1 (some .int)) (rmD 0) (Pw g [.ref (ga g 0)] S) (Qip g S u) 0 0 (gA g) := by
  refine z_go (own := R_TC) (lv0 := [(0, .ref (ga g 0))]) hD (by decide) rfl (Nat.le_of_ble_eq_true rfl) rfl ?_
  intro p e s m args below meth c C D ls hl
  have hx := C.1
  have hb := C.2.1
  have hown := C.2.2.2.1
  have hts := C.2.2.2.2.1
  unfold f_TC_state at h
  refine lv_aload_n hx hb d_TC_state_0 rfl (lv_at hl 0 rfl) ?_
  refine x_get (v := .ref (ga g 6)) C D kc_TC (by decide) sh_0 2 rfl (by decide) wf_TC_28 rfl rfl d_TC_state_1 ?_
  refine x_getN (v := .int (S 6 3)) C D kc_Reader (by decide) sh_6 3 rfl (by decide) nf_TC_108 rfl rfl d_TC_state_4 ?_
  exact x_irp C D h d_TC_state_7
theorem d_TC_status_0 : decode b_TC_status 0 = .ok (.aload_n 0, 1) := by decide +kernel
theorem d_TC_status_1 : decode b_TC_status 1 = .ok (.getfield 28, 3) := by decide +kernel
theorem d_TC_status_4 : decode b_TC_status 4 = .ok (.getfield 117, 3) := by decide +kernel
theorem d_TC_status_7 : decode b_TC_status 7 = .ok (.ireturn, 1) := by decide +kernel
def f_TC_status (S : zSt) : Option Int32 := (some (S 6 5))
set_option maxHeartbeats 4000000 in
set_option maxRecDepth 100000 in
theorem c_TC_status (l : Launch) (g : zG) (hD : GD g) (S : zSt) (u : Int32) (h : f_TC_status S = some u) : Met l y_TC_status (mw y_TC_status b_TC_status 1 (some .int)) (rmD 0) (Pw g [.ref (ga g 0)] S) (Qip g S u) 0 0 (gA g) := by
  refine z_go (own := R_TC) (lv0 := [(0, .ref (ga g 0))]) hD (by decide) rfl (Nat.le_of_ble_eq_true rfl) rfl ?_
  intro p e s m args below meth c C D ls hl
  have hx := C.1
  have hb := C.2.1
  have hown := C.2.2.2.1
  have hts := C.2.2.2.2.1
  unfold f_TC_status at h
  refine lv_aload_n hx hb d_TC_status_0 rfl (lv_at hl 0 rfl) ?_
  refine x_get (v := .ref (ga g 6)) C D kc_TC (by decide) sh_0 2 rfl (by decide) wf_TC_28 rfl rfl d_TC_status_1 ?_
  refine x_getN (v := .int (S 6 5)) C D kc_Reader (by decide) sh_6 5 rfl (by decide) nf_TC_117 rfl rfl d_TC_status_4 ?_
  exact x_irp C D h d_TC_status_7
theorem d_TC_fields_0 : decode b_TC_fields 0 = .ok (.aload_n 0, 1) := by decide +kernel
theorem d_TC_fields_1 : decode b_TC_fields 1 = .ok (.getfield 28, 3) := by decide +kernel
theorem d_TC_fields_4 : decode b_TC_fields 4 = .ok (.getfield 120, 3) := by decide +kernel
theorem d_TC_fields_7 : decode b_TC_fields 7 = .ok (.getfield 124, 3) := by decide +kernel
theorem d_TC_fields_10 : decode b_TC_fields 10 = .ok (.ireturn, 1) := by decide +kernel
def f_TC_fields (S : zSt) : Option Int32 := (some (S 9 1))
set_option maxHeartbeats 4000000 in
set_option maxRecDepth 100000 in
theorem c_TC_fields (l : Launch) (g : zG) (hD : GD g) (S : zSt) (u : Int32) (h : f_TC_fields S = some u) : Met l y_TC_fields (mw y_TC_fields b_TC_fields 1 (some .int)) (rmD 0) (Pw g [.ref (ga g 0)] S) (Qip g S u) 0 0 (gA g) := by
  refine z_go (own := R_TC) (lv0 := [(0, .ref (ga g 0))]) hD (by decide) rfl (Nat.le_of_ble_eq_true rfl) rfl ?_
  intro p e s m args below meth c C D ls hl
  have hx := C.1
  have hb := C.2.1
  have hown := C.2.2.2.1
  have hts := C.2.2.2.2.1
  unfold f_TC_fields at h
  refine lv_aload_n hx hb d_TC_fields_0 rfl (lv_at hl 0 rfl) ?_
  refine x_get (v := .ref (ga g 6)) C D kc_TC (by decide) sh_0 2 rfl (by decide) wf_TC_28 rfl rfl d_TC_fields_1 ?_
  refine x_getN (v := .ref (ga g 9)) C D kc_Reader (by decide) sh_6 1 rfl (by decide) nf_TC_120 rfl rfl d_TC_fields_4 ?_
  refine x_getN (v := .int (S 9 1)) C D kc_Head (by decide) sh_9 1 rfl (by decide) nf_TC_124 rfl rfl d_TC_fields_7 ?_
  exact x_irp C D h d_TC_fields_10
theorem d_TC_length_0 : decode b_TC_length 0 = .ok (.aload_n 0, 1) := by decide +kernel
theorem d_TC_length_1 : decode b_TC_length 1 = .ok (.getfield 28, 3) := by decide +kernel
theorem d_TC_length_4 : decode b_TC_length 4 = .ok (.getfield 129, 3) := by decide +kernel
theorem d_TC_length_7 : decode b_TC_length 7 = .ok (.getfield 93, 3) := by decide +kernel
theorem d_TC_length_10 : decode b_TC_length 10 = .ok (.ireturn, 1) := by decide +kernel
def f_TC_length (S : zSt) : Option Int32 := (some (S (58 + 3) 1))
set_option maxHeartbeats 4000000 in
set_option maxRecDepth 100000 in
theorem c_TC_length (l : Launch) (g : zG) (hD : GD g) (S : zSt) (u : Int32) (h : f_TC_length S = some u) : Met l y_TC_length (mw y_TC_length b_TC_length 1 (some .int)) (rmD 0) (Pw g [.ref (ga g 0)] S) (Qip g S u) 0 0 (gA g) := by
  refine z_go (own := R_TC) (lv0 := [(0, .ref (ga g 0))]) hD (by decide) rfl (Nat.le_of_ble_eq_true rfl) rfl ?_
  intro p e s m args below meth c C D ls hl
  have hx := C.1
  have hb := C.2.1
  have hown := C.2.2.2.1
  have hts := C.2.2.2.2.1
  unfold f_TC_length at h
  refine lv_aload_n hx hb d_TC_length_0 rfl (lv_at hl 0 rfl) ?_
  refine x_get (v := .ref (ga g 6)) C D kc_TC (by decide) sh_0 2 rfl (by decide) wf_TC_28 rfl rfl d_TC_length_1 ?_
  refine x_getN (v := .ref (ga g (58 + 3))) C D kc_Reader (by decide) sh_6 2 rfl (by decide) nf_TC_129 rfl rfl d_TC_length_4 ?_
  refine x_getN (v := .int (S (58 + 3) 1)) C D kc_ByteRow (nR (by decide)) (sh_R (by decide)) 1 rfl (by decide) nf_TC_93 rfl rfl d_TC_length_7 ?_
  exact x_irp C D h d_TC_length_10
theorem d_TC_declare_0 : decode b_TC_declare 0 = .ok (.iload_n 1, 1) := by decide +kernel
theorem d_TC_declare_1 : decode b_TC_declare 1 = .ok (.ifCond .lt 8, 3) := by decide +kernel
theorem d_TC_declare_4 : decode b_TC_declare 4 = .ok (.iload_n 1, 1) := by decide +kernel
theorem d_TC_declare_5 : decode b_TC_declare 5 = .ok (.iconst 4, 1) := by decide +kernel
theorem d_TC_declare_6 : decode b_TC_declare 6 = .ok (.if_icmp .le 5, 3) := by decide +kernel
theorem d_TC_declare_9 : decode b_TC_declare 9 = .ok (.iconst 0, 1) := by decide +kernel
theorem d_TC_declare_10 : decode b_TC_declare 10 = .ok (.ireturn, 1) := by decide +kernel
theorem d_TC_declare_11 : decode b_TC_declare 11 = .ok (.aload_n 0, 1) := by decide +kernel
theorem d_TC_declare_12 : decode b_TC_declare 12 = .ok (.getfield 10, 3) := by decide +kernel
theorem d_TC_declare_15 : decode b_TC_declare 15 = .ok (.iload_n 1, 1) := by decide +kernel
theorem d_TC_declare_16 : decode b_TC_declare 16 = .ok (.invokevirtual 44, 3) := by decide +kernel
theorem d_TC_declare_19 : decode b_TC_declare 19 = .ok (.iconst 1, 1) := by decide +kernel
theorem d_TC_declare_20 : decode b_TC_declare 20 = .ok (.ireturn, 1) := by decide +kernel
def f_TC_declare (a1 : Int32) (S : zSt) : Option (Int32 × zSt) := (if a1 < 0 then (gdb 0 (some (0, S))) else (if a1 ≤ 4 then ((f_Declaration_begin a1 S).bind fun u1 => (gdb 1 (some (1, u1)))) else (gdb 0 (some (0, S)))))
set_option maxHeartbeats 4000000 in
set_option maxRecDepth 100000 in
theorem c_TC_declare (l : Launch) (g : zG) (hD : GD g) (a1 : Int32) (S : zSt) (u : (Int32 × zSt)) (h : f_TC_declare a1 S = some u) : Met l y_TC_declare (mw y_TC_declare b_TC_declare 2 (some .boolean)) (rmD 1) (Pw g [.ref (ga g 0), .int a1] S) (Qis g u) 0 0 (gA g) := by
  refine z_go (own := R_TC) (lv0 := [(0, .ref (ga g 0)), (1, .int a1)]) hD (by decide) rfl (Nat.le_of_ble_eq_true rfl) rfl ?_
  intro p e s m args below meth c C D ls hl
  have hx := C.1
  have hb := C.2.1
  have hown := C.2.2.2.1
  have hts := C.2.2.2.2.1
  unfold f_TC_declare at h
  refine lv_iload_n hx hb d_TC_declare_0 rfl (lv_at hl 1 rfl) ?_
  refine lv_if_lt hx hb d_TC_declare_1 rfl (fun z => ?_) (fun z => ?_)
  · replace h := if_t z h
    refine lv_iconst (v := 0) hx hb d_TC_declare_9 (by decide) ?_
    exact x_zrs C D h d_TC_declare_10
  · replace h := if_f z h
    refine lv_iload_n hx hb d_TC_declare_4 rfl (lv_at hl 1 rfl) ?_
    refine lv_iconst (v := 4) hx hb d_TC_declare_5 (by decide) ?_
    refine lv_icmp_le hx hb d_TC_declare_6 rfl (fun z => ?_) (fun z => ?_)
    · replace h := if_t z h
      refine lv_aload_n hx hb d_TC_declare_11 rfl (lv_at hl 0 rfl) ?_
      refine x_get (v := .ref (ga g 1)) C D kc_TC (by decide) sh_0 0 rfl (by decide) wf_TC_10 rfl rfl d_TC_declare_12 ?_
      refine lv_iload_n hx hb d_TC_declare_15 rfl (lv_at hl 1 rfl) ?_
      obtain ⟨u1, hu1, h⟩ := bd_some h
      refine x_cvs (rest := []) (r_V C D (c_Declaration_begin l g hD a1 S u1 hu1) wc_Declaration_begin wm_TC_44 wi_Declaration_begin wd_Declaration_begin (by decide) sh_1 kc_Declaration.1 rfl rfl hl (Nat.le_of_ble_eq_true rfl) (by decide) d_TC_declare_16) D (fun H locs D => ?_)
      refine lv_iconst (v := 1) hx hb d_TC_declare_19 (by decide) ?_
      exact x_zrs C D h d_TC_declare_20
    · replace h := if_f z h
      refine lv_iconst (v := 0) hx hb d_TC_declare_9 (by decide) ?_
      exact x_zrs C D h d_TC_declare_10
theorem d_TC_template_0 : decode b_TC_template 0 = .ok (.aload_n 0, 1) := by decide +kernel
theorem d_TC_template_1 : decode b_TC_template 1 = .ok (.getfield 10, 3) := by decide +kernel
theorem d_TC_template_4 : decode b_TC_template 4 = .ok (.getfield 47, 3) := by decide +kernel
theorem d_TC_template_7 : decode b_TC_template 7 = .ok (.iload_n 1, 1) := by decide +kernel
theorem d_TC_template_8 : decode b_TC_template 8 = .ok (.invokevirtual 51, 3) := by decide +kernel
theorem d_TC_template_11 : decode b_TC_template 11 = .ok (.ireturn, 1) := by decide +kernel
def f_TC_template (a1 : Int32) (S : zSt) : Option (Int32 × zSt) := ((f_PathTemplate_add a1 S).bind fun u1 => (gdb u1.1 (some (u1.1, u1.2))))
set_option maxHeartbeats 4000000 in
set_option maxRecDepth 100000 in
theorem c_TC_template (l : Launch) (g : zG) (hD : GD g) (a1 : Int32) (S : zSt) (u : (Int32 × zSt)) (h : f_TC_template a1 S = some u) : Met l y_TC_template (mw y_TC_template b_TC_template 2 (some .boolean)) (rmD 1) (Pw g [.ref (ga g 0), .int a1] S) (Qis g u) 0 0 (gA g) := by
  refine z_go (own := R_TC) (lv0 := [(0, .ref (ga g 0)), (1, .int a1)]) hD (by decide) rfl (Nat.le_of_ble_eq_true rfl) rfl ?_
  intro p e s m args below meth c C D ls hl
  have hx := C.1
  have hb := C.2.1
  have hown := C.2.2.2.1
  have hts := C.2.2.2.2.1
  unfold f_TC_template at h
  refine lv_aload_n hx hb d_TC_template_0 rfl (lv_at hl 0 rfl) ?_
  refine x_get (v := .ref (ga g 1)) C D kc_TC (by decide) sh_0 0 rfl (by decide) wf_TC_10 rfl rfl d_TC_template_1 ?_
  refine x_getN (v := .ref (ga g 2)) C D kc_Declaration (by decide) sh_1 0 rfl (by decide) nf_TC_47 rfl rfl d_TC_template_4 ?_
  refine lv_iload_n hx hb d_TC_template_7 rfl (lv_at hl 1 rfl) ?_
  obtain ⟨u1, hu1, h⟩ := bd_some h
  refine x_cis (rest := []) (r_V C D (c_PathTemplate_add l g hD a1 S u1 hu1) wc_PathTemplate_add wm_TC_51 wi_PathTemplate_add wd_PathTemplate_add (by decide) sh_2 kc_PathTemplate.1 rfl rfl hl (Nat.le_of_ble_eq_true rfl) (by decide) d_TC_template_8) D (fun H locs D => ?_)
  exact x_zrs C D h d_TC_template_11
theorem d_TC_item_0 : decode b_TC_item 0 = .ok (.aload_n 0, 1) := by decide +kernel
theorem d_TC_item_1 : decode b_TC_item 1 = .ok (.getfield 10, 3) := by decide +kernel
theorem d_TC_item_4 : decode b_TC_item 4 = .ok (.iload_n 1, 1) := by decide +kernel
theorem d_TC_item_5 : decode b_TC_item 5 = .ok (.invokevirtual 72, 3) := by decide +kernel
theorem d_TC_item_8 : decode b_TC_item 8 = .ok (.astore_n 2, 1) := by decide +kernel
theorem d_TC_item_9 : decode b_TC_item 9 = .ok (.aload_n 2, 1) := by decide +kernel
theorem d_TC_item_10 : decode b_TC_item 10 = .ok (.ifnull 14, 3) := by decide +kernel
theorem d_TC_item_13 : decode b_TC_item 13 = .ok (.aload_n 2, 1) := by decide +kernel
theorem d_TC_item_14 : decode b_TC_item 14 = .ok (.invokevirtual 76, 3) := by decide +kernel
theorem d_TC_item_17 : decode b_TC_item 17 = .ok (.ifCond .eq 7, 3) := by decide +kernel
theorem d_TC_item_20 : decode b_TC_item 20 = .ok (.iconst 1, 1) := by decide +kernel
theorem d_TC_item_21 : decode b_TC_item 21 = .ok (.goto 4, 3) := by decide +kernel
theorem d_TC_item_24 : decode b_TC_item 24 = .ok (.iconst 0, 1) := by decide +kernel
theorem d_TC_item_25 : decode b_TC_item 25 = .ok (.ireturn, 1) := by decide +kernel
def f_TC_item_24 (S : zSt) : Option (Int32 × zSt) := (gdb 0 (some (0, S)))
def f_TC_item (a1 : Int32) (S : zSt) : Option (Int32 × zSt) := ((f_Declaration_parameterAt a1 S).bind fun u1 => match u1 with | none => (f_TC_item_24 S) | some k2 => gdn k2 6 (((f_Parameter_addItem k2 S).bind fun u3 => (if u3.1 = 0 then (f_TC_item_24 u3.2) else (gdb 1 (some (1, u3.2)))))))
set_option maxHeartbeats 4000000 in
set_option maxRecDepth 100000 in
theorem c_TC_item (l : Launch) (g : zG) (hD : GD g) (a1 : Int32) (S : zSt) (u : (Int32 × zSt)) (h : f_TC_item a1 S = some u) : Met l y_TC_item (mw y_TC_item b_TC_item 3 (some .boolean)) (rmD 1) (Pw g [.ref (ga g 0), .int a1] S) (Qis g u) 0 0 (gA g) := by
  refine z_go (own := R_TC) (lv0 := [(0, .ref (ga g 0)), (1, .int a1)]) hD (by decide) rfl (Nat.le_of_ble_eq_true rfl) rfl ?_
  intro p e s m args below meth c C D ls hl
  have hx := C.1
  have hb := C.2.1
  have hown := C.2.2.2.1
  have hts := C.2.2.2.2.1
  have B24 : ∀ (H : Heap) (locs : List Loc) (S : zSt) (ls : Array Slot), f_TC_item_24 S = some u → Dy g s S H locs → lv_has ls 3 [] → W p l e (rmD 1) s m args below meth c H locs 0 0 (MQ below (Qis g u) args s 0 0 (gA g)) (F0 m 24 ls []) := by
    intro H locs S ls h D hl
    unfold f_TC_item_24 at h
    refine lv_iconst (v := 0) hx hb d_TC_item_24 (by decide) ?_
    exact x_zrs C D h d_TC_item_25
  unfold f_TC_item at h
  refine lv_aload_n hx hb d_TC_item_0 rfl (lv_at hl 0 rfl) ?_
  refine x_get (v := .ref (ga g 1)) C D kc_TC (by decide) sh_0 0 rfl (by decide) wf_TC_10 rfl rfl d_TC_item_1 ?_
  refine lv_iload_n hx hb d_TC_item_4 rfl (lv_at hl 1 rfl) ?_
  obtain ⟨u1, hu1, h⟩ := bd_some h
  refine x_cqp (rest := []) (r_V C D (c_Declaration_parameterAt l g hD a1 S u1 hu1) wc_Declaration_parameterAt wm_TC_72 wi_Declaration_parameterAt wd_Declaration_parameterAt (by decide) sh_1 kc_Declaration.1 rfl rfl hl (Nat.le_of_ble_eq_true rfl) (by decide) d_TC_item_5) D (fun H locs D => ?_)
  cases u1 with
  | none =>
    refine lv_astore_nN (lv' := [(2, .null), (0, .ref (ga g 0)), (1, .int a1)]) hx hb d_TC_item_8 rfl hl (by decide) rfl (fun ls hl => ?_)
    refine lv_aload_nN hx hb d_TC_item_9 rfl (lv_at hl 0 rfl) ?_
    refine lv_ifnullN hx hb d_TC_item_10 rfl ?_
    exact B24 _ _ _ _ h D (lv_sub hl [] rfl)
  | some k2 =>
    obtain ⟨hk2, h⟩ := gdn_some h
    refine lv_astore_n (lv' := [(2, .ref (ga g (10 + k2))), (0, .ref (ga g 0)), (1, .int a1)]) hx hb d_TC_item_8 rfl hl (by decide) rfl (fun ls hl => ?_)
    refine lv_aload_n hx hb d_TC_item_9 rfl (lv_at hl 0 rfl) ?_
    refine lv_ifnull hx hb d_TC_item_10 ?_
    refine lv_aload_n hx hb d_TC_item_13 rfl (lv_at hl 0 rfl) ?_
    obtain ⟨u3, hu3, h⟩ := bd_some h
    refine x_cis (rest := []) (r_V C D (c_Parameter_addItem l g hD k2 hk2 S u3 hu3) wc_Parameter_addItem wm_TC_76 wi_Parameter_addItem wd_Parameter_addItem (nP hk2) (sh_P hk2) kc_Parameter.1 rfl rfl hl (Nat.le_of_ble_eq_true rfl) (by decide) d_TC_item_14) D (fun H locs D => ?_)
    refine lv_if_eq hx hb d_TC_item_17 rfl (fun z => ?_) (fun z => ?_)
    · replace h := if_t z h
      exact B24 _ _ _ _ h D (lv_sub hl [] rfl)
    · replace h := if_f z h
      refine lv_iconst (v := 1) hx hb d_TC_item_20 (by decide) ?_
      refine lv_goto hx hb d_TC_item_21 rfl ?_
      exact x_zrs C D h d_TC_item_25
theorem d_TC_empty_0 : decode b_TC_empty 0 = .ok (.aload_n 0, 1) := by decide +kernel
theorem d_TC_empty_1 : decode b_TC_empty 1 = .ok (.getfield 10, 3) := by decide +kernel
theorem d_TC_empty_4 : decode b_TC_empty 4 = .ok (.iload_n 1, 1) := by decide +kernel
theorem d_TC_empty_5 : decode b_TC_empty 5 = .ok (.invokevirtual 72, 3) := by decide +kernel
theorem d_TC_empty_8 : decode b_TC_empty 8 = .ok (.astore_n 2, 1) := by decide +kernel
theorem d_TC_empty_9 : decode b_TC_empty 9 = .ok (.aload_n 2, 1) := by decide +kernel
theorem d_TC_empty_10 : decode b_TC_empty 10 = .ok (.ifnonnull 5, 3) := by decide +kernel
theorem d_TC_empty_13 : decode b_TC_empty 13 = .ok (.iconst 0, 1) := by decide +kernel
theorem d_TC_empty_14 : decode b_TC_empty 14 = .ok (.ireturn, 1) := by decide +kernel
theorem d_TC_empty_15 : decode b_TC_empty 15 = .ok (.aload_n 2, 1) := by decide +kernel
theorem d_TC_empty_16 : decode b_TC_empty 16 = .ok (.invokevirtual 83, 3) := by decide +kernel
theorem d_TC_empty_19 : decode b_TC_empty 19 = .ok (.iconst 1, 1) := by decide +kernel
theorem d_TC_empty_20 : decode b_TC_empty 20 = .ok (.ireturn, 1) := by decide +kernel
def f_TC_empty (a1 : Int32) (S : zSt) : Option (Int32 × zSt) := ((f_Declaration_parameterAt a1 S).bind fun u1 => match u1 with | none => (gdb 0 (some (0, S))) | some k2 => gdn k2 6 (((f_Parameter_dropItems k2 S).bind fun u3 => (gdb 1 (some (1, u3))))))
set_option maxHeartbeats 4000000 in
set_option maxRecDepth 100000 in
theorem c_TC_empty (l : Launch) (g : zG) (hD : GD g) (a1 : Int32) (S : zSt) (u : (Int32 × zSt)) (h : f_TC_empty a1 S = some u) : Met l y_TC_empty (mw y_TC_empty b_TC_empty 3 (some .boolean)) (rmD 1) (Pw g [.ref (ga g 0), .int a1] S) (Qis g u) 0 0 (gA g) := by
  refine z_go (own := R_TC) (lv0 := [(0, .ref (ga g 0)), (1, .int a1)]) hD (by decide) rfl (Nat.le_of_ble_eq_true rfl) rfl ?_
  intro p e s m args below meth c C D ls hl
  have hx := C.1
  have hb := C.2.1
  have hown := C.2.2.2.1
  have hts := C.2.2.2.2.1
  unfold f_TC_empty at h
  refine lv_aload_n hx hb d_TC_empty_0 rfl (lv_at hl 0 rfl) ?_
  refine x_get (v := .ref (ga g 1)) C D kc_TC (by decide) sh_0 0 rfl (by decide) wf_TC_10 rfl rfl d_TC_empty_1 ?_
  refine lv_iload_n hx hb d_TC_empty_4 rfl (lv_at hl 1 rfl) ?_
  obtain ⟨u1, hu1, h⟩ := bd_some h
  refine x_cqp (rest := []) (r_V C D (c_Declaration_parameterAt l g hD a1 S u1 hu1) wc_Declaration_parameterAt wm_TC_72 wi_Declaration_parameterAt wd_Declaration_parameterAt (by decide) sh_1 kc_Declaration.1 rfl rfl hl (Nat.le_of_ble_eq_true rfl) (by decide) d_TC_empty_5) D (fun H locs D => ?_)
  cases u1 with
  | none =>
    refine lv_astore_nN (lv' := [(2, .null), (0, .ref (ga g 0)), (1, .int a1)]) hx hb d_TC_empty_8 rfl hl (by decide) rfl (fun ls hl => ?_)
    refine lv_aload_nN hx hb d_TC_empty_9 rfl (lv_at hl 0 rfl) ?_
    refine lv_ifnonnullN hx hb d_TC_empty_10 ?_
    refine lv_iconst (v := 0) hx hb d_TC_empty_13 (by decide) ?_
    exact x_zrs C D h d_TC_empty_14
  | some k2 =>
    obtain ⟨hk2, h⟩ := gdn_some h
    refine lv_astore_n (lv' := [(2, .ref (ga g (10 + k2))), (0, .ref (ga g 0)), (1, .int a1)]) hx hb d_TC_empty_8 rfl hl (by decide) rfl (fun ls hl => ?_)
    refine lv_aload_n hx hb d_TC_empty_9 rfl (lv_at hl 0 rfl) ?_
    refine lv_ifnonnull hx hb d_TC_empty_10 rfl ?_
    refine lv_aload_n hx hb d_TC_empty_15 rfl (lv_at hl 0 rfl) ?_
    obtain ⟨u3, hu3, h⟩ := bd_some h
    refine x_cvs (rest := []) (r_V C D (c_Parameter_dropItems l g hD k2 hk2 S u3 hu3) wc_Parameter_dropItems wm_TC_83 wi_Parameter_dropItems wd_Parameter_dropItems (nP hk2) (sh_P hk2) kc_Parameter.1 rfl rfl hl (Nat.le_of_ble_eq_true rfl) (by decide) d_TC_empty_16) D (fun H locs D => ?_)
    refine lv_iconst (v := 1) hx hb d_TC_empty_19 (by decide) ?_
    exact x_zrs C D h d_TC_empty_20
theorem d_TC_sent_0 : decode b_TC_sent 0 = .ok (.aload_n 0, 1) := by decide +kernel
theorem d_TC_sent_1 : decode b_TC_sent 1 = .ok (.getfield 37, 3) := by decide +kernel
theorem d_TC_sent_4 : decode b_TC_sent 4 = .ok (.iload_n 1, 1) := by decide +kernel
theorem d_TC_sent_5 : decode b_TC_sent 5 = .ok (.invokevirtual 97, 3) := by decide +kernel
theorem d_TC_sent_8 : decode b_TC_sent 8 = .ok (.ireturn, 1) := by decide +kernel
def f_TC_sent (a1 : Int32) (S : zSt) : Option Int32 := gdn (S 0 3).toNatClampNeg 4 (((f_ByteRow_at (S 0 3).toNatClampNeg a1 S).bind fun u2 => (some u2)))
set_option maxHeartbeats 4000000 in
set_option maxRecDepth 100000 in
theorem c_TC_sent (l : Launch) (g : zG) (hD : GD g) (a1 : Int32) (S : zSt) (u : Int32) (h : f_TC_sent a1 S = some u) : Met l y_TC_sent (mw y_TC_sent b_TC_sent 2 (some .int)) (rmD 1) (Pw g [.ref (ga g 0), .int a1] S) (Qip g S u) 0 0 (gA g) := by
  refine z_go (own := R_TC) (lv0 := [(0, .ref (ga g 0)), (1, .int a1)]) hD (by decide) rfl (Nat.le_of_ble_eq_true rfl) rfl ?_
  intro p e s m args below meth c C D ls hl
  have hx := C.1
  have hb := C.2.1
  have hown := C.2.2.2.1
  have hts := C.2.2.2.2.1
  unfold f_TC_sent at h
  refine lv_aload_n hx hb d_TC_sent_0 rfl (lv_at hl 0 rfl) ?_
  refine x_get (v := .ref (ga g (58 + (S 0 3).toNatClampNeg))) C D kc_TC (by decide) sh_0 3 rfl (by decide) wf_TC_37 rfl rfl d_TC_sent_1 ?_
  obtain ⟨q1, h⟩ := gdn_some h
  refine lv_iload_n hx hb d_TC_sent_4 rfl (lv_at hl 1 rfl) ?_
  obtain ⟨u2, hu2, h⟩ := bd_some h
  refine x_cip (rest := []) (r_V C D (c_ByteRow_at l g hD (S 0 3).toNatClampNeg q1 a1 S u2 hu2) wc_ByteRow_at wm_TC_97 wi_ByteRow_at wd_ByteRow_at (nR q1) (sh_R q1) kc_ByteRow.1 rfl rfl hl (Nat.le_of_ble_eq_true rfl) (by decide) d_TC_sent_5) D (fun H locs D => ?_)
  exact x_irp C D h d_TC_sent_8
theorem d_TC_close_0 : decode b_TC_close 0 = .ok (.aload_n 0, 1) := by decide +kernel
theorem d_TC_close_1 : decode b_TC_close 1 = .ok (.getfield 28, 3) := by decide +kernel
theorem d_TC_close_4 : decode b_TC_close 4 = .ok (.invokevirtual 111, 3) := by decide +kernel
theorem d_TC_close_7 : decode b_TC_close 7 = .ok (.aload_n 0, 1) := by decide +kernel
theorem d_TC_close_8 : decode b_TC_close 8 = .ok (.getfield 28, 3) := by decide +kernel
theorem d_TC_close_11 : decode b_TC_close 11 = .ok (.getfield 108, 3) := by decide +kernel
theorem d_TC_close_14 : decode b_TC_close 14 = .ok (.ireturn, 1) := by decide +kernel
def f_TC_close (S : zSt) : Option (Int32 × zSt) := ((f_Reader_end S).bind fun u1 => (some ((u1 6 3), u1)))
set_option maxHeartbeats 4000000 in
set_option maxRecDepth 100000 in
theorem c_TC_close (l : Launch) (g : zG) (hD : GD g) (S : zSt) (u : (Int32 × zSt)) (h : f_TC_close S = some u) : Met l y_TC_close (mw y_TC_close b_TC_close 1 (some .int)) (rmD 1) (Pw g [.ref (ga g 0)] S) (Qis g u) 0 0 (gA g) := by
  refine z_go (own := R_TC) (lv0 := [(0, .ref (ga g 0))]) hD (by decide) rfl (Nat.le_of_ble_eq_true rfl) rfl ?_
  intro p e s m args below meth c C D ls hl
  have hx := C.1
  have hb := C.2.1
  have hown := C.2.2.2.1
  have hts := C.2.2.2.2.1
  unfold f_TC_close at h
  refine lv_aload_n hx hb d_TC_close_0 rfl (lv_at hl 0 rfl) ?_
  refine x_get (v := .ref (ga g 6)) C D kc_TC (by decide) sh_0 2 rfl (by decide) wf_TC_28 rfl rfl d_TC_close_1 ?_
  obtain ⟨u1, hu1, h⟩ := bd_some h
  refine x_cvs (rest := []) (r_V C D (c_Reader_end l g hD S u1 hu1) wc_Reader_end wm_TC_111 wi_Reader_end wd_Reader_end (by decide) sh_6 kc_Reader.1 rfl rfl hl (Nat.le_of_ble_eq_true rfl) (by decide) d_TC_close_4) D (fun H locs D => ?_)
  refine lv_aload_n hx hb d_TC_close_7 rfl (lv_at hl 0 rfl) ?_
  refine x_get (v := .ref (ga g 6)) C D kc_TC (by decide) sh_0 2 rfl (by decide) wf_TC_28 rfl rfl d_TC_close_8 ?_
  refine x_getN (v := .int (u1 6 3)) C D kc_Reader (by decide) sh_6 3 rfl (by decide) nf_TC_108 rfl rfl d_TC_close_11 ?_
  exact x_irs C D h d_TC_close_14
theorem d_TC_content_0 : decode b_TC_content 0 = .ok (.aload_n 0, 1) := by decide +kernel
theorem d_TC_content_1 : decode b_TC_content 1 = .ok (.getfield 28, 3) := by decide +kernel
theorem d_TC_content_4 : decode b_TC_content 4 = .ok (.getfield 129, 3) := by decide +kernel
theorem d_TC_content_7 : decode b_TC_content 7 = .ok (.iload_n 1, 1) := by decide +kernel
theorem d_TC_content_8 : decode b_TC_content 8 = .ok (.invokevirtual 97, 3) := by decide +kernel
theorem d_TC_content_11 : decode b_TC_content 11 = .ok (.ireturn, 1) := by decide +kernel
def f_TC_content (a1 : Int32) (S : zSt) : Option Int32 := ((f_ByteRow_at 3 a1 S).bind fun u1 => (some u1))
set_option maxHeartbeats 4000000 in
set_option maxRecDepth 100000 in
theorem c_TC_content (l : Launch) (g : zG) (hD : GD g) (a1 : Int32) (S : zSt) (u : Int32) (h : f_TC_content a1 S = some u) : Met l y_TC_content (mw y_TC_content b_TC_content 2 (some .int)) (rmD 1) (Pw g [.ref (ga g 0), .int a1] S) (Qip g S u) 0 0 (gA g) := by
  refine z_go (own := R_TC) (lv0 := [(0, .ref (ga g 0)), (1, .int a1)]) hD (by decide) rfl (Nat.le_of_ble_eq_true rfl) rfl ?_
  intro p e s m args below meth c C D ls hl
  have hx := C.1
  have hb := C.2.1
  have hown := C.2.2.2.1
  have hts := C.2.2.2.2.1
  unfold f_TC_content at h
  refine lv_aload_n hx hb d_TC_content_0 rfl (lv_at hl 0 rfl) ?_
  refine x_get (v := .ref (ga g 6)) C D kc_TC (by decide) sh_0 2 rfl (by decide) wf_TC_28 rfl rfl d_TC_content_1 ?_
  refine x_getN (v := .ref (ga g (58 + 3))) C D kc_Reader (by decide) sh_6 2 rfl (by decide) nf_TC_129 rfl rfl d_TC_content_4 ?_
  refine lv_iload_n hx hb d_TC_content_7 rfl (lv_at hl 1 rfl) ?_
  obtain ⟨u1, hu1, h⟩ := bd_some h
  refine x_cip (rest := []) (r_V C D (c_ByteRow_at l g hD 3 (by decide) a1 S u1 hu1) wc_ByteRow_at wm_TC_97 wi_ByteRow_at wd_ByteRow_at (nR (by decide)) (sh_R (by decide)) kc_ByteRow.1 rfl rfl hl (Nat.le_of_ble_eq_true rfl) (by decide) d_TC_content_8) D (fun H locs D => ?_)
  exact x_irp C D h d_TC_content_11
theorem d_TC_parameter_0 : decode b_TC_parameter 0 = .ok (.iload_n 1, 1) := by decide +kernel
theorem d_TC_parameter_1 : decode b_TC_parameter 1 = .ok (.ifCond .lt 15, 3) := by decide +kernel
theorem d_TC_parameter_4 : decode b_TC_parameter 4 = .ok (.iload_n 1, 1) := by decide +kernel
theorem d_TC_parameter_5 : decode b_TC_parameter 5 = .ok (.iconst 5, 1) := by decide +kernel
theorem d_TC_parameter_6 : decode b_TC_parameter 6 = .ok (.if_icmp .gt 10, 3) := by decide +kernel
theorem d_TC_parameter_9 : decode b_TC_parameter 9 = .ok (.iload_n 2, 1) := by decide +kernel
theorem d_TC_parameter_10 : decode b_TC_parameter 10 = .ok (.invokestatic 59, 3) := by decide +kernel
theorem d_TC_parameter_13 : decode b_TC_parameter 13 = .ok (.ifCond .ne 6, 3) := by decide +kernel
theorem d_TC_parameter_16 : decode b_TC_parameter 16 = .ok (.bipush (-11), 2) := by decide +kernel
theorem d_TC_parameter_18 : decode b_TC_parameter 18 = .ok (.ireturn, 1) := by decide +kernel
theorem d_TC_parameter_19 : decode b_TC_parameter 19 = .ok (.aload_n 0, 1) := by decide +kernel
theorem d_TC_parameter_20 : decode b_TC_parameter 20 = .ok (.getfield 10, 3) := by decide +kernel
theorem d_TC_parameter_23 : decode b_TC_parameter 23 = .ok (.iload_n 1, 1) := by decide +kernel
theorem d_TC_parameter_24 : decode b_TC_parameter 24 = .ok (.iload_n 2, 1) := by decide +kernel
theorem d_TC_parameter_25 : decode b_TC_parameter 25 = .ok (.invokevirtual 64, 3) := by decide +kernel
theorem d_TC_parameter_28 : decode b_TC_parameter 28 = .ok (.ireturn, 1) := by decide +kernel
def f_TC_parameter (a1 : Int32) (a2 : Int32) (S : zSt) : Option (Int32 × zSt) := (if a1 < 0 then (some ((-11), S)) else (if 5 < a1 then (some ((-11), S)) else ((f_Chars_isSmall a2 S).bind fun u1 => (if u1 = 0 then (some ((-11), S)) else ((f_Declaration_addParameter a1 a2 S).bind fun u2 => (some (u2.1, u2.2)))))))
set_option maxHeartbeats 4000000 in
set_option maxRecDepth 100000 in
theorem c_TC_parameter (l : Launch) (g : zG) (hD : GD g) (a1 : Int32) (a2 : Int32) (S : zSt) (u : (Int32 × zSt)) (h : f_TC_parameter a1 a2 S = some u) : Met l y_TC_parameter (mw y_TC_parameter b_TC_parameter 3 (some .int)) (rmD 2) (Pw g [.ref (ga g 0), .int a1, .int a2] S) (Qis g u) 0 0 (gA g) := by
  refine z_go (own := R_TC) (lv0 := [(0, .ref (ga g 0)), (1, .int a1), (2, .int a2)]) hD (by decide) rfl (Nat.le_of_ble_eq_true rfl) rfl ?_
  intro p e s m args below meth c C D ls hl
  have hx := C.1
  have hb := C.2.1
  have hown := C.2.2.2.1
  have hts := C.2.2.2.2.1
  unfold f_TC_parameter at h
  refine lv_iload_n hx hb d_TC_parameter_0 rfl (lv_at hl 1 rfl) ?_
  refine lv_if_lt hx hb d_TC_parameter_1 rfl (fun z => ?_) (fun z => ?_)
  · replace h := if_t z h
    refine lv_bipush (v := (-11)) hx hb d_TC_parameter_16 (by decide) ?_
    exact x_irs C D h d_TC_parameter_18
  · replace h := if_f z h
    refine lv_iload_n hx hb d_TC_parameter_4 rfl (lv_at hl 1 rfl) ?_
    refine lv_iconst (v := 5) hx hb d_TC_parameter_5 (by decide) ?_
    refine lv_icmp_gt hx hb d_TC_parameter_6 rfl (fun z => ?_) (fun z => ?_)
    · replace h := if_t z h
      refine lv_bipush (v := (-11)) hx hb d_TC_parameter_16 (by decide) ?_
      exact x_irs C D h d_TC_parameter_18
    · replace h := if_f z h
      refine lv_iload_n hx hb d_TC_parameter_9 rfl (lv_at hl 2 rfl) ?_
      obtain ⟨u1, hu1, h⟩ := bd_some h
      refine x_cip (rest := []) (r_S C D (c_Chars_isSmall l g hD a2 S u1 hu1) wc_Chars_isSmall wm_TC_59 wt_Chars_isSmall wd_Chars_isSmall rfl rfl hl (Nat.le_of_ble_eq_true rfl) (by decide) d_TC_parameter_10) D (fun H locs D => ?_)
      refine lv_if_ne hx hb d_TC_parameter_13 rfl (fun z => ?_) (fun z => ?_)
      · replace h := if_f z h
        refine lv_aload_n hx hb d_TC_parameter_19 rfl (lv_at hl 0 rfl) ?_
        refine x_get (v := .ref (ga g 1)) C D kc_TC (by decide) sh_0 0 rfl (by decide) wf_TC_10 rfl rfl d_TC_parameter_20 ?_
        refine lv_iload_n hx hb d_TC_parameter_23 rfl (lv_at hl 1 rfl) ?_
        refine lv_iload_n hx hb d_TC_parameter_24 rfl (lv_at hl 2 rfl) ?_
        obtain ⟨u2, hu2, h⟩ := bd_some h
        refine x_cis (rest := []) (r_V C D (c_Declaration_addParameter l g hD a1 a2 S u2 hu2) wc_Declaration_addParameter wm_TC_64 wi_Declaration_addParameter wd_Declaration_addParameter (by decide) sh_1 kc_Declaration.1 rfl rfl hl (Nat.le_of_ble_eq_true rfl) (by decide) d_TC_parameter_25) D (fun H locs D => ?_)
        exact x_irs C D h d_TC_parameter_28
      · replace h := if_t z h
        refine lv_bipush (v := (-11)) hx hb d_TC_parameter_16 (by decide) ?_
        exact x_irs C D h d_TC_parameter_18
theorem d_TC_write_0 : decode b_TC_write 0 = .ok (.aload_n 0, 1) := by decide +kernel
theorem d_TC_write_1 : decode b_TC_write 1 = .ok (.getfield 10, 3) := by decide +kernel
theorem d_TC_write_4 : decode b_TC_write 4 = .ok (.iload_n 1, 1) := by decide +kernel
theorem d_TC_write_5 : decode b_TC_write 5 = .ok (.invokevirtual 72, 3) := by decide +kernel
theorem d_TC_write_8 : decode b_TC_write 8 = .ok (.astore_n 3, 1) := by decide +kernel
theorem d_TC_write_9 : decode b_TC_write 9 = .ok (.aload_n 3, 1) := by decide +kernel
theorem d_TC_write_10 : decode b_TC_write 10 = .ok (.ifnull 15, 3) := by decide +kernel
theorem d_TC_write_13 : decode b_TC_write 13 = .ok (.aload_n 3, 1) := by decide +kernel
theorem d_TC_write_14 : decode b_TC_write 14 = .ok (.iload_n 2, 1) := by decide +kernel
theorem d_TC_write_15 : decode b_TC_write 15 = .ok (.invokevirtual 80, 3) := by decide +kernel
theorem d_TC_write_18 : decode b_TC_write 18 = .ok (.ifCond .eq 7, 3) := by decide +kernel
theorem d_TC_write_21 : decode b_TC_write 21 = .ok (.iconst 1, 1) := by decide +kernel
theorem d_TC_write_22 : decode b_TC_write 22 = .ok (.goto 4, 3) := by decide +kernel
theorem d_TC_write_25 : decode b_TC_write 25 = .ok (.iconst 0, 1) := by decide +kernel
theorem d_TC_write_26 : decode b_TC_write 26 = .ok (.ireturn, 1) := by decide +kernel
def f_TC_write_25 (S : zSt) : Option (Int32 × zSt) := (gdb 0 (some (0, S)))
def f_TC_write (a1 : Int32) (a2 : Int32) (S : zSt) : Option (Int32 × zSt) := ((f_Declaration_parameterAt a1 S).bind fun u1 => match u1 with | none => (f_TC_write_25 S) | some k2 => gdn k2 6 (((f_Parameter_addChar k2 a2 S).bind fun u3 => (if u3.1 = 0 then (f_TC_write_25 u3.2) else (gdb 1 (some (1, u3.2)))))))
set_option maxHeartbeats 4000000 in
set_option maxRecDepth 100000 in
theorem c_TC_write (l : Launch) (g : zG) (hD : GD g) (a1 : Int32) (a2 : Int32) (S : zSt) (u : (Int32 × zSt)) (h : f_TC_write a1 a2 S = some u) : Met l y_TC_write (mw y_TC_write b_TC_write 4 (some .boolean)) (rmD 2) (Pw g [.ref (ga g 0), .int a1, .int a2] S) (Qis g u) 0 0 (gA g) := by
  refine z_go (own := R_TC) (lv0 := [(0, .ref (ga g 0)), (1, .int a1), (2, .int a2)]) hD (by decide) rfl (Nat.le_of_ble_eq_true rfl) rfl ?_
  intro p e s m args below meth c C D ls hl
  have hx := C.1
  have hb := C.2.1
  have hown := C.2.2.2.1
  have hts := C.2.2.2.2.1
  have B25 : ∀ (H : Heap) (locs : List Loc) (S : zSt) (ls : Array Slot), f_TC_write_25 S = some u → Dy g s S H locs → lv_has ls 4 [] → W p l e (rmD 2) s m args below meth c H locs 0 0 (MQ below (Qis g u) args s 0 0 (gA g)) (F0 m 25 ls []) := by
    intro H locs S ls h D hl
    unfold f_TC_write_25 at h
    refine lv_iconst (v := 0) hx hb d_TC_write_25 (by decide) ?_
    exact x_zrs C D h d_TC_write_26
  unfold f_TC_write at h
  refine lv_aload_n hx hb d_TC_write_0 rfl (lv_at hl 0 rfl) ?_
  refine x_get (v := .ref (ga g 1)) C D kc_TC (by decide) sh_0 0 rfl (by decide) wf_TC_10 rfl rfl d_TC_write_1 ?_
  refine lv_iload_n hx hb d_TC_write_4 rfl (lv_at hl 1 rfl) ?_
  obtain ⟨u1, hu1, h⟩ := bd_some h
  refine x_cqp (rest := []) (r_V C D (c_Declaration_parameterAt l g hD a1 S u1 hu1) wc_Declaration_parameterAt wm_TC_72 wi_Declaration_parameterAt wd_Declaration_parameterAt (by decide) sh_1 kc_Declaration.1 rfl rfl hl (Nat.le_of_ble_eq_true rfl) (by decide) d_TC_write_5) D (fun H locs D => ?_)
  cases u1 with
  | none =>
    refine lv_astore_nN (lv' := [(3, .null), (0, .ref (ga g 0)), (1, .int a1), (2, .int a2)]) hx hb d_TC_write_8 rfl hl (by decide) rfl (fun ls hl => ?_)
    refine lv_aload_nN hx hb d_TC_write_9 rfl (lv_at hl 0 rfl) ?_
    refine lv_ifnullN hx hb d_TC_write_10 rfl ?_
    exact B25 _ _ _ _ h D (lv_sub hl [] rfl)
  | some k2 =>
    obtain ⟨hk2, h⟩ := gdn_some h
    refine lv_astore_n (lv' := [(3, .ref (ga g (10 + k2))), (0, .ref (ga g 0)), (1, .int a1), (2, .int a2)]) hx hb d_TC_write_8 rfl hl (by decide) rfl (fun ls hl => ?_)
    refine lv_aload_n hx hb d_TC_write_9 rfl (lv_at hl 0 rfl) ?_
    refine lv_ifnull hx hb d_TC_write_10 ?_
    refine lv_aload_n hx hb d_TC_write_13 rfl (lv_at hl 0 rfl) ?_
    refine lv_iload_n hx hb d_TC_write_14 rfl (lv_at hl 3 rfl) ?_
    obtain ⟨u3, hu3, h⟩ := bd_some h
    refine x_cis (rest := []) (r_V C D (c_Parameter_addChar l g hD k2 hk2 a2 S u3 hu3) wc_Parameter_addChar wm_TC_80 wi_Parameter_addChar wd_Parameter_addChar (nP hk2) (sh_P hk2) kc_Parameter.1 rfl rfl hl (Nat.le_of_ble_eq_true rfl) (by decide) d_TC_write_15) D (fun H locs D => ?_)
    refine lv_if_eq hx hb d_TC_write_18 rfl (fun z => ?_) (fun z => ?_)
    · replace h := if_t z h
      exact B25 _ _ _ _ h D (lv_sub hl [] rfl)
    · replace h := if_f z h
      refine lv_iconst (v := 1) hx hb d_TC_write_21 (by decide) ?_
      refine lv_goto hx hb d_TC_write_22 rfl ?_
      exact x_zrs C D h d_TC_write_26
theorem d_TC_reset_0 : decode b_TC_reset 0 = .ok (.aload_n 0, 1) := by decide +kernel
theorem d_TC_reset_1 : decode b_TC_reset 1 = .ok (.getfield 28, 3) := by decide +kernel
theorem d_TC_reset_4 : decode b_TC_reset 4 = .ok (.invokevirtual 114, 3) := by decide +kernel
theorem d_TC_reset_7 : decode b_TC_reset 7 = .ok (.return_, 1) := by decide +kernel
def f_TC_reset (S : zSt) : Option zSt := ((f_Reader_restart S).bind fun u1 => (some u1))
set_option maxHeartbeats 4000000 in
set_option maxRecDepth 100000 in
theorem c_TC_reset (l : Launch) (g : zG) (hD : GD g) (S : zSt) (u : zSt) (h : f_TC_reset S = some u) : Met l y_TC_reset (mw y_TC_reset b_TC_reset 1 none) (rmD 2) (Pw g [.ref (ga g 0)] S) (Qvs g u) 0 0 (gA g) := by
  refine z_go (own := R_TC) (lv0 := [(0, .ref (ga g 0))]) hD (by decide) rfl (Nat.le_of_ble_eq_true rfl) rfl ?_
  intro p e s m args below meth c C D ls hl
  have hx := C.1
  have hb := C.2.1
  have hown := C.2.2.2.1
  have hts := C.2.2.2.2.1
  unfold f_TC_reset at h
  refine lv_aload_n hx hb d_TC_reset_0 rfl (lv_at hl 0 rfl) ?_
  refine x_get (v := .ref (ga g 6)) C D kc_TC (by decide) sh_0 2 rfl (by decide) wf_TC_28 rfl rfl d_TC_reset_1 ?_
  obtain ⟨u1, hu1, h⟩ := bd_some h
  refine x_cvs (rest := []) (r_V C D (c_Reader_restart l g hD S u1 hu1) wc_Reader_restart wm_TC_114 wi_Reader_restart wd_Reader_restart (by decide) sh_6 kc_Reader.1 rfl rfl hl (Nat.le_of_ble_eq_true rfl) (by decide) d_TC_reset_4) D (fun H locs D => ?_)
  exact x_vrs C D h d_TC_reset_7
theorem d_TC_check_0 : decode b_TC_check 0 = .ok (.aload_n 0, 1) := by decide +kernel
theorem d_TC_check_1 : decode b_TC_check 1 = .ok (.getfield 10, 3) := by decide +kernel
theorem d_TC_check_4 : decode b_TC_check 4 = .ok (.invokevirtual 68, 3) := by decide +kernel
theorem d_TC_check_7 : decode b_TC_check 7 = .ok (.ireturn, 1) := by decide +kernel
def f_TC_check (S : zSt) : Option Int32 := ((f_Declaration_fault S).bind fun u1 => (some u1))
set_option maxHeartbeats 4000000 in
set_option maxRecDepth 100000 in
theorem c_TC_check (l : Launch) (g : zG) (hD : GD g) (S : zSt) (u : Int32) (h : f_TC_check S = some u) : Met l y_TC_check (mw y_TC_check b_TC_check 1 (some .int)) (rmD 8) (Pw g [.ref (ga g 0)] S) (Qip g S u) 0 0 (gA g) := by
  refine z_go (own := R_TC) (lv0 := [(0, .ref (ga g 0))]) hD (by decide) rfl (Nat.le_of_ble_eq_true rfl) rfl ?_
  intro p e s m args below meth c C D ls hl
  have hx := C.1
  have hb := C.2.1
  have hown := C.2.2.2.1
  have hts := C.2.2.2.2.1
  unfold f_TC_check at h
  refine lv_aload_n hx hb d_TC_check_0 rfl (lv_at hl 0 rfl) ?_
  refine x_get (v := .ref (ga g 1)) C D kc_TC (by decide) sh_0 0 rfl (by decide) wf_TC_10 rfl rfl d_TC_check_1 ?_
  obtain ⟨u1, hu1, h⟩ := bd_some h
  refine x_cip (rest := []) (r_V C D (c_Declaration_fault l g hD S u1 hu1) wc_Declaration_fault wm_TC_68 wi_Declaration_fault wd_Declaration_fault (by decide) sh_1 kc_Declaration.1 rfl rfl hl (Nat.le_of_ble_eq_true rfl) (by decide) d_TC_check_4) D (fun H locs D => ?_)
  exact x_irp C D h d_TC_check_7
theorem d_TC_send_0 : decode b_TC_send 0 = .ok (.aload_n 0, 1) := by decide +kernel
theorem d_TC_send_1 : decode b_TC_send 1 = .ok (.getfield 10, 3) := by decide +kernel
theorem d_TC_send_4 : decode b_TC_send 4 = .ok (.invokevirtual 68, 3) := by decide +kernel
theorem d_TC_send_7 : decode b_TC_send 7 = .ok (.istore_n 1, 1) := by decide +kernel
theorem d_TC_send_8 : decode b_TC_send 8 = .ok (.iload_n 1, 1) := by decide +kernel
theorem d_TC_send_9 : decode b_TC_send 9 = .ok (.ifCond .ne 11, 3) := by decide +kernel
theorem d_TC_send_12 : decode b_TC_send 12 = .ok (.aload_n 0, 1) := by decide +kernel
theorem d_TC_send_13 : decode b_TC_send 13 = .ok (.getfield 10, 3) := by decide +kernel
theorem d_TC_send_16 : decode b_TC_send 16 = .ok (.invokevirtual 86, 3) := by decide +kernel
theorem d_TC_send_19 : decode b_TC_send 19 = .ok (.istore_n 1, 1) := by decide +kernel
theorem d_TC_send_20 : decode b_TC_send 20 = .ok (.iload_n 1, 1) := by decide +kernel
theorem d_TC_send_21 : decode b_TC_send 21 = .ok (.ifCond .eq 5, 3) := by decide +kernel
theorem d_TC_send_24 : decode b_TC_send 24 = .ok (.iload_n 1, 1) := by decide +kernel
theorem d_TC_send_25 : decode b_TC_send 25 = .ok (.ireturn, 1) := by decide +kernel
theorem d_TC_send_26 : decode b_TC_send 26 = .ok (.aload_n 0, 1) := by decide +kernel
theorem d_TC_send_27 : decode b_TC_send 27 = .ok (.getfield 21, 3) := by decide +kernel
theorem d_TC_send_30 : decode b_TC_send 30 = .ok (.aload_n 0, 1) := by decide +kernel
theorem d_TC_send_31 : decode b_TC_send 31 = .ok (.getfield 41, 3) := by decide +kernel
theorem d_TC_send_34 : decode b_TC_send 34 = .ok (.invokevirtual 89, 3) := by decide +kernel
theorem d_TC_send_37 : decode b_TC_send 37 = .ok (.aload_n 0, 1) := by decide +kernel
theorem d_TC_send_38 : decode b_TC_send 38 = .ok (.getfield 41, 3) := by decide +kernel
theorem d_TC_send_41 : decode b_TC_send 41 = .ok (.getfield 93, 3) := by decide +kernel
theorem d_TC_send_44 : decode b_TC_send 44 = .ok (.sipush 1000, 3) := by decide +kernel
theorem d_TC_send_47 : decode b_TC_send 47 = .ok (.if_icmp .le 6, 3) := by decide +kernel
theorem d_TC_send_50 : decode b_TC_send 50 = .ok (.bipush (-10), 2) := by decide +kernel
theorem d_TC_send_52 : decode b_TC_send 52 = .ok (.ireturn, 1) := by decide +kernel
theorem d_TC_send_53 : decode b_TC_send 53 = .ok (.aload_n 0, 1) := by decide +kernel
theorem d_TC_send_54 : decode b_TC_send 54 = .ok (.getfield 37, 3) := by decide +kernel
theorem d_TC_send_57 : decode b_TC_send 57 = .ok (.astore_n 2, 1) := by decide +kernel
theorem d_TC_send_58 : decode b_TC_send 58 = .ok (.aload_n 0, 1) := by decide +kernel
theorem d_TC_send_59 : decode b_TC_send 59 = .ok (.aload_n 0, 1) := by decide +kernel
theorem d_TC_send_60 : decode b_TC_send 60 = .ok (.getfield 41, 3) := by decide +kernel
theorem d_TC_send_63 : decode b_TC_send 63 = .ok (.putfield 37, 3) := by decide +kernel
theorem d_TC_send_66 : decode b_TC_send 66 = .ok (.aload_n 0, 1) := by decide +kernel
theorem d_TC_send_67 : decode b_TC_send 67 = .ok (.aload_n 2, 1) := by decide +kernel
theorem d_TC_send_68 : decode b_TC_send 68 = .ok (.putfield 41, 3) := by decide +kernel
theorem d_TC_send_71 : decode b_TC_send 71 = .ok (.aload_n 0, 1) := by decide +kernel
theorem d_TC_send_72 : decode b_TC_send 72 = .ok (.getfield 37, 3) := by decide +kernel
theorem d_TC_send_75 : decode b_TC_send 75 = .ok (.getfield 93, 3) := by decide +kernel
theorem d_TC_send_78 : decode b_TC_send 78 = .ok (.ireturn, 1) := by decide +kernel
def f_TC_send_20 (a1 : Int32) (S : zSt) : Option (Int32 × zSt) := (if a1 = 0 then gdn (S 0 4).toNatClampNeg 4 (((f_RequestWriter_compose (S 0 4).toNatClampNeg S).bind fun u3 => gdn (u3 0 4).toNatClampNeg 4 ((if (u3 (58 + (u3 0 4).toNatClampNeg) 1) ≤ 1000 then gdn (u3 0 3).toNatClampNeg 4 (gdn (u3 0 4).toNatClampNeg 4 (sq (su u3 0 3 (u3 0 4)) fun S7 => sq (su S7 0 4 (u3 0 3)) fun S8 => gdn (S8 0 3).toNatClampNeg 4 ((some ((S8 (58 + (S8 0 3).toNatClampNeg) 1), S8))))) else (some ((-10), u3)))))) else (some (a1, S)))
def f_TC_send (S : zSt) : Option (Int32 × zSt) := ((f_Declaration_fault S).bind fun u1 => (if u1 = 0 then ((f_Declaration_argumentFault S).bind fun u10 => (f_TC_send_20 u10 S)) else (f_TC_send_20 u1 S)))
set_option maxHeartbeats 4000000 in
set_option maxRecDepth 100000 in
theorem c_TC_send (l : Launch) (g : zG) (hD : GD g) (S : zSt) (u : (Int32 × zSt)) (h : f_TC_send S = some u) : Met l y_TC_send (mw y_TC_send b_TC_send 3 (some .int)) (rmD 9) (Pw g [.ref (ga g 0)] S) (Qis g u) 0 0 (gA g) := by
  refine z_go (own := R_TC) (lv0 := [(0, .ref (ga g 0))]) hD (by decide) rfl (Nat.le_of_ble_eq_true rfl) rfl ?_
  intro p e s m args below meth c C D ls hl
  have hx := C.1
  have hb := C.2.1
  have hown := C.2.2.2.1
  have hts := C.2.2.2.2.1
  have B20 : ∀ (H : Heap) (locs : List Loc) (S : zSt) (ls : Array Slot) (a1 : Int32), f_TC_send_20 a1 S = some u → Dy g s S H locs → lv_has ls 3 [(0, .ref (ga g 0)), (1, .int a1)] → W p l e (rmD 9) s m args below meth c H locs 0 0 (MQ below (Qis g u) args s 0 0 (gA g)) (F0 m 20 ls []) := by
    intro H locs S ls a1 h D hl
    unfold f_TC_send_20 at h
    refine lv_iload_n hx hb d_TC_send_20 rfl (lv_at hl 1 rfl) ?_
    refine lv_if_eq hx hb d_TC_send_21 rfl (fun z => ?_) (fun z => ?_)
    · replace h := if_t z h
      refine lv_aload_n hx hb d_TC_send_26 rfl (lv_at hl 0 rfl) ?_
      refine x_get (v := .ref (ga g 5)) C D kc_TC (by decide) sh_0 1 rfl (by decide) wf_TC_21 rfl rfl d_TC_send_27 ?_
      refine lv_aload_n hx hb d_TC_send_30 rfl (lv_at hl 0 rfl) ?_
      refine x_get (v := .ref (ga g (58 + (S 0 4).toNatClampNeg))) C D kc_TC (by decide) sh_0 4 rfl (by decide) wf_TC_41 rfl rfl d_TC_send_31 ?_
      obtain ⟨q2, h⟩ := gdn_some h
      obtain ⟨u3, hu3, h⟩ := bd_some h
      refine x_cvs (rest := []) (r_V C D (c_RequestWriter_compose l g hD (S 0 4).toNatClampNeg q2 S u3 hu3) wc_RequestWriter_compose wm_TC_89 wi_RequestWriter_compose wd_RequestWriter_compose (by decide) sh_5 kc_RequestWriter.1 rfl rfl hl (Nat.le_of_ble_eq_true rfl) (by decide) d_TC_send_34) D (fun H locs D => ?_)
      refine lv_aload_n hx hb d_TC_send_37 rfl (lv_at hl 0 rfl) ?_
      refine x_get (v := .ref (ga g (58 + (u3 0 4).toNatClampNeg))) C D kc_TC (by decide) sh_0 4 rfl (by decide) wf_TC_41 rfl rfl d_TC_send_38 ?_
      obtain ⟨q4, h⟩ := gdn_some h
      refine x_getN (v := .int (u3 (58 + (u3 0 4).toNatClampNeg) 1)) C D kc_ByteRow (nR q4) (sh_R q4) 1 rfl (by decide) nf_TC_93 rfl rfl d_TC_send_41 ?_
      refine lv_sipush (v := 1000) hx hb d_TC_send_44 (by decide) ?_
      refine lv_icmp_le hx hb d_TC_send_47 rfl (fun z => ?_) (fun z => ?_)
      · replace h := if_t z h
        refine lv_aload_n hx hb d_TC_send_53 rfl (lv_at hl 0 rfl) ?_
        refine x_get (v := .ref (ga g (58 + (u3 0 3).toNatClampNeg))) C D kc_TC (by decide) sh_0 3 rfl (by decide) wf_TC_37 rfl rfl d_TC_send_54 ?_
        obtain ⟨q5, h⟩ := gdn_some h
        refine lv_astore_n (lv' := [(2, .ref (ga g (58 + (u3 0 3).toNatClampNeg))), (0, .ref (ga g 0)), (1, .int a1)]) hx hb d_TC_send_57 rfl hl (by decide) rfl (fun ls hl => ?_)
        refine lv_aload_n hx hb d_TC_send_58 rfl (lv_at hl 1 rfl) ?_
        refine lv_aload_n hx hb d_TC_send_59 rfl (lv_at hl 1 rfl) ?_
        refine x_get (v := .ref (ga g (58 + (u3 0 4).toNatClampNeg))) C D kc_TC (by decide) sh_0 4 rfl (by decide) wf_TC_41 rfl rfl d_TC_send_60 ?_
        obtain ⟨q6, h⟩ := gdn_some h
        refine x_put C D kc_TC (by decide) sh_0 3 rfl (by decide) wf_TC_37 rfl rfl (u3 0 4) rfl ⟨rfl, rfl⟩ d_TC_send_63 h (fun S7 H locs h D => ?_)
        refine lv_aload_n hx hb d_TC_send_66 rfl (lv_at hl 1 rfl) ?_
        refine lv_aload_n hx hb d_TC_send_67 rfl (lv_at hl 0 rfl) ?_
        refine x_put C D kc_TC (by decide) sh_0 4 rfl (by decide) wf_TC_41 rfl rfl (u3 0 3) rfl ⟨rfl, rfl⟩ d_TC_send_68 h (fun S8 H locs h D => ?_)
        refine lv_aload_n hx hb d_TC_send_71 rfl (lv_at hl 1 rfl) ?_
        refine x_get (v := .ref (ga g (58 + (S8 0 3).toNatClampNeg))) C D kc_TC (by decide) sh_0 3 rfl (by decide) wf_TC_37 rfl rfl d_TC_send_72 ?_
        obtain ⟨q9, h⟩ := gdn_some h
        refine x_getN (v := .int (S8 (58 + (S8 0 3).toNatClampNeg) 1)) C D kc_ByteRow (nR q9) (sh_R q9) 1 rfl (by decide) nf_TC_93 rfl rfl d_TC_send_75 ?_
        exact x_irs C D h d_TC_send_78
      · replace h := if_f z h
        refine lv_bipush (v := (-10)) hx hb d_TC_send_50 (by decide) ?_
        exact x_irs C D h d_TC_send_52
    · replace h := if_f z h
      refine lv_iload_n hx hb d_TC_send_24 rfl (lv_at hl 1 rfl) ?_
      exact x_irs C D h d_TC_send_25
  unfold f_TC_send at h
  refine lv_aload_n hx hb d_TC_send_0 rfl (lv_at hl 0 rfl) ?_
  refine x_get (v := .ref (ga g 1)) C D kc_TC (by decide) sh_0 0 rfl (by decide) wf_TC_10 rfl rfl d_TC_send_1 ?_
  obtain ⟨u1, hu1, h⟩ := bd_some h
  refine x_cip (rest := []) (r_V C D (c_Declaration_fault l g hD S u1 hu1) wc_Declaration_fault wm_TC_68 wi_Declaration_fault wd_Declaration_fault (by decide) sh_1 kc_Declaration.1 rfl rfl hl (Nat.le_of_ble_eq_true rfl) (by decide) d_TC_send_4) D (fun H locs D => ?_)
  refine lv_istore_n (lv' := [(1, .int u1), (0, .ref (ga g 0))]) hx hb d_TC_send_7 rfl hl (by decide) rfl (fun ls hl => ?_)
  refine lv_iload_n hx hb d_TC_send_8 rfl (lv_at hl 0 rfl) ?_
  refine lv_if_ne hx hb d_TC_send_9 rfl (fun z => ?_) (fun z => ?_)
  · replace h := if_f z h
    exact B20 _ _ _ _ _ h D (lv_sub hl [1, 0] rfl)
  · replace h := if_t z h
    refine lv_aload_n hx hb d_TC_send_12 rfl (lv_at hl 1 rfl) ?_
    refine x_get (v := .ref (ga g 1)) C D kc_TC (by decide) sh_0 0 rfl (by decide) wf_TC_10 rfl rfl d_TC_send_13 ?_
    obtain ⟨u10, hu10, h⟩ := bd_some h
    refine x_cip (rest := []) (r_V C D (c_Declaration_argumentFault l g hD S u10 hu10) wc_Declaration_argumentFault wm_TC_86 wi_Declaration_argumentFault wd_Declaration_argumentFault (by decide) sh_1 kc_Declaration.1 rfl rfl hl (Nat.le_of_ble_eq_true rfl) (by decide) d_TC_send_16) D (fun H locs D => ?_)
    refine lv_istore_n (lv' := [(1, .int u10), (0, .ref (ga g 0))]) hx hb d_TC_send_19 rfl hl (by decide) rfl (fun ls hl => ?_)
    exact B20 _ _ _ _ _ h D (lv_sub hl [1, 0] rfl)
theorem d_TC_feed_0 : decode b_TC_feed 0 = .ok (.iload_n 1, 1) := by decide +kernel
theorem d_TC_feed_1 : decode b_TC_feed 1 = .ok (.ifCond .lt 10, 3) := by decide +kernel
theorem d_TC_feed_4 : decode b_TC_feed 4 = .ok (.iload_n 1, 1) := by decide +kernel
theorem d_TC_feed_5 : decode b_TC_feed 5 = .ok (.sipush 255, 3) := by decide +kernel
theorem d_TC_feed_8 : decode b_TC_feed 8 = .ok (.if_icmp .le 6, 3) := by decide +kernel
theorem d_TC_feed_11 : decode b_TC_feed 11 = .ok (.bipush (-11), 2) := by decide +kernel
theorem d_TC_feed_13 : decode b_TC_feed 13 = .ok (.ireturn, 1) := by decide +kernel
theorem d_TC_feed_14 : decode b_TC_feed 14 = .ok (.aload_n 0, 1) := by decide +kernel
theorem d_TC_feed_15 : decode b_TC_feed 15 = .ok (.getfield 28, 3) := by decide +kernel
theorem d_TC_feed_18 : decode b_TC_feed 18 = .ok (.iload_n 1, 1) := by decide +kernel
theorem d_TC_feed_19 : decode b_TC_feed 19 = .ok (.aload_n 0, 1) := by decide +kernel
theorem d_TC_feed_20 : decode b_TC_feed 20 = .ok (.getfield 10, 3) := by decide +kernel
theorem d_TC_feed_23 : decode b_TC_feed 23 = .ok (.getfield 101, 3) := by decide +kernel
theorem d_TC_feed_26 : decode b_TC_feed 26 = .ok (.invokevirtual 104, 3) := by decide +kernel
theorem d_TC_feed_29 : decode b_TC_feed 29 = .ok (.aload_n 0, 1) := by decide +kernel
theorem d_TC_feed_30 : decode b_TC_feed 30 = .ok (.getfield 28, 3) := by decide +kernel
theorem d_TC_feed_33 : decode b_TC_feed 33 = .ok (.getfield 108, 3) := by decide +kernel
theorem d_TC_feed_36 : decode b_TC_feed 36 = .ok (.ireturn, 1) := by decide +kernel
def f_TC_feed (a1 : Int32) (S : zSt) : Option (Int32 × zSt) := (if a1 < 0 then (some ((-11), S)) else (if a1 ≤ 255 then ((f_Reader_take a1 (S 1 3) S).bind fun u1 => (some ((u1 6 3), u1))) else (some ((-11), S))))
set_option maxHeartbeats 4000000 in
set_option maxRecDepth 100000 in
theorem c_TC_feed (l : Launch) (g : zG) (hD : GD g) (a1 : Int32) (S : zSt) (u : (Int32 × zSt)) (h : f_TC_feed a1 S = some u) : Met l y_TC_feed (mw y_TC_feed b_TC_feed 2 (some .int)) (rmD 9) (Pw g [.ref (ga g 0), .int a1] S) (Qis g u) 0 0 (gA g) := by
  refine z_go (own := R_TC) (lv0 := [(0, .ref (ga g 0)), (1, .int a1)]) hD (by decide) rfl (Nat.le_of_ble_eq_true rfl) rfl ?_
  intro p e s m args below meth c C D ls hl
  have hx := C.1
  have hb := C.2.1
  have hown := C.2.2.2.1
  have hts := C.2.2.2.2.1
  unfold f_TC_feed at h
  refine lv_iload_n hx hb d_TC_feed_0 rfl (lv_at hl 1 rfl) ?_
  refine lv_if_lt hx hb d_TC_feed_1 rfl (fun z => ?_) (fun z => ?_)
  · replace h := if_t z h
    refine lv_bipush (v := (-11)) hx hb d_TC_feed_11 (by decide) ?_
    exact x_irs C D h d_TC_feed_13
  · replace h := if_f z h
    refine lv_iload_n hx hb d_TC_feed_4 rfl (lv_at hl 1 rfl) ?_
    refine lv_sipush (v := 255) hx hb d_TC_feed_5 (by decide) ?_
    refine lv_icmp_le hx hb d_TC_feed_8 rfl (fun z => ?_) (fun z => ?_)
    · replace h := if_t z h
      refine lv_aload_n hx hb d_TC_feed_14 rfl (lv_at hl 0 rfl) ?_
      refine x_get (v := .ref (ga g 6)) C D kc_TC (by decide) sh_0 2 rfl (by decide) wf_TC_28 rfl rfl d_TC_feed_15 ?_
      refine lv_iload_n hx hb d_TC_feed_18 rfl (lv_at hl 1 rfl) ?_
      refine lv_aload_n hx hb d_TC_feed_19 rfl (lv_at hl 0 rfl) ?_
      refine x_get (v := .ref (ga g 1)) C D kc_TC (by decide) sh_0 0 rfl (by decide) wf_TC_10 rfl rfl d_TC_feed_20 ?_
      refine x_getN (v := .int (S 1 3)) C D kc_Declaration (by decide) sh_1 3 rfl (by decide) nf_TC_101 rfl rfl d_TC_feed_23 ?_
      obtain ⟨u1, hu1, h⟩ := bd_some h
      refine x_cvs (rest := []) (r_V C D (c_Reader_take l g hD a1 (S 1 3) S u1 hu1) wc_Reader_take wm_TC_104 wi_Reader_take wd_Reader_take (by decide) sh_6 kc_Reader.1 rfl rfl hl (Nat.le_of_ble_eq_true rfl) (by decide) d_TC_feed_26) D (fun H locs D => ?_)
      refine lv_aload_n hx hb d_TC_feed_29 rfl (lv_at hl 0 rfl) ?_
      refine x_get (v := .ref (ga g 6)) C D kc_TC (by decide) sh_0 2 rfl (by decide) wf_TC_28 rfl rfl d_TC_feed_30 ?_
      refine x_getN (v := .int (u1 6 3)) C D kc_Reader (by decide) sh_6 3 rfl (by decide) nf_TC_108 rfl rfl d_TC_feed_33 ?_
      exact x_irs C D h d_TC_feed_36
    · replace h := if_f z h
      refine lv_bipush (v := (-11)) hx hb d_TC_feed_11 (by decide) ?_
      exact x_irs C D h d_TC_feed_13
