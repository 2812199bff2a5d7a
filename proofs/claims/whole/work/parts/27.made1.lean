-- rows for constructors: worlds as lists
section YR
variable {p : Program} {l : Launch} {e : Env} {R : Room} {s : State} {m : MethodId} {args : Array Value} {below : List Frame} {meth : Method} {c : Code} {H : Heap} {locs : List Loc} {cells slots : Nat} {Q : State → Prop}
variable {cc : ByteArray} {pc : Nat} {ls : Array Slot} {rest : List Value} {g : zG} {A : Nat → Prop} {ws : va_W} {H0 : Heap}
theorem y_newa (hx : p.tables.exec = Jvm.exec) (hb : c.code = cc) {atype : ArrayType} (harr : (Cond.arrayClass (newarray.typeOf atype)).before args s = true) {ty : FieldType} (hty : newarray.typeOf atype = ty) (t : Nat) (hp : va_RA s (gt g t) ty = (s.vm.findClass ("[" ++ ty.toString) = some (gt g t))) (hp2 : ∀ cA : ClassId, va_RA s cA ty = (s.vm.findClass ("[" ++ ty.toString) = some cA)) (ht : (tys g)[t]? = some (gt g t, ty)) (hK : va_K (gD g) classes (tys g) s) (hP : va_P (gD g) classes ws H) (hD : va_D A ws) (hS : va_S A H0 H locs) (hA : ∀ q, H0.size ≤ q → A q)
    {n : Int32} {N' : Nat} (hz : defaultValue ty = .int 0) (hn : ¬ n < 0) (hN : n.toNatClampNeg = N') (hbytes : N' * componentBytes ty ≤ 536870912) (hcells : cells + 1 ≤ R.cells) (hslots : slots + N' ≤ R.slots) (hdg : decode cc pc = .ok (.newarray atype, 2))
    (kk : ∀ (q : Nat) (H1 : Heap), va_P (gD g) classes (ws ++ [(q, .inl (gt g t, N', .inl (fun _ => 0)))]) H1 → va_D A (ws ++ [(q, .inl (gt g t, N', .inl (fun _ => 0)))]) → va_S A H0 H1 locs →
      W p l e R s m args below meth c H1 locs (cells + 1) (slots + N') Q (F0 m (pc + 2) ls (.ref q :: rest))) : W p l e R s m args below meth c H locs cells slots Q (F0 m pc ls (.int n :: rest)) := by
  refine va_newa hx hb harr hty hK hP hD hS hA (a0 := (N', .inl (fun _ => 0))) (fun cA => by rw [vp_cell_i, hz]) hn hN hbytes hcells hslots hdg (fun q cA H1 hK' hP hD hS => ?_)
  have h1 := (hK.2 t _ ht).2
  have h2 : va_RA s cA ty := (hK'.2 (tys g).length (cA, ty) (by rw [List.getElem?_append_right (Nat.le_refl _), Nat.sub_self]; rfl)).2
  rw [hp2] at h1 h2
  have h3 : cA = gt g t := Option.some.inj (h2.symm.trans h1)
  subst h3
  exact kk q H1 hP hD hS
theorem y_newq (hx : p.tables.exec = Jvm.exec) (hb : c.code = cc) {own C : String} {index : Nat} (hown : s.vm.findClass own = some m.cls) (hclink : (Cond.classLink own index C).before args s = true) (hover : va_AO C s) (t : Nat) (ht : (tys g)[t]? = some (gt g t, .object C)) (hK : va_K (gD g) classes (tys g) s) (hP : va_P (gD g) classes ws H) (hD : va_D A ws) (hS : va_S A H0 H locs) (hA : ∀ q, H0.size ≤ q → A q)
    {n : Int32} {N' : Nat} (hn : ¬ n < 0) (hN : n.toNatClampNeg = N') (hbytes : N' * 4 ≤ 536870912) (hcells : cells + 1 ≤ R.cells) (hslots : slots + N' ≤ R.slots) (hdg : decode cc pc = .ok (.anewarray index, 3))
    (kk : ∀ (q : Nat) (H1 : Heap), va_P (gD g) classes (ws ++ [(q, .inl (gt g t, N', .inr (.inr (.inr (.inr (fun _ => none))))))]) H1 → va_D A (ws ++ [(q, .inl (gt g t, N', .inr (.inr (.inr (.inr (fun _ => none))))))]) → va_S A H0 H1 locs →
      W p l e R s m args below meth c H1 locs (cells + 1) (slots + N') Q (F0 m (pc + 3) ls (.ref q :: rest))) : W p l e R s m args below meth c H locs cells slots Q (F0 m pc ls (.int n :: rest)) := by
  refine va_newq hx hb hown hclink hover hK hP hD hS hA hn hN hbytes hcells hslots hdg (fun q cA H1 hK' hP hD hS => ?_)
  obtain ⟨_, _, _, _, _, h1⟩ := (hK.2 t _ ht).2
  obtain ⟨_, _, _, _, _, h2⟩ := (hK'.2 (tys g).length (cA, .object C) (by rw [List.getElem?_append_right (Nat.le_refl _), Nat.sub_self]; rfl)).2
  have h3 : cA = gt g t := Option.some.inj (h2.symm.trans h1)
  subst h3
  exact kk q H1 hP hD hS
end YR
def StaC (g : zG) (U : State) : Prop := va_K (gD g) classes (tys g) U ∧ zNs U ∧ va_AO R_Parameter U ∧ va_AO R_Item U
theorem StaC.warm {g : zG} {s U : State} (h : StaC g s) (hW : s.WarmedH U.vm) : StaC g U := ⟨h.1.moved hW.alike, ⟨fun q hq => va_Nw.warmF hW (h.2.1.1 q hq), fun q hq => va_Nw.warmM hW (h.2.1.2 q hq)⟩, h.2.2.1.moved hW.alike, h.2.2.2.moved hW.alike⟩
theorem StaC.calling {g : zG} {U : State} {f : JFrame} {mk : MethodId} {a : Array Value} (h : StaC g U) : StaC g (U.calling f mk a) := ⟨va_K.moved (u := U) (U := U.calling f mk a) (Vm.Alike.refl U.vm) h.1, ⟨fun q hq => va_Nw.same rfl (u := U) (U := U.calling f mk a) rfl (h.2.1.1 q hq), fun q hq => va_Nw.same rfl (u := U) (U := U.calling f mk a) rfl (h.2.1.2 q hq)⟩, va_AO.moved (u := U) (U := U.calling f mk a) (Vm.Alike.refl U.vm) h.2.2.1, va_AO.moved (u := U) (U := U.calling f mk a) (Vm.Alike.refl U.vm) h.2.2.2⟩
/-- a constructor's start: the cells w of its world, the heap's size -/
def Pn (g : zG) (av : List Value) (sz : Nat) (w : va_W) : Array Value → State → Prop := va_Pc av (fun U => U.heap.size = sz ∧ va_P (gD g) classes w U.heap ∧ StaC g U ∧ va_D (fun _ => True) w)
theorem Pn_blind {g : zG} {av : List Value} {sz : Nat} {w : va_W} : FrameBlind (Pn g av sz w) := fun _ _ _ _ h => ⟨h.1, h.2.1, h.2.2.1, h.2.2.2.1.calling, h.2.2.2.2⟩
/-- .. its end: the new cells' addresses a, the cells v a -/
def Qn (g : zG) (sz : Nat) (w : va_W) (v : (Nat → Nat) → va_W) : Array Value → State → Outcome → State → Prop := va_Qv (fun _ : Nat → Nat => True) (fun a t => va_P (gD g) classes (v a) t.heap ∧ va_D (va_A w sz) (v a)) (va_A w sz)
abbrev rmC (d mc ms : Nat) : Room := { frames := d, cells := mc, slots := ms, locals := 60 * d }
theorem d_Item_init_0 : decode b_Item_init 0 = .ok (.aload_n 0, 1) := by decide +kernel
theorem d_Item_init_1 : decode b_Item_init 1 = .ok (.invokespecial 1, 3) := by decide +kernel
theorem d_Item_init_4 : decode b_Item_init 4 = .ok (.aload_n 0, 1) := by decide +kernel
theorem d_Item_init_5 : decode b_Item_init 5 = .ok (.bipush 8, 2) := by decide +kernel
theorem d_Item_init_7 : decode b_Item_init 7 = .ok (.newarray .char, 2) := by decide +kernel
theorem d_Item_init_9 : decode b_Item_init 9 = .ok (.putfield 9, 3) := by decide +kernel
theorem d_Item_init_12 : decode b_Item_init 12 = .ok (.aload_n 0, 1) := by decide +kernel
theorem d_Item_init_13 : decode b_Item_init 13 = .ok (.iconst 0, 1) := by decide +kernel
theorem d_Item_init_14 : decode b_Item_init 14 = .ok (.putfield 13, 3) := by decide +kernel
theorem d_Item_init_17 : decode b_Item_init 17 = .ok (.return_, 1) := by decide +kernel
def w_Item_init (g : zG) (h0 : Nat) (a : Nat → Nat) : va_W := [(h0, .inr (8, [.ref (a 0), .int 0])), ((a 0), .inl (gt g 1, 8, .inl (fun _ => 0)))]
set_option maxHeartbeats 4000000 in
set_option maxRecDepth 100000 in
theorem n_Item_init (l : Launch) (g : zG) (h0 : Nat) (sz : Nat) : Met l y_Item_init (mw y_Item_init b_Item_init 1 none) (rmC 1 1 8) (Pn g [.ref h0] sz [(h0, .inr (8, [.null, .int 0]))]) (Qn g sz [(h0, .inr (8, [.null, .int 0]))] (w_Item_init g h0)) 1 8 (va_A [(h0, .inr (8, [.null, .int 0]))] sz) := by
  refine Met.ofW (cc := b_Item_init) (maxL := 1) (ret := none) (by decide) rfl ?_
  intro p e s m args below meth c s₁ B hml hv
  obtain ⟨rfl, hsz, hP, hSt, hD0⟩ := hv
  have hx := B.exec
  have hb := B.bytes
  have hr := B.returns
  have hts : ∀ w ∈ WS, w.before _ s = true := fun w hw => atoms_spec (ws := mw y_Item_init b_Item_init 1 none) B.pre w (List.mem_cons_of_mem _ hw)
  have hown : s.vm.findClass R_Item = some m.cls := findClass_of_methodNamed B.named
  have hlocks := B.notSynchronized
  have hin := (name_of_methodNamed B.named B.method).1
  have hK := hSt.1
  have hN := hSt.2.1
  have hAO3 := hSt.2.2.1
  have hAO4 := hSt.2.2.2
  subst hsz
  have hD := hD0.self (sz := s.heap.size)
  unfold Qn
  generalize hAe : va_A [(h0, .inr (8, [.null, .int 0]))] s.heap.size = A at hD ⊢
  have hA : ∀ q : Nat, s.heap.size ≤ q → A q := fun q h => by rw [← hAe]; exact Or.inr h
  have hS : va_S A s.heap s.heap [] := va_S.rf
  have hl := lv_entry ([.ref h0]) (n := 1) (Nat.le_of_ble_eq_true rfl)
  rw [lg_entry_eq]
  generalize (lg_sl ([.ref h0]) ++ List.replicate (1 - (lg_sl ([.ref h0])).length) Slot.unset).toArray = ls at hl ⊢
  have hl : lv_has ls 1 [(0, .ref h0)] := hl
  have hP : va_P (gD g) classes [(h0, .inr (8, [.null, .int 0]))] s.heap := hP
  refine lv_aload_n hx hb d_Item_init_0 rfl (lv_at hl 0 rfl) ?_
  refine W.objInit hx hb hown (hts _ wm_Item_1) (hts _ wi_Obj) (hts _ wc_Obj) rfl (by rw [hml]; exact hl.1) rfl d_Item_init_1 (Nat.le_of_ble_eq_true rfl) (Nat.le_of_ble_eq_true rfl) ?_
  refine W.eq (g2 := F0 m 4 ls []) rfl ?_
  refine lv_aload_n hx hb d_Item_init_4 rfl (lv_at hl 0 rfl) ?_
  refine lv_bipush (v := 8) hx hb d_Item_init_5 (by decide) ?_
  refine y_newa (N' := 8) (atype := .char) hx hb (hts _ wa_char) rfl 1 rfl (fun _ => rfl) rfl hK hP hD hS hA rfl (by decide) (by decide) (Nat.le_of_ble_eq_true rfl) (Nat.le_of_ble_eq_true rfl) (Nat.le_of_ble_eq_true rfl) d_Item_init_7 (fun q7 H hP hD hS => ?_)
  have hP : va_P (gD g) classes [(h0, .inr (8, [.null, .int 0])), (q7, .inl (gt g 1, 8, .inl (fun _ => 0)))] H := hP
  have hD : va_D A [(h0, .inr (8, [.null, .int 0])), (q7, .inl (gt g 1, 8, .inl (fun _ => 0)))] := hD
  refine W.widen (k := 1) (n := 8) (Nat.le_of_ble_eq_true rfl) (Nat.le_of_ble_eq_true rfl) ?_
  refine va_putF (v := .ref q7) hx hb hts kc_Item.2.1 t_Item kc_Item.2.2.1 kc_Item.2.2.2 hown hK hP hD hS 0 rfl kc_Item.1 0 (by decide) (hts _ wf_Item_9) (fun _ h9 => h9) rfl hin rfl (kc_Item.2.2.1 0 (by decide)) rfl rfl (Nat.le_of_ble_eq_true rfl) d_Item_init_9 (fun H locs hP hD hS => ?_)
  have hP : va_P (gD g) classes [(h0, .inr (8, [.ref q7, .int 0])), (q7, .inl (gt g 1, 8, .inl (fun _ => 0)))] H := hP
  have hD : va_D A [(h0, .inr (8, [.ref q7, .int 0])), (q7, .inl (gt g 1, 8, .inl (fun _ => 0)))] := hD
  refine lv_aload_n hx hb d_Item_init_12 rfl (lv_at hl 0 rfl) ?_
  refine lv_iconst (v := 0) hx hb d_Item_init_13 (by decide) ?_
  refine va_put (v := .int 0) hx hb hts kc_Item.2.1 t_Item kc_Item.2.2.1 kc_Item.2.2.2 hown hK hP hD hS 0 rfl kc_Item.1 1 (by decide) (hts _ wf_Item_13) (fun _ h9 => h9) rfl (kc_Item.2.2.1 1 (by decide)) rfl rfl (Nat.le_of_ble_eq_true rfl) d_Item_init_14 (fun H locs hP hD hS => ?_)
  have hP : va_P (gD g) classes [(h0, .inr (8, [.ref q7, .int 0])), (q7, .inl (gt g 1, 8, .inl (fun _ => 0)))] H := hP
  have hD : va_D A [(h0, .inr (8, [.ref q7, .int 0])), (q7, .inl (gt g 1, 8, .inl (fun _ => 0)))] := hD
  exact W.vret hx hb hr (fun t ht hW => ⟨⟨(fun i => [q7].getD i 0), rfl, trivial, by show va_P _ _ _ _; rw [ht]; exact hP, hD⟩, hS.F ht⟩) hS.2.2 d_Item_init_17
theorem d_PathTemplate_init_0 : decode b_PathTemplate_init 0 = .ok (.aload_n 0, 1) := by decide +kernel
theorem d_PathTemplate_init_1 : decode b_PathTemplate_init 1 = .ok (.invokespecial 1, 3) := by decide +kernel
theorem d_PathTemplate_init_4 : decode b_PathTemplate_init 4 = .ok (.aload_n 0, 1) := by decide +kernel
theorem d_PathTemplate_init_5 : decode b_PathTemplate_init 5 = .ok (.bipush 40, 2) := by decide +kernel
theorem d_PathTemplate_init_7 : decode b_PathTemplate_init 7 = .ok (.newarray .char, 2) := by decide +kernel
theorem d_PathTemplate_init_9 : decode b_PathTemplate_init 9 = .ok (.putfield 9, 3) := by decide +kernel
theorem d_PathTemplate_init_12 : decode b_PathTemplate_init 12 = .ok (.aload_n 0, 1) := by decide +kernel
theorem d_PathTemplate_init_13 : decode b_PathTemplate_init 13 = .ok (.iconst 0, 1) := by decide +kernel
theorem d_PathTemplate_init_14 : decode b_PathTemplate_init 14 = .ok (.putfield 13, 3) := by decide +kernel
theorem d_PathTemplate_init_17 : decode b_PathTemplate_init 17 = .ok (.return_, 1) := by decide +kernel
def w_PathTemplate_init (g : zG) (h0 : Nat) (a : Nat → Nat) : va_W := [(h0, .inr (2, [.ref (a 0), .int 0])), ((a 0), .inl (gt g 1, 40, .inl (fun _ => 0)))]
set_option maxHeartbeats 4000000 in
set_option maxRecDepth 100000 in
theorem n_PathTemplate_init (l : Launch) (g : zG) (h0 : Nat) (sz : Nat) : Met l y_PathTemplate_init (mw y_PathTemplate_init b_PathTemplate_init 1 none) (rmC 1 1 40) (Pn g [.ref h0] sz [(h0, .inr (2, [.null, .int 0]))]) (Qn g sz [(h0, .inr (2, [.null, .int 0]))] (w_PathTemplate_init g h0)) 1 40 (va_A [(h0, .inr (2, [.null, .int 0]))] sz) := by
  refine Met.ofW (cc := b_PathTemplate_init) (maxL := 1) (ret := none) (by decide) rfl ?_
  intro p e s m args below meth c s₁ B hml hv
  obtain ⟨rfl, hsz, hP, hSt, hD0⟩ := hv
  have hx := B.exec
  have hb := B.bytes
  have hr := B.returns
  have hts : ∀ w ∈ WS, w.before _ s = true := fun w hw => atoms_spec (ws := mw y_PathTemplate_init b_PathTemplate_init 1 none) B.pre w (List.mem_cons_of_mem _ hw)
  have hown : s.vm.findClass R_PathTemplate = some m.cls := findClass_of_methodNamed B.named
  have hlocks := B.notSynchronized
  have hin := (name_of_methodNamed B.named B.method).1
  have hK := hSt.1
  have hN := hSt.2.1
  have hAO3 := hSt.2.2.1
  have hAO4 := hSt.2.2.2
  subst hsz
  have hD := hD0.self (sz := s.heap.size)
  unfold Qn
  generalize hAe : va_A [(h0, .inr (2, [.null, .int 0]))] s.heap.size = A at hD ⊢
  have hA : ∀ q : Nat, s.heap.size ≤ q → A q := fun q h => by rw [← hAe]; exact Or.inr h
  have hS : va_S A s.heap s.heap [] := va_S.rf
  have hl := lv_entry ([.ref h0]) (n := 1) (Nat.le_of_ble_eq_true rfl)
  rw [lg_entry_eq]
  generalize (lg_sl ([.ref h0]) ++ List.replicate (1 - (lg_sl ([.ref h0])).length) Slot.unset).toArray = ls at hl ⊢
  have hl : lv_has ls 1 [(0, .ref h0)] := hl
  have hP : va_P (gD g) classes [(h0, .inr (2, [.null, .int 0]))] s.heap := hP
  refine lv_aload_n hx hb d_PathTemplate_init_0 rfl (lv_at hl 0 rfl) ?_
  refine W.objInit hx hb hown (hts _ wm_PathTemplate_1) (hts _ wi_Obj) (hts _ wc_Obj) rfl (by rw [hml]; exact hl.1) rfl d_PathTemplate_init_1 (Nat.le_of_ble_eq_true rfl) (Nat.le_of_ble_eq_true rfl) ?_
  refine W.eq (g2 := F0 m 4 ls []) rfl ?_
  refine lv_aload_n hx hb d_PathTemplate_init_4 rfl (lv_at hl 0 rfl) ?_
  refine lv_bipush (v := 40) hx hb d_PathTemplate_init_5 (by decide) ?_
  refine y_newa (N' := 40) (atype := .char) hx hb (hts _ wa_char) rfl 1 rfl (fun _ => rfl) rfl hK hP hD hS hA rfl (by decide) (by decide) (Nat.le_of_ble_eq_true rfl) (Nat.le_of_ble_eq_true rfl) (Nat.le_of_ble_eq_true rfl) d_PathTemplate_init_7 (fun q7 H hP hD hS => ?_)
  have hP : va_P (gD g) classes [(h0, .inr (2, [.null, .int 0])), (q7, .inl (gt g 1, 40, .inl (fun _ => 0)))] H := hP
  have hD : va_D A [(h0, .inr (2, [.null, .int 0])), (q7, .inl (gt g 1, 40, .inl (fun _ => 0)))] := hD
  refine W.widen (k := 1) (n := 40) (Nat.le_of_ble_eq_true rfl) (Nat.le_of_ble_eq_true rfl) ?_
  refine va_putF (v := .ref q7) hx hb hts kc_PathTemplate.2.1 t_PathTemplate kc_PathTemplate.2.2.1 kc_PathTemplate.2.2.2 hown hK hP hD hS 0 rfl kc_PathTemplate.1 0 (by decide) (hts _ wf_PathTemplate_9) (fun _ h9 => h9) rfl hin rfl (kc_PathTemplate.2.2.1 0 (by decide)) rfl rfl (Nat.le_of_ble_eq_true rfl) d_PathTemplate_init_9 (fun H locs hP hD hS => ?_)
  have hP : va_P (gD g) classes [(h0, .inr (2, [.ref q7, .int 0])), (q7, .inl (gt g 1, 40, .inl (fun _ => 0)))] H := hP
  have hD : va_D A [(h0, .inr (2, [.ref q7, .int 0])), (q7, .inl (gt g 1, 40, .inl (fun _ => 0)))] := hD
  refine lv_aload_n hx hb d_PathTemplate_init_12 rfl (lv_at hl 0 rfl) ?_
  refine lv_iconst (v := 0) hx hb d_PathTemplate_init_13 (by decide) ?_
  refine va_put (v := .int 0) hx hb hts kc_PathTemplate.2.1 t_PathTemplate kc_PathTemplate.2.2.1 kc_PathTemplate.2.2.2 hown hK hP hD hS 0 rfl kc_PathTemplate.1 1 (by decide) (hts _ wf_PathTemplate_13) (fun _ h9 => h9) rfl (kc_PathTemplate.2.2.1 1 (by decide)) rfl rfl (Nat.le_of_ble_eq_true rfl) d_PathTemplate_init_14 (fun H locs hP hD hS => ?_)
  have hP : va_P (gD g) classes [(h0, .inr (2, [.ref q7, .int 0])), (q7, .inl (gt g 1, 40, .inl (fun _ => 0)))] H := hP
  have hD : va_D A [(h0, .inr (2, [.ref q7, .int 0])), (q7, .inl (gt g 1, 40, .inl (fun _ => 0)))] := hD
  exact W.vret hx hb hr (fun t ht hW => ⟨⟨(fun i => [q7].getD i 0), rfl, trivial, by show va_P _ _ _ _; rw [ht]; exact hP, hD⟩, hS.F ht⟩) hS.2.2 d_PathTemplate_init_17
theorem d_Line_init_0 : decode b_Line_init 0 = .ok (.aload_n 0, 1) := by decide +kernel
theorem d_Line_init_1 : decode b_Line_init 1 = .ok (.invokespecial 1, 3) := by decide +kernel
theorem d_Line_init_4 : decode b_Line_init 4 = .ok (.aload_n 0, 1) := by decide +kernel
theorem d_Line_init_5 : decode b_Line_init 5 = .ok (.bipush 60, 2) := by decide +kernel
theorem d_Line_init_7 : decode b_Line_init 7 = .ok (.newarray .char, 2) := by decide +kernel
theorem d_Line_init_9 : decode b_Line_init 9 = .ok (.putfield 9, 3) := by decide +kernel
theorem d_Line_init_12 : decode b_Line_init 12 = .ok (.aload_n 0, 1) := by decide +kernel
theorem d_Line_init_13 : decode b_Line_init 13 = .ok (.iconst 0, 1) := by decide +kernel
theorem d_Line_init_14 : decode b_Line_init 14 = .ok (.putfield 13, 3) := by decide +kernel
theorem d_Line_init_17 : decode b_Line_init 17 = .ok (.aload_n 0, 1) := by decide +kernel
theorem d_Line_init_18 : decode b_Line_init 18 = .ok (.iconst 0, 1) := by decide +kernel
theorem d_Line_init_19 : decode b_Line_init 19 = .ok (.putfield 17, 3) := by decide +kernel
theorem d_Line_init_22 : decode b_Line_init 22 = .ok (.return_, 1) := by decide +kernel
def w_Line_init (g : zG) (h0 : Nat) (a : Nat → Nat) : va_W := [(h0, .inr (5, [.ref (a 0), .int 0, .int 0])), ((a 0), .inl (gt g 1, 60, .inl (fun _ => 0)))]
set_option maxHeartbeats 4000000 in
set_option maxRecDepth 100000 in
theorem n_Line_init (l : Launch) (g : zG) (h0 : Nat) (sz : Nat) : Met l y_Line_init (mw y_Line_init b_Line_init 1 none) (rmC 1 1 60) (Pn g [.ref h0] sz [(h0, .inr (5, [.null, .int 0, .int 0]))]) (Qn g sz [(h0, .inr (5, [.null, .int 0, .int 0]))] (w_Line_init g h0)) 1 60 (va_A [(h0, .inr (5, [.null, .int 0, .int 0]))] sz) := by
  refine Met.ofW (cc := b_Line_init) (maxL := 1) (ret := none) (by decide) rfl ?_
  intro p e s m args below meth c s₁ B hml hv
  obtain ⟨rfl, hsz, hP, hSt, hD0⟩ := hv
  have hx := B.exec
  have hb := B.bytes
  have hr := B.returns
  have hts : ∀ w ∈ WS, w.before _ s = true := fun w hw => atoms_spec (ws := mw y_Line_init b_Line_init 1 none) B.pre w (List.mem_cons_of_mem _ hw)
  have hown : s.vm.findClass R_Line = some m.cls := findClass_of_methodNamed B.named
  have hlocks := B.notSynchronized
  have hin := (name_of_methodNamed B.named B.method).1
  have hK := hSt.1
  have hN := hSt.2.1
  have hAO3 := hSt.2.2.1
  have hAO4 := hSt.2.2.2
  subst hsz
  have hD := hD0.self (sz := s.heap.size)
  unfold Qn
  generalize hAe : va_A [(h0, .inr (5, [.null, .int 0, .int 0]))] s.heap.size = A at hD ⊢
  have hA : ∀ q : Nat, s.heap.size ≤ q → A q := fun q h => by rw [← hAe]; exact Or.inr h
  have hS : va_S A s.heap s.heap [] := va_S.rf
  have hl := lv_entry ([.ref h0]) (n := 1) (Nat.le_of_ble_eq_true rfl)
  rw [lg_entry_eq]
  generalize (lg_sl ([.ref h0]) ++ List.replicate (1 - (lg_sl ([.ref h0])).length) Slot.unset).toArray = ls at hl ⊢
  have hl : lv_has ls 1 [(0, .ref h0)] := hl
  have hP : va_P (gD g) classes [(h0, .inr (5, [.null, .int 0, .int 0]))] s.heap := hP
  refine lv_aload_n hx hb d_Line_init_0 rfl (lv_at hl 0 rfl) ?_
  refine W.objInit hx hb hown (hts _ wm_Line_1) (hts _ wi_Obj) (hts _ wc_Obj) rfl (by rw [hml]; exact hl.1) rfl d_Line_init_1 (Nat.le_of_ble_eq_true rfl) (Nat.le_of_ble_eq_true rfl) ?_
  refine W.eq (g2 := F0 m 4 ls []) rfl ?_
  refine lv_aload_n hx hb d_Line_init_4 rfl (lv_at hl 0 rfl) ?_
  refine lv_bipush (v := 60) hx hb d_Line_init_5 (by decide) ?_
  refine y_newa (N' := 60) (atype := .char) hx hb (hts _ wa_char) rfl 1 rfl (fun _ => rfl) rfl hK hP hD hS hA rfl (by decide) (by decide) (Nat.le_of_ble_eq_true rfl) (Nat.le_of_ble_eq_true rfl) (Nat.le_of_ble_eq_true rfl) d_Line_init_7 (fun q7 H hP hD hS => ?_)
  have hP : va_P (gD g) classes [(h0, .inr (5, [.null, .int 0, .int 0])), (q7, .inl (gt g 1, 60, .inl (fun _ => 0)))] H := hP
  have hD : va_D A [(h0, .inr (5, [.null, .int 0, .int 0])), (q7, .inl (gt g 1, 60, .inl (fun _ => 0)))] := hD
  refine W.widen (k := 1) (n := 60) (Nat.le_of_ble_eq_true rfl) (Nat.le_of_ble_eq_true rfl) ?_
  refine va_putF (v := .ref q7) hx hb hts kc_Line.2.1 t_Line kc_Line.2.2.1 kc_Line.2.2.2 hown hK hP hD hS 0 rfl kc_Line.1 0 (by decide) (hts _ wf_Line_9) (fun _ h9 => h9) rfl hin rfl (kc_Line.2.2.1 0 (by decide)) rfl rfl (Nat.le_of_ble_eq_true rfl) d_Line_init_9 (fun H locs hP hD hS => ?_)
  have hP : va_P (gD g) classes [(h0, .inr (5, [.ref q7, .int 0, .int 0])), (q7, .inl (gt g 1, 60, .inl (fun _ => 0)))] H := hP
  have hD : va_D A [(h0, .inr (5, [.ref q7, .int 0, .int 0])), (q7, .inl (gt g 1, 60, .inl (fun _ => 0)))] := hD
  refine lv_aload_n hx hb d_Line_init_12 rfl (lv_at hl 0 rfl) ?_
  refine lv_iconst (v := 0) hx hb d_Line_init_13 (by decide) ?_
  refine va_put (v := .int 0) hx hb hts kc_Line.2.1 t_Line kc_Line.2.2.1 kc_Line.2.2.2 hown hK hP hD hS 0 rfl kc_Line.1 1 (by decide) (hts _ wf_Line_13) (fun _ h9 => h9) rfl (kc_Line.2.2.1 1 (by decide)) rfl rfl (Nat.le_of_ble_eq_true rfl) d_Line_init_14 (fun H locs hP hD hS => ?_)
  have hP : va_P (gD g) classes [(h0, .inr (5, [.ref q7, .int 0, .int 0])), (q7, .inl (gt g 1, 60, .inl (fun _ => 0)))] H := hP
  have hD : va_D A [(h0, .inr (5, [.ref q7, .int 0, .int 0])), (q7, .inl (gt g 1, 60, .inl (fun _ => 0)))] := hD
  refine lv_aload_n hx hb d_Line_init_17 rfl (lv_at hl 0 rfl) ?_
  refine lv_iconst (v := 0) hx hb d_Line_init_18 (by decide) ?_
  refine va_put (v := .int 0) hx hb hts kc_Line.2.1 t_Line kc_Line.2.2.1 kc_Line.2.2.2 hown hK hP hD hS 0 rfl kc_Line.1 2 (by decide) (hts _ wf_Line_17) (fun _ h9 => h9) rfl (kc_Line.2.2.1 2 (by decide)) rfl rfl (Nat.le_of_ble_eq_true rfl) d_Line_init_19 (fun H locs hP hD hS => ?_)
  have hP : va_P (gD g) classes [(h0, .inr (5, [.ref q7, .int 0, .int 0])), (q7, .inl (gt g 1, 60, .inl (fun _ => 0)))] H := hP
  have hD : va_D A [(h0, .inr (5, [.ref q7, .int 0, .int 0])), (q7, .inl (gt g 1, 60, .inl (fun _ => 0)))] := hD
  exact W.vret hx hb hr (fun t ht hW => ⟨⟨(fun i => [q7].getD i 0), rfl, trivial, by show va_P _ _ _ _; rw [ht]; exact hP, hD⟩, hS.F ht⟩) hS.2.2 d_Line_init_22
theorem d_ByteRow_init_0 : decode b_ByteRow_init 0 = .ok (.aload_n 0, 1) := by decide +kernel
theorem d_ByteRow_init_1 : decode b_ByteRow_init 1 = .ok (.invokespecial 1, 3) := by decide +kernel
theorem d_ByteRow_init_4 : decode b_ByteRow_init 4 = .ok (.aload_n 0, 1) := by decide +kernel
theorem d_ByteRow_init_5 : decode b_ByteRow_init 5 = .ok (.iconst 0, 1) := by decide +kernel
theorem d_ByteRow_init_6 : decode b_ByteRow_init 6 = .ok (.putfield 7, 3) := by decide +kernel
theorem d_ByteRow_init_9 : decode b_ByteRow_init 9 = .ok (.aload_n 0, 1) := by decide +kernel
theorem d_ByteRow_init_10 : decode b_ByteRow_init 10 = .ok (.iload_n 1, 1) := by decide +kernel
theorem d_ByteRow_init_11 : decode b_ByteRow_init 11 = .ok (.newarray .byte, 2) := by decide +kernel
theorem d_ByteRow_init_13 : decode b_ByteRow_init 13 = .ok (.putfield 13, 3) := by decide +kernel
theorem d_ByteRow_init_16 : decode b_ByteRow_init 16 = .ok (.return_, 1) := by decide +kernel
def w_ByteRow_init__0 (g : zG) (h0 : Nat) (a : Nat → Nat) : va_W := [(h0, .inr (9, [.ref (a 0), .int 0])), ((a 0), .inl (gt g 2, 0, .inl (fun _ => 0)))]
set_option maxHeartbeats 4000000 in
set_option maxRecDepth 100000 in
theorem n_ByteRow_init__0 (l : Launch) (g : zG) (h0 : Nat) (sz : Nat) : Met l y_ByteRow_init (mw y_ByteRow_init b_ByteRow_init 2 none) (rmC 1 1 0) (Pn g [.ref h0, .int 0] sz [(h0, .inr (9, [.null, .int 0]))]) (Qn g sz [(h0, .inr (9, [.null, .int 0]))] (w_ByteRow_init__0 g h0)) 1 0 (va_A [(h0, .inr (9, [.null, .int 0]))] sz) := by
  refine Met.ofW (cc := b_ByteRow_init) (maxL := 2) (ret := none) (by decide) rfl ?_
  intro p e s m args below meth c s₁ B hml hv
  obtain ⟨rfl, hsz, hP, hSt, hD0⟩ := hv
  have hx := B.exec
  have hb := B.bytes
  have hr := B.returns
  have hts : ∀ w ∈ WS, w.before _ s = true := fun w hw => atoms_spec (ws := mw y_ByteRow_init b_ByteRow_init 2 none) B.pre w (List.mem_cons_of_mem _ hw)
  have hown : s.vm.findClass R_ByteRow = some m.cls := findClass_of_methodNamed B.named
  have hlocks := B.notSynchronized
  have hin := (name_of_methodNamed B.named B.method).1
  have hK := hSt.1
  have hN := hSt.2.1
  have hAO3 := hSt.2.2.1
  have hAO4 := hSt.2.2.2
  subst hsz
  have hD := hD0.self (sz := s.heap.size)
  unfold Qn
  generalize hAe : va_A [(h0, .inr (9, [.null, .int 0]))] s.heap.size = A at hD ⊢
  have hA : ∀ q : Nat, s.heap.size ≤ q → A q := fun q h => by rw [← hAe]; exact Or.inr h
  have hS : va_S A s.heap s.heap [] := va_S.rf
  have hl := lv_entry ([.ref h0, .int 0]) (n := 2) (Nat.le_of_ble_eq_true rfl)
  rw [lg_entry_eq]
  generalize (lg_sl ([.ref h0, .int 0]) ++ List.replicate (2 - (lg_sl ([.ref h0, .int 0])).length) Slot.unset).toArray = ls at hl ⊢
  have hl : lv_has ls 2 [(0, .ref h0), (1, .int 0)] := hl
  have hP : va_P (gD g) classes [(h0, .inr (9, [.null, .int 0]))] s.heap := hP
  refine lv_aload_n hx hb d_ByteRow_init_0 rfl (lv_at hl 0 rfl) ?_
  refine W.objInit hx hb hown (hts _ wm_ByteRow_1) (hts _ wi_Obj) (hts _ wc_Obj) rfl (by rw [hml]; exact hl.1) rfl d_ByteRow_init_1 (Nat.le_of_ble_eq_true rfl) (Nat.le_of_ble_eq_true rfl) ?_
  refine W.eq (g2 := F0 m 4 ls []) rfl ?_
  refine lv_aload_n hx hb d_ByteRow_init_4 rfl (lv_at hl 0 rfl) ?_
  refine lv_iconst (v := 0) hx hb d_ByteRow_init_5 (by decide) ?_
  refine va_put (v := .int 0) hx hb hts kc_ByteRow.2.1 t_ByteRow kc_ByteRow.2.2.1 kc_ByteRow.2.2.2 hown hK hP hD hS 0 rfl kc_ByteRow.1 1 (by decide) (hts _ wf_ByteRow_7) (fun _ h9 => h9) rfl (kc_ByteRow.2.2.1 1 (by decide)) rfl rfl (Nat.le_of_ble_eq_true rfl) d_ByteRow_init_6 (fun H locs hP hD hS => ?_)
  have hP : va_P (gD g) classes [(h0, .inr (9, [.null, .int 0]))] H := hP
  have hD : va_D A [(h0, .inr (9, [.null, .int 0]))] := hD
  refine lv_aload_n hx hb d_ByteRow_init_9 rfl (lv_at hl 0 rfl) ?_
  refine lv_iload_n hx hb d_ByteRow_init_10 rfl (lv_at hl 1 rfl) ?_
  refine y_newa (N' := 0) (atype := .byte) hx hb (hts _ wa_byte) rfl 2 rfl (fun _ => rfl) rfl hK hP hD hS hA rfl (by decide) (by decide) (Nat.le_of_ble_eq_true rfl) (Nat.le_of_ble_eq_true rfl) (Nat.le_of_ble_eq_true rfl) d_ByteRow_init_11 (fun q11 H hP hD hS => ?_)
  have hP : va_P (gD g) classes [(h0, .inr (9, [.null, .int 0])), (q11, .inl (gt g 2, 0, .inl (fun _ => 0)))] H := hP
  have hD : va_D A [(h0, .inr (9, [.null, .int 0])), (q11, .inl (gt g 2, 0, .inl (fun _ => 0)))] := hD
  refine W.widen (k := 1) (n := 0) (Nat.le_of_ble_eq_true rfl) (Nat.le_of_ble_eq_true rfl) ?_
  refine va_putF (v := .ref q11) hx hb hts kc_ByteRow.2.1 t_ByteRow kc_ByteRow.2.2.1 kc_ByteRow.2.2.2 hown hK hP hD hS 0 rfl kc_ByteRow.1 0 (by decide) (hts _ wf_ByteRow_13) (fun _ h9 => h9) rfl hin rfl (kc_ByteRow.2.2.1 0 (by decide)) rfl rfl (Nat.le_of_ble_eq_true rfl) d_ByteRow_init_13 (fun H locs hP hD hS => ?_)
  have hP : va_P (gD g) classes [(h0, .inr (9, [.ref q11, .int 0])), (q11, .inl (gt g 2, 0, .inl (fun _ => 0)))] H := hP
  have hD : va_D A [(h0, .inr (9, [.ref q11, .int 0])), (q11, .inl (gt g 2, 0, .inl (fun _ => 0)))] := hD
  exact W.vret hx hb hr (fun t ht hW => ⟨⟨(fun i => [q11].getD i 0), rfl, trivial, by show va_P _ _ _ _; rw [ht]; exact hP, hD⟩, hS.F ht⟩) hS.2.2 d_ByteRow_init_16
def w_ByteRow_init__120 (g : zG) (h0 : Nat) (a : Nat → Nat) : va_W := [(h0, .inr (9, [.ref (a 0), .int 0])), ((a 0), .inl (gt g 2, 120, .inl (fun _ => 0)))]
set_option maxHeartbeats 4000000 in
set_option maxRecDepth 100000 in
theorem n_ByteRow_init__120 (l : Launch) (g : zG) (h0 : Nat) (sz : Nat) : Met l y_ByteRow_init (mw y_ByteRow_init b_ByteRow_init 2 none) (rmC 1 1 120) (Pn g [.ref h0, .int 120] sz [(h0, .inr (9, [.null, .int 0]))]) (Qn g sz [(h0, .inr (9, [.null, .int 0]))] (w_ByteRow_init__120 g h0)) 1 120 (va_A [(h0, .inr (9, [.null, .int 0]))] sz) := by
  refine Met.ofW (cc := b_ByteRow_init) (maxL := 2) (ret := none) (by decide) rfl ?_
  intro p e s m args below meth c s₁ B hml hv
  obtain ⟨rfl, hsz, hP, hSt, hD0⟩ := hv
  have hx := B.exec
  have hb := B.bytes
  have hr := B.returns
  have hts : ∀ w ∈ WS, w.before _ s = true := fun w hw => atoms_spec (ws := mw y_ByteRow_init b_ByteRow_init 2 none) B.pre w (List.mem_cons_of_mem _ hw)
  have hown : s.vm.findClass R_ByteRow = some m.cls := findClass_of_methodNamed B.named
  have hlocks := B.notSynchronized
  have hin := (name_of_methodNamed B.named B.method).1
  have hK := hSt.1
  have hN := hSt.2.1
  have hAO3 := hSt.2.2.1
  have hAO4 := hSt.2.2.2
  subst hsz
  have hD := hD0.self (sz := s.heap.size)
  unfold Qn
  generalize hAe : va_A [(h0, .inr (9, [.null, .int 0]))] s.heap.size = A at hD ⊢
  have hA : ∀ q : Nat, s.heap.size ≤ q → A q := fun q h => by rw [← hAe]; exact Or.inr h
  have hS : va_S A s.heap s.heap [] := va_S.rf
  have hl := lv_entry ([.ref h0, .int 120]) (n := 2) (Nat.le_of_ble_eq_true rfl)
  rw [lg_entry_eq]
  generalize (lg_sl ([.ref h0, .int 120]) ++ List.replicate (2 - (lg_sl ([.ref h0, .int 120])).length) Slot.unset).toArray = ls at hl ⊢
  have hl : lv_has ls 2 [(0, .ref h0), (1, .int 120)] := hl
  have hP : va_P (gD g) classes [(h0, .inr (9, [.null, .int 0]))] s.heap := hP
  refine lv_aload_n hx hb d_ByteRow_init_0 rfl (lv_at hl 0 rfl) ?_
  refine W.objInit hx hb hown (hts _ wm_ByteRow_1) (hts _ wi_Obj) (hts _ wc_Obj) rfl (by rw [hml]; exact hl.1) rfl d_ByteRow_init_1 (Nat.le_of_ble_eq_true rfl) (Nat.le_of_ble_eq_true rfl) ?_
  refine W.eq (g2 := F0 m 4 ls []) rfl ?_
  refine lv_aload_n hx hb d_ByteRow_init_4 rfl (lv_at hl 0 rfl) ?_
  refine lv_iconst (v := 0) hx hb d_ByteRow_init_5 (by decide) ?_
  refine va_put (v := .int 0) hx hb hts kc_ByteRow.2.1 t_ByteRow kc_ByteRow.2.2.1 kc_ByteRow.2.2.2 hown hK hP hD hS 0 rfl kc_ByteRow.1 1 (by decide) (hts _ wf_ByteRow_7) (fun _ h9 => h9) rfl (kc_ByteRow.2.2.1 1 (by decide)) rfl rfl (Nat.le_of_ble_eq_true rfl) d_ByteRow_init_6 (fun H locs hP hD hS => ?_)
  have hP : va_P (gD g) classes [(h0, .inr (9, [.null, .int 0]))] H := hP
  have hD : va_D A [(h0, .inr (9, [.null, .int 0]))] := hD
  refine lv_aload_n hx hb d_ByteRow_init_9 rfl (lv_at hl 0 rfl) ?_
  refine lv_iload_n hx hb d_ByteRow_init_10 rfl (lv_at hl 1 rfl) ?_
  refine y_newa (N' := 120) (atype := .byte) hx hb (hts _ wa_byte) rfl 2 rfl (fun _ => rfl) rfl hK hP hD hS hA rfl (by decide) (by decide) (Nat.le_of_ble_eq_true rfl) (Nat.le_of_ble_eq_true rfl) (Nat.le_of_ble_eq_true rfl) d_ByteRow_init_11 (fun q11 H hP hD hS => ?_)
  have hP : va_P (gD g) classes [(h0, .inr (9, [.null, .int 0])), (q11, .inl (gt g 2, 120, .inl (fun _ => 0)))] H := hP
  have hD : va_D A [(h0, .inr (9, [.null, .int 0])), (q11, .inl (gt g 2, 120, .inl (fun _ => 0)))] := hD
  refine W.widen (k := 1) (n := 120) (Nat.le_of_ble_eq_true rfl) (Nat.le_of_ble_eq_true rfl) ?_
  refine va_putF (v := .ref q11) hx hb hts kc_ByteRow.2.1 t_ByteRow kc_ByteRow.2.2.1 kc_ByteRow.2.2.2 hown hK hP hD hS 0 rfl kc_ByteRow.1 0 (by decide) (hts _ wf_ByteRow_13) (fun _ h9 => h9) rfl hin rfl (kc_ByteRow.2.2.1 0 (by decide)) rfl rfl (Nat.le_of_ble_eq_true rfl) d_ByteRow_init_13 (fun H locs hP hD hS => ?_)
  have hP : va_P (gD g) classes [(h0, .inr (9, [.ref q11, .int 0])), (q11, .inl (gt g 2, 120, .inl (fun _ => 0)))] H := hP
  have hD : va_D A [(h0, .inr (9, [.ref q11, .int 0])), (q11, .inl (gt g 2, 120, .inl (fun _ => 0)))] := hD
  exact W.vret hx hb hr (fun t ht hW => ⟨⟨(fun i => [q11].getD i 0), rfl, trivial, by show va_P _ _ _ _; rw [ht]; exact hP, hD⟩, hS.F ht⟩) hS.2.2 d_ByteRow_init_16
def w_ByteRow_init__1000 (g : zG) (h0 : Nat) (a : Nat → Nat) : va_W := [(h0, .inr (9, [.ref (a 0), .int 0])), ((a 0), .inl (gt g 2, 1000, .inl (fun _ => 0)))]
set_option maxHeartbeats 4000000 in
set_option maxRecDepth 100000 in
theorem n_ByteRow_init__1000 (l : Launch) (g : zG) (h0 : Nat) (sz : Nat) : Met l y_ByteRow_init (mw y_ByteRow_init b_ByteRow_init 2 none) (rmC 1 1 1000) (Pn g [.ref h0, .int 1000] sz [(h0, .inr (9, [.null, .int 0]))]) (Qn g sz [(h0, .inr (9, [.null, .int 0]))] (w_ByteRow_init__1000 g h0)) 1 1000 (va_A [(h0, .inr (9, [.null, .int 0]))] sz) := by
  refine Met.ofW (cc := b_ByteRow_init) (maxL := 2) (ret := none) (by decide) rfl ?_
  intro p e s m args below meth c s₁ B hml hv
  obtain ⟨rfl, hsz, hP, hSt, hD0⟩ := hv
  have hx := B.exec
  have hb := B.bytes
  have hr := B.returns
  have hts : ∀ w ∈ WS, w.before _ s = true := fun w hw => atoms_spec (ws := mw y_ByteRow_init b_ByteRow_init 2 none) B.pre w (List.mem_cons_of_mem _ hw)
  have hown : s.vm.findClass R_ByteRow = some m.cls := findClass_of_methodNamed B.named
  have hlocks := B.notSynchronized
  have hin := (name_of_methodNamed B.named B.method).1
  have hK := hSt.1
  have hN := hSt.2.1
  have hAO3 := hSt.2.2.1
  have hAO4 := hSt.2.2.2
  subst hsz
  have hD := hD0.self (sz := s.heap.size)
  unfold Qn
  generalize hAe : va_A [(h0, .inr (9, [.null, .int 0]))] s.heap.size = A at hD ⊢
  have hA : ∀ q : Nat, s.heap.size ≤ q → A q := fun q h => by rw [← hAe]; exact Or.inr h
  have hS : va_S A s.heap s.heap [] := va_S.rf
  have hl := lv_entry ([.ref h0, .int 1000]) (n := 2) (Nat.le_of_ble_eq_true rfl)
  rw [lg_entry_eq]
  generalize (lg_sl ([.ref h0, .int 1000]) ++ List.replicate (2 - (lg_sl ([.ref h0, .int 1000])).length) Slot.unset).toArray = ls at hl ⊢
  have hl : lv_has ls 2 [(0, .ref h0), (1, .int 1000)] := hl
  have hP : va_P (gD g) classes [(h0, .inr (9, [.null, .int 0]))] s.heap := hP
  refine lv_aload_n hx hb d_ByteRow_init_0 rfl (lv_at hl 0 rfl) ?_
  refine W.objInit hx hb hown (hts _ wm_ByteRow_1) (hts _ wi_Obj) (hts _ wc_Obj) rfl (by rw [hml]; exact hl.1) rfl d_ByteRow_init_1 (Nat.le_of_ble_eq_true rfl) (Nat.le_of_ble_eq_true rfl) ?_
  refine W.eq (g2 := F0 m 4 ls []) rfl ?_
  refine lv_aload_n hx hb d_ByteRow_init_4 rfl (lv_at hl 0 rfl) ?_
  refine lv_iconst (v := 0) hx hb d_ByteRow_init_5 (by decide) ?_
  refine va_put (v := .int 0) hx hb hts kc_ByteRow.2.1 t_ByteRow kc_ByteRow.2.2.1 kc_ByteRow.2.2.2 hown hK hP hD hS 0 rfl kc_ByteRow.1 1 (by decide) (hts _ wf_ByteRow_7) (fun _ h9 => h9) rfl (kc_ByteRow.2.2.1 1 (by decide)) rfl rfl (Nat.le_of_ble_eq_true rfl) d_ByteRow_init_6 (fun H locs hP hD hS => ?_)
  have hP : va_P (gD g) classes [(h0, .inr (9, [.null, .int 0]))] H := hP
  have hD : va_D A [(h0, .inr (9, [.null, .int 0]))] := hD
  refine lv_aload_n hx hb d_ByteRow_init_9 rfl (lv_at hl 0 rfl) ?_
  refine lv_iload_n hx hb d_ByteRow_init_10 rfl (lv_at hl 1 rfl) ?_
  refine y_newa (N' := 1000) (atype := .byte) hx hb (hts _ wa_byte) rfl 2 rfl (fun _ => rfl) rfl hK hP hD hS hA rfl (by decide) (by decide) (Nat.le_of_ble_eq_true rfl) (Nat.le_of_ble_eq_true rfl) (Nat.le_of_ble_eq_true rfl) d_ByteRow_init_11 (fun q11 H hP hD hS => ?_)
  have hP : va_P (gD g) classes [(h0, .inr (9, [.null, .int 0])), (q11, .inl (gt g 2, 1000, .inl (fun _ => 0)))] H := hP
  have hD : va_D A [(h0, .inr (9, [.null, .int 0])), (q11, .inl (gt g 2, 1000, .inl (fun _ => 0)))] := hD
  refine W.widen (k := 1) (n := 1000) (Nat.le_of_ble_eq_true rfl) (Nat.le_of_ble_eq_true rfl) ?_
  refine va_putF (v := .ref q11) hx hb hts kc_ByteRow.2.1 t_ByteRow kc_ByteRow.2.2.1 kc_ByteRow.2.2.2 hown hK hP hD hS 0 rfl kc_ByteRow.1 0 (by decide) (hts _ wf_ByteRow_13) (fun _ h9 => h9) rfl hin rfl (kc_ByteRow.2.2.1 0 (by decide)) rfl rfl (Nat.le_of_ble_eq_true rfl) d_ByteRow_init_13 (fun H locs hP hD hS => ?_)
  have hP : va_P (gD g) classes [(h0, .inr (9, [.ref q11, .int 0])), (q11, .inl (gt g 2, 1000, .inl (fun _ => 0)))] H := hP
  have hD : va_D A [(h0, .inr (9, [.ref q11, .int 0])), (q11, .inl (gt g 2, 1000, .inl (fun _ => 0)))] := hD
  exact W.vret hx hb hr (fun t ht hW => ⟨⟨(fun i => [q11].getD i 0), rfl, trivial, by show va_P _ _ _ _; rw [ht]; exact hP, hD⟩, hS.F ht⟩) hS.2.2 d_ByteRow_init_16
def w_Head_clear__c (g : zG) (h0 : Nat) (x1 x2 x3 x4 x5 : Int32) (a : Nat → Nat) : va_W := [(h0, .inr (6, [.int 0, .int 0, .int 0, .int (-1), .int 0]))]
set_option maxHeartbeats 4000000 in
set_option maxRecDepth 100000 in
theorem n_Head_clear__c (l : Launch) (g : zG) (h0 : Nat) (x1 x2 x3 x4 x5 : Int32) (sz : Nat) : Met l y_Head_clear (mw y_Head_clear b_Head_clear 1 none) (rmC 0 0 0) (Pn g [.ref h0] sz [(h0, .inr (6, [.int x1, .int x2, .int x3, .int x4, .int x5]))]) (Qn g sz [(h0, .inr (6, [.int x1, .int x2, .int x3, .int x4, .int x5]))] (w_Head_clear__c g h0 x1 x2 x3 x4 x5)) 0 0 (va_A [(h0, .inr (6, [.int x1, .int x2, .int x3, .int x4, .int x5]))] sz) := by
  refine Met.ofW (cc := b_Head_clear) (maxL := 1) (ret := none) (by decide) rfl ?_
  intro p e s m args below meth c s₁ B hml hv
  obtain ⟨rfl, hsz, hP, hSt, hD0⟩ := hv
  have hx := B.exec
  have hb := B.bytes
  have hr := B.returns
  have hts : ∀ w ∈ WS, w.before _ s = true := fun w hw => atoms_spec (ws := mw y_Head_clear b_Head_clear 1 none) B.pre w (List.mem_cons_of_mem _ hw)
  have hown : s.vm.findClass R_Head = some m.cls := findClass_of_methodNamed B.named
  have hlocks := B.notSynchronized
  have hK0 := hSt.1
  have hK := hSt.1
  have hN := hSt.2.1
  have hAO3 := hSt.2.2.1
  have hAO4 := hSt.2.2.2
  subst hsz
  have hD := hD0.self (sz := s.heap.size)
  unfold Qn
  generalize hAe : va_A [(h0, .inr (6, [.int x1, .int x2, .int x3, .int x4, .int x5]))] s.heap.size = A at hD ⊢
  have hA : ∀ q : Nat, s.heap.size ≤ q → A q := fun q h => by rw [← hAe]; exact Or.inr h
  have hS : va_S A s.heap s.heap [] := va_S.rf
  have hl := lv_entry ([.ref h0]) (n := 1) (Nat.le_of_ble_eq_true rfl)
  rw [lg_entry_eq]
  generalize (lg_sl ([.ref h0]) ++ List.replicate (1 - (lg_sl ([.ref h0])).length) Slot.unset).toArray = ls at hl ⊢
  have hl : lv_has ls 1 [(0, .ref h0)] := hl
  have hP : va_P (gD g) classes [(h0, .inr (6, [.int x1, .int x2, .int x3, .int x4, .int x5]))] s.heap := hP
  refine lv_aload_n hx hb d_Head_clear_0 rfl (lv_at hl 0 rfl) ?_
  refine lv_iconst (v := 0) hx hb d_Head_clear_1 (by decide) ?_
  refine va_put (v := .int 0) hx hb hts kc_Head.2.1 t_Head kc_Head.2.2.1 kc_Head.2.2.2 hown hK hP hD hS 0 rfl kc_Head.1 0 (by decide) (hts _ wf_Head_12) (fun _ h9 => h9) rfl (kc_Head.2.2.1 0 (by decide)) rfl rfl (Nat.le_of_ble_eq_true rfl) d_Head_clear_2 (fun H locs hP hD hS => ?_)
  have hP : va_P (gD g) classes [(h0, .inr (6, [.int 0, .int x2, .int x3, .int x4, .int x5]))] H := hP
  have hD : va_D A [(h0, .inr (6, [.int 0, .int x2, .int x3, .int x4, .int x5]))] := hD
  refine lv_aload_n hx hb d_Head_clear_5 rfl (lv_at hl 0 rfl) ?_
  refine lv_iconst (v := 0) hx hb d_Head_clear_6 (by decide) ?_
  refine va_put (v := .int 0) hx hb hts kc_Head.2.1 t_Head kc_Head.2.2.1 kc_Head.2.2.2 hown hK hP hD hS 0 rfl kc_Head.1 1 (by decide) (hts _ wf_Head_16) (fun _ h9 => h9) rfl (kc_Head.2.2.1 1 (by decide)) rfl rfl (Nat.le_of_ble_eq_true rfl) d_Head_clear_7 (fun H locs hP hD hS => ?_)
  have hP : va_P (gD g) classes [(h0, .inr (6, [.int 0, .int 0, .int x3, .int x4, .int x5]))] H := hP
  have hD : va_D A [(h0, .inr (6, [.int 0, .int 0, .int x3, .int x4, .int x5]))] := hD
  refine lv_aload_n hx hb d_Head_clear_10 rfl (lv_at hl 0 rfl) ?_
  refine lv_iconst (v := 0) hx hb d_Head_clear_11 (by decide) ?_
  refine va_put (v := .int 0) hx hb hts kc_Head.2.1 t_Head kc_Head.2.2.1 kc_Head.2.2.2 hown hK hP hD hS 0 rfl kc_Head.1 2 (by decide) (hts _ wf_Head_19) (fun _ h9 => h9) rfl (kc_Head.2.2.1 2 (by decide)) rfl rfl (Nat.le_of_ble_eq_true rfl) d_Head_clear_12 (fun H locs hP hD hS => ?_)
  have hP : va_P (gD g) classes [(h0, .inr (6, [.int 0, .int 0, .int 0, .int x4, .int x5]))] H := hP
  have hD : va_D A [(h0, .inr (6, [.int 0, .int 0, .int 0, .int x4, .int x5]))] := hD
  refine lv_aload_n hx hb d_Head_clear_15 rfl (lv_at hl 0 rfl) ?_
  refine lv_iconst (v := (-1)) hx hb d_Head_clear_16 (by decide) ?_
  refine va_put (v := .int (-1)) hx hb hts kc_Head.2.1 t_Head kc_Head.2.2.1 kc_Head.2.2.2 hown hK hP hD hS 0 rfl kc_Head.1 3 (by decide) (hts _ wf_Head_22) (fun _ h9 => h9) rfl (kc_Head.2.2.1 3 (by decide)) rfl rfl (Nat.le_of_ble_eq_true rfl) d_Head_clear_17 (fun H locs hP hD hS => ?_)
  have hP : va_P (gD g) classes [(h0, .inr (6, [.int 0, .int 0, .int 0, .int (-1), .int x5]))] H := hP
  have hD : va_D A [(h0, .inr (6, [.int 0, .int 0, .int 0, .int (-1), .int x5]))] := hD
  refine lv_aload_n hx hb d_Head_clear_20 rfl (lv_at hl 0 rfl) ?_
  refine lv_iconst (v := 0) hx hb d_Head_clear_21 (by decide) ?_
  refine va_put (v := .int 0) hx hb hts kc_Head.2.1 t_Head kc_Head.2.2.1 kc_Head.2.2.2 hown hK hP hD hS 0 rfl kc_Head.1 4 (by decide) (hts _ wf_Head_25) (fun _ h9 => h9) rfl (kc_Head.2.2.1 4 (by decide)) rfl rfl (Nat.le_of_ble_eq_true rfl) d_Head_clear_22 (fun H locs hP hD hS => ?_)
  have hP : va_P (gD g) classes [(h0, .inr (6, [.int 0, .int 0, .int 0, .int (-1), .int 0]))] H := hP
  have hD : va_D A [(h0, .inr (6, [.int 0, .int 0, .int 0, .int (-1), .int 0]))] := hD
  exact W.vret hx hb hr (fun t ht hW => ⟨⟨(fun i => [].getD i 0), rfl, trivial, by show va_P _ _ _ _; rw [ht]; exact hP, hD⟩, hS.F ht⟩) hS.2.2 d_Head_clear_25
def w_Line_clear__c (g : zG) (h0 y1 : Nat) (x1 x2 : Int32) (a : Nat → Nat) : va_W := [(h0, .inr (5, [.ref y1, .int 0, .int 0]))]
set_option maxHeartbeats 4000000 in
set_option maxRecDepth 100000 in
theorem n_Line_clear__c (l : Launch) (g : zG) (h0 y1 : Nat) (x1 x2 : Int32) (sz : Nat) : Met l y_Line_clear (mw y_Line_clear b_Line_clear 1 none) (rmC 0 0 0) (Pn g [.ref h0] sz [(h0, .inr (5, [.ref y1, .int x1, .int x2]))]) (Qn g sz [(h0, .inr (5, [.ref y1, .int x1, .int x2]))] (w_Line_clear__c g h0 y1 x1 x2)) 0 0 (va_A [(h0, .inr (5, [.ref y1, .int x1, .int x2]))] sz) := by
  refine Met.ofW (cc := b_Line_clear) (maxL := 1) (ret := none) (by decide) rfl ?_
  intro p e s m args below meth c s₁ B hml hv
  obtain ⟨rfl, hsz, hP, hSt, hD0⟩ := hv
  have hx := B.exec
  have hb := B.bytes
  have hr := B.returns
  have hts : ∀ w ∈ WS, w.before _ s = true := fun w hw => atoms_spec (ws := mw y_Line_clear b_Line_clear 1 none) B.pre w (List.mem_cons_of_mem _ hw)
  have hown : s.vm.findClass R_Line = some m.cls := findClass_of_methodNamed B.named
  have hlocks := B.notSynchronized
  have hK0 := hSt.1
  have hK := hSt.1
  have hN := hSt.2.1
  have hAO3 := hSt.2.2.1
  have hAO4 := hSt.2.2.2
  subst hsz
  have hD := hD0.self (sz := s.heap.size)
  unfold Qn
  generalize hAe : va_A [(h0, .inr (5, [.ref y1, .int x1, .int x2]))] s.heap.size = A at hD ⊢
  have hA : ∀ q : Nat, s.heap.size ≤ q → A q := fun q h => by rw [← hAe]; exact Or.inr h
  have hS : va_S A s.heap s.heap [] := va_S.rf
  have hl := lv_entry ([.ref h0]) (n := 1) (Nat.le_of_ble_eq_true rfl)
  rw [lg_entry_eq]
  generalize (lg_sl ([.ref h0]) ++ List.replicate (1 - (lg_sl ([.ref h0])).length) Slot.unset).toArray = ls at hl ⊢
  have hl : lv_has ls 1 [(0, .ref h0)] := hl
  have hP : va_P (gD g) classes [(h0, .inr (5, [.ref y1, .int x1, .int x2]))] s.heap := hP
  refine lv_aload_n hx hb d_Line_clear_0 rfl (lv_at hl 0 rfl) ?_
  refine lv_iconst (v := 0) hx hb d_Line_clear_1 (by decide) ?_
  refine va_put (v := .int 0) hx hb hts kc_Line.2.1 t_Line kc_Line.2.2.1 kc_Line.2.2.2 hown hK hP hD hS 0 rfl kc_Line.1 1 (by decide) (hts _ wf_Line_13) (fun _ h9 => h9) rfl (kc_Line.2.2.1 1 (by decide)) rfl rfl (Nat.le_of_ble_eq_true rfl) d_Line_clear_2 (fun H locs hP hD hS => ?_)
  have hP : va_P (gD g) classes [(h0, .inr (5, [.ref y1, .int 0, .int x2]))] H := hP
  have hD : va_D A [(h0, .inr (5, [.ref y1, .int 0, .int x2]))] := hD
  refine lv_aload_n hx hb d_Line_clear_5 rfl (lv_at hl 0 rfl) ?_
  refine lv_iconst (v := 0) hx hb d_Line_clear_6 (by decide) ?_
  refine va_put (v := .int 0) hx hb hts kc_Line.2.1 t_Line kc_Line.2.2.1 kc_Line.2.2.2 hown hK hP hD hS 0 rfl kc_Line.1 2 (by decide) (hts _ wf_Line_17) (fun _ h9 => h9) rfl (kc_Line.2.2.1 2 (by decide)) rfl rfl (Nat.le_of_ble_eq_true rfl) d_Line_clear_7 (fun H locs hP hD hS => ?_)
  have hP : va_P (gD g) classes [(h0, .inr (5, [.ref y1, .int 0, .int 0]))] H := hP
  have hD : va_D A [(h0, .inr (5, [.ref y1, .int 0, .int 0]))] := hD
  exact W.vret hx hb hr (fun t ht hW => ⟨⟨(fun i => [].getD i 0), rfl, trivial, by show va_P _ _ _ _; rw [ht]; exact hP, hD⟩, hS.F ht⟩) hS.2.2 d_Line_clear_10
theorem d_Head_init_0 : decode b_Head_init 0 = .ok (.aload_n 0, 1) := by decide +kernel
theorem d_Head_init_1 : decode b_Head_init 1 = .ok (.invokespecial 1, 3) := by decide +kernel
theorem d_Head_init_4 : decode b_Head_init 4 = .ok (.aload_n 0, 1) := by decide +kernel
theorem d_Head_init_5 : decode b_Head_init 5 = .ok (.invokevirtual 7, 3) := by decide +kernel
theorem d_Head_init_8 : decode b_Head_init 8 = .ok (.return_, 1) := by decide +kernel
def w_Head_init (g : zG) (h0 : Nat) (a : Nat → Nat) : va_W := [(h0, .inr (6, [.int 0, .int 0, .int 0, .int (-1), .int 0]))]
set_option maxHeartbeats 4000000 in
set_option maxRecDepth 100000 in
theorem n_Head_init (l : Launch) (g : zG) (h0 : Nat) (sz : Nat) : Met l y_Head_init (mw y_Head_init b_Head_init 1 none) (rmC 1 0 0) (Pn g [.ref h0] sz [(h0, .inr (6, [.int 0, .int 0, .int 0, .int 0, .int 0]))]) (Qn g sz [(h0, .inr (6, [.int 0, .int 0, .int 0, .int 0, .int 0]))] (w_Head_init g h0)) 0 0 (va_A [(h0, .inr (6, [.int 0, .int 0, .int 0, .int 0, .int 0]))] sz) := by
  refine Met.ofW (cc := b_Head_init) (maxL := 1) (ret := none) (by decide) rfl ?_
  intro p e s m args below meth c s₁ B hml hv
  obtain ⟨rfl, hsz, hP, hSt, hD0⟩ := hv
  have hx := B.exec
  have hb := B.bytes
  have hr := B.returns
  have hts : ∀ w ∈ WS, w.before _ s = true := fun w hw => atoms_spec (ws := mw y_Head_init b_Head_init 1 none) B.pre w (List.mem_cons_of_mem _ hw)
  have hown : s.vm.findClass R_Head = some m.cls := findClass_of_methodNamed B.named
  have hlocks := B.notSynchronized
  have hin := (name_of_methodNamed B.named B.method).1
  have hK := hSt.1
  have hN := hSt.2.1
  have hAO3 := hSt.2.2.1
  have hAO4 := hSt.2.2.2
  subst hsz
  have hD := hD0.self (sz := s.heap.size)
  unfold Qn
  generalize hAe : va_A [(h0, .inr (6, [.int 0, .int 0, .int 0, .int 0, .int 0]))] s.heap.size = A at hD ⊢
  have hA : ∀ q : Nat, s.heap.size ≤ q → A q := fun q h => by rw [← hAe]; exact Or.inr h
  have hS : va_S A s.heap s.heap [] := va_S.rf
  have hl := lv_entry ([.ref h0]) (n := 1) (Nat.le_of_ble_eq_true rfl)
  rw [lg_entry_eq]
  generalize (lg_sl ([.ref h0]) ++ List.replicate (1 - (lg_sl ([.ref h0])).length) Slot.unset).toArray = ls at hl ⊢
  have hl : lv_has ls 1 [(0, .ref h0)] := hl
  have hP : va_P (gD g) classes [(h0, .inr (6, [.int 0, .int 0, .int 0, .int 0, .int 0]))] s.heap := hP
  refine lv_aload_n hx hb d_Head_init_0 rfl (lv_at hl 0 rfl) ?_
  refine W.objInit hx hb hown (hts _ wm_Head_1) (hts _ wi_Obj) (hts _ wc_Obj) rfl (by rw [hml]; exact hl.1) rfl d_Head_init_1 (Nat.le_of_ble_eq_true rfl) (Nat.le_of_ble_eq_true rfl) ?_
  refine W.eq (g2 := F0 m 4 ls []) rfl ?_
  refine lv_aload_n hx hb d_Head_init_4 rfl (lv_at hl 0 rfl) ?_
  have hPc := hP.sub (ws' := [(h0, .inr (6, [.int 0, .int 0, .int 0, .int 0, .int 0]))]) [0] rfl
  have hDc := hD.sub (ws' := [(h0, .inr (6, [.int 0, .int 0, .int 0, .int 0, .int 0]))]) [0] (by decide) rfl
  have hFc := va_free (wc := [(h0, .inr (6, [.int 0, .int 0, .int 0, .int 0, .int 0]))]) hD hS hA [0] rfl
  refine va_callv (va_runV (C := R_Head) (As := []) (rest := []) ⟨hx, hb, hml, hown, hts⟩ (n_Head_clear__c l g h0 0 0 0 0 0 _) ⟨callB_of 0 hts (ws_good wc_Head_clear) rfl rfl rfl (hts _ wi_Head_clear.2.2) (hts _ wm_Head_7) wd_Head_clear ⟨(Nat.le_of_ble_eq_true rfl), (Nat.le_of_ble_eq_true rfl)⟩, hts _ wi_Head_clear.1, hts _ wi_Head_clear.2.1⟩ ⟨Pn_blind, va_recv (q := (R_Head, F_Head, 5)) hK hP kc_Head.1 (q0 := 0) rfl, fun U hU hW => ⟨rfl, by rw [hU], by rw [hU]; exact hPc, hSt.warm hW, hDc.weaken (fun _ _ _ _ => trivial)⟩⟩ rfl rfl hl.1 rfl (lv_room (Nat.le_of_ble_eq_true rfl)) d_Head_init_5 ⟨(Nat.le_of_ble_eq_true rfl), (Nat.le_of_ble_eq_true rfl)⟩) hS (fun q _ h => hFc q h) hFc (fun a5_1 t H1 locs ht hvm hw hB hz1 hk1 hS => ?_)
  obtain ⟨hP1, hD1⟩ := hB
  rw [ht] at hP1
  obtain ⟨hP, hD⟩ := va_join (wr := []) (w1 := w_Head_clear__c g h0 0 0 0 0 0 a5_1) hP hD [0] [] rfl rfl (by decide) (by decide) hk1 hFc hP1 hD1
  generalize H1 = H at hP hS ⊢
  have hP : va_P (gD g) classes [(h0, .inr (6, [.int 0, .int 0, .int 0, .int (-1), .int 0]))] H := hP
  have hD : va_D A [(h0, .inr (6, [.int 0, .int 0, .int 0, .int (-1), .int 0]))] := hD
  refine W.widen (k := 0) (n := 0) (Nat.le_of_ble_eq_true rfl) (Nat.le_of_ble_eq_true rfl) ?_
  exact W.vret hx hb hr (fun t ht hW => ⟨⟨(fun i => [].getD i 0), rfl, trivial, by show va_P _ _ _ _; rw [ht]; exact hP, hD⟩, hS.F ht⟩) hS.2.2 d_Head_init_8
theorem d_Parameter_init_0 : decode b_Parameter_init 0 = .ok (.aload_n 0, 1) := by decide +kernel
theorem d_Parameter_init_1 : decode b_Parameter_init 1 = .ok (.invokespecial 1, 3) := by decide +kernel
theorem d_Parameter_init_4 : decode b_Parameter_init 4 = .ok (.aload_n 0, 1) := by decide +kernel
theorem d_Parameter_init_5 : decode b_Parameter_init 5 = .ok (.iconst 3, 1) := by decide +kernel
theorem d_Parameter_init_6 : decode b_Parameter_init 6 = .ok (.anewarray 9, 3) := by decide +kernel
theorem d_Parameter_init_9 : decode b_Parameter_init 9 = .ok (.putfield 11, 3) := by decide +kernel
theorem d_Parameter_init_12 : decode b_Parameter_init 12 = .ok (.aload_n 0, 1) := by decide +kernel
theorem d_Parameter_init_13 : decode b_Parameter_init 13 = .ok (.iconst 0, 1) := by decide +kernel
theorem d_Parameter_init_14 : decode b_Parameter_init 14 = .ok (.putfield 15, 3) := by decide +kernel
theorem d_Parameter_init_17 : decode b_Parameter_init 17 = .ok (.aload_n 0, 1) := by decide +kernel
theorem d_Parameter_init_18 : decode b_Parameter_init 18 = .ok (.iconst 0, 1) := by decide +kernel
theorem d_Parameter_init_19 : decode b_Parameter_init 19 = .ok (.putfield 19, 3) := by decide +kernel
theorem d_Parameter_init_22 : decode b_Parameter_init 22 = .ok (.aload_n 0, 1) := by decide +kernel
theorem d_Parameter_init_23 : decode b_Parameter_init 23 = .ok (.bipush 97, 2) := by decide +kernel
theorem d_Parameter_init_25 : decode b_Parameter_init 25 = .ok (.putfield 22, 3) := by decide +kernel
theorem d_Parameter_init_28 : decode b_Parameter_init 28 = .ok (.iconst 0, 1) := by decide +kernel
theorem d_Parameter_init_29 : decode b_Parameter_init 29 = .ok (.istore_n 1, 1) := by decide +kernel
theorem d_Parameter_init_30 : decode b_Parameter_init 30 = .ok (.iload_n 1, 1) := by decide +kernel
theorem d_Parameter_init_31 : decode b_Parameter_init 31 = .ok (.iconst 3, 1) := by decide +kernel
theorem d_Parameter_init_32 : decode b_Parameter_init 32 = .ok (.if_icmp .ge 22, 3) := by decide +kernel
theorem d_Parameter_init_35 : decode b_Parameter_init 35 = .ok (.aload_n 0, 1) := by decide +kernel
theorem d_Parameter_init_36 : decode b_Parameter_init 36 = .ok (.getfield 11, 3) := by decide +kernel
theorem d_Parameter_init_39 : decode b_Parameter_init 39 = .ok (.iload_n 1, 1) := by decide +kernel
theorem d_Parameter_init_40 : decode b_Parameter_init 40 = .ok (.new 9, 3) := by decide +kernel
theorem d_Parameter_init_43 : decode b_Parameter_init 43 = .ok (.dup, 1) := by decide +kernel
theorem d_Parameter_init_44 : decode b_Parameter_init 44 = .ok (.invokespecial 26, 3) := by decide +kernel
theorem d_Parameter_init_47 : decode b_Parameter_init 47 = .ok (.aastore, 1) := by decide +kernel
theorem d_Parameter_init_48 : decode b_Parameter_init 48 = .ok (.iinc 1 1, 3) := by decide +kernel
theorem d_Parameter_init_51 : decode b_Parameter_init 51 = .ok (.goto (-21), 3) := by decide +kernel
theorem d_Parameter_init_54 : decode b_Parameter_init 54 = .ok (.return_, 1) := by decide +kernel
def w_Parameter_init (g : zG) (h0 : Nat) (a : Nat → Nat) : va_W := [(h0, .inr (7, [.ref (a 0), .int 0, .int 0, .int 97])), ((a 0), .inl (gt g 4, 3, .inr (.inr (.inr (.inr (va_up (va_up (va_up (fun _ => none) 0 (some (a 1))) 1 (some (a 3))) 2 (some (a 5)))))))), ((a 1), .inr (8, [.ref (a 2), .int 0])), ((a 2), .inl (gt g 1, 8, .inl (fun _ => 0))), ((a 3), .inr (8, [.ref (a 4), .int 0])), ((a 4), .inl (gt g 1, 8, .inl (fun _ => 0))), ((a 5), .inr (8, [.ref (a 6), .int 0])), ((a 6), .inl (gt g 1, 8, .inl (fun _ => 0)))]
set_option maxHeartbeats 4000000 in
set_option maxRecDepth 100000 in
theorem n_Parameter_init (l : Launch) (g : zG) (h0 : Nat) (sz : Nat) : Met l y_Parameter_init (mw y_Parameter_init b_Parameter_init 2 none) (rmC 2 7 33) (Pn g [.ref h0] sz [(h0, .inr (7, [.null, .int 0, .int 0, .int 0]))]) (Qn g sz [(h0, .inr (7, [.null, .int 0, .int 0, .int 0]))] (w_Parameter_init g h0)) 7 33 (va_A [(h0, .inr (7, [.null, .int 0, .int 0, .int 0]))] sz) := by
  refine Met.ofW (cc := b_Parameter_init) (maxL := 2) (ret := none) (by decide) rfl ?_
  intro p e s m args below meth c s₁ B hml hv
  obtain ⟨rfl, hsz, hP, hSt, hD0⟩ := hv
  have hx := B.exec
  have hb := B.bytes
  have hr := B.returns
  have hts : ∀ w ∈ WS, w.before _ s = true := fun w hw => atoms_spec (ws := mw y_Parameter_init b_Parameter_init 2 none) B.pre w (List.mem_cons_of_mem _ hw)
  have hown : s.vm.findClass R_Parameter = some m.cls := findClass_of_methodNamed B.named
  have hlocks := B.notSynchronized
  have hin := (name_of_methodNamed B.named B.method).1
  have hK := hSt.1
  have hN := hSt.2.1
  have hAO3 := hSt.2.2.1
  have hAO4 := hSt.2.2.2
  subst hsz
  have hD := hD0.self (sz := s.heap.size)
  unfold Qn
  generalize hAe : va_A [(h0, .inr (7, [.null, .int 0, .int 0, .int 0]))] s.heap.size = A at hD ⊢
  have hA : ∀ q : Nat, s.heap.size ≤ q → A q := fun q h => by rw [← hAe]; exact Or.inr h
  have hS : va_S A s.heap s.heap [] := va_S.rf
  have hl := lv_entry ([.ref h0]) (n := 2) (Nat.le_of_ble_eq_true rfl)
  rw [lg_entry_eq]
  generalize (lg_sl ([.ref h0]) ++ List.replicate (2 - (lg_sl ([.ref h0])).length) Slot.unset).toArray = ls at hl ⊢
  have hl : lv_has ls 2 [(0, .ref h0)] := hl
  have hP : va_P (gD g) classes [(h0, .inr (7, [.null, .int 0, .int 0, .int 0]))] s.heap := hP
  refine lv_aload_n hx hb d_Parameter_init_0 rfl (lv_at hl 0 rfl) ?_
  refine W.objInit hx hb hown (hts _ wm_Parameter_1) (hts _ wi_Obj) (hts _ wc_Obj) rfl (by rw [hml]; exact hl.1) rfl d_Parameter_init_1 (Nat.le_of_ble_eq_true rfl) (Nat.le_of_ble_eq_true rfl) ?_
  refine W.eq (g2 := F0 m 4 ls []) rfl ?_
  refine lv_aload_n hx hb d_Parameter_init_4 rfl (lv_at hl 0 rfl) ?_
  refine lv_iconst (v := 3) hx hb d_Parameter_init_5 (by decide) ?_
  refine y_newq (N' := 3) hx hb hown (hts _ wl_c_Parameter_9) hAO4 4 rfl hK hP hD hS hA (by decide) (by decide) (Nat.le_of_ble_eq_true rfl) (Nat.le_of_ble_eq_true rfl) (Nat.le_of_ble_eq_true rfl) d_Parameter_init_6 (fun q6 H hP hD hS => ?_)
  have hP : va_P (gD g) classes [(h0, .inr (7, [.null, .int 0, .int 0, .int 0])), (q6, .inl (gt g 4, 3, .inr (.inr (.inr (.inr (fun _ => none))))))] H := hP
  have hD : va_D A [(h0, .inr (7, [.null, .int 0, .int 0, .int 0])), (q6, .inl (gt g 4, 3, .inr (.inr (.inr (.inr (fun _ => none))))))] := hD
  refine W.widen (k := 1) (n := 3) (Nat.le_of_ble_eq_true rfl) (Nat.le_of_ble_eq_true rfl) ?_
  refine va_putF (v := .ref q6) hx hb hts kc_Parameter.2.1 t_Parameter kc_Parameter.2.2.1 kc_Parameter.2.2.2 hown hK hP hD hS 0 rfl kc_Parameter.1 0 (by decide) (hts _ wf_Parameter_11) (fun _ h9 => h9) rfl hin rfl (kc_Parameter.2.2.1 0 (by decide)) rfl rfl (Nat.le_of_ble_eq_true rfl) d_Parameter_init_9 (fun H locs hP hD hS => ?_)
  have hP : va_P (gD g) classes [(h0, .inr (7, [.ref q6, .int 0, .int 0, .int 0])), (q6, .inl (gt g 4, 3, .inr (.inr (.inr (.inr (fun _ => none))))))] H := hP
  have hD : va_D A [(h0, .inr (7, [.ref q6, .int 0, .int 0, .int 0])), (q6, .inl (gt g 4, 3, .inr (.inr (.inr (.inr (fun _ => none))))))] := hD
  refine lv_aload_n hx hb d_Parameter_init_12 rfl (lv_at hl 0 rfl) ?_
  refine lv_iconst (v := 0) hx hb d_Parameter_init_13 (by decide) ?_
  refine va_put (v := .int 0) hx hb hts kc_Parameter.2.1 t_Parameter kc_Parameter.2.2.1 kc_Parameter.2.2.2 hown hK hP hD hS 0 rfl kc_Parameter.1 1 (by decide) (hts _ wf_Parameter_15) (fun _ h9 => h9) rfl (kc_Parameter.2.2.1 1 (by decide)) rfl rfl (Nat.le_of_ble_eq_true rfl) d_Parameter_init_14 (fun H locs hP hD hS => ?_)
  have hP : va_P (gD g) classes [(h0, .inr (7, [.ref q6, .int 0, .int 0, .int 0])), (q6, .inl (gt g 4, 3, .inr (.inr (.inr (.inr (fun _ => none))))))] H := hP
  have hD : va_D A [(h0, .inr (7, [.ref q6, .int 0, .int 0, .int 0])), (q6, .inl (gt g 4, 3, .inr (.inr (.inr (.inr (fun _ => none))))))] := hD
  refine lv_aload_n hx hb d_Parameter_init_17 rfl (lv_at hl 0 rfl) ?_
  refine lv_iconst (v := 0) hx hb d_Parameter_init_18 (by decide) ?_
  refine va_put (v := .int 0) hx hb hts kc_Parameter.2.1 t_Parameter kc_Parameter.2.2.1 kc_Parameter.2.2.2 hown hK hP hD hS 0 rfl kc_Parameter.1 2 (by decide) (hts _ wf_Parameter_19) (fun _ h9 => h9) rfl (kc_Parameter.2.2.1 2 (by decide)) rfl rfl (Nat.le_of_ble_eq_true rfl) d_Parameter_init_19 (fun H locs hP hD hS => ?_)
  have hP : va_P (gD g) classes [(h0, .inr (7, [.ref q6, .int 0, .int 0, .int 0])), (q6, .inl (gt g 4, 3, .inr (.inr (.inr (.inr (fun _ => none))))))] H := hP
  have hD : va_D A [(h0, .inr (7, [.ref q6, .int 0, .int 0, .int 0])), (q6, .inl (gt g 4, 3, .inr (.inr (.inr (.inr (fun _ => none))))))] := hD
  refine lv_aload_n hx hb d_Parameter_init_22 rfl (lv_at hl 0 rfl) ?_
  refine lv_bipush (v := 97) hx hb d_Parameter_init_23 (by decide) ?_
  refine va_put (v := .int 97) hx hb hts kc_Parameter.2.1 t_Parameter kc_Parameter.2.2.1 kc_Parameter.2.2.2 hown hK hP hD hS 0 rfl kc_Parameter.1 3 (by decide) (hts _ wf_Parameter_22) (fun _ h9 => h9) rfl (kc_Parameter.2.2.1 3 (by decide)) rfl rfl (Nat.le_of_ble_eq_true rfl) d_Parameter_init_25 (fun H locs hP hD hS => ?_)
  have hP : va_P (gD g) classes [(h0, .inr (7, [.ref q6, .int 0, .int 0, .int 97])), (q6, .inl (gt g 4, 3, .inr (.inr (.inr (.inr (fun _ => none))))))] H := hP
  have hD : va_D A [(h0, .inr (7, [.ref q6, .int 0, .int 0, .int 97])), (q6, .inl (gt g 4, 3, .inr (.inr (.inr (.inr (fun _ => none))))))] := hD
  refine lv_iconst (v := 0) hx hb d_Parameter_init_28 (by decide) ?_
  refine lv_istore_n (lv' := [(1, .int 0), (0, .ref h0)]) hx hb d_Parameter_init_29 rfl hl (by decide) rfl (fun ls hl => ?_)
  refine lv_iload_n hx hb d_Parameter_init_30 rfl (lv_at hl 0 rfl) ?_
  refine lv_iconst (v := 3) hx hb d_Parameter_init_31 (by decide) ?_
  refine lv_icmp_ge hx hb d_Parameter_init_32 rfl (fun z => absurd z (by decide)) (fun _ => ?_)
  refine lv_aload_n hx hb d_Parameter_init_35 rfl (lv_at hl 1 rfl) ?_
  refine va_get (v := .ref q6) hx hb hts kc_Parameter.2.1 hown hK hP 0 rfl kc_Parameter.1 0 (by decide) (hts _ wf_Parameter_11) (fun _ h9 => h9) rfl d_Parameter_init_36 ?_
  refine lv_iload_n hx hb d_Parameter_init_39 rfl (lv_at hl 0 rfl) ?_
  refine va_new (ci := 8) (fs := [.null, .int 0]) (C := R_Item) (T := F_Item) (N := 2) hx hb hts kc_Item.2.1 t_Item kc_Item.2.2.1 hown (hts _ wl_c_Parameter_9) (hts _ win_Item) (hts _ wz_Item) hK hP hD hS hA kc_Item.1 (fun j hj => by rcases (show j = 0 ∨ j = 1 by omega) with rfl | rfl <;> rfl) (Nat.le_of_ble_eq_true rfl) (Nat.le_of_ble_eq_true rfl) d_Parameter_init_40 (fun q40_1 H hP hD hS => ?_)
  have hP : va_P (gD g) classes [(h0, .inr (7, [.ref q6, .int 0, .int 0, .int 97])), (q6, .inl (gt g 4, 3, .inr (.inr (.inr (.inr (fun _ => none)))))), (q40_1, .inr (8, [.null, .int 0]))] H := hP
  have hD : va_D A [(h0, .inr (7, [.ref q6, .int 0, .int 0, .int 97])), (q6, .inl (gt g 4, 3, .inr (.inr (.inr (.inr (fun _ => none)))))), (q40_1, .inr (8, [.null, .int 0]))] := hD
  refine W.widen (k := 2) (n := 5) (Nat.le_of_ble_eq_true rfl) (Nat.le_of_ble_eq_true rfl) ?_
  refine lv_dup hx hb d_Parameter_init_43 rfl ?_
  have hPc := hP.sub (ws' := [(q40_1, .inr (8, [.null, .int 0]))]) [2] rfl
  have hDc := hD.sub (ws' := [(q40_1, .inr (8, [.null, .int 0]))]) [2] (by decide) rfl
  have hFc := va_free (wc := [(q40_1, .inr (8, [.null, .int 0]))]) hD hS hA [2] rfl
  refine va_callv (va_runIN (As := []) (rest := [.ref q40_1, .int 0, .ref q6]) ⟨hx, hb, hml, hown, hts⟩ (n_Item_init l g q40_1 _) ⟨va_cnB 0 hts (ws_good wc_Item_init) rfl rfl rfl (hN.2 _ nm_Parameter_26) (hts _ wz_Item) wd_Item_init ⟨(Nat.le_of_ble_eq_true rfl), (Nat.le_of_ble_eq_true rfl)⟩, rfl, hts _ wi_Item_init⟩ ⟨Pn_blind, fun U hU hW => ⟨rfl, by rw [hU], by rw [hU]; exact hPc, hSt.warm hW, hDc.weaken (fun _ _ _ _ => trivial)⟩⟩ rfl rfl hl.1 rfl (lv_room (Nat.le_of_ble_eq_true rfl)) d_Parameter_init_44 ⟨(Nat.le_of_ble_eq_true rfl), (Nat.le_of_ble_eq_true rfl)⟩) hS (fun q _ h => hFc q h) hFc (fun a44_2 t H1 locs ht hvm hw hB hz1 hk1 hS => ?_)
  obtain ⟨hP1, hD1⟩ := hB
  rw [ht] at hP1
  obtain ⟨hP, hD⟩ := va_join (wr := [(h0, .inr (7, [.ref q6, .int 0, .int 0, .int 97])), (q6, .inl (gt g 4, 3, .inr (.inr (.inr (.inr (fun _ => none))))))]) (w1 := w_Item_init g q40_1 a44_2) hP hD [2] [0, 1] rfl rfl (by decide) (by decide) hk1 hFc hP1 hD1
  generalize H1 = H at hP hS ⊢
  have hP : va_P (gD g) classes [(h0, .inr (7, [.ref q6, .int 0, .int 0, .int 97])), (q6, .inl (gt g 4, 3, .inr (.inr (.inr (.inr (fun _ => none)))))), (q40_1, .inr (8, [.ref (a44_2 0), .int 0])), ((a44_2 0), .inl (gt g 1, 8, .inl (fun _ => 0)))] H := hP
  have hD : va_D A [(h0, .inr (7, [.ref q6, .int 0, .int 0, .int 97])), (q6, .inl (gt g 4, 3, .inr (.inr (.inr (.inr (fun _ => none)))))), (q40_1, .inr (8, [.ref (a44_2 0), .int 0])), ((a44_2 0), .inl (gt g 1, 8, .inl (fun _ => 0)))] := hD
  refine W.widen (k := 3) (n := 13) (Nat.le_of_ble_eq_true rfl) (Nat.le_of_ble_eq_true rfl) ?_
  refine va_astq hx hb hK hP hD hS 1 4 2 8 rfl rfl rfl kc_Item.1 (by unfold vp_in; decide) d_Parameter_init_47 (fun H locs hP hD hS => ?_)
  have hP : va_P (gD g) classes [(h0, .inr (7, [.ref q6, .int 0, .int 0, .int 97])), (q6, .inl (gt g 4, 3, .inr (.inr (.inr (.inr (va_up (fun _ => none) 0 (some q40_1))))))), (q40_1, .inr (8, [.ref (a44_2 0), .int 0])), ((a44_2 0), .inl (gt g 1, 8, .inl (fun _ => 0)))] H := hP
  have hD : va_D A [(h0, .inr (7, [.ref q6, .int 0, .int 0, .int 97])), (q6, .inl (gt g 4, 3, .inr (.inr (.inr (.inr (va_up (fun _ => none) 0 (some q40_1))))))), (q40_1, .inr (8, [.ref (a44_2 0), .int 0])), ((a44_2 0), .inl (gt g 1, 8, .inl (fun _ => 0)))] := hD
  refine lv_iinc (k := 0) (v := 1) (lv' := [(1, .int 1), (0, .ref h0)]) hx hb d_Parameter_init_48 hl rfl (by decide) (by decide) rfl (fun ls hl => ?_)
  refine lv_goto hx hb d_Parameter_init_51 rfl ?_
  refine lv_iload_n hx hb d_Parameter_init_30 rfl (lv_at hl 0 rfl) ?_
  refine lv_iconst (v := 3) hx hb d_Parameter_init_31 (by decide) ?_
  refine lv_icmp_ge hx hb d_Parameter_init_32 rfl (fun z => absurd z (by decide)) (fun _ => ?_)
  refine lv_aload_n hx hb d_Parameter_init_35 rfl (lv_at hl 1 rfl) ?_
  refine va_get (v := .ref q6) hx hb hts kc_Parameter.2.1 hown hK hP 0 rfl kc_Parameter.1 0 (by decide) (hts _ wf_Parameter_11) (fun _ h9 => h9) rfl d_Parameter_init_36 ?_
  refine lv_iload_n hx hb d_Parameter_init_39 rfl (lv_at hl 0 rfl) ?_
  refine va_new (ci := 8) (fs := [.null, .int 0]) (C := R_Item) (T := F_Item) (N := 2) hx hb hts kc_Item.2.1 t_Item kc_Item.2.2.1 hown (hts _ wl_c_Parameter_9) (hts _ win_Item) (hts _ wz_Item) hK hP hD hS hA kc_Item.1 (fun j hj => by rcases (show j = 0 ∨ j = 1 by omega) with rfl | rfl <;> rfl) (Nat.le_of_ble_eq_true rfl) (Nat.le_of_ble_eq_true rfl) d_Parameter_init_40 (fun q40_3 H hP hD hS => ?_)
  have hP : va_P (gD g) classes [(h0, .inr (7, [.ref q6, .int 0, .int 0, .int 97])), (q6, .inl (gt g 4, 3, .inr (.inr (.inr (.inr (va_up (fun _ => none) 0 (some q40_1))))))), (q40_1, .inr (8, [.ref (a44_2 0), .int 0])), ((a44_2 0), .inl (gt g 1, 8, .inl (fun _ => 0))), (q40_3, .inr (8, [.null, .int 0]))] H := hP
  have hD : va_D A [(h0, .inr (7, [.ref q6, .int 0, .int 0, .int 97])), (q6, .inl (gt g 4, 3, .inr (.inr (.inr (.inr (va_up (fun _ => none) 0 (some q40_1))))))), (q40_1, .inr (8, [.ref (a44_2 0), .int 0])), ((a44_2 0), .inl (gt g 1, 8, .inl (fun _ => 0))), (q40_3, .inr (8, [.null, .int 0]))] := hD
  refine W.widen (k := 4) (n := 15) (Nat.le_of_ble_eq_true rfl) (Nat.le_of_ble_eq_true rfl) ?_
  refine lv_dup hx hb d_Parameter_init_43 rfl ?_
  have hPc := hP.sub (ws' := [(q40_3, .inr (8, [.null, .int 0]))]) [4] rfl
  have hDc := hD.sub (ws' := [(q40_3, .inr (8, [.null, .int 0]))]) [4] (by decide) rfl
  have hFc := va_free (wc := [(q40_3, .inr (8, [.null, .int 0]))]) hD hS hA [4] rfl
  refine va_callv (va_runIN (As := []) (rest := [.ref q40_3, .int 1, .ref q6]) ⟨hx, hb, hml, hown, hts⟩ (n_Item_init l g q40_3 _) ⟨va_cnB 0 hts (ws_good wc_Item_init) rfl rfl rfl (hN.2 _ nm_Parameter_26) (hts _ wz_Item) wd_Item_init ⟨(Nat.le_of_ble_eq_true rfl), (Nat.le_of_ble_eq_true rfl)⟩, rfl, hts _ wi_Item_init⟩ ⟨Pn_blind, fun U hU hW => ⟨rfl, by rw [hU], by rw [hU]; exact hPc, hSt.warm hW, hDc.weaken (fun _ _ _ _ => trivial)⟩⟩ rfl rfl hl.1 rfl (lv_room (Nat.le_of_ble_eq_true rfl)) d_Parameter_init_44 ⟨(Nat.le_of_ble_eq_true rfl), (Nat.le_of_ble_eq_true rfl)⟩) hS (fun q _ h => hFc q h) hFc (fun a44_4 t H1 locs ht hvm hw hB hz1 hk1 hS => ?_)
  obtain ⟨hP1, hD1⟩ := hB
  rw [ht] at hP1
  obtain ⟨hP, hD⟩ := va_join (wr := [(h0, .inr (7, [.ref q6, .int 0, .int 0, .int 97])), (q6, .inl (gt g 4, 3, .inr (.inr (.inr (.inr (va_up (fun _ => none) 0 (some q40_1))))))), (q40_1, .inr (8, [.ref (a44_2 0), .int 0])), ((a44_2 0), .inl (gt g 1, 8, .inl (fun _ => 0)))]) (w1 := w_Item_init g q40_3 a44_4) hP hD [4] [0, 1, 2, 3] rfl rfl (by decide) (by decide) hk1 hFc hP1 hD1
  generalize H1 = H at hP hS ⊢
  have hP : va_P (gD g) classes [(h0, .inr (7, [.ref q6, .int 0, .int 0, .int 97])), (q6, .inl (gt g 4, 3, .inr (.inr (.inr (.inr (va_up (fun _ => none) 0 (some q40_1))))))), (q40_1, .inr (8, [.ref (a44_2 0), .int 0])), ((a44_2 0), .inl (gt g 1, 8, .inl (fun _ => 0))), (q40_3, .inr (8, [.ref (a44_4 0), .int 0])), ((a44_4 0), .inl (gt g 1, 8, .inl (fun _ => 0)))] H := hP
  have hD : va_D A [(h0, .inr (7, [.ref q6, .int 0, .int 0, .int 97])), (q6, .inl (gt g 4, 3, .inr (.inr (.inr (.inr (va_up (fun _ => none) 0 (some q40_1))))))), (q40_1, .inr (8, [.ref (a44_2 0), .int 0])), ((a44_2 0), .inl (gt g 1, 8, .inl (fun _ => 0))), (q40_3, .inr (8, [.ref (a44_4 0), .int 0])), ((a44_4 0), .inl (gt g 1, 8, .inl (fun _ => 0)))] := hD
  refine W.widen (k := 5) (n := 23) (Nat.le_of_ble_eq_true rfl) (Nat.le_of_ble_eq_true rfl) ?_
  refine va_astq hx hb hK hP hD hS 1 4 4 8 rfl rfl rfl kc_Item.1 (by unfold vp_in; decide) d_Parameter_init_47 (fun H locs hP hD hS => ?_)
  have hP : va_P (gD g) classes [(h0, .inr (7, [.ref q6, .int 0, .int 0, .int 97])), (q6, .inl (gt g 4, 3, .inr (.inr (.inr (.inr (va_up (va_up (fun _ => none) 0 (some q40_1)) 1 (some q40_3))))))), (q40_1, .inr (8, [.ref (a44_2 0), .int 0])), ((a44_2 0), .inl (gt g 1, 8, .inl (fun _ => 0))), (q40_3, .inr (8, [.ref (a44_4 0), .int 0])), ((a44_4 0), .inl (gt g 1, 8, .inl (fun _ => 0)))] H := hP
  have hD : va_D A [(h0, .inr (7, [.ref q6, .int 0, .int 0, .int 97])), (q6, .inl (gt g 4, 3, .inr (.inr (.inr (.inr (va_up (va_up (fun _ => none) 0 (some q40_1)) 1 (some q40_3))))))), (q40_1, .inr (8, [.ref (a44_2 0), .int 0])), ((a44_2 0), .inl (gt g 1, 8, .inl (fun _ => 0))), (q40_3, .inr (8, [.ref (a44_4 0), .int 0])), ((a44_4 0), .inl (gt g 1, 8, .inl (fun _ => 0)))] := hD
  refine lv_iinc (k := 0) (v := 2) (lv' := [(1, .int 2), (0, .ref h0)]) hx hb d_Parameter_init_48 hl rfl (by decide) (by decide) rfl (fun ls hl => ?_)
  refine lv_goto hx hb d_Parameter_init_51 rfl ?_
  refine lv_iload_n hx hb d_Parameter_init_30 rfl (lv_at hl 0 rfl) ?_
  refine lv_iconst (v := 3) hx hb d_Parameter_init_31 (by decide) ?_
  refine lv_icmp_ge hx hb d_Parameter_init_32 rfl (fun z => absurd z (by decide)) (fun _ => ?_)
  refine lv_aload_n hx hb d_Parameter_init_35 rfl (lv_at hl 1 rfl) ?_
  refine va_get (v := .ref q6) hx hb hts kc_Parameter.2.1 hown hK hP 0 rfl kc_Parameter.1 0 (by decide) (hts _ wf_Parameter_11) (fun _ h9 => h9) rfl d_Parameter_init_36 ?_
  refine lv_iload_n hx hb d_Parameter_init_39 rfl (lv_at hl 0 rfl) ?_
  refine va_new (ci := 8) (fs := [.null, .int 0]) (C := R_Item) (T := F_Item) (N := 2) hx hb hts kc_Item.2.1 t_Item kc_Item.2.2.1 hown (hts _ wl_c_Parameter_9) (hts _ win_Item) (hts _ wz_Item) hK hP hD hS hA kc_Item.1 (fun j hj => by rcases (show j = 0 ∨ j = 1 by omega) with rfl | rfl <;> rfl) (Nat.le_of_ble_eq_true rfl) (Nat.le_of_ble_eq_true rfl) d_Parameter_init_40 (fun q40_5 H hP hD hS => ?_)
  have hP : va_P (gD g) classes [(h0, .inr (7, [.ref q6, .int 0, .int 0, .int 97])), (q6, .inl (gt g 4, 3, .inr (.inr (.inr (.inr (va_up (va_up (fun _ => none) 0 (some q40_1)) 1 (some q40_3))))))), (q40_1, .inr (8, [.ref (a44_2 0), .int 0])), ((a44_2 0), .inl (gt g 1, 8, .inl (fun _ => 0))), (q40_3, .inr (8, [.ref (a44_4 0), .int 0])), ((a44_4 0), .inl (gt g 1, 8, .inl (fun _ => 0))), (q40_5, .inr (8, [.null, .int 0]))] H := hP
  have hD : va_D A [(h0, .inr (7, [.ref q6, .int 0, .int 0, .int 97])), (q6, .inl (gt g 4, 3, .inr (.inr (.inr (.inr (va_up (va_up (fun _ => none) 0 (some q40_1)) 1 (some q40_3))))))), (q40_1, .inr (8, [.ref (a44_2 0), .int 0])), ((a44_2 0), .inl (gt g 1, 8, .inl (fun _ => 0))), (q40_3, .inr (8, [.ref (a44_4 0), .int 0])), ((a44_4 0), .inl (gt g 1, 8, .inl (fun _ => 0))), (q40_5, .inr (8, [.null, .int 0]))] := hD
  refine W.widen (k := 6) (n := 25) (Nat.le_of_ble_eq_true rfl) (Nat.le_of_ble_eq_true rfl) ?_
  refine lv_dup hx hb d_Parameter_init_43 rfl ?_
  have hPc := hP.sub (ws' := [(q40_5, .inr (8, [.null, .int 0]))]) [6] rfl
  have hDc := hD.sub (ws' := [(q40_5, .inr (8, [.null, .int 0]))]) [6] (by decide) rfl
  have hFc := va_free (wc := [(q40_5, .inr (8, [.null, .int 0]))]) hD hS hA [6] rfl
  refine va_callv (va_runIN (As := []) (rest := [.ref q40_5, .int 2, .ref q6]) ⟨hx, hb, hml, hown, hts⟩ (n_Item_init l g q40_5 _) ⟨va_cnB 0 hts (ws_good wc_Item_init) rfl rfl rfl (hN.2 _ nm_Parameter_26) (hts _ wz_Item) wd_Item_init ⟨(Nat.le_of_ble_eq_true rfl), (Nat.le_of_ble_eq_true rfl)⟩, rfl, hts _ wi_Item_init⟩ ⟨Pn_blind, fun U hU hW => ⟨rfl, by rw [hU], by rw [hU]; exact hPc, hSt.warm hW, hDc.weaken (fun _ _ _ _ => trivial)⟩⟩ rfl rfl hl.1 rfl (lv_room (Nat.le_of_ble_eq_true rfl)) d_Parameter_init_44 ⟨(Nat.le_of_ble_eq_true rfl), (Nat.le_of_ble_eq_true rfl)⟩) hS (fun q _ h => hFc q h) hFc (fun a44_6 t H1 locs ht hvm hw hB hz1 hk1 hS => ?_)
  obtain ⟨hP1, hD1⟩ := hB
  rw [ht] at hP1
  obtain ⟨hP, hD⟩ := va_join (wr := [(h0, .inr (7, [.ref q6, .int 0, .int 0, .int 97])), (q6, .inl (gt g 4, 3, .inr (.inr (.inr (.inr (va_up (va_up (fun _ => none) 0 (some q40_1)) 1 (some q40_3))))))), (q40_1, .inr (8, [.ref (a44_2 0), .int 0])), ((a44_2 0), .inl (gt g 1, 8, .inl (fun _ => 0))), (q40_3, .inr (8, [.ref (a44_4 0), .int 0])), ((a44_4 0), .inl (gt g 1, 8, .inl (fun _ => 0)))]) (w1 := w_Item_init g q40_5 a44_6) hP hD [6] [0, 1, 2, 3, 4, 5] rfl rfl (by decide) (by decide) hk1 hFc hP1 hD1
  generalize H1 = H at hP hS ⊢
  have hP : va_P (gD g) classes [(h0, .inr (7, [.ref q6, .int 0, .int 0, .int 97])), (q6, .inl (gt g 4, 3, .inr (.inr (.inr (.inr (va_up (va_up (fun _ => none) 0 (some q40_1)) 1 (some q40_3))))))), (q40_1, .inr (8, [.ref (a44_2 0), .int 0])), ((a44_2 0), .inl (gt g 1, 8, .inl (fun _ => 0))), (q40_3, .inr (8, [.ref (a44_4 0), .int 0])), ((a44_4 0), .inl (gt g 1, 8, .inl (fun _ => 0))), (q40_5, .inr (8, [.ref (a44_6 0), .int 0])), ((a44_6 0), .inl (gt g 1, 8, .inl (fun _ => 0)))] H := hP
  have hD : va_D A [(h0, .inr (7, [.ref q6, .int 0, .int 0, .int 97])), (q6, .inl (gt g 4, 3, .inr (.inr (.inr (.inr (va_up (va_up (fun _ => none) 0 (some q40_1)) 1 (some q40_3))))))), (q40_1, .inr (8, [.ref (a44_2 0), .int 0])), ((a44_2 0), .inl (gt g 1, 8, .inl (fun _ => 0))), (q40_3, .inr (8, [.ref (a44_4 0), .int 0])), ((a44_4 0), .inl (gt g 1, 8, .inl (fun _ => 0))), (q40_5, .inr (8, [.ref (a44_6 0), .int 0])), ((a44_6 0), .inl (gt g 1, 8, .inl (fun _ => 0)))] := hD
  refine W.widen (k := 7) (n := 33) (Nat.le_of_ble_eq_true rfl) (Nat.le_of_ble_eq_true rfl) ?_
  refine va_astq hx hb hK hP hD hS 1 4 6 8 rfl rfl rfl kc_Item.1 (by unfold vp_in; decide) d_Parameter_init_47 (fun H locs hP hD hS => ?_)
  have hP : va_P (gD g) classes [(h0, .inr (7, [.ref q6, .int 0, .int 0, .int 97])), (q6, .inl (gt g 4, 3, .inr (.inr (.inr (.inr (va_up (va_up (va_up (fun _ => none) 0 (some q40_1)) 1 (some q40_3)) 2 (some q40_5))))))), (q40_1, .inr (8, [.ref (a44_2 0), .int 0])), ((a44_2 0), .inl (gt g 1, 8, .inl (fun _ => 0))), (q40_3, .inr (8, [.ref (a44_4 0), .int 0])), ((a44_4 0), .inl (gt g 1, 8, .inl (fun _ => 0))), (q40_5, .inr (8, [.ref (a44_6 0), .int 0])), ((a44_6 0), .inl (gt g 1, 8, .inl (fun _ => 0)))] H := hP
  have hD : va_D A [(h0, .inr (7, [.ref q6, .int 0, .int 0, .int 97])), (q6, .inl (gt g 4, 3, .inr (.inr (.inr (.inr (va_up (va_up (va_up (fun _ => none) 0 (some q40_1)) 1 (some q40_3)) 2 (some q40_5))))))), (q40_1, .inr (8, [.ref (a44_2 0), .int 0])), ((a44_2 0), .inl (gt g 1, 8, .inl (fun _ => 0))), (q40_3, .inr (8, [.ref (a44_4 0), .int 0])), ((a44_4 0), .inl (gt g 1, 8, .inl (fun _ => 0))), (q40_5, .inr (8, [.ref (a44_6 0), .int 0])), ((a44_6 0), .inl (gt g 1, 8, .inl (fun _ => 0)))] := hD
  refine lv_iinc (k := 0) (v := 3) (lv' := [(1, .int 3), (0, .ref h0)]) hx hb d_Parameter_init_48 hl rfl (by decide) (by decide) rfl (fun ls hl => ?_)
  refine lv_goto hx hb d_Parameter_init_51 rfl ?_
  refine lv_iload_n hx hb d_Parameter_init_30 rfl (lv_at hl 0 rfl) ?_
  refine lv_iconst (v := 3) hx hb d_Parameter_init_31 (by decide) ?_
  refine lv_icmp_ge hx hb d_Parameter_init_32 rfl (fun _ => ?_) (fun z => absurd (by decide) z)
  exact W.vret hx hb hr (fun t ht hW => ⟨⟨(fun i => [q6, q40_1, (a44_2 0), q40_3, (a44_4 0), q40_5, (a44_6 0)].getD i 0), rfl, trivial, by show va_P _ _ _ _; rw [ht]; exact hP, hD⟩, hS.F ht⟩) hS.2.2 d_Parameter_init_54
theorem d_Declaration_init_0 : decode b_Declaration_init 0 = .ok (.aload_n 0, 1) := by decide +kernel
theorem d_Declaration_init_1 : decode b_Declaration_init 1 = .ok (.invokespecial 3, 3) := by decide +kernel
theorem d_Declaration_init_4 : decode b_Declaration_init 4 = .ok (.aload_n 0, 1) := by decide +kernel
theorem d_Declaration_init_5 : decode b_Declaration_init 5 = .ok (.new 9, 3) := by decide +kernel
theorem d_Declaration_init_8 : decode b_Declaration_init 8 = .ok (.dup, 1) := by decide +kernel
theorem d_Declaration_init_9 : decode b_Declaration_init 9 = .ok (.invokespecial 11, 3) := by decide +kernel
theorem d_Declaration_init_12 : decode b_Declaration_init 12 = .ok (.putfield 12, 3) := by decide +kernel
theorem d_Declaration_init_15 : decode b_Declaration_init 15 = .ok (.aload_n 0, 1) := by decide +kernel
theorem d_Declaration_init_16 : decode b_Declaration_init 16 = .ok (.bipush 6, 2) := by decide +kernel
theorem d_Declaration_init_18 : decode b_Declaration_init 18 = .ok (.anewarray 18, 3) := by decide +kernel
theorem d_Declaration_init_21 : decode b_Declaration_init 21 = .ok (.putfield 20, 3) := by decide +kernel
theorem d_Declaration_init_24 : decode b_Declaration_init 24 = .ok (.aload_n 0, 1) := by decide +kernel
theorem d_Declaration_init_25 : decode b_Declaration_init 25 = .ok (.iconst 0, 1) := by decide +kernel
theorem d_Declaration_init_26 : decode b_Declaration_init 26 = .ok (.putfield 24, 3) := by decide +kernel
theorem d_Declaration_init_29 : decode b_Declaration_init 29 = .ok (.aload_n 0, 1) := by decide +kernel
theorem d_Declaration_init_30 : decode b_Declaration_init 30 = .ok (.iconst 0, 1) := by decide +kernel
theorem d_Declaration_init_31 : decode b_Declaration_init 31 = .ok (.putfield 28, 3) := by decide +kernel
theorem d_Declaration_init_34 : decode b_Declaration_init 34 = .ok (.iconst 0, 1) := by decide +kernel
theorem d_Declaration_init_35 : decode b_Declaration_init 35 = .ok (.istore_n 1, 1) := by decide +kernel
theorem d_Declaration_init_36 : decode b_Declaration_init 36 = .ok (.iload_n 1, 1) := by decide +kernel
theorem d_Declaration_init_37 : decode b_Declaration_init 37 = .ok (.bipush 6, 2) := by decide +kernel
theorem d_Declaration_init_39 : decode b_Declaration_init 39 = .ok (.if_icmp .ge 22, 3) := by decide +kernel
theorem d_Declaration_init_42 : decode b_Declaration_init 42 = .ok (.aload_n 0, 1) := by decide +kernel
theorem d_Declaration_init_43 : decode b_Declaration_init 43 = .ok (.getfield 20, 3) := by decide +kernel
theorem d_Declaration_init_46 : decode b_Declaration_init 46 = .ok (.iload_n 1, 1) := by decide +kernel
theorem d_Declaration_init_47 : decode b_Declaration_init 47 = .ok (.new 18, 3) := by decide +kernel
theorem d_Declaration_init_50 : decode b_Declaration_init 50 = .ok (.dup, 1) := by decide +kernel
theorem d_Declaration_init_51 : decode b_Declaration_init 51 = .ok (.invokespecial 31, 3) := by decide +kernel
theorem d_Declaration_init_54 : decode b_Declaration_init 54 = .ok (.aastore, 1) := by decide +kernel
theorem d_Declaration_init_55 : decode b_Declaration_init 55 = .ok (.iinc 1 1, 3) := by decide +kernel
theorem d_Declaration_init_58 : decode b_Declaration_init 58 = .ok (.goto (-22), 3) := by decide +kernel
theorem d_Declaration_init_61 : decode b_Declaration_init 61 = .ok (.return_, 1) := by decide +kernel
def w_Declaration_init (g : zG) (h0 : Nat) (a : Nat → Nat) : va_W := [(h0, .inr (1, [.ref (a 0), .ref (a 2), .int 0, .int 0])), ((a 0), .inr (2, [.ref (a 1), .int 0])), ((a 1), .inl (gt g 1, 40, .inl (fun _ => 0))), ((a 2), .inl (gt g 3, 6, .inr (.inr (.inr (.inr (va_up (va_up (va_up (va_up (va_up (va_up (fun _ => none) 0 (some (a 3))) 1 (some (a 11))) 2 (some (a 19))) 3 (some (a 27))) 4 (some (a 35))) 5 (some (a 43)))))))), ((a 3), .inr (7, [.ref (a 4), .int 0, .int 0, .int 97])), ((a 4), .inl (gt g 4, 3, .inr (.inr (.inr (.inr (va_up (va_up (va_up (fun _ => none) 0 (some (a 5))) 1 (some (a 7))) 2 (some (a 9)))))))), ((a 5), .inr (8, [.ref (a 6), .int 0])), ((a 6), .inl (gt g 1, 8, .inl (fun _ => 0))), ((a 7), .inr (8, [.ref (a 8), .int 0])), ((a 8), .inl (gt g 1, 8, .inl (fun _ => 0))), ((a 9), .inr (8, [.ref (a 10), .int 0])), ((a 10), .inl (gt g 1, 8, .inl (fun _ => 0))), ((a 11), .inr (7, [.ref (a 12), .int 0, .int 0, .int 97])), ((a 12), .inl (gt g 4, 3, .inr (.inr (.inr (.inr (va_up (va_up (va_up (fun _ => none) 0 (some (a 13))) 1 (some (a 15))) 2 (some (a 17)))))))), ((a 13), .inr (8, [.ref (a 14), .int 0])), ((a 14), .inl (gt g 1, 8, .inl (fun _ => 0))), ((a 15), .inr (8, [.ref (a 16), .int 0])), ((a 16), .inl (gt g 1, 8, .inl (fun _ => 0))), ((a 17), .inr (8, [.ref (a 18), .int 0])), ((a 18), .inl (gt g 1, 8, .inl (fun _ => 0))), ((a 19), .inr (7, [.ref (a 20), .int 0, .int 0, .int 97])), ((a 20), .inl (gt g 4, 3, .inr (.inr (.inr (.inr (va_up (va_up (va_up (fun _ => none) 0 (some (a 21))) 1 (some (a 23))) 2 (some (a 25)))))))), ((a 21), .inr (8, [.ref (a 22), .int 0])), ((a 22), .inl (gt g 1, 8, .inl (fun _ => 0))), ((a 23), .inr (8, [.ref (a 24), .int 0])), ((a 24), .inl (gt g 1, 8, .inl (fun _ => 0))), ((a 25), .inr (8, [.ref (a 26), .int 0])), ((a 26), .inl (gt g 1, 8, .inl (fun _ => 0))), ((a 27), .inr (7, [.ref (a 28), .int 0, .int 0, .int 97])), ((a 28), .inl (gt g 4, 3, .inr (.inr (.inr (.inr (va_up (va_up (va_up (fun _ => none) 0 (some (a 29))) 1 (some (a 31))) 2 (some (a 33)))))))), ((a 29), .inr (8, [.ref (a 30), .int 0])), ((a 30), .inl (gt g 1, 8, .inl (fun _ => 0))), ((a 31), .inr (8, [.ref (a 32), .int 0])), ((a 32), .inl (gt g 1, 8, .inl (fun _ => 0))), ((a 33), .inr (8, [.ref (a 34), .int 0])), ((a 34), .inl (gt g 1, 8, .inl (fun _ => 0))), ((a 35), .inr (7, [.ref (a 36), .int 0, .int 0, .int 97])), ((a 36), .inl (gt g 4, 3, .inr (.inr (.inr (.inr (va_up (va_up (va_up (fun _ => none) 0 (some (a 37))) 1 (some (a 39))) 2 (some (a 41)))))))), ((a 37), .inr (8, [.ref (a 38), .int 0])), ((a 38), .inl (gt g 1, 8, .inl (fun _ => 0))), ((a 39), .inr (8, [.ref (a 40), .int 0])), ((a 40), .inl (gt g 1, 8, .inl (fun _ => 0))), ((a 41), .inr (8, [.ref (a 42), .int 0])), ((a 42), .inl (gt g 1, 8, .inl (fun _ => 0))), ((a 43), .inr (7, [.ref (a 44), .int 0, .int 0, .int 97])), ((a 44), .inl (gt g 4, 3, .inr (.inr (.inr (.inr (va_up (va_up (va_up (fun _ => none) 0 (some (a 45))) 1 (some (a 47))) 2 (some (a 49)))))))), ((a 45), .inr (8, [.ref (a 46), .int 0])), ((a 46), .inl (gt g 1, 8, .inl (fun _ => 0))), ((a 47), .inr (8, [.ref (a 48), .int 0])), ((a 48), .inl (gt g 1, 8, .inl (fun _ => 0))), ((a 49), .inr (8, [.ref (a 50), .int 0])), ((a 50), .inl (gt g 1, 8, .inl (fun _ => 0)))]
set_option maxHeartbeats 4000000 in
set_option maxRecDepth 100000 in
theorem n_Declaration_init (l : Launch) (g : zG) (h0 : Nat) (sz : Nat) : Met l y_Declaration_init (mw y_Declaration_init b_Declaration_init 2 none) (rmC 3 51 270) (Pn g [.ref h0] sz [(h0, .inr (1, [.null, .null, .int 0, .int 0]))]) (Qn g sz [(h0, .inr (1, [.null, .null, .int 0, .int 0]))] (w_Declaration_init g h0)) 51 270 (va_A [(h0, .inr (1, [.null, .null, .int 0, .int 0]))] sz) := by
  refine Met.ofW (cc := b_Declaration_init) (maxL := 2) (ret := none) (by decide) rfl ?_
  intro p e s m args below meth c s₁ B hml hv
  obtain ⟨rfl, hsz, hP, hSt, hD0⟩ := hv
  have hx := B.exec
  have hb := B.bytes
  have hr := B.returns
  have hts : ∀ w ∈ WS, w.before _ s = true := fun w hw => atoms_spec (ws := mw y_Declaration_init b_Declaration_init 2 none) B.pre w (List.mem_cons_of_mem _ hw)
  have hown : s.vm.findClass R_Declaration = some m.cls := findClass_of_methodNamed B.named
  have hlocks := B.notSynchronized
  have hin := (name_of_methodNamed B.named B.method).1
  have hK := hSt.1
  have hN := hSt.2.1
  have hAO3 := hSt.2.2.1
  have hAO4 := hSt.2.2.2
  subst hsz
  have hD := hD0.self (sz := s.heap.size)
  unfold Qn
  generalize hAe : va_A [(h0, .inr (1, [.null, .null, .int 0, .int 0]))] s.heap.size = A at hD ⊢
  have hA : ∀ q : Nat, s.heap.size ≤ q → A q := fun q h => by rw [← hAe]; exact Or.inr h
  have hS : va_S A s.heap s.heap [] := va_S.rf
  have hl := lv_entry ([.ref h0]) (n := 2) (Nat.le_of_ble_eq_true rfl)
  rw [lg_entry_eq]
  generalize (lg_sl ([.ref h0]) ++ List.replicate (2 - (lg_sl ([.ref h0])).length) Slot.unset).toArray = ls at hl ⊢
  have hl : lv_has ls 2 [(0, .ref h0)] := hl
  have hP : va_P (gD g) classes [(h0, .inr (1, [.null, .null, .int 0, .int 0]))] s.heap := hP
  refine lv_aload_n hx hb d_Declaration_init_0 rfl (lv_at hl 0 rfl) ?_
  refine W.objInit hx hb hown (hts _ wm_Declaration_3) (hts _ wi_Obj) (hts _ wc_Obj) rfl (by rw [hml]; exact hl.1) rfl d_Declaration_init_1 (Nat.le_of_ble_eq_true rfl) (Nat.le_of_ble_eq_true rfl) ?_
  refine W.eq (g2 := F0 m 4 ls []) rfl ?_
  refine lv_aload_n hx hb d_Declaration_init_4 rfl (lv_at hl 0 rfl) ?_
  refine va_new (ci := 2) (fs := [.null, .int 0]) (C := R_PathTemplate) (T := F_PathTemplate) (N := 2) hx hb hts kc_PathTemplate.2.1 t_PathTemplate kc_PathTemplate.2.2.1 hown (hts _ wl_c_Declaration_9) (hts _ win_PathTemplate) (hts _ wz_PathTemplate) hK hP hD hS hA kc_PathTemplate.1 (fun j hj => by rcases (show j = 0 ∨ j = 1 by omega) with rfl | rfl <;> rfl) (Nat.le_of_ble_eq_true rfl) (Nat.le_of_ble_eq_true rfl) d_Declaration_init_5 (fun q5_1 H hP hD hS => ?_)
  have hP : va_P (gD g) classes [(h0, .inr (1, [.null, .null, .int 0, .int 0])), (q5_1, .inr (2, [.null, .int 0]))] H := hP
  have hD : va_D A [(h0, .inr (1, [.null, .null, .int 0, .int 0])), (q5_1, .inr (2, [.null, .int 0]))] := hD
  refine W.widen (k := 1) (n := 2) (Nat.le_of_ble_eq_true rfl) (Nat.le_of_ble_eq_true rfl) ?_
  refine lv_dup hx hb d_Declaration_init_8 rfl ?_
  have hPc := hP.sub (ws' := [(q5_1, .inr (2, [.null, .int 0]))]) [1] rfl
  have hDc := hD.sub (ws' := [(q5_1, .inr (2, [.null, .int 0]))]) [1] (by decide) rfl
  have hFc := va_free (wc := [(q5_1, .inr (2, [.null, .int 0]))]) hD hS hA [1] rfl
  refine va_callv (va_runIN (As := []) (rest := [.ref q5_1, .ref h0]) ⟨hx, hb, hml, hown, hts⟩ (n_PathTemplate_init l g q5_1 _) ⟨va_cnB 0 hts (ws_good wc_PathTemplate_init) rfl rfl rfl (hN.2 _ nm_Declaration_11) (hts _ wz_PathTemplate) wd_PathTemplate_init ⟨(Nat.le_of_ble_eq_true rfl), (Nat.le_of_ble_eq_true rfl)⟩, rfl, hts _ wi_PathTemplate_init⟩ ⟨Pn_blind, fun U hU hW => ⟨rfl, by rw [hU], by rw [hU]; exact hPc, hSt.warm hW, hDc.weaken (fun _ _ _ _ => trivial)⟩⟩ rfl rfl hl.1 rfl (lv_room (Nat.le_of_ble_eq_true rfl)) d_Declaration_init_9 ⟨(Nat.le_of_ble_eq_true rfl), (Nat.le_of_ble_eq_true rfl)⟩) hS (fun q _ h => hFc q h) hFc (fun a9_2 t H1 locs ht hvm hw hB hz1 hk1 hS => ?_)
  obtain ⟨hP1, hD1⟩ := hB
  rw [ht] at hP1
  obtain ⟨hP, hD⟩ := va_join (wr := [(h0, .inr (1, [.null, .null, .int 0, .int 0]))]) (w1 := w_PathTemplate_init g q5_1 a9_2) hP hD [1] [0] rfl rfl (by decide) (by decide) hk1 hFc hP1 hD1
  generalize H1 = H at hP hS ⊢
  have hP : va_P (gD g) classes [(h0, .inr (1, [.null, .null, .int 0, .int 0])), (q5_1, .inr (2, [.ref (a9_2 0), .int 0])), ((a9_2 0), .inl (gt g 1, 40, .inl (fun _ => 0)))] H := hP
  have hD : va_D A [(h0, .inr (1, [.null, .null, .int 0, .int 0])), (q5_1, .inr (2, [.ref (a9_2 0), .int 0])), ((a9_2 0), .inl (gt g 1, 40, .inl (fun _ => 0)))] := hD
  refine W.widen (k := 2) (n := 42) (Nat.le_of_ble_eq_true rfl) (Nat.le_of_ble_eq_true rfl) ?_
  refine va_putF (v := .ref q5_1) hx hb hts kc_Declaration.2.1 t_Declaration kc_Declaration.2.2.1 kc_Declaration.2.2.2 hown hK hP hD hS 0 rfl kc_Declaration.1 0 (by decide) (hts _ wf_Declaration_12) (fun _ h9 => h9) rfl hin rfl (kc_Declaration.2.2.1 0 (by decide)) rfl rfl (Nat.le_of_ble_eq_true rfl) d_Declaration_init_12 (fun H locs hP hD hS => ?_)
  have hP : va_P (gD g) classes [(h0, .inr (1, [.ref q5_1, .null, .int 0, .int 0])), (q5_1, .inr (2, [.ref (a9_2 0), .int 0])), ((a9_2 0), .inl (gt g 1, 40, .inl (fun _ => 0)))] H := hP
  have hD : va_D A [(h0, .inr (1, [.ref q5_1, .null, .int 0, .int 0])), (q5_1, .inr (2, [.ref (a9_2 0), .int 0])), ((a9_2 0), .inl (gt g 1, 40, .inl (fun _ => 0)))] := hD
  refine lv_aload_n hx hb d_Declaration_init_15 rfl (lv_at hl 0 rfl) ?_
  refine lv_bipush (v := 6) hx hb d_Declaration_init_16 (by decide) ?_
  refine y_newq (N' := 6) hx hb hown (hts _ wl_c_Declaration_18) hAO3 3 rfl hK hP hD hS hA (by decide) (by decide) (Nat.le_of_ble_eq_true rfl) (Nat.le_of_ble_eq_true rfl) (Nat.le_of_ble_eq_true rfl) d_Declaration_init_18 (fun q18 H hP hD hS => ?_)
  have hP : va_P (gD g) classes [(h0, .inr (1, [.ref q5_1, .null, .int 0, .int 0])), (q5_1, .inr (2, [.ref (a9_2 0), .int 0])), ((a9_2 0), .inl (gt g 1, 40, .inl (fun _ => 0))), (q18, .inl (gt g 3, 6, .inr (.inr (.inr (.inr (fun _ => none))))))] H := hP
  have hD : va_D A [(h0, .inr (1, [.ref q5_1, .null, .int 0, .int 0])), (q5_1, .inr (2, [.ref (a9_2 0), .int 0])), ((a9_2 0), .inl (gt g 1, 40, .inl (fun _ => 0))), (q18, .inl (gt g 3, 6, .inr (.inr (.inr (.inr (fun _ => none))))))] := hD
  refine W.widen (k := 3) (n := 48) (Nat.le_of_ble_eq_true rfl) (Nat.le_of_ble_eq_true rfl) ?_
  refine va_putF (v := .ref q18) hx hb hts kc_Declaration.2.1 t_Declaration kc_Declaration.2.2.1 kc_Declaration.2.2.2 hown hK hP hD hS 0 rfl kc_Declaration.1 1 (by decide) (hts _ wf_Declaration_20) (fun _ h9 => h9) rfl hin rfl (kc_Declaration.2.2.1 1 (by decide)) rfl rfl (Nat.le_of_ble_eq_true rfl) d_Declaration_init_21 (fun H locs hP hD hS => ?_)
  have hP : va_P (gD g) classes [(h0, .inr (1, [.ref q5_1, .ref q18, .int 0, .int 0])), (q5_1, .inr (2, [.ref (a9_2 0), .int 0])), ((a9_2 0), .inl (gt g 1, 40, .inl (fun _ => 0))), (q18, .inl (gt g 3, 6, .inr (.inr (.inr (.inr (fun _ => none))))))] H := hP
  have hD : va_D A [(h0, .inr (1, [.ref q5_1, .ref q18, .int 0, .int 0])), (q5_1, .inr (2, [.ref (a9_2 0), .int 0])), ((a9_2 0), .inl (gt g 1, 40, .inl (fun _ => 0))), (q18, .inl (gt g 3, 6, .inr (.inr (.inr (.inr (fun _ => none))))))] := hD
  refine lv_aload_n hx hb d_Declaration_init_24 rfl (lv_at hl 0 rfl) ?_
  refine lv_iconst (v := 0) hx hb d_Declaration_init_25 (by decide) ?_
  refine va_put (v := .int 0) hx hb hts kc_Declaration.2.1 t_Declaration kc_Declaration.2.2.1 kc_Declaration.2.2.2 hown hK hP hD hS 0 rfl kc_Declaration.1 2 (by decide) (hts _ wf_Declaration_24) (fun _ h9 => h9) rfl (kc_Declaration.2.2.1 2 (by decide)) rfl rfl (Nat.le_of_ble_eq_true rfl) d_Declaration_init_26 (fun H locs hP hD hS => ?_)
  have hP : va_P (gD g) classes [(h0, .inr (1, [.ref q5_1, .ref q18, .int 0, .int 0])), (q5_1, .inr (2, [.ref (a9_2 0), .int 0])), ((a9_2 0), .inl (gt g 1, 40, .inl (fun _ => 0))), (q18, .inl (gt g 3, 6, .inr (.inr (.inr (.inr (fun _ => none))))))] H := hP
  have hD : va_D A [(h0, .inr (1, [.ref q5_1, .ref q18, .int 0, .int 0])), (q5_1, .inr (2, [.ref (a9_2 0), .int 0])), ((a9_2 0), .inl (gt g 1, 40, .inl (fun _ => 0))), (q18, .inl (gt g 3, 6, .inr (.inr (.inr (.inr (fun _ => none))))))] := hD
  refine lv_aload_n hx hb d_Declaration_init_29 rfl (lv_at hl 0 rfl) ?_
  refine lv_iconst (v := 0) hx hb d_Declaration_init_30 (by decide) ?_
  refine va_put (v := .int 0) hx hb hts kc_Declaration.2.1 t_Declaration kc_Declaration.2.2.1 kc_Declaration.2.2.2 hown hK hP hD hS 0 rfl kc_Declaration.1 3 (by decide) (hts _ wf_Declaration_28) (fun _ h9 => h9) rfl (kc_Declaration.2.2.1 3 (by decide)) rfl rfl (Nat.le_of_ble_eq_true rfl) d_Declaration_init_31 (fun H locs hP hD hS => ?_)
  have hP : va_P (gD g) classes [(h0, .inr (1, [.ref q5_1, .ref q18, .int 0, .int 0])), (q5_1, .inr (2, [.ref (a9_2 0), .int 0])), ((a9_2 0), .inl (gt g 1, 40, .inl (fun _ => 0))), (q18, .inl (gt g 3, 6, .inr (.inr (.inr (.inr (fun _ => none))))))] H := hP
  have hD : va_D A [(h0, .inr (1, [.ref q5_1, .ref q18, .int 0, .int 0])), (q5_1, .inr (2, [.ref (a9_2 0), .int 0])), ((a9_2 0), .inl (gt g 1, 40, .inl (fun _ => 0))), (q18, .inl (gt g 3, 6, .inr (.inr (.inr (.inr (fun _ => none))))))] := hD
  refine lv_iconst (v := 0) hx hb d_Declaration_init_34 (by decide) ?_
  refine lv_istore_n (lv' := [(1, .int 0), (0, .ref h0)]) hx hb d_Declaration_init_35 rfl hl (by decide) rfl (fun ls hl => ?_)
  refine lv_iload_n hx hb d_Declaration_init_36 rfl (lv_at hl 0 rfl) ?_
  refine lv_bipush (v := 6) hx hb d_Declaration_init_37 (by decide) ?_
  refine lv_icmp_ge hx hb d_Declaration_init_39 rfl (fun z => absurd z (by decide)) (fun _ => ?_)
  refine lv_aload_n hx hb d_Declaration_init_42 rfl (lv_at hl 1 rfl) ?_
  refine va_get (v := .ref q18) hx hb hts kc_Declaration.2.1 hown hK hP 0 rfl kc_Declaration.1 1 (by decide) (hts _ wf_Declaration_20) (fun _ h9 => h9) rfl d_Declaration_init_43 ?_
  refine lv_iload_n hx hb d_Declaration_init_46 rfl (lv_at hl 0 rfl) ?_
  refine va_new (ci := 7) (fs := [.null, .int 0, .int 0, .int 0]) (C := R_Parameter) (T := F_Parameter) (N := 4) hx hb hts kc_Parameter.2.1 t_Parameter kc_Parameter.2.2.1 hown (hts _ wl_c_Declaration_18) (hts _ win_Parameter) (hts _ wz_Parameter) hK hP hD hS hA kc_Parameter.1 (fun j hj => by rcases (show j = 0 ∨ j = 1 ∨ j = 2 ∨ j = 3 by omega) with rfl | rfl | rfl | rfl <;> rfl) (Nat.le_of_ble_eq_true rfl) (Nat.le_of_ble_eq_true rfl) d_Declaration_init_47 (fun q47_3 H hP hD hS => ?_)
  have hP : va_P (gD g) classes [(h0, .inr (1, [.ref q5_1, .ref q18, .int 0, .int 0])), (q5_1, .inr (2, [.ref (a9_2 0), .int 0])), ((a9_2 0), .inl (gt g 1, 40, .inl (fun _ => 0))), (q18, .inl (gt g 3, 6, .inr (.inr (.inr (.inr (fun _ => none)))))), (q47_3, .inr (7, [.null, .int 0, .int 0, .int 0]))] H := hP
  have hD : va_D A [(h0, .inr (1, [.ref q5_1, .ref q18, .int 0, .int 0])), (q5_1, .inr (2, [.ref (a9_2 0), .int 0])), ((a9_2 0), .inl (gt g 1, 40, .inl (fun _ => 0))), (q18, .inl (gt g 3, 6, .inr (.inr (.inr (.inr (fun _ => none)))))), (q47_3, .inr (7, [.null, .int 0, .int 0, .int 0]))] := hD
  refine W.widen (k := 4) (n := 52) (Nat.le_of_ble_eq_true rfl) (Nat.le_of_ble_eq_true rfl) ?_
  refine lv_dup hx hb d_Declaration_init_50 rfl ?_
  have hPc := hP.sub (ws' := [(q47_3, .inr (7, [.null, .int 0, .int 0, .int 0]))]) [4] rfl
  have hDc := hD.sub (ws' := [(q47_3, .inr (7, [.null, .int 0, .int 0, .int 0]))]) [4] (by decide) rfl
  have hFc := va_free (wc := [(q47_3, .inr (7, [.null, .int 0, .int 0, .int 0]))]) hD hS hA [4] rfl
  refine va_callv (va_runI (As := []) (rest := [.ref q47_3, .int 0, .ref q18]) ⟨hx, hb, hml, hown, hts⟩ (n_Parameter_init l g q47_3 _) (cwI 0 hts (ws_good wc_Parameter_init) rfl rfl rfl (hts _ wz_Parameter) (hts _ wm_Declaration_31) (hts _ wi_Parameter_init) rfl wd_Parameter_init ⟨(Nat.le_of_ble_eq_true rfl), (Nat.le_of_ble_eq_true rfl)⟩) ⟨Pn_blind, fun U hU hW => ⟨rfl, by rw [hU], by rw [hU]; exact hPc, hSt.warm hW, hDc.weaken (fun _ _ _ _ => trivial)⟩⟩ rfl rfl hl.1 rfl (lv_room (Nat.le_of_ble_eq_true rfl)) d_Declaration_init_51 ⟨(Nat.le_of_ble_eq_true rfl), (Nat.le_of_ble_eq_true rfl)⟩) hS (fun q _ h => hFc q h) hFc (fun a51_4 t H1 locs ht hvm hw hB hz1 hk1 hS => ?_)
  obtain ⟨hP1, hD1⟩ := hB
  rw [ht] at hP1
  obtain ⟨hP, hD⟩ := va_join (wr := [(h0, .inr (1, [.ref q5_1, .ref q18, .int 0, .int 0])), (q5_1, .inr (2, [.ref (a9_2 0), .int 0])), ((a9_2 0), .inl (gt g 1, 40, .inl (fun _ => 0))), (q18, .inl (gt g 3, 6, .inr (.inr (.inr (.inr (fun _ => none))))))]) (w1 := w_Parameter_init g q47_3 a51_4) hP hD [4] [0, 1, 2, 3] rfl rfl (by decide) (by decide) hk1 hFc hP1 hD1
  generalize H1 = H at hP hS ⊢
  have hP : va_P (gD g) classes [(h0, .inr (1, [.ref q5_1, .ref q18, .int 0, .int 0])), (q5_1, .inr (2, [.ref (a9_2 0), .int 0])), ((a9_2 0), .inl (gt g 1, 40, .inl (fun _ => 0))), (q18, .inl (gt g 3, 6, .inr (.inr (.inr (.inr (fun _ => none)))))), (q47_3, .inr (7, [.ref (a51_4 0), .int 0, .int 0, .int 97])), ((a51_4 0), .inl (gt g 4, 3, .inr (.inr (.inr (.inr (va_up (va_up (va_up (fun _ => none) 0 (some (a51_4 1))) 1 (some (a51_4 3))) 2 (some (a51_4 5)))))))), ((a51_4 1), .inr (8, [.ref (a51_4 2), .int 0])), ((a51_4 2), .inl (gt g 1, 8, .inl (fun _ => 0))), ((a51_4 3), .inr (8, [.ref (a51_4 4), .int 0])), ((a51_4 4), .inl (gt g 1, 8, .inl (fun _ => 0))), ((a51_4 5), .inr (8, [.ref (a51_4 6), .int 0])), ((a51_4 6), .inl (gt g 1, 8, .inl (fun _ => 0)))] H := hP
  have hD : va_D A [(h0, .inr (1, [.ref q5_1, .ref q18, .int 0, .int 0])), (q5_1, .inr (2, [.ref (a9_2 0), .int 0])), ((a9_2 0), .inl (gt g 1, 40, .inl (fun _ => 0))), (q18, .inl (gt g 3, 6, .inr (.inr (.inr (.inr (fun _ => none)))))), (q47_3, .inr (7, [.ref (a51_4 0), .int 0, .int 0, .int 97])), ((a51_4 0), .inl (gt g 4, 3, .inr (.inr (.inr (.inr (va_up (va_up (va_up (fun _ => none) 0 (some (a51_4 1))) 1 (some (a51_4 3))) 2 (some (a51_4 5)))))))), ((a51_4 1), .inr (8, [.ref (a51_4 2), .int 0])), ((a51_4 2), .inl (gt g 1, 8, .inl (fun _ => 0))), ((a51_4 3), .inr (8, [.ref (a51_4 4), .int 0])), ((a51_4 4), .inl (gt g 1, 8, .inl (fun _ => 0))), ((a51_4 5), .inr (8, [.ref (a51_4 6), .int 0])), ((a51_4 6), .inl (gt g 1, 8, .inl (fun _ => 0)))] := hD
  refine W.widen (k := 11) (n := 85) (Nat.le_of_ble_eq_true rfl) (Nat.le_of_ble_eq_true rfl) ?_
  refine va_astq hx hb hK hP hD hS 3 3 4 7 rfl rfl rfl kc_Parameter.1 (by unfold vp_in; decide) d_Declaration_init_54 (fun H locs hP hD hS => ?_)
  have hP : va_P (gD g) classes [(h0, .inr (1, [.ref q5_1, .ref q18, .int 0, .int 0])), (q5_1, .inr (2, [.ref (a9_2 0), .int 0])), ((a9_2 0), .inl (gt g 1, 40, .inl (fun _ => 0))), (q18, .inl (gt g 3, 6, .inr (.inr (.inr (.inr (va_up (fun _ => none) 0 (some q47_3))))))), (q47_3, .inr (7, [.ref (a51_4 0), .int 0, .int 0, .int 97])), ((a51_4 0), .inl (gt g 4, 3, .inr (.inr (.inr (.inr (va_up (va_up (va_up (fun _ => none) 0 (some (a51_4 1))) 1 (some (a51_4 3))) 2 (some (a51_4 5)))))))), ((a51_4 1), .inr (8, [.ref (a51_4 2), .int 0])), ((a51_4 2), .inl (gt g 1, 8, .inl (fun _ => 0))), ((a51_4 3), .inr (8, [.ref (a51_4 4), .int 0])), ((a51_4 4), .inl (gt g 1, 8, .inl (fun _ => 0))), ((a51_4 5), .inr (8, [.ref (a51_4 6), .int 0])), ((a51_4 6), .inl (gt g 1, 8, .inl (fun _ => 0)))] H := hP
  have hD : va_D A [(h0, .inr (1, [.ref q5_1, .ref q18, .int 0, .int 0])), (q5_1, .inr (2, [.ref (a9_2 0), .int 0])), ((a9_2 0), .inl (gt g 1, 40, .inl (fun _ => 0))), (q18, .inl (gt g 3, 6, .inr (.inr (.inr (.inr (va_up (fun _ => none) 0 (some q47_3))))))), (q47_3, .inr (7, [.ref (a51_4 0), .int 0, .int 0, .int 97])), ((a51_4 0), .inl (gt g 4, 3, .inr (.inr (.inr (.inr (va_up (va_up (va_up (fun _ => none) 0 (some (a51_4 1))) 1 (some (a51_4 3))) 2 (some (a51_4 5)))))))), ((a51_4 1), .inr (8, [.ref (a51_4 2), .int 0])), ((a51_4 2), .inl (gt g 1, 8, .inl (fun _ => 0))), ((a51_4 3), .inr (8, [.ref (a51_4 4), .int 0])), ((a51_4 4), .inl (gt g 1, 8, .inl (fun _ => 0))), ((a51_4 5), .inr (8, [.ref (a51_4 6), .int 0])), ((a51_4 6), .inl (gt g 1, 8, .inl (fun _ => 0)))] := hD
  refine lv_iinc (k := 0) (v := 1) (lv' := [(1, .int 1), (0, .ref h0)]) hx hb d_Declaration_init_55 hl rfl (by decide) (by decide) rfl (fun ls hl => ?_)
  refine lv_goto hx hb d_Declaration_init_58 rfl ?_
  refine lv_iload_n hx hb d_Declaration_init_36 rfl (lv_at hl 0 rfl) ?_
  refine lv_bipush (v := 6) hx hb d_Declaration_init_37 (by decide) ?_
  refine lv_icmp_ge hx hb d_Declaration_init_39 rfl (fun z => absurd z (by decide)) (fun _ => ?_)
  refine lv_aload_n hx hb d_Declaration_init_42 rfl (lv_at hl 1 rfl) ?_
  refine va_get (v := .ref q18) hx hb hts kc_Declaration.2.1 hown hK hP 0 rfl kc_Declaration.1 1 (by decide) (hts _ wf_Declaration_20) (fun _ h9 => h9) rfl d_Declaration_init_43 ?_
  refine lv_iload_n hx hb d_Declaration_init_46 rfl (lv_at hl 0 rfl) ?_
  refine va_new (ci := 7) (fs := [.null, .int 0, .int 0, .int 0]) (C := R_Parameter) (T := F_Parameter) (N := 4) hx hb hts kc_Parameter.2.1 t_Parameter kc_Parameter.2.2.1 hown (hts _ wl_c_Declaration_18) (hts _ win_Parameter) (hts _ wz_Parameter) hK hP hD hS hA kc_Parameter.1 (fun j hj => by rcases (show j = 0 ∨ j = 1 ∨ j = 2 ∨ j = 3 by omega) with rfl | rfl | rfl | rfl <;> rfl) (Nat.le_of_ble_eq_true rfl) (Nat.le_of_ble_eq_true rfl) d_Declaration_init_47 (fun q47_5 H hP hD hS => ?_)
  have hP : va_P (gD g) classes [(h0, .inr (1, [.ref q5_1, .ref q18, .int 0, .int 0])), (q5_1, .inr (2, [.ref (a9_2 0), .int 0])), ((a9_2 0), .inl (gt g 1, 40, .inl (fun _ => 0))), (q18, .inl (gt g 3, 6, .inr (.inr (.inr (.inr (va_up (fun _ => none) 0 (some q47_3))))))), (q47_3, .inr (7, [.ref (a51_4 0), .int 0, .int 0, .int 97])), ((a51_4 0), .inl (gt g 4, 3, .inr (.inr (.inr (.inr (va_up (va_up (va_up (fun _ => none) 0 (some (a51_4 1))) 1 (some (a51_4 3))) 2 (some (a51_4 5)))))))), ((a51_4 1), .inr (8, [.ref (a51_4 2), .int 0])), ((a51_4 2), .inl (gt g 1, 8, .inl (fun _ => 0))), ((a51_4 3), .inr (8, [.ref (a51_4 4), .int 0])), ((a51_4 4), .inl (gt g 1, 8, .inl (fun _ => 0))), ((a51_4 5), .inr (8, [.ref (a51_4 6), .int 0])), ((a51_4 6), .inl (gt g 1, 8, .inl (fun _ => 0))), (q47_5, .inr (7, [.null, .int 0, .int 0, .int 0]))] H := hP
  have hD : va_D A [(h0, .inr (1, [.ref q5_1, .ref q18, .int 0, .int 0])), (q5_1, .inr (2, [.ref (a9_2 0), .int 0])), ((a9_2 0), .inl (gt g 1, 40, .inl (fun _ => 0))), (q18, .inl (gt g 3, 6, .inr (.inr (.inr (.inr (va_up (fun _ => none) 0 (some q47_3))))))), (q47_3, .inr (7, [.ref (a51_4 0), .int 0, .int 0, .int 97])), ((a51_4 0), .inl (gt g 4, 3, .inr (.inr (.inr (.inr (va_up (va_up (va_up (fun _ => none) 0 (some (a51_4 1))) 1 (some (a51_4 3))) 2 (some (a51_4 5)))))))), ((a51_4 1), .inr (8, [.ref (a51_4 2), .int 0])), ((a51_4 2), .inl (gt g 1, 8, .inl (fun _ => 0))), ((a51_4 3), .inr (8, [.ref (a51_4 4), .int 0])), ((a51_4 4), .inl (gt g 1, 8, .inl (fun _ => 0))), ((a51_4 5), .inr (8, [.ref (a51_4 6), .int 0])), ((a51_4 6), .inl (gt g 1, 8, .inl (fun _ => 0))), (q47_5, .inr (7, [.null, .int 0, .int 0, .int 0]))] := hD
  refine W.widen (k := 12) (n := 89) (Nat.le_of_ble_eq_true rfl) (Nat.le_of_ble_eq_true rfl) ?_
  refine lv_dup hx hb d_Declaration_init_50 rfl ?_
  have hPc := hP.sub (ws' := [(q47_5, .inr (7, [.null, .int 0, .int 0, .int 0]))]) [12] rfl
  have hDc := hD.sub (ws' := [(q47_5, .inr (7, [.null, .int 0, .int 0, .int 0]))]) [12] (by decide) rfl
  have hFc := va_free (wc := [(q47_5, .inr (7, [.null, .int 0, .int 0, .int 0]))]) hD hS hA [12] rfl
  refine va_callv (va_runI (As := []) (rest := [.ref q47_5, .int 1, .ref q18]) ⟨hx, hb, hml, hown, hts⟩ (n_Parameter_init l g q47_5 _) (cwI 0 hts (ws_good wc_Parameter_init) rfl rfl rfl (hts _ wz_Parameter) (hts _ wm_Declaration_31) (hts _ wi_Parameter_init) rfl wd_Parameter_init ⟨(Nat.le_of_ble_eq_true rfl), (Nat.le_of_ble_eq_true rfl)⟩) ⟨Pn_blind, fun U hU hW => ⟨rfl, by rw [hU], by rw [hU]; exact hPc, hSt.warm hW, hDc.weaken (fun _ _ _ _ => trivial)⟩⟩ rfl rfl hl.1 rfl (lv_room (Nat.le_of_ble_eq_true rfl)) d_Declaration_init_51 ⟨(Nat.le_of_ble_eq_true rfl), (Nat.le_of_ble_eq_true rfl)⟩) hS (fun q _ h => hFc q h) hFc (fun a51_6 t H1 locs ht hvm hw hB hz1 hk1 hS => ?_)
  obtain ⟨hP1, hD1⟩ := hB
  rw [ht] at hP1
  obtain ⟨hP, hD⟩ := va_join (wr := [(h0, .inr (1, [.ref q5_1, .ref q18, .int 0, .int 0])), (q5_1, .inr (2, [.ref (a9_2 0), .int 0])), ((a9_2 0), .inl (gt g 1, 40, .inl (fun _ => 0))), (q18, .inl (gt g 3, 6, .inr (.inr (.inr (.inr (va_up (fun _ => none) 0 (some q47_3))))))), (q47_3, .inr (7, [.ref (a51_4 0), .int 0, .int 0, .int 97])), ((a51_4 0), .inl (gt g 4, 3, .inr (.inr (.inr (.inr (va_up (va_up (va_up (fun _ => none) 0 (some (a51_4 1))) 1 (some (a51_4 3))) 2 (some (a51_4 5)))))))), ((a51_4 1), .inr (8, [.ref (a51_4 2), .int 0])), ((a51_4 2), .inl (gt g 1, 8, .inl (fun _ => 0))), ((a51_4 3), .inr (8, [.ref (a51_4 4), .int 0])), ((a51_4 4), .inl (gt g 1, 8, .inl (fun _ => 0))), ((a51_4 5), .inr (8, [.ref (a51_4 6), .int 0])), ((a51_4 6), .inl (gt g 1, 8, .inl (fun _ => 0)))]) (w1 := w_Parameter_init g q47_5 a51_6) hP hD [12] [0, 1, 2, 3, 4, 5, 6, 7, 8, 9, 10, 11] rfl rfl (by decide) (by decide) hk1 hFc hP1 hD1
  generalize H1 = H at hP hS ⊢
  have hP : va_P (gD g) classes [(h0, .inr (1, [.ref q5_1, .ref q18, .int 0, .int 0])), (q5_1, .inr (2, [.ref (a9_2 0), .int 0])), ((a9_2 0), .inl (gt g 1, 40, .inl (fun _ => 0))), (q18, .inl (gt g 3, 6, .inr (.inr (.inr (.inr (va_up (fun _ => none) 0 (some q47_3))))))), (q47_3, .inr (7, [.ref (a51_4 0), .int 0, .int 0, .int 97])), ((a51_4 0), .inl (gt g 4, 3, .inr (.inr (.inr (.inr (va_up (va_up (va_up (fun _ => none) 0 (some (a51_4 1))) 1 (some (a51_4 3))) 2 (some (a51_4 5)))))))), ((a51_4 1), .inr (8, [.ref (a51_4 2), .int 0])), ((a51_4 2), .inl (gt g 1, 8, .inl (fun _ => 0))), ((a51_4 3), .inr (8, [.ref (a51_4 4), .int 0])), ((a51_4 4), .inl (gt g 1, 8, .inl (fun _ => 0))), ((a51_4 5), .inr (8, [.ref (a51_4 6), .int 0])), ((a51_4 6), .inl (gt g 1, 8, .inl (fun _ => 0))), (q47_5, .inr (7, [.ref (a51_6 0), .int 0, .int 0, .int 97])), ((a51_6 0), .inl (gt g 4, 3, .inr (.inr (.inr (.inr (va_up (va_up (va_up (fun _ => none) 0 (some (a51_6 1))) 1 (some (a51_6 3))) 2 (some (a51_6 5)))))))), ((a51_6 1), .inr (8, [.ref (a51_6 2), .int 0])), ((a51_6 2), .inl (gt g 1, 8, .inl (fun _ => 0))), ((a51_6 3), .inr (8, [.ref (a51_6 4), .int 0])), ((a51_6 4), .inl (gt g 1, 8, .inl (fun _ => 0))), ((a51_6 5), .inr (8, [.ref (a51_6 6), .int 0])), ((a51_6 6), .inl (gt g 1, 8, .inl (fun _ => 0)))] H := hP
  have hD : va_D A [(h0, .inr (1, [.ref q5_1, .ref q18, .int 0, .int 0])), (q5_1, .inr (2, [.ref (a9_2 0), .int 0])), ((a9_2 0), .inl (gt g 1, 40, .inl (fun _ => 0))), (q18, .inl (gt g 3, 6, .inr (.inr (.inr (.inr (va_up (fun _ => none) 0 (some q47_3))))))), (q47_3, .inr (7, [.ref (a51_4 0), .int 0, .int 0, .int 97])), ((a51_4 0), .inl (gt g 4, 3, .inr (.inr (.inr (.inr (va_up (va_up (va_up (fun _ => none) 0 (some (a51_4 1))) 1 (some (a51_4 3))) 2 (some (a51_4 5)))))))), ((a51_4 1), .inr (8, [.ref (a51_4 2), .int 0])), ((a51_4 2), .inl (gt g 1, 8, .inl (fun _ => 0))), ((a51_4 3), .inr (8, [.ref (a51_4 4), .int 0])), ((a51_4 4), .inl (gt g 1, 8, .inl (fun _ => 0))), ((a51_4 5), .inr (8, [.ref (a51_4 6), .int 0])), ((a51_4 6), .inl (gt g 1, 8, .inl (fun _ => 0))), (q47_5, .inr (7, [.ref (a51_6 0), .int 0, .int 0, .int 97])), ((a51_6 0), .inl (gt g 4, 3, .inr (.inr (.inr (.inr (va_up (va_up (va_up (fun _ => none) 0 (some (a51_6 1))) 1 (some (a51_6 3))) 2 (some (a51_6 5)))))))), ((a51_6 1), .inr (8, [.ref (a51_6 2), .int 0])), ((a51_6 2), .inl (gt g 1, 8, .inl (fun _ => 0))), ((a51_6 3), .inr (8, [.ref (a51_6 4), .int 0])), ((a51_6 4), .inl (gt g 1, 8, .inl (fun _ => 0))), ((a51_6 5), .inr (8, [.ref (a51_6 6), .int 0])), ((a51_6 6), .inl (gt g 1, 8, .inl (fun _ => 0)))] := hD
  refine W.widen (k := 19) (n := 122) (Nat.le_of_ble_eq_true rfl) (Nat.le_of_ble_eq_true rfl) ?_
  refine va_astq hx hb hK hP hD hS 3 3 12 7 rfl rfl rfl kc_Parameter.1 (by unfold vp_in; decide) d_Declaration_init_54 (fun H locs hP hD hS => ?_)
  have hP : va_P (gD g) classes [(h0, .inr (1, [.ref q5_1, .ref q18, .int 0, .int 0])), (q5_1, .inr (2, [.ref (a9_2 0), .int 0])), ((a9_2 0), .inl (gt g 1, 40, .inl (fun _ => 0))), (q18, .inl (gt g 3, 6, .inr (.inr (.inr (.inr (va_up (va_up (fun _ => none) 0 (some q47_3)) 1 (some q47_5))))))), (q47_3, .inr (7, [.ref (a51_4 0), .int 0, .int 0, .int 97])), ((a51_4 0), .inl (gt g 4, 3, .inr (.inr (.inr (.inr (va_up (va_up (va_up (fun _ => none) 0 (some (a51_4 1))) 1 (some (a51_4 3))) 2 (some (a51_4 5)))))))), ((a51_4 1), .inr (8, [.ref (a51_4 2), .int 0])), ((a51_4 2), .inl (gt g 1, 8, .inl (fun _ => 0))), ((a51_4 3), .inr (8, [.ref (a51_4 4), .int 0])), ((a51_4 4), .inl (gt g 1, 8, .inl (fun _ => 0))), ((a51_4 5), .inr (8, [.ref (a51_4 6), .int 0])), ((a51_4 6), .inl (gt g 1, 8, .inl (fun _ => 0))), (q47_5, .inr (7, [.ref (a51_6 0), .int 0, .int 0, .int 97])), ((a51_6 0), .inl (gt g 4, 3, .inr (.inr (.inr (.inr (va_up (va_up (va_up (fun _ => none) 0 (some (a51_6 1))) 1 (some (a51_6 3))) 2 (some (a51_6 5)))))))), ((a51_6 1), .inr (8, [.ref (a51_6 2), .int 0])), ((a51_6 2), .inl (gt g 1, 8, .inl (fun _ => 0))), ((a51_6 3), .inr (8, [.ref (a51_6 4), .int 0])), ((a51_6 4), .inl (gt g 1, 8, .inl (fun _ => 0))), ((a51_6 5), .inr (8, [.ref (a51_6 6), .int 0])), ((a51_6 6), .inl (gt g 1, 8, .inl (fun _ => 0)))] H := hP
  have hD : va_D A [(h0, .inr (1, [.ref q5_1, .ref q18, .int 0, .int 0])), (q5_1, .inr (2, [.ref (a9_2 0), .int 0])), ((a9_2 0), .inl (gt g 1, 40, .inl (fun _ => 0))), (q18, .inl (gt g 3, 6, .inr (.inr (.inr (.inr (va_up (va_up (fun _ => none) 0 (some q47_3)) 1 (some q47_5))))))), (q47_3, .inr (7, [.ref (a51_4 0), .int 0, .int 0, .int 97])), ((a51_4 0), .inl (gt g 4, 3, .inr (.inr (.inr (.inr (va_up (va_up (va_up (fun _ => none) 0 (some (a51_4 1))) 1 (some (a51_4 3))) 2 (some (a51_4 5)))))))), ((a51_4 1), .inr (8, [.ref (a51_4 2), .int 0])), ((a51_4 2), .inl (gt g 1, 8, .inl (fun _ => 0))), ((a51_4 3), .inr (8, [.ref (a51_4 4), .int 0])), ((a51_4 4), .inl (gt g 1, 8, .inl (fun _ => 0))), ((a51_4 5), .inr (8, [.ref (a51_4 6), .int 0])), ((a51_4 6), .inl (gt g 1, 8, .inl (fun _ => 0))), (q47_5, .inr (7, [.ref (a51_6 0), .int 0, .int 0, .int 97])), ((a51_6 0), .inl (gt g 4, 3, .inr (.inr (.inr (.inr (va_up (va_up (va_up (fun _ => none) 0 (some (a51_6 1))) 1 (some (a51_6 3))) 2 (some (a51_6 5)))))))), ((a51_6 1), .inr (8, [.ref (a51_6 2), .int 0])), ((a51_6 2), .inl (gt g 1, 8, .inl (fun _ => 0))), ((a51_6 3), .inr (8, [.ref (a51_6 4), .int 0])), ((a51_6 4), .inl (gt g 1, 8, .inl (fun _ => 0))), ((a51_6 5), .inr (8, [.ref (a51_6 6), .int 0])), ((a51_6 6), .inl (gt g 1, 8, .inl (fun _ => 0)))] := hD
  refine lv_iinc (k := 0) (v := 2) (lv' := [(1, .int 2), (0, .ref h0)]) hx hb d_Declaration_init_55 hl rfl (by decide) (by decide) rfl (fun ls hl => ?_)
  refine lv_goto hx hb d_Declaration_init_58 rfl ?_
  refine lv_iload_n hx hb d_Declaration_init_36 rfl (lv_at hl 0 rfl) ?_
  refine lv_bipush (v := 6) hx hb d_Declaration_init_37 (by decide) ?_
  refine lv_icmp_ge hx hb d_Declaration_init_39 rfl (fun z => absurd z (by decide)) (fun _ => ?_)
  refine lv_aload_n hx hb d_Declaration_init_42 rfl (lv_at hl 1 rfl) ?_
  refine va_get (v := .ref q18) hx hb hts kc_Declaration.2.1 hown hK hP 0 rfl kc_Declaration.1 1 (by decide) (hts _ wf_Declaration_20) (fun _ h9 => h9) rfl d_Declaration_init_43 ?_
  refine lv_iload_n hx hb d_Declaration_init_46 rfl (lv_at hl 0 rfl) ?_
  refine va_new (ci := 7) (fs := [.null, .int 0, .int 0, .int 0]) (C := R_Parameter) (T := F_Parameter) (N := 4) hx hb hts kc_Parameter.2.1 t_Parameter kc_Parameter.2.2.1 hown (hts _ wl_c_Declaration_18) (hts _ win_Parameter) (hts _ wz_Parameter) hK hP hD hS hA kc_Parameter.1 (fun j hj => by rcases (show j = 0 ∨ j = 1 ∨ j = 2 ∨ j = 3 by omega) with rfl | rfl | rfl | rfl <;> rfl) (Nat.le_of_ble_eq_true rfl) (Nat.le_of_ble_eq_true rfl) d_Declaration_init_47 (fun q47_7 H hP hD hS => ?_)
  have hP : va_P (gD g) classes [(h0, .inr (1, [.ref q5_1, .ref q18, .int 0, .int 0])), (q5_1, .inr (2, [.ref (a9_2 0), .int 0])), ((a9_2 0), .inl (gt g 1, 40, .inl (fun _ => 0))), (q18, .inl (gt g 3, 6, .inr (.inr (.inr (.inr (va_up (va_up (fun _ => none) 0 (some q47_3)) 1 (some q47_5))))))), (q47_3, .inr (7, [.ref (a51_4 0), .int 0, .int 0, .int 97])), ((a51_4 0), .inl (gt g 4, 3, .inr (.inr (.inr (.inr (va_up (va_up (va_up (fun _ => none) 0 (some (a51_4 1))) 1 (some (a51_4 3))) 2 (some (a51_4 5)))))))), ((a51_4 1), .inr (8, [.ref (a51_4 2), .int 0])), ((a51_4 2), .inl (gt g 1, 8, .inl (fun _ => 0))), ((a51_4 3), .inr (8, [.ref (a51_4 4), .int 0])), ((a51_4 4), .inl (gt g 1, 8, .inl (fun _ => 0))), ((a51_4 5), .inr (8, [.ref (a51_4 6), .int 0])), ((a51_4 6), .inl (gt g 1, 8, .inl (fun _ => 0))), (q47_5, .inr (7, [.ref (a51_6 0), .int 0, .int 0, .int 97])), ((a51_6 0), .inl (gt g 4, 3, .inr (.inr (.inr (.inr (va_up (va_up (va_up (fun _ => none) 0 (some (a51_6 1))) 1 (some (a51_6 3))) 2 (some (a51_6 5)))))))), ((a51_6 1), .inr (8, [.ref (a51_6 2), .int 0])), ((a51_6 2), .inl (gt g 1, 8, .inl (fun _ => 0))), ((a51_6 3), .inr (8, [.ref (a51_6 4), .int 0])), ((a51_6 4), .inl (gt g 1, 8, .inl (fun _ => 0))), ((a51_6 5), .inr (8, [.ref (a51_6 6), .int 0])), ((a51_6 6), .inl (gt g 1, 8, .inl (fun _ => 0))), (q47_7, .inr (7, [.null, .int 0, .int 0, .int 0]))] H := hP
  have hD : va_D A [(h0, .inr (1, [.ref q5_1, .ref q18, .int 0, .int 0])), (q5_1, .inr (2, [.ref (a9_2 0), .int 0])), ((a9_2 0), .inl (gt g 1, 40, .inl (fun _ => 0))), (q18, .inl (gt g 3, 6, .inr (.inr (.inr (.inr (va_up (va_up (fun _ => none) 0 (some q47_3)) 1 (some q47_5))))))), (q47_3, .inr (7, [.ref (a51_4 0), .int 0, .int 0, .int 97])), ((a51_4 0), .inl (gt g 4, 3, .inr (.inr (.inr (.inr (va_up (va_up (va_up (fun _ => none) 0 (some (a51_4 1))) 1 (some (a51_4 3))) 2 (some (a51_4 5)))))))), ((a51_4 1), .inr (8, [.ref (a51_4 2), .int 0])), ((a51_4 2), .inl (gt g 1, 8, .inl (fun _ => 0))), ((a51_4 3), .inr (8, [.ref (a51_4 4), .int 0])), ((a51_4 4), .inl (gt g 1, 8, .inl (fun _ => 0))), ((a51_4 5), .inr (8, [.ref (a51_4 6), .int 0])), ((a51_4 6), .inl (gt g 1, 8, .inl (fun _ => 0))), (q47_5, .inr (7, [.ref (a51_6 0), .int 0, .int 0, .int 97])), ((a51_6 0), .inl (gt g 4, 3, .inr (.inr (.inr (.inr (va_up (va_up (va_up (fun _ => none) 0 (some (a51_6 1))) 1 (some (a51_6 3))) 2 (some (a51_6 5)))))))), ((a51_6 1), .inr (8, [.ref (a51_6 2), .int 0])), ((a51_6 2), .inl (gt g 1, 8, .inl (fun _ => 0))), ((a51_6 3), .inr (8, [.ref (a51_6 4), .int 0])), ((a51_6 4), .inl (gt g 1, 8, .inl (fun _ => 0))), ((a51_6 5), .inr (8, [.ref (a51_6 6), .int 0])), ((a51_6 6), .inl (gt g 1, 8, .inl (fun _ => 0))), (q47_7, .inr (7, [.null, .int 0, .int 0, .int 0]))] := hD
  refine W.widen (k := 20) (n := 126) (Nat.le_of_ble_eq_true rfl) (Nat.le_of_ble_eq_true rfl) ?_
  refine lv_dup hx hb d_Declaration_init_50 rfl ?_
  have hPc := hP.sub (ws' := [(q47_7, .inr (7, [.null, .int 0, .int 0, .int 0]))]) [20] rfl
  have hDc := hD.sub (ws' := [(q47_7, .inr (7, [.null, .int 0, .int 0, .int 0]))]) [20] (by decide) rfl
  have hFc := va_free (wc := [(q47_7, .inr (7, [.null, .int 0, .int 0, .int 0]))]) hD hS hA [20] rfl
  refine va_callv (va_runI (As := []) (rest := [.ref q47_7, .int 2, .ref q18]) ⟨hx, hb, hml, hown, hts⟩ (n_Parameter_init l g q47_7 _) (cwI 0 hts (ws_good wc_Parameter_init) rfl rfl rfl (hts _ wz_Parameter) (hts _ wm_Declaration_31) (hts _ wi_Parameter_init) rfl wd_Parameter_init ⟨(Nat.le_of_ble_eq_true rfl), (Nat.le_of_ble_eq_true rfl)⟩) ⟨Pn_blind, fun U hU hW => ⟨rfl, by rw [hU], by rw [hU]; exact hPc, hSt.warm hW, hDc.weaken (fun _ _ _ _ => trivial)⟩⟩ rfl rfl hl.1 rfl (lv_room (Nat.le_of_ble_eq_true rfl)) d_Declaration_init_51 ⟨(Nat.le_of_ble_eq_true rfl), (Nat.le_of_ble_eq_true rfl)⟩) hS (fun q _ h => hFc q h) hFc (fun a51_8 t H1 locs ht hvm hw hB hz1 hk1 hS => ?_)
  obtain ⟨hP1, hD1⟩ := hB
  rw [ht] at hP1
  obtain ⟨hP, hD⟩ := va_join (wr := [(h0, .inr (1, [.ref q5_1, .ref q18, .int 0, .int 0])), (q5_1, .inr (2, [.ref (a9_2 0), .int 0])), ((a9_2 0), .inl (gt g 1, 40, .inl (fun _ => 0))), (q18, .inl (gt g 3, 6, .inr (.inr (.inr (.inr (va_up (va_up (fun _ => none) 0 (some q47_3)) 1 (some q47_5))))))), (q47_3, .inr (7, [.ref (a51_4 0), .int 0, .int 0, .int 97])), ((a51_4 0), .inl (gt g 4, 3, .inr (.inr (.inr (.inr (va_up (va_up (va_up (fun _ => none) 0 (some (a51_4 1))) 1 (some (a51_4 3))) 2 (some (a51_4 5)))))))), ((a51_4 1), .inr (8, [.ref (a51_4 2), .int 0])), ((a51_4 2), .inl (gt g 1, 8, .inl (fun _ => 0))), ((a51_4 3), .inr (8, [.ref (a51_4 4), .int 0])), ((a51_4 4), .inl (gt g 1, 8, .inl (fun _ => 0))), ((a51_4 5), .inr (8, [.ref (a51_4 6), .int 0])), ((a51_4 6), .inl (gt g 1, 8, .inl (fun _ => 0))), (q47_5, .inr (7, [.ref (a51_6 0), .int 0, .int 0, .int 97])), ((a51_6 0), .inl (gt g 4, 3, .inr (.inr (.inr (.inr (va_up (va_up (va_up (fun _ => none) 0 (some (a51_6 1))) 1 (some (a51_6 3))) 2 (some (a51_6 5)))))))), ((a51_6 1), .inr (8, [.ref (a51_6 2), .int 0])), ((a51_6 2), .inl (gt g 1, 8, .inl (fun _ => 0))), ((a51_6 3), .inr (8, [.ref (a51_6 4), .int 0])), ((a51_6 4), .inl (gt g 1, 8, .inl (fun _ => 0))), ((a51_6 5), .inr (8, [.ref (a51_6 6), .int 0])), ((a51_6 6), .inl (gt g 1, 8, .inl (fun _ => 0)))]) (w1 := w_Parameter_init g q47_7 a51_8) hP hD [20] [0, 1, 2, 3, 4, 5, 6, 7, 8, 9, 10, 11, 12, 13, 14, 15, 16, 17, 18, 19] rfl rfl (by decide) (by decide) hk1 hFc hP1 hD1
  generalize H1 = H at hP hS ⊢
  have hP : va_P (gD g) classes [(h0, .inr (1, [.ref q5_1, .ref q18, .int 0, .int 0])), (q5_1, .inr (2, [.ref (a9_2 0), .int 0])), ((a9_2 0), .inl (gt g 1, 40, .inl (fun _ => 0))), (q18, .inl (gt g 3, 6, .inr (.inr (.inr (.inr (va_up (va_up (fun _ => none) 0 (some q47_3)) 1 (some q47_5))))))), (q47_3, .inr (7, [.ref (a51_4 0), .int 0, .int 0, .int 97])), ((a51_4 0), .inl (gt g 4, 3, .inr (.inr (.inr (.inr (va_up (va_up (va_up (fun _ => none) 0 (some (a51_4 1))) 1 (some (a51_4 3))) 2 (some (a51_4 5)))))))), ((a51_4 1), .inr (8, [.ref (a51_4 2), .int 0])), ((a51_4 2), .inl (gt g 1, 8, .inl (fun _ => 0))), ((a51_4 3), .inr (8, [.ref (a51_4 4), .int 0])), ((a51_4 4), .inl (gt g 1, 8, .inl (fun _ => 0))), ((a51_4 5), .inr (8, [.ref (a51_4 6), .int 0])), ((a51_4 6), .inl (gt g 1, 8, .inl (fun _ => 0))), (q47_5, .inr (7, [.ref (a51_6 0), .int 0, .int 0, .int 97])), ((a51_6 0), .inl (gt g 4, 3, .inr (.inr (.inr (.inr (va_up (va_up (va_up (fun _ => none) 0 (some (a51_6 1))) 1 (some (a51_6 3))) 2 (some (a51_6 5)))))))), ((a51_6 1), .inr (8, [.ref (a51_6 2), .int 0])), ((a51_6 2), .inl (gt g 1, 8, .inl (fun _ => 0))), ((a51_6 3), .inr (8, [.ref (a51_6 4), .int 0])), ((a51_6 4), .inl (gt g 1, 8, .inl (fun _ => 0))), ((a51_6 5), .inr (8, [.ref (a51_6 6), .int 0])), ((a51_6 6), .inl (gt g 1, 8, .inl (fun _ => 0))), (q47_7, .inr (7, [.ref (a51_8 0), .int 0, .int 0, .int 97])), ((a51_8 0), .inl (gt g 4, 3, .inr (.inr (.inr (.inr (va_up (va_up (va_up (fun _ => none) 0 (some (a51_8 1))) 1 (some (a51_8 3))) 2 (some (a51_8 5)))))))), ((a51_8 1), .inr (8, [.ref (a51_8 2), .int 0])), ((a51_8 2), .inl (gt g 1, 8, .inl (fun _ => 0))), ((a51_8 3), .inr (8, [.ref (a51_8 4), .int 0])), ((a51_8 4), .inl (gt g 1, 8, .inl (fun _ => 0))), ((a51_8 5), .inr (8, [.ref (a51_8 6), .int 0])), ((a51_8 6), .inl (gt g 1, 8, .inl (fun _ => 0)))] H := hP
  have hD : va_D A [(h0, .inr (1, [.ref q5_1, .ref q18, .int 0, .int 0])), (q5_1, .inr (2, [.ref (a9_2 0), .int 0])), ((a9_2 0), .inl (gt g 1, 40, .inl (fun _ => 0))), (q18, .inl (gt g 3, 6, .inr (.inr (.inr (.inr (va_up (va_up (fun _ => none) 0 (some q47_3)) 1 (some q47_5))))))), (q47_3, .inr (7, [.ref (a51_4 0), .int 0, .int 0, .int 97])), ((a51_4 0), .inl (gt g 4, 3, .inr (.inr (.inr (.inr (va_up (va_up (va_up (fun _ => none) 0 (some (a51_4 1))) 1 (some (a51_4 3))) 2 (some (a51_4 5)))))))), ((a51_4 1), .inr (8, [.ref (a51_4 2), .int 0])), ((a51_4 2), .inl (gt g 1, 8, .inl (fun _ => 0))), ((a51_4 3), .inr (8, [.ref (a51_4 4), .int 0])), ((a51_4 4), .inl (gt g 1, 8, .inl (fun _ => 0))), ((a51_4 5), .inr (8, [.ref (a51_4 6), .int 0])), ((a51_4 6), .inl (gt g 1, 8, .inl (fun _ => 0))), (q47_5, .inr (7, [.ref (a51_6 0), .int 0, .int 0, .int 97])), ((a51_6 0), .inl (gt g 4, 3, .inr (.inr (.inr (.inr (va_up (va_up (va_up (fun _ => none) 0 (some (a51_6 1))) 1 (some (a51_6 3))) 2 (some (a51_6 5)))))))), ((a51_6 1), .inr (8, [.ref (a51_6 2), .int 0])), ((a51_6 2), .inl (gt g 1, 8, .inl (fun _ => 0))), ((a51_6 3), .inr (8, [.ref (a51_6 4), .int 0])), ((a51_6 4), .inl (gt g 1, 8, .inl (fun _ => 0))), ((a51_6 5), .inr (8, [.ref (a51_6 6), .int 0])), ((a51_6 6), .inl (gt g 1, 8, .inl (fun _ => 0))), (q47_7, .inr (7, [.ref (a51_8 0), .int 0, .int 0, .int 97])), ((a51_8 0), .inl (gt g 4, 3, .inr (.inr (.inr (.inr (va_up (va_up (va_up (fun _ => none) 0 (some (a51_8 1))) 1 (some (a51_8 3))) 2 (some (a51_8 5)))))))), ((a51_8 1), .inr (8, [.ref (a51_8 2), .int 0])), ((a51_8 2), .inl (gt g 1, 8, .inl (fun _ => 0))), ((a51_8 3), .inr (8, [.ref (a51_8 4), .int 0])), ((a51_8 4), .inl (gt g 1, 8, .inl (fun _ => 0))), ((a51_8 5), .inr (8, [.ref (a51_8 6), .int 0])), ((a51_8 6), .inl (gt g 1, 8, .inl (fun _ => 0)))] := hD
  refine W.widen (k := 27) (n := 159) (Nat.le_of_ble_eq_true rfl) (Nat.le_of_ble_eq_true rfl) ?_
  refine va_astq hx hb hK hP hD hS 3 3 20 7 rfl rfl rfl kc_Parameter.1 (by unfold vp_in; decide) d_Declaration_init_54 (fun H locs hP hD hS => ?_)
  have hP : va_P (gD g) classes [(h0, .inr (1, [.ref q5_1, .ref q18, .int 0, .int 0])), (q5_1, .inr (2, [.ref (a9_2 0), .int 0])), ((a9_2 0), .inl (gt g 1, 40, .inl (fun _ => 0))), (q18, .inl (gt g 3, 6, .inr (.inr (.inr (.inr (va_up (va_up (va_up (fun _ => none) 0 (some q47_3)) 1 (some q47_5)) 2 (some q47_7))))))), (q47_3, .inr (7, [.ref (a51_4 0), .int 0, .int 0, .int 97])), ((a51_4 0), .inl (gt g 4, 3, .inr (.inr (.inr (.inr (va_up (va_up (va_up (fun _ => none) 0 (some (a51_4 1))) 1 (some (a51_4 3))) 2 (some (a51_4 5)))))))), ((a51_4 1), .inr (8, [.ref (a51_4 2), .int 0])), ((a51_4 2), .inl (gt g 1, 8, .inl (fun _ => 0))), ((a51_4 3), .inr (8, [.ref (a51_4 4), .int 0])), ((a51_4 4), .inl (gt g 1, 8, .inl (fun _ => 0))), ((a51_4 5), .inr (8, [.ref (a51_4 6), .int 0])), ((a51_4 6), .inl (gt g 1, 8, .inl (fun _ => 0))), (q47_5, .inr (7, [.ref (a51_6 0), .int 0, .int 0, .int 97])), ((a51_6 0), .inl (gt g 4, 3, .inr (.inr (.inr (.inr (va_up (va_up (va_up (fun _ => none) 0 (some (a51_6 1))) 1 (some (a51_6 3))) 2 (some (a51_6 5)))))))), ((a51_6 1), .inr (8, [.ref (a51_6 2), .int 0])), ((a51_6 2), .inl (gt g 1, 8, .inl (fun _ => 0))), ((a51_6 3), .inr (8, [.ref (a51_6 4), .int 0])), ((a51_6 4), .inl (gt g 1, 8, .inl (fun _ => 0))), ((a51_6 5), .inr (8, [.ref (a51_6 6), .int 0])), ((a51_6 6), .inl (gt g 1, 8, .inl (fun _ => 0))), (q47_7, .inr (7, [.ref (a51_8 0), .int 0, .int 0, .int 97])), ((a51_8 0), .inl (gt g 4, 3, .inr (.inr (.inr (.inr (va_up (va_up (va_up (fun _ => none) 0 (some (a51_8 1))) 1 (some (a51_8 3))) 2 (some (a51_8 5)))))))), ((a51_8 1), .inr (8, [.ref (a51_8 2), .int 0])), ((a51_8 2), .inl (gt g 1, 8, .inl (fun _ => 0))), ((a51_8 3), .inr (8, [.ref (a51_8 4), .int 0])), ((a51_8 4), .inl (gt g 1, 8, .inl (fun _ => 0))), ((a51_8 5), .inr (8, [.ref (a51_8 6), .int 0])), ((a51_8 6), .inl (gt g 1, 8, .inl (fun _ => 0)))] H := hP
  have hD : va_D A [(h0, .inr (1, [.ref q5_1, .ref q18, .int 0, .int 0])), (q5_1, .inr (2, [.ref (a9_2 0), .int 0])), ((a9_2 0), .inl (gt g 1, 40, .inl (fun _ => 0))), (q18, .inl (gt g 3, 6, .inr (.inr (.inr (.inr (va_up (va_up (va_up (fun _ => none) 0 (some q47_3)) 1 (some q47_5)) 2 (some q47_7))))))), (q47_3, .inr (7, [.ref (a51_4 0), .int 0, .int 0, .int 97])), ((a51_4 0), .inl (gt g 4, 3, .inr (.inr (.inr (.inr (va_up (va_up (va_up (fun _ => none) 0 (some (a51_4 1))) 1 (some (a51_4 3))) 2 (some (a51_4 5)))))))), ((a51_4 1), .inr (8, [.ref (a51_4 2), .int 0])), ((a51_4 2), .inl (gt g 1, 8, .inl (fun _ => 0))), ((a51_4 3), .inr (8, [.ref (a51_4 4), .int 0])), ((a51_4 4), .inl (gt g 1, 8, .inl (fun _ => 0))), ((a51_4 5), .inr (8, [.ref (a51_4 6), .int 0])), ((a51_4 6), .inl (gt g 1, 8, .inl (fun _ => 0))), (q47_5, .inr (7, [.ref (a51_6 0), .int 0, .int 0, .int 97])), ((a51_6 0), .inl (gt g 4, 3, .inr (.inr (.inr (.inr (va_up (va_up (va_up (fun _ => none) 0 (some (a51_6 1))) 1 (some (a51_6 3))) 2 (some (a51_6 5)))))))), ((a51_6 1), .inr (8, [.ref (a51_6 2), .int 0])), ((a51_6 2), .inl (gt g 1, 8, .inl (fun _ => 0))), ((a51_6 3), .inr (8, [.ref (a51_6 4), .int 0])), ((a51_6 4), .inl (gt g 1, 8, .inl (fun _ => 0))), ((a51_6 5), .inr (8, [.ref (a51_6 6), .int 0])), ((a51_6 6), .inl (gt g 1, 8, .inl (fun _ => 0))), (q47_7, .inr (7, [.ref (a51_8 0), .int 0, .int 0, .int 97])), ((a51_8 0), .inl (gt g 4, 3, .inr (.inr (.inr (.inr (va_up (va_up (va_up (fun _ => none) 0 (some (a51_8 1))) 1 (some (a51_8 3))) 2 (some (a51_8 5)))))))), ((a51_8 1), .inr (8, [.ref (a51_8 2), .int 0])), ((a51_8 2), .inl (gt g 1, 8, .inl (fun _ => 0))), ((a51_8 3), .inr (8, [.ref (a51_8 4), .int 0])), ((a51_8 4), .inl (gt g 1, 8, .inl (fun _ => 0))), ((a51_8 5), .inr (8, [.ref (a51_8 6), .int 0])), ((a51_8 6), .inl (gt g 1, 8, .inl (fun _ => 0)))] := hD
  refine lv_iinc (k := 0) (v := 3) (lv' := [(1, .int 3), (0, .ref h0)]) hx hb d_Declaration_init_55 hl rfl (by decide) (by decide) rfl (fun ls hl => ?_)
  refine lv_goto hx hb d_Declaration_init_58 rfl ?_
  refine lv_iload_n hx hb d_Declaration_init_36 rfl (lv_at hl 0 rfl) ?_
  refine lv_bipush (v := 6) hx hb d_Declaration_init_37 (by decide) ?_
  refine lv_icmp_ge hx hb d_Declaration_init_39 rfl (fun z => absurd z (by decide)) (fun _ => ?_)
  refine lv_aload_n hx hb d_Declaration_init_42 rfl (lv_at hl 1 rfl) ?_
  refine va_get (v := .ref q18) hx hb hts kc_Declaration.2.1 hown hK hP 0 rfl kc_Declaration.1 1 (by decide) (hts _ wf_Declaration_20) (fun _ h9 => h9) rfl d_Declaration_init_43 ?_
  refine lv_iload_n hx hb d_Declaration_init_46 rfl (lv_at hl 0 rfl) ?_
  refine va_new (ci := 7) (fs := [.null, .int 0, .int 0, .int 0]) (C := R_Parameter) (T := F_Parameter) (N := 4) hx hb hts kc_Parameter.2.1 t_Parameter kc_Parameter.2.2.1 hown (hts _ wl_c_Declaration_18) (hts _ win_Parameter) (hts _ wz_Parameter) hK hP hD hS hA kc_Parameter.1 (fun j hj => by rcases (show j = 0 ∨ j = 1 ∨ j = 2 ∨ j = 3 by omega) with rfl | rfl | rfl | rfl <;> rfl) (Nat.le_of_ble_eq_true rfl) (Nat.le_of_ble_eq_true rfl) d_Declaration_init_47 (fun q47_9 H hP hD hS => ?_)
  have hP : va_P (gD g) classes [(h0, .inr (1, [.ref q5_1, .ref q18, .int 0, .int 0])), (q5_1, .inr (2, [.ref (a9_2 0), .int 0])), ((a9_2 0), .inl (gt g 1, 40, .inl (fun _ => 0))), (q18, .inl (gt g 3, 6, .inr (.inr (.inr (.inr (va_up (va_up (va_up (fun _ => none) 0 (some q47_3)) 1 (some q47_5)) 2 (some q47_7))))))), (q47_3, .inr (7, [.ref (a51_4 0), .int 0, .int 0, .int 97])), ((a51_4 0), .inl (gt g 4, 3, .inr (.inr (.inr (.inr (va_up (va_up (va_up (fun _ => none) 0 (some (a51_4 1))) 1 (some (a51_4 3))) 2 (some (a51_4 5)))))))), ((a51_4 1), .inr (8, [.ref (a51_4 2), .int 0])), ((a51_4 2), .inl (gt g 1, 8, .inl (fun _ => 0))), ((a51_4 3), .inr (8, [.ref (a51_4 4), .int 0])), ((a51_4 4), .inl (gt g 1, 8, .inl (fun _ => 0))), ((a51_4 5), .inr (8, [.ref (a51_4 6), .int 0])), ((a51_4 6), .inl (gt g 1, 8, .inl (fun _ => 0))), (q47_5, .inr (7, [.ref (a51_6 0), .int 0, .int 0, .int 97])), ((a51_6 0), .inl (gt g 4, 3, .inr (.inr (.inr (.inr (va_up (va_up (va_up (fun _ => none) 0 (some (a51_6 1))) 1 (some (a51_6 3))) 2 (some (a51_6 5)))))))), ((a51_6 1), .inr (8, [.ref (a51_6 2), .int 0])), ((a51_6 2), .inl (gt g 1, 8, .inl (fun _ => 0))), ((a51_6 3), .inr (8, [.ref (a51_6 4), .int 0])), ((a51_6 4), .inl (gt g 1, 8, .inl (fun _ => 0))), ((a51_6 5), .inr (8, [.ref (a51_6 6), .int 0])), ((a51_6 6), .inl (gt g 1, 8, .inl (fun _ => 0))), (q47_7, .inr (7, [.ref (a51_8 0), .int 0, .int 0, .int 97])), ((a51_8 0), .inl (gt g 4, 3, .inr (.inr (.inr (.inr (va_up (va_up (va_up (fun _ => none) 0 (some (a51_8 1))) 1 (some (a51_8 3))) 2 (some (a51_8 5)))))))), ((a51_8 1), .inr (8, [.ref (a51_8 2), .int 0])), ((a51_8 2), .inl (gt g 1, 8, .inl (fun _ => 0))), ((a51_8 3), .inr (8, [.ref (a51_8 4), .int 0])), ((a51_8 4), .inl (gt g 1, 8, .inl (fun _ => 0))), ((a51_8 5), .inr (8, [.ref (a51_8 6), .int 0])), ((a51_8 6), .inl (gt g 1, 8, .inl (fun _ => 0))), (q47_9, .inr (7, [.null, .int 0, .int 0, .int 0]))] H := hP
  have hD : va_D A [(h0, .inr (1, [.ref q5_1, .ref q18, .int 0, .int 0])), (q5_1, .inr (2, [.ref (a9_2 0), .int 0])), ((a9_2 0), .inl (gt g 1, 40, .inl (fun _ => 0))), (q18, .inl (gt g 3, 6, .inr (.inr (.inr (.inr (va_up (va_up (va_up (fun _ => none) 0 (some q47_3)) 1 (some q47_5)) 2 (some q47_7))))))), (q47_3, .inr (7, [.ref (a51_4 0), .int 0, .int 0, .int 97])), ((a51_4 0), .inl (gt g 4, 3, .inr (.inr (.inr (.inr (va_up (va_up (va_up (fun _ => none) 0 (some (a51_4 1))) 1 (some (a51_4 3))) 2 (some (a51_4 5)))))))), ((a51_4 1), .inr (8, [.ref (a51_4 2), .int 0])), ((a51_4 2), .inl (gt g 1, 8, .inl (fun _ => 0))), ((a51_4 3), .inr (8, [.ref (a51_4 4), .int 0])), ((a51_4 4), .inl (gt g 1, 8, .inl (fun _ => 0))), ((a51_4 5), .inr (8, [.ref (a51_4 6), .int 0])), ((a51_4 6), .inl (gt g 1, 8, .inl (fun _ => 0))), (q47_5, .inr (7, [.ref (a51_6 0), .int 0, .int 0, .int 97])), ((a51_6 0), .inl (gt g 4, 3, .inr (.inr (.inr (.inr (va_up (va_up (va_up (fun _ => none) 0 (some (a51_6 1))) 1 (some (a51_6 3))) 2 (some (a51_6 5)))))))), ((a51_6 1), .inr (8, [.ref (a51_6 2), .int 0])), ((a51_6 2), .inl (gt g 1, 8, .inl (fun _ => 0))), ((a51_6 3), .inr (8, [.ref (a51_6 4), .int 0])), ((a51_6 4), .inl (gt g 1, 8, .inl (fun _ => 0))), ((a51_6 5), .inr (8, [.ref (a51_6 6), .int 0])), ((a51_6 6), .inl (gt g 1, 8, .inl (fun _ => 0))), (q47_7, .inr (7, [.ref (a51_8 0), .int 0, .int 0, .int 97])), ((a51_8 0), .inl (gt g 4, 3, .inr (.inr (.inr (.inr (va_up (va_up (va_up (fun _ => none) 0 (some (a51_8 1))) 1 (some (a51_8 3))) 2 (some (a51_8 5)))))))), ((a51_8 1), .inr (8, [.ref (a51_8 2), .int 0])), ((a51_8 2), .inl (gt g 1, 8, .inl (fun _ => 0))), ((a51_8 3), .inr (8, [.ref (a51_8 4), .int 0])), ((a51_8 4), .inl (gt g 1, 8, .inl (fun _ => 0))), ((a51_8 5), .inr (8, [.ref (a51_8 6), .int 0])), ((a51_8 6), .inl (gt g 1, 8, .inl (fun _ => 0))), (q47_9, .inr (7, [.null, .int 0, .int 0, .int 0]))] := hD
  refine W.widen (k := 28) (n := 163) (Nat.le_of_ble_eq_true rfl) (Nat.le_of_ble_eq_true rfl) ?_
  refine lv_dup hx hb d_Declaration_init_50 rfl ?_
  have hPc := hP.sub (ws' := [(q47_9, .inr (7, [.null, .int 0, .int 0, .int 0]))]) [28] rfl
  have hDc := hD.sub (ws' := [(q47_9, .inr (7, [.null, .int 0, .int 0, .int 0]))]) [28] (by decide) rfl
  have hFc := va_free (wc := [(q47_9, .inr (7, [.null, .int 0, .int 0, .int 0]))]) hD hS hA [28] rfl
  refine va_callv (va_runI (As := []) (rest := [.ref q47_9, .int 3, .ref q18]) ⟨hx, hb, hml, hown, hts⟩ (n_Parameter_init l g q47_9 _) (cwI 0 hts (ws_good wc_Parameter_init) rfl rfl rfl (hts _ wz_Parameter) (hts _ wm_Declaration_31) (hts _ wi_Parameter_init) rfl wd_Parameter_init ⟨(Nat.le_of_ble_eq_true rfl), (Nat.le_of_ble_eq_true rfl)⟩) ⟨Pn_blind, fun U hU hW => ⟨rfl, by rw [hU], by rw [hU]; exact hPc, hSt.warm hW, hDc.weaken (fun _ _ _ _ => trivial)⟩⟩ rfl rfl hl.1 rfl (lv_room (Nat.le_of_ble_eq_true rfl)) d_Declaration_init_51 ⟨(Nat.le_of_ble_eq_true rfl), (Nat.le_of_ble_eq_true rfl)⟩) hS (fun q _ h => hFc q h) hFc (fun a51_10 t H1 locs ht hvm hw hB hz1 hk1 hS => ?_)
  obtain ⟨hP1, hD1⟩ := hB
  rw [ht] at hP1
  obtain ⟨hP, hD⟩ := va_join (wr := [(h0, .inr (1, [.ref q5_1, .ref q18, .int 0, .int 0])), (q5_1, .inr (2, [.ref (a9_2 0), .int 0])), ((a9_2 0), .inl (gt g 1, 40, .inl (fun _ => 0))), (q18, .inl (gt g 3, 6, .inr (.inr (.inr (.inr (va_up (va_up (va_up (fun _ => none) 0 (some q47_3)) 1 (some q47_5)) 2 (some q47_7))))))), (q47_3, .inr (7, [.ref (a51_4 0), .int 0, .int 0, .int 97])), ((a51_4 0), .inl (gt g 4, 3, .inr (.inr (.inr (.inr (va_up (va_up (va_up (fun _ => none) 0 (some (a51_4 1))) 1 (some (a51_4 3))) 2 (some (a51_4 5)))))))), ((a51_4 1), .inr (8, [.ref (a51_4 2), .int 0])), ((a51_4 2), .inl (gt g 1, 8, .inl (fun _ => 0))), ((a51_4 3), .inr (8, [.ref (a51_4 4), .int 0])), ((a51_4 4), .inl (gt g 1, 8, .inl (fun _ => 0))), ((a51_4 5), .inr (8, [.ref (a51_4 6), .int 0])), ((a51_4 6), .inl (gt g 1, 8, .inl (fun _ => 0))), (q47_5, .inr (7, [.ref (a51_6 0), .int 0, .int 0, .int 97])), ((a51_6 0), .inl (gt g 4, 3, .inr (.inr (.inr (.inr (va_up (va_up (va_up (fun _ => none) 0 (some (a51_6 1))) 1 (some (a51_6 3))) 2 (some (a51_6 5)))))))), ((a51_6 1), .inr (8, [.ref (a51_6 2), .int 0])), ((a51_6 2), .inl (gt g 1, 8, .inl (fun _ => 0))), ((a51_6 3), .inr (8, [.ref (a51_6 4), .int 0])), ((a51_6 4), .inl (gt g 1, 8, .inl (fun _ => 0))), ((a51_6 5), .inr (8, [.ref (a51_6 6), .int 0])), ((a51_6 6), .inl (gt g 1, 8, .inl (fun _ => 0))), (q47_7, .inr (7, [.ref (a51_8 0), .int 0, .int 0, .int 97])), ((a51_8 0), .inl (gt g 4, 3, .inr (.inr (.inr (.inr (va_up (va_up (va_up (fun _ => none) 0 (some (a51_8 1))) 1 (some (a51_8 3))) 2 (some (a51_8 5)))))))), ((a51_8 1), .inr (8, [.ref (a51_8 2), .int 0])), ((a51_8 2), .inl (gt g 1, 8, .inl (fun _ => 0))), ((a51_8 3), .inr (8, [.ref (a51_8 4), .int 0])), ((a51_8 4), .inl (gt g 1, 8, .inl (fun _ => 0))), ((a51_8 5), .inr (8, [.ref (a51_8 6), .int 0])), ((a51_8 6), .inl (gt g 1, 8, .inl (fun _ => 0)))]) (w1 := w_Parameter_init g q47_9 a51_10) hP hD [28] [0, 1, 2, 3, 4, 5, 6, 7, 8, 9, 10, 11, 12, 13, 14, 15, 16, 17, 18, 19, 20, 21, 22, 23, 24, 25, 26, 27] rfl rfl (by decide) (by decide) hk1 hFc hP1 hD1
  generalize H1 = H at hP hS ⊢
  have hP : va_P (gD g) classes [(h0, .inr (1, [.ref q5_1, .ref q18, .int 0, .int 0])), (q5_1, .inr (2, [.ref (a9_2 0), .int 0])), ((a9_2 0), .inl (gt g 1, 40, .inl (fun _ => 0))), (q18, .inl (gt g 3, 6, .inr (.inr (.inr (.inr (va_up (va_up (va_up (fun _ => none) 0 (some q47_3)) 1 (some q47_5)) 2 (some q47_7))))))), (q47_3, .inr (7, [.ref (a51_4 0), .int 0, .int 0, .int 97])), ((a51_4 0), .inl (gt g 4, 3, .inr (.inr (.inr (.inr (va_up (va_up (va_up (fun _ => none) 0 (some (a51_4 1))) 1 (some (a51_4 3))) 2 (some (a51_4 5)))))))), ((a51_4 1), .inr (8, [.ref (a51_4 2), .int 0])), ((a51_4 2), .inl (gt g 1, 8, .inl (fun _ => 0))), ((a51_4 3), .inr (8, [.ref (a51_4 4), .int 0])), ((a51_4 4), .inl (gt g 1, 8, .inl (fun _ => 0))), ((a51_4 5), .inr (8, [.ref (a51_4 6), .int 0])), ((a51_4 6), .inl (gt g 1, 8, .inl (fun _ => 0))), (q47_5, .inr (7, [.ref (a51_6 0), .int 0, .int 0, .int 97])), ((a51_6 0), .inl (gt g 4, 3, .inr (.inr (.inr (.inr (va_up (va_up (va_up (fun _ => none) 0 (some (a51_6 1))) 1 (some (a51_6 3))) 2 (some (a51_6 5)))))))), ((a51_6 1), .inr (8, [.ref (a51_6 2), .int 0])), ((a51_6 2), .inl (gt g 1, 8, .inl (fun _ => 0))), ((a51_6 3), .inr (8, [.ref (a51_6 4), .int 0])), ((a51_6 4), .inl (gt g 1, 8, .inl (fun _ => 0))), ((a51_6 5), .inr (8, [.ref (a51_6 6), .int 0])), ((a51_6 6), .inl (gt g 1, 8, .inl (fun _ => 0))), (q47_7, .inr (7, [.ref (a51_8 0), .int 0, .int 0, .int 97])), ((a51_8 0), .inl (gt g 4, 3, .inr (.inr (.inr (.inr (va_up (va_up (va_up (fun _ => none) 0 (some (a51_8 1))) 1 (some (a51_8 3))) 2 (some (a51_8 5)))))))), ((a51_8 1), .inr (8, [.ref (a51_8 2), .int 0])), ((a51_8 2), .inl (gt g 1, 8, .inl (fun _ => 0))), ((a51_8 3), .inr (8, [.ref (a51_8 4), .int 0])), ((a51_8 4), .inl (gt g 1, 8, .inl (fun _ => 0))), ((a51_8 5), .inr (8, [.ref (a51_8 6), .int 0])), ((a51_8 6), .inl (gt g 1, 8, .inl (fun _ => 0))), (q47_9, .inr (7, [.ref (a51_10 0), .int 0, .int 0, .int 97])), ((a51_10 0), .inl (gt g 4, 3, .inr (.inr (.inr (.inr (va_up (va_up (va_up (fun _ => none) 0 (some (a51_10 1))) 1 (some (a51_10 3))) 2 (some (a51_10 5)))))))), ((a51_10 1), .inr (8, [.ref (a51_10 2), .int 0])), ((a51_10 2), .inl (gt g 1, 8, .inl (fun _ => 0))), ((a51_10 3), .inr (8, [.ref (a51_10 4), .int 0])), ((a51_10 4), .inl (gt g 1, 8, .inl (fun _ => 0))), ((a51_10 5), .inr (8, [.ref (a51_10 6), .int 0])), ((a51_10 6), .inl (gt g 1, 8, .inl (fun _ => 0)))] H := hP
  have hD : va_D A [(h0, .inr (1, [.ref q5_1, .ref q18, .int 0, .int 0])), (q5_1, .inr (2, [.ref (a9_2 0), .int 0])), ((a9_2 0), .inl (gt g 1, 40, .inl (fun _ => 0))), (q18, .inl (gt g 3, 6, .inr (.inr (.inr (.inr (va_up (va_up (va_up (fun _ => none) 0 (some q47_3)) 1 (some q47_5)) 2 (some q47_7))))))), (q47_3, .inr (7, [.ref (a51_4 0), .int 0, .int 0, .int 97])), ((a51_4 0), .inl (gt g 4, 3, .inr (.inr (.inr (.inr (va_up (va_up (va_up (fun _ => none) 0 (some (a51_4 1))) 1 (some (a51_4 3))) 2 (some (a51_4 5)))))))), ((a51_4 1), .inr (8, [.ref (a51_4 2), .int 0])), ((a51_4 2), .inl (gt g 1, 8, .inl (fun _ => 0))), ((a51_4 3), .inr (8, [.ref (a51_4 4), .int 0])), ((a51_4 4), .inl (gt g 1, 8, .inl (fun _ => 0))), ((a51_4 5), .inr (8, [.ref (a51_4 6), .int 0])), ((a51_4 6), .inl (gt g 1, 8, .inl (fun _ => 0))), (q47_5, .inr (7, [.ref (a51_6 0), .int 0, .int 0, .int 97])), ((a51_6 0), .inl (gt g 4, 3, .inr (.inr (.inr (.inr (va_up (va_up (va_up (fun _ => none) 0 (some (a51_6 1))) 1 (some (a51_6 3))) 2 (some (a51_6 5)))))))), ((a51_6 1), .inr (8, [.ref (a51_6 2), .int 0])), ((a51_6 2), .inl (gt g 1, 8, .inl (fun _ => 0))), ((a51_6 3), .inr (8, [.ref (a51_6 4), .int 0])), ((a51_6 4), .inl (gt g 1, 8, .inl (fun _ => 0))), ((a51_6 5), .inr (8, [.ref (a51_6 6), .int 0])), ((a51_6 6), .inl (gt g 1, 8, .inl (fun _ => 0))), (q47_7, .inr (7, [.ref (a51_8 0), .int 0, .int 0, .int 97])), ((a51_8 0), .inl (gt g 4, 3, .inr (.inr (.inr (.inr (va_up (va_up (va_up (fun _ => none) 0 (some (a51_8 1))) 1 (some (a51_8 3))) 2 (some (a51_8 5)))))))), ((a51_8 1), .inr (8, [.ref (a51_8 2), .int 0])), ((a51_8 2), .inl (gt g 1, 8, .inl (fun _ => 0))), ((a51_8 3), .inr (8, [.ref (a51_8 4), .int 0])), ((a51_8 4), .inl (gt g 1, 8, .inl (fun _ => 0))), ((a51_8 5), .inr (8, [.ref (a51_8 6), .int 0])), ((a51_8 6), .inl (gt g 1, 8, .inl (fun _ => 0))), (q47_9, .inr (7, [.ref (a51_10 0), .int 0, .int 0, .int 97])), ((a51_10 0), .inl (gt g 4, 3, .inr (.inr (.inr (.inr (va_up (va_up (va_up (fun _ => none) 0 (some (a51_10 1))) 1 (some (a51_10 3))) 2 (some (a51_10 5)))))))), ((a51_10 1), .inr (8, [.ref (a51_10 2), .int 0])), ((a51_10 2), .inl (gt g 1, 8, .inl (fun _ => 0))), ((a51_10 3), .inr (8, [.ref (a51_10 4), .int 0])), ((a51_10 4), .inl (gt g 1, 8, .inl (fun _ => 0))), ((a51_10 5), .inr (8, [.ref (a51_10 6), .int 0])), ((a51_10 6), .inl (gt g 1, 8, .inl (fun _ => 0)))] := hD
  refine W.widen (k := 35) (n := 196) (Nat.le_of_ble_eq_true rfl) (Nat.le_of_ble_eq_true rfl) ?_
  refine va_astq hx hb hK hP hD hS 3 3 28 7 rfl rfl rfl kc_Parameter.1 (by unfold vp_in; decide) d_Declaration_init_54 (fun H locs hP hD hS => ?_)
  have hP : va_P (gD g) classes [(h0, .inr (1, [.ref q5_1, .ref q18, .int 0, .int 0])), (q5_1, .inr (2, [.ref (a9_2 0), .int 0])), ((a9_2 0), .inl (gt g 1, 40, .inl (fun _ => 0))), (q18, .inl (gt g 3, 6, .inr (.inr (.inr (.inr (va_up (va_up (va_up (va_up (fun _ => none) 0 (some q47_3)) 1 (some q47_5)) 2 (some q47_7)) 3 (some q47_9))))))), (q47_3, .inr (7, [.ref (a51_4 0), .int 0, .int 0, .int 97])), ((a51_4 0), .inl (gt g 4, 3, .inr (.inr (.inr (.inr (va_up (va_up (va_up (fun _ => none) 0 (some (a51_4 1))) 1 (some (a51_4 3))) 2 (some (a51_4 5)))))))), ((a51_4 1), .inr (8, [.ref (a51_4 2), .int 0])), ((a51_4 2), .inl (gt g 1, 8, .inl (fun _ => 0))), ((a51_4 3), .inr (8, [.ref (a51_4 4), .int 0])), ((a51_4 4), .inl (gt g 1, 8, .inl (fun _ => 0))), ((a51_4 5), .inr (8, [.ref (a51_4 6), .int 0])), ((a51_4 6), .inl (gt g 1, 8, .inl (fun _ => 0))), (q47_5, .inr (7, [.ref (a51_6 0), .int 0, .int 0, .int 97])), ((a51_6 0), .inl (gt g 4, 3, .inr (.inr (.inr (.inr (va_up (va_up (va_up (fun _ => none) 0 (some (a51_6 1))) 1 (some (a51_6 3))) 2 (some (a51_6 5)))))))), ((a51_6 1), .inr (8, [.ref (a51_6 2), .int 0])), ((a51_6 2), .inl (gt g 1, 8, .inl (fun _ => 0))), ((a51_6 3), .inr (8, [.ref (a51_6 4), .int 0])), ((a51_6 4), .inl (gt g 1, 8, .inl (fun _ => 0))), ((a51_6 5), .inr (8, [.ref (a51_6 6), .int 0])), ((a51_6 6), .inl (gt g 1, 8, .inl (fun _ => 0))), (q47_7, .inr (7, [.ref (a51_8 0), .int 0, .int 0, .int 97])), ((a51_8 0), .inl (gt g 4, 3, .inr (.inr (.inr (.inr (va_up (va_up (va_up (fun _ => none) 0 (some (a51_8 1))) 1 (some (a51_8 3))) 2 (some (a51_8 5)))))))), ((a51_8 1), .inr (8, [.ref (a51_8 2), .int 0])), ((a51_8 2), .inl (gt g 1, 8, .inl (fun _ => 0))), ((a51_8 3), .inr (8, [.ref (a51_8 4), .int 0])), ((a51_8 4), .inl (gt g 1, 8, .inl (fun _ => 0))), ((a51_8 5), .inr (8, [.ref (a51_8 6), .int 0])), ((a51_8 6), .inl (gt g 1, 8, .inl (fun _ => 0))), (q47_9, .inr (7, [.ref (a51_10 0), .int 0, .int 0, .int 97])), ((a51_10 0), .inl (gt g 4, 3, .inr (.inr (.inr (.inr (va_up (va_up (va_up (fun _ => none) 0 (some (a51_10 1))) 1 (some (a51_10 3))) 2 (some (a51_10 5)))))))), ((a51_10 1), .inr (8, [.ref (a51_10 2), .int 0])), ((a51_10 2), .inl (gt g 1, 8, .inl (fun _ => 0))), ((a51_10 3), .inr (8, [.ref (a51_10 4), .int 0])), ((a51_10 4), .inl (gt g 1, 8, .inl (fun _ => 0))), ((a51_10 5), .inr (8, [.ref (a51_10 6), .int 0])), ((a51_10 6), .inl (gt g 1, 8, .inl (fun _ => 0)))] H := hP
  have hD : va_D A [(h0, .inr (1, [.ref q5_1, .ref q18, .int 0, .int 0])), (q5_1, .inr (2, [.ref (a9_2 0), .int 0])), ((a9_2 0), .inl (gt g 1, 40, .inl (fun _ => 0))), (q18, .inl (gt g 3, 6, .inr (.inr (.inr (.inr (va_up (va_up (va_up (va_up (fun _ => none) 0 (some q47_3)) 1 (some q47_5)) 2 (some q47_7)) 3 (some q47_9))))))), (q47_3, .inr (7, [.ref (a51_4 0), .int 0, .int 0, .int 97])), ((a51_4 0), .inl (gt g 4, 3, .inr (.inr (.inr (.inr (va_up (va_up (va_up (fun _ => none) 0 (some (a51_4 1))) 1 (some (a51_4 3))) 2 (some (a51_4 5)))))))), ((a51_4 1), .inr (8, [.ref (a51_4 2), .int 0])), ((a51_4 2), .inl (gt g 1, 8, .inl (fun _ => 0))), ((a51_4 3), .inr (8, [.ref (a51_4 4), .int 0])), ((a51_4 4), .inl (gt g 1, 8, .inl (fun _ => 0))), ((a51_4 5), .inr (8, [.ref (a51_4 6), .int 0])), ((a51_4 6), .inl (gt g 1, 8, .inl (fun _ => 0))), (q47_5, .inr (7, [.ref (a51_6 0), .int 0, .int 0, .int 97])), ((a51_6 0), .inl (gt g 4, 3, .inr (.inr (.inr (.inr (va_up (va_up (va_up (fun _ => none) 0 (some (a51_6 1))) 1 (some (a51_6 3))) 2 (some (a51_6 5)))))))), ((a51_6 1), .inr (8, [.ref (a51_6 2), .int 0])), ((a51_6 2), .inl (gt g 1, 8, .inl (fun _ => 0))), ((a51_6 3), .inr (8, [.ref (a51_6 4), .int 0])), ((a51_6 4), .inl (gt g 1, 8, .inl (fun _ => 0))), ((a51_6 5), .inr (8, [.ref (a51_6 6), .int 0])), ((a51_6 6), .inl (gt g 1, 8, .inl (fun _ => 0))), (q47_7, .inr (7, [.ref (a51_8 0), .int 0, .int 0, .int 97])), ((a51_8 0), .inl (gt g 4, 3, .inr (.inr (.inr (.inr (va_up (va_up (va_up (fun _ => none) 0 (some (a51_8 1))) 1 (some (a51_8 3))) 2 (some (a51_8 5)))))))), ((a51_8 1), .inr (8, [.ref (a51_8 2), .int 0])), ((a51_8 2), .inl (gt g 1, 8, .inl (fun _ => 0))), ((a51_8 3), .inr (8, [.ref (a51_8 4), .int 0])), ((a51_8 4), .inl (gt g 1, 8, .inl (fun _ => 0))), ((a51_8 5), .inr (8, [.ref (a51_8 6), .int 0])), ((a51_8 6), .inl (gt g 1, 8, .inl (fun _ => 0))), (q47_9, .inr (7, [.ref (a51_10 0), .int 0, .int 0, .int 97])), ((a51_10 0), .inl (gt g 4, 3, .inr (.inr (.inr (.inr (va_up (va_up (va_up (fun _ => none) 0 (some (a51_10 1))) 1 (some (a51_10 3))) 2 (some (a51_10 5)))))))), ((a51_10 1), .inr (8, [.ref (a51_10 2), .int 0])), ((a51_10 2), .inl (gt g 1, 8, .inl (fun _ => 0))), ((a51_10 3), .inr (8, [.ref (a51_10 4), .int 0])), ((a51_10 4), .inl (gt g 1, 8, .inl (fun _ => 0))), ((a51_10 5), .inr (8, [.ref (a51_10 6), .int 0])), ((a51_10 6), .inl (gt g 1, 8, .inl (fun _ => 0)))] := hD
  refine lv_iinc (k := 0) (v := 4) (lv' := [(1, .int 4), (0, .ref h0)]) hx hb d_Declaration_init_55 hl rfl (by decide) (by decide) rfl (fun ls hl => ?_)
  refine lv_goto hx hb d_Declaration_init_58 rfl ?_
  refine lv_iload_n hx hb d_Declaration_init_36 rfl (lv_at hl 0 rfl) ?_
  refine lv_bipush (v := 6) hx hb d_Declaration_init_37 (by decide) ?_
  refine lv_icmp_ge hx hb d_Declaration_init_39 rfl (fun z => absurd z (by decide)) (fun _ => ?_)
  refine lv_aload_n hx hb d_Declaration_init_42 rfl (lv_at hl 1 rfl) ?_
  refine va_get (v := .ref q18) hx hb hts kc_Declaration.2.1 hown hK hP 0 rfl kc_Declaration.1 1 (by decide) (hts _ wf_Declaration_20) (fun _ h9 => h9) rfl d_Declaration_init_43 ?_
  refine lv_iload_n hx hb d_Declaration_init_46 rfl (lv_at hl 0 rfl) ?_
  refine va_new (ci := 7) (fs := [.null, .int 0, .int 0, .int 0]) (C := R_Parameter) (T := F_Parameter) (N := 4) hx hb hts kc_Parameter.2.1 t_Parameter kc_Parameter.2.2.1 hown (hts _ wl_c_Declaration_18) (hts _ win_Parameter) (hts _ wz_Parameter) hK hP hD hS hA kc_Parameter.1 (fun j hj => by rcases (show j = 0 ∨ j = 1 ∨ j = 2 ∨ j = 3 by omega) with rfl | rfl | rfl | rfl <;> rfl) (Nat.le_of_ble_eq_true rfl) (Nat.le_of_ble_eq_true rfl) d_Declaration_init_47 (fun q47_11 H hP hD hS => ?_)
  have hP : va_P (gD g) classes [(h0, .inr (1, [.ref q5_1, .ref q18, .int 0, .int 0])), (q5_1, .inr (2, [.ref (a9_2 0), .int 0])), ((a9_2 0), .inl (gt g 1, 40, .inl (fun _ => 0))), (q18, .inl (gt g 3, 6, .inr (.inr (.inr (.inr (va_up (va_up (va_up (va_up (fun _ => none) 0 (some q47_3)) 1 (some q47_5)) 2 (some q47_7)) 3 (some q47_9))))))), (q47_3, .inr (7, [.ref (a51_4 0), .int 0, .int 0, .int 97])), ((a51_4 0), .inl (gt g 4, 3, .inr (.inr (.inr (.inr (va_up (va_up (va_up (fun _ => none) 0 (some (a51_4 1))) 1 (some (a51_4 3))) 2 (some (a51_4 5)))))))), ((a51_4 1), .inr (8, [.ref (a51_4 2), .int 0])), ((a51_4 2), .inl (gt g 1, 8, .inl (fun _ => 0))), ((a51_4 3), .inr (8, [.ref (a51_4 4), .int 0])), ((a51_4 4), .inl (gt g 1, 8, .inl (fun _ => 0))), ((a51_4 5), .inr (8, [.ref (a51_4 6), .int 0])), ((a51_4 6), .inl (gt g 1, 8, .inl (fun _ => 0))), (q47_5, .inr (7, [.ref (a51_6 0), .int 0, .int 0, .int 97])), ((a51_6 0), .inl (gt g 4, 3, .inr (.inr (.inr (.inr (va_up (va_up (va_up (fun _ => none) 0 (some (a51_6 1))) 1 (some (a51_6 3))) 2 (some (a51_6 5)))))))), ((a51_6 1), .inr (8, [.ref (a51_6 2), .int 0])), ((a51_6 2), .inl (gt g 1, 8, .inl (fun _ => 0))), ((a51_6 3), .inr (8, [.ref (a51_6 4), .int 0])), ((a51_6 4), .inl (gt g 1, 8, .inl (fun _ => 0))), ((a51_6 5), .inr (8, [.ref (a51_6 6), .int 0])), ((a51_6 6), .inl (gt g 1, 8, .inl (fun _ => 0))), (q47_7, .inr (7, [.ref (a51_8 0), .int 0, .int 0, .int 97])), ((a51_8 0), .inl (gt g 4, 3, .inr (.inr (.inr (.inr (va_up (va_up (va_up (fun _ => none) 0 (some (a51_8 1))) 1 (some (a51_8 3))) 2 (some (a51_8 5)))))))), ((a51_8 1), .inr (8, [.ref (a51_8 2), .int 0])), ((a51_8 2), .inl (gt g 1, 8, .inl (fun _ => 0))), ((a51_8 3), .inr (8, [.ref (a51_8 4), .int 0])), ((a51_8 4), .inl (gt g 1, 8, .inl (fun _ => 0))), ((a51_8 5), .inr (8, [.ref (a51_8 6), .int 0])), ((a51_8 6), .inl (gt g 1, 8, .inl (fun _ => 0))), (q47_9, .inr (7, [.ref (a51_10 0), .int 0, .int 0, .int 97])), ((a51_10 0), .inl (gt g 4, 3, .inr (.inr (.inr (.inr (va_up (va_up (va_up (fun _ => none) 0 (some (a51_10 1))) 1 (some (a51_10 3))) 2 (some (a51_10 5)))))))), ((a51_10 1), .inr (8, [.ref (a51_10 2), .int 0])), ((a51_10 2), .inl (gt g 1, 8, .inl (fun _ => 0))), ((a51_10 3), .inr (8, [.ref (a51_10 4), .int 0])), ((a51_10 4), .inl (gt g 1, 8, .inl (fun _ => 0))), ((a51_10 5), .inr (8, [.ref (a51_10 6), .int 0])), ((a51_10 6), .inl (gt g 1, 8, .inl (fun _ => 0))), (q47_11, .inr (7, [.null, .int 0, .int 0, .int 0]))] H := hP
  have hD : va_D A [(h0, .inr (1, [.ref q5_1, .ref q18, .int 0, .int 0])), (q5_1, .inr (2, [.ref (a9_2 0), .int 0])), ((a9_2 0), .inl (gt g 1, 40, .inl (fun _ => 0))), (q18, .inl (gt g 3, 6, .inr (.inr (.inr (.inr (va_up (va_up (va_up (va_up (fun _ => none) 0 (some q47_3)) 1 (some q47_5)) 2 (some q47_7)) 3 (some q47_9))))))), (q47_3, .inr (7, [.ref (a51_4 0), .int 0, .int 0, .int 97])), ((a51_4 0), .inl (gt g 4, 3, .inr (.inr (.inr (.inr (va_up (va_up (va_up (fun _ => none) 0 (some (a51_4 1))) 1 (some (a51_4 3))) 2 (some (a51_4 5)))))))), ((a51_4 1), .inr (8, [.ref (a51_4 2), .int 0])), ((a51_4 2), .inl (gt g 1, 8, .inl (fun _ => 0))), ((a51_4 3), .inr (8, [.ref (a51_4 4), .int 0])), ((a51_4 4), .inl (gt g 1, 8, .inl (fun _ => 0))), ((a51_4 5), .inr (8, [.ref (a51_4 6), .int 0])), ((a51_4 6), .inl (gt g 1, 8, .inl (fun _ => 0))), (q47_5, .inr (7, [.ref (a51_6 0), .int 0, .int 0, .int 97])), ((a51_6 0), .inl (gt g 4, 3, .inr (.inr (.inr (.inr (va_up (va_up (va_up (fun _ => none) 0 (some (a51_6 1))) 1 (some (a51_6 3))) 2 (some (a51_6 5)))))))), ((a51_6 1), .inr (8, [.ref (a51_6 2), .int 0])), ((a51_6 2), .inl (gt g 1, 8, .inl (fun _ => 0))), ((a51_6 3), .inr (8, [.ref (a51_6 4), .int 0])), ((a51_6 4), .inl (gt g 1, 8, .inl (fun _ => 0))), ((a51_6 5), .inr (8, [.ref (a51_6 6), .int 0])), ((a51_6 6), .inl (gt g 1, 8, .inl (fun _ => 0))), (q47_7, .inr (7, [.ref (a51_8 0), .int 0, .int 0, .int 97])), ((a51_8 0), .inl (gt g 4, 3, .inr (.inr (.inr (.inr (va_up (va_up (va_up (fun _ => none) 0 (some (a51_8 1))) 1 (some (a51_8 3))) 2 (some (a51_8 5)))))))), ((a51_8 1), .inr (8, [.ref (a51_8 2), .int 0])), ((a51_8 2), .inl (gt g 1, 8, .inl (fun _ => 0))), ((a51_8 3), .inr (8, [.ref (a51_8 4), .int 0])), ((a51_8 4), .inl (gt g 1, 8, .inl (fun _ => 0))), ((a51_8 5), .inr (8, [.ref (a51_8 6), .int 0])), ((a51_8 6), .inl (gt g 1, 8, .inl (fun _ => 0))), (q47_9, .inr (7, [.ref (a51_10 0), .int 0, .int 0, .int 97])), ((a51_10 0), .inl (gt g 4, 3, .inr (.inr (.inr (.inr (va_up (va_up (va_up (fun _ => none) 0 (some (a51_10 1))) 1 (some (a51_10 3))) 2 (some (a51_10 5)))))))), ((a51_10 1), .inr (8, [.ref (a51_10 2), .int 0])), ((a51_10 2), .inl (gt g 1, 8, .inl (fun _ => 0))), ((a51_10 3), .inr (8, [.ref (a51_10 4), .int 0])), ((a51_10 4), .inl (gt g 1, 8, .inl (fun _ => 0))), ((a51_10 5), .inr (8, [.ref (a51_10 6), .int 0])), ((a51_10 6), .inl (gt g 1, 8, .inl (fun _ => 0))), (q47_11, .inr (7, [.null, .int 0, .int 0, .int 0]))] := hD
  refine W.widen (k := 36) (n := 200) (Nat.le_of_ble_eq_true rfl) (Nat.le_of_ble_eq_true rfl) ?_
  refine lv_dup hx hb d_Declaration_init_50 rfl ?_
  have hPc := hP.sub (ws' := [(q47_11, .inr (7, [.null, .int 0, .int 0, .int 0]))]) [36] rfl
  have hDc := hD.sub (ws' := [(q47_11, .inr (7, [.null, .int 0, .int 0, .int 0]))]) [36] (by decide) rfl
  have hFc := va_free (wc := [(q47_11, .inr (7, [.null, .int 0, .int 0, .int 0]))]) hD hS hA [36] rfl
  refine va_callv (va_runI (As := []) (rest := [.ref q47_11, .int 4, .ref q18]) ⟨hx, hb, hml, hown, hts⟩ (n_Parameter_init l g q47_11 _) (cwI 0 hts (ws_good wc_Parameter_init) rfl rfl rfl (hts _ wz_Parameter) (hts _ wm_Declaration_31) (hts _ wi_Parameter_init) rfl wd_Parameter_init ⟨(Nat.le_of_ble_eq_true rfl), (Nat.le_of_ble_eq_true rfl)⟩) ⟨Pn_blind, fun U hU hW => ⟨rfl, by rw [hU], by rw [hU]; exact hPc, hSt.warm hW, hDc.weaken (fun _ _ _ _ => trivial)⟩⟩ rfl rfl hl.1 rfl (lv_room (Nat.le_of_ble_eq_true rfl)) d_Declaration_init_51 ⟨(Nat.le_of_ble_eq_true rfl), (Nat.le_of_ble_eq_true rfl)⟩) hS (fun q _ h => hFc q h) hFc (fun a51_12 t H1 locs ht hvm hw hB hz1 hk1 hS => ?_)
  obtain ⟨hP1, hD1⟩ := hB
  rw [ht] at hP1
  obtain ⟨hP, hD⟩ := va_join (wr := [(h0, .inr (1, [.ref q5_1, .ref q18, .int 0, .int 0])), (q5_1, .inr (2, [.ref (a9_2 0), .int 0])), ((a9_2 0), .inl (gt g 1, 40, .inl (fun _ => 0))), (q18, .inl (gt g 3, 6, .inr (.inr (.inr (.inr (va_up (va_up (va_up (va_up (fun _ => none) 0 (some q47_3)) 1 (some q47_5)) 2 (some q47_7)) 3 (some q47_9))))))), (q47_3, .inr (7, [.ref (a51_4 0), .int 0, .int 0, .int 97])), ((a51_4 0), .inl (gt g 4, 3, .inr (.inr (.inr (.inr (va_up (va_up (va_up (fun _ => none) 0 (some (a51_4 1))) 1 (some (a51_4 3))) 2 (some (a51_4 5)))))))), ((a51_4 1), .inr (8, [.ref (a51_4 2), .int 0])), ((a51_4 2), .inl (gt g 1, 8, .inl (fun _ => 0))), ((a51_4 3), .inr (8, [.ref (a51_4 4), .int 0])), ((a51_4 4), .inl (gt g 1, 8, .inl (fun _ => 0))), ((a51_4 5), .inr (8, [.ref (a51_4 6), .int 0])), ((a51_4 6), .inl (gt g 1, 8, .inl (fun _ => 0))), (q47_5, .inr (7, [.ref (a51_6 0), .int 0, .int 0, .int 97])), ((a51_6 0), .inl (gt g 4, 3, .inr (.inr (.inr (.inr (va_up (va_up (va_up (fun _ => none) 0 (some (a51_6 1))) 1 (some (a51_6 3))) 2 (some (a51_6 5)))))))), ((a51_6 1), .inr (8, [.ref (a51_6 2), .int 0])), ((a51_6 2), .inl (gt g 1, 8, .inl (fun _ => 0))), ((a51_6 3), .inr (8, [.ref (a51_6 4), .int 0])), ((a51_6 4), .inl (gt g 1, 8, .inl (fun _ => 0))), ((a51_6 5), .inr (8, [.ref (a51_6 6), .int 0])), ((a51_6 6), .inl (gt g 1, 8, .inl (fun _ => 0))), (q47_7, .inr (7, [.ref (a51_8 0), .int 0, .int 0, .int 97])), ((a51_8 0), .inl (gt g 4, 3, .inr (.inr (.inr (.inr (va_up (va_up (va_up (fun _ => none) 0 (some (a51_8 1))) 1 (some (a51_8 3))) 2 (some (a51_8 5)))))))), ((a51_8 1), .inr (8, [.ref (a51_8 2), .int 0])), ((a51_8 2), .inl (gt g 1, 8, .inl (fun _ => 0))), ((a51_8 3), .inr (8, [.ref (a51_8 4), .int 0])), ((a51_8 4), .inl (gt g 1, 8, .inl (fun _ => 0))), ((a51_8 5), .inr (8, [.ref (a51_8 6), .int 0])), ((a51_8 6), .inl (gt g 1, 8, .inl (fun _ => 0))), (q47_9, .inr (7, [.ref (a51_10 0), .int 0, .int 0, .int 97])), ((a51_10 0), .inl (gt g 4, 3, .inr (.inr (.inr (.inr (va_up (va_up (va_up (fun _ => none) 0 (some (a51_10 1))) 1 (some (a51_10 3))) 2 (some (a51_10 5)))))))), ((a51_10 1), .inr (8, [.ref (a51_10 2), .int 0])), ((a51_10 2), .inl (gt g 1, 8, .inl (fun _ => 0))), ((a51_10 3), .inr (8, [.ref (a51_10 4), .int 0])), ((a51_10 4), .inl (gt g 1, 8, .inl (fun _ => 0))), ((a51_10 5), .inr (8, [.ref (a51_10 6), .int 0])), ((a51_10 6), .inl (gt g 1, 8, .inl (fun _ => 0)))]) (w1 := w_Parameter_init g q47_11 a51_12) hP hD [36] [0, 1, 2, 3, 4, 5, 6, 7, 8, 9, 10, 11, 12, 13, 14, 15, 16, 17, 18, 19, 20, 21, 22, 23, 24, 25, 26, 27, 28, 29, 30, 31, 32, 33, 34, 35] rfl rfl (by decide) (by decide) hk1 hFc hP1 hD1
  generalize H1 = H at hP hS ⊢
  have hP : va_P (gD g) classes [(h0, .inr (1, [.ref q5_1, .ref q18, .int 0, .int 0])), (q5_1, .inr (2, [.ref (a9_2 0), .int 0])), ((a9_2 0), .inl (gt g 1, 40, .inl (fun _ => 0))), (q18, .inl (gt g 3, 6, .inr (.inr (.inr (.inr (va_up (va_up (va_up (va_up (fun _ => none) 0 (some q47_3)) 1 (some q47_5)) 2 (some q47_7)) 3 (some q47_9))))))), (q47_3, .inr (7, [.ref (a51_4 0), .int 0, .int 0, .int 97])), ((a51_4 0), .inl (gt g 4, 3, .inr (.inr (.inr (.inr (va_up (va_up (va_up (fun _ => none) 0 (some (a51_4 1))) 1 (some (a51_4 3))) 2 (some (a51_4 5)))))))), ((a51_4 1), .inr (8, [.ref (a51_4 2), .int 0])), ((a51_4 2), .inl (gt g 1, 8, .inl (fun _ => 0))), ((a51_4 3), .inr (8, [.ref (a51_4 4), .int 0])), ((a51_4 4), .inl (gt g 1, 8, .inl (fun _ => 0))), ((a51_4 5), .inr (8, [.ref (a51_4 6), .int 0])), ((a51_4 6), .inl (gt g 1, 8, .inl (fun _ => 0))), (q47_5, .inr (7, [.ref (a51_6 0), .int 0, .int 0, .int 97])), ((a51_6 0), .inl (gt g 4, 3, .inr (.inr (.inr (.inr (va_up (va_up (va_up (fun _ => none) 0 (some (a51_6 1))) 1 (some (a51_6 3))) 2 (some (a51_6 5)))))))), ((a51_6 1), .inr (8, [.ref (a51_6 2), .int 0])), ((a51_6 2), .inl (gt g 1, 8, .inl (fun _ => 0))), ((a51_6 3), .inr (8, [.ref (a51_6 4), .int 0])), ((a51_6 4), .inl (gt g 1, 8, .inl (fun _ => 0))), ((a51_6 5), .inr (8, [.ref (a51_6 6), .int 0])), ((a51_6 6), .inl (gt g 1, 8, .inl (fun _ => 0))), (q47_7, .inr (7, [.ref (a51_8 0), .int 0, .int 0, .int 97])), ((a51_8 0), .inl (gt g 4, 3, .inr (.inr (.inr (.inr (va_up (va_up (va_up (fun _ => none) 0 (some (a51_8 1))) 1 (some (a51_8 3))) 2 (some (a51_8 5)))))))), ((a51_8 1), .inr (8, [.ref (a51_8 2), .int 0])), ((a51_8 2), .inl (gt g 1, 8, .inl (fun _ => 0))), ((a51_8 3), .inr (8, [.ref (a51_8 4), .int 0])), ((a51_8 4), .inl (gt g 1, 8, .inl (fun _ => 0))), ((a51_8 5), .inr (8, [.ref (a51_8 6), .int 0])), ((a51_8 6), .inl (gt g 1, 8, .inl (fun _ => 0))), (q47_9, .inr (7, [.ref (a51_10 0), .int 0, .int 0, .int 97])), ((a51_10 0), .inl (gt g 4, 3, .inr (.inr (.inr (.inr (va_up (va_up (va_up (fun _ => none) 0 (some (a51_10 1))) 1 (some (a51_10 3))) 2 (some (a51_10 5)))))))), ((a51_10 1), .inr (8, [.ref (a51_10 2), .int 0])), ((a51_10 2), .inl (gt g 1, 8, .inl (fun _ => 0))), ((a51_10 3), .inr (8, [.ref (a51_10 4), .int 0])), ((a51_10 4), .inl (gt g 1, 8, .inl (fun _ => 0))), ((a51_10 5), .inr (8, [.ref (a51_10 6), .int 0])), ((a51_10 6), .inl (gt g 1, 8, .inl (fun _ => 0))), (q47_11, .inr (7, [.ref (a51_12 0), .int 0, .int 0, .int 97])), ((a51_12 0), .inl (gt g 4, 3, .inr (.inr (.inr (.inr (va_up (va_up (va_up (fun _ => none) 0 (some (a51_12 1))) 1 (some (a51_12 3))) 2 (some (a51_12 5)))))))), ((a51_12 1), .inr (8, [.ref (a51_12 2), .int 0])), ((a51_12 2), .inl (gt g 1, 8, .inl (fun _ => 0))), ((a51_12 3), .inr (8, [.ref (a51_12 4), .int 0])), ((a51_12 4), .inl (gt g 1, 8, .inl (fun _ => 0))), ((a51_12 5), .inr (8, [.ref (a51_12 6), .int 0])), ((a51_12 6), .inl (gt g 1, 8, .inl (fun _ => 0)))] H := hP
  have hD : va_D A [(h0, .inr (1, [.ref q5_1, .ref q18, .int 0, .int 0])), (q5_1, .inr (2, [.ref (a9_2 0), .int 0])), ((a9_2 0), .inl (gt g 1, 40, .inl (fun _ => 0))), (q18, .inl (gt g 3, 6, .inr (.inr (.inr (.inr (va_up (va_up (va_up (va_up (fun _ => none) 0 (some q47_3)) 1 (some q47_5)) 2 (some q47_7)) 3 (some q47_9))))))), (q47_3, .inr (7, [.ref (a51_4 0), .int 0, .int 0, .int 97])), ((a51_4 0), .inl (gt g 4, 3, .inr (.inr (.inr (.inr (va_up (va_up (va_up (fun _ => none) 0 (some (a51_4 1))) 1 (some (a51_4 3))) 2 (some (a51_4 5)))))))), ((a51_4 1), .inr (8, [.ref (a51_4 2), .int 0])), ((a51_4 2), .inl (gt g 1, 8, .inl (fun _ => 0))), ((a51_4 3), .inr (8, [.ref (a51_4 4), .int 0])), ((a51_4 4), .inl (gt g 1, 8, .inl (fun _ => 0))), ((a51_4 5), .inr (8, [.ref (a51_4 6), .int 0])), ((a51_4 6), .inl (gt g 1, 8, .inl (fun _ => 0))), (q47_5, .inr (7, [.ref (a51_6 0), .int 0, .int 0, .int 97])), ((a51_6 0), .inl (gt g 4, 3, .inr (.inr (.inr (.inr (va_up (va_up (va_up (fun _ => none) 0 (some (a51_6 1))) 1 (some (a51_6 3))) 2 (some (a51_6 5)))))))), ((a51_6 1), .inr (8, [.ref (a51_6 2), .int 0])), ((a51_6 2), .inl (gt g 1, 8, .inl (fun _ => 0))), ((a51_6 3), .inr (8, [.ref (a51_6 4), .int 0])), ((a51_6 4), .inl (gt g 1, 8, .inl (fun _ => 0))), ((a51_6 5), .inr (8, [.ref (a51_6 6), .int 0])), ((a51_6 6), .inl (gt g 1, 8, .inl (fun _ => 0))), (q47_7, .inr (7, [.ref (a51_8 0), .int 0, .int 0, .int 97])), ((a51_8 0), .inl (gt g 4, 3, .inr (.inr (.inr (.inr (va_up (va_up (va_up (fun _ => none) 0 (some (a51_8 1))) 1 (some (a51_8 3))) 2 (some (a51_8 5)))))))), ((a51_8 1), .inr (8, [.ref (a51_8 2), .int 0])), ((a51_8 2), .inl (gt g 1, 8, .inl (fun _ => 0))), ((a51_8 3), .inr (8, [.ref (a51_8 4), .int 0])), ((a51_8 4), .inl (gt g 1, 8, .inl (fun _ => 0))), ((a51_8 5), .inr (8, [.ref (a51_8 6), .int 0])), ((a51_8 6), .inl (gt g 1, 8, .inl (fun _ => 0))), (q47_9, .inr (7, [.ref (a51_10 0), .int 0, .int 0, .int 97])), ((a51_10 0), .inl (gt g 4, 3, .inr (.inr (.inr (.inr (va_up (va_up (va_up (fun _ => none) 0 (some (a51_10 1))) 1 (some (a51_10 3))) 2 (some (a51_10 5)))))))), ((a51_10 1), .inr (8, [.ref (a51_10 2), .int 0])), ((a51_10 2), .inl (gt g 1, 8, .inl (fun _ => 0))), ((a51_10 3), .inr (8, [.ref (a51_10 4), .int 0])), ((a51_10 4), .inl (gt g 1, 8, .inl (fun _ => 0))), ((a51_10 5), .inr (8, [.ref (a51_10 6), .int 0])), ((a51_10 6), .inl (gt g 1, 8, .inl (fun _ => 0))), (q47_11, .inr (7, [.ref (a51_12 0), .int 0, .int 0, .int 97])), ((a51_12 0), .inl (gt g 4, 3, .inr (.inr (.inr (.inr (va_up (va_up (va_up (fun _ => none) 0 (some (a51_12 1))) 1 (some (a51_12 3))) 2 (some (a51_12 5)))))))), ((a51_12 1), .inr (8, [.ref (a51_12 2), .int 0])), ((a51_12 2), .inl (gt g 1, 8, .inl (fun _ => 0))), ((a51_12 3), .inr (8, [.ref (a51_12 4), .int 0])), ((a51_12 4), .inl (gt g 1, 8, .inl (fun _ => 0))), ((a51_12 5), .inr (8, [.ref (a51_12 6), .int 0])), ((a51_12 6), .inl (gt g 1, 8, .inl (fun _ => 0)))] := hD
  refine W.widen (k := 43) (n := 233) (Nat.le_of_ble_eq_true rfl) (Nat.le_of_ble_eq_true rfl) ?_
  refine va_astq hx hb hK hP hD hS 3 3 36 7 rfl rfl rfl kc_Parameter.1 (by unfold vp_in; decide) d_Declaration_init_54 (fun H locs hP hD hS => ?_)
  have hP : va_P (gD g) classes [(h0, .inr (1, [.ref q5_1, .ref q18, .int 0, .int 0])), (q5_1, .inr (2, [.ref (a9_2 0), .int 0])), ((a9_2 0), .inl (gt g 1, 40, .inl (fun _ => 0))), (q18, .inl (gt g 3, 6, .inr (.inr (.inr (.inr (va_up (va_up (va_up (va_up (va_up (fun _ => none) 0 (some q47_3)) 1 (some q47_5)) 2 (some q47_7)) 3 (some q47_9)) 4 (some q47_11))))))), (q47_3, .inr (7, [.ref (a51_4 0), .int 0, .int 0, .int 97])), ((a51_4 0), .inl (gt g 4, 3, .inr (.inr (.inr (.inr (va_up (va_up (va_up (fun _ => none) 0 (some (a51_4 1))) 1 (some (a51_4 3))) 2 (some (a51_4 5)))))))), ((a51_4 1), .inr (8, [.ref (a51_4 2), .int 0])), ((a51_4 2), .inl (gt g 1, 8, .inl (fun _ => 0))), ((a51_4 3), .inr (8, [.ref (a51_4 4), .int 0])), ((a51_4 4), .inl (gt g 1, 8, .inl (fun _ => 0))), ((a51_4 5), .inr (8, [.ref (a51_4 6), .int 0])), ((a51_4 6), .inl (gt g 1, 8, .inl (fun _ => 0))), (q47_5, .inr (7, [.ref (a51_6 0), .int 0, .int 0, .int 97])), ((a51_6 0), .inl (gt g 4, 3, .inr (.inr (.inr (.inr (va_up (va_up (va_up (fun _ => none) 0 (some (a51_6 1))) 1 (some (a51_6 3))) 2 (some (a51_6 5)))))))), ((a51_6 1), .inr (8, [.ref (a51_6 2), .int 0])), ((a51_6 2), .inl (gt g 1, 8, .inl (fun _ => 0))), ((a51_6 3), .inr (8, [.ref (a51_6 4), .int 0])), ((a51_6 4), .inl (gt g 1, 8, .inl (fun _ => 0))), ((a51_6 5), .inr (8, [.ref (a51_6 6), .int 0])), ((a51_6 6), .inl (gt g 1, 8, .inl (fun _ => 0))), (q47_7, .inr (7, [.ref (a51_8 0), .int 0, .int 0, .int 97])), ((a51_8 0), .inl (gt g 4, 3, .inr (.inr (.inr (.inr (va_up (va_up (va_up (fun _ => none) 0 (some (a51_8 1))) 1 (some (a51_8 3))) 2 (some (a51_8 5)))))))), ((a51_8 1), .inr (8, [.ref (a51_8 2), .int 0])), ((a51_8 2), .inl (gt g 1, 8, .inl (fun _ => 0))), ((a51_8 3), .inr (8, [.ref (a51_8 4), .int 0])), ((a51_8 4), .inl (gt g 1, 8, .inl (fun _ => 0))), ((a51_8 5), .inr (8, [.ref (a51_8 6), .int 0])), ((a51_8 6), .inl (gt g 1, 8, .inl (fun _ => 0))), (q47_9, .inr (7, [.ref (a51_10 0), .int 0, .int 0, .int 97])), ((a51_10 0), .inl (gt g 4, 3, .inr (.inr (.inr (.inr (va_up (va_up (va_up (fun _ => none) 0 (some (a51_10 1))) 1 (some (a51_10 3))) 2 (some (a51_10 5)))))))), ((a51_10 1), .inr (8, [.ref (a51_10 2), .int 0])), ((a51_10 2), .inl (gt g 1, 8, .inl (fun _ => 0))), ((a51_10 3), .inr (8, [.ref (a51_10 4), .int 0])), ((a51_10 4), .inl (gt g 1, 8, .inl (fun _ => 0))), ((a51_10 5), .inr (8, [.ref (a51_10 6), .int 0])), ((a51_10 6), .inl (gt g 1, 8, .inl (fun _ => 0))), (q47_11, .inr (7, [.ref (a51_12 0), .int 0, .int 0, .int 97])), ((a51_12 0), .inl (gt g 4, 3, .inr (.inr (.inr (.inr (va_up (va_up (va_up (fun _ => none) 0 (some (a51_12 1))) 1 (some (a51_12 3))) 2 (some (a51_12 5)))))))), ((a51_12 1), .inr (8, [.ref (a51_12 2), .int 0])), ((a51_12 2), .inl (gt g 1, 8, .inl (fun _ => 0))), ((a51_12 3), .inr (8, [.ref (a51_12 4), .int 0])), ((a51_12 4), .inl (gt g 1, 8, .inl (fun _ => 0))), ((a51_12 5), .inr (8, [.ref (a51_12 6), .int 0])), ((a51_12 6), .inl (gt g 1, 8, .inl (fun _ => 0)))] H := hP
  have hD : va_D A [(h0, .inr (1, [.ref q5_1, .ref q18, .int 0, .int 0])), (q5_1, .inr (2, [.ref (a9_2 0), .int 0])), ((a9_2 0), .inl (gt g 1, 40, .inl (fun _ => 0))), (q18, .inl (gt g 3, 6, .inr (.inr (.inr (.inr (va_up (va_up (va_up (va_up (va_up (fun _ => none) 0 (some q47_3)) 1 (some q47_5)) 2 (some q47_7)) 3 (some q47_9)) 4 (some q47_11))))))), (q47_3, .inr (7, [.ref (a51_4 0), .int 0, .int 0, .int 97])), ((a51_4 0), .inl (gt g 4, 3, .inr (.inr (.inr (.inr (va_up (va_up (va_up (fun _ => none) 0 (some (a51_4 1))) 1 (some (a51_4 3))) 2 (some (a51_4 5)))))))), ((a51_4 1), .inr (8, [.ref (a51_4 2), .int 0])), ((a51_4 2), .inl (gt g 1, 8, .inl (fun _ => 0))), ((a51_4 3), .inr (8, [.ref (a51_4 4), .int 0])), ((a51_4 4), .inl (gt g 1, 8, .inl (fun _ => 0))), ((a51_4 5), .inr (8, [.ref (a51_4 6), .int 0])), ((a51_4 6), .inl (gt g 1, 8, .inl (fun _ => 0))), (q47_5, .inr (7, [.ref (a51_6 0), .int 0, .int 0, .int 97])), ((a51_6 0), .inl (gt g 4, 3, .inr (.inr (.inr (.inr (va_up (va_up (va_up (fun _ => none) 0 (some (a51_6 1))) 1 (some (a51_6 3))) 2 (some (a51_6 5)))))))), ((a51_6 1), .inr (8, [.ref (a51_6 2), .int 0])), ((a51_6 2), .inl (gt g 1, 8, .inl (fun _ => 0))), ((a51_6 3), .inr (8, [.ref (a51_6 4), .int 0])), ((a51_6 4), .inl (gt g 1, 8, .inl (fun _ => 0))), ((a51_6 5), .inr (8, [.ref (a51_6 6), .int 0])), ((a51_6 6), .inl (gt g 1, 8, .inl (fun _ => 0))), (q47_7, .inr (7, [.ref (a51_8 0), .int 0, .int 0, .int 97])), ((a51_8 0), .inl (gt g 4, 3, .inr (.inr (.inr (.inr (va_up (va_up (va_up (fun _ => none) 0 (some (a51_8 1))) 1 (some (a51_8 3))) 2 (some (a51_8 5)))))))), ((a51_8 1), .inr (8, [.ref (a51_8 2), .int 0])), ((a51_8 2), .inl (gt g 1, 8, .inl (fun _ => 0))), ((a51_8 3), .inr (8, [.ref (a51_8 4), .int 0])), ((a51_8 4), .inl (gt g 1, 8, .inl (fun _ => 0))), ((a51_8 5), .inr (8, [.ref (a51_8 6), .int 0])), ((a51_8 6), .inl (gt g 1, 8, .inl (fun _ => 0))), (q47_9, .inr (7, [.ref (a51_10 0), .int 0, .int 0, .int 97])), ((a51_10 0), .inl (gt g 4, 3, .inr (.inr (.inr (.inr (va_up (va_up (va_up (fun _ => none) 0 (some (a51_10 1))) 1 (some (a51_10 3))) 2 (some (a51_10 5)))))))), ((a51_10 1), .inr (8, [.ref (a51_10 2), .int 0])), ((a51_10 2), .inl (gt g 1, 8, .inl (fun _ => 0))), ((a51_10 3), .inr (8, [.ref (a51_10 4), .int 0])), ((a51_10 4), .inl (gt g 1, 8, .inl (fun _ => 0))), ((a51_10 5), .inr (8, [.ref (a51_10 6), .int 0])), ((a51_10 6), .inl (gt g 1, 8, .inl (fun _ => 0))), (q47_11, .inr (7, [.ref (a51_12 0), .int 0, .int 0, .int 97])), ((a51_12 0), .inl (gt g 4, 3, .inr (.inr (.inr (.inr (va_up (va_up (va_up (fun _ => none) 0 (some (a51_12 1))) 1 (some (a51_12 3))) 2 (some (a51_12 5)))))))), ((a51_12 1), .inr (8, [.ref (a51_12 2), .int 0])), ((a51_12 2), .inl (gt g 1, 8, .inl (fun _ => 0))), ((a51_12 3), .inr (8, [.ref (a51_12 4), .int 0])), ((a51_12 4), .inl (gt g 1, 8, .inl (fun _ => 0))), ((a51_12 5), .inr (8, [.ref (a51_12 6), .int 0])), ((a51_12 6), .inl (gt g 1, 8, .inl (fun _ => 0)))] := hD
  refine lv_iinc (k := 0) (v := 5) (lv' := [(1, .int 5), (0, .ref h0)]) hx hb d_Declaration_init_55 hl rfl (by decide) (by decide) rfl (fun ls hl => ?_)
  refine lv_goto hx hb d_Declaration_init_58 rfl ?_
  refine lv_iload_n hx hb d_Declaration_init_36 rfl (lv_at hl 0 rfl) ?_
  refine lv_bipush (v := 6) hx hb d_Declaration_init_37 (by decide) ?_
  refine lv_icmp_ge hx hb d_Declaration_init_39 rfl (fun z => absurd z (by decide)) (fun _ => ?_)
  refine lv_aload_n hx hb d_Declaration_init_42 rfl (lv_at hl 1 rfl) ?_
  refine va_get (v := .ref q18) hx hb hts kc_Declaration.2.1 hown hK hP 0 rfl kc_Declaration.1 1 (by decide) (hts _ wf_Declaration_20) (fun _ h9 => h9) rfl d_Declaration_init_43 ?_
  refine lv_iload_n hx hb d_Declaration_init_46 rfl (lv_at hl 0 rfl) ?_
  refine va_new (ci := 7) (fs := [.null, .int 0, .int 0, .int 0]) (C := R_Parameter) (T := F_Parameter) (N := 4) hx hb hts kc_Parameter.2.1 t_Parameter kc_Parameter.2.2.1 hown (hts _ wl_c_Declaration_18) (hts _ win_Parameter) (hts _ wz_Parameter) hK hP hD hS hA kc_Parameter.1 (fun j hj => by rcases (show j = 0 ∨ j = 1 ∨ j = 2 ∨ j = 3 by omega) with rfl | rfl | rfl | rfl <;> rfl) (Nat.le_of_ble_eq_true rfl) (Nat.le_of_ble_eq_true rfl) d_Declaration_init_47 (fun q47_13 H hP hD hS => ?_)
  have hP : va_P (gD g) classes [(h0, .inr (1, [.ref q5_1, .ref q18, .int 0, .int 0])), (q5_1, .inr (2, [.ref (a9_2 0), .int 0])), ((a9_2 0), .inl (gt g 1, 40, .inl (fun _ => 0))), (q18, .inl (gt g 3, 6, .inr (.inr (.inr (.inr (va_up (va_up (va_up (va_up (va_up (fun _ => none) 0 (some q47_3)) 1 (some q47_5)) 2 (some q47_7)) 3 (some q47_9)) 4 (some q47_11))))))), (q47_3, .inr (7, [.ref (a51_4 0), .int 0, .int 0, .int 97])), ((a51_4 0), .inl (gt g 4, 3, .inr (.inr (.inr (.inr (va_up (va_up (va_up (fun _ => none) 0 (some (a51_4 1))) 1 (some (a51_4 3))) 2 (some (a51_4 5)))))))), ((a51_4 1), .inr (8, [.ref (a51_4 2), .int 0])), ((a51_4 2), .inl (gt g 1, 8, .inl (fun _ => 0))), ((a51_4 3), .inr (8, [.ref (a51_4 4), .int 0])), ((a51_4 4), .inl (gt g 1, 8, .inl (fun _ => 0))), ((a51_4 5), .inr (8, [.ref (a51_4 6), .int 0])), ((a51_4 6), .inl (gt g 1, 8, .inl (fun _ => 0))), (q47_5, .inr (7, [.ref (a51_6 0), .int 0, .int 0, .int 97])), ((a51_6 0), .inl (gt g 4, 3, .inr (.inr (.inr (.inr (va_up (va_up (va_up (fun _ => none) 0 (some (a51_6 1))) 1 (some (a51_6 3))) 2 (some (a51_6 5)))))))), ((a51_6 1), .inr (8, [.ref (a51_6 2), .int 0])), ((a51_6 2), .inl (gt g 1, 8, .inl (fun _ => 0))), ((a51_6 3), .inr (8, [.ref (a51_6 4), .int 0])), ((a51_6 4), .inl (gt g 1, 8, .inl (fun _ => 0))), ((a51_6 5), .inr (8, [.ref (a51_6 6), .int 0])), ((a51_6 6), .inl (gt g 1, 8, .inl (fun _ => 0))), (q47_7, .inr (7, [.ref (a51_8 0), .int 0, .int 0, .int 97])), ((a51_8 0), .inl (gt g 4, 3, .inr (.inr (.inr (.inr (va_up (va_up (va_up (fun _ => none) 0 (some (a51_8 1))) 1 (some (a51_8 3))) 2 (some (a51_8 5)))))))), ((a51_8 1), .inr (8, [.ref (a51_8 2), .int 0])), ((a51_8 2), .inl (gt g 1, 8, .inl (fun _ => 0))), ((a51_8 3), .inr (8, [.ref (a51_8 4), .int 0])), ((a51_8 4), .inl (gt g 1, 8, .inl (fun _ => 0))), ((a51_8 5), .inr (8, [.ref (a51_8 6), .int 0])), ((a51_8 6), .inl (gt g 1, 8, .inl (fun _ => 0))), (q47_9, .inr (7, [.ref (a51_10 0), .int 0, .int 0, .int 97])), ((a51_10 0), .inl (gt g 4, 3, .inr (.inr (.inr (.inr (va_up (va_up (va_up (fun _ => none) 0 (some (a51_10 1))) 1 (some (a51_10 3))) 2 (some (a51_10 5)))))))), ((a51_10 1), .inr (8, [.ref (a51_10 2), .int 0])), ((a51_10 2), .inl (gt g 1, 8, .inl (fun _ => 0))), ((a51_10 3), .inr (8, [.ref (a51_10 4), .int 0])), ((a51_10 4), .inl (gt g 1, 8, .inl (fun _ => 0))), ((a51_10 5), .inr (8, [.ref (a51_10 6), .int 0])), ((a51_10 6), .inl (gt g 1, 8, .inl (fun _ => 0))), (q47_11, .inr (7, [.ref (a51_12 0), .int 0, .int 0, .int 97])), ((a51_12 0), .inl (gt g 4, 3, .inr (.inr (.inr (.inr (va_up (va_up (va_up (fun _ => none) 0 (some (a51_12 1))) 1 (some (a51_12 3))) 2 (some (a51_12 5)))))))), ((a51_12 1), .inr (8, [.ref (a51_12 2), .int 0])), ((a51_12 2), .inl (gt g 1, 8, .inl (fun _ => 0))), ((a51_12 3), .inr (8, [.ref (a51_12 4), .int 0])), ((a51_12 4), .inl (gt g 1, 8, .inl (fun _ => 0))), ((a51_12 5), .inr (8, [.ref (a51_12 6), .int 0])), ((a51_12 6), .inl (gt g 1, 8, .inl (fun _ => 0))), (q47_13, .inr (7, [.null, .int 0, .int 0, .int 0]))] H := hP
  have hD : va_D A [(h0, .inr (1, [.ref q5_1, .ref q18, .int 0, .int 0])), (q5_1, .inr (2, [.ref (a9_2 0), .int 0])), ((a9_2 0), .inl (gt g 1, 40, .inl (fun _ => 0))), (q18, .inl (gt g 3, 6, .inr (.inr (.inr (.inr (va_up (va_up (va_up (va_up (va_up (fun _ => none) 0 (some q47_3)) 1 (some q47_5)) 2 (some q47_7)) 3 (some q47_9)) 4 (some q47_11))))))), (q47_3, .inr (7, [.ref (a51_4 0), .int 0, .int 0, .int 97])), ((a51_4 0), .inl (gt g 4, 3, .inr (.inr (.inr (.inr (va_up (va_up (va_up (fun _ => none) 0 (some (a51_4 1))) 1 (some (a51_4 3))) 2 (some (a51_4 5)))))))), ((a51_4 1), .inr (8, [.ref (a51_4 2), .int 0])), ((a51_4 2), .inl (gt g 1, 8, .inl (fun _ => 0))), ((a51_4 3), .inr (8, [.ref (a51_4 4), .int 0])), ((a51_4 4), .inl (gt g 1, 8, .inl (fun _ => 0))), ((a51_4 5), .inr (8, [.ref (a51_4 6), .int 0])), ((a51_4 6), .inl (gt g 1, 8, .inl (fun _ => 0))), (q47_5, .inr (7, [.ref (a51_6 0), .int 0, .int 0, .int 97])), ((a51_6 0), .inl (gt g 4, 3, .inr (.inr (.inr (.inr (va_up (va_up (va_up (fun _ => none) 0 (some (a51_6 1))) 1 (some (a51_6 3))) 2 (some (a51_6 5)))))))), ((a51_6 1), .inr (8, [.ref (a51_6 2), .int 0])), ((a51_6 2), .inl (gt g 1, 8, .inl (fun _ => 0))), ((a51_6 3), .inr (8, [.ref (a51_6 4), .int 0])), ((a51_6 4), .inl (gt g 1, 8, .inl (fun _ => 0))), ((a51_6 5), .inr (8, [.ref (a51_6 6), .int 0])), ((a51_6 6), .inl (gt g 1, 8, .inl (fun _ => 0))), (q47_7, .inr (7, [.ref (a51_8 0), .int 0, .int 0, .int 97])), ((a51_8 0), .inl (gt g 4, 3, .inr (.inr (.inr (.inr (va_up (va_up (va_up (fun _ => none) 0 (some (a51_8 1))) 1 (some (a51_8 3))) 2 (some (a51_8 5)))))))), ((a51_8 1), .inr (8, [.ref (a51_8 2), .int 0])), ((a51_8 2), .inl (gt g 1, 8, .inl (fun _ => 0))), ((a51_8 3), .inr (8, [.ref (a51_8 4), .int 0])), ((a51_8 4), .inl (gt g 1, 8, .inl (fun _ => 0))), ((a51_8 5), .inr (8, [.ref (a51_8 6), .int 0])), ((a51_8 6), .inl (gt g 1, 8, .inl (fun _ => 0))), (q47_9, .inr (7, [.ref (a51_10 0), .int 0, .int 0, .int 97])), ((a51_10 0), .inl (gt g 4, 3, .inr (.inr (.inr (.inr (va_up (va_up (va_up (fun _ => none) 0 (some (a51_10 1))) 1 (some (a51_10 3))) 2 (some (a51_10 5)))))))), ((a51_10 1), .inr (8, [.ref (a51_10 2), .int 0])), ((a51_10 2), .inl (gt g 1, 8, .inl (fun _ => 0))), ((a51_10 3), .inr (8, [.ref (a51_10 4), .int 0])), ((a51_10 4), .inl (gt g 1, 8, .inl (fun _ => 0))), ((a51_10 5), .inr (8, [.ref (a51_10 6), .int 0])), ((a51_10 6), .inl (gt g 1, 8, .inl (fun _ => 0))), (q47_11, .inr (7, [.ref (a51_12 0), .int 0, .int 0, .int 97])), ((a51_12 0), .inl (gt g 4, 3, .inr (.inr (.inr (.inr (va_up (va_up (va_up (fun _ => none) 0 (some (a51_12 1))) 1 (some (a51_12 3))) 2 (some (a51_12 5)))))))), ((a51_12 1), .inr (8, [.ref (a51_12 2), .int 0])), ((a51_12 2), .inl (gt g 1, 8, .inl (fun _ => 0))), ((a51_12 3), .inr (8, [.ref (a51_12 4), .int 0])), ((a51_12 4), .inl (gt g 1, 8, .inl (fun _ => 0))), ((a51_12 5), .inr (8, [.ref (a51_12 6), .int 0])), ((a51_12 6), .inl (gt g 1, 8, .inl (fun _ => 0))), (q47_13, .inr (7, [.null, .int 0, .int 0, .int 0]))] := hD
  refine W.widen (k := 44) (n := 237) (Nat.le_of_ble_eq_true rfl) (Nat.le_of_ble_eq_true rfl) ?_
  refine lv_dup hx hb d_Declaration_init_50 rfl ?_
  have hPc := hP.sub (ws' := [(q47_13, .inr (7, [.null, .int 0, .int 0, .int 0]))]) [44] rfl
  have hDc := hD.sub (ws' := [(q47_13, .inr (7, [.null, .int 0, .int 0, .int 0]))]) [44] (by decide) rfl
  have hFc := va_free (wc := [(q47_13, .inr (7, [.null, .int 0, .int 0, .int 0]))]) hD hS hA [44] rfl
  refine va_callv (va_runI (As := []) (rest := [.ref q47_13, .int 5, .ref q18]) ⟨hx, hb, hml, hown, hts⟩ (n_Parameter_init l g q47_13 _) (cwI 0 hts (ws_good wc_Parameter_init) rfl rfl rfl (hts _ wz_Parameter) (hts _ wm_Declaration_31) (hts _ wi_Parameter_init) rfl wd_Parameter_init ⟨(Nat.le_of_ble_eq_true rfl), (Nat.le_of_ble_eq_true rfl)⟩) ⟨Pn_blind, fun U hU hW => ⟨rfl, by rw [hU], by rw [hU]; exact hPc, hSt.warm hW, hDc.weaken (fun _ _ _ _ => trivial)⟩⟩ rfl rfl hl.1 rfl (lv_room (Nat.le_of_ble_eq_true rfl)) d_Declaration_init_51 ⟨(Nat.le_of_ble_eq_true rfl), (Nat.le_of_ble_eq_true rfl)⟩) hS (fun q _ h => hFc q h) hFc (fun a51_14 t H1 locs ht hvm hw hB hz1 hk1 hS => ?_)
  obtain ⟨hP1, hD1⟩ := hB
  rw [ht] at hP1
  obtain ⟨hP, hD⟩ := va_join (wr := [(h0, .inr (1, [.ref q5_1, .ref q18, .int 0, .int 0])), (q5_1, .inr (2, [.ref (a9_2 0), .int 0])), ((a9_2 0), .inl (gt g 1, 40, .inl (fun _ => 0))), (q18, .inl (gt g 3, 6, .inr (.inr (.inr (.inr (va_up (va_up (va_up (va_up (va_up (fun _ => none) 0 (some q47_3)) 1 (some q47_5)) 2 (some q47_7)) 3 (some q47_9)) 4 (some q47_11))))))), (q47_3, .inr (7, [.ref (a51_4 0), .int 0, .int 0, .int 97])), ((a51_4 0), .inl (gt g 4, 3, .inr (.inr (.inr (.inr (va_up (va_up (va_up (fun _ => none) 0 (some (a51_4 1))) 1 (some (a51_4 3))) 2 (some (a51_4 5)))))))), ((a51_4 1), .inr (8, [.ref (a51_4 2), .int 0])), ((a51_4 2), .inl (gt g 1, 8, .inl (fun _ => 0))), ((a51_4 3), .inr (8, [.ref (a51_4 4), .int 0])), ((a51_4 4), .inl (gt g 1, 8, .inl (fun _ => 0))), ((a51_4 5), .inr (8, [.ref (a51_4 6), .int 0])), ((a51_4 6), .inl (gt g 1, 8, .inl (fun _ => 0))), (q47_5, .inr (7, [.ref (a51_6 0), .int 0, .int 0, .int 97])), ((a51_6 0), .inl (gt g 4, 3, .inr (.inr (.inr (.inr (va_up (va_up (va_up (fun _ => none) 0 (some (a51_6 1))) 1 (some (a51_6 3))) 2 (some (a51_6 5)))))))), ((a51_6 1), .inr (8, [.ref (a51_6 2), .int 0])), ((a51_6 2), .inl (gt g 1, 8, .inl (fun _ => 0))), ((a51_6 3), .inr (8, [.ref (a51_6 4), .int 0])), ((a51_6 4), .inl (gt g 1, 8, .inl (fun _ => 0))), ((a51_6 5), .inr (8, [.ref (a51_6 6), .int 0])), ((a51_6 6), .inl (gt g 1, 8, .inl (fun _ => 0))), (q47_7, .inr (7, [.ref (a51_8 0), .int 0, .int 0, .int 97])), ((a51_8 0), .inl (gt g 4, 3, .inr (.inr (.inr (.inr (va_up (va_up (va_up (fun _ => none) 0 (some (a51_8 1))) 1 (some (a51_8 3))) 2 (some (a51_8 5)))))))), ((a51_8 1), .inr (8, [.ref (a51_8 2), .int 0])), ((a51_8 2), .inl (gt g 1, 8, .inl (fun _ => 0))), ((a51_8 3), .inr (8, [.ref (a51_8 4), .int 0])), ((a51_8 4), .inl (gt g 1, 8, .inl (fun _ => 0))), ((a51_8 5), .inr (8, [.ref (a51_8 6), .int 0])), ((a51_8 6), .inl (gt g 1, 8, .inl (fun _ => 0))), (q47_9, .inr (7, [.ref (a51_10 0), .int 0, .int 0, .int 97])), ((a51_10 0), .inl (gt g 4, 3, .inr (.inr (.inr (.inr (va_up (va_up (va_up (fun _ => none) 0 (some (a51_10 1))) 1 (some (a51_10 3))) 2 (some (a51_10 5)))))))), ((a51_10 1), .inr (8, [.ref (a51_10 2), .int 0])), ((a51_10 2), .inl (gt g 1, 8, .inl (fun _ => 0))), ((a51_10 3), .inr (8, [.ref (a51_10 4), .int 0])), ((a51_10 4), .inl (gt g 1, 8, .inl (fun _ => 0))), ((a51_10 5), .inr (8, [.ref (a51_10 6), .int 0])), ((a51_10 6), .inl (gt g 1, 8, .inl (fun _ => 0))), (q47_11, .inr (7, [.ref (a51_12 0), .int 0, .int 0, .int 97])), ((a51_12 0), .inl (gt g 4, 3, .inr (.inr (.inr (.inr (va_up (va_up (va_up (fun _ => none) 0 (some (a51_12 1))) 1 (some (a51_12 3))) 2 (some (a51_12 5)))))))), ((a51_12 1), .inr (8, [.ref (a51_12 2), .int 0])), ((a51_12 2), .inl (gt g 1, 8, .inl (fun _ => 0))), ((a51_12 3), .inr (8, [.ref (a51_12 4), .int 0])), ((a51_12 4), .inl (gt g 1, 8, .inl (fun _ => 0))), ((a51_12 5), .inr (8, [.ref (a51_12 6), .int 0])), ((a51_12 6), .inl (gt g 1, 8, .inl (fun _ => 0)))]) (w1 := w_Parameter_init g q47_13 a51_14) hP hD [44] [0, 1, 2, 3, 4, 5, 6, 7, 8, 9, 10, 11, 12, 13, 14, 15, 16, 17, 18, 19, 20, 21, 22, 23, 24, 25, 26, 27, 28, 29, 30, 31, 32, 33, 34, 35, 36, 37, 38, 39, 40, 41, 42, 43] rfl rfl (by decide) (by decide) hk1 hFc hP1 hD1
  generalize H1 = H at hP hS ⊢
  have hP : va_P (gD g) classes [(h0, .inr (1, [.ref q5_1, .ref q18, .int 0, .int 0])), (q5_1, .inr (2, [.ref (a9_2 0), .int 0])), ((a9_2 0), .inl (gt g 1, 40, .inl (fun _ => 0))), (q18, .inl (gt g 3, 6, .inr (.inr (.inr (.inr (va_up (va_up (va_up (va_up (va_up (fun _ => none) 0 (some q47_3)) 1 (some q47_5)) 2 (some q47_7)) 3 (some q47_9)) 4 (some q47_11))))))), (q47_3, .inr (7, [.ref (a51_4 0), .int 0, .int 0, .int 97])), ((a51_4 0), .inl (gt g 4, 3, .inr (.inr (.inr (.inr (va_up (va_up (va_up (fun _ => none) 0 (some (a51_4 1))) 1 (some (a51_4 3))) 2 (some (a51_4 5)))))))), ((a51_4 1), .inr (8, [.ref (a51_4 2), .int 0])), ((a51_4 2), .inl (gt g 1, 8, .inl (fun _ => 0))), ((a51_4 3), .inr (8, [.ref (a51_4 4), .int 0])), ((a51_4 4), .inl (gt g 1, 8, .inl (fun _ => 0))), ((a51_4 5), .inr (8, [.ref (a51_4 6), .int 0])), ((a51_4 6), .inl (gt g 1, 8, .inl (fun _ => 0))), (q47_5, .inr (7, [.ref (a51_6 0), .int 0, .int 0, .int 97])), ((a51_6 0), .inl (gt g 4, 3, .inr (.inr (.inr (.inr (va_up (va_up (va_up (fun _ => none) 0 (some (a51_6 1))) 1 (some (a51_6 3))) 2 (some (a51_6 5)))))))), ((a51_6 1), .inr (8, [.ref (a51_6 2), .int 0])), ((a51_6 2), .inl (gt g 1, 8, .inl (fun _ => 0))), ((a51_6 3), .inr (8, [.ref (a51_6 4), .int 0])), ((a51_6 4), .inl (gt g 1, 8, .inl (fun _ => 0))), ((a51_6 5), .inr (8, [.ref (a51_6 6), .int 0])), ((a51_6 6), .inl (gt g 1, 8, .inl (fun _ => 0))), (q47_7, .inr (7, [.ref (a51_8 0), .int 0, .int 0, .int 97])), ((a51_8 0), .inl (gt g 4, 3, .inr (.inr (.inr (.inr (va_up (va_up (va_up (fun _ => none) 0 (some (a51_8 1))) 1 (some (a51_8 3))) 2 (some (a51_8 5)))))))), ((a51_8 1), .inr (8, [.ref (a51_8 2), .int 0])), ((a51_8 2), .inl (gt g 1, 8, .inl (fun _ => 0))), ((a51_8 3), .inr (8, [.ref (a51_8 4), .int 0])), ((a51_8 4), .inl (gt g 1, 8, .inl (fun _ => 0))), ((a51_8 5), .inr (8, [.ref (a51_8 6), .int 0])), ((a51_8 6), .inl (gt g 1, 8, .inl (fun _ => 0))), (q47_9, .inr (7, [.ref (a51_10 0), .int 0, .int 0, .int 97])), ((a51_10 0), .inl (gt g 4, 3, .inr (.inr (.inr (.inr (va_up (va_up (va_up (fun _ => none) 0 (some (a51_10 1))) 1 (some (a51_10 3))) 2 (some (a51_10 5)))))))), ((a51_10 1), .inr (8, [.ref (a51_10 2), .int 0])), ((a51_10 2), .inl (gt g 1, 8, .inl (fun _ => 0))), ((a51_10 3), .inr (8, [.ref (a51_10 4), .int 0])), ((a51_10 4), .inl (gt g 1, 8, .inl (fun _ => 0))), ((a51_10 5), .inr (8, [.ref (a51_10 6), .int 0])), ((a51_10 6), .inl (gt g 1, 8, .inl (fun _ => 0))), (q47_11, .inr (7, [.ref (a51_12 0), .int 0, .int 0, .int 97])), ((a51_12 0), .inl (gt g 4, 3, .inr (.inr (.inr (.inr (va_up (va_up (va_up (fun _ => none) 0 (some (a51_12 1))) 1 (some (a51_12 3))) 2 (some (a51_12 5)))))))), ((a51_12 1), .inr (8, [.ref (a51_12 2), .int 0])), ((a51_12 2), .inl (gt g 1, 8, .inl (fun _ => 0))), ((a51_12 3), .inr (8, [.ref (a51_12 4), .int 0])), ((a51_12 4), .inl (gt g 1, 8, .inl (fun _ => 0))), ((a51_12 5), .inr (8, [.ref (a51_12 6), .int 0])), ((a51_12 6), .inl (gt g 1, 8, .inl (fun _ => 0))), (q47_13, .inr (7, [.ref (a51_14 0), .int 0, .int 0, .int 97])), ((a51_14 0), .inl (gt g 4, 3, .inr (.inr (.inr (.inr (va_up (va_up (va_up (fun _ => none) 0 (some (a51_14 1))) 1 (some (a51_14 3))) 2 (some (a51_14 5)))))))), ((a51_14 1), .inr (8, [.ref (a51_14 2), .int 0])), ((a51_14 2), .inl (gt g 1, 8, .inl (fun _ => 0))), ((a51_14 3), .inr (8, [.ref (a51_14 4), .int 0])), ((a51_14 4), .inl (gt g 1, 8, .inl (fun _ => 0))), ((a51_14 5), .inr (8, [.ref (a51_14 6), .int 0])), ((a51_14 6), .inl (gt g 1, 8, .inl (fun _ => 0)))] H := hP
  have hD : va_D A [(h0, .inr (1, [.ref q5_1, .ref q18, .int 0, .int 0])), (q5_1, .inr (2, [.ref (a9_2 0), .int 0])), ((a9_2 0), .inl (gt g 1, 40, .inl (fun _ => 0))), (q18, .inl (gt g 3, 6, .inr (.inr (.inr (.inr (va_up (va_up (va_up (va_up (va_up (fun _ => none) 0 (some q47_3)) 1 (some q47_5)) 2 (some q47_7)) 3 (some q47_9)) 4 (some q47_11))))))), (q47_3, .inr (7, [.ref (a51_4 0), .int 0, .int 0, .int 97])), ((a51_4 0), .inl (gt g 4, 3, .inr (.inr (.inr (.inr (va_up (va_up (va_up (fun _ => none) 0 (some (a51_4 1))) 1 (some (a51_4 3))) 2 (some (a51_4 5)))))))), ((a51_4 1), .inr (8, [.ref (a51_4 2), .int 0])), ((a51_4 2), .inl (gt g 1, 8, .inl (fun _ => 0))), ((a51_4 3), .inr (8, [.ref (a51_4 4), .int 0])), ((a51_4 4), .inl (gt g 1, 8, .inl (fun _ => 0))), ((a51_4 5), .inr (8, [.ref (a51_4 6), .int 0])), ((a51_4 6), .inl (gt g 1, 8, .inl (fun _ => 0))), (q47_5, .inr (7, [.ref (a51_6 0), .int 0, .int 0, .int 97])), ((a51_6 0), .inl (gt g 4, 3, .inr (.inr (.inr (.inr (va_up (va_up (va_up (fun _ => none) 0 (some (a51_6 1))) 1 (some (a51_6 3))) 2 (some (a51_6 5)))))))), ((a51_6 1), .inr (8, [.ref (a51_6 2), .int 0])), ((a51_6 2), .inl (gt g 1, 8, .inl (fun _ => 0))), ((a51_6 3), .inr (8, [.ref (a51_6 4), .int 0])), ((a51_6 4), .inl (gt g 1, 8, .inl (fun _ => 0))), ((a51_6 5), .inr (8, [.ref (a51_6 6), .int 0])), ((a51_6 6), .inl (gt g 1, 8, .inl (fun _ => 0))), (q47_7, .inr (7, [.ref (a51_8 0), .int 0, .int 0, .int 97])), ((a51_8 0), .inl (gt g 4, 3, .inr (.inr (.inr (.inr (va_up (va_up (va_up (fun _ => none) 0 (some (a51_8 1))) 1 (some (a51_8 3))) 2 (some (a51_8 5)))))))), ((a51_8 1), .inr (8, [.ref (a51_8 2), .int 0])), ((a51_8 2), .inl (gt g 1, 8, .inl (fun _ => 0))), ((a51_8 3), .inr (8, [.ref (a51_8 4), .int 0])), ((a51_8 4), .inl (gt g 1, 8, .inl (fun _ => 0))), ((a51_8 5), .inr (8, [.ref (a51_8 6), .int 0])), ((a51_8 6), .inl (gt g 1, 8, .inl (fun _ => 0))), (q47_9, .inr (7, [.ref (a51_10 0), .int 0, .int 0, .int 97])), ((a51_10 0), .inl (gt g 4, 3, .inr (.inr (.inr (.inr (va_up (va_up (va_up (fun _ => none) 0 (some (a51_10 1))) 1 (some (a51_10 3))) 2 (some (a51_10 5)))))))), ((a51_10 1), .inr (8, [.ref (a51_10 2), .int 0])), ((a51_10 2), .inl (gt g 1, 8, .inl (fun _ => 0))), ((a51_10 3), .inr (8, [.ref (a51_10 4), .int 0])), ((a51_10 4), .inl (gt g 1, 8, .inl (fun _ => 0))), ((a51_10 5), .inr (8, [.ref (a51_10 6), .int 0])), ((a51_10 6), .inl (gt g 1, 8, .inl (fun _ => 0))), (q47_11, .inr (7, [.ref (a51_12 0), .int 0, .int 0, .int 97])), ((a51_12 0), .inl (gt g 4, 3, .inr (.inr (.inr (.inr (va_up (va_up (va_up (fun _ => none) 0 (some (a51_12 1))) 1 (some (a51_12 3))) 2 (some (a51_12 5)))))))), ((a51_12 1), .inr (8, [.ref (a51_12 2), .int 0])), ((a51_12 2), .inl (gt g 1, 8, .inl (fun _ => 0))), ((a51_12 3), .inr (8, [.ref (a51_12 4), .int 0])), ((a51_12 4), .inl (gt g 1, 8, .inl (fun _ => 0))), ((a51_12 5), .inr (8, [.ref (a51_12 6), .int 0])), ((a51_12 6), .inl (gt g 1, 8, .inl (fun _ => 0))), (q47_13, .inr (7, [.ref (a51_14 0), .int 0, .int 0, .int 97])), ((a51_14 0), .inl (gt g 4, 3, .inr (.inr (.inr (.inr (va_up (va_up (va_up (fun _ => none) 0 (some (a51_14 1))) 1 (some (a51_14 3))) 2 (some (a51_14 5)))))))), ((a51_14 1), .inr (8, [.ref (a51_14 2), .int 0])), ((a51_14 2), .inl (gt g 1, 8, .inl (fun _ => 0))), ((a51_14 3), .inr (8, [.ref (a51_14 4), .int 0])), ((a51_14 4), .inl (gt g 1, 8, .inl (fun _ => 0))), ((a51_14 5), .inr (8, [.ref (a51_14 6), .int 0])), ((a51_14 6), .inl (gt g 1, 8, .inl (fun _ => 0)))] := hD
  refine W.widen (k := 51) (n := 270) (Nat.le_of_ble_eq_true rfl) (Nat.le_of_ble_eq_true rfl) ?_
  refine va_astq hx hb hK hP hD hS 3 3 44 7 rfl rfl rfl kc_Parameter.1 (by unfold vp_in; decide) d_Declaration_init_54 (fun H locs hP hD hS => ?_)
  have hP : va_P (gD g) classes [(h0, .inr (1, [.ref q5_1, .ref q18, .int 0, .int 0])), (q5_1, .inr (2, [.ref (a9_2 0), .int 0])), ((a9_2 0), .inl (gt g 1, 40, .inl (fun _ => 0))), (q18, .inl (gt g 3, 6, .inr (.inr (.inr (.inr (va_up (va_up (va_up (va_up (va_up (va_up (fun _ => none) 0 (some q47_3)) 1 (some q47_5)) 2 (some q47_7)) 3 (some q47_9)) 4 (some q47_11)) 5 (some q47_13))))))), (q47_3, .inr (7, [.ref (a51_4 0), .int 0, .int 0, .int 97])), ((a51_4 0), .inl (gt g 4, 3, .inr (.inr (.inr (.inr (va_up (va_up (va_up (fun _ => none) 0 (some (a51_4 1))) 1 (some (a51_4 3))) 2 (some (a51_4 5)))))))), ((a51_4 1), .inr (8, [.ref (a51_4 2), .int 0])), ((a51_4 2), .inl (gt g 1, 8, .inl (fun _ => 0))), ((a51_4 3), .inr (8, [.ref (a51_4 4), .int 0])), ((a51_4 4), .inl (gt g 1, 8, .inl (fun _ => 0))), ((a51_4 5), .inr (8, [.ref (a51_4 6), .int 0])), ((a51_4 6), .inl (gt g 1, 8, .inl (fun _ => 0))), (q47_5, .inr (7, [.ref (a51_6 0), .int 0, .int 0, .int 97])), ((a51_6 0), .inl (gt g 4, 3, .inr (.inr (.inr (.inr (va_up (va_up (va_up (fun _ => none) 0 (some (a51_6 1))) 1 (some (a51_6 3))) 2 (some (a51_6 5)))))))), ((a51_6 1), .inr (8, [.ref (a51_6 2), .int 0])), ((a51_6 2), .inl (gt g 1, 8, .inl (fun _ => 0))), ((a51_6 3), .inr (8, [.ref (a51_6 4), .int 0])), ((a51_6 4), .inl (gt g 1, 8, .inl (fun _ => 0))), ((a51_6 5), .inr (8, [.ref (a51_6 6), .int 0])), ((a51_6 6), .inl (gt g 1, 8, .inl (fun _ => 0))), (q47_7, .inr (7, [.ref (a51_8 0), .int 0, .int 0, .int 97])), ((a51_8 0), .inl (gt g 4, 3, .inr (.inr (.inr (.inr (va_up (va_up (va_up (fun _ => none) 0 (some (a51_8 1))) 1 (some (a51_8 3))) 2 (some (a51_8 5)))))))), ((a51_8 1), .inr (8, [.ref (a51_8 2), .int 0])), ((a51_8 2), .inl (gt g 1, 8, .inl (fun _ => 0))), ((a51_8 3), .inr (8, [.ref (a51_8 4), .int 0])), ((a51_8 4), .inl (gt g 1, 8, .inl (fun _ => 0))), ((a51_8 5), .inr (8, [.ref (a51_8 6), .int 0])), ((a51_8 6), .inl (gt g 1, 8, .inl (fun _ => 0))), (q47_9, .inr (7, [.ref (a51_10 0), .int 0, .int 0, .int 97])), ((a51_10 0), .inl (gt g 4, 3, .inr (.inr (.inr (.inr (va_up (va_up (va_up (fun _ => none) 0 (some (a51_10 1))) 1 (some (a51_10 3))) 2 (some (a51_10 5)))))))), ((a51_10 1), .inr (8, [.ref (a51_10 2), .int 0])), ((a51_10 2), .inl (gt g 1, 8, .inl (fun _ => 0))), ((a51_10 3), .inr (8, [.ref (a51_10 4), .int 0])), ((a51_10 4), .inl (gt g 1, 8, .inl (fun _ => 0))), ((a51_10 5), .inr (8, [.ref (a51_10 6), .int 0])), ((a51_10 6), .inl (gt g 1, 8, .inl (fun _ => 0))), (q47_11, .inr (7, [.ref (a51_12 0), .int 0, .int 0, .int 97])), ((a51_12 0), .inl (gt g 4, 3, .inr (.inr (.inr (.inr (va_up (va_up (va_up (fun _ => none) 0 (some (a51_12 1))) 1 (some (a51_12 3))) 2 (some (a51_12 5)))))))), ((a51_12 1), .inr (8, [.ref (a51_12 2), .int 0])), ((a51_12 2), .inl (gt g 1, 8, .inl (fun _ => 0))), ((a51_12 3), .inr (8, [.ref (a51_12 4), .int 0])), ((a51_12 4), .inl (gt g 1, 8, .inl (fun _ => 0))), ((a51_12 5), .inr (8, [.ref (a51_12 6), .int 0])), ((a51_12 6), .inl (gt g 1, 8, .inl (fun _ => 0))), (q47_13, .inr (7, [.ref (a51_14 0), .int 0, .int 0, .int 97])), ((a51_14 0), .inl (gt g 4, 3, .inr (.inr (.inr (.inr (va_up (va_up (va_up (fun _ => none) 0 (some (a51_14 1))) 1 (some (a51_14 3))) 2 (some (a51_14 5)))))))), ((a51_14 1), .inr (8, [.ref (a51_14 2), .int 0])), ((a51_14 2), .inl (gt g 1, 8, .inl (fun _ => 0))), ((a51_14 3), .inr (8, [.ref (a51_14 4), .int 0])), ((a51_14 4), .inl (gt g 1, 8, .inl (fun _ => 0))), ((a51_14 5), .inr (8, [.ref (a51_14 6), .int 0])), ((a51_14 6), .inl (gt g 1, 8, .inl (fun _ => 0)))] H := hP
  have hD : va_D A [(h0, .inr (1, [.ref q5_1, .ref q18, .int 0, .int 0])), (q5_1, .inr (2, [.ref (a9_2 0), .int 0])), ((a9_2 0), .inl (gt g 1, 40, .inl (fun _ => 0))), (q18, .inl (gt g 3, 6, .inr (.inr (.inr (.inr (va_up (va_up (va_up (va_up (va_up (va_up (fun _ => none) 0 (some q47_3)) 1 (some q47_5)) 2 (some q47_7)) 3 (some q47_9)) 4 (some q47_11)) 5 (some q47_13))))))), (q47_3, .inr (7, [.ref (a51_4 0), .int 0, .int 0, .int 97])), ((a51_4 0), .inl (gt g 4, 3, .inr (.inr (.inr (.inr (va_up (va_up (va_up (fun _ => none) 0 (some (a51_4 1))) 1 (some (a51_4 3))) 2 (some (a51_4 5)))))))), ((a51_4 1), .inr (8, [.ref (a51_4 2), .int 0])), ((a51_4 2), .inl (gt g 1, 8, .inl (fun _ => 0))), ((a51_4 3), .inr (8, [.ref (a51_4 4), .int 0])), ((a51_4 4), .inl (gt g 1, 8, .inl (fun _ => 0))), ((a51_4 5), .inr (8, [.ref (a51_4 6), .int 0])), ((a51_4 6), .inl (gt g 1, 8, .inl (fun _ => 0))), (q47_5, .inr (7, [.ref (a51_6 0), .int 0, .int 0, .int 97])), ((a51_6 0), .inl (gt g 4, 3, .inr (.inr (.inr (.inr (va_up (va_up (va_up (fun _ => none) 0 (some (a51_6 1))) 1 (some (a51_6 3))) 2 (some (a51_6 5)))))))), ((a51_6 1), .inr (8, [.ref (a51_6 2), .int 0])), ((a51_6 2), .inl (gt g 1, 8, .inl (fun _ => 0))), ((a51_6 3), .inr (8, [.ref (a51_6 4), .int 0])), ((a51_6 4), .inl (gt g 1, 8, .inl (fun _ => 0))), ((a51_6 5), .inr (8, [.ref (a51_6 6), .int 0])), ((a51_6 6), .inl (gt g 1, 8, .inl (fun _ => 0))), (q47_7, .inr (7, [.ref (a51_8 0), .int 0, .int 0, .int 97])), ((a51_8 0), .inl (gt g 4, 3, .inr (.inr (.inr (.inr (va_up (va_up (va_up (fun _ => none) 0 (some (a51_8 1))) 1 (some (a51_8 3))) 2 (some (a51_8 5)))))))), ((a51_8 1), .inr (8, [.ref (a51_8 2), .int 0])), ((a51_8 2), .inl (gt g 1, 8, .inl (fun _ => 0))), ((a51_8 3), .inr (8, [.ref (a51_8 4), .int 0])), ((a51_8 4), .inl (gt g 1, 8, .inl (fun _ => 0))), ((a51_8 5), .inr (8, [.ref (a51_8 6), .int 0])), ((a51_8 6), .inl (gt g 1, 8, .inl (fun _ => 0))), (q47_9, .inr (7, [.ref (a51_10 0), .int 0, .int 0, .int 97])), ((a51_10 0), .inl (gt g 4, 3, .inr (.inr (.inr (.inr (va_up (va_up (va_up (fun _ => none) 0 (some (a51_10 1))) 1 (some (a51_10 3))) 2 (some (a51_10 5)))))))), ((a51_10 1), .inr (8, [.ref (a51_10 2), .int 0])), ((a51_10 2), .inl (gt g 1, 8, .inl (fun _ => 0))), ((a51_10 3), .inr (8, [.ref (a51_10 4), .int 0])), ((a51_10 4), .inl (gt g 1, 8, .inl (fun _ => 0))), ((a51_10 5), .inr (8, [.ref (a51_10 6), .int 0])), ((a51_10 6), .inl (gt g 1, 8, .inl (fun _ => 0))), (q47_11, .inr (7, [.ref (a51_12 0), .int 0, .int 0, .int 97])), ((a51_12 0), .inl (gt g 4, 3, .inr (.inr (.inr (.inr (va_up (va_up (va_up (fun _ => none) 0 (some (a51_12 1))) 1 (some (a51_12 3))) 2 (some (a51_12 5)))))))), ((a51_12 1), .inr (8, [.ref (a51_12 2), .int 0])), ((a51_12 2), .inl (gt g 1, 8, .inl (fun _ => 0))), ((a51_12 3), .inr (8, [.ref (a51_12 4), .int 0])), ((a51_12 4), .inl (gt g 1, 8, .inl (fun _ => 0))), ((a51_12 5), .inr (8, [.ref (a51_12 6), .int 0])), ((a51_12 6), .inl (gt g 1, 8, .inl (fun _ => 0))), (q47_13, .inr (7, [.ref (a51_14 0), .int 0, .int 0, .int 97])), ((a51_14 0), .inl (gt g 4, 3, .inr (.inr (.inr (.inr (va_up (va_up (va_up (fun _ => none) 0 (some (a51_14 1))) 1 (some (a51_14 3))) 2 (some (a51_14 5)))))))), ((a51_14 1), .inr (8, [.ref (a51_14 2), .int 0])), ((a51_14 2), .inl (gt g 1, 8, .inl (fun _ => 0))), ((a51_14 3), .inr (8, [.ref (a51_14 4), .int 0])), ((a51_14 4), .inl (gt g 1, 8, .inl (fun _ => 0))), ((a51_14 5), .inr (8, [.ref (a51_14 6), .int 0])), ((a51_14 6), .inl (gt g 1, 8, .inl (fun _ => 0)))] := hD
  refine lv_iinc (k := 0) (v := 6) (lv' := [(1, .int 6), (0, .ref h0)]) hx hb d_Declaration_init_55 hl rfl (by decide) (by decide) rfl (fun ls hl => ?_)
  refine lv_goto hx hb d_Declaration_init_58 rfl ?_
  refine lv_iload_n hx hb d_Declaration_init_36 rfl (lv_at hl 0 rfl) ?_
  refine lv_bipush (v := 6) hx hb d_Declaration_init_37 (by decide) ?_
  refine lv_icmp_ge hx hb d_Declaration_init_39 rfl (fun _ => ?_) (fun z => absurd (by decide) z)
  exact W.vret hx hb hr (fun t ht hW => ⟨⟨(fun i => [q5_1, (a9_2 0), q18, q47_3, (a51_4 0), (a51_4 1), (a51_4 2), (a51_4 3), (a51_4 4), (a51_4 5), (a51_4 6), q47_5, (a51_6 0), (a51_6 1), (a51_6 2), (a51_6 3), (a51_6 4), (a51_6 5), (a51_6 6), q47_7, (a51_8 0), (a51_8 1), (a51_8 2), (a51_8 3), (a51_8 4), (a51_8 5), (a51_8 6), q47_9, (a51_10 0), (a51_10 1), (a51_10 2), (a51_10 3), (a51_10 4), (a51_10 5), (a51_10 6), q47_11, (a51_12 0), (a51_12 1), (a51_12 2), (a51_12 3), (a51_12 4), (a51_12 5), (a51_12 6), q47_13, (a51_14 0), (a51_14 1), (a51_14 2), (a51_14 3), (a51_14 4), (a51_14 5), (a51_14 6)].getD i 0), rfl, trivial, by show va_P _ _ _ _; rw [ht]; exact hP, hD⟩, hS.F ht⟩) hS.2.2 d_Declaration_init_61
theorem d_RequestWriter_init_0 : decode b_RequestWriter_init 0 = .ok (.aload_n 0, 1) := by decide +kernel
theorem d_RequestWriter_init_1 : decode b_RequestWriter_init 1 = .ok (.invokespecial 1, 3) := by decide +kernel
theorem d_RequestWriter_init_4 : decode b_RequestWriter_init 4 = .ok (.aload_n 0, 1) := by decide +kernel
theorem d_RequestWriter_init_5 : decode b_RequestWriter_init 5 = .ok (.new 7, 3) := by decide +kernel
theorem d_RequestWriter_init_8 : decode b_RequestWriter_init 8 = .ok (.dup, 1) := by decide +kernel
theorem d_RequestWriter_init_9 : decode b_RequestWriter_init 9 = .ok (.iconst 0, 1) := by decide +kernel
theorem d_RequestWriter_init_10 : decode b_RequestWriter_init 10 = .ok (.invokespecial 9, 3) := by decide +kernel
theorem d_RequestWriter_init_13 : decode b_RequestWriter_init 13 = .ok (.putfield 12, 3) := by decide +kernel
theorem d_RequestWriter_init_16 : decode b_RequestWriter_init 16 = .ok (.aload_n 0, 1) := by decide +kernel
theorem d_RequestWriter_init_17 : decode b_RequestWriter_init 17 = .ok (.aload_n 1, 1) := by decide +kernel
theorem d_RequestWriter_init_18 : decode b_RequestWriter_init 18 = .ok (.putfield 18, 3) := by decide +kernel
theorem d_RequestWriter_init_21 : decode b_RequestWriter_init 21 = .ok (.aload_n 0, 1) := by decide +kernel
theorem d_RequestWriter_init_22 : decode b_RequestWriter_init 22 = .ok (.aload_n 1, 1) := by decide +kernel
theorem d_RequestWriter_init_23 : decode b_RequestWriter_init 23 = .ok (.getfield 22, 3) := by decide +kernel
theorem d_RequestWriter_init_26 : decode b_RequestWriter_init 26 = .ok (.putfield 28, 3) := by decide +kernel
theorem d_RequestWriter_init_29 : decode b_RequestWriter_init 29 = .ok (.return_, 1) := by decide +kernel
def w_RequestWriter_init (g : zG) (h0 y1 y2 y3 : Nat) (a : Nat → Nat) : va_W := [(h0, .inr (3, [.ref y1, .ref y2, .ref (a 0)])), (y1, .inr (1, [.ref y2, .ref y3, .int 0, .int 0])), ((a 0), .inr (9, [.ref (a 1), .int 0])), ((a 1), .inl (gt g 2, 0, .inl (fun _ => 0)))]
set_option maxHeartbeats 4000000 in
set_option maxRecDepth 100000 in
theorem n_RequestWriter_init (l : Launch) (g : zG) (h0 y1 y2 y3 : Nat) (sz : Nat) : Met l y_RequestWriter_init (mw y_RequestWriter_init b_RequestWriter_init 2 none) (rmC 2 2 2) (Pn g [.ref h0, .ref y1] sz [(h0, .inr (3, [.null, .null, .null])), (y1, .inr (1, [.ref y2, .ref y3, .int 0, .int 0]))]) (Qn g sz [(h0, .inr (3, [.null, .null, .null])), (y1, .inr (1, [.ref y2, .ref y3, .int 0, .int 0]))] (w_RequestWriter_init g h0 y1 y2 y3)) 2 2 (va_A [(h0, .inr (3, [.null, .null, .null])), (y1, .inr (1, [.ref y2, .ref y3, .int 0, .int 0]))] sz) := by
  refine Met.ofW (cc := b_RequestWriter_init) (maxL := 2) (ret := none) (by decide) rfl ?_
  intro p e s m args below meth c s₁ B hml hv
  obtain ⟨rfl, hsz, hP, hSt, hD0⟩ := hv
  have hx := B.exec
  have hb := B.bytes
  have hr := B.returns
  have hts : ∀ w ∈ WS, w.before _ s = true := fun w hw => atoms_spec (ws := mw y_RequestWriter_init b_RequestWriter_init 2 none) B.pre w (List.mem_cons_of_mem _ hw)
  have hown : s.vm.findClass R_RequestWriter = some m.cls := findClass_of_methodNamed B.named
  have hlocks := B.notSynchronized
  have hin := (name_of_methodNamed B.named B.method).1
  have hK := hSt.1
  have hN := hSt.2.1
  have hAO3 := hSt.2.2.1
  have hAO4 := hSt.2.2.2
  subst hsz
  have hD := hD0.self (sz := s.heap.size)
  unfold Qn
  generalize hAe : va_A [(h0, .inr (3, [.null, .null, .null])), (y1, .inr (1, [.ref y2, .ref y3, .int 0, .int 0]))] s.heap.size = A at hD ⊢
  have hA : ∀ q : Nat, s.heap.size ≤ q → A q := fun q h => by rw [← hAe]; exact Or.inr h
  have hS : va_S A s.heap s.heap [] := va_S.rf
  have hl := lv_entry ([.ref h0, .ref y1]) (n := 2) (Nat.le_of_ble_eq_true rfl)
  rw [lg_entry_eq]
  generalize (lg_sl ([.ref h0, .ref y1]) ++ List.replicate (2 - (lg_sl ([.ref h0, .ref y1])).length) Slot.unset).toArray = ls at hl ⊢
  have hl : lv_has ls 2 [(0, .ref h0), (1, .ref y1)] := hl
  have hP : va_P (gD g) classes [(h0, .inr (3, [.null, .null, .null])), (y1, .inr (1, [.ref y2, .ref y3, .int 0, .int 0]))] s.heap := hP
  refine lv_aload_n hx hb d_RequestWriter_init_0 rfl (lv_at hl 0 rfl) ?_
  refine W.objInit hx hb hown (hts _ wm_RequestWriter_1) (hts _ wi_Obj) (hts _ wc_Obj) rfl (by rw [hml]; exact hl.1) rfl d_RequestWriter_init_1 (Nat.le_of_ble_eq_true rfl) (Nat.le_of_ble_eq_true rfl) ?_
  refine W.eq (g2 := F0 m 4 ls []) rfl ?_
  refine lv_aload_n hx hb d_RequestWriter_init_4 rfl (lv_at hl 0 rfl) ?_
  refine va_new (ci := 9) (fs := [.null, .int 0]) (C := R_ByteRow) (T := F_ByteRow) (N := 2) hx hb hts kc_ByteRow.2.1 t_ByteRow kc_ByteRow.2.2.1 hown (hts _ wl_c_RequestWriter_7) (hts _ win_ByteRow) (hts _ wz_ByteRow) hK hP hD hS hA kc_ByteRow.1 (fun j hj => by rcases (show j = 0 ∨ j = 1 by omega) with rfl | rfl <;> rfl) (Nat.le_of_ble_eq_true rfl) (Nat.le_of_ble_eq_true rfl) d_RequestWriter_init_5 (fun q5_1 H hP hD hS => ?_)
  have hP : va_P (gD g) classes [(h0, .inr (3, [.null, .null, .null])), (y1, .inr (1, [.ref y2, .ref y3, .int 0, .int 0])), (q5_1, .inr (9, [.null, .int 0]))] H := hP
  have hD : va_D A [(h0, .inr (3, [.null, .null, .null])), (y1, .inr (1, [.ref y2, .ref y3, .int 0, .int 0])), (q5_1, .inr (9, [.null, .int 0]))] := hD
  refine W.widen (k := 1) (n := 2) (Nat.le_of_ble_eq_true rfl) (Nat.le_of_ble_eq_true rfl) ?_
  refine lv_dup hx hb d_RequestWriter_init_8 rfl ?_
  refine lv_iconst (v := 0) hx hb d_RequestWriter_init_9 (by decide) ?_
  have hPc := hP.sub (ws' := [(q5_1, .inr (9, [.null, .int 0]))]) [2] rfl
  have hDc := hD.sub (ws' := [(q5_1, .inr (9, [.null, .int 0]))]) [2] (by decide) rfl
  have hFc := va_free (wc := [(q5_1, .inr (9, [.null, .int 0]))]) hD hS hA [2] rfl
  refine va_callv (va_runI (As := [.int 0]) (rest := [.ref q5_1, .ref h0]) ⟨hx, hb, hml, hown, hts⟩ (n_ByteRow_init__0 l g q5_1 _) (cwI 1 hts (ws_good wc_ByteRow_init) rfl rfl rfl (hts _ wz_ByteRow) (hts _ wm_RequestWriter_9) (hts _ wi_ByteRow_init) rfl wd_ByteRow_init ⟨(Nat.le_of_ble_eq_true rfl), (Nat.le_of_ble_eq_true rfl)⟩) ⟨Pn_blind, fun U hU hW => ⟨rfl, by rw [hU], by rw [hU]; exact hPc, hSt.warm hW, hDc.weaken (fun _ _ _ _ => trivial)⟩⟩ rfl rfl hl.1 rfl (lv_room (Nat.le_of_ble_eq_true rfl)) d_RequestWriter_init_10 ⟨(Nat.le_of_ble_eq_true rfl), (Nat.le_of_ble_eq_true rfl)⟩) hS (fun q _ h => hFc q h) hFc (fun a10_2 t H1 locs ht hvm hw hB hz1 hk1 hS => ?_)
  obtain ⟨hP1, hD1⟩ := hB
  rw [ht] at hP1
  obtain ⟨hP, hD⟩ := va_join (wr := [(h0, .inr (3, [.null, .null, .null])), (y1, .inr (1, [.ref y2, .ref y3, .int 0, .int 0]))]) (w1 := w_ByteRow_init__0 g q5_1 a10_2) hP hD [2] [0, 1] rfl rfl (by decide) (by decide) hk1 hFc hP1 hD1
  generalize H1 = H at hP hS ⊢
  have hP : va_P (gD g) classes [(h0, .inr (3, [.null, .null, .null])), (y1, .inr (1, [.ref y2, .ref y3, .int 0, .int 0])), (q5_1, .inr (9, [.ref (a10_2 0), .int 0])), ((a10_2 0), .inl (gt g 2, 0, .inl (fun _ => 0)))] H := hP
  have hD : va_D A [(h0, .inr (3, [.null, .null, .null])), (y1, .inr (1, [.ref y2, .ref y3, .int 0, .int 0])), (q5_1, .inr (9, [.ref (a10_2 0), .int 0])), ((a10_2 0), .inl (gt g 2, 0, .inl (fun _ => 0)))] := hD
  refine W.widen (k := 2) (n := 2) (Nat.le_of_ble_eq_true rfl) (Nat.le_of_ble_eq_true rfl) ?_
  refine va_putF (v := .ref q5_1) hx hb hts kc_RequestWriter.2.1 t_RequestWriter kc_RequestWriter.2.2.1 kc_RequestWriter.2.2.2 hown hK hP hD hS 0 rfl kc_RequestWriter.1 2 (by decide) (hts _ wf_RequestWriter_12) (fun _ h9 => h9) rfl hin rfl (kc_RequestWriter.2.2.1 2 (by decide)) rfl rfl (Nat.le_of_ble_eq_true rfl) d_RequestWriter_init_13 (fun H locs hP hD hS => ?_)
  have hP : va_P (gD g) classes [(h0, .inr (3, [.null, .null, .ref q5_1])), (y1, .inr (1, [.ref y2, .ref y3, .int 0, .int 0])), (q5_1, .inr (9, [.ref (a10_2 0), .int 0])), ((a10_2 0), .inl (gt g 2, 0, .inl (fun _ => 0)))] H := hP
  have hD : va_D A [(h0, .inr (3, [.null, .null, .ref q5_1])), (y1, .inr (1, [.ref y2, .ref y3, .int 0, .int 0])), (q5_1, .inr (9, [.ref (a10_2 0), .int 0])), ((a10_2 0), .inl (gt g 2, 0, .inl (fun _ => 0)))] := hD
  refine lv_aload_n hx hb d_RequestWriter_init_16 rfl (lv_at hl 0 rfl) ?_
  refine lv_aload_n hx hb d_RequestWriter_init_17 rfl (lv_at hl 1 rfl) ?_
  refine va_putF (v := .ref y1) hx hb hts kc_RequestWriter.2.1 t_RequestWriter kc_RequestWriter.2.2.1 kc_RequestWriter.2.2.2 hown hK hP hD hS 0 rfl kc_RequestWriter.1 0 (by decide) (hts _ wf_RequestWriter_18) (fun _ h9 => h9) rfl hin rfl (kc_RequestWriter.2.2.1 0 (by decide)) rfl rfl (Nat.le_of_ble_eq_true rfl) d_RequestWriter_init_18 (fun H locs hP hD hS => ?_)
  have hP : va_P (gD g) classes [(h0, .inr (3, [.ref y1, .null, .ref q5_1])), (y1, .inr (1, [.ref y2, .ref y3, .int 0, .int 0])), (q5_1, .inr (9, [.ref (a10_2 0), .int 0])), ((a10_2 0), .inl (gt g 2, 0, .inl (fun _ => 0)))] H := hP
  have hD : va_D A [(h0, .inr (3, [.ref y1, .null, .ref q5_1])), (y1, .inr (1, [.ref y2, .ref y3, .int 0, .int 0])), (q5_1, .inr (9, [.ref (a10_2 0), .int 0])), ((a10_2 0), .inl (gt g 2, 0, .inl (fun _ => 0)))] := hD
  refine lv_aload_n hx hb d_RequestWriter_init_21 rfl (lv_at hl 0 rfl) ?_
  refine lv_aload_n hx hb d_RequestWriter_init_22 rfl (lv_at hl 1 rfl) ?_
  refine va_getN (v := .ref y2) hx hb hts kc_Declaration.2.1 hown hK hP 1 rfl kc_Declaration.1 0 (by decide) (va_Nw.use rfl (hN.1 _ nf_RequestWriter_22)) (fun _ h9 => h9) rfl d_RequestWriter_init_23 ?_
  refine va_putF (v := .ref y2) hx hb hts kc_RequestWriter.2.1 t_RequestWriter kc_RequestWriter.2.2.1 kc_RequestWriter.2.2.2 hown hK hP hD hS 0 rfl kc_RequestWriter.1 1 (by decide) (hts _ wf_RequestWriter_28) (fun _ h9 => h9) rfl hin rfl (kc_RequestWriter.2.2.1 1 (by decide)) rfl rfl (Nat.le_of_ble_eq_true rfl) d_RequestWriter_init_26 (fun H locs hP hD hS => ?_)
  have hP : va_P (gD g) classes [(h0, .inr (3, [.ref y1, .ref y2, .ref q5_1])), (y1, .inr (1, [.ref y2, .ref y3, .int 0, .int 0])), (q5_1, .inr (9, [.ref (a10_2 0), .int 0])), ((a10_2 0), .inl (gt g 2, 0, .inl (fun _ => 0)))] H := hP
  have hD : va_D A [(h0, .inr (3, [.ref y1, .ref y2, .ref q5_1])), (y1, .inr (1, [.ref y2, .ref y3, .int 0, .int 0])), (q5_1, .inr (9, [.ref (a10_2 0), .int 0])), ((a10_2 0), .inl (gt g 2, 0, .inl (fun _ => 0)))] := hD
  exact W.vret hx hb hr (fun t ht hW => ⟨⟨(fun i => [q5_1, (a10_2 0)].getD i 0), rfl, trivial, by show va_P _ _ _ _; rw [ht]; exact hP, hD⟩, hS.F ht⟩) hS.2.2 d_RequestWriter_init_29
def w_Reader_restart__c (g : zG) (h0 y1 y2 y3 y4 y5 : Nat) (a : Nat → Nat) : va_W := [(h0, .inr (4, [.ref y1, .ref y2, .ref y3, .int 0, .int 0, .int 0, .int 0])), (y3, .inr (9, [.ref y5, .int 0])), (y1, .inr (5, [.ref y4, .int 0, .int 0])), (y2, .inr (6, [.int 0, .int 0, .int 0, .int (-1), .int 0]))]
set_option maxHeartbeats 4000000 in
set_option maxRecDepth 100000 in
theorem n_Reader_restart__c (l : Launch) (g : zG) (h0 y1 y2 y3 y4 y5 : Nat) (sz : Nat) : Met l y_Reader_restart (mw y_Reader_restart b_Reader_restart 1 none) (rmC 1 0 0) (Pn g [.ref h0] sz [(h0, .inr (4, [.ref y1, .ref y2, .ref y3, .int 0, .int 0, .int 0, .int 0])), (y1, .inr (5, [.ref y4, .int 0, .int 0])), (y2, .inr (6, [.int 0, .int 0, .int 0, .int (-1), .int 0])), (y3, .inr (9, [.ref y5, .int 0]))]) (Qn g sz [(h0, .inr (4, [.ref y1, .ref y2, .ref y3, .int 0, .int 0, .int 0, .int 0])), (y1, .inr (5, [.ref y4, .int 0, .int 0])), (y2, .inr (6, [.int 0, .int 0, .int 0, .int (-1), .int 0])), (y3, .inr (9, [.ref y5, .int 0]))] (w_Reader_restart__c g h0 y1 y2 y3 y4 y5)) 0 0 (va_A [(h0, .inr (4, [.ref y1, .ref y2, .ref y3, .int 0, .int 0, .int 0, .int 0])), (y1, .inr (5, [.ref y4, .int 0, .int 0])), (y2, .inr (6, [.int 0, .int 0, .int 0, .int (-1), .int 0])), (y3, .inr (9, [.ref y5, .int 0]))] sz) := by
  refine Met.ofW (cc := b_Reader_restart) (maxL := 1) (ret := none) (by decide) rfl ?_
  intro p e s m args below meth c s₁ B hml hv
  obtain ⟨rfl, hsz, hP, hSt, hD0⟩ := hv
  have hx := B.exec
  have hb := B.bytes
  have hr := B.returns
  have hts : ∀ w ∈ WS, w.before _ s = true := fun w hw => atoms_spec (ws := mw y_Reader_restart b_Reader_restart 1 none) B.pre w (List.mem_cons_of_mem _ hw)
  have hown : s.vm.findClass R_Reader = some m.cls := findClass_of_methodNamed B.named
  have hlocks := B.notSynchronized
  have hK0 := hSt.1
  have hK := hSt.1
  have hN := hSt.2.1
  have hAO3 := hSt.2.2.1
  have hAO4 := hSt.2.2.2
  subst hsz
  have hD := hD0.self (sz := s.heap.size)
  unfold Qn
  generalize hAe : va_A [(h0, .inr (4, [.ref y1, .ref y2, .ref y3, .int 0, .int 0, .int 0, .int 0])), (y1, .inr (5, [.ref y4, .int 0, .int 0])), (y2, .inr (6, [.int 0, .int 0, .int 0, .int (-1), .int 0])), (y3, .inr (9, [.ref y5, .int 0]))] s.heap.size = A at hD ⊢
  have hA : ∀ q : Nat, s.heap.size ≤ q → A q := fun q h => by rw [← hAe]; exact Or.inr h
  have hS : va_S A s.heap s.heap [] := va_S.rf
  have hl := lv_entry ([.ref h0]) (n := 1) (Nat.le_of_ble_eq_true rfl)
  rw [lg_entry_eq]
  generalize (lg_sl ([.ref h0]) ++ List.replicate (1 - (lg_sl ([.ref h0])).length) Slot.unset).toArray = ls at hl ⊢
  have hl : lv_has ls 1 [(0, .ref h0)] := hl
  have hP : va_P (gD g) classes [(h0, .inr (4, [.ref y1, .ref y2, .ref y3, .int 0, .int 0, .int 0, .int 0])), (y1, .inr (5, [.ref y4, .int 0, .int 0])), (y2, .inr (6, [.int 0, .int 0, .int 0, .int (-1), .int 0])), (y3, .inr (9, [.ref y5, .int 0]))] s.heap := hP
  refine lv_aload_n hx hb d_Reader_restart_0 rfl (lv_at hl 0 rfl) ?_
  refine va_get (v := .ref y1) hx hb hts kc_Reader.2.1 hown hK hP 0 rfl kc_Reader.1 0 (by decide) (hts _ wf_Reader_12) (fun _ h9 => h9) rfl d_Reader_restart_1 ?_
  have hPc := hP.sub (ws' := [(y1, .inr (5, [.ref y4, .int 0, .int 0]))]) [1] rfl
  have hDc := hD.sub (ws' := [(y1, .inr (5, [.ref y4, .int 0, .int 0]))]) [1] (by decide) rfl
  have hFc := va_free (wc := [(y1, .inr (5, [.ref y4, .int 0, .int 0]))]) hD hS hA [1] rfl
  refine va_callv (va_runV (C := R_Line) (As := []) (rest := []) ⟨hx, hb, hml, hown, hts⟩ (n_Line_clear__c l g y1 y4 0 0 _) ⟨callB_of 0 hts (ws_good wc_Line_clear) rfl rfl rfl (hts _ wi_Line_clear.2.2) (hts _ wm_Reader_37) wd_Line_clear ⟨(Nat.le_of_ble_eq_true rfl), (Nat.le_of_ble_eq_true rfl)⟩, hts _ wi_Line_clear.1, hts _ wi_Line_clear.2.1⟩ ⟨Pn_blind, va_recv (q := (R_Line, F_Line, 3)) hK hP kc_Line.1 (q0 := 1) rfl, fun U hU hW => ⟨rfl, by rw [hU], by rw [hU]; exact hPc, hSt.warm hW, hDc.weaken (fun _ _ _ _ => trivial)⟩⟩ rfl rfl hl.1 rfl (lv_room (Nat.le_of_ble_eq_true rfl)) d_Reader_restart_4 ⟨(Nat.le_of_ble_eq_true rfl), (Nat.le_of_ble_eq_true rfl)⟩) hS (fun q _ h => hFc q h) hFc (fun a4_1 t H1 locs ht hvm hw hB hz1 hk1 hS => ?_)
  obtain ⟨hP1, hD1⟩ := hB
  rw [ht] at hP1
  obtain ⟨hP, hD⟩ := va_join (wr := [(h0, .inr (4, [.ref y1, .ref y2, .ref y3, .int 0, .int 0, .int 0, .int 0])), (y2, .inr (6, [.int 0, .int 0, .int 0, .int (-1), .int 0])), (y3, .inr (9, [.ref y5, .int 0]))]) (w1 := w_Line_clear__c g y1 y4 0 0 a4_1) hP hD [1] [0, 2, 3] rfl rfl (by decide) (by decide) hk1 hFc hP1 hD1
  generalize H1 = H at hP hS ⊢
  have hP : va_P (gD g) classes [(h0, .inr (4, [.ref y1, .ref y2, .ref y3, .int 0, .int 0, .int 0, .int 0])), (y2, .inr (6, [.int 0, .int 0, .int 0, .int (-1), .int 0])), (y3, .inr (9, [.ref y5, .int 0])), (y1, .inr (5, [.ref y4, .int 0, .int 0]))] H := hP
  have hD : va_D A [(h0, .inr (4, [.ref y1, .ref y2, .ref y3, .int 0, .int 0, .int 0, .int 0])), (y2, .inr (6, [.int 0, .int 0, .int 0, .int (-1), .int 0])), (y3, .inr (9, [.ref y5, .int 0])), (y1, .inr (5, [.ref y4, .int 0, .int 0]))] := hD
  refine W.widen (k := 0) (n := 0) (Nat.le_of_ble_eq_true rfl) (Nat.le_of_ble_eq_true rfl) ?_
  refine lv_aload_n hx hb d_Reader_restart_7 rfl (lv_at hl 0 rfl) ?_
  refine va_get (v := .ref y2) hx hb hts kc_Reader.2.1 hown hK hP 0 rfl kc_Reader.1 1 (by decide) (hts _ wf_Reader_21) (fun _ h9 => h9) rfl d_Reader_restart_8 ?_
  have hPc := hP.sub (ws' := [(y2, .inr (6, [.int 0, .int 0, .int 0, .int (-1), .int 0]))]) [1] rfl
  have hDc := hD.sub (ws' := [(y2, .inr (6, [.int 0, .int 0, .int 0, .int (-1), .int 0]))]) [1] (by decide) rfl
  have hFc := va_free (wc := [(y2, .inr (6, [.int 0, .int 0, .int 0, .int (-1), .int 0]))]) hD hS hA [1] rfl
  refine va_callv (va_runV (C := R_Head) (As := []) (rest := []) ⟨hx, hb, hml, hown, hts⟩ (n_Head_clear__c l g y2 0 0 0 (-1) 0 _) ⟨callB_of 0 hts (ws_good wc_Head_clear) rfl rfl rfl (hts _ wi_Head_clear.2.2) (hts _ wm_Reader_40) wd_Head_clear ⟨(Nat.le_of_ble_eq_true rfl), (Nat.le_of_ble_eq_true rfl)⟩, hts _ wi_Head_clear.1, hts _ wi_Head_clear.2.1⟩ ⟨Pn_blind, va_recv (q := (R_Head, F_Head, 5)) hK hP kc_Head.1 (q0 := 1) rfl, fun U hU hW => ⟨rfl, by rw [hU], by rw [hU]; exact hPc, hSt.warm hW, hDc.weaken (fun _ _ _ _ => trivial)⟩⟩ rfl rfl hl.1 rfl (lv_room (Nat.le_of_ble_eq_true rfl)) d_Reader_restart_11 ⟨(Nat.le_of_ble_eq_true rfl), (Nat.le_of_ble_eq_true rfl)⟩) hS (fun q _ h => hFc q h) hFc (fun a11_2 t H1 locs ht hvm hw hB hz1 hk1 hS => ?_)
  obtain ⟨hP1, hD1⟩ := hB
  rw [ht] at hP1
  obtain ⟨hP, hD⟩ := va_join (wr := [(h0, .inr (4, [.ref y1, .ref y2, .ref y3, .int 0, .int 0, .int 0, .int 0])), (y3, .inr (9, [.ref y5, .int 0])), (y1, .inr (5, [.ref y4, .int 0, .int 0]))]) (w1 := w_Head_clear__c g y2 0 0 0 (-1) 0 a11_2) hP hD [1] [0, 2, 3] rfl rfl (by decide) (by decide) hk1 hFc hP1 hD1
  generalize H1 = H at hP hS ⊢
  have hP : va_P (gD g) classes [(h0, .inr (4, [.ref y1, .ref y2, .ref y3, .int 0, .int 0, .int 0, .int 0])), (y3, .inr (9, [.ref y5, .int 0])), (y1, .inr (5, [.ref y4, .int 0, .int 0])), (y2, .inr (6, [.int 0, .int 0, .int 0, .int (-1), .int 0]))] H := hP
  have hD : va_D A [(h0, .inr (4, [.ref y1, .ref y2, .ref y3, .int 0, .int 0, .int 0, .int 0])), (y3, .inr (9, [.ref y5, .int 0])), (y1, .inr (5, [.ref y4, .int 0, .int 0])), (y2, .inr (6, [.int 0, .int 0, .int 0, .int (-1), .int 0]))] := hD
  refine W.widen (k := 0) (n := 0) (Nat.le_of_ble_eq_true rfl) (Nat.le_of_ble_eq_true rfl) ?_
  refine lv_aload_n hx hb d_Reader_restart_14 rfl (lv_at hl 0 rfl) ?_
  refine va_get (v := .ref y3) hx hb hts kc_Reader.2.1 hown hK hP 0 rfl kc_Reader.1 2 (by decide) (hts _ wf_Reader_30) (fun _ h9 => h9) rfl d_Reader_restart_15 ?_
  refine lv_iconst (v := 0) hx hb d_Reader_restart_18 (by decide) ?_
  refine va_putN (v := .int 0) hx hb hts kc_ByteRow.2.1 t_ByteRow kc_ByteRow.2.2.1 kc_ByteRow.2.2.2 hown hK hP hD hS 1 rfl kc_ByteRow.1 1 (by decide) (va_Nw.use rfl (hN.1 _ nf_Reader_41)) (fun _ h9 => h9) rfl (kc_ByteRow.2.2.1 1 (by decide)) rfl rfl (Nat.le_of_ble_eq_true rfl) d_Reader_restart_19 (fun H locs hP hD hS => ?_)
  have hP : va_P (gD g) classes [(h0, .inr (4, [.ref y1, .ref y2, .ref y3, .int 0, .int 0, .int 0, .int 0])), (y3, .inr (9, [.ref y5, .int 0])), (y1, .inr (5, [.ref y4, .int 0, .int 0])), (y2, .inr (6, [.int 0, .int 0, .int 0, .int (-1), .int 0]))] H := hP
  have hD : va_D A [(h0, .inr (4, [.ref y1, .ref y2, .ref y3, .int 0, .int 0, .int 0, .int 0])), (y3, .inr (9, [.ref y5, .int 0])), (y1, .inr (5, [.ref y4, .int 0, .int 0])), (y2, .inr (6, [.int 0, .int 0, .int 0, .int (-1), .int 0]))] := hD
  refine lv_aload_n hx hb d_Reader_restart_22 rfl (lv_at hl 0 rfl) ?_
  refine lv_iconst (v := 0) hx hb d_Reader_restart_23 (by decide) ?_
  refine va_put (v := .int 0) hx hb hts kc_Reader.2.1 t_Reader kc_Reader.2.2.1 kc_Reader.2.2.2 hown hK hP hD hS 0 rfl kc_Reader.1 3 (by decide) (hts _ wf_Reader_45) (fun _ h9 => h9) rfl (kc_Reader.2.2.1 3 (by decide)) rfl rfl (Nat.le_of_ble_eq_true rfl) d_Reader_restart_24 (fun H locs hP hD hS => ?_)
  have hP : va_P (gD g) classes [(h0, .inr (4, [.ref y1, .ref y2, .ref y3, .int 0, .int 0, .int 0, .int 0])), (y3, .inr (9, [.ref y5, .int 0])), (y1, .inr (5, [.ref y4, .int 0, .int 0])), (y2, .inr (6, [.int 0, .int 0, .int 0, .int (-1), .int 0]))] H := hP
  have hD : va_D A [(h0, .inr (4, [.ref y1, .ref y2, .ref y3, .int 0, .int 0, .int 0, .int 0])), (y3, .inr (9, [.ref y5, .int 0])), (y1, .inr (5, [.ref y4, .int 0, .int 0])), (y2, .inr (6, [.int 0, .int 0, .int 0, .int (-1), .int 0]))] := hD
  refine lv_aload_n hx hb d_Reader_restart_27 rfl (lv_at hl 0 rfl) ?_
  refine lv_iconst (v := 0) hx hb d_Reader_restart_28 (by decide) ?_
  refine va_put (v := .int 0) hx hb hts kc_Reader.2.1 t_Reader kc_Reader.2.2.1 kc_Reader.2.2.2 hown hK hP hD hS 0 rfl kc_Reader.1 4 (by decide) (hts _ wf_Reader_48) (fun _ h9 => h9) rfl (kc_Reader.2.2.1 4 (by decide)) rfl rfl (Nat.le_of_ble_eq_true rfl) d_Reader_restart_29 (fun H locs hP hD hS => ?_)
  have hP : va_P (gD g) classes [(h0, .inr (4, [.ref y1, .ref y2, .ref y3, .int 0, .int 0, .int 0, .int 0])), (y3, .inr (9, [.ref y5, .int 0])), (y1, .inr (5, [.ref y4, .int 0, .int 0])), (y2, .inr (6, [.int 0, .int 0, .int 0, .int (-1), .int 0]))] H := hP
  have hD : va_D A [(h0, .inr (4, [.ref y1, .ref y2, .ref y3, .int 0, .int 0, .int 0, .int 0])), (y3, .inr (9, [.ref y5, .int 0])), (y1, .inr (5, [.ref y4, .int 0, .int 0])), (y2, .inr (6, [.int 0, .int 0, .int 0, .int (-1), .int 0]))] := hD
  refine lv_aload_n hx hb d_Reader_restart_32 rfl (lv_at hl 0 rfl) ?_
  refine lv_iconst (v := 0) hx hb d_Reader_restart_33 (by decide) ?_
  refine va_put (v := .int 0) hx hb hts kc_Reader.2.1 t_Reader kc_Reader.2.2.1 kc_Reader.2.2.2 hown hK hP hD hS 0 rfl kc_Reader.1 5 (by decide) (hts _ wf_Reader_51) (fun _ h9 => h9) rfl (kc_Reader.2.2.1 5 (by decide)) rfl rfl (Nat.le_of_ble_eq_true rfl) d_Reader_restart_34 (fun H locs hP hD hS => ?_)
  have hP : va_P (gD g) classes [(h0, .inr (4, [.ref y1, .ref y2, .ref y3, .int 0, .int 0, .int 0, .int 0])), (y3, .inr (9, [.ref y5, .int 0])), (y1, .inr (5, [.ref y4, .int 0, .int 0])), (y2, .inr (6, [.int 0, .int 0, .int 0, .int (-1), .int 0]))] H := hP
  have hD : va_D A [(h0, .inr (4, [.ref y1, .ref y2, .ref y3, .int 0, .int 0, .int 0, .int 0])), (y3, .inr (9, [.ref y5, .int 0])), (y1, .inr (5, [.ref y4, .int 0, .int 0])), (y2, .inr (6, [.int 0, .int 0, .int 0, .int (-1), .int 0]))] := hD
  refine lv_aload_n hx hb d_Reader_restart_37 rfl (lv_at hl 0 rfl) ?_
  refine lv_iconst (v := 0) hx hb d_Reader_restart_38 (by decide) ?_
  refine va_put (v := .int 0) hx hb hts kc_Reader.2.1 t_Reader kc_Reader.2.2.1 kc_Reader.2.2.2 hown hK hP hD hS 0 rfl kc_Reader.1 6 (by decide) (hts _ wf_Reader_54) (fun _ h9 => h9) rfl (kc_Reader.2.2.1 6 (by decide)) rfl rfl (Nat.le_of_ble_eq_true rfl) d_Reader_restart_39 (fun H locs hP hD hS => ?_)
  have hP : va_P (gD g) classes [(h0, .inr (4, [.ref y1, .ref y2, .ref y3, .int 0, .int 0, .int 0, .int 0])), (y3, .inr (9, [.ref y5, .int 0])), (y1, .inr (5, [.ref y4, .int 0, .int 0])), (y2, .inr (6, [.int 0, .int 0, .int 0, .int (-1), .int 0]))] H := hP
  have hD : va_D A [(h0, .inr (4, [.ref y1, .ref y2, .ref y3, .int 0, .int 0, .int 0, .int 0])), (y3, .inr (9, [.ref y5, .int 0])), (y1, .inr (5, [.ref y4, .int 0, .int 0])), (y2, .inr (6, [.int 0, .int 0, .int 0, .int (-1), .int 0]))] := hD
  exact W.vret hx hb hr (fun t ht hW => ⟨⟨(fun i => [].getD i 0), rfl, trivial, by show va_P _ _ _ _; rw [ht]; exact hP, hD⟩, hS.F ht⟩) hS.2.2 d_Reader_restart_42
theorem d_Reader_init_0 : decode b_Reader_init 0 = .ok (.aload_n 0, 1) := by decide +kernel
theorem d_Reader_init_1 : decode b_Reader_init 1 = .ok (.invokespecial 3, 3) := by decide +kernel
theorem d_Reader_init_4 : decode b_Reader_init 4 = .ok (.aload_n 0, 1) := by decide +kernel
theorem d_Reader_init_5 : decode b_Reader_init 5 = .ok (.new 9, 3) := by decide +kernel
theorem d_Reader_init_8 : decode b_Reader_init 8 = .ok (.dup, 1) := by decide +kernel
theorem d_Reader_init_9 : decode b_Reader_init 9 = .ok (.invokespecial 11, 3) := by decide +kernel
theorem d_Reader_init_12 : decode b_Reader_init 12 = .ok (.putfield 12, 3) := by decide +kernel
theorem d_Reader_init_15 : decode b_Reader_init 15 = .ok (.aload_n 0, 1) := by decide +kernel
theorem d_Reader_init_16 : decode b_Reader_init 16 = .ok (.new 18, 3) := by decide +kernel
theorem d_Reader_init_19 : decode b_Reader_init 19 = .ok (.dup, 1) := by decide +kernel
theorem d_Reader_init_20 : decode b_Reader_init 20 = .ok (.invokespecial 20, 3) := by decide +kernel
theorem d_Reader_init_23 : decode b_Reader_init 23 = .ok (.putfield 21, 3) := by decide +kernel
theorem d_Reader_init_26 : decode b_Reader_init 26 = .ok (.aload_n 0, 1) := by decide +kernel
theorem d_Reader_init_27 : decode b_Reader_init 27 = .ok (.new 25, 3) := by decide +kernel
theorem d_Reader_init_30 : decode b_Reader_init 30 = .ok (.dup, 1) := by decide +kernel
theorem d_Reader_init_31 : decode b_Reader_init 31 = .ok (.bipush 120, 2) := by decide +kernel
theorem d_Reader_init_33 : decode b_Reader_init 33 = .ok (.invokespecial 27, 3) := by decide +kernel
theorem d_Reader_init_36 : decode b_Reader_init 36 = .ok (.putfield 30, 3) := by decide +kernel
theorem d_Reader_init_39 : decode b_Reader_init 39 = .ok (.aload_n 0, 1) := by decide +kernel
theorem d_Reader_init_40 : decode b_Reader_init 40 = .ok (.invokevirtual 34, 3) := by decide +kernel
theorem d_Reader_init_43 : decode b_Reader_init 43 = .ok (.return_, 1) := by decide +kernel
def w_Reader_init (g : zG) (h0 : Nat) (a : Nat → Nat) : va_W := [((a 0), .inl (gt g 1, 60, .inl (fun _ => 0))), ((a 1), .inl (gt g 2, 120, .inl (fun _ => 0))), (h0, .inr (4, [.ref (a 3), .ref (a 4), .ref (a 2), .int 0, .int 0, .int 0, .int 0])), ((a 2), .inr (9, [.ref (a 1), .int 0])), ((a 3), .inr (5, [.ref (a 0), .int 0, .int 0])), ((a 4), .inr (6, [.int 0, .int 0, .int 0, .int (-1), .int 0]))]
set_option maxHeartbeats 4000000 in
set_option maxRecDepth 100000 in
theorem n_Reader_init (l : Launch) (g : zG) (h0 : Nat) (sz : Nat) : Met l y_Reader_init (mw y_Reader_init b_Reader_init 1 none) (rmC 2 5 190) (Pn g [.ref h0] sz [(h0, .inr (4, [.null, .null, .null, .int 0, .int 0, .int 0, .int 0]))]) (Qn g sz [(h0, .inr (4, [.null, .null, .null, .int 0, .int 0, .int 0, .int 0]))] (w_Reader_init g h0)) 5 190 (va_A [(h0, .inr (4, [.null, .null, .null, .int 0, .int 0, .int 0, .int 0]))] sz) := by
  refine Met.ofW (cc := b_Reader_init) (maxL := 1) (ret := none) (by decide) rfl ?_
  intro p e s m args below meth c s₁ B hml hv
  obtain ⟨rfl, hsz, hP, hSt, hD0⟩ := hv
  have hx := B.exec
  have hb := B.bytes
  have hr := B.returns
  have hts : ∀ w ∈ WS, w.before _ s = true := fun w hw => atoms_spec (ws := mw y_Reader_init b_Reader_init 1 none) B.pre w (List.mem_cons_of_mem _ hw)
  have hown : s.vm.findClass R_Reader = some m.cls := findClass_of_methodNamed B.named
  have hlocks := B.notSynchronized
  have hin := (name_of_methodNamed B.named B.method).1
  have hK := hSt.1
  have hN := hSt.2.1
  have hAO3 := hSt.2.2.1
  have hAO4 := hSt.2.2.2
  subst hsz
  have hD := hD0.self (sz := s.heap.size)
  unfold Qn
  generalize hAe : va_A [(h0, .inr (4, [.null, .null, .null, .int 0, .int 0, .int 0, .int 0]))] s.heap.size = A at hD ⊢
  have hA : ∀ q : Nat, s.heap.size ≤ q → A q := fun q h => by rw [← hAe]; exact Or.inr h
  have hS : va_S A s.heap s.heap [] := va_S.rf
  have hl := lv_entry ([.ref h0]) (n := 1) (Nat.le_of_ble_eq_true rfl)
  rw [lg_entry_eq]
  generalize (lg_sl ([.ref h0]) ++ List.replicate (1 - (lg_sl ([.ref h0])).length) Slot.unset).toArray = ls at hl ⊢
  have hl : lv_has ls 1 [(0, .ref h0)] := hl
  have hP : va_P (gD g) classes [(h0, .inr (4, [.null, .null, .null, .int 0, .int 0, .int 0, .int 0]))] s.heap := hP
  refine lv_aload_n hx hb d_Reader_init_0 rfl (lv_at hl 0 rfl) ?_
  refine W.objInit hx hb hown (hts _ wm_Reader_3) (hts _ wi_Obj) (hts _ wc_Obj) rfl (by rw [hml]; exact hl.1) rfl d_Reader_init_1 (Nat.le_of_ble_eq_true rfl) (Nat.le_of_ble_eq_true rfl) ?_
  refine W.eq (g2 := F0 m 4 ls []) rfl ?_
  refine lv_aload_n hx hb d_Reader_init_4 rfl (lv_at hl 0 rfl) ?_
  refine va_new (ci := 5) (fs := [.null, .int 0, .int 0]) (C := R_Line) (T := F_Line) (N := 3) hx hb hts kc_Line.2.1 t_Line kc_Line.2.2.1 hown (hts _ wl_c_Reader_9) (hts _ win_Line) (hts _ wz_Line) hK hP hD hS hA kc_Line.1 (fun j hj => by rcases (show j = 0 ∨ j = 1 ∨ j = 2 by omega) with rfl | rfl | rfl <;> rfl) (Nat.le_of_ble_eq_true rfl) (Nat.le_of_ble_eq_true rfl) d_Reader_init_5 (fun q5_1 H hP hD hS => ?_)
  have hP : va_P (gD g) classes [(h0, .inr (4, [.null, .null, .null, .int 0, .int 0, .int 0, .int 0])), (q5_1, .inr (5, [.null, .int 0, .int 0]))] H := hP
  have hD : va_D A [(h0, .inr (4, [.null, .null, .null, .int 0, .int 0, .int 0, .int 0])), (q5_1, .inr (5, [.null, .int 0, .int 0]))] := hD
  refine W.widen (k := 1) (n := 3) (Nat.le_of_ble_eq_true rfl) (Nat.le_of_ble_eq_true rfl) ?_
  refine lv_dup hx hb d_Reader_init_8 rfl ?_
  have hPc := hP.sub (ws' := [(q5_1, .inr (5, [.null, .int 0, .int 0]))]) [1] rfl
  have hDc := hD.sub (ws' := [(q5_1, .inr (5, [.null, .int 0, .int 0]))]) [1] (by decide) rfl
  have hFc := va_free (wc := [(q5_1, .inr (5, [.null, .int 0, .int 0]))]) hD hS hA [1] rfl
  refine va_callv (va_runIN (As := []) (rest := [.ref q5_1, .ref h0]) ⟨hx, hb, hml, hown, hts⟩ (n_Line_init l g q5_1 _) ⟨va_cnB 0 hts (ws_good wc_Line_init) rfl rfl rfl (hN.2 _ nm_Reader_11) (hts _ wz_Line) wd_Line_init ⟨(Nat.le_of_ble_eq_true rfl), (Nat.le_of_ble_eq_true rfl)⟩, rfl, hts _ wi_Line_init⟩ ⟨Pn_blind, fun U hU hW => ⟨rfl, by rw [hU], by rw [hU]; exact hPc, hSt.warm hW, hDc.weaken (fun _ _ _ _ => trivial)⟩⟩ rfl rfl hl.1 rfl (lv_room (Nat.le_of_ble_eq_true rfl)) d_Reader_init_9 ⟨(Nat.le_of_ble_eq_true rfl), (Nat.le_of_ble_eq_true rfl)⟩) hS (fun q _ h => hFc q h) hFc (fun a9_2 t H1 locs ht hvm hw hB hz1 hk1 hS => ?_)
  obtain ⟨hP1, hD1⟩ := hB
  rw [ht] at hP1
  obtain ⟨hP, hD⟩ := va_join (wr := [(h0, .inr (4, [.null, .null, .null, .int 0, .int 0, .int 0, .int 0]))]) (w1 := w_Line_init g q5_1 a9_2) hP hD [1] [0] rfl rfl (by decide) (by decide) hk1 hFc hP1 hD1
  generalize H1 = H at hP hS ⊢
  have hP : va_P (gD g) classes [(h0, .inr (4, [.null, .null, .null, .int 0, .int 0, .int 0, .int 0])), (q5_1, .inr (5, [.ref (a9_2 0), .int 0, .int 0])), ((a9_2 0), .inl (gt g 1, 60, .inl (fun _ => 0)))] H := hP
  have hD : va_D A [(h0, .inr (4, [.null, .null, .null, .int 0, .int 0, .int 0, .int 0])), (q5_1, .inr (5, [.ref (a9_2 0), .int 0, .int 0])), ((a9_2 0), .inl (gt g 1, 60, .inl (fun _ => 0)))] := hD
  refine W.widen (k := 2) (n := 63) (Nat.le_of_ble_eq_true rfl) (Nat.le_of_ble_eq_true rfl) ?_
  refine va_putF (v := .ref q5_1) hx hb hts kc_Reader.2.1 t_Reader kc_Reader.2.2.1 kc_Reader.2.2.2 hown hK hP hD hS 0 rfl kc_Reader.1 0 (by decide) (hts _ wf_Reader_12) (fun _ h9 => h9) rfl hin rfl (kc_Reader.2.2.1 0 (by decide)) rfl rfl (Nat.le_of_ble_eq_true rfl) d_Reader_init_12 (fun H locs hP hD hS => ?_)
  have hP : va_P (gD g) classes [(h0, .inr (4, [.ref q5_1, .null, .null, .int 0, .int 0, .int 0, .int 0])), (q5_1, .inr (5, [.ref (a9_2 0), .int 0, .int 0])), ((a9_2 0), .inl (gt g 1, 60, .inl (fun _ => 0)))] H := hP
  have hD : va_D A [(h0, .inr (4, [.ref q5_1, .null, .null, .int 0, .int 0, .int 0, .int 0])), (q5_1, .inr (5, [.ref (a9_2 0), .int 0, .int 0])), ((a9_2 0), .inl (gt g 1, 60, .inl (fun _ => 0)))] := hD
  refine lv_aload_n hx hb d_Reader_init_15 rfl (lv_at hl 0 rfl) ?_
  refine va_new (ci := 6) (fs := [.int 0, .int 0, .int 0, .int 0, .int 0]) (C := R_Head) (T := F_Head) (N := 5) hx hb hts kc_Head.2.1 t_Head kc_Head.2.2.1 hown (hts _ wl_c_Reader_18) (hts _ win_Head) (hts _ wz_Head) hK hP hD hS hA kc_Head.1 (fun j hj => by rcases (show j = 0 ∨ j = 1 ∨ j = 2 ∨ j = 3 ∨ j = 4 by omega) with rfl | rfl | rfl | rfl | rfl <;> rfl) (Nat.le_of_ble_eq_true rfl) (Nat.le_of_ble_eq_true rfl) d_Reader_init_16 (fun q16_3 H hP hD hS => ?_)
  have hP : va_P (gD g) classes [(h0, .inr (4, [.ref q5_1, .null, .null, .int 0, .int 0, .int 0, .int 0])), (q5_1, .inr (5, [.ref (a9_2 0), .int 0, .int 0])), ((a9_2 0), .inl (gt g 1, 60, .inl (fun _ => 0))), (q16_3, .inr (6, [.int 0, .int 0, .int 0, .int 0, .int 0]))] H := hP
  have hD : va_D A [(h0, .inr (4, [.ref q5_1, .null, .null, .int 0, .int 0, .int 0, .int 0])), (q5_1, .inr (5, [.ref (a9_2 0), .int 0, .int 0])), ((a9_2 0), .inl (gt g 1, 60, .inl (fun _ => 0))), (q16_3, .inr (6, [.int 0, .int 0, .int 0, .int 0, .int 0]))] := hD
  refine W.widen (k := 3) (n := 68) (Nat.le_of_ble_eq_true rfl) (Nat.le_of_ble_eq_true rfl) ?_
  refine lv_dup hx hb d_Reader_init_19 rfl ?_
  have hPc := hP.sub (ws' := [(q16_3, .inr (6, [.int 0, .int 0, .int 0, .int 0, .int 0]))]) [3] rfl
  have hDc := hD.sub (ws' := [(q16_3, .inr (6, [.int 0, .int 0, .int 0, .int 0, .int 0]))]) [3] (by decide) rfl
  have hFc := va_free (wc := [(q16_3, .inr (6, [.int 0, .int 0, .int 0, .int 0, .int 0]))]) hD hS hA [3] rfl
  refine va_callv (va_runI (As := []) (rest := [.ref q16_3, .ref h0]) ⟨hx, hb, hml, hown, hts⟩ (n_Head_init l g q16_3 _) (cwI 0 hts (ws_good wc_Head_init) rfl rfl rfl (hts _ wz_Head) (hts _ wm_Reader_20) (hts _ wi_Head_init) rfl wd_Head_init ⟨(Nat.le_of_ble_eq_true rfl), (Nat.le_of_ble_eq_true rfl)⟩) ⟨Pn_blind, fun U hU hW => ⟨rfl, by rw [hU], by rw [hU]; exact hPc, hSt.warm hW, hDc.weaken (fun _ _ _ _ => trivial)⟩⟩ rfl rfl hl.1 rfl (lv_room (Nat.le_of_ble_eq_true rfl)) d_Reader_init_20 ⟨(Nat.le_of_ble_eq_true rfl), (Nat.le_of_ble_eq_true rfl)⟩) hS (fun q _ h => hFc q h) hFc (fun a20_4 t H1 locs ht hvm hw hB hz1 hk1 hS => ?_)
  obtain ⟨hP1, hD1⟩ := hB
  rw [ht] at hP1
  obtain ⟨hP, hD⟩ := va_join (wr := [(h0, .inr (4, [.ref q5_1, .null, .null, .int 0, .int 0, .int 0, .int 0])), (q5_1, .inr (5, [.ref (a9_2 0), .int 0, .int 0])), ((a9_2 0), .inl (gt g 1, 60, .inl (fun _ => 0)))]) (w1 := w_Head_init g q16_3 a20_4) hP hD [3] [0, 1, 2] rfl rfl (by decide) (by decide) hk1 hFc hP1 hD1
  generalize H1 = H at hP hS ⊢
  have hP : va_P (gD g) classes [(h0, .inr (4, [.ref q5_1, .null, .null, .int 0, .int 0, .int 0, .int 0])), (q5_1, .inr (5, [.ref (a9_2 0), .int 0, .int 0])), ((a9_2 0), .inl (gt g 1, 60, .inl (fun _ => 0))), (q16_3, .inr (6, [.int 0, .int 0, .int 0, .int (-1), .int 0]))] H := hP
  have hD : va_D A [(h0, .inr (4, [.ref q5_1, .null, .null, .int 0, .int 0, .int 0, .int 0])), (q5_1, .inr (5, [.ref (a9_2 0), .int 0, .int 0])), ((a9_2 0), .inl (gt g 1, 60, .inl (fun _ => 0))), (q16_3, .inr (6, [.int 0, .int 0, .int 0, .int (-1), .int 0]))] := hD
  refine W.widen (k := 3) (n := 68) (Nat.le_of_ble_eq_true rfl) (Nat.le_of_ble_eq_true rfl) ?_
  refine va_putF (v := .ref q16_3) hx hb hts kc_Reader.2.1 t_Reader kc_Reader.2.2.1 kc_Reader.2.2.2 hown hK hP hD hS 0 rfl kc_Reader.1 1 (by decide) (hts _ wf_Reader_21) (fun _ h9 => h9) rfl hin rfl (kc_Reader.2.2.1 1 (by decide)) rfl rfl (Nat.le_of_ble_eq_true rfl) d_Reader_init_23 (fun H locs hP hD hS => ?_)
  have hP : va_P (gD g) classes [(h0, .inr (4, [.ref q5_1, .ref q16_3, .null, .int 0, .int 0, .int 0, .int 0])), (q5_1, .inr (5, [.ref (a9_2 0), .int 0, .int 0])), ((a9_2 0), .inl (gt g 1, 60, .inl (fun _ => 0))), (q16_3, .inr (6, [.int 0, .int 0, .int 0, .int (-1), .int 0]))] H := hP
  have hD : va_D A [(h0, .inr (4, [.ref q5_1, .ref q16_3, .null, .int 0, .int 0, .int 0, .int 0])), (q5_1, .inr (5, [.ref (a9_2 0), .int 0, .int 0])), ((a9_2 0), .inl (gt g 1, 60, .inl (fun _ => 0))), (q16_3, .inr (6, [.int 0, .int 0, .int 0, .int (-1), .int 0]))] := hD
  refine lv_aload_n hx hb d_Reader_init_26 rfl (lv_at hl 0 rfl) ?_
  refine va_new (ci := 9) (fs := [.null, .int 0]) (C := R_ByteRow) (T := F_ByteRow) (N := 2) hx hb hts kc_ByteRow.2.1 t_ByteRow kc_ByteRow.2.2.1 hown (hts _ wl_c_Reader_25) (hts _ win_ByteRow) (hts _ wz_ByteRow) hK hP hD hS hA kc_ByteRow.1 (fun j hj => by rcases (show j = 0 ∨ j = 1 by omega) with rfl | rfl <;> rfl) (Nat.le_of_ble_eq_true rfl) (Nat.le_of_ble_eq_true rfl) d_Reader_init_27 (fun q27_5 H hP hD hS => ?_)
  have hP : va_P (gD g) classes [(h0, .inr (4, [.ref q5_1, .ref q16_3, .null, .int 0, .int 0, .int 0, .int 0])), (q5_1, .inr (5, [.ref (a9_2 0), .int 0, .int 0])), ((a9_2 0), .inl (gt g 1, 60, .inl (fun _ => 0))), (q16_3, .inr (6, [.int 0, .int 0, .int 0, .int (-1), .int 0])), (q27_5, .inr (9, [.null, .int 0]))] H := hP
  have hD : va_D A [(h0, .inr (4, [.ref q5_1, .ref q16_3, .null, .int 0, .int 0, .int 0, .int 0])), (q5_1, .inr (5, [.ref (a9_2 0), .int 0, .int 0])), ((a9_2 0), .inl (gt g 1, 60, .inl (fun _ => 0))), (q16_3, .inr (6, [.int 0, .int 0, .int 0, .int (-1), .int 0])), (q27_5, .inr (9, [.null, .int 0]))] := hD
  refine W.widen (k := 4) (n := 70) (Nat.le_of_ble_eq_true rfl) (Nat.le_of_ble_eq_true rfl) ?_
  refine lv_dup hx hb d_Reader_init_30 rfl ?_
  refine lv_bipush (v := 120) hx hb d_Reader_init_31 (by decide) ?_
  have hPc := hP.sub (ws' := [(q27_5, .inr (9, [.null, .int 0]))]) [4] rfl
  have hDc := hD.sub (ws' := [(q27_5, .inr (9, [.null, .int 0]))]) [4] (by decide) rfl
  have hFc := va_free (wc := [(q27_5, .inr (9, [.null, .int 0]))]) hD hS hA [4] rfl
  refine va_callv (va_runI (As := [.int 120]) (rest := [.ref q27_5, .ref h0]) ⟨hx, hb, hml, hown, hts⟩ (n_ByteRow_init__120 l g q27_5 _) (cwI 1 hts (ws_good wc_ByteRow_init) rfl rfl rfl (hts _ wz_ByteRow) (hts _ wm_Reader_27) (hts _ wi_ByteRow_init) rfl wd_ByteRow_init ⟨(Nat.le_of_ble_eq_true rfl), (Nat.le_of_ble_eq_true rfl)⟩) ⟨Pn_blind, fun U hU hW => ⟨rfl, by rw [hU], by rw [hU]; exact hPc, hSt.warm hW, hDc.weaken (fun _ _ _ _ => trivial)⟩⟩ rfl rfl hl.1 rfl (lv_room (Nat.le_of_ble_eq_true rfl)) d_Reader_init_33 ⟨(Nat.le_of_ble_eq_true rfl), (Nat.le_of_ble_eq_true rfl)⟩) hS (fun q _ h => hFc q h) hFc (fun a33_6 t H1 locs ht hvm hw hB hz1 hk1 hS => ?_)
  obtain ⟨hP1, hD1⟩ := hB
  rw [ht] at hP1
  obtain ⟨hP, hD⟩ := va_join (wr := [(h0, .inr (4, [.ref q5_1, .ref q16_3, .null, .int 0, .int 0, .int 0, .int 0])), (q5_1, .inr (5, [.ref (a9_2 0), .int 0, .int 0])), ((a9_2 0), .inl (gt g 1, 60, .inl (fun _ => 0))), (q16_3, .inr (6, [.int 0, .int 0, .int 0, .int (-1), .int 0]))]) (w1 := w_ByteRow_init__120 g q27_5 a33_6) hP hD [4] [0, 1, 2, 3] rfl rfl (by decide) (by decide) hk1 hFc hP1 hD1
  generalize H1 = H at hP hS ⊢
  have hP : va_P (gD g) classes [(h0, .inr (4, [.ref q5_1, .ref q16_3, .null, .int 0, .int 0, .int 0, .int 0])), (q5_1, .inr (5, [.ref (a9_2 0), .int 0, .int 0])), ((a9_2 0), .inl (gt g 1, 60, .inl (fun _ => 0))), (q16_3, .inr (6, [.int 0, .int 0, .int 0, .int (-1), .int 0])), (q27_5, .inr (9, [.ref (a33_6 0), .int 0])), ((a33_6 0), .inl (gt g 2, 120, .inl (fun _ => 0)))] H := hP
  have hD : va_D A [(h0, .inr (4, [.ref q5_1, .ref q16_3, .null, .int 0, .int 0, .int 0, .int 0])), (q5_1, .inr (5, [.ref (a9_2 0), .int 0, .int 0])), ((a9_2 0), .inl (gt g 1, 60, .inl (fun _ => 0))), (q16_3, .inr (6, [.int 0, .int 0, .int 0, .int (-1), .int 0])), (q27_5, .inr (9, [.ref (a33_6 0), .int 0])), ((a33_6 0), .inl (gt g 2, 120, .inl (fun _ => 0)))] := hD
  refine W.widen (k := 5) (n := 190) (Nat.le_of_ble_eq_true rfl) (Nat.le_of_ble_eq_true rfl) ?_
  refine va_putF (v := .ref q27_5) hx hb hts kc_Reader.2.1 t_Reader kc_Reader.2.2.1 kc_Reader.2.2.2 hown hK hP hD hS 0 rfl kc_Reader.1 2 (by decide) (hts _ wf_Reader_30) (fun _ h9 => h9) rfl hin rfl (kc_Reader.2.2.1 2 (by decide)) rfl rfl (Nat.le_of_ble_eq_true rfl) d_Reader_init_36 (fun H locs hP hD hS => ?_)
  have hP : va_P (gD g) classes [(h0, .inr (4, [.ref q5_1, .ref q16_3, .ref q27_5, .int 0, .int 0, .int 0, .int 0])), (q5_1, .inr (5, [.ref (a9_2 0), .int 0, .int 0])), ((a9_2 0), .inl (gt g 1, 60, .inl (fun _ => 0))), (q16_3, .inr (6, [.int 0, .int 0, .int 0, .int (-1), .int 0])), (q27_5, .inr (9, [.ref (a33_6 0), .int 0])), ((a33_6 0), .inl (gt g 2, 120, .inl (fun _ => 0)))] H := hP
  have hD : va_D A [(h0, .inr (4, [.ref q5_1, .ref q16_3, .ref q27_5, .int 0, .int 0, .int 0, .int 0])), (q5_1, .inr (5, [.ref (a9_2 0), .int 0, .int 0])), ((a9_2 0), .inl (gt g 1, 60, .inl (fun _ => 0))), (q16_3, .inr (6, [.int 0, .int 0, .int 0, .int (-1), .int 0])), (q27_5, .inr (9, [.ref (a33_6 0), .int 0])), ((a33_6 0), .inl (gt g 2, 120, .inl (fun _ => 0)))] := hD
  refine lv_aload_n hx hb d_Reader_init_39 rfl (lv_at hl 0 rfl) ?_
  have hPc := hP.sub (ws' := [(h0, .inr (4, [.ref q5_1, .ref q16_3, .ref q27_5, .int 0, .int 0, .int 0, .int 0])), (q5_1, .inr (5, [.ref (a9_2 0), .int 0, .int 0])), (q16_3, .inr (6, [.int 0, .int 0, .int 0, .int (-1), .int 0])), (q27_5, .inr (9, [.ref (a33_6 0), .int 0]))]) [0, 1, 3, 4] rfl
  have hDc := hD.sub (ws' := [(h0, .inr (4, [.ref q5_1, .ref q16_3, .ref q27_5, .int 0, .int 0, .int 0, .int 0])), (q5_1, .inr (5, [.ref (a9_2 0), .int 0, .int 0])), (q16_3, .inr (6, [.int 0, .int 0, .int 0, .int (-1), .int 0])), (q27_5, .inr (9, [.ref (a33_6 0), .int 0]))]) [0, 1, 3, 4] (by decide) rfl
  have hFc := va_free (wc := [(h0, .inr (4, [.ref q5_1, .ref q16_3, .ref q27_5, .int 0, .int 0, .int 0, .int 0])), (q5_1, .inr (5, [.ref (a9_2 0), .int 0, .int 0])), (q16_3, .inr (6, [.int 0, .int 0, .int 0, .int (-1), .int 0])), (q27_5, .inr (9, [.ref (a33_6 0), .int 0]))]) hD hS hA [0, 1, 3, 4] rfl
  refine va_callv (va_runV (C := R_Reader) (As := []) (rest := []) ⟨hx, hb, hml, hown, hts⟩ (n_Reader_restart__c l g h0 q5_1 q16_3 q27_5 (a9_2 0) (a33_6 0) _) ⟨callB_of 0 hts (ws_good wc_Reader_restart) rfl rfl rfl (hts _ wi_Reader_restart.2.2) (hts _ wm_Reader_34) wd_Reader_restart ⟨(Nat.le_of_ble_eq_true rfl), (Nat.le_of_ble_eq_true rfl)⟩, hts _ wi_Reader_restart.1, hts _ wi_Reader_restart.2.1⟩ ⟨Pn_blind, va_recv (q := (R_Reader, F_Reader, 7)) hK hP kc_Reader.1 (q0 := 0) rfl, fun U hU hW => ⟨rfl, by rw [hU], by rw [hU]; exact hPc, hSt.warm hW, hDc.weaken (fun _ _ _ _ => trivial)⟩⟩ rfl rfl hl.1 rfl (lv_room (Nat.le_of_ble_eq_true rfl)) d_Reader_init_40 ⟨(Nat.le_of_ble_eq_true rfl), (Nat.le_of_ble_eq_true rfl)⟩) hS (fun q _ h => hFc q h) hFc (fun a40_7 t H1 locs ht hvm hw hB hz1 hk1 hS => ?_)
  obtain ⟨hP1, hD1⟩ := hB
  rw [ht] at hP1
  obtain ⟨hP, hD⟩ := va_join (wr := [((a9_2 0), .inl (gt g 1, 60, .inl (fun _ => 0))), ((a33_6 0), .inl (gt g 2, 120, .inl (fun _ => 0)))]) (w1 := w_Reader_restart__c g h0 q5_1 q16_3 q27_5 (a9_2 0) (a33_6 0) a40_7) hP hD [0, 1, 3, 4] [2, 5] rfl rfl (by decide) (by decide) hk1 hFc hP1 hD1
  generalize H1 = H at hP hS ⊢
  have hP : va_P (gD g) classes [((a9_2 0), .inl (gt g 1, 60, .inl (fun _ => 0))), ((a33_6 0), .inl (gt g 2, 120, .inl (fun _ => 0))), (h0, .inr (4, [.ref q5_1, .ref q16_3, .ref q27_5, .int 0, .int 0, .int 0, .int 0])), (q27_5, .inr (9, [.ref (a33_6 0), .int 0])), (q5_1, .inr (5, [.ref (a9_2 0), .int 0, .int 0])), (q16_3, .inr (6, [.int 0, .int 0, .int 0, .int (-1), .int 0]))] H := hP
  have hD : va_D A [((a9_2 0), .inl (gt g 1, 60, .inl (fun _ => 0))), ((a33_6 0), .inl (gt g 2, 120, .inl (fun _ => 0))), (h0, .inr (4, [.ref q5_1, .ref q16_3, .ref q27_5, .int 0, .int 0, .int 0, .int 0])), (q27_5, .inr (9, [.ref (a33_6 0), .int 0])), (q5_1, .inr (5, [.ref (a9_2 0), .int 0, .int 0])), (q16_3, .inr (6, [.int 0, .int 0, .int 0, .int (-1), .int 0]))] := hD
  refine W.widen (k := 5) (n := 190) (Nat.le_of_ble_eq_true rfl) (Nat.le_of_ble_eq_true rfl) ?_
  exact W.vret hx hb hr (fun t ht hW => ⟨⟨(fun i => [(a9_2 0), (a33_6 0), q27_5, q5_1, q16_3].getD i 0), rfl, trivial, by show va_P _ _ _ _; rw [ht]; exact hP, hD⟩, hS.F ht⟩) hS.2.2 d_Reader_init_43
