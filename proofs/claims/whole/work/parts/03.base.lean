-- the world by numbers: cell i lies at the address (ga g i); S i k is the k-th int of cell i (a field's, or an array's element)
abbrev zSt : Type := Nat → Nat → Int32
def su (S : zSt) (i k : Nat) (v : Int32) : zSt := va_up S i (upd (S i) k v)
abbrev zSh : Type := (Nat × Nat) ⊕ (Nat × Nat × (Nat → Nat)) ⊕ (Nat × List (Option Nat))
abbrev zG : Type := (Nat → ClassId) × (Nat → Nat → Nat) × (Nat → Nat) × (Nat → ClassId) × (Nat → Prop) × (Nat → Nat) × (Nat → Nat)
abbrev gD (g : zG) : va_G := (g.1, g.2.1)
abbrev ga (g : zG) : Nat → Nat := g.2.2.1
abbrev gt (g : zG) : Nat → ClassId := g.2.2.2.1
abbrev gA (g : zG) : Nat → Prop := g.2.2.2.2.1
abbrev gK (g : zG) : Nat → Nat := g.2.2.2.2.2.1
abbrev gV (g : zG) : Nat → Nat := g.2.2.2.2.2.2
def fvv (ad : Nat → Nat) (o : Option Nat) (v : Int32) : Value := match o with
  | none => .int v
  | some j => .ref (ad (if j = 1000 then 58 + v.toNatClampNeg else j))
def fvs (ad : Nat → Nat) (r : Nat → Int32) : Nat → List (Option Nat) → List Value
  | _, [] => []
  | k, o :: t => fvv ad o (r k) :: fvs ad r (k + 1) t
theorem fvs_get (ad : Nat → Nat) (r : Nat → Int32) : ∀ (fl : List (Option Nat)) (k j : Nat) (o : Option Nat), fl[j]? = some o → (fvs ad r k fl)[j]? = some (fvv ad o (r (k + j)))
  | [], k, j, o, h => by simp at h
  | a :: t, k, 0, o, h => by
    simp at h
    subst h
    simp [fvs]
  | a :: t, k, j + 1, o, h => by
    have h1 : t[j]? = some o := by simpa using h
    have h2 := fvs_get ad r t (k + 1) j o h1
    simp only [fvs, List.getElem?_cons_succ]
    rw [h2, show k + 1 + j = k + (j + 1) by omega]
theorem fvs_far (ad : Nat → Nat) (r : Nat → Int32) (v : Int32) : ∀ (fl : List (Option Nat)) (k j : Nat), j < k → fvs ad (upd r j v) k fl = fvs ad r k fl
  | [], k, j, h => rfl
  | a :: t, k, j, h => by
    have h2 := fvs_far ad r v t (k + 1) j (by omega)
    simp only [fvs]
    rw [h2, show upd r j v k = r k from by unfold upd; rw [if_neg (by omega)]]
theorem fvs_set (ad : Nat → Nat) (r : Nat → Int32) (v : Int32) : ∀ (fl : List (Option Nat)) (k j : Nat) (o : Option Nat), fl[j]? = some o → (fvs ad r k fl).set j (fvv ad o v) = fvs ad (upd r (k + j) v) k fl
  | [], k, j, o, h => by simp at h
  | a :: t, k, 0, o, h => by
    simp at h
    subst h
    simp only [fvs, List.set_cons_zero, Nat.add_zero]
    rw [fvs_far ad r v t (k + 1) k (by omega), show upd r k v k = v from by simp [upd]]
  | a :: t, k, j + 1, o, h => by
    have h1 : t[j]? = some o := by simpa using h
    have h2 := fvs_set ad r v t (k + 1) j o h1
    simp only [fvs, List.set_cons_succ]
    rw [h2, show k + 1 + j = k + (j + 1) by omega, show upd r (k + (j + 1)) v k = r k from by unfold upd; rw [if_neg (by omega)]]
def cO (ad : Nat → Nat) (tc : Nat → ClassId) (r : Nat → Int32) : zSh → va_E
  | .inl (t, n) => .inl (tc t, n, .inl r)
  | .inr (.inl (t, n, f)) => .inl (tc t, n, .inr (.inr (.inr (.inr (fun j => some (ad (f j)))))))
  | .inr (.inr (ci, fl)) => .inr (ci, fvs ad r 0 fl)
def wl (g : zG) (S : zSt) : va_W := (List.range nC).map (fun i => (ga g i, cO (ga g) (gt g) (S i) (sh i)))
theorem wl_get (g : zG) (S : zSt) {i : Nat} (h : i < nC) : (wl g S)[i]? = some (ga g i, cO (ga g) (gt g) (S i) (sh i)) := by
  simp [wl, List.getElem?_range h]
theorem wl_sh (g : zG) (S : zSt) {i : Nat} (h : i < nC) {x : zSh} (hx : sh i = x) : (wl g S)[i]? = some (ga g i, cO (ga g) (gt g) (S i) x) := by
  rw [wl_get g S h, hx]
theorem wl_set (g : zG) (S : zSt) {i k : Nat} {v : Int32} (h : i < nC) {e : va_E} (he : cO (ga g) (gt g) (upd (S i) k v) (sh i) = e) : (wl g S).set i (ga g i, e) = wl g (su S i k v) := by
  apply List.ext_getElem?
  intro j
  by_cases hj : j = i
  · subst hj
    rw [List.getElem?_set_self (by simp [wl]; exact h), wl_get g _ h, ← he]
    simp [su, va_up]
  · rw [List.getElem?_set_ne (fun e => hj e.symm)]
    simp only [wl, List.getElem?_map]
    by_cases hn : j < nC
    · rw [List.getElem?_range hn]
      simp [su, va_up, hj]
    · have : (List.range nC)[j]? = none := by simp; omega
      rw [this]
      rfl
abbrev tys (g : zG) : List (ClassId × FieldType) := [(gt g 0, .int), (gt g 1, .char), (gt g 2, .byte), (gt g 3, .object R_Parameter), (gt g 4, .object R_Item)]
def zNs (U : State) : Prop := (∀ q ∈ NF, va_Nw (.fieldLinkNest q.1 q.2.1 q.2.2.1 q.2.2.2.1 q.2.2.2.2.1 q.2.2.2.2.2) U) ∧ ∀ q ∈ NM, va_Nw (.methodLinkNest q.1 q.2.1 q.2.2.1 q.2.2.2) U
def zSs (g : zG) (U : State) : Prop := (∀ q ∈ LT, vk_R q.1 q.2.1 q.2.2.1 (gK g q.2.2.2) U) ∧ (∀ z ∈ ZS, va_Z z.1 z.2.1 z.2.2.1 (.int z.2.2.2) (gA g) U U.heap) ∧ va_Zq "jdk/internal/util/Preconditions" "SIOOBE_FORMATTER" "Ljava/util/function/BiFunction;" (gA g) U U.heap ∧ vk_S nS lenS bytS (gK g) (gV g) (gA g) U U.heap
def Sta (g : zG) (U : State) : Prop := va_K (gD g) classes (tys g) U ∧ zNs U ∧ zSs g U
def GD (g : zG) : Prop := ∀ S : zSt, va_D (gA g) (wl g S)
def Dy (g : zG) (s : State) (S : zSt) (H : Heap) (locs : List Loc) : Prop := va_P (gD g) classes (wl g S) H ∧ va_S (gA g) s.heap H locs
theorem Sta.warm {g : zG} {s U : State} {H : Heap} {locs : List Loc} (h : Sta g s) (hS : va_S (gA g) s.heap H locs) (hU : U.heap = H) (hW : s.WarmedH U.vm) : Sta g U := by
  obtain ⟨h1, ⟨h2, h3⟩, h4, h6, h7, h5⟩ := h
  refine ⟨h1.moved hW.alike, ⟨fun q hq => va_Nw.warmF hW (h2 q hq), fun q hq => va_Nw.warmM hW (h3 q hq)⟩, fun q hq => (h4 q hq).warm hW, fun z hz => ?_, ?_, ?_⟩
  · rw [hU]
    exact ((h6 z hz).kept hS.2.1).moved hW.alike
  · rw [hU]
    exact (h7.kept hS.2.1).moved hW.alike
  · rw [hU]
    exact (h5.kept hS.2.1).moved hW.alike
theorem Sta.calling {g : zG} {U : State} {f : JFrame} {mk : MethodId} {a : Array Value} (h : Sta g U) : Sta g (U.calling f mk a) := by
  obtain ⟨h1, ⟨h2, h3⟩, h4, h6, h7, h5⟩ := h
  exact ⟨va_K.moved (u := U) (U := U.calling f mk a) (Vm.Alike.refl U.vm) h1, ⟨fun q hq => va_Nw.same rfl (u := U) (U := U.calling f mk a) rfl (h2 q hq), fun q hq => va_Nw.same rfl (u := U) (U := U.calling f mk a) rfl (h3 q hq)⟩, fun q hq => vk_R.same (u := U) (U := U.calling f mk a) rfl (h4 q hq), fun z hz => va_Z.moved (u := U) (U := U.calling f mk a) (Vm.Alike.refl U.vm) (h6 z hz), va_Zq.moved (u := U) (U := U.calling f mk a) (Vm.Alike.refl U.vm) h7, vk_S.moved (u := U) (U := U.calling f mk a) (Vm.Alike.refl U.vm) h5⟩
def Pw (g : zG) (av : List Value) (S : zSt) : Array Value → State → Prop := va_Pc av (fun U => va_P (gD g) classes (wl g S) U.heap ∧ Sta g U)
theorem Pw_blind {g : zG} {av : List Value} {S : zSt} : FrameBlind (Pw g av S) := fun _ _ _ _ h => ⟨h.1, h.2.1, h.2.2.calling⟩
abbrev zB (g : zG) (u : zSt) (t : State) : Prop := va_P (gD g) classes (wl g u) t.heap
def Qis (g : zG) (out : Int32 × zSt) : Array Value → State → Outcome → State → Prop := va_Qi (fun r u => (r, u) = out) (zB g) (gA g)
def Qip (g : zG) (S : zSt) (out : Int32) : Array Value → State → Outcome → State → Prop := va_Qi (fun r u => r = out ∧ u = S) (zB g) (gA g)
def Qvs (g : zG) (out : zSt) : Array Value → State → Outcome → State → Prop := va_Qv (fun u => u = out) (zB g) (gA g)
def Qqp (g : zG) (S : zSt) (out : Option Nat) : Array Value → State → Outcome → State → Prop := va_Qq (fun r u => r = out ∧ u = S) (zB g) (gA g)
abbrev rmD (d : Nat) : Room := { frames := d, cells := 0, slots := 0, locals := 60 * d }
abbrev mw (y : MethodName) (b : ByteArray) (n : Nat) (r : Option FieldType) : List Cond := Cond.code y b n r :: WS
theorem mw_good {y y' : MethodName} {b b' : ByteArray} {n n' : Nat} {r r' : Option FieldType} (h : Cond.code y' b' n' r' ∈ WS) : GoodIn (mw y b n r) (mw y' b' n' r') := by
  intro w hw
  rcases List.mem_cons.mp hw with rfl | hw
  · exact ⟨List.mem_cons_of_mem _ h, WS_good _ h⟩
  · exact ⟨List.mem_cons_of_mem _ hw, WS_good _ hw⟩
/-- what stands still while a method's body is walked -/
def Cx (p : Program) (s : State) (m : MethodId) (args : Array Value) (meth : Method) (c : Code) (cc : ByteArray) (own : String) (nL : Nat) (ret : Option FieldType) (g : zG) : Prop :=
  p.tables.exec = Jvm.exec ∧ c.code = cc ∧ c.maxLocals = nL ∧ s.vm.findClass own = some m.cls ∧ (∀ w ∈ WS, w.before args s = true) ∧ Sta g s ∧ GD g ∧ meth.sig.returnType = ret ∧ meth.locks = false
-- guards
def gdi {α : Type} (j : Int32) (n : Nat) (x : Option α) : Option α := if j < 0 ∨ n ≤ j.toNatClampNeg then none else x
def gdn {α : Type} (j n : Nat) (x : Option α) : Option α := if j < n then x else none
def gdz {α : Type} (j : Int32) (x : Option α) : Option α := if j = 0 then none else x
def gdb {α : Type} (j : Int32) (x : Option α) : Option α := if j = 0 ∨ j = 1 then x else none
def gdc {α : Type} (j : Int32) (x : Option α) : Option α := if (j.toUInt32 % 65536).toInt32 = j then x else none
def gdy {α : Type} (j : Int32) (x : Option α) : Option α := if j.toInt8.toInt32 = j then x else none
def sq {α β : Type} (x : α) (k : α → β) : β := k x
def fu : Nat := 4000
theorem gdi_some {α : Type} {j : Int32} {n : Nat} {x : Option α} {o : α} (h : gdi j n x = some o) : vp_in j n ∧ j.toNatClampNeg < n ∧ x = some o := by
  unfold gdi at h
  by_cases hc : j < 0 ∨ n ≤ j.toNatClampNeg
  · rw [if_pos hc] at h; cases h
  · rw [if_neg hc] at h
    exact ⟨hc, Nat.not_le.mp fun q => hc (Or.inr q), h⟩
theorem gdn_some {α : Type} {j n : Nat} {x : Option α} {o : α} (h : gdn j n x = some o) : j < n ∧ x = some o := by
  unfold gdn at h
  by_cases hc : j < n
  · rw [if_pos hc] at h; exact ⟨hc, h⟩
  · rw [if_neg hc] at h; cases h
theorem gdz_some {α : Type} {j : Int32} {x : Option α} {o : α} (h : gdz j x = some o) : ¬ j = 0 ∧ x = some o := by
  unfold gdz at h
  by_cases hc : j = 0
  · rw [if_pos hc] at h; cases h
  · rw [if_neg hc] at h; exact ⟨hc, h⟩
theorem gdb_some {α : Type} {j : Int32} {x : Option α} {o : α} (h : gdb j x = some o) : (narrow .boolean (.int j) = .int j ∧ fits .boolean (.int j) = true) ∧ x = some o := by
  unfold gdb at h
  by_cases hc : j = 0 ∨ j = 1
  · rw [if_pos hc] at h
    rcases hc with rfl | rfl
    · exact ⟨⟨rfl, rfl⟩, h⟩
    · exact ⟨⟨rfl, rfl⟩, h⟩
  · rw [if_neg hc] at h; cases h
theorem gdc_some {α : Type} {j : Int32} {x : Option α} {o : α} (h : gdc j x = some o) : (narrow .char (.int j) = .int j ∧ fits .char (.int j) = true) ∧ x = some o := by
  unfold gdc at h
  by_cases hc : (j.toUInt32 % 65536).toInt32 = j
  · rw [if_pos hc] at h
    exact ⟨⟨by rw [← hc]; exact pk_nc j, by rw [← hc]; exact pk_fc j⟩, h⟩
  · rw [if_neg hc] at h; cases h
theorem gdy_some {α : Type} {j : Int32} {x : Option α} {o : α} (h : gdy j x = some o) : narrow .byte (.int j) = .int j ∧ x = some o := by
  unfold gdy at h
  by_cases hc : j.toInt8.toInt32 = j
  · rw [if_pos hc] at h
    exact ⟨by rw [← hc]; exact pk_nb j, h⟩
  · rw [if_neg hc] at h; cases h
theorem bd_some {α β : Type} {o : Option α} {k : α → Option β} {r : β} (h : o.bind k = some r) : ∃ u, o = some u ∧ k u = some r := by
  cases o with
  | none => cases h
  | some u => exact ⟨u, rfl, h⟩
theorem if_some {α : Type} {c : Prop} {dd : Decidable c} {x y : Option α} {o : α} {G : Prop} (h : @ite _ c dd x y = some o) (kt : c → x = some o → G) (kf : ¬ c → y = some o → G) : G := by
  by_cases hc : c
  · rw [if_pos hc] at h; exact kt hc h
  · rw [if_neg hc] at h; exact kf hc h
theorem ii1 (x : Int32) : x + Int32.ofInt 1 = x + 1 := by rw [show Int32.ofInt 1 = 1 from by decide]
theorem ii2 (x : Int32) : x + Int32.ofInt 2 = x + 2 := by rw [show Int32.ofInt 2 = 2 from by decide]
theorem ii3 (x : Int32) : x + Int32.ofInt 3 = x + 3 := by rw [show Int32.ofInt 3 = 3 from by decide]
theorem iim1 (x : Int32) : x + Int32.ofInt (-1) = x + (-1) := by rw [show Int32.ofInt (-1) = -1 from by decide]
theorem fvv_i (ad : Nat → Nat) (v : Int32) : fvv ad none v = .int v := rfl
/-- a class of the list, with what the tables say of it -/
def KC (ci : Nat) (C : String) (T : u_T) (N : Nat) (ty : Nat → FieldType) : Prop := classes[ci]? = some (C, T, N) ∧ (∀ w ∈ u_ws C T N, w ∈ WS) ∧ (∀ k, k < N → parseFieldDescriptor (T k).2.2.1 = some (ty k)) ∧ ∀ a, a < N → ∀ b, b < N → a ≠ b → (T a).2.1 ≠ (T b).2.1
section ZR
variable {p : Program} {l : Launch} {e : Env} {R : Room} {s : State} {m : MethodId} {args : Array Value} {below : List Frame} {meth : Method} {c : Code} {H : Heap} {locs : List Loc} {cells slots : Nat} {Q : State → Prop}
variable {cc : ByteArray} {pc nL : Nat} {ls : Array Slot} {rest : List Value} {own : String} {ret : Option FieldType} {g : zG} {S : zSt} {α : Type} {out : α}
/-- getfield, by number: of this class's own, and of a nest mate's private one -/
theorem x_get (C0 : Cx p s m args meth c cc own nL ret g) (D0 : Dy g s S H locs) {i ci idx N : Nat} {fl : List (Option Nat)} {C : String} {T : u_T} {ty : Nat → FieldType} (kc : KC ci C T N ty) (hi : i < nC) (hs : sh i = .inr (.inr (ci, fl))) (k : Nat) {o : Option Nat} (ho : fl[k]? = some o) (hk : k < N) (hw : Cond.fieldLink own idx C (T k).2.1 (T k).2.2.1 ∈ WS) (hc : (T k).1 = C) {v : Value} (hv : fvv (ga g) o (S i k) = v) (hdg : decode cc pc = .ok (.getfield idx, 3))
    (kk : W p l e R s m args below meth c H locs cells slots Q (F0 m (pc + 3) ls (v :: rest))) : W p l e R s m args below meth c H locs cells slots Q (F0 m pc ls (.ref (ga g i) :: rest)) := by
  obtain ⟨hx, hb, -, hown, hts, ⟨hK, -, -⟩, -⟩ := C0
  subst hv
  refine va_get hx hb hts kc.2.1 hown hK D0.1 i (wl_sh g S hi hs) kc.1 k hk (hts _ hw) (fun x h => by rw [hc] at h; exact h) ?_ hdg kk
  have := fvs_get (ga g) (S i) fl 0 k o ho
  rw [Nat.zero_add] at this
  exact this
theorem x_getN (C0 : Cx p s m args meth c cc own nL ret g) (D0 : Dy g s S H locs) {i ci idx N : Nat} {host : String} {fl : List (Option Nat)} {C : String} {T : u_T} {ty : Nat → FieldType} (kc : KC ci C T N ty) (hi : i < nC) (hs : sh i = .inr (.inr (ci, fl))) (k : Nat) {o : Option Nat} (ho : fl[k]? = some o) (hk : k < N) (hw : (own, idx, C, (T k).2.1, (T k).2.2.1, host) ∈ NF) (hc : (T k).1 = C) {v : Value} (hv : fvv (ga g) o (S i k) = v) (hdg : decode cc pc = .ok (.getfield idx, 3))
    (kk : W p l e R s m args below meth c H locs cells slots Q (F0 m (pc + 3) ls (v :: rest))) : W p l e R s m args below meth c H locs cells slots Q (F0 m pc ls (.ref (ga g i) :: rest)) := by
  obtain ⟨hx, hb, -, hown, hts, ⟨hK, hN, -⟩, -⟩ := C0
  subst hv
  refine va_getN hx hb hts kc.2.1 hown hK D0.1 i (wl_sh g S hi hs) kc.1 k hk (va_Nw.use rfl (hN.1 _ hw)) (fun x h => by rw [hc] at h; exact h) ?_ hdg kk
  have := fvs_get (ga g) (S i) fl 0 k o ho
  rw [Nat.zero_add] at this
  exact this
theorem z_put (g : zG) (S : zSt) {i ci k : Nat} {fl : List (Option Nat)} {o : Option Nat} (hi : i < nC) (hs : sh i = .inr (.inr (ci, fl))) (ho : fl[k]? = some o) (x : Int32) : (wl g S).set i (ga g i, .inr (ci, (fvs (ga g) (S i) 0 fl).set k (fvv (ga g) o x))) = wl g (su S i k x) := by
  refine wl_set g S hi ?_
  rw [hs]
  show Sum.inr (ci, fvs (ga g) (upd (S i) k x) 0 fl) = _
  have := fvs_set (ga g) (S i) x fl 0 k o ho
  rw [Nat.zero_add] at this
  rw [this]
theorem fvs_len (ad : Nat → Nat) (r : Nat → Int32) : ∀ (fl : List (Option Nat)) (k : Nat), (fvs ad r k fl).length = fl.length
  | [], k => rfl
  | a :: t, k => by simp [fvs, fvs_len ad r t (k + 1)]
theorem x_put (C0 : Cx p s m args meth c cc own nL ret g) (D0 : Dy g s S H locs) {i ci idx N : Nat} {fl : List (Option Nat)} {C : String} {T : u_T} {ty : Nat → FieldType} (kc : KC ci C T N ty) (hi : i < nC) (hs : sh i = .inr (.inr (ci, fl))) (k : Nat) {o : Option Nat} (ho : fl[k]? = some o) (hk : k < N) (hw : Cond.fieldLink own idx C (T k).2.1 (T k).2.2.1 ∈ WS) (hc : (T k).1 = C) (hf : (T k).2.2.2 = false) (x : Int32) {v : Value} (hv : fvv (ga g) o x = v) (hn : narrow (ty k) v = v ∧ fits (ty k) v = true) (hdg : decode cc pc = .ok (.putfield idx, 3)) {X : zSt → Option α} (h : sq (su S i k x) X = some out)
    (kk : ∀ (S1 : zSt) (H1 : Heap) (locs1 : List Loc), X S1 = some out → Dy g s S1 H1 locs1 → W p l e R s m args below meth c H1 locs1 cells slots Q (F0 m (pc + 3) ls rest)) : W p l e R s m args below meth c H locs cells slots Q (F0 m pc ls (v :: .ref (ga g i) :: rest)) := by
  obtain ⟨hx, hb, -, hown, hts, ⟨hK, -, -⟩, hD, -⟩ := C0
  subst hv
  refine va_put hx hb hts kc.2.1 ty kc.2.2.1 kc.2.2.2 hown hK D0.1 (hD S) D0.2 i (wl_sh g S hi hs) kc.1 k hk (hts _ hw) (fun x h => by rw [hc] at h; exact h) hf (kc.2.2.1 k hk) hn.1 hn.2 (by rw [fvs_len]; exact (List.getElem?_eq_some_iff.mp ho).1) hdg (fun H1 locs1 hP _ hS => ?_)
  rw [z_put g S hi hs ho x] at hP
  exact kk _ H1 locs1 h ⟨hP, hS⟩
theorem x_putN (C0 : Cx p s m args meth c cc own nL ret g) (D0 : Dy g s S H locs) {i ci idx N : Nat} {host : String} {fl : List (Option Nat)} {C : String} {T : u_T} {ty : Nat → FieldType} (kc : KC ci C T N ty) (hi : i < nC) (hs : sh i = .inr (.inr (ci, fl))) (k : Nat) {o : Option Nat} (ho : fl[k]? = some o) (hk : k < N) (hw : (own, idx, C, (T k).2.1, (T k).2.2.1, host) ∈ NF) (hc : (T k).1 = C) (hf : (T k).2.2.2 = false) (x : Int32) {v : Value} (hv : fvv (ga g) o x = v) (hn : narrow (ty k) v = v ∧ fits (ty k) v = true) (hdg : decode cc pc = .ok (.putfield idx, 3)) {X : zSt → Option α} (h : sq (su S i k x) X = some out)
    (kk : ∀ (S1 : zSt) (H1 : Heap) (locs1 : List Loc), X S1 = some out → Dy g s S1 H1 locs1 → W p l e R s m args below meth c H1 locs1 cells slots Q (F0 m (pc + 3) ls rest)) : W p l e R s m args below meth c H locs cells slots Q (F0 m pc ls (v :: .ref (ga g i) :: rest)) := by
  obtain ⟨hx, hb, -, hown, hts, ⟨hK, hN, -⟩, hD, -⟩ := C0
  subst hv
  refine va_putN hx hb hts kc.2.1 ty kc.2.2.1 kc.2.2.2 hown hK D0.1 (hD S) D0.2 i (wl_sh g S hi hs) kc.1 k hk (va_Nw.use rfl (hN.1 _ hw)) (fun x h => by rw [hc] at h; exact h) hf (kc.2.2.1 k hk) hn.1 hn.2 (by rw [fvs_len]; exact (List.getElem?_eq_some_iff.mp ho).1) hdg (fun H1 locs1 hP _ hS => ?_)
  rw [z_put g S hi hs ho x] at hP
  exact kk _ H1 locs1 h ⟨hP, hS⟩
-- arrays
theorem x_iald (C0 : Cx p s m args meth c cc own nL ret g) (D0 : Dy g s S H locs) {i n : Nat} (hi : i < nC) (hs : sh i = .inl (0, n)) {j : Int32} (hdg : decode cc pc = .ok (.iaload, 1)) {X : Option α} (h : gdi j n X = some out)
    (kk : j.toNatClampNeg < n → X = some out → W p l e R s m args below meth c H locs cells slots Q (F0 m (pc + 1) ls (.int (S i j.toNatClampNeg) :: rest))) : W p l e R s m args below meth c H locs cells slots Q (F0 m pc ls (.int j :: .ref (ga g i) :: rest)) := by
  obtain ⟨hx, hb, -, -, -, ⟨hK, -, -⟩, -⟩ := C0
  obtain ⟨h1, h2, h3⟩ := gdi_some h
  exact va_iald hx hb hK D0.1 i 0 (wl_sh g S hi hs) rfl h1 hdg (kk h2 h3)
theorem x_cald (C0 : Cx p s m args meth c cc own nL ret g) (D0 : Dy g s S H locs) {i n : Nat} (hi : i < nC) (hs : sh i = .inl (1, n)) {j : Int32} (hdg : decode cc pc = .ok (.caload, 1)) {X : Option α} (h : gdi j n X = some out)
    (kk : j.toNatClampNeg < n → X = some out → W p l e R s m args below meth c H locs cells slots Q (F0 m (pc + 1) ls (.int (S i j.toNatClampNeg) :: rest))) : W p l e R s m args below meth c H locs cells slots Q (F0 m pc ls (.int j :: .ref (ga g i) :: rest)) := by
  obtain ⟨hx, hb, -, -, -, ⟨hK, -, -⟩, -⟩ := C0
  obtain ⟨h1, h2, h3⟩ := gdi_some h
  exact va_cald hx hb hK D0.1 i 1 (wl_sh g S hi hs) rfl h1 hdg (kk h2 h3)
theorem x_bald (C0 : Cx p s m args meth c cc own nL ret g) (D0 : Dy g s S H locs) {i n : Nat} (hi : i < nC) (hs : sh i = .inl (2, n)) {j : Int32} (hdg : decode cc pc = .ok (.baload, 1)) {X : Option α} (h : gdi j n X = some out)
    (kk : j.toNatClampNeg < n → X = some out → W p l e R s m args below meth c H locs cells slots Q (F0 m (pc + 1) ls (.int (S i j.toNatClampNeg) :: rest))) : W p l e R s m args below meth c H locs cells slots Q (F0 m pc ls (.int j :: .ref (ga g i) :: rest)) := by
  obtain ⟨hx, hb, -, -, -, ⟨hK, -, -⟩, -⟩ := C0
  obtain ⟨h1, h2, h3⟩ := gdi_some h
  exact va_bald hx hb hK D0.1 i 2 (wl_sh g S hi hs) rfl h1 hdg (kk h2 h3)
theorem x_aald3 (C0 : Cx p s m args meth c cc own nL ret g) (D0 : Dy g s S H locs) {i n : Nat} {f : Nat → Nat} (hi : i < nC) (hs : sh i = .inr (.inl (3, n, f))) {j : Int32} (hdg : decode cc pc = .ok (.aaload, 1)) {X : Option α} (h : gdi j n X = some out)
    (kk : j.toNatClampNeg < n → X = some out → W p l e R s m args below meth c H locs cells slots Q (F0 m (pc + 1) ls (.ref (ga g (f j.toNatClampNeg)) :: rest))) : W p l e R s m args below meth c H locs cells slots Q (F0 m pc ls (.int j :: .ref (ga g i) :: rest)) := by
  obtain ⟨hx, hb, -, -, -, ⟨hK, -, -⟩, -⟩ := C0
  obtain ⟨h1, h2, h3⟩ := gdi_some h
  exact va_aldq hx hb hK D0.1 i 3 (wl_sh g S hi hs) rfl h1 hdg (kk h2 h3)
theorem x_aald4 (C0 : Cx p s m args meth c cc own nL ret g) (D0 : Dy g s S H locs) {i n : Nat} {f : Nat → Nat} (hi : i < nC) (hs : sh i = .inr (.inl (4, n, f))) {j : Int32} (hdg : decode cc pc = .ok (.aaload, 1)) {X : Option α} (h : gdi j n X = some out)
    (kk : j.toNatClampNeg < n → X = some out → W p l e R s m args below meth c H locs cells slots Q (F0 m (pc + 1) ls (.ref (ga g (f j.toNatClampNeg)) :: rest))) : W p l e R s m args below meth c H locs cells slots Q (F0 m pc ls (.int j :: .ref (ga g i) :: rest)) := by
  obtain ⟨hx, hb, -, -, -, ⟨hK, -, -⟩, -⟩ := C0
  obtain ⟨h1, h2, h3⟩ := gdi_some h
  exact va_aldq hx hb hK D0.1 i 4 (wl_sh g S hi hs) rfl h1 hdg (kk h2 h3)
theorem z_ast (g : zG) (S : zSt) {i t n k : Nat} (hi : i < nC) (hs : sh i = .inl (t, n)) (x : Int32) : (wl g S).set i (ga g i, .inl (gt g t, n, .inl (upd (S i) k x))) = wl g (su S i k x) := by
  refine wl_set g S hi ?_
  rw [hs]
  rfl
theorem x_iast (C0 : Cx p s m args meth c cc own nL ret g) (D0 : Dy g s S H locs) {i n : Nat} (hi : i < nC) (hs : sh i = .inl (0, n)) {j x : Int32} (hdg : decode cc pc = .ok (.iastore, 1)) {X : zSt → Option α} (h : gdi j n (sq (su S i j.toNatClampNeg x) X) = some out)
    (kk : ∀ (S1 : zSt) (H1 : Heap) (locs1 : List Loc), X S1 = some out → Dy g s S1 H1 locs1 → W p l e R s m args below meth c H1 locs1 cells slots Q (F0 m (pc + 1) ls rest)) : W p l e R s m args below meth c H locs cells slots Q (F0 m pc ls (.int x :: .int j :: .ref (ga g i) :: rest)) := by
  obtain ⟨hx, hb, -, -, -, ⟨hK, -, -⟩, hD, -⟩ := C0
  obtain ⟨h1, h2, h3⟩ := gdi_some h
  refine va_iast hx hb hK D0.1 (hD S) D0.2 i 0 (wl_sh g S hi hs) rfl h1 hdg (fun H1 locs1 hP _ hS => ?_)
  rw [z_ast g S hi hs] at hP
  exact kk _ H1 locs1 h3 ⟨hP, hS⟩
theorem x_cast (C0 : Cx p s m args meth c cc own nL ret g) (D0 : Dy g s S H locs) {i n : Nat} (hi : i < nC) (hs : sh i = .inl (1, n)) {j x : Int32} (hdg : decode cc pc = .ok (.castore, 1)) {X : zSt → Option α} (h : gdi j n (sq (su S i j.toNatClampNeg (vp_nar .char x)) X) = some out)
    (kk : ∀ (S1 : zSt) (H1 : Heap) (locs1 : List Loc), X S1 = some out → Dy g s S1 H1 locs1 → W p l e R s m args below meth c H1 locs1 cells slots Q (F0 m (pc + 1) ls rest)) : W p l e R s m args below meth c H locs cells slots Q (F0 m pc ls (.int x :: .int j :: .ref (ga g i) :: rest)) := by
  obtain ⟨hx, hb, -, -, -, ⟨hK, -, -⟩, hD, -⟩ := C0
  obtain ⟨h1, h2, h3⟩ := gdi_some h
  refine va_cast hx hb hK D0.1 (hD S) D0.2 i 1 (wl_sh g S hi hs) rfl h1 hdg (fun H1 locs1 hP _ hS => ?_)
  rw [z_ast g S hi hs] at hP
  exact kk _ H1 locs1 h3 ⟨hP, hS⟩
theorem x_bast (C0 : Cx p s m args meth c cc own nL ret g) (D0 : Dy g s S H locs) {i n : Nat} (hi : i < nC) (hs : sh i = .inl (2, n)) {j x : Int32} (hdg : decode cc pc = .ok (.bastore, 1)) {X : zSt → Option α} (h : gdi j n (sq (su S i j.toNatClampNeg (vp_nar .byte x)) X) = some out)
    (kk : ∀ (S1 : zSt) (H1 : Heap) (locs1 : List Loc), X S1 = some out → Dy g s S1 H1 locs1 → W p l e R s m args below meth c H1 locs1 cells slots Q (F0 m (pc + 1) ls rest)) : W p l e R s m args below meth c H locs cells slots Q (F0 m pc ls (.int x :: .int j :: .ref (ga g i) :: rest)) := by
  obtain ⟨hx, hb, -, -, -, ⟨hK, -, -⟩, hD, -⟩ := C0
  obtain ⟨h1, h2, h3⟩ := gdi_some h
  refine va_bast hx hb hK D0.1 (hD S) D0.2 i 2 (wl_sh g S hi hs) rfl h1 hdg (fun H1 locs1 hP _ hS => ?_)
  rw [z_ast g S hi hs] at hP
  exact kk _ H1 locs1 h3 ⟨hP, hS⟩
theorem x_alen2 (C0 : Cx p s m args meth c cc own nL ret g) (D0 : Dy g s S H locs) {i n : Nat} (hi : i < nC) (hs : sh i = .inl (2, n)) (hdg : decode cc pc = .ok (.arraylength, 1))
    (kk : W p l e R s m args below meth c H locs cells slots Q (F0 m (pc + 1) ls (.int (Int32.ofNat n) :: rest))) : W p l e R s m args below meth c H locs cells slots Q (F0 m pc ls (.ref (ga g i) :: rest)) := by
  obtain ⟨hx, hb, -, -, -, ⟨hK, -, -⟩, -⟩ := C0
  exact va_alen hx hb hK D0.1 i 2 (wl_sh g S hi hs) (ty := .byte) rfl rfl hdg kk
theorem x_lds (C0 : Cx p s m args meth c cc own nL ret g) {idx q : Nat} {tx : String} (hw : (own, idx, tx, q) ∈ LT) (hdg : decode cc pc = .ok (.ldc idx, 2))
    (kk : W p l e R s m args below meth c H locs cells slots Q (F0 m (pc + 2) ls (.ref (gK g q) :: rest))) : W p l e R s m args below meth c H locs cells slots Q (F0 m pc ls rest) := by
  obtain ⟨hx, hb, -, hown, -, ⟨-, -, hZ, -⟩, -⟩ := C0
  exact va_ldcS hx hb hown (hZ _ hw) hdg kk
theorem x_gst (C0 : Cx p s m args meth c cc own nL ret g) (D0 : Dy g s S H locs) {idx : Nat} {Cn n d : String} {v : Int32} (hz : (Cn, n, d, v) ∈ ZS) (hw : Cond.fieldLink own idx Cn n d ∈ WS) (hdg : decode cc pc = .ok (.getstatic idx, 3))
    (kk : W p l e R s m args below meth c H locs cells slots Q (F0 m (pc + 3) ls (.int v :: rest))) : W p l e R s m args below meth c H locs cells slots Q (F0 m pc ls rest) := by
  obtain ⟨hx, hb, -, hown, hts, ⟨-, -, -, hZ, -, -⟩, -⟩ := C0
  exact va_gets hx hb (hZ _ hz) D0.2 hown (hts _ hw) (fun x h => h) hdg kk
theorem x_svalue (C0 : Cx p s m args meth c cc own nL ret g) (D0 : Dy g s S H locs) {q idx : Nat} (hq : q < nS) (hw : Cond.fieldLink own idx "java/lang/String" "value" "[B" ∈ WS) (hdg : decode cc pc = .ok (.getfield idx, 3))
    (kk : W p l e R s m args below meth c H locs cells slots Q (F0 m (pc + 3) ls (.ref (gV g q) :: rest))) : W p l e R s m args below meth c H locs cells slots Q (F0 m pc ls (.ref (gK g q) :: rest)) := by
  obtain ⟨hx, hb, -, hown, hts, ⟨-, -, -, -, -, hE⟩, -⟩ := C0
  exact vk_getf hx hb (hE.1 q hq).2.2.1 D0.2 hown (hts _ hw) (fun x h => h) hdg kk
theorem x_scoder (C0 : Cx p s m args meth c cc own nL ret g) (D0 : Dy g s S H locs) {q idx : Nat} (hq : q < nS) (hw : Cond.fieldLink own idx "java/lang/String" "coder" "B" ∈ WS) (hdg : decode cc pc = .ok (.getfield idx, 3))
    (kk : W p l e R s m args below meth c H locs cells slots Q (F0 m (pc + 3) ls (.int 0 :: rest))) : W p l e R s m args below meth c H locs cells slots Q (F0 m pc ls (.ref (gK g q) :: rest)) := by
  obtain ⟨hx, hb, -, hown, hts, ⟨-, -, -, -, -, hE⟩, -⟩ := C0
  exact vk_getf hx hb (hE.1 q hq).2.1 D0.2 hown (hts _ hw) (fun x h => h) hdg kk
theorem x_tlen (C0 : Cx p s m args meth c cc own nL ret g) (D0 : Dy g s S H locs) {q : Nat} (hq : q < nS) (hdg : decode cc pc = .ok (.arraylength, 1))
    (kk : W p l e R s m args below meth c H locs cells slots Q (F0 m (pc + 1) ls (.int (Int32.ofNat (lenS.getD q 0)) :: rest))) : W p l e R s m args below meth c H locs cells slots Q (F0 m pc ls (.ref (gV g q) :: rest)) := by
  obtain ⟨hx, hb, -, hown, hts, ⟨-, -, -, -, -, hE⟩, -⟩ := C0
  exact va_tlen hx hb (hE.1 q hq).2.2.2 D0.2 rfl hdg kk
theorem x_tb (C0 : Cx p s m args meth c cc own nL ret g) (D0 : Dy g s S H locs) {q : Nat} (hq : q < nS) {j : Int32} (hdg : decode cc pc = .ok (.baload, 1)) {X : Option α} (h : gdi j (lenS.getD q 0) X = some out)
    (kk : j.toNatClampNeg < lenS.getD q 0 → X = some out → W p l e R s m args below meth c H locs cells slots Q (F0 m (pc + 1) ls (.int ((bytS.getD q []).getD j.toNatClampNeg 0) :: rest))) : W p l e R s m args below meth c H locs cells slots Q (F0 m pc ls (.int j :: .ref (gV g q) :: rest)) := by
  obtain ⟨hx, hb, -, hown, hts, ⟨-, -, -, -, -, hE⟩, -⟩ := C0
  obtain ⟨h1, h2, h3⟩ := gdi_some h
  exact va_tb hx hb (hE.1 q hq).2.2.2 D0.2 h1 rfl hdg (kk h2 h3)
-- returns
theorem x_irs (C0 : Cx p s m args meth c cc own nL (some .int) g) (D0 : Dy g s S H locs) {v : Int32} {out : Int32 × zSt} (h : some (v, S) = some out) (hdg : decode cc pc = .ok (.ireturn, 1)) : W p l e R s m args below meth c H locs 0 0 (MQ below (Qis g out) args s 0 0 (gA g)) (F0 m pc ls [.int v]) := by
  obtain ⟨hx, hb, -, -, -, -, -, hr, hlk⟩ := C0
  exact W.iret hx hb hr (fun t ht hW => ⟨⟨v, S, rfl, Option.some.inj h, by show va_P _ _ _ _; rw [ht]; exact D0.1⟩, D0.2.F ht⟩) D0.2.2.2 hdg hlk
theorem x_irp (C0 : Cx p s m args meth c cc own nL (some .int) g) (D0 : Dy g s S H locs) {v out : Int32} (h : some v = some out) (hdg : decode cc pc = .ok (.ireturn, 1)) : W p l e R s m args below meth c H locs 0 0 (MQ below (Qip g S out) args s 0 0 (gA g)) (F0 m pc ls [.int v]) := by
  obtain ⟨hx, hb, -, -, -, -, -, hr, hlk⟩ := C0
  exact W.iret hx hb hr (fun t ht hW => ⟨⟨v, S, rfl, ⟨Option.some.inj h, rfl⟩, by show va_P _ _ _ _; rw [ht]; exact D0.1⟩, D0.2.F ht⟩) D0.2.2.2 hdg hlk
theorem x_zrs (C0 : Cx p s m args meth c cc own nL (some .boolean) g) (D0 : Dy g s S H locs) {v : Int32} {out : Int32 × zSt} (h : gdb v (some (v, S)) = some out) (hdg : decode cc pc = .ok (.ireturn, 1)) : W p l e R s m args below meth c H locs 0 0 (MQ below (Qis g out) args s 0 0 (gA g)) (F0 m pc ls [.int v]) := by
  obtain ⟨hx, hb, -, -, -, -, -, hr, hlk⟩ := C0
  obtain ⟨⟨hn, -⟩, h⟩ := gdb_some h
  exact W.zret hx hb hr hn (fun t ht hW => ⟨⟨v, S, rfl, Option.some.inj h, by show va_P _ _ _ _; rw [ht]; exact D0.1⟩, D0.2.F ht⟩) D0.2.2.2 hdg hlk
theorem x_zrp (C0 : Cx p s m args meth c cc own nL (some .boolean) g) (D0 : Dy g s S H locs) {v out : Int32} (h : gdb v (some v) = some out) (hdg : decode cc pc = .ok (.ireturn, 1)) : W p l e R s m args below meth c H locs 0 0 (MQ below (Qip g S out) args s 0 0 (gA g)) (F0 m pc ls [.int v]) := by
  obtain ⟨hx, hb, -, -, -, -, -, hr, hlk⟩ := C0
  obtain ⟨⟨hn, -⟩, h⟩ := gdb_some h
  exact W.zret hx hb hr hn (fun t ht hW => ⟨⟨v, S, rfl, ⟨Option.some.inj h, rfl⟩, by show va_P _ _ _ _; rw [ht]; exact D0.1⟩, D0.2.F ht⟩) D0.2.2.2 hdg hlk
theorem x_crp (C0 : Cx p s m args meth c cc own nL (some .char) g) (D0 : Dy g s S H locs) {v out : Int32} (h : gdc v (some v) = some out) (hdg : decode cc pc = .ok (.ireturn, 1)) : W p l e R s m args below meth c H locs 0 0 (MQ below (Qip g S out) args s 0 0 (gA g)) (F0 m pc ls [.int v]) := by
  obtain ⟨hx, hb, -, -, -, -, -, hr, hlk⟩ := C0
  obtain ⟨⟨hn, -⟩, h⟩ := gdc_some h
  exact W.zret hx hb hr hn (fun t ht hW => ⟨⟨v, S, rfl, ⟨Option.some.inj h, rfl⟩, by show va_P _ _ _ _; rw [ht]; exact D0.1⟩, D0.2.F ht⟩) D0.2.2.2 hdg hlk
theorem x_brp (C0 : Cx p s m args meth c cc own nL (some .byte) g) (D0 : Dy g s S H locs) {v out : Int32} (h : gdy v (some v) = some out) (hdg : decode cc pc = .ok (.ireturn, 1)) : W p l e R s m args below meth c H locs 0 0 (MQ below (Qip g S out) args s 0 0 (gA g)) (F0 m pc ls [.int v]) := by
  obtain ⟨hx, hb, -, -, -, -, -, hr, hlk⟩ := C0
  obtain ⟨hn, h⟩ := gdy_some h
  exact W.zret hx hb hr hn (fun t ht hW => ⟨⟨v, S, rfl, ⟨Option.some.inj h, rfl⟩, by show va_P _ _ _ _; rw [ht]; exact D0.1⟩, D0.2.F ht⟩) D0.2.2.2 hdg hlk
theorem x_vrs (C0 : Cx p s m args meth c cc own nL none g) (D0 : Dy g s S H locs) {out : zSt} (h : some S = some out) (hdg : decode cc pc = .ok (.return_, 1)) : W p l e R s m args below meth c H locs 0 0 (MQ below (Qvs g out) args s 0 0 (gA g)) (F0 m pc ls []) := by
  obtain ⟨hx, hb, -, -, -, -, -, hr, hlk⟩ := C0
  exact W.vret hx hb hr (fun t ht hW => ⟨⟨S, rfl, Option.some.inj h, by show va_P _ _ _ _; rw [ht]; exact D0.1⟩, D0.2.F ht⟩) D0.2.2.2 hdg hlk
/-- a reference: cell (ca + k), told by k; or none -/
theorem x_arp {cn : String} (C0 : Cx p s m args meth c cc own nL (some (.object cn)) g) (D0 : Dy g s S H locs) {a : Nat} {out : Option Nat} (h : some a = out) (hdg : decode cc pc = .ok (.areturn, 1)) : W p l e R s m args below meth c H locs 0 0 (MQ below (Qqp g S out) args s 0 0 (gA g)) (F0 m pc ls [.ref a]) := by
  obtain ⟨hx, hb, -, -, -, -, -, hr, hlk⟩ := C0
  exact W.aret hx hb hr (Or.inl ⟨_, rfl⟩) (Or.inr ⟨_, rfl⟩) (fun t ht hW => ⟨⟨some a, S, rfl, ⟨h, rfl⟩, by show va_P _ _ _ _; rw [ht]; exact D0.1⟩, D0.2.F ht⟩) D0.2.2.2 hdg hlk
theorem x_arn {cn : String} (C0 : Cx p s m args meth c cc own nL (some (.object cn)) g) (D0 : Dy g s S H locs) {out : Option Nat} (h : none = out) (hdg : decode cc pc = .ok (.areturn, 1)) : W p l e R s m args below meth c H locs 0 0 (MQ below (Qqp g S out) args s 0 0 (gA g)) (F0 m pc ls [.null]) := by
  obtain ⟨hx, hb, -, -, -, -, -, hr, hlk⟩ := C0
  exact W.aret hx hb hr (Or.inl ⟨_, rfl⟩) (Or.inl rfl) (fun t ht hW => ⟨⟨none, S, rfl, ⟨h, rfl⟩, by show va_P _ _ _ _; rw [ht]; exact D0.1⟩, D0.2.F ht⟩) D0.2.2.2 hdg hlk
end ZR
section ZC
variable {p : Program} {l : Launch} {e : Env} {s : State} {m : MethodId} {args : Array Value} {below : List Frame} {meth : Method} {c : Code} {H : Heap} {locs : List Loc} {Q : State → Prop}
variable {cc : ByteArray} {pc nL : Nat} {ls : Array Slot} {rest : List Value} {own : String} {ret : Option FieldType} {g : zG} {S : zSt}
variable {y : MethodName} {b : ByteArray} {nM d d' idx n i ci N : Nat} {T : u_T} {fl : List (Option Nat)} {r' : Option FieldType} {As : List Value} {Qc : Array Value → State → Outcome → State → Prop}
abbrev zHd (y : MethodName) (n : Nat) : Prop := y.cls ≠ "java/lang/invoke/MethodHandle" ∧ y.cls ≠ "java/lang/invoke/VarHandle" ∧ (parseMethodDescriptor y.desc).map (fun d => d.parameters.length) = some n
theorem ws_good {y' : MethodName} {b' : ByteArray} {n' : Nat} {r' : Option FieldType} (h : Cond.code y' b' n' r' ∈ WS) : GoodIn WS (mw y' b' n' r') := by
  intro w hw
  rcases List.mem_cons.mp hw with rfl | hw
  · exact ⟨h, WS_good _ h⟩
  · exact ⟨hw, WS_good _ hw⟩
theorem z_pre {av : List Value} (C0 : Cx p s m args meth c cc own nL ret g) (D0 : Dy g s S H locs) : ∀ U : State, U.heap = H → s.WarmedH U.vm → Pw g av S av.toArray U := fun U hU hW => ⟨rfl, by rw [hU]; exact D0.1, C0.2.2.2.2.2.1.warm D0.2 hU hW⟩
theorem z_recv (C0 : Cx p s m args meth c cc own nL ret g) (D0 : Dy g s S H locs) {C : String} (hi : i < nC) (hs : sh i = .inr (.inr (ci, fl))) (kc : classes[ci]? = some (C, T, N)) : ∃ cellB : Cell, H[ga g i]? = some cellB ∧ cellB.vm.isStatics = false ∧ s.vm.findClass C = some cellB.cls :=
  va_recv C0.2.2.2.2.2.1.1 D0.1 kc (wl_sh g S hi hs)
theorem r_V (C0 : Cx p s m args meth c cc own nL ret g) (D0 : Dy g s S H locs) (hM : Met l y (mw y b nM r') (rmD d') (Pw g (.ref (ga g i) :: As) S) Qc 0 0 (gA g)) (hc : Cond.code y b nM r' ∈ WS) (hl : Cond.methodLink own idx y ∈ WS) (hy : Cond.instanceMethod y ∈ WS ∧ Cond.selects y.cls y y ∈ WS ∧ Cond.initialized y.cls ∈ WS) (hd : zHd y n) (hi : i < nC) (hs : sh i = .inr (.inr (ci, fl))) (kc : classes[ci]? = some (y.cls, T, N)) (hn : As.length = n) {st0 : List Value} (hst : st0 = As.reverse ++ .ref (ga g i) :: rest) {lv0 : List (Nat × Value)} (hz : lv_has ls nL lv0) (hr : (rest.map fun v => v.category).sum ≤ 8) (hv : d' + 1 ≤ d ∧ nM ≤ 41) (hdg : decode cc pc = .ok (.invokevirtual idx, 3)) :
    va_Run p l e (rmD d) s m args below meth c H locs 0 0 0 0 (F0 m pc ls st0) rest (Qc (Value.ref (ga g i) :: As).toArray) (gA g) := by
  subst hst
  have hts := C0.2.2.2.2.1
  exact va_runV (Ts := WS) (C := y.cls) ⟨C0.1, C0.2.1, C0.2.2.1, C0.2.2.2.1, hts⟩ hM ⟨callB_of n hts (ws_good hc) rfl rfl rfl (hts _ hy.2.2) (hts _ hl) hd ⟨hv.1, by show 8 + (nM + 11) + 60 * d' ≤ 60 * d; omega⟩, hts _ hy.1, hts _ hy.2.1⟩ ⟨Pw_blind, z_recv C0 D0 hi hs kc, z_pre C0 D0⟩ rfl hn hz.1 rfl (lv_room hr) hdg ⟨Nat.le_refl _, Nat.le_refl _⟩
theorem r_VN {host : String} (C0 : Cx p s m args meth c cc own nL ret g) (D0 : Dy g s S H locs) (hM : Met l y (mw y b nM r') (rmD d') (Pw g (.ref (ga g i) :: As) S) Qc 0 0 (gA g)) (hc : Cond.code y b nM r' ∈ WS) (hl : (own, idx, y, host) ∈ NM) (hy : Cond.instanceMethod y ∈ WS ∧ Cond.selects y.cls y y ∈ WS ∧ Cond.initialized y.cls ∈ WS) (hd : zHd y n) (hi : i < nC) (hs : sh i = .inr (.inr (ci, fl))) (kc : classes[ci]? = some (y.cls, T, N)) (hn : As.length = n) {st0 : List Value} (hst : st0 = As.reverse ++ .ref (ga g i) :: rest) {lv0 : List (Nat × Value)} (hz : lv_has ls nL lv0) (hr : (rest.map fun v => v.category).sum ≤ 8) (hv : d' + 1 ≤ d ∧ nM ≤ 41) (hdg : decode cc pc = .ok (.invokevirtual idx, 3)) :
    va_Run p l e (rmD d) s m args below meth c H locs 0 0 0 0 (F0 m pc ls st0) rest (Qc (Value.ref (ga g i) :: As).toArray) (gA g) := by
  subst hst
  have hts := C0.2.2.2.2.1
  exact va_runVN (Ts := WS) (C := y.cls) ⟨C0.1, C0.2.1, C0.2.2.1, C0.2.2.2.1, hts⟩ hM ⟨va_cnB n hts (ws_good hc) rfl rfl rfl (C0.2.2.2.2.2.1.2.1.2 _ hl) (hts _ hy.2.2) hd ⟨hv.1, by show 8 + (nM + 11) + 60 * d' ≤ 60 * d; omega⟩, hts _ hy.1, hts _ hy.2.1⟩ ⟨Pw_blind, z_recv C0 D0 hi hs kc, z_pre C0 D0⟩ rfl hn hz.1 rfl (lv_room hr) hdg ⟨Nat.le_refl _, Nat.le_refl _⟩
theorem r_S (C0 : Cx p s m args meth c cc own nL ret g) (D0 : Dy g s S H locs) (hM : Met l y (mw y b nM r') (rmD d') (Pw g As S) Qc 0 0 (gA g)) (hc : Cond.code y b nM r' ∈ WS) (hl : Cond.methodLink own idx y ∈ WS) (hy : Cond.static y ∈ WS ∧ Cond.initialized y.cls ∈ WS) (hd : zHd y n) (hn : As.length = n) {st0 : List Value} (hst : st0 = As.reverse ++ rest) {lv0 : List (Nat × Value)} (hz : lv_has ls nL lv0) (hr : (rest.map fun v => v.category).sum ≤ 8) (hv : d' + 1 ≤ d ∧ nM ≤ 41) (hdg : decode cc pc = .ok (.invokestatic idx, 3)) :
    va_Run p l e (rmD d) s m args below meth c H locs 0 0 0 0 (F0 m pc ls st0) rest (Qc As.toArray) (gA g) := by
  subst hst
  have hts := C0.2.2.2.2.1
  exact va_runS (Ts := WS) ⟨C0.1, C0.2.1, C0.2.2.1, C0.2.2.2.1, hts⟩ hM ⟨callB_of n hts (ws_good hc) rfl rfl rfl (hts _ hy.2) (hts _ hl) hd ⟨hv.1, by show 8 + (nM + 11) + 60 * d' ≤ 60 * d; omega⟩, hts _ hy.1⟩ ⟨Pw_blind, z_pre C0 D0⟩ rfl hn hz.1 rfl (lv_room hr) hdg ⟨Nat.le_refl _, Nat.le_refl _⟩
theorem r_SN {host : String} (C0 : Cx p s m args meth c cc own nL ret g) (D0 : Dy g s S H locs) (hM : Met l y (mw y b nM r') (rmD d') (Pw g As S) Qc 0 0 (gA g)) (hc : Cond.code y b nM r' ∈ WS) (hl : (own, idx, y, host) ∈ NM) (hy : Cond.static y ∈ WS ∧ Cond.initialized y.cls ∈ WS) (hd : zHd y n) (hn : As.length = n) {st0 : List Value} (hst : st0 = As.reverse ++ rest) {lv0 : List (Nat × Value)} (hz : lv_has ls nL lv0) (hr : (rest.map fun v => v.category).sum ≤ 8) (hv : d' + 1 ≤ d ∧ nM ≤ 41) (hdg : decode cc pc = .ok (.invokestatic idx, 3)) :
    va_Run p l e (rmD d) s m args below meth c H locs 0 0 0 0 (F0 m pc ls st0) rest (Qc As.toArray) (gA g) := by
  subst hst
  have hts := C0.2.2.2.2.1
  exact va_runSN (Ts := WS) ⟨C0.1, C0.2.1, C0.2.2.1, C0.2.2.2.1, hts⟩ hM ⟨va_cnB n hts (ws_good hc) rfl rfl rfl (C0.2.2.2.2.2.1.2.1.2 _ hl) (hts _ hy.2) hd ⟨hv.1, by show 8 + (nM + 11) + 60 * d' ≤ 60 * d; omega⟩, hts _ hy.1, trivial⟩ ⟨Pw_blind, z_pre C0 D0⟩ rfl hn hz.1 rfl (lv_room hr) hdg ⟨Nat.le_refl _, Nat.le_refl _⟩
theorem r_Str {q : Nat} (C0 : Cx p s m args meth c cc own nL ret g) (D0 : Dy g s S H locs) (hM : Met l y (mw y b nM r') (rmD d') (Pw g (.ref (gK g q) :: As) S) Qc 0 0 (gA g)) (hc : Cond.code y b nM r' ∈ WS) (hl : Cond.methodLink own idx y ∈ WS) (hy : Cond.instanceMethod y ∈ WS ∧ Cond.selects y.cls y y ∈ WS ∧ Cond.initialized y.cls ∈ WS) (hd : zHd y n) (hq : q < nS) (hcl : y.cls = "java/lang/String") (hn : As.length = n) {st0 : List Value} (hst : st0 = As.reverse ++ .ref (gK g q) :: rest) {lv0 : List (Nat × Value)} (hz : lv_has ls nL lv0) (hr : (rest.map fun v => v.category).sum ≤ 8) (hv : d' + 1 ≤ d ∧ nM ≤ 41) (hdg : decode cc pc = .ok (.invokevirtual idx, 3)) :
    va_Run p l e (rmD d) s m args below meth c H locs 0 0 0 0 (F0 m pc ls st0) rest (Qc (Value.ref (gK g q) :: As).toArray) (gA g) := by
  subst hst
  have hts := C0.2.2.2.2.1
  exact va_runV (Ts := WS) (C := y.cls) ⟨C0.1, C0.2.1, C0.2.2.1, C0.2.2.2.1, hts⟩ hM ⟨callB_of n hts (ws_good hc) rfl rfl rfl (hts _ hy.2.2) (hts _ hl) hd ⟨hv.1, by show 8 + (nM + 11) + 60 * d' ≤ 60 * d; omega⟩, hts _ hy.1, hts _ hy.2.1⟩ ⟨Pw_blind, by rw [hcl]; exact vk_recv C0.2.2.2.2.2.1.2.2.2.2.2 hq D0.2, z_pre C0 D0⟩ rfl hn hz.1 rfl (lv_room hr) hdg ⟨Nat.le_refl _, Nat.le_refl _⟩
theorem x_cip {a : Array Value} {st0 : List Value} {u : Int32} (hr : va_Run p l e (rmD d) s m args below meth c H locs 0 0 0 0 (F0 m pc ls st0) rest (Qip g S u a) (gA g)) (D0 : Dy g s S H locs) (kk : ∀ (H1 : Heap) (locs1 : List Loc), Dy g s S H1 locs1 → W p l e (rmD d) s m args below meth c H1 locs1 0 0 Q (F0 m (pc + 3) ls (.int u :: rest))) : W p l e (rmD d) s m args below meth c H locs 0 0 Q (F0 m pc ls st0) := by
  refine va_calli hr D0.2 (fun q _ h => h) (fun q h => h) (fun r v t H1 locs1 ht hvm hp hB hz hk hS => ?_)
  obtain ⟨rfl, rfl⟩ := hp
  exact kk H1 locs1 ⟨by rw [← ht]; exact hB, hS⟩
theorem x_cis {a : Array Value} {st0 : List Value} {u : Int32 × zSt} (hr : va_Run p l e (rmD d) s m args below meth c H locs 0 0 0 0 (F0 m pc ls st0) rest (Qis g u a) (gA g)) (D0 : Dy g s S H locs) (kk : ∀ (H1 : Heap) (locs1 : List Loc), Dy g s u.2 H1 locs1 → W p l e (rmD d) s m args below meth c H1 locs1 0 0 Q (F0 m (pc + 3) ls (.int u.1 :: rest))) : W p l e (rmD d) s m args below meth c H locs 0 0 Q (F0 m pc ls st0) := by
  refine va_calli hr D0.2 (fun q _ h => h) (fun q h => h) (fun r v t H1 locs1 ht hvm hp hB hz hk hS => ?_)
  subst hp
  exact kk H1 locs1 ⟨by rw [← ht]; exact hB, hS⟩
theorem x_cvs {a : Array Value} {st0 : List Value} {u : zSt} (hr : va_Run p l e (rmD d) s m args below meth c H locs 0 0 0 0 (F0 m pc ls st0) rest (Qvs g u a) (gA g)) (D0 : Dy g s S H locs) (kk : ∀ (H1 : Heap) (locs1 : List Loc), Dy g s u H1 locs1 → W p l e (rmD d) s m args below meth c H1 locs1 0 0 Q (F0 m (pc + 3) ls rest)) : W p l e (rmD d) s m args below meth c H locs 0 0 Q (F0 m pc ls st0) := by
  refine va_callv hr D0.2 (fun q _ h => h) (fun q h => h) (fun v t H1 locs1 ht hvm hp hB hz hk hS => ?_)
  subst hp
  exact kk H1 locs1 ⟨by rw [← ht]; exact hB, hS⟩
theorem x_cqp {a : Array Value} {st0 : List Value} {u : Option Nat} (hr : va_Run p l e (rmD d) s m args below meth c H locs 0 0 0 0 (F0 m pc ls st0) rest (Qqp g S u a) (gA g)) (D0 : Dy g s S H locs) (kk : ∀ (H1 : Heap) (locs1 : List Loc), Dy g s S H1 locs1 → W p l e (rmD d) s m args below meth c H1 locs1 0 0 Q (F0 m (pc + 3) ls (va_rf u :: rest))) : W p l e (rmD d) s m args below meth c H locs 0 0 Q (F0 m pc ls st0) := by
  refine va_callq hr D0.2 (fun q _ h => h) (fun q h => h) (fun r v t H1 locs1 ht hvm hp hB hz hk hS => ?_)
  obtain ⟨rfl, rfl⟩ := hp
  exact kk H1 locs1 ⟨by rw [← ht]; exact hB, hS⟩
/-- a contract out of the walk of its body -/
theorem z_go {rm : Room} {av : List Value} {lv0 : List (Nat × Value)} (hD : GD g) (hy : plainName y.cls = true) (ho : y.cls = own) (hle : (lg_sl av).length ≤ nL) (ha : lv_args 0 av = lv0)
    (body : ∀ (p : Program) (e : Env) (s : State) (m : MethodId) (args : Array Value) (below : List Frame) (meth : Method) (c : Code), Cx p s m args meth c cc own nL ret g → Dy g s S s.heap [] → ∀ ls : Array Slot, lv_has ls nL lv0 → W p l e rm s m args below meth c s.heap [] 0 0 (MQ below Qc args s 0 0 (gA g)) (F0 m 0 ls [])) : Met l y (mw y cc nL ret) rm (Pw g av S) Qc 0 0 (gA g) := by
  refine Met.ofW (cc := cc) (maxL := nL) (ret := ret) hy rfl ?_
  intro p e s m args below meth c s₁ B hml hv
  obtain ⟨rfl, hP, hSta⟩ := hv
  have hl := lv_entry av hle
  rw [lg_entry_eq]
  rw [ha] at hl
  subst ho
  exact body p e s m _ below meth c ⟨B.exec, B.bytes, hml, findClass_of_methodNamed B.named, fun w hw => atoms_spec (ws := mw y cc nL ret) B.pre w (List.mem_cons_of_mem _ hw), hSta, hD, B.returns, B.notSynchronized⟩ ⟨hP, va_S.rf⟩ _ hl
end ZC
theorem if_t {α : Type} {c : Prop} {dd : Decidable c} {x y o : α} (hc : c) (h : @ite _ c dd x y = o) : x = o := by rw [if_pos hc] at h; exact h
theorem if_f {α : Type} {c : Prop} {dd : Decidable c} {x y o : α} (hc : ¬ c) (h : @ite _ c dd x y = o) : y = o := by rw [if_neg hc] at h; exact h
theorem i3 {k n : Nat} (hk : k < 6) (hn : n < 3) : 3 * k + n < 18 := by omega
