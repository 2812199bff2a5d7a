-- what is sent: bytes put one behind another, on either side
theorem gd_app (l x : List Nat) (j : Nat) : (l ++ x).getD j 0 = if j < l.length then l.getD j 0 else x.getD (j - l.length) 0 := by
  rw [List.getD_eq_getElem?_getD, List.getElem?_append]
  split <;> simp [List.getD_eq_getElem?_getD]
theorem gdzN {α : Type} {c : Int32} {x : Option α} (h : c ≠ 0) : gdz c x = x := by
  unfold gdz
  rw [if_neg h]
theorem bl_le : ∀ k, k < 4 → bl k ≤ 1000 := by decide
def bN (b : Nat) : Int32 := vp_nar .byte ((nI b).toInt8.toInt32)
theorem bN_63 : ∀ b, b < 256 → ((bN b = 63) ↔ b = 63) := by decide +kernel
def Wc (S : zSt) (k : Nat) (l : List Nat) : Prop := S (58 + k) 1 = nI l.length ∧ (∀ j, j < l.length → j < bl k → S (62 + k) j = bN (l.getD j 0)) ∧ ∀ b ∈ l, b < 256
def Fp (k : Nat) (S S' : zSt) : Prop := ∀ i j, i ≠ 58 + k → i ≠ 62 + k → S' i j = S i j
def Pc (k : Nat) (S : zSt) (x : List Nat) (o : Option zSt) : Prop := ∀ l, Wc S k l → l.length + x.length ≤ 100000 → ∃ S', o = some S' ∧ Wc S' k (l ++ x) ∧ Fp k S S'
theorem Fp_rf {k : Nat} {S : zSt} : Fp k S S := fun _ _ _ _ => rfl
theorem Fp_tr {k : Nat} {S S' S'' : zSt} (h : Fp k S S') (h' : Fp k S' S'') : Fp k S S'' := fun i j a b => (h' i j a b).trans (h i j a b)
section PC
variable {k : Nat} {S : zSt} {x y : List Nat}
theorem Pc_nil : Pc k S [] (some S) := fun l hl _ => ⟨S, rfl, by rw [List.append_nil]; exact hl, Fp_rf⟩
theorem Pc_bind {o : Option zSt} {f : zSt → Option zSt} (h : Pc k S x o) (hf : ∀ S', Fp k S S' → Pc k S' y (f S')) : Pc k S (x ++ y) (o.bind f) := by
  intro l hl hb
  rw [List.length_append] at hb
  obtain ⟨S1, e1, w1, f1⟩ := h l hl (by omega)
  obtain ⟨S2, e2, w2, f2⟩ := hf S1 f1 (l ++ x) w1 (by rw [List.length_append]; omega)
  refine ⟨S2, by rw [e1]; exact e2, by rw [← List.append_assoc]; exact w2, Fp_tr f1 f2⟩
theorem Pc_end {o : Option zSt} (h : Pc k S x o) : Pc k S x (o.bind fun u => some u) := by
  cases o with
  | none => exact h
  | some u => exact h
theorem Wc_put (hk : k < 4) {l : List Nat} {b b' : Nat} (hb : b < 256) (hb' : b' < 256) (he : l.length < bl k → b = b') (hl : Wc S k l) (hll : l.length < 100000) : ∃ S', f_ByteRow_put k (nI b) S = some S' ∧ Wc S' k (l ++ [b']) ∧ Fp k S S' := by
  have hbl := bl_le k hk
  obtain ⟨h1, h2, h3⟩ := hl
  have last : ∀ T : zSt, T (58 + k) 1 = nI l.length → (∀ j, j < l.length → j < bl k → T (62 + k) j = bN (l.getD j 0)) → (l.length < bl k → T (62 + k) l.length = bN b') → Fp k S T → ∃ S', f_ByteRow_put_23 k T = some S' ∧ Wc S' k (l ++ [b']) ∧ Fp k S S' := by
    intro T t1 t2 t3 t4
    unfold f_ByteRow_put_23 sq
    rw [t1, nI_1]
    refine ⟨_, rfl, ⟨by rw [su_eq, List.length_append]; rfl, fun j hj hj2 => ?_, fun x hx => ?_⟩, fun i j a c => by rw [su_ne (Or.inl a)]; exact t4 i j a c⟩
    · rw [su_ne (Or.inl (by omega)), gd_app]
      rw [List.length_append] at hj
      simp at hj
      by_cases c : j < l.length
      · rw [if_pos c]; exact t2 j c hj2
      · have : j = l.length := by omega
        subst this
        rw [if_neg c, Nat.sub_self]
        exact t3 hj2
    · rcases List.mem_append.mp hx with y | y
      · exact h3 x y
      · simp at y; omega
  unfold f_ByteRow_put
  rw [h1]
  have cb : (Int32.ofNat (bl k) ≤ nI l.length) ↔ bl k ≤ l.length := nI_leI (a := bl k) (by omega) (by omega)
  simp only [cb]
  by_cases c : bl k ≤ l.length
  · rw [if_pos c]
    exact last S h1 h2 (fun z => by omega) Fp_rf
  · rw [if_neg c, gdiN (by omega) (by omega), nI_clamp (by omega)]
    unfold sq
    dsimp only
    have heq := he (by omega)
    subst heq
    refine last _ (by rw [su_ne (Or.inl (by omega))]; exact h1) (fun j hj hj2 => by rw [su_ne (Or.inr (by omega))]; exact h2 j hj hj2) (fun _ => by rw [su_eq]; rfl) (fun i j a d => su_ne (Or.inl d))
theorem Pc_put (hk : k < 4) {b : Nat} (hb : b < 256) : Pc k S [b] (f_ByteRow_put k (nI b) S) := by
  intro l hl hbd
  exact Wc_put hk hb hb (fun _ => rfl) hl (by simp at hbd; omega)
end PC
def Wp (as : Bool) (S : zSt) (l : List Nat) (fl : Bool) : Prop := match as with
  | false => S 66 14 = 0 ∧ S 66 11 = nI l.length ∧ (∀ j, j < l.length → j < 1000 → S 74 j = nI (l.getD j 0)) ∧ ((S 66 13 = 0) ↔ fl = false)
  | true => S 66 14 = 1 ∧ S 66 15 = nI l.length ∧ ∀ j, j < l.length → S 75 j = nI (l.getD j 0)
def Fo (as : Bool) (S S' : zSt) : Prop := match as with
  | false => ∀ i k, i ≠ 74 → (i ≠ 66 ∨ (k ≠ 11 ∧ k ≠ 13)) → S' i k = S i k
  | true => ∀ i k, i ≠ 75 → (i ≠ 66 ∨ k ≠ 15) → S' i k = S i k
def rmP (as : Bool) : Nat := if as = true then 1400 else 100000
def Pu (as : Bool) (S : zSt) (x : List Nat) (o : Option zSt) : Prop := ∀ l fl, Wp as S l fl → l.length + x.length ≤ rmP as → ∃ S', o = some S' ∧ Wp as S' (l ++ x) (fl || decide (63 ∈ x)) ∧ Fo as S S'
theorem Fo_rf {as : Bool} {S : zSt} : Fo as S S := by
  cases as with
  | false => exact fun _ _ _ _ => rfl
  | true => exact fun _ _ _ _ => rfl
theorem Fo_tr {as : Bool} {S S' S'' : zSt} (h : Fo as S S') (h' : Fo as S' S'') : Fo as S S'' := by
  cases as with
  | false => exact fun i j a b => (h' i j a b).trans (h i j a b)
  | true => exact fun i j a b => (h' i j a b).trans (h i j a b)
/-- the cells that the reference only reads -/
theorem Fo_ro {as : Bool} {S S' : zSt} (h : Fo as S S') {i k : Nat} (hi : i ≠ 74) (hi2 : i ≠ 75) (hk : i ≠ 66 ∨ k ≤ 10 ∨ 16 ≤ k) : S' i k = S i k := by
  cases as with
  | false => exact h i k hi (by omega)
  | true => exact h i k hi2 (by omega)
section PU
variable {as : Bool} {S : zSt} {x y : List Nat}
theorem Pu_nil : Pu as S [] (some S) := fun l fl hl _ => ⟨S, rfl, by rw [List.append_nil]; simpa using hl, Fo_rf⟩
theorem Pu_bind {o : Option zSt} {f : zSt → Option zSt} (h : Pu as S x o) (hf : ∀ S', Fo as S S' → Pu as S' y (f S')) : Pu as S (x ++ y) (o.bind f) := by
  intro l fl hl hb
  rw [List.length_append] at hb
  obtain ⟨S1, e1, w1, f1⟩ := h l fl hl (by omega)
  obtain ⟨S2, e2, w2, f2⟩ := hf S1 f1 (l ++ x) _ w1 (by rw [List.length_append]; omega)
  refine ⟨S2, by rw [e1]; exact e2, ?_, Fo_tr f1 f2⟩
  have e : (fl || decide (63 ∈ x ++ y)) = ((fl || decide (63 ∈ x)) || decide (63 ∈ y)) := by
    simp [List.mem_append, Bool.decide_or, Bool.or_assoc]
  rw [← List.append_assoc, e]
  exact w2
theorem Pu_end {o : Option zSt} (h : Pu as S x o) : Pu as S x (o.bind fun u => some u) := by
  cases o with
  | none => exact h
  | some u => exact h
theorem Pu_put {b : Nat} (hb : b < 256) : Pu as S [b] (f_Mo_put (nI b) S) := by
  intro l fl hl hbd
  have hlen : (l ++ [b]).length = l.length + 1 := by simp
  unfold f_Mo_put
  cases as with
  | true =>
    obtain ⟨h1, h2, h3⟩ := hl
    have hll : l.length < 1400 := by
      have : l.length + 1 ≤ 1400 := hbd
      omega
    rw [h1, if_neg (by decide), h2, gdiN (by omega) (by omega), nI_clamp (by omega)]
    unfold sq
    dsimp only
    rw [su_ne (by omega), h2, nI_1]
    refine ⟨_, rfl, ⟨?_, ?_, fun j hj => ?_⟩, fun i k a c => ?_⟩
    · rw [su_ne (by omega), su_ne (by omega)]; exact h1
    · rw [su_eq, hlen]
    · rw [su_ne (by omega), gd_app, su_ap]
      rw [hlen] at hj
      by_cases c : j < l.length
      · rw [if_neg (by omega), if_pos c]; exact h3 j c
      · rw [if_pos ⟨rfl, by omega⟩, if_neg c, show j - l.length = 0 by omega]; rfl
    · rw [su_ne (by omega), su_ne (by omega)]
  | false =>
    obtain ⟨h1, h2, h3, h4⟩ := hl
    have hll : l.length < 100000 := by
      have : l.length + 1 ≤ 100000 := hbd
      omega
    have b63 : (nI b = 63) ↔ b = 63 := nI_eq (b := 63) (by omega) (by omega)
    have last : ∀ T : zSt, T 66 14 = 0 → T 66 11 = nI l.length → ((T 66 13 = 0) ↔ fl = false) → (∀ j, j < l.length + 1 → j < 1000 → T 74 j = nI ((l ++ [b]).getD j 0)) → Fo false S T → ∃ S', f_Mo_put_48 (nI b) T = some S' ∧ Wp false S' (l ++ [b]) (fl || decide (63 ∈ [b])) ∧ Fo false S S' := by
      intro T t1 t2 t3 t4 t5
      have fin : ∀ v : Bool, v = (fl || decide (63 ∈ [b])) → Wp false (su (su T 66 11 (nI (l.length + 1))) 66 13 (bI v)) (l ++ [b]) (fl || decide (63 ∈ [b])) ∧ Fo false S (su (su T 66 11 (nI (l.length + 1))) 66 13 (bI v)) := by
        intro v hv
        refine ⟨⟨?_, ?_, fun j hj hj2 => ?_, ?_⟩, fun i k a c => ?_⟩
        · rw [su_ne (by omega), su_ne (by omega)]; exact t1
        · rw [su_ne (by omega), su_eq, hlen]
        · rw [su_ne (by omega), su_ne (by omega)]; exact t4 j (by omega) hj2
        · rw [su_eq, bI_0, hv]
        · rw [su_ne (by omega), su_ne (by omega)]; exact t5 i k a c
      unfold f_Mo_put_48 f_Mo_put_72 f_Mo_put_77 sq
      dsimp only
      rw [t2, nI_1, su_ne (by omega)]
      simp only [t3, b63, gdb_0, gdb_1]
      cases fl with
      | true =>
        rw [if_neg (by decide)]
        exact ⟨_, rfl, fin true (by simp)⟩
      | false =>
        rw [if_pos rfl]
        by_cases c : b = 63
        · rw [if_pos c]
          exact ⟨_, rfl, fin true (by simp [c])⟩
        · rw [if_neg c]
          exact ⟨_, rfl, fin false (by simp; omega)⟩
    rw [h1, if_pos rfl, h2]
    have cb : (1000 ≤ nI l.length) ↔ 1000 ≤ l.length := nI_leI (a := 1000) (by omega) (by omega)
    simp only [cb]
    by_cases c : 1000 ≤ l.length
    · rw [if_pos c]
      refine last S h1 h2 h4 (fun j hj hj2 => ?_) Fo_rf
      rw [gd_app, if_pos (by omega)]
      exact h3 j (by omega) hj2
    · rw [if_neg c, gdiN (by omega) (by omega), nI_clamp (by omega)]
      unfold sq
      dsimp only
      refine last _ (by rw [su_ne (by omega)]; exact h1) (by rw [su_ne (by omega)]; exact h2) (by rw [su_ne (by omega)]; exact h4) (fun j hj hj2 => ?_) (fun i k a c => su_ne (Or.inl a))
      rw [gd_app, su_ap]
      by_cases d : j < l.length
      · rw [if_neg (by omega), if_pos d]; exact h3 j d hj2
      · rw [if_pos ⟨rfl, by omega⟩, if_neg d, show j - l.length = 0 by omega]; rfl
end PU
