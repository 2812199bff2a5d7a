def Tx (S : zSt) (n : Nat) (t : Nat → Nat) : Prop := n ≤ 40 ∧ S 2 1 = nI n ∧ S 66 1 = nI n ∧ ∀ j, j < n → S 3 j = nI (t j) ∧ S 67 j = nI (t j) ∧ 33 ≤ t j ∧ t j ≤ 126
theorem Rd_tx {S : zSt} (h : Rd S) : ∃ n t, Tx S n t := by
  obtain ⟨q1, ⟨p1, p2, p3⟩, q3, q4, q5, -⟩ := h
  obtain ⟨n, hn, e⟩ := toN 40 p1 p2 (by decide)
  refine ⟨n, fun j => (S 3 j).toNatClampNeg, hn, e, by rw [p3, e], fun j hj => ?_⟩
  obtain ⟨z1, z2⟩ := q5 j (by rw [e, nI_clamp (by omega)]; exact hj)
  obtain ⟨k, hk, ek⟩ := toN 126 (Int32.le_trans (by decide) z1) z2 (by decide)
  have h33 := z1
  rw [ek] at h33
  have := (nI_leI (a := 33) (by omega) (by omega)).mp h33
  have et : (S 3 j).toNatClampNeg = k := by rw [ek, nI_clamp (by omega)]
  show S 3 j = nI (S 3 j).toNatClampNeg ∧ S 67 j = nI (S 3 j).toNatClampNeg ∧ 33 ≤ (S 3 j).toNatClampNeg ∧ (S 3 j).toNatClampNeg ≤ 126
  rw [q4 j (by omega), et, ek]
  exact ⟨rfl, rfl, this, hk⟩
def tat (n : Nat) (t : Nat → Nat) (i : Nat) : Nat := if i < n then t i else 0
theorem tat_lt {S : zSt} {n : Nat} {t : Nat → Nat} (h : Tx S n t) (i : Nat) : tat n t i < 127 := by
  unfold tat
  by_cases hi : i < n
  · rw [if_pos hi]; have := (h.2.2.2 i hi).2.2.2; omega
  · rw [if_neg hi]; omega
theorem at_cls {S : zSt} {n : Nat} {t : Nat → Nat} (h : Tx S n t) {i : Nat} (hi : i < 1000) : f_PathTemplate_at (nI i) S = some (nI (tat n t i)) := by
  obtain ⟨h1, h2, -, h4⟩ := h
  unfold f_PathTemplate_at f_PathTemplate_at_21 tat
  have z : ¬ nI i < 0 := nI_pos (by omega)
  rw [if_neg z, h2]
  by_cases hn : i < n
  · obtain ⟨e, -, -, e2⟩ := h4 i hn
    rw [if_neg (fun q => by have := (nI_leI (by omega) (by omega)).mp q; omega), gdiN (by omega) (by omega), nI_clamp (by omega), e, if_pos hn, gdcN (by omega)]
  · rw [if_pos ((nI_leI (by omega) (by omega)).mpr (by omega)), if_neg hn]
    rfl
theorem at_mo {S : zSt} {n : Nat} {t : Nat → Nat} (h : Tx S n t) {i : Nat} (hi : i < 1000) : f_Mo_character (nI i) S = some (nI (tat n t i)) := by
  obtain ⟨h1, -, h2, h4⟩ := h
  unfold f_Mo_character f_Mo_character_21 tat
  have z : ¬ nI i < 0 := nI_pos (by omega)
  rw [if_neg z, h2]
  by_cases hn : i < n
  · obtain ⟨-, e, -, e2⟩ := h4 i hn
    rw [if_neg (fun q => by have := (nI_leI (by omega) (by omega)).mp q; omega), gdiN (by omega) (by omega), nI_clamp (by omega), e, if_pos hn]
  · rw [if_pos ((nI_leI (by omega) (by omega)).mpr (by omega)), if_neg hn]
    rfl
def pv (c : Nat) : Nat := if c = 44 then 2 else if c = 125 then 0 else 6
def pl (p c : Nat) : Nat := if p = 0 then (if c = 123 then 1 else if cLi c then 0 else 6) else if p = 1 then (if cOp c then 2 else if cSm c then 3 else 6) else if p = 2 then (if cSm c then 3 else 6) else if p = 3 then (if c = 42 then 5 else if c = 58 then 4 else pv c) else if p = 4 then (if c < 49 ∨ 57 < c then 6 else 5) else if p = 5 then pv c else 6
theorem pl_le (p c : Nat) : pl p c ≤ 6 := by unfold pl pv; grind (splits := 40)
theorem pv_cls (S : zSt) {c : Nat} (hc : c < 65536) : f_PathTemplate_placeBehindVariable (nI c) S = some (nI (pv c)) := by
  unfold f_PathTemplate_placeBehindVariable pv
  simp (disch := omega) only [lit, nI_eq]
  grind
theorem pl_cls (S : zSt) {p c : Nat} (hp : p ≤ 6) (hc : c < 65536) : f_PathTemplate_placeBehind (nI p) (nI c) S = some (nI (pl p c)) := by
  unfold f_PathTemplate_placeBehind f_PathTemplate_placeBehind_144 pl
  rw [ch_lit S hc, ch_op S hc, ch_small S hc, pv_cls S hc]
  simp (disch := omega) only [lit, nI_eq, nI_ltI, Option.bind_some]
  have b1 : ∀ b : Bool, (bI b = nI 0) ↔ b = false := bI_0
  simp only [b1]
  grind (splits := 40)
def rn (t : Nat → Nat) : Nat → Nat → Nat → Nat
  | 0, p, _ => p
  | k + 1, p, i => rn t k (pl p (t i)) (i + 1)
theorem wf_loop {S : zSt} {n : Nat} {t : Nat → Nat} (h : Tx S n t) : ∀ m i p, i ≤ n → n - i < m → p ≤ 6 → f_PathTemplate_isWellFormed_16 m (nI p) (nI i) S = some (bI (rn t (n - i) p i == 0)) := by
  obtain ⟨h1, h2, -, h4⟩ := h
  intro m
  induction m with
  | zero => intro i p a b; omega
  | succ m ih =>
    intro i p a b hp
    rw [f_PathTemplate_isWellFormed_16, h2]
    by_cases hn : n ≤ i
    · rw [if_pos ((nI_leI (by omega) (by omega)).mpr hn), show n - i = 0 by omega]
      simp only [rn, gdb_0, gdb_1]
      by_cases hp0 : p = 0
      · subst hp0; rfl
      · have hne : ¬ nI p = 0 := fun z => hp0 ((nI_eq (b := 0) (by omega) (by omega)).mp z)
        rw [if_neg hne]
        simp [bI, hp0]
    · obtain ⟨e, -, -, e2⟩ := h4 i (by omega)
      rw [if_neg (fun q => hn ((nI_leI (by omega) (by omega)).mp q)), gdiN (by omega) (by omega), nI_clamp (by omega), e, pl_cls S hp (by omega)]
      simp only [Option.bind_some]
      rw [nI_1, ih (i + 1) _ (by omega) (by omega) (pl_le _ _)]
      obtain ⟨k, hk⟩ : ∃ k, n - i = k + 1 := ⟨n - i - 1, by omega⟩
      rw [hk, show n - (i + 1) = k by omega]
      rfl
theorem wf_cls {S : zSt} {n : Nat} {t : Nat → Nat} (h : Tx S n t) : f_PathTemplate_isWellFormed S = some (bI (decide (tat n t 0 = 47) && (rn t n 0 0 == 0))) := by
  unfold f_PathTemplate_isWellFormed
  have e0 : f_PathTemplate_at 0 S = some (nI (tat n t 0)) := at_cls (i := 0) h (by omega)
  have hl := tat_lt h 0
  rw [e0]
  simp only [Option.bind_some]
  by_cases h0 : tat n t 0 = 47
  · have h47 : nI (tat n t 0) = 47 := by rw [h0]; rfl
    rw [if_pos h47, h0]
    have := wf_loop h fu 0 0 (by omega) (by unfold fu; have := h.1; omega) (by omega)
    rw [show (f_PathTemplate_isWellFormed_16 fu 0 0 S) = f_PathTemplate_isWellFormed_16 fu (nI 0) (nI 0) S from rfl, this]
    simp
  · have h47 : ¬ nI (tat n t 0) = 47 := fun z => h0 ((nI_eq (b := 47) (by omega) (by omega)).mp z)
    rw [if_neg h47, gdb_0]
    simp [h0, bI]
def inn (t : Nat → Nat) : Nat → Bool
  | 0 => false
  | p + 1 => decide (t p = 123) || (inn t p && decide (t p ≠ 125))
theorem var_loop {S : zSt} {n : Nat} {t : Nat → Nat} (h : Tx S n t) : ∀ m j, j ≤ n → j < m → f_PathTemplate_isVariable_17 m (nI j - 1) S = some (bI (inn t j)) := by
  obtain ⟨h1, h2, -, h4⟩ := h
  intro m
  induction m with
  | zero => intro j a b; omega
  | succ m ih =>
    intro j a b
    rw [f_PathTemplate_isVariable_17]
    cases j with
    | zero =>
      have z : nI 0 - 1 < 0 := by decide
      rw [if_pos z, gdb_0]
      rfl
    | succ j =>
      rw [nI_pred]
      have z : ¬ nI j < 0 := nI_pos (by omega)
      obtain ⟨e, -, -, e2⟩ := h4 j (by omega)
      rw [if_neg z]
      simp (disch := omega) only [gdiN, nI_clamp, e, f_PathTemplate_isVariable_43, lit, nI_eq, inn]
      by_cases c1 : t j = 123
      · simp [c1, gdb, bI, lit]
      · by_cases c2 : t j = 125
        · simp [c2, gdb, bI, lit]
        · have e3 : nI j + -nI 1 = nI j - 1 := by rw [Int32.sub_eq_add_neg]; rfl
          rw [if_neg c1, if_neg c2, e3, ih j (by omega) (by omega)]
          simp [c1, c2]
theorem var_cls {S : zSt} {n : Nat} {t : Nat → Nat} (h : Tx S n t) {i : Nat} (hi : i ≤ n) : f_PathTemplate_isVariable (nI i) S = some (bI (inn t i && cSm (tat n t i))) := by
  unfold f_PathTemplate_isVariable
  have hl := tat_lt h i
  have := h.1
  rw [at_cls h (by omega)]
  simp only [Option.bind_some]
  rw [ch_small S (by omega)]
  simp only [Option.bind_some, bI_0, gdb_0]
  rw [var_loop h fu i hi (by unfold fu; omega)]
  cases cSm (tat n t i) <;> simp [bI]
theorem mvar_loop {S : zSt} {n : Nat} {t : Nat → Nat} (h : Tx S n t) {p : Nat} (hp : p ≤ n) : ∀ m q, q ≤ p → p - q < m → f_Mo_variableAt_4 m (nI p) (bI (inn t q)) (nI q) S = some (bI (inn t p && cSm (tat n t p))) := by
  have hT := h
  obtain ⟨h1, -, h2, h4⟩ := h
  intro m
  induction m with
  | zero => intro q a b; omega
  | succ m ih =>
    intro q a b
    have hl := tat_lt hT p
    rw [f_Mo_variableAt_4]
    by_cases hq : p ≤ q
    · have hqp : q = p := by omega
      subst hqp
      rw [if_pos ((nI_leI (by omega) (by omega)).mpr hq)]
      simp only [bI_0, f_Mo_variableAt_66, gdb_0, gdb_1]
      rw [at_mo hT (by omega)]
      simp only [Option.bind_some]
      rw [mo_small S (by omega)]
      simp only [Option.bind_some, bI_0]
      cases inn t q <;> cases cSm (tat n t q) <;> simp [bI]
    · obtain ⟨-, e, -, e2⟩ := h4 q (by omega)
      rw [if_neg (fun z => hq ((nI_leI (by omega) (by omega)).mp z))]
      have i1 := ih (q + 1) (by omega) (by omega)
      simp (disch := omega) only [gdiN, nI_clamp, e, f_Mo_variableAt_35, f_Mo_variableAt_39, f_Mo_variableAt_40, nI_1, bI_0]
      have c123 : (nI (t q) = 123) ↔ t q = 123 := nI_eq (b := 123) (by omega) (by omega)
      have c125 : (nI (t q) = 125) ↔ t q = 125 := nI_eq (b := 125) (by omega) (by omega)
      simp only [c123, c125]
      have b1 : (1 : Int32) = bI true := rfl
      have b0 : (0 : Int32) = bI false := rfl
      rw [b1, b0]
      simp only [inn] at i1
      by_cases c1 : t q = 123
      · simp only [c1, if_true] at i1 ⊢
        exact i1
      · by_cases c2 : t q = 125
        · cases hin : inn t q <;> simp [c1, c2, hin] at i1 ⊢ <;> exact i1
        · cases hin : inn t q <;> simp [c1, c2, hin] at i1 ⊢ <;> exact i1
theorem var_mo {S : zSt} {n : Nat} {t : Nat → Nat} (h : Tx S n t) {p : Nat} (hp : p ≤ n) : f_Mo_variableAt (nI p) S = some (bI (inn t p && cSm (tat n t p))) := by
  unfold f_Mo_variableAt
  exact mvar_loop h hp fu 0 (by omega) (by unfold fu; have := h.1; omega)
