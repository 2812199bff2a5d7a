-- the class's line: its characters g 0 .. g (len - 1)
def Lx (S : zSt) (len : Nat) (g : Nat → Nat) : Prop := len ≤ 60 ∧ S 7 1 = nI len ∧ ∀ j, j < len → S 8 j = nI (g j) ∧ g j < 127
theorem tat_127 {n : Nat} {g : Nat → Nat} (h : ∀ j, j < n → g j < 127) (i : Nat) : tat n g i < 127 := by
  unfold tat
  by_cases hi : i < n
  · rw [if_pos hi]; exact h i hi
  · rw [if_neg hi]; omega
theorem tat_in {n : Nat} {g : Nat → Nat} {i : Nat} (h : i < n) : tat n g i = g i := by unfold tat; rw [if_pos h]
section LN
variable {S : zSt} {len : Nat} {g : Nat → Nat}
theorem ln_at (h : Lx S len g) {i : Nat} (hi : i < 1000) : f_Line_at (nI i) S = some (nI (tat len g i)) := by
  obtain ⟨h1, h2, h4⟩ := h
  unfold f_Line_at f_Line_at_21 tat
  have z : ¬ nI i < 0 := nI_pos (by omega)
  rw [if_neg z, h2]
  by_cases hn : i < len
  · obtain ⟨e, e2⟩ := h4 i hn
    rw [if_neg (fun q => by have := (nI_leI (by omega) (by omega)).mp q; omega), gdiN (by omega) (by omega), nI_clamp (by omega), e, if_pos hn, gdcN (by omega)]
  · rw [if_pos ((nI_leI (by omega) (by omega)).mpr (by omega)), if_neg hn]
    rfl
/-- the colon behind a field's name -/
def cbF (g : Nat → Nat) : Nat → Nat → Option Nat
  | 0, _ => none
  | m + 1, i => if g i = 58 then (if 0 < i then some i else none) else if cLD (g i) = true ∨ g i = 45 then cbF g m (i + 1) else none
theorem cbF_s (g : Nat → Nat) (m i : Nat) : cbF g (m + 1) i = if g i = 58 then (if 0 < i then some i else none) else if cLD (g i) = true ∨ g i = 45 then cbF g m (i + 1) else none := rfl
theorem ln_colon (h : Lx S len g) : ∀ m i, i ≤ len → len - i < m → f_Line_colonBehindName_2 m (nI i) S = some (oI (cbF g (len - i) i)) := by
  intro m
  induction m with
  | zero => intro i a b; omega
  | succ m ih =>
    intro i a b
    have hn := h.1
    rw [f_Line_colonBehindName_2, h.2.1]
    by_cases hi : len ≤ i
    · rw [if_pos ((nI_leI (by omega) (by omega)).mpr hi), show len - i = 0 by omega]
      rfl
    · obtain ⟨e, e2⟩ := h.2.2 i (by omega)
      obtain ⟨j, hj⟩ : ∃ j, len - i = j + 1 := ⟨len - i - 1, by omega⟩
      have i1 := ih (i + 1) (by omega) (by omega)
      rw [show len - (i + 1) = j by omega] at i1
      have c58 : (nI (g i) = 58) ↔ g i = 58 := nI_eq (b := 58) (by omega) (by omega)
      have c45 : (nI (g i) = 45) ↔ g i = 45 := nI_eq (b := 45) (by omega) (by omega)
      have c0 : (nI i ≤ 0) ↔ i ≤ 0 := nI_leI (b := 0) (by omega) (by omega)
      rw [if_neg (fun z => hi ((nI_leI (by omega) (by omega)).mp z)), hj, cbF_s]
      simp (disch := omega) only [gdiN, nI_clamp, e, c58, c45, c0, ch_ld S, Option.bind_some, bI_0, f_Line_colonBehindName_56, nI_1, i1]
      by_cases y1 : g i = 58
      · rw [if_pos y1, if_pos y1]
        by_cases y2 : i ≤ 0
        · rw [if_pos y2, if_neg (by omega)]; rfl
        · rw [if_neg y2, if_pos (by omega)]; rfl
      · rw [if_neg y1, if_neg y1]
        cases y3 : cLD (g i) with
        | true => simp
        | false =>
          by_cases y4 : g i = 45
          · simp [y4]
          · simp [y4, oI]
theorem ln_colon0 (h : Lx S len g) : f_Line_colonBehindName S = some (oI (cbF g len 0)) := ln_colon h fu 0 (by omega) (by unfold fu; have := h.1; omega)
def sbF (g : Nat → Nat) : Nat → Nat → Nat
  | 0, i => i
  | m + 1, i => if cBl (g i) = true then sbF g m (i + 1) else i
theorem sbF_s (g : Nat → Nat) (m i : Nat) : sbF g (m + 1) i = if cBl (g i) = true then sbF g m (i + 1) else i := rfl
theorem ln_skip (h : Lx S len g) : ∀ m i, i ≤ len → len - i < m → f_Line_skipBlanks_2 m (nI i) S = some (nI (sbF g (len - i) i)) := by
  intro m
  induction m with
  | zero => intro i a b; omega
  | succ m ih =>
    intro i a b
    have hn := h.1
    rw [f_Line_skipBlanks_2, h.2.1]
    by_cases hi : len ≤ i
    · rw [if_pos ((nI_leI (by omega) (by omega)).mpr hi), show len - i = 0 by omega]
      rfl
    · obtain ⟨e, e2⟩ := h.2.2 i (by omega)
      obtain ⟨j, hj⟩ : ∃ j, len - i = j + 1 := ⟨len - i - 1, by omega⟩
      have i1 := ih (i + 1) (by omega) (by omega)
      rw [show len - (i + 1) = j by omega] at i1
      rw [if_neg (fun z => hi ((nI_leI (by omega) (by omega)).mp z)), hj, sbF_s, ln_at h (by omega), tat_in (by omega)]
      simp (disch := omega) only [Option.bind_some, ch_blank S, bI_0, nI_1, i1]
      cases cBl (g i) <;> simp
theorem ln_skip0 (h : Lx S len g) {i : Nat} (hi : i ≤ len) : f_Line_skipBlanks (nI i) S = some (nI (sbF g (len - i) i)) := ln_skip h fu i hi (by unfold fu; have := h.1; omega)
/-- the end without blanks, from e down to f -/
def ebF (g : Nat → Nat) (f : Nat) : Nat → Nat
  | 0 => 0
  | e + 1 => if f < e + 1 ∧ cBl (g e) = true then ebF g f e else e + 1
theorem ln_eb (h : Lx S len g) {f : Nat} (hf : f ≤ len) : ∀ m e, e ≤ len → e < m → f_Line_endWithoutBlanks_5 m (nI f) (nI e) S = some (nI (ebF g f e)) := by
  intro m
  induction m with
  | zero => intro e a b; omega
  | succ m ih =>
    intro e a b
    have hn := h.1
    rw [f_Line_endWithoutBlanks_5]
    by_cases hi : e ≤ f
    · rw [if_pos ((nI_leI (by omega) (by omega)).mpr hi)]
      cases e with
      | zero => rfl
      | succ e =>
        unfold ebF
        rw [if_neg (by omega)]
    · rw [if_neg (fun z => hi ((nI_leI (by omega) (by omega)).mp z))]
      cases e with
      | zero => omega
      | succ e =>
        have i1 := ih e (by omega) (by omega)
        obtain ⟨y1, y2⟩ := h.2.2 e (by omega)
        rw [nI_pred, pk_m1, ln_at h (by omega), tat_in (by omega)]
        simp (disch := omega) only [Option.bind_some, ch_blank S, bI_0, i1]
        unfold ebF
        cases hb : cBl (g e) with
        | true => rw [if_neg (by simp), if_pos ⟨by omega, rfl⟩]; cases e <;> rfl
        | false => rw [if_pos rfl, if_neg (by simp)]
theorem ln_eb0 (h : Lx S len g) {f : Nat} (hf : f ≤ len) : f_Line_endWithoutBlanks (nI f) S = some (nI (ebF g f len)) := by
  unfold f_Line_endWithoutBlanks
  rw [h.2.1]
  exact ln_eb h hf fu len (by omega) (by unfold fu; have := h.1; omega)
end LN
