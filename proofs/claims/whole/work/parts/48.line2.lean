def nuF (h : Nat → Nat) : Nat → Nat → Nat → Option Nat
  | 0, _, acc => some acc
  | m + 1, i, acc => if cDg (h i) = true then nuF h m (i + 1) (acc * 10 + h i - 48) else none
theorem nuF_s (h : Nat → Nat) (m i acc : Nat) : nuF h (m + 1) i acc = if cDg (h i) = true then nuF h m (i + 1) (acc * 10 + h i - 48) else none := rfl
def nuS (h : Nat → Nat) (f e : Nat) : Option Nat := if e ≤ f ∨ 4 < e - f then none else nuF h (e - f) f 0
/-- a literal's characters -/
def lN_ (q j : Nat) : Nat := ((bytS.getD q []).getD j 0).toNatClampNeg
theorem lN_ok : ∀ q, q < nS → ∀ j, j < (bytS.getD q []).length → (bytS.getD q []).getD j 0 = nI (lN_ q j) ∧ lN_ q j < 128 := by decide +kernel
def allF (f : Nat → Bool) : Nat → Nat → Bool
  | 0, _ => true
  | m + 1, i => f i && allF f m (i + 1)
theorem allF_s (f : Nat → Bool) (m i : Nat) : allF f (m + 1) i = (f i && allF f m (i + 1)) := rfl
def hvN (c : Nat) : Nat := if c ≤ 57 then c - 48 else if c ≤ 70 then c - 55 else c - 87
def csF (h : Nat → Nat) : Nat → Nat → Nat → Nat × Nat
  | 0, d, acc => (d, acc)
  | m + 1, d, acc => if cHx (h d) = true then csF h m (d + 1) (acc * 16 + hvN (h d)) else (d, acc)
theorem csF_s (h : Nat → Nat) (m d acc : Nat) : csF h (m + 1) d acc = if cHx (h d) = true then csF h m (d + 1) (acc * 16 + hvN (h d)) else (d, acc) := rfl
theorem csF_le (h : Nat → Nat) : ∀ m d acc, (csF h m d acc).1 ≤ d + m := by
  intro m
  induction m with
  | zero => intro d acc; simp [csF]
  | succ m ih =>
    intro d acc
    rw [csF_s]
    by_cases z : cHx (h d) = true
    · rw [if_pos z]; have := ih (d + 1) (acc * 16 + hvN (h d)); omega
    · rw [if_neg z]; simp
section LN2
variable {S : zSt} {len : Nat} {g : Nat → Nat}
theorem ln_num (h : Lx S len g) {e : Nat} (he : e < 900) : ∀ m i acc, i ≤ e → e - i < m → f_Line_number_19 m (nI e) (nI acc) (nI i) S = some (oI (nuF (tat len g) (e - i) i acc)) := by
  intro m
  induction m with
  | zero => intro i acc a b; omega
  | succ m ih =>
    intro i acc a b
    rw [f_Line_number_19]
    by_cases hi : e ≤ i
    · rw [if_pos ((nI_leI (by omega) (by omega)).mpr hi), show e - i = 0 by omega]
      rfl
    · have hl := tat_127 (fun j hj => (h.2.2 j hj).2) i
      obtain ⟨j, hj⟩ : ∃ j, e - i = j + 1 := ⟨e - i - 1, by omega⟩
      rw [if_neg (fun z => hi ((nI_leI (by omega) (by omega)).mp z)), hj, nuF_s, ln_at h (by omega)]
      simp (disch := omega) only [Option.bind_some, ch_digit S, bI_0, nI_1]
      cases hd : cDg (tat len g i) with
      | false => simp [oI]
      | true =>
        have h48 : 48 ≤ tat len g i := by
          have : decide (48 ≤ tat len g i ∧ tat len g i ≤ 57) = true := hd
          simp at this
          omega
        have ea : (nI acc * 10 + nI (tat len g i)) - 48 = nI (acc * 10 + tat len g i - 48) := by
          rw [show (10 : Int32) = nI 10 from rfl, show (48 : Int32) = nI 48 from rfl, pk_mul, nI_add, pk_sub (by omega)]
        have i1 := ih (i + 1) (acc * 10 + tat len g i - 48) (by omega) (by omega)
        rw [show e - (i + 1) = j by omega] at i1
        simp only [ea, i1]
        simp
theorem ln_num0 (h : Lx S len g) {f e : Nat} (hf : f < 900) (he : e < 900) : f_Line_number (nI f) (nI e) S = some (oI (nuS (tat len g) f e)) := by
  unfold f_Line_number nuS
  by_cases h1 : e ≤ f
  · rw [if_pos ((nI_leI (by omega) (by omega)).mpr h1), if_pos (Or.inl h1)]
    rfl
  · have c4 : (nI (e - f) ≤ 4) ↔ e - f ≤ 4 := nI_leI (b := 4) (by omega) (by omega)
    rw [if_neg (fun z => h1 ((nI_leI (by omega) (by omega)).mp z)), pk_sub (by omega)]
    simp only [c4]
    by_cases h2 : e - f ≤ 4
    · rw [if_pos h2, if_neg (by omega)]
      exact ln_num h he fu f 0 (by omega) (by unfold fu; omega)
    · rw [if_neg h2, if_pos (by omega)]
      rfl
theorem str_at (S : zSt) {q : Nat} (hq : q < nS) {j : Nat} (hj : j < (bytS.getD q []).length) : f_String_charAt q (nI j) S = some (nI (lN_ q j)) := by
  obtain ⟨h1, h2, h3⟩ := by_ok q hq
  obtain ⟨e1, e2⟩ := lN_ok q hq j hj
  obtain ⟨-, y2, -⟩ := h3 j hj
  have z : ¬ nI j < 0 := nI_pos (by omega)
  have z2 : nI j < Int32.ofNat (lenS.getD q 0) := (nI_ltI (a := j) (b := lenS.getD q 0) (by omega) (by omega)).mpr (by omega)
  have ec : f_String_checkIndex (nI j) (Int32.ofNat (lenS.getD q 0)) S = some (nI j) := by
    unfold f_String_checkIndex f_Preconditions_checkIndex
    rw [if_neg z, if_pos z2]
  have eb : f_StringLatin1_charAt q (nI j) S = some (nI (lN_ q j)) := by
    unfold f_StringLatin1_charAt
    rw [ec]
    simp only [Option.bind_some]
    rw [gdiN (by omega) (by omega), nI_clamp (by omega), y2, e1, pk_char, pk_tn (by omega), Nat.mod_eq_of_lt (by omega), gdcN (by omega)]
  have el : f_String_isLatin1 q S = some 1 := by
    unfold f_String_isLatin1
    rfl
  unfold f_String_charAt
  rw [el, eb]
  simp only [Option.bind_some]
  rw [if_neg (by decide), gdcN (by omega)]
theorem ln_starts (h : Lx S len g) {q : Nat} (hq : q < nS) : ∀ m i, i ≤ (bytS.getD q []).length → (bytS.getD q []).length - i < m → f_Line_startsWith_2 m q (nI i) S = some (bI (allF (fun i => decide (tat len g i = lN_ q i)) ((bytS.getD q []).length - i) i)) := by
  obtain ⟨h1, h2, -⟩ := by_ok q hq
  intro m
  induction m with
  | zero => intro i a b; omega
  | succ m ih =>
    intro i a b
    rw [f_Line_startsWith_2, str_len S q hq, h1]
    simp only [Option.bind_some]
    by_cases hi : (bytS.getD q []).length ≤ i
    · rw [if_pos ((nI_leI (by omega) (by omega)).mpr hi), show (bytS.getD q []).length - i = 0 by omega, gdb_1]
      rfl
    · have hl := tat_127 (fun j hj => (h.2.2 j hj).2) i
      obtain ⟨e1, e2⟩ := lN_ok q hq i (by omega)
      obtain ⟨j, hj⟩ : ∃ j, (bytS.getD q []).length - i = j + 1 := ⟨(bytS.getD q []).length - i - 1, by omega⟩
      have i1 := ih (i + 1) (by omega) (by omega)
      rw [show (bytS.getD q []).length - (i + 1) = j by omega] at i1
      rw [if_neg (fun z => hi ((nI_leI (by omega) (by omega)).mp z)), hj, allF_s, ln_at h (by omega), str_at S hq (by omega)]
      simp (disch := omega) only [Option.bind_some, nI_eq, nI_1, i1, gdb_0]
      by_cases y : tat len g i = lN_ q i <;> simp [y, bI]
theorem ln_starts0 (h : Lx S len g) {q : Nat} (hq : q < nS) : f_Line_startsWith q S = some (bI (allF (fun i => decide (tat len g i = lN_ q i)) (bytS.getD q []).length 0)) := ln_starts h hq fu 0 (by omega) (by unfold fu; have := (by_ok q hq).2.1; omega)
theorem ln_word (h : Lx S len g) {q f : Nat} (hq : q < nS) (hf : f < 800) : ∀ m i, i ≤ (bytS.getD q []).length → (bytS.getD q []).length - i < m → f_Line_isWord_15 m (nI f) q (nI i) S = some (bI (allF (fun i => decide (cLow (tat len g (f + i)) = lN_ q i)) ((bytS.getD q []).length - i) i)) := by
  obtain ⟨h1, h2, -⟩ := by_ok q hq
  intro m
  induction m with
  | zero => intro i a b; omega
  | succ m ih =>
    intro i a b
    rw [f_Line_isWord_15, str_len S q hq, h1]
    simp only [Option.bind_some]
    by_cases hi : (bytS.getD q []).length ≤ i
    · rw [if_pos ((nI_leI (by omega) (by omega)).mpr hi), show (bytS.getD q []).length - i = 0 by omega, gdb_1]
      rfl
    · have hl := tat_127 (fun j hj => (h.2.2 j hj).2) (f + i)
      have hlow : cLow (tat len g (f + i)) < 200 := by
        unfold cLow
        split <;> omega
      obtain ⟨e1, e2⟩ := lN_ok q hq i (by omega)
      obtain ⟨j, hj⟩ : ∃ j, (bytS.getD q []).length - i = j + 1 := ⟨(bytS.getD q []).length - i - 1, by omega⟩
      have i1 := ih (i + 1) (by omega) (by omega)
      rw [show (bytS.getD q []).length - (i + 1) = j by omega] at i1
      rw [if_neg (fun z => hi ((nI_leI (by omega) (by omega)).mp z)), hj, allF_s, nI_add, ln_at h (by omega), str_at S hq (by omega)]
      simp (disch := omega) only [Option.bind_some, ch_toSmall S, nI_eq, nI_1, i1, gdb_0]
      by_cases y : cLow (tat len g (f + i)) = lN_ q i <;> simp [y, bI]
theorem ln_word0 (h : Lx S len g) {q f e : Nat} (hq : q < nS) (hf : f ≤ e) (he : e < 800) : f_Line_isWord (nI f) (nI e) q S = some (bI (decide (e - f = (bytS.getD q []).length) && allF (fun i => decide (cLow (tat len g (f + i)) = lN_ q i)) (bytS.getD q []).length 0)) := by
  obtain ⟨h1, h2, -⟩ := by_ok q hq
  unfold f_Line_isWord
  rw [str_len S q hq, h1, pk_sub hf]
  simp (disch := omega) only [Option.bind_some, nI_eq, gdb_0]
  have := ln_word h hq (f := f) (by omega) fu 0 (by omega) (by unfold fu; omega)
  rw [show nI 0 = 0 from rfl, Nat.sub_zero] at this
  rw [this]
  clear this h1 h2
  generalize (bytS.getD q []).length = L
  by_cases y : e - f = L <;> simp [y, bI]
theorem ln_cs (h : Lx S len g) : ∀ m d acc, d ≤ 3 → 3 - d < m → f_Line_chunkSize_4 m (nI acc) (nI d) S = f_Line_chunkSize_40 (nI (csF (tat len g) (3 - d) d acc).2) (nI (csF (tat len g) (3 - d) d acc).1) S := by
  intro m
  induction m with
  | zero => intro d acc a b; omega
  | succ m ih =>
    intro d acc a b
    rw [f_Line_chunkSize_4]
    by_cases hd : 3 ≤ d
    · have z : (3 : Int32) ≤ nI d := (nI_leI (a := 3) (by omega) (by omega)).mpr hd
      rw [if_pos z, show 3 - d = 0 by omega]
      rfl
    · have z : ¬ (3 : Int32) ≤ nI d := fun y => hd ((nI_leI (a := 3) (by omega) (by omega)).mp y)
      have hl := tat_127 (fun j hj => (h.2.2 j hj).2) d
      obtain ⟨j, hj⟩ : ∃ j, 3 - d = j + 1 := ⟨3 - d - 1, by omega⟩
      obtain ⟨r, e1, e2, e3⟩ := ch_hex S (c := tat len g d) (by omega)
      rw [if_neg z, ln_at h (by omega), hj, csF_s]
      simp only [Option.bind_some, e1, e2]
      cases hx : cHx (tat len g d) with
      | false => simp
      | true =>
        have er : r = nI (hvN (tat len g d)) := e3 hx
        have ea : nI acc * 16 + r = nI (acc * 16 + hvN (tat len g d)) := by rw [er, show (16 : Int32) = nI 16 from rfl, pk_mul, nI_add]
        have i1 := ih (d + 1) (acc * 16 + hvN (tat len g d)) (by omega) (by omega)
        rw [show 3 - (d + 1) = j by omega] at i1
        simp only [ea, nI_1, i1]
        simp
def csS (len : Nat) (g : Nat → Nat) : Option Nat := if 0 < (csF (tat len g) 3 0 0).1 ∧ ((csF (tat len g) 3 0 0).1 = len ∨ tat len g (csF (tat len g) 3 0 0).1 = 59) then some (csF (tat len g) 3 0 0).2 else none
theorem ln_cs0 (h : Lx S len g) : f_Line_chunkSize S = some (oI (csS len g)) := by
  have e := ln_cs h fu 0 0 (by omega) (by unfold fu; omega)
  have hle := csF_le (tat len g) 3 0 0
  have hn := h.1
  unfold f_Line_chunkSize csS
  rw [show (0 : Int32) = nI 0 from rfl, e]
  generalize csF (tat len g) (3 - 0) 0 0 = dc at hle e ⊢
  have hl := tat_127 (fun j hj => (h.2.2 j hj).2) dc.1
  unfold f_Line_chunkSize_40 f_Line_chunkSize_58 f_Line_chunkSize_63 f_Line_chunkSize_76
  rw [h.2.1, ln_at h (by omega)]
  have c59 : (nI (tat len g dc.1) = 59) ↔ tat len g dc.1 = 59 := nI_eq (b := 59) (by omega) (by omega)
  have c0 : (nI dc.1 ≤ 0) ↔ dc.1 ≤ 0 := nI_leI (b := 0) (by omega) (by omega)
  simp (disch := omega) only [nI_eq, Option.bind_some, c59, c0]
  have hz : ¬ (1 : Int32) = 0 := by decide
  by_cases y0 : dc.1 ≤ 0
  · have y1 : ¬ (0 < dc.1 ∧ (dc.1 = len ∨ tat len g dc.1 = 59)) := fun z => by omega
    rw [if_neg y1]
    by_cases y2 : dc.1 = len
    · rw [if_pos y2, if_pos y0]; rfl
    · rw [if_neg y2]
      by_cases y3 : tat len g dc.1 = 59
      · rw [if_pos y3, if_pos y0]; rfl
      · rw [if_neg y3, if_pos y0]; rfl
  · by_cases y2 : dc.1 = len
    · rw [if_pos y2, if_neg y0, if_neg hz, if_pos ⟨by omega, Or.inl y2⟩]; rfl
    · rw [if_neg y2]
      by_cases y3 : tat len g dc.1 = 59
      · rw [if_pos y3, if_neg y0, if_neg hz, if_pos ⟨by omega, Or.inr y3⟩]; rfl
      · rw [if_neg y3, if_neg y0, if_pos trivial, if_neg (fun z => z.2.elim y2 y3)]; rfl
end LN2
