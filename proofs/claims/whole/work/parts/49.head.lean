-- the class's head: what its cells say, and what a line does to it
def Hx (S : zSt) (sc fl tl : Nat) (cl : Option Nat) (ch : Bool) : Prop := S 9 0 = nI sc ∧ S 9 1 = nI fl ∧ S 9 2 = nI tl ∧ S 9 3 = oI cl ∧ S 9 4 = bI ch ∧ sc < 1000 ∧ fl < 1000 ∧ tl < 1000 ∧ ∀ v, cl = some v → v < 10000
theorem nuF_lt (h : Nat → Nat) : ∀ m i acc r, nuF h m i acc = some r → r < (acc + 1) * 10 ^ m := by
  intro m
  induction m with
  | zero => intro i acc r e; cases e; omega
  | succ m ih =>
    intro i acc r e
    rw [nuF_s] at e
    cases hd : cDg (h i) with
    | false => rw [hd] at e; simp at e
    | true =>
      rw [if_pos hd] at e
      have h1 := ih _ _ _ e
      have h57 : h i ≤ 57 := by
        have : decide (48 ≤ h i ∧ h i ≤ 57) = true := hd
        simp at this
        omega
      have h2 : acc * 10 + h i - 48 + 1 ≤ (acc + 1) * 10 := by omega
      have h3 : (acc * 10 + h i - 48 + 1) * 10 ^ m ≤ ((acc + 1) * 10) * 10 ^ m := Nat.mul_le_mul_right _ h2
      rw [Nat.pow_succ]
      calc r < (acc * 10 + h i - 48 + 1) * 10 ^ m := h1
        _ ≤ ((acc + 1) * 10) * 10 ^ m := h3
        _ = (acc + 1) * (10 ^ m * 10) := by rw [Nat.mul_assoc, Nat.mul_comm 10 (10 ^ m)]
theorem nuS_lt {h : Nat → Nat} {f e r : Nat} (hr : nuS h f e = some r) : r < 10000 := by
  unfold nuS at hr
  by_cases hc : e ≤ f ∨ 4 < e - f
  · rw [if_pos hc] at hr; cases hr
  · rw [if_neg hc] at hr
    have h1 := nuF_lt _ _ _ _ _ hr
    have h2 : 10 ^ (e - f) ≤ 10 ^ 4 := Nat.pow_le_pow_right (by omega) (by omega)
    omega
theorem oI_lt {o : Option Nat} (h : ∀ k, o = some k → k < 10000) {b : Nat} (hb : b < 10000) : (oI o < nI b) ↔ (∀ k, o = some k → k < b) := by
  cases o with
  | none =>
    have : (-1 : Int32) < nI b := Int32.lt_of_lt_of_le (by decide) (nI_pos' (n := b) (by omega))
    simp [oI, this]
  | some k =>
    have hk := h k rfl
    simp [oI]
    exact nI_ltI (by omega) (by omega)
def wdS (len : Nat) (g : Nat → Nat) (f e q : Nat) : Bool := decide (e - f = (bytS.getD q []).length) && allF (fun i => decide (cLow (tat len g (f + i)) = lN_ q i)) (bytS.getD q []).length 0
def fsS (len : Nat) (g : Nat → Nat) : Option Nat := match nuS (tat len g) 9 12 with
  | none => none
  | some c => if allF (fun i => decide (tat len g i = lN_ 15 i)) (bytS.getD 15 []).length 0 = true ∧ tat len g 12 = 32 ∧ 100 ≤ c ∧ c ≤ 599 then some c else none
theorem hd_first {S : zSt} {len : Nat} {g : Nat → Nat} (h : Lx S len g) : f_Head_readFirst S = match fsS len g with | none => some (0, S) | some c => some (1, su S 9 0 (nI c)) := by
  have hl := tat_127 (fun j hj => (h.2.2 j hj).2) 12
  have e9 : f_Line_number 9 12 S = some (oI (nuS (tat len g) 9 12)) := ln_num0 h (f := 9) (e := 12) (by omega) (by omega)
  have e12 : f_Line_at 12 S = some (nI (tat len g 12)) := ln_at h (i := 12) (by omega)
  unfold f_Head_readFirst fsS
  rw [e9, ln_starts0 h (q := 15) (by decide), e12]
  have c32 : (nI (tat len g 12) = 32) ↔ tat len g 12 = 32 := nI_eq (b := 32) (by omega) (by omega)
  simp only [Option.bind_some, bI_0, c32, gdb_0, gdb_1, sq]
  cases hn : nuS (tat len g) 9 12 with
  | none =>
    have z : oI none < 100 := by decide
    simp only [z, if_true]
    cases allF (fun i => decide (tat len g i = lN_ 15 i)) (bytS.getD 15 []).length 0 <;> by_cases y : tat len g 12 = 32 <;> simp [y]
  | some c =>
    have hc := nuS_lt hn
    have c100 : (nI c < 100) ↔ c < 100 := nI_ltI (b := 100) (by omega) (by omega)
    have c599 : (nI c ≤ 599) ↔ c ≤ 599 := nI_leI (b := 599) (by omega) (by omega)
    have eo : oI (some c) = nI c := rfl
    simp only [eo, c100, c599]
    cases hs : allF (fun i => decide (tat len g i = lN_ 15 i)) (bytS.getD 15 []).length 0 with
    | false => simp
    | true =>
      by_cases y1 : tat len g 12 = 32
      · by_cases y2 : c < 100
        · have y3 : ¬ 100 ≤ c := by omega
          simp [y1, y2, y3]
        · have y3 : 100 ≤ c := by omega
          by_cases y4 : c ≤ 599 <;> simp [y1, y2, y3, y4]
      · simp [y1]
theorem sbF_bd (g : Nat → Nat) : ∀ m i, i ≤ sbF g m i ∧ sbF g m i ≤ i + m := by
  intro m
  induction m with
  | zero => intro i; exact ⟨Nat.le_refl _, Nat.le_refl _⟩
  | succ m ih =>
    intro i
    rw [sbF_s]
    by_cases z : cBl (g i) = true
    · rw [if_pos z]; have := ih (i + 1); omega
    · rw [if_neg z]; omega
theorem ebF_bd (g : Nat → Nat) (f : Nat) : ∀ e, f ≤ e → f ≤ ebF g f e ∧ ebF g f e ≤ e := by
  intro e
  induction e with
  | zero => intro h; exact ⟨by unfold ebF; omega, Nat.le_refl _⟩
  | succ e ih =>
    intro h
    unfold ebF
    by_cases z : f < e + 1 ∧ cBl (g e) = true
    · rw [if_pos z]; have := ih (by omega); omega
    · rw [if_neg z]; omega
theorem cbF_bd (g : Nat → Nat) : ∀ m i k, cbF g m i = some k → i ≤ k ∧ k < i + m := by
  intro m
  induction m with
  | zero => intro i k h; cases h
  | succ m ih =>
    intro i k h
    rw [cbF_s] at h
    by_cases z : g i = 58
    · rw [if_pos z] at h
      by_cases y : 0 < i
      · rw [if_pos y] at h; cases h; omega
      · rw [if_neg y] at h; cases h
    · rw [if_neg z] at h
      by_cases y : cLD (g i) = true ∨ g i = 45
      · rw [if_pos y] at h; have := ih _ _ h; omega
      · rw [if_neg y] at h; cases h
