theorem anyF_iff (f : Nat → Bool) : ∀ m i, anyF f m i = true ↔ ∃ o, i ≤ o ∧ o < i + m ∧ f o = true := by
  intro m
  induction m with
  | zero => intro i; simp [anyF]; omega
  | succ m ih =>
    intro i
    rw [anyF_s, Bool.or_eq_true, ih (i + 1)]
    constructor
    · rintro (h | ⟨o, h1, h2, h3⟩)
      · exact ⟨i, by omega, by omega, h⟩
      · exact ⟨o, by omega, by omega, h3⟩
    · rintro ⟨o, h1, h2, h3⟩
      by_cases ho : o = i
      · subst ho; exact Or.inl h3
      · exact Or.inr ⟨o, by omega, by omega, h3⟩
theorem nmF_first {kd lt : Nat → Nat} {l : Nat} : ∀ m i k, i ≤ k → k < i + m → kd k ≤ 1 → lt k = l → (nmF kd lt l m i = some k ↔ ∀ o, i ≤ o → o < k → ¬ (kd o ≤ 1 ∧ lt o = l)) := by
  intro m
  induction m with
  | zero => intro i k a b; omega
  | succ m ih =>
    intro i k a b c d
    rw [nmF_s]
    by_cases hi : kd i ≤ 1 ∧ lt i = l
    · rw [if_pos hi]
      constructor
      · intro e o h1 h2
        cases e
        omega
      · intro h
        by_cases hk : i = k
        · rw [hk]
        · exact absurd hi (h i (by omega) (by omega))
    · rw [if_neg hi]
      have hk : i ≠ k := fun e => hi (by rw [e]; exact ⟨c, d⟩)
      rw [ih (i + 1) k (by omega) (by omega) c d]
      constructor
      · intro h o h1 h2
        by_cases ho : o = i
        · rw [ho]; exact hi
        · exact h o (by omega) h2
      · intro h o h1 h2
        exact h o (by omega) h2
def fP (kd lt : Nat → Nat) (k o : Nat) : Bool := decide (kd k ≤ 1) && (decide (kd o ≤ 1) && decide (lt k = lt o))
def fT (c : Nat) (kd lt : Nat → Nat) (k : Nat) : Bool := decide (kd k ≤ 1) && decide (nmF kd lt (lt k) c 0 ≠ some k)
theorem fT_eq {c : Nat} {kd lt : Nat → Nat} {k : Nat} (hk : k < c) : anyF (fP kd lt k) k 0 = fT c kd lt k := by
  unfold fT
  by_cases h1 : kd k ≤ 1
  · have h2 := nmF_first (kd := kd) (lt := lt) (l := lt k) c 0 k (by omega) (by omega) h1 rfl
    rw [Bool.eq_iff_iff, anyF_iff]
    simp only [h1, h2, decide_true, Bool.true_and, decide_eq_true_eq, ne_eq, fP, Bool.and_eq_true]
    constructor
    · rintro ⟨o, -, h3, h4, h5⟩ h6
      exact h6 o (by omega) (by omega) ⟨h4, h5.symm⟩
    · intro h
      apply Classical.byContradiction
      intro h3
      apply h
      intro o h4 h5 h6
      exact h3 ⟨o, by omega, by omega, h6.1, h6.2.symm⟩
  · have : anyF (fP kd lt k) k 0 = false := by
      cases hh : anyF (fP kd lt k) k 0 with
      | false => rfl
      | true =>
        obtain ⟨o, -, -, h3⟩ := (anyF_iff _ _ _).mp hh
        simp [fP, h1] at h3
    rw [this]
    simp [h1]
section CK
variable {S : zSt} {n c : Nat} {t kd lt : Nat → Nat}
theorem tw_in (hP : Px S c kd lt) (K : Int32 → zSt → Option Int32) {k : Nat} (hk : k < c) : ∀ m o, o ≤ k → k - o < m → f_Declaration_hasLetterTwice_12 K m (nI k) (nI o) S = if anyF (fP kd lt k) (k - o) o = true then some 1 else K (nI (k + 1)) S := by
  intro m
  induction m with
  | zero => intro o a b; omega
  | succ m ih =>
    intro o a b
    have hc := hP.1
    rw [f_Declaration_hasLetterTwice_12]
    by_cases ho : k ≤ o
    · rw [if_pos ((nI_leI (by omega) (by omega)).mpr ho), show k - o = 0 by omega, nI_1]
      simp [anyF]
    · obtain ⟨-, -, -, e4, -, e6⟩ := hP.2.2.2 k hk
      obtain ⟨-, -, -, f4, -, f6⟩ := hP.2.2.2 o (by omega)
      have i1 := ih (o + 1) (by omega) (by omega)
      obtain ⟨j, hj⟩ : ∃ j, k - o = j + 1 := ⟨k - o - 1, by omega⟩
      rw [show k - (o + 1) = j by omega] at i1
      rw [if_neg (fun z => ho ((nI_leI (by omega) (by omega)).mp z)), hj, anyF_s]
      simp (disch := omega) only [gdiN, nI_clamp, inp_cls hP, Option.bind_some, bI_0, f_Declaration_hasLetterTwice_64, nI_1, i1, e4, f4, nI_eq, gdb_1, fP, decide_eq_false_iff_not]
      by_cases k1 : kd k ≤ 1 <;> by_cases k2 : kd o ≤ 1 <;> by_cases k3 : lt k = lt o <;> simp [k1, k2, k3]
theorem tw_loop (hP : Px S c kd lt) : ∀ m k, k ≤ c → c - k < m → f_Declaration_hasLetterTwice_2 m (nI k) S = some (bI (anyF (fT c kd lt) (c - k) k)) := by
  intro m
  induction m with
  | zero => intro k a b; omega
  | succ m ih =>
    intro k a b
    have hc := hP.1
    rw [f_Declaration_hasLetterTwice_2, hP.2.1]
    by_cases hk : c ≤ k
    · rw [if_pos ((nI_leI (by omega) (by omega)).mpr hk), show c - k = 0 by omega, gdb_0]
      rfl
    · have i1 := ih (k + 1) (by omega) (by omega)
      obtain ⟨j, hj⟩ : ∃ j, c - k = j + 1 := ⟨c - k - 1, by omega⟩
      rw [show c - (k + 1) = j by omega] at i1
      have := tw_in hP (f_Declaration_hasLetterTwice_2 m) (k := k) (by omega) fu 0 (by omega) (by unfold fu; omega)
      rw [if_neg (fun z => hk ((nI_leI (by omega) (by omega)).mp z)), show (0 : Int32) = nI 0 from rfl, this, i1, hj, anyF_s, show k - 0 = k from rfl, fT_eq (c := c) (by omega)]
      cases fT c kd lt k <;> simp [bI]
theorem tw_cls (hP : Px S c kd lt) : f_Declaration_hasLetterTwice S = some (bI (anyF (fT c kd lt) c 0)) := tw_loop hP fu 0 (by omega) (by unfold fu; have := hP.1; omega)
theorem oI_eq {o : Option Nat} {k : Nat} (h : ∀ j, o = some j → j < 1000) (hk : k < 1000) : (oI o = nI k) ↔ o = some k := by
  cases o with
  | none =>
    simp [oI]
    intro e
    have := nI_pos' (n := k) (by omega)
    rw [← e] at this
    exact absurd this (by decide)
  | some j =>
    simp [oI]
    exact nI_eq (by have := h j rfl; omega) (by omega)
theorem mtw_loop (hP : Px S c kd lt) : ∀ m k acc, k ≤ c → c - k < m → f_Mo_twice_4 m (bI acc) (nI k) S = some (bI (acc || anyF (fT c kd lt) (c - k) k)) := by
  intro m
  induction m with
  | zero => intro k acc a b; omega
  | succ m ih =>
    intro k acc a b
    have hc := hP.1
    rw [f_Mo_twice_4, hP.2.2.1]
    by_cases hk : c ≤ k
    · rw [if_pos ((nI_leI (by omega) (by omega)).mpr hk), show c - k = 0 by omega, gdb_bI]
      simp [anyF]
    · obtain ⟨-, e2, e3, -, e5, e6⟩ := hP.2.2.2 k (by omega)
      obtain ⟨j, hj⟩ : ∃ j, c - k = j + 1 := ⟨c - k - 1, by omega⟩
      have i1 := ih (k + 1) true (by omega) (by omega)
      have i0 := ih (k + 1) false (by omega) (by omega)
      rw [show c - (k + 1) = j by omega] at i1 i0
      rw [show bI true = 1 from rfl] at i1
      rw [show bI false = 0 from rfl] at i0
      have hb : ∀ i, nmF kd lt (lt k) c 0 = some i → i < 1000 := fun i hi => by
        have := nmF_lt (kd := kd) (lt := lt) (l := lt k) c 0 i hi
        omega
      have c1 : ((1 : Int32) < nI (kd k)) ↔ 1 < kd k := nI_ltI (a := 1) (by omega) (by omega)
      rw [if_neg (fun z => hk ((nI_leI (by omega) (by omega)).mp z)), hj, anyF_s]
      simp (disch := omega) only [gdiN, nI_clamp, e2, e5, nm_mo hP, Option.bind_some, bI_0, f_Mo_twice_40, f_Mo_twice_44, f_Mo_twice_45, nI_1, i1, i0, c1, oI_eq hb, fT]
      by_cases k1 : 1 < kd k
      · have k2 : ¬ kd k ≤ 1 := by omega
        cases acc <;> simp [k1, k2]
      · have k2 : kd k ≤ 1 := by omega
        by_cases k3 : nmF kd lt (lt k) c 0 = some k <;> cases acc <;> simp [k1, k2, k3]
theorem tw_mo (hP : Px S c kd lt) : f_Mo_twice S = some (bI (anyF (fT c kd lt) c 0)) := by
  have := mtw_loop hP fu 0 false (by omega) (by unfold fu; have := hP.1; omega)
  exact this
def fV (n : Nat) (t : Nat → Nat) (l i : Nat) : Bool := decide (t i = l) && isV n t i
theorem hv_loop (hT : Tx S n t) {l : Nat} (hl : l < 65536) : ∀ m i, i ≤ n → n - i < m → f_Declaration_hasVariable_2 m (nI l) (nI i) S = some (bI (anyF (fV n t l) (n - i) i)) := by
  intro m
  induction m with
  | zero => intro i a b; omega
  | succ m ih =>
    intro i a b
    have hn := hT.1
    rw [f_Declaration_hasVariable_2, hT.2.1]
    by_cases hi : n ≤ i
    · rw [if_pos ((nI_leI (by omega) (by omega)).mpr hi), show n - i = 0 by omega, gdb_0]
      rfl
    · obtain ⟨e1, -, -, e4⟩ := hT.2.2.2 i (by omega)
      have ht : tat n t i = t i := by unfold tat; rw [if_pos (by omega)]
      have i1 := ih (i + 1) (by omega) (by omega)
      obtain ⟨j, hj⟩ : ∃ j, n - i = j + 1 := ⟨n - i - 1, by omega⟩
      rw [show n - (i + 1) = j by omega] at i1
      rw [if_neg (fun z => hi ((nI_leI (by omega) (by omega)).mp z)), at_cls hT (by omega), var_cls hT (by omega), ht, hj, anyF_s]
      simp (disch := omega) only [Option.bind_some, bI_0, f_Declaration_hasVariable_38, nI_1, i1, gdb_1, nI_eq, fV, isV, ht]
      by_cases h1 : t i = l <;> cases h2 : (inn t i && cSm (t i)) <;> simp [h1, h2, bI]
theorem hv_cls (hT : Tx S n t) {l : Nat} (hl : l < 65536) : f_Declaration_hasVariable (nI l) S = some (bI (anyF (fV n t l) n 0)) := hv_loop hT hl fu 0 (by omega) (by unfold fu; have := hT.1; omega)
def fN (n : Nat) (t kd lt : Nat → Nat) (k : Nat) : Bool := decide (kd k ≤ 1) && !(anyF (fV n t (lt k)) n 0)
theorem us_loop (hT : Tx S n t) (hP : Px S c kd lt) : ∀ m k, k ≤ c → c - k < m → f_Declaration_hasUnusedParameter_2 m (nI k) S = some (bI (anyF (fN n t kd lt) (c - k) k)) := by
  intro m
  induction m with
  | zero => intro k a b; omega
  | succ m ih =>
    intro k a b
    have hc := hP.1
    rw [f_Declaration_hasUnusedParameter_2, hP.2.1]
    by_cases hk : c ≤ k
    · rw [if_pos ((nI_leI (by omega) (by omega)).mpr hk), show c - k = 0 by omega, gdb_0]
      rfl
    · obtain ⟨-, -, -, e4, -, e6⟩ := hP.2.2.2 k (by omega)
      have i1 := ih (k + 1) (by omega) (by omega)
      obtain ⟨j, hj⟩ : ∃ j, c - k = j + 1 := ⟨c - k - 1, by omega⟩
      rw [show c - (k + 1) = j by omega] at i1
      rw [if_neg (fun z => hk ((nI_leI (by omega) (by omega)).mp z)), hj, anyF_s]
      simp (disch := omega) only [gdiN, nI_clamp, inp_cls hP, Option.bind_some, bI_0, f_Declaration_hasUnusedParameter_40, nI_1, i1, e4, hv_cls hT, gdb_1, fN, decide_eq_false_iff_not]
      by_cases k1 : kd k ≤ 1 <;> cases h2 : anyF (fV n t (lt k)) n 0 <;> simp [k1, bI]
theorem us_cls (hT : Tx S n t) (hP : Px S c kd lt) : f_Declaration_hasUnusedParameter S = some (bI (anyF (fN n t kd lt) c 0)) := us_loop hT hP fu 0 (by omega) (by unfold fu; have := hP.1; omega)
theorem mus_in (hT : Tx S n t) (hP : Px S c kd lt) (K : Int32 → Int32 → zSt → Option Int32) {k : Nat} (hk : k < c) (acc : Bool) : ∀ m i us, i ≤ n → n - i < m → f_Mo_unused_31 K m (bI acc) (nI k) (bI us) (nI i) S = K (bI (acc || !(us || anyF (fV n t (lt k)) (n - i) i))) (nI (k + 1)) S := by
  intro m
  induction m with
  | zero => intro i us a b; omega
  | succ m ih =>
    intro i us a b
    have hn := hT.1
    have hc := hP.1
    rw [f_Mo_unused_31, hT.2.2.1]
    by_cases hi : n ≤ i
    · rw [if_pos ((nI_leI (by omega) (by omega)).mpr hi), show n - i = 0 by omega]
      simp only [bI_0, f_Mo_unused_89, f_Mo_unused_94, nI_1, anyF]
      cases acc <;> cases us <;> simp [bI]
    · obtain ⟨-, e1, -, e4⟩ := hT.2.2.2 i (by omega)
      obtain ⟨-, -, -, -, e5, e6⟩ := hP.2.2.2 k hk
      have ht : tat n t i = t i := by unfold tat; rw [if_pos (by omega)]
      obtain ⟨j, hj⟩ : ∃ j, n - i = j + 1 := ⟨n - i - 1, by omega⟩
      have i1 := ih (i + 1) true (by omega) (by omega)
      have i0 := ih (i + 1) false (by omega) (by omega)
      rw [show n - (i + 1) = j by omega] at i1 i0
      rw [show bI true = 1 from rfl] at i1
      rw [show bI false = 0 from rfl] at i0
      rw [if_neg (fun z => hi ((nI_leI (by omega) (by omega)).mp z)), var_mo hT (by omega), ht, hj, anyF_s]
      simp (disch := omega) only [gdiN, nI_clamp, e1, e5, Option.bind_some, bI_0, f_Mo_unused_69, f_Mo_unused_73, f_Mo_unused_74, nI_1, i1, i0, nI_eq, fV, isV, ht]
      by_cases h1 : t i = lt k <;> cases h2 : (inn t i && cSm (t i)) <;> cases us <;> simp [h1, h2]
theorem mus_loop (hT : Tx S n t) (hP : Px S c kd lt) : ∀ m k acc, k ≤ c → c - k < m → f_Mo_unused_4 m (bI acc) (nI k) S = some (bI (acc || anyF (fN n t kd lt) (c - k) k)) := by
  intro m
  induction m with
  | zero => intro k acc a b; omega
  | succ m ih =>
    intro k acc a b
    have hc := hP.1
    rw [f_Mo_unused_4, hP.2.2.1]
    by_cases hk : c ≤ k
    · rw [if_pos ((nI_leI (by omega) (by omega)).mpr hk), show c - k = 0 by omega, gdb_bI]
      simp [anyF]
    · obtain ⟨-, e2, e3, -, e5, e6⟩ := hP.2.2.2 k (by omega)
      obtain ⟨j, hj⟩ : ∃ j, c - k = j + 1 := ⟨c - k - 1, by omega⟩
      have c1 : (nI (kd k) ≤ 1) ↔ kd k ≤ 1 := nI_leI (b := 1) (by omega) (by omega)
      have m0 := mus_in hT hP (f_Mo_unused_4 m) (k := k) (by omega) acc fu 0 false (by omega) (by unfold fu; have := hT.1; omega)
      have m1 := mus_in hT hP (f_Mo_unused_4 m) (k := k) (by omega) acc fu 0 true (by omega) (by unfold fu; have := hT.1; omega)
      rw [show bI false = 0 from rfl, show nI 0 = 0 from rfl] at m0
      rw [show bI true = 1 from rfl, show nI 0 = 0 from rfl] at m1
      rw [if_neg (fun z => hk ((nI_leI (by omega) (by omega)).mp z)), hj, anyF_s]
      simp (disch := omega) only [gdiN, nI_clamp, e2, c1, f_Mo_unused_27, m0, m1]
      have ig := fun a => ih (k + 1) a (by omega) (by omega)
      rw [show c - (k + 1) = j by omega] at ig
      simp only [ig, fN]
      by_cases k1 : kd k ≤ 1 <;> cases acc <;> simp [k1]
theorem us_mo (hT : Tx S n t) (hP : Px S c kd lt) : f_Mo_unused S = some (bI (anyF (fN n t kd lt) c 0)) := by
  have := mus_loop hT hP fu 0 false (by omega) (by unfold fu; have := hP.1; omega)
  exact this
end CK
