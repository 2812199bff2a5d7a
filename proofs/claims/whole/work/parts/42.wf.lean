theorem rn_step {t : Nat → Nat} {n i p : Nat} (h : i < n) : rn t (n - i) p i = rn t (n - (i + 1)) (pl p (t i)) (i + 1) := by
  obtain ⟨k, hk⟩ : ∃ k, n - i = k + 1 := ⟨n - i - 1, by omega⟩
  rw [hk, show n - (i + 1) = k by omega]
  rfl
theorem rn_end {t : Nat → Nat} {n i p : Nat} (h : n ≤ i) : rn t (n - i) p i = p := by
  rw [show n - i = 0 by omega]
  rfl
theorem rn_6 {t : Nat → Nat} : ∀ k i, rn t k 6 i = 6 := by
  intro k
  induction k with
  | zero => intro i; rfl
  | succ k ih => intro i; exact ih (i + 1)
/-- what behind() says from q on: no expression's rest, or where it ends -/
def Bh (n : Nat) (t : Nat → Nat) (q p : Nat) (r : Int32) : Prop := (r = -1 ∧ rn t (n - q) p q ≠ 0) ∨ ∃ e, r = nI e ∧ q < e ∧ e ≤ n ∧ rn t (n - q) p q = rn t (n - e) 0 e
theorem bh_dead {n : Nat} {t : Nat → Nat} {q p : Nat} (hp : p ≠ 0) (h : q < n → pl p (t q) = 6) : Bh n t q p (-1) := by
  left
  refine ⟨rfl, ?_⟩
  by_cases hq : q < n
  · rw [rn_step hq, h hq, rn_6]; decide
  · rw [rn_end (by omega)]; exact hp
theorem bh_102 {S : zSt} {n : Nat} {t : Nat → Nat} (h : Tx S n t) {q k p : Nat} (hq : q ≤ n + 1) (hp : p ≠ 0) (hpl : q < n → pl p (t q) = pv (t q)) (K : Int32 → Int32 → zSt → Option Int32) (hK : q < n → ∃ r, K (nI (q + 1)) (nI (k + 1)) S = some r ∧ Bh n t (q + 1) 2 r) : ∃ r, f_Mo_behind_102 K (nI q) (nI k) S = some r ∧ Bh n t q p r := by
  have hn := h.1
  have hl := tat_lt h q
  unfold f_Mo_behind_102
  rw [at_mo h (by omega)]
  simp only [Option.bind_some, nI_1]
  have c125 : (nI (tat n t q) = 125) ↔ tat n t q = 125 := nI_eq (b := 125) (by omega) (by omega)
  have c44 : (nI (tat n t q) = 44) ↔ tat n t q = 44 := nI_eq (b := 44) (by omega) (by omega)
  simp only [c125, c44]
  by_cases h1 : tat n t q = 125
  · have hqn : q < n := by unfold tat at h1; by_cases z : q < n; exact z; rw [if_neg z] at h1; omega
    have ht : t q = 125 := by unfold tat at h1; rw [if_pos hqn] at h1; exact h1
    rw [if_pos h1]
    refine ⟨nI (q + 1), rfl, Or.inr ⟨q + 1, rfl, by omega, by omega, ?_⟩⟩
    rw [rn_step hqn, hpl hqn, ht]
    rfl
  · rw [if_neg h1]
    by_cases h2 : tat n t q = 44
    · have hqn : q < n := by unfold tat at h2; by_cases z : q < n; exact z; rw [if_neg z] at h2; omega
      have ht : t q = 44 := by unfold tat at h2; rw [if_pos hqn] at h2; exact h2
      rw [if_pos h2]
      obtain ⟨r, e1, e2⟩ := hK hqn
      refine ⟨r, e1, ?_⟩
      have es : rn t (n - q) p q = rn t (n - (q + 1)) 2 (q + 1) := by rw [rn_step hqn, hpl hqn, ht]; rfl
      rcases e2 with ⟨z1, z2⟩ | ⟨e, z1, z2, z3, z4⟩
      · exact Or.inl ⟨z1, by rw [es]; exact z2⟩
      · exact Or.inr ⟨e, z1, by omega, z3, by rw [es]; exact z4⟩
    · rw [if_neg h2]
      refine ⟨-1, rfl, bh_dead hp (fun z => ?_)⟩
      rw [hpl z]
      unfold tat at h1 h2
      rw [if_pos z] at h1 h2
      unfold pv
      rw [if_neg h2, if_neg h1]
theorem bh_loop {S : zSt} {n : Nat} {t : Nat → Nat} (h : Tx S n t) : ∀ m k q, 40 - k < m → k ≤ 40 → 2 * k ≤ q → q ≤ n + 1 → ∃ r, f_Mo_behind_25 m (nI q) (nI k) S = some r ∧ Bh n t q 2 r := by
  have hn := h.1
  intro m
  induction m with
  | zero => intro k q a; omega
  | succ m ih =>
    intro k q a b c d
    rw [f_Mo_behind_25]
    by_cases hk : 40 ≤ k
    · have z : (40 : Int32) ≤ nI k := (nI_leI (a := 40) (by omega) (by omega)).mpr hk
      rw [if_pos z]
      exact ⟨-1, rfl, bh_dead (by decide) (fun z => by omega)⟩
    · have z : ¬ (40 : Int32) ≤ nI k := fun y => hk ((nI_leI (a := 40) (by omega) (by omega)).mp y)
      have l0 := tat_lt h q
      have l1 := tat_lt h (q + 1)
      have l2 := tat_lt h (q + 2)
      rw [if_neg z, at_mo h (by omega)]
      simp only [Option.bind_some]
      rw [mo_small S (by omega)]
      simp only [Option.bind_some, bI_0]
      cases hs : cSm (tat n t q) with
      | false =>
        rw [if_pos rfl]
        refine ⟨-1, rfl, bh_dead (by decide) (fun z => ?_)⟩
        unfold tat at hs
        rw [if_pos z] at hs
        simp [pl, hs]
      | true =>
        have hqn : q < n := by
          by_cases z : q < n
          · exact z
          · unfold tat at hs; rw [if_neg z] at hs; cases hs
        have hst : cSm (t q) = true := by unfold tat at hs; rw [if_pos hqn] at hs; exact hs
        have es : rn t (n - q) 2 q = rn t (n - (q + 1)) 3 (q + 1) := by rw [rn_step hqn]; simp [pl, hst]
        have up : ∀ {q' p' r}, q ≤ q' → rn t (n - q) 2 q = rn t (n - q') p' q' → Bh n t q' p' r → Bh n t q 2 r := by
          intro q' p' r h1 h2 h3
          rcases h3 with ⟨z1, z2⟩ | ⟨e, z1, z2, z3, z4⟩
          · exact Or.inl ⟨z1, by rw [h2]; exact z2⟩
          · exact Or.inr ⟨e, z1, by omega, z3, by rw [h2]; exact z4⟩
        rw [if_neg (by simp)]
        simp only [nI_1]
        rw [at_mo h (by omega), show nI (q + 1) + 2 = nI (q + 3) from nI_add _ 2, at_mo h (by omega)]
        simp only [Option.bind_some, show q + 1 + 1 = q + 2 from rfl]
        have c42 : (nI (tat n t (q + 1)) = 42) ↔ tat n t (q + 1) = 42 := nI_eq (b := 42) (by omega) (by omega)
        have c58 : (nI (tat n t (q + 1)) = 58) ↔ tat n t (q + 1) = 58 := nI_eq (b := 58) (by omega) (by omega)
        have c49 : (nI (tat n t (q + 2)) < 49) ↔ tat n t (q + 2) < 49 := nI_ltI (b := 49) (by omega) (by omega)
        have c57 : (nI (tat n t (q + 2)) ≤ 57) ↔ tat n t (q + 2) ≤ 57 := nI_leI (b := 57) (by omega) (by omega)
        simp only [c42, c58, c49, c57]
        by_cases h1 : tat n t (q + 1) = 42
        · rw [if_pos h1]
          have hq1 : q + 1 < n := by unfold tat at h1; by_cases z : q + 1 < n; exact z; rw [if_neg z] at h1; omega
          have ht : t (q + 1) = 42 := by unfold tat at h1; rw [if_pos hq1] at h1; exact h1
          obtain ⟨r, e1, e2⟩ := bh_102 h (q := q + 2) (k := k) (p := 5) (by omega) (by decide) (fun _ => by simp [pl]) (f_Mo_behind_25 m) (fun z => ih (k + 1) (q + 2 + 1) (by omega) (by omega) (by omega) (by omega))
          exact ⟨r, e1, up (by omega) (by rw [es, rn_step hq1, ht]; rfl) e2⟩
        · rw [if_neg h1]
          by_cases h2 : tat n t (q + 1) = 58
          · rw [if_pos h2]
            have hq1 : q + 1 < n := by unfold tat at h2; by_cases z : q + 1 < n; exact z; rw [if_neg z] at h2; omega
            have ht : t (q + 1) = 58 := by unfold tat at h2; rw [if_pos hq1] at h2; exact h2
            have es2 : rn t (n - q) 2 q = rn t (n - (q + 2)) 4 (q + 2) := by rw [es, rn_step hq1, ht]; rfl
            by_cases h3 : tat n t (q + 2) < 49
            · rw [if_pos h3]
              refine ⟨-1, rfl, up (by omega) es2 (bh_dead (by decide) (fun z => ?_))⟩
              unfold tat at h3
              rw [if_pos z] at h3
              simp [pl, h3]
            · rw [if_neg h3]
              have hq2 : q + 2 < n := by unfold tat at h3; by_cases z : q + 2 < n; exact z; rw [if_neg z] at h3; omega
              have ht2 : tat n t (q + 2) = t (q + 2) := by unfold tat; rw [if_pos hq2]
              rw [ht2] at h3 ⊢
              by_cases h4 : t (q + 2) ≤ 57
              · rw [if_pos h4]
                obtain ⟨r, e1, e2⟩ := bh_102 h (q := q + 3) (k := k) (p := 5) (by omega) (by decide) (fun _ => by simp [pl]) (f_Mo_behind_25 m) (fun z => ih (k + 1) (q + 3 + 1) (by omega) (by omega) (by omega) (by omega))
                refine ⟨r, e1, up (by omega) (by rw [es2, rn_step hq2]; simp [pl]; rw [if_neg (by omega)]) e2⟩
              · rw [if_neg h4]
                refine ⟨-1, rfl, up (by omega) es2 (bh_dead (by decide) (fun z => ?_))⟩
                have h5 : 57 < t (q + 2) := by omega
                simp [pl, h5]
          · rw [if_neg h2]
            obtain ⟨r, e1, e2⟩ := bh_102 h (q := q + 1) (k := k) (p := 3) (by omega) (by decide) (fun z => by
              unfold tat at h1 h2
              rw [if_pos z] at h1 h2
              simp [pl, h1, h2]) (f_Mo_behind_25 m) (fun z => ih (k + 1) (q + 1 + 1) (by omega) (by omega) (by omega) (by omega))
            exact ⟨r, e1, up (by omega) es e2⟩
theorem bh_mo {S : zSt} {n : Nat} {t : Nat → Nat} (h : Tx S n t) {p : Nat} (hp : p < n) (hb : t p = 123) : ∃ r, f_Mo_behind (nI p) S = some r ∧ Bh n t p 0 r := by
  have hn := h.1
  have l1 := tat_lt h (p + 1)
  unfold f_Mo_behind f_Mo_behind_22
  rw [nI_1, at_mo h (by omega)]
  simp only [Option.bind_some]
  rw [mo_op S (by omega)]
  simp only [Option.bind_some, bI_0]
  have es : rn t (n - p) 0 p = rn t (n - (p + 1)) 1 (p + 1) := by rw [rn_step hp, hb]; rfl
  have up : ∀ {q' p' r}, p ≤ q' → rn t (n - p) 0 p = rn t (n - q') p' q' → Bh n t q' p' r → Bh n t p 0 r := by
    intro q' p' r h1 h2 h3
    rcases h3 with ⟨z1, z2⟩ | ⟨e, z1, z2, z3, z4⟩
    · exact Or.inl ⟨z1, by rw [h2]; exact z2⟩
    · exact Or.inr ⟨e, z1, by omega, z3, by rw [h2]; exact z4⟩
  cases ho : cOp (tat n t (p + 1)) with
  | true =>
    have hq1 : p + 1 < n := by
      by_cases z : p + 1 < n
      · exact z
      · unfold tat at ho; rw [if_neg z] at ho; cases ho
    have ht : cOp (t (p + 1)) = true := by unfold tat at ho; rw [if_pos hq1] at ho; exact ho
    rw [if_neg (by simp), show nI p + 2 = nI (p + 2) from nI_add _ 2]
    obtain ⟨r, e1, e2⟩ := bh_loop h fu 0 (p + 2) (by unfold fu; omega) (by omega) (by omega) (by omega)
    exact ⟨r, e1, up (by omega) (by rw [es, rn_step hq1]; simp [pl, ht]) e2⟩
  | false =>
    rw [if_pos rfl]
    obtain ⟨r, e1, e2⟩ := bh_loop h fu 0 (p + 1) (by unfold fu; omega) (by omega) (by omega) (by omega)
    refine ⟨r, e1, ?_⟩
    by_cases hq1 : p + 1 < n
    · have ht : cOp (t (p + 1)) = false := by unfold tat at ho; rw [if_pos hq1] at ho; exact ho
      refine up (q' := p + 1) (p' := 2) (by omega) ?_ e2
      rw [es, rn_step hq1, rn_step hq1]
      simp [pl, ht]
    · rcases e2 with ⟨z1, z2⟩ | ⟨e, z1, z2, z3, z4⟩
      · exact Or.inl ⟨z1, by rw [es, rn_end (by omega)]; decide⟩
      · omega
theorem mwf_loop {S : zSt} {n : Nat} {t : Nat → Nat} (h : Tx S n t) : ∀ m p, p ≤ n → n - p < m → f_Mo_wellFormed_2 m (nI p) S = some (bI (decide (tat n t 0 = 47) && (rn t (n - p) 0 p == 0))) := by
  have hT := h
  obtain ⟨hn, -, h2, h4⟩ := h
  intro m
  induction m with
  | zero => intro p a b; omega
  | succ m ih =>
    intro p a b
    rw [f_Mo_wellFormed_2, h2]
    by_cases hp : n ≤ p
    · rw [if_pos ((nI_leI (by omega) (by omega)).mpr hp), rn_end hp]
      by_cases h0 : n ≤ 0
      · have z : nI n ≤ 0 := (nI_leI (b := 0) (by omega) (by omega)).mpr h0
        rw [if_pos z]
        have : tat n t 0 = 0 := by unfold tat; rw [if_neg (by omega)]
        rw [this]
        rfl
      · have z : ¬ nI n ≤ 0 := fun y => h0 ((nI_leI (b := 0) (by omega) (by omega)).mp y)
        obtain ⟨-, e, -, e2⟩ := h4 0 (by omega)
        have hz : (0 : Int32).toNatClampNeg = 0 := by decide
        have hg : ∀ x : Option Int32, gdi 0 40 x = x := fun x => gdiN (k := 0) (by omega) (by omega)
        have t0 : tat n t 0 = t 0 := by unfold tat; rw [if_pos (by omega)]
        rw [if_neg z, hg, hz, e, t0]
        have c47 : (nI (t 0) = 47) ↔ t 0 = 47 := nI_eq (b := 47) (by omega) (by omega)
        simp only [c47, f_Mo_wellFormed_99, gdb_0, gdb_1]
        by_cases y : t 0 = 47 <;> simp [y, bI]
    · obtain ⟨-, e, -, e2⟩ := h4 p (by omega)
      rw [if_neg (fun y => hp ((nI_leI (by omega) (by omega)).mp y)), gdiN (by omega) (by omega), nI_clamp (by omega), e]
      have cc : ∀ k, k < 127 → ((nI (t p) = nI k) ↔ t p = k) := fun k hk => nI_eq (by omega) (by omega)
      have c123 : (nI (t p) = 123) ↔ t p = 123 := cc 123 (by omega)
      have c47 : (nI (t p) = 47) ↔ t p = 47 := cc 47 (by omega)
      have c63 : (nI (t p) = 63) ↔ t p = 63 := cc 63 (by omega)
      have c61 : (nI (t p) = 61) ↔ t p = 61 := cc 61 (by omega)
      have c38 : (nI (t p) = 38) ↔ t p = 38 := cc 38 (by omega)
      simp only [c123, c47, c63, c61, c38, f_Mo_wellFormed_66, f_Mo_wellFormed_74, nI_1, gdb_0]
      by_cases hb : t p = 123
      · rw [if_pos hb]
        obtain ⟨r, e1, e3⟩ := bh_mo hT (by omega) hb
        rw [e1]
        simp only [Option.bind_some]
        rcases e3 with ⟨z1, z2⟩ | ⟨e, z1, z2, z3, z4⟩
        · rw [z1, if_neg (by decide)]
          simp [z2, bI]
        · rw [z1, if_pos (nI_pos' (by omega)), ih e z3 (by omega), z4]
      · rw [if_neg hb, mo_plain S (by omega)]
        simp only [Option.bind_some, bI_0]
        have ig := ih (p + 1) (by omega) (by omega)
        rw [rn_step (by omega : p < n)]
        have key : cLi (t p) = (cUn (t p) || decide (t p = 47 ∨ t p = 63 ∨ t p = 61 ∨ t p = 38)) := by
          unfold cLi cUn
          cases cLD (t p) <;> simp
          grind
        have hpl : pl 0 (t p) = if cLi (t p) then 0 else 6 := by simp [pl, hb]
        rw [hpl, key]
        cases hu : cUn (t p) with
        | true => simp; exact ig
        | false =>
          by_cases y1 : t p = 47
          · simp [y1]; exact ig
          · by_cases y2 : t p = 63
            · simp [y2]; exact ig
            · by_cases y3 : t p = 61
              · simp [y3]; exact ig
              · by_cases y4 : t p = 38
                · simp [y4]; exact ig
                · simp [y1, y2, y3, y4, rn_6, bI]
theorem wf_mo {S : zSt} {n : Nat} {t : Nat → Nat} (h : Tx S n t) : f_Mo_wellFormed S = some (bI (decide (tat n t 0 = 47) && (rn t n 0 0 == 0))) := by
  have := mwf_loop h fu 0 (by omega) (by unfold fu; have := h.1; omega)
  exact this
