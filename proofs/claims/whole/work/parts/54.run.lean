-- bytes one after another, and the reference's line
def runA (B V : Nat → Nat) : Nat → Nat → zA → zA
  | 0, _, a => a
  | k + 1, p, a => runA B V k (p + 1) (stA a (B p) (V p))
section RUN
variable {B V : Nat → Nat}
theorem run_0 (p : Nat) (a : zA) : runA B V 0 p a = a := rfl
theorem run_s (k p : Nat) (a : zA) : runA B V (k + 1) p a = runA B V k (p + 1) (stA a (B p) (V p)) := rfl
theorem run_add : ∀ k m p a, runA B V (k + m) p a = runA B V m (p + k) (runA B V k p a) := by
  intro k
  induction k with
  | zero => intro m p a; rw [Nat.zero_add, run_0, Nat.add_zero]
  | succ k ih =>
    intro m p a
    rw [show k + 1 + m = (k + m) + 1 by omega, run_s, run_s, ih, show p + 1 + k = p + (k + 1) by omega]
theorem run_cut {k q p : Nat} (h : q ≤ k) (a : zA) : runA B V k p a = runA B V (k - q) (p + q) (runA B V q p a) := by
  rw [← run_add, show q + (k - q) = k by omega]
theorem run_end (k p : Nat) (a : zA) : runA B V (k + 1) p a = stA (runA B V k p a) (B (p + k)) (V (p + k)) := by
  rw [run_add k 1 p a, run_s, run_0]
theorem st_stop {a : zA} (h : a.1 = 2 ∨ a.1 = 3) (b v : Nat) : stA a b v = a := by
  obtain ⟨st, pl, es, bl, sc, fl, tl, cl, ch, len, lf, ret, bs, bf⟩ := a
  unfold stA
  exact if_pos h
theorem run_stop : ∀ k p (a : zA), a.1 = 2 ∨ a.1 = 3 → runA B V k p a = a := by
  intro k
  induction k with
  | zero => intro p a h; rfl
  | succ k ih => intro p a h; rw [run_s, st_stop h, ih _ _ h]
theorem run_congr {B' V' : Nat → Nat} : ∀ k p (a : zA), (∀ j, p ≤ j → j < p + k → B j = B' j ∧ V j = V' j) → runA B V k p a = runA B' V' k p a := by
  intro k
  induction k with
  | zero => intro p a h; rfl
  | succ k ih =>
    intro p a h
    obtain ⟨h1, h2⟩ := h p (by omega) (by omega)
    rw [run_s, run_s, h1, h2, ih _ _ (fun j a b => h j (by omega) (by omega))]
theorem stA_ln {st pl es bl sc fl tl : Nat} {cl : Option Nat} {ch : Bool} {len : Nat} {lf : Nat → Nat} {ret : Bool} {bs : Nat} {bf : Nat → Nat} (hst : st < 2) (hpl : pl ≤ 3) (b v : Nat) : stA (st, pl, es, bl, sc, fl, tl, cl, ch, len, lf, ret, bs, bf) b v = if ret = true then
      (if b = 10 then mkA (rdA st pl es bl sc fl tl cl ch len lf bs v) 0 z0 false bs bf else (3, pl, es, bl, sc, fl, tl, cl, ch, len, lf, ret, bs, bf))
    else if b = 13 then (st, pl, es, bl, sc, fl, tl, cl, ch, len, lf, true, bs, bf)
    else if 60 ≤ len ∨ okc b = false then (3, pl, es, bl, sc, fl, tl, cl, ch, len, lf, ret, bs, bf)
    else (st, pl, es, bl, sc, fl, tl, cl, ch, len + 1, upf lf len b, ret, bs, bf) := by
  unfold stA
  dsimp only
  rw [if_neg (by omega), if_neg (by omega), if_neg (by omega), if_neg (by omega), if_neg (by omega)]
theorem tat_0 (g : Nat → Nat) : tat 0 g = z0 := by
  funext j
  unfold tat z0
  rw [if_neg (by omega)]
theorem tat_up (g : Nat → Nat) (k : Nat) : upf (tat k g) k (g k) = tat (k + 1) g := by
  funext j
  unfold upf tat
  by_cases h : j = k
  · rw [if_pos h, if_pos (by omega), h]
  · rw [if_neg h]
    by_cases h2 : j < k
    · rw [if_pos h2, if_pos (by omega)]
    · rw [if_neg h2, if_neg (by omega)]
/-- what the reference was fed -/
def Bk (S : zSt) (fed : Nat) (B V : Nat → Nat) : Prop := S 66 17 = nI fed ∧ fed ≤ 512 ∧ ∀ j, j < fed → S 76 j = nI (B j) ∧ B j < 256 ∧ S 77 j = nI (V j) ∧ V j ≤ 4
/-- what came of a line of the reference -/
def Lo (B V : Nat → Nat) (fed p st pl es bl sc fl tl : Nat) (cl : Option Nat) (ch : Bool) (bs : Nat) (bf : Nat → Nat) (k : Nat) (lf : Nat → Nat) (S : zSt) (x : Int32) (S' : zSt) : Prop :=
  (∃ v, S' = su S 66 22 v) ∧
  ((x = 1 ∧ ∃ n, k ≤ n ∧ n ≤ 60 ∧ p + n + 2 ≤ fed ∧ S' 66 22 = nI (p + n) ∧ (∀ j, j < n → B (p + j) < 127) ∧ runA B V (n + 2 - k) (p + k) (st, pl, es, bl, sc, fl, tl, cl, ch, k, lf, false, bs, bf) = mkA (rdA st pl es bl sc fl tl cl ch n (tat n fun j => B (p + j)) bs (V (p + n + 1))) 0 z0 false bs bf)
  ∨ (x = 0 ∧ ∃ len lf' ret, runA B V (fed - (p + k)) (p + k) (st, pl, es, bl, sc, fl, tl, cl, ch, k, lf, false, bs, bf) = (st, pl, es, bl, sc, fl, tl, cl, ch, len, lf', ret, bs, bf))
  ∨ (x = -1 ∧ ∃ len lf' ret, runA B V (fed - (p + k)) (p + k) (st, pl, es, bl, sc, fl, tl, cl, ch, k, lf, false, bs, bf) = (3, pl, es, bl, sc, fl, tl, cl, ch, len, lf', ret, bs, bf)))
theorem mo_line_lp {S : zSt} {fed p st pl es bl sc fl tl : Nat} {cl : Option Nat} {ch : Bool} {bs : Nat} {bf : Nat → Nat} (hB : Bk S fed B V) (hat : S 66 21 = nI p) (hst : st < 2) (hpl : pl ≤ 3) : ∀ m k, k ≤ 60 → p + k ≤ fed → fed - (p + k) < m → (∀ j, j < k → B (p + j) < 127) → ∃ x S', f_Mo_line_5 m (nI (p + k)) S = some (x, S') ∧ Lo B V fed p st pl es bl sc fl tl cl ch bs bf k (tat k fun j => B (p + j)) S x S' := by
  intro m
  induction m with
  | zero => intro k a b c; omega
  | succ m ih =>
    intro k hk hp hm h127
    have hfed := hB.2.1
    rw [f_Mo_line_5, hB.1]
    by_cases hf : fed ≤ p + k
    · rw [if_pos ((nI_leI (by omega) (by omega)).mpr hf)]
      unfold f_Mo_line_68
      rw [nI_1, hB.1, if_neg (fun z => by have := (nI_ltI (by omega) (by omega)).mp z; omega)]
      refine ⟨0, S, rfl, ⟨S 66 22, (su_id rfl).symm⟩, Or.inr (Or.inl ⟨rfl, k, (tat k fun j => B (p + j)), false, ?_⟩)⟩
      rw [show fed - (p + k) = 0 by omega]
      rfl
    · obtain ⟨e1, e2, e3, e4⟩ := hB.2.2 (p + k) (by omega)
      have b13 : (nI (B (p + k)) = 13) ↔ B (p + k) = 13 := nI_eq (b := 13) (by omega) (by omega)
      have b9 : (nI (B (p + k)) = 9) ↔ B (p + k) = 9 := nI_eq (b := 9) (by omega) (by omega)
      have b32 : (nI (B (p + k)) < 32) ↔ B (p + k) < 32 := nI_ltI (b := 32) (by omega) (by omega)
      have b126 : (126 < nI (B (p + k))) ↔ 126 < B (p + k) := nI_ltI (a := 126) (by omega) (by omega)
      rw [if_neg (fun z => hf ((nI_leI (by omega) (by omega)).mp z))]
      simp (disch := omega) only [gdiN, nI_clamp, e1, b13, b9, b32, b126]
      have fail : okc (B (p + k)) = false ∨ 60 ≤ k → B (p + k) ≠ 13 → ∃ x S', some ((-1 : Int32), S) = some (x, S') ∧ Lo B V fed p st pl es bl sc fl tl cl ch bs bf k (tat k fun j => B (p + j)) S x S' := by
        intro ho hn
        refine ⟨-1, S, rfl, ⟨S 66 22, (su_id rfl).symm⟩, Or.inr (Or.inr ⟨rfl, k, (tat k fun j => B (p + j)), false, ?_⟩)⟩
        rw [show fed - (p + k) = (fed - (p + k) - 1) + 1 by omega, run_s, stA_ln hst hpl, if_neg (by decide), if_neg hn, if_pos ho.symm, run_stop _ _ _ (Or.inr rfl)]
      have more : okc (B (p + k)) = true → B (p + k) ≠ 13 → ∃ x S', f_Mo_line_49 (f_Mo_line_5 m) (nI (p + k)) S = some (x, S') ∧ Lo B V fed p st pl es bl sc fl tl cl ch bs bf k (tat k fun j => B (p + j)) S x S' := by
        intro ho hn
        have c60 : (nI (p + k - p) = 60) ↔ p + k - p = 60 := nI_eq (b := 60) (by omega) (by omega)
        unfold f_Mo_line_49
        rw [hat, pk_sub (by omega), nI_1]
        simp only [c60]
        by_cases h60 : p + k - p = 60
        · rw [if_pos h60]
          exact fail (Or.inr (by omega)) hn
        · rw [if_neg h60]
          have hlt : B (p + k) < 127 := by
            unfold okc at ho
            simp at ho
            omega
          obtain ⟨x, S', w1, w2, w3⟩ := ih (k + 1) (by omega) (by omega) (by omega) (fun j hj => by
            by_cases y : j = k
            · rw [y]; exact hlt
            · exact h127 j (by omega))
          have step : ∀ q, runA B V (q + 1) (p + k) (st, pl, es, bl, sc, fl, tl, cl, ch, k, (tat k fun j => B (p + j)), false, bs, bf) = runA B V q (p + (k + 1)) (st, pl, es, bl, sc, fl, tl, cl, ch, k + 1, (tat (k + 1) fun j => B (p + j)), false, bs, bf) := by
            intro q
            rw [run_s, stA_ln hst hpl, if_neg (by decide), if_neg hn, if_neg (fun z => by rcases z with z | z; omega; rw [ho] at z; cases z), tat_up (fun j => B (p + j)) k]
            rfl
          refine ⟨x, S', w1, w2, ?_⟩
          rcases w3 with ⟨y1, n, y2, y3, y4, y5, y6, y7⟩ | ⟨y1, len, lf', ret, y2⟩ | ⟨y1, len, lf', ret, y2⟩
          · refine Or.inl ⟨y1, n, by omega, y3, y4, y5, y6, ?_⟩
            rw [show n + 2 - k = (n + 2 - (k + 1)) + 1 by omega, step]
            exact y7
          · refine Or.inr (Or.inl ⟨y1, len, lf', ret, ?_⟩)
            rw [show fed - (p + k) = (fed - (p + (k + 1))) + 1 by omega, step]
            exact y2
          · refine Or.inr (Or.inr ⟨y1, len, lf', ret, ?_⟩)
            rw [show fed - (p + k) = (fed - (p + (k + 1))) + 1 by omega, step]
            exact y2
      by_cases h13 : B (p + k) = 13
      · rw [if_pos h13]
        unfold f_Mo_line_68 sq
        rw [nI_1, hB.1]
        by_cases h1 : p + k + 1 < fed
        · obtain ⟨d1, d2, d3, d4⟩ := hB.2.2 (p + k + 1) (by omega)
          have b10 : (nI (B (p + k + 1)) = 10) ↔ B (p + k + 1) = 10 := nI_eq (b := 10) (by omega) (by omega)
          rw [if_pos ((nI_ltI (by omega) (by omega)).mpr h1)]
          dsimp only
          rw [gdiN (by omega) (by omega), nI_clamp (by omega)]
          rw [su_ne (by omega), d1]
          simp only [b10]
          by_cases h10 : B (p + k + 1) = 10
          · rw [if_pos h10]
            refine ⟨1, _, rfl, ⟨_, rfl⟩, Or.inl ⟨rfl, k, Nat.le_refl _, hk, by omega, su_eq, h127, ?_⟩⟩
            rw [show k + 2 - k = 0 + 1 + 1 by omega, run_s, stA_ln hst hpl, if_neg (by decide), if_pos h13, run_s, stA_ln hst hpl, if_pos rfl, if_pos h10, run_0]
          · rw [if_neg h10]
            refine ⟨-1, _, rfl, ⟨_, rfl⟩, Or.inr (Or.inr ⟨rfl, k, (tat k fun j => B (p + j)), true, ?_⟩)⟩
            rw [show fed - (p + k) = (fed - (p + k) - 2) + 1 + 1 by omega, run_s, stA_ln hst hpl, if_neg (by decide), if_pos h13, run_s, stA_ln hst hpl, if_pos rfl, if_neg h10, run_stop _ _ _ (Or.inr rfl)]
        · rw [if_neg (fun z => h1 ((nI_ltI (by omega) (by omega)).mp z))]
          refine ⟨0, S, rfl, ⟨S 66 22, (su_id rfl).symm⟩, Or.inr (Or.inl ⟨rfl, k, (tat k fun j => B (p + j)), true, ?_⟩)⟩
          rw [show fed - (p + k) = 0 + 1 by omega, run_s, stA_ln hst hpl, if_neg (by decide), if_pos h13, run_0]
      · rw [if_neg h13]
        by_cases h9 : B (p + k) = 9
        · rw [if_pos h9]
          exact more (by unfold okc; simp; omega) h13
        · rw [if_neg h9]
          by_cases h32 : B (p + k) < 32
          · rw [if_pos h32]
            exact fail (Or.inl (by unfold okc; simp; omega)) h13
          · rw [if_neg h32]
            by_cases h126 : 126 < B (p + k)
            · rw [if_pos h126]
              exact fail (Or.inl (by unfold okc; simp; omega)) h13
            · rw [if_neg h126]
              exact more (by unfold okc; simp; omega) h13
theorem mo_line {S : zSt} {fed p st pl es bl sc fl tl : Nat} {cl : Option Nat} {ch : Bool} {bs : Nat} {bf : Nat → Nat} (hB : Bk S fed B V) (hat : S 66 21 = nI p) (hst : st < 2) (hpl : pl ≤ 3) (hp : p ≤ fed) : ∃ x S', f_Mo_line S = some (x, S') ∧ Lo B V fed p st pl es bl sc fl tl cl ch bs bf 0 z0 S x S' := by
  have h := mo_line_lp (es := es) (bl := bl) (sc := sc) (fl := fl) (tl := tl) (cl := cl) (ch := ch) (bs := bs) (bf := bf) hB hat hst hpl fu 0 (by omega) (by omega) (by have := hB.2.1; unfold fu; omega) (fun j hj => absurd hj (Nat.not_lt_zero j))
  rw [tat_0] at h
  unfold f_Mo_line
  rw [hat]
  exact h
end RUN
