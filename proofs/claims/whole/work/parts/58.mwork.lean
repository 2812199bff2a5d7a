-- the reference's reader: content, chunks, the whole work
def addB (B : Nat → Nat) : Nat → Nat → Nat → (Nat → Nat) → Nat → Nat
  | 0, _, _, bf => bf
  | t + 1, p, bs, bf => addB B t (p + 1) (bs + 1) (upf bf bs (B p))
theorem addB_s (B : Nat → Nat) (t p bs : Nat) (bf : Nat → Nat) : addB B (t + 1) p bs bf = addB B t (p + 1) (bs + 1) (upf bf bs (B p)) := rfl
section MWORK
variable {S0 : zSt} {fed : Nat} {B V : Nat → Nat}
theorem mo_take_lp (hB : Bk S0 fed B V) {ph es fl : Nat} {cl : Option Nat} {ch op : Bool} {k : Nat} (hk : k ≤ 120) : ∀ m i p bs bf S, k - i < m → i ≤ k → p ≤ fed → bs + (k - i) ≤ 120 → Mx S0 S p ph es fl bs bf cl ch op → ∃ t S', f_Mo_take_2 m (nI k) (nI i) S = some (bI (decide (i + t = k)), S') ∧ t = min (k - i) (fed - p) ∧ Mx S0 S' (p + t) ph es fl (bs + t) (addB B t p bs bf) cl ch op := by
  have hfed := hB.2.1
  intro m
  induction m with
  | zero => intro i p bs bf S a; omega
  | succ m ih =>
    intro i p bs bf S hm hi hp hbs hM
    have hBk := Bk_fm hB hM.1
    rw [f_Mo_take_2, hBk.1, hM.2.1]
    have ce : (nI i = nI k) ↔ i = k := nI_eq (by omega) (by omega)
    by_cases h1 : k ≤ i
    · rw [if_pos ((nI_leI (by omega) (by omega)).mpr h1)]
      unfold f_Mo_take_62
      simp only [ce, gdb_0, gdb_1]
      refine ⟨0, S, ?_, by omega, hM⟩
      rw [if_pos (by omega)]
      simp [bI]
      omega
    · rw [if_neg (fun z => h1 ((nI_leI (by omega) (by omega)).mp z))]
      by_cases h2 : fed ≤ p
      · rw [if_pos ((nI_leI (by omega) (by omega)).mpr h2)]
        unfold f_Mo_take_62
        simp only [ce, gdb_0, gdb_1]
        refine ⟨0, S, ?_, by omega, hM⟩
        rw [if_neg (by omega)]
        simp [bI]
        omega
      · rw [if_neg (fun z => h2 ((nI_leI (by omega) (by omega)).mp z))]
        obtain ⟨e1, e2, e3, e4⟩ := hBk.2.2 p (by omega)
        obtain ⟨m0, m1, m2, m3, m4, m5, m6, m7, m8, m9⟩ := hM
        rw [m5, gdiN (by omega) (by omega), gdiN (by omega) (by omega), nI_clamp (by omega), nI_clamp (by omega), e1]
        unfold sq
        dsimp only
        rw [su_ne (by omega), m5, nI_1, su_ne (by omega), su_ne (by omega), m1, nI_1, nI_1]
        have hM' : Mx S0 (su (su (su S 78 bs (nI (B p))) 66 26 (nI (bs + 1))) 66 21 (nI (p + 1))) (p + 1) ph es fl (bs + 1) (upf bf bs (B p)) cl ch op := by
          refine ⟨?_, su_eq, ?_, ?_, ?_, ?_, ?_, ?_, ?_, ?_⟩
          · refine Fm_su (Fm_su ?_ (by omega)) (by omega)
            intro i k a b
            rw [su_ne (by omega)]
            exact m0 i k a b
          · rw [su_ne (by omega), su_ne (by omega), su_ne (by omega)]; exact m2
          · rw [su_ne (by omega), su_ne (by omega), su_ne (by omega)]; exact m3
          · rw [su_ne (by omega), su_ne (by omega), su_ne (by omega)]; exact m4
          · rw [su_ne (by omega), su_eq]
          · intro j hj
            rw [su_ne (by omega), su_ne (by omega), su_ap]
            unfold upf
            by_cases y : j = bs
            · rw [if_pos ⟨rfl, y⟩, if_pos y]
            · rw [if_neg (fun z => y z.2), if_neg y]; exact m6 j (by omega)
          · rw [su_ne (by omega), su_ne (by omega), su_ne (by omega)]; exact m7
          · rw [su_ne (by omega), su_ne (by omega), su_ne (by omega)]; exact m8
          · rw [su_ne (by omega), su_ne (by omega), su_ne (by omega)]; exact m9
        obtain ⟨t, S', w1, w2, w3⟩ := ih (i + 1) (p + 1) (bs + 1) (upf bf bs (B p)) _ (by omega) (by omega) (by omega) (by omega) hM'
        refine ⟨t + 1, S', ?_, by omega, ?_⟩
        · rw [w1, show i + 1 + t = i + (t + 1) by omega]
        · rw [show p + (t + 1) = p + 1 + t by omega, show bs + (t + 1) = bs + 1 + t by omega, addB_s]
          exact w3
theorem mo_take (hB : Bk S0 fed B V) {ph es fl : Nat} {cl : Option Nat} {ch op : Bool} {k p bs : Nat} {bf : Nat → Nat} {S : zSt} (hk : bs + k ≤ 120) (hp : p ≤ fed) (hM : Mx S0 S p ph es fl bs bf cl ch op) : ∃ t S', f_Mo_take (nI k) S = some (bI (decide (t = k)), S') ∧ t = min k (fed - p) ∧ Mx S0 S' (p + t) ph es fl (bs + t) (addB B t p bs bf) cl ch op := by
  obtain ⟨t, S', w1, w2, w3⟩ := mo_take_lp hB (k := k) (by omega) fu 0 p bs bf S (by unfold fu; omega) (by omega) hp (by omega) hM
  rw [Nat.zero_add] at w1
  exact ⟨t, S', w1, by omega, w3⟩
section RUNB
variable {st pl es sc fl tl : Nat} {cl : Option Nat} {ch : Bool} {len : Nat} {lf : Nat → Nat} {ret : Bool}
theorem run_cnt (hst : st < 2) (hpl : pl = 4 ∨ pl = 6) : ∀ t bl p bs bf, t < bl → runA B V t p (st, pl, es, bl, sc, fl, tl, cl, ch, len, lf, ret, bs, bf) = (st, pl, es, bl - t, sc, fl, tl, cl, ch, len, lf, ret, bs + t, addB B t p bs bf) := by
  intro t
  induction t with
  | zero => intro bl p bs bf h; rfl
  | succ t ih =>
    intro bl p bs bf h
    rw [run_s]
    have e : stA (st, pl, es, bl, sc, fl, tl, cl, ch, len, lf, ret, bs, bf) (B p) (V p) = (st, pl, es, bl - 1, sc, fl, tl, cl, ch, len, lf, ret, bs + 1, upf bf bs (B p)) := by
      unfold stA
      dsimp only
      rw [if_neg (by omega), if_pos hpl, if_neg (by omega)]
    rw [e, ih _ _ _ _ (by omega), addB_s, show bl - 1 - t = bl - (t + 1) by omega, show bs + 1 + t = bs + (t + 1) by omega]
theorem run_full (hst : st < 2) (hpl : pl = 4 ∨ pl = 6) : ∀ t p bs bf, runA B V (t + 1) p (st, pl, es, t + 1, sc, fl, tl, cl, ch, len, lf, ret, bs, bf) = (if pl = 6 then st else 2, if pl = 6 then 7 else pl, es, 0, sc, fl, tl, cl, ch, len, lf, ret, bs + (t + 1), addB B (t + 1) p bs bf) := by
  intro t
  induction t with
  | zero =>
    intro p bs bf
    rw [run_s, run_0, addB_s]
    unfold stA
    dsimp only
    rw [if_neg (by omega), if_pos hpl, if_pos (by omega)]
    by_cases h : pl = 6
    · rw [if_pos h, if_pos h, if_pos h]; rfl
    · rw [if_neg h, if_neg h, if_neg h]; rfl
  | succ t ih =>
    intro p bs bf
    have e : stA (st, pl, es, t + 1 + 1, sc, fl, tl, cl, ch, len, lf, ret, bs, bf) (B p) (V p) = (st, pl, es, t + 1, sc, fl, tl, cl, ch, len, lf, ret, bs + 1, upf bf bs (B p)) := by
      unfold stA
      dsimp only
      rw [if_neg (by omega), if_pos hpl, if_neg (by omega)]
      rfl
    rw [run_s, e, ih, addB_s B (t + 1), show bs + 1 + (t + 1) = bs + (t + 1 + 1) by omega]
theorem run_un (hst : st < 2) {bl : Nat} : ∀ t p bs bf, bs + t ≤ 120 → runA B V t p (st, 5, es, bl, sc, fl, tl, cl, ch, len, lf, ret, bs, bf) = (st, 5, es, bl, sc, fl, tl, cl, ch, len, lf, ret, bs + t, addB B t p bs bf) := by
  intro t
  induction t with
  | zero => intro p bs bf h; rfl
  | succ t ih =>
    intro p bs bf h
    have e : stA (st, 5, es, bl, sc, fl, tl, cl, ch, len, lf, ret, bs, bf) (B p) (V p) = (st, 5, es, bl, sc, fl, tl, cl, ch, len, lf, ret, bs + 1, upf bf bs (B p)) := by
      unfold stA
      dsimp only
      rw [if_neg (by omega), if_neg (by omega), if_pos rfl, if_pos (by omega)]
    rw [run_s, e, ih _ _ _ (by omega), addB_s, show bs + 1 + t = bs + (t + 1) by omega]
end RUNB
theorem csS_lt {n : Nat} {g : Nat → Nat} {k : Nat} (h : csS n g = some k) : k < 10000 := by
  unfold csS at h
  split at h
  · cases h; exact csF_lt _
  · cases h
theorem mo_chunks_lp (hB : Bk S0 fed B V) {es sc fl : Nat} {cl : Option Nat} {ch : Bool} : ∀ m bl p bs bf S, fed - p < m → p ≤ fed → bs ≤ 120 → Mx S0 S p 1 es fl bs bf cl ch false → ∃ S', f_Mo_chunks_7 m 1 S = some S' ∧ Fm S0 S' ∧ Fi S' (runA B V (fed - p) p (1, 2, es, bl, sc, fl, 0, cl, ch, 0, z0, false, bs, bf)) := by
  have hfed := hB.2.1
  intro m
  induction m with
  | zero => intro bl p bs bf S a; omega
  | succ m ih =>
    intro bl p bs bf S hm hp hbs hM
    rw [f_Mo_chunks_7, if_neg (by decide)]
    obtain ⟨x, S1, w1, ⟨v, rfl⟩, hL⟩ := mo_line (st := 1) (pl := 2) (es := es) (bl := bl) (sc := sc) (fl := fl) (tl := 0) (cl := cl) (ch := ch) (bs := bs) (bf := bf) (Bk_fm hB hM.1) hM.2.1 (by omega) (by omega) hp
    have hM1 := Mx_22 hM v
    rw [w1]
    simp only [Option.bind_some]
    rcases hL with ⟨rfl, n, -, hn, hpn, h22, h127, hrun⟩ | ⟨rfl, len, lf, ret, hrun⟩ | ⟨rfl, len, lf, ret, hrun⟩
    · have hLm := Lm_of (Bk_fm hB hM1.1) hM1.2.1 h22 hn hpn h127
      rw [if_pos rfl, mo_cs hLm]
      simp only [Option.bind_some]
      rw [show n + 2 - 0 = n + 2 from rfl, show p + 0 = p from rfl] at hrun
      have hrd : rdA 1 2 es bl sc fl 0 cl ch n (tat n fun j => B (p + j)) bs (V (p + n + 1)) = match csS n (tat n fun j => B (p + j)) with
        | none => (3, 2, es, bl, sc, fl, 0, cl, ch)
        | some k => if bs + k ≤ 120 then (1, if k = 0 then 3 else 6, es, k, sc, fl, 0, cl, ch) else (3, 2, es, bl, sc, fl, 0, cl, ch) := by
        unfold rdA
        rw [if_neg (by decide), if_neg (by decide), if_pos rfl]
        cases csS n (tat n fun j => B (p + j)) <;> rfl
      have cut := run_cut (B := B) (V := V) (k := fed - p) (q := n + 2) (p := p) (by omega) (1, 2, es, bl, sc, fl, 0, cl, ch, 0, z0, false, bs, bf)
      rw [hrun, hrd, show fed - p - (n + 2) = fed - (p + n + 2) by omega, show p + (n + 2) = p + n + 2 by omega] at cut
      rw [cut]
      have bad : ∃ S', f_Mo_chunks_55 (su S 66 22 v) = some S' ∧ Fm S0 S' ∧ Fi S' (3, 2, es, bl, sc, fl, 0, cl, ch, 0, z0, false, bs, bf) := ⟨_, rfl, (Mx_23 hM1 3).1, Fi_of (Mx_23 hM1 3) (fun z => by omega)⟩
      cases hcs : csS n (tat n fun j => B (p + j)) with
      | none =>
        rw [if_pos (by decide), run_stop _ _ _ (Or.inr rfl)]
        exact bad
      | some k =>
        have hk := csS_lt hcs
        have eo : oI (some k) = nI k := rfl
        rw [eo, if_neg (nI_pos (by omega)), hM1.2.2.2.2.2.1, nI_add]
        dsimp only
        by_cases h120 : bs + k ≤ 120
        · have c120 : (nI (bs + k) ≤ 120) := (nI_leI (b := 120) (by omega) (by omega)).mpr h120
          rw [if_pos c120, if_pos h120, h22]
          unfold sq
          dsimp only
          rw [show (2 : Int32) = nI 2 from rfl, nI_add]
          have hM2 := Mx_21 hM1 (p + n + 2)
          have ck : (nI k = 0) ↔ k = 0 := nI_eq (b := 0) (by omega) (by omega)
          simp only [ck]
          by_cases h0 : k = 0
          · rw [if_pos h0, if_pos h0]
            unfold f_Mo_fieldLines
            obtain ⟨x', S5, w1', w2'⟩ := mo_line (st := 1) (pl := 3) (es := es) (bl := k) (sc := sc) (fl := fl) (tl := 0) (cl := cl) (ch := ch) (bs := bs) (bf := bf) (Bk_fm hB hM2.1) hM2.2.1 (by omega) (by omega) hpn
            obtain ⟨y, S', s, u1, u2, q, tl', len, lf, ret, u3, u4⟩ := mo_fls1 hB (st := 1) (by omega) fu 0 (p + n + 2) _ x' S5 (by omega) (by unfold fu; omega) hpn hM2 w2'
            have u1' : f_Mo_fieldLines_7 fu 1 0 x' S5 = some (y, S') := u1
            rw [w1']
            simp only [Option.bind_some]
            rw [u1']
            simp only [Option.bind_some]
            have e : runA B V (fed - (p + n + 2)) (p + n + 2) (mkA (1, 3, es, k, sc, fl, 0, cl, ch) 0 z0 false bs bf) = _ := u4
            rw [e]
            unfold f_Mo_chunks_99 sq
            rcases u2 with ⟨rfl, rfl⟩ | ⟨rfl, rfl⟩ | ⟨rfl, rfl⟩
            · rw [if_pos (by decide), if_neg (by decide)]
              exact ⟨_, rfl, (Mx_23 u3 2).1, Fi_of (Mx_23 u3 2) (fun z => by omega)⟩
            · rw [if_pos (by decide), if_pos rfl]
              exact ⟨_, rfl, (Mx_23 u3 1).1, Fi_of (Mx_23 u3 1) (fun z => rfl)⟩
            · rw [if_neg (by decide)]
              exact ⟨_, rfl, (Mx_23 u3 3).1, Fi_of (Mx_23 u3 3) (fun z => by omega)⟩
          · rw [if_neg h0, if_neg h0]
            obtain ⟨t, S3, u1, u2, u3⟩ := mo_take hB (k := k) h120 hpn hM2
            rw [u1]
            simp only [Option.bind_some, bI_0]
            have ea : mkA (1, 6, es, k, sc, fl, 0, cl, ch) 0 z0 false bs bf = (1, 6, es, k, sc, fl, 0, cl, ch, 0, z0, false, bs, bf) := rfl
            rw [ea]
            by_cases ht : t = k
            · subst ht
              obtain ⟨j, rfl⟩ : ∃ j, t = j + 1 := ⟨t - 1, by omega⟩
              have cut2 := run_cut (B := B) (V := V) (k := fed - (p + n + 2)) (q := j + 1) (p := p + n + 2) (by omega) (1, 6, es, j + 1, sc, fl, 0, cl, ch, 0, z0, false, bs, bf)
              rw [run_full (by omega) (Or.inr rfl), if_pos rfl, if_pos rfl] at cut2
              rw [cut2]
              have hd : ¬ (decide (j + 1 = j + 1) = false) := by simp
              rw [if_neg hd]
              generalize addB B (j + 1) (p + n + 2) bs bf = bf' at u3 ⊢
              generalize hq : p + n + 2 + (j + 1) = q at u3 ⊢
              generalize hb : bs + (j + 1) = bs' at u3 ⊢
              rw [show fed - (p + n + 2) - (j + 1) = fed - q by omega]
              have hq2 : q ≤ fed := by omega
              have hB3 := Bk_fm hB u3.1
              have lost : ∀ S4 pl', Mx S0 S4 (q + 1) 1 es fl bs' bf' cl ch false ∨ Mx S0 S4 (q + 1 + 1) 1 es fl bs' bf' cl ch false → fed - q < m → ∃ S', f_Mo_chunks_7 m 0 S4 = some S' ∧ Fm S0 S' ∧ Fi S' (3, pl', es, 0, sc, fl, 0, cl, ch, 0, z0, false, bs', bf') := by
                intro S4 pl' h4 hm4
                obtain ⟨m', rfl⟩ : ∃ m', m = m' + 1 := ⟨m - 1, by omega⟩
                rw [f_Mo_chunks_7, if_pos rfl]
                rcases h4 with h4 | h4
                · exact ⟨_, rfl, (Mx_23 h4 3).1, Fi_of (Mx_23 h4 3) (fun z => by omega)⟩
                · exact ⟨_, rfl, (Mx_23 h4 3).1, Fi_of (Mx_23 h4 3) (fun z => by omega)⟩
              rw [show fu = 3997 + 1 + 1 + 1 from rfl, f_Mo_chunks_115, if_neg (by decide), if_neg (by decide), hB3.1, u3.2.1]
              have cq : (nI q = nI fed) ↔ q = fed := nI_eq (by omega) (by omega)
              simp only [cq]
              by_cases hqf : q = fed
              · rw [if_pos hqf, show fed - q = 0 by omega, run_0]
                exact ⟨_, rfl, u3.1, Fi_of u3 (fun z => rfl)⟩
              · rw [if_neg hqf]
                obtain ⟨e1, e2, -, -⟩ := hB3.2.2 q (by omega)
                rw [gdiN (by omega) (by omega), if_pos trivial, nI_clamp (by omega), e1]
                unfold f_Mo_chunks_158 f_Mo_chunks_166 sq
                have c13 : (nI (B q) = 13) ↔ B q = 13 := nI_eq (b := 13) (by omega) (by omega)
                simp only [c13]
                rw [u3.2.1, nI_1, show (0 : Int32) + 1 = 1 from rfl]
                have hM4 := Mx_21 u3 (q + 1)
                have s7 : stA (1, 7, es, 0, sc, fl, 0, cl, ch, 0, z0, false, bs', bf') (B q) (V q) = if B q = 13 then (1, 8, es, 0, sc, fl, 0, cl, ch, 0, z0, false, bs', bf') else (3, 7, es, 0, sc, fl, 0, cl, ch, 0, z0, false, bs', bf') := by
                  unfold stA
                  dsimp only
                  rw [if_neg (by decide), if_neg (by decide), if_neg (by decide), if_pos rfl]
                rw [show fed - q = (fed - (q + 1)) + 1 by omega, run_s, s7]
                by_cases h13 : B q = 13
                · rw [if_pos h13, if_pos h13, f_Mo_chunks_115, if_neg (by decide), if_neg (by decide)]
                  have hB4 := Bk_fm hB hM4.1
                  rw [hB4.1, hM4.2.1]
                  have cq1 : (nI (q + 1) = nI fed) ↔ q + 1 = fed := nI_eq (by omega) (by omega)
                  simp only [cq1]
                  by_cases hqf1 : q + 1 = fed
                  · rw [if_pos hqf1, show fed - (q + 1) = 0 by omega, run_0]
                    exact ⟨_, rfl, hM4.1, Fi_of hM4 (fun z => rfl)⟩
                  · rw [if_neg hqf1]
                    obtain ⟨d1, d2, -, -⟩ := hB4.2.2 (q + 1) (by omega)
                    rw [gdiN (by omega) (by omega), if_neg (by decide), nI_clamp (by omega), d1]
                    unfold f_Mo_chunks_158 f_Mo_chunks_166 sq
                    have c10 : (nI (B (q + 1)) = 10) ↔ B (q + 1) = 10 := nI_eq (b := 10) (by omega) (by omega)
                    simp only [c10]
                    rw [hM4.2.1, nI_1, show (1 : Int32) + 1 = 2 from rfl]
                    have hM5 := Mx_21 hM4 (q + 1 + 1)
                    have s8 : stA (1, 8, es, 0, sc, fl, 0, cl, ch, 0, z0, false, bs', bf') (B (q + 1)) (V (q + 1)) = if B (q + 1) = 10 then (1, 2, es, 0, sc, fl, 0, cl, ch, 0, z0, false, bs', bf') else (3, 8, es, 0, sc, fl, 0, cl, ch, 0, z0, false, bs', bf') := by
                      unfold stA
                      dsimp only
                      rw [if_neg (by decide), if_neg (by decide), if_neg (by decide), if_neg (by decide), if_pos rfl]
                    rw [show fed - (q + 1) = (fed - (q + 1 + 1)) + 1 by omega, run_s, s8]
                    by_cases h10 : B (q + 1) = 10
                    · rw [if_pos h10, if_pos h10, f_Mo_chunks_115, if_pos (by decide)]
                      unfold f_Mo_chunks_183
                      exact ih 0 (q + 1 + 1) bs' bf' _ (by omega) (by omega) (by omega) hM5
                    · rw [if_neg h10, if_neg h10, f_Mo_chunks_115, if_pos (by decide), run_stop _ _ _ (Or.inr rfl)]
                      unfold f_Mo_chunks_183
                      exact lost _ 8 (Or.inr hM5) (by omega)
                · rw [if_neg h13, if_neg h13, f_Mo_chunks_115, if_neg (by decide), if_pos rfl, run_stop _ _ _ (Or.inr rfl)]
                  unfold f_Mo_chunks_183
                  exact lost _ 7 (Or.inl hM4) (by omega)
            · have hd : decide (t = k) = false := by simp [ht]
              rw [if_pos hd]
              have htf : t = fed - (p + n + 2) := by omega
              rw [← htf, run_cnt (by omega) (Or.inr rfl) _ _ _ _ _ (by omega)]
              exact ⟨_, rfl, u3.1, Fi_of u3 (fun z => rfl)⟩
        · have c120 : ¬ (nI (bs + k) ≤ 120) := fun z => h120 ((nI_leI (b := 120) (by omega) (by omega)).mp z)
          rw [if_neg c120, if_neg h120, run_stop _ _ _ (Or.inr rfl)]
          exact bad
    · rw [if_neg (by decide), if_pos (by decide)]
      have hrun' : runA B V (fed - p) p (1, 2, es, bl, sc, fl, 0, cl, ch, 0, z0, false, bs, bf) = _ := hrun
      rw [hrun']
      unfold f_Mo_chunks_31 sq
      exact ⟨_, rfl, (Mx_23 hM1 1).1, Fi_of (Mx_23 hM1 1) (fun z => rfl)⟩
    · rw [if_neg (by decide), if_neg (by decide)]
      have hrun' : runA B V (fed - p) p (1, 2, es, bl, sc, fl, 0, cl, ch, 0, z0, false, bs, bf) = _ := hrun
      rw [hrun']
      unfold f_Mo_chunks_31 sq
      exact ⟨_, rfl, (Mx_23 hM1 3).1, Fi_of (Mx_23 hM1 3) (fun z => by omega)⟩
/-- what comes behind a head that is not passed over -/
def afA (c fl : Nat) (cl : Option Nat) (ch : Bool) : zR := match cl with
    | none => (1, if ch = true then 2 else 5, c, 0, c, fl, 0, none, ch)
    | some n => if 120 < n then (3, 1, c, 0, c, fl, 0, some n, ch) else (if n = 0 then 2 else 1, 4, c, n, c, fl, 0, some n, ch)
theorem mo_after (hB : Bk S0 fed B V) {q c fl : Nat} {bf : Nat → Nat} {cl : Option Nat} {ch : Bool} {S : zSt} (hq : q ≤ fed) (hM : Mx S0 S q 0 c fl 0 bf cl ch false) (h4 : ∀ k, cl = some k → k < 10000) (hx : ch = true → cl = none) : ∃ S', f_Mo_after S = some S' ∧ Fm S0 S' ∧ Fi S' (runA B V (fed - q) q (mkA (afA c fl cl ch) 0 z0 false 0 bf)) := by
  have hfed := hB.2.1
  unfold f_Mo_after
  rw [hM.2.2.2.2.2.2.2.2.1, hM.2.2.2.2.2.2.2.1]
  simp only [bI_0]
  cases ch with
  | true =>
    have hcl := hx rfl
    subst hcl
    rw [if_neg (by decide)]
    unfold f_Mo_chunks sq
    obtain ⟨S', w1, w2, w3⟩ := mo_chunks_lp hB (es := c) (sc := c) fu 0 q 0 bf _ (by unfold fu; omega) hq (by omega) (Mx_23 hM 1)
    have w1' : f_Mo_chunks_7 fu 1 (su S 66 23 1) = some S' := w1
    dsimp only
    rw [w1']
    exact ⟨S', rfl, w2, w3⟩
  | false =>
    rw [if_pos rfl]
    cases cl with
    | none =>
      rw [if_pos (by decide), if_pos (by decide), gdb_1]
      have hM1 : Mx S0 (su S 66 30 1) q 0 c fl 0 bf none false true := Mx_30 hM true
      unfold sq
      dsimp only
      rw [(Bk_fm hB hM1.1).1, hM1.2.1, pk_sub hq]
      have c120 : (120 ≤ nI (fed - q)) ↔ 120 ≤ fed - q := nI_leI (a := 120) (by omega) (by omega)
      simp only [c120]
      have fin : ∀ t, t ≤ 120 → t ≤ fed - q → (t = fed - q ∨ t = 120) → ∃ S', f_Mo_after_89 (nI t) (su S 66 30 1) = some S' ∧ Fm S0 S' ∧ Fi S' (runA B V (fed - q) q (1, 5, c, 0, c, fl, 0, none, false, 0, z0, false, 0, bf)) := by
        intro t h1 h2 h3
        unfold f_Mo_after_89
        obtain ⟨t', S3, u1, u2, u3⟩ := mo_take hB (k := t) (by omega) hq hM1
        have ht : t' = t := by omega
        subst ht
        rw [u1]
        simp only [Option.bind_some]
        rw [(Bk_fm hB u3.1).1, u3.2.1]
        have cut := run_cut (B := B) (V := V) (k := fed - q) (q := t') (p := q) h2 (1, 5, c, 0, c, fl, 0, none, false, 0, z0, false, 0, bf)
        rw [run_un (by omega) t' q 0 bf (by omega)] at cut
        rw [cut]
        unfold f_Mo_after_110 sq
        by_cases hf : fed ≤ q + t'
        · rw [if_pos ((nI_leI (by omega) (by omega)).mpr hf), show fed - q - t' = 0 by omega, run_0]
          exact ⟨_, rfl, (Mx_23 u3 1).1, Fi_of (Mx_23 u3 1) (fun z => rfl)⟩
        · rw [if_neg (fun z => hf ((nI_leI (by omega) (by omega)).mp z)), show fed - q - t' = (fed - q - t' - 1) + 1 by omega, run_s]
          have e : stA (1, 5, c, 0, c, fl, 0, none, false, 0, z0, false, 0 + t', addB B t' q 0 bf) (B (q + t')) (V (q + t')) = (3, 5, c, 0, c, fl, 0, none, false, 0, z0, false, 0 + t', addB B t' q 0 bf) := by
            unfold stA
            dsimp only
            rw [if_neg (by decide), if_neg (by decide), if_pos rfl, if_neg (by omega)]
          rw [e, run_stop _ _ _ (Or.inr rfl)]
          exact ⟨_, rfl, (Mx_23 u3 3).1, Fi_of (Mx_23 u3 3) (fun z => by omega)⟩
      by_cases h120 : 120 ≤ fed - q
      · rw [if_pos h120]
        exact fin 120 (by omega) h120 (Or.inr rfl)
      · rw [if_neg h120]
        exact fin (fed - q) (by omega) (by omega) (Or.inl rfl)
    | some k =>
      have hk := h4 k rfl
      have eo : oI (some k) = nI k := rfl
      have c120 : (nI k ≤ 120) ↔ k ≤ 120 := nI_leI (b := 120) (by omega) (by omega)
      have eaf : afA c fl (some k) false = if 120 < k then (3, 1, c, 0, c, fl, 0, some k, false) else (if k = 0 then 2 else 1, 4, c, k, c, fl, 0, some k, false) := rfl
      rw [eo, eaf]
      simp only [c120]
      by_cases h120 : k ≤ 120
      · rw [if_pos h120, if_neg (nI_pos (by omega)), if_neg (by omega)]
        obtain ⟨t, S3, u1, u2, u3⟩ := mo_take hB (k := k) (by omega) hq hM
        rw [u1]
        simp only [Option.bind_some, bI_0]
        unfold f_Mo_after_55 sq
        by_cases h0 : k = 0
        · subst h0
          have ht : t = 0 := by omega
          subst ht
          rw [if_neg (by decide), if_pos rfl, run_stop _ _ _ (Or.inl rfl)]
          exact ⟨_, rfl, (Mx_23 u3 2).1, Fi_of (Mx_23 u3 2) (fun z => by omega)⟩
        · rw [if_neg h0]
          have ea : mkA (1, 4, c, k, c, fl, 0, some k, false) 0 z0 false 0 bf = (1, 4, c, k, c, fl, 0, some k, false, 0, z0, false, 0, bf) := rfl
          rw [ea]
          by_cases ht : t = k
          · subst ht
            obtain ⟨j, rfl⟩ : ∃ j, t = j + 1 := ⟨t - 1, by omega⟩
            have cut2 := run_cut (B := B) (V := V) (k := fed - q) (q := j + 1) (p := q) (by omega) (1, 4, c, j + 1, c, fl, 0, some (j + 1), false, 0, z0, false, 0, bf)
            rw [run_full (by omega) (Or.inl rfl) j q 0 bf, if_neg (by decide), if_neg (by decide)] at cut2
            rw [cut2, run_stop _ _ _ (Or.inl rfl), if_neg (by simp)]
            exact ⟨_, rfl, (Mx_23 u3 2).1, Fi_of (Mx_23 u3 2) (fun z => by omega)⟩
          · have htf : t = fed - q := by omega
            rw [if_pos (by simp [ht]), ← htf, run_cnt (by omega) (Or.inl rfl) _ _ _ _ _ (by omega)]
            exact ⟨_, rfl, (Mx_23 u3 1).1, Fi_of (Mx_23 u3 1) (fun z => rfl)⟩
      · rw [if_neg h120, if_pos (by omega), run_stop _ _ _ (Or.inr rfl)]
        unfold sq
        exact ⟨_, rfl, (Mx_23 hM 3).1, Fi_of (Mx_23 hM 3) (fun z => by omega)⟩
def a0A (bf : Nat → Nat) : zA := (0, 0, 0, 0, 0, 0, 0, none, false, 0, z0, false, 0, bf)
theorem mo_work_lp (hB : Bk S0 fed B V) {bf : Nat → Nat} : ∀ m p S, fed - p < m → p ≤ fed → Mx S0 (nh S) p 0 0 0 0 bf none false false → ∃ S', ((f_Mo_head S).bind fun u => f_Mo_work_30 m u.1 u.2) = f_Mo_work_154 S' ∧ Fm S0 S' ∧ Fi S' (runA B V (fed - p) p (a0A bf)) := by
  have hfed := hB.2.1
  intro m
  induction m with
  | zero => intro p S a; omega
  | succ m ih =>
    intro p S hm hp hM
    obtain ⟨y, S1, w1, w2⟩ := mo_head hB (bl := 0) hp hM
    rw [w1]
    simp only [Option.bind_some]
    rw [f_Mo_work_30]
    unfold a0A
    rcases w2 with ⟨rfl, q, c, fl, cl, ch, hM1, hfl, hc1, hc2, h4, hx, hpq, hq, hrun⟩ | ⟨s, hs, q, fl, cl, ch, hM1, pl, sc, len, lf, ret, hrun⟩
    · have cut := run_cut (B := B) (V := V) (k := fed - p) (q := q - p) (p := p) (by omega) (0, 0, 0, 0, 0, 0, 0, none, false, 0, z0, false, 0, bf)
      rw [hrun, show fed - p - (q - p) = fed - q by omega, show p + (q - p) = q by omega] at cut
      rw [if_pos rfl, hM1.2.2.2.1, cut]
      have c200 : (200 ≤ nI c) ↔ 200 ≤ c := nI_leI (a := 200) (by omega) (by omega)
      have c101 : (nI c = 101) ↔ c = 101 := nI_eq (b := 101) (by omega) (by omega)
      have c204 : (nI c = 204) ↔ c = 204 := nI_eq (b := 204) (by omega) (by omega)
      have c304 : (nI c = 304) ↔ c = 304 := nI_eq (b := 304) (by omega) (by omega)
      simp only [c200, c101]
      have last : ¬ (100 ≤ c ∧ c ≤ 199 ∧ c ≠ 101) → ∃ S', f_Mo_work_67 1 S1 = f_Mo_work_154 S' ∧ Fm S0 S' ∧ Fi S' (runA B V (fed - q) q (mkA (ehA 0 1 0 0 c fl 0 cl ch (V (q - 1))) 0 z0 false 0 bf)) := by
        intro hno
        have hB1 := Bk_fm hB hM1.1
        obtain ⟨-, -, e3, e4⟩ := hB1.2.2 (q - 1) (by omega)
        have eq1 : nI q - 1 = nI (q - 1) := by
          obtain ⟨j, rfl⟩ : ∃ j, q = j + 1 := ⟨q - 1, by omega⟩
          exact nI_pred j
        have cv : (nI (V (q - 1)) = 1) ↔ V (q - 1) = 1 := nI_eq (b := 1) (by omega) (by omega)
        have eeh : ehA 0 1 0 0 c fl 0 cl ch (V (q - 1)) = if c = 101 then (3, 1, c, 0, c, fl, 0, cl, ch) else (if V (q - 1) = 1 ∨ c = 204 ∨ c = 304 then (2, 1, c, 0, c, fl, 0, cl, ch) else afA c fl cl ch) := by
          unfold ehA afA
          rw [if_neg hno]
          by_cases w1 : c = 101
          · rw [if_pos w1, if_pos w1]
          · rw [if_neg w1, if_neg w1]
            by_cases w2 : V (q - 1) = 1 ∨ c = 204 ∨ c = 304
            · rw [if_pos w2, if_pos w2]
            · rw [if_neg w2, if_neg w2]
              cases cl <;> rfl
        rw [eeh]
        unfold f_Mo_work_67 f_Mo_work_126 f_Mo_work_138 sq
        rw [if_pos rfl, hM1.2.1, eq1, gdiN (by omega) (by omega), nI_clamp (by omega), hM1.2.2.2.1, e3]
        simp only [c101, cv, c204, c304]
        by_cases h101 : c = 101
        · rw [if_pos h101, if_pos h101, run_stop _ _ _ (Or.inr rfl)]
          exact ⟨_, rfl, (Mx_23 hM1 3).1, Fi_of (Mx_23 hM1 3) (fun z => by omega)⟩
        · rw [if_neg h101, if_neg h101]
          have no : V (q - 1) = 1 ∨ c = 204 ∨ c = 304 → Fm S0 (su S1 66 23 2) ∧ Fi (su S1 66 23 2) (runA B V (fed - q) q (mkA (if V (q - 1) = 1 ∨ c = 204 ∨ c = 304 then (2, 1, c, 0, c, fl, 0, cl, ch) else afA c fl cl ch) 0 z0 false 0 bf)) := by
            intro hv
            rw [if_pos hv, run_stop _ _ _ (Or.inl rfl)]
            exact ⟨(Mx_23 hM1 2).1, Fi_of (Mx_23 hM1 2) (fun z => by omega)⟩
          by_cases v1 : V (q - 1) = 1
          · rw [if_pos v1]
            exact ⟨_, rfl, no (Or.inl v1)⟩
          · rw [if_neg v1]
            by_cases v2 : c = 204
            · rw [if_pos v2]
              exact ⟨_, rfl, no (Or.inr (Or.inl v2))⟩
            · rw [if_neg v2]
              by_cases v3 : c = 304
              · rw [if_pos v3]
                exact ⟨_, rfl, no (Or.inr (Or.inr v3))⟩
              · rw [if_neg v3, if_neg (by omega)]
                obtain ⟨S', u1, u2, u3⟩ := mo_after hB hq hM1 h4 hx
                rw [u1]
                exact ⟨S', rfl, u2, u3⟩
      by_cases h200 : 200 ≤ c
      · rw [if_pos h200]
        exact last (by omega)
      · rw [if_neg h200]
        by_cases h101 : c = 101
        · rw [if_pos h101]
          exact last (by omega)
        · rw [if_neg h101]
          have e : ehA 0 1 0 0 c fl 0 cl ch (V (q - 1)) = (0, 0, 0, 0, 0, 0, 0, none, false) := by
            unfold ehA
            rw [if_pos (by omega)]
          rw [e]
          exact ih q _ (by omega) hq (Mx_nh (Mx_24 hM1 0))
    · have hrun' : runA B V (fed - p) p (0, 0, 0, 0, 0, 0, 0, none, false, 0, z0, false, 0, bf) = _ := hrun
      rw [hrun']
      unfold f_Mo_work_67 f_Mo_work_151 sq
      rcases hs with ⟨rfl, rfl⟩ | ⟨rfl, rfl⟩
      · rw [if_neg (by decide), if_neg (by decide), if_pos (by decide)]
        exact ⟨_, rfl, (Mx_23 hM1 0).1, Fi_of (Mx_23 hM1 0) (fun z => by simp)⟩
      · rw [if_neg (by decide), if_neg (by decide), if_neg (by decide)]
        exact ⟨_, rfl, (Mx_23 hM1 3).1, Fi_of (Mx_23 hM1 3) (fun z => by omega)⟩
def clA (closed : Bool) (a : zA) : zA := match a with
  | (st, pl, es, bl, sc, fl, tl, cl, ch, len, lf, ret, bs, bf) => (if closed = true then (if (st = 1 ∧ pl = 5) ∨ st = 2 then 2 else 3) else st, pl, es, bl, sc, fl, tl, cl, ch, len, lf, ret, bs, bf)
def Fz (S : zSt) (a : zA) : Prop := match a with
  | (st, _, es, _, _, fl, _, _, _, _, _, _, bs, bf) => S 66 23 = nI st ∧ S 66 24 = nI es ∧ S 66 25 = nI fl ∧ S 66 26 = nI bs ∧ (∀ j, j < bs → S 78 j = nI (bf j))
theorem mo_work {S : zSt} (hB : Bk S fed B V) {closed : Bool} (hc : S 66 20 = bI closed) (hst : (runA B V fed 0 (a0A z0)).1 ≤ 3) : ∃ S', f_Mo_work S = some S' ∧ Fm S S' ∧ Fz S' (clA closed (runA B V fed 0 (a0A z0))) := by
  have hfed := hB.2.1
  have hM : Mx S (nh (su (su (su (su (su S 66 21 0) 66 23 0) 66 26 0) 66 30 0) 66 24 0)) 0 0 0 0 0 z0 none false false := by
    unfold nh
    refine ⟨Fm_su (Fm_su (Fm_su (Fm_su (Fm_su (Fm_su (Fm_su (Fm_su Fm_rf (by omega)) (by omega)) (by omega)) (by omega)) (by omega)) (by omega)) (by omega)) (by omega), ?_, ?_, ?_, ?_, ?_, fun j hj => absurd hj (Nat.not_lt_zero j), ?_, ?_, ?_⟩ <;> simp [su_ap, oI, bI] <;> rfl
  obtain ⟨S', w1, w2, w3⟩ := mo_work_lp hB fu 0 _ (by unfold fu; omega) (by omega) hM
  rw [Nat.sub_zero] at w3
  unfold f_Mo_work sq
  dsimp only
  rw [gdb_0, w1]
  have e20 : S' 66 20 = bI closed := by rw [w2 _ _ (by omega) (by omega)]; exact hc
  generalize runA B V fed 0 (a0A z0) = a at hst w3
  obtain ⟨st, pl, es, bl, sc, fl, tl, cl, ch, len, lf, ret, bs, bf⟩ := a
  have hst' : st ≤ 3 := hst
  obtain ⟨f1, f2, f3, f4, f5, f6⟩ := w3
  unfold f_Mo_work_154 f_Mo_work_182 sq
  rw [e20, f1]
  have c2 : (2 ≤ nI st) ↔ 2 ≤ st := nI_leI (a := 2) (by omega) (by omega)
  simp only [bI_0, c2]
  cases closed with
  | false =>
    rw [if_pos rfl]
    exact ⟨S', rfl, w2, f1, f2, f3, f4, f5⟩
  | true =>
    rw [if_neg (by decide)]
    by_cases h2 : 2 ≤ st
    · rw [if_pos h2]
      refine ⟨S', rfl, w2, ?_, f2, f3, f4, f5⟩
      rw [f1, if_pos rfl]
      by_cases h3 : st = 2
      · rw [if_pos (Or.inr h3), h3]
      · rw [if_neg (by omega), show st = 3 by omega]
    · rw [if_neg h2, f6 (by omega)]
      simp only [bI_0]
      have out : ∀ v, Fm S (su S' 66 23 (nI v)) ∧ Fz (su S' 66 23 (nI v)) (v, pl, es, bl, sc, fl, tl, cl, ch, len, lf, ret, bs, bf) := fun v => ⟨Fm_su w2 (by omega), su_eq, by rw [su_ne (by omega)]; exact f2, by rw [su_ne (by omega)]; exact f3, by rw [su_ne (by omega)]; exact f4, fun j hj => by rw [su_ne (by omega)]; exact f5 j hj⟩
      unfold clA
      dsimp only
      rw [if_pos rfl]
      by_cases h5 : st = 1 ∧ pl = 5
      · rw [if_neg (by simp [h5]), if_pos (Or.inl h5)]
        exact ⟨_, rfl, out 2⟩
      · rw [if_pos (by simpa using h5), if_neg (by omega)]
        exact ⟨_, rfl, out 3⟩
end MWORK
