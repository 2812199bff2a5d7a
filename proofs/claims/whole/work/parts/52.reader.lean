-- the class's reader: a line that has ended, a byte
section RX
variable {S : zSt} {st pl es bl sc fl tl : Nat} {cl : Option Nat} {ch : Bool}
theorem Rx_st (h : Rx S (st, pl, es, bl, sc, fl, tl, cl, ch)) (x : Nat) : Rx (su S 6 3 (nI x)) (x, pl, es, bl, sc, fl, tl, cl, ch) := by
  obtain ⟨q0, q1, q2, q3, q4, q5, q6, q7, q8⟩ := h
  exact ⟨su_eq, by rw [su_ne (by decide)]; exact q1, by rw [su_ne (by decide)]; exact q2, by rw [su_ne (by decide)]; exact q3, by rw [su_ne (by decide)]; exact q4, by rw [su_ne (by decide)]; exact q5, by rw [su_ne (by decide)]; exact q6, by rw [su_ne (by decide)]; exact q7, by rw [su_ne (by decide)]; exact q8⟩
theorem Rx_pl (h : Rx S (st, pl, es, bl, sc, fl, tl, cl, ch)) (x : Nat) : Rx (su S 6 4 (nI x)) (st, x, es, bl, sc, fl, tl, cl, ch) := by
  obtain ⟨q0, q1, q2, q3, q4, q5, q6, q7, q8⟩ := h
  exact ⟨by rw [su_ne (by decide)]; exact q0, su_eq, by rw [su_ne (by decide)]; exact q2, by rw [su_ne (by decide)]; exact q3, by rw [su_ne (by decide)]; exact q4, by rw [su_ne (by decide)]; exact q5, by rw [su_ne (by decide)]; exact q6, by rw [su_ne (by decide)]; exact q7, by rw [su_ne (by decide)]; exact q8⟩
theorem Rx_es (h : Rx S (st, pl, es, bl, sc, fl, tl, cl, ch)) (x : Nat) : Rx (su S 6 5 (nI x)) (st, pl, x, bl, sc, fl, tl, cl, ch) := by
  obtain ⟨q0, q1, q2, q3, q4, q5, q6, q7, q8⟩ := h
  exact ⟨by rw [su_ne (by decide)]; exact q0, by rw [su_ne (by decide)]; exact q1, su_eq, by rw [su_ne (by decide)]; exact q3, by rw [su_ne (by decide)]; exact q4, by rw [su_ne (by decide)]; exact q5, by rw [su_ne (by decide)]; exact q6, by rw [su_ne (by decide)]; exact q7, by rw [su_ne (by decide)]; exact q8⟩
theorem Rx_bl (h : Rx S (st, pl, es, bl, sc, fl, tl, cl, ch)) (x : Nat) : Rx (su S 6 6 (nI x)) (st, pl, es, x, sc, fl, tl, cl, ch) := by
  obtain ⟨q0, q1, q2, q3, q4, q5, q6, q7, q8⟩ := h
  exact ⟨by rw [su_ne (by decide)]; exact q0, by rw [su_ne (by decide)]; exact q1, by rw [su_ne (by decide)]; exact q2, su_eq, by rw [su_ne (by decide)]; exact q4, by rw [su_ne (by decide)]; exact q5, by rw [su_ne (by decide)]; exact q6, by rw [su_ne (by decide)]; exact q7, by rw [su_ne (by decide)]; exact q8⟩
theorem Rx_sc (h : Rx S (st, pl, es, bl, sc, fl, tl, cl, ch)) (x : Nat) : Rx (su S 9 0 (nI x)) (st, pl, es, bl, x, fl, tl, cl, ch) := by
  obtain ⟨q0, q1, q2, q3, q4, q5, q6, q7, q8⟩ := h
  exact ⟨by rw [su_ne (by decide)]; exact q0, by rw [su_ne (by decide)]; exact q1, by rw [su_ne (by decide)]; exact q2, by rw [su_ne (by decide)]; exact q3, su_eq, by rw [su_ne (by decide)]; exact q5, by rw [su_ne (by decide)]; exact q6, by rw [su_ne (by decide)]; exact q7, by rw [su_ne (by decide)]; exact q8⟩
theorem Rx_fl (h : Rx S (st, pl, es, bl, sc, fl, tl, cl, ch)) (x : Nat) : Rx (su S 9 1 (nI x)) (st, pl, es, bl, sc, x, tl, cl, ch) := by
  obtain ⟨q0, q1, q2, q3, q4, q5, q6, q7, q8⟩ := h
  exact ⟨by rw [su_ne (by decide)]; exact q0, by rw [su_ne (by decide)]; exact q1, by rw [su_ne (by decide)]; exact q2, by rw [su_ne (by decide)]; exact q3, by rw [su_ne (by decide)]; exact q4, su_eq, by rw [su_ne (by decide)]; exact q6, by rw [su_ne (by decide)]; exact q7, by rw [su_ne (by decide)]; exact q8⟩
theorem Rx_tl (h : Rx S (st, pl, es, bl, sc, fl, tl, cl, ch)) (x : Nat) : Rx (su S 9 2 (nI x)) (st, pl, es, bl, sc, fl, x, cl, ch) := by
  obtain ⟨q0, q1, q2, q3, q4, q5, q6, q7, q8⟩ := h
  exact ⟨by rw [su_ne (by decide)]; exact q0, by rw [su_ne (by decide)]; exact q1, by rw [su_ne (by decide)]; exact q2, by rw [su_ne (by decide)]; exact q3, by rw [su_ne (by decide)]; exact q4, by rw [su_ne (by decide)]; exact q5, su_eq, by rw [su_ne (by decide)]; exact q7, by rw [su_ne (by decide)]; exact q8⟩
theorem Rx_cl (h : Rx S (st, pl, es, bl, sc, fl, tl, cl, ch)) (x : Option Nat) : Rx (su S 9 3 (oI x)) (st, pl, es, bl, sc, fl, tl, x, ch) := by
  obtain ⟨q0, q1, q2, q3, q4, q5, q6, q7, q8⟩ := h
  exact ⟨by rw [su_ne (by decide)]; exact q0, by rw [su_ne (by decide)]; exact q1, by rw [su_ne (by decide)]; exact q2, by rw [su_ne (by decide)]; exact q3, by rw [su_ne (by decide)]; exact q4, by rw [su_ne (by decide)]; exact q5, by rw [su_ne (by decide)]; exact q6, su_eq, by rw [su_ne (by decide)]; exact q8⟩
theorem Rx_ch (h : Rx S (st, pl, es, bl, sc, fl, tl, cl, ch)) (x : Bool) : Rx (su S 9 4 (bI x)) (st, pl, es, bl, sc, fl, tl, cl, x) := by
  obtain ⟨q0, q1, q2, q3, q4, q5, q6, q7, q8⟩ := h
  exact ⟨by rw [su_ne (by decide)]; exact q0, by rw [su_ne (by decide)]; exact q1, by rw [su_ne (by decide)]; exact q2, by rw [su_ne (by decide)]; exact q3, by rw [su_ne (by decide)]; exact q4, by rw [su_ne (by decide)]; exact q5, by rw [su_ne (by decide)]; exact q6, by rw [su_ne (by decide)]; exact q7, su_eq⟩
end RX
def Fq (S S' : zSt) : Prop := ∀ i k, i ≠ 6 → i ≠ 9 → S' i k = S i k
theorem Fq_su {S S' : zSt} (h : Fq S S') {i k : Nat} {v : Int32} (hi : i = 6 ∨ i = 9) : Fq S (su S' i k v) := by
  intro a b h6 h9
  rw [su_ne (Or.inl (by omega))]
  exact h a b h6 h9
theorem Fq_rf {S : zSt} : Fq S S := fun _ _ _ _ => rfl
theorem hvN_lt {c : Nat} (h : cHx c = true) : hvN c < 16 := by
  unfold cHx at h
  unfold hvN
  simp at h
  split
  · omega
  · split <;> omega
theorem csF_lt (h : Nat → Nat) : (csF h 3 0 0).2 < 10000 := by
  have go : ∀ m d acc, (csF h m d acc).2 < (acc + 1) * 16 ^ m := by
    intro m
    induction m with
    | zero => intro d acc; simp [csF]
    | succ m ih =>
      intro d acc
      rw [csF_s]
      by_cases z : cHx (h d) = true
      · rw [if_pos z]
        have h1 := ih (d + 1) (acc * 16 + hvN (h d))
        have h2 := hvN_lt z
        have h3 : (acc * 16 + hvN (h d) + 1) * 16 ^ m ≤ ((acc + 1) * 16) * 16 ^ m := Nat.mul_le_mul_right _ (by omega)
        rw [Nat.pow_succ]
        calc _ < (acc * 16 + hvN (h d) + 1) * 16 ^ m := h1
          _ ≤ ((acc + 1) * 16) * 16 ^ m := h3
          _ = (acc + 1) * (16 ^ m * 16) := by rw [Nat.mul_assoc, Nat.mul_comm 16 (16 ^ m)]
      · rw [if_neg z]
        show acc < _
        have := Nat.mul_le_mul_left (acc + 1) (Nat.one_le_two_pow (n := 4 * (m + 1)))
        rw [show (2 : Nat) ^ (4 * (m + 1)) = 16 ^ (m + 1) by rw [Nat.pow_mul]] at this
        omega
  have := go 3 0 0
  omega
section RL
variable {S : zSt} {st pl es bl sc fl tl : Nat} {cl : Option Nat} {ch : Bool}
theorem hd_forgot (e : S 9 0 = nI sc) (hs : sc ≤ 999) : f_Head_isForgotten S = some (bI (decide (100 ≤ sc ∧ sc ≤ 199 ∧ sc ≠ 101))) := by
  unfold f_Head_isForgotten f_Head_isForgotten_32
  rw [e]
  simp (disch := omega) only [lit, nI_eq, nI_ltI]
  by_cases h1 : sc < 100
  · have : ¬ (100 ≤ sc ∧ sc ≤ 199 ∧ sc ≠ 101) := by omega
    rw [if_pos h1]; simp only [this]; rfl
  · rw [if_neg h1]
    by_cases h2 : 199 < sc
    · have : ¬ (100 ≤ sc ∧ sc ≤ 199 ∧ sc ≠ 101) := by omega
      rw [if_pos h2]; simp only [this]; rfl
    · rw [if_neg h2]
      by_cases h3 : sc = 101
      · have : ¬ (100 ≤ sc ∧ sc ≤ 199 ∧ sc ≠ 101) := by omega
        rw [if_pos h3]; simp only [this]; rfl
      · have : (100 ≤ sc ∧ sc ≤ 199 ∧ sc ≠ 101) := by omega
        rw [if_neg h3, decide_eq_true this]; rfl
theorem hd_none {v : Nat} (e : S 9 0 = nI sc) (hs : sc ≤ 999) (hv : v ≤ 4) : f_Head_hasNoContent (nI v) S = some (bI (decide (v = 1 ∨ sc = 204 ∨ sc = 304))) := by
  unfold f_Head_hasNoContent f_Head_hasNoContent_25
  rw [e]
  simp (disch := omega) only [lit, nI_eq, nI_ltI]
  by_cases h1 : v = 1
  · rw [if_pos h1]; simp only [h1, true_or]; rfl
  · rw [if_neg h1]
    by_cases h2 : sc = 204
    · rw [if_pos h2]; simp only [h2, true_or, or_true]; rfl
    · rw [if_neg h2]
      by_cases h3 : sc = 304
      · rw [if_pos h3]; simp only [h3, or_true]; rfl
      · have : ¬ (v = 1 ∨ sc = 204 ∨ sc = 304) := by omega
        rw [if_neg h3]; simp only [this]; rfl
theorem oI_le {o : Option Nat} (h : ∀ k, o = some k → k < 10000) {b : Nat} (hb : b < 10000) : (oI o ≤ nI b) ↔ (∀ k, o = some k → k ≤ b) := by
  cases o with
  | none =>
    have : (-1 : Int32) ≤ nI b := Int32.le_of_lt (Int32.lt_of_lt_of_le (by decide) (nI_pos' (n := b) (by omega)))
    simp [oI, this]
  | some k =>
    have hk := h k rfl
    simp [oI]
    exact nI_leI (by omega) (by omega)
theorem rd_endHead {v bs : Nat} (hr : Rx S (st, pl, es, bl, sc, fl, tl, cl, ch)) (hb : Br (st, pl, es, bl, sc, fl, tl, cl, ch) bs) (hv : v ≤ 4) : ∃ r S', f_Reader_endHead (nI v) S = some (bI r, S') ∧ Rx (if r = true then S' else su S' 6 3 3) (ehA st pl es bl sc fl tl cl ch v) ∧ Fq S S' := by
  obtain ⟨q1, q2, q3, q4, q5, q6, q7, q8, q9, q10, q11, q12⟩ := hb
  have e9 : S 9 0 = nI sc := hr.2.2.2.2.1
  unfold f_Reader_endHead ehA
  rw [hd_forgot e9 q5]
  simp only [Option.bind_some, bI_0]
  by_cases h1 : 100 ≤ sc ∧ sc ≤ 199 ∧ sc ≠ 101
  · rw [if_pos h1]
    simp only [h1, not_false_eq_true, and_self, decide_true, Bool.true_eq_false, if_false, ne_eq]
    refine ⟨true, _, rfl, ?_, ?_⟩
    · exact Rx_pl (Rx_ch (Rx_cl (Rx_tl (Rx_fl (Rx_sc hr 0) 0) 0) none) false) 0
    · exact Fq_su (Fq_su (Fq_su (Fq_su (Fq_su (Fq_su Fq_rf (by omega)) (by omega)) (by omega)) (by omega)) (by omega)) (by omega)
  · rw [if_neg h1]
    have hr2 := Rx_es hr sc
    simp only [h1, decide_false, if_true, sq, e9, su_eq]
    by_cases h2 : sc = 101
    · have z : nI sc = 101 := by rw [h2]; rfl
      rw [if_pos z, if_pos h2]
      exact ⟨false, _, rfl, Rx_st hr2 3, Fq_su Fq_rf (by omega)⟩
    · have z : ¬ nI sc = 101 := fun y => h2 ((nI_eq (b := 101) (by omega) (by omega)).mp y)
      have e9' : su S 6 5 (nI sc) 9 0 = nI sc := hr2.2.2.2.2.1
      rw [if_neg z, if_neg h2, hd_none e9' q5 hv]
      simp only [Option.bind_some, bI_0]
      by_cases h3 : v = 1 ∨ sc = 204 ∨ sc = 304
      · rw [if_pos h3]
        simp only [h3, decide_true, Bool.true_eq_false, if_false]
        exact ⟨true, _, rfl, Rx_st hr2 2, Fq_su (Fq_su Fq_rf (by omega)) (by omega)⟩
      · rw [if_neg h3]
        simp only [h3, decide_false, if_true]
        generalize hS2 : su S 6 5 (nI sc) = S2 at hr2
        have hf2 : Fq S S2 := by rw [← hS2]; exact Fq_su Fq_rf (by omega)
        have e3 : S2 9 3 = oI cl := hr2.2.2.2.2.2.2.2.1
        have e4 : S2 9 4 = bI ch := hr2.2.2.2.2.2.2.2.2
        unfold f_Reader_beginContent
        rw [e3]
        cases cl with
        | none =>
          rw [if_pos (show oI none ≤ 120 by decide), if_neg (show ¬ oI none = 0 by decide)]
          unfold f_Reader_beginContent_30 sq
          have f4 : su S2 6 3 1 9 4 = bI ch := by rw [su_ne (by decide)]; exact e4
          have f3 : su S2 6 3 1 9 3 = -1 := by rw [su_ne (by decide)]; exact e3
          simp only [f4, f3, if_true, bI_0]
          cases ch with
          | false =>
            simp only [if_true, Bool.false_eq_true, if_false]
            exact ⟨true, _, rfl, Rx_pl (Rx_st hr2 1) 5, Fq_su (Fq_su hf2 (by omega)) (by omega)⟩
          | true =>
            simp only [if_true, Bool.true_eq_false, if_false]
            exact ⟨true, _, rfl, Rx_pl (Rx_st hr2 1) 2, Fq_su (Fq_su hf2 (by omega)) (by omega)⟩
        | some n =>
          have hn := q8 n rfl
          have hch : ch = false := by
            cases ch with
            | false => rfl
            | true => cases q9 rfl
          subst hch
          have k1 : (nI n ≤ 120) ↔ n ≤ 120 := nI_leI (b := 120) (by omega) (by omega)
          have k2 : (nI n = 0) ↔ n = 0 := nI_eq (b := 0) (by omega) (by omega)
          have eo : oI (some n) = nI n := rfl
          simp only [eo, k1, k2]
          by_cases h4 : n ≤ 120
          · rw [if_pos h4, if_neg (show ¬ 120 < n by omega)]
            unfold f_Reader_beginContent_30 sq
            have g4 : ∀ x : Int32, su S2 6 3 x 9 4 = 0 := fun x => by rw [su_ne (by decide)]; exact e4
            have g3 : ∀ x : Int32, ¬ su S2 6 3 x 9 3 = -1 := fun x => by rw [su_ne (by decide), e3]; exact fun z => by cases (oI_m1 q8).mp z
            have g5 : ∀ x : Int32, su (su S2 6 3 x) 6 4 4 9 3 = nI n := fun x => by rw [su_ne (by decide), su_ne (by decide), e3]; rfl
            simp only [g4, g3, g5, if_true, if_false]
            by_cases h5 : n = 0
            · rw [if_pos h5, if_pos h5]
              exact ⟨true, _, rfl, Rx_bl (Rx_pl (Rx_st hr2 2) 4) n, Fq_su (Fq_su (Fq_su hf2 (by omega)) (by omega)) (by omega)⟩
            · rw [if_neg h5, if_neg h5]
              exact ⟨true, _, rfl, Rx_bl (Rx_pl (Rx_st hr2 1) 4) n, Fq_su (Fq_su (Fq_su hf2 (by omega)) (by omega)) (by omega)⟩
          · rw [if_neg h4, if_pos (show 120 < n by omega)]
            exact ⟨false, _, rfl, Rx_st hr2 3, hf2⟩
theorem rd_line {v bs len : Nat} {lf : Nat → Nat} (h : Lx S len lf) (hr : Rx S (st, pl, es, bl, sc, fl, tl, cl, ch)) (hb : Br (st, pl, es, bl, sc, fl, tl, cl, ch) bs) (e61 : S 61 1 = nI bs) (hbs : bs ≤ 120) (hst : st < 2) (hpl : pl ≤ 3) (hv : v ≤ 4) : ∃ r S', f_Reader_readLine (nI v) S = some (bI r, S') ∧ Rx (if r = true then S' else su S' 6 3 3) (rdA st pl es bl sc fl tl cl ch len lf bs v) ∧ Fq S S' := by
  have hlen := h.1
  have e7 : S 7 1 = nI len := h.2.1
  have c7 : (nI len = 0) ↔ len = 0 := nI_eq (b := 0) (by omega) (by omega)
  have c0 : (nI pl = 0) ↔ pl = 0 := nI_eq (b := 0) (by omega) (by omega)
  have c1 : (nI pl = 1) ↔ pl = 1 := nI_eq (b := 1) (by omega) (by omega)
  have c2 : (nI pl = 2) ↔ pl = 2 := nI_eq (b := 2) (by omega) (by omega)
  have e64 : S 6 4 = nI pl := hr.2.1
  have hB := hb
  obtain ⟨q1, q2, q3, q4, q5, q6, q7, q8, q9, q10, q11, q12⟩ := hb
  unfold f_Reader_readLine rdA
  rw [e64, e7]
  simp only [c0, c1, c2, c7, sq]
  by_cases h0 : pl = 0
  · rw [if_pos h0, if_pos h0, hd_first (Lx_su h (i := 6) (k := 4) (v := 1) (by decide) (by decide))]
    cases fsS len lf with
    | none => exact ⟨false, _, rfl, Rx_st (Rx_pl hr 1) 3, Fq_su Fq_rf (by omega)⟩
    | some c => exact ⟨true, _, rfl, Rx_sc (Rx_pl hr 1) c, Fq_su (Fq_su Fq_rf (by omega)) (by omega)⟩
  · rw [if_neg h0, if_neg h0]
    by_cases h1 : pl = 1
    · rw [if_pos h1, if_pos h1]
      by_cases h2 : len = 0
      · rw [if_pos h2, if_pos h2]
        obtain ⟨r, S', y1, y2, y3⟩ := rd_endHead hr hB hv
        rw [y1]
        exact ⟨r, S', by simp [gdb_bI], y2, y3⟩
      · rw [if_neg h2, if_neg h2, hd_field h (fl := fl) (cl := cl) (ch := ch) hr.2.2.2.2.2.1 q6 hr.2.2.2.2.2.2.2.1 hr.2.2.2.2.2.2.2.2 q8]
        by_cases h3 : fl < 8
        · rw [if_pos h3, if_pos h3]
          cases hf : frS len lf cl ch with
          | none => exact ⟨false, _, rfl, Rx_st hr 3, Fq_rf⟩
          | some cc =>
            obtain ⟨cl', ch'⟩ := cc
            exact ⟨true, _, rfl, Rx_fl (Rx_ch (Rx_cl hr cl') ch') (fl + 1), Fq_su (Fq_su (Fq_su Fq_rf (by omega)) (by omega)) (by omega)⟩
        · rw [if_neg h3, if_neg h3]
          exact ⟨false, _, rfl, Rx_st hr 3, Fq_rf⟩
    · rw [if_neg h1, if_neg h1]
      by_cases h2 : pl = 2
      · rw [if_pos h2, if_pos h2, ln_cs0 h]
        simp only [Option.bind_some]
        unfold f_Reader_beginChunk f_Reader_beginChunk_31 sq
        rw [show (58 + 3 : Nat) = 61 from rfl, e61]
        cases hc : csS len lf with
        | none =>
          have z : oI none < 0 := by decide
          simp only [z, if_true]
          exact ⟨false, _, rfl, Rx_st hr 3, Fq_rf⟩
        | some n =>
          have hn : n < 10000 := by
            unfold csS at hc
            split at hc
            · cases hc
              exact csF_lt _
            · cases hc
          have z : ¬ nI n < 0 := nI_pos (by omega)
          have eo : oI (some n) = nI n := rfl
          have cl1 : (nI (bs + n) ≤ 120) ↔ bs + n ≤ 120 := nI_leI (b := 120) (by omega) (by omega)
          have cl2 : (nI n = 0) ↔ n = 0 := nI_eq (b := 0) (by omega) (by omega)
          simp only [eo, z, if_false, nI_add, cl1, cl2]
          by_cases h3 : bs + n ≤ 120
          · rw [if_pos h3, if_pos h3]
            by_cases h4 : n = 0
            · rw [if_pos h4, if_pos h4]
              exact ⟨true, _, rfl, Rx_bl (Rx_pl hr 3) n, Fq_su (Fq_su Fq_rf (by omega)) (by omega)⟩
            · rw [if_neg h4, if_neg h4]
              exact ⟨true, _, rfl, Rx_bl (Rx_pl hr 6) n, Fq_su (Fq_su Fq_rf (by omega)) (by omega)⟩
          · rw [if_neg h3, if_neg h3]
            exact ⟨false, _, rfl, Rx_st hr 3, Fq_rf⟩
      · rw [if_neg h2, if_neg h2]
        by_cases h3 : len = 0
        · rw [if_pos h3, if_pos h3]
          exact ⟨true, _, rfl, Rx_st hr 2, Fq_su Fq_rf (by omega)⟩
        · rw [if_neg h3, if_neg h3, hd_trail h (tl := tl) hr.2.2.2.2.2.2.1 (q10 hst)]
          by_cases h4 : tl < 8 ∧ ftS len lf = true
          · rw [if_pos h4]
            refine ⟨true, su S 9 2 (nI (tl + 1)), ?_, Rx_tl hr (tl + 1), Fq_su Fq_rf (by omega)⟩
            simp [h4.1, h4.2, bI, gdb]
          · rw [if_neg h4]
            refine ⟨false, su S 9 2 (nI (tl + 1)), ?_, Rx_st (Rx_tl hr (tl + 1)) 3, Fq_su Fq_rf (by omega)⟩
            have : (decide (tl < 8) && ftS len lf) = false := by
              cases hq : (decide (tl < 8) && ftS len lf) with
              | false => rfl
              | true => simp at hq; exact absurd hq h4
            simp [this, bI, gdb]
end RL
