-- the class's reader: a byte
def okc (b : Nat) : Bool := decide (b = 9 ∨ (32 ≤ b ∧ b ≤ 126))
def mkA (r : zR) (len : Nat) (lf : Nat → Nat) (ret : Bool) (bs : Nat) (bf : Nat → Nat) : zA := match r with
  | (st, pl, es, bl, sc, fl, tl, cl, ch) => (st, pl, es, bl, sc, fl, tl, cl, ch, len, lf, ret, bs, bf)
def stA (a : zA) (b v : Nat) : zA := match a with
  | (st, pl, es, bl, sc, fl, tl, cl, ch, len, lf, ret, bs, bf) =>
    if st = 2 ∨ st = 3 then (st, pl, es, bl, sc, fl, tl, cl, ch, len, lf, ret, bs, bf)
    else if pl = 4 ∨ pl = 6 then
      (if bl ≤ 1 then
        (if pl = 6 then (st, 7, es, bl - 1, sc, fl, tl, cl, ch, len, lf, ret, bs + 1, upf bf bs b)
        else (2, pl, es, bl - 1, sc, fl, tl, cl, ch, len, lf, ret, bs + 1, upf bf bs b))
      else (st, pl, es, bl - 1, sc, fl, tl, cl, ch, len, lf, ret, bs + 1, upf bf bs b))
    else if pl = 5 then
      (if bs < 120 then (st, pl, es, bl, sc, fl, tl, cl, ch, len, lf, ret, bs + 1, upf bf bs b)
      else (3, pl, es, bl, sc, fl, tl, cl, ch, len, lf, ret, bs, bf))
    else if pl = 7 then
      (if b = 13 then (st, 8, es, bl, sc, fl, tl, cl, ch, len, lf, ret, bs, bf) else (3, pl, es, bl, sc, fl, tl, cl, ch, len, lf, ret, bs, bf))
    else if pl = 8 then
      (if b = 10 then (st, 2, es, bl, sc, fl, tl, cl, ch, len, lf, ret, bs, bf) else (3, pl, es, bl, sc, fl, tl, cl, ch, len, lf, ret, bs, bf))
    else if ret = true then
      (if b = 10 then mkA (rdA st pl es bl sc fl tl cl ch len lf bs v) 0 z0 false bs bf else (3, pl, es, bl, sc, fl, tl, cl, ch, len, lf, ret, bs, bf))
    else if b = 13 then (st, pl, es, bl, sc, fl, tl, cl, ch, len, lf, true, bs, bf)
    else if 60 ≤ len ∨ okc b = false then (3, pl, es, bl, sc, fl, tl, cl, ch, len, lf, ret, bs, bf)
    else (st, pl, es, bl, sc, fl, tl, cl, ch, len + 1, upf lf len b, ret, bs, bf)
def Ax (S : zSt) (a : zA) : Prop := match a with
  | (st, pl, es, bl, sc, fl, tl, cl, ch, len, lf, ret, bs, bf) => Rx S (st, pl, es, bl, sc, fl, tl, cl, ch) ∧ S 7 1 = nI len ∧ (∀ j, j < len → S 8 j = nI (lf j)) ∧ S 7 2 = bI ret ∧ S 61 1 = nI bs ∧ ∀ j, j < bs → S 65 j &&& 255 = nI (bf j)
def Bx (a : zA) : Prop := match a with
  | (st, pl, es, bl, sc, fl, tl, cl, ch, len, lf, _, bs, _) => Br (st, pl, es, bl, sc, fl, tl, cl, ch) bs ∧ len ≤ 60 ∧ (∀ j, j < len → lf j < 127) ∧ bs ≤ 120
def Fc (S S' : zSt) : Prop := ∀ i k, i ≠ 6 → i ≠ 7 → i ≠ 8 → i ≠ 9 → i ≠ 61 → i ≠ 65 → S' i k = S i k
theorem Fc_rf {S : zSt} : Fc S S := fun _ _ _ _ _ _ _ _ => rfl
theorem Fc_su {S S' : zSt} (h : Fc S S') {i k : Nat} {v : Int32} (hi : i = 6 ∨ i = 7 ∨ i = 8 ∨ i = 9 ∨ i = 61 ∨ i = 65) : Fc S (su S' i k v) := by
  intro a b h1 h2 h3 h4 h5 h6
  rw [su_ne (Or.inl (by omega))]
  exact h a b h1 h2 h3 h4 h5 h6
theorem Fq_Fc {S S' : zSt} (h : Fq S S') : Fc S S' := fun a b h1 _ _ h4 _ _ => h a b h1 h4
theorem Fc_tr {S S' S'' : zSt} (h : Fc S S') (h' : Fc S' S'') : Fc S S'' := fun a b h1 h2 h3 h4 h5 h6 => (h' a b h1 h2 h3 h4 h5 h6).trans (h a b h1 h2 h3 h4 h5 h6)
theorem byt_ok : ∀ b, b < 256 → (vp_nar .byte ((nI b).toInt8.toInt32)) &&& 255 = nI b := by decide +kernel
theorem Rx_fr {S S' : zSt} {r : zR} (h : Rx S r) (hf : ∀ i k, (i = 6 ∧ 3 ≤ k) ∨ i = 9 → S' i k = S i k) : Rx S' r := by
  obtain ⟨st, pl, es, bl, sc, fl, tl, cl, ch⟩ := r
  obtain ⟨q0, q1, q2, q3, q4, q5, q6, q7, q8⟩ := h
  exact ⟨by rw [hf _ _ (by omega)]; exact q0, by rw [hf _ _ (by omega)]; exact q1, by rw [hf _ _ (by omega)]; exact q2, by rw [hf _ _ (by omega)]; exact q3, by rw [hf _ _ (by omega)]; exact q4, by rw [hf _ _ (by omega)]; exact q5, by rw [hf _ _ (by omega)]; exact q6, by rw [hf _ _ (by omega)]; exact q7, by rw [hf _ _ (by omega)]; exact q8⟩
theorem Rx_su {S : zSt} {r : zR} (h : Rx S r) {i k : Nat} {v : Int32} (hi : i ≠ 6) (h9 : i ≠ 9) : Rx (su S i k v) r := Rx_fr h (fun a b hh => su_ne (Or.inl (by omega)))
/-- a byte put behind the content -/
theorem br_put {S : zSt} {bs b : Nat} {bf : Nat → Nat} (e : S 61 1 = nI bs) (hbs : bs < 120) (hb : b < 256) (hj : ∀ j, j < bs → S 65 j &&& 255 = nI (bf j)) : ∃ S', f_ByteRow_put 3 (nI b) S = some S' ∧ S' 61 1 = nI (bs + 1) ∧ (∀ j, j < bs + 1 → S' 65 j &&& 255 = nI (upf bf bs b j)) ∧ ∀ i k, i ≠ 61 → i ≠ 65 → S' i k = S i k := by
  have hbl : bl 3 = 120 := by decide
  unfold f_ByteRow_put f_ByteRow_put_23 sq
  rw [hbl, show (58 + 3 : Nat) = 61 from rfl, show (62 + 3 : Nat) = 65 from rfl, e, if_neg (fun z => by have := (nI_leI (a := 120) (by omega) (by omega)).mp z; omega), gdiN (by omega) (by omega), nI_clamp (by omega)]
  dsimp only
  rw [su_ne (by omega), e, nI_1]
  refine ⟨_, rfl, su_eq, fun j hj2 => ?_, fun i k h1 h2 => ?_⟩
  · rw [su_ne (by omega), su_ap]
    unfold upf
    by_cases y : j = bs
    · rw [if_pos ⟨rfl, y⟩, if_pos y]; exact byt_ok b hb
    · rw [if_neg (fun z => y z.2), if_neg y]; exact hj j (by omega)
  · rw [su_ne (Or.inl h1), su_ne (Or.inl h2)]
theorem Ax_R {S S' : zSt} {st pl es bl sc fl tl st' pl' es' bl' sc' fl' tl' : Nat} {cl cl' : Option Nat} {ch ch' : Bool} {len : Nat} {lf : Nat → Nat} {ret : Bool} {bs : Nat} {bf : Nat → Nat} (h : Ax S (st, pl, es, bl, sc, fl, tl, cl, ch, len, lf, ret, bs, bf)) (hr : Rx S' (st', pl', es', bl', sc', fl', tl', cl', ch')) (hf : Fq S S') : Ax S' (st', pl', es', bl', sc', fl', tl', cl', ch', len, lf, ret, bs, bf) := by
  obtain ⟨a1, a2, a3, a4, a5, a6⟩ := h
  exact ⟨hr, by rw [hf _ _ (by decide) (by decide)]; exact a2, fun j hj => by rw [hf _ _ (by decide) (by decide)]; exact a3 j hj, by rw [hf _ _ (by decide) (by decide)]; exact a4, by rw [hf _ _ (by decide) (by decide)]; exact a5, fun j hj => by rw [hf _ _ (by decide) (by decide)]; exact a6 j hj⟩
set_option maxHeartbeats 4000000 in
theorem rd_take {S : zSt} {a : zA} {b v : Nat} (hA : Ax S a) (hB : Bx a) (hb : b < 256) (hv : v ≤ 4) : ∃ S', f_Reader_take (nI b) (nI v) S = some S' ∧ Ax S' (stA a b v) ∧ Bx (stA a b v) ∧ Fc S S' := by
  obtain ⟨st, pl, es, bl, sc, fl, tl, cl, ch, len, lf, ret, bs, bf⟩ := a
  have hA' := hA
  have hB' := hB
  obtain ⟨a1, a2, a3, a4, a5, a6⟩ := hA
  obtain ⟨hBr, b2, b3, b4⟩ := hB
  have hBr' := hBr
  obtain ⟨q1, q2, q3, q4, q5, q6, q7, q8, q9, q10, q11, q12⟩ := hBr
  have e3 : S 6 3 = nI st := a1.1
  have e4 : S 6 4 = nI pl := a1.2.1
  have e6 : S 6 6 = nI bl := a1.2.2.2.1
  have c2 : (nI st = 2) ↔ st = 2 := nI_eq (b := 2) (by omega) (by omega)
  have c3 : (nI st = 3) ↔ st = 3 := nI_eq (b := 3) (by omega) (by omega)
  have p4 : (nI pl = 4) ↔ pl = 4 := nI_eq (b := 4) (by omega) (by omega)
  have p5 : (nI pl = 5) ↔ pl = 5 := nI_eq (b := 5) (by omega) (by omega)
  have p6 : (nI pl = 6) ↔ pl = 6 := nI_eq (b := 6) (by omega) (by omega)
  have p7 : (nI pl = 7) ↔ pl = 7 := nI_eq (b := 7) (by omega) (by omega)
  have p8 : (nI pl = 8) ↔ pl = 8 := nI_eq (b := 8) (by omega) (by omega)
  have b13 : (nI b = 13) ↔ b = 13 := nI_eq (b := 13) (by omega) (by omega)
  have b10 : (nI b = 10) ↔ b = 10 := nI_eq (b := 10) (by omega) (by omega)
  have cnt : st < 2 → (pl = 4 ∨ pl = 6) → ∃ S', f_Reader_takeCounted (nI b) S = some S' ∧ Ax S' (if bl ≤ 1 then
        (if pl = 6 then (st, 7, es, bl - 1, sc, fl, tl, cl, ch, len, lf, ret, bs + 1, upf bf bs b)
        else (2, pl, es, bl - 1, sc, fl, tl, cl, ch, len, lf, ret, bs + 1, upf bf bs b))
      else (st, pl, es, bl - 1, sc, fl, tl, cl, ch, len, lf, ret, bs + 1, upf bf bs b)) ∧ Bx (if bl ≤ 1 then
        (if pl = 6 then (st, 7, es, bl - 1, sc, fl, tl, cl, ch, len, lf, ret, bs + 1, upf bf bs b)
        else (2, pl, es, bl - 1, sc, fl, tl, cl, ch, len, lf, ret, bs + 1, upf bf bs b))
      else (st, pl, es, bl - 1, sc, fl, tl, cl, ch, len, lf, ret, bs + 1, upf bf bs b)) ∧ Fc S S' := by
    intro hst hp
    obtain ⟨y1, y2⟩ := q12 hst hp
    obtain ⟨S1, w1, w2, w3, w4⟩ := br_put (b := b) (bf := bf) a5 (by omega) hb a6
    unfold f_Reader_takeCounted sq
    rw [w1]
    simp only [Option.bind_some, su_eq]
    obtain ⟨m, rfl⟩ : ∃ m, bl = m + 1 := ⟨bl - 1, by omega⟩
    have x6 : S1 6 6 = nI (m + 1) := by rw [w4 _ _ (by decide) (by decide)]; exact e6
    have x4 : S1 6 4 = nI pl := by rw [w4 _ _ (by decide) (by decide)]; exact e4
    have cm : (nI m ≤ 0) ↔ m ≤ 0 := nI_leI (b := 0) (by omega) (by omega)
    have hR1 : Rx S1 (st, pl, es, m + 1, sc, fl, tl, cl, ch) := Rx_fr a1 (fun i k hh => w4 i k (by omega) (by omega))
    have hA1 : Ax S1 (st, pl, es, m + 1, sc, fl, tl, cl, ch, len, lf, ret, bs + 1, upf bf bs b) := ⟨hR1, by rw [w4 _ _ (by decide) (by decide)]; exact a2, fun j hj => by rw [w4 _ _ (by decide) (by decide)]; exact a3 j hj, by rw [w4 _ _ (by decide) (by decide)]; exact a4, w2, w3⟩
    have hF1 : Fc S S1 := fun i k h1 h2 h3 h4 h5 h6 => w4 i k h5 h6
    rw [x6, nI_pred, su_ne (by omega), x4]
    simp only [cm, p6, Nat.add_sub_cancel]
    have hR2 := Rx_bl hR1 m
    have hF2 : Fq S1 (su S1 6 6 (nI m)) := Fq_su Fq_rf (by omega)
    by_cases h1 : m ≤ 0
    · rw [if_pos h1, if_pos (show m + 1 ≤ 1 by omega)]
      by_cases h2 : pl = 6
      · rw [if_pos h2, if_pos h2]
        refine ⟨_, rfl, Ax_R hA1 (Rx_pl hR2 7) (Fq_su hF2 (by omega)), ⟨⟨by omega, by omega, q3, by omega, q5, q6, q7, q8, q9, q10, by omega, by omega⟩, b2, b3, by omega⟩, Fc_su (Fc_su hF1 (by omega)) (by omega)⟩
      · rw [if_neg h2, if_neg h2]
        refine ⟨_, rfl, Ax_R hA1 (Rx_st hR2 2) (Fq_su hF2 (by omega)), ⟨⟨by omega, by omega, q3, by omega, q5, q6, q7, q8, q9, by omega, by omega, by omega⟩, b2, b3, by omega⟩, Fc_su (Fc_su hF1 (by omega)) (by omega)⟩
    · rw [if_neg h1, if_neg (show ¬ m + 1 ≤ 1 by omega)]
      refine ⟨_, rfl, Ax_R hA1 hR2 hF2, ⟨⟨by omega, by omega, q3, by omega, q5, q6, q7, q8, q9, q10, by omega, by omega⟩, b2, b3, by omega⟩, Fc_su hF1 (by omega)⟩
  have br3 : Bx (3, pl, es, bl, sc, fl, tl, cl, ch, len, lf, ret, bs, bf) := ⟨⟨by omega, q2, q3, q4, q5, q6, q7, q8, q9, by omega, q11, by omega⟩, b2, b3, b4⟩
  unfold f_Reader_take stA
  rw [e3, e4]
  simp only [c2, c3, p4, p5, p6, p7, p8]
  by_cases h2 : st = 2
  · rw [if_pos h2, if_pos (Or.inl h2)]
    exact ⟨S, rfl, hA', hB', Fc_rf⟩
  rw [if_neg h2]
  by_cases h3 : st = 3
  · rw [if_pos h3, if_pos (Or.inr h3)]
    exact ⟨S, rfl, hA', hB', Fc_rf⟩
  rw [if_neg h3, if_neg (show ¬ (st = 2 ∨ st = 3) by omega)]
  have hst : st < 2 := by omega
  by_cases h4 : pl = 4
  · rw [if_pos h4, if_pos (Or.inl h4)]
    obtain ⟨S', w1, w2⟩ := cnt hst (Or.inl h4)
    exact ⟨S', by rw [w1]; rfl, w2⟩
  rw [if_neg h4]
  by_cases h6 : pl = 6
  · rw [if_neg (show ¬ pl = 5 by omega), if_pos h6, if_pos (Or.inr h6)]
    obtain ⟨S', w1, w2⟩ := cnt hst (Or.inr h6)
    exact ⟨S', by rw [w1]; rfl, w2⟩
  rw [if_neg h6, if_neg (show ¬ (pl = 4 ∨ pl = 6) by omega)]
  by_cases h5 : pl = 5
  · rw [if_pos h5, if_pos h5]
    unfold f_Reader_takeUncounted sq
    rw [show (58 + 3 : Nat) = 61 from rfl, a5]
    have cb : (nI bs < 120) ↔ bs < 120 := nI_ltI (b := 120) (by omega) (by omega)
    simp only [cb]
    by_cases h7 : bs < 120
    · rw [if_pos h7, if_pos h7]
      obtain ⟨S1, w1, w2, w3, w4⟩ := br_put (b := b) (bf := bf) a5 (by omega) hb a6
      rw [w1]
      refine ⟨S1, rfl, ⟨Rx_fr a1 (fun i k hh => w4 i k (by omega) (by omega)), by rw [w4 _ _ (by decide) (by decide)]; exact a2, fun j hj => by rw [w4 _ _ (by decide) (by decide)]; exact a3 j hj, by rw [w4 _ _ (by decide) (by decide)]; exact a4, w2, w3⟩, ⟨⟨by omega, by omega, q3, by omega, q5, q6, q7, q8, q9, q10, by omega, by omega⟩, b2, b3, by omega⟩, fun i k h1 h2 h3 h4 h5 h6 => w4 i k h5 h6⟩
    · rw [if_neg h7, if_neg h7]
      exact ⟨_, rfl, Ax_R hA' (Rx_st a1 3) (Fq_su Fq_rf (by omega)), br3, Fc_su Fc_rf (by omega)⟩
  rw [if_neg h5, if_neg h5]
  by_cases h7 : pl = 7
  · rw [if_pos h7, if_pos h7]
    unfold f_Reader_takeDue sq
    simp only [b13]
    by_cases h8 : b = 13
    · rw [if_pos h8, if_pos h8]
      exact ⟨_, rfl, Ax_R hA' (Rx_pl a1 8) (Fq_su Fq_rf (by omega)), ⟨⟨by omega, by omega, q3, by omega, q5, q6, q7, q8, q9, q10, by omega, by omega⟩, b2, b3, by omega⟩, Fc_su Fc_rf (by omega)⟩
    · rw [if_neg h8, if_neg h8]
      exact ⟨_, rfl, Ax_R hA' (Rx_st a1 3) (Fq_su Fq_rf (by omega)), br3, Fc_su Fc_rf (by omega)⟩
  rw [if_neg h7, if_neg h7]
  by_cases h8 : pl = 8
  · rw [if_pos h8, if_pos h8]
    unfold f_Reader_takeDue sq
    simp only [b10]
    by_cases h9 : b = 10
    · rw [if_pos h9, if_pos h9]
      exact ⟨_, rfl, Ax_R hA' (Rx_pl a1 2) (Fq_su Fq_rf (by omega)), ⟨⟨by omega, by omega, q3, by omega, q5, q6, q7, q8, q9, q10, by omega, by omega⟩, b2, b3, by omega⟩, Fc_su Fc_rf (by omega)⟩
    · rw [if_neg h9, if_neg h9]
      exact ⟨_, rfl, Ax_R hA' (Rx_st a1 3) (Fq_su Fq_rf (by omega)), br3, Fc_su Fc_rf (by omega)⟩
  rw [if_neg h8, if_neg h8]
  have hpl : pl ≤ 3 := by omega
  have hA3 : Ax (su S 6 3 3) (3, pl, es, bl, sc, fl, tl, cl, ch, len, lf, ret, bs, bf) := Ax_R hA' (Rx_st a1 3) (Fq_su Fq_rf (by omega))
  have b9 : (nI b = 9) ↔ b = 9 := nI_eq (b := 9) (by omega) (by omega)
  have b32 : (nI b < 32) ↔ b < 32 := nI_ltI (b := 32) (by omega) (by omega)
  have b126 : (nI b ≤ 126) ↔ b ≤ 126 := nI_leI (b := 126) (by omega) (by omega)
  have l60 : (60 ≤ nI len) ↔ 60 ≤ len := nI_leI (a := 60) (by omega) (by omega)
  unfold f_Reader_takeOfLine f_Line_add sq
  simp only [a4, a2, bI_0, b13, b10, b9, b32, b126, l60]
  cases ret with
  | true =>
    simp only [Bool.true_eq_false, if_false, if_true]
    by_cases h9 : b = 10
    · rw [if_pos h9, if_pos h9]
      simp only [Option.bind_some]
      rw [if_neg (by decide), if_pos trivial]
      obtain ⟨r, S', w1, w2, w3⟩ := rd_line (v := v) (lf := lf) (len := len) ⟨b2, a2, fun j hj => ⟨a3 j hj, b3 j hj⟩⟩ a1 hBr' a5 b4 hst hpl hv
      have w4 := rdA_ok (v := v) (len := len) (lf := lf) hBr' hst hpl
      rw [w1]
      simp only [Option.bind_some, bI_0]
      unfold f_Reader_takeOfLine_40 f_Line_clear sq
      generalize hT : (if r = true then S' else su S' 6 3 3) = T at w2
      have hFT : Fq S T := by
        rw [← hT]
        split
        · exact w3
        · exact Fq_su w3 (by omega)
      refine ⟨su (su T 7 1 0) 7 2 0, ?_, ?_, ?_, ?_⟩
      · cases r with
        | true => simp at hT; simp [hT, gdb_0]
        | false => simp at hT; simp [hT, gdb_0]
      · generalize rdA st pl es bl sc fl tl cl ch len lf bs v = R at w2
        obtain ⟨st', pl', es', bl', sc', fl', tl', cl', ch'⟩ := R
        refine ⟨Rx_su (Rx_su w2 (by decide) (by decide)) (by decide) (by decide), ?_, fun j hj => absurd hj (Nat.not_lt_zero j), ?_, ?_, fun j hj => ?_⟩
        · rw [su_ne (by omega), su_eq]; rfl
        · rw [su_eq]; rfl
        · rw [su_ne (by omega), su_ne (by omega), hFT _ _ (by decide) (by decide)]; exact a5
        · rw [su_ne (by omega), su_ne (by omega), hFT _ _ (by decide) (by decide)]; exact a6 j hj
      · generalize rdA st pl es bl sc fl tl cl ch len lf bs v = R at w4
        obtain ⟨st', pl', es', bl', sc', fl', tl', cl', ch'⟩ := R
        exact ⟨w4, by omega, fun j hj => absurd hj (Nat.not_lt_zero j), b4⟩
      · exact Fc_su (Fc_su (Fq_Fc hFT) (by omega)) (by omega)
    · rw [if_neg h9, if_neg h9]
      simp only [Option.bind_some, if_true]
      exact ⟨_, rfl, hA3, br3, Fc_su Fc_rf (by omega)⟩
  | false =>
    simp only [if_true, Bool.false_eq_true, if_false]
    have two : ∃ S', (if (2 : Int32) = 2 then some (su S 6 3 3) else if (2 : Int32) = 1 then ((f_Reader_readLine (nI v) S).bind fun u2 => if u2.1 = 0 then f_Reader_takeOfLine_40 (su u2.2 6 3 3) else f_Reader_takeOfLine_40 u2.2) else some S) = some S' ∧ Ax S' (3, pl, es, bl, sc, fl, tl, cl, ch, len, lf, false, bs, bf) ∧ Bx (3, pl, es, bl, sc, fl, tl, cl, ch, len, lf, false, bs, bf) ∧ Fc S S' := ⟨_, by rw [if_pos rfl], hA3, br3, Fc_su Fc_rf (by omega)⟩
    by_cases h9 : b = 13
    · rw [if_pos h9, if_pos h9, gdb_1]
      simp only [Option.bind_some]
      rw [if_neg (by decide), if_neg (by decide)]
      refine ⟨_, rfl, ⟨Rx_su a1 (by decide) (by decide), ?_, fun j hj => ?_, ?_, ?_, fun j hj => ?_⟩, ⟨hBr', b2, b3, b4⟩, Fc_su Fc_rf (by omega)⟩
      · rw [su_ne (by omega)]; exact a2
      · rw [su_ne (by omega)]; exact a3 j hj
      · rw [su_eq]; rfl
      · rw [su_ne (by omega)]; exact a5
      · rw [su_ne (by omega)]; exact a6 j hj
    · rw [if_neg h9, if_neg h9]
      by_cases h10 : 60 ≤ len
      · rw [if_pos h10, if_pos (Or.inl h10)]
        exact two
      · rw [if_neg h10]
        have add : b = 9 ∨ (32 ≤ b ∧ b ≤ 126) → ∃ S', ((f_Line_add_61 (nI b) S).bind fun u1 => if u1.1 = 2 then some (su u1.2 6 3 3) else if u1.1 = 1 then ((f_Reader_readLine (nI v) u1.2).bind fun u2 => if u2.1 = 0 then f_Reader_takeOfLine_40 (su u2.2 6 3 3) else f_Reader_takeOfLine_40 u2.2) else some u1.2) = some S' ∧ Ax S' (st, pl, es, bl, sc, fl, tl, cl, ch, len + 1, upf lf len b, false, bs, bf) ∧ Bx (st, pl, es, bl, sc, fl, tl, cl, ch, len + 1, upf lf len b, false, bs, bf) ∧ Fc S S' := by
          intro hok
          unfold f_Line_add_61 sq
          rw [a2, gdiN (by omega) (by omega), nI_clamp (by omega), pk_char, pk_tn (by omega), Nat.mod_eq_of_lt (by omega), narC (by omega)]
          dsimp only
          rw [su_ne (by omega), a2, nI_1]
          simp only [Option.bind_some]
          rw [if_neg (by decide), if_neg (by decide)]
          refine ⟨_, rfl, ⟨Rx_su (Rx_su a1 (by decide) (by decide)) (by decide) (by decide), su_eq, fun j hj => ?_, ?_, ?_, fun j hj => ?_⟩, ⟨hBr', by omega, fun j hj => ?_, b4⟩, Fc_su (Fc_su Fc_rf (by omega)) (by omega)⟩
          · rw [su_ne (by omega), su_ap]
            unfold upf
            by_cases y : j = len
            · rw [if_pos ⟨rfl, y⟩, if_pos y]
            · rw [if_neg (fun z => y z.2), if_neg y]; exact a3 j (by omega)
          · rw [su_ne (by omega), su_ne (by omega)]; exact a4
          · rw [su_ne (by omega), su_ne (by omega)]; exact a5
          · rw [su_ne (by omega), su_ne (by omega)]; exact a6 j hj
          · unfold upf
            by_cases y : j = len
            · rw [if_pos y]; omega
            · rw [if_neg y]; exact b3 j (by omega)
        by_cases h11 : b = 9
        · have : ¬ (60 ≤ len ∨ okc b = false) := by
            unfold okc
            simp
            omega
          rw [if_pos h11, if_neg this]
          obtain ⟨S', w1, w2⟩ := add (Or.inl h11)
          exact ⟨S', by rw [w1]; rfl, w2⟩
        · rw [if_neg h11]
          by_cases h12 : b < 32
          · have : (60 ≤ len ∨ okc b = false) := by
              unfold okc
              simp
              omega
            rw [if_pos h12, if_pos this]
            exact two
          · rw [if_neg h12]
            by_cases h13 : b ≤ 126
            · have : ¬ (60 ≤ len ∨ okc b = false) := by
                unfold okc
                simp
                omega
              rw [if_pos h13, if_neg this]
              obtain ⟨S', w1, w2⟩ := add (Or.inr ⟨by omega, h13⟩)
              exact ⟨S', by rw [w1]; rfl, w2⟩
            · have : (60 ≤ len ∨ okc b = false) := by
                unfold okc
                simp
                omega
              rw [if_neg h13, if_pos this]
              exact two
