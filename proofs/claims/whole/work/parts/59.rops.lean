-- the reader's calls: both sides answer alike
theorem Rd_fr {S S' : zSt} (h : Rd S) (hf : ∀ i k, (i = 1 ∨ i = 2 ∨ i = 3 ∨ (10 ≤ i ∧ i < 58) ∨ (67 ≤ i ∧ i ≤ 72) ∨ (i = 66 ∧ k ≤ 8)) → S' i k = S i k) : Rd S' := by
  obtain ⟨q1, q2, q3, q4, q5, q6, q7, q8, q9⟩ := h
  refine ⟨?_, ?_, ?_, ?_, ?_, ?_, ?_, ?_, ?_⟩
  · rw [hf 1 3 (by omega), hf 66 0 (by omega)]; exact q1
  · rw [hf 2 1 (by omega), hf 66 1 (by omega)]; exact q2
  · rw [hf 1 2 (by omega), hf 66 3 (by omega)]; exact q3
  · intro j hj; rw [hf 67 j (by omega), hf 3 j (by omega)]; exact q4 j hj
  · intro j hj; rw [hf 2 1 (by omega)] at hj; rw [hf 3 j (by omega)]; exact q5 j hj
  · intro k hk; rw [hf 68 k (by omega), hf (10 + k) 2 (by omega), hf 70 k (by omega), hf (10 + k) 1 (by omega)]; exact q6 k hk
  · intro k hk
    rw [hf 1 2 (by omega)] at hk
    have hk6 : k < 6 := by have := cnt_le q3.1 q3.2.1; omega
    rw [hf 69 k (by omega), hf (10 + k) 3 (by omega)]; exact q7 k hk
  · intro r hr; rw [hf 71 r (by omega), hf (22 + r) 1 (by omega)]; exact q8 r hr
  · intro r i hr hi; rw [hf 72 _ (by omega), hf (40 + r) i (by omega)]; exact q9 r i hr hi
theorem Rm_fr {S S' : zSt} (h : Rm S) (hf : ∀ i k, (i = 0 ∨ i = 58 ∨ i = 59 ∨ i = 62 ∨ i = 63 ∨ i = 73 ∨ (i = 66 ∧ k = 9)) → S' i k = S i k) : Rm S' := by
  obtain ⟨x, y, m, hxy, e3, e4, hm, e1, e9, hb⟩ := h
  refine ⟨x, y, m, hxy, by rw [hf 0 3 (by omega)]; exact e3, by rw [hf 0 4 (by omega)]; exact e4, hm, by rw [hf (58 + x) 1 (by omega)]; exact e1, by rw [hf 66 9 (by omega)]; exact e9, fun i hi => ?_⟩
  rw [hf (62 + x) i (by omega), hf 73 i (by omega)]
  exact hb i hi
theorem Ax_fr {S S' : zSt} {a : zA} (h : Ax S a) (hf : ∀ i k, (i = 6 ∨ i = 7 ∨ i = 8 ∨ i = 9 ∨ i = 61 ∨ i = 65) → S' i k = S i k) : Ax S' a := by
  obtain ⟨st, pl, es, bl, sc, fl, tl, cl, ch, len, lf, ret, bs, bf⟩ := a
  obtain ⟨a1, a2, a3, a4, a5, a6⟩ := h
  exact ⟨Rx_fr a1 (fun i k hh => hf i k (by omega)), by rw [hf _ _ (by omega)]; exact a2, fun j hj => by rw [hf _ _ (by omega)]; exact a3 j hj, by rw [hf _ _ (by omega)]; exact a4, by rw [hf _ _ (by omega)]; exact a5, fun j hj => by rw [hf _ _ (by omega)]; exact a6 j hj⟩
theorem Bk_fr {S S' : zSt} {fed : Nat} {B V : Nat → Nat} (h : Bk S fed B V) (hf : ∀ i k, (i = 76 ∨ i = 77 ∨ (i = 66 ∧ k = 17)) → S' i k = S i k) : Bk S' fed B V := by
  obtain ⟨h1, h2, h3⟩ := h
  refine ⟨by rw [hf _ _ (by omega)]; exact h1, h2, fun j hj => ?_⟩
  rw [hf _ _ (by omega), hf _ _ (by omega)]
  exact h3 j hj
theorem Bx_cl {a : zA} (h : Bx a) (closed : Bool) : Bx (clA closed a) := by
  obtain ⟨st, pl, es, bl, sc, fl, tl, cl, ch, len, lf, ret, bs, bf⟩ := a
  cases closed with
  | false => exact h
  | true =>
    obtain ⟨⟨q1, q2, q3, q4, q5, q6, q7, q8, q9, q10, q11, q12⟩, b2, b3, b4⟩ := h
    unfold clA
    dsimp only
    rw [if_pos rfl]
    refine ⟨⟨by split <;> omega, q2, q3, q4, q5, q6, q7, q8, q9, fun z => ?_, q11, fun z => ?_⟩, b2, b3, b4⟩
    · exfalso; revert z; split <;> omega
    · exfalso; revert z; split <;> omega
theorem cl_cl (a : zA) (closed : Bool) : clA true (clA closed a) = clA true a := by
  obtain ⟨st, pl, es, bl, sc, fl, tl, cl, ch, len, lf, ret, bs, bf⟩ := a
  cases closed with
  | false => rfl
  | true =>
    unfold clA
    by_cases h : (st = 1 ∧ pl = 5) ∨ st = 2 <;> simp [h]
theorem cl_ge (a : zA) : (clA true a).1 = 2 ∨ (clA true a).1 = 3 := by
  obtain ⟨st, pl, es, bl, sc, fl, tl, cl, ch, len, lf, ret, bs, bf⟩ := a
  unfold clA
  dsimp only
  rw [if_pos rfl]
  split <;> omega
theorem cl_f (a : zA) : clA false a = a := by
  obtain ⟨st, pl, es, bl, sc, fl, tl, cl, ch, len, lf, ret, bs, bf⟩ := a
  rfl
theorem Bx_st {a : zA} (h : Bx a) : a.1 ≤ 3 := by
  obtain ⟨st, pl, es, bl, sc, fl, tl, cl, ch, len, lf, ret, bs, bf⟩ := a
  exact h.1.1
theorem Ax_st {S : zSt} {a : zA} (h : Ax S a) : S 6 3 = nI a.1 := by
  obtain ⟨st, pl, es, bl, sc, fl, tl, cl, ch, len, lf, ret, bs, bf⟩ := a
  exact h.1.1
theorem Fz_st {S : zSt} {a : zA} (h : Fz S a) : S 66 23 = nI a.1 := by
  obtain ⟨st, pl, es, bl, sc, fl, tl, cl, ch, len, lf, ret, bs, bf⟩ := a
  exact h.1
/-- the reader: both sides -/
def Rr (c : Nat) (S : zSt) : Prop := ∃ (B V : Nat → Nat) (fed : Nat) (closed : Bool), fed ≤ c ∧ Bk S fed B V ∧ S 66 20 = bI closed ∧ Ax S (clA closed (runA B V fed 0 (a0A z0))) ∧ Bx (runA B V fed 0 (a0A z0))
def Iv (c : Nat) (S : zSt) : Prop := Rd S ∧ Rm S ∧ Rr c S
theorem Rr_up {c : Nat} {S : zSt} (h : Rr c S) : Rr (c + 1) S := by
  obtain ⟨B, V, fed, closed, h1, h2⟩ := h
  exact ⟨B, V, fed, closed, by omega, h2⟩
theorem Rr_keep {c : Nat} {S S' : zSt} (h : Rr c S) (hf : Fr S S') : Rr c S' := by
  obtain ⟨B, V, fed, closed, h1, h2, h3, h4, h5⟩ := h
  obtain ⟨f1, f2, f3⟩ := hf
  refine ⟨B, V, fed, closed, h1, Bk_fr h2 (fun i k hh => ?_), by rw [f3 20 (by omega)]; exact h3, Ax_fr h4 (fun i k hh => f1 i k (by omega)), h5⟩
  rcases hh with rfl | rfl | ⟨rfl, rfl⟩
  · exact f2 76 k (by omega)
  · exact f2 77 k (by omega)
  · exact f3 17 (by omega)
theorem Iv_fm {c : Nat} {S S' : zSt} (h : Iv c S) (hf : Fm S S') : Iv c S' := by
  obtain ⟨h1, h2, B, V, fed, closed, q1, q2, q3, q4, q5⟩ := h
  refine ⟨Rd_fr h1 (fun i k hh => hf i k (by omega) (by omega)), Rm_fr h2 (fun i k hh => hf i k (by omega) (by omega)), B, V, fed, closed, q1, Bk_fm q2 hf, by rw [hf _ _ (by omega) (by omega)]; exact q3, Ax_fr q4 (fun i k hh => hf i k (by omega) (by omega)), q5⟩
/-- the reference's work says what the class's cells say -/
theorem rr_work {c : Nat} {S : zSt} (h : Iv c S) : ∃ a S', f_Mo_work S = some S' ∧ Fm S S' ∧ Fz S' a ∧ Ax S a ∧ Bx a := by
  obtain ⟨h1, h2, B, V, fed, closed, q1, q2, q3, q4, q5⟩ := h
  obtain ⟨S', w1, w2, w3⟩ := mo_work q2 q3 (Bx_st q5)
  exact ⟨_, S', w1, w2, w3, q4, Bx_cl q5 closed⟩
theorem op_state {c : Nat} {S : zSt} (h : Iv c S) : ∃ r S2, f_TC_state S = some r ∧ f_Mo_state S = some (r, S2) ∧ Iv (c + 1) S2 := by
  obtain ⟨a, S', w1, w2, w3, w4, w5⟩ := rr_work h
  obtain ⟨i1, i2, i3⟩ := Iv_fm h w2
  refine ⟨S 6 3, S', rfl, ?_, i1, i2, Rr_up i3⟩
  unfold f_Mo_state
  rw [w1]
  simp only [Option.bind_some]
  rw [Ax_st w4, Fz_st w3]
theorem op_status {c : Nat} {S : zSt} (h : Iv c S) : ∃ r S2, f_TC_status S = some r ∧ f_Mo_status S = some (r, S2) ∧ Iv (c + 1) S2 := by
  obtain ⟨a, S', w1, w2, w3, w4, w5⟩ := rr_work h
  obtain ⟨i1, i2, i3⟩ := Iv_fm h w2
  refine ⟨S 6 5, S', rfl, ?_, i1, i2, Rr_up i3⟩
  unfold f_Mo_status
  rw [w1]
  simp only [Option.bind_some]
  obtain ⟨st, pl, es, bl, sc, fl, tl, cl, ch, len, lf, ret, bs, bf⟩ := a
  rw [w4.1.2.2.1, w3.2.1]
theorem op_fields {c : Nat} {S : zSt} (h : Iv c S) : ∃ r S2, f_TC_fields S = some r ∧ f_Mo_fields S = some (r, S2) ∧ Iv (c + 1) S2 := by
  obtain ⟨a, S', w1, w2, w3, w4, w5⟩ := rr_work h
  obtain ⟨i1, i2, i3⟩ := Iv_fm h w2
  refine ⟨S 9 1, S', rfl, ?_, i1, i2, Rr_up i3⟩
  unfold f_Mo_fields
  rw [w1]
  simp only [Option.bind_some]
  obtain ⟨st, pl, es, bl, sc, fl, tl, cl, ch, len, lf, ret, bs, bf⟩ := a
  rw [w4.1.2.2.2.2.2.1, w3.2.2.1]
theorem op_length {c : Nat} {S : zSt} (h : Iv c S) : ∃ r S2, f_TC_length S = some r ∧ f_Mo_length S = some (r, S2) ∧ Iv (c + 1) S2 := by
  obtain ⟨a, S', w1, w2, w3, w4, w5⟩ := rr_work h
  obtain ⟨i1, i2, i3⟩ := Iv_fm h w2
  refine ⟨S 61 1, S', rfl, ?_, i1, i2, Rr_up i3⟩
  unfold f_Mo_length
  rw [w1]
  simp only [Option.bind_some]
  obtain ⟨st, pl, es, bl, sc, fl, tl, cl, ch, len, lf, ret, bs, bf⟩ := a
  rw [w4.2.2.2.2.1, w3.2.2.2.1]
theorem op_content {c : Nat} {S : zSt} (h : Iv c S) (v : Int32) : ∃ r S2, f_TC_content v S = some r ∧ f_Mo_content v S = some (r, S2) ∧ Iv (c + 1) S2 := by
  obtain ⟨a, S', w1, w2, w3, w4, w5⟩ := rr_work h
  obtain ⟨i1, i2, i3⟩ := Iv_fm h w2
  obtain ⟨st, pl, es, bl', sc, fl, tl, cl, ch, len, lf, ret, bs, bf⟩ := a
  have hbs : bs ≤ 120 := w5.2.2.2
  have e1 : S 61 1 = nI bs := w4.2.2.2.2.1
  have hbl : bl 3 = 120 := by decide
  have key : ∃ r, f_TC_content v S = some r ∧ f_Mo_content v S = some (r, S') := by
    unfold f_TC_content f_ByteRow_at f_ByteRow_at_34 f_Mo_content f_Mo_content_16
    rw [w1]
    simp only [Option.bind_some]
    rw [hbl, show (58 + 3 : Nat) = 61 from rfl, show (62 + 3 : Nat) = 65 from rfl, e1, w3.2.2.2.1]
    rcases pk_ix v (n := bs) (by omega) with hv | hv | ⟨j, hj, rfl⟩
    · exact ⟨-1, by rw [if_pos hv]; rfl, by rw [if_pos hv]⟩
    · have hv1 : ¬ v < 0 := fun z => nI_pos (n := bs) (by omega) (Int32.lt_of_le_of_lt hv z)
      have hv2 : ¬ v < nI bs := fun z => Int32.lt_irrefl (Int32.lt_of_lt_of_le z hv)
      exact ⟨-1, by rw [if_neg hv1, if_pos hv]; rfl, by rw [if_neg hv1, if_neg hv2]⟩
    · have z : ¬ nI j < 0 := nI_pos (by omega)
      have z1 : ¬ nI bs ≤ nI j := fun q => by have := (nI_leI (by omega) (by omega)).mp q; omega
      have z2 : nI j < nI bs := (nI_ltI (by omega) (by omega)).mpr hj
      have z3 : ¬ Int32.ofNat 120 ≤ nI j := fun q => by have := (nI_leI (a := 120) (by omega) (by omega)).mp q; omega
      refine ⟨nI (bf j), ?_, ?_⟩
      · rw [if_neg z, if_neg z1, if_neg z3, gdiN (by omega) (by omega), nI_clamp (by omega), w4.2.2.2.2.2 j hj]; rfl
      · rw [if_neg z, if_pos z2, gdiN (by omega) (by omega), nI_clamp (by omega), w3.2.2.2.2 j hj]
  obtain ⟨r, k1, k2⟩ := key
  exact ⟨r, S', k1, k2, i1, i2, Rr_up i3⟩
theorem op_reset {c : Nat} {S : zSt} (h : Iv c S) : ∃ S1 S2, f_TC_reset S = some S1 ∧ f_Mo_reset S1 = some S2 ∧ Iv (c + 1) S2 := by
  obtain ⟨h1, h2, -⟩ := h
  unfold f_TC_reset f_Reader_restart f_Line_clear f_Head_clear f_Mo_reset sq
  dsimp only
  rw [gdb_0]
  simp only [Option.bind_some]
  rw [gdb_0]
  simp only [Option.bind_some]
  refine ⟨_, _, rfl, by rw [gdb_0], ?_, ?_, z0, z0, 0, false, by omega, ?_, ?_, ?_, ?_⟩
  · refine Rd_fr h1 (fun i k hh => ?_)
    rw [su_ne (by omega), su_ne (by omega), su_ne (by omega), su_ne (by omega), su_ne (by omega), su_ne (by omega), su_ne (by omega), su_ne (by omega), su_ne (by omega), su_ne (by omega), su_ne (by omega), su_ne (by omega), su_ne (by omega), su_ne (by omega)]
  · refine Rm_fr h2 (fun i k hh => ?_)
    rw [su_ne (by omega), su_ne (by omega), su_ne (by omega), su_ne (by omega), su_ne (by omega), su_ne (by omega), su_ne (by omega), su_ne (by omega), su_ne (by omega), su_ne (by omega), su_ne (by omega), su_ne (by omega), su_ne (by omega), su_ne (by omega)]
  · exact ⟨by rw [su_ne (by omega), su_eq]; rfl, by omega, fun j hj => absurd hj (Nat.not_lt_zero j)⟩
  · rw [su_eq]; rfl
  · refine ⟨⟨?_, ?_, ?_, ?_, ?_, ?_, ?_, ?_, ?_⟩, ?_, fun j hj => absurd hj (Nat.not_lt_zero j), ?_, ?_, fun j hj => absurd hj (Nat.not_lt_zero j)⟩ <;> simp [su_ap] <;> rfl
  · exact ⟨⟨by omega, by omega, by omega, by omega, by omega, by omega, by omega, (fun n hn => by cases hn), fun _ => rfl, fun _ => by omega, fun _ => rfl, fun _ z => by omega⟩, by omega, fun j hj => absurd hj (Nat.not_lt_zero j), by omega⟩
theorem rd_end {S : zSt} {a : zA} (h : Ax S a) (hB : Bx a) : ∃ S', f_Reader_end S = some S' ∧ Ax S' (clA true a) ∧ Fc S S' := by
  obtain ⟨st, pl, es, bl, sc, fl, tl, cl, ch, len, lf, ret, bs, bf⟩ := a
  have e3 : S 6 3 = nI st := h.1.1
  have e4 : S 6 4 = nI pl := h.1.2.1
  have hst : st ≤ 3 := hB.1.1
  have hpl : pl ≤ 8 := hB.1.2.1
  have c1 : (nI st = 1) ↔ st = 1 := nI_eq (b := 1) (by omega) (by omega)
  have c2 : (nI st = 2) ↔ st = 2 := nI_eq (b := 2) (by omega) (by omega)
  have c5 : (nI pl = 5) ↔ pl = 5 := nI_eq (b := 5) (by omega) (by omega)
  unfold f_Reader_end f_Reader_end_24 sq clA
  rw [e3, e4]
  simp only [c1, c2, c5, if_true]
  have put : ∀ v, Ax (su S 6 3 (nI v)) (v, pl, es, bl, sc, fl, tl, cl, ch, len, lf, ret, bs, bf) ∧ Fc S (su S 6 3 (nI v)) := fun v => ⟨Ax_R h (Rx_st h.1 v) (Fq_su Fq_rf (by omega)), Fc_su Fc_rf (by omega)⟩
  by_cases h1 : st = 1
  · rw [if_pos h1]
    by_cases h5 : pl = 5
    · rw [if_pos h5, if_pos (Or.inl ⟨h1, h5⟩)]
      exact ⟨_, rfl, put 2⟩
    · rw [if_neg h5, if_neg (by omega), if_neg (by omega)]
      exact ⟨_, rfl, put 3⟩
  · rw [if_neg h1]
    by_cases h2 : st = 2
    · rw [if_pos h2, if_pos (Or.inr h2)]
      subst h2
      exact ⟨S, rfl, h, Fc_rf⟩
    · rw [if_neg h2, if_neg (by omega)]
      exact ⟨_, rfl, put 3⟩
theorem op_close {c : Nat} {S : zSt} (h : Iv c S) : ∃ r S1 S2, f_TC_close S = some (r, S1) ∧ f_Mo_close S1 = some (r, S2) ∧ Iv (c + 1) S2 := by
  obtain ⟨h1, h2, B, V, fed, closed, q1, q2, q3, q4, q5⟩ := h
  obtain ⟨S1, w1, w2, w3⟩ := rd_end q4 (Bx_cl q5 closed)
  rw [cl_cl] at w2
  have hI : Iv c (su S1 66 20 1) := by
    refine ⟨Rd_fr h1 (fun i k hh => ?_), Rm_fr h2 (fun i k hh => ?_), B, V, fed, true, q1, Bk_fr q2 (fun i k hh => ?_), su_eq, Ax_fr w2 (fun i k hh => ?_), q5⟩
    · rw [su_ne (by omega), w3 i k (by omega) (by omega) (by omega) (by omega) (by omega) (by omega)]
    · rw [su_ne (by omega), w3 i k (by omega) (by omega) (by omega) (by omega) (by omega) (by omega)]
    · rw [su_ne (by omega), w3 i k (by omega) (by omega) (by omega) (by omega) (by omega) (by omega)]
    · rw [su_ne (by omega)]
  have hI2 := hI
  obtain ⟨-, -, B', V', fed', closed', -⟩ := hI2
  have e20 : (su S1 66 20 1) 66 20 = bI true := su_eq
  have hBk : Bk (su S1 66 20 1) fed B V := Bk_fr q2 (fun i k hh => by rw [su_ne (by omega), w3 i k (by omega) (by omega) (by omega) (by omega) (by omega) (by omega)])
  obtain ⟨S', u1, u2, u3⟩ := mo_work hBk e20 (Bx_st q5)
  obtain ⟨i1, i2, i3⟩ := Iv_fm hI u2
  refine ⟨S1 6 3, S1, S', ?_, ?_, i1, i2, Rr_up i3⟩
  · unfold f_TC_close
    rw [w1]
    rfl
  · unfold f_Mo_close sq
    rw [gdb_1]
    dsimp only
    rw [u1]
    simp only [Option.bind_some]
    rw [Ax_st w2, Fz_st u3]
theorem op_feed {c : Nat} {S : zSt} (hc : c < 512) (h : Iv c S) (v : Int32) : ∃ r S1 S2, f_TC_feed v S = some (r, S1) ∧ f_Mo_feed v S1 = some (r, S2) ∧ Iv (c + 1) S2 := by
  have hh := h
  obtain ⟨h1, h2, B, V, fed, closed, q1, q2, q3, q4, q5⟩ := h
  by_cases hv0 : v < 0
  · refine ⟨-11, S, S, ?_, ?_, h1, h2, Rr_up hh.2.2⟩
    · unfold f_TC_feed; rw [if_pos hv0]
    · unfold f_Mo_feed; rw [if_pos hv0]
  by_cases hv1 : v ≤ 255
  rotate_left
  · refine ⟨-11, S, S, ?_, ?_, h1, h2, Rr_up hh.2.2⟩
    · unfold f_TC_feed; rw [if_neg hv0, if_neg hv1]
    · unfold f_Mo_feed; rw [if_neg hv0, if_neg hv1]
  obtain ⟨j, hj, rfl⟩ := nI_of hv0
  have hb : j < 256 := by have := (nI_leI (b := 255) hj (by omega)).mp hv1; omega
  obtain ⟨⟨p1, p2, p3⟩, -⟩ := h1
  obtain ⟨vb, hvb, evb⟩ := toN 4 p1 p2 (by decide)
  obtain ⟨S1, w1, w2, w3, w4⟩ := rd_take (b := j) (v := vb) q4 (Bx_cl q5 closed) hb hvb
  have f1 : ∀ i k, i ≠ 6 → i ≠ 7 → i ≠ 8 → i ≠ 9 → i ≠ 61 → i ≠ 65 → S1 i k = S i k := w4
  have hBk1 : Bk S1 fed B V := Bk_fr q2 (fun i k hh => f1 i k (by omega) (by omega) (by omega) (by omega) (by omega) (by omega))
  have e20 : S1 66 20 = bI closed := by rw [f1 _ _ (by omega) (by omega) (by omega) (by omega) (by omega) (by omega)]; exact q3
  obtain ⟨u, u1, u2, u3⟩ := mo_work hBk1 e20 (Bx_st q5)
  have hRd1 : Rd S1 := Rd_fr hh.1 (fun i k hh => f1 i k (by omega) (by omega) (by omega) (by omega) (by omega) (by omega))
  have hRm1 : Rm S1 := Rm_fr h2 (fun i k hh => f1 i k (by omega) (by omega) (by omega) (by omega) (by omega) (by omega))
  have eT : f_TC_feed (nI j) S = some (S1 6 3, S1) := by
    unfold f_TC_feed
    rw [if_neg hv0, if_pos hv1, evb, w1]
    rfl
  have hst := Bx_st (Bx_cl q5 closed)
  have cst : (u 66 23 ≤ 1) ↔ (clA closed (runA B V fed 0 (a0A z0))).1 ≤ 1 := by
    rw [Fz_st u3]
    exact nI_leI (b := 1) (by omega) (by omega)
  by_cases hs : (clA closed (runA B V fed 0 (a0A z0))).1 ≤ 1
  · have hcl : closed = false := by
      cases closed with
      | false => rfl
      | true => have := cl_ge (runA B V fed 0 (a0A z0)); omega
    subst hcl
    rw [cl_f] at w2 w3 u3
    have hf17 : u 66 17 = nI fed := (Bk_fm hBk1 u2).1
    have hu0 : u 66 0 = nI vb := by rw [u2 _ _ (by omega) (by omega), f1 _ _ (by omega) (by omega) (by omega) (by omega) (by omega) (by omega), p3, evb]
    have erun : runA (upf B fed j) (upf V fed vb) (fed + 1) 0 (a0A z0) = stA (runA B V fed 0 (a0A z0)) j vb := by
      rw [run_end, Nat.zero_add, run_congr (B' := B) (V' := V) fed 0 (a0A z0) (fun i a b => by
        unfold upf
        rw [if_neg (by omega), if_neg (by omega)]
        exact ⟨rfl, rfl⟩)]
      unfold upf
      rw [if_pos rfl, if_pos rfl]
    have hI : Iv (c + 1) (su (su (su u 76 fed (nI j)) 77 fed (nI vb)) 66 17 (nI (fed + 1))) := by
      refine ⟨Rd_fr hRd1 (fun i k hh => ?_), Rm_fr hRm1 (fun i k hh => ?_), upf B fed j, upf V fed vb, fed + 1, false, by omega, ⟨su_eq, by omega, fun i hi => ?_⟩, ?_, ?_, ?_⟩
      · rw [su_ne (by omega), su_ne (by omega), su_ne (by omega), u2 i k (by omega) (by omega)]
      · rw [su_ne (by omega), su_ne (by omega), su_ne (by omega), u2 i k (by omega) (by omega)]
      · rw [su_ne (by omega), su_ne (by omega), su_ap, su_ne (by omega), su_ap]
        unfold upf
        by_cases y : i = fed
        · rw [if_pos ⟨rfl, y⟩, if_pos y, if_pos ⟨rfl, y⟩, if_pos y]
          exact ⟨rfl, hb, rfl, hvb⟩
        · rw [if_neg (fun z => y z.2), if_neg y, if_neg (fun z => y z.2), if_neg y]
          have hne : ¬ ((77 : Nat) = 76 ∧ i = fed) := by omega
          have := (Bk_fm hBk1 u2).2.2 i (by omega)
          simpa [su_ap, hne] using this
      · rw [su_ne (by omega), su_ne (by omega), su_ne (by omega), u2 _ _ (by omega) (by omega)]; exact e20
      · rw [cl_f, erun]
        exact Ax_fr w2 (fun i k hh => by rw [su_ne (by omega), su_ne (by omega), su_ne (by omega), u2 i k (by omega) (by omega)])
      · rw [erun]; exact w3
    obtain ⟨a, S', k1, k2, k3, k4, k5⟩ := rr_work hI
    refine ⟨S1 6 3, S1, S', eT, ?_, Iv_fm hI k2⟩
    have e3 : (su (su (su u 76 fed (nI j)) 77 fed (nI vb)) 66 17 (nI (fed + 1))) 6 3 = S1 6 3 := by
      rw [su_ne (by omega), su_ne (by omega), su_ne (by omega), u2 _ _ (by omega) (by omega)]
    unfold f_Mo_feed
    rw [if_neg hv0, if_pos hv1, u1]
    simp only [Option.bind_some]
    rw [if_pos (cst.mpr hs), hf17, gdiN (by omega) (by omega), nI_clamp (by omega)]
    unfold sq
    dsimp only
    rw [su_ne (by omega), hf17, gdiN (by omega) (by omega), nI_clamp (by omega), su_ne (by omega), hu0, su_ne (by omega), su_ne (by omega), hf17, nI_1, k1]
    simp only [Option.bind_some]
    rw [Fz_st k3, ← Ax_st k4, e3]
  · have hge : (clA closed (runA B V fed 0 (a0A z0))).1 = 2 ∨ (clA closed (runA B V fed 0 (a0A z0))).1 = 3 := by omega
    rw [st_stop hge] at w2
    have hI : Iv c u := by
      refine ⟨Rd_fr hRd1 (fun i k hh => u2 i k (by omega) (by omega)), Rm_fr hRm1 (fun i k hh => u2 i k (by omega) (by omega)), B, V, fed, closed, q1, Bk_fm hBk1 u2, by rw [u2 _ _ (by omega) (by omega)]; exact e20, Ax_fr w2 (fun i k hh => u2 i k (by omega) (by omega)), q5⟩
    refine ⟨S1 6 3, S1, u, eT, ?_, hI.1, hI.2.1, Rr_up hI.2.2⟩
    unfold f_Mo_feed
    rw [if_neg hv0, if_pos hv1, u1]
    simp only [Option.bind_some]
    rw [if_neg (fun z => hs (cst.mp z)), Fz_st u3, Ax_st w2]
