-- the reference's reader: its cells, fields, head
def Fm (S0 S : zSt) : Prop := ∀ i k, i ≠ 78 → (i ≠ 66 ∨ k < 21) → S i k = S0 i k
def Mx (S0 S : zSt) (p ph es fl bs : Nat) (bf : Nat → Nat) (cl : Option Nat) (ch op : Bool) : Prop := Fm S0 S ∧ S 66 21 = nI p ∧ S 66 23 = nI ph ∧ S 66 24 = nI es ∧ S 66 25 = nI fl ∧ S 66 26 = nI bs ∧ (∀ j, j < bs → S 78 j = nI (bf j)) ∧ S 66 28 = oI cl ∧ S 66 29 = bI ch ∧ S 66 30 = bI op
theorem Fm_su {S0 S : zSt} (h : Fm S0 S) {k : Nat} {v : Int32} (hk : 21 ≤ k) : Fm S0 (su S 66 k v) := fun i j a b => by
  rw [su_ne (by omega)]
  exact h i j a b
theorem Fm_rf {S : zSt} : Fm S S := fun _ _ _ _ => rfl
theorem Fm_tr {S S' S'' : zSt} (h : Fm S S') (h' : Fm S' S'') : Fm S S'' := fun i k a b => (h' i k a b).trans (h i k a b)
section MX
variable {S0 S : zSt} {p ph es fl bs : Nat} {bf : Nat → Nat} {cl : Option Nat} {ch op : Bool}
theorem Mx_gen (h : Mx S0 S p ph es fl bs bf cl ch op) {k : Nat} {v : Int32} (hk : 21 ≤ k) {p' ph' es' fl' : Nat} {cl' : Option Nat} {ch' op' : Bool} (h26 : k ≠ 26)
    (e21 : (k = 21 → v = nI p') ∧ (k ≠ 21 → p' = p)) (e23 : (k = 23 → v = nI ph') ∧ (k ≠ 23 → ph' = ph)) (e24 : (k = 24 → v = nI es') ∧ (k ≠ 24 → es' = es)) (e25 : (k = 25 → v = nI fl') ∧ (k ≠ 25 → fl' = fl)) (e28 : (k = 28 → v = oI cl') ∧ (k ≠ 28 → cl' = cl)) (e29 : (k = 29 → v = bI ch') ∧ (k ≠ 29 → ch' = ch)) (e30 : (k = 30 → v = bI op') ∧ (k ≠ 30 → op' = op)) : Mx S0 (su S 66 k v) p' ph' es' fl' bs bf cl' ch' op' := by
  obtain ⟨m0, m1, m2, m3, m4, m5, m6, m7, m8, m9⟩ := h
  refine ⟨Fm_su m0 hk, ?_, ?_, ?_, ?_, ?_, ?_, ?_, ?_, ?_⟩
  · by_cases c : k = 21
    · rw [c, su_eq, e21.1 c]
    · rw [su_ne (by omega), e21.2 c]; exact m1
  · by_cases c : k = 23
    · rw [c, su_eq, e23.1 c]
    · rw [su_ne (by omega), e23.2 c]; exact m2
  · by_cases c : k = 24
    · rw [c, su_eq, e24.1 c]
    · rw [su_ne (by omega), e24.2 c]; exact m3
  · by_cases c : k = 25
    · rw [c, su_eq, e25.1 c]
    · rw [su_ne (by omega), e25.2 c]; exact m4
  · rw [su_ne (by omega)]; exact m5
  · intro j hj
    rw [su_ne (by omega)]; exact m6 j hj
  · by_cases c : k = 28
    · rw [c, su_eq, e28.1 c]
    · rw [su_ne (by omega), e28.2 c]; exact m7
  · by_cases c : k = 29
    · rw [c, su_eq, e29.1 c]
    · rw [su_ne (by omega), e29.2 c]; exact m8
  · by_cases c : k = 30
    · rw [c, su_eq, e30.1 c]
    · rw [su_ne (by omega), e30.2 c]; exact m9
theorem Mx_21 (h : Mx S0 S p ph es fl bs bf cl ch op) (v : Nat) : Mx S0 (su S 66 21 (nI v)) v ph es fl bs bf cl ch op := Mx_gen h (by omega) (by omega) (by simp) (by simp) (by simp) (by simp) (by simp) (by simp) (by simp)
theorem Mx_22 (h : Mx S0 S p ph es fl bs bf cl ch op) (v : Int32) : Mx S0 (su S 66 22 v) p ph es fl bs bf cl ch op := Mx_gen h (by omega) (by omega) (by simp) (by simp) (by simp) (by simp) (by simp) (by simp) (by simp)
theorem Mx_23 (h : Mx S0 S p ph es fl bs bf cl ch op) (v : Nat) : Mx S0 (su S 66 23 (nI v)) p v es fl bs bf cl ch op := Mx_gen h (by omega) (by omega) (by simp) (by simp) (by simp) (by simp) (by simp) (by simp) (by simp)
theorem Mx_24 (h : Mx S0 S p ph es fl bs bf cl ch op) (v : Nat) : Mx S0 (su S 66 24 (nI v)) p ph v fl bs bf cl ch op := Mx_gen h (by omega) (by omega) (by simp) (by simp) (by simp) (by simp) (by simp) (by simp) (by simp)
theorem Mx_25 (h : Mx S0 S p ph es fl bs bf cl ch op) (v : Nat) : Mx S0 (su S 66 25 (nI v)) p ph es v bs bf cl ch op := Mx_gen h (by omega) (by omega) (by simp) (by simp) (by simp) (by simp) (by simp) (by simp) (by simp)
theorem Mx_28 (h : Mx S0 S p ph es fl bs bf cl ch op) (v : Option Nat) : Mx S0 (su S 66 28 (oI v)) p ph es fl bs bf v ch op := Mx_gen h (by omega) (by omega) (by simp) (by simp) (by simp) (by simp) (by simp) (by simp) (by simp)
theorem Mx_29 (h : Mx S0 S p ph es fl bs bf cl ch op) (v : Bool) : Mx S0 (su S 66 29 (bI v)) p ph es fl bs bf cl v op := Mx_gen h (by omega) (by omega) (by simp) (by simp) (by simp) (by simp) (by simp) (by simp) (by simp)
theorem Mx_30 (h : Mx S0 S p ph es fl bs bf cl ch op) (v : Bool) : Mx S0 (su S 66 30 (bI v)) p ph es fl bs bf cl ch v := Mx_gen h (by omega) (by omega) (by simp) (by simp) (by simp) (by simp) (by simp) (by simp) (by simp)
theorem Bk_fm {fed : Nat} {B V : Nat → Nat} (h : Bk S0 fed B V) (hf : Fm S0 S) : Bk S fed B V := by
  obtain ⟨h1, h2, h3⟩ := h
  refine ⟨by rw [hf _ _ (by omega) (by omega)]; exact h1, h2, fun j hj => ?_⟩
  rw [hf _ _ (by omega) (by omega), hf _ _ (by omega) (by omega)]
  exact h3 j hj
theorem Lm_of {fed n : Nat} {B V : Nat → Nat} (hB : Bk S fed B V) (h21 : S 66 21 = nI p) (h22 : S 66 22 = nI (p + n)) (hn : n ≤ 60) (hf : p + n + 2 ≤ fed) (h127 : ∀ j, j < n → B (p + j) < 127) : Lm S p n (tat n fun j => B (p + j)) := by
  have := hB.2.1
  refine ⟨h21, h22, by omega, hn, fun i hi => ?_⟩
  rw [tat_in hi]
  exact ⟨(hB.2.2 (p + i) (by omega)).1, h127 i hi⟩
/-- what the reference's cells answer -/
def Fi (S : zSt) (a : zA) : Prop := match a with
  | (st, pl, es, _, _, fl, _, _, _, _, _, _, bs, bf) => S 66 23 = nI st ∧ S 66 24 = nI es ∧ S 66 25 = nI fl ∧ S 66 26 = nI bs ∧ (∀ j, j < bs → S 78 j = nI (bf j)) ∧ (st < 2 → S 66 30 = bI (decide (st = 1 ∧ pl = 5)))
theorem Fi_of (h : Mx S0 S p ph es fl bs bf cl ch op) {pl bl sc tl : Nat} {cl' : Option Nat} {ch' : Bool} {len : Nat} {lf : Nat → Nat} {ret : Bool} (ho : ph < 2 → op = decide (ph = 1 ∧ pl = 5)) : Fi S (ph, pl, es, bl, sc, fl, tl, cl', ch', len, lf, ret, bs, bf) := by
  obtain ⟨m0, m1, m2, m3, m4, m5, m6, m7, m8, m9⟩ := h
  exact ⟨m2, m3, m4, m5, m6, fun z => by rw [m9, ho z]⟩
end MX
section MREAD
variable {S0 : zSt} {fed : Nat} {B V : Nat → Nat}
theorem mo_fls0 (hB : Bk S0 fed B V) {st ph es bl sc tl bs : Nat} {bf : Nat → Nat} {op : Bool} (hst : st < 2) : ∀ m fl p cl ch S x S1, fl ≤ 8 → 8 - fl < m → p ≤ fed → Mx S0 S p ph es fl bs bf cl ch op → (∀ c, cl = some c → c < 10000) → (ch = true → cl = none) → Lo B V fed p st 1 es bl sc fl tl cl ch bs bf 0 z0 S x S1 → ∃ y S', f_Mo_fieldLines_7 m 0 (nI fl) x S1 = some (y, S') ∧ ∃ q fl' cl' ch', Mx S0 S' q ph es fl' bs bf cl' ch' op ∧ fl' ≤ 8 ∧ (∀ c, cl' = some c → c < 10000) ∧ (ch' = true → cl' = none) ∧
    ((y = 1 ∧ p < q ∧ q ≤ fed ∧ runA B V (q - p) p (st, 1, es, bl, sc, fl, tl, cl, ch, 0, z0, false, bs, bf) = mkA (ehA st 1 es bl sc fl' tl cl' ch' (V (q - 1))) 0 z0 false bs bf)
    ∨ (y = 0 ∧ ∃ len lf ret, runA B V (fed - p) p (st, 1, es, bl, sc, fl, tl, cl, ch, 0, z0, false, bs, bf) = (st, 1, es, bl, sc, fl', tl, cl', ch', len, lf, ret, bs, bf))
    ∨ (y = -1 ∧ ∃ len lf ret, runA B V (fed - p) p (st, 1, es, bl, sc, fl, tl, cl, ch, 0, z0, false, bs, bf) = (3, 1, es, bl, sc, fl', tl, cl', ch', len, lf, ret, bs, bf))) := by
  intro m
  induction m with
  | zero => intro fl p cl ch S x S1 a b; omega
  | succ m ih =>
    intro fl p cl ch S x S1 hfl hm hp hM hcl hch hL
    obtain ⟨⟨v, rfl⟩, hL⟩ := hL
    have hM1 := Mx_22 hM v
    have hBk := Bk_fm hB hM1.1
    have hfed := hB.2.1
    rw [f_Mo_fieldLines_7]
    rcases hL with ⟨rfl, n, -, hn, hpn, h22, h127, hrun⟩ | ⟨rfl, len, lf, ret, hrun⟩ | ⟨rfl, len, lf, ret, hrun⟩
    · have hLm := Lm_of hBk hM1.2.1 h22 hn hpn h127
      rw [if_pos rfl, h22, hM1.2.1]
      rw [show n + 2 - 0 = n + 2 from rfl, show p + 0 = p from rfl] at hrun
      have hv : v = nI (p + n) := by rw [su_eq] at h22; exact h22
      subst hv
      by_cases h0 : n = 0
      · subst h0
        rw [if_pos ((nI_leI (by omega) (by omega)).mpr (by omega))]
        unfold f_Mo_fieldLines_78 f_Mo_fieldLines_97 sq
        rw [if_pos rfl, su_eq, show (2 : Int32) = nI 2 from rfl, nI_add]
        refine ⟨1, _, rfl, p + 0 + 2, fl, cl, ch, Mx_21 hM1 _, hfl, hcl, hch, Or.inl ⟨rfl, by omega, by omega, ?_⟩⟩
        rw [show p + 0 + 2 - p = 0 + 2 by omega, hrun, show p + 0 + 2 - 1 = p + 0 + 1 by omega]
        unfold rdA
        rw [if_neg (by decide), if_pos rfl, if_pos rfl]
      · rw [if_neg (fun z => by have := (nI_leI (by omega) (by omega)).mp z; omega)]
        have c8 : (nI fl = 8) ↔ fl = 8 := nI_eq (b := 8) (by omega) (by omega)
        simp only [c8]
        have cut := run_cut (B := B) (V := V) (k := fed - p) (q := n + 2) (p := p) (by omega) (st, 1, es, bl, sc, fl, tl, cl, ch, 0, z0, false, bs, bf)
        rw [hrun] at cut
        by_cases h8 : fl = 8
        · rw [if_pos h8]
          refine ⟨-1, _, rfl, p, fl, cl, ch, hM1, hfl, hcl, hch, Or.inr (Or.inr ⟨rfl, 0, z0, false, ?_⟩)⟩
          rw [cut]
          unfold rdA
          rw [if_neg (by decide), if_pos rfl, if_neg h0, if_neg (by omega)]
          exact run_stop _ _ _ (Or.inr rfl)
        · rw [if_neg h8, mo_ffield hLm hM1.2.2.2.2.2.2.2.1 hM1.2.2.2.2.2.2.2.2.1 hcl]
          have hrd : rdA st 1 es bl sc fl tl cl ch n (tat n fun j => B (p + j)) bs (V (p + n + 1)) = match frS n (tat n fun j => B (p + j)) cl ch with
            | none => (3, 1, es, bl, sc, fl, tl, cl, ch)
            | some (cl', ch') => (st, 1, es, bl, sc, fl + 1, tl, cl', ch') := by
            unfold rdA
            rw [if_neg (by decide), if_pos rfl, if_neg h0, if_pos (by omega)]
            cases frS n (tat n fun j => B (p + j)) cl ch with
            | none => rfl
            | some o => obtain ⟨o1, o2⟩ := o; rfl
          rw [hrd] at cut
          cases hfr : frS n (tat n fun j => B (p + j)) cl ch with
          | none =>
            rw [hfr] at cut
            unfold frO
            simp only [Option.bind_some, if_true]
            refine ⟨-1, _, rfl, p, fl, cl, ch, hM1, hfl, hcl, hch, Or.inr (Or.inr ⟨rfl, 0, z0, false, ?_⟩)⟩
            rw [cut]
            exact run_stop _ _ _ (Or.inr rfl)
          | some o =>
            obtain ⟨cl', ch'⟩ := o
            obtain ⟨k1, k2⟩ := frS_ok hcl hch hfr
            rw [hfr] at cut
            have hM2 := Mx_29 (Mx_28 hM1 cl') ch'
            rw [show frO (su S 66 22 (nI (p + n))) (some (cl', ch')) = some ((1 : Int32), su (su (su S 66 22 (nI (p + n))) 66 28 (oI cl')) 66 29 (bI ch')) from rfl, Option.bind_some]
            dsimp only
            rw [if_neg (show ¬ (1 : Int32) = 0 by decide), if_pos trivial]
            unfold f_Mo_fieldLines_56 sq
            generalize hT : su (su (su S 66 22 (nI (p + n))) 66 28 (oI cl')) 66 29 (bI ch') = T at hM2
            have t22 : T 66 22 = nI (p + n) := by rw [← hT, su_ne (by omega), su_ne (by omega), su_eq]
            rw [hM2.2.2.2.2.1, nI_1]
            dsimp only
            rw [su_ne (by omega), t22, show (2 : Int32) = nI 2 from rfl, nI_add]
            have hM3 := Mx_21 (Mx_25 hM2 (fl + 1)) (p + n + 2)
            obtain ⟨x', S5, w1, w2⟩ := mo_line (st := st) (pl := 1) (es := es) (bl := bl) (sc := sc) (fl := fl + 1) (tl := tl) (cl := cl') (ch := ch') (bs := bs) (bf := bf) (Bk_fm hB hM3.1) hM3.2.1 hst (by omega) hpn
            rw [w1]
            simp only [Option.bind_some]
            obtain ⟨y, S', u1, q, fl', cl2, ch2, u2, u3, u4, u5, u6⟩ := ih (fl + 1) (p + n + 2) cl' ch' _ x' S5 (by omega) (by omega) hpn hM3 k1 k2 w2
            refine ⟨y, S', u1, q, fl', cl2, ch2, u2, u3, u4, u5, ?_⟩
            rw [show fed - p - (n + 2) = fed - (p + n + 2) by omega, show p + (n + 2) = p + n + 2 by omega] at cut
            rcases u6 with ⟨y1, y2, y3, y4⟩ | ⟨y1, y2⟩ | ⟨y1, y2⟩
            · refine Or.inl ⟨y1, by omega, y3, ?_⟩
              have cut2 := run_cut (B := B) (V := V) (k := q - p) (q := n + 2) (p := p) (by omega) (st, 1, es, bl, sc, fl, tl, cl, ch, 0, z0, false, bs, bf)
              rw [hrun, hrd, hfr] at cut2
              rw [cut2, show q - p - (n + 2) = q - (p + n + 2) by omega, show p + (n + 2) = p + n + 2 by omega]
              exact y4
            · exact Or.inr (Or.inl ⟨y1, by rw [cut]; exact y2⟩)
            · exact Or.inr (Or.inr ⟨y1, by rw [cut]; exact y2⟩)
    · rw [if_neg (by decide)]
      unfold f_Mo_fieldLines_78 f_Mo_fieldLines_97 sq
      rw [if_neg (by decide), hM1.2.1]
      refine ⟨0, _, rfl, p, fl, cl, ch, Mx_21 hM1 p, hfl, hcl, hch, Or.inr (Or.inl ⟨rfl, len, lf, ret, ?_⟩)⟩
      exact hrun
    · rw [if_neg (by decide)]
      unfold f_Mo_fieldLines_78 f_Mo_fieldLines_97 sq
      rw [if_neg (by decide), hM1.2.1]
      refine ⟨-1, _, rfl, p, fl, cl, ch, Mx_21 hM1 p, hfl, hcl, hch, Or.inr (Or.inr ⟨rfl, len, lf, ret, ?_⟩)⟩
      exact hrun
theorem mo_fls1 (hB : Bk S0 fed B V) {st ph es bl sc fl bs : Nat} {bf : Nat → Nat} {cl : Option Nat} {ch op : Bool} (hst : st < 2) : ∀ m tl p S x S1, tl ≤ 8 → 8 - tl < m → p ≤ fed → Mx S0 S p ph es fl bs bf cl ch op → Lo B V fed p st 3 es bl sc fl tl cl ch bs bf 0 z0 S x S1 → ∃ y S' s, f_Mo_fieldLines_7 m 1 (nI tl) x S1 = some (y, S') ∧ ((y = 1 ∧ s = 2) ∨ (y = 0 ∧ s = st) ∨ (y = -1 ∧ s = 3)) ∧ ∃ q tl' len lf ret, Mx S0 S' q ph es fl bs bf cl ch op ∧ runA B V (fed - p) p (st, 3, es, bl, sc, fl, tl, cl, ch, 0, z0, false, bs, bf) = (s, 3, es, bl, sc, fl, tl', cl, ch, len, lf, ret, bs, bf) := by
  intro m
  induction m with
  | zero => intro tl p S x S1 a b; omega
  | succ m ih =>
    intro tl p S x S1 htl hm hp hM hL
    obtain ⟨⟨v, rfl⟩, hL⟩ := hL
    have hM1 := Mx_22 hM v
    have hBk := Bk_fm hB hM1.1
    have hfed := hB.2.1
    rw [f_Mo_fieldLines_7]
    rcases hL with ⟨rfl, n, -, hn, hpn, h22, h127, hrun⟩ | ⟨rfl, len, lf, ret, hrun⟩ | ⟨rfl, len, lf, ret, hrun⟩
    · have hLm := Lm_of hBk hM1.2.1 h22 hn hpn h127
      rw [if_pos rfl, h22, hM1.2.1]
      rw [show n + 2 - 0 = n + 2 from rfl, show p + 0 = p from rfl] at hrun
      have hv : v = nI (p + n) := by rw [su_eq] at h22; exact h22
      subst hv
      have cut := run_cut (B := B) (V := V) (k := fed - p) (q := n + 2) (p := p) (by omega) (st, 3, es, bl, sc, fl, tl, cl, ch, 0, z0, false, bs, bf)
      rw [hrun] at cut
      by_cases h0 : n = 0
      · subst h0
        rw [if_pos ((nI_leI (by omega) (by omega)).mpr (by omega))]
        unfold f_Mo_fieldLines_78 f_Mo_fieldLines_97 sq
        rw [if_pos rfl, su_eq, show (2 : Int32) = nI 2 from rfl, nI_add]
        refine ⟨1, _, 2, rfl, Or.inl ⟨rfl, rfl⟩, p + 0 + 2, tl, 0, z0, false, Mx_21 hM1 _, ?_⟩
        rw [cut]
        unfold rdA
        rw [if_neg (by decide), if_neg (by decide), if_neg (by decide), if_pos rfl]
        exact run_stop _ _ _ (Or.inl rfl)
      · rw [if_neg (fun z => by have := (nI_leI (by omega) (by omega)).mp z; omega)]
        have c8 : (nI tl = 8) ↔ tl = 8 := nI_eq (b := 8) (by omega) (by omega)
        simp only [c8]
        have hrd : rdA st 3 es bl sc fl tl cl ch n (tat n fun j => B (p + j)) bs (V (p + n + 1)) = if tl < 8 ∧ ftS n (tat n fun j => B (p + j)) = true then (st, 3, es, bl, sc, fl, tl + 1, cl, ch) else (3, 3, es, bl, sc, fl, tl + 1, cl, ch) := by
          unfold rdA
          rw [if_neg (by decide), if_neg (by decide), if_neg (by decide), if_neg h0]
        rw [hrd] at cut
        by_cases h8 : tl = 8
        · rw [if_pos h8]
          refine ⟨-1, _, 3, rfl, Or.inr (Or.inr ⟨rfl, rfl⟩), p, tl + 1, 0, z0, false, hM1, ?_⟩
          rw [cut, if_neg (fun z => by omega)]
          exact run_stop _ _ _ (Or.inr rfl)
        · rw [if_neg h8, mo_ftrail hLm]
          simp only [Option.bind_some, bI_0]
          cases hft : ftS n (tat n fun j => B (p + j)) with
          | false =>
            rw [if_pos rfl]
            refine ⟨-1, _, 3, rfl, Or.inr (Or.inr ⟨rfl, rfl⟩), p, tl + 1, 0, z0, false, hM1, ?_⟩
            rw [cut, if_neg (fun z => by rw [hft] at z; exact absurd z.2 (by decide))]
            exact run_stop _ _ _ (Or.inr rfl)
          | true =>
            rw [if_pos ⟨by omega, hft⟩] at cut
            rw [if_neg (by decide), if_neg (by decide)]
            unfold f_Mo_fieldLines_56 sq
            rw [hM1.2.2.2.2.1, show nI fl + 0 = nI fl from nI_add fl 0]
            dsimp only
            rw [su_ne (by omega), su_eq, show (2 : Int32) = nI 2 from rfl, nI_add]
            have hM3 := Mx_21 (Mx_25 hM1 fl) (p + n + 2)
            obtain ⟨x', S5, w1, w2⟩ := mo_line (st := st) (pl := 3) (es := es) (bl := bl) (sc := sc) (fl := fl) (tl := tl + 1) (cl := cl) (ch := ch) (bs := bs) (bf := bf) (Bk_fm hB hM3.1) hM3.2.1 hst (by omega) hpn
            rw [w1]
            simp only [Option.bind_some]
            obtain ⟨y, S', s, u1, u2, q, tl', len, lf, ret, u3, u4⟩ := ih (tl + 1) (p + n + 2) _ x' S5 (by omega) (by omega) hpn hM3 w2
            rw [show nI tl + 1 = nI (tl + 1) from nI_1 tl]
            refine ⟨y, S', s, u1, u2, q, tl', len, lf, ret, u3, ?_⟩
            rw [cut, show fed - p - (n + 2) = fed - (p + n + 2) by omega, show p + (n + 2) = p + n + 2 by omega]
            exact u4
    · rw [if_neg (by decide)]
      unfold f_Mo_fieldLines_78 f_Mo_fieldLines_97 sq
      rw [if_neg (by decide), hM1.2.1]
      refine ⟨0, _, st, rfl, Or.inr (Or.inl ⟨rfl, rfl⟩), p, tl, len, lf, ret, Mx_21 hM1 p, ?_⟩
      exact hrun
    · rw [if_neg (by decide)]
      unfold f_Mo_fieldLines_78 f_Mo_fieldLines_97 sq
      rw [if_neg (by decide), hM1.2.1]
      refine ⟨-1, _, 3, rfl, Or.inr (Or.inr ⟨rfl, rfl⟩), p, tl, len, lf, ret, Mx_21 hM1 p, ?_⟩
      exact hrun
/-- the head: from a fresh state -/
def nh (S : zSt) : zSt := su (su (su S 66 25 0) 66 28 (-1)) 66 29 0
theorem Mx_nh {S : zSt} {p ph es fl bs : Nat} {bf : Nat → Nat} {cl : Option Nat} {ch op : Bool} (h : Mx S0 S p ph es fl bs bf cl ch op) : Mx S0 (nh S) p ph es 0 bs bf none false op := Mx_29 (Mx_28 (Mx_25 h 0) none) false
theorem mo_head (hB : Bk S0 fed B V) {p ph bs bl : Nat} {bf : Nat → Nat} {op : Bool} {S : zSt} (hp : p ≤ fed) (hM : Mx S0 (nh S) p ph 0 0 bs bf none false op) : ∃ y S', f_Mo_head S = some (y, S') ∧
    ((y = 1 ∧ ∃ q c fl cl ch, Mx S0 S' q ph c fl bs bf cl ch op ∧ fl ≤ 8 ∧ 100 ≤ c ∧ c ≤ 599 ∧ (∀ k, cl = some k → k < 10000) ∧ (ch = true → cl = none) ∧ p < q ∧ q ≤ fed ∧ runA B V (q - p) p (0, 0, 0, bl, 0, 0, 0, none, false, 0, z0, false, bs, bf) = mkA (ehA 0 1 0 bl c fl 0 cl ch (V (q - 1))) 0 z0 false bs bf)
    ∨ (∃ s, ((y = 0 ∧ s = 0) ∨ (y = -1 ∧ s = 3)) ∧ ∃ q fl cl ch, Mx S0 S' q ph 0 fl bs bf cl ch op ∧ ∃ pl sc len lf ret, runA B V (fed - p) p (0, 0, 0, bl, 0, 0, 0, none, false, 0, z0, false, bs, bf) = (s, pl, 0, bl, sc, fl, 0, cl, ch, len, lf, ret, bs, bf))) := by
  have hM1 : Mx S0 (su (su (su S 66 25 0) 66 28 (-1)) 66 29 0) p ph 0 0 bs bf none false op := hM
  have hfed := hB.2.1
  unfold f_Mo_head sq
  dsimp only
  rw [gdb_0]
  generalize su (su (su S 66 25 0) 66 28 (-1)) 66 29 0 = T at hM1
  obtain ⟨x, S1, w1, ⟨v, rfl⟩, hL⟩ := mo_line (st := 0) (pl := 0) (es := 0) (bl := bl) (sc := 0) (fl := 0) (tl := 0) (cl := none) (ch := false) (bs := bs) (bf := bf) (Bk_fm hB hM1.1) hM1.2.1 (by omega) (by omega) hp
  have hM2 := Mx_22 hM1 v
  rw [w1]
  simp only [Option.bind_some]
  rcases hL with ⟨rfl, n, -, hn, hpn, h22, h127, hrun⟩ | ⟨rfl, len, lf, ret, hrun⟩ | ⟨rfl, len, lf, ret, hrun⟩
  · have hLm := Lm_of (Bk_fm hB hM2.1) hM2.2.1 h22 hn hpn h127
    rw [if_pos rfl, mo_first hLm]
    simp only [Option.bind_some]
    rw [show n + 2 - 0 = n + 2 from rfl, show p + 0 = p from rfl] at hrun
    have hrd : rdA 0 0 0 bl 0 0 0 none false n (tat n fun j => B (p + j)) bs (V (p + n + 1)) = match fsS n (tat n fun j => B (p + j)) with
      | none => (3, 1, 0, bl, 0, 0, 0, none, false)
      | some c => (0, 1, 0, bl, c, 0, 0, none, false) := by
      unfold rdA
      rw [if_pos rfl]
      cases fsS n (tat n fun j => B (p + j)) <;> rfl
    have cut := run_cut (B := B) (V := V) (k := fed - p) (q := n + 2) (p := p) (by omega) (0, 0, 0, bl, 0, 0, 0, none, false, 0, z0, false, bs, bf)
    rw [hrun, hrd] at cut
    cases hfs : fsS n (tat n fun j => B (p + j)) with
    | none =>
      rw [hfs] at cut
      rw [if_neg (by decide)]
      refine ⟨-1, _, rfl, Or.inr ⟨3, Or.inr ⟨rfl, rfl⟩, p, 0, none, false, hM2, 1, 0, 0, z0, false, ?_⟩⟩
      rw [cut]
      exact run_stop _ _ _ (Or.inr rfl)
    | some c =>
      have hc := fsS_le hfs
      rw [hfs] at cut
      have eo : oI (some c) = nI c := rfl
      have c0 : (0 : Int32) ≤ nI c := nI_pos' (by omega)
      rw [eo, if_pos c0, h22, show (2 : Int32) = nI 2 from rfl, nI_add]
      have hM3 := Mx_21 hM2 (p + n + 2)
      unfold f_Mo_fieldLines
      obtain ⟨x', S5, w1', w2'⟩ := mo_line (st := 0) (pl := 1) (es := 0) (bl := bl) (sc := c) (fl := 0) (tl := 0) (cl := none) (ch := false) (bs := bs) (bf := bf) (Bk_fm hB hM3.1) hM3.2.1 (by omega) (by omega) hpn
      obtain ⟨y, S', u1, q, fl', cl2, ch2, u2, u3, u4, u5, u6⟩ := mo_fls0 hB (st := 0) (by omega) fu 0 (p + n + 2) none false _ x' S5 (by omega) (by unfold fu; omega) hpn hM3 (fun c h => by cases h) (fun h => by cases h) w2'
      have u1' : f_Mo_fieldLines_7 fu 0 0 x' S5 = some (y, S') := u1
      rw [w1']
      simp only [Option.bind_some]
      rw [u1']
      simp only [Option.bind_some]
      unfold f_Mo_head_65 sq
      rw [show fed - p - (n + 2) = fed - (p + n + 2) by omega, show p + (n + 2) = p + n + 2 by omega] at cut
      rcases u6 with ⟨rfl, y2, y3, y4⟩ | ⟨rfl, len, lf, ret, y2⟩ | ⟨rfl, len, lf, ret, y2⟩
      · rw [if_pos rfl]
        have cut2 := run_cut (B := B) (V := V) (k := q - p) (q := n + 2) (p := p) (by omega) (0, 0, 0, bl, 0, 0, 0, none, false, 0, z0, false, bs, bf)
        rw [hrun, hrd, hfs] at cut2
        refine ⟨1, _, rfl, Or.inl ⟨rfl, q, c, fl', cl2, ch2, Mx_24 u2 c, u3, by omega, by omega, u4, u5, by omega, y3, ?_⟩⟩
        rw [cut2, show q - p - (n + 2) = q - (p + n + 2) by omega, show p + (n + 2) = p + n + 2 by omega]
        exact y4
      · rw [if_neg (by decide)]
        exact ⟨0, _, rfl, Or.inr ⟨0, Or.inl ⟨rfl, rfl⟩, q, fl', cl2, ch2, Mx_24 u2 0, 1, c, len, lf, ret, by rw [cut]; exact y2⟩⟩
      · rw [if_neg (by decide)]
        exact ⟨-1, _, rfl, Or.inr ⟨3, Or.inr ⟨rfl, rfl⟩, q, fl', cl2, ch2, Mx_24 u2 0, 1, c, len, lf, ret, by rw [cut]; exact y2⟩⟩
  · rw [if_neg (by decide)]
    exact ⟨0, _, rfl, Or.inr ⟨0, Or.inl ⟨rfl, rfl⟩, p, 0, none, false, hM2, 0, 0, len, lf, ret, hrun⟩⟩
  · rw [if_neg (by decide)]
    exact ⟨-1, _, rfl, Or.inr ⟨3, Or.inr ⟨rfl, rfl⟩, p, 0, none, false, hM2, 0, 0, len, lf, ret, hrun⟩⟩
end MREAD
