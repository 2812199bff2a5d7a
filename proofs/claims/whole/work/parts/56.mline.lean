-- the reference's lines: a number, a field, the first line, a chunk's size
section MLINE
variable {S : zSt} {p n : Nat} {g : Nat → Nat}
theorem mo_cnt_lp (h : Lm S p n g) {e : Nat} (he : e ≤ n) : ∀ m i acc, i ≤ e → e - i + 1 < m → f_Mo_counted_26 m (nI (p + e)) (nI acc) 1 (nI (p + i)) S = some (oI (nuF (tat n g) (e - i) i acc)) := by
  have hp := h.2.2.1
  intro m
  induction m with
  | zero => intro i acc a b; omega
  | succ m ih =>
    intro i acc a b
    rw [f_Mo_counted_26]
    by_cases hi : e ≤ i
    · rw [if_pos ((nI_leI (by omega) (by omega)).mpr (by omega)), show e - i = 0 by omega]
      rfl
    · obtain ⟨e1, e2⟩ := h.2.2.2.2 i (by omega)
      obtain ⟨j, hj⟩ : ∃ j, e - i = j + 1 := ⟨e - i - 1, by omega⟩
      rw [if_neg (fun z => by have := (nI_leI (by omega) (by omega)).mp z; omega), if_neg (by decide), hj, nuF_s, tat_in (by omega)]
      simp (disch := omega) only [gdiN, nI_clamp, e1, mo_digit S, Option.bind_some, nI_1]
      cases hd : cDg (g i) with
      | false =>
        cases m with
        | zero => omega
        | succ m =>
          rw [f_Mo_counted_26]
          unfold f_Mo_counted_71
          simp [bI, oI]
      | true =>
        have hd2 : 48 ≤ g i ∧ g i ≤ 57 := by
          have : decide (48 ≤ g i ∧ g i ≤ 57) = true := hd
          simpa using this
        have ea : ((10 * nI acc) + nI (g i)) - 48 = nI (acc * 10 + g i - 48) := by
          rw [show (10 : Int32) = nI 10 from rfl, show (48 : Int32) = nI 48 from rfl, pk_mul, nI_add, pk_sub (by omega), Nat.mul_comm]
        have i1 := ih (i + 1) (acc * 10 + g i - 48) (by omega) (by omega)
        rw [show e - (i + 1) = j by omega] at i1
        rw [ea, if_pos rfl, show bI true = 1 from rfl, show p + i + 1 = p + (i + 1) by omega]
        exact i1
theorem mo_counted (h : Lm S p n g) {f e : Nat} (hf : f ≤ e) (he : e ≤ n) : f_Mo_counted (nI (p + f)) (nI (p + e)) S = some (oI (nuS (tat n g) f e)) := by
  have hp := h.2.2.1
  have zero : f_Mo_counted_20 (nI (p + f)) (nI (p + e)) 0 S = some (-1) := by
    unfold f_Mo_counted_20 f_Mo_counted_21
    rw [show fu = 3999 + 1 from rfl, f_Mo_counted_26]
    unfold f_Mo_counted_71
    simp
  unfold f_Mo_counted nuS
  rw [zero, pk_sub (by omega), show p + e - (p + f) = e - f by omega]
  have c1 : (nI (e - f) < 1) ↔ e - f < 1 := nI_ltI (b := 1) (by omega) (by omega)
  have c4 : (4 < nI (e - f)) ↔ 4 < e - f := nI_ltI (a := 4) (by omega) (by omega)
  simp only [c1, c4]
  by_cases h1 : e - f < 1
  · rw [if_pos h1, if_pos (Or.inl (by omega))]
    rfl
  · rw [if_neg h1]
    by_cases h4 : 4 < e - f
    · rw [if_pos h4, if_pos (Or.inr h4)]
      rfl
    · rw [if_neg h4, if_neg (by omega)]
      exact mo_cnt_lp h he fu f 0 hf (by unfold fu; have := h.2.2.2.1; omega)
theorem mo_115 (h : Lm S p n g) (a1 a2 : Int32) {f : Nat} (hf : f ≤ n) : ∀ m e, e ≤ n → e < m → f_Mo_fieldLine_115 m a1 a2 (nI (p + f)) (nI (p + e)) S = f_Mo_fieldLine_155 a1 a2 (nI (p + f)) (nI (p + ebF g f e)) S := by
  have hp := h.2.2.1
  intro m
  induction m with
  | zero => intro e a b; omega
  | succ m ih =>
    intro e a b
    rw [f_Mo_fieldLine_115]
    by_cases hi : e ≤ f
    · rw [if_pos ((nI_leI (by omega) (by omega)).mpr (by omega))]
      cases e with
      | zero => rfl
      | succ e =>
        unfold ebF
        rw [if_neg (by omega)]
    · rw [if_neg (fun z => by have := (nI_leI (by omega) (by omega)).mp z; omega)]
      cases e with
      | zero => omega
      | succ e =>
        have i1 := ih e (by omega) (by omega)
        obtain ⟨y1, y2⟩ := h.2.2.2.2 e (by omega)
        have c32 : (nI (g e) = 32) ↔ g e = 32 := nI_eq (b := 32) (by omega) (by omega)
        have c9 : (nI (g e) = 9) ↔ g e = 9 := nI_eq (b := 9) (by omega) (by omega)
        unfold f_Mo_fieldLine_149
        rw [show p + (e + 1) = (p + e) + 1 by omega, nI_pred, pk_m1]
        simp (disch := omega) only [gdiN, nI_clamp, y1, c32, c9, i1]
        unfold ebF
        have hcb : cBl (g e) = decide (g e = 32 ∨ g e = 9) := rfl
        by_cases h1 : g e = 32
        · rw [if_pos h1, if_pos ⟨by omega, by rw [hcb]; simp [h1]⟩]; cases e <;> rfl
        · rw [if_neg h1]
          by_cases h2 : g e = 9
          · rw [if_pos h2, if_pos ⟨by omega, by rw [hcb]; simp [h2]⟩]; cases e <;> rfl
          · rw [if_neg h2, if_neg (fun z => by have := z.2; rw [hcb] at this; simp [h1, h2] at this)]
            rfl
theorem mo_81 (h : Lm S p n g) (a1 a2 : Int32) : ∀ m i, i ≤ n → n - i < m → f_Mo_fieldLine_81 m a1 a2 (nI (p + i)) (nI (p + n)) S = f_Mo_fieldLine_115 fu a1 a2 (nI (p + sbF g (n - i) i)) (nI (p + n)) S := by
  have hp := h.2.2.1
  intro m
  induction m with
  | zero => intro i a b; omega
  | succ m ih =>
    intro i a b
    rw [f_Mo_fieldLine_81]
    by_cases hi : n ≤ i
    · rw [if_pos ((nI_leI (by omega) (by omega)).mpr (by omega)), show n - i = 0 by omega]
      rfl
    · rw [if_neg (fun z => by have := (nI_leI (by omega) (by omega)).mp z; omega)]
      obtain ⟨y1, y2⟩ := h.2.2.2.2 i (by omega)
      obtain ⟨j, hj⟩ : ∃ j, n - i = j + 1 := ⟨n - i - 1, by omega⟩
      have i1 := ih (i + 1) (by omega) (by omega)
      rw [show n - (i + 1) = j by omega] at i1
      have c32 : (nI (g i) = 32) ↔ g i = 32 := nI_eq (b := 32) (by omega) (by omega)
      have c9 : (nI (g i) = 9) ↔ g i = 9 := nI_eq (b := 9) (by omega) (by omega)
      have hcb : cBl (g i) = decide (g i = 32 ∨ g i = 9) := rfl
      unfold f_Mo_fieldLine_109
      rw [nI_1, show p + i + 1 = p + (i + 1) by omega, i1, hj, sbF_s]
      simp (disch := omega) only [gdiN, nI_clamp, y1, c32, c9]
      by_cases h1 : g i = 32
      · rw [if_pos h1, if_pos (by rw [hcb]; simp [h1])]
      · rw [if_neg h1]
        by_cases h2 : g i = 9
        · rw [if_pos h2, if_pos (by rw [hcb]; simp [h2])]
        · rw [if_neg h2, if_neg (by rw [hcb]; simp [h1, h2])]
/-- what a field's line does behind its colon -/
def flK (a1 : Int32) (p n : Nat) (g : Nat → Nat) (k : Nat) (S : zSt) : Option (Int32 × zSt) := f_Mo_fieldLine_155 a1 (nI (p + k)) (nI (p + sbF g (n - (k + 1)) (k + 1))) (nI (p + ebF g (sbF g (n - (k + 1)) (k + 1)) n)) S
def flO (a1 : Int32) (p n : Nat) (g : Nat → Nat) (o : Option Nat) (S : zSt) : Option (Int32 × zSt) := match o with
  | none => some (0, S)
  | some k => flK a1 p n g k S
theorem mo_5 (h : Lm S p n g) (a1 : Int32) : ∀ m i, i ≤ n → n - i < m → f_Mo_fieldLine_5 m a1 (nI (p + i)) S = flO a1 p n g (cbF g (n - i) i) S := by
  have hp := h.2.2.1
  have hn := h.2.2.2.1
  intro m
  induction m with
  | zero => intro i a b; omega
  | succ m ih =>
    intro i a b
    rw [f_Mo_fieldLine_5, h.2.1]
    have c21 : (nI (p + i) = nI p) ↔ p + i = p := nI_eq (by omega) (by omega)
    have c22 : (nI (p + i) = nI (p + n)) ↔ p + i = p + n := nI_eq (by omega) (by omega)
    by_cases hi : n ≤ i
    · rw [if_pos ((nI_leI (by omega) (by omega)).mpr (by omega)), show n - i = 0 by omega]
      unfold f_Mo_fieldLine_42
      rw [h.1, h.2.1]
      simp only [c21, c22, gdb_0]
      by_cases y : p + i = p
      · rw [if_pos y]; rfl
      · rw [if_neg y, if_pos (by omega)]; rfl
    · rw [if_neg (fun z => by have := (nI_leI (by omega) (by omega)).mp z; omega)]
      obtain ⟨y1, y2⟩ := h.2.2.2.2 i (by omega)
      obtain ⟨j, hj⟩ : ∃ j, n - i = j + 1 := ⟨n - i - 1, by omega⟩
      have i1 := ih (i + 1) (by omega) (by omega)
      rw [show n - (i + 1) = j by omega] at i1
      have c45 : (nI (g i) = 45) ↔ g i = 45 := nI_eq (b := 45) (by omega) (by omega)
      have c58 : (nI (g i) = 58) ↔ g i = 58 := nI_eq (b := 58) (by omega) (by omega)
      have out : ¬ (cLD (g i) = true ∨ g i = 45) → f_Mo_fieldLine_42 a1 (nI (p + i)) S = flO a1 p n g (cbF g (n - i) i) S := by
        intro hno
        unfold f_Mo_fieldLine_42
        rw [h.1, h.2.1, hj, cbF_s, if_neg hno]
        simp (disch := omega) only [c21, c22, gdb_0, gdiN, nI_clamp, y1, c58]
        by_cases z1 : p + i = p
        · rw [if_pos z1]
          by_cases z2 : g i = 58
          · rw [if_pos z2, if_neg (by omega)]; rfl
          · rw [if_neg z2]; rfl
        · rw [if_neg z1, if_neg (by omega)]
          by_cases z2 : g i = 58
          · rw [if_pos z2, if_pos z2, if_pos (by omega)]
            have hs := sbF_bd g (n - (i + 1)) (i + 1)
            rw [nI_1, show p + i + 1 = p + (i + 1) by omega, mo_81 h a1 _ fu (i + 1) (by omega) (by unfold fu; omega), mo_115 h a1 _ (by omega) fu n (by omega) (by unfold fu; omega)]
            rfl
          · rw [if_neg z2, if_neg z2]; rfl
      have on : (cLD (g i) = true ∨ g i = 45) → f_Mo_fieldLine_36 (f_Mo_fieldLine_5 m) a1 (nI (p + i)) S = flO a1 p n g (cbF g (n - i) i) S := by
        intro hyes
        have hn58 : ¬ g i = 58 := by
          intro z
          rcases hyes with y | y
          · rw [z] at y; exact absurd y (by decide)
          · omega
        unfold f_Mo_fieldLine_36
        rw [nI_1, show p + i + 1 = p + (i + 1) by omega, i1, hj, cbF_s, if_neg hn58, if_pos hyes]
      simp (disch := omega) only [gdiN, nI_clamp, y1, mo_ld S, Option.bind_some, bI_0, c45]
      cases hd : cLD (g i) with
      | true =>
        rw [if_neg (by decide)]
        exact on (Or.inl hd)
      | false =>
        rw [if_pos rfl]
        by_cases z : g i = 45
        · rw [if_pos z]; exact on (Or.inr z)
        · rw [if_neg z]; exact out (fun y => by rcases y with y | y; rw [hd] at y; cases y; exact z y)
theorem mo_fline (h : Lm S p n g) (a1 : Int32) : f_Mo_fieldLine a1 S = flO a1 p n g (cbF g n 0) S := by
  unfold f_Mo_fieldLine
  rw [h.1]
  exact mo_5 h a1 fu 0 (by omega) (by unfold fu; have := h.2.2.2.1; omega)
theorem wd_ex {k : Nat} (hw : wdS n g 0 k 16 = true) : wdS n g 0 k 17 = false := by
  unfold wdS at hw ⊢
  obtain ⟨l1, l2, l3, l4⟩ := lit_len
  rw [l1] at hw
  rw [l2]
  simp at hw
  simp
  omega
theorem mo_155_1 (h : Lm S p n g) {k : Nat} (hk : k ≤ n) (a3 a4 : Int32) : f_Mo_fieldLine_155 1 (nI (p + k)) a3 a4 S = some (bI (!wdS n g 0 k 16 && !wdS n g 0 k 17), S) := by
  unfold f_Mo_fieldLine_155 f_Mo_fieldLine_211
  have e16 : f_Mo_spelt (nI p) (nI (p + k)) (3275364211029340003 : Int64) (114849160783212 : Int64) 0 S = some (bI (wdS n g 0 k 16)) := sp_16 h (f := 0) (by omega) hk
  have e17 : f_Mo_spelt (nI p) (nI (p + k)) (8243107338930713204 : Int64) (7956000646299018541 : Int64) (103 : Int64) S = some (bI (wdS n g 0 k 17)) := sp_17 h (f := 0) (by omega) hk
  rw [h.1, e16, e17]
  simp only [Option.bind_some, bI_0, gdb_0, gdb_1]
  rw [if_neg (by decide)]
  cases wdS n g 0 k 16 <;> cases wdS n g 0 k 17 <;> simp [bI]
theorem mo_ftrail (h : Lm S p n g) : f_Mo_fieldLine 1 S = some (bI (ftS n g), S) := by
  rw [mo_fline h]
  unfold ftS
  cases hc : cbF g n 0 with
  | none => rfl
  | some k =>
    have := cbF_bd g _ _ _ hc
    exact mo_155_1 h (by omega) _ _
def frK (n : Nat) (g : Nat → Nat) (k f e : Nat) (cl : Option Nat) (ch : Bool) : Option (Option Nat × Bool) :=
    if wdS n g 0 k 16 = true then (match nuS (tat n g) f e with
      | none => none
      | some c => if ch = false ∧ (cl = none ∨ cl = some c) then some (some c, ch) else none)
    else if wdS n g 0 k 17 = true then (if wdS n g f e 18 = true ∧ ch = false ∧ cl = none then some (cl, true) else none)
    else some (cl, ch)
def frO (S : zSt) (o : Option (Option Nat × Bool)) : Option (Int32 × zSt) := match o with
  | none => some (0, S)
  | some (cl, ch) => some (1, su (su S 66 28 (oI cl)) 66 29 (bI ch))
theorem mo_155_0 (h : Lm S p n g) {k f e : Nat} (hk : k ≤ n) (hf : f ≤ e) (he : e ≤ n) {cl : Option Nat} {ch : Bool} (hcl : S 66 28 = oI cl) (hch : S 66 29 = bI ch) (hc4 : ∀ c, cl = some c → c < 10000) : f_Mo_fieldLine_155 0 (nI (p + k)) (nI (p + f)) (nI (p + e)) S = frO S (frK n g k f e cl ch) := by
  have e16 : f_Mo_spelt (nI p) (nI (p + k)) (3275364211029340003 : Int64) (114849160783212 : Int64) 0 S = some (bI (wdS n g 0 k 16)) := sp_16 h (f := 0) (by omega) hk
  have e17 : f_Mo_spelt (nI p) (nI (p + k)) (8243107338930713204 : Int64) (7956000646299018541 : Int64) (103 : Int64) S = some (bI (wdS n g 0 k 17)) := sp_17 h (f := 0) (by omega) hk
  have keep : some ((1 : Int32), S) = frO S (some (cl, ch)) := by
    unfold frO
    dsimp only
    rw [su_id hcl, su_id hch]
  unfold f_Mo_fieldLine_155 frK
  rw [h.1, e16, e17]
  simp only [Option.bind_some, bI_0, gdb_0, gdb_1, if_true]
  cases h16 : wdS n g 0 k 16 with
  | true =>
    have h17 := wd_ex h16
    rw [h17, if_neg (by decide), mo_counted h hf he]
    simp only [Option.bind_some, if_true]
    cases hn : nuS (tat n g) f e with
    | none => rw [if_pos (by decide)]; rfl
    | some c =>
      have hc := nuS_lt hn
      have eo : oI (some c) = nI c := rfl
      have cn : ¬ nI c < 0 := nI_pos (by omega)
      have put : ch = false → f_Mo_fieldLine_257 (nI (p + f)) (nI (p + e)) (bI false) (nI c) S = frO S (some (some c, ch)) := by
        intro hf2
        unfold f_Mo_fieldLine_257 f_Mo_fieldLine_263 sq frO
        dsimp only
        rw [if_pos (show bI false = 0 from rfl), gdb_1, su_id (i := 66) (k := 29) (by rw [su_ne (by omega)]; exact hch)]
        rfl
      dsimp only
      rw [eo, if_neg cn, hch, hcl]
      simp only [bI_0]
      cases ch with
      | true => simp [frO]
      | false =>
        rw [if_pos rfl]
        cases cl with
        | none =>
          rw [if_pos (by decide), put rfl]
          simp
        | some d =>
          have hd := hc4 d rfl
          have eo2 : oI (some d) = nI d := rfl
          have dn : ¬ nI d < 0 := nI_pos (by omega)
          have dc : (nI d = nI c) ↔ d = c := nI_eq (by omega) (by omega)
          rw [eo2, if_neg dn]
          simp only [dc]
          by_cases y : d = c
          · rw [if_pos y, put rfl]
            simp [y]
          · rw [if_neg y]
            simp [y, frO]
  | false =>
    rw [if_pos rfl]
    simp only [Bool.false_eq_true, if_false]
    unfold f_Mo_fieldLine_263
    simp only [bI_0, gdb_0, gdb_1, hch, hcl]
    cases h17 : wdS n g 0 k 17 with
    | false =>
      rw [if_pos rfl, if_neg (by decide)]
      exact keep
    | true =>
      rw [if_neg (by decide), if_pos rfl]
      cases ch with
      | true => simp [frO]
      | false =>
        rw [if_pos rfl]
        cases cl with
        | some d =>
          have hd := hc4 d rfl
          have eo2 : oI (some d) = nI d := rfl
          have dn : 0 ≤ nI d := nI_pos' (by omega)
          rw [eo2, if_pos dn]
          simp [frO]
        | none =>
          rw [if_neg (by decide), sp_18 h hf he]
          simp only [Option.bind_some, bI_0, sq]
          cases wdS n g f e 18 with
          | false => simp [frO]
          | true =>
            simp only [frO, Bool.true_eq_false, if_false, and_self, if_true]
            rw [su_id hcl]
            rfl
theorem mo_ffield (h : Lm S p n g) {cl : Option Nat} {ch : Bool} (hcl : S 66 28 = oI cl) (hch : S 66 29 = bI ch) (hc4 : ∀ c, cl = some c → c < 10000) : f_Mo_fieldLine 0 S = frO S (frS n g cl ch) := by
  rw [mo_fline h]
  unfold frS
  cases hc : cbF g n 0 with
  | none => rfl
  | some k =>
    have := cbF_bd g _ _ _ hc
    have hs := sbF_bd g (n - (k + 1)) (k + 1)
    have he := ebF_bd g (sbF g (n - (k + 1)) (k + 1)) n (by omega)
    exact mo_155_0 h (by omega) (by omega) (by omega) hcl hch hc4
theorem csF_in : ∀ m d acc, d ≤ n → (csF (tat n g) m d acc).1 ≤ n := by
  intro m
  induction m with
  | zero => intro d acc h; exact h
  | succ m ih =>
    intro d acc h
    rw [csF_s]
    by_cases z : cHx (tat n g d) = true
    · rw [if_pos z]
      refine ih (d + 1) _ ?_
      by_cases y : d < n
      · omega
      · unfold tat at z
        rw [if_neg y] at z
        exact absurd z (by decide)
    · rw [if_neg z]; exact h
theorem mo_cs_lp (h : Lm S p n g) : ∀ m d acc, d ≤ 3 → d ≤ n → 3 - d < m → f_Mo_chunkSize_7 m (nI (p + d)) (nI acc) S = f_Mo_chunkSize_76 (nI (p + (csF (tat n g) (3 - d) d acc).1)) (nI (csF (tat n g) (3 - d) d acc).2) S := by
  have hp := h.2.2.1
  intro m
  induction m with
  | zero => intro d acc a b c; omega
  | succ m ih =>
    intro d acc a b c
    rw [f_Mo_chunkSize_7, h.1, h.2.1, show (3 : Int32) = nI 3 from rfl, nI_add]
    by_cases hi : n ≤ d
    · rw [if_pos ((nI_leI (by omega) (by omega)).mpr (by omega))]
      have e : csF (tat n g) (3 - d) d acc = (d, acc) := by
        cases hj : 3 - d with
        | zero => rfl
        | succ j =>
          rw [csF_s, if_neg]
          unfold tat
          rw [if_neg (by omega)]
          decide
      rw [e]
    · rw [if_neg (fun z => by have := (nI_leI (by omega) (by omega)).mp z; omega)]
      by_cases h3 : 3 ≤ d
      · rw [if_pos ((nI_leI (by omega) (by omega)).mpr (by omega)), show 3 - d = 0 by omega]
        rfl
      · rw [if_neg (fun z => by have := (nI_leI (by omega) (by omega)).mp z; omega)]
        obtain ⟨y1, y2⟩ := h.2.2.2.2 d (by omega)
        obtain ⟨j, hj⟩ : ∃ j, 3 - d = j + 1 := ⟨3 - d - 1, by omega⟩
        have hlow := cLow_lt y2
        rw [hj, csF_s, tat_in (by omega)]
        simp (disch := omega) only [gdiN, nI_clamp, y1, mo_hex S, mo_lower S, Option.bind_some, bI_0]
        have c97 : (97 ≤ nI (cLow (g d))) ↔ 97 ≤ cLow (g d) := nI_leI (a := 97) (by omega) (by omega)
        simp only [c97]
        cases hx : cHx (g d) with
        | false => simp
        | true =>
          have hx2 : (48 ≤ g d ∧ g d ≤ 57) ∨ (97 ≤ g d ∧ g d ≤ 102) ∨ (65 ≤ g d ∧ g d ≤ 70) := by
            have : decide ((48 ≤ g d ∧ g d ≤ 57) ∨ (97 ≤ g d ∧ g d ≤ 102) ∨ (65 ≤ g d ∧ g d ≤ 70)) = true := hx
            simpa using this
          have i1 := ih (d + 1) (acc * 16 + hvN (g d)) (by omega) (by omega) (by omega)
          rw [show 3 - (d + 1) = j by omega] at i1
          rw [if_neg (by decide), if_pos rfl, ← i1]
          unfold f_Mo_chunkSize_68
          rw [nI_1, show p + d + 1 = p + (d + 1) by omega, show (16 : Int32) = nI 16 from rfl, pk_mul]
          rcases hx2 with y | y | y
          · have e : cLow (g d) = g d := by unfold cLow; rw [if_neg (by omega)]
            have e2 : hvN (g d) = g d - 48 := by unfold hvN; rw [if_pos (by omega)]
            rw [e, e2, if_neg (show ¬ 97 ≤ g d by omega), show (48 : Int32) = nI 48 from rfl, pk_sub (by omega), nI_add, Nat.mul_comm]
          · have e : cLow (g d) = g d := by unfold cLow; rw [if_neg (by omega)]
            have e2 : hvN (g d) = g d - 87 := by unfold hvN; rw [if_neg (by omega), if_neg (by omega)]
            rw [e, e2, if_pos (show 97 ≤ g d by omega), show (87 : Int32) = nI 87 from rfl, pk_sub (by omega), nI_add, Nat.mul_comm]
          · have e : cLow (g d) = g d + 32 := by unfold cLow; rw [if_pos (by omega)]
            have e2 : hvN (g d) = g d - 55 := by unfold hvN; rw [if_neg (by omega), if_pos (by omega)]
            rw [e, e2, if_pos (show 97 ≤ g d + 32 by omega), show (87 : Int32) = nI 87 from rfl, pk_sub (by omega), nI_add, Nat.mul_comm, show g d + 32 - 87 = g d - 55 by omega]
theorem mo_cs (h : Lm S p n g) : f_Mo_chunkSize S = some (oI (csS n g)) := by
  have hp := h.2.2.1
  have e := mo_cs_lp h fu 0 0 (by omega) (by omega) (by unfold fu; omega)
  have hle := csF_le (tat n g) 3 0 0
  have hin := csF_in (n := n) (g := g) 3 0 0 (by omega)
  unfold f_Mo_chunkSize csS
  rw [h.1]
  have e' : f_Mo_chunkSize_7 fu (nI p) 0 S = _ := e
  rw [e']
  generalize csF (tat n g) (3 - 0) 0 0 = dc at hle hin e ⊢
  unfold f_Mo_chunkSize_76 f_Mo_chunkSize_103 f_Mo_chunkSize_107
  rw [h.1, h.2.1]
  have c1 : (nI (p + dc.1) = nI p) ↔ p + dc.1 = p := nI_eq (by omega) (by omega)
  have c2 : (nI (p + n) ≤ nI (p + dc.1)) ↔ p + n ≤ p + dc.1 := nI_leI (by omega) (by omega)
  simp only [c1, c2]
  by_cases y0 : p + dc.1 = p
  · rw [if_pos y0, if_neg (fun z => by omega)]; rfl
  · rw [if_neg y0]
    by_cases y2 : p + n ≤ p + dc.1
    · rw [if_pos y2, if_pos ⟨by omega, Or.inl (by omega)⟩]; rfl
    · rw [if_neg y2]
      obtain ⟨z1, z2⟩ := h.2.2.2.2 dc.1 (by omega)
      have c59 : (nI (g dc.1) = 59) ↔ g dc.1 = 59 := nI_eq (b := 59) (by omega) (by omega)
      rw [gdiN (by omega) (by omega), nI_clamp (by omega), z1, tat_in (by omega)]
      simp only [c59]
      by_cases y3 : g dc.1 = 59
      · rw [if_pos y3, if_pos ⟨by omega, Or.inr y3⟩]; rfl
      · rw [if_neg y3, if_neg (fun z => z.2.elim (by omega) y3)]; rfl
theorem lit_15 : lN_ 15 0 = 72 ∧ lN_ 15 1 = 84 ∧ lN_ 15 2 = 84 ∧ lN_ 15 3 = 80 ∧ lN_ 15 4 = 47 ∧ lN_ 15 5 = 49 ∧ lN_ 15 6 = 46 ∧ lN_ 15 7 = 49 ∧ lN_ 15 8 = 32 := by decide +kernel
theorem fs_all (t : Nat → Nat) : (allF (fun i => decide (t i = lN_ 15 i)) 9 0 = true) ↔ (t 0 = 72 ∧ t 1 = 84 ∧ t 2 = 84 ∧ t 3 = 80 ∧ t 4 = 47 ∧ t 5 = 49 ∧ t 6 = 46 ∧ t 7 = 49 ∧ t 8 = 32) := by
  obtain ⟨l0, l1, l2, l3, l4, l5, l6, l7, l8⟩ := lit_15
  show ((decide (t 0 = lN_ 15 0) && (decide (t 1 = lN_ 15 1) && (decide (t 2 = lN_ 15 2) && (decide (t 3 = lN_ 15 3) && (decide (t 4 = lN_ 15 4) && (decide (t 5 = lN_ 15 5) && (decide (t 6 = lN_ 15 6) && (decide (t 7 = lN_ 15 7) && (decide (t 8 = lN_ 15 8) && true))))))))) = true) ↔ _
  rw [l0, l1, l2, l3, l4, l5, l6, l7, l8]
  simp
theorem fs_num (t : Nat → Nat) : nuS t 9 12 = if cDg (t 9) = true ∧ cDg (t 10) = true ∧ cDg (t 11) = true then some (((0 * 10 + t 9 - 48) * 10 + t 10 - 48) * 10 + t 11 - 48) else none := by
  unfold nuS
  rw [if_neg (by omega), show 12 - 9 = 0 + 1 + 1 + 1 from rfl, nuF_s, nuF_s, nuF_s]
  show (if cDg (t 9) = true then (if cDg (t 10) = true then (if cDg (t 11) = true then some _ else none) else none) else none) = _
  by_cases a : cDg (t 9) = true
  · by_cases b : cDg (t 10) = true
    · by_cases c : cDg (t 11) = true
      · simp [a, b, c]
      · simp [a, b, c]
    · simp [a, b]
  · simp [a]
theorem fs_if (n : Nat) (g : Nat → Nat) : fsS n g = if (tat n g 0 = 72 ∧ tat n g 1 = 84 ∧ tat n g 2 = 84 ∧ tat n g 3 = 80 ∧ tat n g 4 = 47 ∧ tat n g 5 = 49 ∧ tat n g 6 = 46 ∧ tat n g 7 = 49 ∧ tat n g 8 = 32) ∧ tat n g 12 = 32 ∧ (49 ≤ tat n g 9 ∧ tat n g 9 ≤ 53) ∧ (48 ≤ tat n g 10 ∧ tat n g 10 ≤ 57) ∧ (48 ≤ tat n g 11 ∧ tat n g 11 ≤ 57) then some (100 * (tat n g 9 - 48) + 10 * (tat n g 10 - 48) + tat n g 11 - 48) else none := by
  obtain ⟨-, -, -, l4⟩ := lit_len
  unfold fsS
  rw [fs_num, l4]
  simp only [fs_all]
  have d9 : (cDg (tat n g 9) = true) ↔ (48 ≤ tat n g 9 ∧ tat n g 9 ≤ 57) := by unfold cDg; simp
  have d10 : (cDg (tat n g 10) = true) ↔ (48 ≤ tat n g 10 ∧ tat n g 10 ≤ 57) := by unfold cDg; simp
  have d11 : (cDg (tat n g 11) = true) ↔ (48 ≤ tat n g 11 ∧ tat n g 11 ≤ 57) := by unfold cDg; simp
  simp only [d9, d10, d11]
  by_cases hd : (48 ≤ tat n g 9 ∧ tat n g 9 ≤ 57) ∧ (48 ≤ tat n g 10 ∧ tat n g 10 ≤ 57) ∧ (48 ≤ tat n g 11 ∧ tat n g 11 ≤ 57)
  · rw [if_pos hd]
    dsimp only
    by_cases hc : (tat n g 0 = 72 ∧ tat n g 1 = 84 ∧ tat n g 2 = 84 ∧ tat n g 3 = 80 ∧ tat n g 4 = 47 ∧ tat n g 5 = 49 ∧ tat n g 6 = 46 ∧ tat n g 7 = 49 ∧ tat n g 8 = 32) ∧ tat n g 12 = 32 ∧ (49 ≤ tat n g 9 ∧ tat n g 9 ≤ 53) ∧ (48 ≤ tat n g 10 ∧ tat n g 10 ≤ 57) ∧ (48 ≤ tat n g 11 ∧ tat n g 11 ≤ 57)
    · rw [if_pos hc, if_pos ⟨hc.1, hc.2.1, by omega, by omega⟩]
      congr 1
      omega
    · rw [if_neg hc, if_neg]
      rintro ⟨z1, z2, z3, z4⟩
      exact hc ⟨z1, z2, by omega, hd.2.1, hd.2.2⟩
  · rw [if_neg hd, if_neg]
    rintro ⟨z1, z2, z3, z4, z5⟩
    exact hd ⟨by omega, z4, z5⟩
theorem mo_first (h : Lm S p n g) : f_Mo_statusLine S = some (oI (fsS n g)) := by
  have hp := h.2.2.1
  unfold f_Mo_statusLine
  rw [fs_if, h.1, h.2.1, pk_sub (by omega), show p + n - p = n by omega]
  have c13 : (nI n < 13) ↔ n < 13 := nI_ltI (b := 13) (by omega) (by omega)
  simp only [c13]
  have no : f_Mo_statusLine_80 S = some (-1) := by
    unfold f_Mo_statusLine_80 f_Mo_statusLine_81
    rw [if_pos rfl]
  by_cases hn : n < 13
  · rw [if_pos hn, no, if_neg]
    · rfl
    · rintro ⟨-, z, -⟩
      unfold tat at z
      rw [if_neg (by omega)] at z
      omega
  · rw [if_neg hn]
    have F : ∀ i, i < 13 → nI p + nI i = nI (p + i) ∧ S 76 (p + i) = nI (g i) ∧ g i < 127 := fun i hi => ⟨nI_add _ _, h.2.2.2.2 i (by omega)⟩
    have T : ∀ i, i < 13 → tat n g i = g i := fun i hi => tat_in (by omega)
    rw [T 0 (by omega), T 1 (by omega), T 2 (by omega), T 3 (by omega), T 4 (by omega), T 5 (by omega), T 6 (by omega), T 7 (by omega), T 8 (by omega), T 9 (by omega), T 10 (by omega), T 11 (by omega), T 12 (by omega)]
    obtain ⟨-, x0, y0⟩ := F 0 (by omega)
    obtain ⟨w1, x1, y1⟩ := F 1 (by omega)
    obtain ⟨w2, x2, y2⟩ := F 2 (by omega)
    obtain ⟨w3, x3, y3⟩ := F 3 (by omega)
    obtain ⟨w4, -, -⟩ := F 4 (by omega)
    obtain ⟨w8, x8, y8⟩ := F 8 (by omega)
    obtain ⟨w9, x9, y9⟩ := F 9 (by omega)
    obtain ⟨w10, x10, y10⟩ := F 10 (by omega)
    obtain ⟨w11, x11, y11⟩ := F 11 (by omega)
    obtain ⟨w12, x12, y12⟩ := F 12 (by omega)
    rw [Nat.add_zero] at x0
    have u1 : nI p + 1 = nI (p + 1) := w1
    have u2 : nI p + 2 = nI (p + 2) := w2
    have u3 : nI p + 3 = nI (p + 3) := w3
    have u4 : nI p + 4 = nI (p + 4) := w4
    have u8 : nI p + 8 = nI (p + 8) := w8
    have u9 : nI p + 9 = nI (p + 9) := w9
    have u10 : nI p + 10 = nI (p + 10) := w10
    have u11 : nI p + 11 = nI (p + 11) := w11
    have u12 : nI p + 12 = nI (p + 12) := w12
    have k0 : (nI (g 0) = 72) ↔ g 0 = 72 := nI_eq (b := 72) (by omega) (by omega)
    have k1 : (nI (g 1) = 84) ↔ g 1 = 84 := nI_eq (b := 84) (by omega) (by omega)
    have k2 : (nI (g 2) = 84) ↔ g 2 = 84 := nI_eq (b := 84) (by omega) (by omega)
    have k3 : (nI (g 3) = 80) ↔ g 3 = 80 := nI_eq (b := 80) (by omega) (by omega)
    have k8 : (nI (g 8) = 32) ↔ g 8 = 32 := nI_eq (b := 32) (by omega) (by omega)
    have k12 : (nI (g 12) = 32) ↔ g 12 = 32 := nI_eq (b := 32) (by omega) (by omega)
    have k9 : (nI (g 9) < 49) ↔ g 9 < 49 := nI_ltI (b := 49) (by omega) (by omega)
    have k9' : (53 < nI (g 9)) ↔ 53 < g 9 := nI_ltI (a := 53) (by omega) (by omega)
    have d10 : (cDg (g 10) = false) ↔ ¬ (48 ≤ g 10 ∧ g 10 ≤ 57) := by unfold cDg; simp
    have d11 : (cDg (g 11) = false) ↔ ¬ (48 ≤ g 11 ∧ g 11 ≤ 57) := by unfold cDg; simp
    have dht : (decide (g 4 = 47 ∧ g 5 = 49 ∧ g 6 = 46 ∧ g 7 = 49) = false) ↔ ¬ (g 4 = 47 ∧ g 5 = 49 ∧ g 6 = 46 ∧ g 7 = 49) := by simp
    rw [gdiN (by omega) (by omega), nI_clamp (by omega), x0]
    simp only [k0]
    by_cases z0' : g 0 = 72
    rotate_left
    · rw [if_neg z0', no, if_neg (fun w => z0' w.1.1)]; rfl
    rw [if_pos z0', u1, gdiN (by omega) (by omega), nI_clamp (by omega), x1]
    simp only [k1]
    by_cases z1 : g 1 = 84
    rotate_left
    · rw [if_neg z1, no, if_neg (fun w => z1 w.1.2.1)]; rfl
    rw [if_pos z1, u2, gdiN (by omega) (by omega), nI_clamp (by omega), x2]
    simp only [k2]
    by_cases z2 : g 2 = 84
    rotate_left
    · rw [if_neg z2, no, if_neg (fun w => z2 w.1.2.2.1)]; rfl
    rw [if_pos z2, u3, gdiN (by omega) (by omega), nI_clamp (by omega), x3]
    simp only [k3]
    by_cases z3 : g 3 = 80
    rotate_left
    · rw [if_neg z3, no, if_neg (fun w => z3 w.1.2.2.2.1)]; rfl
    rw [if_pos z3]
    unfold f_Mo_statusLine_81 f_Mo_statusLine_238
    rw [if_neg (by decide), h.1, u4, u8, sp_ht h (by omega)]
    simp only [Option.bind_some, bI_0, dht]
    by_cases z4 : (g 4 = 47 ∧ g 5 = 49 ∧ g 6 = 46 ∧ g 7 = 49)
    rotate_left
    · rw [if_pos z4, if_neg (fun w => z4 ⟨w.1.2.2.2.2.1, w.1.2.2.2.2.2.1, w.1.2.2.2.2.2.2.1, w.1.2.2.2.2.2.2.2.1⟩)]; rfl
    rw [if_neg (fun z => z z4), gdiN (by omega) (by omega), nI_clamp (by omega), x8]
    simp only [k8]
    by_cases z8 : g 8 = 32
    rotate_left
    · rw [if_neg z8, if_neg (fun w => z8 w.1.2.2.2.2.2.2.2.2)]; rfl
    rw [if_pos z8, u12, gdiN (by omega) (by omega), nI_clamp (by omega), x12]
    simp only [k12]
    by_cases z12 : g 12 = 32
    rotate_left
    · rw [if_neg z12, if_neg (fun w => z12 w.2.1)]; rfl
    rw [if_pos z12, u9, u10, u11, gdiN (by omega) (by omega), gdiN (by omega) (by omega), gdiN (by omega) (by omega), nI_clamp (by omega), nI_clamp (by omega), nI_clamp (by omega), x9, x10, x11]
    simp only [k9, k9']
    by_cases z9 : g 9 < 49
    · rw [if_pos z9, if_neg (fun w => by have := w.2.2.1; omega)]; rfl
    rw [if_neg z9]
    by_cases z9' : 53 < g 9
    · rw [if_pos z9', if_neg (fun w => by have := w.2.2.1; omega)]; rfl
    rw [if_neg z9', mo_digit S (by omega), mo_digit S (by omega)]
    simp only [Option.bind_some, bI_0, d10, d11]
    by_cases z10 : 48 ≤ g 10 ∧ g 10 ≤ 57
    rotate_left
    · rw [if_pos z10, if_neg (fun w => z10 w.2.2.2.1)]; rfl
    rw [if_neg (fun z => z z10)]
    by_cases z11 : 48 ≤ g 11 ∧ g 11 ≤ 57
    rotate_left
    · rw [if_pos z11, if_neg (fun w => z11 w.2.2.2.2)]; rfl
    rw [if_neg (fun z => z z11), if_pos ⟨⟨z0', z1, z2, z3, z4.1, z4.2.1, z4.2.2.1, z4.2.2.2, z8⟩, z12, by omega, z10, z11⟩]
    have v1 : (100 : Int32) * (nI (g 9) - 48) = nI (100 * (g 9 - 48)) := by
      rw [show (100 : Int32) = nI 100 from rfl, show (48 : Int32) = nI 48 from rfl, pk_sub (by omega), pk_mul]
    have v2 : (10 : Int32) * (nI (g 10) - 48) = nI (10 * (g 10 - 48)) := by
      rw [show (10 : Int32) = nI 10 from rfl, show (48 : Int32) = nI 48 from rfl, pk_sub (by omega), pk_mul]
    rw [v1, v2, nI_add, nI_add, show (48 : Int32) = nI 48 from rfl, pk_sub (by omega)]
    rfl
end MLINE
