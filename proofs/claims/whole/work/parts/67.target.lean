-- the template's expansion, on either side
def Bz (n : Nat) (t : Nat → Nat) (q : Nat) (r : Int32) : Prop := r = -1 ∨ ∃ e, r = nI e ∧ q < e ∧ e ≤ n ∧ t (e - 1) = 125 ∧ ∀ j, q ≤ j → j < e - 1 → t j ≠ 125 ∧ t j ≠ 123
theorem Bz_up {n : Nat} {t : Nat → Nat} {q q' : Nat} {r : Int32} (h : Bz n t q' r) (hq : q ≤ q') (hj : ∀ j, q ≤ j → j < q' → t j ≠ 125 ∧ t j ≠ 123) : Bz n t q r := by
  rcases h with z | ⟨e, z1, z2, z3, z4, z5⟩
  · exact Or.inl z
  · refine Or.inr ⟨e, z1, by omega, z3, z4, fun j a b => ?_⟩
    by_cases y : j < q'
    · exact hj j a y
    · exact z5 j (by omega) b
section BZ
variable {S : zSt} {n : Nat} {t : Nat → Nat}
theorem tat_at {q x : Nat} (h : tat n t q = x) (hx : x ≠ 0) : q < n ∧ t q = x := by
  unfold tat at h
  by_cases z : q < n
  · rw [if_pos z] at h; exact ⟨z, h⟩
  · rw [if_neg z] at h; omega
theorem bz_102 (h : Tx S n t) {q k : Nat} (hq : q ≤ n + 1) (K : Int32 → Int32 → zSt → Option Int32) (hK : q < n → ∃ r, K (nI (q + 1)) (nI (k + 1)) S = some r ∧ Bz n t (q + 1) r) : ∃ r, f_Mo_behind_102 K (nI q) (nI k) S = some r ∧ Bz n t q r := by
  have hn := h.1
  have hl := tat_lt h q
  unfold f_Mo_behind_102
  rw [at_mo h (by omega)]
  simp only [Option.bind_some, nI_1]
  have c125 : (nI (tat n t q) = 125) ↔ tat n t q = 125 := nI_eq (b := 125) (by omega) (by omega)
  have c44 : (nI (tat n t q) = 44) ↔ tat n t q = 44 := nI_eq (b := 44) (by omega) (by omega)
  simp only [c125, c44]
  by_cases h1 : tat n t q = 125
  · obtain ⟨hqn, ht⟩ := tat_at h1 (by omega)
    rw [if_pos h1]
    exact ⟨nI (q + 1), rfl, Or.inr ⟨q + 1, rfl, by omega, by omega, ht, fun j a b => by omega⟩⟩
  · rw [if_neg h1]
    by_cases h2 : tat n t q = 44
    · obtain ⟨hqn, ht⟩ := tat_at h2 (by omega)
      rw [if_pos h2]
      obtain ⟨r, e1, e2⟩ := hK hqn
      exact ⟨r, e1, Bz_up e2 (by omega) (fun j a b => by
        have : j = q := by omega
        rw [this, ht]; omega)⟩
    · rw [if_neg h2]
      exact ⟨-1, rfl, Or.inl rfl⟩
theorem bz_loop (h : Tx S n t) : ∀ m k q, 40 - k < m → k ≤ 40 → 2 * k ≤ q → q ≤ n + 1 → ∃ r, f_Mo_behind_25 m (nI q) (nI k) S = some r ∧ Bz n t q r := by
  have hn := h.1
  intro m
  induction m with
  | zero => intro k q a; omega
  | succ m ih =>
    intro k q a b c d
    rw [f_Mo_behind_25]
    by_cases hk : 40 ≤ k
    · have z : (40 : Int32) ≤ nI k := (nI_leI (a := 40) (by omega) (by omega)).mpr hk
      rw [if_pos z]
      exact ⟨-1, rfl, Or.inl rfl⟩
    · have z : ¬ (40 : Int32) ≤ nI k := fun y => hk ((nI_leI (a := 40) (by omega) (by omega)).mp y)
      have l0 := tat_lt h q
      have l1 := tat_lt h (q + 1)
      have l2 := tat_lt h (q + 2)
      rw [if_neg z, at_mo h (by omega)]
      simp only [Option.bind_some]
      rw [mo_small S (by omega)]
      simp only [Option.bind_some, bI_0]
      cases hs : cSm (tat n t q) with
      | false =>
        rw [if_pos rfl]
        exact ⟨-1, rfl, Or.inl rfl⟩
      | true =>
        have hs2 : 97 ≤ tat n t q ∧ tat n t q ≤ 122 := by
          unfold cSm at hs
          simpa using hs
        obtain ⟨hqn, htq⟩ := tat_at (n := n) (t := t) (q := q) (x := tat n t q) rfl (by omega)
        rw [if_neg (by simp)]
        simp only [nI_1]
        rw [at_mo h (by omega), show nI (q + 1) + 2 = nI (q + 3) from nI_add _ 2, at_mo h (by omega)]
        simp only [Option.bind_some, show q + 1 + 1 = q + 2 from rfl]
        have c42 : (nI (tat n t (q + 1)) = 42) ↔ tat n t (q + 1) = 42 := nI_eq (b := 42) (by omega) (by omega)
        have c58 : (nI (tat n t (q + 1)) = 58) ↔ tat n t (q + 1) = 58 := nI_eq (b := 58) (by omega) (by omega)
        have c49 : (nI (tat n t (q + 2)) < 49) ↔ tat n t (q + 2) < 49 := nI_ltI (b := 49) (by omega) (by omega)
        have c57 : (nI (tat n t (q + 2)) ≤ 57) ↔ tat n t (q + 2) ≤ 57 := nI_leI (b := 57) (by omega) (by omega)
        simp only [c42, c58, c49, c57]
        by_cases h1 : tat n t (q + 1) = 42
        · rw [if_pos h1]
          obtain ⟨hq1, ht⟩ := tat_at h1 (by omega)
          obtain ⟨r, e1, e2⟩ := bz_102 h (q := q + 2) (k := k) (by omega) (f_Mo_behind_25 m) (fun z => ih (k + 1) (q + 2 + 1) (by omega) (by omega) (by omega) (by omega))
          refine ⟨r, e1, Bz_up e2 (by omega) (fun j a b => ?_)⟩
          by_cases y : j = q
          · rw [y]; omega
          · rw [show j = q + 1 by omega]; omega
        · rw [if_neg h1]
          by_cases h2 : tat n t (q + 1) = 58
          · rw [if_pos h2]
            obtain ⟨hq1, ht⟩ := tat_at h2 (by omega)
            by_cases h3 : tat n t (q + 2) < 49
            · rw [if_pos h3]
              exact ⟨-1, rfl, Or.inl rfl⟩
            · rw [if_neg h3]
              obtain ⟨hq2, ht2⟩ := tat_at (n := n) (t := t) (q := q + 2) (x := tat n t (q + 2)) rfl (by omega)
              by_cases h4 : tat n t (q + 2) ≤ 57
              · rw [if_pos h4]
                obtain ⟨r, e1, e2⟩ := bz_102 h (q := q + 3) (k := k) (by omega) (f_Mo_behind_25 m) (fun z => ih (k + 1) (q + 3 + 1) (by omega) (by omega) (by omega) (by omega))
                refine ⟨r, e1, Bz_up e2 (by omega) (fun j a b => ?_)⟩
                by_cases y : j = q
                · rw [y]; omega
                · by_cases y2 : j = q + 1
                  · rw [y2]; omega
                  · rw [show j = q + 2 by omega]; omega
              · rw [if_neg h4]
                exact ⟨-1, rfl, Or.inl rfl⟩
          · rw [if_neg h2]
            obtain ⟨r, e1, e2⟩ := bz_102 h (q := q + 1) (k := k) (by omega) (f_Mo_behind_25 m) (fun z => ih (k + 1) (q + 1 + 1) (by omega) (by omega) (by omega) (by omega))
            refine ⟨r, e1, Bz_up e2 (by omega) (fun j a b => ?_)⟩
            rw [show j = q by omega]; omega
theorem bz_mo (h : Tx S n t) {p : Nat} (hp : p < n) : ∃ r, f_Mo_behind (nI p) S = some r ∧ Bz n t (p + 1) r := by
  have hn := h.1
  have l1 := tat_lt h (p + 1)
  unfold f_Mo_behind f_Mo_behind_22
  rw [nI_1, at_mo h (by omega)]
  simp only [Option.bind_some]
  rw [mo_op S (by omega)]
  simp only [Option.bind_some, bI_0]
  cases ho : cOp (tat n t (p + 1)) with
  | true =>
    have ho2 : tat n t (p + 1) ≠ 0 ∧ tat n t (p + 1) ≠ 125 ∧ tat n t (p + 1) ≠ 123 := by
      unfold cOp at ho
      simp at ho
      omega
    obtain ⟨hq1, ht⟩ := tat_at (n := n) (t := t) (q := p + 1) (x := tat n t (p + 1)) rfl ho2.1
    rw [if_neg (by simp), show nI p + 2 = nI (p + 2) from nI_add _ 2]
    obtain ⟨r, e1, e2⟩ := bz_loop h fu 0 (p + 2) (by unfold fu; omega) (by omega) (by omega) (by omega)
    refine ⟨r, e1, Bz_up e2 (by omega) (fun j a b => ?_)⟩
    rw [show j = p + 1 by omega, ht]
    exact ho2.2
  | false =>
    rw [if_pos rfl]
    exact bz_loop h fu 0 (p + 1) (by unfold fu; omega) (by omega) (by omega) (by omega)
/-- an expression of a well-formed template -/
theorem ex_end (h : Tx S n t) {p : Nat} (hp : p < n) (hb : t p = 123) (hw : rn t (n - p) 0 p = 0) : ∃ e, f_Mo_behind (nI p) S = some (nI e) ∧ p + 1 < e ∧ e ≤ n ∧ t (e - 1) = 125 ∧ (∀ j, p + 1 ≤ j → j < e - 1 → t j ≠ 125 ∧ t j ≠ 123) ∧ rn t (n - e) 0 e = 0 := by
  have hn := h.1
  obtain ⟨r, a1, a2⟩ := bh_mo h hp hb
  obtain ⟨r', b1, b2⟩ := bz_mo h hp
  have hr : r = r' := by rw [a1] at b1; exact Option.some.inj b1
  subst hr
  rcases a2 with ⟨-, z⟩ | ⟨e, z1, z2, z3, z4⟩
  · exact absurd hw z
  · rcases b2 with y | ⟨e', y1, y2, y3, y4, y5⟩
    · exfalso
      rw [y] at z1
      have : ¬ (nI e : Int32) < 0 := nI_pos (by omega)
      rw [← z1] at this
      exact this (by decide)
    · have he : e = e' := by
        rw [z1] at y1
        exact (nI_eq (by omega) (by omega)).mp y1
      subst he
      exact ⟨e, by rw [a1, z1], y2, y3, y4, y5, by rw [← z4]; exact hw⟩
theorem dg_of : ∀ k p i, p ≤ 6 → rn t k p i = 0 → ∀ j, i ≤ j → j < i + k → t j = 58 → j + 1 < i + k ∧ 49 ≤ t (j + 1) ∧ t (j + 1) ≤ 57 := by
  have p58 : ∀ p, p ≤ 6 → p ≠ 3 → pl p 58 = 6 := by decide
  have p358 : pl 3 58 = 4 := by decide
  intro k
  induction k with
  | zero => intro p i hp h j a b; omega
  | succ k ih =>
    intro p i hp h j a b c
    have hs : rn t (k + 1) p i = rn t k (pl p (t i)) (i + 1) := rfl
    rw [hs] at h
    by_cases y : j = i
    · subst y
      rw [c] at h
      by_cases y3 : p = 3
      · subst y3
        rw [p358] at h
        cases k with
        | zero =>
          have h40 : (4 : Nat) = 0 := h
          omega
        | succ k =>
          have hs2 : rn t (k + 1) 4 (j + 1) = rn t k (pl 4 (t (j + 1))) (j + 1 + 1) := rfl
          rw [hs2] at h
          refine ⟨by omega, ?_⟩
          by_cases y4 : t (j + 1) < 49 ∨ 57 < t (j + 1)
          · exfalso
            have : pl 4 (t (j + 1)) = 6 := by
              unfold pl
              rw [if_neg (by decide), if_neg (by decide), if_neg (by decide), if_neg (by decide), if_pos rfl, if_pos y4]
            rw [this, rn_6] at h
            cases h
          · omega
      · rw [p58 p hp y3, rn_6] at h
        cases h
    · have := ih _ (i + 1) (pl_le p (t i)) h j (by omega) (by omega) c
      omega
theorem dgH_of (h : rn t n 0 0 = 0) : dgH n t := by
  intro j hj
  obtain ⟨hjn, ht⟩ := tat_at hj (by omega)
  have := dg_of n 0 0 (by omega) h j (by omega) (by omega) ht
  rw [tat_in (by omega)]
  omega
end BZ
def opN (n : Nat) (t : Nat → Nat) (pos : Nat) : Nat := if cOp (tat n t (pos + 1)) = true then tat n t (pos + 1) else 0
theorem opN_ok (n : Nat) (t : Nat → Nat) (pos : Nat) : okO (opN n t pos) := by
  unfold opN okO
  by_cases h : cOp (tat n t (pos + 1)) = true
  · rw [if_pos h]
    unfold cOp at h
    simp at h
    omega
  · rw [if_neg h]; exact Or.inl rfl
def sbL (op : Nat) (st : Bool) : List Nat := if st = true then [brN op] else if op ≠ 0 ∧ op ≠ 43 then [op] else []
section TGT
variable (n c : Nat) (t kd lt ct il : Nat → Nat) (ic : Nat → Nat → Nat)
def vkF (pos : Nat) : Option Nat := if cSm (t pos) = true then (match nmF kd lt (t pos) c 0 with
  | none => none
  | some k => if ct k = 0 then none else some k) else none
def pcL (pos : Nat) (st : Bool) (op : Nat) : List Nat := match vkF c t kd lt ct pos with
  | none => []
  | some k => sbL op st ++ vF il ic (spB n t pos) (mxB n t pos) op k (ct k) (t pos) 3 0
def clF : Nat → Nat → Bool → Bool → Nat → List Nat
  | 0, _, _, _, _ => []
  | q + 1, pos, ins, st, op =>
    if t pos = 123 then clF q (pos + 1) true false (opN n t pos)
    else if t pos = 125 then clF q (pos + 1) false st op
    else if ins = false then [t pos] ++ clF q (pos + 1) ins st op
    else pcL n c t kd lt ct il ic pos st op ++ clF q (pos + 1) ins (st || (vkF c t kd lt ct pos).isSome) op
theorem clF_s (q pos : Nat) (ins st : Bool) (op : Nat) : clF n c t kd lt ct il ic (q + 1) pos ins st op = if t pos = 123 then clF n c t kd lt ct il ic q (pos + 1) true false (opN n t pos)
    else if t pos = 125 then clF n c t kd lt ct il ic q (pos + 1) false st op
    else if ins = false then [t pos] ++ clF n c t kd lt ct il ic q (pos + 1) ins st op
    else pcL n c t kd lt ct il ic pos st op ++ clF n c t kd lt ct il ic q (pos + 1) ins (st || (vkF c t kd lt ct pos).isSome) op := rfl
def exL (op : Nat) : Nat → Nat → Bool → List Nat
  | 0, _, _ => []
  | d + 1, pos, st => pcL n c t kd lt ct il ic pos st op ++ exL op d (pos + 1) (st || (vkF c t kd lt ct pos).isSome)
theorem exL_s (op d pos : Nat) (st : Bool) : exL n c t kd lt ct il ic op (d + 1) pos st = pcL n c t kd lt ct il ic pos st op ++ exL n c t kd lt ct il ic op d (pos + 1) (st || (vkF c t kd lt ct pos).isSome) := rfl
theorem clF_ind : ∀ q pos st op st' op', clF n c t kd lt ct il ic q pos false st op = clF n c t kd lt ct il ic q pos false st' op' := by
  intro q
  induction q with
  | zero => intro pos st op st' op'; rfl
  | succ q ih =>
    intro pos st op st' op'
    rw [clF_s, clF_s, if_pos (show false = false from rfl), if_pos (show false = false from rfl), ih (pos + 1) st op st' op']
theorem clF_ex {e : Nat} (he : e ≤ n) (h125 : t (e - 1) = 125) (op : Nat) : ∀ d pos st, pos + d + 1 = e → (∀ j, pos ≤ j → j < e - 1 → t j ≠ 125 ∧ t j ≠ 123) → clF n c t kd lt ct il ic (n - pos) pos true st op = exL n c t kd lt ct il ic op d pos st ++ clF n c t kd lt ct il ic (n - e) e false false 0 := by
  intro d
  induction d with
  | zero =>
    intro pos st h1 h2
    have hpe : pos = e - 1 := by omega
    rw [show n - pos = (n - e) + 1 by omega, clF_s, hpe, h125, if_neg (by decide), if_pos rfl, show e - 1 + 1 = e by omega, clF_ind _ _ _ _ _ _ _ _ _ _ _ _ false 0]
    rfl
  | succ d ih =>
    intro pos st h1 h2
    obtain ⟨n1, n2⟩ := h2 pos (by omega) (by omega)
    rw [show n - pos = (n - (pos + 1)) + 1 by omega, clF_s, if_neg n2, if_neg n1, if_neg (by decide), ih (pos + 1) _ (by omega) (fun j a b => h2 j (by omega) b), exL_s, List.append_assoc]
end TGT
theorem nmF_let {kd lt : Nat → Nat} {l : Nat} : ∀ m k j, nmF kd lt l m k = some j → lt j = l := by
  intro m
  induction m with
  | zero => intro k j h; cases h
  | succ m ih =>
    intro k j h
    rw [nmF_s] at h
    by_cases z : kd k ≤ 1 ∧ lt k = l
    · rw [if_pos z] at h; cases h; exact z.2
    · rw [if_neg z] at h; exact ih _ _ h
section TGTC
variable {n c : Nat} {t kd lt ct il : Nat → Nat} {ic : Nat → Nat → Nat}
theorem cl_sob {k1 : Nat} (hk1 : k1 < 4) {S : zSt} {op : Nat} (ho : okO op) (st : Bool) : Pc k1 S (sbL op st) (f_RequestWriter_putStartOrBreak k1 (nI (ocN op)) (bI st) S) := by
  unfold f_RequestWriter_putStartOrBreak sbL
  rw [cl_swi S ho, cl_break S ho]
  simp only [bI_0, Option.bind_some]
  cases st with
  | true =>
    rw [if_pos (show true = true from rfl), if_neg (show ¬ (true = false) by decide)]
    exact Pc_end (Pc_put hk1 (br_lt ho).1)
  | false =>
    rw [if_neg (show ¬ (false = true) by decide), if_pos (show false = false from rfl)]
    by_cases y : op ≠ 0 ∧ op ≠ 43
    · have e : ocN op = op := by unfold ocN; rw [if_neg y.1]
      rw [if_pos y, if_neg (show ¬ (decide (op ≠ 0 ∧ op ≠ 43) = false) by simp [y]), e]
      exact Pc_end (Pc_put hk1 (br_lt ho).2.2)
    · rw [if_neg y, if_pos (show decide (op ≠ 0 ∧ op ≠ 43) = false from decide_eq_false y)]
      exact Pc_nil
theorem cl_exp {k1 : Nat} (hk1 : k1 < 4) (hd : dgH n t) : ∀ q m pos ins st op S, Ro S n c t kd lt ct il ic → pos ≤ n → q = n - pos → q < m → okO op → Pc k1 S (clF n c t kd lt ct il ic q pos ins st op) (f_RequestWriter_putExpanded_11 m k1 (bI ins) (bI st) (nI (ocN op)) (nI pos) S) := by
  intro q
  induction q with
  | zero =>
    intro m pos ins st op S h hp h1 h2 ho
    obtain ⟨m, rfl⟩ : ∃ i, m = i + 1 := ⟨m - 1, by omega⟩
    have hn := h.1.1
    rw [f_RequestWriter_putExpanded_11, h.1.2.1, if_pos ((nI_leI (by omega) (by omega)).mpr (by omega))]
    exact Pc_nil
  | succ q ih =>
    intro m pos ins st op S h hp h1 h2 ho
    obtain ⟨m, rfl⟩ : ∃ i, m = i + 1 := ⟨m - 1, by omega⟩
    have hT := h.1
    have hn := hT.1
    obtain ⟨-, -, l1, l2⟩ := hT.2.2.2 pos (by omega)
    have l3 := tat_lt hT (pos + 1)
    rw [f_RequestWriter_putExpanded_11, hT.2.1, if_neg (fun y => by have := (nI_leI (by omega) (by omega)).mp y; omega), at_cls hT (by omega), tat_in (by omega), clF_s]
    simp only [Option.bind_some]
    have c123 : (nI (t pos) = 123) ↔ t pos = 123 := nI_eq (b := 123) (by omega) (by omega)
    have c125 : (nI (t pos) = 125) ↔ t pos = 125 := nI_eq (b := 125) (by omega) (by omega)
    simp only [c123, c125]
    have go : ∀ ins' st' op' S', Fp k1 S S' → okO op' → Pc k1 S' (clF n c t kd lt ct il ic q (pos + 1) ins' st' op') (f_RequestWriter_putExpanded_136 (f_RequestWriter_putExpanded_11 m) k1 (bI ins') (bI st') (nI (ocN op')) (nI pos) S') := by
      intro ins' st' op' S' f1 ho'
      unfold f_RequestWriter_putExpanded_136
      rw [nI_1]
      exact ih m (pos + 1) ins' st' op' S' (Ro_fp hk1 h f1) (by omega) (by omega) (by omega) ho'
    by_cases y1 : t pos = 123
    · rw [if_pos y1, if_pos y1]
      have eop : f_PathTemplate_operatorBehind (nI pos) S = some (nI (ocN (opN n t pos))) := by
        unfold f_PathTemplate_operatorBehind opN
        rw [nI_1, at_cls hT (by omega)]
        simp only [Option.bind_some]
        rw [ch_op S (by omega)]
        simp only [Option.bind_some, bI_0]
        cases hc : cOp (tat n t (pos + 1)) with
        | false => rw [if_pos rfl, if_neg (by decide)]; rfl
        | true =>
          have : tat n t (pos + 1) ≠ 0 := by
            intro z
            rw [z] at hc
            exact absurd hc (by decide)
          rw [if_neg (by decide), if_pos rfl, gdcN (by omega)]
          unfold ocN
          rw [if_neg this]
      rw [eop]
      simp only [Option.bind_some]
      exact go true false _ S Fp_rf (opN_ok n t pos)
    · rw [if_neg y1, if_neg y1]
      by_cases y2 : t pos = 125
      · rw [if_pos y2, if_pos y2]
        exact go false st op S Fp_rf ho
      · rw [if_neg y2, if_neg y2]
        simp only [bI_0]
        cases hins : ins with
        | false =>
          rw [if_pos rfl, if_pos rfl]
          exact Pc_bind (Pc_put hk1 (by omega)) (fun S1 f1 => go false st op S1 f1 ho)
        | true =>
          rw [if_neg (by decide), if_neg (by decide), ch_small S (by omega)]
          simp only [Option.bind_some, bI_0]
          have skip : vkF c t kd lt ct pos = none → Pc k1 S (pcL n c t kd lt ct il ic pos st op ++ clF n c t kd lt ct il ic q (pos + 1) true (st || (vkF c t kd lt ct pos).isSome) op) (f_RequestWriter_putExpanded_136 (f_RequestWriter_putExpanded_11 m) k1 (bI true) (bI st) (nI (ocN op)) (nI pos) S) := by
            intro hv
            unfold pcL
            rw [hv]
            simp only [Option.isSome_none, Bool.or_false, List.nil_append]
            exact go true st op S Fp_rf ho
          cases hs : cSm (t pos) with
          | false =>
            rw [if_pos rfl]
            exact skip (by unfold vkF; rw [hs]; rfl)
          | true =>
            rw [if_neg (by decide), of_cls h.2.1 (by omega)]
            simp only [Option.bind_some]
            cases hm : nmF kd lt (t pos) c 0 with
            | none =>
              exact skip (by unfold vkF; rw [hs, hm]; rfl)
            | some k =>
              have hkc := nmF_lt _ _ _ hm
              have hlet := nmF_let _ _ _ hm
              have hc6 := h.2.1.1
              obtain ⟨q1, q2, q3⟩ := h.2.2.1 k (by omega)
              have ck : (nI (ct k) ≤ 0) ↔ ct k ≤ 0 := nI_leI (b := 0) (by omega) (by omega)
              dsimp only
              rw [gdnN (by omega), q1]
              simp only [ck]
              by_cases yc : ct k = 0
              · rw [if_pos (by omega)]
                exact skip (by unfold vkF; rw [hs, hm]; simp [yc])
              · have hv : vkF c t kd lt ct pos = some k := by unfold vkF; rw [hs, hm]; simp [yc]
                rw [if_neg (by omega)]
                unfold pcL
                rw [hv]
                simp only [Option.isSome_some, Bool.or_true]
                rw [List.append_assoc]
                refine Pc_bind (cl_sob hk1 ho st) (fun S1 f1 => ?_)
                rw [← hlet]
                refine Pc_bind (cl_var hk1 (Ro_fp hk1 h f1) hd ho (by omega) (by omega)) (fun S2 f2 => ?_)
                exact go true true op S2 (Fp_tr f1 f2) ho
end TGTC
section TGTM
variable {n c : Nat} {t kd lt ct il : Nat → Nat} {ic : Nat → Nat → Nat} {as : Bool}
theorem mo_exp (hd : dgH n t) {op e : Nat} (ho : okO op) (he : e ≤ n) (h125 : t (e - 1) = 125) : ∀ d m pos st S, Ro S n c t kd lt ct il ic → pos + d + 1 = e → d + 1 < m → (∀ j, pos ≤ j → j < e - 1 → t j ≠ 125 ∧ t j ≠ 123) → Pu as S (exL n c t kd lt ct il ic op d pos st) (f_Mo_expression_41 m (nI op) (nI e) (bI (!st)) (nI pos) S) := by
  intro d
  induction d with
  | zero =>
    intro m pos st S h h1 h2 h3
    have hn := h.1.1
    obtain ⟨m, rfl⟩ : ∃ i, m = i + 1 + 1 := ⟨m - 2, by omega⟩
    have hpe : pos = e - 1 := by omega
    obtain ⟨-, a67, -, -⟩ := h.1.2.2.2 pos (by omega)
    have ht : t pos = 125 := by rw [hpe]; exact h125
    rw [f_Mo_expression_41, if_neg (fun y => by have := (nI_leI (by omega) (by omega)).mp y; omega), gdiN (by omega) (by omega), nI_clamp (by omega), a67, ht, mo_small S (by omega)]
    simp only [Option.bind_some]
    rw [if_pos (by decide)]
    unfold f_Mo_expression_75 f_Mo_expression_278
    rw [if_pos (by decide), nI_1, f_Mo_expression_41, if_pos ((nI_leI (by omega) (by omega)).mpr (by omega))]
    exact Pu_nil
  | succ d ih =>
    intro m pos st S h h1 h2 h3
    have hT := h.1
    have hn := hT.1
    obtain ⟨m, rfl⟩ : ∃ i, m = i + 1 := ⟨m - 1, by omega⟩
    obtain ⟨-, a67, l1, l2⟩ := hT.2.2.2 pos (by omega)
    have next : ∀ st' S', Fo as S S' → Pu as S' (exL n c t kd lt ct il ic op d (pos + 1) st') (f_Mo_expression_41 m (nI op) (nI e) (bI (!st')) (nI (pos + 1)) S') := fun st' S' f1 => ih m (pos + 1) st' S' (Ro_fo h f1) (by omega) (by omega) (fun j a b => h3 j (by omega) b)
    rw [f_Mo_expression_41, if_neg (fun y => by have := (nI_leI (by omega) (by omega)).mp y; omega), gdiN (by omega) (by omega), nI_clamp (by omega), a67, mo_small S (by omega), exL_s]
    simp only [Option.bind_some, bI_0]
    have skip : vkF c t kd lt ct pos = none → ∀ (S1 : zSt), S1 = S → Pu as S (pcL n c t kd lt ct il ic pos st op ++ exL n c t kd lt ct il ic op d (pos + 1) (st || (vkF c t kd lt ct pos).isSome)) (f_Mo_expression_278 (f_Mo_expression_41 m) (nI op) (nI e) (bI (!st)) (nI pos) S) := by
      intro hv S1 _
      unfold pcL f_Mo_expression_278
      rw [hv]
      simp only [Option.isSome_none, Bool.or_false, List.nil_append]
      rw [nI_1]
      exact next st S Fo_rf
    cases hs : cSm (t pos) with
    | false =>
      rw [if_pos rfl]
      unfold f_Mo_expression_75
      rw [if_pos (by decide)]
      exact skip (by unfold vkF; rw [hs]; rfl) S rfl
    | true =>
      rw [if_neg (by decide), gdiN (by omega) (by omega), nm_mo h.2.1 (by omega)]
      simp only [Option.bind_some]
      cases hm : nmF kd lt (t pos) c 0 with
      | none =>
        unfold f_Mo_expression_75
        rw [if_pos (by decide)]
        exact skip (by unfold vkF; rw [hs, hm]; rfl) S rfl
      | some k =>
        have hkc := nmF_lt _ _ _ hm
        have hc6 := h.2.1.1
        have eo : oI (some k) = nI k := rfl
        obtain ⟨q1, q2, q3⟩ := h.2.2.1 k (by omega)
        have ck : (nI (ct k) ≤ 0) ↔ ct k ≤ 0 := nI_leI (b := 0) (by omega) (by omega)
        unfold f_Mo_expression_75
        rw [eo, if_neg (nI_pos (by omega)), gdiN (by omega) (by omega), nI_clamp (by omega), q2]
        simp only [ck]
        by_cases yc : ct k = 0
        · rw [if_pos (by omega)]
          exact skip (by unfold vkF; rw [hs, hm]; simp [yc]) S rfl
        · have hv : vkF c t kd lt ct pos = some k := by unfold vkF; rw [hs, hm]; simp [yc]
          rw [if_neg (by omega)]
          unfold pcL
          rw [hv]
          simp only [Option.isSome_some, Bool.or_true]
          have var : ∀ S', Fo as S S' → Pu as S' (vF il ic (spB n t pos) (mxB n t pos) op k (ct k) (t pos) 3 0 ++ exL n c t kd lt ct il ic op d (pos + 1) true) (f_Mo_expression_120 (f_Mo_expression_41 m) (nI op) (nI e) (nI pos) (nI k) S') := fun S' f1 => mo_var (Ro_fo h f1) hd ho (by omega) (by omega) (by omega) (f_Mo_expression_41 m) (fun S2 f2 => next true S2 (Fo_tr f1 f2))
          have c0 : (nI op = 0) ↔ op = 0 := op_eq (b := 0) ho (by omega)
          have c43 : (nI op = 43) ↔ op = 43 := op_eq (b := 43) ho (by omega)
          simp only [bI_0, c0, c43]
          rw [List.append_assoc]
          unfold sbL
          cases st with
          | true =>
            rw [if_pos (show true = true from rfl), if_pos (show (!true) = false from rfl)]
            exact Pu_bind (mo_between ho) var
          | false =>
            rw [if_neg (show ¬ (false = true) by decide), if_neg (show ¬ ((!false) = false) by decide)]
            by_cases y0 : op = 0
            · rw [if_neg (show ¬ (op ≠ 0 ∧ op ≠ 43) from fun w => w.1 y0), if_pos y0, List.nil_append]
              exact var S Fo_rf
            · by_cases y1 : op = 43
              · rw [if_neg (show ¬ (op ≠ 0 ∧ op ≠ 43) from fun w => w.2 y1), if_neg y0, if_pos y1, List.nil_append]
                exact var S Fo_rf
              · rw [if_pos (show op ≠ 0 ∧ op ≠ 43 from ⟨y0, y1⟩), if_neg y0, if_neg y1]
                exact Pu_bind (Pu_put (br_lt ho).2.2) var
end TGTM
