-- a variable's items, on the reference's side
theorem nI_nleI {a b : Nat} (h : ¬ a ≤ b) (ha : a < 2 ^ 31) (hb : b < 2 ^ 31) : ¬ nI a ≤ nI b := fun y => h ((nI_leI ha hb).mp y)
def jF (il : Nat → Nat) (ic : Nat → Nat → Nat) (lo w mx md : Nat) : Nat → Nat → List Nat
  | 0, _ => []
  | q + 1, j => if w ≤ j then [] else (if j = 0 then [] else [44]) ++ (itL il ic mx md (lo + j) ++ jF il ic lo w mx md q (j + 1))
theorem jF_s (il : Nat → Nat) (ic : Nat → Nat → Nat) (lo w mx md q j : Nat) : jF il ic lo w mx md (q + 1) j = if w ≤ j then [] else (if j = 0 then [] else [44]) ++ (itL il ic mx md (lo + j) ++ jF il ic lo w mx md q (j + 1)) := rfl
theorem jF_1 (il : Nat → Nat) (ic : Nat → Nat → Nat) (lo mx md : Nat) : jF il ic lo 1 mx md 3 0 = itL il ic mx md lo := by
  rw [jF_s, if_neg (by omega), if_pos rfl, jF_s, if_pos (by omega), List.nil_append, List.append_nil]
  rfl
theorem vF_jF (il : Nat → Nat) (ic : Nat → Nat → Nat) (mx op k ck letter : Nat) : ∀ q j, j ≠ 0 → vF il ic false mx op k ck letter q j = jF il ic (3 * k) ck mx (mdN op) q j := by
  intro q
  induction q with
  | zero => intro j h; rfl
  | succ q ih =>
    intro j h
    rw [vF_s, jF_s, ih (j + 1) (by omega), if_neg (show ¬ (j = 0 ∨ false = true) from fun w => by rcases w with w | w; exact h w; cases w), if_neg h, if_neg (show ¬ (false = true) by decide), List.nil_append]
    by_cases z : ck ≤ j
    · rw [if_pos z, if_pos z]
    · rw [if_neg z, if_neg z, if_neg h]
theorem vF_0 (il : Nat → Nat) (ic : Nat → Nat → Nat) (mx op k ck letter : Nat) (hc : 0 < ck) : vF il ic false mx op k ck letter 3 0 = nmL op letter (decide (ck = 1 ∧ il (3 * k) = 0)) ++ jF il ic (3 * k) ck mx (mdN op) 3 0 := by
  rw [vF_s, jF_s, if_neg (show ¬ ck ≤ 0 by omega), if_neg (show ¬ ck ≤ 0 by omega), if_pos (show 0 = 0 from rfl), if_pos (show 0 = 0 ∨ false = true from Or.inl rfl), if_pos (show 0 = 0 from rfl), List.nil_append, List.nil_append, vF_jF _ _ _ _ _ _ _ _ _ (by omega)]
  simp
section VARM
variable {n c : Nat} {t kd lt ct il : Nat → Nat} {ic : Nat → Nat → Nat} {as : Bool}
theorem op_eq {op b : Nat} (ho : okO op) (hb : b < 1000) : (nI op = nI b) ↔ op = b := nI_eq (by have := (br_lt ho).2.2; omega) (by omega)
theorem mo_give_lp {op lo w mx : Nat} (ho : okO op) (hw : lo + w ≤ 18) (hmx : mx < 100) : ∀ q m j S, Ro S n c t kd lt ct il ic → w - j ≤ q → w - j < m → j ≤ 18 → Pu as S (jF il ic lo w mx (mdN op) q j) (f_Mo_give_70 m (nI lo) (nI (lo + w)) (nI mx) (nI op) (nI (lo + j)) S) := by
  intro q
  induction q with
  | zero =>
    intro m j S h h1 h2 h3
    obtain ⟨m, rfl⟩ : ∃ i, m = i + 1 := ⟨m - 1, by omega⟩
    rw [f_Mo_give_70, if_pos ((nI_leI (by omega) (by omega)).mpr (by omega))]
    exact Pu_nil
  | succ q ih =>
    intro m j S h h1 h2 h3
    obtain ⟨m, rfl⟩ : ∃ i, m = i + 1 := ⟨m - 1, by omega⟩
    rw [f_Mo_give_70, jF_s]
    by_cases z : w ≤ j
    · rw [if_pos ((nI_leI (by omega) (by omega)).mpr (by omega)), if_pos z]
      exact Pu_nil
    · rw [if_neg z, if_neg (nI_nleI (a := lo + w) (b := lo + j) (by omega) (by omega) (by omega))]
      have f88 : ∀ S', Fo as S S' → Pu as S' (itL il ic mx (mdN op) (lo + j) ++ jF il ic lo w mx (mdN op) q (j + 1)) (f_Mo_give_88 (f_Mo_give_70 m) (nI lo) (nI (lo + w)) (nI mx) (nI op) (nI (lo + j)) S') := by
        intro S' f1
        have h' := Ro_fo h f1
        have hI := h'.2.2.2 (lo + j) (by omega)
        have go : ∀ md, md = mdN op → Pu as S' (itL il ic mx (mdN op) (lo + j) ++ jF il ic lo w mx (mdN op) q (j + 1)) (f_Mo_give_105 (f_Mo_give_70 m) (nI lo) (nI (lo + w)) (nI mx) (nI op) (nI (lo + j)) (nI md) (nI mx) (nI (lo + j)) S') := by
          intro md hmd
          subst hmd
          unfold f_Mo_give_105
          refine Pu_bind (mo_encode hI hmx (by unfold mdN; split <;> omega)) (fun S2 f2 => ?_)
          rw [nI_1, show lo + j + 1 = lo + (j + 1) by omega]
          exact ih m (j + 1) S2 (Ro_fo h' f2) (by omega) (by omega) (by omega)
        have c43 : (nI op = 43) ↔ op = 43 := op_eq (b := 43) ho (by omega)
        unfold f_Mo_give_88
        simp only [c43]
        by_cases y : op = 43
        · rw [if_pos y]
          exact go 1 (by unfold mdN; rw [if_pos y])
        · rw [if_neg y]
          exact go 0 (by unfold mdN; rw [if_neg y])
      by_cases yj : j = 0
      · rw [if_pos ((nI_leI (by omega) (by omega)).mpr (by omega)), if_pos yj, List.nil_append]
        exact f88 S Fo_rf
      · rw [if_neg yj, if_neg (nI_nleI (a := lo + j) (b := lo) (by omega) (by omega) (by omega))]
        exact Pu_bind (Pu_put (b := 44) (by omega)) f88
theorem mo_give {S : zSt} (h : Ro S n c t kd lt ct il ic) {op lo w mx letter : Nat} (ho : okO op) (hw : lo + w ≤ 18) (hw0 : 0 < w) (hw3 : w ≤ 3) (hmx : mx < 100) (hl : letter < 256) : Pu as S (nmL op letter (decide (w = 1 ∧ il lo = 0)) ++ jF il ic lo w mx (mdN op) 3 0) (f_Mo_give (nI letter) (nI lo) (nI (lo + w)) (nI mx) (nI op) S) := by
  have c59 : (nI op = 59) ↔ op = 59 := op_eq (b := 59) ho (by omega)
  have c63 : (nI op = 63) ↔ op = 63 := op_eq (b := 63) ho (by omega)
  have c38 : (nI op = 38) ↔ op = 38 := op_eq (b := 38) ho (by omega)
  have f67 : ∀ S', Fo as S S' → Pu as S' (jF il ic lo w mx (mdN op) 3 0) (f_Mo_give_67 (nI lo) (nI (lo + w)) (nI mx) (nI op) S') := fun S' f1 => mo_give_lp ho hw hmx 3 fu 0 S' (Ro_fo h f1) (by omega) (by unfold fu; omega) (by omega)
  have f21 : ∀ em : Bool, Pu as S (nmL op letter em ++ jF il ic lo w mx (mdN op) 3 0) (f_Mo_give_21 (nI letter) (nI lo) (nI (lo + w)) (nI mx) (nI op) (bI em) S) := by
    intro em
    have f44 : nmD op = true → Pu as S (nmL op letter em ++ jF il ic lo w mx (mdN op) 3 0) (f_Mo_give_44 (nI letter) (nI lo) (nI (lo + w)) (nI mx) (nI op) (bI em) S) := by
      intro hnm
      unfold f_Mo_give_44 nmL
      rw [hnm, if_pos rfl]
      show Pu as S ([letter] ++ ((if op = 59 ∧ em = true then [] else [61]) ++ jF il ic lo w mx (mdN op) 3 0)) _
      refine Pu_bind (Pu_put hl) (fun S1 f1 => ?_)
      simp only [bI_0, c59]
      have f61 : Pu as S1 ([61] ++ jF il ic lo w mx (mdN op) 3 0) (f_Mo_give_61 (nI lo) (nI (lo + w)) (nI mx) (nI op) S1) := by
        unfold f_Mo_give_61
        exact Pu_bind (Pu_put (b := 61) (by omega)) (fun S2 f2 => f67 S2 (Fo_tr f1 f2))
      cases em with
      | false =>
        rw [if_pos (show false = false from rfl), if_neg (by simp)]
        exact f61
      | true =>
        rw [if_neg (show ¬ (true = false) by decide)]
        by_cases y : op = 59
        · rw [if_pos (show op = 59 ∧ true = true from ⟨y, rfl⟩), if_pos y, List.nil_append]
          exact f67 S1 f1
        · rw [if_neg (show ¬ (op = 59 ∧ true = true) from fun w => y w.1), if_neg y]
          exact f61
    unfold f_Mo_give_21
    simp only [c59, c63, c38]
    by_cases y1 : op = 59
    · rw [if_pos y1]
      exact f44 (by unfold nmD; simp [y1])
    · rw [if_neg y1]
      by_cases y2 : op = 63
      · rw [if_pos y2]
        exact f44 (by unfold nmD; simp [y2])
      · rw [if_neg y2]
        by_cases y3 : op = 38
        · rw [if_pos y3]
          exact f44 (by unfold nmD; simp [y3])
        · rw [if_neg y3]
          have e : nmL op letter em = [] := by
            unfold nmL nmD
            simp [y1, y2, y3]
          rw [e, List.nil_append]
          exact f67 S Fo_rf
  have hI := h.2.2.2 lo (by omega)
  have hn8 := hI.2.1
  unfold f_Mo_give f_Mo_give_20
  rw [pk_sub (by omega), show lo + w - lo = w by omega]
  have cw : (nI w = 1) ↔ w = 1 := nI_eq (b := 1) (by omega) (by omega)
  have ci : (nI (il lo) = 0) ↔ il lo = 0 := nI_eq (b := 0) (by omega) (by omega)
  simp only [cw]
  by_cases y : w = 1
  · rw [if_pos y, gdiN (by omega) (by omega), nI_clamp (by omega), hI.2.2.2.1]
    simp only [ci]
    by_cases y2 : il lo = 0
    · rw [if_pos y2, decide_eq_true (show w = 1 ∧ il lo = 0 from ⟨y, y2⟩)]
      exact f21 true
    · rw [if_neg y2, decide_eq_false (show ¬ (w = 1 ∧ il lo = 0) from fun q => y2 q.2)]
      exact f21 false
  · rw [if_neg y, decide_eq_false (show ¬ (w = 1 ∧ il lo = 0) from fun q => y q.1)]
    exact f21 false
theorem mo_between {S : zSt} {op : Nat} (ho : okO op) : Pu as S [brN op] (f_Mo_between (nI op) S) := by
  have c0 : (nI op = 0) ↔ op = 0 := op_eq (b := 0) ho (by omega)
  have c43 : (nI op = 43) ↔ op = 43 := op_eq (b := 43) ho (by omega)
  have c63 : (nI op = 63) ↔ op = 63 := op_eq (b := 63) ho (by omega)
  unfold f_Mo_between f_Mo_between_11 f_Mo_between_28 brN
  simp only [c0, c43, c63]
  by_cases y0 : op = 0
  · rw [if_pos y0, if_pos (Or.inl y0)]
    exact Pu_end (Pu_put (b := 44) (by omega))
  · rw [if_neg y0]
    by_cases y1 : op = 43
    · rw [if_pos y1, if_pos (Or.inr y1)]
      exact Pu_end (Pu_put (b := 44) (by omega))
    · rw [if_neg y1, if_neg (by omega)]
      by_cases y2 : op = 63
      · rw [if_pos y2, if_pos y2]
        exact Pu_end (Pu_put (b := 38) (by omega))
      · rw [if_neg y2, if_neg y2]
        exact Pu_end (Pu_put (br_lt ho).2.2)
theorem mo_var {S : zSt} (h : Ro S n c t kd lt ct il ic) (hd : dgH n t) {op k pos : Nat} (ho : okO op) (hk : k < c) (hck : 0 < ct k) (hp : pos + 1 < n) {y : List Nat} {e : Int32} (K : Int32 → Int32 → Int32 → Int32 → zSt → Option zSt) (hK : ∀ S', Fo as S S' → Pu as S' y (K (nI op) e 0 (nI (pos + 1)) S')) : Pu as S (vF il ic (spB n t pos) (mxB n t pos) op k (ct k) (t pos) 3 0 ++ y) (f_Mo_expression_120 K (nI op) e (nI pos) (nI k) S) := by
  have hT := h.1
  have hn := hT.1
  have hc := h.2.1.1
  have hmx := mxB_lt hd (pos := pos)
  obtain ⟨q1, q2, q3⟩ := h.2.2.1 k (by omega)
  obtain ⟨-, t67, t1, t2⟩ := hT.2.2.2 (pos + 1) hp
  obtain ⟨-, u67, u1, u2⟩ := hT.2.2.2 pos (by omega)
  have e3 : (3 * nI k : Int32) = nI (3 * k) := by rw [show (3 : Int32) = nI 3 from rfl, pk_mul]
  have etat : tat n t (pos + 1) = t (pos + 1) := tat_in hp
  have c42 : (nI (t (pos + 1)) = 42) ↔ t (pos + 1) = 42 := nI_eq (b := 42) (by omega) (by omega)
  have c58 : (nI (t (pos + 1)) = 58) ↔ t (pos + 1) = 58 := nI_eq (b := 58) (by omega) (by omega)
  have f142 : ∀ sp : Bool, sp = spB n t pos → Pu as S (vF il ic (spB n t pos) (mxB n t pos) op k (ct k) (t pos) 3 0 ++ y) (f_Mo_expression_142 K (nI op) e 0 (nI pos) (nI k) (bI sp) S) := by
    intro sp hsp
    subst hsp
    have f180 : Pu as S (vF il ic (spB n t pos) (mxB n t pos) op k (ct k) (t pos) 3 0 ++ y) (f_Mo_expression_175 K (nI op) e 0 (nI pos) (nI k) (bI (spB n t pos)) (nI (mxB n t pos)) S) := by
      unfold f_Mo_expression_175
      cases hsp : spB n t pos with
      | false =>
        rw [show fu = 3999 + 1 from rfl, f_Mo_expression_180, if_pos (show bI false = 0 from rfl)]
        unfold f_Mo_expression_243
        rw [if_pos (show bI false = 0 from rfl), gdiN (by omega) (by omega), gdiN (by omega) (by omega), nI_clamp (by omega), nI_clamp (by omega), u67, q2, e3, nI_add, vF_0 _ _ _ _ _ _ _ hck]
        refine Pu_bind (mo_give h ho (by omega) hck q3 hmx (by omega)) (fun S1 f1 => ?_)
        unfold f_Mo_expression_278
        rw [nI_1]
        exact hK S1 f1
      | true =>
        have h42 : tat n t (pos + 1) = 42 := by unfold spB at hsp; simpa using hsp
        have emx : mxB n t pos = 8 := by unfold mxB; rw [if_neg (by omega)]
        rw [emx]
        have lp : ∀ q m j S', Fo as S S' → ct k - j ≤ q → ct k - j < m → j ≤ 3 → Pu as S' (vF il ic true 8 op k (ct k) (t pos) q j ++ y) (f_Mo_expression_180 K m (nI op) e 0 (nI pos) (nI k) (bI true) (nI 8) (nI j) S') := by
          intro q
          induction q with
          | zero =>
            intro m j S' f1 h1 h2 h3
            obtain ⟨m, rfl⟩ : ∃ i, m = i + 1 := ⟨m - 1, by omega⟩
            obtain ⟨q1', q2', q3'⟩ := (Ro_fo h f1).2.2.1 k (by omega)
            rw [f_Mo_expression_180, if_neg (by decide), gdiN (by omega) (by omega), nI_clamp (by omega), q2', if_pos ((nI_leI (by omega) (by omega)).mpr (by omega))]
            unfold f_Mo_expression_243 f_Mo_expression_278
            rw [if_neg (by decide), nI_1]
            exact hK S' f1
          | succ q ih =>
            intro m j S' f1 h1 h2 h3
            obtain ⟨m, rfl⟩ : ∃ i, m = i + 1 := ⟨m - 1, by omega⟩
            have h' := Ro_fo h f1
            obtain ⟨q1', q2', q3'⟩ := h'.2.2.1 k (by omega)
            rw [f_Mo_expression_180, if_neg (by decide), gdiN (by omega) (by omega), nI_clamp (by omega), q2', vF_s]
            by_cases z : ct k ≤ j
            · rw [if_pos ((nI_leI (by omega) (by omega)).mpr z), if_pos z]
              unfold f_Mo_expression_243 f_Mo_expression_278
              rw [if_neg (by decide), nI_1]
              exact hK S' f1
            · rw [if_neg (fun w => z ((nI_leI (by omega) (by omega)).mp w)), if_neg z]
              have f207 : ∀ S2, Fo as S' S2 → Pu as S2 ((nmL op (t pos) (decide ((true = true ∨ ct k = 1) ∧ il (3 * k + j) = 0)) ++ (itL il ic 8 (mdN op) (3 * k + j) ++ vF il ic true 8 op k (ct k) (t pos) q (j + 1))) ++ y) (f_Mo_expression_207 K (f_Mo_expression_180 K m) (nI op) e 0 (nI pos) (nI k) (bI true) (nI 8) (nI j) S2) := by
                intro S2 f2
                have h2' := Ro_fo h' f2
                obtain ⟨-, w67, -, -⟩ := h2'.1.2.2.2 pos (by omega)
                have hg := mo_give (as := as) h2' ho (lo := 3 * k + j) (w := 1) (mx := 8) (letter := t pos) (by omega) (by omega) (by omega) (by omega) (by omega)
                rw [jF_1] at hg
                have ed : decide (1 = 1 ∧ il (3 * k + j) = 0) = decide ((true = true ∨ ct k = 1) ∧ il (3 * k + j) = 0) := by simp
                rw [ed] at hg
                unfold f_Mo_expression_207
                rw [gdiN (by omega) (by omega), nI_clamp (by omega), w67, e3, nI_add, nI_1]
                rw [← List.append_assoc, List.append_assoc]
                refine Pu_bind hg (fun S3 f3 => ?_)
                rw [nI_1]
                exact ih m (j + 1) S3 (Fo_tr f1 (Fo_tr f2 f3)) (by omega) (by omega) (by omega)
              have cj : (nI j ≤ 0) ↔ j ≤ 0 := nI_leI (b := 0) (by omega) (by omega)
              rw [if_pos (show j = 0 ∨ true = true from Or.inr rfl)]
              by_cases yj : j = 0
              · rw [if_pos yj, if_pos (cj.mpr (by omega)), List.nil_append]
                exact f207 S' Fo_rf
              · rw [if_neg yj, if_neg (show ¬ (nI j ≤ 0) from fun w => yj (by have := cj.mp w; omega)), if_pos (show true = true from rfl), List.append_assoc]
                exact Pu_bind (mo_between ho) f207
        exact lp 3 fu 0 S Fo_rf (by omega) (by unfold fu; omega) (by omega)
    unfold f_Mo_expression_142
    rw [nI_1, gdiN (by omega) (by omega), nI_clamp (by omega), t67]
    simp only [c58]
    by_cases y1 : t (pos + 1) = 58
    · have hdd := hd (pos + 1) (by rw [etat]; exact y1)
      have hp2 : pos + 2 < n := by
        by_cases w : pos + 2 < n
        · exact w
        · exfalso
          have : tat n t (pos + 1 + 1) = 0 := by unfold tat; rw [if_neg (by omega)]
          omega
      obtain ⟨-, v67, v1, v2⟩ := hT.2.2.2 (pos + 2) hp2
      have et2 : tat n t (pos + 2) = t (pos + 2) := tat_in hp2
      rw [show pos + 1 + 1 = pos + 2 from rfl, et2] at hdd
      rw [if_pos y1, show (2 : Int32) = nI 2 from rfl, nI_add, gdiN (by omega) (by omega), nI_clamp (by omega), v67, show (48 : Int32) = nI 48 from rfl, pk_sub (by omega)]
      have emx : mxB n t pos = t (pos + 2) - 48 := by unfold mxB; rw [etat, if_pos y1, et2]
      rw [emx] at f180
      rw [emx]
      exact f180
    · have emx : mxB n t pos = 8 := by unfold mxB; rw [etat, if_neg y1]
      rw [if_neg y1]
      rw [emx] at f180
      rw [emx]
      exact f180
  unfold f_Mo_expression_120
  rw [nI_1, gdiN (by omega) (by omega), nI_clamp (by omega), t67]
  simp only [c42]
  by_cases y1 : t (pos + 1) = 42
  · rw [if_pos y1]
    exact f142 true (by unfold spB; rw [etat]; simp [y1])
  · rw [if_neg y1]
    exact f142 false (by unfold spB; rw [etat]; simp [y1])
end VARM
