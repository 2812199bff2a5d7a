-- a variable's items, on either side
def Ro (S : zSt) (n c : Nat) (t kd lt ct il : Nat → Nat) (ic : Nat → Nat → Nat) : Prop := Tx S n t ∧ Px S c kd lt ∧ Qx S ct ∧ ∀ r, r < 18 → Ix S r (il r) (ic r)
section RO
variable {S S' : zSt} {n c : Nat} {t kd lt ct il : Nat → Nat} {ic : Nat → Nat → Nat}
theorem Ro_gen (h : Ro S n c t kd lt ct il ic) (hf : ∀ i k, (1 ≤ i ∧ i < 58) ∨ (67 ≤ i ∧ i ≤ 72) ∨ (i = 66 ∧ k ≤ 8) → S' i k = S i k) : Ro S' n c t kd lt ct il ic := by
  obtain ⟨⟨a1, a2, a3, a4⟩, ⟨b1, b2, b3, b4⟩, hQ, hI⟩ := h
  refine ⟨⟨a1, by rw [hf _ _ (by omega)]; exact a2, by rw [hf _ _ (by omega)]; exact a3, fun j hj => ?_⟩, ⟨b1, by rw [hf _ _ (by omega)]; exact b2, by rw [hf _ _ (by omega)]; exact b3, fun k hk => ?_⟩, fun k hk => ?_, fun r hr => ?_⟩
  · rw [hf 3 j (by omega), hf 67 j (by omega)]; exact a4 j hj
  · rw [hf (10 + k) 2 (by omega), hf 68 k (by omega), hf (10 + k) 3 (by omega), hf 69 k (by omega)]; exact b4 k hk
  · rw [hf (10 + k) 1 (by omega), hf 70 k (by omega)]; exact hQ k hk
  · obtain ⟨i1, i2, i3, i4, i5⟩ := hI r hr
    refine ⟨i1, i2, by rw [hf _ _ (by omega)]; exact i3, by rw [hf _ _ (by omega)]; exact i4, fun i hi => ?_⟩
    rw [hf (40 + r) i (by omega), hf 72 _ (by omega)]
    exact i5 i hi
theorem Ro_fp {k : Nat} (hk : k < 4) (h : Ro S n c t kd lt ct il ic) (hf : Fp k S S') : Ro S' n c t kd lt ct il ic := Ro_gen h (fun i j hh => hf i j (by omega) (by omega))
theorem Ro_fo {as : Bool} (h : Ro S n c t kd lt ct il ic) (hf : Fo as S S') : Ro S' n c t kd lt ct il ic := Ro_gen h (fun i j hh => Fo_ro hf (by omega) (by omega) (by omega))
theorem Rd_ro (h : Rd S) : ∃ n c t kd lt, Ro S n c t kd lt (ctS S) (ilS S) (icS S) := by
  obtain ⟨n, t, hT⟩ := Rd_tx h
  obtain ⟨c, kd, lt, hP⟩ := Rd_px h
  exact ⟨n, c, t, kd, lt, hT, hP, Rd_qx h, Rd_ix h⟩
end RO
def ocN (op : Nat) : Nat := if op = 0 then 32 else op
def brN (op : Nat) : Nat := if op = 0 ∨ op = 43 then 44 else if op = 63 then 38 else op
def mdN (op : Nat) : Nat := if op = 43 then 1 else 0
def nmD (op : Nat) : Bool := decide (op = 59 ∨ op = 63 ∨ op = 38)
def itL (il : Nat → Nat) (ic : Nat → Nat → Nat) (mx md r : Nat) : List Nat := enF md (il r) (ic r) (edF (il r) (ic r) mx 8 0 0) 8 0
def nmL (op letter : Nat) (em : Bool) : List Nat := if nmD op = true then letter :: (if op = 59 ∧ em = true then [] else [61]) else []
def vF (il : Nat → Nat) (ic : Nat → Nat → Nat) (sp : Bool) (mx op k ck letter : Nat) : Nat → Nat → List Nat
  | 0, _ => []
  | q + 1, j => if ck ≤ j then [] else (if j = 0 then [] else [if sp = true then brN op else 44]) ++ ((if j = 0 ∨ sp = true then nmL op letter (decide ((sp = true ∨ ck = 1) ∧ il (3 * k + j) = 0)) else []) ++ (itL il ic mx (mdN op) (3 * k + j) ++ vF il ic sp mx op k ck letter q (j + 1)))
theorem vF_s (il : Nat → Nat) (ic : Nat → Nat → Nat) (sp : Bool) (mx op k ck letter q j : Nat) : vF il ic sp mx op k ck letter (q + 1) j = if ck ≤ j then [] else (if j = 0 then [] else [if sp = true then brN op else 44]) ++ ((if j = 0 ∨ sp = true then nmL op letter (decide ((sp = true ∨ ck = 1) ∧ il (3 * k + j) = 0)) else []) ++ (itL il ic mx (mdN op) (3 * k + j) ++ vF il ic sp mx op k ck letter q (j + 1))) := rfl
def okO (op : Nat) : Prop := op = 0 ∨ op = 43 ∨ op = 46 ∨ op = 47 ∨ op = 59 ∨ op = 63 ∨ op = 38
section VARC
variable {n c : Nat} {t kd lt ct il : Nat → Nat} {ic : Nat → Nat → Nat}
theorem cl_swi (S : zSt) {op : Nat} (ho : okO op) : f_RequestWriter_startsWithItself (nI (ocN op)) S = some (bI (decide (op ≠ 0 ∧ op ≠ 43))) := by
  unfold f_RequestWriter_startsWithItself f_RequestWriter_startsWithItself_16
  rcases ho with rfl | rfl | rfl | rfl | rfl | rfl | rfl <;> decide
theorem cl_break (S : zSt) {op : Nat} (ho : okO op) : f_RequestWriter_breakOf (nI (ocN op)) S = some (nI (brN op)) := by
  unfold f_RequestWriter_breakOf
  rw [cl_swi S ho]
  simp only [Option.bind_some]
  rcases ho with rfl | rfl | rfl | rfl | rfl | rfl | rfl <;> decide
theorem br_lt {op : Nat} (ho : okO op) : brN op < 256 ∧ ocN op < 256 ∧ op < 256 := by
  rcases ho with rfl | rfl | rfl | rfl | rfl | rfl | rfl <;> decide
theorem oc_59 {op : Nat} (ho : okO op) : (nI (ocN op) = 59) ↔ op = 59 := by
  rcases ho with rfl | rfl | rfl | rfl | rfl | rfl | rfl <;> decide
theorem oc_63 {op : Nat} (ho : okO op) : (nI (ocN op) = 63) ↔ op = 63 := by
  rcases ho with rfl | rfl | rfl | rfl | rfl | rfl | rfl <;> decide
theorem oc_38 {op : Nat} (ho : okO op) : (nI (ocN op) = 38) ↔ op = 38 := by
  rcases ho with rfl | rfl | rfl | rfl | rfl | rfl | rfl <;> decide
theorem oc_43 {op : Nat} (ho : okO op) : (nI (ocN op) = 43) ↔ op = 43 := by
  rcases ho with rfl | rfl | rfl | rfl | rfl | rfl | rfl <;> decide
theorem cl_var_lp {k1 : Nat} (hk1 : k1 < 4) {op k mx : Nat} (ho : okO op) (hk : k < c) (hmx : mx < 100) (sp : Bool) : ∀ q m j S, Ro S n c t kd lt ct il ic → ct k - j ≤ q → ct k - j < m → j ≤ 3 → Pc k1 S (vF il ic sp mx op k (ct k) (lt k) q j) (f_RequestWriter_putVariable_65 m k1 k (nI (ocN op)) (bI sp) (bI (nmD op)) (nI (mdN op)) (nI mx) (nI j) S) := by
  intro q
  induction q with
  | zero =>
    intro m j S h h1 h2 h3
    obtain ⟨m, rfl⟩ : ∃ i, m = i + 1 := ⟨m - 1, by omega⟩
    have hc := h.2.1.1
    obtain ⟨q1, q2, q3⟩ := h.2.2.1 k (by omega)
    rw [f_RequestWriter_putVariable_65, q1, if_pos ((nI_leI (by omega) (by omega)).mpr (by omega))]
    exact Pc_nil
  | succ q ih =>
    intro m j S h h1 h2 h3
    obtain ⟨m, rfl⟩ : ∃ i, m = i + 1 := ⟨m - 1, by omega⟩
    have hc := h.2.1.1
    obtain ⟨q1, q2, q3⟩ := h.2.2.1 k (by omega)
    rw [f_RequestWriter_putVariable_65, q1, vF_s]
    by_cases z : ct k ≤ j
    · rw [if_pos ((nI_leI (by omega) (by omega)).mpr z), if_pos z]
      exact Pc_nil
    · rw [if_neg (fun y => z ((nI_leI (by omega) (by omega)).mp y)), if_neg z, gdiN (by omega) (by omega), nI_clamp (by omega)]
      have hmd : mdN op < 3 := by unfold mdN; split <;> omega
      have f176 : ∀ S', Fp k1 S S' → Pc k1 S' (itL il ic mx (mdN op) (3 * k + j) ++ vF il ic sp mx op k (ct k) (lt k) q (j + 1)) (f_RequestWriter_putVariable_176 (f_RequestWriter_putVariable_65 m) k1 k (nI (ocN op)) (bI sp) (bI (nmD op)) (nI (mdN op)) (nI mx) (nI j) (3 * k + j) S') := by
        intro S' f1
        have h' := Ro_fp hk1 h f1
        have hI := h'.2.2.2 (3 * k + j) (by omega)
        unfold f_RequestWriter_putVariable_176
        rw [cl_end0 hI hmx]
        simp only [Option.bind_some]
        refine Pc_bind (cl_encoded hk1 hmd hI (edF_le _ _ _ _ _ _ (by omega))) (fun S2 f2 => ?_)
        rw [nI_1]
        exact ih m (j + 1) S2 (Ro_fp hk1 h' f2) (by omega) (by omega) (by omega)
      have f107 : ∀ S', Fp k1 S S' → Pc k1 S' ((if j = 0 ∨ sp = true then nmL op (lt k) (decide ((sp = true ∨ ct k = 1) ∧ il (3 * k + j) = 0)) else []) ++ (itL il ic mx (mdN op) (3 * k + j) ++ vF il ic sp mx op k (ct k) (lt k) q (j + 1))) (f_RequestWriter_putVariable_107 (f_RequestWriter_putVariable_65 m) k1 k (nI (ocN op)) (bI sp) (bI (nmD op)) (nI (mdN op)) (nI mx) (nI j) (3 * k + j) S') := by
        intro S' f1
        have h' := Ro_fp hk1 h f1
        obtain ⟨p1, p2, p3, p4, p5, p6⟩ := h'.2.1.2.2.2 k hk
        obtain ⟨q1', q2', q3'⟩ := h'.2.2.1 k (by omega)
        have cj : (nI j = 0) ↔ j = 0 := nI_eq (b := 0) (by omega) (by omega)
        have c1 : (nI (ct k) = 1) ↔ ct k = 1 := nI_eq (b := 1) (by omega) (by omega)
        unfold f_RequestWriter_putVariable_107
        simp only [bI_0, cj]
        cases hnm : nmD op with
        | false =>
          have e : (if j = 0 ∨ sp = true then nmL op (lt k) (decide ((sp = true ∨ ct k = 1) ∧ il (3 * k + j) = 0)) else []) = [] := by
            unfold nmL
            rw [hnm]
            simp
          rw [if_pos rfl, e, List.nil_append]
          have := f176 S' f1
          rw [hnm] at this
          exact this
        | true =>
          rw [if_neg (show ¬ (true = false) by decide)]
          have f140 : ∀ t0 : Bool, Pc k1 S' (nmL op (lt k) (decide (t0 = true ∧ il (3 * k + j) = 0)) ++ (itL il ic mx (mdN op) (3 * k + j) ++ vF il ic sp mx op k (ct k) (lt k) q (j + 1))) (f_RequestWriter_putVariable_140 (f_RequestWriter_putVariable_65 m) k1 k (nI (ocN op)) (bI sp) (bI true) (nI (mdN op)) (nI mx) (nI j) (3 * k + j) (bI t0) S') := by
            intro t0
            unfold f_RequestWriter_putVariable_140 nmL
            rw [p4, hnm, if_pos rfl]
            show Pc k1 S' ([lt k] ++ ((if op = 59 ∧ decide (t0 = true ∧ il (3 * k + j) = 0) = true then [] else [61]) ++ (itL il ic mx (mdN op) (3 * k + j) ++ vF il ic sp mx op k (ct k) (lt k) q (j + 1)))) _
            refine Pc_bind (Pc_put hk1 (by omega)) (fun S2 f2 => ?_)
            have hI2 := (Ro_fp hk1 h' f2).2.2.2 (3 * k + j) (by omega)
            have hn8 := hI2.2.1
            have ci : (nI (il (3 * k + j)) ≤ 0) ↔ il (3 * k + j) ≤ 0 := nI_leI (b := 0) (by omega) (by omega)
            rw [hI2.2.2.1]
            simp only [oc_59 ho, bI_0, ci]
            have g176 := f176 S2 (Fp_tr f1 f2)
            rw [hnm] at g176
            have g170 : Pc k1 S2 ([61] ++ (itL il ic mx (mdN op) (3 * k + j) ++ vF il ic sp mx op k (ct k) (lt k) q (j + 1))) (f_RequestWriter_putVariable_170 (f_RequestWriter_putVariable_65 m) k1 k (nI (ocN op)) (bI sp) (bI true) (nI (mdN op)) (nI mx) (nI j) (3 * k + j) S2) := by
              unfold f_RequestWriter_putVariable_170
              refine Pc_bind (Pc_put hk1 (b := 61) (by omega)) (fun S3 f3 => ?_)
              have := f176 S3 (Fp_tr f1 (Fp_tr f2 f3))
              rw [hnm] at this
              exact this
            by_cases y1 : op = 59
            · rw [if_pos y1]
              cases t0 with
              | false =>
                rw [if_pos (show false = false from rfl), if_neg (by simp)]
                exact g170
              | true =>
                rw [if_neg (show ¬ (true = false) by decide)]
                by_cases y2 : il (3 * k + j) ≤ 0
                · rw [if_pos y2, if_pos ⟨y1, by simp; omega⟩, List.nil_append]
                  exact g176
                · rw [if_neg y2, if_neg (fun w => by have := w.2; simp at this; omega)]
                  exact g170
            · rw [if_neg y1, if_neg (fun w => y1 w.1)]
              exact g170
          have f122 : Pc k1 S' (nmL op (lt k) (decide ((sp = true ∨ ct k = 1) ∧ il (3 * k + j) = 0)) ++ (itL il ic mx (mdN op) (3 * k + j) ++ vF il ic sp mx op k (ct k) (lt k) q (j + 1))) (f_RequestWriter_putVariable_122 (f_RequestWriter_putVariable_65 m) k1 k (nI (ocN op)) (bI sp) (bI true) (nI (mdN op)) (nI mx) (nI j) (3 * k + j) S') := by
            unfold f_RequestWriter_putVariable_122 f_RequestWriter_putVariable_135
            rw [q1']
            simp only [bI_0, c1]
            have t1 := f140 true
            have t0 := f140 false
            cases sp with
            | true =>
              rw [if_neg (by decide)]
              have e : decide ((true = true ∨ ct k = 1) ∧ il (3 * k + j) = 0) = decide (true = true ∧ il (3 * k + j) = 0) := by simp
              rw [e]
              exact t1
            | false =>
              rw [if_pos rfl]
              by_cases w : ct k = 1
              · rw [if_pos w]
                have e : decide ((false = true ∨ ct k = 1) ∧ il (3 * k + j) = 0) = decide (true = true ∧ il (3 * k + j) = 0) := by simp [w]
                rw [e]
                exact t1
              · rw [if_neg w]
                have e : decide ((false = true ∨ ct k = 1) ∧ il (3 * k + j) = 0) = decide (false = true ∧ il (3 * k + j) = 0) := by simp [w]
                rw [e]
                exact t0
          by_cases yj : j = 0
          · rw [if_pos (show j = 0 ∨ sp = true from Or.inl yj), if_pos yj]
            exact f122
          · rw [if_neg yj]
            cases hsp : sp with
            | true =>
              rw [if_pos (show j = 0 ∨ true = true from Or.inr rfl), if_neg (show ¬ (true = false) by decide)]
              rw [hsp] at f122
              exact f122
            | false =>
              rw [if_neg (show ¬ (j = 0 ∨ false = true) from fun w => by rcases w with w | w; exact yj w; cases w), if_pos (show false = false from rfl), List.nil_append]
              have := f176 S' f1
              rw [hnm, hsp] at this
              exact this
      have cj0 : (nI j ≤ 0) ↔ j ≤ 0 := nI_leI (b := 0) (by omega) (by omega)
      simp only [cj0]
      by_cases yj : j = 0
      · rw [if_pos yj, if_pos (show j ≤ 0 by omega), List.nil_append]
        exact f107 S Fp_rf
      · rw [if_neg yj, if_neg (show ¬ j ≤ 0 by omega)]
        unfold f_RequestWriter_putVariable_104
        simp only [bI_0]
        cases hsp : sp with
        | false =>
          rw [if_neg (show ¬ (false = true) by decide), if_pos (show false = false from rfl)]
          rw [hsp] at f107
          exact Pc_bind (Pc_put hk1 (b := 44) (by omega)) f107
        | true =>
          rw [if_pos (show true = true from rfl), if_neg (show ¬ (true = false) by decide), cl_break S ho, Option.bind_some]
          rw [hsp] at f107
          exact Pc_bind (Pc_put hk1 (br_lt ho).1) f107
def spB (n : Nat) (t : Nat → Nat) (pos : Nat) : Bool := decide (tat n t (pos + 1) = 42)
def mxB (n : Nat) (t : Nat → Nat) (pos : Nat) : Nat := if tat n t (pos + 1) = 58 then tat n t (pos + 2) - 48 else 8
def dgH (n : Nat) (t : Nat → Nat) : Prop := ∀ j, tat n t j = 58 → 49 ≤ tat n t (j + 1) ∧ tat n t (j + 1) ≤ 57
theorem mxB_lt {pos : Nat} (hd : dgH n t) : mxB n t pos < 100 := by
  unfold mxB
  split
  · rename_i h
    have := hd _ h
    rw [show pos + 1 + 1 = pos + 2 from rfl] at this
    omega
  · omega
theorem cl_var {k1 : Nat} (hk1 : k1 < 4) {S : zSt} (h : Ro S n c t kd lt ct il ic) (hd : dgH n t) {op k pos : Nat} (ho : okO op) (hk : k < c) (hp : pos < 900) : Pc k1 S (vF il ic (spB n t pos) (mxB n t pos) op k (ct k) (lt k) 3 0) (f_RequestWriter_putVariable k1 (nI pos) k (nI (ocN op)) S) := by
  have hT := h.1
  have l1 := tat_lt hT (pos + 1)
  have l2 := tat_lt hT (pos + 2)
  have hc := h.2.1.1
  obtain ⟨q1, q2, q3⟩ := h.2.2.1 k (by omega)
  have esp : f_PathTemplate_isSpread (nI pos) S = some (bI (spB n t pos)) := by
    unfold f_PathTemplate_isSpread spB
    rw [nI_1, at_cls hT (by omega)]
    have c42 : (nI (tat n t (pos + 1)) = 42) ↔ tat n t (pos + 1) = 42 := nI_eq (b := 42) (by omega) (by omega)
    simp only [Option.bind_some, c42, gdb_0, gdb_1]
    by_cases y : tat n t (pos + 1) = 42 <;> simp [y, bI]
  have emx : f_PathTemplate_charactersFor (nI pos) S = some (nI (mxB n t pos)) := by
    unfold f_PathTemplate_charactersFor f_PathTemplate_isCut mxB
    rw [nI_1, at_cls hT (by omega), show (2 : Int32) = nI 2 from rfl, nI_add, at_cls hT (by omega)]
    have c58 : (nI (tat n t (pos + 1)) = 58) ↔ tat n t (pos + 1) = 58 := nI_eq (b := 58) (by omega) (by omega)
    simp only [Option.bind_some, c58, gdb_0, gdb_1]
    by_cases y : tat n t (pos + 1) = 58
    · have := hd _ y
      rw [show pos + 1 + 1 = pos + 2 from rfl] at this
      rw [if_pos y, if_pos y]
      simp only [Option.bind_some]
      rw [if_neg (by decide), show (48 : Int32) = nI 48 from rfl, pk_sub (by omega)]
    · rw [if_neg y, if_neg y]
      simp only [Option.bind_some]
      rw [if_pos trivial]
      rfl
  have main := cl_var_lp hk1 ho hk (mxB_lt hd (pos := pos)) (spB n t pos) 3 fu 0 S h (by omega) (by unfold fu; omega) (by omega)
  have go : ∀ nm : Bool, nm = nmD op → Pc k1 S (vF il ic (spB n t pos) (mxB n t pos) op k (ct k) (lt k) 3 0) (f_RequestWriter_putVariable_36 k1 (nI pos) k (nI (ocN op)) (bI (spB n t pos)) (bI nm) S) := by
    intro nm hnm
    subst hnm
    unfold f_RequestWriter_putVariable_36 f_RequestWriter_putVariable_50
    rw [emx]
    simp only [oc_43 ho, Option.bind_some]
    unfold mdN at main
    by_cases y : op = 43
    · rw [if_pos y] at main
      rw [if_pos y]
      exact main
    · rw [if_neg y] at main
      rw [if_neg y]
      exact main
  unfold f_RequestWriter_putVariable f_RequestWriter_putVariable_31
  rw [esp]
  simp only [Option.bind_some, oc_59 ho, oc_63 ho, oc_38 ho]
  by_cases y1 : op = 59
  · rw [if_pos y1]
    exact go true (by unfold nmD; simp [y1])
  · rw [if_neg y1]
    by_cases y2 : op = 63
    · rw [if_pos y2]
      exact go true (by unfold nmD; simp [y2])
    · rw [if_neg y2]
      by_cases y3 : op = 38
      · rw [if_pos y3]
        exact go true (by unfold nmD; simp [y3])
      · rw [if_neg y3]
        exact go false (by unfold nmD; simp [y1, y2, y3])
end VARC
