-- the body, on either side
section BDY
variable (c : Nat) (kd lt ct il : Nat → Nat) (ic : Nat → Nat → Nat)
def bdI (k s : Nat) : Nat → Nat → List Nat
  | 0, _ => []
  | q + 1, j => if ct k ≤ j then [] else (if s + j = 0 then [] else [38]) ++ ([lt k] ++ ([61] ++ (enF 2 (il (3 * k + j)) (ic (3 * k + j)) (il (3 * k + j)) 8 0 ++ bdI k s q (j + 1))))
theorem bdI_s (k s q j : Nat) : bdI lt ct il ic k s (q + 1) j = if ct k ≤ j then [] else (if s + j = 0 then [] else [38]) ++ ([lt k] ++ ([61] ++ (enF 2 (il (3 * k + j)) (ic (3 * k + j)) (il (3 * k + j)) 8 0 ++ bdI lt ct il ic k s q (j + 1)))) := rfl
def bdO : Nat → Nat → Nat → List Nat
  | 0, _, _ => []
  | q + 1, k, s => if c ≤ k then [] else if kd k = 5 then (if ct k = 0 then [] else enF 3 (il (3 * k)) (ic (3 * k)) (il (3 * k)) 8 0) ++ bdO q (k + 1) s else if kd k = 4 then bdI lt ct il ic k s 3 0 ++ bdO q (k + 1) (s + ct k) else bdO q (k + 1) s
theorem bdO_s (q k s : Nat) : bdO c kd lt ct il ic (q + 1) k s = if c ≤ k then [] else if kd k = 5 then (if ct k = 0 then [] else enF 3 (il (3 * k)) (ic (3 * k)) (il (3 * k)) 8 0) ++ bdO c kd lt ct il ic q (k + 1) s else if kd k = 4 then bdI lt ct il ic k s 3 0 ++ bdO c kd lt ct il ic q (k + 1) (s + ct k) else bdO c kd lt ct il ic q (k + 1) s := rfl
end BDY
section BDYC
variable {n c : Nat} {t kd lt ct il : Nat → Nat} {ic : Nat → Nat → Nat}
theorem en_len8 {S : zSt} (h : Ro S n c t kd lt ct il ic) {r : Nat} (hr : r < 18) (md : Nat) : (enF md (il r) (ic r) (il r) 8 0).length ≤ 72 := by
  have hI := h.2.2.2 r hr
  have hn := hI.2.1
  have := (en_len (md := md) (n := il r) (c := ic r) (e := il r) (fun i hi => (hI.2.2.2.2 i hi).2.2) hn 8 0).2 rfl
  omega
theorem bdI_len {S : zSt} (h : Ro S n c t kd lt ct il ic) {k : Nat} (hk : k < c) (s : Nat) : ∀ q j, (bdI lt ct il ic k s q j).length ≤ 75 * (ct k - j) := by
  have hc := h.2.1.1
  have hct := (h.2.2.1 k (by omega)).2.2
  intro q
  induction q with
  | zero => intro j; simp [bdI]
  | succ q ih =>
    intro j
    rw [bdI_s]
    by_cases z : ct k ≤ j
    · rw [if_pos z]; simp
    · rw [if_neg z, List.length_append, List.length_append, List.length_append, List.length_append]
      have h1 := en_len8 h (r := 3 * k + j) (by omega) 2
      have h2 := ih (j + 1)
      have h3 : (if s + j = 0 then [] else [38] : List Nat).length ≤ 1 := by split <;> simp
      simp only [List.length_cons, List.length_nil]
      omega
theorem bdO_len {S : zSt} (h : Ro S n c t kd lt ct il ic) : ∀ q k s, (bdO c kd lt ct il ic q k s).length ≤ 225 * (c - k) := by
  have hc := h.2.1.1
  intro q
  induction q with
  | zero => intro k s; simp [bdO]
  | succ q ih =>
    intro k s
    rw [bdO_s]
    by_cases z : c ≤ k
    · rw [if_pos z]; simp
    · rw [if_neg z]
      have hct := (h.2.2.1 k (by omega)).2.2
      by_cases y : kd k = 5
      · rw [if_pos y, List.length_append]
        have h1 := en_len8 h (r := 3 * k) (by omega) 3
        have h2 := ih (k + 1) s
        have h3 : (if ct k = 0 then [] else enF 3 (il (3 * k)) (ic (3 * k)) (il (3 * k)) 8 0).length ≤ 72 := by split; simp; exact h1
        omega
      · rw [if_neg y]
        by_cases y4 : kd k = 4
        · rw [if_pos y4, List.length_append]
          have h1 := bdI_len h (k := k) (by omega) s 3 0
          have h2 := ih (k + 1) (s + ct k)
          omega
        · rw [if_neg y4]
          have h2 := ih (k + 1) s
          omega
theorem cl_bi {k1 : Nat} (hk1 : k1 < 4) {k s : Nat} (hk : k < c) (hs : s < 1000) : ∀ q m j S, Ro S n c t kd lt ct il ic → ct k - j ≤ q → ct k - j < m → j ≤ 3 → Pc k1 S (bdI lt ct il ic k s q j) (f_RequestWriter_putFormItems_2 m k1 k (nI s) (nI j) S) := by
  intro q
  induction q with
  | zero =>
    intro m j S h h1 h2 h3
    obtain ⟨m, rfl⟩ : ∃ i, m = i + 1 := ⟨m - 1, by omega⟩
    have hc := h.2.1.1
    obtain ⟨q1, q2, q3⟩ := h.2.2.1 k (by omega)
    rw [f_RequestWriter_putFormItems_2, q1, if_pos ((nI_leI (by omega) (by omega)).mpr (by omega))]
    exact Pc_nil
  | succ q ih =>
    intro m j S h h1 h2 h3
    obtain ⟨m, rfl⟩ : ∃ i, m = i + 1 := ⟨m - 1, by omega⟩
    have hc := h.2.1.1
    obtain ⟨q1, q2, q3⟩ := h.2.2.1 k (by omega)
    rw [f_RequestWriter_putFormItems_2, q1, bdI_s]
    by_cases z : ct k ≤ j
    · rw [if_pos ((nI_leI (by omega) (by omega)).mpr z), if_pos z]
      exact Pc_nil
    · have cs : (nI (s + j) ≤ 0) ↔ s + j ≤ 0 := nI_leI (b := 0) (by omega) (by omega)
      rw [if_neg (fun y => z ((nI_leI (by omega) (by omega)).mp y)), if_neg z, gdiN (by omega) (by omega), nI_clamp (by omega), nI_add]
      simp only [cs]
      have f30 : ∀ S', Fp k1 S S' → Pc k1 S' ([lt k] ++ ([61] ++ (enF 2 (il (3 * k + j)) (ic (3 * k + j)) (il (3 * k + j)) 8 0 ++ bdI lt ct il ic k s q (j + 1)))) (f_RequestWriter_putFormItems_30 (f_RequestWriter_putFormItems_2 m) k1 k (nI s) (nI j) (3 * k + j) S') := by
        intro S' f1
        have h1' := Ro_fp hk1 h f1
        obtain ⟨-, -, -, p4, -, p6⟩ := h1'.2.1.2.2.2 k hk
        unfold f_RequestWriter_putFormItems_30
        rw [p4]
        refine Pc_bind (Pc_put hk1 (by omega)) (fun S2 f2 => ?_)
        refine Pc_bind (Pc_put hk1 (b := 61) (by omega)) (fun S3 f3 => ?_)
        have h3' := Ro_fp hk1 (Ro_fp hk1 h1' f2) f3
        have hI := h3'.2.2.2 (3 * k + j) (by omega)
        rw [hI.2.2.1]
        refine Pc_bind (cl_encoded hk1 (md := 2) (by omega) hI (Nat.le_refl _)) (fun S4 f4 => ?_)
        rw [nI_1]
        exact ih m (j + 1) S4 (Ro_fp hk1 h3' f4) (by omega) (by omega) (by omega)
      by_cases y : s + j = 0
      · rw [if_pos y, if_pos (show s + j ≤ 0 by omega), List.nil_append]
        exact f30 S Fp_rf
      · rw [if_neg y, if_neg (show ¬ s + j ≤ 0 by omega)]
        exact Pc_bind (Pc_put hk1 (b := 38) (by omega)) f30
theorem cl_bo {k1 : Nat} (hk1 : k1 < 4) : ∀ q m k s S, Ro S n c t kd lt ct il ic → k ≤ c → c - k ≤ q → c - k < m → s ≤ 3 * k → Pc k1 S (bdO c kd lt ct il ic q k s) (f_RequestWriter_putBodyOrForm_4 m k1 (nI s) (nI k) S) := by
  intro q
  induction q with
  | zero =>
    intro m k s S h h0 h1 h2 h3
    obtain ⟨m, rfl⟩ : ∃ i, m = i + 1 := ⟨m - 1, by omega⟩
    have hc := h.2.1.1
    rw [f_RequestWriter_putBodyOrForm_4, h.2.1.2.1, if_pos ((nI_leI (by omega) (by omega)).mpr (by omega))]
    exact Pc_nil
  | succ q ih =>
    intro m k s S h h0 h1 h2 h3
    obtain ⟨m, rfl⟩ : ∃ i, m = i + 1 := ⟨m - 1, by omega⟩
    have hc := h.2.1.1
    rw [f_RequestWriter_putBodyOrForm_4, h.2.1.2.1, bdO_s]
    by_cases z : c ≤ k
    · rw [if_pos ((nI_leI (by omega) (by omega)).mpr z), if_pos z]
      exact Pc_nil
    · obtain ⟨p1, -, p3, -⟩ := h.2.1.2.2.2 k (by omega)
      obtain ⟨q1, q2, q3⟩ := h.2.2.1 k (by omega)
      have c5 : (nI (kd k) = 5) ↔ kd k = 5 := nI_eq (b := 5) (by omega) (by omega)
      have c4 : (nI (kd k) = 4) ↔ kd k = 4 := nI_eq (b := 4) (by omega) (by omega)
      have c0 : (nI (ct k) ≤ 0) ↔ ct k ≤ 0 := nI_leI (b := 0) (by omega) (by omega)
      rw [if_neg (fun y => z ((nI_leI (by omega) (by omega)).mp y)), if_neg z, gdiN (by omega) (by omega), nI_clamp (by omega), p1, q1]
      simp only [c5, c0]
      have nx : ∀ s' S', s' ≤ 3 * (k + 1) → Fp k1 S S' → Pc k1 S' (bdO c kd lt ct il ic q (k + 1) s') (f_RequestWriter_putBodyOrForm_81 (f_RequestWriter_putBodyOrForm_4 m) k1 (nI s') (nI k) S') := by
        intro s' S' hs' f1
        unfold f_RequestWriter_putBodyOrForm_81
        rw [nI_1]
        exact ih m (k + 1) s' S' (Ro_fp hk1 h f1) (by omega) (by omega) (by omega) hs'
      by_cases y : kd k = 5
      · rw [if_pos y, if_pos y]
        by_cases y2 : ct k ≤ 0
        · rw [if_pos y2, if_pos (by omega), List.nil_append]
          unfold f_RequestWriter_putBodyOrForm_57
          rw [p1]
          simp only [c4]
          rw [if_neg (by omega)]
          exact nx s S (by omega) Fp_rf
        · rw [if_neg y2, if_neg (by omega), show ∀ x : Option zSt, gdi 0 3 x = x from fun x => gdiN (k := 0) (n := 3) (by omega) (by omega), show 3 * k + (0 : Int32).toNatClampNeg = 3 * k from rfl]
          refine Pc_bind (cl_utf8 hk1 (h.2.2.2 (3 * k) (by omega))) (fun S1 f1 => ?_)
          exact nx s S1 (by omega) f1
      · rw [if_neg y, if_neg y]
        unfold f_RequestWriter_putBodyOrForm_57
        rw [p1]
        simp only [c4]
        by_cases y4 : kd k = 4
        · rw [if_pos y4, if_pos y4]
          refine Pc_bind (cl_bi hk1 (by omega) (by omega) 3 fu 0 S h (by omega) (by unfold fu; omega) (by omega)) (fun S1 f1 => ?_)
          rw [((Ro_fp hk1 h f1).2.2.1 k (by omega)).1, nI_add]
          exact nx (s + ct k) S1 (by omega) f1
        · rw [if_neg y4, if_neg y4]
          exact nx s S (by omega) Fp_rf
theorem cl_body {k1 : Nat} (hk1 : k1 < 4) {S : zSt} (h : Ro S n c t kd lt ct il ic) : Pc k1 S (bdO c kd lt ct il ic 6 0 0) (f_RequestWriter_putBodyOrForm k1 S) := by
  have hc := h.2.1.1
  exact cl_bo hk1 6 fu 0 0 S h (by omega) (by omega) (by unfold fu; omega) (by omega)
end BDYC
/-- the body that the reference puts aside -/
def Bw (S : zSt) (l : List Nat) : Prop := S 66 14 = 0 ∧ S 66 15 = nI l.length ∧ ∀ j, j < l.length → S 75 j = nI (l.getD j 0)
def Fw (S S' : zSt) : Prop := ∀ i k, i ≠ 75 → (i ≠ 66 ∨ (k ≠ 14 ∧ k ≠ 15)) → S' i k = S i k
def em0 (l : List Nat) : Bool := decide (l.length = 0)
def Pz (S : zSt) (e : Bool) (x : List Nat) (o : Option zSt) : Prop := ∀ l, Wp true S l false → em0 l = e → l.length + x.length ≤ 1400 → ∃ S', o = some S' ∧ Bw S' (l ++ x) ∧ Fw S S'
theorem Fo_fw {S S' : zSt} (h : Fo true S S') : Fw S S' := fun i k a b => h i k a (by omega)
theorem Pz_bind {S : zSt} {e : Bool} {x y : List Nat} {o : Option zSt} {f : zSt → Option zSt} (h : Pu true S x o) (hf : ∀ S', Fo true S S' → Pz S' (e && em0 x) y (f S')) : Pz S e (x ++ y) (o.bind f) := by
  intro l hl he hb
  rw [List.length_append] at hb
  obtain ⟨S1, e1, w1, f1⟩ := h l false hl (by show l.length + x.length ≤ 1400; omega)
  have w1' : Wp true S1 (l ++ x) false := w1
  have he2 : em0 (l ++ x) = (e && em0 x) := by
    rw [← he]
    unfold em0
    rw [List.length_append, ← Bool.decide_and]
    congr 1
    apply propext
    omega
  obtain ⟨S2, e2, w2, f2⟩ := hf S1 f1 (l ++ x) w1' he2 (by rw [List.length_append]; omega)
  refine ⟨S2, by rw [e1]; exact e2, by rw [← List.append_assoc]; exact w2, fun i k a b => (f2 i k a b).trans (Fo_fw f1 i k a b)⟩
section BDYM
variable {n c : Nat} {t kd lt ct il : Nat → Nat} {ic : Nat → Nat → Nat}
theorem mo_bi {k s : Nat} (hk : k < c) (hkd : kd k = 4) (hs : s < 1000) {y : List Nat} (K : Int32 → zSt → Option zSt) : ∀ q m j e S, Ro S n c t kd lt ct il ic → ct k - j ≤ q → ct k - j < m → j ≤ ct k → e = decide (s + j = 0) → (∀ S', Fo true S S' → Pz S' (decide (s + ct k = 0)) y (K (nI (k + 1)) S')) → Pz S e (bdI lt ct il ic k s q j ++ y) (f_Mo_compose_51 K m (nI k) (nI j) S) := by
  intro q
  induction q with
  | zero =>
    intro m j e S h h1 h2 h3 he hK
    obtain ⟨m, rfl⟩ : ∃ i, m = i + 1 := ⟨m - 1, by omega⟩
    have hc := h.2.1.1
    obtain ⟨-, p2, p3, -⟩ := h.2.1.2.2.2 k hk
    obtain ⟨q1, q2, q3⟩ := h.2.2.1 k (by omega)
    have c4 : (nI (kd k) = 4) ↔ kd k = 4 := nI_eq (b := 4) (by omega) (by omega)
    rw [f_Mo_compose_51, gdiN (by omega) (by omega), nI_clamp (by omega), p2, if_pos (c4.mpr hkd), gdiN (by omega) (by omega), q2, if_pos ((nI_leI (by omega) (by omega)).mpr (by omega))]
    unfold f_Mo_compose_118
    rw [nI_1]
    have hj : j = ct k := by omega
    subst hj
    rw [he]
    exact hK S Fo_rf
  | succ q ih =>
    intro m j e S h h1 h2 h3 he hK
    obtain ⟨m, rfl⟩ : ∃ i, m = i + 1 := ⟨m - 1, by omega⟩
    have hc := h.2.1.1
    obtain ⟨-, p2, p3, -⟩ := h.2.1.2.2.2 k hk
    obtain ⟨q1, q2, q3⟩ := h.2.2.1 k (by omega)
    have c4 : (nI (kd k) = 4) ↔ kd k = 4 := nI_eq (b := 4) (by omega) (by omega)
    have e3 : (3 * nI k : Int32) + nI j = nI (3 * k + j) := by rw [show (3 : Int32) = nI 3 from rfl, pk_mul, nI_add]
    rw [f_Mo_compose_51, gdiN (by omega) (by omega), nI_clamp (by omega), p2, if_pos (c4.mpr hkd), gdiN (by omega) (by omega), q2, bdI_s]
    by_cases z : ct k ≤ j
    · rw [if_pos ((nI_leI (by omega) (by omega)).mpr z), if_pos z]
      unfold f_Mo_compose_118
      rw [nI_1]
      have hj : j = ct k := by omega
      subst hj
      rw [he]
      exact hK S Fo_rf
    · rw [if_neg (fun w => z ((nI_leI (by omega) (by omega)).mp w)), if_neg z]
      have f84 : ∀ e' S', Fo true S S' → Pz S' e' ([lt k] ++ ([61] ++ (enF 2 (il (3 * k + j)) (ic (3 * k + j)) (il (3 * k + j)) 8 0 ++ (bdI lt ct il ic k s q (j + 1) ++ y)))) (f_Mo_compose_84 K (f_Mo_compose_51 K m) (nI k) (nI j) S') := by
        intro e' S' f1
        have h1' := Ro_fo h f1
        obtain ⟨-, -, -, -, p5, p6⟩ := h1'.2.1.2.2.2 k hk
        unfold f_Mo_compose_84
        rw [gdiN (by omega) (by omega), nI_clamp (by omega), p5, e3]
        refine Pz_bind (Pu_put (by omega)) (fun S2 f2 => ?_)
        refine Pz_bind (Pu_put (b := 61) (by omega)) (fun S3 f3 => ?_)
        have h3' := Ro_fo (Ro_fo h1' f2) f3
        refine Pz_bind (mo_encode8 (h3'.2.2.2 (3 * k + j) (by omega)) (md := 2) (by omega)) (fun S4 f4 => ?_)
        rw [nI_1]
        refine ih m (j + 1) _ S4 (Ro_fo h3' f4) (by omega) (by omega) (by omega) ?_ (fun S5 f5 => hK S5 (Fo_tr f1 (Fo_tr f2 (Fo_tr f3 (Fo_tr f4 f5)))))
        have z1 : em0 [lt k] = false := rfl
        have z2 : ¬ (s + (j + 1) = 0) := by omega
        rw [z1, decide_eq_false z2]
        simp
      intro l hl hle hb
      have e15 : S 66 15 = nI l.length := hl.2.1
      have c15 : (nI l.length ≤ 0) ↔ l.length ≤ 0 := nI_leI (b := 0) (by simp at hb; omega) (by omega)
      rw [e15]
      simp only [c15]
      have hls : (l.length = 0) ↔ s + j = 0 := by
        have : em0 l = decide (s + j = 0) := by rw [hle, he]
        unfold em0 at this
        exact decide_eq_decide.mp this
      by_cases y0 : s + j = 0
      · rw [if_pos y0, List.nil_append] at hb
        rw [if_pos y0, if_pos (show l.length ≤ 0 by omega), List.nil_append]
        simp only [List.append_assoc] at hb ⊢
        exact f84 e S Fo_rf l hl hle hb
      · rw [if_neg y0] at hb
        rw [if_neg y0, if_neg (show ¬ l.length ≤ 0 by omega)]
        simp only [List.append_assoc] at hb ⊢
        exact Pz_bind (e := e) (Pu_put (b := 38) (by omega)) (fun S1 f1 => f84 _ S1 f1) l hl hle hb
theorem mo_bo (hx : (∀ k, k < c → kd k ≠ 4) ∨ (∀ k, k < c → kd k ≠ 5)) : ∀ q m k s e S, Ro S n c t kd lt ct il ic → k ≤ c → c - k ≤ q → c - k < m → s ≤ 3 * k → ((∀ k, k < c → kd k ≠ 5) → e = decide (s = 0)) → Pz S e (bdO c kd lt ct il ic q k s) (f_Mo_compose_12 m (nI k) S) := by
  have done : ∀ S e, Pz S e [] (gdb 0 (sq (su S 66 14 0) fun S4 => (some S4))) := by
    intro S e l hl he hb
    rw [gdb_0]
    refine ⟨_, rfl, ⟨su_eq, ?_, fun j hj => ?_⟩, fun i k a b => su_ne (by omega)⟩
    · rw [su_ne (by omega), List.append_nil]; exact hl.2.1
    · rw [List.append_nil] at hj ⊢
      rw [su_ne (by omega)]; exact hl.2.2 j hj
  intro q
  induction q with
  | zero =>
    intro m k s e S h h0 h1 h2 h3 he
    obtain ⟨m, rfl⟩ : ∃ i, m = i + 1 := ⟨m - 1, by omega⟩
    have hc := h.2.1.1
    rw [f_Mo_compose_12, h.2.1.2.2.1, if_pos ((nI_leI (by omega) (by omega)).mpr (by omega))]
    exact done S e
  | succ q ih =>
    intro m k s e S h h0 h1 h2 h3 he
    obtain ⟨m, rfl⟩ : ∃ i, m = i + 1 := ⟨m - 1, by omega⟩
    have hc := h.2.1.1
    rw [f_Mo_compose_12, h.2.1.2.2.1, bdO_s]
    by_cases z : c ≤ k
    · rw [if_pos ((nI_leI (by omega) (by omega)).mpr z), if_pos z]
      exact done S e
    · obtain ⟨-, p2, p3, -⟩ := h.2.1.2.2.2 k (by omega)
      obtain ⟨q1, q2, q3⟩ := h.2.2.1 k (by omega)
      have c5 : (nI (kd k) = 5) ↔ kd k = 5 := nI_eq (b := 5) (by omega) (by omega)
      have c4 : (nI (kd k) = 4) ↔ kd k = 4 := nI_eq (b := 4) (by omega) (by omega)
      have c0 : (nI (ct k) ≤ 0) ↔ ct k ≤ 0 := nI_leI (b := 0) (by omega) (by omega)
      have gk : ∀ x : Option zSt, gdi (nI k) 6 x = x := fun x => gdiN (by omega) (by omega)
      have ek : (nI k).toNatClampNeg = k := nI_clamp (by omega)
      have e3 : (3 * nI k : Int32) = nI (3 * k) := by rw [show (3 : Int32) = nI 3 from rfl, pk_mul]
      rw [if_neg (fun w => z ((nI_leI (by omega) (by omega)).mp w)), if_neg z]
      simp only [gk, ek]
      rw [p2, q2, e3]
      simp only [c5, c0]
      unfold f_Mo_compose_49
      have nx : ∀ s' e' S', s' ≤ 3 * (k + 1) → ((∀ k, k < c → kd k ≠ 5) → e' = decide (s' = 0)) → Fo true S S' → Pz S' e' (bdO c kd lt ct il ic q (k + 1) s') (f_Mo_compose_12 m (nI (k + 1)) S') := fun s' e' S' hs' he' f1 => ih m (k + 1) s' e' S' (Ro_fo h f1) (by omega) (by omega) (by omega) hs' he'
      have skip : kd k ≠ 4 → ∀ e' S', ((∀ k, k < c → kd k ≠ 5) → e' = decide (s = 0)) → Fo true S S' → Pz S' e' (bdO c kd lt ct il ic q (k + 1) s) (f_Mo_compose_51 (f_Mo_compose_12 m) fu (nI k) 0 S') := by
        intro hk4 e' S' he' f1
        obtain ⟨-, p2', -⟩ := (Ro_fo h f1).2.1.2.2.2 k (by omega)
        rw [show fu = 3999 + 1 from rfl, f_Mo_compose_51, gk, ek, p2', if_neg (fun w => hk4 (c4.mp w))]
        unfold f_Mo_compose_118
        rw [nI_1]
        exact nx s e' S' (by omega) he' f1
      by_cases y : kd k = 5
      · have no5 : ¬ (∀ k, k < c → kd k ≠ 5) := fun w => w k (by omega) y
        rw [if_pos y, if_pos y]
        by_cases y2 : ct k ≤ 0
        · rw [if_pos y2, if_pos (by omega), List.nil_append]
          exact skip (by omega) e S (fun w => absurd w no5) Fo_rf
        · rw [if_neg y2, if_neg (by omega)]
          refine Pz_bind (mo_encode8 (h.2.2.2 (3 * k) (by omega)) (md := 3) (by omega)) (fun S1 f1 => ?_)
          exact skip (by omega) _ S1 (fun w => absurd w no5) f1
      · rw [if_neg y, if_neg y]
        by_cases y4 : kd k = 4
        · rw [if_pos y4]
          have h5 : ∀ k, k < c → kd k ≠ 5 := by
            rcases hx with w | w
            · exact absurd y4 (w k (by omega))
            · exact w
          exact mo_bi (by omega) y4 (by omega) (f_Mo_compose_12 m) 3 fu 0 e S h (by omega) (by unfold fu; omega) (by omega) (he h5) (fun S' f1 => nx (s + ct k) _ S' (by omega) (fun _ => rfl) f1)
        · rw [if_neg y4]
          exact skip y4 e S he Fo_rf
theorem mo_compose {S : zSt} (h : Ro S n c t kd lt ct il ic) (hx : (∀ k, k < c → kd k ≠ 4) ∨ (∀ k, k < c → kd k ≠ 5)) : ∃ S', f_Mo_compose S = some S' ∧ Bw S' (bdO c kd lt ct il ic 6 0 0) ∧ Fw S S' := by
  have hc := h.2.1.1
  unfold f_Mo_compose sq
  dsimp only
  rw [gdb_1]
  have hR : Ro (su (su S 66 15 0) 66 14 1) n c t kd lt ct il ic := Ro_gen h (fun i k hh => by rw [su_ne (by omega), su_ne (by omega)])
  have hW : Wp true (su (su S 66 15 0) 66 14 1) [] false := ⟨su_eq, by rw [su_ne (by omega), su_eq]; rfl, fun j hj => absurd hj (Nat.not_lt_zero j)⟩
  have hl := bdO_len h 6 0 0
  obtain ⟨S', w1, w2, w3⟩ := mo_bo hx 6 fu 0 0 true _ hR (by omega) (by omega) (by unfold fu; omega) (by omega) (fun _ => rfl) [] hW rfl (by simp; omega)
  refine ⟨S', w1, w2, fun i k a b => ?_⟩
  rw [w3 i k a b, su_ne (by omega), su_ne (by omega)]
end BDYM
