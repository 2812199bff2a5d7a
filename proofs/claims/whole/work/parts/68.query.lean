-- the target: the template and the query's items, on either side
def d63 (x : List Nat) : Bool := decide (63 ∈ x)
theorem d63_app (x y : List Nat) : d63 (x ++ y) = (d63 x || d63 y) := by
  unfold d63
  simp [List.mem_append, Bool.decide_or]
def Pvb (S : zSt) (b : Bool) (x : List Nat) (o : Option zSt) : Prop := ∀ l, Wp false S l b → l.length + x.length ≤ 100000 → ∃ S', o = some S' ∧ Wp false S' (l ++ x) (b || d63 x) ∧ Fo false S S'
theorem Pvb_pu {S : zSt} {x : List Nat} {o : Option zSt} (h : Pu false S x o) (b : Bool) : Pvb S b x o := fun l hl hb => h l b hl hb
theorem Pvb_nil {S : zSt} {b : Bool} : Pvb S b [] (some S) := Pvb_pu Pu_nil b
theorem Pvb_bind {S : zSt} {b : Bool} {x y : List Nat} {o : Option zSt} {f : zSt → Option zSt} (h : Pvb S b x o) (hf : ∀ S', Fo false S S' → Pvb S' (b || d63 x) y (f S')) : Pvb S b (x ++ y) (o.bind f) := by
  intro l hl hb
  rw [List.length_append] at hb
  obtain ⟨S1, e1, w1, f1⟩ := h l hl (by omega)
  obtain ⟨S2, e2, w2, f2⟩ := hf S1 f1 (l ++ x) w1 (by rw [List.length_append]; omega)
  refine ⟨S2, by rw [e1]; exact e2, ?_, Fo_tr f1 f2⟩
  rw [← List.append_assoc, d63_app, ← Bool.or_assoc]
  exact w2
def Pcb (k : Nat) (S : zSt) (b : Bool) (x : List Nat) (o : Option zSt) : Prop := ∀ l, Wc S k l → d63 l = b → l.length + x.length ≤ 100000 → ∃ S', o = some S' ∧ Wc S' k (l ++ x) ∧ Fp k S S'
theorem Pcb_pc {k : Nat} {S : zSt} {x : List Nat} {o : Option zSt} (h : Pc k S x o) (b : Bool) : Pcb k S b x o := fun l hl _ hb => h l hl hb
theorem Pcb_bind {k : Nat} {S : zSt} {b : Bool} {x y : List Nat} {o : Option zSt} {f : zSt → Option zSt} (h : Pcb k S b x o) (hf : ∀ S', Fp k S S' → Pcb k S' (b || d63 x) y (f S')) : Pcb k S b (x ++ y) (o.bind f) := by
  intro l hl hd hb
  rw [List.length_append] at hb
  obtain ⟨S1, e1, w1, f1⟩ := h l hl hd (by omega)
  obtain ⟨S2, e2, w2, f2⟩ := hf S1 f1 (l ++ x) w1 (by rw [d63_app, hd]) (by rw [List.length_append]; omega)
  refine ⟨S2, by rw [e1]; exact e2, by rw [← List.append_assoc]; exact w2, Fp_tr f1 f2⟩
theorem mem_gd {l : List Nat} {x : Nat} : x ∈ l ↔ ∃ j, j < l.length ∧ l.getD j 0 = x := by
  constructor
  · intro h
    obtain ⟨j, hj, e⟩ := List.getElem_of_mem h
    exact ⟨j, hj, by simp [List.getD_eq_getElem?_getD, hj, e]⟩
  · rintro ⟨j, hj, e⟩
    rw [← e]
    exact gd_mem hj
theorem has_lp {k : Nat} (hk : k < 4) {S : zSt} {l : List Nat} (h : Wc S k l) (hl : l.length ≤ 100000) : ∀ m i, i ≤ min l.length (bl k) → min l.length (bl k) - i < m → f_ByteRow_has_2 m k 63 (nI i) S = some (bI (anyF (fun j => decide (l.getD j 0 = 63)) (min l.length (bl k) - i) i)) := by
  have hbl := bl_le k hk
  intro m
  induction m with
  | zero => intro i a b; omega
  | succ m ih =>
    intro i a b
    rw [f_ByteRow_has_2, h.1]
    by_cases z1 : l.length ≤ i
    · rw [if_pos ((nI_leI (by omega) (by omega)).mpr z1), show min l.length (bl k) - i = 0 by omega, gdb_0]
      rfl
    · have cb : (Int32.ofNat (bl k) ≤ nI i) ↔ bl k ≤ i := nI_leI (a := bl k) (by omega) (by omega)
      rw [if_neg (fun y => z1 ((nI_leI (by omega) (by omega)).mp y))]
      simp only [cb]
      by_cases z2 : bl k ≤ i
      · rw [if_pos z2, show min l.length (bl k) - i = 0 by omega, gdb_0]
        rfl
      · have c := bN_63 _ (h.2.2 _ (gd_mem (l := l) (i := i) (by omega)))
        obtain ⟨j, hj⟩ : ∃ j, min l.length (bl k) - i = j + 1 := ⟨min l.length (bl k) - i - 1, by omega⟩
        have i1 := ih (i + 1) (by omega) (by omega)
        rw [show min l.length (bl k) - (i + 1) = j by omega] at i1
        rw [if_neg z2, gdiN (by omega) (by omega), nI_clamp (by omega), h.2.1 i (by omega) (by omega), nI_1, i1, hj, anyF_s]
        simp only [c, gdb_1]
        by_cases y : l.getD i 0 = 63
        · rw [if_pos y, decide_eq_true y]
          rfl
        · rw [if_neg y, decide_eq_false y, Bool.false_or]
theorem cl_has {k : Nat} (hk : k < 4) {S : zSt} {l : List Nat} (h : Wc S k l) (hl : l.length ≤ 100000) : ∃ b, f_ByteRow_has k 63 S = some (bI b) ∧ (l.length < bl k → b = d63 l) := by
  have hbl := bl_le k hk
  refine ⟨_, has_lp hk h hl fu 0 (by omega) (by unfold fu; omega), fun hlt => ?_⟩
  rw [Nat.sub_zero]
  unfold d63
  rw [Bool.eq_iff_iff, anyF_iff, decide_eq_true_iff, mem_gd]
  constructor
  · rintro ⟨o, a, b, e⟩
    exact ⟨o, by omega, by simpa using e⟩
  · rintro ⟨o, a, e⟩
    exact ⟨o, by omega, by omega, by simpa using e⟩
section QRY
variable (c : Nat) (kd lt ct il : Nat → Nat) (ic : Nat → Nat → Nat)
def qI (k : Nat) (tail : Bool → List Nat) : Nat → Nat → Bool → List Nat
  | 0, _, b => tail b
  | q + 1, j, b => if ct k ≤ j then tail b else [if b = true then 38 else 63] ++ ([lt k] ++ ([61] ++ (enF 0 (il (3 * k + j)) (ic (3 * k + j)) (il (3 * k + j)) 8 0 ++ qI k tail q (j + 1) true)))
theorem qI_s (k : Nat) (tail : Bool → List Nat) (q j : Nat) (b : Bool) : qI lt ct il ic k tail (q + 1) j b = if ct k ≤ j then tail b else [if b = true then 38 else 63] ++ ([lt k] ++ ([61] ++ (enF 0 (il (3 * k + j)) (ic (3 * k + j)) (il (3 * k + j)) 8 0 ++ qI lt ct il ic k tail q (j + 1) true))) := rfl
def qO : Nat → Nat → Bool → List Nat
  | 0, _, _ => []
  | q + 1, k, b => if c ≤ k then [] else if kd k = 2 then qI lt ct il ic k (fun b' => qO q (k + 1) b') 3 0 b else qO q (k + 1) b
theorem qO_s (q k : Nat) (b : Bool) : qO c kd lt ct il ic (q + 1) k b = if c ≤ k then [] else if kd k = 2 then qI lt ct il ic k (fun b' => qO c kd lt ct il ic q (k + 1) b') 3 0 b else qO c kd lt ct il ic q (k + 1) b := rfl
end QRY
section QRYM
variable {n c : Nat} {t kd lt ct il : Nat → Nat} {ic : Nat → Nat → Nat}
theorem mo_q68 {k : Nat} (hk : k < c) (hkd : kd k = 2) {tail : Bool → List Nat} (K : Int32 → zSt → Option zSt) (hK : ∀ b S', Ro S' n c t kd lt ct il ic → Pvb S' b (tail b) (K (nI (k + 1)) S')) : ∀ q m j b S, Ro S n c t kd lt ct il ic → ct k - j ≤ q → ct k - j < m → j ≤ 3 → Pvb S b (qI lt ct il ic k tail q j b) (f_Mo_target_68 K m (nI k) (nI j) S) := by
  intro q
  induction q with
  | zero =>
    intro m j b S h h1 h2 h3
    obtain ⟨m, rfl⟩ : ∃ i, m = i + 1 := ⟨m - 1, by omega⟩
    have hc := h.2.1.1
    obtain ⟨-, p2, -⟩ := h.2.1.2.2.2 k hk
    obtain ⟨-, q2, q3⟩ := h.2.2.1 k (by omega)
    have c2 : (nI (kd k) = 2) ↔ kd k = 2 := nI_eq (b := 2) (by omega) (by omega)
    rw [f_Mo_target_68, gdiN (by omega) (by omega), nI_clamp (by omega), p2, if_pos (c2.mpr hkd), gdiN (by omega) (by omega), q2, if_pos ((nI_leI (by omega) (by omega)).mpr (by omega))]
    unfold f_Mo_target_140
    rw [nI_1]
    exact hK b S h
  | succ q ih =>
    intro m j b S h h1 h2 h3
    obtain ⟨m, rfl⟩ : ∃ i, m = i + 1 := ⟨m - 1, by omega⟩
    have hc := h.2.1.1
    obtain ⟨-, p2, -⟩ := h.2.1.2.2.2 k hk
    obtain ⟨-, q2, q3⟩ := h.2.2.1 k (by omega)
    have c2 : (nI (kd k) = 2) ↔ kd k = 2 := nI_eq (b := 2) (by omega) (by omega)
    have e3 : (3 * nI k : Int32) + nI j = nI (3 * k + j) := by rw [show (3 : Int32) = nI 3 from rfl, pk_mul, nI_add]
    rw [f_Mo_target_68, gdiN (by omega) (by omega), nI_clamp (by omega), p2, if_pos (c2.mpr hkd), gdiN (by omega) (by omega), q2, qI_s]
    by_cases z : ct k ≤ j
    · rw [if_pos ((nI_leI (by omega) (by omega)).mpr z), if_pos z]
      unfold f_Mo_target_140
      rw [nI_1]
      exact hK b S h
    · rw [if_neg (fun y => z ((nI_leI (by omega) (by omega)).mp y)), if_neg z]
      have f103 : ∀ x, x < 256 → (b || d63 [x]) = true → Pvb S b ([x] ++ ([lt k] ++ ([61] ++ (enF 0 (il (3 * k + j)) (ic (3 * k + j)) (il (3 * k + j)) 8 0 ++ qI lt ct il ic k tail q (j + 1) true)))) (f_Mo_target_103 K (f_Mo_target_68 K m) (nI k) (nI j) (nI x) S) := by
        intro x hx hb
        unfold f_Mo_target_103
        refine Pvb_bind (Pvb_pu (Pu_put hx) b) (fun S1 f1 => ?_)
        have h1' := Ro_fo h f1
        obtain ⟨-, -, -, -, p5, p6⟩ := h1'.2.1.2.2.2 k hk
        rw [gdiN (by omega) (by omega), nI_clamp (by omega), p5, hb, e3]
        refine Pvb_bind (Pvb_pu (Pu_put (by omega)) true) (fun S2 f2 => ?_)
        rw [Bool.true_or]
        refine Pvb_bind (Pvb_pu (Pu_put (b := 61) (by omega)) true) (fun S3 f3 => ?_)
        rw [Bool.true_or]
        have h3' := Ro_fo (Ro_fo h1' f2) f3
        refine Pvb_bind (Pvb_pu (mo_encode8 (h3'.2.2.2 (3 * k + j) (by omega)) (md := 0) (by omega)) true) (fun S4 f4 => ?_)
        rw [Bool.true_or, nI_1]
        exact ih m (j + 1) true S4 (Ro_fo h3' f4) (by omega) (by omega) (by omega)
      intro l hl hb
      have e13 : (S 66 13 = 0) ↔ b = false := hl.2.2.2
      simp only [e13]
      cases hbb : b with
      | false =>
        rw [hbb] at f103 hl hb
        rw [if_pos rfl]
        exact f103 63 (by omega) (by decide) l hl hb
      | true =>
        rw [hbb] at f103 hl hb
        rw [if_neg (by decide)]
        exact f103 38 (by omega) rfl l hl hb
theorem mo_q58 : ∀ q m k b S, Ro S n c t kd lt ct il ic → k ≤ c → c - k ≤ q → c - k < m → Pvb S b (qO c kd lt ct il ic q k b) (f_Mo_target_58 m (nI k) S) := by
  intro q
  induction q with
  | zero =>
    intro m k b S h h0 h1 h2
    obtain ⟨m, rfl⟩ : ∃ i, m = i + 1 := ⟨m - 1, by omega⟩
    have hc := h.2.1.1
    rw [f_Mo_target_58, h.2.1.2.2.1, if_pos ((nI_leI (by omega) (by omega)).mpr (by omega))]
    exact Pvb_nil
  | succ q ih =>
    intro m k b S h h0 h1 h2
    obtain ⟨m, rfl⟩ : ∃ i, m = i + 1 := ⟨m - 1, by omega⟩
    have hc := h.2.1.1
    rw [f_Mo_target_58, h.2.1.2.2.1, qO_s]
    by_cases z : c ≤ k
    · rw [if_pos ((nI_leI (by omega) (by omega)).mpr z), if_pos z]
      exact Pvb_nil
    · rw [if_neg (fun y => z ((nI_leI (by omega) (by omega)).mp y)), if_neg z]
      obtain ⟨-, p2, p3, -⟩ := h.2.1.2.2.2 k (by omega)
      have nx : ∀ b S', Ro S' n c t kd lt ct il ic → Pvb S' b (qO c kd lt ct il ic q (k + 1) b) (f_Mo_target_58 m (nI (k + 1)) S') := fun b S' h' => ih m (k + 1) b S' h' (by omega) (by omega) (by omega)
      by_cases y : kd k = 2
      · rw [if_pos y]
        have hct := (h.2.2.1 k (by omega)).2.2
        exact mo_q68 (by omega) y (f_Mo_target_58 m) nx 3 fu 0 b S h (by omega) (by unfold fu; omega) (by omega)
      · have c2 : (nI (kd k) = 2) ↔ kd k = 2 := nI_eq (b := 2) (by omega) (by omega)
        rw [if_neg y, show fu = 3999 + 1 from rfl, f_Mo_target_68, gdiN (by omega) (by omega), nI_clamp (by omega), p2, if_neg (fun w => y (c2.mp w))]
        unfold f_Mo_target_140
        rw [nI_1]
        exact nx b S h
theorem mo_tgt_lp (hd : dgH n t) : ∀ m pos b S, Ro S n c t kd lt ct il ic → pos ≤ n → n - pos < m → rn t (n - pos) 0 pos = 0 → Pvb S b (clF n c t kd lt ct il ic (n - pos) pos false false 0 ++ qO c kd lt ct il ic 6 0 (b || d63 (clF n c t kd lt ct il ic (n - pos) pos false false 0))) (f_Mo_target_7 m (nI pos) S) := by
  intro m
  induction m with
  | zero => intro pos b S h a b'; omega
  | succ m ih =>
    intro pos b S h hp hm hw
    have hT := h.1
    have hn := hT.1
    have hc := h.2.1.1
    rw [f_Mo_target_7, hT.2.2.1]
    by_cases z : n ≤ pos
    · rw [if_pos ((nI_leI (by omega) (by omega)).mpr z), show n - pos = 0 by omega]
      have := mo_q58 6 fu 0 b S h (by omega) (by omega) (by unfold fu; omega)
      have e : (b || d63 (clF n c t kd lt ct il ic 0 pos false false 0)) = b := by
        show (b || d63 []) = b
        unfold d63
        simp
      rw [e]
      exact this
    · obtain ⟨-, a67, l1, l2⟩ := hT.2.2.2 pos (by omega)
      have c123 : (nI (t pos) = 123) ↔ t pos = 123 := nI_eq (b := 123) (by omega) (by omega)
      rw [if_neg (fun y => z ((nI_leI (by omega) (by omega)).mp y)), gdiN (by omega) (by omega), nI_clamp (by omega), a67]
      simp only [c123]
      by_cases y : t pos = 123
      · obtain ⟨e, w1, w2, w3, w4, w5, w6⟩ := ex_end hT (by omega) y hw
        rw [if_pos y]
        have hex := clF_ex n c t kd lt ct il ic w3 w4 (opN n t pos) (e - 1 - (pos + 1)) (pos + 1) false (by omega) w5
        have ecl : clF n c t kd lt ct il ic (n - pos) pos false false 0 = exL n c t kd lt ct il ic (opN n t pos) (e - 1 - (pos + 1)) (pos + 1) false ++ clF n c t kd lt ct il ic (n - e) e false false 0 := by
          rw [show n - pos = (n - (pos + 1)) + 1 by omega, clF_s, if_pos y]
          exact hex
        have pex : Pu false S (exL n c t kd lt ct il ic (opN n t pos) (e - 1 - (pos + 1)) (pos + 1) false) (f_Mo_expression (nI pos) S) := by
          obtain ⟨-, b67, l3, l4⟩ := hT.2.2.2 (pos + 1) (by omega)
          have et : tat n t (pos + 1) = t (pos + 1) := tat_in (by omega)
          have f26 : Pu false S (exL n c t kd lt ct il ic (opN n t pos) (e - 1 - (pos + 1)) (pos + 1) false) (f_Mo_expression_26 (nI pos) (nI (opN n t pos)) S) := by
            unfold f_Mo_expression_26
            rw [w1]
            simp only [Option.bind_some]
            rw [nI_1]
            exact mo_exp hd (opN_ok n t pos) w3 w4 (e - 1 - (pos + 1)) fu (pos + 1) false S h (by omega) (by unfold fu; omega) w5
          unfold f_Mo_expression
          rw [nI_1, gdiN (by omega) (by omega), nI_clamp (by omega), b67, mo_op S (by omega)]
          simp only [Option.bind_some, bI_0]
          unfold opN at f26
          rw [et] at f26
          unfold opN
          rw [et]
          cases ho : cOp (t (pos + 1)) with
          | false =>
            rw [ho, if_neg (by decide)] at f26
            rw [if_pos rfl, if_neg (by decide)]
            exact f26
          | true =>
            rw [ho, if_pos rfl] at f26
            rw [if_pos (show true = true from rfl), if_neg (show ¬ (true = false) by decide), gdiN (by omega) (by omega)]
            exact f26
        rw [ecl, d63_app, List.append_assoc, ← Bool.or_assoc]
        refine Pvb_bind (Pvb_pu pex b) (fun S1 f1 => ?_)
        have h1 := Ro_fo h f1
        obtain ⟨e', v1, v2, v3, v4, v5, v6⟩ := ex_end h1.1 (by omega) y hw
        have hee : e' = e := by
          by_cases q : e' < e
          · exact absurd v4 (w5 (e' - 1) (by omega) (by omega)).1
          · by_cases q2 : e < e'
            · exact absurd w4 (v5 (e - 1) (by omega) (by omega)).1
            · omega
        subst hee
        rw [v1]
        simp only [Option.bind_some]
        exact ih e' _ S1 h1 v3 (by omega) v6
      · rw [if_neg y, gdiN (by omega) (by omega)]
        have hw' := hw
        rw [rn_step (by omega)] at hw'
        have hpl : pl 0 (t pos) = 0 := by
          have hh : pl 0 (t pos) = 0 ∨ pl 0 (t pos) = 6 := by
            unfold pl
            rw [if_pos rfl, if_neg y]
            split
            · exact Or.inl rfl
            · exact Or.inr rfl
          rcases hh with hh | hh
          · exact hh
          · rw [hh, rn_6] at hw'; cases hw'
        rw [hpl] at hw'
        have h125 : t pos ≠ 125 := by
          intro w
          rw [w] at hpl
          exact absurd hpl (by decide)
        have ecl : clF n c t kd lt ct il ic (n - pos) pos false false 0 = [t pos] ++ clF n c t kd lt ct il ic (n - (pos + 1)) (pos + 1) false false 0 := by
          rw [show n - pos = (n - (pos + 1)) + 1 by omega, clF_s, if_neg y, if_neg h125, if_pos rfl]
        rw [ecl, d63_app, List.append_assoc, ← Bool.or_assoc]
        refine Pvb_bind (Pvb_pu (Pu_put (by omega)) b) (fun S1 f1 => ?_)
        rw [nI_1]
        exact ih (pos + 1) _ S1 (Ro_fo h f1) (by omega) (by omega) hw'
end QRYM
section QRYC
variable {n c : Nat} {t kd lt ct il : Nat → Nat} {ic : Nat → Nat → Nat}
theorem cl_qi {k1 : Nat} (hk1 : k1 < 4) {k : Nat} (hk : k < c) : ∀ q m j b S, Ro S n c t kd lt ct il ic → ct k - j ≤ q → ct k - j < m → j ≤ 3 → Pcb k1 S b (qI lt ct il ic k (fun _ => []) q j b) (f_RequestWriter_putQueryItems_2 m k1 k (nI j) S) := by
  intro q
  induction q with
  | zero =>
    intro m j b S h h1 h2 h3
    obtain ⟨m, rfl⟩ : ∃ i, m = i + 1 := ⟨m - 1, by omega⟩
    have hc := h.2.1.1
    obtain ⟨q1, q2, q3⟩ := h.2.2.1 k (by omega)
    rw [f_RequestWriter_putQueryItems_2, q1, if_pos ((nI_leI (by omega) (by omega)).mpr (by omega))]
    exact Pcb_pc Pc_nil b
  | succ q ih =>
    intro m j b S h h1 h2 h3
    obtain ⟨m, rfl⟩ : ∃ i, m = i + 1 := ⟨m - 1, by omega⟩
    have hc := h.2.1.1
    obtain ⟨q1, q2, q3⟩ := h.2.2.1 k (by omega)
    rw [f_RequestWriter_putQueryItems_2, q1, qI_s]
    by_cases z : ct k ≤ j
    · rw [if_pos ((nI_leI (by omega) (by omega)).mpr z), if_pos z]
      exact Pcb_pc Pc_nil b
    · rw [if_neg (fun y => z ((nI_leI (by omega) (by omega)).mp y)), if_neg z, gdiN (by omega) (by omega), nI_clamp (by omega)]
      have rest : ∀ S1, Fp k1 S S1 → Pcb k1 S1 true ([lt k] ++ ([61] ++ (enF 0 (il (3 * k + j)) (ic (3 * k + j)) (il (3 * k + j)) 8 0 ++ qI lt ct il ic k (fun _ => []) q (j + 1) true))) ((f_ByteRow_put k1 (S1 (10 + k) 3) S1).bind fun u4 => ((f_ByteRow_put k1 61 u4).bind fun u5 => ((f_Encoder_putEncoded k1 (3 * k + j) (u5 (22 + (3 * k + j)) 1) 0 u5).bind fun u6 => (f_RequestWriter_putQueryItems_2 m k1 k (nI j + 1) u6)))) := by
        intro S1 f1
        have h1' := Ro_fp hk1 h f1
        obtain ⟨-, -, -, p4, -, p6⟩ := h1'.2.1.2.2.2 k hk
        rw [p4]
        refine Pcb_bind (Pcb_pc (Pc_put hk1 (by omega)) true) (fun S2 f2 => ?_)
        rw [Bool.true_or]
        refine Pcb_bind (Pcb_pc (Pc_put hk1 (b := 61) (by omega)) true) (fun S3 f3 => ?_)
        rw [Bool.true_or]
        have h3' := Ro_fp hk1 (Ro_fp hk1 h1' f2) f3
        have hI := h3'.2.2.2 (3 * k + j) (by omega)
        rw [hI.2.2.1]
        refine Pcb_bind (Pcb_pc (cl_encoded hk1 (md := 0) (by omega) hI (Nat.le_refl _)) true) (fun S4 f4 => ?_)
        rw [Bool.true_or, nI_1]
        exact ih m (j + 1) true S4 (Ro_fp hk1 h3' f4) (by omega) (by omega) (by omega)
      intro l hl hd hb
      have hbl := bl_le k1 hk1
      rw [List.length_append] at hb
      obtain ⟨b', e1, e2⟩ := cl_has hk1 hl (by omega)
      have go : ∀ x, x < 256 → (l.length < bl k1 → x = if b = true then 38 else 63) → ∃ S', f_RequestWriter_putQueryItems_34 (f_RequestWriter_putQueryItems_2 m) k1 k (nI j) (3 * k + j) (nI x) k1 S = some S' ∧ Wc S' k1 (l ++ ([if b = true then 38 else 63] ++ ([lt k] ++ ([61] ++ (enF 0 (il (3 * k + j)) (ic (3 * k + j)) (il (3 * k + j)) 8 0 ++ qI lt ct il ic k (fun _ => []) q (j + 1) true))))) ∧ Fp k1 S S' := by
        intro x hx hxe
        unfold f_RequestWriter_putQueryItems_34
        simp at hb
        obtain ⟨S1, w1, w2, w3⟩ := Wc_put hk1 (b := x) (b' := if b = true then 38 else 63) hx (by split <;> omega) hxe hl (by omega)
        have hd1 : d63 (l ++ [if b = true then 38 else 63]) = true := by
          rw [d63_app, hd]
          cases b <;> decide
        obtain ⟨S2, v1, v2, v3⟩ := rest S1 w3 _ w2 hd1 (by simp; omega)
        refine ⟨S2, by rw [w1]; exact v1, ?_, Fp_tr w3 v3⟩
        rw [← List.append_assoc]
        exact v2
      rw [e1]
      simp only [Option.bind_some, bI_0]
      cases hb' : b' with
      | false =>
        rw [if_pos rfl]
        refine go 63 (by omega) (fun hlt => ?_)
        have : b = false := by rw [← hd, ← e2 hlt, hb']
        rw [this]; rfl
      | true =>
        rw [if_neg (by decide)]
        refine go 38 (by omega) (fun hlt => ?_)
        have : b = true := by rw [← hd, ← e2 hlt, hb']
        rw [this]; rfl
theorem qI_tail (k : Nat) (tail : Bool → List Nat) : ∀ q j b, ∃ b', qI lt ct il ic k tail q j b = qI lt ct il ic k (fun _ => []) q j b ++ tail b' ∧ b' = (b || d63 (qI lt ct il ic k (fun _ => []) q j b)) := by
  intro q
  induction q with
  | zero =>
    intro j b
    refine ⟨b, rfl, ?_⟩
    show b = (b || d63 [])
    unfold d63
    simp
  | succ q ih =>
    intro j b
    rw [qI_s, qI_s]
    by_cases z : ct k ≤ j
    · rw [if_pos z, if_pos z]
      refine ⟨b, rfl, ?_⟩
      unfold d63
      simp
    · rw [if_neg z, if_neg z]
      obtain ⟨b', e1, e2⟩ := ih (j + 1) true
      refine ⟨true, ?_, ?_⟩
      · rw [e1, show b' = true from by rw [e2, Bool.true_or]]
        simp only [List.append_assoc]
      · rw [d63_app]
        cases b with
        | true => rfl
        | false => rw [show d63 [if false = true then 38 else 63] = true from by decide]; rfl
theorem cl_qo {k1 : Nat} (hk1 : k1 < 4) : ∀ q m k b S, Ro S n c t kd lt ct il ic → k ≤ c → c - k ≤ q → c - k < m → Pcb k1 S b (qO c kd lt ct il ic q k b) (f_RequestWriter_putQuery_2 m k1 (nI k) S) := by
  intro q
  induction q with
  | zero =>
    intro m k b S h h0 h1 h2
    obtain ⟨m, rfl⟩ : ∃ i, m = i + 1 := ⟨m - 1, by omega⟩
    have hc := h.2.1.1
    rw [f_RequestWriter_putQuery_2, h.2.1.2.1, if_pos ((nI_leI (by omega) (by omega)).mpr (by omega))]
    exact Pcb_pc Pc_nil b
  | succ q ih =>
    intro m k b S h h0 h1 h2
    obtain ⟨m, rfl⟩ : ∃ i, m = i + 1 := ⟨m - 1, by omega⟩
    have hc := h.2.1.1
    rw [f_RequestWriter_putQuery_2, h.2.1.2.1, qO_s]
    by_cases z : c ≤ k
    · rw [if_pos ((nI_leI (by omega) (by omega)).mpr z), if_pos z]
      exact Pcb_pc Pc_nil b
    · obtain ⟨p1, -, p3, -⟩ := h.2.1.2.2.2 k (by omega)
      have c2 : (nI (kd k) = 2) ↔ kd k = 2 := nI_eq (b := 2) (by omega) (by omega)
      rw [if_neg (fun y => z ((nI_leI (by omega) (by omega)).mp y)), if_neg z, gdiN (by omega) (by omega), nI_clamp (by omega), p1]
      simp only [c2]
      have nx : ∀ b S', Fp k1 S S' → Pcb k1 S' b (qO c kd lt ct il ic q (k + 1) b) (f_RequestWriter_putQuery_36 (f_RequestWriter_putQuery_2 m) k1 (nI k) S') := by
        intro b S' f1
        unfold f_RequestWriter_putQuery_36
        rw [nI_1]
        exact ih m (k + 1) b S' (Ro_fp hk1 h f1) (by omega) (by omega) (by omega)
      by_cases y : kd k = 2
      · rw [if_pos y, if_pos y]
        have hct := (h.2.2.1 k (by omega)).2.2
        obtain ⟨b', e1, e2⟩ := qI_tail (lt := lt) (ct := ct) (il := il) (ic := ic) k (fun b' => qO c kd lt ct il ic q (k + 1) b') 3 0 b
        rw [e1]
        refine Pcb_bind (cl_qi hk1 (by omega) 3 fu 0 b S h (by omega) (by unfold fu; omega) (by omega)) (fun S1 f1 => ?_)
        rw [← e2]
        exact nx b' S1 f1
      · rw [if_neg y, if_neg y]
        exact nx b S Fp_rf
end QRYC
