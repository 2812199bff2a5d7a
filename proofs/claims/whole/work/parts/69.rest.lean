-- words, headers, the number, on either side
def liL (q : Nat) : List Nat := (bytS.getD q []).map Int32.toNatClampNeg
theorem li_len (q : Nat) : (liL q).length = (bytS.getD q []).length := by
  unfold liL
  rw [List.length_map]
theorem li_get {q j : Nat} (h : j < (bytS.getD q []).length) : (liL q).getD j 0 = lN_ q j := by
  unfold liL lN_
  generalize bytS.getD q [] = l at h ⊢
  simp [List.getD_eq_getElem?_getD, h]
section WORDS
theorem cl_text_lp {k : Nat} (hk : k < 4) {q : Nat} (hq : q < nS) : ∀ m i S, i ≤ (bytS.getD q []).length → (bytS.getD q []).length - i < m → Pc k S ((liL q).drop i) (f_ByteRow_putText_2 m k q (nI i) S) := by
  obtain ⟨h1, h2, -⟩ := by_ok q hq
  have hl := li_len q
  intro m
  induction m with
  | zero => intro i S a b; omega
  | succ m ih =>
    intro i S a b
    rw [f_ByteRow_putText_2, str_len S q hq, h1]
    simp only [Option.bind_some]
    by_cases hi : (bytS.getD q []).length ≤ i
    · rw [if_pos ((nI_leI (by omega) (by omega)).mpr hi), List.drop_eq_nil_of_le (by omega)]
      exact Pc_nil
    · obtain ⟨e1, e2⟩ := lN_ok q hq i (by omega)
      rw [if_neg (fun z => hi ((nI_leI (by omega) (by omega)).mp z)), str_at S hq (by omega), dr_cons (by omega), li_get (by omega)]
      simp only [Option.bind_some]
      show Pc k S ([lN_ q i] ++ (liL q).drop (i + 1)) _
      refine Pc_bind (Pc_put hk (by omega)) (fun S1 f1 => ?_)
      rw [nI_1]
      exact ih (i + 1) S1 (by omega) (by omega)
theorem cl_text {k : Nat} (hk : k < 4) {q : Nat} (hq : q < nS) {S : zSt} : Pc k S (liL q) (f_ByteRow_putText k q S) := cl_text_lp hk hq fu 0 S (by omega) (by unfold fu; have := (by_ok q hq).2.1; omega)
variable {as : Bool}
theorem mo_spell_lp : ∀ (ds : List Nat) (m : Nat) (S : zSt), (∀ d ∈ ds, 0 < d ∧ d < 128) → encN ds < 2 ^ 64 → ds.length < m → Pu as S ds (f_Mo_spell_2 m (lN (encN ds)) S) := by
  intro ds
  induction ds with
  | nil =>
    intro m S h1 h2 h3
    obtain ⟨m, rfl⟩ : ∃ i, m = i + 1 := ⟨m - 1, by simp at h3; omega⟩
    rw [f_Mo_spell_2, if_pos ((lz_0 h2).mpr rfl)]
    exact Pu_nil
  | cons d ds ih =>
    intro m S h1 h2 h3
    have hl : (d :: ds).length = ds.length + 1 := rfl
    obtain ⟨m, rfl⟩ : ∃ i, m = i + 1 := ⟨m - 1, by omega⟩
    obtain ⟨d1, d2⟩ := h1 d (List.mem_cons_self ..)
    have he : encN (d :: ds) = d + 256 * encN ds := rfl
    rw [f_Mo_spell_2, if_neg (fun z => by have := (lz_0 h2).mp z; omega), lz_and h2, lz_shr h2, show encN (d :: ds) % 256 = d by omega, show encN (d :: ds) / 256 = encN ds by omega]
    show Pu as S ([d] ++ ds) _
    refine Pu_bind (Pu_put (by omega)) (fun S1 f1 => ?_)
    exact ih m S1 (fun x hx => h1 x (List.mem_cons_of_mem _ hx)) (by omega) (by omega)
theorem mo_spell {w : Int64} {ds : List Nat} (hw : w = lN (encN ds)) (h1 : ∀ d ∈ ds, 0 < d ∧ d < 128) (h2 : encN ds < 2 ^ 64) (h3 : ds.length < 20) {S : zSt} : Pu as S ds (f_Mo_spell w S) := by
  rw [hw]
  exact mo_spell_lp ds fu S h1 h2 (by unfold fu; omega)
theorem mo_end {S : zSt} : Pu as S [13, 10] (f_Mo_end S) := by
  unfold f_Mo_end
  show Pu as S ([13] ++ [10]) _
  exact Pu_bind (Pu_put (b := 13) (by omega)) (fun S1 f1 => Pu_end (Pu_put (b := 10) (by omega)))
end WORDS
def dcL (L : Nat) : List Nat := (if 1000 ≤ L then [48 + L / 1000 % 10] else []) ++ ((if 100 ≤ L then [48 + L / 100 % 10] else []) ++ ((if 10 ≤ L then [48 + L / 10 % 10] else []) ++ [48 + L / 1 % 10]))
section NUM
theorem nm_dig {L d : Nat} (hL : L < 10000) (hd : 0 < d) (hd2 : d < 10000) : 48 + ((nI L / nI d) - (nI L / nI d) / 10 * 10) = nI (48 + L / d % 10) := by
  have hle : L / d ≤ L := Nat.div_le_self _ _
  have e1 : nI L / nI d = nI (L / d) := pk_div (by omega) hd (by omega)
  have e2 : nI (L / d) - nI (L / d) / 10 * 10 = nI (L / d % 10) := pk_rem (d := 10) (by omega) (by omega) (by omega)
  rw [e1, e2, show (48 : Int32) = nI 48 from rfl, nI_add]
theorem nm_10 {d : Nat} (hd : d < 10000) : nI d / 10 = nI (d / 10) := pk_div (d := 10) (by omega) (by omega) (by omega)
theorem cl_num {k : Nat} (hk : k < 4) {L : Nat} (hL : L < 10000) {S : zSt} : Pc k S (dcL L) (f_ByteRow_putNumber k (nI L) S) := by
  have g10 : ∀ x : Option zSt, gdz 10 x = x := fun x => gdzN (by decide)
  have step : ∀ d m S y, 0 < d → d < 10000 → (∀ S', Fp k S S' → Pc k S' y (f_ByteRow_putNumber_4 m k (nI L) (nI (d / 10)) S')) → Pc k S ((if d ≤ L ∨ d = 1 then [48 + L / d % 10] else []) ++ y) (f_ByteRow_putNumber_4 (m + 1) k (nI L) (nI d) S) := by
    intro d m S y h1 h2 hK
    have c0 : ¬ (nI d ≤ 0) := fun z => by have := (nI_leI (b := 0) (by omega) (by omega)).mp z; omega
    have c1 : (nI d = 1) ↔ d = 1 := nI_eq (b := 1) (by omega) (by omega)
    have cd : nI d ≠ 0 := nI_ne0 h1 (by omega)
    have f31 : ∀ S', Fp k S S' → Pc k S' y (f_ByteRow_putNumber_31 (f_ByteRow_putNumber_4 m) k (nI L) (nI d) S') := by
      intro S' f1
      unfold f_ByteRow_putNumber_31
      rw [g10, nm_10 h2]
      exact hK S' f1
    have f18 : Pc k S ([48 + L / d % 10] ++ y) (f_ByteRow_putNumber_18 (f_ByteRow_putNumber_4 m) k (nI L) (nI d) S) := by
      unfold f_ByteRow_putNumber_18
      rw [gdzN cd, g10, nm_dig hL h1 h2]
      exact Pc_bind (Pc_put hk (by omega)) f31
    rw [f_ByteRow_putNumber_4, if_neg c0]
    simp only [c1]
    by_cases y1 : d ≤ L
    · rw [if_pos ((nI_leI (by omega) (by omega)).mpr y1), if_pos (Or.inl y1)]
      exact f18
    · rw [if_neg (fun z => y1 ((nI_leI (by omega) (by omega)).mp z))]
      by_cases y2 : d = 1
      · rw [if_pos y2, if_pos (Or.inr y2)]
        exact f18
      · rw [if_neg y2, if_neg (by omega), List.nil_append]
        exact f31 S Fp_rf
  unfold f_ByteRow_putNumber dcL
  have e1000 : (if 1000 ≤ L then [48 + L / 1000 % 10] else []) = (if 1000 ≤ L ∨ 1000 = 1 then [48 + L / 1000 % 10] else []) := by simp
  have e100 : (if 100 ≤ L then [48 + L / 100 % 10] else []) = (if 100 ≤ L ∨ 100 = 1 then [48 + L / 100 % 10] else []) := by simp
  have e10 : (if 10 ≤ L then [48 + L / 10 % 10] else []) = (if 10 ≤ L ∨ 10 = 1 then [48 + L / 10 % 10] else []) := by simp
  have e1 : [48 + L / 1 % 10] = (if 1 ≤ L ∨ 1 = 1 then [48 + L / 1 % 10] else []) ++ [] := by simp
  rw [e1000, e100, e10, e1]
  refine step 1000 3999 S _ (by omega) (by omega) (fun S1 f1 => ?_)
  refine step 100 3998 S1 _ (by omega) (by omega) (fun S2 f2 => ?_)
  refine step 10 3997 S2 _ (by omega) (by omega) (fun S3 f3 => ?_)
  refine step 1 3996 S3 _ (by omega) (by omega) (fun S4 f4 => ?_)
  rw [f_ByteRow_putNumber_4, if_pos (by decide)]
  exact Pc_nil
theorem mo_num {as : Bool} {L : Nat} (hL : L < 10000) {S : zSt} : Pu as S (dcL L) (f_Mo_number (nI L) S) := by
  have g10 : ∀ x : Option zSt, gdz 10 x = x := fun x => gdzN (by decide)
  have step : ∀ d m S y, 0 < d → d < 10000 → (∀ S', Fo as S S' → Pu as S' y (f_Mo_number_18 m (nI L) (nI (d / 10)) S')) → Pu as S ([48 + L / d % 10] ++ y) (f_Mo_number_18 (m + 1) (nI L) (nI d) S) := by
    intro d m S y h1 h2 hK
    have c0 : ¬ (nI d ≤ 0) := fun z => by have := (nI_leI (b := 0) (by omega) (by omega)).mp z; omega
    have cd : nI d ≠ 0 := nI_ne0 h1 (by omega)
    rw [f_Mo_number_18, if_neg c0, gdzN cd, g10, nm_dig hL h1 h2]
    refine Pu_bind (Pu_put (by omega)) (fun S1 f1 => ?_)
    rw [g10, nm_10 h2]
    exact hK S1 f1
  have p1 : ∀ m S, Pu as S ([48 + L / 1 % 10] ++ []) (f_Mo_number_18 (m + 1 + 1) (nI L) (nI 1) S) := fun m S => step 1 (m + 1) S [] (by omega) (by omega) (fun S1 f1 => by
    rw [f_Mo_number_18, if_pos (by decide)]
    exact Pu_nil)
  have p10 : ∀ m S, Pu as S ([48 + L / 10 % 10] ++ ([48 + L / 1 % 10] ++ [])) (f_Mo_number_18 (m + 1 + 1 + 1) (nI L) (nI 10) S) := fun m S => step 10 _ S _ (by omega) (by omega) (fun S1 f1 => p1 m S1)
  have p100 : ∀ m S, Pu as S ([48 + L / 100 % 10] ++ ([48 + L / 10 % 10] ++ ([48 + L / 1 % 10] ++ []))) (f_Mo_number_18 (m + 1 + 1 + 1 + 1) (nI L) (nI 100) S) := fun m S => step 100 _ S _ (by omega) (by omega) (fun S1 f1 => p10 m S1)
  have p1000 : ∀ m S, Pu as S ([48 + L / 1000 % 10] ++ ([48 + L / 100 % 10] ++ ([48 + L / 10 % 10] ++ ([48 + L / 1 % 10] ++ [])))) (f_Mo_number_18 (m + 1 + 1 + 1 + 1 + 1) (nI L) (nI 1000) S) := fun m S => step 1000 _ S _ (by omega) (by omega) (fun S1 f1 => p100 m S1)
  have dv : nI L / 10 = nI (L / 10) := pk_div (d := 10) (by omega) (by omega) (by omega)
  have lt1 : (nI (L / 10) < 1) ↔ L / 10 < 1 := nI_ltI (b := 1) (by omega) (by omega)
  have lt10 : (nI (L / 10) < 1 * 10) ↔ L / 10 < 10 := nI_ltI (b := 10) (by omega) (by omega)
  have lt100 : (nI (L / 10) < 1 * 10 * 10) ↔ L / 10 < 100 := nI_ltI (b := 100) (by omega) (by omega)
  have lt1000 : (nI (L / 10) < 1 * 10 * 10 * 10) ↔ L / 10 < 1000 := nI_ltI (b := 1000) (by omega) (by omega)
  unfold f_Mo_number
  rw [show fu = 3996 + 1 + 1 + 1 + 1 from rfl, f_Mo_number_2, g10, dv]
  unfold dcL
  by_cases y1 : L / 10 < 1
  · rw [if_pos (lt1.mpr y1), if_neg (by omega), if_neg (by omega), if_neg (by omega)]
    exact p1 3998 S
  · rw [if_neg (fun z => y1 (lt1.mp z)), f_Mo_number_2, g10, dv]
    by_cases y2 : L / 10 < 10
    · rw [if_pos (lt10.mpr y2), if_neg (by omega), if_neg (by omega), if_pos (by omega)]
      exact p10 3997 S
    · rw [if_neg (fun z => y2 (lt10.mp z)), f_Mo_number_2, g10, dv]
      by_cases y3 : L / 10 < 100
      · rw [if_pos (lt100.mpr y3), if_neg (by omega), if_pos (by omega), if_pos (by omega)]
        exact p100 3996 S
      · rw [if_neg (fun z => y3 (lt100.mp z)), f_Mo_number_2, g10, dv, if_pos (lt1000.mpr (by omega)), if_pos (by omega), if_pos (by omega), if_pos (by omega)]
        exact p1000 3995 S
end NUM
section HDR
variable (c : Nat) (kd lt ct il : Nat → Nat) (ic : Nat → Nat → Nat)
def hI (k : Nat) : Nat → Nat → List Nat
  | 0, _ => []
  | q + 1, j => if ct k ≤ j then [] else (if j = 0 then [] else [44, 32]) ++ (enF 3 (il (3 * k + j)) (ic (3 * k + j)) (il (3 * k + j)) 8 0 ++ hI k q (j + 1))
theorem hI_s (k q j : Nat) : hI ct il ic k (q + 1) j = if ct k ≤ j then [] else (if j = 0 then [] else [44, 32]) ++ (enF 3 (il (3 * k + j)) (ic (3 * k + j)) (il (3 * k + j)) 8 0 ++ hI ct il ic k q (j + 1)) := rfl
def hO : Nat → Nat → List Nat
  | 0, _ => []
  | q + 1, k => if c ≤ k then [] else (if kd k = 3 ∧ 0 < ct k then [120, 45] ++ ([lt k] ++ ([58, 32] ++ (hI ct il ic k 3 0 ++ [13, 10]))) else []) ++ hO q (k + 1)
theorem hO_s (q k : Nat) : hO c kd lt ct il ic (q + 1) k = if c ≤ k then [] else (if kd k = 3 ∧ 0 < ct k then [120, 45] ++ ([lt k] ++ ([58, 32] ++ (hI ct il ic k 3 0 ++ [13, 10]))) else []) ++ hO c kd lt ct il ic q (k + 1) := rfl
end HDR
theorem li_10 : liL 10 = [120, 45] ∧ liL 11 = [58, 32] ∧ liL 12 = [44, 32] ∧ liL 13 = [13, 10] := by decide +kernel
section HDRC
variable {n c : Nat} {t kd lt ct il : Nat → Nat} {ic : Nat → Nat → Nat}
def asH (c : Nat) (kd ct il : Nat → Nat) (ic : Nat → Nat → Nat) : Prop := ∀ k, k < c → kd k = 3 → ∀ j, j < ct k → ∀ i, i < il (3 * k + j) → 32 ≤ ic (3 * k + j) i ∧ ic (3 * k + j) i ≤ 126
theorem cl_hi {k1 : Nat} (hk1 : k1 < 4) (ha : asH c kd ct il ic) {k : Nat} (hk : k < c) (hkd : kd k = 3) : ∀ q m j S, Ro S n c t kd lt ct il ic → ct k - j ≤ q → ct k - j < m → j ≤ 3 → Pc k1 S (hI ct il ic k q j ++ [13, 10]) (f_RequestWriter_putHeader_22 m k1 k (nI j) S) := by
  obtain ⟨l10, l11, l12, l13⟩ := li_10
  have done : ∀ S, Pc k1 S [13, 10] ((f_ByteRow_putText k1 13 S).bind fun u4 => some u4) := by
    intro S
    have := cl_text hk1 (q := 13) (by decide) (S := S)
    rw [l13] at this
    exact Pc_end this
  intro q
  induction q with
  | zero =>
    intro m j S h h1 h2 h3
    obtain ⟨m, rfl⟩ : ∃ i, m = i + 1 := ⟨m - 1, by omega⟩
    have hc := h.2.1.1
    obtain ⟨q1, q2, q3⟩ := h.2.2.1 k (by omega)
    rw [f_RequestWriter_putHeader_22, q1, if_pos ((nI_leI (by omega) (by omega)).mpr (by omega))]
    exact done S
  | succ q ih =>
    intro m j S h h1 h2 h3
    obtain ⟨m, rfl⟩ : ∃ i, m = i + 1 := ⟨m - 1, by omega⟩
    have hc := h.2.1.1
    obtain ⟨q1, q2, q3⟩ := h.2.2.1 k (by omega)
    rw [f_RequestWriter_putHeader_22, q1, hI_s]
    by_cases z : ct k ≤ j
    · rw [if_pos ((nI_leI (by omega) (by omega)).mpr z), if_pos z]
      exact done S
    · have cj : (nI j ≤ 0) ↔ j ≤ 0 := nI_leI (b := 0) (by omega) (by omega)
      rw [if_neg (fun y => z ((nI_leI (by omega) (by omega)).mp y)), if_neg z]
      simp only [cj]
      have f40 : ∀ S', Fp k1 S S' → Pc k1 S' (enF 3 (il (3 * k + j)) (ic (3 * k + j)) (il (3 * k + j)) 8 0 ++ (hI ct il ic k q (j + 1) ++ [13, 10])) (f_RequestWriter_putHeader_40 (f_RequestWriter_putHeader_22 m) k1 k (nI j) S') := by
        intro S' f1
        have h' := Ro_fp hk1 h f1
        unfold f_RequestWriter_putHeader_40
        rw [gdiN (by omega) (by omega), nI_clamp (by omega)]
        refine Pc_bind (cl_ascii hk1 (ha k hk hkd j (by omega)) (h'.2.2.2 (3 * k + j) (by omega))) (fun S2 f2 => ?_)
        rw [nI_1]
        exact ih m (j + 1) S2 (Ro_fp hk1 h' f2) (by omega) (by omega) (by omega)
      by_cases yj : j = 0
      · rw [if_pos yj, if_pos (show j ≤ 0 by omega), List.nil_append, List.append_assoc]
        exact f40 S Fp_rf
      · rw [if_neg yj, if_neg (show ¬ j ≤ 0 by omega), List.append_assoc, List.append_assoc]
        have tx := cl_text hk1 (q := 12) (by decide) (S := S)
        rw [l12] at tx
        exact Pc_bind tx f40
theorem cl_ho {k1 : Nat} (hk1 : k1 < 4) (ha : asH c kd ct il ic) : ∀ q m k S, Ro S n c t kd lt ct il ic → k ≤ c → c - k ≤ q → c - k < m → Pc k1 S (hO c kd lt ct il ic q k) (f_RequestWriter_putHeaders_2 m k1 (nI k) S) := by
  obtain ⟨l10, l11, l12, l13⟩ := li_10
  intro q
  induction q with
  | zero =>
    intro m k S h h0 h1 h2
    obtain ⟨m, rfl⟩ : ∃ i, m = i + 1 := ⟨m - 1, by omega⟩
    have hc := h.2.1.1
    rw [f_RequestWriter_putHeaders_2, h.2.1.2.1, if_pos ((nI_leI (by omega) (by omega)).mpr (by omega))]
    exact Pc_nil
  | succ q ih =>
    intro m k S h h0 h1 h2
    obtain ⟨m, rfl⟩ : ∃ i, m = i + 1 := ⟨m - 1, by omega⟩
    have hc := h.2.1.1
    rw [f_RequestWriter_putHeaders_2, h.2.1.2.1, hO_s]
    by_cases z : c ≤ k
    · rw [if_pos ((nI_leI (by omega) (by omega)).mpr z), if_pos z]
      exact Pc_nil
    · obtain ⟨p1, -, p3, -⟩ := h.2.1.2.2.2 k (by omega)
      obtain ⟨q1, q2, q3⟩ := h.2.2.1 k (by omega)
      have c3 : (nI (kd k) = 3) ↔ kd k = 3 := nI_eq (b := 3) (by omega) (by omega)
      have c0 : (nI (ct k) ≤ 0) ↔ ct k ≤ 0 := nI_leI (b := 0) (by omega) (by omega)
      rw [if_neg (fun y => z ((nI_leI (by omega) (by omega)).mp y)), if_neg z, gdiN (by omega) (by omega), nI_clamp (by omega), p1, q1]
      simp only [c3, c0]
      have nx : ∀ S', Fp k1 S S' → Pc k1 S' (hO c kd lt ct il ic q (k + 1)) (f_RequestWriter_putHeaders_43 (f_RequestWriter_putHeaders_2 m) k1 (nI k) S') := by
        intro S' f1
        unfold f_RequestWriter_putHeaders_43
        rw [nI_1]
        exact ih m (k + 1) S' (Ro_fp hk1 h f1) (by omega) (by omega) (by omega)
      by_cases y : kd k = 3
      · rw [if_pos y]
        by_cases y2 : ct k ≤ 0
        · rw [if_pos y2, if_neg (fun w => by omega), List.nil_append]
          exact nx S Fp_rf
        · rw [if_neg y2, if_pos ⟨y, by omega⟩]
          refine Pc_bind ?_ nx
          unfold f_RequestWriter_putHeader
          have t10 := cl_text hk1 (q := 10) (by decide) (S := S)
          rw [l10] at t10
          refine Pc_bind t10 (fun S1 f1 => ?_)
          have h1' := Ro_fp hk1 h f1
          obtain ⟨-, -, -, p4, -, p6⟩ := h1'.2.1.2.2.2 k (by omega)
          rw [p4]
          refine Pc_bind (Pc_put hk1 (by omega)) (fun S2 f2 => ?_)
          have t11 := cl_text hk1 (q := 11) (by decide) (S := S2)
          rw [l11] at t11
          refine Pc_bind t11 (fun S3 f3 => ?_)
          exact cl_hi hk1 ha (by omega) y 3 fu 0 S3 (Ro_fp hk1 (Ro_fp hk1 h1' f2) f3) (by omega) (by unfold fu; omega) (by omega)
      · rw [if_neg y, if_neg (fun w => y w.1), List.nil_append]
        exact nx S Fp_rf
end HDRC
section HDRM
variable {n c : Nat} {t kd lt ct il : Nat → Nat} {ic : Nat → Nat → Nat} {as : Bool}
theorem mo_hi {k : Nat} (hk : k < c) {y : List Nat} (K : Int32 → zSt → Option zSt) : ∀ q m j S, Ro S n c t kd lt ct il ic → ct k - j ≤ q → ct k - j < m → j ≤ 3 → (∀ S', Fo as S S' → Pu as S' y (K (nI (k + 1)) S')) → Pu as S (hI ct il ic k q j ++ ([13, 10] ++ y)) (f_Mo_headers_55 K m (nI k) (nI j) S) := by
  have done : ∀ S, (∀ S', Fo as S S' → Pu as S' y (K (nI (k + 1)) S')) → Pu as S ([13, 10] ++ y) ((f_Mo_end S).bind fun u4 => (f_Mo_headers_98 K (nI k) u4)) := by
    intro S hK
    refine Pu_bind mo_end (fun S1 f1 => ?_)
    unfold f_Mo_headers_98
    rw [nI_1]
    exact hK S1 f1
  intro q
  induction q with
  | zero =>
    intro m j S h h1 h2 h3 hK
    obtain ⟨m, rfl⟩ : ∃ i, m = i + 1 := ⟨m - 1, by omega⟩
    have hc := h.2.1.1
    obtain ⟨q1, q2, q3⟩ := h.2.2.1 k (by omega)
    rw [f_Mo_headers_55, gdiN (by omega) (by omega), nI_clamp (by omega), q2, if_pos ((nI_leI (by omega) (by omega)).mpr (by omega))]
    exact done S hK
  | succ q ih =>
    intro m j S h h1 h2 h3 hK
    obtain ⟨m, rfl⟩ : ∃ i, m = i + 1 := ⟨m - 1, by omega⟩
    have hc := h.2.1.1
    obtain ⟨q1, q2, q3⟩ := h.2.2.1 k (by omega)
    have e3 : (3 * nI k : Int32) + nI j = nI (3 * k + j) := by rw [show (3 : Int32) = nI 3 from rfl, pk_mul, nI_add]
    rw [f_Mo_headers_55, gdiN (by omega) (by omega), nI_clamp (by omega), q2, hI_s]
    by_cases z : ct k ≤ j
    · rw [if_pos ((nI_leI (by omega) (by omega)).mpr z), if_pos z]
      exact done S hK
    · have cj : (nI j ≤ 0) ↔ j ≤ 0 := nI_leI (b := 0) (by omega) (by omega)
      rw [if_neg (fun y => z ((nI_leI (by omega) (by omega)).mp y)), if_neg z]
      simp only [cj]
      have f76 : ∀ S', Fo as S S' → Pu as S' (enF 3 (il (3 * k + j)) (ic (3 * k + j)) (il (3 * k + j)) 8 0 ++ (hI ct il ic k q (j + 1) ++ ([13, 10] ++ y))) (f_Mo_headers_76 K (f_Mo_headers_55 K m) (nI k) (nI j) S') := by
        intro S' f1
        have h' := Ro_fo h f1
        unfold f_Mo_headers_76
        rw [e3]
        refine Pu_bind (mo_encode8 (h'.2.2.2 (3 * k + j) (by omega)) (md := 3) (by omega)) (fun S2 f2 => ?_)
        rw [nI_1]
        exact ih m (j + 1) S2 (Ro_fo h' f2) (by omega) (by omega) (by omega) (fun S3 f3 => hK S3 (Fo_tr f1 (Fo_tr f2 f3)))
      by_cases yj : j = 0
      · rw [if_pos yj, if_pos (show j ≤ 0 by omega), List.nil_append, List.append_assoc]
        exact f76 S Fo_rf
      · rw [if_neg yj, if_neg (show ¬ j ≤ 0 by omega), List.append_assoc, List.append_assoc]
        exact Pu_bind (mo_spell (ds := [44, 32]) (by decide +kernel) (by decide) (by decide) (by decide)) f76
theorem mo_ho : ∀ q m k S, Ro S n c t kd lt ct il ic → k ≤ c → c - k ≤ q → c - k < m → Pu as S (hO c kd lt ct il ic q k) (f_Mo_headers_2 m (nI k) S) := by
  intro q
  induction q with
  | zero =>
    intro m k S h h0 h1 h2
    obtain ⟨m, rfl⟩ : ∃ i, m = i + 1 := ⟨m - 1, by omega⟩
    have hc := h.2.1.1
    rw [f_Mo_headers_2, h.2.1.2.2.1, if_pos ((nI_leI (by omega) (by omega)).mpr (by omega))]
    exact Pu_nil
  | succ q ih =>
    intro m k S h h0 h1 h2
    obtain ⟨m, rfl⟩ : ∃ i, m = i + 1 := ⟨m - 1, by omega⟩
    have hc := h.2.1.1
    rw [f_Mo_headers_2, h.2.1.2.2.1, hO_s]
    by_cases z : c ≤ k
    · rw [if_pos ((nI_leI (by omega) (by omega)).mpr z), if_pos z]
      exact Pu_nil
    · obtain ⟨-, p2, p3, -⟩ := h.2.1.2.2.2 k (by omega)
      obtain ⟨q1, q2, q3⟩ := h.2.2.1 k (by omega)
      have c3 : (nI (kd k) = 3) ↔ kd k = 3 := nI_eq (b := 3) (by omega) (by omega)
      have c0 : (nI (ct k) ≤ 0) ↔ ct k ≤ 0 := nI_leI (b := 0) (by omega) (by omega)
      have gk : ∀ x : Option zSt, gdi (nI k) 6 x = x := fun x => gdiN (by omega) (by omega)
      have ek : (nI k).toNatClampNeg = k := nI_clamp (by omega)
      rw [if_neg (fun y => z ((nI_leI (by omega) (by omega)).mp y)), if_neg z]
      simp only [gk, ek]
      rw [p2, q2]
      simp only [c3, c0]
      have nx : ∀ S', Fo as S S' → Pu as S' (hO c kd lt ct il ic q (k + 1)) (f_Mo_headers_2 m (nI (k + 1)) S') := fun S' f1 => ih m (k + 1) S' (Ro_fo h f1) (by omega) (by omega) (by omega)
      unfold f_Mo_headers_98
      rw [nI_1]
      by_cases y : kd k = 3
      · rw [if_pos y]
        by_cases y2 : ct k ≤ 0
        · rw [if_pos y2, if_neg (fun w => by omega), List.nil_append]
          exact nx S Fo_rf
        · rw [if_neg y2, if_pos ⟨y, by omega⟩, List.append_assoc, List.append_assoc, List.append_assoc, List.append_assoc]
          refine Pu_bind (mo_spell (ds := [120, 45]) (by decide +kernel) (by decide) (by decide) (by decide)) (fun S1 f1 => ?_)
          have h1' := Ro_fo h f1
          obtain ⟨-, -, -, -, p5, p6⟩ := h1'.2.1.2.2.2 k (by omega)
          rw [p5]
          refine Pu_bind (Pu_put (by omega)) (fun S2 f2 => ?_)
          refine Pu_bind (mo_spell (ds := [58, 32]) (by decide +kernel) (by decide) (by decide) (by decide)) (fun S3 f3 => ?_)
          exact mo_hi (by omega) (f_Mo_headers_2 m) 3 fu 0 S3 (Ro_fo (Ro_fo h1' f2) f3) (by omega) (by unfold fu; omega) (by omega) (fun S4 f4 => nx S4 (Fo_tr f1 (Fo_tr f2 (Fo_tr f3 f4))))
      · rw [if_neg y, if_neg (fun w => y w.1), List.nil_append]
        exact nx S Fo_rf
end HDRM
