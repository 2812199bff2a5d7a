def Px (S : zSt) (c : Nat) (kd lt : Nat → Nat) : Prop := c ≤ 6 ∧ S 1 2 = nI c ∧ S 66 3 = nI c ∧ ∀ k, k < c → S (10 + k) 2 = nI (kd k) ∧ S 68 k = nI (kd k) ∧ kd k ≤ 5 ∧ S (10 + k) 3 = nI (lt k) ∧ S 69 k = nI (lt k) ∧ lt k < 127
theorem Rd_px {S : zSt} (h : Rd S) : ∃ c kd lt, Px S c kd lt := by
  obtain ⟨q1, q2, ⟨p1, p2, p3⟩, q4, q5, q6, q7, -⟩ := h
  obtain ⟨c, hc, e⟩ := toN 6 p1 p2 (by decide)
  refine ⟨c, fun k => (S (10 + k) 2).toNatClampNeg, fun k => (S (10 + k) 3).toNatClampNeg, hc, e, by rw [p3, e], fun k hk => ?_⟩
  obtain ⟨z1, -, z3, z4, -⟩ := q6 k (by omega)
  obtain ⟨y1, y2, y3⟩ := q7 k (by rw [e, nI_clamp (by omega)]; exact hk)
  obtain ⟨a, ha, ea⟩ := toN 5 z3 z4 (by decide)
  obtain ⟨b, hb, eb⟩ := toN 122 (Int32.le_trans (by decide) y2) y3 (by decide)
  have e1 : (S (10 + k) 2).toNatClampNeg = a := by rw [ea, nI_clamp (by omega)]
  have e2 : (S (10 + k) 3).toNatClampNeg = b := by rw [eb, nI_clamp (by omega)]
  show S (10 + k) 2 = nI (S (10 + k) 2).toNatClampNeg ∧ S 68 k = nI (S (10 + k) 2).toNatClampNeg ∧ (S (10 + k) 2).toNatClampNeg ≤ 5 ∧ S (10 + k) 3 = nI (S (10 + k) 3).toNatClampNeg ∧ S 69 k = nI (S (10 + k) 3).toNatClampNeg ∧ (S (10 + k) 3).toNatClampNeg < 127
  rw [e1, e2, z1, y1, ea, eb]
  exact ⟨rfl, rfl, ha, rfl, rfl, by omega⟩
def nmF (kd lt : Nat → Nat) (l : Nat) : Nat → Nat → Option Nat
  | 0, _ => none
  | m + 1, k => if kd k ≤ 1 ∧ lt k = l then some k else nmF kd lt l m (k + 1)
theorem nmF_s (kd lt : Nat → Nat) (l m k : Nat) : nmF kd lt l (m + 1) k = if kd k ≤ 1 ∧ lt k = l then some k else nmF kd lt l m (k + 1) := rfl
def oI (o : Option Nat) : Int32 := match o with
  | none => -1
  | some k => nI k
theorem nmF_lt {kd lt : Nat → Nat} {l : Nat} : ∀ m k j, nmF kd lt l m k = some j → k ≤ j ∧ j < k + m := by
  intro m
  induction m with
  | zero => intro k j h; cases h
  | succ m ih =>
    intro k j h
    unfold nmF at h
    by_cases hc : kd k ≤ 1 ∧ lt k = l
    · rw [if_pos hc] at h; cases h; omega
    · rw [if_neg hc] at h; have := ih _ _ h; omega
theorem inp_cls {S : zSt} {c : Nat} {kd lt : Nat → Nat} (h : Px S c kd lt) {k : Nat} (hk : k < c) : f_Parameter_isInPath k S = some (bI (decide (kd k ≤ 1))) := by
  obtain ⟨e, -, e2, -⟩ := h.2.2.2 k hk
  unfold f_Parameter_isInPath f_Parameter_isInPath_15
  rw [e]
  simp (disch := omega) only [lit, nI_eq, gdb, bI]
  grind
theorem of_loop {S : zSt} {c : Nat} {kd lt : Nat → Nat} (h : Px S c kd lt) {l : Nat} (hl : l < 65536) : ∀ m k, k ≤ c → c - k < m → f_Declaration_parameterOf_2 m (nI l) (nI k) S = some (nmF kd lt l (c - k) k) := by
  intro m
  induction m with
  | zero => intro k a b; omega
  | succ m ih =>
    intro k a b
    have hc := h.1
    rw [f_Declaration_parameterOf_2, h.2.1]
    by_cases hk : c ≤ k
    · rw [if_pos ((nI_leI (by omega) (by omega)).mpr hk), show c - k = 0 by omega]
      rfl
    · obtain ⟨e1, -, e3, e4, -, e6⟩ := h.2.2.2 k (by omega)
      rw [if_neg (fun z => hk ((nI_leI (by omega) (by omega)).mp z)), gdiN (by omega) (by omega), nI_clamp (by omega), inp_cls h (by omega)]
      obtain ⟨j, hj⟩ : ∃ j, c - k = j + 1 := ⟨c - k - 1, by omega⟩
      have i1 := ih (k + 1) (by omega) (by omega)
      rw [show c - (k + 1) = j by omega] at i1
      rw [hj]
      simp (disch := omega) only [Option.bind_some, bI_0, f_Declaration_parameterOf_42, nI_1, i1, e4, nI_eq, gdiN]
      rw [nmF_s]
      by_cases c1 : kd k ≤ 1
      · by_cases c2 : lt k = l
        · simp [c1, c2]
        · simp [c1, c2]
      · simp [c1]
theorem of_cls {S : zSt} {c : Nat} {kd lt : Nat → Nat} (h : Px S c kd lt) {l : Nat} (hl : l < 65536) : f_Declaration_parameterOf (nI l) S = some (nmF kd lt l c 0) := by
  have := of_loop h hl fu 0 (by omega) (by unfold fu; have := h.1; omega)
  exact this
theorem mnm_loop {S : zSt} {c : Nat} {kd lt : Nat → Nat} (h : Px S c kd lt) {l : Nat} (hl : l < 65536) : ∀ m j, j ≤ c → j < m → f_Mo_named_9 m (nI l) (oI (nmF kd lt l (c - j) j)) (nI j - 1) S = some (oI (nmF kd lt l c 0)) := by
  intro m
  induction m with
  | zero => intro j a b; omega
  | succ m ih =>
    intro j a b
    have hc := h.1
    rw [f_Mo_named_9]
    cases j with
    | zero =>
      have z : nI 0 - 1 < 0 := by decide
      rw [if_pos z]
      rfl
    | succ j =>
      rw [nI_pred]
      have z : ¬ nI j < 0 := nI_pos (by omega)
      obtain ⟨-, e2, e3, -, e5, e6⟩ := h.2.2.2 j (by omega)
      rw [if_neg z]
      have e9 : nI j + -1 = nI j - 1 := by rw [Int32.sub_eq_add_neg]
      have i1 := ih j (by omega) (by omega)
      have es : nmF kd lt l (c - j) j = if kd j ≤ 1 ∧ lt j = l then some j else nmF kd lt l (c - (j + 1)) (j + 1) := by
        rw [show c - j = (c - (j + 1)) + 1 by omega]
        rfl
      rw [es] at i1
      simp (disch := omega) only [gdiN, nI_clamp, e2, e5, f_Mo_named_37, f_Mo_named_38, e9, nI_eq]
      have c1 : ((1 : Int32) < nI (kd j)) ↔ 1 < kd j := nI_ltI (a := 1) (by omega) (by omega)
      simp only [c1]
      by_cases k1 : 1 < kd j
      · have k2 : ¬ (kd j ≤ 1 ∧ lt j = l) := by omega
        rw [if_neg k2] at i1
        rw [if_pos k1]
        exact i1
      · rw [if_neg k1]
        by_cases k3 : lt j = l
        · rw [if_pos ⟨by omega, k3⟩] at i1
          rw [if_pos k3]
          exact i1
        · rw [if_neg (fun y => k3 y.2)] at i1
          rw [if_neg k3]
          exact i1
theorem nm_mo {S : zSt} {c : Nat} {kd lt : Nat → Nat} (h : Px S c kd lt) {l : Nat} (hl : l < 65536) : f_Mo_named (nI l) S = some (oI (nmF kd lt l c 0)) := by
  unfold f_Mo_named
  rw [h.2.2.1]
  have := mnm_loop h hl fu c (by omega) (by unfold fu; have := h.1; omega)
  rw [show c - c = 0 by omega] at this
  exact this
theorem oI_neg (o : Option Nat) (h : ∀ k, o = some k → k < 1000) : (0 ≤ oI o) ↔ o.isSome = true := by
  cases o with
  | none => simp [oI]
  | some k => simp [oI]; exact nI_pos' (by have := h k rfl; omega)
def anyF (f : Nat → Bool) : Nat → Nat → Bool
  | 0, _ => false
  | m + 1, i => f i || anyF f m (i + 1)
theorem anyF_s (f : Nat → Bool) (m i : Nat) : anyF f (m + 1) i = (f i || anyF f m (i + 1)) := rfl
def isV (n : Nat) (t : Nat → Nat) (i : Nat) : Bool := inn t i && cSm (tat n t i)
def fU (n c : Nat) (t kd lt : Nat → Nat) (i : Nat) : Bool := isV n t i && (nmF kd lt (t i) c 0).isNone
theorem un_loop {S : zSt} {n c : Nat} {t kd lt : Nat → Nat} (hT : Tx S n t) (hP : Px S c kd lt) : ∀ m i, i ≤ n → n - i < m → f_Declaration_hasUnknownVariable_2 m (nI i) S = some (bI (anyF (fU n c t kd lt) (n - i) i)) := by
  intro m
  induction m with
  | zero => intro i a b; omega
  | succ m ih =>
    intro i a b
    have hn := hT.1
    rw [f_Declaration_hasUnknownVariable_2, hT.2.1]
    by_cases hi : n ≤ i
    · rw [if_pos ((nI_leI (by omega) (by omega)).mpr hi), show n - i = 0 by omega, gdb_0]
      rfl
    · obtain ⟨e1, -, -, e4⟩ := hT.2.2.2 i (by omega)
      have ht : tat n t i = t i := by unfold tat; rw [if_pos (by omega)]
      have i1 := ih (i + 1) (by omega) (by omega)
      obtain ⟨j, hj⟩ : ∃ j, n - i = j + 1 := ⟨n - i - 1, by omega⟩
      rw [show n - (i + 1) = j by omega] at i1
      rw [if_neg (fun z => hi ((nI_leI (by omega) (by omega)).mp z)), var_cls hT (by omega), at_cls hT (by omega), ht, hj]
      simp only [Option.bind_some, bI_0, f_Declaration_hasUnknownVariable_41, nI_1, i1, gdb_1]
      rw [of_cls hP (by omega)]
      simp only [Option.bind_some]
      have hb := fun k hk => nmF_lt (kd := kd) (lt := lt) (l := t i) c 0 k hk
      rw [anyF_s]
      have hv : fU n c t kd lt i = ((inn t i && cSm (t i)) && (nmF kd lt (t i) c 0).isNone) := by unfold fU isV; rw [ht]
      rw [hv]
      cases hin : (inn t i && cSm (t i)) with
      | false => simp
      | true =>
        cases hnm : nmF kd lt (t i) c 0 with
        | none => simp [bI]
        | some k =>
          have := hb k hnm
          have := hP.1
          simp
          rw [gdnN (by omega)]
theorem un_cls {S : zSt} {n c : Nat} {t kd lt : Nat → Nat} (hT : Tx S n t) (hP : Px S c kd lt) : f_Declaration_hasUnknownVariable S = some (bI (anyF (fU n c t kd lt) n 0)) := un_loop hT hP fu 0 (by omega) (by unfold fu; have := hT.1; omega)
theorem mun_loop {S : zSt} {n c : Nat} {t kd lt : Nat → Nat} (hT : Tx S n t) (hP : Px S c kd lt) : ∀ m i acc, i ≤ n → n - i < m → f_Mo_unknown_4 m (bI acc) (nI i) S = some (bI (acc || anyF (fU n c t kd lt) (n - i) i)) := by
  intro m
  induction m with
  | zero => intro i acc a b; omega
  | succ m ih =>
    intro i acc a b
    have hn := hT.1
    rw [f_Mo_unknown_4, hT.2.2.1]
    by_cases hi : n ≤ i
    · rw [if_pos ((nI_leI (by omega) (by omega)).mpr hi), show n - i = 0 by omega, gdb_bI]
      simp [anyF]
    · obtain ⟨-, e1, -, e4⟩ := hT.2.2.2 i (by omega)
      have ht : tat n t i = t i := by unfold tat; rw [if_pos (by omega)]
      obtain ⟨j, hj⟩ : ∃ j, n - i = j + 1 := ⟨n - i - 1, by omega⟩
      have i1 := ih (i + 1) true (by omega) (by omega)
      have i0 := ih (i + 1) false (by omega) (by omega)
      rw [show n - (i + 1) = j by omega] at i1 i0
      have b1 : bI true = 1 := rfl
      have b0 : bI false = 0 := rfl
      rw [b1] at i1
      rw [b0] at i0
      rw [if_neg (fun z => hi ((nI_leI (by omega) (by omega)).mp z)), var_mo hT (by omega), gdiN (by omega) (by omega), nI_clamp (by omega), e1, nm_mo hP (by omega), ht, hj]
      have hb : ∀ k, nmF kd lt (t i) c 0 = some k → k < 1000 := fun k hk => by
        have := nmF_lt (kd := kd) (lt := lt) (l := t i) c 0 k hk
        have := hP.1
        omega
      simp only [Option.bind_some, bI_0, f_Mo_unknown_37, f_Mo_unknown_41, f_Mo_unknown_42, nI_1, i1, i0, oI_neg _ hb]
      rw [anyF_s]
      have hv : fU n c t kd lt i = ((inn t i && cSm (t i)) && (nmF kd lt (t i) c 0).isNone) := by unfold fU isV; rw [ht]
      rw [hv]
      cases acc <;> cases hin : (inn t i && cSm (t i)) <;> cases hnm : nmF kd lt (t i) c 0 <;> simp
theorem un_mo {S : zSt} {n c : Nat} {t kd lt : Nat → Nat} (hT : Tx S n t) (hP : Px S c kd lt) : f_Mo_unknown S = some (bI (anyF (fU n c t kd lt) n 0)) := by
  have := mun_loop hT hP fu 0 false (by omega) (by unfold fu; have := hT.1; omega)
  exact this
