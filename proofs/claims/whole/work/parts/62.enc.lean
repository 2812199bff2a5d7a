-- an item's characters, encoded, on either side
def Ix (S : zSt) (r n : Nat) (c : Nat → Nat) : Prop := r < 18 ∧ n ≤ 8 ∧ S (22 + r) 1 = nI n ∧ S 71 r = nI n ∧ ∀ i, i < 8 → S (40 + r) i = nI (c i) ∧ S 72 (8 * r + i) = nI (c i) ∧ c i < 65536
def ilS (S : zSt) (r : Nat) : Nat := (S 71 r).toNatClampNeg
def icS (S : zSt) (r i : Nat) : Nat := (S 72 (8 * r + i)).toNatClampNeg
theorem toCl {x : Int32} (h0 : 0 ≤ x) : x = nI x.toNatClampNeg := by
  obtain ⟨j, hj, e⟩ := nI_of (x := x) (fun h => Int32.lt_irrefl (Int32.lt_of_lt_of_le h h0))
  rw [e, nI_clamp hj]
theorem Rd_ix {S : zSt} (h : Rd S) : ∀ r, r < 18 → Ix S r (ilS S r) (icS S r) := by
  obtain ⟨-, -, -, -, -, -, -, q8, q9⟩ := h
  intro r hr
  obtain ⟨a1, a2, a3⟩ := q8 r hr
  have e := toCl a2
  refine ⟨hr, ?_, ?_, ?_, fun i hi => ?_⟩
  · obtain ⟨k, hk, ek⟩ := toN 8 a2 a3 (by decide)
    unfold ilS
    rw [a1, ek, nI_clamp (by omega)]
    exact hk
  · unfold ilS
    rw [a1]; exact e
  · unfold ilS
    rw [a1]; exact e
  · obtain ⟨b1, b2, b3⟩ := q9 r i hr hi
    have e2 := toCl b2
    refine ⟨?_, ?_, ?_⟩
    · unfold icS
      rw [b1]; exact e2
    · unfold icS
      rw [b1]; exact e2
    · obtain ⟨k, hk, ek⟩ := toN 65535 b2 b3 (by decide)
      unfold icS
      rw [b1, ek, nI_clamp (by omega)]
      omega
theorem Ix_fp {k : Nat} (hk : k < 4) {S S' : zSt} {r n : Nat} {c : Nat → Nat} (h : Ix S r n c) (hf : Fp k S S') : Ix S' r n c := by
  obtain ⟨h1, h2, h3, h4, h5⟩ := h
  refine ⟨h1, h2, by rw [hf _ _ (by omega) (by omega)]; exact h3, by rw [hf _ _ (by omega) (by omega)]; exact h4, fun i hi => ?_⟩
  rw [hf _ _ (by omega) (by omega), hf _ _ (by omega) (by omega)]
  exact h5 i hi
theorem Ix_fo {as : Bool} {S S' : zSt} {r n : Nat} {c : Nat → Nat} (h : Ix S r n c) (hf : Fo as S S') : Ix S' r n c := by
  obtain ⟨h1, h2, h3, h4, h5⟩ := h
  refine ⟨h1, h2, by rw [Fo_ro hf (by omega) (by omega) (by omega)]; exact h3, by rw [Fo_ro hf (by omega) (by omega) (by omega)]; exact h4, fun i hi => ?_⟩
  rw [Fo_ro hf (by omega) (by omega) (by omega), Fo_ro hf (by omega) (by omega) (by omega)]
  exact h5 i hi
def prF (n : Nat) (c : Nat → Nat) (i : Nat) : Bool := decide (i + 1 < n ∧ (55296 ≤ c i ∧ c i ≤ 56319) ∧ (56320 ≤ c (i + 1) ∧ c (i + 1) ≤ 57343))
def spF (n : Nat) (c : Nat → Nat) (i : Nat) : Nat := if prF n c i = true then 2 else 1
def cdF (n : Nat) (c : Nat → Nat) (i : Nat) : Nat := if prF n c i = true then 65536 + 1024 * (c i - 55296) + (c (i + 1) - 56320) else c i
def efF (c : Nat → Nat) (e i : Nat) : Bool := decide (c i = 37 ∧ i + 2 < e) && (cHx (c (i + 1)) && cHx (c (i + 2)))
def oneF (md n : Nat) (c : Nat → Nat) (e i : Nat) : List Nat :=
  if md = 3 then u8 (cdF n c i)
  else if prF n c i = true then esc (u8 (cdF n c i))
  else if cUn (c i) = true then [c i]
  else if md = 1 ∧ (cLo (c i) = true ∨ efF c e i = true) then [c i]
  else if md = 2 ∧ c i = 32 then [43]
  else esc (u8 (c i))
def enF (md n : Nat) (c : Nat → Nat) (e : Nat) : Nat → Nat → List Nat
  | 0, _ => []
  | q + 1, i => if e ≤ i then [] else oneF md n c e i ++ enF md n c e q (i + spF n c i)
theorem enF_s (md n : Nat) (c : Nat → Nat) (e q i : Nat) : enF md n c e (q + 1) i = if e ≤ i then [] else oneF md n c e i ++ enF md n c e q (i + spF n c i) := rfl
/-- the end of the first mx characters -/
def edF (n : Nat) (c : Nat → Nat) (mx : Nat) : Nat → Nat → Nat → Nat
  | 0, p, _ => p
  | q + 1, p, u => if mx ≤ u ∨ n ≤ p then p else edF n c mx q (p + spF n c p) (u + 1)
theorem edF_s (n : Nat) (c : Nat → Nat) (mx q p u : Nat) : edF n c mx (q + 1) p u = if mx ≤ u ∨ n ≤ p then p else edF n c mx q (p + spF n c p) (u + 1) := rfl
theorem spF_bd (n : Nat) (c : Nat → Nat) (i : Nat) : 1 ≤ spF n c i ∧ spF n c i ≤ 2 ∧ (i < n → i + spF n c i ≤ n) := by
  unfold spF
  split
  · rename_i h
    unfold prF at h
    simp at h
    omega
  · omega
theorem edF_le (n : Nat) (c : Nat → Nat) (mx : Nat) : ∀ q p u, p ≤ n → edF n c mx q p u ≤ n := by
  intro q
  induction q with
  | zero => intro p u h; exact h
  | succ q ih =>
    intro p u h
    rw [edF_s]
    by_cases z : mx ≤ u ∨ n ≤ p
    · rw [if_pos z]; exact h
    · rw [if_neg z]
      have := spF_bd n c p
      exact ih _ _ (by omega)
theorem edF_8 (n : Nat) (c : Nat → Nat) (hn : n ≤ 8) : ∀ q p u, p ≤ n → u ≤ p → n - p ≤ q → edF n c 8 q p u = n := by
  intro q
  induction q with
  | zero => intro p u h1 h2 h3; unfold edF; omega
  | succ q ih =>
    intro p u h1 h2 h3
    rw [edF_s]
    have := spF_bd n c p
    by_cases z : 8 ≤ u ∨ n ≤ p
    · rw [if_pos z]; omega
    · rw [if_neg z]
      exact ih _ _ (by omega) (by omega) (by omega)
theorem cd_lt {n : Nat} {c : Nat → Nat} {i : Nat} (h : c i < 65536) : cdF n c i < 1114112 := by
  unfold cdF
  split
  · rename_i z
    unfold prF at z
    simp at z
    omega
  · omega
theorem cUn_hi {x : Nat} (h : 55296 ≤ x) : cUn x = false ∧ cLo x = false := by
  constructor
  · unfold cUn cLD
    simp
    omega
  · unfold cLo
    simp
    omega
theorem cUn_lt {x : Nat} (h : cUn x = true) : x < 127 := by
  unfold cUn cLD at h
  simp at h
  omega
theorem cLo_lt {x : Nat} (h : cLo x = true) : x < 127 := by
  unfold cLo at h
  simp at h
  omega
theorem one_len {md n : Nat} {c : Nat → Nat} {e i : Nat} (hc : c i < 65536) : (oneF md n c e i).length ≤ 12 ∧ (i + 1 ≤ n → (oneF md n c e i).length ≤ 9 * spF n c i) := by
  have h1 := u8_len (cdF n c i)
  have h2 := u8_len (c i)
  have e1 := esc_len (u8 (cdF n c i))
  have e2 := esc_len (u8 (c i))
  unfold oneF spF
  cases hp : prF n c i with
  | true =>
    by_cases z : md = 3
    · rw [if_pos z]; simp; omega
    · rw [if_neg z, if_pos rfl]; simp; omega
  | false =>
    have hcd : cdF n c i = c i := by unfold cdF; rw [hp]; rfl
    rw [hcd] at h1 e1 ⊢
    simp only [Bool.false_eq_true, if_false]
    split
    · omega
    · split
      · simp
      · split
        · simp
        · split
          · simp
          · omega
theorem en_len {md n : Nat} {c : Nat → Nat} {e : Nat} (hc : ∀ i, i < 8 → c i < 65536) (he : e ≤ 8) : ∀ q i, (enF md n c e q i).length ≤ 12 * (e - i) ∧ (e = n → (enF md n c e q i).length ≤ 9 * (e - i)) := by
  intro q
  induction q with
  | zero => intro i; unfold enF; simp
  | succ q ih =>
    intro i
    rw [enF_s]
    by_cases z : e ≤ i
    · rw [if_pos z]; simp
    · rw [if_neg z, List.length_append]
      have h1 := one_len (md := md) (n := n) (c := c) (e := e) (i := i) (hc i (by omega))
      have h2 := ih (i + spF n c i)
      have h3 := spF_bd n c i
      refine ⟨by omega, fun he2 => ?_⟩
      have h4 := h1.2 (by omega)
      have h5 := h2.2 he2
      have h6 := h3.2.2 (by omega)
      omega
section ENC
variable {S : zSt} {r n : Nat} {c : Nat → Nat}
theorem cl_pair (h : Ix S r n c) {i : Nat} (hi : i < 8) : f_Item_isPair r (nI i) S = some (bI (prF n c i)) := by
  obtain ⟨h1, h2, h3, h4, h5⟩ := h
  obtain ⟨a1, a2, a3⟩ := h5 i hi
  unfold f_Item_isPair f_Item_isPair_66 prF
  rw [if_neg (nI_pos (by omega)), h3, nI_1]
  by_cases z : n ≤ i + 1
  · rw [if_pos ((nI_leI (by omega) (by omega)).mpr z), gdb_0]
    have : ¬ (i + 1 < n) := by omega
    simp [this, bI]
  · rw [if_neg (fun y => z ((nI_leI (by omega) (by omega)).mp y))]
    obtain ⟨b1, b2, b3⟩ := h5 (i + 1) (by omega)
    have c1 : (nI (c i) < 55296) ↔ c i < 55296 := nI_ltI (b := 55296) (by omega) (by omega)
    have c2 : (56320 ≤ nI (c i)) ↔ 56320 ≤ c i := nI_leI (a := 56320) (by omega) (by omega)
    have c3 : (nI (c (i + 1)) < 56320) ↔ c (i + 1) < 56320 := nI_ltI (b := 56320) (by omega) (by omega)
    have c4 : (57343 < nI (c (i + 1))) ↔ 57343 < c (i + 1) := nI_ltI (a := 57343) (by omega) (by omega)
    simp (disch := omega) only [gdiN, nI_clamp, a1, b1, c1, c2, c3, c4, gdb_0, gdb_1]
    have hz : i + 1 < n := by omega
    by_cases y1 : c i < 55296
    · rw [if_pos y1]; have : ¬ 55296 ≤ c i := by omega
      simp [this, bI]
    · rw [if_neg y1]
      by_cases y2 : 56320 ≤ c i
      · rw [if_pos y2]; have : ¬ c i ≤ 56319 := by omega
        simp [this, bI]
      · rw [if_neg y2]
        by_cases y3 : c (i + 1) < 56320
        · rw [if_pos y3]; have : ¬ 56320 ≤ c (i + 1) := by omega
          simp [this, bI]
        · rw [if_neg y3]
          by_cases y4 : 57343 < c (i + 1)
          · rw [if_pos y4]; have : ¬ c (i + 1) ≤ 57343 := by omega
            simp [this, bI]
          · rw [if_neg y4]
            have t : i + 1 < n ∧ (55296 ≤ c i ∧ c i ≤ 56319) ∧ 56320 ≤ c (i + 1) ∧ c (i + 1) ≤ 57343 := by omega
            rw [decide_eq_true t]
            rfl
theorem ix_8 (r i : Nat) : (8 * nI r) + nI i = nI (8 * r + i) := by
  rw [show (8 : Int32) = nI 8 from rfl, pk_mul, nI_add]
theorem mo_high (S : zSt) {w : Nat} (hw : w < 65536) : f_Mo_high (nI w) S = some (bI (decide (55296 ≤ w ∧ w ≤ 56319))) := by
  unfold f_Mo_high f_Mo_high_16
  have c1 : (nI w < 55296) ↔ w < 55296 := nI_ltI (b := 55296) (by omega) (by omega)
  have c2 : (56319 < nI w) ↔ 56319 < w := nI_ltI (a := 56319) (by omega) (by omega)
  simp only [c1, c2, gdb_0, gdb_1]
  by_cases y1 : w < 55296
  · rw [if_pos y1]; have : ¬ 55296 ≤ w := by omega
    simp [this, bI]
  · rw [if_neg y1]
    by_cases y2 : 56319 < w
    · rw [if_pos y2]; have : ¬ w ≤ 56319 := by omega
      simp [this, bI]
    · rw [if_neg y2]
      have t : 55296 ≤ w ∧ w ≤ 56319 := by omega
      rw [decide_eq_true t]; rfl
theorem mo_low (S : zSt) {w : Nat} (hw : w < 65536) : f_Mo_low (nI w) S = some (bI (decide (56320 ≤ w ∧ w ≤ 57343))) := by
  unfold f_Mo_low f_Mo_low_16
  have c1 : (nI w < 56320) ↔ w < 56320 := nI_ltI (b := 56320) (by omega) (by omega)
  have c2 : (57343 < nI w) ↔ 57343 < w := nI_ltI (a := 57343) (by omega) (by omega)
  simp only [c1, c2, gdb_0, gdb_1]
  by_cases y1 : w < 56320
  · rw [if_pos y1]; have : ¬ 56320 ≤ w := by omega
    simp [this, bI]
  · rw [if_neg y1]
    by_cases y2 : 57343 < w
    · rw [if_pos y2]; have : ¬ w ≤ 57343 := by omega
      simp [this, bI]
    · rw [if_neg y2]
      have t : 56320 ≤ w ∧ w ≤ 57343 := by omega
      rw [decide_eq_true t]; rfl
theorem mo_pair (h : Ix S r n c) {i : Nat} (hi : i < 8) : f_Mo_pair (nI r) (nI i) S = some (bI (prF n c i)) := by
  obtain ⟨h1, h2, h3, h4, h5⟩ := h
  obtain ⟨a1, a2, a3⟩ := h5 i hi
  unfold f_Mo_pair f_Mo_pair_56 prF
  rw [if_neg (nI_pos (by omega)), gdiN (by omega) (by omega), nI_clamp (by omega), h4, nI_1]
  by_cases z : n ≤ i + 1
  · rw [if_pos ((nI_leI (by omega) (by omega)).mpr z), gdb_0]
    have : ¬ (i + 1 < n) := by omega
    simp [this, bI]
  · rw [if_neg (fun y => z ((nI_leI (by omega) (by omega)).mp y))]
    obtain ⟨b1, b2, b3⟩ := h5 (i + 1) (by omega)
    rw [ix_8, nI_1, gdiN (by omega) (by omega), nI_clamp (by omega), a2, mo_high S a3]
    simp only [Option.bind_some, bI_0, gdb_0, gdb_1]
    rw [gdiN (by omega) (by omega), nI_clamp (by omega), show 8 * r + i + 1 = 8 * r + (i + 1) by omega, b2, mo_low S b3]
    simp only [Option.bind_some, bI_0]
    have hz : i + 1 < n := by omega
    simp only [hz, true_and]
    by_cases y1 : 55296 ≤ c i ∧ c i ≤ 56319
    · by_cases y2 : 56320 ≤ c (i + 1) ∧ c (i + 1) ≤ 57343
      · simp [y1, y2, bI]
      · simp [y1, y2, bI]
    · simp [y1, bI]
theorem cl_at (h : Ix S r n c) {i : Nat} (hi : i < 100) : f_Item_at r (nI i) S = some (nI (if i < n then c i else 0)) := by
  obtain ⟨h1, h2, h3, h4, h5⟩ := h
  unfold f_Item_at f_Item_at_21
  rw [if_neg (nI_pos (by omega)), h3]
  by_cases z : n ≤ i
  · rw [if_pos ((nI_leI (by omega) (by omega)).mpr z), if_neg (by omega)]
    rfl
  · obtain ⟨a1, a2, a3⟩ := h5 i (by omega)
    rw [if_neg (fun y => z ((nI_leI (by omega) (by omega)).mp y)), if_pos (by omega), gdiN (by omega) (by omega), nI_clamp (by omega), a1, gdcN a3]
theorem cl_code (h : Ix S r n c) {i : Nat} (hi : i < n) : f_Item_codeAt r (nI i) S = some (nI (cdF n c i)) := by
  have hn := h.2.1
  unfold f_Item_codeAt cdF
  rw [cl_pair h (by omega), cl_at h (by omega), if_pos hi]
  simp only [Option.bind_some, bI_0]
  cases hp : prF n c i with
  | false => simp
  | true =>
    unfold prF at hp
    simp at hp
    rw [if_neg (by decide), if_pos rfl, nI_1, cl_at h (by omega), if_pos (by omega)]
    simp only [Option.bind_some]
    rw [show (55296 : Int32) = nI 55296 from rfl, pk_sub (by omega), show (1024 : Int32) = nI 1024 from rfl, pk_mul, show (65536 : Int32) = nI 65536 from rfl, nI_add, show (56320 : Int32) = nI 56320 from rfl, pk_sub (by omega), nI_add]
theorem cl_end (h : Ix S r n c) {mx : Nat} (hm : mx < 100) : ∀ q m p u, p ≤ n → n - p ≤ q → n - p < m → u < 100 → f_Item_endOf_4 m r (nI mx) (nI p) (nI u) S = some (nI (edF n c mx q p u)) := by
  have hn := h.2.1
  intro q
  induction q with
  | zero =>
    intro m p u h1 h2 h3 h4
    obtain ⟨m, rfl⟩ : ∃ j, m = j + 1 := ⟨m - 1, by omega⟩
    rw [f_Item_endOf_4, h.2.2.1]
    by_cases z : mx ≤ u
    · rw [if_pos ((nI_leI (by omega) (by omega)).mpr z)]; rfl
    · rw [if_neg (fun y => z ((nI_leI (by omega) (by omega)).mp y)), if_pos ((nI_leI (by omega) (by omega)).mpr (by omega))]; rfl
  | succ q ih =>
    intro m p u h1 h2 h3 h4
    obtain ⟨m, rfl⟩ : ∃ j, m = j + 1 := ⟨m - 1, by omega⟩
    rw [f_Item_endOf_4, h.2.2.1, edF_s]
    by_cases z : mx ≤ u
    · rw [if_pos ((nI_leI (by omega) (by omega)).mpr z), if_pos (Or.inl z)]
    · rw [if_neg (fun y => z ((nI_leI (by omega) (by omega)).mp y))]
      by_cases z2 : n ≤ p
      · rw [if_pos ((nI_leI (by omega) (by omega)).mpr z2), if_pos (Or.inr z2)]
      · rw [if_neg (fun y => z2 ((nI_leI (by omega) (by omega)).mp y)), if_neg (by omega), cl_pair h (by omega)]
        simp only [Option.bind_some, bI_0]
        have hs := spF_bd n c p
        have i1 := ih m (p + spF n c p) (u + 1) (by omega) (by omega) (by omega) (by omega)
        rw [← i1]
        unfold f_Item_endOf_31 spF
        cases prF n c p with
        | true => rw [if_neg (by decide), if_pos rfl, show (2 : Int32) = nI 2 from rfl, nI_add, nI_1]
        | false => rw [if_pos rfl, if_neg (by decide), nI_1, nI_1]
theorem cl_end0 (h : Ix S r n c) {mx : Nat} (hm : mx < 100) : f_Item_endOf r (nI mx) S = some (nI (edF n c mx 8 0 0)) := cl_end h hm 8 fu 0 0 (by omega) (by have := h.2.1; omega) (by unfold fu; have := h.2.1; omega) (by omega)
theorem cl_isesc (h : Ix S r n c) {i e : Nat} (hi : i < e) (he : e ≤ n) : f_Item_isEscape r (nI i) (nI e) S = some (bI (efF c e i)) := by
  have hn := h.2.1
  have ci := (h.2.2.2.2 i (by omega)).2.2
  unfold f_Item_isEscape f_Item_isEscape_47 efF
  have c37 : (nI (c i) = 37) ↔ c i = 37 := nI_eq (b := 37) (by omega) (by omega)
  rw [cl_at h (by omega), if_pos (by omega)]
  simp only [Option.bind_some, c37, gdb_0, gdb_1]
  rw [nI_1, show (2 : Int32) = nI 2 from rfl, nI_add]
  by_cases y : c i = 37
  · rw [if_pos y]
    by_cases z : e ≤ i + 2
    · have : ¬ i + 2 < e := by omega
      rw [if_pos ((nI_leI (by omega) (by omega)).mpr z)]
      simp [this, bI]
    · have t : c i = 37 ∧ i + 2 < e := by omega
      rw [if_neg (fun q => z ((nI_leI (by omega) (by omega)).mp q)), cl_at h (by omega), if_pos (by omega), decide_eq_true t]
      simp only [Option.bind_some]
      obtain ⟨r1, e1, e2, -⟩ := ch_hex S (c := c (i + 1)) (h.2.2.2.2 (i + 1) (by omega)).2.2
      obtain ⟨r2, e3, e4, -⟩ := ch_hex S (c := c (i + 2)) (h.2.2.2.2 (i + 2) (by omega)).2.2
      rw [e1]
      simp only [Option.bind_some, e2]
      cases cHx (c (i + 1)) with
      | false => simp [bI]
      | true =>
        rw [if_neg (by decide), cl_at h (by omega), if_pos (by omega)]
        simp only [Option.bind_some]
        rw [e3]
        simp only [Option.bind_some, e4]
        cases cHx (c (i + 2)) <;> simp [bI]
  · rw [if_neg y]
    simp [y, bI]
theorem cl_enc {k : Nat} (hk : k < 4) {md : Nat} (hmd : md < 3) {e : Nat} : ∀ q m i S, Ix S r n c → e ≤ n → e - i ≤ q → e - i < m → i < 100 → Pc k S (enF md n c e q i) (f_Encoder_putEncoded_3 m k r (nI e) (nI md) (nI i) S) := by
  intro q
  induction q with
  | zero =>
    intro m i S h he h1 h2 h3
    have hn := h.2.1
    obtain ⟨m, rfl⟩ : ∃ j, m = j + 1 := ⟨m - 1, by omega⟩
    rw [f_Encoder_putEncoded_3, if_pos ((nI_leI (by omega) (by omega)).mpr (by omega))]
    exact Pc_nil
  | succ q ih =>
    intro m i S h he h1 h2 h3
    have hn := h.2.1
    obtain ⟨m, rfl⟩ : ∃ j, m = j + 1 := ⟨m - 1, by omega⟩
    rw [f_Encoder_putEncoded_3, enF_s]
    by_cases z : e ≤ i
    · rw [if_pos ((nI_leI (by omega) (by omega)).mpr z), if_pos z]
      exact Pc_nil
    · have ci := (h.2.2.2.2 i (by omega)).2.2
      have hs := spF_bd n c i
      have more : ∀ S', Fp k S S' → Pc k S' (enF md n c e q (i + spF n c i)) (f_Encoder_putEncoded_97 (f_Encoder_putEncoded_3 m) k r (nI e) (nI md) (nI i) S') := by
        intro S' f1
        have h' := Ix_fp hk h f1
        have i1 := ih m (i + spF n c i) S' h' he (by omega) (by omega) (by omega)
        unfold f_Encoder_putEncoded_97 f_Encoder_putEncoded_113
        rw [cl_pair h' (by omega)]
        simp only [Option.bind_some, bI_0]
        unfold spF at i1 ⊢
        cases hp : prF n c i with
        | true =>
          rw [hp, if_pos rfl] at i1
          rw [if_pos rfl, if_neg (by decide), show (2 : Int32) = nI 2 from rfl, nI_add]
          exact i1
        | false =>
          rw [hp, if_neg (by decide)] at i1
          rw [if_neg (by decide), if_pos rfl, nI_1]
          exact i1
      have raw : ∀ x, x < 256 → Pc k S ([x] ++ enF md n c e q (i + spF n c i)) ((f_ByteRow_put k (nI x) S).bind fun u => f_Encoder_putEncoded_97 (f_Encoder_putEncoded_3 m) k r (nI e) (nI md) (nI i) u) := fun x hx => Pc_bind (Pc_put hk hx) more
      have escd : Pc k S (esc (u8 (cdF n c i)) ++ enF md n c e q (i + spF n c i)) (f_Encoder_putEncoded_87 (f_Encoder_putEncoded_3 m) k r (nI e) (nI md) (nI i) S) := by
        unfold f_Encoder_putEncoded_87
        rw [cl_code h (by omega)]
        simp only [Option.bind_some]
        exact Pc_bind (cl_esc hk (cd_lt ci)) more
      have m2 : (nI md = 2) ↔ md = 2 := nI_eq (b := 2) (by omega) (by omega)
      have m1 : (nI md = 1) ↔ md = 1 := nI_eq (b := 1) (by omega) (by omega)
      have c32 : (nI (c i) = 32) ↔ c i = 32 := nI_eq (b := 32) (by omega) (by omega)
      have f66 : prF n c i = true ∨ (cUn (c i) = false ∧ ¬ (md = 1 ∧ (cLo (c i) = true ∨ efF c e i = true))) → (prF n c i = true → cUn (c i) = false ∧ c i ≠ 32) → Pc k S (oneF md n c e i ++ enF md n c e q (i + spF n c i)) (f_Encoder_putEncoded_66 (f_Encoder_putEncoded_3 m) k r (nI e) (nI md) (nI i) (nI (c i)) S) := by
        intro hx hpx
        unfold f_Encoder_putEncoded_66 oneF
        simp only [m2, c32]
        rw [if_neg (by omega)]
        cases hp : prF n c i with
        | true =>
          obtain ⟨-, hne⟩ := hpx hp
          rw [if_pos rfl]
          by_cases y : md = 2
          · rw [if_pos y, if_neg hne]; exact escd
          · rw [if_neg y]; exact escd
        | false =>
          rcases hx with hx | ⟨hx1, hx2⟩
          · rw [hp] at hx; cases hx
          · have hcd : cdF n c i = c i := by unfold cdF; rw [hp]; rfl
            rw [hcd] at escd
            rw [if_neg (by decide), hx1, if_neg (by decide), if_neg hx2]
            by_cases y : md = 2
            · rw [if_pos y]
              by_cases y2 : c i = 32
              · rw [if_pos y2, if_pos ⟨y, y2⟩]
                exact raw 43 (by omega)
              · rw [if_neg y2, if_neg (fun t => y2 t.2)]
                exact escd
            · rw [if_neg y, if_neg (fun t => y t.1)]
              exact escd
      rw [if_neg (fun y => z ((nI_leI (by omega) (by omega)).mp y)), if_neg z, cl_at h (by omega), if_pos (by omega)]
      simp only [Option.bind_some]
      rw [ch_unres S ci]
      simp only [Option.bind_some, bI_0, m1]
      have hpr : prF n c i = true → cUn (c i) = false ∧ cLo (c i) = false ∧ c i ≠ 32 ∧ c i ≠ 37 := by
        intro hp
        unfold prF at hp
        simp at hp
        obtain ⟨q1, q2⟩ := cUn_hi (x := c i) (by omega)
        exact ⟨q1, q2, by omega, by omega⟩
      have hpx : prF n c i = true → cUn (c i) = false ∧ c i ≠ 32 := fun t => ⟨(hpr t).1, (hpr t).2.2.1⟩
      have lit1 : prF n c i = false → (cUn (c i) = true ∨ (md = 1 ∧ (cLo (c i) = true ∨ efF c e i = true))) → oneF md n c e i = [c i] ∧ c i < 256 := by
        intro hp hx
        unfold oneF
        rw [hp, if_neg (by omega), if_neg (by decide)]
        cases hu : cUn (c i) with
        | true => exact ⟨if_pos rfl, by have := cUn_lt hu; omega⟩
        | false =>
          rcases hx with hx | hx
          · rw [hu] at hx; cases hx
          · refine ⟨by rw [if_neg (by decide), if_pos hx], ?_⟩
            rcases hx.2 with y | y
            · have := cLo_lt y; omega
            · unfold efF at y
              simp at y
              omega
      cases hu : cUn (c i) with
      | true =>
        have hp : prF n c i = false := by
          cases hp : prF n c i with
          | false => rfl
          | true => rw [(hpr hp).1] at hu; cases hu
        obtain ⟨q1, q2⟩ := lit1 hp (Or.inl hu)
        rw [if_neg (by decide), q1]
        exact raw _ q2
      | false =>
        rw [if_pos rfl]
        by_cases y1 : md = 1
        · rw [if_pos y1, ch_loose S ci]
          simp only [Option.bind_some, bI_0]
          cases hl : cLo (c i) with
          | true =>
            have hp : prF n c i = false := by
              cases hp : prF n c i with
              | false => rfl
              | true => rw [(hpr hp).2.1] at hl; cases hl
            obtain ⟨q1, q2⟩ := lit1 hp (Or.inr ⟨y1, Or.inl hl⟩)
            rw [if_neg (by decide), q1]
            exact raw _ q2
          | false =>
            rw [if_pos rfl, cl_isesc h (by omega) he]
            simp only [Option.bind_some, bI_0]
            cases hes : efF c e i with
            | true =>
              have hp : prF n c i = false := by
                cases hp : prF n c i with
                | false => rfl
                | true =>
                  unfold efF at hes
                  simp at hes
                  exact absurd hes.1.1 (hpr hp).2.2.2
              obtain ⟨q1, q2⟩ := lit1 hp (Or.inr ⟨y1, Or.inr hes⟩)
              rw [if_neg (by decide), q1]
              exact raw _ q2
            | false =>
              rw [if_pos rfl]
              exact f66 (Or.inr ⟨hu, fun t => by rcases t.2 with t | t; rw [hl] at t; cases t; rw [hes] at t; cases t⟩) hpx
        · rw [if_neg y1]
          exact f66 (Or.inr ⟨hu, fun t => y1 t.1⟩) hpx
theorem cl_encoded {k : Nat} (hk : k < 4) {md : Nat} (hmd : md < 3) {e : Nat} (h : Ix S r n c) (he : e ≤ n) : Pc k S (enF md n c e 8 0) (f_Encoder_putEncoded k r (nI e) (nI md) S) := cl_enc hk hmd 8 fu 0 S h he (by have := h.2.1; omega) (by unfold fu; have := h.2.1; omega) (by omega)
end ENC
