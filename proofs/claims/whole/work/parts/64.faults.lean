-- what is wrong with an item: lone halves, and what no header may have
def lnF (n : Nat) (c : Nat → Nat) : Nat → Nat → Bool
  | 0, _ => false
  | q + 1, i => if n ≤ i then false else if prF n c i = true then lnF n c q (i + 2) else if 55296 ≤ c i ∧ c i ≤ 57343 then true else lnF n c q (i + 1)
theorem lnF_s (n : Nat) (c : Nat → Nat) (q i : Nat) : lnF n c (q + 1) i = if n ≤ i then false else if prF n c i = true then lnF n c q (i + 2) else if 55296 ≤ c i ∧ c i ≤ 57343 then true else lnF n c q (i + 1) := rfl
def asF (c : Nat → Nat) (i : Nat) : Bool := decide (32 ≤ c i ∧ c i ≤ 126)
def fhF (n : Nat) (c : Nat → Nat) : Bool := allF (asF c) n 0 && !decide (0 < n ∧ (c 0 = 32 ∨ c (n - 1) = 32))
theorem allF_at {f : Nat → Bool} : ∀ m i, allF f m i = true → ∀ j, i ≤ j → j < i + m → f j = true := by
  intro m
  induction m with
  | zero => intro i h j a b; omega
  | succ m ih =>
    intro i h j a b
    rw [allF_s] at h
    simp at h
    by_cases y : j = i
    · rw [y]; exact h.1
    · exact ih (i + 1) h.2 j (by omega) (by omega)
section FLT
variable {S : zSt} {r n : Nat} {c : Nat → Nat}
theorem cl_lone (h : Ix S r n c) : ∀ q m i, n - i ≤ q → n - i < m → i < 100 → f_Item_hasLone_2 m r (nI i) S = some (bI (lnF n c q i)) := by
  have hn := h.2.1
  intro q
  induction q with
  | zero =>
    intro m i h1 h2 h3
    obtain ⟨m, rfl⟩ : ∃ j, m = j + 1 := ⟨m - 1, by omega⟩
    rw [f_Item_hasLone_2, h.2.2.1, if_pos ((nI_leI (by omega) (by omega)).mpr (by omega)), gdb_0]
    rfl
  | succ q ih =>
    intro m i h1 h2 h3
    obtain ⟨m, rfl⟩ : ∃ j, m = j + 1 := ⟨m - 1, by omega⟩
    rw [f_Item_hasLone_2, h.2.2.1, lnF_s]
    by_cases z : n ≤ i
    · rw [if_pos ((nI_leI (by omega) (by omega)).mpr z), if_pos z, gdb_0]
      rfl
    · rw [if_neg (fun y => z ((nI_leI (by omega) (by omega)).mp y)), if_neg z, cl_pair h (by omega)]
      simp only [Option.bind_some, bI_0]
      have ci := (h.2.2.2.2 i (by omega)).2.2
      have c1 : (nI (c i) < 55296) ↔ c i < 55296 := nI_ltI (b := 55296) (by omega) (by omega)
      have c2 : (57343 < nI (c i)) ↔ 57343 < c i := nI_ltI (a := 57343) (by omega) (by omega)
      unfold f_Item_hasLone_40 f_Item_hasLone_54
      rw [cl_pair h (by omega)]
      simp only [Option.bind_some, bI_0]
      rw [show (2 : Int32) = nI 2 from rfl, nI_add, nI_1]
      cases hp : prF n c i with
      | true =>
        have hp' := hp
        unfold prF at hp'
        simp at hp'
        rw [if_neg (by decide), if_neg (by decide), if_pos rfl]
        exact ih m (i + 2) (by omega) (by omega) (by omega)
      | false =>
        have i1 := ih m (i + 1) (by omega) (by omega) (by omega)
        simp only [eq_self, if_true, Bool.false_eq_true, if_false]
        rw [cl_at h (by omega), if_pos (show i < n by omega)]
        simp only [Option.bind_some, c1, c2, gdb_1]
        by_cases y1 : c i < 55296
        · rw [if_pos y1, if_neg (by omega)]; exact i1
        · rw [if_neg y1]
          by_cases y2 : 57343 < c i
          · rw [if_pos y2, if_neg (by omega)]; exact i1
          · rw [if_neg y2, if_pos (by omega)]; rfl
theorem cl_lone0 (h : Ix S r n c) : f_Item_hasLone r S = some (bI (lnF n c 8 0)) := cl_lone h 8 fu 0 (by have := h.2.1; omega) (by unfold fu; have := h.2.1; omega) (by omega)
theorem mo_lone1 (h : Ix S r n c) : ∀ m i, n - i < m → i < 100 → f_Mo_loneIn_4 m (nI r) 1 (nI i) S = some 1 := by
  have hn := h.2.1
  have hr := h.1
  intro m
  induction m with
  | zero => intro i a b; omega
  | succ m ih =>
    intro i a b
    rw [f_Mo_loneIn_4, gdiN (by omega) (by omega), nI_clamp (by omega), h.2.2.2.1]
    by_cases z : n ≤ i
    · rw [if_pos ((nI_leI (by omega) (by omega)).mpr z), gdb_1]
    · rw [if_neg (fun y => z ((nI_leI (by omega) (by omega)).mp y)), ix_8, gdiN (by omega) (by omega), if_neg (by decide)]
      unfold f_Mo_loneIn_67 f_Mo_loneIn_72
      rw [nI_1]
      exact ih (i + 1) (by omega) (by omega)
theorem mo_lone (h : Ix S r n c) : ∀ q m i, n - i ≤ q → n - i < m → i < 100 → (∀ j, i = j + 1 → prF n c j = false) → f_Mo_loneIn_4 m (nI r) 0 (nI i) S = some (bI (lnF n c q i)) := by
  have hn := h.2.1
  have hr := h.1
  intro q
  induction q using Nat.strongRecOn with
  | _ q ih =>
    intro m i h1 h2 h3 hprev
    obtain ⟨m, rfl⟩ : ∃ j, m = j + 1 := ⟨m - 1, by omega⟩
    rw [f_Mo_loneIn_4, gdiN (by omega) (by omega), nI_clamp (by omega), h.2.2.2.1]
    by_cases z : n ≤ i
    · rw [if_pos ((nI_leI (by omega) (by omega)).mpr z), gdb_0]
      cases q with
      | zero => rfl
      | succ q => rw [lnF_s, if_pos z]; rfl
    · obtain ⟨q, rfl⟩ : ∃ j, q = j + 1 := ⟨q - 1, by omega⟩
      obtain ⟨-, a2, ci⟩ := h.2.2.2.2 i (by omega)
      rw [if_neg (fun y => z ((nI_leI (by omega) (by omega)).mp y)), ix_8, gdiN (by omega) (by omega), if_pos rfl, nI_clamp (by omega), a2, mo_high S ci, lnF_s, if_neg z]
      simp only [Option.bind_some, bI_0]
      have yes : f_Mo_loneIn_67 (f_Mo_loneIn_4 m) (nI r) (nI i) S = some 1 := by
        unfold f_Mo_loneIn_67 f_Mo_loneIn_72
        rw [nI_1]
        exact mo_lone1 h m (i + 1) (by omega) (by omega)
      have no : f_Mo_loneIn_71 (f_Mo_loneIn_4 m) (nI r) (nI i) S = f_Mo_loneIn_4 m (nI r) 0 (nI (i + 1)) S := by
        unfold f_Mo_loneIn_71 f_Mo_loneIn_72
        rw [nI_1]
      have lowq : f_Mo_loneIn_48 (f_Mo_loneIn_4 m) (nI r) (nI i) (nI (c i)) S = if 56320 ≤ c i ∧ c i ≤ 57343 then some 1 else f_Mo_loneIn_4 m (nI r) 0 (nI (i + 1)) S := by
        unfold f_Mo_loneIn_48
        rw [mo_low S ci]
        simp only [Option.bind_some, bI_0]
        by_cases y : 56320 ≤ c i ∧ c i ≤ 57343
        · rw [if_neg (by simp [y]), if_pos y]
          cases i with
          | zero =>
            have e : f_Mo_pair (nI r) (nI 0 - 1) S = some 0 := by
              unfold f_Mo_pair f_Mo_pair_56
              rw [if_pos (by decide), gdb_0]
            rw [e]
            simp only [Option.bind_some, if_true]
            exact yes
          | succ i =>
            rw [nI_pred, mo_pair h (by omega), hprev i rfl]
            simp only [Option.bind_some]
            rw [if_pos (show bI false = 0 from rfl)]
            exact yes
        · rw [if_pos (by simpa using y), if_neg y, no]
      by_cases hh : 55296 ≤ c i ∧ c i ≤ 56319
      · rw [if_neg (by simp [hh]), mo_pair h (by omega)]
        simp only [Option.bind_some, bI_0]
        cases hp : prF n c i with
        | false =>
          rw [if_pos rfl, yes, if_neg (by decide), if_pos (by omega)]
          rfl
        | true =>
          have hp' := hp
          unfold prF at hp'
          simp at hp'
          rw [if_neg (by decide), lowq, if_neg (by omega), if_pos rfl]
          obtain ⟨m, rfl⟩ : ∃ j, m = j + 1 := ⟨m - 1, by omega⟩
          obtain ⟨-, b2, cj⟩ := h.2.2.2.2 (i + 1) (by omega)
          rw [f_Mo_loneIn_4, gdiN (by omega) (by omega), nI_clamp (by omega), h.2.2.2.1, if_neg (fun y => by have := (nI_leI (by omega) (by omega)).mp y; omega), ix_8, gdiN (by omega) (by omega), if_pos rfl, nI_clamp (by omega), b2, mo_high S cj]
          simp only [Option.bind_some, bI_0]
          have hnh : ¬ (55296 ≤ c (i + 1) ∧ c (i + 1) ≤ 56319) := by omega
          have hlo : 56320 ≤ c (i + 1) ∧ c (i + 1) ≤ 57343 := by omega
          rw [if_pos (by simpa using hnh)]
          unfold f_Mo_loneIn_48
          rw [mo_low S cj]
          simp only [Option.bind_some, bI_0]
          rw [if_neg (by simp [hlo]), nI_pred, mo_pair h (by omega), hp]
          simp only [Option.bind_some]
          rw [if_neg (by decide)]
          unfold f_Mo_loneIn_71 f_Mo_loneIn_72
          rw [nI_1]
          cases q with
          | zero => omega
          | succ q =>
            refine ih (q + 1) (by omega) m (i + 2) (by omega) (by omega) (by omega) (fun j hj => ?_)
            have : j = i + 1 := by omega
            subst this
            unfold prF
            simp
            omega
      · rw [if_pos (by simpa using hh), lowq]
        have hp : prF n c i = false := by
          unfold prF
          simp
          omega
        rw [hp, if_neg (show ¬ (false = true) by decide)]
        by_cases y : 56320 ≤ c i ∧ c i ≤ 57343
        · rw [if_pos y, if_pos (by omega)]; rfl
        · rw [if_neg y, if_neg (by omega)]
          exact ih q (by omega) m (i + 1) (by omega) (by omega) (by omega) (fun j hj => by
            have : j = i := by omega
            rw [this]; exact hp)
theorem mo_lone0 (h : Ix S r n c) : f_Mo_loneIn (nI r) S = some (bI (lnF n c 8 0)) := mo_lone h 8 fu 0 (by have := h.2.1; omega) (by unfold fu; have := h.2.1; omega) (by omega) (fun j hj => by omega)
theorem cl_fit (h : Ix S r n c) : ∀ m i, i ≤ n → n - i < m → f_Item_fitsHeader_2 m r (nI i) S = some (bI (allF (asF c) (n - i) i && !decide (0 < n ∧ (c 0 = 32 ∨ c (n - 1) = 32)))) := by
  have hn := h.2.1
  intro m
  induction m with
  | zero => intro i a b; omega
  | succ m ih =>
    intro i a b
    rw [f_Item_fitsHeader_2, h.2.2.1]
    by_cases z : n ≤ i
    · rw [if_pos ((nI_leI (by omega) (by omega)).mpr z), show n - i = 0 by omega]
      have e0 : f_Item_at r 0 S = some (nI (if 0 < n then c 0 else 0)) := cl_at h (i := 0) (by omega)
      have e1 : f_Item_at r (nI n - 1) S = some (nI (if 0 < n then c (n - 1) else 0)) := by
        cases n with
        | zero =>
          unfold f_Item_at f_Item_at_21
          rw [if_pos (by decide)]
          rfl
        | succ n =>
          rw [nI_pred, cl_at h (by omega), if_pos (by omega), if_pos (by omega)]
          rfl
      unfold f_Item_fitsHeader_69
      rw [e0, e1]
      simp only [Option.bind_some, gdb_0, gdb_1]
      by_cases hz : 0 < n
      · have q0 := (h.2.2.2.2 0 (by omega)).2.2
        have q1 := (h.2.2.2.2 (n - 1) (by omega)).2.2
        have c0 : (nI (c 0) = 32) ↔ c 0 = 32 := nI_eq (b := 32) (by omega) (by omega)
        have c1 : (nI (c (n - 1)) = 32) ↔ c (n - 1) = 32 := nI_eq (b := 32) (by omega) (by omega)
        rw [if_pos hz, if_pos hz]
        simp only [c0, c1]
        by_cases y0 : c 0 = 32
        · rw [if_pos y0]
          simp [y0, hz, bI, allF]
        · rw [if_neg y0]
          by_cases y1 : c (n - 1) = 32
          · rw [if_pos y1]
            simp [y1, hz, bI, allF]
          · rw [if_neg y1]
            simp [y0, y1, bI, allF]
      · rw [if_neg hz, if_neg hz, if_neg (by decide), if_neg (by decide)]
        simp [hz, bI, allF]
    · obtain ⟨a1, -, ci⟩ := h.2.2.2.2 i (by omega)
      obtain ⟨j, hj⟩ : ∃ j, n - i = j + 1 := ⟨n - i - 1, by omega⟩
      have i1 := ih (i + 1) (by omega) (by omega)
      rw [show n - (i + 1) = j by omega] at i1
      have c1 : (nI (c i) < 32) ↔ c i < 32 := nI_ltI (b := 32) (by omega) (by omega)
      have c2 : (nI (c i) ≤ 126) ↔ c i ≤ 126 := nI_leI (b := 126) (by omega) (by omega)
      rw [if_neg (fun y => z ((nI_leI (by omega) (by omega)).mp y)), hj, allF_s]
      simp (disch := omega) only [gdiN, nI_clamp, a1, c1, c2, gdb_0, nI_1, i1]
      unfold asF
      by_cases y1 : c i < 32
      · have : ¬ 32 ≤ c i := by omega
        rw [if_pos y1]
        simp [this, bI]
      · rw [if_neg y1]
        by_cases y2 : c i ≤ 126
        · have t : 32 ≤ c i ∧ c i ≤ 126 := by omega
          rw [if_pos y2, decide_eq_true t, Bool.true_and]
        · rw [if_neg y2]
          simp [y2, bI]
theorem cl_fit0 (h : Ix S r n c) : f_Item_fitsHeader r S = some (bI (fhF n c)) := cl_fit h fu 0 (by omega) (by unfold fu; have := h.2.1; omega)
theorem mo_unf (h : Ix S r n c) : ∀ m i acc, i ≤ n → n - i < m → f_Mo_unfitIn_52 m (nI r) (nI n) (bI acc) (nI i) S = some (bI (acc || !allF (asF c) (n - i) i)) := by
  have hn := h.2.1
  have hr := h.1
  intro m
  induction m with
  | zero => intro i acc a b; omega
  | succ m ih =>
    intro i acc a b
    rw [f_Mo_unfitIn_52]
    by_cases z : n ≤ i
    · rw [if_pos ((nI_leI (by omega) (by omega)).mpr z), show n - i = 0 by omega, gdb_bI]
      simp [allF]
    · obtain ⟨-, a2, ci⟩ := h.2.2.2.2 i (by omega)
      obtain ⟨j, hj⟩ : ∃ j, n - i = j + 1 := ⟨n - i - 1, by omega⟩
      have i1 := fun acc => ih (i + 1) acc (by omega) (by omega)
      rw [show n - (i + 1) = j by omega] at i1
      have c1 : (nI (c i) < 32) ↔ c i < 32 := nI_ltI (b := 32) (by omega) (by omega)
      have c2 : (nI (c i) ≤ 126) ↔ c i ≤ 126 := nI_leI (b := 126) (by omega) (by omega)
      unfold f_Mo_unfitIn_90 f_Mo_unfitIn_95
      rw [if_neg (fun y => z ((nI_leI (by omega) (by omega)).mp y)), hj, allF_s, ix_8, gdiN (by omega) (by omega), nI_clamp (by omega), a2, nI_1]
      simp only [bI_0, c1, c2]
      have iT : f_Mo_unfitIn_52 m (nI r) (nI n) 1 (nI (i + 1)) S = some (bI (true || !allF (asF c) j (i + 1))) := i1 true
      have iF : f_Mo_unfitIn_52 m (nI r) (nI n) 0 (nI (i + 1)) S = some (bI (false || !allF (asF c) j (i + 1))) := i1 false
      rw [iT, iF]
      cases acc with
      | true => simp
      | false =>
        rw [if_pos rfl]
        unfold asF
        by_cases y1 : c i < 32
        · have : ¬ 32 ≤ c i := by omega
          rw [if_pos y1]
          simp [this]
        · rw [if_neg y1]
          by_cases y2 : c i ≤ 126
          · have t : 32 ≤ c i ∧ c i ≤ 126 := by omega
            rw [if_pos y2, decide_eq_true t]
            simp
          · rw [if_neg y2]
            simp [y2]
theorem mo_unf0 (h : Ix S r n c) : f_Mo_unfitIn (nI r) S = some (bI (!fhF n c)) := by
  have hn := h.2.1
  have hr := h.1
  have u1 : f_Mo_unfitIn_43 (nI r) (nI n) S = some (bI true) := by
    have := mo_unf h fu 0 true (by omega) (by unfold fu; omega)
    rw [Bool.true_or] at this
    exact this
  have u0 : f_Mo_unfitIn_47 (nI r) (nI n) S = some (bI (!allF (asF c) n 0)) := by
    have := mo_unf h fu 0 false (by omega) (by unfold fu; omega)
    rw [Bool.false_or] at this
    exact this
  unfold f_Mo_unfitIn fhF
  rw [gdiN (by omega) (by omega), nI_clamp (by omega), h.2.2.2.1, u1, u0]
  have c0 : (nI n ≤ 0) ↔ n ≤ 0 := nI_leI (b := 0) (by omega) (by omega)
  simp only [c0]
  by_cases z : n ≤ 0
  · have : ¬ 0 < n := by omega
    rw [if_pos z]
    simp [this]
  · obtain ⟨-, a2, ca⟩ := h.2.2.2.2 0 (by omega)
    obtain ⟨-, b2, cb⟩ := h.2.2.2.2 (n - 1) (by omega)
    have e8 : (8 * nI r : Int32) = nI (8 * r) := by rw [show (8 : Int32) = nI 8 from rfl, pk_mul]
    have e9 : nI (8 * r) + nI n - 1 = nI (8 * r + (n - 1)) := by
      obtain ⟨j, rfl⟩ : ∃ j, n = j + 1 := ⟨n - 1, by omega⟩
      rw [nI_add, show 8 * r + (j + 1) = (8 * r + j) + 1 by omega, nI_pred]
      rfl
    have c1 : (nI (c 0) = 32) ↔ c 0 = 32 := nI_eq (b := 32) (by omega) (by omega)
    have c2 : (nI (c (n - 1)) = 32) ↔ c (n - 1) = 32 := nI_eq (b := 32) (by omega) (by omega)
    rw [Nat.add_zero] at a2
    rw [if_neg z, e8, e9, gdiN (by omega) (by omega), gdiN (by omega) (by omega), nI_clamp (by omega), nI_clamp (by omega), a2, b2]
    simp only [c1, c2]
    have hz : 0 < n := by omega
    by_cases y1 : c 0 = 32
    · rw [if_pos y1]; simp [y1, hz]
    · rw [if_neg y1]
      by_cases y2 : c (n - 1) = 32
      · rw [if_pos y2]; simp [y2, hz]
      · rw [if_neg y2]; simp [y1, y2]
end FLT
/-- how many items each parameter has -/
def Qx (S : zSt) (ct : Nat → Nat) : Prop := ∀ k, k < 6 → S (10 + k) 1 = nI (ct k) ∧ S 70 k = nI (ct k) ∧ ct k ≤ 3
def ctS (S : zSt) (k : Nat) : Nat := (S 70 k).toNatClampNeg
theorem Rd_qx {S : zSt} (h : Rd S) : Qx S (ctS S) := by
  obtain ⟨-, -, -, -, -, q6, -⟩ := h
  intro k hk
  obtain ⟨-, a2, -, -, a5, a6, -⟩ := q6 k hk
  have e := toCl a5
  refine ⟨?_, ?_, ?_⟩
  · unfold ctS; rw [a2]; exact e
  · unfold ctS; rw [a2]; exact e
  · obtain ⟨j, hj, ej⟩ := toN 3 a5 a6 (by decide)
    unfold ctS
    rw [a2, ej, nI_clamp (by omega)]
    exact hj
section PFLT
variable {S : zSt} {c : Nat} {kd lt ct : Nat → Nat} {il : Nat → Nat} {ic : Nat → Nat → Nat}
def lnP (il : Nat → Nat) (ic : Nat → Nat → Nat) (r : Nat) : Bool := lnF (il r) (ic r) 8 0
def ufP (il : Nat → Nat) (ic : Nat → Nat → Nat) (r : Nat) : Bool := !fhF (il r) (ic r)
def lnK (ct il : Nat → Nat) (ic : Nat → Nat → Nat) (k : Nat) : Bool := anyF (fun j => lnP il ic (3 * k + j)) (ct k) 0
def ufK (kd ct il : Nat → Nat) (ic : Nat → Nat → Nat) (k : Nat) : Bool := decide (kd k = 3) && anyF (fun j => ufP il ic (3 * k + j)) (ct k) 0
def afV (c : Nat) (kd ct il : Nat → Nat) (ic : Nat → Nat → Nat) : Int32 := if anyF (lnK ct il ic) c 0 = true then -8 else if anyF (ufK kd ct il ic) c 0 = true then -9 else 0
theorem cl_plone (hQ : Qx S ct) (hI : ∀ r, r < 18 → Ix S r (il r) (ic r)) {k : Nat} (hk : k < 6) : ∀ m j, j ≤ ct k → ct k - j < m → f_Parameter_hasLone_2 m k (nI j) S = some (bI (anyF (fun j => lnP il ic (3 * k + j)) (ct k - j) j)) := by
  obtain ⟨q1, q2, q3⟩ := hQ k hk
  intro m
  induction m with
  | zero => intro j a b; omega
  | succ m ih =>
    intro j a b
    rw [f_Parameter_hasLone_2, q1]
    by_cases z : ct k ≤ j
    · rw [if_pos ((nI_leI (by omega) (by omega)).mpr z), show ct k - j = 0 by omega, gdb_0]
      rfl
    · obtain ⟨i, hi⟩ : ∃ i, ct k - j = i + 1 := ⟨ct k - j - 1, by omega⟩
      have i1 := ih (j + 1) (by omega) (by omega)
      rw [show ct k - (j + 1) = i by omega] at i1
      rw [if_neg (fun y => z ((nI_leI (by omega) (by omega)).mp y)), gdiN (by omega) (by omega), nI_clamp (by omega), cl_lone0 (hI (3 * k + j) (by omega)), hi, anyF_s]
      simp only [Option.bind_some, bI_0, nI_1, i1, gdb_1]
      show (if lnP il ic (3 * k + j) = false then _ else _) = _
      cases lnP il ic (3 * k + j) <;> simp [bI]
theorem cl_pfit (hQ : Qx S ct) (hI : ∀ r, r < 18 → Ix S r (il r) (ic r)) {k : Nat} (hk : k < 6) : ∀ m j, j ≤ ct k → ct k - j < m → f_Parameter_fitsHeader_2 m k (nI j) S = some (bI (!anyF (fun j => ufP il ic (3 * k + j)) (ct k - j) j)) := by
  obtain ⟨q1, q2, q3⟩ := hQ k hk
  intro m
  induction m with
  | zero => intro j a b; omega
  | succ m ih =>
    intro j a b
    rw [f_Parameter_fitsHeader_2, q1]
    by_cases z : ct k ≤ j
    · rw [if_pos ((nI_leI (by omega) (by omega)).mpr z), show ct k - j = 0 by omega, gdb_1]
      rfl
    · obtain ⟨i, hi⟩ : ∃ i, ct k - j = i + 1 := ⟨ct k - j - 1, by omega⟩
      have i1 := ih (j + 1) (by omega) (by omega)
      rw [show ct k - (j + 1) = i by omega] at i1
      rw [if_neg (fun y => z ((nI_leI (by omega) (by omega)).mp y)), gdiN (by omega) (by omega), nI_clamp (by omega), cl_fit0 (hI (3 * k + j) (by omega)), hi, anyF_s]
      simp only [Option.bind_some, bI_0, nI_1, i1, gdb_0]
      unfold ufP
      cases fhF (il (3 * k + j)) (ic (3 * k + j)) <;> simp [bI]
theorem cl_af33 (hP : Px S c kd lt) (hQ : Qx S ct) (hI : ∀ r, r < 18 → Ix S r (il r) (ic r)) : ∀ m k, k ≤ c → c - k < m → f_Declaration_argumentFault_33 m (nI k) S = some (if anyF (ufK kd ct il ic) (c - k) k = true then -9 else 0) := by
  have hc := hP.1
  intro m
  induction m with
  | zero => intro k a b; omega
  | succ m ih =>
    intro k a b
    rw [f_Declaration_argumentFault_33, hP.2.1]
    by_cases z : c ≤ k
    · rw [if_pos ((nI_leI (by omega) (by omega)).mpr z), show c - k = 0 by omega]
      rfl
    · obtain ⟨p1, p2, p3, p4, p5, p6⟩ := hP.2.2.2 k (by omega)
      obtain ⟨i, hi⟩ : ∃ i, c - k = i + 1 := ⟨c - k - 1, by omega⟩
      have i1 := ih (k + 1) (by omega) (by omega)
      rw [show c - (k + 1) = i by omega] at i1
      have c3 : (nI (kd k) = 3) ↔ kd k = 3 := nI_eq (b := 3) (by omega) (by omega)
      have ef : f_Parameter_fitsHeader k S = some (bI (!anyF (fun j => ufP il ic (3 * k + j)) (ct k) 0)) := cl_pfit hQ hI (by omega) fu 0 (by omega) (by have := (hQ k (by omega)).2.2; unfold fu; omega)
      unfold f_Declaration_argumentFault_69
      rw [if_neg (fun y => z ((nI_leI (by omega) (by omega)).mp y)), hi, anyF_s]
      simp (disch := omega) only [gdiN, nI_clamp, p1, c3, ef, Option.bind_some, bI_0, nI_1, i1]
      unfold ufK
      by_cases y : kd k = 3
      · rw [if_pos y]
        cases anyF (fun j => ufP il ic (3 * k + j)) (ct k) 0 <;> simp [y]
      · rw [if_neg y]
        simp [y]
theorem cl_af (hP : Px S c kd lt) (hQ : Qx S ct) (hI : ∀ r, r < 18 → Ix S r (il r) (ic r)) : f_Declaration_argumentFault S = some (afV c kd ct il ic) := by
  have hc := hP.1
  have h33 := cl_af33 hP hQ hI fu 0 (by omega) (by unfold fu; omega)
  rw [Nat.sub_zero] at h33
  have lp : ∀ m k, k ≤ c → c - k < m → f_Declaration_argumentFault_2 m (nI k) S = some (if anyF (lnK ct il ic) (c - k) k = true then -8 else if anyF (ufK kd ct il ic) c 0 = true then -9 else 0) := by
    intro m
    induction m with
    | zero => intro k a b; omega
    | succ m ih =>
      intro k a b
      rw [f_Declaration_argumentFault_2, hP.2.1]
      by_cases z : c ≤ k
      · rw [if_pos ((nI_leI (by omega) (by omega)).mpr z), show c - k = 0 by omega]
        exact h33
      · obtain ⟨i, hi⟩ : ∃ i, c - k = i + 1 := ⟨c - k - 1, by omega⟩
        have i1 := ih (k + 1) (by omega) (by omega)
        rw [show c - (k + 1) = i by omega] at i1
        have ef : f_Parameter_hasLone k S = some (bI (lnK ct il ic k)) := cl_plone hQ hI (by omega) fu 0 (by omega) (by have := (hQ k (by omega)).2.2; unfold fu; omega)
        rw [if_neg (fun y => z ((nI_leI (by omega) (by omega)).mp y)), hi, anyF_s]
        simp (disch := omega) only [gdiN, nI_clamp, ef, Option.bind_some, bI_0, nI_1, i1]
        cases lnK ct il ic k <;> simp
  exact lp fu 0 (by omega) (by unfold fu; omega)
theorem mo_if17 (hP : Px S c kd lt) (hQ : Qx S ct) (hI : ∀ r, r < 18 → Ix S r (il r) (ic r)) (K : Int32 → Int32 → Int32 → zSt → Option Int32) {k : Nat} (hk : k < c) : ∀ m j x y, j ≤ ct k → ct k - j < m → f_Mo_itemFault_17 K m (bI x) (bI y) (nI k) (nI j) S = K (bI (x || anyF (fun j => lnP il ic (3 * k + j)) (ct k - j) j)) (bI (y || (decide (kd k = 3) && anyF (fun j => ufP il ic (3 * k + j)) (ct k - j) j))) (nI (k + 1)) S := by
  have hc := hP.1
  obtain ⟨q1, q2, q3⟩ := hQ k (by omega)
  obtain ⟨p1, p2, p3, p4, p5, p6⟩ := hP.2.2.2 k (by omega)
  have c3 : (nI (kd k) = 3) ↔ kd k = 3 := nI_eq (b := 3) (by omega) (by omega)
  intro m
  induction m with
  | zero => intro j x y a b; omega
  | succ m ih =>
    intro j x y a b
    rw [f_Mo_itemFault_17, gdiN (by omega) (by omega), nI_clamp (by omega), q2]
    by_cases z : ct k ≤ j
    · rw [if_pos ((nI_leI (by omega) (by omega)).mpr z), show ct k - j = 0 by omega, nI_1]
      simp [anyF]
    · obtain ⟨i, hi⟩ : ∃ i, ct k - j = i + 1 := ⟨ct k - j - 1, by omega⟩
      have i1 := fun x y => ih (j + 1) x y (by omega) (by omega)
      rw [show ct k - (j + 1) = i by omega] at i1
      have hr : 3 * k + j < 18 := by omega
      have e3 : (3 * nI k : Int32) + nI j = nI (3 * k + j) := by rw [show (3 : Int32) = nI 3 from rfl, pk_mul, nI_add]
      have f50 : ∀ x' : Bool, f_Mo_itemFault_50 K (f_Mo_itemFault_17 K m) (bI y) (nI k) (nI j) (bI x') S = f_Mo_itemFault_17 K m (bI x') (bI (y || (decide (kd k = 3) && ufP il ic (3 * k + j)))) (nI k) (nI (j + 1)) S := by
        intro x'
        unfold f_Mo_itemFault_50 f_Mo_itemFault_78 f_Mo_itemFault_82 f_Mo_itemFault_83
        rw [e3, mo_unf0 (hI _ hr), gdiN (by omega) (by omega), nI_clamp (by omega), p2, nI_1]
        simp only [bI_0, c3, Option.bind_some]
        cases y with
        | true => rw [if_neg (by decide), Bool.true_or]; rfl
        | false =>
          rw [if_pos rfl, Bool.false_or]
          by_cases w : kd k = 3
          · rw [if_pos w]
            show (if ufP il ic (3 * k + j) = false then _ else _) = _
            cases ufP il ic (3 * k + j) <;> simp [w, bI]
          · rw [if_neg w]
            simp [w, bI]
      have f50' : ∀ x' : Bool, f_Mo_itemFault_50 K (f_Mo_itemFault_17 K m) (bI y) (nI k) (nI j) (bI x') S = K (bI (x' || anyF (fun j => lnP il ic (3 * k + j)) i (j + 1))) (bI (y || (decide (kd k = 3) && anyF (fun j => ufP il ic (3 * k + j)) (i + 1) j))) (nI (k + 1)) S := by
        intro x'
        rw [f50, i1, anyF_s]
        congr 2
        cases y <;> cases decide (kd k = 3) <;> simp
      rw [if_neg (fun t => z ((nI_leI (by omega) (by omega)).mp t)), hi, anyF_s (fun j => lnP il ic (3 * k + j))]
      unfold f_Mo_itemFault_45
      simp only [bI_0]
      rw [e3, mo_lone0 (hI _ hr)]
      simp only [Option.bind_some, bI_0]
      have h1 := f50' true
      have h0 := f50' false
      rw [show bI true = 1 from rfl] at h1
      rw [show bI false = 0 from rfl] at h0
      rw [h1, h0]
      cases x with
      | true => simp
      | false =>
        show (if false = false then (if lnP il ic (3 * k + j) = false then _ else _) else _) = _
        rw [if_pos rfl]
        cases lnP il ic (3 * k + j) <;> simp
theorem mo_if6 (hP : Px S c kd lt) (hQ : Qx S ct) (hI : ∀ r, r < 18 → Ix S r (il r) (ic r)) : ∀ m k x y, k ≤ c → c - k < m → f_Mo_itemFault_6 m (bI x) (bI y) (nI k) S = some (if (x || anyF (lnK ct il ic) (c - k) k) = true then -8 else if (y || anyF (ufK kd ct il ic) (c - k) k) = true then -9 else 0) := by
  have hc := hP.1
  intro m
  induction m with
  | zero => intro k x y a b; omega
  | succ m ih =>
    intro k x y a b
    rw [f_Mo_itemFault_6, hP.2.2.1]
    by_cases z : c ≤ k
    · rw [if_pos ((nI_leI (by omega) (by omega)).mpr z), show c - k = 0 by omega]
      cases x <;> cases y <;> simp [bI, anyF]
    · obtain ⟨i, hi⟩ : ∃ i, c - k = i + 1 := ⟨c - k - 1, by omega⟩
      rw [if_neg (fun t => z ((nI_leI (by omega) (by omega)).mp t))]
      have := mo_if17 hP hQ hI (f_Mo_itemFault_6 m) (k := k) (by omega) fu 0 x y (by omega) (by have := (hQ k (by omega)).2.2; unfold fu; omega)
      rw [show nI 0 = 0 from rfl] at this
      rw [this, ih (k + 1) _ _ (by omega) (by omega), show c - (k + 1) = i by omega, hi, anyF_s, anyF_s, Nat.sub_zero, Bool.or_assoc, Bool.or_assoc]
      rfl
theorem mo_if (hP : Px S c kd lt) (hQ : Qx S ct) (hI : ∀ r, r < 18 → Ix S r (il r) (ic r)) : f_Mo_itemFault S = some (afV c kd ct il ic) := by
  have := mo_if6 hP hQ hI fu 0 false false (by omega) (by unfold fu; have := hP.1; omega)
  rw [Bool.false_or, Bool.false_or, Nat.sub_zero] at this
  exact this
end PFLT
