-- the reference's words: longs as digits, and what spelt says
def encN : List Nat → Nat
  | [] => 0
  | d :: l => d + 256 * encN l
def mtF (g : Nat → Nat) (f t : Nat) : List Nat → Nat → Bool
  | [], _ => true
  | d :: l, i => decide (f + i < t ∧ cLow (g (f + i)) = d) && mtF g f t l (i + 1)
theorem lz_0 {w : Nat} (hw : w < 2 ^ 64) : (lg_cmp (lN w) 0 = 0) ↔ w = 0 := by
  have hz : lN w = 0 ↔ w = 0 := by
    constructor
    · intro h
      have h1 : (lN w).toBitVec.toNat = (0 : Int64).toBitVec.toNat := by rw [h]
      have h2 : (lN w).toBitVec.toNat = w := by
        show (BitVec.ofNat 64 w).toNat = w
        rw [BitVec.toNat_ofNat, Nat.mod_eq_of_lt hw]
      have h3 : (0 : Int64).toBitVec.toNat = 0 := by decide
      omega
    · intro h; rw [h]; rfl
  unfold lg_cmp
  by_cases c : lN w = 0
  · rw [c]
    have := hz.mp c
    simp [this]
  · have : ¬ w = 0 := fun z => c (hz.mpr z)
    simp only [this, iff_false]
    by_cases d : lN w > 0
    · rw [if_pos d]; decide
    · rw [if_neg d, if_neg c]; decide
theorem lz_shr {n : Nat} (hn : n < 2 ^ 64) : ((lN n).toUInt64 >>> ((8 : Int32).toInt64.toUInt64 &&& Int64.toUInt64 63)).toInt64 = lN (n / 256) := by
  have hc : ((8 : Int32).toInt64.toUInt64 &&& Int64.toUInt64 63) = 8 := by decide
  rw [hc]
  apply Int64.toBitVec_inj.mp
  apply BitVec.eq_of_toNat_eq
  have h2 : (lN n).toUInt64.toNat = n := by
    show (BitVec.ofNat 64 n).toNat = n
    rw [BitVec.toNat_ofNat, Nat.mod_eq_of_lt hn]
  have h3 : (8 : UInt64).toNat = 8 := by decide
  show ((lN n).toUInt64 >>> 8).toNat = (BitVec.ofNat 64 (n / 256)).toNat
  rw [UInt64.toNat_shiftRight, h2, h3, BitVec.toNat_ofNat, Nat.mod_eq_of_lt (show n / 256 < 2 ^ 64 by omega), Nat.shiftRight_eq_div_pow]
theorem lz_i32 : ∀ k, k < 256 → (lN k).toInt32 = nI k := by decide +kernel
theorem lz_and {n : Nat} (hn : n < 2 ^ 64) : (lN n &&& (255 : Int64)).toInt32 = nI (n % 256) := by
  have h : lN n &&& (255 : Int64) = lN (n % 256) := by
    apply Int64.toBitVec_inj.mp
    rw [Int64.toBitVec_and]
    apply BitVec.eq_of_toNat_eq
    have h2 : (lN n).toBitVec.toNat = n := by
      show (BitVec.ofNat 64 n).toNat = n
      rw [BitVec.toNat_ofNat, Nat.mod_eq_of_lt hn]
    have h3 : (255 : Int64).toBitVec.toNat = 2 ^ 8 - 1 := by decide
    have h4 : (lN (n % 256)).toBitVec.toNat = n % 256 := by
      show (BitVec.ofNat 64 (n % 256)).toNat = n % 256
      rw [BitVec.toNat_ofNat, Nat.mod_eq_of_lt (by omega)]
    rw [BitVec.toNat_and, h2, h3, h4, Nat.and_two_pow_sub_one_eq_mod]
  rw [h, lz_i32 _ (by omega)]
/-- the reference's line: n characters g from p on -/
def Lm (S : zSt) (p n : Nat) (g : Nat → Nat) : Prop := S 66 21 = nI p ∧ S 66 22 = nI (p + n) ∧ p + n ≤ 510 ∧ n ≤ 60 ∧ ∀ i, i < n → S 76 (p + i) = nI (g i) ∧ g i < 127
section SPELT
variable {S : zSt} {p n : Nat} {g : Nat → Nat}
theorem cLow_lt {c : Nat} (h : c < 127) : cLow c < 200 := by
  unfold cLow
  split <;> omega
theorem mo_sp (h : Lm S p n g) {f t : Nat} (ht : t ≤ n) (K9 : Int32 → Int32 → Int64 → Int64 → Int64 → Int32 → Int32 → Int32 → zSt → Option Int32) (a3 a5 a7 : Int64) (a11 : Int32) : ∀ (ds : List Nat) (m i : Nat) (ok : Bool), (∀ d ∈ ds, 0 < d ∧ d < 128) → encN ds < 2 ^ 64 → ds.length < m → f + i + ds.length < 1000 → f_Mo_spelt_39 K9 m (nI (p + f)) (nI (p + t)) a3 a5 a7 (nI i) (bI ok) a11 (lN (encN ds)) S = K9 (nI (p + f)) (nI (p + t)) a3 a5 a7 (nI (i + ds.length)) (bI (ok && mtF g f t ds i)) (a11 + 1) S := by
  intro ds
  induction ds with
  | nil =>
    intro m i ok h1 h2 h3 h4
    cases m with
    | zero => exact absurd h3 (Nat.not_lt_zero _)
    | succ m =>
      rw [f_Mo_spelt_39, if_pos ((lz_0 h2).mpr rfl)]
      simp [mtF]
  | cons d ds ih =>
    intro m i ok h1 h2 h3 h4
    cases m with
    | zero => exact absurd h3 (Nat.not_lt_zero _)
    | succ m =>
      obtain ⟨d1, d2⟩ := h1 d (List.mem_cons_self ..)
      have hl : (d :: ds).length = ds.length + 1 := rfl
      have he : encN (d :: ds) = d + 256 * encN ds := rfl
      have hm : mtF g f t (d :: ds) i = (decide (f + i < t ∧ cLow (g (f + i)) = d) && mtF g f t ds (i + 1)) := rfl
      have hn : ¬ lg_cmp (lN (encN (d :: ds))) 0 = 0 := fun z => by have := (lz_0 h2).mp z; omega
      have hbig : f + (i + 1) + ds.length < 1000 := by omega
      have go : ∀ ok', f_Mo_spelt_86 K9 (f_Mo_spelt_39 K9 m) (nI (p + f)) (nI (p + t)) a3 a5 a7 (nI i) a11 (lN (encN (d :: ds))) (bI ok') S = K9 (nI (p + f)) (nI (p + t)) a3 a5 a7 (nI (i + (d :: ds).length)) (bI (ok' && mtF g f t ds (i + 1))) (a11 + 1) S := by
        intro ok'
        unfold f_Mo_spelt_86
        rw [lz_shr h2, nI_1, show encN (d :: ds) / 256 = encN ds by omega, ih m (i + 1) ok' (fun x hx => h1 x (List.mem_cons_of_mem _ hx)) (by omega) (by omega) hbig, hl, show i + 1 + ds.length = i + (ds.length + 1) by omega]
      have go0 : f_Mo_spelt_85 K9 (f_Mo_spelt_39 K9 m) (nI (p + f)) (nI (p + t)) a3 a5 a7 (nI i) a11 (lN (encN (d :: ds))) S = K9 (nI (p + f)) (nI (p + t)) a3 a5 a7 (nI (i + (d :: ds).length)) (bI (false && mtF g f t ds (i + 1))) (a11 + 1) S := go false
      rw [f_Mo_spelt_39, if_neg hn]
      cases ok with
      | false =>
        rw [if_pos (show bI false = 0 from rfl), go0, Bool.false_and, Bool.false_and]
      | true =>
        have hp := h.2.2.1
        rw [if_neg (by decide), nI_add, hm]
        by_cases hi : f + i < t
        · obtain ⟨e1, e2⟩ := h.2.2.2.2 (f + i) (by omega)
          have hlow := cLow_lt e2
          rw [if_neg (fun z => by have := (nI_leI (by omega) (by omega)).mp z; omega), gdiN (by omega) (by omega), nI_clamp (by omega), show p + f + i = p + (f + i) by omega, e1, mo_lower S (by omega)]
          simp only [Option.bind_some]
          rw [lz_and h2, show encN (d :: ds) % 256 = d by omega]
          have c : (nI (cLow (g (f + i))) = nI d) ↔ cLow (g (f + i)) = d := nI_eq (by omega) (by omega)
          simp only [c]
          by_cases hc : cLow (g (f + i)) = d
          · rw [if_pos hc]
            refine (go true).trans ?_
            simp [hi, hc]
          · rw [if_neg hc, go0]
            simp [hc]
        · rw [if_pos ((nI_leI (by omega) (by omega)).mpr (by omega)), go0]
          simp [hi]
theorem mt_app (f t : Nat) : ∀ (a b : List Nat) i, mtF g f t (a ++ b) i = (mtF g f t a i && mtF g f t b (i + a.length)) := by
  intro a
  induction a with
  | nil => intro b i; simp [mtF]
  | cons d a ih =>
    intro b i
    show (_ && mtF g f t (a ++ b) (i + 1)) = _
    rw [ih, show (d :: a).length = a.length + 1 from rfl, show i + 1 + a.length = i + (a.length + 1) by omega]
    show _ = ((_ && mtF g f t a (i + 1)) && _)
    rw [Bool.and_assoc]
theorem mo_spelt (h : Lm S p n g) {f t : Nat} (hf : f ≤ t) (ht : t ≤ n) (x y z : List Nat) (hx : ∀ d ∈ x, 0 < d ∧ d < 128) (hy : ∀ d ∈ y, 0 < d ∧ d < 128) (hz : ∀ d ∈ z, 0 < d ∧ d < 128) (ex : encN x < 2 ^ 64) (ey : encN y < 2 ^ 64) (ez : encN z < 2 ^ 64) (lx : x.length < 10) (ly : y.length < 10) (lz : z.length < 10) : f_Mo_spelt (nI (p + f)) (nI (p + t)) (lN (encN x)) (lN (encN y)) (lN (encN z)) S = some (bI (mtF g f t (x ++ (y ++ z)) 0 && decide (t - f = (x ++ (y ++ z)).length))) := by
  have hn := h.2.2.2.1
  have hp := h.2.2.1
  have hfu : fu = 3996 + 1 + 1 + 1 + 1 := rfl
  have hx' := mo_sp h (f := f) ht (f_Mo_spelt_9 (3996 + 1 + 1 + 1)) (lN (encN x)) (lN (encN y)) (lN (encN z)) 0 x fu 0 true hx ex (by unfold fu; omega) (by omega)
  have hy' := mo_sp h (f := f) ht (f_Mo_spelt_9 (3996 + 1 + 1)) (lN (encN x)) (lN (encN y)) (lN (encN z)) 1 y fu (0 + x.length) (true && mtF g f t x 0) hy ey (by unfold fu; omega) (by omega)
  have hz' := mo_sp h (f := f) ht (f_Mo_spelt_9 (3996 + 1)) (lN (encN x)) (lN (encN y)) (lN (encN z)) 2 z fu (0 + x.length + y.length) ((true && mtF g f t x 0) && mtF g f t y (0 + x.length)) hz ez (by unfold fu; omega) (by omega)
  have l2 : f_Mo_spelt (nI (p + f)) (nI (p + t)) (lN (encN x)) (lN (encN y)) (lN (encN z)) S = f_Mo_spelt_9 (3996 + 1 + 1 + 1 + 1) (nI (p + f)) (nI (p + t)) (lN (encN x)) (lN (encN y)) (lN (encN z)) (nI 0) (bI true) 0 S := rfl
  rw [l2, f_Mo_spelt_9, if_neg (by decide), if_pos rfl, f_Mo_spelt_37, hx', show (0 : Int32) + 1 = 1 from rfl, f_Mo_spelt_9, if_neg (by decide), if_neg (by decide), if_pos rfl, f_Mo_spelt_37, hy', show (1 : Int32) + 1 = 2 from rfl, f_Mo_spelt_9, if_neg (by decide), if_neg (by decide), if_neg (by decide), f_Mo_spelt_37, hz', show (2 : Int32) + 1 = 3 from rfl, f_Mo_spelt_9, if_pos (by decide), mt_app, mt_app]
  rw [List.length_append, List.length_append, pk_sub (show p + f ≤ p + t by omega)]
  unfold f_Mo_spelt_124
  rw [gdb_0, gdb_1]
  have c : (nI (0 + x.length + y.length + z.length) = nI (p + t - (p + f))) ↔ t - f = x.length + (y.length + z.length) := by
    rw [nI_eq (by omega) (by omega)]
    omega
  simp only [c, bI_0]
  rw [Bool.true_and, Bool.and_assoc]
  cases (mtF g f t x 0 && (mtF g f t y (0 + x.length) && mtF g f t z (0 + x.length + y.length))) with
  | false => simp [bI]
  | true =>
    by_cases w : t - f = x.length + (y.length + z.length)
    · simp [w, bI]
    · simp [w, bI]
theorem mt_wd {q : Nat} : ∀ (ds : List Nat) (f t i : Nat), f + i + ds.length ≤ t → t ≤ n → (∀ j, j < ds.length → lN_ q (i + j) = ds.getD j 0) → allF (fun i => decide (cLow (tat n g (f + i)) = lN_ q i)) ds.length i = mtF g f t ds i := by
  intro ds
  induction ds with
  | nil => intro f t i a b c; rfl
  | cons d ds ih =>
    intro f t i a b c
    have hl : (d :: ds).length = ds.length + 1 := rfl
    rw [hl] at a c ⊢
    have c0 : lN_ q i = d := c 0 (by omega)
    have i1 := ih f t (i + 1) (by omega) b (fun j hj => by
      have := c (j + 1) (by omega)
      rw [show i + 1 + j = i + (j + 1) by omega, this]
      rfl)
    rw [allF_s, i1]
    show _ = (decide (f + i < t ∧ cLow (g (f + i)) = d) && mtF g f t ds (i + 1))
    rw [tat_in (by omega), c0]
    have hft : f + i < t := by omega
    simp only [hft, true_and]
theorem mt_word {q f t : Nat} (ds : List Nat) (ht : t ≤ n) (hft : f ≤ t) (hl : (bytS.getD q []).length = ds.length) (hd : ∀ j, j < ds.length → lN_ q j = ds.getD j 0) : (mtF g f t ds 0 && decide (t - f = ds.length)) = wdS n g f t q := by
  unfold wdS
  rw [hl]
  by_cases c : t - f = ds.length
  · rw [mt_wd ds f t 0 (by omega) ht (fun j hj => by rw [Nat.zero_add]; exact hd j hj)]
    simp [c]
  · simp [c]
def dCo : List Nat := [99, 111, 110, 116, 101, 110, 116, 45]
def dLe : List Nat := [108, 101, 110, 103, 116, 104]
def dTr : List Nat := [116, 114, 97, 110, 115, 102, 101, 114]
def dEn : List Nat := [45, 101, 110, 99, 111, 100, 105, 110]
def dCh : List Nat := [99, 104, 117, 110, 107, 101, 100]
def dHt : List Nat := [47, 49, 46, 49]
theorem dg_all : (∀ d ∈ dCo, 0 < d ∧ d < 128) ∧ (∀ d ∈ dLe, 0 < d ∧ d < 128) ∧ (∀ d ∈ dTr, 0 < d ∧ d < 128) ∧ (∀ d ∈ dEn, 0 < d ∧ d < 128) ∧ (∀ d ∈ dCh, 0 < d ∧ d < 128) ∧ (∀ d ∈ dHt, 0 < d ∧ d < 128) ∧ (∀ d ∈ [103], 0 < d ∧ d < 128) ∧ (∀ d ∈ ([] : List Nat), 0 < d ∧ d < 128) := by decide +kernel
theorem dg_enc : encN dCo < 2 ^ 64 ∧ encN dLe < 2 ^ 64 ∧ encN dTr < 2 ^ 64 ∧ encN dEn < 2 ^ 64 ∧ encN dCh < 2 ^ 64 ∧ encN dHt < 2 ^ 64 ∧ encN [103] < 2 ^ 64 ∧ encN [] < 2 ^ 64 := by decide +kernel
theorem dg_ln : (3275364211029340003 : Int64) = lN (encN dCo) ∧ (114849160783212 : Int64) = lN (encN dLe) ∧ (8243107338930713204 : Int64) = lN (encN dTr) ∧ (7956000646299018541 : Int64) = lN (encN dEn) ∧ (28259009760159843 : Int64) = lN (encN dCh) ∧ (825110831 : Int64) = lN (encN dHt) ∧ (103 : Int64) = lN (encN [103]) ∧ (0 : Int64) = lN (encN []) := by decide +kernel
theorem dg_wd : ((bytS.getD 16 []).length = (dCo ++ (dLe ++ [])).length ∧ ∀ j, j < (dCo ++ (dLe ++ [])).length → lN_ 16 j = (dCo ++ (dLe ++ [])).getD j 0) ∧ ((bytS.getD 17 []).length = (dTr ++ (dEn ++ [103])).length ∧ ∀ j, j < (dTr ++ (dEn ++ [103])).length → lN_ 17 j = (dTr ++ (dEn ++ [103])).getD j 0) ∧ ((bytS.getD 18 []).length = (dCh ++ ([] ++ [])).length ∧ ∀ j, j < (dCh ++ ([] ++ [])).length → lN_ 18 j = (dCh ++ ([] ++ [])).getD j 0) := by decide +kernel
theorem sp_16 (h : Lm S p n g) {f t : Nat} (hf : f ≤ t) (ht : t ≤ n) : f_Mo_spelt (nI (p + f)) (nI (p + t)) (3275364211029340003 : Int64) (114849160783212 : Int64) 0 S = some (bI (wdS n g f t 16)) := by
  obtain ⟨a1, a2, a3, a4, a5, a6, a7, a8⟩ := dg_all
  obtain ⟨b1, b2, b3, b4, b5, b6, b7, b8⟩ := dg_enc
  obtain ⟨c1, c2, c3, c4, c5, c6, c7, c8⟩ := dg_ln
  obtain ⟨d1, d2, d3⟩ := dg_wd
  rw [c1, c2, c8, mo_spelt h hf ht dCo dLe [] a1 a2 a8 b1 b2 b8 (by decide) (by decide) (by decide), mt_word _ ht hf d1.1 d1.2]
theorem sp_17 (h : Lm S p n g) {f t : Nat} (hf : f ≤ t) (ht : t ≤ n) : f_Mo_spelt (nI (p + f)) (nI (p + t)) (8243107338930713204 : Int64) (7956000646299018541 : Int64) (103 : Int64) S = some (bI (wdS n g f t 17)) := by
  obtain ⟨a1, a2, a3, a4, a5, a6, a7, a8⟩ := dg_all
  obtain ⟨b1, b2, b3, b4, b5, b6, b7, b8⟩ := dg_enc
  obtain ⟨c1, c2, c3, c4, c5, c6, c7, c8⟩ := dg_ln
  obtain ⟨d1, d2, d3⟩ := dg_wd
  rw [c3, c4, c7, mo_spelt h hf ht dTr dEn [103] a3 a4 a7 b3 b4 b7 (by decide) (by decide) (by decide), mt_word _ ht hf d2.1 d2.2]
theorem sp_18 (h : Lm S p n g) {f t : Nat} (hf : f ≤ t) (ht : t ≤ n) : f_Mo_spelt (nI (p + f)) (nI (p + t)) (28259009760159843 : Int64) 0 0 S = some (bI (wdS n g f t 18)) := by
  obtain ⟨a1, a2, a3, a4, a5, a6, a7, a8⟩ := dg_all
  obtain ⟨b1, b2, b3, b4, b5, b6, b7, b8⟩ := dg_enc
  obtain ⟨c1, c2, c3, c4, c5, c6, c7, c8⟩ := dg_ln
  obtain ⟨d1, d2, d3⟩ := dg_wd
  rw [c5, c8, mo_spelt h hf ht dCh [] [] a5 a8 a8 b5 b8 b8 (by decide) (by decide) (by decide), mt_word _ ht hf d3.1 d3.2]
theorem cLow_eq {x c : Nat} (h1 : c < 65 ∨ 122 < c) : (cLow x = c) ↔ x = c := by
  unfold cLow
  split <;> omega
theorem sp_ht (h : Lm S p n g) (hn : 8 ≤ n) : f_Mo_spelt (nI (p + 4)) (nI (p + 8)) (825110831 : Int64) 0 0 S = some (bI (decide (g 4 = 47 ∧ g 5 = 49 ∧ g 6 = 46 ∧ g 7 = 49))) := by
  obtain ⟨a1, a2, a3, a4, a5, a6, a7, a8⟩ := dg_all
  obtain ⟨b1, b2, b3, b4, b5, b6, b7, b8⟩ := dg_enc
  obtain ⟨c1, c2, c3, c4, c5, c6, c7, c8⟩ := dg_ln
  rw [c6, c8, mo_spelt h (by omega) hn dHt [] [] a6 a8 a8 b6 b8 b8 (by decide) (by decide) (by decide)]
  have e1 : (cLow (g 4) = 47) ↔ g 4 = 47 := cLow_eq (by omega)
  have e2 : (cLow (g 5) = 49) ↔ g 5 = 49 := cLow_eq (by omega)
  have e3 : (cLow (g 6) = 46) ↔ g 6 = 46 := cLow_eq (by omega)
  have e4 : (cLow (g 7) = 49) ↔ g 7 = 49 := cLow_eq (by omega)
  congr 2
  show ((decide (4 + 0 < 8 ∧ cLow (g (4 + 0)) = 47) && (decide (4 + 1 < 8 ∧ cLow (g (4 + 1)) = 49) && (decide (4 + 2 < 8 ∧ cLow (g (4 + 2)) = 46) && (decide (4 + 3 < 8 ∧ cLow (g (4 + 3)) = 49) && true)))) && decide (8 - 4 = 4)) = _
  simp [e1, e2, e3, e4, Bool.decide_and]
end SPELT
