section CK2
variable {S : zSt} {n c : Nat} {t kd lt : Nat → Nat}
def fC (n c : Nat) (t kd lt : Nat → Nat) (i : Nat) : Bool := isV n t i && (decide (tat n t (i + 1) = 58) && (match nmF kd lt (t i) c 0 with | none => false | some k => decide (kd k = 1)))
theorem cl_loop (hT : Tx S n t) (hP : Px S c kd lt) : ∀ m i, i ≤ n → n - i < m → f_Declaration_hasCutList_2 m (nI i) S = some (bI (anyF (fC n c t kd lt) (n - i) i)) := by
  intro m
  induction m with
  | zero => intro i a b; omega
  | succ m ih =>
    intro i a b
    have hn := hT.1
    have hc := hP.1
    rw [f_Declaration_hasCutList_2, hT.2.1]
    by_cases hi : n ≤ i
    · rw [if_pos ((nI_leI (by omega) (by omega)).mpr hi), show n - i = 0 by omega, gdb_0]
      rfl
    · obtain ⟨e1, -, -, e4⟩ := hT.2.2.2 i (by omega)
      have ht : tat n t i = t i := by unfold tat; rw [if_pos (by omega)]
      have l1 := tat_lt hT (i + 1)
      have i1 := ih (i + 1) (by omega) (by omega)
      obtain ⟨j, hj⟩ : ∃ j, n - i = j + 1 := ⟨n - i - 1, by omega⟩
      rw [show n - (i + 1) = j by omega] at i1
      have ecut : f_PathTemplate_isCut (nI i) S = some (bI (decide (tat n t (i + 1) = 58))) := by
        unfold f_PathTemplate_isCut
        rw [nI_1, at_cls hT (by omega)]
        have c58 : (nI (tat n t (i + 1)) = 58) ↔ tat n t (i + 1) = 58 := nI_eq (b := 58) (by omega) (by omega)
        simp only [Option.bind_some, c58, gdb_0, gdb_1]
        by_cases z : tat n t (i + 1) = 58 <;> simp [z, bI]
      rw [if_neg (fun z => hi ((nI_leI (by omega) (by omega)).mp z)), var_cls hT (by omega), at_cls hT (by omega), ht, hj, anyF_s, ecut]
      simp only [Option.bind_some, bI_0, f_Declaration_hasCutList_62, nI_1, i1, gdb_1]
      rw [of_cls hP (by omega)]
      simp only [Option.bind_some]
      have hv : fC n c t kd lt i = ((inn t i && cSm (t i)) && (decide (tat n t (i + 1) = 58) && (match nmF kd lt (t i) c 0 with | none => false | some k => decide (kd k = 1)))) := by unfold fC isV; rw [ht]
      rw [hv]
      cases hin : (inn t i && cSm (t i)) with
      | false => simp
      | true =>
        by_cases h58 : tat n t (i + 1) = 58
        · cases hnm : nmF kd lt (t i) c 0 with
          | none => simp [h58]
          | some k =>
            have := nmF_lt (kd := kd) (lt := lt) (l := t i) c 0 k hnm
            obtain ⟨f1, -, f3, -⟩ := hP.2.2.2 k (by omega)
            have c1 : (nI (kd k) = 1) ↔ kd k = 1 := nI_eq (b := 1) (by omega) (by omega)
            simp only [h58, decide_true, Bool.true_and]
            rw [gdnN (by omega), f1]
            simp only [c1]
            by_cases z : kd k = 1 <;> simp [z, bI]
        · simp [h58]
theorem cl_cls (hT : Tx S n t) (hP : Px S c kd lt) : f_Declaration_hasCutList S = some (bI (anyF (fC n c t kd lt) n 0)) := cl_loop hT hP fu 0 (by omega) (by unfold fu; have := hT.1; omega)
theorem mcl_loop (hT : Tx S n t) (hP : Px S c kd lt) : ∀ m i acc, i ≤ n → n - i < m → f_Mo_cutList_4 m (bI acc) (nI i) S = some (bI (acc || anyF (fC n c t kd lt) (n - i) i)) := by
  intro m
  induction m with
  | zero => intro i acc a b; omega
  | succ m ih =>
    intro i acc a b
    have hn := hT.1
    have hc := hP.1
    rw [f_Mo_cutList_4, hT.2.2.1]
    by_cases hi : n ≤ i
    · rw [if_pos ((nI_leI (by omega) (by omega)).mpr hi), show n - i = 0 by omega, gdb_bI]
      simp [anyF]
    · obtain ⟨-, e1, -, e4⟩ := hT.2.2.2 i (by omega)
      have ht : tat n t i = t i := by unfold tat; rw [if_pos (by omega)]
      have l1 := tat_lt hT (i + 1)
      obtain ⟨j, hj⟩ : ∃ j, n - i = j + 1 := ⟨n - i - 1, by omega⟩
      have ia := ih (i + 1) acc (by omega) (by omega)
      have i1 := ih (i + 1) true (by omega) (by omega)
      have i0 := ih (i + 1) false (by omega) (by omega)
      rw [show n - (i + 1) = j by omega] at i1 i0 ia
      rw [show bI true = 1 from rfl] at i1
      rw [show bI false = 0 from rfl] at i0
      have c58 : (nI (tat n t (i + 1)) = 58) ↔ tat n t (i + 1) = 58 := nI_eq (b := 58) (by omega) (by omega)
      rw [if_neg (fun z => hi ((nI_leI (by omega) (by omega)).mp z)), var_mo hT (by omega), nI_1, at_mo hT (by omega), gdiN (by omega) (by omega), nI_clamp (by omega), e1, nm_mo hP (by omega), ht, hj, anyF_s]
      simp only [Option.bind_some, bI_0, c58, f_Mo_cutList_67, f_Mo_cutList_66, f_Mo_cutList_65, f_Mo_cutList_61, nI_1, i1, i0, ia]
      have hv : fC n c t kd lt i = ((inn t i && cSm (t i)) && (decide (tat n t (i + 1) = 58) && (match nmF kd lt (t i) c 0 with | none => false | some k => decide (kd k = 1)))) := by unfold fC isV; rw [ht]
      rw [hv]
      cases hin : (inn t i && cSm (t i)) with
      | false => simp
      | true =>
        by_cases h58 : tat n t (i + 1) = 58
        · cases hnm : nmF kd lt (t i) c 0 with
          | none =>
            have z : oI none < 0 := by decide
            cases acc <;> simp [h58, z]
          | some k =>
            have := nmF_lt (kd := kd) (lt := lt) (l := t i) c 0 k hnm
            obtain ⟨-, f1, f3, -⟩ := hP.2.2.2 k (by omega)
            have c1 : (nI (kd k) = 1) ↔ kd k = 1 := nI_eq (b := 1) (by omega) (by omega)
            have z : ¬ oI (some k) < 0 := nI_pos (n := k) (by omega)
            have ek : oI (some k) = nI k := rfl
            have hg : ∀ x : Option Int32, gdi (oI (some k)) 6 x = x := fun x => by rw [ek]; exact gdiN (by omega) (by omega)
            have hcl : (oI (some k)).toNatClampNeg = k := by rw [ek]; exact nI_clamp (by omega)
            simp only [h58, decide_true, Bool.true_and, if_neg z, hg, hcl, f1, c1]
            by_cases y : kd k = 1 <;> cases acc <;> simp [y]
        · simp [h58]
theorem cl_mo (hT : Tx S n t) (hP : Px S c kd lt) : f_Mo_cutList S = some (bI (anyF (fC n c t kd lt) n 0)) := by
  have := mcl_loop hT hP fu 0 false (by omega) (by unfold fu; have := hT.1; omega)
  exact this
def cF (kd : Nat → Nat) (w : Nat) : Nat → Nat → Nat
  | 0, _ => 0
  | m + 1, i => (if kd i = w then 1 else 0) + cF kd w m (i + 1)
theorem cF_s (kd : Nat → Nat) (w m i : Nat) : cF kd w (m + 1) i = (if kd i = w then 1 else 0) + cF kd w m (i + 1) := rfl
theorem co_loop (hP : Px S c kd lt) {w : Nat} (hw : w < 100) : ∀ m k s, k ≤ c → c - k < m → f_Declaration_countOf_4 m (nI w) (nI s) (nI k) S = some (nI (s + cF kd w (c - k) k)) := by
  intro m
  induction m with
  | zero => intro k s a b; omega
  | succ m ih =>
    intro k s a b
    have hc := hP.1
    rw [f_Declaration_countOf_4, hP.2.1]
    by_cases hk : c ≤ k
    · rw [if_pos ((nI_leI (by omega) (by omega)).mpr hk), show c - k = 0 by omega]
      rfl
    · obtain ⟨e1, -, e3, -⟩ := hP.2.2.2 k (by omega)
      obtain ⟨j, hj⟩ : ∃ j, c - k = j + 1 := ⟨c - k - 1, by omega⟩
      have i1 := fun s => ih (k + 1) s (by omega) (by omega)
      rw [show c - (k + 1) = j by omega] at i1
      rw [if_neg (fun z => hk ((nI_leI (by omega) (by omega)).mp z)), hj, cF_s]
      simp (disch := omega) only [gdiN, nI_clamp, e1, nI_eq, f_Declaration_countOf_28, nI_1, i1]
      by_cases z : kd k = w
      · rw [if_pos z, if_pos z, show s + 1 + cF kd w j (k + 1) = s + (1 + cF kd w j (k + 1)) by omega]
      · rw [if_neg z, if_neg z, Nat.zero_add]
theorem mki_loop (hP : Px S c kd lt) {w : Nat} (hw : w < 100) : ∀ m k s, k ≤ c → c - k < m → f_Mo_kinds_4 m (nI w) (nI s) (nI k) S = some (nI (s + cF kd w (c - k) k)) := by
  intro m
  induction m with
  | zero => intro k s a b; omega
  | succ m ih =>
    intro k s a b
    have hc := hP.1
    rw [f_Mo_kinds_4, hP.2.2.1]
    by_cases hk : c ≤ k
    · rw [if_pos ((nI_leI (by omega) (by omega)).mpr hk), show c - k = 0 by omega]
      rfl
    · obtain ⟨-, e1, e3, -⟩ := hP.2.2.2 k (by omega)
      obtain ⟨j, hj⟩ : ∃ j, c - k = j + 1 := ⟨c - k - 1, by omega⟩
      have i1 := fun s => ih (k + 1) s (by omega) (by omega)
      rw [show c - (k + 1) = j by omega] at i1
      have a1 : nI s + 1 = nI (s + 1) := nI_add s 1
      have a0 : nI s + 0 = nI s := by rw [show (0 : Int32) = nI 0 from rfl, nI_add]; rfl
      rw [if_neg (fun z => hk ((nI_leI (by omega) (by omega)).mp z)), hj, cF_s]
      simp (disch := omega) only [gdiN, nI_clamp, e1, nI_eq, f_Mo_kinds_28, nI_1, a1, a0, i1]
      by_cases z : kd k = w
      · rw [if_pos z, if_pos z, show s + 1 + cF kd w j (k + 1) = s + (1 + cF kd w j (k + 1)) by omega]
      · rw [if_neg z, if_neg z, Nat.zero_add]
theorem cF_le (kd : Nat → Nat) (w : Nat) : ∀ m i, cF kd w m i ≤ m := by
  intro m
  induction m with
  | zero => intro i; exact Nat.le_refl _
  | succ m ih =>
    intro i
    rw [cF_s]
    have := ih (i + 1)
    by_cases z : kd i = w
    · rw [if_pos z]; omega
    · rw [if_neg z]; omega
end CK2
/-- check(): class and reference answer alike -/
theorem op_check {S : zSt} (h : Rd S) : ∃ r, f_TC_check S = some r ∧ f_Mo_check S = some r := by
  obtain ⟨n, t, hT⟩ := Rd_tx h
  obtain ⟨c, kd, lt, hP⟩ := Rd_px h
  have hv := h.1
  have w1 : f_PathTemplate_isWellFormed S = f_Mo_wellFormed S := by rw [wf_cls hT, wf_mo hT]
  have w2 : f_Declaration_hasUnknownVariable S = f_Mo_unknown S := by rw [un_cls hT hP, un_mo hT hP]
  have w3 : f_Declaration_hasLetterTwice S = f_Mo_twice S := by rw [tw_cls hP, tw_mo hP]
  have w4 : f_Declaration_hasUnusedParameter S = f_Mo_unused S := by rw [us_cls hT hP, us_mo hT hP]
  have w5 : f_Declaration_hasCutList S = f_Mo_cutList S := by rw [cl_cls hT hP, cl_mo hT hP]
  have hc := hP.1
  have k5 : f_Declaration_countOf 5 S = some (nI (cF kd 5 c 0)) := by
    have := co_loop hP (w := 5) (by omega) fu 0 0 (by omega) (by unfold fu; omega)
    rw [Nat.zero_add] at this
    exact this
  have k4 : f_Declaration_countOf 4 S = some (nI (cF kd 4 c 0)) := by
    have := co_loop hP (w := 4) (by omega) fu 0 0 (by omega) (by unfold fu; omega)
    rw [Nat.zero_add] at this
    exact this
  have m5 : f_Mo_kinds 5 S = some (nI (cF kd 5 c 0)) := by
    have := mki_loop hP (w := 5) (by omega) fu 0 0 (by omega) (by unfold fu; omega)
    rw [Nat.zero_add] at this
    exact this
  have m4 : f_Mo_kinds 4 S = some (nI (cF kd 4 c 0)) := by
    have := mki_loop hP (w := 4) (by omega) fu 0 0 (by omega) (by unfold fu; omega)
    rw [Nat.zero_add] at this
    exact this
  have e80 : ∀ a b, f_Declaration_fault_80 a b S = f_Mo_check_77 a b S := by
    intro a b
    unfold f_Declaration_fault_80 f_Mo_check_77 f_Declaration_mayHaveContent f_Declaration_mayHaveContent_16 f_Declaration_fault_98 f_Mo_check_104
    rw [hv.2.2]
    simp only [gdb_0, gdb_1]
    by_cases z : a + b ≤ 0
    · rw [if_pos z, if_pos z]
    · rw [if_neg z, if_neg z]
      by_cases y2 : S 1 3 = 2
      · rw [if_pos y2, if_pos y2]; rfl
      · rw [if_neg y2, if_neg y2]
        by_cases y3 : S 1 3 = 3
        · rw [if_pos y3, if_pos y3]; rfl
        · rw [if_neg y3, if_neg y3]; rfl
  have eq : f_TC_check S = f_Mo_check S := by
    unfold f_TC_check f_Declaration_fault f_Mo_check
    rw [w1, w2, w3, w4, w5, k5, k4, m5, m4]
    simp only [e80]
    cases hh : ((f_Mo_wellFormed S).bind fun u1 => (if u1 = 0 then (some (-1)) else ((f_Mo_unknown S).bind fun u2 => (if u2 = 0 then ((f_Mo_twice S).bind fun u3 => (if u3 = 0 then ((f_Mo_unused S).bind fun u4 => (if u4 = 0 then ((f_Mo_cutList S).bind fun u5 => (if u5 = 0 then ((some (nI (cF kd 5 c 0))).bind fun u6 => ((some (nI (cF kd 4 c 0))).bind fun u7 => (if 1 < u6 then (some (-6)) else (if u6 ≤ 0 then (f_Mo_check_77 u6 u7 S) else (if u7 ≤ 0 then (f_Mo_check_77 u6 u7 S) else (some (-6))))))) else (some (-5)))) else (some (-4)))) else (some (-3)))) else (some (-2)))))) <;> rfl
  have tot : ∃ r, f_Mo_check S = some r := by
    unfold f_Mo_check
    rw [wf_mo hT, un_mo hT hP, tw_mo hP, us_mo hT hP, cl_mo hT hP, m5, m4]
    simp only [Option.bind_some]
    have z77 : ∀ a b, ∃ r, f_Mo_check_77 a b S = some r := by
      intro a b
      unfold f_Mo_check_77 f_Mo_check_104
      by_cases z : a + b ≤ 0
      · exact ⟨_, if_pos z⟩
      · rw [if_neg z]
        by_cases y2 : S 66 0 = 2
        · exact ⟨_, if_pos y2⟩
        · rw [if_neg y2]
          by_cases y3 : S 66 0 = 3
          · exact ⟨_, if_pos y3⟩
          · exact ⟨_, if_neg y3⟩
    obtain ⟨r7, e7⟩ := z77 (nI (cF kd 5 c 0)) (nI (cF kd 4 c 0))
    rw [e7]
    split
    · exact ⟨_, rfl⟩
    · split
      · split
        · split
          · split
            · split
              · exact ⟨_, rfl⟩
              · split
                · exact ⟨_, rfl⟩
                · split <;> exact ⟨_, rfl⟩
            · exact ⟨_, rfl⟩
          · exact ⟨_, rfl⟩
        · exact ⟨_, rfl⟩
      · exact ⟨_, rfl⟩
  obtain ⟨r, e⟩ := tot
  exact ⟨r, by rw [eq]; exact e, e⟩
