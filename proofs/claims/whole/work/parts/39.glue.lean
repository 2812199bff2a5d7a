theorem law_cond {L c : Nat} (hL : L < 2 ^ 30) (hc : c < 2 ^ 30) : (nI L - nI 3 < nI c) ↔ L < c + 3 := by
  rw [Int32.lt_iff_toInt_lt, pk_sub_toInt hL (by decide), nI_toInt (by omega)]
  omega
set_option maxHeartbeats 4000000 in
theorem law_pure (Iv : Nat → zSt → Prop) (h0 : Iv 0 S00) (hup : ∀ c S, Iv c S → Iv (c + 1) S)
    (o0 : ∀ (c : Nat) (S : zSt), c < 512 → Iv c S → ∀ (v : Int32), ∃ r S1 S2, f_TC_declare v S = some (r, S1) ∧ f_Mo_declare v S1 = some (r, S2) ∧ Iv (c + 1) S2)
    (o1 : ∀ (c : Nat) (S : zSt), c < 512 → Iv c S → ∀ (w : Nat) (_ : w < 65536), ∃ r S1 S2, f_TC_template (nI w) S = some (r, S1) ∧ f_Mo_template (nI w) S1 = some (r, S2) ∧ Iv (c + 1) S2)
    (o2 : ∀ (c : Nat) (S : zSt), c < 512 → Iv c S → ∀ (v : Int32) (w : Nat) (_ : w < 65536), ∃ r S1 S2, f_TC_parameter v (nI w) S = some (r, S1) ∧ f_Mo_parameter v (nI w) S1 = some (r, S2) ∧ Iv (c + 1) S2)
    (o3 : ∀ (c : Nat) (S : zSt), c < 512 → Iv c S → ∃ r, f_TC_check S = some r ∧ f_Mo_check S = some r)
    (o4 : ∀ (c : Nat) (S : zSt), c < 512 → Iv c S → ∀ (v : Int32), ∃ r S1 S2, f_TC_item v S = some (r, S1) ∧ f_Mo_item v S1 = some (r, S2) ∧ Iv (c + 1) S2)
    (o5 : ∀ (c : Nat) (S : zSt), c < 512 → Iv c S → ∀ (v : Int32) (w : Nat) (_ : w < 65536), ∃ r S1 S2, f_TC_write v (nI w) S = some (r, S1) ∧ f_Mo_write v (nI w) S1 = some (r, S2) ∧ Iv (c + 1) S2)
    (o6 : ∀ (c : Nat) (S : zSt), c < 512 → Iv c S → ∀ (v : Int32), ∃ r S1 S2, f_TC_empty v S = some (r, S1) ∧ f_Mo_empty v S1 = some (r, S2) ∧ Iv (c + 1) S2)
    (o7 : ∀ (c : Nat) (S : zSt), c < 512 → Iv c S → ∃ r S1 S2, f_TC_send S = some (r, S1) ∧ f_Mo_send S1 = some (r, S2) ∧ Iv (c + 1) S2)
    (o8 : ∀ (c : Nat) (S : zSt), c < 512 → Iv c S → ∀ (v : Int32), ∃ r, f_TC_sent v S = some r ∧ f_Mo_sent v S = some r)
    (o9 : ∀ (c : Nat) (S : zSt), c < 512 → Iv c S → ∀ (v : Int32), ∃ r S1 S2, f_TC_feed v S = some (r, S1) ∧ f_Mo_feed v S1 = some (r, S2) ∧ Iv (c + 1) S2)
    (o10 : ∀ (c : Nat) (S : zSt), c < 512 → Iv c S → ∃ r S1 S2, f_TC_close S = some (r, S1) ∧ f_Mo_close S1 = some (r, S2) ∧ Iv (c + 1) S2)
    (o11 : ∀ (c : Nat) (S : zSt), c < 512 → Iv c S → ∃ S1 S2, f_TC_reset S = some S1 ∧ f_Mo_reset S1 = some S2 ∧ Iv (c + 1) S2)
    (o12 : ∀ (c : Nat) (S : zSt), c < 512 → Iv c S → ∃ r S2, f_TC_state S = some r ∧ f_Mo_state S = some (r, S2) ∧ Iv (c + 1) S2)
    (o13 : ∀ (c : Nat) (S : zSt), c < 512 → Iv c S → ∃ r S2, f_TC_status S = some r ∧ f_Mo_status S = some (r, S2) ∧ Iv (c + 1) S2)
    (o14 : ∀ (c : Nat) (S : zSt), c < 512 → Iv c S → ∃ r S2, f_TC_fields S = some r ∧ f_Mo_fields S = some (r, S2) ∧ Iv (c + 1) S2)
    (o15 : ∀ (c : Nat) (S : zSt), c < 512 → Iv c S → ∃ r S2, f_TC_length S = some r ∧ f_Mo_length S = some (r, S2) ∧ Iv (c + 1) S2)
    (o16 : ∀ (c : Nat) (S : zSt), c < 512 → Iv c S → ∀ (v : Int32), ∃ r S2, f_TC_content v S = some r ∧ f_Mo_content v S = some (r, S2) ∧ Iv (c + 1) S2)
    (xs : Nat → Int32) (L : Nat) (hL : L ≤ 1536) : f_law_18 xs L fu 0 S00 = some 1 := by
  have main : ∀ (n c : Nat) (S : zSt), Iv c S → L < 3 * (n + c) + 3 → c ≤ 512 → f_law_18 xs L (n + 1) (nI (3 * c)) S = some 1 := by
    intro n
    induction n with
    | zero =>
      intro c S hI hn hc
      rw [f_law_18]
      have h1 : L < 3 * c + 3 := by omega
      have h2 : Int32.ofNat L - 3 < nI (3 * c) := (law_cond (by omega) (by omega)).mpr h1
      rw [if_pos h2]
    | succ n ih =>
      intro c S hI hn hc
      by_cases h1 : L < 3 * c + 3
      · have h2 : Int32.ofNat L - 3 < nI (3 * c) := (law_cond (by omega) (by omega)).mpr h1
        rw [f_law_18, if_pos h2]
      · have h2 : ¬ Int32.ofNat L - 3 < nI (3 * c) := fun z => h1 ((law_cond (by omega) (by omega)).mp z)
        have hc2 : c < 512 := by omega
        have go : ∀ S', Iv (c + 1) S' → f_law_451 (f_law_18 xs L (n + 1)) (nI (3 * c)) S' = some 1 := by
          intro S' hI'
          unfold f_law_451
          have e : nI (3 * c) + 3 = nI (3 * (c + 1)) := by rw [lit, nI_add]; rfl
          rw [e]
          exact ih (c + 1) S' hI' (by omega) (by omega)
        rw [f_law_18, if_neg h2]
        have g0 : 3 * c < L := by omega
        have g1 : 3 * c + 1 < L := by omega
        have g2 : 3 * c + 2 < L := by omega
        have hLb : L < 2 ^ 31 := by omega
        have a1 : nI (3 * c) + 1 = nI (3 * c + 1) := nI_add _ 1
        have a2 : nI (3 * c) + 2 = nI (3 * c + 2) := nI_add _ 2
        have b0 : (nI (3 * c)).toNatClampNeg = 3 * c := nI_clamp (by omega)
        have b1 : (nI (3 * c + 1)).toNatClampNeg = 3 * c + 1 := nI_clamp (by omega)
        have b2 : (nI (3 * c + 2)).toNatClampNeg = 3 * c + 2 := nI_clamp (by omega)
        rw [gdiN g0 hLb, b0]
        have ch : ∀ x : Int32, ∃ w, w < 65536 ∧ (x.toUInt32 % 65536).toInt32 = nI w := fun x => ⟨x.toBitVec.toNat % 65536, Nat.mod_lt _ (by decide), pk_char x⟩
        by_cases e0 : xs (3 * c) &&& 31 = 0
        · rw [if_pos e0]
          try simp only [a1, a2, b1, b2, gdiN g1 hLb, gdiN g2 hLb]
          obtain ⟨r, S1, S2, e1, e2, e3⟩ := o0 c S hc2 hI (xs (3 * c + 1))
          simp only [e1, e2, Option.bind_some, if_true]
          exact go _ e3
        rw [if_neg e0]
        by_cases e1 : xs (3 * c) &&& 31 = 1
        · rw [if_pos e1]
          try simp only [a1, a2, b1, b2, gdiN g1 hLb, gdiN g2 hLb]
          obtain ⟨w1, hw1, ew1⟩ := ch (xs (3 * c + 1))
          rw [ew1]
          obtain ⟨r, S1, S2, e1, e2, e3⟩ := o1 c S hc2 hI w1 hw1
          simp only [e1, e2, Option.bind_some, if_true]
          exact go _ e3
        rw [if_neg e1]
        by_cases e2 : xs (3 * c) &&& 31 = 2
        · rw [if_pos e2]
          try simp only [a1, a2, b1, b2, gdiN g1 hLb, gdiN g2 hLb]
          obtain ⟨w2, hw2, ew2⟩ := ch (xs (3 * c + 2))
          rw [ew2]
          obtain ⟨r, S1, S2, e1, e2, e3⟩ := o2 c S hc2 hI (xs (3 * c + 1)) w2 hw2
          simp only [e1, e2, Option.bind_some, if_true]
          exact go _ e3
        rw [if_neg e2]
        by_cases e3 : xs (3 * c) &&& 31 = 3
        · rw [if_pos e3]
          try simp only [a1, a2, b1, b2, gdiN g1 hLb, gdiN g2 hLb]
          obtain ⟨r, e1, e2⟩ := o3 c S hc2 hI 
          simp only [e1, e2, Option.bind_some, if_true]
          exact go _ (hup _ _ hI)
        rw [if_neg e3]
        by_cases e4 : xs (3 * c) &&& 31 = 4
        · rw [if_pos e4]
          try simp only [a1, a2, b1, b2, gdiN g1 hLb, gdiN g2 hLb]
          obtain ⟨r, S1, S2, e1, e2, e3⟩ := o4 c S hc2 hI (xs (3 * c + 1))
          simp only [e1, e2, Option.bind_some, if_true]
          exact go _ e3
        rw [if_neg e4]
        by_cases e5 : xs (3 * c) &&& 31 = 5
        · rw [if_pos e5]
          try simp only [a1, a2, b1, b2, gdiN g1 hLb, gdiN g2 hLb]
          obtain ⟨w2, hw2, ew2⟩ := ch (xs (3 * c + 2))
          rw [ew2]
          obtain ⟨r, S1, S2, e1, e2, e3⟩ := o5 c S hc2 hI (xs (3 * c + 1)) w2 hw2
          simp only [e1, e2, Option.bind_some, if_true]
          exact go _ e3
        rw [if_neg e5]
        by_cases e6 : xs (3 * c) &&& 31 = 6
        · rw [if_pos e6]
          try simp only [a1, a2, b1, b2, gdiN g1 hLb, gdiN g2 hLb]
          obtain ⟨r, S1, S2, e1, e2, e3⟩ := o6 c S hc2 hI (xs (3 * c + 1))
          simp only [e1, e2, Option.bind_some, if_true]
          exact go _ e3
        rw [if_neg e6]
        by_cases e7 : xs (3 * c) &&& 31 = 7
        · rw [if_pos e7]
          try simp only [a1, a2, b1, b2, gdiN g1 hLb, gdiN g2 hLb]
          obtain ⟨r, S1, S2, e1, e2, e3⟩ := o7 c S hc2 hI 
          simp only [e1, e2, Option.bind_some, if_true]
          exact go _ e3
        rw [if_neg e7]
        by_cases e8 : xs (3 * c) &&& 31 = 8
        · rw [if_pos e8]
          try simp only [a1, a2, b1, b2, gdiN g1 hLb, gdiN g2 hLb]
          obtain ⟨r, e1, e2⟩ := o8 c S hc2 hI (xs (3 * c + 1))
          simp only [e1, e2, Option.bind_some, if_true]
          exact go _ (hup _ _ hI)
        rw [if_neg e8]
        by_cases e9 : xs (3 * c) &&& 31 = 9
        · rw [if_pos e9]
          try simp only [a1, a2, b1, b2, gdiN g1 hLb, gdiN g2 hLb]
          obtain ⟨r, S1, S2, e1, e2, e3⟩ := o9 c S hc2 hI (xs (3 * c + 1))
          simp only [e1, e2, Option.bind_some, if_true]
          exact go _ e3
        rw [if_neg e9]
        by_cases e10 : xs (3 * c) &&& 31 = 10
        · rw [if_pos e10]
          try simp only [a1, a2, b1, b2, gdiN g1 hLb, gdiN g2 hLb]
          obtain ⟨r, S1, S2, e1, e2, e3⟩ := o10 c S hc2 hI 
          simp only [e1, e2, Option.bind_some, if_true]
          exact go _ e3
        rw [if_neg e10]
        by_cases e11 : xs (3 * c) &&& 31 = 11
        · rw [if_pos e11]
          try simp only [a1, a2, b1, b2, gdiN g1 hLb, gdiN g2 hLb]
          obtain ⟨S1, S2, e1, e2, e3⟩ := o11 c S hc2 hI
          simp only [e1, e2, Option.bind_some]
          exact go _ e3
        rw [if_neg e11]
        by_cases e12 : xs (3 * c) &&& 31 = 12
        · rw [if_pos e12]
          try simp only [a1, a2, b1, b2, gdiN g1 hLb, gdiN g2 hLb]
          obtain ⟨r, S2, e1, e2, e3⟩ := o12 c S hc2 hI 
          simp only [e1, e2, Option.bind_some, if_true]
          exact go _ e3
        rw [if_neg e12]
        by_cases e13 : xs (3 * c) &&& 31 = 13
        · rw [if_pos e13]
          try simp only [a1, a2, b1, b2, gdiN g1 hLb, gdiN g2 hLb]
          obtain ⟨r, S2, e1, e2, e3⟩ := o13 c S hc2 hI 
          simp only [e1, e2, Option.bind_some, if_true]
          exact go _ e3
        rw [if_neg e13]
        by_cases e14 : xs (3 * c) &&& 31 = 14
        · rw [if_pos e14]
          try simp only [a1, a2, b1, b2, gdiN g1 hLb, gdiN g2 hLb]
          obtain ⟨r, S2, e1, e2, e3⟩ := o14 c S hc2 hI 
          simp only [e1, e2, Option.bind_some, if_true]
          exact go _ e3
        rw [if_neg e14]
        by_cases e15 : xs (3 * c) &&& 31 = 15
        · rw [if_pos e15]
          try simp only [a1, a2, b1, b2, gdiN g1 hLb, gdiN g2 hLb]
          obtain ⟨r, S2, e1, e2, e3⟩ := o15 c S hc2 hI 
          simp only [e1, e2, Option.bind_some, if_true]
          exact go _ e3
        rw [if_neg e15]
        by_cases e16 : xs (3 * c) &&& 31 = 16
        · rw [if_pos e16]
          try simp only [a1, a2, b1, b2, gdiN g1 hLb, gdiN g2 hLb]
          obtain ⟨r, S2, e1, e2, e3⟩ := o16 c S hc2 hI (xs (3 * c + 1))
          simp only [e1, e2, Option.bind_some, if_true]
          exact go _ e3
        rw [if_neg e16]
        exact go _ (hup _ _ hI)
  have hfu : fu = 3999 + 1 := rfl
  rw [hfu]
  exact main 3999 0 S00 h0 (by omega) (by omega)
