-- the pure side: what the class's cells and the reference's cells have in common
theorem su_ap (S : zSt) (i k : Nat) (v : Int32) (a b : Nat) : su S i k v a b = if a = i ∧ b = k then v else S a b := by
  unfold su va_up upd
  by_cases h : a = i
  · subst h
    by_cases h2 : b = k
    · simp [h2]
    · simp [h2]
  · simp [h]
theorem clamp_toInt (x : Int32) : (x.toNatClampNeg : Int) = max x.toInt 0 := by
  show ((x.toInt.toNat : Nat) : Int) = _
  omega
theorem gdi_ok {α : Type} {j : Int32} {n : Nat} {x : Option α} (h0 : 0 ≤ j) (h1 : j.toNatClampNeg < n) : gdi j n x = x := by
  unfold gdi
  rw [if_neg]
  rintro (h | h)
  · exact Int32.lt_irrefl (Int32.lt_of_lt_of_le h h0)
  · omega
theorem cl_lt {j c : Int32} {n : Nat} (h0 : 0 ≤ j) (h : j < c) (hc : c.toInt = n) : j.toNatClampNeg < n := by
  have h1 := clamp_toInt j
  have h2 := Int32.lt_iff_toInt_lt.mp h
  have h3 := Int32.le_iff_toInt_le.mp h0
  have h4 : (0 : Int32).toInt = 0 := by decide
  omega
theorem gdb_0 {α : Type} {x : Option α} : gdb 0 x = x := by simp [gdb]
theorem gdb_1 {α : Type} {x : Option α} : gdb 1 x = x := by simp [gdb]
def Rd (S : zSt) : Prop :=
  (0 ≤ S 1 3 ∧ S 1 3 ≤ 4 ∧ S 66 0 = S 1 3) ∧
  (0 ≤ S 2 1 ∧ S 2 1 ≤ 40 ∧ S 66 1 = S 2 1) ∧
  (0 ≤ S 1 2 ∧ S 1 2 ≤ 6 ∧ S 66 3 = S 1 2) ∧
  (∀ j, j < 40 → S 67 j = S 3 j) ∧
  (∀ j, j < (S 2 1).toNatClampNeg → 33 ≤ S 3 j ∧ S 3 j ≤ 126) ∧
  (∀ k, k < 6 → S 68 k = S (10 + k) 2 ∧ S 70 k = S (10 + k) 1 ∧ 0 ≤ S (10 + k) 2 ∧ S (10 + k) 2 ≤ 5 ∧ 0 ≤ S (10 + k) 1 ∧ S (10 + k) 1 ≤ 3 ∧ (S (10 + k) 2 = 0 ∨ S (10 + k) 2 = 5 → S (10 + k) 1 ≤ 1)) ∧
  (∀ k, k < (S 1 2).toNatClampNeg → S 69 k = S (10 + k) 3 ∧ 97 ≤ S (10 + k) 3 ∧ S (10 + k) 3 ≤ 122) ∧
  (∀ r, r < 18 → S 71 r = S (22 + r) 1 ∧ 0 ≤ S (22 + r) 1 ∧ S (22 + r) 1 ≤ 8) ∧
  (∀ r i, r < 18 → i < 8 → S 72 (8 * r + i) = S (40 + r) i ∧ 0 ≤ S (40 + r) i ∧ S (40 + r) i ≤ 65535)
/-- cells that the declaration's calls leave alone -/
def Fr (S S' : zSt) : Prop := (∀ i k, i = 0 ∨ (5 ≤ i ∧ i < 10) ∨ (58 ≤ i ∧ i < 66) → S' i k = S i k) ∧ (∀ i k, 73 ≤ i → S' i k = S i k) ∧ ∀ k, 9 ≤ k → S' 66 k = S 66 k
theorem op_declare {S : zSt} (h : Rd S) (v : Int32) : ∃ r S1 S2, f_TC_declare v S = some (r, S1) ∧ f_Mo_declare v S1 = some (r, S2) ∧ Rd S2 ∧ Fr S S2 := by
  unfold f_TC_declare f_Mo_declare f_Declaration_begin sq
  by_cases h1 : v < 0
  · exact ⟨0, S, S, by simp [h1, gdb_0], by simp [h1, gdb_0], h, by simp [Fr]⟩
  · by_cases h2 : v ≤ 4
    · refine ⟨1, _, _, by simp only [h1, h2, if_true, if_false, gdb_1, Option.bind_some]; rfl, by simp only [h1, h2, if_true, if_false, gdb_1]; rfl, ?_, ?_⟩
      · obtain ⟨q1, q2, q3, q4, q5, q6, q7, q8, q9⟩ := h
        have hz : (0 : Int32).toNatClampNeg = 0 := by decide
        refine ⟨?_, ?_, ?_, ?_, ?_, ?_, ?_, ?_, ?_⟩ <;> simp only [su_ap] <;> grind
      · refine ⟨?_, ?_, ?_⟩ <;> intros <;> simp only [su_ap] <;> grind
    · exact ⟨0, S, S, by simp [h1, h2, gdb_0], by simp [h1, h2, gdb_0], h, by simp [Fr]⟩
theorem lit (n : Nat) : (OfNat.ofNat n : Int32) = nI n := rfl
theorem gdiN {α : Type} {k n : Nat} {x : Option α} (h : k < n) (hn : n < 2 ^ 31) : gdi (nI k) n x = x := by
  unfold gdi
  rw [if_neg]
  exact vp_in_nI h hn
theorem gdnN {α : Type} {k n : Nat} {x : Option α} (h : k < n) : gdn k n x = x := by
  unfold gdn
  rw [if_pos h]
theorem narC {w : Nat} (h : w < 65536) : vp_nar .char (nI w) = nI w := by
  unfold vp_nar
  rw [(pk_charN h).1]
theorem gdcN {α : Type} {w : Nat} {x : Option α} (h : w < 65536) : gdc (nI w) x = x := by
  unfold gdc
  rw [if_pos]
  rw [pk_char, pk_tn (by omega), Nat.mod_eq_of_lt h]
theorem toN {x : Int32} (n : Nat) (h0 : 0 ≤ x) (h1 : x ≤ nI n) (hn : n < 2 ^ 31) : ∃ k, k ≤ n ∧ x = nI k := by
  obtain ⟨j, hj, rfl⟩ := nI_of (x := x) (fun h => Int32.lt_irrefl (Int32.lt_of_lt_of_le h h0))
  exact ⟨j, (nI_leI hj hn).mp h1, rfl⟩
theorem op_template {S : zSt} (h : Rd S) (w : Nat) (hw : w < 65536) : ∃ r S1 S2, f_TC_template (nI w) S = some (r, S1) ∧ f_Mo_template (nI w) S1 = some (r, S2) ∧ Rd S2 ∧ Fr S S2 := by
  have hh := h
  obtain ⟨q1, ⟨p1, p2, p3⟩, q3, q4, q5, q6, q7, q8, q9⟩ := h
  obtain ⟨n, hn, e⟩ := toN 40 p1 p2 (by decide)
  rw [e] at p3
  by_cases h1 : w < 33
  · refine ⟨0, S, S, ?_, ?_, hh, by simp [Fr]⟩
    · unfold f_TC_template f_PathTemplate_add
      simp (disch := omega) only [lit, nI_ltI, h1, if_true, Option.bind_some]
      rfl
    · unfold f_Mo_template
      simp (disch := omega) only [lit, nI_ltI, h1, if_true]
      rfl
  · by_cases h2 : 126 < w
    · refine ⟨0, S, S, ?_, ?_, hh, by simp [Fr]⟩
      · unfold f_TC_template f_PathTemplate_add
        simp (disch := omega) only [lit, nI_ltI, h1, h2, if_true, if_false, Option.bind_some]
        rfl
      · unfold f_Mo_template
        simp (disch := omega) only [lit, nI_ltI, h1, h2, if_true, if_false]
        rfl
    · by_cases h3 : n < 40
      · have h4 : ¬ n = 40 := by omega
        refine ⟨1, su (su S 3 n (nI w)) 2 1 (nI (n + 1)), su (su (su (su S 3 n (nI w)) 2 1 (nI (n + 1))) 67 n (nI w)) 66 1 (nI (n + 1)), ?_, ?_, ?_, ?_⟩
        · unfold f_TC_template f_PathTemplate_add sq
          simp (disch := omega) only [lit, nI_ltI, h1, h2, h3, e, if_true, if_false, gdiN, nI_clamp, narC, su_ap, nI_add]
          simp (disch := omega) [gdb, lit, e, nI_add]
        · unfold f_Mo_template sq
          simp (disch := omega) only [lit, nI_ltI, nI_eq, h1, h2, h4, p3, if_true, if_false, gdiN, nI_clamp, su_ap, nI_add]
          simp (disch := omega) [gdb, lit, p3, nI_add, nI_eq, h4, gdiN, nI_clamp, nI_ltI, h1, h2]
        · have hz : (nI (n + 1)).toNatClampNeg = n + 1 := nI_clamp (by omega)
          have hz2 : (nI n).toNatClampNeg = n := nI_clamp (by omega)
          have c1 : 33 ≤ nI w := (nI_leI (a := 33) (by omega) (by omega)).mpr (by omega)
          have c2 : nI w ≤ 126 := (nI_leI (b := 126) (by omega) (by omega)).mpr (by omega)
          have c3 : 0 ≤ nI (n + 1) := nI_pos' (by omega)
          have c4 : nI (n + 1) ≤ 40 := (nI_leI (b := 40) (by omega) (by omega)).mpr (by omega)
          rw [e, hz2] at q5
          refine ⟨?_, ?_, ?_, ?_, ?_, ?_, ?_, ?_, ?_⟩ <;> simp only [su_ap] <;> grind
        · refine ⟨?_, ?_, ?_⟩ <;> intros <;> simp only [su_ap] <;> grind
      · have h4 : n = 40 := by omega
        refine ⟨0, S, S, ?_, ?_, hh, by simp [Fr]⟩
        · unfold f_TC_template f_PathTemplate_add
          simp (disch := omega) only [lit, nI_ltI, h1, h2, h3, e, if_true, if_false, Option.bind_some]
          simp [gdb, lit]
        · unfold f_Mo_template
          subst h4
          simp (disch := omega) only [lit, nI_ltI, h1, h2, p3, if_true, if_false]
          simp [gdb, lit]
theorem su_ne {S : zSt} {i k a b : Nat} {v : Int32} (h : a ≠ i ∨ b ≠ k) : su S i k v a b = S a b := by
  rw [su_ap, if_neg]
  rintro ⟨h1, h2⟩
  rcases h with h | h
  · exact h h1
  · exact h h2
theorem su_eq {S : zSt} {i k : Nat} {v : Int32} : su S i k v i k = v := by rw [su_ap, if_pos ⟨rfl, rfl⟩]
theorem cnt_le {x : Int32} (h0 : 0 ≤ x) (h1 : x ≤ 6) : x.toNatClampNeg ≤ 6 := by
  obtain ⟨k, hk, rfl⟩ := toN 6 h0 h1 (by decide)
  rw [nI_clamp (by omega)]
  exact hk
