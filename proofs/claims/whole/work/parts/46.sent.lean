/-- the last request that was made: the row x holds it -/
def Rm (S : zSt) : Prop := ∃ x y m : Nat, ((x = 0 ∧ y = 1) ∨ (x = 1 ∧ y = 0)) ∧ S 0 3 = nI x ∧ S 0 4 = nI y ∧ m ≤ 1000 ∧ S (58 + x) 1 = nI m ∧ S 66 9 = nI m ∧ ∀ i, i < m → S (62 + x) i &&& 255 = S 73 i
theorem op_sent {S : zSt} (h : Rm S) (v : Int32) : ∃ r, f_TC_sent v S = some r ∧ f_Mo_sent v S = some r := by
  obtain ⟨x, y, m, hxy, e3, e4, hm, e1, e9, hb⟩ := h
  have hx : x < 4 := by omega
  have hbl : bl x = 1000 := by
    unfold bl
    rw [if_pos (by omega)]
  have eA : f_TC_sent v S = f_ByteRow_at x v S := by
    unfold f_TC_sent
    rw [e3, nI_clamp (by omega), gdnN hx]
    cases f_ByteRow_at x v S <;> rfl
  rw [eA]
  unfold f_ByteRow_at f_ByteRow_at_34 f_Mo_sent f_Mo_sent_12
  rw [e1, e9, hbl]
  rcases pk_ix v (n := m) (by omega) with hv | hv | ⟨j, hj, rfl⟩
  · exact ⟨-1, by rw [if_pos hv], by rw [if_pos hv]⟩
  · have hv1 : ¬ v < 0 := fun z => nI_pos (n := m) (by omega) (Int32.lt_of_le_of_lt hv z)
    have hv2 : ¬ v < nI m := fun z => Int32.lt_irrefl (Int32.lt_of_lt_of_le z hv)
    exact ⟨-1, by rw [if_neg hv1, if_pos hv], by rw [if_neg hv1, if_neg hv2]⟩
  · have z : ¬ nI j < 0 := nI_pos (by omega)
    have z1 : ¬ nI m ≤ nI j := fun q => by have := (nI_leI (by omega) (by omega)).mp q; omega
    have z2 : nI j < nI m := (nI_ltI (by omega) (by omega)).mpr hj
    have z3 : ¬ Int32.ofNat 1000 ≤ nI j := fun q => by have := (nI_leI (a := 1000) (by omega) (by omega)).mp q; omega
    refine ⟨S 73 j, ?_, ?_⟩
    · rw [if_neg z, if_neg z1, if_neg z3, gdiN (by omega) (by omega), nI_clamp (by omega), hb j hj]
    · rw [if_neg z, if_pos z2, gdiN (by omega) (by omega), nI_clamp (by omega)]
/-- the declaration's calls keep it -/
theorem Rm_keep {S S' : zSt} (h : Rm S) (hf : Fr S S') : Rm S' := by
  obtain ⟨x, y, m, hxy, e3, e4, hm, e1, e9, hb⟩ := h
  obtain ⟨f1, f2, f3⟩ := hf
  refine ⟨x, y, m, hxy, by rw [f1 0 3 (by omega)]; exact e3, by rw [f1 0 4 (by omega)]; exact e4, hm, by rw [f1 (58 + x) 1 (by omega)]; exact e1, by rw [f3 9 (by omega)]; exact e9, fun i hi => ?_⟩
  rw [f1 (62 + x) i (by omega), f2 73 i (by omega)]
  exact hb i hi
theorem S00_Rd : Rd S00 := by
  refine ⟨?_, ?_, ?_, ?_, ?_, ?_, ?_, ?_, ?_⟩
  · decide
  · decide
  · decide
  · intro j hj
    simp [S00]
  · intro j hj
    exact absurd hj (by simp [S00])
  · intro k hk
    have : k = 0 ∨ k = 1 ∨ k = 2 ∨ k = 3 ∨ k = 4 ∨ k = 5 := by omega
    rcases this with rfl | rfl | rfl | rfl | rfl | rfl <;> decide
  · intro k hk
    exact absurd hk (by simp [S00])
  · intro r hr
    have a1 : S00 71 r = 0 := by simp [S00]
    have a2 : S00 (22 + r) 1 = 0 := by unfold S00; rw [if_neg (by omega), if_neg (by omega), if_neg (by omega)]
    rw [a1, a2]
    decide
  · intro r i hr hi
    have a1 : S00 72 (8 * r + i) = 0 := by simp [S00]
    have a2 : S00 (40 + r) i = 0 := by unfold S00; rw [if_neg (by omega), if_neg (by omega), if_neg (by omega)]
    rw [a1, a2]
    decide
theorem S00_Rm : Rm S00 := ⟨0, 1, 0, Or.inl ⟨rfl, rfl⟩, by decide, by decide, by omega, by decide, by decide, fun i hi => absurd hi (Nat.not_lt_zero i)⟩
