theorem op_write {S : zSt} (h : Rd S) (v : Int32) (w : Nat) (hw : w < 65536) : ∃ r S1 S2, f_TC_write v (nI w) S = some (r, S1) ∧ f_Mo_write v (nI w) S1 = some (r, S2) ∧ Rd S2 ∧ Fr S S2 := by
  have hh := h
  rcases par_at h v with ⟨g1, g2⟩ | ⟨k, rfl, hk, hk2, g1, g2⟩
  · refine ⟨0, S, S, ?_, ?_, hh, by simp [Fr]⟩
    · unfold f_TC_write
      rw [g1]
      rfl
    · unfold f_Mo_write
      rw [g2 S rfl]
      rfl
  · obtain ⟨q1, q2, q3, q4, q5, q6, q7, q8, q9⟩ := h
    obtain ⟨z1, z2, z3, z4, z5, z6, z7⟩ := q6 k hk
    obtain ⟨c, hc, ec⟩ := toN 3 z5 z6 (by decide)
    rw [ec] at z2
    by_cases hc0 : c = 0
    · subst hc0
      refine ⟨0, S, S, ?_, ?_, hh, by simp [Fr]⟩
      · unfold f_TC_write f_TC_write_25
        rw [g1]
        simp (disch := omega) only [Option.bind_some, gdnN]
        unfold f_Parameter_addChar f_Parameter_addChar_29
        simp (disch := omega) [gdb, lit, nI_leI, ec]
      · unfold f_Mo_write
        rw [g2 S rfl]
        simp (disch := omega) [gdb, lit, nI_eq, gdiN, nI_clamp, z2]
    · obtain ⟨r, er⟩ : ∃ r, r = 3 * k + (c - 1) := ⟨_, rfl⟩
      have hr : r < 18 := by omega
      have er2 : 3 * k + c - 1 = r := by omega
      obtain ⟨y1, y2, y3⟩ := q8 r hr
      obtain ⟨n, hn, en⟩ := toN 8 y2 y3 (by decide)
      rw [en] at y1
      have hc1 : ¬ c ≤ 0 := by omega
      have ix : nI (3 * k + c) - nI 1 = nI r := by rw [pk_sub (by omega), er2]
      by_cases hn8 : n < 8
      · have hn8' : ¬ n = 8 := by omega
        refine ⟨1, su (su S (40 + r) n (nI w)) (22 + r) 1 (nI (n + 1)), su (su (su (su S (40 + r) n (nI w)) (22 + r) 1 (nI (n + 1))) 72 (8 * r + n) (nI w)) 71 r (nI (n + 1)), ?_, ?_, ?_, ?_⟩
        · unfold f_TC_write
          rw [g1]
          simp (disch := omega) only [Option.bind_some, gdnN]
          have ea : f_Item_add r (nI w) S = some (1, su (su S (40 + r) n (nI w)) (22 + r) 1 (nI (n + 1))) := by
            unfold f_Item_add
            simp (disch := omega) [gdb, lit, nI_ltI, en, hn8, gdiN, nI_clamp, narC, su_ne, su_eq, sq, nI_add]
          have eb : f_Parameter_addChar k (nI w) S = some (1, su (su S (40 + r) n (nI w)) (22 + r) 1 (nI (n + 1))) := by
            unfold f_Parameter_addChar
            simp (disch := omega) only [ec, lit, nI_leI, hc1, if_false, pk_sub, gdiN, nI_clamp]
            rw [← er, ea]
            simp (disch := omega) [gdb, lit, nI_eq]
          rw [eb]
          simp (disch := omega) [gdb, lit, nI_eq]
        · unfold f_Mo_write
          rw [g2 _ (by simp (disch := omega) only [su_ne])]
          simp (disch := omega) only [Option.bind_some, lit, gdiN, nI_clamp, su_ne, z2, nI_eq, hc0, if_false, ix, y1, hn8', pk_mul, nI_add, su_eq, sq]
          simp (disch := omega) [gdb, lit, nI_eq, gdiN, nI_clamp, su_ne, su_eq, y1, hn8', nI_add, pk_mul, ix]
        · have c1 : 0 ≤ nI (n + 1) := nI_pos' (by omega)
          have c2 : nI (n + 1) ≤ 8 := (nI_leI (b := 8) (by omega) (by omega)).mpr (by omega)
          have c3 : 0 ≤ nI w := nI_pos' (by omega)
          have c4 : nI w ≤ 65535 := (nI_leI (b := 65535) (by omega) (by omega)).mpr (by omega)
          refine ⟨?_, ?_, ?_, ?_, ?_, ?_, ?_, ?_, ?_⟩
          · simp (disch := omega) only [su_ne]
            exact q1
          · simp (disch := omega) only [su_ne]
            exact q2
          · simp (disch := omega) only [su_ne]
            exact q3
          · intro j hj
            simp (disch := omega) only [su_ne]
            exact q4 j hj
          · simp (disch := omega) only [su_ne]
            intro j hj
            try simp (disch := omega) only [su_ne]
            exact q5 j hj
          · intro k' hk'
            simp (disch := omega) only [su_ne]
            exact q6 k' hk'
          · simp (disch := omega) only [su_ne]
            intro j hj
            have hj6 : j < 6 := Nat.lt_of_lt_of_le hj (cnt_le q3.1 q3.2.1)
            try simp (disch := omega) only [su_ne]
            exact q7 j hj
          · intro r' hr'
            by_cases hrn : r' = r
            · subst hrn
              simp (disch := omega) only [su_ne, su_eq]
              exact ⟨trivial, c1, c2⟩
            · simp (disch := omega) only [su_ne]
              exact q8 r' hr'
          · intro r' i hr' hi
            by_cases hrn : r' = r ∧ i = n
            · obtain ⟨rfl, rfl⟩ := hrn
              simp (disch := omega) only [su_ne, su_eq]
              exact ⟨trivial, c3, c4⟩
            · have hne : ¬ (r' = r) ∨ ¬ (i = n) := by omega
              simp (disch := omega) only [su_ne]
              exact q9 r' i hr' hi
        · refine ⟨?_, ?_, ?_⟩
          · intro i j hi
            simp (disch := omega) only [su_ne]
          · intro i j hi
            simp (disch := omega) only [su_ne]
          · intro j hj
            simp (disch := omega) only [su_ne]
      · have hn8' : n = 8 := by omega
        subst hn8'
        refine ⟨0, S, S, ?_, ?_, hh, by simp [Fr]⟩
        · unfold f_TC_write f_TC_write_25
          rw [g1]
          simp (disch := omega) only [Option.bind_some, gdnN]
          have ea : f_Item_add r (nI w) S = some (0, S) := by
            unfold f_Item_add
            simp (disch := omega) [gdb, lit, nI_ltI, en]
          have eb : f_Parameter_addChar k (nI w) S = some (0, S) := by
            unfold f_Parameter_addChar f_Parameter_addChar_29
            simp (disch := omega) only [ec, lit, nI_leI, hc1, if_false, pk_sub, gdiN, nI_clamp]
            rw [← er, ea]
            simp (disch := omega) [gdb, lit, nI_eq]
          rw [eb]
          simp (disch := omega) [gdb, lit, nI_eq]
        · unfold f_Mo_write
          rw [g2 S rfl]
          simp (disch := omega) only [Option.bind_some, lit, gdiN, nI_clamp, z2, nI_eq, hc0, if_false, ix, y1, pk_mul, nI_add]
          simp (disch := omega) [gdb, lit, nI_eq]
