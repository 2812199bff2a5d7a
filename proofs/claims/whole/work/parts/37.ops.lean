theorem op_parameter {S : zSt} (h : Rd S) (v : Int32) (w : Nat) (hw : w < 65536) : ∃ r S1 S2, f_TC_parameter v (nI w) S = some (r, S1) ∧ f_Mo_parameter v (nI w) S1 = some (r, S2) ∧ Rd S2 ∧ Fr S S2 := by
  have hh := h
  obtain ⟨q1, q2, ⟨p1, p2, p3⟩, q4, q5, q6, q7, q8, q9⟩ := h
  obtain ⟨n, hn, e⟩ := toN 6 p1 p2 (by decide)
  rw [e] at p3
  rcases pk_ix v (n := 6) (by decide) with hv | hv | ⟨d, hd, rfl⟩
  · refine ⟨-11, S, S, ?_, ?_, hh, by simp [Fr]⟩
    · unfold f_TC_parameter
      simp only [hv, if_true]
    · unfold f_Mo_parameter
      simp only [hv, if_true]
  · have hv1 : ¬ v < 0 := fun z => by
      have z1 := Int32.lt_of_le_of_lt hv z
      exact absurd z1 (by decide)
    have hv2 : 5 < v := Int32.lt_of_lt_of_le (by decide) hv
    refine ⟨-11, S, S, ?_, ?_, hh, by simp [Fr]⟩
    · unfold f_TC_parameter
      simp only [hv1, hv2, if_true, if_false]
    · unfold f_Mo_parameter
      simp only [hv1, hv2, if_true, if_false]
  · have d1 : ¬ d < 0 := by omega
    have d2 : ¬ 5 < d := by omega
    by_cases h1 : w < 97
    · refine ⟨-11, S, S, ?_, ?_, hh, by simp [Fr]⟩
      · unfold f_TC_parameter f_Chars_isSmall f_Chars_isSmall_16
        simp (disch := omega) [gdb, lit, nI_ltI, nI_leI, nI_eq, gdiN, gdnN, nI_clamp, gdcN, narC, nI_add, su_ne, su_eq, sq, d1, d2, h1]
      · unfold f_Mo_parameter
        simp (disch := omega) [gdb, lit, nI_ltI, nI_leI, nI_eq, gdiN, gdnN, nI_clamp, gdcN, narC, nI_add, su_ne, su_eq, sq, d1, d2, h1]
    · by_cases h2 : 122 < w
      · have h2' : ¬ w ≤ 122 := by omega
        refine ⟨-11, S, S, ?_, ?_, hh, by simp [Fr]⟩
        · unfold f_TC_parameter f_Chars_isSmall f_Chars_isSmall_16
          simp (disch := omega) [gdb, lit, nI_ltI, nI_leI, nI_eq, gdiN, gdnN, nI_clamp, gdcN, narC, nI_add, su_ne, su_eq, sq, d1, d2, h1, h2, h2']
        · unfold f_Mo_parameter
          simp (disch := omega) [gdb, lit, nI_ltI, nI_leI, nI_eq, gdiN, gdnN, nI_clamp, gdcN, narC, nI_add, su_ne, su_eq, sq, d1, d2, h1, h2, h2']
      · have h2' : w ≤ 122 := by omega
        by_cases h3 : n < 6
        · have h4 : ¬ n = 6 := by omega
          refine ⟨nI n, su (su (su (su S (10 + n) 2 (nI d)) (10 + n) 3 (nI w)) (10 + n) 1 0) 1 2 (nI (n + 1)), su (su (su (su (su (su (su (su S (10 + n) 2 (nI d)) (10 + n) 3 (nI w)) (10 + n) 1 0) 1 2 (nI (n + 1))) 68 n (nI d)) 69 n (nI w)) 70 n 0) 66 3 (nI (n + 1)), ?_, ?_, ?_, ?_⟩
          · unfold f_TC_parameter f_Chars_isSmall f_Declaration_addParameter f_Parameter_begin
            simp (disch := omega) [gdb, lit, nI_ltI, nI_leI, nI_eq, gdiN, gdnN, nI_clamp, gdcN, narC, nI_add, su_ne, su_eq, sq, d1, d2, h1, h2, h2', h3, h4, e, p3]
            try simp (disch := omega) [pk_sub, su_ne, su_eq, nI_add]
          · unfold f_Mo_parameter
            simp (disch := omega) [gdb, lit, nI_ltI, nI_leI, nI_eq, gdiN, gdnN, nI_clamp, gdcN, narC, nI_add, su_ne, su_eq, sq, d1, d2, h1, h2, h2', h3, h4, e, p3]
            try simp (disch := omega) [pk_sub, su_ne, su_eq, nI_add]
          · have hz : (nI (n + 1)).toNatClampNeg = n + 1 := nI_clamp (by omega)
            have hz2 : (nI n).toNatClampNeg = n := nI_clamp (by omega)
            have c1 : 97 ≤ nI w := (nI_leI (a := 97) (by omega) (by omega)).mpr (by omega)
            have c2 : nI w ≤ 122 := (nI_leI (b := 122) (by omega) (by omega)).mpr (by omega)
            have c3 : 0 ≤ nI (n + 1) := nI_pos' (by omega)
            have c4 : nI (n + 1) ≤ 6 := (nI_leI (b := 6) (by omega) (by omega)).mpr (by omega)
            have c5 : 0 ≤ nI d := nI_pos' (by omega)
            have c6 : nI d ≤ 5 := (nI_leI (b := 5) (by omega) (by omega)).mpr (by omega)
            have c7 : (0 : Int32) ≤ 3 ∧ (0 : Int32) ≤ 1 ∧ (0 : Int32) ≤ 0 := by decide
            rw [e, hz2] at q7
            refine ⟨?_, ?_, ?_, ?_, ?_, ?_, ?_, ?_, ?_⟩
            · simp (disch := omega) only [su_ne]
              exact q1
            · simp (disch := omega) only [su_ne]
              exact q2
            · simp (disch := omega) only [su_ne, su_eq]
              exact ⟨c3, c4, trivial⟩
            · intro j hj
              simp (disch := omega) only [su_ne]
              exact q4 j hj
            · simp (disch := omega) only [su_ne]
              intro j hj
              try simp (disch := omega) only [su_ne]
              exact q5 j hj
            · intro k hk
              by_cases hkn : k = n
              · subst hkn
                simp (disch := omega) only [su_ne, su_eq]
                exact ⟨trivial, trivial, c5, c6, by decide, by decide, fun _ => by decide⟩
              · simp (disch := omega) only [su_ne]
                exact q6 k hk
            · simp (disch := omega) only [su_ne, su_eq, hz]
              intro k hk
              by_cases hkn : k = n
              · subst hkn
                simp (disch := omega) only [su_ne, su_eq]
                exact ⟨trivial, c1, c2⟩
              · simp (disch := omega) only [su_ne]
                exact q7 k (by omega)
            · intro r hr
              simp (disch := omega) only [su_ne]
              exact q8 r hr
            · intro r i hr hi
              simp (disch := omega) only [su_ne]
              exact q9 r i hr hi
          · refine ⟨?_, ?_, ?_⟩ <;> intros <;> simp only [su_ap] <;> grind
        · have h4 : n = 6 := by omega
          subst h4
          refine ⟨-12, S, S, ?_, ?_, hh, by simp [Fr]⟩
          · unfold f_TC_parameter f_Chars_isSmall f_Declaration_addParameter
            simp (disch := omega) [gdb, lit, nI_ltI, nI_leI, nI_eq, gdiN, gdnN, nI_clamp, gdcN, narC, nI_add, su_ne, su_eq, sq, d1, d2, h1, h2, h2', e, p3]
          · unfold f_Mo_parameter
            simp (disch := omega) [gdb, lit, nI_ltI, nI_leI, nI_eq, gdiN, gdnN, nI_clamp, gdcN, narC, nI_add, su_ne, su_eq, sq, d1, d2, h1, h2, h2', e, p3]
/-- parameterAt and isParameter: the same question -/
theorem par_at {S : zSt} (h : Rd S) (v : Int32) : (f_Declaration_parameterAt v S = some none ∧ ∀ S', S' 66 3 = S 66 3 → f_Mo_isParameter v S' = some 0) ∨ ∃ k, v = nI k ∧ k < 6 ∧ k < (S 1 2).toNatClampNeg ∧ f_Declaration_parameterAt v S = some (some k) ∧ ∀ S', S' 66 3 = S 66 3 → f_Mo_isParameter v S' = some 1 := by
  obtain ⟨q1, q2, ⟨p1, p2, p3⟩, -⟩ := h
  obtain ⟨n, hn, e⟩ := toN 6 p1 p2 (by decide)
  rw [e] at p3
  rw [e, nI_clamp (by omega)]
  rcases pk_ix v (n := n) (by omega) with hv | hv | ⟨k, hk, rfl⟩
  · left
    refine ⟨?_, fun S' hS => ?_⟩
    · unfold f_Declaration_parameterAt f_Declaration_parameterAt_21
      simp only [hv, if_true]
    · unfold f_Mo_isParameter f_Mo_isParameter_16
      simp only [hv, if_true]
      rfl
  · left
    have hv1 : ¬ v < 0 := fun z => nI_pos (n := n) (by omega) (Int32.lt_of_le_of_lt hv z)
    refine ⟨?_, fun S' hS => ?_⟩
    · unfold f_Declaration_parameterAt f_Declaration_parameterAt_21
      simp only [hv1, e, hv, if_true, if_false]
    · unfold f_Mo_isParameter f_Mo_isParameter_16
      rw [hS, p3]
      simp only [hv1, hv, if_true, if_false]
      rfl
  · right
    have hk1 : ¬ nI k < 0 := nI_pos (by omega)
    have hk2 : ¬ n ≤ k := by omega
    refine ⟨k, rfl, by omega, hk, ?_, fun S' hS => ?_⟩
    · unfold f_Declaration_parameterAt
      simp (disch := omega) only [hk1, e, nI_leI, hk2, if_false, gdiN, nI_clamp]
    · unfold f_Mo_isParameter
      rw [hS, p3]
      simp (disch := omega) only [hk1, nI_leI, hk2, if_false]
      rfl
theorem op_empty {S : zSt} (h : Rd S) (v : Int32) : ∃ r S1 S2, f_TC_empty v S = some (r, S1) ∧ f_Mo_empty v S1 = some (r, S2) ∧ Rd S2 ∧ Fr S S2 := by
  have hh := h
  rcases par_at h v with ⟨g1, g2⟩ | ⟨k, rfl, hk, hk2, g1, g2⟩
  · refine ⟨0, S, S, ?_, ?_, hh, by simp [Fr]⟩
    · unfold f_TC_empty
      rw [g1]
      rfl
    · unfold f_Mo_empty
      rw [g2 S rfl]
      rfl
  · obtain ⟨q1, q2, q3, q4, q5, q6, q7, q8, q9⟩ := h
    refine ⟨1, su S (10 + k) 1 0, su (su S (10 + k) 1 0) 70 k 0, ?_, ?_, ?_, ?_⟩
    · unfold f_TC_empty
      rw [g1]
      simp (disch := omega) [gdnN, f_Parameter_dropItems, sq, gdb]
    · unfold f_Mo_empty
      rw [g2 _ (by simp only [su_ap]; grind)]
      simp (disch := omega) [gdiN, nI_clamp, sq, gdb]
    · refine ⟨?_, ?_, ?_, ?_, ?_, ?_, ?_, ?_, ?_⟩
      · simp (disch := omega) only [su_ne]
        exact q1
      · simp (disch := omega) only [su_ne]
        exact q2
      · simp (disch := omega) only [su_ne]
        exact q3
      · intro j hj
        simp (disch := omega) only [su_ne]
        exact q4 j hj
      · simp (disch := omega) only [su_ne]
        intro j hj
        try simp (disch := omega) only [su_ne]
        exact q5 j hj
      · intro k' hk'
        by_cases hkn : k' = k
        · subst hkn
          simp (disch := omega) only [su_ne, su_eq]
          obtain ⟨z1, z2, z3, z4, z5, z6, z7⟩ := q6 k' hk'
          exact ⟨z1, trivial, z3, z4, by decide, by decide, fun _ => by decide⟩
        · simp (disch := omega) only [su_ne]
          exact q6 k' hk'
      · simp (disch := omega) only [su_ne]
        intro j hj
        have hj6 : j < 6 := Nat.lt_of_lt_of_le hj (cnt_le q3.1 q3.2.1)
        try simp (disch := omega) only [su_ne]
        exact q7 j hj
      · intro r hr
        simp (disch := omega) only [su_ne]
        exact q8 r hr
      · intro r i hr hi
        simp (disch := omega) only [su_ne]
        exact q9 r i hr hi
    · refine ⟨?_, ?_, ?_⟩ <;> intros <;> simp only [su_ap] <;> grind
theorem op_item {S : zSt} (h : Rd S) (v : Int32) : ∃ r S1 S2, f_TC_item v S = some (r, S1) ∧ f_Mo_item v S1 = some (r, S2) ∧ Rd S2 ∧ Fr S S2 := by
  have hh := h
  rcases par_at h v with ⟨g1, g2⟩ | ⟨k, rfl, hk, hk2, g1, g2⟩
  · refine ⟨0, S, S, ?_, ?_, hh, by simp [Fr]⟩
    · unfold f_TC_item
      rw [g1]
      rfl
    · unfold f_Mo_item
      rw [g2 S rfl]
      rfl
  · obtain ⟨q1, q2, q3, q4, q5, q6, q7, q8, q9⟩ := h
    obtain ⟨z1, z2, z3, z4, z5, z6, z7⟩ := q6 k hk
    obtain ⟨c, hc, ec⟩ := toN 3 z5 z6 (by decide)
    obtain ⟨kd, hkd, ek⟩ := toN 5 z3 z4 (by decide)
    rw [ec] at z2 z7
    rw [ek] at z1 z7
    -- the most of this kind
    obtain ⟨t, ht, e1, e2⟩ : ∃ t, (t = 1 ∨ (t = 3 ∧ ¬ (kd = 0 ∨ kd = 5))) ∧ f_Parameter_addItem k S = f_Parameter_addItem_20 k (nI t) S ∧ ∀ S', S' 68 k = S 68 k → S' 66 3 = S 66 3 → f_Mo_item (nI k) S' = f_Mo_item_34 (nI k) (nI t) S' ∧ c ≤ t := by
      by_cases hkind : kd = 0 ∨ kd = 5
      · refine ⟨1, Or.inl rfl, ?_, fun S' h1 h2 => ⟨?_, ?_⟩⟩
        · unfold f_Parameter_addItem f_Parameter_addItem_15
          rw [ek]
          rcases hkind with rfl | rfl <;> simp (disch := omega) [lit, nI_eq]
        · unfold f_Mo_item f_Mo_item_29
          rw [g2 S' h2]
          simp (disch := omega) only [Option.bind_some, gdiN, nI_clamp, h1, z1]
          rcases hkind with rfl | rfl <;> simp (disch := omega) [lit, nI_eq]
        · have h9 : nI kd = 0 ∨ nI kd = 5 := by rcases hkind with rfl | rfl; exact Or.inl rfl; exact Or.inr rfl
          exact (nI_leI (b := 1) (by omega) (by omega)).mp (z7 h9)
      · have k0 : ¬ kd = 0 := fun z => hkind (Or.inl z)
        have k5 : ¬ kd = 5 := fun z => hkind (Or.inr z)
        refine ⟨3, Or.inr ⟨rfl, hkind⟩, ?_, fun S' h1 h2 => ⟨?_, hc⟩⟩
        · unfold f_Parameter_addItem
          simp (disch := omega) only [ek, lit, nI_eq, k0, k5, if_false]
        · unfold f_Mo_item
          rw [g2 S' h2]
          simp (disch := omega) only [Option.bind_some, gdiN, nI_clamp, h1, z1]
          simp (disch := omega) [lit, nI_eq, k0, k5]
    have e2S := e2 S rfl rfl
    have hct := e2S.2
    by_cases h3 : c < t
    · have h4 : ¬ c = t := by omega
      refine ⟨1, su (su S (22 + (3 * k + c)) 1 0) (10 + k) 1 (nI (c + 1)), su (su (su (su S (22 + (3 * k + c)) 1 0) (10 + k) 1 (nI (c + 1))) 71 (3 * k + c) 0) 70 k (nI (c + 1)), ?_, ?_, ?_, ?_⟩
      · unfold f_TC_item
        rw [g1]
        simp (disch := omega) only [Option.bind_some, gdnN, e1]
        unfold f_Parameter_addItem_20
        simp (disch := omega) [gdb, lit, nI_ltI, h3, ec, gdiN, nI_clamp, nI_add, su_ne, su_eq, sq, nI_eq]
      · rw [(e2 _ (by simp (disch := omega) only [su_ne]) (by simp (disch := omega) only [su_ne])).1]
        unfold f_Mo_item_34
        simp (disch := omega) [gdb, lit, nI_eq, h4, z2, gdiN, nI_clamp, nI_add, pk_mul, su_ne, su_eq, sq]
      · have c1 : 0 ≤ nI (c + 1) := nI_pos' (by omega)
        have c2 : nI (c + 1) ≤ 3 := (nI_leI (b := 3) (by omega) (by omega)).mpr (by omega)
        refine ⟨?_, ?_, ?_, ?_, ?_, ?_, ?_, ?_, ?_⟩
        · simp (disch := omega) only [su_ne]
          exact q1
        · simp (disch := omega) only [su_ne]
          exact q2
        · simp (disch := omega) only [su_ne]
          exact q3
        · intro j hj
          simp (disch := omega) only [su_ne]
          exact q4 j hj
        · simp (disch := omega) only [su_ne]
          intro j hj
          try simp (disch := omega) only [su_ne]
          exact q5 j hj
        · intro k' hk'
          by_cases hkn : k' = k
          · subst hkn
            simp (disch := omega) only [su_ne, su_eq]
            rw [z1, ek]
            refine ⟨rfl, trivial, nI_pos' (by omega), (nI_leI (b := 5) (by omega) (by omega)).mpr hkd, c1, c2, fun h9 => ?_⟩
            have h10 : nI c ≤ 1 := z7 h9
            rcases ht with rfl | ⟨rfl, hnk⟩
            · exact (nI_leI (b := 1) (by omega) (by omega)).mpr (by omega)
            · refine absurd ?_ hnk
              rcases h9 with h | h
              · exact Or.inl ((nI_eq (b := 0) (by omega) (by omega)).mp h)
              · exact Or.inr ((nI_eq (b := 5) (by omega) (by omega)).mp h)
          · simp (disch := omega) only [su_ne]
            exact q6 k' hk'
        · simp (disch := omega) only [su_ne]
          intro j hj
          have hj6 : j < 6 := Nat.lt_of_lt_of_le hj (cnt_le q3.1 q3.2.1)
          try simp (disch := omega) only [su_ne]
          exact q7 j hj
        · intro r hr
          by_cases hrn : r = 3 * k + c
          · subst hrn
            simp (disch := omega) only [su_ne, su_eq]
            exact ⟨trivial, by decide, by decide⟩
          · simp (disch := omega) only [su_ne]
            exact q8 r hr
        · intro r i hr hi
          simp (disch := omega) only [su_ne]
          exact q9 r i hr hi
      · refine ⟨?_, ?_, ?_⟩ <;> intros <;> simp only [su_ap] <;> grind
    · have h4 : c = t := by omega
      refine ⟨0, S, S, ?_, ?_, hh, by simp [Fr]⟩
      · unfold f_TC_item f_TC_item_24
        rw [g1]
        simp (disch := omega) only [Option.bind_some, gdnN, e1]
        unfold f_Parameter_addItem_20
        simp (disch := omega) [gdb, lit, nI_ltI, h3, ec]
      · rw [e2S.1]
        unfold f_Mo_item_34
        simp (disch := omega) [gdb, lit, nI_eq, h4, z2, gdiN, nI_clamp]
