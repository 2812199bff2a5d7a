def bI (b : Bool) : Int32 := if b then 1 else 0
theorem bI_0 (b : Bool) : bI b = 0 ↔ b = false := by cases b <;> simp [bI]
theorem gdb_bI {α : Type} (b : Bool) (x : Option α) : gdb (bI b) x = x := by cases b <;> simp [bI, gdb]
def cSm (c : Nat) : Bool := decide (97 ≤ c ∧ c ≤ 122)
def cDg (c : Nat) : Bool := decide (48 ≤ c ∧ c ≤ 57)
def cLD (c : Nat) : Bool := decide ((97 ≤ c ∧ c ≤ 122) ∨ (65 ≤ c ∧ c ≤ 90) ∨ (48 ≤ c ∧ c ≤ 57))
def cUn (c : Nat) : Bool := cLD c || decide (c = 45 ∨ c = 46 ∨ c = 95 ∨ c = 126)
def cLi (c : Nat) : Bool := cLD c || decide (c = 45 ∨ c = 46 ∨ c = 95 ∨ c = 126 ∨ c = 47 ∨ c = 63 ∨ c = 61 ∨ c = 38)
def cOp (c : Nat) : Bool := decide (c = 43 ∨ c = 46 ∨ c = 47 ∨ c = 59 ∨ c = 63 ∨ c = 38)
def cLo (c : Nat) : Bool := decide (c = 58 ∨ c = 47 ∨ c = 63 ∨ c = 64 ∨ c = 33 ∨ c = 36 ∨ (38 ≤ c ∧ c ≤ 44) ∨ c = 59 ∨ c = 61)
def cHx (c : Nat) : Bool := decide ((48 ≤ c ∧ c ≤ 57) ∨ (97 ≤ c ∧ c ≤ 102) ∨ (65 ≤ c ∧ c ≤ 70))
def cBl (c : Nat) : Bool := decide (c = 32 ∨ c = 9)
def cLow (c : Nat) : Nat := if 65 ≤ c ∧ c ≤ 90 then c + 32 else c
section CHARS
variable {c : Nat} (S : zSt)
theorem ch_small (hc : c < 65536) : f_Chars_isSmall (nI c) S = some (bI (cSm c)) := by
  unfold f_Chars_isSmall f_Chars_isSmall_16 cSm bI gdb
  simp (disch := omega) only [lit, nI_ltI, nI_eq]
  grind (splits := 40)
theorem ch_digit (hc : c < 65536) : f_Chars_isDigit (nI c) S = some (bI (cDg c)) := by
  unfold f_Chars_isDigit f_Chars_isDigit_16 cDg bI gdb
  simp (disch := omega) only [lit, nI_ltI, nI_eq]
  grind (splits := 40)
theorem ch_ld (hc : c < 65536) : f_Chars_isLetterOrDigit (nI c) S = some (bI (cLD c)) := by
  unfold f_Chars_isLetterOrDigit f_Chars_isLetterOrDigit_12 f_Chars_isLetterOrDigit_24 f_Chars_isLetterOrDigit_36 f_Chars_isLetterOrDigit_40 cLD bI gdb
  simp (disch := omega) only [lit, nI_ltI, nI_leI, nI_eq]
  grind (splits := 40)
theorem ch_blank (hc : c < 65536) : f_Chars_isBlank (nI c) S = some (bI (cBl c)) := by
  unfold f_Chars_isBlank f_Chars_isBlank_12 cBl bI gdb
  simp (disch := omega) only [lit, nI_ltI, nI_leI, nI_eq]
  grind (splits := 40)
theorem mo_small (hc : c < 65536) : f_Mo_small (nI c) S = some (bI (cSm c)) := by
  unfold f_Mo_small f_Mo_small_16 cSm bI gdb
  simp (disch := omega) only [lit, nI_ltI, nI_eq]
  grind (splits := 40)
theorem mo_digit (hc : c < 65536) : f_Mo_digit (nI c) S = some (bI (cDg c)) := by
  unfold f_Mo_digit f_Mo_digit_16 cDg bI gdb
  simp (disch := omega) only [lit, nI_ltI, nI_eq]
  grind (splits := 40)
theorem mo_ld (hc : c < 65536) : f_Mo_letterOrDigit (nI c) S = some (bI (cLD c)) := by
  unfold f_Mo_letterOrDigit f_Mo_letterOrDigit_19 f_Mo_letterOrDigit_26
  rw [mo_small S hc, mo_digit S hc]
  simp only [Option.bind_some, bI_0]
  unfold cSm cDg cLD bI gdb
  simp (disch := omega) only [lit, nI_ltI, nI_leI, nI_eq]
  grind (splits := 40)
theorem mo_plain (hc : c < 65536) : f_Mo_plain (nI c) S = some (bI (cUn c)) := by
  unfold f_Mo_plain f_Mo_plain_31
  rw [mo_ld S hc]
  simp only [Option.bind_some, bI_0]
  unfold cUn bI gdb
  simp (disch := omega) only [lit, nI_ltI, nI_leI, nI_eq]
  grind (splits := 40)
theorem mo_op (hc : c < 65536) : f_Mo_operator (nI c) S = some (bI (cOp c)) := by
  unfold f_Mo_operator f_Mo_operator_36 cOp bI gdb
  simp (disch := omega) only [lit, nI_ltI, nI_leI, nI_eq]
  grind (splits := 40)
theorem mo_loose (hc : c < 65536) : f_Mo_loose (nI c) S = some (bI (cLo c)) := by
  unfold f_Mo_loose f_Mo_loose_48 f_Mo_loose_60 cLo bI gdb
  simp (disch := omega) only [lit, nI_ltI, nI_leI, nI_eq]
  grind (splits := 40)
theorem mo_hex (hc : c < 65536) : f_Mo_hex (nI c) S = some (bI (cHx c)) := by
  unfold f_Mo_hex f_Mo_hex_19 f_Mo_hex_31 f_Mo_hex_35
  rw [mo_digit S hc]
  simp only [Option.bind_some, bI_0]
  unfold cHx cDg bI gdb
  simp (disch := omega) only [lit, nI_ltI, nI_leI, nI_eq]
  grind (splits := 40)
theorem mo_lower (hc : c < 65536) : f_Mo_lower (nI c) S = some (nI (cLow c)) := by
  unfold f_Mo_lower f_Mo_lower_19 cLow
  simp (disch := omega) only [lit, nI_ltI, nI_leI, nI_eq, nI_add]
  grind (splits := 40)
theorem by_ok : ∀ q, q < nS → lenS.getD q 0 = (bytS.getD q []).length ∧ (bytS.getD q []).length < 100 ∧ ∀ j, j < (bytS.getD q []).length → ((bytS.getD q []).getD j 0).toInt8.toInt32 = (bytS.getD q []).getD j 0 ∧ (bytS.getD q []).getD j 0 &&& 255 = (bytS.getD q []).getD j 0 ∧ ¬ 255 < (bytS.getD q []).getD j 0 := by decide +kernel
theorem ix_loop (q : Nat) (b4 : Int32) (hl : lenS.getD q 0 < 100) : ∀ n i, i ≤ lenS.getD q 0 → lenS.getD q 0 - i < n → ∃ r, f_StringLatin1_indexOfChar_7 n q (nI (lenS.getD q 0)) b4 (nI i) S = some r ∧ (r < 0 ↔ ∀ j, i ≤ j → j < lenS.getD q 0 → (bytS.getD q []).getD j 0 ≠ b4) := by
  intro n
  induction n with
  | zero => intro i h1 h2; omega
  | succ n ih =>
    intro i h1 h2
    rw [f_StringLatin1_indexOfChar_7]
    by_cases h3 : lenS.getD q 0 ≤ i
    · refine ⟨-1, ?_, ?_⟩
      · rw [if_pos ((nI_leI (by omega) (by omega)).mpr h3)]
      · exact ⟨fun _ j h4 h5 => by omega, fun _ => by decide⟩
    · rw [if_neg (fun z => h3 ((nI_leI (by omega) (by omega)).mp z)), gdiN (by omega) (by omega), nI_clamp (by omega)]
      by_cases h4 : (bytS.getD q []).getD i 0 = b4
      · refine ⟨nI i, ?_, ?_⟩
        · rw [if_pos h4]
        · exact ⟨fun z => absurd z (nI_pos (by omega)), fun z => absurd h4 (z i (Nat.le_refl _) (by omega))⟩
      · rw [if_neg h4]
        obtain ⟨r, e1, e2⟩ := ih (i + 1) (by omega) (by omega)
        refine ⟨r, ?_, ?_⟩
        · rw [← e1, nI_1]
        · rw [e2]
          constructor
          · intro z j h5 h6
            by_cases h7 : j = i
            · subst h7; exact h4
            · exact z j (by omega) h6
          · intro z j h5 h6
            exact z j (by omega) h6
theorem notmem_getD {l : List Int32} {x : Int32} : x ∉ l ↔ ∀ j, j < l.length → l.getD j 0 ≠ x := by
  constructor
  · intro z j hj e
    apply z
    rw [← e, List.getD_eq_getElem?_getD, List.getElem?_eq_getElem hj]
    exact List.getElem_mem hj
  · intro z hm
    obtain ⟨j, hj, e⟩ := List.getElem_of_mem hm
    apply z j hj
    rw [List.getD_eq_getElem?_getD, List.getElem?_eq_getElem hj]
    exact e
theorem str_len (q : Nat) (hq : q < nS) : f_String_length q S = some (nI (lenS.getD q 0)) := by
  obtain ⟨h1, h2, -⟩ := by_ok q hq
  have e : f_String_coder q S = some 0 := by
    unfold f_String_coder gdy
    rfl
  unfold f_String_length
  rw [e]
  exact congrArg some (sc_shr0 (by omega))
theorem ix_spec (q : Nat) (hq : q < nS) (hc : c < 65536) : ∃ r, f_String_indexOf q (nI c) S = some r ∧ (r < 0 ↔ nI c ∉ bytS.getD q []) := by
  obtain ⟨h1, h2, h3⟩ := by_ok q hq
  have hmem := notmem_getD (l := bytS.getD q []) (x := nI c)
  unfold f_String_indexOf f_String_indexOf2 f_String_isLatin1 f_StringLatin1_indexOf f_StringLatin1_canEncode f_StringLatin1_canEncode_15
  rw [str_len S q hq]
  by_cases h4 : c < 256
  · have hz1 : ¬ nI c < 0 := nI_pos (by omega)
    have hz2 : ¬ (255 : Int32) < nI c := fun z => by have := (nI_ltI (a := 255) (by omega) (by omega)).mp z; omega
    by_cases h5 : 0 < lenS.getD q 0
    · obtain ⟨r, e1, e2⟩ := ix_loop S q (nI c).toInt8.toInt32 (by omega) fu 0 (by omega) (by unfold fu; omega)
      refine ⟨r, ?_, ?_⟩
      · have hlt : (0 : Int32) < nI (lenS.getD q 0) := (nI_ltI (a := 0) (by omega) (by omega)).mpr h5
        have hself : ¬ Int32.ofNat (lenS.getD q 0) < nI (lenS.getD q 0) := Int32.lt_irrefl
        unfold f_StringLatin1_indexOfChar
        clear h1 h2 h3 hmem h5 e2
        generalize lenS.getD q 0 = n at e1 hlt hself ⊢
        simp [gdb, hz1, hz2, hlt, hself]
        exact e1
      · rw [e2, hmem, h1]
        constructor
        · intro z j hj e
          apply z j (Nat.zero_le _) hj
          obtain ⟨y1, y2, -⟩ := h3 j hj
          exact (sc_eq y1 h4).mpr (by rw [y2]; exact e)
        · intro z j _ hj e
          obtain ⟨y1, y2, -⟩ := h3 j hj
          exact z j hj (by rw [← y2]; exact (sc_eq y1 h4).mp e)
    · refine ⟨-1, ?_, ?_⟩
      · have h6 : lenS.getD q 0 = 0 := by omega
        clear h1 h2 h3 hmem h5
        rw [h6]
        have hz0 : nI 0 = 0 := rfl
        have hz3 : Int32.ofNat 0 = 0 := rfl
        simp only [hz0, hz3]
        simp [gdb, hz1, hz2]
      · rw [hmem]
        exact ⟨fun _ j hj => by omega, fun _ => by decide⟩
  · have hz1 : ¬ nI c < 0 := nI_pos (by omega)
    have hz2 : (255 : Int32) < nI c := (nI_ltI (a := 255) (by omega) (by omega)).mpr (by omega)
    refine ⟨-1, ?_, ?_⟩
    · simp [gdb, hz1, hz2]
    · rw [hmem]
      refine ⟨fun _ j hj e => ?_, fun _ => by decide⟩
      have := (h3 j hj).2.2
      rw [e] at this
      exact this hz2
end CHARS
section CHARS2
variable {c : Nat} (S : zSt)
theorem mem_lits : bytS.getD 7 [] = [45, 46, 95, 126] ∧ bytS.getD 0 [] = [45, 46, 95, 126, 47, 63, 61, 38] ∧ bytS.getD 1 [] = [43, 46, 47, 59, 63, 38] ∧ bytS.getD 8 [] = [58, 47, 63, 64, 33, 36, 38, 39, 40, 41, 42, 43, 44, 59, 61] := by decide +kernel
theorem ch_unres (hc : c < 65536) : f_Chars_isUnreserved (nI c) S = some (bI (cUn c)) := by
  unfold f_Chars_isUnreserved f_Chars_isUnreserved_16
  obtain ⟨r, e1, e2⟩ := ix_spec S 7 (by decide) hc
  rw [mem_lits.1] at e2
  rw [ch_ld S hc, e1]
  simp only [Option.bind_some, bI_0, e2, gdb_0, gdb_1]
  unfold cUn bI
  simp (disch := omega) only [List.mem_cons, List.not_mem_nil, or_false, lit, nI_eq]
  grind (splits := 40)
theorem ch_lit (hc : c < 65536) : f_Chars_isLiteral (nI c) S = some (bI (cLi c)) := by
  unfold f_Chars_isLiteral f_Chars_isLiteral_16
  obtain ⟨r, e1, e2⟩ := ix_spec S 0 (by decide) hc
  rw [mem_lits.2.1] at e2
  rw [ch_ld S hc, e1]
  simp only [Option.bind_some, bI_0, e2, gdb_0, gdb_1]
  unfold cLi bI
  simp (disch := omega) only [List.mem_cons, List.not_mem_nil, or_false, lit, nI_eq]
  grind (splits := 40)
theorem ch_op (hc : c < 65536) : f_Chars_isOperator (nI c) S = some (bI (cOp c)) := by
  unfold f_Chars_isOperator
  obtain ⟨r, e1, e2⟩ := ix_spec S 1 (by decide) hc
  rw [mem_lits.2.2.1] at e2
  rw [e1]
  simp only [Option.bind_some, e2, gdb_0, gdb_1]
  unfold cOp bI
  simp (disch := omega) only [List.mem_cons, List.not_mem_nil, or_false, lit, nI_eq]
  grind (splits := 40)
theorem ch_loose (hc : c < 65536) : f_Chars_isLooseMark (nI c) S = some (bI (cLo c)) := by
  unfold f_Chars_isLooseMark
  obtain ⟨r, e1, e2⟩ := ix_spec S 8 (by decide) hc
  rw [mem_lits.2.2.2] at e2
  rw [e1]
  simp only [Option.bind_some, e2, gdb_0, gdb_1]
  unfold cLo bI
  simp (disch := omega) only [List.mem_cons, List.not_mem_nil, or_false, lit, nI_eq]
  grind (splits := 60)
theorem ch_toSmall (hc : c < 65536) : f_Chars_toSmall (nI c) S = some (nI (cLow c)) := by
  unfold f_Chars_toSmall f_Chars_toSmall_23 cLow
  by_cases h1 : c < 65
  · have h3 : ¬ (65 ≤ c ∧ c ≤ 90) := by omega
    simp (disch := omega) only [lit, nI_ltI, h1, if_true, gdcN, h3, if_false]
  · by_cases h2 : 90 < c
    · have h3 : ¬ (65 ≤ c ∧ c ≤ 90) := by omega
      simp (disch := omega) only [lit, nI_ltI, h1, h2, if_true, gdcN, h3, if_false]
    · have h3 : (65 ≤ c ∧ c ≤ 90) := by omega
      have e : (nI c - nI 65) + nI 97 = nI (c + 32) := by rw [pk_sub (by omega), nI_add, show c - 65 + 97 = c + 32 by omega]
      simp (disch := omega) only [lit, nI_ltI, h1, h2, if_false, if_pos h3, e, pk_char, pk_tn]
      rw [Nat.mod_eq_of_lt (by omega), gdcN (by omega)]
theorem ch_hex (hc : c < 65536) : ∃ r, f_Chars_hexValue (nI c) S = some r ∧ (r < 0 ↔ cHx c = false) ∧ (cHx c = true → r = nI (if c ≤ 57 then c - 48 else if c ≤ 70 then c - 55 else c - 87)) := by
  unfold f_Chars_hexValue f_Chars_hexValue_17 f_Chars_hexValue_37 f_Chars_hexValue_59 cHx
  by_cases h1 : c < 48
  · refine ⟨-1, ?_, by simp; omega, by simp; omega⟩
    have h2 : c < 97 := by omega
    have h3 : c < 65 := by omega
    simp (disch := omega) only [lit, nI_ltI, h1, h2, h3, if_true]
  · by_cases h2 : 57 < c
    · by_cases h3 : c < 97
      · by_cases h4 : c < 65
        · refine ⟨-1, ?_, by simp; omega, by simp; omega⟩
          simp (disch := omega) only [lit, nI_ltI, h1, h2, h3, h4, if_true, if_false]
        · by_cases h5 : 70 < c
          · refine ⟨-1, ?_, by simp; omega, by simp; omega⟩
            simp (disch := omega) only [lit, nI_ltI, h1, h2, h3, h4, h5, if_true, if_false]
          · have e : (nI c - nI 65) + nI 10 = nI (c - 55) := by rw [pk_sub (by omega), nI_add, show c - 65 + 10 = c - 55 by omega]
            refine ⟨nI (c - 55), ?_, ?_, ?_⟩
            · simp (disch := omega) only [lit, nI_ltI, h1, h2, h3, h4, h5, if_true, if_false, e]
            · have := nI_pos (n := c - 55) (by omega)
              simp [this]; omega
            · intro _
              rw [if_neg (by omega), if_pos (by omega)]
      · by_cases h4 : 102 < c
        · have h5 : ¬ c < 65 := by omega
          have h6 : 70 < c := by omega
          refine ⟨-1, ?_, by simp; omega, by simp; omega⟩
          simp (disch := omega) only [lit, nI_ltI, h1, h2, h3, h4, h5, h6, if_true, if_false]
        · have e : (nI c - nI 97) + nI 10 = nI (c - 87) := by rw [pk_sub (by omega), nI_add, show c - 97 + 10 = c - 87 by omega]
          refine ⟨nI (c - 87), ?_, ?_, ?_⟩
          · simp (disch := omega) only [lit, nI_ltI, h1, h2, h3, h4, if_true, if_false, e]
          · have := nI_pos (n := c - 87) (by omega)
            simp [this]; omega
          · intro _
            rw [if_neg (by omega), if_neg (by omega)]
    · refine ⟨nI (c - 48), ?_, ?_, ?_⟩
      · simp (disch := omega) only [lit, nI_ltI, h1, h2, if_false, pk_sub]
      · have := nI_pos (n := c - 48) (by omega)
        simp [this]; omega
      · intro _
        rw [if_pos (by omega)]
end CHARS2
