-- the class's reader: a line that has ended
theorem Lx_su {S : zSt} {len : Nat} {g : Nat → Nat} (h : Lx S len g) {i k : Nat} {v : Int32} (h7 : i ≠ 7) (h8 : i ≠ 8) : Lx (su S i k v) len g := by
  refine ⟨h.1, ?_, fun j hj => ⟨?_, (h.2.2 j hj).2⟩⟩
  · rw [su_ne (Or.inl (fun z => h7 z.symm))]; exact h.2.1
  · rw [su_ne (Or.inl (fun z => h8 z.symm))]; exact (h.2.2 j hj).1
theorem lit_len : (bytS.getD 16 []).length = 14 ∧ (bytS.getD 17 []).length = 17 ∧ (bytS.getD 18 []).length = 7 ∧ (bytS.getD 15 []).length = 9 := by decide +kernel
theorem oI_m1 {o : Option Nat} (h : ∀ n, o = some n → n < 10000) : (oI o = -1) ↔ o = none := by
  cases o with
  | none => simp [oI]
  | some k =>
    have hk := h k rfl
    simp [oI]
    intro e
    have := nI_pos' (n := k) (by omega)
    rw [e] at this
    exact absurd this (by decide)
theorem oI_neg0 {o : Option Nat} (h : ∀ n, o = some n → n < 10000) : (oI o < 0) ↔ o = none := by
  cases o with
  | none => simp [oI]
  | some k =>
    have hk := h k rfl
    simp [oI]
    exact nI_pos' (n := k) (by omega)
theorem oI_eqN {o : Option Nat} {k : Nat} (h : ∀ j, o = some j → j < 10000) (hk : k < 10000) : (oI o = nI k) ↔ o = some k := by
  cases o with
  | none =>
    simp [oI]
    intro e
    have := nI_pos' (n := k) (by omega)
    rw [← e] at this
    exact absurd this (by decide)
  | some j =>
    simp [oI]
    exact nI_eq (by have := h j rfl; omega) (by omega)
def sclF (S : zSt) (cl : Option Nat) (ch : Bool) (o : Option Nat) : Option (Int32 × zSt) := match o with
    | none => some (0, S)
    | some n => if ch = false ∧ (cl = none ∨ cl = some n) then some (1, su S 9 3 (nI n)) else some (0, S)
section HD
variable {S : zSt} {len : Nat} {g : Nat → Nat}
theorem hd_setcl {cl : Option Nat} {ch : Bool} (e3 : S 9 3 = oI cl) (e4 : S 9 4 = bI ch) (hcl : ∀ n, cl = some n → n < 10000) (o : Option Nat) (ho : ∀ n, o = some n → n < 10000) : f_Head_setContentLength (oI o) S = sclF S cl ch o := by
  unfold f_Head_setContentLength f_Head_setContentLength_29 sq sclF
  simp only [oI_neg0 ho, e3, e4, bI_0, oI_m1 hcl, gdb_0, gdb_1]
  cases o with
  | none => simp
  | some n =>
    have hn := ho n rfl
    have z : oI (some n) = nI n := rfl
    simp only [z, oI_eqN hcl hn]
    cases ch with
    | true => simp
    | false =>
      by_cases y1 : cl = none
      · simp [y1]
      · by_cases y2 : cl = some n <;> simp [y1, y2]
theorem hd_field (h : Lx S len g) {fl : Nat} {cl : Option Nat} {ch : Bool} (e1 : S 9 1 = nI fl) (hfl : fl ≤ 8) (e3 : S 9 3 = oI cl) (e4 : S 9 4 = bI ch) (hcl : ∀ n, cl = some n → n < 10000) :
    f_Head_readField S = if fl < 8 then (match frS len g cl ch with
      | none => some ((0 : Int32), S)
      | some (cl', ch') => some ((1 : Int32), su (su (su S 9 3 (oI cl')) 9 4 (bI ch')) 9 1 (nI (fl + 1)))) else some ((0 : Int32), S) := by
  have hlen := h.1
  have c8 : (nI fl < 8) ↔ fl < 8 := nI_ltI (b := 8) (by omega) (by omega)
  unfold f_Head_readField f_Head_readField_99 f_Head_readField_100
  rw [ln_colon0 h]
  unfold frS
  cases hk : cbF g len 0 with
  | none =>
    have z : oI none < 0 := by decide
    simp only [Option.bind_some, z, if_true, gdb_0]
    simp
  | some k =>
    have hkb := cbF_bd _ _ _ _ hk
    have z : ¬ oI (some k) < 0 := nI_pos (n := k) (by omega)
    have eo : oI (some k) = nI k := rfl
    simp only [Option.bind_some, z, if_false, e1, c8, gdb_0]
    by_cases y : fl < 8
    · have w16 := ln_word0 h (q := 16) (f := 0) (e := k) (by decide) (by omega) (by omega)
      have w17 := ln_word0 h (q := 17) (f := 0) (e := k) (by decide) (by omega) (by omega)
      rw [show nI 0 = 0 from rfl] at w16 w17
      change f_Line_isWord 0 (nI k) 16 S = some (bI (wdS len g 0 k 16)) at w16
      change f_Line_isWord 0 (nI k) 17 S = some (bI (wdS len g 0 k 17)) at w17
      have hsb := sbF_bd g (len - (k + 1)) (k + 1)
      rw [if_pos y, if_pos y, eo, nI_1, ln_skip0 h (i := k + 1) (by omega)]
      simp only [Option.bind_some]
      generalize sbF g (len - (k + 1)) (k + 1) = f at hsb ⊢
      have hfl2 : f ≤ len := by omega
      have heb := ebF_bd g f len hfl2
      rw [ln_eb0 h hfl2]
      simp only [Option.bind_some]
      generalize ebF g f len = e at heb ⊢
      have w18 := ln_word0 h (q := 18) (f := f) (e := e) (by decide) (by omega) (by omega)
      change f_Line_isWord (nI f) (nI e) 18 S = some (bI (wdS len g f e 18)) at w18
      rw [w16]
      simp only [Option.bind_some, bI_0]
      have i4 : su S 9 4 (bI ch) = S := su_id e4
      have i3 : su S 9 3 (oI cl) = S := su_id e3
      cases hw : wdS len g 0 k 16 with
      | true =>
        simp only [if_true, Bool.true_eq_false, if_false]
        rw [ln_num0 h (f := f) (e := e) (by omega) (by omega)]
        simp only [Option.bind_some]
        have hn : ∀ n, nuS (tat len g) f e = some n → n < 10000 := fun n hh => nuS_lt hh
        rw [hd_setcl e3 e4 hcl _ hn]
        unfold sclF
        cases hnn : nuS (tat len g) f e with
        | none => simp [f_Head_readField_102, gdb_0]
        | some n =>
          simp only
          by_cases y2 : ch = false ∧ (cl = none ∨ cl = some n)
          · rw [if_pos y2, if_pos y2]
            have i5 : su (su S 9 3 (nI n)) 9 4 (bI ch) = su S 9 3 (nI n) := su_id (by rw [su_ne (by omega)]; exact e4)
            have z3 : oI (some n) = nI n := rfl
            simp only [Option.bind_some, f_Head_readField_102, sq, gdb_1, z3, i5]
            rw [if_neg (by decide), su_ne (by omega), e1, nI_1]
          · rw [if_neg y2, if_neg y2]
            simp [f_Head_readField_102, gdb_0]
      | false =>
        simp only [if_true, Bool.false_eq_true, if_false]
        rw [w17]
        simp only [Option.bind_some, bI_0]
        cases hw2 : wdS len g 0 k 17 with
        | false =>
          simp only [if_true, Bool.false_eq_true, if_false, f_Head_readField_102, sq, gdb_1, i3, i4]
          rw [if_neg (by decide), e1, nI_1]
        | true =>
          simp only [if_true, Bool.true_eq_false, if_false]
          rw [w18]
          simp only [Option.bind_some, bI_0]
          cases hw3 : wdS len g f e 18 with
          | false => simp [f_Head_readField_102, gdb_0]
          | true =>
            unfold f_Head_setChunked sq
            simp only [e3, e4, bI_0, oI_m1 hcl, gdb_0, gdb_1]
            cases ch with
            | true => simp [f_Head_readField_102, gdb_0]
            | false =>
              by_cases y2 : cl = none
              · subst y2
                have z1 : ¬ (1 : Int32) = 0 := by decide
                have z2 : bI true = 1 := rfl
                have i6 : su S 9 3 (-1) = S := su_id e3
                have i7 : oI none = -1 := rfl
                simp [f_Head_readField_102, sq, gdb_1, su_ne, e1, nI_1, z2, i6, i7]
              · simp [y2, f_Head_readField_102, gdb_0]
    · rw [if_neg y, if_neg y]
theorem hd_trail (h : Lx S len g) {tl : Nat} (e2 : S 9 2 = nI tl) (htl : tl ≤ 8) : f_Head_readTrailing S = some (bI (decide (tl < 8) && ftS len g), su S 9 2 (nI (tl + 1))) := by
  have hlen := h.1
  have h2 : Lx (su S 9 2 (nI (tl + 1))) len g := Lx_su h (by decide) (by decide)
  have c8 : (8 < nI (tl + 1)) ↔ 8 < tl + 1 := nI_ltI (a := 8) (by omega) (by omega)
  unfold f_Head_readTrailing f_Head_readTrailing_54 sq
  rw [ln_colon0 h]
  simp only [Option.bind_some, e2, nI_1, su_eq, c8, gdb_0, gdb_1]
  unfold ftS
  cases hk : cbF g len 0 with
  | none =>
    have z : oI none < 0 := by decide
    simp only [z, if_true]
    simp [bI]
  | some k =>
    have hkb := cbF_bd _ _ _ _ hk
    have z : ¬ nI k < 0 := nI_pos (n := k) (by omega)
    have eo : oI (some k) = nI k := rfl
    simp only [eo, z, if_false]
    by_cases y : 8 < tl + 1
    · have y2 : ¬ tl < 8 := by omega
      simp [y, y2, bI]
    · have y2 : tl < 8 := by omega
      have w16 := ln_word0 h2 (q := 16) (f := 0) (e := k) (by decide) (by omega) (by omega)
      have w17 := ln_word0 h2 (q := 17) (f := 0) (e := k) (by decide) (by omega) (by omega)
      rw [show nI 0 = 0 from rfl] at w16 w17
      change f_Line_isWord 0 (nI k) 16 _ = some (bI (wdS len g 0 k 16)) at w16
      change f_Line_isWord 0 (nI k) 17 _ = some (bI (wdS len g 0 k 17)) at w17
      rw [if_neg y, w16]
      simp only [Option.bind_some, w17, bI_0, y2]
      cases wdS len g 0 k 16 <;> cases wdS len g 0 k 17 <;> simp [bI]
end HD
