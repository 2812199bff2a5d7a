-- a character's bytes, and these as escapes, on either side
def u8 (w : Nat) : List Nat := if w < 128 then [w] else if w < 2048 then [192 + w / 64, 128 + w % 64] else if w < 65536 then [224 + w / 4096, 128 + w / 64 % 64, 128 + w % 64] else [240 + w / 262144, 128 + w / 4096 % 64, 128 + w / 64 % 64, 128 + w % 64]
def hdN (x : Nat) : Nat := if 10 ≤ x then 55 + x else 48 + x
def esc : List Nat → List Nat
  | [] => []
  | b :: l => [37, hdN (b / 16), hdN (b % 16)] ++ esc l
theorem u8_lt {w : Nat} (hw : w < 1114112) : ∀ b ∈ u8 w, b < 256 := by
  intro b hb
  unfold u8 at hb
  split at hb
  · simp at hb; omega
  · split at hb
    · simp at hb; omega
    · split at hb
      · simp at hb; omega
      · simp at hb; omega
theorem u8_len (w : Nat) : 1 ≤ (u8 w).length ∧ (u8 w).length ≤ 4 ∧ (w < 65536 → (u8 w).length ≤ 3) := by
  unfold u8
  split
  · simp
  · split
    · simp
    · split
      · simp
      · simp; omega
theorem esc_len : ∀ l, (esc l).length = 3 * l.length := by
  intro l
  induction l with
  | nil => rfl
  | cons b l ih =>
    show ([37, hdN (b / 16), hdN (b % 16)] ++ esc l).length = _
    rw [List.length_append, ih]
    simp
    omega
theorem hdN_lt {x : Nat} (h : x < 16) : hdN x < 256 := by
  unfold hdN
  split <;> omega
section UTFM
variable {as : Bool} {S : zSt}
theorem mo_hexd {x : Nat} (hx : x < 16) : Pu as S [hdN x] (f_Mo_hexadecimal (nI x) S) := by
  unfold f_Mo_hexadecimal f_Mo_hexadecimal_18
  have c : (10 ≤ nI x) ↔ 10 ≤ x := nI_leI (a := 10) (by omega) (by omega)
  have h1 := hdN_lt hx
  unfold hdN at h1 ⊢
  simp only [c]
  by_cases z : 10 ≤ x
  · rw [if_pos z] at h1
    rw [if_pos z, if_pos z, show (55 : Int32) = nI 55 from rfl, nI_add]
    exact Pu_end (Pu_put h1)
  · rw [if_neg z] at h1
    rw [if_neg z, if_neg z, show (48 : Int32) = nI 48 from rfl, nI_add]
    exact Pu_end (Pu_put h1)
def sgL (raw : Bool) (l : List Nat) : List Nat := if raw = true then l else esc l
theorem mo_single {b : Nat} (hb : b < 256) (raw : Bool) : Pu as S (sgL raw [b]) (f_Mo_single (nI b) (bI raw) S) := by
  unfold f_Mo_single sgL
  simp only [bI_0]
  cases raw with
  | true =>
    rw [if_pos rfl, if_neg (by decide)]
    exact Pu_end (Pu_put hb)
  | false =>
    rw [if_neg (by decide), if_pos rfl]
    have e1 : nI b / 16 = nI (b / 16) := pk_div (d := 16) (by omega) (by omega) (by omega)
    have e2 : nI b - nI (b / 16) * 16 = nI (b % 16) := by
      rw [← e1]
      exact pk_rem (d := 16) (by omega) (by omega) (by omega)
    rw [e1, e2]
    show Pu as S ([37] ++ ([hdN (b / 16)] ++ ([hdN (b % 16)]))) _
    refine Pu_bind (Pu_put (b := 37) (by omega)) (fun S1 f1 => ?_)
    rw [gdzN (by decide)]
    refine Pu_bind (mo_hexd (by omega)) (fun S2 f2 => ?_)
    rw [gdzN (by decide)]
    exact Pu_end (mo_hexd (by omega))
theorem sg_cons (raw : Bool) (b : Nat) (l : List Nat) : sgL raw (b :: l) = sgL raw [b] ++ sgL raw l := by
  unfold sgL
  cases raw <;> rfl
theorem mo_utf {w : Nat} (hw : w < 1114112) (raw : Bool) : Pu as S (sgL raw (u8 w)) (f_Mo_utf (nI w) (bI raw) S) := by
  unfold f_Mo_utf u8
  have c1 : (128 ≤ nI w) ↔ 128 ≤ w := nI_leI (a := 128) (by omega) (by omega)
  have c2 : (2048 ≤ nI w) ↔ 2048 ≤ w := nI_leI (a := 2048) (by omega) (by omega)
  have c3 : (65536 ≤ nI w) ↔ 65536 ≤ w := nI_leI (a := 65536) (by omega) (by omega)
  have d1 : nI w / 64 = nI (w / 64) := pk_div (d := 64) (by omega) (by omega) (by omega)
  have d2 : nI w / 4096 = nI (w / 4096) := pk_div (d := 4096) (by omega) (by omega) (by omega)
  have d3 : nI w / 262144 = nI (w / 262144) := pk_div (d := 262144) (by omega) (by omega) (by omega)
  have r1 : nI w - nI (w / 64) * 64 = nI (w % 64) := by
    rw [← d1]; exact pk_rem (d := 64) (by omega) (by omega) (by omega)
  have r2 : nI (w / 64) - nI (w / 64) / 64 * 64 = nI (w / 64 % 64) := pk_rem (d := 64) (by omega) (by omega) (by omega)
  have r3 : nI (w / 4096) - nI (w / 4096) / 64 * 64 = nI (w / 4096 % 64) := pk_rem (d := 64) (by omega) (by omega) (by omega)
  have a1 : ∀ v, (128 : Int32) + nI v = nI (128 + v) := fun v => nI_add 128 v
  have a2 : ∀ v, (192 : Int32) + nI v = nI (192 + v) := fun v => nI_add 192 v
  have a3 : ∀ v, (224 : Int32) + nI v = nI (224 + v) := fun v => nI_add 224 v
  have a4 : ∀ v, (240 : Int32) + nI v = nI (240 + v) := fun v => nI_add 240 v
  have g64 : ∀ x : Option zSt, gdz 64 x = x := fun x => gdzN (by decide)
  have g4096 : ∀ x : Option zSt, gdz 4096 x = x := fun x => gdzN (by decide)
  have g262144 : ∀ x : Option zSt, gdz 262144 x = x := fun x => gdzN (by decide)
  simp only [c1, c2, c3, d1, d2, d3, r1, r2, r3, a1, a2, a3, a4, g64, g4096, g262144]
  by_cases h1 : 128 ≤ w
  · rw [if_pos h1, if_neg (show ¬ w < 128 by omega)]
    by_cases h2 : 2048 ≤ w
    · rw [if_pos h2, if_neg (show ¬ w < 2048 by omega)]
      by_cases h3 : 65536 ≤ w
      · rw [if_pos h3, if_neg (show ¬ w < 65536 by omega), sg_cons, sg_cons raw (128 + w / 4096 % 64), sg_cons raw (128 + w / 64 % 64)]
        refine Pu_bind (mo_single (by omega) raw) (fun S1 f1 => ?_)
        refine Pu_bind (mo_single (by omega) raw) (fun S2 f2 => ?_)
        refine Pu_bind (mo_single (by omega) raw) (fun S3 f3 => ?_)
        exact Pu_end (mo_single (by omega) raw)
      · rw [if_neg h3, if_pos (show w < 65536 by omega), sg_cons, sg_cons raw (128 + w / 64 % 64)]
        refine Pu_bind (mo_single (by omega) raw) (fun S1 f1 => ?_)
        refine Pu_bind (mo_single (by omega) raw) (fun S2 f2 => ?_)
        exact Pu_end (mo_single (by omega) raw)
    · rw [if_neg h2, if_pos (show w < 2048 by omega), sg_cons]
      refine Pu_bind (mo_single (by omega) raw) (fun S1 f1 => ?_)
      exact Pu_end (mo_single (by omega) raw)
  · rw [if_neg h1, if_pos (show w < 128 by omega)]
    exact Pu_end (mo_single (by omega) raw)
end UTFM
section UTFC
variable {k : Nat} {S : zSt}
theorem cl_count {w : Nat} (hw : w < 1114112) : f_Encoder_utf8Count (nI w) S = some (nI (u8 w).length) := by
  unfold f_Encoder_utf8Count u8
  have c1 : (128 ≤ nI w) ↔ 128 ≤ w := nI_leI (a := 128) (by omega) (by omega)
  have c2 : (2048 ≤ nI w) ↔ 2048 ≤ w := nI_leI (a := 2048) (by omega) (by omega)
  have c3 : (65536 ≤ nI w) ↔ 65536 ≤ w := nI_leI (a := 65536) (by omega) (by omega)
  simp only [c1, c2, c3]
  by_cases h1 : 128 ≤ w
  · rw [if_pos h1, if_neg (show ¬ w < 128 by omega)]
    by_cases h2 : 2048 ≤ w
    · rw [if_pos h2, if_neg (show ¬ w < 2048 by omega)]
      by_cases h3 : 65536 ≤ w
      · rw [if_pos h3, if_neg (show ¬ w < 65536 by omega)]; rfl
      · rw [if_neg h3, if_pos (show w < 65536 by omega)]; rfl
    · rw [if_neg h2, if_pos (show w < 2048 by omega)]; rfl
  · rw [if_neg h1, if_pos (show w < 128 by omega)]; rfl
theorem shN_ {w : Nat} (hw : w < 1114112) {s : Int32} {j : Nat} (hs : ((s &&& 31).toBitVec.smod 32).toNat = j) : nI w >>> (s &&& 31) = nI (w / 2 ^ j) := pk_shrN (by omega) _ j hs
theorem an_63 {w : Nat} (hw : w < 1114112) : nI w &&& 63 = nI (w % 64) := pk_andN (by omega) 6 (by decide)
theorem cl_byte {w : Nat} (hw : w < 1114112) {i : Nat} (hi : i < (u8 w).length) : f_Encoder_utf8Byte (nI w) (nI i) (nI (u8 w).length) S = some (nI ((u8 w).getD i 0)) := by
  have a1 : ∀ v, (128 : Int32) + nI v = nI (128 + v) := fun v => nI_add 128 v
  have a2 : ∀ v, (192 : Int32) + nI v = nI (192 + v) := fun v => nI_add 192 v
  have a3 : ∀ v, (224 : Int32) + nI v = nI (224 + v) := fun v => nI_add 224 v
  have a4 : ∀ v, (240 : Int32) + nI v = nI (240 + v) := fun v => nI_add 240 v
  have s0 : nI w >>> (0 &&& 31 : Int32) = nI (w / 2 ^ 0) := shN_ hw (by decide)
  have s6 : nI w >>> (6 &&& 31 : Int32) = nI (w / 2 ^ 6) := shN_ hw (by decide)
  have s12 : nI w >>> (12 &&& 31 : Int32) = nI (w / 2 ^ 12) := shN_ hw (by decide)
  have s18 : nI w >>> (18 &&& 31 : Int32) = nI (w / 2 ^ 18) := shN_ hw (by decide)
  have m0 : nI (w / 2 ^ 0) &&& 63 = nI (w % 64) := by rw [Nat.pow_zero, Nat.div_one]; exact an_63 hw
  have m6 : nI (w / 2 ^ 6) &&& 63 = nI (w / 64 % 64) := an_63 (w := w / 64) (by omega)
  have m12 : nI (w / 2 ^ 12) &&& 63 = nI (w / 4096 % 64) := an_63 (w := w / 4096) (by omega)
  unfold f_Encoder_utf8Byte
  unfold u8 at hi ⊢
  split at hi
  · rename_i h1
    rw [if_pos h1]
    have : i = 0 := by simp at hi; omega
    subst this
    rw [if_pos (by decide), show nI [w].length = 1 from rfl, if_pos rfl, show (6 * (((1 : Int32) - 1) - nI 0) : Int32) = 0 from by decide, s0, Nat.pow_zero, Nat.div_one]
    rfl
  · rename_i h1
    rw [if_neg h1]
    split at hi
    · rename_i h2
      rw [if_pos h2]
      have : i = 0 ∨ i = 1 := by simp at hi; omega
      rcases this with rfl | rfl
      · rw [if_pos (by decide), show nI [192 + w / 64, 128 + w % 64].length = 2 from rfl, if_neg (by decide), if_pos (by decide), show (6 * (((2 : Int32) - 1) - nI 0) : Int32) = 6 from by decide, s6, a2]
        rfl
      · rw [if_neg (by decide), show nI [192 + w / 64, 128 + w % 64].length = 2 from rfl, show (6 * (((2 : Int32) - 1) - nI 1) : Int32) = 0 from by decide, s0, m0, a1]
        rfl
    · rename_i h2
      rw [if_neg h2]
      split at hi
      · rename_i h3
        rw [if_pos h3]
        have : i = 0 ∨ i = 1 ∨ i = 2 := by simp at hi; omega
        rcases this with rfl | rfl | rfl
        · rw [if_pos (by decide), show nI [224 + w / 4096, 128 + w / 64 % 64, 128 + w % 64].length = 3 from rfl, if_neg (by decide), if_neg (by decide), if_pos (by decide), show (6 * (((3 : Int32) - 1) - nI 0) : Int32) = 12 from by decide, s12, a3]
          rfl
        · rw [if_neg (by decide), show nI [224 + w / 4096, 128 + w / 64 % 64, 128 + w % 64].length = 3 from rfl, show (6 * (((3 : Int32) - 1) - nI 1) : Int32) = 6 from by decide, s6, m6, a1]
          rfl
        · rw [if_neg (by decide), show nI [224 + w / 4096, 128 + w / 64 % 64, 128 + w % 64].length = 3 from rfl, show (6 * (((3 : Int32) - 1) - nI 2) : Int32) = 0 from by decide, s0, m0, a1]
          rfl
      · rename_i h3
        rw [if_neg h3]
        have : i = 0 ∨ i = 1 ∨ i = 2 ∨ i = 3 := by simp at hi; omega
        rcases this with rfl | rfl | rfl | rfl
        · rw [if_pos (by decide), show nI [240 + w / 262144, 128 + w / 4096 % 64, 128 + w / 64 % 64, 128 + w % 64].length = 4 from rfl, if_neg (by decide), if_neg (by decide), if_neg (by decide), show (6 * (((4 : Int32) - 1) - nI 0) : Int32) = 18 from by decide, s18, a4]
          rfl
        · rw [if_neg (by decide), show nI [240 + w / 262144, 128 + w / 4096 % 64, 128 + w / 64 % 64, 128 + w % 64].length = 4 from rfl, show (6 * (((4 : Int32) - 1) - nI 1) : Int32) = 12 from by decide, s12, m12, a1]
          rfl
        · rw [if_neg (by decide), show nI [240 + w / 262144, 128 + w / 4096 % 64, 128 + w / 64 % 64, 128 + w % 64].length = 4 from rfl, show (6 * (((4 : Int32) - 1) - nI 2) : Int32) = 6 from by decide, s6, m6, a1]
          rfl
        · rw [if_neg (by decide), show nI [240 + w / 262144, 128 + w / 4096 % 64, 128 + w / 64 % 64, 128 + w % 64].length = 4 from rfl, show (6 * (((4 : Int32) - 1) - nI 3) : Int32) = 0 from by decide, s0, m0, a1]
          rfl
theorem cl_hexd {x : Nat} (hx : x < 16) : f_Chars_hexDigit (nI x) S = some (nI (hdN x)) := by
  unfold f_Chars_hexDigit hdN
  have c : (10 ≤ nI x) ↔ 10 ≤ x := nI_leI (a := 10) (by omega) (by omega)
  simp only [c]
  by_cases z : 10 ≤ x
  · rw [if_pos z, if_pos z, show (65 : Int32) = nI 65 from rfl, nI_add, show (10 : Int32) = nI 10 from rfl, pk_sub (by omega), show 65 + x - 10 = 55 + x by omega]
  · rw [if_neg z, if_neg z, show (48 : Int32) = nI 48 from rfl, nI_add]
theorem dr_cons {l : List Nat} {i : Nat} (h : i < l.length) : l.drop i = l.getD i 0 :: l.drop (i + 1) := by
  rw [List.drop_eq_getElem_cons h]
  congr 1
  simp [List.getD_eq_getElem?_getD, h]
theorem gd_mem {l : List Nat} {i : Nat} (h : i < l.length) : l.getD i 0 ∈ l := by
  have : l.getD i 0 = l[i] := by simp [List.getD_eq_getElem?_getD, h]
  rw [this]
  exact List.getElem_mem h
theorem cl_escb (hk : k < 4) {b : Nat} (hb : b < 256) {y : List Nat} {f : zSt → Option zSt} (hf : ∀ S', Fp k S S' → Pc k S' y (f S')) : Pc k S ([37, hdN (b / 16), hdN (b % 16)] ++ y) ((f_ByteRow_put k 37 S).bind fun u3 => ((f_Chars_hexDigit (nI b >>> (4 &&& 31)) u3).bind fun u4 => ((f_ByteRow_put k u4 u3).bind fun u5 => ((f_Chars_hexDigit (nI b &&& 15) u5).bind fun u6 => ((f_ByteRow_put k u6 u5).bind fun u7 => f u7))))) := by
  have e1 : nI b >>> (4 &&& 31 : Int32) = nI (b / 16) := pk_shrN (by omega) _ 4 (by decide)
  have e2 : nI b &&& 15 = nI (b % 16) := pk_andN (by omega) 4 (by decide)
  rw [e1, e2]
  show Pc k S ([37] ++ ([hdN (b / 16)] ++ ([hdN (b % 16)] ++ y))) _
  refine Pc_bind (Pc_put hk (b := 37) (by omega)) (fun S1 f1 => ?_)
  rw [cl_hexd (by omega)]
  simp only [Option.bind_some]
  refine Pc_bind (Pc_put hk (hdN_lt (by omega))) (fun S2 f2 => ?_)
  rw [cl_hexd (by omega)]
  simp only [Option.bind_some]
  refine Pc_bind (Pc_put hk (hdN_lt (by omega))) (fun S3 f3 => ?_)
  exact hf S3 (Fp_tr f1 (Fp_tr f2 f3))
theorem cl_esc_lp (hk : k < 4) {w : Nat} (hw : w < 1114112) : ∀ m i S, i ≤ (u8 w).length → (u8 w).length - i < m → Pc k S (esc ((u8 w).drop i)) (f_Encoder_putEscaped_7 m k (nI w) (nI (u8 w).length) (nI i) S) := by
  have hl := u8_len w
  intro m
  induction m with
  | zero => intro i S a b; omega
  | succ m ih =>
    intro i S a b
    rw [f_Encoder_putEscaped_7]
    by_cases c : (u8 w).length ≤ i
    · rw [if_pos ((nI_leI (by omega) (by omega)).mpr c), List.drop_eq_nil_of_le c]
      exact Pc_nil
    · rw [if_neg (fun z => c ((nI_leI (by omega) (by omega)).mp z)), cl_byte hw (by omega), dr_cons (by omega)]
      simp only [Option.bind_some]
      have hb := u8_lt hw _ (gd_mem (l := u8 w) (i := i) (by omega))
      refine cl_escb hk hb (fun S1 f1 => ?_)
      rw [nI_1]
      exact ih (i + 1) S1 (by omega) (by omega)
theorem cl_esc (hk : k < 4) {w : Nat} (hw : w < 1114112) : Pc k S (esc (u8 w)) (f_Encoder_putEscaped k (nI w) S) := by
  have hl := u8_len w
  unfold f_Encoder_putEscaped
  rw [cl_count hw, Option.bind_some]
  have := cl_esc_lp hk hw fu 0 S (by omega) (by unfold fu; omega)
  rw [List.drop_zero] at this
  exact this
end UTFC
