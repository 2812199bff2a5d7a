-- the class's reader as an abstract state, and what a byte does to it
abbrev zR : Type := Nat × Nat × Nat × Nat × Nat × Nat × Nat × Option Nat × Bool
abbrev zA : Type := Nat × Nat × Nat × Nat × Nat × Nat × Nat × Option Nat × Bool × Nat × (Nat → Nat) × Bool × Nat × (Nat → Nat)
def upf (f : Nat → Nat) (k v : Nat) : Nat → Nat := fun j => if j = k then v else f j
def z0 : Nat → Nat := fun _ => 0
def frS (len : Nat) (g : Nat → Nat) (cl : Option Nat) (ch : Bool) : Option (Option Nat × Bool) := match cbF g len 0 with
  | none => none
  | some k =>
    if wdS len g 0 k 16 = true then (match nuS (tat len g) (sbF g (len - (k + 1)) (k + 1)) (ebF g (sbF g (len - (k + 1)) (k + 1)) len) with
      | none => none
      | some n => if ch = false ∧ (cl = none ∨ cl = some n) then some (some n, ch) else none)
    else if wdS len g 0 k 17 = true then (if wdS len g (sbF g (len - (k + 1)) (k + 1)) (ebF g (sbF g (len - (k + 1)) (k + 1)) len) 18 = true ∧ ch = false ∧ cl = none then some (cl, true) else none)
    else some (cl, ch)
def ftS (len : Nat) (g : Nat → Nat) : Bool := match cbF g len 0 with
  | none => false
  | some k => !wdS len g 0 k 16 && !wdS len g 0 k 17
def ehA (st pl es bl sc fl tl : Nat) (cl : Option Nat) (ch : Bool) (v : Nat) : zR :=
  if 100 ≤ sc ∧ sc ≤ 199 ∧ sc ≠ 101 then (st, 0, es, bl, 0, 0, 0, none, false)
  else if sc = 101 then (3, pl, sc, bl, sc, fl, tl, cl, ch)
  else if v = 1 ∨ sc = 204 ∨ sc = 304 then (2, pl, sc, bl, sc, fl, tl, cl, ch)
  else match cl with
    | none => (1, if ch = true then 2 else 5, sc, bl, sc, fl, tl, none, ch)
    | some n => if 120 < n then (3, pl, sc, bl, sc, fl, tl, some n, ch) else (if n = 0 then 2 else 1, 4, sc, n, sc, fl, tl, some n, ch)
def rdA (st pl es bl sc fl tl : Nat) (cl : Option Nat) (ch : Bool) (len : Nat) (lf : Nat → Nat) (bs v : Nat) : zR :=
  if pl = 0 then (match fsS len lf with
    | none => (3, 1, es, bl, sc, fl, tl, cl, ch)
    | some c => (st, 1, es, bl, c, fl, tl, cl, ch))
  else if pl = 1 then (if len = 0 then ehA st pl es bl sc fl tl cl ch v
    else if fl < 8 then (match frS len lf cl ch with
      | none => (3, pl, es, bl, sc, fl, tl, cl, ch)
      | some (cl', ch') => (st, pl, es, bl, sc, fl + 1, tl, cl', ch'))
    else (3, pl, es, bl, sc, fl, tl, cl, ch))
  else if pl = 2 then (match csS len lf with
    | none => (3, pl, es, bl, sc, fl, tl, cl, ch)
    | some n => if bs + n ≤ 120 then (st, if n = 0 then 3 else 6, es, n, sc, fl, tl, cl, ch) else (3, pl, es, bl, sc, fl, tl, cl, ch))
  else if len = 0 then (2, pl, es, bl, sc, fl, tl, cl, ch)
  else if tl < 8 ∧ ftS len lf = true then (st, pl, es, bl, sc, fl, tl + 1, cl, ch) else (3, pl, es, bl, sc, fl, tl + 1, cl, ch)
def Rx (S : zSt) (r : zR) : Prop := match r with
  | (st, pl, es, bl, sc, fl, tl, cl, ch) => S 6 3 = nI st ∧ S 6 4 = nI pl ∧ S 6 5 = nI es ∧ S 6 6 = nI bl ∧ S 9 0 = nI sc ∧ S 9 1 = nI fl ∧ S 9 2 = nI tl ∧ S 9 3 = oI cl ∧ S 9 4 = bI ch
def Br (r : zR) (bs : Nat) : Prop := match r with
  | (st, pl, es, bl, sc, fl, tl, cl, ch) => st ≤ 3 ∧ pl ≤ 8 ∧ es ≤ 999 ∧ bl ≤ 120 ∧ sc ≤ 999 ∧ fl ≤ 8 ∧ tl ≤ 9 ∧ (∀ n, cl = some n → n < 10000) ∧ (ch = true → cl = none) ∧ (st < 2 → tl ≤ 8) ∧ (pl ≤ 1 → bs = 0) ∧ (st < 2 → pl = 4 ∨ pl = 6 → 0 < bl ∧ bs + bl ≤ 120)
theorem su_id {S : zSt} {i k : Nat} {v : Int32} (h : S i k = v) : su S i k v = S := by
  funext a b
  rw [su_ap]
  by_cases c : a = i ∧ b = k
  · rw [if_pos c, c.1, c.2, h]
  · rw [if_neg c]
theorem fsS_le {len : Nat} {g : Nat → Nat} {c : Nat} (h : fsS len g = some c) : 100 ≤ c ∧ c ≤ 599 := by
  unfold fsS at h
  cases hn : nuS (tat len g) 9 12 with
  | none => rw [hn] at h; cases h
  | some d =>
    rw [hn] at h
    simp only at h
    split at h
    · cases h; omega
    · cases h
theorem frS_ok {len : Nat} {g : Nat → Nat} {cl : Option Nat} {ch : Bool} (h1 : ∀ n, cl = some n → n < 10000) (h2 : ch = true → cl = none) {cl' : Option Nat} {ch' : Bool} (h : frS len g cl ch = some (cl', ch')) : (∀ n, cl' = some n → n < 10000) ∧ (ch' = true → cl' = none) := by
  unfold frS at h
  split at h
  · cases h
  · split at h
    · split at h
      · cases h
      · split at h
        · rename_i n hn hc
          cases h
          refine ⟨fun m hm => ?_, fun z => ?_⟩
          · cases hm; exact nuS_lt hn
          · rw [hc.1] at z; cases z
        · cases h
    · split at h
      · split at h
        · rename_i hc
          cases h
          exact ⟨h1, fun _ => hc.2.2⟩
        · cases h
      · cases h
        exact ⟨h1, h2⟩
theorem rdA_ok {st pl es bl sc fl tl : Nat} {cl : Option Nat} {ch : Bool} {len : Nat} {lf : Nat → Nat} {bs v : Nat} (h : Br (st, pl, es, bl, sc, fl, tl, cl, ch) bs) (hst : st < 2) (hpl : pl ≤ 3) : Br (rdA st pl es bl sc fl tl cl ch len lf bs v) bs := by
  obtain ⟨q1, q2, q3, q4, q5, q6, q7, q8, q9, q10, q11, q12⟩ := h
  unfold rdA
  split
  · split
    · exact ⟨by omega, by omega, q3, q4, q5, q6, q7, q8, q9, by omega, by omega, by omega⟩
    · rename_i c hc
      have := fsS_le hc
      exact ⟨by omega, by omega, q3, q4, by omega, q6, q7, q8, q9, q10, by omega, by omega⟩
  · split
    · split
      · unfold ehA
        split
        · exact ⟨by omega, by omega, q3, q4, by omega, by omega, by omega, (fun n hn => by cases hn), (fun _ => rfl), by omega, by omega, by omega⟩
        · split
          · exact ⟨by omega, by omega, by omega, q4, q5, q6, q7, q8, q9, by omega, by omega, by omega⟩
          · split
            · exact ⟨by omega, by omega, by omega, q4, q5, q6, q7, q8, q9, by omega, by omega, by omega⟩
            · split
              · refine ⟨by omega, by split <;> omega, by omega, q4, q5, q6, q7, (fun n hn => by cases hn), (fun _ => rfl), by omega, by omega, by cases ch <;> simp⟩
              · split
                · exact ⟨by omega, by omega, by omega, q4, q5, q6, q7, q8, q9, by omega, by omega, by omega⟩
                · exact ⟨by split <;> omega, by omega, by omega, by omega, q5, q6, q7, q8, q9, by omega, by omega, by split <;> omega⟩
      · split
        · split
          · exact ⟨by omega, by omega, q3, q4, q5, q6, q7, q8, q9, by omega, by omega, by omega⟩
          · rename_i cl' ch' hc
            obtain ⟨y1, y2⟩ := frS_ok q8 q9 hc
            exact ⟨by omega, by omega, q3, q4, q5, by omega, q7, y1, y2, by omega, by omega, by omega⟩
        · exact ⟨by omega, by omega, q3, q4, q5, q6, q7, q8, q9, by omega, by omega, by omega⟩
    · split
      · split
        · exact ⟨by omega, by omega, q3, q4, q5, q6, q7, q8, q9, by omega, by omega, by omega⟩
        · split
          · exact ⟨by omega, by split <;> omega, q3, by omega, q5, q6, q7, q8, q9, by omega, by split <;> omega, by split <;> omega⟩
          · exact ⟨by omega, by omega, q3, q4, q5, q6, q7, q8, q9, by omega, by omega, by omega⟩
      · split
        · exact ⟨by omega, by omega, q3, q4, q5, q6, q7, q8, q9, by omega, by omega, by omega⟩
        · split
          · exact ⟨by omega, by omega, q3, q4, q5, q6, by omega, q8, q9, by omega, by omega, by omega⟩
          · exact ⟨by omega, by omega, q3, q4, q5, q6, by omega, q8, q9, by omega, by omega, by omega⟩
