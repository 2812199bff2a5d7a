def nrw : List Cond := flatC (Jvm.Cond.and given_1 narrow_1)
def tmS (i : Nat) : Term := .string (LT.getD i ("", 0, "", 0)).1 (LT.getD i ("", 0, "", 0)).2.1
def isK (k : Nat) : Cond → Bool
  | .exactly _ _ => k == 0
  | .eq (.field _ _ _ _) _ => k == 1
  | .arrayOf (.field _ _ _ _) _ => k == 2
  | .eq (.length _) _ => k == 3
  | .eq (.elem _ _) _ => k == 4
  | .not _ => k == 5
  | _ => false
theorem memK {k : Nat} {l : List Cond} {x : Cond} (h : nrw.filter (isK k) = l) (hx : x ∈ l) : x ∈ nrw := by
  rw [← h] at hx
  exact (List.mem_filter.mp hx).1
set_option maxRecDepth 100000 in
theorem st_0 : nrw.filter (isK 0) = (List.range nS).map (fun i => Cond.exactly (tmS i) "java/lang/String") := by decide +kernel
set_option maxRecDepth 100000 in
theorem st_1 : nrw.filter (isK 1) = (List.range nS).map (fun i => Cond.eq (.field (tmS i) "java/lang/String" "coder" "B") (.int 0)) := by decide +kernel
set_option maxRecDepth 100000 in
theorem st_2 : nrw.filter (isK 2) = (List.range nS).map (fun i => Cond.arrayOf (.field (tmS i) "java/lang/String" "value" "[B") .byte) := by decide +kernel
set_option maxRecDepth 100000 in
theorem st_3 : nrw.filter (isK 3) = (List.range nS).map (fun i => Cond.eq (.length (.field (tmS i) "java/lang/String" "value" "[B")) (.int (Int32.ofNat (lenS.getD i 0)))) := by decide +kernel
set_option maxRecDepth 100000 in
theorem st_4 : nrw.filter (isK 4) = (List.range nS).flatMap (fun i => (List.range (lenS.getD i 0)).map (fun j => Cond.eq (.elem (.field (tmS i) "java/lang/String" "value" "[B") (.int (Int32.ofNat j))) (.int ((bytS.getD i []).getD j 0)))) := by decide +kernel
set_option maxRecDepth 100000 in
theorem st_5 : nrw.filter (isK 5) = (List.range nS).flatMap (fun j => (List.range j).map (fun i => Cond.not (Cond.eq (tmS i) (tmS j)))) := by decide +kernel
theorem st_len : ∀ i, i < nS → lenS.getD i 0 < 2 ^ 31 := by decide +kernel
set_option maxRecDepth 100000 in
theorem st_cs : Cond.eq (.static "java/lang/String" "COMPACT_STRINGS" "Z") (.int 1) ∈ nrw ∧ Cond.isRef (.static "jdk/internal/util/Preconditions" "SIOOBE_FORMATTER" "Ljava/util/function/BiFunction;") ∈ nrw := by decide +kernel
theorem LT_at : ∀ q ∈ LT, q.2.2.2 < nS ∧ tmS q.2.2.2 = .string q.1 q.2.1 := by decide +kernel
