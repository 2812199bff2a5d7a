def adF (qT qM : Nat) (a a' : Nat → Nat) (i : Nat) : Nat := match i with
  | 0 => qT
  | 1 => a 52
  | 2 => a 0
  | 3 => a 1
  | 4 => a 2
  | 5 => a 51
  | 6 => a 57
  | 7 => a 59
  | 8 => a 55
  | 9 => a 60
  | 10 => a 3
  | 11 => a 11
  | 12 => a 19
  | 13 => a 27
  | 14 => a 35
  | 15 => a 43
  | 16 => a 4
  | 17 => a 12
  | 18 => a 20
  | 19 => a 28
  | 20 => a 36
  | 21 => a 44
  | 22 => a 5
  | 23 => a 7
  | 24 => a 9
  | 25 => a 13
  | 26 => a 15
  | 27 => a 17
  | 28 => a 21
  | 29 => a 23
  | 30 => a 25
  | 31 => a 29
  | 32 => a 31
  | 33 => a 33
  | 34 => a 37
  | 35 => a 39
  | 36 => a 41
  | 37 => a 45
  | 38 => a 47
  | 39 => a 49
  | 40 => a 6
  | 41 => a 8
  | 42 => a 10
  | 43 => a 14
  | 44 => a 16
  | 45 => a 18
  | 46 => a 22
  | 47 => a 24
  | 48 => a 26
  | 49 => a 30
  | 50 => a 32
  | 51 => a 34
  | 52 => a 38
  | 53 => a 40
  | 54 => a 42
  | 55 => a 46
  | 56 => a 48
  | 57 => a 50
  | 58 => a 61
  | 59 => a 63
  | 60 => a 53
  | 61 => a 58
  | 62 => a 62
  | 63 => a 64
  | 64 => a 54
  | 65 => a 56
  | 66 => qM
  | 67 => a' 0
  | 68 => a' 1
  | 69 => a' 2
  | 70 => a' 3
  | 71 => a' 4
  | 72 => a' 5
  | 73 => a' 6
  | 74 => a' 7
  | 75 => a' 8
  | 76 => a' 9
  | 77 => a' 10
  | _ => a' 11
def S00 : zSt := fun i k => if i = 0 ∧ k = 4 then 1 else if i = 9 ∧ k = 3 then -1 else if (10 ≤ i ∧ i < 16) ∧ k = 3 then 97 else 0
theorem at_q {D : va_G} {cl : List vw_C} {a : Nat} {cA : ClassId} {n : Nat} {f f' : Nat → Option Nat} {H : Heap} (h : va_at D cl (a, .inl (cA, n, .inr (.inr (.inr (.inr f))))) H) (hf : ∀ j, j < n → f j = f' j) : va_at D cl (a, .inl (cA, n, .inr (.inr (.inr (.inr f'))))) H := by
  have h1 : H[a]? = some (vp_cell cA (n, .inr (.inr (.inr (.inr f))))) := h
  show H[a]? = some (vp_cell cA (n, .inr (.inr (.inr (.inr f')))))
  rw [h1, vp_cell_q, vp_cell_q]
  have : (fun j : Fin n => va_rf (f j.val)) = fun j : Fin n => va_rf (f' j.val) := by
    funext j
    rw [hf j.val j.isLt]
  simp only [arrV, this]
set_option maxHeartbeats 8000000 in
set_option maxRecDepth 100000 in
theorem w_all {g : zG} {qT qM : Nat} {a a' : Nat → Nat} {H : Heap} (hg : ga g = adF qT qM a a') (hP : va_P (gD g) classes (w_TC_init g qT a ++ w_Mo_init g qM a') H) : va_P (gD g) classes (wl g S00) H := by
  intro k q hk
  have hlt : k < 79 := by
    have := (List.getElem?_eq_some_iff.mp hk).1
    simp [wl] at this
    exact this
  rw [wl_get g S00 hlt] at hk
  cases hk
  rw [hg]
  match k, hlt with
  | 0, _ => exact hP 0 _ rfl
  | 1, _ => exact hP 53 _ rfl
  | 2, _ => exact hP 1 _ rfl
  | 3, _ => exact hP 2 _ rfl
  | 4, _ => exact at_q (hP 3 _ rfl) (by intro j hj; rcases (show j = 0 ∨ j = 1 ∨ j = 2 ∨ j = 3 ∨ j = 4 ∨ j = 5 by omega) with rfl | rfl | rfl | rfl | rfl | rfl <;> rfl)
  | 5, _ => exact hP 52 _ rfl
  | 6, _ => exact hP 58 _ rfl
  | 7, _ => exact hP 60 _ rfl
  | 8, _ => exact hP 56 _ rfl
  | 9, _ => exact hP 61 _ rfl
  | 10, _ => exact hP 4 _ rfl
  | 11, _ => exact hP 12 _ rfl
  | 12, _ => exact hP 20 _ rfl
  | 13, _ => exact hP 28 _ rfl
  | 14, _ => exact hP 36 _ rfl
  | 15, _ => exact hP 44 _ rfl
  | 16, _ => exact at_q (hP 5 _ rfl) (by intro j hj; rcases (show j = 0 ∨ j = 1 ∨ j = 2 by omega) with rfl | rfl | rfl <;> rfl)
  | 17, _ => exact at_q (hP 13 _ rfl) (by intro j hj; rcases (show j = 0 ∨ j = 1 ∨ j = 2 by omega) with rfl | rfl | rfl <;> rfl)
  | 18, _ => exact at_q (hP 21 _ rfl) (by intro j hj; rcases (show j = 0 ∨ j = 1 ∨ j = 2 by omega) with rfl | rfl | rfl <;> rfl)
  | 19, _ => exact at_q (hP 29 _ rfl) (by intro j hj; rcases (show j = 0 ∨ j = 1 ∨ j = 2 by omega) with rfl | rfl | rfl <;> rfl)
  | 20, _ => exact at_q (hP 37 _ rfl) (by intro j hj; rcases (show j = 0 ∨ j = 1 ∨ j = 2 by omega) with rfl | rfl | rfl <;> rfl)
  | 21, _ => exact at_q (hP 45 _ rfl) (by intro j hj; rcases (show j = 0 ∨ j = 1 ∨ j = 2 by omega) with rfl | rfl | rfl <;> rfl)
  | 22, _ => exact hP 6 _ rfl
  | 23, _ => exact hP 8 _ rfl
  | 24, _ => exact hP 10 _ rfl
  | 25, _ => exact hP 14 _ rfl
  | 26, _ => exact hP 16 _ rfl
  | 27, _ => exact hP 18 _ rfl
  | 28, _ => exact hP 22 _ rfl
  | 29, _ => exact hP 24 _ rfl
  | 30, _ => exact hP 26 _ rfl
  | 31, _ => exact hP 30 _ rfl
  | 32, _ => exact hP 32 _ rfl
  | 33, _ => exact hP 34 _ rfl
  | 34, _ => exact hP 38 _ rfl
  | 35, _ => exact hP 40 _ rfl
  | 36, _ => exact hP 42 _ rfl
  | 37, _ => exact hP 46 _ rfl
  | 38, _ => exact hP 48 _ rfl
  | 39, _ => exact hP 50 _ rfl
  | 40, _ => exact hP 7 _ rfl
  | 41, _ => exact hP 9 _ rfl
  | 42, _ => exact hP 11 _ rfl
  | 43, _ => exact hP 15 _ rfl
  | 44, _ => exact hP 17 _ rfl
  | 45, _ => exact hP 19 _ rfl
  | 46, _ => exact hP 23 _ rfl
  | 47, _ => exact hP 25 _ rfl
  | 48, _ => exact hP 27 _ rfl
  | 49, _ => exact hP 31 _ rfl
  | 50, _ => exact hP 33 _ rfl
  | 51, _ => exact hP 35 _ rfl
  | 52, _ => exact hP 39 _ rfl
  | 53, _ => exact hP 41 _ rfl
  | 54, _ => exact hP 43 _ rfl
  | 55, _ => exact hP 47 _ rfl
  | 56, _ => exact hP 49 _ rfl
  | 57, _ => exact hP 51 _ rfl
  | 58, _ => exact hP 62 _ rfl
  | 59, _ => exact hP 64 _ rfl
  | 60, _ => exact hP 54 _ rfl
  | 61, _ => exact hP 59 _ rfl
  | 62, _ => exact hP 63 _ rfl
  | 63, _ => exact hP 65 _ rfl
  | 64, _ => exact hP 55 _ rfl
  | 65, _ => exact hP 57 _ rfl
  | 66, _ => exact hP 66 _ rfl
  | 67, _ => exact hP 67 _ rfl
  | 68, _ => exact hP 68 _ rfl
  | 69, _ => exact hP 69 _ rfl
  | 70, _ => exact hP 70 _ rfl
  | 71, _ => exact hP 71 _ rfl
  | 72, _ => exact hP 72 _ rfl
  | 73, _ => exact hP 73 _ rfl
  | 74, _ => exact hP 74 _ rfl
  | 75, _ => exact hP 75 _ rfl
  | 76, _ => exact hP 76 _ rfl
  | 77, _ => exact hP 77 _ rfl
  | 78, _ => exact hP 78 _ rfl
  | n + 79, h => exact absurd h (by omega)
theorem D_addr {A : Nat → Prop} {w w' : va_W} (h : va_D A w) (e : w.map Prod.fst = w'.map Prod.fst) : va_D A w' := by
  have key : ∀ (k : Nat) (q : Nat × va_E), w'[k]? = some q → ∃ q', w[k]? = some q' ∧ q'.1 = q.1 := by
    intro k q hk
    have h1 : (w'.map Prod.fst)[k]? = some q.1 := by rw [List.getElem?_map, hk]; rfl
    rw [← e, List.getElem?_map] at h1
    cases hw : w[k]? with
    | none => rw [hw] at h1; cases h1
    | some q' => rw [hw] at h1; exact ⟨q', rfl, Option.some.inj h1⟩
  refine ⟨fun i j x y hx hy hxy => ?_, fun k q hk => ?_⟩
  · obtain ⟨x', h1, h2⟩ := key i x hx
    obtain ⟨y', h3, h4⟩ := key j y hy
    exact h.1 i j x' y' h1 h3 (by rw [h2, h4, hxy])
  · obtain ⟨q', h1, h2⟩ := key k q hk
    rw [← h2]
    exact h.2 k q' h1
abbrev prm : List Nat := [0, 53, 1, 2, 3, 52, 58, 60, 56, 61, 4, 12, 20, 28, 36, 44, 5, 13, 21, 29, 37, 45, 6, 8, 10, 14, 16, 18, 22, 24, 26, 30, 32, 34, 38, 40, 42, 46, 48, 50, 7, 9, 11, 15, 17, 19, 23, 25, 27, 31, 33, 35, 39, 41, 43, 47, 49, 51, 62, 64, 54, 59, 63, 65, 55, 57, 66, 67, 68, 69, 70, 71, 72, 73, 74, 75, 76, 77, 78]
set_option maxHeartbeats 8000000 in
set_option maxRecDepth 100000 in
theorem d_all {g : zG} {qT qM : Nat} {a a' : Nat → Nat} (hg : ga g = adF qT qM a a') (hD : va_D (gA g) (w_TC_init g qT a ++ w_Mo_init g qM a')) : GD g := by
  intro S
  have h1 := hD.sub (ws' := prm.filterMap (fun i => (w_TC_init g qT a ++ w_Mo_init g qM a')[i]?)) prm (by decide) rfl
  refine D_addr h1 ?_
  have h2 : (wl g S).map Prod.fst = (List.range nC).map (adF qT qM a a') := by
    rw [← hg]
    simp [wl]
  rw [h2]
  rfl
