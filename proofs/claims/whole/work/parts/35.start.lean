set_option maxHeartbeats 8000000 in
set_option maxRecDepth 100000 in
/-- the law from its entry to its loop: what is left is the pure function of the law's loop -/
theorem law_start {p : Program} {e : Env} {s : State} {m : MethodId} {below : List Frame} {meth : Method} {c : Code} (l : Launch) {b L : Nat} {xs : Nat → Int32} (hpure : f_law_18 xs L fu 0 S00 = some 1) (C0 : lw_At p s m meth c b L xs) : W p l e room_1 s m #[Value.ref b] below meth c s.heap [] 0 0 (lw_Z below #[Value.ref b] s) (entryFrame m ([Value.ref b] : List Value).toArray 4) := by
  obtain ⟨hx, hb, hr, hml, hown, htb, hX, hbl, hlk, hgv⟩ := C0
  have hts : ∀ w ∈ WS, w.before #[Value.ref b] s = true := fun w hw => htb w (WS_in w hw)
  obtain ⟨dC, dI, tc, kf, vf, hall⟩ := st_all htb hgv
  obtain ⟨g, hgd⟩ : ∃ g : zG, g = (dC, dI, (fun _ => 0), tc, (fun q => s.heap.size ≤ q), kf, vf) := ⟨_, rfl⟩
  have hSt : StaC g s := by rw [hgd]; exact (hall _).2
  have hK := hSt.1
  obtain ⟨A, hAd⟩ : ∃ A : Nat → Prop, A = fun q => s.heap.size ≤ q := ⟨_, rfl⟩
  have hA : ∀ q : Nat, s.heap.size ≤ q → A q := fun q h => by rw [hAd]; exact h
  have hP : va_P (gD g) classes [] s.heap := fun k q h => by cases h
  have hD : va_D A [] := ⟨fun i j p q h => (by cases h), fun k q h => (by cases h)⟩
  have hS : va_S A s.heap s.heap [] := va_S.rf
  have hl := lv_entry ([Value.ref b]) (n := 4) (Nat.le_of_ble_eq_true rfl)
  rw [lg_entry_eq]
  generalize (lg_sl ([Value.ref b]) ++ List.replicate (4 - (lg_sl ([Value.ref b])).length) Slot.unset).toArray = ls at hl ⊢
  have hl : lv_has ls 4 [(0, .ref b)] := hl
  refine va_new (ci := 0) (fs := [.null, .null, .null, .null, .null]) (C := R_TC) (T := F_TC) (N := 5) hx hb hts kc_TC.2.1 t_TC kc_TC.2.2.1 hown (hts _ wl_c_Law_7) (hts _ win_TC) (hts _ wz_TC) hK hP hD hS hA kc_TC.1 (fun j hj => by rcases (show j = 0 ∨ j = 1 ∨ j = 2 ∨ j = 3 ∨ j = 4 by omega) with rfl | rfl | rfl | rfl | rfl <;> rfl) (Nat.le_of_ble_eq_true rfl) (Nat.le_of_ble_eq_true rfl) d_law_0 (fun qT H hP hD hS => ?_)
  have hP : va_P (gD g) classes [(qT, .inr (0, [.null, .null, .null, .null, .null]))] H := hP
  have hD : va_D A [(qT, .inr (0, [.null, .null, .null, .null, .null]))] := hD
  refine W.widen (k := 1) (n := 5) (Nat.le_of_ble_eq_true rfl) (Nat.le_of_ble_eq_true rfl) ?_
  refine lv_dup hx hb d_law_3 rfl ?_
  have hFc := va_free (wc := [(qT, .inr (0, [.null, .null, .null, .null, .null]))]) hD hS hA [0] rfl
  have hDc := hD
  have hPc := hP
  refine va_callv (va_runI (As := []) (rest := [.ref qT]) ⟨hx, hb, hml, hown, hts⟩ (n_TC_init l g qT _) (cwI 0 hts (ws_good wc_TC_init) rfl rfl rfl (hts _ wz_TC) (hts _ wm_Law_9) (hts _ wi_TC_init) rfl wd_TC_init ⟨by decide, by decide⟩) ⟨Pn_blind, fun U hU hW => ⟨rfl, by rw [hU], by rw [hU]; exact hPc, hSt.warm hW, hDc.weaken (fun _ _ _ _ => trivial)⟩⟩ rfl rfl hl.1 rfl (lv_room (Nat.le_of_ble_eq_true rfl)) d_law_4 ⟨by decide, by decide⟩) hS (fun q _ h => hFc q h) hFc (fun a t H1 locs ht hvm hw hB hz1 hk1 hS => ?_)
  obtain ⟨hP1, hD1⟩ := hB
  rw [ht] at hP1
  have hD1 : va_D A (w_TC_init g qT a) := hD1.weaken (fun k q _ h => hFc q.1 h)
  clear hP hD hPc hDc
  generalize H1 = H at hP1 hS ⊢
  refine W.widen (k := 66) (n := 2485) (Nat.le_of_ble_eq_true rfl) (Nat.le_of_ble_eq_true rfl) ?_
  refine lv_astore_n (lv' := [(1, .ref qT), (0, .ref b)]) hx hb d_law_7 rfl hl (by decide) rfl (fun ls hl => ?_)
  refine va_new (ci := 10) (fs := [.int 0, .int 0, .null, .int 0, .null, .null, .null, .null, .null, .int 0, .null, .int 0, .null, .int 0, .int 0, .int 0, .null, .int 0, .null, .null, .int 0, .int 0, .int 0, .int 0, .int 0, .int 0, .int 0, .null, .int 0, .int 0, .int 0]) (C := R_Mo) (T := F_Mo) (N := 31) hx hb hts kc_Mo.2.1 t_Mo kc_Mo.2.2.1 hown (hts _ wl_c_Law_10) (hts _ win_Mo) (hts _ wz_Mo) hK hP1 hD1 hS hA kc_Mo.1 (fun j hj => by rcases (show j = 0 ∨ j = 1 ∨ j = 2 ∨ j = 3 ∨ j = 4 ∨ j = 5 ∨ j = 6 ∨ j = 7 ∨ j = 8 ∨ j = 9 ∨ j = 10 ∨ j = 11 ∨ j = 12 ∨ j = 13 ∨ j = 14 ∨ j = 15 ∨ j = 16 ∨ j = 17 ∨ j = 18 ∨ j = 19 ∨ j = 20 ∨ j = 21 ∨ j = 22 ∨ j = 23 ∨ j = 24 ∨ j = 25 ∨ j = 26 ∨ j = 27 ∨ j = 28 ∨ j = 29 ∨ j = 30 by omega) with rfl | rfl | rfl | rfl | rfl | rfl | rfl | rfl | rfl | rfl | rfl | rfl | rfl | rfl | rfl | rfl | rfl | rfl | rfl | rfl | rfl | rfl | rfl | rfl | rfl | rfl | rfl | rfl | rfl | rfl | rfl <;> rfl) (by decide) (by decide) d_law_8 (fun qM H hP hD hS => ?_)
  refine W.widen (k := 67) (n := 2516) (Nat.le_of_ble_eq_true rfl) (Nat.le_of_ble_eq_true rfl) ?_
  refine lv_dup hx hb d_law_11 rfl ?_
  have hPc := hP.sub (ws' := [(qM, .inr (10, [.int 0, .int 0, .null, .int 0, .null, .null, .null, .null, .null, .int 0, .null, .int 0, .null, .int 0, .int 0, .int 0, .null, .int 0, .null, .null, .int 0, .int 0, .int 0, .int 0, .int 0, .int 0, .int 0, .null, .int 0, .int 0, .int 0]))]) [66] rfl
  have hDc := hD.sub (ws' := [(qM, .inr (10, [.int 0, .int 0, .null, .int 0, .null, .null, .null, .null, .null, .int 0, .null, .int 0, .null, .int 0, .int 0, .int 0, .null, .int 0, .null, .null, .int 0, .int 0, .int 0, .int 0, .int 0, .int 0, .int 0, .null, .int 0, .int 0, .int 0]))]) [66] (by decide) rfl
  have hFc := va_free (wc := [(qM, .inr (10, [.int 0, .int 0, .null, .int 0, .null, .null, .null, .null, .null, .int 0, .null, .int 0, .null, .int 0, .int 0, .int 0, .null, .int 0, .null, .null, .int 0, .int 0, .int 0, .int 0, .int 0, .int 0, .int 0, .null, .int 0, .int 0, .int 0]))]) hD hS hA [66] rfl
  refine va_callv (va_runI (As := []) (rest := [.ref qM]) ⟨hx, hb, hml, hown, hts⟩ (n_Mo_init l g qM _) (cwI 0 hts (ws_good wc_Mo_init) rfl rfl rfl (hts _ wz_Mo) (hts _ wm_Law_12) (hts _ wi_Mo_init) rfl wd_Mo_init ⟨by decide, by decide⟩) ⟨Pn_blind, fun U hU hW => ⟨rfl, by rw [hU], by rw [hU]; exact hPc, hSt.warm hW, hDc.weaken (fun _ _ _ _ => trivial)⟩⟩ rfl rfl hl.1 rfl (lv_room (Nat.le_of_ble_eq_true rfl)) d_law_12 ⟨by decide, by decide⟩) hS (fun q _ h => hFc q h) hFc (fun a' t H1 locs ht hvm hw hB hz1 hk1 hS => ?_)
  obtain ⟨hP2, hD2⟩ := hB
  rw [ht] at hP2
  obtain ⟨hP, hD⟩ := va_join (wr := w_TC_init g qT a) (w1 := w_Mo_init g qM a') hP hD [66] (List.range 66) rfl rfl (by decide) (by decide) hk1 hFc hP2 hD2
  generalize H1 = H at hP hS ⊢
  refine W.widen (k := 79) (n := 7296) (Nat.le_of_ble_eq_true rfl) (Nat.le_of_ble_eq_true rfl) ?_
  refine lv_astore_n (lv' := [(2, .ref qM), (1, .ref qT), (0, .ref b)]) hx hb d_law_15 rfl hl (by decide) rfl (fun ls hl => ?_)
  refine lv_iconst (v := 0) hx hb d_law_16 (by decide) ?_
  refine lv_istore_n (lv' := [(3, .int 0), (2, .ref qM), (1, .ref qT), (0, .ref b)]) hx hb d_law_17 rfl hl (by decide) rfl (fun ls hl => ?_)
  obtain ⟨g2, hg2⟩ : ∃ g2 : zG, g2 = (dC, dI, adF qT qM a a', tc, (fun q => s.heap.size ≤ q), kf, vf) := ⟨_, rfl⟩
  have hP : va_P (gD g2) classes (w_TC_init g2 qT a ++ w_Mo_init g2 qM a') H := by rw [hg2]; rw [hgd] at hP; exact hP
  have hD : va_D (gA g2) (w_TC_init g2 qT a ++ w_Mo_init g2 qM a') := by rw [hg2]; rw [hgd, hAd] at hD; exact hD
  have hga : ga g2 = adF qT qM a a' := by rw [hg2]
  have hgA : gA g2 = fun q => s.heap.size ≤ q := by rw [hg2]
  have hGD : GD g2 := d_all hga hD
  have hDy : Dy g2 s S00 H locs := ⟨w_all hga hP, by rw [hgA, ← hAd]; exact hS⟩
  have hSta : Sta g2 s := by rw [hg2]; exact (hall _).1
  have C : Cx p s m #[Value.ref b] meth c code R_law 4 ret g2 := ⟨hx, hb, hml, hown, hts, hSta, hGD, hr, hlk⟩
  refine law_loop C hX hbl (by rw [hgA]; exact Nat.not_le.mpr hbl) ⟨by decide, by decide⟩ (fun H locs S ls D => ?_) hGD 1 fu H locs S00 ls 0 hpure hDy ?_
  · refine va_forget (fun q hq => by have h9 := D.2.2.2 q hq; rw [hgA] at h9; exact h9) ?_
    refine W.widen (k := 600000) (n := 7302250) (by decide) (by decide) ?_
    exact lw_ret hx hb hr hlk d_law_458
  · have h0 : ga g2 0 = qT := by rw [hga]; rfl
    have h66 : ga g2 66 = qM := by rw [hga]; rfl
    rw [h0, h66]
    exact lv_sub hl [3, 2, 1, 0] rfl
