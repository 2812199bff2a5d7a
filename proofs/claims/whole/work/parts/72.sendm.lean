-- send: the reference's side, and both
section SMO
variable {n c : Nat} {t kd lt ct il : Nat → Nat} {ic : Nat → Nat → Nat}
theorem mo_target {S : zSt} (h : Ro S n c t kd lt ct il ic) (hw : rn t n 0 0 = 0) : Pe S (tqL n c t kd lt ct il ic) (f_Mo_target S) := by
  have hn := h.1.1
  intro l b hl hb
  unfold f_Mo_target sq
  rw [gdb_0]
  have hW : Wp false (su S 66 13 0) l false := ⟨by rw [su_ne (by omega)]; exact hl.1, by rw [su_ne (by omega)]; exact hl.2.1, fun j a d => by rw [su_ne (by omega)]; exact hl.2.2.1 j a d, by rw [su_eq]; simp⟩
  have hR : Ro (su S 66 13 0) n c t kd lt ct il ic := Ro_gen h (fun i k hh => su_ne (by omega))
  obtain ⟨S', e1, w1, f1⟩ := mo_tgt_lp (dgH_of hw) fu 0 false _ hR (by omega) (by unfold fu; omega) (by rw [Nat.sub_zero]; exact hw) l hW hb
  refine ⟨S', _, e1, w1, fun i k a d => ?_⟩
  rw [f1 i k a d, su_ne (by omega)]
theorem mo_copy {bd : List Nat} (hbd : ∀ x ∈ bd, x < 256) (hlen : bd.length ≤ 1400) : ∀ m i l b S, S 66 15 = nI bd.length → (∀ j, j < bd.length → S 75 j = nI (bd.getD j 0)) → i ≤ bd.length → bd.length - i < m → Wp false S l b → l.length + (bd.length - i) ≤ 100000 → ∃ S' b', f_Mo_send_183 m (nI i) S = (if (S' 66 11) ≤ 1000 then (f_Mo_send_222 fu 0 S') else (some ((-10), S'))) ∧ Wp false S' (l ++ bd.drop i) b' ∧ Fo false S S' := by
  intro m
  induction m with
  | zero => intro i l b S h1 h2 h3 h4; omega
  | succ m ih =>
    intro i l b S h1 h2 h3 h4 hl hb
    rw [f_Mo_send_183, h1]
    by_cases z : bd.length ≤ i
    · rw [if_pos ((nI_leI (by omega) (by omega)).mpr z)]
      refine ⟨S, b, rfl, ?_, Fo_rf⟩
      rw [List.drop_eq_nil_of_le z, List.append_nil]
      exact hl
    · rw [if_neg (fun y => z ((nI_leI (by omega) (by omega)).mp y)), gdiN (by omega) (by omega), nI_clamp (by omega), h2 i (by omega)]
      obtain ⟨S1, e1, w1, f1⟩ := Pu_put (as := false) (S := S) (hbd _ (gd_mem (l := bd) (i := i) (by omega))) l b hl (by show l.length + 1 ≤ 100000; omega)
      rw [e1]
      simp only [Option.bind_some]
      rw [nI_1]
      have f1' : ∀ i k, i ≠ 74 → (i ≠ 66 ∨ (k ≠ 11 ∧ k ≠ 13)) → S1 i k = S i k := f1
      obtain ⟨S', b', e2, w2, f2⟩ := ih (i + 1) (l ++ [bd.getD i 0]) _ S1 (by rw [f1' _ _ (by omega) (by omega)]; exact h1) (fun j hj => by rw [f1' _ _ (by omega) (by omega)]; exact h2 j hj) (by omega) (by omega) w1 (by
        rw [List.length_append]
        simp
        have := f1'
        omega)
      refine ⟨S', b', e2, ?_, Fo_tr f1 f2⟩
      rw [dr_cons (by omega)]
      rw [List.append_assoc] at w2
      exact w2
theorem mo_222 {N : Nat} (hN : N ≤ 1000) : ∀ m i S, S 66 11 = nI N → i ≤ N → N - i < m → (∀ j, j < i → S 73 j = S 74 j) → ∃ S', f_Mo_send_222 m (nI i) S = some (nI N, S') ∧ S' 66 9 = nI N ∧ (∀ j, j < N → S' 73 j = S 74 j) ∧ ∀ a b, a ≠ 73 → (a ≠ 66 ∨ b ≠ 9) → S' a b = S a b := by
  intro m
  induction m with
  | zero => intro i S h1 h2 h3; omega
  | succ m ih =>
    intro i S h1 h2 h3 h4
    rw [f_Mo_send_222, h1]
    by_cases z : N ≤ i
    · rw [if_pos ((nI_leI (by omega) (by omega)).mpr z)]
      unfold sq
      dsimp only
      rw [su_eq]
      refine ⟨_, rfl, su_eq, fun j hj => ?_, fun a b p q => su_ne (by omega)⟩
      rw [su_ne (by omega)]
      exact h4 j (by omega)
    · rw [if_neg (fun y => z ((nI_leI (by omega) (by omega)).mp y)), gdiN (by omega) (by omega), gdiN (by omega) (by omega), nI_clamp (by omega)]
      unfold sq
      dsimp only
      rw [nI_1]
      obtain ⟨S', e1, e2, e3, e4⟩ := ih (i + 1) (su S 73 i (S 74 i)) (by rw [su_ne (by omega)]; exact h1) (by omega) (by omega) (fun j hj => by
        rw [su_ap, su_ne (by omega)]
        by_cases y : j = i
        · rw [if_pos ⟨rfl, y⟩, y]
        · rw [if_neg (fun w => y w.2)]; exact h4 j (by omega))
      refine ⟨S', e1, e2, fun j hj => ?_, fun a b p q => ?_⟩
      · rw [e3 j hj, su_ne (by omega)]
      · rw [e4 a b p q, su_ne (by omega)]
theorem li_eq : liL 9 = [32] ++ ([72, 84, 84, 80, 47, 49, 46, 49] ++ ([13, 10] ++ ([104, 111, 115, 116, 58, 32, 104] ++ [13, 10]))) ∧ liL 14 = [99, 111, 110, 116, 101, 110, 116, 45] ++ [108, 101, 110, 103, 116, 104, 58, 32] ∧ liL 2 = [72, 69, 65, 68] ∧ liL 3 = [80, 79, 83, 84] ∧ liL 4 = [80, 85, 84] ∧ liL 5 = [68, 69, 76, 69, 84, 69] ∧ liL 6 = [71, 69, 84] := by decide +kernel
/-- what the reference makes: the answer and the row -/
theorem mo_send90 {S : zSt} (h : Ro S n c t kd lt ct il ic) (hw : rn t n 0 0 = 0) {v : Nat} (hv : v ≤ 4) (ev : S 66 0 = nI v) {wd : Int64} (hwd : wd = lN (encN (liL (vbN v)))) (hB : Bw S (boL c kd lt ct il ic)) (h11 : S 66 11 = 0) (hbd : ∀ x ∈ boL c kd lt ct il ic, x < 256) : ∃ S' b', f_Mo_send_90 wd S = (if (S' 66 11) ≤ 1000 then (f_Mo_send_222 fu 0 S') else (some ((-10), S'))) ∧ Wp false S' (rqL n c t kd lt ct il ic v) b' ∧ Fo false S S' := by
  obtain ⟨len1, len2, len3⟩ := rq_len h v
  obtain ⟨l9, l14, l2, l3, l4, l5, l6⟩ := li_eq
  obtain ⟨l10, l11, l12, l13⟩ := li_10
  have hc := h.2.1.1
  have dv : (∀ d ∈ liL (vbN v), 0 < d ∧ d < 128) ∧ encN (liL (vbN v)) < 2 ^ 64 ∧ (liL (vbN v)).length < 20 := by
    have q2 : (∀ d ∈ liL 2, 0 < d ∧ d < 128) ∧ encN (liL 2) < 2 ^ 64 ∧ (liL 2).length < 20 := by decide +kernel
    have q3 : (∀ d ∈ liL 3, 0 < d ∧ d < 128) ∧ encN (liL 3) < 2 ^ 64 ∧ (liL 3).length < 20 := by decide +kernel
    have q4 : (∀ d ∈ liL 4, 0 < d ∧ d < 128) ∧ encN (liL 4) < 2 ^ 64 ∧ (liL 4).length < 20 := by decide +kernel
    have q5 : (∀ d ∈ liL 5, 0 < d ∧ d < 128) ∧ encN (liL 5) < 2 ^ 64 ∧ (liL 5).length < 20 := by decide +kernel
    have q6 : (∀ d ∈ liL 6, 0 < d ∧ d < 128) ∧ encN (liL 6) < 2 ^ 64 ∧ (liL 6).length < 20 := by decide +kernel
    unfold vbN
    split
    · exact q2
    · split
      · exact q3
      · split
        · exact q4
        · split
          · exact q5
          · exact q6
  -- up to the headers
  have pre : Pe S (hdL n c t kd lt ct il ic v) ((f_Mo_spell wd S).bind fun u5 => ((f_Mo_put 32 u5).bind fun u6 => ((f_Mo_target u6).bind fun u7 => ((f_Mo_put 32 u7).bind fun u8 => ((f_Mo_spell (3543824036068086856 : Int64) u8).bind fun u9 => ((f_Mo_end u9).bind fun u10 => ((f_Mo_spell (29308833011822440 : Int64) u10).bind fun u11 => ((f_Mo_end u11).bind fun u12 => (f_Mo_headers u12))))))))) := by
    unfold hdL
    refine Pe_bind (Pe_pu (mo_spell hwd dv.1 dv.2.1 dv.2.2)) (fun S1 f1 => ?_)
    have h1 := Ro_fo h f1
    refine Pe_bind (Pe_pu (Pu_put (b := 32) (by omega))) (fun S2 f2 => ?_)
    have h2 := Ro_fo h1 f2
    refine Pe_bind (mo_target h2 hw) (fun S3 f3 => ?_)
    have h3 := Ro_fo h2 f3
    rw [l9]
    simp only [List.append_assoc]
    refine Pe_bind (Pe_pu (Pu_put (b := 32) (by omega))) (fun S4 f4 => ?_)
    have h4 := Ro_fo h3 f4
    refine Pe_bind (Pe_pu (mo_spell (ds := [72, 84, 84, 80, 47, 49, 46, 49]) (by decide +kernel) (by decide) (by decide) (by decide))) (fun S5 f5 => ?_)
    have h5 := Ro_fo h4 f5
    refine Pe_bind (Pe_pu mo_end) (fun S6 f6 => ?_)
    have h6 := Ro_fo h5 f6
    refine Pe_bind (Pe_pu (mo_spell (ds := [104, 111, 115, 116, 58, 32, 104]) (by decide +kernel) (by decide) (by decide) (by decide))) (fun S7 f7 => ?_)
    have h7 := Ro_fo h6 f7
    refine Pe_bind (Pe_pu mo_end) (fun S8 f8 => ?_)
    have h8 := Ro_fo h7 f8
    exact Pe_pu (mo_ho 6 fu 0 S8 h8 (by omega) (by omega) (by unfold fu; omega))
  have hb0 : ∃ b0 : Bool, (S 66 13 = 0) ↔ b0 = false := ⟨decide (S 66 13 ≠ 0), by simp⟩
  obtain ⟨b0, hb0⟩ := hb0
  have W0 : Wp false S [] b0 := ⟨hB.1, by rw [h11]; rfl, fun j hj => absurd hj (Nat.not_lt_zero j), hb0⟩
  obtain ⟨S9, b9, e9, w9, f9⟩ := pre [] b0 W0 (by rw [List.length_nil]; omega)
  rw [List.nil_append] at w9
  have g9 : ∀ i k, i ≠ 74 → (i ≠ 66 ∨ (k ≠ 11 ∧ k ≠ 13)) → S9 i k = S i k := f9
  -- the rest
  have fin177 : ∀ l b S', Wp false S' l b → Fo false S9 S' → l.length ≤ 45000 → ∃ S2 b2, f_Mo_send_177 S' = (if (S2 66 11) ≤ 1000 then (f_Mo_send_222 fu 0 S2) else (some ((-10), S2))) ∧ Wp false S2 (l ++ (liL 13 ++ boL c kd lt ct il ic)) b2 ∧ Fo false S' S2 := by
    intro l b S' hl f1 hlen
    unfold f_Mo_send_177
    obtain ⟨S1, e1, w1, f2⟩ := mo_end (as := false) (S := S') l b hl (by show l.length + 2 ≤ 100000; omega)
    have g1 : ∀ i k, i ≠ 74 → (i ≠ 66 ∨ (k ≠ 11 ∧ k ≠ 13)) → S1 i k = S i k := fun i k a d => ((Fo_tr f9 (Fo_tr f1 f2)) : Fo false S S1) i k a d
    obtain ⟨S2, b2, e2, w2, f3⟩ := mo_copy hbd (by omega) fu 0 (l ++ [13, 10]) _ S1 (by rw [g1 _ _ (by omega) (by omega)]; exact hB.2.1) (fun j hj => by rw [g1 _ _ (by omega) (by omega)]; exact hB.2.2 j hj) (by omega) (by unfold fu; omega) w1 (by rw [List.length_append]; simp; omega)
    rw [e1]
    simp only [Option.bind_some]
    refine ⟨S2, b2, e2, ?_, Fo_tr f2 f3⟩
    rw [List.drop_zero, List.append_assoc] at w2
    rw [l13]
    exact w2
  have chain : ∀ (g : zSt → Option (Int32 × zSt)), ((f_Mo_spell wd S).bind fun u5 => ((f_Mo_put 32 u5).bind fun u6 => ((f_Mo_target u6).bind fun u7 => ((f_Mo_put 32 u7).bind fun u8 => ((f_Mo_spell (3543824036068086856 : Int64) u8).bind fun u9 => ((f_Mo_end u9).bind fun u10 => ((f_Mo_spell (29308833011822440 : Int64) u10).bind fun u11 => ((f_Mo_end u11).bind fun u12 => ((f_Mo_headers u12).bind g))))))))) = g S9 := by
    intro g
    have e' : ((f_Mo_spell wd S).bind fun u5 => ((f_Mo_put 32 u5).bind fun u6 => ((f_Mo_target u6).bind fun u7 => ((f_Mo_put 32 u7).bind fun u8 => ((f_Mo_spell (3543824036068086856 : Int64) u8).bind fun u9 => ((f_Mo_end u9).bind fun u10 => ((f_Mo_spell (29308833011822440 : Int64) u10).bind fun u11 => ((f_Mo_end u11).bind fun u12 => (f_Mo_headers u12))))))))).bind g = g S9 := by rw [e9]; rfl
    rw [← e']
    simp only [Option.bind_assoc]
  unfold f_Mo_send_90
  rw [chain]
  have e0 : S9 66 0 = nI v := by rw [g9 _ _ (by omega) (by omega)]; exact ev
  have c2 : (nI v = 2) ↔ v = 2 := nI_eq (b := 2) (by omega) (by omega)
  have c3 : (nI v = 3) ↔ v = 3 := nI_eq (b := 3) (by omega) (by omega)
  rw [e0]
  simp only [c2, c3]
  have big : v = 2 ∨ v = 3 → ∃ S' b', f_Mo_send_151 S9 = (if (S' 66 11) ≤ 1000 then (f_Mo_send_222 fu 0 S') else (some ((-10), S'))) ∧ Wp false S' (rqL n c t kd lt ct il ic v) b' ∧ Fo false S S' := by
    intro hvc
    have e15 : ∀ S', Fo false S9 S' → S' 66 15 = nI (boL c kd lt ct il ic).length := by
      intro S' f1
      have : S' 66 15 = S 66 15 := ((Fo_tr f9 f1) : Fo false S S') 66 15 (by omega) (by omega)
      rw [this]; exact hB.2.1
    have mid : Pe S9 (clL c kd lt ct il ic v) ((f_Mo_spell (3275364211029340003 : Int64) S9).bind fun u14 => ((f_Mo_spell (2322283407023695212 : Int64) u14).bind fun u15 => ((f_Mo_number (u15 66 15) u15).bind fun u16 => (f_Mo_end u16)))) := by
      unfold clL
      rw [if_pos hvc, l14, l13, List.append_assoc]
      refine Pe_bind (Pe_pu (mo_spell (ds := [99, 111, 110, 116, 101, 110, 116, 45]) (by decide +kernel) (by decide) (by decide) (by decide))) (fun S1 f1 => ?_)
      refine Pe_bind (Pe_pu (mo_spell (ds := [108, 101, 110, 103, 116, 104, 58, 32]) (by decide +kernel) (by decide) (by decide) (by decide))) (fun S2 f2 => ?_)
      rw [e15 S2 (Fo_tr f1 f2)]
      refine Pe_bind (Pe_pu (mo_num (by omega))) (fun S3 f3 => ?_)
      exact Pe_pu mo_end
    have lcl : (clL c kd lt ct il ic v).length ≤ 300 := by
      have a7 := li_le 13 (by decide)
      have a8 := li_le 14 (by decide)
      have a9 : (dcL (boL c kd lt ct il ic).length).length ≤ 4 := by
        unfold dcL
        split <;> split <;> split <;> simp
      unfold clL
      rw [if_pos hvc]
      simp only [List.length_append]
      omega
    obtain ⟨S10, b10, e10, w10, f10⟩ := mid _ b9 w9 (by omega)
    obtain ⟨S2, b2, e2, w2, f2⟩ := fin177 _ b10 S10 w10 f10 (by rw [List.length_append]; omega)
    refine ⟨S2, b2, ?_, ?_, Fo_tr f9 (Fo_tr f10 f2)⟩
    · unfold f_Mo_send_151
      have e' : ((f_Mo_spell (3275364211029340003 : Int64) S9).bind fun u14 => ((f_Mo_spell (2322283407023695212 : Int64) u14).bind fun u15 => ((f_Mo_number (u15 66 15) u15).bind fun u16 => (f_Mo_end u16)))).bind (fun u17 => f_Mo_send_177 u17) = f_Mo_send_177 S10 := by rw [e10]; rfl
      rw [← e2, ← e']
      simp only [Option.bind_assoc]
    · unfold rqL
      rw [List.append_assoc] at w2
      exact w2
  by_cases y2 : v = 2
  · rw [if_pos y2]
    exact big (Or.inl y2)
  · rw [if_neg y2]
    by_cases y3 : v = 3
    · rw [if_pos y3]
      exact big (Or.inr y3)
    · rw [if_neg y3]
      obtain ⟨S2, b2, e2, w2, f2⟩ := fin177 _ b9 S9 w9 Fo_rf (by omega)
      refine ⟨S2, b2, e2, ?_, Fo_tr f9 f2⟩
      unfold rqL clL
      rw [if_neg (by omega), List.nil_append]
      exact w2
end SMO
section OPS
variable {n c : Nat} {t kd lt : Nat → Nat}
theorem cF_0 {w : Nat} : ∀ m i, cF kd w m i = 0 → ∀ k, i ≤ k → k < i + m → kd k ≠ w := by
  intro m
  induction m with
  | zero => intro i h k a b; omega
  | succ m ih =>
    intro i h k a b
    rw [cF_s] at h
    by_cases y : k = i
    · intro z
      rw [y] at z
      rw [if_pos z] at h
      omega
    · exact ih (i + 1) (by omega) k (by omega) (by omega)
theorem ck_kinds {S : zSt} (hP : Px S c kd lt) : f_Mo_kinds 5 S = some (nI (cF kd 5 c 0)) ∧ f_Mo_kinds 4 S = some (nI (cF kd 4 c 0)) := by
  have hc := hP.1
  constructor
  · have := mki_loop hP (w := 5) (by omega) fu 0 0 (by omega) (by unfold fu; omega)
    rw [Nat.zero_add] at this
    exact this
  · have := mki_loop hP (w := 4) (by omega) fu 0 0 (by omega) (by unfold fu; omega)
    rw [Nat.zero_add] at this
    exact this
theorem ck_same {S S' : zSt} (hT : Tx S n t) (hP : Px S c kd lt) (hT' : Tx S' n t) (hP' : Px S' c kd lt) (e0 : S' 66 0 = S 66 0) : f_Mo_check S' = f_Mo_check S := by
  obtain ⟨m5, m4⟩ := ck_kinds hP
  obtain ⟨m5', m4'⟩ := ck_kinds hP'
  unfold f_Mo_check f_Mo_check_77 f_Mo_check_104
  rw [wf_mo hT, wf_mo hT', un_mo hT hP, un_mo hT' hP', tw_mo hP, tw_mo hP', us_mo hT hP, us_mo hT' hP', cl_mo hT hP, cl_mo hT' hP', m5, m4, m5', m4', e0]
theorem ck_zero {S : zSt} (hT : Tx S n t) (hP : Px S c kd lt) (h : f_Mo_check S = some 0) : rn t n 0 0 = 0 ∧ ((∀ k, k < c → kd k ≠ 4) ∨ (∀ k, k < c → kd k ≠ 5)) := by
  obtain ⟨m5, m4⟩ := ck_kinds hP
  have hc := hP.1
  have l5 := cF_le kd 5 c 0
  have l4 := cF_le kd 4 c 0
  unfold f_Mo_check at h
  rw [wf_mo hT, un_mo hT hP, tw_mo hP, us_mo hT hP, cl_mo hT hP, m5, m4] at h
  simp only [Option.bind_some, bI_0] at h
  have c1 : (1 < nI (cF kd 5 c 0)) ↔ 1 < cF kd 5 c 0 := nI_ltI (a := 1) (by omega) (by omega)
  have c2 : (nI (cF kd 5 c 0) ≤ 0) ↔ cF kd 5 c 0 ≤ 0 := nI_leI (b := 0) (by omega) (by omega)
  have c3 : (nI (cF kd 4 c 0) ≤ 0) ↔ cF kd 4 c 0 ≤ 0 := nI_leI (b := 0) (by omega) (by omega)
  simp only [c1, c2, c3] at h
  have n1 : ¬ (some (-1 : Int32) = some 0) := by decide
  have n2 : ¬ (some (-2 : Int32) = some 0) := by decide
  have n3 : ¬ (some (-3 : Int32) = some 0) := by decide
  have n4 : ¬ (some (-4 : Int32) = some 0) := by decide
  have n5 : ¬ (some (-5 : Int32) = some 0) := by decide
  have n6 : ¬ (some (-6 : Int32) = some 0) := by decide
  by_cases w1 : (decide (tat n t 0 = 47) && (rn t n 0 0 == 0)) = false
  · rw [if_pos w1] at h; exact absurd h n1
  rw [if_neg w1] at h
  have hr : rn t n 0 0 = 0 := by
    simp at w1
    exact w1.2
  refine ⟨hr, ?_⟩
  by_cases w2 : anyF (fU n c t kd lt) n 0 = false
  rotate_left
  · rw [if_neg w2] at h; exact absurd h n2
  rw [if_pos w2] at h
  by_cases w3 : anyF (fT c kd lt) c 0 = false
  rotate_left
  · rw [if_neg w3] at h; exact absurd h n3
  rw [if_pos w3] at h
  by_cases w4 : anyF (fN n t kd lt) c 0 = false
  rotate_left
  · rw [if_neg w4] at h; exact absurd h n4
  rw [if_pos w4] at h
  by_cases w5 : anyF (fC n c t kd lt) n 0 = false
  rotate_left
  · rw [if_neg w5] at h; exact absurd h n5
  rw [if_pos w5] at h
  by_cases w6 : 1 < cF kd 5 c 0
  · rw [if_pos w6] at h; exact absurd h n6
  rw [if_neg w6] at h
  by_cases w7 : cF kd 5 c 0 ≤ 0
  · right
    intro k hk
    exact cF_0 c 0 (by omega) k (by omega) (by omega)
  rw [if_neg w7] at h
  by_cases w8 : cF kd 4 c 0 ≤ 0
  · left
    intro k hk
    exact cF_0 c 0 (by omega) k (by omega) (by omega)
  rw [if_neg w8] at h
  exact absurd h n6
end OPS
theorem af_asc {c : Nat} {kd ct il : Nat → Nat} {ic : Nat → Nat → Nat} (h : afV c kd ct il ic = 0) : asH c kd ct il ic := by
  unfold afV at h
  have hu : anyF (ufK kd ct il ic) c 0 = false := by
    by_cases y1 : anyF (lnK ct il ic) c 0 = true
    · rw [if_pos y1] at h; exact absurd h (by decide)
    · rw [if_neg y1] at h
      cases hu : anyF (ufK kd ct il ic) c 0 with
      | false => rfl
      | true => rw [hu, if_pos rfl] at h; exact absurd h (by decide)
  intro k hk h3 j hj i hi
  have : fhF (il (3 * k + j)) (ic (3 * k + j)) = true := by
    cases hf : fhF (il (3 * k + j)) (ic (3 * k + j)) with
    | true => rfl
    | false =>
      exfalso
      have h1 : anyF (fun j => ufP il ic (3 * k + j)) (ct k) 0 = true := (anyF_iff _ _ _).mpr ⟨j, by omega, by omega, by unfold ufP; rw [hf]; rfl⟩
      have h2 : anyF (ufK kd ct il ic) c 0 = true := (anyF_iff _ _ _).mpr ⟨k, by omega, by omega, by unfold ufK; rw [h1]; simp [h3]⟩
      rw [hu] at h2
      cases h2
  unfold fhF at this
  simp only [Bool.and_eq_true] at this
  have h4 := allF_at _ _ this.1 i (by omega) (by omega)
  unfold asF at h4
  simpa using h4
theorem op_send {cc : Nat} {S : zSt} (h : Iv cc S) : ∃ r S1 S2, f_TC_send S = some (r, S1) ∧ f_Mo_send S1 = some (r, S2) ∧ Iv (cc + 1) S2 := by
  obtain ⟨hRd, hRm, hRr⟩ := h
  obtain ⟨n, c, t, kd, lt, hR⟩ := Rd_ro hRd
  have hT := hR.1
  have hP := hR.2.1
  have hQ := hR.2.2.1
  have hI := hR.2.2.2
  obtain ⟨r, ck1, ck2⟩ := op_check hRd
  have ckf : f_Declaration_fault S = some r := by
    unfold f_TC_check at ck1
    cases hh : f_Declaration_fault S with
    | none => rw [hh] at ck1; cases ck1
    | some u => rw [hh] at ck1; exact ck1
  have eA := cl_af hP hQ hI
  have eM := mo_if hP hQ hI
  have hRd2 := hRd
  obtain ⟨⟨v1, v2, v3⟩, -⟩ := hRd2
  obtain ⟨v, hv, ev⟩ := toN 4 v1 v2 (by decide)
  by_cases hr : r = 0
  rotate_left
  · refine ⟨r, S, S, ?_, ?_, ?_⟩
    · unfold f_TC_send f_TC_send_20
      rw [ckf]
      simp only [Option.bind_some]
      rw [if_neg hr, if_neg hr]
    · unfold f_Mo_send
      rw [ck2]
      simp only [Option.bind_some]
      rw [if_neg hr]
    · exact ⟨hRd, hRm, Rr_up hRr⟩
  subst hr
  by_cases ha : afV c kd (ctS S) (ilS S) (icS S) = 0
  rotate_left
  · refine ⟨afV c kd (ctS S) (ilS S) (icS S), S, S, ?_, ?_, ?_⟩
    · unfold f_TC_send f_TC_send_20
      rw [ckf, eA]
      simp only [Option.bind_some, if_true]
      rw [if_neg ha]
    · unfold f_Mo_send
      rw [ck2, eM]
      simp only [Option.bind_some, if_true]
      rw [if_neg ha]
    · exact ⟨hRd, hRm, Rr_up hRr⟩
  obtain ⟨hw, hx⟩ := ck_zero hT hP ck2
  have hasc := af_asc ha
  obtain ⟨x, y, m, hxy, m3, m4, hm, m5, m6, m7⟩ := hRm
  have hy2 : y < 2 := by omega
  obtain ⟨U, u1, u2, u3⟩ := cl_compose hy2 hR (dgH_of hw) hasc hv ev
  obtain ⟨len1, len2, len3⟩ := rq_len hR v
  generalize hL : rqL n c t kd lt (ctS S) (ilS S) (icS S) v = L at u2 len1
  have hLb : ∀ b ∈ boL c kd lt (ctS S) (ilS S) (icS S), b < 256 := by
    intro b hb
    refine u2.2.2 b ?_
    rw [← hL]
    unfold rqL
    simp only [List.mem_append]
    exact Or.inr (Or.inr (Or.inr hb))
  have k3 : U 0 3 = nI x := by rw [u3 _ _ (by omega) (by omega) (by omega) (by omega)]; exact m3
  have k4 : U 0 4 = nI y := by rw [u3 _ _ (by omega) (by omega) (by omega) (by omega)]; exact m4
  have s1 : U (58 + y) 1 = nI L.length := u2.1
  have c1000 : (nI L.length ≤ 1000) ↔ L.length ≤ 1000 := nI_leI (b := 1000) (by omega) (by omega)
  have yc : (nI y).toNatClampNeg = y := nI_clamp (by omega)
  have xc : (nI x).toNatClampNeg = x := nI_clamp (by omega)
  -- the class's answer
  have eT : f_TC_send S = if L.length ≤ 1000 then some (nI L.length, su (su U 0 3 (nI y)) 0 4 (nI x)) else some (-10, U) := by
    unfold f_TC_send f_TC_send_20
    rw [ckf, eA, ha]
    simp only [Option.bind_some, if_true]
    rw [m4, yc, gdnN (by omega), u1]
    simp only [Option.bind_some]
    rw [k4, yc, gdnN (by omega), s1]
    simp only [c1000]
    by_cases q : L.length ≤ 1000
    · rw [if_pos q, if_pos q, k3, xc, gdnN (by omega), gdnN (by omega)]
      unfold sq
      dsimp only
      rw [su_ne (by omega), su_eq, yc, gdnN (by omega), su_ne (by omega), su_ne (by omega), s1]
    · rw [if_neg q, if_neg q]
  -- the reference on any state that has the data
  have ref : ∀ U', (∀ i k, i ≠ 0 → i ≠ 58 → i ≠ 59 → i ≠ 60 → i ≠ 62 → i ≠ 63 → i ≠ 64 → U' i k = S i k) → ∃ V b', f_Mo_send U' = (if (V 66 11) ≤ 1000 then (f_Mo_send_222 fu 0 V) else (some ((-10), V))) ∧ Wp false V L b' ∧ ∀ i k, i ≠ 74 → i ≠ 75 → (i ≠ 66 ∨ (k ≠ 11 ∧ k ≠ 13 ∧ k ≠ 14 ∧ k ≠ 15)) → V i k = U' i k := by
    intro U' hU
    have hR' : Ro U' n c t kd lt (ctS S) (ilS S) (icS S) := Ro_gen hR (fun i k hh => hU i k (by omega) (by omega) (by omega) (by omega) (by omega) (by omega) (by omega))
    have e0 : U' 66 0 = S 66 0 := hU _ _ (by omega) (by omega) (by omega) (by omega) (by omega) (by omega) (by omega)
    have eck : f_Mo_check U' = some 0 := by rw [ck_same hT hP hR'.1 hR'.2.1 e0]; exact ck2
    have eif : f_Mo_itemFault U' = some 0 := by rw [mo_if hR'.2.1 hR'.2.2.1 hR'.2.2.2, ha]
    obtain ⟨T, t1, t2, t3⟩ := mo_compose hR' hx
    have hRT : Ro (su T 66 11 0) n c t kd lt (ctS S) (ilS S) (icS S) := Ro_gen hR' (fun i k hh => by rw [su_ne (by omega), t3 i k (by omega) (by omega)])
    have hBT : Bw (su T 66 11 0) (boL c kd lt (ctS S) (ilS S) (icS S)) := by
      obtain ⟨q1, q2, q3⟩ := t2
      exact ⟨by rw [su_ne (by omega)]; exact q1, by rw [su_ne (by omega)]; exact q2, fun j hj => by rw [su_ne (by omega)]; exact q3 j hj⟩
    have ev' : (su T 66 11 0) 66 0 = nI v := by rw [su_ne (by omega), t3 _ _ (by omega) (by omega), e0, v3, ev]
    have words : ∀ wd : Int64, wd = lN (encN (liL (vbN v))) → ∃ V b', f_Mo_send_90 wd (su T 66 11 0) = (if (V 66 11) ≤ 1000 then (f_Mo_send_222 fu 0 V) else (some ((-10), V))) ∧ Wp false V L b' ∧ ∀ i k, i ≠ 74 → i ≠ 75 → (i ≠ 66 ∨ (k ≠ 11 ∧ k ≠ 13 ∧ k ≠ 14 ∧ k ≠ 15)) → V i k = U' i k := by
      intro wd hwd
      obtain ⟨V, b', a1, a2, a3⟩ := mo_send90 hRT hw hv ev' hwd hBT su_eq hLb
      rw [hL] at a2
      refine ⟨V, b', a1, a2, fun i k p q s => ?_⟩
      have a3' : ∀ i k, i ≠ 74 → (i ≠ 66 ∨ (k ≠ 11 ∧ k ≠ 13)) → V i k = (su T 66 11 0) i k := a3
      rw [a3' i k p (by omega), su_ne (by omega), t3 i k q (by omega)]
    unfold f_Mo_send
    rw [eck, eif, t1]
    simp only [Option.bind_some, if_true]
    unfold sq
    dsimp only
    rw [ev']
    have d0 : (nI v = 0) ↔ v = 0 := nI_eq (b := 0) (by omega) (by omega)
    have d1 : (nI v = 1) ↔ v = 1 := nI_eq (b := 1) (by omega) (by omega)
    have d2 : (nI v = 2) ↔ v = 2 := nI_eq (b := 2) (by omega) (by omega)
    have d3 : (nI v = 3) ↔ v = 3 := nI_eq (b := 3) (by omega) (by omega)
    simp only [d0, d1, d2, d3]
    have z0 : (5522759 : Int64) = lN (encN (liL (vbN 0))) := by decide +kernel
    have z1 : (1145128264 : Int64) = lN (encN (liL (vbN 1))) := by decide +kernel
    have z2 : (1414745936 : Int64) = lN (encN (liL (vbN 2))) := by decide +kernel
    have z3 : (5526864 : Int64) = lN (encN (liL (vbN 3))) := by decide +kernel
    have z4 : (76228242195780 : Int64) = lN (encN (liL (vbN 4))) := by decide +kernel
    by_cases q0 : v = 0
    · rw [if_pos q0]; exact words _ (by rw [q0]; exact z0)
    · rw [if_neg q0]
      by_cases q1 : v = 1
      · rw [if_pos q1]; exact words _ (by rw [q1]; exact z1)
      · rw [if_neg q1]
        by_cases q2 : v = 2
        · rw [if_pos q2]; exact words _ (by rw [q2]; exact z2)
        · rw [if_neg q2]
          by_cases q3 : v = 3
          · rw [if_pos q3]; exact words _ (by rw [q3]; exact z3)
          · rw [if_neg q3]; exact words _ (by rw [show v = 4 by omega]; exact z4)
  by_cases q : L.length ≤ 1000
  · rw [if_pos q] at eT
    obtain ⟨V, b', a1, a2, a3⟩ := ref (su (su U 0 3 (nI y)) 0 4 (nI x)) (fun i k p1 p2 p3 p4 p5 p6 p7 => by rw [su_ne (by omega), su_ne (by omega), u3 i k (by omega) (by omega) (by omega) (by omega)])
    have a11 : V 66 11 = nI L.length := a2.2.1
    rw [a11, if_pos (c1000.mpr q)] at a1
    obtain ⟨V', e1, e2, e3, e4⟩ := mo_222 q fu 0 V a11 (by omega) (by unfold fu; omega) (fun j hj => absurd hj (Nat.not_lt_zero j))
    have e1' : f_Mo_send_222 fu 0 V = some (nI L.length, V') := e1
    have all : ∀ i k, i ≠ 0 → i ≠ 58 → i ≠ 59 → i ≠ 60 → i ≠ 62 → i ≠ 63 → i ≠ 64 → i ≠ 73 → i ≠ 74 → i ≠ 75 → (i ≠ 66 ∨ (k ≠ 9 ∧ k ≠ 11 ∧ k ≠ 13 ∧ k ≠ 14 ∧ k ≠ 15)) → V' i k = S i k := by
      intro i k p1 p2 p3 p4 p5 p6 p7 p8 p9 p10 p11
      rw [e4 i k p8 (by omega), a3 i k p9 p10 (by omega), su_ne (by omega), su_ne (by omega), u3 i k (by omega) (by omega) (by omega) (by omega)]
    have cls : ∀ i k, (i = 58 + y ∨ i = 62 + y) → V' i k = U i k := by
      intro i k p
      rw [e4 i k (by omega) (by omega), a3 i k (by omega) (by omega) (by omega), su_ne (by omega), su_ne (by omega)]
    refine ⟨nI L.length, _, V', eT, by rw [a1]; exact e1', ?_, ?_, ?_⟩
    · exact Rd_fr hRd (fun i k hh => all i k (by omega) (by omega) (by omega) (by omega) (by omega) (by omega) (by omega) (by omega) (by omega) (by omega) (by omega))
    · refine ⟨y, x, L.length, by omega, ?_, ?_, q, ?_, e2, fun i hi => ?_⟩
      · rw [e4 _ _ (by omega) (by omega), a3 _ _ (by omega) (by omega) (by omega), su_ne (by omega), su_eq]
      · rw [e4 _ _ (by omega) (by omega), a3 _ _ (by omega) (by omega) (by omega), su_eq]
      · rw [cls _ _ (Or.inl rfl)]; exact s1
      · have hbl : bl y = 1000 := by
          rcases hxy with ⟨-, h0⟩ | ⟨-, h0⟩ <;> rw [h0] <;> decide
        rw [cls _ _ (Or.inr rfl), u2.2.1 i hi (by omega), e3 i hi, a2.2.2.1 i hi (by omega)]
        exact byt_ok _ (u2.2.2 _ (gd_mem hi))
    · obtain ⟨B, V0, fed, closed, r1, r2, r3, r4, r5⟩ := hRr
      refine ⟨B, V0, fed, closed, by omega, Bk_fr r2 (fun i k hh => all i k (by omega) (by omega) (by omega) (by omega) (by omega) (by omega) (by omega) (by omega) (by omega) (by omega) (by omega)), ?_, Ax_fr r4 (fun i k hh => all i k (by omega) (by omega) (by omega) (by omega) (by omega) (by omega) (by omega) (by omega) (by omega) (by omega) (by omega)), r5⟩
      rw [all _ _ (by omega) (by omega) (by omega) (by omega) (by omega) (by omega) (by omega) (by omega) (by omega) (by omega) (by omega)]
      exact r3
  · rw [if_neg q] at eT
    obtain ⟨V, b', a1, a2, a3⟩ := ref U (fun i k p1 p2 p3 p4 p5 p6 p7 => u3 i k (by omega) (by omega) (by omega) (by omega))
    have a11 : V 66 11 = nI L.length := a2.2.1
    rw [a11, if_neg (fun z => q (c1000.mp z))] at a1
    have all : ∀ i k, i ≠ 58 + y → i ≠ 60 → i ≠ 62 + y → i ≠ 64 → i ≠ 74 → i ≠ 75 → (i ≠ 66 ∨ (k ≠ 11 ∧ k ≠ 13 ∧ k ≠ 14 ∧ k ≠ 15)) → V i k = S i k := by
      intro i k p1 p2 p3 p4 p9 p10 p11
      rw [a3 i k p9 p10 (by omega), u3 i k (by omega) (by omega) (by omega) (by omega)]
    refine ⟨-10, U, V, eT, a1, ?_, ?_, ?_⟩
    · exact Rd_fr hRd (fun i k hh => all i k (by omega) (by omega) (by omega) (by omega) (by omega) (by omega) (by omega))
    · refine ⟨x, y, m, hxy, ?_, ?_, hm, ?_, ?_, fun i hi => ?_⟩
      · rw [all _ _ (by omega) (by omega) (by omega) (by omega) (by omega) (by omega) (by omega)]; exact m3
      · rw [all _ _ (by omega) (by omega) (by omega) (by omega) (by omega) (by omega) (by omega)]; exact m4
      · rw [all _ _ (by omega) (by omega) (by omega) (by omega) (by omega) (by omega) (by omega)]; exact m5
      · rw [all _ _ (by omega) (by omega) (by omega) (by omega) (by omega) (by omega) (by omega)]; exact m6
      · rw [all _ _ (by omega) (by omega) (by omega) (by omega) (by omega) (by omega) (by omega), all _ _ (by omega) (by omega) (by omega) (by omega) (by omega) (by omega) (by omega)]; exact m7 i hi
    · obtain ⟨B, V0, fed, closed, r1, r2, r3, r4, r5⟩ := hRr
      refine ⟨B, V0, fed, closed, by omega, Bk_fr r2 (fun i k hh => all i k (by omega) (by omega) (by omega) (by omega) (by omega) (by omega) (by omega)), ?_, Ax_fr r4 (fun i k hh => all i k (by omega) (by omega) (by omega) (by omega) (by omega) (by omega) (by omega)), r5⟩
      rw [all _ _ (by omega) (by omega) (by omega) (by omega) (by omega) (by omega) (by omega)]
      exact r3
