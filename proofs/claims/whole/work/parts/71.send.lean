-- send: both sides
def Pe (S : zSt) (x : List Nat) (o : Option zSt) : Prop := ∀ l b, Wp false S l b → l.length + x.length ≤ 100000 → ∃ S' b', o = some S' ∧ Wp false S' (l ++ x) b' ∧ Fo false S S'
theorem Pe_pu {S : zSt} {x : List Nat} {o : Option zSt} (h : Pu false S x o) : Pe S x o := fun l b hl hb => by
  obtain ⟨S', e1, e2, e3⟩ := h l b hl hb
  exact ⟨S', _, e1, e2, e3⟩
theorem Pe_bind {S : zSt} {x y : List Nat} {o : Option zSt} {f : zSt → Option zSt} (h : Pe S x o) (hf : ∀ S', Fo false S S' → Pe S' y (f S')) : Pe S (x ++ y) (o.bind f) := by
  intro l b hl hb
  rw [List.length_append] at hb
  obtain ⟨S1, b1, e1, w1, f1⟩ := h l b hl (by omega)
  obtain ⟨S2, b2, e2, w2, f2⟩ := hf S1 f1 (l ++ x) b1 w1 (by rw [List.length_append]; omega)
  exact ⟨S2, b2, by rw [e1]; exact e2, by rw [← List.append_assoc]; exact w2, Fo_tr f1 f2⟩
def vbN (v : Nat) : Nat := if v = 1 then 2 else if v = 2 then 3 else if v = 3 then 4 else if v = 4 then 5 else 6
section SEND
variable (n c : Nat) (t kd lt ct il : Nat → Nat) (ic : Nat → Nat → Nat)
def tgL : List Nat := clF n c t kd lt ct il ic n 0 false false 0
def tqL : List Nat := tgL n c t kd lt ct il ic ++ qO c kd lt ct il ic 6 0 (d63 (tgL n c t kd lt ct il ic))
def hdL (v : Nat) : List Nat := liL (vbN v) ++ ([32] ++ (tqL n c t kd lt ct il ic ++ (liL 9 ++ hO c kd lt ct il ic 6 0)))
def boL : List Nat := bdO c kd lt ct il ic 6 0 0
def clL (v : Nat) : List Nat := if v = 2 ∨ v = 3 then liL 14 ++ (dcL (boL c kd lt ct il ic).length ++ liL 13) else []
def rqL (v : Nat) : List Nat := hdL n c t kd lt ct il ic v ++ (clL c kd lt ct il ic v ++ (liL 13 ++ boL c kd lt ct il ic))
end SEND
section SLEN
variable {n c : Nat} {t kd lt ct il : Nat → Nat} {ic : Nat → Nat → Nat}
theorem it_len {S : zSt} (h : Ro S n c t kd lt ct il ic) {r : Nat} (hr : r < 18) (mx md : Nat) : (itL il ic mx md r).length ≤ 96 := by
  have hI := h.2.2.2 r hr
  have hn := hI.2.1
  have he := edF_le (il r) (ic r) mx 8 0 0 (by omega)
  have := (en_len (md := md) (n := il r) (c := ic r) (e := edF (il r) (ic r) mx 8 0 0) (fun i hi => (hI.2.2.2.2 i hi).2.2) (by omega) 8 0).1
  unfold itL
  omega
theorem nm_len (op letter : Nat) (em : Bool) : (nmL op letter em).length ≤ 2 := by
  unfold nmL
  split
  · split <;> simp
  · simp
theorem vF_len {S : zSt} (h : Ro S n c t kd lt ct il ic) {k : Nat} (hk : k < c) (sp : Bool) (mx op letter : Nat) : ∀ q j, (vF il ic sp mx op k (ct k) letter q j).length ≤ 99 * (ct k - j) := by
  have hc := h.2.1.1
  have hct := (h.2.2.1 k (by omega)).2.2
  intro q
  induction q with
  | zero => intro j; simp [vF]
  | succ q ih =>
    intro j
    rw [vF_s]
    by_cases z : ct k ≤ j
    · rw [if_pos z]; simp
    · rw [if_neg z, List.length_append, List.length_append, List.length_append]
      have h1 := it_len h (r := 3 * k + j) (by omega) mx (mdN op)
      have h2 := ih (j + 1)
      have h3 : (if j = 0 then [] else [if sp = true then brN op else 44] : List Nat).length ≤ 1 := by split <;> simp
      have h4 : (if j = 0 ∨ sp = true then nmL op letter (decide ((sp = true ∨ ct k = 1) ∧ il (3 * k + j) = 0)) else []).length ≤ 2 := by
        split
        · exact nm_len _ _ _
        · simp
      omega
theorem pc_len {S : zSt} (h : Ro S n c t kd lt ct il ic) (pos : Nat) (st : Bool) (op : Nat) : (pcL n c t kd lt ct il ic pos st op).length ≤ 298 := by
  unfold pcL
  cases hv : vkF c t kd lt ct pos with
  | none => simp
  | some k =>
    have hk : k < c := by
      unfold vkF at hv
      split at hv
      · split at hv
        · cases hv
        · rename_i k' hm
          split at hv
          · cases hv
          · cases hv
            have := nmF_lt _ _ _ hm
            omega
      · cases hv
    have hc := h.2.1.1
    have hct := (h.2.2.1 k (by omega)).2.2
    have h1 := vF_len h hk (spB n t pos) (mxB n t pos) op (t pos) 3 0
    have h2 : (sbL op st).length ≤ 1 := by
      unfold sbL
      split
      · simp
      · split <;> simp
    dsimp only
    rw [List.length_append]
    omega
theorem clF_len {S : zSt} (h : Ro S n c t kd lt ct il ic) : ∀ q pos ins st op, (clF n c t kd lt ct il ic q pos ins st op).length ≤ 298 * q := by
  intro q
  induction q with
  | zero => intro pos ins st op; simp [clF]
  | succ q ih =>
    intro pos ins st op
    rw [clF_s]
    split
    · have := ih (pos + 1) true false (opN n t pos); omega
    · split
      · have := ih (pos + 1) false st op; omega
      · split
        · rw [List.length_append]
          have := ih (pos + 1) ins st op
          simp
          omega
        · rw [List.length_append]
          have := ih (pos + 1) ins (st || (vkF c t kd lt ct pos).isSome) op
          have := pc_len h pos st op
          omega
theorem qI_len {S : zSt} (h : Ro S n c t kd lt ct il ic) {k : Nat} (hk : k < c) {B : Nat} {tail : Bool → List Nat} (ht : ∀ b, (tail b).length ≤ B) : ∀ q j b, (qI lt ct il ic k tail q j b).length ≤ 75 * (ct k - j) + B := by
  have hc := h.2.1.1
  have hct := (h.2.2.1 k (by omega)).2.2
  intro q
  induction q with
  | zero => intro j b; have := ht b; show (tail b).length ≤ _; omega
  | succ q ih =>
    intro j b
    rw [qI_s]
    by_cases z : ct k ≤ j
    · rw [if_pos z]; have := ht b; omega
    · rw [if_neg z, List.length_append, List.length_append, List.length_append, List.length_append]
      have h1 := en_len8 h (r := 3 * k + j) (by omega) 0
      have h2 := ih (j + 1) true
      simp
      omega
theorem qO_len {S : zSt} (h : Ro S n c t kd lt ct il ic) : ∀ q k b, (qO c kd lt ct il ic q k b).length ≤ 225 * (c - k) := by
  have hc := h.2.1.1
  intro q
  induction q with
  | zero => intro k b; simp [qO]
  | succ q ih =>
    intro k b
    rw [qO_s]
    by_cases z : c ≤ k
    · rw [if_pos z]; simp
    · rw [if_neg z]
      have hct := (h.2.2.1 k (by omega)).2.2
      by_cases y : kd k = 2
      · rw [if_pos y]
        have := qI_len h (k := k) (by omega) (tail := fun b' => qO c kd lt ct il ic q (k + 1) b') (fun b' => ih (k + 1) b') 3 0 b
        omega
      · rw [if_neg y]
        have := ih (k + 1) b
        omega
theorem hI_len {S : zSt} (h : Ro S n c t kd lt ct il ic) {k : Nat} (hk : k < c) : ∀ q j, (hI ct il ic k q j).length ≤ 74 * (ct k - j) := by
  have hc := h.2.1.1
  have hct := (h.2.2.1 k (by omega)).2.2
  intro q
  induction q with
  | zero => intro j; simp [hI]
  | succ q ih =>
    intro j
    rw [hI_s]
    by_cases z : ct k ≤ j
    · rw [if_pos z]; simp
    · rw [if_neg z, List.length_append, List.length_append]
      have h1 := en_len8 h (r := 3 * k + j) (by omega) 3
      have h2 := ih (j + 1)
      have h3 : (if j = 0 then [] else [44, 32] : List Nat).length ≤ 2 := by split <;> simp
      omega
theorem hO_len {S : zSt} (h : Ro S n c t kd lt ct il ic) : ∀ q k, (hO c kd lt ct il ic q k).length ≤ 300 * (c - k) := by
  have hc := h.2.1.1
  intro q
  induction q with
  | zero => intro k; simp [hO]
  | succ q ih =>
    intro k
    rw [hO_s]
    by_cases z : c ≤ k
    · rw [if_pos z]; simp
    · rw [if_neg z, List.length_append]
      have hct := (h.2.2.1 k (by omega)).2.2
      have h1 := hI_len h (k := k) (by omega) 3 0
      have h2 := ih (k + 1)
      have h3 : (if kd k = 3 ∧ 0 < ct k then [120, 45] ++ ([lt k] ++ ([58, 32] ++ (hI ct il ic k 3 0 ++ [13, 10]))) else []).length ≤ 240 := by
        split
        · simp; omega
        · simp
      omega
theorem li_le : ∀ q, q < nS → (liL q).length < 100 := fun q hq => by rw [li_len]; exact (by_ok q hq).2.1
theorem vb_lt (v : Nat) : vbN v < nS := by
  have h19 : (6 : Nat) < nS := by decide
  unfold vbN
  split
  · omega
  · split
    · omega
    · split
      · omega
      · split <;> omega
theorem rq_len {S : zSt} (h : Ro S n c t kd lt ct il ic) (v : Nat) : (rqL n c t kd lt ct il ic v).length ≤ 50000 ∧ (hdL n c t kd lt ct il ic v).length ≤ 40000 ∧ (boL c kd lt ct il ic).length ≤ 1350 := by
  have hn := h.1.1
  have hc := h.2.1.1
  have a1 := clF_len h n 0 false false 0
  have a2 := qO_len h 6 0 (d63 (tgL n c t kd lt ct il ic))
  have a3 := hO_len h 6 0
  have a4 := bdO_len h 6 0 0
  have a5 := li_le (vbN v) (vb_lt v)
  have a6 := li_le 9 (by decide)
  have a7 := li_le 13 (by decide)
  have a8 := li_le 14 (by decide)
  have a9 : (dcL (boL c kd lt ct il ic).length).length ≤ 4 := by
    unfold dcL
    split <;> split <;> split <;> simp
  have b1 : (hdL n c t kd lt ct il ic v).length ≤ 40000 := by
    unfold hdL tqL tgL at *
    simp only [List.length_append, List.length_cons, List.length_nil]
    omega
  have b2 : (boL c kd lt ct il ic).length ≤ 1350 := by unfold boL; omega
  have b3 : (clL c kd lt ct il ic v).length ≤ 300 := by
    unfold clL
    split
    · simp only [List.length_append]; omega
    · simp
  refine ⟨?_, b1, b2⟩
  unfold rqL
  simp only [List.length_append]
  omega
theorem dc_lt {L : Nat} : ∀ b ∈ dcL L, b < 256 := by
  intro b hb
  unfold dcL at hb
  simp only [List.mem_append] at hb
  rcases hb with hb | hb | hb | hb
  · split at hb
    · simp at hb; omega
    · simp at hb
  · split at hb
    · simp at hb; omega
    · simp at hb
  · split at hb
    · simp at hb; omega
    · simp at hb
  · simp at hb; omega
end SLEN
section SCLS
variable {n c : Nat} {t kd lt ct il : Nat → Nat} {ic : Nat → Nat → Nat}
theorem vb_63 : ∀ v, d63 (liL (vbN v) ++ [32]) = false := by
  intro v
  have h2 : d63 (liL 2 ++ [32]) = false := by decide +kernel
  have h3 : d63 (liL 3 ++ [32]) = false := by decide +kernel
  have h4 : d63 (liL 4 ++ [32]) = false := by decide +kernel
  have h5 : d63 (liL 5 ++ [32]) = false := by decide +kernel
  have h6 : d63 (liL 6 ++ [32]) = false := by decide +kernel
  unfold vbN
  split
  · exact h2
  · split
    · exact h3
    · split
      · exact h4
      · split
        · exact h5
        · exact h6
theorem cl_head {k1 : Nat} (hk1 : k1 < 4) {S : zSt} (h : Ro S n c t kd lt ct il ic) (hd : dgH n t) (ha : asH c kd ct il ic) {v : Nat} {f : zSt → Option zSt} {y : List Nat} (hf : ∀ S', Fp k1 S S' → Pc k1 S' y (f S')) : Pcb k1 S false (hdL n c t kd lt ct il ic v ++ y) ((f_ByteRow_putText k1 (vbN v) S).bind fun u3 => ((f_ByteRow_put k1 32 u3).bind fun u4 => ((f_RequestWriter_putExpanded k1 u4).bind fun u5 => ((f_RequestWriter_putQuery k1 u5).bind fun u6 => ((f_ByteRow_putText k1 9 u6).bind fun u7 => ((f_RequestWriter_putHeaders k1 u7).bind fun u8 => f u8)))))) := by
  have hc := h.2.1.1
  have hn := h.1.1
  have v63 := vb_63 v
  rw [d63_app] at v63
  unfold hdL
  rw [List.append_assoc, List.append_assoc]
  refine Pcb_bind (Pcb_pc (cl_text hk1 (vb_lt v)) false) (fun S1 f1 => ?_)
  refine Pcb_bind (Pcb_pc (Pc_put hk1 (b := 32) (by omega)) _) (fun S2 f2 => ?_)
  have e0 : ((false || d63 (liL (vbN v))) || d63 [32]) = false := by rw [Bool.false_or]; exact v63
  rw [e0]
  have h2 := Ro_fp hk1 (Ro_fp hk1 h f1) f2
  unfold tqL
  rw [List.append_assoc, List.append_assoc]
  refine Pcb_bind (x := tgL n c t kd lt ct il ic) (Pcb_pc ?_ false) (fun S3 f3 => ?_)
  · exact cl_exp hk1 hd n fu 0 false false 0 S2 h2 (by omega) rfl (by unfold fu; omega) (Or.inl rfl)
  rw [Bool.false_or]
  have h3 := Ro_fp hk1 h2 f3
  refine Pcb_bind (cl_qo hk1 6 fu 0 _ S3 h3 (by omega) (by omega) (by unfold fu; omega)) (fun S4 f4 => ?_)
  have h4 := Ro_fp hk1 h3 f4
  rw [List.append_assoc]
  refine Pcb_bind (Pcb_pc (cl_text hk1 (q := 9) (by decide)) _) (fun S5 f5 => ?_)
  have h5 := Ro_fp hk1 h4 f5
  refine Pcb_bind (Pcb_pc (cl_ho hk1 ha 6 fu 0 S5 h5 (by omega) (by omega) (by unfold fu; omega)) _) (fun S6 f6 => ?_)
  exact Pcb_pc (hf S6 (Fp_tr f1 (Fp_tr f2 (Fp_tr f3 (Fp_tr f4 (Fp_tr f5 f6)))))) _
theorem Wc_fr {k : Nat} {S S' : zSt} {l : List Nat} (h : Wc S k l) (hf : ∀ j, S' (58 + k) j = S (58 + k) j ∧ S' (62 + k) j = S (62 + k) j) : Wc S' k l := by
  obtain ⟨h1, h2, h3⟩ := h
  exact ⟨by rw [(hf 1).1]; exact h1, fun j a b => by rw [(hf j).2]; exact h2 j a b, h3⟩
theorem cl_compose {y : Nat} (hy : y < 2) {S : zSt} (h : Ro S n c t kd lt ct il ic) (hd : dgH n t) (ha : asH c kd ct il ic) {v : Nat} (hv : v ≤ 4) (ev : S 1 3 = nI v) : ∃ S', f_RequestWriter_compose y S = some S' ∧ Wc S' y (rqL n c t kd lt ct il ic v) ∧ ∀ i k, i ≠ 58 + y → i ≠ 62 + y → i ≠ 60 → i ≠ 64 → S' i k = S i k := by
  obtain ⟨len1, len2, len3⟩ := rq_len h v
  have hk1 : y < 4 := by omega
  have c1 : (nI v = 1) ↔ v = 1 := nI_eq (b := 1) (by omega) (by omega)
  have c2 : (nI v = 2) ↔ v = 2 := nI_eq (b := 2) (by omega) (by omega)
  have c3 : (nI v = 3) ↔ v = 3 := nI_eq (b := 3) (by omega) (by omega)
  have c4 : (nI v = 4) ↔ v = 4 := nI_eq (b := 4) (by omega) (by omega)
  have hR : Ro (su S (58 + y) 1 0) n c t kd lt ct il ic := Ro_gen h (fun i k hh => su_ne (by omega))
  have hW0 : Wc (su S (58 + y) 1 0) y [] := ⟨su_eq, fun j hj => absurd hj (Nat.not_lt_zero j), fun b hb => by cases hb⟩
  have eV : f_Declaration_verbName (su S (58 + y) 1 0) = some (vbN v) := by
    unfold f_Declaration_verbName vbN
    rw [su_ne (by omega), ev]
    simp only [c1, c2, c3, c4]
    split
    · rfl
    · split
      · rfl
      · split
        · rfl
        · split <;> rfl
  unfold f_RequestWriter_compose sq
  dsimp only
  rw [eV]
  simp only [Option.bind_some]
  rw [gdnN (vb_lt v)]
  have tail92 : ∀ S', Ro S' n c t kd lt ct il ic → Pc y S' (liL 13 ++ boL c kd lt ct il ic) (f_RequestWriter_compose_92 y S') := by
    intro S' h'
    unfold f_RequestWriter_compose_92
    refine Pc_bind (cl_text hk1 (q := 13) (by decide)) (fun S1 f1 => ?_)
    exact Pc_end (cl_body hk1 (Ro_fp hk1 h' f1))
  have eM : ∀ S', (∀ k, S' 1 k = S 1 k) → f_Declaration_mayHaveContent S' = some (bI (decide (v = 2 ∨ v = 3))) := by
    intro S' hs
    unfold f_Declaration_mayHaveContent f_Declaration_mayHaveContent_16
    rw [hs 3, ev]
    simp only [c2, c3, gdb_0, gdb_1]
    by_cases y2 : v = 2
    · rw [if_pos y2]; simp [y2, bI]
    · rw [if_neg y2]
      by_cases y3 : v = 3
      · rw [if_pos y3]; simp [y3, bI]
      · rw [if_neg y3]; simp [y2, y3, bI]
  by_cases hvc : v = 2 ∨ v = 3
  · have main := cl_head hk1 hR hd ha (v := v) (y := []) (f := fun u => some u) (fun S' _ => Pc_nil)
    obtain ⟨S8, e8, w8, f8⟩ := main [] hW0 rfl (by simp; omega)
    rw [List.nil_append, List.append_nil] at w8
    have R8 := Ro_fp hk1 hR f8
    have m1 : ∀ k, S8 1 k = S 1 k := fun k => by rw [f8 _ _ (by omega) (by omega), su_ne (by omega)]
    -- the counter
    have R9 : Ro (su S8 (58 + 2) 1 0) n c t kd lt ct il ic := Ro_gen R8 (fun i k hh => su_ne (by omega))
    have W9 : Wc (su S8 (58 + 2) 1 0) 2 [] := ⟨su_eq, fun j hj => absurd hj (Nat.not_lt_zero j), fun b hb => by cases hb⟩
    obtain ⟨S10, e10, w10, f10⟩ := cl_body (k1 := 2) (by omega) R9 [] W9 (by unfold boL at len3; simp; omega)
    have R10 := Ro_fp (k := 2) (by omega) R9 f10
    have y10 : Wc S10 y (hdL n c t kd lt ct il ic v) := Wc_fr w8 (fun j => by
      rw [f10 _ _ (by omega) (by omega), f10 _ _ (by omega) (by omega), su_ne (by omega), su_ne (by omega)]
      exact ⟨rfl, rfl⟩)
    have s10 : S10 60 1 = nI (boL c kd lt ct il ic).length := by
      have := w10.1
      rw [List.nil_append] at this
      exact this
    have fin : Pc y S10 (clL c kd lt ct il ic v ++ (liL 13 ++ boL c kd lt ct il ic)) ((f_ByteRow_putText y 14 S10).bind fun u14 => ((f_ByteRow_putNumber y (u14 (58 + 2) 1) u14).bind fun u15 => ((f_ByteRow_putText y 13 u15).bind fun u16 => (f_RequestWriter_compose_92 y u16)))) := by
      unfold clL
      rw [if_pos hvc, List.append_assoc, List.append_assoc]
      refine Pc_bind (cl_text hk1 (q := 14) (by decide)) (fun S1 f1 => ?_)
      have : S1 (58 + 2) 1 = nI (boL c kd lt ct il ic).length := by rw [f1 _ _ (by omega) (by omega)]; exact s10
      rw [this]
      refine Pc_bind (cl_num hk1 (by omega)) (fun S2 f2 => ?_)
      refine Pc_bind (cl_text hk1 (q := 13) (by decide)) (fun S3 f3 => ?_)
      exact tail92 S3 (Ro_fp hk1 (Ro_fp hk1 (Ro_fp hk1 R10 f1) f2) f3)
    obtain ⟨S', e', w', f'⟩ := fin _ y10 (by
      unfold rqL at len1
      simp only [List.length_append] at len1 ⊢
      omega)
    refine ⟨S', ?_, w', fun i k a b c d => ?_⟩
    · have chain : ∀ (g : zSt → Option zSt), ((f_ByteRow_putText y (vbN v) (su S (58 + y) 1 0)).bind fun u3 => ((f_ByteRow_put y 32 u3).bind fun u4 => ((f_RequestWriter_putExpanded y u4).bind fun u5 => ((f_RequestWriter_putQuery y u5).bind fun u6 => ((f_ByteRow_putText y 9 u6).bind fun u7 => ((f_RequestWriter_putHeaders y u7).bind fun u8 => g u8)))))) = g S8 := by
        intro g
        have e8' : ((f_ByteRow_putText y (vbN v) (su S (58 + y) 1 0)).bind fun u3 => ((f_ByteRow_put y 32 u3).bind fun u4 => ((f_RequestWriter_putExpanded y u4).bind fun u5 => ((f_RequestWriter_putQuery y u5).bind fun u6 => ((f_ByteRow_putText y 9 u6).bind fun u7 => ((f_RequestWriter_putHeaders y u7).bind fun u8 => some u8)))))).bind g = g S8 := by rw [e8]; rfl
        rw [← e8']
        simp only [Option.bind_assoc, Option.bind_some]
      rw [chain, eM S8 m1]
      simp only [Option.bind_some, bI_0]
      rw [if_neg (by simp [hvc]), e10]
      simp only [Option.bind_some]
      exact e'
    · rw [f' i k a b, f10 i k (by omega) (by omega), su_ne (by omega), f8 i k a b, su_ne (by omega)]
  · have main := cl_head hk1 hR hd ha (v := v) (y := clL c kd lt ct il ic v ++ (liL 13 ++ boL c kd lt ct il ic)) (f := fun u8 => ((f_Declaration_mayHaveContent u8).bind fun u9 => (if u9 = 0 then (f_RequestWriter_compose_92 y u8) else sq (su u8 (58 + 2) 1 0) fun S12 => ((f_RequestWriter_putBodyOrForm 2 S12).bind fun u13 => ((f_ByteRow_putText y 14 u13).bind fun u14 => ((f_ByteRow_putNumber y (u14 (58 + 2) 1) u14).bind fun u15 => ((f_ByteRow_putText y 13 u15).bind fun u16 => (f_RequestWriter_compose_92 y u16)))))))) (fun S' f1 => by
      rw [eM S' (fun k => by rw [f1 _ _ (by omega) (by omega), su_ne (by omega)])]
      simp only [Option.bind_some, bI_0]
      rw [if_pos (by simp [hvc])]
      unfold clL
      rw [if_neg hvc, List.nil_append]
      exact tail92 S' (Ro_fp hk1 hR f1))
    obtain ⟨S', e', w', f'⟩ := main [] hW0 rfl (by
      unfold rqL at len1
      rw [List.length_nil, Nat.zero_add]
      omega)
    rw [List.nil_append] at w'
    refine ⟨S', e', w', fun i k a b c d => ?_⟩
    rw [f' i k a b, su_ne (by omega)]
end SCLS
