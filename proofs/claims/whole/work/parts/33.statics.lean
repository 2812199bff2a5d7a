set_option maxHeartbeats 4000000 in
theorem st_all {s : State} {b : Nat} (htb : ∀ w ∈ lw_tbl, w.before #[Value.ref b] s = true) (hgv : (Jvm.Cond.and given_1 narrow_1).before #[Value.ref b] s = true) : ∃ (dC : Nat → ClassId) (dI : Nat → Nat → Nat) (tc : Nat → ClassId) (kf vf : Nat → Nat), ∀ ad : Nat → Nat, Sta (dC, dI, ad, tc, (fun q => s.heap.size ≤ q), kf, vf) s ∧ StaC (dC, dI, ad, tc, (fun q => s.heap.size ≤ q), kf, vf) s := by
  have hts : ∀ w ∈ WS, w.before #[Value.ref b] s = true := fun w hw => htb w (WS_in w hw)
  have hnr : ∀ w ∈ nrw, w.before #[Value.ref b] s = true := flat_of_before _ hgv
  have hA : ∀ a : Nat, a < s.heap.size → ¬ (fun q => s.heap.size ≤ q) a := fun a h1 h2 => Nat.not_lt.mpr h2 h1
  have hk : ∀ c : Nat, ∃ q : ClassId × (Nat → Nat), ∀ r : vw_C, classes[c]? = some r → u_Kn s r.1 r.2.1 r.2.2 q.1 q.2 := by
    intro c
    match c with
    | 0 =>
      obtain ⟨cC, iS, h⟩ := u_known hts kc_TC.2.1 (hts _ win_TC)
      exact ⟨(cC, iS), fun r hr => by cases hr; exact h⟩
    | 1 =>
      obtain ⟨cC, iS, h⟩ := u_known hts kc_Declaration.2.1 (hts _ win_Declaration)
      exact ⟨(cC, iS), fun r hr => by cases hr; exact h⟩
    | 2 =>
      obtain ⟨cC, iS, h⟩ := u_known hts kc_PathTemplate.2.1 (hts _ win_PathTemplate)
      exact ⟨(cC, iS), fun r hr => by cases hr; exact h⟩
    | 3 =>
      obtain ⟨cC, iS, h⟩ := u_known hts kc_RequestWriter.2.1 (hts _ win_RequestWriter)
      exact ⟨(cC, iS), fun r hr => by cases hr; exact h⟩
    | 4 =>
      obtain ⟨cC, iS, h⟩ := u_known hts kc_Reader.2.1 (hts _ win_Reader)
      exact ⟨(cC, iS), fun r hr => by cases hr; exact h⟩
    | 5 =>
      obtain ⟨cC, iS, h⟩ := u_known hts kc_Line.2.1 (hts _ win_Line)
      exact ⟨(cC, iS), fun r hr => by cases hr; exact h⟩
    | 6 =>
      obtain ⟨cC, iS, h⟩ := u_known hts kc_Head.2.1 (hts _ win_Head)
      exact ⟨(cC, iS), fun r hr => by cases hr; exact h⟩
    | 7 =>
      obtain ⟨cC, iS, h⟩ := u_known hts kc_Parameter.2.1 (hts _ win_Parameter)
      exact ⟨(cC, iS), fun r hr => by cases hr; exact h⟩
    | 8 =>
      obtain ⟨cC, iS, h⟩ := u_known hts kc_Item.2.1 (hts _ win_Item)
      exact ⟨(cC, iS), fun r hr => by cases hr; exact h⟩
    | 9 =>
      obtain ⟨cC, iS, h⟩ := u_known hts kc_ByteRow.2.1 (hts _ win_ByteRow)
      exact ⟨(cC, iS), fun r hr => by cases hr; exact h⟩
    | 10 =>
      obtain ⟨cC, iS, h⟩ := u_known hts kc_Mo.2.1 (hts _ win_Mo)
      exact ⟨(cC, iS), fun r hr => by cases hr; exact h⟩
    | n + 11 => exact ⟨(0, fun _ => 0), fun r hr => by cases hr⟩
  obtain ⟨f, hf⟩ := Classical.axiomOfChoice hk
  obtain ⟨cI, kI, pI, i1, i2, i3⟩ := Cond.arrayClass_spec (hts _ wa_int)
  obtain ⟨cC, kC, pC, c1, c2, c3⟩ := Cond.arrayClass_spec (hts _ wa_char)
  obtain ⟨cB, kB, pB, b1, b2, b3⟩ := Cond.arrayClass_spec (hts _ wa_byte)
  obtain ⟨pP, cP, kP, p1, p2, p3, p4, p5⟩ := Cond.arrayOver_spec (htb _ ao_in.1)
  obtain ⟨pT, cT, kT, t1, t2, t3, t4, t5⟩ := Cond.arrayOver_spec (htb _ ao_in.2.1)
  obtain ⟨adK, adV, hS, hev⟩ := vk_Sof (args := #[Value.ref b]) (s := s) (N := nS) (tm := tmS) (len := lenS) (byt := bytS) (A := fun q => s.heap.size ≤ q) st_len (fun i hi => hnr _ (memK st_0 (List.mem_map.mpr ⟨i, List.mem_range.mpr hi, rfl⟩))) (fun i hi => hnr _ (memK st_1 (List.mem_map.mpr ⟨i, List.mem_range.mpr hi, rfl⟩))) (fun i hi => hnr _ (memK st_2 (List.mem_map.mpr ⟨i, List.mem_range.mpr hi, rfl⟩))) (fun i hi => hnr _ (memK st_3 (List.mem_map.mpr ⟨i, List.mem_range.mpr hi, rfl⟩)))
    (fun i hi j hj => hnr _ (memK st_4 (List.mem_flatMap.mpr ⟨i, List.mem_range.mpr hi, List.mem_map.mpr ⟨j, List.mem_range.mpr hj, rfl⟩⟩)))
    (fun i j hi hj hij => by
      rcases Nat.lt_or_gt_of_ne hij with h | h
      · exact Or.inl (hnr _ (memK st_5 (List.mem_flatMap.mpr ⟨j, List.mem_range.mpr hj, List.mem_map.mpr ⟨i, List.mem_range.mpr h, rfl⟩⟩)))
      · exact Or.inr (hnr _ (memK st_5 (List.mem_flatMap.mpr ⟨i, List.mem_range.mpr hi, List.mem_map.mpr ⟨j, List.mem_range.mpr h, rfl⟩⟩)))) hA
  have hK : ∀ (ad : Nat → Nat) , va_K ((fun c => (f c).1), (fun c => (f c).2)) classes [(cI, .int), (cC, .char), (cB, .byte), (cP, .object R_Parameter), (cT, .object R_Item)] s := by
    intro ad
    refine ⟨fun c q hq => hf c q hq, fun k q hq => ?_⟩
    match k with
    | 0 => cases hq; exact ⟨fun n z => ⟨fun k h => (by cases h), kI, i2, pI, i3⟩, i1⟩
    | 1 => cases hq; exact ⟨fun n z => ⟨fun k h => (by cases h), kC, c2, pC, c3⟩, c1⟩
    | 2 => cases hq; exact ⟨fun n z => ⟨fun k h => (by cases h), kB, b2, pB, b3⟩, b1⟩
    | 3 => cases hq; exact ⟨fun n z => ⟨fun k h => (by cases h), kP, p3, pP, p4⟩, kP, pP, p3, p4, p1, p5⟩
    | 4 => cases hq; exact ⟨fun n z => ⟨fun k h => (by cases h), kT, t3, pT, t4⟩, kT, pT, t3, t4, t1, t5⟩
    | n + 5 => cases hq
  have hNs : zNs s := ⟨fun q hq => va_Nw.of rfl (htb _ (NF_in q hq)), fun q hq => va_Nw.of rfl (htb _ (NM_in q hq))⟩
  refine ⟨fun c => (f c).1, fun c => (f c).2, fun t => [cI, cC, cB, cP, cT].getD t 0, adK, adV, fun ad => ⟨⟨hK ad, hNs, fun q hq => ?_, fun z hz => ?_, ?_, hS⟩, hK ad, hNs, va_AO.of (htb _ ao_in.1), va_AO.of (htb _ ao_in.2.1)⟩⟩
  · obtain ⟨h1, h2⟩ := LT_at q hq
    have h3 := hev _ h1
    rw [h2] at h3
    exact vk_R.of (htb _ (LT_in q hq)) h3
  · have hz : z = ("java/lang/String", "COMPACT_STRINGS", "Z", (1 : Int32)) := by
      rcases List.mem_cons.mp hz with h | h
      · exact h
      · cases h
    subst hz
    exact va_Zof (htb _ ao_in.2.2.1) (htb _ ao_in.2.2.2.2.1) (va_eqi (hnr _ st_cs.1)) hA
  · exact va_Zqof (htb _ ao_in.2.2.2.1) (htb _ ao_in.2.2.2.2.2) (hnr _ st_cs.2) hA
