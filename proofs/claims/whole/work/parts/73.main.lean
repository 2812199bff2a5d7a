-- every call: both sides answer alike
theorem S00_Rr : Rr 0 S00 := by
  refine ⟨z0, z0, 0, false, by omega, ⟨by decide, by omega, fun j hj => absurd hj (Nat.not_lt_zero j)⟩, by decide, ?_, ?_⟩
  · refine ⟨⟨by decide, by decide, by decide, by decide, by decide, by decide, by decide, by decide, by decide⟩, by decide, fun j hj => absurd hj (Nat.not_lt_zero j), by decide, by decide, fun j hj => absurd hj (Nat.not_lt_zero j)⟩
  · exact ⟨⟨by omega, by omega, by omega, by omega, by omega, by omega, by omega, (fun n hn => by cases hn), fun _ => rfl, fun _ => by omega, fun _ => rfl, fun _ z => by omega⟩, by omega, fun j hj => absurd hj (Nat.not_lt_zero j), by omega⟩
theorem Iv_keep {c : Nat} {S S' : zSt} (h : Iv c S) (hd : Rd S') (hf : Fr S S') : Iv (c + 1) S' := ⟨hd, Rm_keep h.2.1 hf, Rr_up (Rr_keep h.2.2 hf)⟩
theorem pure_all (xs : Nat → Int32) (L : Nat) (hL : L ≤ 1536) : f_law_18 xs L fu 0 S00 = some 1 := by
  refine law_pure Iv ⟨S00_Rd, S00_Rm, S00_Rr⟩ (fun c S h => ⟨h.1, h.2.1, Rr_up h.2.2⟩) ?_ ?_ ?_ ?_ ?_ ?_ ?_ ?_ ?_ ?_ ?_ ?_ ?_ ?_ ?_ ?_ ?_ xs L hL
  · intro c S hc h v
    obtain ⟨r, S1, S2, e1, e2, e3, e4⟩ := op_declare h.1 v
    exact ⟨r, S1, S2, e1, e2, Iv_keep h e3 e4⟩
  · intro c S hc h w hw
    obtain ⟨r, S1, S2, e1, e2, e3, e4⟩ := op_template h.1 w hw
    exact ⟨r, S1, S2, e1, e2, Iv_keep h e3 e4⟩
  · intro c S hc h v w hw
    obtain ⟨r, S1, S2, e1, e2, e3, e4⟩ := op_parameter h.1 v w hw
    exact ⟨r, S1, S2, e1, e2, Iv_keep h e3 e4⟩
  · intro c S hc h
    exact op_check h.1
  · intro c S hc h v
    obtain ⟨r, S1, S2, e1, e2, e3, e4⟩ := op_item h.1 v
    exact ⟨r, S1, S2, e1, e2, Iv_keep h e3 e4⟩
  · intro c S hc h v w hw
    obtain ⟨r, S1, S2, e1, e2, e3, e4⟩ := op_write h.1 v w hw
    exact ⟨r, S1, S2, e1, e2, Iv_keep h e3 e4⟩
  · intro c S hc h v
    obtain ⟨r, S1, S2, e1, e2, e3, e4⟩ := op_empty h.1 v
    exact ⟨r, S1, S2, e1, e2, Iv_keep h e3 e4⟩
  · intro c S hc h
    exact op_send h
  · intro c S hc h v
    exact op_sent h.2.1 v
  · intro c S hc h v
    exact op_feed hc h v
  · intro c S hc h
    exact op_close h
  · intro c S hc h
    exact op_reset h
  · intro c S hc h
    exact op_state h
  · intro c S hc h
    exact op_status h
  · intro c S hc h
    exact op_fields h
  · intro c S hc h
    exact op_length h
  · intro c S hc h v
    exact op_content h v
