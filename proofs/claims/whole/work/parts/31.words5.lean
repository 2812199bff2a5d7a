theorem ws_cut {w : Cond} (big : List Cond) : ∀ (ws : List Cond) (k : Nat), w ∈ ws → w ∈ ws.take k ∨ w ∈ ws.drop k := by
  intro ws k h
  rw [← List.take_append_drop k ws] at h
  exact List.mem_append.mp h
theorem ws_pick {w : Cond} {big l : List Cond} {is : List Nat} (h : l = is.filterMap (fun i => big[i]?)) (hw : w ∈ l) : w ∈ big := by
  rw [h] at hw
  obtain ⟨i, -, hi⟩ := List.mem_filterMap.mp hw
  exact List.mem_of_getElem? hi
theorem WS_len : WS.length = 1058 := by decide +kernel
theorem WS_in (w : Cond) (hw : w ∈ WS) : w ∈ lw_tbl := by
  obtain ⟨k, hk⟩ := List.getElem?_of_mem hw
  have hlt : k < 1058 := by
    have := (List.getElem?_eq_some_iff.mp hk).1
    rw [WS_len] at this
    exact this
  have pick : ∀ (d : Nat), d ≤ k → k < d + 60 → w ∈ (WS.drop d).take 60 := by
    intro d h1 h2
    have : ((WS.drop d).take 60)[k - d]? = some w := by
      rw [List.getElem?_take, if_pos (by omega), List.getElem?_drop, show d + (k - d) = k by omega]
      exact hk
    exact List.mem_of_getElem? this
  have pick2 : ∀ (d : Nat), d ≤ k → k < d + 15 → w ∈ (WS.drop d).take 15 := by
    intro d h1 h2
    have : ((WS.drop d).take 15)[k - d]? = some w := by
      rw [List.getElem?_take, if_pos (by omega), List.getElem?_drop, show d + (k - d) = k by omega]
      exact hk
    exact List.mem_of_getElem? this
  by_cases h0 : k < 60
  · exact ws_pick WS_in_0 (pick 0 (by omega) (by omega))
  by_cases h1 : k < 120
  · exact ws_pick WS_in_1 (pick 60 (by omega) (by omega))
  by_cases h2 : k < 180
  · exact ws_pick WS_in_2 (pick 120 (by omega) (by omega))
  by_cases h3 : k < 240
  · exact ws_pick WS_in_3 (pick 180 (by omega) (by omega))
  by_cases h4 : k < 300
  · exact ws_pick WS_in_4 (pick 240 (by omega) (by omega))
  by_cases h5 : k < 360
  · exact ws_pick WS_in_5 (pick 300 (by omega) (by omega))
  by_cases h6 : k < 420
  · exact ws_pick WS_in_6 (pick 360 (by omega) (by omega))
  by_cases h7 : k < 480
  · exact ws_pick WS_in_7 (pick 420 (by omega) (by omega))
  by_cases h8 : k < 540
  · exact ws_pick WS_in_8 (pick 480 (by omega) (by omega))
  by_cases h9 : k < 600
  · exact ws_pick WS_in_9 (pick 540 (by omega) (by omega))
  by_cases h10 : k < 660
  · exact ws_pick WS_in_10 (pick 600 (by omega) (by omega))
  by_cases h11 : k < 720
  · exact ws_pick WS_in_11 (pick 660 (by omega) (by omega))
  by_cases h720 : k < 735
  · exact ws_pick WS_at_720 (pick2 720 (by omega) (by omega))
  by_cases h735 : k < 750
  · exact ws_pick WS_at_735 (pick2 735 (by omega) (by omega))
  by_cases h750 : k < 765
  · exact ws_pick WS_at_750 (pick2 750 (by omega) (by omega))
  by_cases h765 : k < 780
  · exact ws_pick WS_at_765 (pick2 765 (by omega) (by omega))
  by_cases h780 : k < 795
  · exact ws_pick WS_at_780 (pick2 780 (by omega) (by omega))
  by_cases h795 : k < 810
  · exact ws_pick WS_at_795 (pick2 795 (by omega) (by omega))
  by_cases h810 : k < 825
  · exact ws_pick WS_at_810 (pick2 810 (by omega) (by omega))
  by_cases h825 : k < 840
  · exact ws_pick WS_at_825 (pick2 825 (by omega) (by omega))
  by_cases h840 : k < 855
  · exact ws_pick WS_at_840 (pick2 840 (by omega) (by omega))
  by_cases h855 : k < 870
  · exact ws_pick WS_at_855 (pick2 855 (by omega) (by omega))
  by_cases h870 : k < 885
  · exact ws_pick WS_at_870 (pick2 870 (by omega) (by omega))
  by_cases h885 : k < 900
  · exact ws_pick WS_at_885 (pick2 885 (by omega) (by omega))
  by_cases h900 : k < 915
  · exact ws_pick WS_at_900 (pick2 900 (by omega) (by omega))
  by_cases h915 : k < 930
  · exact ws_pick WS_at_915 (pick2 915 (by omega) (by omega))
  by_cases h930 : k < 945
  · exact ws_pick WS_at_930 (pick2 930 (by omega) (by omega))
  by_cases h945 : k < 960
  · exact ws_pick WS_at_945 (pick2 945 (by omega) (by omega))
  by_cases h960 : k < 975
  · exact ws_pick WS_at_960 (pick2 960 (by omega) (by omega))
  by_cases h975 : k < 990
  · exact ws_pick WS_at_975 (pick2 975 (by omega) (by omega))
  by_cases h990 : k < 1005
  · exact ws_pick WS_at_990 (pick2 990 (by omega) (by omega))
  by_cases h1005 : k < 1020
  · exact ws_pick WS_at_1005 (pick2 1005 (by omega) (by omega))
  by_cases h1020 : k < 1035
  · exact ws_pick WS_at_1020 (pick2 1020 (by omega) (by omega))
  by_cases h1035 : k < 1050
  · exact ws_pick WS_at_1035 (pick2 1035 (by omega) (by omega))
  exact ws_pick WS_at_1050 (pick2 1050 (by omega) (by omega))
set_option maxRecDepth 100000 in
theorem NF_in : ∀ q ∈ NF, Cond.fieldLinkNest q.1 q.2.1 q.2.2.1 q.2.2.2.1 q.2.2.2.2.1 q.2.2.2.2.2 ∈ lw_tbl := by decide +kernel
set_option maxRecDepth 100000 in
theorem NM_in : ∀ q ∈ NM, Cond.methodLinkNest q.1 q.2.1 q.2.2.1 q.2.2.2 ∈ lw_tbl := by decide +kernel
set_option maxRecDepth 100000 in
theorem LT_in : ∀ q ∈ LT, Cond.stringRef q.1 q.2.1 q.2.2.1 ∈ lw_tbl := by decide +kernel
set_option maxRecDepth 100000 in
theorem ao_in : Cond.arrayOver (.object R_Parameter) ∈ lw_tbl ∧ Cond.arrayOver (.object R_Item) ∈ lw_tbl ∧ Cond.laysStatic "java/lang/String" "COMPACT_STRINGS" "Z" ∈ lw_tbl ∧ Cond.laysStatic "jdk/internal/util/Preconditions" "SIOOBE_FORMATTER" "Ljava/util/function/BiFunction;" ∈ lw_tbl ∧ Cond.initialized "java/lang/String" ∈ lw_tbl ∧ Cond.initialized "jdk/internal/util/Preconditions" ∈ lw_tbl := by decide +kernel
