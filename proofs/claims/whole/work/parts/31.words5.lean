theorem ws_cut {w : Cond} (big : List Cond) : ∀ (ws : List Cond) (k : Nat), w ∈ ws → w ∈ ws.take k ∨ w ∈ ws.drop k := by
  intro ws k h
  rw [← List.take_append_drop k ws] at h
  exact List.mem_append.mp h
theorem ws_pick {w : Cond} {big l : List Cond} {is : List Nat} (h : l = is.filterMap (fun i => big[i]?)) (hw : w ∈ l) : w ∈ big := by
  rw [h] at hw
  obtain ⟨i, -, hi⟩ := List.mem_filterMap.mp hw
  exact List.mem_of_getElem? hi
theorem WS_len : WS.length = 1058 := by decide +kernel
theorem WS_in (w : Cond) (hw : w ∈ WS) : w ∈ lw_tbl := by
  obtain ⟨k, hk⟩ := List.getElem?_of_mem hw
  have hlt : k < 1058 := by
    have := (List.getElem?_eq_some_iff.mp hk).1
    rw [WS_len] at this
    exact this
  have pick : ∀ (d : Nat), d ≤ k → k < d + 12 → w ∈ (WS.drop d).take 12 := by
    intro d h1 h2
    have : ((WS.drop d).take 12)[k - d]? = some w := by
      rw [List.getElem?_take, if_pos (by omega), List.getElem?_drop, show d + (k - d) = k by omega]
      exact hk
    exact List.mem_of_getElem? this
  by_cases h0 : k < 12
  · exact ws_pick WS_at_0 (pick 0 (by omega) (by omega))
  by_cases h12 : k < 24
  · exact ws_pick WS_at_12 (pick 12 (by omega) (by omega))
  by_cases h24 : k < 36
  · exact ws_pick WS_at_24 (pick 24 (by omega) (by omega))
  by_cases h36 : k < 48
  · exact ws_pick WS_at_36 (pick 36 (by omega) (by omega))
  by_cases h48 : k < 60
  · exact ws_pick WS_at_48 (pick 48 (by omega) (by omega))
  by_cases h60 : k < 72
  · exact ws_pick WS_at_60 (pick 60 (by omega) (by omega))
  by_cases h72 : k < 84
  · exact ws_pick WS_at_72 (pick 72 (by omega) (by omega))
  by_cases h84 : k < 96
  · exact ws_pick WS_at_84 (pick 84 (by omega) (by omega))
  by_cases h96 : k < 108
  · exact ws_pick WS_at_96 (pick 96 (by omega) (by omega))
  by_cases h108 : k < 120
  · exact ws_pick WS_at_108 (pick 108 (by omega) (by omega))
  by_cases h120 : k < 132
  · exact ws_pick WS_at_120 (pick 120 (by omega) (by omega))
  by_cases h132 : k < 144
  · exact ws_pick WS_at_132 (pick 132 (by omega) (by omega))
  by_cases h144 : k < 156
  · exact ws_pick WS_at_144 (pick 144 (by omega) (by omega))
  by_cases h156 : k < 168
  · exact ws_pick WS_at_156 (pick 156 (by omega) (by omega))
  by_cases h168 : k < 180
  · exact ws_pick WS_at_168 (pick 168 (by omega) (by omega))
  by_cases h180 : k < 192
  · exact ws_pick WS_at_180 (pick 180 (by omega) (by omega))
  by_cases h192 : k < 204
  · exact ws_pick WS_at_192 (pick 192 (by omega) (by omega))
  by_cases h204 : k < 216
  · exact ws_pick WS_at_204 (pick 204 (by omega) (by omega))
  by_cases h216 : k < 228
  · exact ws_pick WS_at_216 (pick 216 (by omega) (by omega))
  by_cases h228 : k < 240
  · exact ws_pick WS_at_228 (pick 228 (by omega) (by omega))
  by_cases h240 : k < 252
  · exact ws_pick WS_at_240 (pick 240 (by omega) (by omega))
  by_cases h252 : k < 264
  · exact ws_pick WS_at_252 (pick 252 (by omega) (by omega))
  by_cases h264 : k < 276
  · exact ws_pick WS_at_264 (pick 264 (by omega) (by omega))
  by_cases h276 : k < 288
  · exact ws_pick WS_at_276 (pick 276 (by omega) (by omega))
  by_cases h288 : k < 300
  · exact ws_pick WS_at_288 (pick 288 (by omega) (by omega))
  by_cases h300 : k < 312
  · exact ws_pick WS_at_300 (pick 300 (by omega) (by omega))
  by_cases h312 : k < 324
  · exact ws_pick WS_at_312 (pick 312 (by omega) (by omega))
  by_cases h324 : k < 336
  · exact ws_pick WS_at_324 (pick 324 (by omega) (by omega))
  by_cases h336 : k < 348
  · exact ws_pick WS_at_336 (pick 336 (by omega) (by omega))
  by_cases h348 : k < 360
  · exact ws_pick WS_at_348 (pick 348 (by omega) (by omega))
  by_cases h360 : k < 372
  · exact ws_pick WS_at_360 (pick 360 (by omega) (by omega))
  by_cases h372 : k < 384
  · exact ws_pick WS_at_372 (pick 372 (by omega) (by omega))
  by_cases h384 : k < 396
  · exact ws_pick WS_at_384 (pick 384 (by omega) (by omega))
  by_cases h396 : k < 408
  · exact ws_pick WS_at_396 (pick 396 (by omega) (by omega))
  by_cases h408 : k < 420
  · exact ws_pick WS_at_408 (pick 408 (by omega) (by omega))
  by_cases h420 : k < 432
  · exact ws_pick WS_at_420 (pick 420 (by omega) (by omega))
  by_cases h432 : k < 444
  · exact ws_pick WS_at_432 (pick 432 (by omega) (by omega))
  by_cases h444 : k < 456
  · exact ws_pick WS_at_444 (pick 444 (by omega) (by omega))
  by_cases h456 : k < 468
  · exact ws_pick WS_at_456 (pick 456 (by omega) (by omega))
  by_cases h468 : k < 480
  · exact ws_pick WS_at_468 (pick 468 (by omega) (by omega))
  by_cases h480 : k < 492
  · exact ws_pick WS_at_480 (pick 480 (by omega) (by omega))
  by_cases h492 : k < 504
  · exact ws_pick WS_at_492 (pick 492 (by omega) (by omega))
  by_cases h504 : k < 516
  · exact ws_pick WS_at_504 (pick 504 (by omega) (by omega))
  by_cases h516 : k < 528
  · exact ws_pick WS_at_516 (pick 516 (by omega) (by omega))
  by_cases h528 : k < 540
  · exact ws_pick WS_at_528 (pick 528 (by omega) (by omega))
  by_cases h540 : k < 552
  · exact ws_pick WS_at_540 (pick 540 (by omega) (by omega))
  by_cases h552 : k < 564
  · exact ws_pick WS_at_552 (pick 552 (by omega) (by omega))
  by_cases h564 : k < 576
  · exact ws_pick WS_at_564 (pick 564 (by omega) (by omega))
  by_cases h576 : k < 588
  · exact ws_pick WS_at_576 (pick 576 (by omega) (by omega))
  by_cases h588 : k < 600
  · exact ws_pick WS_at_588 (pick 588 (by omega) (by omega))
  by_cases h600 : k < 612
  · exact ws_pick WS_at_600 (pick 600 (by omega) (by omega))
  by_cases h612 : k < 624
  · exact ws_pick WS_at_612 (pick 612 (by omega) (by omega))
  by_cases h624 : k < 636
  · exact ws_pick WS_at_624 (pick 624 (by omega) (by omega))
  by_cases h636 : k < 648
  · exact ws_pick WS_at_636 (pick 636 (by omega) (by omega))
  by_cases h648 : k < 660
  · exact ws_pick WS_at_648 (pick 648 (by omega) (by omega))
  by_cases h660 : k < 672
  · exact ws_pick WS_at_660 (pick 660 (by omega) (by omega))
  by_cases h672 : k < 684
  · exact ws_pick WS_at_672 (pick 672 (by omega) (by omega))
  by_cases h684 : k < 696
  · exact ws_pick WS_at_684 (pick 684 (by omega) (by omega))
  by_cases h696 : k < 708
  · exact ws_pick WS_at_696 (pick 696 (by omega) (by omega))
  by_cases h708 : k < 720
  · exact ws_pick WS_at_708 (pick 708 (by omega) (by omega))
  by_cases h720 : k < 732
  · exact ws_pick WS_at_720 (pick 720 (by omega) (by omega))
  by_cases h732 : k < 744
  · exact ws_pick WS_at_732 (pick 732 (by omega) (by omega))
  by_cases h744 : k < 756
  · exact ws_pick WS_at_744 (pick 744 (by omega) (by omega))
  by_cases h756 : k < 768
  · exact ws_pick WS_at_756 (pick 756 (by omega) (by omega))
  by_cases h768 : k < 780
  · exact ws_pick WS_at_768 (pick 768 (by omega) (by omega))
  by_cases h780 : k < 792
  · exact ws_pick WS_at_780 (pick 780 (by omega) (by omega))
  by_cases h792 : k < 804
  · exact ws_pick WS_at_792 (pick 792 (by omega) (by omega))
  by_cases h804 : k < 816
  · exact ws_pick WS_at_804 (pick 804 (by omega) (by omega))
  by_cases h816 : k < 828
  · exact ws_pick WS_at_816 (pick 816 (by omega) (by omega))
  by_cases h828 : k < 840
  · exact ws_pick WS_at_828 (pick 828 (by omega) (by omega))
  by_cases h840 : k < 852
  · exact ws_pick WS_at_840 (pick 840 (by omega) (by omega))
  by_cases h852 : k < 864
  · exact ws_pick WS_at_852 (pick 852 (by omega) (by omega))
  by_cases h864 : k < 876
  · exact ws_pick WS_at_864 (pick 864 (by omega) (by omega))
  by_cases h876 : k < 888
  · exact ws_pick WS_at_876 (pick 876 (by omega) (by omega))
  by_cases h888 : k < 900
  · exact ws_pick WS_at_888 (pick 888 (by omega) (by omega))
  by_cases h900 : k < 912
  · exact ws_pick WS_at_900 (pick 900 (by omega) (by omega))
  by_cases h912 : k < 924
  · exact ws_pick WS_at_912 (pick 912 (by omega) (by omega))
  by_cases h924 : k < 936
  · exact ws_pick WS_at_924 (pick 924 (by omega) (by omega))
  by_cases h936 : k < 948
  · exact ws_pick WS_at_936 (pick 936 (by omega) (by omega))
  by_cases h948 : k < 960
  · exact ws_pick WS_at_948 (pick 948 (by omega) (by omega))
  by_cases h960 : k < 972
  · exact ws_pick WS_at_960 (pick 960 (by omega) (by omega))
  by_cases h972 : k < 984
  · exact ws_pick WS_at_972 (pick 972 (by omega) (by omega))
  by_cases h984 : k < 996
  · exact ws_pick WS_at_984 (pick 984 (by omega) (by omega))
  by_cases h996 : k < 1008
  · exact ws_pick WS_at_996 (pick 996 (by omega) (by omega))
  by_cases h1008 : k < 1020
  · exact ws_pick WS_at_1008 (pick 1008 (by omega) (by omega))
  by_cases h1020 : k < 1032
  · exact ws_pick WS_at_1020 (pick 1020 (by omega) (by omega))
  by_cases h1032 : k < 1044
  · exact ws_pick WS_at_1032 (pick 1032 (by omega) (by omega))
  by_cases h1044 : k < 1056
  · exact ws_pick WS_at_1044 (pick 1044 (by omega) (by omega))
  exact ws_pick WS_at_1056 (pick 1056 (by omega) (by omega))
set_option maxRecDepth 100000 in
theorem NF_in : ∀ q ∈ NF, Cond.fieldLinkNest q.1 q.2.1 q.2.2.1 q.2.2.2.1 q.2.2.2.2.1 q.2.2.2.2.2 ∈ lw_tbl := by decide +kernel
set_option maxRecDepth 100000 in
theorem NM_in : ∀ q ∈ NM, Cond.methodLinkNest q.1 q.2.1 q.2.2.1 q.2.2.2 ∈ lw_tbl := by decide +kernel
set_option maxRecDepth 100000 in
theorem LT_in : ∀ q ∈ LT, Cond.stringRef q.1 q.2.1 q.2.2.1 ∈ lw_tbl := by decide +kernel
set_option maxRecDepth 100000 in
theorem ao_in : Cond.arrayOver (.object R_Parameter) ∈ lw_tbl ∧ Cond.arrayOver (.object R_Item) ∈ lw_tbl ∧ Cond.laysStatic "java/lang/String" "COMPACT_STRINGS" "Z" ∈ lw_tbl ∧ Cond.laysStatic "jdk/internal/util/Preconditions" "SIOOBE_FORMATTER" "Ljava/util/function/BiFunction;" ∈ lw_tbl ∧ Cond.initialized "java/lang/String" ∈ lw_tbl ∧ Cond.initialized "jdk/internal/util/Preconditions" ∈ lw_tbl := by decide +kernel
