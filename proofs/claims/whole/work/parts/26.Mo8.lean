theorem d_Mo_work_0 : decode b_Mo_work 0 = .ok (.aload_n 0, 1) := by decide +kernel
theorem d_Mo_work_1 : decode b_Mo_work 1 = .ok (.iconst 0, 1) := by decide +kernel
theorem d_Mo_work_2 : decode b_Mo_work 2 = .ok (.putfield 231, 3) := by decide +kernel
theorem d_Mo_work_5 : decode b_Mo_work 5 = .ok (.aload_n 0, 1) := by decide +kernel
theorem d_Mo_work_6 : decode b_Mo_work 6 = .ok (.iconst 0, 1) := by decide +kernel
theorem d_Mo_work_7 : decode b_Mo_work 7 = .ok (.putfield 292, 3) := by decide +kernel
theorem d_Mo_work_10 : decode b_Mo_work 10 = .ok (.aload_n 0, 1) := by decide +kernel
theorem d_Mo_work_11 : decode b_Mo_work 11 = .ok (.iconst 0, 1) := by decide +kernel
theorem d_Mo_work_12 : decode b_Mo_work 12 = .ok (.putfield 289, 3) := by decide +kernel
theorem d_Mo_work_15 : decode b_Mo_work 15 = .ok (.aload_n 0, 1) := by decide +kernel
theorem d_Mo_work_16 : decode b_Mo_work 16 = .ok (.iconst 0, 1) := by decide +kernel
theorem d_Mo_work_17 : decode b_Mo_work 17 = .ok (.putfield 304, 3) := by decide +kernel
theorem d_Mo_work_20 : decode b_Mo_work 20 = .ok (.aload_n 0, 1) := by decide +kernel
theorem d_Mo_work_21 : decode b_Mo_work 21 = .ok (.iconst 0, 1) := by decide +kernel
theorem d_Mo_work_22 : decode b_Mo_work 22 = .ok (.putfield 286, 3) := by decide +kernel
theorem d_Mo_work_25 : decode b_Mo_work 25 = .ok (.aload_n 0, 1) := by decide +kernel
theorem d_Mo_work_26 : decode b_Mo_work 26 = .ok (.invokevirtual 307, 3) := by decide +kernel
theorem d_Mo_work_29 : decode b_Mo_work 29 = .ok (.istore_n 1, 1) := by decide +kernel
theorem d_Mo_work_30 : decode b_Mo_work 30 = .ok (.iload_n 1, 1) := by decide +kernel
theorem d_Mo_work_31 : decode b_Mo_work 31 = .ok (.iconst 1, 1) := by decide +kernel
theorem d_Mo_work_32 : decode b_Mo_work 32 = .ok (.if_icmp .ne 35, 3) := by decide +kernel
theorem d_Mo_work_35 : decode b_Mo_work 35 = .ok (.aload_n 0, 1) := by decide +kernel
theorem d_Mo_work_36 : decode b_Mo_work 36 = .ok (.getfield 286, 3) := by decide +kernel
theorem d_Mo_work_39 : decode b_Mo_work 39 = .ok (.sipush 200, 3) := by decide +kernel
theorem d_Mo_work_42 : decode b_Mo_work 42 = .ok (.if_icmp .ge 25, 3) := by decide +kernel
theorem d_Mo_work_45 : decode b_Mo_work 45 = .ok (.aload_n 0, 1) := by decide +kernel
theorem d_Mo_work_46 : decode b_Mo_work 46 = .ok (.getfield 286, 3) := by decide +kernel
theorem d_Mo_work_49 : decode b_Mo_work 49 = .ok (.bipush 101, 2) := by decide +kernel
theorem d_Mo_work_51 : decode b_Mo_work 51 = .ok (.if_icmp .eq 16, 3) := by decide +kernel
theorem d_Mo_work_54 : decode b_Mo_work 54 = .ok (.aload_n 0, 1) := by decide +kernel
theorem d_Mo_work_55 : decode b_Mo_work 55 = .ok (.iconst 0, 1) := by decide +kernel
theorem d_Mo_work_56 : decode b_Mo_work 56 = .ok (.putfield 286, 3) := by decide +kernel
theorem d_Mo_work_59 : decode b_Mo_work 59 = .ok (.aload_n 0, 1) := by decide +kernel
theorem d_Mo_work_60 : decode b_Mo_work 60 = .ok (.invokevirtual 307, 3) := by decide +kernel
theorem d_Mo_work_63 : decode b_Mo_work 63 = .ok (.istore_n 1, 1) := by decide +kernel
theorem d_Mo_work_64 : decode b_Mo_work 64 = .ok (.goto (-34), 3) := by decide +kernel
theorem d_Mo_work_67 : decode b_Mo_work 67 = .ok (.iload_n 1, 1) := by decide +kernel
theorem d_Mo_work_68 : decode b_Mo_work 68 = .ok (.iconst 1, 1) := by decide +kernel
theorem d_Mo_work_69 : decode b_Mo_work 69 = .ok (.if_icmp .ne 72, 3) := by decide +kernel
theorem d_Mo_work_72 : decode b_Mo_work 72 = .ok (.aload_n 0, 1) := by decide +kernel
theorem d_Mo_work_73 : decode b_Mo_work 73 = .ok (.getfield 40, 3) := by decide +kernel
theorem d_Mo_work_76 : decode b_Mo_work 76 = .ok (.aload_n 0, 1) := by decide +kernel
theorem d_Mo_work_77 : decode b_Mo_work 77 = .ok (.getfield 231, 3) := by decide +kernel
theorem d_Mo_work_80 : decode b_Mo_work 80 = .ok (.iconst 1, 1) := by decide +kernel
theorem d_Mo_work_81 : decode b_Mo_work 81 = .ok (.isub, 1) := by decide +kernel
theorem d_Mo_work_82 : decode b_Mo_work 82 = .ok (.iaload, 1) := by decide +kernel
theorem d_Mo_work_83 : decode b_Mo_work 83 = .ok (.istore_n 2, 1) := by decide +kernel
theorem d_Mo_work_84 : decode b_Mo_work 84 = .ok (.aload_n 0, 1) := by decide +kernel
theorem d_Mo_work_85 : decode b_Mo_work 85 = .ok (.getfield 286, 3) := by decide +kernel
theorem d_Mo_work_88 : decode b_Mo_work 88 = .ok (.bipush 101, 2) := by decide +kernel
theorem d_Mo_work_90 : decode b_Mo_work 90 = .ok (.if_icmp .ne 11, 3) := by decide +kernel
theorem d_Mo_work_93 : decode b_Mo_work 93 = .ok (.aload_n 0, 1) := by decide +kernel
theorem d_Mo_work_94 : decode b_Mo_work 94 = .ok (.iconst 3, 1) := by decide +kernel
theorem d_Mo_work_95 : decode b_Mo_work 95 = .ok (.putfield 292, 3) := by decide +kernel
theorem d_Mo_work_98 : decode b_Mo_work 98 = .ok (.goto 40, 3) := by decide +kernel
theorem d_Mo_work_101 : decode b_Mo_work 101 = .ok (.iload_n 2, 1) := by decide +kernel
theorem d_Mo_work_102 : decode b_Mo_work 102 = .ok (.iconst 1, 1) := by decide +kernel
theorem d_Mo_work_103 : decode b_Mo_work 103 = .ok (.if_icmp .eq 23, 3) := by decide +kernel
theorem d_Mo_work_106 : decode b_Mo_work 106 = .ok (.aload_n 0, 1) := by decide +kernel
theorem d_Mo_work_107 : decode b_Mo_work 107 = .ok (.getfield 286, 3) := by decide +kernel
theorem d_Mo_work_110 : decode b_Mo_work 110 = .ok (.sipush 204, 3) := by decide +kernel
theorem d_Mo_work_113 : decode b_Mo_work 113 = .ok (.if_icmp .eq 13, 3) := by decide +kernel
theorem d_Mo_work_116 : decode b_Mo_work 116 = .ok (.aload_n 0, 1) := by decide +kernel
theorem d_Mo_work_117 : decode b_Mo_work 117 = .ok (.getfield 286, 3) := by decide +kernel
theorem d_Mo_work_120 : decode b_Mo_work 120 = .ok (.sipush 304, 3) := by decide +kernel
theorem d_Mo_work_123 : decode b_Mo_work 123 = .ok (.if_icmp .ne 11, 3) := by decide +kernel
theorem d_Mo_work_126 : decode b_Mo_work 126 = .ok (.aload_n 0, 1) := by decide +kernel
theorem d_Mo_work_127 : decode b_Mo_work 127 = .ok (.iconst 2, 1) := by decide +kernel
theorem d_Mo_work_128 : decode b_Mo_work 128 = .ok (.putfield 292, 3) := by decide +kernel
theorem d_Mo_work_131 : decode b_Mo_work 131 = .ok (.goto 7, 3) := by decide +kernel
theorem d_Mo_work_134 : decode b_Mo_work 134 = .ok (.aload_n 0, 1) := by decide +kernel
theorem d_Mo_work_135 : decode b_Mo_work 135 = .ok (.invokevirtual 310, 3) := by decide +kernel
theorem d_Mo_work_138 : decode b_Mo_work 138 = .ok (.goto 16, 3) := by decide +kernel
theorem d_Mo_work_141 : decode b_Mo_work 141 = .ok (.aload_n 0, 1) := by decide +kernel
theorem d_Mo_work_142 : decode b_Mo_work 142 = .ok (.iload_n 1, 1) := by decide +kernel
theorem d_Mo_work_143 : decode b_Mo_work 143 = .ok (.ifCond .ge 7, 3) := by decide +kernel
theorem d_Mo_work_146 : decode b_Mo_work 146 = .ok (.iconst 3, 1) := by decide +kernel
theorem d_Mo_work_147 : decode b_Mo_work 147 = .ok (.goto 4, 3) := by decide +kernel
theorem d_Mo_work_150 : decode b_Mo_work 150 = .ok (.iconst 0, 1) := by decide +kernel
theorem d_Mo_work_151 : decode b_Mo_work 151 = .ok (.putfield 292, 3) := by decide +kernel
theorem d_Mo_work_154 : decode b_Mo_work 154 = .ok (.aload_n 0, 1) := by decide +kernel
theorem d_Mo_work_155 : decode b_Mo_work 155 = .ok (.getfield 313, 3) := by decide +kernel
theorem d_Mo_work_158 : decode b_Mo_work 158 = .ok (.ifCond .eq 27, 3) := by decide +kernel
theorem d_Mo_work_161 : decode b_Mo_work 161 = .ok (.aload_n 0, 1) := by decide +kernel
theorem d_Mo_work_162 : decode b_Mo_work 162 = .ok (.getfield 292, 3) := by decide +kernel
theorem d_Mo_work_165 : decode b_Mo_work 165 = .ok (.iconst 2, 1) := by decide +kernel
theorem d_Mo_work_166 : decode b_Mo_work 166 = .ok (.if_icmp .ge 19, 3) := by decide +kernel
theorem d_Mo_work_169 : decode b_Mo_work 169 = .ok (.aload_n 0, 1) := by decide +kernel
theorem d_Mo_work_170 : decode b_Mo_work 170 = .ok (.aload_n 0, 1) := by decide +kernel
theorem d_Mo_work_171 : decode b_Mo_work 171 = .ok (.getfield 304, 3) := by decide +kernel
theorem d_Mo_work_174 : decode b_Mo_work 174 = .ok (.ifCond .eq 7, 3) := by decide +kernel
theorem d_Mo_work_177 : decode b_Mo_work 177 = .ok (.iconst 2, 1) := by decide +kernel
theorem d_Mo_work_178 : decode b_Mo_work 178 = .ok (.goto 4, 3) := by decide +kernel
theorem d_Mo_work_181 : decode b_Mo_work 181 = .ok (.iconst 3, 1) := by decide +kernel
theorem d_Mo_work_182 : decode b_Mo_work 182 = .ok (.putfield 292, 3) := by decide +kernel
theorem d_Mo_work_185 : decode b_Mo_work 185 = .ok (.return_, 1) := by decide +kernel
def f_Mo_work_182 (t0 : Int32) (S : zSt) : Option zSt := sq (su S 66 23 t0) fun S9 => (some S9)
def f_Mo_work_154 (S : zSt) : Option zSt := (if (S 66 20) = 0 then (some S) else (if 2 ≤ (S 66 23) then (some S) else (if (S 66 30) = 0 then (f_Mo_work_182 3 S) else (f_Mo_work_182 2 S))))
def f_Mo_work_151 (t0 : Int32) (S : zSt) : Option zSt := sq (su S 66 23 t0) fun S8 => (f_Mo_work_154 S8)
def f_Mo_work_138 (S : zSt) : Option zSt := (f_Mo_work_154 S)
def f_Mo_work_126 (S : zSt) : Option zSt := sq (su S 66 23 2) fun S10 => (f_Mo_work_138 S10)
def f_Mo_work_67 (a1 : Int32) (S : zSt) : Option zSt := (if a1 = 1 then gdi ((S 66 21) - 1) 520 ((if (S 66 24) = 101 then sq (su S 66 23 3) fun S12 => (f_Mo_work_138 S12) else (if (S 77 ((S 66 21) - 1).toNatClampNeg) = 1 then (f_Mo_work_126 S) else (if (S 66 24) = 204 then (f_Mo_work_126 S) else (if (S 66 24) = 304 then (f_Mo_work_126 S) else ((f_Mo_after S).bind fun u11 => (f_Mo_work_138 u11))))))) else (if 0 ≤ a1 then (f_Mo_work_151 0 S) else (f_Mo_work_151 3 S)))
def f_Mo_work_30 : Nat → Int32 → zSt → Option zSt
  | 0, _, _ => none
  | n + 1, a1, S => (if a1 = 1 then (if 200 ≤ (S 66 24) then (f_Mo_work_67 a1 S) else (if (S 66 24) = 101 then (f_Mo_work_67 a1 S) else sq (su S 66 24 0) fun S13 => ((f_Mo_head S13).bind fun u14 => ((f_Mo_work_30 n) u14.1 u14.2)))) else (f_Mo_work_67 a1 S))
def f_Mo_work (S : zSt) : Option zSt := sq (su S 66 21 0) fun S1 => sq (su S1 66 23 0) fun S2 => sq (su S2 66 26 0) fun S3 => gdb 0 (sq (su S3 66 30 0) fun S4 => sq (su S4 66 24 0) fun S6 => ((f_Mo_head S6).bind fun u7 => (f_Mo_work_30 fu u7.1 u7.2)))
set_option maxHeartbeats 4000000 in
set_option maxRecDepth 100000 in
theorem c_Mo_work (l : Launch) (g : zG) (hD : GD g) (S : zSt) (u : zSt) (h : f_Mo_work S = some u) : Met l y_Mo_work (mw y_Mo_work b_Mo_work 3 none) (rmD 6) (Pw g [.ref (ga g 66)] S) (Qvs g u) 0 0 (gA g) := by
  refine z_go (own := R_Mo) (lv0 := [(0, .ref (ga g 66))]) hD (by decide) rfl (Nat.le_of_ble_eq_true rfl) rfl ?_
  intro p e s m args below meth c C D ls hl
  have hx := C.1
  have hb := C.2.1
  have hown := C.2.2.2.1
  have hts := C.2.2.2.2.1
  have B182 : ∀ (H : Heap) (locs : List Loc) (S : zSt) (ls : Array Slot) (t0 : Int32), f_Mo_work_182 t0 S = some u → Dy g s S H locs → lv_has ls 3 [] → W p l e (rmD 6) s m args below meth c H locs 0 0 (MQ below (Qvs g u) args s 0 0 (gA g)) (F0 m 182 ls [.int t0, .ref (ga g 66)]) := by
    intro H locs S ls t0 h D hl
    unfold f_Mo_work_182 at h
    refine x_put C D kc_Mo (by decide) sh_66 23 rfl (by decide) wf_Mo_292 rfl rfl t0 rfl ⟨rfl, rfl⟩ d_Mo_work_182 h (fun S9 H locs h D => ?_)
    exact x_vrs C D h d_Mo_work_185
  have B154 : ∀ (H : Heap) (locs : List Loc) (S : zSt) (ls : Array Slot), f_Mo_work_154 S = some u → Dy g s S H locs → lv_has ls 3 [(0, .ref (ga g 66))] → W p l e (rmD 6) s m args below meth c H locs 0 0 (MQ below (Qvs g u) args s 0 0 (gA g)) (F0 m 154 ls []) := by
    intro H locs S ls h D hl
    unfold f_Mo_work_154 at h
    refine lv_aload_n hx hb d_Mo_work_154 rfl (lv_at hl 0 rfl) ?_
    refine x_get (v := .int (S 66 20)) C D kc_Mo (by decide) sh_66 20 rfl (by decide) wf_Mo_313 rfl rfl d_Mo_work_155 ?_
    refine lv_if_eq hx hb d_Mo_work_158 rfl (fun z => ?_) (fun z => ?_)
    · replace h := if_t z h
      exact x_vrs C D h d_Mo_work_185
    · replace h := if_f z h
      refine lv_aload_n hx hb d_Mo_work_161 rfl (lv_at hl 0 rfl) ?_
      refine x_get (v := .int (S 66 23)) C D kc_Mo (by decide) sh_66 23 rfl (by decide) wf_Mo_292 rfl rfl d_Mo_work_162 ?_
      refine lv_iconst (v := 2) hx hb d_Mo_work_165 (by decide) ?_
      refine lv_icmp_ge hx hb d_Mo_work_166 rfl (fun z => ?_) (fun z => ?_)
      · replace h := if_t z h
        exact x_vrs C D h d_Mo_work_185
      · replace h := if_f z h
        refine lv_aload_n hx hb d_Mo_work_169 rfl (lv_at hl 0 rfl) ?_
        refine lv_aload_n hx hb d_Mo_work_170 rfl (lv_at hl 0 rfl) ?_
        refine x_get (v := .int (S 66 30)) C D kc_Mo (by decide) sh_66 30 rfl (by decide) wf_Mo_304 rfl rfl d_Mo_work_171 ?_
        refine lv_if_eq hx hb d_Mo_work_174 rfl (fun z => ?_) (fun z => ?_)
        · replace h := if_t z h
          refine lv_iconst (v := 3) hx hb d_Mo_work_181 (by decide) ?_
          exact B182 _ _ _ _ _ h D (lv_sub hl [] rfl)
        · replace h := if_f z h
          refine lv_iconst (v := 2) hx hb d_Mo_work_177 (by decide) ?_
          refine lv_goto hx hb d_Mo_work_178 rfl ?_
          exact B182 _ _ _ _ _ h D (lv_sub hl [] rfl)
  have B151 : ∀ (H : Heap) (locs : List Loc) (S : zSt) (ls : Array Slot) (t0 : Int32), f_Mo_work_151 t0 S = some u → Dy g s S H locs → lv_has ls 3 [(0, .ref (ga g 66))] → W p l e (rmD 6) s m args below meth c H locs 0 0 (MQ below (Qvs g u) args s 0 0 (gA g)) (F0 m 151 ls [.int t0, .ref (ga g 66)]) := by
    intro H locs S ls t0 h D hl
    unfold f_Mo_work_151 at h
    refine x_put C D kc_Mo (by decide) sh_66 23 rfl (by decide) wf_Mo_292 rfl rfl t0 rfl ⟨rfl, rfl⟩ d_Mo_work_151 h (fun S8 H locs h D => ?_)
    exact B154 _ _ _ _ h D (lv_sub hl [0] rfl)
  have B138 : ∀ (H : Heap) (locs : List Loc) (S : zSt) (ls : Array Slot), f_Mo_work_138 S = some u → Dy g s S H locs → lv_has ls 3 [(0, .ref (ga g 66))] → W p l e (rmD 6) s m args below meth c H locs 0 0 (MQ below (Qvs g u) args s 0 0 (gA g)) (F0 m 138 ls []) := by
    intro H locs S ls h D hl
    unfold f_Mo_work_138 at h
    refine lv_goto hx hb d_Mo_work_138 rfl ?_
    exact B154 _ _ _ _ h D (lv_sub hl [0] rfl)
  have B126 : ∀ (H : Heap) (locs : List Loc) (S : zSt) (ls : Array Slot), f_Mo_work_126 S = some u → Dy g s S H locs → lv_has ls 3 [(0, .ref (ga g 66))] → W p l e (rmD 6) s m args below meth c H locs 0 0 (MQ below (Qvs g u) args s 0 0 (gA g)) (F0 m 126 ls []) := by
    intro H locs S ls h D hl
    unfold f_Mo_work_126 at h
    refine lv_aload_n hx hb d_Mo_work_126 rfl (lv_at hl 0 rfl) ?_
    refine lv_iconst (v := 2) hx hb d_Mo_work_127 (by decide) ?_
    refine x_put C D kc_Mo (by decide) sh_66 23 rfl (by decide) wf_Mo_292 rfl rfl 2 rfl ⟨rfl, rfl⟩ d_Mo_work_128 h (fun S10 H locs h D => ?_)
    refine lv_goto hx hb d_Mo_work_131 rfl ?_
    exact B138 _ _ _ _ h D (lv_sub hl [0] rfl)
  have B67 : ∀ (H : Heap) (locs : List Loc) (S : zSt) (ls : Array Slot) (a1 : Int32), f_Mo_work_67 a1 S = some u → Dy g s S H locs → lv_has ls 3 [(0, .ref (ga g 66)), (1, .int a1)] → W p l e (rmD 6) s m args below meth c H locs 0 0 (MQ below (Qvs g u) args s 0 0 (gA g)) (F0 m 67 ls []) := by
    intro H locs S ls a1 h D hl
    unfold f_Mo_work_67 at h
    refine lv_iload_n hx hb d_Mo_work_67 rfl (lv_at hl 1 rfl) ?_
    refine lv_iconst (v := 1) hx hb d_Mo_work_68 (by decide) ?_
    refine lv_icmp_ne hx hb d_Mo_work_69 rfl (fun z => ?_) (fun z => ?_)
    · replace h := if_f z h
      refine lv_aload_n hx hb d_Mo_work_141 rfl (lv_at hl 0 rfl) ?_
      refine lv_iload_n hx hb d_Mo_work_142 rfl (lv_at hl 1 rfl) ?_
      refine lv_if_ge hx hb d_Mo_work_143 rfl (fun z => ?_) (fun z => ?_)
      · replace h := if_t z h
        refine lv_iconst (v := 0) hx hb d_Mo_work_150 (by decide) ?_
        exact B151 _ _ _ _ _ h D (lv_sub hl [0] rfl)
      · replace h := if_f z h
        refine lv_iconst (v := 3) hx hb d_Mo_work_146 (by decide) ?_
        refine lv_goto hx hb d_Mo_work_147 rfl ?_
        exact B151 _ _ _ _ _ h D (lv_sub hl [0] rfl)
    · replace h := if_t z h
      refine lv_aload_n hx hb d_Mo_work_72 rfl (lv_at hl 0 rfl) ?_
      refine x_get (v := .ref (ga g 77)) C D kc_Mo (by decide) sh_66 19 rfl (by decide) wf_Mo_40 rfl rfl d_Mo_work_73 ?_
      refine lv_aload_n hx hb d_Mo_work_76 rfl (lv_at hl 0 rfl) ?_
      refine x_get (v := .int (S 66 21)) C D kc_Mo (by decide) sh_66 21 rfl (by decide) wf_Mo_231 rfl rfl d_Mo_work_77 ?_
      refine lv_iconst (v := 1) hx hb d_Mo_work_80 (by decide) ?_
      refine lv_isub hx hb d_Mo_work_81 ?_
      refine x_iald C D (by decide) sh_77 d_Mo_work_82 h (fun _ h => ?_)
      refine lv_istore_n (lv' := [(2, .int (S 77 ((S 66 21) - 1).toNatClampNeg)), (0, .ref (ga g 66)), (1, .int a1)]) hx hb d_Mo_work_83 rfl hl (by decide) rfl (fun ls hl => ?_)
      refine lv_aload_n hx hb d_Mo_work_84 rfl (lv_at hl 1 rfl) ?_
      refine x_get (v := .int (S 66 24)) C D kc_Mo (by decide) sh_66 24 rfl (by decide) wf_Mo_286 rfl rfl d_Mo_work_85 ?_
      refine lv_bipush (v := 101) hx hb d_Mo_work_88 (by decide) ?_
      refine lv_icmp_ne hx hb d_Mo_work_90 rfl (fun z => ?_) (fun z => ?_)
      · replace h := if_f z h
        refine lv_iload_n hx hb d_Mo_work_101 rfl (lv_at hl 0 rfl) ?_
        refine lv_iconst (v := 1) hx hb d_Mo_work_102 (by decide) ?_
        refine lv_icmp_eq hx hb d_Mo_work_103 rfl (fun z => ?_) (fun z => ?_)
        · replace h := if_t z h
          exact B126 _ _ _ _ h D (lv_sub hl [1] rfl)
        · replace h := if_f z h
          refine lv_aload_n hx hb d_Mo_work_106 rfl (lv_at hl 1 rfl) ?_
          refine x_get (v := .int (S 66 24)) C D kc_Mo (by decide) sh_66 24 rfl (by decide) wf_Mo_286 rfl rfl d_Mo_work_107 ?_
          refine lv_sipush (v := 204) hx hb d_Mo_work_110 (by decide) ?_
          refine lv_icmp_eq hx hb d_Mo_work_113 rfl (fun z => ?_) (fun z => ?_)
          · replace h := if_t z h
            exact B126 _ _ _ _ h D (lv_sub hl [1] rfl)
          · replace h := if_f z h
            refine lv_aload_n hx hb d_Mo_work_116 rfl (lv_at hl 1 rfl) ?_
            refine x_get (v := .int (S 66 24)) C D kc_Mo (by decide) sh_66 24 rfl (by decide) wf_Mo_286 rfl rfl d_Mo_work_117 ?_
            refine lv_sipush (v := 304) hx hb d_Mo_work_120 (by decide) ?_
            refine lv_icmp_ne hx hb d_Mo_work_123 rfl (fun z => ?_) (fun z => ?_)
            · replace h := if_f z h
              refine lv_aload_n hx hb d_Mo_work_134 rfl (lv_at hl 1 rfl) ?_
              obtain ⟨u11, hu11, h⟩ := bd_some h
              refine x_cvs (rest := []) (r_V C D (c_Mo_after l g hD S u11 hu11) wc_Mo_after wm_Mo_310 wi_Mo_after wd_Mo_after (by decide) sh_66 kc_Mo.1 rfl rfl hl (Nat.le_of_ble_eq_true rfl) (by decide) d_Mo_work_135) D (fun H locs D => ?_)
              exact B138 _ _ _ _ h D (lv_sub hl [1] rfl)
            · replace h := if_t z h
              exact B126 _ _ _ _ h D (lv_sub hl [1] rfl)
      · replace h := if_t z h
        refine lv_aload_n hx hb d_Mo_work_93 rfl (lv_at hl 1 rfl) ?_
        refine lv_iconst (v := 3) hx hb d_Mo_work_94 (by decide) ?_
        refine x_put C D kc_Mo (by decide) sh_66 23 rfl (by decide) wf_Mo_292 rfl rfl 3 rfl ⟨rfl, rfl⟩ d_Mo_work_95 h (fun S12 H locs h D => ?_)
        refine lv_goto hx hb d_Mo_work_98 rfl ?_
        exact B138 _ _ _ _ h D (lv_sub hl [1] rfl)
  have L30 : ∀ (n : Nat) (H : Heap) (locs : List Loc) (S : zSt) (ls : Array Slot) (a1 : Int32), f_Mo_work_30 n a1 S = some u → Dy g s S H locs → lv_has ls 3 [(0, .ref (ga g 66)), (1, .int a1)] → W p l e (rmD 6) s m args below meth c H locs 0 0 (MQ below (Qvs g u) args s 0 0 (gA g)) (F0 m 30 ls []) := by
    intro n
    induction n with
    | zero => intro H locs S ls a1 h D hl; rw [f_Mo_work_30] at h; cases h
    | succ n hK30 =>
      intro H locs S ls a1 h D hl
      rw [f_Mo_work_30] at h
      refine lv_iload_n hx hb d_Mo_work_30 rfl (lv_at hl 1 rfl) ?_
      refine lv_iconst (v := 1) hx hb d_Mo_work_31 (by decide) ?_
      refine lv_icmp_ne hx hb d_Mo_work_32 rfl (fun z => ?_) (fun z => ?_)
      · replace h := if_f z h
        exact B67 _ _ _ _ _ h D (lv_sub hl [0, 1] rfl)
      · replace h := if_t z h
        refine lv_aload_n hx hb d_Mo_work_35 rfl (lv_at hl 0 rfl) ?_
        refine x_get (v := .int (S 66 24)) C D kc_Mo (by decide) sh_66 24 rfl (by decide) wf_Mo_286 rfl rfl d_Mo_work_36 ?_
        refine lv_sipush (v := 200) hx hb d_Mo_work_39 (by decide) ?_
        refine lv_icmp_ge hx hb d_Mo_work_42 rfl (fun z => ?_) (fun z => ?_)
        · replace h := if_t z h
          exact B67 _ _ _ _ _ h D (lv_sub hl [0, 1] rfl)
        · replace h := if_f z h
          refine lv_aload_n hx hb d_Mo_work_45 rfl (lv_at hl 0 rfl) ?_
          refine x_get (v := .int (S 66 24)) C D kc_Mo (by decide) sh_66 24 rfl (by decide) wf_Mo_286 rfl rfl d_Mo_work_46 ?_
          refine lv_bipush (v := 101) hx hb d_Mo_work_49 (by decide) ?_
          refine lv_icmp_eq hx hb d_Mo_work_51 rfl (fun z => ?_) (fun z => ?_)
          · replace h := if_t z h
            exact B67 _ _ _ _ _ h D (lv_sub hl [0, 1] rfl)
          · replace h := if_f z h
            refine lv_aload_n hx hb d_Mo_work_54 rfl (lv_at hl 0 rfl) ?_
            refine lv_iconst (v := 0) hx hb d_Mo_work_55 (by decide) ?_
            refine x_put C D kc_Mo (by decide) sh_66 24 rfl (by decide) wf_Mo_286 rfl rfl 0 rfl ⟨rfl, rfl⟩ d_Mo_work_56 h (fun S13 H locs h D => ?_)
            refine lv_aload_n hx hb d_Mo_work_59 rfl (lv_at hl 0 rfl) ?_
            obtain ⟨u14, hu14, h⟩ := bd_some h
            refine x_cis (rest := []) (r_V C D (c_Mo_head l g hD S13 u14 hu14) wc_Mo_head wm_Mo_307 wi_Mo_head wd_Mo_head (by decide) sh_66 kc_Mo.1 rfl rfl hl (Nat.le_of_ble_eq_true rfl) (by decide) d_Mo_work_60) D (fun H locs D => ?_)
            refine lv_istore_n (lv' := [(1, .int u14.1), (0, .ref (ga g 66))]) hx hb d_Mo_work_63 rfl hl (by decide) rfl (fun ls hl => ?_)
            refine lv_goto hx hb d_Mo_work_64 rfl ?_
            exact hK30 _ _ _ _ _ h D (lv_sub hl [1, 0] rfl)
  unfold f_Mo_work at h
  refine lv_aload_n hx hb d_Mo_work_0 rfl (lv_at hl 0 rfl) ?_
  refine lv_iconst (v := 0) hx hb d_Mo_work_1 (by decide) ?_
  refine x_put C D kc_Mo (by decide) sh_66 21 rfl (by decide) wf_Mo_231 rfl rfl 0 rfl ⟨rfl, rfl⟩ d_Mo_work_2 h (fun S1 H locs h D => ?_)
  refine lv_aload_n hx hb d_Mo_work_5 rfl (lv_at hl 0 rfl) ?_
  refine lv_iconst (v := 0) hx hb d_Mo_work_6 (by decide) ?_
  refine x_put C D kc_Mo (by decide) sh_66 23 rfl (by decide) wf_Mo_292 rfl rfl 0 rfl ⟨rfl, rfl⟩ d_Mo_work_7 h (fun S2 H locs h D => ?_)
  refine lv_aload_n hx hb d_Mo_work_10 rfl (lv_at hl 0 rfl) ?_
  refine lv_iconst (v := 0) hx hb d_Mo_work_11 (by decide) ?_
  refine x_put C D kc_Mo (by decide) sh_66 26 rfl (by decide) wf_Mo_289 rfl rfl 0 rfl ⟨rfl, rfl⟩ d_Mo_work_12 h (fun S3 H locs h D => ?_)
  refine lv_aload_n hx hb d_Mo_work_15 rfl (lv_at hl 0 rfl) ?_
  refine lv_iconst (v := 0) hx hb d_Mo_work_16 (by decide) ?_
  obtain ⟨z5, h⟩ := gdb_some h
  refine x_put C D kc_Mo (by decide) sh_66 30 rfl (by decide) wf_Mo_304 rfl rfl 0 rfl z5 d_Mo_work_17 h (fun S4 H locs h D => ?_)
  refine lv_aload_n hx hb d_Mo_work_20 rfl (lv_at hl 0 rfl) ?_
  refine lv_iconst (v := 0) hx hb d_Mo_work_21 (by decide) ?_
  refine x_put C D kc_Mo (by decide) sh_66 24 rfl (by decide) wf_Mo_286 rfl rfl 0 rfl ⟨rfl, rfl⟩ d_Mo_work_22 h (fun S6 H locs h D => ?_)
  refine lv_aload_n hx hb d_Mo_work_25 rfl (lv_at hl 0 rfl) ?_
  obtain ⟨u7, hu7, h⟩ := bd_some h
  refine x_cis (rest := []) (r_V C D (c_Mo_head l g hD S6 u7 hu7) wc_Mo_head wm_Mo_307 wi_Mo_head wd_Mo_head (by decide) sh_66 kc_Mo.1 rfl rfl hl (Nat.le_of_ble_eq_true rfl) (by decide) d_Mo_work_26) D (fun H locs D => ?_)
  refine lv_istore_n (lv' := [(1, .int u7.1), (0, .ref (ga g 66))]) hx hb d_Mo_work_29 rfl hl (by decide) rfl (fun ls hl => ?_)
  exact L30 _ _ _ _ _ _ h D (lv_sub hl [1, 0] rfl)
theorem d_Mo_target_0 : decode b_Mo_target 0 = .ok (.aload_n 0, 1) := by decide +kernel
theorem d_Mo_target_1 : decode b_Mo_target 1 = .ok (.iconst 0, 1) := by decide +kernel
theorem d_Mo_target_2 : decode b_Mo_target 2 = .ok (.putfield 137, 3) := by decide +kernel
theorem d_Mo_target_5 : decode b_Mo_target 5 = .ok (.iconst 0, 1) := by decide +kernel
theorem d_Mo_target_6 : decode b_Mo_target 6 = .ok (.istore_n 1, 1) := by decide +kernel
theorem d_Mo_target_7 : decode b_Mo_target 7 = .ok (.iload_n 1, 1) := by decide +kernel
theorem d_Mo_target_8 : decode b_Mo_target 8 = .ok (.aload_n 0, 1) := by decide +kernel
theorem d_Mo_target_9 : decode b_Mo_target 9 = .ok (.getfield 50, 3) := by decide +kernel
theorem d_Mo_target_12 : decode b_Mo_target 12 = .ok (.if_icmp .ge 44, 3) := by decide +kernel
theorem d_Mo_target_15 : decode b_Mo_target 15 = .ok (.aload_n 0, 1) := by decide +kernel
theorem d_Mo_target_16 : decode b_Mo_target 16 = .ok (.getfield 7, 3) := by decide +kernel
theorem d_Mo_target_19 : decode b_Mo_target 19 = .ok (.iload_n 1, 1) := by decide +kernel
theorem d_Mo_target_20 : decode b_Mo_target 20 = .ok (.iaload, 1) := by decide +kernel
theorem d_Mo_target_21 : decode b_Mo_target 21 = .ok (.bipush 123, 2) := by decide +kernel
theorem d_Mo_target_23 : decode b_Mo_target 23 = .ok (.if_icmp .ne 17, 3) := by decide +kernel
theorem d_Mo_target_26 : decode b_Mo_target 26 = .ok (.aload_n 0, 1) := by decide +kernel
theorem d_Mo_target_27 : decode b_Mo_target 27 = .ok (.iload_n 1, 1) := by decide +kernel
theorem d_Mo_target_28 : decode b_Mo_target 28 = .ok (.invokevirtual 175, 3) := by decide +kernel
theorem d_Mo_target_31 : decode b_Mo_target 31 = .ok (.aload_n 0, 1) := by decide +kernel
theorem d_Mo_target_32 : decode b_Mo_target 32 = .ok (.iload_n 1, 1) := by decide +kernel
theorem d_Mo_target_33 : decode b_Mo_target 33 = .ok (.invokevirtual 76, 3) := by decide +kernel
theorem d_Mo_target_36 : decode b_Mo_target 36 = .ok (.istore_n 1, 1) := by decide +kernel
theorem d_Mo_target_37 : decode b_Mo_target 37 = .ok (.goto (-30), 3) := by decide +kernel
theorem d_Mo_target_40 : decode b_Mo_target 40 = .ok (.aload_n 0, 1) := by decide +kernel
theorem d_Mo_target_41 : decode b_Mo_target 41 = .ok (.aload_n 0, 1) := by decide +kernel
theorem d_Mo_target_42 : decode b_Mo_target 42 = .ok (.getfield 7, 3) := by decide +kernel
theorem d_Mo_target_45 : decode b_Mo_target 45 = .ok (.iload_n 1, 1) := by decide +kernel
theorem d_Mo_target_46 : decode b_Mo_target 46 = .ok (.iaload, 1) := by decide +kernel
theorem d_Mo_target_47 : decode b_Mo_target 47 = .ok (.invokevirtual 142, 3) := by decide +kernel
theorem d_Mo_target_50 : decode b_Mo_target 50 = .ok (.iinc 1 1, 3) := by decide +kernel
theorem d_Mo_target_53 : decode b_Mo_target 53 = .ok (.goto (-46), 3) := by decide +kernel
theorem d_Mo_target_56 : decode b_Mo_target 56 = .ok (.iconst 0, 1) := by decide +kernel
theorem d_Mo_target_57 : decode b_Mo_target 57 = .ok (.istore_n 2, 1) := by decide +kernel
theorem d_Mo_target_58 : decode b_Mo_target 58 = .ok (.iload_n 2, 1) := by decide +kernel
theorem d_Mo_target_59 : decode b_Mo_target 59 = .ok (.aload_n 0, 1) := by decide +kernel
theorem d_Mo_target_60 : decode b_Mo_target 60 = .ok (.getfield 53, 3) := by decide +kernel
theorem d_Mo_target_63 : decode b_Mo_target 63 = .ok (.if_icmp .ge 83, 3) := by decide +kernel
theorem d_Mo_target_66 : decode b_Mo_target 66 = .ok (.iconst 0, 1) := by decide +kernel
theorem d_Mo_target_67 : decode b_Mo_target 67 = .ok (.istore_n 3, 1) := by decide +kernel
theorem d_Mo_target_68 : decode b_Mo_target 68 = .ok (.aload_n 0, 1) := by decide +kernel
theorem d_Mo_target_69 : decode b_Mo_target 69 = .ok (.getfield 13, 3) := by decide +kernel
theorem d_Mo_target_72 : decode b_Mo_target 72 = .ok (.iload_n 2, 1) := by decide +kernel
theorem d_Mo_target_73 : decode b_Mo_target 73 = .ok (.iaload, 1) := by decide +kernel
theorem d_Mo_target_74 : decode b_Mo_target 74 = .ok (.iconst 2, 1) := by decide +kernel
theorem d_Mo_target_75 : decode b_Mo_target 75 = .ok (.if_icmp .ne 65, 3) := by decide +kernel
theorem d_Mo_target_78 : decode b_Mo_target 78 = .ok (.iload_n 3, 1) := by decide +kernel
theorem d_Mo_target_79 : decode b_Mo_target 79 = .ok (.aload_n 0, 1) := by decide +kernel
theorem d_Mo_target_80 : decode b_Mo_target 80 = .ok (.getfield 19, 3) := by decide +kernel
theorem d_Mo_target_83 : decode b_Mo_target 83 = .ok (.iload_n 2, 1) := by decide +kernel
theorem d_Mo_target_84 : decode b_Mo_target 84 = .ok (.iaload, 1) := by decide +kernel
theorem d_Mo_target_85 : decode b_Mo_target 85 = .ok (.if_icmp .ge 55, 3) := by decide +kernel
theorem d_Mo_target_88 : decode b_Mo_target 88 = .ok (.aload_n 0, 1) := by decide +kernel
theorem d_Mo_target_89 : decode b_Mo_target 89 = .ok (.aload_n 0, 1) := by decide +kernel
theorem d_Mo_target_90 : decode b_Mo_target 90 = .ok (.getfield 137, 3) := by decide +kernel
theorem d_Mo_target_93 : decode b_Mo_target 93 = .ok (.ifCond .eq 8, 3) := by decide +kernel
theorem d_Mo_target_96 : decode b_Mo_target 96 = .ok (.bipush 38, 2) := by decide +kernel
theorem d_Mo_target_98 : decode b_Mo_target 98 = .ok (.goto 5, 3) := by decide +kernel
theorem d_Mo_target_101 : decode b_Mo_target 101 = .ok (.bipush 63, 2) := by decide +kernel
theorem d_Mo_target_103 : decode b_Mo_target 103 = .ok (.invokevirtual 142, 3) := by decide +kernel
theorem d_Mo_target_106 : decode b_Mo_target 106 = .ok (.aload_n 0, 1) := by decide +kernel
theorem d_Mo_target_107 : decode b_Mo_target 107 = .ok (.aload_n 0, 1) := by decide +kernel
theorem d_Mo_target_108 : decode b_Mo_target 108 = .ok (.getfield 16, 3) := by decide +kernel
theorem d_Mo_target_111 : decode b_Mo_target 111 = .ok (.iload_n 2, 1) := by decide +kernel
theorem d_Mo_target_112 : decode b_Mo_target 112 = .ok (.iaload, 1) := by decide +kernel
theorem d_Mo_target_113 : decode b_Mo_target 113 = .ok (.invokevirtual 142, 3) := by decide +kernel
theorem d_Mo_target_116 : decode b_Mo_target 116 = .ok (.aload_n 0, 1) := by decide +kernel
theorem d_Mo_target_117 : decode b_Mo_target 117 = .ok (.bipush 61, 2) := by decide +kernel
theorem d_Mo_target_119 : decode b_Mo_target 119 = .ok (.invokevirtual 142, 3) := by decide +kernel
theorem d_Mo_target_122 : decode b_Mo_target 122 = .ok (.aload_n 0, 1) := by decide +kernel
theorem d_Mo_target_123 : decode b_Mo_target 123 = .ok (.iconst 3, 1) := by decide +kernel
theorem d_Mo_target_124 : decode b_Mo_target 124 = .ok (.iload_n 2, 1) := by decide +kernel
theorem d_Mo_target_125 : decode b_Mo_target 125 = .ok (.imul, 1) := by decide +kernel
theorem d_Mo_target_126 : decode b_Mo_target 126 = .ok (.iload_n 3, 1) := by decide +kernel
theorem d_Mo_target_127 : decode b_Mo_target 127 = .ok (.iadd, 1) := by decide +kernel
theorem d_Mo_target_128 : decode b_Mo_target 128 = .ok (.bipush 8, 2) := by decide +kernel
theorem d_Mo_target_130 : decode b_Mo_target 130 = .ok (.iconst 0, 1) := by decide +kernel
theorem d_Mo_target_131 : decode b_Mo_target 131 = .ok (.invokevirtual 164, 3) := by decide +kernel
theorem d_Mo_target_134 : decode b_Mo_target 134 = .ok (.iinc 3 1, 3) := by decide +kernel
theorem d_Mo_target_137 : decode b_Mo_target 137 = .ok (.goto (-69), 3) := by decide +kernel
theorem d_Mo_target_140 : decode b_Mo_target 140 = .ok (.iinc 2 1, 3) := by decide +kernel
theorem d_Mo_target_143 : decode b_Mo_target 143 = .ok (.goto (-85), 3) := by decide +kernel
theorem d_Mo_target_146 : decode b_Mo_target 146 = .ok (.return_, 1) := by decide +kernel
def f_Mo_target_140 (K58 : Int32 → zSt → Option zSt) (a2 : Int32) (S : zSt) : Option zSt := (K58 (a2 + 1) S)
def f_Mo_target_103 (K58 : Int32 → zSt → Option zSt) (K68 : Int32 → Int32 → zSt → Option zSt) (a2 : Int32) (a3 : Int32) (t0 : Int32) (S : zSt) : Option zSt := ((f_Mo_put t0 S).bind fun u3 => gdi a2 6 (((f_Mo_put (u3 69 a2.toNatClampNeg) u3).bind fun u4 => ((f_Mo_put 61 u4).bind fun u5 => ((f_Mo_encode ((3 * a2) + a3) 8 0 u5).bind fun u6 => (K68 a2 (a3 + 1) u6))))))
def f_Mo_target_68 (K58 : Int32 → zSt → Option zSt) : Nat → Int32 → Int32 → zSt → Option zSt
  | 0, _, _, _ => none
  | n + 1, a2, a3, S => gdi a2 6 ((if (S 68 a2.toNatClampNeg) = 2 then gdi a2 6 ((if (S 70 a2.toNatClampNeg) ≤ a3 then (f_Mo_target_140 K58 a2 S) else (if (S 66 13) = 0 then (f_Mo_target_103 K58 (f_Mo_target_68 K58 n) a2 a3 63 S) else (f_Mo_target_103 K58 (f_Mo_target_68 K58 n) a2 a3 38 S)))) else (f_Mo_target_140 K58 a2 S)))
def f_Mo_target_58 : Nat → Int32 → zSt → Option zSt
  | 0, _, _ => none
  | n + 1, a2, S => (if (S 66 3) ≤ a2 then (some S) else (f_Mo_target_68 (f_Mo_target_58 n) fu a2 0 S))
def f_Mo_target_7 : Nat → Int32 → zSt → Option zSt
  | 0, _, _ => none
  | n + 1, a1, S => (if (S 66 1) ≤ a1 then (f_Mo_target_58 fu 0 S) else gdi a1 40 ((if (S 67 a1.toNatClampNeg) = 123 then ((f_Mo_expression a1 S).bind fun u8 => ((f_Mo_behind a1 u8).bind fun u9 => ((f_Mo_target_7 n) u9 u8))) else gdi a1 40 (((f_Mo_put (S 67 a1.toNatClampNeg) S).bind fun u7 => ((f_Mo_target_7 n) (a1 + 1) u7))))))
def f_Mo_target (S : zSt) : Option zSt := gdb 0 (sq (su S 66 13 0) fun S1 => (f_Mo_target_7 fu 0 S1))
set_option maxHeartbeats 4000000 in
set_option maxRecDepth 100000 in
theorem c_Mo_target (l : Launch) (g : zG) (hD : GD g) (S : zSt) (u : zSt) (h : f_Mo_target S = some u) : Met l y_Mo_target (mw y_Mo_target b_Mo_target 4 none) (rmD 7) (Pw g [.ref (ga g 66)] S) (Qvs g u) 0 0 (gA g) := by
  refine z_go (own := R_Mo) (lv0 := [(0, .ref (ga g 66))]) hD (by decide) rfl (Nat.le_of_ble_eq_true rfl) rfl ?_
  intro p e s m args below meth c C D ls hl
  have hx := C.1
  have hb := C.2.1
  have hown := C.2.2.2.1
  have hts := C.2.2.2.2.1
  have B140 : ∀ (K58 : Int32 → zSt → Option zSt) (hK58 : ∀ (H : Heap) (locs : List Loc) (S : zSt) (ls : Array Slot) (a2 : Int32), K58 a2 S = some u → Dy g s S H locs → lv_has ls 4 [(0, .ref (ga g 66)), (2, .int a2)] → W p l e (rmD 7) s m args below meth c H locs 0 0 (MQ below (Qvs g u) args s 0 0 (gA g)) (F0 m 58 ls [])) (H : Heap) (locs : List Loc) (S : zSt) (ls : Array Slot) (a2 : Int32), f_Mo_target_140 K58 a2 S = some u → Dy g s S H locs → lv_has ls 4 [(0, .ref (ga g 66)), (2, .int a2)] → W p l e (rmD 7) s m args below meth c H locs 0 0 (MQ below (Qvs g u) args s 0 0 (gA g)) (F0 m 140 ls []) := by
    intro K58 hK58 H locs S ls a2 h D hl
    unfold f_Mo_target_140 at h
    refine lv_iinc (k := 1) (lv' := [(2, .int (a2 + 1)), (0, .ref (ga g 66))]) hx hb d_Mo_target_140 hl rfl (ii1 _) (by decide) rfl (fun ls hl => ?_)
    refine lv_goto hx hb d_Mo_target_143 rfl ?_
    exact hK58 _ _ _ _ _ h D (lv_sub hl [1, 0] rfl)
  have B103 : ∀ (K58 : Int32 → zSt → Option zSt) (hK58 : ∀ (H : Heap) (locs : List Loc) (S : zSt) (ls : Array Slot) (a2 : Int32), K58 a2 S = some u → Dy g s S H locs → lv_has ls 4 [(0, .ref (ga g 66)), (2, .int a2)] → W p l e (rmD 7) s m args below meth c H locs 0 0 (MQ below (Qvs g u) args s 0 0 (gA g)) (F0 m 58 ls [])) (K68 : Int32 → Int32 → zSt → Option zSt) (hK68 : ∀ (H : Heap) (locs : List Loc) (S : zSt) (ls : Array Slot) (a2 : Int32) (a3 : Int32), K68 a2 a3 S = some u → Dy g s S H locs → lv_has ls 4 [(0, .ref (ga g 66)), (2, .int a2), (3, .int a3)] → W p l e (rmD 7) s m args below meth c H locs 0 0 (MQ below (Qvs g u) args s 0 0 (gA g)) (F0 m 68 ls [])) (H : Heap) (locs : List Loc) (S : zSt) (ls : Array Slot) (a2 : Int32) (a3 : Int32) (t0 : Int32), f_Mo_target_103 K58 K68 a2 a3 t0 S = some u → Dy g s S H locs → lv_has ls 4 [(0, .ref (ga g 66)), (2, .int a2), (3, .int a3)] → W p l e (rmD 7) s m args below meth c H locs 0 0 (MQ below (Qvs g u) args s 0 0 (gA g)) (F0 m 103 ls [.int t0, .ref (ga g 66)]) := by
    intro K58 hK58 K68 hK68 H locs S ls a2 a3 t0 h D hl
    unfold f_Mo_target_103 at h
    obtain ⟨u3, hu3, h⟩ := bd_some h
    refine x_cvs (rest := []) (r_V C D (c_Mo_put l g hD t0 S u3 hu3) wc_Mo_put wm_Mo_142 wi_Mo_put wd_Mo_put (by decide) sh_66 kc_Mo.1 rfl rfl hl (Nat.le_of_ble_eq_true rfl) (by decide) d_Mo_target_103) D (fun H locs D => ?_)
    refine lv_aload_n hx hb d_Mo_target_106 rfl (lv_at hl 0 rfl) ?_
    refine lv_aload_n hx hb d_Mo_target_107 rfl (lv_at hl 0 rfl) ?_
    refine x_get (v := .ref (ga g 69)) C D kc_Mo (by decide) sh_66 5 rfl (by decide) wf_Mo_16 rfl rfl d_Mo_target_108 ?_
    refine lv_iload_n hx hb d_Mo_target_111 rfl (lv_at hl 1 rfl) ?_
    refine x_iald C D (by decide) sh_69 d_Mo_target_112 h (fun _ h => ?_)
    obtain ⟨u4, hu4, h⟩ := bd_some h
    refine x_cvs (rest := []) (r_V C D (c_Mo_put l g hD (u3 69 a2.toNatClampNeg) u3 u4 hu4) wc_Mo_put wm_Mo_142 wi_Mo_put wd_Mo_put (by decide) sh_66 kc_Mo.1 rfl rfl hl (Nat.le_of_ble_eq_true rfl) (by decide) d_Mo_target_113) D (fun H locs D => ?_)
    refine lv_aload_n hx hb d_Mo_target_116 rfl (lv_at hl 0 rfl) ?_
    refine lv_bipush (v := 61) hx hb d_Mo_target_117 (by decide) ?_
    obtain ⟨u5, hu5, h⟩ := bd_some h
    refine x_cvs (rest := []) (r_V C D (c_Mo_put l g hD 61 u4 u5 hu5) wc_Mo_put wm_Mo_142 wi_Mo_put wd_Mo_put (by decide) sh_66 kc_Mo.1 rfl rfl hl (Nat.le_of_ble_eq_true rfl) (by decide) d_Mo_target_119) D (fun H locs D => ?_)
    refine lv_aload_n hx hb d_Mo_target_122 rfl (lv_at hl 0 rfl) ?_
    refine lv_iconst (v := 3) hx hb d_Mo_target_123 (by decide) ?_
    refine lv_iload_n hx hb d_Mo_target_124 rfl (lv_at hl 1 rfl) ?_
    refine lv_imul hx hb d_Mo_target_125 ?_
    refine lv_iload_n hx hb d_Mo_target_126 rfl (lv_at hl 2 rfl) ?_
    refine lv_iadd hx hb d_Mo_target_127 ?_
    refine lv_bipush (v := 8) hx hb d_Mo_target_128 (by decide) ?_
    refine lv_iconst (v := 0) hx hb d_Mo_target_130 (by decide) ?_
    obtain ⟨u6, hu6, h⟩ := bd_some h
    refine x_cvs (rest := []) (r_V C D (c_Mo_encode l g hD ((3 * a2) + a3) 8 0 u5 u6 hu6) wc_Mo_encode wm_Mo_164 wi_Mo_encode wd_Mo_encode (by decide) sh_66 kc_Mo.1 rfl rfl hl (Nat.le_of_ble_eq_true rfl) (by decide) d_Mo_target_131) D (fun H locs D => ?_)
    refine lv_iinc (k := 2) (lv' := [(3, .int (a3 + 1)), (0, .ref (ga g 66)), (2, .int a2)]) hx hb d_Mo_target_134 hl rfl (ii1 _) (by decide) rfl (fun ls hl => ?_)
    refine lv_goto hx hb d_Mo_target_137 rfl ?_
    exact hK68 _ _ _ _ _ _ h D (lv_sub hl [1, 2, 0] rfl)
  have L68 : ∀ (K58 : Int32 → zSt → Option zSt) (hK58 : ∀ (H : Heap) (locs : List Loc) (S : zSt) (ls : Array Slot) (a2 : Int32), K58 a2 S = some u → Dy g s S H locs → lv_has ls 4 [(0, .ref (ga g 66)), (2, .int a2)] → W p l e (rmD 7) s m args below meth c H locs 0 0 (MQ below (Qvs g u) args s 0 0 (gA g)) (F0 m 58 ls [])) (n : Nat) (H : Heap) (locs : List Loc) (S : zSt) (ls : Array Slot) (a2 : Int32) (a3 : Int32), f_Mo_target_68 K58 n a2 a3 S = some u → Dy g s S H locs → lv_has ls 4 [(0, .ref (ga g 66)), (2, .int a2), (3, .int a3)] → W p l e (rmD 7) s m args below meth c H locs 0 0 (MQ below (Qvs g u) args s 0 0 (gA g)) (F0 m 68 ls []) := by
    intro K58 hK58 n
    induction n with
    | zero => intro H locs S ls a2 a3 h D hl; rw [f_Mo_target_68] at h; cases h
    | succ n hK68 =>
      intro H locs S ls a2 a3 h D hl
      rw [f_Mo_target_68] at h
      refine lv_aload_n hx hb d_Mo_target_68 rfl (lv_at hl 0 rfl) ?_
      refine x_get (v := .ref (ga g 68)) C D kc_Mo (by decide) sh_66 4 rfl (by decide) wf_Mo_13 rfl rfl d_Mo_target_69 ?_
      refine lv_iload_n hx hb d_Mo_target_72 rfl (lv_at hl 1 rfl) ?_
      refine x_iald C D (by decide) sh_68 d_Mo_target_73 h (fun _ h => ?_)
      refine lv_iconst (v := 2) hx hb d_Mo_target_74 (by decide) ?_
      refine lv_icmp_ne hx hb d_Mo_target_75 rfl (fun z => ?_) (fun z => ?_)
      · replace h := if_f z h
        exact B140 _ hK58 _ _ _ _ _ h D (lv_sub hl [0, 1] rfl)
      · replace h := if_t z h
        refine lv_iload_n hx hb d_Mo_target_78 rfl (lv_at hl 2 rfl) ?_
        refine lv_aload_n hx hb d_Mo_target_79 rfl (lv_at hl 0 rfl) ?_
        refine x_get (v := .ref (ga g 70)) C D kc_Mo (by decide) sh_66 6 rfl (by decide) wf_Mo_19 rfl rfl d_Mo_target_80 ?_
        refine lv_iload_n hx hb d_Mo_target_83 rfl (lv_at hl 1 rfl) ?_
        refine x_iald C D (by decide) sh_70 d_Mo_target_84 h (fun _ h => ?_)
        refine lv_icmp_ge hx hb d_Mo_target_85 rfl (fun z => ?_) (fun z => ?_)
        · replace h := if_t z h
          exact B140 _ hK58 _ _ _ _ _ h D (lv_sub hl [0, 1] rfl)
        · replace h := if_f z h
          refine lv_aload_n hx hb d_Mo_target_88 rfl (lv_at hl 0 rfl) ?_
          refine lv_aload_n hx hb d_Mo_target_89 rfl (lv_at hl 0 rfl) ?_
          refine x_get (v := .int (S 66 13)) C D kc_Mo (by decide) sh_66 13 rfl (by decide) wf_Mo_137 rfl rfl d_Mo_target_90 ?_
          refine lv_if_eq hx hb d_Mo_target_93 rfl (fun z => ?_) (fun z => ?_)
          · replace h := if_t z h
            refine lv_bipush (v := 63) hx hb d_Mo_target_101 (by decide) ?_
            exact B103 _ hK58 _ hK68 _ _ _ _ _ _ _ h D (lv_sub hl [0, 1, 2] rfl)
          · replace h := if_f z h
            refine lv_bipush (v := 38) hx hb d_Mo_target_96 (by decide) ?_
            refine lv_goto hx hb d_Mo_target_98 rfl ?_
            exact B103 _ hK58 _ hK68 _ _ _ _ _ _ _ h D (lv_sub hl [0, 1, 2] rfl)
  have L58 : ∀ (n : Nat) (H : Heap) (locs : List Loc) (S : zSt) (ls : Array Slot) (a2 : Int32), f_Mo_target_58 n a2 S = some u → Dy g s S H locs → lv_has ls 4 [(0, .ref (ga g 66)), (2, .int a2)] → W p l e (rmD 7) s m args below meth c H locs 0 0 (MQ below (Qvs g u) args s 0 0 (gA g)) (F0 m 58 ls []) := by
    intro n
    induction n with
    | zero => intro H locs S ls a2 h D hl; rw [f_Mo_target_58] at h; cases h
    | succ n hK58 =>
      intro H locs S ls a2 h D hl
      rw [f_Mo_target_58] at h
      refine lv_iload_n hx hb d_Mo_target_58 rfl (lv_at hl 1 rfl) ?_
      refine lv_aload_n hx hb d_Mo_target_59 rfl (lv_at hl 0 rfl) ?_
      refine x_get (v := .int (S 66 3)) C D kc_Mo (by decide) sh_66 3 rfl (by decide) wf_Mo_53 rfl rfl d_Mo_target_60 ?_
      refine lv_icmp_ge hx hb d_Mo_target_63 rfl (fun z => ?_) (fun z => ?_)
      · replace h := if_t z h
        exact x_vrs C D h d_Mo_target_146
      · replace h := if_f z h
        refine lv_iconst (v := 0) hx hb d_Mo_target_66 (by decide) ?_
        refine lv_istore_n (lv' := [(3, .int 0), (0, .ref (ga g 66)), (2, .int a2)]) hx hb d_Mo_target_67 rfl hl (by decide) rfl (fun ls hl => ?_)
        exact L68 _ hK58 _ _ _ _ _ _ _ h D (lv_sub hl [1, 2, 0] rfl)
  have L7 : ∀ (n : Nat) (H : Heap) (locs : List Loc) (S : zSt) (ls : Array Slot) (a1 : Int32), f_Mo_target_7 n a1 S = some u → Dy g s S H locs → lv_has ls 4 [(0, .ref (ga g 66)), (1, .int a1)] → W p l e (rmD 7) s m args below meth c H locs 0 0 (MQ below (Qvs g u) args s 0 0 (gA g)) (F0 m 7 ls []) := by
    intro n
    induction n with
    | zero => intro H locs S ls a1 h D hl; rw [f_Mo_target_7] at h; cases h
    | succ n hK7 =>
      intro H locs S ls a1 h D hl
      rw [f_Mo_target_7] at h
      refine lv_iload_n hx hb d_Mo_target_7 rfl (lv_at hl 1 rfl) ?_
      refine lv_aload_n hx hb d_Mo_target_8 rfl (lv_at hl 0 rfl) ?_
      refine x_get (v := .int (S 66 1)) C D kc_Mo (by decide) sh_66 1 rfl (by decide) wf_Mo_50 rfl rfl d_Mo_target_9 ?_
      refine lv_icmp_ge hx hb d_Mo_target_12 rfl (fun z => ?_) (fun z => ?_)
      · replace h := if_t z h
        refine lv_iconst (v := 0) hx hb d_Mo_target_56 (by decide) ?_
        refine lv_istore_n (lv' := [(2, .int 0), (0, .ref (ga g 66)), (1, .int a1)]) hx hb d_Mo_target_57 rfl hl (by decide) rfl (fun ls hl => ?_)
        exact L58 _ _ _ _ _ _ h D (lv_sub hl [1, 0] rfl)
      · replace h := if_f z h
        refine lv_aload_n hx hb d_Mo_target_15 rfl (lv_at hl 0 rfl) ?_
        refine x_get (v := .ref (ga g 67)) C D kc_Mo (by decide) sh_66 2 rfl (by decide) wf_Mo_7 rfl rfl d_Mo_target_16 ?_
        refine lv_iload_n hx hb d_Mo_target_19 rfl (lv_at hl 1 rfl) ?_
        refine x_iald C D (by decide) sh_67 d_Mo_target_20 h (fun _ h => ?_)
        refine lv_bipush (v := 123) hx hb d_Mo_target_21 (by decide) ?_
        refine lv_icmp_ne hx hb d_Mo_target_23 rfl (fun z => ?_) (fun z => ?_)
        · replace h := if_f z h
          refine lv_aload_n hx hb d_Mo_target_40 rfl (lv_at hl 0 rfl) ?_
          refine lv_aload_n hx hb d_Mo_target_41 rfl (lv_at hl 0 rfl) ?_
          refine x_get (v := .ref (ga g 67)) C D kc_Mo (by decide) sh_66 2 rfl (by decide) wf_Mo_7 rfl rfl d_Mo_target_42 ?_
          refine lv_iload_n hx hb d_Mo_target_45 rfl (lv_at hl 1 rfl) ?_
          refine x_iald C D (by decide) sh_67 d_Mo_target_46 h (fun _ h => ?_)
          obtain ⟨u7, hu7, h⟩ := bd_some h
          refine x_cvs (rest := []) (r_V C D (c_Mo_put l g hD (S 67 a1.toNatClampNeg) S u7 hu7) wc_Mo_put wm_Mo_142 wi_Mo_put wd_Mo_put (by decide) sh_66 kc_Mo.1 rfl rfl hl (Nat.le_of_ble_eq_true rfl) (by decide) d_Mo_target_47) D (fun H locs D => ?_)
          refine lv_iinc (k := 1) (lv' := [(1, .int (a1 + 1)), (0, .ref (ga g 66))]) hx hb d_Mo_target_50 hl rfl (ii1 _) (by decide) rfl (fun ls hl => ?_)
          refine lv_goto hx hb d_Mo_target_53 rfl ?_
          exact hK7 _ _ _ _ _ h D (lv_sub hl [1, 0] rfl)
        · replace h := if_t z h
          refine lv_aload_n hx hb d_Mo_target_26 rfl (lv_at hl 0 rfl) ?_
          refine lv_iload_n hx hb d_Mo_target_27 rfl (lv_at hl 1 rfl) ?_
          obtain ⟨u8, hu8, h⟩ := bd_some h
          refine x_cvs (rest := []) (r_V C D (c_Mo_expression l g hD a1 S u8 hu8) wc_Mo_expression wm_Mo_175 wi_Mo_expression wd_Mo_expression (by decide) sh_66 kc_Mo.1 rfl rfl hl (Nat.le_of_ble_eq_true rfl) (by decide) d_Mo_target_28) D (fun H locs D => ?_)
          refine lv_aload_n hx hb d_Mo_target_31 rfl (lv_at hl 0 rfl) ?_
          refine lv_iload_n hx hb d_Mo_target_32 rfl (lv_at hl 1 rfl) ?_
          obtain ⟨u9, hu9, h⟩ := bd_some h
          refine x_cip (rest := []) (r_V C D (c_Mo_behind l g hD a1 u8 u9 hu9) wc_Mo_behind wm_Mo_76 wi_Mo_behind wd_Mo_behind (by decide) sh_66 kc_Mo.1 rfl rfl hl (Nat.le_of_ble_eq_true rfl) (by decide) d_Mo_target_33) D (fun H locs D => ?_)
          refine lv_istore_n (lv' := [(1, .int u9), (0, .ref (ga g 66))]) hx hb d_Mo_target_36 rfl hl (by decide) rfl (fun ls hl => ?_)
          refine lv_goto hx hb d_Mo_target_37 rfl ?_
          exact hK7 _ _ _ _ _ h D (lv_sub hl [1, 0] rfl)
  unfold f_Mo_target at h
  refine lv_aload_n hx hb d_Mo_target_0 rfl (lv_at hl 0 rfl) ?_
  refine lv_iconst (v := 0) hx hb d_Mo_target_1 (by decide) ?_
  obtain ⟨z2, h⟩ := gdb_some h
  refine x_put C D kc_Mo (by decide) sh_66 13 rfl (by decide) wf_Mo_137 rfl rfl 0 rfl z2 d_Mo_target_2 h (fun S1 H locs h D => ?_)
  refine lv_iconst (v := 0) hx hb d_Mo_target_5 (by decide) ?_
  refine lv_istore_n (lv' := [(1, .int 0), (0, .ref (ga g 66))]) hx hb d_Mo_target_6 rfl hl (by decide) rfl (fun ls hl => ?_)
  exact L7 _ _ _ _ _ _ h D (lv_sub hl [1, 0] rfl)
theorem d_Mo_feed_0 : decode b_Mo_feed 0 = .ok (.iload_n 1, 1) := by decide +kernel
theorem d_Mo_feed_1 : decode b_Mo_feed 1 = .ok (.ifCond .lt 10, 3) := by decide +kernel
theorem d_Mo_feed_4 : decode b_Mo_feed 4 = .ok (.iload_n 1, 1) := by decide +kernel
theorem d_Mo_feed_5 : decode b_Mo_feed 5 = .ok (.sipush 255, 3) := by decide +kernel
theorem d_Mo_feed_8 : decode b_Mo_feed 8 = .ok (.if_icmp .le 6, 3) := by decide +kernel
theorem d_Mo_feed_11 : decode b_Mo_feed 11 = .ok (.bipush (-11), 2) := by decide +kernel
theorem d_Mo_feed_13 : decode b_Mo_feed 13 = .ok (.ireturn, 1) := by decide +kernel
theorem d_Mo_feed_14 : decode b_Mo_feed 14 = .ok (.aload_n 0, 1) := by decide +kernel
theorem d_Mo_feed_15 : decode b_Mo_feed 15 = .ok (.invokevirtual 316, 3) := by decide +kernel
theorem d_Mo_feed_18 : decode b_Mo_feed 18 = .ok (.aload_n 0, 1) := by decide +kernel
theorem d_Mo_feed_19 : decode b_Mo_feed 19 = .ok (.getfield 292, 3) := by decide +kernel
theorem d_Mo_feed_22 : decode b_Mo_feed 22 = .ok (.iconst 1, 1) := by decide +kernel
theorem d_Mo_feed_23 : decode b_Mo_feed 23 = .ok (.if_icmp .le 8, 3) := by decide +kernel
theorem d_Mo_feed_26 : decode b_Mo_feed 26 = .ok (.aload_n 0, 1) := by decide +kernel
theorem d_Mo_feed_27 : decode b_Mo_feed 27 = .ok (.getfield 292, 3) := by decide +kernel
theorem d_Mo_feed_30 : decode b_Mo_feed 30 = .ok (.ireturn, 1) := by decide +kernel
theorem d_Mo_feed_31 : decode b_Mo_feed 31 = .ok (.aload_n 0, 1) := by decide +kernel
theorem d_Mo_feed_32 : decode b_Mo_feed 32 = .ok (.getfield 37, 3) := by decide +kernel
theorem d_Mo_feed_35 : decode b_Mo_feed 35 = .ok (.aload_n 0, 1) := by decide +kernel
theorem d_Mo_feed_36 : decode b_Mo_feed 36 = .ok (.getfield 234, 3) := by decide +kernel
theorem d_Mo_feed_39 : decode b_Mo_feed 39 = .ok (.iload_n 1, 1) := by decide +kernel
theorem d_Mo_feed_40 : decode b_Mo_feed 40 = .ok (.iastore, 1) := by decide +kernel
theorem d_Mo_feed_41 : decode b_Mo_feed 41 = .ok (.aload_n 0, 1) := by decide +kernel
theorem d_Mo_feed_42 : decode b_Mo_feed 42 = .ok (.getfield 40, 3) := by decide +kernel
theorem d_Mo_feed_45 : decode b_Mo_feed 45 = .ok (.aload_n 0, 1) := by decide +kernel
theorem d_Mo_feed_46 : decode b_Mo_feed 46 = .ok (.getfield 234, 3) := by decide +kernel
theorem d_Mo_feed_49 : decode b_Mo_feed 49 = .ok (.aload_n 0, 1) := by decide +kernel
theorem d_Mo_feed_50 : decode b_Mo_feed 50 = .ok (.getfield 46, 3) := by decide +kernel
theorem d_Mo_feed_53 : decode b_Mo_feed 53 = .ok (.iastore, 1) := by decide +kernel
theorem d_Mo_feed_54 : decode b_Mo_feed 54 = .ok (.aload_n 0, 1) := by decide +kernel
theorem d_Mo_feed_55 : decode b_Mo_feed 55 = .ok (.dup, 1) := by decide +kernel
theorem d_Mo_feed_56 : decode b_Mo_feed 56 = .ok (.getfield 234, 3) := by decide +kernel
theorem d_Mo_feed_59 : decode b_Mo_feed 59 = .ok (.iconst 1, 1) := by decide +kernel
theorem d_Mo_feed_60 : decode b_Mo_feed 60 = .ok (.iadd, 1) := by decide +kernel
theorem d_Mo_feed_61 : decode b_Mo_feed 61 = .ok (.putfield 234, 3) := by decide +kernel
theorem d_Mo_feed_64 : decode b_Mo_feed 64 = .ok (.aload_n 0, 1) := by decide +kernel
theorem d_Mo_feed_65 : decode b_Mo_feed 65 = .ok (.invokevirtual 316, 3) := by decide +kernel
theorem d_Mo_feed_68 : decode b_Mo_feed 68 = .ok (.aload_n 0, 1) := by decide +kernel
theorem d_Mo_feed_69 : decode b_Mo_feed 69 = .ok (.getfield 292, 3) := by decide +kernel
theorem d_Mo_feed_72 : decode b_Mo_feed 72 = .ok (.ireturn, 1) := by decide +kernel
def f_Mo_feed (a1 : Int32) (S : zSt) : Option (Int32 × zSt) := (if a1 < 0 then (some ((-11), S)) else (if a1 ≤ 255 then ((f_Mo_work S).bind fun u1 => (if (u1 66 23) ≤ 1 then gdi (u1 66 17) 520 (sq (su u1 76 (u1 66 17).toNatClampNeg a1) fun S2 => gdi (S2 66 17) 520 (sq (su S2 77 (S2 66 17).toNatClampNeg (S2 66 0)) fun S3 => sq (su S3 66 17 ((S3 66 17) + 1)) fun S4 => ((f_Mo_work S4).bind fun u5 => (some ((u5 66 23), u5))))) else (some ((u1 66 23), u1)))) else (some ((-11), S))))
set_option maxHeartbeats 4000000 in
set_option maxRecDepth 100000 in
theorem c_Mo_feed (l : Launch) (g : zG) (hD : GD g) (a1 : Int32) (S : zSt) (u : (Int32 × zSt)) (h : f_Mo_feed a1 S = some u) : Met l y_Mo_feed (mw y_Mo_feed b_Mo_feed 2 (some .int)) (rmD 7) (Pw g [.ref (ga g 66), .int a1] S) (Qis g u) 0 0 (gA g) := by
  refine z_go (own := R_Mo) (lv0 := [(0, .ref (ga g 66)), (1, .int a1)]) hD (by decide) rfl (Nat.le_of_ble_eq_true rfl) rfl ?_
  intro p e s m args below meth c C D ls hl
  have hx := C.1
  have hb := C.2.1
  have hown := C.2.2.2.1
  have hts := C.2.2.2.2.1
  unfold f_Mo_feed at h
  refine lv_iload_n hx hb d_Mo_feed_0 rfl (lv_at hl 1 rfl) ?_
  refine lv_if_lt hx hb d_Mo_feed_1 rfl (fun z => ?_) (fun z => ?_)
  · replace h := if_t z h
    refine lv_bipush (v := (-11)) hx hb d_Mo_feed_11 (by decide) ?_
    exact x_irs C D h d_Mo_feed_13
  · replace h := if_f z h
    refine lv_iload_n hx hb d_Mo_feed_4 rfl (lv_at hl 1 rfl) ?_
    refine lv_sipush (v := 255) hx hb d_Mo_feed_5 (by decide) ?_
    refine lv_icmp_le hx hb d_Mo_feed_8 rfl (fun z => ?_) (fun z => ?_)
    · replace h := if_t z h
      refine lv_aload_n hx hb d_Mo_feed_14 rfl (lv_at hl 0 rfl) ?_
      obtain ⟨u1, hu1, h⟩ := bd_some h
      refine x_cvs (rest := []) (r_V C D (c_Mo_work l g hD S u1 hu1) wc_Mo_work wm_Mo_316 wi_Mo_work wd_Mo_work (by decide) sh_66 kc_Mo.1 rfl rfl hl (Nat.le_of_ble_eq_true rfl) (by decide) d_Mo_feed_15) D (fun H locs D => ?_)
      refine lv_aload_n hx hb d_Mo_feed_18 rfl (lv_at hl 0 rfl) ?_
      refine x_get (v := .int (u1 66 23)) C D kc_Mo (by decide) sh_66 23 rfl (by decide) wf_Mo_292 rfl rfl d_Mo_feed_19 ?_
      refine lv_iconst (v := 1) hx hb d_Mo_feed_22 (by decide) ?_
      refine lv_icmp_le hx hb d_Mo_feed_23 rfl (fun z => ?_) (fun z => ?_)
      · replace h := if_t z h
        refine lv_aload_n hx hb d_Mo_feed_31 rfl (lv_at hl 0 rfl) ?_
        refine x_get (v := .ref (ga g 76)) C D kc_Mo (by decide) sh_66 18 rfl (by decide) wf_Mo_37 rfl rfl d_Mo_feed_32 ?_
        refine lv_aload_n hx hb d_Mo_feed_35 rfl (lv_at hl 0 rfl) ?_
        refine x_get (v := .int (u1 66 17)) C D kc_Mo (by decide) sh_66 17 rfl (by decide) wf_Mo_234 rfl rfl d_Mo_feed_36 ?_
        refine lv_iload_n hx hb d_Mo_feed_39 rfl (lv_at hl 1 rfl) ?_
        refine x_iast C D (by decide) sh_76 d_Mo_feed_40 h (fun S2 H locs h D => ?_)
        refine lv_aload_n hx hb d_Mo_feed_41 rfl (lv_at hl 0 rfl) ?_
        refine x_get (v := .ref (ga g 77)) C D kc_Mo (by decide) sh_66 19 rfl (by decide) wf_Mo_40 rfl rfl d_Mo_feed_42 ?_
        refine lv_aload_n hx hb d_Mo_feed_45 rfl (lv_at hl 0 rfl) ?_
        refine x_get (v := .int (S2 66 17)) C D kc_Mo (by decide) sh_66 17 rfl (by decide) wf_Mo_234 rfl rfl d_Mo_feed_46 ?_
        refine lv_aload_n hx hb d_Mo_feed_49 rfl (lv_at hl 0 rfl) ?_
        refine x_get (v := .int (S2 66 0)) C D kc_Mo (by decide) sh_66 0 rfl (by decide) wf_Mo_46 rfl rfl d_Mo_feed_50 ?_
        refine x_iast C D (by decide) sh_77 d_Mo_feed_53 h (fun S3 H locs h D => ?_)
        refine lv_aload_n hx hb d_Mo_feed_54 rfl (lv_at hl 0 rfl) ?_
        refine lv_dup hx hb d_Mo_feed_55 rfl ?_
        refine x_get (v := .int (S3 66 17)) C D kc_Mo (by decide) sh_66 17 rfl (by decide) wf_Mo_234 rfl rfl d_Mo_feed_56 ?_
        refine lv_iconst (v := 1) hx hb d_Mo_feed_59 (by decide) ?_
        refine lv_iadd hx hb d_Mo_feed_60 ?_
        refine x_put C D kc_Mo (by decide) sh_66 17 rfl (by decide) wf_Mo_234 rfl rfl ((S3 66 17) + 1) rfl ⟨rfl, rfl⟩ d_Mo_feed_61 h (fun S4 H locs h D => ?_)
        refine lv_aload_n hx hb d_Mo_feed_64 rfl (lv_at hl 0 rfl) ?_
        obtain ⟨u5, hu5, h⟩ := bd_some h
        refine x_cvs (rest := []) (r_V C D (c_Mo_work l g hD S4 u5 hu5) wc_Mo_work wm_Mo_316 wi_Mo_work wd_Mo_work (by decide) sh_66 kc_Mo.1 rfl rfl hl (Nat.le_of_ble_eq_true rfl) (by decide) d_Mo_feed_65) D (fun H locs D => ?_)
        refine lv_aload_n hx hb d_Mo_feed_68 rfl (lv_at hl 0 rfl) ?_
        refine x_get (v := .int (u5 66 23)) C D kc_Mo (by decide) sh_66 23 rfl (by decide) wf_Mo_292 rfl rfl d_Mo_feed_69 ?_
        exact x_irs C D h d_Mo_feed_72
      · replace h := if_f z h
        refine lv_aload_n hx hb d_Mo_feed_26 rfl (lv_at hl 0 rfl) ?_
        refine x_get (v := .int (u1 66 23)) C D kc_Mo (by decide) sh_66 23 rfl (by decide) wf_Mo_292 rfl rfl d_Mo_feed_27 ?_
        exact x_irs C D h d_Mo_feed_30
    · replace h := if_f z h
      refine lv_bipush (v := (-11)) hx hb d_Mo_feed_11 (by decide) ?_
      exact x_irs C D h d_Mo_feed_13
theorem d_Mo_close_0 : decode b_Mo_close 0 = .ok (.aload_n 0, 1) := by decide +kernel
theorem d_Mo_close_1 : decode b_Mo_close 1 = .ok (.iconst 1, 1) := by decide +kernel
theorem d_Mo_close_2 : decode b_Mo_close 2 = .ok (.putfield 313, 3) := by decide +kernel
theorem d_Mo_close_5 : decode b_Mo_close 5 = .ok (.aload_n 0, 1) := by decide +kernel
theorem d_Mo_close_6 : decode b_Mo_close 6 = .ok (.invokevirtual 316, 3) := by decide +kernel
theorem d_Mo_close_9 : decode b_Mo_close 9 = .ok (.aload_n 0, 1) := by decide +kernel
theorem d_Mo_close_10 : decode b_Mo_close 10 = .ok (.getfield 292, 3) := by decide +kernel
theorem d_Mo_close_13 : decode b_Mo_close 13 = .ok (.ireturn, 1) := by decide +kernel
def f_Mo_close (S : zSt) : Option (Int32 × zSt) := gdb 1 (sq (su S 66 20 1) fun S1 => ((f_Mo_work S1).bind fun u3 => (some ((u3 66 23), u3))))
set_option maxHeartbeats 4000000 in
set_option maxRecDepth 100000 in
theorem c_Mo_close (l : Launch) (g : zG) (hD : GD g) (S : zSt) (u : (Int32 × zSt)) (h : f_Mo_close S = some u) : Met l y_Mo_close (mw y_Mo_close b_Mo_close 1 (some .int)) (rmD 7) (Pw g [.ref (ga g 66)] S) (Qis g u) 0 0 (gA g) := by
  refine z_go (own := R_Mo) (lv0 := [(0, .ref (ga g 66))]) hD (by decide) rfl (Nat.le_of_ble_eq_true rfl) rfl ?_
  intro p e s m args below meth c C D ls hl
  have hx := C.1
  have hb := C.2.1
  have hown := C.2.2.2.1
  have hts := C.2.2.2.2.1
  unfold f_Mo_close at h
  refine lv_aload_n hx hb d_Mo_close_0 rfl (lv_at hl 0 rfl) ?_
  refine lv_iconst (v := 1) hx hb d_Mo_close_1 (by decide) ?_
  obtain ⟨z2, h⟩ := gdb_some h
  refine x_put C D kc_Mo (by decide) sh_66 20 rfl (by decide) wf_Mo_313 rfl rfl 1 rfl z2 d_Mo_close_2 h (fun S1 H locs h D => ?_)
  refine lv_aload_n hx hb d_Mo_close_5 rfl (lv_at hl 0 rfl) ?_
  obtain ⟨u3, hu3, h⟩ := bd_some h
  refine x_cvs (rest := []) (r_V C D (c_Mo_work l g hD S1 u3 hu3) wc_Mo_work wm_Mo_316 wi_Mo_work wd_Mo_work (by decide) sh_66 kc_Mo.1 rfl rfl hl (Nat.le_of_ble_eq_true rfl) (by decide) d_Mo_close_6) D (fun H locs D => ?_)
  refine lv_aload_n hx hb d_Mo_close_9 rfl (lv_at hl 0 rfl) ?_
  refine x_get (v := .int (u3 66 23)) C D kc_Mo (by decide) sh_66 23 rfl (by decide) wf_Mo_292 rfl rfl d_Mo_close_10 ?_
  exact x_irs C D h d_Mo_close_13
theorem d_Mo_state_0 : decode b_Mo_state 0 = .ok (.aload_n 0, 1) := by decide +kernel
theorem d_Mo_state_1 : decode b_Mo_state 1 = .ok (.invokevirtual 316, 3) := by decide +kernel
theorem d_Mo_state_4 : decode b_Mo_state 4 = .ok (.aload_n 0, 1) := by decide +kernel
theorem d_Mo_state_5 : decode b_Mo_state 5 = .ok (.getfield 292, 3) := by decide +kernel
theorem d_Mo_state_8 : decode b_Mo_state 8 = .ok (.ireturn, 1) := by decide +kernel
def f_Mo_state (S : zSt) : Option (Int32 × zSt) := ((f_Mo_work S).bind fun u1 => (some ((u1 66 23), u1)))
set_option maxHeartbeats 4000000 in
set_option maxRecDepth 100000 in
theorem c_Mo_state (l : Launch) (g : zG) (hD : GD g) (S : zSt) (u : (Int32 × zSt)) (h : f_Mo_state S = some u) : Met l y_Mo_state (mw y_Mo_state b_Mo_state 1 (some .int)) (rmD 7) (Pw g [.ref (ga g 66)] S) (Qis g u) 0 0 (gA g) := by
  refine z_go (own := R_Mo) (lv0 := [(0, .ref (ga g 66))]) hD (by decide) rfl (Nat.le_of_ble_eq_true rfl) rfl ?_
  intro p e s m args below meth c C D ls hl
  have hx := C.1
  have hb := C.2.1
  have hown := C.2.2.2.1
  have hts := C.2.2.2.2.1
  unfold f_Mo_state at h
  refine lv_aload_n hx hb d_Mo_state_0 rfl (lv_at hl 0 rfl) ?_
  obtain ⟨u1, hu1, h⟩ := bd_some h
  refine x_cvs (rest := []) (r_V C D (c_Mo_work l g hD S u1 hu1) wc_Mo_work wm_Mo_316 wi_Mo_work wd_Mo_work (by decide) sh_66 kc_Mo.1 rfl rfl hl (Nat.le_of_ble_eq_true rfl) (by decide) d_Mo_state_1) D (fun H locs D => ?_)
  refine lv_aload_n hx hb d_Mo_state_4 rfl (lv_at hl 0 rfl) ?_
  refine x_get (v := .int (u1 66 23)) C D kc_Mo (by decide) sh_66 23 rfl (by decide) wf_Mo_292 rfl rfl d_Mo_state_5 ?_
  exact x_irs C D h d_Mo_state_8
theorem d_Mo_status_0 : decode b_Mo_status 0 = .ok (.aload_n 0, 1) := by decide +kernel
theorem d_Mo_status_1 : decode b_Mo_status 1 = .ok (.invokevirtual 316, 3) := by decide +kernel
theorem d_Mo_status_4 : decode b_Mo_status 4 = .ok (.aload_n 0, 1) := by decide +kernel
theorem d_Mo_status_5 : decode b_Mo_status 5 = .ok (.getfield 286, 3) := by decide +kernel
theorem d_Mo_status_8 : decode b_Mo_status 8 = .ok (.ireturn, 1) := by decide +kernel
def f_Mo_status (S : zSt) : Option (Int32 × zSt) := ((f_Mo_work S).bind fun u1 => (some ((u1 66 24), u1)))
set_option maxHeartbeats 4000000 in
set_option maxRecDepth 100000 in
theorem c_Mo_status (l : Launch) (g : zG) (hD : GD g) (S : zSt) (u : (Int32 × zSt)) (h : f_Mo_status S = some u) : Met l y_Mo_status (mw y_Mo_status b_Mo_status 1 (some .int)) (rmD 7) (Pw g [.ref (ga g 66)] S) (Qis g u) 0 0 (gA g) := by
  refine z_go (own := R_Mo) (lv0 := [(0, .ref (ga g 66))]) hD (by decide) rfl (Nat.le_of_ble_eq_true rfl) rfl ?_
  intro p e s m args below meth c C D ls hl
  have hx := C.1
  have hb := C.2.1
  have hown := C.2.2.2.1
  have hts := C.2.2.2.2.1
  unfold f_Mo_status at h
  refine lv_aload_n hx hb d_Mo_status_0 rfl (lv_at hl 0 rfl) ?_
  obtain ⟨u1, hu1, h⟩ := bd_some h
  refine x_cvs (rest := []) (r_V C D (c_Mo_work l g hD S u1 hu1) wc_Mo_work wm_Mo_316 wi_Mo_work wd_Mo_work (by decide) sh_66 kc_Mo.1 rfl rfl hl (Nat.le_of_ble_eq_true rfl) (by decide) d_Mo_status_1) D (fun H locs D => ?_)
  refine lv_aload_n hx hb d_Mo_status_4 rfl (lv_at hl 0 rfl) ?_
  refine x_get (v := .int (u1 66 24)) C D kc_Mo (by decide) sh_66 24 rfl (by decide) wf_Mo_286 rfl rfl d_Mo_status_5 ?_
  exact x_irs C D h d_Mo_status_8
theorem d_Mo_fields_0 : decode b_Mo_fields 0 = .ok (.aload_n 0, 1) := by decide +kernel
theorem d_Mo_fields_1 : decode b_Mo_fields 1 = .ok (.invokevirtual 316, 3) := by decide +kernel
theorem d_Mo_fields_4 : decode b_Mo_fields 4 = .ok (.aload_n 0, 1) := by decide +kernel
theorem d_Mo_fields_5 : decode b_Mo_fields 5 = .ok (.getfield 276, 3) := by decide +kernel
theorem d_Mo_fields_8 : decode b_Mo_fields 8 = .ok (.ireturn, 1) := by decide +kernel
def f_Mo_fields (S : zSt) : Option (Int32 × zSt) := ((f_Mo_work S).bind fun u1 => (some ((u1 66 25), u1)))
set_option maxHeartbeats 4000000 in
set_option maxRecDepth 100000 in
theorem c_Mo_fields (l : Launch) (g : zG) (hD : GD g) (S : zSt) (u : (Int32 × zSt)) (h : f_Mo_fields S = some u) : Met l y_Mo_fields (mw y_Mo_fields b_Mo_fields 1 (some .int)) (rmD 7) (Pw g [.ref (ga g 66)] S) (Qis g u) 0 0 (gA g) := by
  refine z_go (own := R_Mo) (lv0 := [(0, .ref (ga g 66))]) hD (by decide) rfl (Nat.le_of_ble_eq_true rfl) rfl ?_
  intro p e s m args below meth c C D ls hl
  have hx := C.1
  have hb := C.2.1
  have hown := C.2.2.2.1
  have hts := C.2.2.2.2.1
  unfold f_Mo_fields at h
  refine lv_aload_n hx hb d_Mo_fields_0 rfl (lv_at hl 0 rfl) ?_
  obtain ⟨u1, hu1, h⟩ := bd_some h
  refine x_cvs (rest := []) (r_V C D (c_Mo_work l g hD S u1 hu1) wc_Mo_work wm_Mo_316 wi_Mo_work wd_Mo_work (by decide) sh_66 kc_Mo.1 rfl rfl hl (Nat.le_of_ble_eq_true rfl) (by decide) d_Mo_fields_1) D (fun H locs D => ?_)
  refine lv_aload_n hx hb d_Mo_fields_4 rfl (lv_at hl 0 rfl) ?_
  refine x_get (v := .int (u1 66 25)) C D kc_Mo (by decide) sh_66 25 rfl (by decide) wf_Mo_276 rfl rfl d_Mo_fields_5 ?_
  exact x_irs C D h d_Mo_fields_8
theorem d_Mo_length_0 : decode b_Mo_length 0 = .ok (.aload_n 0, 1) := by decide +kernel
theorem d_Mo_length_1 : decode b_Mo_length 1 = .ok (.invokevirtual 316, 3) := by decide +kernel
theorem d_Mo_length_4 : decode b_Mo_length 4 = .ok (.aload_n 0, 1) := by decide +kernel
theorem d_Mo_length_5 : decode b_Mo_length 5 = .ok (.getfield 289, 3) := by decide +kernel
theorem d_Mo_length_8 : decode b_Mo_length 8 = .ok (.ireturn, 1) := by decide +kernel
def f_Mo_length (S : zSt) : Option (Int32 × zSt) := ((f_Mo_work S).bind fun u1 => (some ((u1 66 26), u1)))
set_option maxHeartbeats 4000000 in
set_option maxRecDepth 100000 in
theorem c_Mo_length (l : Launch) (g : zG) (hD : GD g) (S : zSt) (u : (Int32 × zSt)) (h : f_Mo_length S = some u) : Met l y_Mo_length (mw y_Mo_length b_Mo_length 1 (some .int)) (rmD 7) (Pw g [.ref (ga g 66)] S) (Qis g u) 0 0 (gA g) := by
  refine z_go (own := R_Mo) (lv0 := [(0, .ref (ga g 66))]) hD (by decide) rfl (Nat.le_of_ble_eq_true rfl) rfl ?_
  intro p e s m args below meth c C D ls hl
  have hx := C.1
  have hb := C.2.1
  have hown := C.2.2.2.1
  have hts := C.2.2.2.2.1
  unfold f_Mo_length at h
  refine lv_aload_n hx hb d_Mo_length_0 rfl (lv_at hl 0 rfl) ?_
  obtain ⟨u1, hu1, h⟩ := bd_some h
  refine x_cvs (rest := []) (r_V C D (c_Mo_work l g hD S u1 hu1) wc_Mo_work wm_Mo_316 wi_Mo_work wd_Mo_work (by decide) sh_66 kc_Mo.1 rfl rfl hl (Nat.le_of_ble_eq_true rfl) (by decide) d_Mo_length_1) D (fun H locs D => ?_)
  refine lv_aload_n hx hb d_Mo_length_4 rfl (lv_at hl 0 rfl) ?_
  refine x_get (v := .int (u1 66 26)) C D kc_Mo (by decide) sh_66 26 rfl (by decide) wf_Mo_289 rfl rfl d_Mo_length_5 ?_
  exact x_irs C D h d_Mo_length_8
theorem d_Mo_content_0 : decode b_Mo_content 0 = .ok (.aload_n 0, 1) := by decide +kernel
theorem d_Mo_content_1 : decode b_Mo_content 1 = .ok (.invokevirtual 316, 3) := by decide +kernel
theorem d_Mo_content_4 : decode b_Mo_content 4 = .ok (.iload_n 1, 1) := by decide +kernel
theorem d_Mo_content_5 : decode b_Mo_content 5 = .ok (.ifCond .lt 11, 3) := by decide +kernel
theorem d_Mo_content_8 : decode b_Mo_content 8 = .ok (.iload_n 1, 1) := by decide +kernel
theorem d_Mo_content_9 : decode b_Mo_content 9 = .ok (.aload_n 0, 1) := by decide +kernel
theorem d_Mo_content_10 : decode b_Mo_content 10 = .ok (.getfield 289, 3) := by decide +kernel
theorem d_Mo_content_13 : decode b_Mo_content 13 = .ok (.if_icmp .lt 7, 3) := by decide +kernel
theorem d_Mo_content_16 : decode b_Mo_content 16 = .ok (.iconst (-1), 1) := by decide +kernel
theorem d_Mo_content_17 : decode b_Mo_content 17 = .ok (.goto 9, 3) := by decide +kernel
theorem d_Mo_content_20 : decode b_Mo_content 20 = .ok (.aload_n 0, 1) := by decide +kernel
theorem d_Mo_content_21 : decode b_Mo_content 21 = .ok (.getfield 43, 3) := by decide +kernel
theorem d_Mo_content_24 : decode b_Mo_content 24 = .ok (.iload_n 1, 1) := by decide +kernel
theorem d_Mo_content_25 : decode b_Mo_content 25 = .ok (.iaload, 1) := by decide +kernel
theorem d_Mo_content_26 : decode b_Mo_content 26 = .ok (.ireturn, 1) := by decide +kernel
def f_Mo_content_16 (S : zSt) : Option (Int32 × zSt) := (some ((-1), S))
def f_Mo_content (a1 : Int32) (S : zSt) : Option (Int32 × zSt) := ((f_Mo_work S).bind fun u1 => (if a1 < 0 then (f_Mo_content_16 u1) else (if a1 < (u1 66 26) then gdi a1 120 ((some ((u1 78 a1.toNatClampNeg), u1))) else (f_Mo_content_16 u1))))
set_option maxHeartbeats 4000000 in
set_option maxRecDepth 100000 in
theorem c_Mo_content (l : Launch) (g : zG) (hD : GD g) (a1 : Int32) (S : zSt) (u : (Int32 × zSt)) (h : f_Mo_content a1 S = some u) : Met l y_Mo_content (mw y_Mo_content b_Mo_content 2 (some .int)) (rmD 7) (Pw g [.ref (ga g 66), .int a1] S) (Qis g u) 0 0 (gA g) := by
  refine z_go (own := R_Mo) (lv0 := [(0, .ref (ga g 66)), (1, .int a1)]) hD (by decide) rfl (Nat.le_of_ble_eq_true rfl) rfl ?_
  intro p e s m args below meth c C D ls hl
  have hx := C.1
  have hb := C.2.1
  have hown := C.2.2.2.1
  have hts := C.2.2.2.2.1
  have B16 : ∀ (H : Heap) (locs : List Loc) (S : zSt) (ls : Array Slot), f_Mo_content_16 S = some u → Dy g s S H locs → lv_has ls 2 [] → W p l e (rmD 7) s m args below meth c H locs 0 0 (MQ below (Qis g u) args s 0 0 (gA g)) (F0 m 16 ls []) := by
    intro H locs S ls h D hl
    unfold f_Mo_content_16 at h
    refine lv_iconst (v := (-1)) hx hb d_Mo_content_16 (by decide) ?_
    refine lv_goto hx hb d_Mo_content_17 rfl ?_
    exact x_irs C D h d_Mo_content_26
  unfold f_Mo_content at h
  refine lv_aload_n hx hb d_Mo_content_0 rfl (lv_at hl 0 rfl) ?_
  obtain ⟨u1, hu1, h⟩ := bd_some h
  refine x_cvs (rest := []) (r_V C D (c_Mo_work l g hD S u1 hu1) wc_Mo_work wm_Mo_316 wi_Mo_work wd_Mo_work (by decide) sh_66 kc_Mo.1 rfl rfl hl (Nat.le_of_ble_eq_true rfl) (by decide) d_Mo_content_1) D (fun H locs D => ?_)
  refine lv_iload_n hx hb d_Mo_content_4 rfl (lv_at hl 1 rfl) ?_
  refine lv_if_lt hx hb d_Mo_content_5 rfl (fun z => ?_) (fun z => ?_)
  · replace h := if_t z h
    exact B16 _ _ _ _ h D (lv_sub hl [] rfl)
  · replace h := if_f z h
    refine lv_iload_n hx hb d_Mo_content_8 rfl (lv_at hl 1 rfl) ?_
    refine lv_aload_n hx hb d_Mo_content_9 rfl (lv_at hl 0 rfl) ?_
    refine x_get (v := .int (u1 66 26)) C D kc_Mo (by decide) sh_66 26 rfl (by decide) wf_Mo_289 rfl rfl d_Mo_content_10 ?_
    refine lv_icmp_lt hx hb d_Mo_content_13 rfl (fun z => ?_) (fun z => ?_)
    · replace h := if_t z h
      refine lv_aload_n hx hb d_Mo_content_20 rfl (lv_at hl 0 rfl) ?_
      refine x_get (v := .ref (ga g 78)) C D kc_Mo (by decide) sh_66 27 rfl (by decide) wf_Mo_43 rfl rfl d_Mo_content_21 ?_
      refine lv_iload_n hx hb d_Mo_content_24 rfl (lv_at hl 1 rfl) ?_
      refine x_iald C D (by decide) sh_78 d_Mo_content_25 h (fun _ h => ?_)
      exact x_irs C D h d_Mo_content_26
    · replace h := if_f z h
      exact B16 _ _ _ _ h D (lv_sub hl [] rfl)
theorem d_Mo_send_0 : decode b_Mo_send 0 = .ok (.aload_n 0, 1) := by decide +kernel
theorem d_Mo_send_1 : decode b_Mo_send 1 = .ok (.invokevirtual 191, 3) := by decide +kernel
theorem d_Mo_send_4 : decode b_Mo_send 4 = .ok (.istore_n 1, 1) := by decide +kernel
theorem d_Mo_send_5 : decode b_Mo_send 5 = .ok (.iload_n 1, 1) := by decide +kernel
theorem d_Mo_send_6 : decode b_Mo_send 6 = .ok (.ifCond .eq 5, 3) := by decide +kernel
theorem d_Mo_send_9 : decode b_Mo_send 9 = .ok (.iload_n 1, 1) := by decide +kernel
theorem d_Mo_send_10 : decode b_Mo_send 10 = .ok (.ireturn, 1) := by decide +kernel
theorem d_Mo_send_11 : decode b_Mo_send 11 = .ok (.aload_n 0, 1) := by decide +kernel
theorem d_Mo_send_12 : decode b_Mo_send 12 = .ok (.invokevirtual 195, 3) := by decide +kernel
theorem d_Mo_send_15 : decode b_Mo_send 15 = .ok (.istore_n 1, 1) := by decide +kernel
theorem d_Mo_send_16 : decode b_Mo_send 16 = .ok (.iload_n 1, 1) := by decide +kernel
theorem d_Mo_send_17 : decode b_Mo_send 17 = .ok (.ifCond .eq 5, 3) := by decide +kernel
theorem d_Mo_send_20 : decode b_Mo_send 20 = .ok (.iload_n 1, 1) := by decide +kernel
theorem d_Mo_send_21 : decode b_Mo_send 21 = .ok (.ireturn, 1) := by decide +kernel
theorem d_Mo_send_22 : decode b_Mo_send 22 = .ok (.aload_n 0, 1) := by decide +kernel
theorem d_Mo_send_23 : decode b_Mo_send 23 = .ok (.invokevirtual 198, 3) := by decide +kernel
theorem d_Mo_send_26 : decode b_Mo_send 26 = .ok (.aload_n 0, 1) := by decide +kernel
theorem d_Mo_send_27 : decode b_Mo_send 27 = .ok (.iconst 0, 1) := by decide +kernel
theorem d_Mo_send_28 : decode b_Mo_send 28 = .ok (.putfield 134, 3) := by decide +kernel
theorem d_Mo_send_31 : decode b_Mo_send 31 = .ok (.aload_n 0, 1) := by decide +kernel
theorem d_Mo_send_32 : decode b_Mo_send 32 = .ok (.aload_n 0, 1) := by decide +kernel
theorem d_Mo_send_33 : decode b_Mo_send 33 = .ok (.getfield 46, 3) := by decide +kernel
theorem d_Mo_send_36 : decode b_Mo_send 36 = .ok (.ifCond .ne 9, 3) := by decide +kernel
theorem d_Mo_send_39 : decode b_Mo_send 39 = .ok (.ldc2_w 201, 3) := by decide +kernel
theorem d_Mo_send_42 : decode b_Mo_send 42 = .ok (.goto 48, 3) := by decide +kernel
theorem d_Mo_send_45 : decode b_Mo_send 45 = .ok (.aload_n 0, 1) := by decide +kernel
theorem d_Mo_send_46 : decode b_Mo_send 46 = .ok (.getfield 46, 3) := by decide +kernel
theorem d_Mo_send_49 : decode b_Mo_send 49 = .ok (.iconst 1, 1) := by decide +kernel
theorem d_Mo_send_50 : decode b_Mo_send 50 = .ok (.if_icmp .ne 9, 3) := by decide +kernel
theorem d_Mo_send_53 : decode b_Mo_send 53 = .ok (.ldc2_w 203, 3) := by decide +kernel
theorem d_Mo_send_56 : decode b_Mo_send 56 = .ok (.goto 34, 3) := by decide +kernel
theorem d_Mo_send_59 : decode b_Mo_send 59 = .ok (.aload_n 0, 1) := by decide +kernel
theorem d_Mo_send_60 : decode b_Mo_send 60 = .ok (.getfield 46, 3) := by decide +kernel
theorem d_Mo_send_63 : decode b_Mo_send 63 = .ok (.iconst 2, 1) := by decide +kernel
theorem d_Mo_send_64 : decode b_Mo_send 64 = .ok (.if_icmp .ne 9, 3) := by decide +kernel
theorem d_Mo_send_67 : decode b_Mo_send 67 = .ok (.ldc2_w 205, 3) := by decide +kernel
theorem d_Mo_send_70 : decode b_Mo_send 70 = .ok (.goto 20, 3) := by decide +kernel
theorem d_Mo_send_73 : decode b_Mo_send 73 = .ok (.aload_n 0, 1) := by decide +kernel
theorem d_Mo_send_74 : decode b_Mo_send 74 = .ok (.getfield 46, 3) := by decide +kernel
theorem d_Mo_send_77 : decode b_Mo_send 77 = .ok (.iconst 3, 1) := by decide +kernel
theorem d_Mo_send_78 : decode b_Mo_send 78 = .ok (.if_icmp .ne 9, 3) := by decide +kernel
theorem d_Mo_send_81 : decode b_Mo_send 81 = .ok (.ldc2_w 207, 3) := by decide +kernel
theorem d_Mo_send_84 : decode b_Mo_send 84 = .ok (.goto 6, 3) := by decide +kernel
theorem d_Mo_send_87 : decode b_Mo_send 87 = .ok (.ldc2_w 209, 3) := by decide +kernel
theorem d_Mo_send_90 : decode b_Mo_send 90 = .ok (.invokevirtual 180, 3) := by decide +kernel
theorem d_Mo_send_93 : decode b_Mo_send 93 = .ok (.aload_n 0, 1) := by decide +kernel
theorem d_Mo_send_94 : decode b_Mo_send 94 = .ok (.bipush 32, 2) := by decide +kernel
theorem d_Mo_send_96 : decode b_Mo_send 96 = .ok (.invokevirtual 142, 3) := by decide +kernel
theorem d_Mo_send_99 : decode b_Mo_send 99 = .ok (.aload_n 0, 1) := by decide +kernel
theorem d_Mo_send_100 : decode b_Mo_send 100 = .ok (.invokevirtual 211, 3) := by decide +kernel
theorem d_Mo_send_103 : decode b_Mo_send 103 = .ok (.aload_n 0, 1) := by decide +kernel
theorem d_Mo_send_104 : decode b_Mo_send 104 = .ok (.bipush 32, 2) := by decide +kernel
theorem d_Mo_send_106 : decode b_Mo_send 106 = .ok (.invokevirtual 142, 3) := by decide +kernel
theorem d_Mo_send_109 : decode b_Mo_send 109 = .ok (.aload_n 0, 1) := by decide +kernel
theorem d_Mo_send_110 : decode b_Mo_send 110 = .ok (.ldc2_w 214, 3) := by decide +kernel
theorem d_Mo_send_113 : decode b_Mo_send 113 = .ok (.invokevirtual 180, 3) := by decide +kernel
theorem d_Mo_send_116 : decode b_Mo_send 116 = .ok (.aload_n 0, 1) := by decide +kernel
theorem d_Mo_send_117 : decode b_Mo_send 117 = .ok (.invokevirtual 188, 3) := by decide +kernel
theorem d_Mo_send_120 : decode b_Mo_send 120 = .ok (.aload_n 0, 1) := by decide +kernel
theorem d_Mo_send_121 : decode b_Mo_send 121 = .ok (.ldc2_w 216, 3) := by decide +kernel
theorem d_Mo_send_124 : decode b_Mo_send 124 = .ok (.invokevirtual 180, 3) := by decide +kernel
theorem d_Mo_send_127 : decode b_Mo_send 127 = .ok (.aload_n 0, 1) := by decide +kernel
theorem d_Mo_send_128 : decode b_Mo_send 128 = .ok (.invokevirtual 188, 3) := by decide +kernel
theorem d_Mo_send_131 : decode b_Mo_send 131 = .ok (.aload_n 0, 1) := by decide +kernel
theorem d_Mo_send_132 : decode b_Mo_send 132 = .ok (.invokevirtual 218, 3) := by decide +kernel
theorem d_Mo_send_135 : decode b_Mo_send 135 = .ok (.aload_n 0, 1) := by decide +kernel
theorem d_Mo_send_136 : decode b_Mo_send 136 = .ok (.getfield 46, 3) := by decide +kernel
theorem d_Mo_send_139 : decode b_Mo_send 139 = .ok (.iconst 2, 1) := by decide +kernel
theorem d_Mo_send_140 : decode b_Mo_send 140 = .ok (.if_icmp .eq 11, 3) := by decide +kernel
theorem d_Mo_send_143 : decode b_Mo_send 143 = .ok (.aload_n 0, 1) := by decide +kernel
theorem d_Mo_send_144 : decode b_Mo_send 144 = .ok (.getfield 46, 3) := by decide +kernel
theorem d_Mo_send_147 : decode b_Mo_send 147 = .ok (.iconst 3, 1) := by decide +kernel
theorem d_Mo_send_148 : decode b_Mo_send 148 = .ok (.if_icmp .ne 29, 3) := by decide +kernel
theorem d_Mo_send_151 : decode b_Mo_send 151 = .ok (.aload_n 0, 1) := by decide +kernel
theorem d_Mo_send_152 : decode b_Mo_send 152 = .ok (.ldc2_w 221, 3) := by decide +kernel
theorem d_Mo_send_155 : decode b_Mo_send 155 = .ok (.invokevirtual 180, 3) := by decide +kernel
theorem d_Mo_send_158 : decode b_Mo_send 158 = .ok (.aload_n 0, 1) := by decide +kernel
theorem d_Mo_send_159 : decode b_Mo_send 159 = .ok (.ldc2_w 223, 3) := by decide +kernel
theorem d_Mo_send_162 : decode b_Mo_send 162 = .ok (.invokevirtual 180, 3) := by decide +kernel
theorem d_Mo_send_165 : decode b_Mo_send 165 = .ok (.aload_n 0, 1) := by decide +kernel
theorem d_Mo_send_166 : decode b_Mo_send 166 = .ok (.aload_n 0, 1) := by decide +kernel
theorem d_Mo_send_167 : decode b_Mo_send 167 = .ok (.getfield 131, 3) := by decide +kernel
theorem d_Mo_send_170 : decode b_Mo_send 170 = .ok (.invokevirtual 225, 3) := by decide +kernel
theorem d_Mo_send_173 : decode b_Mo_send 173 = .ok (.aload_n 0, 1) := by decide +kernel
theorem d_Mo_send_174 : decode b_Mo_send 174 = .ok (.invokevirtual 188, 3) := by decide +kernel
theorem d_Mo_send_177 : decode b_Mo_send 177 = .ok (.aload_n 0, 1) := by decide +kernel
theorem d_Mo_send_178 : decode b_Mo_send 178 = .ok (.invokevirtual 188, 3) := by decide +kernel
theorem d_Mo_send_181 : decode b_Mo_send 181 = .ok (.iconst 0, 1) := by decide +kernel
theorem d_Mo_send_182 : decode b_Mo_send 182 = .ok (.istore_n 2, 1) := by decide +kernel
theorem d_Mo_send_183 : decode b_Mo_send 183 = .ok (.iload_n 2, 1) := by decide +kernel
theorem d_Mo_send_184 : decode b_Mo_send 184 = .ok (.aload_n 0, 1) := by decide +kernel
theorem d_Mo_send_185 : decode b_Mo_send 185 = .ok (.getfield 131, 3) := by decide +kernel
theorem d_Mo_send_188 : decode b_Mo_send 188 = .ok (.if_icmp .ge 19, 3) := by decide +kernel
theorem d_Mo_send_191 : decode b_Mo_send 191 = .ok (.aload_n 0, 1) := by decide +kernel
theorem d_Mo_send_192 : decode b_Mo_send 192 = .ok (.aload_n 0, 1) := by decide +kernel
theorem d_Mo_send_193 : decode b_Mo_send 193 = .ok (.getfield 34, 3) := by decide +kernel
theorem d_Mo_send_196 : decode b_Mo_send 196 = .ok (.iload_n 2, 1) := by decide +kernel
theorem d_Mo_send_197 : decode b_Mo_send 197 = .ok (.iaload, 1) := by decide +kernel
theorem d_Mo_send_198 : decode b_Mo_send 198 = .ok (.invokevirtual 142, 3) := by decide +kernel
theorem d_Mo_send_201 : decode b_Mo_send 201 = .ok (.iinc 2 1, 3) := by decide +kernel
theorem d_Mo_send_204 : decode b_Mo_send 204 = .ok (.goto (-21), 3) := by decide +kernel
theorem d_Mo_send_207 : decode b_Mo_send 207 = .ok (.aload_n 0, 1) := by decide +kernel
theorem d_Mo_send_208 : decode b_Mo_send 208 = .ok (.getfield 134, 3) := by decide +kernel
theorem d_Mo_send_211 : decode b_Mo_send 211 = .ok (.sipush 1000, 3) := by decide +kernel
theorem d_Mo_send_214 : decode b_Mo_send 214 = .ok (.if_icmp .le 6, 3) := by decide +kernel
theorem d_Mo_send_217 : decode b_Mo_send 217 = .ok (.bipush (-10), 2) := by decide +kernel
theorem d_Mo_send_219 : decode b_Mo_send 219 = .ok (.ireturn, 1) := by decide +kernel
theorem d_Mo_send_220 : decode b_Mo_send 220 = .ok (.iconst 0, 1) := by decide +kernel
theorem d_Mo_send_221 : decode b_Mo_send 221 = .ok (.istore_n 2, 1) := by decide +kernel
theorem d_Mo_send_222 : decode b_Mo_send 222 = .ok (.iload_n 2, 1) := by decide +kernel
theorem d_Mo_send_223 : decode b_Mo_send 223 = .ok (.aload_n 0, 1) := by decide +kernel
theorem d_Mo_send_224 : decode b_Mo_send 224 = .ok (.getfield 134, 3) := by decide +kernel
theorem d_Mo_send_227 : decode b_Mo_send 227 = .ok (.if_icmp .ge 21, 3) := by decide +kernel
theorem d_Mo_send_230 : decode b_Mo_send 230 = .ok (.aload_n 0, 1) := by decide +kernel
theorem d_Mo_send_231 : decode b_Mo_send 231 = .ok (.getfield 28, 3) := by decide +kernel
theorem d_Mo_send_234 : decode b_Mo_send 234 = .ok (.iload_n 2, 1) := by decide +kernel
theorem d_Mo_send_235 : decode b_Mo_send 235 = .ok (.aload_n 0, 1) := by decide +kernel
theorem d_Mo_send_236 : decode b_Mo_send 236 = .ok (.getfield 31, 3) := by decide +kernel
theorem d_Mo_send_239 : decode b_Mo_send 239 = .ok (.iload_n 2, 1) := by decide +kernel
theorem d_Mo_send_240 : decode b_Mo_send 240 = .ok (.iaload, 1) := by decide +kernel
theorem d_Mo_send_241 : decode b_Mo_send 241 = .ok (.iastore, 1) := by decide +kernel
theorem d_Mo_send_242 : decode b_Mo_send 242 = .ok (.iinc 2 1, 3) := by decide +kernel
theorem d_Mo_send_245 : decode b_Mo_send 245 = .ok (.goto (-23), 3) := by decide +kernel
theorem d_Mo_send_248 : decode b_Mo_send 248 = .ok (.aload_n 0, 1) := by decide +kernel
theorem d_Mo_send_249 : decode b_Mo_send 249 = .ok (.aload_n 0, 1) := by decide +kernel
theorem d_Mo_send_250 : decode b_Mo_send 250 = .ok (.getfield 134, 3) := by decide +kernel
theorem d_Mo_send_253 : decode b_Mo_send 253 = .ok (.putfield 228, 3) := by decide +kernel
theorem d_Mo_send_256 : decode b_Mo_send 256 = .ok (.aload_n 0, 1) := by decide +kernel
theorem d_Mo_send_257 : decode b_Mo_send 257 = .ok (.getfield 228, 3) := by decide +kernel
theorem d_Mo_send_260 : decode b_Mo_send 260 = .ok (.ireturn, 1) := by decide +kernel
def f_Mo_send_222 : Nat → Int32 → zSt → Option (Int32 × zSt)
  | 0, _, _ => none
  | n + 1, a2, S => (if (S 66 11) ≤ a2 then sq (su S 66 9 (S 66 11)) fun S19 => (some ((S19 66 9), S19)) else gdi a2 1000 (gdi a2 1000 (sq (su S 73 a2.toNatClampNeg (S 74 a2.toNatClampNeg)) fun S20 => ((f_Mo_send_222 n) (a2 + 1) S20))))
def f_Mo_send_183 : Nat → Int32 → zSt → Option (Int32 × zSt)
  | 0, _, _ => none
  | n + 1, a2, S => (if (S 66 15) ≤ a2 then (if (S 66 11) ≤ 1000 then (f_Mo_send_222 fu 0 S) else (some ((-10), S))) else gdi a2 1400 (((f_Mo_put (S 75 a2.toNatClampNeg) S).bind fun u21 => ((f_Mo_send_183 n) (a2 + 1) u21))))
def f_Mo_send_177 (S : zSt) : Option (Int32 × zSt) := ((f_Mo_end S).bind fun u18 => (f_Mo_send_183 fu 0 u18))
def f_Mo_send_151 (S : zSt) : Option (Int32 × zSt) := ((f_Mo_spell (3275364211029340003 : Int64) S).bind fun u14 => ((f_Mo_spell (2322283407023695212 : Int64) u14).bind fun u15 => ((f_Mo_number (u15 66 15) u15).bind fun u16 => ((f_Mo_end u16).bind fun u17 => (f_Mo_send_177 u17)))))
def f_Mo_send_90 (t0 : Int64) (S : zSt) : Option (Int32 × zSt) := ((f_Mo_spell t0 S).bind fun u5 => ((f_Mo_put 32 u5).bind fun u6 => ((f_Mo_target u6).bind fun u7 => ((f_Mo_put 32 u7).bind fun u8 => ((f_Mo_spell (3543824036068086856 : Int64) u8).bind fun u9 => ((f_Mo_end u9).bind fun u10 => ((f_Mo_spell (29308833011822440 : Int64) u10).bind fun u11 => ((f_Mo_end u11).bind fun u12 => ((f_Mo_headers u12).bind fun u13 => (if (u13 66 0) = 2 then (f_Mo_send_151 u13) else (if (u13 66 0) = 3 then (f_Mo_send_151 u13) else (f_Mo_send_177 u13))))))))))))
def f_Mo_send (S : zSt) : Option (Int32 × zSt) := ((f_Mo_check S).bind fun u1 => (if u1 = 0 then ((f_Mo_itemFault S).bind fun u2 => (if u2 = 0 then ((f_Mo_compose S).bind fun u3 => sq (su u3 66 11 0) fun S4 => (if (S4 66 0) = 0 then (f_Mo_send_90 (5522759 : Int64) S4) else (if (S4 66 0) = 1 then (f_Mo_send_90 (1145128264 : Int64) S4) else (if (S4 66 0) = 2 then (f_Mo_send_90 (1414745936 : Int64) S4) else (if (S4 66 0) = 3 then (f_Mo_send_90 (5526864 : Int64) S4) else (f_Mo_send_90 (76228242195780 : Int64) S4)))))) else (some (u2, S)))) else (some (u1, S))))
set_option maxHeartbeats 4000000 in
set_option maxRecDepth 100000 in
theorem c_Mo_send (l : Launch) (g : zG) (hD : GD g) (S : zSt) (u : (Int32 × zSt)) (h : f_Mo_send S = some u) : Met l y_Mo_send (mw y_Mo_send b_Mo_send 3 (some .int)) (rmD 8) (Pw g [.ref (ga g 66)] S) (Qis g u) 0 0 (gA g) := by
  refine z_go (own := R_Mo) (lv0 := [(0, .ref (ga g 66))]) hD (by decide) rfl (Nat.le_of_ble_eq_true rfl) rfl ?_
  intro p e s m args below meth c C D ls hl
  have hx := C.1
  have hb := C.2.1
  have hown := C.2.2.2.1
  have hts := C.2.2.2.2.1
  have L222 : ∀ (n : Nat) (H : Heap) (locs : List Loc) (S : zSt) (ls : Array Slot) (a2 : Int32), f_Mo_send_222 n a2 S = some u → Dy g s S H locs → lv_has ls 3 [(0, .ref (ga g 66)), (2, .int a2)] → W p l e (rmD 8) s m args below meth c H locs 0 0 (MQ below (Qis g u) args s 0 0 (gA g)) (F0 m 222 ls []) := by
    intro n
    induction n with
    | zero => intro H locs S ls a2 h D hl; rw [f_Mo_send_222] at h; cases h
    | succ n hK222 =>
      intro H locs S ls a2 h D hl
      rw [f_Mo_send_222] at h
      refine lv_iload_n hx hb d_Mo_send_222 rfl (lv_at hl 1 rfl) ?_
      refine lv_aload_n hx hb d_Mo_send_223 rfl (lv_at hl 0 rfl) ?_
      refine x_get (v := .int (S 66 11)) C D kc_Mo (by decide) sh_66 11 rfl (by decide) wf_Mo_134 rfl rfl d_Mo_send_224 ?_
      refine lv_icmp_ge hx hb d_Mo_send_227 rfl (fun z => ?_) (fun z => ?_)
      · replace h := if_t z h
        refine lv_aload_n hx hb d_Mo_send_248 rfl (lv_at hl 0 rfl) ?_
        refine lv_aload_n hx hb d_Mo_send_249 rfl (lv_at hl 0 rfl) ?_
        refine x_get (v := .int (S 66 11)) C D kc_Mo (by decide) sh_66 11 rfl (by decide) wf_Mo_134 rfl rfl d_Mo_send_250 ?_
        refine x_put C D kc_Mo (by decide) sh_66 9 rfl (by decide) wf_Mo_228 rfl rfl (S 66 11) rfl ⟨rfl, rfl⟩ d_Mo_send_253 h (fun S19 H locs h D => ?_)
        refine lv_aload_n hx hb d_Mo_send_256 rfl (lv_at hl 0 rfl) ?_
        refine x_get (v := .int (S19 66 9)) C D kc_Mo (by decide) sh_66 9 rfl (by decide) wf_Mo_228 rfl rfl d_Mo_send_257 ?_
        exact x_irs C D h d_Mo_send_260
      · replace h := if_f z h
        refine lv_aload_n hx hb d_Mo_send_230 rfl (lv_at hl 0 rfl) ?_
        refine x_get (v := .ref (ga g 73)) C D kc_Mo (by decide) sh_66 10 rfl (by decide) wf_Mo_28 rfl rfl d_Mo_send_231 ?_
        refine lv_iload_n hx hb d_Mo_send_234 rfl (lv_at hl 1 rfl) ?_
        refine lv_aload_n hx hb d_Mo_send_235 rfl (lv_at hl 0 rfl) ?_
        refine x_get (v := .ref (ga g 74)) C D kc_Mo (by decide) sh_66 12 rfl (by decide) wf_Mo_31 rfl rfl d_Mo_send_236 ?_
        refine lv_iload_n hx hb d_Mo_send_239 rfl (lv_at hl 1 rfl) ?_
        refine x_iald C D (by decide) sh_74 d_Mo_send_240 h (fun _ h => ?_)
        refine x_iast C D (by decide) sh_73 d_Mo_send_241 h (fun S20 H locs h D => ?_)
        refine lv_iinc (k := 1) (lv' := [(2, .int (a2 + 1)), (0, .ref (ga g 66))]) hx hb d_Mo_send_242 hl rfl (ii1 _) (by decide) rfl (fun ls hl => ?_)
        refine lv_goto hx hb d_Mo_send_245 rfl ?_
        exact hK222 _ _ _ _ _ h D (lv_sub hl [1, 0] rfl)
  have L183 : ∀ (n : Nat) (H : Heap) (locs : List Loc) (S : zSt) (ls : Array Slot) (a2 : Int32), f_Mo_send_183 n a2 S = some u → Dy g s S H locs → lv_has ls 3 [(0, .ref (ga g 66)), (2, .int a2)] → W p l e (rmD 8) s m args below meth c H locs 0 0 (MQ below (Qis g u) args s 0 0 (gA g)) (F0 m 183 ls []) := by
    intro n
    induction n with
    | zero => intro H locs S ls a2 h D hl; rw [f_Mo_send_183] at h; cases h
    | succ n hK183 =>
      intro H locs S ls a2 h D hl
      rw [f_Mo_send_183] at h
      refine lv_iload_n hx hb d_Mo_send_183 rfl (lv_at hl 1 rfl) ?_
      refine lv_aload_n hx hb d_Mo_send_184 rfl (lv_at hl 0 rfl) ?_
      refine x_get (v := .int (S 66 15)) C D kc_Mo (by decide) sh_66 15 rfl (by decide) wf_Mo_131 rfl rfl d_Mo_send_185 ?_
      refine lv_icmp_ge hx hb d_Mo_send_188 rfl (fun z => ?_) (fun z => ?_)
      · replace h := if_t z h
        refine lv_aload_n hx hb d_Mo_send_207 rfl (lv_at hl 0 rfl) ?_
        refine x_get (v := .int (S 66 11)) C D kc_Mo (by decide) sh_66 11 rfl (by decide) wf_Mo_134 rfl rfl d_Mo_send_208 ?_
        refine lv_sipush (v := 1000) hx hb d_Mo_send_211 (by decide) ?_
        refine lv_icmp_le hx hb d_Mo_send_214 rfl (fun z => ?_) (fun z => ?_)
        · replace h := if_t z h
          refine lv_iconst (v := 0) hx hb d_Mo_send_220 (by decide) ?_
          refine lv_istore_n (lv' := [(2, .int 0), (0, .ref (ga g 66))]) hx hb d_Mo_send_221 rfl hl (by decide) rfl (fun ls hl => ?_)
          exact L222 _ _ _ _ _ _ h D (lv_sub hl [1, 0] rfl)
        · replace h := if_f z h
          refine lv_bipush (v := (-10)) hx hb d_Mo_send_217 (by decide) ?_
          exact x_irs C D h d_Mo_send_219
      · replace h := if_f z h
        refine lv_aload_n hx hb d_Mo_send_191 rfl (lv_at hl 0 rfl) ?_
        refine lv_aload_n hx hb d_Mo_send_192 rfl (lv_at hl 0 rfl) ?_
        refine x_get (v := .ref (ga g 75)) C D kc_Mo (by decide) sh_66 16 rfl (by decide) wf_Mo_34 rfl rfl d_Mo_send_193 ?_
        refine lv_iload_n hx hb d_Mo_send_196 rfl (lv_at hl 1 rfl) ?_
        refine x_iald C D (by decide) sh_75 d_Mo_send_197 h (fun _ h => ?_)
        obtain ⟨u21, hu21, h⟩ := bd_some h
        refine x_cvs (rest := []) (r_V C D (c_Mo_put l g hD (S 75 a2.toNatClampNeg) S u21 hu21) wc_Mo_put wm_Mo_142 wi_Mo_put wd_Mo_put (by decide) sh_66 kc_Mo.1 rfl rfl hl (Nat.le_of_ble_eq_true rfl) (by decide) d_Mo_send_198) D (fun H locs D => ?_)
        refine lv_iinc (k := 1) (lv' := [(2, .int (a2 + 1)), (0, .ref (ga g 66))]) hx hb d_Mo_send_201 hl rfl (ii1 _) (by decide) rfl (fun ls hl => ?_)
        refine lv_goto hx hb d_Mo_send_204 rfl ?_
        exact hK183 _ _ _ _ _ h D (lv_sub hl [1, 0] rfl)
  have B177 : ∀ (H : Heap) (locs : List Loc) (S : zSt) (ls : Array Slot), f_Mo_send_177 S = some u → Dy g s S H locs → lv_has ls 3 [(0, .ref (ga g 66))] → W p l e (rmD 8) s m args below meth c H locs 0 0 (MQ below (Qis g u) args s 0 0 (gA g)) (F0 m 177 ls []) := by
    intro H locs S ls h D hl
    unfold f_Mo_send_177 at h
    refine lv_aload_n hx hb d_Mo_send_177 rfl (lv_at hl 0 rfl) ?_
    obtain ⟨u18, hu18, h⟩ := bd_some h
    refine x_cvs (rest := []) (r_V C D (c_Mo_end l g hD S u18 hu18) wc_Mo_end wm_Mo_188 wi_Mo_end wd_Mo_end (by decide) sh_66 kc_Mo.1 rfl rfl hl (Nat.le_of_ble_eq_true rfl) (by decide) d_Mo_send_178) D (fun H locs D => ?_)
    refine lv_iconst (v := 0) hx hb d_Mo_send_181 (by decide) ?_
    refine lv_istore_n (lv' := [(2, .int 0), (0, .ref (ga g 66))]) hx hb d_Mo_send_182 rfl hl (by decide) rfl (fun ls hl => ?_)
    exact L183 _ _ _ _ _ _ h D (lv_sub hl [1, 0] rfl)
  have B151 : ∀ (H : Heap) (locs : List Loc) (S : zSt) (ls : Array Slot), f_Mo_send_151 S = some u → Dy g s S H locs → lv_has ls 3 [(0, .ref (ga g 66))] → W p l e (rmD 8) s m args below meth c H locs 0 0 (MQ below (Qis g u) args s 0 0 (gA g)) (F0 m 151 ls []) := by
    intro H locs S ls h D hl
    unfold f_Mo_send_151 at h
    refine lv_aload_n hx hb d_Mo_send_151 rfl (lv_at hl 0 rfl) ?_
    refine lv_ldc2 (v := 3275364211029340003) hx hb hown (hts _ wk_Mo_221) d_Mo_send_152 ?_
    obtain ⟨u14, hu14, h⟩ := bd_some h
    refine x_cvs (rest := []) (r_V C D (c_Mo_spell l g hD (3275364211029340003 : Int64) S u14 hu14) wc_Mo_spell wm_Mo_180 wi_Mo_spell wd_Mo_spell (by decide) sh_66 kc_Mo.1 rfl rfl hl (Nat.le_of_ble_eq_true rfl) (by decide) d_Mo_send_155) D (fun H locs D => ?_)
    refine lv_aload_n hx hb d_Mo_send_158 rfl (lv_at hl 0 rfl) ?_
    refine lv_ldc2 (v := 2322283407023695212) hx hb hown (hts _ wk_Mo_223) d_Mo_send_159 ?_
    obtain ⟨u15, hu15, h⟩ := bd_some h
    refine x_cvs (rest := []) (r_V C D (c_Mo_spell l g hD (2322283407023695212 : Int64) u14 u15 hu15) wc_Mo_spell wm_Mo_180 wi_Mo_spell wd_Mo_spell (by decide) sh_66 kc_Mo.1 rfl rfl hl (Nat.le_of_ble_eq_true rfl) (by decide) d_Mo_send_162) D (fun H locs D => ?_)
    refine lv_aload_n hx hb d_Mo_send_165 rfl (lv_at hl 0 rfl) ?_
    refine lv_aload_n hx hb d_Mo_send_166 rfl (lv_at hl 0 rfl) ?_
    refine x_get (v := .int (u15 66 15)) C D kc_Mo (by decide) sh_66 15 rfl (by decide) wf_Mo_131 rfl rfl d_Mo_send_167 ?_
    obtain ⟨u16, hu16, h⟩ := bd_some h
    refine x_cvs (rest := []) (r_V C D (c_Mo_number l g hD (u15 66 15) u15 u16 hu16) wc_Mo_number wm_Mo_225 wi_Mo_number wd_Mo_number (by decide) sh_66 kc_Mo.1 rfl rfl hl (Nat.le_of_ble_eq_true rfl) (by decide) d_Mo_send_170) D (fun H locs D => ?_)
    refine lv_aload_n hx hb d_Mo_send_173 rfl (lv_at hl 0 rfl) ?_
    obtain ⟨u17, hu17, h⟩ := bd_some h
    refine x_cvs (rest := []) (r_V C D (c_Mo_end l g hD u16 u17 hu17) wc_Mo_end wm_Mo_188 wi_Mo_end wd_Mo_end (by decide) sh_66 kc_Mo.1 rfl rfl hl (Nat.le_of_ble_eq_true rfl) (by decide) d_Mo_send_174) D (fun H locs D => ?_)
    exact B177 _ _ _ _ h D (lv_sub hl [0] rfl)
  have B90 : ∀ (H : Heap) (locs : List Loc) (S : zSt) (ls : Array Slot) (t0 : Int64), f_Mo_send_90 t0 S = some u → Dy g s S H locs → lv_has ls 3 [(0, .ref (ga g 66))] → W p l e (rmD 8) s m args below meth c H locs 0 0 (MQ below (Qis g u) args s 0 0 (gA g)) (F0 m 90 ls [.long t0, .ref (ga g 66)]) := by
    intro H locs S ls t0 h D hl
    unfold f_Mo_send_90 at h
    obtain ⟨u5, hu5, h⟩ := bd_some h
    refine x_cvs (rest := []) (r_V C D (c_Mo_spell l g hD t0 S u5 hu5) wc_Mo_spell wm_Mo_180 wi_Mo_spell wd_Mo_spell (by decide) sh_66 kc_Mo.1 rfl rfl hl (Nat.le_of_ble_eq_true rfl) (by decide) d_Mo_send_90) D (fun H locs D => ?_)
    refine lv_aload_n hx hb d_Mo_send_93 rfl (lv_at hl 0 rfl) ?_
    refine lv_bipush (v := 32) hx hb d_Mo_send_94 (by decide) ?_
    obtain ⟨u6, hu6, h⟩ := bd_some h
    refine x_cvs (rest := []) (r_V C D (c_Mo_put l g hD 32 u5 u6 hu6) wc_Mo_put wm_Mo_142 wi_Mo_put wd_Mo_put (by decide) sh_66 kc_Mo.1 rfl rfl hl (Nat.le_of_ble_eq_true rfl) (by decide) d_Mo_send_96) D (fun H locs D => ?_)
    refine lv_aload_n hx hb d_Mo_send_99 rfl (lv_at hl 0 rfl) ?_
    obtain ⟨u7, hu7, h⟩ := bd_some h
    refine x_cvs (rest := []) (r_V C D (c_Mo_target l g hD u6 u7 hu7) wc_Mo_target wm_Mo_211 wi_Mo_target wd_Mo_target (by decide) sh_66 kc_Mo.1 rfl rfl hl (Nat.le_of_ble_eq_true rfl) (by decide) d_Mo_send_100) D (fun H locs D => ?_)
    refine lv_aload_n hx hb d_Mo_send_103 rfl (lv_at hl 0 rfl) ?_
    refine lv_bipush (v := 32) hx hb d_Mo_send_104 (by decide) ?_
    obtain ⟨u8, hu8, h⟩ := bd_some h
    refine x_cvs (rest := []) (r_V C D (c_Mo_put l g hD 32 u7 u8 hu8) wc_Mo_put wm_Mo_142 wi_Mo_put wd_Mo_put (by decide) sh_66 kc_Mo.1 rfl rfl hl (Nat.le_of_ble_eq_true rfl) (by decide) d_Mo_send_106) D (fun H locs D => ?_)
    refine lv_aload_n hx hb d_Mo_send_109 rfl (lv_at hl 0 rfl) ?_
    refine lv_ldc2 (v := 3543824036068086856) hx hb hown (hts _ wk_Mo_214) d_Mo_send_110 ?_
    obtain ⟨u9, hu9, h⟩ := bd_some h
    refine x_cvs (rest := []) (r_V C D (c_Mo_spell l g hD (3543824036068086856 : Int64) u8 u9 hu9) wc_Mo_spell wm_Mo_180 wi_Mo_spell wd_Mo_spell (by decide) sh_66 kc_Mo.1 rfl rfl hl (Nat.le_of_ble_eq_true rfl) (by decide) d_Mo_send_113) D (fun H locs D => ?_)
    refine lv_aload_n hx hb d_Mo_send_116 rfl (lv_at hl 0 rfl) ?_
    obtain ⟨u10, hu10, h⟩ := bd_some h
    refine x_cvs (rest := []) (r_V C D (c_Mo_end l g hD u9 u10 hu10) wc_Mo_end wm_Mo_188 wi_Mo_end wd_Mo_end (by decide) sh_66 kc_Mo.1 rfl rfl hl (Nat.le_of_ble_eq_true rfl) (by decide) d_Mo_send_117) D (fun H locs D => ?_)
    refine lv_aload_n hx hb d_Mo_send_120 rfl (lv_at hl 0 rfl) ?_
    refine lv_ldc2 (v := 29308833011822440) hx hb hown (hts _ wk_Mo_216) d_Mo_send_121 ?_
    obtain ⟨u11, hu11, h⟩ := bd_some h
    refine x_cvs (rest := []) (r_V C D (c_Mo_spell l g hD (29308833011822440 : Int64) u10 u11 hu11) wc_Mo_spell wm_Mo_180 wi_Mo_spell wd_Mo_spell (by decide) sh_66 kc_Mo.1 rfl rfl hl (Nat.le_of_ble_eq_true rfl) (by decide) d_Mo_send_124) D (fun H locs D => ?_)
    refine lv_aload_n hx hb d_Mo_send_127 rfl (lv_at hl 0 rfl) ?_
    obtain ⟨u12, hu12, h⟩ := bd_some h
    refine x_cvs (rest := []) (r_V C D (c_Mo_end l g hD u11 u12 hu12) wc_Mo_end wm_Mo_188 wi_Mo_end wd_Mo_end (by decide) sh_66 kc_Mo.1 rfl rfl hl (Nat.le_of_ble_eq_true rfl) (by decide) d_Mo_send_128) D (fun H locs D => ?_)
    refine lv_aload_n hx hb d_Mo_send_131 rfl (lv_at hl 0 rfl) ?_
    obtain ⟨u13, hu13, h⟩ := bd_some h
    refine x_cvs (rest := []) (r_V C D (c_Mo_headers l g hD u12 u13 hu13) wc_Mo_headers wm_Mo_218 wi_Mo_headers wd_Mo_headers (by decide) sh_66 kc_Mo.1 rfl rfl hl (Nat.le_of_ble_eq_true rfl) (by decide) d_Mo_send_132) D (fun H locs D => ?_)
    refine lv_aload_n hx hb d_Mo_send_135 rfl (lv_at hl 0 rfl) ?_
    refine x_get (v := .int (u13 66 0)) C D kc_Mo (by decide) sh_66 0 rfl (by decide) wf_Mo_46 rfl rfl d_Mo_send_136 ?_
    refine lv_iconst (v := 2) hx hb d_Mo_send_139 (by decide) ?_
    refine lv_icmp_eq hx hb d_Mo_send_140 rfl (fun z => ?_) (fun z => ?_)
    · replace h := if_t z h
      exact B151 _ _ _ _ h D (lv_sub hl [0] rfl)
    · replace h := if_f z h
      refine lv_aload_n hx hb d_Mo_send_143 rfl (lv_at hl 0 rfl) ?_
      refine x_get (v := .int (u13 66 0)) C D kc_Mo (by decide) sh_66 0 rfl (by decide) wf_Mo_46 rfl rfl d_Mo_send_144 ?_
      refine lv_iconst (v := 3) hx hb d_Mo_send_147 (by decide) ?_
      refine lv_icmp_ne hx hb d_Mo_send_148 rfl (fun z => ?_) (fun z => ?_)
      · replace h := if_f z h
        exact B177 _ _ _ _ h D (lv_sub hl [0] rfl)
      · replace h := if_t z h
        exact B151 _ _ _ _ h D (lv_sub hl [0] rfl)
  unfold f_Mo_send at h
  refine lv_aload_n hx hb d_Mo_send_0 rfl (lv_at hl 0 rfl) ?_
  obtain ⟨u1, hu1, h⟩ := bd_some h
  refine x_cip (rest := []) (r_V C D (c_Mo_check l g hD S u1 hu1) wc_Mo_check wm_Mo_191 wi_Mo_check wd_Mo_check (by decide) sh_66 kc_Mo.1 rfl rfl hl (Nat.le_of_ble_eq_true rfl) (by decide) d_Mo_send_1) D (fun H locs D => ?_)
  refine lv_istore_n (lv' := [(1, .int u1), (0, .ref (ga g 66))]) hx hb d_Mo_send_4 rfl hl (by decide) rfl (fun ls hl => ?_)
  refine lv_iload_n hx hb d_Mo_send_5 rfl (lv_at hl 0 rfl) ?_
  refine lv_if_eq hx hb d_Mo_send_6 rfl (fun z => ?_) (fun z => ?_)
  · replace h := if_t z h
    refine lv_aload_n hx hb d_Mo_send_11 rfl (lv_at hl 1 rfl) ?_
    obtain ⟨u2, hu2, h⟩ := bd_some h
    refine x_cip (rest := []) (r_V C D (c_Mo_itemFault l g hD S u2 hu2) wc_Mo_itemFault wm_Mo_195 wi_Mo_itemFault wd_Mo_itemFault (by decide) sh_66 kc_Mo.1 rfl rfl hl (Nat.le_of_ble_eq_true rfl) (by decide) d_Mo_send_12) D (fun H locs D => ?_)
    refine lv_istore_n (lv' := [(1, .int u2), (0, .ref (ga g 66))]) hx hb d_Mo_send_15 rfl hl (by decide) rfl (fun ls hl => ?_)
    refine lv_iload_n hx hb d_Mo_send_16 rfl (lv_at hl 0 rfl) ?_
    refine lv_if_eq hx hb d_Mo_send_17 rfl (fun z => ?_) (fun z => ?_)
    · replace h := if_t z h
      refine lv_aload_n hx hb d_Mo_send_22 rfl (lv_at hl 1 rfl) ?_
      obtain ⟨u3, hu3, h⟩ := bd_some h
      refine x_cvs (rest := []) (r_V C D (c_Mo_compose l g hD S u3 hu3) wc_Mo_compose wm_Mo_198 wi_Mo_compose wd_Mo_compose (by decide) sh_66 kc_Mo.1 rfl rfl hl (Nat.le_of_ble_eq_true rfl) (by decide) d_Mo_send_23) D (fun H locs D => ?_)
      refine lv_aload_n hx hb d_Mo_send_26 rfl (lv_at hl 1 rfl) ?_
      refine lv_iconst (v := 0) hx hb d_Mo_send_27 (by decide) ?_
      refine x_put C D kc_Mo (by decide) sh_66 11 rfl (by decide) wf_Mo_134 rfl rfl 0 rfl ⟨rfl, rfl⟩ d_Mo_send_28 h (fun S4 H locs h D => ?_)
      refine lv_aload_n hx hb d_Mo_send_31 rfl (lv_at hl 1 rfl) ?_
      refine lv_aload_n hx hb d_Mo_send_32 rfl (lv_at hl 1 rfl) ?_
      refine x_get (v := .int (S4 66 0)) C D kc_Mo (by decide) sh_66 0 rfl (by decide) wf_Mo_46 rfl rfl d_Mo_send_33 ?_
      refine lv_if_ne hx hb d_Mo_send_36 rfl (fun z => ?_) (fun z => ?_)
      · replace h := if_f z h
        refine lv_aload_n hx hb d_Mo_send_45 rfl (lv_at hl 1 rfl) ?_
        refine x_get (v := .int (S4 66 0)) C D kc_Mo (by decide) sh_66 0 rfl (by decide) wf_Mo_46 rfl rfl d_Mo_send_46 ?_
        refine lv_iconst (v := 1) hx hb d_Mo_send_49 (by decide) ?_
        refine lv_icmp_ne hx hb d_Mo_send_50 rfl (fun z => ?_) (fun z => ?_)
        · replace h := if_f z h
          refine lv_aload_n hx hb d_Mo_send_59 rfl (lv_at hl 1 rfl) ?_
          refine x_get (v := .int (S4 66 0)) C D kc_Mo (by decide) sh_66 0 rfl (by decide) wf_Mo_46 rfl rfl d_Mo_send_60 ?_
          refine lv_iconst (v := 2) hx hb d_Mo_send_63 (by decide) ?_
          refine lv_icmp_ne hx hb d_Mo_send_64 rfl (fun z => ?_) (fun z => ?_)
          · replace h := if_f z h
            refine lv_aload_n hx hb d_Mo_send_73 rfl (lv_at hl 1 rfl) ?_
            refine x_get (v := .int (S4 66 0)) C D kc_Mo (by decide) sh_66 0 rfl (by decide) wf_Mo_46 rfl rfl d_Mo_send_74 ?_
            refine lv_iconst (v := 3) hx hb d_Mo_send_77 (by decide) ?_
            refine lv_icmp_ne hx hb d_Mo_send_78 rfl (fun z => ?_) (fun z => ?_)
            · replace h := if_f z h
              refine lv_ldc2 (v := 76228242195780) hx hb hown (hts _ wk_Mo_209) d_Mo_send_87 ?_
              exact B90 _ _ _ _ _ h D (lv_sub hl [1] rfl)
            · replace h := if_t z h
              refine lv_ldc2 (v := 5526864) hx hb hown (hts _ wk_Mo_207) d_Mo_send_81 ?_
              refine lv_goto hx hb d_Mo_send_84 rfl ?_
              exact B90 _ _ _ _ _ h D (lv_sub hl [1] rfl)
          · replace h := if_t z h
            refine lv_ldc2 (v := 1414745936) hx hb hown (hts _ wk_Mo_205) d_Mo_send_67 ?_
            refine lv_goto hx hb d_Mo_send_70 rfl ?_
            exact B90 _ _ _ _ _ h D (lv_sub hl [1] rfl)
        · replace h := if_t z h
          refine lv_ldc2 (v := 1145128264) hx hb hown (hts _ wk_Mo_203) d_Mo_send_53 ?_
          refine lv_goto hx hb d_Mo_send_56 rfl ?_
          exact B90 _ _ _ _ _ h D (lv_sub hl [1] rfl)
      · replace h := if_t z h
        refine lv_ldc2 (v := 5522759) hx hb hown (hts _ wk_Mo_201) d_Mo_send_39 ?_
        refine lv_goto hx hb d_Mo_send_42 rfl ?_
        exact B90 _ _ _ _ _ h D (lv_sub hl [1] rfl)
    · replace h := if_f z h
      refine lv_iload_n hx hb d_Mo_send_20 rfl (lv_at hl 0 rfl) ?_
      exact x_irs C D h d_Mo_send_21
  · replace h := if_f z h
    refine lv_iload_n hx hb d_Mo_send_9 rfl (lv_at hl 0 rfl) ?_
    exact x_irs C D h d_Mo_send_10
