theorem d_Encoder_utf8Count_0 : decode b_Encoder_utf8Count 0 = .ok (.iload_n 0, 1) := by decide +kernel
theorem d_Encoder_utf8Count_1 : decode b_Encoder_utf8Count 1 = .ok (.sipush 128, 3) := by decide +kernel
theorem d_Encoder_utf8Count_4 : decode b_Encoder_utf8Count 4 = .ok (.if_icmp .ge 7, 3) := by decide +kernel
theorem d_Encoder_utf8Count_7 : decode b_Encoder_utf8Count 7 = .ok (.iconst 1, 1) := by decide +kernel
theorem d_Encoder_utf8Count_8 : decode b_Encoder_utf8Count 8 = .ok (.goto 25, 3) := by decide +kernel
theorem d_Encoder_utf8Count_11 : decode b_Encoder_utf8Count 11 = .ok (.iload_n 0, 1) := by decide +kernel
theorem d_Encoder_utf8Count_12 : decode b_Encoder_utf8Count 12 = .ok (.sipush 2048, 3) := by decide +kernel
theorem d_Encoder_utf8Count_15 : decode b_Encoder_utf8Count 15 = .ok (.if_icmp .ge 7, 3) := by decide +kernel
theorem d_Encoder_utf8Count_18 : decode b_Encoder_utf8Count 18 = .ok (.iconst 2, 1) := by decide +kernel
theorem d_Encoder_utf8Count_19 : decode b_Encoder_utf8Count 19 = .ok (.goto 14, 3) := by decide +kernel
theorem d_Encoder_utf8Count_22 : decode b_Encoder_utf8Count 22 = .ok (.iload_n 0, 1) := by decide +kernel
theorem d_Encoder_utf8Count_23 : decode b_Encoder_utf8Count 23 = .ok (.ldc 60, 2) := by decide +kernel
theorem d_Encoder_utf8Count_25 : decode b_Encoder_utf8Count 25 = .ok (.if_icmp .ge 7, 3) := by decide +kernel
theorem d_Encoder_utf8Count_28 : decode b_Encoder_utf8Count 28 = .ok (.iconst 3, 1) := by decide +kernel
theorem d_Encoder_utf8Count_29 : decode b_Encoder_utf8Count 29 = .ok (.goto 4, 3) := by decide +kernel
theorem d_Encoder_utf8Count_32 : decode b_Encoder_utf8Count 32 = .ok (.iconst 4, 1) := by decide +kernel
theorem d_Encoder_utf8Count_33 : decode b_Encoder_utf8Count 33 = .ok (.ireturn, 1) := by decide +kernel
def f_Encoder_utf8Count (a0 : Int32) (S : zSt) : Option Int32 := (if 128 ≤ a0 then (if 2048 ≤ a0 then (if 65536 ≤ a0 then (some 4) else (some 3)) else (some 2)) else (some 1))
set_option maxHeartbeats 4000000 in
set_option maxRecDepth 100000 in
theorem c_Encoder_utf8Count (l : Launch) (g : zG) (hD : GD g) (a0 : Int32) (S : zSt) (u : Int32) (h : f_Encoder_utf8Count a0 S = some u) : Met l y_Encoder_utf8Count (mw y_Encoder_utf8Count b_Encoder_utf8Count 1 (some .int)) (rmD 0) (Pw g [.int a0] S) (Qip g S u) 0 0 (gA g) := by
  refine z_go (own := R_Encoder) (lv0 := [(0, .int a0)]) hD (by decide) rfl (Nat.le_of_ble_eq_true rfl) rfl ?_
  intro p e s m args below meth c C D ls hl
  have hx := C.1
  have hb := C.2.1
  have hown := C.2.2.2.1
  have hts := C.2.2.2.2.1
  unfold f_Encoder_utf8Count at h
  refine lv_iload_n hx hb d_Encoder_utf8Count_0 rfl (lv_at hl 0 rfl) ?_
  refine lv_sipush (v := 128) hx hb d_Encoder_utf8Count_1 (by decide) ?_
  refine lv_icmp_ge hx hb d_Encoder_utf8Count_4 rfl (fun z => ?_) (fun z => ?_)
  · replace h := if_t z h
    refine lv_iload_n hx hb d_Encoder_utf8Count_11 rfl (lv_at hl 0 rfl) ?_
    refine lv_sipush (v := 2048) hx hb d_Encoder_utf8Count_12 (by decide) ?_
    refine lv_icmp_ge hx hb d_Encoder_utf8Count_15 rfl (fun z => ?_) (fun z => ?_)
    · replace h := if_t z h
      refine lv_iload_n hx hb d_Encoder_utf8Count_22 rfl (lv_at hl 0 rfl) ?_
      refine lv_ldc (v := 65536) hx hb hown (hts _ wk_Encoder_60) d_Encoder_utf8Count_23 ?_
      refine lv_icmp_ge hx hb d_Encoder_utf8Count_25 rfl (fun z => ?_) (fun z => ?_)
      · replace h := if_t z h
        refine lv_iconst (v := 4) hx hb d_Encoder_utf8Count_32 (by decide) ?_
        exact x_irp C D h d_Encoder_utf8Count_33
      · replace h := if_f z h
        refine lv_iconst (v := 3) hx hb d_Encoder_utf8Count_28 (by decide) ?_
        refine lv_goto hx hb d_Encoder_utf8Count_29 rfl ?_
        exact x_irp C D h d_Encoder_utf8Count_33
    · replace h := if_f z h
      refine lv_iconst (v := 2) hx hb d_Encoder_utf8Count_18 (by decide) ?_
      refine lv_goto hx hb d_Encoder_utf8Count_19 rfl ?_
      exact x_irp C D h d_Encoder_utf8Count_33
  · replace h := if_f z h
    refine lv_iconst (v := 1) hx hb d_Encoder_utf8Count_7 (by decide) ?_
    refine lv_goto hx hb d_Encoder_utf8Count_8 rfl ?_
    exact x_irp C D h d_Encoder_utf8Count_33
theorem d_Encoder_utf8Byte_0 : decode b_Encoder_utf8Byte 0 = .ok (.iload_n 0, 1) := by decide +kernel
theorem d_Encoder_utf8Byte_1 : decode b_Encoder_utf8Byte 1 = .ok (.bipush 6, 2) := by decide +kernel
theorem d_Encoder_utf8Byte_3 : decode b_Encoder_utf8Byte 3 = .ok (.iload_n 2, 1) := by decide +kernel
theorem d_Encoder_utf8Byte_4 : decode b_Encoder_utf8Byte 4 = .ok (.iconst 1, 1) := by decide +kernel
theorem d_Encoder_utf8Byte_5 : decode b_Encoder_utf8Byte 5 = .ok (.isub, 1) := by decide +kernel
theorem d_Encoder_utf8Byte_6 : decode b_Encoder_utf8Byte 6 = .ok (.iload_n 1, 1) := by decide +kernel
theorem d_Encoder_utf8Byte_7 : decode b_Encoder_utf8Byte 7 = .ok (.isub, 1) := by decide +kernel
theorem d_Encoder_utf8Byte_8 : decode b_Encoder_utf8Byte 8 = .ok (.imul, 1) := by decide +kernel
theorem d_Encoder_utf8Byte_9 : decode b_Encoder_utf8Byte 9 = .ok (.ishr, 1) := by decide +kernel
theorem d_Encoder_utf8Byte_10 : decode b_Encoder_utf8Byte 10 = .ok (.istore_n 3, 1) := by decide +kernel
theorem d_Encoder_utf8Byte_11 : decode b_Encoder_utf8Byte 11 = .ok (.iload_n 1, 1) := by decide +kernel
theorem d_Encoder_utf8Byte_12 : decode b_Encoder_utf8Byte 12 = .ok (.ifCond .le 12, 3) := by decide +kernel
theorem d_Encoder_utf8Byte_15 : decode b_Encoder_utf8Byte 15 = .ok (.sipush 128, 3) := by decide +kernel
theorem d_Encoder_utf8Byte_18 : decode b_Encoder_utf8Byte 18 = .ok (.iload_n 3, 1) := by decide +kernel
theorem d_Encoder_utf8Byte_19 : decode b_Encoder_utf8Byte 19 = .ok (.bipush 63, 2) := by decide +kernel
theorem d_Encoder_utf8Byte_21 : decode b_Encoder_utf8Byte 21 = .ok (.iand, 1) := by decide +kernel
theorem d_Encoder_utf8Byte_22 : decode b_Encoder_utf8Byte 22 = .ok (.iadd, 1) := by decide +kernel
theorem d_Encoder_utf8Byte_23 : decode b_Encoder_utf8Byte 23 = .ok (.ireturn, 1) := by decide +kernel
theorem d_Encoder_utf8Byte_24 : decode b_Encoder_utf8Byte 24 = .ok (.iload_n 2, 1) := by decide +kernel
theorem d_Encoder_utf8Byte_25 : decode b_Encoder_utf8Byte 25 = .ok (.tableswitch 41 1 3 #[27, 29, 35], 27) := by decide +kernel
theorem d_Encoder_utf8Byte_52 : decode b_Encoder_utf8Byte 52 = .ok (.iload_n 3, 1) := by decide +kernel
theorem d_Encoder_utf8Byte_53 : decode b_Encoder_utf8Byte 53 = .ok (.ireturn, 1) := by decide +kernel
theorem d_Encoder_utf8Byte_54 : decode b_Encoder_utf8Byte 54 = .ok (.sipush 192, 3) := by decide +kernel
theorem d_Encoder_utf8Byte_57 : decode b_Encoder_utf8Byte 57 = .ok (.iload_n 3, 1) := by decide +kernel
theorem d_Encoder_utf8Byte_58 : decode b_Encoder_utf8Byte 58 = .ok (.iadd, 1) := by decide +kernel
theorem d_Encoder_utf8Byte_59 : decode b_Encoder_utf8Byte 59 = .ok (.ireturn, 1) := by decide +kernel
theorem d_Encoder_utf8Byte_60 : decode b_Encoder_utf8Byte 60 = .ok (.sipush 224, 3) := by decide +kernel
theorem d_Encoder_utf8Byte_63 : decode b_Encoder_utf8Byte 63 = .ok (.iload_n 3, 1) := by decide +kernel
theorem d_Encoder_utf8Byte_64 : decode b_Encoder_utf8Byte 64 = .ok (.iadd, 1) := by decide +kernel
theorem d_Encoder_utf8Byte_65 : decode b_Encoder_utf8Byte 65 = .ok (.ireturn, 1) := by decide +kernel
theorem d_Encoder_utf8Byte_66 : decode b_Encoder_utf8Byte 66 = .ok (.sipush 240, 3) := by decide +kernel
theorem d_Encoder_utf8Byte_69 : decode b_Encoder_utf8Byte 69 = .ok (.iload_n 3, 1) := by decide +kernel
theorem d_Encoder_utf8Byte_70 : decode b_Encoder_utf8Byte 70 = .ok (.iadd, 1) := by decide +kernel
theorem d_Encoder_utf8Byte_71 : decode b_Encoder_utf8Byte 71 = .ok (.ireturn, 1) := by decide +kernel
def f_Encoder_utf8Byte (a0 : Int32) (a1 : Int32) (a2 : Int32) (S : zSt) : Option Int32 := (if a1 ≤ 0 then (if a2 = 1 then (some (a0 >>> ((6 * ((a2 - 1) - a1)) &&& 31))) else (if a2 = 2 then (some (192 + (a0 >>> ((6 * ((a2 - 1) - a1)) &&& 31)))) else (if a2 = 3 then (some (224 + (a0 >>> ((6 * ((a2 - 1) - a1)) &&& 31)))) else (some (240 + (a0 >>> ((6 * ((a2 - 1) - a1)) &&& 31))))))) else (some (128 + ((a0 >>> ((6 * ((a2 - 1) - a1)) &&& 31)) &&& 63))))
set_option maxHeartbeats 4000000 in
set_option maxRecDepth 100000 in
theorem c_Encoder_utf8Byte (l : Launch) (g : zG) (hD : GD g) (a0 : Int32) (a1 : Int32) (a2 : Int32) (S : zSt) (u : Int32) (h : f_Encoder_utf8Byte a0 a1 a2 S = some u) : Met l y_Encoder_utf8Byte (mw y_Encoder_utf8Byte b_Encoder_utf8Byte 4 (some .int)) (rmD 0) (Pw g [.int a0, .int a1, .int a2] S) (Qip g S u) 0 0 (gA g) := by
  refine z_go (own := R_Encoder) (lv0 := [(0, .int a0), (1, .int a1), (2, .int a2)]) hD (by decide) rfl (Nat.le_of_ble_eq_true rfl) rfl ?_
  intro p e s m args below meth c C D ls hl
  have hx := C.1
  have hb := C.2.1
  have hown := C.2.2.2.1
  have hts := C.2.2.2.2.1
  unfold f_Encoder_utf8Byte at h
  refine lv_iload_n hx hb d_Encoder_utf8Byte_0 rfl (lv_at hl 0 rfl) ?_
  refine lv_bipush (v := 6) hx hb d_Encoder_utf8Byte_1 (by decide) ?_
  refine lv_iload_n hx hb d_Encoder_utf8Byte_3 rfl (lv_at hl 2 rfl) ?_
  refine lv_iconst (v := 1) hx hb d_Encoder_utf8Byte_4 (by decide) ?_
  refine lv_isub hx hb d_Encoder_utf8Byte_5 ?_
  refine lv_iload_n hx hb d_Encoder_utf8Byte_6 rfl (lv_at hl 1 rfl) ?_
  refine lv_isub hx hb d_Encoder_utf8Byte_7 ?_
  refine lv_imul hx hb d_Encoder_utf8Byte_8 ?_
  refine lv_ishr hx hb d_Encoder_utf8Byte_9 ?_
  refine lv_istore_n (lv' := [(3, .int (a0 >>> ((6 * ((a2 - 1) - a1)) &&& 31))), (0, .int a0), (1, .int a1), (2, .int a2)]) hx hb d_Encoder_utf8Byte_10 rfl hl (by decide) rfl (fun ls hl => ?_)
  refine lv_iload_n hx hb d_Encoder_utf8Byte_11 rfl (lv_at hl 2 rfl) ?_
  refine lv_if_le hx hb d_Encoder_utf8Byte_12 rfl (fun z => ?_) (fun z => ?_)
  · replace h := if_t z h
    refine lv_iload_n hx hb d_Encoder_utf8Byte_24 rfl (lv_at hl 3 rfl) ?_
    by_cases e1 : a2 = 1
    · replace h := if_t e1 h
      refine lv_tableIn (off := 27) hx hb d_Encoder_utf8Byte_25 (by rw [e1]; decide) (by rw [e1]; decide) (by rw [e1]; rfl) rfl ?_
      refine lv_iload_n hx hb d_Encoder_utf8Byte_52 rfl (lv_at hl 0 rfl) ?_
      exact x_irp C D h d_Encoder_utf8Byte_53
    · replace h := if_f e1 h
      by_cases e2 : a2 = 2
      · replace h := if_t e2 h
        refine lv_tableIn (off := 29) hx hb d_Encoder_utf8Byte_25 (by rw [e2]; decide) (by rw [e2]; decide) (by rw [e2]; rfl) rfl ?_
        refine lv_sipush (v := 192) hx hb d_Encoder_utf8Byte_54 (by decide) ?_
        refine lv_iload_n hx hb d_Encoder_utf8Byte_57 rfl (lv_at hl 0 rfl) ?_
        refine lv_iadd hx hb d_Encoder_utf8Byte_58 ?_
        exact x_irp C D h d_Encoder_utf8Byte_59
      · replace h := if_f e2 h
        by_cases e3 : a2 = 3
        · replace h := if_t e3 h
          refine lv_tableIn (off := 35) hx hb d_Encoder_utf8Byte_25 (by rw [e3]; decide) (by rw [e3]; decide) (by rw [e3]; rfl) rfl ?_
          refine lv_sipush (v := 224) hx hb d_Encoder_utf8Byte_60 (by decide) ?_
          refine lv_iload_n hx hb d_Encoder_utf8Byte_63 rfl (lv_at hl 0 rfl) ?_
          refine lv_iadd hx hb d_Encoder_utf8Byte_64 ?_
          exact x_irp C D h d_Encoder_utf8Byte_65
        · replace h := if_f e3 h
          have ne1 := lv_neT e1 (a := 1) (by decide)
          have ne2 := lv_neT e2 (a := 2) (by decide)
          have ne3 := lv_neT e3 (a := 3) (by decide)
          refine lv_tableOut hx hb d_Encoder_utf8Byte_25 (by omega) rfl ?_
          refine lv_sipush (v := 240) hx hb d_Encoder_utf8Byte_66 (by decide) ?_
          refine lv_iload_n hx hb d_Encoder_utf8Byte_69 rfl (lv_at hl 0 rfl) ?_
          refine lv_iadd hx hb d_Encoder_utf8Byte_70 ?_
          exact x_irp C D h d_Encoder_utf8Byte_71
  · replace h := if_f z h
    refine lv_sipush (v := 128) hx hb d_Encoder_utf8Byte_15 (by decide) ?_
    refine lv_iload_n hx hb d_Encoder_utf8Byte_18 rfl (lv_at hl 0 rfl) ?_
    refine lv_bipush (v := 63) hx hb d_Encoder_utf8Byte_19 (by decide) ?_
    refine lv_iand hx hb d_Encoder_utf8Byte_21 ?_
    refine lv_iadd hx hb d_Encoder_utf8Byte_22 ?_
    exact x_irp C D h d_Encoder_utf8Byte_23
theorem d_Encoder_putEscaped_0 : decode b_Encoder_putEscaped 0 = .ok (.iload_n 1, 1) := by decide +kernel
theorem d_Encoder_putEscaped_1 : decode b_Encoder_putEscaped 1 = .ok (.invokestatic 50, 3) := by decide +kernel
theorem d_Encoder_putEscaped_4 : decode b_Encoder_putEscaped 4 = .ok (.istore_n 2, 1) := by decide +kernel
theorem d_Encoder_putEscaped_5 : decode b_Encoder_putEscaped 5 = .ok (.iconst 0, 1) := by decide +kernel
theorem d_Encoder_putEscaped_6 : decode b_Encoder_putEscaped 6 = .ok (.istore_n 3, 1) := by decide +kernel
theorem d_Encoder_putEscaped_7 : decode b_Encoder_putEscaped 7 = .ok (.iload_n 3, 1) := by decide +kernel
theorem d_Encoder_putEscaped_8 : decode b_Encoder_putEscaped 8 = .ok (.iload_n 2, 1) := by decide +kernel
theorem d_Encoder_putEscaped_9 : decode b_Encoder_putEscaped 9 = .ok (.if_icmp .ge 46, 3) := by decide +kernel
theorem d_Encoder_putEscaped_12 : decode b_Encoder_putEscaped 12 = .ok (.iload_n 1, 1) := by decide +kernel
theorem d_Encoder_putEscaped_13 : decode b_Encoder_putEscaped 13 = .ok (.iload_n 3, 1) := by decide +kernel
theorem d_Encoder_putEscaped_14 : decode b_Encoder_putEscaped 14 = .ok (.iload_n 2, 1) := by decide +kernel
theorem d_Encoder_putEscaped_15 : decode b_Encoder_putEscaped 15 = .ok (.invokestatic 53, 3) := by decide +kernel
theorem d_Encoder_putEscaped_18 : decode b_Encoder_putEscaped 18 = .ok (.istore 4, 2) := by decide +kernel
theorem d_Encoder_putEscaped_20 : decode b_Encoder_putEscaped 20 = .ok (.aload_n 0, 1) := by decide +kernel
theorem d_Encoder_putEscaped_21 : decode b_Encoder_putEscaped 21 = .ok (.bipush 37, 2) := by decide +kernel
theorem d_Encoder_putEscaped_23 : decode b_Encoder_putEscaped 23 = .ok (.invokevirtual 19, 3) := by decide +kernel
theorem d_Encoder_putEscaped_26 : decode b_Encoder_putEscaped 26 = .ok (.aload_n 0, 1) := by decide +kernel
theorem d_Encoder_putEscaped_27 : decode b_Encoder_putEscaped 27 = .ok (.iload 4, 2) := by decide +kernel
theorem d_Encoder_putEscaped_29 : decode b_Encoder_putEscaped 29 = .ok (.iconst 4, 1) := by decide +kernel
theorem d_Encoder_putEscaped_30 : decode b_Encoder_putEscaped 30 = .ok (.ishr, 1) := by decide +kernel
theorem d_Encoder_putEscaped_31 : decode b_Encoder_putEscaped 31 = .ok (.invokestatic 57, 3) := by decide +kernel
theorem d_Encoder_putEscaped_34 : decode b_Encoder_putEscaped 34 = .ok (.invokevirtual 19, 3) := by decide +kernel
theorem d_Encoder_putEscaped_37 : decode b_Encoder_putEscaped 37 = .ok (.aload_n 0, 1) := by decide +kernel
theorem d_Encoder_putEscaped_38 : decode b_Encoder_putEscaped 38 = .ok (.iload 4, 2) := by decide +kernel
theorem d_Encoder_putEscaped_40 : decode b_Encoder_putEscaped 40 = .ok (.bipush 15, 2) := by decide +kernel
theorem d_Encoder_putEscaped_42 : decode b_Encoder_putEscaped 42 = .ok (.iand, 1) := by decide +kernel
theorem d_Encoder_putEscaped_43 : decode b_Encoder_putEscaped 43 = .ok (.invokestatic 57, 3) := by decide +kernel
theorem d_Encoder_putEscaped_46 : decode b_Encoder_putEscaped 46 = .ok (.invokevirtual 19, 3) := by decide +kernel
theorem d_Encoder_putEscaped_49 : decode b_Encoder_putEscaped 49 = .ok (.iinc 3 1, 3) := by decide +kernel
theorem d_Encoder_putEscaped_52 : decode b_Encoder_putEscaped 52 = .ok (.goto (-45), 3) := by decide +kernel
theorem d_Encoder_putEscaped_55 : decode b_Encoder_putEscaped 55 = .ok (.return_, 1) := by decide +kernel
def f_Encoder_putEscaped_7 : Nat → Nat → Int32 → Int32 → Int32 → zSt → Option zSt
  | 0, _, _, _, _, _ => none
  | n + 1, k0, a1, a2, a3, S => (if a2 ≤ a3 then (some S) else ((f_Encoder_utf8Byte a1 a3 a2 S).bind fun u2 => ((f_ByteRow_put k0 37 S).bind fun u3 => ((f_Chars_hexDigit (u2 >>> (4 &&& 31)) u3).bind fun u4 => ((f_ByteRow_put k0 u4 u3).bind fun u5 => ((f_Chars_hexDigit (u2 &&& 15) u5).bind fun u6 => ((f_ByteRow_put k0 u6 u5).bind fun u7 => ((f_Encoder_putEscaped_7 n) k0 a1 a2 (a3 + 1) u7))))))))
def f_Encoder_putEscaped (k0 : Nat) (a1 : Int32) (S : zSt) : Option zSt := ((f_Encoder_utf8Count a1 S).bind fun u1 => (f_Encoder_putEscaped_7 fu k0 a1 u1 0 S))
set_option maxHeartbeats 4000000 in
set_option maxRecDepth 100000 in
theorem c_Encoder_putEscaped (l : Launch) (g : zG) (hD : GD g) (k0 : Nat) (hk0 : k0 < 4) (a1 : Int32) (S : zSt) (u : zSt) (h : f_Encoder_putEscaped k0 a1 S = some u) : Met l y_Encoder_putEscaped (mw y_Encoder_putEscaped b_Encoder_putEscaped 5 none) (rmD 1) (Pw g [.ref (ga g (58 + k0)), .int a1] S) (Qvs g u) 0 0 (gA g) := by
  refine z_go (own := R_Encoder) (lv0 := [(0, .ref (ga g (58 + k0))), (1, .int a1)]) hD (by decide) rfl (Nat.le_of_ble_eq_true rfl) rfl ?_
  intro p e s m args below meth c C D ls hl
  have hx := C.1
  have hb := C.2.1
  have hown := C.2.2.2.1
  have hts := C.2.2.2.2.1
  have L7 : ∀ (n : Nat) (H : Heap) (locs : List Loc) (S : zSt) (ls : Array Slot) (k0 : Nat) (hk0 : k0 < 4) (a1 : Int32) (a2 : Int32) (a3 : Int32), f_Encoder_putEscaped_7 n k0 a1 a2 a3 S = some u → Dy g s S H locs → lv_has ls 5 [(0, .ref (ga g (58 + k0))), (1, .int a1), (2, .int a2), (3, .int a3)] → W p l e (rmD 1) s m args below meth c H locs 0 0 (MQ below (Qvs g u) args s 0 0 (gA g)) (F0 m 7 ls []) := by
    intro n
    induction n with
    | zero => intro H locs S ls k0 hk0 a1 a2 a3 h D hl; rw [f_Encoder_putEscaped_7] at h; cases h
    | succ n hK7 =>
      intro H locs S ls k0 hk0 a1 a2 a3 h D hl
      rw [f_Encoder_putEscaped_7] at h
      refine lv_iload_n hx hb d_Encoder_putEscaped_7 rfl (lv_at hl 3 rfl) ?_
      refine lv_iload_n hx hb d_Encoder_putEscaped_8 rfl (lv_at hl 2 rfl) ?_
      refine lv_icmp_ge hx hb d_Encoder_putEscaped_9 rfl (fun z => ?_) (fun z => ?_)
      · replace h := if_t z h
        exact x_vrs C D h d_Encoder_putEscaped_55
      · replace h := if_f z h
        refine lv_iload_n hx hb d_Encoder_putEscaped_12 rfl (lv_at hl 1 rfl) ?_
        refine lv_iload_n hx hb d_Encoder_putEscaped_13 rfl (lv_at hl 3 rfl) ?_
        refine lv_iload_n hx hb d_Encoder_putEscaped_14 rfl (lv_at hl 2 rfl) ?_
        obtain ⟨u2, hu2, h⟩ := bd_some h
        refine x_cip (rest := []) (r_S C D (c_Encoder_utf8Byte l g hD a1 a3 a2 S u2 hu2) wc_Encoder_utf8Byte wm_Encoder_53 wt_Encoder_utf8Byte wd_Encoder_utf8Byte rfl rfl hl (Nat.le_of_ble_eq_true rfl) (by decide) d_Encoder_putEscaped_15) D (fun H locs D => ?_)
        refine lv_istore (lv' := [(4, .int u2), (0, .ref (ga g (58 + k0))), (1, .int a1), (2, .int a2), (3, .int a3)]) hx hb d_Encoder_putEscaped_18 hl (by decide) rfl (fun ls hl => ?_)
        refine lv_aload_n hx hb d_Encoder_putEscaped_20 rfl (lv_at hl 1 rfl) ?_
        refine lv_bipush (v := 37) hx hb d_Encoder_putEscaped_21 (by decide) ?_
        obtain ⟨u3, hu3, h⟩ := bd_some h
        refine x_cvs (rest := []) (r_V C D (c_ByteRow_put l g hD k0 hk0 37 S u3 hu3) wc_ByteRow_put wm_Encoder_19 wi_ByteRow_put wd_ByteRow_put (nR hk0) (sh_R hk0) kc_ByteRow.1 rfl rfl hl (Nat.le_of_ble_eq_true rfl) (by decide) d_Encoder_putEscaped_23) D (fun H locs D => ?_)
        refine lv_aload_n hx hb d_Encoder_putEscaped_26 rfl (lv_at hl 1 rfl) ?_
        refine lv_iload hx hb d_Encoder_putEscaped_27 (lv_at hl 0 rfl) ?_
        refine lv_iconst (v := 4) hx hb d_Encoder_putEscaped_29 (by decide) ?_
        refine lv_ishr hx hb d_Encoder_putEscaped_30 ?_
        obtain ⟨u4, hu4, h⟩ := bd_some h
        refine x_cip (rest := [.ref (ga g (58 + k0))]) (r_S C D (c_Chars_hexDigit l g hD (u2 >>> (4 &&& 31)) u3 u4 hu4) wc_Chars_hexDigit wm_Encoder_57 wt_Chars_hexDigit wd_Chars_hexDigit rfl rfl hl (Nat.le_of_ble_eq_true rfl) (by decide) d_Encoder_putEscaped_31) D (fun H locs D => ?_)
        obtain ⟨u5, hu5, h⟩ := bd_some h
        refine x_cvs (rest := []) (r_V C D (c_ByteRow_put l g hD k0 hk0 u4 u3 u5 hu5) wc_ByteRow_put wm_Encoder_19 wi_ByteRow_put wd_ByteRow_put (nR hk0) (sh_R hk0) kc_ByteRow.1 rfl rfl hl (Nat.le_of_ble_eq_true rfl) (by decide) d_Encoder_putEscaped_34) D (fun H locs D => ?_)
        refine lv_aload_n hx hb d_Encoder_putEscaped_37 rfl (lv_at hl 1 rfl) ?_
        refine lv_iload hx hb d_Encoder_putEscaped_38 (lv_at hl 0 rfl) ?_
        refine lv_bipush (v := 15) hx hb d_Encoder_putEscaped_40 (by decide) ?_
        refine lv_iand hx hb d_Encoder_putEscaped_42 ?_
        obtain ⟨u6, hu6, h⟩ := bd_some h
        refine x_cip (rest := [.ref (ga g (58 + k0))]) (r_S C D (c_Chars_hexDigit l g hD (u2 &&& 15) u5 u6 hu6) wc_Chars_hexDigit wm_Encoder_57 wt_Chars_hexDigit wd_Chars_hexDigit rfl rfl hl (Nat.le_of_ble_eq_true rfl) (by decide) d_Encoder_putEscaped_43) D (fun H locs D => ?_)
        obtain ⟨u7, hu7, h⟩ := bd_some h
        refine x_cvs (rest := []) (r_V C D (c_ByteRow_put l g hD k0 hk0 u6 u5 u7 hu7) wc_ByteRow_put wm_Encoder_19 wi_ByteRow_put wd_ByteRow_put (nR hk0) (sh_R hk0) kc_ByteRow.1 rfl rfl hl (Nat.le_of_ble_eq_true rfl) (by decide) d_Encoder_putEscaped_46) D (fun H locs D => ?_)
        refine lv_iinc (k := 4) (lv' := [(3, .int (a3 + 1)), (4, .int u2), (0, .ref (ga g (58 + k0))), (1, .int a1), (2, .int a2)]) hx hb d_Encoder_putEscaped_49 hl rfl (ii1 _) (by decide) rfl (fun ls hl => ?_)
        refine lv_goto hx hb d_Encoder_putEscaped_52 rfl ?_
        exact hK7 _ _ _ _ _ hk0 _ _ _ h D (lv_sub hl [2, 3, 4, 0] rfl)
  unfold f_Encoder_putEscaped at h
  refine lv_iload_n hx hb d_Encoder_putEscaped_0 rfl (lv_at hl 1 rfl) ?_
  obtain ⟨u1, hu1, h⟩ := bd_some h
  refine x_cip (rest := []) (r_S C D (c_Encoder_utf8Count l g hD a1 S u1 hu1) wc_Encoder_utf8Count wm_Encoder_50 wt_Encoder_utf8Count wd_Encoder_utf8Count rfl rfl hl (Nat.le_of_ble_eq_true rfl) (by decide) d_Encoder_putEscaped_1) D (fun H locs D => ?_)
  refine lv_istore_n (lv' := [(2, .int u1), (0, .ref (ga g (58 + k0))), (1, .int a1)]) hx hb d_Encoder_putEscaped_4 rfl hl (by decide) rfl (fun ls hl => ?_)
  refine lv_iconst (v := 0) hx hb d_Encoder_putEscaped_5 (by decide) ?_
  refine lv_istore_n (lv' := [(3, .int 0), (2, .int u1), (0, .ref (ga g (58 + k0))), (1, .int a1)]) hx hb d_Encoder_putEscaped_6 rfl hl (by decide) rfl (fun ls hl => ?_)
  exact L7 _ _ _ _ _ _ hk0 _ _ _ h D (lv_sub hl [2, 3, 1, 0] rfl)
theorem d_Encoder_putUtf8_0 : decode b_Encoder_putUtf8 0 = .ok (.iconst 0, 1) := by decide +kernel
theorem d_Encoder_putUtf8_1 : decode b_Encoder_putUtf8 1 = .ok (.istore_n 2, 1) := by decide +kernel
theorem d_Encoder_putUtf8_2 : decode b_Encoder_putUtf8 2 = .ok (.iload_n 2, 1) := by decide +kernel
theorem d_Encoder_putUtf8_3 : decode b_Encoder_putUtf8 3 = .ok (.aload_n 1, 1) := by decide +kernel
theorem d_Encoder_putUtf8_4 : decode b_Encoder_putUtf8 4 = .ok (.getfield 46, 3) := by decide +kernel
theorem d_Encoder_putUtf8_7 : decode b_Encoder_putUtf8 7 = .ok (.if_icmp .ge 62, 3) := by decide +kernel
theorem d_Encoder_putUtf8_10 : decode b_Encoder_putUtf8 10 = .ok (.aload_n 1, 1) := by decide +kernel
theorem d_Encoder_putUtf8_11 : decode b_Encoder_putUtf8 11 = .ok (.iload_n 2, 1) := by decide +kernel
theorem d_Encoder_putUtf8_12 : decode b_Encoder_putUtf8 12 = .ok (.invokevirtual 34, 3) := by decide +kernel
theorem d_Encoder_putUtf8_15 : decode b_Encoder_putUtf8 15 = .ok (.istore_n 3, 1) := by decide +kernel
theorem d_Encoder_putUtf8_16 : decode b_Encoder_putUtf8 16 = .ok (.iload_n 3, 1) := by decide +kernel
theorem d_Encoder_putUtf8_17 : decode b_Encoder_putUtf8 17 = .ok (.invokestatic 50, 3) := by decide +kernel
theorem d_Encoder_putUtf8_20 : decode b_Encoder_putUtf8 20 = .ok (.istore 4, 2) := by decide +kernel
theorem d_Encoder_putUtf8_22 : decode b_Encoder_putUtf8 22 = .ok (.iconst 0, 1) := by decide +kernel
theorem d_Encoder_putUtf8_23 : decode b_Encoder_putUtf8 23 = .ok (.istore 5, 2) := by decide +kernel
theorem d_Encoder_putUtf8_25 : decode b_Encoder_putUtf8 25 = .ok (.iload 5, 2) := by decide +kernel
theorem d_Encoder_putUtf8_27 : decode b_Encoder_putUtf8 27 = .ok (.iload 4, 2) := by decide +kernel
theorem d_Encoder_putUtf8_29 : decode b_Encoder_putUtf8 29 = .ok (.if_icmp .ge 21, 3) := by decide +kernel
theorem d_Encoder_putUtf8_32 : decode b_Encoder_putUtf8 32 = .ok (.aload_n 0, 1) := by decide +kernel
theorem d_Encoder_putUtf8_33 : decode b_Encoder_putUtf8 33 = .ok (.iload_n 3, 1) := by decide +kernel
theorem d_Encoder_putUtf8_34 : decode b_Encoder_putUtf8 34 = .ok (.iload 5, 2) := by decide +kernel
theorem d_Encoder_putUtf8_36 : decode b_Encoder_putUtf8 36 = .ok (.iload 4, 2) := by decide +kernel
theorem d_Encoder_putUtf8_38 : decode b_Encoder_putUtf8 38 = .ok (.invokestatic 53, 3) := by decide +kernel
theorem d_Encoder_putUtf8_41 : decode b_Encoder_putUtf8 41 = .ok (.invokevirtual 19, 3) := by decide +kernel
theorem d_Encoder_putUtf8_44 : decode b_Encoder_putUtf8 44 = .ok (.iinc 5 1, 3) := by decide +kernel
theorem d_Encoder_putUtf8_47 : decode b_Encoder_putUtf8 47 = .ok (.goto (-22), 3) := by decide +kernel
theorem d_Encoder_putUtf8_50 : decode b_Encoder_putUtf8 50 = .ok (.iload_n 2, 1) := by decide +kernel
theorem d_Encoder_putUtf8_51 : decode b_Encoder_putUtf8 51 = .ok (.aload_n 1, 1) := by decide +kernel
theorem d_Encoder_putUtf8_52 : decode b_Encoder_putUtf8 52 = .ok (.iload_n 2, 1) := by decide +kernel
theorem d_Encoder_putUtf8_53 : decode b_Encoder_putUtf8 53 = .ok (.invokevirtual 42, 3) := by decide +kernel
theorem d_Encoder_putUtf8_56 : decode b_Encoder_putUtf8 56 = .ok (.ifCond .eq 7, 3) := by decide +kernel
theorem d_Encoder_putUtf8_59 : decode b_Encoder_putUtf8 59 = .ok (.iconst 2, 1) := by decide +kernel
theorem d_Encoder_putUtf8_60 : decode b_Encoder_putUtf8 60 = .ok (.goto 4, 3) := by decide +kernel
theorem d_Encoder_putUtf8_63 : decode b_Encoder_putUtf8 63 = .ok (.iconst 1, 1) := by decide +kernel
theorem d_Encoder_putUtf8_64 : decode b_Encoder_putUtf8 64 = .ok (.iadd, 1) := by decide +kernel
theorem d_Encoder_putUtf8_65 : decode b_Encoder_putUtf8 65 = .ok (.istore_n 2, 1) := by decide +kernel
theorem d_Encoder_putUtf8_66 : decode b_Encoder_putUtf8 66 = .ok (.goto (-64), 3) := by decide +kernel
theorem d_Encoder_putUtf8_69 : decode b_Encoder_putUtf8 69 = .ok (.return_, 1) := by decide +kernel
def f_Encoder_putUtf8_64 (K2 : Nat → Nat → Int32 → zSt → Option zSt) (k0 : Nat) (k1 : Nat) (t0 : Int32) (t1 : Int32) (S : zSt) : Option zSt := (K2 k0 k1 (t1 + t0) S)
def f_Encoder_putUtf8_25 (K2 : Nat → Nat → Int32 → zSt → Option zSt) : Nat → Nat → Nat → Int32 → Int32 → Int32 → Int32 → zSt → Option zSt
  | 0, _, _, _, _, _, _, _ => none
  | n + 1, k0, k1, a2, a3, a4, a5, S => (if a4 ≤ a5 then ((f_Item_isPair k1 a2 S).bind fun u3 => (if u3 = 0 then (f_Encoder_putUtf8_64 K2 k0 k1 1 a2 S) else (f_Encoder_putUtf8_64 K2 k0 k1 2 a2 S))) else ((f_Encoder_utf8Byte a3 a5 a4 S).bind fun u4 => ((f_ByteRow_put k0 u4 S).bind fun u5 => ((f_Encoder_putUtf8_25 K2 n) k0 k1 a2 a3 a4 (a5 + 1) u5))))
def f_Encoder_putUtf8_2 : Nat → Nat → Nat → Int32 → zSt → Option zSt
  | 0, _, _, _, _ => none
  | n + 1, k0, k1, a2, S => (if (S (22 + k1) 1) ≤ a2 then (some S) else ((f_Item_codeAt k1 a2 S).bind fun u1 => ((f_Encoder_utf8Count u1 S).bind fun u2 => (f_Encoder_putUtf8_25 (f_Encoder_putUtf8_2 n) fu k0 k1 a2 u1 u2 0 S))))
def f_Encoder_putUtf8 (k0 : Nat) (k1 : Nat) (S : zSt) : Option zSt := (f_Encoder_putUtf8_2 fu k0 k1 0 S)
set_option maxHeartbeats 4000000 in
set_option maxRecDepth 100000 in
theorem c_Encoder_putUtf8 (l : Launch) (g : zG) (hD : GD g) (k0 : Nat) (hk0 : k0 < 4) (k1 : Nat) (hk1 : k1 < 18) (S : zSt) (u : zSt) (h : f_Encoder_putUtf8 k0 k1 S = some u) : Met l y_Encoder_putUtf8 (mw y_Encoder_putUtf8 b_Encoder_putUtf8 6 none) (rmD 2) (Pw g [.ref (ga g (58 + k0)), .ref (ga g (22 + k1))] S) (Qvs g u) 0 0 (gA g) := by
  refine z_go (own := R_Encoder) (lv0 := [(0, .ref (ga g (58 + k0))), (1, .ref (ga g (22 + k1)))]) hD (by decide) rfl (Nat.le_of_ble_eq_true rfl) rfl ?_
  intro p e s m args below meth c C D ls hl
  have hx := C.1
  have hb := C.2.1
  have hown := C.2.2.2.1
  have hts := C.2.2.2.2.1
  have B64 : ∀ (K2 : Nat → Nat → Int32 → zSt → Option zSt) (hK2 : ∀ (H : Heap) (locs : List Loc) (S : zSt) (ls : Array Slot) (k0 : Nat) (hk0 : k0 < 4) (k1 : Nat) (hk1 : k1 < 18) (a2 : Int32), K2 k0 k1 a2 S = some u → Dy g s S H locs → lv_has ls 6 [(0, .ref (ga g (58 + k0))), (1, .ref (ga g (22 + k1))), (2, .int a2)] → W p l e (rmD 2) s m args below meth c H locs 0 0 (MQ below (Qvs g u) args s 0 0 (gA g)) (F0 m 2 ls [])) (H : Heap) (locs : List Loc) (S : zSt) (ls : Array Slot) (k0 : Nat) (hk0 : k0 < 4) (k1 : Nat) (hk1 : k1 < 18) (t0 : Int32) (t1 : Int32), f_Encoder_putUtf8_64 K2 k0 k1 t0 t1 S = some u → Dy g s S H locs → lv_has ls 6 [(0, .ref (ga g (58 + k0))), (1, .ref (ga g (22 + k1)))] → W p l e (rmD 2) s m args below meth c H locs 0 0 (MQ below (Qvs g u) args s 0 0 (gA g)) (F0 m 64 ls [.int t0, .int t1]) := by
    intro K2 hK2 H locs S ls k0 hk0 k1 hk1 t0 t1 h D hl
    unfold f_Encoder_putUtf8_64 at h
    refine lv_iadd hx hb d_Encoder_putUtf8_64 ?_
    refine lv_istore_n (lv' := [(2, .int (t1 + t0)), (0, .ref (ga g (58 + k0))), (1, .ref (ga g (22 + k1)))]) hx hb d_Encoder_putUtf8_65 rfl hl (by decide) rfl (fun ls hl => ?_)
    refine lv_goto hx hb d_Encoder_putUtf8_66 rfl ?_
    exact hK2 _ _ _ _ _ hk0 _ hk1 _ h D (lv_sub hl [1, 2, 0] rfl)
  have L25 : ∀ (K2 : Nat → Nat → Int32 → zSt → Option zSt) (hK2 : ∀ (H : Heap) (locs : List Loc) (S : zSt) (ls : Array Slot) (k0 : Nat) (hk0 : k0 < 4) (k1 : Nat) (hk1 : k1 < 18) (a2 : Int32), K2 k0 k1 a2 S = some u → Dy g s S H locs → lv_has ls 6 [(0, .ref (ga g (58 + k0))), (1, .ref (ga g (22 + k1))), (2, .int a2)] → W p l e (rmD 2) s m args below meth c H locs 0 0 (MQ below (Qvs g u) args s 0 0 (gA g)) (F0 m 2 ls [])) (n : Nat) (H : Heap) (locs : List Loc) (S : zSt) (ls : Array Slot) (k0 : Nat) (hk0 : k0 < 4) (k1 : Nat) (hk1 : k1 < 18) (a2 : Int32) (a3 : Int32) (a4 : Int32) (a5 : Int32), f_Encoder_putUtf8_25 K2 n k0 k1 a2 a3 a4 a5 S = some u → Dy g s S H locs → lv_has ls 6 [(0, .ref (ga g (58 + k0))), (1, .ref (ga g (22 + k1))), (2, .int a2), (3, .int a3), (4, .int a4), (5, .int a5)] → W p l e (rmD 2) s m args below meth c H locs 0 0 (MQ below (Qvs g u) args s 0 0 (gA g)) (F0 m 25 ls []) := by
    intro K2 hK2 n
    induction n with
    | zero => intro H locs S ls k0 hk0 k1 hk1 a2 a3 a4 a5 h D hl; rw [f_Encoder_putUtf8_25] at h; cases h
    | succ n hK25 =>
      intro H locs S ls k0 hk0 k1 hk1 a2 a3 a4 a5 h D hl
      rw [f_Encoder_putUtf8_25] at h
      refine lv_iload hx hb d_Encoder_putUtf8_25 (lv_at hl 5 rfl) ?_
      refine lv_iload hx hb d_Encoder_putUtf8_27 (lv_at hl 4 rfl) ?_
      refine lv_icmp_ge hx hb d_Encoder_putUtf8_29 rfl (fun z => ?_) (fun z => ?_)
      · replace h := if_t z h
        refine lv_iload_n hx hb d_Encoder_putUtf8_50 rfl (lv_at hl 2 rfl) ?_
        refine lv_aload_n hx hb d_Encoder_putUtf8_51 rfl (lv_at hl 1 rfl) ?_
        refine lv_iload_n hx hb d_Encoder_putUtf8_52 rfl (lv_at hl 2 rfl) ?_
        obtain ⟨u3, hu3, h⟩ := bd_some h
        refine x_cip (rest := [.int a2]) (r_V C D (c_Item_isPair l g hD k1 hk1 a2 S u3 hu3) wc_Item_isPair wm_Encoder_42 wi_Item_isPair wd_Item_isPair (nI_ hk1) (sh_I hk1) kc_Item.1 rfl rfl hl (Nat.le_of_ble_eq_true rfl) (by decide) d_Encoder_putUtf8_53) D (fun H locs D => ?_)
        refine lv_if_eq hx hb d_Encoder_putUtf8_56 rfl (fun z => ?_) (fun z => ?_)
        · replace h := if_t z h
          refine lv_iconst (v := 1) hx hb d_Encoder_putUtf8_63 (by decide) ?_
          exact B64 _ hK2 _ _ _ _ _ hk0 _ hk1 _ _ h D (lv_sub hl [0, 1] rfl)
        · replace h := if_f z h
          refine lv_iconst (v := 2) hx hb d_Encoder_putUtf8_59 (by decide) ?_
          refine lv_goto hx hb d_Encoder_putUtf8_60 rfl ?_
          exact B64 _ hK2 _ _ _ _ _ hk0 _ hk1 _ _ h D (lv_sub hl [0, 1] rfl)
      · replace h := if_f z h
        refine lv_aload_n hx hb d_Encoder_putUtf8_32 rfl (lv_at hl 0 rfl) ?_
        refine lv_iload_n hx hb d_Encoder_putUtf8_33 rfl (lv_at hl 3 rfl) ?_
        refine lv_iload hx hb d_Encoder_putUtf8_34 (lv_at hl 5 rfl) ?_
        refine lv_iload hx hb d_Encoder_putUtf8_36 (lv_at hl 4 rfl) ?_
        obtain ⟨u4, hu4, h⟩ := bd_some h
        refine x_cip (rest := [.ref (ga g (58 + k0))]) (r_S C D (c_Encoder_utf8Byte l g hD a3 a5 a4 S u4 hu4) wc_Encoder_utf8Byte wm_Encoder_53 wt_Encoder_utf8Byte wd_Encoder_utf8Byte rfl rfl hl (Nat.le_of_ble_eq_true rfl) (by decide) d_Encoder_putUtf8_38) D (fun H locs D => ?_)
        obtain ⟨u5, hu5, h⟩ := bd_some h
        refine x_cvs (rest := []) (r_V C D (c_ByteRow_put l g hD k0 hk0 u4 S u5 hu5) wc_ByteRow_put wm_Encoder_19 wi_ByteRow_put wd_ByteRow_put (nR hk0) (sh_R hk0) kc_ByteRow.1 rfl rfl hl (Nat.le_of_ble_eq_true rfl) (by decide) d_Encoder_putUtf8_41) D (fun H locs D => ?_)
        refine lv_iinc (k := 5) (lv' := [(5, .int (a5 + 1)), (0, .ref (ga g (58 + k0))), (1, .ref (ga g (22 + k1))), (2, .int a2), (3, .int a3), (4, .int a4)]) hx hb d_Encoder_putUtf8_44 hl rfl (ii1 _) (by decide) rfl (fun ls hl => ?_)
        refine lv_goto hx hb d_Encoder_putUtf8_47 rfl ?_
        exact hK25 _ _ _ _ _ hk0 _ hk1 _ _ _ _ h D (lv_sub hl [1, 2, 3, 4, 5, 0] rfl)
  have L2 : ∀ (n : Nat) (H : Heap) (locs : List Loc) (S : zSt) (ls : Array Slot) (k0 : Nat) (hk0 : k0 < 4) (k1 : Nat) (hk1 : k1 < 18) (a2 : Int32), f_Encoder_putUtf8_2 n k0 k1 a2 S = some u → Dy g s S H locs → lv_has ls 6 [(0, .ref (ga g (58 + k0))), (1, .ref (ga g (22 + k1))), (2, .int a2)] → W p l e (rmD 2) s m args below meth c H locs 0 0 (MQ below (Qvs g u) args s 0 0 (gA g)) (F0 m 2 ls []) := by
    intro n
    induction n with
    | zero => intro H locs S ls k0 hk0 k1 hk1 a2 h D hl; rw [f_Encoder_putUtf8_2] at h; cases h
    | succ n hK2 =>
      intro H locs S ls k0 hk0 k1 hk1 a2 h D hl
      rw [f_Encoder_putUtf8_2] at h
      refine lv_iload_n hx hb d_Encoder_putUtf8_2 rfl (lv_at hl 2 rfl) ?_
      refine lv_aload_n hx hb d_Encoder_putUtf8_3 rfl (lv_at hl 1 rfl) ?_
      refine x_getN (v := .int (S (22 + k1) 1)) C D kc_Item (nI_ hk1) (sh_I hk1) 1 rfl (by decide) nf_Encoder_46 rfl rfl d_Encoder_putUtf8_4 ?_
      refine lv_icmp_ge hx hb d_Encoder_putUtf8_7 rfl (fun z => ?_) (fun z => ?_)
      · replace h := if_t z h
        exact x_vrs C D h d_Encoder_putUtf8_69
      · replace h := if_f z h
        refine lv_aload_n hx hb d_Encoder_putUtf8_10 rfl (lv_at hl 1 rfl) ?_
        refine lv_iload_n hx hb d_Encoder_putUtf8_11 rfl (lv_at hl 2 rfl) ?_
        obtain ⟨u1, hu1, h⟩ := bd_some h
        refine x_cip (rest := []) (r_V C D (c_Item_codeAt l g hD k1 hk1 a2 S u1 hu1) wc_Item_codeAt wm_Encoder_34 wi_Item_codeAt wd_Item_codeAt (nI_ hk1) (sh_I hk1) kc_Item.1 rfl rfl hl (Nat.le_of_ble_eq_true rfl) (by decide) d_Encoder_putUtf8_12) D (fun H locs D => ?_)
        refine lv_istore_n (lv' := [(3, .int u1), (0, .ref (ga g (58 + k0))), (1, .ref (ga g (22 + k1))), (2, .int a2)]) hx hb d_Encoder_putUtf8_15 rfl hl (by decide) rfl (fun ls hl => ?_)
        refine lv_iload_n hx hb d_Encoder_putUtf8_16 rfl (lv_at hl 0 rfl) ?_
        obtain ⟨u2, hu2, h⟩ := bd_some h
        refine x_cip (rest := []) (r_S C D (c_Encoder_utf8Count l g hD u1 S u2 hu2) wc_Encoder_utf8Count wm_Encoder_50 wt_Encoder_utf8Count wd_Encoder_utf8Count rfl rfl hl (Nat.le_of_ble_eq_true rfl) (by decide) d_Encoder_putUtf8_17) D (fun H locs D => ?_)
        refine lv_istore (lv' := [(4, .int u2), (3, .int u1), (0, .ref (ga g (58 + k0))), (1, .ref (ga g (22 + k1))), (2, .int a2)]) hx hb d_Encoder_putUtf8_20 hl (by decide) rfl (fun ls hl => ?_)
        refine lv_iconst (v := 0) hx hb d_Encoder_putUtf8_22 (by decide) ?_
        refine lv_istore (lv' := [(5, .int 0), (4, .int u2), (3, .int u1), (0, .ref (ga g (58 + k0))), (1, .ref (ga g (22 + k1))), (2, .int a2)]) hx hb d_Encoder_putUtf8_23 hl (by decide) rfl (fun ls hl => ?_)
        exact L25 _ hK2 _ _ _ _ _ _ hk0 _ hk1 _ _ _ _ h D (lv_sub hl [3, 4, 5, 2, 1, 0] rfl)
  unfold f_Encoder_putUtf8 at h
  refine lv_iconst (v := 0) hx hb d_Encoder_putUtf8_0 (by decide) ?_
  refine lv_istore_n (lv' := [(2, .int 0), (0, .ref (ga g (58 + k0))), (1, .ref (ga g (22 + k1)))]) hx hb d_Encoder_putUtf8_1 rfl hl (by decide) rfl (fun ls hl => ?_)
  exact L2 _ _ _ _ _ _ hk0 _ hk1 _ h D (lv_sub hl [1, 2, 0] rfl)
theorem d_Encoder_putEncoded_0 : decode b_Encoder_putEncoded 0 = .ok (.iconst 0, 1) := by decide +kernel
theorem d_Encoder_putEncoded_1 : decode b_Encoder_putEncoded 1 = .ok (.istore 4, 2) := by decide +kernel
theorem d_Encoder_putEncoded_3 : decode b_Encoder_putEncoded 3 = .ok (.iload 4, 2) := by decide +kernel
theorem d_Encoder_putEncoded_5 : decode b_Encoder_putEncoded 5 = .ok (.iload_n 2, 1) := by decide +kernel
theorem d_Encoder_putEncoded_6 : decode b_Encoder_putEncoded 6 = .ok (.if_icmp .ge 113, 3) := by decide +kernel
theorem d_Encoder_putEncoded_9 : decode b_Encoder_putEncoded 9 = .ok (.aload_n 1, 1) := by decide +kernel
theorem d_Encoder_putEncoded_10 : decode b_Encoder_putEncoded 10 = .ok (.iload 4, 2) := by decide +kernel
theorem d_Encoder_putEncoded_12 : decode b_Encoder_putEncoded 12 = .ok (.invokevirtual 7, 3) := by decide +kernel
theorem d_Encoder_putEncoded_15 : decode b_Encoder_putEncoded 15 = .ok (.istore 5, 2) := by decide +kernel
theorem d_Encoder_putEncoded_17 : decode b_Encoder_putEncoded 17 = .ok (.iload 5, 2) := by decide +kernel
theorem d_Encoder_putEncoded_19 : decode b_Encoder_putEncoded 19 = .ok (.invokestatic 13, 3) := by decide +kernel
theorem d_Encoder_putEncoded_22 : decode b_Encoder_putEncoded 22 = .ok (.ifCond .eq 12, 3) := by decide +kernel
theorem d_Encoder_putEncoded_25 : decode b_Encoder_putEncoded 25 = .ok (.aload_n 0, 1) := by decide +kernel
theorem d_Encoder_putEncoded_26 : decode b_Encoder_putEncoded 26 = .ok (.iload 5, 2) := by decide +kernel
theorem d_Encoder_putEncoded_28 : decode b_Encoder_putEncoded 28 = .ok (.invokevirtual 19, 3) := by decide +kernel
theorem d_Encoder_putEncoded_31 : decode b_Encoder_putEncoded 31 = .ok (.goto 66, 3) := by decide +kernel
theorem d_Encoder_putEncoded_34 : decode b_Encoder_putEncoded 34 = .ok (.iload_n 3, 1) := by decide +kernel
theorem d_Encoder_putEncoded_35 : decode b_Encoder_putEncoded 35 = .ok (.iconst 1, 1) := by decide +kernel
theorem d_Encoder_putEncoded_36 : decode b_Encoder_putEncoded 36 = .ok (.if_icmp .ne 30, 3) := by decide +kernel
theorem d_Encoder_putEncoded_39 : decode b_Encoder_putEncoded 39 = .ok (.iload 5, 2) := by decide +kernel
theorem d_Encoder_putEncoded_41 : decode b_Encoder_putEncoded 41 = .ok (.invokestatic 27, 3) := by decide +kernel
theorem d_Encoder_putEncoded_44 : decode b_Encoder_putEncoded 44 = .ok (.ifCond .ne 13, 3) := by decide +kernel
theorem d_Encoder_putEncoded_47 : decode b_Encoder_putEncoded 47 = .ok (.aload_n 1, 1) := by decide +kernel
theorem d_Encoder_putEncoded_48 : decode b_Encoder_putEncoded 48 = .ok (.iload 4, 2) := by decide +kernel
theorem d_Encoder_putEncoded_50 : decode b_Encoder_putEncoded 50 = .ok (.iload_n 2, 1) := by decide +kernel
theorem d_Encoder_putEncoded_51 : decode b_Encoder_putEncoded 51 = .ok (.invokevirtual 30, 3) := by decide +kernel
theorem d_Encoder_putEncoded_54 : decode b_Encoder_putEncoded 54 = .ok (.ifCond .eq 12, 3) := by decide +kernel
theorem d_Encoder_putEncoded_57 : decode b_Encoder_putEncoded 57 = .ok (.aload_n 0, 1) := by decide +kernel
theorem d_Encoder_putEncoded_58 : decode b_Encoder_putEncoded 58 = .ok (.iload 5, 2) := by decide +kernel
theorem d_Encoder_putEncoded_60 : decode b_Encoder_putEncoded 60 = .ok (.invokevirtual 19, 3) := by decide +kernel
theorem d_Encoder_putEncoded_63 : decode b_Encoder_putEncoded 63 = .ok (.goto 34, 3) := by decide +kernel
theorem d_Encoder_putEncoded_66 : decode b_Encoder_putEncoded 66 = .ok (.iload_n 3, 1) := by decide +kernel
theorem d_Encoder_putEncoded_67 : decode b_Encoder_putEncoded 67 = .ok (.iconst 2, 1) := by decide +kernel
theorem d_Encoder_putEncoded_68 : decode b_Encoder_putEncoded 68 = .ok (.if_icmp .ne 19, 3) := by decide +kernel
theorem d_Encoder_putEncoded_71 : decode b_Encoder_putEncoded 71 = .ok (.iload 5, 2) := by decide +kernel
theorem d_Encoder_putEncoded_73 : decode b_Encoder_putEncoded 73 = .ok (.bipush 32, 2) := by decide +kernel
theorem d_Encoder_putEncoded_75 : decode b_Encoder_putEncoded 75 = .ok (.if_icmp .ne 12, 3) := by decide +kernel
theorem d_Encoder_putEncoded_78 : decode b_Encoder_putEncoded 78 = .ok (.aload_n 0, 1) := by decide +kernel
theorem d_Encoder_putEncoded_79 : decode b_Encoder_putEncoded 79 = .ok (.bipush 43, 2) := by decide +kernel
theorem d_Encoder_putEncoded_81 : decode b_Encoder_putEncoded 81 = .ok (.invokevirtual 19, 3) := by decide +kernel
theorem d_Encoder_putEncoded_84 : decode b_Encoder_putEncoded 84 = .ok (.goto 13, 3) := by decide +kernel
theorem d_Encoder_putEncoded_87 : decode b_Encoder_putEncoded 87 = .ok (.aload_n 0, 1) := by decide +kernel
theorem d_Encoder_putEncoded_88 : decode b_Encoder_putEncoded 88 = .ok (.aload_n 1, 1) := by decide +kernel
theorem d_Encoder_putEncoded_89 : decode b_Encoder_putEncoded 89 = .ok (.iload 4, 2) := by decide +kernel
theorem d_Encoder_putEncoded_91 : decode b_Encoder_putEncoded 91 = .ok (.invokevirtual 34, 3) := by decide +kernel
theorem d_Encoder_putEncoded_94 : decode b_Encoder_putEncoded 94 = .ok (.invokestatic 38, 3) := by decide +kernel
theorem d_Encoder_putEncoded_97 : decode b_Encoder_putEncoded 97 = .ok (.iload 4, 2) := by decide +kernel
theorem d_Encoder_putEncoded_99 : decode b_Encoder_putEncoded 99 = .ok (.aload_n 1, 1) := by decide +kernel
theorem d_Encoder_putEncoded_100 : decode b_Encoder_putEncoded 100 = .ok (.iload 4, 2) := by decide +kernel
theorem d_Encoder_putEncoded_102 : decode b_Encoder_putEncoded 102 = .ok (.invokevirtual 42, 3) := by decide +kernel
theorem d_Encoder_putEncoded_105 : decode b_Encoder_putEncoded 105 = .ok (.ifCond .eq 7, 3) := by decide +kernel
theorem d_Encoder_putEncoded_108 : decode b_Encoder_putEncoded 108 = .ok (.iconst 2, 1) := by decide +kernel
theorem d_Encoder_putEncoded_109 : decode b_Encoder_putEncoded 109 = .ok (.goto 4, 3) := by decide +kernel
theorem d_Encoder_putEncoded_112 : decode b_Encoder_putEncoded 112 = .ok (.iconst 1, 1) := by decide +kernel
theorem d_Encoder_putEncoded_113 : decode b_Encoder_putEncoded 113 = .ok (.iadd, 1) := by decide +kernel
theorem d_Encoder_putEncoded_114 : decode b_Encoder_putEncoded 114 = .ok (.istore 4, 2) := by decide +kernel
theorem d_Encoder_putEncoded_116 : decode b_Encoder_putEncoded 116 = .ok (.goto (-113), 3) := by decide +kernel
theorem d_Encoder_putEncoded_119 : decode b_Encoder_putEncoded 119 = .ok (.return_, 1) := by decide +kernel
def f_Encoder_putEncoded_113 (K3 : Nat → Nat → Int32 → Int32 → Int32 → zSt → Option zSt) (k0 : Nat) (k1 : Nat) (a2 : Int32) (a3 : Int32) (t0 : Int32) (t1 : Int32) (S : zSt) : Option zSt := (K3 k0 k1 a2 a3 (t1 + t0) S)
def f_Encoder_putEncoded_97 (K3 : Nat → Nat → Int32 → Int32 → Int32 → zSt → Option zSt) (k0 : Nat) (k1 : Nat) (a2 : Int32) (a3 : Int32) (a4 : Int32) (S : zSt) : Option zSt := ((f_Item_isPair k1 a4 S).bind fun u5 => (if u5 = 0 then (f_Encoder_putEncoded_113 K3 k0 k1 a2 a3 1 a4 S) else (f_Encoder_putEncoded_113 K3 k0 k1 a2 a3 2 a4 S)))
def f_Encoder_putEncoded_87 (K3 : Nat → Nat → Int32 → Int32 → Int32 → zSt → Option zSt) (k0 : Nat) (k1 : Nat) (a2 : Int32) (a3 : Int32) (a4 : Int32) (S : zSt) : Option zSt := ((f_Item_codeAt k1 a4 S).bind fun u3 => ((f_Encoder_putEscaped k0 u3 S).bind fun u4 => (f_Encoder_putEncoded_97 K3 k0 k1 a2 a3 a4 u4)))
def f_Encoder_putEncoded_66 (K3 : Nat → Nat → Int32 → Int32 → Int32 → zSt → Option zSt) (k0 : Nat) (k1 : Nat) (a2 : Int32) (a3 : Int32) (a4 : Int32) (a5 : Int32) (S : zSt) : Option zSt := (if a3 = 2 then (if a5 = 32 then ((f_ByteRow_put k0 43 S).bind fun u6 => (f_Encoder_putEncoded_97 K3 k0 k1 a2 a3 a4 u6)) else (f_Encoder_putEncoded_87 K3 k0 k1 a2 a3 a4 S)) else (f_Encoder_putEncoded_87 K3 k0 k1 a2 a3 a4 S))
def f_Encoder_putEncoded_57 (K3 : Nat → Nat → Int32 → Int32 → Int32 → zSt → Option zSt) (k0 : Nat) (k1 : Nat) (a2 : Int32) (a3 : Int32) (a4 : Int32) (a5 : Int32) (S : zSt) : Option zSt := ((f_ByteRow_put k0 a5 S).bind fun u8 => (f_Encoder_putEncoded_97 K3 k0 k1 a2 a3 a4 u8))
def f_Encoder_putEncoded_3 : Nat → Nat → Nat → Int32 → Int32 → Int32 → zSt → Option zSt
  | 0, _, _, _, _, _, _ => none
  | n + 1, k0, k1, a2, a3, a4, S => (if a2 ≤ a4 then (some S) else ((f_Item_at k1 a4 S).bind fun u1 => ((f_Chars_isUnreserved u1 S).bind fun u2 => (if u2 = 0 then (if a3 = 1 then ((f_Chars_isLooseMark u1 S).bind fun u7 => (if u7 = 0 then ((f_Item_isEscape k1 a4 a2 S).bind fun u9 => (if u9 = 0 then (f_Encoder_putEncoded_66 (f_Encoder_putEncoded_3 n) k0 k1 a2 a3 a4 u1 S) else (f_Encoder_putEncoded_57 (f_Encoder_putEncoded_3 n) k0 k1 a2 a3 a4 u1 S))) else (f_Encoder_putEncoded_57 (f_Encoder_putEncoded_3 n) k0 k1 a2 a3 a4 u1 S))) else (f_Encoder_putEncoded_66 (f_Encoder_putEncoded_3 n) k0 k1 a2 a3 a4 u1 S)) else ((f_ByteRow_put k0 u1 S).bind fun u10 => (f_Encoder_putEncoded_97 (f_Encoder_putEncoded_3 n) k0 k1 a2 a3 a4 u10))))))
def f_Encoder_putEncoded (k0 : Nat) (k1 : Nat) (a2 : Int32) (a3 : Int32) (S : zSt) : Option zSt := (f_Encoder_putEncoded_3 fu k0 k1 a2 a3 0 S)
set_option maxHeartbeats 4000000 in
set_option maxRecDepth 100000 in
theorem c_Encoder_putEncoded (l : Launch) (g : zG) (hD : GD g) (k0 : Nat) (hk0 : k0 < 4) (k1 : Nat) (hk1 : k1 < 18) (a2 : Int32) (a3 : Int32) (S : zSt) (u : zSt) (h : f_Encoder_putEncoded k0 k1 a2 a3 S = some u) : Met l y_Encoder_putEncoded (mw y_Encoder_putEncoded b_Encoder_putEncoded 6 none) (rmD 5) (Pw g [.ref (ga g (58 + k0)), .ref (ga g (22 + k1)), .int a2, .int a3] S) (Qvs g u) 0 0 (gA g) := by
  refine z_go (own := R_Encoder) (lv0 := [(0, .ref (ga g (58 + k0))), (1, .ref (ga g (22 + k1))), (2, .int a2), (3, .int a3)]) hD (by decide) rfl (Nat.le_of_ble_eq_true rfl) rfl ?_
  intro p e s m args below meth c C D ls hl
  have hx := C.1
  have hb := C.2.1
  have hown := C.2.2.2.1
  have hts := C.2.2.2.2.1
  have B113 : ∀ (K3 : Nat → Nat → Int32 → Int32 → Int32 → zSt → Option zSt) (hK3 : ∀ (H : Heap) (locs : List Loc) (S : zSt) (ls : Array Slot) (k0 : Nat) (hk0 : k0 < 4) (k1 : Nat) (hk1 : k1 < 18) (a2 : Int32) (a3 : Int32) (a4 : Int32), K3 k0 k1 a2 a3 a4 S = some u → Dy g s S H locs → lv_has ls 6 [(0, .ref (ga g (58 + k0))), (1, .ref (ga g (22 + k1))), (2, .int a2), (3, .int a3), (4, .int a4)] → W p l e (rmD 5) s m args below meth c H locs 0 0 (MQ below (Qvs g u) args s 0 0 (gA g)) (F0 m 3 ls [])) (H : Heap) (locs : List Loc) (S : zSt) (ls : Array Slot) (k0 : Nat) (hk0 : k0 < 4) (k1 : Nat) (hk1 : k1 < 18) (a2 : Int32) (a3 : Int32) (t0 : Int32) (t1 : Int32), f_Encoder_putEncoded_113 K3 k0 k1 a2 a3 t0 t1 S = some u → Dy g s S H locs → lv_has ls 6 [(0, .ref (ga g (58 + k0))), (1, .ref (ga g (22 + k1))), (2, .int a2), (3, .int a3)] → W p l e (rmD 5) s m args below meth c H locs 0 0 (MQ below (Qvs g u) args s 0 0 (gA g)) (F0 m 113 ls [.int t0, .int t1]) := by
    intro K3 hK3 H locs S ls k0 hk0 k1 hk1 a2 a3 t0 t1 h D hl
    unfold f_Encoder_putEncoded_113 at h
    refine lv_iadd hx hb d_Encoder_putEncoded_113 ?_
    refine lv_istore (lv' := [(4, .int (t1 + t0)), (0, .ref (ga g (58 + k0))), (1, .ref (ga g (22 + k1))), (2, .int a2), (3, .int a3)]) hx hb d_Encoder_putEncoded_114 hl (by decide) rfl (fun ls hl => ?_)
    refine lv_goto hx hb d_Encoder_putEncoded_116 rfl ?_
    exact hK3 _ _ _ _ _ hk0 _ hk1 _ _ _ h D (lv_sub hl [1, 2, 3, 4, 0] rfl)
  have B97 : ∀ (K3 : Nat → Nat → Int32 → Int32 → Int32 → zSt → Option zSt) (hK3 : ∀ (H : Heap) (locs : List Loc) (S : zSt) (ls : Array Slot) (k0 : Nat) (hk0 : k0 < 4) (k1 : Nat) (hk1 : k1 < 18) (a2 : Int32) (a3 : Int32) (a4 : Int32), K3 k0 k1 a2 a3 a4 S = some u → Dy g s S H locs → lv_has ls 6 [(0, .ref (ga g (58 + k0))), (1, .ref (ga g (22 + k1))), (2, .int a2), (3, .int a3), (4, .int a4)] → W p l e (rmD 5) s m args below meth c H locs 0 0 (MQ below (Qvs g u) args s 0 0 (gA g)) (F0 m 3 ls [])) (H : Heap) (locs : List Loc) (S : zSt) (ls : Array Slot) (k0 : Nat) (hk0 : k0 < 4) (k1 : Nat) (hk1 : k1 < 18) (a2 : Int32) (a3 : Int32) (a4 : Int32), f_Encoder_putEncoded_97 K3 k0 k1 a2 a3 a4 S = some u → Dy g s S H locs → lv_has ls 6 [(0, .ref (ga g (58 + k0))), (1, .ref (ga g (22 + k1))), (2, .int a2), (3, .int a3), (4, .int a4)] → W p l e (rmD 5) s m args below meth c H locs 0 0 (MQ below (Qvs g u) args s 0 0 (gA g)) (F0 m 97 ls []) := by
    intro K3 hK3 H locs S ls k0 hk0 k1 hk1 a2 a3 a4 h D hl
    unfold f_Encoder_putEncoded_97 at h
    refine lv_iload hx hb d_Encoder_putEncoded_97 (lv_at hl 4 rfl) ?_
    refine lv_aload_n hx hb d_Encoder_putEncoded_99 rfl (lv_at hl 1 rfl) ?_
    refine lv_iload hx hb d_Encoder_putEncoded_100 (lv_at hl 4 rfl) ?_
    obtain ⟨u5, hu5, h⟩ := bd_some h
    refine x_cip (rest := [.int a4]) (r_V C D (c_Item_isPair l g hD k1 hk1 a4 S u5 hu5) wc_Item_isPair wm_Encoder_42 wi_Item_isPair wd_Item_isPair (nI_ hk1) (sh_I hk1) kc_Item.1 rfl rfl hl (Nat.le_of_ble_eq_true rfl) (by decide) d_Encoder_putEncoded_102) D (fun H locs D => ?_)
    refine lv_if_eq hx hb d_Encoder_putEncoded_105 rfl (fun z => ?_) (fun z => ?_)
    · replace h := if_t z h
      refine lv_iconst (v := 1) hx hb d_Encoder_putEncoded_112 (by decide) ?_
      exact B113 _ hK3 _ _ _ _ _ hk0 _ hk1 _ _ _ _ h D (lv_sub hl [0, 1, 2, 3] rfl)
    · replace h := if_f z h
      refine lv_iconst (v := 2) hx hb d_Encoder_putEncoded_108 (by decide) ?_
      refine lv_goto hx hb d_Encoder_putEncoded_109 rfl ?_
      exact B113 _ hK3 _ _ _ _ _ hk0 _ hk1 _ _ _ _ h D (lv_sub hl [0, 1, 2, 3] rfl)
  have B87 : ∀ (K3 : Nat → Nat → Int32 → Int32 → Int32 → zSt → Option zSt) (hK3 : ∀ (H : Heap) (locs : List Loc) (S : zSt) (ls : Array Slot) (k0 : Nat) (hk0 : k0 < 4) (k1 : Nat) (hk1 : k1 < 18) (a2 : Int32) (a3 : Int32) (a4 : Int32), K3 k0 k1 a2 a3 a4 S = some u → Dy g s S H locs → lv_has ls 6 [(0, .ref (ga g (58 + k0))), (1, .ref (ga g (22 + k1))), (2, .int a2), (3, .int a3), (4, .int a4)] → W p l e (rmD 5) s m args below meth c H locs 0 0 (MQ below (Qvs g u) args s 0 0 (gA g)) (F0 m 3 ls [])) (H : Heap) (locs : List Loc) (S : zSt) (ls : Array Slot) (k0 : Nat) (hk0 : k0 < 4) (k1 : Nat) (hk1 : k1 < 18) (a2 : Int32) (a3 : Int32) (a4 : Int32), f_Encoder_putEncoded_87 K3 k0 k1 a2 a3 a4 S = some u → Dy g s S H locs → lv_has ls 6 [(0, .ref (ga g (58 + k0))), (1, .ref (ga g (22 + k1))), (2, .int a2), (3, .int a3), (4, .int a4)] → W p l e (rmD 5) s m args below meth c H locs 0 0 (MQ below (Qvs g u) args s 0 0 (gA g)) (F0 m 87 ls []) := by
    intro K3 hK3 H locs S ls k0 hk0 k1 hk1 a2 a3 a4 h D hl
    unfold f_Encoder_putEncoded_87 at h
    refine lv_aload_n hx hb d_Encoder_putEncoded_87 rfl (lv_at hl 0 rfl) ?_
    refine lv_aload_n hx hb d_Encoder_putEncoded_88 rfl (lv_at hl 1 rfl) ?_
    refine lv_iload hx hb d_Encoder_putEncoded_89 (lv_at hl 4 rfl) ?_
    obtain ⟨u3, hu3, h⟩ := bd_some h
    refine x_cip (rest := [.ref (ga g (58 + k0))]) (r_V C D (c_Item_codeAt l g hD k1 hk1 a4 S u3 hu3) wc_Item_codeAt wm_Encoder_34 wi_Item_codeAt wd_Item_codeAt (nI_ hk1) (sh_I hk1) kc_Item.1 rfl rfl hl (Nat.le_of_ble_eq_true rfl) (by decide) d_Encoder_putEncoded_91) D (fun H locs D => ?_)
    obtain ⟨u4, hu4, h⟩ := bd_some h
    refine x_cvs (rest := []) (r_S C D (c_Encoder_putEscaped l g hD k0 hk0 u3 S u4 hu4) wc_Encoder_putEscaped wm_Encoder_38 wt_Encoder_putEscaped wd_Encoder_putEscaped rfl rfl hl (Nat.le_of_ble_eq_true rfl) (by decide) d_Encoder_putEncoded_94) D (fun H locs D => ?_)
    exact B97 _ hK3 _ _ _ _ _ hk0 _ hk1 _ _ _ h D (lv_sub hl [0, 1, 2, 3, 4] rfl)
  have B66 : ∀ (K3 : Nat → Nat → Int32 → Int32 → Int32 → zSt → Option zSt) (hK3 : ∀ (H : Heap) (locs : List Loc) (S : zSt) (ls : Array Slot) (k0 : Nat) (hk0 : k0 < 4) (k1 : Nat) (hk1 : k1 < 18) (a2 : Int32) (a3 : Int32) (a4 : Int32), K3 k0 k1 a2 a3 a4 S = some u → Dy g s S H locs → lv_has ls 6 [(0, .ref (ga g (58 + k0))), (1, .ref (ga g (22 + k1))), (2, .int a2), (3, .int a3), (4, .int a4)] → W p l e (rmD 5) s m args below meth c H locs 0 0 (MQ below (Qvs g u) args s 0 0 (gA g)) (F0 m 3 ls [])) (H : Heap) (locs : List Loc) (S : zSt) (ls : Array Slot) (k0 : Nat) (hk0 : k0 < 4) (k1 : Nat) (hk1 : k1 < 18) (a2 : Int32) (a3 : Int32) (a4 : Int32) (a5 : Int32), f_Encoder_putEncoded_66 K3 k0 k1 a2 a3 a4 a5 S = some u → Dy g s S H locs → lv_has ls 6 [(0, .ref (ga g (58 + k0))), (1, .ref (ga g (22 + k1))), (2, .int a2), (3, .int a3), (4, .int a4), (5, .int a5)] → W p l e (rmD 5) s m args below meth c H locs 0 0 (MQ below (Qvs g u) args s 0 0 (gA g)) (F0 m 66 ls []) := by
    intro K3 hK3 H locs S ls k0 hk0 k1 hk1 a2 a3 a4 a5 h D hl
    unfold f_Encoder_putEncoded_66 at h
    refine lv_iload_n hx hb d_Encoder_putEncoded_66 rfl (lv_at hl 3 rfl) ?_
    refine lv_iconst (v := 2) hx hb d_Encoder_putEncoded_67 (by decide) ?_
    refine lv_icmp_ne hx hb d_Encoder_putEncoded_68 rfl (fun z => ?_) (fun z => ?_)
    · replace h := if_f z h
      exact B87 _ hK3 _ _ _ _ _ hk0 _ hk1 _ _ _ h D (lv_sub hl [0, 1, 2, 3, 4] rfl)
    · replace h := if_t z h
      refine lv_iload hx hb d_Encoder_putEncoded_71 (lv_at hl 5 rfl) ?_
      refine lv_bipush (v := 32) hx hb d_Encoder_putEncoded_73 (by decide) ?_
      refine lv_icmp_ne hx hb d_Encoder_putEncoded_75 rfl (fun z => ?_) (fun z => ?_)
      · replace h := if_f z h
        exact B87 _ hK3 _ _ _ _ _ hk0 _ hk1 _ _ _ h D (lv_sub hl [0, 1, 2, 3, 4] rfl)
      · replace h := if_t z h
        refine lv_aload_n hx hb d_Encoder_putEncoded_78 rfl (lv_at hl 0 rfl) ?_
        refine lv_bipush (v := 43) hx hb d_Encoder_putEncoded_79 (by decide) ?_
        obtain ⟨u6, hu6, h⟩ := bd_some h
        refine x_cvs (rest := []) (r_V C D (c_ByteRow_put l g hD k0 hk0 43 S u6 hu6) wc_ByteRow_put wm_Encoder_19 wi_ByteRow_put wd_ByteRow_put (nR hk0) (sh_R hk0) kc_ByteRow.1 rfl rfl hl (Nat.le_of_ble_eq_true rfl) (by decide) d_Encoder_putEncoded_81) D (fun H locs D => ?_)
        refine lv_goto hx hb d_Encoder_putEncoded_84 rfl ?_
        exact B97 _ hK3 _ _ _ _ _ hk0 _ hk1 _ _ _ h D (lv_sub hl [0, 1, 2, 3, 4] rfl)
  have B57 : ∀ (K3 : Nat → Nat → Int32 → Int32 → Int32 → zSt → Option zSt) (hK3 : ∀ (H : Heap) (locs : List Loc) (S : zSt) (ls : Array Slot) (k0 : Nat) (hk0 : k0 < 4) (k1 : Nat) (hk1 : k1 < 18) (a2 : Int32) (a3 : Int32) (a4 : Int32), K3 k0 k1 a2 a3 a4 S = some u → Dy g s S H locs → lv_has ls 6 [(0, .ref (ga g (58 + k0))), (1, .ref (ga g (22 + k1))), (2, .int a2), (3, .int a3), (4, .int a4)] → W p l e (rmD 5) s m args below meth c H locs 0 0 (MQ below (Qvs g u) args s 0 0 (gA g)) (F0 m 3 ls [])) (H : Heap) (locs : List Loc) (S : zSt) (ls : Array Slot) (k0 : Nat) (hk0 : k0 < 4) (k1 : Nat) (hk1 : k1 < 18) (a2 : Int32) (a3 : Int32) (a4 : Int32) (a5 : Int32), f_Encoder_putEncoded_57 K3 k0 k1 a2 a3 a4 a5 S = some u → Dy g s S H locs → lv_has ls 6 [(0, .ref (ga g (58 + k0))), (1, .ref (ga g (22 + k1))), (2, .int a2), (3, .int a3), (4, .int a4), (5, .int a5)] → W p l e (rmD 5) s m args below meth c H locs 0 0 (MQ below (Qvs g u) args s 0 0 (gA g)) (F0 m 57 ls []) := by
    intro K3 hK3 H locs S ls k0 hk0 k1 hk1 a2 a3 a4 a5 h D hl
    unfold f_Encoder_putEncoded_57 at h
    refine lv_aload_n hx hb d_Encoder_putEncoded_57 rfl (lv_at hl 0 rfl) ?_
    refine lv_iload hx hb d_Encoder_putEncoded_58 (lv_at hl 5 rfl) ?_
    obtain ⟨u8, hu8, h⟩ := bd_some h
    refine x_cvs (rest := []) (r_V C D (c_ByteRow_put l g hD k0 hk0 a5 S u8 hu8) wc_ByteRow_put wm_Encoder_19 wi_ByteRow_put wd_ByteRow_put (nR hk0) (sh_R hk0) kc_ByteRow.1 rfl rfl hl (Nat.le_of_ble_eq_true rfl) (by decide) d_Encoder_putEncoded_60) D (fun H locs D => ?_)
    refine lv_goto hx hb d_Encoder_putEncoded_63 rfl ?_
    exact B97 _ hK3 _ _ _ _ _ hk0 _ hk1 _ _ _ h D (lv_sub hl [0, 1, 2, 3, 4] rfl)
  have L3 : ∀ (n : Nat) (H : Heap) (locs : List Loc) (S : zSt) (ls : Array Slot) (k0 : Nat) (hk0 : k0 < 4) (k1 : Nat) (hk1 : k1 < 18) (a2 : Int32) (a3 : Int32) (a4 : Int32), f_Encoder_putEncoded_3 n k0 k1 a2 a3 a4 S = some u → Dy g s S H locs → lv_has ls 6 [(0, .ref (ga g (58 + k0))), (1, .ref (ga g (22 + k1))), (2, .int a2), (3, .int a3), (4, .int a4)] → W p l e (rmD 5) s m args below meth c H locs 0 0 (MQ below (Qvs g u) args s 0 0 (gA g)) (F0 m 3 ls []) := by
    intro n
    induction n with
    | zero => intro H locs S ls k0 hk0 k1 hk1 a2 a3 a4 h D hl; rw [f_Encoder_putEncoded_3] at h; cases h
    | succ n hK3 =>
      intro H locs S ls k0 hk0 k1 hk1 a2 a3 a4 h D hl
      rw [f_Encoder_putEncoded_3] at h
      refine lv_iload hx hb d_Encoder_putEncoded_3 (lv_at hl 4 rfl) ?_
      refine lv_iload_n hx hb d_Encoder_putEncoded_5 rfl (lv_at hl 2 rfl) ?_
      refine lv_icmp_ge hx hb d_Encoder_putEncoded_6 rfl (fun z => ?_) (fun z => ?_)
      · replace h := if_t z h
        exact x_vrs C D h d_Encoder_putEncoded_119
      · replace h := if_f z h
        refine lv_aload_n hx hb d_Encoder_putEncoded_9 rfl (lv_at hl 1 rfl) ?_
        refine lv_iload hx hb d_Encoder_putEncoded_10 (lv_at hl 4 rfl) ?_
        obtain ⟨u1, hu1, h⟩ := bd_some h
        refine x_cip (rest := []) (r_V C D (c_Item_at l g hD k1 hk1 a4 S u1 hu1) wc_Item_at wm_Encoder_7 wi_Item_at wd_Item_at (nI_ hk1) (sh_I hk1) kc_Item.1 rfl rfl hl (Nat.le_of_ble_eq_true rfl) (by decide) d_Encoder_putEncoded_12) D (fun H locs D => ?_)
        refine lv_istore (lv' := [(5, .int u1), (0, .ref (ga g (58 + k0))), (1, .ref (ga g (22 + k1))), (2, .int a2), (3, .int a3), (4, .int a4)]) hx hb d_Encoder_putEncoded_15 hl (by decide) rfl (fun ls hl => ?_)
        refine lv_iload hx hb d_Encoder_putEncoded_17 (lv_at hl 0 rfl) ?_
        obtain ⟨u2, hu2, h⟩ := bd_some h
        refine x_cip (rest := []) (r_S C D (c_Chars_isUnreserved l g hD u1 S u2 hu2) wc_Chars_isUnreserved wm_Encoder_13 wt_Chars_isUnreserved wd_Chars_isUnreserved rfl rfl hl (Nat.le_of_ble_eq_true rfl) (by decide) d_Encoder_putEncoded_19) D (fun H locs D => ?_)
        refine lv_if_eq hx hb d_Encoder_putEncoded_22 rfl (fun z => ?_) (fun z => ?_)
        · replace h := if_t z h
          refine lv_iload_n hx hb d_Encoder_putEncoded_34 rfl (lv_at hl 4 rfl) ?_
          refine lv_iconst (v := 1) hx hb d_Encoder_putEncoded_35 (by decide) ?_
          refine lv_icmp_ne hx hb d_Encoder_putEncoded_36 rfl (fun z => ?_) (fun z => ?_)
          · replace h := if_f z h
            exact B66 _ hK3 _ _ _ _ _ hk0 _ hk1 _ _ _ _ h D (lv_sub hl [1, 2, 3, 4, 5, 0] rfl)
          · replace h := if_t z h
            refine lv_iload hx hb d_Encoder_putEncoded_39 (lv_at hl 0 rfl) ?_
            obtain ⟨u7, hu7, h⟩ := bd_some h
            refine x_cip (rest := []) (r_S C D (c_Chars_isLooseMark l g hD u1 S u7 hu7) wc_Chars_isLooseMark wm_Encoder_27 wt_Chars_isLooseMark wd_Chars_isLooseMark rfl rfl hl (Nat.le_of_ble_eq_true rfl) (by decide) d_Encoder_putEncoded_41) D (fun H locs D => ?_)
            refine lv_if_ne hx hb d_Encoder_putEncoded_44 rfl (fun z => ?_) (fun z => ?_)
            · replace h := if_f z h
              exact B57 _ hK3 _ _ _ _ _ hk0 _ hk1 _ _ _ _ h D (lv_sub hl [1, 2, 3, 4, 5, 0] rfl)
            · replace h := if_t z h
              refine lv_aload_n hx hb d_Encoder_putEncoded_47 rfl (lv_at hl 2 rfl) ?_
              refine lv_iload hx hb d_Encoder_putEncoded_48 (lv_at hl 5 rfl) ?_
              refine lv_iload_n hx hb d_Encoder_putEncoded_50 rfl (lv_at hl 3 rfl) ?_
              obtain ⟨u9, hu9, h⟩ := bd_some h
              refine x_cip (rest := []) (r_V C D (c_Item_isEscape l g hD k1 hk1 a4 a2 S u9 hu9) wc_Item_isEscape wm_Encoder_30 wi_Item_isEscape wd_Item_isEscape (nI_ hk1) (sh_I hk1) kc_Item.1 rfl rfl hl (Nat.le_of_ble_eq_true rfl) (by decide) d_Encoder_putEncoded_51) D (fun H locs D => ?_)
              refine lv_if_eq hx hb d_Encoder_putEncoded_54 rfl (fun z => ?_) (fun z => ?_)
              · replace h := if_t z h
                exact B66 _ hK3 _ _ _ _ _ hk0 _ hk1 _ _ _ _ h D (lv_sub hl [1, 2, 3, 4, 5, 0] rfl)
              · replace h := if_f z h
                exact B57 _ hK3 _ _ _ _ _ hk0 _ hk1 _ _ _ _ h D (lv_sub hl [1, 2, 3, 4, 5, 0] rfl)
        · replace h := if_f z h
          refine lv_aload_n hx hb d_Encoder_putEncoded_25 rfl (lv_at hl 1 rfl) ?_
          refine lv_iload hx hb d_Encoder_putEncoded_26 (lv_at hl 0 rfl) ?_
          obtain ⟨u10, hu10, h⟩ := bd_some h
          refine x_cvs (rest := []) (r_V C D (c_ByteRow_put l g hD k0 hk0 u1 S u10 hu10) wc_ByteRow_put wm_Encoder_19 wi_ByteRow_put wd_ByteRow_put (nR hk0) (sh_R hk0) kc_ByteRow.1 rfl rfl hl (Nat.le_of_ble_eq_true rfl) (by decide) d_Encoder_putEncoded_28) D (fun H locs D => ?_)
          refine lv_goto hx hb d_Encoder_putEncoded_31 rfl ?_
          exact B97 _ hK3 _ _ _ _ _ hk0 _ hk1 _ _ _ h D (lv_sub hl [1, 2, 3, 4, 5] rfl)
  unfold f_Encoder_putEncoded at h
  refine lv_iconst (v := 0) hx hb d_Encoder_putEncoded_0 (by decide) ?_
  refine lv_istore (lv' := [(4, .int 0), (0, .ref (ga g (58 + k0))), (1, .ref (ga g (22 + k1))), (2, .int a2), (3, .int a3)]) hx hb d_Encoder_putEncoded_1 hl (by decide) rfl (fun ls hl => ?_)
  exact L3 _ _ _ _ _ _ hk0 _ hk1 _ _ _ h D (lv_sub hl [1, 2, 3, 4, 0] rfl)
