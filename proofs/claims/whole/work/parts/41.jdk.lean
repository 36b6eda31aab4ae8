/-! THE JDK: String constants (printed by wip/whole/gen/genjdk.py) -/
theorem wk_fb008e61d6 : ZWd (.fieldLink RJ0 38 RJ0 "COMPACT_STRINGS" "Z") := zwd_t 481 (by decide +kernel) (by decide +kernel)
theorem wk_3a0fde88e8 : ZWd (.fieldLink RJ0 15 "java/lang/String" "coder" "B") := zwd_t 1992 (by decide +kernel) (by decide +kernel)
theorem wk_7689980e3f : ZWd (.fieldLink RJ0 9 "java/lang/String" "value" "[B") := zwd_t 1991 (by decide +kernel) (by decide +kernel)
theorem wk_294ba2fe63 : ZWd (.methodLink RJ0 335 yJ0_coder_7d493) := zwd_t 477 (by decide +kernel) (by decide +kernel)
theorem wk_4f7f92cbb3 : ZWd (.instanceMethod yJ0_coder_7d493) := zwd_t 478 (by decide +kernel) (by decide +kernel)
theorem wk_4b7f7b77f2 : ZWd (.selects RJ0 yJ0_coder_7d493 yJ0_coder_7d493) := zwd_t 479 (by decide +kernel) (by decide +kernel)
theorem wk_0afd45deeb : ZWd (.fieldLink RJ0 1053 "jdk/internal/util/Preconditions" "SIOOBE_FORMATTER" "Ljava/util/function/BiFunction;") := zwd_t 498 (by decide +kernel) (by decide +kernel)
theorem wk_ec6fd7cde6 : ZWd (.methodLink RJ0 1059 yJ3_checkIndex_8e157) := zwd_t 500 (by decide +kernel) (by decide +kernel)
theorem wk_bd0feb3c98 : ZWd (.static yJ3_checkIndex_8e157) := zwd_t 501 (by decide +kernel) (by decide +kernel)
theorem wk_c437ea9dde : ZWd (.methodLink RJ1 9 yJ0_checkIndex_df160) := zwd_t 495 (by decide +kernel) (by decide +kernel)
theorem wk_c1e386224c : ZWd (.static yJ0_checkIndex_df160) := zwd_t 496 (by decide +kernel) (by decide +kernel)
theorem wk_6522b2be5c : ZWd (.methodLink RJ0 492 yJ0_isLatin1_aae02) := zwd_t 488 (by decide +kernel) (by decide +kernel)
theorem wk_d1b7ecc7ea : ZWd (.instanceMethod yJ0_isLatin1_aae02) := zwd_t 489 (by decide +kernel) (by decide +kernel)
theorem wk_d2f0da8006 : ZWd (.selects RJ0 yJ0_isLatin1_aae02 yJ0_isLatin1_aae02) := zwd_t 490 (by decide +kernel) (by decide +kernel)
theorem wk_86c7d9d0e7 : ZWd (.methodLink RJ0 495 yJ1_charAt_3b067) := zwd_t 492 (by decide +kernel) (by decide +kernel)
theorem wk_4691bf636b : ZWd (.static yJ1_charAt_3b067) := zwd_t 493 (by decide +kernel) (by decide +kernel)
theorem wk_90ebfc2fd1 : ZWd (.methodLink RJ1 88 yJ1_canEncode_9a6ad) := zwd_t 1612 (by decide +kernel) (by decide +kernel)
theorem wk_451653e57f : ZWd (.static yJ1_canEncode_9a6ad) := zwd_t 1613 (by decide +kernel) (by decide +kernel)
theorem wk_ae18c3398a : ZWd (.methodLink RJ1 92 Lib.Math.max.name) := zwd_t 1615 (by decide +kernel) (by decide +kernel)
theorem wk_718c4aea27 : ZWd (.methodLink RJ1 38 Lib.Math.min.name) := zwd_t 1616 (by decide +kernel) (by decide +kernel)
theorem wk_d9106a4713 : ZWd (.methodLink RJ1 95 yJ1_indexOfChar_4cfef) := zwd_t 1617 (by decide +kernel) (by decide +kernel)
theorem wk_f85a7ed2a9 : ZWd (.static yJ1_indexOfChar_4cfef) := zwd_t 1618 (by decide +kernel) (by decide +kernel)
theorem wk_6d64999b93 : ZWd (.methodLink RJ0 505 yJ0_length_8abf5) := zwd_t 1608 (by decide +kernel) (by decide +kernel)
theorem wk_52f8118a6d : ZWd (.methodLink RJ0 637 yJ1_indexOf_4cfef) := zwd_t 1609 (by decide +kernel) (by decide +kernel)
theorem wk_9f30d46bcd : ZWd (.static yJ1_indexOf_4cfef) := zwd_t 1610 (by decide +kernel) (by decide +kernel)
theorem wk_b9b86690b6 : ZWd (.methodLink RJ0 633 yJ0_indexOf_7cf53) := zwd_t 1604 (by decide +kernel) (by decide +kernel)
theorem wk_07dedd3a51 : ZWd (.instanceMethod yJ0_indexOf_7cf53) := zwd_t 1605 (by decide +kernel) (by decide +kernel)
theorem wk_48ae069f2a : ZWd (.selects RJ0 yJ0_indexOf_7cf53 yJ0_indexOf_7cf53) := zwd_t 1606 (by decide +kernel) (by decide +kernel)
theorem wk_3750b79d5d : ZWd (.code yJ0_coder_7d493 cJ0_coder_7d493 1 (some .byte)) := zwd_t 480 (by decide +kernel) (by decide +kernel)
theorem wk_24fecec815 : ZWd (.code yJ0_isLatin1_aae02 cJ0_isLatin1_aae02 1 (some .boolean)) := zwd_t 491 (by decide +kernel) (by decide +kernel)
theorem wk_cf07fd7630 : ZWd (.code yJ3_checkIndex_8e157 cJ3_checkIndex_8e157 3 (some .int)) := zwd_t 502 (by decide +kernel) (by decide +kernel)
theorem wk_94e0edf6cd : ZWd (.initialized RJ3) := zwd_t 25 (by decide +kernel) (by decide +kernel)
theorem wk_6a2612c605 : ZWd (.code yJ0_checkIndex_df160 cJ0_checkIndex_df160 2 none) := zwd_t 497 (by decide +kernel) (by decide +kernel)
theorem wk_6d70501b62 : ZWd (.code yJ1_charAt_3b067 cJ1_charAt_3b067 2 (some .char)) := zwd_t 494 (by decide +kernel) (by decide +kernel)
theorem wk_46ab3bcd5b : ZWd (.initialized RJ1) := zwd_t 24 (by decide +kernel) (by decide +kernel)
theorem wk_5a935db6e1 : ZWd (.code yJ1_canEncode_9a6ad cJ1_canEncode_9a6ad 1 (some .boolean)) := zwd_t 1614 (by decide +kernel) (by decide +kernel)
theorem wk_6a5d5aae7c : ZWd (.code yJ1_indexOfChar_4cfef cJ1_indexOfChar_4cfef 6 (some .int)) := zwd_t 1619 (by decide +kernel) (by decide +kernel)
theorem wk_7147294a2a : ZWd (.code yJ1_indexOf_4cfef cJ1_indexOf_4cfef 4 (some .int)) := zwd_t 1611 (by decide +kernel) (by decide +kernel)
theorem wk_0967a4a17e : ZWd (.code yJ0_indexOf_7cf53 cJ0_indexOf_7cf53 3 (some .int)) := zwd_t 1607 (by decide +kernel) (by decide +kernel)
def MJ0_coder_7d493 : ZMY := (yJ0_coder_7d493, cJ0_coder_7d493, 1, (some .byte))
def MJ0_isLatin1_aae02 : ZMY := (yJ0_isLatin1_aae02, cJ0_isLatin1_aae02, 1, (some .boolean))
def MJ3_checkIndex_8e157 : ZMY := (yJ3_checkIndex_8e157, cJ3_checkIndex_8e157, 3, (some .int))
def MJ0_checkIndex_df160 : ZMY := (yJ0_checkIndex_df160, cJ0_checkIndex_df160, 2, none)
def MJ1_charAt_3b067 : ZMY := (yJ1_charAt_3b067, cJ1_charAt_3b067, 2, (some .char))
def MJ1_canEncode_9a6ad : ZMY := (yJ1_canEncode_9a6ad, cJ1_canEncode_9a6ad, 1, (some .boolean))
def MJ1_indexOfChar_4cfef : ZMY := (yJ1_indexOfChar_4cfef, cJ1_indexOfChar_4cfef, 6, (some .int))
def MJ1_indexOf_4cfef : ZMY := (yJ1_indexOf_4cfef, cJ1_indexOf_4cfef, 4, (some .int))
def MJ0_indexOf_7cf53 : ZMY := (yJ0_indexOf_7cf53, cJ0_indexOf_7cf53, 3, (some .int))
theorem mcJ0_coder_7d493 : ZMC MJ0_coder_7d493 0 := ⟨wk_3750b79d5d, wk_15d104a674, ⟨by decide +kernel, by decide +kernel, by decide +kernel⟩, by decide +kernel⟩
theorem mcJ0_isLatin1_aae02 : ZMC MJ0_isLatin1_aae02 0 := ⟨wk_24fecec815, wk_15d104a674, ⟨by decide +kernel, by decide +kernel, by decide +kernel⟩, by decide +kernel⟩
theorem mcJ3_checkIndex_8e157 : ZMC MJ3_checkIndex_8e157 3 := ⟨wk_cf07fd7630, wk_94e0edf6cd, ⟨by decide +kernel, by decide +kernel, by decide +kernel⟩, by decide +kernel⟩
theorem mcJ0_checkIndex_df160 : ZMC MJ0_checkIndex_df160 2 := ⟨wk_6a2612c605, wk_15d104a674, ⟨by decide +kernel, by decide +kernel, by decide +kernel⟩, by decide +kernel⟩
theorem mcJ1_charAt_3b067 : ZMC MJ1_charAt_3b067 2 := ⟨wk_6d70501b62, wk_46ab3bcd5b, ⟨by decide +kernel, by decide +kernel, by decide +kernel⟩, by decide +kernel⟩
theorem mcJ1_canEncode_9a6ad : ZMC MJ1_canEncode_9a6ad 1 := ⟨wk_5a935db6e1, wk_46ab3bcd5b, ⟨by decide +kernel, by decide +kernel, by decide +kernel⟩, by decide +kernel⟩
theorem mcJ1_indexOfChar_4cfef : ZMC MJ1_indexOfChar_4cfef 4 := ⟨wk_6a5d5aae7c, wk_46ab3bcd5b, ⟨by decide +kernel, by decide +kernel, by decide +kernel⟩, by decide +kernel⟩
theorem mcJ1_indexOf_4cfef : ZMC MJ1_indexOf_4cfef 4 := ⟨wk_7147294a2a, wk_46ab3bcd5b, ⟨by decide +kernel, by decide +kernel, by decide +kernel⟩, by decide +kernel⟩
theorem mcJ0_indexOf_7cf53 : ZMC MJ0_indexOf_7cf53 2 := ⟨wk_0967a4a17e, wk_15d104a674, ⟨by decide +kernel, by decide +kernel, by decide +kernel⟩, by decide +kernel⟩
def tb_J0_coder_7d493 (E : ZEX) (d mc ms : Nat) : List (Nat × ZStep) := [(0, s_const (.int 1) 3), (3, s_if_eq 13 6), (6, s_aload 0 7), (7, s_getfK E 50 123 (fun _ => .int 0) 10), (10, s_goto 14), (13, s_const (.int (1)) 14), (14, s_nreturn .byte)]
set_option maxRecDepth 20000 in
theorem ok_J0_coder_7d493 {E : ZEX} (hY : ZEY E) {X : ZMX} {d mc ms : Nat} {P : ZPT} {T : ZTT} (h : ZCX E X MJ0_coder_7d493 d mc ms P T) : ∀ pc, ZRow E X MJ0_coder_7d493 mc ms P T pc (ztb (tb_J0_coder_7d493 E d mc ms) pc) := ztb_ok (by
  unfold tb_J0_coder_7d493
  refine zfmc (r_getstatic h (pc := 0) (ix := 38) (by decide +kernel) (.int 1) (zx_cs h.ok) wk_fb008e61d6) ?_
  refine zfmc (r_if_eq h (pc := 3) (off := 10) (by decide +kernel) 13 (by decide +kernel)) ?_
  refine zfmc (r_aload_n h (pc := 6) (kf := 0) 0 (by decide +kernel) rfl) ?_
  refine zfmc (r_getfK h (pc := 7) (ix := 15) (by decide +kernel) (zx_strC h.ok) wk_3a0fde88e8) ?_
  refine zfmc (r_goto h (pc := 10) (off := 4) (by decide +kernel) 14 (by decide +kernel)) ?_
  refine zfmc (r_iconst h (pc := 13) (z := 1) (by decide +kernel) (1) (by decide +kernel)) ?_
  refine zfmc (r_nreturn h (pc := 14) (by decide +kernel) rfl) ?_
  exact zfm0)
def tb_J0_length_8abf5 (E : ZEX) (d mc ms : Nat) : List (Nat × ZStep) := [(0, s_aload 0 1), (1, s_getfK E 50 123 (fun j => .ref (zeK E (150 + j))) 4), (4, s_alenB E 5), (5, s_aload 0 6), (6, s_callK E d mc ms 50 123 MJ0_coder_7d493 0 9), (9, s_ishr 10), (10, s_ireturn)]
set_option maxRecDepth 20000 in
theorem ok_J0_length_8abf5 {E : ZEX} (hY : ZEY E) {X : ZMX} {d mc ms : Nat} {P : ZPT} {T : ZTT} (h : ZCX E X MJ0_length_8abf5 d mc ms P T) : ∀ pc, ZRow E X MJ0_length_8abf5 mc ms P T pc (ztb (tb_J0_length_8abf5 E d mc ms) pc) := ztb_ok (by
  unfold tb_J0_length_8abf5
  refine zfmc (r_aload_n h (pc := 0) (kf := 0) 0 (by decide +kernel) rfl) ?_
  refine zfmc (r_getfK h (pc := 1) (ix := 9) (by decide +kernel) (zx_strV h.ok) wk_7689980e3f) ?_
  refine zfmc (r_alenB h (pc := 4) (by decide +kernel)) ?_
  refine zfmc (r_aload_n h (pc := 5) (kf := 0) 0 (by decide +kernel) rfl) ?_
  refine zfmc (r_callK h (pc := 6) (ix := 335) (by decide +kernel) (zx_strO h.ok) 0 mcJ0_coder_7d493 wk_4f7f92cbb3 wk_294ba2fe63 wk_4b7f7b77f2 rfl) ?_
  refine zfmc (r_ishr h (pc := 9) (by decide +kernel)) ?_
  refine zfmc (r_ireturn h (pc := 10) (by decide +kernel) rfl) ?_
  exact zfm0)
def tb_J0_isLatin1_aae02 (E : ZEX) (d mc ms : Nat) : List (Nat × ZStep) := [(0, s_const (.int 1) 3), (3, s_if_eq 17 6), (6, s_aload 0 7), (7, s_getfK E 50 123 (fun _ => .int 0) 10), (10, s_if_ne 17 13), (13, s_const (.int (1)) 14), (14, s_goto 18), (17, s_const (.int (0)) 18), (18, s_zreturn)]
set_option maxRecDepth 20000 in
theorem ok_J0_isLatin1_aae02 {E : ZEX} (hY : ZEY E) {X : ZMX} {d mc ms : Nat} {P : ZPT} {T : ZTT} (h : ZCX E X MJ0_isLatin1_aae02 d mc ms P T) : ∀ pc, ZRow E X MJ0_isLatin1_aae02 mc ms P T pc (ztb (tb_J0_isLatin1_aae02 E d mc ms) pc) := ztb_ok (by
  unfold tb_J0_isLatin1_aae02
  refine zfmc (r_getstatic h (pc := 0) (ix := 38) (by decide +kernel) (.int 1) (zx_cs h.ok) wk_fb008e61d6) ?_
  refine zfmc (r_if_eq h (pc := 3) (off := 14) (by decide +kernel) 17 (by decide +kernel)) ?_
  refine zfmc (r_aload_n h (pc := 6) (kf := 0) 0 (by decide +kernel) rfl) ?_
  refine zfmc (r_getfK h (pc := 7) (ix := 15) (by decide +kernel) (zx_strC h.ok) wk_3a0fde88e8) ?_
  refine zfmc (r_if_ne h (pc := 10) (off := 7) (by decide +kernel) 17 (by decide +kernel)) ?_
  refine zfmc (r_iconst h (pc := 13) (z := 1) (by decide +kernel) (1) (by decide +kernel)) ?_
  refine zfmc (r_goto h (pc := 14) (off := 4) (by decide +kernel) 18 (by decide +kernel)) ?_
  refine zfmc (r_iconst h (pc := 17) (z := 0) (by decide +kernel) (0) (by decide +kernel)) ?_
  refine zfmc (r_zreturn h (pc := 18) (by decide +kernel) rfl) ?_
  exact zfm0)
def tb_J3_checkIndex_8e157 (E : ZEX) (d mc ms : Nat) : List (Nat × ZStep) := [(0, s_iload 0 1), (1, s_if_lt 9 4), (4, s_iload 0 5), (5, s_iload 1 6), (6, s_icmp_lt 16 9), (16, s_iload 0 17), (17, s_ireturn)]
set_option maxRecDepth 20000 in
theorem ok_J3_checkIndex_8e157 {E : ZEX} (hY : ZEY E) {X : ZMX} {d mc ms : Nat} {P : ZPT} {T : ZTT} (h : ZCX E X MJ3_checkIndex_8e157 d mc ms P T) : ∀ pc, ZRow E X MJ3_checkIndex_8e157 mc ms P T pc (ztb (tb_J3_checkIndex_8e157 E d mc ms) pc) := ztb_ok (by
  unfold tb_J3_checkIndex_8e157
  refine zfmc (r_iload_n h (pc := 0) (kf := 0) 0 (by decide +kernel) rfl) ?_
  refine zfmc (r_if_lt h (pc := 1) (off := 8) (by decide +kernel) 9 (by decide +kernel)) ?_
  refine zfmc (r_iload_n h (pc := 4) (kf := 0) 0 (by decide +kernel) rfl) ?_
  refine zfmc (r_iload_n h (pc := 5) (kf := 1) 1 (by decide +kernel) rfl) ?_
  refine zfmc (r_icmp_lt h (pc := 6) (off := 10) (by decide +kernel) 16 (by decide +kernel)) ?_
  refine zfmc (r_iload_n h (pc := 16) (kf := 0) 0 (by decide +kernel) rfl) ?_
  refine zfmc (r_ireturn h (pc := 17) (by decide +kernel) rfl) ?_
  exact zfm0)
def tb_J0_checkIndex_df160 (E : ZEX) (d mc ms : Nat) : List (Nat × ZStep) := [(0, s_iload 0 1), (1, s_iload 1 2), (2, s_anyref 5), (5, s_callS E d mc ms MJ3_checkIndex_8e157 3 8), (8, s_pop 9), (9, s_return)]
set_option maxRecDepth 20000 in
theorem ok_J0_checkIndex_df160 {E : ZEX} (hY : ZEY E) {X : ZMX} {d mc ms : Nat} {P : ZPT} {T : ZTT} (h : ZCX E X MJ0_checkIndex_df160 d mc ms P T) : ∀ pc, ZRow E X MJ0_checkIndex_df160 mc ms P T pc (ztb (tb_J0_checkIndex_df160 E d mc ms) pc) := ztb_ok (by
  unfold tb_J0_checkIndex_df160
  refine zfmc (r_iload_n h (pc := 0) (kf := 0) 0 (by decide +kernel) rfl) ?_
  refine zfmc (r_iload_n h (pc := 1) (kf := 1) 1 (by decide +kernel) rfl) ?_
  refine zfmc (r_anyref h (pc := 2) (ix := 1053) (by decide +kernel) (fun U H h9 => (hY U H h9).1) wk_0afd45deeb) ?_
  refine zfmc (r_callS h (pc := 5) (ix := 1059) (by decide +kernel) 3 mcJ3_checkIndex_8e157 wk_bd0feb3c98 wk_ec6fd7cde6) ?_
  refine zfmc (r_pop h (pc := 8) (by decide +kernel)) ?_
  refine zfmc (r_return h (pc := 9) (by decide +kernel) rfl) ?_
  exact zfm0)
def tb_J1_charAt_3b067 (E : ZEX) (d mc ms : Nat) : List (Nat × ZStep) := [(0, s_iload 1 1), (1, s_aload 0 2), (2, s_alenB E 3), (3, s_callS E d mc ms MJ0_checkIndex_df160 2 6), (6, s_aload 0 7), (7, s_iload 1 8), (8, s_baldB E 9), (9, s_const (.int (255)) 12), (12, s_iand 13), (13, s_i2c 14), (14, s_nreturn .char)]
set_option maxRecDepth 20000 in
theorem ok_J1_charAt_3b067 {E : ZEX} (hY : ZEY E) {X : ZMX} {d mc ms : Nat} {P : ZPT} {T : ZTT} (h : ZCX E X MJ1_charAt_3b067 d mc ms P T) : ∀ pc, ZRow E X MJ1_charAt_3b067 mc ms P T pc (ztb (tb_J1_charAt_3b067 E d mc ms) pc) := ztb_ok (by
  unfold tb_J1_charAt_3b067
  refine zfmc (r_iload_n h (pc := 0) (kf := 1) 1 (by decide +kernel) rfl) ?_
  refine zfmc (r_aload_n h (pc := 1) (kf := 0) 0 (by decide +kernel) rfl) ?_
  refine zfmc (r_alenB h (pc := 2) (by decide +kernel)) ?_
  refine zfmc (r_callS h (pc := 3) (ix := 9) (by decide +kernel) 2 mcJ0_checkIndex_df160 wk_c1e386224c wk_c437ea9dde) ?_
  refine zfmc (r_aload_n h (pc := 6) (kf := 0) 0 (by decide +kernel) rfl) ?_
  refine zfmc (r_iload_n h (pc := 7) (kf := 1) 1 (by decide +kernel) rfl) ?_
  refine zfmc (r_baldB h (pc := 8) (by decide +kernel)) ?_
  refine zfmc (r_sipush h (pc := 9) (z := 255) (by decide +kernel) (255) (by decide +kernel)) ?_
  refine zfmc (r_iand h (pc := 12) (by decide +kernel)) ?_
  refine zfmc (r_i2c h (pc := 13) (by decide +kernel)) ?_
  refine zfmc (r_nreturn h (pc := 14) (by decide +kernel) rfl) ?_
  exact zfm0)
def tb_J0_charAt_5068e (E : ZEX) (d mc ms : Nat) : List (Nat × ZStep) := [(0, s_aload 0 1), (1, s_callK E d mc ms 50 123 MJ0_isLatin1_aae02 0 4), (4, s_if_eq 16 7), (7, s_aload 0 8), (8, s_getfK E 50 123 (fun j => .ref (zeK E (150 + j))) 11), (11, s_iload 1 12), (12, s_callS E d mc ms MJ1_charAt_3b067 2 15), (15, s_nreturn .char)]
set_option maxRecDepth 20000 in
theorem ok_J0_charAt_5068e {E : ZEX} (hY : ZEY E) {X : ZMX} {d mc ms : Nat} {P : ZPT} {T : ZTT} (h : ZCX E X MJ0_charAt_5068e d mc ms P T) : ∀ pc, ZRow E X MJ0_charAt_5068e mc ms P T pc (ztb (tb_J0_charAt_5068e E d mc ms) pc) := ztb_ok (by
  unfold tb_J0_charAt_5068e
  refine zfmc (r_aload_n h (pc := 0) (kf := 0) 0 (by decide +kernel) rfl) ?_
  refine zfmc (r_callK h (pc := 1) (ix := 492) (by decide +kernel) (zx_strO h.ok) 0 mcJ0_isLatin1_aae02 wk_d1b7ecc7ea wk_6522b2be5c wk_d2f0da8006 rfl) ?_
  refine zfmc (r_if_eq h (pc := 4) (off := 12) (by decide +kernel) 16 (by decide +kernel)) ?_
  refine zfmc (r_aload_n h (pc := 7) (kf := 0) 0 (by decide +kernel) rfl) ?_
  refine zfmc (r_getfK h (pc := 8) (ix := 9) (by decide +kernel) (zx_strV h.ok) wk_7689980e3f) ?_
  refine zfmc (r_iload_n h (pc := 11) (kf := 1) 1 (by decide +kernel) rfl) ?_
  refine zfmc (r_callS h (pc := 12) (ix := 495) (by decide +kernel) 2 mcJ1_charAt_3b067 wk_4691bf636b wk_86c7d9d0e7) ?_
  refine zfmc (r_nreturn h (pc := 15) (by decide +kernel) rfl) ?_
  exact zfm0)
def tb_J1_canEncode_9a6ad (E : ZEX) (d mc ms : Nat) : List (Nat × ZStep) := [(0, s_iload 0 1), (1, s_if_lt 15 4), (4, s_iload 0 5), (5, s_const (.int (255)) 8), (8, s_icmp_gt 15 11), (11, s_const (.int (1)) 12), (12, s_goto 16), (15, s_const (.int (0)) 16), (16, s_zreturn)]
set_option maxRecDepth 20000 in
theorem ok_J1_canEncode_9a6ad {E : ZEX} (hY : ZEY E) {X : ZMX} {d mc ms : Nat} {P : ZPT} {T : ZTT} (h : ZCX E X MJ1_canEncode_9a6ad d mc ms P T) : ∀ pc, ZRow E X MJ1_canEncode_9a6ad mc ms P T pc (ztb (tb_J1_canEncode_9a6ad E d mc ms) pc) := ztb_ok (by
  unfold tb_J1_canEncode_9a6ad
  refine zfmc (r_iload_n h (pc := 0) (kf := 0) 0 (by decide +kernel) rfl) ?_
  refine zfmc (r_if_lt h (pc := 1) (off := 14) (by decide +kernel) 15 (by decide +kernel)) ?_
  refine zfmc (r_iload_n h (pc := 4) (kf := 0) 0 (by decide +kernel) rfl) ?_
  refine zfmc (r_sipush h (pc := 5) (z := 255) (by decide +kernel) (255) (by decide +kernel)) ?_
  refine zfmc (r_icmp_gt h (pc := 8) (off := 7) (by decide +kernel) 15 (by decide +kernel)) ?_
  refine zfmc (r_iconst h (pc := 11) (z := 1) (by decide +kernel) (1) (by decide +kernel)) ?_
  refine zfmc (r_goto h (pc := 12) (off := 4) (by decide +kernel) 16 (by decide +kernel)) ?_
  refine zfmc (r_iconst h (pc := 15) (z := 0) (by decide +kernel) (0) (by decide +kernel)) ?_
  refine zfmc (r_zreturn h (pc := 16) (by decide +kernel) rfl) ?_
  exact zfm0)
def tb_J1_indexOfChar_4cfef (E : ZEX) (d mc ms : Nat) : List (Nat × ZStep) := [(0, s_iload 1 1), (1, s_i2b 2), (2, s_istore 4 4), (4, s_iload 2 5), (5, s_istore 5 7), (7, s_iload 5 9), (9, s_iload 3 10), (10, s_icmp_ge 31 13), (13, s_aload 0 14), (14, s_iload 5 16), (16, s_baldB E 17), (17, s_iload 4 19), (19, s_icmp_ne 25 22), (22, s_iload 5 24), (24, s_ireturn), (25, s_iinc 5 (1) 28), (28, s_goto 7), (31, s_const (.int (-1)) 32), (32, s_ireturn)]
set_option maxRecDepth 20000 in
theorem ok_J1_indexOfChar_4cfef {E : ZEX} (hY : ZEY E) {X : ZMX} {d mc ms : Nat} {P : ZPT} {T : ZTT} (h : ZCX E X MJ1_indexOfChar_4cfef d mc ms P T) : ∀ pc, ZRow E X MJ1_indexOfChar_4cfef mc ms P T pc (ztb (tb_J1_indexOfChar_4cfef E d mc ms) pc) := ztb_ok (by
  unfold tb_J1_indexOfChar_4cfef
  refine zfmc (r_iload_n h (pc := 0) (kf := 1) 1 (by decide +kernel) rfl) ?_
  refine zfmc (r_i2b h (pc := 1) (by decide +kernel)) ?_
  refine zfmc (r_istore h (pc := 2) 4 (by decide +kernel) (by decide +kernel)) ?_
  refine zfmc (r_iload_n h (pc := 4) (kf := 2) 2 (by decide +kernel) rfl) ?_
  refine zfmc (r_istore h (pc := 5) 5 (by decide +kernel) (by decide +kernel)) ?_
  refine zfmc (r_iload h (pc := 7) 5 (by decide +kernel)) ?_
  refine zfmc (r_iload_n h (pc := 9) (kf := 3) 3 (by decide +kernel) rfl) ?_
  refine zfmc (r_icmp_ge h (pc := 10) (off := 21) (by decide +kernel) 31 (by decide +kernel)) ?_
  refine zfmc (r_aload_n h (pc := 13) (kf := 0) 0 (by decide +kernel) rfl) ?_
  refine zfmc (r_iload h (pc := 14) 5 (by decide +kernel)) ?_
  refine zfmc (r_baldB h (pc := 16) (by decide +kernel)) ?_
  refine zfmc (r_iload h (pc := 17) 4 (by decide +kernel)) ?_
  refine zfmc (r_icmp_ne h (pc := 19) (off := 6) (by decide +kernel) 25 (by decide +kernel)) ?_
  refine zfmc (r_iload h (pc := 22) 5 (by decide +kernel)) ?_
  refine zfmc (r_ireturn h (pc := 24) (by decide +kernel) rfl) ?_
  refine zfmc (r_iinc h (pc := 25) 5 (z := 1) (by decide +kernel) (1) (by decide +kernel) (by decide +kernel)) ?_
  refine zfmc (r_goto h (pc := 28) (off := -21) (by decide +kernel) 7 (by decide +kernel)) ?_
  refine zfmc (r_iconst h (pc := 31) (z := -1) (by decide +kernel) (-1) (by decide +kernel)) ?_
  refine zfmc (r_ireturn h (pc := 32) (by decide +kernel) rfl) ?_
  exact zfm0)
def tb_J1_indexOf_4cfef (E : ZEX) (d mc ms : Nat) : List (Nat × ZStep) := [(0, s_iload 1 1), (1, s_callS E d mc ms MJ1_canEncode_9a6ad 1 4), (4, s_if_ne 9 7), (7, s_const (.int (-1)) 8), (8, s_ireturn), (9, s_iload 2 10), (10, s_const (.int (0)) 11), (11, s_mmax d mc ms 14), (14, s_istore 2 15), (15, s_iload 3 16), (16, s_aload 0 17), (17, s_alenB E 18), (18, s_mmin d mc ms 21), (21, s_istore 3 22), (22, s_iload 2 23), (23, s_iload 3 24), (24, s_icmp_lt 29 27), (27, s_const (.int (-1)) 28), (28, s_ireturn), (29, s_aload 0 30), (30, s_iload 1 31), (31, s_iload 2 32), (32, s_iload 3 33), (33, s_callS E d mc ms MJ1_indexOfChar_4cfef 4 36), (36, s_ireturn)]
set_option maxRecDepth 20000 in
theorem ok_J1_indexOf_4cfef {E : ZEX} (hY : ZEY E) {X : ZMX} {d mc ms : Nat} {P : ZPT} {T : ZTT} (h : ZCX E X MJ1_indexOf_4cfef d mc ms P T) : ∀ pc, ZRow E X MJ1_indexOf_4cfef mc ms P T pc (ztb (tb_J1_indexOf_4cfef E d mc ms) pc) := ztb_ok (by
  unfold tb_J1_indexOf_4cfef
  refine zfmc (r_iload_n h (pc := 0) (kf := 1) 1 (by decide +kernel) rfl) ?_
  refine zfmc (r_callS h (pc := 1) (ix := 88) (by decide +kernel) 1 mcJ1_canEncode_9a6ad wk_451653e57f wk_90ebfc2fd1) ?_
  refine zfmc (r_if_ne h (pc := 4) (off := 5) (by decide +kernel) 9 (by decide +kernel)) ?_
  refine zfmc (r_iconst h (pc := 7) (z := -1) (by decide +kernel) (-1) (by decide +kernel)) ?_
  refine zfmc (r_ireturn h (pc := 8) (by decide +kernel) rfl) ?_
  refine zfmc (r_iload_n h (pc := 9) (kf := 2) 2 (by decide +kernel) rfl) ?_
  refine zfmc (r_iconst h (pc := 10) (z := 0) (by decide +kernel) (0) (by decide +kernel)) ?_
  refine zfmc (r_mmax h (pc := 11) (ix := 92) (by decide +kernel) wk_ae18c3398a wk_a84ac99c0d wk_a21f4ed447 wk_35712895b6) ?_
  refine zfmc (r_istore_n h (pc := 14) (kf := 2) 2 (by decide +kernel) rfl (by decide +kernel)) ?_
  refine zfmc (r_iload_n h (pc := 15) (kf := 3) 3 (by decide +kernel) rfl) ?_
  refine zfmc (r_aload_n h (pc := 16) (kf := 0) 0 (by decide +kernel) rfl) ?_
  refine zfmc (r_alenB h (pc := 17) (by decide +kernel)) ?_
  refine zfmc (r_mmin h (pc := 18) (ix := 38) (by decide +kernel) wk_718c4aea27 wk_94a2aa520f wk_a21f4ed447 wk_eb9f31f5a8) ?_
  refine zfmc (r_istore_n h (pc := 21) (kf := 3) 3 (by decide +kernel) rfl (by decide +kernel)) ?_
  refine zfmc (r_iload_n h (pc := 22) (kf := 2) 2 (by decide +kernel) rfl) ?_
  refine zfmc (r_iload_n h (pc := 23) (kf := 3) 3 (by decide +kernel) rfl) ?_
  refine zfmc (r_icmp_lt h (pc := 24) (off := 5) (by decide +kernel) 29 (by decide +kernel)) ?_
  refine zfmc (r_iconst h (pc := 27) (z := -1) (by decide +kernel) (-1) (by decide +kernel)) ?_
  refine zfmc (r_ireturn h (pc := 28) (by decide +kernel) rfl) ?_
  refine zfmc (r_aload_n h (pc := 29) (kf := 0) 0 (by decide +kernel) rfl) ?_
  refine zfmc (r_iload_n h (pc := 30) (kf := 1) 1 (by decide +kernel) rfl) ?_
  refine zfmc (r_iload_n h (pc := 31) (kf := 2) 2 (by decide +kernel) rfl) ?_
  refine zfmc (r_iload_n h (pc := 32) (kf := 3) 3 (by decide +kernel) rfl) ?_
  refine zfmc (r_callS h (pc := 33) (ix := 95) (by decide +kernel) 4 mcJ1_indexOfChar_4cfef wk_f85a7ed2a9 wk_d9106a4713) ?_
  refine zfmc (r_ireturn h (pc := 36) (by decide +kernel) rfl) ?_
  exact zfm0)
def tb_J0_indexOf_7cf53 (E : ZEX) (d mc ms : Nat) : List (Nat × ZStep) := [(0, s_aload 0 1), (1, s_callK E d mc ms 50 123 MJ0_isLatin1_aae02 0 4), (4, s_if_eq 23 7), (7, s_aload 0 8), (8, s_getfK E 50 123 (fun j => .ref (zeK E (150 + j))) 11), (11, s_iload 1 12), (12, s_iload 2 13), (13, s_aload 0 14), (14, s_callK E d mc ms 50 123 MJ0_length_8abf5 0 17), (17, s_callS E d mc ms MJ1_indexOf_4cfef 4 20), (20, s_goto 36), (36, s_ireturn)]
set_option maxRecDepth 20000 in
theorem ok_J0_indexOf_7cf53 {E : ZEX} (hY : ZEY E) {X : ZMX} {d mc ms : Nat} {P : ZPT} {T : ZTT} (h : ZCX E X MJ0_indexOf_7cf53 d mc ms P T) : ∀ pc, ZRow E X MJ0_indexOf_7cf53 mc ms P T pc (ztb (tb_J0_indexOf_7cf53 E d mc ms) pc) := ztb_ok (by
  unfold tb_J0_indexOf_7cf53
  refine zfmc (r_aload_n h (pc := 0) (kf := 0) 0 (by decide +kernel) rfl) ?_
  refine zfmc (r_callK h (pc := 1) (ix := 492) (by decide +kernel) (zx_strO h.ok) 0 mcJ0_isLatin1_aae02 wk_d1b7ecc7ea wk_6522b2be5c wk_d2f0da8006 rfl) ?_
  refine zfmc (r_if_eq h (pc := 4) (off := 19) (by decide +kernel) 23 (by decide +kernel)) ?_
  refine zfmc (r_aload_n h (pc := 7) (kf := 0) 0 (by decide +kernel) rfl) ?_
  refine zfmc (r_getfK h (pc := 8) (ix := 9) (by decide +kernel) (zx_strV h.ok) wk_7689980e3f) ?_
  refine zfmc (r_iload_n h (pc := 11) (kf := 1) 1 (by decide +kernel) rfl) ?_
  refine zfmc (r_iload_n h (pc := 12) (kf := 2) 2 (by decide +kernel) rfl) ?_
  refine zfmc (r_aload_n h (pc := 13) (kf := 0) 0 (by decide +kernel) rfl) ?_
  refine zfmc (r_callK h (pc := 14) (ix := 505) (by decide +kernel) (zx_strO h.ok) 0 mcJ0_length_8abf5 wk_619519f581 wk_6d64999b93 wk_0dc8280577 rfl) ?_
  refine zfmc (r_callS h (pc := 17) (ix := 637) (by decide +kernel) 4 mcJ1_indexOf_4cfef wk_9f30d46bcd wk_52f8118a6d) ?_
  refine zfmc (r_goto h (pc := 20) (off := 16) (by decide +kernel) 36 (by decide +kernel)) ?_
  refine zfmc (r_ireturn h (pc := 36) (by decide +kernel) rfl) ?_
  exact zfm0)
def tb_J0_indexOf_0f7a4 (E : ZEX) (d mc ms : Nat) : List (Nat × ZStep) := [(0, s_aload 0 1), (1, s_iload 1 2), (2, s_const (.int (0)) 3), (3, s_callK E d mc ms 50 123 MJ0_indexOf_7cf53 2 6), (6, s_ireturn)]
set_option maxRecDepth 20000 in
theorem ok_J0_indexOf_0f7a4 {E : ZEX} (hY : ZEY E) {X : ZMX} {d mc ms : Nat} {P : ZPT} {T : ZTT} (h : ZCX E X MJ0_indexOf_0f7a4 d mc ms P T) : ∀ pc, ZRow E X MJ0_indexOf_0f7a4 mc ms P T pc (ztb (tb_J0_indexOf_0f7a4 E d mc ms) pc) := ztb_ok (by
  unfold tb_J0_indexOf_0f7a4
  refine zfmc (r_aload_n h (pc := 0) (kf := 0) 0 (by decide +kernel) rfl) ?_
  refine zfmc (r_iload_n h (pc := 1) (kf := 1) 1 (by decide +kernel) rfl) ?_
  refine zfmc (r_iconst h (pc := 2) (z := 0) (by decide +kernel) (0) (by decide +kernel)) ?_
  refine zfmc (r_callK h (pc := 3) (ix := 633) (by decide +kernel) (zx_strO h.ok) 2 mcJ0_indexOf_7cf53 wk_07dedd3a51 wk_b9b86690b6 wk_48ae069f2a rfl) ?_
  refine zfmc (r_ireturn h (pc := 6) (by decide +kernel) rfl) ?_
  exact zfm0)
section
variable {E : ZEX} {d mc ms : Nat} {cut : Nat → Bool} {G : ZCont} {R : ZRtn} {T : ZTT} {Z : Nat → ZCont}
theorem f_J0_coder_7d493_0 (hZ : ZRN (ztb (tb_J0_coder_7d493 E d mc ms)) cut G R T Z) (f : Nat) (L : ZLV) (st : List Value) (σ : ZHp) (n k w : Nat) : Z (f + 1) 0 L st σ n k w = s_const (.int 1) 3 L st σ n k w (zk1 cut G (Z f)) G R T := zrs hZ rfl f L st σ n k w
theorem f_J0_coder_7d493_3 (hZ : ZRN (ztb (tb_J0_coder_7d493 E d mc ms)) cut G R T Z) (f : Nat) (L : ZLV) (st : List Value) (σ : ZHp) (n k w : Nat) : Z (f + 1) 3 L st σ n k w = s_if_eq 13 6 L st σ n k w (zk1 cut G (Z f)) G R T := zrs hZ rfl f L st σ n k w
theorem f_J0_coder_7d493_6 (hZ : ZRN (ztb (tb_J0_coder_7d493 E d mc ms)) cut G R T Z) (f : Nat) (L : ZLV) (st : List Value) (σ : ZHp) (n k w : Nat) : Z (f + 1) 6 L st σ n k w = s_aload 0 7 L st σ n k w (zk1 cut G (Z f)) G R T := zrs hZ rfl f L st σ n k w
theorem f_J0_coder_7d493_7 (hZ : ZRN (ztb (tb_J0_coder_7d493 E d mc ms)) cut G R T Z) (f : Nat) (L : ZLV) (st : List Value) (σ : ZHp) (n k w : Nat) : Z (f + 1) 7 L st σ n k w = s_getfK E 50 123 (fun _ => .int 0) 10 L st σ n k w (zk1 cut G (Z f)) G R T := zrs hZ rfl f L st σ n k w
theorem f_J0_coder_7d493_10 (hZ : ZRN (ztb (tb_J0_coder_7d493 E d mc ms)) cut G R T Z) (f : Nat) (L : ZLV) (st : List Value) (σ : ZHp) (n k w : Nat) : Z (f + 1) 10 L st σ n k w = s_goto 14 L st σ n k w (zk1 cut G (Z f)) G R T := zrs hZ rfl f L st σ n k w
theorem f_J0_coder_7d493_13 (hZ : ZRN (ztb (tb_J0_coder_7d493 E d mc ms)) cut G R T Z) (f : Nat) (L : ZLV) (st : List Value) (σ : ZHp) (n k w : Nat) : Z (f + 1) 13 L st σ n k w = s_const (.int (1)) 14 L st σ n k w (zk1 cut G (Z f)) G R T := zrs hZ rfl f L st σ n k w
theorem f_J0_coder_7d493_14 (hZ : ZRN (ztb (tb_J0_coder_7d493 E d mc ms)) cut G R T Z) (f : Nat) (L : ZLV) (st : List Value) (σ : ZHp) (n k w : Nat) : Z (f + 1) 14 L st σ n k w = s_nreturn .byte L st σ n k w (zk1 cut G (Z f)) G R T := zrs hZ rfl f L st σ n k w
theorem f_J0_length_8abf5_0 (hZ : ZRN (ztb (tb_J0_length_8abf5 E d mc ms)) cut G R T Z) (f : Nat) (L : ZLV) (st : List Value) (σ : ZHp) (n k w : Nat) : Z (f + 1) 0 L st σ n k w = s_aload 0 1 L st σ n k w (zk1 cut G (Z f)) G R T := zrs hZ rfl f L st σ n k w
theorem f_J0_length_8abf5_1 (hZ : ZRN (ztb (tb_J0_length_8abf5 E d mc ms)) cut G R T Z) (f : Nat) (L : ZLV) (st : List Value) (σ : ZHp) (n k w : Nat) : Z (f + 1) 1 L st σ n k w = s_getfK E 50 123 (fun j => .ref (zeK E (150 + j))) 4 L st σ n k w (zk1 cut G (Z f)) G R T := zrs hZ rfl f L st σ n k w
theorem f_J0_length_8abf5_4 (hZ : ZRN (ztb (tb_J0_length_8abf5 E d mc ms)) cut G R T Z) (f : Nat) (L : ZLV) (st : List Value) (σ : ZHp) (n k w : Nat) : Z (f + 1) 4 L st σ n k w = s_alenB E 5 L st σ n k w (zk1 cut G (Z f)) G R T := zrs hZ rfl f L st σ n k w
theorem f_J0_length_8abf5_5 (hZ : ZRN (ztb (tb_J0_length_8abf5 E d mc ms)) cut G R T Z) (f : Nat) (L : ZLV) (st : List Value) (σ : ZHp) (n k w : Nat) : Z (f + 1) 5 L st σ n k w = s_aload 0 6 L st σ n k w (zk1 cut G (Z f)) G R T := zrs hZ rfl f L st σ n k w
theorem f_J0_length_8abf5_6 (hZ : ZRN (ztb (tb_J0_length_8abf5 E d mc ms)) cut G R T Z) (f : Nat) (L : ZLV) (st : List Value) (σ : ZHp) (n k w : Nat) : Z (f + 1) 6 L st σ n k w = s_callK E d mc ms 50 123 MJ0_coder_7d493 0 9 L st σ n k w (zk1 cut G (Z f)) G R T := zrs hZ rfl f L st σ n k w
theorem f_J0_length_8abf5_9 (hZ : ZRN (ztb (tb_J0_length_8abf5 E d mc ms)) cut G R T Z) (f : Nat) (L : ZLV) (st : List Value) (σ : ZHp) (n k w : Nat) : Z (f + 1) 9 L st σ n k w = s_ishr 10 L st σ n k w (zk1 cut G (Z f)) G R T := zrs hZ rfl f L st σ n k w
theorem f_J0_length_8abf5_10 (hZ : ZRN (ztb (tb_J0_length_8abf5 E d mc ms)) cut G R T Z) (f : Nat) (L : ZLV) (st : List Value) (σ : ZHp) (n k w : Nat) : Z (f + 1) 10 L st σ n k w = s_ireturn L st σ n k w (zk1 cut G (Z f)) G R T := zrs hZ rfl f L st σ n k w
theorem f_J0_isLatin1_aae02_0 (hZ : ZRN (ztb (tb_J0_isLatin1_aae02 E d mc ms)) cut G R T Z) (f : Nat) (L : ZLV) (st : List Value) (σ : ZHp) (n k w : Nat) : Z (f + 1) 0 L st σ n k w = s_const (.int 1) 3 L st σ n k w (zk1 cut G (Z f)) G R T := zrs hZ rfl f L st σ n k w
theorem f_J0_isLatin1_aae02_3 (hZ : ZRN (ztb (tb_J0_isLatin1_aae02 E d mc ms)) cut G R T Z) (f : Nat) (L : ZLV) (st : List Value) (σ : ZHp) (n k w : Nat) : Z (f + 1) 3 L st σ n k w = s_if_eq 17 6 L st σ n k w (zk1 cut G (Z f)) G R T := zrs hZ rfl f L st σ n k w
theorem f_J0_isLatin1_aae02_6 (hZ : ZRN (ztb (tb_J0_isLatin1_aae02 E d mc ms)) cut G R T Z) (f : Nat) (L : ZLV) (st : List Value) (σ : ZHp) (n k w : Nat) : Z (f + 1) 6 L st σ n k w = s_aload 0 7 L st σ n k w (zk1 cut G (Z f)) G R T := zrs hZ rfl f L st σ n k w
theorem f_J0_isLatin1_aae02_7 (hZ : ZRN (ztb (tb_J0_isLatin1_aae02 E d mc ms)) cut G R T Z) (f : Nat) (L : ZLV) (st : List Value) (σ : ZHp) (n k w : Nat) : Z (f + 1) 7 L st σ n k w = s_getfK E 50 123 (fun _ => .int 0) 10 L st σ n k w (zk1 cut G (Z f)) G R T := zrs hZ rfl f L st σ n k w
theorem f_J0_isLatin1_aae02_10 (hZ : ZRN (ztb (tb_J0_isLatin1_aae02 E d mc ms)) cut G R T Z) (f : Nat) (L : ZLV) (st : List Value) (σ : ZHp) (n k w : Nat) : Z (f + 1) 10 L st σ n k w = s_if_ne 17 13 L st σ n k w (zk1 cut G (Z f)) G R T := zrs hZ rfl f L st σ n k w
theorem f_J0_isLatin1_aae02_13 (hZ : ZRN (ztb (tb_J0_isLatin1_aae02 E d mc ms)) cut G R T Z) (f : Nat) (L : ZLV) (st : List Value) (σ : ZHp) (n k w : Nat) : Z (f + 1) 13 L st σ n k w = s_const (.int (1)) 14 L st σ n k w (zk1 cut G (Z f)) G R T := zrs hZ rfl f L st σ n k w
theorem f_J0_isLatin1_aae02_14 (hZ : ZRN (ztb (tb_J0_isLatin1_aae02 E d mc ms)) cut G R T Z) (f : Nat) (L : ZLV) (st : List Value) (σ : ZHp) (n k w : Nat) : Z (f + 1) 14 L st σ n k w = s_goto 18 L st σ n k w (zk1 cut G (Z f)) G R T := zrs hZ rfl f L st σ n k w
theorem f_J0_isLatin1_aae02_17 (hZ : ZRN (ztb (tb_J0_isLatin1_aae02 E d mc ms)) cut G R T Z) (f : Nat) (L : ZLV) (st : List Value) (σ : ZHp) (n k w : Nat) : Z (f + 1) 17 L st σ n k w = s_const (.int (0)) 18 L st σ n k w (zk1 cut G (Z f)) G R T := zrs hZ rfl f L st σ n k w
theorem f_J0_isLatin1_aae02_18 (hZ : ZRN (ztb (tb_J0_isLatin1_aae02 E d mc ms)) cut G R T Z) (f : Nat) (L : ZLV) (st : List Value) (σ : ZHp) (n k w : Nat) : Z (f + 1) 18 L st σ n k w = s_zreturn L st σ n k w (zk1 cut G (Z f)) G R T := zrs hZ rfl f L st σ n k w
theorem f_J3_checkIndex_8e157_0 (hZ : ZRN (ztb (tb_J3_checkIndex_8e157 E d mc ms)) cut G R T Z) (f : Nat) (L : ZLV) (st : List Value) (σ : ZHp) (n k w : Nat) : Z (f + 1) 0 L st σ n k w = s_iload 0 1 L st σ n k w (zk1 cut G (Z f)) G R T := zrs hZ rfl f L st σ n k w
theorem f_J3_checkIndex_8e157_1 (hZ : ZRN (ztb (tb_J3_checkIndex_8e157 E d mc ms)) cut G R T Z) (f : Nat) (L : ZLV) (st : List Value) (σ : ZHp) (n k w : Nat) : Z (f + 1) 1 L st σ n k w = s_if_lt 9 4 L st σ n k w (zk1 cut G (Z f)) G R T := zrs hZ rfl f L st σ n k w
theorem f_J3_checkIndex_8e157_4 (hZ : ZRN (ztb (tb_J3_checkIndex_8e157 E d mc ms)) cut G R T Z) (f : Nat) (L : ZLV) (st : List Value) (σ : ZHp) (n k w : Nat) : Z (f + 1) 4 L st σ n k w = s_iload 0 5 L st σ n k w (zk1 cut G (Z f)) G R T := zrs hZ rfl f L st σ n k w
theorem f_J3_checkIndex_8e157_5 (hZ : ZRN (ztb (tb_J3_checkIndex_8e157 E d mc ms)) cut G R T Z) (f : Nat) (L : ZLV) (st : List Value) (σ : ZHp) (n k w : Nat) : Z (f + 1) 5 L st σ n k w = s_iload 1 6 L st σ n k w (zk1 cut G (Z f)) G R T := zrs hZ rfl f L st σ n k w
theorem f_J3_checkIndex_8e157_6 (hZ : ZRN (ztb (tb_J3_checkIndex_8e157 E d mc ms)) cut G R T Z) (f : Nat) (L : ZLV) (st : List Value) (σ : ZHp) (n k w : Nat) : Z (f + 1) 6 L st σ n k w = s_icmp_lt 16 9 L st σ n k w (zk1 cut G (Z f)) G R T := zrs hZ rfl f L st σ n k w
theorem f_J3_checkIndex_8e157_16 (hZ : ZRN (ztb (tb_J3_checkIndex_8e157 E d mc ms)) cut G R T Z) (f : Nat) (L : ZLV) (st : List Value) (σ : ZHp) (n k w : Nat) : Z (f + 1) 16 L st σ n k w = s_iload 0 17 L st σ n k w (zk1 cut G (Z f)) G R T := zrs hZ rfl f L st σ n k w
theorem f_J3_checkIndex_8e157_17 (hZ : ZRN (ztb (tb_J3_checkIndex_8e157 E d mc ms)) cut G R T Z) (f : Nat) (L : ZLV) (st : List Value) (σ : ZHp) (n k w : Nat) : Z (f + 1) 17 L st σ n k w = s_ireturn L st σ n k w (zk1 cut G (Z f)) G R T := zrs hZ rfl f L st σ n k w
theorem f_J0_checkIndex_df160_0 (hZ : ZRN (ztb (tb_J0_checkIndex_df160 E d mc ms)) cut G R T Z) (f : Nat) (L : ZLV) (st : List Value) (σ : ZHp) (n k w : Nat) : Z (f + 1) 0 L st σ n k w = s_iload 0 1 L st σ n k w (zk1 cut G (Z f)) G R T := zrs hZ rfl f L st σ n k w
theorem f_J0_checkIndex_df160_1 (hZ : ZRN (ztb (tb_J0_checkIndex_df160 E d mc ms)) cut G R T Z) (f : Nat) (L : ZLV) (st : List Value) (σ : ZHp) (n k w : Nat) : Z (f + 1) 1 L st σ n k w = s_iload 1 2 L st σ n k w (zk1 cut G (Z f)) G R T := zrs hZ rfl f L st σ n k w
theorem f_J0_checkIndex_df160_2 (hZ : ZRN (ztb (tb_J0_checkIndex_df160 E d mc ms)) cut G R T Z) (f : Nat) (L : ZLV) (st : List Value) (σ : ZHp) (n k w : Nat) : Z (f + 1) 2 L st σ n k w = s_anyref 5 L st σ n k w (zk1 cut G (Z f)) G R T := zrs hZ rfl f L st σ n k w
theorem f_J0_checkIndex_df160_5 (hZ : ZRN (ztb (tb_J0_checkIndex_df160 E d mc ms)) cut G R T Z) (f : Nat) (L : ZLV) (st : List Value) (σ : ZHp) (n k w : Nat) : Z (f + 1) 5 L st σ n k w = s_callS E d mc ms MJ3_checkIndex_8e157 3 8 L st σ n k w (zk1 cut G (Z f)) G R T := zrs hZ rfl f L st σ n k w
theorem f_J0_checkIndex_df160_8 (hZ : ZRN (ztb (tb_J0_checkIndex_df160 E d mc ms)) cut G R T Z) (f : Nat) (L : ZLV) (st : List Value) (σ : ZHp) (n k w : Nat) : Z (f + 1) 8 L st σ n k w = s_pop 9 L st σ n k w (zk1 cut G (Z f)) G R T := zrs hZ rfl f L st σ n k w
theorem f_J0_checkIndex_df160_9 (hZ : ZRN (ztb (tb_J0_checkIndex_df160 E d mc ms)) cut G R T Z) (f : Nat) (L : ZLV) (st : List Value) (σ : ZHp) (n k w : Nat) : Z (f + 1) 9 L st σ n k w = s_return L st σ n k w (zk1 cut G (Z f)) G R T := zrs hZ rfl f L st σ n k w
theorem f_J1_charAt_3b067_0 (hZ : ZRN (ztb (tb_J1_charAt_3b067 E d mc ms)) cut G R T Z) (f : Nat) (L : ZLV) (st : List Value) (σ : ZHp) (n k w : Nat) : Z (f + 1) 0 L st σ n k w = s_iload 1 1 L st σ n k w (zk1 cut G (Z f)) G R T := zrs hZ rfl f L st σ n k w
theorem f_J1_charAt_3b067_1 (hZ : ZRN (ztb (tb_J1_charAt_3b067 E d mc ms)) cut G R T Z) (f : Nat) (L : ZLV) (st : List Value) (σ : ZHp) (n k w : Nat) : Z (f + 1) 1 L st σ n k w = s_aload 0 2 L st σ n k w (zk1 cut G (Z f)) G R T := zrs hZ rfl f L st σ n k w
theorem f_J1_charAt_3b067_2 (hZ : ZRN (ztb (tb_J1_charAt_3b067 E d mc ms)) cut G R T Z) (f : Nat) (L : ZLV) (st : List Value) (σ : ZHp) (n k w : Nat) : Z (f + 1) 2 L st σ n k w = s_alenB E 3 L st σ n k w (zk1 cut G (Z f)) G R T := zrs hZ rfl f L st σ n k w
theorem f_J1_charAt_3b067_3 (hZ : ZRN (ztb (tb_J1_charAt_3b067 E d mc ms)) cut G R T Z) (f : Nat) (L : ZLV) (st : List Value) (σ : ZHp) (n k w : Nat) : Z (f + 1) 3 L st σ n k w = s_callS E d mc ms MJ0_checkIndex_df160 2 6 L st σ n k w (zk1 cut G (Z f)) G R T := zrs hZ rfl f L st σ n k w
theorem f_J1_charAt_3b067_6 (hZ : ZRN (ztb (tb_J1_charAt_3b067 E d mc ms)) cut G R T Z) (f : Nat) (L : ZLV) (st : List Value) (σ : ZHp) (n k w : Nat) : Z (f + 1) 6 L st σ n k w = s_aload 0 7 L st σ n k w (zk1 cut G (Z f)) G R T := zrs hZ rfl f L st σ n k w
theorem f_J1_charAt_3b067_7 (hZ : ZRN (ztb (tb_J1_charAt_3b067 E d mc ms)) cut G R T Z) (f : Nat) (L : ZLV) (st : List Value) (σ : ZHp) (n k w : Nat) : Z (f + 1) 7 L st σ n k w = s_iload 1 8 L st σ n k w (zk1 cut G (Z f)) G R T := zrs hZ rfl f L st σ n k w
theorem f_J1_charAt_3b067_8 (hZ : ZRN (ztb (tb_J1_charAt_3b067 E d mc ms)) cut G R T Z) (f : Nat) (L : ZLV) (st : List Value) (σ : ZHp) (n k w : Nat) : Z (f + 1) 8 L st σ n k w = s_baldB E 9 L st σ n k w (zk1 cut G (Z f)) G R T := zrs hZ rfl f L st σ n k w
theorem f_J1_charAt_3b067_9 (hZ : ZRN (ztb (tb_J1_charAt_3b067 E d mc ms)) cut G R T Z) (f : Nat) (L : ZLV) (st : List Value) (σ : ZHp) (n k w : Nat) : Z (f + 1) 9 L st σ n k w = s_const (.int (255)) 12 L st σ n k w (zk1 cut G (Z f)) G R T := zrs hZ rfl f L st σ n k w
theorem f_J1_charAt_3b067_12 (hZ : ZRN (ztb (tb_J1_charAt_3b067 E d mc ms)) cut G R T Z) (f : Nat) (L : ZLV) (st : List Value) (σ : ZHp) (n k w : Nat) : Z (f + 1) 12 L st σ n k w = s_iand 13 L st σ n k w (zk1 cut G (Z f)) G R T := zrs hZ rfl f L st σ n k w
theorem f_J1_charAt_3b067_13 (hZ : ZRN (ztb (tb_J1_charAt_3b067 E d mc ms)) cut G R T Z) (f : Nat) (L : ZLV) (st : List Value) (σ : ZHp) (n k w : Nat) : Z (f + 1) 13 L st σ n k w = s_i2c 14 L st σ n k w (zk1 cut G (Z f)) G R T := zrs hZ rfl f L st σ n k w
theorem f_J1_charAt_3b067_14 (hZ : ZRN (ztb (tb_J1_charAt_3b067 E d mc ms)) cut G R T Z) (f : Nat) (L : ZLV) (st : List Value) (σ : ZHp) (n k w : Nat) : Z (f + 1) 14 L st σ n k w = s_nreturn .char L st σ n k w (zk1 cut G (Z f)) G R T := zrs hZ rfl f L st σ n k w
theorem f_J0_charAt_5068e_0 (hZ : ZRN (ztb (tb_J0_charAt_5068e E d mc ms)) cut G R T Z) (f : Nat) (L : ZLV) (st : List Value) (σ : ZHp) (n k w : Nat) : Z (f + 1) 0 L st σ n k w = s_aload 0 1 L st σ n k w (zk1 cut G (Z f)) G R T := zrs hZ rfl f L st σ n k w
theorem f_J0_charAt_5068e_1 (hZ : ZRN (ztb (tb_J0_charAt_5068e E d mc ms)) cut G R T Z) (f : Nat) (L : ZLV) (st : List Value) (σ : ZHp) (n k w : Nat) : Z (f + 1) 1 L st σ n k w = s_callK E d mc ms 50 123 MJ0_isLatin1_aae02 0 4 L st σ n k w (zk1 cut G (Z f)) G R T := zrs hZ rfl f L st σ n k w
theorem f_J0_charAt_5068e_4 (hZ : ZRN (ztb (tb_J0_charAt_5068e E d mc ms)) cut G R T Z) (f : Nat) (L : ZLV) (st : List Value) (σ : ZHp) (n k w : Nat) : Z (f + 1) 4 L st σ n k w = s_if_eq 16 7 L st σ n k w (zk1 cut G (Z f)) G R T := zrs hZ rfl f L st σ n k w
theorem f_J0_charAt_5068e_7 (hZ : ZRN (ztb (tb_J0_charAt_5068e E d mc ms)) cut G R T Z) (f : Nat) (L : ZLV) (st : List Value) (σ : ZHp) (n k w : Nat) : Z (f + 1) 7 L st σ n k w = s_aload 0 8 L st σ n k w (zk1 cut G (Z f)) G R T := zrs hZ rfl f L st σ n k w
theorem f_J0_charAt_5068e_8 (hZ : ZRN (ztb (tb_J0_charAt_5068e E d mc ms)) cut G R T Z) (f : Nat) (L : ZLV) (st : List Value) (σ : ZHp) (n k w : Nat) : Z (f + 1) 8 L st σ n k w = s_getfK E 50 123 (fun j => .ref (zeK E (150 + j))) 11 L st σ n k w (zk1 cut G (Z f)) G R T := zrs hZ rfl f L st σ n k w
theorem f_J0_charAt_5068e_11 (hZ : ZRN (ztb (tb_J0_charAt_5068e E d mc ms)) cut G R T Z) (f : Nat) (L : ZLV) (st : List Value) (σ : ZHp) (n k w : Nat) : Z (f + 1) 11 L st σ n k w = s_iload 1 12 L st σ n k w (zk1 cut G (Z f)) G R T := zrs hZ rfl f L st σ n k w
theorem f_J0_charAt_5068e_12 (hZ : ZRN (ztb (tb_J0_charAt_5068e E d mc ms)) cut G R T Z) (f : Nat) (L : ZLV) (st : List Value) (σ : ZHp) (n k w : Nat) : Z (f + 1) 12 L st σ n k w = s_callS E d mc ms MJ1_charAt_3b067 2 15 L st σ n k w (zk1 cut G (Z f)) G R T := zrs hZ rfl f L st σ n k w
theorem f_J0_charAt_5068e_15 (hZ : ZRN (ztb (tb_J0_charAt_5068e E d mc ms)) cut G R T Z) (f : Nat) (L : ZLV) (st : List Value) (σ : ZHp) (n k w : Nat) : Z (f + 1) 15 L st σ n k w = s_nreturn .char L st σ n k w (zk1 cut G (Z f)) G R T := zrs hZ rfl f L st σ n k w
theorem f_J1_canEncode_9a6ad_0 (hZ : ZRN (ztb (tb_J1_canEncode_9a6ad E d mc ms)) cut G R T Z) (f : Nat) (L : ZLV) (st : List Value) (σ : ZHp) (n k w : Nat) : Z (f + 1) 0 L st σ n k w = s_iload 0 1 L st σ n k w (zk1 cut G (Z f)) G R T := zrs hZ rfl f L st σ n k w
theorem f_J1_canEncode_9a6ad_1 (hZ : ZRN (ztb (tb_J1_canEncode_9a6ad E d mc ms)) cut G R T Z) (f : Nat) (L : ZLV) (st : List Value) (σ : ZHp) (n k w : Nat) : Z (f + 1) 1 L st σ n k w = s_if_lt 15 4 L st σ n k w (zk1 cut G (Z f)) G R T := zrs hZ rfl f L st σ n k w
theorem f_J1_canEncode_9a6ad_4 (hZ : ZRN (ztb (tb_J1_canEncode_9a6ad E d mc ms)) cut G R T Z) (f : Nat) (L : ZLV) (st : List Value) (σ : ZHp) (n k w : Nat) : Z (f + 1) 4 L st σ n k w = s_iload 0 5 L st σ n k w (zk1 cut G (Z f)) G R T := zrs hZ rfl f L st σ n k w
theorem f_J1_canEncode_9a6ad_5 (hZ : ZRN (ztb (tb_J1_canEncode_9a6ad E d mc ms)) cut G R T Z) (f : Nat) (L : ZLV) (st : List Value) (σ : ZHp) (n k w : Nat) : Z (f + 1) 5 L st σ n k w = s_const (.int (255)) 8 L st σ n k w (zk1 cut G (Z f)) G R T := zrs hZ rfl f L st σ n k w
theorem f_J1_canEncode_9a6ad_8 (hZ : ZRN (ztb (tb_J1_canEncode_9a6ad E d mc ms)) cut G R T Z) (f : Nat) (L : ZLV) (st : List Value) (σ : ZHp) (n k w : Nat) : Z (f + 1) 8 L st σ n k w = s_icmp_gt 15 11 L st σ n k w (zk1 cut G (Z f)) G R T := zrs hZ rfl f L st σ n k w
theorem f_J1_canEncode_9a6ad_11 (hZ : ZRN (ztb (tb_J1_canEncode_9a6ad E d mc ms)) cut G R T Z) (f : Nat) (L : ZLV) (st : List Value) (σ : ZHp) (n k w : Nat) : Z (f + 1) 11 L st σ n k w = s_const (.int (1)) 12 L st σ n k w (zk1 cut G (Z f)) G R T := zrs hZ rfl f L st σ n k w
theorem f_J1_canEncode_9a6ad_12 (hZ : ZRN (ztb (tb_J1_canEncode_9a6ad E d mc ms)) cut G R T Z) (f : Nat) (L : ZLV) (st : List Value) (σ : ZHp) (n k w : Nat) : Z (f + 1) 12 L st σ n k w = s_goto 16 L st σ n k w (zk1 cut G (Z f)) G R T := zrs hZ rfl f L st σ n k w
theorem f_J1_canEncode_9a6ad_15 (hZ : ZRN (ztb (tb_J1_canEncode_9a6ad E d mc ms)) cut G R T Z) (f : Nat) (L : ZLV) (st : List Value) (σ : ZHp) (n k w : Nat) : Z (f + 1) 15 L st σ n k w = s_const (.int (0)) 16 L st σ n k w (zk1 cut G (Z f)) G R T := zrs hZ rfl f L st σ n k w
theorem f_J1_canEncode_9a6ad_16 (hZ : ZRN (ztb (tb_J1_canEncode_9a6ad E d mc ms)) cut G R T Z) (f : Nat) (L : ZLV) (st : List Value) (σ : ZHp) (n k w : Nat) : Z (f + 1) 16 L st σ n k w = s_zreturn L st σ n k w (zk1 cut G (Z f)) G R T := zrs hZ rfl f L st σ n k w
theorem f_J1_indexOfChar_4cfef_0 (hZ : ZRN (ztb (tb_J1_indexOfChar_4cfef E d mc ms)) cut G R T Z) (f : Nat) (L : ZLV) (st : List Value) (σ : ZHp) (n k w : Nat) : Z (f + 1) 0 L st σ n k w = s_iload 1 1 L st σ n k w (zk1 cut G (Z f)) G R T := zrs hZ rfl f L st σ n k w
theorem f_J1_indexOfChar_4cfef_1 (hZ : ZRN (ztb (tb_J1_indexOfChar_4cfef E d mc ms)) cut G R T Z) (f : Nat) (L : ZLV) (st : List Value) (σ : ZHp) (n k w : Nat) : Z (f + 1) 1 L st σ n k w = s_i2b 2 L st σ n k w (zk1 cut G (Z f)) G R T := zrs hZ rfl f L st σ n k w
theorem f_J1_indexOfChar_4cfef_2 (hZ : ZRN (ztb (tb_J1_indexOfChar_4cfef E d mc ms)) cut G R T Z) (f : Nat) (L : ZLV) (st : List Value) (σ : ZHp) (n k w : Nat) : Z (f + 1) 2 L st σ n k w = s_istore 4 4 L st σ n k w (zk1 cut G (Z f)) G R T := zrs hZ rfl f L st σ n k w
theorem f_J1_indexOfChar_4cfef_4 (hZ : ZRN (ztb (tb_J1_indexOfChar_4cfef E d mc ms)) cut G R T Z) (f : Nat) (L : ZLV) (st : List Value) (σ : ZHp) (n k w : Nat) : Z (f + 1) 4 L st σ n k w = s_iload 2 5 L st σ n k w (zk1 cut G (Z f)) G R T := zrs hZ rfl f L st σ n k w
theorem f_J1_indexOfChar_4cfef_5 (hZ : ZRN (ztb (tb_J1_indexOfChar_4cfef E d mc ms)) cut G R T Z) (f : Nat) (L : ZLV) (st : List Value) (σ : ZHp) (n k w : Nat) : Z (f + 1) 5 L st σ n k w = s_istore 5 7 L st σ n k w (zk1 cut G (Z f)) G R T := zrs hZ rfl f L st σ n k w
theorem f_J1_indexOfChar_4cfef_7 (hZ : ZRN (ztb (tb_J1_indexOfChar_4cfef E d mc ms)) cut G R T Z) (f : Nat) (L : ZLV) (st : List Value) (σ : ZHp) (n k w : Nat) : Z (f + 1) 7 L st σ n k w = s_iload 5 9 L st σ n k w (zk1 cut G (Z f)) G R T := zrs hZ rfl f L st σ n k w
theorem f_J1_indexOfChar_4cfef_9 (hZ : ZRN (ztb (tb_J1_indexOfChar_4cfef E d mc ms)) cut G R T Z) (f : Nat) (L : ZLV) (st : List Value) (σ : ZHp) (n k w : Nat) : Z (f + 1) 9 L st σ n k w = s_iload 3 10 L st σ n k w (zk1 cut G (Z f)) G R T := zrs hZ rfl f L st σ n k w
theorem f_J1_indexOfChar_4cfef_10 (hZ : ZRN (ztb (tb_J1_indexOfChar_4cfef E d mc ms)) cut G R T Z) (f : Nat) (L : ZLV) (st : List Value) (σ : ZHp) (n k w : Nat) : Z (f + 1) 10 L st σ n k w = s_icmp_ge 31 13 L st σ n k w (zk1 cut G (Z f)) G R T := zrs hZ rfl f L st σ n k w
theorem f_J1_indexOfChar_4cfef_13 (hZ : ZRN (ztb (tb_J1_indexOfChar_4cfef E d mc ms)) cut G R T Z) (f : Nat) (L : ZLV) (st : List Value) (σ : ZHp) (n k w : Nat) : Z (f + 1) 13 L st σ n k w = s_aload 0 14 L st σ n k w (zk1 cut G (Z f)) G R T := zrs hZ rfl f L st σ n k w
theorem f_J1_indexOfChar_4cfef_14 (hZ : ZRN (ztb (tb_J1_indexOfChar_4cfef E d mc ms)) cut G R T Z) (f : Nat) (L : ZLV) (st : List Value) (σ : ZHp) (n k w : Nat) : Z (f + 1) 14 L st σ n k w = s_iload 5 16 L st σ n k w (zk1 cut G (Z f)) G R T := zrs hZ rfl f L st σ n k w
theorem f_J1_indexOfChar_4cfef_16 (hZ : ZRN (ztb (tb_J1_indexOfChar_4cfef E d mc ms)) cut G R T Z) (f : Nat) (L : ZLV) (st : List Value) (σ : ZHp) (n k w : Nat) : Z (f + 1) 16 L st σ n k w = s_baldB E 17 L st σ n k w (zk1 cut G (Z f)) G R T := zrs hZ rfl f L st σ n k w
theorem f_J1_indexOfChar_4cfef_17 (hZ : ZRN (ztb (tb_J1_indexOfChar_4cfef E d mc ms)) cut G R T Z) (f : Nat) (L : ZLV) (st : List Value) (σ : ZHp) (n k w : Nat) : Z (f + 1) 17 L st σ n k w = s_iload 4 19 L st σ n k w (zk1 cut G (Z f)) G R T := zrs hZ rfl f L st σ n k w
theorem f_J1_indexOfChar_4cfef_19 (hZ : ZRN (ztb (tb_J1_indexOfChar_4cfef E d mc ms)) cut G R T Z) (f : Nat) (L : ZLV) (st : List Value) (σ : ZHp) (n k w : Nat) : Z (f + 1) 19 L st σ n k w = s_icmp_ne 25 22 L st σ n k w (zk1 cut G (Z f)) G R T := zrs hZ rfl f L st σ n k w
theorem f_J1_indexOfChar_4cfef_22 (hZ : ZRN (ztb (tb_J1_indexOfChar_4cfef E d mc ms)) cut G R T Z) (f : Nat) (L : ZLV) (st : List Value) (σ : ZHp) (n k w : Nat) : Z (f + 1) 22 L st σ n k w = s_iload 5 24 L st σ n k w (zk1 cut G (Z f)) G R T := zrs hZ rfl f L st σ n k w
theorem f_J1_indexOfChar_4cfef_24 (hZ : ZRN (ztb (tb_J1_indexOfChar_4cfef E d mc ms)) cut G R T Z) (f : Nat) (L : ZLV) (st : List Value) (σ : ZHp) (n k w : Nat) : Z (f + 1) 24 L st σ n k w = s_ireturn L st σ n k w (zk1 cut G (Z f)) G R T := zrs hZ rfl f L st σ n k w
theorem f_J1_indexOfChar_4cfef_25 (hZ : ZRN (ztb (tb_J1_indexOfChar_4cfef E d mc ms)) cut G R T Z) (f : Nat) (L : ZLV) (st : List Value) (σ : ZHp) (n k w : Nat) : Z (f + 1) 25 L st σ n k w = s_iinc 5 (1) 28 L st σ n k w (zk1 cut G (Z f)) G R T := zrs hZ rfl f L st σ n k w
theorem f_J1_indexOfChar_4cfef_28 (hZ : ZRN (ztb (tb_J1_indexOfChar_4cfef E d mc ms)) cut G R T Z) (f : Nat) (L : ZLV) (st : List Value) (σ : ZHp) (n k w : Nat) : Z (f + 1) 28 L st σ n k w = s_goto 7 L st σ n k w (zk1 cut G (Z f)) G R T := zrs hZ rfl f L st σ n k w
theorem f_J1_indexOfChar_4cfef_31 (hZ : ZRN (ztb (tb_J1_indexOfChar_4cfef E d mc ms)) cut G R T Z) (f : Nat) (L : ZLV) (st : List Value) (σ : ZHp) (n k w : Nat) : Z (f + 1) 31 L st σ n k w = s_const (.int (-1)) 32 L st σ n k w (zk1 cut G (Z f)) G R T := zrs hZ rfl f L st σ n k w
theorem f_J1_indexOfChar_4cfef_32 (hZ : ZRN (ztb (tb_J1_indexOfChar_4cfef E d mc ms)) cut G R T Z) (f : Nat) (L : ZLV) (st : List Value) (σ : ZHp) (n k w : Nat) : Z (f + 1) 32 L st σ n k w = s_ireturn L st σ n k w (zk1 cut G (Z f)) G R T := zrs hZ rfl f L st σ n k w
theorem f_J1_indexOf_4cfef_0 (hZ : ZRN (ztb (tb_J1_indexOf_4cfef E d mc ms)) cut G R T Z) (f : Nat) (L : ZLV) (st : List Value) (σ : ZHp) (n k w : Nat) : Z (f + 1) 0 L st σ n k w = s_iload 1 1 L st σ n k w (zk1 cut G (Z f)) G R T := zrs hZ rfl f L st σ n k w
theorem f_J1_indexOf_4cfef_1 (hZ : ZRN (ztb (tb_J1_indexOf_4cfef E d mc ms)) cut G R T Z) (f : Nat) (L : ZLV) (st : List Value) (σ : ZHp) (n k w : Nat) : Z (f + 1) 1 L st σ n k w = s_callS E d mc ms MJ1_canEncode_9a6ad 1 4 L st σ n k w (zk1 cut G (Z f)) G R T := zrs hZ rfl f L st σ n k w
theorem f_J1_indexOf_4cfef_4 (hZ : ZRN (ztb (tb_J1_indexOf_4cfef E d mc ms)) cut G R T Z) (f : Nat) (L : ZLV) (st : List Value) (σ : ZHp) (n k w : Nat) : Z (f + 1) 4 L st σ n k w = s_if_ne 9 7 L st σ n k w (zk1 cut G (Z f)) G R T := zrs hZ rfl f L st σ n k w
theorem f_J1_indexOf_4cfef_7 (hZ : ZRN (ztb (tb_J1_indexOf_4cfef E d mc ms)) cut G R T Z) (f : Nat) (L : ZLV) (st : List Value) (σ : ZHp) (n k w : Nat) : Z (f + 1) 7 L st σ n k w = s_const (.int (-1)) 8 L st σ n k w (zk1 cut G (Z f)) G R T := zrs hZ rfl f L st σ n k w
theorem f_J1_indexOf_4cfef_8 (hZ : ZRN (ztb (tb_J1_indexOf_4cfef E d mc ms)) cut G R T Z) (f : Nat) (L : ZLV) (st : List Value) (σ : ZHp) (n k w : Nat) : Z (f + 1) 8 L st σ n k w = s_ireturn L st σ n k w (zk1 cut G (Z f)) G R T := zrs hZ rfl f L st σ n k w
theorem f_J1_indexOf_4cfef_9 (hZ : ZRN (ztb (tb_J1_indexOf_4cfef E d mc ms)) cut G R T Z) (f : Nat) (L : ZLV) (st : List Value) (σ : ZHp) (n k w : Nat) : Z (f + 1) 9 L st σ n k w = s_iload 2 10 L st σ n k w (zk1 cut G (Z f)) G R T := zrs hZ rfl f L st σ n k w
theorem f_J1_indexOf_4cfef_10 (hZ : ZRN (ztb (tb_J1_indexOf_4cfef E d mc ms)) cut G R T Z) (f : Nat) (L : ZLV) (st : List Value) (σ : ZHp) (n k w : Nat) : Z (f + 1) 10 L st σ n k w = s_const (.int (0)) 11 L st σ n k w (zk1 cut G (Z f)) G R T := zrs hZ rfl f L st σ n k w
theorem f_J1_indexOf_4cfef_11 (hZ : ZRN (ztb (tb_J1_indexOf_4cfef E d mc ms)) cut G R T Z) (f : Nat) (L : ZLV) (st : List Value) (σ : ZHp) (n k w : Nat) : Z (f + 1) 11 L st σ n k w = s_mmax d mc ms 14 L st σ n k w (zk1 cut G (Z f)) G R T := zrs hZ rfl f L st σ n k w
theorem f_J1_indexOf_4cfef_14 (hZ : ZRN (ztb (tb_J1_indexOf_4cfef E d mc ms)) cut G R T Z) (f : Nat) (L : ZLV) (st : List Value) (σ : ZHp) (n k w : Nat) : Z (f + 1) 14 L st σ n k w = s_istore 2 15 L st σ n k w (zk1 cut G (Z f)) G R T := zrs hZ rfl f L st σ n k w
theorem f_J1_indexOf_4cfef_15 (hZ : ZRN (ztb (tb_J1_indexOf_4cfef E d mc ms)) cut G R T Z) (f : Nat) (L : ZLV) (st : List Value) (σ : ZHp) (n k w : Nat) : Z (f + 1) 15 L st σ n k w = s_iload 3 16 L st σ n k w (zk1 cut G (Z f)) G R T := zrs hZ rfl f L st σ n k w
theorem f_J1_indexOf_4cfef_16 (hZ : ZRN (ztb (tb_J1_indexOf_4cfef E d mc ms)) cut G R T Z) (f : Nat) (L : ZLV) (st : List Value) (σ : ZHp) (n k w : Nat) : Z (f + 1) 16 L st σ n k w = s_aload 0 17 L st σ n k w (zk1 cut G (Z f)) G R T := zrs hZ rfl f L st σ n k w
theorem f_J1_indexOf_4cfef_17 (hZ : ZRN (ztb (tb_J1_indexOf_4cfef E d mc ms)) cut G R T Z) (f : Nat) (L : ZLV) (st : List Value) (σ : ZHp) (n k w : Nat) : Z (f + 1) 17 L st σ n k w = s_alenB E 18 L st σ n k w (zk1 cut G (Z f)) G R T := zrs hZ rfl f L st σ n k w
theorem f_J1_indexOf_4cfef_18 (hZ : ZRN (ztb (tb_J1_indexOf_4cfef E d mc ms)) cut G R T Z) (f : Nat) (L : ZLV) (st : List Value) (σ : ZHp) (n k w : Nat) : Z (f + 1) 18 L st σ n k w = s_mmin d mc ms 21 L st σ n k w (zk1 cut G (Z f)) G R T := zrs hZ rfl f L st σ n k w
theorem f_J1_indexOf_4cfef_21 (hZ : ZRN (ztb (tb_J1_indexOf_4cfef E d mc ms)) cut G R T Z) (f : Nat) (L : ZLV) (st : List Value) (σ : ZHp) (n k w : Nat) : Z (f + 1) 21 L st σ n k w = s_istore 3 22 L st σ n k w (zk1 cut G (Z f)) G R T := zrs hZ rfl f L st σ n k w
theorem f_J1_indexOf_4cfef_22 (hZ : ZRN (ztb (tb_J1_indexOf_4cfef E d mc ms)) cut G R T Z) (f : Nat) (L : ZLV) (st : List Value) (σ : ZHp) (n k w : Nat) : Z (f + 1) 22 L st σ n k w = s_iload 2 23 L st σ n k w (zk1 cut G (Z f)) G R T := zrs hZ rfl f L st σ n k w
theorem f_J1_indexOf_4cfef_23 (hZ : ZRN (ztb (tb_J1_indexOf_4cfef E d mc ms)) cut G R T Z) (f : Nat) (L : ZLV) (st : List Value) (σ : ZHp) (n k w : Nat) : Z (f + 1) 23 L st σ n k w = s_iload 3 24 L st σ n k w (zk1 cut G (Z f)) G R T := zrs hZ rfl f L st σ n k w
theorem f_J1_indexOf_4cfef_24 (hZ : ZRN (ztb (tb_J1_indexOf_4cfef E d mc ms)) cut G R T Z) (f : Nat) (L : ZLV) (st : List Value) (σ : ZHp) (n k w : Nat) : Z (f + 1) 24 L st σ n k w = s_icmp_lt 29 27 L st σ n k w (zk1 cut G (Z f)) G R T := zrs hZ rfl f L st σ n k w
theorem f_J1_indexOf_4cfef_27 (hZ : ZRN (ztb (tb_J1_indexOf_4cfef E d mc ms)) cut G R T Z) (f : Nat) (L : ZLV) (st : List Value) (σ : ZHp) (n k w : Nat) : Z (f + 1) 27 L st σ n k w = s_const (.int (-1)) 28 L st σ n k w (zk1 cut G (Z f)) G R T := zrs hZ rfl f L st σ n k w
theorem f_J1_indexOf_4cfef_28 (hZ : ZRN (ztb (tb_J1_indexOf_4cfef E d mc ms)) cut G R T Z) (f : Nat) (L : ZLV) (st : List Value) (σ : ZHp) (n k w : Nat) : Z (f + 1) 28 L st σ n k w = s_ireturn L st σ n k w (zk1 cut G (Z f)) G R T := zrs hZ rfl f L st σ n k w
theorem f_J1_indexOf_4cfef_29 (hZ : ZRN (ztb (tb_J1_indexOf_4cfef E d mc ms)) cut G R T Z) (f : Nat) (L : ZLV) (st : List Value) (σ : ZHp) (n k w : Nat) : Z (f + 1) 29 L st σ n k w = s_aload 0 30 L st σ n k w (zk1 cut G (Z f)) G R T := zrs hZ rfl f L st σ n k w
theorem f_J1_indexOf_4cfef_30 (hZ : ZRN (ztb (tb_J1_indexOf_4cfef E d mc ms)) cut G R T Z) (f : Nat) (L : ZLV) (st : List Value) (σ : ZHp) (n k w : Nat) : Z (f + 1) 30 L st σ n k w = s_iload 1 31 L st σ n k w (zk1 cut G (Z f)) G R T := zrs hZ rfl f L st σ n k w
theorem f_J1_indexOf_4cfef_31 (hZ : ZRN (ztb (tb_J1_indexOf_4cfef E d mc ms)) cut G R T Z) (f : Nat) (L : ZLV) (st : List Value) (σ : ZHp) (n k w : Nat) : Z (f + 1) 31 L st σ n k w = s_iload 2 32 L st σ n k w (zk1 cut G (Z f)) G R T := zrs hZ rfl f L st σ n k w
theorem f_J1_indexOf_4cfef_32 (hZ : ZRN (ztb (tb_J1_indexOf_4cfef E d mc ms)) cut G R T Z) (f : Nat) (L : ZLV) (st : List Value) (σ : ZHp) (n k w : Nat) : Z (f + 1) 32 L st σ n k w = s_iload 3 33 L st σ n k w (zk1 cut G (Z f)) G R T := zrs hZ rfl f L st σ n k w
theorem f_J1_indexOf_4cfef_33 (hZ : ZRN (ztb (tb_J1_indexOf_4cfef E d mc ms)) cut G R T Z) (f : Nat) (L : ZLV) (st : List Value) (σ : ZHp) (n k w : Nat) : Z (f + 1) 33 L st σ n k w = s_callS E d mc ms MJ1_indexOfChar_4cfef 4 36 L st σ n k w (zk1 cut G (Z f)) G R T := zrs hZ rfl f L st σ n k w
theorem f_J1_indexOf_4cfef_36 (hZ : ZRN (ztb (tb_J1_indexOf_4cfef E d mc ms)) cut G R T Z) (f : Nat) (L : ZLV) (st : List Value) (σ : ZHp) (n k w : Nat) : Z (f + 1) 36 L st σ n k w = s_ireturn L st σ n k w (zk1 cut G (Z f)) G R T := zrs hZ rfl f L st σ n k w
theorem f_J0_indexOf_7cf53_0 (hZ : ZRN (ztb (tb_J0_indexOf_7cf53 E d mc ms)) cut G R T Z) (f : Nat) (L : ZLV) (st : List Value) (σ : ZHp) (n k w : Nat) : Z (f + 1) 0 L st σ n k w = s_aload 0 1 L st σ n k w (zk1 cut G (Z f)) G R T := zrs hZ rfl f L st σ n k w
theorem f_J0_indexOf_7cf53_1 (hZ : ZRN (ztb (tb_J0_indexOf_7cf53 E d mc ms)) cut G R T Z) (f : Nat) (L : ZLV) (st : List Value) (σ : ZHp) (n k w : Nat) : Z (f + 1) 1 L st σ n k w = s_callK E d mc ms 50 123 MJ0_isLatin1_aae02 0 4 L st σ n k w (zk1 cut G (Z f)) G R T := zrs hZ rfl f L st σ n k w
theorem f_J0_indexOf_7cf53_4 (hZ : ZRN (ztb (tb_J0_indexOf_7cf53 E d mc ms)) cut G R T Z) (f : Nat) (L : ZLV) (st : List Value) (σ : ZHp) (n k w : Nat) : Z (f + 1) 4 L st σ n k w = s_if_eq 23 7 L st σ n k w (zk1 cut G (Z f)) G R T := zrs hZ rfl f L st σ n k w
theorem f_J0_indexOf_7cf53_7 (hZ : ZRN (ztb (tb_J0_indexOf_7cf53 E d mc ms)) cut G R T Z) (f : Nat) (L : ZLV) (st : List Value) (σ : ZHp) (n k w : Nat) : Z (f + 1) 7 L st σ n k w = s_aload 0 8 L st σ n k w (zk1 cut G (Z f)) G R T := zrs hZ rfl f L st σ n k w
theorem f_J0_indexOf_7cf53_8 (hZ : ZRN (ztb (tb_J0_indexOf_7cf53 E d mc ms)) cut G R T Z) (f : Nat) (L : ZLV) (st : List Value) (σ : ZHp) (n k w : Nat) : Z (f + 1) 8 L st σ n k w = s_getfK E 50 123 (fun j => .ref (zeK E (150 + j))) 11 L st σ n k w (zk1 cut G (Z f)) G R T := zrs hZ rfl f L st σ n k w
theorem f_J0_indexOf_7cf53_11 (hZ : ZRN (ztb (tb_J0_indexOf_7cf53 E d mc ms)) cut G R T Z) (f : Nat) (L : ZLV) (st : List Value) (σ : ZHp) (n k w : Nat) : Z (f + 1) 11 L st σ n k w = s_iload 1 12 L st σ n k w (zk1 cut G (Z f)) G R T := zrs hZ rfl f L st σ n k w
theorem f_J0_indexOf_7cf53_12 (hZ : ZRN (ztb (tb_J0_indexOf_7cf53 E d mc ms)) cut G R T Z) (f : Nat) (L : ZLV) (st : List Value) (σ : ZHp) (n k w : Nat) : Z (f + 1) 12 L st σ n k w = s_iload 2 13 L st σ n k w (zk1 cut G (Z f)) G R T := zrs hZ rfl f L st σ n k w
theorem f_J0_indexOf_7cf53_13 (hZ : ZRN (ztb (tb_J0_indexOf_7cf53 E d mc ms)) cut G R T Z) (f : Nat) (L : ZLV) (st : List Value) (σ : ZHp) (n k w : Nat) : Z (f + 1) 13 L st σ n k w = s_aload 0 14 L st σ n k w (zk1 cut G (Z f)) G R T := zrs hZ rfl f L st σ n k w
theorem f_J0_indexOf_7cf53_14 (hZ : ZRN (ztb (tb_J0_indexOf_7cf53 E d mc ms)) cut G R T Z) (f : Nat) (L : ZLV) (st : List Value) (σ : ZHp) (n k w : Nat) : Z (f + 1) 14 L st σ n k w = s_callK E d mc ms 50 123 MJ0_length_8abf5 0 17 L st σ n k w (zk1 cut G (Z f)) G R T := zrs hZ rfl f L st σ n k w
theorem f_J0_indexOf_7cf53_17 (hZ : ZRN (ztb (tb_J0_indexOf_7cf53 E d mc ms)) cut G R T Z) (f : Nat) (L : ZLV) (st : List Value) (σ : ZHp) (n k w : Nat) : Z (f + 1) 17 L st σ n k w = s_callS E d mc ms MJ1_indexOf_4cfef 4 20 L st σ n k w (zk1 cut G (Z f)) G R T := zrs hZ rfl f L st σ n k w
theorem f_J0_indexOf_7cf53_20 (hZ : ZRN (ztb (tb_J0_indexOf_7cf53 E d mc ms)) cut G R T Z) (f : Nat) (L : ZLV) (st : List Value) (σ : ZHp) (n k w : Nat) : Z (f + 1) 20 L st σ n k w = s_goto 36 L st σ n k w (zk1 cut G (Z f)) G R T := zrs hZ rfl f L st σ n k w
theorem f_J0_indexOf_7cf53_36 (hZ : ZRN (ztb (tb_J0_indexOf_7cf53 E d mc ms)) cut G R T Z) (f : Nat) (L : ZLV) (st : List Value) (σ : ZHp) (n k w : Nat) : Z (f + 1) 36 L st σ n k w = s_ireturn L st σ n k w (zk1 cut G (Z f)) G R T := zrs hZ rfl f L st σ n k w
theorem f_J0_indexOf_0f7a4_0 (hZ : ZRN (ztb (tb_J0_indexOf_0f7a4 E d mc ms)) cut G R T Z) (f : Nat) (L : ZLV) (st : List Value) (σ : ZHp) (n k w : Nat) : Z (f + 1) 0 L st σ n k w = s_aload 0 1 L st σ n k w (zk1 cut G (Z f)) G R T := zrs hZ rfl f L st σ n k w
theorem f_J0_indexOf_0f7a4_1 (hZ : ZRN (ztb (tb_J0_indexOf_0f7a4 E d mc ms)) cut G R T Z) (f : Nat) (L : ZLV) (st : List Value) (σ : ZHp) (n k w : Nat) : Z (f + 1) 1 L st σ n k w = s_iload 1 2 L st σ n k w (zk1 cut G (Z f)) G R T := zrs hZ rfl f L st σ n k w
theorem f_J0_indexOf_0f7a4_2 (hZ : ZRN (ztb (tb_J0_indexOf_0f7a4 E d mc ms)) cut G R T Z) (f : Nat) (L : ZLV) (st : List Value) (σ : ZHp) (n k w : Nat) : Z (f + 1) 2 L st σ n k w = s_const (.int (0)) 3 L st σ n k w (zk1 cut G (Z f)) G R T := zrs hZ rfl f L st σ n k w
theorem f_J0_indexOf_0f7a4_3 (hZ : ZRN (ztb (tb_J0_indexOf_0f7a4 E d mc ms)) cut G R T Z) (f : Nat) (L : ZLV) (st : List Value) (σ : ZHp) (n k w : Nat) : Z (f + 1) 3 L st σ n k w = s_callK E d mc ms 50 123 MJ0_indexOf_7cf53 2 6 L st σ n k w (zk1 cut G (Z f)) G R T := zrs hZ rfl f L st σ n k w
theorem f_J0_indexOf_0f7a4_6 (hZ : ZRN (ztb (tb_J0_indexOf_0f7a4 E d mc ms)) cut G R T Z) (f : Nat) (L : ZLV) (st : List Value) (σ : ZHp) (n k w : Nat) : Z (f + 1) 6 L st σ n k w = s_ireturn L st σ n k w (zk1 cut G (Z f)) G R T := zrs hZ rfl f L st σ n k w
end
