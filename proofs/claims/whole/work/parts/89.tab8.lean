/-! TABLES: what each instruction does, that it does so, and each one by its place (printed by wip/whole/gen/gentab.py) -/
def tb_X12_init (E : ZEX) (d mc ms : Nat) : List (Nat × ZStep) := [(0, s_aload 0 1), (1, s_objinit d 4), (4, s_aload 0 5), (5, s_new 8 2 fsX9 mc ms 8), (8, s_dup 9), (9, s_callI E d mc ms MX9_init 0 12), (12, s_putf 11 0 3 15), (15, s_aload 0 16), (16, s_new 2 4 fsX3 mc ms 19), (19, s_dup 20), (20, s_callI E d mc ms MX3_init 0 23), (23, s_putf 11 1 3 26), (26, s_aload 0 27), (27, s_new 1 11 fsX2 mc ms 30), (30, s_dup 31), (31, s_callI E d mc ms MX2_init 0 34), (34, s_putf 11 2 3 37), (37, s_aload 0 38), (38, s_new 1 11 fsX2 mc ms 41), (41, s_dup 42), (42, s_callI E d mc ms MX2_init 0 45), (45, s_putf 11 3 3 48), (48, s_aload 0 49), (49, s_new 5 15 fsX6 mc ms 52), (52, s_dup 53), (53, s_callI E d mc ms MX6_init 0 56), (56, s_putf 11 4 3 59), (59, s_aload 0 60), (60, s_const (.int (-1)) 61), (61, s_putf 11 5 0 64), (64, s_return)]
set_option maxRecDepth 20000 in
theorem ok_X12_init {E : ZEX} {X : ZMX} {d mc ms : Nat} {P : ZPT} {T : ZTT} (h : ZCX E X MX12_init d mc ms P T) : ∀ pc, ZRow E X MX12_init mc ms P T pc (ztb (tb_X12_init E d mc ms) pc) := ztb_ok (by
  unfold tb_X12_init
  refine zfmc (r_aload_n h (pc := 0) (kf := 0) 0 (by decide +kernel) rfl) ?_
  refine zfmc (r_objinit h (pc := 1) (ix := 1) (by decide +kernel) wk_42327056ff wk_ee0d472f0f wk_13171937f3) ?_
  refine zfmc (r_aload_n h (pc := 4) (kf := 0) 0 (by decide +kernel) rfl) ?_
  refine zfmc (r_new h (pc := 5) (ix := 7) (by decide +kernel) ckX9 fsX9 tyX9 tyX9_ok fsX9_ok wk_3f6dea0610 wk_3e22d29a9a wk_53ae74ac08) ?_
  refine zfmc (r_dup h (pc := 8) (by decide +kernel)) ?_
  refine zfmc (r_callIN h (pc := 9) (ix := 9) (by decide +kernel) 0 mcX9_init wk_66c2fd81de rfl rfl wk_b275e9eab4) ?_
  refine zfmc (r_putfF h (pc := 12) (ix := 10) (by decide +kernel) ckX12 0 (by decide) 3 (fty := tyX12 0) (tyX12_ok 0 (by decide)) rfl rfl rfl rfl wk_a671cf91f9) ?_
  refine zfmc (r_aload_n h (pc := 15) (kf := 0) 0 (by decide +kernel) rfl) ?_
  refine zfmc (r_new h (pc := 16) (ix := 16) (by decide +kernel) ckX3 fsX3 tyX3 tyX3_ok fsX3_ok wk_2851a0be35 wk_22ebebc5c1 wk_efb67c260a) ?_
  refine zfmc (r_dup h (pc := 19) (by decide +kernel)) ?_
  refine zfmc (r_callIN h (pc := 20) (ix := 18) (by decide +kernel) 0 mcX3_init wk_f6ab0e9982 rfl rfl wk_e06c1a38f5) ?_
  refine zfmc (r_putfF h (pc := 23) (ix := 19) (by decide +kernel) ckX12 1 (by decide) 3 (fty := tyX12 1) (tyX12_ok 1 (by decide)) rfl rfl rfl rfl wk_7f61ef2b1c) ?_
  refine zfmc (r_aload_n h (pc := 26) (kf := 0) 0 (by decide +kernel) rfl) ?_
  refine zfmc (r_new h (pc := 27) (ix := 23) (by decide +kernel) ckX2 fsX2 tyX2 tyX2_ok fsX2_ok wk_65c4b78e2e wk_ba3265249a wk_41e24e72eb) ?_
  refine zfmc (r_dup h (pc := 30) (by decide +kernel)) ?_
  refine zfmc (r_callIN h (pc := 31) (ix := 25) (by decide +kernel) 0 mcX2_init wk_33653582ea rfl rfl wk_1f0fd0586c) ?_
  refine zfmc (r_putfF h (pc := 34) (ix := 26) (by decide +kernel) ckX12 2 (by decide) 3 (fty := tyX12 2) (tyX12_ok 2 (by decide)) rfl rfl rfl rfl wk_de8ce947b7) ?_
  refine zfmc (r_aload_n h (pc := 37) (kf := 0) 0 (by decide +kernel) rfl) ?_
  refine zfmc (r_new h (pc := 38) (ix := 23) (by decide +kernel) ckX2 fsX2 tyX2 tyX2_ok fsX2_ok wk_65c4b78e2e wk_ba3265249a wk_41e24e72eb) ?_
  refine zfmc (r_dup h (pc := 41) (by decide +kernel)) ?_
  refine zfmc (r_callIN h (pc := 42) (ix := 25) (by decide +kernel) 0 mcX2_init wk_33653582ea rfl rfl wk_1f0fd0586c) ?_
  refine zfmc (r_putfF h (pc := 45) (ix := 30) (by decide +kernel) ckX12 3 (by decide) 3 (fty := tyX12 3) (tyX12_ok 3 (by decide)) rfl rfl rfl rfl wk_d7e67faeba) ?_
  refine zfmc (r_aload_n h (pc := 48) (kf := 0) 0 (by decide +kernel) rfl) ?_
  refine zfmc (r_new h (pc := 49) (ix := 33) (by decide +kernel) ckX6 fsX6 tyX6 tyX6_ok fsX6_ok wk_f388add84e wk_1b44a7534a wk_a96b087aca) ?_
  refine zfmc (r_dup h (pc := 52) (by decide +kernel)) ?_
  refine zfmc (r_callIN h (pc := 53) (ix := 35) (by decide +kernel) 0 mcX6_init wk_e1bc6dc3f3 rfl rfl wk_22ce90e2c8) ?_
  refine zfmc (r_putf h (pc := 56) (ix := 36) (by decide +kernel) ckX12 4 (by decide) 3 (fty := tyX12 4) (tyX12_ok 4 (by decide)) rfl rfl wk_8eb3df7f59) ?_
  refine zfmc (r_aload_n h (pc := 59) (kf := 0) 0 (by decide +kernel) rfl) ?_
  refine zfmc (r_iconst h (pc := 60) (z := -1) (by decide +kernel) (-1) (by decide +kernel)) ?_
  refine zfmc (r_putf h (pc := 61) (ix := 40) (by decide +kernel) ckX12 5 (by decide) 0 (fty := tyX12 5) (tyX12_ok 5 (by decide)) rfl rfl wk_98752a82f0) ?_
  refine zfmc (r_return h (pc := 64) (by decide +kernel) rfl) ?_
  exact zfm0)
def tb_X12_feed (E : ZEX) (d mc ms : Nat) : List (Nat × ZStep) := [(0, s_aload 0 1), (1, s_getf 11 0 4), (4, s_callV E d mc ms 8 MX9_length 0 7), (7, s_const (.int (1980)) 10), (10, s_icmp_le 23 13), (13, s_throw "java/lang/IllegalStateException"), (23, s_aload 0 24), (24, s_getf 11 0 27), (27, s_iload 1 28), (28, s_callV E d mc ms 8 MX9_append 1 31), (31, s_aload 0 32), (32, s_getf 11 0 35), (35, s_iload 2 36), (36, s_callV E d mc ms 8 MX9_append 1 39), (39, s_aload 0 40), (40, s_getf 11 0 43), (43, s_iload 3 44), (44, s_callV E d mc ms 8 MX9_append 1 47), (47, s_aload 0 48), (48, s_getf 11 0 51), (51, s_iload 4 53), (53, s_callV E d mc ms 8 MX9_append 1 56), (56, s_aload 0 57), (57, s_getf 11 0 60), (60, s_iload 5 62), (62, s_callV E d mc ms 8 MX9_append 1 65), (65, s_aload 0 66), (66, s_getf 11 0 69), (69, s_callV E d mc ms 8 MX9_length 0 72), (72, s_ireturn)]
set_option maxRecDepth 20000 in
theorem ok_X12_feed {E : ZEX} {X : ZMX} {d mc ms : Nat} {P : ZPT} {PX : String → ZHp → Nat → Prop} (hM : zMX E X mc ms P PX) (hTH : ZTH E) (hd7 : 7 ≤ d) (h : ZCX E X MX12_feed d mc ms P (zTX mc ms PX)) : ∀ pc, ZRow E X MX12_feed mc ms P (zTX mc ms PX) pc (ztb (tb_X12_feed E d mc ms) pc) := ztb_ok (by
  unfold tb_X12_feed
  refine zfmc (r_aload_n h (pc := 0) (kf := 0) 0 (by decide +kernel) rfl) ?_
  refine zfmc (r_getf h (pc := 1) (ix := 10) (by decide +kernel) ckX12 0 (by decide) wk_a671cf91f9) ?_
  refine zfmc (r_callV h (pc := 4) (ix := 44) (by decide +kernel) ckX9 0 mcX9_length wk_4501614704 wk_abb0bb9b47 wk_a63e454dd6 rfl) ?_
  refine zfmc (r_sipush h (pc := 7) (z := 1980) (by decide +kernel) (1980) (by decide +kernel)) ?_
  refine zfmc (r_icmp_le h (pc := 10) (off := 13) (by decide +kernel) 23 (by decide +kernel)) ?_
  refine zfmc (r_throw h hM (pc := 13) (hTH (50, "the tape would be too long", 48, 52, "java/lang/IllegalStateException") (by decide)) hd7 (by decide +kernel) zot_S (by decide +kernel) (by decide +kernel) (by decide +kernel) (by decide +kernel) (by decide +kernel)) ?_
  refine zfmc (r_aload_n h (pc := 23) (kf := 0) 0 (by decide +kernel) rfl) ?_
  refine zfmc (r_getf h (pc := 24) (ix := 10) (by decide +kernel) ckX12 0 (by decide) wk_a671cf91f9) ?_
  refine zfmc (r_iload_n h (pc := 27) (kf := 1) 1 (by decide +kernel) rfl) ?_
  refine zfmc (r_callV h (pc := 28) (ix := 55) (by decide +kernel) ckX9 1 mcX9_append wk_4cd20d9d49 wk_d9aa63d022 wk_b535ba2202 rfl) ?_
  refine zfmc (r_aload_n h (pc := 31) (kf := 0) 0 (by decide +kernel) rfl) ?_
  refine zfmc (r_getf h (pc := 32) (ix := 10) (by decide +kernel) ckX12 0 (by decide) wk_a671cf91f9) ?_
  refine zfmc (r_iload_n h (pc := 35) (kf := 2) 2 (by decide +kernel) rfl) ?_
  refine zfmc (r_callV h (pc := 36) (ix := 55) (by decide +kernel) ckX9 1 mcX9_append wk_4cd20d9d49 wk_d9aa63d022 wk_b535ba2202 rfl) ?_
  refine zfmc (r_aload_n h (pc := 39) (kf := 0) 0 (by decide +kernel) rfl) ?_
  refine zfmc (r_getf h (pc := 40) (ix := 10) (by decide +kernel) ckX12 0 (by decide) wk_a671cf91f9) ?_
  refine zfmc (r_iload_n h (pc := 43) (kf := 3) 3 (by decide +kernel) rfl) ?_
  refine zfmc (r_callV h (pc := 44) (ix := 55) (by decide +kernel) ckX9 1 mcX9_append wk_4cd20d9d49 wk_d9aa63d022 wk_b535ba2202 rfl) ?_
  refine zfmc (r_aload_n h (pc := 47) (kf := 0) 0 (by decide +kernel) rfl) ?_
  refine zfmc (r_getf h (pc := 48) (ix := 10) (by decide +kernel) ckX12 0 (by decide) wk_a671cf91f9) ?_
  refine zfmc (r_iload h (pc := 51) 4 (by decide +kernel)) ?_
  refine zfmc (r_callV h (pc := 53) (ix := 55) (by decide +kernel) ckX9 1 mcX9_append wk_4cd20d9d49 wk_d9aa63d022 wk_b535ba2202 rfl) ?_
  refine zfmc (r_aload_n h (pc := 56) (kf := 0) 0 (by decide +kernel) rfl) ?_
  refine zfmc (r_getf h (pc := 57) (ix := 10) (by decide +kernel) ckX12 0 (by decide) wk_a671cf91f9) ?_
  refine zfmc (r_iload h (pc := 60) 5 (by decide +kernel)) ?_
  refine zfmc (r_callV h (pc := 62) (ix := 55) (by decide +kernel) ckX9 1 mcX9_append wk_4cd20d9d49 wk_d9aa63d022 wk_b535ba2202 rfl) ?_
  refine zfmc (r_aload_n h (pc := 65) (kf := 0) 0 (by decide +kernel) rfl) ?_
  refine zfmc (r_getf h (pc := 66) (ix := 10) (by decide +kernel) ckX12 0 (by decide) wk_a671cf91f9) ?_
  refine zfmc (r_callV h (pc := 69) (ix := 44) (by decide +kernel) ckX9 0 mcX9_length wk_4501614704 wk_abb0bb9b47 wk_a63e454dd6 rfl) ?_
  refine zfmc (r_ireturn h (pc := 72) (by decide +kernel) rfl) ?_
  exact zfm0)
def tb_X12_trim (E : ZEX) (d mc ms : Nat) : List (Nat × ZStep) := [(0, s_iload 1 1), (1, s_if_lt 15 4), (4, s_iload 1 5), (5, s_aload 0 6), (6, s_getf 11 0 9), (9, s_callV E d mc ms 8 MX9_length 0 12), (12, s_icmp_le 25 15), (15, s_throw "java/lang/IllegalArgumentException"), (25, s_aload 0 26), (26, s_getf 11 0 29), (29, s_iload 1 30), (30, s_callV E d mc ms 8 MX9_shorten 1 33), (33, s_iload 1 34), (34, s_ireturn)]
set_option maxRecDepth 20000 in
theorem ok_X12_trim {E : ZEX} {X : ZMX} {d mc ms : Nat} {P : ZPT} {PX : String → ZHp → Nat → Prop} (hM : zMX E X mc ms P PX) (hTH : ZTH E) (hd7 : 7 ≤ d) (h : ZCX E X MX12_trim d mc ms P (zTX mc ms PX)) : ∀ pc, ZRow E X MX12_trim mc ms P (zTX mc ms PX) pc (ztb (tb_X12_trim E d mc ms) pc) := ztb_ok (by
  unfold tb_X12_trim
  refine zfmc (r_iload_n h (pc := 0) (kf := 1) 1 (by decide +kernel) rfl) ?_
  refine zfmc (r_if_lt h (pc := 1) (off := 14) (by decide +kernel) 15 (by decide +kernel)) ?_
  refine zfmc (r_iload_n h (pc := 4) (kf := 1) 1 (by decide +kernel) rfl) ?_
  refine zfmc (r_aload_n h (pc := 5) (kf := 0) 0 (by decide +kernel) rfl) ?_
  refine zfmc (r_getf h (pc := 6) (ix := 10) (by decide +kernel) ckX12 0 (by decide) wk_a671cf91f9) ?_
  refine zfmc (r_callV h (pc := 9) (ix := 44) (by decide +kernel) ckX9 0 mcX9_length wk_4501614704 wk_abb0bb9b47 wk_a63e454dd6 rfl) ?_
  refine zfmc (r_icmp_le h (pc := 12) (off := 13) (by decide +kernel) 25 (by decide +kernel)) ?_
  refine zfmc (r_throw h hM (pc := 15) (hTH (61, "the tape has not so many bytes", 59, 63, "java/lang/IllegalArgumentException") (by decide)) hd7 (by decide +kernel) zot_A (by decide +kernel) (by decide +kernel) (by decide +kernel) (by decide +kernel) (by decide +kernel)) ?_
  refine zfmc (r_aload_n h (pc := 25) (kf := 0) 0 (by decide +kernel) rfl) ?_
  refine zfmc (r_getf h (pc := 26) (ix := 10) (by decide +kernel) ckX12 0 (by decide) wk_a671cf91f9) ?_
  refine zfmc (r_iload_n h (pc := 29) (kf := 1) 1 (by decide +kernel) rfl) ?_
  refine zfmc (r_callV h (pc := 30) (ix := 64) (by decide +kernel) ckX9 1 mcX9_shorten wk_53e3c274d4 wk_65723eb818 wk_2cea164447 rfl) ?_
  refine zfmc (r_iload_n h (pc := 33) (kf := 1) 1 (by decide +kernel) rfl) ?_
  refine zfmc (r_ireturn h (pc := 34) (by decide +kernel) rfl) ?_
  exact zfm0)
def tb_X12_teach (E : ZEX) (d mc ms : Nat) : List (Nat × ZStep) := [(0, s_aload 0 1), (1, s_getf 11 4 4), (4, s_callV E d mc ms 5 MX6_clear 0 7), (7, s_aload 0 8), (8, s_getf 11 1 11), (11, s_aload 0 12), (12, s_getf 11 0 15), (15, s_aload 0 16), (16, s_getf 11 4 19), (19, s_callV E d mc ms 2 MX3_read 2 22), (22, s_istore 1 23), (23, s_aload 0 24), (24, s_iload 1 25), (25, s_if_ne 32 28), (28, s_const (.int (-1)) 29), (29, s_goto 39), (32, s_aload 0 33), (33, s_getf 11 1 36), (36, s_callV E d mc ms 2 MX3_errorPlace 0 39), (39, s_putf 11 5 0 42), (42, s_aload 0 43), (43, s_getf 11 0 46), (46, s_const (.int (0)) 47), (47, s_callV E d mc ms 8 MX9_shorten 1 50), (50, s_iload 1 51), (51, s_if_ne 84 54), (54, s_aload 0 55), (55, s_getf 11 2 58), (58, s_getf 1 0 61), (61, s_getf 3 5 64), (64, s_astore 2 65), (65, s_aload 0 66), (66, s_getf 11 2 69), (69, s_getf 1 0 72), (72, s_aload 0 73), (73, s_getf 11 4 76), (76, s_callV E d mc ms 3 MX4_begin 1 79), (79, s_aload 0 80), (80, s_aload 2 81), (81, s_putf 11 4 3 84), (84, s_iload 1 85), (85, s_ireturn)]
set_option maxRecDepth 20000 in
theorem ok_X12_teach {E : ZEX} {X : ZMX} {d mc ms : Nat} {P : ZPT} {T : ZTT} (h : ZCX E X MX12_teach d mc ms P T) : ∀ pc, ZRow E X MX12_teach mc ms P T pc (ztb (tb_X12_teach E d mc ms) pc) := ztb_ok (by
  unfold tb_X12_teach
  refine zfmc (r_aload_n h (pc := 0) (kf := 0) 0 (by decide +kernel) rfl) ?_
  refine zfmc (r_getf h (pc := 1) (ix := 36) (by decide +kernel) ckX12 4 (by decide) wk_8eb3df7f59) ?_
  refine zfmc (r_callV h (pc := 4) (ix := 67) (by decide +kernel) ckX6 0 mcX6_clear wk_2d48c70d02 wk_af0071a8e6 wk_3bba6db091 rfl) ?_
  refine zfmc (r_aload_n h (pc := 7) (kf := 0) 0 (by decide +kernel) rfl) ?_
  refine zfmc (r_getf h (pc := 8) (ix := 19) (by decide +kernel) ckX12 1 (by decide) wk_7f61ef2b1c) ?_
  refine zfmc (r_aload_n h (pc := 11) (kf := 0) 0 (by decide +kernel) rfl) ?_
  refine zfmc (r_getf h (pc := 12) (ix := 10) (by decide +kernel) ckX12 0 (by decide) wk_a671cf91f9) ?_
  refine zfmc (r_aload_n h (pc := 15) (kf := 0) 0 (by decide +kernel) rfl) ?_
  refine zfmc (r_getf h (pc := 16) (ix := 36) (by decide +kernel) ckX12 4 (by decide) wk_8eb3df7f59) ?_
  refine zfmc (r_callV h (pc := 19) (ix := 70) (by decide +kernel) ckX3 2 mcX3_read wk_d3669c2c27 wk_24dbe1a88b wk_40a6238eef rfl) ?_
  refine zfmc (r_istore_n h (pc := 22) (kf := 1) 1 (by decide +kernel) rfl (by decide +kernel)) ?_
  refine zfmc (r_aload_n h (pc := 23) (kf := 0) 0 (by decide +kernel) rfl) ?_
  refine zfmc (r_iload_n h (pc := 24) (kf := 1) 1 (by decide +kernel) rfl) ?_
  refine zfmc (r_if_ne h (pc := 25) (off := 7) (by decide +kernel) 32 (by decide +kernel)) ?_
  refine zfmc (r_iconst h (pc := 28) (z := -1) (by decide +kernel) (-1) (by decide +kernel)) ?_
  refine zfmc (r_goto h (pc := 29) (off := 10) (by decide +kernel) 39 (by decide +kernel)) ?_
  refine zfmc (r_aload_n h (pc := 32) (kf := 0) 0 (by decide +kernel) rfl) ?_
  refine zfmc (r_getf h (pc := 33) (ix := 19) (by decide +kernel) ckX12 1 (by decide) wk_7f61ef2b1c) ?_
  refine zfmc (r_callV h (pc := 36) (ix := 74) (by decide +kernel) ckX3 0 mcX3_errorPlace wk_2e8a50d46d wk_364cc29c2c wk_81f587bef0 rfl) ?_
  refine zfmc (r_putf h (pc := 39) (ix := 40) (by decide +kernel) ckX12 5 (by decide) 0 (fty := tyX12 5) (tyX12_ok 5 (by decide)) rfl rfl wk_98752a82f0) ?_
  refine zfmc (r_aload_n h (pc := 42) (kf := 0) 0 (by decide +kernel) rfl) ?_
  refine zfmc (r_getf h (pc := 43) (ix := 10) (by decide +kernel) ckX12 0 (by decide) wk_a671cf91f9) ?_
  refine zfmc (r_iconst h (pc := 46) (z := 0) (by decide +kernel) (0) (by decide +kernel)) ?_
  refine zfmc (r_callV h (pc := 47) (ix := 64) (by decide +kernel) ckX9 1 mcX9_shorten wk_53e3c274d4 wk_65723eb818 wk_2cea164447 rfl) ?_
  refine zfmc (r_iload_n h (pc := 50) (kf := 1) 1 (by decide +kernel) rfl) ?_
  refine zfmc (r_if_ne h (pc := 51) (off := 33) (by decide +kernel) 84 (by decide +kernel)) ?_
  refine zfmc (r_aload_n h (pc := 54) (kf := 0) 0 (by decide +kernel) rfl) ?_
  refine zfmc (r_getf h (pc := 55) (ix := 26) (by decide +kernel) ckX12 2 (by decide) wk_de8ce947b7) ?_
  refine zfmc (r_getfN h (pc := 58) (ix := 76) (by decide +kernel) ckX2 0 (by decide) wk_3818d59532) ?_
  refine zfmc (r_getfN h (pc := 61) (ix := 80) (by decide +kernel) ckX4 5 (by decide) wk_71521d046f) ?_
  refine zfmc (r_astore_n h (pc := 64) (kf := 2) 2 (by decide +kernel) rfl (by decide +kernel)) ?_
  refine zfmc (r_aload_n h (pc := 65) (kf := 0) 0 (by decide +kernel) rfl) ?_
  refine zfmc (r_getf h (pc := 66) (ix := 26) (by decide +kernel) ckX12 2 (by decide) wk_de8ce947b7) ?_
  refine zfmc (r_getfN h (pc := 69) (ix := 76) (by decide +kernel) ckX2 0 (by decide) wk_3818d59532) ?_
  refine zfmc (r_aload_n h (pc := 72) (kf := 0) 0 (by decide +kernel) rfl) ?_
  refine zfmc (r_getf h (pc := 73) (ix := 36) (by decide +kernel) ckX12 4 (by decide) wk_8eb3df7f59) ?_
  refine zfmc (r_callV h (pc := 76) (ix := 85) (by decide +kernel) ckX4 1 mcX4_begin wk_a82109d110 wk_263046b6c2 wk_fbf893f646 rfl) ?_
  refine zfmc (r_aload_n h (pc := 79) (kf := 0) 0 (by decide +kernel) rfl) ?_
  refine zfmc (r_aload_n h (pc := 80) (kf := 2) 2 (by decide +kernel) rfl) ?_
  refine zfmc (r_putf h (pc := 81) (ix := 36) (by decide +kernel) ckX12 4 (by decide) 3 (fty := tyX12 4) (tyX12_ok 4 (by decide)) rfl rfl wk_8eb3df7f59) ?_
  refine zfmc (r_iload_n h (pc := 84) (kf := 1) 1 (by decide +kernel) rfl) ?_
  refine zfmc (r_ireturn h (pc := 85) (by decide +kernel) rfl) ?_
  exact zfm0)
def tb_X12_errorAt (E : ZEX) (d mc ms : Nat) : List (Nat × ZStep) := [(0, s_aload 0 1), (1, s_getf 11 5 4), (4, s_ireturn)]
set_option maxRecDepth 20000 in
theorem ok_X12_errorAt {E : ZEX} {X : ZMX} {d mc ms : Nat} {P : ZPT} {T : ZTT} (h : ZCX E X MX12_errorAt d mc ms P T) : ∀ pc, ZRow E X MX12_errorAt mc ms P T pc (ztb (tb_X12_errorAt E d mc ms) pc) := ztb_ok (by
  unfold tb_X12_errorAt
  refine zfmc (r_aload_n h (pc := 0) (kf := 0) 0 (by decide +kernel) rfl) ?_
  refine zfmc (r_getf h (pc := 1) (ix := 40) (by decide +kernel) ckX12 5 (by decide) wk_98752a82f0) ?_
  refine zfmc (r_ireturn h (pc := 4) (by decide +kernel) rfl) ?_
  exact zfm0)
def tb_X12_count (E : ZEX) (d mc ms : Nat) : List (Nat × ZStep) := [(0, s_aload 0 1), (1, s_iload 1 2), (2, s_const (.int (8)) 4), (4, s_callVT E d mc ms 11 MX12_checkWhat 2 7), (7, s_iload 1 8), (8, s_const (.int (8)) 10), (10, s_icmp_ne 23 13), (13, s_aload 0 14), (14, s_getf 11 0 17), (17, s_callV E d mc ms 8 MX9_length 0 20), (20, s_goto 34), (23, s_aload 0 24), (24, s_getf 11 2 27), (27, s_getf 1 0 30), (30, s_iload 1 31), (31, s_callV E d mc ms 3 MX4_number 1 34), (34, s_ireturn)]
set_option maxRecDepth 20000 in
theorem ok_X12_count {E : ZEX} {X : ZMX} {d mc ms : Nat} {P : ZPT} {PX : String → ZHp → Nat → Prop} (hM : zMX E X mc ms P PX) (hTH : ZTH E) (hd7 : 7 ≤ d) (h : ZCX E X MX12_count d mc ms P (zTX mc ms PX)) : ∀ pc, ZRow E X MX12_count mc ms P (zTX mc ms PX) pc (ztb (tb_X12_count E d mc ms) pc) := ztb_ok (by
  unfold tb_X12_count
  refine zfmc (r_aload_n h (pc := 0) (kf := 0) 0 (by decide +kernel) rfl) ?_
  refine zfmc (r_iload_n h (pc := 1) (kf := 1) 1 (by decide +kernel) rfl) ?_
  refine zfmc (r_bipush h (pc := 2) (z := 8) (by decide +kernel) (8) (by decide +kernel)) ?_
  refine zfmc (r_callVT h hM.1 (pc := 4) (ix := 89) (by decide +kernel) ckX12 2 mcX12_checkWhat wk_b253019c6b wk_d15d6fab99 wk_7be2a51217 rfl) ?_
  refine zfmc (r_iload_n h (pc := 7) (kf := 1) 1 (by decide +kernel) rfl) ?_
  refine zfmc (r_bipush h (pc := 8) (z := 8) (by decide +kernel) (8) (by decide +kernel)) ?_
  refine zfmc (r_icmp_ne h (pc := 10) (off := 13) (by decide +kernel) 23 (by decide +kernel)) ?_
  refine zfmc (r_aload_n h (pc := 13) (kf := 0) 0 (by decide +kernel) rfl) ?_
  refine zfmc (r_getf h (pc := 14) (ix := 10) (by decide +kernel) ckX12 0 (by decide) wk_a671cf91f9) ?_
  refine zfmc (r_callV h (pc := 17) (ix := 44) (by decide +kernel) ckX9 0 mcX9_length wk_4501614704 wk_abb0bb9b47 wk_a63e454dd6 rfl) ?_
  refine zfmc (r_goto h (pc := 20) (off := 14) (by decide +kernel) 34 (by decide +kernel)) ?_
  refine zfmc (r_aload_n h (pc := 23) (kf := 0) 0 (by decide +kernel) rfl) ?_
  refine zfmc (r_getf h (pc := 24) (ix := 26) (by decide +kernel) ckX12 2 (by decide) wk_de8ce947b7) ?_
  refine zfmc (r_getfN h (pc := 27) (ix := 76) (by decide +kernel) ckX2 0 (by decide) wk_3818d59532) ?_
  refine zfmc (r_iload_n h (pc := 30) (kf := 1) 1 (by decide +kernel) rfl) ?_
  refine zfmc (r_callV h (pc := 31) (ix := 93) (by decide +kernel) ckX4 1 mcX4_number wk_89fefe7140 wk_e021765630 wk_ad568a8bb4 rfl) ?_
  refine zfmc (r_ireturn h (pc := 34) (by decide +kernel) rfl) ?_
  exact zfm0)
def tb_X12_card (E : ZEX) (d mc ms : Nat) : List (Nat × ZStep) := [(0, s_aload 0 1), (1, s_iload 1 2), (2, s_callVT E d mc ms 11 MX12_checkCard 1 5), (5, s_aload 0 6), (6, s_iload 2 7), (7, s_const (.int (6)) 9), (9, s_callVT E d mc ms 11 MX12_checkWhat 2 12), (12, s_aload 0 13), (13, s_getf 11 2 16), (16, s_getf 1 0 19), (19, s_iload 1 20), (20, s_iload 2 21), (21, s_callV E d mc ms 3 MX4_cardNumber 2 24), (24, s_ireturn)]
set_option maxRecDepth 20000 in
theorem ok_X12_card {E : ZEX} {X : ZMX} {d mc ms : Nat} {P : ZPT} {PX : String → ZHp → Nat → Prop} (hM : zMX E X mc ms P PX) (hTH : ZTH E) (hd7 : 7 ≤ d) (h : ZCX E X MX12_card d mc ms P (zTX mc ms PX)) : ∀ pc, ZRow E X MX12_card mc ms P (zTX mc ms PX) pc (ztb (tb_X12_card E d mc ms) pc) := ztb_ok (by
  unfold tb_X12_card
  refine zfmc (r_aload_n h (pc := 0) (kf := 0) 0 (by decide +kernel) rfl) ?_
  refine zfmc (r_iload_n h (pc := 1) (kf := 1) 1 (by decide +kernel) rfl) ?_
  refine zfmc (r_callVT h hM.1 (pc := 2) (ix := 97) (by decide +kernel) ckX12 1 mcX12_checkCard wk_72a75653ad wk_c3aab37c03 wk_b3672a9c92 rfl) ?_
  refine zfmc (r_aload_n h (pc := 5) (kf := 0) 0 (by decide +kernel) rfl) ?_
  refine zfmc (r_iload_n h (pc := 6) (kf := 2) 2 (by decide +kernel) rfl) ?_
  refine zfmc (r_bipush h (pc := 7) (z := 6) (by decide +kernel) (6) (by decide +kernel)) ?_
  refine zfmc (r_callVT h hM.1 (pc := 9) (ix := 89) (by decide +kernel) ckX12 2 mcX12_checkWhat wk_b253019c6b wk_d15d6fab99 wk_7be2a51217 rfl) ?_
  refine zfmc (r_aload_n h (pc := 12) (kf := 0) 0 (by decide +kernel) rfl) ?_
  refine zfmc (r_getf h (pc := 13) (ix := 26) (by decide +kernel) ckX12 2 (by decide) wk_de8ce947b7) ?_
  refine zfmc (r_getfN h (pc := 16) (ix := 76) (by decide +kernel) ckX2 0 (by decide) wk_3818d59532) ?_
  refine zfmc (r_iload_n h (pc := 19) (kf := 1) 1 (by decide +kernel) rfl) ?_
  refine zfmc (r_iload_n h (pc := 20) (kf := 2) 2 (by decide +kernel) rfl) ?_
  refine zfmc (r_callV h (pc := 21) (ix := 100) (by decide +kernel) ckX4 2 mcX4_cardNumber wk_d426974d98 wk_031c70c59a wk_84c1814675 rfl) ?_
  refine zfmc (r_ireturn h (pc := 24) (by decide +kernel) rfl) ?_
  exact zfm0)
def tb_X12_merchant (E : ZEX) (d mc ms : Nat) : List (Nat × ZStep) := [(0, s_aload 0 1), (1, s_iload 1 2), (2, s_callVT E d mc ms 11 MX12_checkMerchant 1 5), (5, s_aload 0 6), (6, s_iload 2 7), (7, s_const (.int (7)) 9), (9, s_callVT E d mc ms 11 MX12_checkWhat 2 12), (12, s_iload 2 13), (13, s_const (.int (3)) 14), (14, s_icmp_ne 29 17), (17, s_aload 0 18), (18, s_getf 11 2 21), (21, s_getf 1 0 24), (24, s_iload 1 25), (25, s_callV E d mc ms 3 MX4_worth 1 28), (28, s_ireturn), (29, s_aload 0 30), (30, s_getf 11 2 33), (33, s_getf 1 0 36), (36, s_iload 1 37), (37, s_callV E d mc ms 3 MX4_trader 1 40), (40, s_iload 2 41), (41, s_callV E d mc ms 10 MX11_number 1 44), (44, s_ireturn)]
set_option maxRecDepth 20000 in
theorem ok_X12_merchant {E : ZEX} {X : ZMX} {d mc ms : Nat} {P : ZPT} {PX : String → ZHp → Nat → Prop} (hM : zMX E X mc ms P PX) (hTH : ZTH E) (hd7 : 7 ≤ d) (h : ZCX E X MX12_merchant d mc ms P (zTX mc ms PX)) : ∀ pc, ZRow E X MX12_merchant mc ms P (zTX mc ms PX) pc (ztb (tb_X12_merchant E d mc ms) pc) := ztb_ok (by
  unfold tb_X12_merchant
  refine zfmc (r_aload_n h (pc := 0) (kf := 0) 0 (by decide +kernel) rfl) ?_
  refine zfmc (r_iload_n h (pc := 1) (kf := 1) 1 (by decide +kernel) rfl) ?_
  refine zfmc (r_callVT h hM.1 (pc := 2) (ix := 104) (by decide +kernel) ckX12 1 mcX12_checkMerchant wk_4f0781a151 wk_a089bef1dd wk_993ae4a147 rfl) ?_
  refine zfmc (r_aload_n h (pc := 5) (kf := 0) 0 (by decide +kernel) rfl) ?_
  refine zfmc (r_iload_n h (pc := 6) (kf := 2) 2 (by decide +kernel) rfl) ?_
  refine zfmc (r_bipush h (pc := 7) (z := 7) (by decide +kernel) (7) (by decide +kernel)) ?_
  refine zfmc (r_callVT h hM.1 (pc := 9) (ix := 89) (by decide +kernel) ckX12 2 mcX12_checkWhat wk_b253019c6b wk_d15d6fab99 wk_7be2a51217 rfl) ?_
  refine zfmc (r_iload_n h (pc := 12) (kf := 2) 2 (by decide +kernel) rfl) ?_
  refine zfmc (r_iconst h (pc := 13) (z := 3) (by decide +kernel) (3) (by decide +kernel)) ?_
  refine zfmc (r_icmp_ne h (pc := 14) (off := 15) (by decide +kernel) 29 (by decide +kernel)) ?_
  refine zfmc (r_aload_n h (pc := 17) (kf := 0) 0 (by decide +kernel) rfl) ?_
  refine zfmc (r_getf h (pc := 18) (ix := 26) (by decide +kernel) ckX12 2 (by decide) wk_de8ce947b7) ?_
  refine zfmc (r_getfN h (pc := 21) (ix := 76) (by decide +kernel) ckX2 0 (by decide) wk_3818d59532) ?_
  refine zfmc (r_iload_n h (pc := 24) (kf := 1) 1 (by decide +kernel) rfl) ?_
  refine zfmc (r_callV h (pc := 25) (ix := 107) (by decide +kernel) ckX4 1 mcX4_worth wk_02cd43441e wk_fed93bee32 wk_207461d6d6 rfl) ?_
  refine zfmc (r_ireturn h (pc := 28) (by decide +kernel) rfl) ?_
  refine zfmc (r_aload_n h (pc := 29) (kf := 0) 0 (by decide +kernel) rfl) ?_
  refine zfmc (r_getf h (pc := 30) (ix := 26) (by decide +kernel) ckX12 2 (by decide) wk_de8ce947b7) ?_
  refine zfmc (r_getfN h (pc := 33) (ix := 76) (by decide +kernel) ckX2 0 (by decide) wk_3818d59532) ?_
  refine zfmc (r_iload_n h (pc := 36) (kf := 1) 1 (by decide +kernel) rfl) ?_
  refine zfmc (r_callV h (pc := 37) (ix := 110) (by decide +kernel) ckX4 1 mcX4_trader wk_70b2a8186c wk_2ba7abda0d wk_a79dbba60d rfl) ?_
  refine zfmc (r_iload_n h (pc := 40) (kf := 2) 2 (by decide +kernel) rfl) ?_
  refine zfmc (r_callV h (pc := 41) (ix := 114) (by decide +kernel) ckX11 1 mcX11_number wk_582fbfa690 wk_d4a75afa6a wk_b104e813f2 rfl) ?_
  refine zfmc (r_ireturn h (pc := 44) (by decide +kernel) rfl) ?_
  exact zfm0)
def tb_X12_owns (E : ZEX) (d mc ms : Nat) : List (Nat × ZStep) := [(0, s_aload 0 1), (1, s_iload 1 2), (2, s_callVT E d mc ms 11 MX12_checkMerchant 1 5), (5, s_aload 0 6), (6, s_iload 2 7), (7, s_callVT E d mc ms 11 MX12_checkCard 1 10), (10, s_aload 0 11), (11, s_getf 11 2 14), (14, s_getf 1 0 17), (17, s_iload 1 18), (18, s_callV E d mc ms 3 MX4_trader 1 21), (21, s_getf 10 2 24), (24, s_iload 2 25), (25, s_callV E d mc ms 4 MX5_get 1 28), (28, s_ireturn)]
set_option maxRecDepth 20000 in
theorem ok_X12_owns {E : ZEX} {X : ZMX} {d mc ms : Nat} {P : ZPT} {PX : String → ZHp → Nat → Prop} (hM : zMX E X mc ms P PX) (hTH : ZTH E) (hd7 : 7 ≤ d) (h : ZCX E X MX12_owns d mc ms P (zTX mc ms PX)) : ∀ pc, ZRow E X MX12_owns mc ms P (zTX mc ms PX) pc (ztb (tb_X12_owns E d mc ms) pc) := ztb_ok (by
  unfold tb_X12_owns
  refine zfmc (r_aload_n h (pc := 0) (kf := 0) 0 (by decide +kernel) rfl) ?_
  refine zfmc (r_iload_n h (pc := 1) (kf := 1) 1 (by decide +kernel) rfl) ?_
  refine zfmc (r_callVT h hM.1 (pc := 2) (ix := 104) (by decide +kernel) ckX12 1 mcX12_checkMerchant wk_4f0781a151 wk_a089bef1dd wk_993ae4a147 rfl) ?_
  refine zfmc (r_aload_n h (pc := 5) (kf := 0) 0 (by decide +kernel) rfl) ?_
  refine zfmc (r_iload_n h (pc := 6) (kf := 2) 2 (by decide +kernel) rfl) ?_
  refine zfmc (r_callVT h hM.1 (pc := 7) (ix := 97) (by decide +kernel) ckX12 1 mcX12_checkCard wk_72a75653ad wk_c3aab37c03 wk_b3672a9c92 rfl) ?_
  refine zfmc (r_aload_n h (pc := 10) (kf := 0) 0 (by decide +kernel) rfl) ?_
  refine zfmc (r_getf h (pc := 11) (ix := 26) (by decide +kernel) ckX12 2 (by decide) wk_de8ce947b7) ?_
  refine zfmc (r_getfN h (pc := 14) (ix := 76) (by decide +kernel) ckX2 0 (by decide) wk_3818d59532) ?_
  refine zfmc (r_iload_n h (pc := 17) (kf := 1) 1 (by decide +kernel) rfl) ?_
  refine zfmc (r_callV h (pc := 18) (ix := 110) (by decide +kernel) ckX4 1 mcX4_trader wk_70b2a8186c wk_2ba7abda0d wk_a79dbba60d rfl) ?_
  refine zfmc (r_getfN h (pc := 21) (ix := 117) (by decide +kernel) ckX11 2 (by decide) wk_9bc0ae2598) ?_
  refine zfmc (r_iload_n h (pc := 24) (kf := 2) 2 (by decide +kernel) rfl) ?_
  refine zfmc (r_callV h (pc := 25) (ix := 121) (by decide +kernel) ckX5 1 mcX5_get wk_d096485f84 wk_0beb95ca34 wk_1db6b0b94a rfl) ?_
  refine zfmc (r_ireturn h (pc := 28) (by decide +kernel) rfl) ?_
  exact zfm0)
def tb_X12_deck (E : ZEX) (d mc ms : Nat) : List (Nat × ZStep) := [(0, s_aload 0 1), (1, s_iload 1 2), (2, s_callVT E d mc ms 11 MX12_checkMerchant 1 5), (5, s_aload 0 6), (6, s_getf 11 2 9), (9, s_getf 1 0 12), (12, s_iload 1 13), (13, s_callV E d mc ms 3 MX4_trader 1 16), (16, s_astore 3 17), (17, s_aload 0 18), (18, s_iload 2 19), (19, s_aload 3 20), (20, s_callV E d mc ms 10 MX11_deckSize 0 23), (23, s_callVT E d mc ms 11 MX12_checkPlace 2 26), (26, s_aload 3 27), (27, s_iload 2 28), (28, s_callV E d mc ms 10 MX11_deckCard 1 31), (31, s_ireturn)]
set_option maxRecDepth 20000 in
theorem ok_X12_deck {E : ZEX} {X : ZMX} {d mc ms : Nat} {P : ZPT} {PX : String → ZHp → Nat → Prop} (hM : zMX E X mc ms P PX) (hTH : ZTH E) (hd7 : 7 ≤ d) (h : ZCX E X MX12_deck d mc ms P (zTX mc ms PX)) : ∀ pc, ZRow E X MX12_deck mc ms P (zTX mc ms PX) pc (ztb (tb_X12_deck E d mc ms) pc) := ztb_ok (by
  unfold tb_X12_deck
  refine zfmc (r_aload_n h (pc := 0) (kf := 0) 0 (by decide +kernel) rfl) ?_
  refine zfmc (r_iload_n h (pc := 1) (kf := 1) 1 (by decide +kernel) rfl) ?_
  refine zfmc (r_callVT h hM.1 (pc := 2) (ix := 104) (by decide +kernel) ckX12 1 mcX12_checkMerchant wk_4f0781a151 wk_a089bef1dd wk_993ae4a147 rfl) ?_
  refine zfmc (r_aload_n h (pc := 5) (kf := 0) 0 (by decide +kernel) rfl) ?_
  refine zfmc (r_getf h (pc := 6) (ix := 26) (by decide +kernel) ckX12 2 (by decide) wk_de8ce947b7) ?_
  refine zfmc (r_getfN h (pc := 9) (ix := 76) (by decide +kernel) ckX2 0 (by decide) wk_3818d59532) ?_
  refine zfmc (r_iload_n h (pc := 12) (kf := 1) 1 (by decide +kernel) rfl) ?_
  refine zfmc (r_callV h (pc := 13) (ix := 110) (by decide +kernel) ckX4 1 mcX4_trader wk_70b2a8186c wk_2ba7abda0d wk_a79dbba60d rfl) ?_
  refine zfmc (r_astore_n h (pc := 16) (kf := 3) 3 (by decide +kernel) rfl (by decide +kernel)) ?_
  refine zfmc (r_aload_n h (pc := 17) (kf := 0) 0 (by decide +kernel) rfl) ?_
  refine zfmc (r_iload_n h (pc := 18) (kf := 2) 2 (by decide +kernel) rfl) ?_
  refine zfmc (r_aload_n h (pc := 19) (kf := 3) 3 (by decide +kernel) rfl) ?_
  refine zfmc (r_callV h (pc := 20) (ix := 126) (by decide +kernel) ckX11 0 mcX11_deckSize wk_e9d0ddb9cc wk_02fec1d4d1 wk_2c6efe0eda rfl) ?_
  refine zfmc (r_callVT h hM.1 (pc := 23) (ix := 129) (by decide +kernel) ckX12 2 mcX12_checkPlace wk_ca92a13fc6 wk_331cfb197a wk_c3f4fc5a82 rfl) ?_
  refine zfmc (r_aload_n h (pc := 26) (kf := 3) 3 (by decide +kernel) rfl) ?_
  refine zfmc (r_iload_n h (pc := 27) (kf := 2) 2 (by decide +kernel) rfl) ?_
  refine zfmc (r_callV h (pc := 28) (ix := 132) (by decide +kernel) ckX11 1 mcX11_deckCard wk_dd78470f08 wk_219c2f831a wk_392f875767 rfl) ?_
  refine zfmc (r_ireturn h (pc := 31) (by decide +kernel) rfl) ?_
  exact zfm0)
def tb_X12_discard (E : ZEX) (d mc ms : Nat) : List (Nat × ZStep) := [(0, s_aload 0 1), (1, s_iload 1 2), (2, s_callVT E d mc ms 11 MX12_checkMerchant 1 5), (5, s_aload 0 6), (6, s_getf 11 2 9), (9, s_getf 1 0 12), (12, s_iload 1 13), (13, s_callV E d mc ms 3 MX4_trader 1 16), (16, s_astore 3 17), (17, s_aload 0 18), (18, s_iload 2 19), (19, s_aload 3 20), (20, s_getf 10 1 23), (23, s_callV E d mc ms 4 MX5_size 0 26), (26, s_callVT E d mc ms 11 MX12_checkPlace 2 29), (29, s_aload 3 30), (30, s_getf 10 1 33), (33, s_iload 2 34), (34, s_callV E d mc ms 4 MX5_get 1 37), (37, s_ireturn)]
set_option maxRecDepth 20000 in
theorem ok_X12_discard {E : ZEX} {X : ZMX} {d mc ms : Nat} {P : ZPT} {PX : String → ZHp → Nat → Prop} (hM : zMX E X mc ms P PX) (hTH : ZTH E) (hd7 : 7 ≤ d) (h : ZCX E X MX12_discard d mc ms P (zTX mc ms PX)) : ∀ pc, ZRow E X MX12_discard mc ms P (zTX mc ms PX) pc (ztb (tb_X12_discard E d mc ms) pc) := ztb_ok (by
  unfold tb_X12_discard
  refine zfmc (r_aload_n h (pc := 0) (kf := 0) 0 (by decide +kernel) rfl) ?_
  refine zfmc (r_iload_n h (pc := 1) (kf := 1) 1 (by decide +kernel) rfl) ?_
  refine zfmc (r_callVT h hM.1 (pc := 2) (ix := 104) (by decide +kernel) ckX12 1 mcX12_checkMerchant wk_4f0781a151 wk_a089bef1dd wk_993ae4a147 rfl) ?_
  refine zfmc (r_aload_n h (pc := 5) (kf := 0) 0 (by decide +kernel) rfl) ?_
  refine zfmc (r_getf h (pc := 6) (ix := 26) (by decide +kernel) ckX12 2 (by decide) wk_de8ce947b7) ?_
  refine zfmc (r_getfN h (pc := 9) (ix := 76) (by decide +kernel) ckX2 0 (by decide) wk_3818d59532) ?_
  refine zfmc (r_iload_n h (pc := 12) (kf := 1) 1 (by decide +kernel) rfl) ?_
  refine zfmc (r_callV h (pc := 13) (ix := 110) (by decide +kernel) ckX4 1 mcX4_trader wk_70b2a8186c wk_2ba7abda0d wk_a79dbba60d rfl) ?_
  refine zfmc (r_astore_n h (pc := 16) (kf := 3) 3 (by decide +kernel) rfl (by decide +kernel)) ?_
  refine zfmc (r_aload_n h (pc := 17) (kf := 0) 0 (by decide +kernel) rfl) ?_
  refine zfmc (r_iload_n h (pc := 18) (kf := 2) 2 (by decide +kernel) rfl) ?_
  refine zfmc (r_aload_n h (pc := 19) (kf := 3) 3 (by decide +kernel) rfl) ?_
  refine zfmc (r_getfN h (pc := 20) (ix := 135) (by decide +kernel) ckX11 1 (by decide) wk_883a353630) ?_
  refine zfmc (r_callV h (pc := 23) (ix := 138) (by decide +kernel) ckX5 0 mcX5_size wk_2a1282b961 wk_0bfc700cb8 wk_5abe0e2775 rfl) ?_
  refine zfmc (r_callVT h hM.1 (pc := 26) (ix := 129) (by decide +kernel) ckX12 2 mcX12_checkPlace wk_ca92a13fc6 wk_331cfb197a wk_c3f4fc5a82 rfl) ?_
  refine zfmc (r_aload_n h (pc := 29) (kf := 3) 3 (by decide +kernel) rfl) ?_
  refine zfmc (r_getfN h (pc := 30) (ix := 135) (by decide +kernel) ckX11 1 (by decide) wk_883a353630) ?_
  refine zfmc (r_iload_n h (pc := 33) (kf := 2) 2 (by decide +kernel) rfl) ?_
  refine zfmc (r_callV h (pc := 34) (ix := 121) (by decide +kernel) ckX5 1 mcX5_get wk_d096485f84 wk_0beb95ca34 wk_1db6b0b94a rfl) ?_
  refine zfmc (r_ireturn h (pc := 37) (by decide +kernel) rfl) ?_
  exact zfm0)
def tb_X12_leader (E : ZEX) (d mc ms : Nat) : List (Nat × ZStep) := [(0, s_aload 0 1), (1, s_getf 11 2 4), (4, s_getf 1 0 7), (7, s_callV E d mc ms 3 MX4_worthiest 0 10), (10, s_ireturn)]
set_option maxRecDepth 20000 in
theorem ok_X12_leader {E : ZEX} {X : ZMX} {d mc ms : Nat} {P : ZPT} {T : ZTT} (h : ZCX E X MX12_leader d mc ms P T) : ∀ pc, ZRow E X MX12_leader mc ms P T pc (ztb (tb_X12_leader E d mc ms) pc) := ztb_ok (by
  unfold tb_X12_leader
  refine zfmc (r_aload_n h (pc := 0) (kf := 0) 0 (by decide +kernel) rfl) ?_
  refine zfmc (r_getf h (pc := 1) (ix := 26) (by decide +kernel) ckX12 2 (by decide) wk_de8ce947b7) ?_
  refine zfmc (r_getfN h (pc := 4) (ix := 76) (by decide +kernel) ckX2 0 (by decide) wk_3818d59532) ?_
  refine zfmc (r_callV h (pc := 7) (ix := 141) (by decide +kernel) ckX4 0 mcX4_worthiest wk_1d8b367fc6 wk_16b6e53e22 wk_e83e9f83d8 rfl) ?_
  refine zfmc (r_ireturn h (pc := 10) (by decide +kernel) rfl) ?_
  exact zfm0)
def tb_X12_give (E : ZEX) (d mc ms : Nat) : List (Nat × ZStep) := [(0, s_aload 0 1), (1, s_iload 1 2), (2, s_callVT E d mc ms 11 MX12_checkMerchant 1 5), (5, s_aload 0 6), (6, s_iload 2 7), (7, s_callVT E d mc ms 11 MX12_checkCard 1 10), (10, s_aload 0 11), (11, s_getf 11 2 14), (14, s_getf 1 0 17), (17, s_iload 1 18), (18, s_iload 2 19), (19, s_callV E d mc ms 3 MX4_canGain 2 22), (22, s_if_ne 35 25), (25, s_throw "java/lang/IllegalStateException"), (35, s_aload 0 36), (36, s_getf 11 2 39), (39, s_getf 1 0 42), (42, s_iload 1 43), (43, s_iload 2 44), (44, s_callV E d mc ms 3 MX4_gain 2 47), (47, s_aload 0 48), (48, s_getf 11 2 51), (51, s_getf 1 0 54), (54, s_getf 3 0 57), (57, s_iload 2 58), (58, s_callV E d mc ms 4 MX5_get 1 61), (61, s_ireturn)]
set_option maxRecDepth 20000 in
theorem ok_X12_give {E : ZEX} {X : ZMX} {d mc ms : Nat} {P : ZPT} {PX : String → ZHp → Nat → Prop} (hM : zMX E X mc ms P PX) (hTH : ZTH E) (hd7 : 7 ≤ d) (h : ZCX E X MX12_give d mc ms P (zTX mc ms PX)) : ∀ pc, ZRow E X MX12_give mc ms P (zTX mc ms PX) pc (ztb (tb_X12_give E d mc ms) pc) := ztb_ok (by
  unfold tb_X12_give
  refine zfmc (r_aload_n h (pc := 0) (kf := 0) 0 (by decide +kernel) rfl) ?_
  refine zfmc (r_iload_n h (pc := 1) (kf := 1) 1 (by decide +kernel) rfl) ?_
  refine zfmc (r_callVT h hM.1 (pc := 2) (ix := 104) (by decide +kernel) ckX12 1 mcX12_checkMerchant wk_4f0781a151 wk_a089bef1dd wk_993ae4a147 rfl) ?_
  refine zfmc (r_aload_n h (pc := 5) (kf := 0) 0 (by decide +kernel) rfl) ?_
  refine zfmc (r_iload_n h (pc := 6) (kf := 2) 2 (by decide +kernel) rfl) ?_
  refine zfmc (r_callVT h hM.1 (pc := 7) (ix := 97) (by decide +kernel) ckX12 1 mcX12_checkCard wk_72a75653ad wk_c3aab37c03 wk_b3672a9c92 rfl) ?_
  refine zfmc (r_aload_n h (pc := 10) (kf := 0) 0 (by decide +kernel) rfl) ?_
  refine zfmc (r_getf h (pc := 11) (ix := 26) (by decide +kernel) ckX12 2 (by decide) wk_de8ce947b7) ?_
  refine zfmc (r_getfN h (pc := 14) (ix := 76) (by decide +kernel) ckX2 0 (by decide) wk_3818d59532) ?_
  refine zfmc (r_iload_n h (pc := 17) (kf := 1) 1 (by decide +kernel) rfl) ?_
  refine zfmc (r_iload_n h (pc := 18) (kf := 2) 2 (by decide +kernel) rfl) ?_
  refine zfmc (r_callV h (pc := 19) (ix := 144) (by decide +kernel) ckX4 2 mcX4_canGain wk_ef75030472 wk_8b87feb1c8 wk_28c121af57 rfl) ?_
  refine zfmc (r_if_ne h (pc := 22) (off := 13) (by decide +kernel) 35 (by decide +kernel)) ?_
  refine zfmc (r_throw h hM (pc := 25) (hTH (148, "the pile is empty, or the merchant owns too many cards", 48, 52, "java/lang/IllegalStateException") (by decide)) hd7 (by decide +kernel) zot_S (by decide +kernel) (by decide +kernel) (by decide +kernel) (by decide +kernel) (by decide +kernel)) ?_
  refine zfmc (r_aload_n h (pc := 35) (kf := 0) 0 (by decide +kernel) rfl) ?_
  refine zfmc (r_getf h (pc := 36) (ix := 26) (by decide +kernel) ckX12 2 (by decide) wk_de8ce947b7) ?_
  refine zfmc (r_getfN h (pc := 39) (ix := 76) (by decide +kernel) ckX2 0 (by decide) wk_3818d59532) ?_
  refine zfmc (r_iload_n h (pc := 42) (kf := 1) 1 (by decide +kernel) rfl) ?_
  refine zfmc (r_iload_n h (pc := 43) (kf := 2) 2 (by decide +kernel) rfl) ?_
  refine zfmc (r_callV h (pc := 44) (ix := 150) (by decide +kernel) ckX4 2 mcX4_gain wk_105b2081ed wk_7c4947dd74 wk_e15baf71b6 rfl) ?_
  refine zfmc (r_aload_n h (pc := 47) (kf := 0) 0 (by decide +kernel) rfl) ?_
  refine zfmc (r_getf h (pc := 48) (ix := 26) (by decide +kernel) ckX12 2 (by decide) wk_de8ce947b7) ?_
  refine zfmc (r_getfN h (pc := 51) (ix := 76) (by decide +kernel) ckX2 0 (by decide) wk_3818d59532) ?_
  refine zfmc (r_getfN h (pc := 54) (ix := 153) (by decide +kernel) ckX4 0 (by decide) wk_000fd12782) ?_
  refine zfmc (r_iload_n h (pc := 57) (kf := 2) 2 (by decide +kernel) rfl) ?_
  refine zfmc (r_callV h (pc := 58) (ix := 121) (by decide +kernel) ckX5 1 mcX5_get wk_d096485f84 wk_0beb95ca34 wk_1db6b0b94a rfl) ?_
  refine zfmc (r_ireturn h (pc := 61) (by decide +kernel) rfl) ?_
  exact zfm0)
def tb_X12_trash (E : ZEX) (d mc ms : Nat) : List (Nat × ZStep) := [(0, s_aload 0 1), (1, s_iload 1 2), (2, s_callVT E d mc ms 11 MX12_checkMerchant 1 5), (5, s_aload 0 6), (6, s_iload 2 7), (7, s_callVT E d mc ms 11 MX12_checkCard 1 10), (10, s_aload 0 11), (11, s_getf 11 2 14), (14, s_getf 1 0 17), (17, s_iload 1 18), (18, s_callV E d mc ms 3 MX4_trader 1 21), (21, s_astore 3 22), (22, s_aload 3 23), (23, s_getf 10 1 26), (26, s_iload 2 27), (27, s_const (.int (0)) 28), (28, s_callV E d mc ms 4 MX5_find 2 31), (31, s_istore 4 33), (33, s_iload 4 35), (35, s_const (.int (-1)) 36), (36, s_icmp_ne 49 39), (39, s_throw "java/lang/IllegalStateException"), (49, s_aload 3 50), (50, s_getf 10 1 53), (53, s_iload 4 55), (55, s_const (.int (1)) 56), (56, s_callV E d mc ms 4 MX5_cut 2 59), (59, s_aload 3 60), (60, s_iload 2 61), (61, s_callV E d mc ms 10 MX11_lose 1 64), (64, s_iload 4 66), (66, s_ireturn)]
set_option maxRecDepth 20000 in
theorem ok_X12_trash {E : ZEX} {X : ZMX} {d mc ms : Nat} {P : ZPT} {PX : String → ZHp → Nat → Prop} (hM : zMX E X mc ms P PX) (hTH : ZTH E) (hd7 : 7 ≤ d) (h : ZCX E X MX12_trash d mc ms P (zTX mc ms PX)) : ∀ pc, ZRow E X MX12_trash mc ms P (zTX mc ms PX) pc (ztb (tb_X12_trash E d mc ms) pc) := ztb_ok (by
  unfold tb_X12_trash
  refine zfmc (r_aload_n h (pc := 0) (kf := 0) 0 (by decide +kernel) rfl) ?_
  refine zfmc (r_iload_n h (pc := 1) (kf := 1) 1 (by decide +kernel) rfl) ?_
  refine zfmc (r_callVT h hM.1 (pc := 2) (ix := 104) (by decide +kernel) ckX12 1 mcX12_checkMerchant wk_4f0781a151 wk_a089bef1dd wk_993ae4a147 rfl) ?_
  refine zfmc (r_aload_n h (pc := 5) (kf := 0) 0 (by decide +kernel) rfl) ?_
  refine zfmc (r_iload_n h (pc := 6) (kf := 2) 2 (by decide +kernel) rfl) ?_
  refine zfmc (r_callVT h hM.1 (pc := 7) (ix := 97) (by decide +kernel) ckX12 1 mcX12_checkCard wk_72a75653ad wk_c3aab37c03 wk_b3672a9c92 rfl) ?_
  refine zfmc (r_aload_n h (pc := 10) (kf := 0) 0 (by decide +kernel) rfl) ?_
  refine zfmc (r_getf h (pc := 11) (ix := 26) (by decide +kernel) ckX12 2 (by decide) wk_de8ce947b7) ?_
  refine zfmc (r_getfN h (pc := 14) (ix := 76) (by decide +kernel) ckX2 0 (by decide) wk_3818d59532) ?_
  refine zfmc (r_iload_n h (pc := 17) (kf := 1) 1 (by decide +kernel) rfl) ?_
  refine zfmc (r_callV h (pc := 18) (ix := 110) (by decide +kernel) ckX4 1 mcX4_trader wk_70b2a8186c wk_2ba7abda0d wk_a79dbba60d rfl) ?_
  refine zfmc (r_astore_n h (pc := 21) (kf := 3) 3 (by decide +kernel) rfl (by decide +kernel)) ?_
  refine zfmc (r_aload_n h (pc := 22) (kf := 3) 3 (by decide +kernel) rfl) ?_
  refine zfmc (r_getfN h (pc := 23) (ix := 135) (by decide +kernel) ckX11 1 (by decide) wk_883a353630) ?_
  refine zfmc (r_iload_n h (pc := 26) (kf := 2) 2 (by decide +kernel) rfl) ?_
  refine zfmc (r_iconst h (pc := 27) (z := 0) (by decide +kernel) (0) (by decide +kernel)) ?_
  refine zfmc (r_callV h (pc := 28) (ix := 156) (by decide +kernel) ckX5 2 mcX5_find wk_2edc606aa4 wk_cfec6a1cfe wk_f0df594bc9 rfl) ?_
  refine zfmc (r_istore h (pc := 31) 4 (by decide +kernel) (by decide +kernel)) ?_
  refine zfmc (r_iload h (pc := 33) 4 (by decide +kernel)) ?_
  refine zfmc (r_iconst h (pc := 35) (z := -1) (by decide +kernel) (-1) (by decide +kernel)) ?_
  refine zfmc (r_icmp_ne h (pc := 36) (off := 13) (by decide +kernel) 49 (by decide +kernel)) ?_
  refine zfmc (r_throw h hM (pc := 39) (hTH (159, "there is no such card among the discards", 48, 52, "java/lang/IllegalStateException") (by decide)) hd7 (by decide +kernel) zot_S (by decide +kernel) (by decide +kernel) (by decide +kernel) (by decide +kernel) (by decide +kernel)) ?_
  refine zfmc (r_aload_n h (pc := 49) (kf := 3) 3 (by decide +kernel) rfl) ?_
  refine zfmc (r_getfN h (pc := 50) (ix := 135) (by decide +kernel) ckX11 1 (by decide) wk_883a353630) ?_
  refine zfmc (r_iload h (pc := 53) 4 (by decide +kernel)) ?_
  refine zfmc (r_iconst h (pc := 55) (z := 1) (by decide +kernel) (1) (by decide +kernel)) ?_
  refine zfmc (r_callV h (pc := 56) (ix := 161) (by decide +kernel) ckX5 2 mcX5_cut wk_626fd87c2d wk_e6c0bf30c5 wk_854227e5ee rfl) ?_
  refine zfmc (r_aload_n h (pc := 59) (kf := 3) 3 (by decide +kernel) rfl) ?_
  refine zfmc (r_iload_n h (pc := 60) (kf := 2) 2 (by decide +kernel) rfl) ?_
  refine zfmc (r_callV h (pc := 61) (ix := 164) (by decide +kernel) ckX11 1 mcX11_lose wk_18fed2f7c7 wk_9ef53b64f9 wk_cd568a7c4d rfl) ?_
  refine zfmc (r_iload h (pc := 64) 4 (by decide +kernel)) ?_
  refine zfmc (r_ireturn h (pc := 66) (by decide +kernel) rfl) ?_
  exact zfm0)
def tb_X12_shuffle (E : ZEX) (d mc ms : Nat) : List (Nat × ZStep) := [(0, s_aload 0 1), (1, s_iload 1 2), (2, s_callVT E d mc ms 11 MX12_checkMerchant 1 5), (5, s_aload 0 6), (6, s_getf 11 2 9), (9, s_getf 1 0 12), (12, s_iload 1 13), (13, s_callV E d mc ms 3 MX4_trader 1 16), (16, s_astore 2 17), (17, s_aload 2 18), (18, s_callV E d mc ms 10 MX11_mixDiscards 0 21), (21, s_aload 2 22), (22, s_callV E d mc ms 10 MX11_deckSize 0 25), (25, s_ireturn)]
set_option maxRecDepth 20000 in
theorem ok_X12_shuffle {E : ZEX} {X : ZMX} {d mc ms : Nat} {P : ZPT} {PX : String → ZHp → Nat → Prop} (hM : zMX E X mc ms P PX) (hTH : ZTH E) (hd7 : 7 ≤ d) (h : ZCX E X MX12_shuffle d mc ms P (zTX mc ms PX)) : ∀ pc, ZRow E X MX12_shuffle mc ms P (zTX mc ms PX) pc (ztb (tb_X12_shuffle E d mc ms) pc) := ztb_ok (by
  unfold tb_X12_shuffle
  refine zfmc (r_aload_n h (pc := 0) (kf := 0) 0 (by decide +kernel) rfl) ?_
  refine zfmc (r_iload_n h (pc := 1) (kf := 1) 1 (by decide +kernel) rfl) ?_
  refine zfmc (r_callVT h hM.1 (pc := 2) (ix := 104) (by decide +kernel) ckX12 1 mcX12_checkMerchant wk_4f0781a151 wk_a089bef1dd wk_993ae4a147 rfl) ?_
  refine zfmc (r_aload_n h (pc := 5) (kf := 0) 0 (by decide +kernel) rfl) ?_
  refine zfmc (r_getf h (pc := 6) (ix := 26) (by decide +kernel) ckX12 2 (by decide) wk_de8ce947b7) ?_
  refine zfmc (r_getfN h (pc := 9) (ix := 76) (by decide +kernel) ckX2 0 (by decide) wk_3818d59532) ?_
  refine zfmc (r_iload_n h (pc := 12) (kf := 1) 1 (by decide +kernel) rfl) ?_
  refine zfmc (r_callV h (pc := 13) (ix := 110) (by decide +kernel) ckX4 1 mcX4_trader wk_70b2a8186c wk_2ba7abda0d wk_a79dbba60d rfl) ?_
  refine zfmc (r_astore_n h (pc := 16) (kf := 2) 2 (by decide +kernel) rfl (by decide +kernel)) ?_
  refine zfmc (r_aload_n h (pc := 17) (kf := 2) 2 (by decide +kernel) rfl) ?_
  refine zfmc (r_callV h (pc := 18) (ix := 167) (by decide +kernel) ckX11 0 mcX11_mixDiscards wk_996c35ad09 wk_7e177bbf3d wk_b1d87b6d16 rfl) ?_
  refine zfmc (r_aload_n h (pc := 21) (kf := 2) 2 (by decide +kernel) rfl) ?_
  refine zfmc (r_callV h (pc := 22) (ix := 126) (by decide +kernel) ckX11 0 mcX11_deckSize wk_e9d0ddb9cc wk_02fec1d4d1 wk_2c6efe0eda rfl) ?_
  refine zfmc (r_ireturn h (pc := 25) (by decide +kernel) rfl) ?_
  exact zfm0)
def tb_X12_play (E : ZEX) (d mc ms : Nat) : List (Nat × ZStep) := [(0, s_aload 0 1), (1, s_iload 1 2), (2, s_const (.int (40)) 4), (4, s_callVT E d mc ms 11 MX12_checkRounds 2 7), (7, s_aload 0 8), (8, s_getf 11 2 11), (11, s_iload 1 12), (12, s_const (.int (-1)) 13), (13, s_callV E d mc ms 1 MX2_playRounds 2 16), (16, s_ireturn)]
set_option maxRecDepth 20000 in
theorem ok_X12_play {E : ZEX} {X : ZMX} {d mc ms : Nat} {P : ZPT} {PX : String → ZHp → Nat → Prop} (hM : zMX E X mc ms P PX) (hTH : ZTH E) (hd7 : 7 ≤ d) (h : ZCX E X MX12_play d mc ms P (zTX mc ms PX)) : ∀ pc, ZRow E X MX12_play mc ms P (zTX mc ms PX) pc (ztb (tb_X12_play E d mc ms) pc) := ztb_ok (by
  unfold tb_X12_play
  refine zfmc (r_aload_n h (pc := 0) (kf := 0) 0 (by decide +kernel) rfl) ?_
  refine zfmc (r_iload_n h (pc := 1) (kf := 1) 1 (by decide +kernel) rfl) ?_
  refine zfmc (r_bipush h (pc := 2) (z := 40) (by decide +kernel) (40) (by decide +kernel)) ?_
  refine zfmc (r_callVT h hM.1 (pc := 4) (ix := 170) (by decide +kernel) ckX12 2 mcX12_checkRounds wk_441a72da9b wk_fa34e962d3 wk_efd568b7ca rfl) ?_
  refine zfmc (r_aload_n h (pc := 7) (kf := 0) 0 (by decide +kernel) rfl) ?_
  refine zfmc (r_getf h (pc := 8) (ix := 26) (by decide +kernel) ckX12 2 (by decide) wk_de8ce947b7) ?_
  refine zfmc (r_iload_n h (pc := 11) (kf := 1) 1 (by decide +kernel) rfl) ?_
  refine zfmc (r_iconst h (pc := 12) (z := -1) (by decide +kernel) (-1) (by decide +kernel)) ?_
  refine zfmc (r_callV h (pc := 13) (ix := 173) (by decide +kernel) ckX2 2 mcX2_playRounds wk_e2d485e88b wk_58faf4efcd wk_95e2dc37fe rfl) ?_
  refine zfmc (r_ireturn h (pc := 16) (by decide +kernel) rfl) ?_
  exact zfm0)
def tb_X12_next (E : ZEX) (d mc ms : Nat) : List (Nat × ZStep) := [(0, s_aload 0 1), (1, s_iload 1 2), (2, s_callVT E d mc ms 11 MX12_checkMerchant 1 5), (5, s_aload 0 6), (6, s_iload 2 7), (7, s_const (.int (4)) 8), (8, s_callVT E d mc ms 11 MX12_checkWhat 2 11), (11, s_aload 0 12), (12, s_getf 11 3 15), (15, s_getf 1 0 18), (18, s_aload 0 19), (19, s_getf 11 2 22), (22, s_getf 1 0 25), (25, s_callV E d mc ms 3 MX4_copy 1 28), (28, s_aload 0 29), (29, s_getf 11 3 32), (32, s_iload 1 33), (33, s_const (.int (-1)) 34), (34, s_callV E d mc ms 1 MX2_takeTurn 2 37), (37, s_aload 0 38), (38, s_getf 11 3 41), (41, s_iload 2 42), (42, s_callV E d mc ms 1 MX2_turnNumber 1 45), (45, s_ireturn)]
set_option maxRecDepth 20000 in
theorem ok_X12_next {E : ZEX} {X : ZMX} {d mc ms : Nat} {P : ZPT} {PX : String → ZHp → Nat → Prop} (hM : zMX E X mc ms P PX) (hTH : ZTH E) (hd7 : 7 ≤ d) (h : ZCX E X MX12_next d mc ms P (zTX mc ms PX)) : ∀ pc, ZRow E X MX12_next mc ms P (zTX mc ms PX) pc (ztb (tb_X12_next E d mc ms) pc) := ztb_ok (by
  unfold tb_X12_next
  refine zfmc (r_aload_n h (pc := 0) (kf := 0) 0 (by decide +kernel) rfl) ?_
  refine zfmc (r_iload_n h (pc := 1) (kf := 1) 1 (by decide +kernel) rfl) ?_
  refine zfmc (r_callVT h hM.1 (pc := 2) (ix := 104) (by decide +kernel) ckX12 1 mcX12_checkMerchant wk_4f0781a151 wk_a089bef1dd wk_993ae4a147 rfl) ?_
  refine zfmc (r_aload_n h (pc := 5) (kf := 0) 0 (by decide +kernel) rfl) ?_
  refine zfmc (r_iload_n h (pc := 6) (kf := 2) 2 (by decide +kernel) rfl) ?_
  refine zfmc (r_iconst h (pc := 7) (z := 4) (by decide +kernel) (4) (by decide +kernel)) ?_
  refine zfmc (r_callVT h hM.1 (pc := 8) (ix := 89) (by decide +kernel) ckX12 2 mcX12_checkWhat wk_b253019c6b wk_d15d6fab99 wk_7be2a51217 rfl) ?_
  refine zfmc (r_aload_n h (pc := 11) (kf := 0) 0 (by decide +kernel) rfl) ?_
  refine zfmc (r_getf h (pc := 12) (ix := 30) (by decide +kernel) ckX12 3 (by decide) wk_d7e67faeba) ?_
  refine zfmc (r_getfN h (pc := 15) (ix := 76) (by decide +kernel) ckX2 0 (by decide) wk_3818d59532) ?_
  refine zfmc (r_aload_n h (pc := 18) (kf := 0) 0 (by decide +kernel) rfl) ?_
  refine zfmc (r_getf h (pc := 19) (ix := 26) (by decide +kernel) ckX12 2 (by decide) wk_de8ce947b7) ?_
  refine zfmc (r_getfN h (pc := 22) (ix := 76) (by decide +kernel) ckX2 0 (by decide) wk_3818d59532) ?_
  refine zfmc (r_callV h (pc := 25) (ix := 176) (by decide +kernel) ckX4 1 mcX4_copy wk_cb5319a811 wk_79dd74694f wk_b37182dc96 rfl) ?_
  refine zfmc (r_aload_n h (pc := 28) (kf := 0) 0 (by decide +kernel) rfl) ?_
  refine zfmc (r_getf h (pc := 29) (ix := 30) (by decide +kernel) ckX12 3 (by decide) wk_d7e67faeba) ?_
  refine zfmc (r_iload_n h (pc := 32) (kf := 1) 1 (by decide +kernel) rfl) ?_
  refine zfmc (r_iconst h (pc := 33) (z := -1) (by decide +kernel) (-1) (by decide +kernel)) ?_
  refine zfmc (r_callV h (pc := 34) (ix := 180) (by decide +kernel) ckX2 2 mcX2_takeTurn wk_f8a18ec809 wk_8d50a7cdb7 wk_6ba4d3e6f0 rfl) ?_
  refine zfmc (r_aload_n h (pc := 37) (kf := 0) 0 (by decide +kernel) rfl) ?_
  refine zfmc (r_getf h (pc := 38) (ix := 30) (by decide +kernel) ckX12 3 (by decide) wk_d7e67faeba) ?_
  refine zfmc (r_iload_n h (pc := 41) (kf := 2) 2 (by decide +kernel) rfl) ?_
  refine zfmc (r_callV h (pc := 42) (ix := 183) (by decide +kernel) ckX2 1 mcX2_turnNumber wk_0016238c82 wk_41c5f65c06 wk_d682212507 rfl) ?_
  refine zfmc (r_ireturn h (pc := 45) (by decide +kernel) rfl) ?_
  exact zfm0)
def tb_X12_foresee (E : ZEX) (d mc ms : Nat) : List (Nat × ZStep) := [(0, s_aload 0 1), (1, s_iload 1 2), (2, s_const (.int (40)) 4), (4, s_callVT E d mc ms 11 MX12_checkRounds 2 7), (7, s_iload 2 8), (8, s_if_eq 32 11), (11, s_iload 2 12), (12, s_const (.int (4)) 13), (13, s_icmp_lt 22 16), (16, s_iload 2 17), (17, s_const (.int (7)) 19), (19, s_icmp_le 32 22), (22, s_throw "java/lang/IndexOutOfBoundsException"), (32, s_aload 0 33), (33, s_getf 11 3 36), (36, s_getf 1 0 39), (39, s_aload 0 40), (40, s_getf 11 2 43), (43, s_getf 1 0 46), (46, s_callV E d mc ms 3 MX4_copy 1 49), (49, s_aload 0 50), (50, s_getf 11 3 53), (53, s_iload 1 54), (54, s_const (.int (-1)) 55), (55, s_callV E d mc ms 1 MX2_playRounds 2 58), (58, s_pop 59), (59, s_iload 2 60), (60, s_if_ne 76 63), (63, s_aload 0 64), (64, s_getf 11 3 67), (67, s_getf 1 0 70), (70, s_callV E d mc ms 3 MX4_worthiest 0 73), (73, s_goto 87), (76, s_aload 0 77), (77, s_getf 11 3 80), (80, s_getf 1 0 83), (83, s_iload 2 84), (84, s_callV E d mc ms 3 MX4_number 1 87), (87, s_ireturn)]
set_option maxRecDepth 20000 in
theorem ok_X12_foresee {E : ZEX} {X : ZMX} {d mc ms : Nat} {P : ZPT} {PX : String → ZHp → Nat → Prop} (hM : zMX E X mc ms P PX) (hTH : ZTH E) (hd7 : 7 ≤ d) (h : ZCX E X MX12_foresee d mc ms P (zTX mc ms PX)) : ∀ pc, ZRow E X MX12_foresee mc ms P (zTX mc ms PX) pc (ztb (tb_X12_foresee E d mc ms) pc) := ztb_ok (by
  unfold tb_X12_foresee
  refine zfmc (r_aload_n h (pc := 0) (kf := 0) 0 (by decide +kernel) rfl) ?_
  refine zfmc (r_iload_n h (pc := 1) (kf := 1) 1 (by decide +kernel) rfl) ?_
  refine zfmc (r_bipush h (pc := 2) (z := 40) (by decide +kernel) (40) (by decide +kernel)) ?_
  refine zfmc (r_callVT h hM.1 (pc := 4) (ix := 170) (by decide +kernel) ckX12 2 mcX12_checkRounds wk_441a72da9b wk_fa34e962d3 wk_efd568b7ca rfl) ?_
  refine zfmc (r_iload_n h (pc := 7) (kf := 2) 2 (by decide +kernel) rfl) ?_
  refine zfmc (r_if_eq h (pc := 8) (off := 24) (by decide +kernel) 32 (by decide +kernel)) ?_
  refine zfmc (r_iload_n h (pc := 11) (kf := 2) 2 (by decide +kernel) rfl) ?_
  refine zfmc (r_iconst h (pc := 12) (z := 4) (by decide +kernel) (4) (by decide +kernel)) ?_
  refine zfmc (r_icmp_lt h (pc := 13) (off := 9) (by decide +kernel) 22 (by decide +kernel)) ?_
  refine zfmc (r_iload_n h (pc := 16) (kf := 2) 2 (by decide +kernel) rfl) ?_
  refine zfmc (r_bipush h (pc := 17) (z := 7) (by decide +kernel) (7) (by decide +kernel)) ?_
  refine zfmc (r_icmp_le h (pc := 19) (off := 13) (by decide +kernel) 32 (by decide +kernel)) ?_
  refine zfmc (r_throw h hM (pc := 22) (hTH (188, "there is no such thing to foresee", 186, 190, "java/lang/IndexOutOfBoundsException") (by decide)) hd7 (by decide +kernel) zot_I (by decide +kernel) (by decide +kernel) (by decide +kernel) (by decide +kernel) (by decide +kernel)) ?_
  refine zfmc (r_aload_n h (pc := 32) (kf := 0) 0 (by decide +kernel) rfl) ?_
  refine zfmc (r_getf h (pc := 33) (ix := 30) (by decide +kernel) ckX12 3 (by decide) wk_d7e67faeba) ?_
  refine zfmc (r_getfN h (pc := 36) (ix := 76) (by decide +kernel) ckX2 0 (by decide) wk_3818d59532) ?_
  refine zfmc (r_aload_n h (pc := 39) (kf := 0) 0 (by decide +kernel) rfl) ?_
  refine zfmc (r_getf h (pc := 40) (ix := 26) (by decide +kernel) ckX12 2 (by decide) wk_de8ce947b7) ?_
  refine zfmc (r_getfN h (pc := 43) (ix := 76) (by decide +kernel) ckX2 0 (by decide) wk_3818d59532) ?_
  refine zfmc (r_callV h (pc := 46) (ix := 176) (by decide +kernel) ckX4 1 mcX4_copy wk_cb5319a811 wk_79dd74694f wk_b37182dc96 rfl) ?_
  refine zfmc (r_aload_n h (pc := 49) (kf := 0) 0 (by decide +kernel) rfl) ?_
  refine zfmc (r_getf h (pc := 50) (ix := 30) (by decide +kernel) ckX12 3 (by decide) wk_d7e67faeba) ?_
  refine zfmc (r_iload_n h (pc := 53) (kf := 1) 1 (by decide +kernel) rfl) ?_
  refine zfmc (r_iconst h (pc := 54) (z := -1) (by decide +kernel) (-1) (by decide +kernel)) ?_
  refine zfmc (r_callV h (pc := 55) (ix := 173) (by decide +kernel) ckX2 2 mcX2_playRounds wk_e2d485e88b wk_58faf4efcd wk_95e2dc37fe rfl) ?_
  refine zfmc (r_pop h (pc := 58) (by decide +kernel)) ?_
  refine zfmc (r_iload_n h (pc := 59) (kf := 2) 2 (by decide +kernel) rfl) ?_
  refine zfmc (r_if_ne h (pc := 60) (off := 16) (by decide +kernel) 76 (by decide +kernel)) ?_
  refine zfmc (r_aload_n h (pc := 63) (kf := 0) 0 (by decide +kernel) rfl) ?_
  refine zfmc (r_getf h (pc := 64) (ix := 30) (by decide +kernel) ckX12 3 (by decide) wk_d7e67faeba) ?_
  refine zfmc (r_getfN h (pc := 67) (ix := 76) (by decide +kernel) ckX2 0 (by decide) wk_3818d59532) ?_
  refine zfmc (r_callV h (pc := 70) (ix := 141) (by decide +kernel) ckX4 0 mcX4_worthiest wk_1d8b367fc6 wk_16b6e53e22 wk_e83e9f83d8 rfl) ?_
  refine zfmc (r_goto h (pc := 73) (off := 14) (by decide +kernel) 87 (by decide +kernel)) ?_
  refine zfmc (r_aload_n h (pc := 76) (kf := 0) 0 (by decide +kernel) rfl) ?_
  refine zfmc (r_getf h (pc := 77) (ix := 30) (by decide +kernel) ckX12 3 (by decide) wk_d7e67faeba) ?_
  refine zfmc (r_getfN h (pc := 80) (ix := 76) (by decide +kernel) ckX2 0 (by decide) wk_3818d59532) ?_
  refine zfmc (r_iload_n h (pc := 83) (kf := 2) 2 (by decide +kernel) rfl) ?_
  refine zfmc (r_callV h (pc := 84) (ix := 93) (by decide +kernel) ckX4 1 mcX4_number wk_89fefe7140 wk_e021765630 wk_ad568a8bb4 rfl) ?_
  refine zfmc (r_ireturn h (pc := 87) (by decide +kernel) rfl) ?_
  exact zfm0)
def tb_X12_missed (E : ZEX) (d mc ms : Nat) : List (Nat × ZStep) := [(0, s_aload 0 1), (1, s_iload 1 2), (2, s_callVT E d mc ms 11 MX12_checkMerchant 1 5), (5, s_aload 0 6), (6, s_iload 2 7), (7, s_const (.int (20)) 9), (9, s_callVT E d mc ms 11 MX12_checkRounds 2 12), (12, s_aload 0 13), (13, s_getf 11 2 16), (16, s_getf 1 0 19), (19, s_getf 3 5 22), (22, s_astore 3 23), (23, s_const (.int (-1)) 24), (24, s_istore 4 26), (26, s_const (.int (0)) 27), (27, s_istore 5 29), (29, s_const (.int (0)) 30), (30, s_istore 6 32), (32, s_iload 6 34), (34, s_aload 3 35), (35, s_getf 5 2 38), (38, s_icmp_ge 122 41), (41, s_aload 3 42), (42, s_getf 5 11 45), (45, s_iload 6 47), (47, s_callV E d mc ms 4 MX5_get 1 50), (50, s_iload 1 51), (51, s_icmp_ne 116 54), (54, s_aload 0 55), (55, s_getf 11 3 58), (58, s_getf 1 0 61), (61, s_aload 0 62), (62, s_getf 11 2 65), (65, s_getf 1 0 68), (68, s_callV E d mc ms 3 MX4_copy 1 71), (71, s_aload 0 72), (72, s_getf 11 3 75), (75, s_iload 2 76), (76, s_iload 6 78), (78, s_callV E d mc ms 1 MX2_playRounds 2 81), (81, s_pop 82), (82, s_aload 0 83), (83, s_getf 11 3 86), (86, s_getf 1 0 89), (89, s_iload 1 90), (90, s_callV E d mc ms 3 MX4_worth 1 93), (93, s_istore 7 95), (95, s_iload 4 97), (97, s_const (.int (-1)) 98), (98, s_icmp_eq 108 101), (101, s_iload 7 103), (103, s_iload 5 105), (105, s_icmp_ge 116 108), (108, s_iload 6 110), (110, s_istore 4 112), (112, s_iload 7 114), (114, s_istore 5 116), (116, s_iinc 6 (1) 119), (119, s_goto 32), (122, s_iload 4 124), (124, s_ireturn)]
set_option maxRecDepth 20000 in
theorem ok_X12_missed {E : ZEX} {X : ZMX} {d mc ms : Nat} {P : ZPT} {PX : String → ZHp → Nat → Prop} (hM : zMX E X mc ms P PX) (hTH : ZTH E) (hd7 : 7 ≤ d) (h : ZCX E X MX12_missed d mc ms P (zTX mc ms PX)) : ∀ pc, ZRow E X MX12_missed mc ms P (zTX mc ms PX) pc (ztb (tb_X12_missed E d mc ms) pc) := ztb_ok (by
  unfold tb_X12_missed
  refine zfmc (r_aload_n h (pc := 0) (kf := 0) 0 (by decide +kernel) rfl) ?_
  refine zfmc (r_iload_n h (pc := 1) (kf := 1) 1 (by decide +kernel) rfl) ?_
  refine zfmc (r_callVT h hM.1 (pc := 2) (ix := 104) (by decide +kernel) ckX12 1 mcX12_checkMerchant wk_4f0781a151 wk_a089bef1dd wk_993ae4a147 rfl) ?_
  refine zfmc (r_aload_n h (pc := 5) (kf := 0) 0 (by decide +kernel) rfl) ?_
  refine zfmc (r_iload_n h (pc := 6) (kf := 2) 2 (by decide +kernel) rfl) ?_
  refine zfmc (r_bipush h (pc := 7) (z := 20) (by decide +kernel) (20) (by decide +kernel)) ?_
  refine zfmc (r_callVT h hM.1 (pc := 9) (ix := 170) (by decide +kernel) ckX12 2 mcX12_checkRounds wk_441a72da9b wk_fa34e962d3 wk_efd568b7ca rfl) ?_
  refine zfmc (r_aload_n h (pc := 12) (kf := 0) 0 (by decide +kernel) rfl) ?_
  refine zfmc (r_getf h (pc := 13) (ix := 26) (by decide +kernel) ckX12 2 (by decide) wk_de8ce947b7) ?_
  refine zfmc (r_getfN h (pc := 16) (ix := 76) (by decide +kernel) ckX2 0 (by decide) wk_3818d59532) ?_
  refine zfmc (r_getfN h (pc := 19) (ix := 80) (by decide +kernel) ckX4 5 (by decide) wk_71521d046f) ?_
  refine zfmc (r_astore_n h (pc := 22) (kf := 3) 3 (by decide +kernel) rfl (by decide +kernel)) ?_
  refine zfmc (r_iconst h (pc := 23) (z := -1) (by decide +kernel) (-1) (by decide +kernel)) ?_
  refine zfmc (r_istore h (pc := 24) 4 (by decide +kernel) (by decide +kernel)) ?_
  refine zfmc (r_iconst h (pc := 26) (z := 0) (by decide +kernel) (0) (by decide +kernel)) ?_
  refine zfmc (r_istore h (pc := 27) 5 (by decide +kernel) (by decide +kernel)) ?_
  refine zfmc (r_iconst h (pc := 29) (z := 0) (by decide +kernel) (0) (by decide +kernel)) ?_
  refine zfmc (r_istore h (pc := 30) 6 (by decide +kernel) (by decide +kernel)) ?_
  refine zfmc (r_iload h (pc := 32) 6 (by decide +kernel)) ?_
  refine zfmc (r_aload_n h (pc := 34) (kf := 3) 3 (by decide +kernel) rfl) ?_
  refine zfmc (r_getfN h (pc := 35) (ix := 191) (by decide +kernel) ckX6 2 (by decide) wk_3bf3c7e43d) ?_
  refine zfmc (r_icmp_ge h (pc := 38) (off := 84) (by decide +kernel) 122 (by decide +kernel)) ?_
  refine zfmc (r_aload_n h (pc := 41) (kf := 3) 3 (by decide +kernel) rfl) ?_
  refine zfmc (r_getfN h (pc := 42) (ix := 194) (by decide +kernel) ckX6 11 (by decide) wk_471385f573) ?_
  refine zfmc (r_iload h (pc := 45) 6 (by decide +kernel)) ?_
  refine zfmc (r_callV h (pc := 47) (ix := 121) (by decide +kernel) ckX5 1 mcX5_get wk_d096485f84 wk_0beb95ca34 wk_1db6b0b94a rfl) ?_
  refine zfmc (r_iload_n h (pc := 50) (kf := 1) 1 (by decide +kernel) rfl) ?_
  refine zfmc (r_icmp_ne h (pc := 51) (off := 65) (by decide +kernel) 116 (by decide +kernel)) ?_
  refine zfmc (r_aload_n h (pc := 54) (kf := 0) 0 (by decide +kernel) rfl) ?_
  refine zfmc (r_getf h (pc := 55) (ix := 30) (by decide +kernel) ckX12 3 (by decide) wk_d7e67faeba) ?_
  refine zfmc (r_getfN h (pc := 58) (ix := 76) (by decide +kernel) ckX2 0 (by decide) wk_3818d59532) ?_
  refine zfmc (r_aload_n h (pc := 61) (kf := 0) 0 (by decide +kernel) rfl) ?_
  refine zfmc (r_getf h (pc := 62) (ix := 26) (by decide +kernel) ckX12 2 (by decide) wk_de8ce947b7) ?_
  refine zfmc (r_getfN h (pc := 65) (ix := 76) (by decide +kernel) ckX2 0 (by decide) wk_3818d59532) ?_
  refine zfmc (r_callV h (pc := 68) (ix := 176) (by decide +kernel) ckX4 1 mcX4_copy wk_cb5319a811 wk_79dd74694f wk_b37182dc96 rfl) ?_
  refine zfmc (r_aload_n h (pc := 71) (kf := 0) 0 (by decide +kernel) rfl) ?_
  refine zfmc (r_getf h (pc := 72) (ix := 30) (by decide +kernel) ckX12 3 (by decide) wk_d7e67faeba) ?_
  refine zfmc (r_iload_n h (pc := 75) (kf := 2) 2 (by decide +kernel) rfl) ?_
  refine zfmc (r_iload h (pc := 76) 6 (by decide +kernel)) ?_
  refine zfmc (r_callV h (pc := 78) (ix := 173) (by decide +kernel) ckX2 2 mcX2_playRounds wk_e2d485e88b wk_58faf4efcd wk_95e2dc37fe rfl) ?_
  refine zfmc (r_pop h (pc := 81) (by decide +kernel)) ?_
  refine zfmc (r_aload_n h (pc := 82) (kf := 0) 0 (by decide +kernel) rfl) ?_
  refine zfmc (r_getf h (pc := 83) (ix := 30) (by decide +kernel) ckX12 3 (by decide) wk_d7e67faeba) ?_
  refine zfmc (r_getfN h (pc := 86) (ix := 76) (by decide +kernel) ckX2 0 (by decide) wk_3818d59532) ?_
  refine zfmc (r_iload_n h (pc := 89) (kf := 1) 1 (by decide +kernel) rfl) ?_
  refine zfmc (r_callV h (pc := 90) (ix := 107) (by decide +kernel) ckX4 1 mcX4_worth wk_02cd43441e wk_fed93bee32 wk_207461d6d6 rfl) ?_
  refine zfmc (r_istore h (pc := 93) 7 (by decide +kernel) (by decide +kernel)) ?_
  refine zfmc (r_iload h (pc := 95) 4 (by decide +kernel)) ?_
  refine zfmc (r_iconst h (pc := 97) (z := -1) (by decide +kernel) (-1) (by decide +kernel)) ?_
  refine zfmc (r_icmp_eq h (pc := 98) (off := 10) (by decide +kernel) 108 (by decide +kernel)) ?_
  refine zfmc (r_iload h (pc := 101) 7 (by decide +kernel)) ?_
  refine zfmc (r_iload h (pc := 103) 5 (by decide +kernel)) ?_
  refine zfmc (r_icmp_ge h (pc := 105) (off := 11) (by decide +kernel) 116 (by decide +kernel)) ?_
  refine zfmc (r_iload h (pc := 108) 6 (by decide +kernel)) ?_
  refine zfmc (r_istore h (pc := 110) 4 (by decide +kernel) (by decide +kernel)) ?_
  refine zfmc (r_iload h (pc := 112) 7 (by decide +kernel)) ?_
  refine zfmc (r_istore h (pc := 114) 5 (by decide +kernel) (by decide +kernel)) ?_
  refine zfmc (r_iinc h (pc := 116) 6 (z := 1) (by decide +kernel) (1) (by decide +kernel) (by decide +kernel)) ?_
  refine zfmc (r_goto h (pc := 119) (off := -87) (by decide +kernel) 32 (by decide +kernel)) ?_
  refine zfmc (r_iload h (pc := 122) 4 (by decide +kernel)) ?_
  refine zfmc (r_ireturn h (pc := 124) (by decide +kernel) rfl) ?_
  exact zfm0)
def tb_X12_advise (E : ZEX) (d mc ms : Nat) : List (Nat × ZStep) := [(0, s_aload 0 1), (1, s_iload 1 2), (2, s_callVT E d mc ms 11 MX12_checkMerchant 1 5), (5, s_aload 0 6), (6, s_iload 2 7), (7, s_const (.int (20)) 9), (9, s_callVT E d mc ms 11 MX12_checkRounds 2 12), (12, s_const (.int (-1)) 13), (13, s_istore 3 14), (14, s_const (.int (0)) 15), (15, s_istore 4 17), (17, s_const (.int (0)) 18), (18, s_istore 5 20), (20, s_iload 5 22), (22, s_aload 0 23), (23, s_getf 11 2 26), (26, s_getf 1 0 29), (29, s_getf 3 5 32), (32, s_getf 5 0 35), (35, s_icmp_ge 132 38), (38, s_aload 0 39), (39, s_getf 11 2 42), (42, s_getf 1 0 45), (45, s_iload 1 46), (46, s_iload 5 48), (48, s_callV E d mc ms 3 MX4_canGain 2 51), (51, s_if_eq 126 54), (54, s_aload 0 55), (55, s_getf 11 3 58), (58, s_getf 1 0 61), (61, s_aload 0 62), (62, s_getf 11 2 65), (65, s_getf 1 0 68), (68, s_callV E d mc ms 3 MX4_copy 1 71), (71, s_aload 0 72), (72, s_getf 11 3 75), (75, s_getf 1 0 78), (78, s_iload 1 79), (79, s_iload 5 81), (81, s_callV E d mc ms 3 MX4_gain 2 84), (84, s_aload 0 85), (85, s_getf 11 3 88), (88, s_iload 2 89), (89, s_const (.int (-1)) 90), (90, s_callV E d mc ms 1 MX2_playRounds 2 93), (93, s_pop 94), (94, s_aload 0 95), (95, s_getf 11 3 98), (98, s_getf 1 0 101), (101, s_iload 1 102), (102, s_callV E d mc ms 3 MX4_worth 1 105), (105, s_istore 6 107), (107, s_iload 3 108), (108, s_const (.int (-1)) 109), (109, s_icmp_eq 119 112), (112, s_iload 6 114), (114, s_iload 4 116), (116, s_icmp_le 126 119), (119, s_iload 5 121), (121, s_istore 3 122), (122, s_iload 6 124), (124, s_istore 4 126), (126, s_iinc 5 (1) 129), (129, s_goto 20), (132, s_iload 3 133), (133, s_ireturn)]
set_option maxRecDepth 20000 in
theorem ok_X12_advise {E : ZEX} {X : ZMX} {d mc ms : Nat} {P : ZPT} {PX : String → ZHp → Nat → Prop} (hM : zMX E X mc ms P PX) (hTH : ZTH E) (hd7 : 7 ≤ d) (h : ZCX E X MX12_advise d mc ms P (zTX mc ms PX)) : ∀ pc, ZRow E X MX12_advise mc ms P (zTX mc ms PX) pc (ztb (tb_X12_advise E d mc ms) pc) := ztb_ok (by
  unfold tb_X12_advise
  refine zfmc (r_aload_n h (pc := 0) (kf := 0) 0 (by decide +kernel) rfl) ?_
  refine zfmc (r_iload_n h (pc := 1) (kf := 1) 1 (by decide +kernel) rfl) ?_
  refine zfmc (r_callVT h hM.1 (pc := 2) (ix := 104) (by decide +kernel) ckX12 1 mcX12_checkMerchant wk_4f0781a151 wk_a089bef1dd wk_993ae4a147 rfl) ?_
  refine zfmc (r_aload_n h (pc := 5) (kf := 0) 0 (by decide +kernel) rfl) ?_
  refine zfmc (r_iload_n h (pc := 6) (kf := 2) 2 (by decide +kernel) rfl) ?_
  refine zfmc (r_bipush h (pc := 7) (z := 20) (by decide +kernel) (20) (by decide +kernel)) ?_
  refine zfmc (r_callVT h hM.1 (pc := 9) (ix := 170) (by decide +kernel) ckX12 2 mcX12_checkRounds wk_441a72da9b wk_fa34e962d3 wk_efd568b7ca rfl) ?_
  refine zfmc (r_iconst h (pc := 12) (z := -1) (by decide +kernel) (-1) (by decide +kernel)) ?_
  refine zfmc (r_istore_n h (pc := 13) (kf := 3) 3 (by decide +kernel) rfl (by decide +kernel)) ?_
  refine zfmc (r_iconst h (pc := 14) (z := 0) (by decide +kernel) (0) (by decide +kernel)) ?_
  refine zfmc (r_istore h (pc := 15) 4 (by decide +kernel) (by decide +kernel)) ?_
  refine zfmc (r_iconst h (pc := 17) (z := 0) (by decide +kernel) (0) (by decide +kernel)) ?_
  refine zfmc (r_istore h (pc := 18) 5 (by decide +kernel) (by decide +kernel)) ?_
  refine zfmc (r_iload h (pc := 20) 5 (by decide +kernel)) ?_
  refine zfmc (r_aload_n h (pc := 22) (kf := 0) 0 (by decide +kernel) rfl) ?_
  refine zfmc (r_getf h (pc := 23) (ix := 26) (by decide +kernel) ckX12 2 (by decide) wk_de8ce947b7) ?_
  refine zfmc (r_getfN h (pc := 26) (ix := 76) (by decide +kernel) ckX2 0 (by decide) wk_3818d59532) ?_
  refine zfmc (r_getfN h (pc := 29) (ix := 80) (by decide +kernel) ckX4 5 (by decide) wk_71521d046f) ?_
  refine zfmc (r_getfN h (pc := 32) (ix := 197) (by decide +kernel) ckX6 0 (by decide) wk_2f945776f6) ?_
  refine zfmc (r_icmp_ge h (pc := 35) (off := 97) (by decide +kernel) 132 (by decide +kernel)) ?_
  refine zfmc (r_aload_n h (pc := 38) (kf := 0) 0 (by decide +kernel) rfl) ?_
  refine zfmc (r_getf h (pc := 39) (ix := 26) (by decide +kernel) ckX12 2 (by decide) wk_de8ce947b7) ?_
  refine zfmc (r_getfN h (pc := 42) (ix := 76) (by decide +kernel) ckX2 0 (by decide) wk_3818d59532) ?_
  refine zfmc (r_iload_n h (pc := 45) (kf := 1) 1 (by decide +kernel) rfl) ?_
  refine zfmc (r_iload h (pc := 46) 5 (by decide +kernel)) ?_
  refine zfmc (r_callV h (pc := 48) (ix := 144) (by decide +kernel) ckX4 2 mcX4_canGain wk_ef75030472 wk_8b87feb1c8 wk_28c121af57 rfl) ?_
  refine zfmc (r_if_eq h (pc := 51) (off := 75) (by decide +kernel) 126 (by decide +kernel)) ?_
  refine zfmc (r_aload_n h (pc := 54) (kf := 0) 0 (by decide +kernel) rfl) ?_
  refine zfmc (r_getf h (pc := 55) (ix := 30) (by decide +kernel) ckX12 3 (by decide) wk_d7e67faeba) ?_
  refine zfmc (r_getfN h (pc := 58) (ix := 76) (by decide +kernel) ckX2 0 (by decide) wk_3818d59532) ?_
  refine zfmc (r_aload_n h (pc := 61) (kf := 0) 0 (by decide +kernel) rfl) ?_
  refine zfmc (r_getf h (pc := 62) (ix := 26) (by decide +kernel) ckX12 2 (by decide) wk_de8ce947b7) ?_
  refine zfmc (r_getfN h (pc := 65) (ix := 76) (by decide +kernel) ckX2 0 (by decide) wk_3818d59532) ?_
  refine zfmc (r_callV h (pc := 68) (ix := 176) (by decide +kernel) ckX4 1 mcX4_copy wk_cb5319a811 wk_79dd74694f wk_b37182dc96 rfl) ?_
  refine zfmc (r_aload_n h (pc := 71) (kf := 0) 0 (by decide +kernel) rfl) ?_
  refine zfmc (r_getf h (pc := 72) (ix := 30) (by decide +kernel) ckX12 3 (by decide) wk_d7e67faeba) ?_
  refine zfmc (r_getfN h (pc := 75) (ix := 76) (by decide +kernel) ckX2 0 (by decide) wk_3818d59532) ?_
  refine zfmc (r_iload_n h (pc := 78) (kf := 1) 1 (by decide +kernel) rfl) ?_
  refine zfmc (r_iload h (pc := 79) 5 (by decide +kernel)) ?_
  refine zfmc (r_callV h (pc := 81) (ix := 150) (by decide +kernel) ckX4 2 mcX4_gain wk_105b2081ed wk_7c4947dd74 wk_e15baf71b6 rfl) ?_
  refine zfmc (r_aload_n h (pc := 84) (kf := 0) 0 (by decide +kernel) rfl) ?_
  refine zfmc (r_getf h (pc := 85) (ix := 30) (by decide +kernel) ckX12 3 (by decide) wk_d7e67faeba) ?_
  refine zfmc (r_iload_n h (pc := 88) (kf := 2) 2 (by decide +kernel) rfl) ?_
  refine zfmc (r_iconst h (pc := 89) (z := -1) (by decide +kernel) (-1) (by decide +kernel)) ?_
  refine zfmc (r_callV h (pc := 90) (ix := 173) (by decide +kernel) ckX2 2 mcX2_playRounds wk_e2d485e88b wk_58faf4efcd wk_95e2dc37fe rfl) ?_
  refine zfmc (r_pop h (pc := 93) (by decide +kernel)) ?_
  refine zfmc (r_aload_n h (pc := 94) (kf := 0) 0 (by decide +kernel) rfl) ?_
  refine zfmc (r_getf h (pc := 95) (ix := 30) (by decide +kernel) ckX12 3 (by decide) wk_d7e67faeba) ?_
  refine zfmc (r_getfN h (pc := 98) (ix := 76) (by decide +kernel) ckX2 0 (by decide) wk_3818d59532) ?_
  refine zfmc (r_iload_n h (pc := 101) (kf := 1) 1 (by decide +kernel) rfl) ?_
  refine zfmc (r_callV h (pc := 102) (ix := 107) (by decide +kernel) ckX4 1 mcX4_worth wk_02cd43441e wk_fed93bee32 wk_207461d6d6 rfl) ?_
  refine zfmc (r_istore h (pc := 105) 6 (by decide +kernel) (by decide +kernel)) ?_
  refine zfmc (r_iload_n h (pc := 107) (kf := 3) 3 (by decide +kernel) rfl) ?_
  refine zfmc (r_iconst h (pc := 108) (z := -1) (by decide +kernel) (-1) (by decide +kernel)) ?_
  refine zfmc (r_icmp_eq h (pc := 109) (off := 10) (by decide +kernel) 119 (by decide +kernel)) ?_
  refine zfmc (r_iload h (pc := 112) 6 (by decide +kernel)) ?_
  refine zfmc (r_iload h (pc := 114) 4 (by decide +kernel)) ?_
  refine zfmc (r_icmp_le h (pc := 116) (off := 10) (by decide +kernel) 126 (by decide +kernel)) ?_
  refine zfmc (r_iload h (pc := 119) 5 (by decide +kernel)) ?_
  refine zfmc (r_istore_n h (pc := 121) (kf := 3) 3 (by decide +kernel) rfl (by decide +kernel)) ?_
  refine zfmc (r_iload h (pc := 122) 6 (by decide +kernel)) ?_
  refine zfmc (r_istore h (pc := 124) 4 (by decide +kernel) (by decide +kernel)) ?_
  refine zfmc (r_iinc h (pc := 126) 5 (z := 1) (by decide +kernel) (1) (by decide +kernel) (by decide +kernel)) ?_
  refine zfmc (r_goto h (pc := 129) (off := -109) (by decide +kernel) 20 (by decide +kernel)) ?_
  refine zfmc (r_iload_n h (pc := 132) (kf := 3) 3 (by decide +kernel) rfl) ?_
  refine zfmc (r_ireturn h (pc := 133) (by decide +kernel) rfl) ?_
  exact zfm0)
def tb_X12_mean (E : ZEX) (d mc ms : Nat) : List (Nat × ZStep) := [(0, s_aload 0 1), (1, s_getf 11 2 4), (4, s_getf 1 0 7), (7, s_getf 3 5 10), (10, s_getf 5 1 13), (13, s_istore 1 14), (14, s_iload 1 15), (15, s_if_ne 20 18), (18, s_const (.double FP.dconst0) 19), (19, s_dreturn), (20, s_const (.int (0)) 21), (21, s_istore 2 22), (22, s_const (.int (0)) 23), (23, s_istore 3 24), (24, s_iload 3 25), (25, s_iload 1 26), (26, s_icmp_ge 49 29), (29, s_iload 2 30), (30, s_aload 0 31), (31, s_getf 11 2 34), (34, s_getf 1 0 37), (37, s_iload 3 38), (38, s_callV E d mc ms 3 MX4_worth 1 41), (41, s_iadd 42), (42, s_istore 2 43), (43, s_iinc 3 (1) 46), (46, s_goto 24), (49, s_iload 2 50), (50, s_i2d 51), (51, s_iload 1 52), (52, s_i2d 53), (53, s_ddiv 54), (54, s_dreturn)]
set_option maxRecDepth 20000 in
theorem ok_X12_mean {E : ZEX} {X : ZMX} {d mc ms : Nat} {P : ZPT} {T : ZTT} (h : ZCX E X MX12_mean d mc ms P T) : ∀ pc, ZRow E X MX12_mean mc ms P T pc (ztb (tb_X12_mean E d mc ms) pc) := ztb_ok (by
  unfold tb_X12_mean
  refine zfmc (r_aload_n h (pc := 0) (kf := 0) 0 (by decide +kernel) rfl) ?_
  refine zfmc (r_getf h (pc := 1) (ix := 26) (by decide +kernel) ckX12 2 (by decide) wk_de8ce947b7) ?_
  refine zfmc (r_getfN h (pc := 4) (ix := 76) (by decide +kernel) ckX2 0 (by decide) wk_3818d59532) ?_
  refine zfmc (r_getfN h (pc := 7) (ix := 80) (by decide +kernel) ckX4 5 (by decide) wk_71521d046f) ?_
  refine zfmc (r_getfN h (pc := 10) (ix := 200) (by decide +kernel) ckX6 1 (by decide) wk_f0871c9870) ?_
  refine zfmc (r_istore_n h (pc := 13) (kf := 1) 1 (by decide +kernel) rfl (by decide +kernel)) ?_
  refine zfmc (r_iload_n h (pc := 14) (kf := 1) 1 (by decide +kernel) rfl) ?_
  refine zfmc (r_if_ne h (pc := 15) (off := 5) (by decide +kernel) 20 (by decide +kernel)) ?_
  refine zfmc (r_dconst0 h (pc := 18) (by decide +kernel)) ?_
  refine zfmc (r_dreturn h (pc := 19) (by decide +kernel) rfl) ?_
  refine zfmc (r_iconst h (pc := 20) (z := 0) (by decide +kernel) (0) (by decide +kernel)) ?_
  refine zfmc (r_istore_n h (pc := 21) (kf := 2) 2 (by decide +kernel) rfl (by decide +kernel)) ?_
  refine zfmc (r_iconst h (pc := 22) (z := 0) (by decide +kernel) (0) (by decide +kernel)) ?_
  refine zfmc (r_istore_n h (pc := 23) (kf := 3) 3 (by decide +kernel) rfl (by decide +kernel)) ?_
  refine zfmc (r_iload_n h (pc := 24) (kf := 3) 3 (by decide +kernel) rfl) ?_
  refine zfmc (r_iload_n h (pc := 25) (kf := 1) 1 (by decide +kernel) rfl) ?_
  refine zfmc (r_icmp_ge h (pc := 26) (off := 23) (by decide +kernel) 49 (by decide +kernel)) ?_
  refine zfmc (r_iload_n h (pc := 29) (kf := 2) 2 (by decide +kernel) rfl) ?_
  refine zfmc (r_aload_n h (pc := 30) (kf := 0) 0 (by decide +kernel) rfl) ?_
  refine zfmc (r_getf h (pc := 31) (ix := 26) (by decide +kernel) ckX12 2 (by decide) wk_de8ce947b7) ?_
  refine zfmc (r_getfN h (pc := 34) (ix := 76) (by decide +kernel) ckX2 0 (by decide) wk_3818d59532) ?_
  refine zfmc (r_iload_n h (pc := 37) (kf := 3) 3 (by decide +kernel) rfl) ?_
  refine zfmc (r_callV h (pc := 38) (ix := 107) (by decide +kernel) ckX4 1 mcX4_worth wk_02cd43441e wk_fed93bee32 wk_207461d6d6 rfl) ?_
  refine zfmc (r_iadd h (pc := 41) (by decide +kernel)) ?_
  refine zfmc (r_istore_n h (pc := 42) (kf := 2) 2 (by decide +kernel) rfl (by decide +kernel)) ?_
  refine zfmc (r_iinc h (pc := 43) 3 (z := 1) (by decide +kernel) (1) (by decide +kernel) (by decide +kernel)) ?_
  refine zfmc (r_goto h (pc := 46) (off := -22) (by decide +kernel) 24 (by decide +kernel)) ?_
  refine zfmc (r_iload_n h (pc := 49) (kf := 2) 2 (by decide +kernel) rfl) ?_
  refine zfmc (r_i2d h (pc := 50) (by decide +kernel)) ?_
  refine zfmc (r_iload_n h (pc := 51) (kf := 1) 1 (by decide +kernel) rfl) ?_
  refine zfmc (r_i2d h (pc := 52) (by decide +kernel)) ?_
  refine zfmc (r_ddiv h (pc := 53) (by decide +kernel)) ?_
  refine zfmc (r_dreturn h (pc := 54) (by decide +kernel) rfl) ?_
  exact zfm0)
def tb_X12_digest (E : ZEX) (d mc ms : Nat) : List (Nat × ZStep) := [(0, s_aload 0 1), (1, s_getf 11 2 4), (4, s_getf 1 0 7), (7, s_getf 3 5 10), (10, s_astore 1 11), (11, s_const (.long (859)) 14), (14, s_lstore 2 15), (15, s_const (.int (0)) 16), (16, s_istore 4 18), (18, s_iload 4 20), (20, s_const (.int (8)) 22), (22, s_icmp_gt 45 25), (25, s_lload 2 26), (26, s_const (.long (31)) 29), (29, s_lmul 30), (30, s_aload 0 31), (31, s_iload 4 33), (33, s_callVT E d mc ms 11 MX12_count 1 36), (36, s_i2l 37), (37, s_ladd 38), (38, s_lstore 2 39), (39, s_iinc 4 (1) 42), (42, s_goto 18), (45, s_const (.int (0)) 46), (46, s_istore 4 48), (48, s_iload 4 50), (50, s_aload 1 51), (51, s_getf 5 0 54), (54, s_icmp_ge 95 57), (57, s_const (.int (0)) 58), (58, s_istore 5 60), (60, s_iload 5 62), (62, s_const (.int (6)) 64), (64, s_icmp_gt 89 67), (67, s_lload 2 68), (68, s_const (.long (31)) 71), (71, s_lmul 72), (72, s_aload 0 73), (73, s_iload 4 75), (75, s_iload 5 77), (77, s_callVT E d mc ms 11 MX12_card 2 80), (80, s_i2l 81), (81, s_ladd 82), (82, s_lstore 2 83), (83, s_iinc 5 (1) 86), (86, s_goto 60), (89, s_iinc 4 (1) 92), (92, s_goto 48), (95, s_const (.int (0)) 96), (96, s_istore 4 98), (98, s_iload 4 100), (100, s_aload 1 101), (101, s_getf 5 1 104), (104, s_icmp_ge 121 107), (107, s_aload 0 108), (108, s_lload 2 109), (109, s_iload 4 111), (111, s_callVT E d mc ms 11 MX12_digestMerchant 2 114), (114, s_lstore 2 115), (115, s_iinc 4 (1) 118), (118, s_goto 98), (121, s_lload 2 122), (122, s_lreturn)]
set_option maxRecDepth 20000 in
theorem ok_X12_digest {E : ZEX} {X : ZMX} {d mc ms : Nat} {P : ZPT} {PX : String → ZHp → Nat → Prop} (hM : zMX E X mc ms P PX) (hTH : ZTH E) (hd7 : 7 ≤ d) (h : ZCX E X MX12_digest d mc ms P (zTX mc ms PX)) : ∀ pc, ZRow E X MX12_digest mc ms P (zTX mc ms PX) pc (ztb (tb_X12_digest E d mc ms) pc) := ztb_ok (by
  unfold tb_X12_digest
  refine zfmc (r_aload_n h (pc := 0) (kf := 0) 0 (by decide +kernel) rfl) ?_
  refine zfmc (r_getf h (pc := 1) (ix := 26) (by decide +kernel) ckX12 2 (by decide) wk_de8ce947b7) ?_
  refine zfmc (r_getfN h (pc := 4) (ix := 76) (by decide +kernel) ckX2 0 (by decide) wk_3818d59532) ?_
  refine zfmc (r_getfN h (pc := 7) (ix := 80) (by decide +kernel) ckX4 5 (by decide) wk_71521d046f) ?_
  refine zfmc (r_astore_n h (pc := 10) (kf := 1) 1 (by decide +kernel) rfl (by decide +kernel)) ?_
  refine zfmc (r_ldc2L h (pc := 11) (ix := 203) (by decide +kernel) (859) wk_eea5fef1a3) ?_
  refine zfmc (r_lstore_n h (pc := 14) (kf := 2) 2 (by decide +kernel) rfl (by decide +kernel)) ?_
  refine zfmc (r_iconst h (pc := 15) (z := 0) (by decide +kernel) (0) (by decide +kernel)) ?_
  refine zfmc (r_istore h (pc := 16) 4 (by decide +kernel) (by decide +kernel)) ?_
  refine zfmc (r_iload h (pc := 18) 4 (by decide +kernel)) ?_
  refine zfmc (r_bipush h (pc := 20) (z := 8) (by decide +kernel) (8) (by decide +kernel)) ?_
  refine zfmc (r_icmp_gt h (pc := 22) (off := 23) (by decide +kernel) 45 (by decide +kernel)) ?_
  refine zfmc (r_lload_n h (pc := 25) (kf := 2) 2 (by decide +kernel) rfl) ?_
  refine zfmc (r_ldc2L h (pc := 26) (ix := 205) (by decide +kernel) (31) wk_bb86512676) ?_
  refine zfmc (r_lmul h (pc := 29) (by decide +kernel)) ?_
  refine zfmc (r_aload_n h (pc := 30) (kf := 0) 0 (by decide +kernel) rfl) ?_
  refine zfmc (r_iload h (pc := 31) 4 (by decide +kernel)) ?_
  refine zfmc (r_callVT h hM.1 (pc := 33) (ix := 207) (by decide +kernel) ckX12 1 mcX12_count wk_61d67a02ce wk_aee16dda77 wk_7a6c07293b rfl) ?_
  refine zfmc (r_i2l h (pc := 36) (by decide +kernel)) ?_
  refine zfmc (r_ladd h (pc := 37) (by decide +kernel)) ?_
  refine zfmc (r_lstore_n h (pc := 38) (kf := 2) 2 (by decide +kernel) rfl (by decide +kernel)) ?_
  refine zfmc (r_iinc h (pc := 39) 4 (z := 1) (by decide +kernel) (1) (by decide +kernel) (by decide +kernel)) ?_
  refine zfmc (r_goto h (pc := 42) (off := -24) (by decide +kernel) 18 (by decide +kernel)) ?_
  refine zfmc (r_iconst h (pc := 45) (z := 0) (by decide +kernel) (0) (by decide +kernel)) ?_
  refine zfmc (r_istore h (pc := 46) 4 (by decide +kernel) (by decide +kernel)) ?_
  refine zfmc (r_iload h (pc := 48) 4 (by decide +kernel)) ?_
  refine zfmc (r_aload_n h (pc := 50) (kf := 1) 1 (by decide +kernel) rfl) ?_
  refine zfmc (r_getfN h (pc := 51) (ix := 197) (by decide +kernel) ckX6 0 (by decide) wk_2f945776f6) ?_
  refine zfmc (r_icmp_ge h (pc := 54) (off := 41) (by decide +kernel) 95 (by decide +kernel)) ?_
  refine zfmc (r_iconst h (pc := 57) (z := 0) (by decide +kernel) (0) (by decide +kernel)) ?_
  refine zfmc (r_istore h (pc := 58) 5 (by decide +kernel) (by decide +kernel)) ?_
  refine zfmc (r_iload h (pc := 60) 5 (by decide +kernel)) ?_
  refine zfmc (r_bipush h (pc := 62) (z := 6) (by decide +kernel) (6) (by decide +kernel)) ?_
  refine zfmc (r_icmp_gt h (pc := 64) (off := 25) (by decide +kernel) 89 (by decide +kernel)) ?_
  refine zfmc (r_lload_n h (pc := 67) (kf := 2) 2 (by decide +kernel) rfl) ?_
  refine zfmc (r_ldc2L h (pc := 68) (ix := 205) (by decide +kernel) (31) wk_bb86512676) ?_
  refine zfmc (r_lmul h (pc := 71) (by decide +kernel)) ?_
  refine zfmc (r_aload_n h (pc := 72) (kf := 0) 0 (by decide +kernel) rfl) ?_
  refine zfmc (r_iload h (pc := 73) 4 (by decide +kernel)) ?_
  refine zfmc (r_iload h (pc := 75) 5 (by decide +kernel)) ?_
  refine zfmc (r_callVT h hM.1 (pc := 77) (ix := 210) (by decide +kernel) ckX12 2 mcX12_card wk_4e5f38be25 wk_ebf7e551ca wk_db4a844cdf rfl) ?_
  refine zfmc (r_i2l h (pc := 80) (by decide +kernel)) ?_
  refine zfmc (r_ladd h (pc := 81) (by decide +kernel)) ?_
  refine zfmc (r_lstore_n h (pc := 82) (kf := 2) 2 (by decide +kernel) rfl (by decide +kernel)) ?_
  refine zfmc (r_iinc h (pc := 83) 5 (z := 1) (by decide +kernel) (1) (by decide +kernel) (by decide +kernel)) ?_
  refine zfmc (r_goto h (pc := 86) (off := -26) (by decide +kernel) 60 (by decide +kernel)) ?_
  refine zfmc (r_iinc h (pc := 89) 4 (z := 1) (by decide +kernel) (1) (by decide +kernel) (by decide +kernel)) ?_
  refine zfmc (r_goto h (pc := 92) (off := -44) (by decide +kernel) 48 (by decide +kernel)) ?_
  refine zfmc (r_iconst h (pc := 95) (z := 0) (by decide +kernel) (0) (by decide +kernel)) ?_
  refine zfmc (r_istore h (pc := 96) 4 (by decide +kernel) (by decide +kernel)) ?_
  refine zfmc (r_iload h (pc := 98) 4 (by decide +kernel)) ?_
  refine zfmc (r_aload_n h (pc := 100) (kf := 1) 1 (by decide +kernel) rfl) ?_
  refine zfmc (r_getfN h (pc := 101) (ix := 200) (by decide +kernel) ckX6 1 (by decide) wk_f0871c9870) ?_
  refine zfmc (r_icmp_ge h (pc := 104) (off := 17) (by decide +kernel) 121 (by decide +kernel)) ?_
  refine zfmc (r_aload_n h (pc := 107) (kf := 0) 0 (by decide +kernel) rfl) ?_
  refine zfmc (r_lload_n h (pc := 108) (kf := 2) 2 (by decide +kernel) rfl) ?_
  refine zfmc (r_iload h (pc := 109) 4 (by decide +kernel)) ?_
  refine zfmc (r_callVT h hM.1 (pc := 111) (ix := 213) (by decide +kernel) ckX12 2 mcX12_digestMerchant wk_dc67e587e1 wk_58c2887f94 wk_16573847de rfl) ?_
  refine zfmc (r_lstore_n h (pc := 114) (kf := 2) 2 (by decide +kernel) rfl (by decide +kernel)) ?_
  refine zfmc (r_iinc h (pc := 115) 4 (z := 1) (by decide +kernel) (1) (by decide +kernel) (by decide +kernel)) ?_
  refine zfmc (r_goto h (pc := 118) (off := -20) (by decide +kernel) 98 (by decide +kernel)) ?_
  refine zfmc (r_lload_n h (pc := 121) (kf := 2) 2 (by decide +kernel) rfl) ?_
  refine zfmc (r_lreturn h (pc := 122) (by decide +kernel) rfl) ?_
  exact zfm0)
def tb_X12_digestMerchant (E : ZEX) (d mc ms : Nat) : List (Nat × ZStep) := [(0, s_aload 0 1), (1, s_getf 11 2 4), (4, s_getf 1 0 7), (7, s_iload 3 8), (8, s_callV E d mc ms 3 MX4_trader 1 11), (11, s_astore 4 13), (13, s_lload 1 14), (14, s_lstore 5 16), (16, s_const (.int (0)) 17), (17, s_istore 7 19), (19, s_iload 7 21), (21, s_const (.int (7)) 23), (23, s_icmp_gt 49 26), (26, s_lload 5 28), (28, s_const (.long (31)) 31), (31, s_lmul 32), (32, s_aload 0 33), (33, s_iload 3 34), (34, s_iload 7 36), (36, s_callVT E d mc ms 11 MX12_merchant 2 39), (39, s_i2l 40), (40, s_ladd 41), (41, s_lstore 5 43), (43, s_iinc 7 (1) 46), (46, s_goto 19), (49, s_const (.int (0)) 50), (50, s_istore 7 52), (52, s_iload 7 54), (54, s_aload 4 56), (56, s_callV E d mc ms 10 MX11_deckSize 0 59), (59, s_icmp_ge 85 62), (62, s_lload 5 64), (64, s_const (.long (31)) 67), (67, s_lmul 68), (68, s_aload 4 70), (70, s_iload 7 72), (72, s_callV E d mc ms 10 MX11_deckCard 1 75), (75, s_i2l 76), (76, s_ladd 77), (77, s_lstore 5 79), (79, s_iinc 7 (1) 82), (82, s_goto 52), (85, s_const (.int (0)) 86), (86, s_istore 7 88), (88, s_iload 7 90), (90, s_aload 4 92), (92, s_getf 10 1 95), (95, s_callV E d mc ms 4 MX5_size 0 98), (98, s_icmp_ge 127 101), (101, s_lload 5 103), (103, s_const (.long (31)) 106), (106, s_lmul 107), (107, s_aload 4 109), (109, s_getf 10 1 112), (112, s_iload 7 114), (114, s_callV E d mc ms 4 MX5_get 1 117), (117, s_i2l 118), (118, s_ladd 119), (119, s_lstore 5 121), (121, s_iinc 7 (1) 124), (124, s_goto 88), (127, s_lload 5 129), (129, s_lreturn)]
set_option maxRecDepth 20000 in
theorem ok_X12_digestMerchant {E : ZEX} {X : ZMX} {d mc ms : Nat} {P : ZPT} {PX : String → ZHp → Nat → Prop} (hM : zMX E X mc ms P PX) (hTH : ZTH E) (hd7 : 7 ≤ d) (h : ZCX E X MX12_digestMerchant d mc ms P (zTX mc ms PX)) : ∀ pc, ZRow E X MX12_digestMerchant mc ms P (zTX mc ms PX) pc (ztb (tb_X12_digestMerchant E d mc ms) pc) := ztb_ok (by
  unfold tb_X12_digestMerchant
  refine zfmc (r_aload_n h (pc := 0) (kf := 0) 0 (by decide +kernel) rfl) ?_
  refine zfmc (r_getf h (pc := 1) (ix := 26) (by decide +kernel) ckX12 2 (by decide) wk_de8ce947b7) ?_
  refine zfmc (r_getfN h (pc := 4) (ix := 76) (by decide +kernel) ckX2 0 (by decide) wk_3818d59532) ?_
  refine zfmc (r_iload_n h (pc := 7) (kf := 3) 3 (by decide +kernel) rfl) ?_
  refine zfmc (r_callV h (pc := 8) (ix := 110) (by decide +kernel) ckX4 1 mcX4_trader wk_70b2a8186c wk_2ba7abda0d wk_a79dbba60d rfl) ?_
  refine zfmc (r_astore h (pc := 11) 4 (by decide +kernel) (by decide +kernel)) ?_
  refine zfmc (r_lload_n h (pc := 13) (kf := 1) 1 (by decide +kernel) rfl) ?_
  refine zfmc (r_lstore h (pc := 14) 5 (by decide +kernel) (by decide +kernel)) ?_
  refine zfmc (r_iconst h (pc := 16) (z := 0) (by decide +kernel) (0) (by decide +kernel)) ?_
  refine zfmc (r_istore h (pc := 17) 7 (by decide +kernel) (by decide +kernel)) ?_
  refine zfmc (r_iload h (pc := 19) 7 (by decide +kernel)) ?_
  refine zfmc (r_bipush h (pc := 21) (z := 7) (by decide +kernel) (7) (by decide +kernel)) ?_
  refine zfmc (r_icmp_gt h (pc := 23) (off := 26) (by decide +kernel) 49 (by decide +kernel)) ?_
  refine zfmc (r_lload h (pc := 26) 5 (by decide +kernel)) ?_
  refine zfmc (r_ldc2L h (pc := 28) (ix := 205) (by decide +kernel) (31) wk_bb86512676) ?_
  refine zfmc (r_lmul h (pc := 31) (by decide +kernel)) ?_
  refine zfmc (r_aload_n h (pc := 32) (kf := 0) 0 (by decide +kernel) rfl) ?_
  refine zfmc (r_iload_n h (pc := 33) (kf := 3) 3 (by decide +kernel) rfl) ?_
  refine zfmc (r_iload h (pc := 34) 7 (by decide +kernel)) ?_
  refine zfmc (r_callVT h hM.1 (pc := 36) (ix := 217) (by decide +kernel) ckX12 2 mcX12_merchant wk_465241fbd3 wk_10b5496e68 wk_a0efd6b80e rfl) ?_
  refine zfmc (r_i2l h (pc := 39) (by decide +kernel)) ?_
  refine zfmc (r_ladd h (pc := 40) (by decide +kernel)) ?_
  refine zfmc (r_lstore h (pc := 41) 5 (by decide +kernel) (by decide +kernel)) ?_
  refine zfmc (r_iinc h (pc := 43) 7 (z := 1) (by decide +kernel) (1) (by decide +kernel) (by decide +kernel)) ?_
  refine zfmc (r_goto h (pc := 46) (off := -27) (by decide +kernel) 19 (by decide +kernel)) ?_
  refine zfmc (r_iconst h (pc := 49) (z := 0) (by decide +kernel) (0) (by decide +kernel)) ?_
  refine zfmc (r_istore h (pc := 50) 7 (by decide +kernel) (by decide +kernel)) ?_
  refine zfmc (r_iload h (pc := 52) 7 (by decide +kernel)) ?_
  refine zfmc (r_aload h (pc := 54) 4 (by decide +kernel)) ?_
  refine zfmc (r_callV h (pc := 56) (ix := 126) (by decide +kernel) ckX11 0 mcX11_deckSize wk_e9d0ddb9cc wk_02fec1d4d1 wk_2c6efe0eda rfl) ?_
  refine zfmc (r_icmp_ge h (pc := 59) (off := 26) (by decide +kernel) 85 (by decide +kernel)) ?_
  refine zfmc (r_lload h (pc := 62) 5 (by decide +kernel)) ?_
  refine zfmc (r_ldc2L h (pc := 64) (ix := 205) (by decide +kernel) (31) wk_bb86512676) ?_
  refine zfmc (r_lmul h (pc := 67) (by decide +kernel)) ?_
  refine zfmc (r_aload h (pc := 68) 4 (by decide +kernel)) ?_
  refine zfmc (r_iload h (pc := 70) 7 (by decide +kernel)) ?_
  refine zfmc (r_callV h (pc := 72) (ix := 132) (by decide +kernel) ckX11 1 mcX11_deckCard wk_dd78470f08 wk_219c2f831a wk_392f875767 rfl) ?_
  refine zfmc (r_i2l h (pc := 75) (by decide +kernel)) ?_
  refine zfmc (r_ladd h (pc := 76) (by decide +kernel)) ?_
  refine zfmc (r_lstore h (pc := 77) 5 (by decide +kernel) (by decide +kernel)) ?_
  refine zfmc (r_iinc h (pc := 79) 7 (z := 1) (by decide +kernel) (1) (by decide +kernel) (by decide +kernel)) ?_
  refine zfmc (r_goto h (pc := 82) (off := -30) (by decide +kernel) 52 (by decide +kernel)) ?_
  refine zfmc (r_iconst h (pc := 85) (z := 0) (by decide +kernel) (0) (by decide +kernel)) ?_
  refine zfmc (r_istore h (pc := 86) 7 (by decide +kernel) (by decide +kernel)) ?_
  refine zfmc (r_iload h (pc := 88) 7 (by decide +kernel)) ?_
  refine zfmc (r_aload h (pc := 90) 4 (by decide +kernel)) ?_
  refine zfmc (r_getfN h (pc := 92) (ix := 135) (by decide +kernel) ckX11 1 (by decide) wk_883a353630) ?_
  refine zfmc (r_callV h (pc := 95) (ix := 138) (by decide +kernel) ckX5 0 mcX5_size wk_2a1282b961 wk_0bfc700cb8 wk_5abe0e2775 rfl) ?_
  refine zfmc (r_icmp_ge h (pc := 98) (off := 29) (by decide +kernel) 127 (by decide +kernel)) ?_
  refine zfmc (r_lload h (pc := 101) 5 (by decide +kernel)) ?_
  refine zfmc (r_ldc2L h (pc := 103) (ix := 205) (by decide +kernel) (31) wk_bb86512676) ?_
  refine zfmc (r_lmul h (pc := 106) (by decide +kernel)) ?_
  refine zfmc (r_aload h (pc := 107) 4 (by decide +kernel)) ?_
  refine zfmc (r_getfN h (pc := 109) (ix := 135) (by decide +kernel) ckX11 1 (by decide) wk_883a353630) ?_
  refine zfmc (r_iload h (pc := 112) 7 (by decide +kernel)) ?_
  refine zfmc (r_callV h (pc := 114) (ix := 121) (by decide +kernel) ckX5 1 mcX5_get wk_d096485f84 wk_0beb95ca34 wk_1db6b0b94a rfl) ?_
  refine zfmc (r_i2l h (pc := 117) (by decide +kernel)) ?_
  refine zfmc (r_ladd h (pc := 118) (by decide +kernel)) ?_
  refine zfmc (r_lstore h (pc := 119) 5 (by decide +kernel) (by decide +kernel)) ?_
  refine zfmc (r_iinc h (pc := 121) 7 (z := 1) (by decide +kernel) (1) (by decide +kernel) (by decide +kernel)) ?_
  refine zfmc (r_goto h (pc := 124) (off := -36) (by decide +kernel) 88 (by decide +kernel)) ?_
  refine zfmc (r_lload h (pc := 127) 5 (by decide +kernel)) ?_
  refine zfmc (r_lreturn h (pc := 129) (by decide +kernel) rfl) ?_
  exact zfm0)
def tb_X12_checkWhat (E : ZEX) (d mc ms : Nat) : List (Nat × ZStep) := [(0, s_iload 1 1), (1, s_if_lt 9 4), (4, s_iload 1 5), (5, s_iload 2 6), (6, s_icmp_le 19 9), (9, s_throw "java/lang/IndexOutOfBoundsException"), (19, s_return)]
set_option maxRecDepth 20000 in
theorem ok_X12_checkWhat {E : ZEX} {X : ZMX} {d mc ms : Nat} {P : ZPT} {PX : String → ZHp → Nat → Prop} (hM : zMX E X mc ms P PX) (hTH : ZTH E) (hd7 : 7 ≤ d) (h : ZCX E X MX12_checkWhat d mc ms P (zTX mc ms PX)) : ∀ pc, ZRow E X MX12_checkWhat mc ms P (zTX mc ms PX) pc (ztb (tb_X12_checkWhat E d mc ms) pc) := ztb_ok (by
  unfold tb_X12_checkWhat
  refine zfmc (r_iload_n h (pc := 0) (kf := 1) 1 (by decide +kernel) rfl) ?_
  refine zfmc (r_if_lt h (pc := 1) (off := 8) (by decide +kernel) 9 (by decide +kernel)) ?_
  refine zfmc (r_iload_n h (pc := 4) (kf := 1) 1 (by decide +kernel) rfl) ?_
  refine zfmc (r_iload_n h (pc := 5) (kf := 2) 2 (by decide +kernel) rfl) ?_
  refine zfmc (r_icmp_le h (pc := 6) (off := 13) (by decide +kernel) 19 (by decide +kernel)) ?_
  refine zfmc (r_throw h hM (pc := 9) (hTH (220, "there is no such thing to tell", 186, 190, "java/lang/IndexOutOfBoundsException") (by decide)) hd7 (by decide +kernel) zot_I (by decide +kernel) (by decide +kernel) (by decide +kernel) (by decide +kernel) (by decide +kernel)) ?_
  refine zfmc (r_return h (pc := 19) (by decide +kernel) rfl) ?_
  exact zfm0)
def tb_X12_checkCard (E : ZEX) (d mc ms : Nat) : List (Nat × ZStep) := [(0, s_iload 1 1), (1, s_if_lt 21 4), (4, s_iload 1 5), (5, s_aload 0 6), (6, s_getf 11 2 9), (9, s_getf 1 0 12), (12, s_getf 3 5 15), (15, s_getf 5 0 18), (18, s_icmp_lt 31 21), (21, s_throw "java/lang/IndexOutOfBoundsException"), (31, s_return)]
set_option maxRecDepth 20000 in
theorem ok_X12_checkCard {E : ZEX} {X : ZMX} {d mc ms : Nat} {P : ZPT} {PX : String → ZHp → Nat → Prop} (hM : zMX E X mc ms P PX) (hTH : ZTH E) (hd7 : 7 ≤ d) (h : ZCX E X MX12_checkCard d mc ms P (zTX mc ms PX)) : ∀ pc, ZRow E X MX12_checkCard mc ms P (zTX mc ms PX) pc (ztb (tb_X12_checkCard E d mc ms) pc) := ztb_ok (by
  unfold tb_X12_checkCard
  refine zfmc (r_iload_n h (pc := 0) (kf := 1) 1 (by decide +kernel) rfl) ?_
  refine zfmc (r_if_lt h (pc := 1) (off := 20) (by decide +kernel) 21 (by decide +kernel)) ?_
  refine zfmc (r_iload_n h (pc := 4) (kf := 1) 1 (by decide +kernel) rfl) ?_
  refine zfmc (r_aload_n h (pc := 5) (kf := 0) 0 (by decide +kernel) rfl) ?_
  refine zfmc (r_getf h (pc := 6) (ix := 26) (by decide +kernel) ckX12 2 (by decide) wk_de8ce947b7) ?_
  refine zfmc (r_getfN h (pc := 9) (ix := 76) (by decide +kernel) ckX2 0 (by decide) wk_3818d59532) ?_
  refine zfmc (r_getfN h (pc := 12) (ix := 80) (by decide +kernel) ckX4 5 (by decide) wk_71521d046f) ?_
  refine zfmc (r_getfN h (pc := 15) (ix := 197) (by decide +kernel) ckX6 0 (by decide) wk_2f945776f6) ?_
  refine zfmc (r_icmp_lt h (pc := 18) (off := 13) (by decide +kernel) 31 (by decide +kernel)) ?_
  refine zfmc (r_throw h hM (pc := 21) (hTH (222, "there is no such card", 186, 190, "java/lang/IndexOutOfBoundsException") (by decide)) hd7 (by decide +kernel) zot_I (by decide +kernel) (by decide +kernel) (by decide +kernel) (by decide +kernel) (by decide +kernel)) ?_
  refine zfmc (r_return h (pc := 31) (by decide +kernel) rfl) ?_
  exact zfm0)
def tb_X12_checkMerchant (E : ZEX) (d mc ms : Nat) : List (Nat × ZStep) := [(0, s_iload 1 1), (1, s_if_lt 21 4), (4, s_iload 1 5), (5, s_aload 0 6), (6, s_getf 11 2 9), (9, s_getf 1 0 12), (12, s_getf 3 5 15), (15, s_getf 5 1 18), (18, s_icmp_lt 31 21), (21, s_throw "java/lang/IndexOutOfBoundsException"), (31, s_return)]
set_option maxRecDepth 20000 in
theorem ok_X12_checkMerchant {E : ZEX} {X : ZMX} {d mc ms : Nat} {P : ZPT} {PX : String → ZHp → Nat → Prop} (hM : zMX E X mc ms P PX) (hTH : ZTH E) (hd7 : 7 ≤ d) (h : ZCX E X MX12_checkMerchant d mc ms P (zTX mc ms PX)) : ∀ pc, ZRow E X MX12_checkMerchant mc ms P (zTX mc ms PX) pc (ztb (tb_X12_checkMerchant E d mc ms) pc) := ztb_ok (by
  unfold tb_X12_checkMerchant
  refine zfmc (r_iload_n h (pc := 0) (kf := 1) 1 (by decide +kernel) rfl) ?_
  refine zfmc (r_if_lt h (pc := 1) (off := 20) (by decide +kernel) 21 (by decide +kernel)) ?_
  refine zfmc (r_iload_n h (pc := 4) (kf := 1) 1 (by decide +kernel) rfl) ?_
  refine zfmc (r_aload_n h (pc := 5) (kf := 0) 0 (by decide +kernel) rfl) ?_
  refine zfmc (r_getf h (pc := 6) (ix := 26) (by decide +kernel) ckX12 2 (by decide) wk_de8ce947b7) ?_
  refine zfmc (r_getfN h (pc := 9) (ix := 76) (by decide +kernel) ckX2 0 (by decide) wk_3818d59532) ?_
  refine zfmc (r_getfN h (pc := 12) (ix := 80) (by decide +kernel) ckX4 5 (by decide) wk_71521d046f) ?_
  refine zfmc (r_getfN h (pc := 15) (ix := 200) (by decide +kernel) ckX6 1 (by decide) wk_f0871c9870) ?_
  refine zfmc (r_icmp_lt h (pc := 18) (off := 13) (by decide +kernel) 31 (by decide +kernel)) ?_
  refine zfmc (r_throw h hM (pc := 21) (hTH (224, "there is no such merchant", 186, 190, "java/lang/IndexOutOfBoundsException") (by decide)) hd7 (by decide +kernel) zot_I (by decide +kernel) (by decide +kernel) (by decide +kernel) (by decide +kernel) (by decide +kernel)) ?_
  refine zfmc (r_return h (pc := 31) (by decide +kernel) rfl) ?_
  exact zfm0)
def tb_X12_checkPlace (E : ZEX) (d mc ms : Nat) : List (Nat × ZStep) := [(0, s_iload 1 1), (1, s_if_lt 9 4), (4, s_iload 1 5), (5, s_iload 2 6), (6, s_icmp_lt 19 9), (9, s_throw "java/lang/IndexOutOfBoundsException"), (19, s_return)]
set_option maxRecDepth 20000 in
theorem ok_X12_checkPlace {E : ZEX} {X : ZMX} {d mc ms : Nat} {P : ZPT} {PX : String → ZHp → Nat → Prop} (hM : zMX E X mc ms P PX) (hTH : ZTH E) (hd7 : 7 ≤ d) (h : ZCX E X MX12_checkPlace d mc ms P (zTX mc ms PX)) : ∀ pc, ZRow E X MX12_checkPlace mc ms P (zTX mc ms PX) pc (ztb (tb_X12_checkPlace E d mc ms) pc) := ztb_ok (by
  unfold tb_X12_checkPlace
  refine zfmc (r_iload_n h (pc := 0) (kf := 1) 1 (by decide +kernel) rfl) ?_
  refine zfmc (r_if_lt h (pc := 1) (off := 8) (by decide +kernel) 9 (by decide +kernel)) ?_
  refine zfmc (r_iload_n h (pc := 4) (kf := 1) 1 (by decide +kernel) rfl) ?_
  refine zfmc (r_iload_n h (pc := 5) (kf := 2) 2 (by decide +kernel) rfl) ?_
  refine zfmc (r_icmp_lt h (pc := 6) (off := 13) (by decide +kernel) 19 (by decide +kernel)) ?_
  refine zfmc (r_throw h hM (pc := 9) (hTH (226, "there is no such place", 186, 190, "java/lang/IndexOutOfBoundsException") (by decide)) hd7 (by decide +kernel) zot_I (by decide +kernel) (by decide +kernel) (by decide +kernel) (by decide +kernel) (by decide +kernel)) ?_
  refine zfmc (r_return h (pc := 19) (by decide +kernel) rfl) ?_
  exact zfm0)
def tb_X12_checkRounds (E : ZEX) (d mc ms : Nat) : List (Nat × ZStep) := [(0, s_iload 1 1), (1, s_const (.int (1)) 2), (2, s_icmp_lt 10 5), (5, s_iload 1 6), (6, s_iload 2 7), (7, s_icmp_le 20 10), (10, s_throw "java/lang/IllegalArgumentException"), (20, s_return)]
set_option maxRecDepth 20000 in
theorem ok_X12_checkRounds {E : ZEX} {X : ZMX} {d mc ms : Nat} {P : ZPT} {PX : String → ZHp → Nat → Prop} (hM : zMX E X mc ms P PX) (hTH : ZTH E) (hd7 : 7 ≤ d) (h : ZCX E X MX12_checkRounds d mc ms P (zTX mc ms PX)) : ∀ pc, ZRow E X MX12_checkRounds mc ms P (zTX mc ms PX) pc (ztb (tb_X12_checkRounds E d mc ms) pc) := ztb_ok (by
  unfold tb_X12_checkRounds
  refine zfmc (r_iload_n h (pc := 0) (kf := 1) 1 (by decide +kernel) rfl) ?_
  refine zfmc (r_iconst h (pc := 1) (z := 1) (by decide +kernel) (1) (by decide +kernel)) ?_
  refine zfmc (r_icmp_lt h (pc := 2) (off := 8) (by decide +kernel) 10 (by decide +kernel)) ?_
  refine zfmc (r_iload_n h (pc := 5) (kf := 1) 1 (by decide +kernel) rfl) ?_
  refine zfmc (r_iload_n h (pc := 6) (kf := 2) 2 (by decide +kernel) rfl) ?_
  refine zfmc (r_icmp_le h (pc := 7) (off := 13) (by decide +kernel) 20 (by decide +kernel)) ?_
  refine zfmc (r_throw h hM (pc := 10) (hTH (228, "not so many rounds", 59, 63, "java/lang/IllegalArgumentException") (by decide)) hd7 (by decide +kernel) zot_A (by decide +kernel) (by decide +kernel) (by decide +kernel) (by decide +kernel) (by decide +kernel)) ?_
  refine zfmc (r_return h (pc := 20) (by decide +kernel) rfl) ?_
  exact zfm0)
section
variable {E : ZEX} {d mc ms : Nat} {cut : Nat → Bool} {G : ZCont} {R : ZRtn} {T : ZTT} {Z : Nat → ZCont}
theorem f_X12_init_0 (hZ : ZRN (ztb (tb_X12_init E d mc ms)) cut G R T Z) (f : Nat) (L : ZLV) (st : List Value) (σ : ZHp) (n k w : Nat) : Z (f + 1) 0 L st σ n k w = s_aload 0 1 L st σ n k w (zk1 cut G (Z f)) G R T := zrs hZ rfl f L st σ n k w
theorem f_X12_init_1 (hZ : ZRN (ztb (tb_X12_init E d mc ms)) cut G R T Z) (f : Nat) (L : ZLV) (st : List Value) (σ : ZHp) (n k w : Nat) : Z (f + 1) 1 L st σ n k w = s_objinit d 4 L st σ n k w (zk1 cut G (Z f)) G R T := zrs hZ rfl f L st σ n k w
theorem f_X12_init_4 (hZ : ZRN (ztb (tb_X12_init E d mc ms)) cut G R T Z) (f : Nat) (L : ZLV) (st : List Value) (σ : ZHp) (n k w : Nat) : Z (f + 1) 4 L st σ n k w = s_aload 0 5 L st σ n k w (zk1 cut G (Z f)) G R T := zrs hZ rfl f L st σ n k w
theorem f_X12_init_5 (hZ : ZRN (ztb (tb_X12_init E d mc ms)) cut G R T Z) (f : Nat) (L : ZLV) (st : List Value) (σ : ZHp) (n k w : Nat) : Z (f + 1) 5 L st σ n k w = s_new 8 2 fsX9 mc ms 8 L st σ n k w (zk1 cut G (Z f)) G R T := zrs hZ rfl f L st σ n k w
theorem f_X12_init_8 (hZ : ZRN (ztb (tb_X12_init E d mc ms)) cut G R T Z) (f : Nat) (L : ZLV) (st : List Value) (σ : ZHp) (n k w : Nat) : Z (f + 1) 8 L st σ n k w = s_dup 9 L st σ n k w (zk1 cut G (Z f)) G R T := zrs hZ rfl f L st σ n k w
theorem f_X12_init_9 (hZ : ZRN (ztb (tb_X12_init E d mc ms)) cut G R T Z) (f : Nat) (L : ZLV) (st : List Value) (σ : ZHp) (n k w : Nat) : Z (f + 1) 9 L st σ n k w = s_callI E d mc ms MX9_init 0 12 L st σ n k w (zk1 cut G (Z f)) G R T := zrs hZ rfl f L st σ n k w
theorem f_X12_init_12 (hZ : ZRN (ztb (tb_X12_init E d mc ms)) cut G R T Z) (f : Nat) (L : ZLV) (st : List Value) (σ : ZHp) (n k w : Nat) : Z (f + 1) 12 L st σ n k w = s_putf 11 0 3 15 L st σ n k w (zk1 cut G (Z f)) G R T := zrs hZ rfl f L st σ n k w
theorem f_X12_init_15 (hZ : ZRN (ztb (tb_X12_init E d mc ms)) cut G R T Z) (f : Nat) (L : ZLV) (st : List Value) (σ : ZHp) (n k w : Nat) : Z (f + 1) 15 L st σ n k w = s_aload 0 16 L st σ n k w (zk1 cut G (Z f)) G R T := zrs hZ rfl f L st σ n k w
theorem f_X12_init_16 (hZ : ZRN (ztb (tb_X12_init E d mc ms)) cut G R T Z) (f : Nat) (L : ZLV) (st : List Value) (σ : ZHp) (n k w : Nat) : Z (f + 1) 16 L st σ n k w = s_new 2 4 fsX3 mc ms 19 L st σ n k w (zk1 cut G (Z f)) G R T := zrs hZ rfl f L st σ n k w
theorem f_X12_init_19 (hZ : ZRN (ztb (tb_X12_init E d mc ms)) cut G R T Z) (f : Nat) (L : ZLV) (st : List Value) (σ : ZHp) (n k w : Nat) : Z (f + 1) 19 L st σ n k w = s_dup 20 L st σ n k w (zk1 cut G (Z f)) G R T := zrs hZ rfl f L st σ n k w
theorem f_X12_init_20 (hZ : ZRN (ztb (tb_X12_init E d mc ms)) cut G R T Z) (f : Nat) (L : ZLV) (st : List Value) (σ : ZHp) (n k w : Nat) : Z (f + 1) 20 L st σ n k w = s_callI E d mc ms MX3_init 0 23 L st σ n k w (zk1 cut G (Z f)) G R T := zrs hZ rfl f L st σ n k w
theorem f_X12_init_23 (hZ : ZRN (ztb (tb_X12_init E d mc ms)) cut G R T Z) (f : Nat) (L : ZLV) (st : List Value) (σ : ZHp) (n k w : Nat) : Z (f + 1) 23 L st σ n k w = s_putf 11 1 3 26 L st σ n k w (zk1 cut G (Z f)) G R T := zrs hZ rfl f L st σ n k w
theorem f_X12_init_26 (hZ : ZRN (ztb (tb_X12_init E d mc ms)) cut G R T Z) (f : Nat) (L : ZLV) (st : List Value) (σ : ZHp) (n k w : Nat) : Z (f + 1) 26 L st σ n k w = s_aload 0 27 L st σ n k w (zk1 cut G (Z f)) G R T := zrs hZ rfl f L st σ n k w
theorem f_X12_init_27 (hZ : ZRN (ztb (tb_X12_init E d mc ms)) cut G R T Z) (f : Nat) (L : ZLV) (st : List Value) (σ : ZHp) (n k w : Nat) : Z (f + 1) 27 L st σ n k w = s_new 1 11 fsX2 mc ms 30 L st σ n k w (zk1 cut G (Z f)) G R T := zrs hZ rfl f L st σ n k w
theorem f_X12_init_30 (hZ : ZRN (ztb (tb_X12_init E d mc ms)) cut G R T Z) (f : Nat) (L : ZLV) (st : List Value) (σ : ZHp) (n k w : Nat) : Z (f + 1) 30 L st σ n k w = s_dup 31 L st σ n k w (zk1 cut G (Z f)) G R T := zrs hZ rfl f L st σ n k w
theorem f_X12_init_31 (hZ : ZRN (ztb (tb_X12_init E d mc ms)) cut G R T Z) (f : Nat) (L : ZLV) (st : List Value) (σ : ZHp) (n k w : Nat) : Z (f + 1) 31 L st σ n k w = s_callI E d mc ms MX2_init 0 34 L st σ n k w (zk1 cut G (Z f)) G R T := zrs hZ rfl f L st σ n k w
theorem f_X12_init_34 (hZ : ZRN (ztb (tb_X12_init E d mc ms)) cut G R T Z) (f : Nat) (L : ZLV) (st : List Value) (σ : ZHp) (n k w : Nat) : Z (f + 1) 34 L st σ n k w = s_putf 11 2 3 37 L st σ n k w (zk1 cut G (Z f)) G R T := zrs hZ rfl f L st σ n k w
theorem f_X12_init_37 (hZ : ZRN (ztb (tb_X12_init E d mc ms)) cut G R T Z) (f : Nat) (L : ZLV) (st : List Value) (σ : ZHp) (n k w : Nat) : Z (f + 1) 37 L st σ n k w = s_aload 0 38 L st σ n k w (zk1 cut G (Z f)) G R T := zrs hZ rfl f L st σ n k w
theorem f_X12_init_38 (hZ : ZRN (ztb (tb_X12_init E d mc ms)) cut G R T Z) (f : Nat) (L : ZLV) (st : List Value) (σ : ZHp) (n k w : Nat) : Z (f + 1) 38 L st σ n k w = s_new 1 11 fsX2 mc ms 41 L st σ n k w (zk1 cut G (Z f)) G R T := zrs hZ rfl f L st σ n k w
theorem f_X12_init_41 (hZ : ZRN (ztb (tb_X12_init E d mc ms)) cut G R T Z) (f : Nat) (L : ZLV) (st : List Value) (σ : ZHp) (n k w : Nat) : Z (f + 1) 41 L st σ n k w = s_dup 42 L st σ n k w (zk1 cut G (Z f)) G R T := zrs hZ rfl f L st σ n k w
theorem f_X12_init_42 (hZ : ZRN (ztb (tb_X12_init E d mc ms)) cut G R T Z) (f : Nat) (L : ZLV) (st : List Value) (σ : ZHp) (n k w : Nat) : Z (f + 1) 42 L st σ n k w = s_callI E d mc ms MX2_init 0 45 L st σ n k w (zk1 cut G (Z f)) G R T := zrs hZ rfl f L st σ n k w
theorem f_X12_init_45 (hZ : ZRN (ztb (tb_X12_init E d mc ms)) cut G R T Z) (f : Nat) (L : ZLV) (st : List Value) (σ : ZHp) (n k w : Nat) : Z (f + 1) 45 L st σ n k w = s_putf 11 3 3 48 L st σ n k w (zk1 cut G (Z f)) G R T := zrs hZ rfl f L st σ n k w
theorem f_X12_init_48 (hZ : ZRN (ztb (tb_X12_init E d mc ms)) cut G R T Z) (f : Nat) (L : ZLV) (st : List Value) (σ : ZHp) (n k w : Nat) : Z (f + 1) 48 L st σ n k w = s_aload 0 49 L st σ n k w (zk1 cut G (Z f)) G R T := zrs hZ rfl f L st σ n k w
theorem f_X12_init_49 (hZ : ZRN (ztb (tb_X12_init E d mc ms)) cut G R T Z) (f : Nat) (L : ZLV) (st : List Value) (σ : ZHp) (n k w : Nat) : Z (f + 1) 49 L st σ n k w = s_new 5 15 fsX6 mc ms 52 L st σ n k w (zk1 cut G (Z f)) G R T := zrs hZ rfl f L st σ n k w
theorem f_X12_init_52 (hZ : ZRN (ztb (tb_X12_init E d mc ms)) cut G R T Z) (f : Nat) (L : ZLV) (st : List Value) (σ : ZHp) (n k w : Nat) : Z (f + 1) 52 L st σ n k w = s_dup 53 L st σ n k w (zk1 cut G (Z f)) G R T := zrs hZ rfl f L st σ n k w
theorem f_X12_init_53 (hZ : ZRN (ztb (tb_X12_init E d mc ms)) cut G R T Z) (f : Nat) (L : ZLV) (st : List Value) (σ : ZHp) (n k w : Nat) : Z (f + 1) 53 L st σ n k w = s_callI E d mc ms MX6_init 0 56 L st σ n k w (zk1 cut G (Z f)) G R T := zrs hZ rfl f L st σ n k w
theorem f_X12_init_56 (hZ : ZRN (ztb (tb_X12_init E d mc ms)) cut G R T Z) (f : Nat) (L : ZLV) (st : List Value) (σ : ZHp) (n k w : Nat) : Z (f + 1) 56 L st σ n k w = s_putf 11 4 3 59 L st σ n k w (zk1 cut G (Z f)) G R T := zrs hZ rfl f L st σ n k w
theorem f_X12_init_59 (hZ : ZRN (ztb (tb_X12_init E d mc ms)) cut G R T Z) (f : Nat) (L : ZLV) (st : List Value) (σ : ZHp) (n k w : Nat) : Z (f + 1) 59 L st σ n k w = s_aload 0 60 L st σ n k w (zk1 cut G (Z f)) G R T := zrs hZ rfl f L st σ n k w
theorem f_X12_init_60 (hZ : ZRN (ztb (tb_X12_init E d mc ms)) cut G R T Z) (f : Nat) (L : ZLV) (st : List Value) (σ : ZHp) (n k w : Nat) : Z (f + 1) 60 L st σ n k w = s_const (.int (-1)) 61 L st σ n k w (zk1 cut G (Z f)) G R T := zrs hZ rfl f L st σ n k w
theorem f_X12_init_61 (hZ : ZRN (ztb (tb_X12_init E d mc ms)) cut G R T Z) (f : Nat) (L : ZLV) (st : List Value) (σ : ZHp) (n k w : Nat) : Z (f + 1) 61 L st σ n k w = s_putf 11 5 0 64 L st σ n k w (zk1 cut G (Z f)) G R T := zrs hZ rfl f L st σ n k w
theorem f_X12_init_64 (hZ : ZRN (ztb (tb_X12_init E d mc ms)) cut G R T Z) (f : Nat) (L : ZLV) (st : List Value) (σ : ZHp) (n k w : Nat) : Z (f + 1) 64 L st σ n k w = s_return L st σ n k w (zk1 cut G (Z f)) G R T := zrs hZ rfl f L st σ n k w
theorem f_X12_feed_0 (hZ : ZRN (ztb (tb_X12_feed E d mc ms)) cut G R T Z) (f : Nat) (L : ZLV) (st : List Value) (σ : ZHp) (n k w : Nat) : Z (f + 1) 0 L st σ n k w = s_aload 0 1 L st σ n k w (zk1 cut G (Z f)) G R T := zrs hZ rfl f L st σ n k w
theorem f_X12_feed_1 (hZ : ZRN (ztb (tb_X12_feed E d mc ms)) cut G R T Z) (f : Nat) (L : ZLV) (st : List Value) (σ : ZHp) (n k w : Nat) : Z (f + 1) 1 L st σ n k w = s_getf 11 0 4 L st σ n k w (zk1 cut G (Z f)) G R T := zrs hZ rfl f L st σ n k w
theorem f_X12_feed_4 (hZ : ZRN (ztb (tb_X12_feed E d mc ms)) cut G R T Z) (f : Nat) (L : ZLV) (st : List Value) (σ : ZHp) (n k w : Nat) : Z (f + 1) 4 L st σ n k w = s_callV E d mc ms 8 MX9_length 0 7 L st σ n k w (zk1 cut G (Z f)) G R T := zrs hZ rfl f L st σ n k w
theorem f_X12_feed_7 (hZ : ZRN (ztb (tb_X12_feed E d mc ms)) cut G R T Z) (f : Nat) (L : ZLV) (st : List Value) (σ : ZHp) (n k w : Nat) : Z (f + 1) 7 L st σ n k w = s_const (.int (1980)) 10 L st σ n k w (zk1 cut G (Z f)) G R T := zrs hZ rfl f L st σ n k w
theorem f_X12_feed_10 (hZ : ZRN (ztb (tb_X12_feed E d mc ms)) cut G R T Z) (f : Nat) (L : ZLV) (st : List Value) (σ : ZHp) (n k w : Nat) : Z (f + 1) 10 L st σ n k w = s_icmp_le 23 13 L st σ n k w (zk1 cut G (Z f)) G R T := zrs hZ rfl f L st σ n k w
theorem f_X12_feed_13 (hZ : ZRN (ztb (tb_X12_feed E d mc ms)) cut G R T Z) (f : Nat) (L : ZLV) (st : List Value) (σ : ZHp) (n k w : Nat) : Z (f + 1) 13 L st σ n k w = s_throw "java/lang/IllegalStateException" L st σ n k w (zk1 cut G (Z f)) G R T := zrs hZ rfl f L st σ n k w
theorem f_X12_feed_23 (hZ : ZRN (ztb (tb_X12_feed E d mc ms)) cut G R T Z) (f : Nat) (L : ZLV) (st : List Value) (σ : ZHp) (n k w : Nat) : Z (f + 1) 23 L st σ n k w = s_aload 0 24 L st σ n k w (zk1 cut G (Z f)) G R T := zrs hZ rfl f L st σ n k w
theorem f_X12_feed_24 (hZ : ZRN (ztb (tb_X12_feed E d mc ms)) cut G R T Z) (f : Nat) (L : ZLV) (st : List Value) (σ : ZHp) (n k w : Nat) : Z (f + 1) 24 L st σ n k w = s_getf 11 0 27 L st σ n k w (zk1 cut G (Z f)) G R T := zrs hZ rfl f L st σ n k w
theorem f_X12_feed_27 (hZ : ZRN (ztb (tb_X12_feed E d mc ms)) cut G R T Z) (f : Nat) (L : ZLV) (st : List Value) (σ : ZHp) (n k w : Nat) : Z (f + 1) 27 L st σ n k w = s_iload 1 28 L st σ n k w (zk1 cut G (Z f)) G R T := zrs hZ rfl f L st σ n k w
theorem f_X12_feed_28 (hZ : ZRN (ztb (tb_X12_feed E d mc ms)) cut G R T Z) (f : Nat) (L : ZLV) (st : List Value) (σ : ZHp) (n k w : Nat) : Z (f + 1) 28 L st σ n k w = s_callV E d mc ms 8 MX9_append 1 31 L st σ n k w (zk1 cut G (Z f)) G R T := zrs hZ rfl f L st σ n k w
theorem f_X12_feed_31 (hZ : ZRN (ztb (tb_X12_feed E d mc ms)) cut G R T Z) (f : Nat) (L : ZLV) (st : List Value) (σ : ZHp) (n k w : Nat) : Z (f + 1) 31 L st σ n k w = s_aload 0 32 L st σ n k w (zk1 cut G (Z f)) G R T := zrs hZ rfl f L st σ n k w
theorem f_X12_feed_32 (hZ : ZRN (ztb (tb_X12_feed E d mc ms)) cut G R T Z) (f : Nat) (L : ZLV) (st : List Value) (σ : ZHp) (n k w : Nat) : Z (f + 1) 32 L st σ n k w = s_getf 11 0 35 L st σ n k w (zk1 cut G (Z f)) G R T := zrs hZ rfl f L st σ n k w
theorem f_X12_feed_35 (hZ : ZRN (ztb (tb_X12_feed E d mc ms)) cut G R T Z) (f : Nat) (L : ZLV) (st : List Value) (σ : ZHp) (n k w : Nat) : Z (f + 1) 35 L st σ n k w = s_iload 2 36 L st σ n k w (zk1 cut G (Z f)) G R T := zrs hZ rfl f L st σ n k w
theorem f_X12_feed_36 (hZ : ZRN (ztb (tb_X12_feed E d mc ms)) cut G R T Z) (f : Nat) (L : ZLV) (st : List Value) (σ : ZHp) (n k w : Nat) : Z (f + 1) 36 L st σ n k w = s_callV E d mc ms 8 MX9_append 1 39 L st σ n k w (zk1 cut G (Z f)) G R T := zrs hZ rfl f L st σ n k w
theorem f_X12_feed_39 (hZ : ZRN (ztb (tb_X12_feed E d mc ms)) cut G R T Z) (f : Nat) (L : ZLV) (st : List Value) (σ : ZHp) (n k w : Nat) : Z (f + 1) 39 L st σ n k w = s_aload 0 40 L st σ n k w (zk1 cut G (Z f)) G R T := zrs hZ rfl f L st σ n k w
theorem f_X12_feed_40 (hZ : ZRN (ztb (tb_X12_feed E d mc ms)) cut G R T Z) (f : Nat) (L : ZLV) (st : List Value) (σ : ZHp) (n k w : Nat) : Z (f + 1) 40 L st σ n k w = s_getf 11 0 43 L st σ n k w (zk1 cut G (Z f)) G R T := zrs hZ rfl f L st σ n k w
theorem f_X12_feed_43 (hZ : ZRN (ztb (tb_X12_feed E d mc ms)) cut G R T Z) (f : Nat) (L : ZLV) (st : List Value) (σ : ZHp) (n k w : Nat) : Z (f + 1) 43 L st σ n k w = s_iload 3 44 L st σ n k w (zk1 cut G (Z f)) G R T := zrs hZ rfl f L st σ n k w
theorem f_X12_feed_44 (hZ : ZRN (ztb (tb_X12_feed E d mc ms)) cut G R T Z) (f : Nat) (L : ZLV) (st : List Value) (σ : ZHp) (n k w : Nat) : Z (f + 1) 44 L st σ n k w = s_callV E d mc ms 8 MX9_append 1 47 L st σ n k w (zk1 cut G (Z f)) G R T := zrs hZ rfl f L st σ n k w
theorem f_X12_feed_47 (hZ : ZRN (ztb (tb_X12_feed E d mc ms)) cut G R T Z) (f : Nat) (L : ZLV) (st : List Value) (σ : ZHp) (n k w : Nat) : Z (f + 1) 47 L st σ n k w = s_aload 0 48 L st σ n k w (zk1 cut G (Z f)) G R T := zrs hZ rfl f L st σ n k w
theorem f_X12_feed_48 (hZ : ZRN (ztb (tb_X12_feed E d mc ms)) cut G R T Z) (f : Nat) (L : ZLV) (st : List Value) (σ : ZHp) (n k w : Nat) : Z (f + 1) 48 L st σ n k w = s_getf 11 0 51 L st σ n k w (zk1 cut G (Z f)) G R T := zrs hZ rfl f L st σ n k w
theorem f_X12_feed_51 (hZ : ZRN (ztb (tb_X12_feed E d mc ms)) cut G R T Z) (f : Nat) (L : ZLV) (st : List Value) (σ : ZHp) (n k w : Nat) : Z (f + 1) 51 L st σ n k w = s_iload 4 53 L st σ n k w (zk1 cut G (Z f)) G R T := zrs hZ rfl f L st σ n k w
theorem f_X12_feed_53 (hZ : ZRN (ztb (tb_X12_feed E d mc ms)) cut G R T Z) (f : Nat) (L : ZLV) (st : List Value) (σ : ZHp) (n k w : Nat) : Z (f + 1) 53 L st σ n k w = s_callV E d mc ms 8 MX9_append 1 56 L st σ n k w (zk1 cut G (Z f)) G R T := zrs hZ rfl f L st σ n k w
theorem f_X12_feed_56 (hZ : ZRN (ztb (tb_X12_feed E d mc ms)) cut G R T Z) (f : Nat) (L : ZLV) (st : List Value) (σ : ZHp) (n k w : Nat) : Z (f + 1) 56 L st σ n k w = s_aload 0 57 L st σ n k w (zk1 cut G (Z f)) G R T := zrs hZ rfl f L st σ n k w
theorem f_X12_feed_57 (hZ : ZRN (ztb (tb_X12_feed E d mc ms)) cut G R T Z) (f : Nat) (L : ZLV) (st : List Value) (σ : ZHp) (n k w : Nat) : Z (f + 1) 57 L st σ n k w = s_getf 11 0 60 L st σ n k w (zk1 cut G (Z f)) G R T := zrs hZ rfl f L st σ n k w
theorem f_X12_feed_60 (hZ : ZRN (ztb (tb_X12_feed E d mc ms)) cut G R T Z) (f : Nat) (L : ZLV) (st : List Value) (σ : ZHp) (n k w : Nat) : Z (f + 1) 60 L st σ n k w = s_iload 5 62 L st σ n k w (zk1 cut G (Z f)) G R T := zrs hZ rfl f L st σ n k w
theorem f_X12_feed_62 (hZ : ZRN (ztb (tb_X12_feed E d mc ms)) cut G R T Z) (f : Nat) (L : ZLV) (st : List Value) (σ : ZHp) (n k w : Nat) : Z (f + 1) 62 L st σ n k w = s_callV E d mc ms 8 MX9_append 1 65 L st σ n k w (zk1 cut G (Z f)) G R T := zrs hZ rfl f L st σ n k w
theorem f_X12_feed_65 (hZ : ZRN (ztb (tb_X12_feed E d mc ms)) cut G R T Z) (f : Nat) (L : ZLV) (st : List Value) (σ : ZHp) (n k w : Nat) : Z (f + 1) 65 L st σ n k w = s_aload 0 66 L st σ n k w (zk1 cut G (Z f)) G R T := zrs hZ rfl f L st σ n k w
theorem f_X12_feed_66 (hZ : ZRN (ztb (tb_X12_feed E d mc ms)) cut G R T Z) (f : Nat) (L : ZLV) (st : List Value) (σ : ZHp) (n k w : Nat) : Z (f + 1) 66 L st σ n k w = s_getf 11 0 69 L st σ n k w (zk1 cut G (Z f)) G R T := zrs hZ rfl f L st σ n k w
theorem f_X12_feed_69 (hZ : ZRN (ztb (tb_X12_feed E d mc ms)) cut G R T Z) (f : Nat) (L : ZLV) (st : List Value) (σ : ZHp) (n k w : Nat) : Z (f + 1) 69 L st σ n k w = s_callV E d mc ms 8 MX9_length 0 72 L st σ n k w (zk1 cut G (Z f)) G R T := zrs hZ rfl f L st σ n k w
theorem f_X12_feed_72 (hZ : ZRN (ztb (tb_X12_feed E d mc ms)) cut G R T Z) (f : Nat) (L : ZLV) (st : List Value) (σ : ZHp) (n k w : Nat) : Z (f + 1) 72 L st σ n k w = s_ireturn L st σ n k w (zk1 cut G (Z f)) G R T := zrs hZ rfl f L st σ n k w
theorem f_X12_trim_0 (hZ : ZRN (ztb (tb_X12_trim E d mc ms)) cut G R T Z) (f : Nat) (L : ZLV) (st : List Value) (σ : ZHp) (n k w : Nat) : Z (f + 1) 0 L st σ n k w = s_iload 1 1 L st σ n k w (zk1 cut G (Z f)) G R T := zrs hZ rfl f L st σ n k w
theorem f_X12_trim_1 (hZ : ZRN (ztb (tb_X12_trim E d mc ms)) cut G R T Z) (f : Nat) (L : ZLV) (st : List Value) (σ : ZHp) (n k w : Nat) : Z (f + 1) 1 L st σ n k w = s_if_lt 15 4 L st σ n k w (zk1 cut G (Z f)) G R T := zrs hZ rfl f L st σ n k w
theorem f_X12_trim_4 (hZ : ZRN (ztb (tb_X12_trim E d mc ms)) cut G R T Z) (f : Nat) (L : ZLV) (st : List Value) (σ : ZHp) (n k w : Nat) : Z (f + 1) 4 L st σ n k w = s_iload 1 5 L st σ n k w (zk1 cut G (Z f)) G R T := zrs hZ rfl f L st σ n k w
theorem f_X12_trim_5 (hZ : ZRN (ztb (tb_X12_trim E d mc ms)) cut G R T Z) (f : Nat) (L : ZLV) (st : List Value) (σ : ZHp) (n k w : Nat) : Z (f + 1) 5 L st σ n k w = s_aload 0 6 L st σ n k w (zk1 cut G (Z f)) G R T := zrs hZ rfl f L st σ n k w
theorem f_X12_trim_6 (hZ : ZRN (ztb (tb_X12_trim E d mc ms)) cut G R T Z) (f : Nat) (L : ZLV) (st : List Value) (σ : ZHp) (n k w : Nat) : Z (f + 1) 6 L st σ n k w = s_getf 11 0 9 L st σ n k w (zk1 cut G (Z f)) G R T := zrs hZ rfl f L st σ n k w
theorem f_X12_trim_9 (hZ : ZRN (ztb (tb_X12_trim E d mc ms)) cut G R T Z) (f : Nat) (L : ZLV) (st : List Value) (σ : ZHp) (n k w : Nat) : Z (f + 1) 9 L st σ n k w = s_callV E d mc ms 8 MX9_length 0 12 L st σ n k w (zk1 cut G (Z f)) G R T := zrs hZ rfl f L st σ n k w
theorem f_X12_trim_12 (hZ : ZRN (ztb (tb_X12_trim E d mc ms)) cut G R T Z) (f : Nat) (L : ZLV) (st : List Value) (σ : ZHp) (n k w : Nat) : Z (f + 1) 12 L st σ n k w = s_icmp_le 25 15 L st σ n k w (zk1 cut G (Z f)) G R T := zrs hZ rfl f L st σ n k w
theorem f_X12_trim_15 (hZ : ZRN (ztb (tb_X12_trim E d mc ms)) cut G R T Z) (f : Nat) (L : ZLV) (st : List Value) (σ : ZHp) (n k w : Nat) : Z (f + 1) 15 L st σ n k w = s_throw "java/lang/IllegalArgumentException" L st σ n k w (zk1 cut G (Z f)) G R T := zrs hZ rfl f L st σ n k w
theorem f_X12_trim_25 (hZ : ZRN (ztb (tb_X12_trim E d mc ms)) cut G R T Z) (f : Nat) (L : ZLV) (st : List Value) (σ : ZHp) (n k w : Nat) : Z (f + 1) 25 L st σ n k w = s_aload 0 26 L st σ n k w (zk1 cut G (Z f)) G R T := zrs hZ rfl f L st σ n k w
theorem f_X12_trim_26 (hZ : ZRN (ztb (tb_X12_trim E d mc ms)) cut G R T Z) (f : Nat) (L : ZLV) (st : List Value) (σ : ZHp) (n k w : Nat) : Z (f + 1) 26 L st σ n k w = s_getf 11 0 29 L st σ n k w (zk1 cut G (Z f)) G R T := zrs hZ rfl f L st σ n k w
theorem f_X12_trim_29 (hZ : ZRN (ztb (tb_X12_trim E d mc ms)) cut G R T Z) (f : Nat) (L : ZLV) (st : List Value) (σ : ZHp) (n k w : Nat) : Z (f + 1) 29 L st σ n k w = s_iload 1 30 L st σ n k w (zk1 cut G (Z f)) G R T := zrs hZ rfl f L st σ n k w
theorem f_X12_trim_30 (hZ : ZRN (ztb (tb_X12_trim E d mc ms)) cut G R T Z) (f : Nat) (L : ZLV) (st : List Value) (σ : ZHp) (n k w : Nat) : Z (f + 1) 30 L st σ n k w = s_callV E d mc ms 8 MX9_shorten 1 33 L st σ n k w (zk1 cut G (Z f)) G R T := zrs hZ rfl f L st σ n k w
theorem f_X12_trim_33 (hZ : ZRN (ztb (tb_X12_trim E d mc ms)) cut G R T Z) (f : Nat) (L : ZLV) (st : List Value) (σ : ZHp) (n k w : Nat) : Z (f + 1) 33 L st σ n k w = s_iload 1 34 L st σ n k w (zk1 cut G (Z f)) G R T := zrs hZ rfl f L st σ n k w
theorem f_X12_trim_34 (hZ : ZRN (ztb (tb_X12_trim E d mc ms)) cut G R T Z) (f : Nat) (L : ZLV) (st : List Value) (σ : ZHp) (n k w : Nat) : Z (f + 1) 34 L st σ n k w = s_ireturn L st σ n k w (zk1 cut G (Z f)) G R T := zrs hZ rfl f L st σ n k w
theorem f_X12_teach_0 (hZ : ZRN (ztb (tb_X12_teach E d mc ms)) cut G R T Z) (f : Nat) (L : ZLV) (st : List Value) (σ : ZHp) (n k w : Nat) : Z (f + 1) 0 L st σ n k w = s_aload 0 1 L st σ n k w (zk1 cut G (Z f)) G R T := zrs hZ rfl f L st σ n k w
theorem f_X12_teach_1 (hZ : ZRN (ztb (tb_X12_teach E d mc ms)) cut G R T Z) (f : Nat) (L : ZLV) (st : List Value) (σ : ZHp) (n k w : Nat) : Z (f + 1) 1 L st σ n k w = s_getf 11 4 4 L st σ n k w (zk1 cut G (Z f)) G R T := zrs hZ rfl f L st σ n k w
theorem f_X12_teach_4 (hZ : ZRN (ztb (tb_X12_teach E d mc ms)) cut G R T Z) (f : Nat) (L : ZLV) (st : List Value) (σ : ZHp) (n k w : Nat) : Z (f + 1) 4 L st σ n k w = s_callV E d mc ms 5 MX6_clear 0 7 L st σ n k w (zk1 cut G (Z f)) G R T := zrs hZ rfl f L st σ n k w
theorem f_X12_teach_7 (hZ : ZRN (ztb (tb_X12_teach E d mc ms)) cut G R T Z) (f : Nat) (L : ZLV) (st : List Value) (σ : ZHp) (n k w : Nat) : Z (f + 1) 7 L st σ n k w = s_aload 0 8 L st σ n k w (zk1 cut G (Z f)) G R T := zrs hZ rfl f L st σ n k w
theorem f_X12_teach_8 (hZ : ZRN (ztb (tb_X12_teach E d mc ms)) cut G R T Z) (f : Nat) (L : ZLV) (st : List Value) (σ : ZHp) (n k w : Nat) : Z (f + 1) 8 L st σ n k w = s_getf 11 1 11 L st σ n k w (zk1 cut G (Z f)) G R T := zrs hZ rfl f L st σ n k w
theorem f_X12_teach_11 (hZ : ZRN (ztb (tb_X12_teach E d mc ms)) cut G R T Z) (f : Nat) (L : ZLV) (st : List Value) (σ : ZHp) (n k w : Nat) : Z (f + 1) 11 L st σ n k w = s_aload 0 12 L st σ n k w (zk1 cut G (Z f)) G R T := zrs hZ rfl f L st σ n k w
theorem f_X12_teach_12 (hZ : ZRN (ztb (tb_X12_teach E d mc ms)) cut G R T Z) (f : Nat) (L : ZLV) (st : List Value) (σ : ZHp) (n k w : Nat) : Z (f + 1) 12 L st σ n k w = s_getf 11 0 15 L st σ n k w (zk1 cut G (Z f)) G R T := zrs hZ rfl f L st σ n k w
theorem f_X12_teach_15 (hZ : ZRN (ztb (tb_X12_teach E d mc ms)) cut G R T Z) (f : Nat) (L : ZLV) (st : List Value) (σ : ZHp) (n k w : Nat) : Z (f + 1) 15 L st σ n k w = s_aload 0 16 L st σ n k w (zk1 cut G (Z f)) G R T := zrs hZ rfl f L st σ n k w
theorem f_X12_teach_16 (hZ : ZRN (ztb (tb_X12_teach E d mc ms)) cut G R T Z) (f : Nat) (L : ZLV) (st : List Value) (σ : ZHp) (n k w : Nat) : Z (f + 1) 16 L st σ n k w = s_getf 11 4 19 L st σ n k w (zk1 cut G (Z f)) G R T := zrs hZ rfl f L st σ n k w
theorem f_X12_teach_19 (hZ : ZRN (ztb (tb_X12_teach E d mc ms)) cut G R T Z) (f : Nat) (L : ZLV) (st : List Value) (σ : ZHp) (n k w : Nat) : Z (f + 1) 19 L st σ n k w = s_callV E d mc ms 2 MX3_read 2 22 L st σ n k w (zk1 cut G (Z f)) G R T := zrs hZ rfl f L st σ n k w
theorem f_X12_teach_22 (hZ : ZRN (ztb (tb_X12_teach E d mc ms)) cut G R T Z) (f : Nat) (L : ZLV) (st : List Value) (σ : ZHp) (n k w : Nat) : Z (f + 1) 22 L st σ n k w = s_istore 1 23 L st σ n k w (zk1 cut G (Z f)) G R T := zrs hZ rfl f L st σ n k w
theorem f_X12_teach_23 (hZ : ZRN (ztb (tb_X12_teach E d mc ms)) cut G R T Z) (f : Nat) (L : ZLV) (st : List Value) (σ : ZHp) (n k w : Nat) : Z (f + 1) 23 L st σ n k w = s_aload 0 24 L st σ n k w (zk1 cut G (Z f)) G R T := zrs hZ rfl f L st σ n k w
theorem f_X12_teach_24 (hZ : ZRN (ztb (tb_X12_teach E d mc ms)) cut G R T Z) (f : Nat) (L : ZLV) (st : List Value) (σ : ZHp) (n k w : Nat) : Z (f + 1) 24 L st σ n k w = s_iload 1 25 L st σ n k w (zk1 cut G (Z f)) G R T := zrs hZ rfl f L st σ n k w
theorem f_X12_teach_25 (hZ : ZRN (ztb (tb_X12_teach E d mc ms)) cut G R T Z) (f : Nat) (L : ZLV) (st : List Value) (σ : ZHp) (n k w : Nat) : Z (f + 1) 25 L st σ n k w = s_if_ne 32 28 L st σ n k w (zk1 cut G (Z f)) G R T := zrs hZ rfl f L st σ n k w
theorem f_X12_teach_28 (hZ : ZRN (ztb (tb_X12_teach E d mc ms)) cut G R T Z) (f : Nat) (L : ZLV) (st : List Value) (σ : ZHp) (n k w : Nat) : Z (f + 1) 28 L st σ n k w = s_const (.int (-1)) 29 L st σ n k w (zk1 cut G (Z f)) G R T := zrs hZ rfl f L st σ n k w
theorem f_X12_teach_29 (hZ : ZRN (ztb (tb_X12_teach E d mc ms)) cut G R T Z) (f : Nat) (L : ZLV) (st : List Value) (σ : ZHp) (n k w : Nat) : Z (f + 1) 29 L st σ n k w = s_goto 39 L st σ n k w (zk1 cut G (Z f)) G R T := zrs hZ rfl f L st σ n k w
theorem f_X12_teach_32 (hZ : ZRN (ztb (tb_X12_teach E d mc ms)) cut G R T Z) (f : Nat) (L : ZLV) (st : List Value) (σ : ZHp) (n k w : Nat) : Z (f + 1) 32 L st σ n k w = s_aload 0 33 L st σ n k w (zk1 cut G (Z f)) G R T := zrs hZ rfl f L st σ n k w
theorem f_X12_teach_33 (hZ : ZRN (ztb (tb_X12_teach E d mc ms)) cut G R T Z) (f : Nat) (L : ZLV) (st : List Value) (σ : ZHp) (n k w : Nat) : Z (f + 1) 33 L st σ n k w = s_getf 11 1 36 L st σ n k w (zk1 cut G (Z f)) G R T := zrs hZ rfl f L st σ n k w
theorem f_X12_teach_36 (hZ : ZRN (ztb (tb_X12_teach E d mc ms)) cut G R T Z) (f : Nat) (L : ZLV) (st : List Value) (σ : ZHp) (n k w : Nat) : Z (f + 1) 36 L st σ n k w = s_callV E d mc ms 2 MX3_errorPlace 0 39 L st σ n k w (zk1 cut G (Z f)) G R T := zrs hZ rfl f L st σ n k w
theorem f_X12_teach_39 (hZ : ZRN (ztb (tb_X12_teach E d mc ms)) cut G R T Z) (f : Nat) (L : ZLV) (st : List Value) (σ : ZHp) (n k w : Nat) : Z (f + 1) 39 L st σ n k w = s_putf 11 5 0 42 L st σ n k w (zk1 cut G (Z f)) G R T := zrs hZ rfl f L st σ n k w
theorem f_X12_teach_42 (hZ : ZRN (ztb (tb_X12_teach E d mc ms)) cut G R T Z) (f : Nat) (L : ZLV) (st : List Value) (σ : ZHp) (n k w : Nat) : Z (f + 1) 42 L st σ n k w = s_aload 0 43 L st σ n k w (zk1 cut G (Z f)) G R T := zrs hZ rfl f L st σ n k w
theorem f_X12_teach_43 (hZ : ZRN (ztb (tb_X12_teach E d mc ms)) cut G R T Z) (f : Nat) (L : ZLV) (st : List Value) (σ : ZHp) (n k w : Nat) : Z (f + 1) 43 L st σ n k w = s_getf 11 0 46 L st σ n k w (zk1 cut G (Z f)) G R T := zrs hZ rfl f L st σ n k w
theorem f_X12_teach_46 (hZ : ZRN (ztb (tb_X12_teach E d mc ms)) cut G R T Z) (f : Nat) (L : ZLV) (st : List Value) (σ : ZHp) (n k w : Nat) : Z (f + 1) 46 L st σ n k w = s_const (.int (0)) 47 L st σ n k w (zk1 cut G (Z f)) G R T := zrs hZ rfl f L st σ n k w
theorem f_X12_teach_47 (hZ : ZRN (ztb (tb_X12_teach E d mc ms)) cut G R T Z) (f : Nat) (L : ZLV) (st : List Value) (σ : ZHp) (n k w : Nat) : Z (f + 1) 47 L st σ n k w = s_callV E d mc ms 8 MX9_shorten 1 50 L st σ n k w (zk1 cut G (Z f)) G R T := zrs hZ rfl f L st σ n k w
theorem f_X12_teach_50 (hZ : ZRN (ztb (tb_X12_teach E d mc ms)) cut G R T Z) (f : Nat) (L : ZLV) (st : List Value) (σ : ZHp) (n k w : Nat) : Z (f + 1) 50 L st σ n k w = s_iload 1 51 L st σ n k w (zk1 cut G (Z f)) G R T := zrs hZ rfl f L st σ n k w
theorem f_X12_teach_51 (hZ : ZRN (ztb (tb_X12_teach E d mc ms)) cut G R T Z) (f : Nat) (L : ZLV) (st : List Value) (σ : ZHp) (n k w : Nat) : Z (f + 1) 51 L st σ n k w = s_if_ne 84 54 L st σ n k w (zk1 cut G (Z f)) G R T := zrs hZ rfl f L st σ n k w
theorem f_X12_teach_54 (hZ : ZRN (ztb (tb_X12_teach E d mc ms)) cut G R T Z) (f : Nat) (L : ZLV) (st : List Value) (σ : ZHp) (n k w : Nat) : Z (f + 1) 54 L st σ n k w = s_aload 0 55 L st σ n k w (zk1 cut G (Z f)) G R T := zrs hZ rfl f L st σ n k w
theorem f_X12_teach_55 (hZ : ZRN (ztb (tb_X12_teach E d mc ms)) cut G R T Z) (f : Nat) (L : ZLV) (st : List Value) (σ : ZHp) (n k w : Nat) : Z (f + 1) 55 L st σ n k w = s_getf 11 2 58 L st σ n k w (zk1 cut G (Z f)) G R T := zrs hZ rfl f L st σ n k w
theorem f_X12_teach_58 (hZ : ZRN (ztb (tb_X12_teach E d mc ms)) cut G R T Z) (f : Nat) (L : ZLV) (st : List Value) (σ : ZHp) (n k w : Nat) : Z (f + 1) 58 L st σ n k w = s_getf 1 0 61 L st σ n k w (zk1 cut G (Z f)) G R T := zrs hZ rfl f L st σ n k w
theorem f_X12_teach_61 (hZ : ZRN (ztb (tb_X12_teach E d mc ms)) cut G R T Z) (f : Nat) (L : ZLV) (st : List Value) (σ : ZHp) (n k w : Nat) : Z (f + 1) 61 L st σ n k w = s_getf 3 5 64 L st σ n k w (zk1 cut G (Z f)) G R T := zrs hZ rfl f L st σ n k w
theorem f_X12_teach_64 (hZ : ZRN (ztb (tb_X12_teach E d mc ms)) cut G R T Z) (f : Nat) (L : ZLV) (st : List Value) (σ : ZHp) (n k w : Nat) : Z (f + 1) 64 L st σ n k w = s_astore 2 65 L st σ n k w (zk1 cut G (Z f)) G R T := zrs hZ rfl f L st σ n k w
theorem f_X12_teach_65 (hZ : ZRN (ztb (tb_X12_teach E d mc ms)) cut G R T Z) (f : Nat) (L : ZLV) (st : List Value) (σ : ZHp) (n k w : Nat) : Z (f + 1) 65 L st σ n k w = s_aload 0 66 L st σ n k w (zk1 cut G (Z f)) G R T := zrs hZ rfl f L st σ n k w
theorem f_X12_teach_66 (hZ : ZRN (ztb (tb_X12_teach E d mc ms)) cut G R T Z) (f : Nat) (L : ZLV) (st : List Value) (σ : ZHp) (n k w : Nat) : Z (f + 1) 66 L st σ n k w = s_getf 11 2 69 L st σ n k w (zk1 cut G (Z f)) G R T := zrs hZ rfl f L st σ n k w
theorem f_X12_teach_69 (hZ : ZRN (ztb (tb_X12_teach E d mc ms)) cut G R T Z) (f : Nat) (L : ZLV) (st : List Value) (σ : ZHp) (n k w : Nat) : Z (f + 1) 69 L st σ n k w = s_getf 1 0 72 L st σ n k w (zk1 cut G (Z f)) G R T := zrs hZ rfl f L st σ n k w
theorem f_X12_teach_72 (hZ : ZRN (ztb (tb_X12_teach E d mc ms)) cut G R T Z) (f : Nat) (L : ZLV) (st : List Value) (σ : ZHp) (n k w : Nat) : Z (f + 1) 72 L st σ n k w = s_aload 0 73 L st σ n k w (zk1 cut G (Z f)) G R T := zrs hZ rfl f L st σ n k w
theorem f_X12_teach_73 (hZ : ZRN (ztb (tb_X12_teach E d mc ms)) cut G R T Z) (f : Nat) (L : ZLV) (st : List Value) (σ : ZHp) (n k w : Nat) : Z (f + 1) 73 L st σ n k w = s_getf 11 4 76 L st σ n k w (zk1 cut G (Z f)) G R T := zrs hZ rfl f L st σ n k w
theorem f_X12_teach_76 (hZ : ZRN (ztb (tb_X12_teach E d mc ms)) cut G R T Z) (f : Nat) (L : ZLV) (st : List Value) (σ : ZHp) (n k w : Nat) : Z (f + 1) 76 L st σ n k w = s_callV E d mc ms 3 MX4_begin 1 79 L st σ n k w (zk1 cut G (Z f)) G R T := zrs hZ rfl f L st σ n k w
theorem f_X12_teach_79 (hZ : ZRN (ztb (tb_X12_teach E d mc ms)) cut G R T Z) (f : Nat) (L : ZLV) (st : List Value) (σ : ZHp) (n k w : Nat) : Z (f + 1) 79 L st σ n k w = s_aload 0 80 L st σ n k w (zk1 cut G (Z f)) G R T := zrs hZ rfl f L st σ n k w
theorem f_X12_teach_80 (hZ : ZRN (ztb (tb_X12_teach E d mc ms)) cut G R T Z) (f : Nat) (L : ZLV) (st : List Value) (σ : ZHp) (n k w : Nat) : Z (f + 1) 80 L st σ n k w = s_aload 2 81 L st σ n k w (zk1 cut G (Z f)) G R T := zrs hZ rfl f L st σ n k w
theorem f_X12_teach_81 (hZ : ZRN (ztb (tb_X12_teach E d mc ms)) cut G R T Z) (f : Nat) (L : ZLV) (st : List Value) (σ : ZHp) (n k w : Nat) : Z (f + 1) 81 L st σ n k w = s_putf 11 4 3 84 L st σ n k w (zk1 cut G (Z f)) G R T := zrs hZ rfl f L st σ n k w
theorem f_X12_teach_84 (hZ : ZRN (ztb (tb_X12_teach E d mc ms)) cut G R T Z) (f : Nat) (L : ZLV) (st : List Value) (σ : ZHp) (n k w : Nat) : Z (f + 1) 84 L st σ n k w = s_iload 1 85 L st σ n k w (zk1 cut G (Z f)) G R T := zrs hZ rfl f L st σ n k w
theorem f_X12_teach_85 (hZ : ZRN (ztb (tb_X12_teach E d mc ms)) cut G R T Z) (f : Nat) (L : ZLV) (st : List Value) (σ : ZHp) (n k w : Nat) : Z (f + 1) 85 L st σ n k w = s_ireturn L st σ n k w (zk1 cut G (Z f)) G R T := zrs hZ rfl f L st σ n k w
theorem f_X12_errorAt_0 (hZ : ZRN (ztb (tb_X12_errorAt E d mc ms)) cut G R T Z) (f : Nat) (L : ZLV) (st : List Value) (σ : ZHp) (n k w : Nat) : Z (f + 1) 0 L st σ n k w = s_aload 0 1 L st σ n k w (zk1 cut G (Z f)) G R T := zrs hZ rfl f L st σ n k w
theorem f_X12_errorAt_1 (hZ : ZRN (ztb (tb_X12_errorAt E d mc ms)) cut G R T Z) (f : Nat) (L : ZLV) (st : List Value) (σ : ZHp) (n k w : Nat) : Z (f + 1) 1 L st σ n k w = s_getf 11 5 4 L st σ n k w (zk1 cut G (Z f)) G R T := zrs hZ rfl f L st σ n k w
theorem f_X12_errorAt_4 (hZ : ZRN (ztb (tb_X12_errorAt E d mc ms)) cut G R T Z) (f : Nat) (L : ZLV) (st : List Value) (σ : ZHp) (n k w : Nat) : Z (f + 1) 4 L st σ n k w = s_ireturn L st σ n k w (zk1 cut G (Z f)) G R T := zrs hZ rfl f L st σ n k w
theorem f_X12_count_0 (hZ : ZRN (ztb (tb_X12_count E d mc ms)) cut G R T Z) (f : Nat) (L : ZLV) (st : List Value) (σ : ZHp) (n k w : Nat) : Z (f + 1) 0 L st σ n k w = s_aload 0 1 L st σ n k w (zk1 cut G (Z f)) G R T := zrs hZ rfl f L st σ n k w
theorem f_X12_count_1 (hZ : ZRN (ztb (tb_X12_count E d mc ms)) cut G R T Z) (f : Nat) (L : ZLV) (st : List Value) (σ : ZHp) (n k w : Nat) : Z (f + 1) 1 L st σ n k w = s_iload 1 2 L st σ n k w (zk1 cut G (Z f)) G R T := zrs hZ rfl f L st σ n k w
theorem f_X12_count_2 (hZ : ZRN (ztb (tb_X12_count E d mc ms)) cut G R T Z) (f : Nat) (L : ZLV) (st : List Value) (σ : ZHp) (n k w : Nat) : Z (f + 1) 2 L st σ n k w = s_const (.int (8)) 4 L st σ n k w (zk1 cut G (Z f)) G R T := zrs hZ rfl f L st σ n k w
theorem f_X12_count_4 (hZ : ZRN (ztb (tb_X12_count E d mc ms)) cut G R T Z) (f : Nat) (L : ZLV) (st : List Value) (σ : ZHp) (n k w : Nat) : Z (f + 1) 4 L st σ n k w = s_callVT E d mc ms 11 MX12_checkWhat 2 7 L st σ n k w (zk1 cut G (Z f)) G R T := zrs hZ rfl f L st σ n k w
theorem f_X12_count_7 (hZ : ZRN (ztb (tb_X12_count E d mc ms)) cut G R T Z) (f : Nat) (L : ZLV) (st : List Value) (σ : ZHp) (n k w : Nat) : Z (f + 1) 7 L st σ n k w = s_iload 1 8 L st σ n k w (zk1 cut G (Z f)) G R T := zrs hZ rfl f L st σ n k w
theorem f_X12_count_8 (hZ : ZRN (ztb (tb_X12_count E d mc ms)) cut G R T Z) (f : Nat) (L : ZLV) (st : List Value) (σ : ZHp) (n k w : Nat) : Z (f + 1) 8 L st σ n k w = s_const (.int (8)) 10 L st σ n k w (zk1 cut G (Z f)) G R T := zrs hZ rfl f L st σ n k w
theorem f_X12_count_10 (hZ : ZRN (ztb (tb_X12_count E d mc ms)) cut G R T Z) (f : Nat) (L : ZLV) (st : List Value) (σ : ZHp) (n k w : Nat) : Z (f + 1) 10 L st σ n k w = s_icmp_ne 23 13 L st σ n k w (zk1 cut G (Z f)) G R T := zrs hZ rfl f L st σ n k w
theorem f_X12_count_13 (hZ : ZRN (ztb (tb_X12_count E d mc ms)) cut G R T Z) (f : Nat) (L : ZLV) (st : List Value) (σ : ZHp) (n k w : Nat) : Z (f + 1) 13 L st σ n k w = s_aload 0 14 L st σ n k w (zk1 cut G (Z f)) G R T := zrs hZ rfl f L st σ n k w
theorem f_X12_count_14 (hZ : ZRN (ztb (tb_X12_count E d mc ms)) cut G R T Z) (f : Nat) (L : ZLV) (st : List Value) (σ : ZHp) (n k w : Nat) : Z (f + 1) 14 L st σ n k w = s_getf 11 0 17 L st σ n k w (zk1 cut G (Z f)) G R T := zrs hZ rfl f L st σ n k w
theorem f_X12_count_17 (hZ : ZRN (ztb (tb_X12_count E d mc ms)) cut G R T Z) (f : Nat) (L : ZLV) (st : List Value) (σ : ZHp) (n k w : Nat) : Z (f + 1) 17 L st σ n k w = s_callV E d mc ms 8 MX9_length 0 20 L st σ n k w (zk1 cut G (Z f)) G R T := zrs hZ rfl f L st σ n k w
theorem f_X12_count_20 (hZ : ZRN (ztb (tb_X12_count E d mc ms)) cut G R T Z) (f : Nat) (L : ZLV) (st : List Value) (σ : ZHp) (n k w : Nat) : Z (f + 1) 20 L st σ n k w = s_goto 34 L st σ n k w (zk1 cut G (Z f)) G R T := zrs hZ rfl f L st σ n k w
theorem f_X12_count_23 (hZ : ZRN (ztb (tb_X12_count E d mc ms)) cut G R T Z) (f : Nat) (L : ZLV) (st : List Value) (σ : ZHp) (n k w : Nat) : Z (f + 1) 23 L st σ n k w = s_aload 0 24 L st σ n k w (zk1 cut G (Z f)) G R T := zrs hZ rfl f L st σ n k w
theorem f_X12_count_24 (hZ : ZRN (ztb (tb_X12_count E d mc ms)) cut G R T Z) (f : Nat) (L : ZLV) (st : List Value) (σ : ZHp) (n k w : Nat) : Z (f + 1) 24 L st σ n k w = s_getf 11 2 27 L st σ n k w (zk1 cut G (Z f)) G R T := zrs hZ rfl f L st σ n k w
theorem f_X12_count_27 (hZ : ZRN (ztb (tb_X12_count E d mc ms)) cut G R T Z) (f : Nat) (L : ZLV) (st : List Value) (σ : ZHp) (n k w : Nat) : Z (f + 1) 27 L st σ n k w = s_getf 1 0 30 L st σ n k w (zk1 cut G (Z f)) G R T := zrs hZ rfl f L st σ n k w
theorem f_X12_count_30 (hZ : ZRN (ztb (tb_X12_count E d mc ms)) cut G R T Z) (f : Nat) (L : ZLV) (st : List Value) (σ : ZHp) (n k w : Nat) : Z (f + 1) 30 L st σ n k w = s_iload 1 31 L st σ n k w (zk1 cut G (Z f)) G R T := zrs hZ rfl f L st σ n k w
theorem f_X12_count_31 (hZ : ZRN (ztb (tb_X12_count E d mc ms)) cut G R T Z) (f : Nat) (L : ZLV) (st : List Value) (σ : ZHp) (n k w : Nat) : Z (f + 1) 31 L st σ n k w = s_callV E d mc ms 3 MX4_number 1 34 L st σ n k w (zk1 cut G (Z f)) G R T := zrs hZ rfl f L st σ n k w
theorem f_X12_count_34 (hZ : ZRN (ztb (tb_X12_count E d mc ms)) cut G R T Z) (f : Nat) (L : ZLV) (st : List Value) (σ : ZHp) (n k w : Nat) : Z (f + 1) 34 L st σ n k w = s_ireturn L st σ n k w (zk1 cut G (Z f)) G R T := zrs hZ rfl f L st σ n k w
theorem f_X12_card_0 (hZ : ZRN (ztb (tb_X12_card E d mc ms)) cut G R T Z) (f : Nat) (L : ZLV) (st : List Value) (σ : ZHp) (n k w : Nat) : Z (f + 1) 0 L st σ n k w = s_aload 0 1 L st σ n k w (zk1 cut G (Z f)) G R T := zrs hZ rfl f L st σ n k w
theorem f_X12_card_1 (hZ : ZRN (ztb (tb_X12_card E d mc ms)) cut G R T Z) (f : Nat) (L : ZLV) (st : List Value) (σ : ZHp) (n k w : Nat) : Z (f + 1) 1 L st σ n k w = s_iload 1 2 L st σ n k w (zk1 cut G (Z f)) G R T := zrs hZ rfl f L st σ n k w
theorem f_X12_card_2 (hZ : ZRN (ztb (tb_X12_card E d mc ms)) cut G R T Z) (f : Nat) (L : ZLV) (st : List Value) (σ : ZHp) (n k w : Nat) : Z (f + 1) 2 L st σ n k w = s_callVT E d mc ms 11 MX12_checkCard 1 5 L st σ n k w (zk1 cut G (Z f)) G R T := zrs hZ rfl f L st σ n k w
theorem f_X12_card_5 (hZ : ZRN (ztb (tb_X12_card E d mc ms)) cut G R T Z) (f : Nat) (L : ZLV) (st : List Value) (σ : ZHp) (n k w : Nat) : Z (f + 1) 5 L st σ n k w = s_aload 0 6 L st σ n k w (zk1 cut G (Z f)) G R T := zrs hZ rfl f L st σ n k w
theorem f_X12_card_6 (hZ : ZRN (ztb (tb_X12_card E d mc ms)) cut G R T Z) (f : Nat) (L : ZLV) (st : List Value) (σ : ZHp) (n k w : Nat) : Z (f + 1) 6 L st σ n k w = s_iload 2 7 L st σ n k w (zk1 cut G (Z f)) G R T := zrs hZ rfl f L st σ n k w
theorem f_X12_card_7 (hZ : ZRN (ztb (tb_X12_card E d mc ms)) cut G R T Z) (f : Nat) (L : ZLV) (st : List Value) (σ : ZHp) (n k w : Nat) : Z (f + 1) 7 L st σ n k w = s_const (.int (6)) 9 L st σ n k w (zk1 cut G (Z f)) G R T := zrs hZ rfl f L st σ n k w
theorem f_X12_card_9 (hZ : ZRN (ztb (tb_X12_card E d mc ms)) cut G R T Z) (f : Nat) (L : ZLV) (st : List Value) (σ : ZHp) (n k w : Nat) : Z (f + 1) 9 L st σ n k w = s_callVT E d mc ms 11 MX12_checkWhat 2 12 L st σ n k w (zk1 cut G (Z f)) G R T := zrs hZ rfl f L st σ n k w
theorem f_X12_card_12 (hZ : ZRN (ztb (tb_X12_card E d mc ms)) cut G R T Z) (f : Nat) (L : ZLV) (st : List Value) (σ : ZHp) (n k w : Nat) : Z (f + 1) 12 L st σ n k w = s_aload 0 13 L st σ n k w (zk1 cut G (Z f)) G R T := zrs hZ rfl f L st σ n k w
theorem f_X12_card_13 (hZ : ZRN (ztb (tb_X12_card E d mc ms)) cut G R T Z) (f : Nat) (L : ZLV) (st : List Value) (σ : ZHp) (n k w : Nat) : Z (f + 1) 13 L st σ n k w = s_getf 11 2 16 L st σ n k w (zk1 cut G (Z f)) G R T := zrs hZ rfl f L st σ n k w
theorem f_X12_card_16 (hZ : ZRN (ztb (tb_X12_card E d mc ms)) cut G R T Z) (f : Nat) (L : ZLV) (st : List Value) (σ : ZHp) (n k w : Nat) : Z (f + 1) 16 L st σ n k w = s_getf 1 0 19 L st σ n k w (zk1 cut G (Z f)) G R T := zrs hZ rfl f L st σ n k w
theorem f_X12_card_19 (hZ : ZRN (ztb (tb_X12_card E d mc ms)) cut G R T Z) (f : Nat) (L : ZLV) (st : List Value) (σ : ZHp) (n k w : Nat) : Z (f + 1) 19 L st σ n k w = s_iload 1 20 L st σ n k w (zk1 cut G (Z f)) G R T := zrs hZ rfl f L st σ n k w
theorem f_X12_card_20 (hZ : ZRN (ztb (tb_X12_card E d mc ms)) cut G R T Z) (f : Nat) (L : ZLV) (st : List Value) (σ : ZHp) (n k w : Nat) : Z (f + 1) 20 L st σ n k w = s_iload 2 21 L st σ n k w (zk1 cut G (Z f)) G R T := zrs hZ rfl f L st σ n k w
theorem f_X12_card_21 (hZ : ZRN (ztb (tb_X12_card E d mc ms)) cut G R T Z) (f : Nat) (L : ZLV) (st : List Value) (σ : ZHp) (n k w : Nat) : Z (f + 1) 21 L st σ n k w = s_callV E d mc ms 3 MX4_cardNumber 2 24 L st σ n k w (zk1 cut G (Z f)) G R T := zrs hZ rfl f L st σ n k w
theorem f_X12_card_24 (hZ : ZRN (ztb (tb_X12_card E d mc ms)) cut G R T Z) (f : Nat) (L : ZLV) (st : List Value) (σ : ZHp) (n k w : Nat) : Z (f + 1) 24 L st σ n k w = s_ireturn L st σ n k w (zk1 cut G (Z f)) G R T := zrs hZ rfl f L st σ n k w
theorem f_X12_merchant_0 (hZ : ZRN (ztb (tb_X12_merchant E d mc ms)) cut G R T Z) (f : Nat) (L : ZLV) (st : List Value) (σ : ZHp) (n k w : Nat) : Z (f + 1) 0 L st σ n k w = s_aload 0 1 L st σ n k w (zk1 cut G (Z f)) G R T := zrs hZ rfl f L st σ n k w
theorem f_X12_merchant_1 (hZ : ZRN (ztb (tb_X12_merchant E d mc ms)) cut G R T Z) (f : Nat) (L : ZLV) (st : List Value) (σ : ZHp) (n k w : Nat) : Z (f + 1) 1 L st σ n k w = s_iload 1 2 L st σ n k w (zk1 cut G (Z f)) G R T := zrs hZ rfl f L st σ n k w
theorem f_X12_merchant_2 (hZ : ZRN (ztb (tb_X12_merchant E d mc ms)) cut G R T Z) (f : Nat) (L : ZLV) (st : List Value) (σ : ZHp) (n k w : Nat) : Z (f + 1) 2 L st σ n k w = s_callVT E d mc ms 11 MX12_checkMerchant 1 5 L st σ n k w (zk1 cut G (Z f)) G R T := zrs hZ rfl f L st σ n k w
theorem f_X12_merchant_5 (hZ : ZRN (ztb (tb_X12_merchant E d mc ms)) cut G R T Z) (f : Nat) (L : ZLV) (st : List Value) (σ : ZHp) (n k w : Nat) : Z (f + 1) 5 L st σ n k w = s_aload 0 6 L st σ n k w (zk1 cut G (Z f)) G R T := zrs hZ rfl f L st σ n k w
theorem f_X12_merchant_6 (hZ : ZRN (ztb (tb_X12_merchant E d mc ms)) cut G R T Z) (f : Nat) (L : ZLV) (st : List Value) (σ : ZHp) (n k w : Nat) : Z (f + 1) 6 L st σ n k w = s_iload 2 7 L st σ n k w (zk1 cut G (Z f)) G R T := zrs hZ rfl f L st σ n k w
theorem f_X12_merchant_7 (hZ : ZRN (ztb (tb_X12_merchant E d mc ms)) cut G R T Z) (f : Nat) (L : ZLV) (st : List Value) (σ : ZHp) (n k w : Nat) : Z (f + 1) 7 L st σ n k w = s_const (.int (7)) 9 L st σ n k w (zk1 cut G (Z f)) G R T := zrs hZ rfl f L st σ n k w
theorem f_X12_merchant_9 (hZ : ZRN (ztb (tb_X12_merchant E d mc ms)) cut G R T Z) (f : Nat) (L : ZLV) (st : List Value) (σ : ZHp) (n k w : Nat) : Z (f + 1) 9 L st σ n k w = s_callVT E d mc ms 11 MX12_checkWhat 2 12 L st σ n k w (zk1 cut G (Z f)) G R T := zrs hZ rfl f L st σ n k w
theorem f_X12_merchant_12 (hZ : ZRN (ztb (tb_X12_merchant E d mc ms)) cut G R T Z) (f : Nat) (L : ZLV) (st : List Value) (σ : ZHp) (n k w : Nat) : Z (f + 1) 12 L st σ n k w = s_iload 2 13 L st σ n k w (zk1 cut G (Z f)) G R T := zrs hZ rfl f L st σ n k w
theorem f_X12_merchant_13 (hZ : ZRN (ztb (tb_X12_merchant E d mc ms)) cut G R T Z) (f : Nat) (L : ZLV) (st : List Value) (σ : ZHp) (n k w : Nat) : Z (f + 1) 13 L st σ n k w = s_const (.int (3)) 14 L st σ n k w (zk1 cut G (Z f)) G R T := zrs hZ rfl f L st σ n k w
theorem f_X12_merchant_14 (hZ : ZRN (ztb (tb_X12_merchant E d mc ms)) cut G R T Z) (f : Nat) (L : ZLV) (st : List Value) (σ : ZHp) (n k w : Nat) : Z (f + 1) 14 L st σ n k w = s_icmp_ne 29 17 L st σ n k w (zk1 cut G (Z f)) G R T := zrs hZ rfl f L st σ n k w
theorem f_X12_merchant_17 (hZ : ZRN (ztb (tb_X12_merchant E d mc ms)) cut G R T Z) (f : Nat) (L : ZLV) (st : List Value) (σ : ZHp) (n k w : Nat) : Z (f + 1) 17 L st σ n k w = s_aload 0 18 L st σ n k w (zk1 cut G (Z f)) G R T := zrs hZ rfl f L st σ n k w
theorem f_X12_merchant_18 (hZ : ZRN (ztb (tb_X12_merchant E d mc ms)) cut G R T Z) (f : Nat) (L : ZLV) (st : List Value) (σ : ZHp) (n k w : Nat) : Z (f + 1) 18 L st σ n k w = s_getf 11 2 21 L st σ n k w (zk1 cut G (Z f)) G R T := zrs hZ rfl f L st σ n k w
theorem f_X12_merchant_21 (hZ : ZRN (ztb (tb_X12_merchant E d mc ms)) cut G R T Z) (f : Nat) (L : ZLV) (st : List Value) (σ : ZHp) (n k w : Nat) : Z (f + 1) 21 L st σ n k w = s_getf 1 0 24 L st σ n k w (zk1 cut G (Z f)) G R T := zrs hZ rfl f L st σ n k w
theorem f_X12_merchant_24 (hZ : ZRN (ztb (tb_X12_merchant E d mc ms)) cut G R T Z) (f : Nat) (L : ZLV) (st : List Value) (σ : ZHp) (n k w : Nat) : Z (f + 1) 24 L st σ n k w = s_iload 1 25 L st σ n k w (zk1 cut G (Z f)) G R T := zrs hZ rfl f L st σ n k w
theorem f_X12_merchant_25 (hZ : ZRN (ztb (tb_X12_merchant E d mc ms)) cut G R T Z) (f : Nat) (L : ZLV) (st : List Value) (σ : ZHp) (n k w : Nat) : Z (f + 1) 25 L st σ n k w = s_callV E d mc ms 3 MX4_worth 1 28 L st σ n k w (zk1 cut G (Z f)) G R T := zrs hZ rfl f L st σ n k w
theorem f_X12_merchant_28 (hZ : ZRN (ztb (tb_X12_merchant E d mc ms)) cut G R T Z) (f : Nat) (L : ZLV) (st : List Value) (σ : ZHp) (n k w : Nat) : Z (f + 1) 28 L st σ n k w = s_ireturn L st σ n k w (zk1 cut G (Z f)) G R T := zrs hZ rfl f L st σ n k w
theorem f_X12_merchant_29 (hZ : ZRN (ztb (tb_X12_merchant E d mc ms)) cut G R T Z) (f : Nat) (L : ZLV) (st : List Value) (σ : ZHp) (n k w : Nat) : Z (f + 1) 29 L st σ n k w = s_aload 0 30 L st σ n k w (zk1 cut G (Z f)) G R T := zrs hZ rfl f L st σ n k w
theorem f_X12_merchant_30 (hZ : ZRN (ztb (tb_X12_merchant E d mc ms)) cut G R T Z) (f : Nat) (L : ZLV) (st : List Value) (σ : ZHp) (n k w : Nat) : Z (f + 1) 30 L st σ n k w = s_getf 11 2 33 L st σ n k w (zk1 cut G (Z f)) G R T := zrs hZ rfl f L st σ n k w
theorem f_X12_merchant_33 (hZ : ZRN (ztb (tb_X12_merchant E d mc ms)) cut G R T Z) (f : Nat) (L : ZLV) (st : List Value) (σ : ZHp) (n k w : Nat) : Z (f + 1) 33 L st σ n k w = s_getf 1 0 36 L st σ n k w (zk1 cut G (Z f)) G R T := zrs hZ rfl f L st σ n k w
theorem f_X12_merchant_36 (hZ : ZRN (ztb (tb_X12_merchant E d mc ms)) cut G R T Z) (f : Nat) (L : ZLV) (st : List Value) (σ : ZHp) (n k w : Nat) : Z (f + 1) 36 L st σ n k w = s_iload 1 37 L st σ n k w (zk1 cut G (Z f)) G R T := zrs hZ rfl f L st σ n k w
theorem f_X12_merchant_37 (hZ : ZRN (ztb (tb_X12_merchant E d mc ms)) cut G R T Z) (f : Nat) (L : ZLV) (st : List Value) (σ : ZHp) (n k w : Nat) : Z (f + 1) 37 L st σ n k w = s_callV E d mc ms 3 MX4_trader 1 40 L st σ n k w (zk1 cut G (Z f)) G R T := zrs hZ rfl f L st σ n k w
theorem f_X12_merchant_40 (hZ : ZRN (ztb (tb_X12_merchant E d mc ms)) cut G R T Z) (f : Nat) (L : ZLV) (st : List Value) (σ : ZHp) (n k w : Nat) : Z (f + 1) 40 L st σ n k w = s_iload 2 41 L st σ n k w (zk1 cut G (Z f)) G R T := zrs hZ rfl f L st σ n k w
theorem f_X12_merchant_41 (hZ : ZRN (ztb (tb_X12_merchant E d mc ms)) cut G R T Z) (f : Nat) (L : ZLV) (st : List Value) (σ : ZHp) (n k w : Nat) : Z (f + 1) 41 L st σ n k w = s_callV E d mc ms 10 MX11_number 1 44 L st σ n k w (zk1 cut G (Z f)) G R T := zrs hZ rfl f L st σ n k w
theorem f_X12_merchant_44 (hZ : ZRN (ztb (tb_X12_merchant E d mc ms)) cut G R T Z) (f : Nat) (L : ZLV) (st : List Value) (σ : ZHp) (n k w : Nat) : Z (f + 1) 44 L st σ n k w = s_ireturn L st σ n k w (zk1 cut G (Z f)) G R T := zrs hZ rfl f L st σ n k w
theorem f_X12_owns_0 (hZ : ZRN (ztb (tb_X12_owns E d mc ms)) cut G R T Z) (f : Nat) (L : ZLV) (st : List Value) (σ : ZHp) (n k w : Nat) : Z (f + 1) 0 L st σ n k w = s_aload 0 1 L st σ n k w (zk1 cut G (Z f)) G R T := zrs hZ rfl f L st σ n k w
theorem f_X12_owns_1 (hZ : ZRN (ztb (tb_X12_owns E d mc ms)) cut G R T Z) (f : Nat) (L : ZLV) (st : List Value) (σ : ZHp) (n k w : Nat) : Z (f + 1) 1 L st σ n k w = s_iload 1 2 L st σ n k w (zk1 cut G (Z f)) G R T := zrs hZ rfl f L st σ n k w
theorem f_X12_owns_2 (hZ : ZRN (ztb (tb_X12_owns E d mc ms)) cut G R T Z) (f : Nat) (L : ZLV) (st : List Value) (σ : ZHp) (n k w : Nat) : Z (f + 1) 2 L st σ n k w = s_callVT E d mc ms 11 MX12_checkMerchant 1 5 L st σ n k w (zk1 cut G (Z f)) G R T := zrs hZ rfl f L st σ n k w
theorem f_X12_owns_5 (hZ : ZRN (ztb (tb_X12_owns E d mc ms)) cut G R T Z) (f : Nat) (L : ZLV) (st : List Value) (σ : ZHp) (n k w : Nat) : Z (f + 1) 5 L st σ n k w = s_aload 0 6 L st σ n k w (zk1 cut G (Z f)) G R T := zrs hZ rfl f L st σ n k w
theorem f_X12_owns_6 (hZ : ZRN (ztb (tb_X12_owns E d mc ms)) cut G R T Z) (f : Nat) (L : ZLV) (st : List Value) (σ : ZHp) (n k w : Nat) : Z (f + 1) 6 L st σ n k w = s_iload 2 7 L st σ n k w (zk1 cut G (Z f)) G R T := zrs hZ rfl f L st σ n k w
theorem f_X12_owns_7 (hZ : ZRN (ztb (tb_X12_owns E d mc ms)) cut G R T Z) (f : Nat) (L : ZLV) (st : List Value) (σ : ZHp) (n k w : Nat) : Z (f + 1) 7 L st σ n k w = s_callVT E d mc ms 11 MX12_checkCard 1 10 L st σ n k w (zk1 cut G (Z f)) G R T := zrs hZ rfl f L st σ n k w
theorem f_X12_owns_10 (hZ : ZRN (ztb (tb_X12_owns E d mc ms)) cut G R T Z) (f : Nat) (L : ZLV) (st : List Value) (σ : ZHp) (n k w : Nat) : Z (f + 1) 10 L st σ n k w = s_aload 0 11 L st σ n k w (zk1 cut G (Z f)) G R T := zrs hZ rfl f L st σ n k w
theorem f_X12_owns_11 (hZ : ZRN (ztb (tb_X12_owns E d mc ms)) cut G R T Z) (f : Nat) (L : ZLV) (st : List Value) (σ : ZHp) (n k w : Nat) : Z (f + 1) 11 L st σ n k w = s_getf 11 2 14 L st σ n k w (zk1 cut G (Z f)) G R T := zrs hZ rfl f L st σ n k w
theorem f_X12_owns_14 (hZ : ZRN (ztb (tb_X12_owns E d mc ms)) cut G R T Z) (f : Nat) (L : ZLV) (st : List Value) (σ : ZHp) (n k w : Nat) : Z (f + 1) 14 L st σ n k w = s_getf 1 0 17 L st σ n k w (zk1 cut G (Z f)) G R T := zrs hZ rfl f L st σ n k w
theorem f_X12_owns_17 (hZ : ZRN (ztb (tb_X12_owns E d mc ms)) cut G R T Z) (f : Nat) (L : ZLV) (st : List Value) (σ : ZHp) (n k w : Nat) : Z (f + 1) 17 L st σ n k w = s_iload 1 18 L st σ n k w (zk1 cut G (Z f)) G R T := zrs hZ rfl f L st σ n k w
theorem f_X12_owns_18 (hZ : ZRN (ztb (tb_X12_owns E d mc ms)) cut G R T Z) (f : Nat) (L : ZLV) (st : List Value) (σ : ZHp) (n k w : Nat) : Z (f + 1) 18 L st σ n k w = s_callV E d mc ms 3 MX4_trader 1 21 L st σ n k w (zk1 cut G (Z f)) G R T := zrs hZ rfl f L st σ n k w
theorem f_X12_owns_21 (hZ : ZRN (ztb (tb_X12_owns E d mc ms)) cut G R T Z) (f : Nat) (L : ZLV) (st : List Value) (σ : ZHp) (n k w : Nat) : Z (f + 1) 21 L st σ n k w = s_getf 10 2 24 L st σ n k w (zk1 cut G (Z f)) G R T := zrs hZ rfl f L st σ n k w
theorem f_X12_owns_24 (hZ : ZRN (ztb (tb_X12_owns E d mc ms)) cut G R T Z) (f : Nat) (L : ZLV) (st : List Value) (σ : ZHp) (n k w : Nat) : Z (f + 1) 24 L st σ n k w = s_iload 2 25 L st σ n k w (zk1 cut G (Z f)) G R T := zrs hZ rfl f L st σ n k w
theorem f_X12_owns_25 (hZ : ZRN (ztb (tb_X12_owns E d mc ms)) cut G R T Z) (f : Nat) (L : ZLV) (st : List Value) (σ : ZHp) (n k w : Nat) : Z (f + 1) 25 L st σ n k w = s_callV E d mc ms 4 MX5_get 1 28 L st σ n k w (zk1 cut G (Z f)) G R T := zrs hZ rfl f L st σ n k w
theorem f_X12_owns_28 (hZ : ZRN (ztb (tb_X12_owns E d mc ms)) cut G R T Z) (f : Nat) (L : ZLV) (st : List Value) (σ : ZHp) (n k w : Nat) : Z (f + 1) 28 L st σ n k w = s_ireturn L st σ n k w (zk1 cut G (Z f)) G R T := zrs hZ rfl f L st σ n k w
theorem f_X12_deck_0 (hZ : ZRN (ztb (tb_X12_deck E d mc ms)) cut G R T Z) (f : Nat) (L : ZLV) (st : List Value) (σ : ZHp) (n k w : Nat) : Z (f + 1) 0 L st σ n k w = s_aload 0 1 L st σ n k w (zk1 cut G (Z f)) G R T := zrs hZ rfl f L st σ n k w
theorem f_X12_deck_1 (hZ : ZRN (ztb (tb_X12_deck E d mc ms)) cut G R T Z) (f : Nat) (L : ZLV) (st : List Value) (σ : ZHp) (n k w : Nat) : Z (f + 1) 1 L st σ n k w = s_iload 1 2 L st σ n k w (zk1 cut G (Z f)) G R T := zrs hZ rfl f L st σ n k w
theorem f_X12_deck_2 (hZ : ZRN (ztb (tb_X12_deck E d mc ms)) cut G R T Z) (f : Nat) (L : ZLV) (st : List Value) (σ : ZHp) (n k w : Nat) : Z (f + 1) 2 L st σ n k w = s_callVT E d mc ms 11 MX12_checkMerchant 1 5 L st σ n k w (zk1 cut G (Z f)) G R T := zrs hZ rfl f L st σ n k w
theorem f_X12_deck_5 (hZ : ZRN (ztb (tb_X12_deck E d mc ms)) cut G R T Z) (f : Nat) (L : ZLV) (st : List Value) (σ : ZHp) (n k w : Nat) : Z (f + 1) 5 L st σ n k w = s_aload 0 6 L st σ n k w (zk1 cut G (Z f)) G R T := zrs hZ rfl f L st σ n k w
theorem f_X12_deck_6 (hZ : ZRN (ztb (tb_X12_deck E d mc ms)) cut G R T Z) (f : Nat) (L : ZLV) (st : List Value) (σ : ZHp) (n k w : Nat) : Z (f + 1) 6 L st σ n k w = s_getf 11 2 9 L st σ n k w (zk1 cut G (Z f)) G R T := zrs hZ rfl f L st σ n k w
theorem f_X12_deck_9 (hZ : ZRN (ztb (tb_X12_deck E d mc ms)) cut G R T Z) (f : Nat) (L : ZLV) (st : List Value) (σ : ZHp) (n k w : Nat) : Z (f + 1) 9 L st σ n k w = s_getf 1 0 12 L st σ n k w (zk1 cut G (Z f)) G R T := zrs hZ rfl f L st σ n k w
theorem f_X12_deck_12 (hZ : ZRN (ztb (tb_X12_deck E d mc ms)) cut G R T Z) (f : Nat) (L : ZLV) (st : List Value) (σ : ZHp) (n k w : Nat) : Z (f + 1) 12 L st σ n k w = s_iload 1 13 L st σ n k w (zk1 cut G (Z f)) G R T := zrs hZ rfl f L st σ n k w
theorem f_X12_deck_13 (hZ : ZRN (ztb (tb_X12_deck E d mc ms)) cut G R T Z) (f : Nat) (L : ZLV) (st : List Value) (σ : ZHp) (n k w : Nat) : Z (f + 1) 13 L st σ n k w = s_callV E d mc ms 3 MX4_trader 1 16 L st σ n k w (zk1 cut G (Z f)) G R T := zrs hZ rfl f L st σ n k w
theorem f_X12_deck_16 (hZ : ZRN (ztb (tb_X12_deck E d mc ms)) cut G R T Z) (f : Nat) (L : ZLV) (st : List Value) (σ : ZHp) (n k w : Nat) : Z (f + 1) 16 L st σ n k w = s_astore 3 17 L st σ n k w (zk1 cut G (Z f)) G R T := zrs hZ rfl f L st σ n k w
theorem f_X12_deck_17 (hZ : ZRN (ztb (tb_X12_deck E d mc ms)) cut G R T Z) (f : Nat) (L : ZLV) (st : List Value) (σ : ZHp) (n k w : Nat) : Z (f + 1) 17 L st σ n k w = s_aload 0 18 L st σ n k w (zk1 cut G (Z f)) G R T := zrs hZ rfl f L st σ n k w
theorem f_X12_deck_18 (hZ : ZRN (ztb (tb_X12_deck E d mc ms)) cut G R T Z) (f : Nat) (L : ZLV) (st : List Value) (σ : ZHp) (n k w : Nat) : Z (f + 1) 18 L st σ n k w = s_iload 2 19 L st σ n k w (zk1 cut G (Z f)) G R T := zrs hZ rfl f L st σ n k w
theorem f_X12_deck_19 (hZ : ZRN (ztb (tb_X12_deck E d mc ms)) cut G R T Z) (f : Nat) (L : ZLV) (st : List Value) (σ : ZHp) (n k w : Nat) : Z (f + 1) 19 L st σ n k w = s_aload 3 20 L st σ n k w (zk1 cut G (Z f)) G R T := zrs hZ rfl f L st σ n k w
theorem f_X12_deck_20 (hZ : ZRN (ztb (tb_X12_deck E d mc ms)) cut G R T Z) (f : Nat) (L : ZLV) (st : List Value) (σ : ZHp) (n k w : Nat) : Z (f + 1) 20 L st σ n k w = s_callV E d mc ms 10 MX11_deckSize 0 23 L st σ n k w (zk1 cut G (Z f)) G R T := zrs hZ rfl f L st σ n k w
theorem f_X12_deck_23 (hZ : ZRN (ztb (tb_X12_deck E d mc ms)) cut G R T Z) (f : Nat) (L : ZLV) (st : List Value) (σ : ZHp) (n k w : Nat) : Z (f + 1) 23 L st σ n k w = s_callVT E d mc ms 11 MX12_checkPlace 2 26 L st σ n k w (zk1 cut G (Z f)) G R T := zrs hZ rfl f L st σ n k w
theorem f_X12_deck_26 (hZ : ZRN (ztb (tb_X12_deck E d mc ms)) cut G R T Z) (f : Nat) (L : ZLV) (st : List Value) (σ : ZHp) (n k w : Nat) : Z (f + 1) 26 L st σ n k w = s_aload 3 27 L st σ n k w (zk1 cut G (Z f)) G R T := zrs hZ rfl f L st σ n k w
theorem f_X12_deck_27 (hZ : ZRN (ztb (tb_X12_deck E d mc ms)) cut G R T Z) (f : Nat) (L : ZLV) (st : List Value) (σ : ZHp) (n k w : Nat) : Z (f + 1) 27 L st σ n k w = s_iload 2 28 L st σ n k w (zk1 cut G (Z f)) G R T := zrs hZ rfl f L st σ n k w
theorem f_X12_deck_28 (hZ : ZRN (ztb (tb_X12_deck E d mc ms)) cut G R T Z) (f : Nat) (L : ZLV) (st : List Value) (σ : ZHp) (n k w : Nat) : Z (f + 1) 28 L st σ n k w = s_callV E d mc ms 10 MX11_deckCard 1 31 L st σ n k w (zk1 cut G (Z f)) G R T := zrs hZ rfl f L st σ n k w
theorem f_X12_deck_31 (hZ : ZRN (ztb (tb_X12_deck E d mc ms)) cut G R T Z) (f : Nat) (L : ZLV) (st : List Value) (σ : ZHp) (n k w : Nat) : Z (f + 1) 31 L st σ n k w = s_ireturn L st σ n k w (zk1 cut G (Z f)) G R T := zrs hZ rfl f L st σ n k w
theorem f_X12_discard_0 (hZ : ZRN (ztb (tb_X12_discard E d mc ms)) cut G R T Z) (f : Nat) (L : ZLV) (st : List Value) (σ : ZHp) (n k w : Nat) : Z (f + 1) 0 L st σ n k w = s_aload 0 1 L st σ n k w (zk1 cut G (Z f)) G R T := zrs hZ rfl f L st σ n k w
theorem f_X12_discard_1 (hZ : ZRN (ztb (tb_X12_discard E d mc ms)) cut G R T Z) (f : Nat) (L : ZLV) (st : List Value) (σ : ZHp) (n k w : Nat) : Z (f + 1) 1 L st σ n k w = s_iload 1 2 L st σ n k w (zk1 cut G (Z f)) G R T := zrs hZ rfl f L st σ n k w
theorem f_X12_discard_2 (hZ : ZRN (ztb (tb_X12_discard E d mc ms)) cut G R T Z) (f : Nat) (L : ZLV) (st : List Value) (σ : ZHp) (n k w : Nat) : Z (f + 1) 2 L st σ n k w = s_callVT E d mc ms 11 MX12_checkMerchant 1 5 L st σ n k w (zk1 cut G (Z f)) G R T := zrs hZ rfl f L st σ n k w
theorem f_X12_discard_5 (hZ : ZRN (ztb (tb_X12_discard E d mc ms)) cut G R T Z) (f : Nat) (L : ZLV) (st : List Value) (σ : ZHp) (n k w : Nat) : Z (f + 1) 5 L st σ n k w = s_aload 0 6 L st σ n k w (zk1 cut G (Z f)) G R T := zrs hZ rfl f L st σ n k w
theorem f_X12_discard_6 (hZ : ZRN (ztb (tb_X12_discard E d mc ms)) cut G R T Z) (f : Nat) (L : ZLV) (st : List Value) (σ : ZHp) (n k w : Nat) : Z (f + 1) 6 L st σ n k w = s_getf 11 2 9 L st σ n k w (zk1 cut G (Z f)) G R T := zrs hZ rfl f L st σ n k w
theorem f_X12_discard_9 (hZ : ZRN (ztb (tb_X12_discard E d mc ms)) cut G R T Z) (f : Nat) (L : ZLV) (st : List Value) (σ : ZHp) (n k w : Nat) : Z (f + 1) 9 L st σ n k w = s_getf 1 0 12 L st σ n k w (zk1 cut G (Z f)) G R T := zrs hZ rfl f L st σ n k w
theorem f_X12_discard_12 (hZ : ZRN (ztb (tb_X12_discard E d mc ms)) cut G R T Z) (f : Nat) (L : ZLV) (st : List Value) (σ : ZHp) (n k w : Nat) : Z (f + 1) 12 L st σ n k w = s_iload 1 13 L st σ n k w (zk1 cut G (Z f)) G R T := zrs hZ rfl f L st σ n k w
theorem f_X12_discard_13 (hZ : ZRN (ztb (tb_X12_discard E d mc ms)) cut G R T Z) (f : Nat) (L : ZLV) (st : List Value) (σ : ZHp) (n k w : Nat) : Z (f + 1) 13 L st σ n k w = s_callV E d mc ms 3 MX4_trader 1 16 L st σ n k w (zk1 cut G (Z f)) G R T := zrs hZ rfl f L st σ n k w
theorem f_X12_discard_16 (hZ : ZRN (ztb (tb_X12_discard E d mc ms)) cut G R T Z) (f : Nat) (L : ZLV) (st : List Value) (σ : ZHp) (n k w : Nat) : Z (f + 1) 16 L st σ n k w = s_astore 3 17 L st σ n k w (zk1 cut G (Z f)) G R T := zrs hZ rfl f L st σ n k w
theorem f_X12_discard_17 (hZ : ZRN (ztb (tb_X12_discard E d mc ms)) cut G R T Z) (f : Nat) (L : ZLV) (st : List Value) (σ : ZHp) (n k w : Nat) : Z (f + 1) 17 L st σ n k w = s_aload 0 18 L st σ n k w (zk1 cut G (Z f)) G R T := zrs hZ rfl f L st σ n k w
theorem f_X12_discard_18 (hZ : ZRN (ztb (tb_X12_discard E d mc ms)) cut G R T Z) (f : Nat) (L : ZLV) (st : List Value) (σ : ZHp) (n k w : Nat) : Z (f + 1) 18 L st σ n k w = s_iload 2 19 L st σ n k w (zk1 cut G (Z f)) G R T := zrs hZ rfl f L st σ n k w
theorem f_X12_discard_19 (hZ : ZRN (ztb (tb_X12_discard E d mc ms)) cut G R T Z) (f : Nat) (L : ZLV) (st : List Value) (σ : ZHp) (n k w : Nat) : Z (f + 1) 19 L st σ n k w = s_aload 3 20 L st σ n k w (zk1 cut G (Z f)) G R T := zrs hZ rfl f L st σ n k w
theorem f_X12_discard_20 (hZ : ZRN (ztb (tb_X12_discard E d mc ms)) cut G R T Z) (f : Nat) (L : ZLV) (st : List Value) (σ : ZHp) (n k w : Nat) : Z (f + 1) 20 L st σ n k w = s_getf 10 1 23 L st σ n k w (zk1 cut G (Z f)) G R T := zrs hZ rfl f L st σ n k w
theorem f_X12_discard_23 (hZ : ZRN (ztb (tb_X12_discard E d mc ms)) cut G R T Z) (f : Nat) (L : ZLV) (st : List Value) (σ : ZHp) (n k w : Nat) : Z (f + 1) 23 L st σ n k w = s_callV E d mc ms 4 MX5_size 0 26 L st σ n k w (zk1 cut G (Z f)) G R T := zrs hZ rfl f L st σ n k w
theorem f_X12_discard_26 (hZ : ZRN (ztb (tb_X12_discard E d mc ms)) cut G R T Z) (f : Nat) (L : ZLV) (st : List Value) (σ : ZHp) (n k w : Nat) : Z (f + 1) 26 L st σ n k w = s_callVT E d mc ms 11 MX12_checkPlace 2 29 L st σ n k w (zk1 cut G (Z f)) G R T := zrs hZ rfl f L st σ n k w
theorem f_X12_discard_29 (hZ : ZRN (ztb (tb_X12_discard E d mc ms)) cut G R T Z) (f : Nat) (L : ZLV) (st : List Value) (σ : ZHp) (n k w : Nat) : Z (f + 1) 29 L st σ n k w = s_aload 3 30 L st σ n k w (zk1 cut G (Z f)) G R T := zrs hZ rfl f L st σ n k w
theorem f_X12_discard_30 (hZ : ZRN (ztb (tb_X12_discard E d mc ms)) cut G R T Z) (f : Nat) (L : ZLV) (st : List Value) (σ : ZHp) (n k w : Nat) : Z (f + 1) 30 L st σ n k w = s_getf 10 1 33 L st σ n k w (zk1 cut G (Z f)) G R T := zrs hZ rfl f L st σ n k w
theorem f_X12_discard_33 (hZ : ZRN (ztb (tb_X12_discard E d mc ms)) cut G R T Z) (f : Nat) (L : ZLV) (st : List Value) (σ : ZHp) (n k w : Nat) : Z (f + 1) 33 L st σ n k w = s_iload 2 34 L st σ n k w (zk1 cut G (Z f)) G R T := zrs hZ rfl f L st σ n k w
theorem f_X12_discard_34 (hZ : ZRN (ztb (tb_X12_discard E d mc ms)) cut G R T Z) (f : Nat) (L : ZLV) (st : List Value) (σ : ZHp) (n k w : Nat) : Z (f + 1) 34 L st σ n k w = s_callV E d mc ms 4 MX5_get 1 37 L st σ n k w (zk1 cut G (Z f)) G R T := zrs hZ rfl f L st σ n k w
theorem f_X12_discard_37 (hZ : ZRN (ztb (tb_X12_discard E d mc ms)) cut G R T Z) (f : Nat) (L : ZLV) (st : List Value) (σ : ZHp) (n k w : Nat) : Z (f + 1) 37 L st σ n k w = s_ireturn L st σ n k w (zk1 cut G (Z f)) G R T := zrs hZ rfl f L st σ n k w
theorem f_X12_leader_0 (hZ : ZRN (ztb (tb_X12_leader E d mc ms)) cut G R T Z) (f : Nat) (L : ZLV) (st : List Value) (σ : ZHp) (n k w : Nat) : Z (f + 1) 0 L st σ n k w = s_aload 0 1 L st σ n k w (zk1 cut G (Z f)) G R T := zrs hZ rfl f L st σ n k w
theorem f_X12_leader_1 (hZ : ZRN (ztb (tb_X12_leader E d mc ms)) cut G R T Z) (f : Nat) (L : ZLV) (st : List Value) (σ : ZHp) (n k w : Nat) : Z (f + 1) 1 L st σ n k w = s_getf 11 2 4 L st σ n k w (zk1 cut G (Z f)) G R T := zrs hZ rfl f L st σ n k w
theorem f_X12_leader_4 (hZ : ZRN (ztb (tb_X12_leader E d mc ms)) cut G R T Z) (f : Nat) (L : ZLV) (st : List Value) (σ : ZHp) (n k w : Nat) : Z (f + 1) 4 L st σ n k w = s_getf 1 0 7 L st σ n k w (zk1 cut G (Z f)) G R T := zrs hZ rfl f L st σ n k w
theorem f_X12_leader_7 (hZ : ZRN (ztb (tb_X12_leader E d mc ms)) cut G R T Z) (f : Nat) (L : ZLV) (st : List Value) (σ : ZHp) (n k w : Nat) : Z (f + 1) 7 L st σ n k w = s_callV E d mc ms 3 MX4_worthiest 0 10 L st σ n k w (zk1 cut G (Z f)) G R T := zrs hZ rfl f L st σ n k w
theorem f_X12_leader_10 (hZ : ZRN (ztb (tb_X12_leader E d mc ms)) cut G R T Z) (f : Nat) (L : ZLV) (st : List Value) (σ : ZHp) (n k w : Nat) : Z (f + 1) 10 L st σ n k w = s_ireturn L st σ n k w (zk1 cut G (Z f)) G R T := zrs hZ rfl f L st σ n k w
theorem f_X12_give_0 (hZ : ZRN (ztb (tb_X12_give E d mc ms)) cut G R T Z) (f : Nat) (L : ZLV) (st : List Value) (σ : ZHp) (n k w : Nat) : Z (f + 1) 0 L st σ n k w = s_aload 0 1 L st σ n k w (zk1 cut G (Z f)) G R T := zrs hZ rfl f L st σ n k w
theorem f_X12_give_1 (hZ : ZRN (ztb (tb_X12_give E d mc ms)) cut G R T Z) (f : Nat) (L : ZLV) (st : List Value) (σ : ZHp) (n k w : Nat) : Z (f + 1) 1 L st σ n k w = s_iload 1 2 L st σ n k w (zk1 cut G (Z f)) G R T := zrs hZ rfl f L st σ n k w
theorem f_X12_give_2 (hZ : ZRN (ztb (tb_X12_give E d mc ms)) cut G R T Z) (f : Nat) (L : ZLV) (st : List Value) (σ : ZHp) (n k w : Nat) : Z (f + 1) 2 L st σ n k w = s_callVT E d mc ms 11 MX12_checkMerchant 1 5 L st σ n k w (zk1 cut G (Z f)) G R T := zrs hZ rfl f L st σ n k w
theorem f_X12_give_5 (hZ : ZRN (ztb (tb_X12_give E d mc ms)) cut G R T Z) (f : Nat) (L : ZLV) (st : List Value) (σ : ZHp) (n k w : Nat) : Z (f + 1) 5 L st σ n k w = s_aload 0 6 L st σ n k w (zk1 cut G (Z f)) G R T := zrs hZ rfl f L st σ n k w
theorem f_X12_give_6 (hZ : ZRN (ztb (tb_X12_give E d mc ms)) cut G R T Z) (f : Nat) (L : ZLV) (st : List Value) (σ : ZHp) (n k w : Nat) : Z (f + 1) 6 L st σ n k w = s_iload 2 7 L st σ n k w (zk1 cut G (Z f)) G R T := zrs hZ rfl f L st σ n k w
theorem f_X12_give_7 (hZ : ZRN (ztb (tb_X12_give E d mc ms)) cut G R T Z) (f : Nat) (L : ZLV) (st : List Value) (σ : ZHp) (n k w : Nat) : Z (f + 1) 7 L st σ n k w = s_callVT E d mc ms 11 MX12_checkCard 1 10 L st σ n k w (zk1 cut G (Z f)) G R T := zrs hZ rfl f L st σ n k w
theorem f_X12_give_10 (hZ : ZRN (ztb (tb_X12_give E d mc ms)) cut G R T Z) (f : Nat) (L : ZLV) (st : List Value) (σ : ZHp) (n k w : Nat) : Z (f + 1) 10 L st σ n k w = s_aload 0 11 L st σ n k w (zk1 cut G (Z f)) G R T := zrs hZ rfl f L st σ n k w
theorem f_X12_give_11 (hZ : ZRN (ztb (tb_X12_give E d mc ms)) cut G R T Z) (f : Nat) (L : ZLV) (st : List Value) (σ : ZHp) (n k w : Nat) : Z (f + 1) 11 L st σ n k w = s_getf 11 2 14 L st σ n k w (zk1 cut G (Z f)) G R T := zrs hZ rfl f L st σ n k w
theorem f_X12_give_14 (hZ : ZRN (ztb (tb_X12_give E d mc ms)) cut G R T Z) (f : Nat) (L : ZLV) (st : List Value) (σ : ZHp) (n k w : Nat) : Z (f + 1) 14 L st σ n k w = s_getf 1 0 17 L st σ n k w (zk1 cut G (Z f)) G R T := zrs hZ rfl f L st σ n k w
theorem f_X12_give_17 (hZ : ZRN (ztb (tb_X12_give E d mc ms)) cut G R T Z) (f : Nat) (L : ZLV) (st : List Value) (σ : ZHp) (n k w : Nat) : Z (f + 1) 17 L st σ n k w = s_iload 1 18 L st σ n k w (zk1 cut G (Z f)) G R T := zrs hZ rfl f L st σ n k w
theorem f_X12_give_18 (hZ : ZRN (ztb (tb_X12_give E d mc ms)) cut G R T Z) (f : Nat) (L : ZLV) (st : List Value) (σ : ZHp) (n k w : Nat) : Z (f + 1) 18 L st σ n k w = s_iload 2 19 L st σ n k w (zk1 cut G (Z f)) G R T := zrs hZ rfl f L st σ n k w
theorem f_X12_give_19 (hZ : ZRN (ztb (tb_X12_give E d mc ms)) cut G R T Z) (f : Nat) (L : ZLV) (st : List Value) (σ : ZHp) (n k w : Nat) : Z (f + 1) 19 L st σ n k w = s_callV E d mc ms 3 MX4_canGain 2 22 L st σ n k w (zk1 cut G (Z f)) G R T := zrs hZ rfl f L st σ n k w
theorem f_X12_give_22 (hZ : ZRN (ztb (tb_X12_give E d mc ms)) cut G R T Z) (f : Nat) (L : ZLV) (st : List Value) (σ : ZHp) (n k w : Nat) : Z (f + 1) 22 L st σ n k w = s_if_ne 35 25 L st σ n k w (zk1 cut G (Z f)) G R T := zrs hZ rfl f L st σ n k w
theorem f_X12_give_25 (hZ : ZRN (ztb (tb_X12_give E d mc ms)) cut G R T Z) (f : Nat) (L : ZLV) (st : List Value) (σ : ZHp) (n k w : Nat) : Z (f + 1) 25 L st σ n k w = s_throw "java/lang/IllegalStateException" L st σ n k w (zk1 cut G (Z f)) G R T := zrs hZ rfl f L st σ n k w
theorem f_X12_give_35 (hZ : ZRN (ztb (tb_X12_give E d mc ms)) cut G R T Z) (f : Nat) (L : ZLV) (st : List Value) (σ : ZHp) (n k w : Nat) : Z (f + 1) 35 L st σ n k w = s_aload 0 36 L st σ n k w (zk1 cut G (Z f)) G R T := zrs hZ rfl f L st σ n k w
theorem f_X12_give_36 (hZ : ZRN (ztb (tb_X12_give E d mc ms)) cut G R T Z) (f : Nat) (L : ZLV) (st : List Value) (σ : ZHp) (n k w : Nat) : Z (f + 1) 36 L st σ n k w = s_getf 11 2 39 L st σ n k w (zk1 cut G (Z f)) G R T := zrs hZ rfl f L st σ n k w
theorem f_X12_give_39 (hZ : ZRN (ztb (tb_X12_give E d mc ms)) cut G R T Z) (f : Nat) (L : ZLV) (st : List Value) (σ : ZHp) (n k w : Nat) : Z (f + 1) 39 L st σ n k w = s_getf 1 0 42 L st σ n k w (zk1 cut G (Z f)) G R T := zrs hZ rfl f L st σ n k w
theorem f_X12_give_42 (hZ : ZRN (ztb (tb_X12_give E d mc ms)) cut G R T Z) (f : Nat) (L : ZLV) (st : List Value) (σ : ZHp) (n k w : Nat) : Z (f + 1) 42 L st σ n k w = s_iload 1 43 L st σ n k w (zk1 cut G (Z f)) G R T := zrs hZ rfl f L st σ n k w
theorem f_X12_give_43 (hZ : ZRN (ztb (tb_X12_give E d mc ms)) cut G R T Z) (f : Nat) (L : ZLV) (st : List Value) (σ : ZHp) (n k w : Nat) : Z (f + 1) 43 L st σ n k w = s_iload 2 44 L st σ n k w (zk1 cut G (Z f)) G R T := zrs hZ rfl f L st σ n k w
theorem f_X12_give_44 (hZ : ZRN (ztb (tb_X12_give E d mc ms)) cut G R T Z) (f : Nat) (L : ZLV) (st : List Value) (σ : ZHp) (n k w : Nat) : Z (f + 1) 44 L st σ n k w = s_callV E d mc ms 3 MX4_gain 2 47 L st σ n k w (zk1 cut G (Z f)) G R T := zrs hZ rfl f L st σ n k w
theorem f_X12_give_47 (hZ : ZRN (ztb (tb_X12_give E d mc ms)) cut G R T Z) (f : Nat) (L : ZLV) (st : List Value) (σ : ZHp) (n k w : Nat) : Z (f + 1) 47 L st σ n k w = s_aload 0 48 L st σ n k w (zk1 cut G (Z f)) G R T := zrs hZ rfl f L st σ n k w
theorem f_X12_give_48 (hZ : ZRN (ztb (tb_X12_give E d mc ms)) cut G R T Z) (f : Nat) (L : ZLV) (st : List Value) (σ : ZHp) (n k w : Nat) : Z (f + 1) 48 L st σ n k w = s_getf 11 2 51 L st σ n k w (zk1 cut G (Z f)) G R T := zrs hZ rfl f L st σ n k w
theorem f_X12_give_51 (hZ : ZRN (ztb (tb_X12_give E d mc ms)) cut G R T Z) (f : Nat) (L : ZLV) (st : List Value) (σ : ZHp) (n k w : Nat) : Z (f + 1) 51 L st σ n k w = s_getf 1 0 54 L st σ n k w (zk1 cut G (Z f)) G R T := zrs hZ rfl f L st σ n k w
theorem f_X12_give_54 (hZ : ZRN (ztb (tb_X12_give E d mc ms)) cut G R T Z) (f : Nat) (L : ZLV) (st : List Value) (σ : ZHp) (n k w : Nat) : Z (f + 1) 54 L st σ n k w = s_getf 3 0 57 L st σ n k w (zk1 cut G (Z f)) G R T := zrs hZ rfl f L st σ n k w
theorem f_X12_give_57 (hZ : ZRN (ztb (tb_X12_give E d mc ms)) cut G R T Z) (f : Nat) (L : ZLV) (st : List Value) (σ : ZHp) (n k w : Nat) : Z (f + 1) 57 L st σ n k w = s_iload 2 58 L st σ n k w (zk1 cut G (Z f)) G R T := zrs hZ rfl f L st σ n k w
theorem f_X12_give_58 (hZ : ZRN (ztb (tb_X12_give E d mc ms)) cut G R T Z) (f : Nat) (L : ZLV) (st : List Value) (σ : ZHp) (n k w : Nat) : Z (f + 1) 58 L st σ n k w = s_callV E d mc ms 4 MX5_get 1 61 L st σ n k w (zk1 cut G (Z f)) G R T := zrs hZ rfl f L st σ n k w
theorem f_X12_give_61 (hZ : ZRN (ztb (tb_X12_give E d mc ms)) cut G R T Z) (f : Nat) (L : ZLV) (st : List Value) (σ : ZHp) (n k w : Nat) : Z (f + 1) 61 L st σ n k w = s_ireturn L st σ n k w (zk1 cut G (Z f)) G R T := zrs hZ rfl f L st σ n k w
theorem f_X12_trash_0 (hZ : ZRN (ztb (tb_X12_trash E d mc ms)) cut G R T Z) (f : Nat) (L : ZLV) (st : List Value) (σ : ZHp) (n k w : Nat) : Z (f + 1) 0 L st σ n k w = s_aload 0 1 L st σ n k w (zk1 cut G (Z f)) G R T := zrs hZ rfl f L st σ n k w
theorem f_X12_trash_1 (hZ : ZRN (ztb (tb_X12_trash E d mc ms)) cut G R T Z) (f : Nat) (L : ZLV) (st : List Value) (σ : ZHp) (n k w : Nat) : Z (f + 1) 1 L st σ n k w = s_iload 1 2 L st σ n k w (zk1 cut G (Z f)) G R T := zrs hZ rfl f L st σ n k w
theorem f_X12_trash_2 (hZ : ZRN (ztb (tb_X12_trash E d mc ms)) cut G R T Z) (f : Nat) (L : ZLV) (st : List Value) (σ : ZHp) (n k w : Nat) : Z (f + 1) 2 L st σ n k w = s_callVT E d mc ms 11 MX12_checkMerchant 1 5 L st σ n k w (zk1 cut G (Z f)) G R T := zrs hZ rfl f L st σ n k w
theorem f_X12_trash_5 (hZ : ZRN (ztb (tb_X12_trash E d mc ms)) cut G R T Z) (f : Nat) (L : ZLV) (st : List Value) (σ : ZHp) (n k w : Nat) : Z (f + 1) 5 L st σ n k w = s_aload 0 6 L st σ n k w (zk1 cut G (Z f)) G R T := zrs hZ rfl f L st σ n k w
theorem f_X12_trash_6 (hZ : ZRN (ztb (tb_X12_trash E d mc ms)) cut G R T Z) (f : Nat) (L : ZLV) (st : List Value) (σ : ZHp) (n k w : Nat) : Z (f + 1) 6 L st σ n k w = s_iload 2 7 L st σ n k w (zk1 cut G (Z f)) G R T := zrs hZ rfl f L st σ n k w
theorem f_X12_trash_7 (hZ : ZRN (ztb (tb_X12_trash E d mc ms)) cut G R T Z) (f : Nat) (L : ZLV) (st : List Value) (σ : ZHp) (n k w : Nat) : Z (f + 1) 7 L st σ n k w = s_callVT E d mc ms 11 MX12_checkCard 1 10 L st σ n k w (zk1 cut G (Z f)) G R T := zrs hZ rfl f L st σ n k w
theorem f_X12_trash_10 (hZ : ZRN (ztb (tb_X12_trash E d mc ms)) cut G R T Z) (f : Nat) (L : ZLV) (st : List Value) (σ : ZHp) (n k w : Nat) : Z (f + 1) 10 L st σ n k w = s_aload 0 11 L st σ n k w (zk1 cut G (Z f)) G R T := zrs hZ rfl f L st σ n k w
theorem f_X12_trash_11 (hZ : ZRN (ztb (tb_X12_trash E d mc ms)) cut G R T Z) (f : Nat) (L : ZLV) (st : List Value) (σ : ZHp) (n k w : Nat) : Z (f + 1) 11 L st σ n k w = s_getf 11 2 14 L st σ n k w (zk1 cut G (Z f)) G R T := zrs hZ rfl f L st σ n k w
theorem f_X12_trash_14 (hZ : ZRN (ztb (tb_X12_trash E d mc ms)) cut G R T Z) (f : Nat) (L : ZLV) (st : List Value) (σ : ZHp) (n k w : Nat) : Z (f + 1) 14 L st σ n k w = s_getf 1 0 17 L st σ n k w (zk1 cut G (Z f)) G R T := zrs hZ rfl f L st σ n k w
theorem f_X12_trash_17 (hZ : ZRN (ztb (tb_X12_trash E d mc ms)) cut G R T Z) (f : Nat) (L : ZLV) (st : List Value) (σ : ZHp) (n k w : Nat) : Z (f + 1) 17 L st σ n k w = s_iload 1 18 L st σ n k w (zk1 cut G (Z f)) G R T := zrs hZ rfl f L st σ n k w
theorem f_X12_trash_18 (hZ : ZRN (ztb (tb_X12_trash E d mc ms)) cut G R T Z) (f : Nat) (L : ZLV) (st : List Value) (σ : ZHp) (n k w : Nat) : Z (f + 1) 18 L st σ n k w = s_callV E d mc ms 3 MX4_trader 1 21 L st σ n k w (zk1 cut G (Z f)) G R T := zrs hZ rfl f L st σ n k w
theorem f_X12_trash_21 (hZ : ZRN (ztb (tb_X12_trash E d mc ms)) cut G R T Z) (f : Nat) (L : ZLV) (st : List Value) (σ : ZHp) (n k w : Nat) : Z (f + 1) 21 L st σ n k w = s_astore 3 22 L st σ n k w (zk1 cut G (Z f)) G R T := zrs hZ rfl f L st σ n k w
theorem f_X12_trash_22 (hZ : ZRN (ztb (tb_X12_trash E d mc ms)) cut G R T Z) (f : Nat) (L : ZLV) (st : List Value) (σ : ZHp) (n k w : Nat) : Z (f + 1) 22 L st σ n k w = s_aload 3 23 L st σ n k w (zk1 cut G (Z f)) G R T := zrs hZ rfl f L st σ n k w
theorem f_X12_trash_23 (hZ : ZRN (ztb (tb_X12_trash E d mc ms)) cut G R T Z) (f : Nat) (L : ZLV) (st : List Value) (σ : ZHp) (n k w : Nat) : Z (f + 1) 23 L st σ n k w = s_getf 10 1 26 L st σ n k w (zk1 cut G (Z f)) G R T := zrs hZ rfl f L st σ n k w
theorem f_X12_trash_26 (hZ : ZRN (ztb (tb_X12_trash E d mc ms)) cut G R T Z) (f : Nat) (L : ZLV) (st : List Value) (σ : ZHp) (n k w : Nat) : Z (f + 1) 26 L st σ n k w = s_iload 2 27 L st σ n k w (zk1 cut G (Z f)) G R T := zrs hZ rfl f L st σ n k w
theorem f_X12_trash_27 (hZ : ZRN (ztb (tb_X12_trash E d mc ms)) cut G R T Z) (f : Nat) (L : ZLV) (st : List Value) (σ : ZHp) (n k w : Nat) : Z (f + 1) 27 L st σ n k w = s_const (.int (0)) 28 L st σ n k w (zk1 cut G (Z f)) G R T := zrs hZ rfl f L st σ n k w
theorem f_X12_trash_28 (hZ : ZRN (ztb (tb_X12_trash E d mc ms)) cut G R T Z) (f : Nat) (L : ZLV) (st : List Value) (σ : ZHp) (n k w : Nat) : Z (f + 1) 28 L st σ n k w = s_callV E d mc ms 4 MX5_find 2 31 L st σ n k w (zk1 cut G (Z f)) G R T := zrs hZ rfl f L st σ n k w
theorem f_X12_trash_31 (hZ : ZRN (ztb (tb_X12_trash E d mc ms)) cut G R T Z) (f : Nat) (L : ZLV) (st : List Value) (σ : ZHp) (n k w : Nat) : Z (f + 1) 31 L st σ n k w = s_istore 4 33 L st σ n k w (zk1 cut G (Z f)) G R T := zrs hZ rfl f L st σ n k w
theorem f_X12_trash_33 (hZ : ZRN (ztb (tb_X12_trash E d mc ms)) cut G R T Z) (f : Nat) (L : ZLV) (st : List Value) (σ : ZHp) (n k w : Nat) : Z (f + 1) 33 L st σ n k w = s_iload 4 35 L st σ n k w (zk1 cut G (Z f)) G R T := zrs hZ rfl f L st σ n k w
theorem f_X12_trash_35 (hZ : ZRN (ztb (tb_X12_trash E d mc ms)) cut G R T Z) (f : Nat) (L : ZLV) (st : List Value) (σ : ZHp) (n k w : Nat) : Z (f + 1) 35 L st σ n k w = s_const (.int (-1)) 36 L st σ n k w (zk1 cut G (Z f)) G R T := zrs hZ rfl f L st σ n k w
theorem f_X12_trash_36 (hZ : ZRN (ztb (tb_X12_trash E d mc ms)) cut G R T Z) (f : Nat) (L : ZLV) (st : List Value) (σ : ZHp) (n k w : Nat) : Z (f + 1) 36 L st σ n k w = s_icmp_ne 49 39 L st σ n k w (zk1 cut G (Z f)) G R T := zrs hZ rfl f L st σ n k w
theorem f_X12_trash_39 (hZ : ZRN (ztb (tb_X12_trash E d mc ms)) cut G R T Z) (f : Nat) (L : ZLV) (st : List Value) (σ : ZHp) (n k w : Nat) : Z (f + 1) 39 L st σ n k w = s_throw "java/lang/IllegalStateException" L st σ n k w (zk1 cut G (Z f)) G R T := zrs hZ rfl f L st σ n k w
theorem f_X12_trash_49 (hZ : ZRN (ztb (tb_X12_trash E d mc ms)) cut G R T Z) (f : Nat) (L : ZLV) (st : List Value) (σ : ZHp) (n k w : Nat) : Z (f + 1) 49 L st σ n k w = s_aload 3 50 L st σ n k w (zk1 cut G (Z f)) G R T := zrs hZ rfl f L st σ n k w
theorem f_X12_trash_50 (hZ : ZRN (ztb (tb_X12_trash E d mc ms)) cut G R T Z) (f : Nat) (L : ZLV) (st : List Value) (σ : ZHp) (n k w : Nat) : Z (f + 1) 50 L st σ n k w = s_getf 10 1 53 L st σ n k w (zk1 cut G (Z f)) G R T := zrs hZ rfl f L st σ n k w
theorem f_X12_trash_53 (hZ : ZRN (ztb (tb_X12_trash E d mc ms)) cut G R T Z) (f : Nat) (L : ZLV) (st : List Value) (σ : ZHp) (n k w : Nat) : Z (f + 1) 53 L st σ n k w = s_iload 4 55 L st σ n k w (zk1 cut G (Z f)) G R T := zrs hZ rfl f L st σ n k w
theorem f_X12_trash_55 (hZ : ZRN (ztb (tb_X12_trash E d mc ms)) cut G R T Z) (f : Nat) (L : ZLV) (st : List Value) (σ : ZHp) (n k w : Nat) : Z (f + 1) 55 L st σ n k w = s_const (.int (1)) 56 L st σ n k w (zk1 cut G (Z f)) G R T := zrs hZ rfl f L st σ n k w
theorem f_X12_trash_56 (hZ : ZRN (ztb (tb_X12_trash E d mc ms)) cut G R T Z) (f : Nat) (L : ZLV) (st : List Value) (σ : ZHp) (n k w : Nat) : Z (f + 1) 56 L st σ n k w = s_callV E d mc ms 4 MX5_cut 2 59 L st σ n k w (zk1 cut G (Z f)) G R T := zrs hZ rfl f L st σ n k w
theorem f_X12_trash_59 (hZ : ZRN (ztb (tb_X12_trash E d mc ms)) cut G R T Z) (f : Nat) (L : ZLV) (st : List Value) (σ : ZHp) (n k w : Nat) : Z (f + 1) 59 L st σ n k w = s_aload 3 60 L st σ n k w (zk1 cut G (Z f)) G R T := zrs hZ rfl f L st σ n k w
theorem f_X12_trash_60 (hZ : ZRN (ztb (tb_X12_trash E d mc ms)) cut G R T Z) (f : Nat) (L : ZLV) (st : List Value) (σ : ZHp) (n k w : Nat) : Z (f + 1) 60 L st σ n k w = s_iload 2 61 L st σ n k w (zk1 cut G (Z f)) G R T := zrs hZ rfl f L st σ n k w
theorem f_X12_trash_61 (hZ : ZRN (ztb (tb_X12_trash E d mc ms)) cut G R T Z) (f : Nat) (L : ZLV) (st : List Value) (σ : ZHp) (n k w : Nat) : Z (f + 1) 61 L st σ n k w = s_callV E d mc ms 10 MX11_lose 1 64 L st σ n k w (zk1 cut G (Z f)) G R T := zrs hZ rfl f L st σ n k w
theorem f_X12_trash_64 (hZ : ZRN (ztb (tb_X12_trash E d mc ms)) cut G R T Z) (f : Nat) (L : ZLV) (st : List Value) (σ : ZHp) (n k w : Nat) : Z (f + 1) 64 L st σ n k w = s_iload 4 66 L st σ n k w (zk1 cut G (Z f)) G R T := zrs hZ rfl f L st σ n k w
theorem f_X12_trash_66 (hZ : ZRN (ztb (tb_X12_trash E d mc ms)) cut G R T Z) (f : Nat) (L : ZLV) (st : List Value) (σ : ZHp) (n k w : Nat) : Z (f + 1) 66 L st σ n k w = s_ireturn L st σ n k w (zk1 cut G (Z f)) G R T := zrs hZ rfl f L st σ n k w
theorem f_X12_shuffle_0 (hZ : ZRN (ztb (tb_X12_shuffle E d mc ms)) cut G R T Z) (f : Nat) (L : ZLV) (st : List Value) (σ : ZHp) (n k w : Nat) : Z (f + 1) 0 L st σ n k w = s_aload 0 1 L st σ n k w (zk1 cut G (Z f)) G R T := zrs hZ rfl f L st σ n k w
theorem f_X12_shuffle_1 (hZ : ZRN (ztb (tb_X12_shuffle E d mc ms)) cut G R T Z) (f : Nat) (L : ZLV) (st : List Value) (σ : ZHp) (n k w : Nat) : Z (f + 1) 1 L st σ n k w = s_iload 1 2 L st σ n k w (zk1 cut G (Z f)) G R T := zrs hZ rfl f L st σ n k w
theorem f_X12_shuffle_2 (hZ : ZRN (ztb (tb_X12_shuffle E d mc ms)) cut G R T Z) (f : Nat) (L : ZLV) (st : List Value) (σ : ZHp) (n k w : Nat) : Z (f + 1) 2 L st σ n k w = s_callVT E d mc ms 11 MX12_checkMerchant 1 5 L st σ n k w (zk1 cut G (Z f)) G R T := zrs hZ rfl f L st σ n k w
theorem f_X12_shuffle_5 (hZ : ZRN (ztb (tb_X12_shuffle E d mc ms)) cut G R T Z) (f : Nat) (L : ZLV) (st : List Value) (σ : ZHp) (n k w : Nat) : Z (f + 1) 5 L st σ n k w = s_aload 0 6 L st σ n k w (zk1 cut G (Z f)) G R T := zrs hZ rfl f L st σ n k w
theorem f_X12_shuffle_6 (hZ : ZRN (ztb (tb_X12_shuffle E d mc ms)) cut G R T Z) (f : Nat) (L : ZLV) (st : List Value) (σ : ZHp) (n k w : Nat) : Z (f + 1) 6 L st σ n k w = s_getf 11 2 9 L st σ n k w (zk1 cut G (Z f)) G R T := zrs hZ rfl f L st σ n k w
theorem f_X12_shuffle_9 (hZ : ZRN (ztb (tb_X12_shuffle E d mc ms)) cut G R T Z) (f : Nat) (L : ZLV) (st : List Value) (σ : ZHp) (n k w : Nat) : Z (f + 1) 9 L st σ n k w = s_getf 1 0 12 L st σ n k w (zk1 cut G (Z f)) G R T := zrs hZ rfl f L st σ n k w
theorem f_X12_shuffle_12 (hZ : ZRN (ztb (tb_X12_shuffle E d mc ms)) cut G R T Z) (f : Nat) (L : ZLV) (st : List Value) (σ : ZHp) (n k w : Nat) : Z (f + 1) 12 L st σ n k w = s_iload 1 13 L st σ n k w (zk1 cut G (Z f)) G R T := zrs hZ rfl f L st σ n k w
theorem f_X12_shuffle_13 (hZ : ZRN (ztb (tb_X12_shuffle E d mc ms)) cut G R T Z) (f : Nat) (L : ZLV) (st : List Value) (σ : ZHp) (n k w : Nat) : Z (f + 1) 13 L st σ n k w = s_callV E d mc ms 3 MX4_trader 1 16 L st σ n k w (zk1 cut G (Z f)) G R T := zrs hZ rfl f L st σ n k w
theorem f_X12_shuffle_16 (hZ : ZRN (ztb (tb_X12_shuffle E d mc ms)) cut G R T Z) (f : Nat) (L : ZLV) (st : List Value) (σ : ZHp) (n k w : Nat) : Z (f + 1) 16 L st σ n k w = s_astore 2 17 L st σ n k w (zk1 cut G (Z f)) G R T := zrs hZ rfl f L st σ n k w
theorem f_X12_shuffle_17 (hZ : ZRN (ztb (tb_X12_shuffle E d mc ms)) cut G R T Z) (f : Nat) (L : ZLV) (st : List Value) (σ : ZHp) (n k w : Nat) : Z (f + 1) 17 L st σ n k w = s_aload 2 18 L st σ n k w (zk1 cut G (Z f)) G R T := zrs hZ rfl f L st σ n k w
theorem f_X12_shuffle_18 (hZ : ZRN (ztb (tb_X12_shuffle E d mc ms)) cut G R T Z) (f : Nat) (L : ZLV) (st : List Value) (σ : ZHp) (n k w : Nat) : Z (f + 1) 18 L st σ n k w = s_callV E d mc ms 10 MX11_mixDiscards 0 21 L st σ n k w (zk1 cut G (Z f)) G R T := zrs hZ rfl f L st σ n k w
theorem f_X12_shuffle_21 (hZ : ZRN (ztb (tb_X12_shuffle E d mc ms)) cut G R T Z) (f : Nat) (L : ZLV) (st : List Value) (σ : ZHp) (n k w : Nat) : Z (f + 1) 21 L st σ n k w = s_aload 2 22 L st σ n k w (zk1 cut G (Z f)) G R T := zrs hZ rfl f L st σ n k w
theorem f_X12_shuffle_22 (hZ : ZRN (ztb (tb_X12_shuffle E d mc ms)) cut G R T Z) (f : Nat) (L : ZLV) (st : List Value) (σ : ZHp) (n k w : Nat) : Z (f + 1) 22 L st σ n k w = s_callV E d mc ms 10 MX11_deckSize 0 25 L st σ n k w (zk1 cut G (Z f)) G R T := zrs hZ rfl f L st σ n k w
theorem f_X12_shuffle_25 (hZ : ZRN (ztb (tb_X12_shuffle E d mc ms)) cut G R T Z) (f : Nat) (L : ZLV) (st : List Value) (σ : ZHp) (n k w : Nat) : Z (f + 1) 25 L st σ n k w = s_ireturn L st σ n k w (zk1 cut G (Z f)) G R T := zrs hZ rfl f L st σ n k w
theorem f_X12_play_0 (hZ : ZRN (ztb (tb_X12_play E d mc ms)) cut G R T Z) (f : Nat) (L : ZLV) (st : List Value) (σ : ZHp) (n k w : Nat) : Z (f + 1) 0 L st σ n k w = s_aload 0 1 L st σ n k w (zk1 cut G (Z f)) G R T := zrs hZ rfl f L st σ n k w
theorem f_X12_play_1 (hZ : ZRN (ztb (tb_X12_play E d mc ms)) cut G R T Z) (f : Nat) (L : ZLV) (st : List Value) (σ : ZHp) (n k w : Nat) : Z (f + 1) 1 L st σ n k w = s_iload 1 2 L st σ n k w (zk1 cut G (Z f)) G R T := zrs hZ rfl f L st σ n k w
theorem f_X12_play_2 (hZ : ZRN (ztb (tb_X12_play E d mc ms)) cut G R T Z) (f : Nat) (L : ZLV) (st : List Value) (σ : ZHp) (n k w : Nat) : Z (f + 1) 2 L st σ n k w = s_const (.int (40)) 4 L st σ n k w (zk1 cut G (Z f)) G R T := zrs hZ rfl f L st σ n k w
theorem f_X12_play_4 (hZ : ZRN (ztb (tb_X12_play E d mc ms)) cut G R T Z) (f : Nat) (L : ZLV) (st : List Value) (σ : ZHp) (n k w : Nat) : Z (f + 1) 4 L st σ n k w = s_callVT E d mc ms 11 MX12_checkRounds 2 7 L st σ n k w (zk1 cut G (Z f)) G R T := zrs hZ rfl f L st σ n k w
theorem f_X12_play_7 (hZ : ZRN (ztb (tb_X12_play E d mc ms)) cut G R T Z) (f : Nat) (L : ZLV) (st : List Value) (σ : ZHp) (n k w : Nat) : Z (f + 1) 7 L st σ n k w = s_aload 0 8 L st σ n k w (zk1 cut G (Z f)) G R T := zrs hZ rfl f L st σ n k w
theorem f_X12_play_8 (hZ : ZRN (ztb (tb_X12_play E d mc ms)) cut G R T Z) (f : Nat) (L : ZLV) (st : List Value) (σ : ZHp) (n k w : Nat) : Z (f + 1) 8 L st σ n k w = s_getf 11 2 11 L st σ n k w (zk1 cut G (Z f)) G R T := zrs hZ rfl f L st σ n k w
theorem f_X12_play_11 (hZ : ZRN (ztb (tb_X12_play E d mc ms)) cut G R T Z) (f : Nat) (L : ZLV) (st : List Value) (σ : ZHp) (n k w : Nat) : Z (f + 1) 11 L st σ n k w = s_iload 1 12 L st σ n k w (zk1 cut G (Z f)) G R T := zrs hZ rfl f L st σ n k w
theorem f_X12_play_12 (hZ : ZRN (ztb (tb_X12_play E d mc ms)) cut G R T Z) (f : Nat) (L : ZLV) (st : List Value) (σ : ZHp) (n k w : Nat) : Z (f + 1) 12 L st σ n k w = s_const (.int (-1)) 13 L st σ n k w (zk1 cut G (Z f)) G R T := zrs hZ rfl f L st σ n k w
theorem f_X12_play_13 (hZ : ZRN (ztb (tb_X12_play E d mc ms)) cut G R T Z) (f : Nat) (L : ZLV) (st : List Value) (σ : ZHp) (n k w : Nat) : Z (f + 1) 13 L st σ n k w = s_callV E d mc ms 1 MX2_playRounds 2 16 L st σ n k w (zk1 cut G (Z f)) G R T := zrs hZ rfl f L st σ n k w
theorem f_X12_play_16 (hZ : ZRN (ztb (tb_X12_play E d mc ms)) cut G R T Z) (f : Nat) (L : ZLV) (st : List Value) (σ : ZHp) (n k w : Nat) : Z (f + 1) 16 L st σ n k w = s_ireturn L st σ n k w (zk1 cut G (Z f)) G R T := zrs hZ rfl f L st σ n k w
theorem f_X12_next_0 (hZ : ZRN (ztb (tb_X12_next E d mc ms)) cut G R T Z) (f : Nat) (L : ZLV) (st : List Value) (σ : ZHp) (n k w : Nat) : Z (f + 1) 0 L st σ n k w = s_aload 0 1 L st σ n k w (zk1 cut G (Z f)) G R T := zrs hZ rfl f L st σ n k w
theorem f_X12_next_1 (hZ : ZRN (ztb (tb_X12_next E d mc ms)) cut G R T Z) (f : Nat) (L : ZLV) (st : List Value) (σ : ZHp) (n k w : Nat) : Z (f + 1) 1 L st σ n k w = s_iload 1 2 L st σ n k w (zk1 cut G (Z f)) G R T := zrs hZ rfl f L st σ n k w
theorem f_X12_next_2 (hZ : ZRN (ztb (tb_X12_next E d mc ms)) cut G R T Z) (f : Nat) (L : ZLV) (st : List Value) (σ : ZHp) (n k w : Nat) : Z (f + 1) 2 L st σ n k w = s_callVT E d mc ms 11 MX12_checkMerchant 1 5 L st σ n k w (zk1 cut G (Z f)) G R T := zrs hZ rfl f L st σ n k w
theorem f_X12_next_5 (hZ : ZRN (ztb (tb_X12_next E d mc ms)) cut G R T Z) (f : Nat) (L : ZLV) (st : List Value) (σ : ZHp) (n k w : Nat) : Z (f + 1) 5 L st σ n k w = s_aload 0 6 L st σ n k w (zk1 cut G (Z f)) G R T := zrs hZ rfl f L st σ n k w
theorem f_X12_next_6 (hZ : ZRN (ztb (tb_X12_next E d mc ms)) cut G R T Z) (f : Nat) (L : ZLV) (st : List Value) (σ : ZHp) (n k w : Nat) : Z (f + 1) 6 L st σ n k w = s_iload 2 7 L st σ n k w (zk1 cut G (Z f)) G R T := zrs hZ rfl f L st σ n k w
theorem f_X12_next_7 (hZ : ZRN (ztb (tb_X12_next E d mc ms)) cut G R T Z) (f : Nat) (L : ZLV) (st : List Value) (σ : ZHp) (n k w : Nat) : Z (f + 1) 7 L st σ n k w = s_const (.int (4)) 8 L st σ n k w (zk1 cut G (Z f)) G R T := zrs hZ rfl f L st σ n k w
theorem f_X12_next_8 (hZ : ZRN (ztb (tb_X12_next E d mc ms)) cut G R T Z) (f : Nat) (L : ZLV) (st : List Value) (σ : ZHp) (n k w : Nat) : Z (f + 1) 8 L st σ n k w = s_callVT E d mc ms 11 MX12_checkWhat 2 11 L st σ n k w (zk1 cut G (Z f)) G R T := zrs hZ rfl f L st σ n k w
theorem f_X12_next_11 (hZ : ZRN (ztb (tb_X12_next E d mc ms)) cut G R T Z) (f : Nat) (L : ZLV) (st : List Value) (σ : ZHp) (n k w : Nat) : Z (f + 1) 11 L st σ n k w = s_aload 0 12 L st σ n k w (zk1 cut G (Z f)) G R T := zrs hZ rfl f L st σ n k w
theorem f_X12_next_12 (hZ : ZRN (ztb (tb_X12_next E d mc ms)) cut G R T Z) (f : Nat) (L : ZLV) (st : List Value) (σ : ZHp) (n k w : Nat) : Z (f + 1) 12 L st σ n k w = s_getf 11 3 15 L st σ n k w (zk1 cut G (Z f)) G R T := zrs hZ rfl f L st σ n k w
theorem f_X12_next_15 (hZ : ZRN (ztb (tb_X12_next E d mc ms)) cut G R T Z) (f : Nat) (L : ZLV) (st : List Value) (σ : ZHp) (n k w : Nat) : Z (f + 1) 15 L st σ n k w = s_getf 1 0 18 L st σ n k w (zk1 cut G (Z f)) G R T := zrs hZ rfl f L st σ n k w
theorem f_X12_next_18 (hZ : ZRN (ztb (tb_X12_next E d mc ms)) cut G R T Z) (f : Nat) (L : ZLV) (st : List Value) (σ : ZHp) (n k w : Nat) : Z (f + 1) 18 L st σ n k w = s_aload 0 19 L st σ n k w (zk1 cut G (Z f)) G R T := zrs hZ rfl f L st σ n k w
theorem f_X12_next_19 (hZ : ZRN (ztb (tb_X12_next E d mc ms)) cut G R T Z) (f : Nat) (L : ZLV) (st : List Value) (σ : ZHp) (n k w : Nat) : Z (f + 1) 19 L st σ n k w = s_getf 11 2 22 L st σ n k w (zk1 cut G (Z f)) G R T := zrs hZ rfl f L st σ n k w
theorem f_X12_next_22 (hZ : ZRN (ztb (tb_X12_next E d mc ms)) cut G R T Z) (f : Nat) (L : ZLV) (st : List Value) (σ : ZHp) (n k w : Nat) : Z (f + 1) 22 L st σ n k w = s_getf 1 0 25 L st σ n k w (zk1 cut G (Z f)) G R T := zrs hZ rfl f L st σ n k w
theorem f_X12_next_25 (hZ : ZRN (ztb (tb_X12_next E d mc ms)) cut G R T Z) (f : Nat) (L : ZLV) (st : List Value) (σ : ZHp) (n k w : Nat) : Z (f + 1) 25 L st σ n k w = s_callV E d mc ms 3 MX4_copy 1 28 L st σ n k w (zk1 cut G (Z f)) G R T := zrs hZ rfl f L st σ n k w
theorem f_X12_next_28 (hZ : ZRN (ztb (tb_X12_next E d mc ms)) cut G R T Z) (f : Nat) (L : ZLV) (st : List Value) (σ : ZHp) (n k w : Nat) : Z (f + 1) 28 L st σ n k w = s_aload 0 29 L st σ n k w (zk1 cut G (Z f)) G R T := zrs hZ rfl f L st σ n k w
theorem f_X12_next_29 (hZ : ZRN (ztb (tb_X12_next E d mc ms)) cut G R T Z) (f : Nat) (L : ZLV) (st : List Value) (σ : ZHp) (n k w : Nat) : Z (f + 1) 29 L st σ n k w = s_getf 11 3 32 L st σ n k w (zk1 cut G (Z f)) G R T := zrs hZ rfl f L st σ n k w
theorem f_X12_next_32 (hZ : ZRN (ztb (tb_X12_next E d mc ms)) cut G R T Z) (f : Nat) (L : ZLV) (st : List Value) (σ : ZHp) (n k w : Nat) : Z (f + 1) 32 L st σ n k w = s_iload 1 33 L st σ n k w (zk1 cut G (Z f)) G R T := zrs hZ rfl f L st σ n k w
theorem f_X12_next_33 (hZ : ZRN (ztb (tb_X12_next E d mc ms)) cut G R T Z) (f : Nat) (L : ZLV) (st : List Value) (σ : ZHp) (n k w : Nat) : Z (f + 1) 33 L st σ n k w = s_const (.int (-1)) 34 L st σ n k w (zk1 cut G (Z f)) G R T := zrs hZ rfl f L st σ n k w
theorem f_X12_next_34 (hZ : ZRN (ztb (tb_X12_next E d mc ms)) cut G R T Z) (f : Nat) (L : ZLV) (st : List Value) (σ : ZHp) (n k w : Nat) : Z (f + 1) 34 L st σ n k w = s_callV E d mc ms 1 MX2_takeTurn 2 37 L st σ n k w (zk1 cut G (Z f)) G R T := zrs hZ rfl f L st σ n k w
theorem f_X12_next_37 (hZ : ZRN (ztb (tb_X12_next E d mc ms)) cut G R T Z) (f : Nat) (L : ZLV) (st : List Value) (σ : ZHp) (n k w : Nat) : Z (f + 1) 37 L st σ n k w = s_aload 0 38 L st σ n k w (zk1 cut G (Z f)) G R T := zrs hZ rfl f L st σ n k w
theorem f_X12_next_38 (hZ : ZRN (ztb (tb_X12_next E d mc ms)) cut G R T Z) (f : Nat) (L : ZLV) (st : List Value) (σ : ZHp) (n k w : Nat) : Z (f + 1) 38 L st σ n k w = s_getf 11 3 41 L st σ n k w (zk1 cut G (Z f)) G R T := zrs hZ rfl f L st σ n k w
theorem f_X12_next_41 (hZ : ZRN (ztb (tb_X12_next E d mc ms)) cut G R T Z) (f : Nat) (L : ZLV) (st : List Value) (σ : ZHp) (n k w : Nat) : Z (f + 1) 41 L st σ n k w = s_iload 2 42 L st σ n k w (zk1 cut G (Z f)) G R T := zrs hZ rfl f L st σ n k w
theorem f_X12_next_42 (hZ : ZRN (ztb (tb_X12_next E d mc ms)) cut G R T Z) (f : Nat) (L : ZLV) (st : List Value) (σ : ZHp) (n k w : Nat) : Z (f + 1) 42 L st σ n k w = s_callV E d mc ms 1 MX2_turnNumber 1 45 L st σ n k w (zk1 cut G (Z f)) G R T := zrs hZ rfl f L st σ n k w
theorem f_X12_next_45 (hZ : ZRN (ztb (tb_X12_next E d mc ms)) cut G R T Z) (f : Nat) (L : ZLV) (st : List Value) (σ : ZHp) (n k w : Nat) : Z (f + 1) 45 L st σ n k w = s_ireturn L st σ n k w (zk1 cut G (Z f)) G R T := zrs hZ rfl f L st σ n k w
theorem f_X12_foresee_0 (hZ : ZRN (ztb (tb_X12_foresee E d mc ms)) cut G R T Z) (f : Nat) (L : ZLV) (st : List Value) (σ : ZHp) (n k w : Nat) : Z (f + 1) 0 L st σ n k w = s_aload 0 1 L st σ n k w (zk1 cut G (Z f)) G R T := zrs hZ rfl f L st σ n k w
theorem f_X12_foresee_1 (hZ : ZRN (ztb (tb_X12_foresee E d mc ms)) cut G R T Z) (f : Nat) (L : ZLV) (st : List Value) (σ : ZHp) (n k w : Nat) : Z (f + 1) 1 L st σ n k w = s_iload 1 2 L st σ n k w (zk1 cut G (Z f)) G R T := zrs hZ rfl f L st σ n k w
theorem f_X12_foresee_2 (hZ : ZRN (ztb (tb_X12_foresee E d mc ms)) cut G R T Z) (f : Nat) (L : ZLV) (st : List Value) (σ : ZHp) (n k w : Nat) : Z (f + 1) 2 L st σ n k w = s_const (.int (40)) 4 L st σ n k w (zk1 cut G (Z f)) G R T := zrs hZ rfl f L st σ n k w
theorem f_X12_foresee_4 (hZ : ZRN (ztb (tb_X12_foresee E d mc ms)) cut G R T Z) (f : Nat) (L : ZLV) (st : List Value) (σ : ZHp) (n k w : Nat) : Z (f + 1) 4 L st σ n k w = s_callVT E d mc ms 11 MX12_checkRounds 2 7 L st σ n k w (zk1 cut G (Z f)) G R T := zrs hZ rfl f L st σ n k w
theorem f_X12_foresee_7 (hZ : ZRN (ztb (tb_X12_foresee E d mc ms)) cut G R T Z) (f : Nat) (L : ZLV) (st : List Value) (σ : ZHp) (n k w : Nat) : Z (f + 1) 7 L st σ n k w = s_iload 2 8 L st σ n k w (zk1 cut G (Z f)) G R T := zrs hZ rfl f L st σ n k w
theorem f_X12_foresee_8 (hZ : ZRN (ztb (tb_X12_foresee E d mc ms)) cut G R T Z) (f : Nat) (L : ZLV) (st : List Value) (σ : ZHp) (n k w : Nat) : Z (f + 1) 8 L st σ n k w = s_if_eq 32 11 L st σ n k w (zk1 cut G (Z f)) G R T := zrs hZ rfl f L st σ n k w
theorem f_X12_foresee_11 (hZ : ZRN (ztb (tb_X12_foresee E d mc ms)) cut G R T Z) (f : Nat) (L : ZLV) (st : List Value) (σ : ZHp) (n k w : Nat) : Z (f + 1) 11 L st σ n k w = s_iload 2 12 L st σ n k w (zk1 cut G (Z f)) G R T := zrs hZ rfl f L st σ n k w
theorem f_X12_foresee_12 (hZ : ZRN (ztb (tb_X12_foresee E d mc ms)) cut G R T Z) (f : Nat) (L : ZLV) (st : List Value) (σ : ZHp) (n k w : Nat) : Z (f + 1) 12 L st σ n k w = s_const (.int (4)) 13 L st σ n k w (zk1 cut G (Z f)) G R T := zrs hZ rfl f L st σ n k w
theorem f_X12_foresee_13 (hZ : ZRN (ztb (tb_X12_foresee E d mc ms)) cut G R T Z) (f : Nat) (L : ZLV) (st : List Value) (σ : ZHp) (n k w : Nat) : Z (f + 1) 13 L st σ n k w = s_icmp_lt 22 16 L st σ n k w (zk1 cut G (Z f)) G R T := zrs hZ rfl f L st σ n k w
theorem f_X12_foresee_16 (hZ : ZRN (ztb (tb_X12_foresee E d mc ms)) cut G R T Z) (f : Nat) (L : ZLV) (st : List Value) (σ : ZHp) (n k w : Nat) : Z (f + 1) 16 L st σ n k w = s_iload 2 17 L st σ n k w (zk1 cut G (Z f)) G R T := zrs hZ rfl f L st σ n k w
theorem f_X12_foresee_17 (hZ : ZRN (ztb (tb_X12_foresee E d mc ms)) cut G R T Z) (f : Nat) (L : ZLV) (st : List Value) (σ : ZHp) (n k w : Nat) : Z (f + 1) 17 L st σ n k w = s_const (.int (7)) 19 L st σ n k w (zk1 cut G (Z f)) G R T := zrs hZ rfl f L st σ n k w
theorem f_X12_foresee_19 (hZ : ZRN (ztb (tb_X12_foresee E d mc ms)) cut G R T Z) (f : Nat) (L : ZLV) (st : List Value) (σ : ZHp) (n k w : Nat) : Z (f + 1) 19 L st σ n k w = s_icmp_le 32 22 L st σ n k w (zk1 cut G (Z f)) G R T := zrs hZ rfl f L st σ n k w
theorem f_X12_foresee_22 (hZ : ZRN (ztb (tb_X12_foresee E d mc ms)) cut G R T Z) (f : Nat) (L : ZLV) (st : List Value) (σ : ZHp) (n k w : Nat) : Z (f + 1) 22 L st σ n k w = s_throw "java/lang/IndexOutOfBoundsException" L st σ n k w (zk1 cut G (Z f)) G R T := zrs hZ rfl f L st σ n k w
theorem f_X12_foresee_32 (hZ : ZRN (ztb (tb_X12_foresee E d mc ms)) cut G R T Z) (f : Nat) (L : ZLV) (st : List Value) (σ : ZHp) (n k w : Nat) : Z (f + 1) 32 L st σ n k w = s_aload 0 33 L st σ n k w (zk1 cut G (Z f)) G R T := zrs hZ rfl f L st σ n k w
theorem f_X12_foresee_33 (hZ : ZRN (ztb (tb_X12_foresee E d mc ms)) cut G R T Z) (f : Nat) (L : ZLV) (st : List Value) (σ : ZHp) (n k w : Nat) : Z (f + 1) 33 L st σ n k w = s_getf 11 3 36 L st σ n k w (zk1 cut G (Z f)) G R T := zrs hZ rfl f L st σ n k w
theorem f_X12_foresee_36 (hZ : ZRN (ztb (tb_X12_foresee E d mc ms)) cut G R T Z) (f : Nat) (L : ZLV) (st : List Value) (σ : ZHp) (n k w : Nat) : Z (f + 1) 36 L st σ n k w = s_getf 1 0 39 L st σ n k w (zk1 cut G (Z f)) G R T := zrs hZ rfl f L st σ n k w
theorem f_X12_foresee_39 (hZ : ZRN (ztb (tb_X12_foresee E d mc ms)) cut G R T Z) (f : Nat) (L : ZLV) (st : List Value) (σ : ZHp) (n k w : Nat) : Z (f + 1) 39 L st σ n k w = s_aload 0 40 L st σ n k w (zk1 cut G (Z f)) G R T := zrs hZ rfl f L st σ n k w
theorem f_X12_foresee_40 (hZ : ZRN (ztb (tb_X12_foresee E d mc ms)) cut G R T Z) (f : Nat) (L : ZLV) (st : List Value) (σ : ZHp) (n k w : Nat) : Z (f + 1) 40 L st σ n k w = s_getf 11 2 43 L st σ n k w (zk1 cut G (Z f)) G R T := zrs hZ rfl f L st σ n k w
theorem f_X12_foresee_43 (hZ : ZRN (ztb (tb_X12_foresee E d mc ms)) cut G R T Z) (f : Nat) (L : ZLV) (st : List Value) (σ : ZHp) (n k w : Nat) : Z (f + 1) 43 L st σ n k w = s_getf 1 0 46 L st σ n k w (zk1 cut G (Z f)) G R T := zrs hZ rfl f L st σ n k w
theorem f_X12_foresee_46 (hZ : ZRN (ztb (tb_X12_foresee E d mc ms)) cut G R T Z) (f : Nat) (L : ZLV) (st : List Value) (σ : ZHp) (n k w : Nat) : Z (f + 1) 46 L st σ n k w = s_callV E d mc ms 3 MX4_copy 1 49 L st σ n k w (zk1 cut G (Z f)) G R T := zrs hZ rfl f L st σ n k w
theorem f_X12_foresee_49 (hZ : ZRN (ztb (tb_X12_foresee E d mc ms)) cut G R T Z) (f : Nat) (L : ZLV) (st : List Value) (σ : ZHp) (n k w : Nat) : Z (f + 1) 49 L st σ n k w = s_aload 0 50 L st σ n k w (zk1 cut G (Z f)) G R T := zrs hZ rfl f L st σ n k w
theorem f_X12_foresee_50 (hZ : ZRN (ztb (tb_X12_foresee E d mc ms)) cut G R T Z) (f : Nat) (L : ZLV) (st : List Value) (σ : ZHp) (n k w : Nat) : Z (f + 1) 50 L st σ n k w = s_getf 11 3 53 L st σ n k w (zk1 cut G (Z f)) G R T := zrs hZ rfl f L st σ n k w
theorem f_X12_foresee_53 (hZ : ZRN (ztb (tb_X12_foresee E d mc ms)) cut G R T Z) (f : Nat) (L : ZLV) (st : List Value) (σ : ZHp) (n k w : Nat) : Z (f + 1) 53 L st σ n k w = s_iload 1 54 L st σ n k w (zk1 cut G (Z f)) G R T := zrs hZ rfl f L st σ n k w
theorem f_X12_foresee_54 (hZ : ZRN (ztb (tb_X12_foresee E d mc ms)) cut G R T Z) (f : Nat) (L : ZLV) (st : List Value) (σ : ZHp) (n k w : Nat) : Z (f + 1) 54 L st σ n k w = s_const (.int (-1)) 55 L st σ n k w (zk1 cut G (Z f)) G R T := zrs hZ rfl f L st σ n k w
theorem f_X12_foresee_55 (hZ : ZRN (ztb (tb_X12_foresee E d mc ms)) cut G R T Z) (f : Nat) (L : ZLV) (st : List Value) (σ : ZHp) (n k w : Nat) : Z (f + 1) 55 L st σ n k w = s_callV E d mc ms 1 MX2_playRounds 2 58 L st σ n k w (zk1 cut G (Z f)) G R T := zrs hZ rfl f L st σ n k w
theorem f_X12_foresee_58 (hZ : ZRN (ztb (tb_X12_foresee E d mc ms)) cut G R T Z) (f : Nat) (L : ZLV) (st : List Value) (σ : ZHp) (n k w : Nat) : Z (f + 1) 58 L st σ n k w = s_pop 59 L st σ n k w (zk1 cut G (Z f)) G R T := zrs hZ rfl f L st σ n k w
theorem f_X12_foresee_59 (hZ : ZRN (ztb (tb_X12_foresee E d mc ms)) cut G R T Z) (f : Nat) (L : ZLV) (st : List Value) (σ : ZHp) (n k w : Nat) : Z (f + 1) 59 L st σ n k w = s_iload 2 60 L st σ n k w (zk1 cut G (Z f)) G R T := zrs hZ rfl f L st σ n k w
theorem f_X12_foresee_60 (hZ : ZRN (ztb (tb_X12_foresee E d mc ms)) cut G R T Z) (f : Nat) (L : ZLV) (st : List Value) (σ : ZHp) (n k w : Nat) : Z (f + 1) 60 L st σ n k w = s_if_ne 76 63 L st σ n k w (zk1 cut G (Z f)) G R T := zrs hZ rfl f L st σ n k w
theorem f_X12_foresee_63 (hZ : ZRN (ztb (tb_X12_foresee E d mc ms)) cut G R T Z) (f : Nat) (L : ZLV) (st : List Value) (σ : ZHp) (n k w : Nat) : Z (f + 1) 63 L st σ n k w = s_aload 0 64 L st σ n k w (zk1 cut G (Z f)) G R T := zrs hZ rfl f L st σ n k w
theorem f_X12_foresee_64 (hZ : ZRN (ztb (tb_X12_foresee E d mc ms)) cut G R T Z) (f : Nat) (L : ZLV) (st : List Value) (σ : ZHp) (n k w : Nat) : Z (f + 1) 64 L st σ n k w = s_getf 11 3 67 L st σ n k w (zk1 cut G (Z f)) G R T := zrs hZ rfl f L st σ n k w
theorem f_X12_foresee_67 (hZ : ZRN (ztb (tb_X12_foresee E d mc ms)) cut G R T Z) (f : Nat) (L : ZLV) (st : List Value) (σ : ZHp) (n k w : Nat) : Z (f + 1) 67 L st σ n k w = s_getf 1 0 70 L st σ n k w (zk1 cut G (Z f)) G R T := zrs hZ rfl f L st σ n k w
theorem f_X12_foresee_70 (hZ : ZRN (ztb (tb_X12_foresee E d mc ms)) cut G R T Z) (f : Nat) (L : ZLV) (st : List Value) (σ : ZHp) (n k w : Nat) : Z (f + 1) 70 L st σ n k w = s_callV E d mc ms 3 MX4_worthiest 0 73 L st σ n k w (zk1 cut G (Z f)) G R T := zrs hZ rfl f L st σ n k w
theorem f_X12_foresee_73 (hZ : ZRN (ztb (tb_X12_foresee E d mc ms)) cut G R T Z) (f : Nat) (L : ZLV) (st : List Value) (σ : ZHp) (n k w : Nat) : Z (f + 1) 73 L st σ n k w = s_goto 87 L st σ n k w (zk1 cut G (Z f)) G R T := zrs hZ rfl f L st σ n k w
theorem f_X12_foresee_76 (hZ : ZRN (ztb (tb_X12_foresee E d mc ms)) cut G R T Z) (f : Nat) (L : ZLV) (st : List Value) (σ : ZHp) (n k w : Nat) : Z (f + 1) 76 L st σ n k w = s_aload 0 77 L st σ n k w (zk1 cut G (Z f)) G R T := zrs hZ rfl f L st σ n k w
theorem f_X12_foresee_77 (hZ : ZRN (ztb (tb_X12_foresee E d mc ms)) cut G R T Z) (f : Nat) (L : ZLV) (st : List Value) (σ : ZHp) (n k w : Nat) : Z (f + 1) 77 L st σ n k w = s_getf 11 3 80 L st σ n k w (zk1 cut G (Z f)) G R T := zrs hZ rfl f L st σ n k w
theorem f_X12_foresee_80 (hZ : ZRN (ztb (tb_X12_foresee E d mc ms)) cut G R T Z) (f : Nat) (L : ZLV) (st : List Value) (σ : ZHp) (n k w : Nat) : Z (f + 1) 80 L st σ n k w = s_getf 1 0 83 L st σ n k w (zk1 cut G (Z f)) G R T := zrs hZ rfl f L st σ n k w
theorem f_X12_foresee_83 (hZ : ZRN (ztb (tb_X12_foresee E d mc ms)) cut G R T Z) (f : Nat) (L : ZLV) (st : List Value) (σ : ZHp) (n k w : Nat) : Z (f + 1) 83 L st σ n k w = s_iload 2 84 L st σ n k w (zk1 cut G (Z f)) G R T := zrs hZ rfl f L st σ n k w
theorem f_X12_foresee_84 (hZ : ZRN (ztb (tb_X12_foresee E d mc ms)) cut G R T Z) (f : Nat) (L : ZLV) (st : List Value) (σ : ZHp) (n k w : Nat) : Z (f + 1) 84 L st σ n k w = s_callV E d mc ms 3 MX4_number 1 87 L st σ n k w (zk1 cut G (Z f)) G R T := zrs hZ rfl f L st σ n k w
theorem f_X12_foresee_87 (hZ : ZRN (ztb (tb_X12_foresee E d mc ms)) cut G R T Z) (f : Nat) (L : ZLV) (st : List Value) (σ : ZHp) (n k w : Nat) : Z (f + 1) 87 L st σ n k w = s_ireturn L st σ n k w (zk1 cut G (Z f)) G R T := zrs hZ rfl f L st σ n k w
theorem f_X12_missed_0 (hZ : ZRN (ztb (tb_X12_missed E d mc ms)) cut G R T Z) (f : Nat) (L : ZLV) (st : List Value) (σ : ZHp) (n k w : Nat) : Z (f + 1) 0 L st σ n k w = s_aload 0 1 L st σ n k w (zk1 cut G (Z f)) G R T := zrs hZ rfl f L st σ n k w
theorem f_X12_missed_1 (hZ : ZRN (ztb (tb_X12_missed E d mc ms)) cut G R T Z) (f : Nat) (L : ZLV) (st : List Value) (σ : ZHp) (n k w : Nat) : Z (f + 1) 1 L st σ n k w = s_iload 1 2 L st σ n k w (zk1 cut G (Z f)) G R T := zrs hZ rfl f L st σ n k w
theorem f_X12_missed_2 (hZ : ZRN (ztb (tb_X12_missed E d mc ms)) cut G R T Z) (f : Nat) (L : ZLV) (st : List Value) (σ : ZHp) (n k w : Nat) : Z (f + 1) 2 L st σ n k w = s_callVT E d mc ms 11 MX12_checkMerchant 1 5 L st σ n k w (zk1 cut G (Z f)) G R T := zrs hZ rfl f L st σ n k w
theorem f_X12_missed_5 (hZ : ZRN (ztb (tb_X12_missed E d mc ms)) cut G R T Z) (f : Nat) (L : ZLV) (st : List Value) (σ : ZHp) (n k w : Nat) : Z (f + 1) 5 L st σ n k w = s_aload 0 6 L st σ n k w (zk1 cut G (Z f)) G R T := zrs hZ rfl f L st σ n k w
theorem f_X12_missed_6 (hZ : ZRN (ztb (tb_X12_missed E d mc ms)) cut G R T Z) (f : Nat) (L : ZLV) (st : List Value) (σ : ZHp) (n k w : Nat) : Z (f + 1) 6 L st σ n k w = s_iload 2 7 L st σ n k w (zk1 cut G (Z f)) G R T := zrs hZ rfl f L st σ n k w
theorem f_X12_missed_7 (hZ : ZRN (ztb (tb_X12_missed E d mc ms)) cut G R T Z) (f : Nat) (L : ZLV) (st : List Value) (σ : ZHp) (n k w : Nat) : Z (f + 1) 7 L st σ n k w = s_const (.int (20)) 9 L st σ n k w (zk1 cut G (Z f)) G R T := zrs hZ rfl f L st σ n k w
theorem f_X12_missed_9 (hZ : ZRN (ztb (tb_X12_missed E d mc ms)) cut G R T Z) (f : Nat) (L : ZLV) (st : List Value) (σ : ZHp) (n k w : Nat) : Z (f + 1) 9 L st σ n k w = s_callVT E d mc ms 11 MX12_checkRounds 2 12 L st σ n k w (zk1 cut G (Z f)) G R T := zrs hZ rfl f L st σ n k w
theorem f_X12_missed_12 (hZ : ZRN (ztb (tb_X12_missed E d mc ms)) cut G R T Z) (f : Nat) (L : ZLV) (st : List Value) (σ : ZHp) (n k w : Nat) : Z (f + 1) 12 L st σ n k w = s_aload 0 13 L st σ n k w (zk1 cut G (Z f)) G R T := zrs hZ rfl f L st σ n k w
theorem f_X12_missed_13 (hZ : ZRN (ztb (tb_X12_missed E d mc ms)) cut G R T Z) (f : Nat) (L : ZLV) (st : List Value) (σ : ZHp) (n k w : Nat) : Z (f + 1) 13 L st σ n k w = s_getf 11 2 16 L st σ n k w (zk1 cut G (Z f)) G R T := zrs hZ rfl f L st σ n k w
theorem f_X12_missed_16 (hZ : ZRN (ztb (tb_X12_missed E d mc ms)) cut G R T Z) (f : Nat) (L : ZLV) (st : List Value) (σ : ZHp) (n k w : Nat) : Z (f + 1) 16 L st σ n k w = s_getf 1 0 19 L st σ n k w (zk1 cut G (Z f)) G R T := zrs hZ rfl f L st σ n k w
theorem f_X12_missed_19 (hZ : ZRN (ztb (tb_X12_missed E d mc ms)) cut G R T Z) (f : Nat) (L : ZLV) (st : List Value) (σ : ZHp) (n k w : Nat) : Z (f + 1) 19 L st σ n k w = s_getf 3 5 22 L st σ n k w (zk1 cut G (Z f)) G R T := zrs hZ rfl f L st σ n k w
theorem f_X12_missed_22 (hZ : ZRN (ztb (tb_X12_missed E d mc ms)) cut G R T Z) (f : Nat) (L : ZLV) (st : List Value) (σ : ZHp) (n k w : Nat) : Z (f + 1) 22 L st σ n k w = s_astore 3 23 L st σ n k w (zk1 cut G (Z f)) G R T := zrs hZ rfl f L st σ n k w
theorem f_X12_missed_23 (hZ : ZRN (ztb (tb_X12_missed E d mc ms)) cut G R T Z) (f : Nat) (L : ZLV) (st : List Value) (σ : ZHp) (n k w : Nat) : Z (f + 1) 23 L st σ n k w = s_const (.int (-1)) 24 L st σ n k w (zk1 cut G (Z f)) G R T := zrs hZ rfl f L st σ n k w
theorem f_X12_missed_24 (hZ : ZRN (ztb (tb_X12_missed E d mc ms)) cut G R T Z) (f : Nat) (L : ZLV) (st : List Value) (σ : ZHp) (n k w : Nat) : Z (f + 1) 24 L st σ n k w = s_istore 4 26 L st σ n k w (zk1 cut G (Z f)) G R T := zrs hZ rfl f L st σ n k w
theorem f_X12_missed_26 (hZ : ZRN (ztb (tb_X12_missed E d mc ms)) cut G R T Z) (f : Nat) (L : ZLV) (st : List Value) (σ : ZHp) (n k w : Nat) : Z (f + 1) 26 L st σ n k w = s_const (.int (0)) 27 L st σ n k w (zk1 cut G (Z f)) G R T := zrs hZ rfl f L st σ n k w
theorem f_X12_missed_27 (hZ : ZRN (ztb (tb_X12_missed E d mc ms)) cut G R T Z) (f : Nat) (L : ZLV) (st : List Value) (σ : ZHp) (n k w : Nat) : Z (f + 1) 27 L st σ n k w = s_istore 5 29 L st σ n k w (zk1 cut G (Z f)) G R T := zrs hZ rfl f L st σ n k w
theorem f_X12_missed_29 (hZ : ZRN (ztb (tb_X12_missed E d mc ms)) cut G R T Z) (f : Nat) (L : ZLV) (st : List Value) (σ : ZHp) (n k w : Nat) : Z (f + 1) 29 L st σ n k w = s_const (.int (0)) 30 L st σ n k w (zk1 cut G (Z f)) G R T := zrs hZ rfl f L st σ n k w
theorem f_X12_missed_30 (hZ : ZRN (ztb (tb_X12_missed E d mc ms)) cut G R T Z) (f : Nat) (L : ZLV) (st : List Value) (σ : ZHp) (n k w : Nat) : Z (f + 1) 30 L st σ n k w = s_istore 6 32 L st σ n k w (zk1 cut G (Z f)) G R T := zrs hZ rfl f L st σ n k w
theorem f_X12_missed_32 (hZ : ZRN (ztb (tb_X12_missed E d mc ms)) cut G R T Z) (f : Nat) (L : ZLV) (st : List Value) (σ : ZHp) (n k w : Nat) : Z (f + 1) 32 L st σ n k w = s_iload 6 34 L st σ n k w (zk1 cut G (Z f)) G R T := zrs hZ rfl f L st σ n k w
theorem f_X12_missed_34 (hZ : ZRN (ztb (tb_X12_missed E d mc ms)) cut G R T Z) (f : Nat) (L : ZLV) (st : List Value) (σ : ZHp) (n k w : Nat) : Z (f + 1) 34 L st σ n k w = s_aload 3 35 L st σ n k w (zk1 cut G (Z f)) G R T := zrs hZ rfl f L st σ n k w
theorem f_X12_missed_35 (hZ : ZRN (ztb (tb_X12_missed E d mc ms)) cut G R T Z) (f : Nat) (L : ZLV) (st : List Value) (σ : ZHp) (n k w : Nat) : Z (f + 1) 35 L st σ n k w = s_getf 5 2 38 L st σ n k w (zk1 cut G (Z f)) G R T := zrs hZ rfl f L st σ n k w
theorem f_X12_missed_38 (hZ : ZRN (ztb (tb_X12_missed E d mc ms)) cut G R T Z) (f : Nat) (L : ZLV) (st : List Value) (σ : ZHp) (n k w : Nat) : Z (f + 1) 38 L st σ n k w = s_icmp_ge 122 41 L st σ n k w (zk1 cut G (Z f)) G R T := zrs hZ rfl f L st σ n k w
theorem f_X12_missed_41 (hZ : ZRN (ztb (tb_X12_missed E d mc ms)) cut G R T Z) (f : Nat) (L : ZLV) (st : List Value) (σ : ZHp) (n k w : Nat) : Z (f + 1) 41 L st σ n k w = s_aload 3 42 L st σ n k w (zk1 cut G (Z f)) G R T := zrs hZ rfl f L st σ n k w
theorem f_X12_missed_42 (hZ : ZRN (ztb (tb_X12_missed E d mc ms)) cut G R T Z) (f : Nat) (L : ZLV) (st : List Value) (σ : ZHp) (n k w : Nat) : Z (f + 1) 42 L st σ n k w = s_getf 5 11 45 L st σ n k w (zk1 cut G (Z f)) G R T := zrs hZ rfl f L st σ n k w
theorem f_X12_missed_45 (hZ : ZRN (ztb (tb_X12_missed E d mc ms)) cut G R T Z) (f : Nat) (L : ZLV) (st : List Value) (σ : ZHp) (n k w : Nat) : Z (f + 1) 45 L st σ n k w = s_iload 6 47 L st σ n k w (zk1 cut G (Z f)) G R T := zrs hZ rfl f L st σ n k w
theorem f_X12_missed_47 (hZ : ZRN (ztb (tb_X12_missed E d mc ms)) cut G R T Z) (f : Nat) (L : ZLV) (st : List Value) (σ : ZHp) (n k w : Nat) : Z (f + 1) 47 L st σ n k w = s_callV E d mc ms 4 MX5_get 1 50 L st σ n k w (zk1 cut G (Z f)) G R T := zrs hZ rfl f L st σ n k w
theorem f_X12_missed_50 (hZ : ZRN (ztb (tb_X12_missed E d mc ms)) cut G R T Z) (f : Nat) (L : ZLV) (st : List Value) (σ : ZHp) (n k w : Nat) : Z (f + 1) 50 L st σ n k w = s_iload 1 51 L st σ n k w (zk1 cut G (Z f)) G R T := zrs hZ rfl f L st σ n k w
theorem f_X12_missed_51 (hZ : ZRN (ztb (tb_X12_missed E d mc ms)) cut G R T Z) (f : Nat) (L : ZLV) (st : List Value) (σ : ZHp) (n k w : Nat) : Z (f + 1) 51 L st σ n k w = s_icmp_ne 116 54 L st σ n k w (zk1 cut G (Z f)) G R T := zrs hZ rfl f L st σ n k w
theorem f_X12_missed_54 (hZ : ZRN (ztb (tb_X12_missed E d mc ms)) cut G R T Z) (f : Nat) (L : ZLV) (st : List Value) (σ : ZHp) (n k w : Nat) : Z (f + 1) 54 L st σ n k w = s_aload 0 55 L st σ n k w (zk1 cut G (Z f)) G R T := zrs hZ rfl f L st σ n k w
theorem f_X12_missed_55 (hZ : ZRN (ztb (tb_X12_missed E d mc ms)) cut G R T Z) (f : Nat) (L : ZLV) (st : List Value) (σ : ZHp) (n k w : Nat) : Z (f + 1) 55 L st σ n k w = s_getf 11 3 58 L st σ n k w (zk1 cut G (Z f)) G R T := zrs hZ rfl f L st σ n k w
theorem f_X12_missed_58 (hZ : ZRN (ztb (tb_X12_missed E d mc ms)) cut G R T Z) (f : Nat) (L : ZLV) (st : List Value) (σ : ZHp) (n k w : Nat) : Z (f + 1) 58 L st σ n k w = s_getf 1 0 61 L st σ n k w (zk1 cut G (Z f)) G R T := zrs hZ rfl f L st σ n k w
theorem f_X12_missed_61 (hZ : ZRN (ztb (tb_X12_missed E d mc ms)) cut G R T Z) (f : Nat) (L : ZLV) (st : List Value) (σ : ZHp) (n k w : Nat) : Z (f + 1) 61 L st σ n k w = s_aload 0 62 L st σ n k w (zk1 cut G (Z f)) G R T := zrs hZ rfl f L st σ n k w
theorem f_X12_missed_62 (hZ : ZRN (ztb (tb_X12_missed E d mc ms)) cut G R T Z) (f : Nat) (L : ZLV) (st : List Value) (σ : ZHp) (n k w : Nat) : Z (f + 1) 62 L st σ n k w = s_getf 11 2 65 L st σ n k w (zk1 cut G (Z f)) G R T := zrs hZ rfl f L st σ n k w
theorem f_X12_missed_65 (hZ : ZRN (ztb (tb_X12_missed E d mc ms)) cut G R T Z) (f : Nat) (L : ZLV) (st : List Value) (σ : ZHp) (n k w : Nat) : Z (f + 1) 65 L st σ n k w = s_getf 1 0 68 L st σ n k w (zk1 cut G (Z f)) G R T := zrs hZ rfl f L st σ n k w
theorem f_X12_missed_68 (hZ : ZRN (ztb (tb_X12_missed E d mc ms)) cut G R T Z) (f : Nat) (L : ZLV) (st : List Value) (σ : ZHp) (n k w : Nat) : Z (f + 1) 68 L st σ n k w = s_callV E d mc ms 3 MX4_copy 1 71 L st σ n k w (zk1 cut G (Z f)) G R T := zrs hZ rfl f L st σ n k w
theorem f_X12_missed_71 (hZ : ZRN (ztb (tb_X12_missed E d mc ms)) cut G R T Z) (f : Nat) (L : ZLV) (st : List Value) (σ : ZHp) (n k w : Nat) : Z (f + 1) 71 L st σ n k w = s_aload 0 72 L st σ n k w (zk1 cut G (Z f)) G R T := zrs hZ rfl f L st σ n k w
theorem f_X12_missed_72 (hZ : ZRN (ztb (tb_X12_missed E d mc ms)) cut G R T Z) (f : Nat) (L : ZLV) (st : List Value) (σ : ZHp) (n k w : Nat) : Z (f + 1) 72 L st σ n k w = s_getf 11 3 75 L st σ n k w (zk1 cut G (Z f)) G R T := zrs hZ rfl f L st σ n k w
theorem f_X12_missed_75 (hZ : ZRN (ztb (tb_X12_missed E d mc ms)) cut G R T Z) (f : Nat) (L : ZLV) (st : List Value) (σ : ZHp) (n k w : Nat) : Z (f + 1) 75 L st σ n k w = s_iload 2 76 L st σ n k w (zk1 cut G (Z f)) G R T := zrs hZ rfl f L st σ n k w
theorem f_X12_missed_76 (hZ : ZRN (ztb (tb_X12_missed E d mc ms)) cut G R T Z) (f : Nat) (L : ZLV) (st : List Value) (σ : ZHp) (n k w : Nat) : Z (f + 1) 76 L st σ n k w = s_iload 6 78 L st σ n k w (zk1 cut G (Z f)) G R T := zrs hZ rfl f L st σ n k w
theorem f_X12_missed_78 (hZ : ZRN (ztb (tb_X12_missed E d mc ms)) cut G R T Z) (f : Nat) (L : ZLV) (st : List Value) (σ : ZHp) (n k w : Nat) : Z (f + 1) 78 L st σ n k w = s_callV E d mc ms 1 MX2_playRounds 2 81 L st σ n k w (zk1 cut G (Z f)) G R T := zrs hZ rfl f L st σ n k w
theorem f_X12_missed_81 (hZ : ZRN (ztb (tb_X12_missed E d mc ms)) cut G R T Z) (f : Nat) (L : ZLV) (st : List Value) (σ : ZHp) (n k w : Nat) : Z (f + 1) 81 L st σ n k w = s_pop 82 L st σ n k w (zk1 cut G (Z f)) G R T := zrs hZ rfl f L st σ n k w
theorem f_X12_missed_82 (hZ : ZRN (ztb (tb_X12_missed E d mc ms)) cut G R T Z) (f : Nat) (L : ZLV) (st : List Value) (σ : ZHp) (n k w : Nat) : Z (f + 1) 82 L st σ n k w = s_aload 0 83 L st σ n k w (zk1 cut G (Z f)) G R T := zrs hZ rfl f L st σ n k w
theorem f_X12_missed_83 (hZ : ZRN (ztb (tb_X12_missed E d mc ms)) cut G R T Z) (f : Nat) (L : ZLV) (st : List Value) (σ : ZHp) (n k w : Nat) : Z (f + 1) 83 L st σ n k w = s_getf 11 3 86 L st σ n k w (zk1 cut G (Z f)) G R T := zrs hZ rfl f L st σ n k w
theorem f_X12_missed_86 (hZ : ZRN (ztb (tb_X12_missed E d mc ms)) cut G R T Z) (f : Nat) (L : ZLV) (st : List Value) (σ : ZHp) (n k w : Nat) : Z (f + 1) 86 L st σ n k w = s_getf 1 0 89 L st σ n k w (zk1 cut G (Z f)) G R T := zrs hZ rfl f L st σ n k w
theorem f_X12_missed_89 (hZ : ZRN (ztb (tb_X12_missed E d mc ms)) cut G R T Z) (f : Nat) (L : ZLV) (st : List Value) (σ : ZHp) (n k w : Nat) : Z (f + 1) 89 L st σ n k w = s_iload 1 90 L st σ n k w (zk1 cut G (Z f)) G R T := zrs hZ rfl f L st σ n k w
theorem f_X12_missed_90 (hZ : ZRN (ztb (tb_X12_missed E d mc ms)) cut G R T Z) (f : Nat) (L : ZLV) (st : List Value) (σ : ZHp) (n k w : Nat) : Z (f + 1) 90 L st σ n k w = s_callV E d mc ms 3 MX4_worth 1 93 L st σ n k w (zk1 cut G (Z f)) G R T := zrs hZ rfl f L st σ n k w
theorem f_X12_missed_93 (hZ : ZRN (ztb (tb_X12_missed E d mc ms)) cut G R T Z) (f : Nat) (L : ZLV) (st : List Value) (σ : ZHp) (n k w : Nat) : Z (f + 1) 93 L st σ n k w = s_istore 7 95 L st σ n k w (zk1 cut G (Z f)) G R T := zrs hZ rfl f L st σ n k w
theorem f_X12_missed_95 (hZ : ZRN (ztb (tb_X12_missed E d mc ms)) cut G R T Z) (f : Nat) (L : ZLV) (st : List Value) (σ : ZHp) (n k w : Nat) : Z (f + 1) 95 L st σ n k w = s_iload 4 97 L st σ n k w (zk1 cut G (Z f)) G R T := zrs hZ rfl f L st σ n k w
theorem f_X12_missed_97 (hZ : ZRN (ztb (tb_X12_missed E d mc ms)) cut G R T Z) (f : Nat) (L : ZLV) (st : List Value) (σ : ZHp) (n k w : Nat) : Z (f + 1) 97 L st σ n k w = s_const (.int (-1)) 98 L st σ n k w (zk1 cut G (Z f)) G R T := zrs hZ rfl f L st σ n k w
theorem f_X12_missed_98 (hZ : ZRN (ztb (tb_X12_missed E d mc ms)) cut G R T Z) (f : Nat) (L : ZLV) (st : List Value) (σ : ZHp) (n k w : Nat) : Z (f + 1) 98 L st σ n k w = s_icmp_eq 108 101 L st σ n k w (zk1 cut G (Z f)) G R T := zrs hZ rfl f L st σ n k w
theorem f_X12_missed_101 (hZ : ZRN (ztb (tb_X12_missed E d mc ms)) cut G R T Z) (f : Nat) (L : ZLV) (st : List Value) (σ : ZHp) (n k w : Nat) : Z (f + 1) 101 L st σ n k w = s_iload 7 103 L st σ n k w (zk1 cut G (Z f)) G R T := zrs hZ rfl f L st σ n k w
theorem f_X12_missed_103 (hZ : ZRN (ztb (tb_X12_missed E d mc ms)) cut G R T Z) (f : Nat) (L : ZLV) (st : List Value) (σ : ZHp) (n k w : Nat) : Z (f + 1) 103 L st σ n k w = s_iload 5 105 L st σ n k w (zk1 cut G (Z f)) G R T := zrs hZ rfl f L st σ n k w
theorem f_X12_missed_105 (hZ : ZRN (ztb (tb_X12_missed E d mc ms)) cut G R T Z) (f : Nat) (L : ZLV) (st : List Value) (σ : ZHp) (n k w : Nat) : Z (f + 1) 105 L st σ n k w = s_icmp_ge 116 108 L st σ n k w (zk1 cut G (Z f)) G R T := zrs hZ rfl f L st σ n k w
theorem f_X12_missed_108 (hZ : ZRN (ztb (tb_X12_missed E d mc ms)) cut G R T Z) (f : Nat) (L : ZLV) (st : List Value) (σ : ZHp) (n k w : Nat) : Z (f + 1) 108 L st σ n k w = s_iload 6 110 L st σ n k w (zk1 cut G (Z f)) G R T := zrs hZ rfl f L st σ n k w
theorem f_X12_missed_110 (hZ : ZRN (ztb (tb_X12_missed E d mc ms)) cut G R T Z) (f : Nat) (L : ZLV) (st : List Value) (σ : ZHp) (n k w : Nat) : Z (f + 1) 110 L st σ n k w = s_istore 4 112 L st σ n k w (zk1 cut G (Z f)) G R T := zrs hZ rfl f L st σ n k w
theorem f_X12_missed_112 (hZ : ZRN (ztb (tb_X12_missed E d mc ms)) cut G R T Z) (f : Nat) (L : ZLV) (st : List Value) (σ : ZHp) (n k w : Nat) : Z (f + 1) 112 L st σ n k w = s_iload 7 114 L st σ n k w (zk1 cut G (Z f)) G R T := zrs hZ rfl f L st σ n k w
theorem f_X12_missed_114 (hZ : ZRN (ztb (tb_X12_missed E d mc ms)) cut G R T Z) (f : Nat) (L : ZLV) (st : List Value) (σ : ZHp) (n k w : Nat) : Z (f + 1) 114 L st σ n k w = s_istore 5 116 L st σ n k w (zk1 cut G (Z f)) G R T := zrs hZ rfl f L st σ n k w
theorem f_X12_missed_116 (hZ : ZRN (ztb (tb_X12_missed E d mc ms)) cut G R T Z) (f : Nat) (L : ZLV) (st : List Value) (σ : ZHp) (n k w : Nat) : Z (f + 1) 116 L st σ n k w = s_iinc 6 (1) 119 L st σ n k w (zk1 cut G (Z f)) G R T := zrs hZ rfl f L st σ n k w
theorem f_X12_missed_119 (hZ : ZRN (ztb (tb_X12_missed E d mc ms)) cut G R T Z) (f : Nat) (L : ZLV) (st : List Value) (σ : ZHp) (n k w : Nat) : Z (f + 1) 119 L st σ n k w = s_goto 32 L st σ n k w (zk1 cut G (Z f)) G R T := zrs hZ rfl f L st σ n k w
theorem f_X12_missed_122 (hZ : ZRN (ztb (tb_X12_missed E d mc ms)) cut G R T Z) (f : Nat) (L : ZLV) (st : List Value) (σ : ZHp) (n k w : Nat) : Z (f + 1) 122 L st σ n k w = s_iload 4 124 L st σ n k w (zk1 cut G (Z f)) G R T := zrs hZ rfl f L st σ n k w
theorem f_X12_missed_124 (hZ : ZRN (ztb (tb_X12_missed E d mc ms)) cut G R T Z) (f : Nat) (L : ZLV) (st : List Value) (σ : ZHp) (n k w : Nat) : Z (f + 1) 124 L st σ n k w = s_ireturn L st σ n k w (zk1 cut G (Z f)) G R T := zrs hZ rfl f L st σ n k w
theorem f_X12_advise_0 (hZ : ZRN (ztb (tb_X12_advise E d mc ms)) cut G R T Z) (f : Nat) (L : ZLV) (st : List Value) (σ : ZHp) (n k w : Nat) : Z (f + 1) 0 L st σ n k w = s_aload 0 1 L st σ n k w (zk1 cut G (Z f)) G R T := zrs hZ rfl f L st σ n k w
theorem f_X12_advise_1 (hZ : ZRN (ztb (tb_X12_advise E d mc ms)) cut G R T Z) (f : Nat) (L : ZLV) (st : List Value) (σ : ZHp) (n k w : Nat) : Z (f + 1) 1 L st σ n k w = s_iload 1 2 L st σ n k w (zk1 cut G (Z f)) G R T := zrs hZ rfl f L st σ n k w
theorem f_X12_advise_2 (hZ : ZRN (ztb (tb_X12_advise E d mc ms)) cut G R T Z) (f : Nat) (L : ZLV) (st : List Value) (σ : ZHp) (n k w : Nat) : Z (f + 1) 2 L st σ n k w = s_callVT E d mc ms 11 MX12_checkMerchant 1 5 L st σ n k w (zk1 cut G (Z f)) G R T := zrs hZ rfl f L st σ n k w
theorem f_X12_advise_5 (hZ : ZRN (ztb (tb_X12_advise E d mc ms)) cut G R T Z) (f : Nat) (L : ZLV) (st : List Value) (σ : ZHp) (n k w : Nat) : Z (f + 1) 5 L st σ n k w = s_aload 0 6 L st σ n k w (zk1 cut G (Z f)) G R T := zrs hZ rfl f L st σ n k w
theorem f_X12_advise_6 (hZ : ZRN (ztb (tb_X12_advise E d mc ms)) cut G R T Z) (f : Nat) (L : ZLV) (st : List Value) (σ : ZHp) (n k w : Nat) : Z (f + 1) 6 L st σ n k w = s_iload 2 7 L st σ n k w (zk1 cut G (Z f)) G R T := zrs hZ rfl f L st σ n k w
theorem f_X12_advise_7 (hZ : ZRN (ztb (tb_X12_advise E d mc ms)) cut G R T Z) (f : Nat) (L : ZLV) (st : List Value) (σ : ZHp) (n k w : Nat) : Z (f + 1) 7 L st σ n k w = s_const (.int (20)) 9 L st σ n k w (zk1 cut G (Z f)) G R T := zrs hZ rfl f L st σ n k w
theorem f_X12_advise_9 (hZ : ZRN (ztb (tb_X12_advise E d mc ms)) cut G R T Z) (f : Nat) (L : ZLV) (st : List Value) (σ : ZHp) (n k w : Nat) : Z (f + 1) 9 L st σ n k w = s_callVT E d mc ms 11 MX12_checkRounds 2 12 L st σ n k w (zk1 cut G (Z f)) G R T := zrs hZ rfl f L st σ n k w
theorem f_X12_advise_12 (hZ : ZRN (ztb (tb_X12_advise E d mc ms)) cut G R T Z) (f : Nat) (L : ZLV) (st : List Value) (σ : ZHp) (n k w : Nat) : Z (f + 1) 12 L st σ n k w = s_const (.int (-1)) 13 L st σ n k w (zk1 cut G (Z f)) G R T := zrs hZ rfl f L st σ n k w
theorem f_X12_advise_13 (hZ : ZRN (ztb (tb_X12_advise E d mc ms)) cut G R T Z) (f : Nat) (L : ZLV) (st : List Value) (σ : ZHp) (n k w : Nat) : Z (f + 1) 13 L st σ n k w = s_istore 3 14 L st σ n k w (zk1 cut G (Z f)) G R T := zrs hZ rfl f L st σ n k w
theorem f_X12_advise_14 (hZ : ZRN (ztb (tb_X12_advise E d mc ms)) cut G R T Z) (f : Nat) (L : ZLV) (st : List Value) (σ : ZHp) (n k w : Nat) : Z (f + 1) 14 L st σ n k w = s_const (.int (0)) 15 L st σ n k w (zk1 cut G (Z f)) G R T := zrs hZ rfl f L st σ n k w
theorem f_X12_advise_15 (hZ : ZRN (ztb (tb_X12_advise E d mc ms)) cut G R T Z) (f : Nat) (L : ZLV) (st : List Value) (σ : ZHp) (n k w : Nat) : Z (f + 1) 15 L st σ n k w = s_istore 4 17 L st σ n k w (zk1 cut G (Z f)) G R T := zrs hZ rfl f L st σ n k w
theorem f_X12_advise_17 (hZ : ZRN (ztb (tb_X12_advise E d mc ms)) cut G R T Z) (f : Nat) (L : ZLV) (st : List Value) (σ : ZHp) (n k w : Nat) : Z (f + 1) 17 L st σ n k w = s_const (.int (0)) 18 L st σ n k w (zk1 cut G (Z f)) G R T := zrs hZ rfl f L st σ n k w
theorem f_X12_advise_18 (hZ : ZRN (ztb (tb_X12_advise E d mc ms)) cut G R T Z) (f : Nat) (L : ZLV) (st : List Value) (σ : ZHp) (n k w : Nat) : Z (f + 1) 18 L st σ n k w = s_istore 5 20 L st σ n k w (zk1 cut G (Z f)) G R T := zrs hZ rfl f L st σ n k w
theorem f_X12_advise_20 (hZ : ZRN (ztb (tb_X12_advise E d mc ms)) cut G R T Z) (f : Nat) (L : ZLV) (st : List Value) (σ : ZHp) (n k w : Nat) : Z (f + 1) 20 L st σ n k w = s_iload 5 22 L st σ n k w (zk1 cut G (Z f)) G R T := zrs hZ rfl f L st σ n k w
theorem f_X12_advise_22 (hZ : ZRN (ztb (tb_X12_advise E d mc ms)) cut G R T Z) (f : Nat) (L : ZLV) (st : List Value) (σ : ZHp) (n k w : Nat) : Z (f + 1) 22 L st σ n k w = s_aload 0 23 L st σ n k w (zk1 cut G (Z f)) G R T := zrs hZ rfl f L st σ n k w
theorem f_X12_advise_23 (hZ : ZRN (ztb (tb_X12_advise E d mc ms)) cut G R T Z) (f : Nat) (L : ZLV) (st : List Value) (σ : ZHp) (n k w : Nat) : Z (f + 1) 23 L st σ n k w = s_getf 11 2 26 L st σ n k w (zk1 cut G (Z f)) G R T := zrs hZ rfl f L st σ n k w
theorem f_X12_advise_26 (hZ : ZRN (ztb (tb_X12_advise E d mc ms)) cut G R T Z) (f : Nat) (L : ZLV) (st : List Value) (σ : ZHp) (n k w : Nat) : Z (f + 1) 26 L st σ n k w = s_getf 1 0 29 L st σ n k w (zk1 cut G (Z f)) G R T := zrs hZ rfl f L st σ n k w
theorem f_X12_advise_29 (hZ : ZRN (ztb (tb_X12_advise E d mc ms)) cut G R T Z) (f : Nat) (L : ZLV) (st : List Value) (σ : ZHp) (n k w : Nat) : Z (f + 1) 29 L st σ n k w = s_getf 3 5 32 L st σ n k w (zk1 cut G (Z f)) G R T := zrs hZ rfl f L st σ n k w
theorem f_X12_advise_32 (hZ : ZRN (ztb (tb_X12_advise E d mc ms)) cut G R T Z) (f : Nat) (L : ZLV) (st : List Value) (σ : ZHp) (n k w : Nat) : Z (f + 1) 32 L st σ n k w = s_getf 5 0 35 L st σ n k w (zk1 cut G (Z f)) G R T := zrs hZ rfl f L st σ n k w
theorem f_X12_advise_35 (hZ : ZRN (ztb (tb_X12_advise E d mc ms)) cut G R T Z) (f : Nat) (L : ZLV) (st : List Value) (σ : ZHp) (n k w : Nat) : Z (f + 1) 35 L st σ n k w = s_icmp_ge 132 38 L st σ n k w (zk1 cut G (Z f)) G R T := zrs hZ rfl f L st σ n k w
theorem f_X12_advise_38 (hZ : ZRN (ztb (tb_X12_advise E d mc ms)) cut G R T Z) (f : Nat) (L : ZLV) (st : List Value) (σ : ZHp) (n k w : Nat) : Z (f + 1) 38 L st σ n k w = s_aload 0 39 L st σ n k w (zk1 cut G (Z f)) G R T := zrs hZ rfl f L st σ n k w
theorem f_X12_advise_39 (hZ : ZRN (ztb (tb_X12_advise E d mc ms)) cut G R T Z) (f : Nat) (L : ZLV) (st : List Value) (σ : ZHp) (n k w : Nat) : Z (f + 1) 39 L st σ n k w = s_getf 11 2 42 L st σ n k w (zk1 cut G (Z f)) G R T := zrs hZ rfl f L st σ n k w
theorem f_X12_advise_42 (hZ : ZRN (ztb (tb_X12_advise E d mc ms)) cut G R T Z) (f : Nat) (L : ZLV) (st : List Value) (σ : ZHp) (n k w : Nat) : Z (f + 1) 42 L st σ n k w = s_getf 1 0 45 L st σ n k w (zk1 cut G (Z f)) G R T := zrs hZ rfl f L st σ n k w
theorem f_X12_advise_45 (hZ : ZRN (ztb (tb_X12_advise E d mc ms)) cut G R T Z) (f : Nat) (L : ZLV) (st : List Value) (σ : ZHp) (n k w : Nat) : Z (f + 1) 45 L st σ n k w = s_iload 1 46 L st σ n k w (zk1 cut G (Z f)) G R T := zrs hZ rfl f L st σ n k w
theorem f_X12_advise_46 (hZ : ZRN (ztb (tb_X12_advise E d mc ms)) cut G R T Z) (f : Nat) (L : ZLV) (st : List Value) (σ : ZHp) (n k w : Nat) : Z (f + 1) 46 L st σ n k w = s_iload 5 48 L st σ n k w (zk1 cut G (Z f)) G R T := zrs hZ rfl f L st σ n k w
theorem f_X12_advise_48 (hZ : ZRN (ztb (tb_X12_advise E d mc ms)) cut G R T Z) (f : Nat) (L : ZLV) (st : List Value) (σ : ZHp) (n k w : Nat) : Z (f + 1) 48 L st σ n k w = s_callV E d mc ms 3 MX4_canGain 2 51 L st σ n k w (zk1 cut G (Z f)) G R T := zrs hZ rfl f L st σ n k w
theorem f_X12_advise_51 (hZ : ZRN (ztb (tb_X12_advise E d mc ms)) cut G R T Z) (f : Nat) (L : ZLV) (st : List Value) (σ : ZHp) (n k w : Nat) : Z (f + 1) 51 L st σ n k w = s_if_eq 126 54 L st σ n k w (zk1 cut G (Z f)) G R T := zrs hZ rfl f L st σ n k w
theorem f_X12_advise_54 (hZ : ZRN (ztb (tb_X12_advise E d mc ms)) cut G R T Z) (f : Nat) (L : ZLV) (st : List Value) (σ : ZHp) (n k w : Nat) : Z (f + 1) 54 L st σ n k w = s_aload 0 55 L st σ n k w (zk1 cut G (Z f)) G R T := zrs hZ rfl f L st σ n k w
theorem f_X12_advise_55 (hZ : ZRN (ztb (tb_X12_advise E d mc ms)) cut G R T Z) (f : Nat) (L : ZLV) (st : List Value) (σ : ZHp) (n k w : Nat) : Z (f + 1) 55 L st σ n k w = s_getf 11 3 58 L st σ n k w (zk1 cut G (Z f)) G R T := zrs hZ rfl f L st σ n k w
theorem f_X12_advise_58 (hZ : ZRN (ztb (tb_X12_advise E d mc ms)) cut G R T Z) (f : Nat) (L : ZLV) (st : List Value) (σ : ZHp) (n k w : Nat) : Z (f + 1) 58 L st σ n k w = s_getf 1 0 61 L st σ n k w (zk1 cut G (Z f)) G R T := zrs hZ rfl f L st σ n k w
theorem f_X12_advise_61 (hZ : ZRN (ztb (tb_X12_advise E d mc ms)) cut G R T Z) (f : Nat) (L : ZLV) (st : List Value) (σ : ZHp) (n k w : Nat) : Z (f + 1) 61 L st σ n k w = s_aload 0 62 L st σ n k w (zk1 cut G (Z f)) G R T := zrs hZ rfl f L st σ n k w
theorem f_X12_advise_62 (hZ : ZRN (ztb (tb_X12_advise E d mc ms)) cut G R T Z) (f : Nat) (L : ZLV) (st : List Value) (σ : ZHp) (n k w : Nat) : Z (f + 1) 62 L st σ n k w = s_getf 11 2 65 L st σ n k w (zk1 cut G (Z f)) G R T := zrs hZ rfl f L st σ n k w
theorem f_X12_advise_65 (hZ : ZRN (ztb (tb_X12_advise E d mc ms)) cut G R T Z) (f : Nat) (L : ZLV) (st : List Value) (σ : ZHp) (n k w : Nat) : Z (f + 1) 65 L st σ n k w = s_getf 1 0 68 L st σ n k w (zk1 cut G (Z f)) G R T := zrs hZ rfl f L st σ n k w
theorem f_X12_advise_68 (hZ : ZRN (ztb (tb_X12_advise E d mc ms)) cut G R T Z) (f : Nat) (L : ZLV) (st : List Value) (σ : ZHp) (n k w : Nat) : Z (f + 1) 68 L st σ n k w = s_callV E d mc ms 3 MX4_copy 1 71 L st σ n k w (zk1 cut G (Z f)) G R T := zrs hZ rfl f L st σ n k w
theorem f_X12_advise_71 (hZ : ZRN (ztb (tb_X12_advise E d mc ms)) cut G R T Z) (f : Nat) (L : ZLV) (st : List Value) (σ : ZHp) (n k w : Nat) : Z (f + 1) 71 L st σ n k w = s_aload 0 72 L st σ n k w (zk1 cut G (Z f)) G R T := zrs hZ rfl f L st σ n k w
theorem f_X12_advise_72 (hZ : ZRN (ztb (tb_X12_advise E d mc ms)) cut G R T Z) (f : Nat) (L : ZLV) (st : List Value) (σ : ZHp) (n k w : Nat) : Z (f + 1) 72 L st σ n k w = s_getf 11 3 75 L st σ n k w (zk1 cut G (Z f)) G R T := zrs hZ rfl f L st σ n k w
theorem f_X12_advise_75 (hZ : ZRN (ztb (tb_X12_advise E d mc ms)) cut G R T Z) (f : Nat) (L : ZLV) (st : List Value) (σ : ZHp) (n k w : Nat) : Z (f + 1) 75 L st σ n k w = s_getf 1 0 78 L st σ n k w (zk1 cut G (Z f)) G R T := zrs hZ rfl f L st σ n k w
theorem f_X12_advise_78 (hZ : ZRN (ztb (tb_X12_advise E d mc ms)) cut G R T Z) (f : Nat) (L : ZLV) (st : List Value) (σ : ZHp) (n k w : Nat) : Z (f + 1) 78 L st σ n k w = s_iload 1 79 L st σ n k w (zk1 cut G (Z f)) G R T := zrs hZ rfl f L st σ n k w
theorem f_X12_advise_79 (hZ : ZRN (ztb (tb_X12_advise E d mc ms)) cut G R T Z) (f : Nat) (L : ZLV) (st : List Value) (σ : ZHp) (n k w : Nat) : Z (f + 1) 79 L st σ n k w = s_iload 5 81 L st σ n k w (zk1 cut G (Z f)) G R T := zrs hZ rfl f L st σ n k w
theorem f_X12_advise_81 (hZ : ZRN (ztb (tb_X12_advise E d mc ms)) cut G R T Z) (f : Nat) (L : ZLV) (st : List Value) (σ : ZHp) (n k w : Nat) : Z (f + 1) 81 L st σ n k w = s_callV E d mc ms 3 MX4_gain 2 84 L st σ n k w (zk1 cut G (Z f)) G R T := zrs hZ rfl f L st σ n k w
theorem f_X12_advise_84 (hZ : ZRN (ztb (tb_X12_advise E d mc ms)) cut G R T Z) (f : Nat) (L : ZLV) (st : List Value) (σ : ZHp) (n k w : Nat) : Z (f + 1) 84 L st σ n k w = s_aload 0 85 L st σ n k w (zk1 cut G (Z f)) G R T := zrs hZ rfl f L st σ n k w
theorem f_X12_advise_85 (hZ : ZRN (ztb (tb_X12_advise E d mc ms)) cut G R T Z) (f : Nat) (L : ZLV) (st : List Value) (σ : ZHp) (n k w : Nat) : Z (f + 1) 85 L st σ n k w = s_getf 11 3 88 L st σ n k w (zk1 cut G (Z f)) G R T := zrs hZ rfl f L st σ n k w
theorem f_X12_advise_88 (hZ : ZRN (ztb (tb_X12_advise E d mc ms)) cut G R T Z) (f : Nat) (L : ZLV) (st : List Value) (σ : ZHp) (n k w : Nat) : Z (f + 1) 88 L st σ n k w = s_iload 2 89 L st σ n k w (zk1 cut G (Z f)) G R T := zrs hZ rfl f L st σ n k w
theorem f_X12_advise_89 (hZ : ZRN (ztb (tb_X12_advise E d mc ms)) cut G R T Z) (f : Nat) (L : ZLV) (st : List Value) (σ : ZHp) (n k w : Nat) : Z (f + 1) 89 L st σ n k w = s_const (.int (-1)) 90 L st σ n k w (zk1 cut G (Z f)) G R T := zrs hZ rfl f L st σ n k w
theorem f_X12_advise_90 (hZ : ZRN (ztb (tb_X12_advise E d mc ms)) cut G R T Z) (f : Nat) (L : ZLV) (st : List Value) (σ : ZHp) (n k w : Nat) : Z (f + 1) 90 L st σ n k w = s_callV E d mc ms 1 MX2_playRounds 2 93 L st σ n k w (zk1 cut G (Z f)) G R T := zrs hZ rfl f L st σ n k w
theorem f_X12_advise_93 (hZ : ZRN (ztb (tb_X12_advise E d mc ms)) cut G R T Z) (f : Nat) (L : ZLV) (st : List Value) (σ : ZHp) (n k w : Nat) : Z (f + 1) 93 L st σ n k w = s_pop 94 L st σ n k w (zk1 cut G (Z f)) G R T := zrs hZ rfl f L st σ n k w
theorem f_X12_advise_94 (hZ : ZRN (ztb (tb_X12_advise E d mc ms)) cut G R T Z) (f : Nat) (L : ZLV) (st : List Value) (σ : ZHp) (n k w : Nat) : Z (f + 1) 94 L st σ n k w = s_aload 0 95 L st σ n k w (zk1 cut G (Z f)) G R T := zrs hZ rfl f L st σ n k w
theorem f_X12_advise_95 (hZ : ZRN (ztb (tb_X12_advise E d mc ms)) cut G R T Z) (f : Nat) (L : ZLV) (st : List Value) (σ : ZHp) (n k w : Nat) : Z (f + 1) 95 L st σ n k w = s_getf 11 3 98 L st σ n k w (zk1 cut G (Z f)) G R T := zrs hZ rfl f L st σ n k w
theorem f_X12_advise_98 (hZ : ZRN (ztb (tb_X12_advise E d mc ms)) cut G R T Z) (f : Nat) (L : ZLV) (st : List Value) (σ : ZHp) (n k w : Nat) : Z (f + 1) 98 L st σ n k w = s_getf 1 0 101 L st σ n k w (zk1 cut G (Z f)) G R T := zrs hZ rfl f L st σ n k w
theorem f_X12_advise_101 (hZ : ZRN (ztb (tb_X12_advise E d mc ms)) cut G R T Z) (f : Nat) (L : ZLV) (st : List Value) (σ : ZHp) (n k w : Nat) : Z (f + 1) 101 L st σ n k w = s_iload 1 102 L st σ n k w (zk1 cut G (Z f)) G R T := zrs hZ rfl f L st σ n k w
theorem f_X12_advise_102 (hZ : ZRN (ztb (tb_X12_advise E d mc ms)) cut G R T Z) (f : Nat) (L : ZLV) (st : List Value) (σ : ZHp) (n k w : Nat) : Z (f + 1) 102 L st σ n k w = s_callV E d mc ms 3 MX4_worth 1 105 L st σ n k w (zk1 cut G (Z f)) G R T := zrs hZ rfl f L st σ n k w
theorem f_X12_advise_105 (hZ : ZRN (ztb (tb_X12_advise E d mc ms)) cut G R T Z) (f : Nat) (L : ZLV) (st : List Value) (σ : ZHp) (n k w : Nat) : Z (f + 1) 105 L st σ n k w = s_istore 6 107 L st σ n k w (zk1 cut G (Z f)) G R T := zrs hZ rfl f L st σ n k w
theorem f_X12_advise_107 (hZ : ZRN (ztb (tb_X12_advise E d mc ms)) cut G R T Z) (f : Nat) (L : ZLV) (st : List Value) (σ : ZHp) (n k w : Nat) : Z (f + 1) 107 L st σ n k w = s_iload 3 108 L st σ n k w (zk1 cut G (Z f)) G R T := zrs hZ rfl f L st σ n k w
theorem f_X12_advise_108 (hZ : ZRN (ztb (tb_X12_advise E d mc ms)) cut G R T Z) (f : Nat) (L : ZLV) (st : List Value) (σ : ZHp) (n k w : Nat) : Z (f + 1) 108 L st σ n k w = s_const (.int (-1)) 109 L st σ n k w (zk1 cut G (Z f)) G R T := zrs hZ rfl f L st σ n k w
theorem f_X12_advise_109 (hZ : ZRN (ztb (tb_X12_advise E d mc ms)) cut G R T Z) (f : Nat) (L : ZLV) (st : List Value) (σ : ZHp) (n k w : Nat) : Z (f + 1) 109 L st σ n k w = s_icmp_eq 119 112 L st σ n k w (zk1 cut G (Z f)) G R T := zrs hZ rfl f L st σ n k w
theorem f_X12_advise_112 (hZ : ZRN (ztb (tb_X12_advise E d mc ms)) cut G R T Z) (f : Nat) (L : ZLV) (st : List Value) (σ : ZHp) (n k w : Nat) : Z (f + 1) 112 L st σ n k w = s_iload 6 114 L st σ n k w (zk1 cut G (Z f)) G R T := zrs hZ rfl f L st σ n k w
theorem f_X12_advise_114 (hZ : ZRN (ztb (tb_X12_advise E d mc ms)) cut G R T Z) (f : Nat) (L : ZLV) (st : List Value) (σ : ZHp) (n k w : Nat) : Z (f + 1) 114 L st σ n k w = s_iload 4 116 L st σ n k w (zk1 cut G (Z f)) G R T := zrs hZ rfl f L st σ n k w
theorem f_X12_advise_116 (hZ : ZRN (ztb (tb_X12_advise E d mc ms)) cut G R T Z) (f : Nat) (L : ZLV) (st : List Value) (σ : ZHp) (n k w : Nat) : Z (f + 1) 116 L st σ n k w = s_icmp_le 126 119 L st σ n k w (zk1 cut G (Z f)) G R T := zrs hZ rfl f L st σ n k w
theorem f_X12_advise_119 (hZ : ZRN (ztb (tb_X12_advise E d mc ms)) cut G R T Z) (f : Nat) (L : ZLV) (st : List Value) (σ : ZHp) (n k w : Nat) : Z (f + 1) 119 L st σ n k w = s_iload 5 121 L st σ n k w (zk1 cut G (Z f)) G R T := zrs hZ rfl f L st σ n k w
theorem f_X12_advise_121 (hZ : ZRN (ztb (tb_X12_advise E d mc ms)) cut G R T Z) (f : Nat) (L : ZLV) (st : List Value) (σ : ZHp) (n k w : Nat) : Z (f + 1) 121 L st σ n k w = s_istore 3 122 L st σ n k w (zk1 cut G (Z f)) G R T := zrs hZ rfl f L st σ n k w
theorem f_X12_advise_122 (hZ : ZRN (ztb (tb_X12_advise E d mc ms)) cut G R T Z) (f : Nat) (L : ZLV) (st : List Value) (σ : ZHp) (n k w : Nat) : Z (f + 1) 122 L st σ n k w = s_iload 6 124 L st σ n k w (zk1 cut G (Z f)) G R T := zrs hZ rfl f L st σ n k w
theorem f_X12_advise_124 (hZ : ZRN (ztb (tb_X12_advise E d mc ms)) cut G R T Z) (f : Nat) (L : ZLV) (st : List Value) (σ : ZHp) (n k w : Nat) : Z (f + 1) 124 L st σ n k w = s_istore 4 126 L st σ n k w (zk1 cut G (Z f)) G R T := zrs hZ rfl f L st σ n k w
theorem f_X12_advise_126 (hZ : ZRN (ztb (tb_X12_advise E d mc ms)) cut G R T Z) (f : Nat) (L : ZLV) (st : List Value) (σ : ZHp) (n k w : Nat) : Z (f + 1) 126 L st σ n k w = s_iinc 5 (1) 129 L st σ n k w (zk1 cut G (Z f)) G R T := zrs hZ rfl f L st σ n k w
theorem f_X12_advise_129 (hZ : ZRN (ztb (tb_X12_advise E d mc ms)) cut G R T Z) (f : Nat) (L : ZLV) (st : List Value) (σ : ZHp) (n k w : Nat) : Z (f + 1) 129 L st σ n k w = s_goto 20 L st σ n k w (zk1 cut G (Z f)) G R T := zrs hZ rfl f L st σ n k w
theorem f_X12_advise_132 (hZ : ZRN (ztb (tb_X12_advise E d mc ms)) cut G R T Z) (f : Nat) (L : ZLV) (st : List Value) (σ : ZHp) (n k w : Nat) : Z (f + 1) 132 L st σ n k w = s_iload 3 133 L st σ n k w (zk1 cut G (Z f)) G R T := zrs hZ rfl f L st σ n k w
theorem f_X12_advise_133 (hZ : ZRN (ztb (tb_X12_advise E d mc ms)) cut G R T Z) (f : Nat) (L : ZLV) (st : List Value) (σ : ZHp) (n k w : Nat) : Z (f + 1) 133 L st σ n k w = s_ireturn L st σ n k w (zk1 cut G (Z f)) G R T := zrs hZ rfl f L st σ n k w
theorem f_X12_mean_0 (hZ : ZRN (ztb (tb_X12_mean E d mc ms)) cut G R T Z) (f : Nat) (L : ZLV) (st : List Value) (σ : ZHp) (n k w : Nat) : Z (f + 1) 0 L st σ n k w = s_aload 0 1 L st σ n k w (zk1 cut G (Z f)) G R T := zrs hZ rfl f L st σ n k w
theorem f_X12_mean_1 (hZ : ZRN (ztb (tb_X12_mean E d mc ms)) cut G R T Z) (f : Nat) (L : ZLV) (st : List Value) (σ : ZHp) (n k w : Nat) : Z (f + 1) 1 L st σ n k w = s_getf 11 2 4 L st σ n k w (zk1 cut G (Z f)) G R T := zrs hZ rfl f L st σ n k w
theorem f_X12_mean_4 (hZ : ZRN (ztb (tb_X12_mean E d mc ms)) cut G R T Z) (f : Nat) (L : ZLV) (st : List Value) (σ : ZHp) (n k w : Nat) : Z (f + 1) 4 L st σ n k w = s_getf 1 0 7 L st σ n k w (zk1 cut G (Z f)) G R T := zrs hZ rfl f L st σ n k w
theorem f_X12_mean_7 (hZ : ZRN (ztb (tb_X12_mean E d mc ms)) cut G R T Z) (f : Nat) (L : ZLV) (st : List Value) (σ : ZHp) (n k w : Nat) : Z (f + 1) 7 L st σ n k w = s_getf 3 5 10 L st σ n k w (zk1 cut G (Z f)) G R T := zrs hZ rfl f L st σ n k w
theorem f_X12_mean_10 (hZ : ZRN (ztb (tb_X12_mean E d mc ms)) cut G R T Z) (f : Nat) (L : ZLV) (st : List Value) (σ : ZHp) (n k w : Nat) : Z (f + 1) 10 L st σ n k w = s_getf 5 1 13 L st σ n k w (zk1 cut G (Z f)) G R T := zrs hZ rfl f L st σ n k w
theorem f_X12_mean_13 (hZ : ZRN (ztb (tb_X12_mean E d mc ms)) cut G R T Z) (f : Nat) (L : ZLV) (st : List Value) (σ : ZHp) (n k w : Nat) : Z (f + 1) 13 L st σ n k w = s_istore 1 14 L st σ n k w (zk1 cut G (Z f)) G R T := zrs hZ rfl f L st σ n k w
theorem f_X12_mean_14 (hZ : ZRN (ztb (tb_X12_mean E d mc ms)) cut G R T Z) (f : Nat) (L : ZLV) (st : List Value) (σ : ZHp) (n k w : Nat) : Z (f + 1) 14 L st σ n k w = s_iload 1 15 L st σ n k w (zk1 cut G (Z f)) G R T := zrs hZ rfl f L st σ n k w
theorem f_X12_mean_15 (hZ : ZRN (ztb (tb_X12_mean E d mc ms)) cut G R T Z) (f : Nat) (L : ZLV) (st : List Value) (σ : ZHp) (n k w : Nat) : Z (f + 1) 15 L st σ n k w = s_if_ne 20 18 L st σ n k w (zk1 cut G (Z f)) G R T := zrs hZ rfl f L st σ n k w
theorem f_X12_mean_18 (hZ : ZRN (ztb (tb_X12_mean E d mc ms)) cut G R T Z) (f : Nat) (L : ZLV) (st : List Value) (σ : ZHp) (n k w : Nat) : Z (f + 1) 18 L st σ n k w = s_const (.double FP.dconst0) 19 L st σ n k w (zk1 cut G (Z f)) G R T := zrs hZ rfl f L st σ n k w
theorem f_X12_mean_19 (hZ : ZRN (ztb (tb_X12_mean E d mc ms)) cut G R T Z) (f : Nat) (L : ZLV) (st : List Value) (σ : ZHp) (n k w : Nat) : Z (f + 1) 19 L st σ n k w = s_dreturn L st σ n k w (zk1 cut G (Z f)) G R T := zrs hZ rfl f L st σ n k w
theorem f_X12_mean_20 (hZ : ZRN (ztb (tb_X12_mean E d mc ms)) cut G R T Z) (f : Nat) (L : ZLV) (st : List Value) (σ : ZHp) (n k w : Nat) : Z (f + 1) 20 L st σ n k w = s_const (.int (0)) 21 L st σ n k w (zk1 cut G (Z f)) G R T := zrs hZ rfl f L st σ n k w
theorem f_X12_mean_21 (hZ : ZRN (ztb (tb_X12_mean E d mc ms)) cut G R T Z) (f : Nat) (L : ZLV) (st : List Value) (σ : ZHp) (n k w : Nat) : Z (f + 1) 21 L st σ n k w = s_istore 2 22 L st σ n k w (zk1 cut G (Z f)) G R T := zrs hZ rfl f L st σ n k w
theorem f_X12_mean_22 (hZ : ZRN (ztb (tb_X12_mean E d mc ms)) cut G R T Z) (f : Nat) (L : ZLV) (st : List Value) (σ : ZHp) (n k w : Nat) : Z (f + 1) 22 L st σ n k w = s_const (.int (0)) 23 L st σ n k w (zk1 cut G (Z f)) G R T := zrs hZ rfl f L st σ n k w
theorem f_X12_mean_23 (hZ : ZRN (ztb (tb_X12_mean E d mc ms)) cut G R T Z) (f : Nat) (L : ZLV) (st : List Value) (σ : ZHp) (n k w : Nat) : Z (f + 1) 23 L st σ n k w = s_istore 3 24 L st σ n k w (zk1 cut G (Z f)) G R T := zrs hZ rfl f L st σ n k w
theorem f_X12_mean_24 (hZ : ZRN (ztb (tb_X12_mean E d mc ms)) cut G R T Z) (f : Nat) (L : ZLV) (st : List Value) (σ : ZHp) (n k w : Nat) : Z (f + 1) 24 L st σ n k w = s_iload 3 25 L st σ n k w (zk1 cut G (Z f)) G R T := zrs hZ rfl f L st σ n k w
theorem f_X12_mean_25 (hZ : ZRN (ztb (tb_X12_mean E d mc ms)) cut G R T Z) (f : Nat) (L : ZLV) (st : List Value) (σ : ZHp) (n k w : Nat) : Z (f + 1) 25 L st σ n k w = s_iload 1 26 L st σ n k w (zk1 cut G (Z f)) G R T := zrs hZ rfl f L st σ n k w
theorem f_X12_mean_26 (hZ : ZRN (ztb (tb_X12_mean E d mc ms)) cut G R T Z) (f : Nat) (L : ZLV) (st : List Value) (σ : ZHp) (n k w : Nat) : Z (f + 1) 26 L st σ n k w = s_icmp_ge 49 29 L st σ n k w (zk1 cut G (Z f)) G R T := zrs hZ rfl f L st σ n k w
theorem f_X12_mean_29 (hZ : ZRN (ztb (tb_X12_mean E d mc ms)) cut G R T Z) (f : Nat) (L : ZLV) (st : List Value) (σ : ZHp) (n k w : Nat) : Z (f + 1) 29 L st σ n k w = s_iload 2 30 L st σ n k w (zk1 cut G (Z f)) G R T := zrs hZ rfl f L st σ n k w
theorem f_X12_mean_30 (hZ : ZRN (ztb (tb_X12_mean E d mc ms)) cut G R T Z) (f : Nat) (L : ZLV) (st : List Value) (σ : ZHp) (n k w : Nat) : Z (f + 1) 30 L st σ n k w = s_aload 0 31 L st σ n k w (zk1 cut G (Z f)) G R T := zrs hZ rfl f L st σ n k w
theorem f_X12_mean_31 (hZ : ZRN (ztb (tb_X12_mean E d mc ms)) cut G R T Z) (f : Nat) (L : ZLV) (st : List Value) (σ : ZHp) (n k w : Nat) : Z (f + 1) 31 L st σ n k w = s_getf 11 2 34 L st σ n k w (zk1 cut G (Z f)) G R T := zrs hZ rfl f L st σ n k w
theorem f_X12_mean_34 (hZ : ZRN (ztb (tb_X12_mean E d mc ms)) cut G R T Z) (f : Nat) (L : ZLV) (st : List Value) (σ : ZHp) (n k w : Nat) : Z (f + 1) 34 L st σ n k w = s_getf 1 0 37 L st σ n k w (zk1 cut G (Z f)) G R T := zrs hZ rfl f L st σ n k w
theorem f_X12_mean_37 (hZ : ZRN (ztb (tb_X12_mean E d mc ms)) cut G R T Z) (f : Nat) (L : ZLV) (st : List Value) (σ : ZHp) (n k w : Nat) : Z (f + 1) 37 L st σ n k w = s_iload 3 38 L st σ n k w (zk1 cut G (Z f)) G R T := zrs hZ rfl f L st σ n k w
theorem f_X12_mean_38 (hZ : ZRN (ztb (tb_X12_mean E d mc ms)) cut G R T Z) (f : Nat) (L : ZLV) (st : List Value) (σ : ZHp) (n k w : Nat) : Z (f + 1) 38 L st σ n k w = s_callV E d mc ms 3 MX4_worth 1 41 L st σ n k w (zk1 cut G (Z f)) G R T := zrs hZ rfl f L st σ n k w
theorem f_X12_mean_41 (hZ : ZRN (ztb (tb_X12_mean E d mc ms)) cut G R T Z) (f : Nat) (L : ZLV) (st : List Value) (σ : ZHp) (n k w : Nat) : Z (f + 1) 41 L st σ n k w = s_iadd 42 L st σ n k w (zk1 cut G (Z f)) G R T := zrs hZ rfl f L st σ n k w
theorem f_X12_mean_42 (hZ : ZRN (ztb (tb_X12_mean E d mc ms)) cut G R T Z) (f : Nat) (L : ZLV) (st : List Value) (σ : ZHp) (n k w : Nat) : Z (f + 1) 42 L st σ n k w = s_istore 2 43 L st σ n k w (zk1 cut G (Z f)) G R T := zrs hZ rfl f L st σ n k w
theorem f_X12_mean_43 (hZ : ZRN (ztb (tb_X12_mean E d mc ms)) cut G R T Z) (f : Nat) (L : ZLV) (st : List Value) (σ : ZHp) (n k w : Nat) : Z (f + 1) 43 L st σ n k w = s_iinc 3 (1) 46 L st σ n k w (zk1 cut G (Z f)) G R T := zrs hZ rfl f L st σ n k w
theorem f_X12_mean_46 (hZ : ZRN (ztb (tb_X12_mean E d mc ms)) cut G R T Z) (f : Nat) (L : ZLV) (st : List Value) (σ : ZHp) (n k w : Nat) : Z (f + 1) 46 L st σ n k w = s_goto 24 L st σ n k w (zk1 cut G (Z f)) G R T := zrs hZ rfl f L st σ n k w
theorem f_X12_mean_49 (hZ : ZRN (ztb (tb_X12_mean E d mc ms)) cut G R T Z) (f : Nat) (L : ZLV) (st : List Value) (σ : ZHp) (n k w : Nat) : Z (f + 1) 49 L st σ n k w = s_iload 2 50 L st σ n k w (zk1 cut G (Z f)) G R T := zrs hZ rfl f L st σ n k w
theorem f_X12_mean_50 (hZ : ZRN (ztb (tb_X12_mean E d mc ms)) cut G R T Z) (f : Nat) (L : ZLV) (st : List Value) (σ : ZHp) (n k w : Nat) : Z (f + 1) 50 L st σ n k w = s_i2d 51 L st σ n k w (zk1 cut G (Z f)) G R T := zrs hZ rfl f L st σ n k w
theorem f_X12_mean_51 (hZ : ZRN (ztb (tb_X12_mean E d mc ms)) cut G R T Z) (f : Nat) (L : ZLV) (st : List Value) (σ : ZHp) (n k w : Nat) : Z (f + 1) 51 L st σ n k w = s_iload 1 52 L st σ n k w (zk1 cut G (Z f)) G R T := zrs hZ rfl f L st σ n k w
theorem f_X12_mean_52 (hZ : ZRN (ztb (tb_X12_mean E d mc ms)) cut G R T Z) (f : Nat) (L : ZLV) (st : List Value) (σ : ZHp) (n k w : Nat) : Z (f + 1) 52 L st σ n k w = s_i2d 53 L st σ n k w (zk1 cut G (Z f)) G R T := zrs hZ rfl f L st σ n k w
theorem f_X12_mean_53 (hZ : ZRN (ztb (tb_X12_mean E d mc ms)) cut G R T Z) (f : Nat) (L : ZLV) (st : List Value) (σ : ZHp) (n k w : Nat) : Z (f + 1) 53 L st σ n k w = s_ddiv 54 L st σ n k w (zk1 cut G (Z f)) G R T := zrs hZ rfl f L st σ n k w
theorem f_X12_mean_54 (hZ : ZRN (ztb (tb_X12_mean E d mc ms)) cut G R T Z) (f : Nat) (L : ZLV) (st : List Value) (σ : ZHp) (n k w : Nat) : Z (f + 1) 54 L st σ n k w = s_dreturn L st σ n k w (zk1 cut G (Z f)) G R T := zrs hZ rfl f L st σ n k w
theorem f_X12_digest_0 (hZ : ZRN (ztb (tb_X12_digest E d mc ms)) cut G R T Z) (f : Nat) (L : ZLV) (st : List Value) (σ : ZHp) (n k w : Nat) : Z (f + 1) 0 L st σ n k w = s_aload 0 1 L st σ n k w (zk1 cut G (Z f)) G R T := zrs hZ rfl f L st σ n k w
theorem f_X12_digest_1 (hZ : ZRN (ztb (tb_X12_digest E d mc ms)) cut G R T Z) (f : Nat) (L : ZLV) (st : List Value) (σ : ZHp) (n k w : Nat) : Z (f + 1) 1 L st σ n k w = s_getf 11 2 4 L st σ n k w (zk1 cut G (Z f)) G R T := zrs hZ rfl f L st σ n k w
theorem f_X12_digest_4 (hZ : ZRN (ztb (tb_X12_digest E d mc ms)) cut G R T Z) (f : Nat) (L : ZLV) (st : List Value) (σ : ZHp) (n k w : Nat) : Z (f + 1) 4 L st σ n k w = s_getf 1 0 7 L st σ n k w (zk1 cut G (Z f)) G R T := zrs hZ rfl f L st σ n k w
theorem f_X12_digest_7 (hZ : ZRN (ztb (tb_X12_digest E d mc ms)) cut G R T Z) (f : Nat) (L : ZLV) (st : List Value) (σ : ZHp) (n k w : Nat) : Z (f + 1) 7 L st σ n k w = s_getf 3 5 10 L st σ n k w (zk1 cut G (Z f)) G R T := zrs hZ rfl f L st σ n k w
theorem f_X12_digest_10 (hZ : ZRN (ztb (tb_X12_digest E d mc ms)) cut G R T Z) (f : Nat) (L : ZLV) (st : List Value) (σ : ZHp) (n k w : Nat) : Z (f + 1) 10 L st σ n k w = s_astore 1 11 L st σ n k w (zk1 cut G (Z f)) G R T := zrs hZ rfl f L st σ n k w
theorem f_X12_digest_11 (hZ : ZRN (ztb (tb_X12_digest E d mc ms)) cut G R T Z) (f : Nat) (L : ZLV) (st : List Value) (σ : ZHp) (n k w : Nat) : Z (f + 1) 11 L st σ n k w = s_const (.long (859)) 14 L st σ n k w (zk1 cut G (Z f)) G R T := zrs hZ rfl f L st σ n k w
theorem f_X12_digest_14 (hZ : ZRN (ztb (tb_X12_digest E d mc ms)) cut G R T Z) (f : Nat) (L : ZLV) (st : List Value) (σ : ZHp) (n k w : Nat) : Z (f + 1) 14 L st σ n k w = s_lstore 2 15 L st σ n k w (zk1 cut G (Z f)) G R T := zrs hZ rfl f L st σ n k w
theorem f_X12_digest_15 (hZ : ZRN (ztb (tb_X12_digest E d mc ms)) cut G R T Z) (f : Nat) (L : ZLV) (st : List Value) (σ : ZHp) (n k w : Nat) : Z (f + 1) 15 L st σ n k w = s_const (.int (0)) 16 L st σ n k w (zk1 cut G (Z f)) G R T := zrs hZ rfl f L st σ n k w
theorem f_X12_digest_16 (hZ : ZRN (ztb (tb_X12_digest E d mc ms)) cut G R T Z) (f : Nat) (L : ZLV) (st : List Value) (σ : ZHp) (n k w : Nat) : Z (f + 1) 16 L st σ n k w = s_istore 4 18 L st σ n k w (zk1 cut G (Z f)) G R T := zrs hZ rfl f L st σ n k w
theorem f_X12_digest_18 (hZ : ZRN (ztb (tb_X12_digest E d mc ms)) cut G R T Z) (f : Nat) (L : ZLV) (st : List Value) (σ : ZHp) (n k w : Nat) : Z (f + 1) 18 L st σ n k w = s_iload 4 20 L st σ n k w (zk1 cut G (Z f)) G R T := zrs hZ rfl f L st σ n k w
theorem f_X12_digest_20 (hZ : ZRN (ztb (tb_X12_digest E d mc ms)) cut G R T Z) (f : Nat) (L : ZLV) (st : List Value) (σ : ZHp) (n k w : Nat) : Z (f + 1) 20 L st σ n k w = s_const (.int (8)) 22 L st σ n k w (zk1 cut G (Z f)) G R T := zrs hZ rfl f L st σ n k w
theorem f_X12_digest_22 (hZ : ZRN (ztb (tb_X12_digest E d mc ms)) cut G R T Z) (f : Nat) (L : ZLV) (st : List Value) (σ : ZHp) (n k w : Nat) : Z (f + 1) 22 L st σ n k w = s_icmp_gt 45 25 L st σ n k w (zk1 cut G (Z f)) G R T := zrs hZ rfl f L st σ n k w
theorem f_X12_digest_25 (hZ : ZRN (ztb (tb_X12_digest E d mc ms)) cut G R T Z) (f : Nat) (L : ZLV) (st : List Value) (σ : ZHp) (n k w : Nat) : Z (f + 1) 25 L st σ n k w = s_lload 2 26 L st σ n k w (zk1 cut G (Z f)) G R T := zrs hZ rfl f L st σ n k w
theorem f_X12_digest_26 (hZ : ZRN (ztb (tb_X12_digest E d mc ms)) cut G R T Z) (f : Nat) (L : ZLV) (st : List Value) (σ : ZHp) (n k w : Nat) : Z (f + 1) 26 L st σ n k w = s_const (.long (31)) 29 L st σ n k w (zk1 cut G (Z f)) G R T := zrs hZ rfl f L st σ n k w
theorem f_X12_digest_29 (hZ : ZRN (ztb (tb_X12_digest E d mc ms)) cut G R T Z) (f : Nat) (L : ZLV) (st : List Value) (σ : ZHp) (n k w : Nat) : Z (f + 1) 29 L st σ n k w = s_lmul 30 L st σ n k w (zk1 cut G (Z f)) G R T := zrs hZ rfl f L st σ n k w
theorem f_X12_digest_30 (hZ : ZRN (ztb (tb_X12_digest E d mc ms)) cut G R T Z) (f : Nat) (L : ZLV) (st : List Value) (σ : ZHp) (n k w : Nat) : Z (f + 1) 30 L st σ n k w = s_aload 0 31 L st σ n k w (zk1 cut G (Z f)) G R T := zrs hZ rfl f L st σ n k w
theorem f_X12_digest_31 (hZ : ZRN (ztb (tb_X12_digest E d mc ms)) cut G R T Z) (f : Nat) (L : ZLV) (st : List Value) (σ : ZHp) (n k w : Nat) : Z (f + 1) 31 L st σ n k w = s_iload 4 33 L st σ n k w (zk1 cut G (Z f)) G R T := zrs hZ rfl f L st σ n k w
theorem f_X12_digest_33 (hZ : ZRN (ztb (tb_X12_digest E d mc ms)) cut G R T Z) (f : Nat) (L : ZLV) (st : List Value) (σ : ZHp) (n k w : Nat) : Z (f + 1) 33 L st σ n k w = s_callVT E d mc ms 11 MX12_count 1 36 L st σ n k w (zk1 cut G (Z f)) G R T := zrs hZ rfl f L st σ n k w
theorem f_X12_digest_36 (hZ : ZRN (ztb (tb_X12_digest E d mc ms)) cut G R T Z) (f : Nat) (L : ZLV) (st : List Value) (σ : ZHp) (n k w : Nat) : Z (f + 1) 36 L st σ n k w = s_i2l 37 L st σ n k w (zk1 cut G (Z f)) G R T := zrs hZ rfl f L st σ n k w
theorem f_X12_digest_37 (hZ : ZRN (ztb (tb_X12_digest E d mc ms)) cut G R T Z) (f : Nat) (L : ZLV) (st : List Value) (σ : ZHp) (n k w : Nat) : Z (f + 1) 37 L st σ n k w = s_ladd 38 L st σ n k w (zk1 cut G (Z f)) G R T := zrs hZ rfl f L st σ n k w
theorem f_X12_digest_38 (hZ : ZRN (ztb (tb_X12_digest E d mc ms)) cut G R T Z) (f : Nat) (L : ZLV) (st : List Value) (σ : ZHp) (n k w : Nat) : Z (f + 1) 38 L st σ n k w = s_lstore 2 39 L st σ n k w (zk1 cut G (Z f)) G R T := zrs hZ rfl f L st σ n k w
theorem f_X12_digest_39 (hZ : ZRN (ztb (tb_X12_digest E d mc ms)) cut G R T Z) (f : Nat) (L : ZLV) (st : List Value) (σ : ZHp) (n k w : Nat) : Z (f + 1) 39 L st σ n k w = s_iinc 4 (1) 42 L st σ n k w (zk1 cut G (Z f)) G R T := zrs hZ rfl f L st σ n k w
theorem f_X12_digest_42 (hZ : ZRN (ztb (tb_X12_digest E d mc ms)) cut G R T Z) (f : Nat) (L : ZLV) (st : List Value) (σ : ZHp) (n k w : Nat) : Z (f + 1) 42 L st σ n k w = s_goto 18 L st σ n k w (zk1 cut G (Z f)) G R T := zrs hZ rfl f L st σ n k w
theorem f_X12_digest_45 (hZ : ZRN (ztb (tb_X12_digest E d mc ms)) cut G R T Z) (f : Nat) (L : ZLV) (st : List Value) (σ : ZHp) (n k w : Nat) : Z (f + 1) 45 L st σ n k w = s_const (.int (0)) 46 L st σ n k w (zk1 cut G (Z f)) G R T := zrs hZ rfl f L st σ n k w
theorem f_X12_digest_46 (hZ : ZRN (ztb (tb_X12_digest E d mc ms)) cut G R T Z) (f : Nat) (L : ZLV) (st : List Value) (σ : ZHp) (n k w : Nat) : Z (f + 1) 46 L st σ n k w = s_istore 4 48 L st σ n k w (zk1 cut G (Z f)) G R T := zrs hZ rfl f L st σ n k w
theorem f_X12_digest_48 (hZ : ZRN (ztb (tb_X12_digest E d mc ms)) cut G R T Z) (f : Nat) (L : ZLV) (st : List Value) (σ : ZHp) (n k w : Nat) : Z (f + 1) 48 L st σ n k w = s_iload 4 50 L st σ n k w (zk1 cut G (Z f)) G R T := zrs hZ rfl f L st σ n k w
theorem f_X12_digest_50 (hZ : ZRN (ztb (tb_X12_digest E d mc ms)) cut G R T Z) (f : Nat) (L : ZLV) (st : List Value) (σ : ZHp) (n k w : Nat) : Z (f + 1) 50 L st σ n k w = s_aload 1 51 L st σ n k w (zk1 cut G (Z f)) G R T := zrs hZ rfl f L st σ n k w
theorem f_X12_digest_51 (hZ : ZRN (ztb (tb_X12_digest E d mc ms)) cut G R T Z) (f : Nat) (L : ZLV) (st : List Value) (σ : ZHp) (n k w : Nat) : Z (f + 1) 51 L st σ n k w = s_getf 5 0 54 L st σ n k w (zk1 cut G (Z f)) G R T := zrs hZ rfl f L st σ n k w
theorem f_X12_digest_54 (hZ : ZRN (ztb (tb_X12_digest E d mc ms)) cut G R T Z) (f : Nat) (L : ZLV) (st : List Value) (σ : ZHp) (n k w : Nat) : Z (f + 1) 54 L st σ n k w = s_icmp_ge 95 57 L st σ n k w (zk1 cut G (Z f)) G R T := zrs hZ rfl f L st σ n k w
theorem f_X12_digest_57 (hZ : ZRN (ztb (tb_X12_digest E d mc ms)) cut G R T Z) (f : Nat) (L : ZLV) (st : List Value) (σ : ZHp) (n k w : Nat) : Z (f + 1) 57 L st σ n k w = s_const (.int (0)) 58 L st σ n k w (zk1 cut G (Z f)) G R T := zrs hZ rfl f L st σ n k w
theorem f_X12_digest_58 (hZ : ZRN (ztb (tb_X12_digest E d mc ms)) cut G R T Z) (f : Nat) (L : ZLV) (st : List Value) (σ : ZHp) (n k w : Nat) : Z (f + 1) 58 L st σ n k w = s_istore 5 60 L st σ n k w (zk1 cut G (Z f)) G R T := zrs hZ rfl f L st σ n k w
theorem f_X12_digest_60 (hZ : ZRN (ztb (tb_X12_digest E d mc ms)) cut G R T Z) (f : Nat) (L : ZLV) (st : List Value) (σ : ZHp) (n k w : Nat) : Z (f + 1) 60 L st σ n k w = s_iload 5 62 L st σ n k w (zk1 cut G (Z f)) G R T := zrs hZ rfl f L st σ n k w
theorem f_X12_digest_62 (hZ : ZRN (ztb (tb_X12_digest E d mc ms)) cut G R T Z) (f : Nat) (L : ZLV) (st : List Value) (σ : ZHp) (n k w : Nat) : Z (f + 1) 62 L st σ n k w = s_const (.int (6)) 64 L st σ n k w (zk1 cut G (Z f)) G R T := zrs hZ rfl f L st σ n k w
theorem f_X12_digest_64 (hZ : ZRN (ztb (tb_X12_digest E d mc ms)) cut G R T Z) (f : Nat) (L : ZLV) (st : List Value) (σ : ZHp) (n k w : Nat) : Z (f + 1) 64 L st σ n k w = s_icmp_gt 89 67 L st σ n k w (zk1 cut G (Z f)) G R T := zrs hZ rfl f L st σ n k w
theorem f_X12_digest_67 (hZ : ZRN (ztb (tb_X12_digest E d mc ms)) cut G R T Z) (f : Nat) (L : ZLV) (st : List Value) (σ : ZHp) (n k w : Nat) : Z (f + 1) 67 L st σ n k w = s_lload 2 68 L st σ n k w (zk1 cut G (Z f)) G R T := zrs hZ rfl f L st σ n k w
theorem f_X12_digest_68 (hZ : ZRN (ztb (tb_X12_digest E d mc ms)) cut G R T Z) (f : Nat) (L : ZLV) (st : List Value) (σ : ZHp) (n k w : Nat) : Z (f + 1) 68 L st σ n k w = s_const (.long (31)) 71 L st σ n k w (zk1 cut G (Z f)) G R T := zrs hZ rfl f L st σ n k w
theorem f_X12_digest_71 (hZ : ZRN (ztb (tb_X12_digest E d mc ms)) cut G R T Z) (f : Nat) (L : ZLV) (st : List Value) (σ : ZHp) (n k w : Nat) : Z (f + 1) 71 L st σ n k w = s_lmul 72 L st σ n k w (zk1 cut G (Z f)) G R T := zrs hZ rfl f L st σ n k w
theorem f_X12_digest_72 (hZ : ZRN (ztb (tb_X12_digest E d mc ms)) cut G R T Z) (f : Nat) (L : ZLV) (st : List Value) (σ : ZHp) (n k w : Nat) : Z (f + 1) 72 L st σ n k w = s_aload 0 73 L st σ n k w (zk1 cut G (Z f)) G R T := zrs hZ rfl f L st σ n k w
theorem f_X12_digest_73 (hZ : ZRN (ztb (tb_X12_digest E d mc ms)) cut G R T Z) (f : Nat) (L : ZLV) (st : List Value) (σ : ZHp) (n k w : Nat) : Z (f + 1) 73 L st σ n k w = s_iload 4 75 L st σ n k w (zk1 cut G (Z f)) G R T := zrs hZ rfl f L st σ n k w
theorem f_X12_digest_75 (hZ : ZRN (ztb (tb_X12_digest E d mc ms)) cut G R T Z) (f : Nat) (L : ZLV) (st : List Value) (σ : ZHp) (n k w : Nat) : Z (f + 1) 75 L st σ n k w = s_iload 5 77 L st σ n k w (zk1 cut G (Z f)) G R T := zrs hZ rfl f L st σ n k w
theorem f_X12_digest_77 (hZ : ZRN (ztb (tb_X12_digest E d mc ms)) cut G R T Z) (f : Nat) (L : ZLV) (st : List Value) (σ : ZHp) (n k w : Nat) : Z (f + 1) 77 L st σ n k w = s_callVT E d mc ms 11 MX12_card 2 80 L st σ n k w (zk1 cut G (Z f)) G R T := zrs hZ rfl f L st σ n k w
theorem f_X12_digest_80 (hZ : ZRN (ztb (tb_X12_digest E d mc ms)) cut G R T Z) (f : Nat) (L : ZLV) (st : List Value) (σ : ZHp) (n k w : Nat) : Z (f + 1) 80 L st σ n k w = s_i2l 81 L st σ n k w (zk1 cut G (Z f)) G R T := zrs hZ rfl f L st σ n k w
theorem f_X12_digest_81 (hZ : ZRN (ztb (tb_X12_digest E d mc ms)) cut G R T Z) (f : Nat) (L : ZLV) (st : List Value) (σ : ZHp) (n k w : Nat) : Z (f + 1) 81 L st σ n k w = s_ladd 82 L st σ n k w (zk1 cut G (Z f)) G R T := zrs hZ rfl f L st σ n k w
theorem f_X12_digest_82 (hZ : ZRN (ztb (tb_X12_digest E d mc ms)) cut G R T Z) (f : Nat) (L : ZLV) (st : List Value) (σ : ZHp) (n k w : Nat) : Z (f + 1) 82 L st σ n k w = s_lstore 2 83 L st σ n k w (zk1 cut G (Z f)) G R T := zrs hZ rfl f L st σ n k w
theorem f_X12_digest_83 (hZ : ZRN (ztb (tb_X12_digest E d mc ms)) cut G R T Z) (f : Nat) (L : ZLV) (st : List Value) (σ : ZHp) (n k w : Nat) : Z (f + 1) 83 L st σ n k w = s_iinc 5 (1) 86 L st σ n k w (zk1 cut G (Z f)) G R T := zrs hZ rfl f L st σ n k w
theorem f_X12_digest_86 (hZ : ZRN (ztb (tb_X12_digest E d mc ms)) cut G R T Z) (f : Nat) (L : ZLV) (st : List Value) (σ : ZHp) (n k w : Nat) : Z (f + 1) 86 L st σ n k w = s_goto 60 L st σ n k w (zk1 cut G (Z f)) G R T := zrs hZ rfl f L st σ n k w
theorem f_X12_digest_89 (hZ : ZRN (ztb (tb_X12_digest E d mc ms)) cut G R T Z) (f : Nat) (L : ZLV) (st : List Value) (σ : ZHp) (n k w : Nat) : Z (f + 1) 89 L st σ n k w = s_iinc 4 (1) 92 L st σ n k w (zk1 cut G (Z f)) G R T := zrs hZ rfl f L st σ n k w
theorem f_X12_digest_92 (hZ : ZRN (ztb (tb_X12_digest E d mc ms)) cut G R T Z) (f : Nat) (L : ZLV) (st : List Value) (σ : ZHp) (n k w : Nat) : Z (f + 1) 92 L st σ n k w = s_goto 48 L st σ n k w (zk1 cut G (Z f)) G R T := zrs hZ rfl f L st σ n k w
theorem f_X12_digest_95 (hZ : ZRN (ztb (tb_X12_digest E d mc ms)) cut G R T Z) (f : Nat) (L : ZLV) (st : List Value) (σ : ZHp) (n k w : Nat) : Z (f + 1) 95 L st σ n k w = s_const (.int (0)) 96 L st σ n k w (zk1 cut G (Z f)) G R T := zrs hZ rfl f L st σ n k w
theorem f_X12_digest_96 (hZ : ZRN (ztb (tb_X12_digest E d mc ms)) cut G R T Z) (f : Nat) (L : ZLV) (st : List Value) (σ : ZHp) (n k w : Nat) : Z (f + 1) 96 L st σ n k w = s_istore 4 98 L st σ n k w (zk1 cut G (Z f)) G R T := zrs hZ rfl f L st σ n k w
theorem f_X12_digest_98 (hZ : ZRN (ztb (tb_X12_digest E d mc ms)) cut G R T Z) (f : Nat) (L : ZLV) (st : List Value) (σ : ZHp) (n k w : Nat) : Z (f + 1) 98 L st σ n k w = s_iload 4 100 L st σ n k w (zk1 cut G (Z f)) G R T := zrs hZ rfl f L st σ n k w
theorem f_X12_digest_100 (hZ : ZRN (ztb (tb_X12_digest E d mc ms)) cut G R T Z) (f : Nat) (L : ZLV) (st : List Value) (σ : ZHp) (n k w : Nat) : Z (f + 1) 100 L st σ n k w = s_aload 1 101 L st σ n k w (zk1 cut G (Z f)) G R T := zrs hZ rfl f L st σ n k w
theorem f_X12_digest_101 (hZ : ZRN (ztb (tb_X12_digest E d mc ms)) cut G R T Z) (f : Nat) (L : ZLV) (st : List Value) (σ : ZHp) (n k w : Nat) : Z (f + 1) 101 L st σ n k w = s_getf 5 1 104 L st σ n k w (zk1 cut G (Z f)) G R T := zrs hZ rfl f L st σ n k w
theorem f_X12_digest_104 (hZ : ZRN (ztb (tb_X12_digest E d mc ms)) cut G R T Z) (f : Nat) (L : ZLV) (st : List Value) (σ : ZHp) (n k w : Nat) : Z (f + 1) 104 L st σ n k w = s_icmp_ge 121 107 L st σ n k w (zk1 cut G (Z f)) G R T := zrs hZ rfl f L st σ n k w
theorem f_X12_digest_107 (hZ : ZRN (ztb (tb_X12_digest E d mc ms)) cut G R T Z) (f : Nat) (L : ZLV) (st : List Value) (σ : ZHp) (n k w : Nat) : Z (f + 1) 107 L st σ n k w = s_aload 0 108 L st σ n k w (zk1 cut G (Z f)) G R T := zrs hZ rfl f L st σ n k w
theorem f_X12_digest_108 (hZ : ZRN (ztb (tb_X12_digest E d mc ms)) cut G R T Z) (f : Nat) (L : ZLV) (st : List Value) (σ : ZHp) (n k w : Nat) : Z (f + 1) 108 L st σ n k w = s_lload 2 109 L st σ n k w (zk1 cut G (Z f)) G R T := zrs hZ rfl f L st σ n k w
theorem f_X12_digest_109 (hZ : ZRN (ztb (tb_X12_digest E d mc ms)) cut G R T Z) (f : Nat) (L : ZLV) (st : List Value) (σ : ZHp) (n k w : Nat) : Z (f + 1) 109 L st σ n k w = s_iload 4 111 L st σ n k w (zk1 cut G (Z f)) G R T := zrs hZ rfl f L st σ n k w
theorem f_X12_digest_111 (hZ : ZRN (ztb (tb_X12_digest E d mc ms)) cut G R T Z) (f : Nat) (L : ZLV) (st : List Value) (σ : ZHp) (n k w : Nat) : Z (f + 1) 111 L st σ n k w = s_callVT E d mc ms 11 MX12_digestMerchant 2 114 L st σ n k w (zk1 cut G (Z f)) G R T := zrs hZ rfl f L st σ n k w
theorem f_X12_digest_114 (hZ : ZRN (ztb (tb_X12_digest E d mc ms)) cut G R T Z) (f : Nat) (L : ZLV) (st : List Value) (σ : ZHp) (n k w : Nat) : Z (f + 1) 114 L st σ n k w = s_lstore 2 115 L st σ n k w (zk1 cut G (Z f)) G R T := zrs hZ rfl f L st σ n k w
theorem f_X12_digest_115 (hZ : ZRN (ztb (tb_X12_digest E d mc ms)) cut G R T Z) (f : Nat) (L : ZLV) (st : List Value) (σ : ZHp) (n k w : Nat) : Z (f + 1) 115 L st σ n k w = s_iinc 4 (1) 118 L st σ n k w (zk1 cut G (Z f)) G R T := zrs hZ rfl f L st σ n k w
theorem f_X12_digest_118 (hZ : ZRN (ztb (tb_X12_digest E d mc ms)) cut G R T Z) (f : Nat) (L : ZLV) (st : List Value) (σ : ZHp) (n k w : Nat) : Z (f + 1) 118 L st σ n k w = s_goto 98 L st σ n k w (zk1 cut G (Z f)) G R T := zrs hZ rfl f L st σ n k w
theorem f_X12_digest_121 (hZ : ZRN (ztb (tb_X12_digest E d mc ms)) cut G R T Z) (f : Nat) (L : ZLV) (st : List Value) (σ : ZHp) (n k w : Nat) : Z (f + 1) 121 L st σ n k w = s_lload 2 122 L st σ n k w (zk1 cut G (Z f)) G R T := zrs hZ rfl f L st σ n k w
theorem f_X12_digest_122 (hZ : ZRN (ztb (tb_X12_digest E d mc ms)) cut G R T Z) (f : Nat) (L : ZLV) (st : List Value) (σ : ZHp) (n k w : Nat) : Z (f + 1) 122 L st σ n k w = s_lreturn L st σ n k w (zk1 cut G (Z f)) G R T := zrs hZ rfl f L st σ n k w
theorem f_X12_digestMerchant_0 (hZ : ZRN (ztb (tb_X12_digestMerchant E d mc ms)) cut G R T Z) (f : Nat) (L : ZLV) (st : List Value) (σ : ZHp) (n k w : Nat) : Z (f + 1) 0 L st σ n k w = s_aload 0 1 L st σ n k w (zk1 cut G (Z f)) G R T := zrs hZ rfl f L st σ n k w
theorem f_X12_digestMerchant_1 (hZ : ZRN (ztb (tb_X12_digestMerchant E d mc ms)) cut G R T Z) (f : Nat) (L : ZLV) (st : List Value) (σ : ZHp) (n k w : Nat) : Z (f + 1) 1 L st σ n k w = s_getf 11 2 4 L st σ n k w (zk1 cut G (Z f)) G R T := zrs hZ rfl f L st σ n k w
theorem f_X12_digestMerchant_4 (hZ : ZRN (ztb (tb_X12_digestMerchant E d mc ms)) cut G R T Z) (f : Nat) (L : ZLV) (st : List Value) (σ : ZHp) (n k w : Nat) : Z (f + 1) 4 L st σ n k w = s_getf 1 0 7 L st σ n k w (zk1 cut G (Z f)) G R T := zrs hZ rfl f L st σ n k w
theorem f_X12_digestMerchant_7 (hZ : ZRN (ztb (tb_X12_digestMerchant E d mc ms)) cut G R T Z) (f : Nat) (L : ZLV) (st : List Value) (σ : ZHp) (n k w : Nat) : Z (f + 1) 7 L st σ n k w = s_iload 3 8 L st σ n k w (zk1 cut G (Z f)) G R T := zrs hZ rfl f L st σ n k w
theorem f_X12_digestMerchant_8 (hZ : ZRN (ztb (tb_X12_digestMerchant E d mc ms)) cut G R T Z) (f : Nat) (L : ZLV) (st : List Value) (σ : ZHp) (n k w : Nat) : Z (f + 1) 8 L st σ n k w = s_callV E d mc ms 3 MX4_trader 1 11 L st σ n k w (zk1 cut G (Z f)) G R T := zrs hZ rfl f L st σ n k w
theorem f_X12_digestMerchant_11 (hZ : ZRN (ztb (tb_X12_digestMerchant E d mc ms)) cut G R T Z) (f : Nat) (L : ZLV) (st : List Value) (σ : ZHp) (n k w : Nat) : Z (f + 1) 11 L st σ n k w = s_astore 4 13 L st σ n k w (zk1 cut G (Z f)) G R T := zrs hZ rfl f L st σ n k w
theorem f_X12_digestMerchant_13 (hZ : ZRN (ztb (tb_X12_digestMerchant E d mc ms)) cut G R T Z) (f : Nat) (L : ZLV) (st : List Value) (σ : ZHp) (n k w : Nat) : Z (f + 1) 13 L st σ n k w = s_lload 1 14 L st σ n k w (zk1 cut G (Z f)) G R T := zrs hZ rfl f L st σ n k w
theorem f_X12_digestMerchant_14 (hZ : ZRN (ztb (tb_X12_digestMerchant E d mc ms)) cut G R T Z) (f : Nat) (L : ZLV) (st : List Value) (σ : ZHp) (n k w : Nat) : Z (f + 1) 14 L st σ n k w = s_lstore 5 16 L st σ n k w (zk1 cut G (Z f)) G R T := zrs hZ rfl f L st σ n k w
theorem f_X12_digestMerchant_16 (hZ : ZRN (ztb (tb_X12_digestMerchant E d mc ms)) cut G R T Z) (f : Nat) (L : ZLV) (st : List Value) (σ : ZHp) (n k w : Nat) : Z (f + 1) 16 L st σ n k w = s_const (.int (0)) 17 L st σ n k w (zk1 cut G (Z f)) G R T := zrs hZ rfl f L st σ n k w
theorem f_X12_digestMerchant_17 (hZ : ZRN (ztb (tb_X12_digestMerchant E d mc ms)) cut G R T Z) (f : Nat) (L : ZLV) (st : List Value) (σ : ZHp) (n k w : Nat) : Z (f + 1) 17 L st σ n k w = s_istore 7 19 L st σ n k w (zk1 cut G (Z f)) G R T := zrs hZ rfl f L st σ n k w
theorem f_X12_digestMerchant_19 (hZ : ZRN (ztb (tb_X12_digestMerchant E d mc ms)) cut G R T Z) (f : Nat) (L : ZLV) (st : List Value) (σ : ZHp) (n k w : Nat) : Z (f + 1) 19 L st σ n k w = s_iload 7 21 L st σ n k w (zk1 cut G (Z f)) G R T := zrs hZ rfl f L st σ n k w
theorem f_X12_digestMerchant_21 (hZ : ZRN (ztb (tb_X12_digestMerchant E d mc ms)) cut G R T Z) (f : Nat) (L : ZLV) (st : List Value) (σ : ZHp) (n k w : Nat) : Z (f + 1) 21 L st σ n k w = s_const (.int (7)) 23 L st σ n k w (zk1 cut G (Z f)) G R T := zrs hZ rfl f L st σ n k w
theorem f_X12_digestMerchant_23 (hZ : ZRN (ztb (tb_X12_digestMerchant E d mc ms)) cut G R T Z) (f : Nat) (L : ZLV) (st : List Value) (σ : ZHp) (n k w : Nat) : Z (f + 1) 23 L st σ n k w = s_icmp_gt 49 26 L st σ n k w (zk1 cut G (Z f)) G R T := zrs hZ rfl f L st σ n k w
theorem f_X12_digestMerchant_26 (hZ : ZRN (ztb (tb_X12_digestMerchant E d mc ms)) cut G R T Z) (f : Nat) (L : ZLV) (st : List Value) (σ : ZHp) (n k w : Nat) : Z (f + 1) 26 L st σ n k w = s_lload 5 28 L st σ n k w (zk1 cut G (Z f)) G R T := zrs hZ rfl f L st σ n k w
theorem f_X12_digestMerchant_28 (hZ : ZRN (ztb (tb_X12_digestMerchant E d mc ms)) cut G R T Z) (f : Nat) (L : ZLV) (st : List Value) (σ : ZHp) (n k w : Nat) : Z (f + 1) 28 L st σ n k w = s_const (.long (31)) 31 L st σ n k w (zk1 cut G (Z f)) G R T := zrs hZ rfl f L st σ n k w
theorem f_X12_digestMerchant_31 (hZ : ZRN (ztb (tb_X12_digestMerchant E d mc ms)) cut G R T Z) (f : Nat) (L : ZLV) (st : List Value) (σ : ZHp) (n k w : Nat) : Z (f + 1) 31 L st σ n k w = s_lmul 32 L st σ n k w (zk1 cut G (Z f)) G R T := zrs hZ rfl f L st σ n k w
theorem f_X12_digestMerchant_32 (hZ : ZRN (ztb (tb_X12_digestMerchant E d mc ms)) cut G R T Z) (f : Nat) (L : ZLV) (st : List Value) (σ : ZHp) (n k w : Nat) : Z (f + 1) 32 L st σ n k w = s_aload 0 33 L st σ n k w (zk1 cut G (Z f)) G R T := zrs hZ rfl f L st σ n k w
theorem f_X12_digestMerchant_33 (hZ : ZRN (ztb (tb_X12_digestMerchant E d mc ms)) cut G R T Z) (f : Nat) (L : ZLV) (st : List Value) (σ : ZHp) (n k w : Nat) : Z (f + 1) 33 L st σ n k w = s_iload 3 34 L st σ n k w (zk1 cut G (Z f)) G R T := zrs hZ rfl f L st σ n k w
theorem f_X12_digestMerchant_34 (hZ : ZRN (ztb (tb_X12_digestMerchant E d mc ms)) cut G R T Z) (f : Nat) (L : ZLV) (st : List Value) (σ : ZHp) (n k w : Nat) : Z (f + 1) 34 L st σ n k w = s_iload 7 36 L st σ n k w (zk1 cut G (Z f)) G R T := zrs hZ rfl f L st σ n k w
theorem f_X12_digestMerchant_36 (hZ : ZRN (ztb (tb_X12_digestMerchant E d mc ms)) cut G R T Z) (f : Nat) (L : ZLV) (st : List Value) (σ : ZHp) (n k w : Nat) : Z (f + 1) 36 L st σ n k w = s_callVT E d mc ms 11 MX12_merchant 2 39 L st σ n k w (zk1 cut G (Z f)) G R T := zrs hZ rfl f L st σ n k w
theorem f_X12_digestMerchant_39 (hZ : ZRN (ztb (tb_X12_digestMerchant E d mc ms)) cut G R T Z) (f : Nat) (L : ZLV) (st : List Value) (σ : ZHp) (n k w : Nat) : Z (f + 1) 39 L st σ n k w = s_i2l 40 L st σ n k w (zk1 cut G (Z f)) G R T := zrs hZ rfl f L st σ n k w
theorem f_X12_digestMerchant_40 (hZ : ZRN (ztb (tb_X12_digestMerchant E d mc ms)) cut G R T Z) (f : Nat) (L : ZLV) (st : List Value) (σ : ZHp) (n k w : Nat) : Z (f + 1) 40 L st σ n k w = s_ladd 41 L st σ n k w (zk1 cut G (Z f)) G R T := zrs hZ rfl f L st σ n k w
theorem f_X12_digestMerchant_41 (hZ : ZRN (ztb (tb_X12_digestMerchant E d mc ms)) cut G R T Z) (f : Nat) (L : ZLV) (st : List Value) (σ : ZHp) (n k w : Nat) : Z (f + 1) 41 L st σ n k w = s_lstore 5 43 L st σ n k w (zk1 cut G (Z f)) G R T := zrs hZ rfl f L st σ n k w
theorem f_X12_digestMerchant_43 (hZ : ZRN (ztb (tb_X12_digestMerchant E d mc ms)) cut G R T Z) (f : Nat) (L : ZLV) (st : List Value) (σ : ZHp) (n k w : Nat) : Z (f + 1) 43 L st σ n k w = s_iinc 7 (1) 46 L st σ n k w (zk1 cut G (Z f)) G R T := zrs hZ rfl f L st σ n k w
theorem f_X12_digestMerchant_46 (hZ : ZRN (ztb (tb_X12_digestMerchant E d mc ms)) cut G R T Z) (f : Nat) (L : ZLV) (st : List Value) (σ : ZHp) (n k w : Nat) : Z (f + 1) 46 L st σ n k w = s_goto 19 L st σ n k w (zk1 cut G (Z f)) G R T := zrs hZ rfl f L st σ n k w
theorem f_X12_digestMerchant_49 (hZ : ZRN (ztb (tb_X12_digestMerchant E d mc ms)) cut G R T Z) (f : Nat) (L : ZLV) (st : List Value) (σ : ZHp) (n k w : Nat) : Z (f + 1) 49 L st σ n k w = s_const (.int (0)) 50 L st σ n k w (zk1 cut G (Z f)) G R T := zrs hZ rfl f L st σ n k w
theorem f_X12_digestMerchant_50 (hZ : ZRN (ztb (tb_X12_digestMerchant E d mc ms)) cut G R T Z) (f : Nat) (L : ZLV) (st : List Value) (σ : ZHp) (n k w : Nat) : Z (f + 1) 50 L st σ n k w = s_istore 7 52 L st σ n k w (zk1 cut G (Z f)) G R T := zrs hZ rfl f L st σ n k w
theorem f_X12_digestMerchant_52 (hZ : ZRN (ztb (tb_X12_digestMerchant E d mc ms)) cut G R T Z) (f : Nat) (L : ZLV) (st : List Value) (σ : ZHp) (n k w : Nat) : Z (f + 1) 52 L st σ n k w = s_iload 7 54 L st σ n k w (zk1 cut G (Z f)) G R T := zrs hZ rfl f L st σ n k w
theorem f_X12_digestMerchant_54 (hZ : ZRN (ztb (tb_X12_digestMerchant E d mc ms)) cut G R T Z) (f : Nat) (L : ZLV) (st : List Value) (σ : ZHp) (n k w : Nat) : Z (f + 1) 54 L st σ n k w = s_aload 4 56 L st σ n k w (zk1 cut G (Z f)) G R T := zrs hZ rfl f L st σ n k w
theorem f_X12_digestMerchant_56 (hZ : ZRN (ztb (tb_X12_digestMerchant E d mc ms)) cut G R T Z) (f : Nat) (L : ZLV) (st : List Value) (σ : ZHp) (n k w : Nat) : Z (f + 1) 56 L st σ n k w = s_callV E d mc ms 10 MX11_deckSize 0 59 L st σ n k w (zk1 cut G (Z f)) G R T := zrs hZ rfl f L st σ n k w
theorem f_X12_digestMerchant_59 (hZ : ZRN (ztb (tb_X12_digestMerchant E d mc ms)) cut G R T Z) (f : Nat) (L : ZLV) (st : List Value) (σ : ZHp) (n k w : Nat) : Z (f + 1) 59 L st σ n k w = s_icmp_ge 85 62 L st σ n k w (zk1 cut G (Z f)) G R T := zrs hZ rfl f L st σ n k w
theorem f_X12_digestMerchant_62 (hZ : ZRN (ztb (tb_X12_digestMerchant E d mc ms)) cut G R T Z) (f : Nat) (L : ZLV) (st : List Value) (σ : ZHp) (n k w : Nat) : Z (f + 1) 62 L st σ n k w = s_lload 5 64 L st σ n k w (zk1 cut G (Z f)) G R T := zrs hZ rfl f L st σ n k w
theorem f_X12_digestMerchant_64 (hZ : ZRN (ztb (tb_X12_digestMerchant E d mc ms)) cut G R T Z) (f : Nat) (L : ZLV) (st : List Value) (σ : ZHp) (n k w : Nat) : Z (f + 1) 64 L st σ n k w = s_const (.long (31)) 67 L st σ n k w (zk1 cut G (Z f)) G R T := zrs hZ rfl f L st σ n k w
theorem f_X12_digestMerchant_67 (hZ : ZRN (ztb (tb_X12_digestMerchant E d mc ms)) cut G R T Z) (f : Nat) (L : ZLV) (st : List Value) (σ : ZHp) (n k w : Nat) : Z (f + 1) 67 L st σ n k w = s_lmul 68 L st σ n k w (zk1 cut G (Z f)) G R T := zrs hZ rfl f L st σ n k w
theorem f_X12_digestMerchant_68 (hZ : ZRN (ztb (tb_X12_digestMerchant E d mc ms)) cut G R T Z) (f : Nat) (L : ZLV) (st : List Value) (σ : ZHp) (n k w : Nat) : Z (f + 1) 68 L st σ n k w = s_aload 4 70 L st σ n k w (zk1 cut G (Z f)) G R T := zrs hZ rfl f L st σ n k w
theorem f_X12_digestMerchant_70 (hZ : ZRN (ztb (tb_X12_digestMerchant E d mc ms)) cut G R T Z) (f : Nat) (L : ZLV) (st : List Value) (σ : ZHp) (n k w : Nat) : Z (f + 1) 70 L st σ n k w = s_iload 7 72 L st σ n k w (zk1 cut G (Z f)) G R T := zrs hZ rfl f L st σ n k w
theorem f_X12_digestMerchant_72 (hZ : ZRN (ztb (tb_X12_digestMerchant E d mc ms)) cut G R T Z) (f : Nat) (L : ZLV) (st : List Value) (σ : ZHp) (n k w : Nat) : Z (f + 1) 72 L st σ n k w = s_callV E d mc ms 10 MX11_deckCard 1 75 L st σ n k w (zk1 cut G (Z f)) G R T := zrs hZ rfl f L st σ n k w
theorem f_X12_digestMerchant_75 (hZ : ZRN (ztb (tb_X12_digestMerchant E d mc ms)) cut G R T Z) (f : Nat) (L : ZLV) (st : List Value) (σ : ZHp) (n k w : Nat) : Z (f + 1) 75 L st σ n k w = s_i2l 76 L st σ n k w (zk1 cut G (Z f)) G R T := zrs hZ rfl f L st σ n k w
theorem f_X12_digestMerchant_76 (hZ : ZRN (ztb (tb_X12_digestMerchant E d mc ms)) cut G R T Z) (f : Nat) (L : ZLV) (st : List Value) (σ : ZHp) (n k w : Nat) : Z (f + 1) 76 L st σ n k w = s_ladd 77 L st σ n k w (zk1 cut G (Z f)) G R T := zrs hZ rfl f L st σ n k w
theorem f_X12_digestMerchant_77 (hZ : ZRN (ztb (tb_X12_digestMerchant E d mc ms)) cut G R T Z) (f : Nat) (L : ZLV) (st : List Value) (σ : ZHp) (n k w : Nat) : Z (f + 1) 77 L st σ n k w = s_lstore 5 79 L st σ n k w (zk1 cut G (Z f)) G R T := zrs hZ rfl f L st σ n k w
theorem f_X12_digestMerchant_79 (hZ : ZRN (ztb (tb_X12_digestMerchant E d mc ms)) cut G R T Z) (f : Nat) (L : ZLV) (st : List Value) (σ : ZHp) (n k w : Nat) : Z (f + 1) 79 L st σ n k w = s_iinc 7 (1) 82 L st σ n k w (zk1 cut G (Z f)) G R T := zrs hZ rfl f L st σ n k w
theorem f_X12_digestMerchant_82 (hZ : ZRN (ztb (tb_X12_digestMerchant E d mc ms)) cut G R T Z) (f : Nat) (L : ZLV) (st : List Value) (σ : ZHp) (n k w : Nat) : Z (f + 1) 82 L st σ n k w = s_goto 52 L st σ n k w (zk1 cut G (Z f)) G R T := zrs hZ rfl f L st σ n k w
theorem f_X12_digestMerchant_85 (hZ : ZRN (ztb (tb_X12_digestMerchant E d mc ms)) cut G R T Z) (f : Nat) (L : ZLV) (st : List Value) (σ : ZHp) (n k w : Nat) : Z (f + 1) 85 L st σ n k w = s_const (.int (0)) 86 L st σ n k w (zk1 cut G (Z f)) G R T := zrs hZ rfl f L st σ n k w
theorem f_X12_digestMerchant_86 (hZ : ZRN (ztb (tb_X12_digestMerchant E d mc ms)) cut G R T Z) (f : Nat) (L : ZLV) (st : List Value) (σ : ZHp) (n k w : Nat) : Z (f + 1) 86 L st σ n k w = s_istore 7 88 L st σ n k w (zk1 cut G (Z f)) G R T := zrs hZ rfl f L st σ n k w
theorem f_X12_digestMerchant_88 (hZ : ZRN (ztb (tb_X12_digestMerchant E d mc ms)) cut G R T Z) (f : Nat) (L : ZLV) (st : List Value) (σ : ZHp) (n k w : Nat) : Z (f + 1) 88 L st σ n k w = s_iload 7 90 L st σ n k w (zk1 cut G (Z f)) G R T := zrs hZ rfl f L st σ n k w
theorem f_X12_digestMerchant_90 (hZ : ZRN (ztb (tb_X12_digestMerchant E d mc ms)) cut G R T Z) (f : Nat) (L : ZLV) (st : List Value) (σ : ZHp) (n k w : Nat) : Z (f + 1) 90 L st σ n k w = s_aload 4 92 L st σ n k w (zk1 cut G (Z f)) G R T := zrs hZ rfl f L st σ n k w
theorem f_X12_digestMerchant_92 (hZ : ZRN (ztb (tb_X12_digestMerchant E d mc ms)) cut G R T Z) (f : Nat) (L : ZLV) (st : List Value) (σ : ZHp) (n k w : Nat) : Z (f + 1) 92 L st σ n k w = s_getf 10 1 95 L st σ n k w (zk1 cut G (Z f)) G R T := zrs hZ rfl f L st σ n k w
theorem f_X12_digestMerchant_95 (hZ : ZRN (ztb (tb_X12_digestMerchant E d mc ms)) cut G R T Z) (f : Nat) (L : ZLV) (st : List Value) (σ : ZHp) (n k w : Nat) : Z (f + 1) 95 L st σ n k w = s_callV E d mc ms 4 MX5_size 0 98 L st σ n k w (zk1 cut G (Z f)) G R T := zrs hZ rfl f L st σ n k w
theorem f_X12_digestMerchant_98 (hZ : ZRN (ztb (tb_X12_digestMerchant E d mc ms)) cut G R T Z) (f : Nat) (L : ZLV) (st : List Value) (σ : ZHp) (n k w : Nat) : Z (f + 1) 98 L st σ n k w = s_icmp_ge 127 101 L st σ n k w (zk1 cut G (Z f)) G R T := zrs hZ rfl f L st σ n k w
theorem f_X12_digestMerchant_101 (hZ : ZRN (ztb (tb_X12_digestMerchant E d mc ms)) cut G R T Z) (f : Nat) (L : ZLV) (st : List Value) (σ : ZHp) (n k w : Nat) : Z (f + 1) 101 L st σ n k w = s_lload 5 103 L st σ n k w (zk1 cut G (Z f)) G R T := zrs hZ rfl f L st σ n k w
theorem f_X12_digestMerchant_103 (hZ : ZRN (ztb (tb_X12_digestMerchant E d mc ms)) cut G R T Z) (f : Nat) (L : ZLV) (st : List Value) (σ : ZHp) (n k w : Nat) : Z (f + 1) 103 L st σ n k w = s_const (.long (31)) 106 L st σ n k w (zk1 cut G (Z f)) G R T := zrs hZ rfl f L st σ n k w
theorem f_X12_digestMerchant_106 (hZ : ZRN (ztb (tb_X12_digestMerchant E d mc ms)) cut G R T Z) (f : Nat) (L : ZLV) (st : List Value) (σ : ZHp) (n k w : Nat) : Z (f + 1) 106 L st σ n k w = s_lmul 107 L st σ n k w (zk1 cut G (Z f)) G R T := zrs hZ rfl f L st σ n k w
theorem f_X12_digestMerchant_107 (hZ : ZRN (ztb (tb_X12_digestMerchant E d mc ms)) cut G R T Z) (f : Nat) (L : ZLV) (st : List Value) (σ : ZHp) (n k w : Nat) : Z (f + 1) 107 L st σ n k w = s_aload 4 109 L st σ n k w (zk1 cut G (Z f)) G R T := zrs hZ rfl f L st σ n k w
theorem f_X12_digestMerchant_109 (hZ : ZRN (ztb (tb_X12_digestMerchant E d mc ms)) cut G R T Z) (f : Nat) (L : ZLV) (st : List Value) (σ : ZHp) (n k w : Nat) : Z (f + 1) 109 L st σ n k w = s_getf 10 1 112 L st σ n k w (zk1 cut G (Z f)) G R T := zrs hZ rfl f L st σ n k w
theorem f_X12_digestMerchant_112 (hZ : ZRN (ztb (tb_X12_digestMerchant E d mc ms)) cut G R T Z) (f : Nat) (L : ZLV) (st : List Value) (σ : ZHp) (n k w : Nat) : Z (f + 1) 112 L st σ n k w = s_iload 7 114 L st σ n k w (zk1 cut G (Z f)) G R T := zrs hZ rfl f L st σ n k w
theorem f_X12_digestMerchant_114 (hZ : ZRN (ztb (tb_X12_digestMerchant E d mc ms)) cut G R T Z) (f : Nat) (L : ZLV) (st : List Value) (σ : ZHp) (n k w : Nat) : Z (f + 1) 114 L st σ n k w = s_callV E d mc ms 4 MX5_get 1 117 L st σ n k w (zk1 cut G (Z f)) G R T := zrs hZ rfl f L st σ n k w
theorem f_X12_digestMerchant_117 (hZ : ZRN (ztb (tb_X12_digestMerchant E d mc ms)) cut G R T Z) (f : Nat) (L : ZLV) (st : List Value) (σ : ZHp) (n k w : Nat) : Z (f + 1) 117 L st σ n k w = s_i2l 118 L st σ n k w (zk1 cut G (Z f)) G R T := zrs hZ rfl f L st σ n k w
theorem f_X12_digestMerchant_118 (hZ : ZRN (ztb (tb_X12_digestMerchant E d mc ms)) cut G R T Z) (f : Nat) (L : ZLV) (st : List Value) (σ : ZHp) (n k w : Nat) : Z (f + 1) 118 L st σ n k w = s_ladd 119 L st σ n k w (zk1 cut G (Z f)) G R T := zrs hZ rfl f L st σ n k w
theorem f_X12_digestMerchant_119 (hZ : ZRN (ztb (tb_X12_digestMerchant E d mc ms)) cut G R T Z) (f : Nat) (L : ZLV) (st : List Value) (σ : ZHp) (n k w : Nat) : Z (f + 1) 119 L st σ n k w = s_lstore 5 121 L st σ n k w (zk1 cut G (Z f)) G R T := zrs hZ rfl f L st σ n k w
theorem f_X12_digestMerchant_121 (hZ : ZRN (ztb (tb_X12_digestMerchant E d mc ms)) cut G R T Z) (f : Nat) (L : ZLV) (st : List Value) (σ : ZHp) (n k w : Nat) : Z (f + 1) 121 L st σ n k w = s_iinc 7 (1) 124 L st σ n k w (zk1 cut G (Z f)) G R T := zrs hZ rfl f L st σ n k w
theorem f_X12_digestMerchant_124 (hZ : ZRN (ztb (tb_X12_digestMerchant E d mc ms)) cut G R T Z) (f : Nat) (L : ZLV) (st : List Value) (σ : ZHp) (n k w : Nat) : Z (f + 1) 124 L st σ n k w = s_goto 88 L st σ n k w (zk1 cut G (Z f)) G R T := zrs hZ rfl f L st σ n k w
theorem f_X12_digestMerchant_127 (hZ : ZRN (ztb (tb_X12_digestMerchant E d mc ms)) cut G R T Z) (f : Nat) (L : ZLV) (st : List Value) (σ : ZHp) (n k w : Nat) : Z (f + 1) 127 L st σ n k w = s_lload 5 129 L st σ n k w (zk1 cut G (Z f)) G R T := zrs hZ rfl f L st σ n k w
theorem f_X12_digestMerchant_129 (hZ : ZRN (ztb (tb_X12_digestMerchant E d mc ms)) cut G R T Z) (f : Nat) (L : ZLV) (st : List Value) (σ : ZHp) (n k w : Nat) : Z (f + 1) 129 L st σ n k w = s_lreturn L st σ n k w (zk1 cut G (Z f)) G R T := zrs hZ rfl f L st σ n k w
theorem f_X12_checkWhat_0 (hZ : ZRN (ztb (tb_X12_checkWhat E d mc ms)) cut G R T Z) (f : Nat) (L : ZLV) (st : List Value) (σ : ZHp) (n k w : Nat) : Z (f + 1) 0 L st σ n k w = s_iload 1 1 L st σ n k w (zk1 cut G (Z f)) G R T := zrs hZ rfl f L st σ n k w
theorem f_X12_checkWhat_1 (hZ : ZRN (ztb (tb_X12_checkWhat E d mc ms)) cut G R T Z) (f : Nat) (L : ZLV) (st : List Value) (σ : ZHp) (n k w : Nat) : Z (f + 1) 1 L st σ n k w = s_if_lt 9 4 L st σ n k w (zk1 cut G (Z f)) G R T := zrs hZ rfl f L st σ n k w
theorem f_X12_checkWhat_4 (hZ : ZRN (ztb (tb_X12_checkWhat E d mc ms)) cut G R T Z) (f : Nat) (L : ZLV) (st : List Value) (σ : ZHp) (n k w : Nat) : Z (f + 1) 4 L st σ n k w = s_iload 1 5 L st σ n k w (zk1 cut G (Z f)) G R T := zrs hZ rfl f L st σ n k w
theorem f_X12_checkWhat_5 (hZ : ZRN (ztb (tb_X12_checkWhat E d mc ms)) cut G R T Z) (f : Nat) (L : ZLV) (st : List Value) (σ : ZHp) (n k w : Nat) : Z (f + 1) 5 L st σ n k w = s_iload 2 6 L st σ n k w (zk1 cut G (Z f)) G R T := zrs hZ rfl f L st σ n k w
theorem f_X12_checkWhat_6 (hZ : ZRN (ztb (tb_X12_checkWhat E d mc ms)) cut G R T Z) (f : Nat) (L : ZLV) (st : List Value) (σ : ZHp) (n k w : Nat) : Z (f + 1) 6 L st σ n k w = s_icmp_le 19 9 L st σ n k w (zk1 cut G (Z f)) G R T := zrs hZ rfl f L st σ n k w
theorem f_X12_checkWhat_9 (hZ : ZRN (ztb (tb_X12_checkWhat E d mc ms)) cut G R T Z) (f : Nat) (L : ZLV) (st : List Value) (σ : ZHp) (n k w : Nat) : Z (f + 1) 9 L st σ n k w = s_throw "java/lang/IndexOutOfBoundsException" L st σ n k w (zk1 cut G (Z f)) G R T := zrs hZ rfl f L st σ n k w
theorem f_X12_checkWhat_19 (hZ : ZRN (ztb (tb_X12_checkWhat E d mc ms)) cut G R T Z) (f : Nat) (L : ZLV) (st : List Value) (σ : ZHp) (n k w : Nat) : Z (f + 1) 19 L st σ n k w = s_return L st σ n k w (zk1 cut G (Z f)) G R T := zrs hZ rfl f L st σ n k w
theorem f_X12_checkCard_0 (hZ : ZRN (ztb (tb_X12_checkCard E d mc ms)) cut G R T Z) (f : Nat) (L : ZLV) (st : List Value) (σ : ZHp) (n k w : Nat) : Z (f + 1) 0 L st σ n k w = s_iload 1 1 L st σ n k w (zk1 cut G (Z f)) G R T := zrs hZ rfl f L st σ n k w
theorem f_X12_checkCard_1 (hZ : ZRN (ztb (tb_X12_checkCard E d mc ms)) cut G R T Z) (f : Nat) (L : ZLV) (st : List Value) (σ : ZHp) (n k w : Nat) : Z (f + 1) 1 L st σ n k w = s_if_lt 21 4 L st σ n k w (zk1 cut G (Z f)) G R T := zrs hZ rfl f L st σ n k w
theorem f_X12_checkCard_4 (hZ : ZRN (ztb (tb_X12_checkCard E d mc ms)) cut G R T Z) (f : Nat) (L : ZLV) (st : List Value) (σ : ZHp) (n k w : Nat) : Z (f + 1) 4 L st σ n k w = s_iload 1 5 L st σ n k w (zk1 cut G (Z f)) G R T := zrs hZ rfl f L st σ n k w
theorem f_X12_checkCard_5 (hZ : ZRN (ztb (tb_X12_checkCard E d mc ms)) cut G R T Z) (f : Nat) (L : ZLV) (st : List Value) (σ : ZHp) (n k w : Nat) : Z (f + 1) 5 L st σ n k w = s_aload 0 6 L st σ n k w (zk1 cut G (Z f)) G R T := zrs hZ rfl f L st σ n k w
theorem f_X12_checkCard_6 (hZ : ZRN (ztb (tb_X12_checkCard E d mc ms)) cut G R T Z) (f : Nat) (L : ZLV) (st : List Value) (σ : ZHp) (n k w : Nat) : Z (f + 1) 6 L st σ n k w = s_getf 11 2 9 L st σ n k w (zk1 cut G (Z f)) G R T := zrs hZ rfl f L st σ n k w
theorem f_X12_checkCard_9 (hZ : ZRN (ztb (tb_X12_checkCard E d mc ms)) cut G R T Z) (f : Nat) (L : ZLV) (st : List Value) (σ : ZHp) (n k w : Nat) : Z (f + 1) 9 L st σ n k w = s_getf 1 0 12 L st σ n k w (zk1 cut G (Z f)) G R T := zrs hZ rfl f L st σ n k w
theorem f_X12_checkCard_12 (hZ : ZRN (ztb (tb_X12_checkCard E d mc ms)) cut G R T Z) (f : Nat) (L : ZLV) (st : List Value) (σ : ZHp) (n k w : Nat) : Z (f + 1) 12 L st σ n k w = s_getf 3 5 15 L st σ n k w (zk1 cut G (Z f)) G R T := zrs hZ rfl f L st σ n k w
theorem f_X12_checkCard_15 (hZ : ZRN (ztb (tb_X12_checkCard E d mc ms)) cut G R T Z) (f : Nat) (L : ZLV) (st : List Value) (σ : ZHp) (n k w : Nat) : Z (f + 1) 15 L st σ n k w = s_getf 5 0 18 L st σ n k w (zk1 cut G (Z f)) G R T := zrs hZ rfl f L st σ n k w
theorem f_X12_checkCard_18 (hZ : ZRN (ztb (tb_X12_checkCard E d mc ms)) cut G R T Z) (f : Nat) (L : ZLV) (st : List Value) (σ : ZHp) (n k w : Nat) : Z (f + 1) 18 L st σ n k w = s_icmp_lt 31 21 L st σ n k w (zk1 cut G (Z f)) G R T := zrs hZ rfl f L st σ n k w
theorem f_X12_checkCard_21 (hZ : ZRN (ztb (tb_X12_checkCard E d mc ms)) cut G R T Z) (f : Nat) (L : ZLV) (st : List Value) (σ : ZHp) (n k w : Nat) : Z (f + 1) 21 L st σ n k w = s_throw "java/lang/IndexOutOfBoundsException" L st σ n k w (zk1 cut G (Z f)) G R T := zrs hZ rfl f L st σ n k w
theorem f_X12_checkCard_31 (hZ : ZRN (ztb (tb_X12_checkCard E d mc ms)) cut G R T Z) (f : Nat) (L : ZLV) (st : List Value) (σ : ZHp) (n k w : Nat) : Z (f + 1) 31 L st σ n k w = s_return L st σ n k w (zk1 cut G (Z f)) G R T := zrs hZ rfl f L st σ n k w
theorem f_X12_checkMerchant_0 (hZ : ZRN (ztb (tb_X12_checkMerchant E d mc ms)) cut G R T Z) (f : Nat) (L : ZLV) (st : List Value) (σ : ZHp) (n k w : Nat) : Z (f + 1) 0 L st σ n k w = s_iload 1 1 L st σ n k w (zk1 cut G (Z f)) G R T := zrs hZ rfl f L st σ n k w
theorem f_X12_checkMerchant_1 (hZ : ZRN (ztb (tb_X12_checkMerchant E d mc ms)) cut G R T Z) (f : Nat) (L : ZLV) (st : List Value) (σ : ZHp) (n k w : Nat) : Z (f + 1) 1 L st σ n k w = s_if_lt 21 4 L st σ n k w (zk1 cut G (Z f)) G R T := zrs hZ rfl f L st σ n k w
theorem f_X12_checkMerchant_4 (hZ : ZRN (ztb (tb_X12_checkMerchant E d mc ms)) cut G R T Z) (f : Nat) (L : ZLV) (st : List Value) (σ : ZHp) (n k w : Nat) : Z (f + 1) 4 L st σ n k w = s_iload 1 5 L st σ n k w (zk1 cut G (Z f)) G R T := zrs hZ rfl f L st σ n k w
theorem f_X12_checkMerchant_5 (hZ : ZRN (ztb (tb_X12_checkMerchant E d mc ms)) cut G R T Z) (f : Nat) (L : ZLV) (st : List Value) (σ : ZHp) (n k w : Nat) : Z (f + 1) 5 L st σ n k w = s_aload 0 6 L st σ n k w (zk1 cut G (Z f)) G R T := zrs hZ rfl f L st σ n k w
theorem f_X12_checkMerchant_6 (hZ : ZRN (ztb (tb_X12_checkMerchant E d mc ms)) cut G R T Z) (f : Nat) (L : ZLV) (st : List Value) (σ : ZHp) (n k w : Nat) : Z (f + 1) 6 L st σ n k w = s_getf 11 2 9 L st σ n k w (zk1 cut G (Z f)) G R T := zrs hZ rfl f L st σ n k w
theorem f_X12_checkMerchant_9 (hZ : ZRN (ztb (tb_X12_checkMerchant E d mc ms)) cut G R T Z) (f : Nat) (L : ZLV) (st : List Value) (σ : ZHp) (n k w : Nat) : Z (f + 1) 9 L st σ n k w = s_getf 1 0 12 L st σ n k w (zk1 cut G (Z f)) G R T := zrs hZ rfl f L st σ n k w
theorem f_X12_checkMerchant_12 (hZ : ZRN (ztb (tb_X12_checkMerchant E d mc ms)) cut G R T Z) (f : Nat) (L : ZLV) (st : List Value) (σ : ZHp) (n k w : Nat) : Z (f + 1) 12 L st σ n k w = s_getf 3 5 15 L st σ n k w (zk1 cut G (Z f)) G R T := zrs hZ rfl f L st σ n k w
theorem f_X12_checkMerchant_15 (hZ : ZRN (ztb (tb_X12_checkMerchant E d mc ms)) cut G R T Z) (f : Nat) (L : ZLV) (st : List Value) (σ : ZHp) (n k w : Nat) : Z (f + 1) 15 L st σ n k w = s_getf 5 1 18 L st σ n k w (zk1 cut G (Z f)) G R T := zrs hZ rfl f L st σ n k w
theorem f_X12_checkMerchant_18 (hZ : ZRN (ztb (tb_X12_checkMerchant E d mc ms)) cut G R T Z) (f : Nat) (L : ZLV) (st : List Value) (σ : ZHp) (n k w : Nat) : Z (f + 1) 18 L st σ n k w = s_icmp_lt 31 21 L st σ n k w (zk1 cut G (Z f)) G R T := zrs hZ rfl f L st σ n k w
theorem f_X12_checkMerchant_21 (hZ : ZRN (ztb (tb_X12_checkMerchant E d mc ms)) cut G R T Z) (f : Nat) (L : ZLV) (st : List Value) (σ : ZHp) (n k w : Nat) : Z (f + 1) 21 L st σ n k w = s_throw "java/lang/IndexOutOfBoundsException" L st σ n k w (zk1 cut G (Z f)) G R T := zrs hZ rfl f L st σ n k w
theorem f_X12_checkMerchant_31 (hZ : ZRN (ztb (tb_X12_checkMerchant E d mc ms)) cut G R T Z) (f : Nat) (L : ZLV) (st : List Value) (σ : ZHp) (n k w : Nat) : Z (f + 1) 31 L st σ n k w = s_return L st σ n k w (zk1 cut G (Z f)) G R T := zrs hZ rfl f L st σ n k w
theorem f_X12_checkPlace_0 (hZ : ZRN (ztb (tb_X12_checkPlace E d mc ms)) cut G R T Z) (f : Nat) (L : ZLV) (st : List Value) (σ : ZHp) (n k w : Nat) : Z (f + 1) 0 L st σ n k w = s_iload 1 1 L st σ n k w (zk1 cut G (Z f)) G R T := zrs hZ rfl f L st σ n k w
theorem f_X12_checkPlace_1 (hZ : ZRN (ztb (tb_X12_checkPlace E d mc ms)) cut G R T Z) (f : Nat) (L : ZLV) (st : List Value) (σ : ZHp) (n k w : Nat) : Z (f + 1) 1 L st σ n k w = s_if_lt 9 4 L st σ n k w (zk1 cut G (Z f)) G R T := zrs hZ rfl f L st σ n k w
theorem f_X12_checkPlace_4 (hZ : ZRN (ztb (tb_X12_checkPlace E d mc ms)) cut G R T Z) (f : Nat) (L : ZLV) (st : List Value) (σ : ZHp) (n k w : Nat) : Z (f + 1) 4 L st σ n k w = s_iload 1 5 L st σ n k w (zk1 cut G (Z f)) G R T := zrs hZ rfl f L st σ n k w
theorem f_X12_checkPlace_5 (hZ : ZRN (ztb (tb_X12_checkPlace E d mc ms)) cut G R T Z) (f : Nat) (L : ZLV) (st : List Value) (σ : ZHp) (n k w : Nat) : Z (f + 1) 5 L st σ n k w = s_iload 2 6 L st σ n k w (zk1 cut G (Z f)) G R T := zrs hZ rfl f L st σ n k w
theorem f_X12_checkPlace_6 (hZ : ZRN (ztb (tb_X12_checkPlace E d mc ms)) cut G R T Z) (f : Nat) (L : ZLV) (st : List Value) (σ : ZHp) (n k w : Nat) : Z (f + 1) 6 L st σ n k w = s_icmp_lt 19 9 L st σ n k w (zk1 cut G (Z f)) G R T := zrs hZ rfl f L st σ n k w
theorem f_X12_checkPlace_9 (hZ : ZRN (ztb (tb_X12_checkPlace E d mc ms)) cut G R T Z) (f : Nat) (L : ZLV) (st : List Value) (σ : ZHp) (n k w : Nat) : Z (f + 1) 9 L st σ n k w = s_throw "java/lang/IndexOutOfBoundsException" L st σ n k w (zk1 cut G (Z f)) G R T := zrs hZ rfl f L st σ n k w
theorem f_X12_checkPlace_19 (hZ : ZRN (ztb (tb_X12_checkPlace E d mc ms)) cut G R T Z) (f : Nat) (L : ZLV) (st : List Value) (σ : ZHp) (n k w : Nat) : Z (f + 1) 19 L st σ n k w = s_return L st σ n k w (zk1 cut G (Z f)) G R T := zrs hZ rfl f L st σ n k w
theorem f_X12_checkRounds_0 (hZ : ZRN (ztb (tb_X12_checkRounds E d mc ms)) cut G R T Z) (f : Nat) (L : ZLV) (st : List Value) (σ : ZHp) (n k w : Nat) : Z (f + 1) 0 L st σ n k w = s_iload 1 1 L st σ n k w (zk1 cut G (Z f)) G R T := zrs hZ rfl f L st σ n k w
theorem f_X12_checkRounds_1 (hZ : ZRN (ztb (tb_X12_checkRounds E d mc ms)) cut G R T Z) (f : Nat) (L : ZLV) (st : List Value) (σ : ZHp) (n k w : Nat) : Z (f + 1) 1 L st σ n k w = s_const (.int (1)) 2 L st σ n k w (zk1 cut G (Z f)) G R T := zrs hZ rfl f L st σ n k w
theorem f_X12_checkRounds_2 (hZ : ZRN (ztb (tb_X12_checkRounds E d mc ms)) cut G R T Z) (f : Nat) (L : ZLV) (st : List Value) (σ : ZHp) (n k w : Nat) : Z (f + 1) 2 L st σ n k w = s_icmp_lt 10 5 L st σ n k w (zk1 cut G (Z f)) G R T := zrs hZ rfl f L st σ n k w
theorem f_X12_checkRounds_5 (hZ : ZRN (ztb (tb_X12_checkRounds E d mc ms)) cut G R T Z) (f : Nat) (L : ZLV) (st : List Value) (σ : ZHp) (n k w : Nat) : Z (f + 1) 5 L st σ n k w = s_iload 1 6 L st σ n k w (zk1 cut G (Z f)) G R T := zrs hZ rfl f L st σ n k w
theorem f_X12_checkRounds_6 (hZ : ZRN (ztb (tb_X12_checkRounds E d mc ms)) cut G R T Z) (f : Nat) (L : ZLV) (st : List Value) (σ : ZHp) (n k w : Nat) : Z (f + 1) 6 L st σ n k w = s_iload 2 7 L st σ n k w (zk1 cut G (Z f)) G R T := zrs hZ rfl f L st σ n k w
theorem f_X12_checkRounds_7 (hZ : ZRN (ztb (tb_X12_checkRounds E d mc ms)) cut G R T Z) (f : Nat) (L : ZLV) (st : List Value) (σ : ZHp) (n k w : Nat) : Z (f + 1) 7 L st σ n k w = s_icmp_le 20 10 L st σ n k w (zk1 cut G (Z f)) G R T := zrs hZ rfl f L st σ n k w
theorem f_X12_checkRounds_10 (hZ : ZRN (ztb (tb_X12_checkRounds E d mc ms)) cut G R T Z) (f : Nat) (L : ZLV) (st : List Value) (σ : ZHp) (n k w : Nat) : Z (f + 1) 10 L st σ n k w = s_throw "java/lang/IllegalArgumentException" L st σ n k w (zk1 cut G (Z f)) G R T := zrs hZ rfl f L st σ n k w
theorem f_X12_checkRounds_20 (hZ : ZRN (ztb (tb_X12_checkRounds E d mc ms)) cut G R T Z) (f : Nat) (L : ZLV) (st : List Value) (σ : ZHp) (n k w : Nat) : Z (f + 1) 20 L st σ n k w = s_return L st σ n k w (zk1 cut G (Z f)) G R T := zrs hZ rfl f L st σ n k w
end
