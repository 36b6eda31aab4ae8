/-! TABLES: what each instruction does, that it does so, and each one by its place (printed by wip/whole/gen/gentab.py) -/
def tb_X15_test (E : ZEX) (d mc ms : Nat) : List (Nat × ZStep) := [(0, s_aload 0 1), (1, s_callV E d mc ms 14 MX15_both 0 4), (4, s_istore 1 5), (5, s_aload 0 6), (6, s_const (.int (23)) 8), (8, s_callV E d mc ms 14 MX15_goesBy 1 11), (11, s_if_eq 24 14), (14, s_iload 1 15), (15, s_aload 0 16), (16, s_callV E d mc ms 14 MX15_both 0 19), (19, s_ior 20), (20, s_istore 1 21), (21, s_goto 5), (24, s_iload 1 25), (25, s_zreturn)]
set_option maxRecDepth 20000 in
theorem ok_X15_test {E : ZEX} {X : ZMX} {d mc ms : Nat} {P : ZPT} {T : ZTT} (h : ZCX E X MX15_test d mc ms P T) : ∀ pc, ZRow E X MX15_test mc ms P T pc (ztb (tb_X15_test E d mc ms) pc) := ztb_ok (by
  unfold tb_X15_test
  refine zfmc (r_aload_n h (pc := 0) (kf := 0) 0 (by decide +kernel) rfl) ?_
  refine zfmc (r_callV h (pc := 1) (ix := 257) (by decide +kernel) ckX15 0 mcX15_both wk_1b1304a957 wk_7f00e20b89 wk_336b2aa9bf rfl) ?_
  refine zfmc (r_istore_n h (pc := 4) (kf := 1) 1 (by decide +kernel) rfl (by decide +kernel)) ?_
  refine zfmc (r_aload_n h (pc := 5) (kf := 0) 0 (by decide +kernel) rfl) ?_
  refine zfmc (r_bipush h (pc := 6) (z := 23) (by decide +kernel) (23) (by decide +kernel)) ?_
  refine zfmc (r_callV h (pc := 8) (ix := 261) (by decide +kernel) ckX15 1 mcX15_goesBy wk_40c48b96c7 wk_50ff089a9a wk_21e1cabcef rfl) ?_
  refine zfmc (r_if_eq h (pc := 11) (off := 13) (by decide +kernel) 24 (by decide +kernel)) ?_
  refine zfmc (r_iload_n h (pc := 14) (kf := 1) 1 (by decide +kernel) rfl) ?_
  refine zfmc (r_aload_n h (pc := 15) (kf := 0) 0 (by decide +kernel) rfl) ?_
  refine zfmc (r_callV h (pc := 16) (ix := 257) (by decide +kernel) ckX15 0 mcX15_both wk_1b1304a957 wk_7f00e20b89 wk_336b2aa9bf rfl) ?_
  refine zfmc (r_ior h (pc := 19) (by decide +kernel)) ?_
  refine zfmc (r_istore_n h (pc := 20) (kf := 1) 1 (by decide +kernel) rfl (by decide +kernel)) ?_
  refine zfmc (r_goto h (pc := 21) (off := -16) (by decide +kernel) 5 (by decide +kernel)) ?_
  refine zfmc (r_iload_n h (pc := 24) (kf := 1) 1 (by decide +kernel) rfl) ?_
  refine zfmc (r_zreturn h (pc := 25) (by decide +kernel) rfl) ?_
  exact zfm0)
def tb_X15_both (E : ZEX) (d mc ms : Nat) : List (Nat × ZStep) := [(0, s_aload 0 1), (1, s_callV E d mc ms 14 MX15_single 0 4), (4, s_istore 1 5), (5, s_aload 0 6), (6, s_const (.int (22)) 8), (8, s_callV E d mc ms 14 MX15_goesBy 1 11), (11, s_if_eq 24 14), (14, s_iload 1 15), (15, s_aload 0 16), (16, s_callV E d mc ms 14 MX15_single 0 19), (19, s_iand 20), (20, s_istore 1 21), (21, s_goto 5), (24, s_iload 1 25), (25, s_zreturn)]
set_option maxRecDepth 20000 in
theorem ok_X15_both {E : ZEX} {X : ZMX} {d mc ms : Nat} {P : ZPT} {T : ZTT} (h : ZCX E X MX15_both d mc ms P T) : ∀ pc, ZRow E X MX15_both mc ms P T pc (ztb (tb_X15_both E d mc ms) pc) := ztb_ok (by
  unfold tb_X15_both
  refine zfmc (r_aload_n h (pc := 0) (kf := 0) 0 (by decide +kernel) rfl) ?_
  refine zfmc (r_callV h (pc := 1) (ix := 264) (by decide +kernel) ckX15 0 mcX15_single wk_898acc3f2a wk_312f44f915 wk_a32d25f965 rfl) ?_
  refine zfmc (r_istore_n h (pc := 4) (kf := 1) 1 (by decide +kernel) rfl (by decide +kernel)) ?_
  refine zfmc (r_aload_n h (pc := 5) (kf := 0) 0 (by decide +kernel) rfl) ?_
  refine zfmc (r_bipush h (pc := 6) (z := 22) (by decide +kernel) (22) (by decide +kernel)) ?_
  refine zfmc (r_callV h (pc := 8) (ix := 261) (by decide +kernel) ckX15 1 mcX15_goesBy wk_40c48b96c7 wk_50ff089a9a wk_21e1cabcef rfl) ?_
  refine zfmc (r_if_eq h (pc := 11) (off := 13) (by decide +kernel) 24 (by decide +kernel)) ?_
  refine zfmc (r_iload_n h (pc := 14) (kf := 1) 1 (by decide +kernel) rfl) ?_
  refine zfmc (r_aload_n h (pc := 15) (kf := 0) 0 (by decide +kernel) rfl) ?_
  refine zfmc (r_callV h (pc := 16) (ix := 264) (by decide +kernel) ckX15 0 mcX15_single wk_898acc3f2a wk_312f44f915 wk_a32d25f965 rfl) ?_
  refine zfmc (r_iand h (pc := 19) (by decide +kernel)) ?_
  refine zfmc (r_istore_n h (pc := 20) (kf := 1) 1 (by decide +kernel) rfl (by decide +kernel)) ?_
  refine zfmc (r_goto h (pc := 21) (off := -16) (by decide +kernel) 5 (by decide +kernel)) ?_
  refine zfmc (r_iload_n h (pc := 24) (kf := 1) 1 (by decide +kernel) rfl) ?_
  refine zfmc (r_zreturn h (pc := 25) (by decide +kernel) rfl) ?_
  exact zfm0)
def tb_X15_single (E : ZEX) (d mc ms : Nat) : List (Nat × ZStep) := [(0, s_aload 0 1), (1, s_const (.int (21)) 3), (3, s_callV E d mc ms 14 MX15_goesBy 1 6), (6, s_if_eq 22 9), (9, s_aload 0 10), (10, s_callV E d mc ms 14 MX15_single 0 13), (13, s_if_ne 20 16), (16, s_const (.int (1)) 17), (17, s_goto 21), (20, s_const (.int (0)) 21), (21, s_zreturn), (22, s_aload 0 23), (23, s_const (.int (42)) 25), (25, s_callV E d mc ms 14 MX15_goesBy 1 28), (28, s_if_eq 48 31), (31, s_aload 0 32), (32, s_callV E d mc ms 14 MX15_test 0 35), (35, s_istore 1 36), (36, s_aload 0 37), (37, s_dup 38), (38, s_getf 14 9 41), (41, s_const (.int (1)) 42), (42, s_iadd 43), (43, s_putf 14 9 0 46), (46, s_iload 1 47), (47, s_zreturn), (48, s_aload 0 49), (49, s_callV E d mc ms 14 MX15_sum 0 52), (52, s_istore 1 53), (53, s_aload 0 54), (54, s_getf 14 6 57), (57, s_getf 12 0 60), (60, s_aload 0 61), (61, s_getf 14 9 64), (64, s_iaload E 65), (65, s_istore 2 66), (66, s_aload 0 67), (67, s_dup 68), (68, s_getf 14 9 71), (71, s_const (.int (1)) 72), (72, s_iadd 73), (73, s_putf 14 9 0 76), (76, s_aload 0 77), (77, s_callV E d mc ms 14 MX15_sum 0 80), (80, s_istore 3 81), (81, s_iload 1 82), (82, s_iload 3 83), (83, s_icmp_ne 104 86), (86, s_iload 2 87), (87, s_const (.int (52)) 89), (89, s_icmp_eq 98 92), (92, s_iload 2 93), (93, s_const (.int (53)) 95), (95, s_icmp_lt 102 98), (98, s_const (.int (1)) 99), (99, s_goto 103), (102, s_const (.int (0)) 103), (103, s_zreturn), (104, s_iload 1 105), (105, s_iload 3 106), (106, s_icmp_ge 129 109), (109, s_iload 2 110), (110, s_const (.int (50)) 112), (112, s_icmp_eq 121 115), (115, s_iload 2 116), (116, s_const (.int (53)) 118), (118, s_icmp_ne 125 121), (121, s_const (.int (1)) 122), (122, s_goto 146), (125, s_const (.int (0)) 126), (126, s_goto 146), (129, s_iload 2 130), (130, s_const (.int (51)) 132), (132, s_icmp_eq 141 135), (135, s_iload 2 136), (136, s_const (.int (54)) 138), (138, s_icmp_ne 145 141), (141, s_const (.int (1)) 142), (142, s_goto 146), (145, s_const (.int (0)) 146), (146, s_zreturn)]
set_option maxRecDepth 20000 in
theorem ok_X15_single {E : ZEX} {X : ZMX} {d mc ms : Nat} {P : ZPT} {T : ZTT} (h : ZCX E X MX15_single d mc ms P T) : ∀ pc, ZRow E X MX15_single mc ms P T pc (ztb (tb_X15_single E d mc ms) pc) := ztb_ok (by
  unfold tb_X15_single
  refine zfmc (r_aload_n h (pc := 0) (kf := 0) 0 (by decide +kernel) rfl) ?_
  refine zfmc (r_bipush h (pc := 1) (z := 21) (by decide +kernel) (21) (by decide +kernel)) ?_
  refine zfmc (r_callV h (pc := 3) (ix := 261) (by decide +kernel) ckX15 1 mcX15_goesBy wk_40c48b96c7 wk_50ff089a9a wk_21e1cabcef rfl) ?_
  refine zfmc (r_if_eq h (pc := 6) (off := 16) (by decide +kernel) 22 (by decide +kernel)) ?_
  refine zfmc (r_aload_n h (pc := 9) (kf := 0) 0 (by decide +kernel) rfl) ?_
  refine zfmc (r_callV h (pc := 10) (ix := 264) (by decide +kernel) ckX15 0 mcX15_single wk_898acc3f2a wk_312f44f915 wk_a32d25f965 rfl) ?_
  refine zfmc (r_if_ne h (pc := 13) (off := 7) (by decide +kernel) 20 (by decide +kernel)) ?_
  refine zfmc (r_iconst h (pc := 16) (z := 1) (by decide +kernel) (1) (by decide +kernel)) ?_
  refine zfmc (r_goto h (pc := 17) (off := 4) (by decide +kernel) 21 (by decide +kernel)) ?_
  refine zfmc (r_iconst h (pc := 20) (z := 0) (by decide +kernel) (0) (by decide +kernel)) ?_
  refine zfmc (r_zreturn h (pc := 21) (by decide +kernel) rfl) ?_
  refine zfmc (r_aload_n h (pc := 22) (kf := 0) 0 (by decide +kernel) rfl) ?_
  refine zfmc (r_bipush h (pc := 23) (z := 42) (by decide +kernel) (42) (by decide +kernel)) ?_
  refine zfmc (r_callV h (pc := 25) (ix := 261) (by decide +kernel) ckX15 1 mcX15_goesBy wk_40c48b96c7 wk_50ff089a9a wk_21e1cabcef rfl) ?_
  refine zfmc (r_if_eq h (pc := 28) (off := 20) (by decide +kernel) 48 (by decide +kernel)) ?_
  refine zfmc (r_aload_n h (pc := 31) (kf := 0) 0 (by decide +kernel) rfl) ?_
  refine zfmc (r_callV h (pc := 32) (ix := 267) (by decide +kernel) ckX15 0 mcX15_test wk_18570ad943 wk_c49954e947 wk_3bbedf2f7f rfl) ?_
  refine zfmc (r_istore_n h (pc := 35) (kf := 1) 1 (by decide +kernel) rfl (by decide +kernel)) ?_
  refine zfmc (r_aload_n h (pc := 36) (kf := 0) 0 (by decide +kernel) rfl) ?_
  refine zfmc (r_dup h (pc := 37) (by decide +kernel)) ?_
  refine zfmc (r_getf h (pc := 38) (ix := 254) (by decide +kernel) ckX15 9 (by decide) wk_76716ac291) ?_
  refine zfmc (r_iconst h (pc := 41) (z := 1) (by decide +kernel) (1) (by decide +kernel)) ?_
  refine zfmc (r_iadd h (pc := 42) (by decide +kernel)) ?_
  refine zfmc (r_putf h (pc := 43) (ix := 254) (by decide +kernel) ckX15 9 (by decide) 0 (fty := tyX15 9) (tyX15_ok 9 (by decide)) rfl rfl wk_76716ac291) ?_
  refine zfmc (r_iload_n h (pc := 46) (kf := 1) 1 (by decide +kernel) rfl) ?_
  refine zfmc (r_zreturn h (pc := 47) (by decide +kernel) rfl) ?_
  refine zfmc (r_aload_n h (pc := 48) (kf := 0) 0 (by decide +kernel) rfl) ?_
  refine zfmc (r_callV h (pc := 49) (ix := 270) (by decide +kernel) ckX15 0 mcX15_sum wk_cecbc95f9e wk_7667af7e7f wk_0bb49d9746 rfl) ?_
  refine zfmc (r_istore_n h (pc := 52) (kf := 1) 1 (by decide +kernel) rfl (by decide +kernel)) ?_
  refine zfmc (r_aload_n h (pc := 53) (kf := 0) 0 (by decide +kernel) rfl) ?_
  refine zfmc (r_getf h (pc := 54) (ix := 20) (by decide +kernel) ckX15 6 (by decide) wk_bda7210969) ?_
  refine zfmc (r_getfN h (pc := 57) (ix := 105) (by decide +kernel) ckX13 0 (by decide) wk_7b5b465128) ?_
  refine zfmc (r_aload_n h (pc := 60) (kf := 0) 0 (by decide +kernel) rfl) ?_
  refine zfmc (r_getf h (pc := 61) (ix := 254) (by decide +kernel) ckX15 9 (by decide) wk_76716ac291) ?_
  refine zfmc (r_iaload h (pc := 64) (by decide +kernel)) ?_
  refine zfmc (r_istore_n h (pc := 65) (kf := 2) 2 (by decide +kernel) rfl (by decide +kernel)) ?_
  refine zfmc (r_aload_n h (pc := 66) (kf := 0) 0 (by decide +kernel) rfl) ?_
  refine zfmc (r_dup h (pc := 67) (by decide +kernel)) ?_
  refine zfmc (r_getf h (pc := 68) (ix := 254) (by decide +kernel) ckX15 9 (by decide) wk_76716ac291) ?_
  refine zfmc (r_iconst h (pc := 71) (z := 1) (by decide +kernel) (1) (by decide +kernel)) ?_
  refine zfmc (r_iadd h (pc := 72) (by decide +kernel)) ?_
  refine zfmc (r_putf h (pc := 73) (ix := 254) (by decide +kernel) ckX15 9 (by decide) 0 (fty := tyX15 9) (tyX15_ok 9 (by decide)) rfl rfl wk_76716ac291) ?_
  refine zfmc (r_aload_n h (pc := 76) (kf := 0) 0 (by decide +kernel) rfl) ?_
  refine zfmc (r_callV h (pc := 77) (ix := 270) (by decide +kernel) ckX15 0 mcX15_sum wk_cecbc95f9e wk_7667af7e7f wk_0bb49d9746 rfl) ?_
  refine zfmc (r_istore_n h (pc := 80) (kf := 3) 3 (by decide +kernel) rfl (by decide +kernel)) ?_
  refine zfmc (r_iload_n h (pc := 81) (kf := 1) 1 (by decide +kernel) rfl) ?_
  refine zfmc (r_iload_n h (pc := 82) (kf := 3) 3 (by decide +kernel) rfl) ?_
  refine zfmc (r_icmp_ne h (pc := 83) (off := 21) (by decide +kernel) 104 (by decide +kernel)) ?_
  refine zfmc (r_iload_n h (pc := 86) (kf := 2) 2 (by decide +kernel) rfl) ?_
  refine zfmc (r_bipush h (pc := 87) (z := 52) (by decide +kernel) (52) (by decide +kernel)) ?_
  refine zfmc (r_icmp_eq h (pc := 89) (off := 9) (by decide +kernel) 98 (by decide +kernel)) ?_
  refine zfmc (r_iload_n h (pc := 92) (kf := 2) 2 (by decide +kernel) rfl) ?_
  refine zfmc (r_bipush h (pc := 93) (z := 53) (by decide +kernel) (53) (by decide +kernel)) ?_
  refine zfmc (r_icmp_lt h (pc := 95) (off := 7) (by decide +kernel) 102 (by decide +kernel)) ?_
  refine zfmc (r_iconst h (pc := 98) (z := 1) (by decide +kernel) (1) (by decide +kernel)) ?_
  refine zfmc (r_goto h (pc := 99) (off := 4) (by decide +kernel) 103 (by decide +kernel)) ?_
  refine zfmc (r_iconst h (pc := 102) (z := 0) (by decide +kernel) (0) (by decide +kernel)) ?_
  refine zfmc (r_zreturn h (pc := 103) (by decide +kernel) rfl) ?_
  refine zfmc (r_iload_n h (pc := 104) (kf := 1) 1 (by decide +kernel) rfl) ?_
  refine zfmc (r_iload_n h (pc := 105) (kf := 3) 3 (by decide +kernel) rfl) ?_
  refine zfmc (r_icmp_ge h (pc := 106) (off := 23) (by decide +kernel) 129 (by decide +kernel)) ?_
  refine zfmc (r_iload_n h (pc := 109) (kf := 2) 2 (by decide +kernel) rfl) ?_
  refine zfmc (r_bipush h (pc := 110) (z := 50) (by decide +kernel) (50) (by decide +kernel)) ?_
  refine zfmc (r_icmp_eq h (pc := 112) (off := 9) (by decide +kernel) 121 (by decide +kernel)) ?_
  refine zfmc (r_iload_n h (pc := 115) (kf := 2) 2 (by decide +kernel) rfl) ?_
  refine zfmc (r_bipush h (pc := 116) (z := 53) (by decide +kernel) (53) (by decide +kernel)) ?_
  refine zfmc (r_icmp_ne h (pc := 118) (off := 7) (by decide +kernel) 125 (by decide +kernel)) ?_
  refine zfmc (r_iconst h (pc := 121) (z := 1) (by decide +kernel) (1) (by decide +kernel)) ?_
  refine zfmc (r_goto h (pc := 122) (off := 24) (by decide +kernel) 146 (by decide +kernel)) ?_
  refine zfmc (r_iconst h (pc := 125) (z := 0) (by decide +kernel) (0) (by decide +kernel)) ?_
  refine zfmc (r_goto h (pc := 126) (off := 20) (by decide +kernel) 146 (by decide +kernel)) ?_
  refine zfmc (r_iload_n h (pc := 129) (kf := 2) 2 (by decide +kernel) rfl) ?_
  refine zfmc (r_bipush h (pc := 130) (z := 51) (by decide +kernel) (51) (by decide +kernel)) ?_
  refine zfmc (r_icmp_eq h (pc := 132) (off := 9) (by decide +kernel) 141 (by decide +kernel)) ?_
  refine zfmc (r_iload_n h (pc := 135) (kf := 2) 2 (by decide +kernel) rfl) ?_
  refine zfmc (r_bipush h (pc := 136) (z := 54) (by decide +kernel) (54) (by decide +kernel)) ?_
  refine zfmc (r_icmp_ne h (pc := 138) (off := 7) (by decide +kernel) 145 (by decide +kernel)) ?_
  refine zfmc (r_iconst h (pc := 141) (z := 1) (by decide +kernel) (1) (by decide +kernel)) ?_
  refine zfmc (r_goto h (pc := 142) (off := 4) (by decide +kernel) 146 (by decide +kernel)) ?_
  refine zfmc (r_iconst h (pc := 145) (z := 0) (by decide +kernel) (0) (by decide +kernel)) ?_
  refine zfmc (r_zreturn h (pc := 146) (by decide +kernel) rfl) ?_
  exact zfm0)
def tb_X15_sum (E : ZEX) (d mc ms : Nat) : List (Nat × ZStep) := [(0, s_aload 0 1), (1, s_callV E d mc ms 14 MX15_product 0 4), (4, s_istore 1 5), (5, s_aload 0 6), (6, s_getf 14 6 9), (9, s_getf 12 0 12), (12, s_aload 0 13), (13, s_getf 14 9 16), (16, s_iaload E 17), (17, s_const (.int (46)) 19), (19, s_const (.int (47)) 21), (21, s_callS E d mc ms MX15_isIn 3 24), (24, s_if_eq 74 27), (27, s_aload 0 28), (28, s_getf 14 6 31), (31, s_getf 12 0 34), (34, s_aload 0 35), (35, s_getf 14 9 38), (38, s_iaload E 39), (39, s_istore 2 40), (40, s_aload 0 41), (41, s_dup 42), (42, s_getf 14 9 45), (45, s_const (.int (1)) 46), (46, s_iadd 47), (47, s_putf 14 9 0 50), (50, s_aload 0 51), (51, s_callV E d mc ms 14 MX15_product 0 54), (54, s_istore 3 55), (55, s_iload 2 56), (56, s_const (.int (46)) 58), (58, s_icmp_ne 67 61), (61, s_iload 1 62), (62, s_iload 3 63), (63, s_iadd 64), (64, s_goto 70), (67, s_iload 1 68), (68, s_iload 3 69), (69, s_isub 70), (70, s_istore 1 71), (71, s_goto 5), (74, s_iload 1 75), (75, s_ireturn)]
set_option maxRecDepth 20000 in
theorem ok_X15_sum {E : ZEX} {X : ZMX} {d mc ms : Nat} {P : ZPT} {T : ZTT} (h : ZCX E X MX15_sum d mc ms P T) : ∀ pc, ZRow E X MX15_sum mc ms P T pc (ztb (tb_X15_sum E d mc ms) pc) := ztb_ok (by
  unfold tb_X15_sum
  refine zfmc (r_aload_n h (pc := 0) (kf := 0) 0 (by decide +kernel) rfl) ?_
  refine zfmc (r_callV h (pc := 1) (ix := 273) (by decide +kernel) ckX15 0 mcX15_product wk_9791440af3 wk_6ad0a94080 wk_46a6bc9849 rfl) ?_
  refine zfmc (r_istore_n h (pc := 4) (kf := 1) 1 (by decide +kernel) rfl (by decide +kernel)) ?_
  refine zfmc (r_aload_n h (pc := 5) (kf := 0) 0 (by decide +kernel) rfl) ?_
  refine zfmc (r_getf h (pc := 6) (ix := 20) (by decide +kernel) ckX15 6 (by decide) wk_bda7210969) ?_
  refine zfmc (r_getfN h (pc := 9) (ix := 105) (by decide +kernel) ckX13 0 (by decide) wk_7b5b465128) ?_
  refine zfmc (r_aload_n h (pc := 12) (kf := 0) 0 (by decide +kernel) rfl) ?_
  refine zfmc (r_getf h (pc := 13) (ix := 254) (by decide +kernel) ckX15 9 (by decide) wk_76716ac291) ?_
  refine zfmc (r_iaload h (pc := 16) (by decide +kernel)) ?_
  refine zfmc (r_bipush h (pc := 17) (z := 46) (by decide +kernel) (46) (by decide +kernel)) ?_
  refine zfmc (r_bipush h (pc := 19) (z := 47) (by decide +kernel) (47) (by decide +kernel)) ?_
  refine zfmc (r_callS h (pc := 21) (ix := 52) (by decide +kernel) 3 mcX15_isIn wk_ed1f636136 wk_d0354324c1) ?_
  refine zfmc (r_if_eq h (pc := 24) (off := 50) (by decide +kernel) 74 (by decide +kernel)) ?_
  refine zfmc (r_aload_n h (pc := 27) (kf := 0) 0 (by decide +kernel) rfl) ?_
  refine zfmc (r_getf h (pc := 28) (ix := 20) (by decide +kernel) ckX15 6 (by decide) wk_bda7210969) ?_
  refine zfmc (r_getfN h (pc := 31) (ix := 105) (by decide +kernel) ckX13 0 (by decide) wk_7b5b465128) ?_
  refine zfmc (r_aload_n h (pc := 34) (kf := 0) 0 (by decide +kernel) rfl) ?_
  refine zfmc (r_getf h (pc := 35) (ix := 254) (by decide +kernel) ckX15 9 (by decide) wk_76716ac291) ?_
  refine zfmc (r_iaload h (pc := 38) (by decide +kernel)) ?_
  refine zfmc (r_istore_n h (pc := 39) (kf := 2) 2 (by decide +kernel) rfl (by decide +kernel)) ?_
  refine zfmc (r_aload_n h (pc := 40) (kf := 0) 0 (by decide +kernel) rfl) ?_
  refine zfmc (r_dup h (pc := 41) (by decide +kernel)) ?_
  refine zfmc (r_getf h (pc := 42) (ix := 254) (by decide +kernel) ckX15 9 (by decide) wk_76716ac291) ?_
  refine zfmc (r_iconst h (pc := 45) (z := 1) (by decide +kernel) (1) (by decide +kernel)) ?_
  refine zfmc (r_iadd h (pc := 46) (by decide +kernel)) ?_
  refine zfmc (r_putf h (pc := 47) (ix := 254) (by decide +kernel) ckX15 9 (by decide) 0 (fty := tyX15 9) (tyX15_ok 9 (by decide)) rfl rfl wk_76716ac291) ?_
  refine zfmc (r_aload_n h (pc := 50) (kf := 0) 0 (by decide +kernel) rfl) ?_
  refine zfmc (r_callV h (pc := 51) (ix := 273) (by decide +kernel) ckX15 0 mcX15_product wk_9791440af3 wk_6ad0a94080 wk_46a6bc9849 rfl) ?_
  refine zfmc (r_istore_n h (pc := 54) (kf := 3) 3 (by decide +kernel) rfl (by decide +kernel)) ?_
  refine zfmc (r_iload_n h (pc := 55) (kf := 2) 2 (by decide +kernel) rfl) ?_
  refine zfmc (r_bipush h (pc := 56) (z := 46) (by decide +kernel) (46) (by decide +kernel)) ?_
  refine zfmc (r_icmp_ne h (pc := 58) (off := 9) (by decide +kernel) 67 (by decide +kernel)) ?_
  refine zfmc (r_iload_n h (pc := 61) (kf := 1) 1 (by decide +kernel) rfl) ?_
  refine zfmc (r_iload_n h (pc := 62) (kf := 3) 3 (by decide +kernel) rfl) ?_
  refine zfmc (r_iadd h (pc := 63) (by decide +kernel)) ?_
  refine zfmc (r_goto h (pc := 64) (off := 6) (by decide +kernel) 70 (by decide +kernel)) ?_
  refine zfmc (r_iload_n h (pc := 67) (kf := 1) 1 (by decide +kernel) rfl) ?_
  refine zfmc (r_iload_n h (pc := 68) (kf := 3) 3 (by decide +kernel) rfl) ?_
  refine zfmc (r_isub h (pc := 69) (by decide +kernel)) ?_
  refine zfmc (r_istore_n h (pc := 70) (kf := 1) 1 (by decide +kernel) rfl (by decide +kernel)) ?_
  refine zfmc (r_goto h (pc := 71) (off := -66) (by decide +kernel) 5 (by decide +kernel)) ?_
  refine zfmc (r_iload_n h (pc := 74) (kf := 1) 1 (by decide +kernel) rfl) ?_
  refine zfmc (r_ireturn h (pc := 75) (by decide +kernel) rfl) ?_
  exact zfm0)
def tb_X15_product (E : ZEX) (d mc ms : Nat) : List (Nat × ZStep) := [(0, s_aload 0 1), (1, s_callV E d mc ms 14 MX15_value 0 4), (4, s_istore 1 5), (5, s_aload 0 6), (6, s_getf 14 6 9), (9, s_getf 12 0 12), (12, s_aload 0 13), (13, s_getf 14 9 16), (16, s_iaload E 17), (17, s_const (.int (48)) 19), (19, s_const (.int (49)) 21), (21, s_callS E d mc ms MX15_isIn 3 24), (24, s_if_eq 82 27), (27, s_aload 0 28), (28, s_getf 14 6 31), (31, s_getf 12 0 34), (34, s_aload 0 35), (35, s_getf 14 9 38), (38, s_iaload E 39), (39, s_istore 2 40), (40, s_aload 0 41), (41, s_dup 42), (42, s_getf 14 9 45), (45, s_const (.int (1)) 46), (46, s_iadd 47), (47, s_putf 14 9 0 50), (50, s_aload 0 51), (51, s_callV E d mc ms 14 MX15_value 0 54), (54, s_istore 3 55), (55, s_iload 2 56), (56, s_const (.int (48)) 58), (58, s_icmp_ne 67 61), (61, s_iload 1 62), (62, s_iload 3 63), (63, s_imul 64), (64, s_goto 78), (67, s_iload 3 68), (68, s_if_ne 75 71), (71, s_const (.int (0)) 72), (72, s_goto 78), (75, s_iload 1 76), (76, s_iload 3 77), (77, s_idiv 78), (78, s_istore 1 79), (79, s_goto 5), (82, s_iload 1 83), (83, s_ireturn)]
set_option maxRecDepth 20000 in
theorem ok_X15_product {E : ZEX} {X : ZMX} {d mc ms : Nat} {P : ZPT} {T : ZTT} (h : ZCX E X MX15_product d mc ms P T) : ∀ pc, ZRow E X MX15_product mc ms P T pc (ztb (tb_X15_product E d mc ms) pc) := ztb_ok (by
  unfold tb_X15_product
  refine zfmc (r_aload_n h (pc := 0) (kf := 0) 0 (by decide +kernel) rfl) ?_
  refine zfmc (r_callV h (pc := 1) (ix := 276) (by decide +kernel) ckX15 0 mcX15_value wk_32aea759f2 wk_3c16bf26aa wk_6bf1262fe2 rfl) ?_
  refine zfmc (r_istore_n h (pc := 4) (kf := 1) 1 (by decide +kernel) rfl (by decide +kernel)) ?_
  refine zfmc (r_aload_n h (pc := 5) (kf := 0) 0 (by decide +kernel) rfl) ?_
  refine zfmc (r_getf h (pc := 6) (ix := 20) (by decide +kernel) ckX15 6 (by decide) wk_bda7210969) ?_
  refine zfmc (r_getfN h (pc := 9) (ix := 105) (by decide +kernel) ckX13 0 (by decide) wk_7b5b465128) ?_
  refine zfmc (r_aload_n h (pc := 12) (kf := 0) 0 (by decide +kernel) rfl) ?_
  refine zfmc (r_getf h (pc := 13) (ix := 254) (by decide +kernel) ckX15 9 (by decide) wk_76716ac291) ?_
  refine zfmc (r_iaload h (pc := 16) (by decide +kernel)) ?_
  refine zfmc (r_bipush h (pc := 17) (z := 48) (by decide +kernel) (48) (by decide +kernel)) ?_
  refine zfmc (r_bipush h (pc := 19) (z := 49) (by decide +kernel) (49) (by decide +kernel)) ?_
  refine zfmc (r_callS h (pc := 21) (ix := 52) (by decide +kernel) 3 mcX15_isIn wk_ed1f636136 wk_d0354324c1) ?_
  refine zfmc (r_if_eq h (pc := 24) (off := 58) (by decide +kernel) 82 (by decide +kernel)) ?_
  refine zfmc (r_aload_n h (pc := 27) (kf := 0) 0 (by decide +kernel) rfl) ?_
  refine zfmc (r_getf h (pc := 28) (ix := 20) (by decide +kernel) ckX15 6 (by decide) wk_bda7210969) ?_
  refine zfmc (r_getfN h (pc := 31) (ix := 105) (by decide +kernel) ckX13 0 (by decide) wk_7b5b465128) ?_
  refine zfmc (r_aload_n h (pc := 34) (kf := 0) 0 (by decide +kernel) rfl) ?_
  refine zfmc (r_getf h (pc := 35) (ix := 254) (by decide +kernel) ckX15 9 (by decide) wk_76716ac291) ?_
  refine zfmc (r_iaload h (pc := 38) (by decide +kernel)) ?_
  refine zfmc (r_istore_n h (pc := 39) (kf := 2) 2 (by decide +kernel) rfl (by decide +kernel)) ?_
  refine zfmc (r_aload_n h (pc := 40) (kf := 0) 0 (by decide +kernel) rfl) ?_
  refine zfmc (r_dup h (pc := 41) (by decide +kernel)) ?_
  refine zfmc (r_getf h (pc := 42) (ix := 254) (by decide +kernel) ckX15 9 (by decide) wk_76716ac291) ?_
  refine zfmc (r_iconst h (pc := 45) (z := 1) (by decide +kernel) (1) (by decide +kernel)) ?_
  refine zfmc (r_iadd h (pc := 46) (by decide +kernel)) ?_
  refine zfmc (r_putf h (pc := 47) (ix := 254) (by decide +kernel) ckX15 9 (by decide) 0 (fty := tyX15 9) (tyX15_ok 9 (by decide)) rfl rfl wk_76716ac291) ?_
  refine zfmc (r_aload_n h (pc := 50) (kf := 0) 0 (by decide +kernel) rfl) ?_
  refine zfmc (r_callV h (pc := 51) (ix := 276) (by decide +kernel) ckX15 0 mcX15_value wk_32aea759f2 wk_3c16bf26aa wk_6bf1262fe2 rfl) ?_
  refine zfmc (r_istore_n h (pc := 54) (kf := 3) 3 (by decide +kernel) rfl (by decide +kernel)) ?_
  refine zfmc (r_iload_n h (pc := 55) (kf := 2) 2 (by decide +kernel) rfl) ?_
  refine zfmc (r_bipush h (pc := 56) (z := 48) (by decide +kernel) (48) (by decide +kernel)) ?_
  refine zfmc (r_icmp_ne h (pc := 58) (off := 9) (by decide +kernel) 67 (by decide +kernel)) ?_
  refine zfmc (r_iload_n h (pc := 61) (kf := 1) 1 (by decide +kernel) rfl) ?_
  refine zfmc (r_iload_n h (pc := 62) (kf := 3) 3 (by decide +kernel) rfl) ?_
  refine zfmc (r_imul h (pc := 63) (by decide +kernel)) ?_
  refine zfmc (r_goto h (pc := 64) (off := 14) (by decide +kernel) 78 (by decide +kernel)) ?_
  refine zfmc (r_iload_n h (pc := 67) (kf := 3) 3 (by decide +kernel) rfl) ?_
  refine zfmc (r_if_ne h (pc := 68) (off := 7) (by decide +kernel) 75 (by decide +kernel)) ?_
  refine zfmc (r_iconst h (pc := 71) (z := 0) (by decide +kernel) (0) (by decide +kernel)) ?_
  refine zfmc (r_goto h (pc := 72) (off := 6) (by decide +kernel) 78 (by decide +kernel)) ?_
  refine zfmc (r_iload_n h (pc := 75) (kf := 1) 1 (by decide +kernel) rfl) ?_
  refine zfmc (r_iload_n h (pc := 76) (kf := 3) 3 (by decide +kernel) rfl) ?_
  refine zfmc (r_idiv h (pc := 77) (by decide +kernel)) ?_
  refine zfmc (r_istore_n h (pc := 78) (kf := 1) 1 (by decide +kernel) rfl (by decide +kernel)) ?_
  refine zfmc (r_goto h (pc := 79) (off := -74) (by decide +kernel) 5 (by decide +kernel)) ?_
  refine zfmc (r_iload_n h (pc := 82) (kf := 1) 1 (by decide +kernel) rfl) ?_
  refine zfmc (r_ireturn h (pc := 83) (by decide +kernel) rfl) ?_
  exact zfm0)
def tb_X15_owned (E : ZEX) (d mc ms : Nat) : List (Nat × ZStep) := [(0, s_aload 0 1), (1, s_getf 14 10 4), (4, s_aload 0 5), (5, s_getf 14 11 8), (8, s_iload 1 9), (9, s_callV E d mc ms 13 MX14_has 2 12), (12, s_istore 2 13), (13, s_const (.int (0)) 14), (14, s_istore 3 15), (15, s_iload 3 16), (16, s_aload 0 17), (17, s_getf 14 13 20), (20, s_icmp_ge 47 23), (23, s_iload 2 24), (24, s_aload 0 25), (25, s_getf 14 12 28), (28, s_iload 3 29), (29, s_iaload E 30), (30, s_iload 1 31), (31, s_icmp_ne 38 34), (34, s_const (.int (1)) 35), (35, s_goto 39), (38, s_const (.int (0)) 39), (39, s_iadd 40), (40, s_istore 2 41), (41, s_iinc 3 (1) 44), (44, s_goto 15), (47, s_iload 2 48), (48, s_ireturn)]
set_option maxRecDepth 20000 in
theorem ok_X15_owned {E : ZEX} {X : ZMX} {d mc ms : Nat} {P : ZPT} {T : ZTT} (h : ZCX E X MX15_owned d mc ms P T) : ∀ pc, ZRow E X MX15_owned mc ms P T pc (ztb (tb_X15_owned E d mc ms) pc) := ztb_ok (by
  unfold tb_X15_owned
  refine zfmc (r_aload_n h (pc := 0) (kf := 0) 0 (by decide +kernel) rfl) ?_
  refine zfmc (r_getf h (pc := 1) (ix := 34) (by decide +kernel) ckX15 10 (by decide) wk_bb5033aff6) ?_
  refine zfmc (r_aload_n h (pc := 4) (kf := 0) 0 (by decide +kernel) rfl) ?_
  refine zfmc (r_getf h (pc := 5) (ix := 279) (by decide +kernel) ckX15 11 (by decide) wk_df7a3a0d01) ?_
  refine zfmc (r_iload_n h (pc := 8) (kf := 1) 1 (by decide +kernel) rfl) ?_
  refine zfmc (r_callV h (pc := 9) (ix := 282) (by decide +kernel) ckX14 2 mcX14_has wk_aeb5a0a373 wk_43280218c5 wk_5bbc87c0a7 rfl) ?_
  refine zfmc (r_istore_n h (pc := 12) (kf := 2) 2 (by decide +kernel) rfl (by decide +kernel)) ?_
  refine zfmc (r_iconst h (pc := 13) (z := 0) (by decide +kernel) (0) (by decide +kernel)) ?_
  refine zfmc (r_istore_n h (pc := 14) (kf := 3) 3 (by decide +kernel) rfl (by decide +kernel)) ?_
  refine zfmc (r_iload_n h (pc := 15) (kf := 3) 3 (by decide +kernel) rfl) ?_
  refine zfmc (r_aload_n h (pc := 16) (kf := 0) 0 (by decide +kernel) rfl) ?_
  refine zfmc (r_getf h (pc := 17) (ix := 285) (by decide +kernel) ckX15 13 (by decide) wk_c77fad5ba9) ?_
  refine zfmc (r_icmp_ge h (pc := 20) (off := 27) (by decide +kernel) 47 (by decide +kernel)) ?_
  refine zfmc (r_iload_n h (pc := 23) (kf := 2) 2 (by decide +kernel) rfl) ?_
  refine zfmc (r_aload_n h (pc := 24) (kf := 0) 0 (by decide +kernel) rfl) ?_
  refine zfmc (r_getf h (pc := 25) (ix := 37) (by decide +kernel) ckX15 12 (by decide) wk_340e4a7024) ?_
  refine zfmc (r_iload_n h (pc := 28) (kf := 3) 3 (by decide +kernel) rfl) ?_
  refine zfmc (r_iaload h (pc := 29) (by decide +kernel)) ?_
  refine zfmc (r_iload_n h (pc := 30) (kf := 1) 1 (by decide +kernel) rfl) ?_
  refine zfmc (r_icmp_ne h (pc := 31) (off := 7) (by decide +kernel) 38 (by decide +kernel)) ?_
  refine zfmc (r_iconst h (pc := 34) (z := 1) (by decide +kernel) (1) (by decide +kernel)) ?_
  refine zfmc (r_goto h (pc := 35) (off := 4) (by decide +kernel) 39 (by decide +kernel)) ?_
  refine zfmc (r_iconst h (pc := 38) (z := 0) (by decide +kernel) (0) (by decide +kernel)) ?_
  refine zfmc (r_iadd h (pc := 39) (by decide +kernel)) ?_
  refine zfmc (r_istore_n h (pc := 40) (kf := 2) 2 (by decide +kernel) rfl (by decide +kernel)) ?_
  refine zfmc (r_iinc h (pc := 41) 3 (z := 1) (by decide +kernel) (1) (by decide +kernel) (by decide +kernel)) ?_
  refine zfmc (r_goto h (pc := 44) (off := -29) (by decide +kernel) 15 (by decide +kernel)) ?_
  refine zfmc (r_iload_n h (pc := 47) (kf := 2) 2 (by decide +kernel) rfl) ?_
  refine zfmc (r_ireturn h (pc := 48) (by decide +kernel) rfl) ?_
  exact zfm0)
def tb_X15_value (E : ZEX) (d mc ms : Nat) : List (Nat × ZStep) := [(0, s_aload 0 1), (1, s_getf 14 6 4), (4, s_getf 12 0 7), (7, s_aload 0 8), (8, s_getf 14 9 11), (11, s_iaload E 12), (12, s_istore 1 13), (13, s_aload 0 14), (14, s_dup 15), (15, s_getf 14 9 18), (18, s_const (.int (1)) 19), (19, s_iadd 20), (20, s_putf 14 9 0 23), (23, s_iload 1 24), (24, s_tsw 3 [243, 356, 248, 356, 356, 356, 356, 356, 356, 356, 356, 356, 235, 253, 277, 277, 277, 258, 356, 356, 356, 356, 356, 356, 356, 356, 356, 356, 220, 356, 356, 356, 356, 356, 356, 356, 356, 339, 356, 356, 356, 356, 356, 356, 271] 356), (220, s_aload 0 221), (221, s_getf 14 6 224), (224, s_getf 12 3 227), (227, s_aload 0 228), (228, s_getf 14 9 231), (231, s_const (.int (1)) 232), (232, s_isub 233), (233, s_iaload E 234), (234, s_ireturn), (235, s_aload 0 236), (236, s_getf 14 10 239), (239, s_getf 13 0 242), (242, s_ireturn), (243, s_aload 0 244), (244, s_getf 14 16 247), (247, s_ireturn), (248, s_aload 0 249), (249, s_getf 14 17 252), (252, s_ireturn), (253, s_aload 0 254), (254, s_getf 14 13 257), (257, s_ireturn), (258, s_aload 0 259), (259, s_getf 14 10 262), (262, s_getf 13 11 265), (265, s_aload 0 266), (266, s_getf 14 11 269), (269, s_iaload E 270), (270, s_ireturn), (271, s_aload 0 272), (272, s_callV E d mc ms 14 MX15_value 0 275), (275, s_ineg 276), (276, s_ireturn), (277, s_aload 0 278), (278, s_getf 14 6 281), (281, s_getf 12 3 284), (284, s_aload 0 285), (285, s_getf 14 9 288), (288, s_iaload E 289), (289, s_istore 2 290), (290, s_aload 0 291), (291, s_dup 292), (292, s_getf 14 9 295), (295, s_const (.int (1)) 296), (296, s_iadd 297), (297, s_putf 14 9 0 300), (300, s_iload 1 301), (301, s_const (.int (17)) 303), (303, s_icmp_ne 315 306), (306, s_aload 0 307), (307, s_getf 14 15 310), (310, s_iload 2 311), (311, s_iaload E 312), (312, s_goto 338), (315, s_iload 1 316), (316, s_const (.int (18)) 318), (318, s_icmp_ne 329 321), (321, s_aload 0 322), (322, s_iload 2 323), (323, s_callV E d mc ms 14 MX15_owned 1 326), (326, s_goto 338), (329, s_aload 0 330), (330, s_getf 14 10 333), (333, s_getf 13 3 336), (336, s_iload 2 337), (337, s_iaload E 338), (338, s_ireturn), (339, s_aload 0 340), (340, s_callV E d mc ms 14 MX15_sum 0 343), (343, s_istore 2 344), (344, s_aload 0 345), (345, s_dup 346), (346, s_getf 14 9 349), (349, s_const (.int (1)) 350), (350, s_iadd 351), (351, s_putf 14 9 0 354), (354, s_iload 2 355), (355, s_ireturn), (356, s_aload 0 357), (357, s_dup 358), (358, s_getf 14 9 361), (361, s_const (.int (1)) 362), (362, s_iadd 363), (363, s_putf 14 9 0 366), (366, s_aload 0 367), (367, s_callV E d mc ms 14 MX15_sum 0 370), (370, s_istore 2 371), (371, s_aload 0 372), (372, s_dup 373), (373, s_getf 14 9 376), (376, s_const (.int (1)) 377), (377, s_iadd 378), (378, s_putf 14 9 0 381), (381, s_aload 0 382), (382, s_callV E d mc ms 14 MX15_sum 0 385), (385, s_istore 3 386), (386, s_aload 0 387), (387, s_dup 388), (388, s_getf 14 9 391), (391, s_const (.int (1)) 392), (392, s_iadd 393), (393, s_putf 14 9 0 396), (396, s_iload 1 397), (397, s_const (.int (24)) 399), (399, s_icmp_ne 410 402), (402, s_iload 2 403), (403, s_iload 3 404), (404, s_mmin d mc ms 407), (407, s_goto 415), (410, s_iload 2 411), (411, s_iload 3 412), (412, s_mmax d mc ms 415), (415, s_ireturn)]
set_option maxRecDepth 20000 in
theorem ok_X15_value {E : ZEX} {X : ZMX} {d mc ms : Nat} {P : ZPT} {T : ZTT} (h : ZCX E X MX15_value d mc ms P T) : ∀ pc, ZRow E X MX15_value mc ms P T pc (ztb (tb_X15_value E d mc ms) pc) := ztb_ok (by
  unfold tb_X15_value
  refine zfmc (r_aload_n h (pc := 0) (kf := 0) 0 (by decide +kernel) rfl) ?_
  refine zfmc (r_getf h (pc := 1) (ix := 20) (by decide +kernel) ckX15 6 (by decide) wk_bda7210969) ?_
  refine zfmc (r_getfN h (pc := 4) (ix := 105) (by decide +kernel) ckX13 0 (by decide) wk_7b5b465128) ?_
  refine zfmc (r_aload_n h (pc := 7) (kf := 0) 0 (by decide +kernel) rfl) ?_
  refine zfmc (r_getf h (pc := 8) (ix := 254) (by decide +kernel) ckX15 9 (by decide) wk_76716ac291) ?_
  refine zfmc (r_iaload h (pc := 11) (by decide +kernel)) ?_
  refine zfmc (r_istore_n h (pc := 12) (kf := 1) 1 (by decide +kernel) rfl (by decide +kernel)) ?_
  refine zfmc (r_aload_n h (pc := 13) (kf := 0) 0 (by decide +kernel) rfl) ?_
  refine zfmc (r_dup h (pc := 14) (by decide +kernel)) ?_
  refine zfmc (r_getf h (pc := 15) (ix := 254) (by decide +kernel) ckX15 9 (by decide) wk_76716ac291) ?_
  refine zfmc (r_iconst h (pc := 18) (z := 1) (by decide +kernel) (1) (by decide +kernel)) ?_
  refine zfmc (r_iadd h (pc := 19) (by decide +kernel)) ?_
  refine zfmc (r_putf h (pc := 20) (ix := 254) (by decide +kernel) ckX15 9 (by decide) 0 (fty := tyX15 9) (tyX15_ok 9 (by decide)) rfl rfl wk_76716ac291) ?_
  refine zfmc (r_iload_n h (pc := 23) (kf := 1) 1 (by decide +kernel) rfl) ?_
  refine zfmc (r_tsw h (pc := 24) (dflt := 332) (lo := 3) (hi := 47) (offs := #[219, 332, 224, 332, 332, 332, 332, 332, 332, 332, 332, 332, 211, 229, 253, 253, 253, 234, 332, 332, 332, 332, 332, 332, 332, 332, 332, 332, 196, 332, 332, 332, 332, 332, 332, 332, 332, 315, 332, 332, 332, 332, 332, 332, 247]) (len := 196) (by decide +kernel) [243, 356, 248, 356, 356, 356, 356, 356, 356, 356, 356, 356, 235, 253, 277, 277, 277, 258, 356, 356, 356, 356, 356, 356, 356, 356, 356, 356, 220, 356, 356, 356, 356, 356, 356, 356, 356, 339, 356, 356, 356, 356, 356, 356, 271] 356 (by decide +kernel) (by decide +kernel) (by decide +kernel)) ?_
  refine zfmc (r_aload_n h (pc := 220) (kf := 0) 0 (by decide +kernel) rfl) ?_
  refine zfmc (r_getf h (pc := 221) (ix := 20) (by decide +kernel) ckX15 6 (by decide) wk_bda7210969) ?_
  refine zfmc (r_getfN h (pc := 224) (ix := 175) (by decide +kernel) ckX13 3 (by decide) wk_083eb24f0a) ?_
  refine zfmc (r_aload_n h (pc := 227) (kf := 0) 0 (by decide +kernel) rfl) ?_
  refine zfmc (r_getf h (pc := 228) (ix := 254) (by decide +kernel) ckX15 9 (by decide) wk_76716ac291) ?_
  refine zfmc (r_iconst h (pc := 231) (z := 1) (by decide +kernel) (1) (by decide +kernel)) ?_
  refine zfmc (r_isub h (pc := 232) (by decide +kernel)) ?_
  refine zfmc (r_iaload h (pc := 233) (by decide +kernel)) ?_
  refine zfmc (r_ireturn h (pc := 234) (by decide +kernel) rfl) ?_
  refine zfmc (r_aload_n h (pc := 235) (kf := 0) 0 (by decide +kernel) rfl) ?_
  refine zfmc (r_getf h (pc := 236) (ix := 34) (by decide +kernel) ckX15 10 (by decide) wk_bb5033aff6) ?_
  refine zfmc (r_getfN h (pc := 239) (ix := 288) (by decide +kernel) ckX14 0 (by decide) wk_79428fe769) ?_
  refine zfmc (r_ireturn h (pc := 242) (by decide +kernel) rfl) ?_
  refine zfmc (r_aload_n h (pc := 243) (kf := 0) 0 (by decide +kernel) rfl) ?_
  refine zfmc (r_getf h (pc := 244) (ix := 291) (by decide +kernel) ckX15 16 (by decide) wk_7886e16464) ?_
  refine zfmc (r_ireturn h (pc := 247) (by decide +kernel) rfl) ?_
  refine zfmc (r_aload_n h (pc := 248) (kf := 0) 0 (by decide +kernel) rfl) ?_
  refine zfmc (r_getf h (pc := 249) (ix := 294) (by decide +kernel) ckX15 17 (by decide) wk_fadba25f12) ?_
  refine zfmc (r_ireturn h (pc := 252) (by decide +kernel) rfl) ?_
  refine zfmc (r_aload_n h (pc := 253) (kf := 0) 0 (by decide +kernel) rfl) ?_
  refine zfmc (r_getf h (pc := 254) (ix := 285) (by decide +kernel) ckX15 13 (by decide) wk_c77fad5ba9) ?_
  refine zfmc (r_ireturn h (pc := 257) (by decide +kernel) rfl) ?_
  refine zfmc (r_aload_n h (pc := 258) (kf := 0) 0 (by decide +kernel) rfl) ?_
  refine zfmc (r_getf h (pc := 259) (ix := 34) (by decide +kernel) ckX15 10 (by decide) wk_bb5033aff6) ?_
  refine zfmc (r_getfN h (pc := 262) (ix := 296) (by decide +kernel) ckX14 11 (by decide) wk_b0c93d9fec) ?_
  refine zfmc (r_aload_n h (pc := 265) (kf := 0) 0 (by decide +kernel) rfl) ?_
  refine zfmc (r_getf h (pc := 266) (ix := 279) (by decide +kernel) ckX15 11 (by decide) wk_df7a3a0d01) ?_
  refine zfmc (r_iaload h (pc := 269) (by decide +kernel)) ?_
  refine zfmc (r_ireturn h (pc := 270) (by decide +kernel) rfl) ?_
  refine zfmc (r_aload_n h (pc := 271) (kf := 0) 0 (by decide +kernel) rfl) ?_
  refine zfmc (r_callV h (pc := 272) (ix := 276) (by decide +kernel) ckX15 0 mcX15_value wk_32aea759f2 wk_3c16bf26aa wk_6bf1262fe2 rfl) ?_
  refine zfmc (r_ineg h (pc := 275) (by decide +kernel)) ?_
  refine zfmc (r_ireturn h (pc := 276) (by decide +kernel) rfl) ?_
  refine zfmc (r_aload_n h (pc := 277) (kf := 0) 0 (by decide +kernel) rfl) ?_
  refine zfmc (r_getf h (pc := 278) (ix := 20) (by decide +kernel) ckX15 6 (by decide) wk_bda7210969) ?_
  refine zfmc (r_getfN h (pc := 281) (ix := 175) (by decide +kernel) ckX13 3 (by decide) wk_083eb24f0a) ?_
  refine zfmc (r_aload_n h (pc := 284) (kf := 0) 0 (by decide +kernel) rfl) ?_
  refine zfmc (r_getf h (pc := 285) (ix := 254) (by decide +kernel) ckX15 9 (by decide) wk_76716ac291) ?_
  refine zfmc (r_iaload h (pc := 288) (by decide +kernel)) ?_
  refine zfmc (r_istore_n h (pc := 289) (kf := 2) 2 (by decide +kernel) rfl (by decide +kernel)) ?_
  refine zfmc (r_aload_n h (pc := 290) (kf := 0) 0 (by decide +kernel) rfl) ?_
  refine zfmc (r_dup h (pc := 291) (by decide +kernel)) ?_
  refine zfmc (r_getf h (pc := 292) (ix := 254) (by decide +kernel) ckX15 9 (by decide) wk_76716ac291) ?_
  refine zfmc (r_iconst h (pc := 295) (z := 1) (by decide +kernel) (1) (by decide +kernel)) ?_
  refine zfmc (r_iadd h (pc := 296) (by decide +kernel)) ?_
  refine zfmc (r_putf h (pc := 297) (ix := 254) (by decide +kernel) ckX15 9 (by decide) 0 (fty := tyX15 9) (tyX15_ok 9 (by decide)) rfl rfl wk_76716ac291) ?_
  refine zfmc (r_iload_n h (pc := 300) (kf := 1) 1 (by decide +kernel) rfl) ?_
  refine zfmc (r_bipush h (pc := 301) (z := 17) (by decide +kernel) (17) (by decide +kernel)) ?_
  refine zfmc (r_icmp_ne h (pc := 303) (off := 12) (by decide +kernel) 315 (by decide +kernel)) ?_
  refine zfmc (r_aload_n h (pc := 306) (kf := 0) 0 (by decide +kernel) rfl) ?_
  refine zfmc (r_getf h (pc := 307) (ix := 40) (by decide +kernel) ckX15 15 (by decide) wk_12c1aebea4) ?_
  refine zfmc (r_iload_n h (pc := 310) (kf := 2) 2 (by decide +kernel) rfl) ?_
  refine zfmc (r_iaload h (pc := 311) (by decide +kernel)) ?_
  refine zfmc (r_goto h (pc := 312) (off := 26) (by decide +kernel) 338 (by decide +kernel)) ?_
  refine zfmc (r_iload_n h (pc := 315) (kf := 1) 1 (by decide +kernel) rfl) ?_
  refine zfmc (r_bipush h (pc := 316) (z := 18) (by decide +kernel) (18) (by decide +kernel)) ?_
  refine zfmc (r_icmp_ne h (pc := 318) (off := 11) (by decide +kernel) 329 (by decide +kernel)) ?_
  refine zfmc (r_aload_n h (pc := 321) (kf := 0) 0 (by decide +kernel) rfl) ?_
  refine zfmc (r_iload_n h (pc := 322) (kf := 2) 2 (by decide +kernel) rfl) ?_
  refine zfmc (r_callV h (pc := 323) (ix := 299) (by decide +kernel) ckX15 1 mcX15_owned wk_2b018052f2 wk_e0696fcfec wk_f4d5465b82 rfl) ?_
  refine zfmc (r_goto h (pc := 326) (off := 12) (by decide +kernel) 338 (by decide +kernel)) ?_
  refine zfmc (r_aload_n h (pc := 329) (kf := 0) 0 (by decide +kernel) rfl) ?_
  refine zfmc (r_getf h (pc := 330) (ix := 34) (by decide +kernel) ckX15 10 (by decide) wk_bb5033aff6) ?_
  refine zfmc (r_getfN h (pc := 333) (ix := 302) (by decide +kernel) ckX14 3 (by decide) wk_f4f89b3b47) ?_
  refine zfmc (r_iload_n h (pc := 336) (kf := 2) 2 (by decide +kernel) rfl) ?_
  refine zfmc (r_iaload h (pc := 337) (by decide +kernel)) ?_
  refine zfmc (r_ireturn h (pc := 338) (by decide +kernel) rfl) ?_
  refine zfmc (r_aload_n h (pc := 339) (kf := 0) 0 (by decide +kernel) rfl) ?_
  refine zfmc (r_callV h (pc := 340) (ix := 270) (by decide +kernel) ckX15 0 mcX15_sum wk_cecbc95f9e wk_7667af7e7f wk_0bb49d9746 rfl) ?_
  refine zfmc (r_istore_n h (pc := 343) (kf := 2) 2 (by decide +kernel) rfl (by decide +kernel)) ?_
  refine zfmc (r_aload_n h (pc := 344) (kf := 0) 0 (by decide +kernel) rfl) ?_
  refine zfmc (r_dup h (pc := 345) (by decide +kernel)) ?_
  refine zfmc (r_getf h (pc := 346) (ix := 254) (by decide +kernel) ckX15 9 (by decide) wk_76716ac291) ?_
  refine zfmc (r_iconst h (pc := 349) (z := 1) (by decide +kernel) (1) (by decide +kernel)) ?_
  refine zfmc (r_iadd h (pc := 350) (by decide +kernel)) ?_
  refine zfmc (r_putf h (pc := 351) (ix := 254) (by decide +kernel) ckX15 9 (by decide) 0 (fty := tyX15 9) (tyX15_ok 9 (by decide)) rfl rfl wk_76716ac291) ?_
  refine zfmc (r_iload_n h (pc := 354) (kf := 2) 2 (by decide +kernel) rfl) ?_
  refine zfmc (r_ireturn h (pc := 355) (by decide +kernel) rfl) ?_
  refine zfmc (r_aload_n h (pc := 356) (kf := 0) 0 (by decide +kernel) rfl) ?_
  refine zfmc (r_dup h (pc := 357) (by decide +kernel)) ?_
  refine zfmc (r_getf h (pc := 358) (ix := 254) (by decide +kernel) ckX15 9 (by decide) wk_76716ac291) ?_
  refine zfmc (r_iconst h (pc := 361) (z := 1) (by decide +kernel) (1) (by decide +kernel)) ?_
  refine zfmc (r_iadd h (pc := 362) (by decide +kernel)) ?_
  refine zfmc (r_putf h (pc := 363) (ix := 254) (by decide +kernel) ckX15 9 (by decide) 0 (fty := tyX15 9) (tyX15_ok 9 (by decide)) rfl rfl wk_76716ac291) ?_
  refine zfmc (r_aload_n h (pc := 366) (kf := 0) 0 (by decide +kernel) rfl) ?_
  refine zfmc (r_callV h (pc := 367) (ix := 270) (by decide +kernel) ckX15 0 mcX15_sum wk_cecbc95f9e wk_7667af7e7f wk_0bb49d9746 rfl) ?_
  refine zfmc (r_istore_n h (pc := 370) (kf := 2) 2 (by decide +kernel) rfl (by decide +kernel)) ?_
  refine zfmc (r_aload_n h (pc := 371) (kf := 0) 0 (by decide +kernel) rfl) ?_
  refine zfmc (r_dup h (pc := 372) (by decide +kernel)) ?_
  refine zfmc (r_getf h (pc := 373) (ix := 254) (by decide +kernel) ckX15 9 (by decide) wk_76716ac291) ?_
  refine zfmc (r_iconst h (pc := 376) (z := 1) (by decide +kernel) (1) (by decide +kernel)) ?_
  refine zfmc (r_iadd h (pc := 377) (by decide +kernel)) ?_
  refine zfmc (r_putf h (pc := 378) (ix := 254) (by decide +kernel) ckX15 9 (by decide) 0 (fty := tyX15 9) (tyX15_ok 9 (by decide)) rfl rfl wk_76716ac291) ?_
  refine zfmc (r_aload_n h (pc := 381) (kf := 0) 0 (by decide +kernel) rfl) ?_
  refine zfmc (r_callV h (pc := 382) (ix := 270) (by decide +kernel) ckX15 0 mcX15_sum wk_cecbc95f9e wk_7667af7e7f wk_0bb49d9746 rfl) ?_
  refine zfmc (r_istore_n h (pc := 385) (kf := 3) 3 (by decide +kernel) rfl (by decide +kernel)) ?_
  refine zfmc (r_aload_n h (pc := 386) (kf := 0) 0 (by decide +kernel) rfl) ?_
  refine zfmc (r_dup h (pc := 387) (by decide +kernel)) ?_
  refine zfmc (r_getf h (pc := 388) (ix := 254) (by decide +kernel) ckX15 9 (by decide) wk_76716ac291) ?_
  refine zfmc (r_iconst h (pc := 391) (z := 1) (by decide +kernel) (1) (by decide +kernel)) ?_
  refine zfmc (r_iadd h (pc := 392) (by decide +kernel)) ?_
  refine zfmc (r_putf h (pc := 393) (ix := 254) (by decide +kernel) ckX15 9 (by decide) 0 (fty := tyX15 9) (tyX15_ok 9 (by decide)) rfl rfl wk_76716ac291) ?_
  refine zfmc (r_iload_n h (pc := 396) (kf := 1) 1 (by decide +kernel) rfl) ?_
  refine zfmc (r_bipush h (pc := 397) (z := 24) (by decide +kernel) (24) (by decide +kernel)) ?_
  refine zfmc (r_icmp_ne h (pc := 399) (off := 11) (by decide +kernel) 410 (by decide +kernel)) ?_
  refine zfmc (r_iload_n h (pc := 402) (kf := 2) 2 (by decide +kernel) rfl) ?_
  refine zfmc (r_iload_n h (pc := 403) (kf := 3) 3 (by decide +kernel) rfl) ?_
  refine zfmc (r_mmin h (pc := 404) (ix := 303) (by decide +kernel) wk_3d3e92053e wk_94a2aa520f wk_a21f4ed447 wk_eb9f31f5a8) ?_
  refine zfmc (r_goto h (pc := 407) (off := 8) (by decide +kernel) 415 (by decide +kernel)) ?_
  refine zfmc (r_iload_n h (pc := 410) (kf := 2) 2 (by decide +kernel) rfl) ?_
  refine zfmc (r_iload_n h (pc := 411) (kf := 3) 3 (by decide +kernel) rfl) ?_
  refine zfmc (r_mmax h (pc := 412) (ix := 308) (by decide +kernel) wk_c2281139cd wk_a84ac99c0d wk_a21f4ed447 wk_35712895b6) ?_
  refine zfmc (r_ireturn h (pc := 415) (by decide +kernel) rfl) ?_
  exact zfm0)
def tb_X15_held (E : ZEX) (d mc ms : Nat) : List (Nat × ZStep) := [(0, s_const (.long 0) 1), (1, s_iload 2 2), (2, s_i2l 3), (3, s_iload 0 4), (4, s_i2l 5), (5, s_iload 1 6), (6, s_i2l 7), (7, s_ladd 8), (8, s_mminL d mc ms 11), (11, s_mmaxL d mc ms 14), (14, s_l2i 15), (15, s_ireturn)]
set_option maxRecDepth 20000 in
theorem ok_X15_held {E : ZEX} {X : ZMX} {d mc ms : Nat} {P : ZPT} {T : ZTT} (h : ZCX E X MX15_held d mc ms P T) : ∀ pc, ZRow E X MX15_held mc ms P T pc (ztb (tb_X15_held E d mc ms) pc) := ztb_ok (by
  unfold tb_X15_held
  refine zfmc (r_lconst h (pc := 0) (z := 0) (by decide +kernel) 0 (by decide +kernel)) ?_
  refine zfmc (r_iload_n h (pc := 1) (kf := 2) 2 (by decide +kernel) rfl) ?_
  refine zfmc (r_i2l h (pc := 2) (by decide +kernel)) ?_
  refine zfmc (r_iload_n h (pc := 3) (kf := 0) 0 (by decide +kernel) rfl) ?_
  refine zfmc (r_i2l h (pc := 4) (by decide +kernel)) ?_
  refine zfmc (r_iload_n h (pc := 5) (kf := 1) 1 (by decide +kernel) rfl) ?_
  refine zfmc (r_i2l h (pc := 6) (by decide +kernel)) ?_
  refine zfmc (r_ladd h (pc := 7) (by decide +kernel)) ?_
  refine zfmc (r_mminL h (pc := 8) (ix := 311) (by decide +kernel) wk_0385063440 wk_1563c829ea wk_a21f4ed447 wk_453cdf8539) ?_
  refine zfmc (r_mmaxL h (pc := 11) (ix := 314) (by decide +kernel) wk_939652f1a1 wk_ffce1c061a wk_a21f4ed447 wk_625a60fffd) ?_
  refine zfmc (r_l2i h (pc := 14) (by decide +kernel)) ?_
  refine zfmc (r_ireturn h (pc := 15) (by decide +kernel) rfl) ?_
  exact zfm0)
def tb_X15_drawOne (E : ZEX) (d mc ms : Nat) : List (Nat × ZStep) := [(0, s_aload 0 1), (1, s_getf 14 10 4), (4, s_aload 0 5), (5, s_getf 14 11 8), (8, s_callV E d mc ms 13 MX14_draw 1 11), (11, s_istore 1 12), (12, s_iload 1 13), (13, s_const (.int (-1)) 14), (14, s_icmp_ne 18 17), (17, s_return), (18, s_aload 0 19), (19, s_getf 14 12 22), (22, s_aload 0 23), (23, s_getf 14 13 26), (26, s_iload 1 27), (27, s_iastore E 28), (28, s_aload 0 29), (29, s_dup 30), (30, s_getf 14 13 33), (33, s_const (.int (1)) 34), (34, s_iadd 35), (35, s_putf 14 13 0 38), (38, s_return)]
set_option maxRecDepth 20000 in
theorem ok_X15_drawOne {E : ZEX} {X : ZMX} {d mc ms : Nat} {P : ZPT} {T : ZTT} (h : ZCX E X MX15_drawOne d mc ms P T) : ∀ pc, ZRow E X MX15_drawOne mc ms P T pc (ztb (tb_X15_drawOne E d mc ms) pc) := ztb_ok (by
  unfold tb_X15_drawOne
  refine zfmc (r_aload_n h (pc := 0) (kf := 0) 0 (by decide +kernel) rfl) ?_
  refine zfmc (r_getf h (pc := 1) (ix := 34) (by decide +kernel) ckX15 10 (by decide) wk_bb5033aff6) ?_
  refine zfmc (r_aload_n h (pc := 4) (kf := 0) 0 (by decide +kernel) rfl) ?_
  refine zfmc (r_getf h (pc := 5) (ix := 279) (by decide +kernel) ckX15 11 (by decide) wk_df7a3a0d01) ?_
  refine zfmc (r_callV h (pc := 8) (ix := 316) (by decide +kernel) ckX14 1 mcX14_draw wk_989bc38816 wk_885c14eaa2 wk_e469915cf7 rfl) ?_
  refine zfmc (r_istore_n h (pc := 11) (kf := 1) 1 (by decide +kernel) rfl (by decide +kernel)) ?_
  refine zfmc (r_iload_n h (pc := 12) (kf := 1) 1 (by decide +kernel) rfl) ?_
  refine zfmc (r_iconst h (pc := 13) (z := -1) (by decide +kernel) (-1) (by decide +kernel)) ?_
  refine zfmc (r_icmp_ne h (pc := 14) (off := 4) (by decide +kernel) 18 (by decide +kernel)) ?_
  refine zfmc (r_return h (pc := 17) (by decide +kernel) rfl) ?_
  refine zfmc (r_aload_n h (pc := 18) (kf := 0) 0 (by decide +kernel) rfl) ?_
  refine zfmc (r_getf h (pc := 19) (ix := 37) (by decide +kernel) ckX15 12 (by decide) wk_340e4a7024) ?_
  refine zfmc (r_aload_n h (pc := 22) (kf := 0) 0 (by decide +kernel) rfl) ?_
  refine zfmc (r_getf h (pc := 23) (ix := 285) (by decide +kernel) ckX15 13 (by decide) wk_c77fad5ba9) ?_
  refine zfmc (r_iload_n h (pc := 26) (kf := 1) 1 (by decide +kernel) rfl) ?_
  refine zfmc (r_iastore h (pc := 27) (by decide +kernel)) ?_
  refine zfmc (r_aload_n h (pc := 28) (kf := 0) 0 (by decide +kernel) rfl) ?_
  refine zfmc (r_dup h (pc := 29) (by decide +kernel)) ?_
  refine zfmc (r_getf h (pc := 30) (ix := 285) (by decide +kernel) ckX15 13 (by decide) wk_c77fad5ba9) ?_
  refine zfmc (r_iconst h (pc := 33) (z := 1) (by decide +kernel) (1) (by decide +kernel)) ?_
  refine zfmc (r_iadd h (pc := 34) (by decide +kernel)) ?_
  refine zfmc (r_putf h (pc := 35) (ix := 285) (by decide +kernel) ckX15 13 (by decide) 0 (fty := tyX15 13) (tyX15_ok 13 (by decide)) rfl rfl wk_c77fad5ba9) ?_
  refine zfmc (r_return h (pc := 38) (by decide +kernel) rfl) ?_
  exact zfm0)
def tb_X15_trashFromHand (E : ZEX) (d mc ms : Nat) : List (Nat × ZStep) := [(0, s_aload 0 1), (1, s_getf 14 14 4), (4, s_const (.int (1)) 5), (5, s_iadd 6), (6, s_istore 2 7), (7, s_iload 2 8), (8, s_aload 0 9), (9, s_getf 14 13 12), (12, s_icmp_ge 105 15), (15, s_aload 0 16), (16, s_getf 14 12 19), (19, s_iload 2 20), (20, s_iaload E 21), (21, s_iload 1 22), (22, s_icmp_eq 28 25), (25, s_goto 99), (28, s_aload 0 29), (29, s_dup 30), (30, s_getf 14 13 33), (33, s_const (.int (1)) 34), (34, s_isub 35), (35, s_putf 14 13 0 38), (38, s_aload 0 39), (39, s_getf 14 12 42), (42, s_iload 2 43), (43, s_const (.int (1)) 44), (44, s_iadd 45), (45, s_aload 0 46), (46, s_getf 14 12 49), (49, s_iload 2 50), (50, s_aload 0 51), (51, s_getf 14 13 54), (54, s_iload 2 55), (55, s_isub 56), (56, s_acopy E d 59), (59, s_aload 0 60), (60, s_getf 14 10 63), (63, s_getf 13 11 66), (66, s_aload 0 67), (67, s_getf 14 11 70), (70, s_dup2 71), (71, s_iaload E 72), (72, s_const (.int (1)) 73), (73, s_iadd 74), (74, s_iastore E 75), (75, s_aload 0 76), (76, s_getf 14 10 79), (79, s_dup 80), (80, s_getf 13 1 83), (83, s_const (.int (1)) 84), (84, s_iadd 85), (85, s_putf 13 1 0 88), (88, s_aload 0 89), (89, s_dup 90), (90, s_getf 14 20 93), (93, s_const (.int (1)) 94), (94, s_iadd 95), (95, s_putf 14 20 0 98), (98, s_return), (99, s_iinc 2 (1) 102), (102, s_goto 7), (105, s_return)]
set_option maxRecDepth 20000 in
theorem ok_X15_trashFromHand {E : ZEX} {X : ZMX} {d mc ms : Nat} {P : ZPT} {T : ZTT} (h : ZCX E X MX15_trashFromHand d mc ms P T) : ∀ pc, ZRow E X MX15_trashFromHand mc ms P T pc (ztb (tb_X15_trashFromHand E d mc ms) pc) := ztb_ok (by
  unfold tb_X15_trashFromHand
  refine zfmc (r_aload_n h (pc := 0) (kf := 0) 0 (by decide +kernel) rfl) ?_
  refine zfmc (r_getf h (pc := 1) (ix := 319) (by decide +kernel) ckX15 14 (by decide) wk_9d40ab46c8) ?_
  refine zfmc (r_iconst h (pc := 4) (z := 1) (by decide +kernel) (1) (by decide +kernel)) ?_
  refine zfmc (r_iadd h (pc := 5) (by decide +kernel)) ?_
  refine zfmc (r_istore_n h (pc := 6) (kf := 2) 2 (by decide +kernel) rfl (by decide +kernel)) ?_
  refine zfmc (r_iload_n h (pc := 7) (kf := 2) 2 (by decide +kernel) rfl) ?_
  refine zfmc (r_aload_n h (pc := 8) (kf := 0) 0 (by decide +kernel) rfl) ?_
  refine zfmc (r_getf h (pc := 9) (ix := 285) (by decide +kernel) ckX15 13 (by decide) wk_c77fad5ba9) ?_
  refine zfmc (r_icmp_ge h (pc := 12) (off := 93) (by decide +kernel) 105 (by decide +kernel)) ?_
  refine zfmc (r_aload_n h (pc := 15) (kf := 0) 0 (by decide +kernel) rfl) ?_
  refine zfmc (r_getf h (pc := 16) (ix := 37) (by decide +kernel) ckX15 12 (by decide) wk_340e4a7024) ?_
  refine zfmc (r_iload_n h (pc := 19) (kf := 2) 2 (by decide +kernel) rfl) ?_
  refine zfmc (r_iaload h (pc := 20) (by decide +kernel)) ?_
  refine zfmc (r_iload_n h (pc := 21) (kf := 1) 1 (by decide +kernel) rfl) ?_
  refine zfmc (r_icmp_eq h (pc := 22) (off := 6) (by decide +kernel) 28 (by decide +kernel)) ?_
  refine zfmc (r_goto h (pc := 25) (off := 74) (by decide +kernel) 99 (by decide +kernel)) ?_
  refine zfmc (r_aload_n h (pc := 28) (kf := 0) 0 (by decide +kernel) rfl) ?_
  refine zfmc (r_dup h (pc := 29) (by decide +kernel)) ?_
  refine zfmc (r_getf h (pc := 30) (ix := 285) (by decide +kernel) ckX15 13 (by decide) wk_c77fad5ba9) ?_
  refine zfmc (r_iconst h (pc := 33) (z := 1) (by decide +kernel) (1) (by decide +kernel)) ?_
  refine zfmc (r_isub h (pc := 34) (by decide +kernel)) ?_
  refine zfmc (r_putf h (pc := 35) (ix := 285) (by decide +kernel) ckX15 13 (by decide) 0 (fty := tyX15 13) (tyX15_ok 13 (by decide)) rfl rfl wk_c77fad5ba9) ?_
  refine zfmc (r_aload_n h (pc := 38) (kf := 0) 0 (by decide +kernel) rfl) ?_
  refine zfmc (r_getf h (pc := 39) (ix := 37) (by decide +kernel) ckX15 12 (by decide) wk_340e4a7024) ?_
  refine zfmc (r_iload_n h (pc := 42) (kf := 2) 2 (by decide +kernel) rfl) ?_
  refine zfmc (r_iconst h (pc := 43) (z := 1) (by decide +kernel) (1) (by decide +kernel)) ?_
  refine zfmc (r_iadd h (pc := 44) (by decide +kernel)) ?_
  refine zfmc (r_aload_n h (pc := 45) (kf := 0) 0 (by decide +kernel) rfl) ?_
  refine zfmc (r_getf h (pc := 46) (ix := 37) (by decide +kernel) ckX15 12 (by decide) wk_340e4a7024) ?_
  refine zfmc (r_iload_n h (pc := 49) (kf := 2) 2 (by decide +kernel) rfl) ?_
  refine zfmc (r_aload_n h (pc := 50) (kf := 0) 0 (by decide +kernel) rfl) ?_
  refine zfmc (r_getf h (pc := 51) (ix := 285) (by decide +kernel) ckX15 13 (by decide) wk_c77fad5ba9) ?_
  refine zfmc (r_iload_n h (pc := 54) (kf := 2) 2 (by decide +kernel) rfl) ?_
  refine zfmc (r_isub h (pc := 55) (by decide +kernel)) ?_
  refine zfmc (r_acopy h (pc := 56) (ix := 322) (by decide +kernel) wk_4673d78a86 wk_14aeafd7f0 wk_410e289dfd wk_c7b251dcc4) ?_
  refine zfmc (r_aload_n h (pc := 59) (kf := 0) 0 (by decide +kernel) rfl) ?_
  refine zfmc (r_getf h (pc := 60) (ix := 34) (by decide +kernel) ckX15 10 (by decide) wk_bb5033aff6) ?_
  refine zfmc (r_getfN h (pc := 63) (ix := 296) (by decide +kernel) ckX14 11 (by decide) wk_b0c93d9fec) ?_
  refine zfmc (r_aload_n h (pc := 66) (kf := 0) 0 (by decide +kernel) rfl) ?_
  refine zfmc (r_getf h (pc := 67) (ix := 279) (by decide +kernel) ckX15 11 (by decide) wk_df7a3a0d01) ?_
  refine zfmc (r_dup2 h (pc := 70) (by decide +kernel)) ?_
  refine zfmc (r_iaload h (pc := 71) (by decide +kernel)) ?_
  refine zfmc (r_iconst h (pc := 72) (z := 1) (by decide +kernel) (1) (by decide +kernel)) ?_
  refine zfmc (r_iadd h (pc := 73) (by decide +kernel)) ?_
  refine zfmc (r_iastore h (pc := 74) (by decide +kernel)) ?_
  refine zfmc (r_aload_n h (pc := 75) (kf := 0) 0 (by decide +kernel) rfl) ?_
  refine zfmc (r_getf h (pc := 76) (ix := 34) (by decide +kernel) ckX15 10 (by decide) wk_bb5033aff6) ?_
  refine zfmc (r_dup h (pc := 79) (by decide +kernel)) ?_
  refine zfmc (r_getfN h (pc := 80) (ix := 328) (by decide +kernel) ckX14 1 (by decide) wk_755f3a88aa) ?_
  refine zfmc (r_iconst h (pc := 83) (z := 1) (by decide +kernel) (1) (by decide +kernel)) ?_
  refine zfmc (r_iadd h (pc := 84) (by decide +kernel)) ?_
  refine zfmc (r_putfN h (pc := 85) (ix := 328) (by decide +kernel) ckX14 1 (by decide) 0 (fty := tyX14 1) (tyX14_ok 1 (by decide)) rfl rfl wk_755f3a88aa) ?_
  refine zfmc (r_aload_n h (pc := 88) (kf := 0) 0 (by decide +kernel) rfl) ?_
  refine zfmc (r_dup h (pc := 89) (by decide +kernel)) ?_
  refine zfmc (r_getf h (pc := 90) (ix := 331) (by decide +kernel) ckX15 20 (by decide) wk_63e7676f14) ?_
  refine zfmc (r_iconst h (pc := 93) (z := 1) (by decide +kernel) (1) (by decide +kernel)) ?_
  refine zfmc (r_iadd h (pc := 94) (by decide +kernel)) ?_
  refine zfmc (r_putf h (pc := 95) (ix := 331) (by decide +kernel) ckX15 20 (by decide) 0 (fty := tyX15 20) (tyX15_ok 20 (by decide)) rfl rfl wk_63e7676f14) ?_
  refine zfmc (r_return h (pc := 98) (by decide +kernel) rfl) ?_
  refine zfmc (r_iinc h (pc := 99) 2 (z := 1) (by decide +kernel) (1) (by decide +kernel) (by decide +kernel)) ?_
  refine zfmc (r_goto h (pc := 102) (off := -95) (by decide +kernel) 7 (by decide +kernel)) ?_
  refine zfmc (r_return h (pc := 105) (by decide +kernel) rfl) ?_
  exact zfm0)
def tb_X15_sumAt (E : ZEX) (d mc ms : Nat) : List (Nat × ZStep) := [(0, s_aload 0 1), (1, s_iload 1 2), (2, s_putf 14 9 0 5), (5, s_aload 0 6), (6, s_callV E d mc ms 14 MX15_sum 0 9), (9, s_ireturn)]
set_option maxRecDepth 20000 in
theorem ok_X15_sumAt {E : ZEX} {X : ZMX} {d mc ms : Nat} {P : ZPT} {T : ZTT} (h : ZCX E X MX15_sumAt d mc ms P T) : ∀ pc, ZRow E X MX15_sumAt mc ms P T pc (ztb (tb_X15_sumAt E d mc ms) pc) := ztb_ok (by
  unfold tb_X15_sumAt
  refine zfmc (r_aload_n h (pc := 0) (kf := 0) 0 (by decide +kernel) rfl) ?_
  refine zfmc (r_iload_n h (pc := 1) (kf := 1) 1 (by decide +kernel) rfl) ?_
  refine zfmc (r_putf h (pc := 2) (ix := 254) (by decide +kernel) ckX15 9 (by decide) 0 (fty := tyX15 9) (tyX15_ok 9 (by decide)) rfl rfl wk_76716ac291) ?_
  refine zfmc (r_aload_n h (pc := 5) (kf := 0) 0 (by decide +kernel) rfl) ?_
  refine zfmc (r_callV h (pc := 6) (ix := 270) (by decide +kernel) ckX15 0 mcX15_sum wk_cecbc95f9e wk_7667af7e7f wk_0bb49d9746 rfl) ?_
  refine zfmc (r_ireturn h (pc := 9) (by decide +kernel) rfl) ?_
  exact zfm0)
def tb_X15_doDeed (E : ZEX) (d mc ms : Nat) : List (Nat × ZStep) := [(0, s_aload 0 1), (1, s_getf 14 6 4), (4, s_getf 12 0 7), (7, s_iload 1 8), (8, s_iaload E 9), (9, s_tsw 3 [40, 83, 62, 115] 131), (40, s_aload 0 41), (41, s_aload 0 42), (42, s_getf 14 16 45), (45, s_aload 0 46), (46, s_iload 1 47), (47, s_const (.int (1)) 48), (48, s_iadd 49), (49, s_callV E d mc ms 14 MX15_sumAt 1 52), (52, s_const (.int (999)) 55), (55, s_callS E d mc ms MX15_held 3 58), (58, s_putf 14 16 0 61), (61, s_return), (62, s_aload 0 63), (63, s_aload 0 64), (64, s_getf 14 17 67), (67, s_aload 0 68), (68, s_iload 1 69), (69, s_const (.int (1)) 70), (70, s_iadd 71), (71, s_callV E d mc ms 14 MX15_sumAt 1 74), (74, s_const (.int (9)) 76), (76, s_callS E d mc ms MX15_held 3 79), (79, s_putf 14 17 0 82), (82, s_return), (83, s_const (.int (0)) 84), (84, s_const (.int (9)) 86), (86, s_aload 0 87), (87, s_iload 1 88), (88, s_const (.int (1)) 89), (89, s_iadd 90), (90, s_callV E d mc ms 14 MX15_sumAt 1 93), (93, s_mmin d mc ms 96), (96, s_mmax d mc ms 99), (99, s_istore 3 100), (100, s_iload 3 101), (101, s_if_le 114 104), (104, s_aload 0 105), (105, s_callV E d mc ms 14 MX15_drawOne 0 108), (108, s_iinc 3 (-1) 111), (111, s_goto 100), (114, s_return), (115, s_aload 0 116), (116, s_aload 0 117), (117, s_getf 14 6 120), (120, s_getf 12 3 123), (123, s_iload 1 124), (124, s_const (.int (1)) 125), (125, s_iadd 126), (126, s_iaload E 127), (127, s_callV E d mc ms 14 MX15_trashFromHand 1 130), (130, s_return), (131, s_aload 0 132), (132, s_getf 14 15 135), (135, s_aload 0 136), (136, s_getf 14 6 139), (139, s_getf 12 3 142), (142, s_iload 1 143), (143, s_const (.int (1)) 144), (144, s_iadd 145), (145, s_iaload E 146), (146, s_iaload E 147), (147, s_aload 0 148), (148, s_getf 14 6 151), (151, s_getf 12 3 154), (154, s_iload 1 155), (155, s_const (.int (1)) 156), (156, s_iadd 157), (157, s_iaload E 158), (158, s_iload 2 159), (159, s_icmp_ne 166 162), (162, s_const (.int (1)) 163), (163, s_goto 167), (166, s_const (.int (0)) 167), (167, s_icmp_le 191 170), (170, s_aload 0 171), (171, s_aload 0 172), (172, s_getf 14 16 175), (175, s_aload 0 176), (176, s_iload 1 177), (177, s_const (.int (2)) 178), (178, s_iadd 179), (179, s_callV E d mc ms 14 MX15_sumAt 1 182), (182, s_const (.int (999)) 185), (185, s_callS E d mc ms MX15_held 3 188), (188, s_putf 14 16 0 191), (191, s_return)]
set_option maxRecDepth 20000 in
theorem ok_X15_doDeed {E : ZEX} {X : ZMX} {d mc ms : Nat} {P : ZPT} {T : ZTT} (h : ZCX E X MX15_doDeed d mc ms P T) : ∀ pc, ZRow E X MX15_doDeed mc ms P T pc (ztb (tb_X15_doDeed E d mc ms) pc) := ztb_ok (by
  unfold tb_X15_doDeed
  refine zfmc (r_aload_n h (pc := 0) (kf := 0) 0 (by decide +kernel) rfl) ?_
  refine zfmc (r_getf h (pc := 1) (ix := 20) (by decide +kernel) ckX15 6 (by decide) wk_bda7210969) ?_
  refine zfmc (r_getfN h (pc := 4) (ix := 105) (by decide +kernel) ckX13 0 (by decide) wk_7b5b465128) ?_
  refine zfmc (r_iload_n h (pc := 7) (kf := 1) 1 (by decide +kernel) rfl) ?_
  refine zfmc (r_iaload h (pc := 8) (by decide +kernel)) ?_
  refine zfmc (r_tsw h (pc := 9) (dflt := 122) (lo := 3) (hi := 6) (offs := #[31, 74, 53, 106]) (len := 31) (by decide +kernel) [40, 83, 62, 115] 131 (by decide +kernel) (by decide +kernel) (by decide +kernel)) ?_
  refine zfmc (r_aload_n h (pc := 40) (kf := 0) 0 (by decide +kernel) rfl) ?_
  refine zfmc (r_aload_n h (pc := 41) (kf := 0) 0 (by decide +kernel) rfl) ?_
  refine zfmc (r_getf h (pc := 42) (ix := 291) (by decide +kernel) ckX15 16 (by decide) wk_7886e16464) ?_
  refine zfmc (r_aload_n h (pc := 45) (kf := 0) 0 (by decide +kernel) rfl) ?_
  refine zfmc (r_iload_n h (pc := 46) (kf := 1) 1 (by decide +kernel) rfl) ?_
  refine zfmc (r_iconst h (pc := 47) (z := 1) (by decide +kernel) (1) (by decide +kernel)) ?_
  refine zfmc (r_iadd h (pc := 48) (by decide +kernel)) ?_
  refine zfmc (r_callV h (pc := 49) (ix := 334) (by decide +kernel) ckX15 1 mcX15_sumAt wk_b45bafceec wk_e372f4aa04 wk_da4d248681 rfl) ?_
  refine zfmc (r_sipush h (pc := 52) (z := 999) (by decide +kernel) (999) (by decide +kernel)) ?_
  refine zfmc (r_callS h (pc := 55) (ix := 337) (by decide +kernel) 3 mcX15_held wk_1b8493614c wk_a8357a3c23) ?_
  refine zfmc (r_putf h (pc := 58) (ix := 291) (by decide +kernel) ckX15 16 (by decide) 0 (fty := tyX15 16) (tyX15_ok 16 (by decide)) rfl rfl wk_7886e16464) ?_
  refine zfmc (r_return h (pc := 61) (by decide +kernel) rfl) ?_
  refine zfmc (r_aload_n h (pc := 62) (kf := 0) 0 (by decide +kernel) rfl) ?_
  refine zfmc (r_aload_n h (pc := 63) (kf := 0) 0 (by decide +kernel) rfl) ?_
  refine zfmc (r_getf h (pc := 64) (ix := 294) (by decide +kernel) ckX15 17 (by decide) wk_fadba25f12) ?_
  refine zfmc (r_aload_n h (pc := 67) (kf := 0) 0 (by decide +kernel) rfl) ?_
  refine zfmc (r_iload_n h (pc := 68) (kf := 1) 1 (by decide +kernel) rfl) ?_
  refine zfmc (r_iconst h (pc := 69) (z := 1) (by decide +kernel) (1) (by decide +kernel)) ?_
  refine zfmc (r_iadd h (pc := 70) (by decide +kernel)) ?_
  refine zfmc (r_callV h (pc := 71) (ix := 334) (by decide +kernel) ckX15 1 mcX15_sumAt wk_b45bafceec wk_e372f4aa04 wk_da4d248681 rfl) ?_
  refine zfmc (r_bipush h (pc := 74) (z := 9) (by decide +kernel) (9) (by decide +kernel)) ?_
  refine zfmc (r_callS h (pc := 76) (ix := 337) (by decide +kernel) 3 mcX15_held wk_1b8493614c wk_a8357a3c23) ?_
  refine zfmc (r_putf h (pc := 79) (ix := 294) (by decide +kernel) ckX15 17 (by decide) 0 (fty := tyX15 17) (tyX15_ok 17 (by decide)) rfl rfl wk_fadba25f12) ?_
  refine zfmc (r_return h (pc := 82) (by decide +kernel) rfl) ?_
  refine zfmc (r_iconst h (pc := 83) (z := 0) (by decide +kernel) (0) (by decide +kernel)) ?_
  refine zfmc (r_bipush h (pc := 84) (z := 9) (by decide +kernel) (9) (by decide +kernel)) ?_
  refine zfmc (r_aload_n h (pc := 86) (kf := 0) 0 (by decide +kernel) rfl) ?_
  refine zfmc (r_iload_n h (pc := 87) (kf := 1) 1 (by decide +kernel) rfl) ?_
  refine zfmc (r_iconst h (pc := 88) (z := 1) (by decide +kernel) (1) (by decide +kernel)) ?_
  refine zfmc (r_iadd h (pc := 89) (by decide +kernel)) ?_
  refine zfmc (r_callV h (pc := 90) (ix := 334) (by decide +kernel) ckX15 1 mcX15_sumAt wk_b45bafceec wk_e372f4aa04 wk_da4d248681 rfl) ?_
  refine zfmc (r_mmin h (pc := 93) (ix := 303) (by decide +kernel) wk_3d3e92053e wk_94a2aa520f wk_a21f4ed447 wk_eb9f31f5a8) ?_
  refine zfmc (r_mmax h (pc := 96) (ix := 308) (by decide +kernel) wk_c2281139cd wk_a84ac99c0d wk_a21f4ed447 wk_35712895b6) ?_
  refine zfmc (r_istore_n h (pc := 99) (kf := 3) 3 (by decide +kernel) rfl (by decide +kernel)) ?_
  refine zfmc (r_iload_n h (pc := 100) (kf := 3) 3 (by decide +kernel) rfl) ?_
  refine zfmc (r_if_le h (pc := 101) (off := 13) (by decide +kernel) 114 (by decide +kernel)) ?_
  refine zfmc (r_aload_n h (pc := 104) (kf := 0) 0 (by decide +kernel) rfl) ?_
  refine zfmc (r_callV h (pc := 105) (ix := 340) (by decide +kernel) ckX15 0 mcX15_drawOne wk_1107aef6bd wk_5e330a6f67 wk_a6f46fcbae rfl) ?_
  refine zfmc (r_iinc h (pc := 108) 3 (z := -1) (by decide +kernel) (-1) (by decide +kernel) (by decide +kernel)) ?_
  refine zfmc (r_goto h (pc := 111) (off := -11) (by decide +kernel) 100 (by decide +kernel)) ?_
  refine zfmc (r_return h (pc := 114) (by decide +kernel) rfl) ?_
  refine zfmc (r_aload_n h (pc := 115) (kf := 0) 0 (by decide +kernel) rfl) ?_
  refine zfmc (r_aload_n h (pc := 116) (kf := 0) 0 (by decide +kernel) rfl) ?_
  refine zfmc (r_getf h (pc := 117) (ix := 20) (by decide +kernel) ckX15 6 (by decide) wk_bda7210969) ?_
  refine zfmc (r_getfN h (pc := 120) (ix := 175) (by decide +kernel) ckX13 3 (by decide) wk_083eb24f0a) ?_
  refine zfmc (r_iload_n h (pc := 123) (kf := 1) 1 (by decide +kernel) rfl) ?_
  refine zfmc (r_iconst h (pc := 124) (z := 1) (by decide +kernel) (1) (by decide +kernel)) ?_
  refine zfmc (r_iadd h (pc := 125) (by decide +kernel)) ?_
  refine zfmc (r_iaload h (pc := 126) (by decide +kernel)) ?_
  refine zfmc (r_callV h (pc := 127) (ix := 343) (by decide +kernel) ckX15 1 mcX15_trashFromHand wk_26d19cfcc6 wk_4444314e88 wk_b14a680c9a rfl) ?_
  refine zfmc (r_return h (pc := 130) (by decide +kernel) rfl) ?_
  refine zfmc (r_aload_n h (pc := 131) (kf := 0) 0 (by decide +kernel) rfl) ?_
  refine zfmc (r_getf h (pc := 132) (ix := 40) (by decide +kernel) ckX15 15 (by decide) wk_12c1aebea4) ?_
  refine zfmc (r_aload_n h (pc := 135) (kf := 0) 0 (by decide +kernel) rfl) ?_
  refine zfmc (r_getf h (pc := 136) (ix := 20) (by decide +kernel) ckX15 6 (by decide) wk_bda7210969) ?_
  refine zfmc (r_getfN h (pc := 139) (ix := 175) (by decide +kernel) ckX13 3 (by decide) wk_083eb24f0a) ?_
  refine zfmc (r_iload_n h (pc := 142) (kf := 1) 1 (by decide +kernel) rfl) ?_
  refine zfmc (r_iconst h (pc := 143) (z := 1) (by decide +kernel) (1) (by decide +kernel)) ?_
  refine zfmc (r_iadd h (pc := 144) (by decide +kernel)) ?_
  refine zfmc (r_iaload h (pc := 145) (by decide +kernel)) ?_
  refine zfmc (r_iaload h (pc := 146) (by decide +kernel)) ?_
  refine zfmc (r_aload_n h (pc := 147) (kf := 0) 0 (by decide +kernel) rfl) ?_
  refine zfmc (r_getf h (pc := 148) (ix := 20) (by decide +kernel) ckX15 6 (by decide) wk_bda7210969) ?_
  refine zfmc (r_getfN h (pc := 151) (ix := 175) (by decide +kernel) ckX13 3 (by decide) wk_083eb24f0a) ?_
  refine zfmc (r_iload_n h (pc := 154) (kf := 1) 1 (by decide +kernel) rfl) ?_
  refine zfmc (r_iconst h (pc := 155) (z := 1) (by decide +kernel) (1) (by decide +kernel)) ?_
  refine zfmc (r_iadd h (pc := 156) (by decide +kernel)) ?_
  refine zfmc (r_iaload h (pc := 157) (by decide +kernel)) ?_
  refine zfmc (r_iload_n h (pc := 158) (kf := 2) 2 (by decide +kernel) rfl) ?_
  refine zfmc (r_icmp_ne h (pc := 159) (off := 7) (by decide +kernel) 166 (by decide +kernel)) ?_
  refine zfmc (r_iconst h (pc := 162) (z := 1) (by decide +kernel) (1) (by decide +kernel)) ?_
  refine zfmc (r_goto h (pc := 163) (off := 4) (by decide +kernel) 167 (by decide +kernel)) ?_
  refine zfmc (r_iconst h (pc := 166) (z := 0) (by decide +kernel) (0) (by decide +kernel)) ?_
  refine zfmc (r_icmp_le h (pc := 167) (off := 24) (by decide +kernel) 191 (by decide +kernel)) ?_
  refine zfmc (r_aload_n h (pc := 170) (kf := 0) 0 (by decide +kernel) rfl) ?_
  refine zfmc (r_aload_n h (pc := 171) (kf := 0) 0 (by decide +kernel) rfl) ?_
  refine zfmc (r_getf h (pc := 172) (ix := 291) (by decide +kernel) ckX15 16 (by decide) wk_7886e16464) ?_
  refine zfmc (r_aload_n h (pc := 175) (kf := 0) 0 (by decide +kernel) rfl) ?_
  refine zfmc (r_iload_n h (pc := 176) (kf := 1) 1 (by decide +kernel) rfl) ?_
  refine zfmc (r_iconst h (pc := 177) (z := 2) (by decide +kernel) (2) (by decide +kernel)) ?_
  refine zfmc (r_iadd h (pc := 178) (by decide +kernel)) ?_
  refine zfmc (r_callV h (pc := 179) (ix := 334) (by decide +kernel) ckX15 1 mcX15_sumAt wk_b45bafceec wk_e372f4aa04 wk_da4d248681 rfl) ?_
  refine zfmc (r_sipush h (pc := 182) (z := 999) (by decide +kernel) (999) (by decide +kernel)) ?_
  refine zfmc (r_callS h (pc := 185) (ix := 337) (by decide +kernel) 3 mcX15_held wk_1b8493614c wk_a8357a3c23) ?_
  refine zfmc (r_putf h (pc := 188) (ix := 291) (by decide +kernel) ckX15 16 (by decide) 0 (fty := tyX15 16) (tyX15_ok 16 (by decide)) rfl rfl wk_7886e16464) ?_
  refine zfmc (r_return h (pc := 191) (by decide +kernel) rfl) ?_
  exact zfm0)
def tb_X15_playHand (E : ZEX) (d mc ms : Nat) : List (Nat × ZStep) := [(0, s_aload 0 1), (1, s_const (.int (0)) 2), (2, s_putf 14 14 0 5), (5, s_aload 0 6), (6, s_getf 14 14 9), (9, s_aload 0 10), (10, s_getf 14 13 13), (13, s_icmp_ge 110 16), (16, s_aload 0 17), (17, s_getf 14 14 20), (20, s_const (.int (30)) 22), (22, s_icmp_ge 110 25), (25, s_aload 0 26), (26, s_getf 14 12 29), (29, s_aload 0 30), (30, s_getf 14 14 33), (33, s_iaload E 34), (34, s_istore 1 35), (35, s_aload 0 36), (36, s_getf 14 15 39), (39, s_iload 1 40), (40, s_dup2 41), (41, s_iaload E 42), (42, s_const (.int (1)) 43), (43, s_iadd 44), (44, s_iastore E 45), (45, s_aload 0 46), (46, s_getf 14 10 49), (49, s_getf 13 4 52), (52, s_iload 1 53), (53, s_dup2 54), (54, s_iaload E 55), (55, s_const (.int (1)) 56), (56, s_iadd 57), (57, s_iastore E 58), (58, s_const (.int (0)) 59), (59, s_istore 2 60), (60, s_iload 2 61), (61, s_aload 0 62), (62, s_getf 14 6 65), (65, s_getf 12 10 68), (68, s_iload 1 69), (69, s_iaload E 70), (70, s_icmp_ge 97 73), (73, s_aload 0 74), (74, s_aload 0 75), (75, s_getf 14 6 78), (78, s_getf 12 11 81), (81, s_const (.int (4)) 82), (82, s_iload 1 83), (83, s_imul 84), (84, s_iload 2 85), (85, s_iadd 86), (86, s_iaload E 87), (87, s_iload 1 88), (88, s_callV E d mc ms 14 MX15_doDeed 2 91), (91, s_iinc 2 (1) 94), (94, s_goto 60), (97, s_aload 0 98), (98, s_dup 99), (99, s_getf 14 14 102), (102, s_const (.int (1)) 103), (103, s_iadd 104), (104, s_putf 14 14 0 107), (107, s_goto 5), (110, s_return)]
set_option maxRecDepth 20000 in
theorem ok_X15_playHand {E : ZEX} {X : ZMX} {d mc ms : Nat} {P : ZPT} {T : ZTT} (h : ZCX E X MX15_playHand d mc ms P T) : ∀ pc, ZRow E X MX15_playHand mc ms P T pc (ztb (tb_X15_playHand E d mc ms) pc) := ztb_ok (by
  unfold tb_X15_playHand
  refine zfmc (r_aload_n h (pc := 0) (kf := 0) 0 (by decide +kernel) rfl) ?_
  refine zfmc (r_iconst h (pc := 1) (z := 0) (by decide +kernel) (0) (by decide +kernel)) ?_
  refine zfmc (r_putf h (pc := 2) (ix := 319) (by decide +kernel) ckX15 14 (by decide) 0 (fty := tyX15 14) (tyX15_ok 14 (by decide)) rfl rfl wk_9d40ab46c8) ?_
  refine zfmc (r_aload_n h (pc := 5) (kf := 0) 0 (by decide +kernel) rfl) ?_
  refine zfmc (r_getf h (pc := 6) (ix := 319) (by decide +kernel) ckX15 14 (by decide) wk_9d40ab46c8) ?_
  refine zfmc (r_aload_n h (pc := 9) (kf := 0) 0 (by decide +kernel) rfl) ?_
  refine zfmc (r_getf h (pc := 10) (ix := 285) (by decide +kernel) ckX15 13 (by decide) wk_c77fad5ba9) ?_
  refine zfmc (r_icmp_ge h (pc := 13) (off := 97) (by decide +kernel) 110 (by decide +kernel)) ?_
  refine zfmc (r_aload_n h (pc := 16) (kf := 0) 0 (by decide +kernel) rfl) ?_
  refine zfmc (r_getf h (pc := 17) (ix := 319) (by decide +kernel) ckX15 14 (by decide) wk_9d40ab46c8) ?_
  refine zfmc (r_bipush h (pc := 20) (z := 30) (by decide +kernel) (30) (by decide +kernel)) ?_
  refine zfmc (r_icmp_ge h (pc := 22) (off := 88) (by decide +kernel) 110 (by decide +kernel)) ?_
  refine zfmc (r_aload_n h (pc := 25) (kf := 0) 0 (by decide +kernel) rfl) ?_
  refine zfmc (r_getf h (pc := 26) (ix := 37) (by decide +kernel) ckX15 12 (by decide) wk_340e4a7024) ?_
  refine zfmc (r_aload_n h (pc := 29) (kf := 0) 0 (by decide +kernel) rfl) ?_
  refine zfmc (r_getf h (pc := 30) (ix := 319) (by decide +kernel) ckX15 14 (by decide) wk_9d40ab46c8) ?_
  refine zfmc (r_iaload h (pc := 33) (by decide +kernel)) ?_
  refine zfmc (r_istore_n h (pc := 34) (kf := 1) 1 (by decide +kernel) rfl (by decide +kernel)) ?_
  refine zfmc (r_aload_n h (pc := 35) (kf := 0) 0 (by decide +kernel) rfl) ?_
  refine zfmc (r_getf h (pc := 36) (ix := 40) (by decide +kernel) ckX15 15 (by decide) wk_12c1aebea4) ?_
  refine zfmc (r_iload_n h (pc := 39) (kf := 1) 1 (by decide +kernel) rfl) ?_
  refine zfmc (r_dup2 h (pc := 40) (by decide +kernel)) ?_
  refine zfmc (r_iaload h (pc := 41) (by decide +kernel)) ?_
  refine zfmc (r_iconst h (pc := 42) (z := 1) (by decide +kernel) (1) (by decide +kernel)) ?_
  refine zfmc (r_iadd h (pc := 43) (by decide +kernel)) ?_
  refine zfmc (r_iastore h (pc := 44) (by decide +kernel)) ?_
  refine zfmc (r_aload_n h (pc := 45) (kf := 0) 0 (by decide +kernel) rfl) ?_
  refine zfmc (r_getf h (pc := 46) (ix := 34) (by decide +kernel) ckX15 10 (by decide) wk_bb5033aff6) ?_
  refine zfmc (r_getfN h (pc := 49) (ix := 347) (by decide +kernel) ckX14 4 (by decide) wk_f66b0e492e) ?_
  refine zfmc (r_iload_n h (pc := 52) (kf := 1) 1 (by decide +kernel) rfl) ?_
  refine zfmc (r_dup2 h (pc := 53) (by decide +kernel)) ?_
  refine zfmc (r_iaload h (pc := 54) (by decide +kernel)) ?_
  refine zfmc (r_iconst h (pc := 55) (z := 1) (by decide +kernel) (1) (by decide +kernel)) ?_
  refine zfmc (r_iadd h (pc := 56) (by decide +kernel)) ?_
  refine zfmc (r_iastore h (pc := 57) (by decide +kernel)) ?_
  refine zfmc (r_iconst h (pc := 58) (z := 0) (by decide +kernel) (0) (by decide +kernel)) ?_
  refine zfmc (r_istore_n h (pc := 59) (kf := 2) 2 (by decide +kernel) rfl (by decide +kernel)) ?_
  refine zfmc (r_iload_n h (pc := 60) (kf := 2) 2 (by decide +kernel) rfl) ?_
  refine zfmc (r_aload_n h (pc := 61) (kf := 0) 0 (by decide +kernel) rfl) ?_
  refine zfmc (r_getf h (pc := 62) (ix := 20) (by decide +kernel) ckX15 6 (by decide) wk_bda7210969) ?_
  refine zfmc (r_getfN h (pc := 65) (ix := 222) (by decide +kernel) ckX13 10 (by decide) wk_28960faeb1) ?_
  refine zfmc (r_iload_n h (pc := 68) (kf := 1) 1 (by decide +kernel) rfl) ?_
  refine zfmc (r_iaload h (pc := 69) (by decide +kernel)) ?_
  refine zfmc (r_icmp_ge h (pc := 70) (off := 27) (by decide +kernel) 97 (by decide +kernel)) ?_
  refine zfmc (r_aload_n h (pc := 73) (kf := 0) 0 (by decide +kernel) rfl) ?_
  refine zfmc (r_aload_n h (pc := 74) (kf := 0) 0 (by decide +kernel) rfl) ?_
  refine zfmc (r_getf h (pc := 75) (ix := 20) (by decide +kernel) ckX15 6 (by decide) wk_bda7210969) ?_
  refine zfmc (r_getfN h (pc := 78) (ix := 225) (by decide +kernel) ckX13 11 (by decide) wk_07bb0eca4f) ?_
  refine zfmc (r_iconst h (pc := 81) (z := 4) (by decide +kernel) (4) (by decide +kernel)) ?_
  refine zfmc (r_iload_n h (pc := 82) (kf := 1) 1 (by decide +kernel) rfl) ?_
  refine zfmc (r_imul h (pc := 83) (by decide +kernel)) ?_
  refine zfmc (r_iload_n h (pc := 84) (kf := 2) 2 (by decide +kernel) rfl) ?_
  refine zfmc (r_iadd h (pc := 85) (by decide +kernel)) ?_
  refine zfmc (r_iaload h (pc := 86) (by decide +kernel)) ?_
  refine zfmc (r_iload_n h (pc := 87) (kf := 1) 1 (by decide +kernel) rfl) ?_
  refine zfmc (r_callV h (pc := 88) (ix := 350) (by decide +kernel) ckX15 2 mcX15_doDeed wk_60d8983f78 wk_74eb7f077f wk_8b6cd22c30 rfl) ?_
  refine zfmc (r_iinc h (pc := 91) 2 (z := 1) (by decide +kernel) (1) (by decide +kernel) (by decide +kernel)) ?_
  refine zfmc (r_goto h (pc := 94) (off := -34) (by decide +kernel) 60 (by decide +kernel)) ?_
  refine zfmc (r_aload_n h (pc := 97) (kf := 0) 0 (by decide +kernel) rfl) ?_
  refine zfmc (r_dup h (pc := 98) (by decide +kernel)) ?_
  refine zfmc (r_getf h (pc := 99) (ix := 319) (by decide +kernel) ckX15 14 (by decide) wk_9d40ab46c8) ?_
  refine zfmc (r_iconst h (pc := 102) (z := 1) (by decide +kernel) (1) (by decide +kernel)) ?_
  refine zfmc (r_iadd h (pc := 103) (by decide +kernel)) ?_
  refine zfmc (r_putf h (pc := 104) (ix := 319) (by decide +kernel) ckX15 14 (by decide) 0 (fty := tyX15 14) (tyX15_ok 14 (by decide)) rfl rfl wk_9d40ab46c8) ?_
  refine zfmc (r_goto h (pc := 107) (off := -102) (by decide +kernel) 5 (by decide +kernel)) ?_
  refine zfmc (r_return h (pc := 110) (by decide +kernel) rfl) ?_
  exact zfm0)
section
variable {E : ZEX} {d mc ms : Nat} {cut : Nat → Bool} {G : ZCont} {R : ZRtn} {T : ZTT} {Z : Nat → ZCont}
theorem f_X15_test_0 (hZ : ZRN (ztb (tb_X15_test E d mc ms)) cut G R T Z) (f : Nat) (L : ZLV) (st : List Value) (σ : ZHp) (n k w : Nat) : Z (f + 1) 0 L st σ n k w = s_aload 0 1 L st σ n k w (zk1 cut G (Z f)) G R T := zrs hZ rfl f L st σ n k w
theorem f_X15_test_1 (hZ : ZRN (ztb (tb_X15_test E d mc ms)) cut G R T Z) (f : Nat) (L : ZLV) (st : List Value) (σ : ZHp) (n k w : Nat) : Z (f + 1) 1 L st σ n k w = s_callV E d mc ms 14 MX15_both 0 4 L st σ n k w (zk1 cut G (Z f)) G R T := zrs hZ rfl f L st σ n k w
theorem f_X15_test_4 (hZ : ZRN (ztb (tb_X15_test E d mc ms)) cut G R T Z) (f : Nat) (L : ZLV) (st : List Value) (σ : ZHp) (n k w : Nat) : Z (f + 1) 4 L st σ n k w = s_istore 1 5 L st σ n k w (zk1 cut G (Z f)) G R T := zrs hZ rfl f L st σ n k w
theorem f_X15_test_5 (hZ : ZRN (ztb (tb_X15_test E d mc ms)) cut G R T Z) (f : Nat) (L : ZLV) (st : List Value) (σ : ZHp) (n k w : Nat) : Z (f + 1) 5 L st σ n k w = s_aload 0 6 L st σ n k w (zk1 cut G (Z f)) G R T := zrs hZ rfl f L st σ n k w
theorem f_X15_test_6 (hZ : ZRN (ztb (tb_X15_test E d mc ms)) cut G R T Z) (f : Nat) (L : ZLV) (st : List Value) (σ : ZHp) (n k w : Nat) : Z (f + 1) 6 L st σ n k w = s_const (.int (23)) 8 L st σ n k w (zk1 cut G (Z f)) G R T := zrs hZ rfl f L st σ n k w
theorem f_X15_test_8 (hZ : ZRN (ztb (tb_X15_test E d mc ms)) cut G R T Z) (f : Nat) (L : ZLV) (st : List Value) (σ : ZHp) (n k w : Nat) : Z (f + 1) 8 L st σ n k w = s_callV E d mc ms 14 MX15_goesBy 1 11 L st σ n k w (zk1 cut G (Z f)) G R T := zrs hZ rfl f L st σ n k w
theorem f_X15_test_11 (hZ : ZRN (ztb (tb_X15_test E d mc ms)) cut G R T Z) (f : Nat) (L : ZLV) (st : List Value) (σ : ZHp) (n k w : Nat) : Z (f + 1) 11 L st σ n k w = s_if_eq 24 14 L st σ n k w (zk1 cut G (Z f)) G R T := zrs hZ rfl f L st σ n k w
theorem f_X15_test_14 (hZ : ZRN (ztb (tb_X15_test E d mc ms)) cut G R T Z) (f : Nat) (L : ZLV) (st : List Value) (σ : ZHp) (n k w : Nat) : Z (f + 1) 14 L st σ n k w = s_iload 1 15 L st σ n k w (zk1 cut G (Z f)) G R T := zrs hZ rfl f L st σ n k w
theorem f_X15_test_15 (hZ : ZRN (ztb (tb_X15_test E d mc ms)) cut G R T Z) (f : Nat) (L : ZLV) (st : List Value) (σ : ZHp) (n k w : Nat) : Z (f + 1) 15 L st σ n k w = s_aload 0 16 L st σ n k w (zk1 cut G (Z f)) G R T := zrs hZ rfl f L st σ n k w
theorem f_X15_test_16 (hZ : ZRN (ztb (tb_X15_test E d mc ms)) cut G R T Z) (f : Nat) (L : ZLV) (st : List Value) (σ : ZHp) (n k w : Nat) : Z (f + 1) 16 L st σ n k w = s_callV E d mc ms 14 MX15_both 0 19 L st σ n k w (zk1 cut G (Z f)) G R T := zrs hZ rfl f L st σ n k w
theorem f_X15_test_19 (hZ : ZRN (ztb (tb_X15_test E d mc ms)) cut G R T Z) (f : Nat) (L : ZLV) (st : List Value) (σ : ZHp) (n k w : Nat) : Z (f + 1) 19 L st σ n k w = s_ior 20 L st σ n k w (zk1 cut G (Z f)) G R T := zrs hZ rfl f L st σ n k w
theorem f_X15_test_20 (hZ : ZRN (ztb (tb_X15_test E d mc ms)) cut G R T Z) (f : Nat) (L : ZLV) (st : List Value) (σ : ZHp) (n k w : Nat) : Z (f + 1) 20 L st σ n k w = s_istore 1 21 L st σ n k w (zk1 cut G (Z f)) G R T := zrs hZ rfl f L st σ n k w
theorem f_X15_test_21 (hZ : ZRN (ztb (tb_X15_test E d mc ms)) cut G R T Z) (f : Nat) (L : ZLV) (st : List Value) (σ : ZHp) (n k w : Nat) : Z (f + 1) 21 L st σ n k w = s_goto 5 L st σ n k w (zk1 cut G (Z f)) G R T := zrs hZ rfl f L st σ n k w
theorem f_X15_test_24 (hZ : ZRN (ztb (tb_X15_test E d mc ms)) cut G R T Z) (f : Nat) (L : ZLV) (st : List Value) (σ : ZHp) (n k w : Nat) : Z (f + 1) 24 L st σ n k w = s_iload 1 25 L st σ n k w (zk1 cut G (Z f)) G R T := zrs hZ rfl f L st σ n k w
theorem f_X15_test_25 (hZ : ZRN (ztb (tb_X15_test E d mc ms)) cut G R T Z) (f : Nat) (L : ZLV) (st : List Value) (σ : ZHp) (n k w : Nat) : Z (f + 1) 25 L st σ n k w = s_zreturn L st σ n k w (zk1 cut G (Z f)) G R T := zrs hZ rfl f L st σ n k w
theorem f_X15_both_0 (hZ : ZRN (ztb (tb_X15_both E d mc ms)) cut G R T Z) (f : Nat) (L : ZLV) (st : List Value) (σ : ZHp) (n k w : Nat) : Z (f + 1) 0 L st σ n k w = s_aload 0 1 L st σ n k w (zk1 cut G (Z f)) G R T := zrs hZ rfl f L st σ n k w
theorem f_X15_both_1 (hZ : ZRN (ztb (tb_X15_both E d mc ms)) cut G R T Z) (f : Nat) (L : ZLV) (st : List Value) (σ : ZHp) (n k w : Nat) : Z (f + 1) 1 L st σ n k w = s_callV E d mc ms 14 MX15_single 0 4 L st σ n k w (zk1 cut G (Z f)) G R T := zrs hZ rfl f L st σ n k w
theorem f_X15_both_4 (hZ : ZRN (ztb (tb_X15_both E d mc ms)) cut G R T Z) (f : Nat) (L : ZLV) (st : List Value) (σ : ZHp) (n k w : Nat) : Z (f + 1) 4 L st σ n k w = s_istore 1 5 L st σ n k w (zk1 cut G (Z f)) G R T := zrs hZ rfl f L st σ n k w
theorem f_X15_both_5 (hZ : ZRN (ztb (tb_X15_both E d mc ms)) cut G R T Z) (f : Nat) (L : ZLV) (st : List Value) (σ : ZHp) (n k w : Nat) : Z (f + 1) 5 L st σ n k w = s_aload 0 6 L st σ n k w (zk1 cut G (Z f)) G R T := zrs hZ rfl f L st σ n k w
theorem f_X15_both_6 (hZ : ZRN (ztb (tb_X15_both E d mc ms)) cut G R T Z) (f : Nat) (L : ZLV) (st : List Value) (σ : ZHp) (n k w : Nat) : Z (f + 1) 6 L st σ n k w = s_const (.int (22)) 8 L st σ n k w (zk1 cut G (Z f)) G R T := zrs hZ rfl f L st σ n k w
theorem f_X15_both_8 (hZ : ZRN (ztb (tb_X15_both E d mc ms)) cut G R T Z) (f : Nat) (L : ZLV) (st : List Value) (σ : ZHp) (n k w : Nat) : Z (f + 1) 8 L st σ n k w = s_callV E d mc ms 14 MX15_goesBy 1 11 L st σ n k w (zk1 cut G (Z f)) G R T := zrs hZ rfl f L st σ n k w
theorem f_X15_both_11 (hZ : ZRN (ztb (tb_X15_both E d mc ms)) cut G R T Z) (f : Nat) (L : ZLV) (st : List Value) (σ : ZHp) (n k w : Nat) : Z (f + 1) 11 L st σ n k w = s_if_eq 24 14 L st σ n k w (zk1 cut G (Z f)) G R T := zrs hZ rfl f L st σ n k w
theorem f_X15_both_14 (hZ : ZRN (ztb (tb_X15_both E d mc ms)) cut G R T Z) (f : Nat) (L : ZLV) (st : List Value) (σ : ZHp) (n k w : Nat) : Z (f + 1) 14 L st σ n k w = s_iload 1 15 L st σ n k w (zk1 cut G (Z f)) G R T := zrs hZ rfl f L st σ n k w
theorem f_X15_both_15 (hZ : ZRN (ztb (tb_X15_both E d mc ms)) cut G R T Z) (f : Nat) (L : ZLV) (st : List Value) (σ : ZHp) (n k w : Nat) : Z (f + 1) 15 L st σ n k w = s_aload 0 16 L st σ n k w (zk1 cut G (Z f)) G R T := zrs hZ rfl f L st σ n k w
theorem f_X15_both_16 (hZ : ZRN (ztb (tb_X15_both E d mc ms)) cut G R T Z) (f : Nat) (L : ZLV) (st : List Value) (σ : ZHp) (n k w : Nat) : Z (f + 1) 16 L st σ n k w = s_callV E d mc ms 14 MX15_single 0 19 L st σ n k w (zk1 cut G (Z f)) G R T := zrs hZ rfl f L st σ n k w
theorem f_X15_both_19 (hZ : ZRN (ztb (tb_X15_both E d mc ms)) cut G R T Z) (f : Nat) (L : ZLV) (st : List Value) (σ : ZHp) (n k w : Nat) : Z (f + 1) 19 L st σ n k w = s_iand 20 L st σ n k w (zk1 cut G (Z f)) G R T := zrs hZ rfl f L st σ n k w
theorem f_X15_both_20 (hZ : ZRN (ztb (tb_X15_both E d mc ms)) cut G R T Z) (f : Nat) (L : ZLV) (st : List Value) (σ : ZHp) (n k w : Nat) : Z (f + 1) 20 L st σ n k w = s_istore 1 21 L st σ n k w (zk1 cut G (Z f)) G R T := zrs hZ rfl f L st σ n k w
theorem f_X15_both_21 (hZ : ZRN (ztb (tb_X15_both E d mc ms)) cut G R T Z) (f : Nat) (L : ZLV) (st : List Value) (σ : ZHp) (n k w : Nat) : Z (f + 1) 21 L st σ n k w = s_goto 5 L st σ n k w (zk1 cut G (Z f)) G R T := zrs hZ rfl f L st σ n k w
theorem f_X15_both_24 (hZ : ZRN (ztb (tb_X15_both E d mc ms)) cut G R T Z) (f : Nat) (L : ZLV) (st : List Value) (σ : ZHp) (n k w : Nat) : Z (f + 1) 24 L st σ n k w = s_iload 1 25 L st σ n k w (zk1 cut G (Z f)) G R T := zrs hZ rfl f L st σ n k w
theorem f_X15_both_25 (hZ : ZRN (ztb (tb_X15_both E d mc ms)) cut G R T Z) (f : Nat) (L : ZLV) (st : List Value) (σ : ZHp) (n k w : Nat) : Z (f + 1) 25 L st σ n k w = s_zreturn L st σ n k w (zk1 cut G (Z f)) G R T := zrs hZ rfl f L st σ n k w
theorem f_X15_single_0 (hZ : ZRN (ztb (tb_X15_single E d mc ms)) cut G R T Z) (f : Nat) (L : ZLV) (st : List Value) (σ : ZHp) (n k w : Nat) : Z (f + 1) 0 L st σ n k w = s_aload 0 1 L st σ n k w (zk1 cut G (Z f)) G R T := zrs hZ rfl f L st σ n k w
theorem f_X15_single_1 (hZ : ZRN (ztb (tb_X15_single E d mc ms)) cut G R T Z) (f : Nat) (L : ZLV) (st : List Value) (σ : ZHp) (n k w : Nat) : Z (f + 1) 1 L st σ n k w = s_const (.int (21)) 3 L st σ n k w (zk1 cut G (Z f)) G R T := zrs hZ rfl f L st σ n k w
theorem f_X15_single_3 (hZ : ZRN (ztb (tb_X15_single E d mc ms)) cut G R T Z) (f : Nat) (L : ZLV) (st : List Value) (σ : ZHp) (n k w : Nat) : Z (f + 1) 3 L st σ n k w = s_callV E d mc ms 14 MX15_goesBy 1 6 L st σ n k w (zk1 cut G (Z f)) G R T := zrs hZ rfl f L st σ n k w
theorem f_X15_single_6 (hZ : ZRN (ztb (tb_X15_single E d mc ms)) cut G R T Z) (f : Nat) (L : ZLV) (st : List Value) (σ : ZHp) (n k w : Nat) : Z (f + 1) 6 L st σ n k w = s_if_eq 22 9 L st σ n k w (zk1 cut G (Z f)) G R T := zrs hZ rfl f L st σ n k w
theorem f_X15_single_9 (hZ : ZRN (ztb (tb_X15_single E d mc ms)) cut G R T Z) (f : Nat) (L : ZLV) (st : List Value) (σ : ZHp) (n k w : Nat) : Z (f + 1) 9 L st σ n k w = s_aload 0 10 L st σ n k w (zk1 cut G (Z f)) G R T := zrs hZ rfl f L st σ n k w
theorem f_X15_single_10 (hZ : ZRN (ztb (tb_X15_single E d mc ms)) cut G R T Z) (f : Nat) (L : ZLV) (st : List Value) (σ : ZHp) (n k w : Nat) : Z (f + 1) 10 L st σ n k w = s_callV E d mc ms 14 MX15_single 0 13 L st σ n k w (zk1 cut G (Z f)) G R T := zrs hZ rfl f L st σ n k w
theorem f_X15_single_13 (hZ : ZRN (ztb (tb_X15_single E d mc ms)) cut G R T Z) (f : Nat) (L : ZLV) (st : List Value) (σ : ZHp) (n k w : Nat) : Z (f + 1) 13 L st σ n k w = s_if_ne 20 16 L st σ n k w (zk1 cut G (Z f)) G R T := zrs hZ rfl f L st σ n k w
theorem f_X15_single_16 (hZ : ZRN (ztb (tb_X15_single E d mc ms)) cut G R T Z) (f : Nat) (L : ZLV) (st : List Value) (σ : ZHp) (n k w : Nat) : Z (f + 1) 16 L st σ n k w = s_const (.int (1)) 17 L st σ n k w (zk1 cut G (Z f)) G R T := zrs hZ rfl f L st σ n k w
theorem f_X15_single_17 (hZ : ZRN (ztb (tb_X15_single E d mc ms)) cut G R T Z) (f : Nat) (L : ZLV) (st : List Value) (σ : ZHp) (n k w : Nat) : Z (f + 1) 17 L st σ n k w = s_goto 21 L st σ n k w (zk1 cut G (Z f)) G R T := zrs hZ rfl f L st σ n k w
theorem f_X15_single_20 (hZ : ZRN (ztb (tb_X15_single E d mc ms)) cut G R T Z) (f : Nat) (L : ZLV) (st : List Value) (σ : ZHp) (n k w : Nat) : Z (f + 1) 20 L st σ n k w = s_const (.int (0)) 21 L st σ n k w (zk1 cut G (Z f)) G R T := zrs hZ rfl f L st σ n k w
theorem f_X15_single_21 (hZ : ZRN (ztb (tb_X15_single E d mc ms)) cut G R T Z) (f : Nat) (L : ZLV) (st : List Value) (σ : ZHp) (n k w : Nat) : Z (f + 1) 21 L st σ n k w = s_zreturn L st σ n k w (zk1 cut G (Z f)) G R T := zrs hZ rfl f L st σ n k w
theorem f_X15_single_22 (hZ : ZRN (ztb (tb_X15_single E d mc ms)) cut G R T Z) (f : Nat) (L : ZLV) (st : List Value) (σ : ZHp) (n k w : Nat) : Z (f + 1) 22 L st σ n k w = s_aload 0 23 L st σ n k w (zk1 cut G (Z f)) G R T := zrs hZ rfl f L st σ n k w
theorem f_X15_single_23 (hZ : ZRN (ztb (tb_X15_single E d mc ms)) cut G R T Z) (f : Nat) (L : ZLV) (st : List Value) (σ : ZHp) (n k w : Nat) : Z (f + 1) 23 L st σ n k w = s_const (.int (42)) 25 L st σ n k w (zk1 cut G (Z f)) G R T := zrs hZ rfl f L st σ n k w
theorem f_X15_single_25 (hZ : ZRN (ztb (tb_X15_single E d mc ms)) cut G R T Z) (f : Nat) (L : ZLV) (st : List Value) (σ : ZHp) (n k w : Nat) : Z (f + 1) 25 L st σ n k w = s_callV E d mc ms 14 MX15_goesBy 1 28 L st σ n k w (zk1 cut G (Z f)) G R T := zrs hZ rfl f L st σ n k w
theorem f_X15_single_28 (hZ : ZRN (ztb (tb_X15_single E d mc ms)) cut G R T Z) (f : Nat) (L : ZLV) (st : List Value) (σ : ZHp) (n k w : Nat) : Z (f + 1) 28 L st σ n k w = s_if_eq 48 31 L st σ n k w (zk1 cut G (Z f)) G R T := zrs hZ rfl f L st σ n k w
theorem f_X15_single_31 (hZ : ZRN (ztb (tb_X15_single E d mc ms)) cut G R T Z) (f : Nat) (L : ZLV) (st : List Value) (σ : ZHp) (n k w : Nat) : Z (f + 1) 31 L st σ n k w = s_aload 0 32 L st σ n k w (zk1 cut G (Z f)) G R T := zrs hZ rfl f L st σ n k w
theorem f_X15_single_32 (hZ : ZRN (ztb (tb_X15_single E d mc ms)) cut G R T Z) (f : Nat) (L : ZLV) (st : List Value) (σ : ZHp) (n k w : Nat) : Z (f + 1) 32 L st σ n k w = s_callV E d mc ms 14 MX15_test 0 35 L st σ n k w (zk1 cut G (Z f)) G R T := zrs hZ rfl f L st σ n k w
theorem f_X15_single_35 (hZ : ZRN (ztb (tb_X15_single E d mc ms)) cut G R T Z) (f : Nat) (L : ZLV) (st : List Value) (σ : ZHp) (n k w : Nat) : Z (f + 1) 35 L st σ n k w = s_istore 1 36 L st σ n k w (zk1 cut G (Z f)) G R T := zrs hZ rfl f L st σ n k w
theorem f_X15_single_36 (hZ : ZRN (ztb (tb_X15_single E d mc ms)) cut G R T Z) (f : Nat) (L : ZLV) (st : List Value) (σ : ZHp) (n k w : Nat) : Z (f + 1) 36 L st σ n k w = s_aload 0 37 L st σ n k w (zk1 cut G (Z f)) G R T := zrs hZ rfl f L st σ n k w
theorem f_X15_single_37 (hZ : ZRN (ztb (tb_X15_single E d mc ms)) cut G R T Z) (f : Nat) (L : ZLV) (st : List Value) (σ : ZHp) (n k w : Nat) : Z (f + 1) 37 L st σ n k w = s_dup 38 L st σ n k w (zk1 cut G (Z f)) G R T := zrs hZ rfl f L st σ n k w
theorem f_X15_single_38 (hZ : ZRN (ztb (tb_X15_single E d mc ms)) cut G R T Z) (f : Nat) (L : ZLV) (st : List Value) (σ : ZHp) (n k w : Nat) : Z (f + 1) 38 L st σ n k w = s_getf 14 9 41 L st σ n k w (zk1 cut G (Z f)) G R T := zrs hZ rfl f L st σ n k w
theorem f_X15_single_41 (hZ : ZRN (ztb (tb_X15_single E d mc ms)) cut G R T Z) (f : Nat) (L : ZLV) (st : List Value) (σ : ZHp) (n k w : Nat) : Z (f + 1) 41 L st σ n k w = s_const (.int (1)) 42 L st σ n k w (zk1 cut G (Z f)) G R T := zrs hZ rfl f L st σ n k w
theorem f_X15_single_42 (hZ : ZRN (ztb (tb_X15_single E d mc ms)) cut G R T Z) (f : Nat) (L : ZLV) (st : List Value) (σ : ZHp) (n k w : Nat) : Z (f + 1) 42 L st σ n k w = s_iadd 43 L st σ n k w (zk1 cut G (Z f)) G R T := zrs hZ rfl f L st σ n k w
theorem f_X15_single_43 (hZ : ZRN (ztb (tb_X15_single E d mc ms)) cut G R T Z) (f : Nat) (L : ZLV) (st : List Value) (σ : ZHp) (n k w : Nat) : Z (f + 1) 43 L st σ n k w = s_putf 14 9 0 46 L st σ n k w (zk1 cut G (Z f)) G R T := zrs hZ rfl f L st σ n k w
theorem f_X15_single_46 (hZ : ZRN (ztb (tb_X15_single E d mc ms)) cut G R T Z) (f : Nat) (L : ZLV) (st : List Value) (σ : ZHp) (n k w : Nat) : Z (f + 1) 46 L st σ n k w = s_iload 1 47 L st σ n k w (zk1 cut G (Z f)) G R T := zrs hZ rfl f L st σ n k w
theorem f_X15_single_47 (hZ : ZRN (ztb (tb_X15_single E d mc ms)) cut G R T Z) (f : Nat) (L : ZLV) (st : List Value) (σ : ZHp) (n k w : Nat) : Z (f + 1) 47 L st σ n k w = s_zreturn L st σ n k w (zk1 cut G (Z f)) G R T := zrs hZ rfl f L st σ n k w
theorem f_X15_single_48 (hZ : ZRN (ztb (tb_X15_single E d mc ms)) cut G R T Z) (f : Nat) (L : ZLV) (st : List Value) (σ : ZHp) (n k w : Nat) : Z (f + 1) 48 L st σ n k w = s_aload 0 49 L st σ n k w (zk1 cut G (Z f)) G R T := zrs hZ rfl f L st σ n k w
theorem f_X15_single_49 (hZ : ZRN (ztb (tb_X15_single E d mc ms)) cut G R T Z) (f : Nat) (L : ZLV) (st : List Value) (σ : ZHp) (n k w : Nat) : Z (f + 1) 49 L st σ n k w = s_callV E d mc ms 14 MX15_sum 0 52 L st σ n k w (zk1 cut G (Z f)) G R T := zrs hZ rfl f L st σ n k w
theorem f_X15_single_52 (hZ : ZRN (ztb (tb_X15_single E d mc ms)) cut G R T Z) (f : Nat) (L : ZLV) (st : List Value) (σ : ZHp) (n k w : Nat) : Z (f + 1) 52 L st σ n k w = s_istore 1 53 L st σ n k w (zk1 cut G (Z f)) G R T := zrs hZ rfl f L st σ n k w
theorem f_X15_single_53 (hZ : ZRN (ztb (tb_X15_single E d mc ms)) cut G R T Z) (f : Nat) (L : ZLV) (st : List Value) (σ : ZHp) (n k w : Nat) : Z (f + 1) 53 L st σ n k w = s_aload 0 54 L st σ n k w (zk1 cut G (Z f)) G R T := zrs hZ rfl f L st σ n k w
theorem f_X15_single_54 (hZ : ZRN (ztb (tb_X15_single E d mc ms)) cut G R T Z) (f : Nat) (L : ZLV) (st : List Value) (σ : ZHp) (n k w : Nat) : Z (f + 1) 54 L st σ n k w = s_getf 14 6 57 L st σ n k w (zk1 cut G (Z f)) G R T := zrs hZ rfl f L st σ n k w
theorem f_X15_single_57 (hZ : ZRN (ztb (tb_X15_single E d mc ms)) cut G R T Z) (f : Nat) (L : ZLV) (st : List Value) (σ : ZHp) (n k w : Nat) : Z (f + 1) 57 L st σ n k w = s_getf 12 0 60 L st σ n k w (zk1 cut G (Z f)) G R T := zrs hZ rfl f L st σ n k w
theorem f_X15_single_60 (hZ : ZRN (ztb (tb_X15_single E d mc ms)) cut G R T Z) (f : Nat) (L : ZLV) (st : List Value) (σ : ZHp) (n k w : Nat) : Z (f + 1) 60 L st σ n k w = s_aload 0 61 L st σ n k w (zk1 cut G (Z f)) G R T := zrs hZ rfl f L st σ n k w
theorem f_X15_single_61 (hZ : ZRN (ztb (tb_X15_single E d mc ms)) cut G R T Z) (f : Nat) (L : ZLV) (st : List Value) (σ : ZHp) (n k w : Nat) : Z (f + 1) 61 L st σ n k w = s_getf 14 9 64 L st σ n k w (zk1 cut G (Z f)) G R T := zrs hZ rfl f L st σ n k w
theorem f_X15_single_64 (hZ : ZRN (ztb (tb_X15_single E d mc ms)) cut G R T Z) (f : Nat) (L : ZLV) (st : List Value) (σ : ZHp) (n k w : Nat) : Z (f + 1) 64 L st σ n k w = s_iaload E 65 L st σ n k w (zk1 cut G (Z f)) G R T := zrs hZ rfl f L st σ n k w
theorem f_X15_single_65 (hZ : ZRN (ztb (tb_X15_single E d mc ms)) cut G R T Z) (f : Nat) (L : ZLV) (st : List Value) (σ : ZHp) (n k w : Nat) : Z (f + 1) 65 L st σ n k w = s_istore 2 66 L st σ n k w (zk1 cut G (Z f)) G R T := zrs hZ rfl f L st σ n k w
theorem f_X15_single_66 (hZ : ZRN (ztb (tb_X15_single E d mc ms)) cut G R T Z) (f : Nat) (L : ZLV) (st : List Value) (σ : ZHp) (n k w : Nat) : Z (f + 1) 66 L st σ n k w = s_aload 0 67 L st σ n k w (zk1 cut G (Z f)) G R T := zrs hZ rfl f L st σ n k w
theorem f_X15_single_67 (hZ : ZRN (ztb (tb_X15_single E d mc ms)) cut G R T Z) (f : Nat) (L : ZLV) (st : List Value) (σ : ZHp) (n k w : Nat) : Z (f + 1) 67 L st σ n k w = s_dup 68 L st σ n k w (zk1 cut G (Z f)) G R T := zrs hZ rfl f L st σ n k w
theorem f_X15_single_68 (hZ : ZRN (ztb (tb_X15_single E d mc ms)) cut G R T Z) (f : Nat) (L : ZLV) (st : List Value) (σ : ZHp) (n k w : Nat) : Z (f + 1) 68 L st σ n k w = s_getf 14 9 71 L st σ n k w (zk1 cut G (Z f)) G R T := zrs hZ rfl f L st σ n k w
theorem f_X15_single_71 (hZ : ZRN (ztb (tb_X15_single E d mc ms)) cut G R T Z) (f : Nat) (L : ZLV) (st : List Value) (σ : ZHp) (n k w : Nat) : Z (f + 1) 71 L st σ n k w = s_const (.int (1)) 72 L st σ n k w (zk1 cut G (Z f)) G R T := zrs hZ rfl f L st σ n k w
theorem f_X15_single_72 (hZ : ZRN (ztb (tb_X15_single E d mc ms)) cut G R T Z) (f : Nat) (L : ZLV) (st : List Value) (σ : ZHp) (n k w : Nat) : Z (f + 1) 72 L st σ n k w = s_iadd 73 L st σ n k w (zk1 cut G (Z f)) G R T := zrs hZ rfl f L st σ n k w
theorem f_X15_single_73 (hZ : ZRN (ztb (tb_X15_single E d mc ms)) cut G R T Z) (f : Nat) (L : ZLV) (st : List Value) (σ : ZHp) (n k w : Nat) : Z (f + 1) 73 L st σ n k w = s_putf 14 9 0 76 L st σ n k w (zk1 cut G (Z f)) G R T := zrs hZ rfl f L st σ n k w
theorem f_X15_single_76 (hZ : ZRN (ztb (tb_X15_single E d mc ms)) cut G R T Z) (f : Nat) (L : ZLV) (st : List Value) (σ : ZHp) (n k w : Nat) : Z (f + 1) 76 L st σ n k w = s_aload 0 77 L st σ n k w (zk1 cut G (Z f)) G R T := zrs hZ rfl f L st σ n k w
theorem f_X15_single_77 (hZ : ZRN (ztb (tb_X15_single E d mc ms)) cut G R T Z) (f : Nat) (L : ZLV) (st : List Value) (σ : ZHp) (n k w : Nat) : Z (f + 1) 77 L st σ n k w = s_callV E d mc ms 14 MX15_sum 0 80 L st σ n k w (zk1 cut G (Z f)) G R T := zrs hZ rfl f L st σ n k w
theorem f_X15_single_80 (hZ : ZRN (ztb (tb_X15_single E d mc ms)) cut G R T Z) (f : Nat) (L : ZLV) (st : List Value) (σ : ZHp) (n k w : Nat) : Z (f + 1) 80 L st σ n k w = s_istore 3 81 L st σ n k w (zk1 cut G (Z f)) G R T := zrs hZ rfl f L st σ n k w
theorem f_X15_single_81 (hZ : ZRN (ztb (tb_X15_single E d mc ms)) cut G R T Z) (f : Nat) (L : ZLV) (st : List Value) (σ : ZHp) (n k w : Nat) : Z (f + 1) 81 L st σ n k w = s_iload 1 82 L st σ n k w (zk1 cut G (Z f)) G R T := zrs hZ rfl f L st σ n k w
theorem f_X15_single_82 (hZ : ZRN (ztb (tb_X15_single E d mc ms)) cut G R T Z) (f : Nat) (L : ZLV) (st : List Value) (σ : ZHp) (n k w : Nat) : Z (f + 1) 82 L st σ n k w = s_iload 3 83 L st σ n k w (zk1 cut G (Z f)) G R T := zrs hZ rfl f L st σ n k w
theorem f_X15_single_83 (hZ : ZRN (ztb (tb_X15_single E d mc ms)) cut G R T Z) (f : Nat) (L : ZLV) (st : List Value) (σ : ZHp) (n k w : Nat) : Z (f + 1) 83 L st σ n k w = s_icmp_ne 104 86 L st σ n k w (zk1 cut G (Z f)) G R T := zrs hZ rfl f L st σ n k w
theorem f_X15_single_86 (hZ : ZRN (ztb (tb_X15_single E d mc ms)) cut G R T Z) (f : Nat) (L : ZLV) (st : List Value) (σ : ZHp) (n k w : Nat) : Z (f + 1) 86 L st σ n k w = s_iload 2 87 L st σ n k w (zk1 cut G (Z f)) G R T := zrs hZ rfl f L st σ n k w
theorem f_X15_single_87 (hZ : ZRN (ztb (tb_X15_single E d mc ms)) cut G R T Z) (f : Nat) (L : ZLV) (st : List Value) (σ : ZHp) (n k w : Nat) : Z (f + 1) 87 L st σ n k w = s_const (.int (52)) 89 L st σ n k w (zk1 cut G (Z f)) G R T := zrs hZ rfl f L st σ n k w
theorem f_X15_single_89 (hZ : ZRN (ztb (tb_X15_single E d mc ms)) cut G R T Z) (f : Nat) (L : ZLV) (st : List Value) (σ : ZHp) (n k w : Nat) : Z (f + 1) 89 L st σ n k w = s_icmp_eq 98 92 L st σ n k w (zk1 cut G (Z f)) G R T := zrs hZ rfl f L st σ n k w
theorem f_X15_single_92 (hZ : ZRN (ztb (tb_X15_single E d mc ms)) cut G R T Z) (f : Nat) (L : ZLV) (st : List Value) (σ : ZHp) (n k w : Nat) : Z (f + 1) 92 L st σ n k w = s_iload 2 93 L st σ n k w (zk1 cut G (Z f)) G R T := zrs hZ rfl f L st σ n k w
theorem f_X15_single_93 (hZ : ZRN (ztb (tb_X15_single E d mc ms)) cut G R T Z) (f : Nat) (L : ZLV) (st : List Value) (σ : ZHp) (n k w : Nat) : Z (f + 1) 93 L st σ n k w = s_const (.int (53)) 95 L st σ n k w (zk1 cut G (Z f)) G R T := zrs hZ rfl f L st σ n k w
theorem f_X15_single_95 (hZ : ZRN (ztb (tb_X15_single E d mc ms)) cut G R T Z) (f : Nat) (L : ZLV) (st : List Value) (σ : ZHp) (n k w : Nat) : Z (f + 1) 95 L st σ n k w = s_icmp_lt 102 98 L st σ n k w (zk1 cut G (Z f)) G R T := zrs hZ rfl f L st σ n k w
theorem f_X15_single_98 (hZ : ZRN (ztb (tb_X15_single E d mc ms)) cut G R T Z) (f : Nat) (L : ZLV) (st : List Value) (σ : ZHp) (n k w : Nat) : Z (f + 1) 98 L st σ n k w = s_const (.int (1)) 99 L st σ n k w (zk1 cut G (Z f)) G R T := zrs hZ rfl f L st σ n k w
theorem f_X15_single_99 (hZ : ZRN (ztb (tb_X15_single E d mc ms)) cut G R T Z) (f : Nat) (L : ZLV) (st : List Value) (σ : ZHp) (n k w : Nat) : Z (f + 1) 99 L st σ n k w = s_goto 103 L st σ n k w (zk1 cut G (Z f)) G R T := zrs hZ rfl f L st σ n k w
theorem f_X15_single_102 (hZ : ZRN (ztb (tb_X15_single E d mc ms)) cut G R T Z) (f : Nat) (L : ZLV) (st : List Value) (σ : ZHp) (n k w : Nat) : Z (f + 1) 102 L st σ n k w = s_const (.int (0)) 103 L st σ n k w (zk1 cut G (Z f)) G R T := zrs hZ rfl f L st σ n k w
theorem f_X15_single_103 (hZ : ZRN (ztb (tb_X15_single E d mc ms)) cut G R T Z) (f : Nat) (L : ZLV) (st : List Value) (σ : ZHp) (n k w : Nat) : Z (f + 1) 103 L st σ n k w = s_zreturn L st σ n k w (zk1 cut G (Z f)) G R T := zrs hZ rfl f L st σ n k w
theorem f_X15_single_104 (hZ : ZRN (ztb (tb_X15_single E d mc ms)) cut G R T Z) (f : Nat) (L : ZLV) (st : List Value) (σ : ZHp) (n k w : Nat) : Z (f + 1) 104 L st σ n k w = s_iload 1 105 L st σ n k w (zk1 cut G (Z f)) G R T := zrs hZ rfl f L st σ n k w
theorem f_X15_single_105 (hZ : ZRN (ztb (tb_X15_single E d mc ms)) cut G R T Z) (f : Nat) (L : ZLV) (st : List Value) (σ : ZHp) (n k w : Nat) : Z (f + 1) 105 L st σ n k w = s_iload 3 106 L st σ n k w (zk1 cut G (Z f)) G R T := zrs hZ rfl f L st σ n k w
theorem f_X15_single_106 (hZ : ZRN (ztb (tb_X15_single E d mc ms)) cut G R T Z) (f : Nat) (L : ZLV) (st : List Value) (σ : ZHp) (n k w : Nat) : Z (f + 1) 106 L st σ n k w = s_icmp_ge 129 109 L st σ n k w (zk1 cut G (Z f)) G R T := zrs hZ rfl f L st σ n k w
theorem f_X15_single_109 (hZ : ZRN (ztb (tb_X15_single E d mc ms)) cut G R T Z) (f : Nat) (L : ZLV) (st : List Value) (σ : ZHp) (n k w : Nat) : Z (f + 1) 109 L st σ n k w = s_iload 2 110 L st σ n k w (zk1 cut G (Z f)) G R T := zrs hZ rfl f L st σ n k w
theorem f_X15_single_110 (hZ : ZRN (ztb (tb_X15_single E d mc ms)) cut G R T Z) (f : Nat) (L : ZLV) (st : List Value) (σ : ZHp) (n k w : Nat) : Z (f + 1) 110 L st σ n k w = s_const (.int (50)) 112 L st σ n k w (zk1 cut G (Z f)) G R T := zrs hZ rfl f L st σ n k w
theorem f_X15_single_112 (hZ : ZRN (ztb (tb_X15_single E d mc ms)) cut G R T Z) (f : Nat) (L : ZLV) (st : List Value) (σ : ZHp) (n k w : Nat) : Z (f + 1) 112 L st σ n k w = s_icmp_eq 121 115 L st σ n k w (zk1 cut G (Z f)) G R T := zrs hZ rfl f L st σ n k w
theorem f_X15_single_115 (hZ : ZRN (ztb (tb_X15_single E d mc ms)) cut G R T Z) (f : Nat) (L : ZLV) (st : List Value) (σ : ZHp) (n k w : Nat) : Z (f + 1) 115 L st σ n k w = s_iload 2 116 L st σ n k w (zk1 cut G (Z f)) G R T := zrs hZ rfl f L st σ n k w
theorem f_X15_single_116 (hZ : ZRN (ztb (tb_X15_single E d mc ms)) cut G R T Z) (f : Nat) (L : ZLV) (st : List Value) (σ : ZHp) (n k w : Nat) : Z (f + 1) 116 L st σ n k w = s_const (.int (53)) 118 L st σ n k w (zk1 cut G (Z f)) G R T := zrs hZ rfl f L st σ n k w
theorem f_X15_single_118 (hZ : ZRN (ztb (tb_X15_single E d mc ms)) cut G R T Z) (f : Nat) (L : ZLV) (st : List Value) (σ : ZHp) (n k w : Nat) : Z (f + 1) 118 L st σ n k w = s_icmp_ne 125 121 L st σ n k w (zk1 cut G (Z f)) G R T := zrs hZ rfl f L st σ n k w
theorem f_X15_single_121 (hZ : ZRN (ztb (tb_X15_single E d mc ms)) cut G R T Z) (f : Nat) (L : ZLV) (st : List Value) (σ : ZHp) (n k w : Nat) : Z (f + 1) 121 L st σ n k w = s_const (.int (1)) 122 L st σ n k w (zk1 cut G (Z f)) G R T := zrs hZ rfl f L st σ n k w
theorem f_X15_single_122 (hZ : ZRN (ztb (tb_X15_single E d mc ms)) cut G R T Z) (f : Nat) (L : ZLV) (st : List Value) (σ : ZHp) (n k w : Nat) : Z (f + 1) 122 L st σ n k w = s_goto 146 L st σ n k w (zk1 cut G (Z f)) G R T := zrs hZ rfl f L st σ n k w
theorem f_X15_single_125 (hZ : ZRN (ztb (tb_X15_single E d mc ms)) cut G R T Z) (f : Nat) (L : ZLV) (st : List Value) (σ : ZHp) (n k w : Nat) : Z (f + 1) 125 L st σ n k w = s_const (.int (0)) 126 L st σ n k w (zk1 cut G (Z f)) G R T := zrs hZ rfl f L st σ n k w
theorem f_X15_single_126 (hZ : ZRN (ztb (tb_X15_single E d mc ms)) cut G R T Z) (f : Nat) (L : ZLV) (st : List Value) (σ : ZHp) (n k w : Nat) : Z (f + 1) 126 L st σ n k w = s_goto 146 L st σ n k w (zk1 cut G (Z f)) G R T := zrs hZ rfl f L st σ n k w
theorem f_X15_single_129 (hZ : ZRN (ztb (tb_X15_single E d mc ms)) cut G R T Z) (f : Nat) (L : ZLV) (st : List Value) (σ : ZHp) (n k w : Nat) : Z (f + 1) 129 L st σ n k w = s_iload 2 130 L st σ n k w (zk1 cut G (Z f)) G R T := zrs hZ rfl f L st σ n k w
theorem f_X15_single_130 (hZ : ZRN (ztb (tb_X15_single E d mc ms)) cut G R T Z) (f : Nat) (L : ZLV) (st : List Value) (σ : ZHp) (n k w : Nat) : Z (f + 1) 130 L st σ n k w = s_const (.int (51)) 132 L st σ n k w (zk1 cut G (Z f)) G R T := zrs hZ rfl f L st σ n k w
theorem f_X15_single_132 (hZ : ZRN (ztb (tb_X15_single E d mc ms)) cut G R T Z) (f : Nat) (L : ZLV) (st : List Value) (σ : ZHp) (n k w : Nat) : Z (f + 1) 132 L st σ n k w = s_icmp_eq 141 135 L st σ n k w (zk1 cut G (Z f)) G R T := zrs hZ rfl f L st σ n k w
theorem f_X15_single_135 (hZ : ZRN (ztb (tb_X15_single E d mc ms)) cut G R T Z) (f : Nat) (L : ZLV) (st : List Value) (σ : ZHp) (n k w : Nat) : Z (f + 1) 135 L st σ n k w = s_iload 2 136 L st σ n k w (zk1 cut G (Z f)) G R T := zrs hZ rfl f L st σ n k w
theorem f_X15_single_136 (hZ : ZRN (ztb (tb_X15_single E d mc ms)) cut G R T Z) (f : Nat) (L : ZLV) (st : List Value) (σ : ZHp) (n k w : Nat) : Z (f + 1) 136 L st σ n k w = s_const (.int (54)) 138 L st σ n k w (zk1 cut G (Z f)) G R T := zrs hZ rfl f L st σ n k w
theorem f_X15_single_138 (hZ : ZRN (ztb (tb_X15_single E d mc ms)) cut G R T Z) (f : Nat) (L : ZLV) (st : List Value) (σ : ZHp) (n k w : Nat) : Z (f + 1) 138 L st σ n k w = s_icmp_ne 145 141 L st σ n k w (zk1 cut G (Z f)) G R T := zrs hZ rfl f L st σ n k w
theorem f_X15_single_141 (hZ : ZRN (ztb (tb_X15_single E d mc ms)) cut G R T Z) (f : Nat) (L : ZLV) (st : List Value) (σ : ZHp) (n k w : Nat) : Z (f + 1) 141 L st σ n k w = s_const (.int (1)) 142 L st σ n k w (zk1 cut G (Z f)) G R T := zrs hZ rfl f L st σ n k w
theorem f_X15_single_142 (hZ : ZRN (ztb (tb_X15_single E d mc ms)) cut G R T Z) (f : Nat) (L : ZLV) (st : List Value) (σ : ZHp) (n k w : Nat) : Z (f + 1) 142 L st σ n k w = s_goto 146 L st σ n k w (zk1 cut G (Z f)) G R T := zrs hZ rfl f L st σ n k w
theorem f_X15_single_145 (hZ : ZRN (ztb (tb_X15_single E d mc ms)) cut G R T Z) (f : Nat) (L : ZLV) (st : List Value) (σ : ZHp) (n k w : Nat) : Z (f + 1) 145 L st σ n k w = s_const (.int (0)) 146 L st σ n k w (zk1 cut G (Z f)) G R T := zrs hZ rfl f L st σ n k w
theorem f_X15_single_146 (hZ : ZRN (ztb (tb_X15_single E d mc ms)) cut G R T Z) (f : Nat) (L : ZLV) (st : List Value) (σ : ZHp) (n k w : Nat) : Z (f + 1) 146 L st σ n k w = s_zreturn L st σ n k w (zk1 cut G (Z f)) G R T := zrs hZ rfl f L st σ n k w
theorem f_X15_sum_0 (hZ : ZRN (ztb (tb_X15_sum E d mc ms)) cut G R T Z) (f : Nat) (L : ZLV) (st : List Value) (σ : ZHp) (n k w : Nat) : Z (f + 1) 0 L st σ n k w = s_aload 0 1 L st σ n k w (zk1 cut G (Z f)) G R T := zrs hZ rfl f L st σ n k w
theorem f_X15_sum_1 (hZ : ZRN (ztb (tb_X15_sum E d mc ms)) cut G R T Z) (f : Nat) (L : ZLV) (st : List Value) (σ : ZHp) (n k w : Nat) : Z (f + 1) 1 L st σ n k w = s_callV E d mc ms 14 MX15_product 0 4 L st σ n k w (zk1 cut G (Z f)) G R T := zrs hZ rfl f L st σ n k w
theorem f_X15_sum_4 (hZ : ZRN (ztb (tb_X15_sum E d mc ms)) cut G R T Z) (f : Nat) (L : ZLV) (st : List Value) (σ : ZHp) (n k w : Nat) : Z (f + 1) 4 L st σ n k w = s_istore 1 5 L st σ n k w (zk1 cut G (Z f)) G R T := zrs hZ rfl f L st σ n k w
theorem f_X15_sum_5 (hZ : ZRN (ztb (tb_X15_sum E d mc ms)) cut G R T Z) (f : Nat) (L : ZLV) (st : List Value) (σ : ZHp) (n k w : Nat) : Z (f + 1) 5 L st σ n k w = s_aload 0 6 L st σ n k w (zk1 cut G (Z f)) G R T := zrs hZ rfl f L st σ n k w
theorem f_X15_sum_6 (hZ : ZRN (ztb (tb_X15_sum E d mc ms)) cut G R T Z) (f : Nat) (L : ZLV) (st : List Value) (σ : ZHp) (n k w : Nat) : Z (f + 1) 6 L st σ n k w = s_getf 14 6 9 L st σ n k w (zk1 cut G (Z f)) G R T := zrs hZ rfl f L st σ n k w
theorem f_X15_sum_9 (hZ : ZRN (ztb (tb_X15_sum E d mc ms)) cut G R T Z) (f : Nat) (L : ZLV) (st : List Value) (σ : ZHp) (n k w : Nat) : Z (f + 1) 9 L st σ n k w = s_getf 12 0 12 L st σ n k w (zk1 cut G (Z f)) G R T := zrs hZ rfl f L st σ n k w
theorem f_X15_sum_12 (hZ : ZRN (ztb (tb_X15_sum E d mc ms)) cut G R T Z) (f : Nat) (L : ZLV) (st : List Value) (σ : ZHp) (n k w : Nat) : Z (f + 1) 12 L st σ n k w = s_aload 0 13 L st σ n k w (zk1 cut G (Z f)) G R T := zrs hZ rfl f L st σ n k w
theorem f_X15_sum_13 (hZ : ZRN (ztb (tb_X15_sum E d mc ms)) cut G R T Z) (f : Nat) (L : ZLV) (st : List Value) (σ : ZHp) (n k w : Nat) : Z (f + 1) 13 L st σ n k w = s_getf 14 9 16 L st σ n k w (zk1 cut G (Z f)) G R T := zrs hZ rfl f L st σ n k w
theorem f_X15_sum_16 (hZ : ZRN (ztb (tb_X15_sum E d mc ms)) cut G R T Z) (f : Nat) (L : ZLV) (st : List Value) (σ : ZHp) (n k w : Nat) : Z (f + 1) 16 L st σ n k w = s_iaload E 17 L st σ n k w (zk1 cut G (Z f)) G R T := zrs hZ rfl f L st σ n k w
theorem f_X15_sum_17 (hZ : ZRN (ztb (tb_X15_sum E d mc ms)) cut G R T Z) (f : Nat) (L : ZLV) (st : List Value) (σ : ZHp) (n k w : Nat) : Z (f + 1) 17 L st σ n k w = s_const (.int (46)) 19 L st σ n k w (zk1 cut G (Z f)) G R T := zrs hZ rfl f L st σ n k w
theorem f_X15_sum_19 (hZ : ZRN (ztb (tb_X15_sum E d mc ms)) cut G R T Z) (f : Nat) (L : ZLV) (st : List Value) (σ : ZHp) (n k w : Nat) : Z (f + 1) 19 L st σ n k w = s_const (.int (47)) 21 L st σ n k w (zk1 cut G (Z f)) G R T := zrs hZ rfl f L st σ n k w
theorem f_X15_sum_21 (hZ : ZRN (ztb (tb_X15_sum E d mc ms)) cut G R T Z) (f : Nat) (L : ZLV) (st : List Value) (σ : ZHp) (n k w : Nat) : Z (f + 1) 21 L st σ n k w = s_callS E d mc ms MX15_isIn 3 24 L st σ n k w (zk1 cut G (Z f)) G R T := zrs hZ rfl f L st σ n k w
theorem f_X15_sum_24 (hZ : ZRN (ztb (tb_X15_sum E d mc ms)) cut G R T Z) (f : Nat) (L : ZLV) (st : List Value) (σ : ZHp) (n k w : Nat) : Z (f + 1) 24 L st σ n k w = s_if_eq 74 27 L st σ n k w (zk1 cut G (Z f)) G R T := zrs hZ rfl f L st σ n k w
theorem f_X15_sum_27 (hZ : ZRN (ztb (tb_X15_sum E d mc ms)) cut G R T Z) (f : Nat) (L : ZLV) (st : List Value) (σ : ZHp) (n k w : Nat) : Z (f + 1) 27 L st σ n k w = s_aload 0 28 L st σ n k w (zk1 cut G (Z f)) G R T := zrs hZ rfl f L st σ n k w
theorem f_X15_sum_28 (hZ : ZRN (ztb (tb_X15_sum E d mc ms)) cut G R T Z) (f : Nat) (L : ZLV) (st : List Value) (σ : ZHp) (n k w : Nat) : Z (f + 1) 28 L st σ n k w = s_getf 14 6 31 L st σ n k w (zk1 cut G (Z f)) G R T := zrs hZ rfl f L st σ n k w
theorem f_X15_sum_31 (hZ : ZRN (ztb (tb_X15_sum E d mc ms)) cut G R T Z) (f : Nat) (L : ZLV) (st : List Value) (σ : ZHp) (n k w : Nat) : Z (f + 1) 31 L st σ n k w = s_getf 12 0 34 L st σ n k w (zk1 cut G (Z f)) G R T := zrs hZ rfl f L st σ n k w
theorem f_X15_sum_34 (hZ : ZRN (ztb (tb_X15_sum E d mc ms)) cut G R T Z) (f : Nat) (L : ZLV) (st : List Value) (σ : ZHp) (n k w : Nat) : Z (f + 1) 34 L st σ n k w = s_aload 0 35 L st σ n k w (zk1 cut G (Z f)) G R T := zrs hZ rfl f L st σ n k w
theorem f_X15_sum_35 (hZ : ZRN (ztb (tb_X15_sum E d mc ms)) cut G R T Z) (f : Nat) (L : ZLV) (st : List Value) (σ : ZHp) (n k w : Nat) : Z (f + 1) 35 L st σ n k w = s_getf 14 9 38 L st σ n k w (zk1 cut G (Z f)) G R T := zrs hZ rfl f L st σ n k w
theorem f_X15_sum_38 (hZ : ZRN (ztb (tb_X15_sum E d mc ms)) cut G R T Z) (f : Nat) (L : ZLV) (st : List Value) (σ : ZHp) (n k w : Nat) : Z (f + 1) 38 L st σ n k w = s_iaload E 39 L st σ n k w (zk1 cut G (Z f)) G R T := zrs hZ rfl f L st σ n k w
theorem f_X15_sum_39 (hZ : ZRN (ztb (tb_X15_sum E d mc ms)) cut G R T Z) (f : Nat) (L : ZLV) (st : List Value) (σ : ZHp) (n k w : Nat) : Z (f + 1) 39 L st σ n k w = s_istore 2 40 L st σ n k w (zk1 cut G (Z f)) G R T := zrs hZ rfl f L st σ n k w
theorem f_X15_sum_40 (hZ : ZRN (ztb (tb_X15_sum E d mc ms)) cut G R T Z) (f : Nat) (L : ZLV) (st : List Value) (σ : ZHp) (n k w : Nat) : Z (f + 1) 40 L st σ n k w = s_aload 0 41 L st σ n k w (zk1 cut G (Z f)) G R T := zrs hZ rfl f L st σ n k w
theorem f_X15_sum_41 (hZ : ZRN (ztb (tb_X15_sum E d mc ms)) cut G R T Z) (f : Nat) (L : ZLV) (st : List Value) (σ : ZHp) (n k w : Nat) : Z (f + 1) 41 L st σ n k w = s_dup 42 L st σ n k w (zk1 cut G (Z f)) G R T := zrs hZ rfl f L st σ n k w
theorem f_X15_sum_42 (hZ : ZRN (ztb (tb_X15_sum E d mc ms)) cut G R T Z) (f : Nat) (L : ZLV) (st : List Value) (σ : ZHp) (n k w : Nat) : Z (f + 1) 42 L st σ n k w = s_getf 14 9 45 L st σ n k w (zk1 cut G (Z f)) G R T := zrs hZ rfl f L st σ n k w
theorem f_X15_sum_45 (hZ : ZRN (ztb (tb_X15_sum E d mc ms)) cut G R T Z) (f : Nat) (L : ZLV) (st : List Value) (σ : ZHp) (n k w : Nat) : Z (f + 1) 45 L st σ n k w = s_const (.int (1)) 46 L st σ n k w (zk1 cut G (Z f)) G R T := zrs hZ rfl f L st σ n k w
theorem f_X15_sum_46 (hZ : ZRN (ztb (tb_X15_sum E d mc ms)) cut G R T Z) (f : Nat) (L : ZLV) (st : List Value) (σ : ZHp) (n k w : Nat) : Z (f + 1) 46 L st σ n k w = s_iadd 47 L st σ n k w (zk1 cut G (Z f)) G R T := zrs hZ rfl f L st σ n k w
theorem f_X15_sum_47 (hZ : ZRN (ztb (tb_X15_sum E d mc ms)) cut G R T Z) (f : Nat) (L : ZLV) (st : List Value) (σ : ZHp) (n k w : Nat) : Z (f + 1) 47 L st σ n k w = s_putf 14 9 0 50 L st σ n k w (zk1 cut G (Z f)) G R T := zrs hZ rfl f L st σ n k w
theorem f_X15_sum_50 (hZ : ZRN (ztb (tb_X15_sum E d mc ms)) cut G R T Z) (f : Nat) (L : ZLV) (st : List Value) (σ : ZHp) (n k w : Nat) : Z (f + 1) 50 L st σ n k w = s_aload 0 51 L st σ n k w (zk1 cut G (Z f)) G R T := zrs hZ rfl f L st σ n k w
theorem f_X15_sum_51 (hZ : ZRN (ztb (tb_X15_sum E d mc ms)) cut G R T Z) (f : Nat) (L : ZLV) (st : List Value) (σ : ZHp) (n k w : Nat) : Z (f + 1) 51 L st σ n k w = s_callV E d mc ms 14 MX15_product 0 54 L st σ n k w (zk1 cut G (Z f)) G R T := zrs hZ rfl f L st σ n k w
theorem f_X15_sum_54 (hZ : ZRN (ztb (tb_X15_sum E d mc ms)) cut G R T Z) (f : Nat) (L : ZLV) (st : List Value) (σ : ZHp) (n k w : Nat) : Z (f + 1) 54 L st σ n k w = s_istore 3 55 L st σ n k w (zk1 cut G (Z f)) G R T := zrs hZ rfl f L st σ n k w
theorem f_X15_sum_55 (hZ : ZRN (ztb (tb_X15_sum E d mc ms)) cut G R T Z) (f : Nat) (L : ZLV) (st : List Value) (σ : ZHp) (n k w : Nat) : Z (f + 1) 55 L st σ n k w = s_iload 2 56 L st σ n k w (zk1 cut G (Z f)) G R T := zrs hZ rfl f L st σ n k w
theorem f_X15_sum_56 (hZ : ZRN (ztb (tb_X15_sum E d mc ms)) cut G R T Z) (f : Nat) (L : ZLV) (st : List Value) (σ : ZHp) (n k w : Nat) : Z (f + 1) 56 L st σ n k w = s_const (.int (46)) 58 L st σ n k w (zk1 cut G (Z f)) G R T := zrs hZ rfl f L st σ n k w
theorem f_X15_sum_58 (hZ : ZRN (ztb (tb_X15_sum E d mc ms)) cut G R T Z) (f : Nat) (L : ZLV) (st : List Value) (σ : ZHp) (n k w : Nat) : Z (f + 1) 58 L st σ n k w = s_icmp_ne 67 61 L st σ n k w (zk1 cut G (Z f)) G R T := zrs hZ rfl f L st σ n k w
theorem f_X15_sum_61 (hZ : ZRN (ztb (tb_X15_sum E d mc ms)) cut G R T Z) (f : Nat) (L : ZLV) (st : List Value) (σ : ZHp) (n k w : Nat) : Z (f + 1) 61 L st σ n k w = s_iload 1 62 L st σ n k w (zk1 cut G (Z f)) G R T := zrs hZ rfl f L st σ n k w
theorem f_X15_sum_62 (hZ : ZRN (ztb (tb_X15_sum E d mc ms)) cut G R T Z) (f : Nat) (L : ZLV) (st : List Value) (σ : ZHp) (n k w : Nat) : Z (f + 1) 62 L st σ n k w = s_iload 3 63 L st σ n k w (zk1 cut G (Z f)) G R T := zrs hZ rfl f L st σ n k w
theorem f_X15_sum_63 (hZ : ZRN (ztb (tb_X15_sum E d mc ms)) cut G R T Z) (f : Nat) (L : ZLV) (st : List Value) (σ : ZHp) (n k w : Nat) : Z (f + 1) 63 L st σ n k w = s_iadd 64 L st σ n k w (zk1 cut G (Z f)) G R T := zrs hZ rfl f L st σ n k w
theorem f_X15_sum_64 (hZ : ZRN (ztb (tb_X15_sum E d mc ms)) cut G R T Z) (f : Nat) (L : ZLV) (st : List Value) (σ : ZHp) (n k w : Nat) : Z (f + 1) 64 L st σ n k w = s_goto 70 L st σ n k w (zk1 cut G (Z f)) G R T := zrs hZ rfl f L st σ n k w
theorem f_X15_sum_67 (hZ : ZRN (ztb (tb_X15_sum E d mc ms)) cut G R T Z) (f : Nat) (L : ZLV) (st : List Value) (σ : ZHp) (n k w : Nat) : Z (f + 1) 67 L st σ n k w = s_iload 1 68 L st σ n k w (zk1 cut G (Z f)) G R T := zrs hZ rfl f L st σ n k w
theorem f_X15_sum_68 (hZ : ZRN (ztb (tb_X15_sum E d mc ms)) cut G R T Z) (f : Nat) (L : ZLV) (st : List Value) (σ : ZHp) (n k w : Nat) : Z (f + 1) 68 L st σ n k w = s_iload 3 69 L st σ n k w (zk1 cut G (Z f)) G R T := zrs hZ rfl f L st σ n k w
theorem f_X15_sum_69 (hZ : ZRN (ztb (tb_X15_sum E d mc ms)) cut G R T Z) (f : Nat) (L : ZLV) (st : List Value) (σ : ZHp) (n k w : Nat) : Z (f + 1) 69 L st σ n k w = s_isub 70 L st σ n k w (zk1 cut G (Z f)) G R T := zrs hZ rfl f L st σ n k w
theorem f_X15_sum_70 (hZ : ZRN (ztb (tb_X15_sum E d mc ms)) cut G R T Z) (f : Nat) (L : ZLV) (st : List Value) (σ : ZHp) (n k w : Nat) : Z (f + 1) 70 L st σ n k w = s_istore 1 71 L st σ n k w (zk1 cut G (Z f)) G R T := zrs hZ rfl f L st σ n k w
theorem f_X15_sum_71 (hZ : ZRN (ztb (tb_X15_sum E d mc ms)) cut G R T Z) (f : Nat) (L : ZLV) (st : List Value) (σ : ZHp) (n k w : Nat) : Z (f + 1) 71 L st σ n k w = s_goto 5 L st σ n k w (zk1 cut G (Z f)) G R T := zrs hZ rfl f L st σ n k w
theorem f_X15_sum_74 (hZ : ZRN (ztb (tb_X15_sum E d mc ms)) cut G R T Z) (f : Nat) (L : ZLV) (st : List Value) (σ : ZHp) (n k w : Nat) : Z (f + 1) 74 L st σ n k w = s_iload 1 75 L st σ n k w (zk1 cut G (Z f)) G R T := zrs hZ rfl f L st σ n k w
theorem f_X15_sum_75 (hZ : ZRN (ztb (tb_X15_sum E d mc ms)) cut G R T Z) (f : Nat) (L : ZLV) (st : List Value) (σ : ZHp) (n k w : Nat) : Z (f + 1) 75 L st σ n k w = s_ireturn L st σ n k w (zk1 cut G (Z f)) G R T := zrs hZ rfl f L st σ n k w
theorem f_X15_product_0 (hZ : ZRN (ztb (tb_X15_product E d mc ms)) cut G R T Z) (f : Nat) (L : ZLV) (st : List Value) (σ : ZHp) (n k w : Nat) : Z (f + 1) 0 L st σ n k w = s_aload 0 1 L st σ n k w (zk1 cut G (Z f)) G R T := zrs hZ rfl f L st σ n k w
theorem f_X15_product_1 (hZ : ZRN (ztb (tb_X15_product E d mc ms)) cut G R T Z) (f : Nat) (L : ZLV) (st : List Value) (σ : ZHp) (n k w : Nat) : Z (f + 1) 1 L st σ n k w = s_callV E d mc ms 14 MX15_value 0 4 L st σ n k w (zk1 cut G (Z f)) G R T := zrs hZ rfl f L st σ n k w
theorem f_X15_product_4 (hZ : ZRN (ztb (tb_X15_product E d mc ms)) cut G R T Z) (f : Nat) (L : ZLV) (st : List Value) (σ : ZHp) (n k w : Nat) : Z (f + 1) 4 L st σ n k w = s_istore 1 5 L st σ n k w (zk1 cut G (Z f)) G R T := zrs hZ rfl f L st σ n k w
theorem f_X15_product_5 (hZ : ZRN (ztb (tb_X15_product E d mc ms)) cut G R T Z) (f : Nat) (L : ZLV) (st : List Value) (σ : ZHp) (n k w : Nat) : Z (f + 1) 5 L st σ n k w = s_aload 0 6 L st σ n k w (zk1 cut G (Z f)) G R T := zrs hZ rfl f L st σ n k w
theorem f_X15_product_6 (hZ : ZRN (ztb (tb_X15_product E d mc ms)) cut G R T Z) (f : Nat) (L : ZLV) (st : List Value) (σ : ZHp) (n k w : Nat) : Z (f + 1) 6 L st σ n k w = s_getf 14 6 9 L st σ n k w (zk1 cut G (Z f)) G R T := zrs hZ rfl f L st σ n k w
theorem f_X15_product_9 (hZ : ZRN (ztb (tb_X15_product E d mc ms)) cut G R T Z) (f : Nat) (L : ZLV) (st : List Value) (σ : ZHp) (n k w : Nat) : Z (f + 1) 9 L st σ n k w = s_getf 12 0 12 L st σ n k w (zk1 cut G (Z f)) G R T := zrs hZ rfl f L st σ n k w
theorem f_X15_product_12 (hZ : ZRN (ztb (tb_X15_product E d mc ms)) cut G R T Z) (f : Nat) (L : ZLV) (st : List Value) (σ : ZHp) (n k w : Nat) : Z (f + 1) 12 L st σ n k w = s_aload 0 13 L st σ n k w (zk1 cut G (Z f)) G R T := zrs hZ rfl f L st σ n k w
theorem f_X15_product_13 (hZ : ZRN (ztb (tb_X15_product E d mc ms)) cut G R T Z) (f : Nat) (L : ZLV) (st : List Value) (σ : ZHp) (n k w : Nat) : Z (f + 1) 13 L st σ n k w = s_getf 14 9 16 L st σ n k w (zk1 cut G (Z f)) G R T := zrs hZ rfl f L st σ n k w
theorem f_X15_product_16 (hZ : ZRN (ztb (tb_X15_product E d mc ms)) cut G R T Z) (f : Nat) (L : ZLV) (st : List Value) (σ : ZHp) (n k w : Nat) : Z (f + 1) 16 L st σ n k w = s_iaload E 17 L st σ n k w (zk1 cut G (Z f)) G R T := zrs hZ rfl f L st σ n k w
theorem f_X15_product_17 (hZ : ZRN (ztb (tb_X15_product E d mc ms)) cut G R T Z) (f : Nat) (L : ZLV) (st : List Value) (σ : ZHp) (n k w : Nat) : Z (f + 1) 17 L st σ n k w = s_const (.int (48)) 19 L st σ n k w (zk1 cut G (Z f)) G R T := zrs hZ rfl f L st σ n k w
theorem f_X15_product_19 (hZ : ZRN (ztb (tb_X15_product E d mc ms)) cut G R T Z) (f : Nat) (L : ZLV) (st : List Value) (σ : ZHp) (n k w : Nat) : Z (f + 1) 19 L st σ n k w = s_const (.int (49)) 21 L st σ n k w (zk1 cut G (Z f)) G R T := zrs hZ rfl f L st σ n k w
theorem f_X15_product_21 (hZ : ZRN (ztb (tb_X15_product E d mc ms)) cut G R T Z) (f : Nat) (L : ZLV) (st : List Value) (σ : ZHp) (n k w : Nat) : Z (f + 1) 21 L st σ n k w = s_callS E d mc ms MX15_isIn 3 24 L st σ n k w (zk1 cut G (Z f)) G R T := zrs hZ rfl f L st σ n k w
theorem f_X15_product_24 (hZ : ZRN (ztb (tb_X15_product E d mc ms)) cut G R T Z) (f : Nat) (L : ZLV) (st : List Value) (σ : ZHp) (n k w : Nat) : Z (f + 1) 24 L st σ n k w = s_if_eq 82 27 L st σ n k w (zk1 cut G (Z f)) G R T := zrs hZ rfl f L st σ n k w
theorem f_X15_product_27 (hZ : ZRN (ztb (tb_X15_product E d mc ms)) cut G R T Z) (f : Nat) (L : ZLV) (st : List Value) (σ : ZHp) (n k w : Nat) : Z (f + 1) 27 L st σ n k w = s_aload 0 28 L st σ n k w (zk1 cut G (Z f)) G R T := zrs hZ rfl f L st σ n k w
theorem f_X15_product_28 (hZ : ZRN (ztb (tb_X15_product E d mc ms)) cut G R T Z) (f : Nat) (L : ZLV) (st : List Value) (σ : ZHp) (n k w : Nat) : Z (f + 1) 28 L st σ n k w = s_getf 14 6 31 L st σ n k w (zk1 cut G (Z f)) G R T := zrs hZ rfl f L st σ n k w
theorem f_X15_product_31 (hZ : ZRN (ztb (tb_X15_product E d mc ms)) cut G R T Z) (f : Nat) (L : ZLV) (st : List Value) (σ : ZHp) (n k w : Nat) : Z (f + 1) 31 L st σ n k w = s_getf 12 0 34 L st σ n k w (zk1 cut G (Z f)) G R T := zrs hZ rfl f L st σ n k w
theorem f_X15_product_34 (hZ : ZRN (ztb (tb_X15_product E d mc ms)) cut G R T Z) (f : Nat) (L : ZLV) (st : List Value) (σ : ZHp) (n k w : Nat) : Z (f + 1) 34 L st σ n k w = s_aload 0 35 L st σ n k w (zk1 cut G (Z f)) G R T := zrs hZ rfl f L st σ n k w
theorem f_X15_product_35 (hZ : ZRN (ztb (tb_X15_product E d mc ms)) cut G R T Z) (f : Nat) (L : ZLV) (st : List Value) (σ : ZHp) (n k w : Nat) : Z (f + 1) 35 L st σ n k w = s_getf 14 9 38 L st σ n k w (zk1 cut G (Z f)) G R T := zrs hZ rfl f L st σ n k w
theorem f_X15_product_38 (hZ : ZRN (ztb (tb_X15_product E d mc ms)) cut G R T Z) (f : Nat) (L : ZLV) (st : List Value) (σ : ZHp) (n k w : Nat) : Z (f + 1) 38 L st σ n k w = s_iaload E 39 L st σ n k w (zk1 cut G (Z f)) G R T := zrs hZ rfl f L st σ n k w
theorem f_X15_product_39 (hZ : ZRN (ztb (tb_X15_product E d mc ms)) cut G R T Z) (f : Nat) (L : ZLV) (st : List Value) (σ : ZHp) (n k w : Nat) : Z (f + 1) 39 L st σ n k w = s_istore 2 40 L st σ n k w (zk1 cut G (Z f)) G R T := zrs hZ rfl f L st σ n k w
theorem f_X15_product_40 (hZ : ZRN (ztb (tb_X15_product E d mc ms)) cut G R T Z) (f : Nat) (L : ZLV) (st : List Value) (σ : ZHp) (n k w : Nat) : Z (f + 1) 40 L st σ n k w = s_aload 0 41 L st σ n k w (zk1 cut G (Z f)) G R T := zrs hZ rfl f L st σ n k w
theorem f_X15_product_41 (hZ : ZRN (ztb (tb_X15_product E d mc ms)) cut G R T Z) (f : Nat) (L : ZLV) (st : List Value) (σ : ZHp) (n k w : Nat) : Z (f + 1) 41 L st σ n k w = s_dup 42 L st σ n k w (zk1 cut G (Z f)) G R T := zrs hZ rfl f L st σ n k w
theorem f_X15_product_42 (hZ : ZRN (ztb (tb_X15_product E d mc ms)) cut G R T Z) (f : Nat) (L : ZLV) (st : List Value) (σ : ZHp) (n k w : Nat) : Z (f + 1) 42 L st σ n k w = s_getf 14 9 45 L st σ n k w (zk1 cut G (Z f)) G R T := zrs hZ rfl f L st σ n k w
theorem f_X15_product_45 (hZ : ZRN (ztb (tb_X15_product E d mc ms)) cut G R T Z) (f : Nat) (L : ZLV) (st : List Value) (σ : ZHp) (n k w : Nat) : Z (f + 1) 45 L st σ n k w = s_const (.int (1)) 46 L st σ n k w (zk1 cut G (Z f)) G R T := zrs hZ rfl f L st σ n k w
theorem f_X15_product_46 (hZ : ZRN (ztb (tb_X15_product E d mc ms)) cut G R T Z) (f : Nat) (L : ZLV) (st : List Value) (σ : ZHp) (n k w : Nat) : Z (f + 1) 46 L st σ n k w = s_iadd 47 L st σ n k w (zk1 cut G (Z f)) G R T := zrs hZ rfl f L st σ n k w
theorem f_X15_product_47 (hZ : ZRN (ztb (tb_X15_product E d mc ms)) cut G R T Z) (f : Nat) (L : ZLV) (st : List Value) (σ : ZHp) (n k w : Nat) : Z (f + 1) 47 L st σ n k w = s_putf 14 9 0 50 L st σ n k w (zk1 cut G (Z f)) G R T := zrs hZ rfl f L st σ n k w
theorem f_X15_product_50 (hZ : ZRN (ztb (tb_X15_product E d mc ms)) cut G R T Z) (f : Nat) (L : ZLV) (st : List Value) (σ : ZHp) (n k w : Nat) : Z (f + 1) 50 L st σ n k w = s_aload 0 51 L st σ n k w (zk1 cut G (Z f)) G R T := zrs hZ rfl f L st σ n k w
theorem f_X15_product_51 (hZ : ZRN (ztb (tb_X15_product E d mc ms)) cut G R T Z) (f : Nat) (L : ZLV) (st : List Value) (σ : ZHp) (n k w : Nat) : Z (f + 1) 51 L st σ n k w = s_callV E d mc ms 14 MX15_value 0 54 L st σ n k w (zk1 cut G (Z f)) G R T := zrs hZ rfl f L st σ n k w
theorem f_X15_product_54 (hZ : ZRN (ztb (tb_X15_product E d mc ms)) cut G R T Z) (f : Nat) (L : ZLV) (st : List Value) (σ : ZHp) (n k w : Nat) : Z (f + 1) 54 L st σ n k w = s_istore 3 55 L st σ n k w (zk1 cut G (Z f)) G R T := zrs hZ rfl f L st σ n k w
theorem f_X15_product_55 (hZ : ZRN (ztb (tb_X15_product E d mc ms)) cut G R T Z) (f : Nat) (L : ZLV) (st : List Value) (σ : ZHp) (n k w : Nat) : Z (f + 1) 55 L st σ n k w = s_iload 2 56 L st σ n k w (zk1 cut G (Z f)) G R T := zrs hZ rfl f L st σ n k w
theorem f_X15_product_56 (hZ : ZRN (ztb (tb_X15_product E d mc ms)) cut G R T Z) (f : Nat) (L : ZLV) (st : List Value) (σ : ZHp) (n k w : Nat) : Z (f + 1) 56 L st σ n k w = s_const (.int (48)) 58 L st σ n k w (zk1 cut G (Z f)) G R T := zrs hZ rfl f L st σ n k w
theorem f_X15_product_58 (hZ : ZRN (ztb (tb_X15_product E d mc ms)) cut G R T Z) (f : Nat) (L : ZLV) (st : List Value) (σ : ZHp) (n k w : Nat) : Z (f + 1) 58 L st σ n k w = s_icmp_ne 67 61 L st σ n k w (zk1 cut G (Z f)) G R T := zrs hZ rfl f L st σ n k w
theorem f_X15_product_61 (hZ : ZRN (ztb (tb_X15_product E d mc ms)) cut G R T Z) (f : Nat) (L : ZLV) (st : List Value) (σ : ZHp) (n k w : Nat) : Z (f + 1) 61 L st σ n k w = s_iload 1 62 L st σ n k w (zk1 cut G (Z f)) G R T := zrs hZ rfl f L st σ n k w
theorem f_X15_product_62 (hZ : ZRN (ztb (tb_X15_product E d mc ms)) cut G R T Z) (f : Nat) (L : ZLV) (st : List Value) (σ : ZHp) (n k w : Nat) : Z (f + 1) 62 L st σ n k w = s_iload 3 63 L st σ n k w (zk1 cut G (Z f)) G R T := zrs hZ rfl f L st σ n k w
theorem f_X15_product_63 (hZ : ZRN (ztb (tb_X15_product E d mc ms)) cut G R T Z) (f : Nat) (L : ZLV) (st : List Value) (σ : ZHp) (n k w : Nat) : Z (f + 1) 63 L st σ n k w = s_imul 64 L st σ n k w (zk1 cut G (Z f)) G R T := zrs hZ rfl f L st σ n k w
theorem f_X15_product_64 (hZ : ZRN (ztb (tb_X15_product E d mc ms)) cut G R T Z) (f : Nat) (L : ZLV) (st : List Value) (σ : ZHp) (n k w : Nat) : Z (f + 1) 64 L st σ n k w = s_goto 78 L st σ n k w (zk1 cut G (Z f)) G R T := zrs hZ rfl f L st σ n k w
theorem f_X15_product_67 (hZ : ZRN (ztb (tb_X15_product E d mc ms)) cut G R T Z) (f : Nat) (L : ZLV) (st : List Value) (σ : ZHp) (n k w : Nat) : Z (f + 1) 67 L st σ n k w = s_iload 3 68 L st σ n k w (zk1 cut G (Z f)) G R T := zrs hZ rfl f L st σ n k w
theorem f_X15_product_68 (hZ : ZRN (ztb (tb_X15_product E d mc ms)) cut G R T Z) (f : Nat) (L : ZLV) (st : List Value) (σ : ZHp) (n k w : Nat) : Z (f + 1) 68 L st σ n k w = s_if_ne 75 71 L st σ n k w (zk1 cut G (Z f)) G R T := zrs hZ rfl f L st σ n k w
theorem f_X15_product_71 (hZ : ZRN (ztb (tb_X15_product E d mc ms)) cut G R T Z) (f : Nat) (L : ZLV) (st : List Value) (σ : ZHp) (n k w : Nat) : Z (f + 1) 71 L st σ n k w = s_const (.int (0)) 72 L st σ n k w (zk1 cut G (Z f)) G R T := zrs hZ rfl f L st σ n k w
theorem f_X15_product_72 (hZ : ZRN (ztb (tb_X15_product E d mc ms)) cut G R T Z) (f : Nat) (L : ZLV) (st : List Value) (σ : ZHp) (n k w : Nat) : Z (f + 1) 72 L st σ n k w = s_goto 78 L st σ n k w (zk1 cut G (Z f)) G R T := zrs hZ rfl f L st σ n k w
theorem f_X15_product_75 (hZ : ZRN (ztb (tb_X15_product E d mc ms)) cut G R T Z) (f : Nat) (L : ZLV) (st : List Value) (σ : ZHp) (n k w : Nat) : Z (f + 1) 75 L st σ n k w = s_iload 1 76 L st σ n k w (zk1 cut G (Z f)) G R T := zrs hZ rfl f L st σ n k w
theorem f_X15_product_76 (hZ : ZRN (ztb (tb_X15_product E d mc ms)) cut G R T Z) (f : Nat) (L : ZLV) (st : List Value) (σ : ZHp) (n k w : Nat) : Z (f + 1) 76 L st σ n k w = s_iload 3 77 L st σ n k w (zk1 cut G (Z f)) G R T := zrs hZ rfl f L st σ n k w
theorem f_X15_product_77 (hZ : ZRN (ztb (tb_X15_product E d mc ms)) cut G R T Z) (f : Nat) (L : ZLV) (st : List Value) (σ : ZHp) (n k w : Nat) : Z (f + 1) 77 L st σ n k w = s_idiv 78 L st σ n k w (zk1 cut G (Z f)) G R T := zrs hZ rfl f L st σ n k w
theorem f_X15_product_78 (hZ : ZRN (ztb (tb_X15_product E d mc ms)) cut G R T Z) (f : Nat) (L : ZLV) (st : List Value) (σ : ZHp) (n k w : Nat) : Z (f + 1) 78 L st σ n k w = s_istore 1 79 L st σ n k w (zk1 cut G (Z f)) G R T := zrs hZ rfl f L st σ n k w
theorem f_X15_product_79 (hZ : ZRN (ztb (tb_X15_product E d mc ms)) cut G R T Z) (f : Nat) (L : ZLV) (st : List Value) (σ : ZHp) (n k w : Nat) : Z (f + 1) 79 L st σ n k w = s_goto 5 L st σ n k w (zk1 cut G (Z f)) G R T := zrs hZ rfl f L st σ n k w
theorem f_X15_product_82 (hZ : ZRN (ztb (tb_X15_product E d mc ms)) cut G R T Z) (f : Nat) (L : ZLV) (st : List Value) (σ : ZHp) (n k w : Nat) : Z (f + 1) 82 L st σ n k w = s_iload 1 83 L st σ n k w (zk1 cut G (Z f)) G R T := zrs hZ rfl f L st σ n k w
theorem f_X15_product_83 (hZ : ZRN (ztb (tb_X15_product E d mc ms)) cut G R T Z) (f : Nat) (L : ZLV) (st : List Value) (σ : ZHp) (n k w : Nat) : Z (f + 1) 83 L st σ n k w = s_ireturn L st σ n k w (zk1 cut G (Z f)) G R T := zrs hZ rfl f L st σ n k w
theorem f_X15_owned_0 (hZ : ZRN (ztb (tb_X15_owned E d mc ms)) cut G R T Z) (f : Nat) (L : ZLV) (st : List Value) (σ : ZHp) (n k w : Nat) : Z (f + 1) 0 L st σ n k w = s_aload 0 1 L st σ n k w (zk1 cut G (Z f)) G R T := zrs hZ rfl f L st σ n k w
theorem f_X15_owned_1 (hZ : ZRN (ztb (tb_X15_owned E d mc ms)) cut G R T Z) (f : Nat) (L : ZLV) (st : List Value) (σ : ZHp) (n k w : Nat) : Z (f + 1) 1 L st σ n k w = s_getf 14 10 4 L st σ n k w (zk1 cut G (Z f)) G R T := zrs hZ rfl f L st σ n k w
theorem f_X15_owned_4 (hZ : ZRN (ztb (tb_X15_owned E d mc ms)) cut G R T Z) (f : Nat) (L : ZLV) (st : List Value) (σ : ZHp) (n k w : Nat) : Z (f + 1) 4 L st σ n k w = s_aload 0 5 L st σ n k w (zk1 cut G (Z f)) G R T := zrs hZ rfl f L st σ n k w
theorem f_X15_owned_5 (hZ : ZRN (ztb (tb_X15_owned E d mc ms)) cut G R T Z) (f : Nat) (L : ZLV) (st : List Value) (σ : ZHp) (n k w : Nat) : Z (f + 1) 5 L st σ n k w = s_getf 14 11 8 L st σ n k w (zk1 cut G (Z f)) G R T := zrs hZ rfl f L st σ n k w
theorem f_X15_owned_8 (hZ : ZRN (ztb (tb_X15_owned E d mc ms)) cut G R T Z) (f : Nat) (L : ZLV) (st : List Value) (σ : ZHp) (n k w : Nat) : Z (f + 1) 8 L st σ n k w = s_iload 1 9 L st σ n k w (zk1 cut G (Z f)) G R T := zrs hZ rfl f L st σ n k w
theorem f_X15_owned_9 (hZ : ZRN (ztb (tb_X15_owned E d mc ms)) cut G R T Z) (f : Nat) (L : ZLV) (st : List Value) (σ : ZHp) (n k w : Nat) : Z (f + 1) 9 L st σ n k w = s_callV E d mc ms 13 MX14_has 2 12 L st σ n k w (zk1 cut G (Z f)) G R T := zrs hZ rfl f L st σ n k w
theorem f_X15_owned_12 (hZ : ZRN (ztb (tb_X15_owned E d mc ms)) cut G R T Z) (f : Nat) (L : ZLV) (st : List Value) (σ : ZHp) (n k w : Nat) : Z (f + 1) 12 L st σ n k w = s_istore 2 13 L st σ n k w (zk1 cut G (Z f)) G R T := zrs hZ rfl f L st σ n k w
theorem f_X15_owned_13 (hZ : ZRN (ztb (tb_X15_owned E d mc ms)) cut G R T Z) (f : Nat) (L : ZLV) (st : List Value) (σ : ZHp) (n k w : Nat) : Z (f + 1) 13 L st σ n k w = s_const (.int (0)) 14 L st σ n k w (zk1 cut G (Z f)) G R T := zrs hZ rfl f L st σ n k w
theorem f_X15_owned_14 (hZ : ZRN (ztb (tb_X15_owned E d mc ms)) cut G R T Z) (f : Nat) (L : ZLV) (st : List Value) (σ : ZHp) (n k w : Nat) : Z (f + 1) 14 L st σ n k w = s_istore 3 15 L st σ n k w (zk1 cut G (Z f)) G R T := zrs hZ rfl f L st σ n k w
theorem f_X15_owned_15 (hZ : ZRN (ztb (tb_X15_owned E d mc ms)) cut G R T Z) (f : Nat) (L : ZLV) (st : List Value) (σ : ZHp) (n k w : Nat) : Z (f + 1) 15 L st σ n k w = s_iload 3 16 L st σ n k w (zk1 cut G (Z f)) G R T := zrs hZ rfl f L st σ n k w
theorem f_X15_owned_16 (hZ : ZRN (ztb (tb_X15_owned E d mc ms)) cut G R T Z) (f : Nat) (L : ZLV) (st : List Value) (σ : ZHp) (n k w : Nat) : Z (f + 1) 16 L st σ n k w = s_aload 0 17 L st σ n k w (zk1 cut G (Z f)) G R T := zrs hZ rfl f L st σ n k w
theorem f_X15_owned_17 (hZ : ZRN (ztb (tb_X15_owned E d mc ms)) cut G R T Z) (f : Nat) (L : ZLV) (st : List Value) (σ : ZHp) (n k w : Nat) : Z (f + 1) 17 L st σ n k w = s_getf 14 13 20 L st σ n k w (zk1 cut G (Z f)) G R T := zrs hZ rfl f L st σ n k w
theorem f_X15_owned_20 (hZ : ZRN (ztb (tb_X15_owned E d mc ms)) cut G R T Z) (f : Nat) (L : ZLV) (st : List Value) (σ : ZHp) (n k w : Nat) : Z (f + 1) 20 L st σ n k w = s_icmp_ge 47 23 L st σ n k w (zk1 cut G (Z f)) G R T := zrs hZ rfl f L st σ n k w
theorem f_X15_owned_23 (hZ : ZRN (ztb (tb_X15_owned E d mc ms)) cut G R T Z) (f : Nat) (L : ZLV) (st : List Value) (σ : ZHp) (n k w : Nat) : Z (f + 1) 23 L st σ n k w = s_iload 2 24 L st σ n k w (zk1 cut G (Z f)) G R T := zrs hZ rfl f L st σ n k w
theorem f_X15_owned_24 (hZ : ZRN (ztb (tb_X15_owned E d mc ms)) cut G R T Z) (f : Nat) (L : ZLV) (st : List Value) (σ : ZHp) (n k w : Nat) : Z (f + 1) 24 L st σ n k w = s_aload 0 25 L st σ n k w (zk1 cut G (Z f)) G R T := zrs hZ rfl f L st σ n k w
theorem f_X15_owned_25 (hZ : ZRN (ztb (tb_X15_owned E d mc ms)) cut G R T Z) (f : Nat) (L : ZLV) (st : List Value) (σ : ZHp) (n k w : Nat) : Z (f + 1) 25 L st σ n k w = s_getf 14 12 28 L st σ n k w (zk1 cut G (Z f)) G R T := zrs hZ rfl f L st σ n k w
theorem f_X15_owned_28 (hZ : ZRN (ztb (tb_X15_owned E d mc ms)) cut G R T Z) (f : Nat) (L : ZLV) (st : List Value) (σ : ZHp) (n k w : Nat) : Z (f + 1) 28 L st σ n k w = s_iload 3 29 L st σ n k w (zk1 cut G (Z f)) G R T := zrs hZ rfl f L st σ n k w
theorem f_X15_owned_29 (hZ : ZRN (ztb (tb_X15_owned E d mc ms)) cut G R T Z) (f : Nat) (L : ZLV) (st : List Value) (σ : ZHp) (n k w : Nat) : Z (f + 1) 29 L st σ n k w = s_iaload E 30 L st σ n k w (zk1 cut G (Z f)) G R T := zrs hZ rfl f L st σ n k w
theorem f_X15_owned_30 (hZ : ZRN (ztb (tb_X15_owned E d mc ms)) cut G R T Z) (f : Nat) (L : ZLV) (st : List Value) (σ : ZHp) (n k w : Nat) : Z (f + 1) 30 L st σ n k w = s_iload 1 31 L st σ n k w (zk1 cut G (Z f)) G R T := zrs hZ rfl f L st σ n k w
theorem f_X15_owned_31 (hZ : ZRN (ztb (tb_X15_owned E d mc ms)) cut G R T Z) (f : Nat) (L : ZLV) (st : List Value) (σ : ZHp) (n k w : Nat) : Z (f + 1) 31 L st σ n k w = s_icmp_ne 38 34 L st σ n k w (zk1 cut G (Z f)) G R T := zrs hZ rfl f L st σ n k w
theorem f_X15_owned_34 (hZ : ZRN (ztb (tb_X15_owned E d mc ms)) cut G R T Z) (f : Nat) (L : ZLV) (st : List Value) (σ : ZHp) (n k w : Nat) : Z (f + 1) 34 L st σ n k w = s_const (.int (1)) 35 L st σ n k w (zk1 cut G (Z f)) G R T := zrs hZ rfl f L st σ n k w
theorem f_X15_owned_35 (hZ : ZRN (ztb (tb_X15_owned E d mc ms)) cut G R T Z) (f : Nat) (L : ZLV) (st : List Value) (σ : ZHp) (n k w : Nat) : Z (f + 1) 35 L st σ n k w = s_goto 39 L st σ n k w (zk1 cut G (Z f)) G R T := zrs hZ rfl f L st σ n k w
theorem f_X15_owned_38 (hZ : ZRN (ztb (tb_X15_owned E d mc ms)) cut G R T Z) (f : Nat) (L : ZLV) (st : List Value) (σ : ZHp) (n k w : Nat) : Z (f + 1) 38 L st σ n k w = s_const (.int (0)) 39 L st σ n k w (zk1 cut G (Z f)) G R T := zrs hZ rfl f L st σ n k w
theorem f_X15_owned_39 (hZ : ZRN (ztb (tb_X15_owned E d mc ms)) cut G R T Z) (f : Nat) (L : ZLV) (st : List Value) (σ : ZHp) (n k w : Nat) : Z (f + 1) 39 L st σ n k w = s_iadd 40 L st σ n k w (zk1 cut G (Z f)) G R T := zrs hZ rfl f L st σ n k w
theorem f_X15_owned_40 (hZ : ZRN (ztb (tb_X15_owned E d mc ms)) cut G R T Z) (f : Nat) (L : ZLV) (st : List Value) (σ : ZHp) (n k w : Nat) : Z (f + 1) 40 L st σ n k w = s_istore 2 41 L st σ n k w (zk1 cut G (Z f)) G R T := zrs hZ rfl f L st σ n k w
theorem f_X15_owned_41 (hZ : ZRN (ztb (tb_X15_owned E d mc ms)) cut G R T Z) (f : Nat) (L : ZLV) (st : List Value) (σ : ZHp) (n k w : Nat) : Z (f + 1) 41 L st σ n k w = s_iinc 3 (1) 44 L st σ n k w (zk1 cut G (Z f)) G R T := zrs hZ rfl f L st σ n k w
theorem f_X15_owned_44 (hZ : ZRN (ztb (tb_X15_owned E d mc ms)) cut G R T Z) (f : Nat) (L : ZLV) (st : List Value) (σ : ZHp) (n k w : Nat) : Z (f + 1) 44 L st σ n k w = s_goto 15 L st σ n k w (zk1 cut G (Z f)) G R T := zrs hZ rfl f L st σ n k w
theorem f_X15_owned_47 (hZ : ZRN (ztb (tb_X15_owned E d mc ms)) cut G R T Z) (f : Nat) (L : ZLV) (st : List Value) (σ : ZHp) (n k w : Nat) : Z (f + 1) 47 L st σ n k w = s_iload 2 48 L st σ n k w (zk1 cut G (Z f)) G R T := zrs hZ rfl f L st σ n k w
theorem f_X15_owned_48 (hZ : ZRN (ztb (tb_X15_owned E d mc ms)) cut G R T Z) (f : Nat) (L : ZLV) (st : List Value) (σ : ZHp) (n k w : Nat) : Z (f + 1) 48 L st σ n k w = s_ireturn L st σ n k w (zk1 cut G (Z f)) G R T := zrs hZ rfl f L st σ n k w
theorem f_X15_value_0 (hZ : ZRN (ztb (tb_X15_value E d mc ms)) cut G R T Z) (f : Nat) (L : ZLV) (st : List Value) (σ : ZHp) (n k w : Nat) : Z (f + 1) 0 L st σ n k w = s_aload 0 1 L st σ n k w (zk1 cut G (Z f)) G R T := zrs hZ rfl f L st σ n k w
theorem f_X15_value_1 (hZ : ZRN (ztb (tb_X15_value E d mc ms)) cut G R T Z) (f : Nat) (L : ZLV) (st : List Value) (σ : ZHp) (n k w : Nat) : Z (f + 1) 1 L st σ n k w = s_getf 14 6 4 L st σ n k w (zk1 cut G (Z f)) G R T := zrs hZ rfl f L st σ n k w
theorem f_X15_value_4 (hZ : ZRN (ztb (tb_X15_value E d mc ms)) cut G R T Z) (f : Nat) (L : ZLV) (st : List Value) (σ : ZHp) (n k w : Nat) : Z (f + 1) 4 L st σ n k w = s_getf 12 0 7 L st σ n k w (zk1 cut G (Z f)) G R T := zrs hZ rfl f L st σ n k w
theorem f_X15_value_7 (hZ : ZRN (ztb (tb_X15_value E d mc ms)) cut G R T Z) (f : Nat) (L : ZLV) (st : List Value) (σ : ZHp) (n k w : Nat) : Z (f + 1) 7 L st σ n k w = s_aload 0 8 L st σ n k w (zk1 cut G (Z f)) G R T := zrs hZ rfl f L st σ n k w
theorem f_X15_value_8 (hZ : ZRN (ztb (tb_X15_value E d mc ms)) cut G R T Z) (f : Nat) (L : ZLV) (st : List Value) (σ : ZHp) (n k w : Nat) : Z (f + 1) 8 L st σ n k w = s_getf 14 9 11 L st σ n k w (zk1 cut G (Z f)) G R T := zrs hZ rfl f L st σ n k w
theorem f_X15_value_11 (hZ : ZRN (ztb (tb_X15_value E d mc ms)) cut G R T Z) (f : Nat) (L : ZLV) (st : List Value) (σ : ZHp) (n k w : Nat) : Z (f + 1) 11 L st σ n k w = s_iaload E 12 L st σ n k w (zk1 cut G (Z f)) G R T := zrs hZ rfl f L st σ n k w
theorem f_X15_value_12 (hZ : ZRN (ztb (tb_X15_value E d mc ms)) cut G R T Z) (f : Nat) (L : ZLV) (st : List Value) (σ : ZHp) (n k w : Nat) : Z (f + 1) 12 L st σ n k w = s_istore 1 13 L st σ n k w (zk1 cut G (Z f)) G R T := zrs hZ rfl f L st σ n k w
theorem f_X15_value_13 (hZ : ZRN (ztb (tb_X15_value E d mc ms)) cut G R T Z) (f : Nat) (L : ZLV) (st : List Value) (σ : ZHp) (n k w : Nat) : Z (f + 1) 13 L st σ n k w = s_aload 0 14 L st σ n k w (zk1 cut G (Z f)) G R T := zrs hZ rfl f L st σ n k w
theorem f_X15_value_14 (hZ : ZRN (ztb (tb_X15_value E d mc ms)) cut G R T Z) (f : Nat) (L : ZLV) (st : List Value) (σ : ZHp) (n k w : Nat) : Z (f + 1) 14 L st σ n k w = s_dup 15 L st σ n k w (zk1 cut G (Z f)) G R T := zrs hZ rfl f L st σ n k w
theorem f_X15_value_15 (hZ : ZRN (ztb (tb_X15_value E d mc ms)) cut G R T Z) (f : Nat) (L : ZLV) (st : List Value) (σ : ZHp) (n k w : Nat) : Z (f + 1) 15 L st σ n k w = s_getf 14 9 18 L st σ n k w (zk1 cut G (Z f)) G R T := zrs hZ rfl f L st σ n k w
theorem f_X15_value_18 (hZ : ZRN (ztb (tb_X15_value E d mc ms)) cut G R T Z) (f : Nat) (L : ZLV) (st : List Value) (σ : ZHp) (n k w : Nat) : Z (f + 1) 18 L st σ n k w = s_const (.int (1)) 19 L st σ n k w (zk1 cut G (Z f)) G R T := zrs hZ rfl f L st σ n k w
theorem f_X15_value_19 (hZ : ZRN (ztb (tb_X15_value E d mc ms)) cut G R T Z) (f : Nat) (L : ZLV) (st : List Value) (σ : ZHp) (n k w : Nat) : Z (f + 1) 19 L st σ n k w = s_iadd 20 L st σ n k w (zk1 cut G (Z f)) G R T := zrs hZ rfl f L st σ n k w
theorem f_X15_value_20 (hZ : ZRN (ztb (tb_X15_value E d mc ms)) cut G R T Z) (f : Nat) (L : ZLV) (st : List Value) (σ : ZHp) (n k w : Nat) : Z (f + 1) 20 L st σ n k w = s_putf 14 9 0 23 L st σ n k w (zk1 cut G (Z f)) G R T := zrs hZ rfl f L st σ n k w
theorem f_X15_value_23 (hZ : ZRN (ztb (tb_X15_value E d mc ms)) cut G R T Z) (f : Nat) (L : ZLV) (st : List Value) (σ : ZHp) (n k w : Nat) : Z (f + 1) 23 L st σ n k w = s_iload 1 24 L st σ n k w (zk1 cut G (Z f)) G R T := zrs hZ rfl f L st σ n k w
theorem f_X15_value_24 (hZ : ZRN (ztb (tb_X15_value E d mc ms)) cut G R T Z) (f : Nat) (L : ZLV) (st : List Value) (σ : ZHp) (n k w : Nat) : Z (f + 1) 24 L st σ n k w = s_tsw 3 [243, 356, 248, 356, 356, 356, 356, 356, 356, 356, 356, 356, 235, 253, 277, 277, 277, 258, 356, 356, 356, 356, 356, 356, 356, 356, 356, 356, 220, 356, 356, 356, 356, 356, 356, 356, 356, 339, 356, 356, 356, 356, 356, 356, 271] 356 L st σ n k w (zk1 cut G (Z f)) G R T := zrs hZ rfl f L st σ n k w
theorem f_X15_value_220 (hZ : ZRN (ztb (tb_X15_value E d mc ms)) cut G R T Z) (f : Nat) (L : ZLV) (st : List Value) (σ : ZHp) (n k w : Nat) : Z (f + 1) 220 L st σ n k w = s_aload 0 221 L st σ n k w (zk1 cut G (Z f)) G R T := zrs hZ rfl f L st σ n k w
theorem f_X15_value_221 (hZ : ZRN (ztb (tb_X15_value E d mc ms)) cut G R T Z) (f : Nat) (L : ZLV) (st : List Value) (σ : ZHp) (n k w : Nat) : Z (f + 1) 221 L st σ n k w = s_getf 14 6 224 L st σ n k w (zk1 cut G (Z f)) G R T := zrs hZ rfl f L st σ n k w
theorem f_X15_value_224 (hZ : ZRN (ztb (tb_X15_value E d mc ms)) cut G R T Z) (f : Nat) (L : ZLV) (st : List Value) (σ : ZHp) (n k w : Nat) : Z (f + 1) 224 L st σ n k w = s_getf 12 3 227 L st σ n k w (zk1 cut G (Z f)) G R T := zrs hZ rfl f L st σ n k w
theorem f_X15_value_227 (hZ : ZRN (ztb (tb_X15_value E d mc ms)) cut G R T Z) (f : Nat) (L : ZLV) (st : List Value) (σ : ZHp) (n k w : Nat) : Z (f + 1) 227 L st σ n k w = s_aload 0 228 L st σ n k w (zk1 cut G (Z f)) G R T := zrs hZ rfl f L st σ n k w
theorem f_X15_value_228 (hZ : ZRN (ztb (tb_X15_value E d mc ms)) cut G R T Z) (f : Nat) (L : ZLV) (st : List Value) (σ : ZHp) (n k w : Nat) : Z (f + 1) 228 L st σ n k w = s_getf 14 9 231 L st σ n k w (zk1 cut G (Z f)) G R T := zrs hZ rfl f L st σ n k w
theorem f_X15_value_231 (hZ : ZRN (ztb (tb_X15_value E d mc ms)) cut G R T Z) (f : Nat) (L : ZLV) (st : List Value) (σ : ZHp) (n k w : Nat) : Z (f + 1) 231 L st σ n k w = s_const (.int (1)) 232 L st σ n k w (zk1 cut G (Z f)) G R T := zrs hZ rfl f L st σ n k w
theorem f_X15_value_232 (hZ : ZRN (ztb (tb_X15_value E d mc ms)) cut G R T Z) (f : Nat) (L : ZLV) (st : List Value) (σ : ZHp) (n k w : Nat) : Z (f + 1) 232 L st σ n k w = s_isub 233 L st σ n k w (zk1 cut G (Z f)) G R T := zrs hZ rfl f L st σ n k w
theorem f_X15_value_233 (hZ : ZRN (ztb (tb_X15_value E d mc ms)) cut G R T Z) (f : Nat) (L : ZLV) (st : List Value) (σ : ZHp) (n k w : Nat) : Z (f + 1) 233 L st σ n k w = s_iaload E 234 L st σ n k w (zk1 cut G (Z f)) G R T := zrs hZ rfl f L st σ n k w
theorem f_X15_value_234 (hZ : ZRN (ztb (tb_X15_value E d mc ms)) cut G R T Z) (f : Nat) (L : ZLV) (st : List Value) (σ : ZHp) (n k w : Nat) : Z (f + 1) 234 L st σ n k w = s_ireturn L st σ n k w (zk1 cut G (Z f)) G R T := zrs hZ rfl f L st σ n k w
theorem f_X15_value_235 (hZ : ZRN (ztb (tb_X15_value E d mc ms)) cut G R T Z) (f : Nat) (L : ZLV) (st : List Value) (σ : ZHp) (n k w : Nat) : Z (f + 1) 235 L st σ n k w = s_aload 0 236 L st σ n k w (zk1 cut G (Z f)) G R T := zrs hZ rfl f L st σ n k w
theorem f_X15_value_236 (hZ : ZRN (ztb (tb_X15_value E d mc ms)) cut G R T Z) (f : Nat) (L : ZLV) (st : List Value) (σ : ZHp) (n k w : Nat) : Z (f + 1) 236 L st σ n k w = s_getf 14 10 239 L st σ n k w (zk1 cut G (Z f)) G R T := zrs hZ rfl f L st σ n k w
theorem f_X15_value_239 (hZ : ZRN (ztb (tb_X15_value E d mc ms)) cut G R T Z) (f : Nat) (L : ZLV) (st : List Value) (σ : ZHp) (n k w : Nat) : Z (f + 1) 239 L st σ n k w = s_getf 13 0 242 L st σ n k w (zk1 cut G (Z f)) G R T := zrs hZ rfl f L st σ n k w
theorem f_X15_value_242 (hZ : ZRN (ztb (tb_X15_value E d mc ms)) cut G R T Z) (f : Nat) (L : ZLV) (st : List Value) (σ : ZHp) (n k w : Nat) : Z (f + 1) 242 L st σ n k w = s_ireturn L st σ n k w (zk1 cut G (Z f)) G R T := zrs hZ rfl f L st σ n k w
theorem f_X15_value_243 (hZ : ZRN (ztb (tb_X15_value E d mc ms)) cut G R T Z) (f : Nat) (L : ZLV) (st : List Value) (σ : ZHp) (n k w : Nat) : Z (f + 1) 243 L st σ n k w = s_aload 0 244 L st σ n k w (zk1 cut G (Z f)) G R T := zrs hZ rfl f L st σ n k w
theorem f_X15_value_244 (hZ : ZRN (ztb (tb_X15_value E d mc ms)) cut G R T Z) (f : Nat) (L : ZLV) (st : List Value) (σ : ZHp) (n k w : Nat) : Z (f + 1) 244 L st σ n k w = s_getf 14 16 247 L st σ n k w (zk1 cut G (Z f)) G R T := zrs hZ rfl f L st σ n k w
theorem f_X15_value_247 (hZ : ZRN (ztb (tb_X15_value E d mc ms)) cut G R T Z) (f : Nat) (L : ZLV) (st : List Value) (σ : ZHp) (n k w : Nat) : Z (f + 1) 247 L st σ n k w = s_ireturn L st σ n k w (zk1 cut G (Z f)) G R T := zrs hZ rfl f L st σ n k w
theorem f_X15_value_248 (hZ : ZRN (ztb (tb_X15_value E d mc ms)) cut G R T Z) (f : Nat) (L : ZLV) (st : List Value) (σ : ZHp) (n k w : Nat) : Z (f + 1) 248 L st σ n k w = s_aload 0 249 L st σ n k w (zk1 cut G (Z f)) G R T := zrs hZ rfl f L st σ n k w
theorem f_X15_value_249 (hZ : ZRN (ztb (tb_X15_value E d mc ms)) cut G R T Z) (f : Nat) (L : ZLV) (st : List Value) (σ : ZHp) (n k w : Nat) : Z (f + 1) 249 L st σ n k w = s_getf 14 17 252 L st σ n k w (zk1 cut G (Z f)) G R T := zrs hZ rfl f L st σ n k w
theorem f_X15_value_252 (hZ : ZRN (ztb (tb_X15_value E d mc ms)) cut G R T Z) (f : Nat) (L : ZLV) (st : List Value) (σ : ZHp) (n k w : Nat) : Z (f + 1) 252 L st σ n k w = s_ireturn L st σ n k w (zk1 cut G (Z f)) G R T := zrs hZ rfl f L st σ n k w
theorem f_X15_value_253 (hZ : ZRN (ztb (tb_X15_value E d mc ms)) cut G R T Z) (f : Nat) (L : ZLV) (st : List Value) (σ : ZHp) (n k w : Nat) : Z (f + 1) 253 L st σ n k w = s_aload 0 254 L st σ n k w (zk1 cut G (Z f)) G R T := zrs hZ rfl f L st σ n k w
theorem f_X15_value_254 (hZ : ZRN (ztb (tb_X15_value E d mc ms)) cut G R T Z) (f : Nat) (L : ZLV) (st : List Value) (σ : ZHp) (n k w : Nat) : Z (f + 1) 254 L st σ n k w = s_getf 14 13 257 L st σ n k w (zk1 cut G (Z f)) G R T := zrs hZ rfl f L st σ n k w
theorem f_X15_value_257 (hZ : ZRN (ztb (tb_X15_value E d mc ms)) cut G R T Z) (f : Nat) (L : ZLV) (st : List Value) (σ : ZHp) (n k w : Nat) : Z (f + 1) 257 L st σ n k w = s_ireturn L st σ n k w (zk1 cut G (Z f)) G R T := zrs hZ rfl f L st σ n k w
theorem f_X15_value_258 (hZ : ZRN (ztb (tb_X15_value E d mc ms)) cut G R T Z) (f : Nat) (L : ZLV) (st : List Value) (σ : ZHp) (n k w : Nat) : Z (f + 1) 258 L st σ n k w = s_aload 0 259 L st σ n k w (zk1 cut G (Z f)) G R T := zrs hZ rfl f L st σ n k w
theorem f_X15_value_259 (hZ : ZRN (ztb (tb_X15_value E d mc ms)) cut G R T Z) (f : Nat) (L : ZLV) (st : List Value) (σ : ZHp) (n k w : Nat) : Z (f + 1) 259 L st σ n k w = s_getf 14 10 262 L st σ n k w (zk1 cut G (Z f)) G R T := zrs hZ rfl f L st σ n k w
theorem f_X15_value_262 (hZ : ZRN (ztb (tb_X15_value E d mc ms)) cut G R T Z) (f : Nat) (L : ZLV) (st : List Value) (σ : ZHp) (n k w : Nat) : Z (f + 1) 262 L st σ n k w = s_getf 13 11 265 L st σ n k w (zk1 cut G (Z f)) G R T := zrs hZ rfl f L st σ n k w
theorem f_X15_value_265 (hZ : ZRN (ztb (tb_X15_value E d mc ms)) cut G R T Z) (f : Nat) (L : ZLV) (st : List Value) (σ : ZHp) (n k w : Nat) : Z (f + 1) 265 L st σ n k w = s_aload 0 266 L st σ n k w (zk1 cut G (Z f)) G R T := zrs hZ rfl f L st σ n k w
theorem f_X15_value_266 (hZ : ZRN (ztb (tb_X15_value E d mc ms)) cut G R T Z) (f : Nat) (L : ZLV) (st : List Value) (σ : ZHp) (n k w : Nat) : Z (f + 1) 266 L st σ n k w = s_getf 14 11 269 L st σ n k w (zk1 cut G (Z f)) G R T := zrs hZ rfl f L st σ n k w
theorem f_X15_value_269 (hZ : ZRN (ztb (tb_X15_value E d mc ms)) cut G R T Z) (f : Nat) (L : ZLV) (st : List Value) (σ : ZHp) (n k w : Nat) : Z (f + 1) 269 L st σ n k w = s_iaload E 270 L st σ n k w (zk1 cut G (Z f)) G R T := zrs hZ rfl f L st σ n k w
theorem f_X15_value_270 (hZ : ZRN (ztb (tb_X15_value E d mc ms)) cut G R T Z) (f : Nat) (L : ZLV) (st : List Value) (σ : ZHp) (n k w : Nat) : Z (f + 1) 270 L st σ n k w = s_ireturn L st σ n k w (zk1 cut G (Z f)) G R T := zrs hZ rfl f L st σ n k w
theorem f_X15_value_271 (hZ : ZRN (ztb (tb_X15_value E d mc ms)) cut G R T Z) (f : Nat) (L : ZLV) (st : List Value) (σ : ZHp) (n k w : Nat) : Z (f + 1) 271 L st σ n k w = s_aload 0 272 L st σ n k w (zk1 cut G (Z f)) G R T := zrs hZ rfl f L st σ n k w
theorem f_X15_value_272 (hZ : ZRN (ztb (tb_X15_value E d mc ms)) cut G R T Z) (f : Nat) (L : ZLV) (st : List Value) (σ : ZHp) (n k w : Nat) : Z (f + 1) 272 L st σ n k w = s_callV E d mc ms 14 MX15_value 0 275 L st σ n k w (zk1 cut G (Z f)) G R T := zrs hZ rfl f L st σ n k w
theorem f_X15_value_275 (hZ : ZRN (ztb (tb_X15_value E d mc ms)) cut G R T Z) (f : Nat) (L : ZLV) (st : List Value) (σ : ZHp) (n k w : Nat) : Z (f + 1) 275 L st σ n k w = s_ineg 276 L st σ n k w (zk1 cut G (Z f)) G R T := zrs hZ rfl f L st σ n k w
theorem f_X15_value_276 (hZ : ZRN (ztb (tb_X15_value E d mc ms)) cut G R T Z) (f : Nat) (L : ZLV) (st : List Value) (σ : ZHp) (n k w : Nat) : Z (f + 1) 276 L st σ n k w = s_ireturn L st σ n k w (zk1 cut G (Z f)) G R T := zrs hZ rfl f L st σ n k w
theorem f_X15_value_277 (hZ : ZRN (ztb (tb_X15_value E d mc ms)) cut G R T Z) (f : Nat) (L : ZLV) (st : List Value) (σ : ZHp) (n k w : Nat) : Z (f + 1) 277 L st σ n k w = s_aload 0 278 L st σ n k w (zk1 cut G (Z f)) G R T := zrs hZ rfl f L st σ n k w
theorem f_X15_value_278 (hZ : ZRN (ztb (tb_X15_value E d mc ms)) cut G R T Z) (f : Nat) (L : ZLV) (st : List Value) (σ : ZHp) (n k w : Nat) : Z (f + 1) 278 L st σ n k w = s_getf 14 6 281 L st σ n k w (zk1 cut G (Z f)) G R T := zrs hZ rfl f L st σ n k w
theorem f_X15_value_281 (hZ : ZRN (ztb (tb_X15_value E d mc ms)) cut G R T Z) (f : Nat) (L : ZLV) (st : List Value) (σ : ZHp) (n k w : Nat) : Z (f + 1) 281 L st σ n k w = s_getf 12 3 284 L st σ n k w (zk1 cut G (Z f)) G R T := zrs hZ rfl f L st σ n k w
theorem f_X15_value_284 (hZ : ZRN (ztb (tb_X15_value E d mc ms)) cut G R T Z) (f : Nat) (L : ZLV) (st : List Value) (σ : ZHp) (n k w : Nat) : Z (f + 1) 284 L st σ n k w = s_aload 0 285 L st σ n k w (zk1 cut G (Z f)) G R T := zrs hZ rfl f L st σ n k w
theorem f_X15_value_285 (hZ : ZRN (ztb (tb_X15_value E d mc ms)) cut G R T Z) (f : Nat) (L : ZLV) (st : List Value) (σ : ZHp) (n k w : Nat) : Z (f + 1) 285 L st σ n k w = s_getf 14 9 288 L st σ n k w (zk1 cut G (Z f)) G R T := zrs hZ rfl f L st σ n k w
theorem f_X15_value_288 (hZ : ZRN (ztb (tb_X15_value E d mc ms)) cut G R T Z) (f : Nat) (L : ZLV) (st : List Value) (σ : ZHp) (n k w : Nat) : Z (f + 1) 288 L st σ n k w = s_iaload E 289 L st σ n k w (zk1 cut G (Z f)) G R T := zrs hZ rfl f L st σ n k w
theorem f_X15_value_289 (hZ : ZRN (ztb (tb_X15_value E d mc ms)) cut G R T Z) (f : Nat) (L : ZLV) (st : List Value) (σ : ZHp) (n k w : Nat) : Z (f + 1) 289 L st σ n k w = s_istore 2 290 L st σ n k w (zk1 cut G (Z f)) G R T := zrs hZ rfl f L st σ n k w
theorem f_X15_value_290 (hZ : ZRN (ztb (tb_X15_value E d mc ms)) cut G R T Z) (f : Nat) (L : ZLV) (st : List Value) (σ : ZHp) (n k w : Nat) : Z (f + 1) 290 L st σ n k w = s_aload 0 291 L st σ n k w (zk1 cut G (Z f)) G R T := zrs hZ rfl f L st σ n k w
theorem f_X15_value_291 (hZ : ZRN (ztb (tb_X15_value E d mc ms)) cut G R T Z) (f : Nat) (L : ZLV) (st : List Value) (σ : ZHp) (n k w : Nat) : Z (f + 1) 291 L st σ n k w = s_dup 292 L st σ n k w (zk1 cut G (Z f)) G R T := zrs hZ rfl f L st σ n k w
theorem f_X15_value_292 (hZ : ZRN (ztb (tb_X15_value E d mc ms)) cut G R T Z) (f : Nat) (L : ZLV) (st : List Value) (σ : ZHp) (n k w : Nat) : Z (f + 1) 292 L st σ n k w = s_getf 14 9 295 L st σ n k w (zk1 cut G (Z f)) G R T := zrs hZ rfl f L st σ n k w
theorem f_X15_value_295 (hZ : ZRN (ztb (tb_X15_value E d mc ms)) cut G R T Z) (f : Nat) (L : ZLV) (st : List Value) (σ : ZHp) (n k w : Nat) : Z (f + 1) 295 L st σ n k w = s_const (.int (1)) 296 L st σ n k w (zk1 cut G (Z f)) G R T := zrs hZ rfl f L st σ n k w
theorem f_X15_value_296 (hZ : ZRN (ztb (tb_X15_value E d mc ms)) cut G R T Z) (f : Nat) (L : ZLV) (st : List Value) (σ : ZHp) (n k w : Nat) : Z (f + 1) 296 L st σ n k w = s_iadd 297 L st σ n k w (zk1 cut G (Z f)) G R T := zrs hZ rfl f L st σ n k w
theorem f_X15_value_297 (hZ : ZRN (ztb (tb_X15_value E d mc ms)) cut G R T Z) (f : Nat) (L : ZLV) (st : List Value) (σ : ZHp) (n k w : Nat) : Z (f + 1) 297 L st σ n k w = s_putf 14 9 0 300 L st σ n k w (zk1 cut G (Z f)) G R T := zrs hZ rfl f L st σ n k w
theorem f_X15_value_300 (hZ : ZRN (ztb (tb_X15_value E d mc ms)) cut G R T Z) (f : Nat) (L : ZLV) (st : List Value) (σ : ZHp) (n k w : Nat) : Z (f + 1) 300 L st σ n k w = s_iload 1 301 L st σ n k w (zk1 cut G (Z f)) G R T := zrs hZ rfl f L st σ n k w
theorem f_X15_value_301 (hZ : ZRN (ztb (tb_X15_value E d mc ms)) cut G R T Z) (f : Nat) (L : ZLV) (st : List Value) (σ : ZHp) (n k w : Nat) : Z (f + 1) 301 L st σ n k w = s_const (.int (17)) 303 L st σ n k w (zk1 cut G (Z f)) G R T := zrs hZ rfl f L st σ n k w
theorem f_X15_value_303 (hZ : ZRN (ztb (tb_X15_value E d mc ms)) cut G R T Z) (f : Nat) (L : ZLV) (st : List Value) (σ : ZHp) (n k w : Nat) : Z (f + 1) 303 L st σ n k w = s_icmp_ne 315 306 L st σ n k w (zk1 cut G (Z f)) G R T := zrs hZ rfl f L st σ n k w
theorem f_X15_value_306 (hZ : ZRN (ztb (tb_X15_value E d mc ms)) cut G R T Z) (f : Nat) (L : ZLV) (st : List Value) (σ : ZHp) (n k w : Nat) : Z (f + 1) 306 L st σ n k w = s_aload 0 307 L st σ n k w (zk1 cut G (Z f)) G R T := zrs hZ rfl f L st σ n k w
theorem f_X15_value_307 (hZ : ZRN (ztb (tb_X15_value E d mc ms)) cut G R T Z) (f : Nat) (L : ZLV) (st : List Value) (σ : ZHp) (n k w : Nat) : Z (f + 1) 307 L st σ n k w = s_getf 14 15 310 L st σ n k w (zk1 cut G (Z f)) G R T := zrs hZ rfl f L st σ n k w
theorem f_X15_value_310 (hZ : ZRN (ztb (tb_X15_value E d mc ms)) cut G R T Z) (f : Nat) (L : ZLV) (st : List Value) (σ : ZHp) (n k w : Nat) : Z (f + 1) 310 L st σ n k w = s_iload 2 311 L st σ n k w (zk1 cut G (Z f)) G R T := zrs hZ rfl f L st σ n k w
theorem f_X15_value_311 (hZ : ZRN (ztb (tb_X15_value E d mc ms)) cut G R T Z) (f : Nat) (L : ZLV) (st : List Value) (σ : ZHp) (n k w : Nat) : Z (f + 1) 311 L st σ n k w = s_iaload E 312 L st σ n k w (zk1 cut G (Z f)) G R T := zrs hZ rfl f L st σ n k w
theorem f_X15_value_312 (hZ : ZRN (ztb (tb_X15_value E d mc ms)) cut G R T Z) (f : Nat) (L : ZLV) (st : List Value) (σ : ZHp) (n k w : Nat) : Z (f + 1) 312 L st σ n k w = s_goto 338 L st σ n k w (zk1 cut G (Z f)) G R T := zrs hZ rfl f L st σ n k w
theorem f_X15_value_315 (hZ : ZRN (ztb (tb_X15_value E d mc ms)) cut G R T Z) (f : Nat) (L : ZLV) (st : List Value) (σ : ZHp) (n k w : Nat) : Z (f + 1) 315 L st σ n k w = s_iload 1 316 L st σ n k w (zk1 cut G (Z f)) G R T := zrs hZ rfl f L st σ n k w
theorem f_X15_value_316 (hZ : ZRN (ztb (tb_X15_value E d mc ms)) cut G R T Z) (f : Nat) (L : ZLV) (st : List Value) (σ : ZHp) (n k w : Nat) : Z (f + 1) 316 L st σ n k w = s_const (.int (18)) 318 L st σ n k w (zk1 cut G (Z f)) G R T := zrs hZ rfl f L st σ n k w
theorem f_X15_value_318 (hZ : ZRN (ztb (tb_X15_value E d mc ms)) cut G R T Z) (f : Nat) (L : ZLV) (st : List Value) (σ : ZHp) (n k w : Nat) : Z (f + 1) 318 L st σ n k w = s_icmp_ne 329 321 L st σ n k w (zk1 cut G (Z f)) G R T := zrs hZ rfl f L st σ n k w
theorem f_X15_value_321 (hZ : ZRN (ztb (tb_X15_value E d mc ms)) cut G R T Z) (f : Nat) (L : ZLV) (st : List Value) (σ : ZHp) (n k w : Nat) : Z (f + 1) 321 L st σ n k w = s_aload 0 322 L st σ n k w (zk1 cut G (Z f)) G R T := zrs hZ rfl f L st σ n k w
theorem f_X15_value_322 (hZ : ZRN (ztb (tb_X15_value E d mc ms)) cut G R T Z) (f : Nat) (L : ZLV) (st : List Value) (σ : ZHp) (n k w : Nat) : Z (f + 1) 322 L st σ n k w = s_iload 2 323 L st σ n k w (zk1 cut G (Z f)) G R T := zrs hZ rfl f L st σ n k w
theorem f_X15_value_323 (hZ : ZRN (ztb (tb_X15_value E d mc ms)) cut G R T Z) (f : Nat) (L : ZLV) (st : List Value) (σ : ZHp) (n k w : Nat) : Z (f + 1) 323 L st σ n k w = s_callV E d mc ms 14 MX15_owned 1 326 L st σ n k w (zk1 cut G (Z f)) G R T := zrs hZ rfl f L st σ n k w
theorem f_X15_value_326 (hZ : ZRN (ztb (tb_X15_value E d mc ms)) cut G R T Z) (f : Nat) (L : ZLV) (st : List Value) (σ : ZHp) (n k w : Nat) : Z (f + 1) 326 L st σ n k w = s_goto 338 L st σ n k w (zk1 cut G (Z f)) G R T := zrs hZ rfl f L st σ n k w
theorem f_X15_value_329 (hZ : ZRN (ztb (tb_X15_value E d mc ms)) cut G R T Z) (f : Nat) (L : ZLV) (st : List Value) (σ : ZHp) (n k w : Nat) : Z (f + 1) 329 L st σ n k w = s_aload 0 330 L st σ n k w (zk1 cut G (Z f)) G R T := zrs hZ rfl f L st σ n k w
theorem f_X15_value_330 (hZ : ZRN (ztb (tb_X15_value E d mc ms)) cut G R T Z) (f : Nat) (L : ZLV) (st : List Value) (σ : ZHp) (n k w : Nat) : Z (f + 1) 330 L st σ n k w = s_getf 14 10 333 L st σ n k w (zk1 cut G (Z f)) G R T := zrs hZ rfl f L st σ n k w
theorem f_X15_value_333 (hZ : ZRN (ztb (tb_X15_value E d mc ms)) cut G R T Z) (f : Nat) (L : ZLV) (st : List Value) (σ : ZHp) (n k w : Nat) : Z (f + 1) 333 L st σ n k w = s_getf 13 3 336 L st σ n k w (zk1 cut G (Z f)) G R T := zrs hZ rfl f L st σ n k w
theorem f_X15_value_336 (hZ : ZRN (ztb (tb_X15_value E d mc ms)) cut G R T Z) (f : Nat) (L : ZLV) (st : List Value) (σ : ZHp) (n k w : Nat) : Z (f + 1) 336 L st σ n k w = s_iload 2 337 L st σ n k w (zk1 cut G (Z f)) G R T := zrs hZ rfl f L st σ n k w
theorem f_X15_value_337 (hZ : ZRN (ztb (tb_X15_value E d mc ms)) cut G R T Z) (f : Nat) (L : ZLV) (st : List Value) (σ : ZHp) (n k w : Nat) : Z (f + 1) 337 L st σ n k w = s_iaload E 338 L st σ n k w (zk1 cut G (Z f)) G R T := zrs hZ rfl f L st σ n k w
theorem f_X15_value_338 (hZ : ZRN (ztb (tb_X15_value E d mc ms)) cut G R T Z) (f : Nat) (L : ZLV) (st : List Value) (σ : ZHp) (n k w : Nat) : Z (f + 1) 338 L st σ n k w = s_ireturn L st σ n k w (zk1 cut G (Z f)) G R T := zrs hZ rfl f L st σ n k w
theorem f_X15_value_339 (hZ : ZRN (ztb (tb_X15_value E d mc ms)) cut G R T Z) (f : Nat) (L : ZLV) (st : List Value) (σ : ZHp) (n k w : Nat) : Z (f + 1) 339 L st σ n k w = s_aload 0 340 L st σ n k w (zk1 cut G (Z f)) G R T := zrs hZ rfl f L st σ n k w
theorem f_X15_value_340 (hZ : ZRN (ztb (tb_X15_value E d mc ms)) cut G R T Z) (f : Nat) (L : ZLV) (st : List Value) (σ : ZHp) (n k w : Nat) : Z (f + 1) 340 L st σ n k w = s_callV E d mc ms 14 MX15_sum 0 343 L st σ n k w (zk1 cut G (Z f)) G R T := zrs hZ rfl f L st σ n k w
theorem f_X15_value_343 (hZ : ZRN (ztb (tb_X15_value E d mc ms)) cut G R T Z) (f : Nat) (L : ZLV) (st : List Value) (σ : ZHp) (n k w : Nat) : Z (f + 1) 343 L st σ n k w = s_istore 2 344 L st σ n k w (zk1 cut G (Z f)) G R T := zrs hZ rfl f L st σ n k w
theorem f_X15_value_344 (hZ : ZRN (ztb (tb_X15_value E d mc ms)) cut G R T Z) (f : Nat) (L : ZLV) (st : List Value) (σ : ZHp) (n k w : Nat) : Z (f + 1) 344 L st σ n k w = s_aload 0 345 L st σ n k w (zk1 cut G (Z f)) G R T := zrs hZ rfl f L st σ n k w
theorem f_X15_value_345 (hZ : ZRN (ztb (tb_X15_value E d mc ms)) cut G R T Z) (f : Nat) (L : ZLV) (st : List Value) (σ : ZHp) (n k w : Nat) : Z (f + 1) 345 L st σ n k w = s_dup 346 L st σ n k w (zk1 cut G (Z f)) G R T := zrs hZ rfl f L st σ n k w
theorem f_X15_value_346 (hZ : ZRN (ztb (tb_X15_value E d mc ms)) cut G R T Z) (f : Nat) (L : ZLV) (st : List Value) (σ : ZHp) (n k w : Nat) : Z (f + 1) 346 L st σ n k w = s_getf 14 9 349 L st σ n k w (zk1 cut G (Z f)) G R T := zrs hZ rfl f L st σ n k w
theorem f_X15_value_349 (hZ : ZRN (ztb (tb_X15_value E d mc ms)) cut G R T Z) (f : Nat) (L : ZLV) (st : List Value) (σ : ZHp) (n k w : Nat) : Z (f + 1) 349 L st σ n k w = s_const (.int (1)) 350 L st σ n k w (zk1 cut G (Z f)) G R T := zrs hZ rfl f L st σ n k w
theorem f_X15_value_350 (hZ : ZRN (ztb (tb_X15_value E d mc ms)) cut G R T Z) (f : Nat) (L : ZLV) (st : List Value) (σ : ZHp) (n k w : Nat) : Z (f + 1) 350 L st σ n k w = s_iadd 351 L st σ n k w (zk1 cut G (Z f)) G R T := zrs hZ rfl f L st σ n k w
theorem f_X15_value_351 (hZ : ZRN (ztb (tb_X15_value E d mc ms)) cut G R T Z) (f : Nat) (L : ZLV) (st : List Value) (σ : ZHp) (n k w : Nat) : Z (f + 1) 351 L st σ n k w = s_putf 14 9 0 354 L st σ n k w (zk1 cut G (Z f)) G R T := zrs hZ rfl f L st σ n k w
theorem f_X15_value_354 (hZ : ZRN (ztb (tb_X15_value E d mc ms)) cut G R T Z) (f : Nat) (L : ZLV) (st : List Value) (σ : ZHp) (n k w : Nat) : Z (f + 1) 354 L st σ n k w = s_iload 2 355 L st σ n k w (zk1 cut G (Z f)) G R T := zrs hZ rfl f L st σ n k w
theorem f_X15_value_355 (hZ : ZRN (ztb (tb_X15_value E d mc ms)) cut G R T Z) (f : Nat) (L : ZLV) (st : List Value) (σ : ZHp) (n k w : Nat) : Z (f + 1) 355 L st σ n k w = s_ireturn L st σ n k w (zk1 cut G (Z f)) G R T := zrs hZ rfl f L st σ n k w
theorem f_X15_value_356 (hZ : ZRN (ztb (tb_X15_value E d mc ms)) cut G R T Z) (f : Nat) (L : ZLV) (st : List Value) (σ : ZHp) (n k w : Nat) : Z (f + 1) 356 L st σ n k w = s_aload 0 357 L st σ n k w (zk1 cut G (Z f)) G R T := zrs hZ rfl f L st σ n k w
theorem f_X15_value_357 (hZ : ZRN (ztb (tb_X15_value E d mc ms)) cut G R T Z) (f : Nat) (L : ZLV) (st : List Value) (σ : ZHp) (n k w : Nat) : Z (f + 1) 357 L st σ n k w = s_dup 358 L st σ n k w (zk1 cut G (Z f)) G R T := zrs hZ rfl f L st σ n k w
theorem f_X15_value_358 (hZ : ZRN (ztb (tb_X15_value E d mc ms)) cut G R T Z) (f : Nat) (L : ZLV) (st : List Value) (σ : ZHp) (n k w : Nat) : Z (f + 1) 358 L st σ n k w = s_getf 14 9 361 L st σ n k w (zk1 cut G (Z f)) G R T := zrs hZ rfl f L st σ n k w
theorem f_X15_value_361 (hZ : ZRN (ztb (tb_X15_value E d mc ms)) cut G R T Z) (f : Nat) (L : ZLV) (st : List Value) (σ : ZHp) (n k w : Nat) : Z (f + 1) 361 L st σ n k w = s_const (.int (1)) 362 L st σ n k w (zk1 cut G (Z f)) G R T := zrs hZ rfl f L st σ n k w
theorem f_X15_value_362 (hZ : ZRN (ztb (tb_X15_value E d mc ms)) cut G R T Z) (f : Nat) (L : ZLV) (st : List Value) (σ : ZHp) (n k w : Nat) : Z (f + 1) 362 L st σ n k w = s_iadd 363 L st σ n k w (zk1 cut G (Z f)) G R T := zrs hZ rfl f L st σ n k w
theorem f_X15_value_363 (hZ : ZRN (ztb (tb_X15_value E d mc ms)) cut G R T Z) (f : Nat) (L : ZLV) (st : List Value) (σ : ZHp) (n k w : Nat) : Z (f + 1) 363 L st σ n k w = s_putf 14 9 0 366 L st σ n k w (zk1 cut G (Z f)) G R T := zrs hZ rfl f L st σ n k w
theorem f_X15_value_366 (hZ : ZRN (ztb (tb_X15_value E d mc ms)) cut G R T Z) (f : Nat) (L : ZLV) (st : List Value) (σ : ZHp) (n k w : Nat) : Z (f + 1) 366 L st σ n k w = s_aload 0 367 L st σ n k w (zk1 cut G (Z f)) G R T := zrs hZ rfl f L st σ n k w
theorem f_X15_value_367 (hZ : ZRN (ztb (tb_X15_value E d mc ms)) cut G R T Z) (f : Nat) (L : ZLV) (st : List Value) (σ : ZHp) (n k w : Nat) : Z (f + 1) 367 L st σ n k w = s_callV E d mc ms 14 MX15_sum 0 370 L st σ n k w (zk1 cut G (Z f)) G R T := zrs hZ rfl f L st σ n k w
theorem f_X15_value_370 (hZ : ZRN (ztb (tb_X15_value E d mc ms)) cut G R T Z) (f : Nat) (L : ZLV) (st : List Value) (σ : ZHp) (n k w : Nat) : Z (f + 1) 370 L st σ n k w = s_istore 2 371 L st σ n k w (zk1 cut G (Z f)) G R T := zrs hZ rfl f L st σ n k w
theorem f_X15_value_371 (hZ : ZRN (ztb (tb_X15_value E d mc ms)) cut G R T Z) (f : Nat) (L : ZLV) (st : List Value) (σ : ZHp) (n k w : Nat) : Z (f + 1) 371 L st σ n k w = s_aload 0 372 L st σ n k w (zk1 cut G (Z f)) G R T := zrs hZ rfl f L st σ n k w
theorem f_X15_value_372 (hZ : ZRN (ztb (tb_X15_value E d mc ms)) cut G R T Z) (f : Nat) (L : ZLV) (st : List Value) (σ : ZHp) (n k w : Nat) : Z (f + 1) 372 L st σ n k w = s_dup 373 L st σ n k w (zk1 cut G (Z f)) G R T := zrs hZ rfl f L st σ n k w
theorem f_X15_value_373 (hZ : ZRN (ztb (tb_X15_value E d mc ms)) cut G R T Z) (f : Nat) (L : ZLV) (st : List Value) (σ : ZHp) (n k w : Nat) : Z (f + 1) 373 L st σ n k w = s_getf 14 9 376 L st σ n k w (zk1 cut G (Z f)) G R T := zrs hZ rfl f L st σ n k w
theorem f_X15_value_376 (hZ : ZRN (ztb (tb_X15_value E d mc ms)) cut G R T Z) (f : Nat) (L : ZLV) (st : List Value) (σ : ZHp) (n k w : Nat) : Z (f + 1) 376 L st σ n k w = s_const (.int (1)) 377 L st σ n k w (zk1 cut G (Z f)) G R T := zrs hZ rfl f L st σ n k w
theorem f_X15_value_377 (hZ : ZRN (ztb (tb_X15_value E d mc ms)) cut G R T Z) (f : Nat) (L : ZLV) (st : List Value) (σ : ZHp) (n k w : Nat) : Z (f + 1) 377 L st σ n k w = s_iadd 378 L st σ n k w (zk1 cut G (Z f)) G R T := zrs hZ rfl f L st σ n k w
theorem f_X15_value_378 (hZ : ZRN (ztb (tb_X15_value E d mc ms)) cut G R T Z) (f : Nat) (L : ZLV) (st : List Value) (σ : ZHp) (n k w : Nat) : Z (f + 1) 378 L st σ n k w = s_putf 14 9 0 381 L st σ n k w (zk1 cut G (Z f)) G R T := zrs hZ rfl f L st σ n k w
theorem f_X15_value_381 (hZ : ZRN (ztb (tb_X15_value E d mc ms)) cut G R T Z) (f : Nat) (L : ZLV) (st : List Value) (σ : ZHp) (n k w : Nat) : Z (f + 1) 381 L st σ n k w = s_aload 0 382 L st σ n k w (zk1 cut G (Z f)) G R T := zrs hZ rfl f L st σ n k w
theorem f_X15_value_382 (hZ : ZRN (ztb (tb_X15_value E d mc ms)) cut G R T Z) (f : Nat) (L : ZLV) (st : List Value) (σ : ZHp) (n k w : Nat) : Z (f + 1) 382 L st σ n k w = s_callV E d mc ms 14 MX15_sum 0 385 L st σ n k w (zk1 cut G (Z f)) G R T := zrs hZ rfl f L st σ n k w
theorem f_X15_value_385 (hZ : ZRN (ztb (tb_X15_value E d mc ms)) cut G R T Z) (f : Nat) (L : ZLV) (st : List Value) (σ : ZHp) (n k w : Nat) : Z (f + 1) 385 L st σ n k w = s_istore 3 386 L st σ n k w (zk1 cut G (Z f)) G R T := zrs hZ rfl f L st σ n k w
theorem f_X15_value_386 (hZ : ZRN (ztb (tb_X15_value E d mc ms)) cut G R T Z) (f : Nat) (L : ZLV) (st : List Value) (σ : ZHp) (n k w : Nat) : Z (f + 1) 386 L st σ n k w = s_aload 0 387 L st σ n k w (zk1 cut G (Z f)) G R T := zrs hZ rfl f L st σ n k w
theorem f_X15_value_387 (hZ : ZRN (ztb (tb_X15_value E d mc ms)) cut G R T Z) (f : Nat) (L : ZLV) (st : List Value) (σ : ZHp) (n k w : Nat) : Z (f + 1) 387 L st σ n k w = s_dup 388 L st σ n k w (zk1 cut G (Z f)) G R T := zrs hZ rfl f L st σ n k w
theorem f_X15_value_388 (hZ : ZRN (ztb (tb_X15_value E d mc ms)) cut G R T Z) (f : Nat) (L : ZLV) (st : List Value) (σ : ZHp) (n k w : Nat) : Z (f + 1) 388 L st σ n k w = s_getf 14 9 391 L st σ n k w (zk1 cut G (Z f)) G R T := zrs hZ rfl f L st σ n k w
theorem f_X15_value_391 (hZ : ZRN (ztb (tb_X15_value E d mc ms)) cut G R T Z) (f : Nat) (L : ZLV) (st : List Value) (σ : ZHp) (n k w : Nat) : Z (f + 1) 391 L st σ n k w = s_const (.int (1)) 392 L st σ n k w (zk1 cut G (Z f)) G R T := zrs hZ rfl f L st σ n k w
theorem f_X15_value_392 (hZ : ZRN (ztb (tb_X15_value E d mc ms)) cut G R T Z) (f : Nat) (L : ZLV) (st : List Value) (σ : ZHp) (n k w : Nat) : Z (f + 1) 392 L st σ n k w = s_iadd 393 L st σ n k w (zk1 cut G (Z f)) G R T := zrs hZ rfl f L st σ n k w
theorem f_X15_value_393 (hZ : ZRN (ztb (tb_X15_value E d mc ms)) cut G R T Z) (f : Nat) (L : ZLV) (st : List Value) (σ : ZHp) (n k w : Nat) : Z (f + 1) 393 L st σ n k w = s_putf 14 9 0 396 L st σ n k w (zk1 cut G (Z f)) G R T := zrs hZ rfl f L st σ n k w
theorem f_X15_value_396 (hZ : ZRN (ztb (tb_X15_value E d mc ms)) cut G R T Z) (f : Nat) (L : ZLV) (st : List Value) (σ : ZHp) (n k w : Nat) : Z (f + 1) 396 L st σ n k w = s_iload 1 397 L st σ n k w (zk1 cut G (Z f)) G R T := zrs hZ rfl f L st σ n k w
theorem f_X15_value_397 (hZ : ZRN (ztb (tb_X15_value E d mc ms)) cut G R T Z) (f : Nat) (L : ZLV) (st : List Value) (σ : ZHp) (n k w : Nat) : Z (f + 1) 397 L st σ n k w = s_const (.int (24)) 399 L st σ n k w (zk1 cut G (Z f)) G R T := zrs hZ rfl f L st σ n k w
theorem f_X15_value_399 (hZ : ZRN (ztb (tb_X15_value E d mc ms)) cut G R T Z) (f : Nat) (L : ZLV) (st : List Value) (σ : ZHp) (n k w : Nat) : Z (f + 1) 399 L st σ n k w = s_icmp_ne 410 402 L st σ n k w (zk1 cut G (Z f)) G R T := zrs hZ rfl f L st σ n k w
theorem f_X15_value_402 (hZ : ZRN (ztb (tb_X15_value E d mc ms)) cut G R T Z) (f : Nat) (L : ZLV) (st : List Value) (σ : ZHp) (n k w : Nat) : Z (f + 1) 402 L st σ n k w = s_iload 2 403 L st σ n k w (zk1 cut G (Z f)) G R T := zrs hZ rfl f L st σ n k w
theorem f_X15_value_403 (hZ : ZRN (ztb (tb_X15_value E d mc ms)) cut G R T Z) (f : Nat) (L : ZLV) (st : List Value) (σ : ZHp) (n k w : Nat) : Z (f + 1) 403 L st σ n k w = s_iload 3 404 L st σ n k w (zk1 cut G (Z f)) G R T := zrs hZ rfl f L st σ n k w
theorem f_X15_value_404 (hZ : ZRN (ztb (tb_X15_value E d mc ms)) cut G R T Z) (f : Nat) (L : ZLV) (st : List Value) (σ : ZHp) (n k w : Nat) : Z (f + 1) 404 L st σ n k w = s_mmin d mc ms 407 L st σ n k w (zk1 cut G (Z f)) G R T := zrs hZ rfl f L st σ n k w
theorem f_X15_value_407 (hZ : ZRN (ztb (tb_X15_value E d mc ms)) cut G R T Z) (f : Nat) (L : ZLV) (st : List Value) (σ : ZHp) (n k w : Nat) : Z (f + 1) 407 L st σ n k w = s_goto 415 L st σ n k w (zk1 cut G (Z f)) G R T := zrs hZ rfl f L st σ n k w
theorem f_X15_value_410 (hZ : ZRN (ztb (tb_X15_value E d mc ms)) cut G R T Z) (f : Nat) (L : ZLV) (st : List Value) (σ : ZHp) (n k w : Nat) : Z (f + 1) 410 L st σ n k w = s_iload 2 411 L st σ n k w (zk1 cut G (Z f)) G R T := zrs hZ rfl f L st σ n k w
theorem f_X15_value_411 (hZ : ZRN (ztb (tb_X15_value E d mc ms)) cut G R T Z) (f : Nat) (L : ZLV) (st : List Value) (σ : ZHp) (n k w : Nat) : Z (f + 1) 411 L st σ n k w = s_iload 3 412 L st σ n k w (zk1 cut G (Z f)) G R T := zrs hZ rfl f L st σ n k w
theorem f_X15_value_412 (hZ : ZRN (ztb (tb_X15_value E d mc ms)) cut G R T Z) (f : Nat) (L : ZLV) (st : List Value) (σ : ZHp) (n k w : Nat) : Z (f + 1) 412 L st σ n k w = s_mmax d mc ms 415 L st σ n k w (zk1 cut G (Z f)) G R T := zrs hZ rfl f L st σ n k w
theorem f_X15_value_415 (hZ : ZRN (ztb (tb_X15_value E d mc ms)) cut G R T Z) (f : Nat) (L : ZLV) (st : List Value) (σ : ZHp) (n k w : Nat) : Z (f + 1) 415 L st σ n k w = s_ireturn L st σ n k w (zk1 cut G (Z f)) G R T := zrs hZ rfl f L st σ n k w
theorem f_X15_held_0 (hZ : ZRN (ztb (tb_X15_held E d mc ms)) cut G R T Z) (f : Nat) (L : ZLV) (st : List Value) (σ : ZHp) (n k w : Nat) : Z (f + 1) 0 L st σ n k w = s_const (.long 0) 1 L st σ n k w (zk1 cut G (Z f)) G R T := zrs hZ rfl f L st σ n k w
theorem f_X15_held_1 (hZ : ZRN (ztb (tb_X15_held E d mc ms)) cut G R T Z) (f : Nat) (L : ZLV) (st : List Value) (σ : ZHp) (n k w : Nat) : Z (f + 1) 1 L st σ n k w = s_iload 2 2 L st σ n k w (zk1 cut G (Z f)) G R T := zrs hZ rfl f L st σ n k w
theorem f_X15_held_2 (hZ : ZRN (ztb (tb_X15_held E d mc ms)) cut G R T Z) (f : Nat) (L : ZLV) (st : List Value) (σ : ZHp) (n k w : Nat) : Z (f + 1) 2 L st σ n k w = s_i2l 3 L st σ n k w (zk1 cut G (Z f)) G R T := zrs hZ rfl f L st σ n k w
theorem f_X15_held_3 (hZ : ZRN (ztb (tb_X15_held E d mc ms)) cut G R T Z) (f : Nat) (L : ZLV) (st : List Value) (σ : ZHp) (n k w : Nat) : Z (f + 1) 3 L st σ n k w = s_iload 0 4 L st σ n k w (zk1 cut G (Z f)) G R T := zrs hZ rfl f L st σ n k w
theorem f_X15_held_4 (hZ : ZRN (ztb (tb_X15_held E d mc ms)) cut G R T Z) (f : Nat) (L : ZLV) (st : List Value) (σ : ZHp) (n k w : Nat) : Z (f + 1) 4 L st σ n k w = s_i2l 5 L st σ n k w (zk1 cut G (Z f)) G R T := zrs hZ rfl f L st σ n k w
theorem f_X15_held_5 (hZ : ZRN (ztb (tb_X15_held E d mc ms)) cut G R T Z) (f : Nat) (L : ZLV) (st : List Value) (σ : ZHp) (n k w : Nat) : Z (f + 1) 5 L st σ n k w = s_iload 1 6 L st σ n k w (zk1 cut G (Z f)) G R T := zrs hZ rfl f L st σ n k w
theorem f_X15_held_6 (hZ : ZRN (ztb (tb_X15_held E d mc ms)) cut G R T Z) (f : Nat) (L : ZLV) (st : List Value) (σ : ZHp) (n k w : Nat) : Z (f + 1) 6 L st σ n k w = s_i2l 7 L st σ n k w (zk1 cut G (Z f)) G R T := zrs hZ rfl f L st σ n k w
theorem f_X15_held_7 (hZ : ZRN (ztb (tb_X15_held E d mc ms)) cut G R T Z) (f : Nat) (L : ZLV) (st : List Value) (σ : ZHp) (n k w : Nat) : Z (f + 1) 7 L st σ n k w = s_ladd 8 L st σ n k w (zk1 cut G (Z f)) G R T := zrs hZ rfl f L st σ n k w
theorem f_X15_held_8 (hZ : ZRN (ztb (tb_X15_held E d mc ms)) cut G R T Z) (f : Nat) (L : ZLV) (st : List Value) (σ : ZHp) (n k w : Nat) : Z (f + 1) 8 L st σ n k w = s_mminL d mc ms 11 L st σ n k w (zk1 cut G (Z f)) G R T := zrs hZ rfl f L st σ n k w
theorem f_X15_held_11 (hZ : ZRN (ztb (tb_X15_held E d mc ms)) cut G R T Z) (f : Nat) (L : ZLV) (st : List Value) (σ : ZHp) (n k w : Nat) : Z (f + 1) 11 L st σ n k w = s_mmaxL d mc ms 14 L st σ n k w (zk1 cut G (Z f)) G R T := zrs hZ rfl f L st σ n k w
theorem f_X15_held_14 (hZ : ZRN (ztb (tb_X15_held E d mc ms)) cut G R T Z) (f : Nat) (L : ZLV) (st : List Value) (σ : ZHp) (n k w : Nat) : Z (f + 1) 14 L st σ n k w = s_l2i 15 L st σ n k w (zk1 cut G (Z f)) G R T := zrs hZ rfl f L st σ n k w
theorem f_X15_held_15 (hZ : ZRN (ztb (tb_X15_held E d mc ms)) cut G R T Z) (f : Nat) (L : ZLV) (st : List Value) (σ : ZHp) (n k w : Nat) : Z (f + 1) 15 L st σ n k w = s_ireturn L st σ n k w (zk1 cut G (Z f)) G R T := zrs hZ rfl f L st σ n k w
theorem f_X15_drawOne_0 (hZ : ZRN (ztb (tb_X15_drawOne E d mc ms)) cut G R T Z) (f : Nat) (L : ZLV) (st : List Value) (σ : ZHp) (n k w : Nat) : Z (f + 1) 0 L st σ n k w = s_aload 0 1 L st σ n k w (zk1 cut G (Z f)) G R T := zrs hZ rfl f L st σ n k w
theorem f_X15_drawOne_1 (hZ : ZRN (ztb (tb_X15_drawOne E d mc ms)) cut G R T Z) (f : Nat) (L : ZLV) (st : List Value) (σ : ZHp) (n k w : Nat) : Z (f + 1) 1 L st σ n k w = s_getf 14 10 4 L st σ n k w (zk1 cut G (Z f)) G R T := zrs hZ rfl f L st σ n k w
theorem f_X15_drawOne_4 (hZ : ZRN (ztb (tb_X15_drawOne E d mc ms)) cut G R T Z) (f : Nat) (L : ZLV) (st : List Value) (σ : ZHp) (n k w : Nat) : Z (f + 1) 4 L st σ n k w = s_aload 0 5 L st σ n k w (zk1 cut G (Z f)) G R T := zrs hZ rfl f L st σ n k w
theorem f_X15_drawOne_5 (hZ : ZRN (ztb (tb_X15_drawOne E d mc ms)) cut G R T Z) (f : Nat) (L : ZLV) (st : List Value) (σ : ZHp) (n k w : Nat) : Z (f + 1) 5 L st σ n k w = s_getf 14 11 8 L st σ n k w (zk1 cut G (Z f)) G R T := zrs hZ rfl f L st σ n k w
theorem f_X15_drawOne_8 (hZ : ZRN (ztb (tb_X15_drawOne E d mc ms)) cut G R T Z) (f : Nat) (L : ZLV) (st : List Value) (σ : ZHp) (n k w : Nat) : Z (f + 1) 8 L st σ n k w = s_callV E d mc ms 13 MX14_draw 1 11 L st σ n k w (zk1 cut G (Z f)) G R T := zrs hZ rfl f L st σ n k w
theorem f_X15_drawOne_11 (hZ : ZRN (ztb (tb_X15_drawOne E d mc ms)) cut G R T Z) (f : Nat) (L : ZLV) (st : List Value) (σ : ZHp) (n k w : Nat) : Z (f + 1) 11 L st σ n k w = s_istore 1 12 L st σ n k w (zk1 cut G (Z f)) G R T := zrs hZ rfl f L st σ n k w
theorem f_X15_drawOne_12 (hZ : ZRN (ztb (tb_X15_drawOne E d mc ms)) cut G R T Z) (f : Nat) (L : ZLV) (st : List Value) (σ : ZHp) (n k w : Nat) : Z (f + 1) 12 L st σ n k w = s_iload 1 13 L st σ n k w (zk1 cut G (Z f)) G R T := zrs hZ rfl f L st σ n k w
theorem f_X15_drawOne_13 (hZ : ZRN (ztb (tb_X15_drawOne E d mc ms)) cut G R T Z) (f : Nat) (L : ZLV) (st : List Value) (σ : ZHp) (n k w : Nat) : Z (f + 1) 13 L st σ n k w = s_const (.int (-1)) 14 L st σ n k w (zk1 cut G (Z f)) G R T := zrs hZ rfl f L st σ n k w
theorem f_X15_drawOne_14 (hZ : ZRN (ztb (tb_X15_drawOne E d mc ms)) cut G R T Z) (f : Nat) (L : ZLV) (st : List Value) (σ : ZHp) (n k w : Nat) : Z (f + 1) 14 L st σ n k w = s_icmp_ne 18 17 L st σ n k w (zk1 cut G (Z f)) G R T := zrs hZ rfl f L st σ n k w
theorem f_X15_drawOne_17 (hZ : ZRN (ztb (tb_X15_drawOne E d mc ms)) cut G R T Z) (f : Nat) (L : ZLV) (st : List Value) (σ : ZHp) (n k w : Nat) : Z (f + 1) 17 L st σ n k w = s_return L st σ n k w (zk1 cut G (Z f)) G R T := zrs hZ rfl f L st σ n k w
theorem f_X15_drawOne_18 (hZ : ZRN (ztb (tb_X15_drawOne E d mc ms)) cut G R T Z) (f : Nat) (L : ZLV) (st : List Value) (σ : ZHp) (n k w : Nat) : Z (f + 1) 18 L st σ n k w = s_aload 0 19 L st σ n k w (zk1 cut G (Z f)) G R T := zrs hZ rfl f L st σ n k w
theorem f_X15_drawOne_19 (hZ : ZRN (ztb (tb_X15_drawOne E d mc ms)) cut G R T Z) (f : Nat) (L : ZLV) (st : List Value) (σ : ZHp) (n k w : Nat) : Z (f + 1) 19 L st σ n k w = s_getf 14 12 22 L st σ n k w (zk1 cut G (Z f)) G R T := zrs hZ rfl f L st σ n k w
theorem f_X15_drawOne_22 (hZ : ZRN (ztb (tb_X15_drawOne E d mc ms)) cut G R T Z) (f : Nat) (L : ZLV) (st : List Value) (σ : ZHp) (n k w : Nat) : Z (f + 1) 22 L st σ n k w = s_aload 0 23 L st σ n k w (zk1 cut G (Z f)) G R T := zrs hZ rfl f L st σ n k w
theorem f_X15_drawOne_23 (hZ : ZRN (ztb (tb_X15_drawOne E d mc ms)) cut G R T Z) (f : Nat) (L : ZLV) (st : List Value) (σ : ZHp) (n k w : Nat) : Z (f + 1) 23 L st σ n k w = s_getf 14 13 26 L st σ n k w (zk1 cut G (Z f)) G R T := zrs hZ rfl f L st σ n k w
theorem f_X15_drawOne_26 (hZ : ZRN (ztb (tb_X15_drawOne E d mc ms)) cut G R T Z) (f : Nat) (L : ZLV) (st : List Value) (σ : ZHp) (n k w : Nat) : Z (f + 1) 26 L st σ n k w = s_iload 1 27 L st σ n k w (zk1 cut G (Z f)) G R T := zrs hZ rfl f L st σ n k w
theorem f_X15_drawOne_27 (hZ : ZRN (ztb (tb_X15_drawOne E d mc ms)) cut G R T Z) (f : Nat) (L : ZLV) (st : List Value) (σ : ZHp) (n k w : Nat) : Z (f + 1) 27 L st σ n k w = s_iastore E 28 L st σ n k w (zk1 cut G (Z f)) G R T := zrs hZ rfl f L st σ n k w
theorem f_X15_drawOne_28 (hZ : ZRN (ztb (tb_X15_drawOne E d mc ms)) cut G R T Z) (f : Nat) (L : ZLV) (st : List Value) (σ : ZHp) (n k w : Nat) : Z (f + 1) 28 L st σ n k w = s_aload 0 29 L st σ n k w (zk1 cut G (Z f)) G R T := zrs hZ rfl f L st σ n k w
theorem f_X15_drawOne_29 (hZ : ZRN (ztb (tb_X15_drawOne E d mc ms)) cut G R T Z) (f : Nat) (L : ZLV) (st : List Value) (σ : ZHp) (n k w : Nat) : Z (f + 1) 29 L st σ n k w = s_dup 30 L st σ n k w (zk1 cut G (Z f)) G R T := zrs hZ rfl f L st σ n k w
theorem f_X15_drawOne_30 (hZ : ZRN (ztb (tb_X15_drawOne E d mc ms)) cut G R T Z) (f : Nat) (L : ZLV) (st : List Value) (σ : ZHp) (n k w : Nat) : Z (f + 1) 30 L st σ n k w = s_getf 14 13 33 L st σ n k w (zk1 cut G (Z f)) G R T := zrs hZ rfl f L st σ n k w
theorem f_X15_drawOne_33 (hZ : ZRN (ztb (tb_X15_drawOne E d mc ms)) cut G R T Z) (f : Nat) (L : ZLV) (st : List Value) (σ : ZHp) (n k w : Nat) : Z (f + 1) 33 L st σ n k w = s_const (.int (1)) 34 L st σ n k w (zk1 cut G (Z f)) G R T := zrs hZ rfl f L st σ n k w
theorem f_X15_drawOne_34 (hZ : ZRN (ztb (tb_X15_drawOne E d mc ms)) cut G R T Z) (f : Nat) (L : ZLV) (st : List Value) (σ : ZHp) (n k w : Nat) : Z (f + 1) 34 L st σ n k w = s_iadd 35 L st σ n k w (zk1 cut G (Z f)) G R T := zrs hZ rfl f L st σ n k w
theorem f_X15_drawOne_35 (hZ : ZRN (ztb (tb_X15_drawOne E d mc ms)) cut G R T Z) (f : Nat) (L : ZLV) (st : List Value) (σ : ZHp) (n k w : Nat) : Z (f + 1) 35 L st σ n k w = s_putf 14 13 0 38 L st σ n k w (zk1 cut G (Z f)) G R T := zrs hZ rfl f L st σ n k w
theorem f_X15_drawOne_38 (hZ : ZRN (ztb (tb_X15_drawOne E d mc ms)) cut G R T Z) (f : Nat) (L : ZLV) (st : List Value) (σ : ZHp) (n k w : Nat) : Z (f + 1) 38 L st σ n k w = s_return L st σ n k w (zk1 cut G (Z f)) G R T := zrs hZ rfl f L st σ n k w
theorem f_X15_trashFromHand_0 (hZ : ZRN (ztb (tb_X15_trashFromHand E d mc ms)) cut G R T Z) (f : Nat) (L : ZLV) (st : List Value) (σ : ZHp) (n k w : Nat) : Z (f + 1) 0 L st σ n k w = s_aload 0 1 L st σ n k w (zk1 cut G (Z f)) G R T := zrs hZ rfl f L st σ n k w
theorem f_X15_trashFromHand_1 (hZ : ZRN (ztb (tb_X15_trashFromHand E d mc ms)) cut G R T Z) (f : Nat) (L : ZLV) (st : List Value) (σ : ZHp) (n k w : Nat) : Z (f + 1) 1 L st σ n k w = s_getf 14 14 4 L st σ n k w (zk1 cut G (Z f)) G R T := zrs hZ rfl f L st σ n k w
theorem f_X15_trashFromHand_4 (hZ : ZRN (ztb (tb_X15_trashFromHand E d mc ms)) cut G R T Z) (f : Nat) (L : ZLV) (st : List Value) (σ : ZHp) (n k w : Nat) : Z (f + 1) 4 L st σ n k w = s_const (.int (1)) 5 L st σ n k w (zk1 cut G (Z f)) G R T := zrs hZ rfl f L st σ n k w
theorem f_X15_trashFromHand_5 (hZ : ZRN (ztb (tb_X15_trashFromHand E d mc ms)) cut G R T Z) (f : Nat) (L : ZLV) (st : List Value) (σ : ZHp) (n k w : Nat) : Z (f + 1) 5 L st σ n k w = s_iadd 6 L st σ n k w (zk1 cut G (Z f)) G R T := zrs hZ rfl f L st σ n k w
theorem f_X15_trashFromHand_6 (hZ : ZRN (ztb (tb_X15_trashFromHand E d mc ms)) cut G R T Z) (f : Nat) (L : ZLV) (st : List Value) (σ : ZHp) (n k w : Nat) : Z (f + 1) 6 L st σ n k w = s_istore 2 7 L st σ n k w (zk1 cut G (Z f)) G R T := zrs hZ rfl f L st σ n k w
theorem f_X15_trashFromHand_7 (hZ : ZRN (ztb (tb_X15_trashFromHand E d mc ms)) cut G R T Z) (f : Nat) (L : ZLV) (st : List Value) (σ : ZHp) (n k w : Nat) : Z (f + 1) 7 L st σ n k w = s_iload 2 8 L st σ n k w (zk1 cut G (Z f)) G R T := zrs hZ rfl f L st σ n k w
theorem f_X15_trashFromHand_8 (hZ : ZRN (ztb (tb_X15_trashFromHand E d mc ms)) cut G R T Z) (f : Nat) (L : ZLV) (st : List Value) (σ : ZHp) (n k w : Nat) : Z (f + 1) 8 L st σ n k w = s_aload 0 9 L st σ n k w (zk1 cut G (Z f)) G R T := zrs hZ rfl f L st σ n k w
theorem f_X15_trashFromHand_9 (hZ : ZRN (ztb (tb_X15_trashFromHand E d mc ms)) cut G R T Z) (f : Nat) (L : ZLV) (st : List Value) (σ : ZHp) (n k w : Nat) : Z (f + 1) 9 L st σ n k w = s_getf 14 13 12 L st σ n k w (zk1 cut G (Z f)) G R T := zrs hZ rfl f L st σ n k w
theorem f_X15_trashFromHand_12 (hZ : ZRN (ztb (tb_X15_trashFromHand E d mc ms)) cut G R T Z) (f : Nat) (L : ZLV) (st : List Value) (σ : ZHp) (n k w : Nat) : Z (f + 1) 12 L st σ n k w = s_icmp_ge 105 15 L st σ n k w (zk1 cut G (Z f)) G R T := zrs hZ rfl f L st σ n k w
theorem f_X15_trashFromHand_15 (hZ : ZRN (ztb (tb_X15_trashFromHand E d mc ms)) cut G R T Z) (f : Nat) (L : ZLV) (st : List Value) (σ : ZHp) (n k w : Nat) : Z (f + 1) 15 L st σ n k w = s_aload 0 16 L st σ n k w (zk1 cut G (Z f)) G R T := zrs hZ rfl f L st σ n k w
theorem f_X15_trashFromHand_16 (hZ : ZRN (ztb (tb_X15_trashFromHand E d mc ms)) cut G R T Z) (f : Nat) (L : ZLV) (st : List Value) (σ : ZHp) (n k w : Nat) : Z (f + 1) 16 L st σ n k w = s_getf 14 12 19 L st σ n k w (zk1 cut G (Z f)) G R T := zrs hZ rfl f L st σ n k w
theorem f_X15_trashFromHand_19 (hZ : ZRN (ztb (tb_X15_trashFromHand E d mc ms)) cut G R T Z) (f : Nat) (L : ZLV) (st : List Value) (σ : ZHp) (n k w : Nat) : Z (f + 1) 19 L st σ n k w = s_iload 2 20 L st σ n k w (zk1 cut G (Z f)) G R T := zrs hZ rfl f L st σ n k w
theorem f_X15_trashFromHand_20 (hZ : ZRN (ztb (tb_X15_trashFromHand E d mc ms)) cut G R T Z) (f : Nat) (L : ZLV) (st : List Value) (σ : ZHp) (n k w : Nat) : Z (f + 1) 20 L st σ n k w = s_iaload E 21 L st σ n k w (zk1 cut G (Z f)) G R T := zrs hZ rfl f L st σ n k w
theorem f_X15_trashFromHand_21 (hZ : ZRN (ztb (tb_X15_trashFromHand E d mc ms)) cut G R T Z) (f : Nat) (L : ZLV) (st : List Value) (σ : ZHp) (n k w : Nat) : Z (f + 1) 21 L st σ n k w = s_iload 1 22 L st σ n k w (zk1 cut G (Z f)) G R T := zrs hZ rfl f L st σ n k w
theorem f_X15_trashFromHand_22 (hZ : ZRN (ztb (tb_X15_trashFromHand E d mc ms)) cut G R T Z) (f : Nat) (L : ZLV) (st : List Value) (σ : ZHp) (n k w : Nat) : Z (f + 1) 22 L st σ n k w = s_icmp_eq 28 25 L st σ n k w (zk1 cut G (Z f)) G R T := zrs hZ rfl f L st σ n k w
theorem f_X15_trashFromHand_25 (hZ : ZRN (ztb (tb_X15_trashFromHand E d mc ms)) cut G R T Z) (f : Nat) (L : ZLV) (st : List Value) (σ : ZHp) (n k w : Nat) : Z (f + 1) 25 L st σ n k w = s_goto 99 L st σ n k w (zk1 cut G (Z f)) G R T := zrs hZ rfl f L st σ n k w
theorem f_X15_trashFromHand_28 (hZ : ZRN (ztb (tb_X15_trashFromHand E d mc ms)) cut G R T Z) (f : Nat) (L : ZLV) (st : List Value) (σ : ZHp) (n k w : Nat) : Z (f + 1) 28 L st σ n k w = s_aload 0 29 L st σ n k w (zk1 cut G (Z f)) G R T := zrs hZ rfl f L st σ n k w
theorem f_X15_trashFromHand_29 (hZ : ZRN (ztb (tb_X15_trashFromHand E d mc ms)) cut G R T Z) (f : Nat) (L : ZLV) (st : List Value) (σ : ZHp) (n k w : Nat) : Z (f + 1) 29 L st σ n k w = s_dup 30 L st σ n k w (zk1 cut G (Z f)) G R T := zrs hZ rfl f L st σ n k w
theorem f_X15_trashFromHand_30 (hZ : ZRN (ztb (tb_X15_trashFromHand E d mc ms)) cut G R T Z) (f : Nat) (L : ZLV) (st : List Value) (σ : ZHp) (n k w : Nat) : Z (f + 1) 30 L st σ n k w = s_getf 14 13 33 L st σ n k w (zk1 cut G (Z f)) G R T := zrs hZ rfl f L st σ n k w
theorem f_X15_trashFromHand_33 (hZ : ZRN (ztb (tb_X15_trashFromHand E d mc ms)) cut G R T Z) (f : Nat) (L : ZLV) (st : List Value) (σ : ZHp) (n k w : Nat) : Z (f + 1) 33 L st σ n k w = s_const (.int (1)) 34 L st σ n k w (zk1 cut G (Z f)) G R T := zrs hZ rfl f L st σ n k w
theorem f_X15_trashFromHand_34 (hZ : ZRN (ztb (tb_X15_trashFromHand E d mc ms)) cut G R T Z) (f : Nat) (L : ZLV) (st : List Value) (σ : ZHp) (n k w : Nat) : Z (f + 1) 34 L st σ n k w = s_isub 35 L st σ n k w (zk1 cut G (Z f)) G R T := zrs hZ rfl f L st σ n k w
theorem f_X15_trashFromHand_35 (hZ : ZRN (ztb (tb_X15_trashFromHand E d mc ms)) cut G R T Z) (f : Nat) (L : ZLV) (st : List Value) (σ : ZHp) (n k w : Nat) : Z (f + 1) 35 L st σ n k w = s_putf 14 13 0 38 L st σ n k w (zk1 cut G (Z f)) G R T := zrs hZ rfl f L st σ n k w
theorem f_X15_trashFromHand_38 (hZ : ZRN (ztb (tb_X15_trashFromHand E d mc ms)) cut G R T Z) (f : Nat) (L : ZLV) (st : List Value) (σ : ZHp) (n k w : Nat) : Z (f + 1) 38 L st σ n k w = s_aload 0 39 L st σ n k w (zk1 cut G (Z f)) G R T := zrs hZ rfl f L st σ n k w
theorem f_X15_trashFromHand_39 (hZ : ZRN (ztb (tb_X15_trashFromHand E d mc ms)) cut G R T Z) (f : Nat) (L : ZLV) (st : List Value) (σ : ZHp) (n k w : Nat) : Z (f + 1) 39 L st σ n k w = s_getf 14 12 42 L st σ n k w (zk1 cut G (Z f)) G R T := zrs hZ rfl f L st σ n k w
theorem f_X15_trashFromHand_42 (hZ : ZRN (ztb (tb_X15_trashFromHand E d mc ms)) cut G R T Z) (f : Nat) (L : ZLV) (st : List Value) (σ : ZHp) (n k w : Nat) : Z (f + 1) 42 L st σ n k w = s_iload 2 43 L st σ n k w (zk1 cut G (Z f)) G R T := zrs hZ rfl f L st σ n k w
theorem f_X15_trashFromHand_43 (hZ : ZRN (ztb (tb_X15_trashFromHand E d mc ms)) cut G R T Z) (f : Nat) (L : ZLV) (st : List Value) (σ : ZHp) (n k w : Nat) : Z (f + 1) 43 L st σ n k w = s_const (.int (1)) 44 L st σ n k w (zk1 cut G (Z f)) G R T := zrs hZ rfl f L st σ n k w
theorem f_X15_trashFromHand_44 (hZ : ZRN (ztb (tb_X15_trashFromHand E d mc ms)) cut G R T Z) (f : Nat) (L : ZLV) (st : List Value) (σ : ZHp) (n k w : Nat) : Z (f + 1) 44 L st σ n k w = s_iadd 45 L st σ n k w (zk1 cut G (Z f)) G R T := zrs hZ rfl f L st σ n k w
theorem f_X15_trashFromHand_45 (hZ : ZRN (ztb (tb_X15_trashFromHand E d mc ms)) cut G R T Z) (f : Nat) (L : ZLV) (st : List Value) (σ : ZHp) (n k w : Nat) : Z (f + 1) 45 L st σ n k w = s_aload 0 46 L st σ n k w (zk1 cut G (Z f)) G R T := zrs hZ rfl f L st σ n k w
theorem f_X15_trashFromHand_46 (hZ : ZRN (ztb (tb_X15_trashFromHand E d mc ms)) cut G R T Z) (f : Nat) (L : ZLV) (st : List Value) (σ : ZHp) (n k w : Nat) : Z (f + 1) 46 L st σ n k w = s_getf 14 12 49 L st σ n k w (zk1 cut G (Z f)) G R T := zrs hZ rfl f L st σ n k w
theorem f_X15_trashFromHand_49 (hZ : ZRN (ztb (tb_X15_trashFromHand E d mc ms)) cut G R T Z) (f : Nat) (L : ZLV) (st : List Value) (σ : ZHp) (n k w : Nat) : Z (f + 1) 49 L st σ n k w = s_iload 2 50 L st σ n k w (zk1 cut G (Z f)) G R T := zrs hZ rfl f L st σ n k w
theorem f_X15_trashFromHand_50 (hZ : ZRN (ztb (tb_X15_trashFromHand E d mc ms)) cut G R T Z) (f : Nat) (L : ZLV) (st : List Value) (σ : ZHp) (n k w : Nat) : Z (f + 1) 50 L st σ n k w = s_aload 0 51 L st σ n k w (zk1 cut G (Z f)) G R T := zrs hZ rfl f L st σ n k w
theorem f_X15_trashFromHand_51 (hZ : ZRN (ztb (tb_X15_trashFromHand E d mc ms)) cut G R T Z) (f : Nat) (L : ZLV) (st : List Value) (σ : ZHp) (n k w : Nat) : Z (f + 1) 51 L st σ n k w = s_getf 14 13 54 L st σ n k w (zk1 cut G (Z f)) G R T := zrs hZ rfl f L st σ n k w
theorem f_X15_trashFromHand_54 (hZ : ZRN (ztb (tb_X15_trashFromHand E d mc ms)) cut G R T Z) (f : Nat) (L : ZLV) (st : List Value) (σ : ZHp) (n k w : Nat) : Z (f + 1) 54 L st σ n k w = s_iload 2 55 L st σ n k w (zk1 cut G (Z f)) G R T := zrs hZ rfl f L st σ n k w
theorem f_X15_trashFromHand_55 (hZ : ZRN (ztb (tb_X15_trashFromHand E d mc ms)) cut G R T Z) (f : Nat) (L : ZLV) (st : List Value) (σ : ZHp) (n k w : Nat) : Z (f + 1) 55 L st σ n k w = s_isub 56 L st σ n k w (zk1 cut G (Z f)) G R T := zrs hZ rfl f L st σ n k w
theorem f_X15_trashFromHand_56 (hZ : ZRN (ztb (tb_X15_trashFromHand E d mc ms)) cut G R T Z) (f : Nat) (L : ZLV) (st : List Value) (σ : ZHp) (n k w : Nat) : Z (f + 1) 56 L st σ n k w = s_acopy E d 59 L st σ n k w (zk1 cut G (Z f)) G R T := zrs hZ rfl f L st σ n k w
theorem f_X15_trashFromHand_59 (hZ : ZRN (ztb (tb_X15_trashFromHand E d mc ms)) cut G R T Z) (f : Nat) (L : ZLV) (st : List Value) (σ : ZHp) (n k w : Nat) : Z (f + 1) 59 L st σ n k w = s_aload 0 60 L st σ n k w (zk1 cut G (Z f)) G R T := zrs hZ rfl f L st σ n k w
theorem f_X15_trashFromHand_60 (hZ : ZRN (ztb (tb_X15_trashFromHand E d mc ms)) cut G R T Z) (f : Nat) (L : ZLV) (st : List Value) (σ : ZHp) (n k w : Nat) : Z (f + 1) 60 L st σ n k w = s_getf 14 10 63 L st σ n k w (zk1 cut G (Z f)) G R T := zrs hZ rfl f L st σ n k w
theorem f_X15_trashFromHand_63 (hZ : ZRN (ztb (tb_X15_trashFromHand E d mc ms)) cut G R T Z) (f : Nat) (L : ZLV) (st : List Value) (σ : ZHp) (n k w : Nat) : Z (f + 1) 63 L st σ n k w = s_getf 13 11 66 L st σ n k w (zk1 cut G (Z f)) G R T := zrs hZ rfl f L st σ n k w
theorem f_X15_trashFromHand_66 (hZ : ZRN (ztb (tb_X15_trashFromHand E d mc ms)) cut G R T Z) (f : Nat) (L : ZLV) (st : List Value) (σ : ZHp) (n k w : Nat) : Z (f + 1) 66 L st σ n k w = s_aload 0 67 L st σ n k w (zk1 cut G (Z f)) G R T := zrs hZ rfl f L st σ n k w
theorem f_X15_trashFromHand_67 (hZ : ZRN (ztb (tb_X15_trashFromHand E d mc ms)) cut G R T Z) (f : Nat) (L : ZLV) (st : List Value) (σ : ZHp) (n k w : Nat) : Z (f + 1) 67 L st σ n k w = s_getf 14 11 70 L st σ n k w (zk1 cut G (Z f)) G R T := zrs hZ rfl f L st σ n k w
theorem f_X15_trashFromHand_70 (hZ : ZRN (ztb (tb_X15_trashFromHand E d mc ms)) cut G R T Z) (f : Nat) (L : ZLV) (st : List Value) (σ : ZHp) (n k w : Nat) : Z (f + 1) 70 L st σ n k w = s_dup2 71 L st σ n k w (zk1 cut G (Z f)) G R T := zrs hZ rfl f L st σ n k w
theorem f_X15_trashFromHand_71 (hZ : ZRN (ztb (tb_X15_trashFromHand E d mc ms)) cut G R T Z) (f : Nat) (L : ZLV) (st : List Value) (σ : ZHp) (n k w : Nat) : Z (f + 1) 71 L st σ n k w = s_iaload E 72 L st σ n k w (zk1 cut G (Z f)) G R T := zrs hZ rfl f L st σ n k w
theorem f_X15_trashFromHand_72 (hZ : ZRN (ztb (tb_X15_trashFromHand E d mc ms)) cut G R T Z) (f : Nat) (L : ZLV) (st : List Value) (σ : ZHp) (n k w : Nat) : Z (f + 1) 72 L st σ n k w = s_const (.int (1)) 73 L st σ n k w (zk1 cut G (Z f)) G R T := zrs hZ rfl f L st σ n k w
theorem f_X15_trashFromHand_73 (hZ : ZRN (ztb (tb_X15_trashFromHand E d mc ms)) cut G R T Z) (f : Nat) (L : ZLV) (st : List Value) (σ : ZHp) (n k w : Nat) : Z (f + 1) 73 L st σ n k w = s_iadd 74 L st σ n k w (zk1 cut G (Z f)) G R T := zrs hZ rfl f L st σ n k w
theorem f_X15_trashFromHand_74 (hZ : ZRN (ztb (tb_X15_trashFromHand E d mc ms)) cut G R T Z) (f : Nat) (L : ZLV) (st : List Value) (σ : ZHp) (n k w : Nat) : Z (f + 1) 74 L st σ n k w = s_iastore E 75 L st σ n k w (zk1 cut G (Z f)) G R T := zrs hZ rfl f L st σ n k w
theorem f_X15_trashFromHand_75 (hZ : ZRN (ztb (tb_X15_trashFromHand E d mc ms)) cut G R T Z) (f : Nat) (L : ZLV) (st : List Value) (σ : ZHp) (n k w : Nat) : Z (f + 1) 75 L st σ n k w = s_aload 0 76 L st σ n k w (zk1 cut G (Z f)) G R T := zrs hZ rfl f L st σ n k w
theorem f_X15_trashFromHand_76 (hZ : ZRN (ztb (tb_X15_trashFromHand E d mc ms)) cut G R T Z) (f : Nat) (L : ZLV) (st : List Value) (σ : ZHp) (n k w : Nat) : Z (f + 1) 76 L st σ n k w = s_getf 14 10 79 L st σ n k w (zk1 cut G (Z f)) G R T := zrs hZ rfl f L st σ n k w
theorem f_X15_trashFromHand_79 (hZ : ZRN (ztb (tb_X15_trashFromHand E d mc ms)) cut G R T Z) (f : Nat) (L : ZLV) (st : List Value) (σ : ZHp) (n k w : Nat) : Z (f + 1) 79 L st σ n k w = s_dup 80 L st σ n k w (zk1 cut G (Z f)) G R T := zrs hZ rfl f L st σ n k w
theorem f_X15_trashFromHand_80 (hZ : ZRN (ztb (tb_X15_trashFromHand E d mc ms)) cut G R T Z) (f : Nat) (L : ZLV) (st : List Value) (σ : ZHp) (n k w : Nat) : Z (f + 1) 80 L st σ n k w = s_getf 13 1 83 L st σ n k w (zk1 cut G (Z f)) G R T := zrs hZ rfl f L st σ n k w
theorem f_X15_trashFromHand_83 (hZ : ZRN (ztb (tb_X15_trashFromHand E d mc ms)) cut G R T Z) (f : Nat) (L : ZLV) (st : List Value) (σ : ZHp) (n k w : Nat) : Z (f + 1) 83 L st σ n k w = s_const (.int (1)) 84 L st σ n k w (zk1 cut G (Z f)) G R T := zrs hZ rfl f L st σ n k w
theorem f_X15_trashFromHand_84 (hZ : ZRN (ztb (tb_X15_trashFromHand E d mc ms)) cut G R T Z) (f : Nat) (L : ZLV) (st : List Value) (σ : ZHp) (n k w : Nat) : Z (f + 1) 84 L st σ n k w = s_iadd 85 L st σ n k w (zk1 cut G (Z f)) G R T := zrs hZ rfl f L st σ n k w
theorem f_X15_trashFromHand_85 (hZ : ZRN (ztb (tb_X15_trashFromHand E d mc ms)) cut G R T Z) (f : Nat) (L : ZLV) (st : List Value) (σ : ZHp) (n k w : Nat) : Z (f + 1) 85 L st σ n k w = s_putf 13 1 0 88 L st σ n k w (zk1 cut G (Z f)) G R T := zrs hZ rfl f L st σ n k w
theorem f_X15_trashFromHand_88 (hZ : ZRN (ztb (tb_X15_trashFromHand E d mc ms)) cut G R T Z) (f : Nat) (L : ZLV) (st : List Value) (σ : ZHp) (n k w : Nat) : Z (f + 1) 88 L st σ n k w = s_aload 0 89 L st σ n k w (zk1 cut G (Z f)) G R T := zrs hZ rfl f L st σ n k w
theorem f_X15_trashFromHand_89 (hZ : ZRN (ztb (tb_X15_trashFromHand E d mc ms)) cut G R T Z) (f : Nat) (L : ZLV) (st : List Value) (σ : ZHp) (n k w : Nat) : Z (f + 1) 89 L st σ n k w = s_dup 90 L st σ n k w (zk1 cut G (Z f)) G R T := zrs hZ rfl f L st σ n k w
theorem f_X15_trashFromHand_90 (hZ : ZRN (ztb (tb_X15_trashFromHand E d mc ms)) cut G R T Z) (f : Nat) (L : ZLV) (st : List Value) (σ : ZHp) (n k w : Nat) : Z (f + 1) 90 L st σ n k w = s_getf 14 20 93 L st σ n k w (zk1 cut G (Z f)) G R T := zrs hZ rfl f L st σ n k w
theorem f_X15_trashFromHand_93 (hZ : ZRN (ztb (tb_X15_trashFromHand E d mc ms)) cut G R T Z) (f : Nat) (L : ZLV) (st : List Value) (σ : ZHp) (n k w : Nat) : Z (f + 1) 93 L st σ n k w = s_const (.int (1)) 94 L st σ n k w (zk1 cut G (Z f)) G R T := zrs hZ rfl f L st σ n k w
theorem f_X15_trashFromHand_94 (hZ : ZRN (ztb (tb_X15_trashFromHand E d mc ms)) cut G R T Z) (f : Nat) (L : ZLV) (st : List Value) (σ : ZHp) (n k w : Nat) : Z (f + 1) 94 L st σ n k w = s_iadd 95 L st σ n k w (zk1 cut G (Z f)) G R T := zrs hZ rfl f L st σ n k w
theorem f_X15_trashFromHand_95 (hZ : ZRN (ztb (tb_X15_trashFromHand E d mc ms)) cut G R T Z) (f : Nat) (L : ZLV) (st : List Value) (σ : ZHp) (n k w : Nat) : Z (f + 1) 95 L st σ n k w = s_putf 14 20 0 98 L st σ n k w (zk1 cut G (Z f)) G R T := zrs hZ rfl f L st σ n k w
theorem f_X15_trashFromHand_98 (hZ : ZRN (ztb (tb_X15_trashFromHand E d mc ms)) cut G R T Z) (f : Nat) (L : ZLV) (st : List Value) (σ : ZHp) (n k w : Nat) : Z (f + 1) 98 L st σ n k w = s_return L st σ n k w (zk1 cut G (Z f)) G R T := zrs hZ rfl f L st σ n k w
theorem f_X15_trashFromHand_99 (hZ : ZRN (ztb (tb_X15_trashFromHand E d mc ms)) cut G R T Z) (f : Nat) (L : ZLV) (st : List Value) (σ : ZHp) (n k w : Nat) : Z (f + 1) 99 L st σ n k w = s_iinc 2 (1) 102 L st σ n k w (zk1 cut G (Z f)) G R T := zrs hZ rfl f L st σ n k w
theorem f_X15_trashFromHand_102 (hZ : ZRN (ztb (tb_X15_trashFromHand E d mc ms)) cut G R T Z) (f : Nat) (L : ZLV) (st : List Value) (σ : ZHp) (n k w : Nat) : Z (f + 1) 102 L st σ n k w = s_goto 7 L st σ n k w (zk1 cut G (Z f)) G R T := zrs hZ rfl f L st σ n k w
theorem f_X15_trashFromHand_105 (hZ : ZRN (ztb (tb_X15_trashFromHand E d mc ms)) cut G R T Z) (f : Nat) (L : ZLV) (st : List Value) (σ : ZHp) (n k w : Nat) : Z (f + 1) 105 L st σ n k w = s_return L st σ n k w (zk1 cut G (Z f)) G R T := zrs hZ rfl f L st σ n k w
theorem f_X15_sumAt_0 (hZ : ZRN (ztb (tb_X15_sumAt E d mc ms)) cut G R T Z) (f : Nat) (L : ZLV) (st : List Value) (σ : ZHp) (n k w : Nat) : Z (f + 1) 0 L st σ n k w = s_aload 0 1 L st σ n k w (zk1 cut G (Z f)) G R T := zrs hZ rfl f L st σ n k w
theorem f_X15_sumAt_1 (hZ : ZRN (ztb (tb_X15_sumAt E d mc ms)) cut G R T Z) (f : Nat) (L : ZLV) (st : List Value) (σ : ZHp) (n k w : Nat) : Z (f + 1) 1 L st σ n k w = s_iload 1 2 L st σ n k w (zk1 cut G (Z f)) G R T := zrs hZ rfl f L st σ n k w
theorem f_X15_sumAt_2 (hZ : ZRN (ztb (tb_X15_sumAt E d mc ms)) cut G R T Z) (f : Nat) (L : ZLV) (st : List Value) (σ : ZHp) (n k w : Nat) : Z (f + 1) 2 L st σ n k w = s_putf 14 9 0 5 L st σ n k w (zk1 cut G (Z f)) G R T := zrs hZ rfl f L st σ n k w
theorem f_X15_sumAt_5 (hZ : ZRN (ztb (tb_X15_sumAt E d mc ms)) cut G R T Z) (f : Nat) (L : ZLV) (st : List Value) (σ : ZHp) (n k w : Nat) : Z (f + 1) 5 L st σ n k w = s_aload 0 6 L st σ n k w (zk1 cut G (Z f)) G R T := zrs hZ rfl f L st σ n k w
theorem f_X15_sumAt_6 (hZ : ZRN (ztb (tb_X15_sumAt E d mc ms)) cut G R T Z) (f : Nat) (L : ZLV) (st : List Value) (σ : ZHp) (n k w : Nat) : Z (f + 1) 6 L st σ n k w = s_callV E d mc ms 14 MX15_sum 0 9 L st σ n k w (zk1 cut G (Z f)) G R T := zrs hZ rfl f L st σ n k w
theorem f_X15_sumAt_9 (hZ : ZRN (ztb (tb_X15_sumAt E d mc ms)) cut G R T Z) (f : Nat) (L : ZLV) (st : List Value) (σ : ZHp) (n k w : Nat) : Z (f + 1) 9 L st σ n k w = s_ireturn L st σ n k w (zk1 cut G (Z f)) G R T := zrs hZ rfl f L st σ n k w
theorem f_X15_doDeed_0 (hZ : ZRN (ztb (tb_X15_doDeed E d mc ms)) cut G R T Z) (f : Nat) (L : ZLV) (st : List Value) (σ : ZHp) (n k w : Nat) : Z (f + 1) 0 L st σ n k w = s_aload 0 1 L st σ n k w (zk1 cut G (Z f)) G R T := zrs hZ rfl f L st σ n k w
theorem f_X15_doDeed_1 (hZ : ZRN (ztb (tb_X15_doDeed E d mc ms)) cut G R T Z) (f : Nat) (L : ZLV) (st : List Value) (σ : ZHp) (n k w : Nat) : Z (f + 1) 1 L st σ n k w = s_getf 14 6 4 L st σ n k w (zk1 cut G (Z f)) G R T := zrs hZ rfl f L st σ n k w
theorem f_X15_doDeed_4 (hZ : ZRN (ztb (tb_X15_doDeed E d mc ms)) cut G R T Z) (f : Nat) (L : ZLV) (st : List Value) (σ : ZHp) (n k w : Nat) : Z (f + 1) 4 L st σ n k w = s_getf 12 0 7 L st σ n k w (zk1 cut G (Z f)) G R T := zrs hZ rfl f L st σ n k w
theorem f_X15_doDeed_7 (hZ : ZRN (ztb (tb_X15_doDeed E d mc ms)) cut G R T Z) (f : Nat) (L : ZLV) (st : List Value) (σ : ZHp) (n k w : Nat) : Z (f + 1) 7 L st σ n k w = s_iload 1 8 L st σ n k w (zk1 cut G (Z f)) G R T := zrs hZ rfl f L st σ n k w
theorem f_X15_doDeed_8 (hZ : ZRN (ztb (tb_X15_doDeed E d mc ms)) cut G R T Z) (f : Nat) (L : ZLV) (st : List Value) (σ : ZHp) (n k w : Nat) : Z (f + 1) 8 L st σ n k w = s_iaload E 9 L st σ n k w (zk1 cut G (Z f)) G R T := zrs hZ rfl f L st σ n k w
theorem f_X15_doDeed_9 (hZ : ZRN (ztb (tb_X15_doDeed E d mc ms)) cut G R T Z) (f : Nat) (L : ZLV) (st : List Value) (σ : ZHp) (n k w : Nat) : Z (f + 1) 9 L st σ n k w = s_tsw 3 [40, 83, 62, 115] 131 L st σ n k w (zk1 cut G (Z f)) G R T := zrs hZ rfl f L st σ n k w
theorem f_X15_doDeed_40 (hZ : ZRN (ztb (tb_X15_doDeed E d mc ms)) cut G R T Z) (f : Nat) (L : ZLV) (st : List Value) (σ : ZHp) (n k w : Nat) : Z (f + 1) 40 L st σ n k w = s_aload 0 41 L st σ n k w (zk1 cut G (Z f)) G R T := zrs hZ rfl f L st σ n k w
theorem f_X15_doDeed_41 (hZ : ZRN (ztb (tb_X15_doDeed E d mc ms)) cut G R T Z) (f : Nat) (L : ZLV) (st : List Value) (σ : ZHp) (n k w : Nat) : Z (f + 1) 41 L st σ n k w = s_aload 0 42 L st σ n k w (zk1 cut G (Z f)) G R T := zrs hZ rfl f L st σ n k w
theorem f_X15_doDeed_42 (hZ : ZRN (ztb (tb_X15_doDeed E d mc ms)) cut G R T Z) (f : Nat) (L : ZLV) (st : List Value) (σ : ZHp) (n k w : Nat) : Z (f + 1) 42 L st σ n k w = s_getf 14 16 45 L st σ n k w (zk1 cut G (Z f)) G R T := zrs hZ rfl f L st σ n k w
theorem f_X15_doDeed_45 (hZ : ZRN (ztb (tb_X15_doDeed E d mc ms)) cut G R T Z) (f : Nat) (L : ZLV) (st : List Value) (σ : ZHp) (n k w : Nat) : Z (f + 1) 45 L st σ n k w = s_aload 0 46 L st σ n k w (zk1 cut G (Z f)) G R T := zrs hZ rfl f L st σ n k w
theorem f_X15_doDeed_46 (hZ : ZRN (ztb (tb_X15_doDeed E d mc ms)) cut G R T Z) (f : Nat) (L : ZLV) (st : List Value) (σ : ZHp) (n k w : Nat) : Z (f + 1) 46 L st σ n k w = s_iload 1 47 L st σ n k w (zk1 cut G (Z f)) G R T := zrs hZ rfl f L st σ n k w
theorem f_X15_doDeed_47 (hZ : ZRN (ztb (tb_X15_doDeed E d mc ms)) cut G R T Z) (f : Nat) (L : ZLV) (st : List Value) (σ : ZHp) (n k w : Nat) : Z (f + 1) 47 L st σ n k w = s_const (.int (1)) 48 L st σ n k w (zk1 cut G (Z f)) G R T := zrs hZ rfl f L st σ n k w
theorem f_X15_doDeed_48 (hZ : ZRN (ztb (tb_X15_doDeed E d mc ms)) cut G R T Z) (f : Nat) (L : ZLV) (st : List Value) (σ : ZHp) (n k w : Nat) : Z (f + 1) 48 L st σ n k w = s_iadd 49 L st σ n k w (zk1 cut G (Z f)) G R T := zrs hZ rfl f L st σ n k w
theorem f_X15_doDeed_49 (hZ : ZRN (ztb (tb_X15_doDeed E d mc ms)) cut G R T Z) (f : Nat) (L : ZLV) (st : List Value) (σ : ZHp) (n k w : Nat) : Z (f + 1) 49 L st σ n k w = s_callV E d mc ms 14 MX15_sumAt 1 52 L st σ n k w (zk1 cut G (Z f)) G R T := zrs hZ rfl f L st σ n k w
theorem f_X15_doDeed_52 (hZ : ZRN (ztb (tb_X15_doDeed E d mc ms)) cut G R T Z) (f : Nat) (L : ZLV) (st : List Value) (σ : ZHp) (n k w : Nat) : Z (f + 1) 52 L st σ n k w = s_const (.int (999)) 55 L st σ n k w (zk1 cut G (Z f)) G R T := zrs hZ rfl f L st σ n k w
theorem f_X15_doDeed_55 (hZ : ZRN (ztb (tb_X15_doDeed E d mc ms)) cut G R T Z) (f : Nat) (L : ZLV) (st : List Value) (σ : ZHp) (n k w : Nat) : Z (f + 1) 55 L st σ n k w = s_callS E d mc ms MX15_held 3 58 L st σ n k w (zk1 cut G (Z f)) G R T := zrs hZ rfl f L st σ n k w
theorem f_X15_doDeed_58 (hZ : ZRN (ztb (tb_X15_doDeed E d mc ms)) cut G R T Z) (f : Nat) (L : ZLV) (st : List Value) (σ : ZHp) (n k w : Nat) : Z (f + 1) 58 L st σ n k w = s_putf 14 16 0 61 L st σ n k w (zk1 cut G (Z f)) G R T := zrs hZ rfl f L st σ n k w
theorem f_X15_doDeed_61 (hZ : ZRN (ztb (tb_X15_doDeed E d mc ms)) cut G R T Z) (f : Nat) (L : ZLV) (st : List Value) (σ : ZHp) (n k w : Nat) : Z (f + 1) 61 L st σ n k w = s_return L st σ n k w (zk1 cut G (Z f)) G R T := zrs hZ rfl f L st σ n k w
theorem f_X15_doDeed_62 (hZ : ZRN (ztb (tb_X15_doDeed E d mc ms)) cut G R T Z) (f : Nat) (L : ZLV) (st : List Value) (σ : ZHp) (n k w : Nat) : Z (f + 1) 62 L st σ n k w = s_aload 0 63 L st σ n k w (zk1 cut G (Z f)) G R T := zrs hZ rfl f L st σ n k w
theorem f_X15_doDeed_63 (hZ : ZRN (ztb (tb_X15_doDeed E d mc ms)) cut G R T Z) (f : Nat) (L : ZLV) (st : List Value) (σ : ZHp) (n k w : Nat) : Z (f + 1) 63 L st σ n k w = s_aload 0 64 L st σ n k w (zk1 cut G (Z f)) G R T := zrs hZ rfl f L st σ n k w
theorem f_X15_doDeed_64 (hZ : ZRN (ztb (tb_X15_doDeed E d mc ms)) cut G R T Z) (f : Nat) (L : ZLV) (st : List Value) (σ : ZHp) (n k w : Nat) : Z (f + 1) 64 L st σ n k w = s_getf 14 17 67 L st σ n k w (zk1 cut G (Z f)) G R T := zrs hZ rfl f L st σ n k w
theorem f_X15_doDeed_67 (hZ : ZRN (ztb (tb_X15_doDeed E d mc ms)) cut G R T Z) (f : Nat) (L : ZLV) (st : List Value) (σ : ZHp) (n k w : Nat) : Z (f + 1) 67 L st σ n k w = s_aload 0 68 L st σ n k w (zk1 cut G (Z f)) G R T := zrs hZ rfl f L st σ n k w
theorem f_X15_doDeed_68 (hZ : ZRN (ztb (tb_X15_doDeed E d mc ms)) cut G R T Z) (f : Nat) (L : ZLV) (st : List Value) (σ : ZHp) (n k w : Nat) : Z (f + 1) 68 L st σ n k w = s_iload 1 69 L st σ n k w (zk1 cut G (Z f)) G R T := zrs hZ rfl f L st σ n k w
theorem f_X15_doDeed_69 (hZ : ZRN (ztb (tb_X15_doDeed E d mc ms)) cut G R T Z) (f : Nat) (L : ZLV) (st : List Value) (σ : ZHp) (n k w : Nat) : Z (f + 1) 69 L st σ n k w = s_const (.int (1)) 70 L st σ n k w (zk1 cut G (Z f)) G R T := zrs hZ rfl f L st σ n k w
theorem f_X15_doDeed_70 (hZ : ZRN (ztb (tb_X15_doDeed E d mc ms)) cut G R T Z) (f : Nat) (L : ZLV) (st : List Value) (σ : ZHp) (n k w : Nat) : Z (f + 1) 70 L st σ n k w = s_iadd 71 L st σ n k w (zk1 cut G (Z f)) G R T := zrs hZ rfl f L st σ n k w
theorem f_X15_doDeed_71 (hZ : ZRN (ztb (tb_X15_doDeed E d mc ms)) cut G R T Z) (f : Nat) (L : ZLV) (st : List Value) (σ : ZHp) (n k w : Nat) : Z (f + 1) 71 L st σ n k w = s_callV E d mc ms 14 MX15_sumAt 1 74 L st σ n k w (zk1 cut G (Z f)) G R T := zrs hZ rfl f L st σ n k w
theorem f_X15_doDeed_74 (hZ : ZRN (ztb (tb_X15_doDeed E d mc ms)) cut G R T Z) (f : Nat) (L : ZLV) (st : List Value) (σ : ZHp) (n k w : Nat) : Z (f + 1) 74 L st σ n k w = s_const (.int (9)) 76 L st σ n k w (zk1 cut G (Z f)) G R T := zrs hZ rfl f L st σ n k w
theorem f_X15_doDeed_76 (hZ : ZRN (ztb (tb_X15_doDeed E d mc ms)) cut G R T Z) (f : Nat) (L : ZLV) (st : List Value) (σ : ZHp) (n k w : Nat) : Z (f + 1) 76 L st σ n k w = s_callS E d mc ms MX15_held 3 79 L st σ n k w (zk1 cut G (Z f)) G R T := zrs hZ rfl f L st σ n k w
theorem f_X15_doDeed_79 (hZ : ZRN (ztb (tb_X15_doDeed E d mc ms)) cut G R T Z) (f : Nat) (L : ZLV) (st : List Value) (σ : ZHp) (n k w : Nat) : Z (f + 1) 79 L st σ n k w = s_putf 14 17 0 82 L st σ n k w (zk1 cut G (Z f)) G R T := zrs hZ rfl f L st σ n k w
theorem f_X15_doDeed_82 (hZ : ZRN (ztb (tb_X15_doDeed E d mc ms)) cut G R T Z) (f : Nat) (L : ZLV) (st : List Value) (σ : ZHp) (n k w : Nat) : Z (f + 1) 82 L st σ n k w = s_return L st σ n k w (zk1 cut G (Z f)) G R T := zrs hZ rfl f L st σ n k w
theorem f_X15_doDeed_83 (hZ : ZRN (ztb (tb_X15_doDeed E d mc ms)) cut G R T Z) (f : Nat) (L : ZLV) (st : List Value) (σ : ZHp) (n k w : Nat) : Z (f + 1) 83 L st σ n k w = s_const (.int (0)) 84 L st σ n k w (zk1 cut G (Z f)) G R T := zrs hZ rfl f L st σ n k w
theorem f_X15_doDeed_84 (hZ : ZRN (ztb (tb_X15_doDeed E d mc ms)) cut G R T Z) (f : Nat) (L : ZLV) (st : List Value) (σ : ZHp) (n k w : Nat) : Z (f + 1) 84 L st σ n k w = s_const (.int (9)) 86 L st σ n k w (zk1 cut G (Z f)) G R T := zrs hZ rfl f L st σ n k w
theorem f_X15_doDeed_86 (hZ : ZRN (ztb (tb_X15_doDeed E d mc ms)) cut G R T Z) (f : Nat) (L : ZLV) (st : List Value) (σ : ZHp) (n k w : Nat) : Z (f + 1) 86 L st σ n k w = s_aload 0 87 L st σ n k w (zk1 cut G (Z f)) G R T := zrs hZ rfl f L st σ n k w
theorem f_X15_doDeed_87 (hZ : ZRN (ztb (tb_X15_doDeed E d mc ms)) cut G R T Z) (f : Nat) (L : ZLV) (st : List Value) (σ : ZHp) (n k w : Nat) : Z (f + 1) 87 L st σ n k w = s_iload 1 88 L st σ n k w (zk1 cut G (Z f)) G R T := zrs hZ rfl f L st σ n k w
theorem f_X15_doDeed_88 (hZ : ZRN (ztb (tb_X15_doDeed E d mc ms)) cut G R T Z) (f : Nat) (L : ZLV) (st : List Value) (σ : ZHp) (n k w : Nat) : Z (f + 1) 88 L st σ n k w = s_const (.int (1)) 89 L st σ n k w (zk1 cut G (Z f)) G R T := zrs hZ rfl f L st σ n k w
theorem f_X15_doDeed_89 (hZ : ZRN (ztb (tb_X15_doDeed E d mc ms)) cut G R T Z) (f : Nat) (L : ZLV) (st : List Value) (σ : ZHp) (n k w : Nat) : Z (f + 1) 89 L st σ n k w = s_iadd 90 L st σ n k w (zk1 cut G (Z f)) G R T := zrs hZ rfl f L st σ n k w
theorem f_X15_doDeed_90 (hZ : ZRN (ztb (tb_X15_doDeed E d mc ms)) cut G R T Z) (f : Nat) (L : ZLV) (st : List Value) (σ : ZHp) (n k w : Nat) : Z (f + 1) 90 L st σ n k w = s_callV E d mc ms 14 MX15_sumAt 1 93 L st σ n k w (zk1 cut G (Z f)) G R T := zrs hZ rfl f L st σ n k w
theorem f_X15_doDeed_93 (hZ : ZRN (ztb (tb_X15_doDeed E d mc ms)) cut G R T Z) (f : Nat) (L : ZLV) (st : List Value) (σ : ZHp) (n k w : Nat) : Z (f + 1) 93 L st σ n k w = s_mmin d mc ms 96 L st σ n k w (zk1 cut G (Z f)) G R T := zrs hZ rfl f L st σ n k w
theorem f_X15_doDeed_96 (hZ : ZRN (ztb (tb_X15_doDeed E d mc ms)) cut G R T Z) (f : Nat) (L : ZLV) (st : List Value) (σ : ZHp) (n k w : Nat) : Z (f + 1) 96 L st σ n k w = s_mmax d mc ms 99 L st σ n k w (zk1 cut G (Z f)) G R T := zrs hZ rfl f L st σ n k w
theorem f_X15_doDeed_99 (hZ : ZRN (ztb (tb_X15_doDeed E d mc ms)) cut G R T Z) (f : Nat) (L : ZLV) (st : List Value) (σ : ZHp) (n k w : Nat) : Z (f + 1) 99 L st σ n k w = s_istore 3 100 L st σ n k w (zk1 cut G (Z f)) G R T := zrs hZ rfl f L st σ n k w
theorem f_X15_doDeed_100 (hZ : ZRN (ztb (tb_X15_doDeed E d mc ms)) cut G R T Z) (f : Nat) (L : ZLV) (st : List Value) (σ : ZHp) (n k w : Nat) : Z (f + 1) 100 L st σ n k w = s_iload 3 101 L st σ n k w (zk1 cut G (Z f)) G R T := zrs hZ rfl f L st σ n k w
theorem f_X15_doDeed_101 (hZ : ZRN (ztb (tb_X15_doDeed E d mc ms)) cut G R T Z) (f : Nat) (L : ZLV) (st : List Value) (σ : ZHp) (n k w : Nat) : Z (f + 1) 101 L st σ n k w = s_if_le 114 104 L st σ n k w (zk1 cut G (Z f)) G R T := zrs hZ rfl f L st σ n k w
theorem f_X15_doDeed_104 (hZ : ZRN (ztb (tb_X15_doDeed E d mc ms)) cut G R T Z) (f : Nat) (L : ZLV) (st : List Value) (σ : ZHp) (n k w : Nat) : Z (f + 1) 104 L st σ n k w = s_aload 0 105 L st σ n k w (zk1 cut G (Z f)) G R T := zrs hZ rfl f L st σ n k w
theorem f_X15_doDeed_105 (hZ : ZRN (ztb (tb_X15_doDeed E d mc ms)) cut G R T Z) (f : Nat) (L : ZLV) (st : List Value) (σ : ZHp) (n k w : Nat) : Z (f + 1) 105 L st σ n k w = s_callV E d mc ms 14 MX15_drawOne 0 108 L st σ n k w (zk1 cut G (Z f)) G R T := zrs hZ rfl f L st σ n k w
theorem f_X15_doDeed_108 (hZ : ZRN (ztb (tb_X15_doDeed E d mc ms)) cut G R T Z) (f : Nat) (L : ZLV) (st : List Value) (σ : ZHp) (n k w : Nat) : Z (f + 1) 108 L st σ n k w = s_iinc 3 (-1) 111 L st σ n k w (zk1 cut G (Z f)) G R T := zrs hZ rfl f L st σ n k w
theorem f_X15_doDeed_111 (hZ : ZRN (ztb (tb_X15_doDeed E d mc ms)) cut G R T Z) (f : Nat) (L : ZLV) (st : List Value) (σ : ZHp) (n k w : Nat) : Z (f + 1) 111 L st σ n k w = s_goto 100 L st σ n k w (zk1 cut G (Z f)) G R T := zrs hZ rfl f L st σ n k w
theorem f_X15_doDeed_114 (hZ : ZRN (ztb (tb_X15_doDeed E d mc ms)) cut G R T Z) (f : Nat) (L : ZLV) (st : List Value) (σ : ZHp) (n k w : Nat) : Z (f + 1) 114 L st σ n k w = s_return L st σ n k w (zk1 cut G (Z f)) G R T := zrs hZ rfl f L st σ n k w
theorem f_X15_doDeed_115 (hZ : ZRN (ztb (tb_X15_doDeed E d mc ms)) cut G R T Z) (f : Nat) (L : ZLV) (st : List Value) (σ : ZHp) (n k w : Nat) : Z (f + 1) 115 L st σ n k w = s_aload 0 116 L st σ n k w (zk1 cut G (Z f)) G R T := zrs hZ rfl f L st σ n k w
theorem f_X15_doDeed_116 (hZ : ZRN (ztb (tb_X15_doDeed E d mc ms)) cut G R T Z) (f : Nat) (L : ZLV) (st : List Value) (σ : ZHp) (n k w : Nat) : Z (f + 1) 116 L st σ n k w = s_aload 0 117 L st σ n k w (zk1 cut G (Z f)) G R T := zrs hZ rfl f L st σ n k w
theorem f_X15_doDeed_117 (hZ : ZRN (ztb (tb_X15_doDeed E d mc ms)) cut G R T Z) (f : Nat) (L : ZLV) (st : List Value) (σ : ZHp) (n k w : Nat) : Z (f + 1) 117 L st σ n k w = s_getf 14 6 120 L st σ n k w (zk1 cut G (Z f)) G R T := zrs hZ rfl f L st σ n k w
theorem f_X15_doDeed_120 (hZ : ZRN (ztb (tb_X15_doDeed E d mc ms)) cut G R T Z) (f : Nat) (L : ZLV) (st : List Value) (σ : ZHp) (n k w : Nat) : Z (f + 1) 120 L st σ n k w = s_getf 12 3 123 L st σ n k w (zk1 cut G (Z f)) G R T := zrs hZ rfl f L st σ n k w
theorem f_X15_doDeed_123 (hZ : ZRN (ztb (tb_X15_doDeed E d mc ms)) cut G R T Z) (f : Nat) (L : ZLV) (st : List Value) (σ : ZHp) (n k w : Nat) : Z (f + 1) 123 L st σ n k w = s_iload 1 124 L st σ n k w (zk1 cut G (Z f)) G R T := zrs hZ rfl f L st σ n k w
theorem f_X15_doDeed_124 (hZ : ZRN (ztb (tb_X15_doDeed E d mc ms)) cut G R T Z) (f : Nat) (L : ZLV) (st : List Value) (σ : ZHp) (n k w : Nat) : Z (f + 1) 124 L st σ n k w = s_const (.int (1)) 125 L st σ n k w (zk1 cut G (Z f)) G R T := zrs hZ rfl f L st σ n k w
theorem f_X15_doDeed_125 (hZ : ZRN (ztb (tb_X15_doDeed E d mc ms)) cut G R T Z) (f : Nat) (L : ZLV) (st : List Value) (σ : ZHp) (n k w : Nat) : Z (f + 1) 125 L st σ n k w = s_iadd 126 L st σ n k w (zk1 cut G (Z f)) G R T := zrs hZ rfl f L st σ n k w
theorem f_X15_doDeed_126 (hZ : ZRN (ztb (tb_X15_doDeed E d mc ms)) cut G R T Z) (f : Nat) (L : ZLV) (st : List Value) (σ : ZHp) (n k w : Nat) : Z (f + 1) 126 L st σ n k w = s_iaload E 127 L st σ n k w (zk1 cut G (Z f)) G R T := zrs hZ rfl f L st σ n k w
theorem f_X15_doDeed_127 (hZ : ZRN (ztb (tb_X15_doDeed E d mc ms)) cut G R T Z) (f : Nat) (L : ZLV) (st : List Value) (σ : ZHp) (n k w : Nat) : Z (f + 1) 127 L st σ n k w = s_callV E d mc ms 14 MX15_trashFromHand 1 130 L st σ n k w (zk1 cut G (Z f)) G R T := zrs hZ rfl f L st σ n k w
theorem f_X15_doDeed_130 (hZ : ZRN (ztb (tb_X15_doDeed E d mc ms)) cut G R T Z) (f : Nat) (L : ZLV) (st : List Value) (σ : ZHp) (n k w : Nat) : Z (f + 1) 130 L st σ n k w = s_return L st σ n k w (zk1 cut G (Z f)) G R T := zrs hZ rfl f L st σ n k w
theorem f_X15_doDeed_131 (hZ : ZRN (ztb (tb_X15_doDeed E d mc ms)) cut G R T Z) (f : Nat) (L : ZLV) (st : List Value) (σ : ZHp) (n k w : Nat) : Z (f + 1) 131 L st σ n k w = s_aload 0 132 L st σ n k w (zk1 cut G (Z f)) G R T := zrs hZ rfl f L st σ n k w
theorem f_X15_doDeed_132 (hZ : ZRN (ztb (tb_X15_doDeed E d mc ms)) cut G R T Z) (f : Nat) (L : ZLV) (st : List Value) (σ : ZHp) (n k w : Nat) : Z (f + 1) 132 L st σ n k w = s_getf 14 15 135 L st σ n k w (zk1 cut G (Z f)) G R T := zrs hZ rfl f L st σ n k w
theorem f_X15_doDeed_135 (hZ : ZRN (ztb (tb_X15_doDeed E d mc ms)) cut G R T Z) (f : Nat) (L : ZLV) (st : List Value) (σ : ZHp) (n k w : Nat) : Z (f + 1) 135 L st σ n k w = s_aload 0 136 L st σ n k w (zk1 cut G (Z f)) G R T := zrs hZ rfl f L st σ n k w
theorem f_X15_doDeed_136 (hZ : ZRN (ztb (tb_X15_doDeed E d mc ms)) cut G R T Z) (f : Nat) (L : ZLV) (st : List Value) (σ : ZHp) (n k w : Nat) : Z (f + 1) 136 L st σ n k w = s_getf 14 6 139 L st σ n k w (zk1 cut G (Z f)) G R T := zrs hZ rfl f L st σ n k w
theorem f_X15_doDeed_139 (hZ : ZRN (ztb (tb_X15_doDeed E d mc ms)) cut G R T Z) (f : Nat) (L : ZLV) (st : List Value) (σ : ZHp) (n k w : Nat) : Z (f + 1) 139 L st σ n k w = s_getf 12 3 142 L st σ n k w (zk1 cut G (Z f)) G R T := zrs hZ rfl f L st σ n k w
theorem f_X15_doDeed_142 (hZ : ZRN (ztb (tb_X15_doDeed E d mc ms)) cut G R T Z) (f : Nat) (L : ZLV) (st : List Value) (σ : ZHp) (n k w : Nat) : Z (f + 1) 142 L st σ n k w = s_iload 1 143 L st σ n k w (zk1 cut G (Z f)) G R T := zrs hZ rfl f L st σ n k w
theorem f_X15_doDeed_143 (hZ : ZRN (ztb (tb_X15_doDeed E d mc ms)) cut G R T Z) (f : Nat) (L : ZLV) (st : List Value) (σ : ZHp) (n k w : Nat) : Z (f + 1) 143 L st σ n k w = s_const (.int (1)) 144 L st σ n k w (zk1 cut G (Z f)) G R T := zrs hZ rfl f L st σ n k w
theorem f_X15_doDeed_144 (hZ : ZRN (ztb (tb_X15_doDeed E d mc ms)) cut G R T Z) (f : Nat) (L : ZLV) (st : List Value) (σ : ZHp) (n k w : Nat) : Z (f + 1) 144 L st σ n k w = s_iadd 145 L st σ n k w (zk1 cut G (Z f)) G R T := zrs hZ rfl f L st σ n k w
theorem f_X15_doDeed_145 (hZ : ZRN (ztb (tb_X15_doDeed E d mc ms)) cut G R T Z) (f : Nat) (L : ZLV) (st : List Value) (σ : ZHp) (n k w : Nat) : Z (f + 1) 145 L st σ n k w = s_iaload E 146 L st σ n k w (zk1 cut G (Z f)) G R T := zrs hZ rfl f L st σ n k w
theorem f_X15_doDeed_146 (hZ : ZRN (ztb (tb_X15_doDeed E d mc ms)) cut G R T Z) (f : Nat) (L : ZLV) (st : List Value) (σ : ZHp) (n k w : Nat) : Z (f + 1) 146 L st σ n k w = s_iaload E 147 L st σ n k w (zk1 cut G (Z f)) G R T := zrs hZ rfl f L st σ n k w
theorem f_X15_doDeed_147 (hZ : ZRN (ztb (tb_X15_doDeed E d mc ms)) cut G R T Z) (f : Nat) (L : ZLV) (st : List Value) (σ : ZHp) (n k w : Nat) : Z (f + 1) 147 L st σ n k w = s_aload 0 148 L st σ n k w (zk1 cut G (Z f)) G R T := zrs hZ rfl f L st σ n k w
theorem f_X15_doDeed_148 (hZ : ZRN (ztb (tb_X15_doDeed E d mc ms)) cut G R T Z) (f : Nat) (L : ZLV) (st : List Value) (σ : ZHp) (n k w : Nat) : Z (f + 1) 148 L st σ n k w = s_getf 14 6 151 L st σ n k w (zk1 cut G (Z f)) G R T := zrs hZ rfl f L st σ n k w
theorem f_X15_doDeed_151 (hZ : ZRN (ztb (tb_X15_doDeed E d mc ms)) cut G R T Z) (f : Nat) (L : ZLV) (st : List Value) (σ : ZHp) (n k w : Nat) : Z (f + 1) 151 L st σ n k w = s_getf 12 3 154 L st σ n k w (zk1 cut G (Z f)) G R T := zrs hZ rfl f L st σ n k w
theorem f_X15_doDeed_154 (hZ : ZRN (ztb (tb_X15_doDeed E d mc ms)) cut G R T Z) (f : Nat) (L : ZLV) (st : List Value) (σ : ZHp) (n k w : Nat) : Z (f + 1) 154 L st σ n k w = s_iload 1 155 L st σ n k w (zk1 cut G (Z f)) G R T := zrs hZ rfl f L st σ n k w
theorem f_X15_doDeed_155 (hZ : ZRN (ztb (tb_X15_doDeed E d mc ms)) cut G R T Z) (f : Nat) (L : ZLV) (st : List Value) (σ : ZHp) (n k w : Nat) : Z (f + 1) 155 L st σ n k w = s_const (.int (1)) 156 L st σ n k w (zk1 cut G (Z f)) G R T := zrs hZ rfl f L st σ n k w
theorem f_X15_doDeed_156 (hZ : ZRN (ztb (tb_X15_doDeed E d mc ms)) cut G R T Z) (f : Nat) (L : ZLV) (st : List Value) (σ : ZHp) (n k w : Nat) : Z (f + 1) 156 L st σ n k w = s_iadd 157 L st σ n k w (zk1 cut G (Z f)) G R T := zrs hZ rfl f L st σ n k w
theorem f_X15_doDeed_157 (hZ : ZRN (ztb (tb_X15_doDeed E d mc ms)) cut G R T Z) (f : Nat) (L : ZLV) (st : List Value) (σ : ZHp) (n k w : Nat) : Z (f + 1) 157 L st σ n k w = s_iaload E 158 L st σ n k w (zk1 cut G (Z f)) G R T := zrs hZ rfl f L st σ n k w
theorem f_X15_doDeed_158 (hZ : ZRN (ztb (tb_X15_doDeed E d mc ms)) cut G R T Z) (f : Nat) (L : ZLV) (st : List Value) (σ : ZHp) (n k w : Nat) : Z (f + 1) 158 L st σ n k w = s_iload 2 159 L st σ n k w (zk1 cut G (Z f)) G R T := zrs hZ rfl f L st σ n k w
theorem f_X15_doDeed_159 (hZ : ZRN (ztb (tb_X15_doDeed E d mc ms)) cut G R T Z) (f : Nat) (L : ZLV) (st : List Value) (σ : ZHp) (n k w : Nat) : Z (f + 1) 159 L st σ n k w = s_icmp_ne 166 162 L st σ n k w (zk1 cut G (Z f)) G R T := zrs hZ rfl f L st σ n k w
theorem f_X15_doDeed_162 (hZ : ZRN (ztb (tb_X15_doDeed E d mc ms)) cut G R T Z) (f : Nat) (L : ZLV) (st : List Value) (σ : ZHp) (n k w : Nat) : Z (f + 1) 162 L st σ n k w = s_const (.int (1)) 163 L st σ n k w (zk1 cut G (Z f)) G R T := zrs hZ rfl f L st σ n k w
theorem f_X15_doDeed_163 (hZ : ZRN (ztb (tb_X15_doDeed E d mc ms)) cut G R T Z) (f : Nat) (L : ZLV) (st : List Value) (σ : ZHp) (n k w : Nat) : Z (f + 1) 163 L st σ n k w = s_goto 167 L st σ n k w (zk1 cut G (Z f)) G R T := zrs hZ rfl f L st σ n k w
theorem f_X15_doDeed_166 (hZ : ZRN (ztb (tb_X15_doDeed E d mc ms)) cut G R T Z) (f : Nat) (L : ZLV) (st : List Value) (σ : ZHp) (n k w : Nat) : Z (f + 1) 166 L st σ n k w = s_const (.int (0)) 167 L st σ n k w (zk1 cut G (Z f)) G R T := zrs hZ rfl f L st σ n k w
theorem f_X15_doDeed_167 (hZ : ZRN (ztb (tb_X15_doDeed E d mc ms)) cut G R T Z) (f : Nat) (L : ZLV) (st : List Value) (σ : ZHp) (n k w : Nat) : Z (f + 1) 167 L st σ n k w = s_icmp_le 191 170 L st σ n k w (zk1 cut G (Z f)) G R T := zrs hZ rfl f L st σ n k w
theorem f_X15_doDeed_170 (hZ : ZRN (ztb (tb_X15_doDeed E d mc ms)) cut G R T Z) (f : Nat) (L : ZLV) (st : List Value) (σ : ZHp) (n k w : Nat) : Z (f + 1) 170 L st σ n k w = s_aload 0 171 L st σ n k w (zk1 cut G (Z f)) G R T := zrs hZ rfl f L st σ n k w
theorem f_X15_doDeed_171 (hZ : ZRN (ztb (tb_X15_doDeed E d mc ms)) cut G R T Z) (f : Nat) (L : ZLV) (st : List Value) (σ : ZHp) (n k w : Nat) : Z (f + 1) 171 L st σ n k w = s_aload 0 172 L st σ n k w (zk1 cut G (Z f)) G R T := zrs hZ rfl f L st σ n k w
theorem f_X15_doDeed_172 (hZ : ZRN (ztb (tb_X15_doDeed E d mc ms)) cut G R T Z) (f : Nat) (L : ZLV) (st : List Value) (σ : ZHp) (n k w : Nat) : Z (f + 1) 172 L st σ n k w = s_getf 14 16 175 L st σ n k w (zk1 cut G (Z f)) G R T := zrs hZ rfl f L st σ n k w
theorem f_X15_doDeed_175 (hZ : ZRN (ztb (tb_X15_doDeed E d mc ms)) cut G R T Z) (f : Nat) (L : ZLV) (st : List Value) (σ : ZHp) (n k w : Nat) : Z (f + 1) 175 L st σ n k w = s_aload 0 176 L st σ n k w (zk1 cut G (Z f)) G R T := zrs hZ rfl f L st σ n k w
theorem f_X15_doDeed_176 (hZ : ZRN (ztb (tb_X15_doDeed E d mc ms)) cut G R T Z) (f : Nat) (L : ZLV) (st : List Value) (σ : ZHp) (n k w : Nat) : Z (f + 1) 176 L st σ n k w = s_iload 1 177 L st σ n k w (zk1 cut G (Z f)) G R T := zrs hZ rfl f L st σ n k w
theorem f_X15_doDeed_177 (hZ : ZRN (ztb (tb_X15_doDeed E d mc ms)) cut G R T Z) (f : Nat) (L : ZLV) (st : List Value) (σ : ZHp) (n k w : Nat) : Z (f + 1) 177 L st σ n k w = s_const (.int (2)) 178 L st σ n k w (zk1 cut G (Z f)) G R T := zrs hZ rfl f L st σ n k w
theorem f_X15_doDeed_178 (hZ : ZRN (ztb (tb_X15_doDeed E d mc ms)) cut G R T Z) (f : Nat) (L : ZLV) (st : List Value) (σ : ZHp) (n k w : Nat) : Z (f + 1) 178 L st σ n k w = s_iadd 179 L st σ n k w (zk1 cut G (Z f)) G R T := zrs hZ rfl f L st σ n k w
theorem f_X15_doDeed_179 (hZ : ZRN (ztb (tb_X15_doDeed E d mc ms)) cut G R T Z) (f : Nat) (L : ZLV) (st : List Value) (σ : ZHp) (n k w : Nat) : Z (f + 1) 179 L st σ n k w = s_callV E d mc ms 14 MX15_sumAt 1 182 L st σ n k w (zk1 cut G (Z f)) G R T := zrs hZ rfl f L st σ n k w
theorem f_X15_doDeed_182 (hZ : ZRN (ztb (tb_X15_doDeed E d mc ms)) cut G R T Z) (f : Nat) (L : ZLV) (st : List Value) (σ : ZHp) (n k w : Nat) : Z (f + 1) 182 L st σ n k w = s_const (.int (999)) 185 L st σ n k w (zk1 cut G (Z f)) G R T := zrs hZ rfl f L st σ n k w
theorem f_X15_doDeed_185 (hZ : ZRN (ztb (tb_X15_doDeed E d mc ms)) cut G R T Z) (f : Nat) (L : ZLV) (st : List Value) (σ : ZHp) (n k w : Nat) : Z (f + 1) 185 L st σ n k w = s_callS E d mc ms MX15_held 3 188 L st σ n k w (zk1 cut G (Z f)) G R T := zrs hZ rfl f L st σ n k w
theorem f_X15_doDeed_188 (hZ : ZRN (ztb (tb_X15_doDeed E d mc ms)) cut G R T Z) (f : Nat) (L : ZLV) (st : List Value) (σ : ZHp) (n k w : Nat) : Z (f + 1) 188 L st σ n k w = s_putf 14 16 0 191 L st σ n k w (zk1 cut G (Z f)) G R T := zrs hZ rfl f L st σ n k w
theorem f_X15_doDeed_191 (hZ : ZRN (ztb (tb_X15_doDeed E d mc ms)) cut G R T Z) (f : Nat) (L : ZLV) (st : List Value) (σ : ZHp) (n k w : Nat) : Z (f + 1) 191 L st σ n k w = s_return L st σ n k w (zk1 cut G (Z f)) G R T := zrs hZ rfl f L st σ n k w
theorem f_X15_playHand_0 (hZ : ZRN (ztb (tb_X15_playHand E d mc ms)) cut G R T Z) (f : Nat) (L : ZLV) (st : List Value) (σ : ZHp) (n k w : Nat) : Z (f + 1) 0 L st σ n k w = s_aload 0 1 L st σ n k w (zk1 cut G (Z f)) G R T := zrs hZ rfl f L st σ n k w
theorem f_X15_playHand_1 (hZ : ZRN (ztb (tb_X15_playHand E d mc ms)) cut G R T Z) (f : Nat) (L : ZLV) (st : List Value) (σ : ZHp) (n k w : Nat) : Z (f + 1) 1 L st σ n k w = s_const (.int (0)) 2 L st σ n k w (zk1 cut G (Z f)) G R T := zrs hZ rfl f L st σ n k w
theorem f_X15_playHand_2 (hZ : ZRN (ztb (tb_X15_playHand E d mc ms)) cut G R T Z) (f : Nat) (L : ZLV) (st : List Value) (σ : ZHp) (n k w : Nat) : Z (f + 1) 2 L st σ n k w = s_putf 14 14 0 5 L st σ n k w (zk1 cut G (Z f)) G R T := zrs hZ rfl f L st σ n k w
theorem f_X15_playHand_5 (hZ : ZRN (ztb (tb_X15_playHand E d mc ms)) cut G R T Z) (f : Nat) (L : ZLV) (st : List Value) (σ : ZHp) (n k w : Nat) : Z (f + 1) 5 L st σ n k w = s_aload 0 6 L st σ n k w (zk1 cut G (Z f)) G R T := zrs hZ rfl f L st σ n k w
theorem f_X15_playHand_6 (hZ : ZRN (ztb (tb_X15_playHand E d mc ms)) cut G R T Z) (f : Nat) (L : ZLV) (st : List Value) (σ : ZHp) (n k w : Nat) : Z (f + 1) 6 L st σ n k w = s_getf 14 14 9 L st σ n k w (zk1 cut G (Z f)) G R T := zrs hZ rfl f L st σ n k w
theorem f_X15_playHand_9 (hZ : ZRN (ztb (tb_X15_playHand E d mc ms)) cut G R T Z) (f : Nat) (L : ZLV) (st : List Value) (σ : ZHp) (n k w : Nat) : Z (f + 1) 9 L st σ n k w = s_aload 0 10 L st σ n k w (zk1 cut G (Z f)) G R T := zrs hZ rfl f L st σ n k w
theorem f_X15_playHand_10 (hZ : ZRN (ztb (tb_X15_playHand E d mc ms)) cut G R T Z) (f : Nat) (L : ZLV) (st : List Value) (σ : ZHp) (n k w : Nat) : Z (f + 1) 10 L st σ n k w = s_getf 14 13 13 L st σ n k w (zk1 cut G (Z f)) G R T := zrs hZ rfl f L st σ n k w
theorem f_X15_playHand_13 (hZ : ZRN (ztb (tb_X15_playHand E d mc ms)) cut G R T Z) (f : Nat) (L : ZLV) (st : List Value) (σ : ZHp) (n k w : Nat) : Z (f + 1) 13 L st σ n k w = s_icmp_ge 110 16 L st σ n k w (zk1 cut G (Z f)) G R T := zrs hZ rfl f L st σ n k w
theorem f_X15_playHand_16 (hZ : ZRN (ztb (tb_X15_playHand E d mc ms)) cut G R T Z) (f : Nat) (L : ZLV) (st : List Value) (σ : ZHp) (n k w : Nat) : Z (f + 1) 16 L st σ n k w = s_aload 0 17 L st σ n k w (zk1 cut G (Z f)) G R T := zrs hZ rfl f L st σ n k w
theorem f_X15_playHand_17 (hZ : ZRN (ztb (tb_X15_playHand E d mc ms)) cut G R T Z) (f : Nat) (L : ZLV) (st : List Value) (σ : ZHp) (n k w : Nat) : Z (f + 1) 17 L st σ n k w = s_getf 14 14 20 L st σ n k w (zk1 cut G (Z f)) G R T := zrs hZ rfl f L st σ n k w
theorem f_X15_playHand_20 (hZ : ZRN (ztb (tb_X15_playHand E d mc ms)) cut G R T Z) (f : Nat) (L : ZLV) (st : List Value) (σ : ZHp) (n k w : Nat) : Z (f + 1) 20 L st σ n k w = s_const (.int (30)) 22 L st σ n k w (zk1 cut G (Z f)) G R T := zrs hZ rfl f L st σ n k w
theorem f_X15_playHand_22 (hZ : ZRN (ztb (tb_X15_playHand E d mc ms)) cut G R T Z) (f : Nat) (L : ZLV) (st : List Value) (σ : ZHp) (n k w : Nat) : Z (f + 1) 22 L st σ n k w = s_icmp_ge 110 25 L st σ n k w (zk1 cut G (Z f)) G R T := zrs hZ rfl f L st σ n k w
theorem f_X15_playHand_25 (hZ : ZRN (ztb (tb_X15_playHand E d mc ms)) cut G R T Z) (f : Nat) (L : ZLV) (st : List Value) (σ : ZHp) (n k w : Nat) : Z (f + 1) 25 L st σ n k w = s_aload 0 26 L st σ n k w (zk1 cut G (Z f)) G R T := zrs hZ rfl f L st σ n k w
theorem f_X15_playHand_26 (hZ : ZRN (ztb (tb_X15_playHand E d mc ms)) cut G R T Z) (f : Nat) (L : ZLV) (st : List Value) (σ : ZHp) (n k w : Nat) : Z (f + 1) 26 L st σ n k w = s_getf 14 12 29 L st σ n k w (zk1 cut G (Z f)) G R T := zrs hZ rfl f L st σ n k w
theorem f_X15_playHand_29 (hZ : ZRN (ztb (tb_X15_playHand E d mc ms)) cut G R T Z) (f : Nat) (L : ZLV) (st : List Value) (σ : ZHp) (n k w : Nat) : Z (f + 1) 29 L st σ n k w = s_aload 0 30 L st σ n k w (zk1 cut G (Z f)) G R T := zrs hZ rfl f L st σ n k w
theorem f_X15_playHand_30 (hZ : ZRN (ztb (tb_X15_playHand E d mc ms)) cut G R T Z) (f : Nat) (L : ZLV) (st : List Value) (σ : ZHp) (n k w : Nat) : Z (f + 1) 30 L st σ n k w = s_getf 14 14 33 L st σ n k w (zk1 cut G (Z f)) G R T := zrs hZ rfl f L st σ n k w
theorem f_X15_playHand_33 (hZ : ZRN (ztb (tb_X15_playHand E d mc ms)) cut G R T Z) (f : Nat) (L : ZLV) (st : List Value) (σ : ZHp) (n k w : Nat) : Z (f + 1) 33 L st σ n k w = s_iaload E 34 L st σ n k w (zk1 cut G (Z f)) G R T := zrs hZ rfl f L st σ n k w
theorem f_X15_playHand_34 (hZ : ZRN (ztb (tb_X15_playHand E d mc ms)) cut G R T Z) (f : Nat) (L : ZLV) (st : List Value) (σ : ZHp) (n k w : Nat) : Z (f + 1) 34 L st σ n k w = s_istore 1 35 L st σ n k w (zk1 cut G (Z f)) G R T := zrs hZ rfl f L st σ n k w
theorem f_X15_playHand_35 (hZ : ZRN (ztb (tb_X15_playHand E d mc ms)) cut G R T Z) (f : Nat) (L : ZLV) (st : List Value) (σ : ZHp) (n k w : Nat) : Z (f + 1) 35 L st σ n k w = s_aload 0 36 L st σ n k w (zk1 cut G (Z f)) G R T := zrs hZ rfl f L st σ n k w
theorem f_X15_playHand_36 (hZ : ZRN (ztb (tb_X15_playHand E d mc ms)) cut G R T Z) (f : Nat) (L : ZLV) (st : List Value) (σ : ZHp) (n k w : Nat) : Z (f + 1) 36 L st σ n k w = s_getf 14 15 39 L st σ n k w (zk1 cut G (Z f)) G R T := zrs hZ rfl f L st σ n k w
theorem f_X15_playHand_39 (hZ : ZRN (ztb (tb_X15_playHand E d mc ms)) cut G R T Z) (f : Nat) (L : ZLV) (st : List Value) (σ : ZHp) (n k w : Nat) : Z (f + 1) 39 L st σ n k w = s_iload 1 40 L st σ n k w (zk1 cut G (Z f)) G R T := zrs hZ rfl f L st σ n k w
theorem f_X15_playHand_40 (hZ : ZRN (ztb (tb_X15_playHand E d mc ms)) cut G R T Z) (f : Nat) (L : ZLV) (st : List Value) (σ : ZHp) (n k w : Nat) : Z (f + 1) 40 L st σ n k w = s_dup2 41 L st σ n k w (zk1 cut G (Z f)) G R T := zrs hZ rfl f L st σ n k w
theorem f_X15_playHand_41 (hZ : ZRN (ztb (tb_X15_playHand E d mc ms)) cut G R T Z) (f : Nat) (L : ZLV) (st : List Value) (σ : ZHp) (n k w : Nat) : Z (f + 1) 41 L st σ n k w = s_iaload E 42 L st σ n k w (zk1 cut G (Z f)) G R T := zrs hZ rfl f L st σ n k w
theorem f_X15_playHand_42 (hZ : ZRN (ztb (tb_X15_playHand E d mc ms)) cut G R T Z) (f : Nat) (L : ZLV) (st : List Value) (σ : ZHp) (n k w : Nat) : Z (f + 1) 42 L st σ n k w = s_const (.int (1)) 43 L st σ n k w (zk1 cut G (Z f)) G R T := zrs hZ rfl f L st σ n k w
theorem f_X15_playHand_43 (hZ : ZRN (ztb (tb_X15_playHand E d mc ms)) cut G R T Z) (f : Nat) (L : ZLV) (st : List Value) (σ : ZHp) (n k w : Nat) : Z (f + 1) 43 L st σ n k w = s_iadd 44 L st σ n k w (zk1 cut G (Z f)) G R T := zrs hZ rfl f L st σ n k w
theorem f_X15_playHand_44 (hZ : ZRN (ztb (tb_X15_playHand E d mc ms)) cut G R T Z) (f : Nat) (L : ZLV) (st : List Value) (σ : ZHp) (n k w : Nat) : Z (f + 1) 44 L st σ n k w = s_iastore E 45 L st σ n k w (zk1 cut G (Z f)) G R T := zrs hZ rfl f L st σ n k w
theorem f_X15_playHand_45 (hZ : ZRN (ztb (tb_X15_playHand E d mc ms)) cut G R T Z) (f : Nat) (L : ZLV) (st : List Value) (σ : ZHp) (n k w : Nat) : Z (f + 1) 45 L st σ n k w = s_aload 0 46 L st σ n k w (zk1 cut G (Z f)) G R T := zrs hZ rfl f L st σ n k w
theorem f_X15_playHand_46 (hZ : ZRN (ztb (tb_X15_playHand E d mc ms)) cut G R T Z) (f : Nat) (L : ZLV) (st : List Value) (σ : ZHp) (n k w : Nat) : Z (f + 1) 46 L st σ n k w = s_getf 14 10 49 L st σ n k w (zk1 cut G (Z f)) G R T := zrs hZ rfl f L st σ n k w
theorem f_X15_playHand_49 (hZ : ZRN (ztb (tb_X15_playHand E d mc ms)) cut G R T Z) (f : Nat) (L : ZLV) (st : List Value) (σ : ZHp) (n k w : Nat) : Z (f + 1) 49 L st σ n k w = s_getf 13 4 52 L st σ n k w (zk1 cut G (Z f)) G R T := zrs hZ rfl f L st σ n k w
theorem f_X15_playHand_52 (hZ : ZRN (ztb (tb_X15_playHand E d mc ms)) cut G R T Z) (f : Nat) (L : ZLV) (st : List Value) (σ : ZHp) (n k w : Nat) : Z (f + 1) 52 L st σ n k w = s_iload 1 53 L st σ n k w (zk1 cut G (Z f)) G R T := zrs hZ rfl f L st σ n k w
theorem f_X15_playHand_53 (hZ : ZRN (ztb (tb_X15_playHand E d mc ms)) cut G R T Z) (f : Nat) (L : ZLV) (st : List Value) (σ : ZHp) (n k w : Nat) : Z (f + 1) 53 L st σ n k w = s_dup2 54 L st σ n k w (zk1 cut G (Z f)) G R T := zrs hZ rfl f L st σ n k w
theorem f_X15_playHand_54 (hZ : ZRN (ztb (tb_X15_playHand E d mc ms)) cut G R T Z) (f : Nat) (L : ZLV) (st : List Value) (σ : ZHp) (n k w : Nat) : Z (f + 1) 54 L st σ n k w = s_iaload E 55 L st σ n k w (zk1 cut G (Z f)) G R T := zrs hZ rfl f L st σ n k w
theorem f_X15_playHand_55 (hZ : ZRN (ztb (tb_X15_playHand E d mc ms)) cut G R T Z) (f : Nat) (L : ZLV) (st : List Value) (σ : ZHp) (n k w : Nat) : Z (f + 1) 55 L st σ n k w = s_const (.int (1)) 56 L st σ n k w (zk1 cut G (Z f)) G R T := zrs hZ rfl f L st σ n k w
theorem f_X15_playHand_56 (hZ : ZRN (ztb (tb_X15_playHand E d mc ms)) cut G R T Z) (f : Nat) (L : ZLV) (st : List Value) (σ : ZHp) (n k w : Nat) : Z (f + 1) 56 L st σ n k w = s_iadd 57 L st σ n k w (zk1 cut G (Z f)) G R T := zrs hZ rfl f L st σ n k w
theorem f_X15_playHand_57 (hZ : ZRN (ztb (tb_X15_playHand E d mc ms)) cut G R T Z) (f : Nat) (L : ZLV) (st : List Value) (σ : ZHp) (n k w : Nat) : Z (f + 1) 57 L st σ n k w = s_iastore E 58 L st σ n k w (zk1 cut G (Z f)) G R T := zrs hZ rfl f L st σ n k w
theorem f_X15_playHand_58 (hZ : ZRN (ztb (tb_X15_playHand E d mc ms)) cut G R T Z) (f : Nat) (L : ZLV) (st : List Value) (σ : ZHp) (n k w : Nat) : Z (f + 1) 58 L st σ n k w = s_const (.int (0)) 59 L st σ n k w (zk1 cut G (Z f)) G R T := zrs hZ rfl f L st σ n k w
theorem f_X15_playHand_59 (hZ : ZRN (ztb (tb_X15_playHand E d mc ms)) cut G R T Z) (f : Nat) (L : ZLV) (st : List Value) (σ : ZHp) (n k w : Nat) : Z (f + 1) 59 L st σ n k w = s_istore 2 60 L st σ n k w (zk1 cut G (Z f)) G R T := zrs hZ rfl f L st σ n k w
theorem f_X15_playHand_60 (hZ : ZRN (ztb (tb_X15_playHand E d mc ms)) cut G R T Z) (f : Nat) (L : ZLV) (st : List Value) (σ : ZHp) (n k w : Nat) : Z (f + 1) 60 L st σ n k w = s_iload 2 61 L st σ n k w (zk1 cut G (Z f)) G R T := zrs hZ rfl f L st σ n k w
theorem f_X15_playHand_61 (hZ : ZRN (ztb (tb_X15_playHand E d mc ms)) cut G R T Z) (f : Nat) (L : ZLV) (st : List Value) (σ : ZHp) (n k w : Nat) : Z (f + 1) 61 L st σ n k w = s_aload 0 62 L st σ n k w (zk1 cut G (Z f)) G R T := zrs hZ rfl f L st σ n k w
theorem f_X15_playHand_62 (hZ : ZRN (ztb (tb_X15_playHand E d mc ms)) cut G R T Z) (f : Nat) (L : ZLV) (st : List Value) (σ : ZHp) (n k w : Nat) : Z (f + 1) 62 L st σ n k w = s_getf 14 6 65 L st σ n k w (zk1 cut G (Z f)) G R T := zrs hZ rfl f L st σ n k w
theorem f_X15_playHand_65 (hZ : ZRN (ztb (tb_X15_playHand E d mc ms)) cut G R T Z) (f : Nat) (L : ZLV) (st : List Value) (σ : ZHp) (n k w : Nat) : Z (f + 1) 65 L st σ n k w = s_getf 12 10 68 L st σ n k w (zk1 cut G (Z f)) G R T := zrs hZ rfl f L st σ n k w
theorem f_X15_playHand_68 (hZ : ZRN (ztb (tb_X15_playHand E d mc ms)) cut G R T Z) (f : Nat) (L : ZLV) (st : List Value) (σ : ZHp) (n k w : Nat) : Z (f + 1) 68 L st σ n k w = s_iload 1 69 L st σ n k w (zk1 cut G (Z f)) G R T := zrs hZ rfl f L st σ n k w
theorem f_X15_playHand_69 (hZ : ZRN (ztb (tb_X15_playHand E d mc ms)) cut G R T Z) (f : Nat) (L : ZLV) (st : List Value) (σ : ZHp) (n k w : Nat) : Z (f + 1) 69 L st σ n k w = s_iaload E 70 L st σ n k w (zk1 cut G (Z f)) G R T := zrs hZ rfl f L st σ n k w
theorem f_X15_playHand_70 (hZ : ZRN (ztb (tb_X15_playHand E d mc ms)) cut G R T Z) (f : Nat) (L : ZLV) (st : List Value) (σ : ZHp) (n k w : Nat) : Z (f + 1) 70 L st σ n k w = s_icmp_ge 97 73 L st σ n k w (zk1 cut G (Z f)) G R T := zrs hZ rfl f L st σ n k w
theorem f_X15_playHand_73 (hZ : ZRN (ztb (tb_X15_playHand E d mc ms)) cut G R T Z) (f : Nat) (L : ZLV) (st : List Value) (σ : ZHp) (n k w : Nat) : Z (f + 1) 73 L st σ n k w = s_aload 0 74 L st σ n k w (zk1 cut G (Z f)) G R T := zrs hZ rfl f L st σ n k w
theorem f_X15_playHand_74 (hZ : ZRN (ztb (tb_X15_playHand E d mc ms)) cut G R T Z) (f : Nat) (L : ZLV) (st : List Value) (σ : ZHp) (n k w : Nat) : Z (f + 1) 74 L st σ n k w = s_aload 0 75 L st σ n k w (zk1 cut G (Z f)) G R T := zrs hZ rfl f L st σ n k w
theorem f_X15_playHand_75 (hZ : ZRN (ztb (tb_X15_playHand E d mc ms)) cut G R T Z) (f : Nat) (L : ZLV) (st : List Value) (σ : ZHp) (n k w : Nat) : Z (f + 1) 75 L st σ n k w = s_getf 14 6 78 L st σ n k w (zk1 cut G (Z f)) G R T := zrs hZ rfl f L st σ n k w
theorem f_X15_playHand_78 (hZ : ZRN (ztb (tb_X15_playHand E d mc ms)) cut G R T Z) (f : Nat) (L : ZLV) (st : List Value) (σ : ZHp) (n k w : Nat) : Z (f + 1) 78 L st σ n k w = s_getf 12 11 81 L st σ n k w (zk1 cut G (Z f)) G R T := zrs hZ rfl f L st σ n k w
theorem f_X15_playHand_81 (hZ : ZRN (ztb (tb_X15_playHand E d mc ms)) cut G R T Z) (f : Nat) (L : ZLV) (st : List Value) (σ : ZHp) (n k w : Nat) : Z (f + 1) 81 L st σ n k w = s_const (.int (4)) 82 L st σ n k w (zk1 cut G (Z f)) G R T := zrs hZ rfl f L st σ n k w
theorem f_X15_playHand_82 (hZ : ZRN (ztb (tb_X15_playHand E d mc ms)) cut G R T Z) (f : Nat) (L : ZLV) (st : List Value) (σ : ZHp) (n k w : Nat) : Z (f + 1) 82 L st σ n k w = s_iload 1 83 L st σ n k w (zk1 cut G (Z f)) G R T := zrs hZ rfl f L st σ n k w
theorem f_X15_playHand_83 (hZ : ZRN (ztb (tb_X15_playHand E d mc ms)) cut G R T Z) (f : Nat) (L : ZLV) (st : List Value) (σ : ZHp) (n k w : Nat) : Z (f + 1) 83 L st σ n k w = s_imul 84 L st σ n k w (zk1 cut G (Z f)) G R T := zrs hZ rfl f L st σ n k w
theorem f_X15_playHand_84 (hZ : ZRN (ztb (tb_X15_playHand E d mc ms)) cut G R T Z) (f : Nat) (L : ZLV) (st : List Value) (σ : ZHp) (n k w : Nat) : Z (f + 1) 84 L st σ n k w = s_iload 2 85 L st σ n k w (zk1 cut G (Z f)) G R T := zrs hZ rfl f L st σ n k w
theorem f_X15_playHand_85 (hZ : ZRN (ztb (tb_X15_playHand E d mc ms)) cut G R T Z) (f : Nat) (L : ZLV) (st : List Value) (σ : ZHp) (n k w : Nat) : Z (f + 1) 85 L st σ n k w = s_iadd 86 L st σ n k w (zk1 cut G (Z f)) G R T := zrs hZ rfl f L st σ n k w
theorem f_X15_playHand_86 (hZ : ZRN (ztb (tb_X15_playHand E d mc ms)) cut G R T Z) (f : Nat) (L : ZLV) (st : List Value) (σ : ZHp) (n k w : Nat) : Z (f + 1) 86 L st σ n k w = s_iaload E 87 L st σ n k w (zk1 cut G (Z f)) G R T := zrs hZ rfl f L st σ n k w
theorem f_X15_playHand_87 (hZ : ZRN (ztb (tb_X15_playHand E d mc ms)) cut G R T Z) (f : Nat) (L : ZLV) (st : List Value) (σ : ZHp) (n k w : Nat) : Z (f + 1) 87 L st σ n k w = s_iload 1 88 L st σ n k w (zk1 cut G (Z f)) G R T := zrs hZ rfl f L st σ n k w
theorem f_X15_playHand_88 (hZ : ZRN (ztb (tb_X15_playHand E d mc ms)) cut G R T Z) (f : Nat) (L : ZLV) (st : List Value) (σ : ZHp) (n k w : Nat) : Z (f + 1) 88 L st σ n k w = s_callV E d mc ms 14 MX15_doDeed 2 91 L st σ n k w (zk1 cut G (Z f)) G R T := zrs hZ rfl f L st σ n k w
theorem f_X15_playHand_91 (hZ : ZRN (ztb (tb_X15_playHand E d mc ms)) cut G R T Z) (f : Nat) (L : ZLV) (st : List Value) (σ : ZHp) (n k w : Nat) : Z (f + 1) 91 L st σ n k w = s_iinc 2 (1) 94 L st σ n k w (zk1 cut G (Z f)) G R T := zrs hZ rfl f L st σ n k w
theorem f_X15_playHand_94 (hZ : ZRN (ztb (tb_X15_playHand E d mc ms)) cut G R T Z) (f : Nat) (L : ZLV) (st : List Value) (σ : ZHp) (n k w : Nat) : Z (f + 1) 94 L st σ n k w = s_goto 60 L st σ n k w (zk1 cut G (Z f)) G R T := zrs hZ rfl f L st σ n k w
theorem f_X15_playHand_97 (hZ : ZRN (ztb (tb_X15_playHand E d mc ms)) cut G R T Z) (f : Nat) (L : ZLV) (st : List Value) (σ : ZHp) (n k w : Nat) : Z (f + 1) 97 L st σ n k w = s_aload 0 98 L st σ n k w (zk1 cut G (Z f)) G R T := zrs hZ rfl f L st σ n k w
theorem f_X15_playHand_98 (hZ : ZRN (ztb (tb_X15_playHand E d mc ms)) cut G R T Z) (f : Nat) (L : ZLV) (st : List Value) (σ : ZHp) (n k w : Nat) : Z (f + 1) 98 L st σ n k w = s_dup 99 L st σ n k w (zk1 cut G (Z f)) G R T := zrs hZ rfl f L st σ n k w
theorem f_X15_playHand_99 (hZ : ZRN (ztb (tb_X15_playHand E d mc ms)) cut G R T Z) (f : Nat) (L : ZLV) (st : List Value) (σ : ZHp) (n k w : Nat) : Z (f + 1) 99 L st σ n k w = s_getf 14 14 102 L st σ n k w (zk1 cut G (Z f)) G R T := zrs hZ rfl f L st σ n k w
theorem f_X15_playHand_102 (hZ : ZRN (ztb (tb_X15_playHand E d mc ms)) cut G R T Z) (f : Nat) (L : ZLV) (st : List Value) (σ : ZHp) (n k w : Nat) : Z (f + 1) 102 L st σ n k w = s_const (.int (1)) 103 L st σ n k w (zk1 cut G (Z f)) G R T := zrs hZ rfl f L st σ n k w
theorem f_X15_playHand_103 (hZ : ZRN (ztb (tb_X15_playHand E d mc ms)) cut G R T Z) (f : Nat) (L : ZLV) (st : List Value) (σ : ZHp) (n k w : Nat) : Z (f + 1) 103 L st σ n k w = s_iadd 104 L st σ n k w (zk1 cut G (Z f)) G R T := zrs hZ rfl f L st σ n k w
theorem f_X15_playHand_104 (hZ : ZRN (ztb (tb_X15_playHand E d mc ms)) cut G R T Z) (f : Nat) (L : ZLV) (st : List Value) (σ : ZHp) (n k w : Nat) : Z (f + 1) 104 L st σ n k w = s_putf 14 14 0 107 L st σ n k w (zk1 cut G (Z f)) G R T := zrs hZ rfl f L st σ n k w
theorem f_X15_playHand_107 (hZ : ZRN (ztb (tb_X15_playHand E d mc ms)) cut G R T Z) (f : Nat) (L : ZLV) (st : List Value) (σ : ZHp) (n k w : Nat) : Z (f + 1) 107 L st σ n k w = s_goto 5 L st σ n k w (zk1 cut G (Z f)) G R T := zrs hZ rfl f L st σ n k w
theorem f_X15_playHand_110 (hZ : ZRN (ztb (tb_X15_playHand E d mc ms)) cut G R T Z) (f : Nat) (L : ZLV) (st : List Value) (σ : ZHp) (n k w : Nat) : Z (f + 1) 110 L st σ n k w = s_return L st σ n k w (zk1 cut G (Z f)) G R T := zrs hZ rfl f L st σ n k w
end
