/-! TABLES: what each instruction does, that it does so, and each one by its place (printed by wip/whole/gen/gentab.py) -/
def tb_X15_advise (E : ZEX) (d mc ms : Nat) : List (Nat × ZStep) := [(0, s_aload 0 1), (1, s_const (.int (0)) 2), (2, s_putf 14 0 0 5), (5, s_aload 0 6), (6, s_iload 1 7), (7, s_callV E d mc ms 14 MX15_isMerchant 1 10), (10, s_if_ne 19 13), (13, s_aload 0 14), (14, s_const (.int (1)) 15), (15, s_callV E d mc ms 14 MX15_no 1 18), (18, s_ireturn), (19, s_iload 2 20), (20, s_const (.int (1)) 21), (21, s_const (.int (20)) 23), (23, s_callS E d mc ms MX15_isIn 3 26), (26, s_if_ne 35 29), (29, s_aload 0 30), (30, s_const (.int (2)) 31), (31, s_callV E d mc ms 14 MX15_no 1 34), (34, s_ireturn), (35, s_const (.int (-1)) 36), (36, s_istore 3 37), (37, s_const (.int (0)) 38), (38, s_istore 4 40), (40, s_const (.int (0)) 41), (41, s_istore 5 43), (43, s_iload 5 45), (45, s_aload 0 46), (46, s_getf 14 6 49), (49, s_getf 12 5 52), (52, s_icmp_ge 137 55), (55, s_aload 0 56), (56, s_iload 1 57), (57, s_iload 5 59), (59, s_callV E d mc ms 14 MX15_canGive 2 62), (62, s_if_ne 68 65), (65, s_goto 131), (68, s_aload 0 69), (69, s_getf 14 8 72), (72, s_aload 0 73), (73, s_getf 14 7 76), (76, s_callV E d mc ms 13 MX14_become 1 79), (79, s_aload 0 80), (80, s_getf 14 8 83), (83, s_iload 1 84), (84, s_iload 5 86), (86, s_callS E d mc ms MX15_give 3 89), (89, s_aload 0 90), (90, s_aload 0 91), (91, s_getf 14 8 94), (94, s_iload 2 95), (95, s_callV E d mc ms 14 MX15_rounds 2 98), (98, s_aload 0 99), (99, s_aload 0 100), (100, s_getf 14 8 103), (103, s_iload 1 104), (104, s_callV E d mc ms 14 MX15_worthOf 2 107), (107, s_istore 6 109), (109, s_iload 3 110), (110, s_const (.int (-1)) 111), (111, s_icmp_eq 124 114), (114, s_iload 6 116), (116, s_iload 4 118), (118, s_icmp_gt 124 121), (121, s_goto 131), (124, s_iload 6 126), (126, s_istore 4 128), (128, s_iload 5 130), (130, s_istore 3 131), (131, s_iinc 5 (1) 134), (134, s_goto 43), (137, s_iload 3 138), (138, s_ireturn)]
set_option maxRecDepth 20000 in
theorem ok_X15_advise {E : ZEX} {X : ZMX} {d mc ms : Nat} {P : ZPT} {T : ZTT} (h : ZCX E X MX15_advise d mc ms P T) : ∀ pc, ZRow E X MX15_advise mc ms P T pc (ztb (tb_X15_advise E d mc ms) pc) := ztb_ok (by
  unfold tb_X15_advise
  refine zfmc (r_aload_n h (pc := 0) (kf := 0) 0 (by decide +kernel) rfl) ?_
  refine zfmc (r_iconst h (pc := 1) (z := 0) (by decide +kernel) (0) (by decide +kernel)) ?_
  refine zfmc (r_putf h (pc := 2) (ix := 46) (by decide +kernel) ckX15 0 (by decide) 0 (fty := tyX15 0) (tyX15_ok 0 (by decide)) rfl rfl wk_57ca463f01) ?_
  refine zfmc (r_aload_n h (pc := 5) (kf := 0) 0 (by decide +kernel) rfl) ?_
  refine zfmc (r_iload_n h (pc := 6) (kf := 1) 1 (by decide +kernel) rfl) ?_
  refine zfmc (r_callV h (pc := 7) (ix := 437) (by decide +kernel) ckX15 1 mcX15_isMerchant wk_dc01e6bb07 wk_2f31eaf1ca wk_677c3c0242 rfl) ?_
  refine zfmc (r_if_ne h (pc := 10) (off := 9) (by decide +kernel) 19 (by decide +kernel)) ?_
  refine zfmc (r_aload_n h (pc := 13) (kf := 0) 0 (by decide +kernel) rfl) ?_
  refine zfmc (r_iconst h (pc := 14) (z := 1) (by decide +kernel) (1) (by decide +kernel)) ?_
  refine zfmc (r_callV h (pc := 15) (ix := 408) (by decide +kernel) ckX15 1 mcX15_no wk_d6e972a452 wk_8e3f3b9ff5 wk_f18335f135 rfl) ?_
  refine zfmc (r_ireturn h (pc := 18) (by decide +kernel) rfl) ?_
  refine zfmc (r_iload_n h (pc := 19) (kf := 2) 2 (by decide +kernel) rfl) ?_
  refine zfmc (r_iconst h (pc := 20) (z := 1) (by decide +kernel) (1) (by decide +kernel)) ?_
  refine zfmc (r_bipush h (pc := 21) (z := 20) (by decide +kernel) (20) (by decide +kernel)) ?_
  refine zfmc (r_callS h (pc := 23) (ix := 52) (by decide +kernel) 3 mcX15_isIn wk_ed1f636136 wk_d0354324c1) ?_
  refine zfmc (r_if_ne h (pc := 26) (off := 9) (by decide +kernel) 35 (by decide +kernel)) ?_
  refine zfmc (r_aload_n h (pc := 29) (kf := 0) 0 (by decide +kernel) rfl) ?_
  refine zfmc (r_iconst h (pc := 30) (z := 2) (by decide +kernel) (2) (by decide +kernel)) ?_
  refine zfmc (r_callV h (pc := 31) (ix := 408) (by decide +kernel) ckX15 1 mcX15_no wk_d6e972a452 wk_8e3f3b9ff5 wk_f18335f135 rfl) ?_
  refine zfmc (r_ireturn h (pc := 34) (by decide +kernel) rfl) ?_
  refine zfmc (r_iconst h (pc := 35) (z := -1) (by decide +kernel) (-1) (by decide +kernel)) ?_
  refine zfmc (r_istore_n h (pc := 36) (kf := 3) 3 (by decide +kernel) rfl (by decide +kernel)) ?_
  refine zfmc (r_iconst h (pc := 37) (z := 0) (by decide +kernel) (0) (by decide +kernel)) ?_
  refine zfmc (r_istore h (pc := 38) 4 (by decide +kernel) (by decide +kernel)) ?_
  refine zfmc (r_iconst h (pc := 40) (z := 0) (by decide +kernel) (0) (by decide +kernel)) ?_
  refine zfmc (r_istore h (pc := 41) 5 (by decide +kernel) (by decide +kernel)) ?_
  refine zfmc (r_iload h (pc := 43) 5 (by decide +kernel)) ?_
  refine zfmc (r_aload_n h (pc := 45) (kf := 0) 0 (by decide +kernel) rfl) ?_
  refine zfmc (r_getf h (pc := 46) (ix := 20) (by decide +kernel) ckX15 6 (by decide) wk_bda7210969) ?_
  refine zfmc (r_getfN h (pc := 49) (ix := 49) (by decide +kernel) ckX13 5 (by decide) wk_e01ba970e0) ?_
  refine zfmc (r_icmp_ge h (pc := 52) (off := 85) (by decide +kernel) 137 (by decide +kernel)) ?_
  refine zfmc (r_aload_n h (pc := 55) (kf := 0) 0 (by decide +kernel) rfl) ?_
  refine zfmc (r_iload_n h (pc := 56) (kf := 1) 1 (by decide +kernel) rfl) ?_
  refine zfmc (r_iload h (pc := 57) 5 (by decide +kernel)) ?_
  refine zfmc (r_callV h (pc := 59) (ix := 447) (by decide +kernel) ckX15 2 mcX15_canGive wk_80ba0bcfb2 wk_5cbe6d6193 wk_9e3de439ab rfl) ?_
  refine zfmc (r_if_ne h (pc := 62) (off := 6) (by decide +kernel) 68 (by decide +kernel)) ?_
  refine zfmc (r_goto h (pc := 65) (off := 66) (by decide +kernel) 131 (by decide +kernel)) ?_
  refine zfmc (r_aload_n h (pc := 68) (kf := 0) 0 (by decide +kernel) rfl) ?_
  refine zfmc (r_getf h (pc := 69) (ix := 31) (by decide +kernel) ckX15 8 (by decide) wk_5e658eb7a5) ?_
  refine zfmc (r_aload_n h (pc := 72) (kf := 0) 0 (by decide +kernel) rfl) ?_
  refine zfmc (r_getf h (pc := 73) (ix := 27) (by decide +kernel) ckX15 7 (by decide) wk_bb0990f128) ?_
  refine zfmc (r_callV h (pc := 76) (ix := 461) (by decide +kernel) ckX14 1 mcX14_become wk_dd583291e7 wk_29e6ace742 wk_9a9842c5bc rfl) ?_
  refine zfmc (r_aload_n h (pc := 79) (kf := 0) 0 (by decide +kernel) rfl) ?_
  refine zfmc (r_getf h (pc := 80) (ix := 31) (by decide +kernel) ckX15 8 (by decide) wk_5e658eb7a5) ?_
  refine zfmc (r_iload_n h (pc := 83) (kf := 1) 1 (by decide +kernel) rfl) ?_
  refine zfmc (r_iload h (pc := 84) 5 (by decide +kernel)) ?_
  refine zfmc (r_callS h (pc := 86) (ix := 451) (by decide +kernel) 3 mcX15_give wk_e00381b72a wk_ed07d9a968) ?_
  refine zfmc (r_aload_n h (pc := 89) (kf := 0) 0 (by decide +kernel) rfl) ?_
  refine zfmc (r_aload_n h (pc := 90) (kf := 0) 0 (by decide +kernel) rfl) ?_
  refine zfmc (r_getf h (pc := 91) (ix := 31) (by decide +kernel) ckX15 8 (by decide) wk_5e658eb7a5) ?_
  refine zfmc (r_iload_n h (pc := 94) (kf := 2) 2 (by decide +kernel) rfl) ?_
  refine zfmc (r_callV h (pc := 95) (ix := 458) (by decide +kernel) ckX15 2 mcX15_rounds wk_4d9e675988 wk_40cca6d271 wk_adf265c318 rfl) ?_
  refine zfmc (r_aload_n h (pc := 98) (kf := 0) 0 (by decide +kernel) rfl) ?_
  refine zfmc (r_aload_n h (pc := 99) (kf := 0) 0 (by decide +kernel) rfl) ?_
  refine zfmc (r_getf h (pc := 100) (ix := 31) (by decide +kernel) ckX15 8 (by decide) wk_5e658eb7a5) ?_
  refine zfmc (r_iload_n h (pc := 103) (kf := 1) 1 (by decide +kernel) rfl) ?_
  refine zfmc (r_callV h (pc := 104) (ix := 404) (by decide +kernel) ckX15 2 mcX15_worthOf wk_fb0a21ee0e wk_92b92dda45 wk_87dffed090 rfl) ?_
  refine zfmc (r_istore h (pc := 107) 6 (by decide +kernel) (by decide +kernel)) ?_
  refine zfmc (r_iload_n h (pc := 109) (kf := 3) 3 (by decide +kernel) rfl) ?_
  refine zfmc (r_iconst h (pc := 110) (z := -1) (by decide +kernel) (-1) (by decide +kernel)) ?_
  refine zfmc (r_icmp_eq h (pc := 111) (off := 13) (by decide +kernel) 124 (by decide +kernel)) ?_
  refine zfmc (r_iload h (pc := 114) 6 (by decide +kernel)) ?_
  refine zfmc (r_iload h (pc := 116) 4 (by decide +kernel)) ?_
  refine zfmc (r_icmp_gt h (pc := 118) (off := 6) (by decide +kernel) 124 (by decide +kernel)) ?_
  refine zfmc (r_goto h (pc := 121) (off := 10) (by decide +kernel) 131 (by decide +kernel)) ?_
  refine zfmc (r_iload h (pc := 124) 6 (by decide +kernel)) ?_
  refine zfmc (r_istore h (pc := 126) 4 (by decide +kernel) (by decide +kernel)) ?_
  refine zfmc (r_iload h (pc := 128) 5 (by decide +kernel)) ?_
  refine zfmc (r_istore_n h (pc := 130) (kf := 3) 3 (by decide +kernel) rfl (by decide +kernel)) ?_
  refine zfmc (r_iinc h (pc := 131) 5 (z := 1) (by decide +kernel) (1) (by decide +kernel) (by decide +kernel)) ?_
  refine zfmc (r_goto h (pc := 134) (off := -91) (by decide +kernel) 43 (by decide +kernel)) ?_
  refine zfmc (r_iload_n h (pc := 137) (kf := 3) 3 (by decide +kernel) rfl) ?_
  refine zfmc (r_ireturn h (pc := 138) (by decide +kernel) rfl) ?_
  exact zfm0)
def tb_X15_mean (E : ZEX) (d mc ms : Nat) : List (Nat × ZStep) := [(0, s_aload 0 1), (1, s_const (.int (0)) 2), (2, s_putf 14 0 0 5), (5, s_const (.int (0)) 6), (6, s_istore 1 7), (7, s_const (.int (0)) 8), (8, s_istore 2 9), (9, s_iload 2 10), (10, s_aload 0 11), (11, s_getf 14 6 14), (14, s_getf 12 12 17), (17, s_icmp_ge 38 20), (20, s_iload 1 21), (21, s_aload 0 22), (22, s_aload 0 23), (23, s_getf 14 7 26), (26, s_iload 2 27), (27, s_callV E d mc ms 14 MX15_worthOf 2 30), (30, s_iadd 31), (31, s_istore 1 32), (32, s_iinc 2 (1) 35), (35, s_goto 9), (38, s_aload 0 39), (39, s_getf 14 6 42), (42, s_getf 12 12 45), (45, s_if_ne 52 48), (48, s_const (.double FP.dconst0) 49), (49, s_goto 63), (52, s_iload 1 53), (53, s_i2d 54), (54, s_aload 0 55), (55, s_getf 14 6 58), (58, s_getf 12 12 61), (61, s_i2d 62), (62, s_ddiv 63), (63, s_dreturn)]
set_option maxRecDepth 20000 in
theorem ok_X15_mean {E : ZEX} {X : ZMX} {d mc ms : Nat} {P : ZPT} {T : ZTT} (h : ZCX E X MX15_mean d mc ms P T) : ∀ pc, ZRow E X MX15_mean mc ms P T pc (ztb (tb_X15_mean E d mc ms) pc) := ztb_ok (by
  unfold tb_X15_mean
  refine zfmc (r_aload_n h (pc := 0) (kf := 0) 0 (by decide +kernel) rfl) ?_
  refine zfmc (r_iconst h (pc := 1) (z := 0) (by decide +kernel) (0) (by decide +kernel)) ?_
  refine zfmc (r_putf h (pc := 2) (ix := 46) (by decide +kernel) ckX15 0 (by decide) 0 (fty := tyX15 0) (tyX15_ok 0 (by decide)) rfl rfl wk_57ca463f01) ?_
  refine zfmc (r_iconst h (pc := 5) (z := 0) (by decide +kernel) (0) (by decide +kernel)) ?_
  refine zfmc (r_istore_n h (pc := 6) (kf := 1) 1 (by decide +kernel) rfl (by decide +kernel)) ?_
  refine zfmc (r_iconst h (pc := 7) (z := 0) (by decide +kernel) (0) (by decide +kernel)) ?_
  refine zfmc (r_istore_n h (pc := 8) (kf := 2) 2 (by decide +kernel) rfl (by decide +kernel)) ?_
  refine zfmc (r_iload_n h (pc := 9) (kf := 2) 2 (by decide +kernel) rfl) ?_
  refine zfmc (r_aload_n h (pc := 10) (kf := 0) 0 (by decide +kernel) rfl) ?_
  refine zfmc (r_getf h (pc := 11) (ix := 20) (by decide +kernel) ckX15 6 (by decide) wk_bda7210969) ?_
  refine zfmc (r_getfN h (pc := 14) (ix := 56) (by decide +kernel) ckX13 12 (by decide) wk_e206866251) ?_
  refine zfmc (r_icmp_ge h (pc := 17) (off := 21) (by decide +kernel) 38 (by decide +kernel)) ?_
  refine zfmc (r_iload_n h (pc := 20) (kf := 1) 1 (by decide +kernel) rfl) ?_
  refine zfmc (r_aload_n h (pc := 21) (kf := 0) 0 (by decide +kernel) rfl) ?_
  refine zfmc (r_aload_n h (pc := 22) (kf := 0) 0 (by decide +kernel) rfl) ?_
  refine zfmc (r_getf h (pc := 23) (ix := 27) (by decide +kernel) ckX15 7 (by decide) wk_bb0990f128) ?_
  refine zfmc (r_iload_n h (pc := 26) (kf := 2) 2 (by decide +kernel) rfl) ?_
  refine zfmc (r_callV h (pc := 27) (ix := 404) (by decide +kernel) ckX15 2 mcX15_worthOf wk_fb0a21ee0e wk_92b92dda45 wk_87dffed090 rfl) ?_
  refine zfmc (r_iadd h (pc := 30) (by decide +kernel)) ?_
  refine zfmc (r_istore_n h (pc := 31) (kf := 1) 1 (by decide +kernel) rfl (by decide +kernel)) ?_
  refine zfmc (r_iinc h (pc := 32) 2 (z := 1) (by decide +kernel) (1) (by decide +kernel) (by decide +kernel)) ?_
  refine zfmc (r_goto h (pc := 35) (off := -26) (by decide +kernel) 9 (by decide +kernel)) ?_
  refine zfmc (r_aload_n h (pc := 38) (kf := 0) 0 (by decide +kernel) rfl) ?_
  refine zfmc (r_getf h (pc := 39) (ix := 20) (by decide +kernel) ckX15 6 (by decide) wk_bda7210969) ?_
  refine zfmc (r_getfN h (pc := 42) (ix := 56) (by decide +kernel) ckX13 12 (by decide) wk_e206866251) ?_
  refine zfmc (r_if_ne h (pc := 45) (off := 7) (by decide +kernel) 52 (by decide +kernel)) ?_
  refine zfmc (r_dconst0 h (pc := 48) (by decide +kernel)) ?_
  refine zfmc (r_goto h (pc := 49) (off := 14) (by decide +kernel) 63 (by decide +kernel)) ?_
  refine zfmc (r_iload_n h (pc := 52) (kf := 1) 1 (by decide +kernel) rfl) ?_
  refine zfmc (r_i2d h (pc := 53) (by decide +kernel)) ?_
  refine zfmc (r_aload_n h (pc := 54) (kf := 0) 0 (by decide +kernel) rfl) ?_
  refine zfmc (r_getf h (pc := 55) (ix := 20) (by decide +kernel) ckX15 6 (by decide) wk_bda7210969) ?_
  refine zfmc (r_getfN h (pc := 58) (ix := 56) (by decide +kernel) ckX13 12 (by decide) wk_e206866251) ?_
  refine zfmc (r_i2d h (pc := 61) (by decide +kernel)) ?_
  refine zfmc (r_ddiv h (pc := 62) (by decide +kernel)) ?_
  refine zfmc (r_dreturn h (pc := 63) (by decide +kernel) rfl) ?_
  exact zfm0)
def tb_X15_digest (E : ZEX) (d mc ms : Nat) : List (Nat × ZStep) := [(0, s_aload 0 1), (1, s_const (.int (0)) 2), (2, s_putf 14 0 0 5), (5, s_const (.long (859)) 8), (8, s_lstore 1 9), (9, s_const (.int (0)) 10), (10, s_istore 3 11), (11, s_iload 3 12), (12, s_const (.int (8)) 14), (14, s_icmp_gt 40 17), (17, s_lload 1 18), (18, s_const (.long (31)) 21), (21, s_lmul 22), (22, s_aload 0 23), (23, s_aload 0 24), (24, s_getf 14 7 27), (27, s_iload 3 28), (28, s_callV E d mc ms 14 MX15_counted 2 31), (31, s_i2l 32), (32, s_ladd 33), (33, s_lstore 1 34), (34, s_iinc 3 (1) 37), (37, s_goto 11), (40, s_const (.int (0)) 41), (41, s_istore 3 42), (42, s_iload 3 43), (43, s_aload 0 44), (44, s_getf 14 6 47), (47, s_getf 12 5 50), (50, s_icmp_ge 90 53), (53, s_const (.int (0)) 54), (54, s_istore 4 56), (56, s_iload 4 58), (58, s_const (.int (6)) 60), (60, s_icmp_gt 84 63), (63, s_lload 1 64), (64, s_const (.long (31)) 67), (67, s_lmul 68), (68, s_aload 0 69), (69, s_iload 3 70), (70, s_iload 4 72), (72, s_callV E d mc ms 14 MX15_cardTold 2 75), (75, s_i2l 76), (76, s_ladd 77), (77, s_lstore 1 78), (78, s_iinc 4 (1) 81), (81, s_goto 56), (84, s_iinc 3 (1) 87), (87, s_goto 42), (90, s_const (.int (0)) 91), (91, s_istore 3 92), (92, s_iload 3 93), (93, s_aload 0 94), (94, s_getf 14 6 97), (97, s_getf 12 12 100), (100, s_icmp_ge 232 103), (103, s_const (.int (0)) 104), (104, s_istore 4 106), (106, s_iload 4 108), (108, s_const (.int (7)) 110), (110, s_icmp_gt 134 113), (113, s_lload 1 114), (114, s_const (.long (31)) 117), (117, s_lmul 118), (118, s_aload 0 119), (119, s_iload 3 120), (120, s_iload 4 122), (122, s_callV E d mc ms 14 MX15_merchantTold 2 125), (125, s_i2l 126), (126, s_ladd 127), (127, s_lstore 1 128), (128, s_iinc 4 (1) 131), (131, s_goto 106), (134, s_const (.int (0)) 135), (135, s_istore 4 137), (137, s_iload 4 139), (139, s_aload 0 140), (140, s_getf 14 7 143), (143, s_getf 13 7 146), (146, s_iload 3 147), (147, s_iaload E 148), (148, s_icmp_ge 180 151), (151, s_lload 1 152), (152, s_const (.long (31)) 155), (155, s_lmul 156), (156, s_aload 0 157), (157, s_getf 14 7 160), (160, s_getf 13 6 163), (163, s_const (.int (60)) 165), (165, s_iload 3 166), (166, s_imul 167), (167, s_iload 4 169), (169, s_iadd 170), (170, s_iaload E 171), (171, s_i2l 172), (172, s_ladd 173), (173, s_lstore 1 174), (174, s_iinc 4 (1) 177), (177, s_goto 137), (180, s_const (.int (0)) 181), (181, s_istore 4 183), (183, s_iload 4 185), (185, s_aload 0 186), (186, s_getf 14 7 189), (189, s_getf 13 9 192), (192, s_iload 3 193), (193, s_iaload E 194), (194, s_icmp_ge 226 197), (197, s_lload 1 198), (198, s_const (.long (31)) 201), (201, s_lmul 202), (202, s_aload 0 203), (203, s_getf 14 7 206), (206, s_getf 13 8 209), (209, s_const (.int (60)) 211), (211, s_iload 3 212), (212, s_imul 213), (213, s_iload 4 215), (215, s_iadd 216), (216, s_iaload E 217), (217, s_i2l 218), (218, s_ladd 219), (219, s_lstore 1 220), (220, s_iinc 4 (1) 223), (223, s_goto 183), (226, s_iinc 3 (1) 229), (229, s_goto 92), (232, s_lload 1 233), (233, s_lreturn)]
set_option maxRecDepth 20000 in
theorem ok_X15_digest {E : ZEX} {X : ZMX} {d mc ms : Nat} {P : ZPT} {T : ZTT} (h : ZCX E X MX15_digest d mc ms P T) : ∀ pc, ZRow E X MX15_digest mc ms P T pc (ztb (tb_X15_digest E d mc ms) pc) := ztb_ok (by
  unfold tb_X15_digest
  refine zfmc (r_aload_n h (pc := 0) (kf := 0) 0 (by decide +kernel) rfl) ?_
  refine zfmc (r_iconst h (pc := 1) (z := 0) (by decide +kernel) (0) (by decide +kernel)) ?_
  refine zfmc (r_putf h (pc := 2) (ix := 46) (by decide +kernel) ckX15 0 (by decide) 0 (fty := tyX15 0) (tyX15_ok 0 (by decide)) rfl rfl wk_57ca463f01) ?_
  refine zfmc (r_ldc2L h (pc := 5) (ix := 465) (by decide +kernel) (859) wk_e9d672830d) ?_
  refine zfmc (r_lstore_n h (pc := 8) (kf := 1) 1 (by decide +kernel) rfl (by decide +kernel)) ?_
  refine zfmc (r_iconst h (pc := 9) (z := 0) (by decide +kernel) (0) (by decide +kernel)) ?_
  refine zfmc (r_istore_n h (pc := 10) (kf := 3) 3 (by decide +kernel) rfl (by decide +kernel)) ?_
  refine zfmc (r_iload_n h (pc := 11) (kf := 3) 3 (by decide +kernel) rfl) ?_
  refine zfmc (r_bipush h (pc := 12) (z := 8) (by decide +kernel) (8) (by decide +kernel)) ?_
  refine zfmc (r_icmp_gt h (pc := 14) (off := 26) (by decide +kernel) 40 (by decide +kernel)) ?_
  refine zfmc (r_lload_n h (pc := 17) (kf := 1) 1 (by decide +kernel) rfl) ?_
  refine zfmc (r_ldc2L h (pc := 18) (ix := 467) (by decide +kernel) (31) wk_a27481d669) ?_
  refine zfmc (r_lmul h (pc := 21) (by decide +kernel)) ?_
  refine zfmc (r_aload_n h (pc := 22) (kf := 0) 0 (by decide +kernel) rfl) ?_
  refine zfmc (r_aload_n h (pc := 23) (kf := 0) 0 (by decide +kernel) rfl) ?_
  refine zfmc (r_getf h (pc := 24) (ix := 27) (by decide +kernel) ckX15 7 (by decide) wk_bb0990f128) ?_
  refine zfmc (r_iload_n h (pc := 27) (kf := 3) 3 (by decide +kernel) rfl) ?_
  refine zfmc (r_callV h (pc := 28) (ix := 428) (by decide +kernel) ckX15 2 mcX15_counted wk_696fc635b3 wk_7563dfc585 wk_27f8aa3aeb rfl) ?_
  refine zfmc (r_i2l h (pc := 31) (by decide +kernel)) ?_
  refine zfmc (r_ladd h (pc := 32) (by decide +kernel)) ?_
  refine zfmc (r_lstore_n h (pc := 33) (kf := 1) 1 (by decide +kernel) rfl (by decide +kernel)) ?_
  refine zfmc (r_iinc h (pc := 34) 3 (z := 1) (by decide +kernel) (1) (by decide +kernel) (by decide +kernel)) ?_
  refine zfmc (r_goto h (pc := 37) (off := -26) (by decide +kernel) 11 (by decide +kernel)) ?_
  refine zfmc (r_iconst h (pc := 40) (z := 0) (by decide +kernel) (0) (by decide +kernel)) ?_
  refine zfmc (r_istore_n h (pc := 41) (kf := 3) 3 (by decide +kernel) rfl (by decide +kernel)) ?_
  refine zfmc (r_iload_n h (pc := 42) (kf := 3) 3 (by decide +kernel) rfl) ?_
  refine zfmc (r_aload_n h (pc := 43) (kf := 0) 0 (by decide +kernel) rfl) ?_
  refine zfmc (r_getf h (pc := 44) (ix := 20) (by decide +kernel) ckX15 6 (by decide) wk_bda7210969) ?_
  refine zfmc (r_getfN h (pc := 47) (ix := 49) (by decide +kernel) ckX13 5 (by decide) wk_e01ba970e0) ?_
  refine zfmc (r_icmp_ge h (pc := 50) (off := 40) (by decide +kernel) 90 (by decide +kernel)) ?_
  refine zfmc (r_iconst h (pc := 53) (z := 0) (by decide +kernel) (0) (by decide +kernel)) ?_
  refine zfmc (r_istore h (pc := 54) 4 (by decide +kernel) (by decide +kernel)) ?_
  refine zfmc (r_iload h (pc := 56) 4 (by decide +kernel)) ?_
  refine zfmc (r_bipush h (pc := 58) (z := 6) (by decide +kernel) (6) (by decide +kernel)) ?_
  refine zfmc (r_icmp_gt h (pc := 60) (off := 24) (by decide +kernel) 84 (by decide +kernel)) ?_
  refine zfmc (r_lload_n h (pc := 63) (kf := 1) 1 (by decide +kernel) rfl) ?_
  refine zfmc (r_ldc2L h (pc := 64) (ix := 467) (by decide +kernel) (31) wk_a27481d669) ?_
  refine zfmc (r_lmul h (pc := 67) (by decide +kernel)) ?_
  refine zfmc (r_aload_n h (pc := 68) (kf := 0) 0 (by decide +kernel) rfl) ?_
  refine zfmc (r_iload_n h (pc := 69) (kf := 3) 3 (by decide +kernel) rfl) ?_
  refine zfmc (r_iload h (pc := 70) 4 (by decide +kernel)) ?_
  refine zfmc (r_callV h (pc := 72) (ix := 434) (by decide +kernel) ckX15 2 mcX15_cardTold wk_fbdcb41de5 wk_a558f4b4cf wk_c466e8a60c rfl) ?_
  refine zfmc (r_i2l h (pc := 75) (by decide +kernel)) ?_
  refine zfmc (r_ladd h (pc := 76) (by decide +kernel)) ?_
  refine zfmc (r_lstore_n h (pc := 77) (kf := 1) 1 (by decide +kernel) rfl (by decide +kernel)) ?_
  refine zfmc (r_iinc h (pc := 78) 4 (z := 1) (by decide +kernel) (1) (by decide +kernel) (by decide +kernel)) ?_
  refine zfmc (r_goto h (pc := 81) (off := -25) (by decide +kernel) 56 (by decide +kernel)) ?_
  refine zfmc (r_iinc h (pc := 84) 3 (z := 1) (by decide +kernel) (1) (by decide +kernel) (by decide +kernel)) ?_
  refine zfmc (r_goto h (pc := 87) (off := -45) (by decide +kernel) 42 (by decide +kernel)) ?_
  refine zfmc (r_iconst h (pc := 90) (z := 0) (by decide +kernel) (0) (by decide +kernel)) ?_
  refine zfmc (r_istore_n h (pc := 91) (kf := 3) 3 (by decide +kernel) rfl (by decide +kernel)) ?_
  refine zfmc (r_iload_n h (pc := 92) (kf := 3) 3 (by decide +kernel) rfl) ?_
  refine zfmc (r_aload_n h (pc := 93) (kf := 0) 0 (by decide +kernel) rfl) ?_
  refine zfmc (r_getf h (pc := 94) (ix := 20) (by decide +kernel) ckX15 6 (by decide) wk_bda7210969) ?_
  refine zfmc (r_getfN h (pc := 97) (ix := 56) (by decide +kernel) ckX13 12 (by decide) wk_e206866251) ?_
  refine zfmc (r_icmp_ge h (pc := 100) (off := 132) (by decide +kernel) 232 (by decide +kernel)) ?_
  refine zfmc (r_iconst h (pc := 103) (z := 0) (by decide +kernel) (0) (by decide +kernel)) ?_
  refine zfmc (r_istore h (pc := 104) 4 (by decide +kernel) (by decide +kernel)) ?_
  refine zfmc (r_iload h (pc := 106) 4 (by decide +kernel)) ?_
  refine zfmc (r_bipush h (pc := 108) (z := 7) (by decide +kernel) (7) (by decide +kernel)) ?_
  refine zfmc (r_icmp_gt h (pc := 110) (off := 24) (by decide +kernel) 134 (by decide +kernel)) ?_
  refine zfmc (r_lload_n h (pc := 113) (kf := 1) 1 (by decide +kernel) rfl) ?_
  refine zfmc (r_ldc2L h (pc := 114) (ix := 467) (by decide +kernel) (31) wk_a27481d669) ?_
  refine zfmc (r_lmul h (pc := 117) (by decide +kernel)) ?_
  refine zfmc (r_aload_n h (pc := 118) (kf := 0) 0 (by decide +kernel) rfl) ?_
  refine zfmc (r_iload_n h (pc := 119) (kf := 3) 3 (by decide +kernel) rfl) ?_
  refine zfmc (r_iload h (pc := 120) 4 (by decide +kernel)) ?_
  refine zfmc (r_callV h (pc := 122) (ix := 440) (by decide +kernel) ckX15 2 mcX15_merchantTold wk_0ca2f5a898 wk_45b42f7cf7 wk_fae4875af1 rfl) ?_
  refine zfmc (r_i2l h (pc := 125) (by decide +kernel)) ?_
  refine zfmc (r_ladd h (pc := 126) (by decide +kernel)) ?_
  refine zfmc (r_lstore_n h (pc := 127) (kf := 1) 1 (by decide +kernel) rfl (by decide +kernel)) ?_
  refine zfmc (r_iinc h (pc := 128) 4 (z := 1) (by decide +kernel) (1) (by decide +kernel) (by decide +kernel)) ?_
  refine zfmc (r_goto h (pc := 131) (off := -25) (by decide +kernel) 106 (by decide +kernel)) ?_
  refine zfmc (r_iconst h (pc := 134) (z := 0) (by decide +kernel) (0) (by decide +kernel)) ?_
  refine zfmc (r_istore h (pc := 135) 4 (by decide +kernel) (by decide +kernel)) ?_
  refine zfmc (r_iload h (pc := 137) 4 (by decide +kernel)) ?_
  refine zfmc (r_aload_n h (pc := 139) (kf := 0) 0 (by decide +kernel) rfl) ?_
  refine zfmc (r_getf h (pc := 140) (ix := 27) (by decide +kernel) ckX15 7 (by decide) wk_bb0990f128) ?_
  refine zfmc (r_getfN h (pc := 143) (ix := 392) (by decide +kernel) ckX14 7 (by decide) wk_67bfe7c55c) ?_
  refine zfmc (r_iload_n h (pc := 146) (kf := 3) 3 (by decide +kernel) rfl) ?_
  refine zfmc (r_iaload h (pc := 147) (by decide +kernel)) ?_
  refine zfmc (r_icmp_ge h (pc := 148) (off := 32) (by decide +kernel) 180 (by decide +kernel)) ?_
  refine zfmc (r_lload_n h (pc := 151) (kf := 1) 1 (by decide +kernel) rfl) ?_
  refine zfmc (r_ldc2L h (pc := 152) (ix := 467) (by decide +kernel) (31) wk_a27481d669) ?_
  refine zfmc (r_lmul h (pc := 155) (by decide +kernel)) ?_
  refine zfmc (r_aload_n h (pc := 156) (kf := 0) 0 (by decide +kernel) rfl) ?_
  refine zfmc (r_getf h (pc := 157) (ix := 27) (by decide +kernel) ckX15 7 (by decide) wk_bb0990f128) ?_
  refine zfmc (r_getfN h (pc := 160) (ix := 395) (by decide +kernel) ckX14 6 (by decide) wk_92a08cf95e) ?_
  refine zfmc (r_bipush h (pc := 163) (z := 60) (by decide +kernel) (60) (by decide +kernel)) ?_
  refine zfmc (r_iload_n h (pc := 165) (kf := 3) 3 (by decide +kernel) rfl) ?_
  refine zfmc (r_imul h (pc := 166) (by decide +kernel)) ?_
  refine zfmc (r_iload h (pc := 167) 4 (by decide +kernel)) ?_
  refine zfmc (r_iadd h (pc := 169) (by decide +kernel)) ?_
  refine zfmc (r_iaload h (pc := 170) (by decide +kernel)) ?_
  refine zfmc (r_i2l h (pc := 171) (by decide +kernel)) ?_
  refine zfmc (r_ladd h (pc := 172) (by decide +kernel)) ?_
  refine zfmc (r_lstore_n h (pc := 173) (kf := 1) 1 (by decide +kernel) rfl (by decide +kernel)) ?_
  refine zfmc (r_iinc h (pc := 174) 4 (z := 1) (by decide +kernel) (1) (by decide +kernel) (by decide +kernel)) ?_
  refine zfmc (r_goto h (pc := 177) (off := -40) (by decide +kernel) 137 (by decide +kernel)) ?_
  refine zfmc (r_iconst h (pc := 180) (z := 0) (by decide +kernel) (0) (by decide +kernel)) ?_
  refine zfmc (r_istore h (pc := 181) 4 (by decide +kernel) (by decide +kernel)) ?_
  refine zfmc (r_iload h (pc := 183) 4 (by decide +kernel)) ?_
  refine zfmc (r_aload_n h (pc := 185) (kf := 0) 0 (by decide +kernel) rfl) ?_
  refine zfmc (r_getf h (pc := 186) (ix := 27) (by decide +kernel) ckX15 7 (by decide) wk_bb0990f128) ?_
  refine zfmc (r_getfN h (pc := 189) (ix := 398) (by decide +kernel) ckX14 9 (by decide) wk_f3aeaa7482) ?_
  refine zfmc (r_iload_n h (pc := 192) (kf := 3) 3 (by decide +kernel) rfl) ?_
  refine zfmc (r_iaload h (pc := 193) (by decide +kernel)) ?_
  refine zfmc (r_icmp_ge h (pc := 194) (off := 32) (by decide +kernel) 226 (by decide +kernel)) ?_
  refine zfmc (r_lload_n h (pc := 197) (kf := 1) 1 (by decide +kernel) rfl) ?_
  refine zfmc (r_ldc2L h (pc := 198) (ix := 467) (by decide +kernel) (31) wk_a27481d669) ?_
  refine zfmc (r_lmul h (pc := 201) (by decide +kernel)) ?_
  refine zfmc (r_aload_n h (pc := 202) (kf := 0) 0 (by decide +kernel) rfl) ?_
  refine zfmc (r_getf h (pc := 203) (ix := 27) (by decide +kernel) ckX15 7 (by decide) wk_bb0990f128) ?_
  refine zfmc (r_getfN h (pc := 206) (ix := 401) (by decide +kernel) ckX14 8 (by decide) wk_463c0a872f) ?_
  refine zfmc (r_bipush h (pc := 209) (z := 60) (by decide +kernel) (60) (by decide +kernel)) ?_
  refine zfmc (r_iload_n h (pc := 211) (kf := 3) 3 (by decide +kernel) rfl) ?_
  refine zfmc (r_imul h (pc := 212) (by decide +kernel)) ?_
  refine zfmc (r_iload h (pc := 213) 4 (by decide +kernel)) ?_
  refine zfmc (r_iadd h (pc := 215) (by decide +kernel)) ?_
  refine zfmc (r_iaload h (pc := 216) (by decide +kernel)) ?_
  refine zfmc (r_i2l h (pc := 217) (by decide +kernel)) ?_
  refine zfmc (r_ladd h (pc := 218) (by decide +kernel)) ?_
  refine zfmc (r_lstore_n h (pc := 219) (kf := 1) 1 (by decide +kernel) rfl (by decide +kernel)) ?_
  refine zfmc (r_iinc h (pc := 220) 4 (z := 1) (by decide +kernel) (1) (by decide +kernel) (by decide +kernel)) ?_
  refine zfmc (r_goto h (pc := 223) (off := -40) (by decide +kernel) 183 (by decide +kernel)) ?_
  refine zfmc (r_iinc h (pc := 226) 3 (z := 1) (by decide +kernel) (1) (by decide +kernel) (by decide +kernel)) ?_
  refine zfmc (r_goto h (pc := 229) (off := -137) (by decide +kernel) 92 (by decide +kernel)) ?_
  refine zfmc (r_lload_n h (pc := 232) (kf := 1) 1 (by decide +kernel) rfl) ?_
  refine zfmc (r_lreturn h (pc := 233) (by decide +kernel) rfl) ?_
  exact zfm0)
section
variable {E : ZEX} {d mc ms : Nat} {cut : Nat → Bool} {G : ZCont} {R : ZRtn} {T : ZTT} {Z : Nat → ZCont}
theorem f_X15_advise_0 (hZ : ZRN (ztb (tb_X15_advise E d mc ms)) cut G R T Z) (f : Nat) (L : ZLV) (st : List Value) (σ : ZHp) (n k w : Nat) : Z (f + 1) 0 L st σ n k w = s_aload 0 1 L st σ n k w (zk1 cut G (Z f)) G R T := zrs hZ rfl f L st σ n k w
theorem f_X15_advise_1 (hZ : ZRN (ztb (tb_X15_advise E d mc ms)) cut G R T Z) (f : Nat) (L : ZLV) (st : List Value) (σ : ZHp) (n k w : Nat) : Z (f + 1) 1 L st σ n k w = s_const (.int (0)) 2 L st σ n k w (zk1 cut G (Z f)) G R T := zrs hZ rfl f L st σ n k w
theorem f_X15_advise_2 (hZ : ZRN (ztb (tb_X15_advise E d mc ms)) cut G R T Z) (f : Nat) (L : ZLV) (st : List Value) (σ : ZHp) (n k w : Nat) : Z (f + 1) 2 L st σ n k w = s_putf 14 0 0 5 L st σ n k w (zk1 cut G (Z f)) G R T := zrs hZ rfl f L st σ n k w
theorem f_X15_advise_5 (hZ : ZRN (ztb (tb_X15_advise E d mc ms)) cut G R T Z) (f : Nat) (L : ZLV) (st : List Value) (σ : ZHp) (n k w : Nat) : Z (f + 1) 5 L st σ n k w = s_aload 0 6 L st σ n k w (zk1 cut G (Z f)) G R T := zrs hZ rfl f L st σ n k w
theorem f_X15_advise_6 (hZ : ZRN (ztb (tb_X15_advise E d mc ms)) cut G R T Z) (f : Nat) (L : ZLV) (st : List Value) (σ : ZHp) (n k w : Nat) : Z (f + 1) 6 L st σ n k w = s_iload 1 7 L st σ n k w (zk1 cut G (Z f)) G R T := zrs hZ rfl f L st σ n k w
theorem f_X15_advise_7 (hZ : ZRN (ztb (tb_X15_advise E d mc ms)) cut G R T Z) (f : Nat) (L : ZLV) (st : List Value) (σ : ZHp) (n k w : Nat) : Z (f + 1) 7 L st σ n k w = s_callV E d mc ms 14 MX15_isMerchant 1 10 L st σ n k w (zk1 cut G (Z f)) G R T := zrs hZ rfl f L st σ n k w
theorem f_X15_advise_10 (hZ : ZRN (ztb (tb_X15_advise E d mc ms)) cut G R T Z) (f : Nat) (L : ZLV) (st : List Value) (σ : ZHp) (n k w : Nat) : Z (f + 1) 10 L st σ n k w = s_if_ne 19 13 L st σ n k w (zk1 cut G (Z f)) G R T := zrs hZ rfl f L st σ n k w
theorem f_X15_advise_13 (hZ : ZRN (ztb (tb_X15_advise E d mc ms)) cut G R T Z) (f : Nat) (L : ZLV) (st : List Value) (σ : ZHp) (n k w : Nat) : Z (f + 1) 13 L st σ n k w = s_aload 0 14 L st σ n k w (zk1 cut G (Z f)) G R T := zrs hZ rfl f L st σ n k w
theorem f_X15_advise_14 (hZ : ZRN (ztb (tb_X15_advise E d mc ms)) cut G R T Z) (f : Nat) (L : ZLV) (st : List Value) (σ : ZHp) (n k w : Nat) : Z (f + 1) 14 L st σ n k w = s_const (.int (1)) 15 L st σ n k w (zk1 cut G (Z f)) G R T := zrs hZ rfl f L st σ n k w
theorem f_X15_advise_15 (hZ : ZRN (ztb (tb_X15_advise E d mc ms)) cut G R T Z) (f : Nat) (L : ZLV) (st : List Value) (σ : ZHp) (n k w : Nat) : Z (f + 1) 15 L st σ n k w = s_callV E d mc ms 14 MX15_no 1 18 L st σ n k w (zk1 cut G (Z f)) G R T := zrs hZ rfl f L st σ n k w
theorem f_X15_advise_18 (hZ : ZRN (ztb (tb_X15_advise E d mc ms)) cut G R T Z) (f : Nat) (L : ZLV) (st : List Value) (σ : ZHp) (n k w : Nat) : Z (f + 1) 18 L st σ n k w = s_ireturn L st σ n k w (zk1 cut G (Z f)) G R T := zrs hZ rfl f L st σ n k w
theorem f_X15_advise_19 (hZ : ZRN (ztb (tb_X15_advise E d mc ms)) cut G R T Z) (f : Nat) (L : ZLV) (st : List Value) (σ : ZHp) (n k w : Nat) : Z (f + 1) 19 L st σ n k w = s_iload 2 20 L st σ n k w (zk1 cut G (Z f)) G R T := zrs hZ rfl f L st σ n k w
theorem f_X15_advise_20 (hZ : ZRN (ztb (tb_X15_advise E d mc ms)) cut G R T Z) (f : Nat) (L : ZLV) (st : List Value) (σ : ZHp) (n k w : Nat) : Z (f + 1) 20 L st σ n k w = s_const (.int (1)) 21 L st σ n k w (zk1 cut G (Z f)) G R T := zrs hZ rfl f L st σ n k w
theorem f_X15_advise_21 (hZ : ZRN (ztb (tb_X15_advise E d mc ms)) cut G R T Z) (f : Nat) (L : ZLV) (st : List Value) (σ : ZHp) (n k w : Nat) : Z (f + 1) 21 L st σ n k w = s_const (.int (20)) 23 L st σ n k w (zk1 cut G (Z f)) G R T := zrs hZ rfl f L st σ n k w
theorem f_X15_advise_23 (hZ : ZRN (ztb (tb_X15_advise E d mc ms)) cut G R T Z) (f : Nat) (L : ZLV) (st : List Value) (σ : ZHp) (n k w : Nat) : Z (f + 1) 23 L st σ n k w = s_callS E d mc ms MX15_isIn 3 26 L st σ n k w (zk1 cut G (Z f)) G R T := zrs hZ rfl f L st σ n k w
theorem f_X15_advise_26 (hZ : ZRN (ztb (tb_X15_advise E d mc ms)) cut G R T Z) (f : Nat) (L : ZLV) (st : List Value) (σ : ZHp) (n k w : Nat) : Z (f + 1) 26 L st σ n k w = s_if_ne 35 29 L st σ n k w (zk1 cut G (Z f)) G R T := zrs hZ rfl f L st σ n k w
theorem f_X15_advise_29 (hZ : ZRN (ztb (tb_X15_advise E d mc ms)) cut G R T Z) (f : Nat) (L : ZLV) (st : List Value) (σ : ZHp) (n k w : Nat) : Z (f + 1) 29 L st σ n k w = s_aload 0 30 L st σ n k w (zk1 cut G (Z f)) G R T := zrs hZ rfl f L st σ n k w
theorem f_X15_advise_30 (hZ : ZRN (ztb (tb_X15_advise E d mc ms)) cut G R T Z) (f : Nat) (L : ZLV) (st : List Value) (σ : ZHp) (n k w : Nat) : Z (f + 1) 30 L st σ n k w = s_const (.int (2)) 31 L st σ n k w (zk1 cut G (Z f)) G R T := zrs hZ rfl f L st σ n k w
theorem f_X15_advise_31 (hZ : ZRN (ztb (tb_X15_advise E d mc ms)) cut G R T Z) (f : Nat) (L : ZLV) (st : List Value) (σ : ZHp) (n k w : Nat) : Z (f + 1) 31 L st σ n k w = s_callV E d mc ms 14 MX15_no 1 34 L st σ n k w (zk1 cut G (Z f)) G R T := zrs hZ rfl f L st σ n k w
theorem f_X15_advise_34 (hZ : ZRN (ztb (tb_X15_advise E d mc ms)) cut G R T Z) (f : Nat) (L : ZLV) (st : List Value) (σ : ZHp) (n k w : Nat) : Z (f + 1) 34 L st σ n k w = s_ireturn L st σ n k w (zk1 cut G (Z f)) G R T := zrs hZ rfl f L st σ n k w
theorem f_X15_advise_35 (hZ : ZRN (ztb (tb_X15_advise E d mc ms)) cut G R T Z) (f : Nat) (L : ZLV) (st : List Value) (σ : ZHp) (n k w : Nat) : Z (f + 1) 35 L st σ n k w = s_const (.int (-1)) 36 L st σ n k w (zk1 cut G (Z f)) G R T := zrs hZ rfl f L st σ n k w
theorem f_X15_advise_36 (hZ : ZRN (ztb (tb_X15_advise E d mc ms)) cut G R T Z) (f : Nat) (L : ZLV) (st : List Value) (σ : ZHp) (n k w : Nat) : Z (f + 1) 36 L st σ n k w = s_istore 3 37 L st σ n k w (zk1 cut G (Z f)) G R T := zrs hZ rfl f L st σ n k w
theorem f_X15_advise_37 (hZ : ZRN (ztb (tb_X15_advise E d mc ms)) cut G R T Z) (f : Nat) (L : ZLV) (st : List Value) (σ : ZHp) (n k w : Nat) : Z (f + 1) 37 L st σ n k w = s_const (.int (0)) 38 L st σ n k w (zk1 cut G (Z f)) G R T := zrs hZ rfl f L st σ n k w
theorem f_X15_advise_38 (hZ : ZRN (ztb (tb_X15_advise E d mc ms)) cut G R T Z) (f : Nat) (L : ZLV) (st : List Value) (σ : ZHp) (n k w : Nat) : Z (f + 1) 38 L st σ n k w = s_istore 4 40 L st σ n k w (zk1 cut G (Z f)) G R T := zrs hZ rfl f L st σ n k w
theorem f_X15_advise_40 (hZ : ZRN (ztb (tb_X15_advise E d mc ms)) cut G R T Z) (f : Nat) (L : ZLV) (st : List Value) (σ : ZHp) (n k w : Nat) : Z (f + 1) 40 L st σ n k w = s_const (.int (0)) 41 L st σ n k w (zk1 cut G (Z f)) G R T := zrs hZ rfl f L st σ n k w
theorem f_X15_advise_41 (hZ : ZRN (ztb (tb_X15_advise E d mc ms)) cut G R T Z) (f : Nat) (L : ZLV) (st : List Value) (σ : ZHp) (n k w : Nat) : Z (f + 1) 41 L st σ n k w = s_istore 5 43 L st σ n k w (zk1 cut G (Z f)) G R T := zrs hZ rfl f L st σ n k w
theorem f_X15_advise_43 (hZ : ZRN (ztb (tb_X15_advise E d mc ms)) cut G R T Z) (f : Nat) (L : ZLV) (st : List Value) (σ : ZHp) (n k w : Nat) : Z (f + 1) 43 L st σ n k w = s_iload 5 45 L st σ n k w (zk1 cut G (Z f)) G R T := zrs hZ rfl f L st σ n k w
theorem f_X15_advise_45 (hZ : ZRN (ztb (tb_X15_advise E d mc ms)) cut G R T Z) (f : Nat) (L : ZLV) (st : List Value) (σ : ZHp) (n k w : Nat) : Z (f + 1) 45 L st σ n k w = s_aload 0 46 L st σ n k w (zk1 cut G (Z f)) G R T := zrs hZ rfl f L st σ n k w
theorem f_X15_advise_46 (hZ : ZRN (ztb (tb_X15_advise E d mc ms)) cut G R T Z) (f : Nat) (L : ZLV) (st : List Value) (σ : ZHp) (n k w : Nat) : Z (f + 1) 46 L st σ n k w = s_getf 14 6 49 L st σ n k w (zk1 cut G (Z f)) G R T := zrs hZ rfl f L st σ n k w
theorem f_X15_advise_49 (hZ : ZRN (ztb (tb_X15_advise E d mc ms)) cut G R T Z) (f : Nat) (L : ZLV) (st : List Value) (σ : ZHp) (n k w : Nat) : Z (f + 1) 49 L st σ n k w = s_getf 12 5 52 L st σ n k w (zk1 cut G (Z f)) G R T := zrs hZ rfl f L st σ n k w
theorem f_X15_advise_52 (hZ : ZRN (ztb (tb_X15_advise E d mc ms)) cut G R T Z) (f : Nat) (L : ZLV) (st : List Value) (σ : ZHp) (n k w : Nat) : Z (f + 1) 52 L st σ n k w = s_icmp_ge 137 55 L st σ n k w (zk1 cut G (Z f)) G R T := zrs hZ rfl f L st σ n k w
theorem f_X15_advise_55 (hZ : ZRN (ztb (tb_X15_advise E d mc ms)) cut G R T Z) (f : Nat) (L : ZLV) (st : List Value) (σ : ZHp) (n k w : Nat) : Z (f + 1) 55 L st σ n k w = s_aload 0 56 L st σ n k w (zk1 cut G (Z f)) G R T := zrs hZ rfl f L st σ n k w
theorem f_X15_advise_56 (hZ : ZRN (ztb (tb_X15_advise E d mc ms)) cut G R T Z) (f : Nat) (L : ZLV) (st : List Value) (σ : ZHp) (n k w : Nat) : Z (f + 1) 56 L st σ n k w = s_iload 1 57 L st σ n k w (zk1 cut G (Z f)) G R T := zrs hZ rfl f L st σ n k w
theorem f_X15_advise_57 (hZ : ZRN (ztb (tb_X15_advise E d mc ms)) cut G R T Z) (f : Nat) (L : ZLV) (st : List Value) (σ : ZHp) (n k w : Nat) : Z (f + 1) 57 L st σ n k w = s_iload 5 59 L st σ n k w (zk1 cut G (Z f)) G R T := zrs hZ rfl f L st σ n k w
theorem f_X15_advise_59 (hZ : ZRN (ztb (tb_X15_advise E d mc ms)) cut G R T Z) (f : Nat) (L : ZLV) (st : List Value) (σ : ZHp) (n k w : Nat) : Z (f + 1) 59 L st σ n k w = s_callV E d mc ms 14 MX15_canGive 2 62 L st σ n k w (zk1 cut G (Z f)) G R T := zrs hZ rfl f L st σ n k w
theorem f_X15_advise_62 (hZ : ZRN (ztb (tb_X15_advise E d mc ms)) cut G R T Z) (f : Nat) (L : ZLV) (st : List Value) (σ : ZHp) (n k w : Nat) : Z (f + 1) 62 L st σ n k w = s_if_ne 68 65 L st σ n k w (zk1 cut G (Z f)) G R T := zrs hZ rfl f L st σ n k w
theorem f_X15_advise_65 (hZ : ZRN (ztb (tb_X15_advise E d mc ms)) cut G R T Z) (f : Nat) (L : ZLV) (st : List Value) (σ : ZHp) (n k w : Nat) : Z (f + 1) 65 L st σ n k w = s_goto 131 L st σ n k w (zk1 cut G (Z f)) G R T := zrs hZ rfl f L st σ n k w
theorem f_X15_advise_68 (hZ : ZRN (ztb (tb_X15_advise E d mc ms)) cut G R T Z) (f : Nat) (L : ZLV) (st : List Value) (σ : ZHp) (n k w : Nat) : Z (f + 1) 68 L st σ n k w = s_aload 0 69 L st σ n k w (zk1 cut G (Z f)) G R T := zrs hZ rfl f L st σ n k w
theorem f_X15_advise_69 (hZ : ZRN (ztb (tb_X15_advise E d mc ms)) cut G R T Z) (f : Nat) (L : ZLV) (st : List Value) (σ : ZHp) (n k w : Nat) : Z (f + 1) 69 L st σ n k w = s_getf 14 8 72 L st σ n k w (zk1 cut G (Z f)) G R T := zrs hZ rfl f L st σ n k w
theorem f_X15_advise_72 (hZ : ZRN (ztb (tb_X15_advise E d mc ms)) cut G R T Z) (f : Nat) (L : ZLV) (st : List Value) (σ : ZHp) (n k w : Nat) : Z (f + 1) 72 L st σ n k w = s_aload 0 73 L st σ n k w (zk1 cut G (Z f)) G R T := zrs hZ rfl f L st σ n k w
theorem f_X15_advise_73 (hZ : ZRN (ztb (tb_X15_advise E d mc ms)) cut G R T Z) (f : Nat) (L : ZLV) (st : List Value) (σ : ZHp) (n k w : Nat) : Z (f + 1) 73 L st σ n k w = s_getf 14 7 76 L st σ n k w (zk1 cut G (Z f)) G R T := zrs hZ rfl f L st σ n k w
theorem f_X15_advise_76 (hZ : ZRN (ztb (tb_X15_advise E d mc ms)) cut G R T Z) (f : Nat) (L : ZLV) (st : List Value) (σ : ZHp) (n k w : Nat) : Z (f + 1) 76 L st σ n k w = s_callV E d mc ms 13 MX14_become 1 79 L st σ n k w (zk1 cut G (Z f)) G R T := zrs hZ rfl f L st σ n k w
theorem f_X15_advise_79 (hZ : ZRN (ztb (tb_X15_advise E d mc ms)) cut G R T Z) (f : Nat) (L : ZLV) (st : List Value) (σ : ZHp) (n k w : Nat) : Z (f + 1) 79 L st σ n k w = s_aload 0 80 L st σ n k w (zk1 cut G (Z f)) G R T := zrs hZ rfl f L st σ n k w
theorem f_X15_advise_80 (hZ : ZRN (ztb (tb_X15_advise E d mc ms)) cut G R T Z) (f : Nat) (L : ZLV) (st : List Value) (σ : ZHp) (n k w : Nat) : Z (f + 1) 80 L st σ n k w = s_getf 14 8 83 L st σ n k w (zk1 cut G (Z f)) G R T := zrs hZ rfl f L st σ n k w
theorem f_X15_advise_83 (hZ : ZRN (ztb (tb_X15_advise E d mc ms)) cut G R T Z) (f : Nat) (L : ZLV) (st : List Value) (σ : ZHp) (n k w : Nat) : Z (f + 1) 83 L st σ n k w = s_iload 1 84 L st σ n k w (zk1 cut G (Z f)) G R T := zrs hZ rfl f L st σ n k w
theorem f_X15_advise_84 (hZ : ZRN (ztb (tb_X15_advise E d mc ms)) cut G R T Z) (f : Nat) (L : ZLV) (st : List Value) (σ : ZHp) (n k w : Nat) : Z (f + 1) 84 L st σ n k w = s_iload 5 86 L st σ n k w (zk1 cut G (Z f)) G R T := zrs hZ rfl f L st σ n k w
theorem f_X15_advise_86 (hZ : ZRN (ztb (tb_X15_advise E d mc ms)) cut G R T Z) (f : Nat) (L : ZLV) (st : List Value) (σ : ZHp) (n k w : Nat) : Z (f + 1) 86 L st σ n k w = s_callS E d mc ms MX15_give 3 89 L st σ n k w (zk1 cut G (Z f)) G R T := zrs hZ rfl f L st σ n k w
theorem f_X15_advise_89 (hZ : ZRN (ztb (tb_X15_advise E d mc ms)) cut G R T Z) (f : Nat) (L : ZLV) (st : List Value) (σ : ZHp) (n k w : Nat) : Z (f + 1) 89 L st σ n k w = s_aload 0 90 L st σ n k w (zk1 cut G (Z f)) G R T := zrs hZ rfl f L st σ n k w
theorem f_X15_advise_90 (hZ : ZRN (ztb (tb_X15_advise E d mc ms)) cut G R T Z) (f : Nat) (L : ZLV) (st : List Value) (σ : ZHp) (n k w : Nat) : Z (f + 1) 90 L st σ n k w = s_aload 0 91 L st σ n k w (zk1 cut G (Z f)) G R T := zrs hZ rfl f L st σ n k w
theorem f_X15_advise_91 (hZ : ZRN (ztb (tb_X15_advise E d mc ms)) cut G R T Z) (f : Nat) (L : ZLV) (st : List Value) (σ : ZHp) (n k w : Nat) : Z (f + 1) 91 L st σ n k w = s_getf 14 8 94 L st σ n k w (zk1 cut G (Z f)) G R T := zrs hZ rfl f L st σ n k w
theorem f_X15_advise_94 (hZ : ZRN (ztb (tb_X15_advise E d mc ms)) cut G R T Z) (f : Nat) (L : ZLV) (st : List Value) (σ : ZHp) (n k w : Nat) : Z (f + 1) 94 L st σ n k w = s_iload 2 95 L st σ n k w (zk1 cut G (Z f)) G R T := zrs hZ rfl f L st σ n k w
theorem f_X15_advise_95 (hZ : ZRN (ztb (tb_X15_advise E d mc ms)) cut G R T Z) (f : Nat) (L : ZLV) (st : List Value) (σ : ZHp) (n k w : Nat) : Z (f + 1) 95 L st σ n k w = s_callV E d mc ms 14 MX15_rounds 2 98 L st σ n k w (zk1 cut G (Z f)) G R T := zrs hZ rfl f L st σ n k w
theorem f_X15_advise_98 (hZ : ZRN (ztb (tb_X15_advise E d mc ms)) cut G R T Z) (f : Nat) (L : ZLV) (st : List Value) (σ : ZHp) (n k w : Nat) : Z (f + 1) 98 L st σ n k w = s_aload 0 99 L st σ n k w (zk1 cut G (Z f)) G R T := zrs hZ rfl f L st σ n k w
theorem f_X15_advise_99 (hZ : ZRN (ztb (tb_X15_advise E d mc ms)) cut G R T Z) (f : Nat) (L : ZLV) (st : List Value) (σ : ZHp) (n k w : Nat) : Z (f + 1) 99 L st σ n k w = s_aload 0 100 L st σ n k w (zk1 cut G (Z f)) G R T := zrs hZ rfl f L st σ n k w
theorem f_X15_advise_100 (hZ : ZRN (ztb (tb_X15_advise E d mc ms)) cut G R T Z) (f : Nat) (L : ZLV) (st : List Value) (σ : ZHp) (n k w : Nat) : Z (f + 1) 100 L st σ n k w = s_getf 14 8 103 L st σ n k w (zk1 cut G (Z f)) G R T := zrs hZ rfl f L st σ n k w
theorem f_X15_advise_103 (hZ : ZRN (ztb (tb_X15_advise E d mc ms)) cut G R T Z) (f : Nat) (L : ZLV) (st : List Value) (σ : ZHp) (n k w : Nat) : Z (f + 1) 103 L st σ n k w = s_iload 1 104 L st σ n k w (zk1 cut G (Z f)) G R T := zrs hZ rfl f L st σ n k w
theorem f_X15_advise_104 (hZ : ZRN (ztb (tb_X15_advise E d mc ms)) cut G R T Z) (f : Nat) (L : ZLV) (st : List Value) (σ : ZHp) (n k w : Nat) : Z (f + 1) 104 L st σ n k w = s_callV E d mc ms 14 MX15_worthOf 2 107 L st σ n k w (zk1 cut G (Z f)) G R T := zrs hZ rfl f L st σ n k w
theorem f_X15_advise_107 (hZ : ZRN (ztb (tb_X15_advise E d mc ms)) cut G R T Z) (f : Nat) (L : ZLV) (st : List Value) (σ : ZHp) (n k w : Nat) : Z (f + 1) 107 L st σ n k w = s_istore 6 109 L st σ n k w (zk1 cut G (Z f)) G R T := zrs hZ rfl f L st σ n k w
theorem f_X15_advise_109 (hZ : ZRN (ztb (tb_X15_advise E d mc ms)) cut G R T Z) (f : Nat) (L : ZLV) (st : List Value) (σ : ZHp) (n k w : Nat) : Z (f + 1) 109 L st σ n k w = s_iload 3 110 L st σ n k w (zk1 cut G (Z f)) G R T := zrs hZ rfl f L st σ n k w
theorem f_X15_advise_110 (hZ : ZRN (ztb (tb_X15_advise E d mc ms)) cut G R T Z) (f : Nat) (L : ZLV) (st : List Value) (σ : ZHp) (n k w : Nat) : Z (f + 1) 110 L st σ n k w = s_const (.int (-1)) 111 L st σ n k w (zk1 cut G (Z f)) G R T := zrs hZ rfl f L st σ n k w
theorem f_X15_advise_111 (hZ : ZRN (ztb (tb_X15_advise E d mc ms)) cut G R T Z) (f : Nat) (L : ZLV) (st : List Value) (σ : ZHp) (n k w : Nat) : Z (f + 1) 111 L st σ n k w = s_icmp_eq 124 114 L st σ n k w (zk1 cut G (Z f)) G R T := zrs hZ rfl f L st σ n k w
theorem f_X15_advise_114 (hZ : ZRN (ztb (tb_X15_advise E d mc ms)) cut G R T Z) (f : Nat) (L : ZLV) (st : List Value) (σ : ZHp) (n k w : Nat) : Z (f + 1) 114 L st σ n k w = s_iload 6 116 L st σ n k w (zk1 cut G (Z f)) G R T := zrs hZ rfl f L st σ n k w
theorem f_X15_advise_116 (hZ : ZRN (ztb (tb_X15_advise E d mc ms)) cut G R T Z) (f : Nat) (L : ZLV) (st : List Value) (σ : ZHp) (n k w : Nat) : Z (f + 1) 116 L st σ n k w = s_iload 4 118 L st σ n k w (zk1 cut G (Z f)) G R T := zrs hZ rfl f L st σ n k w
theorem f_X15_advise_118 (hZ : ZRN (ztb (tb_X15_advise E d mc ms)) cut G R T Z) (f : Nat) (L : ZLV) (st : List Value) (σ : ZHp) (n k w : Nat) : Z (f + 1) 118 L st σ n k w = s_icmp_gt 124 121 L st σ n k w (zk1 cut G (Z f)) G R T := zrs hZ rfl f L st σ n k w
theorem f_X15_advise_121 (hZ : ZRN (ztb (tb_X15_advise E d mc ms)) cut G R T Z) (f : Nat) (L : ZLV) (st : List Value) (σ : ZHp) (n k w : Nat) : Z (f + 1) 121 L st σ n k w = s_goto 131 L st σ n k w (zk1 cut G (Z f)) G R T := zrs hZ rfl f L st σ n k w
theorem f_X15_advise_124 (hZ : ZRN (ztb (tb_X15_advise E d mc ms)) cut G R T Z) (f : Nat) (L : ZLV) (st : List Value) (σ : ZHp) (n k w : Nat) : Z (f + 1) 124 L st σ n k w = s_iload 6 126 L st σ n k w (zk1 cut G (Z f)) G R T := zrs hZ rfl f L st σ n k w
theorem f_X15_advise_126 (hZ : ZRN (ztb (tb_X15_advise E d mc ms)) cut G R T Z) (f : Nat) (L : ZLV) (st : List Value) (σ : ZHp) (n k w : Nat) : Z (f + 1) 126 L st σ n k w = s_istore 4 128 L st σ n k w (zk1 cut G (Z f)) G R T := zrs hZ rfl f L st σ n k w
theorem f_X15_advise_128 (hZ : ZRN (ztb (tb_X15_advise E d mc ms)) cut G R T Z) (f : Nat) (L : ZLV) (st : List Value) (σ : ZHp) (n k w : Nat) : Z (f + 1) 128 L st σ n k w = s_iload 5 130 L st σ n k w (zk1 cut G (Z f)) G R T := zrs hZ rfl f L st σ n k w
theorem f_X15_advise_130 (hZ : ZRN (ztb (tb_X15_advise E d mc ms)) cut G R T Z) (f : Nat) (L : ZLV) (st : List Value) (σ : ZHp) (n k w : Nat) : Z (f + 1) 130 L st σ n k w = s_istore 3 131 L st σ n k w (zk1 cut G (Z f)) G R T := zrs hZ rfl f L st σ n k w
theorem f_X15_advise_131 (hZ : ZRN (ztb (tb_X15_advise E d mc ms)) cut G R T Z) (f : Nat) (L : ZLV) (st : List Value) (σ : ZHp) (n k w : Nat) : Z (f + 1) 131 L st σ n k w = s_iinc 5 (1) 134 L st σ n k w (zk1 cut G (Z f)) G R T := zrs hZ rfl f L st σ n k w
theorem f_X15_advise_134 (hZ : ZRN (ztb (tb_X15_advise E d mc ms)) cut G R T Z) (f : Nat) (L : ZLV) (st : List Value) (σ : ZHp) (n k w : Nat) : Z (f + 1) 134 L st σ n k w = s_goto 43 L st σ n k w (zk1 cut G (Z f)) G R T := zrs hZ rfl f L st σ n k w
theorem f_X15_advise_137 (hZ : ZRN (ztb (tb_X15_advise E d mc ms)) cut G R T Z) (f : Nat) (L : ZLV) (st : List Value) (σ : ZHp) (n k w : Nat) : Z (f + 1) 137 L st σ n k w = s_iload 3 138 L st σ n k w (zk1 cut G (Z f)) G R T := zrs hZ rfl f L st σ n k w
theorem f_X15_advise_138 (hZ : ZRN (ztb (tb_X15_advise E d mc ms)) cut G R T Z) (f : Nat) (L : ZLV) (st : List Value) (σ : ZHp) (n k w : Nat) : Z (f + 1) 138 L st σ n k w = s_ireturn L st σ n k w (zk1 cut G (Z f)) G R T := zrs hZ rfl f L st σ n k w
theorem f_X15_mean_0 (hZ : ZRN (ztb (tb_X15_mean E d mc ms)) cut G R T Z) (f : Nat) (L : ZLV) (st : List Value) (σ : ZHp) (n k w : Nat) : Z (f + 1) 0 L st σ n k w = s_aload 0 1 L st σ n k w (zk1 cut G (Z f)) G R T := zrs hZ rfl f L st σ n k w
theorem f_X15_mean_1 (hZ : ZRN (ztb (tb_X15_mean E d mc ms)) cut G R T Z) (f : Nat) (L : ZLV) (st : List Value) (σ : ZHp) (n k w : Nat) : Z (f + 1) 1 L st σ n k w = s_const (.int (0)) 2 L st σ n k w (zk1 cut G (Z f)) G R T := zrs hZ rfl f L st σ n k w
theorem f_X15_mean_2 (hZ : ZRN (ztb (tb_X15_mean E d mc ms)) cut G R T Z) (f : Nat) (L : ZLV) (st : List Value) (σ : ZHp) (n k w : Nat) : Z (f + 1) 2 L st σ n k w = s_putf 14 0 0 5 L st σ n k w (zk1 cut G (Z f)) G R T := zrs hZ rfl f L st σ n k w
theorem f_X15_mean_5 (hZ : ZRN (ztb (tb_X15_mean E d mc ms)) cut G R T Z) (f : Nat) (L : ZLV) (st : List Value) (σ : ZHp) (n k w : Nat) : Z (f + 1) 5 L st σ n k w = s_const (.int (0)) 6 L st σ n k w (zk1 cut G (Z f)) G R T := zrs hZ rfl f L st σ n k w
theorem f_X15_mean_6 (hZ : ZRN (ztb (tb_X15_mean E d mc ms)) cut G R T Z) (f : Nat) (L : ZLV) (st : List Value) (σ : ZHp) (n k w : Nat) : Z (f + 1) 6 L st σ n k w = s_istore 1 7 L st σ n k w (zk1 cut G (Z f)) G R T := zrs hZ rfl f L st σ n k w
theorem f_X15_mean_7 (hZ : ZRN (ztb (tb_X15_mean E d mc ms)) cut G R T Z) (f : Nat) (L : ZLV) (st : List Value) (σ : ZHp) (n k w : Nat) : Z (f + 1) 7 L st σ n k w = s_const (.int (0)) 8 L st σ n k w (zk1 cut G (Z f)) G R T := zrs hZ rfl f L st σ n k w
theorem f_X15_mean_8 (hZ : ZRN (ztb (tb_X15_mean E d mc ms)) cut G R T Z) (f : Nat) (L : ZLV) (st : List Value) (σ : ZHp) (n k w : Nat) : Z (f + 1) 8 L st σ n k w = s_istore 2 9 L st σ n k w (zk1 cut G (Z f)) G R T := zrs hZ rfl f L st σ n k w
theorem f_X15_mean_9 (hZ : ZRN (ztb (tb_X15_mean E d mc ms)) cut G R T Z) (f : Nat) (L : ZLV) (st : List Value) (σ : ZHp) (n k w : Nat) : Z (f + 1) 9 L st σ n k w = s_iload 2 10 L st σ n k w (zk1 cut G (Z f)) G R T := zrs hZ rfl f L st σ n k w
theorem f_X15_mean_10 (hZ : ZRN (ztb (tb_X15_mean E d mc ms)) cut G R T Z) (f : Nat) (L : ZLV) (st : List Value) (σ : ZHp) (n k w : Nat) : Z (f + 1) 10 L st σ n k w = s_aload 0 11 L st σ n k w (zk1 cut G (Z f)) G R T := zrs hZ rfl f L st σ n k w
theorem f_X15_mean_11 (hZ : ZRN (ztb (tb_X15_mean E d mc ms)) cut G R T Z) (f : Nat) (L : ZLV) (st : List Value) (σ : ZHp) (n k w : Nat) : Z (f + 1) 11 L st σ n k w = s_getf 14 6 14 L st σ n k w (zk1 cut G (Z f)) G R T := zrs hZ rfl f L st σ n k w
theorem f_X15_mean_14 (hZ : ZRN (ztb (tb_X15_mean E d mc ms)) cut G R T Z) (f : Nat) (L : ZLV) (st : List Value) (σ : ZHp) (n k w : Nat) : Z (f + 1) 14 L st σ n k w = s_getf 12 12 17 L st σ n k w (zk1 cut G (Z f)) G R T := zrs hZ rfl f L st σ n k w
theorem f_X15_mean_17 (hZ : ZRN (ztb (tb_X15_mean E d mc ms)) cut G R T Z) (f : Nat) (L : ZLV) (st : List Value) (σ : ZHp) (n k w : Nat) : Z (f + 1) 17 L st σ n k w = s_icmp_ge 38 20 L st σ n k w (zk1 cut G (Z f)) G R T := zrs hZ rfl f L st σ n k w
theorem f_X15_mean_20 (hZ : ZRN (ztb (tb_X15_mean E d mc ms)) cut G R T Z) (f : Nat) (L : ZLV) (st : List Value) (σ : ZHp) (n k w : Nat) : Z (f + 1) 20 L st σ n k w = s_iload 1 21 L st σ n k w (zk1 cut G (Z f)) G R T := zrs hZ rfl f L st σ n k w
theorem f_X15_mean_21 (hZ : ZRN (ztb (tb_X15_mean E d mc ms)) cut G R T Z) (f : Nat) (L : ZLV) (st : List Value) (σ : ZHp) (n k w : Nat) : Z (f + 1) 21 L st σ n k w = s_aload 0 22 L st σ n k w (zk1 cut G (Z f)) G R T := zrs hZ rfl f L st σ n k w
theorem f_X15_mean_22 (hZ : ZRN (ztb (tb_X15_mean E d mc ms)) cut G R T Z) (f : Nat) (L : ZLV) (st : List Value) (σ : ZHp) (n k w : Nat) : Z (f + 1) 22 L st σ n k w = s_aload 0 23 L st σ n k w (zk1 cut G (Z f)) G R T := zrs hZ rfl f L st σ n k w
theorem f_X15_mean_23 (hZ : ZRN (ztb (tb_X15_mean E d mc ms)) cut G R T Z) (f : Nat) (L : ZLV) (st : List Value) (σ : ZHp) (n k w : Nat) : Z (f + 1) 23 L st σ n k w = s_getf 14 7 26 L st σ n k w (zk1 cut G (Z f)) G R T := zrs hZ rfl f L st σ n k w
theorem f_X15_mean_26 (hZ : ZRN (ztb (tb_X15_mean E d mc ms)) cut G R T Z) (f : Nat) (L : ZLV) (st : List Value) (σ : ZHp) (n k w : Nat) : Z (f + 1) 26 L st σ n k w = s_iload 2 27 L st σ n k w (zk1 cut G (Z f)) G R T := zrs hZ rfl f L st σ n k w
theorem f_X15_mean_27 (hZ : ZRN (ztb (tb_X15_mean E d mc ms)) cut G R T Z) (f : Nat) (L : ZLV) (st : List Value) (σ : ZHp) (n k w : Nat) : Z (f + 1) 27 L st σ n k w = s_callV E d mc ms 14 MX15_worthOf 2 30 L st σ n k w (zk1 cut G (Z f)) G R T := zrs hZ rfl f L st σ n k w
theorem f_X15_mean_30 (hZ : ZRN (ztb (tb_X15_mean E d mc ms)) cut G R T Z) (f : Nat) (L : ZLV) (st : List Value) (σ : ZHp) (n k w : Nat) : Z (f + 1) 30 L st σ n k w = s_iadd 31 L st σ n k w (zk1 cut G (Z f)) G R T := zrs hZ rfl f L st σ n k w
theorem f_X15_mean_31 (hZ : ZRN (ztb (tb_X15_mean E d mc ms)) cut G R T Z) (f : Nat) (L : ZLV) (st : List Value) (σ : ZHp) (n k w : Nat) : Z (f + 1) 31 L st σ n k w = s_istore 1 32 L st σ n k w (zk1 cut G (Z f)) G R T := zrs hZ rfl f L st σ n k w
theorem f_X15_mean_32 (hZ : ZRN (ztb (tb_X15_mean E d mc ms)) cut G R T Z) (f : Nat) (L : ZLV) (st : List Value) (σ : ZHp) (n k w : Nat) : Z (f + 1) 32 L st σ n k w = s_iinc 2 (1) 35 L st σ n k w (zk1 cut G (Z f)) G R T := zrs hZ rfl f L st σ n k w
theorem f_X15_mean_35 (hZ : ZRN (ztb (tb_X15_mean E d mc ms)) cut G R T Z) (f : Nat) (L : ZLV) (st : List Value) (σ : ZHp) (n k w : Nat) : Z (f + 1) 35 L st σ n k w = s_goto 9 L st σ n k w (zk1 cut G (Z f)) G R T := zrs hZ rfl f L st σ n k w
theorem f_X15_mean_38 (hZ : ZRN (ztb (tb_X15_mean E d mc ms)) cut G R T Z) (f : Nat) (L : ZLV) (st : List Value) (σ : ZHp) (n k w : Nat) : Z (f + 1) 38 L st σ n k w = s_aload 0 39 L st σ n k w (zk1 cut G (Z f)) G R T := zrs hZ rfl f L st σ n k w
theorem f_X15_mean_39 (hZ : ZRN (ztb (tb_X15_mean E d mc ms)) cut G R T Z) (f : Nat) (L : ZLV) (st : List Value) (σ : ZHp) (n k w : Nat) : Z (f + 1) 39 L st σ n k w = s_getf 14 6 42 L st σ n k w (zk1 cut G (Z f)) G R T := zrs hZ rfl f L st σ n k w
theorem f_X15_mean_42 (hZ : ZRN (ztb (tb_X15_mean E d mc ms)) cut G R T Z) (f : Nat) (L : ZLV) (st : List Value) (σ : ZHp) (n k w : Nat) : Z (f + 1) 42 L st σ n k w = s_getf 12 12 45 L st σ n k w (zk1 cut G (Z f)) G R T := zrs hZ rfl f L st σ n k w
theorem f_X15_mean_45 (hZ : ZRN (ztb (tb_X15_mean E d mc ms)) cut G R T Z) (f : Nat) (L : ZLV) (st : List Value) (σ : ZHp) (n k w : Nat) : Z (f + 1) 45 L st σ n k w = s_if_ne 52 48 L st σ n k w (zk1 cut G (Z f)) G R T := zrs hZ rfl f L st σ n k w
theorem f_X15_mean_48 (hZ : ZRN (ztb (tb_X15_mean E d mc ms)) cut G R T Z) (f : Nat) (L : ZLV) (st : List Value) (σ : ZHp) (n k w : Nat) : Z (f + 1) 48 L st σ n k w = s_const (.double FP.dconst0) 49 L st σ n k w (zk1 cut G (Z f)) G R T := zrs hZ rfl f L st σ n k w
theorem f_X15_mean_49 (hZ : ZRN (ztb (tb_X15_mean E d mc ms)) cut G R T Z) (f : Nat) (L : ZLV) (st : List Value) (σ : ZHp) (n k w : Nat) : Z (f + 1) 49 L st σ n k w = s_goto 63 L st σ n k w (zk1 cut G (Z f)) G R T := zrs hZ rfl f L st σ n k w
theorem f_X15_mean_52 (hZ : ZRN (ztb (tb_X15_mean E d mc ms)) cut G R T Z) (f : Nat) (L : ZLV) (st : List Value) (σ : ZHp) (n k w : Nat) : Z (f + 1) 52 L st σ n k w = s_iload 1 53 L st σ n k w (zk1 cut G (Z f)) G R T := zrs hZ rfl f L st σ n k w
theorem f_X15_mean_53 (hZ : ZRN (ztb (tb_X15_mean E d mc ms)) cut G R T Z) (f : Nat) (L : ZLV) (st : List Value) (σ : ZHp) (n k w : Nat) : Z (f + 1) 53 L st σ n k w = s_i2d 54 L st σ n k w (zk1 cut G (Z f)) G R T := zrs hZ rfl f L st σ n k w
theorem f_X15_mean_54 (hZ : ZRN (ztb (tb_X15_mean E d mc ms)) cut G R T Z) (f : Nat) (L : ZLV) (st : List Value) (σ : ZHp) (n k w : Nat) : Z (f + 1) 54 L st σ n k w = s_aload 0 55 L st σ n k w (zk1 cut G (Z f)) G R T := zrs hZ rfl f L st σ n k w
theorem f_X15_mean_55 (hZ : ZRN (ztb (tb_X15_mean E d mc ms)) cut G R T Z) (f : Nat) (L : ZLV) (st : List Value) (σ : ZHp) (n k w : Nat) : Z (f + 1) 55 L st σ n k w = s_getf 14 6 58 L st σ n k w (zk1 cut G (Z f)) G R T := zrs hZ rfl f L st σ n k w
theorem f_X15_mean_58 (hZ : ZRN (ztb (tb_X15_mean E d mc ms)) cut G R T Z) (f : Nat) (L : ZLV) (st : List Value) (σ : ZHp) (n k w : Nat) : Z (f + 1) 58 L st σ n k w = s_getf 12 12 61 L st σ n k w (zk1 cut G (Z f)) G R T := zrs hZ rfl f L st σ n k w
theorem f_X15_mean_61 (hZ : ZRN (ztb (tb_X15_mean E d mc ms)) cut G R T Z) (f : Nat) (L : ZLV) (st : List Value) (σ : ZHp) (n k w : Nat) : Z (f + 1) 61 L st σ n k w = s_i2d 62 L st σ n k w (zk1 cut G (Z f)) G R T := zrs hZ rfl f L st σ n k w
theorem f_X15_mean_62 (hZ : ZRN (ztb (tb_X15_mean E d mc ms)) cut G R T Z) (f : Nat) (L : ZLV) (st : List Value) (σ : ZHp) (n k w : Nat) : Z (f + 1) 62 L st σ n k w = s_ddiv 63 L st σ n k w (zk1 cut G (Z f)) G R T := zrs hZ rfl f L st σ n k w
theorem f_X15_mean_63 (hZ : ZRN (ztb (tb_X15_mean E d mc ms)) cut G R T Z) (f : Nat) (L : ZLV) (st : List Value) (σ : ZHp) (n k w : Nat) : Z (f + 1) 63 L st σ n k w = s_dreturn L st σ n k w (zk1 cut G (Z f)) G R T := zrs hZ rfl f L st σ n k w
theorem f_X15_digest_0 (hZ : ZRN (ztb (tb_X15_digest E d mc ms)) cut G R T Z) (f : Nat) (L : ZLV) (st : List Value) (σ : ZHp) (n k w : Nat) : Z (f + 1) 0 L st σ n k w = s_aload 0 1 L st σ n k w (zk1 cut G (Z f)) G R T := zrs hZ rfl f L st σ n k w
theorem f_X15_digest_1 (hZ : ZRN (ztb (tb_X15_digest E d mc ms)) cut G R T Z) (f : Nat) (L : ZLV) (st : List Value) (σ : ZHp) (n k w : Nat) : Z (f + 1) 1 L st σ n k w = s_const (.int (0)) 2 L st σ n k w (zk1 cut G (Z f)) G R T := zrs hZ rfl f L st σ n k w
theorem f_X15_digest_2 (hZ : ZRN (ztb (tb_X15_digest E d mc ms)) cut G R T Z) (f : Nat) (L : ZLV) (st : List Value) (σ : ZHp) (n k w : Nat) : Z (f + 1) 2 L st σ n k w = s_putf 14 0 0 5 L st σ n k w (zk1 cut G (Z f)) G R T := zrs hZ rfl f L st σ n k w
theorem f_X15_digest_5 (hZ : ZRN (ztb (tb_X15_digest E d mc ms)) cut G R T Z) (f : Nat) (L : ZLV) (st : List Value) (σ : ZHp) (n k w : Nat) : Z (f + 1) 5 L st σ n k w = s_const (.long (859)) 8 L st σ n k w (zk1 cut G (Z f)) G R T := zrs hZ rfl f L st σ n k w
theorem f_X15_digest_8 (hZ : ZRN (ztb (tb_X15_digest E d mc ms)) cut G R T Z) (f : Nat) (L : ZLV) (st : List Value) (σ : ZHp) (n k w : Nat) : Z (f + 1) 8 L st σ n k w = s_lstore 1 9 L st σ n k w (zk1 cut G (Z f)) G R T := zrs hZ rfl f L st σ n k w
theorem f_X15_digest_9 (hZ : ZRN (ztb (tb_X15_digest E d mc ms)) cut G R T Z) (f : Nat) (L : ZLV) (st : List Value) (σ : ZHp) (n k w : Nat) : Z (f + 1) 9 L st σ n k w = s_const (.int (0)) 10 L st σ n k w (zk1 cut G (Z f)) G R T := zrs hZ rfl f L st σ n k w
theorem f_X15_digest_10 (hZ : ZRN (ztb (tb_X15_digest E d mc ms)) cut G R T Z) (f : Nat) (L : ZLV) (st : List Value) (σ : ZHp) (n k w : Nat) : Z (f + 1) 10 L st σ n k w = s_istore 3 11 L st σ n k w (zk1 cut G (Z f)) G R T := zrs hZ rfl f L st σ n k w
theorem f_X15_digest_11 (hZ : ZRN (ztb (tb_X15_digest E d mc ms)) cut G R T Z) (f : Nat) (L : ZLV) (st : List Value) (σ : ZHp) (n k w : Nat) : Z (f + 1) 11 L st σ n k w = s_iload 3 12 L st σ n k w (zk1 cut G (Z f)) G R T := zrs hZ rfl f L st σ n k w
theorem f_X15_digest_12 (hZ : ZRN (ztb (tb_X15_digest E d mc ms)) cut G R T Z) (f : Nat) (L : ZLV) (st : List Value) (σ : ZHp) (n k w : Nat) : Z (f + 1) 12 L st σ n k w = s_const (.int (8)) 14 L st σ n k w (zk1 cut G (Z f)) G R T := zrs hZ rfl f L st σ n k w
theorem f_X15_digest_14 (hZ : ZRN (ztb (tb_X15_digest E d mc ms)) cut G R T Z) (f : Nat) (L : ZLV) (st : List Value) (σ : ZHp) (n k w : Nat) : Z (f + 1) 14 L st σ n k w = s_icmp_gt 40 17 L st σ n k w (zk1 cut G (Z f)) G R T := zrs hZ rfl f L st σ n k w
theorem f_X15_digest_17 (hZ : ZRN (ztb (tb_X15_digest E d mc ms)) cut G R T Z) (f : Nat) (L : ZLV) (st : List Value) (σ : ZHp) (n k w : Nat) : Z (f + 1) 17 L st σ n k w = s_lload 1 18 L st σ n k w (zk1 cut G (Z f)) G R T := zrs hZ rfl f L st σ n k w
theorem f_X15_digest_18 (hZ : ZRN (ztb (tb_X15_digest E d mc ms)) cut G R T Z) (f : Nat) (L : ZLV) (st : List Value) (σ : ZHp) (n k w : Nat) : Z (f + 1) 18 L st σ n k w = s_const (.long (31)) 21 L st σ n k w (zk1 cut G (Z f)) G R T := zrs hZ rfl f L st σ n k w
theorem f_X15_digest_21 (hZ : ZRN (ztb (tb_X15_digest E d mc ms)) cut G R T Z) (f : Nat) (L : ZLV) (st : List Value) (σ : ZHp) (n k w : Nat) : Z (f + 1) 21 L st σ n k w = s_lmul 22 L st σ n k w (zk1 cut G (Z f)) G R T := zrs hZ rfl f L st σ n k w
theorem f_X15_digest_22 (hZ : ZRN (ztb (tb_X15_digest E d mc ms)) cut G R T Z) (f : Nat) (L : ZLV) (st : List Value) (σ : ZHp) (n k w : Nat) : Z (f + 1) 22 L st σ n k w = s_aload 0 23 L st σ n k w (zk1 cut G (Z f)) G R T := zrs hZ rfl f L st σ n k w
theorem f_X15_digest_23 (hZ : ZRN (ztb (tb_X15_digest E d mc ms)) cut G R T Z) (f : Nat) (L : ZLV) (st : List Value) (σ : ZHp) (n k w : Nat) : Z (f + 1) 23 L st σ n k w = s_aload 0 24 L st σ n k w (zk1 cut G (Z f)) G R T := zrs hZ rfl f L st σ n k w
theorem f_X15_digest_24 (hZ : ZRN (ztb (tb_X15_digest E d mc ms)) cut G R T Z) (f : Nat) (L : ZLV) (st : List Value) (σ : ZHp) (n k w : Nat) : Z (f + 1) 24 L st σ n k w = s_getf 14 7 27 L st σ n k w (zk1 cut G (Z f)) G R T := zrs hZ rfl f L st σ n k w
theorem f_X15_digest_27 (hZ : ZRN (ztb (tb_X15_digest E d mc ms)) cut G R T Z) (f : Nat) (L : ZLV) (st : List Value) (σ : ZHp) (n k w : Nat) : Z (f + 1) 27 L st σ n k w = s_iload 3 28 L st σ n k w (zk1 cut G (Z f)) G R T := zrs hZ rfl f L st σ n k w
theorem f_X15_digest_28 (hZ : ZRN (ztb (tb_X15_digest E d mc ms)) cut G R T Z) (f : Nat) (L : ZLV) (st : List Value) (σ : ZHp) (n k w : Nat) : Z (f + 1) 28 L st σ n k w = s_callV E d mc ms 14 MX15_counted 2 31 L st σ n k w (zk1 cut G (Z f)) G R T := zrs hZ rfl f L st σ n k w
theorem f_X15_digest_31 (hZ : ZRN (ztb (tb_X15_digest E d mc ms)) cut G R T Z) (f : Nat) (L : ZLV) (st : List Value) (σ : ZHp) (n k w : Nat) : Z (f + 1) 31 L st σ n k w = s_i2l 32 L st σ n k w (zk1 cut G (Z f)) G R T := zrs hZ rfl f L st σ n k w
theorem f_X15_digest_32 (hZ : ZRN (ztb (tb_X15_digest E d mc ms)) cut G R T Z) (f : Nat) (L : ZLV) (st : List Value) (σ : ZHp) (n k w : Nat) : Z (f + 1) 32 L st σ n k w = s_ladd 33 L st σ n k w (zk1 cut G (Z f)) G R T := zrs hZ rfl f L st σ n k w
theorem f_X15_digest_33 (hZ : ZRN (ztb (tb_X15_digest E d mc ms)) cut G R T Z) (f : Nat) (L : ZLV) (st : List Value) (σ : ZHp) (n k w : Nat) : Z (f + 1) 33 L st σ n k w = s_lstore 1 34 L st σ n k w (zk1 cut G (Z f)) G R T := zrs hZ rfl f L st σ n k w
theorem f_X15_digest_34 (hZ : ZRN (ztb (tb_X15_digest E d mc ms)) cut G R T Z) (f : Nat) (L : ZLV) (st : List Value) (σ : ZHp) (n k w : Nat) : Z (f + 1) 34 L st σ n k w = s_iinc 3 (1) 37 L st σ n k w (zk1 cut G (Z f)) G R T := zrs hZ rfl f L st σ n k w
theorem f_X15_digest_37 (hZ : ZRN (ztb (tb_X15_digest E d mc ms)) cut G R T Z) (f : Nat) (L : ZLV) (st : List Value) (σ : ZHp) (n k w : Nat) : Z (f + 1) 37 L st σ n k w = s_goto 11 L st σ n k w (zk1 cut G (Z f)) G R T := zrs hZ rfl f L st σ n k w
theorem f_X15_digest_40 (hZ : ZRN (ztb (tb_X15_digest E d mc ms)) cut G R T Z) (f : Nat) (L : ZLV) (st : List Value) (σ : ZHp) (n k w : Nat) : Z (f + 1) 40 L st σ n k w = s_const (.int (0)) 41 L st σ n k w (zk1 cut G (Z f)) G R T := zrs hZ rfl f L st σ n k w
theorem f_X15_digest_41 (hZ : ZRN (ztb (tb_X15_digest E d mc ms)) cut G R T Z) (f : Nat) (L : ZLV) (st : List Value) (σ : ZHp) (n k w : Nat) : Z (f + 1) 41 L st σ n k w = s_istore 3 42 L st σ n k w (zk1 cut G (Z f)) G R T := zrs hZ rfl f L st σ n k w
theorem f_X15_digest_42 (hZ : ZRN (ztb (tb_X15_digest E d mc ms)) cut G R T Z) (f : Nat) (L : ZLV) (st : List Value) (σ : ZHp) (n k w : Nat) : Z (f + 1) 42 L st σ n k w = s_iload 3 43 L st σ n k w (zk1 cut G (Z f)) G R T := zrs hZ rfl f L st σ n k w
theorem f_X15_digest_43 (hZ : ZRN (ztb (tb_X15_digest E d mc ms)) cut G R T Z) (f : Nat) (L : ZLV) (st : List Value) (σ : ZHp) (n k w : Nat) : Z (f + 1) 43 L st σ n k w = s_aload 0 44 L st σ n k w (zk1 cut G (Z f)) G R T := zrs hZ rfl f L st σ n k w
theorem f_X15_digest_44 (hZ : ZRN (ztb (tb_X15_digest E d mc ms)) cut G R T Z) (f : Nat) (L : ZLV) (st : List Value) (σ : ZHp) (n k w : Nat) : Z (f + 1) 44 L st σ n k w = s_getf 14 6 47 L st σ n k w (zk1 cut G (Z f)) G R T := zrs hZ rfl f L st σ n k w
theorem f_X15_digest_47 (hZ : ZRN (ztb (tb_X15_digest E d mc ms)) cut G R T Z) (f : Nat) (L : ZLV) (st : List Value) (σ : ZHp) (n k w : Nat) : Z (f + 1) 47 L st σ n k w = s_getf 12 5 50 L st σ n k w (zk1 cut G (Z f)) G R T := zrs hZ rfl f L st σ n k w
theorem f_X15_digest_50 (hZ : ZRN (ztb (tb_X15_digest E d mc ms)) cut G R T Z) (f : Nat) (L : ZLV) (st : List Value) (σ : ZHp) (n k w : Nat) : Z (f + 1) 50 L st σ n k w = s_icmp_ge 90 53 L st σ n k w (zk1 cut G (Z f)) G R T := zrs hZ rfl f L st σ n k w
theorem f_X15_digest_53 (hZ : ZRN (ztb (tb_X15_digest E d mc ms)) cut G R T Z) (f : Nat) (L : ZLV) (st : List Value) (σ : ZHp) (n k w : Nat) : Z (f + 1) 53 L st σ n k w = s_const (.int (0)) 54 L st σ n k w (zk1 cut G (Z f)) G R T := zrs hZ rfl f L st σ n k w
theorem f_X15_digest_54 (hZ : ZRN (ztb (tb_X15_digest E d mc ms)) cut G R T Z) (f : Nat) (L : ZLV) (st : List Value) (σ : ZHp) (n k w : Nat) : Z (f + 1) 54 L st σ n k w = s_istore 4 56 L st σ n k w (zk1 cut G (Z f)) G R T := zrs hZ rfl f L st σ n k w
theorem f_X15_digest_56 (hZ : ZRN (ztb (tb_X15_digest E d mc ms)) cut G R T Z) (f : Nat) (L : ZLV) (st : List Value) (σ : ZHp) (n k w : Nat) : Z (f + 1) 56 L st σ n k w = s_iload 4 58 L st σ n k w (zk1 cut G (Z f)) G R T := zrs hZ rfl f L st σ n k w
theorem f_X15_digest_58 (hZ : ZRN (ztb (tb_X15_digest E d mc ms)) cut G R T Z) (f : Nat) (L : ZLV) (st : List Value) (σ : ZHp) (n k w : Nat) : Z (f + 1) 58 L st σ n k w = s_const (.int (6)) 60 L st σ n k w (zk1 cut G (Z f)) G R T := zrs hZ rfl f L st σ n k w
theorem f_X15_digest_60 (hZ : ZRN (ztb (tb_X15_digest E d mc ms)) cut G R T Z) (f : Nat) (L : ZLV) (st : List Value) (σ : ZHp) (n k w : Nat) : Z (f + 1) 60 L st σ n k w = s_icmp_gt 84 63 L st σ n k w (zk1 cut G (Z f)) G R T := zrs hZ rfl f L st σ n k w
theorem f_X15_digest_63 (hZ : ZRN (ztb (tb_X15_digest E d mc ms)) cut G R T Z) (f : Nat) (L : ZLV) (st : List Value) (σ : ZHp) (n k w : Nat) : Z (f + 1) 63 L st σ n k w = s_lload 1 64 L st σ n k w (zk1 cut G (Z f)) G R T := zrs hZ rfl f L st σ n k w
theorem f_X15_digest_64 (hZ : ZRN (ztb (tb_X15_digest E d mc ms)) cut G R T Z) (f : Nat) (L : ZLV) (st : List Value) (σ : ZHp) (n k w : Nat) : Z (f + 1) 64 L st σ n k w = s_const (.long (31)) 67 L st σ n k w (zk1 cut G (Z f)) G R T := zrs hZ rfl f L st σ n k w
theorem f_X15_digest_67 (hZ : ZRN (ztb (tb_X15_digest E d mc ms)) cut G R T Z) (f : Nat) (L : ZLV) (st : List Value) (σ : ZHp) (n k w : Nat) : Z (f + 1) 67 L st σ n k w = s_lmul 68 L st σ n k w (zk1 cut G (Z f)) G R T := zrs hZ rfl f L st σ n k w
theorem f_X15_digest_68 (hZ : ZRN (ztb (tb_X15_digest E d mc ms)) cut G R T Z) (f : Nat) (L : ZLV) (st : List Value) (σ : ZHp) (n k w : Nat) : Z (f + 1) 68 L st σ n k w = s_aload 0 69 L st σ n k w (zk1 cut G (Z f)) G R T := zrs hZ rfl f L st σ n k w
theorem f_X15_digest_69 (hZ : ZRN (ztb (tb_X15_digest E d mc ms)) cut G R T Z) (f : Nat) (L : ZLV) (st : List Value) (σ : ZHp) (n k w : Nat) : Z (f + 1) 69 L st σ n k w = s_iload 3 70 L st σ n k w (zk1 cut G (Z f)) G R T := zrs hZ rfl f L st σ n k w
theorem f_X15_digest_70 (hZ : ZRN (ztb (tb_X15_digest E d mc ms)) cut G R T Z) (f : Nat) (L : ZLV) (st : List Value) (σ : ZHp) (n k w : Nat) : Z (f + 1) 70 L st σ n k w = s_iload 4 72 L st σ n k w (zk1 cut G (Z f)) G R T := zrs hZ rfl f L st σ n k w
theorem f_X15_digest_72 (hZ : ZRN (ztb (tb_X15_digest E d mc ms)) cut G R T Z) (f : Nat) (L : ZLV) (st : List Value) (σ : ZHp) (n k w : Nat) : Z (f + 1) 72 L st σ n k w = s_callV E d mc ms 14 MX15_cardTold 2 75 L st σ n k w (zk1 cut G (Z f)) G R T := zrs hZ rfl f L st σ n k w
theorem f_X15_digest_75 (hZ : ZRN (ztb (tb_X15_digest E d mc ms)) cut G R T Z) (f : Nat) (L : ZLV) (st : List Value) (σ : ZHp) (n k w : Nat) : Z (f + 1) 75 L st σ n k w = s_i2l 76 L st σ n k w (zk1 cut G (Z f)) G R T := zrs hZ rfl f L st σ n k w
theorem f_X15_digest_76 (hZ : ZRN (ztb (tb_X15_digest E d mc ms)) cut G R T Z) (f : Nat) (L : ZLV) (st : List Value) (σ : ZHp) (n k w : Nat) : Z (f + 1) 76 L st σ n k w = s_ladd 77 L st σ n k w (zk1 cut G (Z f)) G R T := zrs hZ rfl f L st σ n k w
theorem f_X15_digest_77 (hZ : ZRN (ztb (tb_X15_digest E d mc ms)) cut G R T Z) (f : Nat) (L : ZLV) (st : List Value) (σ : ZHp) (n k w : Nat) : Z (f + 1) 77 L st σ n k w = s_lstore 1 78 L st σ n k w (zk1 cut G (Z f)) G R T := zrs hZ rfl f L st σ n k w
theorem f_X15_digest_78 (hZ : ZRN (ztb (tb_X15_digest E d mc ms)) cut G R T Z) (f : Nat) (L : ZLV) (st : List Value) (σ : ZHp) (n k w : Nat) : Z (f + 1) 78 L st σ n k w = s_iinc 4 (1) 81 L st σ n k w (zk1 cut G (Z f)) G R T := zrs hZ rfl f L st σ n k w
theorem f_X15_digest_81 (hZ : ZRN (ztb (tb_X15_digest E d mc ms)) cut G R T Z) (f : Nat) (L : ZLV) (st : List Value) (σ : ZHp) (n k w : Nat) : Z (f + 1) 81 L st σ n k w = s_goto 56 L st σ n k w (zk1 cut G (Z f)) G R T := zrs hZ rfl f L st σ n k w
theorem f_X15_digest_84 (hZ : ZRN (ztb (tb_X15_digest E d mc ms)) cut G R T Z) (f : Nat) (L : ZLV) (st : List Value) (σ : ZHp) (n k w : Nat) : Z (f + 1) 84 L st σ n k w = s_iinc 3 (1) 87 L st σ n k w (zk1 cut G (Z f)) G R T := zrs hZ rfl f L st σ n k w
theorem f_X15_digest_87 (hZ : ZRN (ztb (tb_X15_digest E d mc ms)) cut G R T Z) (f : Nat) (L : ZLV) (st : List Value) (σ : ZHp) (n k w : Nat) : Z (f + 1) 87 L st σ n k w = s_goto 42 L st σ n k w (zk1 cut G (Z f)) G R T := zrs hZ rfl f L st σ n k w
theorem f_X15_digest_90 (hZ : ZRN (ztb (tb_X15_digest E d mc ms)) cut G R T Z) (f : Nat) (L : ZLV) (st : List Value) (σ : ZHp) (n k w : Nat) : Z (f + 1) 90 L st σ n k w = s_const (.int (0)) 91 L st σ n k w (zk1 cut G (Z f)) G R T := zrs hZ rfl f L st σ n k w
theorem f_X15_digest_91 (hZ : ZRN (ztb (tb_X15_digest E d mc ms)) cut G R T Z) (f : Nat) (L : ZLV) (st : List Value) (σ : ZHp) (n k w : Nat) : Z (f + 1) 91 L st σ n k w = s_istore 3 92 L st σ n k w (zk1 cut G (Z f)) G R T := zrs hZ rfl f L st σ n k w
theorem f_X15_digest_92 (hZ : ZRN (ztb (tb_X15_digest E d mc ms)) cut G R T Z) (f : Nat) (L : ZLV) (st : List Value) (σ : ZHp) (n k w : Nat) : Z (f + 1) 92 L st σ n k w = s_iload 3 93 L st σ n k w (zk1 cut G (Z f)) G R T := zrs hZ rfl f L st σ n k w
theorem f_X15_digest_93 (hZ : ZRN (ztb (tb_X15_digest E d mc ms)) cut G R T Z) (f : Nat) (L : ZLV) (st : List Value) (σ : ZHp) (n k w : Nat) : Z (f + 1) 93 L st σ n k w = s_aload 0 94 L st σ n k w (zk1 cut G (Z f)) G R T := zrs hZ rfl f L st σ n k w
theorem f_X15_digest_94 (hZ : ZRN (ztb (tb_X15_digest E d mc ms)) cut G R T Z) (f : Nat) (L : ZLV) (st : List Value) (σ : ZHp) (n k w : Nat) : Z (f + 1) 94 L st σ n k w = s_getf 14 6 97 L st σ n k w (zk1 cut G (Z f)) G R T := zrs hZ rfl f L st σ n k w
theorem f_X15_digest_97 (hZ : ZRN (ztb (tb_X15_digest E d mc ms)) cut G R T Z) (f : Nat) (L : ZLV) (st : List Value) (σ : ZHp) (n k w : Nat) : Z (f + 1) 97 L st σ n k w = s_getf 12 12 100 L st σ n k w (zk1 cut G (Z f)) G R T := zrs hZ rfl f L st σ n k w
theorem f_X15_digest_100 (hZ : ZRN (ztb (tb_X15_digest E d mc ms)) cut G R T Z) (f : Nat) (L : ZLV) (st : List Value) (σ : ZHp) (n k w : Nat) : Z (f + 1) 100 L st σ n k w = s_icmp_ge 232 103 L st σ n k w (zk1 cut G (Z f)) G R T := zrs hZ rfl f L st σ n k w
theorem f_X15_digest_103 (hZ : ZRN (ztb (tb_X15_digest E d mc ms)) cut G R T Z) (f : Nat) (L : ZLV) (st : List Value) (σ : ZHp) (n k w : Nat) : Z (f + 1) 103 L st σ n k w = s_const (.int (0)) 104 L st σ n k w (zk1 cut G (Z f)) G R T := zrs hZ rfl f L st σ n k w
theorem f_X15_digest_104 (hZ : ZRN (ztb (tb_X15_digest E d mc ms)) cut G R T Z) (f : Nat) (L : ZLV) (st : List Value) (σ : ZHp) (n k w : Nat) : Z (f + 1) 104 L st σ n k w = s_istore 4 106 L st σ n k w (zk1 cut G (Z f)) G R T := zrs hZ rfl f L st σ n k w
theorem f_X15_digest_106 (hZ : ZRN (ztb (tb_X15_digest E d mc ms)) cut G R T Z) (f : Nat) (L : ZLV) (st : List Value) (σ : ZHp) (n k w : Nat) : Z (f + 1) 106 L st σ n k w = s_iload 4 108 L st σ n k w (zk1 cut G (Z f)) G R T := zrs hZ rfl f L st σ n k w
theorem f_X15_digest_108 (hZ : ZRN (ztb (tb_X15_digest E d mc ms)) cut G R T Z) (f : Nat) (L : ZLV) (st : List Value) (σ : ZHp) (n k w : Nat) : Z (f + 1) 108 L st σ n k w = s_const (.int (7)) 110 L st σ n k w (zk1 cut G (Z f)) G R T := zrs hZ rfl f L st σ n k w
theorem f_X15_digest_110 (hZ : ZRN (ztb (tb_X15_digest E d mc ms)) cut G R T Z) (f : Nat) (L : ZLV) (st : List Value) (σ : ZHp) (n k w : Nat) : Z (f + 1) 110 L st σ n k w = s_icmp_gt 134 113 L st σ n k w (zk1 cut G (Z f)) G R T := zrs hZ rfl f L st σ n k w
theorem f_X15_digest_113 (hZ : ZRN (ztb (tb_X15_digest E d mc ms)) cut G R T Z) (f : Nat) (L : ZLV) (st : List Value) (σ : ZHp) (n k w : Nat) : Z (f + 1) 113 L st σ n k w = s_lload 1 114 L st σ n k w (zk1 cut G (Z f)) G R T := zrs hZ rfl f L st σ n k w
theorem f_X15_digest_114 (hZ : ZRN (ztb (tb_X15_digest E d mc ms)) cut G R T Z) (f : Nat) (L : ZLV) (st : List Value) (σ : ZHp) (n k w : Nat) : Z (f + 1) 114 L st σ n k w = s_const (.long (31)) 117 L st σ n k w (zk1 cut G (Z f)) G R T := zrs hZ rfl f L st σ n k w
theorem f_X15_digest_117 (hZ : ZRN (ztb (tb_X15_digest E d mc ms)) cut G R T Z) (f : Nat) (L : ZLV) (st : List Value) (σ : ZHp) (n k w : Nat) : Z (f + 1) 117 L st σ n k w = s_lmul 118 L st σ n k w (zk1 cut G (Z f)) G R T := zrs hZ rfl f L st σ n k w
theorem f_X15_digest_118 (hZ : ZRN (ztb (tb_X15_digest E d mc ms)) cut G R T Z) (f : Nat) (L : ZLV) (st : List Value) (σ : ZHp) (n k w : Nat) : Z (f + 1) 118 L st σ n k w = s_aload 0 119 L st σ n k w (zk1 cut G (Z f)) G R T := zrs hZ rfl f L st σ n k w
theorem f_X15_digest_119 (hZ : ZRN (ztb (tb_X15_digest E d mc ms)) cut G R T Z) (f : Nat) (L : ZLV) (st : List Value) (σ : ZHp) (n k w : Nat) : Z (f + 1) 119 L st σ n k w = s_iload 3 120 L st σ n k w (zk1 cut G (Z f)) G R T := zrs hZ rfl f L st σ n k w
theorem f_X15_digest_120 (hZ : ZRN (ztb (tb_X15_digest E d mc ms)) cut G R T Z) (f : Nat) (L : ZLV) (st : List Value) (σ : ZHp) (n k w : Nat) : Z (f + 1) 120 L st σ n k w = s_iload 4 122 L st σ n k w (zk1 cut G (Z f)) G R T := zrs hZ rfl f L st σ n k w
theorem f_X15_digest_122 (hZ : ZRN (ztb (tb_X15_digest E d mc ms)) cut G R T Z) (f : Nat) (L : ZLV) (st : List Value) (σ : ZHp) (n k w : Nat) : Z (f + 1) 122 L st σ n k w = s_callV E d mc ms 14 MX15_merchantTold 2 125 L st σ n k w (zk1 cut G (Z f)) G R T := zrs hZ rfl f L st σ n k w
theorem f_X15_digest_125 (hZ : ZRN (ztb (tb_X15_digest E d mc ms)) cut G R T Z) (f : Nat) (L : ZLV) (st : List Value) (σ : ZHp) (n k w : Nat) : Z (f + 1) 125 L st σ n k w = s_i2l 126 L st σ n k w (zk1 cut G (Z f)) G R T := zrs hZ rfl f L st σ n k w
theorem f_X15_digest_126 (hZ : ZRN (ztb (tb_X15_digest E d mc ms)) cut G R T Z) (f : Nat) (L : ZLV) (st : List Value) (σ : ZHp) (n k w : Nat) : Z (f + 1) 126 L st σ n k w = s_ladd 127 L st σ n k w (zk1 cut G (Z f)) G R T := zrs hZ rfl f L st σ n k w
theorem f_X15_digest_127 (hZ : ZRN (ztb (tb_X15_digest E d mc ms)) cut G R T Z) (f : Nat) (L : ZLV) (st : List Value) (σ : ZHp) (n k w : Nat) : Z (f + 1) 127 L st σ n k w = s_lstore 1 128 L st σ n k w (zk1 cut G (Z f)) G R T := zrs hZ rfl f L st σ n k w
theorem f_X15_digest_128 (hZ : ZRN (ztb (tb_X15_digest E d mc ms)) cut G R T Z) (f : Nat) (L : ZLV) (st : List Value) (σ : ZHp) (n k w : Nat) : Z (f + 1) 128 L st σ n k w = s_iinc 4 (1) 131 L st σ n k w (zk1 cut G (Z f)) G R T := zrs hZ rfl f L st σ n k w
theorem f_X15_digest_131 (hZ : ZRN (ztb (tb_X15_digest E d mc ms)) cut G R T Z) (f : Nat) (L : ZLV) (st : List Value) (σ : ZHp) (n k w : Nat) : Z (f + 1) 131 L st σ n k w = s_goto 106 L st σ n k w (zk1 cut G (Z f)) G R T := zrs hZ rfl f L st σ n k w
theorem f_X15_digest_134 (hZ : ZRN (ztb (tb_X15_digest E d mc ms)) cut G R T Z) (f : Nat) (L : ZLV) (st : List Value) (σ : ZHp) (n k w : Nat) : Z (f + 1) 134 L st σ n k w = s_const (.int (0)) 135 L st σ n k w (zk1 cut G (Z f)) G R T := zrs hZ rfl f L st σ n k w
theorem f_X15_digest_135 (hZ : ZRN (ztb (tb_X15_digest E d mc ms)) cut G R T Z) (f : Nat) (L : ZLV) (st : List Value) (σ : ZHp) (n k w : Nat) : Z (f + 1) 135 L st σ n k w = s_istore 4 137 L st σ n k w (zk1 cut G (Z f)) G R T := zrs hZ rfl f L st σ n k w
theorem f_X15_digest_137 (hZ : ZRN (ztb (tb_X15_digest E d mc ms)) cut G R T Z) (f : Nat) (L : ZLV) (st : List Value) (σ : ZHp) (n k w : Nat) : Z (f + 1) 137 L st σ n k w = s_iload 4 139 L st σ n k w (zk1 cut G (Z f)) G R T := zrs hZ rfl f L st σ n k w
theorem f_X15_digest_139 (hZ : ZRN (ztb (tb_X15_digest E d mc ms)) cut G R T Z) (f : Nat) (L : ZLV) (st : List Value) (σ : ZHp) (n k w : Nat) : Z (f + 1) 139 L st σ n k w = s_aload 0 140 L st σ n k w (zk1 cut G (Z f)) G R T := zrs hZ rfl f L st σ n k w
theorem f_X15_digest_140 (hZ : ZRN (ztb (tb_X15_digest E d mc ms)) cut G R T Z) (f : Nat) (L : ZLV) (st : List Value) (σ : ZHp) (n k w : Nat) : Z (f + 1) 140 L st σ n k w = s_getf 14 7 143 L st σ n k w (zk1 cut G (Z f)) G R T := zrs hZ rfl f L st σ n k w
theorem f_X15_digest_143 (hZ : ZRN (ztb (tb_X15_digest E d mc ms)) cut G R T Z) (f : Nat) (L : ZLV) (st : List Value) (σ : ZHp) (n k w : Nat) : Z (f + 1) 143 L st σ n k w = s_getf 13 7 146 L st σ n k w (zk1 cut G (Z f)) G R T := zrs hZ rfl f L st σ n k w
theorem f_X15_digest_146 (hZ : ZRN (ztb (tb_X15_digest E d mc ms)) cut G R T Z) (f : Nat) (L : ZLV) (st : List Value) (σ : ZHp) (n k w : Nat) : Z (f + 1) 146 L st σ n k w = s_iload 3 147 L st σ n k w (zk1 cut G (Z f)) G R T := zrs hZ rfl f L st σ n k w
theorem f_X15_digest_147 (hZ : ZRN (ztb (tb_X15_digest E d mc ms)) cut G R T Z) (f : Nat) (L : ZLV) (st : List Value) (σ : ZHp) (n k w : Nat) : Z (f + 1) 147 L st σ n k w = s_iaload E 148 L st σ n k w (zk1 cut G (Z f)) G R T := zrs hZ rfl f L st σ n k w
theorem f_X15_digest_148 (hZ : ZRN (ztb (tb_X15_digest E d mc ms)) cut G R T Z) (f : Nat) (L : ZLV) (st : List Value) (σ : ZHp) (n k w : Nat) : Z (f + 1) 148 L st σ n k w = s_icmp_ge 180 151 L st σ n k w (zk1 cut G (Z f)) G R T := zrs hZ rfl f L st σ n k w
theorem f_X15_digest_151 (hZ : ZRN (ztb (tb_X15_digest E d mc ms)) cut G R T Z) (f : Nat) (L : ZLV) (st : List Value) (σ : ZHp) (n k w : Nat) : Z (f + 1) 151 L st σ n k w = s_lload 1 152 L st σ n k w (zk1 cut G (Z f)) G R T := zrs hZ rfl f L st σ n k w
theorem f_X15_digest_152 (hZ : ZRN (ztb (tb_X15_digest E d mc ms)) cut G R T Z) (f : Nat) (L : ZLV) (st : List Value) (σ : ZHp) (n k w : Nat) : Z (f + 1) 152 L st σ n k w = s_const (.long (31)) 155 L st σ n k w (zk1 cut G (Z f)) G R T := zrs hZ rfl f L st σ n k w
theorem f_X15_digest_155 (hZ : ZRN (ztb (tb_X15_digest E d mc ms)) cut G R T Z) (f : Nat) (L : ZLV) (st : List Value) (σ : ZHp) (n k w : Nat) : Z (f + 1) 155 L st σ n k w = s_lmul 156 L st σ n k w (zk1 cut G (Z f)) G R T := zrs hZ rfl f L st σ n k w
theorem f_X15_digest_156 (hZ : ZRN (ztb (tb_X15_digest E d mc ms)) cut G R T Z) (f : Nat) (L : ZLV) (st : List Value) (σ : ZHp) (n k w : Nat) : Z (f + 1) 156 L st σ n k w = s_aload 0 157 L st σ n k w (zk1 cut G (Z f)) G R T := zrs hZ rfl f L st σ n k w
theorem f_X15_digest_157 (hZ : ZRN (ztb (tb_X15_digest E d mc ms)) cut G R T Z) (f : Nat) (L : ZLV) (st : List Value) (σ : ZHp) (n k w : Nat) : Z (f + 1) 157 L st σ n k w = s_getf 14 7 160 L st σ n k w (zk1 cut G (Z f)) G R T := zrs hZ rfl f L st σ n k w
theorem f_X15_digest_160 (hZ : ZRN (ztb (tb_X15_digest E d mc ms)) cut G R T Z) (f : Nat) (L : ZLV) (st : List Value) (σ : ZHp) (n k w : Nat) : Z (f + 1) 160 L st σ n k w = s_getf 13 6 163 L st σ n k w (zk1 cut G (Z f)) G R T := zrs hZ rfl f L st σ n k w
theorem f_X15_digest_163 (hZ : ZRN (ztb (tb_X15_digest E d mc ms)) cut G R T Z) (f : Nat) (L : ZLV) (st : List Value) (σ : ZHp) (n k w : Nat) : Z (f + 1) 163 L st σ n k w = s_const (.int (60)) 165 L st σ n k w (zk1 cut G (Z f)) G R T := zrs hZ rfl f L st σ n k w
theorem f_X15_digest_165 (hZ : ZRN (ztb (tb_X15_digest E d mc ms)) cut G R T Z) (f : Nat) (L : ZLV) (st : List Value) (σ : ZHp) (n k w : Nat) : Z (f + 1) 165 L st σ n k w = s_iload 3 166 L st σ n k w (zk1 cut G (Z f)) G R T := zrs hZ rfl f L st σ n k w
theorem f_X15_digest_166 (hZ : ZRN (ztb (tb_X15_digest E d mc ms)) cut G R T Z) (f : Nat) (L : ZLV) (st : List Value) (σ : ZHp) (n k w : Nat) : Z (f + 1) 166 L st σ n k w = s_imul 167 L st σ n k w (zk1 cut G (Z f)) G R T := zrs hZ rfl f L st σ n k w
theorem f_X15_digest_167 (hZ : ZRN (ztb (tb_X15_digest E d mc ms)) cut G R T Z) (f : Nat) (L : ZLV) (st : List Value) (σ : ZHp) (n k w : Nat) : Z (f + 1) 167 L st σ n k w = s_iload 4 169 L st σ n k w (zk1 cut G (Z f)) G R T := zrs hZ rfl f L st σ n k w
theorem f_X15_digest_169 (hZ : ZRN (ztb (tb_X15_digest E d mc ms)) cut G R T Z) (f : Nat) (L : ZLV) (st : List Value) (σ : ZHp) (n k w : Nat) : Z (f + 1) 169 L st σ n k w = s_iadd 170 L st σ n k w (zk1 cut G (Z f)) G R T := zrs hZ rfl f L st σ n k w
theorem f_X15_digest_170 (hZ : ZRN (ztb (tb_X15_digest E d mc ms)) cut G R T Z) (f : Nat) (L : ZLV) (st : List Value) (σ : ZHp) (n k w : Nat) : Z (f + 1) 170 L st σ n k w = s_iaload E 171 L st σ n k w (zk1 cut G (Z f)) G R T := zrs hZ rfl f L st σ n k w
theorem f_X15_digest_171 (hZ : ZRN (ztb (tb_X15_digest E d mc ms)) cut G R T Z) (f : Nat) (L : ZLV) (st : List Value) (σ : ZHp) (n k w : Nat) : Z (f + 1) 171 L st σ n k w = s_i2l 172 L st σ n k w (zk1 cut G (Z f)) G R T := zrs hZ rfl f L st σ n k w
theorem f_X15_digest_172 (hZ : ZRN (ztb (tb_X15_digest E d mc ms)) cut G R T Z) (f : Nat) (L : ZLV) (st : List Value) (σ : ZHp) (n k w : Nat) : Z (f + 1) 172 L st σ n k w = s_ladd 173 L st σ n k w (zk1 cut G (Z f)) G R T := zrs hZ rfl f L st σ n k w
theorem f_X15_digest_173 (hZ : ZRN (ztb (tb_X15_digest E d mc ms)) cut G R T Z) (f : Nat) (L : ZLV) (st : List Value) (σ : ZHp) (n k w : Nat) : Z (f + 1) 173 L st σ n k w = s_lstore 1 174 L st σ n k w (zk1 cut G (Z f)) G R T := zrs hZ rfl f L st σ n k w
theorem f_X15_digest_174 (hZ : ZRN (ztb (tb_X15_digest E d mc ms)) cut G R T Z) (f : Nat) (L : ZLV) (st : List Value) (σ : ZHp) (n k w : Nat) : Z (f + 1) 174 L st σ n k w = s_iinc 4 (1) 177 L st σ n k w (zk1 cut G (Z f)) G R T := zrs hZ rfl f L st σ n k w
theorem f_X15_digest_177 (hZ : ZRN (ztb (tb_X15_digest E d mc ms)) cut G R T Z) (f : Nat) (L : ZLV) (st : List Value) (σ : ZHp) (n k w : Nat) : Z (f + 1) 177 L st σ n k w = s_goto 137 L st σ n k w (zk1 cut G (Z f)) G R T := zrs hZ rfl f L st σ n k w
theorem f_X15_digest_180 (hZ : ZRN (ztb (tb_X15_digest E d mc ms)) cut G R T Z) (f : Nat) (L : ZLV) (st : List Value) (σ : ZHp) (n k w : Nat) : Z (f + 1) 180 L st σ n k w = s_const (.int (0)) 181 L st σ n k w (zk1 cut G (Z f)) G R T := zrs hZ rfl f L st σ n k w
theorem f_X15_digest_181 (hZ : ZRN (ztb (tb_X15_digest E d mc ms)) cut G R T Z) (f : Nat) (L : ZLV) (st : List Value) (σ : ZHp) (n k w : Nat) : Z (f + 1) 181 L st σ n k w = s_istore 4 183 L st σ n k w (zk1 cut G (Z f)) G R T := zrs hZ rfl f L st σ n k w
theorem f_X15_digest_183 (hZ : ZRN (ztb (tb_X15_digest E d mc ms)) cut G R T Z) (f : Nat) (L : ZLV) (st : List Value) (σ : ZHp) (n k w : Nat) : Z (f + 1) 183 L st σ n k w = s_iload 4 185 L st σ n k w (zk1 cut G (Z f)) G R T := zrs hZ rfl f L st σ n k w
theorem f_X15_digest_185 (hZ : ZRN (ztb (tb_X15_digest E d mc ms)) cut G R T Z) (f : Nat) (L : ZLV) (st : List Value) (σ : ZHp) (n k w : Nat) : Z (f + 1) 185 L st σ n k w = s_aload 0 186 L st σ n k w (zk1 cut G (Z f)) G R T := zrs hZ rfl f L st σ n k w
theorem f_X15_digest_186 (hZ : ZRN (ztb (tb_X15_digest E d mc ms)) cut G R T Z) (f : Nat) (L : ZLV) (st : List Value) (σ : ZHp) (n k w : Nat) : Z (f + 1) 186 L st σ n k w = s_getf 14 7 189 L st σ n k w (zk1 cut G (Z f)) G R T := zrs hZ rfl f L st σ n k w
theorem f_X15_digest_189 (hZ : ZRN (ztb (tb_X15_digest E d mc ms)) cut G R T Z) (f : Nat) (L : ZLV) (st : List Value) (σ : ZHp) (n k w : Nat) : Z (f + 1) 189 L st σ n k w = s_getf 13 9 192 L st σ n k w (zk1 cut G (Z f)) G R T := zrs hZ rfl f L st σ n k w
theorem f_X15_digest_192 (hZ : ZRN (ztb (tb_X15_digest E d mc ms)) cut G R T Z) (f : Nat) (L : ZLV) (st : List Value) (σ : ZHp) (n k w : Nat) : Z (f + 1) 192 L st σ n k w = s_iload 3 193 L st σ n k w (zk1 cut G (Z f)) G R T := zrs hZ rfl f L st σ n k w
theorem f_X15_digest_193 (hZ : ZRN (ztb (tb_X15_digest E d mc ms)) cut G R T Z) (f : Nat) (L : ZLV) (st : List Value) (σ : ZHp) (n k w : Nat) : Z (f + 1) 193 L st σ n k w = s_iaload E 194 L st σ n k w (zk1 cut G (Z f)) G R T := zrs hZ rfl f L st σ n k w
theorem f_X15_digest_194 (hZ : ZRN (ztb (tb_X15_digest E d mc ms)) cut G R T Z) (f : Nat) (L : ZLV) (st : List Value) (σ : ZHp) (n k w : Nat) : Z (f + 1) 194 L st σ n k w = s_icmp_ge 226 197 L st σ n k w (zk1 cut G (Z f)) G R T := zrs hZ rfl f L st σ n k w
theorem f_X15_digest_197 (hZ : ZRN (ztb (tb_X15_digest E d mc ms)) cut G R T Z) (f : Nat) (L : ZLV) (st : List Value) (σ : ZHp) (n k w : Nat) : Z (f + 1) 197 L st σ n k w = s_lload 1 198 L st σ n k w (zk1 cut G (Z f)) G R T := zrs hZ rfl f L st σ n k w
theorem f_X15_digest_198 (hZ : ZRN (ztb (tb_X15_digest E d mc ms)) cut G R T Z) (f : Nat) (L : ZLV) (st : List Value) (σ : ZHp) (n k w : Nat) : Z (f + 1) 198 L st σ n k w = s_const (.long (31)) 201 L st σ n k w (zk1 cut G (Z f)) G R T := zrs hZ rfl f L st σ n k w
theorem f_X15_digest_201 (hZ : ZRN (ztb (tb_X15_digest E d mc ms)) cut G R T Z) (f : Nat) (L : ZLV) (st : List Value) (σ : ZHp) (n k w : Nat) : Z (f + 1) 201 L st σ n k w = s_lmul 202 L st σ n k w (zk1 cut G (Z f)) G R T := zrs hZ rfl f L st σ n k w
theorem f_X15_digest_202 (hZ : ZRN (ztb (tb_X15_digest E d mc ms)) cut G R T Z) (f : Nat) (L : ZLV) (st : List Value) (σ : ZHp) (n k w : Nat) : Z (f + 1) 202 L st σ n k w = s_aload 0 203 L st σ n k w (zk1 cut G (Z f)) G R T := zrs hZ rfl f L st σ n k w
theorem f_X15_digest_203 (hZ : ZRN (ztb (tb_X15_digest E d mc ms)) cut G R T Z) (f : Nat) (L : ZLV) (st : List Value) (σ : ZHp) (n k w : Nat) : Z (f + 1) 203 L st σ n k w = s_getf 14 7 206 L st σ n k w (zk1 cut G (Z f)) G R T := zrs hZ rfl f L st σ n k w
theorem f_X15_digest_206 (hZ : ZRN (ztb (tb_X15_digest E d mc ms)) cut G R T Z) (f : Nat) (L : ZLV) (st : List Value) (σ : ZHp) (n k w : Nat) : Z (f + 1) 206 L st σ n k w = s_getf 13 8 209 L st σ n k w (zk1 cut G (Z f)) G R T := zrs hZ rfl f L st σ n k w
theorem f_X15_digest_209 (hZ : ZRN (ztb (tb_X15_digest E d mc ms)) cut G R T Z) (f : Nat) (L : ZLV) (st : List Value) (σ : ZHp) (n k w : Nat) : Z (f + 1) 209 L st σ n k w = s_const (.int (60)) 211 L st σ n k w (zk1 cut G (Z f)) G R T := zrs hZ rfl f L st σ n k w
theorem f_X15_digest_211 (hZ : ZRN (ztb (tb_X15_digest E d mc ms)) cut G R T Z) (f : Nat) (L : ZLV) (st : List Value) (σ : ZHp) (n k w : Nat) : Z (f + 1) 211 L st σ n k w = s_iload 3 212 L st σ n k w (zk1 cut G (Z f)) G R T := zrs hZ rfl f L st σ n k w
theorem f_X15_digest_212 (hZ : ZRN (ztb (tb_X15_digest E d mc ms)) cut G R T Z) (f : Nat) (L : ZLV) (st : List Value) (σ : ZHp) (n k w : Nat) : Z (f + 1) 212 L st σ n k w = s_imul 213 L st σ n k w (zk1 cut G (Z f)) G R T := zrs hZ rfl f L st σ n k w
theorem f_X15_digest_213 (hZ : ZRN (ztb (tb_X15_digest E d mc ms)) cut G R T Z) (f : Nat) (L : ZLV) (st : List Value) (σ : ZHp) (n k w : Nat) : Z (f + 1) 213 L st σ n k w = s_iload 4 215 L st σ n k w (zk1 cut G (Z f)) G R T := zrs hZ rfl f L st σ n k w
theorem f_X15_digest_215 (hZ : ZRN (ztb (tb_X15_digest E d mc ms)) cut G R T Z) (f : Nat) (L : ZLV) (st : List Value) (σ : ZHp) (n k w : Nat) : Z (f + 1) 215 L st σ n k w = s_iadd 216 L st σ n k w (zk1 cut G (Z f)) G R T := zrs hZ rfl f L st σ n k w
theorem f_X15_digest_216 (hZ : ZRN (ztb (tb_X15_digest E d mc ms)) cut G R T Z) (f : Nat) (L : ZLV) (st : List Value) (σ : ZHp) (n k w : Nat) : Z (f + 1) 216 L st σ n k w = s_iaload E 217 L st σ n k w (zk1 cut G (Z f)) G R T := zrs hZ rfl f L st σ n k w
theorem f_X15_digest_217 (hZ : ZRN (ztb (tb_X15_digest E d mc ms)) cut G R T Z) (f : Nat) (L : ZLV) (st : List Value) (σ : ZHp) (n k w : Nat) : Z (f + 1) 217 L st σ n k w = s_i2l 218 L st σ n k w (zk1 cut G (Z f)) G R T := zrs hZ rfl f L st σ n k w
theorem f_X15_digest_218 (hZ : ZRN (ztb (tb_X15_digest E d mc ms)) cut G R T Z) (f : Nat) (L : ZLV) (st : List Value) (σ : ZHp) (n k w : Nat) : Z (f + 1) 218 L st σ n k w = s_ladd 219 L st σ n k w (zk1 cut G (Z f)) G R T := zrs hZ rfl f L st σ n k w
theorem f_X15_digest_219 (hZ : ZRN (ztb (tb_X15_digest E d mc ms)) cut G R T Z) (f : Nat) (L : ZLV) (st : List Value) (σ : ZHp) (n k w : Nat) : Z (f + 1) 219 L st σ n k w = s_lstore 1 220 L st σ n k w (zk1 cut G (Z f)) G R T := zrs hZ rfl f L st σ n k w
theorem f_X15_digest_220 (hZ : ZRN (ztb (tb_X15_digest E d mc ms)) cut G R T Z) (f : Nat) (L : ZLV) (st : List Value) (σ : ZHp) (n k w : Nat) : Z (f + 1) 220 L st σ n k w = s_iinc 4 (1) 223 L st σ n k w (zk1 cut G (Z f)) G R T := zrs hZ rfl f L st σ n k w
theorem f_X15_digest_223 (hZ : ZRN (ztb (tb_X15_digest E d mc ms)) cut G R T Z) (f : Nat) (L : ZLV) (st : List Value) (σ : ZHp) (n k w : Nat) : Z (f + 1) 223 L st σ n k w = s_goto 183 L st σ n k w (zk1 cut G (Z f)) G R T := zrs hZ rfl f L st σ n k w
theorem f_X15_digest_226 (hZ : ZRN (ztb (tb_X15_digest E d mc ms)) cut G R T Z) (f : Nat) (L : ZLV) (st : List Value) (σ : ZHp) (n k w : Nat) : Z (f + 1) 226 L st σ n k w = s_iinc 3 (1) 229 L st σ n k w (zk1 cut G (Z f)) G R T := zrs hZ rfl f L st σ n k w
theorem f_X15_digest_229 (hZ : ZRN (ztb (tb_X15_digest E d mc ms)) cut G R T Z) (f : Nat) (L : ZLV) (st : List Value) (σ : ZHp) (n k w : Nat) : Z (f + 1) 229 L st σ n k w = s_goto 92 L st σ n k w (zk1 cut G (Z f)) G R T := zrs hZ rfl f L st σ n k w
theorem f_X15_digest_232 (hZ : ZRN (ztb (tb_X15_digest E d mc ms)) cut G R T Z) (f : Nat) (L : ZLV) (st : List Value) (σ : ZHp) (n k w : Nat) : Z (f + 1) 232 L st σ n k w = s_lload 1 233 L st σ n k w (zk1 cut G (Z f)) G R T := zrs hZ rfl f L st σ n k w
theorem f_X15_digest_233 (hZ : ZRN (ztb (tb_X15_digest E d mc ms)) cut G R T Z) (f : Nat) (L : ZLV) (st : List Value) (σ : ZHp) (n k w : Nat) : Z (f + 1) 233 L st σ n k w = s_lreturn L st σ n k w (zk1 cut G (Z f)) G R T := zrs hZ rfl f L st σ n k w
end
