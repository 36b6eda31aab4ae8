/-! TABLES: what each instruction does, that it does so, and each one by its place (printed by wip/whole/gen/gentab.py) -/
def tb_X15_errorAt (E : ZEX) (d mc ms : Nat) : List (Nat × ZStep) := [(0, s_aload 0 1), (1, s_const (.int (0)) 2), (2, s_putf 14 0 0 5), (5, s_aload 0 6), (6, s_getf 14 3 9), (9, s_ireturn)]
set_option maxRecDepth 20000 in
theorem ok_X15_errorAt {E : ZEX} {X : ZMX} {d mc ms : Nat} {P : ZPT} {T : ZTT} (h : ZCX E X MX15_errorAt d mc ms P T) : ∀ pc, ZRow E X MX15_errorAt mc ms P T pc (ztb (tb_X15_errorAt E d mc ms) pc) := ztb_ok (by
  unfold tb_X15_errorAt
  refine zfmc (r_aload_n h (pc := 0) (kf := 0) 0 (by decide +kernel) rfl) ?_
  refine zfmc (r_iconst h (pc := 1) (z := 0) (by decide +kernel) (0) (by decide +kernel)) ?_
  refine zfmc (r_putf h (pc := 2) (ix := 46) (by decide +kernel) ckX15 0 (by decide) 0 (fty := tyX15 0) (tyX15_ok 0 (by decide)) rfl rfl wk_57ca463f01) ?_
  refine zfmc (r_aload_n h (pc := 5) (kf := 0) 0 (by decide +kernel) rfl) ?_
  refine zfmc (r_getf h (pc := 6) (ix := 13) (by decide +kernel) ckX15 3 (by decide) wk_09b9507526) ?_
  refine zfmc (r_ireturn h (pc := 9) (by decide +kernel) rfl) ?_
  exact zfm0)
def tb_X15_count (E : ZEX) (d mc ms : Nat) : List (Nat × ZStep) := [(0, s_aload 0 1), (1, s_const (.int (0)) 2), (2, s_putf 14 0 0 5), (5, s_iload 1 6), (6, s_const (.int (0)) 7), (7, s_const (.int (8)) 9), (9, s_callS E d mc ms MX15_isIn 3 12), (12, s_if_eq 27 15), (15, s_aload 0 16), (16, s_aload 0 17), (17, s_getf 14 7 20), (20, s_iload 1 21), (21, s_callV E d mc ms 14 MX15_counted 2 24), (24, s_goto 32), (27, s_aload 0 28), (28, s_const (.int (1)) 29), (29, s_callV E d mc ms 14 MX15_no 1 32), (32, s_ireturn)]
set_option maxRecDepth 20000 in
theorem ok_X15_count {E : ZEX} {X : ZMX} {d mc ms : Nat} {P : ZPT} {T : ZTT} (h : ZCX E X MX15_count d mc ms P T) : ∀ pc, ZRow E X MX15_count mc ms P T pc (ztb (tb_X15_count E d mc ms) pc) := ztb_ok (by
  unfold tb_X15_count
  refine zfmc (r_aload_n h (pc := 0) (kf := 0) 0 (by decide +kernel) rfl) ?_
  refine zfmc (r_iconst h (pc := 1) (z := 0) (by decide +kernel) (0) (by decide +kernel)) ?_
  refine zfmc (r_putf h (pc := 2) (ix := 46) (by decide +kernel) ckX15 0 (by decide) 0 (fty := tyX15 0) (tyX15_ok 0 (by decide)) rfl rfl wk_57ca463f01) ?_
  refine zfmc (r_iload_n h (pc := 5) (kf := 1) 1 (by decide +kernel) rfl) ?_
  refine zfmc (r_iconst h (pc := 6) (z := 0) (by decide +kernel) (0) (by decide +kernel)) ?_
  refine zfmc (r_bipush h (pc := 7) (z := 8) (by decide +kernel) (8) (by decide +kernel)) ?_
  refine zfmc (r_callS h (pc := 9) (ix := 52) (by decide +kernel) 3 mcX15_isIn wk_ed1f636136 wk_d0354324c1) ?_
  refine zfmc (r_if_eq h (pc := 12) (off := 15) (by decide +kernel) 27 (by decide +kernel)) ?_
  refine zfmc (r_aload_n h (pc := 15) (kf := 0) 0 (by decide +kernel) rfl) ?_
  refine zfmc (r_aload_n h (pc := 16) (kf := 0) 0 (by decide +kernel) rfl) ?_
  refine zfmc (r_getf h (pc := 17) (ix := 27) (by decide +kernel) ckX15 7 (by decide) wk_bb0990f128) ?_
  refine zfmc (r_iload_n h (pc := 20) (kf := 1) 1 (by decide +kernel) rfl) ?_
  refine zfmc (r_callV h (pc := 21) (ix := 428) (by decide +kernel) ckX15 2 mcX15_counted wk_696fc635b3 wk_7563dfc585 wk_27f8aa3aeb rfl) ?_
  refine zfmc (r_goto h (pc := 24) (off := 8) (by decide +kernel) 32 (by decide +kernel)) ?_
  refine zfmc (r_aload_n h (pc := 27) (kf := 0) 0 (by decide +kernel) rfl) ?_
  refine zfmc (r_iconst h (pc := 28) (z := 1) (by decide +kernel) (1) (by decide +kernel)) ?_
  refine zfmc (r_callV h (pc := 29) (ix := 408) (by decide +kernel) ckX15 1 mcX15_no wk_d6e972a452 wk_8e3f3b9ff5 wk_f18335f135 rfl) ?_
  refine zfmc (r_ireturn h (pc := 32) (by decide +kernel) rfl) ?_
  exact zfm0)
def tb_X15_cardTold (E : ZEX) (d mc ms : Nat) : List (Nat × ZStep) := [(0, s_const (.int (0)) 1), (1, s_istore 3 2), (2, s_iload 2 3), (3, s_tsw 0 [40, 50, 60, 70, 80, 116] 126), (40, s_aload 0 41), (41, s_getf 14 6 44), (44, s_getf 12 7 47), (47, s_iload 1 48), (48, s_iaload E 49), (49, s_ireturn), (50, s_aload 0 51), (51, s_getf 14 6 54), (54, s_getf 12 8 57), (57, s_iload 1 58), (58, s_iaload E 59), (59, s_ireturn), (60, s_aload 0 61), (61, s_getf 14 6 64), (64, s_getf 12 10 67), (67, s_iload 1 68), (68, s_iaload E 69), (69, s_ireturn), (70, s_aload 0 71), (71, s_getf 14 7 74), (74, s_getf 13 3 77), (77, s_iload 1 78), (78, s_iaload E 79), (79, s_ireturn), (80, s_const (.int (0)) 81), (81, s_istore 4 83), (83, s_iload 4 85), (85, s_aload 0 86), (86, s_getf 14 6 89), (89, s_getf 12 12 92), (92, s_icmp_ge 114 95), (95, s_iload 3 96), (96, s_aload 0 97), (97, s_getf 14 7 100), (100, s_iload 4 102), (102, s_iload 1 103), (103, s_callV E d mc ms 13 MX14_has 2 106), (106, s_iadd 107), (107, s_istore 3 108), (108, s_iinc 4 (1) 111), (111, s_goto 83), (114, s_iload 3 115), (115, s_ireturn), (116, s_aload 0 117), (117, s_getf 14 7 120), (120, s_getf 13 4 123), (123, s_iload 1 124), (124, s_iaload E 125), (125, s_ireturn), (126, s_aload 0 127), (127, s_getf 14 7 130), (130, s_getf 13 5 133), (133, s_iload 1 134), (134, s_iaload E 135), (135, s_ireturn)]
set_option maxRecDepth 20000 in
theorem ok_X15_cardTold {E : ZEX} {X : ZMX} {d mc ms : Nat} {P : ZPT} {T : ZTT} (h : ZCX E X MX15_cardTold d mc ms P T) : ∀ pc, ZRow E X MX15_cardTold mc ms P T pc (ztb (tb_X15_cardTold E d mc ms) pc) := ztb_ok (by
  unfold tb_X15_cardTold
  refine zfmc (r_iconst h (pc := 0) (z := 0) (by decide +kernel) (0) (by decide +kernel)) ?_
  refine zfmc (r_istore_n h (pc := 1) (kf := 3) 3 (by decide +kernel) rfl (by decide +kernel)) ?_
  refine zfmc (r_iload_n h (pc := 2) (kf := 2) 2 (by decide +kernel) rfl) ?_
  refine zfmc (r_tsw h (pc := 3) (dflt := 123) (lo := 0) (hi := 5) (offs := #[37, 47, 57, 67, 77, 113]) (len := 37) (by decide +kernel) [40, 50, 60, 70, 80, 116] 126 (by decide +kernel) (by decide +kernel) (by decide +kernel)) ?_
  refine zfmc (r_aload_n h (pc := 40) (kf := 0) 0 (by decide +kernel) rfl) ?_
  refine zfmc (r_getf h (pc := 41) (ix := 20) (by decide +kernel) ckX15 6 (by decide) wk_bda7210969) ?_
  refine zfmc (r_getfN h (pc := 44) (ix := 212) (by decide +kernel) ckX13 7 (by decide) wk_82d99483c8) ?_
  refine zfmc (r_iload_n h (pc := 47) (kf := 1) 1 (by decide +kernel) rfl) ?_
  refine zfmc (r_iaload h (pc := 48) (by decide +kernel)) ?_
  refine zfmc (r_ireturn h (pc := 49) (by decide +kernel) rfl) ?_
  refine zfmc (r_aload_n h (pc := 50) (kf := 0) 0 (by decide +kernel) rfl) ?_
  refine zfmc (r_getf h (pc := 51) (ix := 20) (by decide +kernel) ckX15 6 (by decide) wk_bda7210969) ?_
  refine zfmc (r_getfN h (pc := 54) (ix := 219) (by decide +kernel) ckX13 8 (by decide) wk_6a7a13c022) ?_
  refine zfmc (r_iload_n h (pc := 57) (kf := 1) 1 (by decide +kernel) rfl) ?_
  refine zfmc (r_iaload h (pc := 58) (by decide +kernel)) ?_
  refine zfmc (r_ireturn h (pc := 59) (by decide +kernel) rfl) ?_
  refine zfmc (r_aload_n h (pc := 60) (kf := 0) 0 (by decide +kernel) rfl) ?_
  refine zfmc (r_getf h (pc := 61) (ix := 20) (by decide +kernel) ckX15 6 (by decide) wk_bda7210969) ?_
  refine zfmc (r_getfN h (pc := 64) (ix := 222) (by decide +kernel) ckX13 10 (by decide) wk_28960faeb1) ?_
  refine zfmc (r_iload_n h (pc := 67) (kf := 1) 1 (by decide +kernel) rfl) ?_
  refine zfmc (r_iaload h (pc := 68) (by decide +kernel)) ?_
  refine zfmc (r_ireturn h (pc := 69) (by decide +kernel) rfl) ?_
  refine zfmc (r_aload_n h (pc := 70) (kf := 0) 0 (by decide +kernel) rfl) ?_
  refine zfmc (r_getf h (pc := 71) (ix := 27) (by decide +kernel) ckX15 7 (by decide) wk_bb0990f128) ?_
  refine zfmc (r_getfN h (pc := 74) (ix := 302) (by decide +kernel) ckX14 3 (by decide) wk_f4f89b3b47) ?_
  refine zfmc (r_iload_n h (pc := 77) (kf := 1) 1 (by decide +kernel) rfl) ?_
  refine zfmc (r_iaload h (pc := 78) (by decide +kernel)) ?_
  refine zfmc (r_ireturn h (pc := 79) (by decide +kernel) rfl) ?_
  refine zfmc (r_iconst h (pc := 80) (z := 0) (by decide +kernel) (0) (by decide +kernel)) ?_
  refine zfmc (r_istore h (pc := 81) 4 (by decide +kernel) (by decide +kernel)) ?_
  refine zfmc (r_iload h (pc := 83) 4 (by decide +kernel)) ?_
  refine zfmc (r_aload_n h (pc := 85) (kf := 0) 0 (by decide +kernel) rfl) ?_
  refine zfmc (r_getf h (pc := 86) (ix := 20) (by decide +kernel) ckX15 6 (by decide) wk_bda7210969) ?_
  refine zfmc (r_getfN h (pc := 89) (ix := 56) (by decide +kernel) ckX13 12 (by decide) wk_e206866251) ?_
  refine zfmc (r_icmp_ge h (pc := 92) (off := 22) (by decide +kernel) 114 (by decide +kernel)) ?_
  refine zfmc (r_iload_n h (pc := 95) (kf := 3) 3 (by decide +kernel) rfl) ?_
  refine zfmc (r_aload_n h (pc := 96) (kf := 0) 0 (by decide +kernel) rfl) ?_
  refine zfmc (r_getf h (pc := 97) (ix := 27) (by decide +kernel) ckX15 7 (by decide) wk_bb0990f128) ?_
  refine zfmc (r_iload h (pc := 100) 4 (by decide +kernel)) ?_
  refine zfmc (r_iload_n h (pc := 102) (kf := 1) 1 (by decide +kernel) rfl) ?_
  refine zfmc (r_callV h (pc := 103) (ix := 282) (by decide +kernel) ckX14 2 mcX14_has wk_aeb5a0a373 wk_43280218c5 wk_5bbc87c0a7 rfl) ?_
  refine zfmc (r_iadd h (pc := 106) (by decide +kernel)) ?_
  refine zfmc (r_istore_n h (pc := 107) (kf := 3) 3 (by decide +kernel) rfl (by decide +kernel)) ?_
  refine zfmc (r_iinc h (pc := 108) 4 (z := 1) (by decide +kernel) (1) (by decide +kernel) (by decide +kernel)) ?_
  refine zfmc (r_goto h (pc := 111) (off := -28) (by decide +kernel) 83 (by decide +kernel)) ?_
  refine zfmc (r_iload_n h (pc := 114) (kf := 3) 3 (by decide +kernel) rfl) ?_
  refine zfmc (r_ireturn h (pc := 115) (by decide +kernel) rfl) ?_
  refine zfmc (r_aload_n h (pc := 116) (kf := 0) 0 (by decide +kernel) rfl) ?_
  refine zfmc (r_getf h (pc := 117) (ix := 27) (by decide +kernel) ckX15 7 (by decide) wk_bb0990f128) ?_
  refine zfmc (r_getfN h (pc := 120) (ix := 347) (by decide +kernel) ckX14 4 (by decide) wk_f66b0e492e) ?_
  refine zfmc (r_iload_n h (pc := 123) (kf := 1) 1 (by decide +kernel) rfl) ?_
  refine zfmc (r_iaload h (pc := 124) (by decide +kernel)) ?_
  refine zfmc (r_ireturn h (pc := 125) (by decide +kernel) rfl) ?_
  refine zfmc (r_aload_n h (pc := 126) (kf := 0) 0 (by decide +kernel) rfl) ?_
  refine zfmc (r_getf h (pc := 127) (ix := 27) (by decide +kernel) ckX15 7 (by decide) wk_bb0990f128) ?_
  refine zfmc (r_getfN h (pc := 130) (ix := 360) (by decide +kernel) ckX14 5 (by decide) wk_1c5eb1bfbd) ?_
  refine zfmc (r_iload_n h (pc := 133) (kf := 1) 1 (by decide +kernel) rfl) ?_
  refine zfmc (r_iaload h (pc := 134) (by decide +kernel)) ?_
  refine zfmc (r_ireturn h (pc := 135) (by decide +kernel) rfl) ?_
  exact zfm0)
def tb_X15_card (E : ZEX) (d mc ms : Nat) : List (Nat × ZStep) := [(0, s_aload 0 1), (1, s_const (.int (0)) 2), (2, s_putf 14 0 0 5), (5, s_aload 0 6), (6, s_iload 1 7), (7, s_callV E d mc ms 14 MX15_isCard 1 10), (10, s_if_eq 32 13), (13, s_iload 2 14), (14, s_const (.int (0)) 15), (15, s_const (.int (6)) 17), (17, s_callS E d mc ms MX15_isIn 3 20), (20, s_if_eq 32 23), (23, s_aload 0 24), (24, s_iload 1 25), (25, s_iload 2 26), (26, s_callV E d mc ms 14 MX15_cardTold 2 29), (29, s_goto 37), (32, s_aload 0 33), (33, s_const (.int (1)) 34), (34, s_callV E d mc ms 14 MX15_no 1 37), (37, s_ireturn)]
set_option maxRecDepth 20000 in
theorem ok_X15_card {E : ZEX} {X : ZMX} {d mc ms : Nat} {P : ZPT} {T : ZTT} (h : ZCX E X MX15_card d mc ms P T) : ∀ pc, ZRow E X MX15_card mc ms P T pc (ztb (tb_X15_card E d mc ms) pc) := ztb_ok (by
  unfold tb_X15_card
  refine zfmc (r_aload_n h (pc := 0) (kf := 0) 0 (by decide +kernel) rfl) ?_
  refine zfmc (r_iconst h (pc := 1) (z := 0) (by decide +kernel) (0) (by decide +kernel)) ?_
  refine zfmc (r_putf h (pc := 2) (ix := 46) (by decide +kernel) ckX15 0 (by decide) 0 (fty := tyX15 0) (tyX15_ok 0 (by decide)) rfl rfl wk_57ca463f01) ?_
  refine zfmc (r_aload_n h (pc := 5) (kf := 0) 0 (by decide +kernel) rfl) ?_
  refine zfmc (r_iload_n h (pc := 6) (kf := 1) 1 (by decide +kernel) rfl) ?_
  refine zfmc (r_callV h (pc := 7) (ix := 431) (by decide +kernel) ckX15 1 mcX15_isCard wk_77b40d2a1b wk_33fdb02517 wk_4f6fde1f07 rfl) ?_
  refine zfmc (r_if_eq h (pc := 10) (off := 22) (by decide +kernel) 32 (by decide +kernel)) ?_
  refine zfmc (r_iload_n h (pc := 13) (kf := 2) 2 (by decide +kernel) rfl) ?_
  refine zfmc (r_iconst h (pc := 14) (z := 0) (by decide +kernel) (0) (by decide +kernel)) ?_
  refine zfmc (r_bipush h (pc := 15) (z := 6) (by decide +kernel) (6) (by decide +kernel)) ?_
  refine zfmc (r_callS h (pc := 17) (ix := 52) (by decide +kernel) 3 mcX15_isIn wk_ed1f636136 wk_d0354324c1) ?_
  refine zfmc (r_if_eq h (pc := 20) (off := 12) (by decide +kernel) 32 (by decide +kernel)) ?_
  refine zfmc (r_aload_n h (pc := 23) (kf := 0) 0 (by decide +kernel) rfl) ?_
  refine zfmc (r_iload_n h (pc := 24) (kf := 1) 1 (by decide +kernel) rfl) ?_
  refine zfmc (r_iload_n h (pc := 25) (kf := 2) 2 (by decide +kernel) rfl) ?_
  refine zfmc (r_callV h (pc := 26) (ix := 434) (by decide +kernel) ckX15 2 mcX15_cardTold wk_fbdcb41de5 wk_a558f4b4cf wk_c466e8a60c rfl) ?_
  refine zfmc (r_goto h (pc := 29) (off := 8) (by decide +kernel) 37 (by decide +kernel)) ?_
  refine zfmc (r_aload_n h (pc := 32) (kf := 0) 0 (by decide +kernel) rfl) ?_
  refine zfmc (r_iconst h (pc := 33) (z := 1) (by decide +kernel) (1) (by decide +kernel)) ?_
  refine zfmc (r_callV h (pc := 34) (ix := 408) (by decide +kernel) ckX15 1 mcX15_no wk_d6e972a452 wk_8e3f3b9ff5 wk_f18335f135 rfl) ?_
  refine zfmc (r_ireturn h (pc := 37) (by decide +kernel) rfl) ?_
  exact zfm0)
def tb_X15_merchantTold (E : ZEX) (d mc ms : Nat) : List (Nat × ZStep) := [(0, s_iload 2 1), (1, s_tsw 0 [44, 54, 64, 74, 84, 94, 104] 114), (44, s_aload 0 45), (45, s_getf 14 7 48), (48, s_getf 13 7 51), (51, s_iload 1 52), (52, s_iaload E 53), (53, s_ireturn), (54, s_aload 0 55), (55, s_getf 14 7 58), (58, s_getf 13 9 61), (61, s_iload 1 62), (62, s_iaload E 63), (63, s_ireturn), (64, s_aload 0 65), (65, s_getf 14 7 68), (68, s_getf 13 10 71), (71, s_iload 1 72), (72, s_iaload E 73), (73, s_ireturn), (74, s_aload 0 75), (75, s_aload 0 76), (76, s_getf 14 7 79), (79, s_iload 1 80), (80, s_callV E d mc ms 14 MX15_worthOf 2 83), (83, s_ireturn), (84, s_aload 0 85), (85, s_getf 14 7 88), (88, s_getf 13 11 91), (91, s_iload 1 92), (92, s_iaload E 93), (93, s_ireturn), (94, s_aload 0 95), (95, s_getf 14 7 98), (98, s_getf 13 12 101), (101, s_iload 1 102), (102, s_iaload E 103), (103, s_ireturn), (104, s_aload 0 105), (105, s_getf 14 7 108), (108, s_getf 13 13 111), (111, s_iload 1 112), (112, s_iaload E 113), (113, s_ireturn), (114, s_aload 0 115), (115, s_getf 14 7 118), (118, s_getf 13 14 121), (121, s_iload 1 122), (122, s_iaload E 123), (123, s_ireturn)]
set_option maxRecDepth 20000 in
theorem ok_X15_merchantTold {E : ZEX} {X : ZMX} {d mc ms : Nat} {P : ZPT} {T : ZTT} (h : ZCX E X MX15_merchantTold d mc ms P T) : ∀ pc, ZRow E X MX15_merchantTold mc ms P T pc (ztb (tb_X15_merchantTold E d mc ms) pc) := ztb_ok (by
  unfold tb_X15_merchantTold
  refine zfmc (r_iload_n h (pc := 0) (kf := 2) 2 (by decide +kernel) rfl) ?_
  refine zfmc (r_tsw h (pc := 1) (dflt := 113) (lo := 0) (hi := 6) (offs := #[43, 53, 63, 73, 83, 93, 103]) (len := 43) (by decide +kernel) [44, 54, 64, 74, 84, 94, 104] 114 (by decide +kernel) (by decide +kernel) (by decide +kernel)) ?_
  refine zfmc (r_aload_n h (pc := 44) (kf := 0) 0 (by decide +kernel) rfl) ?_
  refine zfmc (r_getf h (pc := 45) (ix := 27) (by decide +kernel) ckX15 7 (by decide) wk_bb0990f128) ?_
  refine zfmc (r_getfN h (pc := 48) (ix := 392) (by decide +kernel) ckX14 7 (by decide) wk_67bfe7c55c) ?_
  refine zfmc (r_iload_n h (pc := 51) (kf := 1) 1 (by decide +kernel) rfl) ?_
  refine zfmc (r_iaload h (pc := 52) (by decide +kernel)) ?_
  refine zfmc (r_ireturn h (pc := 53) (by decide +kernel) rfl) ?_
  refine zfmc (r_aload_n h (pc := 54) (kf := 0) 0 (by decide +kernel) rfl) ?_
  refine zfmc (r_getf h (pc := 55) (ix := 27) (by decide +kernel) ckX15 7 (by decide) wk_bb0990f128) ?_
  refine zfmc (r_getfN h (pc := 58) (ix := 398) (by decide +kernel) ckX14 9 (by decide) wk_f3aeaa7482) ?_
  refine zfmc (r_iload_n h (pc := 61) (kf := 1) 1 (by decide +kernel) rfl) ?_
  refine zfmc (r_iaload h (pc := 62) (by decide +kernel)) ?_
  refine zfmc (r_ireturn h (pc := 63) (by decide +kernel) rfl) ?_
  refine zfmc (r_aload_n h (pc := 64) (kf := 0) 0 (by decide +kernel) rfl) ?_
  refine zfmc (r_getf h (pc := 65) (ix := 27) (by decide +kernel) ckX15 7 (by decide) wk_bb0990f128) ?_
  refine zfmc (r_getfN h (pc := 68) (ix := 419) (by decide +kernel) ckX14 10 (by decide) wk_2a1558cfbc) ?_
  refine zfmc (r_iload_n h (pc := 71) (kf := 1) 1 (by decide +kernel) rfl) ?_
  refine zfmc (r_iaload h (pc := 72) (by decide +kernel)) ?_
  refine zfmc (r_ireturn h (pc := 73) (by decide +kernel) rfl) ?_
  refine zfmc (r_aload_n h (pc := 74) (kf := 0) 0 (by decide +kernel) rfl) ?_
  refine zfmc (r_aload_n h (pc := 75) (kf := 0) 0 (by decide +kernel) rfl) ?_
  refine zfmc (r_getf h (pc := 76) (ix := 27) (by decide +kernel) ckX15 7 (by decide) wk_bb0990f128) ?_
  refine zfmc (r_iload_n h (pc := 79) (kf := 1) 1 (by decide +kernel) rfl) ?_
  refine zfmc (r_callV h (pc := 80) (ix := 404) (by decide +kernel) ckX15 2 mcX15_worthOf wk_fb0a21ee0e wk_92b92dda45 wk_87dffed090 rfl) ?_
  refine zfmc (r_ireturn h (pc := 83) (by decide +kernel) rfl) ?_
  refine zfmc (r_aload_n h (pc := 84) (kf := 0) 0 (by decide +kernel) rfl) ?_
  refine zfmc (r_getf h (pc := 85) (ix := 27) (by decide +kernel) ckX15 7 (by decide) wk_bb0990f128) ?_
  refine zfmc (r_getfN h (pc := 88) (ix := 296) (by decide +kernel) ckX14 11 (by decide) wk_b0c93d9fec) ?_
  refine zfmc (r_iload_n h (pc := 91) (kf := 1) 1 (by decide +kernel) rfl) ?_
  refine zfmc (r_iaload h (pc := 92) (by decide +kernel)) ?_
  refine zfmc (r_ireturn h (pc := 93) (by decide +kernel) rfl) ?_
  refine zfmc (r_aload_n h (pc := 94) (kf := 0) 0 (by decide +kernel) rfl) ?_
  refine zfmc (r_getf h (pc := 95) (ix := 27) (by decide +kernel) ckX15 7 (by decide) wk_bb0990f128) ?_
  refine zfmc (r_getfN h (pc := 98) (ix := 363) (by decide +kernel) ckX14 12 (by decide) wk_c6f6c027e3) ?_
  refine zfmc (r_iload_n h (pc := 101) (kf := 1) 1 (by decide +kernel) rfl) ?_
  refine zfmc (r_iaload h (pc := 102) (by decide +kernel)) ?_
  refine zfmc (r_ireturn h (pc := 103) (by decide +kernel) rfl) ?_
  refine zfmc (r_aload_n h (pc := 104) (kf := 0) 0 (by decide +kernel) rfl) ?_
  refine zfmc (r_getf h (pc := 105) (ix := 27) (by decide +kernel) ckX15 7 (by decide) wk_bb0990f128) ?_
  refine zfmc (r_getfN h (pc := 108) (ix := 379) (by decide +kernel) ckX14 13 (by decide) wk_ef3d45b501) ?_
  refine zfmc (r_iload_n h (pc := 111) (kf := 1) 1 (by decide +kernel) rfl) ?_
  refine zfmc (r_iaload h (pc := 112) (by decide +kernel)) ?_
  refine zfmc (r_ireturn h (pc := 113) (by decide +kernel) rfl) ?_
  refine zfmc (r_aload_n h (pc := 114) (kf := 0) 0 (by decide +kernel) rfl) ?_
  refine zfmc (r_getf h (pc := 115) (ix := 27) (by decide +kernel) ckX15 7 (by decide) wk_bb0990f128) ?_
  refine zfmc (r_getfN h (pc := 118) (ix := 412) (by decide +kernel) ckX14 14 (by decide) wk_7562589326) ?_
  refine zfmc (r_iload_n h (pc := 121) (kf := 1) 1 (by decide +kernel) rfl) ?_
  refine zfmc (r_iaload h (pc := 122) (by decide +kernel)) ?_
  refine zfmc (r_ireturn h (pc := 123) (by decide +kernel) rfl) ?_
  exact zfm0)
def tb_X15_merchant (E : ZEX) (d mc ms : Nat) : List (Nat × ZStep) := [(0, s_aload 0 1), (1, s_const (.int (0)) 2), (2, s_putf 14 0 0 5), (5, s_aload 0 6), (6, s_iload 1 7), (7, s_callV E d mc ms 14 MX15_isMerchant 1 10), (10, s_if_eq 32 13), (13, s_iload 2 14), (14, s_const (.int (0)) 15), (15, s_const (.int (7)) 17), (17, s_callS E d mc ms MX15_isIn 3 20), (20, s_if_eq 32 23), (23, s_aload 0 24), (24, s_iload 1 25), (25, s_iload 2 26), (26, s_callV E d mc ms 14 MX15_merchantTold 2 29), (29, s_goto 37), (32, s_aload 0 33), (33, s_const (.int (1)) 34), (34, s_callV E d mc ms 14 MX15_no 1 37), (37, s_ireturn)]
set_option maxRecDepth 20000 in
theorem ok_X15_merchant {E : ZEX} {X : ZMX} {d mc ms : Nat} {P : ZPT} {T : ZTT} (h : ZCX E X MX15_merchant d mc ms P T) : ∀ pc, ZRow E X MX15_merchant mc ms P T pc (ztb (tb_X15_merchant E d mc ms) pc) := ztb_ok (by
  unfold tb_X15_merchant
  refine zfmc (r_aload_n h (pc := 0) (kf := 0) 0 (by decide +kernel) rfl) ?_
  refine zfmc (r_iconst h (pc := 1) (z := 0) (by decide +kernel) (0) (by decide +kernel)) ?_
  refine zfmc (r_putf h (pc := 2) (ix := 46) (by decide +kernel) ckX15 0 (by decide) 0 (fty := tyX15 0) (tyX15_ok 0 (by decide)) rfl rfl wk_57ca463f01) ?_
  refine zfmc (r_aload_n h (pc := 5) (kf := 0) 0 (by decide +kernel) rfl) ?_
  refine zfmc (r_iload_n h (pc := 6) (kf := 1) 1 (by decide +kernel) rfl) ?_
  refine zfmc (r_callV h (pc := 7) (ix := 437) (by decide +kernel) ckX15 1 mcX15_isMerchant wk_dc01e6bb07 wk_2f31eaf1ca wk_677c3c0242 rfl) ?_
  refine zfmc (r_if_eq h (pc := 10) (off := 22) (by decide +kernel) 32 (by decide +kernel)) ?_
  refine zfmc (r_iload_n h (pc := 13) (kf := 2) 2 (by decide +kernel) rfl) ?_
  refine zfmc (r_iconst h (pc := 14) (z := 0) (by decide +kernel) (0) (by decide +kernel)) ?_
  refine zfmc (r_bipush h (pc := 15) (z := 7) (by decide +kernel) (7) (by decide +kernel)) ?_
  refine zfmc (r_callS h (pc := 17) (ix := 52) (by decide +kernel) 3 mcX15_isIn wk_ed1f636136 wk_d0354324c1) ?_
  refine zfmc (r_if_eq h (pc := 20) (off := 12) (by decide +kernel) 32 (by decide +kernel)) ?_
  refine zfmc (r_aload_n h (pc := 23) (kf := 0) 0 (by decide +kernel) rfl) ?_
  refine zfmc (r_iload_n h (pc := 24) (kf := 1) 1 (by decide +kernel) rfl) ?_
  refine zfmc (r_iload_n h (pc := 25) (kf := 2) 2 (by decide +kernel) rfl) ?_
  refine zfmc (r_callV h (pc := 26) (ix := 440) (by decide +kernel) ckX15 2 mcX15_merchantTold wk_0ca2f5a898 wk_45b42f7cf7 wk_fae4875af1 rfl) ?_
  refine zfmc (r_goto h (pc := 29) (off := 8) (by decide +kernel) 37 (by decide +kernel)) ?_
  refine zfmc (r_aload_n h (pc := 32) (kf := 0) 0 (by decide +kernel) rfl) ?_
  refine zfmc (r_iconst h (pc := 33) (z := 1) (by decide +kernel) (1) (by decide +kernel)) ?_
  refine zfmc (r_callV h (pc := 34) (ix := 408) (by decide +kernel) ckX15 1 mcX15_no wk_d6e972a452 wk_8e3f3b9ff5 wk_f18335f135 rfl) ?_
  refine zfmc (r_ireturn h (pc := 37) (by decide +kernel) rfl) ?_
  exact zfm0)
def tb_X15_owns (E : ZEX) (d mc ms : Nat) : List (Nat × ZStep) := [(0, s_aload 0 1), (1, s_const (.int (0)) 2), (2, s_putf 14 0 0 5), (5, s_aload 0 6), (6, s_iload 1 7), (7, s_callV E d mc ms 14 MX15_isMerchant 1 10), (10, s_if_eq 33 13), (13, s_aload 0 14), (14, s_iload 2 15), (15, s_callV E d mc ms 14 MX15_isCard 1 18), (18, s_if_eq 33 21), (21, s_aload 0 22), (22, s_getf 14 7 25), (25, s_iload 1 26), (26, s_iload 2 27), (27, s_callV E d mc ms 13 MX14_has 2 30), (30, s_goto 38), (33, s_aload 0 34), (34, s_const (.int (1)) 35), (35, s_callV E d mc ms 14 MX15_no 1 38), (38, s_ireturn)]
set_option maxRecDepth 20000 in
theorem ok_X15_owns {E : ZEX} {X : ZMX} {d mc ms : Nat} {P : ZPT} {T : ZTT} (h : ZCX E X MX15_owns d mc ms P T) : ∀ pc, ZRow E X MX15_owns mc ms P T pc (ztb (tb_X15_owns E d mc ms) pc) := ztb_ok (by
  unfold tb_X15_owns
  refine zfmc (r_aload_n h (pc := 0) (kf := 0) 0 (by decide +kernel) rfl) ?_
  refine zfmc (r_iconst h (pc := 1) (z := 0) (by decide +kernel) (0) (by decide +kernel)) ?_
  refine zfmc (r_putf h (pc := 2) (ix := 46) (by decide +kernel) ckX15 0 (by decide) 0 (fty := tyX15 0) (tyX15_ok 0 (by decide)) rfl rfl wk_57ca463f01) ?_
  refine zfmc (r_aload_n h (pc := 5) (kf := 0) 0 (by decide +kernel) rfl) ?_
  refine zfmc (r_iload_n h (pc := 6) (kf := 1) 1 (by decide +kernel) rfl) ?_
  refine zfmc (r_callV h (pc := 7) (ix := 437) (by decide +kernel) ckX15 1 mcX15_isMerchant wk_dc01e6bb07 wk_2f31eaf1ca wk_677c3c0242 rfl) ?_
  refine zfmc (r_if_eq h (pc := 10) (off := 23) (by decide +kernel) 33 (by decide +kernel)) ?_
  refine zfmc (r_aload_n h (pc := 13) (kf := 0) 0 (by decide +kernel) rfl) ?_
  refine zfmc (r_iload_n h (pc := 14) (kf := 2) 2 (by decide +kernel) rfl) ?_
  refine zfmc (r_callV h (pc := 15) (ix := 431) (by decide +kernel) ckX15 1 mcX15_isCard wk_77b40d2a1b wk_33fdb02517 wk_4f6fde1f07 rfl) ?_
  refine zfmc (r_if_eq h (pc := 18) (off := 15) (by decide +kernel) 33 (by decide +kernel)) ?_
  refine zfmc (r_aload_n h (pc := 21) (kf := 0) 0 (by decide +kernel) rfl) ?_
  refine zfmc (r_getf h (pc := 22) (ix := 27) (by decide +kernel) ckX15 7 (by decide) wk_bb0990f128) ?_
  refine zfmc (r_iload_n h (pc := 25) (kf := 1) 1 (by decide +kernel) rfl) ?_
  refine zfmc (r_iload_n h (pc := 26) (kf := 2) 2 (by decide +kernel) rfl) ?_
  refine zfmc (r_callV h (pc := 27) (ix := 282) (by decide +kernel) ckX14 2 mcX14_has wk_aeb5a0a373 wk_43280218c5 wk_5bbc87c0a7 rfl) ?_
  refine zfmc (r_goto h (pc := 30) (off := 8) (by decide +kernel) 38 (by decide +kernel)) ?_
  refine zfmc (r_aload_n h (pc := 33) (kf := 0) 0 (by decide +kernel) rfl) ?_
  refine zfmc (r_iconst h (pc := 34) (z := 1) (by decide +kernel) (1) (by decide +kernel)) ?_
  refine zfmc (r_callV h (pc := 35) (ix := 408) (by decide +kernel) ckX15 1 mcX15_no wk_d6e972a452 wk_8e3f3b9ff5 wk_f18335f135 rfl) ?_
  refine zfmc (r_ireturn h (pc := 38) (by decide +kernel) rfl) ?_
  exact zfm0)
def tb_X15_deck (E : ZEX) (d mc ms : Nat) : List (Nat × ZStep) := [(0, s_aload 0 1), (1, s_const (.int (0)) 2), (2, s_putf 14 0 0 5), (5, s_aload 0 6), (6, s_iload 1 7), (7, s_callV E d mc ms 14 MX15_isMerchant 1 10), (10, s_if_eq 49 13), (13, s_iload 2 14), (14, s_const (.int (0)) 15), (15, s_aload 0 16), (16, s_getf 14 7 19), (19, s_getf 13 7 22), (22, s_iload 1 23), (23, s_iaload E 24), (24, s_const (.int (1)) 25), (25, s_isub 26), (26, s_callS E d mc ms MX15_isIn 3 29), (29, s_if_eq 49 32), (32, s_aload 0 33), (33, s_getf 14 7 36), (36, s_getf 13 6 39), (39, s_const (.int (60)) 41), (41, s_iload 1 42), (42, s_imul 43), (43, s_iload 2 44), (44, s_iadd 45), (45, s_iaload E 46), (46, s_goto 54), (49, s_aload 0 50), (50, s_const (.int (1)) 51), (51, s_callV E d mc ms 14 MX15_no 1 54), (54, s_ireturn)]
set_option maxRecDepth 20000 in
theorem ok_X15_deck {E : ZEX} {X : ZMX} {d mc ms : Nat} {P : ZPT} {T : ZTT} (h : ZCX E X MX15_deck d mc ms P T) : ∀ pc, ZRow E X MX15_deck mc ms P T pc (ztb (tb_X15_deck E d mc ms) pc) := ztb_ok (by
  unfold tb_X15_deck
  refine zfmc (r_aload_n h (pc := 0) (kf := 0) 0 (by decide +kernel) rfl) ?_
  refine zfmc (r_iconst h (pc := 1) (z := 0) (by decide +kernel) (0) (by decide +kernel)) ?_
  refine zfmc (r_putf h (pc := 2) (ix := 46) (by decide +kernel) ckX15 0 (by decide) 0 (fty := tyX15 0) (tyX15_ok 0 (by decide)) rfl rfl wk_57ca463f01) ?_
  refine zfmc (r_aload_n h (pc := 5) (kf := 0) 0 (by decide +kernel) rfl) ?_
  refine zfmc (r_iload_n h (pc := 6) (kf := 1) 1 (by decide +kernel) rfl) ?_
  refine zfmc (r_callV h (pc := 7) (ix := 437) (by decide +kernel) ckX15 1 mcX15_isMerchant wk_dc01e6bb07 wk_2f31eaf1ca wk_677c3c0242 rfl) ?_
  refine zfmc (r_if_eq h (pc := 10) (off := 39) (by decide +kernel) 49 (by decide +kernel)) ?_
  refine zfmc (r_iload_n h (pc := 13) (kf := 2) 2 (by decide +kernel) rfl) ?_
  refine zfmc (r_iconst h (pc := 14) (z := 0) (by decide +kernel) (0) (by decide +kernel)) ?_
  refine zfmc (r_aload_n h (pc := 15) (kf := 0) 0 (by decide +kernel) rfl) ?_
  refine zfmc (r_getf h (pc := 16) (ix := 27) (by decide +kernel) ckX15 7 (by decide) wk_bb0990f128) ?_
  refine zfmc (r_getfN h (pc := 19) (ix := 392) (by decide +kernel) ckX14 7 (by decide) wk_67bfe7c55c) ?_
  refine zfmc (r_iload_n h (pc := 22) (kf := 1) 1 (by decide +kernel) rfl) ?_
  refine zfmc (r_iaload h (pc := 23) (by decide +kernel)) ?_
  refine zfmc (r_iconst h (pc := 24) (z := 1) (by decide +kernel) (1) (by decide +kernel)) ?_
  refine zfmc (r_isub h (pc := 25) (by decide +kernel)) ?_
  refine zfmc (r_callS h (pc := 26) (ix := 52) (by decide +kernel) 3 mcX15_isIn wk_ed1f636136 wk_d0354324c1) ?_
  refine zfmc (r_if_eq h (pc := 29) (off := 20) (by decide +kernel) 49 (by decide +kernel)) ?_
  refine zfmc (r_aload_n h (pc := 32) (kf := 0) 0 (by decide +kernel) rfl) ?_
  refine zfmc (r_getf h (pc := 33) (ix := 27) (by decide +kernel) ckX15 7 (by decide) wk_bb0990f128) ?_
  refine zfmc (r_getfN h (pc := 36) (ix := 395) (by decide +kernel) ckX14 6 (by decide) wk_92a08cf95e) ?_
  refine zfmc (r_bipush h (pc := 39) (z := 60) (by decide +kernel) (60) (by decide +kernel)) ?_
  refine zfmc (r_iload_n h (pc := 41) (kf := 1) 1 (by decide +kernel) rfl) ?_
  refine zfmc (r_imul h (pc := 42) (by decide +kernel)) ?_
  refine zfmc (r_iload_n h (pc := 43) (kf := 2) 2 (by decide +kernel) rfl) ?_
  refine zfmc (r_iadd h (pc := 44) (by decide +kernel)) ?_
  refine zfmc (r_iaload h (pc := 45) (by decide +kernel)) ?_
  refine zfmc (r_goto h (pc := 46) (off := 8) (by decide +kernel) 54 (by decide +kernel)) ?_
  refine zfmc (r_aload_n h (pc := 49) (kf := 0) 0 (by decide +kernel) rfl) ?_
  refine zfmc (r_iconst h (pc := 50) (z := 1) (by decide +kernel) (1) (by decide +kernel)) ?_
  refine zfmc (r_callV h (pc := 51) (ix := 408) (by decide +kernel) ckX15 1 mcX15_no wk_d6e972a452 wk_8e3f3b9ff5 wk_f18335f135 rfl) ?_
  refine zfmc (r_ireturn h (pc := 54) (by decide +kernel) rfl) ?_
  exact zfm0)
def tb_X15_discard (E : ZEX) (d mc ms : Nat) : List (Nat × ZStep) := [(0, s_aload 0 1), (1, s_const (.int (0)) 2), (2, s_putf 14 0 0 5), (5, s_aload 0 6), (6, s_iload 1 7), (7, s_callV E d mc ms 14 MX15_isMerchant 1 10), (10, s_if_eq 49 13), (13, s_iload 2 14), (14, s_const (.int (0)) 15), (15, s_aload 0 16), (16, s_getf 14 7 19), (19, s_getf 13 9 22), (22, s_iload 1 23), (23, s_iaload E 24), (24, s_const (.int (1)) 25), (25, s_isub 26), (26, s_callS E d mc ms MX15_isIn 3 29), (29, s_if_eq 49 32), (32, s_aload 0 33), (33, s_getf 14 7 36), (36, s_getf 13 8 39), (39, s_const (.int (60)) 41), (41, s_iload 1 42), (42, s_imul 43), (43, s_iload 2 44), (44, s_iadd 45), (45, s_iaload E 46), (46, s_goto 54), (49, s_aload 0 50), (50, s_const (.int (1)) 51), (51, s_callV E d mc ms 14 MX15_no 1 54), (54, s_ireturn)]
set_option maxRecDepth 20000 in
theorem ok_X15_discard {E : ZEX} {X : ZMX} {d mc ms : Nat} {P : ZPT} {T : ZTT} (h : ZCX E X MX15_discard d mc ms P T) : ∀ pc, ZRow E X MX15_discard mc ms P T pc (ztb (tb_X15_discard E d mc ms) pc) := ztb_ok (by
  unfold tb_X15_discard
  refine zfmc (r_aload_n h (pc := 0) (kf := 0) 0 (by decide +kernel) rfl) ?_
  refine zfmc (r_iconst h (pc := 1) (z := 0) (by decide +kernel) (0) (by decide +kernel)) ?_
  refine zfmc (r_putf h (pc := 2) (ix := 46) (by decide +kernel) ckX15 0 (by decide) 0 (fty := tyX15 0) (tyX15_ok 0 (by decide)) rfl rfl wk_57ca463f01) ?_
  refine zfmc (r_aload_n h (pc := 5) (kf := 0) 0 (by decide +kernel) rfl) ?_
  refine zfmc (r_iload_n h (pc := 6) (kf := 1) 1 (by decide +kernel) rfl) ?_
  refine zfmc (r_callV h (pc := 7) (ix := 437) (by decide +kernel) ckX15 1 mcX15_isMerchant wk_dc01e6bb07 wk_2f31eaf1ca wk_677c3c0242 rfl) ?_
  refine zfmc (r_if_eq h (pc := 10) (off := 39) (by decide +kernel) 49 (by decide +kernel)) ?_
  refine zfmc (r_iload_n h (pc := 13) (kf := 2) 2 (by decide +kernel) rfl) ?_
  refine zfmc (r_iconst h (pc := 14) (z := 0) (by decide +kernel) (0) (by decide +kernel)) ?_
  refine zfmc (r_aload_n h (pc := 15) (kf := 0) 0 (by decide +kernel) rfl) ?_
  refine zfmc (r_getf h (pc := 16) (ix := 27) (by decide +kernel) ckX15 7 (by decide) wk_bb0990f128) ?_
  refine zfmc (r_getfN h (pc := 19) (ix := 398) (by decide +kernel) ckX14 9 (by decide) wk_f3aeaa7482) ?_
  refine zfmc (r_iload_n h (pc := 22) (kf := 1) 1 (by decide +kernel) rfl) ?_
  refine zfmc (r_iaload h (pc := 23) (by decide +kernel)) ?_
  refine zfmc (r_iconst h (pc := 24) (z := 1) (by decide +kernel) (1) (by decide +kernel)) ?_
  refine zfmc (r_isub h (pc := 25) (by decide +kernel)) ?_
  refine zfmc (r_callS h (pc := 26) (ix := 52) (by decide +kernel) 3 mcX15_isIn wk_ed1f636136 wk_d0354324c1) ?_
  refine zfmc (r_if_eq h (pc := 29) (off := 20) (by decide +kernel) 49 (by decide +kernel)) ?_
  refine zfmc (r_aload_n h (pc := 32) (kf := 0) 0 (by decide +kernel) rfl) ?_
  refine zfmc (r_getf h (pc := 33) (ix := 27) (by decide +kernel) ckX15 7 (by decide) wk_bb0990f128) ?_
  refine zfmc (r_getfN h (pc := 36) (ix := 401) (by decide +kernel) ckX14 8 (by decide) wk_463c0a872f) ?_
  refine zfmc (r_bipush h (pc := 39) (z := 60) (by decide +kernel) (60) (by decide +kernel)) ?_
  refine zfmc (r_iload_n h (pc := 41) (kf := 1) 1 (by decide +kernel) rfl) ?_
  refine zfmc (r_imul h (pc := 42) (by decide +kernel)) ?_
  refine zfmc (r_iload_n h (pc := 43) (kf := 2) 2 (by decide +kernel) rfl) ?_
  refine zfmc (r_iadd h (pc := 44) (by decide +kernel)) ?_
  refine zfmc (r_iaload h (pc := 45) (by decide +kernel)) ?_
  refine zfmc (r_goto h (pc := 46) (off := 8) (by decide +kernel) 54 (by decide +kernel)) ?_
  refine zfmc (r_aload_n h (pc := 49) (kf := 0) 0 (by decide +kernel) rfl) ?_
  refine zfmc (r_iconst h (pc := 50) (z := 1) (by decide +kernel) (1) (by decide +kernel)) ?_
  refine zfmc (r_callV h (pc := 51) (ix := 408) (by decide +kernel) ckX15 1 mcX15_no wk_d6e972a452 wk_8e3f3b9ff5 wk_f18335f135 rfl) ?_
  refine zfmc (r_ireturn h (pc := 54) (by decide +kernel) rfl) ?_
  exact zfm0)
def tb_X15_leader (E : ZEX) (d mc ms : Nat) : List (Nat × ZStep) := [(0, s_aload 0 1), (1, s_const (.int (0)) 2), (2, s_putf 14 0 0 5), (5, s_aload 0 6), (6, s_aload 0 7), (7, s_getf 14 7 10), (10, s_callV E d mc ms 14 MX15_leaderOf 1 13), (13, s_ireturn)]
set_option maxRecDepth 20000 in
theorem ok_X15_leader {E : ZEX} {X : ZMX} {d mc ms : Nat} {P : ZPT} {T : ZTT} (h : ZCX E X MX15_leader d mc ms P T) : ∀ pc, ZRow E X MX15_leader mc ms P T pc (ztb (tb_X15_leader E d mc ms) pc) := ztb_ok (by
  unfold tb_X15_leader
  refine zfmc (r_aload_n h (pc := 0) (kf := 0) 0 (by decide +kernel) rfl) ?_
  refine zfmc (r_iconst h (pc := 1) (z := 0) (by decide +kernel) (0) (by decide +kernel)) ?_
  refine zfmc (r_putf h (pc := 2) (ix := 46) (by decide +kernel) ckX15 0 (by decide) 0 (fty := tyX15 0) (tyX15_ok 0 (by decide)) rfl rfl wk_57ca463f01) ?_
  refine zfmc (r_aload_n h (pc := 5) (kf := 0) 0 (by decide +kernel) rfl) ?_
  refine zfmc (r_aload_n h (pc := 6) (kf := 0) 0 (by decide +kernel) rfl) ?_
  refine zfmc (r_getf h (pc := 7) (ix := 27) (by decide +kernel) ckX15 7 (by decide) wk_bb0990f128) ?_
  refine zfmc (r_callV h (pc := 10) (ix := 443) (by decide +kernel) ckX15 1 mcX15_leaderOf wk_7bffd842af wk_5571a74361 wk_c2b352b514 rfl) ?_
  refine zfmc (r_ireturn h (pc := 13) (by decide +kernel) rfl) ?_
  exact zfm0)
def tb_X15_canGive (E : ZEX) (d mc ms : Nat) : List (Nat × ZStep) := [(0, s_aload 0 1), (1, s_getf 14 7 4), (4, s_getf 13 3 7), (7, s_iload 2 8), (8, s_iaload E 9), (9, s_if_le 29 12), (12, s_aload 0 13), (13, s_getf 14 7 16), (16, s_iload 1 17), (17, s_callV E d mc ms 13 MX14_all 1 20), (20, s_const (.int (60)) 22), (22, s_icmp_ge 29 25), (25, s_const (.int (1)) 26), (26, s_goto 30), (29, s_const (.int (0)) 30), (30, s_zreturn)]
set_option maxRecDepth 20000 in
theorem ok_X15_canGive {E : ZEX} {X : ZMX} {d mc ms : Nat} {P : ZPT} {T : ZTT} (h : ZCX E X MX15_canGive d mc ms P T) : ∀ pc, ZRow E X MX15_canGive mc ms P T pc (ztb (tb_X15_canGive E d mc ms) pc) := ztb_ok (by
  unfold tb_X15_canGive
  refine zfmc (r_aload_n h (pc := 0) (kf := 0) 0 (by decide +kernel) rfl) ?_
  refine zfmc (r_getf h (pc := 1) (ix := 27) (by decide +kernel) ckX15 7 (by decide) wk_bb0990f128) ?_
  refine zfmc (r_getfN h (pc := 4) (ix := 302) (by decide +kernel) ckX14 3 (by decide) wk_f4f89b3b47) ?_
  refine zfmc (r_iload_n h (pc := 7) (kf := 2) 2 (by decide +kernel) rfl) ?_
  refine zfmc (r_iaload h (pc := 8) (by decide +kernel)) ?_
  refine zfmc (r_if_le h (pc := 9) (off := 20) (by decide +kernel) 29 (by decide +kernel)) ?_
  refine zfmc (r_aload_n h (pc := 12) (kf := 0) 0 (by decide +kernel) rfl) ?_
  refine zfmc (r_getf h (pc := 13) (ix := 27) (by decide +kernel) ckX15 7 (by decide) wk_bb0990f128) ?_
  refine zfmc (r_iload_n h (pc := 16) (kf := 1) 1 (by decide +kernel) rfl) ?_
  refine zfmc (r_callV h (pc := 17) (ix := 354) (by decide +kernel) ckX14 1 mcX14_all wk_0940095031 wk_bcc60fc80f wk_ab8f1e57c9 rfl) ?_
  refine zfmc (r_bipush h (pc := 20) (z := 60) (by decide +kernel) (60) (by decide +kernel)) ?_
  refine zfmc (r_icmp_ge h (pc := 22) (off := 7) (by decide +kernel) 29 (by decide +kernel)) ?_
  refine zfmc (r_iconst h (pc := 25) (z := 1) (by decide +kernel) (1) (by decide +kernel)) ?_
  refine zfmc (r_goto h (pc := 26) (off := 4) (by decide +kernel) 30 (by decide +kernel)) ?_
  refine zfmc (r_iconst h (pc := 29) (z := 0) (by decide +kernel) (0) (by decide +kernel)) ?_
  refine zfmc (r_zreturn h (pc := 30) (by decide +kernel) rfl) ?_
  exact zfm0)
def tb_X15_give (E : ZEX) (d mc ms : Nat) : List (Nat × ZStep) := [(0, s_aload 0 1), (1, s_getf 13 3 4), (4, s_iload 2 5), (5, s_dup2 6), (6, s_iaload E 7), (7, s_const (.int (1)) 8), (8, s_isub 9), (9, s_iastore E 10), (10, s_aload 0 11), (11, s_iload 1 12), (12, s_iload 2 13), (13, s_callV E d mc ms 13 MX14_discard 2 16), (16, s_return)]
set_option maxRecDepth 20000 in
theorem ok_X15_give {E : ZEX} {X : ZMX} {d mc ms : Nat} {P : ZPT} {T : ZTT} (h : ZCX E X MX15_give d mc ms P T) : ∀ pc, ZRow E X MX15_give mc ms P T pc (ztb (tb_X15_give E d mc ms) pc) := ztb_ok (by
  unfold tb_X15_give
  refine zfmc (r_aload_n h (pc := 0) (kf := 0) 0 (by decide +kernel) rfl) ?_
  refine zfmc (r_getfN h (pc := 1) (ix := 302) (by decide +kernel) ckX14 3 (by decide) wk_f4f89b3b47) ?_
  refine zfmc (r_iload_n h (pc := 4) (kf := 2) 2 (by decide +kernel) rfl) ?_
  refine zfmc (r_dup2 h (pc := 5) (by decide +kernel)) ?_
  refine zfmc (r_iaload h (pc := 6) (by decide +kernel)) ?_
  refine zfmc (r_iconst h (pc := 7) (z := 1) (by decide +kernel) (1) (by decide +kernel)) ?_
  refine zfmc (r_isub h (pc := 8) (by decide +kernel)) ?_
  refine zfmc (r_iastore h (pc := 9) (by decide +kernel)) ?_
  refine zfmc (r_aload_n h (pc := 10) (kf := 0) 0 (by decide +kernel) rfl) ?_
  refine zfmc (r_iload_n h (pc := 11) (kf := 1) 1 (by decide +kernel) rfl) ?_
  refine zfmc (r_iload_n h (pc := 12) (kf := 2) 2 (by decide +kernel) rfl) ?_
  refine zfmc (r_callV h (pc := 13) (ix := 357) (by decide +kernel) ckX14 2 mcX14_discard wk_f9bda2d395 wk_56a0df1c4d wk_8fa8d0d18b rfl) ?_
  refine zfmc (r_return h (pc := 16) (by decide +kernel) rfl) ?_
  exact zfm0)
def tb_X15_give_ (E : ZEX) (d mc ms : Nat) : List (Nat × ZStep) := [(0, s_aload 0 1), (1, s_const (.int (0)) 2), (2, s_putf 14 0 0 5), (5, s_aload 0 6), (6, s_iload 1 7), (7, s_callV E d mc ms 14 MX15_isMerchant 1 10), (10, s_if_eq 21 13), (13, s_aload 0 14), (14, s_iload 2 15), (15, s_callV E d mc ms 14 MX15_isCard 1 18), (18, s_if_ne 27 21), (21, s_aload 0 22), (22, s_const (.int (1)) 23), (23, s_callV E d mc ms 14 MX15_no 1 26), (26, s_ireturn), (27, s_aload 0 28), (28, s_iload 1 29), (29, s_iload 2 30), (30, s_callV E d mc ms 14 MX15_canGive 2 33), (33, s_if_ne 42 36), (36, s_aload 0 37), (37, s_const (.int (2)) 38), (38, s_callV E d mc ms 14 MX15_no 1 41), (41, s_ireturn), (42, s_aload 0 43), (43, s_getf 14 7 46), (46, s_iload 1 47), (47, s_iload 2 48), (48, s_callS E d mc ms MX15_give 3 51), (51, s_aload 0 52), (52, s_getf 14 7 55), (55, s_getf 13 3 58), (58, s_iload 2 59), (59, s_iaload E 60), (60, s_ireturn)]
set_option maxRecDepth 20000 in
theorem ok_X15_give_ {E : ZEX} {X : ZMX} {d mc ms : Nat} {P : ZPT} {T : ZTT} (h : ZCX E X MX15_give_ d mc ms P T) : ∀ pc, ZRow E X MX15_give_ mc ms P T pc (ztb (tb_X15_give_ E d mc ms) pc) := ztb_ok (by
  unfold tb_X15_give_
  refine zfmc (r_aload_n h (pc := 0) (kf := 0) 0 (by decide +kernel) rfl) ?_
  refine zfmc (r_iconst h (pc := 1) (z := 0) (by decide +kernel) (0) (by decide +kernel)) ?_
  refine zfmc (r_putf h (pc := 2) (ix := 46) (by decide +kernel) ckX15 0 (by decide) 0 (fty := tyX15 0) (tyX15_ok 0 (by decide)) rfl rfl wk_57ca463f01) ?_
  refine zfmc (r_aload_n h (pc := 5) (kf := 0) 0 (by decide +kernel) rfl) ?_
  refine zfmc (r_iload_n h (pc := 6) (kf := 1) 1 (by decide +kernel) rfl) ?_
  refine zfmc (r_callV h (pc := 7) (ix := 437) (by decide +kernel) ckX15 1 mcX15_isMerchant wk_dc01e6bb07 wk_2f31eaf1ca wk_677c3c0242 rfl) ?_
  refine zfmc (r_if_eq h (pc := 10) (off := 11) (by decide +kernel) 21 (by decide +kernel)) ?_
  refine zfmc (r_aload_n h (pc := 13) (kf := 0) 0 (by decide +kernel) rfl) ?_
  refine zfmc (r_iload_n h (pc := 14) (kf := 2) 2 (by decide +kernel) rfl) ?_
  refine zfmc (r_callV h (pc := 15) (ix := 431) (by decide +kernel) ckX15 1 mcX15_isCard wk_77b40d2a1b wk_33fdb02517 wk_4f6fde1f07 rfl) ?_
  refine zfmc (r_if_ne h (pc := 18) (off := 9) (by decide +kernel) 27 (by decide +kernel)) ?_
  refine zfmc (r_aload_n h (pc := 21) (kf := 0) 0 (by decide +kernel) rfl) ?_
  refine zfmc (r_iconst h (pc := 22) (z := 1) (by decide +kernel) (1) (by decide +kernel)) ?_
  refine zfmc (r_callV h (pc := 23) (ix := 408) (by decide +kernel) ckX15 1 mcX15_no wk_d6e972a452 wk_8e3f3b9ff5 wk_f18335f135 rfl) ?_
  refine zfmc (r_ireturn h (pc := 26) (by decide +kernel) rfl) ?_
  refine zfmc (r_aload_n h (pc := 27) (kf := 0) 0 (by decide +kernel) rfl) ?_
  refine zfmc (r_iload_n h (pc := 28) (kf := 1) 1 (by decide +kernel) rfl) ?_
  refine zfmc (r_iload_n h (pc := 29) (kf := 2) 2 (by decide +kernel) rfl) ?_
  refine zfmc (r_callV h (pc := 30) (ix := 447) (by decide +kernel) ckX15 2 mcX15_canGive wk_80ba0bcfb2 wk_5cbe6d6193 wk_9e3de439ab rfl) ?_
  refine zfmc (r_if_ne h (pc := 33) (off := 9) (by decide +kernel) 42 (by decide +kernel)) ?_
  refine zfmc (r_aload_n h (pc := 36) (kf := 0) 0 (by decide +kernel) rfl) ?_
  refine zfmc (r_iconst h (pc := 37) (z := 2) (by decide +kernel) (2) (by decide +kernel)) ?_
  refine zfmc (r_callV h (pc := 38) (ix := 408) (by decide +kernel) ckX15 1 mcX15_no wk_d6e972a452 wk_8e3f3b9ff5 wk_f18335f135 rfl) ?_
  refine zfmc (r_ireturn h (pc := 41) (by decide +kernel) rfl) ?_
  refine zfmc (r_aload_n h (pc := 42) (kf := 0) 0 (by decide +kernel) rfl) ?_
  refine zfmc (r_getf h (pc := 43) (ix := 27) (by decide +kernel) ckX15 7 (by decide) wk_bb0990f128) ?_
  refine zfmc (r_iload_n h (pc := 46) (kf := 1) 1 (by decide +kernel) rfl) ?_
  refine zfmc (r_iload_n h (pc := 47) (kf := 2) 2 (by decide +kernel) rfl) ?_
  refine zfmc (r_callS h (pc := 48) (ix := 451) (by decide +kernel) 3 mcX15_give wk_e00381b72a wk_ed07d9a968) ?_
  refine zfmc (r_aload_n h (pc := 51) (kf := 0) 0 (by decide +kernel) rfl) ?_
  refine zfmc (r_getf h (pc := 52) (ix := 27) (by decide +kernel) ckX15 7 (by decide) wk_bb0990f128) ?_
  refine zfmc (r_getfN h (pc := 55) (ix := 302) (by decide +kernel) ckX14 3 (by decide) wk_f4f89b3b47) ?_
  refine zfmc (r_iload_n h (pc := 58) (kf := 2) 2 (by decide +kernel) rfl) ?_
  refine zfmc (r_iaload h (pc := 59) (by decide +kernel)) ?_
  refine zfmc (r_ireturn h (pc := 60) (by decide +kernel) rfl) ?_
  exact zfm0)
def tb_X15_trash (E : ZEX) (d mc ms : Nat) : List (Nat × ZStep) := [(0, s_aload 0 1), (1, s_const (.int (0)) 2), (2, s_putf 14 0 0 5), (5, s_aload 0 6), (6, s_iload 1 7), (7, s_callV E d mc ms 14 MX15_isMerchant 1 10), (10, s_if_eq 21 13), (13, s_aload 0 14), (14, s_iload 2 15), (15, s_callV E d mc ms 14 MX15_isCard 1 18), (18, s_if_ne 27 21), (21, s_aload 0 22), (22, s_const (.int (1)) 23), (23, s_callV E d mc ms 14 MX15_no 1 26), (26, s_ireturn), (27, s_const (.int (60)) 29), (29, s_iload 1 30), (30, s_imul 31), (31, s_istore 3 32), (32, s_const (.int (0)) 33), (33, s_istore 4 35), (35, s_iload 4 37), (37, s_aload 0 38), (38, s_getf 14 7 41), (41, s_getf 13 9 44), (44, s_iload 1 45), (45, s_iaload E 46), (46, s_icmp_ge 155 49), (49, s_aload 0 50), (50, s_getf 14 7 53), (53, s_getf 13 8 56), (56, s_iload 3 57), (57, s_iload 4 59), (59, s_iadd 60), (60, s_iaload E 61), (61, s_iload 2 62), (62, s_icmp_eq 68 65), (65, s_goto 149), (68, s_aload 0 69), (69, s_getf 14 7 72), (72, s_getf 13 9 75), (75, s_iload 1 76), (76, s_dup2 77), (77, s_iaload E 78), (78, s_const (.int (1)) 79), (79, s_isub 80), (80, s_iastore E 81), (81, s_aload 0 82), (82, s_getf 14 7 85), (85, s_getf 13 8 88), (88, s_iload 3 89), (89, s_iload 4 91), (91, s_iadd 92), (92, s_const (.int (1)) 93), (93, s_iadd 94), (94, s_aload 0 95), (95, s_getf 14 7 98), (98, s_getf 13 8 101), (101, s_iload 3 102), (102, s_iload 4 104), (104, s_iadd 105), (105, s_aload 0 106), (106, s_getf 14 7 109), (109, s_getf 13 9 112), (112, s_iload 1 113), (113, s_iaload E 114), (114, s_iload 4 116), (116, s_isub 117), (117, s_acopy E d 120), (120, s_aload 0 121), (121, s_getf 14 7 124), (124, s_getf 13 11 127), (127, s_iload 1 128), (128, s_dup2 129), (129, s_iaload E 130), (130, s_const (.int (1)) 131), (131, s_iadd 132), (132, s_iastore E 133), (133, s_aload 0 134), (134, s_getf 14 7 137), (137, s_dup 138), (138, s_getf 13 1 141), (141, s_const (.int (1)) 142), (142, s_iadd 143), (143, s_putf 13 1 0 146), (146, s_iload 4 148), (148, s_ireturn), (149, s_iinc 4 (1) 152), (152, s_goto 35), (155, s_aload 0 156), (156, s_const (.int (2)) 157), (157, s_callV E d mc ms 14 MX15_no 1 160), (160, s_ireturn)]
set_option maxRecDepth 20000 in
theorem ok_X15_trash {E : ZEX} {X : ZMX} {d mc ms : Nat} {P : ZPT} {T : ZTT} (h : ZCX E X MX15_trash d mc ms P T) : ∀ pc, ZRow E X MX15_trash mc ms P T pc (ztb (tb_X15_trash E d mc ms) pc) := ztb_ok (by
  unfold tb_X15_trash
  refine zfmc (r_aload_n h (pc := 0) (kf := 0) 0 (by decide +kernel) rfl) ?_
  refine zfmc (r_iconst h (pc := 1) (z := 0) (by decide +kernel) (0) (by decide +kernel)) ?_
  refine zfmc (r_putf h (pc := 2) (ix := 46) (by decide +kernel) ckX15 0 (by decide) 0 (fty := tyX15 0) (tyX15_ok 0 (by decide)) rfl rfl wk_57ca463f01) ?_
  refine zfmc (r_aload_n h (pc := 5) (kf := 0) 0 (by decide +kernel) rfl) ?_
  refine zfmc (r_iload_n h (pc := 6) (kf := 1) 1 (by decide +kernel) rfl) ?_
  refine zfmc (r_callV h (pc := 7) (ix := 437) (by decide +kernel) ckX15 1 mcX15_isMerchant wk_dc01e6bb07 wk_2f31eaf1ca wk_677c3c0242 rfl) ?_
  refine zfmc (r_if_eq h (pc := 10) (off := 11) (by decide +kernel) 21 (by decide +kernel)) ?_
  refine zfmc (r_aload_n h (pc := 13) (kf := 0) 0 (by decide +kernel) rfl) ?_
  refine zfmc (r_iload_n h (pc := 14) (kf := 2) 2 (by decide +kernel) rfl) ?_
  refine zfmc (r_callV h (pc := 15) (ix := 431) (by decide +kernel) ckX15 1 mcX15_isCard wk_77b40d2a1b wk_33fdb02517 wk_4f6fde1f07 rfl) ?_
  refine zfmc (r_if_ne h (pc := 18) (off := 9) (by decide +kernel) 27 (by decide +kernel)) ?_
  refine zfmc (r_aload_n h (pc := 21) (kf := 0) 0 (by decide +kernel) rfl) ?_
  refine zfmc (r_iconst h (pc := 22) (z := 1) (by decide +kernel) (1) (by decide +kernel)) ?_
  refine zfmc (r_callV h (pc := 23) (ix := 408) (by decide +kernel) ckX15 1 mcX15_no wk_d6e972a452 wk_8e3f3b9ff5 wk_f18335f135 rfl) ?_
  refine zfmc (r_ireturn h (pc := 26) (by decide +kernel) rfl) ?_
  refine zfmc (r_bipush h (pc := 27) (z := 60) (by decide +kernel) (60) (by decide +kernel)) ?_
  refine zfmc (r_iload_n h (pc := 29) (kf := 1) 1 (by decide +kernel) rfl) ?_
  refine zfmc (r_imul h (pc := 30) (by decide +kernel)) ?_
  refine zfmc (r_istore_n h (pc := 31) (kf := 3) 3 (by decide +kernel) rfl (by decide +kernel)) ?_
  refine zfmc (r_iconst h (pc := 32) (z := 0) (by decide +kernel) (0) (by decide +kernel)) ?_
  refine zfmc (r_istore h (pc := 33) 4 (by decide +kernel) (by decide +kernel)) ?_
  refine zfmc (r_iload h (pc := 35) 4 (by decide +kernel)) ?_
  refine zfmc (r_aload_n h (pc := 37) (kf := 0) 0 (by decide +kernel) rfl) ?_
  refine zfmc (r_getf h (pc := 38) (ix := 27) (by decide +kernel) ckX15 7 (by decide) wk_bb0990f128) ?_
  refine zfmc (r_getfN h (pc := 41) (ix := 398) (by decide +kernel) ckX14 9 (by decide) wk_f3aeaa7482) ?_
  refine zfmc (r_iload_n h (pc := 44) (kf := 1) 1 (by decide +kernel) rfl) ?_
  refine zfmc (r_iaload h (pc := 45) (by decide +kernel)) ?_
  refine zfmc (r_icmp_ge h (pc := 46) (off := 109) (by decide +kernel) 155 (by decide +kernel)) ?_
  refine zfmc (r_aload_n h (pc := 49) (kf := 0) 0 (by decide +kernel) rfl) ?_
  refine zfmc (r_getf h (pc := 50) (ix := 27) (by decide +kernel) ckX15 7 (by decide) wk_bb0990f128) ?_
  refine zfmc (r_getfN h (pc := 53) (ix := 401) (by decide +kernel) ckX14 8 (by decide) wk_463c0a872f) ?_
  refine zfmc (r_iload_n h (pc := 56) (kf := 3) 3 (by decide +kernel) rfl) ?_
  refine zfmc (r_iload h (pc := 57) 4 (by decide +kernel)) ?_
  refine zfmc (r_iadd h (pc := 59) (by decide +kernel)) ?_
  refine zfmc (r_iaload h (pc := 60) (by decide +kernel)) ?_
  refine zfmc (r_iload_n h (pc := 61) (kf := 2) 2 (by decide +kernel) rfl) ?_
  refine zfmc (r_icmp_eq h (pc := 62) (off := 6) (by decide +kernel) 68 (by decide +kernel)) ?_
  refine zfmc (r_goto h (pc := 65) (off := 84) (by decide +kernel) 149 (by decide +kernel)) ?_
  refine zfmc (r_aload_n h (pc := 68) (kf := 0) 0 (by decide +kernel) rfl) ?_
  refine zfmc (r_getf h (pc := 69) (ix := 27) (by decide +kernel) ckX15 7 (by decide) wk_bb0990f128) ?_
  refine zfmc (r_getfN h (pc := 72) (ix := 398) (by decide +kernel) ckX14 9 (by decide) wk_f3aeaa7482) ?_
  refine zfmc (r_iload_n h (pc := 75) (kf := 1) 1 (by decide +kernel) rfl) ?_
  refine zfmc (r_dup2 h (pc := 76) (by decide +kernel)) ?_
  refine zfmc (r_iaload h (pc := 77) (by decide +kernel)) ?_
  refine zfmc (r_iconst h (pc := 78) (z := 1) (by decide +kernel) (1) (by decide +kernel)) ?_
  refine zfmc (r_isub h (pc := 79) (by decide +kernel)) ?_
  refine zfmc (r_iastore h (pc := 80) (by decide +kernel)) ?_
  refine zfmc (r_aload_n h (pc := 81) (kf := 0) 0 (by decide +kernel) rfl) ?_
  refine zfmc (r_getf h (pc := 82) (ix := 27) (by decide +kernel) ckX15 7 (by decide) wk_bb0990f128) ?_
  refine zfmc (r_getfN h (pc := 85) (ix := 401) (by decide +kernel) ckX14 8 (by decide) wk_463c0a872f) ?_
  refine zfmc (r_iload_n h (pc := 88) (kf := 3) 3 (by decide +kernel) rfl) ?_
  refine zfmc (r_iload h (pc := 89) 4 (by decide +kernel)) ?_
  refine zfmc (r_iadd h (pc := 91) (by decide +kernel)) ?_
  refine zfmc (r_iconst h (pc := 92) (z := 1) (by decide +kernel) (1) (by decide +kernel)) ?_
  refine zfmc (r_iadd h (pc := 93) (by decide +kernel)) ?_
  refine zfmc (r_aload_n h (pc := 94) (kf := 0) 0 (by decide +kernel) rfl) ?_
  refine zfmc (r_getf h (pc := 95) (ix := 27) (by decide +kernel) ckX15 7 (by decide) wk_bb0990f128) ?_
  refine zfmc (r_getfN h (pc := 98) (ix := 401) (by decide +kernel) ckX14 8 (by decide) wk_463c0a872f) ?_
  refine zfmc (r_iload_n h (pc := 101) (kf := 3) 3 (by decide +kernel) rfl) ?_
  refine zfmc (r_iload h (pc := 102) 4 (by decide +kernel)) ?_
  refine zfmc (r_iadd h (pc := 104) (by decide +kernel)) ?_
  refine zfmc (r_aload_n h (pc := 105) (kf := 0) 0 (by decide +kernel) rfl) ?_
  refine zfmc (r_getf h (pc := 106) (ix := 27) (by decide +kernel) ckX15 7 (by decide) wk_bb0990f128) ?_
  refine zfmc (r_getfN h (pc := 109) (ix := 398) (by decide +kernel) ckX14 9 (by decide) wk_f3aeaa7482) ?_
  refine zfmc (r_iload_n h (pc := 112) (kf := 1) 1 (by decide +kernel) rfl) ?_
  refine zfmc (r_iaload h (pc := 113) (by decide +kernel)) ?_
  refine zfmc (r_iload h (pc := 114) 4 (by decide +kernel)) ?_
  refine zfmc (r_isub h (pc := 116) (by decide +kernel)) ?_
  refine zfmc (r_acopy h (pc := 117) (ix := 322) (by decide +kernel) wk_4673d78a86 wk_14aeafd7f0 wk_410e289dfd wk_c7b251dcc4) ?_
  refine zfmc (r_aload_n h (pc := 120) (kf := 0) 0 (by decide +kernel) rfl) ?_
  refine zfmc (r_getf h (pc := 121) (ix := 27) (by decide +kernel) ckX15 7 (by decide) wk_bb0990f128) ?_
  refine zfmc (r_getfN h (pc := 124) (ix := 296) (by decide +kernel) ckX14 11 (by decide) wk_b0c93d9fec) ?_
  refine zfmc (r_iload_n h (pc := 127) (kf := 1) 1 (by decide +kernel) rfl) ?_
  refine zfmc (r_dup2 h (pc := 128) (by decide +kernel)) ?_
  refine zfmc (r_iaload h (pc := 129) (by decide +kernel)) ?_
  refine zfmc (r_iconst h (pc := 130) (z := 1) (by decide +kernel) (1) (by decide +kernel)) ?_
  refine zfmc (r_iadd h (pc := 131) (by decide +kernel)) ?_
  refine zfmc (r_iastore h (pc := 132) (by decide +kernel)) ?_
  refine zfmc (r_aload_n h (pc := 133) (kf := 0) 0 (by decide +kernel) rfl) ?_
  refine zfmc (r_getf h (pc := 134) (ix := 27) (by decide +kernel) ckX15 7 (by decide) wk_bb0990f128) ?_
  refine zfmc (r_dup h (pc := 137) (by decide +kernel)) ?_
  refine zfmc (r_getfN h (pc := 138) (ix := 328) (by decide +kernel) ckX14 1 (by decide) wk_755f3a88aa) ?_
  refine zfmc (r_iconst h (pc := 141) (z := 1) (by decide +kernel) (1) (by decide +kernel)) ?_
  refine zfmc (r_iadd h (pc := 142) (by decide +kernel)) ?_
  refine zfmc (r_putfN h (pc := 143) (ix := 328) (by decide +kernel) ckX14 1 (by decide) 0 (fty := tyX14 1) (tyX14_ok 1 (by decide)) rfl rfl wk_755f3a88aa) ?_
  refine zfmc (r_iload h (pc := 146) 4 (by decide +kernel)) ?_
  refine zfmc (r_ireturn h (pc := 148) (by decide +kernel) rfl) ?_
  refine zfmc (r_iinc h (pc := 149) 4 (z := 1) (by decide +kernel) (1) (by decide +kernel) (by decide +kernel)) ?_
  refine zfmc (r_goto h (pc := 152) (off := -117) (by decide +kernel) 35 (by decide +kernel)) ?_
  refine zfmc (r_aload_n h (pc := 155) (kf := 0) 0 (by decide +kernel) rfl) ?_
  refine zfmc (r_iconst h (pc := 156) (z := 2) (by decide +kernel) (2) (by decide +kernel)) ?_
  refine zfmc (r_callV h (pc := 157) (ix := 408) (by decide +kernel) ckX15 1 mcX15_no wk_d6e972a452 wk_8e3f3b9ff5 wk_f18335f135 rfl) ?_
  refine zfmc (r_ireturn h (pc := 160) (by decide +kernel) rfl) ?_
  exact zfm0)
def tb_X15_shuffle (E : ZEX) (d mc ms : Nat) : List (Nat × ZStep) := [(0, s_aload 0 1), (1, s_const (.int (0)) 2), (2, s_putf 14 0 0 5), (5, s_aload 0 6), (6, s_iload 1 7), (7, s_callV E d mc ms 14 MX15_isMerchant 1 10), (10, s_if_ne 19 13), (13, s_aload 0 14), (14, s_const (.int (1)) 15), (15, s_callV E d mc ms 14 MX15_no 1 18), (18, s_ireturn), (19, s_aload 0 20), (20, s_getf 14 7 23), (23, s_iload 1 24), (24, s_callV E d mc ms 13 MX14_shuffle 1 27), (27, s_aload 0 28), (28, s_getf 14 7 31), (31, s_getf 13 7 34), (34, s_iload 1 35), (35, s_iaload E 36), (36, s_ireturn)]
set_option maxRecDepth 20000 in
theorem ok_X15_shuffle {E : ZEX} {X : ZMX} {d mc ms : Nat} {P : ZPT} {T : ZTT} (h : ZCX E X MX15_shuffle d mc ms P T) : ∀ pc, ZRow E X MX15_shuffle mc ms P T pc (ztb (tb_X15_shuffle E d mc ms) pc) := ztb_ok (by
  unfold tb_X15_shuffle
  refine zfmc (r_aload_n h (pc := 0) (kf := 0) 0 (by decide +kernel) rfl) ?_
  refine zfmc (r_iconst h (pc := 1) (z := 0) (by decide +kernel) (0) (by decide +kernel)) ?_
  refine zfmc (r_putf h (pc := 2) (ix := 46) (by decide +kernel) ckX15 0 (by decide) 0 (fty := tyX15 0) (tyX15_ok 0 (by decide)) rfl rfl wk_57ca463f01) ?_
  refine zfmc (r_aload_n h (pc := 5) (kf := 0) 0 (by decide +kernel) rfl) ?_
  refine zfmc (r_iload_n h (pc := 6) (kf := 1) 1 (by decide +kernel) rfl) ?_
  refine zfmc (r_callV h (pc := 7) (ix := 437) (by decide +kernel) ckX15 1 mcX15_isMerchant wk_dc01e6bb07 wk_2f31eaf1ca wk_677c3c0242 rfl) ?_
  refine zfmc (r_if_ne h (pc := 10) (off := 9) (by decide +kernel) 19 (by decide +kernel)) ?_
  refine zfmc (r_aload_n h (pc := 13) (kf := 0) 0 (by decide +kernel) rfl) ?_
  refine zfmc (r_iconst h (pc := 14) (z := 1) (by decide +kernel) (1) (by decide +kernel)) ?_
  refine zfmc (r_callV h (pc := 15) (ix := 408) (by decide +kernel) ckX15 1 mcX15_no wk_d6e972a452 wk_8e3f3b9ff5 wk_f18335f135 rfl) ?_
  refine zfmc (r_ireturn h (pc := 18) (by decide +kernel) rfl) ?_
  refine zfmc (r_aload_n h (pc := 19) (kf := 0) 0 (by decide +kernel) rfl) ?_
  refine zfmc (r_getf h (pc := 20) (ix := 27) (by decide +kernel) ckX15 7 (by decide) wk_bb0990f128) ?_
  refine zfmc (r_iload_n h (pc := 23) (kf := 1) 1 (by decide +kernel) rfl) ?_
  refine zfmc (r_callV h (pc := 24) (ix := 455) (by decide +kernel) ckX14 1 mcX14_shuffle wk_0720a8419f wk_be7045b58e wk_ec6d6501f0 rfl) ?_
  refine zfmc (r_aload_n h (pc := 27) (kf := 0) 0 (by decide +kernel) rfl) ?_
  refine zfmc (r_getf h (pc := 28) (ix := 27) (by decide +kernel) ckX15 7 (by decide) wk_bb0990f128) ?_
  refine zfmc (r_getfN h (pc := 31) (ix := 392) (by decide +kernel) ckX14 7 (by decide) wk_67bfe7c55c) ?_
  refine zfmc (r_iload_n h (pc := 34) (kf := 1) 1 (by decide +kernel) rfl) ?_
  refine zfmc (r_iaload h (pc := 35) (by decide +kernel)) ?_
  refine zfmc (r_ireturn h (pc := 36) (by decide +kernel) rfl) ?_
  exact zfm0)
def tb_X15_play (E : ZEX) (d mc ms : Nat) : List (Nat × ZStep) := [(0, s_aload 0 1), (1, s_const (.int (0)) 2), (2, s_putf 14 0 0 5), (5, s_iload 1 6), (6, s_const (.int (1)) 7), (7, s_const (.int (40)) 9), (9, s_callS E d mc ms MX15_isIn 3 12), (12, s_if_ne 21 15), (15, s_aload 0 16), (16, s_const (.int (1)) 17), (17, s_callV E d mc ms 14 MX15_no 1 20), (20, s_ireturn), (21, s_aload 0 22), (22, s_getf 14 7 25), (25, s_getf 13 2 28), (28, s_istore 2 29), (29, s_aload 0 30), (30, s_aload 0 31), (31, s_getf 14 7 34), (34, s_iload 1 35), (35, s_callV E d mc ms 14 MX15_rounds 2 38), (38, s_aload 0 39), (39, s_getf 14 7 42), (42, s_getf 13 2 45), (45, s_iload 2 46), (46, s_isub 47), (47, s_ireturn)]
set_option maxRecDepth 20000 in
theorem ok_X15_play {E : ZEX} {X : ZMX} {d mc ms : Nat} {P : ZPT} {T : ZTT} (h : ZCX E X MX15_play d mc ms P T) : ∀ pc, ZRow E X MX15_play mc ms P T pc (ztb (tb_X15_play E d mc ms) pc) := ztb_ok (by
  unfold tb_X15_play
  refine zfmc (r_aload_n h (pc := 0) (kf := 0) 0 (by decide +kernel) rfl) ?_
  refine zfmc (r_iconst h (pc := 1) (z := 0) (by decide +kernel) (0) (by decide +kernel)) ?_
  refine zfmc (r_putf h (pc := 2) (ix := 46) (by decide +kernel) ckX15 0 (by decide) 0 (fty := tyX15 0) (tyX15_ok 0 (by decide)) rfl rfl wk_57ca463f01) ?_
  refine zfmc (r_iload_n h (pc := 5) (kf := 1) 1 (by decide +kernel) rfl) ?_
  refine zfmc (r_iconst h (pc := 6) (z := 1) (by decide +kernel) (1) (by decide +kernel)) ?_
  refine zfmc (r_bipush h (pc := 7) (z := 40) (by decide +kernel) (40) (by decide +kernel)) ?_
  refine zfmc (r_callS h (pc := 9) (ix := 52) (by decide +kernel) 3 mcX15_isIn wk_ed1f636136 wk_d0354324c1) ?_
  refine zfmc (r_if_ne h (pc := 12) (off := 9) (by decide +kernel) 21 (by decide +kernel)) ?_
  refine zfmc (r_aload_n h (pc := 15) (kf := 0) 0 (by decide +kernel) rfl) ?_
  refine zfmc (r_iconst h (pc := 16) (z := 1) (by decide +kernel) (1) (by decide +kernel)) ?_
  refine zfmc (r_callV h (pc := 17) (ix := 408) (by decide +kernel) ckX15 1 mcX15_no wk_d6e972a452 wk_8e3f3b9ff5 wk_f18335f135 rfl) ?_
  refine zfmc (r_ireturn h (pc := 20) (by decide +kernel) rfl) ?_
  refine zfmc (r_aload_n h (pc := 21) (kf := 0) 0 (by decide +kernel) rfl) ?_
  refine zfmc (r_getf h (pc := 22) (ix := 27) (by decide +kernel) ckX15 7 (by decide) wk_bb0990f128) ?_
  refine zfmc (r_getfN h (pc := 25) (ix := 364) (by decide +kernel) ckX14 2 (by decide) wk_54a19969e5) ?_
  refine zfmc (r_istore_n h (pc := 28) (kf := 2) 2 (by decide +kernel) rfl (by decide +kernel)) ?_
  refine zfmc (r_aload_n h (pc := 29) (kf := 0) 0 (by decide +kernel) rfl) ?_
  refine zfmc (r_aload_n h (pc := 30) (kf := 0) 0 (by decide +kernel) rfl) ?_
  refine zfmc (r_getf h (pc := 31) (ix := 27) (by decide +kernel) ckX15 7 (by decide) wk_bb0990f128) ?_
  refine zfmc (r_iload_n h (pc := 34) (kf := 1) 1 (by decide +kernel) rfl) ?_
  refine zfmc (r_callV h (pc := 35) (ix := 458) (by decide +kernel) ckX15 2 mcX15_rounds wk_4d9e675988 wk_40cca6d271 wk_adf265c318 rfl) ?_
  refine zfmc (r_aload_n h (pc := 38) (kf := 0) 0 (by decide +kernel) rfl) ?_
  refine zfmc (r_getf h (pc := 39) (ix := 27) (by decide +kernel) ckX15 7 (by decide) wk_bb0990f128) ?_
  refine zfmc (r_getfN h (pc := 42) (ix := 364) (by decide +kernel) ckX14 2 (by decide) wk_54a19969e5) ?_
  refine zfmc (r_iload_n h (pc := 45) (kf := 2) 2 (by decide +kernel) rfl) ?_
  refine zfmc (r_isub h (pc := 46) (by decide +kernel)) ?_
  refine zfmc (r_ireturn h (pc := 47) (by decide +kernel) rfl) ?_
  exact zfm0)
def tb_X15_next (E : ZEX) (d mc ms : Nat) : List (Nat × ZStep) := [(0, s_aload 0 1), (1, s_const (.int (0)) 2), (2, s_putf 14 0 0 5), (5, s_aload 0 6), (6, s_iload 1 7), (7, s_callV E d mc ms 14 MX15_isMerchant 1 10), (10, s_if_eq 22 13), (13, s_iload 2 14), (14, s_const (.int (0)) 15), (15, s_const (.int (4)) 16), (16, s_callS E d mc ms MX15_isIn 3 19), (19, s_if_ne 28 22), (22, s_aload 0 23), (23, s_const (.int (1)) 24), (24, s_callV E d mc ms 14 MX15_no 1 27), (27, s_ireturn), (28, s_aload 0 29), (29, s_getf 14 8 32), (32, s_aload 0 33), (33, s_getf 14 7 36), (36, s_callV E d mc ms 13 MX14_become 1 39), (39, s_aload 0 40), (40, s_aload 0 41), (41, s_getf 14 8 44), (44, s_iload 1 45), (45, s_callV E d mc ms 14 MX15_turn 2 48), (48, s_iload 2 49), (49, s_tsw 0 [80, 85, 90, 95] 100), (80, s_aload 0 81), (81, s_getf 14 18 84), (84, s_ireturn), (85, s_aload 0 86), (86, s_getf 14 19 89), (89, s_ireturn), (90, s_aload 0 91), (91, s_getf 14 14 94), (94, s_ireturn), (95, s_aload 0 96), (96, s_getf 14 20 99), (99, s_ireturn), (100, s_aload 0 101), (101, s_getf 14 21 104), (104, s_ireturn)]
set_option maxRecDepth 20000 in
theorem ok_X15_next {E : ZEX} {X : ZMX} {d mc ms : Nat} {P : ZPT} {T : ZTT} (h : ZCX E X MX15_next d mc ms P T) : ∀ pc, ZRow E X MX15_next mc ms P T pc (ztb (tb_X15_next E d mc ms) pc) := ztb_ok (by
  unfold tb_X15_next
  refine zfmc (r_aload_n h (pc := 0) (kf := 0) 0 (by decide +kernel) rfl) ?_
  refine zfmc (r_iconst h (pc := 1) (z := 0) (by decide +kernel) (0) (by decide +kernel)) ?_
  refine zfmc (r_putf h (pc := 2) (ix := 46) (by decide +kernel) ckX15 0 (by decide) 0 (fty := tyX15 0) (tyX15_ok 0 (by decide)) rfl rfl wk_57ca463f01) ?_
  refine zfmc (r_aload_n h (pc := 5) (kf := 0) 0 (by decide +kernel) rfl) ?_
  refine zfmc (r_iload_n h (pc := 6) (kf := 1) 1 (by decide +kernel) rfl) ?_
  refine zfmc (r_callV h (pc := 7) (ix := 437) (by decide +kernel) ckX15 1 mcX15_isMerchant wk_dc01e6bb07 wk_2f31eaf1ca wk_677c3c0242 rfl) ?_
  refine zfmc (r_if_eq h (pc := 10) (off := 12) (by decide +kernel) 22 (by decide +kernel)) ?_
  refine zfmc (r_iload_n h (pc := 13) (kf := 2) 2 (by decide +kernel) rfl) ?_
  refine zfmc (r_iconst h (pc := 14) (z := 0) (by decide +kernel) (0) (by decide +kernel)) ?_
  refine zfmc (r_iconst h (pc := 15) (z := 4) (by decide +kernel) (4) (by decide +kernel)) ?_
  refine zfmc (r_callS h (pc := 16) (ix := 52) (by decide +kernel) 3 mcX15_isIn wk_ed1f636136 wk_d0354324c1) ?_
  refine zfmc (r_if_ne h (pc := 19) (off := 9) (by decide +kernel) 28 (by decide +kernel)) ?_
  refine zfmc (r_aload_n h (pc := 22) (kf := 0) 0 (by decide +kernel) rfl) ?_
  refine zfmc (r_iconst h (pc := 23) (z := 1) (by decide +kernel) (1) (by decide +kernel)) ?_
  refine zfmc (r_callV h (pc := 24) (ix := 408) (by decide +kernel) ckX15 1 mcX15_no wk_d6e972a452 wk_8e3f3b9ff5 wk_f18335f135 rfl) ?_
  refine zfmc (r_ireturn h (pc := 27) (by decide +kernel) rfl) ?_
  refine zfmc (r_aload_n h (pc := 28) (kf := 0) 0 (by decide +kernel) rfl) ?_
  refine zfmc (r_getf h (pc := 29) (ix := 31) (by decide +kernel) ckX15 8 (by decide) wk_5e658eb7a5) ?_
  refine zfmc (r_aload_n h (pc := 32) (kf := 0) 0 (by decide +kernel) rfl) ?_
  refine zfmc (r_getf h (pc := 33) (ix := 27) (by decide +kernel) ckX15 7 (by decide) wk_bb0990f128) ?_
  refine zfmc (r_callV h (pc := 36) (ix := 461) (by decide +kernel) ckX14 1 mcX14_become wk_dd583291e7 wk_29e6ace742 wk_9a9842c5bc rfl) ?_
  refine zfmc (r_aload_n h (pc := 39) (kf := 0) 0 (by decide +kernel) rfl) ?_
  refine zfmc (r_aload_n h (pc := 40) (kf := 0) 0 (by decide +kernel) rfl) ?_
  refine zfmc (r_getf h (pc := 41) (ix := 31) (by decide +kernel) ckX15 8 (by decide) wk_5e658eb7a5) ?_
  refine zfmc (r_iload_n h (pc := 44) (kf := 1) 1 (by decide +kernel) rfl) ?_
  refine zfmc (r_callV h (pc := 45) (ix := 388) (by decide +kernel) ckX15 2 mcX15_turn wk_98e21f9383 wk_1849f28298 wk_8f33aebc51 rfl) ?_
  refine zfmc (r_iload_n h (pc := 48) (kf := 2) 2 (by decide +kernel) rfl) ?_
  refine zfmc (r_tsw h (pc := 49) (dflt := 51) (lo := 0) (hi := 3) (offs := #[31, 36, 41, 46]) (len := 31) (by decide +kernel) [80, 85, 90, 95] 100 (by decide +kernel) (by decide +kernel) (by decide +kernel)) ?_
  refine zfmc (r_aload_n h (pc := 80) (kf := 0) 0 (by decide +kernel) rfl) ?_
  refine zfmc (r_getf h (pc := 81) (ix := 373) (by decide +kernel) ckX15 18 (by decide) wk_1d40bc64eb) ?_
  refine zfmc (r_ireturn h (pc := 84) (by decide +kernel) rfl) ?_
  refine zfmc (r_aload_n h (pc := 85) (kf := 0) 0 (by decide +kernel) rfl) ?_
  refine zfmc (r_getf h (pc := 86) (ix := 376) (by decide +kernel) ckX15 19 (by decide) wk_83b4ac6f2a) ?_
  refine zfmc (r_ireturn h (pc := 89) (by decide +kernel) rfl) ?_
  refine zfmc (r_aload_n h (pc := 90) (kf := 0) 0 (by decide +kernel) rfl) ?_
  refine zfmc (r_getf h (pc := 91) (ix := 319) (by decide +kernel) ckX15 14 (by decide) wk_9d40ab46c8) ?_
  refine zfmc (r_ireturn h (pc := 94) (by decide +kernel) rfl) ?_
  refine zfmc (r_aload_n h (pc := 95) (kf := 0) 0 (by decide +kernel) rfl) ?_
  refine zfmc (r_getf h (pc := 96) (ix := 331) (by decide +kernel) ckX15 20 (by decide) wk_63e7676f14) ?_
  refine zfmc (r_ireturn h (pc := 99) (by decide +kernel) rfl) ?_
  refine zfmc (r_aload_n h (pc := 100) (kf := 0) 0 (by decide +kernel) rfl) ?_
  refine zfmc (r_getf h (pc := 101) (ix := 367) (by decide +kernel) ckX15 21 (by decide) wk_fc4541e523) ?_
  refine zfmc (r_ireturn h (pc := 104) (by decide +kernel) rfl) ?_
  exact zfm0)
def tb_X15_foresee (E : ZEX) (d mc ms : Nat) : List (Nat × ZStep) := [(0, s_aload 0 1), (1, s_const (.int (0)) 2), (2, s_putf 14 0 0 5), (5, s_iload 1 6), (6, s_const (.int (1)) 7), (7, s_const (.int (40)) 9), (9, s_callS E d mc ms MX15_isIn 3 12), (12, s_if_ne 21 15), (15, s_aload 0 16), (16, s_const (.int (1)) 17), (17, s_callV E d mc ms 14 MX15_no 1 20), (20, s_ireturn), (21, s_iload 2 22), (22, s_if_eq 41 25), (25, s_iload 2 26), (26, s_const (.int (4)) 27), (27, s_const (.int (7)) 29), (29, s_callS E d mc ms MX15_isIn 3 32), (32, s_if_ne 41 35), (35, s_aload 0 36), (36, s_const (.int (2)) 37), (37, s_callV E d mc ms 14 MX15_no 1 40), (40, s_ireturn), (41, s_aload 0 42), (42, s_getf 14 8 45), (45, s_aload 0 46), (46, s_getf 14 7 49), (49, s_callV E d mc ms 13 MX14_become 1 52), (52, s_aload 0 53), (53, s_aload 0 54), (54, s_getf 14 8 57), (57, s_iload 1 58), (58, s_callV E d mc ms 14 MX15_rounds 2 61), (61, s_iload 2 62), (62, s_if_ne 76 65), (65, s_aload 0 66), (66, s_aload 0 67), (67, s_getf 14 8 70), (70, s_callV E d mc ms 14 MX15_leaderOf 1 73), (73, s_goto 85), (76, s_aload 0 77), (77, s_aload 0 78), (78, s_getf 14 8 81), (81, s_iload 2 82), (82, s_callV E d mc ms 14 MX15_counted 2 85), (85, s_ireturn)]
set_option maxRecDepth 20000 in
theorem ok_X15_foresee {E : ZEX} {X : ZMX} {d mc ms : Nat} {P : ZPT} {T : ZTT} (h : ZCX E X MX15_foresee d mc ms P T) : ∀ pc, ZRow E X MX15_foresee mc ms P T pc (ztb (tb_X15_foresee E d mc ms) pc) := ztb_ok (by
  unfold tb_X15_foresee
  refine zfmc (r_aload_n h (pc := 0) (kf := 0) 0 (by decide +kernel) rfl) ?_
  refine zfmc (r_iconst h (pc := 1) (z := 0) (by decide +kernel) (0) (by decide +kernel)) ?_
  refine zfmc (r_putf h (pc := 2) (ix := 46) (by decide +kernel) ckX15 0 (by decide) 0 (fty := tyX15 0) (tyX15_ok 0 (by decide)) rfl rfl wk_57ca463f01) ?_
  refine zfmc (r_iload_n h (pc := 5) (kf := 1) 1 (by decide +kernel) rfl) ?_
  refine zfmc (r_iconst h (pc := 6) (z := 1) (by decide +kernel) (1) (by decide +kernel)) ?_
  refine zfmc (r_bipush h (pc := 7) (z := 40) (by decide +kernel) (40) (by decide +kernel)) ?_
  refine zfmc (r_callS h (pc := 9) (ix := 52) (by decide +kernel) 3 mcX15_isIn wk_ed1f636136 wk_d0354324c1) ?_
  refine zfmc (r_if_ne h (pc := 12) (off := 9) (by decide +kernel) 21 (by decide +kernel)) ?_
  refine zfmc (r_aload_n h (pc := 15) (kf := 0) 0 (by decide +kernel) rfl) ?_
  refine zfmc (r_iconst h (pc := 16) (z := 1) (by decide +kernel) (1) (by decide +kernel)) ?_
  refine zfmc (r_callV h (pc := 17) (ix := 408) (by decide +kernel) ckX15 1 mcX15_no wk_d6e972a452 wk_8e3f3b9ff5 wk_f18335f135 rfl) ?_
  refine zfmc (r_ireturn h (pc := 20) (by decide +kernel) rfl) ?_
  refine zfmc (r_iload_n h (pc := 21) (kf := 2) 2 (by decide +kernel) rfl) ?_
  refine zfmc (r_if_eq h (pc := 22) (off := 19) (by decide +kernel) 41 (by decide +kernel)) ?_
  refine zfmc (r_iload_n h (pc := 25) (kf := 2) 2 (by decide +kernel) rfl) ?_
  refine zfmc (r_iconst h (pc := 26) (z := 4) (by decide +kernel) (4) (by decide +kernel)) ?_
  refine zfmc (r_bipush h (pc := 27) (z := 7) (by decide +kernel) (7) (by decide +kernel)) ?_
  refine zfmc (r_callS h (pc := 29) (ix := 52) (by decide +kernel) 3 mcX15_isIn wk_ed1f636136 wk_d0354324c1) ?_
  refine zfmc (r_if_ne h (pc := 32) (off := 9) (by decide +kernel) 41 (by decide +kernel)) ?_
  refine zfmc (r_aload_n h (pc := 35) (kf := 0) 0 (by decide +kernel) rfl) ?_
  refine zfmc (r_iconst h (pc := 36) (z := 2) (by decide +kernel) (2) (by decide +kernel)) ?_
  refine zfmc (r_callV h (pc := 37) (ix := 408) (by decide +kernel) ckX15 1 mcX15_no wk_d6e972a452 wk_8e3f3b9ff5 wk_f18335f135 rfl) ?_
  refine zfmc (r_ireturn h (pc := 40) (by decide +kernel) rfl) ?_
  refine zfmc (r_aload_n h (pc := 41) (kf := 0) 0 (by decide +kernel) rfl) ?_
  refine zfmc (r_getf h (pc := 42) (ix := 31) (by decide +kernel) ckX15 8 (by decide) wk_5e658eb7a5) ?_
  refine zfmc (r_aload_n h (pc := 45) (kf := 0) 0 (by decide +kernel) rfl) ?_
  refine zfmc (r_getf h (pc := 46) (ix := 27) (by decide +kernel) ckX15 7 (by decide) wk_bb0990f128) ?_
  refine zfmc (r_callV h (pc := 49) (ix := 461) (by decide +kernel) ckX14 1 mcX14_become wk_dd583291e7 wk_29e6ace742 wk_9a9842c5bc rfl) ?_
  refine zfmc (r_aload_n h (pc := 52) (kf := 0) 0 (by decide +kernel) rfl) ?_
  refine zfmc (r_aload_n h (pc := 53) (kf := 0) 0 (by decide +kernel) rfl) ?_
  refine zfmc (r_getf h (pc := 54) (ix := 31) (by decide +kernel) ckX15 8 (by decide) wk_5e658eb7a5) ?_
  refine zfmc (r_iload_n h (pc := 57) (kf := 1) 1 (by decide +kernel) rfl) ?_
  refine zfmc (r_callV h (pc := 58) (ix := 458) (by decide +kernel) ckX15 2 mcX15_rounds wk_4d9e675988 wk_40cca6d271 wk_adf265c318 rfl) ?_
  refine zfmc (r_iload_n h (pc := 61) (kf := 2) 2 (by decide +kernel) rfl) ?_
  refine zfmc (r_if_ne h (pc := 62) (off := 14) (by decide +kernel) 76 (by decide +kernel)) ?_
  refine zfmc (r_aload_n h (pc := 65) (kf := 0) 0 (by decide +kernel) rfl) ?_
  refine zfmc (r_aload_n h (pc := 66) (kf := 0) 0 (by decide +kernel) rfl) ?_
  refine zfmc (r_getf h (pc := 67) (ix := 31) (by decide +kernel) ckX15 8 (by decide) wk_5e658eb7a5) ?_
  refine zfmc (r_callV h (pc := 70) (ix := 443) (by decide +kernel) ckX15 1 mcX15_leaderOf wk_7bffd842af wk_5571a74361 wk_c2b352b514 rfl) ?_
  refine zfmc (r_goto h (pc := 73) (off := 12) (by decide +kernel) 85 (by decide +kernel)) ?_
  refine zfmc (r_aload_n h (pc := 76) (kf := 0) 0 (by decide +kernel) rfl) ?_
  refine zfmc (r_aload_n h (pc := 77) (kf := 0) 0 (by decide +kernel) rfl) ?_
  refine zfmc (r_getf h (pc := 78) (ix := 31) (by decide +kernel) ckX15 8 (by decide) wk_5e658eb7a5) ?_
  refine zfmc (r_iload_n h (pc := 81) (kf := 2) 2 (by decide +kernel) rfl) ?_
  refine zfmc (r_callV h (pc := 82) (ix := 428) (by decide +kernel) ckX15 2 mcX15_counted wk_696fc635b3 wk_7563dfc585 wk_27f8aa3aeb rfl) ?_
  refine zfmc (r_ireturn h (pc := 85) (by decide +kernel) rfl) ?_
  exact zfm0)
def tb_X15_missed (E : ZEX) (d mc ms : Nat) : List (Nat × ZStep) := [(0, s_aload 0 1), (1, s_const (.int (0)) 2), (2, s_putf 14 0 0 5), (5, s_aload 0 6), (6, s_iload 1 7), (7, s_callV E d mc ms 14 MX15_isMerchant 1 10), (10, s_if_ne 19 13), (13, s_aload 0 14), (14, s_const (.int (1)) 15), (15, s_callV E d mc ms 14 MX15_no 1 18), (18, s_ireturn), (19, s_iload 2 20), (20, s_const (.int (1)) 21), (21, s_const (.int (20)) 23), (23, s_callS E d mc ms MX15_isIn 3 26), (26, s_if_ne 35 29), (29, s_aload 0 30), (30, s_const (.int (2)) 31), (31, s_callV E d mc ms 14 MX15_no 1 34), (34, s_ireturn), (35, s_const (.int (-1)) 36), (36, s_istore 3 37), (37, s_const (.int (0)) 38), (38, s_istore 4 40), (40, s_const (.int (0)) 41), (41, s_istore 5 43), (43, s_iload 5 45), (45, s_aload 0 46), (46, s_getf 14 6 49), (49, s_getf 12 16 52), (52, s_icmp_ge 142 55), (55, s_aload 0 56), (56, s_getf 14 6 59), (59, s_getf 12 18 62), (62, s_iload 5 64), (64, s_iaload E 65), (65, s_iload 1 66), (66, s_icmp_eq 72 69), (69, s_goto 136), (72, s_aload 0 73), (73, s_getf 14 8 76), (76, s_aload 0 77), (77, s_getf 14 7 80), (80, s_callV E d mc ms 13 MX14_become 1 83), (83, s_aload 0 84), (84, s_iload 5 86), (86, s_putf 14 22 0 89), (89, s_aload 0 90), (90, s_aload 0 91), (91, s_getf 14 8 94), (94, s_iload 2 95), (95, s_callV E d mc ms 14 MX15_rounds 2 98), (98, s_aload 0 99), (99, s_const (.int (-1)) 100), (100, s_putf 14 22 0 103), (103, s_aload 0 104), (104, s_aload 0 105), (105, s_getf 14 8 108), (108, s_iload 1 109), (109, s_callV E d mc ms 14 MX15_worthOf 2 112), (112, s_istore 6 114), (114, s_iload 3 115), (115, s_const (.int (-1)) 116), (116, s_icmp_eq 129 119), (119, s_iload 6 121), (121, s_iload 4 123), (123, s_icmp_lt 129 126), (126, s_goto 136), (129, s_iload 6 131), (131, s_istore 4 133), (133, s_iload 5 135), (135, s_istore 3 136), (136, s_iinc 5 (1) 139), (139, s_goto 43), (142, s_iload 3 143), (143, s_ireturn)]
set_option maxRecDepth 20000 in
theorem ok_X15_missed {E : ZEX} {X : ZMX} {d mc ms : Nat} {P : ZPT} {T : ZTT} (h : ZCX E X MX15_missed d mc ms P T) : ∀ pc, ZRow E X MX15_missed mc ms P T pc (ztb (tb_X15_missed E d mc ms) pc) := ztb_ok (by
  unfold tb_X15_missed
  refine zfmc (r_aload_n h (pc := 0) (kf := 0) 0 (by decide +kernel) rfl) ?_
  refine zfmc (r_iconst h (pc := 1) (z := 0) (by decide +kernel) (0) (by decide +kernel)) ?_
  refine zfmc (r_putf h (pc := 2) (ix := 46) (by decide +kernel) ckX15 0 (by decide) 0 (fty := tyX15 0) (tyX15_ok 0 (by decide)) rfl rfl wk_57ca463f01) ?_
  refine zfmc (r_aload_n h (pc := 5) (kf := 0) 0 (by decide +kernel) rfl) ?_
  refine zfmc (r_iload_n h (pc := 6) (kf := 1) 1 (by decide +kernel) rfl) ?_
  refine zfmc (r_callV h (pc := 7) (ix := 437) (by decide +kernel) ckX15 1 mcX15_isMerchant wk_dc01e6bb07 wk_2f31eaf1ca wk_677c3c0242 rfl) ?_
  refine zfmc (r_if_ne h (pc := 10) (off := 9) (by decide +kernel) 19 (by decide +kernel)) ?_
  refine zfmc (r_aload_n h (pc := 13) (kf := 0) 0 (by decide +kernel) rfl) ?_
  refine zfmc (r_iconst h (pc := 14) (z := 1) (by decide +kernel) (1) (by decide +kernel)) ?_
  refine zfmc (r_callV h (pc := 15) (ix := 408) (by decide +kernel) ckX15 1 mcX15_no wk_d6e972a452 wk_8e3f3b9ff5 wk_f18335f135 rfl) ?_
  refine zfmc (r_ireturn h (pc := 18) (by decide +kernel) rfl) ?_
  refine zfmc (r_iload_n h (pc := 19) (kf := 2) 2 (by decide +kernel) rfl) ?_
  refine zfmc (r_iconst h (pc := 20) (z := 1) (by decide +kernel) (1) (by decide +kernel)) ?_
  refine zfmc (r_bipush h (pc := 21) (z := 20) (by decide +kernel) (20) (by decide +kernel)) ?_
  refine zfmc (r_callS h (pc := 23) (ix := 52) (by decide +kernel) 3 mcX15_isIn wk_ed1f636136 wk_d0354324c1) ?_
  refine zfmc (r_if_ne h (pc := 26) (off := 9) (by decide +kernel) 35 (by decide +kernel)) ?_
  refine zfmc (r_aload_n h (pc := 29) (kf := 0) 0 (by decide +kernel) rfl) ?_
  refine zfmc (r_iconst h (pc := 30) (z := 2) (by decide +kernel) (2) (by decide +kernel)) ?_
  refine zfmc (r_callV h (pc := 31) (ix := 408) (by decide +kernel) ckX15 1 mcX15_no wk_d6e972a452 wk_8e3f3b9ff5 wk_f18335f135 rfl) ?_
  refine zfmc (r_ireturn h (pc := 34) (by decide +kernel) rfl) ?_
  refine zfmc (r_iconst h (pc := 35) (z := -1) (by decide +kernel) (-1) (by decide +kernel)) ?_
  refine zfmc (r_istore_n h (pc := 36) (kf := 3) 3 (by decide +kernel) rfl (by decide +kernel)) ?_
  refine zfmc (r_iconst h (pc := 37) (z := 0) (by decide +kernel) (0) (by decide +kernel)) ?_
  refine zfmc (r_istore h (pc := 38) 4 (by decide +kernel) (by decide +kernel)) ?_
  refine zfmc (r_iconst h (pc := 40) (z := 0) (by decide +kernel) (0) (by decide +kernel)) ?_
  refine zfmc (r_istore h (pc := 41) 5 (by decide +kernel) (by decide +kernel)) ?_
  refine zfmc (r_iload h (pc := 43) 5 (by decide +kernel)) ?_
  refine zfmc (r_aload_n h (pc := 45) (kf := 0) 0 (by decide +kernel) rfl) ?_
  refine zfmc (r_getf h (pc := 46) (ix := 20) (by decide +kernel) ckX15 6 (by decide) wk_bda7210969) ?_
  refine zfmc (r_getfN h (pc := 49) (ix := 204) (by decide +kernel) ckX13 16 (by decide) wk_194e060314) ?_
  refine zfmc (r_icmp_ge h (pc := 52) (off := 90) (by decide +kernel) 142 (by decide +kernel)) ?_
  refine zfmc (r_aload_n h (pc := 55) (kf := 0) 0 (by decide +kernel) rfl) ?_
  refine zfmc (r_getf h (pc := 56) (ix := 20) (by decide +kernel) ckX15 6 (by decide) wk_bda7210969) ?_
  refine zfmc (r_getfN h (pc := 59) (ix := 207) (by decide +kernel) ckX13 18 (by decide) wk_8d423eb8e2) ?_
  refine zfmc (r_iload h (pc := 62) 5 (by decide +kernel)) ?_
  refine zfmc (r_iaload h (pc := 64) (by decide +kernel)) ?_
  refine zfmc (r_iload_n h (pc := 65) (kf := 1) 1 (by decide +kernel) rfl) ?_
  refine zfmc (r_icmp_eq h (pc := 66) (off := 6) (by decide +kernel) 72 (by decide +kernel)) ?_
  refine zfmc (r_goto h (pc := 69) (off := 67) (by decide +kernel) 136 (by decide +kernel)) ?_
  refine zfmc (r_aload_n h (pc := 72) (kf := 0) 0 (by decide +kernel) rfl) ?_
  refine zfmc (r_getf h (pc := 73) (ix := 31) (by decide +kernel) ckX15 8 (by decide) wk_5e658eb7a5) ?_
  refine zfmc (r_aload_n h (pc := 76) (kf := 0) 0 (by decide +kernel) rfl) ?_
  refine zfmc (r_getf h (pc := 77) (ix := 27) (by decide +kernel) ckX15 7 (by decide) wk_bb0990f128) ?_
  refine zfmc (r_callV h (pc := 80) (ix := 461) (by decide +kernel) ckX14 1 mcX14_become wk_dd583291e7 wk_29e6ace742 wk_9a9842c5bc rfl) ?_
  refine zfmc (r_aload_n h (pc := 83) (kf := 0) 0 (by decide +kernel) rfl) ?_
  refine zfmc (r_iload h (pc := 84) 5 (by decide +kernel)) ?_
  refine zfmc (r_putf h (pc := 86) (ix := 43) (by decide +kernel) ckX15 22 (by decide) 0 (fty := tyX15 22) (tyX15_ok 22 (by decide)) rfl rfl wk_faf6dad86c) ?_
  refine zfmc (r_aload_n h (pc := 89) (kf := 0) 0 (by decide +kernel) rfl) ?_
  refine zfmc (r_aload_n h (pc := 90) (kf := 0) 0 (by decide +kernel) rfl) ?_
  refine zfmc (r_getf h (pc := 91) (ix := 31) (by decide +kernel) ckX15 8 (by decide) wk_5e658eb7a5) ?_
  refine zfmc (r_iload_n h (pc := 94) (kf := 2) 2 (by decide +kernel) rfl) ?_
  refine zfmc (r_callV h (pc := 95) (ix := 458) (by decide +kernel) ckX15 2 mcX15_rounds wk_4d9e675988 wk_40cca6d271 wk_adf265c318 rfl) ?_
  refine zfmc (r_aload_n h (pc := 98) (kf := 0) 0 (by decide +kernel) rfl) ?_
  refine zfmc (r_iconst h (pc := 99) (z := -1) (by decide +kernel) (-1) (by decide +kernel)) ?_
  refine zfmc (r_putf h (pc := 100) (ix := 43) (by decide +kernel) ckX15 22 (by decide) 0 (fty := tyX15 22) (tyX15_ok 22 (by decide)) rfl rfl wk_faf6dad86c) ?_
  refine zfmc (r_aload_n h (pc := 103) (kf := 0) 0 (by decide +kernel) rfl) ?_
  refine zfmc (r_aload_n h (pc := 104) (kf := 0) 0 (by decide +kernel) rfl) ?_
  refine zfmc (r_getf h (pc := 105) (ix := 31) (by decide +kernel) ckX15 8 (by decide) wk_5e658eb7a5) ?_
  refine zfmc (r_iload_n h (pc := 108) (kf := 1) 1 (by decide +kernel) rfl) ?_
  refine zfmc (r_callV h (pc := 109) (ix := 404) (by decide +kernel) ckX15 2 mcX15_worthOf wk_fb0a21ee0e wk_92b92dda45 wk_87dffed090 rfl) ?_
  refine zfmc (r_istore h (pc := 112) 6 (by decide +kernel) (by decide +kernel)) ?_
  refine zfmc (r_iload_n h (pc := 114) (kf := 3) 3 (by decide +kernel) rfl) ?_
  refine zfmc (r_iconst h (pc := 115) (z := -1) (by decide +kernel) (-1) (by decide +kernel)) ?_
  refine zfmc (r_icmp_eq h (pc := 116) (off := 13) (by decide +kernel) 129 (by decide +kernel)) ?_
  refine zfmc (r_iload h (pc := 119) 6 (by decide +kernel)) ?_
  refine zfmc (r_iload h (pc := 121) 4 (by decide +kernel)) ?_
  refine zfmc (r_icmp_lt h (pc := 123) (off := 6) (by decide +kernel) 129 (by decide +kernel)) ?_
  refine zfmc (r_goto h (pc := 126) (off := 10) (by decide +kernel) 136 (by decide +kernel)) ?_
  refine zfmc (r_iload h (pc := 129) 6 (by decide +kernel)) ?_
  refine zfmc (r_istore h (pc := 131) 4 (by decide +kernel) (by decide +kernel)) ?_
  refine zfmc (r_iload h (pc := 133) 5 (by decide +kernel)) ?_
  refine zfmc (r_istore_n h (pc := 135) (kf := 3) 3 (by decide +kernel) rfl (by decide +kernel)) ?_
  refine zfmc (r_iinc h (pc := 136) 5 (z := 1) (by decide +kernel) (1) (by decide +kernel) (by decide +kernel)) ?_
  refine zfmc (r_goto h (pc := 139) (off := -96) (by decide +kernel) 43 (by decide +kernel)) ?_
  refine zfmc (r_iload_n h (pc := 142) (kf := 3) 3 (by decide +kernel) rfl) ?_
  refine zfmc (r_ireturn h (pc := 143) (by decide +kernel) rfl) ?_
  exact zfm0)
section
variable {E : ZEX} {d mc ms : Nat} {cut : Nat → Bool} {G : ZCont} {R : ZRtn} {T : ZTT} {Z : Nat → ZCont}
theorem f_X15_errorAt_0 (hZ : ZRN (ztb (tb_X15_errorAt E d mc ms)) cut G R T Z) (f : Nat) (L : ZLV) (st : List Value) (σ : ZHp) (n k w : Nat) : Z (f + 1) 0 L st σ n k w = s_aload 0 1 L st σ n k w (zk1 cut G (Z f)) G R T := zrs hZ rfl f L st σ n k w
theorem f_X15_errorAt_1 (hZ : ZRN (ztb (tb_X15_errorAt E d mc ms)) cut G R T Z) (f : Nat) (L : ZLV) (st : List Value) (σ : ZHp) (n k w : Nat) : Z (f + 1) 1 L st σ n k w = s_const (.int (0)) 2 L st σ n k w (zk1 cut G (Z f)) G R T := zrs hZ rfl f L st σ n k w
theorem f_X15_errorAt_2 (hZ : ZRN (ztb (tb_X15_errorAt E d mc ms)) cut G R T Z) (f : Nat) (L : ZLV) (st : List Value) (σ : ZHp) (n k w : Nat) : Z (f + 1) 2 L st σ n k w = s_putf 14 0 0 5 L st σ n k w (zk1 cut G (Z f)) G R T := zrs hZ rfl f L st σ n k w
theorem f_X15_errorAt_5 (hZ : ZRN (ztb (tb_X15_errorAt E d mc ms)) cut G R T Z) (f : Nat) (L : ZLV) (st : List Value) (σ : ZHp) (n k w : Nat) : Z (f + 1) 5 L st σ n k w = s_aload 0 6 L st σ n k w (zk1 cut G (Z f)) G R T := zrs hZ rfl f L st σ n k w
theorem f_X15_errorAt_6 (hZ : ZRN (ztb (tb_X15_errorAt E d mc ms)) cut G R T Z) (f : Nat) (L : ZLV) (st : List Value) (σ : ZHp) (n k w : Nat) : Z (f + 1) 6 L st σ n k w = s_getf 14 3 9 L st σ n k w (zk1 cut G (Z f)) G R T := zrs hZ rfl f L st σ n k w
theorem f_X15_errorAt_9 (hZ : ZRN (ztb (tb_X15_errorAt E d mc ms)) cut G R T Z) (f : Nat) (L : ZLV) (st : List Value) (σ : ZHp) (n k w : Nat) : Z (f + 1) 9 L st σ n k w = s_ireturn L st σ n k w (zk1 cut G (Z f)) G R T := zrs hZ rfl f L st σ n k w
theorem f_X15_count_0 (hZ : ZRN (ztb (tb_X15_count E d mc ms)) cut G R T Z) (f : Nat) (L : ZLV) (st : List Value) (σ : ZHp) (n k w : Nat) : Z (f + 1) 0 L st σ n k w = s_aload 0 1 L st σ n k w (zk1 cut G (Z f)) G R T := zrs hZ rfl f L st σ n k w
theorem f_X15_count_1 (hZ : ZRN (ztb (tb_X15_count E d mc ms)) cut G R T Z) (f : Nat) (L : ZLV) (st : List Value) (σ : ZHp) (n k w : Nat) : Z (f + 1) 1 L st σ n k w = s_const (.int (0)) 2 L st σ n k w (zk1 cut G (Z f)) G R T := zrs hZ rfl f L st σ n k w
theorem f_X15_count_2 (hZ : ZRN (ztb (tb_X15_count E d mc ms)) cut G R T Z) (f : Nat) (L : ZLV) (st : List Value) (σ : ZHp) (n k w : Nat) : Z (f + 1) 2 L st σ n k w = s_putf 14 0 0 5 L st σ n k w (zk1 cut G (Z f)) G R T := zrs hZ rfl f L st σ n k w
theorem f_X15_count_5 (hZ : ZRN (ztb (tb_X15_count E d mc ms)) cut G R T Z) (f : Nat) (L : ZLV) (st : List Value) (σ : ZHp) (n k w : Nat) : Z (f + 1) 5 L st σ n k w = s_iload 1 6 L st σ n k w (zk1 cut G (Z f)) G R T := zrs hZ rfl f L st σ n k w
theorem f_X15_count_6 (hZ : ZRN (ztb (tb_X15_count E d mc ms)) cut G R T Z) (f : Nat) (L : ZLV) (st : List Value) (σ : ZHp) (n k w : Nat) : Z (f + 1) 6 L st σ n k w = s_const (.int (0)) 7 L st σ n k w (zk1 cut G (Z f)) G R T := zrs hZ rfl f L st σ n k w
theorem f_X15_count_7 (hZ : ZRN (ztb (tb_X15_count E d mc ms)) cut G R T Z) (f : Nat) (L : ZLV) (st : List Value) (σ : ZHp) (n k w : Nat) : Z (f + 1) 7 L st σ n k w = s_const (.int (8)) 9 L st σ n k w (zk1 cut G (Z f)) G R T := zrs hZ rfl f L st σ n k w
theorem f_X15_count_9 (hZ : ZRN (ztb (tb_X15_count E d mc ms)) cut G R T Z) (f : Nat) (L : ZLV) (st : List Value) (σ : ZHp) (n k w : Nat) : Z (f + 1) 9 L st σ n k w = s_callS E d mc ms MX15_isIn 3 12 L st σ n k w (zk1 cut G (Z f)) G R T := zrs hZ rfl f L st σ n k w
theorem f_X15_count_12 (hZ : ZRN (ztb (tb_X15_count E d mc ms)) cut G R T Z) (f : Nat) (L : ZLV) (st : List Value) (σ : ZHp) (n k w : Nat) : Z (f + 1) 12 L st σ n k w = s_if_eq 27 15 L st σ n k w (zk1 cut G (Z f)) G R T := zrs hZ rfl f L st σ n k w
theorem f_X15_count_15 (hZ : ZRN (ztb (tb_X15_count E d mc ms)) cut G R T Z) (f : Nat) (L : ZLV) (st : List Value) (σ : ZHp) (n k w : Nat) : Z (f + 1) 15 L st σ n k w = s_aload 0 16 L st σ n k w (zk1 cut G (Z f)) G R T := zrs hZ rfl f L st σ n k w
theorem f_X15_count_16 (hZ : ZRN (ztb (tb_X15_count E d mc ms)) cut G R T Z) (f : Nat) (L : ZLV) (st : List Value) (σ : ZHp) (n k w : Nat) : Z (f + 1) 16 L st σ n k w = s_aload 0 17 L st σ n k w (zk1 cut G (Z f)) G R T := zrs hZ rfl f L st σ n k w
theorem f_X15_count_17 (hZ : ZRN (ztb (tb_X15_count E d mc ms)) cut G R T Z) (f : Nat) (L : ZLV) (st : List Value) (σ : ZHp) (n k w : Nat) : Z (f + 1) 17 L st σ n k w = s_getf 14 7 20 L st σ n k w (zk1 cut G (Z f)) G R T := zrs hZ rfl f L st σ n k w
theorem f_X15_count_20 (hZ : ZRN (ztb (tb_X15_count E d mc ms)) cut G R T Z) (f : Nat) (L : ZLV) (st : List Value) (σ : ZHp) (n k w : Nat) : Z (f + 1) 20 L st σ n k w = s_iload 1 21 L st σ n k w (zk1 cut G (Z f)) G R T := zrs hZ rfl f L st σ n k w
theorem f_X15_count_21 (hZ : ZRN (ztb (tb_X15_count E d mc ms)) cut G R T Z) (f : Nat) (L : ZLV) (st : List Value) (σ : ZHp) (n k w : Nat) : Z (f + 1) 21 L st σ n k w = s_callV E d mc ms 14 MX15_counted 2 24 L st σ n k w (zk1 cut G (Z f)) G R T := zrs hZ rfl f L st σ n k w
theorem f_X15_count_24 (hZ : ZRN (ztb (tb_X15_count E d mc ms)) cut G R T Z) (f : Nat) (L : ZLV) (st : List Value) (σ : ZHp) (n k w : Nat) : Z (f + 1) 24 L st σ n k w = s_goto 32 L st σ n k w (zk1 cut G (Z f)) G R T := zrs hZ rfl f L st σ n k w
theorem f_X15_count_27 (hZ : ZRN (ztb (tb_X15_count E d mc ms)) cut G R T Z) (f : Nat) (L : ZLV) (st : List Value) (σ : ZHp) (n k w : Nat) : Z (f + 1) 27 L st σ n k w = s_aload 0 28 L st σ n k w (zk1 cut G (Z f)) G R T := zrs hZ rfl f L st σ n k w
theorem f_X15_count_28 (hZ : ZRN (ztb (tb_X15_count E d mc ms)) cut G R T Z) (f : Nat) (L : ZLV) (st : List Value) (σ : ZHp) (n k w : Nat) : Z (f + 1) 28 L st σ n k w = s_const (.int (1)) 29 L st σ n k w (zk1 cut G (Z f)) G R T := zrs hZ rfl f L st σ n k w
theorem f_X15_count_29 (hZ : ZRN (ztb (tb_X15_count E d mc ms)) cut G R T Z) (f : Nat) (L : ZLV) (st : List Value) (σ : ZHp) (n k w : Nat) : Z (f + 1) 29 L st σ n k w = s_callV E d mc ms 14 MX15_no 1 32 L st σ n k w (zk1 cut G (Z f)) G R T := zrs hZ rfl f L st σ n k w
theorem f_X15_count_32 (hZ : ZRN (ztb (tb_X15_count E d mc ms)) cut G R T Z) (f : Nat) (L : ZLV) (st : List Value) (σ : ZHp) (n k w : Nat) : Z (f + 1) 32 L st σ n k w = s_ireturn L st σ n k w (zk1 cut G (Z f)) G R T := zrs hZ rfl f L st σ n k w
theorem f_X15_cardTold_0 (hZ : ZRN (ztb (tb_X15_cardTold E d mc ms)) cut G R T Z) (f : Nat) (L : ZLV) (st : List Value) (σ : ZHp) (n k w : Nat) : Z (f + 1) 0 L st σ n k w = s_const (.int (0)) 1 L st σ n k w (zk1 cut G (Z f)) G R T := zrs hZ rfl f L st σ n k w
theorem f_X15_cardTold_1 (hZ : ZRN (ztb (tb_X15_cardTold E d mc ms)) cut G R T Z) (f : Nat) (L : ZLV) (st : List Value) (σ : ZHp) (n k w : Nat) : Z (f + 1) 1 L st σ n k w = s_istore 3 2 L st σ n k w (zk1 cut G (Z f)) G R T := zrs hZ rfl f L st σ n k w
theorem f_X15_cardTold_2 (hZ : ZRN (ztb (tb_X15_cardTold E d mc ms)) cut G R T Z) (f : Nat) (L : ZLV) (st : List Value) (σ : ZHp) (n k w : Nat) : Z (f + 1) 2 L st σ n k w = s_iload 2 3 L st σ n k w (zk1 cut G (Z f)) G R T := zrs hZ rfl f L st σ n k w
theorem f_X15_cardTold_3 (hZ : ZRN (ztb (tb_X15_cardTold E d mc ms)) cut G R T Z) (f : Nat) (L : ZLV) (st : List Value) (σ : ZHp) (n k w : Nat) : Z (f + 1) 3 L st σ n k w = s_tsw 0 [40, 50, 60, 70, 80, 116] 126 L st σ n k w (zk1 cut G (Z f)) G R T := zrs hZ rfl f L st σ n k w
theorem f_X15_cardTold_40 (hZ : ZRN (ztb (tb_X15_cardTold E d mc ms)) cut G R T Z) (f : Nat) (L : ZLV) (st : List Value) (σ : ZHp) (n k w : Nat) : Z (f + 1) 40 L st σ n k w = s_aload 0 41 L st σ n k w (zk1 cut G (Z f)) G R T := zrs hZ rfl f L st σ n k w
theorem f_X15_cardTold_41 (hZ : ZRN (ztb (tb_X15_cardTold E d mc ms)) cut G R T Z) (f : Nat) (L : ZLV) (st : List Value) (σ : ZHp) (n k w : Nat) : Z (f + 1) 41 L st σ n k w = s_getf 14 6 44 L st σ n k w (zk1 cut G (Z f)) G R T := zrs hZ rfl f L st σ n k w
theorem f_X15_cardTold_44 (hZ : ZRN (ztb (tb_X15_cardTold E d mc ms)) cut G R T Z) (f : Nat) (L : ZLV) (st : List Value) (σ : ZHp) (n k w : Nat) : Z (f + 1) 44 L st σ n k w = s_getf 12 7 47 L st σ n k w (zk1 cut G (Z f)) G R T := zrs hZ rfl f L st σ n k w
theorem f_X15_cardTold_47 (hZ : ZRN (ztb (tb_X15_cardTold E d mc ms)) cut G R T Z) (f : Nat) (L : ZLV) (st : List Value) (σ : ZHp) (n k w : Nat) : Z (f + 1) 47 L st σ n k w = s_iload 1 48 L st σ n k w (zk1 cut G (Z f)) G R T := zrs hZ rfl f L st σ n k w
theorem f_X15_cardTold_48 (hZ : ZRN (ztb (tb_X15_cardTold E d mc ms)) cut G R T Z) (f : Nat) (L : ZLV) (st : List Value) (σ : ZHp) (n k w : Nat) : Z (f + 1) 48 L st σ n k w = s_iaload E 49 L st σ n k w (zk1 cut G (Z f)) G R T := zrs hZ rfl f L st σ n k w
theorem f_X15_cardTold_49 (hZ : ZRN (ztb (tb_X15_cardTold E d mc ms)) cut G R T Z) (f : Nat) (L : ZLV) (st : List Value) (σ : ZHp) (n k w : Nat) : Z (f + 1) 49 L st σ n k w = s_ireturn L st σ n k w (zk1 cut G (Z f)) G R T := zrs hZ rfl f L st σ n k w
theorem f_X15_cardTold_50 (hZ : ZRN (ztb (tb_X15_cardTold E d mc ms)) cut G R T Z) (f : Nat) (L : ZLV) (st : List Value) (σ : ZHp) (n k w : Nat) : Z (f + 1) 50 L st σ n k w = s_aload 0 51 L st σ n k w (zk1 cut G (Z f)) G R T := zrs hZ rfl f L st σ n k w
theorem f_X15_cardTold_51 (hZ : ZRN (ztb (tb_X15_cardTold E d mc ms)) cut G R T Z) (f : Nat) (L : ZLV) (st : List Value) (σ : ZHp) (n k w : Nat) : Z (f + 1) 51 L st σ n k w = s_getf 14 6 54 L st σ n k w (zk1 cut G (Z f)) G R T := zrs hZ rfl f L st σ n k w
theorem f_X15_cardTold_54 (hZ : ZRN (ztb (tb_X15_cardTold E d mc ms)) cut G R T Z) (f : Nat) (L : ZLV) (st : List Value) (σ : ZHp) (n k w : Nat) : Z (f + 1) 54 L st σ n k w = s_getf 12 8 57 L st σ n k w (zk1 cut G (Z f)) G R T := zrs hZ rfl f L st σ n k w
theorem f_X15_cardTold_57 (hZ : ZRN (ztb (tb_X15_cardTold E d mc ms)) cut G R T Z) (f : Nat) (L : ZLV) (st : List Value) (σ : ZHp) (n k w : Nat) : Z (f + 1) 57 L st σ n k w = s_iload 1 58 L st σ n k w (zk1 cut G (Z f)) G R T := zrs hZ rfl f L st σ n k w
theorem f_X15_cardTold_58 (hZ : ZRN (ztb (tb_X15_cardTold E d mc ms)) cut G R T Z) (f : Nat) (L : ZLV) (st : List Value) (σ : ZHp) (n k w : Nat) : Z (f + 1) 58 L st σ n k w = s_iaload E 59 L st σ n k w (zk1 cut G (Z f)) G R T := zrs hZ rfl f L st σ n k w
theorem f_X15_cardTold_59 (hZ : ZRN (ztb (tb_X15_cardTold E d mc ms)) cut G R T Z) (f : Nat) (L : ZLV) (st : List Value) (σ : ZHp) (n k w : Nat) : Z (f + 1) 59 L st σ n k w = s_ireturn L st σ n k w (zk1 cut G (Z f)) G R T := zrs hZ rfl f L st σ n k w
theorem f_X15_cardTold_60 (hZ : ZRN (ztb (tb_X15_cardTold E d mc ms)) cut G R T Z) (f : Nat) (L : ZLV) (st : List Value) (σ : ZHp) (n k w : Nat) : Z (f + 1) 60 L st σ n k w = s_aload 0 61 L st σ n k w (zk1 cut G (Z f)) G R T := zrs hZ rfl f L st σ n k w
theorem f_X15_cardTold_61 (hZ : ZRN (ztb (tb_X15_cardTold E d mc ms)) cut G R T Z) (f : Nat) (L : ZLV) (st : List Value) (σ : ZHp) (n k w : Nat) : Z (f + 1) 61 L st σ n k w = s_getf 14 6 64 L st σ n k w (zk1 cut G (Z f)) G R T := zrs hZ rfl f L st σ n k w
theorem f_X15_cardTold_64 (hZ : ZRN (ztb (tb_X15_cardTold E d mc ms)) cut G R T Z) (f : Nat) (L : ZLV) (st : List Value) (σ : ZHp) (n k w : Nat) : Z (f + 1) 64 L st σ n k w = s_getf 12 10 67 L st σ n k w (zk1 cut G (Z f)) G R T := zrs hZ rfl f L st σ n k w
theorem f_X15_cardTold_67 (hZ : ZRN (ztb (tb_X15_cardTold E d mc ms)) cut G R T Z) (f : Nat) (L : ZLV) (st : List Value) (σ : ZHp) (n k w : Nat) : Z (f + 1) 67 L st σ n k w = s_iload 1 68 L st σ n k w (zk1 cut G (Z f)) G R T := zrs hZ rfl f L st σ n k w
theorem f_X15_cardTold_68 (hZ : ZRN (ztb (tb_X15_cardTold E d mc ms)) cut G R T Z) (f : Nat) (L : ZLV) (st : List Value) (σ : ZHp) (n k w : Nat) : Z (f + 1) 68 L st σ n k w = s_iaload E 69 L st σ n k w (zk1 cut G (Z f)) G R T := zrs hZ rfl f L st σ n k w
theorem f_X15_cardTold_69 (hZ : ZRN (ztb (tb_X15_cardTold E d mc ms)) cut G R T Z) (f : Nat) (L : ZLV) (st : List Value) (σ : ZHp) (n k w : Nat) : Z (f + 1) 69 L st σ n k w = s_ireturn L st σ n k w (zk1 cut G (Z f)) G R T := zrs hZ rfl f L st σ n k w
theorem f_X15_cardTold_70 (hZ : ZRN (ztb (tb_X15_cardTold E d mc ms)) cut G R T Z) (f : Nat) (L : ZLV) (st : List Value) (σ : ZHp) (n k w : Nat) : Z (f + 1) 70 L st σ n k w = s_aload 0 71 L st σ n k w (zk1 cut G (Z f)) G R T := zrs hZ rfl f L st σ n k w
theorem f_X15_cardTold_71 (hZ : ZRN (ztb (tb_X15_cardTold E d mc ms)) cut G R T Z) (f : Nat) (L : ZLV) (st : List Value) (σ : ZHp) (n k w : Nat) : Z (f + 1) 71 L st σ n k w = s_getf 14 7 74 L st σ n k w (zk1 cut G (Z f)) G R T := zrs hZ rfl f L st σ n k w
theorem f_X15_cardTold_74 (hZ : ZRN (ztb (tb_X15_cardTold E d mc ms)) cut G R T Z) (f : Nat) (L : ZLV) (st : List Value) (σ : ZHp) (n k w : Nat) : Z (f + 1) 74 L st σ n k w = s_getf 13 3 77 L st σ n k w (zk1 cut G (Z f)) G R T := zrs hZ rfl f L st σ n k w
theorem f_X15_cardTold_77 (hZ : ZRN (ztb (tb_X15_cardTold E d mc ms)) cut G R T Z) (f : Nat) (L : ZLV) (st : List Value) (σ : ZHp) (n k w : Nat) : Z (f + 1) 77 L st σ n k w = s_iload 1 78 L st σ n k w (zk1 cut G (Z f)) G R T := zrs hZ rfl f L st σ n k w
theorem f_X15_cardTold_78 (hZ : ZRN (ztb (tb_X15_cardTold E d mc ms)) cut G R T Z) (f : Nat) (L : ZLV) (st : List Value) (σ : ZHp) (n k w : Nat) : Z (f + 1) 78 L st σ n k w = s_iaload E 79 L st σ n k w (zk1 cut G (Z f)) G R T := zrs hZ rfl f L st σ n k w
theorem f_X15_cardTold_79 (hZ : ZRN (ztb (tb_X15_cardTold E d mc ms)) cut G R T Z) (f : Nat) (L : ZLV) (st : List Value) (σ : ZHp) (n k w : Nat) : Z (f + 1) 79 L st σ n k w = s_ireturn L st σ n k w (zk1 cut G (Z f)) G R T := zrs hZ rfl f L st σ n k w
theorem f_X15_cardTold_80 (hZ : ZRN (ztb (tb_X15_cardTold E d mc ms)) cut G R T Z) (f : Nat) (L : ZLV) (st : List Value) (σ : ZHp) (n k w : Nat) : Z (f + 1) 80 L st σ n k w = s_const (.int (0)) 81 L st σ n k w (zk1 cut G (Z f)) G R T := zrs hZ rfl f L st σ n k w
theorem f_X15_cardTold_81 (hZ : ZRN (ztb (tb_X15_cardTold E d mc ms)) cut G R T Z) (f : Nat) (L : ZLV) (st : List Value) (σ : ZHp) (n k w : Nat) : Z (f + 1) 81 L st σ n k w = s_istore 4 83 L st σ n k w (zk1 cut G (Z f)) G R T := zrs hZ rfl f L st σ n k w
theorem f_X15_cardTold_83 (hZ : ZRN (ztb (tb_X15_cardTold E d mc ms)) cut G R T Z) (f : Nat) (L : ZLV) (st : List Value) (σ : ZHp) (n k w : Nat) : Z (f + 1) 83 L st σ n k w = s_iload 4 85 L st σ n k w (zk1 cut G (Z f)) G R T := zrs hZ rfl f L st σ n k w
theorem f_X15_cardTold_85 (hZ : ZRN (ztb (tb_X15_cardTold E d mc ms)) cut G R T Z) (f : Nat) (L : ZLV) (st : List Value) (σ : ZHp) (n k w : Nat) : Z (f + 1) 85 L st σ n k w = s_aload 0 86 L st σ n k w (zk1 cut G (Z f)) G R T := zrs hZ rfl f L st σ n k w
theorem f_X15_cardTold_86 (hZ : ZRN (ztb (tb_X15_cardTold E d mc ms)) cut G R T Z) (f : Nat) (L : ZLV) (st : List Value) (σ : ZHp) (n k w : Nat) : Z (f + 1) 86 L st σ n k w = s_getf 14 6 89 L st σ n k w (zk1 cut G (Z f)) G R T := zrs hZ rfl f L st σ n k w
theorem f_X15_cardTold_89 (hZ : ZRN (ztb (tb_X15_cardTold E d mc ms)) cut G R T Z) (f : Nat) (L : ZLV) (st : List Value) (σ : ZHp) (n k w : Nat) : Z (f + 1) 89 L st σ n k w = s_getf 12 12 92 L st σ n k w (zk1 cut G (Z f)) G R T := zrs hZ rfl f L st σ n k w
theorem f_X15_cardTold_92 (hZ : ZRN (ztb (tb_X15_cardTold E d mc ms)) cut G R T Z) (f : Nat) (L : ZLV) (st : List Value) (σ : ZHp) (n k w : Nat) : Z (f + 1) 92 L st σ n k w = s_icmp_ge 114 95 L st σ n k w (zk1 cut G (Z f)) G R T := zrs hZ rfl f L st σ n k w
theorem f_X15_cardTold_95 (hZ : ZRN (ztb (tb_X15_cardTold E d mc ms)) cut G R T Z) (f : Nat) (L : ZLV) (st : List Value) (σ : ZHp) (n k w : Nat) : Z (f + 1) 95 L st σ n k w = s_iload 3 96 L st σ n k w (zk1 cut G (Z f)) G R T := zrs hZ rfl f L st σ n k w
theorem f_X15_cardTold_96 (hZ : ZRN (ztb (tb_X15_cardTold E d mc ms)) cut G R T Z) (f : Nat) (L : ZLV) (st : List Value) (σ : ZHp) (n k w : Nat) : Z (f + 1) 96 L st σ n k w = s_aload 0 97 L st σ n k w (zk1 cut G (Z f)) G R T := zrs hZ rfl f L st σ n k w
theorem f_X15_cardTold_97 (hZ : ZRN (ztb (tb_X15_cardTold E d mc ms)) cut G R T Z) (f : Nat) (L : ZLV) (st : List Value) (σ : ZHp) (n k w : Nat) : Z (f + 1) 97 L st σ n k w = s_getf 14 7 100 L st σ n k w (zk1 cut G (Z f)) G R T := zrs hZ rfl f L st σ n k w
theorem f_X15_cardTold_100 (hZ : ZRN (ztb (tb_X15_cardTold E d mc ms)) cut G R T Z) (f : Nat) (L : ZLV) (st : List Value) (σ : ZHp) (n k w : Nat) : Z (f + 1) 100 L st σ n k w = s_iload 4 102 L st σ n k w (zk1 cut G (Z f)) G R T := zrs hZ rfl f L st σ n k w
theorem f_X15_cardTold_102 (hZ : ZRN (ztb (tb_X15_cardTold E d mc ms)) cut G R T Z) (f : Nat) (L : ZLV) (st : List Value) (σ : ZHp) (n k w : Nat) : Z (f + 1) 102 L st σ n k w = s_iload 1 103 L st σ n k w (zk1 cut G (Z f)) G R T := zrs hZ rfl f L st σ n k w
theorem f_X15_cardTold_103 (hZ : ZRN (ztb (tb_X15_cardTold E d mc ms)) cut G R T Z) (f : Nat) (L : ZLV) (st : List Value) (σ : ZHp) (n k w : Nat) : Z (f + 1) 103 L st σ n k w = s_callV E d mc ms 13 MX14_has 2 106 L st σ n k w (zk1 cut G (Z f)) G R T := zrs hZ rfl f L st σ n k w
theorem f_X15_cardTold_106 (hZ : ZRN (ztb (tb_X15_cardTold E d mc ms)) cut G R T Z) (f : Nat) (L : ZLV) (st : List Value) (σ : ZHp) (n k w : Nat) : Z (f + 1) 106 L st σ n k w = s_iadd 107 L st σ n k w (zk1 cut G (Z f)) G R T := zrs hZ rfl f L st σ n k w
theorem f_X15_cardTold_107 (hZ : ZRN (ztb (tb_X15_cardTold E d mc ms)) cut G R T Z) (f : Nat) (L : ZLV) (st : List Value) (σ : ZHp) (n k w : Nat) : Z (f + 1) 107 L st σ n k w = s_istore 3 108 L st σ n k w (zk1 cut G (Z f)) G R T := zrs hZ rfl f L st σ n k w
theorem f_X15_cardTold_108 (hZ : ZRN (ztb (tb_X15_cardTold E d mc ms)) cut G R T Z) (f : Nat) (L : ZLV) (st : List Value) (σ : ZHp) (n k w : Nat) : Z (f + 1) 108 L st σ n k w = s_iinc 4 (1) 111 L st σ n k w (zk1 cut G (Z f)) G R T := zrs hZ rfl f L st σ n k w
theorem f_X15_cardTold_111 (hZ : ZRN (ztb (tb_X15_cardTold E d mc ms)) cut G R T Z) (f : Nat) (L : ZLV) (st : List Value) (σ : ZHp) (n k w : Nat) : Z (f + 1) 111 L st σ n k w = s_goto 83 L st σ n k w (zk1 cut G (Z f)) G R T := zrs hZ rfl f L st σ n k w
theorem f_X15_cardTold_114 (hZ : ZRN (ztb (tb_X15_cardTold E d mc ms)) cut G R T Z) (f : Nat) (L : ZLV) (st : List Value) (σ : ZHp) (n k w : Nat) : Z (f + 1) 114 L st σ n k w = s_iload 3 115 L st σ n k w (zk1 cut G (Z f)) G R T := zrs hZ rfl f L st σ n k w
theorem f_X15_cardTold_115 (hZ : ZRN (ztb (tb_X15_cardTold E d mc ms)) cut G R T Z) (f : Nat) (L : ZLV) (st : List Value) (σ : ZHp) (n k w : Nat) : Z (f + 1) 115 L st σ n k w = s_ireturn L st σ n k w (zk1 cut G (Z f)) G R T := zrs hZ rfl f L st σ n k w
theorem f_X15_cardTold_116 (hZ : ZRN (ztb (tb_X15_cardTold E d mc ms)) cut G R T Z) (f : Nat) (L : ZLV) (st : List Value) (σ : ZHp) (n k w : Nat) : Z (f + 1) 116 L st σ n k w = s_aload 0 117 L st σ n k w (zk1 cut G (Z f)) G R T := zrs hZ rfl f L st σ n k w
theorem f_X15_cardTold_117 (hZ : ZRN (ztb (tb_X15_cardTold E d mc ms)) cut G R T Z) (f : Nat) (L : ZLV) (st : List Value) (σ : ZHp) (n k w : Nat) : Z (f + 1) 117 L st σ n k w = s_getf 14 7 120 L st σ n k w (zk1 cut G (Z f)) G R T := zrs hZ rfl f L st σ n k w
theorem f_X15_cardTold_120 (hZ : ZRN (ztb (tb_X15_cardTold E d mc ms)) cut G R T Z) (f : Nat) (L : ZLV) (st : List Value) (σ : ZHp) (n k w : Nat) : Z (f + 1) 120 L st σ n k w = s_getf 13 4 123 L st σ n k w (zk1 cut G (Z f)) G R T := zrs hZ rfl f L st σ n k w
theorem f_X15_cardTold_123 (hZ : ZRN (ztb (tb_X15_cardTold E d mc ms)) cut G R T Z) (f : Nat) (L : ZLV) (st : List Value) (σ : ZHp) (n k w : Nat) : Z (f + 1) 123 L st σ n k w = s_iload 1 124 L st σ n k w (zk1 cut G (Z f)) G R T := zrs hZ rfl f L st σ n k w
theorem f_X15_cardTold_124 (hZ : ZRN (ztb (tb_X15_cardTold E d mc ms)) cut G R T Z) (f : Nat) (L : ZLV) (st : List Value) (σ : ZHp) (n k w : Nat) : Z (f + 1) 124 L st σ n k w = s_iaload E 125 L st σ n k w (zk1 cut G (Z f)) G R T := zrs hZ rfl f L st σ n k w
theorem f_X15_cardTold_125 (hZ : ZRN (ztb (tb_X15_cardTold E d mc ms)) cut G R T Z) (f : Nat) (L : ZLV) (st : List Value) (σ : ZHp) (n k w : Nat) : Z (f + 1) 125 L st σ n k w = s_ireturn L st σ n k w (zk1 cut G (Z f)) G R T := zrs hZ rfl f L st σ n k w
theorem f_X15_cardTold_126 (hZ : ZRN (ztb (tb_X15_cardTold E d mc ms)) cut G R T Z) (f : Nat) (L : ZLV) (st : List Value) (σ : ZHp) (n k w : Nat) : Z (f + 1) 126 L st σ n k w = s_aload 0 127 L st σ n k w (zk1 cut G (Z f)) G R T := zrs hZ rfl f L st σ n k w
theorem f_X15_cardTold_127 (hZ : ZRN (ztb (tb_X15_cardTold E d mc ms)) cut G R T Z) (f : Nat) (L : ZLV) (st : List Value) (σ : ZHp) (n k w : Nat) : Z (f + 1) 127 L st σ n k w = s_getf 14 7 130 L st σ n k w (zk1 cut G (Z f)) G R T := zrs hZ rfl f L st σ n k w
theorem f_X15_cardTold_130 (hZ : ZRN (ztb (tb_X15_cardTold E d mc ms)) cut G R T Z) (f : Nat) (L : ZLV) (st : List Value) (σ : ZHp) (n k w : Nat) : Z (f + 1) 130 L st σ n k w = s_getf 13 5 133 L st σ n k w (zk1 cut G (Z f)) G R T := zrs hZ rfl f L st σ n k w
theorem f_X15_cardTold_133 (hZ : ZRN (ztb (tb_X15_cardTold E d mc ms)) cut G R T Z) (f : Nat) (L : ZLV) (st : List Value) (σ : ZHp) (n k w : Nat) : Z (f + 1) 133 L st σ n k w = s_iload 1 134 L st σ n k w (zk1 cut G (Z f)) G R T := zrs hZ rfl f L st σ n k w
theorem f_X15_cardTold_134 (hZ : ZRN (ztb (tb_X15_cardTold E d mc ms)) cut G R T Z) (f : Nat) (L : ZLV) (st : List Value) (σ : ZHp) (n k w : Nat) : Z (f + 1) 134 L st σ n k w = s_iaload E 135 L st σ n k w (zk1 cut G (Z f)) G R T := zrs hZ rfl f L st σ n k w
theorem f_X15_cardTold_135 (hZ : ZRN (ztb (tb_X15_cardTold E d mc ms)) cut G R T Z) (f : Nat) (L : ZLV) (st : List Value) (σ : ZHp) (n k w : Nat) : Z (f + 1) 135 L st σ n k w = s_ireturn L st σ n k w (zk1 cut G (Z f)) G R T := zrs hZ rfl f L st σ n k w
theorem f_X15_card_0 (hZ : ZRN (ztb (tb_X15_card E d mc ms)) cut G R T Z) (f : Nat) (L : ZLV) (st : List Value) (σ : ZHp) (n k w : Nat) : Z (f + 1) 0 L st σ n k w = s_aload 0 1 L st σ n k w (zk1 cut G (Z f)) G R T := zrs hZ rfl f L st σ n k w
theorem f_X15_card_1 (hZ : ZRN (ztb (tb_X15_card E d mc ms)) cut G R T Z) (f : Nat) (L : ZLV) (st : List Value) (σ : ZHp) (n k w : Nat) : Z (f + 1) 1 L st σ n k w = s_const (.int (0)) 2 L st σ n k w (zk1 cut G (Z f)) G R T := zrs hZ rfl f L st σ n k w
theorem f_X15_card_2 (hZ : ZRN (ztb (tb_X15_card E d mc ms)) cut G R T Z) (f : Nat) (L : ZLV) (st : List Value) (σ : ZHp) (n k w : Nat) : Z (f + 1) 2 L st σ n k w = s_putf 14 0 0 5 L st σ n k w (zk1 cut G (Z f)) G R T := zrs hZ rfl f L st σ n k w
theorem f_X15_card_5 (hZ : ZRN (ztb (tb_X15_card E d mc ms)) cut G R T Z) (f : Nat) (L : ZLV) (st : List Value) (σ : ZHp) (n k w : Nat) : Z (f + 1) 5 L st σ n k w = s_aload 0 6 L st σ n k w (zk1 cut G (Z f)) G R T := zrs hZ rfl f L st σ n k w
theorem f_X15_card_6 (hZ : ZRN (ztb (tb_X15_card E d mc ms)) cut G R T Z) (f : Nat) (L : ZLV) (st : List Value) (σ : ZHp) (n k w : Nat) : Z (f + 1) 6 L st σ n k w = s_iload 1 7 L st σ n k w (zk1 cut G (Z f)) G R T := zrs hZ rfl f L st σ n k w
theorem f_X15_card_7 (hZ : ZRN (ztb (tb_X15_card E d mc ms)) cut G R T Z) (f : Nat) (L : ZLV) (st : List Value) (σ : ZHp) (n k w : Nat) : Z (f + 1) 7 L st σ n k w = s_callV E d mc ms 14 MX15_isCard 1 10 L st σ n k w (zk1 cut G (Z f)) G R T := zrs hZ rfl f L st σ n k w
theorem f_X15_card_10 (hZ : ZRN (ztb (tb_X15_card E d mc ms)) cut G R T Z) (f : Nat) (L : ZLV) (st : List Value) (σ : ZHp) (n k w : Nat) : Z (f + 1) 10 L st σ n k w = s_if_eq 32 13 L st σ n k w (zk1 cut G (Z f)) G R T := zrs hZ rfl f L st σ n k w
theorem f_X15_card_13 (hZ : ZRN (ztb (tb_X15_card E d mc ms)) cut G R T Z) (f : Nat) (L : ZLV) (st : List Value) (σ : ZHp) (n k w : Nat) : Z (f + 1) 13 L st σ n k w = s_iload 2 14 L st σ n k w (zk1 cut G (Z f)) G R T := zrs hZ rfl f L st σ n k w
theorem f_X15_card_14 (hZ : ZRN (ztb (tb_X15_card E d mc ms)) cut G R T Z) (f : Nat) (L : ZLV) (st : List Value) (σ : ZHp) (n k w : Nat) : Z (f + 1) 14 L st σ n k w = s_const (.int (0)) 15 L st σ n k w (zk1 cut G (Z f)) G R T := zrs hZ rfl f L st σ n k w
theorem f_X15_card_15 (hZ : ZRN (ztb (tb_X15_card E d mc ms)) cut G R T Z) (f : Nat) (L : ZLV) (st : List Value) (σ : ZHp) (n k w : Nat) : Z (f + 1) 15 L st σ n k w = s_const (.int (6)) 17 L st σ n k w (zk1 cut G (Z f)) G R T := zrs hZ rfl f L st σ n k w
theorem f_X15_card_17 (hZ : ZRN (ztb (tb_X15_card E d mc ms)) cut G R T Z) (f : Nat) (L : ZLV) (st : List Value) (σ : ZHp) (n k w : Nat) : Z (f + 1) 17 L st σ n k w = s_callS E d mc ms MX15_isIn 3 20 L st σ n k w (zk1 cut G (Z f)) G R T := zrs hZ rfl f L st σ n k w
theorem f_X15_card_20 (hZ : ZRN (ztb (tb_X15_card E d mc ms)) cut G R T Z) (f : Nat) (L : ZLV) (st : List Value) (σ : ZHp) (n k w : Nat) : Z (f + 1) 20 L st σ n k w = s_if_eq 32 23 L st σ n k w (zk1 cut G (Z f)) G R T := zrs hZ rfl f L st σ n k w
theorem f_X15_card_23 (hZ : ZRN (ztb (tb_X15_card E d mc ms)) cut G R T Z) (f : Nat) (L : ZLV) (st : List Value) (σ : ZHp) (n k w : Nat) : Z (f + 1) 23 L st σ n k w = s_aload 0 24 L st σ n k w (zk1 cut G (Z f)) G R T := zrs hZ rfl f L st σ n k w
theorem f_X15_card_24 (hZ : ZRN (ztb (tb_X15_card E d mc ms)) cut G R T Z) (f : Nat) (L : ZLV) (st : List Value) (σ : ZHp) (n k w : Nat) : Z (f + 1) 24 L st σ n k w = s_iload 1 25 L st σ n k w (zk1 cut G (Z f)) G R T := zrs hZ rfl f L st σ n k w
theorem f_X15_card_25 (hZ : ZRN (ztb (tb_X15_card E d mc ms)) cut G R T Z) (f : Nat) (L : ZLV) (st : List Value) (σ : ZHp) (n k w : Nat) : Z (f + 1) 25 L st σ n k w = s_iload 2 26 L st σ n k w (zk1 cut G (Z f)) G R T := zrs hZ rfl f L st σ n k w
theorem f_X15_card_26 (hZ : ZRN (ztb (tb_X15_card E d mc ms)) cut G R T Z) (f : Nat) (L : ZLV) (st : List Value) (σ : ZHp) (n k w : Nat) : Z (f + 1) 26 L st σ n k w = s_callV E d mc ms 14 MX15_cardTold 2 29 L st σ n k w (zk1 cut G (Z f)) G R T := zrs hZ rfl f L st σ n k w
theorem f_X15_card_29 (hZ : ZRN (ztb (tb_X15_card E d mc ms)) cut G R T Z) (f : Nat) (L : ZLV) (st : List Value) (σ : ZHp) (n k w : Nat) : Z (f + 1) 29 L st σ n k w = s_goto 37 L st σ n k w (zk1 cut G (Z f)) G R T := zrs hZ rfl f L st σ n k w
theorem f_X15_card_32 (hZ : ZRN (ztb (tb_X15_card E d mc ms)) cut G R T Z) (f : Nat) (L : ZLV) (st : List Value) (σ : ZHp) (n k w : Nat) : Z (f + 1) 32 L st σ n k w = s_aload 0 33 L st σ n k w (zk1 cut G (Z f)) G R T := zrs hZ rfl f L st σ n k w
theorem f_X15_card_33 (hZ : ZRN (ztb (tb_X15_card E d mc ms)) cut G R T Z) (f : Nat) (L : ZLV) (st : List Value) (σ : ZHp) (n k w : Nat) : Z (f + 1) 33 L st σ n k w = s_const (.int (1)) 34 L st σ n k w (zk1 cut G (Z f)) G R T := zrs hZ rfl f L st σ n k w
theorem f_X15_card_34 (hZ : ZRN (ztb (tb_X15_card E d mc ms)) cut G R T Z) (f : Nat) (L : ZLV) (st : List Value) (σ : ZHp) (n k w : Nat) : Z (f + 1) 34 L st σ n k w = s_callV E d mc ms 14 MX15_no 1 37 L st σ n k w (zk1 cut G (Z f)) G R T := zrs hZ rfl f L st σ n k w
theorem f_X15_card_37 (hZ : ZRN (ztb (tb_X15_card E d mc ms)) cut G R T Z) (f : Nat) (L : ZLV) (st : List Value) (σ : ZHp) (n k w : Nat) : Z (f + 1) 37 L st σ n k w = s_ireturn L st σ n k w (zk1 cut G (Z f)) G R T := zrs hZ rfl f L st σ n k w
theorem f_X15_merchantTold_0 (hZ : ZRN (ztb (tb_X15_merchantTold E d mc ms)) cut G R T Z) (f : Nat) (L : ZLV) (st : List Value) (σ : ZHp) (n k w : Nat) : Z (f + 1) 0 L st σ n k w = s_iload 2 1 L st σ n k w (zk1 cut G (Z f)) G R T := zrs hZ rfl f L st σ n k w
theorem f_X15_merchantTold_1 (hZ : ZRN (ztb (tb_X15_merchantTold E d mc ms)) cut G R T Z) (f : Nat) (L : ZLV) (st : List Value) (σ : ZHp) (n k w : Nat) : Z (f + 1) 1 L st σ n k w = s_tsw 0 [44, 54, 64, 74, 84, 94, 104] 114 L st σ n k w (zk1 cut G (Z f)) G R T := zrs hZ rfl f L st σ n k w
theorem f_X15_merchantTold_44 (hZ : ZRN (ztb (tb_X15_merchantTold E d mc ms)) cut G R T Z) (f : Nat) (L : ZLV) (st : List Value) (σ : ZHp) (n k w : Nat) : Z (f + 1) 44 L st σ n k w = s_aload 0 45 L st σ n k w (zk1 cut G (Z f)) G R T := zrs hZ rfl f L st σ n k w
theorem f_X15_merchantTold_45 (hZ : ZRN (ztb (tb_X15_merchantTold E d mc ms)) cut G R T Z) (f : Nat) (L : ZLV) (st : List Value) (σ : ZHp) (n k w : Nat) : Z (f + 1) 45 L st σ n k w = s_getf 14 7 48 L st σ n k w (zk1 cut G (Z f)) G R T := zrs hZ rfl f L st σ n k w
theorem f_X15_merchantTold_48 (hZ : ZRN (ztb (tb_X15_merchantTold E d mc ms)) cut G R T Z) (f : Nat) (L : ZLV) (st : List Value) (σ : ZHp) (n k w : Nat) : Z (f + 1) 48 L st σ n k w = s_getf 13 7 51 L st σ n k w (zk1 cut G (Z f)) G R T := zrs hZ rfl f L st σ n k w
theorem f_X15_merchantTold_51 (hZ : ZRN (ztb (tb_X15_merchantTold E d mc ms)) cut G R T Z) (f : Nat) (L : ZLV) (st : List Value) (σ : ZHp) (n k w : Nat) : Z (f + 1) 51 L st σ n k w = s_iload 1 52 L st σ n k w (zk1 cut G (Z f)) G R T := zrs hZ rfl f L st σ n k w
theorem f_X15_merchantTold_52 (hZ : ZRN (ztb (tb_X15_merchantTold E d mc ms)) cut G R T Z) (f : Nat) (L : ZLV) (st : List Value) (σ : ZHp) (n k w : Nat) : Z (f + 1) 52 L st σ n k w = s_iaload E 53 L st σ n k w (zk1 cut G (Z f)) G R T := zrs hZ rfl f L st σ n k w
theorem f_X15_merchantTold_53 (hZ : ZRN (ztb (tb_X15_merchantTold E d mc ms)) cut G R T Z) (f : Nat) (L : ZLV) (st : List Value) (σ : ZHp) (n k w : Nat) : Z (f + 1) 53 L st σ n k w = s_ireturn L st σ n k w (zk1 cut G (Z f)) G R T := zrs hZ rfl f L st σ n k w
theorem f_X15_merchantTold_54 (hZ : ZRN (ztb (tb_X15_merchantTold E d mc ms)) cut G R T Z) (f : Nat) (L : ZLV) (st : List Value) (σ : ZHp) (n k w : Nat) : Z (f + 1) 54 L st σ n k w = s_aload 0 55 L st σ n k w (zk1 cut G (Z f)) G R T := zrs hZ rfl f L st σ n k w
theorem f_X15_merchantTold_55 (hZ : ZRN (ztb (tb_X15_merchantTold E d mc ms)) cut G R T Z) (f : Nat) (L : ZLV) (st : List Value) (σ : ZHp) (n k w : Nat) : Z (f + 1) 55 L st σ n k w = s_getf 14 7 58 L st σ n k w (zk1 cut G (Z f)) G R T := zrs hZ rfl f L st σ n k w
theorem f_X15_merchantTold_58 (hZ : ZRN (ztb (tb_X15_merchantTold E d mc ms)) cut G R T Z) (f : Nat) (L : ZLV) (st : List Value) (σ : ZHp) (n k w : Nat) : Z (f + 1) 58 L st σ n k w = s_getf 13 9 61 L st σ n k w (zk1 cut G (Z f)) G R T := zrs hZ rfl f L st σ n k w
theorem f_X15_merchantTold_61 (hZ : ZRN (ztb (tb_X15_merchantTold E d mc ms)) cut G R T Z) (f : Nat) (L : ZLV) (st : List Value) (σ : ZHp) (n k w : Nat) : Z (f + 1) 61 L st σ n k w = s_iload 1 62 L st σ n k w (zk1 cut G (Z f)) G R T := zrs hZ rfl f L st σ n k w
theorem f_X15_merchantTold_62 (hZ : ZRN (ztb (tb_X15_merchantTold E d mc ms)) cut G R T Z) (f : Nat) (L : ZLV) (st : List Value) (σ : ZHp) (n k w : Nat) : Z (f + 1) 62 L st σ n k w = s_iaload E 63 L st σ n k w (zk1 cut G (Z f)) G R T := zrs hZ rfl f L st σ n k w
theorem f_X15_merchantTold_63 (hZ : ZRN (ztb (tb_X15_merchantTold E d mc ms)) cut G R T Z) (f : Nat) (L : ZLV) (st : List Value) (σ : ZHp) (n k w : Nat) : Z (f + 1) 63 L st σ n k w = s_ireturn L st σ n k w (zk1 cut G (Z f)) G R T := zrs hZ rfl f L st σ n k w
theorem f_X15_merchantTold_64 (hZ : ZRN (ztb (tb_X15_merchantTold E d mc ms)) cut G R T Z) (f : Nat) (L : ZLV) (st : List Value) (σ : ZHp) (n k w : Nat) : Z (f + 1) 64 L st σ n k w = s_aload 0 65 L st σ n k w (zk1 cut G (Z f)) G R T := zrs hZ rfl f L st σ n k w
theorem f_X15_merchantTold_65 (hZ : ZRN (ztb (tb_X15_merchantTold E d mc ms)) cut G R T Z) (f : Nat) (L : ZLV) (st : List Value) (σ : ZHp) (n k w : Nat) : Z (f + 1) 65 L st σ n k w = s_getf 14 7 68 L st σ n k w (zk1 cut G (Z f)) G R T := zrs hZ rfl f L st σ n k w
theorem f_X15_merchantTold_68 (hZ : ZRN (ztb (tb_X15_merchantTold E d mc ms)) cut G R T Z) (f : Nat) (L : ZLV) (st : List Value) (σ : ZHp) (n k w : Nat) : Z (f + 1) 68 L st σ n k w = s_getf 13 10 71 L st σ n k w (zk1 cut G (Z f)) G R T := zrs hZ rfl f L st σ n k w
theorem f_X15_merchantTold_71 (hZ : ZRN (ztb (tb_X15_merchantTold E d mc ms)) cut G R T Z) (f : Nat) (L : ZLV) (st : List Value) (σ : ZHp) (n k w : Nat) : Z (f + 1) 71 L st σ n k w = s_iload 1 72 L st σ n k w (zk1 cut G (Z f)) G R T := zrs hZ rfl f L st σ n k w
theorem f_X15_merchantTold_72 (hZ : ZRN (ztb (tb_X15_merchantTold E d mc ms)) cut G R T Z) (f : Nat) (L : ZLV) (st : List Value) (σ : ZHp) (n k w : Nat) : Z (f + 1) 72 L st σ n k w = s_iaload E 73 L st σ n k w (zk1 cut G (Z f)) G R T := zrs hZ rfl f L st σ n k w
theorem f_X15_merchantTold_73 (hZ : ZRN (ztb (tb_X15_merchantTold E d mc ms)) cut G R T Z) (f : Nat) (L : ZLV) (st : List Value) (σ : ZHp) (n k w : Nat) : Z (f + 1) 73 L st σ n k w = s_ireturn L st σ n k w (zk1 cut G (Z f)) G R T := zrs hZ rfl f L st σ n k w
theorem f_X15_merchantTold_74 (hZ : ZRN (ztb (tb_X15_merchantTold E d mc ms)) cut G R T Z) (f : Nat) (L : ZLV) (st : List Value) (σ : ZHp) (n k w : Nat) : Z (f + 1) 74 L st σ n k w = s_aload 0 75 L st σ n k w (zk1 cut G (Z f)) G R T := zrs hZ rfl f L st σ n k w
theorem f_X15_merchantTold_75 (hZ : ZRN (ztb (tb_X15_merchantTold E d mc ms)) cut G R T Z) (f : Nat) (L : ZLV) (st : List Value) (σ : ZHp) (n k w : Nat) : Z (f + 1) 75 L st σ n k w = s_aload 0 76 L st σ n k w (zk1 cut G (Z f)) G R T := zrs hZ rfl f L st σ n k w
theorem f_X15_merchantTold_76 (hZ : ZRN (ztb (tb_X15_merchantTold E d mc ms)) cut G R T Z) (f : Nat) (L : ZLV) (st : List Value) (σ : ZHp) (n k w : Nat) : Z (f + 1) 76 L st σ n k w = s_getf 14 7 79 L st σ n k w (zk1 cut G (Z f)) G R T := zrs hZ rfl f L st σ n k w
theorem f_X15_merchantTold_79 (hZ : ZRN (ztb (tb_X15_merchantTold E d mc ms)) cut G R T Z) (f : Nat) (L : ZLV) (st : List Value) (σ : ZHp) (n k w : Nat) : Z (f + 1) 79 L st σ n k w = s_iload 1 80 L st σ n k w (zk1 cut G (Z f)) G R T := zrs hZ rfl f L st σ n k w
theorem f_X15_merchantTold_80 (hZ : ZRN (ztb (tb_X15_merchantTold E d mc ms)) cut G R T Z) (f : Nat) (L : ZLV) (st : List Value) (σ : ZHp) (n k w : Nat) : Z (f + 1) 80 L st σ n k w = s_callV E d mc ms 14 MX15_worthOf 2 83 L st σ n k w (zk1 cut G (Z f)) G R T := zrs hZ rfl f L st σ n k w
theorem f_X15_merchantTold_83 (hZ : ZRN (ztb (tb_X15_merchantTold E d mc ms)) cut G R T Z) (f : Nat) (L : ZLV) (st : List Value) (σ : ZHp) (n k w : Nat) : Z (f + 1) 83 L st σ n k w = s_ireturn L st σ n k w (zk1 cut G (Z f)) G R T := zrs hZ rfl f L st σ n k w
theorem f_X15_merchantTold_84 (hZ : ZRN (ztb (tb_X15_merchantTold E d mc ms)) cut G R T Z) (f : Nat) (L : ZLV) (st : List Value) (σ : ZHp) (n k w : Nat) : Z (f + 1) 84 L st σ n k w = s_aload 0 85 L st σ n k w (zk1 cut G (Z f)) G R T := zrs hZ rfl f L st σ n k w
theorem f_X15_merchantTold_85 (hZ : ZRN (ztb (tb_X15_merchantTold E d mc ms)) cut G R T Z) (f : Nat) (L : ZLV) (st : List Value) (σ : ZHp) (n k w : Nat) : Z (f + 1) 85 L st σ n k w = s_getf 14 7 88 L st σ n k w (zk1 cut G (Z f)) G R T := zrs hZ rfl f L st σ n k w
theorem f_X15_merchantTold_88 (hZ : ZRN (ztb (tb_X15_merchantTold E d mc ms)) cut G R T Z) (f : Nat) (L : ZLV) (st : List Value) (σ : ZHp) (n k w : Nat) : Z (f + 1) 88 L st σ n k w = s_getf 13 11 91 L st σ n k w (zk1 cut G (Z f)) G R T := zrs hZ rfl f L st σ n k w
theorem f_X15_merchantTold_91 (hZ : ZRN (ztb (tb_X15_merchantTold E d mc ms)) cut G R T Z) (f : Nat) (L : ZLV) (st : List Value) (σ : ZHp) (n k w : Nat) : Z (f + 1) 91 L st σ n k w = s_iload 1 92 L st σ n k w (zk1 cut G (Z f)) G R T := zrs hZ rfl f L st σ n k w
theorem f_X15_merchantTold_92 (hZ : ZRN (ztb (tb_X15_merchantTold E d mc ms)) cut G R T Z) (f : Nat) (L : ZLV) (st : List Value) (σ : ZHp) (n k w : Nat) : Z (f + 1) 92 L st σ n k w = s_iaload E 93 L st σ n k w (zk1 cut G (Z f)) G R T := zrs hZ rfl f L st σ n k w
theorem f_X15_merchantTold_93 (hZ : ZRN (ztb (tb_X15_merchantTold E d mc ms)) cut G R T Z) (f : Nat) (L : ZLV) (st : List Value) (σ : ZHp) (n k w : Nat) : Z (f + 1) 93 L st σ n k w = s_ireturn L st σ n k w (zk1 cut G (Z f)) G R T := zrs hZ rfl f L st σ n k w
theorem f_X15_merchantTold_94 (hZ : ZRN (ztb (tb_X15_merchantTold E d mc ms)) cut G R T Z) (f : Nat) (L : ZLV) (st : List Value) (σ : ZHp) (n k w : Nat) : Z (f + 1) 94 L st σ n k w = s_aload 0 95 L st σ n k w (zk1 cut G (Z f)) G R T := zrs hZ rfl f L st σ n k w
theorem f_X15_merchantTold_95 (hZ : ZRN (ztb (tb_X15_merchantTold E d mc ms)) cut G R T Z) (f : Nat) (L : ZLV) (st : List Value) (σ : ZHp) (n k w : Nat) : Z (f + 1) 95 L st σ n k w = s_getf 14 7 98 L st σ n k w (zk1 cut G (Z f)) G R T := zrs hZ rfl f L st σ n k w
theorem f_X15_merchantTold_98 (hZ : ZRN (ztb (tb_X15_merchantTold E d mc ms)) cut G R T Z) (f : Nat) (L : ZLV) (st : List Value) (σ : ZHp) (n k w : Nat) : Z (f + 1) 98 L st σ n k w = s_getf 13 12 101 L st σ n k w (zk1 cut G (Z f)) G R T := zrs hZ rfl f L st σ n k w
theorem f_X15_merchantTold_101 (hZ : ZRN (ztb (tb_X15_merchantTold E d mc ms)) cut G R T Z) (f : Nat) (L : ZLV) (st : List Value) (σ : ZHp) (n k w : Nat) : Z (f + 1) 101 L st σ n k w = s_iload 1 102 L st σ n k w (zk1 cut G (Z f)) G R T := zrs hZ rfl f L st σ n k w
theorem f_X15_merchantTold_102 (hZ : ZRN (ztb (tb_X15_merchantTold E d mc ms)) cut G R T Z) (f : Nat) (L : ZLV) (st : List Value) (σ : ZHp) (n k w : Nat) : Z (f + 1) 102 L st σ n k w = s_iaload E 103 L st σ n k w (zk1 cut G (Z f)) G R T := zrs hZ rfl f L st σ n k w
theorem f_X15_merchantTold_103 (hZ : ZRN (ztb (tb_X15_merchantTold E d mc ms)) cut G R T Z) (f : Nat) (L : ZLV) (st : List Value) (σ : ZHp) (n k w : Nat) : Z (f + 1) 103 L st σ n k w = s_ireturn L st σ n k w (zk1 cut G (Z f)) G R T := zrs hZ rfl f L st σ n k w
theorem f_X15_merchantTold_104 (hZ : ZRN (ztb (tb_X15_merchantTold E d mc ms)) cut G R T Z) (f : Nat) (L : ZLV) (st : List Value) (σ : ZHp) (n k w : Nat) : Z (f + 1) 104 L st σ n k w = s_aload 0 105 L st σ n k w (zk1 cut G (Z f)) G R T := zrs hZ rfl f L st σ n k w
theorem f_X15_merchantTold_105 (hZ : ZRN (ztb (tb_X15_merchantTold E d mc ms)) cut G R T Z) (f : Nat) (L : ZLV) (st : List Value) (σ : ZHp) (n k w : Nat) : Z (f + 1) 105 L st σ n k w = s_getf 14 7 108 L st σ n k w (zk1 cut G (Z f)) G R T := zrs hZ rfl f L st σ n k w
theorem f_X15_merchantTold_108 (hZ : ZRN (ztb (tb_X15_merchantTold E d mc ms)) cut G R T Z) (f : Nat) (L : ZLV) (st : List Value) (σ : ZHp) (n k w : Nat) : Z (f + 1) 108 L st σ n k w = s_getf 13 13 111 L st σ n k w (zk1 cut G (Z f)) G R T := zrs hZ rfl f L st σ n k w
theorem f_X15_merchantTold_111 (hZ : ZRN (ztb (tb_X15_merchantTold E d mc ms)) cut G R T Z) (f : Nat) (L : ZLV) (st : List Value) (σ : ZHp) (n k w : Nat) : Z (f + 1) 111 L st σ n k w = s_iload 1 112 L st σ n k w (zk1 cut G (Z f)) G R T := zrs hZ rfl f L st σ n k w
theorem f_X15_merchantTold_112 (hZ : ZRN (ztb (tb_X15_merchantTold E d mc ms)) cut G R T Z) (f : Nat) (L : ZLV) (st : List Value) (σ : ZHp) (n k w : Nat) : Z (f + 1) 112 L st σ n k w = s_iaload E 113 L st σ n k w (zk1 cut G (Z f)) G R T := zrs hZ rfl f L st σ n k w
theorem f_X15_merchantTold_113 (hZ : ZRN (ztb (tb_X15_merchantTold E d mc ms)) cut G R T Z) (f : Nat) (L : ZLV) (st : List Value) (σ : ZHp) (n k w : Nat) : Z (f + 1) 113 L st σ n k w = s_ireturn L st σ n k w (zk1 cut G (Z f)) G R T := zrs hZ rfl f L st σ n k w
theorem f_X15_merchantTold_114 (hZ : ZRN (ztb (tb_X15_merchantTold E d mc ms)) cut G R T Z) (f : Nat) (L : ZLV) (st : List Value) (σ : ZHp) (n k w : Nat) : Z (f + 1) 114 L st σ n k w = s_aload 0 115 L st σ n k w (zk1 cut G (Z f)) G R T := zrs hZ rfl f L st σ n k w
theorem f_X15_merchantTold_115 (hZ : ZRN (ztb (tb_X15_merchantTold E d mc ms)) cut G R T Z) (f : Nat) (L : ZLV) (st : List Value) (σ : ZHp) (n k w : Nat) : Z (f + 1) 115 L st σ n k w = s_getf 14 7 118 L st σ n k w (zk1 cut G (Z f)) G R T := zrs hZ rfl f L st σ n k w
theorem f_X15_merchantTold_118 (hZ : ZRN (ztb (tb_X15_merchantTold E d mc ms)) cut G R T Z) (f : Nat) (L : ZLV) (st : List Value) (σ : ZHp) (n k w : Nat) : Z (f + 1) 118 L st σ n k w = s_getf 13 14 121 L st σ n k w (zk1 cut G (Z f)) G R T := zrs hZ rfl f L st σ n k w
theorem f_X15_merchantTold_121 (hZ : ZRN (ztb (tb_X15_merchantTold E d mc ms)) cut G R T Z) (f : Nat) (L : ZLV) (st : List Value) (σ : ZHp) (n k w : Nat) : Z (f + 1) 121 L st σ n k w = s_iload 1 122 L st σ n k w (zk1 cut G (Z f)) G R T := zrs hZ rfl f L st σ n k w
theorem f_X15_merchantTold_122 (hZ : ZRN (ztb (tb_X15_merchantTold E d mc ms)) cut G R T Z) (f : Nat) (L : ZLV) (st : List Value) (σ : ZHp) (n k w : Nat) : Z (f + 1) 122 L st σ n k w = s_iaload E 123 L st σ n k w (zk1 cut G (Z f)) G R T := zrs hZ rfl f L st σ n k w
theorem f_X15_merchantTold_123 (hZ : ZRN (ztb (tb_X15_merchantTold E d mc ms)) cut G R T Z) (f : Nat) (L : ZLV) (st : List Value) (σ : ZHp) (n k w : Nat) : Z (f + 1) 123 L st σ n k w = s_ireturn L st σ n k w (zk1 cut G (Z f)) G R T := zrs hZ rfl f L st σ n k w
theorem f_X15_merchant_0 (hZ : ZRN (ztb (tb_X15_merchant E d mc ms)) cut G R T Z) (f : Nat) (L : ZLV) (st : List Value) (σ : ZHp) (n k w : Nat) : Z (f + 1) 0 L st σ n k w = s_aload 0 1 L st σ n k w (zk1 cut G (Z f)) G R T := zrs hZ rfl f L st σ n k w
theorem f_X15_merchant_1 (hZ : ZRN (ztb (tb_X15_merchant E d mc ms)) cut G R T Z) (f : Nat) (L : ZLV) (st : List Value) (σ : ZHp) (n k w : Nat) : Z (f + 1) 1 L st σ n k w = s_const (.int (0)) 2 L st σ n k w (zk1 cut G (Z f)) G R T := zrs hZ rfl f L st σ n k w
theorem f_X15_merchant_2 (hZ : ZRN (ztb (tb_X15_merchant E d mc ms)) cut G R T Z) (f : Nat) (L : ZLV) (st : List Value) (σ : ZHp) (n k w : Nat) : Z (f + 1) 2 L st σ n k w = s_putf 14 0 0 5 L st σ n k w (zk1 cut G (Z f)) G R T := zrs hZ rfl f L st σ n k w
theorem f_X15_merchant_5 (hZ : ZRN (ztb (tb_X15_merchant E d mc ms)) cut G R T Z) (f : Nat) (L : ZLV) (st : List Value) (σ : ZHp) (n k w : Nat) : Z (f + 1) 5 L st σ n k w = s_aload 0 6 L st σ n k w (zk1 cut G (Z f)) G R T := zrs hZ rfl f L st σ n k w
theorem f_X15_merchant_6 (hZ : ZRN (ztb (tb_X15_merchant E d mc ms)) cut G R T Z) (f : Nat) (L : ZLV) (st : List Value) (σ : ZHp) (n k w : Nat) : Z (f + 1) 6 L st σ n k w = s_iload 1 7 L st σ n k w (zk1 cut G (Z f)) G R T := zrs hZ rfl f L st σ n k w
theorem f_X15_merchant_7 (hZ : ZRN (ztb (tb_X15_merchant E d mc ms)) cut G R T Z) (f : Nat) (L : ZLV) (st : List Value) (σ : ZHp) (n k w : Nat) : Z (f + 1) 7 L st σ n k w = s_callV E d mc ms 14 MX15_isMerchant 1 10 L st σ n k w (zk1 cut G (Z f)) G R T := zrs hZ rfl f L st σ n k w
theorem f_X15_merchant_10 (hZ : ZRN (ztb (tb_X15_merchant E d mc ms)) cut G R T Z) (f : Nat) (L : ZLV) (st : List Value) (σ : ZHp) (n k w : Nat) : Z (f + 1) 10 L st σ n k w = s_if_eq 32 13 L st σ n k w (zk1 cut G (Z f)) G R T := zrs hZ rfl f L st σ n k w
theorem f_X15_merchant_13 (hZ : ZRN (ztb (tb_X15_merchant E d mc ms)) cut G R T Z) (f : Nat) (L : ZLV) (st : List Value) (σ : ZHp) (n k w : Nat) : Z (f + 1) 13 L st σ n k w = s_iload 2 14 L st σ n k w (zk1 cut G (Z f)) G R T := zrs hZ rfl f L st σ n k w
theorem f_X15_merchant_14 (hZ : ZRN (ztb (tb_X15_merchant E d mc ms)) cut G R T Z) (f : Nat) (L : ZLV) (st : List Value) (σ : ZHp) (n k w : Nat) : Z (f + 1) 14 L st σ n k w = s_const (.int (0)) 15 L st σ n k w (zk1 cut G (Z f)) G R T := zrs hZ rfl f L st σ n k w
theorem f_X15_merchant_15 (hZ : ZRN (ztb (tb_X15_merchant E d mc ms)) cut G R T Z) (f : Nat) (L : ZLV) (st : List Value) (σ : ZHp) (n k w : Nat) : Z (f + 1) 15 L st σ n k w = s_const (.int (7)) 17 L st σ n k w (zk1 cut G (Z f)) G R T := zrs hZ rfl f L st σ n k w
theorem f_X15_merchant_17 (hZ : ZRN (ztb (tb_X15_merchant E d mc ms)) cut G R T Z) (f : Nat) (L : ZLV) (st : List Value) (σ : ZHp) (n k w : Nat) : Z (f + 1) 17 L st σ n k w = s_callS E d mc ms MX15_isIn 3 20 L st σ n k w (zk1 cut G (Z f)) G R T := zrs hZ rfl f L st σ n k w
theorem f_X15_merchant_20 (hZ : ZRN (ztb (tb_X15_merchant E d mc ms)) cut G R T Z) (f : Nat) (L : ZLV) (st : List Value) (σ : ZHp) (n k w : Nat) : Z (f + 1) 20 L st σ n k w = s_if_eq 32 23 L st σ n k w (zk1 cut G (Z f)) G R T := zrs hZ rfl f L st σ n k w
theorem f_X15_merchant_23 (hZ : ZRN (ztb (tb_X15_merchant E d mc ms)) cut G R T Z) (f : Nat) (L : ZLV) (st : List Value) (σ : ZHp) (n k w : Nat) : Z (f + 1) 23 L st σ n k w = s_aload 0 24 L st σ n k w (zk1 cut G (Z f)) G R T := zrs hZ rfl f L st σ n k w
theorem f_X15_merchant_24 (hZ : ZRN (ztb (tb_X15_merchant E d mc ms)) cut G R T Z) (f : Nat) (L : ZLV) (st : List Value) (σ : ZHp) (n k w : Nat) : Z (f + 1) 24 L st σ n k w = s_iload 1 25 L st σ n k w (zk1 cut G (Z f)) G R T := zrs hZ rfl f L st σ n k w
theorem f_X15_merchant_25 (hZ : ZRN (ztb (tb_X15_merchant E d mc ms)) cut G R T Z) (f : Nat) (L : ZLV) (st : List Value) (σ : ZHp) (n k w : Nat) : Z (f + 1) 25 L st σ n k w = s_iload 2 26 L st σ n k w (zk1 cut G (Z f)) G R T := zrs hZ rfl f L st σ n k w
theorem f_X15_merchant_26 (hZ : ZRN (ztb (tb_X15_merchant E d mc ms)) cut G R T Z) (f : Nat) (L : ZLV) (st : List Value) (σ : ZHp) (n k w : Nat) : Z (f + 1) 26 L st σ n k w = s_callV E d mc ms 14 MX15_merchantTold 2 29 L st σ n k w (zk1 cut G (Z f)) G R T := zrs hZ rfl f L st σ n k w
theorem f_X15_merchant_29 (hZ : ZRN (ztb (tb_X15_merchant E d mc ms)) cut G R T Z) (f : Nat) (L : ZLV) (st : List Value) (σ : ZHp) (n k w : Nat) : Z (f + 1) 29 L st σ n k w = s_goto 37 L st σ n k w (zk1 cut G (Z f)) G R T := zrs hZ rfl f L st σ n k w
theorem f_X15_merchant_32 (hZ : ZRN (ztb (tb_X15_merchant E d mc ms)) cut G R T Z) (f : Nat) (L : ZLV) (st : List Value) (σ : ZHp) (n k w : Nat) : Z (f + 1) 32 L st σ n k w = s_aload 0 33 L st σ n k w (zk1 cut G (Z f)) G R T := zrs hZ rfl f L st σ n k w
theorem f_X15_merchant_33 (hZ : ZRN (ztb (tb_X15_merchant E d mc ms)) cut G R T Z) (f : Nat) (L : ZLV) (st : List Value) (σ : ZHp) (n k w : Nat) : Z (f + 1) 33 L st σ n k w = s_const (.int (1)) 34 L st σ n k w (zk1 cut G (Z f)) G R T := zrs hZ rfl f L st σ n k w
theorem f_X15_merchant_34 (hZ : ZRN (ztb (tb_X15_merchant E d mc ms)) cut G R T Z) (f : Nat) (L : ZLV) (st : List Value) (σ : ZHp) (n k w : Nat) : Z (f + 1) 34 L st σ n k w = s_callV E d mc ms 14 MX15_no 1 37 L st σ n k w (zk1 cut G (Z f)) G R T := zrs hZ rfl f L st σ n k w
theorem f_X15_merchant_37 (hZ : ZRN (ztb (tb_X15_merchant E d mc ms)) cut G R T Z) (f : Nat) (L : ZLV) (st : List Value) (σ : ZHp) (n k w : Nat) : Z (f + 1) 37 L st σ n k w = s_ireturn L st σ n k w (zk1 cut G (Z f)) G R T := zrs hZ rfl f L st σ n k w
theorem f_X15_owns_0 (hZ : ZRN (ztb (tb_X15_owns E d mc ms)) cut G R T Z) (f : Nat) (L : ZLV) (st : List Value) (σ : ZHp) (n k w : Nat) : Z (f + 1) 0 L st σ n k w = s_aload 0 1 L st σ n k w (zk1 cut G (Z f)) G R T := zrs hZ rfl f L st σ n k w
theorem f_X15_owns_1 (hZ : ZRN (ztb (tb_X15_owns E d mc ms)) cut G R T Z) (f : Nat) (L : ZLV) (st : List Value) (σ : ZHp) (n k w : Nat) : Z (f + 1) 1 L st σ n k w = s_const (.int (0)) 2 L st σ n k w (zk1 cut G (Z f)) G R T := zrs hZ rfl f L st σ n k w
theorem f_X15_owns_2 (hZ : ZRN (ztb (tb_X15_owns E d mc ms)) cut G R T Z) (f : Nat) (L : ZLV) (st : List Value) (σ : ZHp) (n k w : Nat) : Z (f + 1) 2 L st σ n k w = s_putf 14 0 0 5 L st σ n k w (zk1 cut G (Z f)) G R T := zrs hZ rfl f L st σ n k w
theorem f_X15_owns_5 (hZ : ZRN (ztb (tb_X15_owns E d mc ms)) cut G R T Z) (f : Nat) (L : ZLV) (st : List Value) (σ : ZHp) (n k w : Nat) : Z (f + 1) 5 L st σ n k w = s_aload 0 6 L st σ n k w (zk1 cut G (Z f)) G R T := zrs hZ rfl f L st σ n k w
theorem f_X15_owns_6 (hZ : ZRN (ztb (tb_X15_owns E d mc ms)) cut G R T Z) (f : Nat) (L : ZLV) (st : List Value) (σ : ZHp) (n k w : Nat) : Z (f + 1) 6 L st σ n k w = s_iload 1 7 L st σ n k w (zk1 cut G (Z f)) G R T := zrs hZ rfl f L st σ n k w
theorem f_X15_owns_7 (hZ : ZRN (ztb (tb_X15_owns E d mc ms)) cut G R T Z) (f : Nat) (L : ZLV) (st : List Value) (σ : ZHp) (n k w : Nat) : Z (f + 1) 7 L st σ n k w = s_callV E d mc ms 14 MX15_isMerchant 1 10 L st σ n k w (zk1 cut G (Z f)) G R T := zrs hZ rfl f L st σ n k w
theorem f_X15_owns_10 (hZ : ZRN (ztb (tb_X15_owns E d mc ms)) cut G R T Z) (f : Nat) (L : ZLV) (st : List Value) (σ : ZHp) (n k w : Nat) : Z (f + 1) 10 L st σ n k w = s_if_eq 33 13 L st σ n k w (zk1 cut G (Z f)) G R T := zrs hZ rfl f L st σ n k w
theorem f_X15_owns_13 (hZ : ZRN (ztb (tb_X15_owns E d mc ms)) cut G R T Z) (f : Nat) (L : ZLV) (st : List Value) (σ : ZHp) (n k w : Nat) : Z (f + 1) 13 L st σ n k w = s_aload 0 14 L st σ n k w (zk1 cut G (Z f)) G R T := zrs hZ rfl f L st σ n k w
theorem f_X15_owns_14 (hZ : ZRN (ztb (tb_X15_owns E d mc ms)) cut G R T Z) (f : Nat) (L : ZLV) (st : List Value) (σ : ZHp) (n k w : Nat) : Z (f + 1) 14 L st σ n k w = s_iload 2 15 L st σ n k w (zk1 cut G (Z f)) G R T := zrs hZ rfl f L st σ n k w
theorem f_X15_owns_15 (hZ : ZRN (ztb (tb_X15_owns E d mc ms)) cut G R T Z) (f : Nat) (L : ZLV) (st : List Value) (σ : ZHp) (n k w : Nat) : Z (f + 1) 15 L st σ n k w = s_callV E d mc ms 14 MX15_isCard 1 18 L st σ n k w (zk1 cut G (Z f)) G R T := zrs hZ rfl f L st σ n k w
theorem f_X15_owns_18 (hZ : ZRN (ztb (tb_X15_owns E d mc ms)) cut G R T Z) (f : Nat) (L : ZLV) (st : List Value) (σ : ZHp) (n k w : Nat) : Z (f + 1) 18 L st σ n k w = s_if_eq 33 21 L st σ n k w (zk1 cut G (Z f)) G R T := zrs hZ rfl f L st σ n k w
theorem f_X15_owns_21 (hZ : ZRN (ztb (tb_X15_owns E d mc ms)) cut G R T Z) (f : Nat) (L : ZLV) (st : List Value) (σ : ZHp) (n k w : Nat) : Z (f + 1) 21 L st σ n k w = s_aload 0 22 L st σ n k w (zk1 cut G (Z f)) G R T := zrs hZ rfl f L st σ n k w
theorem f_X15_owns_22 (hZ : ZRN (ztb (tb_X15_owns E d mc ms)) cut G R T Z) (f : Nat) (L : ZLV) (st : List Value) (σ : ZHp) (n k w : Nat) : Z (f + 1) 22 L st σ n k w = s_getf 14 7 25 L st σ n k w (zk1 cut G (Z f)) G R T := zrs hZ rfl f L st σ n k w
theorem f_X15_owns_25 (hZ : ZRN (ztb (tb_X15_owns E d mc ms)) cut G R T Z) (f : Nat) (L : ZLV) (st : List Value) (σ : ZHp) (n k w : Nat) : Z (f + 1) 25 L st σ n k w = s_iload 1 26 L st σ n k w (zk1 cut G (Z f)) G R T := zrs hZ rfl f L st σ n k w
theorem f_X15_owns_26 (hZ : ZRN (ztb (tb_X15_owns E d mc ms)) cut G R T Z) (f : Nat) (L : ZLV) (st : List Value) (σ : ZHp) (n k w : Nat) : Z (f + 1) 26 L st σ n k w = s_iload 2 27 L st σ n k w (zk1 cut G (Z f)) G R T := zrs hZ rfl f L st σ n k w
theorem f_X15_owns_27 (hZ : ZRN (ztb (tb_X15_owns E d mc ms)) cut G R T Z) (f : Nat) (L : ZLV) (st : List Value) (σ : ZHp) (n k w : Nat) : Z (f + 1) 27 L st σ n k w = s_callV E d mc ms 13 MX14_has 2 30 L st σ n k w (zk1 cut G (Z f)) G R T := zrs hZ rfl f L st σ n k w
theorem f_X15_owns_30 (hZ : ZRN (ztb (tb_X15_owns E d mc ms)) cut G R T Z) (f : Nat) (L : ZLV) (st : List Value) (σ : ZHp) (n k w : Nat) : Z (f + 1) 30 L st σ n k w = s_goto 38 L st σ n k w (zk1 cut G (Z f)) G R T := zrs hZ rfl f L st σ n k w
theorem f_X15_owns_33 (hZ : ZRN (ztb (tb_X15_owns E d mc ms)) cut G R T Z) (f : Nat) (L : ZLV) (st : List Value) (σ : ZHp) (n k w : Nat) : Z (f + 1) 33 L st σ n k w = s_aload 0 34 L st σ n k w (zk1 cut G (Z f)) G R T := zrs hZ rfl f L st σ n k w
theorem f_X15_owns_34 (hZ : ZRN (ztb (tb_X15_owns E d mc ms)) cut G R T Z) (f : Nat) (L : ZLV) (st : List Value) (σ : ZHp) (n k w : Nat) : Z (f + 1) 34 L st σ n k w = s_const (.int (1)) 35 L st σ n k w (zk1 cut G (Z f)) G R T := zrs hZ rfl f L st σ n k w
theorem f_X15_owns_35 (hZ : ZRN (ztb (tb_X15_owns E d mc ms)) cut G R T Z) (f : Nat) (L : ZLV) (st : List Value) (σ : ZHp) (n k w : Nat) : Z (f + 1) 35 L st σ n k w = s_callV E d mc ms 14 MX15_no 1 38 L st σ n k w (zk1 cut G (Z f)) G R T := zrs hZ rfl f L st σ n k w
theorem f_X15_owns_38 (hZ : ZRN (ztb (tb_X15_owns E d mc ms)) cut G R T Z) (f : Nat) (L : ZLV) (st : List Value) (σ : ZHp) (n k w : Nat) : Z (f + 1) 38 L st σ n k w = s_ireturn L st σ n k w (zk1 cut G (Z f)) G R T := zrs hZ rfl f L st σ n k w
theorem f_X15_deck_0 (hZ : ZRN (ztb (tb_X15_deck E d mc ms)) cut G R T Z) (f : Nat) (L : ZLV) (st : List Value) (σ : ZHp) (n k w : Nat) : Z (f + 1) 0 L st σ n k w = s_aload 0 1 L st σ n k w (zk1 cut G (Z f)) G R T := zrs hZ rfl f L st σ n k w
theorem f_X15_deck_1 (hZ : ZRN (ztb (tb_X15_deck E d mc ms)) cut G R T Z) (f : Nat) (L : ZLV) (st : List Value) (σ : ZHp) (n k w : Nat) : Z (f + 1) 1 L st σ n k w = s_const (.int (0)) 2 L st σ n k w (zk1 cut G (Z f)) G R T := zrs hZ rfl f L st σ n k w
theorem f_X15_deck_2 (hZ : ZRN (ztb (tb_X15_deck E d mc ms)) cut G R T Z) (f : Nat) (L : ZLV) (st : List Value) (σ : ZHp) (n k w : Nat) : Z (f + 1) 2 L st σ n k w = s_putf 14 0 0 5 L st σ n k w (zk1 cut G (Z f)) G R T := zrs hZ rfl f L st σ n k w
theorem f_X15_deck_5 (hZ : ZRN (ztb (tb_X15_deck E d mc ms)) cut G R T Z) (f : Nat) (L : ZLV) (st : List Value) (σ : ZHp) (n k w : Nat) : Z (f + 1) 5 L st σ n k w = s_aload 0 6 L st σ n k w (zk1 cut G (Z f)) G R T := zrs hZ rfl f L st σ n k w
theorem f_X15_deck_6 (hZ : ZRN (ztb (tb_X15_deck E d mc ms)) cut G R T Z) (f : Nat) (L : ZLV) (st : List Value) (σ : ZHp) (n k w : Nat) : Z (f + 1) 6 L st σ n k w = s_iload 1 7 L st σ n k w (zk1 cut G (Z f)) G R T := zrs hZ rfl f L st σ n k w
theorem f_X15_deck_7 (hZ : ZRN (ztb (tb_X15_deck E d mc ms)) cut G R T Z) (f : Nat) (L : ZLV) (st : List Value) (σ : ZHp) (n k w : Nat) : Z (f + 1) 7 L st σ n k w = s_callV E d mc ms 14 MX15_isMerchant 1 10 L st σ n k w (zk1 cut G (Z f)) G R T := zrs hZ rfl f L st σ n k w
theorem f_X15_deck_10 (hZ : ZRN (ztb (tb_X15_deck E d mc ms)) cut G R T Z) (f : Nat) (L : ZLV) (st : List Value) (σ : ZHp) (n k w : Nat) : Z (f + 1) 10 L st σ n k w = s_if_eq 49 13 L st σ n k w (zk1 cut G (Z f)) G R T := zrs hZ rfl f L st σ n k w
theorem f_X15_deck_13 (hZ : ZRN (ztb (tb_X15_deck E d mc ms)) cut G R T Z) (f : Nat) (L : ZLV) (st : List Value) (σ : ZHp) (n k w : Nat) : Z (f + 1) 13 L st σ n k w = s_iload 2 14 L st σ n k w (zk1 cut G (Z f)) G R T := zrs hZ rfl f L st σ n k w
theorem f_X15_deck_14 (hZ : ZRN (ztb (tb_X15_deck E d mc ms)) cut G R T Z) (f : Nat) (L : ZLV) (st : List Value) (σ : ZHp) (n k w : Nat) : Z (f + 1) 14 L st σ n k w = s_const (.int (0)) 15 L st σ n k w (zk1 cut G (Z f)) G R T := zrs hZ rfl f L st σ n k w
theorem f_X15_deck_15 (hZ : ZRN (ztb (tb_X15_deck E d mc ms)) cut G R T Z) (f : Nat) (L : ZLV) (st : List Value) (σ : ZHp) (n k w : Nat) : Z (f + 1) 15 L st σ n k w = s_aload 0 16 L st σ n k w (zk1 cut G (Z f)) G R T := zrs hZ rfl f L st σ n k w
theorem f_X15_deck_16 (hZ : ZRN (ztb (tb_X15_deck E d mc ms)) cut G R T Z) (f : Nat) (L : ZLV) (st : List Value) (σ : ZHp) (n k w : Nat) : Z (f + 1) 16 L st σ n k w = s_getf 14 7 19 L st σ n k w (zk1 cut G (Z f)) G R T := zrs hZ rfl f L st σ n k w
theorem f_X15_deck_19 (hZ : ZRN (ztb (tb_X15_deck E d mc ms)) cut G R T Z) (f : Nat) (L : ZLV) (st : List Value) (σ : ZHp) (n k w : Nat) : Z (f + 1) 19 L st σ n k w = s_getf 13 7 22 L st σ n k w (zk1 cut G (Z f)) G R T := zrs hZ rfl f L st σ n k w
theorem f_X15_deck_22 (hZ : ZRN (ztb (tb_X15_deck E d mc ms)) cut G R T Z) (f : Nat) (L : ZLV) (st : List Value) (σ : ZHp) (n k w : Nat) : Z (f + 1) 22 L st σ n k w = s_iload 1 23 L st σ n k w (zk1 cut G (Z f)) G R T := zrs hZ rfl f L st σ n k w
theorem f_X15_deck_23 (hZ : ZRN (ztb (tb_X15_deck E d mc ms)) cut G R T Z) (f : Nat) (L : ZLV) (st : List Value) (σ : ZHp) (n k w : Nat) : Z (f + 1) 23 L st σ n k w = s_iaload E 24 L st σ n k w (zk1 cut G (Z f)) G R T := zrs hZ rfl f L st σ n k w
theorem f_X15_deck_24 (hZ : ZRN (ztb (tb_X15_deck E d mc ms)) cut G R T Z) (f : Nat) (L : ZLV) (st : List Value) (σ : ZHp) (n k w : Nat) : Z (f + 1) 24 L st σ n k w = s_const (.int (1)) 25 L st σ n k w (zk1 cut G (Z f)) G R T := zrs hZ rfl f L st σ n k w
theorem f_X15_deck_25 (hZ : ZRN (ztb (tb_X15_deck E d mc ms)) cut G R T Z) (f : Nat) (L : ZLV) (st : List Value) (σ : ZHp) (n k w : Nat) : Z (f + 1) 25 L st σ n k w = s_isub 26 L st σ n k w (zk1 cut G (Z f)) G R T := zrs hZ rfl f L st σ n k w
theorem f_X15_deck_26 (hZ : ZRN (ztb (tb_X15_deck E d mc ms)) cut G R T Z) (f : Nat) (L : ZLV) (st : List Value) (σ : ZHp) (n k w : Nat) : Z (f + 1) 26 L st σ n k w = s_callS E d mc ms MX15_isIn 3 29 L st σ n k w (zk1 cut G (Z f)) G R T := zrs hZ rfl f L st σ n k w
theorem f_X15_deck_29 (hZ : ZRN (ztb (tb_X15_deck E d mc ms)) cut G R T Z) (f : Nat) (L : ZLV) (st : List Value) (σ : ZHp) (n k w : Nat) : Z (f + 1) 29 L st σ n k w = s_if_eq 49 32 L st σ n k w (zk1 cut G (Z f)) G R T := zrs hZ rfl f L st σ n k w
theorem f_X15_deck_32 (hZ : ZRN (ztb (tb_X15_deck E d mc ms)) cut G R T Z) (f : Nat) (L : ZLV) (st : List Value) (σ : ZHp) (n k w : Nat) : Z (f + 1) 32 L st σ n k w = s_aload 0 33 L st σ n k w (zk1 cut G (Z f)) G R T := zrs hZ rfl f L st σ n k w
theorem f_X15_deck_33 (hZ : ZRN (ztb (tb_X15_deck E d mc ms)) cut G R T Z) (f : Nat) (L : ZLV) (st : List Value) (σ : ZHp) (n k w : Nat) : Z (f + 1) 33 L st σ n k w = s_getf 14 7 36 L st σ n k w (zk1 cut G (Z f)) G R T := zrs hZ rfl f L st σ n k w
theorem f_X15_deck_36 (hZ : ZRN (ztb (tb_X15_deck E d mc ms)) cut G R T Z) (f : Nat) (L : ZLV) (st : List Value) (σ : ZHp) (n k w : Nat) : Z (f + 1) 36 L st σ n k w = s_getf 13 6 39 L st σ n k w (zk1 cut G (Z f)) G R T := zrs hZ rfl f L st σ n k w
theorem f_X15_deck_39 (hZ : ZRN (ztb (tb_X15_deck E d mc ms)) cut G R T Z) (f : Nat) (L : ZLV) (st : List Value) (σ : ZHp) (n k w : Nat) : Z (f + 1) 39 L st σ n k w = s_const (.int (60)) 41 L st σ n k w (zk1 cut G (Z f)) G R T := zrs hZ rfl f L st σ n k w
theorem f_X15_deck_41 (hZ : ZRN (ztb (tb_X15_deck E d mc ms)) cut G R T Z) (f : Nat) (L : ZLV) (st : List Value) (σ : ZHp) (n k w : Nat) : Z (f + 1) 41 L st σ n k w = s_iload 1 42 L st σ n k w (zk1 cut G (Z f)) G R T := zrs hZ rfl f L st σ n k w
theorem f_X15_deck_42 (hZ : ZRN (ztb (tb_X15_deck E d mc ms)) cut G R T Z) (f : Nat) (L : ZLV) (st : List Value) (σ : ZHp) (n k w : Nat) : Z (f + 1) 42 L st σ n k w = s_imul 43 L st σ n k w (zk1 cut G (Z f)) G R T := zrs hZ rfl f L st σ n k w
theorem f_X15_deck_43 (hZ : ZRN (ztb (tb_X15_deck E d mc ms)) cut G R T Z) (f : Nat) (L : ZLV) (st : List Value) (σ : ZHp) (n k w : Nat) : Z (f + 1) 43 L st σ n k w = s_iload 2 44 L st σ n k w (zk1 cut G (Z f)) G R T := zrs hZ rfl f L st σ n k w
theorem f_X15_deck_44 (hZ : ZRN (ztb (tb_X15_deck E d mc ms)) cut G R T Z) (f : Nat) (L : ZLV) (st : List Value) (σ : ZHp) (n k w : Nat) : Z (f + 1) 44 L st σ n k w = s_iadd 45 L st σ n k w (zk1 cut G (Z f)) G R T := zrs hZ rfl f L st σ n k w
theorem f_X15_deck_45 (hZ : ZRN (ztb (tb_X15_deck E d mc ms)) cut G R T Z) (f : Nat) (L : ZLV) (st : List Value) (σ : ZHp) (n k w : Nat) : Z (f + 1) 45 L st σ n k w = s_iaload E 46 L st σ n k w (zk1 cut G (Z f)) G R T := zrs hZ rfl f L st σ n k w
theorem f_X15_deck_46 (hZ : ZRN (ztb (tb_X15_deck E d mc ms)) cut G R T Z) (f : Nat) (L : ZLV) (st : List Value) (σ : ZHp) (n k w : Nat) : Z (f + 1) 46 L st σ n k w = s_goto 54 L st σ n k w (zk1 cut G (Z f)) G R T := zrs hZ rfl f L st σ n k w
theorem f_X15_deck_49 (hZ : ZRN (ztb (tb_X15_deck E d mc ms)) cut G R T Z) (f : Nat) (L : ZLV) (st : List Value) (σ : ZHp) (n k w : Nat) : Z (f + 1) 49 L st σ n k w = s_aload 0 50 L st σ n k w (zk1 cut G (Z f)) G R T := zrs hZ rfl f L st σ n k w
theorem f_X15_deck_50 (hZ : ZRN (ztb (tb_X15_deck E d mc ms)) cut G R T Z) (f : Nat) (L : ZLV) (st : List Value) (σ : ZHp) (n k w : Nat) : Z (f + 1) 50 L st σ n k w = s_const (.int (1)) 51 L st σ n k w (zk1 cut G (Z f)) G R T := zrs hZ rfl f L st σ n k w
theorem f_X15_deck_51 (hZ : ZRN (ztb (tb_X15_deck E d mc ms)) cut G R T Z) (f : Nat) (L : ZLV) (st : List Value) (σ : ZHp) (n k w : Nat) : Z (f + 1) 51 L st σ n k w = s_callV E d mc ms 14 MX15_no 1 54 L st σ n k w (zk1 cut G (Z f)) G R T := zrs hZ rfl f L st σ n k w
theorem f_X15_deck_54 (hZ : ZRN (ztb (tb_X15_deck E d mc ms)) cut G R T Z) (f : Nat) (L : ZLV) (st : List Value) (σ : ZHp) (n k w : Nat) : Z (f + 1) 54 L st σ n k w = s_ireturn L st σ n k w (zk1 cut G (Z f)) G R T := zrs hZ rfl f L st σ n k w
theorem f_X15_discard_0 (hZ : ZRN (ztb (tb_X15_discard E d mc ms)) cut G R T Z) (f : Nat) (L : ZLV) (st : List Value) (σ : ZHp) (n k w : Nat) : Z (f + 1) 0 L st σ n k w = s_aload 0 1 L st σ n k w (zk1 cut G (Z f)) G R T := zrs hZ rfl f L st σ n k w
theorem f_X15_discard_1 (hZ : ZRN (ztb (tb_X15_discard E d mc ms)) cut G R T Z) (f : Nat) (L : ZLV) (st : List Value) (σ : ZHp) (n k w : Nat) : Z (f + 1) 1 L st σ n k w = s_const (.int (0)) 2 L st σ n k w (zk1 cut G (Z f)) G R T := zrs hZ rfl f L st σ n k w
theorem f_X15_discard_2 (hZ : ZRN (ztb (tb_X15_discard E d mc ms)) cut G R T Z) (f : Nat) (L : ZLV) (st : List Value) (σ : ZHp) (n k w : Nat) : Z (f + 1) 2 L st σ n k w = s_putf 14 0 0 5 L st σ n k w (zk1 cut G (Z f)) G R T := zrs hZ rfl f L st σ n k w
theorem f_X15_discard_5 (hZ : ZRN (ztb (tb_X15_discard E d mc ms)) cut G R T Z) (f : Nat) (L : ZLV) (st : List Value) (σ : ZHp) (n k w : Nat) : Z (f + 1) 5 L st σ n k w = s_aload 0 6 L st σ n k w (zk1 cut G (Z f)) G R T := zrs hZ rfl f L st σ n k w
theorem f_X15_discard_6 (hZ : ZRN (ztb (tb_X15_discard E d mc ms)) cut G R T Z) (f : Nat) (L : ZLV) (st : List Value) (σ : ZHp) (n k w : Nat) : Z (f + 1) 6 L st σ n k w = s_iload 1 7 L st σ n k w (zk1 cut G (Z f)) G R T := zrs hZ rfl f L st σ n k w
theorem f_X15_discard_7 (hZ : ZRN (ztb (tb_X15_discard E d mc ms)) cut G R T Z) (f : Nat) (L : ZLV) (st : List Value) (σ : ZHp) (n k w : Nat) : Z (f + 1) 7 L st σ n k w = s_callV E d mc ms 14 MX15_isMerchant 1 10 L st σ n k w (zk1 cut G (Z f)) G R T := zrs hZ rfl f L st σ n k w
theorem f_X15_discard_10 (hZ : ZRN (ztb (tb_X15_discard E d mc ms)) cut G R T Z) (f : Nat) (L : ZLV) (st : List Value) (σ : ZHp) (n k w : Nat) : Z (f + 1) 10 L st σ n k w = s_if_eq 49 13 L st σ n k w (zk1 cut G (Z f)) G R T := zrs hZ rfl f L st σ n k w
theorem f_X15_discard_13 (hZ : ZRN (ztb (tb_X15_discard E d mc ms)) cut G R T Z) (f : Nat) (L : ZLV) (st : List Value) (σ : ZHp) (n k w : Nat) : Z (f + 1) 13 L st σ n k w = s_iload 2 14 L st σ n k w (zk1 cut G (Z f)) G R T := zrs hZ rfl f L st σ n k w
theorem f_X15_discard_14 (hZ : ZRN (ztb (tb_X15_discard E d mc ms)) cut G R T Z) (f : Nat) (L : ZLV) (st : List Value) (σ : ZHp) (n k w : Nat) : Z (f + 1) 14 L st σ n k w = s_const (.int (0)) 15 L st σ n k w (zk1 cut G (Z f)) G R T := zrs hZ rfl f L st σ n k w
theorem f_X15_discard_15 (hZ : ZRN (ztb (tb_X15_discard E d mc ms)) cut G R T Z) (f : Nat) (L : ZLV) (st : List Value) (σ : ZHp) (n k w : Nat) : Z (f + 1) 15 L st σ n k w = s_aload 0 16 L st σ n k w (zk1 cut G (Z f)) G R T := zrs hZ rfl f L st σ n k w
theorem f_X15_discard_16 (hZ : ZRN (ztb (tb_X15_discard E d mc ms)) cut G R T Z) (f : Nat) (L : ZLV) (st : List Value) (σ : ZHp) (n k w : Nat) : Z (f + 1) 16 L st σ n k w = s_getf 14 7 19 L st σ n k w (zk1 cut G (Z f)) G R T := zrs hZ rfl f L st σ n k w
theorem f_X15_discard_19 (hZ : ZRN (ztb (tb_X15_discard E d mc ms)) cut G R T Z) (f : Nat) (L : ZLV) (st : List Value) (σ : ZHp) (n k w : Nat) : Z (f + 1) 19 L st σ n k w = s_getf 13 9 22 L st σ n k w (zk1 cut G (Z f)) G R T := zrs hZ rfl f L st σ n k w
theorem f_X15_discard_22 (hZ : ZRN (ztb (tb_X15_discard E d mc ms)) cut G R T Z) (f : Nat) (L : ZLV) (st : List Value) (σ : ZHp) (n k w : Nat) : Z (f + 1) 22 L st σ n k w = s_iload 1 23 L st σ n k w (zk1 cut G (Z f)) G R T := zrs hZ rfl f L st σ n k w
theorem f_X15_discard_23 (hZ : ZRN (ztb (tb_X15_discard E d mc ms)) cut G R T Z) (f : Nat) (L : ZLV) (st : List Value) (σ : ZHp) (n k w : Nat) : Z (f + 1) 23 L st σ n k w = s_iaload E 24 L st σ n k w (zk1 cut G (Z f)) G R T := zrs hZ rfl f L st σ n k w
theorem f_X15_discard_24 (hZ : ZRN (ztb (tb_X15_discard E d mc ms)) cut G R T Z) (f : Nat) (L : ZLV) (st : List Value) (σ : ZHp) (n k w : Nat) : Z (f + 1) 24 L st σ n k w = s_const (.int (1)) 25 L st σ n k w (zk1 cut G (Z f)) G R T := zrs hZ rfl f L st σ n k w
theorem f_X15_discard_25 (hZ : ZRN (ztb (tb_X15_discard E d mc ms)) cut G R T Z) (f : Nat) (L : ZLV) (st : List Value) (σ : ZHp) (n k w : Nat) : Z (f + 1) 25 L st σ n k w = s_isub 26 L st σ n k w (zk1 cut G (Z f)) G R T := zrs hZ rfl f L st σ n k w
theorem f_X15_discard_26 (hZ : ZRN (ztb (tb_X15_discard E d mc ms)) cut G R T Z) (f : Nat) (L : ZLV) (st : List Value) (σ : ZHp) (n k w : Nat) : Z (f + 1) 26 L st σ n k w = s_callS E d mc ms MX15_isIn 3 29 L st σ n k w (zk1 cut G (Z f)) G R T := zrs hZ rfl f L st σ n k w
theorem f_X15_discard_29 (hZ : ZRN (ztb (tb_X15_discard E d mc ms)) cut G R T Z) (f : Nat) (L : ZLV) (st : List Value) (σ : ZHp) (n k w : Nat) : Z (f + 1) 29 L st σ n k w = s_if_eq 49 32 L st σ n k w (zk1 cut G (Z f)) G R T := zrs hZ rfl f L st σ n k w
theorem f_X15_discard_32 (hZ : ZRN (ztb (tb_X15_discard E d mc ms)) cut G R T Z) (f : Nat) (L : ZLV) (st : List Value) (σ : ZHp) (n k w : Nat) : Z (f + 1) 32 L st σ n k w = s_aload 0 33 L st σ n k w (zk1 cut G (Z f)) G R T := zrs hZ rfl f L st σ n k w
theorem f_X15_discard_33 (hZ : ZRN (ztb (tb_X15_discard E d mc ms)) cut G R T Z) (f : Nat) (L : ZLV) (st : List Value) (σ : ZHp) (n k w : Nat) : Z (f + 1) 33 L st σ n k w = s_getf 14 7 36 L st σ n k w (zk1 cut G (Z f)) G R T := zrs hZ rfl f L st σ n k w
theorem f_X15_discard_36 (hZ : ZRN (ztb (tb_X15_discard E d mc ms)) cut G R T Z) (f : Nat) (L : ZLV) (st : List Value) (σ : ZHp) (n k w : Nat) : Z (f + 1) 36 L st σ n k w = s_getf 13 8 39 L st σ n k w (zk1 cut G (Z f)) G R T := zrs hZ rfl f L st σ n k w
theorem f_X15_discard_39 (hZ : ZRN (ztb (tb_X15_discard E d mc ms)) cut G R T Z) (f : Nat) (L : ZLV) (st : List Value) (σ : ZHp) (n k w : Nat) : Z (f + 1) 39 L st σ n k w = s_const (.int (60)) 41 L st σ n k w (zk1 cut G (Z f)) G R T := zrs hZ rfl f L st σ n k w
theorem f_X15_discard_41 (hZ : ZRN (ztb (tb_X15_discard E d mc ms)) cut G R T Z) (f : Nat) (L : ZLV) (st : List Value) (σ : ZHp) (n k w : Nat) : Z (f + 1) 41 L st σ n k w = s_iload 1 42 L st σ n k w (zk1 cut G (Z f)) G R T := zrs hZ rfl f L st σ n k w
theorem f_X15_discard_42 (hZ : ZRN (ztb (tb_X15_discard E d mc ms)) cut G R T Z) (f : Nat) (L : ZLV) (st : List Value) (σ : ZHp) (n k w : Nat) : Z (f + 1) 42 L st σ n k w = s_imul 43 L st σ n k w (zk1 cut G (Z f)) G R T := zrs hZ rfl f L st σ n k w
theorem f_X15_discard_43 (hZ : ZRN (ztb (tb_X15_discard E d mc ms)) cut G R T Z) (f : Nat) (L : ZLV) (st : List Value) (σ : ZHp) (n k w : Nat) : Z (f + 1) 43 L st σ n k w = s_iload 2 44 L st σ n k w (zk1 cut G (Z f)) G R T := zrs hZ rfl f L st σ n k w
theorem f_X15_discard_44 (hZ : ZRN (ztb (tb_X15_discard E d mc ms)) cut G R T Z) (f : Nat) (L : ZLV) (st : List Value) (σ : ZHp) (n k w : Nat) : Z (f + 1) 44 L st σ n k w = s_iadd 45 L st σ n k w (zk1 cut G (Z f)) G R T := zrs hZ rfl f L st σ n k w
theorem f_X15_discard_45 (hZ : ZRN (ztb (tb_X15_discard E d mc ms)) cut G R T Z) (f : Nat) (L : ZLV) (st : List Value) (σ : ZHp) (n k w : Nat) : Z (f + 1) 45 L st σ n k w = s_iaload E 46 L st σ n k w (zk1 cut G (Z f)) G R T := zrs hZ rfl f L st σ n k w
theorem f_X15_discard_46 (hZ : ZRN (ztb (tb_X15_discard E d mc ms)) cut G R T Z) (f : Nat) (L : ZLV) (st : List Value) (σ : ZHp) (n k w : Nat) : Z (f + 1) 46 L st σ n k w = s_goto 54 L st σ n k w (zk1 cut G (Z f)) G R T := zrs hZ rfl f L st σ n k w
theorem f_X15_discard_49 (hZ : ZRN (ztb (tb_X15_discard E d mc ms)) cut G R T Z) (f : Nat) (L : ZLV) (st : List Value) (σ : ZHp) (n k w : Nat) : Z (f + 1) 49 L st σ n k w = s_aload 0 50 L st σ n k w (zk1 cut G (Z f)) G R T := zrs hZ rfl f L st σ n k w
theorem f_X15_discard_50 (hZ : ZRN (ztb (tb_X15_discard E d mc ms)) cut G R T Z) (f : Nat) (L : ZLV) (st : List Value) (σ : ZHp) (n k w : Nat) : Z (f + 1) 50 L st σ n k w = s_const (.int (1)) 51 L st σ n k w (zk1 cut G (Z f)) G R T := zrs hZ rfl f L st σ n k w
theorem f_X15_discard_51 (hZ : ZRN (ztb (tb_X15_discard E d mc ms)) cut G R T Z) (f : Nat) (L : ZLV) (st : List Value) (σ : ZHp) (n k w : Nat) : Z (f + 1) 51 L st σ n k w = s_callV E d mc ms 14 MX15_no 1 54 L st σ n k w (zk1 cut G (Z f)) G R T := zrs hZ rfl f L st σ n k w
theorem f_X15_discard_54 (hZ : ZRN (ztb (tb_X15_discard E d mc ms)) cut G R T Z) (f : Nat) (L : ZLV) (st : List Value) (σ : ZHp) (n k w : Nat) : Z (f + 1) 54 L st σ n k w = s_ireturn L st σ n k w (zk1 cut G (Z f)) G R T := zrs hZ rfl f L st σ n k w
theorem f_X15_leader_0 (hZ : ZRN (ztb (tb_X15_leader E d mc ms)) cut G R T Z) (f : Nat) (L : ZLV) (st : List Value) (σ : ZHp) (n k w : Nat) : Z (f + 1) 0 L st σ n k w = s_aload 0 1 L st σ n k w (zk1 cut G (Z f)) G R T := zrs hZ rfl f L st σ n k w
theorem f_X15_leader_1 (hZ : ZRN (ztb (tb_X15_leader E d mc ms)) cut G R T Z) (f : Nat) (L : ZLV) (st : List Value) (σ : ZHp) (n k w : Nat) : Z (f + 1) 1 L st σ n k w = s_const (.int (0)) 2 L st σ n k w (zk1 cut G (Z f)) G R T := zrs hZ rfl f L st σ n k w
theorem f_X15_leader_2 (hZ : ZRN (ztb (tb_X15_leader E d mc ms)) cut G R T Z) (f : Nat) (L : ZLV) (st : List Value) (σ : ZHp) (n k w : Nat) : Z (f + 1) 2 L st σ n k w = s_putf 14 0 0 5 L st σ n k w (zk1 cut G (Z f)) G R T := zrs hZ rfl f L st σ n k w
theorem f_X15_leader_5 (hZ : ZRN (ztb (tb_X15_leader E d mc ms)) cut G R T Z) (f : Nat) (L : ZLV) (st : List Value) (σ : ZHp) (n k w : Nat) : Z (f + 1) 5 L st σ n k w = s_aload 0 6 L st σ n k w (zk1 cut G (Z f)) G R T := zrs hZ rfl f L st σ n k w
theorem f_X15_leader_6 (hZ : ZRN (ztb (tb_X15_leader E d mc ms)) cut G R T Z) (f : Nat) (L : ZLV) (st : List Value) (σ : ZHp) (n k w : Nat) : Z (f + 1) 6 L st σ n k w = s_aload 0 7 L st σ n k w (zk1 cut G (Z f)) G R T := zrs hZ rfl f L st σ n k w
theorem f_X15_leader_7 (hZ : ZRN (ztb (tb_X15_leader E d mc ms)) cut G R T Z) (f : Nat) (L : ZLV) (st : List Value) (σ : ZHp) (n k w : Nat) : Z (f + 1) 7 L st σ n k w = s_getf 14 7 10 L st σ n k w (zk1 cut G (Z f)) G R T := zrs hZ rfl f L st σ n k w
theorem f_X15_leader_10 (hZ : ZRN (ztb (tb_X15_leader E d mc ms)) cut G R T Z) (f : Nat) (L : ZLV) (st : List Value) (σ : ZHp) (n k w : Nat) : Z (f + 1) 10 L st σ n k w = s_callV E d mc ms 14 MX15_leaderOf 1 13 L st σ n k w (zk1 cut G (Z f)) G R T := zrs hZ rfl f L st σ n k w
theorem f_X15_leader_13 (hZ : ZRN (ztb (tb_X15_leader E d mc ms)) cut G R T Z) (f : Nat) (L : ZLV) (st : List Value) (σ : ZHp) (n k w : Nat) : Z (f + 1) 13 L st σ n k w = s_ireturn L st σ n k w (zk1 cut G (Z f)) G R T := zrs hZ rfl f L st σ n k w
theorem f_X15_canGive_0 (hZ : ZRN (ztb (tb_X15_canGive E d mc ms)) cut G R T Z) (f : Nat) (L : ZLV) (st : List Value) (σ : ZHp) (n k w : Nat) : Z (f + 1) 0 L st σ n k w = s_aload 0 1 L st σ n k w (zk1 cut G (Z f)) G R T := zrs hZ rfl f L st σ n k w
theorem f_X15_canGive_1 (hZ : ZRN (ztb (tb_X15_canGive E d mc ms)) cut G R T Z) (f : Nat) (L : ZLV) (st : List Value) (σ : ZHp) (n k w : Nat) : Z (f + 1) 1 L st σ n k w = s_getf 14 7 4 L st σ n k w (zk1 cut G (Z f)) G R T := zrs hZ rfl f L st σ n k w
theorem f_X15_canGive_4 (hZ : ZRN (ztb (tb_X15_canGive E d mc ms)) cut G R T Z) (f : Nat) (L : ZLV) (st : List Value) (σ : ZHp) (n k w : Nat) : Z (f + 1) 4 L st σ n k w = s_getf 13 3 7 L st σ n k w (zk1 cut G (Z f)) G R T := zrs hZ rfl f L st σ n k w
theorem f_X15_canGive_7 (hZ : ZRN (ztb (tb_X15_canGive E d mc ms)) cut G R T Z) (f : Nat) (L : ZLV) (st : List Value) (σ : ZHp) (n k w : Nat) : Z (f + 1) 7 L st σ n k w = s_iload 2 8 L st σ n k w (zk1 cut G (Z f)) G R T := zrs hZ rfl f L st σ n k w
theorem f_X15_canGive_8 (hZ : ZRN (ztb (tb_X15_canGive E d mc ms)) cut G R T Z) (f : Nat) (L : ZLV) (st : List Value) (σ : ZHp) (n k w : Nat) : Z (f + 1) 8 L st σ n k w = s_iaload E 9 L st σ n k w (zk1 cut G (Z f)) G R T := zrs hZ rfl f L st σ n k w
theorem f_X15_canGive_9 (hZ : ZRN (ztb (tb_X15_canGive E d mc ms)) cut G R T Z) (f : Nat) (L : ZLV) (st : List Value) (σ : ZHp) (n k w : Nat) : Z (f + 1) 9 L st σ n k w = s_if_le 29 12 L st σ n k w (zk1 cut G (Z f)) G R T := zrs hZ rfl f L st σ n k w
theorem f_X15_canGive_12 (hZ : ZRN (ztb (tb_X15_canGive E d mc ms)) cut G R T Z) (f : Nat) (L : ZLV) (st : List Value) (σ : ZHp) (n k w : Nat) : Z (f + 1) 12 L st σ n k w = s_aload 0 13 L st σ n k w (zk1 cut G (Z f)) G R T := zrs hZ rfl f L st σ n k w
theorem f_X15_canGive_13 (hZ : ZRN (ztb (tb_X15_canGive E d mc ms)) cut G R T Z) (f : Nat) (L : ZLV) (st : List Value) (σ : ZHp) (n k w : Nat) : Z (f + 1) 13 L st σ n k w = s_getf 14 7 16 L st σ n k w (zk1 cut G (Z f)) G R T := zrs hZ rfl f L st σ n k w
theorem f_X15_canGive_16 (hZ : ZRN (ztb (tb_X15_canGive E d mc ms)) cut G R T Z) (f : Nat) (L : ZLV) (st : List Value) (σ : ZHp) (n k w : Nat) : Z (f + 1) 16 L st σ n k w = s_iload 1 17 L st σ n k w (zk1 cut G (Z f)) G R T := zrs hZ rfl f L st σ n k w
theorem f_X15_canGive_17 (hZ : ZRN (ztb (tb_X15_canGive E d mc ms)) cut G R T Z) (f : Nat) (L : ZLV) (st : List Value) (σ : ZHp) (n k w : Nat) : Z (f + 1) 17 L st σ n k w = s_callV E d mc ms 13 MX14_all 1 20 L st σ n k w (zk1 cut G (Z f)) G R T := zrs hZ rfl f L st σ n k w
theorem f_X15_canGive_20 (hZ : ZRN (ztb (tb_X15_canGive E d mc ms)) cut G R T Z) (f : Nat) (L : ZLV) (st : List Value) (σ : ZHp) (n k w : Nat) : Z (f + 1) 20 L st σ n k w = s_const (.int (60)) 22 L st σ n k w (zk1 cut G (Z f)) G R T := zrs hZ rfl f L st σ n k w
theorem f_X15_canGive_22 (hZ : ZRN (ztb (tb_X15_canGive E d mc ms)) cut G R T Z) (f : Nat) (L : ZLV) (st : List Value) (σ : ZHp) (n k w : Nat) : Z (f + 1) 22 L st σ n k w = s_icmp_ge 29 25 L st σ n k w (zk1 cut G (Z f)) G R T := zrs hZ rfl f L st σ n k w
theorem f_X15_canGive_25 (hZ : ZRN (ztb (tb_X15_canGive E d mc ms)) cut G R T Z) (f : Nat) (L : ZLV) (st : List Value) (σ : ZHp) (n k w : Nat) : Z (f + 1) 25 L st σ n k w = s_const (.int (1)) 26 L st σ n k w (zk1 cut G (Z f)) G R T := zrs hZ rfl f L st σ n k w
theorem f_X15_canGive_26 (hZ : ZRN (ztb (tb_X15_canGive E d mc ms)) cut G R T Z) (f : Nat) (L : ZLV) (st : List Value) (σ : ZHp) (n k w : Nat) : Z (f + 1) 26 L st σ n k w = s_goto 30 L st σ n k w (zk1 cut G (Z f)) G R T := zrs hZ rfl f L st σ n k w
theorem f_X15_canGive_29 (hZ : ZRN (ztb (tb_X15_canGive E d mc ms)) cut G R T Z) (f : Nat) (L : ZLV) (st : List Value) (σ : ZHp) (n k w : Nat) : Z (f + 1) 29 L st σ n k w = s_const (.int (0)) 30 L st σ n k w (zk1 cut G (Z f)) G R T := zrs hZ rfl f L st σ n k w
theorem f_X15_canGive_30 (hZ : ZRN (ztb (tb_X15_canGive E d mc ms)) cut G R T Z) (f : Nat) (L : ZLV) (st : List Value) (σ : ZHp) (n k w : Nat) : Z (f + 1) 30 L st σ n k w = s_zreturn L st σ n k w (zk1 cut G (Z f)) G R T := zrs hZ rfl f L st σ n k w
theorem f_X15_give_0 (hZ : ZRN (ztb (tb_X15_give E d mc ms)) cut G R T Z) (f : Nat) (L : ZLV) (st : List Value) (σ : ZHp) (n k w : Nat) : Z (f + 1) 0 L st σ n k w = s_aload 0 1 L st σ n k w (zk1 cut G (Z f)) G R T := zrs hZ rfl f L st σ n k w
theorem f_X15_give_1 (hZ : ZRN (ztb (tb_X15_give E d mc ms)) cut G R T Z) (f : Nat) (L : ZLV) (st : List Value) (σ : ZHp) (n k w : Nat) : Z (f + 1) 1 L st σ n k w = s_getf 13 3 4 L st σ n k w (zk1 cut G (Z f)) G R T := zrs hZ rfl f L st σ n k w
theorem f_X15_give_4 (hZ : ZRN (ztb (tb_X15_give E d mc ms)) cut G R T Z) (f : Nat) (L : ZLV) (st : List Value) (σ : ZHp) (n k w : Nat) : Z (f + 1) 4 L st σ n k w = s_iload 2 5 L st σ n k w (zk1 cut G (Z f)) G R T := zrs hZ rfl f L st σ n k w
theorem f_X15_give_5 (hZ : ZRN (ztb (tb_X15_give E d mc ms)) cut G R T Z) (f : Nat) (L : ZLV) (st : List Value) (σ : ZHp) (n k w : Nat) : Z (f + 1) 5 L st σ n k w = s_dup2 6 L st σ n k w (zk1 cut G (Z f)) G R T := zrs hZ rfl f L st σ n k w
theorem f_X15_give_6 (hZ : ZRN (ztb (tb_X15_give E d mc ms)) cut G R T Z) (f : Nat) (L : ZLV) (st : List Value) (σ : ZHp) (n k w : Nat) : Z (f + 1) 6 L st σ n k w = s_iaload E 7 L st σ n k w (zk1 cut G (Z f)) G R T := zrs hZ rfl f L st σ n k w
theorem f_X15_give_7 (hZ : ZRN (ztb (tb_X15_give E d mc ms)) cut G R T Z) (f : Nat) (L : ZLV) (st : List Value) (σ : ZHp) (n k w : Nat) : Z (f + 1) 7 L st σ n k w = s_const (.int (1)) 8 L st σ n k w (zk1 cut G (Z f)) G R T := zrs hZ rfl f L st σ n k w
theorem f_X15_give_8 (hZ : ZRN (ztb (tb_X15_give E d mc ms)) cut G R T Z) (f : Nat) (L : ZLV) (st : List Value) (σ : ZHp) (n k w : Nat) : Z (f + 1) 8 L st σ n k w = s_isub 9 L st σ n k w (zk1 cut G (Z f)) G R T := zrs hZ rfl f L st σ n k w
theorem f_X15_give_9 (hZ : ZRN (ztb (tb_X15_give E d mc ms)) cut G R T Z) (f : Nat) (L : ZLV) (st : List Value) (σ : ZHp) (n k w : Nat) : Z (f + 1) 9 L st σ n k w = s_iastore E 10 L st σ n k w (zk1 cut G (Z f)) G R T := zrs hZ rfl f L st σ n k w
theorem f_X15_give_10 (hZ : ZRN (ztb (tb_X15_give E d mc ms)) cut G R T Z) (f : Nat) (L : ZLV) (st : List Value) (σ : ZHp) (n k w : Nat) : Z (f + 1) 10 L st σ n k w = s_aload 0 11 L st σ n k w (zk1 cut G (Z f)) G R T := zrs hZ rfl f L st σ n k w
theorem f_X15_give_11 (hZ : ZRN (ztb (tb_X15_give E d mc ms)) cut G R T Z) (f : Nat) (L : ZLV) (st : List Value) (σ : ZHp) (n k w : Nat) : Z (f + 1) 11 L st σ n k w = s_iload 1 12 L st σ n k w (zk1 cut G (Z f)) G R T := zrs hZ rfl f L st σ n k w
theorem f_X15_give_12 (hZ : ZRN (ztb (tb_X15_give E d mc ms)) cut G R T Z) (f : Nat) (L : ZLV) (st : List Value) (σ : ZHp) (n k w : Nat) : Z (f + 1) 12 L st σ n k w = s_iload 2 13 L st σ n k w (zk1 cut G (Z f)) G R T := zrs hZ rfl f L st σ n k w
theorem f_X15_give_13 (hZ : ZRN (ztb (tb_X15_give E d mc ms)) cut G R T Z) (f : Nat) (L : ZLV) (st : List Value) (σ : ZHp) (n k w : Nat) : Z (f + 1) 13 L st σ n k w = s_callV E d mc ms 13 MX14_discard 2 16 L st σ n k w (zk1 cut G (Z f)) G R T := zrs hZ rfl f L st σ n k w
theorem f_X15_give_16 (hZ : ZRN (ztb (tb_X15_give E d mc ms)) cut G R T Z) (f : Nat) (L : ZLV) (st : List Value) (σ : ZHp) (n k w : Nat) : Z (f + 1) 16 L st σ n k w = s_return L st σ n k w (zk1 cut G (Z f)) G R T := zrs hZ rfl f L st σ n k w
theorem f_X15_give__0 (hZ : ZRN (ztb (tb_X15_give_ E d mc ms)) cut G R T Z) (f : Nat) (L : ZLV) (st : List Value) (σ : ZHp) (n k w : Nat) : Z (f + 1) 0 L st σ n k w = s_aload 0 1 L st σ n k w (zk1 cut G (Z f)) G R T := zrs hZ rfl f L st σ n k w
theorem f_X15_give__1 (hZ : ZRN (ztb (tb_X15_give_ E d mc ms)) cut G R T Z) (f : Nat) (L : ZLV) (st : List Value) (σ : ZHp) (n k w : Nat) : Z (f + 1) 1 L st σ n k w = s_const (.int (0)) 2 L st σ n k w (zk1 cut G (Z f)) G R T := zrs hZ rfl f L st σ n k w
theorem f_X15_give__2 (hZ : ZRN (ztb (tb_X15_give_ E d mc ms)) cut G R T Z) (f : Nat) (L : ZLV) (st : List Value) (σ : ZHp) (n k w : Nat) : Z (f + 1) 2 L st σ n k w = s_putf 14 0 0 5 L st σ n k w (zk1 cut G (Z f)) G R T := zrs hZ rfl f L st σ n k w
theorem f_X15_give__5 (hZ : ZRN (ztb (tb_X15_give_ E d mc ms)) cut G R T Z) (f : Nat) (L : ZLV) (st : List Value) (σ : ZHp) (n k w : Nat) : Z (f + 1) 5 L st σ n k w = s_aload 0 6 L st σ n k w (zk1 cut G (Z f)) G R T := zrs hZ rfl f L st σ n k w
theorem f_X15_give__6 (hZ : ZRN (ztb (tb_X15_give_ E d mc ms)) cut G R T Z) (f : Nat) (L : ZLV) (st : List Value) (σ : ZHp) (n k w : Nat) : Z (f + 1) 6 L st σ n k w = s_iload 1 7 L st σ n k w (zk1 cut G (Z f)) G R T := zrs hZ rfl f L st σ n k w
theorem f_X15_give__7 (hZ : ZRN (ztb (tb_X15_give_ E d mc ms)) cut G R T Z) (f : Nat) (L : ZLV) (st : List Value) (σ : ZHp) (n k w : Nat) : Z (f + 1) 7 L st σ n k w = s_callV E d mc ms 14 MX15_isMerchant 1 10 L st σ n k w (zk1 cut G (Z f)) G R T := zrs hZ rfl f L st σ n k w
theorem f_X15_give__10 (hZ : ZRN (ztb (tb_X15_give_ E d mc ms)) cut G R T Z) (f : Nat) (L : ZLV) (st : List Value) (σ : ZHp) (n k w : Nat) : Z (f + 1) 10 L st σ n k w = s_if_eq 21 13 L st σ n k w (zk1 cut G (Z f)) G R T := zrs hZ rfl f L st σ n k w
theorem f_X15_give__13 (hZ : ZRN (ztb (tb_X15_give_ E d mc ms)) cut G R T Z) (f : Nat) (L : ZLV) (st : List Value) (σ : ZHp) (n k w : Nat) : Z (f + 1) 13 L st σ n k w = s_aload 0 14 L st σ n k w (zk1 cut G (Z f)) G R T := zrs hZ rfl f L st σ n k w
theorem f_X15_give__14 (hZ : ZRN (ztb (tb_X15_give_ E d mc ms)) cut G R T Z) (f : Nat) (L : ZLV) (st : List Value) (σ : ZHp) (n k w : Nat) : Z (f + 1) 14 L st σ n k w = s_iload 2 15 L st σ n k w (zk1 cut G (Z f)) G R T := zrs hZ rfl f L st σ n k w
theorem f_X15_give__15 (hZ : ZRN (ztb (tb_X15_give_ E d mc ms)) cut G R T Z) (f : Nat) (L : ZLV) (st : List Value) (σ : ZHp) (n k w : Nat) : Z (f + 1) 15 L st σ n k w = s_callV E d mc ms 14 MX15_isCard 1 18 L st σ n k w (zk1 cut G (Z f)) G R T := zrs hZ rfl f L st σ n k w
theorem f_X15_give__18 (hZ : ZRN (ztb (tb_X15_give_ E d mc ms)) cut G R T Z) (f : Nat) (L : ZLV) (st : List Value) (σ : ZHp) (n k w : Nat) : Z (f + 1) 18 L st σ n k w = s_if_ne 27 21 L st σ n k w (zk1 cut G (Z f)) G R T := zrs hZ rfl f L st σ n k w
theorem f_X15_give__21 (hZ : ZRN (ztb (tb_X15_give_ E d mc ms)) cut G R T Z) (f : Nat) (L : ZLV) (st : List Value) (σ : ZHp) (n k w : Nat) : Z (f + 1) 21 L st σ n k w = s_aload 0 22 L st σ n k w (zk1 cut G (Z f)) G R T := zrs hZ rfl f L st σ n k w
theorem f_X15_give__22 (hZ : ZRN (ztb (tb_X15_give_ E d mc ms)) cut G R T Z) (f : Nat) (L : ZLV) (st : List Value) (σ : ZHp) (n k w : Nat) : Z (f + 1) 22 L st σ n k w = s_const (.int (1)) 23 L st σ n k w (zk1 cut G (Z f)) G R T := zrs hZ rfl f L st σ n k w
theorem f_X15_give__23 (hZ : ZRN (ztb (tb_X15_give_ E d mc ms)) cut G R T Z) (f : Nat) (L : ZLV) (st : List Value) (σ : ZHp) (n k w : Nat) : Z (f + 1) 23 L st σ n k w = s_callV E d mc ms 14 MX15_no 1 26 L st σ n k w (zk1 cut G (Z f)) G R T := zrs hZ rfl f L st σ n k w
theorem f_X15_give__26 (hZ : ZRN (ztb (tb_X15_give_ E d mc ms)) cut G R T Z) (f : Nat) (L : ZLV) (st : List Value) (σ : ZHp) (n k w : Nat) : Z (f + 1) 26 L st σ n k w = s_ireturn L st σ n k w (zk1 cut G (Z f)) G R T := zrs hZ rfl f L st σ n k w
theorem f_X15_give__27 (hZ : ZRN (ztb (tb_X15_give_ E d mc ms)) cut G R T Z) (f : Nat) (L : ZLV) (st : List Value) (σ : ZHp) (n k w : Nat) : Z (f + 1) 27 L st σ n k w = s_aload 0 28 L st σ n k w (zk1 cut G (Z f)) G R T := zrs hZ rfl f L st σ n k w
theorem f_X15_give__28 (hZ : ZRN (ztb (tb_X15_give_ E d mc ms)) cut G R T Z) (f : Nat) (L : ZLV) (st : List Value) (σ : ZHp) (n k w : Nat) : Z (f + 1) 28 L st σ n k w = s_iload 1 29 L st σ n k w (zk1 cut G (Z f)) G R T := zrs hZ rfl f L st σ n k w
theorem f_X15_give__29 (hZ : ZRN (ztb (tb_X15_give_ E d mc ms)) cut G R T Z) (f : Nat) (L : ZLV) (st : List Value) (σ : ZHp) (n k w : Nat) : Z (f + 1) 29 L st σ n k w = s_iload 2 30 L st σ n k w (zk1 cut G (Z f)) G R T := zrs hZ rfl f L st σ n k w
theorem f_X15_give__30 (hZ : ZRN (ztb (tb_X15_give_ E d mc ms)) cut G R T Z) (f : Nat) (L : ZLV) (st : List Value) (σ : ZHp) (n k w : Nat) : Z (f + 1) 30 L st σ n k w = s_callV E d mc ms 14 MX15_canGive 2 33 L st σ n k w (zk1 cut G (Z f)) G R T := zrs hZ rfl f L st σ n k w
theorem f_X15_give__33 (hZ : ZRN (ztb (tb_X15_give_ E d mc ms)) cut G R T Z) (f : Nat) (L : ZLV) (st : List Value) (σ : ZHp) (n k w : Nat) : Z (f + 1) 33 L st σ n k w = s_if_ne 42 36 L st σ n k w (zk1 cut G (Z f)) G R T := zrs hZ rfl f L st σ n k w
theorem f_X15_give__36 (hZ : ZRN (ztb (tb_X15_give_ E d mc ms)) cut G R T Z) (f : Nat) (L : ZLV) (st : List Value) (σ : ZHp) (n k w : Nat) : Z (f + 1) 36 L st σ n k w = s_aload 0 37 L st σ n k w (zk1 cut G (Z f)) G R T := zrs hZ rfl f L st σ n k w
theorem f_X15_give__37 (hZ : ZRN (ztb (tb_X15_give_ E d mc ms)) cut G R T Z) (f : Nat) (L : ZLV) (st : List Value) (σ : ZHp) (n k w : Nat) : Z (f + 1) 37 L st σ n k w = s_const (.int (2)) 38 L st σ n k w (zk1 cut G (Z f)) G R T := zrs hZ rfl f L st σ n k w
theorem f_X15_give__38 (hZ : ZRN (ztb (tb_X15_give_ E d mc ms)) cut G R T Z) (f : Nat) (L : ZLV) (st : List Value) (σ : ZHp) (n k w : Nat) : Z (f + 1) 38 L st σ n k w = s_callV E d mc ms 14 MX15_no 1 41 L st σ n k w (zk1 cut G (Z f)) G R T := zrs hZ rfl f L st σ n k w
theorem f_X15_give__41 (hZ : ZRN (ztb (tb_X15_give_ E d mc ms)) cut G R T Z) (f : Nat) (L : ZLV) (st : List Value) (σ : ZHp) (n k w : Nat) : Z (f + 1) 41 L st σ n k w = s_ireturn L st σ n k w (zk1 cut G (Z f)) G R T := zrs hZ rfl f L st σ n k w
theorem f_X15_give__42 (hZ : ZRN (ztb (tb_X15_give_ E d mc ms)) cut G R T Z) (f : Nat) (L : ZLV) (st : List Value) (σ : ZHp) (n k w : Nat) : Z (f + 1) 42 L st σ n k w = s_aload 0 43 L st σ n k w (zk1 cut G (Z f)) G R T := zrs hZ rfl f L st σ n k w
theorem f_X15_give__43 (hZ : ZRN (ztb (tb_X15_give_ E d mc ms)) cut G R T Z) (f : Nat) (L : ZLV) (st : List Value) (σ : ZHp) (n k w : Nat) : Z (f + 1) 43 L st σ n k w = s_getf 14 7 46 L st σ n k w (zk1 cut G (Z f)) G R T := zrs hZ rfl f L st σ n k w
theorem f_X15_give__46 (hZ : ZRN (ztb (tb_X15_give_ E d mc ms)) cut G R T Z) (f : Nat) (L : ZLV) (st : List Value) (σ : ZHp) (n k w : Nat) : Z (f + 1) 46 L st σ n k w = s_iload 1 47 L st σ n k w (zk1 cut G (Z f)) G R T := zrs hZ rfl f L st σ n k w
theorem f_X15_give__47 (hZ : ZRN (ztb (tb_X15_give_ E d mc ms)) cut G R T Z) (f : Nat) (L : ZLV) (st : List Value) (σ : ZHp) (n k w : Nat) : Z (f + 1) 47 L st σ n k w = s_iload 2 48 L st σ n k w (zk1 cut G (Z f)) G R T := zrs hZ rfl f L st σ n k w
theorem f_X15_give__48 (hZ : ZRN (ztb (tb_X15_give_ E d mc ms)) cut G R T Z) (f : Nat) (L : ZLV) (st : List Value) (σ : ZHp) (n k w : Nat) : Z (f + 1) 48 L st σ n k w = s_callS E d mc ms MX15_give 3 51 L st σ n k w (zk1 cut G (Z f)) G R T := zrs hZ rfl f L st σ n k w
theorem f_X15_give__51 (hZ : ZRN (ztb (tb_X15_give_ E d mc ms)) cut G R T Z) (f : Nat) (L : ZLV) (st : List Value) (σ : ZHp) (n k w : Nat) : Z (f + 1) 51 L st σ n k w = s_aload 0 52 L st σ n k w (zk1 cut G (Z f)) G R T := zrs hZ rfl f L st σ n k w
theorem f_X15_give__52 (hZ : ZRN (ztb (tb_X15_give_ E d mc ms)) cut G R T Z) (f : Nat) (L : ZLV) (st : List Value) (σ : ZHp) (n k w : Nat) : Z (f + 1) 52 L st σ n k w = s_getf 14 7 55 L st σ n k w (zk1 cut G (Z f)) G R T := zrs hZ rfl f L st σ n k w
theorem f_X15_give__55 (hZ : ZRN (ztb (tb_X15_give_ E d mc ms)) cut G R T Z) (f : Nat) (L : ZLV) (st : List Value) (σ : ZHp) (n k w : Nat) : Z (f + 1) 55 L st σ n k w = s_getf 13 3 58 L st σ n k w (zk1 cut G (Z f)) G R T := zrs hZ rfl f L st σ n k w
theorem f_X15_give__58 (hZ : ZRN (ztb (tb_X15_give_ E d mc ms)) cut G R T Z) (f : Nat) (L : ZLV) (st : List Value) (σ : ZHp) (n k w : Nat) : Z (f + 1) 58 L st σ n k w = s_iload 2 59 L st σ n k w (zk1 cut G (Z f)) G R T := zrs hZ rfl f L st σ n k w
theorem f_X15_give__59 (hZ : ZRN (ztb (tb_X15_give_ E d mc ms)) cut G R T Z) (f : Nat) (L : ZLV) (st : List Value) (σ : ZHp) (n k w : Nat) : Z (f + 1) 59 L st σ n k w = s_iaload E 60 L st σ n k w (zk1 cut G (Z f)) G R T := zrs hZ rfl f L st σ n k w
theorem f_X15_give__60 (hZ : ZRN (ztb (tb_X15_give_ E d mc ms)) cut G R T Z) (f : Nat) (L : ZLV) (st : List Value) (σ : ZHp) (n k w : Nat) : Z (f + 1) 60 L st σ n k w = s_ireturn L st σ n k w (zk1 cut G (Z f)) G R T := zrs hZ rfl f L st σ n k w
theorem f_X15_trash_0 (hZ : ZRN (ztb (tb_X15_trash E d mc ms)) cut G R T Z) (f : Nat) (L : ZLV) (st : List Value) (σ : ZHp) (n k w : Nat) : Z (f + 1) 0 L st σ n k w = s_aload 0 1 L st σ n k w (zk1 cut G (Z f)) G R T := zrs hZ rfl f L st σ n k w
theorem f_X15_trash_1 (hZ : ZRN (ztb (tb_X15_trash E d mc ms)) cut G R T Z) (f : Nat) (L : ZLV) (st : List Value) (σ : ZHp) (n k w : Nat) : Z (f + 1) 1 L st σ n k w = s_const (.int (0)) 2 L st σ n k w (zk1 cut G (Z f)) G R T := zrs hZ rfl f L st σ n k w
theorem f_X15_trash_2 (hZ : ZRN (ztb (tb_X15_trash E d mc ms)) cut G R T Z) (f : Nat) (L : ZLV) (st : List Value) (σ : ZHp) (n k w : Nat) : Z (f + 1) 2 L st σ n k w = s_putf 14 0 0 5 L st σ n k w (zk1 cut G (Z f)) G R T := zrs hZ rfl f L st σ n k w
theorem f_X15_trash_5 (hZ : ZRN (ztb (tb_X15_trash E d mc ms)) cut G R T Z) (f : Nat) (L : ZLV) (st : List Value) (σ : ZHp) (n k w : Nat) : Z (f + 1) 5 L st σ n k w = s_aload 0 6 L st σ n k w (zk1 cut G (Z f)) G R T := zrs hZ rfl f L st σ n k w
theorem f_X15_trash_6 (hZ : ZRN (ztb (tb_X15_trash E d mc ms)) cut G R T Z) (f : Nat) (L : ZLV) (st : List Value) (σ : ZHp) (n k w : Nat) : Z (f + 1) 6 L st σ n k w = s_iload 1 7 L st σ n k w (zk1 cut G (Z f)) G R T := zrs hZ rfl f L st σ n k w
theorem f_X15_trash_7 (hZ : ZRN (ztb (tb_X15_trash E d mc ms)) cut G R T Z) (f : Nat) (L : ZLV) (st : List Value) (σ : ZHp) (n k w : Nat) : Z (f + 1) 7 L st σ n k w = s_callV E d mc ms 14 MX15_isMerchant 1 10 L st σ n k w (zk1 cut G (Z f)) G R T := zrs hZ rfl f L st σ n k w
theorem f_X15_trash_10 (hZ : ZRN (ztb (tb_X15_trash E d mc ms)) cut G R T Z) (f : Nat) (L : ZLV) (st : List Value) (σ : ZHp) (n k w : Nat) : Z (f + 1) 10 L st σ n k w = s_if_eq 21 13 L st σ n k w (zk1 cut G (Z f)) G R T := zrs hZ rfl f L st σ n k w
theorem f_X15_trash_13 (hZ : ZRN (ztb (tb_X15_trash E d mc ms)) cut G R T Z) (f : Nat) (L : ZLV) (st : List Value) (σ : ZHp) (n k w : Nat) : Z (f + 1) 13 L st σ n k w = s_aload 0 14 L st σ n k w (zk1 cut G (Z f)) G R T := zrs hZ rfl f L st σ n k w
theorem f_X15_trash_14 (hZ : ZRN (ztb (tb_X15_trash E d mc ms)) cut G R T Z) (f : Nat) (L : ZLV) (st : List Value) (σ : ZHp) (n k w : Nat) : Z (f + 1) 14 L st σ n k w = s_iload 2 15 L st σ n k w (zk1 cut G (Z f)) G R T := zrs hZ rfl f L st σ n k w
theorem f_X15_trash_15 (hZ : ZRN (ztb (tb_X15_trash E d mc ms)) cut G R T Z) (f : Nat) (L : ZLV) (st : List Value) (σ : ZHp) (n k w : Nat) : Z (f + 1) 15 L st σ n k w = s_callV E d mc ms 14 MX15_isCard 1 18 L st σ n k w (zk1 cut G (Z f)) G R T := zrs hZ rfl f L st σ n k w
theorem f_X15_trash_18 (hZ : ZRN (ztb (tb_X15_trash E d mc ms)) cut G R T Z) (f : Nat) (L : ZLV) (st : List Value) (σ : ZHp) (n k w : Nat) : Z (f + 1) 18 L st σ n k w = s_if_ne 27 21 L st σ n k w (zk1 cut G (Z f)) G R T := zrs hZ rfl f L st σ n k w
theorem f_X15_trash_21 (hZ : ZRN (ztb (tb_X15_trash E d mc ms)) cut G R T Z) (f : Nat) (L : ZLV) (st : List Value) (σ : ZHp) (n k w : Nat) : Z (f + 1) 21 L st σ n k w = s_aload 0 22 L st σ n k w (zk1 cut G (Z f)) G R T := zrs hZ rfl f L st σ n k w
theorem f_X15_trash_22 (hZ : ZRN (ztb (tb_X15_trash E d mc ms)) cut G R T Z) (f : Nat) (L : ZLV) (st : List Value) (σ : ZHp) (n k w : Nat) : Z (f + 1) 22 L st σ n k w = s_const (.int (1)) 23 L st σ n k w (zk1 cut G (Z f)) G R T := zrs hZ rfl f L st σ n k w
theorem f_X15_trash_23 (hZ : ZRN (ztb (tb_X15_trash E d mc ms)) cut G R T Z) (f : Nat) (L : ZLV) (st : List Value) (σ : ZHp) (n k w : Nat) : Z (f + 1) 23 L st σ n k w = s_callV E d mc ms 14 MX15_no 1 26 L st σ n k w (zk1 cut G (Z f)) G R T := zrs hZ rfl f L st σ n k w
theorem f_X15_trash_26 (hZ : ZRN (ztb (tb_X15_trash E d mc ms)) cut G R T Z) (f : Nat) (L : ZLV) (st : List Value) (σ : ZHp) (n k w : Nat) : Z (f + 1) 26 L st σ n k w = s_ireturn L st σ n k w (zk1 cut G (Z f)) G R T := zrs hZ rfl f L st σ n k w
theorem f_X15_trash_27 (hZ : ZRN (ztb (tb_X15_trash E d mc ms)) cut G R T Z) (f : Nat) (L : ZLV) (st : List Value) (σ : ZHp) (n k w : Nat) : Z (f + 1) 27 L st σ n k w = s_const (.int (60)) 29 L st σ n k w (zk1 cut G (Z f)) G R T := zrs hZ rfl f L st σ n k w
theorem f_X15_trash_29 (hZ : ZRN (ztb (tb_X15_trash E d mc ms)) cut G R T Z) (f : Nat) (L : ZLV) (st : List Value) (σ : ZHp) (n k w : Nat) : Z (f + 1) 29 L st σ n k w = s_iload 1 30 L st σ n k w (zk1 cut G (Z f)) G R T := zrs hZ rfl f L st σ n k w
theorem f_X15_trash_30 (hZ : ZRN (ztb (tb_X15_trash E d mc ms)) cut G R T Z) (f : Nat) (L : ZLV) (st : List Value) (σ : ZHp) (n k w : Nat) : Z (f + 1) 30 L st σ n k w = s_imul 31 L st σ n k w (zk1 cut G (Z f)) G R T := zrs hZ rfl f L st σ n k w
theorem f_X15_trash_31 (hZ : ZRN (ztb (tb_X15_trash E d mc ms)) cut G R T Z) (f : Nat) (L : ZLV) (st : List Value) (σ : ZHp) (n k w : Nat) : Z (f + 1) 31 L st σ n k w = s_istore 3 32 L st σ n k w (zk1 cut G (Z f)) G R T := zrs hZ rfl f L st σ n k w
theorem f_X15_trash_32 (hZ : ZRN (ztb (tb_X15_trash E d mc ms)) cut G R T Z) (f : Nat) (L : ZLV) (st : List Value) (σ : ZHp) (n k w : Nat) : Z (f + 1) 32 L st σ n k w = s_const (.int (0)) 33 L st σ n k w (zk1 cut G (Z f)) G R T := zrs hZ rfl f L st σ n k w
theorem f_X15_trash_33 (hZ : ZRN (ztb (tb_X15_trash E d mc ms)) cut G R T Z) (f : Nat) (L : ZLV) (st : List Value) (σ : ZHp) (n k w : Nat) : Z (f + 1) 33 L st σ n k w = s_istore 4 35 L st σ n k w (zk1 cut G (Z f)) G R T := zrs hZ rfl f L st σ n k w
theorem f_X15_trash_35 (hZ : ZRN (ztb (tb_X15_trash E d mc ms)) cut G R T Z) (f : Nat) (L : ZLV) (st : List Value) (σ : ZHp) (n k w : Nat) : Z (f + 1) 35 L st σ n k w = s_iload 4 37 L st σ n k w (zk1 cut G (Z f)) G R T := zrs hZ rfl f L st σ n k w
theorem f_X15_trash_37 (hZ : ZRN (ztb (tb_X15_trash E d mc ms)) cut G R T Z) (f : Nat) (L : ZLV) (st : List Value) (σ : ZHp) (n k w : Nat) : Z (f + 1) 37 L st σ n k w = s_aload 0 38 L st σ n k w (zk1 cut G (Z f)) G R T := zrs hZ rfl f L st σ n k w
theorem f_X15_trash_38 (hZ : ZRN (ztb (tb_X15_trash E d mc ms)) cut G R T Z) (f : Nat) (L : ZLV) (st : List Value) (σ : ZHp) (n k w : Nat) : Z (f + 1) 38 L st σ n k w = s_getf 14 7 41 L st σ n k w (zk1 cut G (Z f)) G R T := zrs hZ rfl f L st σ n k w
theorem f_X15_trash_41 (hZ : ZRN (ztb (tb_X15_trash E d mc ms)) cut G R T Z) (f : Nat) (L : ZLV) (st : List Value) (σ : ZHp) (n k w : Nat) : Z (f + 1) 41 L st σ n k w = s_getf 13 9 44 L st σ n k w (zk1 cut G (Z f)) G R T := zrs hZ rfl f L st σ n k w
theorem f_X15_trash_44 (hZ : ZRN (ztb (tb_X15_trash E d mc ms)) cut G R T Z) (f : Nat) (L : ZLV) (st : List Value) (σ : ZHp) (n k w : Nat) : Z (f + 1) 44 L st σ n k w = s_iload 1 45 L st σ n k w (zk1 cut G (Z f)) G R T := zrs hZ rfl f L st σ n k w
theorem f_X15_trash_45 (hZ : ZRN (ztb (tb_X15_trash E d mc ms)) cut G R T Z) (f : Nat) (L : ZLV) (st : List Value) (σ : ZHp) (n k w : Nat) : Z (f + 1) 45 L st σ n k w = s_iaload E 46 L st σ n k w (zk1 cut G (Z f)) G R T := zrs hZ rfl f L st σ n k w
theorem f_X15_trash_46 (hZ : ZRN (ztb (tb_X15_trash E d mc ms)) cut G R T Z) (f : Nat) (L : ZLV) (st : List Value) (σ : ZHp) (n k w : Nat) : Z (f + 1) 46 L st σ n k w = s_icmp_ge 155 49 L st σ n k w (zk1 cut G (Z f)) G R T := zrs hZ rfl f L st σ n k w
theorem f_X15_trash_49 (hZ : ZRN (ztb (tb_X15_trash E d mc ms)) cut G R T Z) (f : Nat) (L : ZLV) (st : List Value) (σ : ZHp) (n k w : Nat) : Z (f + 1) 49 L st σ n k w = s_aload 0 50 L st σ n k w (zk1 cut G (Z f)) G R T := zrs hZ rfl f L st σ n k w
theorem f_X15_trash_50 (hZ : ZRN (ztb (tb_X15_trash E d mc ms)) cut G R T Z) (f : Nat) (L : ZLV) (st : List Value) (σ : ZHp) (n k w : Nat) : Z (f + 1) 50 L st σ n k w = s_getf 14 7 53 L st σ n k w (zk1 cut G (Z f)) G R T := zrs hZ rfl f L st σ n k w
theorem f_X15_trash_53 (hZ : ZRN (ztb (tb_X15_trash E d mc ms)) cut G R T Z) (f : Nat) (L : ZLV) (st : List Value) (σ : ZHp) (n k w : Nat) : Z (f + 1) 53 L st σ n k w = s_getf 13 8 56 L st σ n k w (zk1 cut G (Z f)) G R T := zrs hZ rfl f L st σ n k w
theorem f_X15_trash_56 (hZ : ZRN (ztb (tb_X15_trash E d mc ms)) cut G R T Z) (f : Nat) (L : ZLV) (st : List Value) (σ : ZHp) (n k w : Nat) : Z (f + 1) 56 L st σ n k w = s_iload 3 57 L st σ n k w (zk1 cut G (Z f)) G R T := zrs hZ rfl f L st σ n k w
theorem f_X15_trash_57 (hZ : ZRN (ztb (tb_X15_trash E d mc ms)) cut G R T Z) (f : Nat) (L : ZLV) (st : List Value) (σ : ZHp) (n k w : Nat) : Z (f + 1) 57 L st σ n k w = s_iload 4 59 L st σ n k w (zk1 cut G (Z f)) G R T := zrs hZ rfl f L st σ n k w
theorem f_X15_trash_59 (hZ : ZRN (ztb (tb_X15_trash E d mc ms)) cut G R T Z) (f : Nat) (L : ZLV) (st : List Value) (σ : ZHp) (n k w : Nat) : Z (f + 1) 59 L st σ n k w = s_iadd 60 L st σ n k w (zk1 cut G (Z f)) G R T := zrs hZ rfl f L st σ n k w
theorem f_X15_trash_60 (hZ : ZRN (ztb (tb_X15_trash E d mc ms)) cut G R T Z) (f : Nat) (L : ZLV) (st : List Value) (σ : ZHp) (n k w : Nat) : Z (f + 1) 60 L st σ n k w = s_iaload E 61 L st σ n k w (zk1 cut G (Z f)) G R T := zrs hZ rfl f L st σ n k w
theorem f_X15_trash_61 (hZ : ZRN (ztb (tb_X15_trash E d mc ms)) cut G R T Z) (f : Nat) (L : ZLV) (st : List Value) (σ : ZHp) (n k w : Nat) : Z (f + 1) 61 L st σ n k w = s_iload 2 62 L st σ n k w (zk1 cut G (Z f)) G R T := zrs hZ rfl f L st σ n k w
theorem f_X15_trash_62 (hZ : ZRN (ztb (tb_X15_trash E d mc ms)) cut G R T Z) (f : Nat) (L : ZLV) (st : List Value) (σ : ZHp) (n k w : Nat) : Z (f + 1) 62 L st σ n k w = s_icmp_eq 68 65 L st σ n k w (zk1 cut G (Z f)) G R T := zrs hZ rfl f L st σ n k w
theorem f_X15_trash_65 (hZ : ZRN (ztb (tb_X15_trash E d mc ms)) cut G R T Z) (f : Nat) (L : ZLV) (st : List Value) (σ : ZHp) (n k w : Nat) : Z (f + 1) 65 L st σ n k w = s_goto 149 L st σ n k w (zk1 cut G (Z f)) G R T := zrs hZ rfl f L st σ n k w
theorem f_X15_trash_68 (hZ : ZRN (ztb (tb_X15_trash E d mc ms)) cut G R T Z) (f : Nat) (L : ZLV) (st : List Value) (σ : ZHp) (n k w : Nat) : Z (f + 1) 68 L st σ n k w = s_aload 0 69 L st σ n k w (zk1 cut G (Z f)) G R T := zrs hZ rfl f L st σ n k w
theorem f_X15_trash_69 (hZ : ZRN (ztb (tb_X15_trash E d mc ms)) cut G R T Z) (f : Nat) (L : ZLV) (st : List Value) (σ : ZHp) (n k w : Nat) : Z (f + 1) 69 L st σ n k w = s_getf 14 7 72 L st σ n k w (zk1 cut G (Z f)) G R T := zrs hZ rfl f L st σ n k w
theorem f_X15_trash_72 (hZ : ZRN (ztb (tb_X15_trash E d mc ms)) cut G R T Z) (f : Nat) (L : ZLV) (st : List Value) (σ : ZHp) (n k w : Nat) : Z (f + 1) 72 L st σ n k w = s_getf 13 9 75 L st σ n k w (zk1 cut G (Z f)) G R T := zrs hZ rfl f L st σ n k w
theorem f_X15_trash_75 (hZ : ZRN (ztb (tb_X15_trash E d mc ms)) cut G R T Z) (f : Nat) (L : ZLV) (st : List Value) (σ : ZHp) (n k w : Nat) : Z (f + 1) 75 L st σ n k w = s_iload 1 76 L st σ n k w (zk1 cut G (Z f)) G R T := zrs hZ rfl f L st σ n k w
theorem f_X15_trash_76 (hZ : ZRN (ztb (tb_X15_trash E d mc ms)) cut G R T Z) (f : Nat) (L : ZLV) (st : List Value) (σ : ZHp) (n k w : Nat) : Z (f + 1) 76 L st σ n k w = s_dup2 77 L st σ n k w (zk1 cut G (Z f)) G R T := zrs hZ rfl f L st σ n k w
theorem f_X15_trash_77 (hZ : ZRN (ztb (tb_X15_trash E d mc ms)) cut G R T Z) (f : Nat) (L : ZLV) (st : List Value) (σ : ZHp) (n k w : Nat) : Z (f + 1) 77 L st σ n k w = s_iaload E 78 L st σ n k w (zk1 cut G (Z f)) G R T := zrs hZ rfl f L st σ n k w
theorem f_X15_trash_78 (hZ : ZRN (ztb (tb_X15_trash E d mc ms)) cut G R T Z) (f : Nat) (L : ZLV) (st : List Value) (σ : ZHp) (n k w : Nat) : Z (f + 1) 78 L st σ n k w = s_const (.int (1)) 79 L st σ n k w (zk1 cut G (Z f)) G R T := zrs hZ rfl f L st σ n k w
theorem f_X15_trash_79 (hZ : ZRN (ztb (tb_X15_trash E d mc ms)) cut G R T Z) (f : Nat) (L : ZLV) (st : List Value) (σ : ZHp) (n k w : Nat) : Z (f + 1) 79 L st σ n k w = s_isub 80 L st σ n k w (zk1 cut G (Z f)) G R T := zrs hZ rfl f L st σ n k w
theorem f_X15_trash_80 (hZ : ZRN (ztb (tb_X15_trash E d mc ms)) cut G R T Z) (f : Nat) (L : ZLV) (st : List Value) (σ : ZHp) (n k w : Nat) : Z (f + 1) 80 L st σ n k w = s_iastore E 81 L st σ n k w (zk1 cut G (Z f)) G R T := zrs hZ rfl f L st σ n k w
theorem f_X15_trash_81 (hZ : ZRN (ztb (tb_X15_trash E d mc ms)) cut G R T Z) (f : Nat) (L : ZLV) (st : List Value) (σ : ZHp) (n k w : Nat) : Z (f + 1) 81 L st σ n k w = s_aload 0 82 L st σ n k w (zk1 cut G (Z f)) G R T := zrs hZ rfl f L st σ n k w
theorem f_X15_trash_82 (hZ : ZRN (ztb (tb_X15_trash E d mc ms)) cut G R T Z) (f : Nat) (L : ZLV) (st : List Value) (σ : ZHp) (n k w : Nat) : Z (f + 1) 82 L st σ n k w = s_getf 14 7 85 L st σ n k w (zk1 cut G (Z f)) G R T := zrs hZ rfl f L st σ n k w
theorem f_X15_trash_85 (hZ : ZRN (ztb (tb_X15_trash E d mc ms)) cut G R T Z) (f : Nat) (L : ZLV) (st : List Value) (σ : ZHp) (n k w : Nat) : Z (f + 1) 85 L st σ n k w = s_getf 13 8 88 L st σ n k w (zk1 cut G (Z f)) G R T := zrs hZ rfl f L st σ n k w
theorem f_X15_trash_88 (hZ : ZRN (ztb (tb_X15_trash E d mc ms)) cut G R T Z) (f : Nat) (L : ZLV) (st : List Value) (σ : ZHp) (n k w : Nat) : Z (f + 1) 88 L st σ n k w = s_iload 3 89 L st σ n k w (zk1 cut G (Z f)) G R T := zrs hZ rfl f L st σ n k w
theorem f_X15_trash_89 (hZ : ZRN (ztb (tb_X15_trash E d mc ms)) cut G R T Z) (f : Nat) (L : ZLV) (st : List Value) (σ : ZHp) (n k w : Nat) : Z (f + 1) 89 L st σ n k w = s_iload 4 91 L st σ n k w (zk1 cut G (Z f)) G R T := zrs hZ rfl f L st σ n k w
theorem f_X15_trash_91 (hZ : ZRN (ztb (tb_X15_trash E d mc ms)) cut G R T Z) (f : Nat) (L : ZLV) (st : List Value) (σ : ZHp) (n k w : Nat) : Z (f + 1) 91 L st σ n k w = s_iadd 92 L st σ n k w (zk1 cut G (Z f)) G R T := zrs hZ rfl f L st σ n k w
theorem f_X15_trash_92 (hZ : ZRN (ztb (tb_X15_trash E d mc ms)) cut G R T Z) (f : Nat) (L : ZLV) (st : List Value) (σ : ZHp) (n k w : Nat) : Z (f + 1) 92 L st σ n k w = s_const (.int (1)) 93 L st σ n k w (zk1 cut G (Z f)) G R T := zrs hZ rfl f L st σ n k w
theorem f_X15_trash_93 (hZ : ZRN (ztb (tb_X15_trash E d mc ms)) cut G R T Z) (f : Nat) (L : ZLV) (st : List Value) (σ : ZHp) (n k w : Nat) : Z (f + 1) 93 L st σ n k w = s_iadd 94 L st σ n k w (zk1 cut G (Z f)) G R T := zrs hZ rfl f L st σ n k w
theorem f_X15_trash_94 (hZ : ZRN (ztb (tb_X15_trash E d mc ms)) cut G R T Z) (f : Nat) (L : ZLV) (st : List Value) (σ : ZHp) (n k w : Nat) : Z (f + 1) 94 L st σ n k w = s_aload 0 95 L st σ n k w (zk1 cut G (Z f)) G R T := zrs hZ rfl f L st σ n k w
theorem f_X15_trash_95 (hZ : ZRN (ztb (tb_X15_trash E d mc ms)) cut G R T Z) (f : Nat) (L : ZLV) (st : List Value) (σ : ZHp) (n k w : Nat) : Z (f + 1) 95 L st σ n k w = s_getf 14 7 98 L st σ n k w (zk1 cut G (Z f)) G R T := zrs hZ rfl f L st σ n k w
theorem f_X15_trash_98 (hZ : ZRN (ztb (tb_X15_trash E d mc ms)) cut G R T Z) (f : Nat) (L : ZLV) (st : List Value) (σ : ZHp) (n k w : Nat) : Z (f + 1) 98 L st σ n k w = s_getf 13 8 101 L st σ n k w (zk1 cut G (Z f)) G R T := zrs hZ rfl f L st σ n k w
theorem f_X15_trash_101 (hZ : ZRN (ztb (tb_X15_trash E d mc ms)) cut G R T Z) (f : Nat) (L : ZLV) (st : List Value) (σ : ZHp) (n k w : Nat) : Z (f + 1) 101 L st σ n k w = s_iload 3 102 L st σ n k w (zk1 cut G (Z f)) G R T := zrs hZ rfl f L st σ n k w
theorem f_X15_trash_102 (hZ : ZRN (ztb (tb_X15_trash E d mc ms)) cut G R T Z) (f : Nat) (L : ZLV) (st : List Value) (σ : ZHp) (n k w : Nat) : Z (f + 1) 102 L st σ n k w = s_iload 4 104 L st σ n k w (zk1 cut G (Z f)) G R T := zrs hZ rfl f L st σ n k w
theorem f_X15_trash_104 (hZ : ZRN (ztb (tb_X15_trash E d mc ms)) cut G R T Z) (f : Nat) (L : ZLV) (st : List Value) (σ : ZHp) (n k w : Nat) : Z (f + 1) 104 L st σ n k w = s_iadd 105 L st σ n k w (zk1 cut G (Z f)) G R T := zrs hZ rfl f L st σ n k w
theorem f_X15_trash_105 (hZ : ZRN (ztb (tb_X15_trash E d mc ms)) cut G R T Z) (f : Nat) (L : ZLV) (st : List Value) (σ : ZHp) (n k w : Nat) : Z (f + 1) 105 L st σ n k w = s_aload 0 106 L st σ n k w (zk1 cut G (Z f)) G R T := zrs hZ rfl f L st σ n k w
theorem f_X15_trash_106 (hZ : ZRN (ztb (tb_X15_trash E d mc ms)) cut G R T Z) (f : Nat) (L : ZLV) (st : List Value) (σ : ZHp) (n k w : Nat) : Z (f + 1) 106 L st σ n k w = s_getf 14 7 109 L st σ n k w (zk1 cut G (Z f)) G R T := zrs hZ rfl f L st σ n k w
theorem f_X15_trash_109 (hZ : ZRN (ztb (tb_X15_trash E d mc ms)) cut G R T Z) (f : Nat) (L : ZLV) (st : List Value) (σ : ZHp) (n k w : Nat) : Z (f + 1) 109 L st σ n k w = s_getf 13 9 112 L st σ n k w (zk1 cut G (Z f)) G R T := zrs hZ rfl f L st σ n k w
theorem f_X15_trash_112 (hZ : ZRN (ztb (tb_X15_trash E d mc ms)) cut G R T Z) (f : Nat) (L : ZLV) (st : List Value) (σ : ZHp) (n k w : Nat) : Z (f + 1) 112 L st σ n k w = s_iload 1 113 L st σ n k w (zk1 cut G (Z f)) G R T := zrs hZ rfl f L st σ n k w
theorem f_X15_trash_113 (hZ : ZRN (ztb (tb_X15_trash E d mc ms)) cut G R T Z) (f : Nat) (L : ZLV) (st : List Value) (σ : ZHp) (n k w : Nat) : Z (f + 1) 113 L st σ n k w = s_iaload E 114 L st σ n k w (zk1 cut G (Z f)) G R T := zrs hZ rfl f L st σ n k w
theorem f_X15_trash_114 (hZ : ZRN (ztb (tb_X15_trash E d mc ms)) cut G R T Z) (f : Nat) (L : ZLV) (st : List Value) (σ : ZHp) (n k w : Nat) : Z (f + 1) 114 L st σ n k w = s_iload 4 116 L st σ n k w (zk1 cut G (Z f)) G R T := zrs hZ rfl f L st σ n k w
theorem f_X15_trash_116 (hZ : ZRN (ztb (tb_X15_trash E d mc ms)) cut G R T Z) (f : Nat) (L : ZLV) (st : List Value) (σ : ZHp) (n k w : Nat) : Z (f + 1) 116 L st σ n k w = s_isub 117 L st σ n k w (zk1 cut G (Z f)) G R T := zrs hZ rfl f L st σ n k w
theorem f_X15_trash_117 (hZ : ZRN (ztb (tb_X15_trash E d mc ms)) cut G R T Z) (f : Nat) (L : ZLV) (st : List Value) (σ : ZHp) (n k w : Nat) : Z (f + 1) 117 L st σ n k w = s_acopy E d 120 L st σ n k w (zk1 cut G (Z f)) G R T := zrs hZ rfl f L st σ n k w
theorem f_X15_trash_120 (hZ : ZRN (ztb (tb_X15_trash E d mc ms)) cut G R T Z) (f : Nat) (L : ZLV) (st : List Value) (σ : ZHp) (n k w : Nat) : Z (f + 1) 120 L st σ n k w = s_aload 0 121 L st σ n k w (zk1 cut G (Z f)) G R T := zrs hZ rfl f L st σ n k w
theorem f_X15_trash_121 (hZ : ZRN (ztb (tb_X15_trash E d mc ms)) cut G R T Z) (f : Nat) (L : ZLV) (st : List Value) (σ : ZHp) (n k w : Nat) : Z (f + 1) 121 L st σ n k w = s_getf 14 7 124 L st σ n k w (zk1 cut G (Z f)) G R T := zrs hZ rfl f L st σ n k w
theorem f_X15_trash_124 (hZ : ZRN (ztb (tb_X15_trash E d mc ms)) cut G R T Z) (f : Nat) (L : ZLV) (st : List Value) (σ : ZHp) (n k w : Nat) : Z (f + 1) 124 L st σ n k w = s_getf 13 11 127 L st σ n k w (zk1 cut G (Z f)) G R T := zrs hZ rfl f L st σ n k w
theorem f_X15_trash_127 (hZ : ZRN (ztb (tb_X15_trash E d mc ms)) cut G R T Z) (f : Nat) (L : ZLV) (st : List Value) (σ : ZHp) (n k w : Nat) : Z (f + 1) 127 L st σ n k w = s_iload 1 128 L st σ n k w (zk1 cut G (Z f)) G R T := zrs hZ rfl f L st σ n k w
theorem f_X15_trash_128 (hZ : ZRN (ztb (tb_X15_trash E d mc ms)) cut G R T Z) (f : Nat) (L : ZLV) (st : List Value) (σ : ZHp) (n k w : Nat) : Z (f + 1) 128 L st σ n k w = s_dup2 129 L st σ n k w (zk1 cut G (Z f)) G R T := zrs hZ rfl f L st σ n k w
theorem f_X15_trash_129 (hZ : ZRN (ztb (tb_X15_trash E d mc ms)) cut G R T Z) (f : Nat) (L : ZLV) (st : List Value) (σ : ZHp) (n k w : Nat) : Z (f + 1) 129 L st σ n k w = s_iaload E 130 L st σ n k w (zk1 cut G (Z f)) G R T := zrs hZ rfl f L st σ n k w
theorem f_X15_trash_130 (hZ : ZRN (ztb (tb_X15_trash E d mc ms)) cut G R T Z) (f : Nat) (L : ZLV) (st : List Value) (σ : ZHp) (n k w : Nat) : Z (f + 1) 130 L st σ n k w = s_const (.int (1)) 131 L st σ n k w (zk1 cut G (Z f)) G R T := zrs hZ rfl f L st σ n k w
theorem f_X15_trash_131 (hZ : ZRN (ztb (tb_X15_trash E d mc ms)) cut G R T Z) (f : Nat) (L : ZLV) (st : List Value) (σ : ZHp) (n k w : Nat) : Z (f + 1) 131 L st σ n k w = s_iadd 132 L st σ n k w (zk1 cut G (Z f)) G R T := zrs hZ rfl f L st σ n k w
theorem f_X15_trash_132 (hZ : ZRN (ztb (tb_X15_trash E d mc ms)) cut G R T Z) (f : Nat) (L : ZLV) (st : List Value) (σ : ZHp) (n k w : Nat) : Z (f + 1) 132 L st σ n k w = s_iastore E 133 L st σ n k w (zk1 cut G (Z f)) G R T := zrs hZ rfl f L st σ n k w
theorem f_X15_trash_133 (hZ : ZRN (ztb (tb_X15_trash E d mc ms)) cut G R T Z) (f : Nat) (L : ZLV) (st : List Value) (σ : ZHp) (n k w : Nat) : Z (f + 1) 133 L st σ n k w = s_aload 0 134 L st σ n k w (zk1 cut G (Z f)) G R T := zrs hZ rfl f L st σ n k w
theorem f_X15_trash_134 (hZ : ZRN (ztb (tb_X15_trash E d mc ms)) cut G R T Z) (f : Nat) (L : ZLV) (st : List Value) (σ : ZHp) (n k w : Nat) : Z (f + 1) 134 L st σ n k w = s_getf 14 7 137 L st σ n k w (zk1 cut G (Z f)) G R T := zrs hZ rfl f L st σ n k w
theorem f_X15_trash_137 (hZ : ZRN (ztb (tb_X15_trash E d mc ms)) cut G R T Z) (f : Nat) (L : ZLV) (st : List Value) (σ : ZHp) (n k w : Nat) : Z (f + 1) 137 L st σ n k w = s_dup 138 L st σ n k w (zk1 cut G (Z f)) G R T := zrs hZ rfl f L st σ n k w
theorem f_X15_trash_138 (hZ : ZRN (ztb (tb_X15_trash E d mc ms)) cut G R T Z) (f : Nat) (L : ZLV) (st : List Value) (σ : ZHp) (n k w : Nat) : Z (f + 1) 138 L st σ n k w = s_getf 13 1 141 L st σ n k w (zk1 cut G (Z f)) G R T := zrs hZ rfl f L st σ n k w
theorem f_X15_trash_141 (hZ : ZRN (ztb (tb_X15_trash E d mc ms)) cut G R T Z) (f : Nat) (L : ZLV) (st : List Value) (σ : ZHp) (n k w : Nat) : Z (f + 1) 141 L st σ n k w = s_const (.int (1)) 142 L st σ n k w (zk1 cut G (Z f)) G R T := zrs hZ rfl f L st σ n k w
theorem f_X15_trash_142 (hZ : ZRN (ztb (tb_X15_trash E d mc ms)) cut G R T Z) (f : Nat) (L : ZLV) (st : List Value) (σ : ZHp) (n k w : Nat) : Z (f + 1) 142 L st σ n k w = s_iadd 143 L st σ n k w (zk1 cut G (Z f)) G R T := zrs hZ rfl f L st σ n k w
theorem f_X15_trash_143 (hZ : ZRN (ztb (tb_X15_trash E d mc ms)) cut G R T Z) (f : Nat) (L : ZLV) (st : List Value) (σ : ZHp) (n k w : Nat) : Z (f + 1) 143 L st σ n k w = s_putf 13 1 0 146 L st σ n k w (zk1 cut G (Z f)) G R T := zrs hZ rfl f L st σ n k w
theorem f_X15_trash_146 (hZ : ZRN (ztb (tb_X15_trash E d mc ms)) cut G R T Z) (f : Nat) (L : ZLV) (st : List Value) (σ : ZHp) (n k w : Nat) : Z (f + 1) 146 L st σ n k w = s_iload 4 148 L st σ n k w (zk1 cut G (Z f)) G R T := zrs hZ rfl f L st σ n k w
theorem f_X15_trash_148 (hZ : ZRN (ztb (tb_X15_trash E d mc ms)) cut G R T Z) (f : Nat) (L : ZLV) (st : List Value) (σ : ZHp) (n k w : Nat) : Z (f + 1) 148 L st σ n k w = s_ireturn L st σ n k w (zk1 cut G (Z f)) G R T := zrs hZ rfl f L st σ n k w
theorem f_X15_trash_149 (hZ : ZRN (ztb (tb_X15_trash E d mc ms)) cut G R T Z) (f : Nat) (L : ZLV) (st : List Value) (σ : ZHp) (n k w : Nat) : Z (f + 1) 149 L st σ n k w = s_iinc 4 (1) 152 L st σ n k w (zk1 cut G (Z f)) G R T := zrs hZ rfl f L st σ n k w
theorem f_X15_trash_152 (hZ : ZRN (ztb (tb_X15_trash E d mc ms)) cut G R T Z) (f : Nat) (L : ZLV) (st : List Value) (σ : ZHp) (n k w : Nat) : Z (f + 1) 152 L st σ n k w = s_goto 35 L st σ n k w (zk1 cut G (Z f)) G R T := zrs hZ rfl f L st σ n k w
theorem f_X15_trash_155 (hZ : ZRN (ztb (tb_X15_trash E d mc ms)) cut G R T Z) (f : Nat) (L : ZLV) (st : List Value) (σ : ZHp) (n k w : Nat) : Z (f + 1) 155 L st σ n k w = s_aload 0 156 L st σ n k w (zk1 cut G (Z f)) G R T := zrs hZ rfl f L st σ n k w
theorem f_X15_trash_156 (hZ : ZRN (ztb (tb_X15_trash E d mc ms)) cut G R T Z) (f : Nat) (L : ZLV) (st : List Value) (σ : ZHp) (n k w : Nat) : Z (f + 1) 156 L st σ n k w = s_const (.int (2)) 157 L st σ n k w (zk1 cut G (Z f)) G R T := zrs hZ rfl f L st σ n k w
theorem f_X15_trash_157 (hZ : ZRN (ztb (tb_X15_trash E d mc ms)) cut G R T Z) (f : Nat) (L : ZLV) (st : List Value) (σ : ZHp) (n k w : Nat) : Z (f + 1) 157 L st σ n k w = s_callV E d mc ms 14 MX15_no 1 160 L st σ n k w (zk1 cut G (Z f)) G R T := zrs hZ rfl f L st σ n k w
theorem f_X15_trash_160 (hZ : ZRN (ztb (tb_X15_trash E d mc ms)) cut G R T Z) (f : Nat) (L : ZLV) (st : List Value) (σ : ZHp) (n k w : Nat) : Z (f + 1) 160 L st σ n k w = s_ireturn L st σ n k w (zk1 cut G (Z f)) G R T := zrs hZ rfl f L st σ n k w
theorem f_X15_shuffle_0 (hZ : ZRN (ztb (tb_X15_shuffle E d mc ms)) cut G R T Z) (f : Nat) (L : ZLV) (st : List Value) (σ : ZHp) (n k w : Nat) : Z (f + 1) 0 L st σ n k w = s_aload 0 1 L st σ n k w (zk1 cut G (Z f)) G R T := zrs hZ rfl f L st σ n k w
theorem f_X15_shuffle_1 (hZ : ZRN (ztb (tb_X15_shuffle E d mc ms)) cut G R T Z) (f : Nat) (L : ZLV) (st : List Value) (σ : ZHp) (n k w : Nat) : Z (f + 1) 1 L st σ n k w = s_const (.int (0)) 2 L st σ n k w (zk1 cut G (Z f)) G R T := zrs hZ rfl f L st σ n k w
theorem f_X15_shuffle_2 (hZ : ZRN (ztb (tb_X15_shuffle E d mc ms)) cut G R T Z) (f : Nat) (L : ZLV) (st : List Value) (σ : ZHp) (n k w : Nat) : Z (f + 1) 2 L st σ n k w = s_putf 14 0 0 5 L st σ n k w (zk1 cut G (Z f)) G R T := zrs hZ rfl f L st σ n k w
theorem f_X15_shuffle_5 (hZ : ZRN (ztb (tb_X15_shuffle E d mc ms)) cut G R T Z) (f : Nat) (L : ZLV) (st : List Value) (σ : ZHp) (n k w : Nat) : Z (f + 1) 5 L st σ n k w = s_aload 0 6 L st σ n k w (zk1 cut G (Z f)) G R T := zrs hZ rfl f L st σ n k w
theorem f_X15_shuffle_6 (hZ : ZRN (ztb (tb_X15_shuffle E d mc ms)) cut G R T Z) (f : Nat) (L : ZLV) (st : List Value) (σ : ZHp) (n k w : Nat) : Z (f + 1) 6 L st σ n k w = s_iload 1 7 L st σ n k w (zk1 cut G (Z f)) G R T := zrs hZ rfl f L st σ n k w
theorem f_X15_shuffle_7 (hZ : ZRN (ztb (tb_X15_shuffle E d mc ms)) cut G R T Z) (f : Nat) (L : ZLV) (st : List Value) (σ : ZHp) (n k w : Nat) : Z (f + 1) 7 L st σ n k w = s_callV E d mc ms 14 MX15_isMerchant 1 10 L st σ n k w (zk1 cut G (Z f)) G R T := zrs hZ rfl f L st σ n k w
theorem f_X15_shuffle_10 (hZ : ZRN (ztb (tb_X15_shuffle E d mc ms)) cut G R T Z) (f : Nat) (L : ZLV) (st : List Value) (σ : ZHp) (n k w : Nat) : Z (f + 1) 10 L st σ n k w = s_if_ne 19 13 L st σ n k w (zk1 cut G (Z f)) G R T := zrs hZ rfl f L st σ n k w
theorem f_X15_shuffle_13 (hZ : ZRN (ztb (tb_X15_shuffle E d mc ms)) cut G R T Z) (f : Nat) (L : ZLV) (st : List Value) (σ : ZHp) (n k w : Nat) : Z (f + 1) 13 L st σ n k w = s_aload 0 14 L st σ n k w (zk1 cut G (Z f)) G R T := zrs hZ rfl f L st σ n k w
theorem f_X15_shuffle_14 (hZ : ZRN (ztb (tb_X15_shuffle E d mc ms)) cut G R T Z) (f : Nat) (L : ZLV) (st : List Value) (σ : ZHp) (n k w : Nat) : Z (f + 1) 14 L st σ n k w = s_const (.int (1)) 15 L st σ n k w (zk1 cut G (Z f)) G R T := zrs hZ rfl f L st σ n k w
theorem f_X15_shuffle_15 (hZ : ZRN (ztb (tb_X15_shuffle E d mc ms)) cut G R T Z) (f : Nat) (L : ZLV) (st : List Value) (σ : ZHp) (n k w : Nat) : Z (f + 1) 15 L st σ n k w = s_callV E d mc ms 14 MX15_no 1 18 L st σ n k w (zk1 cut G (Z f)) G R T := zrs hZ rfl f L st σ n k w
theorem f_X15_shuffle_18 (hZ : ZRN (ztb (tb_X15_shuffle E d mc ms)) cut G R T Z) (f : Nat) (L : ZLV) (st : List Value) (σ : ZHp) (n k w : Nat) : Z (f + 1) 18 L st σ n k w = s_ireturn L st σ n k w (zk1 cut G (Z f)) G R T := zrs hZ rfl f L st σ n k w
theorem f_X15_shuffle_19 (hZ : ZRN (ztb (tb_X15_shuffle E d mc ms)) cut G R T Z) (f : Nat) (L : ZLV) (st : List Value) (σ : ZHp) (n k w : Nat) : Z (f + 1) 19 L st σ n k w = s_aload 0 20 L st σ n k w (zk1 cut G (Z f)) G R T := zrs hZ rfl f L st σ n k w
theorem f_X15_shuffle_20 (hZ : ZRN (ztb (tb_X15_shuffle E d mc ms)) cut G R T Z) (f : Nat) (L : ZLV) (st : List Value) (σ : ZHp) (n k w : Nat) : Z (f + 1) 20 L st σ n k w = s_getf 14 7 23 L st σ n k w (zk1 cut G (Z f)) G R T := zrs hZ rfl f L st σ n k w
theorem f_X15_shuffle_23 (hZ : ZRN (ztb (tb_X15_shuffle E d mc ms)) cut G R T Z) (f : Nat) (L : ZLV) (st : List Value) (σ : ZHp) (n k w : Nat) : Z (f + 1) 23 L st σ n k w = s_iload 1 24 L st σ n k w (zk1 cut G (Z f)) G R T := zrs hZ rfl f L st σ n k w
theorem f_X15_shuffle_24 (hZ : ZRN (ztb (tb_X15_shuffle E d mc ms)) cut G R T Z) (f : Nat) (L : ZLV) (st : List Value) (σ : ZHp) (n k w : Nat) : Z (f + 1) 24 L st σ n k w = s_callV E d mc ms 13 MX14_shuffle 1 27 L st σ n k w (zk1 cut G (Z f)) G R T := zrs hZ rfl f L st σ n k w
theorem f_X15_shuffle_27 (hZ : ZRN (ztb (tb_X15_shuffle E d mc ms)) cut G R T Z) (f : Nat) (L : ZLV) (st : List Value) (σ : ZHp) (n k w : Nat) : Z (f + 1) 27 L st σ n k w = s_aload 0 28 L st σ n k w (zk1 cut G (Z f)) G R T := zrs hZ rfl f L st σ n k w
theorem f_X15_shuffle_28 (hZ : ZRN (ztb (tb_X15_shuffle E d mc ms)) cut G R T Z) (f : Nat) (L : ZLV) (st : List Value) (σ : ZHp) (n k w : Nat) : Z (f + 1) 28 L st σ n k w = s_getf 14 7 31 L st σ n k w (zk1 cut G (Z f)) G R T := zrs hZ rfl f L st σ n k w
theorem f_X15_shuffle_31 (hZ : ZRN (ztb (tb_X15_shuffle E d mc ms)) cut G R T Z) (f : Nat) (L : ZLV) (st : List Value) (σ : ZHp) (n k w : Nat) : Z (f + 1) 31 L st σ n k w = s_getf 13 7 34 L st σ n k w (zk1 cut G (Z f)) G R T := zrs hZ rfl f L st σ n k w
theorem f_X15_shuffle_34 (hZ : ZRN (ztb (tb_X15_shuffle E d mc ms)) cut G R T Z) (f : Nat) (L : ZLV) (st : List Value) (σ : ZHp) (n k w : Nat) : Z (f + 1) 34 L st σ n k w = s_iload 1 35 L st σ n k w (zk1 cut G (Z f)) G R T := zrs hZ rfl f L st σ n k w
theorem f_X15_shuffle_35 (hZ : ZRN (ztb (tb_X15_shuffle E d mc ms)) cut G R T Z) (f : Nat) (L : ZLV) (st : List Value) (σ : ZHp) (n k w : Nat) : Z (f + 1) 35 L st σ n k w = s_iaload E 36 L st σ n k w (zk1 cut G (Z f)) G R T := zrs hZ rfl f L st σ n k w
theorem f_X15_shuffle_36 (hZ : ZRN (ztb (tb_X15_shuffle E d mc ms)) cut G R T Z) (f : Nat) (L : ZLV) (st : List Value) (σ : ZHp) (n k w : Nat) : Z (f + 1) 36 L st σ n k w = s_ireturn L st σ n k w (zk1 cut G (Z f)) G R T := zrs hZ rfl f L st σ n k w
theorem f_X15_play_0 (hZ : ZRN (ztb (tb_X15_play E d mc ms)) cut G R T Z) (f : Nat) (L : ZLV) (st : List Value) (σ : ZHp) (n k w : Nat) : Z (f + 1) 0 L st σ n k w = s_aload 0 1 L st σ n k w (zk1 cut G (Z f)) G R T := zrs hZ rfl f L st σ n k w
theorem f_X15_play_1 (hZ : ZRN (ztb (tb_X15_play E d mc ms)) cut G R T Z) (f : Nat) (L : ZLV) (st : List Value) (σ : ZHp) (n k w : Nat) : Z (f + 1) 1 L st σ n k w = s_const (.int (0)) 2 L st σ n k w (zk1 cut G (Z f)) G R T := zrs hZ rfl f L st σ n k w
theorem f_X15_play_2 (hZ : ZRN (ztb (tb_X15_play E d mc ms)) cut G R T Z) (f : Nat) (L : ZLV) (st : List Value) (σ : ZHp) (n k w : Nat) : Z (f + 1) 2 L st σ n k w = s_putf 14 0 0 5 L st σ n k w (zk1 cut G (Z f)) G R T := zrs hZ rfl f L st σ n k w
theorem f_X15_play_5 (hZ : ZRN (ztb (tb_X15_play E d mc ms)) cut G R T Z) (f : Nat) (L : ZLV) (st : List Value) (σ : ZHp) (n k w : Nat) : Z (f + 1) 5 L st σ n k w = s_iload 1 6 L st σ n k w (zk1 cut G (Z f)) G R T := zrs hZ rfl f L st σ n k w
theorem f_X15_play_6 (hZ : ZRN (ztb (tb_X15_play E d mc ms)) cut G R T Z) (f : Nat) (L : ZLV) (st : List Value) (σ : ZHp) (n k w : Nat) : Z (f + 1) 6 L st σ n k w = s_const (.int (1)) 7 L st σ n k w (zk1 cut G (Z f)) G R T := zrs hZ rfl f L st σ n k w
theorem f_X15_play_7 (hZ : ZRN (ztb (tb_X15_play E d mc ms)) cut G R T Z) (f : Nat) (L : ZLV) (st : List Value) (σ : ZHp) (n k w : Nat) : Z (f + 1) 7 L st σ n k w = s_const (.int (40)) 9 L st σ n k w (zk1 cut G (Z f)) G R T := zrs hZ rfl f L st σ n k w
theorem f_X15_play_9 (hZ : ZRN (ztb (tb_X15_play E d mc ms)) cut G R T Z) (f : Nat) (L : ZLV) (st : List Value) (σ : ZHp) (n k w : Nat) : Z (f + 1) 9 L st σ n k w = s_callS E d mc ms MX15_isIn 3 12 L st σ n k w (zk1 cut G (Z f)) G R T := zrs hZ rfl f L st σ n k w
theorem f_X15_play_12 (hZ : ZRN (ztb (tb_X15_play E d mc ms)) cut G R T Z) (f : Nat) (L : ZLV) (st : List Value) (σ : ZHp) (n k w : Nat) : Z (f + 1) 12 L st σ n k w = s_if_ne 21 15 L st σ n k w (zk1 cut G (Z f)) G R T := zrs hZ rfl f L st σ n k w
theorem f_X15_play_15 (hZ : ZRN (ztb (tb_X15_play E d mc ms)) cut G R T Z) (f : Nat) (L : ZLV) (st : List Value) (σ : ZHp) (n k w : Nat) : Z (f + 1) 15 L st σ n k w = s_aload 0 16 L st σ n k w (zk1 cut G (Z f)) G R T := zrs hZ rfl f L st σ n k w
theorem f_X15_play_16 (hZ : ZRN (ztb (tb_X15_play E d mc ms)) cut G R T Z) (f : Nat) (L : ZLV) (st : List Value) (σ : ZHp) (n k w : Nat) : Z (f + 1) 16 L st σ n k w = s_const (.int (1)) 17 L st σ n k w (zk1 cut G (Z f)) G R T := zrs hZ rfl f L st σ n k w
theorem f_X15_play_17 (hZ : ZRN (ztb (tb_X15_play E d mc ms)) cut G R T Z) (f : Nat) (L : ZLV) (st : List Value) (σ : ZHp) (n k w : Nat) : Z (f + 1) 17 L st σ n k w = s_callV E d mc ms 14 MX15_no 1 20 L st σ n k w (zk1 cut G (Z f)) G R T := zrs hZ rfl f L st σ n k w
theorem f_X15_play_20 (hZ : ZRN (ztb (tb_X15_play E d mc ms)) cut G R T Z) (f : Nat) (L : ZLV) (st : List Value) (σ : ZHp) (n k w : Nat) : Z (f + 1) 20 L st σ n k w = s_ireturn L st σ n k w (zk1 cut G (Z f)) G R T := zrs hZ rfl f L st σ n k w
theorem f_X15_play_21 (hZ : ZRN (ztb (tb_X15_play E d mc ms)) cut G R T Z) (f : Nat) (L : ZLV) (st : List Value) (σ : ZHp) (n k w : Nat) : Z (f + 1) 21 L st σ n k w = s_aload 0 22 L st σ n k w (zk1 cut G (Z f)) G R T := zrs hZ rfl f L st σ n k w
theorem f_X15_play_22 (hZ : ZRN (ztb (tb_X15_play E d mc ms)) cut G R T Z) (f : Nat) (L : ZLV) (st : List Value) (σ : ZHp) (n k w : Nat) : Z (f + 1) 22 L st σ n k w = s_getf 14 7 25 L st σ n k w (zk1 cut G (Z f)) G R T := zrs hZ rfl f L st σ n k w
theorem f_X15_play_25 (hZ : ZRN (ztb (tb_X15_play E d mc ms)) cut G R T Z) (f : Nat) (L : ZLV) (st : List Value) (σ : ZHp) (n k w : Nat) : Z (f + 1) 25 L st σ n k w = s_getf 13 2 28 L st σ n k w (zk1 cut G (Z f)) G R T := zrs hZ rfl f L st σ n k w
theorem f_X15_play_28 (hZ : ZRN (ztb (tb_X15_play E d mc ms)) cut G R T Z) (f : Nat) (L : ZLV) (st : List Value) (σ : ZHp) (n k w : Nat) : Z (f + 1) 28 L st σ n k w = s_istore 2 29 L st σ n k w (zk1 cut G (Z f)) G R T := zrs hZ rfl f L st σ n k w
theorem f_X15_play_29 (hZ : ZRN (ztb (tb_X15_play E d mc ms)) cut G R T Z) (f : Nat) (L : ZLV) (st : List Value) (σ : ZHp) (n k w : Nat) : Z (f + 1) 29 L st σ n k w = s_aload 0 30 L st σ n k w (zk1 cut G (Z f)) G R T := zrs hZ rfl f L st σ n k w
theorem f_X15_play_30 (hZ : ZRN (ztb (tb_X15_play E d mc ms)) cut G R T Z) (f : Nat) (L : ZLV) (st : List Value) (σ : ZHp) (n k w : Nat) : Z (f + 1) 30 L st σ n k w = s_aload 0 31 L st σ n k w (zk1 cut G (Z f)) G R T := zrs hZ rfl f L st σ n k w
theorem f_X15_play_31 (hZ : ZRN (ztb (tb_X15_play E d mc ms)) cut G R T Z) (f : Nat) (L : ZLV) (st : List Value) (σ : ZHp) (n k w : Nat) : Z (f + 1) 31 L st σ n k w = s_getf 14 7 34 L st σ n k w (zk1 cut G (Z f)) G R T := zrs hZ rfl f L st σ n k w
theorem f_X15_play_34 (hZ : ZRN (ztb (tb_X15_play E d mc ms)) cut G R T Z) (f : Nat) (L : ZLV) (st : List Value) (σ : ZHp) (n k w : Nat) : Z (f + 1) 34 L st σ n k w = s_iload 1 35 L st σ n k w (zk1 cut G (Z f)) G R T := zrs hZ rfl f L st σ n k w
theorem f_X15_play_35 (hZ : ZRN (ztb (tb_X15_play E d mc ms)) cut G R T Z) (f : Nat) (L : ZLV) (st : List Value) (σ : ZHp) (n k w : Nat) : Z (f + 1) 35 L st σ n k w = s_callV E d mc ms 14 MX15_rounds 2 38 L st σ n k w (zk1 cut G (Z f)) G R T := zrs hZ rfl f L st σ n k w
theorem f_X15_play_38 (hZ : ZRN (ztb (tb_X15_play E d mc ms)) cut G R T Z) (f : Nat) (L : ZLV) (st : List Value) (σ : ZHp) (n k w : Nat) : Z (f + 1) 38 L st σ n k w = s_aload 0 39 L st σ n k w (zk1 cut G (Z f)) G R T := zrs hZ rfl f L st σ n k w
theorem f_X15_play_39 (hZ : ZRN (ztb (tb_X15_play E d mc ms)) cut G R T Z) (f : Nat) (L : ZLV) (st : List Value) (σ : ZHp) (n k w : Nat) : Z (f + 1) 39 L st σ n k w = s_getf 14 7 42 L st σ n k w (zk1 cut G (Z f)) G R T := zrs hZ rfl f L st σ n k w
theorem f_X15_play_42 (hZ : ZRN (ztb (tb_X15_play E d mc ms)) cut G R T Z) (f : Nat) (L : ZLV) (st : List Value) (σ : ZHp) (n k w : Nat) : Z (f + 1) 42 L st σ n k w = s_getf 13 2 45 L st σ n k w (zk1 cut G (Z f)) G R T := zrs hZ rfl f L st σ n k w
theorem f_X15_play_45 (hZ : ZRN (ztb (tb_X15_play E d mc ms)) cut G R T Z) (f : Nat) (L : ZLV) (st : List Value) (σ : ZHp) (n k w : Nat) : Z (f + 1) 45 L st σ n k w = s_iload 2 46 L st σ n k w (zk1 cut G (Z f)) G R T := zrs hZ rfl f L st σ n k w
theorem f_X15_play_46 (hZ : ZRN (ztb (tb_X15_play E d mc ms)) cut G R T Z) (f : Nat) (L : ZLV) (st : List Value) (σ : ZHp) (n k w : Nat) : Z (f + 1) 46 L st σ n k w = s_isub 47 L st σ n k w (zk1 cut G (Z f)) G R T := zrs hZ rfl f L st σ n k w
theorem f_X15_play_47 (hZ : ZRN (ztb (tb_X15_play E d mc ms)) cut G R T Z) (f : Nat) (L : ZLV) (st : List Value) (σ : ZHp) (n k w : Nat) : Z (f + 1) 47 L st σ n k w = s_ireturn L st σ n k w (zk1 cut G (Z f)) G R T := zrs hZ rfl f L st σ n k w
theorem f_X15_next_0 (hZ : ZRN (ztb (tb_X15_next E d mc ms)) cut G R T Z) (f : Nat) (L : ZLV) (st : List Value) (σ : ZHp) (n k w : Nat) : Z (f + 1) 0 L st σ n k w = s_aload 0 1 L st σ n k w (zk1 cut G (Z f)) G R T := zrs hZ rfl f L st σ n k w
theorem f_X15_next_1 (hZ : ZRN (ztb (tb_X15_next E d mc ms)) cut G R T Z) (f : Nat) (L : ZLV) (st : List Value) (σ : ZHp) (n k w : Nat) : Z (f + 1) 1 L st σ n k w = s_const (.int (0)) 2 L st σ n k w (zk1 cut G (Z f)) G R T := zrs hZ rfl f L st σ n k w
theorem f_X15_next_2 (hZ : ZRN (ztb (tb_X15_next E d mc ms)) cut G R T Z) (f : Nat) (L : ZLV) (st : List Value) (σ : ZHp) (n k w : Nat) : Z (f + 1) 2 L st σ n k w = s_putf 14 0 0 5 L st σ n k w (zk1 cut G (Z f)) G R T := zrs hZ rfl f L st σ n k w
theorem f_X15_next_5 (hZ : ZRN (ztb (tb_X15_next E d mc ms)) cut G R T Z) (f : Nat) (L : ZLV) (st : List Value) (σ : ZHp) (n k w : Nat) : Z (f + 1) 5 L st σ n k w = s_aload 0 6 L st σ n k w (zk1 cut G (Z f)) G R T := zrs hZ rfl f L st σ n k w
theorem f_X15_next_6 (hZ : ZRN (ztb (tb_X15_next E d mc ms)) cut G R T Z) (f : Nat) (L : ZLV) (st : List Value) (σ : ZHp) (n k w : Nat) : Z (f + 1) 6 L st σ n k w = s_iload 1 7 L st σ n k w (zk1 cut G (Z f)) G R T := zrs hZ rfl f L st σ n k w
theorem f_X15_next_7 (hZ : ZRN (ztb (tb_X15_next E d mc ms)) cut G R T Z) (f : Nat) (L : ZLV) (st : List Value) (σ : ZHp) (n k w : Nat) : Z (f + 1) 7 L st σ n k w = s_callV E d mc ms 14 MX15_isMerchant 1 10 L st σ n k w (zk1 cut G (Z f)) G R T := zrs hZ rfl f L st σ n k w
theorem f_X15_next_10 (hZ : ZRN (ztb (tb_X15_next E d mc ms)) cut G R T Z) (f : Nat) (L : ZLV) (st : List Value) (σ : ZHp) (n k w : Nat) : Z (f + 1) 10 L st σ n k w = s_if_eq 22 13 L st σ n k w (zk1 cut G (Z f)) G R T := zrs hZ rfl f L st σ n k w
theorem f_X15_next_13 (hZ : ZRN (ztb (tb_X15_next E d mc ms)) cut G R T Z) (f : Nat) (L : ZLV) (st : List Value) (σ : ZHp) (n k w : Nat) : Z (f + 1) 13 L st σ n k w = s_iload 2 14 L st σ n k w (zk1 cut G (Z f)) G R T := zrs hZ rfl f L st σ n k w
theorem f_X15_next_14 (hZ : ZRN (ztb (tb_X15_next E d mc ms)) cut G R T Z) (f : Nat) (L : ZLV) (st : List Value) (σ : ZHp) (n k w : Nat) : Z (f + 1) 14 L st σ n k w = s_const (.int (0)) 15 L st σ n k w (zk1 cut G (Z f)) G R T := zrs hZ rfl f L st σ n k w
theorem f_X15_next_15 (hZ : ZRN (ztb (tb_X15_next E d mc ms)) cut G R T Z) (f : Nat) (L : ZLV) (st : List Value) (σ : ZHp) (n k w : Nat) : Z (f + 1) 15 L st σ n k w = s_const (.int (4)) 16 L st σ n k w (zk1 cut G (Z f)) G R T := zrs hZ rfl f L st σ n k w
theorem f_X15_next_16 (hZ : ZRN (ztb (tb_X15_next E d mc ms)) cut G R T Z) (f : Nat) (L : ZLV) (st : List Value) (σ : ZHp) (n k w : Nat) : Z (f + 1) 16 L st σ n k w = s_callS E d mc ms MX15_isIn 3 19 L st σ n k w (zk1 cut G (Z f)) G R T := zrs hZ rfl f L st σ n k w
theorem f_X15_next_19 (hZ : ZRN (ztb (tb_X15_next E d mc ms)) cut G R T Z) (f : Nat) (L : ZLV) (st : List Value) (σ : ZHp) (n k w : Nat) : Z (f + 1) 19 L st σ n k w = s_if_ne 28 22 L st σ n k w (zk1 cut G (Z f)) G R T := zrs hZ rfl f L st σ n k w
theorem f_X15_next_22 (hZ : ZRN (ztb (tb_X15_next E d mc ms)) cut G R T Z) (f : Nat) (L : ZLV) (st : List Value) (σ : ZHp) (n k w : Nat) : Z (f + 1) 22 L st σ n k w = s_aload 0 23 L st σ n k w (zk1 cut G (Z f)) G R T := zrs hZ rfl f L st σ n k w
theorem f_X15_next_23 (hZ : ZRN (ztb (tb_X15_next E d mc ms)) cut G R T Z) (f : Nat) (L : ZLV) (st : List Value) (σ : ZHp) (n k w : Nat) : Z (f + 1) 23 L st σ n k w = s_const (.int (1)) 24 L st σ n k w (zk1 cut G (Z f)) G R T := zrs hZ rfl f L st σ n k w
theorem f_X15_next_24 (hZ : ZRN (ztb (tb_X15_next E d mc ms)) cut G R T Z) (f : Nat) (L : ZLV) (st : List Value) (σ : ZHp) (n k w : Nat) : Z (f + 1) 24 L st σ n k w = s_callV E d mc ms 14 MX15_no 1 27 L st σ n k w (zk1 cut G (Z f)) G R T := zrs hZ rfl f L st σ n k w
theorem f_X15_next_27 (hZ : ZRN (ztb (tb_X15_next E d mc ms)) cut G R T Z) (f : Nat) (L : ZLV) (st : List Value) (σ : ZHp) (n k w : Nat) : Z (f + 1) 27 L st σ n k w = s_ireturn L st σ n k w (zk1 cut G (Z f)) G R T := zrs hZ rfl f L st σ n k w
theorem f_X15_next_28 (hZ : ZRN (ztb (tb_X15_next E d mc ms)) cut G R T Z) (f : Nat) (L : ZLV) (st : List Value) (σ : ZHp) (n k w : Nat) : Z (f + 1) 28 L st σ n k w = s_aload 0 29 L st σ n k w (zk1 cut G (Z f)) G R T := zrs hZ rfl f L st σ n k w
theorem f_X15_next_29 (hZ : ZRN (ztb (tb_X15_next E d mc ms)) cut G R T Z) (f : Nat) (L : ZLV) (st : List Value) (σ : ZHp) (n k w : Nat) : Z (f + 1) 29 L st σ n k w = s_getf 14 8 32 L st σ n k w (zk1 cut G (Z f)) G R T := zrs hZ rfl f L st σ n k w
theorem f_X15_next_32 (hZ : ZRN (ztb (tb_X15_next E d mc ms)) cut G R T Z) (f : Nat) (L : ZLV) (st : List Value) (σ : ZHp) (n k w : Nat) : Z (f + 1) 32 L st σ n k w = s_aload 0 33 L st σ n k w (zk1 cut G (Z f)) G R T := zrs hZ rfl f L st σ n k w
theorem f_X15_next_33 (hZ : ZRN (ztb (tb_X15_next E d mc ms)) cut G R T Z) (f : Nat) (L : ZLV) (st : List Value) (σ : ZHp) (n k w : Nat) : Z (f + 1) 33 L st σ n k w = s_getf 14 7 36 L st σ n k w (zk1 cut G (Z f)) G R T := zrs hZ rfl f L st σ n k w
theorem f_X15_next_36 (hZ : ZRN (ztb (tb_X15_next E d mc ms)) cut G R T Z) (f : Nat) (L : ZLV) (st : List Value) (σ : ZHp) (n k w : Nat) : Z (f + 1) 36 L st σ n k w = s_callV E d mc ms 13 MX14_become 1 39 L st σ n k w (zk1 cut G (Z f)) G R T := zrs hZ rfl f L st σ n k w
theorem f_X15_next_39 (hZ : ZRN (ztb (tb_X15_next E d mc ms)) cut G R T Z) (f : Nat) (L : ZLV) (st : List Value) (σ : ZHp) (n k w : Nat) : Z (f + 1) 39 L st σ n k w = s_aload 0 40 L st σ n k w (zk1 cut G (Z f)) G R T := zrs hZ rfl f L st σ n k w
theorem f_X15_next_40 (hZ : ZRN (ztb (tb_X15_next E d mc ms)) cut G R T Z) (f : Nat) (L : ZLV) (st : List Value) (σ : ZHp) (n k w : Nat) : Z (f + 1) 40 L st σ n k w = s_aload 0 41 L st σ n k w (zk1 cut G (Z f)) G R T := zrs hZ rfl f L st σ n k w
theorem f_X15_next_41 (hZ : ZRN (ztb (tb_X15_next E d mc ms)) cut G R T Z) (f : Nat) (L : ZLV) (st : List Value) (σ : ZHp) (n k w : Nat) : Z (f + 1) 41 L st σ n k w = s_getf 14 8 44 L st σ n k w (zk1 cut G (Z f)) G R T := zrs hZ rfl f L st σ n k w
theorem f_X15_next_44 (hZ : ZRN (ztb (tb_X15_next E d mc ms)) cut G R T Z) (f : Nat) (L : ZLV) (st : List Value) (σ : ZHp) (n k w : Nat) : Z (f + 1) 44 L st σ n k w = s_iload 1 45 L st σ n k w (zk1 cut G (Z f)) G R T := zrs hZ rfl f L st σ n k w
theorem f_X15_next_45 (hZ : ZRN (ztb (tb_X15_next E d mc ms)) cut G R T Z) (f : Nat) (L : ZLV) (st : List Value) (σ : ZHp) (n k w : Nat) : Z (f + 1) 45 L st σ n k w = s_callV E d mc ms 14 MX15_turn 2 48 L st σ n k w (zk1 cut G (Z f)) G R T := zrs hZ rfl f L st σ n k w
theorem f_X15_next_48 (hZ : ZRN (ztb (tb_X15_next E d mc ms)) cut G R T Z) (f : Nat) (L : ZLV) (st : List Value) (σ : ZHp) (n k w : Nat) : Z (f + 1) 48 L st σ n k w = s_iload 2 49 L st σ n k w (zk1 cut G (Z f)) G R T := zrs hZ rfl f L st σ n k w
theorem f_X15_next_49 (hZ : ZRN (ztb (tb_X15_next E d mc ms)) cut G R T Z) (f : Nat) (L : ZLV) (st : List Value) (σ : ZHp) (n k w : Nat) : Z (f + 1) 49 L st σ n k w = s_tsw 0 [80, 85, 90, 95] 100 L st σ n k w (zk1 cut G (Z f)) G R T := zrs hZ rfl f L st σ n k w
theorem f_X15_next_80 (hZ : ZRN (ztb (tb_X15_next E d mc ms)) cut G R T Z) (f : Nat) (L : ZLV) (st : List Value) (σ : ZHp) (n k w : Nat) : Z (f + 1) 80 L st σ n k w = s_aload 0 81 L st σ n k w (zk1 cut G (Z f)) G R T := zrs hZ rfl f L st σ n k w
theorem f_X15_next_81 (hZ : ZRN (ztb (tb_X15_next E d mc ms)) cut G R T Z) (f : Nat) (L : ZLV) (st : List Value) (σ : ZHp) (n k w : Nat) : Z (f + 1) 81 L st σ n k w = s_getf 14 18 84 L st σ n k w (zk1 cut G (Z f)) G R T := zrs hZ rfl f L st σ n k w
theorem f_X15_next_84 (hZ : ZRN (ztb (tb_X15_next E d mc ms)) cut G R T Z) (f : Nat) (L : ZLV) (st : List Value) (σ : ZHp) (n k w : Nat) : Z (f + 1) 84 L st σ n k w = s_ireturn L st σ n k w (zk1 cut G (Z f)) G R T := zrs hZ rfl f L st σ n k w
theorem f_X15_next_85 (hZ : ZRN (ztb (tb_X15_next E d mc ms)) cut G R T Z) (f : Nat) (L : ZLV) (st : List Value) (σ : ZHp) (n k w : Nat) : Z (f + 1) 85 L st σ n k w = s_aload 0 86 L st σ n k w (zk1 cut G (Z f)) G R T := zrs hZ rfl f L st σ n k w
theorem f_X15_next_86 (hZ : ZRN (ztb (tb_X15_next E d mc ms)) cut G R T Z) (f : Nat) (L : ZLV) (st : List Value) (σ : ZHp) (n k w : Nat) : Z (f + 1) 86 L st σ n k w = s_getf 14 19 89 L st σ n k w (zk1 cut G (Z f)) G R T := zrs hZ rfl f L st σ n k w
theorem f_X15_next_89 (hZ : ZRN (ztb (tb_X15_next E d mc ms)) cut G R T Z) (f : Nat) (L : ZLV) (st : List Value) (σ : ZHp) (n k w : Nat) : Z (f + 1) 89 L st σ n k w = s_ireturn L st σ n k w (zk1 cut G (Z f)) G R T := zrs hZ rfl f L st σ n k w
theorem f_X15_next_90 (hZ : ZRN (ztb (tb_X15_next E d mc ms)) cut G R T Z) (f : Nat) (L : ZLV) (st : List Value) (σ : ZHp) (n k w : Nat) : Z (f + 1) 90 L st σ n k w = s_aload 0 91 L st σ n k w (zk1 cut G (Z f)) G R T := zrs hZ rfl f L st σ n k w
theorem f_X15_next_91 (hZ : ZRN (ztb (tb_X15_next E d mc ms)) cut G R T Z) (f : Nat) (L : ZLV) (st : List Value) (σ : ZHp) (n k w : Nat) : Z (f + 1) 91 L st σ n k w = s_getf 14 14 94 L st σ n k w (zk1 cut G (Z f)) G R T := zrs hZ rfl f L st σ n k w
theorem f_X15_next_94 (hZ : ZRN (ztb (tb_X15_next E d mc ms)) cut G R T Z) (f : Nat) (L : ZLV) (st : List Value) (σ : ZHp) (n k w : Nat) : Z (f + 1) 94 L st σ n k w = s_ireturn L st σ n k w (zk1 cut G (Z f)) G R T := zrs hZ rfl f L st σ n k w
theorem f_X15_next_95 (hZ : ZRN (ztb (tb_X15_next E d mc ms)) cut G R T Z) (f : Nat) (L : ZLV) (st : List Value) (σ : ZHp) (n k w : Nat) : Z (f + 1) 95 L st σ n k w = s_aload 0 96 L st σ n k w (zk1 cut G (Z f)) G R T := zrs hZ rfl f L st σ n k w
theorem f_X15_next_96 (hZ : ZRN (ztb (tb_X15_next E d mc ms)) cut G R T Z) (f : Nat) (L : ZLV) (st : List Value) (σ : ZHp) (n k w : Nat) : Z (f + 1) 96 L st σ n k w = s_getf 14 20 99 L st σ n k w (zk1 cut G (Z f)) G R T := zrs hZ rfl f L st σ n k w
theorem f_X15_next_99 (hZ : ZRN (ztb (tb_X15_next E d mc ms)) cut G R T Z) (f : Nat) (L : ZLV) (st : List Value) (σ : ZHp) (n k w : Nat) : Z (f + 1) 99 L st σ n k w = s_ireturn L st σ n k w (zk1 cut G (Z f)) G R T := zrs hZ rfl f L st σ n k w
theorem f_X15_next_100 (hZ : ZRN (ztb (tb_X15_next E d mc ms)) cut G R T Z) (f : Nat) (L : ZLV) (st : List Value) (σ : ZHp) (n k w : Nat) : Z (f + 1) 100 L st σ n k w = s_aload 0 101 L st σ n k w (zk1 cut G (Z f)) G R T := zrs hZ rfl f L st σ n k w
theorem f_X15_next_101 (hZ : ZRN (ztb (tb_X15_next E d mc ms)) cut G R T Z) (f : Nat) (L : ZLV) (st : List Value) (σ : ZHp) (n k w : Nat) : Z (f + 1) 101 L st σ n k w = s_getf 14 21 104 L st σ n k w (zk1 cut G (Z f)) G R T := zrs hZ rfl f L st σ n k w
theorem f_X15_next_104 (hZ : ZRN (ztb (tb_X15_next E d mc ms)) cut G R T Z) (f : Nat) (L : ZLV) (st : List Value) (σ : ZHp) (n k w : Nat) : Z (f + 1) 104 L st σ n k w = s_ireturn L st σ n k w (zk1 cut G (Z f)) G R T := zrs hZ rfl f L st σ n k w
theorem f_X15_foresee_0 (hZ : ZRN (ztb (tb_X15_foresee E d mc ms)) cut G R T Z) (f : Nat) (L : ZLV) (st : List Value) (σ : ZHp) (n k w : Nat) : Z (f + 1) 0 L st σ n k w = s_aload 0 1 L st σ n k w (zk1 cut G (Z f)) G R T := zrs hZ rfl f L st σ n k w
theorem f_X15_foresee_1 (hZ : ZRN (ztb (tb_X15_foresee E d mc ms)) cut G R T Z) (f : Nat) (L : ZLV) (st : List Value) (σ : ZHp) (n k w : Nat) : Z (f + 1) 1 L st σ n k w = s_const (.int (0)) 2 L st σ n k w (zk1 cut G (Z f)) G R T := zrs hZ rfl f L st σ n k w
theorem f_X15_foresee_2 (hZ : ZRN (ztb (tb_X15_foresee E d mc ms)) cut G R T Z) (f : Nat) (L : ZLV) (st : List Value) (σ : ZHp) (n k w : Nat) : Z (f + 1) 2 L st σ n k w = s_putf 14 0 0 5 L st σ n k w (zk1 cut G (Z f)) G R T := zrs hZ rfl f L st σ n k w
theorem f_X15_foresee_5 (hZ : ZRN (ztb (tb_X15_foresee E d mc ms)) cut G R T Z) (f : Nat) (L : ZLV) (st : List Value) (σ : ZHp) (n k w : Nat) : Z (f + 1) 5 L st σ n k w = s_iload 1 6 L st σ n k w (zk1 cut G (Z f)) G R T := zrs hZ rfl f L st σ n k w
theorem f_X15_foresee_6 (hZ : ZRN (ztb (tb_X15_foresee E d mc ms)) cut G R T Z) (f : Nat) (L : ZLV) (st : List Value) (σ : ZHp) (n k w : Nat) : Z (f + 1) 6 L st σ n k w = s_const (.int (1)) 7 L st σ n k w (zk1 cut G (Z f)) G R T := zrs hZ rfl f L st σ n k w
theorem f_X15_foresee_7 (hZ : ZRN (ztb (tb_X15_foresee E d mc ms)) cut G R T Z) (f : Nat) (L : ZLV) (st : List Value) (σ : ZHp) (n k w : Nat) : Z (f + 1) 7 L st σ n k w = s_const (.int (40)) 9 L st σ n k w (zk1 cut G (Z f)) G R T := zrs hZ rfl f L st σ n k w
theorem f_X15_foresee_9 (hZ : ZRN (ztb (tb_X15_foresee E d mc ms)) cut G R T Z) (f : Nat) (L : ZLV) (st : List Value) (σ : ZHp) (n k w : Nat) : Z (f + 1) 9 L st σ n k w = s_callS E d mc ms MX15_isIn 3 12 L st σ n k w (zk1 cut G (Z f)) G R T := zrs hZ rfl f L st σ n k w
theorem f_X15_foresee_12 (hZ : ZRN (ztb (tb_X15_foresee E d mc ms)) cut G R T Z) (f : Nat) (L : ZLV) (st : List Value) (σ : ZHp) (n k w : Nat) : Z (f + 1) 12 L st σ n k w = s_if_ne 21 15 L st σ n k w (zk1 cut G (Z f)) G R T := zrs hZ rfl f L st σ n k w
theorem f_X15_foresee_15 (hZ : ZRN (ztb (tb_X15_foresee E d mc ms)) cut G R T Z) (f : Nat) (L : ZLV) (st : List Value) (σ : ZHp) (n k w : Nat) : Z (f + 1) 15 L st σ n k w = s_aload 0 16 L st σ n k w (zk1 cut G (Z f)) G R T := zrs hZ rfl f L st σ n k w
theorem f_X15_foresee_16 (hZ : ZRN (ztb (tb_X15_foresee E d mc ms)) cut G R T Z) (f : Nat) (L : ZLV) (st : List Value) (σ : ZHp) (n k w : Nat) : Z (f + 1) 16 L st σ n k w = s_const (.int (1)) 17 L st σ n k w (zk1 cut G (Z f)) G R T := zrs hZ rfl f L st σ n k w
theorem f_X15_foresee_17 (hZ : ZRN (ztb (tb_X15_foresee E d mc ms)) cut G R T Z) (f : Nat) (L : ZLV) (st : List Value) (σ : ZHp) (n k w : Nat) : Z (f + 1) 17 L st σ n k w = s_callV E d mc ms 14 MX15_no 1 20 L st σ n k w (zk1 cut G (Z f)) G R T := zrs hZ rfl f L st σ n k w
theorem f_X15_foresee_20 (hZ : ZRN (ztb (tb_X15_foresee E d mc ms)) cut G R T Z) (f : Nat) (L : ZLV) (st : List Value) (σ : ZHp) (n k w : Nat) : Z (f + 1) 20 L st σ n k w = s_ireturn L st σ n k w (zk1 cut G (Z f)) G R T := zrs hZ rfl f L st σ n k w
theorem f_X15_foresee_21 (hZ : ZRN (ztb (tb_X15_foresee E d mc ms)) cut G R T Z) (f : Nat) (L : ZLV) (st : List Value) (σ : ZHp) (n k w : Nat) : Z (f + 1) 21 L st σ n k w = s_iload 2 22 L st σ n k w (zk1 cut G (Z f)) G R T := zrs hZ rfl f L st σ n k w
theorem f_X15_foresee_22 (hZ : ZRN (ztb (tb_X15_foresee E d mc ms)) cut G R T Z) (f : Nat) (L : ZLV) (st : List Value) (σ : ZHp) (n k w : Nat) : Z (f + 1) 22 L st σ n k w = s_if_eq 41 25 L st σ n k w (zk1 cut G (Z f)) G R T := zrs hZ rfl f L st σ n k w
theorem f_X15_foresee_25 (hZ : ZRN (ztb (tb_X15_foresee E d mc ms)) cut G R T Z) (f : Nat) (L : ZLV) (st : List Value) (σ : ZHp) (n k w : Nat) : Z (f + 1) 25 L st σ n k w = s_iload 2 26 L st σ n k w (zk1 cut G (Z f)) G R T := zrs hZ rfl f L st σ n k w
theorem f_X15_foresee_26 (hZ : ZRN (ztb (tb_X15_foresee E d mc ms)) cut G R T Z) (f : Nat) (L : ZLV) (st : List Value) (σ : ZHp) (n k w : Nat) : Z (f + 1) 26 L st σ n k w = s_const (.int (4)) 27 L st σ n k w (zk1 cut G (Z f)) G R T := zrs hZ rfl f L st σ n k w
theorem f_X15_foresee_27 (hZ : ZRN (ztb (tb_X15_foresee E d mc ms)) cut G R T Z) (f : Nat) (L : ZLV) (st : List Value) (σ : ZHp) (n k w : Nat) : Z (f + 1) 27 L st σ n k w = s_const (.int (7)) 29 L st σ n k w (zk1 cut G (Z f)) G R T := zrs hZ rfl f L st σ n k w
theorem f_X15_foresee_29 (hZ : ZRN (ztb (tb_X15_foresee E d mc ms)) cut G R T Z) (f : Nat) (L : ZLV) (st : List Value) (σ : ZHp) (n k w : Nat) : Z (f + 1) 29 L st σ n k w = s_callS E d mc ms MX15_isIn 3 32 L st σ n k w (zk1 cut G (Z f)) G R T := zrs hZ rfl f L st σ n k w
theorem f_X15_foresee_32 (hZ : ZRN (ztb (tb_X15_foresee E d mc ms)) cut G R T Z) (f : Nat) (L : ZLV) (st : List Value) (σ : ZHp) (n k w : Nat) : Z (f + 1) 32 L st σ n k w = s_if_ne 41 35 L st σ n k w (zk1 cut G (Z f)) G R T := zrs hZ rfl f L st σ n k w
theorem f_X15_foresee_35 (hZ : ZRN (ztb (tb_X15_foresee E d mc ms)) cut G R T Z) (f : Nat) (L : ZLV) (st : List Value) (σ : ZHp) (n k w : Nat) : Z (f + 1) 35 L st σ n k w = s_aload 0 36 L st σ n k w (zk1 cut G (Z f)) G R T := zrs hZ rfl f L st σ n k w
theorem f_X15_foresee_36 (hZ : ZRN (ztb (tb_X15_foresee E d mc ms)) cut G R T Z) (f : Nat) (L : ZLV) (st : List Value) (σ : ZHp) (n k w : Nat) : Z (f + 1) 36 L st σ n k w = s_const (.int (2)) 37 L st σ n k w (zk1 cut G (Z f)) G R T := zrs hZ rfl f L st σ n k w
theorem f_X15_foresee_37 (hZ : ZRN (ztb (tb_X15_foresee E d mc ms)) cut G R T Z) (f : Nat) (L : ZLV) (st : List Value) (σ : ZHp) (n k w : Nat) : Z (f + 1) 37 L st σ n k w = s_callV E d mc ms 14 MX15_no 1 40 L st σ n k w (zk1 cut G (Z f)) G R T := zrs hZ rfl f L st σ n k w
theorem f_X15_foresee_40 (hZ : ZRN (ztb (tb_X15_foresee E d mc ms)) cut G R T Z) (f : Nat) (L : ZLV) (st : List Value) (σ : ZHp) (n k w : Nat) : Z (f + 1) 40 L st σ n k w = s_ireturn L st σ n k w (zk1 cut G (Z f)) G R T := zrs hZ rfl f L st σ n k w
theorem f_X15_foresee_41 (hZ : ZRN (ztb (tb_X15_foresee E d mc ms)) cut G R T Z) (f : Nat) (L : ZLV) (st : List Value) (σ : ZHp) (n k w : Nat) : Z (f + 1) 41 L st σ n k w = s_aload 0 42 L st σ n k w (zk1 cut G (Z f)) G R T := zrs hZ rfl f L st σ n k w
theorem f_X15_foresee_42 (hZ : ZRN (ztb (tb_X15_foresee E d mc ms)) cut G R T Z) (f : Nat) (L : ZLV) (st : List Value) (σ : ZHp) (n k w : Nat) : Z (f + 1) 42 L st σ n k w = s_getf 14 8 45 L st σ n k w (zk1 cut G (Z f)) G R T := zrs hZ rfl f L st σ n k w
theorem f_X15_foresee_45 (hZ : ZRN (ztb (tb_X15_foresee E d mc ms)) cut G R T Z) (f : Nat) (L : ZLV) (st : List Value) (σ : ZHp) (n k w : Nat) : Z (f + 1) 45 L st σ n k w = s_aload 0 46 L st σ n k w (zk1 cut G (Z f)) G R T := zrs hZ rfl f L st σ n k w
theorem f_X15_foresee_46 (hZ : ZRN (ztb (tb_X15_foresee E d mc ms)) cut G R T Z) (f : Nat) (L : ZLV) (st : List Value) (σ : ZHp) (n k w : Nat) : Z (f + 1) 46 L st σ n k w = s_getf 14 7 49 L st σ n k w (zk1 cut G (Z f)) G R T := zrs hZ rfl f L st σ n k w
theorem f_X15_foresee_49 (hZ : ZRN (ztb (tb_X15_foresee E d mc ms)) cut G R T Z) (f : Nat) (L : ZLV) (st : List Value) (σ : ZHp) (n k w : Nat) : Z (f + 1) 49 L st σ n k w = s_callV E d mc ms 13 MX14_become 1 52 L st σ n k w (zk1 cut G (Z f)) G R T := zrs hZ rfl f L st σ n k w
theorem f_X15_foresee_52 (hZ : ZRN (ztb (tb_X15_foresee E d mc ms)) cut G R T Z) (f : Nat) (L : ZLV) (st : List Value) (σ : ZHp) (n k w : Nat) : Z (f + 1) 52 L st σ n k w = s_aload 0 53 L st σ n k w (zk1 cut G (Z f)) G R T := zrs hZ rfl f L st σ n k w
theorem f_X15_foresee_53 (hZ : ZRN (ztb (tb_X15_foresee E d mc ms)) cut G R T Z) (f : Nat) (L : ZLV) (st : List Value) (σ : ZHp) (n k w : Nat) : Z (f + 1) 53 L st σ n k w = s_aload 0 54 L st σ n k w (zk1 cut G (Z f)) G R T := zrs hZ rfl f L st σ n k w
theorem f_X15_foresee_54 (hZ : ZRN (ztb (tb_X15_foresee E d mc ms)) cut G R T Z) (f : Nat) (L : ZLV) (st : List Value) (σ : ZHp) (n k w : Nat) : Z (f + 1) 54 L st σ n k w = s_getf 14 8 57 L st σ n k w (zk1 cut G (Z f)) G R T := zrs hZ rfl f L st σ n k w
theorem f_X15_foresee_57 (hZ : ZRN (ztb (tb_X15_foresee E d mc ms)) cut G R T Z) (f : Nat) (L : ZLV) (st : List Value) (σ : ZHp) (n k w : Nat) : Z (f + 1) 57 L st σ n k w = s_iload 1 58 L st σ n k w (zk1 cut G (Z f)) G R T := zrs hZ rfl f L st σ n k w
theorem f_X15_foresee_58 (hZ : ZRN (ztb (tb_X15_foresee E d mc ms)) cut G R T Z) (f : Nat) (L : ZLV) (st : List Value) (σ : ZHp) (n k w : Nat) : Z (f + 1) 58 L st σ n k w = s_callV E d mc ms 14 MX15_rounds 2 61 L st σ n k w (zk1 cut G (Z f)) G R T := zrs hZ rfl f L st σ n k w
theorem f_X15_foresee_61 (hZ : ZRN (ztb (tb_X15_foresee E d mc ms)) cut G R T Z) (f : Nat) (L : ZLV) (st : List Value) (σ : ZHp) (n k w : Nat) : Z (f + 1) 61 L st σ n k w = s_iload 2 62 L st σ n k w (zk1 cut G (Z f)) G R T := zrs hZ rfl f L st σ n k w
theorem f_X15_foresee_62 (hZ : ZRN (ztb (tb_X15_foresee E d mc ms)) cut G R T Z) (f : Nat) (L : ZLV) (st : List Value) (σ : ZHp) (n k w : Nat) : Z (f + 1) 62 L st σ n k w = s_if_ne 76 65 L st σ n k w (zk1 cut G (Z f)) G R T := zrs hZ rfl f L st σ n k w
theorem f_X15_foresee_65 (hZ : ZRN (ztb (tb_X15_foresee E d mc ms)) cut G R T Z) (f : Nat) (L : ZLV) (st : List Value) (σ : ZHp) (n k w : Nat) : Z (f + 1) 65 L st σ n k w = s_aload 0 66 L st σ n k w (zk1 cut G (Z f)) G R T := zrs hZ rfl f L st σ n k w
theorem f_X15_foresee_66 (hZ : ZRN (ztb (tb_X15_foresee E d mc ms)) cut G R T Z) (f : Nat) (L : ZLV) (st : List Value) (σ : ZHp) (n k w : Nat) : Z (f + 1) 66 L st σ n k w = s_aload 0 67 L st σ n k w (zk1 cut G (Z f)) G R T := zrs hZ rfl f L st σ n k w
theorem f_X15_foresee_67 (hZ : ZRN (ztb (tb_X15_foresee E d mc ms)) cut G R T Z) (f : Nat) (L : ZLV) (st : List Value) (σ : ZHp) (n k w : Nat) : Z (f + 1) 67 L st σ n k w = s_getf 14 8 70 L st σ n k w (zk1 cut G (Z f)) G R T := zrs hZ rfl f L st σ n k w
theorem f_X15_foresee_70 (hZ : ZRN (ztb (tb_X15_foresee E d mc ms)) cut G R T Z) (f : Nat) (L : ZLV) (st : List Value) (σ : ZHp) (n k w : Nat) : Z (f + 1) 70 L st σ n k w = s_callV E d mc ms 14 MX15_leaderOf 1 73 L st σ n k w (zk1 cut G (Z f)) G R T := zrs hZ rfl f L st σ n k w
theorem f_X15_foresee_73 (hZ : ZRN (ztb (tb_X15_foresee E d mc ms)) cut G R T Z) (f : Nat) (L : ZLV) (st : List Value) (σ : ZHp) (n k w : Nat) : Z (f + 1) 73 L st σ n k w = s_goto 85 L st σ n k w (zk1 cut G (Z f)) G R T := zrs hZ rfl f L st σ n k w
theorem f_X15_foresee_76 (hZ : ZRN (ztb (tb_X15_foresee E d mc ms)) cut G R T Z) (f : Nat) (L : ZLV) (st : List Value) (σ : ZHp) (n k w : Nat) : Z (f + 1) 76 L st σ n k w = s_aload 0 77 L st σ n k w (zk1 cut G (Z f)) G R T := zrs hZ rfl f L st σ n k w
theorem f_X15_foresee_77 (hZ : ZRN (ztb (tb_X15_foresee E d mc ms)) cut G R T Z) (f : Nat) (L : ZLV) (st : List Value) (σ : ZHp) (n k w : Nat) : Z (f + 1) 77 L st σ n k w = s_aload 0 78 L st σ n k w (zk1 cut G (Z f)) G R T := zrs hZ rfl f L st σ n k w
theorem f_X15_foresee_78 (hZ : ZRN (ztb (tb_X15_foresee E d mc ms)) cut G R T Z) (f : Nat) (L : ZLV) (st : List Value) (σ : ZHp) (n k w : Nat) : Z (f + 1) 78 L st σ n k w = s_getf 14 8 81 L st σ n k w (zk1 cut G (Z f)) G R T := zrs hZ rfl f L st σ n k w
theorem f_X15_foresee_81 (hZ : ZRN (ztb (tb_X15_foresee E d mc ms)) cut G R T Z) (f : Nat) (L : ZLV) (st : List Value) (σ : ZHp) (n k w : Nat) : Z (f + 1) 81 L st σ n k w = s_iload 2 82 L st σ n k w (zk1 cut G (Z f)) G R T := zrs hZ rfl f L st σ n k w
theorem f_X15_foresee_82 (hZ : ZRN (ztb (tb_X15_foresee E d mc ms)) cut G R T Z) (f : Nat) (L : ZLV) (st : List Value) (σ : ZHp) (n k w : Nat) : Z (f + 1) 82 L st σ n k w = s_callV E d mc ms 14 MX15_counted 2 85 L st σ n k w (zk1 cut G (Z f)) G R T := zrs hZ rfl f L st σ n k w
theorem f_X15_foresee_85 (hZ : ZRN (ztb (tb_X15_foresee E d mc ms)) cut G R T Z) (f : Nat) (L : ZLV) (st : List Value) (σ : ZHp) (n k w : Nat) : Z (f + 1) 85 L st σ n k w = s_ireturn L st σ n k w (zk1 cut G (Z f)) G R T := zrs hZ rfl f L st σ n k w
theorem f_X15_missed_0 (hZ : ZRN (ztb (tb_X15_missed E d mc ms)) cut G R T Z) (f : Nat) (L : ZLV) (st : List Value) (σ : ZHp) (n k w : Nat) : Z (f + 1) 0 L st σ n k w = s_aload 0 1 L st σ n k w (zk1 cut G (Z f)) G R T := zrs hZ rfl f L st σ n k w
theorem f_X15_missed_1 (hZ : ZRN (ztb (tb_X15_missed E d mc ms)) cut G R T Z) (f : Nat) (L : ZLV) (st : List Value) (σ : ZHp) (n k w : Nat) : Z (f + 1) 1 L st σ n k w = s_const (.int (0)) 2 L st σ n k w (zk1 cut G (Z f)) G R T := zrs hZ rfl f L st σ n k w
theorem f_X15_missed_2 (hZ : ZRN (ztb (tb_X15_missed E d mc ms)) cut G R T Z) (f : Nat) (L : ZLV) (st : List Value) (σ : ZHp) (n k w : Nat) : Z (f + 1) 2 L st σ n k w = s_putf 14 0 0 5 L st σ n k w (zk1 cut G (Z f)) G R T := zrs hZ rfl f L st σ n k w
theorem f_X15_missed_5 (hZ : ZRN (ztb (tb_X15_missed E d mc ms)) cut G R T Z) (f : Nat) (L : ZLV) (st : List Value) (σ : ZHp) (n k w : Nat) : Z (f + 1) 5 L st σ n k w = s_aload 0 6 L st σ n k w (zk1 cut G (Z f)) G R T := zrs hZ rfl f L st σ n k w
theorem f_X15_missed_6 (hZ : ZRN (ztb (tb_X15_missed E d mc ms)) cut G R T Z) (f : Nat) (L : ZLV) (st : List Value) (σ : ZHp) (n k w : Nat) : Z (f + 1) 6 L st σ n k w = s_iload 1 7 L st σ n k w (zk1 cut G (Z f)) G R T := zrs hZ rfl f L st σ n k w
theorem f_X15_missed_7 (hZ : ZRN (ztb (tb_X15_missed E d mc ms)) cut G R T Z) (f : Nat) (L : ZLV) (st : List Value) (σ : ZHp) (n k w : Nat) : Z (f + 1) 7 L st σ n k w = s_callV E d mc ms 14 MX15_isMerchant 1 10 L st σ n k w (zk1 cut G (Z f)) G R T := zrs hZ rfl f L st σ n k w
theorem f_X15_missed_10 (hZ : ZRN (ztb (tb_X15_missed E d mc ms)) cut G R T Z) (f : Nat) (L : ZLV) (st : List Value) (σ : ZHp) (n k w : Nat) : Z (f + 1) 10 L st σ n k w = s_if_ne 19 13 L st σ n k w (zk1 cut G (Z f)) G R T := zrs hZ rfl f L st σ n k w
theorem f_X15_missed_13 (hZ : ZRN (ztb (tb_X15_missed E d mc ms)) cut G R T Z) (f : Nat) (L : ZLV) (st : List Value) (σ : ZHp) (n k w : Nat) : Z (f + 1) 13 L st σ n k w = s_aload 0 14 L st σ n k w (zk1 cut G (Z f)) G R T := zrs hZ rfl f L st σ n k w
theorem f_X15_missed_14 (hZ : ZRN (ztb (tb_X15_missed E d mc ms)) cut G R T Z) (f : Nat) (L : ZLV) (st : List Value) (σ : ZHp) (n k w : Nat) : Z (f + 1) 14 L st σ n k w = s_const (.int (1)) 15 L st σ n k w (zk1 cut G (Z f)) G R T := zrs hZ rfl f L st σ n k w
theorem f_X15_missed_15 (hZ : ZRN (ztb (tb_X15_missed E d mc ms)) cut G R T Z) (f : Nat) (L : ZLV) (st : List Value) (σ : ZHp) (n k w : Nat) : Z (f + 1) 15 L st σ n k w = s_callV E d mc ms 14 MX15_no 1 18 L st σ n k w (zk1 cut G (Z f)) G R T := zrs hZ rfl f L st σ n k w
theorem f_X15_missed_18 (hZ : ZRN (ztb (tb_X15_missed E d mc ms)) cut G R T Z) (f : Nat) (L : ZLV) (st : List Value) (σ : ZHp) (n k w : Nat) : Z (f + 1) 18 L st σ n k w = s_ireturn L st σ n k w (zk1 cut G (Z f)) G R T := zrs hZ rfl f L st σ n k w
theorem f_X15_missed_19 (hZ : ZRN (ztb (tb_X15_missed E d mc ms)) cut G R T Z) (f : Nat) (L : ZLV) (st : List Value) (σ : ZHp) (n k w : Nat) : Z (f + 1) 19 L st σ n k w = s_iload 2 20 L st σ n k w (zk1 cut G (Z f)) G R T := zrs hZ rfl f L st σ n k w
theorem f_X15_missed_20 (hZ : ZRN (ztb (tb_X15_missed E d mc ms)) cut G R T Z) (f : Nat) (L : ZLV) (st : List Value) (σ : ZHp) (n k w : Nat) : Z (f + 1) 20 L st σ n k w = s_const (.int (1)) 21 L st σ n k w (zk1 cut G (Z f)) G R T := zrs hZ rfl f L st σ n k w
theorem f_X15_missed_21 (hZ : ZRN (ztb (tb_X15_missed E d mc ms)) cut G R T Z) (f : Nat) (L : ZLV) (st : List Value) (σ : ZHp) (n k w : Nat) : Z (f + 1) 21 L st σ n k w = s_const (.int (20)) 23 L st σ n k w (zk1 cut G (Z f)) G R T := zrs hZ rfl f L st σ n k w
theorem f_X15_missed_23 (hZ : ZRN (ztb (tb_X15_missed E d mc ms)) cut G R T Z) (f : Nat) (L : ZLV) (st : List Value) (σ : ZHp) (n k w : Nat) : Z (f + 1) 23 L st σ n k w = s_callS E d mc ms MX15_isIn 3 26 L st σ n k w (zk1 cut G (Z f)) G R T := zrs hZ rfl f L st σ n k w
theorem f_X15_missed_26 (hZ : ZRN (ztb (tb_X15_missed E d mc ms)) cut G R T Z) (f : Nat) (L : ZLV) (st : List Value) (σ : ZHp) (n k w : Nat) : Z (f + 1) 26 L st σ n k w = s_if_ne 35 29 L st σ n k w (zk1 cut G (Z f)) G R T := zrs hZ rfl f L st σ n k w
theorem f_X15_missed_29 (hZ : ZRN (ztb (tb_X15_missed E d mc ms)) cut G R T Z) (f : Nat) (L : ZLV) (st : List Value) (σ : ZHp) (n k w : Nat) : Z (f + 1) 29 L st σ n k w = s_aload 0 30 L st σ n k w (zk1 cut G (Z f)) G R T := zrs hZ rfl f L st σ n k w
theorem f_X15_missed_30 (hZ : ZRN (ztb (tb_X15_missed E d mc ms)) cut G R T Z) (f : Nat) (L : ZLV) (st : List Value) (σ : ZHp) (n k w : Nat) : Z (f + 1) 30 L st σ n k w = s_const (.int (2)) 31 L st σ n k w (zk1 cut G (Z f)) G R T := zrs hZ rfl f L st σ n k w
theorem f_X15_missed_31 (hZ : ZRN (ztb (tb_X15_missed E d mc ms)) cut G R T Z) (f : Nat) (L : ZLV) (st : List Value) (σ : ZHp) (n k w : Nat) : Z (f + 1) 31 L st σ n k w = s_callV E d mc ms 14 MX15_no 1 34 L st σ n k w (zk1 cut G (Z f)) G R T := zrs hZ rfl f L st σ n k w
theorem f_X15_missed_34 (hZ : ZRN (ztb (tb_X15_missed E d mc ms)) cut G R T Z) (f : Nat) (L : ZLV) (st : List Value) (σ : ZHp) (n k w : Nat) : Z (f + 1) 34 L st σ n k w = s_ireturn L st σ n k w (zk1 cut G (Z f)) G R T := zrs hZ rfl f L st σ n k w
theorem f_X15_missed_35 (hZ : ZRN (ztb (tb_X15_missed E d mc ms)) cut G R T Z) (f : Nat) (L : ZLV) (st : List Value) (σ : ZHp) (n k w : Nat) : Z (f + 1) 35 L st σ n k w = s_const (.int (-1)) 36 L st σ n k w (zk1 cut G (Z f)) G R T := zrs hZ rfl f L st σ n k w
theorem f_X15_missed_36 (hZ : ZRN (ztb (tb_X15_missed E d mc ms)) cut G R T Z) (f : Nat) (L : ZLV) (st : List Value) (σ : ZHp) (n k w : Nat) : Z (f + 1) 36 L st σ n k w = s_istore 3 37 L st σ n k w (zk1 cut G (Z f)) G R T := zrs hZ rfl f L st σ n k w
theorem f_X15_missed_37 (hZ : ZRN (ztb (tb_X15_missed E d mc ms)) cut G R T Z) (f : Nat) (L : ZLV) (st : List Value) (σ : ZHp) (n k w : Nat) : Z (f + 1) 37 L st σ n k w = s_const (.int (0)) 38 L st σ n k w (zk1 cut G (Z f)) G R T := zrs hZ rfl f L st σ n k w
theorem f_X15_missed_38 (hZ : ZRN (ztb (tb_X15_missed E d mc ms)) cut G R T Z) (f : Nat) (L : ZLV) (st : List Value) (σ : ZHp) (n k w : Nat) : Z (f + 1) 38 L st σ n k w = s_istore 4 40 L st σ n k w (zk1 cut G (Z f)) G R T := zrs hZ rfl f L st σ n k w
theorem f_X15_missed_40 (hZ : ZRN (ztb (tb_X15_missed E d mc ms)) cut G R T Z) (f : Nat) (L : ZLV) (st : List Value) (σ : ZHp) (n k w : Nat) : Z (f + 1) 40 L st σ n k w = s_const (.int (0)) 41 L st σ n k w (zk1 cut G (Z f)) G R T := zrs hZ rfl f L st σ n k w
theorem f_X15_missed_41 (hZ : ZRN (ztb (tb_X15_missed E d mc ms)) cut G R T Z) (f : Nat) (L : ZLV) (st : List Value) (σ : ZHp) (n k w : Nat) : Z (f + 1) 41 L st σ n k w = s_istore 5 43 L st σ n k w (zk1 cut G (Z f)) G R T := zrs hZ rfl f L st σ n k w
theorem f_X15_missed_43 (hZ : ZRN (ztb (tb_X15_missed E d mc ms)) cut G R T Z) (f : Nat) (L : ZLV) (st : List Value) (σ : ZHp) (n k w : Nat) : Z (f + 1) 43 L st σ n k w = s_iload 5 45 L st σ n k w (zk1 cut G (Z f)) G R T := zrs hZ rfl f L st σ n k w
theorem f_X15_missed_45 (hZ : ZRN (ztb (tb_X15_missed E d mc ms)) cut G R T Z) (f : Nat) (L : ZLV) (st : List Value) (σ : ZHp) (n k w : Nat) : Z (f + 1) 45 L st σ n k w = s_aload 0 46 L st σ n k w (zk1 cut G (Z f)) G R T := zrs hZ rfl f L st σ n k w
theorem f_X15_missed_46 (hZ : ZRN (ztb (tb_X15_missed E d mc ms)) cut G R T Z) (f : Nat) (L : ZLV) (st : List Value) (σ : ZHp) (n k w : Nat) : Z (f + 1) 46 L st σ n k w = s_getf 14 6 49 L st σ n k w (zk1 cut G (Z f)) G R T := zrs hZ rfl f L st σ n k w
theorem f_X15_missed_49 (hZ : ZRN (ztb (tb_X15_missed E d mc ms)) cut G R T Z) (f : Nat) (L : ZLV) (st : List Value) (σ : ZHp) (n k w : Nat) : Z (f + 1) 49 L st σ n k w = s_getf 12 16 52 L st σ n k w (zk1 cut G (Z f)) G R T := zrs hZ rfl f L st σ n k w
theorem f_X15_missed_52 (hZ : ZRN (ztb (tb_X15_missed E d mc ms)) cut G R T Z) (f : Nat) (L : ZLV) (st : List Value) (σ : ZHp) (n k w : Nat) : Z (f + 1) 52 L st σ n k w = s_icmp_ge 142 55 L st σ n k w (zk1 cut G (Z f)) G R T := zrs hZ rfl f L st σ n k w
theorem f_X15_missed_55 (hZ : ZRN (ztb (tb_X15_missed E d mc ms)) cut G R T Z) (f : Nat) (L : ZLV) (st : List Value) (σ : ZHp) (n k w : Nat) : Z (f + 1) 55 L st σ n k w = s_aload 0 56 L st σ n k w (zk1 cut G (Z f)) G R T := zrs hZ rfl f L st σ n k w
theorem f_X15_missed_56 (hZ : ZRN (ztb (tb_X15_missed E d mc ms)) cut G R T Z) (f : Nat) (L : ZLV) (st : List Value) (σ : ZHp) (n k w : Nat) : Z (f + 1) 56 L st σ n k w = s_getf 14 6 59 L st σ n k w (zk1 cut G (Z f)) G R T := zrs hZ rfl f L st σ n k w
theorem f_X15_missed_59 (hZ : ZRN (ztb (tb_X15_missed E d mc ms)) cut G R T Z) (f : Nat) (L : ZLV) (st : List Value) (σ : ZHp) (n k w : Nat) : Z (f + 1) 59 L st σ n k w = s_getf 12 18 62 L st σ n k w (zk1 cut G (Z f)) G R T := zrs hZ rfl f L st σ n k w
theorem f_X15_missed_62 (hZ : ZRN (ztb (tb_X15_missed E d mc ms)) cut G R T Z) (f : Nat) (L : ZLV) (st : List Value) (σ : ZHp) (n k w : Nat) : Z (f + 1) 62 L st σ n k w = s_iload 5 64 L st σ n k w (zk1 cut G (Z f)) G R T := zrs hZ rfl f L st σ n k w
theorem f_X15_missed_64 (hZ : ZRN (ztb (tb_X15_missed E d mc ms)) cut G R T Z) (f : Nat) (L : ZLV) (st : List Value) (σ : ZHp) (n k w : Nat) : Z (f + 1) 64 L st σ n k w = s_iaload E 65 L st σ n k w (zk1 cut G (Z f)) G R T := zrs hZ rfl f L st σ n k w
theorem f_X15_missed_65 (hZ : ZRN (ztb (tb_X15_missed E d mc ms)) cut G R T Z) (f : Nat) (L : ZLV) (st : List Value) (σ : ZHp) (n k w : Nat) : Z (f + 1) 65 L st σ n k w = s_iload 1 66 L st σ n k w (zk1 cut G (Z f)) G R T := zrs hZ rfl f L st σ n k w
theorem f_X15_missed_66 (hZ : ZRN (ztb (tb_X15_missed E d mc ms)) cut G R T Z) (f : Nat) (L : ZLV) (st : List Value) (σ : ZHp) (n k w : Nat) : Z (f + 1) 66 L st σ n k w = s_icmp_eq 72 69 L st σ n k w (zk1 cut G (Z f)) G R T := zrs hZ rfl f L st σ n k w
theorem f_X15_missed_69 (hZ : ZRN (ztb (tb_X15_missed E d mc ms)) cut G R T Z) (f : Nat) (L : ZLV) (st : List Value) (σ : ZHp) (n k w : Nat) : Z (f + 1) 69 L st σ n k w = s_goto 136 L st σ n k w (zk1 cut G (Z f)) G R T := zrs hZ rfl f L st σ n k w
theorem f_X15_missed_72 (hZ : ZRN (ztb (tb_X15_missed E d mc ms)) cut G R T Z) (f : Nat) (L : ZLV) (st : List Value) (σ : ZHp) (n k w : Nat) : Z (f + 1) 72 L st σ n k w = s_aload 0 73 L st σ n k w (zk1 cut G (Z f)) G R T := zrs hZ rfl f L st σ n k w
theorem f_X15_missed_73 (hZ : ZRN (ztb (tb_X15_missed E d mc ms)) cut G R T Z) (f : Nat) (L : ZLV) (st : List Value) (σ : ZHp) (n k w : Nat) : Z (f + 1) 73 L st σ n k w = s_getf 14 8 76 L st σ n k w (zk1 cut G (Z f)) G R T := zrs hZ rfl f L st σ n k w
theorem f_X15_missed_76 (hZ : ZRN (ztb (tb_X15_missed E d mc ms)) cut G R T Z) (f : Nat) (L : ZLV) (st : List Value) (σ : ZHp) (n k w : Nat) : Z (f + 1) 76 L st σ n k w = s_aload 0 77 L st σ n k w (zk1 cut G (Z f)) G R T := zrs hZ rfl f L st σ n k w
theorem f_X15_missed_77 (hZ : ZRN (ztb (tb_X15_missed E d mc ms)) cut G R T Z) (f : Nat) (L : ZLV) (st : List Value) (σ : ZHp) (n k w : Nat) : Z (f + 1) 77 L st σ n k w = s_getf 14 7 80 L st σ n k w (zk1 cut G (Z f)) G R T := zrs hZ rfl f L st σ n k w
theorem f_X15_missed_80 (hZ : ZRN (ztb (tb_X15_missed E d mc ms)) cut G R T Z) (f : Nat) (L : ZLV) (st : List Value) (σ : ZHp) (n k w : Nat) : Z (f + 1) 80 L st σ n k w = s_callV E d mc ms 13 MX14_become 1 83 L st σ n k w (zk1 cut G (Z f)) G R T := zrs hZ rfl f L st σ n k w
theorem f_X15_missed_83 (hZ : ZRN (ztb (tb_X15_missed E d mc ms)) cut G R T Z) (f : Nat) (L : ZLV) (st : List Value) (σ : ZHp) (n k w : Nat) : Z (f + 1) 83 L st σ n k w = s_aload 0 84 L st σ n k w (zk1 cut G (Z f)) G R T := zrs hZ rfl f L st σ n k w
theorem f_X15_missed_84 (hZ : ZRN (ztb (tb_X15_missed E d mc ms)) cut G R T Z) (f : Nat) (L : ZLV) (st : List Value) (σ : ZHp) (n k w : Nat) : Z (f + 1) 84 L st σ n k w = s_iload 5 86 L st σ n k w (zk1 cut G (Z f)) G R T := zrs hZ rfl f L st σ n k w
theorem f_X15_missed_86 (hZ : ZRN (ztb (tb_X15_missed E d mc ms)) cut G R T Z) (f : Nat) (L : ZLV) (st : List Value) (σ : ZHp) (n k w : Nat) : Z (f + 1) 86 L st σ n k w = s_putf 14 22 0 89 L st σ n k w (zk1 cut G (Z f)) G R T := zrs hZ rfl f L st σ n k w
theorem f_X15_missed_89 (hZ : ZRN (ztb (tb_X15_missed E d mc ms)) cut G R T Z) (f : Nat) (L : ZLV) (st : List Value) (σ : ZHp) (n k w : Nat) : Z (f + 1) 89 L st σ n k w = s_aload 0 90 L st σ n k w (zk1 cut G (Z f)) G R T := zrs hZ rfl f L st σ n k w
theorem f_X15_missed_90 (hZ : ZRN (ztb (tb_X15_missed E d mc ms)) cut G R T Z) (f : Nat) (L : ZLV) (st : List Value) (σ : ZHp) (n k w : Nat) : Z (f + 1) 90 L st σ n k w = s_aload 0 91 L st σ n k w (zk1 cut G (Z f)) G R T := zrs hZ rfl f L st σ n k w
theorem f_X15_missed_91 (hZ : ZRN (ztb (tb_X15_missed E d mc ms)) cut G R T Z) (f : Nat) (L : ZLV) (st : List Value) (σ : ZHp) (n k w : Nat) : Z (f + 1) 91 L st σ n k w = s_getf 14 8 94 L st σ n k w (zk1 cut G (Z f)) G R T := zrs hZ rfl f L st σ n k w
theorem f_X15_missed_94 (hZ : ZRN (ztb (tb_X15_missed E d mc ms)) cut G R T Z) (f : Nat) (L : ZLV) (st : List Value) (σ : ZHp) (n k w : Nat) : Z (f + 1) 94 L st σ n k w = s_iload 2 95 L st σ n k w (zk1 cut G (Z f)) G R T := zrs hZ rfl f L st σ n k w
theorem f_X15_missed_95 (hZ : ZRN (ztb (tb_X15_missed E d mc ms)) cut G R T Z) (f : Nat) (L : ZLV) (st : List Value) (σ : ZHp) (n k w : Nat) : Z (f + 1) 95 L st σ n k w = s_callV E d mc ms 14 MX15_rounds 2 98 L st σ n k w (zk1 cut G (Z f)) G R T := zrs hZ rfl f L st σ n k w
theorem f_X15_missed_98 (hZ : ZRN (ztb (tb_X15_missed E d mc ms)) cut G R T Z) (f : Nat) (L : ZLV) (st : List Value) (σ : ZHp) (n k w : Nat) : Z (f + 1) 98 L st σ n k w = s_aload 0 99 L st σ n k w (zk1 cut G (Z f)) G R T := zrs hZ rfl f L st σ n k w
theorem f_X15_missed_99 (hZ : ZRN (ztb (tb_X15_missed E d mc ms)) cut G R T Z) (f : Nat) (L : ZLV) (st : List Value) (σ : ZHp) (n k w : Nat) : Z (f + 1) 99 L st σ n k w = s_const (.int (-1)) 100 L st σ n k w (zk1 cut G (Z f)) G R T := zrs hZ rfl f L st σ n k w
theorem f_X15_missed_100 (hZ : ZRN (ztb (tb_X15_missed E d mc ms)) cut G R T Z) (f : Nat) (L : ZLV) (st : List Value) (σ : ZHp) (n k w : Nat) : Z (f + 1) 100 L st σ n k w = s_putf 14 22 0 103 L st σ n k w (zk1 cut G (Z f)) G R T := zrs hZ rfl f L st σ n k w
theorem f_X15_missed_103 (hZ : ZRN (ztb (tb_X15_missed E d mc ms)) cut G R T Z) (f : Nat) (L : ZLV) (st : List Value) (σ : ZHp) (n k w : Nat) : Z (f + 1) 103 L st σ n k w = s_aload 0 104 L st σ n k w (zk1 cut G (Z f)) G R T := zrs hZ rfl f L st σ n k w
theorem f_X15_missed_104 (hZ : ZRN (ztb (tb_X15_missed E d mc ms)) cut G R T Z) (f : Nat) (L : ZLV) (st : List Value) (σ : ZHp) (n k w : Nat) : Z (f + 1) 104 L st σ n k w = s_aload 0 105 L st σ n k w (zk1 cut G (Z f)) G R T := zrs hZ rfl f L st σ n k w
theorem f_X15_missed_105 (hZ : ZRN (ztb (tb_X15_missed E d mc ms)) cut G R T Z) (f : Nat) (L : ZLV) (st : List Value) (σ : ZHp) (n k w : Nat) : Z (f + 1) 105 L st σ n k w = s_getf 14 8 108 L st σ n k w (zk1 cut G (Z f)) G R T := zrs hZ rfl f L st σ n k w
theorem f_X15_missed_108 (hZ : ZRN (ztb (tb_X15_missed E d mc ms)) cut G R T Z) (f : Nat) (L : ZLV) (st : List Value) (σ : ZHp) (n k w : Nat) : Z (f + 1) 108 L st σ n k w = s_iload 1 109 L st σ n k w (zk1 cut G (Z f)) G R T := zrs hZ rfl f L st σ n k w
theorem f_X15_missed_109 (hZ : ZRN (ztb (tb_X15_missed E d mc ms)) cut G R T Z) (f : Nat) (L : ZLV) (st : List Value) (σ : ZHp) (n k w : Nat) : Z (f + 1) 109 L st σ n k w = s_callV E d mc ms 14 MX15_worthOf 2 112 L st σ n k w (zk1 cut G (Z f)) G R T := zrs hZ rfl f L st σ n k w
theorem f_X15_missed_112 (hZ : ZRN (ztb (tb_X15_missed E d mc ms)) cut G R T Z) (f : Nat) (L : ZLV) (st : List Value) (σ : ZHp) (n k w : Nat) : Z (f + 1) 112 L st σ n k w = s_istore 6 114 L st σ n k w (zk1 cut G (Z f)) G R T := zrs hZ rfl f L st σ n k w
theorem f_X15_missed_114 (hZ : ZRN (ztb (tb_X15_missed E d mc ms)) cut G R T Z) (f : Nat) (L : ZLV) (st : List Value) (σ : ZHp) (n k w : Nat) : Z (f + 1) 114 L st σ n k w = s_iload 3 115 L st σ n k w (zk1 cut G (Z f)) G R T := zrs hZ rfl f L st σ n k w
theorem f_X15_missed_115 (hZ : ZRN (ztb (tb_X15_missed E d mc ms)) cut G R T Z) (f : Nat) (L : ZLV) (st : List Value) (σ : ZHp) (n k w : Nat) : Z (f + 1) 115 L st σ n k w = s_const (.int (-1)) 116 L st σ n k w (zk1 cut G (Z f)) G R T := zrs hZ rfl f L st σ n k w
theorem f_X15_missed_116 (hZ : ZRN (ztb (tb_X15_missed E d mc ms)) cut G R T Z) (f : Nat) (L : ZLV) (st : List Value) (σ : ZHp) (n k w : Nat) : Z (f + 1) 116 L st σ n k w = s_icmp_eq 129 119 L st σ n k w (zk1 cut G (Z f)) G R T := zrs hZ rfl f L st σ n k w
theorem f_X15_missed_119 (hZ : ZRN (ztb (tb_X15_missed E d mc ms)) cut G R T Z) (f : Nat) (L : ZLV) (st : List Value) (σ : ZHp) (n k w : Nat) : Z (f + 1) 119 L st σ n k w = s_iload 6 121 L st σ n k w (zk1 cut G (Z f)) G R T := zrs hZ rfl f L st σ n k w
theorem f_X15_missed_121 (hZ : ZRN (ztb (tb_X15_missed E d mc ms)) cut G R T Z) (f : Nat) (L : ZLV) (st : List Value) (σ : ZHp) (n k w : Nat) : Z (f + 1) 121 L st σ n k w = s_iload 4 123 L st σ n k w (zk1 cut G (Z f)) G R T := zrs hZ rfl f L st σ n k w
theorem f_X15_missed_123 (hZ : ZRN (ztb (tb_X15_missed E d mc ms)) cut G R T Z) (f : Nat) (L : ZLV) (st : List Value) (σ : ZHp) (n k w : Nat) : Z (f + 1) 123 L st σ n k w = s_icmp_lt 129 126 L st σ n k w (zk1 cut G (Z f)) G R T := zrs hZ rfl f L st σ n k w
theorem f_X15_missed_126 (hZ : ZRN (ztb (tb_X15_missed E d mc ms)) cut G R T Z) (f : Nat) (L : ZLV) (st : List Value) (σ : ZHp) (n k w : Nat) : Z (f + 1) 126 L st σ n k w = s_goto 136 L st σ n k w (zk1 cut G (Z f)) G R T := zrs hZ rfl f L st σ n k w
theorem f_X15_missed_129 (hZ : ZRN (ztb (tb_X15_missed E d mc ms)) cut G R T Z) (f : Nat) (L : ZLV) (st : List Value) (σ : ZHp) (n k w : Nat) : Z (f + 1) 129 L st σ n k w = s_iload 6 131 L st σ n k w (zk1 cut G (Z f)) G R T := zrs hZ rfl f L st σ n k w
theorem f_X15_missed_131 (hZ : ZRN (ztb (tb_X15_missed E d mc ms)) cut G R T Z) (f : Nat) (L : ZLV) (st : List Value) (σ : ZHp) (n k w : Nat) : Z (f + 1) 131 L st σ n k w = s_istore 4 133 L st σ n k w (zk1 cut G (Z f)) G R T := zrs hZ rfl f L st σ n k w
theorem f_X15_missed_133 (hZ : ZRN (ztb (tb_X15_missed E d mc ms)) cut G R T Z) (f : Nat) (L : ZLV) (st : List Value) (σ : ZHp) (n k w : Nat) : Z (f + 1) 133 L st σ n k w = s_iload 5 135 L st σ n k w (zk1 cut G (Z f)) G R T := zrs hZ rfl f L st σ n k w
theorem f_X15_missed_135 (hZ : ZRN (ztb (tb_X15_missed E d mc ms)) cut G R T Z) (f : Nat) (L : ZLV) (st : List Value) (σ : ZHp) (n k w : Nat) : Z (f + 1) 135 L st σ n k w = s_istore 3 136 L st σ n k w (zk1 cut G (Z f)) G R T := zrs hZ rfl f L st σ n k w
theorem f_X15_missed_136 (hZ : ZRN (ztb (tb_X15_missed E d mc ms)) cut G R T Z) (f : Nat) (L : ZLV) (st : List Value) (σ : ZHp) (n k w : Nat) : Z (f + 1) 136 L st σ n k w = s_iinc 5 (1) 139 L st σ n k w (zk1 cut G (Z f)) G R T := zrs hZ rfl f L st σ n k w
theorem f_X15_missed_139 (hZ : ZRN (ztb (tb_X15_missed E d mc ms)) cut G R T Z) (f : Nat) (L : ZLV) (st : List Value) (σ : ZHp) (n k w : Nat) : Z (f + 1) 139 L st σ n k w = s_goto 43 L st σ n k w (zk1 cut G (Z f)) G R T := zrs hZ rfl f L st σ n k w
theorem f_X15_missed_142 (hZ : ZRN (ztb (tb_X15_missed E d mc ms)) cut G R T Z) (f : Nat) (L : ZLV) (st : List Value) (σ : ZHp) (n k w : Nat) : Z (f + 1) 142 L st σ n k w = s_iload 3 143 L st σ n k w (zk1 cut G (Z f)) G R T := zrs hZ rfl f L st σ n k w
theorem f_X15_missed_143 (hZ : ZRN (ztb (tb_X15_missed E d mc ms)) cut G R T Z) (f : Nat) (L : ZLV) (st : List Value) (σ : ZHp) (n k w : Nat) : Z (f + 1) 143 L st σ n k w = s_ireturn L st σ n k w (zk1 cut G (Z f)) G R T := zrs hZ rfl f L st σ n k w
end
