/-! TABLES: what each instruction does, that it does so, and each one by its place (printed by wip/whole/gen/gentab.py) -/
def tb_X3_init (E : ZEX) (d mc ms : Nat) : List (Nat × ZStep) := [(0, s_aload 0 1), (1, s_objinit d 4), (4, s_aload 0 5), (5, s_new 9 6 fsX10 mc ms 8), (8, s_dup 9), (9, s_callI E d mc ms MX10_init 0 12), (12, s_putf 2 0 3 15), (15, s_aload 0 16), (16, s_new 6 6 fsX7 mc ms 19), (19, s_dup 20), (20, s_callI E d mc ms MX7_init 0 23), (23, s_putf 2 1 3 26), (26, s_aload 0 27), (27, s_new 0 2 fsX1 mc ms 30), (30, s_dup 31), (31, s_callI E d mc ms MX1_init 0 34), (34, s_putf 2 2 3 37), (37, s_aload 0 38), (38, s_const (.int (1)) 39), (39, s_putf 2 3 1 42), (42, s_return)]
set_option maxRecDepth 20000 in
theorem ok_X3_init {E : ZEX} {X : ZMX} {d mc ms : Nat} {P : ZPT} {T : ZTT} (h : ZCX E X MX3_init d mc ms P T) : ∀ pc, ZRow E X MX3_init mc ms P T pc (ztb (tb_X3_init E d mc ms) pc) := ztb_ok (by
  unfold tb_X3_init
  refine zfmc (r_aload_n h (pc := 0) (kf := 0) 0 (by decide +kernel) rfl) ?_
  refine zfmc (r_objinit h (pc := 1) (ix := 3) (by decide +kernel) wk_64468dc985 wk_ee0d472f0f wk_13171937f3) ?_
  refine zfmc (r_aload_n h (pc := 4) (kf := 0) 0 (by decide +kernel) rfl) ?_
  refine zfmc (r_new h (pc := 5) (ix := 9) (by decide +kernel) ckX10 fsX10 tyX10 tyX10_ok fsX10_ok wk_fcb7759654 wk_8826ef31df wk_12b8d0eb2e) ?_
  refine zfmc (r_dup h (pc := 8) (by decide +kernel)) ?_
  refine zfmc (r_callIN h (pc := 9) (ix := 11) (by decide +kernel) 0 mcX10_init wk_b2084f97eb rfl rfl wk_17dd384130) ?_
  refine zfmc (r_putfF h (pc := 12) (ix := 12) (by decide +kernel) ckX3 0 (by decide) 3 (fty := tyX3 0) (tyX3_ok 0 (by decide)) rfl rfl rfl rfl wk_3f6f16f699) ?_
  refine zfmc (r_aload_n h (pc := 15) (kf := 0) 0 (by decide +kernel) rfl) ?_
  refine zfmc (r_new h (pc := 16) (ix := 18) (by decide +kernel) ckX7 fsX7 tyX7 tyX7_ok fsX7_ok wk_4c35fa09c1 wk_5e1c176496 wk_b941f228c5) ?_
  refine zfmc (r_dup h (pc := 19) (by decide +kernel)) ?_
  refine zfmc (r_callIN h (pc := 20) (ix := 20) (by decide +kernel) 0 mcX7_init wk_999fc0c948 rfl rfl wk_1acdd0d3b4) ?_
  refine zfmc (r_putfF h (pc := 23) (ix := 21) (by decide +kernel) ckX3 1 (by decide) 3 (fty := tyX3 1) (tyX3_ok 1 (by decide)) rfl rfl rfl rfl wk_e9f59e26ce) ?_
  refine zfmc (r_aload_n h (pc := 26) (kf := 0) 0 (by decide +kernel) rfl) ?_
  refine zfmc (r_new h (pc := 27) (ix := 25) (by decide +kernel) ckX1 fsX1 tyX1 tyX1_ok fsX1_ok wk_a8dcbfd771 wk_572f951422 wk_99e4575855) ?_
  refine zfmc (r_dup h (pc := 30) (by decide +kernel)) ?_
  refine zfmc (r_callIN h (pc := 31) (ix := 27) (by decide +kernel) 0 mcX1_init wk_09e10a2fe3 rfl rfl wk_bf77d14bfd) ?_
  refine zfmc (r_putf h (pc := 34) (ix := 28) (by decide +kernel) ckX3 2 (by decide) 3 (fty := tyX3 2) (tyX3_ok 2 (by decide)) rfl rfl wk_968794fd9f) ?_
  refine zfmc (r_aload_n h (pc := 37) (kf := 0) 0 (by decide +kernel) rfl) ?_
  refine zfmc (r_iconst h (pc := 38) (z := 1) (by decide +kernel) (1) (by decide +kernel)) ?_
  refine zfmc (r_putf h (pc := 39) (ix := 32) (by decide +kernel) ckX3 3 (by decide) 1 (fty := tyX3 3) (tyX3_ok 3 (by decide)) rfl rfl wk_994b033e5f) ?_
  refine zfmc (r_return h (pc := 42) (by decide +kernel) rfl) ?_
  exact zfm0)
def tb_X3_read (E : ZEX) (d mc ms : Nat) : List (Nat × ZStep) := [(0, s_aload 0 1), (1, s_getf 2 0 4), (4, s_aload 1 5), (5, s_callV E d mc ms 9 MX10_scan 1 8), (8, s_aload 0 9), (9, s_getf 2 1 12), (12, s_aload 2 13), (13, s_callV E d mc ms 6 MX7_begin 1 16), (16, s_aload 0 17), (17, s_aload 2 18), (18, s_getf 5 14 21), (21, s_putf 2 2 3 24), (24, s_aload 0 25), (25, s_const (.int (1)) 26), (26, s_putf 2 3 1 29), (29, s_const (.int (0)) 30), (30, s_istore 3 31), (31, s_iload 3 32), (32, s_const (.int (400)) 35), (35, s_icmp_ge 93 38), (38, s_aload 0 39), (39, s_getf 2 3 42), (42, s_if_eq 93 45), (45, s_aload 0 46), (46, s_getf 2 0 49), (49, s_callV E d mc ms 9 MX10_sign 0 52), (52, s_const (.ref (zeK E 1)) 55), (55, s_acmp_eq 93 58), (58, s_aload 0 59), (59, s_aload 0 60), (60, s_callV E d mc ms 2 MX3_line 0 63), (63, s_if_eq 83 66), (66, s_aload 0 67), (67, s_getf 2 0 70), (70, s_const (.ref (zeK E 35)) 73), (73, s_callV E d mc ms 9 MX10_take 1 76), (76, s_if_eq 83 79), (79, s_const (.int (1)) 80), (80, s_goto 84), (83, s_const (.int (0)) 84), (84, s_putf 2 3 1 87), (87, s_iinc 3 (1) 90), (90, s_goto 31), (93, s_aload 0 94), (94, s_aload 0 95), (95, s_getf 2 3 98), (98, s_if_eq 118 101), (101, s_aload 0 102), (102, s_getf 2 0 105), (105, s_callV E d mc ms 9 MX10_sign 0 108), (108, s_const (.ref (zeK E 1)) 111), (111, s_acmp_ne 118 114), (114, s_const (.int (1)) 115), (115, s_goto 119), (118, s_const (.int (0)) 119), (119, s_putf 2 3 1 122), (122, s_aload 0 123), (123, s_getf 2 3 126), (126, s_if_eq 139 129), (129, s_aload 0 130), (130, s_getf 2 1 133), (133, s_callV E d mc ms 6 MX7_error 0 136), (136, s_goto 140), (139, s_const (.int (1)) 140), (140, s_ireturn)]
set_option maxRecDepth 20000 in
theorem ok_X3_read {E : ZEX} {X : ZMX} {d mc ms : Nat} {P : ZPT} {T : ZTT} (h : ZCX E X MX3_read d mc ms P T) : ∀ pc, ZRow E X MX3_read mc ms P T pc (ztb (tb_X3_read E d mc ms) pc) := ztb_ok (by
  unfold tb_X3_read
  refine zfmc (r_aload_n h (pc := 0) (kf := 0) 0 (by decide +kernel) rfl) ?_
  refine zfmc (r_getf h (pc := 1) (ix := 12) (by decide +kernel) ckX3 0 (by decide) wk_3f6f16f699) ?_
  refine zfmc (r_aload_n h (pc := 4) (kf := 1) 1 (by decide +kernel) rfl) ?_
  refine zfmc (r_callV h (pc := 5) (ix := 36) (by decide +kernel) ckX10 1 mcX10_scan wk_75db691906 wk_9a657dfb4f wk_680d8f8490 rfl) ?_
  refine zfmc (r_aload_n h (pc := 8) (kf := 0) 0 (by decide +kernel) rfl) ?_
  refine zfmc (r_getf h (pc := 9) (ix := 21) (by decide +kernel) ckX3 1 (by decide) wk_e9f59e26ce) ?_
  refine zfmc (r_aload_n h (pc := 12) (kf := 2) 2 (by decide +kernel) rfl) ?_
  refine zfmc (r_callV h (pc := 13) (ix := 40) (by decide +kernel) ckX7 1 mcX7_begin wk_72dc68e210 wk_dca7bfbce5 wk_29f17c24e0 rfl) ?_
  refine zfmc (r_aload_n h (pc := 16) (kf := 0) 0 (by decide +kernel) rfl) ?_
  refine zfmc (r_aload_n h (pc := 17) (kf := 2) 2 (by decide +kernel) rfl) ?_
  refine zfmc (r_getfN h (pc := 18) (ix := 44) (by decide +kernel) ckX6 14 (by decide) wk_c613e5c81b) ?_
  refine zfmc (r_putf h (pc := 21) (ix := 28) (by decide +kernel) ckX3 2 (by decide) 3 (fty := tyX3 2) (tyX3_ok 2 (by decide)) rfl rfl wk_968794fd9f) ?_
  refine zfmc (r_aload_n h (pc := 24) (kf := 0) 0 (by decide +kernel) rfl) ?_
  refine zfmc (r_iconst h (pc := 25) (z := 1) (by decide +kernel) (1) (by decide +kernel)) ?_
  refine zfmc (r_putf h (pc := 26) (ix := 32) (by decide +kernel) ckX3 3 (by decide) 1 (fty := tyX3 3) (tyX3_ok 3 (by decide)) rfl rfl wk_994b033e5f) ?_
  refine zfmc (r_iconst h (pc := 29) (z := 0) (by decide +kernel) (0) (by decide +kernel)) ?_
  refine zfmc (r_istore_n h (pc := 30) (kf := 3) 3 (by decide +kernel) rfl (by decide +kernel)) ?_
  refine zfmc (r_iload_n h (pc := 31) (kf := 3) 3 (by decide +kernel) rfl) ?_
  refine zfmc (r_sipush h (pc := 32) (z := 400) (by decide +kernel) (400) (by decide +kernel)) ?_
  refine zfmc (r_icmp_ge h (pc := 35) (off := 58) (by decide +kernel) 93 (by decide +kernel)) ?_
  refine zfmc (r_aload_n h (pc := 38) (kf := 0) 0 (by decide +kernel) rfl) ?_
  refine zfmc (r_getf h (pc := 39) (ix := 32) (by decide +kernel) ckX3 3 (by decide) wk_994b033e5f) ?_
  refine zfmc (r_if_eq h (pc := 42) (off := 51) (by decide +kernel) 93 (by decide +kernel)) ?_
  refine zfmc (r_aload_n h (pc := 45) (kf := 0) 0 (by decide +kernel) rfl) ?_
  refine zfmc (r_getf h (pc := 46) (ix := 12) (by decide +kernel) ckX3 0 (by decide) wk_3f6f16f699) ?_
  refine zfmc (r_callV h (pc := 49) (ix := 47) (by decide +kernel) ckX10 0 mcX10_sign wk_acf175afd6 wk_1aba83112b wk_6775fbb695 rfl) ?_
  refine zfmc (r_getstatic h (pc := 52) (ix := 51) (by decide +kernel) (.ref (zeK E 1)) (zx_sg h.ok 1 (by decide)) wk_ad08d94a3a) ?_
  refine zfmc (r_acmp_eq h (pc := 55) (off := 38) (by decide +kernel) 93 (by decide +kernel)) ?_
  refine zfmc (r_aload_n h (pc := 58) (kf := 0) 0 (by decide +kernel) rfl) ?_
  refine zfmc (r_aload_n h (pc := 59) (kf := 0) 0 (by decide +kernel) rfl) ?_
  refine zfmc (r_callV h (pc := 60) (ix := 57) (by decide +kernel) ckX3 0 mcX3_line wk_279eaa46f2 wk_d39f35d267 wk_280c80d08c rfl) ?_
  refine zfmc (r_if_eq h (pc := 63) (off := 20) (by decide +kernel) 83 (by decide +kernel)) ?_
  refine zfmc (r_aload_n h (pc := 66) (kf := 0) 0 (by decide +kernel) rfl) ?_
  refine zfmc (r_getf h (pc := 67) (ix := 12) (by decide +kernel) ckX3 0 (by decide) wk_3f6f16f699) ?_
  refine zfmc (r_getstatic h (pc := 70) (ix := 61) (by decide +kernel) (.ref (zeK E 35)) (zx_sg h.ok 35 (by decide)) wk_f95fded519) ?_
  refine zfmc (r_callV h (pc := 73) (ix := 64) (by decide +kernel) ckX10 1 mcX10_take wk_6a3acea010 wk_d2da84ecec wk_27f3148387 rfl) ?_
  refine zfmc (r_if_eq h (pc := 76) (off := 7) (by decide +kernel) 83 (by decide +kernel)) ?_
  refine zfmc (r_iconst h (pc := 79) (z := 1) (by decide +kernel) (1) (by decide +kernel)) ?_
  refine zfmc (r_goto h (pc := 80) (off := 4) (by decide +kernel) 84 (by decide +kernel)) ?_
  refine zfmc (r_iconst h (pc := 83) (z := 0) (by decide +kernel) (0) (by decide +kernel)) ?_
  refine zfmc (r_putf h (pc := 84) (ix := 32) (by decide +kernel) ckX3 3 (by decide) 1 (fty := tyX3 3) (tyX3_ok 3 (by decide)) rfl rfl wk_994b033e5f) ?_
  refine zfmc (r_iinc h (pc := 87) 3 (z := 1) (by decide +kernel) (1) (by decide +kernel) (by decide +kernel)) ?_
  refine zfmc (r_goto h (pc := 90) (off := -59) (by decide +kernel) 31 (by decide +kernel)) ?_
  refine zfmc (r_aload_n h (pc := 93) (kf := 0) 0 (by decide +kernel) rfl) ?_
  refine zfmc (r_aload_n h (pc := 94) (kf := 0) 0 (by decide +kernel) rfl) ?_
  refine zfmc (r_getf h (pc := 95) (ix := 32) (by decide +kernel) ckX3 3 (by decide) wk_994b033e5f) ?_
  refine zfmc (r_if_eq h (pc := 98) (off := 20) (by decide +kernel) 118 (by decide +kernel)) ?_
  refine zfmc (r_aload_n h (pc := 101) (kf := 0) 0 (by decide +kernel) rfl) ?_
  refine zfmc (r_getf h (pc := 102) (ix := 12) (by decide +kernel) ckX3 0 (by decide) wk_3f6f16f699) ?_
  refine zfmc (r_callV h (pc := 105) (ix := 47) (by decide +kernel) ckX10 0 mcX10_sign wk_acf175afd6 wk_1aba83112b wk_6775fbb695 rfl) ?_
  refine zfmc (r_getstatic h (pc := 108) (ix := 51) (by decide +kernel) (.ref (zeK E 1)) (zx_sg h.ok 1 (by decide)) wk_ad08d94a3a) ?_
  refine zfmc (r_acmp_ne h (pc := 111) (off := 7) (by decide +kernel) 118 (by decide +kernel)) ?_
  refine zfmc (r_iconst h (pc := 114) (z := 1) (by decide +kernel) (1) (by decide +kernel)) ?_
  refine zfmc (r_goto h (pc := 115) (off := 4) (by decide +kernel) 119 (by decide +kernel)) ?_
  refine zfmc (r_iconst h (pc := 118) (z := 0) (by decide +kernel) (0) (by decide +kernel)) ?_
  refine zfmc (r_putf h (pc := 119) (ix := 32) (by decide +kernel) ckX3 3 (by decide) 1 (fty := tyX3 3) (tyX3_ok 3 (by decide)) rfl rfl wk_994b033e5f) ?_
  refine zfmc (r_aload_n h (pc := 122) (kf := 0) 0 (by decide +kernel) rfl) ?_
  refine zfmc (r_getf h (pc := 123) (ix := 32) (by decide +kernel) ckX3 3 (by decide) wk_994b033e5f) ?_
  refine zfmc (r_if_eq h (pc := 126) (off := 13) (by decide +kernel) 139 (by decide +kernel)) ?_
  refine zfmc (r_aload_n h (pc := 129) (kf := 0) 0 (by decide +kernel) rfl) ?_
  refine zfmc (r_getf h (pc := 130) (ix := 21) (by decide +kernel) ckX3 1 (by decide) wk_e9f59e26ce) ?_
  refine zfmc (r_callV h (pc := 133) (ix := 68) (by decide +kernel) ckX7 0 mcX7_error wk_14cf94fed3 wk_9d66b30819 wk_b04b973459 rfl) ?_
  refine zfmc (r_goto h (pc := 136) (off := 4) (by decide +kernel) 140 (by decide +kernel)) ?_
  refine zfmc (r_iconst h (pc := 139) (z := 1) (by decide +kernel) (1) (by decide +kernel)) ?_
  refine zfmc (r_ireturn h (pc := 140) (by decide +kernel) rfl) ?_
  exact zfm0)
def tb_X3_errorPlace (E : ZEX) (d mc ms : Nat) : List (Nat × ZStep) := [(0, s_aload 0 1), (1, s_getf 2 3 4), (4, s_if_eq 17 7), (7, s_aload 0 8), (8, s_getf 2 1 11), (11, s_callV E d mc ms 6 MX7_errorPlace 0 14), (14, s_goto 24), (17, s_aload 0 18), (18, s_getf 2 0 21), (21, s_callV E d mc ms 9 MX10_place 0 24), (24, s_ireturn)]
set_option maxRecDepth 20000 in
theorem ok_X3_errorPlace {E : ZEX} {X : ZMX} {d mc ms : Nat} {P : ZPT} {T : ZTT} (h : ZCX E X MX3_errorPlace d mc ms P T) : ∀ pc, ZRow E X MX3_errorPlace mc ms P T pc (ztb (tb_X3_errorPlace E d mc ms) pc) := ztb_ok (by
  unfold tb_X3_errorPlace
  refine zfmc (r_aload_n h (pc := 0) (kf := 0) 0 (by decide +kernel) rfl) ?_
  refine zfmc (r_getf h (pc := 1) (ix := 32) (by decide +kernel) ckX3 3 (by decide) wk_994b033e5f) ?_
  refine zfmc (r_if_eq h (pc := 4) (off := 13) (by decide +kernel) 17 (by decide +kernel)) ?_
  refine zfmc (r_aload_n h (pc := 7) (kf := 0) 0 (by decide +kernel) rfl) ?_
  refine zfmc (r_getf h (pc := 8) (ix := 21) (by decide +kernel) ckX3 1 (by decide) wk_e9f59e26ce) ?_
  refine zfmc (r_callV h (pc := 11) (ix := 72) (by decide +kernel) ckX7 0 mcX7_errorPlace wk_68c0c747e1 wk_69769cf9cb wk_21d63872b3 rfl) ?_
  refine zfmc (r_goto h (pc := 14) (off := 10) (by decide +kernel) 24 (by decide +kernel)) ?_
  refine zfmc (r_aload_n h (pc := 17) (kf := 0) 0 (by decide +kernel) rfl) ?_
  refine zfmc (r_getf h (pc := 18) (ix := 12) (by decide +kernel) ckX3 0 (by decide) wk_3f6f16f699) ?_
  refine zfmc (r_callV h (pc := 21) (ix := 75) (by decide +kernel) ckX10 0 mcX10_place wk_0d6be8514c wk_dc73dd065c wk_04aee528da rfl) ?_
  refine zfmc (r_ireturn h (pc := 24) (by decide +kernel) rfl) ?_
  exact zfm0)
def tb_X3_line (E : ZEX) (d mc ms : Nat) : List (Nat × ZStep) := [(0, s_const (.ref (zeK E 47)) 3), (3, s_aload 0 4), (4, s_getf 2 0 7), (7, s_callV E d mc ms 9 MX10_sign 0 10), (10, s_callK E d mc ms 0 46 MJx29ce0_ordinal_8abf5 0 13), (13, s_ialdK E 14), (14, s_tsw 1 [142, 194, 275, 348, 348, 348, 60, 246] 348), (60, s_aload 0 61), (61, s_getf 2 0 64), (64, s_const (.ref (zeK E 5)) 67), (67, s_callV E d mc ms 9 MX10_take 1 70), (70, s_if_eq 140 73), (73, s_aload 0 74), (74, s_const (.ref (zeK E 5)) 77), (77, s_callV E d mc ms 2 MX3_name 1 80), (80, s_if_eq 140 83), (83, s_aload 0 84), (84, s_getf 2 0 87), (87, s_const (.ref (zeK E 6)) 90), (90, s_callV E d mc ms 9 MX10_take 1 93), (93, s_if_eq 140 96), (96, s_aload 0 97), (97, s_const (.ref (zeK E 6)) 100), (100, s_callV E d mc ms 2 MX3_number 1 103), (103, s_if_eq 140 106), (106, s_aload 0 107), (107, s_getf 2 0 110), (110, s_const (.ref (zeK E 7)) 113), (113, s_callV E d mc ms 9 MX10_take 1 116), (116, s_if_eq 140 119), (119, s_aload 0 120), (120, s_const (.ref (zeK E 7)) 123), (123, s_callV E d mc ms 2 MX3_number 1 126), (126, s_if_eq 140 129), (129, s_aload 0 130), (130, s_callV E d mc ms 2 MX3_deeds 0 133), (133, s_if_eq 140 136), (136, s_const (.int (1)) 137), (137, s_goto 141), (140, s_const (.int (0)) 141), (141, s_zreturn), (142, s_aload 0 143), (143, s_getf 2 0 146), (146, s_const (.ref (zeK E 13)) 149), (149, s_callV E d mc ms 9 MX10_take 1 152), (152, s_if_eq 192 155), (155, s_aload 0 156), (156, s_const (.ref (zeK E 13)) 159), (159, s_callV E d mc ms 2 MX3_number 1 162), (162, s_if_eq 192 165), (165, s_aload 0 166), (166, s_getf 2 0 169), (169, s_const (.ref (zeK E 14)) 172), (172, s_callV E d mc ms 9 MX10_take 1 175), (175, s_if_eq 192 178), (178, s_aload 0 179), (179, s_const (.ref (zeK E 13)) 182), (182, s_callV E d mc ms 2 MX3_name 1 185), (185, s_if_eq 192 188), (188, s_const (.int (1)) 189), (189, s_goto 193), (192, s_const (.int (0)) 193), (193, s_zreturn), (194, s_aload 0 195), (195, s_getf 2 0 198), (198, s_const (.ref (zeK E 15)) 201), (201, s_callV E d mc ms 9 MX10_take 1 204), (204, s_if_eq 244 207), (207, s_aload 0 208), (208, s_const (.ref (zeK E 15)) 211), (211, s_callV E d mc ms 2 MX3_number 1 214), (214, s_if_eq 244 217), (217, s_aload 0 218), (218, s_getf 2 0 221), (221, s_const (.ref (zeK E 14)) 224), (224, s_callV E d mc ms 9 MX10_take 1 227), (227, s_if_eq 244 230), (230, s_aload 0 231), (231, s_const (.ref (zeK E 15)) 234), (234, s_callV E d mc ms 2 MX3_name 1 237), (237, s_if_eq 244 240), (240, s_const (.int (1)) 241), (241, s_goto 245), (244, s_const (.int (0)) 245), (245, s_zreturn), (246, s_aload 0 247), (247, s_getf 2 0 250), (250, s_const (.ref (zeK E 16)) 253), (253, s_callV E d mc ms 9 MX10_take 1 256), (256, s_if_eq 273 259), (259, s_aload 0 260), (260, s_const (.ref (zeK E 16)) 263), (263, s_callV E d mc ms 2 MX3_name 1 266), (266, s_if_eq 273 269), (269, s_const (.int (1)) 270), (270, s_goto 274), (273, s_const (.int (0)) 274), (274, s_zreturn), (275, s_aload 0 276), (276, s_getf 2 1 279), (279, s_aload 0 280), (280, s_getf 2 0 283), (283, s_callV E d mc ms 9 MX10_place 0 286), (286, s_callV E d mc ms 6 MX7_writeOrder 1 289), (289, s_aload 0 290), (290, s_getf 2 0 293), (293, s_const (.ref (zeK E 17)) 296), (296, s_callV E d mc ms 9 MX10_take 1 299), (299, s_if_eq 346 302), (302, s_aload 0 303), (303, s_const (.ref (zeK E 17)) 306), (306, s_callV E d mc ms 2 MX3_name 1 309), (309, s_if_eq 346 312), (312, s_aload 0 313), (313, s_getf 2 0 316), (316, s_const (.ref (zeK E 18)) 319), (319, s_callV E d mc ms 9 MX10_take 1 322), (322, s_if_eq 346 325), (325, s_aload 0 326), (326, s_const (.ref (zeK E 18)) 329), (329, s_callV E d mc ms 2 MX3_name 1 332), (332, s_if_eq 346 335), (335, s_aload 0 336), (336, s_callV E d mc ms 2 MX3_when 0 339), (339, s_if_eq 346 342), (342, s_const (.int (1)) 343), (343, s_goto 347), (346, s_const (.int (0)) 347), (347, s_zreturn), (348, s_const (.int (0)) 349), (349, s_zreturn)]
set_option maxRecDepth 20000 in
theorem ok_X3_line {E : ZEX} {X : ZMX} {d mc ms : Nat} {P : ZPT} {T : ZTT} (h : ZCX E X MX3_line d mc ms P T) : ∀ pc, ZRow E X MX3_line mc ms P T pc (ztb (tb_X3_line E d mc ms) pc) := ztb_ok (by
  unfold tb_X3_line
  refine zfmc (r_getstatic h (pc := 0) (ix := 78) (by decide +kernel) (.ref (zeK E 47)) (zx_sw h.ok) wk_6cc150cebd) ?_
  refine zfmc (r_aload_n h (pc := 3) (kf := 0) 0 (by decide +kernel) rfl) ?_
  refine zfmc (r_getf h (pc := 4) (ix := 12) (by decide +kernel) ckX3 0 (by decide) wk_3f6f16f699) ?_
  refine zfmc (r_callV h (pc := 7) (ix := 47) (by decide +kernel) ckX10 0 mcX10_sign wk_acf175afd6 wk_1aba83112b wk_6775fbb695 rfl) ?_
  refine zfmc (r_callU h (pc := 10) (ix := 84) (by decide +kernel) (zx_sgO2 h.ok) 0 mcJx29ce0_ordinal_8abf5 wk_7da2aaab0b (⟨RX8, "ordinal", "()I"⟩ : MethodName) wk_9c7efb6eb3 wk_7f528e0d7b wk_644ddbbc93 rfl) ?_
  refine zfmc (r_ialdK h (pc := 13) (by decide +kernel)) ?_
  refine zfmc (r_tsw h (pc := 14) (dflt := 334) (lo := 1) (hi := 8) (offs := #[128, 180, 261, 334, 334, 334, 46, 232]) (len := 46) (by decide +kernel) [142, 194, 275, 348, 348, 348, 60, 246] 348 (by decide +kernel) (by decide +kernel) (by decide +kernel)) ?_
  refine zfmc (r_aload_n h (pc := 60) (kf := 0) 0 (by decide +kernel) rfl) ?_
  refine zfmc (r_getf h (pc := 61) (ix := 12) (by decide +kernel) ckX3 0 (by decide) wk_3f6f16f699) ?_
  refine zfmc (r_getstatic h (pc := 64) (ix := 87) (by decide +kernel) (.ref (zeK E 5)) (zx_sg h.ok 5 (by decide)) wk_973b34ea60) ?_
  refine zfmc (r_callV h (pc := 67) (ix := 64) (by decide +kernel) ckX10 1 mcX10_take wk_6a3acea010 wk_d2da84ecec wk_27f3148387 rfl) ?_
  refine zfmc (r_if_eq h (pc := 70) (off := 70) (by decide +kernel) 140 (by decide +kernel)) ?_
  refine zfmc (r_aload_n h (pc := 73) (kf := 0) 0 (by decide +kernel) rfl) ?_
  refine zfmc (r_getstatic h (pc := 74) (ix := 87) (by decide +kernel) (.ref (zeK E 5)) (zx_sg h.ok 5 (by decide)) wk_973b34ea60) ?_
  refine zfmc (r_callV h (pc := 77) (ix := 90) (by decide +kernel) ckX3 1 mcX3_name wk_37e755cda7 wk_aa2d77498a wk_6c580ab90f rfl) ?_
  refine zfmc (r_if_eq h (pc := 80) (off := 60) (by decide +kernel) 140 (by decide +kernel)) ?_
  refine zfmc (r_aload_n h (pc := 83) (kf := 0) 0 (by decide +kernel) rfl) ?_
  refine zfmc (r_getf h (pc := 84) (ix := 12) (by decide +kernel) ckX3 0 (by decide) wk_3f6f16f699) ?_
  refine zfmc (r_getstatic h (pc := 87) (ix := 93) (by decide +kernel) (.ref (zeK E 6)) (zx_sg h.ok 6 (by decide)) wk_86e0925b2d) ?_
  refine zfmc (r_callV h (pc := 90) (ix := 64) (by decide +kernel) ckX10 1 mcX10_take wk_6a3acea010 wk_d2da84ecec wk_27f3148387 rfl) ?_
  refine zfmc (r_if_eq h (pc := 93) (off := 47) (by decide +kernel) 140 (by decide +kernel)) ?_
  refine zfmc (r_aload_n h (pc := 96) (kf := 0) 0 (by decide +kernel) rfl) ?_
  refine zfmc (r_getstatic h (pc := 97) (ix := 93) (by decide +kernel) (.ref (zeK E 6)) (zx_sg h.ok 6 (by decide)) wk_86e0925b2d) ?_
  refine zfmc (r_callV h (pc := 100) (ix := 96) (by decide +kernel) ckX3 1 mcX3_number wk_c71d1f45bd wk_416287d301 wk_0fac51eab8 rfl) ?_
  refine zfmc (r_if_eq h (pc := 103) (off := 37) (by decide +kernel) 140 (by decide +kernel)) ?_
  refine zfmc (r_aload_n h (pc := 106) (kf := 0) 0 (by decide +kernel) rfl) ?_
  refine zfmc (r_getf h (pc := 107) (ix := 12) (by decide +kernel) ckX3 0 (by decide) wk_3f6f16f699) ?_
  refine zfmc (r_getstatic h (pc := 110) (ix := 99) (by decide +kernel) (.ref (zeK E 7)) (zx_sg h.ok 7 (by decide)) wk_eb32ed25b3) ?_
  refine zfmc (r_callV h (pc := 113) (ix := 64) (by decide +kernel) ckX10 1 mcX10_take wk_6a3acea010 wk_d2da84ecec wk_27f3148387 rfl) ?_
  refine zfmc (r_if_eq h (pc := 116) (off := 24) (by decide +kernel) 140 (by decide +kernel)) ?_
  refine zfmc (r_aload_n h (pc := 119) (kf := 0) 0 (by decide +kernel) rfl) ?_
  refine zfmc (r_getstatic h (pc := 120) (ix := 99) (by decide +kernel) (.ref (zeK E 7)) (zx_sg h.ok 7 (by decide)) wk_eb32ed25b3) ?_
  refine zfmc (r_callV h (pc := 123) (ix := 96) (by decide +kernel) ckX3 1 mcX3_number wk_c71d1f45bd wk_416287d301 wk_0fac51eab8 rfl) ?_
  refine zfmc (r_if_eq h (pc := 126) (off := 14) (by decide +kernel) 140 (by decide +kernel)) ?_
  refine zfmc (r_aload_n h (pc := 129) (kf := 0) 0 (by decide +kernel) rfl) ?_
  refine zfmc (r_callV h (pc := 130) (ix := 102) (by decide +kernel) ckX3 0 mcX3_deeds wk_999a8bb57f wk_f9acd3e611 wk_219cbc8869 rfl) ?_
  refine zfmc (r_if_eq h (pc := 133) (off := 7) (by decide +kernel) 140 (by decide +kernel)) ?_
  refine zfmc (r_iconst h (pc := 136) (z := 1) (by decide +kernel) (1) (by decide +kernel)) ?_
  refine zfmc (r_goto h (pc := 137) (off := 4) (by decide +kernel) 141 (by decide +kernel)) ?_
  refine zfmc (r_iconst h (pc := 140) (z := 0) (by decide +kernel) (0) (by decide +kernel)) ?_
  refine zfmc (r_zreturn h (pc := 141) (by decide +kernel) rfl) ?_
  refine zfmc (r_aload_n h (pc := 142) (kf := 0) 0 (by decide +kernel) rfl) ?_
  refine zfmc (r_getf h (pc := 143) (ix := 12) (by decide +kernel) ckX3 0 (by decide) wk_3f6f16f699) ?_
  refine zfmc (r_getstatic h (pc := 146) (ix := 105) (by decide +kernel) (.ref (zeK E 13)) (zx_sg h.ok 13 (by decide)) wk_f06795f562) ?_
  refine zfmc (r_callV h (pc := 149) (ix := 64) (by decide +kernel) ckX10 1 mcX10_take wk_6a3acea010 wk_d2da84ecec wk_27f3148387 rfl) ?_
  refine zfmc (r_if_eq h (pc := 152) (off := 40) (by decide +kernel) 192 (by decide +kernel)) ?_
  refine zfmc (r_aload_n h (pc := 155) (kf := 0) 0 (by decide +kernel) rfl) ?_
  refine zfmc (r_getstatic h (pc := 156) (ix := 105) (by decide +kernel) (.ref (zeK E 13)) (zx_sg h.ok 13 (by decide)) wk_f06795f562) ?_
  refine zfmc (r_callV h (pc := 159) (ix := 96) (by decide +kernel) ckX3 1 mcX3_number wk_c71d1f45bd wk_416287d301 wk_0fac51eab8 rfl) ?_
  refine zfmc (r_if_eq h (pc := 162) (off := 30) (by decide +kernel) 192 (by decide +kernel)) ?_
  refine zfmc (r_aload_n h (pc := 165) (kf := 0) 0 (by decide +kernel) rfl) ?_
  refine zfmc (r_getf h (pc := 166) (ix := 12) (by decide +kernel) ckX3 0 (by decide) wk_3f6f16f699) ?_
  refine zfmc (r_getstatic h (pc := 169) (ix := 108) (by decide +kernel) (.ref (zeK E 14)) (zx_sg h.ok 14 (by decide)) wk_cedd09f29f) ?_
  refine zfmc (r_callV h (pc := 172) (ix := 64) (by decide +kernel) ckX10 1 mcX10_take wk_6a3acea010 wk_d2da84ecec wk_27f3148387 rfl) ?_
  refine zfmc (r_if_eq h (pc := 175) (off := 17) (by decide +kernel) 192 (by decide +kernel)) ?_
  refine zfmc (r_aload_n h (pc := 178) (kf := 0) 0 (by decide +kernel) rfl) ?_
  refine zfmc (r_getstatic h (pc := 179) (ix := 105) (by decide +kernel) (.ref (zeK E 13)) (zx_sg h.ok 13 (by decide)) wk_f06795f562) ?_
  refine zfmc (r_callV h (pc := 182) (ix := 90) (by decide +kernel) ckX3 1 mcX3_name wk_37e755cda7 wk_aa2d77498a wk_6c580ab90f rfl) ?_
  refine zfmc (r_if_eq h (pc := 185) (off := 7) (by decide +kernel) 192 (by decide +kernel)) ?_
  refine zfmc (r_iconst h (pc := 188) (z := 1) (by decide +kernel) (1) (by decide +kernel)) ?_
  refine zfmc (r_goto h (pc := 189) (off := 4) (by decide +kernel) 193 (by decide +kernel)) ?_
  refine zfmc (r_iconst h (pc := 192) (z := 0) (by decide +kernel) (0) (by decide +kernel)) ?_
  refine zfmc (r_zreturn h (pc := 193) (by decide +kernel) rfl) ?_
  refine zfmc (r_aload_n h (pc := 194) (kf := 0) 0 (by decide +kernel) rfl) ?_
  refine zfmc (r_getf h (pc := 195) (ix := 12) (by decide +kernel) ckX3 0 (by decide) wk_3f6f16f699) ?_
  refine zfmc (r_getstatic h (pc := 198) (ix := 111) (by decide +kernel) (.ref (zeK E 15)) (zx_sg h.ok 15 (by decide)) wk_f5ab326e1b) ?_
  refine zfmc (r_callV h (pc := 201) (ix := 64) (by decide +kernel) ckX10 1 mcX10_take wk_6a3acea010 wk_d2da84ecec wk_27f3148387 rfl) ?_
  refine zfmc (r_if_eq h (pc := 204) (off := 40) (by decide +kernel) 244 (by decide +kernel)) ?_
  refine zfmc (r_aload_n h (pc := 207) (kf := 0) 0 (by decide +kernel) rfl) ?_
  refine zfmc (r_getstatic h (pc := 208) (ix := 111) (by decide +kernel) (.ref (zeK E 15)) (zx_sg h.ok 15 (by decide)) wk_f5ab326e1b) ?_
  refine zfmc (r_callV h (pc := 211) (ix := 96) (by decide +kernel) ckX3 1 mcX3_number wk_c71d1f45bd wk_416287d301 wk_0fac51eab8 rfl) ?_
  refine zfmc (r_if_eq h (pc := 214) (off := 30) (by decide +kernel) 244 (by decide +kernel)) ?_
  refine zfmc (r_aload_n h (pc := 217) (kf := 0) 0 (by decide +kernel) rfl) ?_
  refine zfmc (r_getf h (pc := 218) (ix := 12) (by decide +kernel) ckX3 0 (by decide) wk_3f6f16f699) ?_
  refine zfmc (r_getstatic h (pc := 221) (ix := 108) (by decide +kernel) (.ref (zeK E 14)) (zx_sg h.ok 14 (by decide)) wk_cedd09f29f) ?_
  refine zfmc (r_callV h (pc := 224) (ix := 64) (by decide +kernel) ckX10 1 mcX10_take wk_6a3acea010 wk_d2da84ecec wk_27f3148387 rfl) ?_
  refine zfmc (r_if_eq h (pc := 227) (off := 17) (by decide +kernel) 244 (by decide +kernel)) ?_
  refine zfmc (r_aload_n h (pc := 230) (kf := 0) 0 (by decide +kernel) rfl) ?_
  refine zfmc (r_getstatic h (pc := 231) (ix := 111) (by decide +kernel) (.ref (zeK E 15)) (zx_sg h.ok 15 (by decide)) wk_f5ab326e1b) ?_
  refine zfmc (r_callV h (pc := 234) (ix := 90) (by decide +kernel) ckX3 1 mcX3_name wk_37e755cda7 wk_aa2d77498a wk_6c580ab90f rfl) ?_
  refine zfmc (r_if_eq h (pc := 237) (off := 7) (by decide +kernel) 244 (by decide +kernel)) ?_
  refine zfmc (r_iconst h (pc := 240) (z := 1) (by decide +kernel) (1) (by decide +kernel)) ?_
  refine zfmc (r_goto h (pc := 241) (off := 4) (by decide +kernel) 245 (by decide +kernel)) ?_
  refine zfmc (r_iconst h (pc := 244) (z := 0) (by decide +kernel) (0) (by decide +kernel)) ?_
  refine zfmc (r_zreturn h (pc := 245) (by decide +kernel) rfl) ?_
  refine zfmc (r_aload_n h (pc := 246) (kf := 0) 0 (by decide +kernel) rfl) ?_
  refine zfmc (r_getf h (pc := 247) (ix := 12) (by decide +kernel) ckX3 0 (by decide) wk_3f6f16f699) ?_
  refine zfmc (r_getstatic h (pc := 250) (ix := 114) (by decide +kernel) (.ref (zeK E 16)) (zx_sg h.ok 16 (by decide)) wk_479132fd12) ?_
  refine zfmc (r_callV h (pc := 253) (ix := 64) (by decide +kernel) ckX10 1 mcX10_take wk_6a3acea010 wk_d2da84ecec wk_27f3148387 rfl) ?_
  refine zfmc (r_if_eq h (pc := 256) (off := 17) (by decide +kernel) 273 (by decide +kernel)) ?_
  refine zfmc (r_aload_n h (pc := 259) (kf := 0) 0 (by decide +kernel) rfl) ?_
  refine zfmc (r_getstatic h (pc := 260) (ix := 114) (by decide +kernel) (.ref (zeK E 16)) (zx_sg h.ok 16 (by decide)) wk_479132fd12) ?_
  refine zfmc (r_callV h (pc := 263) (ix := 90) (by decide +kernel) ckX3 1 mcX3_name wk_37e755cda7 wk_aa2d77498a wk_6c580ab90f rfl) ?_
  refine zfmc (r_if_eq h (pc := 266) (off := 7) (by decide +kernel) 273 (by decide +kernel)) ?_
  refine zfmc (r_iconst h (pc := 269) (z := 1) (by decide +kernel) (1) (by decide +kernel)) ?_
  refine zfmc (r_goto h (pc := 270) (off := 4) (by decide +kernel) 274 (by decide +kernel)) ?_
  refine zfmc (r_iconst h (pc := 273) (z := 0) (by decide +kernel) (0) (by decide +kernel)) ?_
  refine zfmc (r_zreturn h (pc := 274) (by decide +kernel) rfl) ?_
  refine zfmc (r_aload_n h (pc := 275) (kf := 0) 0 (by decide +kernel) rfl) ?_
  refine zfmc (r_getf h (pc := 276) (ix := 21) (by decide +kernel) ckX3 1 (by decide) wk_e9f59e26ce) ?_
  refine zfmc (r_aload_n h (pc := 279) (kf := 0) 0 (by decide +kernel) rfl) ?_
  refine zfmc (r_getf h (pc := 280) (ix := 12) (by decide +kernel) ckX3 0 (by decide) wk_3f6f16f699) ?_
  refine zfmc (r_callV h (pc := 283) (ix := 75) (by decide +kernel) ckX10 0 mcX10_place wk_0d6be8514c wk_dc73dd065c wk_04aee528da rfl) ?_
  refine zfmc (r_callV h (pc := 286) (ix := 117) (by decide +kernel) ckX7 1 mcX7_writeOrder wk_363202b733 wk_89207c82f6 wk_c70b78a613 rfl) ?_
  refine zfmc (r_aload_n h (pc := 289) (kf := 0) 0 (by decide +kernel) rfl) ?_
  refine zfmc (r_getf h (pc := 290) (ix := 12) (by decide +kernel) ckX3 0 (by decide) wk_3f6f16f699) ?_
  refine zfmc (r_getstatic h (pc := 293) (ix := 121) (by decide +kernel) (.ref (zeK E 17)) (zx_sg h.ok 17 (by decide)) wk_28c13af963) ?_
  refine zfmc (r_callV h (pc := 296) (ix := 64) (by decide +kernel) ckX10 1 mcX10_take wk_6a3acea010 wk_d2da84ecec wk_27f3148387 rfl) ?_
  refine zfmc (r_if_eq h (pc := 299) (off := 47) (by decide +kernel) 346 (by decide +kernel)) ?_
  refine zfmc (r_aload_n h (pc := 302) (kf := 0) 0 (by decide +kernel) rfl) ?_
  refine zfmc (r_getstatic h (pc := 303) (ix := 121) (by decide +kernel) (.ref (zeK E 17)) (zx_sg h.ok 17 (by decide)) wk_28c13af963) ?_
  refine zfmc (r_callV h (pc := 306) (ix := 90) (by decide +kernel) ckX3 1 mcX3_name wk_37e755cda7 wk_aa2d77498a wk_6c580ab90f rfl) ?_
  refine zfmc (r_if_eq h (pc := 309) (off := 37) (by decide +kernel) 346 (by decide +kernel)) ?_
  refine zfmc (r_aload_n h (pc := 312) (kf := 0) 0 (by decide +kernel) rfl) ?_
  refine zfmc (r_getf h (pc := 313) (ix := 12) (by decide +kernel) ckX3 0 (by decide) wk_3f6f16f699) ?_
  refine zfmc (r_getstatic h (pc := 316) (ix := 124) (by decide +kernel) (.ref (zeK E 18)) (zx_sg h.ok 18 (by decide)) wk_d9d4a29dea) ?_
  refine zfmc (r_callV h (pc := 319) (ix := 64) (by decide +kernel) ckX10 1 mcX10_take wk_6a3acea010 wk_d2da84ecec wk_27f3148387 rfl) ?_
  refine zfmc (r_if_eq h (pc := 322) (off := 24) (by decide +kernel) 346 (by decide +kernel)) ?_
  refine zfmc (r_aload_n h (pc := 325) (kf := 0) 0 (by decide +kernel) rfl) ?_
  refine zfmc (r_getstatic h (pc := 326) (ix := 124) (by decide +kernel) (.ref (zeK E 18)) (zx_sg h.ok 18 (by decide)) wk_d9d4a29dea) ?_
  refine zfmc (r_callV h (pc := 329) (ix := 90) (by decide +kernel) ckX3 1 mcX3_name wk_37e755cda7 wk_aa2d77498a wk_6c580ab90f rfl) ?_
  refine zfmc (r_if_eq h (pc := 332) (off := 14) (by decide +kernel) 346 (by decide +kernel)) ?_
  refine zfmc (r_aload_n h (pc := 335) (kf := 0) 0 (by decide +kernel) rfl) ?_
  refine zfmc (r_callV h (pc := 336) (ix := 127) (by decide +kernel) ckX3 0 mcX3_when wk_af25a38e0b wk_8bc798ac56 wk_1c79f0317b rfl) ?_
  refine zfmc (r_if_eq h (pc := 339) (off := 7) (by decide +kernel) 346 (by decide +kernel)) ?_
  refine zfmc (r_iconst h (pc := 342) (z := 1) (by decide +kernel) (1) (by decide +kernel)) ?_
  refine zfmc (r_goto h (pc := 343) (off := 4) (by decide +kernel) 347 (by decide +kernel)) ?_
  refine zfmc (r_iconst h (pc := 346) (z := 0) (by decide +kernel) (0) (by decide +kernel)) ?_
  refine zfmc (r_zreturn h (pc := 347) (by decide +kernel) rfl) ?_
  refine zfmc (r_iconst h (pc := 348) (z := 0) (by decide +kernel) (0) (by decide +kernel)) ?_
  refine zfmc (r_zreturn h (pc := 349) (by decide +kernel) rfl) ?_
  exact zfm0)
def tb_X3_name (E : ZEX) (d mc ms : Nat) : List (Nat × ZStep) := [(0, s_aload 0 1), (1, s_getf 2 0 4), (4, s_callV E d mc ms 9 MX10_sign 0 7), (7, s_const (.ref (zeK E 2)) 10), (10, s_acmp_eq 15 13), (13, s_const (.int (0)) 14), (14, s_zreturn), (15, s_aload 0 16), (16, s_getf 2 1 19), (19, s_aload 1 20), (20, s_aload 0 21), (21, s_getf 2 0 24), (24, s_callV E d mc ms 9 MX10_value 0 27), (27, s_aload 0 28), (28, s_getf 2 0 31), (31, s_callV E d mc ms 9 MX10_place 0 34), (34, s_callV E d mc ms 6 MX7_writeName 3 37), (37, s_aload 0 38), (38, s_getf 2 0 41), (41, s_callV E d mc ms 9 MX10_advance 0 44), (44, s_const (.int (1)) 45), (45, s_zreturn)]
set_option maxRecDepth 20000 in
theorem ok_X3_name {E : ZEX} {X : ZMX} {d mc ms : Nat} {P : ZPT} {T : ZTT} (h : ZCX E X MX3_name d mc ms P T) : ∀ pc, ZRow E X MX3_name mc ms P T pc (ztb (tb_X3_name E d mc ms) pc) := ztb_ok (by
  unfold tb_X3_name
  refine zfmc (r_aload_n h (pc := 0) (kf := 0) 0 (by decide +kernel) rfl) ?_
  refine zfmc (r_getf h (pc := 1) (ix := 12) (by decide +kernel) ckX3 0 (by decide) wk_3f6f16f699) ?_
  refine zfmc (r_callV h (pc := 4) (ix := 47) (by decide +kernel) ckX10 0 mcX10_sign wk_acf175afd6 wk_1aba83112b wk_6775fbb695 rfl) ?_
  refine zfmc (r_getstatic h (pc := 7) (ix := 130) (by decide +kernel) (.ref (zeK E 2)) (zx_sg h.ok 2 (by decide)) wk_3735bd7b35) ?_
  refine zfmc (r_acmp_eq h (pc := 10) (off := 5) (by decide +kernel) 15 (by decide +kernel)) ?_
  refine zfmc (r_iconst h (pc := 13) (z := 0) (by decide +kernel) (0) (by decide +kernel)) ?_
  refine zfmc (r_zreturn h (pc := 14) (by decide +kernel) rfl) ?_
  refine zfmc (r_aload_n h (pc := 15) (kf := 0) 0 (by decide +kernel) rfl) ?_
  refine zfmc (r_getf h (pc := 16) (ix := 21) (by decide +kernel) ckX3 1 (by decide) wk_e9f59e26ce) ?_
  refine zfmc (r_aload_n h (pc := 19) (kf := 1) 1 (by decide +kernel) rfl) ?_
  refine zfmc (r_aload_n h (pc := 20) (kf := 0) 0 (by decide +kernel) rfl) ?_
  refine zfmc (r_getf h (pc := 21) (ix := 12) (by decide +kernel) ckX3 0 (by decide) wk_3f6f16f699) ?_
  refine zfmc (r_callV h (pc := 24) (ix := 133) (by decide +kernel) ckX10 0 mcX10_value wk_74ce23cff9 wk_0cb07f8b7c wk_dfd85f9f0c rfl) ?_
  refine zfmc (r_aload_n h (pc := 27) (kf := 0) 0 (by decide +kernel) rfl) ?_
  refine zfmc (r_getf h (pc := 28) (ix := 12) (by decide +kernel) ckX3 0 (by decide) wk_3f6f16f699) ?_
  refine zfmc (r_callV h (pc := 31) (ix := 75) (by decide +kernel) ckX10 0 mcX10_place wk_0d6be8514c wk_dc73dd065c wk_04aee528da rfl) ?_
  refine zfmc (r_callV h (pc := 34) (ix := 137) (by decide +kernel) ckX7 3 mcX7_writeName wk_62676b2d27 wk_579f7c7e71 wk_cecba0c4c1 rfl) ?_
  refine zfmc (r_aload_n h (pc := 37) (kf := 0) 0 (by decide +kernel) rfl) ?_
  refine zfmc (r_getf h (pc := 38) (ix := 12) (by decide +kernel) ckX3 0 (by decide) wk_3f6f16f699) ?_
  refine zfmc (r_callV h (pc := 41) (ix := 141) (by decide +kernel) ckX10 0 mcX10_advance wk_6cd8203c8a wk_81f664b079 wk_add6c799bb rfl) ?_
  refine zfmc (r_iconst h (pc := 44) (z := 1) (by decide +kernel) (1) (by decide +kernel)) ?_
  refine zfmc (r_zreturn h (pc := 45) (by decide +kernel) rfl) ?_
  exact zfm0)
def tb_X3_number (E : ZEX) (d mc ms : Nat) : List (Nat × ZStep) := [(0, s_aload 0 1), (1, s_getf 2 0 4), (4, s_callV E d mc ms 9 MX10_sign 0 7), (7, s_const (.ref (zeK E 3)) 10), (10, s_acmp_eq 15 13), (13, s_const (.int (0)) 14), (14, s_zreturn), (15, s_aload 0 16), (16, s_getf 2 1 19), (19, s_aload 1 20), (20, s_aload 0 21), (21, s_getf 2 0 24), (24, s_callV E d mc ms 9 MX10_value 0 27), (27, s_l2i 28), (28, s_aload 0 29), (29, s_getf 2 0 32), (32, s_callV E d mc ms 9 MX10_place 0 35), (35, s_callV E d mc ms 6 MX7_writeNumber 3 38), (38, s_aload 0 39), (39, s_getf 2 0 42), (42, s_callV E d mc ms 9 MX10_advance 0 45), (45, s_const (.int (1)) 46), (46, s_zreturn)]
set_option maxRecDepth 20000 in
theorem ok_X3_number {E : ZEX} {X : ZMX} {d mc ms : Nat} {P : ZPT} {T : ZTT} (h : ZCX E X MX3_number d mc ms P T) : ∀ pc, ZRow E X MX3_number mc ms P T pc (ztb (tb_X3_number E d mc ms) pc) := ztb_ok (by
  unfold tb_X3_number
  refine zfmc (r_aload_n h (pc := 0) (kf := 0) 0 (by decide +kernel) rfl) ?_
  refine zfmc (r_getf h (pc := 1) (ix := 12) (by decide +kernel) ckX3 0 (by decide) wk_3f6f16f699) ?_
  refine zfmc (r_callV h (pc := 4) (ix := 47) (by decide +kernel) ckX10 0 mcX10_sign wk_acf175afd6 wk_1aba83112b wk_6775fbb695 rfl) ?_
  refine zfmc (r_getstatic h (pc := 7) (ix := 144) (by decide +kernel) (.ref (zeK E 3)) (zx_sg h.ok 3 (by decide)) wk_4c05e0e72f) ?_
  refine zfmc (r_acmp_eq h (pc := 10) (off := 5) (by decide +kernel) 15 (by decide +kernel)) ?_
  refine zfmc (r_iconst h (pc := 13) (z := 0) (by decide +kernel) (0) (by decide +kernel)) ?_
  refine zfmc (r_zreturn h (pc := 14) (by decide +kernel) rfl) ?_
  refine zfmc (r_aload_n h (pc := 15) (kf := 0) 0 (by decide +kernel) rfl) ?_
  refine zfmc (r_getf h (pc := 16) (ix := 21) (by decide +kernel) ckX3 1 (by decide) wk_e9f59e26ce) ?_
  refine zfmc (r_aload_n h (pc := 19) (kf := 1) 1 (by decide +kernel) rfl) ?_
  refine zfmc (r_aload_n h (pc := 20) (kf := 0) 0 (by decide +kernel) rfl) ?_
  refine zfmc (r_getf h (pc := 21) (ix := 12) (by decide +kernel) ckX3 0 (by decide) wk_3f6f16f699) ?_
  refine zfmc (r_callV h (pc := 24) (ix := 133) (by decide +kernel) ckX10 0 mcX10_value wk_74ce23cff9 wk_0cb07f8b7c wk_dfd85f9f0c rfl) ?_
  refine zfmc (r_l2i h (pc := 27) (by decide +kernel)) ?_
  refine zfmc (r_aload_n h (pc := 28) (kf := 0) 0 (by decide +kernel) rfl) ?_
  refine zfmc (r_getf h (pc := 29) (ix := 12) (by decide +kernel) ckX3 0 (by decide) wk_3f6f16f699) ?_
  refine zfmc (r_callV h (pc := 32) (ix := 75) (by decide +kernel) ckX10 0 mcX10_place wk_0d6be8514c wk_dc73dd065c wk_04aee528da rfl) ?_
  refine zfmc (r_callV h (pc := 35) (ix := 147) (by decide +kernel) ckX7 3 mcX7_writeNumber wk_bffa9b6468 wk_8b72436002 wk_3c9f005028 rfl) ?_
  refine zfmc (r_aload_n h (pc := 38) (kf := 0) 0 (by decide +kernel) rfl) ?_
  refine zfmc (r_getf h (pc := 39) (ix := 12) (by decide +kernel) ckX3 0 (by decide) wk_3f6f16f699) ?_
  refine zfmc (r_callV h (pc := 42) (ix := 141) (by decide +kernel) ckX10 0 mcX10_advance wk_6cd8203c8a wk_81f664b079 wk_add6c799bb rfl) ?_
  refine zfmc (r_iconst h (pc := 45) (z := 1) (by decide +kernel) (1) (by decide +kernel)) ?_
  refine zfmc (r_zreturn h (pc := 46) (by decide +kernel) rfl) ?_
  exact zfm0)
def tb_X3_when (E : ZEX) (d mc ms : Nat) : List (Nat × ZStep) := [(0, s_aload 0 1), (1, s_getf 2 0 4), (4, s_const (.ref (zeK E 19)) 7), (7, s_callV E d mc ms 9 MX10_take 1 10), (10, s_if_ne 15 13), (13, s_const (.int (1)) 14), (14, s_zreturn), (15, s_aload 0 16), (16, s_getf 2 1 19), (19, s_callV E d mc ms 6 MX7_writeTest 0 22), (22, s_aload 0 23), (23, s_const (.int (0)) 24), (24, s_callV E d mc ms 2 MX3_test 1 27), (27, s_istore 1 28), (28, s_aload 0 29), (29, s_getf 2 2 32), (32, s_const (.ref (zeK E 1)) 35), (35, s_const (.int (0)) 36), (36, s_callV E d mc ms 0 MX1_add 2 39), (39, s_iload 1 40), (40, s_zreturn)]
set_option maxRecDepth 20000 in
theorem ok_X3_when {E : ZEX} {X : ZMX} {d mc ms : Nat} {P : ZPT} {T : ZTT} (h : ZCX E X MX3_when d mc ms P T) : ∀ pc, ZRow E X MX3_when mc ms P T pc (ztb (tb_X3_when E d mc ms) pc) := ztb_ok (by
  unfold tb_X3_when
  refine zfmc (r_aload_n h (pc := 0) (kf := 0) 0 (by decide +kernel) rfl) ?_
  refine zfmc (r_getf h (pc := 1) (ix := 12) (by decide +kernel) ckX3 0 (by decide) wk_3f6f16f699) ?_
  refine zfmc (r_getstatic h (pc := 4) (ix := 151) (by decide +kernel) (.ref (zeK E 19)) (zx_sg h.ok 19 (by decide)) wk_46f8f31a5a) ?_
  refine zfmc (r_callV h (pc := 7) (ix := 64) (by decide +kernel) ckX10 1 mcX10_take wk_6a3acea010 wk_d2da84ecec wk_27f3148387 rfl) ?_
  refine zfmc (r_if_ne h (pc := 10) (off := 5) (by decide +kernel) 15 (by decide +kernel)) ?_
  refine zfmc (r_iconst h (pc := 13) (z := 1) (by decide +kernel) (1) (by decide +kernel)) ?_
  refine zfmc (r_zreturn h (pc := 14) (by decide +kernel) rfl) ?_
  refine zfmc (r_aload_n h (pc := 15) (kf := 0) 0 (by decide +kernel) rfl) ?_
  refine zfmc (r_getf h (pc := 16) (ix := 21) (by decide +kernel) ckX3 1 (by decide) wk_e9f59e26ce) ?_
  refine zfmc (r_callV h (pc := 19) (ix := 154) (by decide +kernel) ckX7 0 mcX7_writeTest wk_5110473e6a wk_401a58d1de wk_f5b4e3b85e rfl) ?_
  refine zfmc (r_aload_n h (pc := 22) (kf := 0) 0 (by decide +kernel) rfl) ?_
  refine zfmc (r_iconst h (pc := 23) (z := 0) (by decide +kernel) (0) (by decide +kernel)) ?_
  refine zfmc (r_callV h (pc := 24) (ix := 157) (by decide +kernel) ckX3 1 mcX3_test wk_35bc6e6a5f wk_a18c3bb426 wk_bca11d2673 rfl) ?_
  refine zfmc (r_istore_n h (pc := 27) (kf := 1) 1 (by decide +kernel) rfl (by decide +kernel)) ?_
  refine zfmc (r_aload_n h (pc := 28) (kf := 0) 0 (by decide +kernel) rfl) ?_
  refine zfmc (r_getf h (pc := 29) (ix := 28) (by decide +kernel) ckX3 2 (by decide) wk_968794fd9f) ?_
  refine zfmc (r_getstatic h (pc := 32) (ix := 51) (by decide +kernel) (.ref (zeK E 1)) (zx_sg h.ok 1 (by decide)) wk_ad08d94a3a) ?_
  refine zfmc (r_iconst h (pc := 35) (z := 0) (by decide +kernel) (0) (by decide +kernel)) ?_
  refine zfmc (r_callV h (pc := 36) (ix := 161) (by decide +kernel) ckX1 2 mcX1_add wk_6580a0eac1 wk_b89a1f2ee0 wk_873ac87f08 rfl) ?_
  refine zfmc (r_iload_n h (pc := 39) (kf := 1) 1 (by decide +kernel) rfl) ?_
  refine zfmc (r_zreturn h (pc := 40) (by decide +kernel) rfl) ?_
  exact zfm0)
def tb_X3_deeds (E : ZEX) (d mc ms : Nat) : List (Nat × ZStep) := [(0, s_const (.int (1)) 1), (1, s_istore 1 2), (2, s_const (.int (0)) 3), (3, s_istore 2 4), (4, s_iload 2 5), (5, s_const (.int (400)) 8), (8, s_icmp_ge 130 11), (11, s_iload 1 12), (12, s_if_eq 130 15), (15, s_aload 0 16), (16, s_getf 2 0 19), (19, s_callV E d mc ms 9 MX10_sign 0 22), (22, s_callS E d mc ms MX3_isDeed 1 25), (25, s_if_eq 130 28), (28, s_aload 0 29), (29, s_getf 2 0 32), (32, s_callV E d mc ms 9 MX10_sign 0 35), (35, s_astore 3 36), (36, s_aload 0 37), (37, s_getf 2 1 40), (40, s_aload 3 41), (41, s_aload 0 42), (42, s_getf 2 0 45), (45, s_callV E d mc ms 9 MX10_place 0 48), (48, s_callV E d mc ms 6 MX7_writeDeed 2 51), (51, s_aload 0 52), (52, s_getf 2 0 55), (55, s_callV E d mc ms 9 MX10_advance 0 58), (58, s_aload 3 59), (59, s_const (.ref (zeK E 11)) 62), (62, s_acmp_eq 72 65), (65, s_aload 3 66), (66, s_const (.ref (zeK E 12)) 69), (69, s_acmp_ne 76 72), (72, s_const (.int (1)) 73), (73, s_goto 77), (76, s_const (.int (0)) 77), (77, s_istore 4 79), (79, s_iload 4 81), (81, s_if_eq 92 84), (84, s_aload 0 85), (85, s_aload 3 86), (86, s_callV E d mc ms 2 MX3_name 1 89), (89, s_if_eq 111 92), (92, s_aload 3 93), (93, s_const (.ref (zeK E 11)) 96), (96, s_acmp_eq 107 99), (99, s_aload 0 100), (100, s_const (.int (0)) 101), (101, s_callV E d mc ms 2 MX3_sum 1 104), (104, s_if_eq 111 107), (107, s_const (.int (1)) 108), (108, s_goto 112), (111, s_const (.int (0)) 112), (112, s_istore 1 113), (113, s_aload 0 114), (114, s_getf 2 2 117), (117, s_const (.ref (zeK E 1)) 120), (120, s_const (.int (0)) 121), (121, s_callV E d mc ms 0 MX1_add 2 124), (124, s_iinc 2 (1) 127), (127, s_goto 4), (130, s_iload 1 131), (131, s_zreturn)]
set_option maxRecDepth 20000 in
theorem ok_X3_deeds {E : ZEX} {X : ZMX} {d mc ms : Nat} {P : ZPT} {T : ZTT} (h : ZCX E X MX3_deeds d mc ms P T) : ∀ pc, ZRow E X MX3_deeds mc ms P T pc (ztb (tb_X3_deeds E d mc ms) pc) := ztb_ok (by
  unfold tb_X3_deeds
  refine zfmc (r_iconst h (pc := 0) (z := 1) (by decide +kernel) (1) (by decide +kernel)) ?_
  refine zfmc (r_istore_n h (pc := 1) (kf := 1) 1 (by decide +kernel) rfl (by decide +kernel)) ?_
  refine zfmc (r_iconst h (pc := 2) (z := 0) (by decide +kernel) (0) (by decide +kernel)) ?_
  refine zfmc (r_istore_n h (pc := 3) (kf := 2) 2 (by decide +kernel) rfl (by decide +kernel)) ?_
  refine zfmc (r_iload_n h (pc := 4) (kf := 2) 2 (by decide +kernel) rfl) ?_
  refine zfmc (r_sipush h (pc := 5) (z := 400) (by decide +kernel) (400) (by decide +kernel)) ?_
  refine zfmc (r_icmp_ge h (pc := 8) (off := 122) (by decide +kernel) 130 (by decide +kernel)) ?_
  refine zfmc (r_iload_n h (pc := 11) (kf := 1) 1 (by decide +kernel) rfl) ?_
  refine zfmc (r_if_eq h (pc := 12) (off := 118) (by decide +kernel) 130 (by decide +kernel)) ?_
  refine zfmc (r_aload_n h (pc := 15) (kf := 0) 0 (by decide +kernel) rfl) ?_
  refine zfmc (r_getf h (pc := 16) (ix := 12) (by decide +kernel) ckX3 0 (by decide) wk_3f6f16f699) ?_
  refine zfmc (r_callV h (pc := 19) (ix := 47) (by decide +kernel) ckX10 0 mcX10_sign wk_acf175afd6 wk_1aba83112b wk_6775fbb695 rfl) ?_
  refine zfmc (r_callS h (pc := 22) (ix := 165) (by decide +kernel) 1 mcX3_isDeed wk_9a614808f8 wk_b1ca07f7fb) ?_
  refine zfmc (r_if_eq h (pc := 25) (off := 105) (by decide +kernel) 130 (by decide +kernel)) ?_
  refine zfmc (r_aload_n h (pc := 28) (kf := 0) 0 (by decide +kernel) rfl) ?_
  refine zfmc (r_getf h (pc := 29) (ix := 12) (by decide +kernel) ckX3 0 (by decide) wk_3f6f16f699) ?_
  refine zfmc (r_callV h (pc := 32) (ix := 47) (by decide +kernel) ckX10 0 mcX10_sign wk_acf175afd6 wk_1aba83112b wk_6775fbb695 rfl) ?_
  refine zfmc (r_astore_n h (pc := 35) (kf := 3) 3 (by decide +kernel) rfl (by decide +kernel)) ?_
  refine zfmc (r_aload_n h (pc := 36) (kf := 0) 0 (by decide +kernel) rfl) ?_
  refine zfmc (r_getf h (pc := 37) (ix := 21) (by decide +kernel) ckX3 1 (by decide) wk_e9f59e26ce) ?_
  refine zfmc (r_aload_n h (pc := 40) (kf := 3) 3 (by decide +kernel) rfl) ?_
  refine zfmc (r_aload_n h (pc := 41) (kf := 0) 0 (by decide +kernel) rfl) ?_
  refine zfmc (r_getf h (pc := 42) (ix := 12) (by decide +kernel) ckX3 0 (by decide) wk_3f6f16f699) ?_
  refine zfmc (r_callV h (pc := 45) (ix := 75) (by decide +kernel) ckX10 0 mcX10_place wk_0d6be8514c wk_dc73dd065c wk_04aee528da rfl) ?_
  refine zfmc (r_callV h (pc := 48) (ix := 168) (by decide +kernel) ckX7 2 mcX7_writeDeed wk_db477f71e3 wk_3af3ab5698 wk_f42409dd64 rfl) ?_
  refine zfmc (r_aload_n h (pc := 51) (kf := 0) 0 (by decide +kernel) rfl) ?_
  refine zfmc (r_getf h (pc := 52) (ix := 12) (by decide +kernel) ckX3 0 (by decide) wk_3f6f16f699) ?_
  refine zfmc (r_callV h (pc := 55) (ix := 141) (by decide +kernel) ckX10 0 mcX10_advance wk_6cd8203c8a wk_81f664b079 wk_add6c799bb rfl) ?_
  refine zfmc (r_aload_n h (pc := 58) (kf := 3) 3 (by decide +kernel) rfl) ?_
  refine zfmc (r_getstatic h (pc := 59) (ix := 171) (by decide +kernel) (.ref (zeK E 11)) (zx_sg h.ok 11 (by decide)) wk_392d14dd5f) ?_
  refine zfmc (r_acmp_eq h (pc := 62) (off := 10) (by decide +kernel) 72 (by decide +kernel)) ?_
  refine zfmc (r_aload_n h (pc := 65) (kf := 3) 3 (by decide +kernel) rfl) ?_
  refine zfmc (r_getstatic h (pc := 66) (ix := 174) (by decide +kernel) (.ref (zeK E 12)) (zx_sg h.ok 12 (by decide)) wk_f44b5a416e) ?_
  refine zfmc (r_acmp_ne h (pc := 69) (off := 7) (by decide +kernel) 76 (by decide +kernel)) ?_
  refine zfmc (r_iconst h (pc := 72) (z := 1) (by decide +kernel) (1) (by decide +kernel)) ?_
  refine zfmc (r_goto h (pc := 73) (off := 4) (by decide +kernel) 77 (by decide +kernel)) ?_
  refine zfmc (r_iconst h (pc := 76) (z := 0) (by decide +kernel) (0) (by decide +kernel)) ?_
  refine zfmc (r_istore h (pc := 77) 4 (by decide +kernel) (by decide +kernel)) ?_
  refine zfmc (r_iload h (pc := 79) 4 (by decide +kernel)) ?_
  refine zfmc (r_if_eq h (pc := 81) (off := 11) (by decide +kernel) 92 (by decide +kernel)) ?_
  refine zfmc (r_aload_n h (pc := 84) (kf := 0) 0 (by decide +kernel) rfl) ?_
  refine zfmc (r_aload_n h (pc := 85) (kf := 3) 3 (by decide +kernel) rfl) ?_
  refine zfmc (r_callV h (pc := 86) (ix := 90) (by decide +kernel) ckX3 1 mcX3_name wk_37e755cda7 wk_aa2d77498a wk_6c580ab90f rfl) ?_
  refine zfmc (r_if_eq h (pc := 89) (off := 22) (by decide +kernel) 111 (by decide +kernel)) ?_
  refine zfmc (r_aload_n h (pc := 92) (kf := 3) 3 (by decide +kernel) rfl) ?_
  refine zfmc (r_getstatic h (pc := 93) (ix := 171) (by decide +kernel) (.ref (zeK E 11)) (zx_sg h.ok 11 (by decide)) wk_392d14dd5f) ?_
  refine zfmc (r_acmp_eq h (pc := 96) (off := 11) (by decide +kernel) 107 (by decide +kernel)) ?_
  refine zfmc (r_aload_n h (pc := 99) (kf := 0) 0 (by decide +kernel) rfl) ?_
  refine zfmc (r_iconst h (pc := 100) (z := 0) (by decide +kernel) (0) (by decide +kernel)) ?_
  refine zfmc (r_callV h (pc := 101) (ix := 177) (by decide +kernel) ckX3 1 mcX3_sum wk_c9b9e1f4cd wk_92f25ea6c7 wk_6f515a7a08 rfl) ?_
  refine zfmc (r_if_eq h (pc := 104) (off := 7) (by decide +kernel) 111 (by decide +kernel)) ?_
  refine zfmc (r_iconst h (pc := 107) (z := 1) (by decide +kernel) (1) (by decide +kernel)) ?_
  refine zfmc (r_goto h (pc := 108) (off := 4) (by decide +kernel) 112 (by decide +kernel)) ?_
  refine zfmc (r_iconst h (pc := 111) (z := 0) (by decide +kernel) (0) (by decide +kernel)) ?_
  refine zfmc (r_istore_n h (pc := 112) (kf := 1) 1 (by decide +kernel) rfl (by decide +kernel)) ?_
  refine zfmc (r_aload_n h (pc := 113) (kf := 0) 0 (by decide +kernel) rfl) ?_
  refine zfmc (r_getf h (pc := 114) (ix := 28) (by decide +kernel) ckX3 2 (by decide) wk_968794fd9f) ?_
  refine zfmc (r_getstatic h (pc := 117) (ix := 51) (by decide +kernel) (.ref (zeK E 1)) (zx_sg h.ok 1 (by decide)) wk_ad08d94a3a) ?_
  refine zfmc (r_iconst h (pc := 120) (z := 0) (by decide +kernel) (0) (by decide +kernel)) ?_
  refine zfmc (r_callV h (pc := 121) (ix := 161) (by decide +kernel) ckX1 2 mcX1_add wk_6580a0eac1 wk_b89a1f2ee0 wk_873ac87f08 rfl) ?_
  refine zfmc (r_iinc h (pc := 124) 2 (z := 1) (by decide +kernel) (1) (by decide +kernel) (by decide +kernel)) ?_
  refine zfmc (r_goto h (pc := 127) (off := -123) (by decide +kernel) 4 (by decide +kernel)) ?_
  refine zfmc (r_iload_n h (pc := 130) (kf := 1) 1 (by decide +kernel) rfl) ?_
  refine zfmc (r_zreturn h (pc := 131) (by decide +kernel) rfl) ?_
  exact zfm0)
def tb_X3_isDeed (E : ZEX) (d mc ms : Nat) : List (Nat × ZStep) := [(0, s_aload 0 1), (1, s_const (.ref (zeK E 8)) 4), (4, s_acmp_eq 35 7), (7, s_aload 0 8), (8, s_const (.ref (zeK E 9)) 11), (11, s_acmp_eq 35 14), (14, s_aload 0 15), (15, s_const (.ref (zeK E 10)) 18), (18, s_acmp_eq 35 21), (21, s_aload 0 22), (22, s_const (.ref (zeK E 11)) 25), (25, s_acmp_eq 35 28), (28, s_aload 0 29), (29, s_const (.ref (zeK E 12)) 32), (32, s_acmp_ne 39 35), (35, s_const (.int (1)) 36), (36, s_goto 40), (39, s_const (.int (0)) 40), (40, s_zreturn)]
set_option maxRecDepth 20000 in
theorem ok_X3_isDeed {E : ZEX} {X : ZMX} {d mc ms : Nat} {P : ZPT} {T : ZTT} (h : ZCX E X MX3_isDeed d mc ms P T) : ∀ pc, ZRow E X MX3_isDeed mc ms P T pc (ztb (tb_X3_isDeed E d mc ms) pc) := ztb_ok (by
  unfold tb_X3_isDeed
  refine zfmc (r_aload_n h (pc := 0) (kf := 0) 0 (by decide +kernel) rfl) ?_
  refine zfmc (r_getstatic h (pc := 1) (ix := 180) (by decide +kernel) (.ref (zeK E 8)) (zx_sg h.ok 8 (by decide)) wk_054dec5a31) ?_
  refine zfmc (r_acmp_eq h (pc := 4) (off := 31) (by decide +kernel) 35 (by decide +kernel)) ?_
  refine zfmc (r_aload_n h (pc := 7) (kf := 0) 0 (by decide +kernel) rfl) ?_
  refine zfmc (r_getstatic h (pc := 8) (ix := 183) (by decide +kernel) (.ref (zeK E 9)) (zx_sg h.ok 9 (by decide)) wk_8aaee08052) ?_
  refine zfmc (r_acmp_eq h (pc := 11) (off := 24) (by decide +kernel) 35 (by decide +kernel)) ?_
  refine zfmc (r_aload_n h (pc := 14) (kf := 0) 0 (by decide +kernel) rfl) ?_
  refine zfmc (r_getstatic h (pc := 15) (ix := 186) (by decide +kernel) (.ref (zeK E 10)) (zx_sg h.ok 10 (by decide)) wk_8b6de2f983) ?_
  refine zfmc (r_acmp_eq h (pc := 18) (off := 17) (by decide +kernel) 35 (by decide +kernel)) ?_
  refine zfmc (r_aload_n h (pc := 21) (kf := 0) 0 (by decide +kernel) rfl) ?_
  refine zfmc (r_getstatic h (pc := 22) (ix := 171) (by decide +kernel) (.ref (zeK E 11)) (zx_sg h.ok 11 (by decide)) wk_392d14dd5f) ?_
  refine zfmc (r_acmp_eq h (pc := 25) (off := 10) (by decide +kernel) 35 (by decide +kernel)) ?_
  refine zfmc (r_aload_n h (pc := 28) (kf := 0) 0 (by decide +kernel) rfl) ?_
  refine zfmc (r_getstatic h (pc := 29) (ix := 174) (by decide +kernel) (.ref (zeK E 12)) (zx_sg h.ok 12 (by decide)) wk_f44b5a416e) ?_
  refine zfmc (r_acmp_ne h (pc := 32) (off := 7) (by decide +kernel) 39 (by decide +kernel)) ?_
  refine zfmc (r_iconst h (pc := 35) (z := 1) (by decide +kernel) (1) (by decide +kernel)) ?_
  refine zfmc (r_goto h (pc := 36) (off := 4) (by decide +kernel) 40 (by decide +kernel)) ?_
  refine zfmc (r_iconst h (pc := 39) (z := 0) (by decide +kernel) (0) (by decide +kernel)) ?_
  refine zfmc (r_zreturn h (pc := 40) (by decide +kernel) rfl) ?_
  exact zfm0)
def tb_X3_test (E : ZEX) (d mc ms : Nat) : List (Nat × ZStep) := [(0, s_aload 0 1), (1, s_iload 1 2), (2, s_callV E d mc ms 2 MX3_both 1 5), (5, s_istore 2 6), (6, s_const (.int (0)) 7), (7, s_istore 3 8), (8, s_iload 3 9), (9, s_const (.int (400)) 12), (12, s_icmp_ge 55 15), (15, s_iload 2 16), (16, s_if_eq 55 19), (19, s_aload 0 20), (20, s_getf 2 0 23), (23, s_const (.ref (zeK E 28)) 26), (26, s_callV E d mc ms 9 MX10_take 1 29), (29, s_if_eq 55 32), (32, s_aload 0 33), (33, s_iload 1 34), (34, s_callV E d mc ms 2 MX3_both 1 37), (37, s_istore 2 38), (38, s_aload 0 39), (39, s_getf 2 2 42), (42, s_const (.ref (zeK E 28)) 45), (45, s_const (.int (0)) 46), (46, s_callV E d mc ms 0 MX1_add 2 49), (49, s_iinc 3 (1) 52), (52, s_goto 8), (55, s_iload 2 56), (56, s_zreturn)]
set_option maxRecDepth 20000 in
theorem ok_X3_test {E : ZEX} {X : ZMX} {d mc ms : Nat} {P : ZPT} {T : ZTT} (h : ZCX E X MX3_test d mc ms P T) : ∀ pc, ZRow E X MX3_test mc ms P T pc (ztb (tb_X3_test E d mc ms) pc) := ztb_ok (by
  unfold tb_X3_test
  refine zfmc (r_aload_n h (pc := 0) (kf := 0) 0 (by decide +kernel) rfl) ?_
  refine zfmc (r_iload_n h (pc := 1) (kf := 1) 1 (by decide +kernel) rfl) ?_
  refine zfmc (r_callV h (pc := 2) (ix := 189) (by decide +kernel) ckX3 1 mcX3_both wk_75be0989ea wk_9358bbacdf wk_5471635e9c rfl) ?_
  refine zfmc (r_istore_n h (pc := 5) (kf := 2) 2 (by decide +kernel) rfl (by decide +kernel)) ?_
  refine zfmc (r_iconst h (pc := 6) (z := 0) (by decide +kernel) (0) (by decide +kernel)) ?_
  refine zfmc (r_istore_n h (pc := 7) (kf := 3) 3 (by decide +kernel) rfl (by decide +kernel)) ?_
  refine zfmc (r_iload_n h (pc := 8) (kf := 3) 3 (by decide +kernel) rfl) ?_
  refine zfmc (r_sipush h (pc := 9) (z := 400) (by decide +kernel) (400) (by decide +kernel)) ?_
  refine zfmc (r_icmp_ge h (pc := 12) (off := 43) (by decide +kernel) 55 (by decide +kernel)) ?_
  refine zfmc (r_iload_n h (pc := 15) (kf := 2) 2 (by decide +kernel) rfl) ?_
  refine zfmc (r_if_eq h (pc := 16) (off := 39) (by decide +kernel) 55 (by decide +kernel)) ?_
  refine zfmc (r_aload_n h (pc := 19) (kf := 0) 0 (by decide +kernel) rfl) ?_
  refine zfmc (r_getf h (pc := 20) (ix := 12) (by decide +kernel) ckX3 0 (by decide) wk_3f6f16f699) ?_
  refine zfmc (r_getstatic h (pc := 23) (ix := 192) (by decide +kernel) (.ref (zeK E 28)) (zx_sg h.ok 28 (by decide)) wk_3fe3158570) ?_
  refine zfmc (r_callV h (pc := 26) (ix := 64) (by decide +kernel) ckX10 1 mcX10_take wk_6a3acea010 wk_d2da84ecec wk_27f3148387 rfl) ?_
  refine zfmc (r_if_eq h (pc := 29) (off := 26) (by decide +kernel) 55 (by decide +kernel)) ?_
  refine zfmc (r_aload_n h (pc := 32) (kf := 0) 0 (by decide +kernel) rfl) ?_
  refine zfmc (r_iload_n h (pc := 33) (kf := 1) 1 (by decide +kernel) rfl) ?_
  refine zfmc (r_callV h (pc := 34) (ix := 189) (by decide +kernel) ckX3 1 mcX3_both wk_75be0989ea wk_9358bbacdf wk_5471635e9c rfl) ?_
  refine zfmc (r_istore_n h (pc := 37) (kf := 2) 2 (by decide +kernel) rfl (by decide +kernel)) ?_
  refine zfmc (r_aload_n h (pc := 38) (kf := 0) 0 (by decide +kernel) rfl) ?_
  refine zfmc (r_getf h (pc := 39) (ix := 28) (by decide +kernel) ckX3 2 (by decide) wk_968794fd9f) ?_
  refine zfmc (r_getstatic h (pc := 42) (ix := 192) (by decide +kernel) (.ref (zeK E 28)) (zx_sg h.ok 28 (by decide)) wk_3fe3158570) ?_
  refine zfmc (r_iconst h (pc := 45) (z := 0) (by decide +kernel) (0) (by decide +kernel)) ?_
  refine zfmc (r_callV h (pc := 46) (ix := 161) (by decide +kernel) ckX1 2 mcX1_add wk_6580a0eac1 wk_b89a1f2ee0 wk_873ac87f08 rfl) ?_
  refine zfmc (r_iinc h (pc := 49) 3 (z := 1) (by decide +kernel) (1) (by decide +kernel) (by decide +kernel)) ?_
  refine zfmc (r_goto h (pc := 52) (off := -44) (by decide +kernel) 8 (by decide +kernel)) ?_
  refine zfmc (r_iload_n h (pc := 55) (kf := 2) 2 (by decide +kernel) rfl) ?_
  refine zfmc (r_zreturn h (pc := 56) (by decide +kernel) rfl) ?_
  exact zfm0)
def tb_X3_both (E : ZEX) (d mc ms : Nat) : List (Nat × ZStep) := [(0, s_aload 0 1), (1, s_iload 1 2), (2, s_callV E d mc ms 2 MX3_single 1 5), (5, s_istore 2 6), (6, s_const (.int (0)) 7), (7, s_istore 3 8), (8, s_iload 3 9), (9, s_const (.int (400)) 12), (12, s_icmp_ge 55 15), (15, s_iload 2 16), (16, s_if_eq 55 19), (19, s_aload 0 20), (20, s_getf 2 0 23), (23, s_const (.ref (zeK E 27)) 26), (26, s_callV E d mc ms 9 MX10_take 1 29), (29, s_if_eq 55 32), (32, s_aload 0 33), (33, s_iload 1 34), (34, s_callV E d mc ms 2 MX3_single 1 37), (37, s_istore 2 38), (38, s_aload 0 39), (39, s_getf 2 2 42), (42, s_const (.ref (zeK E 27)) 45), (45, s_const (.int (0)) 46), (46, s_callV E d mc ms 0 MX1_add 2 49), (49, s_iinc 3 (1) 52), (52, s_goto 8), (55, s_iload 2 56), (56, s_zreturn)]
set_option maxRecDepth 20000 in
theorem ok_X3_both {E : ZEX} {X : ZMX} {d mc ms : Nat} {P : ZPT} {T : ZTT} (h : ZCX E X MX3_both d mc ms P T) : ∀ pc, ZRow E X MX3_both mc ms P T pc (ztb (tb_X3_both E d mc ms) pc) := ztb_ok (by
  unfold tb_X3_both
  refine zfmc (r_aload_n h (pc := 0) (kf := 0) 0 (by decide +kernel) rfl) ?_
  refine zfmc (r_iload_n h (pc := 1) (kf := 1) 1 (by decide +kernel) rfl) ?_
  refine zfmc (r_callV h (pc := 2) (ix := 195) (by decide +kernel) ckX3 1 mcX3_single wk_ee23de2ae0 wk_6c1d162e73 wk_072dd17929 rfl) ?_
  refine zfmc (r_istore_n h (pc := 5) (kf := 2) 2 (by decide +kernel) rfl (by decide +kernel)) ?_
  refine zfmc (r_iconst h (pc := 6) (z := 0) (by decide +kernel) (0) (by decide +kernel)) ?_
  refine zfmc (r_istore_n h (pc := 7) (kf := 3) 3 (by decide +kernel) rfl (by decide +kernel)) ?_
  refine zfmc (r_iload_n h (pc := 8) (kf := 3) 3 (by decide +kernel) rfl) ?_
  refine zfmc (r_sipush h (pc := 9) (z := 400) (by decide +kernel) (400) (by decide +kernel)) ?_
  refine zfmc (r_icmp_ge h (pc := 12) (off := 43) (by decide +kernel) 55 (by decide +kernel)) ?_
  refine zfmc (r_iload_n h (pc := 15) (kf := 2) 2 (by decide +kernel) rfl) ?_
  refine zfmc (r_if_eq h (pc := 16) (off := 39) (by decide +kernel) 55 (by decide +kernel)) ?_
  refine zfmc (r_aload_n h (pc := 19) (kf := 0) 0 (by decide +kernel) rfl) ?_
  refine zfmc (r_getf h (pc := 20) (ix := 12) (by decide +kernel) ckX3 0 (by decide) wk_3f6f16f699) ?_
  refine zfmc (r_getstatic h (pc := 23) (ix := 198) (by decide +kernel) (.ref (zeK E 27)) (zx_sg h.ok 27 (by decide)) wk_7159756714) ?_
  refine zfmc (r_callV h (pc := 26) (ix := 64) (by decide +kernel) ckX10 1 mcX10_take wk_6a3acea010 wk_d2da84ecec wk_27f3148387 rfl) ?_
  refine zfmc (r_if_eq h (pc := 29) (off := 26) (by decide +kernel) 55 (by decide +kernel)) ?_
  refine zfmc (r_aload_n h (pc := 32) (kf := 0) 0 (by decide +kernel) rfl) ?_
  refine zfmc (r_iload_n h (pc := 33) (kf := 1) 1 (by decide +kernel) rfl) ?_
  refine zfmc (r_callV h (pc := 34) (ix := 195) (by decide +kernel) ckX3 1 mcX3_single wk_ee23de2ae0 wk_6c1d162e73 wk_072dd17929 rfl) ?_
  refine zfmc (r_istore_n h (pc := 37) (kf := 2) 2 (by decide +kernel) rfl (by decide +kernel)) ?_
  refine zfmc (r_aload_n h (pc := 38) (kf := 0) 0 (by decide +kernel) rfl) ?_
  refine zfmc (r_getf h (pc := 39) (ix := 28) (by decide +kernel) ckX3 2 (by decide) wk_968794fd9f) ?_
  refine zfmc (r_getstatic h (pc := 42) (ix := 198) (by decide +kernel) (.ref (zeK E 27)) (zx_sg h.ok 27 (by decide)) wk_7159756714) ?_
  refine zfmc (r_iconst h (pc := 45) (z := 0) (by decide +kernel) (0) (by decide +kernel)) ?_
  refine zfmc (r_callV h (pc := 46) (ix := 161) (by decide +kernel) ckX1 2 mcX1_add wk_6580a0eac1 wk_b89a1f2ee0 wk_873ac87f08 rfl) ?_
  refine zfmc (r_iinc h (pc := 49) 3 (z := 1) (by decide +kernel) (1) (by decide +kernel) (by decide +kernel)) ?_
  refine zfmc (r_goto h (pc := 52) (off := -44) (by decide +kernel) 8 (by decide +kernel)) ?_
  refine zfmc (r_iload_n h (pc := 55) (kf := 2) 2 (by decide +kernel) rfl) ?_
  refine zfmc (r_zreturn h (pc := 56) (by decide +kernel) rfl) ?_
  exact zfm0)
def tb_X3_single (E : ZEX) (d mc ms : Nat) : List (Nat × ZStep) := [(0, s_aload 0 1), (1, s_getf 2 0 4), (4, s_callV E d mc ms 9 MX10_sign 0 7), (7, s_astore 2 8), (8, s_aload 2 9), (9, s_const (.ref (zeK E 26)) 12), (12, s_acmp_eq 22 15), (15, s_aload 2 16), (16, s_const (.ref (zeK E 33)) 19), (19, s_acmp_ne 94 22), (22, s_iload 1 23), (23, s_const (.int (8)) 25), (25, s_icmp_lt 30 28), (28, s_const (.int (0)) 29), (29, s_zreturn), (30, s_aload 0 31), (31, s_getf 2 0 34), (34, s_callV E d mc ms 9 MX10_advance 0 37), (37, s_aload 2 38), (38, s_const (.ref (zeK E 33)) 41), (41, s_acmp_ne 73 44), (44, s_aload 0 45), (45, s_iload 1 46), (46, s_const (.int (1)) 47), (47, s_iadd 48), (48, s_callV E d mc ms 2 MX3_test 1 51), (51, s_if_eq 71 54), (54, s_aload 0 55), (55, s_getf 2 0 58), (58, s_const (.ref (zeK E 34)) 61), (61, s_callV E d mc ms 9 MX10_take 1 64), (64, s_if_eq 71 67), (67, s_const (.int (1)) 68), (68, s_goto 72), (71, s_const (.int (0)) 72), (72, s_zreturn), (73, s_aload 0 74), (74, s_iload 1 75), (75, s_const (.int (1)) 76), (76, s_iadd 77), (77, s_callV E d mc ms 2 MX3_single 1 80), (80, s_istore 3 81), (81, s_aload 0 82), (82, s_getf 2 2 85), (85, s_const (.ref (zeK E 26)) 88), (88, s_const (.int (0)) 89), (89, s_callV E d mc ms 0 MX1_add 2 92), (92, s_iload 3 93), (93, s_zreturn), (94, s_aload 0 95), (95, s_iload 1 96), (96, s_callV E d mc ms 2 MX3_sum 1 99), (99, s_if_eq 115 102), (102, s_aload 0 103), (103, s_getf 2 0 106), (106, s_callV E d mc ms 9 MX10_sign 0 109), (109, s_callS E d mc ms MX3_isComparison 1 112), (112, s_if_ne 117 115), (115, s_const (.int (0)) 116), (116, s_zreturn), (117, s_aload 0 118), (118, s_getf 2 0 121), (121, s_callV E d mc ms 9 MX10_sign 0 124), (124, s_astore 3 125), (125, s_aload 0 126), (126, s_getf 2 0 129), (129, s_callV E d mc ms 9 MX10_advance 0 132), (132, s_aload 0 133), (133, s_iload 1 134), (134, s_callV E d mc ms 2 MX3_sum 1 137), (137, s_istore 4 139), (139, s_aload 0 140), (140, s_getf 2 2 143), (143, s_aload 3 144), (144, s_const (.int (0)) 145), (145, s_callV E d mc ms 0 MX1_add 2 148), (148, s_iload 4 150), (150, s_zreturn)]
set_option maxRecDepth 20000 in
theorem ok_X3_single {E : ZEX} {X : ZMX} {d mc ms : Nat} {P : ZPT} {T : ZTT} (h : ZCX E X MX3_single d mc ms P T) : ∀ pc, ZRow E X MX3_single mc ms P T pc (ztb (tb_X3_single E d mc ms) pc) := ztb_ok (by
  unfold tb_X3_single
  refine zfmc (r_aload_n h (pc := 0) (kf := 0) 0 (by decide +kernel) rfl) ?_
  refine zfmc (r_getf h (pc := 1) (ix := 12) (by decide +kernel) ckX3 0 (by decide) wk_3f6f16f699) ?_
  refine zfmc (r_callV h (pc := 4) (ix := 47) (by decide +kernel) ckX10 0 mcX10_sign wk_acf175afd6 wk_1aba83112b wk_6775fbb695 rfl) ?_
  refine zfmc (r_astore_n h (pc := 7) (kf := 2) 2 (by decide +kernel) rfl (by decide +kernel)) ?_
  refine zfmc (r_aload_n h (pc := 8) (kf := 2) 2 (by decide +kernel) rfl) ?_
  refine zfmc (r_getstatic h (pc := 9) (ix := 201) (by decide +kernel) (.ref (zeK E 26)) (zx_sg h.ok 26 (by decide)) wk_e05a12e22b) ?_
  refine zfmc (r_acmp_eq h (pc := 12) (off := 10) (by decide +kernel) 22 (by decide +kernel)) ?_
  refine zfmc (r_aload_n h (pc := 15) (kf := 2) 2 (by decide +kernel) rfl) ?_
  refine zfmc (r_getstatic h (pc := 16) (ix := 204) (by decide +kernel) (.ref (zeK E 33)) (zx_sg h.ok 33 (by decide)) wk_6733893bd7) ?_
  refine zfmc (r_acmp_ne h (pc := 19) (off := 75) (by decide +kernel) 94 (by decide +kernel)) ?_
  refine zfmc (r_iload_n h (pc := 22) (kf := 1) 1 (by decide +kernel) rfl) ?_
  refine zfmc (r_bipush h (pc := 23) (z := 8) (by decide +kernel) (8) (by decide +kernel)) ?_
  refine zfmc (r_icmp_lt h (pc := 25) (off := 5) (by decide +kernel) 30 (by decide +kernel)) ?_
  refine zfmc (r_iconst h (pc := 28) (z := 0) (by decide +kernel) (0) (by decide +kernel)) ?_
  refine zfmc (r_zreturn h (pc := 29) (by decide +kernel) rfl) ?_
  refine zfmc (r_aload_n h (pc := 30) (kf := 0) 0 (by decide +kernel) rfl) ?_
  refine zfmc (r_getf h (pc := 31) (ix := 12) (by decide +kernel) ckX3 0 (by decide) wk_3f6f16f699) ?_
  refine zfmc (r_callV h (pc := 34) (ix := 141) (by decide +kernel) ckX10 0 mcX10_advance wk_6cd8203c8a wk_81f664b079 wk_add6c799bb rfl) ?_
  refine zfmc (r_aload_n h (pc := 37) (kf := 2) 2 (by decide +kernel) rfl) ?_
  refine zfmc (r_getstatic h (pc := 38) (ix := 204) (by decide +kernel) (.ref (zeK E 33)) (zx_sg h.ok 33 (by decide)) wk_6733893bd7) ?_
  refine zfmc (r_acmp_ne h (pc := 41) (off := 32) (by decide +kernel) 73 (by decide +kernel)) ?_
  refine zfmc (r_aload_n h (pc := 44) (kf := 0) 0 (by decide +kernel) rfl) ?_
  refine zfmc (r_iload_n h (pc := 45) (kf := 1) 1 (by decide +kernel) rfl) ?_
  refine zfmc (r_iconst h (pc := 46) (z := 1) (by decide +kernel) (1) (by decide +kernel)) ?_
  refine zfmc (r_iadd h (pc := 47) (by decide +kernel)) ?_
  refine zfmc (r_callV h (pc := 48) (ix := 157) (by decide +kernel) ckX3 1 mcX3_test wk_35bc6e6a5f wk_a18c3bb426 wk_bca11d2673 rfl) ?_
  refine zfmc (r_if_eq h (pc := 51) (off := 20) (by decide +kernel) 71 (by decide +kernel)) ?_
  refine zfmc (r_aload_n h (pc := 54) (kf := 0) 0 (by decide +kernel) rfl) ?_
  refine zfmc (r_getf h (pc := 55) (ix := 12) (by decide +kernel) ckX3 0 (by decide) wk_3f6f16f699) ?_
  refine zfmc (r_getstatic h (pc := 58) (ix := 207) (by decide +kernel) (.ref (zeK E 34)) (zx_sg h.ok 34 (by decide)) wk_2331165309) ?_
  refine zfmc (r_callV h (pc := 61) (ix := 64) (by decide +kernel) ckX10 1 mcX10_take wk_6a3acea010 wk_d2da84ecec wk_27f3148387 rfl) ?_
  refine zfmc (r_if_eq h (pc := 64) (off := 7) (by decide +kernel) 71 (by decide +kernel)) ?_
  refine zfmc (r_iconst h (pc := 67) (z := 1) (by decide +kernel) (1) (by decide +kernel)) ?_
  refine zfmc (r_goto h (pc := 68) (off := 4) (by decide +kernel) 72 (by decide +kernel)) ?_
  refine zfmc (r_iconst h (pc := 71) (z := 0) (by decide +kernel) (0) (by decide +kernel)) ?_
  refine zfmc (r_zreturn h (pc := 72) (by decide +kernel) rfl) ?_
  refine zfmc (r_aload_n h (pc := 73) (kf := 0) 0 (by decide +kernel) rfl) ?_
  refine zfmc (r_iload_n h (pc := 74) (kf := 1) 1 (by decide +kernel) rfl) ?_
  refine zfmc (r_iconst h (pc := 75) (z := 1) (by decide +kernel) (1) (by decide +kernel)) ?_
  refine zfmc (r_iadd h (pc := 76) (by decide +kernel)) ?_
  refine zfmc (r_callV h (pc := 77) (ix := 195) (by decide +kernel) ckX3 1 mcX3_single wk_ee23de2ae0 wk_6c1d162e73 wk_072dd17929 rfl) ?_
  refine zfmc (r_istore_n h (pc := 80) (kf := 3) 3 (by decide +kernel) rfl (by decide +kernel)) ?_
  refine zfmc (r_aload_n h (pc := 81) (kf := 0) 0 (by decide +kernel) rfl) ?_
  refine zfmc (r_getf h (pc := 82) (ix := 28) (by decide +kernel) ckX3 2 (by decide) wk_968794fd9f) ?_
  refine zfmc (r_getstatic h (pc := 85) (ix := 201) (by decide +kernel) (.ref (zeK E 26)) (zx_sg h.ok 26 (by decide)) wk_e05a12e22b) ?_
  refine zfmc (r_iconst h (pc := 88) (z := 0) (by decide +kernel) (0) (by decide +kernel)) ?_
  refine zfmc (r_callV h (pc := 89) (ix := 161) (by decide +kernel) ckX1 2 mcX1_add wk_6580a0eac1 wk_b89a1f2ee0 wk_873ac87f08 rfl) ?_
  refine zfmc (r_iload_n h (pc := 92) (kf := 3) 3 (by decide +kernel) rfl) ?_
  refine zfmc (r_zreturn h (pc := 93) (by decide +kernel) rfl) ?_
  refine zfmc (r_aload_n h (pc := 94) (kf := 0) 0 (by decide +kernel) rfl) ?_
  refine zfmc (r_iload_n h (pc := 95) (kf := 1) 1 (by decide +kernel) rfl) ?_
  refine zfmc (r_callV h (pc := 96) (ix := 177) (by decide +kernel) ckX3 1 mcX3_sum wk_c9b9e1f4cd wk_92f25ea6c7 wk_6f515a7a08 rfl) ?_
  refine zfmc (r_if_eq h (pc := 99) (off := 16) (by decide +kernel) 115 (by decide +kernel)) ?_
  refine zfmc (r_aload_n h (pc := 102) (kf := 0) 0 (by decide +kernel) rfl) ?_
  refine zfmc (r_getf h (pc := 103) (ix := 12) (by decide +kernel) ckX3 0 (by decide) wk_3f6f16f699) ?_
  refine zfmc (r_callV h (pc := 106) (ix := 47) (by decide +kernel) ckX10 0 mcX10_sign wk_acf175afd6 wk_1aba83112b wk_6775fbb695 rfl) ?_
  refine zfmc (r_callS h (pc := 109) (ix := 210) (by decide +kernel) 1 mcX3_isComparison wk_34523ded94 wk_566f99d1ef) ?_
  refine zfmc (r_if_ne h (pc := 112) (off := 5) (by decide +kernel) 117 (by decide +kernel)) ?_
  refine zfmc (r_iconst h (pc := 115) (z := 0) (by decide +kernel) (0) (by decide +kernel)) ?_
  refine zfmc (r_zreturn h (pc := 116) (by decide +kernel) rfl) ?_
  refine zfmc (r_aload_n h (pc := 117) (kf := 0) 0 (by decide +kernel) rfl) ?_
  refine zfmc (r_getf h (pc := 118) (ix := 12) (by decide +kernel) ckX3 0 (by decide) wk_3f6f16f699) ?_
  refine zfmc (r_callV h (pc := 121) (ix := 47) (by decide +kernel) ckX10 0 mcX10_sign wk_acf175afd6 wk_1aba83112b wk_6775fbb695 rfl) ?_
  refine zfmc (r_astore_n h (pc := 124) (kf := 3) 3 (by decide +kernel) rfl (by decide +kernel)) ?_
  refine zfmc (r_aload_n h (pc := 125) (kf := 0) 0 (by decide +kernel) rfl) ?_
  refine zfmc (r_getf h (pc := 126) (ix := 12) (by decide +kernel) ckX3 0 (by decide) wk_3f6f16f699) ?_
  refine zfmc (r_callV h (pc := 129) (ix := 141) (by decide +kernel) ckX10 0 mcX10_advance wk_6cd8203c8a wk_81f664b079 wk_add6c799bb rfl) ?_
  refine zfmc (r_aload_n h (pc := 132) (kf := 0) 0 (by decide +kernel) rfl) ?_
  refine zfmc (r_iload_n h (pc := 133) (kf := 1) 1 (by decide +kernel) rfl) ?_
  refine zfmc (r_callV h (pc := 134) (ix := 177) (by decide +kernel) ckX3 1 mcX3_sum wk_c9b9e1f4cd wk_92f25ea6c7 wk_6f515a7a08 rfl) ?_
  refine zfmc (r_istore h (pc := 137) 4 (by decide +kernel) (by decide +kernel)) ?_
  refine zfmc (r_aload_n h (pc := 139) (kf := 0) 0 (by decide +kernel) rfl) ?_
  refine zfmc (r_getf h (pc := 140) (ix := 28) (by decide +kernel) ckX3 2 (by decide) wk_968794fd9f) ?_
  refine zfmc (r_aload_n h (pc := 143) (kf := 3) 3 (by decide +kernel) rfl) ?_
  refine zfmc (r_iconst h (pc := 144) (z := 0) (by decide +kernel) (0) (by decide +kernel)) ?_
  refine zfmc (r_callV h (pc := 145) (ix := 161) (by decide +kernel) ckX1 2 mcX1_add wk_6580a0eac1 wk_b89a1f2ee0 wk_873ac87f08 rfl) ?_
  refine zfmc (r_iload h (pc := 148) 4 (by decide +kernel)) ?_
  refine zfmc (r_zreturn h (pc := 150) (by decide +kernel) rfl) ?_
  exact zfm0)
def tb_X3_isComparison (E : ZEX) (d mc ms : Nat) : List (Nat × ZStep) := [(0, s_aload 0 1), (1, s_const (.ref (zeK E 41)) 4), (4, s_acmp_eq 35 7), (7, s_aload 0 8), (8, s_const (.ref (zeK E 42)) 11), (11, s_acmp_eq 35 14), (14, s_aload 0 15), (15, s_const (.ref (zeK E 43)) 18), (18, s_acmp_eq 35 21), (21, s_aload 0 22), (22, s_const (.ref (zeK E 44)) 25), (25, s_acmp_eq 35 28), (28, s_aload 0 29), (29, s_const (.ref (zeK E 45)) 32), (32, s_acmp_ne 39 35), (35, s_const (.int (1)) 36), (36, s_goto 40), (39, s_const (.int (0)) 40), (40, s_zreturn)]
set_option maxRecDepth 20000 in
theorem ok_X3_isComparison {E : ZEX} {X : ZMX} {d mc ms : Nat} {P : ZPT} {T : ZTT} (h : ZCX E X MX3_isComparison d mc ms P T) : ∀ pc, ZRow E X MX3_isComparison mc ms P T pc (ztb (tb_X3_isComparison E d mc ms) pc) := ztb_ok (by
  unfold tb_X3_isComparison
  refine zfmc (r_aload_n h (pc := 0) (kf := 0) 0 (by decide +kernel) rfl) ?_
  refine zfmc (r_getstatic h (pc := 1) (ix := 213) (by decide +kernel) (.ref (zeK E 41)) (zx_sg h.ok 41 (by decide)) wk_feba782f04) ?_
  refine zfmc (r_acmp_eq h (pc := 4) (off := 31) (by decide +kernel) 35 (by decide +kernel)) ?_
  refine zfmc (r_aload_n h (pc := 7) (kf := 0) 0 (by decide +kernel) rfl) ?_
  refine zfmc (r_getstatic h (pc := 8) (ix := 216) (by decide +kernel) (.ref (zeK E 42)) (zx_sg h.ok 42 (by decide)) wk_34e23ba0de) ?_
  refine zfmc (r_acmp_eq h (pc := 11) (off := 24) (by decide +kernel) 35 (by decide +kernel)) ?_
  refine zfmc (r_aload_n h (pc := 14) (kf := 0) 0 (by decide +kernel) rfl) ?_
  refine zfmc (r_getstatic h (pc := 15) (ix := 219) (by decide +kernel) (.ref (zeK E 43)) (zx_sg h.ok 43 (by decide)) wk_828a8fe6e6) ?_
  refine zfmc (r_acmp_eq h (pc := 18) (off := 17) (by decide +kernel) 35 (by decide +kernel)) ?_
  refine zfmc (r_aload_n h (pc := 21) (kf := 0) 0 (by decide +kernel) rfl) ?_
  refine zfmc (r_getstatic h (pc := 22) (ix := 222) (by decide +kernel) (.ref (zeK E 44)) (zx_sg h.ok 44 (by decide)) wk_6b5679d041) ?_
  refine zfmc (r_acmp_eq h (pc := 25) (off := 10) (by decide +kernel) 35 (by decide +kernel)) ?_
  refine zfmc (r_aload_n h (pc := 28) (kf := 0) 0 (by decide +kernel) rfl) ?_
  refine zfmc (r_getstatic h (pc := 29) (ix := 225) (by decide +kernel) (.ref (zeK E 45)) (zx_sg h.ok 45 (by decide)) wk_1671e91d55) ?_
  refine zfmc (r_acmp_ne h (pc := 32) (off := 7) (by decide +kernel) 39 (by decide +kernel)) ?_
  refine zfmc (r_iconst h (pc := 35) (z := 1) (by decide +kernel) (1) (by decide +kernel)) ?_
  refine zfmc (r_goto h (pc := 36) (off := 4) (by decide +kernel) 40 (by decide +kernel)) ?_
  refine zfmc (r_iconst h (pc := 39) (z := 0) (by decide +kernel) (0) (by decide +kernel)) ?_
  refine zfmc (r_zreturn h (pc := 40) (by decide +kernel) rfl) ?_
  exact zfm0)
def tb_X3_sum (E : ZEX) (d mc ms : Nat) : List (Nat × ZStep) := [(0, s_aload 0 1), (1, s_iload 1 2), (2, s_callV E d mc ms 2 MX3_product 1 5), (5, s_istore 2 6), (6, s_const (.int (0)) 7), (7, s_istore 3 8), (8, s_iload 3 9), (9, s_const (.int (400)) 12), (12, s_icmp_ge 73 15), (15, s_iload 2 16), (16, s_if_eq 73 19), (19, s_aload 0 20), (20, s_getf 2 0 23), (23, s_const (.ref (zeK E 37)) 26), (26, s_const (.ref (zeK E 38)) 29), (29, s_callV E d mc ms 9 MX10_isEither 2 32), (32, s_if_eq 73 35), (35, s_aload 0 36), (36, s_getf 2 0 39), (39, s_callV E d mc ms 9 MX10_sign 0 42), (42, s_astore 4 44), (44, s_aload 0 45), (45, s_getf 2 0 48), (48, s_callV E d mc ms 9 MX10_advance 0 51), (51, s_aload 0 52), (52, s_iload 1 53), (53, s_callV E d mc ms 2 MX3_product 1 56), (56, s_istore 2 57), (57, s_aload 0 58), (58, s_getf 2 2 61), (61, s_aload 4 63), (63, s_const (.int (0)) 64), (64, s_callV E d mc ms 0 MX1_add 2 67), (67, s_iinc 3 (1) 70), (70, s_goto 8), (73, s_iload 2 74), (74, s_zreturn)]
set_option maxRecDepth 20000 in
theorem ok_X3_sum {E : ZEX} {X : ZMX} {d mc ms : Nat} {P : ZPT} {T : ZTT} (h : ZCX E X MX3_sum d mc ms P T) : ∀ pc, ZRow E X MX3_sum mc ms P T pc (ztb (tb_X3_sum E d mc ms) pc) := ztb_ok (by
  unfold tb_X3_sum
  refine zfmc (r_aload_n h (pc := 0) (kf := 0) 0 (by decide +kernel) rfl) ?_
  refine zfmc (r_iload_n h (pc := 1) (kf := 1) 1 (by decide +kernel) rfl) ?_
  refine zfmc (r_callV h (pc := 2) (ix := 228) (by decide +kernel) ckX3 1 mcX3_product wk_6d87561bc5 wk_802137d259 wk_e139797d0e rfl) ?_
  refine zfmc (r_istore_n h (pc := 5) (kf := 2) 2 (by decide +kernel) rfl (by decide +kernel)) ?_
  refine zfmc (r_iconst h (pc := 6) (z := 0) (by decide +kernel) (0) (by decide +kernel)) ?_
  refine zfmc (r_istore_n h (pc := 7) (kf := 3) 3 (by decide +kernel) rfl (by decide +kernel)) ?_
  refine zfmc (r_iload_n h (pc := 8) (kf := 3) 3 (by decide +kernel) rfl) ?_
  refine zfmc (r_sipush h (pc := 9) (z := 400) (by decide +kernel) (400) (by decide +kernel)) ?_
  refine zfmc (r_icmp_ge h (pc := 12) (off := 61) (by decide +kernel) 73 (by decide +kernel)) ?_
  refine zfmc (r_iload_n h (pc := 15) (kf := 2) 2 (by decide +kernel) rfl) ?_
  refine zfmc (r_if_eq h (pc := 16) (off := 57) (by decide +kernel) 73 (by decide +kernel)) ?_
  refine zfmc (r_aload_n h (pc := 19) (kf := 0) 0 (by decide +kernel) rfl) ?_
  refine zfmc (r_getf h (pc := 20) (ix := 12) (by decide +kernel) ckX3 0 (by decide) wk_3f6f16f699) ?_
  refine zfmc (r_getstatic h (pc := 23) (ix := 231) (by decide +kernel) (.ref (zeK E 37)) (zx_sg h.ok 37 (by decide)) wk_2ccd3f849a) ?_
  refine zfmc (r_getstatic h (pc := 26) (ix := 234) (by decide +kernel) (.ref (zeK E 38)) (zx_sg h.ok 38 (by decide)) wk_ba60e6e715) ?_
  refine zfmc (r_callV h (pc := 29) (ix := 237) (by decide +kernel) ckX10 2 mcX10_isEither wk_ee439aebca wk_b476023d73 wk_30c8677bbb rfl) ?_
  refine zfmc (r_if_eq h (pc := 32) (off := 41) (by decide +kernel) 73 (by decide +kernel)) ?_
  refine zfmc (r_aload_n h (pc := 35) (kf := 0) 0 (by decide +kernel) rfl) ?_
  refine zfmc (r_getf h (pc := 36) (ix := 12) (by decide +kernel) ckX3 0 (by decide) wk_3f6f16f699) ?_
  refine zfmc (r_callV h (pc := 39) (ix := 47) (by decide +kernel) ckX10 0 mcX10_sign wk_acf175afd6 wk_1aba83112b wk_6775fbb695 rfl) ?_
  refine zfmc (r_astore h (pc := 42) 4 (by decide +kernel) (by decide +kernel)) ?_
  refine zfmc (r_aload_n h (pc := 44) (kf := 0) 0 (by decide +kernel) rfl) ?_
  refine zfmc (r_getf h (pc := 45) (ix := 12) (by decide +kernel) ckX3 0 (by decide) wk_3f6f16f699) ?_
  refine zfmc (r_callV h (pc := 48) (ix := 141) (by decide +kernel) ckX10 0 mcX10_advance wk_6cd8203c8a wk_81f664b079 wk_add6c799bb rfl) ?_
  refine zfmc (r_aload_n h (pc := 51) (kf := 0) 0 (by decide +kernel) rfl) ?_
  refine zfmc (r_iload_n h (pc := 52) (kf := 1) 1 (by decide +kernel) rfl) ?_
  refine zfmc (r_callV h (pc := 53) (ix := 228) (by decide +kernel) ckX3 1 mcX3_product wk_6d87561bc5 wk_802137d259 wk_e139797d0e rfl) ?_
  refine zfmc (r_istore_n h (pc := 56) (kf := 2) 2 (by decide +kernel) rfl (by decide +kernel)) ?_
  refine zfmc (r_aload_n h (pc := 57) (kf := 0) 0 (by decide +kernel) rfl) ?_
  refine zfmc (r_getf h (pc := 58) (ix := 28) (by decide +kernel) ckX3 2 (by decide) wk_968794fd9f) ?_
  refine zfmc (r_aload h (pc := 61) 4 (by decide +kernel)) ?_
  refine zfmc (r_iconst h (pc := 63) (z := 0) (by decide +kernel) (0) (by decide +kernel)) ?_
  refine zfmc (r_callV h (pc := 64) (ix := 161) (by decide +kernel) ckX1 2 mcX1_add wk_6580a0eac1 wk_b89a1f2ee0 wk_873ac87f08 rfl) ?_
  refine zfmc (r_iinc h (pc := 67) 3 (z := 1) (by decide +kernel) (1) (by decide +kernel) (by decide +kernel)) ?_
  refine zfmc (r_goto h (pc := 70) (off := -62) (by decide +kernel) 8 (by decide +kernel)) ?_
  refine zfmc (r_iload_n h (pc := 73) (kf := 2) 2 (by decide +kernel) rfl) ?_
  refine zfmc (r_zreturn h (pc := 74) (by decide +kernel) rfl) ?_
  exact zfm0)
def tb_X3_product (E : ZEX) (d mc ms : Nat) : List (Nat × ZStep) := [(0, s_aload 0 1), (1, s_iload 1 2), (2, s_callV E d mc ms 2 MX3_value 1 5), (5, s_istore 2 6), (6, s_const (.int (0)) 7), (7, s_istore 3 8), (8, s_iload 3 9), (9, s_const (.int (400)) 12), (12, s_icmp_ge 73 15), (15, s_iload 2 16), (16, s_if_eq 73 19), (19, s_aload 0 20), (20, s_getf 2 0 23), (23, s_const (.ref (zeK E 39)) 26), (26, s_const (.ref (zeK E 40)) 29), (29, s_callV E d mc ms 9 MX10_isEither 2 32), (32, s_if_eq 73 35), (35, s_aload 0 36), (36, s_getf 2 0 39), (39, s_callV E d mc ms 9 MX10_sign 0 42), (42, s_astore 4 44), (44, s_aload 0 45), (45, s_getf 2 0 48), (48, s_callV E d mc ms 9 MX10_advance 0 51), (51, s_aload 0 52), (52, s_iload 1 53), (53, s_callV E d mc ms 2 MX3_value 1 56), (56, s_istore 2 57), (57, s_aload 0 58), (58, s_getf 2 2 61), (61, s_aload 4 63), (63, s_const (.int (0)) 64), (64, s_callV E d mc ms 0 MX1_add 2 67), (67, s_iinc 3 (1) 70), (70, s_goto 8), (73, s_iload 2 74), (74, s_zreturn)]
set_option maxRecDepth 20000 in
theorem ok_X3_product {E : ZEX} {X : ZMX} {d mc ms : Nat} {P : ZPT} {T : ZTT} (h : ZCX E X MX3_product d mc ms P T) : ∀ pc, ZRow E X MX3_product mc ms P T pc (ztb (tb_X3_product E d mc ms) pc) := ztb_ok (by
  unfold tb_X3_product
  refine zfmc (r_aload_n h (pc := 0) (kf := 0) 0 (by decide +kernel) rfl) ?_
  refine zfmc (r_iload_n h (pc := 1) (kf := 1) 1 (by decide +kernel) rfl) ?_
  refine zfmc (r_callV h (pc := 2) (ix := 241) (by decide +kernel) ckX3 1 mcX3_value wk_4c75cfa4ee wk_316f77a252 wk_e3eb318b86 rfl) ?_
  refine zfmc (r_istore_n h (pc := 5) (kf := 2) 2 (by decide +kernel) rfl (by decide +kernel)) ?_
  refine zfmc (r_iconst h (pc := 6) (z := 0) (by decide +kernel) (0) (by decide +kernel)) ?_
  refine zfmc (r_istore_n h (pc := 7) (kf := 3) 3 (by decide +kernel) rfl (by decide +kernel)) ?_
  refine zfmc (r_iload_n h (pc := 8) (kf := 3) 3 (by decide +kernel) rfl) ?_
  refine zfmc (r_sipush h (pc := 9) (z := 400) (by decide +kernel) (400) (by decide +kernel)) ?_
  refine zfmc (r_icmp_ge h (pc := 12) (off := 61) (by decide +kernel) 73 (by decide +kernel)) ?_
  refine zfmc (r_iload_n h (pc := 15) (kf := 2) 2 (by decide +kernel) rfl) ?_
  refine zfmc (r_if_eq h (pc := 16) (off := 57) (by decide +kernel) 73 (by decide +kernel)) ?_
  refine zfmc (r_aload_n h (pc := 19) (kf := 0) 0 (by decide +kernel) rfl) ?_
  refine zfmc (r_getf h (pc := 20) (ix := 12) (by decide +kernel) ckX3 0 (by decide) wk_3f6f16f699) ?_
  refine zfmc (r_getstatic h (pc := 23) (ix := 243) (by decide +kernel) (.ref (zeK E 39)) (zx_sg h.ok 39 (by decide)) wk_5dc5a9ccba) ?_
  refine zfmc (r_getstatic h (pc := 26) (ix := 246) (by decide +kernel) (.ref (zeK E 40)) (zx_sg h.ok 40 (by decide)) wk_c618f78459) ?_
  refine zfmc (r_callV h (pc := 29) (ix := 237) (by decide +kernel) ckX10 2 mcX10_isEither wk_ee439aebca wk_b476023d73 wk_30c8677bbb rfl) ?_
  refine zfmc (r_if_eq h (pc := 32) (off := 41) (by decide +kernel) 73 (by decide +kernel)) ?_
  refine zfmc (r_aload_n h (pc := 35) (kf := 0) 0 (by decide +kernel) rfl) ?_
  refine zfmc (r_getf h (pc := 36) (ix := 12) (by decide +kernel) ckX3 0 (by decide) wk_3f6f16f699) ?_
  refine zfmc (r_callV h (pc := 39) (ix := 47) (by decide +kernel) ckX10 0 mcX10_sign wk_acf175afd6 wk_1aba83112b wk_6775fbb695 rfl) ?_
  refine zfmc (r_astore h (pc := 42) 4 (by decide +kernel) (by decide +kernel)) ?_
  refine zfmc (r_aload_n h (pc := 44) (kf := 0) 0 (by decide +kernel) rfl) ?_
  refine zfmc (r_getf h (pc := 45) (ix := 12) (by decide +kernel) ckX3 0 (by decide) wk_3f6f16f699) ?_
  refine zfmc (r_callV h (pc := 48) (ix := 141) (by decide +kernel) ckX10 0 mcX10_advance wk_6cd8203c8a wk_81f664b079 wk_add6c799bb rfl) ?_
  refine zfmc (r_aload_n h (pc := 51) (kf := 0) 0 (by decide +kernel) rfl) ?_
  refine zfmc (r_iload_n h (pc := 52) (kf := 1) 1 (by decide +kernel) rfl) ?_
  refine zfmc (r_callV h (pc := 53) (ix := 241) (by decide +kernel) ckX3 1 mcX3_value wk_4c75cfa4ee wk_316f77a252 wk_e3eb318b86 rfl) ?_
  refine zfmc (r_istore_n h (pc := 56) (kf := 2) 2 (by decide +kernel) rfl (by decide +kernel)) ?_
  refine zfmc (r_aload_n h (pc := 57) (kf := 0) 0 (by decide +kernel) rfl) ?_
  refine zfmc (r_getf h (pc := 58) (ix := 28) (by decide +kernel) ckX3 2 (by decide) wk_968794fd9f) ?_
  refine zfmc (r_aload h (pc := 61) 4 (by decide +kernel)) ?_
  refine zfmc (r_iconst h (pc := 63) (z := 0) (by decide +kernel) (0) (by decide +kernel)) ?_
  refine zfmc (r_callV h (pc := 64) (ix := 161) (by decide +kernel) ckX1 2 mcX1_add wk_6580a0eac1 wk_b89a1f2ee0 wk_873ac87f08 rfl) ?_
  refine zfmc (r_iinc h (pc := 67) 3 (z := 1) (by decide +kernel) (1) (by decide +kernel) (by decide +kernel)) ?_
  refine zfmc (r_goto h (pc := 70) (off := -62) (by decide +kernel) 8 (by decide +kernel)) ?_
  refine zfmc (r_iload_n h (pc := 73) (kf := 2) 2 (by decide +kernel) rfl) ?_
  refine zfmc (r_zreturn h (pc := 74) (by decide +kernel) rfl) ?_
  exact zfm0)
def tb_X3_value (E : ZEX) (d mc ms : Nat) : List (Nat × ZStep) := [(0, s_aload 0 1), (1, s_getf 2 0 4), (4, s_callV E d mc ms 9 MX10_sign 0 7), (7, s_astore 2 8), (8, s_const (.ref (zeK E 47)) 11), (11, s_aload 2 12), (12, s_callK E d mc ms 0 46 MJx29ce0_ordinal_8abf5 0 15), (15, s_ialdK E 16), (16, s_tsw 9 [84, 84, 84, 84, 84, 84, 109, 109, 109, 169, 169, 193, 229] 277), (84, s_aload 0 85), (85, s_getf 2 2 88), (88, s_aload 2 89), (89, s_aload 0 90), (90, s_getf 2 0 93), (93, s_callV E d mc ms 9 MX10_value 0 96), (96, s_l2i 97), (97, s_callV E d mc ms 0 MX1_add 2 100), (100, s_aload 0 101), (101, s_getf 2 0 104), (104, s_callV E d mc ms 9 MX10_advance 0 107), (107, s_const (.int (1)) 108), (108, s_zreturn), (109, s_aload 0 110), (110, s_getf 2 0 113), (113, s_callV E d mc ms 9 MX10_advance 0 116), (116, s_aload 0 117), (117, s_getf 2 0 120), (120, s_callV E d mc ms 9 MX10_sign 0 123), (123, s_const (.ref (zeK E 2)) 126), (126, s_acmp_eq 131 129), (129, s_const (.int (0)) 130), (130, s_zreturn), (131, s_aload 0 132), (132, s_getf 2 2 135), (135, s_aload 2 136), (136, s_aload 0 137), (137, s_getf 2 1 140), (140, s_aload 0 141), (141, s_getf 2 0 144), (144, s_callV E d mc ms 9 MX10_value 0 147), (147, s_aload 0 148), (148, s_getf 2 0 151), (151, s_callV E d mc ms 9 MX10_place 0 154), (154, s_callV E d mc ms 6 MX7_cardNamed 2 157), (157, s_callV E d mc ms 0 MX1_add 2 160), (160, s_aload 0 161), (161, s_getf 2 0 164), (164, s_callV E d mc ms 9 MX10_advance 0 167), (167, s_const (.int (1)) 168), (168, s_zreturn), (169, s_aload 0 170), (170, s_getf 2 0 173), (173, s_callV E d mc ms 9 MX10_advance 0 176), (176, s_aload 0 177), (177, s_iload 1 178), (178, s_callV E d mc ms 2 MX3_pair 1 181), (181, s_istore 3 182), (182, s_aload 0 183), (183, s_getf 2 2 186), (186, s_aload 2 187), (187, s_const (.int (0)) 188), (188, s_callV E d mc ms 0 MX1_add 2 191), (191, s_iload 3 192), (192, s_zreturn), (193, s_iload 1 194), (194, s_const (.int (8)) 196), (196, s_icmp_lt 201 199), (199, s_const (.int (0)) 200), (200, s_zreturn), (201, s_aload 0 202), (202, s_getf 2 0 205), (205, s_callV E d mc ms 9 MX10_advance 0 208), (208, s_aload 0 209), (209, s_iload 1 210), (210, s_const (.int (1)) 211), (211, s_iadd 212), (212, s_callV E d mc ms 2 MX3_value 1 215), (215, s_istore 3 216), (216, s_aload 0 217), (217, s_getf 2 2 220), (220, s_const (.ref (zeK E 4)) 223), (223, s_const (.int (0)) 224), (224, s_callV E d mc ms 0 MX1_add 2 227), (227, s_iload 3 228), (228, s_zreturn), (229, s_iload 1 230), (230, s_const (.int (8)) 232), (232, s_icmp_ge 275 235), (235, s_aload 0 236), (236, s_getf 2 0 239), (239, s_const (.ref (zeK E 31)) 242), (242, s_callV E d mc ms 9 MX10_take 1 245), (245, s_if_eq 275 248), (248, s_aload 0 249), (249, s_iload 1 250), (250, s_const (.int (1)) 251), (251, s_iadd 252), (252, s_callV E d mc ms 2 MX3_sum 1 255), (255, s_if_eq 275 258), (258, s_aload 0 259), (259, s_getf 2 0 262), (262, s_const (.ref (zeK E 32)) 265), (265, s_callV E d mc ms 9 MX10_take 1 268), (268, s_if_eq 275 271), (271, s_const (.int (1)) 272), (272, s_goto 276), (275, s_const (.int (0)) 276), (276, s_zreturn), (277, s_const (.int (0)) 278), (278, s_zreturn)]
set_option maxRecDepth 20000 in
theorem ok_X3_value {E : ZEX} {X : ZMX} {d mc ms : Nat} {P : ZPT} {T : ZTT} (h : ZCX E X MX3_value d mc ms P T) : ∀ pc, ZRow E X MX3_value mc ms P T pc (ztb (tb_X3_value E d mc ms) pc) := ztb_ok (by
  unfold tb_X3_value
  refine zfmc (r_aload_n h (pc := 0) (kf := 0) 0 (by decide +kernel) rfl) ?_
  refine zfmc (r_getf h (pc := 1) (ix := 12) (by decide +kernel) ckX3 0 (by decide) wk_3f6f16f699) ?_
  refine zfmc (r_callV h (pc := 4) (ix := 47) (by decide +kernel) ckX10 0 mcX10_sign wk_acf175afd6 wk_1aba83112b wk_6775fbb695 rfl) ?_
  refine zfmc (r_astore_n h (pc := 7) (kf := 2) 2 (by decide +kernel) rfl (by decide +kernel)) ?_
  refine zfmc (r_getstatic h (pc := 8) (ix := 78) (by decide +kernel) (.ref (zeK E 47)) (zx_sw h.ok) wk_6cc150cebd) ?_
  refine zfmc (r_aload_n h (pc := 11) (kf := 2) 2 (by decide +kernel) rfl) ?_
  refine zfmc (r_callU h (pc := 12) (ix := 84) (by decide +kernel) (zx_sgO2 h.ok) 0 mcJx29ce0_ordinal_8abf5 wk_7da2aaab0b (⟨RX8, "ordinal", "()I"⟩ : MethodName) wk_9c7efb6eb3 wk_7f528e0d7b wk_644ddbbc93 rfl) ?_
  refine zfmc (r_ialdK h (pc := 15) (by decide +kernel)) ?_
  refine zfmc (r_tsw h (pc := 16) (dflt := 261) (lo := 9) (hi := 21) (offs := #[68, 68, 68, 68, 68, 68, 93, 93, 93, 153, 153, 177, 213]) (len := 68) (by decide +kernel) [84, 84, 84, 84, 84, 84, 109, 109, 109, 169, 169, 193, 229] 277 (by decide +kernel) (by decide +kernel) (by decide +kernel)) ?_
  refine zfmc (r_aload_n h (pc := 84) (kf := 0) 0 (by decide +kernel) rfl) ?_
  refine zfmc (r_getf h (pc := 85) (ix := 28) (by decide +kernel) ckX3 2 (by decide) wk_968794fd9f) ?_
  refine zfmc (r_aload_n h (pc := 88) (kf := 2) 2 (by decide +kernel) rfl) ?_
  refine zfmc (r_aload_n h (pc := 89) (kf := 0) 0 (by decide +kernel) rfl) ?_
  refine zfmc (r_getf h (pc := 90) (ix := 12) (by decide +kernel) ckX3 0 (by decide) wk_3f6f16f699) ?_
  refine zfmc (r_callV h (pc := 93) (ix := 133) (by decide +kernel) ckX10 0 mcX10_value wk_74ce23cff9 wk_0cb07f8b7c wk_dfd85f9f0c rfl) ?_
  refine zfmc (r_l2i h (pc := 96) (by decide +kernel)) ?_
  refine zfmc (r_callV h (pc := 97) (ix := 161) (by decide +kernel) ckX1 2 mcX1_add wk_6580a0eac1 wk_b89a1f2ee0 wk_873ac87f08 rfl) ?_
  refine zfmc (r_aload_n h (pc := 100) (kf := 0) 0 (by decide +kernel) rfl) ?_
  refine zfmc (r_getf h (pc := 101) (ix := 12) (by decide +kernel) ckX3 0 (by decide) wk_3f6f16f699) ?_
  refine zfmc (r_callV h (pc := 104) (ix := 141) (by decide +kernel) ckX10 0 mcX10_advance wk_6cd8203c8a wk_81f664b079 wk_add6c799bb rfl) ?_
  refine zfmc (r_iconst h (pc := 107) (z := 1) (by decide +kernel) (1) (by decide +kernel)) ?_
  refine zfmc (r_zreturn h (pc := 108) (by decide +kernel) rfl) ?_
  refine zfmc (r_aload_n h (pc := 109) (kf := 0) 0 (by decide +kernel) rfl) ?_
  refine zfmc (r_getf h (pc := 110) (ix := 12) (by decide +kernel) ckX3 0 (by decide) wk_3f6f16f699) ?_
  refine zfmc (r_callV h (pc := 113) (ix := 141) (by decide +kernel) ckX10 0 mcX10_advance wk_6cd8203c8a wk_81f664b079 wk_add6c799bb rfl) ?_
  refine zfmc (r_aload_n h (pc := 116) (kf := 0) 0 (by decide +kernel) rfl) ?_
  refine zfmc (r_getf h (pc := 117) (ix := 12) (by decide +kernel) ckX3 0 (by decide) wk_3f6f16f699) ?_
  refine zfmc (r_callV h (pc := 120) (ix := 47) (by decide +kernel) ckX10 0 mcX10_sign wk_acf175afd6 wk_1aba83112b wk_6775fbb695 rfl) ?_
  refine zfmc (r_getstatic h (pc := 123) (ix := 130) (by decide +kernel) (.ref (zeK E 2)) (zx_sg h.ok 2 (by decide)) wk_3735bd7b35) ?_
  refine zfmc (r_acmp_eq h (pc := 126) (off := 5) (by decide +kernel) 131 (by decide +kernel)) ?_
  refine zfmc (r_iconst h (pc := 129) (z := 0) (by decide +kernel) (0) (by decide +kernel)) ?_
  refine zfmc (r_zreturn h (pc := 130) (by decide +kernel) rfl) ?_
  refine zfmc (r_aload_n h (pc := 131) (kf := 0) 0 (by decide +kernel) rfl) ?_
  refine zfmc (r_getf h (pc := 132) (ix := 28) (by decide +kernel) ckX3 2 (by decide) wk_968794fd9f) ?_
  refine zfmc (r_aload_n h (pc := 135) (kf := 2) 2 (by decide +kernel) rfl) ?_
  refine zfmc (r_aload_n h (pc := 136) (kf := 0) 0 (by decide +kernel) rfl) ?_
  refine zfmc (r_getf h (pc := 137) (ix := 21) (by decide +kernel) ckX3 1 (by decide) wk_e9f59e26ce) ?_
  refine zfmc (r_aload_n h (pc := 140) (kf := 0) 0 (by decide +kernel) rfl) ?_
  refine zfmc (r_getf h (pc := 141) (ix := 12) (by decide +kernel) ckX3 0 (by decide) wk_3f6f16f699) ?_
  refine zfmc (r_callV h (pc := 144) (ix := 133) (by decide +kernel) ckX10 0 mcX10_value wk_74ce23cff9 wk_0cb07f8b7c wk_dfd85f9f0c rfl) ?_
  refine zfmc (r_aload_n h (pc := 147) (kf := 0) 0 (by decide +kernel) rfl) ?_
  refine zfmc (r_getf h (pc := 148) (ix := 12) (by decide +kernel) ckX3 0 (by decide) wk_3f6f16f699) ?_
  refine zfmc (r_callV h (pc := 151) (ix := 75) (by decide +kernel) ckX10 0 mcX10_place wk_0d6be8514c wk_dc73dd065c wk_04aee528da rfl) ?_
  refine zfmc (r_callV h (pc := 154) (ix := 249) (by decide +kernel) ckX7 2 mcX7_cardNamed wk_094a190833 wk_d7dbdd7854 wk_ffff2eb983 rfl) ?_
  refine zfmc (r_callV h (pc := 157) (ix := 161) (by decide +kernel) ckX1 2 mcX1_add wk_6580a0eac1 wk_b89a1f2ee0 wk_873ac87f08 rfl) ?_
  refine zfmc (r_aload_n h (pc := 160) (kf := 0) 0 (by decide +kernel) rfl) ?_
  refine zfmc (r_getf h (pc := 161) (ix := 12) (by decide +kernel) ckX3 0 (by decide) wk_3f6f16f699) ?_
  refine zfmc (r_callV h (pc := 164) (ix := 141) (by decide +kernel) ckX10 0 mcX10_advance wk_6cd8203c8a wk_81f664b079 wk_add6c799bb rfl) ?_
  refine zfmc (r_iconst h (pc := 167) (z := 1) (by decide +kernel) (1) (by decide +kernel)) ?_
  refine zfmc (r_zreturn h (pc := 168) (by decide +kernel) rfl) ?_
  refine zfmc (r_aload_n h (pc := 169) (kf := 0) 0 (by decide +kernel) rfl) ?_
  refine zfmc (r_getf h (pc := 170) (ix := 12) (by decide +kernel) ckX3 0 (by decide) wk_3f6f16f699) ?_
  refine zfmc (r_callV h (pc := 173) (ix := 141) (by decide +kernel) ckX10 0 mcX10_advance wk_6cd8203c8a wk_81f664b079 wk_add6c799bb rfl) ?_
  refine zfmc (r_aload_n h (pc := 176) (kf := 0) 0 (by decide +kernel) rfl) ?_
  refine zfmc (r_iload_n h (pc := 177) (kf := 1) 1 (by decide +kernel) rfl) ?_
  refine zfmc (r_callV h (pc := 178) (ix := 253) (by decide +kernel) ckX3 1 mcX3_pair wk_0e596c0d1a wk_d01f2d8e8e wk_efbee9528c rfl) ?_
  refine zfmc (r_istore_n h (pc := 181) (kf := 3) 3 (by decide +kernel) rfl (by decide +kernel)) ?_
  refine zfmc (r_aload_n h (pc := 182) (kf := 0) 0 (by decide +kernel) rfl) ?_
  refine zfmc (r_getf h (pc := 183) (ix := 28) (by decide +kernel) ckX3 2 (by decide) wk_968794fd9f) ?_
  refine zfmc (r_aload_n h (pc := 186) (kf := 2) 2 (by decide +kernel) rfl) ?_
  refine zfmc (r_iconst h (pc := 187) (z := 0) (by decide +kernel) (0) (by decide +kernel)) ?_
  refine zfmc (r_callV h (pc := 188) (ix := 161) (by decide +kernel) ckX1 2 mcX1_add wk_6580a0eac1 wk_b89a1f2ee0 wk_873ac87f08 rfl) ?_
  refine zfmc (r_iload_n h (pc := 191) (kf := 3) 3 (by decide +kernel) rfl) ?_
  refine zfmc (r_zreturn h (pc := 192) (by decide +kernel) rfl) ?_
  refine zfmc (r_iload_n h (pc := 193) (kf := 1) 1 (by decide +kernel) rfl) ?_
  refine zfmc (r_bipush h (pc := 194) (z := 8) (by decide +kernel) (8) (by decide +kernel)) ?_
  refine zfmc (r_icmp_lt h (pc := 196) (off := 5) (by decide +kernel) 201 (by decide +kernel)) ?_
  refine zfmc (r_iconst h (pc := 199) (z := 0) (by decide +kernel) (0) (by decide +kernel)) ?_
  refine zfmc (r_zreturn h (pc := 200) (by decide +kernel) rfl) ?_
  refine zfmc (r_aload_n h (pc := 201) (kf := 0) 0 (by decide +kernel) rfl) ?_
  refine zfmc (r_getf h (pc := 202) (ix := 12) (by decide +kernel) ckX3 0 (by decide) wk_3f6f16f699) ?_
  refine zfmc (r_callV h (pc := 205) (ix := 141) (by decide +kernel) ckX10 0 mcX10_advance wk_6cd8203c8a wk_81f664b079 wk_add6c799bb rfl) ?_
  refine zfmc (r_aload_n h (pc := 208) (kf := 0) 0 (by decide +kernel) rfl) ?_
  refine zfmc (r_iload_n h (pc := 209) (kf := 1) 1 (by decide +kernel) rfl) ?_
  refine zfmc (r_iconst h (pc := 210) (z := 1) (by decide +kernel) (1) (by decide +kernel)) ?_
  refine zfmc (r_iadd h (pc := 211) (by decide +kernel)) ?_
  refine zfmc (r_callV h (pc := 212) (ix := 241) (by decide +kernel) ckX3 1 mcX3_value wk_4c75cfa4ee wk_316f77a252 wk_e3eb318b86 rfl) ?_
  refine zfmc (r_istore_n h (pc := 215) (kf := 3) 3 (by decide +kernel) rfl (by decide +kernel)) ?_
  refine zfmc (r_aload_n h (pc := 216) (kf := 0) 0 (by decide +kernel) rfl) ?_
  refine zfmc (r_getf h (pc := 217) (ix := 28) (by decide +kernel) ckX3 2 (by decide) wk_968794fd9f) ?_
  refine zfmc (r_getstatic h (pc := 220) (ix := 256) (by decide +kernel) (.ref (zeK E 4)) (zx_sg h.ok 4 (by decide)) wk_2a4b86f8f9) ?_
  refine zfmc (r_iconst h (pc := 223) (z := 0) (by decide +kernel) (0) (by decide +kernel)) ?_
  refine zfmc (r_callV h (pc := 224) (ix := 161) (by decide +kernel) ckX1 2 mcX1_add wk_6580a0eac1 wk_b89a1f2ee0 wk_873ac87f08 rfl) ?_
  refine zfmc (r_iload_n h (pc := 227) (kf := 3) 3 (by decide +kernel) rfl) ?_
  refine zfmc (r_zreturn h (pc := 228) (by decide +kernel) rfl) ?_
  refine zfmc (r_iload_n h (pc := 229) (kf := 1) 1 (by decide +kernel) rfl) ?_
  refine zfmc (r_bipush h (pc := 230) (z := 8) (by decide +kernel) (8) (by decide +kernel)) ?_
  refine zfmc (r_icmp_ge h (pc := 232) (off := 43) (by decide +kernel) 275 (by decide +kernel)) ?_
  refine zfmc (r_aload_n h (pc := 235) (kf := 0) 0 (by decide +kernel) rfl) ?_
  refine zfmc (r_getf h (pc := 236) (ix := 12) (by decide +kernel) ckX3 0 (by decide) wk_3f6f16f699) ?_
  refine zfmc (r_getstatic h (pc := 239) (ix := 259) (by decide +kernel) (.ref (zeK E 31)) (zx_sg h.ok 31 (by decide)) wk_2a444a9491) ?_
  refine zfmc (r_callV h (pc := 242) (ix := 64) (by decide +kernel) ckX10 1 mcX10_take wk_6a3acea010 wk_d2da84ecec wk_27f3148387 rfl) ?_
  refine zfmc (r_if_eq h (pc := 245) (off := 30) (by decide +kernel) 275 (by decide +kernel)) ?_
  refine zfmc (r_aload_n h (pc := 248) (kf := 0) 0 (by decide +kernel) rfl) ?_
  refine zfmc (r_iload_n h (pc := 249) (kf := 1) 1 (by decide +kernel) rfl) ?_
  refine zfmc (r_iconst h (pc := 250) (z := 1) (by decide +kernel) (1) (by decide +kernel)) ?_
  refine zfmc (r_iadd h (pc := 251) (by decide +kernel)) ?_
  refine zfmc (r_callV h (pc := 252) (ix := 177) (by decide +kernel) ckX3 1 mcX3_sum wk_c9b9e1f4cd wk_92f25ea6c7 wk_6f515a7a08 rfl) ?_
  refine zfmc (r_if_eq h (pc := 255) (off := 20) (by decide +kernel) 275 (by decide +kernel)) ?_
  refine zfmc (r_aload_n h (pc := 258) (kf := 0) 0 (by decide +kernel) rfl) ?_
  refine zfmc (r_getf h (pc := 259) (ix := 12) (by decide +kernel) ckX3 0 (by decide) wk_3f6f16f699) ?_
  refine zfmc (r_getstatic h (pc := 262) (ix := 262) (by decide +kernel) (.ref (zeK E 32)) (zx_sg h.ok 32 (by decide)) wk_b5c760a44a) ?_
  refine zfmc (r_callV h (pc := 265) (ix := 64) (by decide +kernel) ckX10 1 mcX10_take wk_6a3acea010 wk_d2da84ecec wk_27f3148387 rfl) ?_
  refine zfmc (r_if_eq h (pc := 268) (off := 7) (by decide +kernel) 275 (by decide +kernel)) ?_
  refine zfmc (r_iconst h (pc := 271) (z := 1) (by decide +kernel) (1) (by decide +kernel)) ?_
  refine zfmc (r_goto h (pc := 272) (off := 4) (by decide +kernel) 276 (by decide +kernel)) ?_
  refine zfmc (r_iconst h (pc := 275) (z := 0) (by decide +kernel) (0) (by decide +kernel)) ?_
  refine zfmc (r_zreturn h (pc := 276) (by decide +kernel) rfl) ?_
  refine zfmc (r_iconst h (pc := 277) (z := 0) (by decide +kernel) (0) (by decide +kernel)) ?_
  refine zfmc (r_zreturn h (pc := 278) (by decide +kernel) rfl) ?_
  exact zfm0)
def tb_X3_pair (E : ZEX) (d mc ms : Nat) : List (Nat × ZStep) := [(0, s_iload 1 1), (1, s_const (.int (8)) 3), (3, s_icmp_ge 69 6), (6, s_aload 0 7), (7, s_getf 2 0 10), (10, s_const (.ref (zeK E 31)) 13), (13, s_callV E d mc ms 9 MX10_take 1 16), (16, s_if_eq 69 19), (19, s_aload 0 20), (20, s_iload 1 21), (21, s_const (.int (1)) 22), (22, s_iadd 23), (23, s_callV E d mc ms 2 MX3_sum 1 26), (26, s_if_eq 69 29), (29, s_aload 0 30), (30, s_getf 2 0 33), (33, s_const (.ref (zeK E 36)) 36), (36, s_callV E d mc ms 9 MX10_take 1 39), (39, s_if_eq 69 42), (42, s_aload 0 43), (43, s_iload 1 44), (44, s_const (.int (1)) 45), (45, s_iadd 46), (46, s_callV E d mc ms 2 MX3_sum 1 49), (49, s_if_eq 69 52), (52, s_aload 0 53), (53, s_getf 2 0 56), (56, s_const (.ref (zeK E 32)) 59), (59, s_callV E d mc ms 9 MX10_take 1 62), (62, s_if_eq 69 65), (65, s_const (.int (1)) 66), (66, s_goto 70), (69, s_const (.int (0)) 70), (70, s_zreturn)]
set_option maxRecDepth 20000 in
theorem ok_X3_pair {E : ZEX} {X : ZMX} {d mc ms : Nat} {P : ZPT} {T : ZTT} (h : ZCX E X MX3_pair d mc ms P T) : ∀ pc, ZRow E X MX3_pair mc ms P T pc (ztb (tb_X3_pair E d mc ms) pc) := ztb_ok (by
  unfold tb_X3_pair
  refine zfmc (r_iload_n h (pc := 0) (kf := 1) 1 (by decide +kernel) rfl) ?_
  refine zfmc (r_bipush h (pc := 1) (z := 8) (by decide +kernel) (8) (by decide +kernel)) ?_
  refine zfmc (r_icmp_ge h (pc := 3) (off := 66) (by decide +kernel) 69 (by decide +kernel)) ?_
  refine zfmc (r_aload_n h (pc := 6) (kf := 0) 0 (by decide +kernel) rfl) ?_
  refine zfmc (r_getf h (pc := 7) (ix := 12) (by decide +kernel) ckX3 0 (by decide) wk_3f6f16f699) ?_
  refine zfmc (r_getstatic h (pc := 10) (ix := 259) (by decide +kernel) (.ref (zeK E 31)) (zx_sg h.ok 31 (by decide)) wk_2a444a9491) ?_
  refine zfmc (r_callV h (pc := 13) (ix := 64) (by decide +kernel) ckX10 1 mcX10_take wk_6a3acea010 wk_d2da84ecec wk_27f3148387 rfl) ?_
  refine zfmc (r_if_eq h (pc := 16) (off := 53) (by decide +kernel) 69 (by decide +kernel)) ?_
  refine zfmc (r_aload_n h (pc := 19) (kf := 0) 0 (by decide +kernel) rfl) ?_
  refine zfmc (r_iload_n h (pc := 20) (kf := 1) 1 (by decide +kernel) rfl) ?_
  refine zfmc (r_iconst h (pc := 21) (z := 1) (by decide +kernel) (1) (by decide +kernel)) ?_
  refine zfmc (r_iadd h (pc := 22) (by decide +kernel)) ?_
  refine zfmc (r_callV h (pc := 23) (ix := 177) (by decide +kernel) ckX3 1 mcX3_sum wk_c9b9e1f4cd wk_92f25ea6c7 wk_6f515a7a08 rfl) ?_
  refine zfmc (r_if_eq h (pc := 26) (off := 43) (by decide +kernel) 69 (by decide +kernel)) ?_
  refine zfmc (r_aload_n h (pc := 29) (kf := 0) 0 (by decide +kernel) rfl) ?_
  refine zfmc (r_getf h (pc := 30) (ix := 12) (by decide +kernel) ckX3 0 (by decide) wk_3f6f16f699) ?_
  refine zfmc (r_getstatic h (pc := 33) (ix := 265) (by decide +kernel) (.ref (zeK E 36)) (zx_sg h.ok 36 (by decide)) wk_c4576d65bf) ?_
  refine zfmc (r_callV h (pc := 36) (ix := 64) (by decide +kernel) ckX10 1 mcX10_take wk_6a3acea010 wk_d2da84ecec wk_27f3148387 rfl) ?_
  refine zfmc (r_if_eq h (pc := 39) (off := 30) (by decide +kernel) 69 (by decide +kernel)) ?_
  refine zfmc (r_aload_n h (pc := 42) (kf := 0) 0 (by decide +kernel) rfl) ?_
  refine zfmc (r_iload_n h (pc := 43) (kf := 1) 1 (by decide +kernel) rfl) ?_
  refine zfmc (r_iconst h (pc := 44) (z := 1) (by decide +kernel) (1) (by decide +kernel)) ?_
  refine zfmc (r_iadd h (pc := 45) (by decide +kernel)) ?_
  refine zfmc (r_callV h (pc := 46) (ix := 177) (by decide +kernel) ckX3 1 mcX3_sum wk_c9b9e1f4cd wk_92f25ea6c7 wk_6f515a7a08 rfl) ?_
  refine zfmc (r_if_eq h (pc := 49) (off := 20) (by decide +kernel) 69 (by decide +kernel)) ?_
  refine zfmc (r_aload_n h (pc := 52) (kf := 0) 0 (by decide +kernel) rfl) ?_
  refine zfmc (r_getf h (pc := 53) (ix := 12) (by decide +kernel) ckX3 0 (by decide) wk_3f6f16f699) ?_
  refine zfmc (r_getstatic h (pc := 56) (ix := 262) (by decide +kernel) (.ref (zeK E 32)) (zx_sg h.ok 32 (by decide)) wk_b5c760a44a) ?_
  refine zfmc (r_callV h (pc := 59) (ix := 64) (by decide +kernel) ckX10 1 mcX10_take wk_6a3acea010 wk_d2da84ecec wk_27f3148387 rfl) ?_
  refine zfmc (r_if_eq h (pc := 62) (off := 7) (by decide +kernel) 69 (by decide +kernel)) ?_
  refine zfmc (r_iconst h (pc := 65) (z := 1) (by decide +kernel) (1) (by decide +kernel)) ?_
  refine zfmc (r_goto h (pc := 66) (off := 4) (by decide +kernel) 70 (by decide +kernel)) ?_
  refine zfmc (r_iconst h (pc := 69) (z := 0) (by decide +kernel) (0) (by decide +kernel)) ?_
  refine zfmc (r_zreturn h (pc := 70) (by decide +kernel) rfl) ?_
  exact zfm0)
section
variable {E : ZEX} {d mc ms : Nat} {cut : Nat → Bool} {G : ZCont} {R : ZRtn} {T : ZTT} {Z : Nat → ZCont}
theorem f_X3_init_0 (hZ : ZRN (ztb (tb_X3_init E d mc ms)) cut G R T Z) (f : Nat) (L : ZLV) (st : List Value) (σ : ZHp) (n k w : Nat) : Z (f + 1) 0 L st σ n k w = s_aload 0 1 L st σ n k w (zk1 cut G (Z f)) G R T := zrs hZ rfl f L st σ n k w
theorem f_X3_init_1 (hZ : ZRN (ztb (tb_X3_init E d mc ms)) cut G R T Z) (f : Nat) (L : ZLV) (st : List Value) (σ : ZHp) (n k w : Nat) : Z (f + 1) 1 L st σ n k w = s_objinit d 4 L st σ n k w (zk1 cut G (Z f)) G R T := zrs hZ rfl f L st σ n k w
theorem f_X3_init_4 (hZ : ZRN (ztb (tb_X3_init E d mc ms)) cut G R T Z) (f : Nat) (L : ZLV) (st : List Value) (σ : ZHp) (n k w : Nat) : Z (f + 1) 4 L st σ n k w = s_aload 0 5 L st σ n k w (zk1 cut G (Z f)) G R T := zrs hZ rfl f L st σ n k w
theorem f_X3_init_5 (hZ : ZRN (ztb (tb_X3_init E d mc ms)) cut G R T Z) (f : Nat) (L : ZLV) (st : List Value) (σ : ZHp) (n k w : Nat) : Z (f + 1) 5 L st σ n k w = s_new 9 6 fsX10 mc ms 8 L st σ n k w (zk1 cut G (Z f)) G R T := zrs hZ rfl f L st σ n k w
theorem f_X3_init_8 (hZ : ZRN (ztb (tb_X3_init E d mc ms)) cut G R T Z) (f : Nat) (L : ZLV) (st : List Value) (σ : ZHp) (n k w : Nat) : Z (f + 1) 8 L st σ n k w = s_dup 9 L st σ n k w (zk1 cut G (Z f)) G R T := zrs hZ rfl f L st σ n k w
theorem f_X3_init_9 (hZ : ZRN (ztb (tb_X3_init E d mc ms)) cut G R T Z) (f : Nat) (L : ZLV) (st : List Value) (σ : ZHp) (n k w : Nat) : Z (f + 1) 9 L st σ n k w = s_callI E d mc ms MX10_init 0 12 L st σ n k w (zk1 cut G (Z f)) G R T := zrs hZ rfl f L st σ n k w
theorem f_X3_init_12 (hZ : ZRN (ztb (tb_X3_init E d mc ms)) cut G R T Z) (f : Nat) (L : ZLV) (st : List Value) (σ : ZHp) (n k w : Nat) : Z (f + 1) 12 L st σ n k w = s_putf 2 0 3 15 L st σ n k w (zk1 cut G (Z f)) G R T := zrs hZ rfl f L st σ n k w
theorem f_X3_init_15 (hZ : ZRN (ztb (tb_X3_init E d mc ms)) cut G R T Z) (f : Nat) (L : ZLV) (st : List Value) (σ : ZHp) (n k w : Nat) : Z (f + 1) 15 L st σ n k w = s_aload 0 16 L st σ n k w (zk1 cut G (Z f)) G R T := zrs hZ rfl f L st σ n k w
theorem f_X3_init_16 (hZ : ZRN (ztb (tb_X3_init E d mc ms)) cut G R T Z) (f : Nat) (L : ZLV) (st : List Value) (σ : ZHp) (n k w : Nat) : Z (f + 1) 16 L st σ n k w = s_new 6 6 fsX7 mc ms 19 L st σ n k w (zk1 cut G (Z f)) G R T := zrs hZ rfl f L st σ n k w
theorem f_X3_init_19 (hZ : ZRN (ztb (tb_X3_init E d mc ms)) cut G R T Z) (f : Nat) (L : ZLV) (st : List Value) (σ : ZHp) (n k w : Nat) : Z (f + 1) 19 L st σ n k w = s_dup 20 L st σ n k w (zk1 cut G (Z f)) G R T := zrs hZ rfl f L st σ n k w
theorem f_X3_init_20 (hZ : ZRN (ztb (tb_X3_init E d mc ms)) cut G R T Z) (f : Nat) (L : ZLV) (st : List Value) (σ : ZHp) (n k w : Nat) : Z (f + 1) 20 L st σ n k w = s_callI E d mc ms MX7_init 0 23 L st σ n k w (zk1 cut G (Z f)) G R T := zrs hZ rfl f L st σ n k w
theorem f_X3_init_23 (hZ : ZRN (ztb (tb_X3_init E d mc ms)) cut G R T Z) (f : Nat) (L : ZLV) (st : List Value) (σ : ZHp) (n k w : Nat) : Z (f + 1) 23 L st σ n k w = s_putf 2 1 3 26 L st σ n k w (zk1 cut G (Z f)) G R T := zrs hZ rfl f L st σ n k w
theorem f_X3_init_26 (hZ : ZRN (ztb (tb_X3_init E d mc ms)) cut G R T Z) (f : Nat) (L : ZLV) (st : List Value) (σ : ZHp) (n k w : Nat) : Z (f + 1) 26 L st σ n k w = s_aload 0 27 L st σ n k w (zk1 cut G (Z f)) G R T := zrs hZ rfl f L st σ n k w
theorem f_X3_init_27 (hZ : ZRN (ztb (tb_X3_init E d mc ms)) cut G R T Z) (f : Nat) (L : ZLV) (st : List Value) (σ : ZHp) (n k w : Nat) : Z (f + 1) 27 L st σ n k w = s_new 0 2 fsX1 mc ms 30 L st σ n k w (zk1 cut G (Z f)) G R T := zrs hZ rfl f L st σ n k w
theorem f_X3_init_30 (hZ : ZRN (ztb (tb_X3_init E d mc ms)) cut G R T Z) (f : Nat) (L : ZLV) (st : List Value) (σ : ZHp) (n k w : Nat) : Z (f + 1) 30 L st σ n k w = s_dup 31 L st σ n k w (zk1 cut G (Z f)) G R T := zrs hZ rfl f L st σ n k w
theorem f_X3_init_31 (hZ : ZRN (ztb (tb_X3_init E d mc ms)) cut G R T Z) (f : Nat) (L : ZLV) (st : List Value) (σ : ZHp) (n k w : Nat) : Z (f + 1) 31 L st σ n k w = s_callI E d mc ms MX1_init 0 34 L st σ n k w (zk1 cut G (Z f)) G R T := zrs hZ rfl f L st σ n k w
theorem f_X3_init_34 (hZ : ZRN (ztb (tb_X3_init E d mc ms)) cut G R T Z) (f : Nat) (L : ZLV) (st : List Value) (σ : ZHp) (n k w : Nat) : Z (f + 1) 34 L st σ n k w = s_putf 2 2 3 37 L st σ n k w (zk1 cut G (Z f)) G R T := zrs hZ rfl f L st σ n k w
theorem f_X3_init_37 (hZ : ZRN (ztb (tb_X3_init E d mc ms)) cut G R T Z) (f : Nat) (L : ZLV) (st : List Value) (σ : ZHp) (n k w : Nat) : Z (f + 1) 37 L st σ n k w = s_aload 0 38 L st σ n k w (zk1 cut G (Z f)) G R T := zrs hZ rfl f L st σ n k w
theorem f_X3_init_38 (hZ : ZRN (ztb (tb_X3_init E d mc ms)) cut G R T Z) (f : Nat) (L : ZLV) (st : List Value) (σ : ZHp) (n k w : Nat) : Z (f + 1) 38 L st σ n k w = s_const (.int (1)) 39 L st σ n k w (zk1 cut G (Z f)) G R T := zrs hZ rfl f L st σ n k w
theorem f_X3_init_39 (hZ : ZRN (ztb (tb_X3_init E d mc ms)) cut G R T Z) (f : Nat) (L : ZLV) (st : List Value) (σ : ZHp) (n k w : Nat) : Z (f + 1) 39 L st σ n k w = s_putf 2 3 1 42 L st σ n k w (zk1 cut G (Z f)) G R T := zrs hZ rfl f L st σ n k w
theorem f_X3_init_42 (hZ : ZRN (ztb (tb_X3_init E d mc ms)) cut G R T Z) (f : Nat) (L : ZLV) (st : List Value) (σ : ZHp) (n k w : Nat) : Z (f + 1) 42 L st σ n k w = s_return L st σ n k w (zk1 cut G (Z f)) G R T := zrs hZ rfl f L st σ n k w
theorem f_X3_read_0 (hZ : ZRN (ztb (tb_X3_read E d mc ms)) cut G R T Z) (f : Nat) (L : ZLV) (st : List Value) (σ : ZHp) (n k w : Nat) : Z (f + 1) 0 L st σ n k w = s_aload 0 1 L st σ n k w (zk1 cut G (Z f)) G R T := zrs hZ rfl f L st σ n k w
theorem f_X3_read_1 (hZ : ZRN (ztb (tb_X3_read E d mc ms)) cut G R T Z) (f : Nat) (L : ZLV) (st : List Value) (σ : ZHp) (n k w : Nat) : Z (f + 1) 1 L st σ n k w = s_getf 2 0 4 L st σ n k w (zk1 cut G (Z f)) G R T := zrs hZ rfl f L st σ n k w
theorem f_X3_read_4 (hZ : ZRN (ztb (tb_X3_read E d mc ms)) cut G R T Z) (f : Nat) (L : ZLV) (st : List Value) (σ : ZHp) (n k w : Nat) : Z (f + 1) 4 L st σ n k w = s_aload 1 5 L st σ n k w (zk1 cut G (Z f)) G R T := zrs hZ rfl f L st σ n k w
theorem f_X3_read_5 (hZ : ZRN (ztb (tb_X3_read E d mc ms)) cut G R T Z) (f : Nat) (L : ZLV) (st : List Value) (σ : ZHp) (n k w : Nat) : Z (f + 1) 5 L st σ n k w = s_callV E d mc ms 9 MX10_scan 1 8 L st σ n k w (zk1 cut G (Z f)) G R T := zrs hZ rfl f L st σ n k w
theorem f_X3_read_8 (hZ : ZRN (ztb (tb_X3_read E d mc ms)) cut G R T Z) (f : Nat) (L : ZLV) (st : List Value) (σ : ZHp) (n k w : Nat) : Z (f + 1) 8 L st σ n k w = s_aload 0 9 L st σ n k w (zk1 cut G (Z f)) G R T := zrs hZ rfl f L st σ n k w
theorem f_X3_read_9 (hZ : ZRN (ztb (tb_X3_read E d mc ms)) cut G R T Z) (f : Nat) (L : ZLV) (st : List Value) (σ : ZHp) (n k w : Nat) : Z (f + 1) 9 L st σ n k w = s_getf 2 1 12 L st σ n k w (zk1 cut G (Z f)) G R T := zrs hZ rfl f L st σ n k w
theorem f_X3_read_12 (hZ : ZRN (ztb (tb_X3_read E d mc ms)) cut G R T Z) (f : Nat) (L : ZLV) (st : List Value) (σ : ZHp) (n k w : Nat) : Z (f + 1) 12 L st σ n k w = s_aload 2 13 L st σ n k w (zk1 cut G (Z f)) G R T := zrs hZ rfl f L st σ n k w
theorem f_X3_read_13 (hZ : ZRN (ztb (tb_X3_read E d mc ms)) cut G R T Z) (f : Nat) (L : ZLV) (st : List Value) (σ : ZHp) (n k w : Nat) : Z (f + 1) 13 L st σ n k w = s_callV E d mc ms 6 MX7_begin 1 16 L st σ n k w (zk1 cut G (Z f)) G R T := zrs hZ rfl f L st σ n k w
theorem f_X3_read_16 (hZ : ZRN (ztb (tb_X3_read E d mc ms)) cut G R T Z) (f : Nat) (L : ZLV) (st : List Value) (σ : ZHp) (n k w : Nat) : Z (f + 1) 16 L st σ n k w = s_aload 0 17 L st σ n k w (zk1 cut G (Z f)) G R T := zrs hZ rfl f L st σ n k w
theorem f_X3_read_17 (hZ : ZRN (ztb (tb_X3_read E d mc ms)) cut G R T Z) (f : Nat) (L : ZLV) (st : List Value) (σ : ZHp) (n k w : Nat) : Z (f + 1) 17 L st σ n k w = s_aload 2 18 L st σ n k w (zk1 cut G (Z f)) G R T := zrs hZ rfl f L st σ n k w
theorem f_X3_read_18 (hZ : ZRN (ztb (tb_X3_read E d mc ms)) cut G R T Z) (f : Nat) (L : ZLV) (st : List Value) (σ : ZHp) (n k w : Nat) : Z (f + 1) 18 L st σ n k w = s_getf 5 14 21 L st σ n k w (zk1 cut G (Z f)) G R T := zrs hZ rfl f L st σ n k w
theorem f_X3_read_21 (hZ : ZRN (ztb (tb_X3_read E d mc ms)) cut G R T Z) (f : Nat) (L : ZLV) (st : List Value) (σ : ZHp) (n k w : Nat) : Z (f + 1) 21 L st σ n k w = s_putf 2 2 3 24 L st σ n k w (zk1 cut G (Z f)) G R T := zrs hZ rfl f L st σ n k w
theorem f_X3_read_24 (hZ : ZRN (ztb (tb_X3_read E d mc ms)) cut G R T Z) (f : Nat) (L : ZLV) (st : List Value) (σ : ZHp) (n k w : Nat) : Z (f + 1) 24 L st σ n k w = s_aload 0 25 L st σ n k w (zk1 cut G (Z f)) G R T := zrs hZ rfl f L st σ n k w
theorem f_X3_read_25 (hZ : ZRN (ztb (tb_X3_read E d mc ms)) cut G R T Z) (f : Nat) (L : ZLV) (st : List Value) (σ : ZHp) (n k w : Nat) : Z (f + 1) 25 L st σ n k w = s_const (.int (1)) 26 L st σ n k w (zk1 cut G (Z f)) G R T := zrs hZ rfl f L st σ n k w
theorem f_X3_read_26 (hZ : ZRN (ztb (tb_X3_read E d mc ms)) cut G R T Z) (f : Nat) (L : ZLV) (st : List Value) (σ : ZHp) (n k w : Nat) : Z (f + 1) 26 L st σ n k w = s_putf 2 3 1 29 L st σ n k w (zk1 cut G (Z f)) G R T := zrs hZ rfl f L st σ n k w
theorem f_X3_read_29 (hZ : ZRN (ztb (tb_X3_read E d mc ms)) cut G R T Z) (f : Nat) (L : ZLV) (st : List Value) (σ : ZHp) (n k w : Nat) : Z (f + 1) 29 L st σ n k w = s_const (.int (0)) 30 L st σ n k w (zk1 cut G (Z f)) G R T := zrs hZ rfl f L st σ n k w
theorem f_X3_read_30 (hZ : ZRN (ztb (tb_X3_read E d mc ms)) cut G R T Z) (f : Nat) (L : ZLV) (st : List Value) (σ : ZHp) (n k w : Nat) : Z (f + 1) 30 L st σ n k w = s_istore 3 31 L st σ n k w (zk1 cut G (Z f)) G R T := zrs hZ rfl f L st σ n k w
theorem f_X3_read_31 (hZ : ZRN (ztb (tb_X3_read E d mc ms)) cut G R T Z) (f : Nat) (L : ZLV) (st : List Value) (σ : ZHp) (n k w : Nat) : Z (f + 1) 31 L st σ n k w = s_iload 3 32 L st σ n k w (zk1 cut G (Z f)) G R T := zrs hZ rfl f L st σ n k w
theorem f_X3_read_32 (hZ : ZRN (ztb (tb_X3_read E d mc ms)) cut G R T Z) (f : Nat) (L : ZLV) (st : List Value) (σ : ZHp) (n k w : Nat) : Z (f + 1) 32 L st σ n k w = s_const (.int (400)) 35 L st σ n k w (zk1 cut G (Z f)) G R T := zrs hZ rfl f L st σ n k w
theorem f_X3_read_35 (hZ : ZRN (ztb (tb_X3_read E d mc ms)) cut G R T Z) (f : Nat) (L : ZLV) (st : List Value) (σ : ZHp) (n k w : Nat) : Z (f + 1) 35 L st σ n k w = s_icmp_ge 93 38 L st σ n k w (zk1 cut G (Z f)) G R T := zrs hZ rfl f L st σ n k w
theorem f_X3_read_38 (hZ : ZRN (ztb (tb_X3_read E d mc ms)) cut G R T Z) (f : Nat) (L : ZLV) (st : List Value) (σ : ZHp) (n k w : Nat) : Z (f + 1) 38 L st σ n k w = s_aload 0 39 L st σ n k w (zk1 cut G (Z f)) G R T := zrs hZ rfl f L st σ n k w
theorem f_X3_read_39 (hZ : ZRN (ztb (tb_X3_read E d mc ms)) cut G R T Z) (f : Nat) (L : ZLV) (st : List Value) (σ : ZHp) (n k w : Nat) : Z (f + 1) 39 L st σ n k w = s_getf 2 3 42 L st σ n k w (zk1 cut G (Z f)) G R T := zrs hZ rfl f L st σ n k w
theorem f_X3_read_42 (hZ : ZRN (ztb (tb_X3_read E d mc ms)) cut G R T Z) (f : Nat) (L : ZLV) (st : List Value) (σ : ZHp) (n k w : Nat) : Z (f + 1) 42 L st σ n k w = s_if_eq 93 45 L st σ n k w (zk1 cut G (Z f)) G R T := zrs hZ rfl f L st σ n k w
theorem f_X3_read_45 (hZ : ZRN (ztb (tb_X3_read E d mc ms)) cut G R T Z) (f : Nat) (L : ZLV) (st : List Value) (σ : ZHp) (n k w : Nat) : Z (f + 1) 45 L st σ n k w = s_aload 0 46 L st σ n k w (zk1 cut G (Z f)) G R T := zrs hZ rfl f L st σ n k w
theorem f_X3_read_46 (hZ : ZRN (ztb (tb_X3_read E d mc ms)) cut G R T Z) (f : Nat) (L : ZLV) (st : List Value) (σ : ZHp) (n k w : Nat) : Z (f + 1) 46 L st σ n k w = s_getf 2 0 49 L st σ n k w (zk1 cut G (Z f)) G R T := zrs hZ rfl f L st σ n k w
theorem f_X3_read_49 (hZ : ZRN (ztb (tb_X3_read E d mc ms)) cut G R T Z) (f : Nat) (L : ZLV) (st : List Value) (σ : ZHp) (n k w : Nat) : Z (f + 1) 49 L st σ n k w = s_callV E d mc ms 9 MX10_sign 0 52 L st σ n k w (zk1 cut G (Z f)) G R T := zrs hZ rfl f L st σ n k w
theorem f_X3_read_52 (hZ : ZRN (ztb (tb_X3_read E d mc ms)) cut G R T Z) (f : Nat) (L : ZLV) (st : List Value) (σ : ZHp) (n k w : Nat) : Z (f + 1) 52 L st σ n k w = s_const (.ref (zeK E 1)) 55 L st σ n k w (zk1 cut G (Z f)) G R T := zrs hZ rfl f L st σ n k w
theorem f_X3_read_55 (hZ : ZRN (ztb (tb_X3_read E d mc ms)) cut G R T Z) (f : Nat) (L : ZLV) (st : List Value) (σ : ZHp) (n k w : Nat) : Z (f + 1) 55 L st σ n k w = s_acmp_eq 93 58 L st σ n k w (zk1 cut G (Z f)) G R T := zrs hZ rfl f L st σ n k w
theorem f_X3_read_58 (hZ : ZRN (ztb (tb_X3_read E d mc ms)) cut G R T Z) (f : Nat) (L : ZLV) (st : List Value) (σ : ZHp) (n k w : Nat) : Z (f + 1) 58 L st σ n k w = s_aload 0 59 L st σ n k w (zk1 cut G (Z f)) G R T := zrs hZ rfl f L st σ n k w
theorem f_X3_read_59 (hZ : ZRN (ztb (tb_X3_read E d mc ms)) cut G R T Z) (f : Nat) (L : ZLV) (st : List Value) (σ : ZHp) (n k w : Nat) : Z (f + 1) 59 L st σ n k w = s_aload 0 60 L st σ n k w (zk1 cut G (Z f)) G R T := zrs hZ rfl f L st σ n k w
theorem f_X3_read_60 (hZ : ZRN (ztb (tb_X3_read E d mc ms)) cut G R T Z) (f : Nat) (L : ZLV) (st : List Value) (σ : ZHp) (n k w : Nat) : Z (f + 1) 60 L st σ n k w = s_callV E d mc ms 2 MX3_line 0 63 L st σ n k w (zk1 cut G (Z f)) G R T := zrs hZ rfl f L st σ n k w
theorem f_X3_read_63 (hZ : ZRN (ztb (tb_X3_read E d mc ms)) cut G R T Z) (f : Nat) (L : ZLV) (st : List Value) (σ : ZHp) (n k w : Nat) : Z (f + 1) 63 L st σ n k w = s_if_eq 83 66 L st σ n k w (zk1 cut G (Z f)) G R T := zrs hZ rfl f L st σ n k w
theorem f_X3_read_66 (hZ : ZRN (ztb (tb_X3_read E d mc ms)) cut G R T Z) (f : Nat) (L : ZLV) (st : List Value) (σ : ZHp) (n k w : Nat) : Z (f + 1) 66 L st σ n k w = s_aload 0 67 L st σ n k w (zk1 cut G (Z f)) G R T := zrs hZ rfl f L st σ n k w
theorem f_X3_read_67 (hZ : ZRN (ztb (tb_X3_read E d mc ms)) cut G R T Z) (f : Nat) (L : ZLV) (st : List Value) (σ : ZHp) (n k w : Nat) : Z (f + 1) 67 L st σ n k w = s_getf 2 0 70 L st σ n k w (zk1 cut G (Z f)) G R T := zrs hZ rfl f L st σ n k w
theorem f_X3_read_70 (hZ : ZRN (ztb (tb_X3_read E d mc ms)) cut G R T Z) (f : Nat) (L : ZLV) (st : List Value) (σ : ZHp) (n k w : Nat) : Z (f + 1) 70 L st σ n k w = s_const (.ref (zeK E 35)) 73 L st σ n k w (zk1 cut G (Z f)) G R T := zrs hZ rfl f L st σ n k w
theorem f_X3_read_73 (hZ : ZRN (ztb (tb_X3_read E d mc ms)) cut G R T Z) (f : Nat) (L : ZLV) (st : List Value) (σ : ZHp) (n k w : Nat) : Z (f + 1) 73 L st σ n k w = s_callV E d mc ms 9 MX10_take 1 76 L st σ n k w (zk1 cut G (Z f)) G R T := zrs hZ rfl f L st σ n k w
theorem f_X3_read_76 (hZ : ZRN (ztb (tb_X3_read E d mc ms)) cut G R T Z) (f : Nat) (L : ZLV) (st : List Value) (σ : ZHp) (n k w : Nat) : Z (f + 1) 76 L st σ n k w = s_if_eq 83 79 L st σ n k w (zk1 cut G (Z f)) G R T := zrs hZ rfl f L st σ n k w
theorem f_X3_read_79 (hZ : ZRN (ztb (tb_X3_read E d mc ms)) cut G R T Z) (f : Nat) (L : ZLV) (st : List Value) (σ : ZHp) (n k w : Nat) : Z (f + 1) 79 L st σ n k w = s_const (.int (1)) 80 L st σ n k w (zk1 cut G (Z f)) G R T := zrs hZ rfl f L st σ n k w
theorem f_X3_read_80 (hZ : ZRN (ztb (tb_X3_read E d mc ms)) cut G R T Z) (f : Nat) (L : ZLV) (st : List Value) (σ : ZHp) (n k w : Nat) : Z (f + 1) 80 L st σ n k w = s_goto 84 L st σ n k w (zk1 cut G (Z f)) G R T := zrs hZ rfl f L st σ n k w
theorem f_X3_read_83 (hZ : ZRN (ztb (tb_X3_read E d mc ms)) cut G R T Z) (f : Nat) (L : ZLV) (st : List Value) (σ : ZHp) (n k w : Nat) : Z (f + 1) 83 L st σ n k w = s_const (.int (0)) 84 L st σ n k w (zk1 cut G (Z f)) G R T := zrs hZ rfl f L st σ n k w
theorem f_X3_read_84 (hZ : ZRN (ztb (tb_X3_read E d mc ms)) cut G R T Z) (f : Nat) (L : ZLV) (st : List Value) (σ : ZHp) (n k w : Nat) : Z (f + 1) 84 L st σ n k w = s_putf 2 3 1 87 L st σ n k w (zk1 cut G (Z f)) G R T := zrs hZ rfl f L st σ n k w
theorem f_X3_read_87 (hZ : ZRN (ztb (tb_X3_read E d mc ms)) cut G R T Z) (f : Nat) (L : ZLV) (st : List Value) (σ : ZHp) (n k w : Nat) : Z (f + 1) 87 L st σ n k w = s_iinc 3 (1) 90 L st σ n k w (zk1 cut G (Z f)) G R T := zrs hZ rfl f L st σ n k w
theorem f_X3_read_90 (hZ : ZRN (ztb (tb_X3_read E d mc ms)) cut G R T Z) (f : Nat) (L : ZLV) (st : List Value) (σ : ZHp) (n k w : Nat) : Z (f + 1) 90 L st σ n k w = s_goto 31 L st σ n k w (zk1 cut G (Z f)) G R T := zrs hZ rfl f L st σ n k w
theorem f_X3_read_93 (hZ : ZRN (ztb (tb_X3_read E d mc ms)) cut G R T Z) (f : Nat) (L : ZLV) (st : List Value) (σ : ZHp) (n k w : Nat) : Z (f + 1) 93 L st σ n k w = s_aload 0 94 L st σ n k w (zk1 cut G (Z f)) G R T := zrs hZ rfl f L st σ n k w
theorem f_X3_read_94 (hZ : ZRN (ztb (tb_X3_read E d mc ms)) cut G R T Z) (f : Nat) (L : ZLV) (st : List Value) (σ : ZHp) (n k w : Nat) : Z (f + 1) 94 L st σ n k w = s_aload 0 95 L st σ n k w (zk1 cut G (Z f)) G R T := zrs hZ rfl f L st σ n k w
theorem f_X3_read_95 (hZ : ZRN (ztb (tb_X3_read E d mc ms)) cut G R T Z) (f : Nat) (L : ZLV) (st : List Value) (σ : ZHp) (n k w : Nat) : Z (f + 1) 95 L st σ n k w = s_getf 2 3 98 L st σ n k w (zk1 cut G (Z f)) G R T := zrs hZ rfl f L st σ n k w
theorem f_X3_read_98 (hZ : ZRN (ztb (tb_X3_read E d mc ms)) cut G R T Z) (f : Nat) (L : ZLV) (st : List Value) (σ : ZHp) (n k w : Nat) : Z (f + 1) 98 L st σ n k w = s_if_eq 118 101 L st σ n k w (zk1 cut G (Z f)) G R T := zrs hZ rfl f L st σ n k w
theorem f_X3_read_101 (hZ : ZRN (ztb (tb_X3_read E d mc ms)) cut G R T Z) (f : Nat) (L : ZLV) (st : List Value) (σ : ZHp) (n k w : Nat) : Z (f + 1) 101 L st σ n k w = s_aload 0 102 L st σ n k w (zk1 cut G (Z f)) G R T := zrs hZ rfl f L st σ n k w
theorem f_X3_read_102 (hZ : ZRN (ztb (tb_X3_read E d mc ms)) cut G R T Z) (f : Nat) (L : ZLV) (st : List Value) (σ : ZHp) (n k w : Nat) : Z (f + 1) 102 L st σ n k w = s_getf 2 0 105 L st σ n k w (zk1 cut G (Z f)) G R T := zrs hZ rfl f L st σ n k w
theorem f_X3_read_105 (hZ : ZRN (ztb (tb_X3_read E d mc ms)) cut G R T Z) (f : Nat) (L : ZLV) (st : List Value) (σ : ZHp) (n k w : Nat) : Z (f + 1) 105 L st σ n k w = s_callV E d mc ms 9 MX10_sign 0 108 L st σ n k w (zk1 cut G (Z f)) G R T := zrs hZ rfl f L st σ n k w
theorem f_X3_read_108 (hZ : ZRN (ztb (tb_X3_read E d mc ms)) cut G R T Z) (f : Nat) (L : ZLV) (st : List Value) (σ : ZHp) (n k w : Nat) : Z (f + 1) 108 L st σ n k w = s_const (.ref (zeK E 1)) 111 L st σ n k w (zk1 cut G (Z f)) G R T := zrs hZ rfl f L st σ n k w
theorem f_X3_read_111 (hZ : ZRN (ztb (tb_X3_read E d mc ms)) cut G R T Z) (f : Nat) (L : ZLV) (st : List Value) (σ : ZHp) (n k w : Nat) : Z (f + 1) 111 L st σ n k w = s_acmp_ne 118 114 L st σ n k w (zk1 cut G (Z f)) G R T := zrs hZ rfl f L st σ n k w
theorem f_X3_read_114 (hZ : ZRN (ztb (tb_X3_read E d mc ms)) cut G R T Z) (f : Nat) (L : ZLV) (st : List Value) (σ : ZHp) (n k w : Nat) : Z (f + 1) 114 L st σ n k w = s_const (.int (1)) 115 L st σ n k w (zk1 cut G (Z f)) G R T := zrs hZ rfl f L st σ n k w
theorem f_X3_read_115 (hZ : ZRN (ztb (tb_X3_read E d mc ms)) cut G R T Z) (f : Nat) (L : ZLV) (st : List Value) (σ : ZHp) (n k w : Nat) : Z (f + 1) 115 L st σ n k w = s_goto 119 L st σ n k w (zk1 cut G (Z f)) G R T := zrs hZ rfl f L st σ n k w
theorem f_X3_read_118 (hZ : ZRN (ztb (tb_X3_read E d mc ms)) cut G R T Z) (f : Nat) (L : ZLV) (st : List Value) (σ : ZHp) (n k w : Nat) : Z (f + 1) 118 L st σ n k w = s_const (.int (0)) 119 L st σ n k w (zk1 cut G (Z f)) G R T := zrs hZ rfl f L st σ n k w
theorem f_X3_read_119 (hZ : ZRN (ztb (tb_X3_read E d mc ms)) cut G R T Z) (f : Nat) (L : ZLV) (st : List Value) (σ : ZHp) (n k w : Nat) : Z (f + 1) 119 L st σ n k w = s_putf 2 3 1 122 L st σ n k w (zk1 cut G (Z f)) G R T := zrs hZ rfl f L st σ n k w
theorem f_X3_read_122 (hZ : ZRN (ztb (tb_X3_read E d mc ms)) cut G R T Z) (f : Nat) (L : ZLV) (st : List Value) (σ : ZHp) (n k w : Nat) : Z (f + 1) 122 L st σ n k w = s_aload 0 123 L st σ n k w (zk1 cut G (Z f)) G R T := zrs hZ rfl f L st σ n k w
theorem f_X3_read_123 (hZ : ZRN (ztb (tb_X3_read E d mc ms)) cut G R T Z) (f : Nat) (L : ZLV) (st : List Value) (σ : ZHp) (n k w : Nat) : Z (f + 1) 123 L st σ n k w = s_getf 2 3 126 L st σ n k w (zk1 cut G (Z f)) G R T := zrs hZ rfl f L st σ n k w
theorem f_X3_read_126 (hZ : ZRN (ztb (tb_X3_read E d mc ms)) cut G R T Z) (f : Nat) (L : ZLV) (st : List Value) (σ : ZHp) (n k w : Nat) : Z (f + 1) 126 L st σ n k w = s_if_eq 139 129 L st σ n k w (zk1 cut G (Z f)) G R T := zrs hZ rfl f L st σ n k w
theorem f_X3_read_129 (hZ : ZRN (ztb (tb_X3_read E d mc ms)) cut G R T Z) (f : Nat) (L : ZLV) (st : List Value) (σ : ZHp) (n k w : Nat) : Z (f + 1) 129 L st σ n k w = s_aload 0 130 L st σ n k w (zk1 cut G (Z f)) G R T := zrs hZ rfl f L st σ n k w
theorem f_X3_read_130 (hZ : ZRN (ztb (tb_X3_read E d mc ms)) cut G R T Z) (f : Nat) (L : ZLV) (st : List Value) (σ : ZHp) (n k w : Nat) : Z (f + 1) 130 L st σ n k w = s_getf 2 1 133 L st σ n k w (zk1 cut G (Z f)) G R T := zrs hZ rfl f L st σ n k w
theorem f_X3_read_133 (hZ : ZRN (ztb (tb_X3_read E d mc ms)) cut G R T Z) (f : Nat) (L : ZLV) (st : List Value) (σ : ZHp) (n k w : Nat) : Z (f + 1) 133 L st σ n k w = s_callV E d mc ms 6 MX7_error 0 136 L st σ n k w (zk1 cut G (Z f)) G R T := zrs hZ rfl f L st σ n k w
theorem f_X3_read_136 (hZ : ZRN (ztb (tb_X3_read E d mc ms)) cut G R T Z) (f : Nat) (L : ZLV) (st : List Value) (σ : ZHp) (n k w : Nat) : Z (f + 1) 136 L st σ n k w = s_goto 140 L st σ n k w (zk1 cut G (Z f)) G R T := zrs hZ rfl f L st σ n k w
theorem f_X3_read_139 (hZ : ZRN (ztb (tb_X3_read E d mc ms)) cut G R T Z) (f : Nat) (L : ZLV) (st : List Value) (σ : ZHp) (n k w : Nat) : Z (f + 1) 139 L st σ n k w = s_const (.int (1)) 140 L st σ n k w (zk1 cut G (Z f)) G R T := zrs hZ rfl f L st σ n k w
theorem f_X3_read_140 (hZ : ZRN (ztb (tb_X3_read E d mc ms)) cut G R T Z) (f : Nat) (L : ZLV) (st : List Value) (σ : ZHp) (n k w : Nat) : Z (f + 1) 140 L st σ n k w = s_ireturn L st σ n k w (zk1 cut G (Z f)) G R T := zrs hZ rfl f L st σ n k w
theorem f_X3_errorPlace_0 (hZ : ZRN (ztb (tb_X3_errorPlace E d mc ms)) cut G R T Z) (f : Nat) (L : ZLV) (st : List Value) (σ : ZHp) (n k w : Nat) : Z (f + 1) 0 L st σ n k w = s_aload 0 1 L st σ n k w (zk1 cut G (Z f)) G R T := zrs hZ rfl f L st σ n k w
theorem f_X3_errorPlace_1 (hZ : ZRN (ztb (tb_X3_errorPlace E d mc ms)) cut G R T Z) (f : Nat) (L : ZLV) (st : List Value) (σ : ZHp) (n k w : Nat) : Z (f + 1) 1 L st σ n k w = s_getf 2 3 4 L st σ n k w (zk1 cut G (Z f)) G R T := zrs hZ rfl f L st σ n k w
theorem f_X3_errorPlace_4 (hZ : ZRN (ztb (tb_X3_errorPlace E d mc ms)) cut G R T Z) (f : Nat) (L : ZLV) (st : List Value) (σ : ZHp) (n k w : Nat) : Z (f + 1) 4 L st σ n k w = s_if_eq 17 7 L st σ n k w (zk1 cut G (Z f)) G R T := zrs hZ rfl f L st σ n k w
theorem f_X3_errorPlace_7 (hZ : ZRN (ztb (tb_X3_errorPlace E d mc ms)) cut G R T Z) (f : Nat) (L : ZLV) (st : List Value) (σ : ZHp) (n k w : Nat) : Z (f + 1) 7 L st σ n k w = s_aload 0 8 L st σ n k w (zk1 cut G (Z f)) G R T := zrs hZ rfl f L st σ n k w
theorem f_X3_errorPlace_8 (hZ : ZRN (ztb (tb_X3_errorPlace E d mc ms)) cut G R T Z) (f : Nat) (L : ZLV) (st : List Value) (σ : ZHp) (n k w : Nat) : Z (f + 1) 8 L st σ n k w = s_getf 2 1 11 L st σ n k w (zk1 cut G (Z f)) G R T := zrs hZ rfl f L st σ n k w
theorem f_X3_errorPlace_11 (hZ : ZRN (ztb (tb_X3_errorPlace E d mc ms)) cut G R T Z) (f : Nat) (L : ZLV) (st : List Value) (σ : ZHp) (n k w : Nat) : Z (f + 1) 11 L st σ n k w = s_callV E d mc ms 6 MX7_errorPlace 0 14 L st σ n k w (zk1 cut G (Z f)) G R T := zrs hZ rfl f L st σ n k w
theorem f_X3_errorPlace_14 (hZ : ZRN (ztb (tb_X3_errorPlace E d mc ms)) cut G R T Z) (f : Nat) (L : ZLV) (st : List Value) (σ : ZHp) (n k w : Nat) : Z (f + 1) 14 L st σ n k w = s_goto 24 L st σ n k w (zk1 cut G (Z f)) G R T := zrs hZ rfl f L st σ n k w
theorem f_X3_errorPlace_17 (hZ : ZRN (ztb (tb_X3_errorPlace E d mc ms)) cut G R T Z) (f : Nat) (L : ZLV) (st : List Value) (σ : ZHp) (n k w : Nat) : Z (f + 1) 17 L st σ n k w = s_aload 0 18 L st σ n k w (zk1 cut G (Z f)) G R T := zrs hZ rfl f L st σ n k w
theorem f_X3_errorPlace_18 (hZ : ZRN (ztb (tb_X3_errorPlace E d mc ms)) cut G R T Z) (f : Nat) (L : ZLV) (st : List Value) (σ : ZHp) (n k w : Nat) : Z (f + 1) 18 L st σ n k w = s_getf 2 0 21 L st σ n k w (zk1 cut G (Z f)) G R T := zrs hZ rfl f L st σ n k w
theorem f_X3_errorPlace_21 (hZ : ZRN (ztb (tb_X3_errorPlace E d mc ms)) cut G R T Z) (f : Nat) (L : ZLV) (st : List Value) (σ : ZHp) (n k w : Nat) : Z (f + 1) 21 L st σ n k w = s_callV E d mc ms 9 MX10_place 0 24 L st σ n k w (zk1 cut G (Z f)) G R T := zrs hZ rfl f L st σ n k w
theorem f_X3_errorPlace_24 (hZ : ZRN (ztb (tb_X3_errorPlace E d mc ms)) cut G R T Z) (f : Nat) (L : ZLV) (st : List Value) (σ : ZHp) (n k w : Nat) : Z (f + 1) 24 L st σ n k w = s_ireturn L st σ n k w (zk1 cut G (Z f)) G R T := zrs hZ rfl f L st σ n k w
theorem f_X3_line_0 (hZ : ZRN (ztb (tb_X3_line E d mc ms)) cut G R T Z) (f : Nat) (L : ZLV) (st : List Value) (σ : ZHp) (n k w : Nat) : Z (f + 1) 0 L st σ n k w = s_const (.ref (zeK E 47)) 3 L st σ n k w (zk1 cut G (Z f)) G R T := zrs hZ rfl f L st σ n k w
theorem f_X3_line_3 (hZ : ZRN (ztb (tb_X3_line E d mc ms)) cut G R T Z) (f : Nat) (L : ZLV) (st : List Value) (σ : ZHp) (n k w : Nat) : Z (f + 1) 3 L st σ n k w = s_aload 0 4 L st σ n k w (zk1 cut G (Z f)) G R T := zrs hZ rfl f L st σ n k w
theorem f_X3_line_4 (hZ : ZRN (ztb (tb_X3_line E d mc ms)) cut G R T Z) (f : Nat) (L : ZLV) (st : List Value) (σ : ZHp) (n k w : Nat) : Z (f + 1) 4 L st σ n k w = s_getf 2 0 7 L st σ n k w (zk1 cut G (Z f)) G R T := zrs hZ rfl f L st σ n k w
theorem f_X3_line_7 (hZ : ZRN (ztb (tb_X3_line E d mc ms)) cut G R T Z) (f : Nat) (L : ZLV) (st : List Value) (σ : ZHp) (n k w : Nat) : Z (f + 1) 7 L st σ n k w = s_callV E d mc ms 9 MX10_sign 0 10 L st σ n k w (zk1 cut G (Z f)) G R T := zrs hZ rfl f L st σ n k w
theorem f_X3_line_10 (hZ : ZRN (ztb (tb_X3_line E d mc ms)) cut G R T Z) (f : Nat) (L : ZLV) (st : List Value) (σ : ZHp) (n k w : Nat) : Z (f + 1) 10 L st σ n k w = s_callK E d mc ms 0 46 MJx29ce0_ordinal_8abf5 0 13 L st σ n k w (zk1 cut G (Z f)) G R T := zrs hZ rfl f L st σ n k w
theorem f_X3_line_13 (hZ : ZRN (ztb (tb_X3_line E d mc ms)) cut G R T Z) (f : Nat) (L : ZLV) (st : List Value) (σ : ZHp) (n k w : Nat) : Z (f + 1) 13 L st σ n k w = s_ialdK E 14 L st σ n k w (zk1 cut G (Z f)) G R T := zrs hZ rfl f L st σ n k w
theorem f_X3_line_14 (hZ : ZRN (ztb (tb_X3_line E d mc ms)) cut G R T Z) (f : Nat) (L : ZLV) (st : List Value) (σ : ZHp) (n k w : Nat) : Z (f + 1) 14 L st σ n k w = s_tsw 1 [142, 194, 275, 348, 348, 348, 60, 246] 348 L st σ n k w (zk1 cut G (Z f)) G R T := zrs hZ rfl f L st σ n k w
theorem f_X3_line_60 (hZ : ZRN (ztb (tb_X3_line E d mc ms)) cut G R T Z) (f : Nat) (L : ZLV) (st : List Value) (σ : ZHp) (n k w : Nat) : Z (f + 1) 60 L st σ n k w = s_aload 0 61 L st σ n k w (zk1 cut G (Z f)) G R T := zrs hZ rfl f L st σ n k w
theorem f_X3_line_61 (hZ : ZRN (ztb (tb_X3_line E d mc ms)) cut G R T Z) (f : Nat) (L : ZLV) (st : List Value) (σ : ZHp) (n k w : Nat) : Z (f + 1) 61 L st σ n k w = s_getf 2 0 64 L st σ n k w (zk1 cut G (Z f)) G R T := zrs hZ rfl f L st σ n k w
theorem f_X3_line_64 (hZ : ZRN (ztb (tb_X3_line E d mc ms)) cut G R T Z) (f : Nat) (L : ZLV) (st : List Value) (σ : ZHp) (n k w : Nat) : Z (f + 1) 64 L st σ n k w = s_const (.ref (zeK E 5)) 67 L st σ n k w (zk1 cut G (Z f)) G R T := zrs hZ rfl f L st σ n k w
theorem f_X3_line_67 (hZ : ZRN (ztb (tb_X3_line E d mc ms)) cut G R T Z) (f : Nat) (L : ZLV) (st : List Value) (σ : ZHp) (n k w : Nat) : Z (f + 1) 67 L st σ n k w = s_callV E d mc ms 9 MX10_take 1 70 L st σ n k w (zk1 cut G (Z f)) G R T := zrs hZ rfl f L st σ n k w
theorem f_X3_line_70 (hZ : ZRN (ztb (tb_X3_line E d mc ms)) cut G R T Z) (f : Nat) (L : ZLV) (st : List Value) (σ : ZHp) (n k w : Nat) : Z (f + 1) 70 L st σ n k w = s_if_eq 140 73 L st σ n k w (zk1 cut G (Z f)) G R T := zrs hZ rfl f L st σ n k w
theorem f_X3_line_73 (hZ : ZRN (ztb (tb_X3_line E d mc ms)) cut G R T Z) (f : Nat) (L : ZLV) (st : List Value) (σ : ZHp) (n k w : Nat) : Z (f + 1) 73 L st σ n k w = s_aload 0 74 L st σ n k w (zk1 cut G (Z f)) G R T := zrs hZ rfl f L st σ n k w
theorem f_X3_line_74 (hZ : ZRN (ztb (tb_X3_line E d mc ms)) cut G R T Z) (f : Nat) (L : ZLV) (st : List Value) (σ : ZHp) (n k w : Nat) : Z (f + 1) 74 L st σ n k w = s_const (.ref (zeK E 5)) 77 L st σ n k w (zk1 cut G (Z f)) G R T := zrs hZ rfl f L st σ n k w
theorem f_X3_line_77 (hZ : ZRN (ztb (tb_X3_line E d mc ms)) cut G R T Z) (f : Nat) (L : ZLV) (st : List Value) (σ : ZHp) (n k w : Nat) : Z (f + 1) 77 L st σ n k w = s_callV E d mc ms 2 MX3_name 1 80 L st σ n k w (zk1 cut G (Z f)) G R T := zrs hZ rfl f L st σ n k w
theorem f_X3_line_80 (hZ : ZRN (ztb (tb_X3_line E d mc ms)) cut G R T Z) (f : Nat) (L : ZLV) (st : List Value) (σ : ZHp) (n k w : Nat) : Z (f + 1) 80 L st σ n k w = s_if_eq 140 83 L st σ n k w (zk1 cut G (Z f)) G R T := zrs hZ rfl f L st σ n k w
theorem f_X3_line_83 (hZ : ZRN (ztb (tb_X3_line E d mc ms)) cut G R T Z) (f : Nat) (L : ZLV) (st : List Value) (σ : ZHp) (n k w : Nat) : Z (f + 1) 83 L st σ n k w = s_aload 0 84 L st σ n k w (zk1 cut G (Z f)) G R T := zrs hZ rfl f L st σ n k w
theorem f_X3_line_84 (hZ : ZRN (ztb (tb_X3_line E d mc ms)) cut G R T Z) (f : Nat) (L : ZLV) (st : List Value) (σ : ZHp) (n k w : Nat) : Z (f + 1) 84 L st σ n k w = s_getf 2 0 87 L st σ n k w (zk1 cut G (Z f)) G R T := zrs hZ rfl f L st σ n k w
theorem f_X3_line_87 (hZ : ZRN (ztb (tb_X3_line E d mc ms)) cut G R T Z) (f : Nat) (L : ZLV) (st : List Value) (σ : ZHp) (n k w : Nat) : Z (f + 1) 87 L st σ n k w = s_const (.ref (zeK E 6)) 90 L st σ n k w (zk1 cut G (Z f)) G R T := zrs hZ rfl f L st σ n k w
theorem f_X3_line_90 (hZ : ZRN (ztb (tb_X3_line E d mc ms)) cut G R T Z) (f : Nat) (L : ZLV) (st : List Value) (σ : ZHp) (n k w : Nat) : Z (f + 1) 90 L st σ n k w = s_callV E d mc ms 9 MX10_take 1 93 L st σ n k w (zk1 cut G (Z f)) G R T := zrs hZ rfl f L st σ n k w
theorem f_X3_line_93 (hZ : ZRN (ztb (tb_X3_line E d mc ms)) cut G R T Z) (f : Nat) (L : ZLV) (st : List Value) (σ : ZHp) (n k w : Nat) : Z (f + 1) 93 L st σ n k w = s_if_eq 140 96 L st σ n k w (zk1 cut G (Z f)) G R T := zrs hZ rfl f L st σ n k w
theorem f_X3_line_96 (hZ : ZRN (ztb (tb_X3_line E d mc ms)) cut G R T Z) (f : Nat) (L : ZLV) (st : List Value) (σ : ZHp) (n k w : Nat) : Z (f + 1) 96 L st σ n k w = s_aload 0 97 L st σ n k w (zk1 cut G (Z f)) G R T := zrs hZ rfl f L st σ n k w
theorem f_X3_line_97 (hZ : ZRN (ztb (tb_X3_line E d mc ms)) cut G R T Z) (f : Nat) (L : ZLV) (st : List Value) (σ : ZHp) (n k w : Nat) : Z (f + 1) 97 L st σ n k w = s_const (.ref (zeK E 6)) 100 L st σ n k w (zk1 cut G (Z f)) G R T := zrs hZ rfl f L st σ n k w
theorem f_X3_line_100 (hZ : ZRN (ztb (tb_X3_line E d mc ms)) cut G R T Z) (f : Nat) (L : ZLV) (st : List Value) (σ : ZHp) (n k w : Nat) : Z (f + 1) 100 L st σ n k w = s_callV E d mc ms 2 MX3_number 1 103 L st σ n k w (zk1 cut G (Z f)) G R T := zrs hZ rfl f L st σ n k w
theorem f_X3_line_103 (hZ : ZRN (ztb (tb_X3_line E d mc ms)) cut G R T Z) (f : Nat) (L : ZLV) (st : List Value) (σ : ZHp) (n k w : Nat) : Z (f + 1) 103 L st σ n k w = s_if_eq 140 106 L st σ n k w (zk1 cut G (Z f)) G R T := zrs hZ rfl f L st σ n k w
theorem f_X3_line_106 (hZ : ZRN (ztb (tb_X3_line E d mc ms)) cut G R T Z) (f : Nat) (L : ZLV) (st : List Value) (σ : ZHp) (n k w : Nat) : Z (f + 1) 106 L st σ n k w = s_aload 0 107 L st σ n k w (zk1 cut G (Z f)) G R T := zrs hZ rfl f L st σ n k w
theorem f_X3_line_107 (hZ : ZRN (ztb (tb_X3_line E d mc ms)) cut G R T Z) (f : Nat) (L : ZLV) (st : List Value) (σ : ZHp) (n k w : Nat) : Z (f + 1) 107 L st σ n k w = s_getf 2 0 110 L st σ n k w (zk1 cut G (Z f)) G R T := zrs hZ rfl f L st σ n k w
theorem f_X3_line_110 (hZ : ZRN (ztb (tb_X3_line E d mc ms)) cut G R T Z) (f : Nat) (L : ZLV) (st : List Value) (σ : ZHp) (n k w : Nat) : Z (f + 1) 110 L st σ n k w = s_const (.ref (zeK E 7)) 113 L st σ n k w (zk1 cut G (Z f)) G R T := zrs hZ rfl f L st σ n k w
theorem f_X3_line_113 (hZ : ZRN (ztb (tb_X3_line E d mc ms)) cut G R T Z) (f : Nat) (L : ZLV) (st : List Value) (σ : ZHp) (n k w : Nat) : Z (f + 1) 113 L st σ n k w = s_callV E d mc ms 9 MX10_take 1 116 L st σ n k w (zk1 cut G (Z f)) G R T := zrs hZ rfl f L st σ n k w
theorem f_X3_line_116 (hZ : ZRN (ztb (tb_X3_line E d mc ms)) cut G R T Z) (f : Nat) (L : ZLV) (st : List Value) (σ : ZHp) (n k w : Nat) : Z (f + 1) 116 L st σ n k w = s_if_eq 140 119 L st σ n k w (zk1 cut G (Z f)) G R T := zrs hZ rfl f L st σ n k w
theorem f_X3_line_119 (hZ : ZRN (ztb (tb_X3_line E d mc ms)) cut G R T Z) (f : Nat) (L : ZLV) (st : List Value) (σ : ZHp) (n k w : Nat) : Z (f + 1) 119 L st σ n k w = s_aload 0 120 L st σ n k w (zk1 cut G (Z f)) G R T := zrs hZ rfl f L st σ n k w
theorem f_X3_line_120 (hZ : ZRN (ztb (tb_X3_line E d mc ms)) cut G R T Z) (f : Nat) (L : ZLV) (st : List Value) (σ : ZHp) (n k w : Nat) : Z (f + 1) 120 L st σ n k w = s_const (.ref (zeK E 7)) 123 L st σ n k w (zk1 cut G (Z f)) G R T := zrs hZ rfl f L st σ n k w
theorem f_X3_line_123 (hZ : ZRN (ztb (tb_X3_line E d mc ms)) cut G R T Z) (f : Nat) (L : ZLV) (st : List Value) (σ : ZHp) (n k w : Nat) : Z (f + 1) 123 L st σ n k w = s_callV E d mc ms 2 MX3_number 1 126 L st σ n k w (zk1 cut G (Z f)) G R T := zrs hZ rfl f L st σ n k w
theorem f_X3_line_126 (hZ : ZRN (ztb (tb_X3_line E d mc ms)) cut G R T Z) (f : Nat) (L : ZLV) (st : List Value) (σ : ZHp) (n k w : Nat) : Z (f + 1) 126 L st σ n k w = s_if_eq 140 129 L st σ n k w (zk1 cut G (Z f)) G R T := zrs hZ rfl f L st σ n k w
theorem f_X3_line_129 (hZ : ZRN (ztb (tb_X3_line E d mc ms)) cut G R T Z) (f : Nat) (L : ZLV) (st : List Value) (σ : ZHp) (n k w : Nat) : Z (f + 1) 129 L st σ n k w = s_aload 0 130 L st σ n k w (zk1 cut G (Z f)) G R T := zrs hZ rfl f L st σ n k w
theorem f_X3_line_130 (hZ : ZRN (ztb (tb_X3_line E d mc ms)) cut G R T Z) (f : Nat) (L : ZLV) (st : List Value) (σ : ZHp) (n k w : Nat) : Z (f + 1) 130 L st σ n k w = s_callV E d mc ms 2 MX3_deeds 0 133 L st σ n k w (zk1 cut G (Z f)) G R T := zrs hZ rfl f L st σ n k w
theorem f_X3_line_133 (hZ : ZRN (ztb (tb_X3_line E d mc ms)) cut G R T Z) (f : Nat) (L : ZLV) (st : List Value) (σ : ZHp) (n k w : Nat) : Z (f + 1) 133 L st σ n k w = s_if_eq 140 136 L st σ n k w (zk1 cut G (Z f)) G R T := zrs hZ rfl f L st σ n k w
theorem f_X3_line_136 (hZ : ZRN (ztb (tb_X3_line E d mc ms)) cut G R T Z) (f : Nat) (L : ZLV) (st : List Value) (σ : ZHp) (n k w : Nat) : Z (f + 1) 136 L st σ n k w = s_const (.int (1)) 137 L st σ n k w (zk1 cut G (Z f)) G R T := zrs hZ rfl f L st σ n k w
theorem f_X3_line_137 (hZ : ZRN (ztb (tb_X3_line E d mc ms)) cut G R T Z) (f : Nat) (L : ZLV) (st : List Value) (σ : ZHp) (n k w : Nat) : Z (f + 1) 137 L st σ n k w = s_goto 141 L st σ n k w (zk1 cut G (Z f)) G R T := zrs hZ rfl f L st σ n k w
theorem f_X3_line_140 (hZ : ZRN (ztb (tb_X3_line E d mc ms)) cut G R T Z) (f : Nat) (L : ZLV) (st : List Value) (σ : ZHp) (n k w : Nat) : Z (f + 1) 140 L st σ n k w = s_const (.int (0)) 141 L st σ n k w (zk1 cut G (Z f)) G R T := zrs hZ rfl f L st σ n k w
theorem f_X3_line_141 (hZ : ZRN (ztb (tb_X3_line E d mc ms)) cut G R T Z) (f : Nat) (L : ZLV) (st : List Value) (σ : ZHp) (n k w : Nat) : Z (f + 1) 141 L st σ n k w = s_zreturn L st σ n k w (zk1 cut G (Z f)) G R T := zrs hZ rfl f L st σ n k w
theorem f_X3_line_142 (hZ : ZRN (ztb (tb_X3_line E d mc ms)) cut G R T Z) (f : Nat) (L : ZLV) (st : List Value) (σ : ZHp) (n k w : Nat) : Z (f + 1) 142 L st σ n k w = s_aload 0 143 L st σ n k w (zk1 cut G (Z f)) G R T := zrs hZ rfl f L st σ n k w
theorem f_X3_line_143 (hZ : ZRN (ztb (tb_X3_line E d mc ms)) cut G R T Z) (f : Nat) (L : ZLV) (st : List Value) (σ : ZHp) (n k w : Nat) : Z (f + 1) 143 L st σ n k w = s_getf 2 0 146 L st σ n k w (zk1 cut G (Z f)) G R T := zrs hZ rfl f L st σ n k w
theorem f_X3_line_146 (hZ : ZRN (ztb (tb_X3_line E d mc ms)) cut G R T Z) (f : Nat) (L : ZLV) (st : List Value) (σ : ZHp) (n k w : Nat) : Z (f + 1) 146 L st σ n k w = s_const (.ref (zeK E 13)) 149 L st σ n k w (zk1 cut G (Z f)) G R T := zrs hZ rfl f L st σ n k w
theorem f_X3_line_149 (hZ : ZRN (ztb (tb_X3_line E d mc ms)) cut G R T Z) (f : Nat) (L : ZLV) (st : List Value) (σ : ZHp) (n k w : Nat) : Z (f + 1) 149 L st σ n k w = s_callV E d mc ms 9 MX10_take 1 152 L st σ n k w (zk1 cut G (Z f)) G R T := zrs hZ rfl f L st σ n k w
theorem f_X3_line_152 (hZ : ZRN (ztb (tb_X3_line E d mc ms)) cut G R T Z) (f : Nat) (L : ZLV) (st : List Value) (σ : ZHp) (n k w : Nat) : Z (f + 1) 152 L st σ n k w = s_if_eq 192 155 L st σ n k w (zk1 cut G (Z f)) G R T := zrs hZ rfl f L st σ n k w
theorem f_X3_line_155 (hZ : ZRN (ztb (tb_X3_line E d mc ms)) cut G R T Z) (f : Nat) (L : ZLV) (st : List Value) (σ : ZHp) (n k w : Nat) : Z (f + 1) 155 L st σ n k w = s_aload 0 156 L st σ n k w (zk1 cut G (Z f)) G R T := zrs hZ rfl f L st σ n k w
theorem f_X3_line_156 (hZ : ZRN (ztb (tb_X3_line E d mc ms)) cut G R T Z) (f : Nat) (L : ZLV) (st : List Value) (σ : ZHp) (n k w : Nat) : Z (f + 1) 156 L st σ n k w = s_const (.ref (zeK E 13)) 159 L st σ n k w (zk1 cut G (Z f)) G R T := zrs hZ rfl f L st σ n k w
theorem f_X3_line_159 (hZ : ZRN (ztb (tb_X3_line E d mc ms)) cut G R T Z) (f : Nat) (L : ZLV) (st : List Value) (σ : ZHp) (n k w : Nat) : Z (f + 1) 159 L st σ n k w = s_callV E d mc ms 2 MX3_number 1 162 L st σ n k w (zk1 cut G (Z f)) G R T := zrs hZ rfl f L st σ n k w
theorem f_X3_line_162 (hZ : ZRN (ztb (tb_X3_line E d mc ms)) cut G R T Z) (f : Nat) (L : ZLV) (st : List Value) (σ : ZHp) (n k w : Nat) : Z (f + 1) 162 L st σ n k w = s_if_eq 192 165 L st σ n k w (zk1 cut G (Z f)) G R T := zrs hZ rfl f L st σ n k w
theorem f_X3_line_165 (hZ : ZRN (ztb (tb_X3_line E d mc ms)) cut G R T Z) (f : Nat) (L : ZLV) (st : List Value) (σ : ZHp) (n k w : Nat) : Z (f + 1) 165 L st σ n k w = s_aload 0 166 L st σ n k w (zk1 cut G (Z f)) G R T := zrs hZ rfl f L st σ n k w
theorem f_X3_line_166 (hZ : ZRN (ztb (tb_X3_line E d mc ms)) cut G R T Z) (f : Nat) (L : ZLV) (st : List Value) (σ : ZHp) (n k w : Nat) : Z (f + 1) 166 L st σ n k w = s_getf 2 0 169 L st σ n k w (zk1 cut G (Z f)) G R T := zrs hZ rfl f L st σ n k w
theorem f_X3_line_169 (hZ : ZRN (ztb (tb_X3_line E d mc ms)) cut G R T Z) (f : Nat) (L : ZLV) (st : List Value) (σ : ZHp) (n k w : Nat) : Z (f + 1) 169 L st σ n k w = s_const (.ref (zeK E 14)) 172 L st σ n k w (zk1 cut G (Z f)) G R T := zrs hZ rfl f L st σ n k w
theorem f_X3_line_172 (hZ : ZRN (ztb (tb_X3_line E d mc ms)) cut G R T Z) (f : Nat) (L : ZLV) (st : List Value) (σ : ZHp) (n k w : Nat) : Z (f + 1) 172 L st σ n k w = s_callV E d mc ms 9 MX10_take 1 175 L st σ n k w (zk1 cut G (Z f)) G R T := zrs hZ rfl f L st σ n k w
theorem f_X3_line_175 (hZ : ZRN (ztb (tb_X3_line E d mc ms)) cut G R T Z) (f : Nat) (L : ZLV) (st : List Value) (σ : ZHp) (n k w : Nat) : Z (f + 1) 175 L st σ n k w = s_if_eq 192 178 L st σ n k w (zk1 cut G (Z f)) G R T := zrs hZ rfl f L st σ n k w
theorem f_X3_line_178 (hZ : ZRN (ztb (tb_X3_line E d mc ms)) cut G R T Z) (f : Nat) (L : ZLV) (st : List Value) (σ : ZHp) (n k w : Nat) : Z (f + 1) 178 L st σ n k w = s_aload 0 179 L st σ n k w (zk1 cut G (Z f)) G R T := zrs hZ rfl f L st σ n k w
theorem f_X3_line_179 (hZ : ZRN (ztb (tb_X3_line E d mc ms)) cut G R T Z) (f : Nat) (L : ZLV) (st : List Value) (σ : ZHp) (n k w : Nat) : Z (f + 1) 179 L st σ n k w = s_const (.ref (zeK E 13)) 182 L st σ n k w (zk1 cut G (Z f)) G R T := zrs hZ rfl f L st σ n k w
theorem f_X3_line_182 (hZ : ZRN (ztb (tb_X3_line E d mc ms)) cut G R T Z) (f : Nat) (L : ZLV) (st : List Value) (σ : ZHp) (n k w : Nat) : Z (f + 1) 182 L st σ n k w = s_callV E d mc ms 2 MX3_name 1 185 L st σ n k w (zk1 cut G (Z f)) G R T := zrs hZ rfl f L st σ n k w
theorem f_X3_line_185 (hZ : ZRN (ztb (tb_X3_line E d mc ms)) cut G R T Z) (f : Nat) (L : ZLV) (st : List Value) (σ : ZHp) (n k w : Nat) : Z (f + 1) 185 L st σ n k w = s_if_eq 192 188 L st σ n k w (zk1 cut G (Z f)) G R T := zrs hZ rfl f L st σ n k w
theorem f_X3_line_188 (hZ : ZRN (ztb (tb_X3_line E d mc ms)) cut G R T Z) (f : Nat) (L : ZLV) (st : List Value) (σ : ZHp) (n k w : Nat) : Z (f + 1) 188 L st σ n k w = s_const (.int (1)) 189 L st σ n k w (zk1 cut G (Z f)) G R T := zrs hZ rfl f L st σ n k w
theorem f_X3_line_189 (hZ : ZRN (ztb (tb_X3_line E d mc ms)) cut G R T Z) (f : Nat) (L : ZLV) (st : List Value) (σ : ZHp) (n k w : Nat) : Z (f + 1) 189 L st σ n k w = s_goto 193 L st σ n k w (zk1 cut G (Z f)) G R T := zrs hZ rfl f L st σ n k w
theorem f_X3_line_192 (hZ : ZRN (ztb (tb_X3_line E d mc ms)) cut G R T Z) (f : Nat) (L : ZLV) (st : List Value) (σ : ZHp) (n k w : Nat) : Z (f + 1) 192 L st σ n k w = s_const (.int (0)) 193 L st σ n k w (zk1 cut G (Z f)) G R T := zrs hZ rfl f L st σ n k w
theorem f_X3_line_193 (hZ : ZRN (ztb (tb_X3_line E d mc ms)) cut G R T Z) (f : Nat) (L : ZLV) (st : List Value) (σ : ZHp) (n k w : Nat) : Z (f + 1) 193 L st σ n k w = s_zreturn L st σ n k w (zk1 cut G (Z f)) G R T := zrs hZ rfl f L st σ n k w
theorem f_X3_line_194 (hZ : ZRN (ztb (tb_X3_line E d mc ms)) cut G R T Z) (f : Nat) (L : ZLV) (st : List Value) (σ : ZHp) (n k w : Nat) : Z (f + 1) 194 L st σ n k w = s_aload 0 195 L st σ n k w (zk1 cut G (Z f)) G R T := zrs hZ rfl f L st σ n k w
theorem f_X3_line_195 (hZ : ZRN (ztb (tb_X3_line E d mc ms)) cut G R T Z) (f : Nat) (L : ZLV) (st : List Value) (σ : ZHp) (n k w : Nat) : Z (f + 1) 195 L st σ n k w = s_getf 2 0 198 L st σ n k w (zk1 cut G (Z f)) G R T := zrs hZ rfl f L st σ n k w
theorem f_X3_line_198 (hZ : ZRN (ztb (tb_X3_line E d mc ms)) cut G R T Z) (f : Nat) (L : ZLV) (st : List Value) (σ : ZHp) (n k w : Nat) : Z (f + 1) 198 L st σ n k w = s_const (.ref (zeK E 15)) 201 L st σ n k w (zk1 cut G (Z f)) G R T := zrs hZ rfl f L st σ n k w
theorem f_X3_line_201 (hZ : ZRN (ztb (tb_X3_line E d mc ms)) cut G R T Z) (f : Nat) (L : ZLV) (st : List Value) (σ : ZHp) (n k w : Nat) : Z (f + 1) 201 L st σ n k w = s_callV E d mc ms 9 MX10_take 1 204 L st σ n k w (zk1 cut G (Z f)) G R T := zrs hZ rfl f L st σ n k w
theorem f_X3_line_204 (hZ : ZRN (ztb (tb_X3_line E d mc ms)) cut G R T Z) (f : Nat) (L : ZLV) (st : List Value) (σ : ZHp) (n k w : Nat) : Z (f + 1) 204 L st σ n k w = s_if_eq 244 207 L st σ n k w (zk1 cut G (Z f)) G R T := zrs hZ rfl f L st σ n k w
theorem f_X3_line_207 (hZ : ZRN (ztb (tb_X3_line E d mc ms)) cut G R T Z) (f : Nat) (L : ZLV) (st : List Value) (σ : ZHp) (n k w : Nat) : Z (f + 1) 207 L st σ n k w = s_aload 0 208 L st σ n k w (zk1 cut G (Z f)) G R T := zrs hZ rfl f L st σ n k w
theorem f_X3_line_208 (hZ : ZRN (ztb (tb_X3_line E d mc ms)) cut G R T Z) (f : Nat) (L : ZLV) (st : List Value) (σ : ZHp) (n k w : Nat) : Z (f + 1) 208 L st σ n k w = s_const (.ref (zeK E 15)) 211 L st σ n k w (zk1 cut G (Z f)) G R T := zrs hZ rfl f L st σ n k w
theorem f_X3_line_211 (hZ : ZRN (ztb (tb_X3_line E d mc ms)) cut G R T Z) (f : Nat) (L : ZLV) (st : List Value) (σ : ZHp) (n k w : Nat) : Z (f + 1) 211 L st σ n k w = s_callV E d mc ms 2 MX3_number 1 214 L st σ n k w (zk1 cut G (Z f)) G R T := zrs hZ rfl f L st σ n k w
theorem f_X3_line_214 (hZ : ZRN (ztb (tb_X3_line E d mc ms)) cut G R T Z) (f : Nat) (L : ZLV) (st : List Value) (σ : ZHp) (n k w : Nat) : Z (f + 1) 214 L st σ n k w = s_if_eq 244 217 L st σ n k w (zk1 cut G (Z f)) G R T := zrs hZ rfl f L st σ n k w
theorem f_X3_line_217 (hZ : ZRN (ztb (tb_X3_line E d mc ms)) cut G R T Z) (f : Nat) (L : ZLV) (st : List Value) (σ : ZHp) (n k w : Nat) : Z (f + 1) 217 L st σ n k w = s_aload 0 218 L st σ n k w (zk1 cut G (Z f)) G R T := zrs hZ rfl f L st σ n k w
theorem f_X3_line_218 (hZ : ZRN (ztb (tb_X3_line E d mc ms)) cut G R T Z) (f : Nat) (L : ZLV) (st : List Value) (σ : ZHp) (n k w : Nat) : Z (f + 1) 218 L st σ n k w = s_getf 2 0 221 L st σ n k w (zk1 cut G (Z f)) G R T := zrs hZ rfl f L st σ n k w
theorem f_X3_line_221 (hZ : ZRN (ztb (tb_X3_line E d mc ms)) cut G R T Z) (f : Nat) (L : ZLV) (st : List Value) (σ : ZHp) (n k w : Nat) : Z (f + 1) 221 L st σ n k w = s_const (.ref (zeK E 14)) 224 L st σ n k w (zk1 cut G (Z f)) G R T := zrs hZ rfl f L st σ n k w
theorem f_X3_line_224 (hZ : ZRN (ztb (tb_X3_line E d mc ms)) cut G R T Z) (f : Nat) (L : ZLV) (st : List Value) (σ : ZHp) (n k w : Nat) : Z (f + 1) 224 L st σ n k w = s_callV E d mc ms 9 MX10_take 1 227 L st σ n k w (zk1 cut G (Z f)) G R T := zrs hZ rfl f L st σ n k w
theorem f_X3_line_227 (hZ : ZRN (ztb (tb_X3_line E d mc ms)) cut G R T Z) (f : Nat) (L : ZLV) (st : List Value) (σ : ZHp) (n k w : Nat) : Z (f + 1) 227 L st σ n k w = s_if_eq 244 230 L st σ n k w (zk1 cut G (Z f)) G R T := zrs hZ rfl f L st σ n k w
theorem f_X3_line_230 (hZ : ZRN (ztb (tb_X3_line E d mc ms)) cut G R T Z) (f : Nat) (L : ZLV) (st : List Value) (σ : ZHp) (n k w : Nat) : Z (f + 1) 230 L st σ n k w = s_aload 0 231 L st σ n k w (zk1 cut G (Z f)) G R T := zrs hZ rfl f L st σ n k w
theorem f_X3_line_231 (hZ : ZRN (ztb (tb_X3_line E d mc ms)) cut G R T Z) (f : Nat) (L : ZLV) (st : List Value) (σ : ZHp) (n k w : Nat) : Z (f + 1) 231 L st σ n k w = s_const (.ref (zeK E 15)) 234 L st σ n k w (zk1 cut G (Z f)) G R T := zrs hZ rfl f L st σ n k w
theorem f_X3_line_234 (hZ : ZRN (ztb (tb_X3_line E d mc ms)) cut G R T Z) (f : Nat) (L : ZLV) (st : List Value) (σ : ZHp) (n k w : Nat) : Z (f + 1) 234 L st σ n k w = s_callV E d mc ms 2 MX3_name 1 237 L st σ n k w (zk1 cut G (Z f)) G R T := zrs hZ rfl f L st σ n k w
theorem f_X3_line_237 (hZ : ZRN (ztb (tb_X3_line E d mc ms)) cut G R T Z) (f : Nat) (L : ZLV) (st : List Value) (σ : ZHp) (n k w : Nat) : Z (f + 1) 237 L st σ n k w = s_if_eq 244 240 L st σ n k w (zk1 cut G (Z f)) G R T := zrs hZ rfl f L st σ n k w
theorem f_X3_line_240 (hZ : ZRN (ztb (tb_X3_line E d mc ms)) cut G R T Z) (f : Nat) (L : ZLV) (st : List Value) (σ : ZHp) (n k w : Nat) : Z (f + 1) 240 L st σ n k w = s_const (.int (1)) 241 L st σ n k w (zk1 cut G (Z f)) G R T := zrs hZ rfl f L st σ n k w
theorem f_X3_line_241 (hZ : ZRN (ztb (tb_X3_line E d mc ms)) cut G R T Z) (f : Nat) (L : ZLV) (st : List Value) (σ : ZHp) (n k w : Nat) : Z (f + 1) 241 L st σ n k w = s_goto 245 L st σ n k w (zk1 cut G (Z f)) G R T := zrs hZ rfl f L st σ n k w
theorem f_X3_line_244 (hZ : ZRN (ztb (tb_X3_line E d mc ms)) cut G R T Z) (f : Nat) (L : ZLV) (st : List Value) (σ : ZHp) (n k w : Nat) : Z (f + 1) 244 L st σ n k w = s_const (.int (0)) 245 L st σ n k w (zk1 cut G (Z f)) G R T := zrs hZ rfl f L st σ n k w
theorem f_X3_line_245 (hZ : ZRN (ztb (tb_X3_line E d mc ms)) cut G R T Z) (f : Nat) (L : ZLV) (st : List Value) (σ : ZHp) (n k w : Nat) : Z (f + 1) 245 L st σ n k w = s_zreturn L st σ n k w (zk1 cut G (Z f)) G R T := zrs hZ rfl f L st σ n k w
theorem f_X3_line_246 (hZ : ZRN (ztb (tb_X3_line E d mc ms)) cut G R T Z) (f : Nat) (L : ZLV) (st : List Value) (σ : ZHp) (n k w : Nat) : Z (f + 1) 246 L st σ n k w = s_aload 0 247 L st σ n k w (zk1 cut G (Z f)) G R T := zrs hZ rfl f L st σ n k w
theorem f_X3_line_247 (hZ : ZRN (ztb (tb_X3_line E d mc ms)) cut G R T Z) (f : Nat) (L : ZLV) (st : List Value) (σ : ZHp) (n k w : Nat) : Z (f + 1) 247 L st σ n k w = s_getf 2 0 250 L st σ n k w (zk1 cut G (Z f)) G R T := zrs hZ rfl f L st σ n k w
theorem f_X3_line_250 (hZ : ZRN (ztb (tb_X3_line E d mc ms)) cut G R T Z) (f : Nat) (L : ZLV) (st : List Value) (σ : ZHp) (n k w : Nat) : Z (f + 1) 250 L st σ n k w = s_const (.ref (zeK E 16)) 253 L st σ n k w (zk1 cut G (Z f)) G R T := zrs hZ rfl f L st σ n k w
theorem f_X3_line_253 (hZ : ZRN (ztb (tb_X3_line E d mc ms)) cut G R T Z) (f : Nat) (L : ZLV) (st : List Value) (σ : ZHp) (n k w : Nat) : Z (f + 1) 253 L st σ n k w = s_callV E d mc ms 9 MX10_take 1 256 L st σ n k w (zk1 cut G (Z f)) G R T := zrs hZ rfl f L st σ n k w
theorem f_X3_line_256 (hZ : ZRN (ztb (tb_X3_line E d mc ms)) cut G R T Z) (f : Nat) (L : ZLV) (st : List Value) (σ : ZHp) (n k w : Nat) : Z (f + 1) 256 L st σ n k w = s_if_eq 273 259 L st σ n k w (zk1 cut G (Z f)) G R T := zrs hZ rfl f L st σ n k w
theorem f_X3_line_259 (hZ : ZRN (ztb (tb_X3_line E d mc ms)) cut G R T Z) (f : Nat) (L : ZLV) (st : List Value) (σ : ZHp) (n k w : Nat) : Z (f + 1) 259 L st σ n k w = s_aload 0 260 L st σ n k w (zk1 cut G (Z f)) G R T := zrs hZ rfl f L st σ n k w
theorem f_X3_line_260 (hZ : ZRN (ztb (tb_X3_line E d mc ms)) cut G R T Z) (f : Nat) (L : ZLV) (st : List Value) (σ : ZHp) (n k w : Nat) : Z (f + 1) 260 L st σ n k w = s_const (.ref (zeK E 16)) 263 L st σ n k w (zk1 cut G (Z f)) G R T := zrs hZ rfl f L st σ n k w
theorem f_X3_line_263 (hZ : ZRN (ztb (tb_X3_line E d mc ms)) cut G R T Z) (f : Nat) (L : ZLV) (st : List Value) (σ : ZHp) (n k w : Nat) : Z (f + 1) 263 L st σ n k w = s_callV E d mc ms 2 MX3_name 1 266 L st σ n k w (zk1 cut G (Z f)) G R T := zrs hZ rfl f L st σ n k w
theorem f_X3_line_266 (hZ : ZRN (ztb (tb_X3_line E d mc ms)) cut G R T Z) (f : Nat) (L : ZLV) (st : List Value) (σ : ZHp) (n k w : Nat) : Z (f + 1) 266 L st σ n k w = s_if_eq 273 269 L st σ n k w (zk1 cut G (Z f)) G R T := zrs hZ rfl f L st σ n k w
theorem f_X3_line_269 (hZ : ZRN (ztb (tb_X3_line E d mc ms)) cut G R T Z) (f : Nat) (L : ZLV) (st : List Value) (σ : ZHp) (n k w : Nat) : Z (f + 1) 269 L st σ n k w = s_const (.int (1)) 270 L st σ n k w (zk1 cut G (Z f)) G R T := zrs hZ rfl f L st σ n k w
theorem f_X3_line_270 (hZ : ZRN (ztb (tb_X3_line E d mc ms)) cut G R T Z) (f : Nat) (L : ZLV) (st : List Value) (σ : ZHp) (n k w : Nat) : Z (f + 1) 270 L st σ n k w = s_goto 274 L st σ n k w (zk1 cut G (Z f)) G R T := zrs hZ rfl f L st σ n k w
theorem f_X3_line_273 (hZ : ZRN (ztb (tb_X3_line E d mc ms)) cut G R T Z) (f : Nat) (L : ZLV) (st : List Value) (σ : ZHp) (n k w : Nat) : Z (f + 1) 273 L st σ n k w = s_const (.int (0)) 274 L st σ n k w (zk1 cut G (Z f)) G R T := zrs hZ rfl f L st σ n k w
theorem f_X3_line_274 (hZ : ZRN (ztb (tb_X3_line E d mc ms)) cut G R T Z) (f : Nat) (L : ZLV) (st : List Value) (σ : ZHp) (n k w : Nat) : Z (f + 1) 274 L st σ n k w = s_zreturn L st σ n k w (zk1 cut G (Z f)) G R T := zrs hZ rfl f L st σ n k w
theorem f_X3_line_275 (hZ : ZRN (ztb (tb_X3_line E d mc ms)) cut G R T Z) (f : Nat) (L : ZLV) (st : List Value) (σ : ZHp) (n k w : Nat) : Z (f + 1) 275 L st σ n k w = s_aload 0 276 L st σ n k w (zk1 cut G (Z f)) G R T := zrs hZ rfl f L st σ n k w
theorem f_X3_line_276 (hZ : ZRN (ztb (tb_X3_line E d mc ms)) cut G R T Z) (f : Nat) (L : ZLV) (st : List Value) (σ : ZHp) (n k w : Nat) : Z (f + 1) 276 L st σ n k w = s_getf 2 1 279 L st σ n k w (zk1 cut G (Z f)) G R T := zrs hZ rfl f L st σ n k w
theorem f_X3_line_279 (hZ : ZRN (ztb (tb_X3_line E d mc ms)) cut G R T Z) (f : Nat) (L : ZLV) (st : List Value) (σ : ZHp) (n k w : Nat) : Z (f + 1) 279 L st σ n k w = s_aload 0 280 L st σ n k w (zk1 cut G (Z f)) G R T := zrs hZ rfl f L st σ n k w
theorem f_X3_line_280 (hZ : ZRN (ztb (tb_X3_line E d mc ms)) cut G R T Z) (f : Nat) (L : ZLV) (st : List Value) (σ : ZHp) (n k w : Nat) : Z (f + 1) 280 L st σ n k w = s_getf 2 0 283 L st σ n k w (zk1 cut G (Z f)) G R T := zrs hZ rfl f L st σ n k w
theorem f_X3_line_283 (hZ : ZRN (ztb (tb_X3_line E d mc ms)) cut G R T Z) (f : Nat) (L : ZLV) (st : List Value) (σ : ZHp) (n k w : Nat) : Z (f + 1) 283 L st σ n k w = s_callV E d mc ms 9 MX10_place 0 286 L st σ n k w (zk1 cut G (Z f)) G R T := zrs hZ rfl f L st σ n k w
theorem f_X3_line_286 (hZ : ZRN (ztb (tb_X3_line E d mc ms)) cut G R T Z) (f : Nat) (L : ZLV) (st : List Value) (σ : ZHp) (n k w : Nat) : Z (f + 1) 286 L st σ n k w = s_callV E d mc ms 6 MX7_writeOrder 1 289 L st σ n k w (zk1 cut G (Z f)) G R T := zrs hZ rfl f L st σ n k w
theorem f_X3_line_289 (hZ : ZRN (ztb (tb_X3_line E d mc ms)) cut G R T Z) (f : Nat) (L : ZLV) (st : List Value) (σ : ZHp) (n k w : Nat) : Z (f + 1) 289 L st σ n k w = s_aload 0 290 L st σ n k w (zk1 cut G (Z f)) G R T := zrs hZ rfl f L st σ n k w
theorem f_X3_line_290 (hZ : ZRN (ztb (tb_X3_line E d mc ms)) cut G R T Z) (f : Nat) (L : ZLV) (st : List Value) (σ : ZHp) (n k w : Nat) : Z (f + 1) 290 L st σ n k w = s_getf 2 0 293 L st σ n k w (zk1 cut G (Z f)) G R T := zrs hZ rfl f L st σ n k w
theorem f_X3_line_293 (hZ : ZRN (ztb (tb_X3_line E d mc ms)) cut G R T Z) (f : Nat) (L : ZLV) (st : List Value) (σ : ZHp) (n k w : Nat) : Z (f + 1) 293 L st σ n k w = s_const (.ref (zeK E 17)) 296 L st σ n k w (zk1 cut G (Z f)) G R T := zrs hZ rfl f L st σ n k w
theorem f_X3_line_296 (hZ : ZRN (ztb (tb_X3_line E d mc ms)) cut G R T Z) (f : Nat) (L : ZLV) (st : List Value) (σ : ZHp) (n k w : Nat) : Z (f + 1) 296 L st σ n k w = s_callV E d mc ms 9 MX10_take 1 299 L st σ n k w (zk1 cut G (Z f)) G R T := zrs hZ rfl f L st σ n k w
theorem f_X3_line_299 (hZ : ZRN (ztb (tb_X3_line E d mc ms)) cut G R T Z) (f : Nat) (L : ZLV) (st : List Value) (σ : ZHp) (n k w : Nat) : Z (f + 1) 299 L st σ n k w = s_if_eq 346 302 L st σ n k w (zk1 cut G (Z f)) G R T := zrs hZ rfl f L st σ n k w
theorem f_X3_line_302 (hZ : ZRN (ztb (tb_X3_line E d mc ms)) cut G R T Z) (f : Nat) (L : ZLV) (st : List Value) (σ : ZHp) (n k w : Nat) : Z (f + 1) 302 L st σ n k w = s_aload 0 303 L st σ n k w (zk1 cut G (Z f)) G R T := zrs hZ rfl f L st σ n k w
theorem f_X3_line_303 (hZ : ZRN (ztb (tb_X3_line E d mc ms)) cut G R T Z) (f : Nat) (L : ZLV) (st : List Value) (σ : ZHp) (n k w : Nat) : Z (f + 1) 303 L st σ n k w = s_const (.ref (zeK E 17)) 306 L st σ n k w (zk1 cut G (Z f)) G R T := zrs hZ rfl f L st σ n k w
theorem f_X3_line_306 (hZ : ZRN (ztb (tb_X3_line E d mc ms)) cut G R T Z) (f : Nat) (L : ZLV) (st : List Value) (σ : ZHp) (n k w : Nat) : Z (f + 1) 306 L st σ n k w = s_callV E d mc ms 2 MX3_name 1 309 L st σ n k w (zk1 cut G (Z f)) G R T := zrs hZ rfl f L st σ n k w
theorem f_X3_line_309 (hZ : ZRN (ztb (tb_X3_line E d mc ms)) cut G R T Z) (f : Nat) (L : ZLV) (st : List Value) (σ : ZHp) (n k w : Nat) : Z (f + 1) 309 L st σ n k w = s_if_eq 346 312 L st σ n k w (zk1 cut G (Z f)) G R T := zrs hZ rfl f L st σ n k w
theorem f_X3_line_312 (hZ : ZRN (ztb (tb_X3_line E d mc ms)) cut G R T Z) (f : Nat) (L : ZLV) (st : List Value) (σ : ZHp) (n k w : Nat) : Z (f + 1) 312 L st σ n k w = s_aload 0 313 L st σ n k w (zk1 cut G (Z f)) G R T := zrs hZ rfl f L st σ n k w
theorem f_X3_line_313 (hZ : ZRN (ztb (tb_X3_line E d mc ms)) cut G R T Z) (f : Nat) (L : ZLV) (st : List Value) (σ : ZHp) (n k w : Nat) : Z (f + 1) 313 L st σ n k w = s_getf 2 0 316 L st σ n k w (zk1 cut G (Z f)) G R T := zrs hZ rfl f L st σ n k w
theorem f_X3_line_316 (hZ : ZRN (ztb (tb_X3_line E d mc ms)) cut G R T Z) (f : Nat) (L : ZLV) (st : List Value) (σ : ZHp) (n k w : Nat) : Z (f + 1) 316 L st σ n k w = s_const (.ref (zeK E 18)) 319 L st σ n k w (zk1 cut G (Z f)) G R T := zrs hZ rfl f L st σ n k w
theorem f_X3_line_319 (hZ : ZRN (ztb (tb_X3_line E d mc ms)) cut G R T Z) (f : Nat) (L : ZLV) (st : List Value) (σ : ZHp) (n k w : Nat) : Z (f + 1) 319 L st σ n k w = s_callV E d mc ms 9 MX10_take 1 322 L st σ n k w (zk1 cut G (Z f)) G R T := zrs hZ rfl f L st σ n k w
theorem f_X3_line_322 (hZ : ZRN (ztb (tb_X3_line E d mc ms)) cut G R T Z) (f : Nat) (L : ZLV) (st : List Value) (σ : ZHp) (n k w : Nat) : Z (f + 1) 322 L st σ n k w = s_if_eq 346 325 L st σ n k w (zk1 cut G (Z f)) G R T := zrs hZ rfl f L st σ n k w
theorem f_X3_line_325 (hZ : ZRN (ztb (tb_X3_line E d mc ms)) cut G R T Z) (f : Nat) (L : ZLV) (st : List Value) (σ : ZHp) (n k w : Nat) : Z (f + 1) 325 L st σ n k w = s_aload 0 326 L st σ n k w (zk1 cut G (Z f)) G R T := zrs hZ rfl f L st σ n k w
theorem f_X3_line_326 (hZ : ZRN (ztb (tb_X3_line E d mc ms)) cut G R T Z) (f : Nat) (L : ZLV) (st : List Value) (σ : ZHp) (n k w : Nat) : Z (f + 1) 326 L st σ n k w = s_const (.ref (zeK E 18)) 329 L st σ n k w (zk1 cut G (Z f)) G R T := zrs hZ rfl f L st σ n k w
theorem f_X3_line_329 (hZ : ZRN (ztb (tb_X3_line E d mc ms)) cut G R T Z) (f : Nat) (L : ZLV) (st : List Value) (σ : ZHp) (n k w : Nat) : Z (f + 1) 329 L st σ n k w = s_callV E d mc ms 2 MX3_name 1 332 L st σ n k w (zk1 cut G (Z f)) G R T := zrs hZ rfl f L st σ n k w
theorem f_X3_line_332 (hZ : ZRN (ztb (tb_X3_line E d mc ms)) cut G R T Z) (f : Nat) (L : ZLV) (st : List Value) (σ : ZHp) (n k w : Nat) : Z (f + 1) 332 L st σ n k w = s_if_eq 346 335 L st σ n k w (zk1 cut G (Z f)) G R T := zrs hZ rfl f L st σ n k w
theorem f_X3_line_335 (hZ : ZRN (ztb (tb_X3_line E d mc ms)) cut G R T Z) (f : Nat) (L : ZLV) (st : List Value) (σ : ZHp) (n k w : Nat) : Z (f + 1) 335 L st σ n k w = s_aload 0 336 L st σ n k w (zk1 cut G (Z f)) G R T := zrs hZ rfl f L st σ n k w
theorem f_X3_line_336 (hZ : ZRN (ztb (tb_X3_line E d mc ms)) cut G R T Z) (f : Nat) (L : ZLV) (st : List Value) (σ : ZHp) (n k w : Nat) : Z (f + 1) 336 L st σ n k w = s_callV E d mc ms 2 MX3_when 0 339 L st σ n k w (zk1 cut G (Z f)) G R T := zrs hZ rfl f L st σ n k w
theorem f_X3_line_339 (hZ : ZRN (ztb (tb_X3_line E d mc ms)) cut G R T Z) (f : Nat) (L : ZLV) (st : List Value) (σ : ZHp) (n k w : Nat) : Z (f + 1) 339 L st σ n k w = s_if_eq 346 342 L st σ n k w (zk1 cut G (Z f)) G R T := zrs hZ rfl f L st σ n k w
theorem f_X3_line_342 (hZ : ZRN (ztb (tb_X3_line E d mc ms)) cut G R T Z) (f : Nat) (L : ZLV) (st : List Value) (σ : ZHp) (n k w : Nat) : Z (f + 1) 342 L st σ n k w = s_const (.int (1)) 343 L st σ n k w (zk1 cut G (Z f)) G R T := zrs hZ rfl f L st σ n k w
theorem f_X3_line_343 (hZ : ZRN (ztb (tb_X3_line E d mc ms)) cut G R T Z) (f : Nat) (L : ZLV) (st : List Value) (σ : ZHp) (n k w : Nat) : Z (f + 1) 343 L st σ n k w = s_goto 347 L st σ n k w (zk1 cut G (Z f)) G R T := zrs hZ rfl f L st σ n k w
theorem f_X3_line_346 (hZ : ZRN (ztb (tb_X3_line E d mc ms)) cut G R T Z) (f : Nat) (L : ZLV) (st : List Value) (σ : ZHp) (n k w : Nat) : Z (f + 1) 346 L st σ n k w = s_const (.int (0)) 347 L st σ n k w (zk1 cut G (Z f)) G R T := zrs hZ rfl f L st σ n k w
theorem f_X3_line_347 (hZ : ZRN (ztb (tb_X3_line E d mc ms)) cut G R T Z) (f : Nat) (L : ZLV) (st : List Value) (σ : ZHp) (n k w : Nat) : Z (f + 1) 347 L st σ n k w = s_zreturn L st σ n k w (zk1 cut G (Z f)) G R T := zrs hZ rfl f L st σ n k w
theorem f_X3_line_348 (hZ : ZRN (ztb (tb_X3_line E d mc ms)) cut G R T Z) (f : Nat) (L : ZLV) (st : List Value) (σ : ZHp) (n k w : Nat) : Z (f + 1) 348 L st σ n k w = s_const (.int (0)) 349 L st σ n k w (zk1 cut G (Z f)) G R T := zrs hZ rfl f L st σ n k w
theorem f_X3_line_349 (hZ : ZRN (ztb (tb_X3_line E d mc ms)) cut G R T Z) (f : Nat) (L : ZLV) (st : List Value) (σ : ZHp) (n k w : Nat) : Z (f + 1) 349 L st σ n k w = s_zreturn L st σ n k w (zk1 cut G (Z f)) G R T := zrs hZ rfl f L st σ n k w
theorem f_X3_name_0 (hZ : ZRN (ztb (tb_X3_name E d mc ms)) cut G R T Z) (f : Nat) (L : ZLV) (st : List Value) (σ : ZHp) (n k w : Nat) : Z (f + 1) 0 L st σ n k w = s_aload 0 1 L st σ n k w (zk1 cut G (Z f)) G R T := zrs hZ rfl f L st σ n k w
theorem f_X3_name_1 (hZ : ZRN (ztb (tb_X3_name E d mc ms)) cut G R T Z) (f : Nat) (L : ZLV) (st : List Value) (σ : ZHp) (n k w : Nat) : Z (f + 1) 1 L st σ n k w = s_getf 2 0 4 L st σ n k w (zk1 cut G (Z f)) G R T := zrs hZ rfl f L st σ n k w
theorem f_X3_name_4 (hZ : ZRN (ztb (tb_X3_name E d mc ms)) cut G R T Z) (f : Nat) (L : ZLV) (st : List Value) (σ : ZHp) (n k w : Nat) : Z (f + 1) 4 L st σ n k w = s_callV E d mc ms 9 MX10_sign 0 7 L st σ n k w (zk1 cut G (Z f)) G R T := zrs hZ rfl f L st σ n k w
theorem f_X3_name_7 (hZ : ZRN (ztb (tb_X3_name E d mc ms)) cut G R T Z) (f : Nat) (L : ZLV) (st : List Value) (σ : ZHp) (n k w : Nat) : Z (f + 1) 7 L st σ n k w = s_const (.ref (zeK E 2)) 10 L st σ n k w (zk1 cut G (Z f)) G R T := zrs hZ rfl f L st σ n k w
theorem f_X3_name_10 (hZ : ZRN (ztb (tb_X3_name E d mc ms)) cut G R T Z) (f : Nat) (L : ZLV) (st : List Value) (σ : ZHp) (n k w : Nat) : Z (f + 1) 10 L st σ n k w = s_acmp_eq 15 13 L st σ n k w (zk1 cut G (Z f)) G R T := zrs hZ rfl f L st σ n k w
theorem f_X3_name_13 (hZ : ZRN (ztb (tb_X3_name E d mc ms)) cut G R T Z) (f : Nat) (L : ZLV) (st : List Value) (σ : ZHp) (n k w : Nat) : Z (f + 1) 13 L st σ n k w = s_const (.int (0)) 14 L st σ n k w (zk1 cut G (Z f)) G R T := zrs hZ rfl f L st σ n k w
theorem f_X3_name_14 (hZ : ZRN (ztb (tb_X3_name E d mc ms)) cut G R T Z) (f : Nat) (L : ZLV) (st : List Value) (σ : ZHp) (n k w : Nat) : Z (f + 1) 14 L st σ n k w = s_zreturn L st σ n k w (zk1 cut G (Z f)) G R T := zrs hZ rfl f L st σ n k w
theorem f_X3_name_15 (hZ : ZRN (ztb (tb_X3_name E d mc ms)) cut G R T Z) (f : Nat) (L : ZLV) (st : List Value) (σ : ZHp) (n k w : Nat) : Z (f + 1) 15 L st σ n k w = s_aload 0 16 L st σ n k w (zk1 cut G (Z f)) G R T := zrs hZ rfl f L st σ n k w
theorem f_X3_name_16 (hZ : ZRN (ztb (tb_X3_name E d mc ms)) cut G R T Z) (f : Nat) (L : ZLV) (st : List Value) (σ : ZHp) (n k w : Nat) : Z (f + 1) 16 L st σ n k w = s_getf 2 1 19 L st σ n k w (zk1 cut G (Z f)) G R T := zrs hZ rfl f L st σ n k w
theorem f_X3_name_19 (hZ : ZRN (ztb (tb_X3_name E d mc ms)) cut G R T Z) (f : Nat) (L : ZLV) (st : List Value) (σ : ZHp) (n k w : Nat) : Z (f + 1) 19 L st σ n k w = s_aload 1 20 L st σ n k w (zk1 cut G (Z f)) G R T := zrs hZ rfl f L st σ n k w
theorem f_X3_name_20 (hZ : ZRN (ztb (tb_X3_name E d mc ms)) cut G R T Z) (f : Nat) (L : ZLV) (st : List Value) (σ : ZHp) (n k w : Nat) : Z (f + 1) 20 L st σ n k w = s_aload 0 21 L st σ n k w (zk1 cut G (Z f)) G R T := zrs hZ rfl f L st σ n k w
theorem f_X3_name_21 (hZ : ZRN (ztb (tb_X3_name E d mc ms)) cut G R T Z) (f : Nat) (L : ZLV) (st : List Value) (σ : ZHp) (n k w : Nat) : Z (f + 1) 21 L st σ n k w = s_getf 2 0 24 L st σ n k w (zk1 cut G (Z f)) G R T := zrs hZ rfl f L st σ n k w
theorem f_X3_name_24 (hZ : ZRN (ztb (tb_X3_name E d mc ms)) cut G R T Z) (f : Nat) (L : ZLV) (st : List Value) (σ : ZHp) (n k w : Nat) : Z (f + 1) 24 L st σ n k w = s_callV E d mc ms 9 MX10_value 0 27 L st σ n k w (zk1 cut G (Z f)) G R T := zrs hZ rfl f L st σ n k w
theorem f_X3_name_27 (hZ : ZRN (ztb (tb_X3_name E d mc ms)) cut G R T Z) (f : Nat) (L : ZLV) (st : List Value) (σ : ZHp) (n k w : Nat) : Z (f + 1) 27 L st σ n k w = s_aload 0 28 L st σ n k w (zk1 cut G (Z f)) G R T := zrs hZ rfl f L st σ n k w
theorem f_X3_name_28 (hZ : ZRN (ztb (tb_X3_name E d mc ms)) cut G R T Z) (f : Nat) (L : ZLV) (st : List Value) (σ : ZHp) (n k w : Nat) : Z (f + 1) 28 L st σ n k w = s_getf 2 0 31 L st σ n k w (zk1 cut G (Z f)) G R T := zrs hZ rfl f L st σ n k w
theorem f_X3_name_31 (hZ : ZRN (ztb (tb_X3_name E d mc ms)) cut G R T Z) (f : Nat) (L : ZLV) (st : List Value) (σ : ZHp) (n k w : Nat) : Z (f + 1) 31 L st σ n k w = s_callV E d mc ms 9 MX10_place 0 34 L st σ n k w (zk1 cut G (Z f)) G R T := zrs hZ rfl f L st σ n k w
theorem f_X3_name_34 (hZ : ZRN (ztb (tb_X3_name E d mc ms)) cut G R T Z) (f : Nat) (L : ZLV) (st : List Value) (σ : ZHp) (n k w : Nat) : Z (f + 1) 34 L st σ n k w = s_callV E d mc ms 6 MX7_writeName 3 37 L st σ n k w (zk1 cut G (Z f)) G R T := zrs hZ rfl f L st σ n k w
theorem f_X3_name_37 (hZ : ZRN (ztb (tb_X3_name E d mc ms)) cut G R T Z) (f : Nat) (L : ZLV) (st : List Value) (σ : ZHp) (n k w : Nat) : Z (f + 1) 37 L st σ n k w = s_aload 0 38 L st σ n k w (zk1 cut G (Z f)) G R T := zrs hZ rfl f L st σ n k w
theorem f_X3_name_38 (hZ : ZRN (ztb (tb_X3_name E d mc ms)) cut G R T Z) (f : Nat) (L : ZLV) (st : List Value) (σ : ZHp) (n k w : Nat) : Z (f + 1) 38 L st σ n k w = s_getf 2 0 41 L st σ n k w (zk1 cut G (Z f)) G R T := zrs hZ rfl f L st σ n k w
theorem f_X3_name_41 (hZ : ZRN (ztb (tb_X3_name E d mc ms)) cut G R T Z) (f : Nat) (L : ZLV) (st : List Value) (σ : ZHp) (n k w : Nat) : Z (f + 1) 41 L st σ n k w = s_callV E d mc ms 9 MX10_advance 0 44 L st σ n k w (zk1 cut G (Z f)) G R T := zrs hZ rfl f L st σ n k w
theorem f_X3_name_44 (hZ : ZRN (ztb (tb_X3_name E d mc ms)) cut G R T Z) (f : Nat) (L : ZLV) (st : List Value) (σ : ZHp) (n k w : Nat) : Z (f + 1) 44 L st σ n k w = s_const (.int (1)) 45 L st σ n k w (zk1 cut G (Z f)) G R T := zrs hZ rfl f L st σ n k w
theorem f_X3_name_45 (hZ : ZRN (ztb (tb_X3_name E d mc ms)) cut G R T Z) (f : Nat) (L : ZLV) (st : List Value) (σ : ZHp) (n k w : Nat) : Z (f + 1) 45 L st σ n k w = s_zreturn L st σ n k w (zk1 cut G (Z f)) G R T := zrs hZ rfl f L st σ n k w
theorem f_X3_number_0 (hZ : ZRN (ztb (tb_X3_number E d mc ms)) cut G R T Z) (f : Nat) (L : ZLV) (st : List Value) (σ : ZHp) (n k w : Nat) : Z (f + 1) 0 L st σ n k w = s_aload 0 1 L st σ n k w (zk1 cut G (Z f)) G R T := zrs hZ rfl f L st σ n k w
theorem f_X3_number_1 (hZ : ZRN (ztb (tb_X3_number E d mc ms)) cut G R T Z) (f : Nat) (L : ZLV) (st : List Value) (σ : ZHp) (n k w : Nat) : Z (f + 1) 1 L st σ n k w = s_getf 2 0 4 L st σ n k w (zk1 cut G (Z f)) G R T := zrs hZ rfl f L st σ n k w
theorem f_X3_number_4 (hZ : ZRN (ztb (tb_X3_number E d mc ms)) cut G R T Z) (f : Nat) (L : ZLV) (st : List Value) (σ : ZHp) (n k w : Nat) : Z (f + 1) 4 L st σ n k w = s_callV E d mc ms 9 MX10_sign 0 7 L st σ n k w (zk1 cut G (Z f)) G R T := zrs hZ rfl f L st σ n k w
theorem f_X3_number_7 (hZ : ZRN (ztb (tb_X3_number E d mc ms)) cut G R T Z) (f : Nat) (L : ZLV) (st : List Value) (σ : ZHp) (n k w : Nat) : Z (f + 1) 7 L st σ n k w = s_const (.ref (zeK E 3)) 10 L st σ n k w (zk1 cut G (Z f)) G R T := zrs hZ rfl f L st σ n k w
theorem f_X3_number_10 (hZ : ZRN (ztb (tb_X3_number E d mc ms)) cut G R T Z) (f : Nat) (L : ZLV) (st : List Value) (σ : ZHp) (n k w : Nat) : Z (f + 1) 10 L st σ n k w = s_acmp_eq 15 13 L st σ n k w (zk1 cut G (Z f)) G R T := zrs hZ rfl f L st σ n k w
theorem f_X3_number_13 (hZ : ZRN (ztb (tb_X3_number E d mc ms)) cut G R T Z) (f : Nat) (L : ZLV) (st : List Value) (σ : ZHp) (n k w : Nat) : Z (f + 1) 13 L st σ n k w = s_const (.int (0)) 14 L st σ n k w (zk1 cut G (Z f)) G R T := zrs hZ rfl f L st σ n k w
theorem f_X3_number_14 (hZ : ZRN (ztb (tb_X3_number E d mc ms)) cut G R T Z) (f : Nat) (L : ZLV) (st : List Value) (σ : ZHp) (n k w : Nat) : Z (f + 1) 14 L st σ n k w = s_zreturn L st σ n k w (zk1 cut G (Z f)) G R T := zrs hZ rfl f L st σ n k w
theorem f_X3_number_15 (hZ : ZRN (ztb (tb_X3_number E d mc ms)) cut G R T Z) (f : Nat) (L : ZLV) (st : List Value) (σ : ZHp) (n k w : Nat) : Z (f + 1) 15 L st σ n k w = s_aload 0 16 L st σ n k w (zk1 cut G (Z f)) G R T := zrs hZ rfl f L st σ n k w
theorem f_X3_number_16 (hZ : ZRN (ztb (tb_X3_number E d mc ms)) cut G R T Z) (f : Nat) (L : ZLV) (st : List Value) (σ : ZHp) (n k w : Nat) : Z (f + 1) 16 L st σ n k w = s_getf 2 1 19 L st σ n k w (zk1 cut G (Z f)) G R T := zrs hZ rfl f L st σ n k w
theorem f_X3_number_19 (hZ : ZRN (ztb (tb_X3_number E d mc ms)) cut G R T Z) (f : Nat) (L : ZLV) (st : List Value) (σ : ZHp) (n k w : Nat) : Z (f + 1) 19 L st σ n k w = s_aload 1 20 L st σ n k w (zk1 cut G (Z f)) G R T := zrs hZ rfl f L st σ n k w
theorem f_X3_number_20 (hZ : ZRN (ztb (tb_X3_number E d mc ms)) cut G R T Z) (f : Nat) (L : ZLV) (st : List Value) (σ : ZHp) (n k w : Nat) : Z (f + 1) 20 L st σ n k w = s_aload 0 21 L st σ n k w (zk1 cut G (Z f)) G R T := zrs hZ rfl f L st σ n k w
theorem f_X3_number_21 (hZ : ZRN (ztb (tb_X3_number E d mc ms)) cut G R T Z) (f : Nat) (L : ZLV) (st : List Value) (σ : ZHp) (n k w : Nat) : Z (f + 1) 21 L st σ n k w = s_getf 2 0 24 L st σ n k w (zk1 cut G (Z f)) G R T := zrs hZ rfl f L st σ n k w
theorem f_X3_number_24 (hZ : ZRN (ztb (tb_X3_number E d mc ms)) cut G R T Z) (f : Nat) (L : ZLV) (st : List Value) (σ : ZHp) (n k w : Nat) : Z (f + 1) 24 L st σ n k w = s_callV E d mc ms 9 MX10_value 0 27 L st σ n k w (zk1 cut G (Z f)) G R T := zrs hZ rfl f L st σ n k w
theorem f_X3_number_27 (hZ : ZRN (ztb (tb_X3_number E d mc ms)) cut G R T Z) (f : Nat) (L : ZLV) (st : List Value) (σ : ZHp) (n k w : Nat) : Z (f + 1) 27 L st σ n k w = s_l2i 28 L st σ n k w (zk1 cut G (Z f)) G R T := zrs hZ rfl f L st σ n k w
theorem f_X3_number_28 (hZ : ZRN (ztb (tb_X3_number E d mc ms)) cut G R T Z) (f : Nat) (L : ZLV) (st : List Value) (σ : ZHp) (n k w : Nat) : Z (f + 1) 28 L st σ n k w = s_aload 0 29 L st σ n k w (zk1 cut G (Z f)) G R T := zrs hZ rfl f L st σ n k w
theorem f_X3_number_29 (hZ : ZRN (ztb (tb_X3_number E d mc ms)) cut G R T Z) (f : Nat) (L : ZLV) (st : List Value) (σ : ZHp) (n k w : Nat) : Z (f + 1) 29 L st σ n k w = s_getf 2 0 32 L st σ n k w (zk1 cut G (Z f)) G R T := zrs hZ rfl f L st σ n k w
theorem f_X3_number_32 (hZ : ZRN (ztb (tb_X3_number E d mc ms)) cut G R T Z) (f : Nat) (L : ZLV) (st : List Value) (σ : ZHp) (n k w : Nat) : Z (f + 1) 32 L st σ n k w = s_callV E d mc ms 9 MX10_place 0 35 L st σ n k w (zk1 cut G (Z f)) G R T := zrs hZ rfl f L st σ n k w
theorem f_X3_number_35 (hZ : ZRN (ztb (tb_X3_number E d mc ms)) cut G R T Z) (f : Nat) (L : ZLV) (st : List Value) (σ : ZHp) (n k w : Nat) : Z (f + 1) 35 L st σ n k w = s_callV E d mc ms 6 MX7_writeNumber 3 38 L st σ n k w (zk1 cut G (Z f)) G R T := zrs hZ rfl f L st σ n k w
theorem f_X3_number_38 (hZ : ZRN (ztb (tb_X3_number E d mc ms)) cut G R T Z) (f : Nat) (L : ZLV) (st : List Value) (σ : ZHp) (n k w : Nat) : Z (f + 1) 38 L st σ n k w = s_aload 0 39 L st σ n k w (zk1 cut G (Z f)) G R T := zrs hZ rfl f L st σ n k w
theorem f_X3_number_39 (hZ : ZRN (ztb (tb_X3_number E d mc ms)) cut G R T Z) (f : Nat) (L : ZLV) (st : List Value) (σ : ZHp) (n k w : Nat) : Z (f + 1) 39 L st σ n k w = s_getf 2 0 42 L st σ n k w (zk1 cut G (Z f)) G R T := zrs hZ rfl f L st σ n k w
theorem f_X3_number_42 (hZ : ZRN (ztb (tb_X3_number E d mc ms)) cut G R T Z) (f : Nat) (L : ZLV) (st : List Value) (σ : ZHp) (n k w : Nat) : Z (f + 1) 42 L st σ n k w = s_callV E d mc ms 9 MX10_advance 0 45 L st σ n k w (zk1 cut G (Z f)) G R T := zrs hZ rfl f L st σ n k w
theorem f_X3_number_45 (hZ : ZRN (ztb (tb_X3_number E d mc ms)) cut G R T Z) (f : Nat) (L : ZLV) (st : List Value) (σ : ZHp) (n k w : Nat) : Z (f + 1) 45 L st σ n k w = s_const (.int (1)) 46 L st σ n k w (zk1 cut G (Z f)) G R T := zrs hZ rfl f L st σ n k w
theorem f_X3_number_46 (hZ : ZRN (ztb (tb_X3_number E d mc ms)) cut G R T Z) (f : Nat) (L : ZLV) (st : List Value) (σ : ZHp) (n k w : Nat) : Z (f + 1) 46 L st σ n k w = s_zreturn L st σ n k w (zk1 cut G (Z f)) G R T := zrs hZ rfl f L st σ n k w
theorem f_X3_when_0 (hZ : ZRN (ztb (tb_X3_when E d mc ms)) cut G R T Z) (f : Nat) (L : ZLV) (st : List Value) (σ : ZHp) (n k w : Nat) : Z (f + 1) 0 L st σ n k w = s_aload 0 1 L st σ n k w (zk1 cut G (Z f)) G R T := zrs hZ rfl f L st σ n k w
theorem f_X3_when_1 (hZ : ZRN (ztb (tb_X3_when E d mc ms)) cut G R T Z) (f : Nat) (L : ZLV) (st : List Value) (σ : ZHp) (n k w : Nat) : Z (f + 1) 1 L st σ n k w = s_getf 2 0 4 L st σ n k w (zk1 cut G (Z f)) G R T := zrs hZ rfl f L st σ n k w
theorem f_X3_when_4 (hZ : ZRN (ztb (tb_X3_when E d mc ms)) cut G R T Z) (f : Nat) (L : ZLV) (st : List Value) (σ : ZHp) (n k w : Nat) : Z (f + 1) 4 L st σ n k w = s_const (.ref (zeK E 19)) 7 L st σ n k w (zk1 cut G (Z f)) G R T := zrs hZ rfl f L st σ n k w
theorem f_X3_when_7 (hZ : ZRN (ztb (tb_X3_when E d mc ms)) cut G R T Z) (f : Nat) (L : ZLV) (st : List Value) (σ : ZHp) (n k w : Nat) : Z (f + 1) 7 L st σ n k w = s_callV E d mc ms 9 MX10_take 1 10 L st σ n k w (zk1 cut G (Z f)) G R T := zrs hZ rfl f L st σ n k w
theorem f_X3_when_10 (hZ : ZRN (ztb (tb_X3_when E d mc ms)) cut G R T Z) (f : Nat) (L : ZLV) (st : List Value) (σ : ZHp) (n k w : Nat) : Z (f + 1) 10 L st σ n k w = s_if_ne 15 13 L st σ n k w (zk1 cut G (Z f)) G R T := zrs hZ rfl f L st σ n k w
theorem f_X3_when_13 (hZ : ZRN (ztb (tb_X3_when E d mc ms)) cut G R T Z) (f : Nat) (L : ZLV) (st : List Value) (σ : ZHp) (n k w : Nat) : Z (f + 1) 13 L st σ n k w = s_const (.int (1)) 14 L st σ n k w (zk1 cut G (Z f)) G R T := zrs hZ rfl f L st σ n k w
theorem f_X3_when_14 (hZ : ZRN (ztb (tb_X3_when E d mc ms)) cut G R T Z) (f : Nat) (L : ZLV) (st : List Value) (σ : ZHp) (n k w : Nat) : Z (f + 1) 14 L st σ n k w = s_zreturn L st σ n k w (zk1 cut G (Z f)) G R T := zrs hZ rfl f L st σ n k w
theorem f_X3_when_15 (hZ : ZRN (ztb (tb_X3_when E d mc ms)) cut G R T Z) (f : Nat) (L : ZLV) (st : List Value) (σ : ZHp) (n k w : Nat) : Z (f + 1) 15 L st σ n k w = s_aload 0 16 L st σ n k w (zk1 cut G (Z f)) G R T := zrs hZ rfl f L st σ n k w
theorem f_X3_when_16 (hZ : ZRN (ztb (tb_X3_when E d mc ms)) cut G R T Z) (f : Nat) (L : ZLV) (st : List Value) (σ : ZHp) (n k w : Nat) : Z (f + 1) 16 L st σ n k w = s_getf 2 1 19 L st σ n k w (zk1 cut G (Z f)) G R T := zrs hZ rfl f L st σ n k w
theorem f_X3_when_19 (hZ : ZRN (ztb (tb_X3_when E d mc ms)) cut G R T Z) (f : Nat) (L : ZLV) (st : List Value) (σ : ZHp) (n k w : Nat) : Z (f + 1) 19 L st σ n k w = s_callV E d mc ms 6 MX7_writeTest 0 22 L st σ n k w (zk1 cut G (Z f)) G R T := zrs hZ rfl f L st σ n k w
theorem f_X3_when_22 (hZ : ZRN (ztb (tb_X3_when E d mc ms)) cut G R T Z) (f : Nat) (L : ZLV) (st : List Value) (σ : ZHp) (n k w : Nat) : Z (f + 1) 22 L st σ n k w = s_aload 0 23 L st σ n k w (zk1 cut G (Z f)) G R T := zrs hZ rfl f L st σ n k w
theorem f_X3_when_23 (hZ : ZRN (ztb (tb_X3_when E d mc ms)) cut G R T Z) (f : Nat) (L : ZLV) (st : List Value) (σ : ZHp) (n k w : Nat) : Z (f + 1) 23 L st σ n k w = s_const (.int (0)) 24 L st σ n k w (zk1 cut G (Z f)) G R T := zrs hZ rfl f L st σ n k w
theorem f_X3_when_24 (hZ : ZRN (ztb (tb_X3_when E d mc ms)) cut G R T Z) (f : Nat) (L : ZLV) (st : List Value) (σ : ZHp) (n k w : Nat) : Z (f + 1) 24 L st σ n k w = s_callV E d mc ms 2 MX3_test 1 27 L st σ n k w (zk1 cut G (Z f)) G R T := zrs hZ rfl f L st σ n k w
theorem f_X3_when_27 (hZ : ZRN (ztb (tb_X3_when E d mc ms)) cut G R T Z) (f : Nat) (L : ZLV) (st : List Value) (σ : ZHp) (n k w : Nat) : Z (f + 1) 27 L st σ n k w = s_istore 1 28 L st σ n k w (zk1 cut G (Z f)) G R T := zrs hZ rfl f L st σ n k w
theorem f_X3_when_28 (hZ : ZRN (ztb (tb_X3_when E d mc ms)) cut G R T Z) (f : Nat) (L : ZLV) (st : List Value) (σ : ZHp) (n k w : Nat) : Z (f + 1) 28 L st σ n k w = s_aload 0 29 L st σ n k w (zk1 cut G (Z f)) G R T := zrs hZ rfl f L st σ n k w
theorem f_X3_when_29 (hZ : ZRN (ztb (tb_X3_when E d mc ms)) cut G R T Z) (f : Nat) (L : ZLV) (st : List Value) (σ : ZHp) (n k w : Nat) : Z (f + 1) 29 L st σ n k w = s_getf 2 2 32 L st σ n k w (zk1 cut G (Z f)) G R T := zrs hZ rfl f L st σ n k w
theorem f_X3_when_32 (hZ : ZRN (ztb (tb_X3_when E d mc ms)) cut G R T Z) (f : Nat) (L : ZLV) (st : List Value) (σ : ZHp) (n k w : Nat) : Z (f + 1) 32 L st σ n k w = s_const (.ref (zeK E 1)) 35 L st σ n k w (zk1 cut G (Z f)) G R T := zrs hZ rfl f L st σ n k w
theorem f_X3_when_35 (hZ : ZRN (ztb (tb_X3_when E d mc ms)) cut G R T Z) (f : Nat) (L : ZLV) (st : List Value) (σ : ZHp) (n k w : Nat) : Z (f + 1) 35 L st σ n k w = s_const (.int (0)) 36 L st σ n k w (zk1 cut G (Z f)) G R T := zrs hZ rfl f L st σ n k w
theorem f_X3_when_36 (hZ : ZRN (ztb (tb_X3_when E d mc ms)) cut G R T Z) (f : Nat) (L : ZLV) (st : List Value) (σ : ZHp) (n k w : Nat) : Z (f + 1) 36 L st σ n k w = s_callV E d mc ms 0 MX1_add 2 39 L st σ n k w (zk1 cut G (Z f)) G R T := zrs hZ rfl f L st σ n k w
theorem f_X3_when_39 (hZ : ZRN (ztb (tb_X3_when E d mc ms)) cut G R T Z) (f : Nat) (L : ZLV) (st : List Value) (σ : ZHp) (n k w : Nat) : Z (f + 1) 39 L st σ n k w = s_iload 1 40 L st σ n k w (zk1 cut G (Z f)) G R T := zrs hZ rfl f L st σ n k w
theorem f_X3_when_40 (hZ : ZRN (ztb (tb_X3_when E d mc ms)) cut G R T Z) (f : Nat) (L : ZLV) (st : List Value) (σ : ZHp) (n k w : Nat) : Z (f + 1) 40 L st σ n k w = s_zreturn L st σ n k w (zk1 cut G (Z f)) G R T := zrs hZ rfl f L st σ n k w
theorem f_X3_deeds_0 (hZ : ZRN (ztb (tb_X3_deeds E d mc ms)) cut G R T Z) (f : Nat) (L : ZLV) (st : List Value) (σ : ZHp) (n k w : Nat) : Z (f + 1) 0 L st σ n k w = s_const (.int (1)) 1 L st σ n k w (zk1 cut G (Z f)) G R T := zrs hZ rfl f L st σ n k w
theorem f_X3_deeds_1 (hZ : ZRN (ztb (tb_X3_deeds E d mc ms)) cut G R T Z) (f : Nat) (L : ZLV) (st : List Value) (σ : ZHp) (n k w : Nat) : Z (f + 1) 1 L st σ n k w = s_istore 1 2 L st σ n k w (zk1 cut G (Z f)) G R T := zrs hZ rfl f L st σ n k w
theorem f_X3_deeds_2 (hZ : ZRN (ztb (tb_X3_deeds E d mc ms)) cut G R T Z) (f : Nat) (L : ZLV) (st : List Value) (σ : ZHp) (n k w : Nat) : Z (f + 1) 2 L st σ n k w = s_const (.int (0)) 3 L st σ n k w (zk1 cut G (Z f)) G R T := zrs hZ rfl f L st σ n k w
theorem f_X3_deeds_3 (hZ : ZRN (ztb (tb_X3_deeds E d mc ms)) cut G R T Z) (f : Nat) (L : ZLV) (st : List Value) (σ : ZHp) (n k w : Nat) : Z (f + 1) 3 L st σ n k w = s_istore 2 4 L st σ n k w (zk1 cut G (Z f)) G R T := zrs hZ rfl f L st σ n k w
theorem f_X3_deeds_4 (hZ : ZRN (ztb (tb_X3_deeds E d mc ms)) cut G R T Z) (f : Nat) (L : ZLV) (st : List Value) (σ : ZHp) (n k w : Nat) : Z (f + 1) 4 L st σ n k w = s_iload 2 5 L st σ n k w (zk1 cut G (Z f)) G R T := zrs hZ rfl f L st σ n k w
theorem f_X3_deeds_5 (hZ : ZRN (ztb (tb_X3_deeds E d mc ms)) cut G R T Z) (f : Nat) (L : ZLV) (st : List Value) (σ : ZHp) (n k w : Nat) : Z (f + 1) 5 L st σ n k w = s_const (.int (400)) 8 L st σ n k w (zk1 cut G (Z f)) G R T := zrs hZ rfl f L st σ n k w
theorem f_X3_deeds_8 (hZ : ZRN (ztb (tb_X3_deeds E d mc ms)) cut G R T Z) (f : Nat) (L : ZLV) (st : List Value) (σ : ZHp) (n k w : Nat) : Z (f + 1) 8 L st σ n k w = s_icmp_ge 130 11 L st σ n k w (zk1 cut G (Z f)) G R T := zrs hZ rfl f L st σ n k w
theorem f_X3_deeds_11 (hZ : ZRN (ztb (tb_X3_deeds E d mc ms)) cut G R T Z) (f : Nat) (L : ZLV) (st : List Value) (σ : ZHp) (n k w : Nat) : Z (f + 1) 11 L st σ n k w = s_iload 1 12 L st σ n k w (zk1 cut G (Z f)) G R T := zrs hZ rfl f L st σ n k w
theorem f_X3_deeds_12 (hZ : ZRN (ztb (tb_X3_deeds E d mc ms)) cut G R T Z) (f : Nat) (L : ZLV) (st : List Value) (σ : ZHp) (n k w : Nat) : Z (f + 1) 12 L st σ n k w = s_if_eq 130 15 L st σ n k w (zk1 cut G (Z f)) G R T := zrs hZ rfl f L st σ n k w
theorem f_X3_deeds_15 (hZ : ZRN (ztb (tb_X3_deeds E d mc ms)) cut G R T Z) (f : Nat) (L : ZLV) (st : List Value) (σ : ZHp) (n k w : Nat) : Z (f + 1) 15 L st σ n k w = s_aload 0 16 L st σ n k w (zk1 cut G (Z f)) G R T := zrs hZ rfl f L st σ n k w
theorem f_X3_deeds_16 (hZ : ZRN (ztb (tb_X3_deeds E d mc ms)) cut G R T Z) (f : Nat) (L : ZLV) (st : List Value) (σ : ZHp) (n k w : Nat) : Z (f + 1) 16 L st σ n k w = s_getf 2 0 19 L st σ n k w (zk1 cut G (Z f)) G R T := zrs hZ rfl f L st σ n k w
theorem f_X3_deeds_19 (hZ : ZRN (ztb (tb_X3_deeds E d mc ms)) cut G R T Z) (f : Nat) (L : ZLV) (st : List Value) (σ : ZHp) (n k w : Nat) : Z (f + 1) 19 L st σ n k w = s_callV E d mc ms 9 MX10_sign 0 22 L st σ n k w (zk1 cut G (Z f)) G R T := zrs hZ rfl f L st σ n k w
theorem f_X3_deeds_22 (hZ : ZRN (ztb (tb_X3_deeds E d mc ms)) cut G R T Z) (f : Nat) (L : ZLV) (st : List Value) (σ : ZHp) (n k w : Nat) : Z (f + 1) 22 L st σ n k w = s_callS E d mc ms MX3_isDeed 1 25 L st σ n k w (zk1 cut G (Z f)) G R T := zrs hZ rfl f L st σ n k w
theorem f_X3_deeds_25 (hZ : ZRN (ztb (tb_X3_deeds E d mc ms)) cut G R T Z) (f : Nat) (L : ZLV) (st : List Value) (σ : ZHp) (n k w : Nat) : Z (f + 1) 25 L st σ n k w = s_if_eq 130 28 L st σ n k w (zk1 cut G (Z f)) G R T := zrs hZ rfl f L st σ n k w
theorem f_X3_deeds_28 (hZ : ZRN (ztb (tb_X3_deeds E d mc ms)) cut G R T Z) (f : Nat) (L : ZLV) (st : List Value) (σ : ZHp) (n k w : Nat) : Z (f + 1) 28 L st σ n k w = s_aload 0 29 L st σ n k w (zk1 cut G (Z f)) G R T := zrs hZ rfl f L st σ n k w
theorem f_X3_deeds_29 (hZ : ZRN (ztb (tb_X3_deeds E d mc ms)) cut G R T Z) (f : Nat) (L : ZLV) (st : List Value) (σ : ZHp) (n k w : Nat) : Z (f + 1) 29 L st σ n k w = s_getf 2 0 32 L st σ n k w (zk1 cut G (Z f)) G R T := zrs hZ rfl f L st σ n k w
theorem f_X3_deeds_32 (hZ : ZRN (ztb (tb_X3_deeds E d mc ms)) cut G R T Z) (f : Nat) (L : ZLV) (st : List Value) (σ : ZHp) (n k w : Nat) : Z (f + 1) 32 L st σ n k w = s_callV E d mc ms 9 MX10_sign 0 35 L st σ n k w (zk1 cut G (Z f)) G R T := zrs hZ rfl f L st σ n k w
theorem f_X3_deeds_35 (hZ : ZRN (ztb (tb_X3_deeds E d mc ms)) cut G R T Z) (f : Nat) (L : ZLV) (st : List Value) (σ : ZHp) (n k w : Nat) : Z (f + 1) 35 L st σ n k w = s_astore 3 36 L st σ n k w (zk1 cut G (Z f)) G R T := zrs hZ rfl f L st σ n k w
theorem f_X3_deeds_36 (hZ : ZRN (ztb (tb_X3_deeds E d mc ms)) cut G R T Z) (f : Nat) (L : ZLV) (st : List Value) (σ : ZHp) (n k w : Nat) : Z (f + 1) 36 L st σ n k w = s_aload 0 37 L st σ n k w (zk1 cut G (Z f)) G R T := zrs hZ rfl f L st σ n k w
theorem f_X3_deeds_37 (hZ : ZRN (ztb (tb_X3_deeds E d mc ms)) cut G R T Z) (f : Nat) (L : ZLV) (st : List Value) (σ : ZHp) (n k w : Nat) : Z (f + 1) 37 L st σ n k w = s_getf 2 1 40 L st σ n k w (zk1 cut G (Z f)) G R T := zrs hZ rfl f L st σ n k w
theorem f_X3_deeds_40 (hZ : ZRN (ztb (tb_X3_deeds E d mc ms)) cut G R T Z) (f : Nat) (L : ZLV) (st : List Value) (σ : ZHp) (n k w : Nat) : Z (f + 1) 40 L st σ n k w = s_aload 3 41 L st σ n k w (zk1 cut G (Z f)) G R T := zrs hZ rfl f L st σ n k w
theorem f_X3_deeds_41 (hZ : ZRN (ztb (tb_X3_deeds E d mc ms)) cut G R T Z) (f : Nat) (L : ZLV) (st : List Value) (σ : ZHp) (n k w : Nat) : Z (f + 1) 41 L st σ n k w = s_aload 0 42 L st σ n k w (zk1 cut G (Z f)) G R T := zrs hZ rfl f L st σ n k w
theorem f_X3_deeds_42 (hZ : ZRN (ztb (tb_X3_deeds E d mc ms)) cut G R T Z) (f : Nat) (L : ZLV) (st : List Value) (σ : ZHp) (n k w : Nat) : Z (f + 1) 42 L st σ n k w = s_getf 2 0 45 L st σ n k w (zk1 cut G (Z f)) G R T := zrs hZ rfl f L st σ n k w
theorem f_X3_deeds_45 (hZ : ZRN (ztb (tb_X3_deeds E d mc ms)) cut G R T Z) (f : Nat) (L : ZLV) (st : List Value) (σ : ZHp) (n k w : Nat) : Z (f + 1) 45 L st σ n k w = s_callV E d mc ms 9 MX10_place 0 48 L st σ n k w (zk1 cut G (Z f)) G R T := zrs hZ rfl f L st σ n k w
theorem f_X3_deeds_48 (hZ : ZRN (ztb (tb_X3_deeds E d mc ms)) cut G R T Z) (f : Nat) (L : ZLV) (st : List Value) (σ : ZHp) (n k w : Nat) : Z (f + 1) 48 L st σ n k w = s_callV E d mc ms 6 MX7_writeDeed 2 51 L st σ n k w (zk1 cut G (Z f)) G R T := zrs hZ rfl f L st σ n k w
theorem f_X3_deeds_51 (hZ : ZRN (ztb (tb_X3_deeds E d mc ms)) cut G R T Z) (f : Nat) (L : ZLV) (st : List Value) (σ : ZHp) (n k w : Nat) : Z (f + 1) 51 L st σ n k w = s_aload 0 52 L st σ n k w (zk1 cut G (Z f)) G R T := zrs hZ rfl f L st σ n k w
theorem f_X3_deeds_52 (hZ : ZRN (ztb (tb_X3_deeds E d mc ms)) cut G R T Z) (f : Nat) (L : ZLV) (st : List Value) (σ : ZHp) (n k w : Nat) : Z (f + 1) 52 L st σ n k w = s_getf 2 0 55 L st σ n k w (zk1 cut G (Z f)) G R T := zrs hZ rfl f L st σ n k w
theorem f_X3_deeds_55 (hZ : ZRN (ztb (tb_X3_deeds E d mc ms)) cut G R T Z) (f : Nat) (L : ZLV) (st : List Value) (σ : ZHp) (n k w : Nat) : Z (f + 1) 55 L st σ n k w = s_callV E d mc ms 9 MX10_advance 0 58 L st σ n k w (zk1 cut G (Z f)) G R T := zrs hZ rfl f L st σ n k w
theorem f_X3_deeds_58 (hZ : ZRN (ztb (tb_X3_deeds E d mc ms)) cut G R T Z) (f : Nat) (L : ZLV) (st : List Value) (σ : ZHp) (n k w : Nat) : Z (f + 1) 58 L st σ n k w = s_aload 3 59 L st σ n k w (zk1 cut G (Z f)) G R T := zrs hZ rfl f L st σ n k w
theorem f_X3_deeds_59 (hZ : ZRN (ztb (tb_X3_deeds E d mc ms)) cut G R T Z) (f : Nat) (L : ZLV) (st : List Value) (σ : ZHp) (n k w : Nat) : Z (f + 1) 59 L st σ n k w = s_const (.ref (zeK E 11)) 62 L st σ n k w (zk1 cut G (Z f)) G R T := zrs hZ rfl f L st σ n k w
theorem f_X3_deeds_62 (hZ : ZRN (ztb (tb_X3_deeds E d mc ms)) cut G R T Z) (f : Nat) (L : ZLV) (st : List Value) (σ : ZHp) (n k w : Nat) : Z (f + 1) 62 L st σ n k w = s_acmp_eq 72 65 L st σ n k w (zk1 cut G (Z f)) G R T := zrs hZ rfl f L st σ n k w
theorem f_X3_deeds_65 (hZ : ZRN (ztb (tb_X3_deeds E d mc ms)) cut G R T Z) (f : Nat) (L : ZLV) (st : List Value) (σ : ZHp) (n k w : Nat) : Z (f + 1) 65 L st σ n k w = s_aload 3 66 L st σ n k w (zk1 cut G (Z f)) G R T := zrs hZ rfl f L st σ n k w
theorem f_X3_deeds_66 (hZ : ZRN (ztb (tb_X3_deeds E d mc ms)) cut G R T Z) (f : Nat) (L : ZLV) (st : List Value) (σ : ZHp) (n k w : Nat) : Z (f + 1) 66 L st σ n k w = s_const (.ref (zeK E 12)) 69 L st σ n k w (zk1 cut G (Z f)) G R T := zrs hZ rfl f L st σ n k w
theorem f_X3_deeds_69 (hZ : ZRN (ztb (tb_X3_deeds E d mc ms)) cut G R T Z) (f : Nat) (L : ZLV) (st : List Value) (σ : ZHp) (n k w : Nat) : Z (f + 1) 69 L st σ n k w = s_acmp_ne 76 72 L st σ n k w (zk1 cut G (Z f)) G R T := zrs hZ rfl f L st σ n k w
theorem f_X3_deeds_72 (hZ : ZRN (ztb (tb_X3_deeds E d mc ms)) cut G R T Z) (f : Nat) (L : ZLV) (st : List Value) (σ : ZHp) (n k w : Nat) : Z (f + 1) 72 L st σ n k w = s_const (.int (1)) 73 L st σ n k w (zk1 cut G (Z f)) G R T := zrs hZ rfl f L st σ n k w
theorem f_X3_deeds_73 (hZ : ZRN (ztb (tb_X3_deeds E d mc ms)) cut G R T Z) (f : Nat) (L : ZLV) (st : List Value) (σ : ZHp) (n k w : Nat) : Z (f + 1) 73 L st σ n k w = s_goto 77 L st σ n k w (zk1 cut G (Z f)) G R T := zrs hZ rfl f L st σ n k w
theorem f_X3_deeds_76 (hZ : ZRN (ztb (tb_X3_deeds E d mc ms)) cut G R T Z) (f : Nat) (L : ZLV) (st : List Value) (σ : ZHp) (n k w : Nat) : Z (f + 1) 76 L st σ n k w = s_const (.int (0)) 77 L st σ n k w (zk1 cut G (Z f)) G R T := zrs hZ rfl f L st σ n k w
theorem f_X3_deeds_77 (hZ : ZRN (ztb (tb_X3_deeds E d mc ms)) cut G R T Z) (f : Nat) (L : ZLV) (st : List Value) (σ : ZHp) (n k w : Nat) : Z (f + 1) 77 L st σ n k w = s_istore 4 79 L st σ n k w (zk1 cut G (Z f)) G R T := zrs hZ rfl f L st σ n k w
theorem f_X3_deeds_79 (hZ : ZRN (ztb (tb_X3_deeds E d mc ms)) cut G R T Z) (f : Nat) (L : ZLV) (st : List Value) (σ : ZHp) (n k w : Nat) : Z (f + 1) 79 L st σ n k w = s_iload 4 81 L st σ n k w (zk1 cut G (Z f)) G R T := zrs hZ rfl f L st σ n k w
theorem f_X3_deeds_81 (hZ : ZRN (ztb (tb_X3_deeds E d mc ms)) cut G R T Z) (f : Nat) (L : ZLV) (st : List Value) (σ : ZHp) (n k w : Nat) : Z (f + 1) 81 L st σ n k w = s_if_eq 92 84 L st σ n k w (zk1 cut G (Z f)) G R T := zrs hZ rfl f L st σ n k w
theorem f_X3_deeds_84 (hZ : ZRN (ztb (tb_X3_deeds E d mc ms)) cut G R T Z) (f : Nat) (L : ZLV) (st : List Value) (σ : ZHp) (n k w : Nat) : Z (f + 1) 84 L st σ n k w = s_aload 0 85 L st σ n k w (zk1 cut G (Z f)) G R T := zrs hZ rfl f L st σ n k w
theorem f_X3_deeds_85 (hZ : ZRN (ztb (tb_X3_deeds E d mc ms)) cut G R T Z) (f : Nat) (L : ZLV) (st : List Value) (σ : ZHp) (n k w : Nat) : Z (f + 1) 85 L st σ n k w = s_aload 3 86 L st σ n k w (zk1 cut G (Z f)) G R T := zrs hZ rfl f L st σ n k w
theorem f_X3_deeds_86 (hZ : ZRN (ztb (tb_X3_deeds E d mc ms)) cut G R T Z) (f : Nat) (L : ZLV) (st : List Value) (σ : ZHp) (n k w : Nat) : Z (f + 1) 86 L st σ n k w = s_callV E d mc ms 2 MX3_name 1 89 L st σ n k w (zk1 cut G (Z f)) G R T := zrs hZ rfl f L st σ n k w
theorem f_X3_deeds_89 (hZ : ZRN (ztb (tb_X3_deeds E d mc ms)) cut G R T Z) (f : Nat) (L : ZLV) (st : List Value) (σ : ZHp) (n k w : Nat) : Z (f + 1) 89 L st σ n k w = s_if_eq 111 92 L st σ n k w (zk1 cut G (Z f)) G R T := zrs hZ rfl f L st σ n k w
theorem f_X3_deeds_92 (hZ : ZRN (ztb (tb_X3_deeds E d mc ms)) cut G R T Z) (f : Nat) (L : ZLV) (st : List Value) (σ : ZHp) (n k w : Nat) : Z (f + 1) 92 L st σ n k w = s_aload 3 93 L st σ n k w (zk1 cut G (Z f)) G R T := zrs hZ rfl f L st σ n k w
theorem f_X3_deeds_93 (hZ : ZRN (ztb (tb_X3_deeds E d mc ms)) cut G R T Z) (f : Nat) (L : ZLV) (st : List Value) (σ : ZHp) (n k w : Nat) : Z (f + 1) 93 L st σ n k w = s_const (.ref (zeK E 11)) 96 L st σ n k w (zk1 cut G (Z f)) G R T := zrs hZ rfl f L st σ n k w
theorem f_X3_deeds_96 (hZ : ZRN (ztb (tb_X3_deeds E d mc ms)) cut G R T Z) (f : Nat) (L : ZLV) (st : List Value) (σ : ZHp) (n k w : Nat) : Z (f + 1) 96 L st σ n k w = s_acmp_eq 107 99 L st σ n k w (zk1 cut G (Z f)) G R T := zrs hZ rfl f L st σ n k w
theorem f_X3_deeds_99 (hZ : ZRN (ztb (tb_X3_deeds E d mc ms)) cut G R T Z) (f : Nat) (L : ZLV) (st : List Value) (σ : ZHp) (n k w : Nat) : Z (f + 1) 99 L st σ n k w = s_aload 0 100 L st σ n k w (zk1 cut G (Z f)) G R T := zrs hZ rfl f L st σ n k w
theorem f_X3_deeds_100 (hZ : ZRN (ztb (tb_X3_deeds E d mc ms)) cut G R T Z) (f : Nat) (L : ZLV) (st : List Value) (σ : ZHp) (n k w : Nat) : Z (f + 1) 100 L st σ n k w = s_const (.int (0)) 101 L st σ n k w (zk1 cut G (Z f)) G R T := zrs hZ rfl f L st σ n k w
theorem f_X3_deeds_101 (hZ : ZRN (ztb (tb_X3_deeds E d mc ms)) cut G R T Z) (f : Nat) (L : ZLV) (st : List Value) (σ : ZHp) (n k w : Nat) : Z (f + 1) 101 L st σ n k w = s_callV E d mc ms 2 MX3_sum 1 104 L st σ n k w (zk1 cut G (Z f)) G R T := zrs hZ rfl f L st σ n k w
theorem f_X3_deeds_104 (hZ : ZRN (ztb (tb_X3_deeds E d mc ms)) cut G R T Z) (f : Nat) (L : ZLV) (st : List Value) (σ : ZHp) (n k w : Nat) : Z (f + 1) 104 L st σ n k w = s_if_eq 111 107 L st σ n k w (zk1 cut G (Z f)) G R T := zrs hZ rfl f L st σ n k w
theorem f_X3_deeds_107 (hZ : ZRN (ztb (tb_X3_deeds E d mc ms)) cut G R T Z) (f : Nat) (L : ZLV) (st : List Value) (σ : ZHp) (n k w : Nat) : Z (f + 1) 107 L st σ n k w = s_const (.int (1)) 108 L st σ n k w (zk1 cut G (Z f)) G R T := zrs hZ rfl f L st σ n k w
theorem f_X3_deeds_108 (hZ : ZRN (ztb (tb_X3_deeds E d mc ms)) cut G R T Z) (f : Nat) (L : ZLV) (st : List Value) (σ : ZHp) (n k w : Nat) : Z (f + 1) 108 L st σ n k w = s_goto 112 L st σ n k w (zk1 cut G (Z f)) G R T := zrs hZ rfl f L st σ n k w
theorem f_X3_deeds_111 (hZ : ZRN (ztb (tb_X3_deeds E d mc ms)) cut G R T Z) (f : Nat) (L : ZLV) (st : List Value) (σ : ZHp) (n k w : Nat) : Z (f + 1) 111 L st σ n k w = s_const (.int (0)) 112 L st σ n k w (zk1 cut G (Z f)) G R T := zrs hZ rfl f L st σ n k w
theorem f_X3_deeds_112 (hZ : ZRN (ztb (tb_X3_deeds E d mc ms)) cut G R T Z) (f : Nat) (L : ZLV) (st : List Value) (σ : ZHp) (n k w : Nat) : Z (f + 1) 112 L st σ n k w = s_istore 1 113 L st σ n k w (zk1 cut G (Z f)) G R T := zrs hZ rfl f L st σ n k w
theorem f_X3_deeds_113 (hZ : ZRN (ztb (tb_X3_deeds E d mc ms)) cut G R T Z) (f : Nat) (L : ZLV) (st : List Value) (σ : ZHp) (n k w : Nat) : Z (f + 1) 113 L st σ n k w = s_aload 0 114 L st σ n k w (zk1 cut G (Z f)) G R T := zrs hZ rfl f L st σ n k w
theorem f_X3_deeds_114 (hZ : ZRN (ztb (tb_X3_deeds E d mc ms)) cut G R T Z) (f : Nat) (L : ZLV) (st : List Value) (σ : ZHp) (n k w : Nat) : Z (f + 1) 114 L st σ n k w = s_getf 2 2 117 L st σ n k w (zk1 cut G (Z f)) G R T := zrs hZ rfl f L st σ n k w
theorem f_X3_deeds_117 (hZ : ZRN (ztb (tb_X3_deeds E d mc ms)) cut G R T Z) (f : Nat) (L : ZLV) (st : List Value) (σ : ZHp) (n k w : Nat) : Z (f + 1) 117 L st σ n k w = s_const (.ref (zeK E 1)) 120 L st σ n k w (zk1 cut G (Z f)) G R T := zrs hZ rfl f L st σ n k w
theorem f_X3_deeds_120 (hZ : ZRN (ztb (tb_X3_deeds E d mc ms)) cut G R T Z) (f : Nat) (L : ZLV) (st : List Value) (σ : ZHp) (n k w : Nat) : Z (f + 1) 120 L st σ n k w = s_const (.int (0)) 121 L st σ n k w (zk1 cut G (Z f)) G R T := zrs hZ rfl f L st σ n k w
theorem f_X3_deeds_121 (hZ : ZRN (ztb (tb_X3_deeds E d mc ms)) cut G R T Z) (f : Nat) (L : ZLV) (st : List Value) (σ : ZHp) (n k w : Nat) : Z (f + 1) 121 L st σ n k w = s_callV E d mc ms 0 MX1_add 2 124 L st σ n k w (zk1 cut G (Z f)) G R T := zrs hZ rfl f L st σ n k w
theorem f_X3_deeds_124 (hZ : ZRN (ztb (tb_X3_deeds E d mc ms)) cut G R T Z) (f : Nat) (L : ZLV) (st : List Value) (σ : ZHp) (n k w : Nat) : Z (f + 1) 124 L st σ n k w = s_iinc 2 (1) 127 L st σ n k w (zk1 cut G (Z f)) G R T := zrs hZ rfl f L st σ n k w
theorem f_X3_deeds_127 (hZ : ZRN (ztb (tb_X3_deeds E d mc ms)) cut G R T Z) (f : Nat) (L : ZLV) (st : List Value) (σ : ZHp) (n k w : Nat) : Z (f + 1) 127 L st σ n k w = s_goto 4 L st σ n k w (zk1 cut G (Z f)) G R T := zrs hZ rfl f L st σ n k w
theorem f_X3_deeds_130 (hZ : ZRN (ztb (tb_X3_deeds E d mc ms)) cut G R T Z) (f : Nat) (L : ZLV) (st : List Value) (σ : ZHp) (n k w : Nat) : Z (f + 1) 130 L st σ n k w = s_iload 1 131 L st σ n k w (zk1 cut G (Z f)) G R T := zrs hZ rfl f L st σ n k w
theorem f_X3_deeds_131 (hZ : ZRN (ztb (tb_X3_deeds E d mc ms)) cut G R T Z) (f : Nat) (L : ZLV) (st : List Value) (σ : ZHp) (n k w : Nat) : Z (f + 1) 131 L st σ n k w = s_zreturn L st σ n k w (zk1 cut G (Z f)) G R T := zrs hZ rfl f L st σ n k w
theorem f_X3_isDeed_0 (hZ : ZRN (ztb (tb_X3_isDeed E d mc ms)) cut G R T Z) (f : Nat) (L : ZLV) (st : List Value) (σ : ZHp) (n k w : Nat) : Z (f + 1) 0 L st σ n k w = s_aload 0 1 L st σ n k w (zk1 cut G (Z f)) G R T := zrs hZ rfl f L st σ n k w
theorem f_X3_isDeed_1 (hZ : ZRN (ztb (tb_X3_isDeed E d mc ms)) cut G R T Z) (f : Nat) (L : ZLV) (st : List Value) (σ : ZHp) (n k w : Nat) : Z (f + 1) 1 L st σ n k w = s_const (.ref (zeK E 8)) 4 L st σ n k w (zk1 cut G (Z f)) G R T := zrs hZ rfl f L st σ n k w
theorem f_X3_isDeed_4 (hZ : ZRN (ztb (tb_X3_isDeed E d mc ms)) cut G R T Z) (f : Nat) (L : ZLV) (st : List Value) (σ : ZHp) (n k w : Nat) : Z (f + 1) 4 L st σ n k w = s_acmp_eq 35 7 L st σ n k w (zk1 cut G (Z f)) G R T := zrs hZ rfl f L st σ n k w
theorem f_X3_isDeed_7 (hZ : ZRN (ztb (tb_X3_isDeed E d mc ms)) cut G R T Z) (f : Nat) (L : ZLV) (st : List Value) (σ : ZHp) (n k w : Nat) : Z (f + 1) 7 L st σ n k w = s_aload 0 8 L st σ n k w (zk1 cut G (Z f)) G R T := zrs hZ rfl f L st σ n k w
theorem f_X3_isDeed_8 (hZ : ZRN (ztb (tb_X3_isDeed E d mc ms)) cut G R T Z) (f : Nat) (L : ZLV) (st : List Value) (σ : ZHp) (n k w : Nat) : Z (f + 1) 8 L st σ n k w = s_const (.ref (zeK E 9)) 11 L st σ n k w (zk1 cut G (Z f)) G R T := zrs hZ rfl f L st σ n k w
theorem f_X3_isDeed_11 (hZ : ZRN (ztb (tb_X3_isDeed E d mc ms)) cut G R T Z) (f : Nat) (L : ZLV) (st : List Value) (σ : ZHp) (n k w : Nat) : Z (f + 1) 11 L st σ n k w = s_acmp_eq 35 14 L st σ n k w (zk1 cut G (Z f)) G R T := zrs hZ rfl f L st σ n k w
theorem f_X3_isDeed_14 (hZ : ZRN (ztb (tb_X3_isDeed E d mc ms)) cut G R T Z) (f : Nat) (L : ZLV) (st : List Value) (σ : ZHp) (n k w : Nat) : Z (f + 1) 14 L st σ n k w = s_aload 0 15 L st σ n k w (zk1 cut G (Z f)) G R T := zrs hZ rfl f L st σ n k w
theorem f_X3_isDeed_15 (hZ : ZRN (ztb (tb_X3_isDeed E d mc ms)) cut G R T Z) (f : Nat) (L : ZLV) (st : List Value) (σ : ZHp) (n k w : Nat) : Z (f + 1) 15 L st σ n k w = s_const (.ref (zeK E 10)) 18 L st σ n k w (zk1 cut G (Z f)) G R T := zrs hZ rfl f L st σ n k w
theorem f_X3_isDeed_18 (hZ : ZRN (ztb (tb_X3_isDeed E d mc ms)) cut G R T Z) (f : Nat) (L : ZLV) (st : List Value) (σ : ZHp) (n k w : Nat) : Z (f + 1) 18 L st σ n k w = s_acmp_eq 35 21 L st σ n k w (zk1 cut G (Z f)) G R T := zrs hZ rfl f L st σ n k w
theorem f_X3_isDeed_21 (hZ : ZRN (ztb (tb_X3_isDeed E d mc ms)) cut G R T Z) (f : Nat) (L : ZLV) (st : List Value) (σ : ZHp) (n k w : Nat) : Z (f + 1) 21 L st σ n k w = s_aload 0 22 L st σ n k w (zk1 cut G (Z f)) G R T := zrs hZ rfl f L st σ n k w
theorem f_X3_isDeed_22 (hZ : ZRN (ztb (tb_X3_isDeed E d mc ms)) cut G R T Z) (f : Nat) (L : ZLV) (st : List Value) (σ : ZHp) (n k w : Nat) : Z (f + 1) 22 L st σ n k w = s_const (.ref (zeK E 11)) 25 L st σ n k w (zk1 cut G (Z f)) G R T := zrs hZ rfl f L st σ n k w
theorem f_X3_isDeed_25 (hZ : ZRN (ztb (tb_X3_isDeed E d mc ms)) cut G R T Z) (f : Nat) (L : ZLV) (st : List Value) (σ : ZHp) (n k w : Nat) : Z (f + 1) 25 L st σ n k w = s_acmp_eq 35 28 L st σ n k w (zk1 cut G (Z f)) G R T := zrs hZ rfl f L st σ n k w
theorem f_X3_isDeed_28 (hZ : ZRN (ztb (tb_X3_isDeed E d mc ms)) cut G R T Z) (f : Nat) (L : ZLV) (st : List Value) (σ : ZHp) (n k w : Nat) : Z (f + 1) 28 L st σ n k w = s_aload 0 29 L st σ n k w (zk1 cut G (Z f)) G R T := zrs hZ rfl f L st σ n k w
theorem f_X3_isDeed_29 (hZ : ZRN (ztb (tb_X3_isDeed E d mc ms)) cut G R T Z) (f : Nat) (L : ZLV) (st : List Value) (σ : ZHp) (n k w : Nat) : Z (f + 1) 29 L st σ n k w = s_const (.ref (zeK E 12)) 32 L st σ n k w (zk1 cut G (Z f)) G R T := zrs hZ rfl f L st σ n k w
theorem f_X3_isDeed_32 (hZ : ZRN (ztb (tb_X3_isDeed E d mc ms)) cut G R T Z) (f : Nat) (L : ZLV) (st : List Value) (σ : ZHp) (n k w : Nat) : Z (f + 1) 32 L st σ n k w = s_acmp_ne 39 35 L st σ n k w (zk1 cut G (Z f)) G R T := zrs hZ rfl f L st σ n k w
theorem f_X3_isDeed_35 (hZ : ZRN (ztb (tb_X3_isDeed E d mc ms)) cut G R T Z) (f : Nat) (L : ZLV) (st : List Value) (σ : ZHp) (n k w : Nat) : Z (f + 1) 35 L st σ n k w = s_const (.int (1)) 36 L st σ n k w (zk1 cut G (Z f)) G R T := zrs hZ rfl f L st σ n k w
theorem f_X3_isDeed_36 (hZ : ZRN (ztb (tb_X3_isDeed E d mc ms)) cut G R T Z) (f : Nat) (L : ZLV) (st : List Value) (σ : ZHp) (n k w : Nat) : Z (f + 1) 36 L st σ n k w = s_goto 40 L st σ n k w (zk1 cut G (Z f)) G R T := zrs hZ rfl f L st σ n k w
theorem f_X3_isDeed_39 (hZ : ZRN (ztb (tb_X3_isDeed E d mc ms)) cut G R T Z) (f : Nat) (L : ZLV) (st : List Value) (σ : ZHp) (n k w : Nat) : Z (f + 1) 39 L st σ n k w = s_const (.int (0)) 40 L st σ n k w (zk1 cut G (Z f)) G R T := zrs hZ rfl f L st σ n k w
theorem f_X3_isDeed_40 (hZ : ZRN (ztb (tb_X3_isDeed E d mc ms)) cut G R T Z) (f : Nat) (L : ZLV) (st : List Value) (σ : ZHp) (n k w : Nat) : Z (f + 1) 40 L st σ n k w = s_zreturn L st σ n k w (zk1 cut G (Z f)) G R T := zrs hZ rfl f L st σ n k w
theorem f_X3_test_0 (hZ : ZRN (ztb (tb_X3_test E d mc ms)) cut G R T Z) (f : Nat) (L : ZLV) (st : List Value) (σ : ZHp) (n k w : Nat) : Z (f + 1) 0 L st σ n k w = s_aload 0 1 L st σ n k w (zk1 cut G (Z f)) G R T := zrs hZ rfl f L st σ n k w
theorem f_X3_test_1 (hZ : ZRN (ztb (tb_X3_test E d mc ms)) cut G R T Z) (f : Nat) (L : ZLV) (st : List Value) (σ : ZHp) (n k w : Nat) : Z (f + 1) 1 L st σ n k w = s_iload 1 2 L st σ n k w (zk1 cut G (Z f)) G R T := zrs hZ rfl f L st σ n k w
theorem f_X3_test_2 (hZ : ZRN (ztb (tb_X3_test E d mc ms)) cut G R T Z) (f : Nat) (L : ZLV) (st : List Value) (σ : ZHp) (n k w : Nat) : Z (f + 1) 2 L st σ n k w = s_callV E d mc ms 2 MX3_both 1 5 L st σ n k w (zk1 cut G (Z f)) G R T := zrs hZ rfl f L st σ n k w
theorem f_X3_test_5 (hZ : ZRN (ztb (tb_X3_test E d mc ms)) cut G R T Z) (f : Nat) (L : ZLV) (st : List Value) (σ : ZHp) (n k w : Nat) : Z (f + 1) 5 L st σ n k w = s_istore 2 6 L st σ n k w (zk1 cut G (Z f)) G R T := zrs hZ rfl f L st σ n k w
theorem f_X3_test_6 (hZ : ZRN (ztb (tb_X3_test E d mc ms)) cut G R T Z) (f : Nat) (L : ZLV) (st : List Value) (σ : ZHp) (n k w : Nat) : Z (f + 1) 6 L st σ n k w = s_const (.int (0)) 7 L st σ n k w (zk1 cut G (Z f)) G R T := zrs hZ rfl f L st σ n k w
theorem f_X3_test_7 (hZ : ZRN (ztb (tb_X3_test E d mc ms)) cut G R T Z) (f : Nat) (L : ZLV) (st : List Value) (σ : ZHp) (n k w : Nat) : Z (f + 1) 7 L st σ n k w = s_istore 3 8 L st σ n k w (zk1 cut G (Z f)) G R T := zrs hZ rfl f L st σ n k w
theorem f_X3_test_8 (hZ : ZRN (ztb (tb_X3_test E d mc ms)) cut G R T Z) (f : Nat) (L : ZLV) (st : List Value) (σ : ZHp) (n k w : Nat) : Z (f + 1) 8 L st σ n k w = s_iload 3 9 L st σ n k w (zk1 cut G (Z f)) G R T := zrs hZ rfl f L st σ n k w
theorem f_X3_test_9 (hZ : ZRN (ztb (tb_X3_test E d mc ms)) cut G R T Z) (f : Nat) (L : ZLV) (st : List Value) (σ : ZHp) (n k w : Nat) : Z (f + 1) 9 L st σ n k w = s_const (.int (400)) 12 L st σ n k w (zk1 cut G (Z f)) G R T := zrs hZ rfl f L st σ n k w
theorem f_X3_test_12 (hZ : ZRN (ztb (tb_X3_test E d mc ms)) cut G R T Z) (f : Nat) (L : ZLV) (st : List Value) (σ : ZHp) (n k w : Nat) : Z (f + 1) 12 L st σ n k w = s_icmp_ge 55 15 L st σ n k w (zk1 cut G (Z f)) G R T := zrs hZ rfl f L st σ n k w
theorem f_X3_test_15 (hZ : ZRN (ztb (tb_X3_test E d mc ms)) cut G R T Z) (f : Nat) (L : ZLV) (st : List Value) (σ : ZHp) (n k w : Nat) : Z (f + 1) 15 L st σ n k w = s_iload 2 16 L st σ n k w (zk1 cut G (Z f)) G R T := zrs hZ rfl f L st σ n k w
theorem f_X3_test_16 (hZ : ZRN (ztb (tb_X3_test E d mc ms)) cut G R T Z) (f : Nat) (L : ZLV) (st : List Value) (σ : ZHp) (n k w : Nat) : Z (f + 1) 16 L st σ n k w = s_if_eq 55 19 L st σ n k w (zk1 cut G (Z f)) G R T := zrs hZ rfl f L st σ n k w
theorem f_X3_test_19 (hZ : ZRN (ztb (tb_X3_test E d mc ms)) cut G R T Z) (f : Nat) (L : ZLV) (st : List Value) (σ : ZHp) (n k w : Nat) : Z (f + 1) 19 L st σ n k w = s_aload 0 20 L st σ n k w (zk1 cut G (Z f)) G R T := zrs hZ rfl f L st σ n k w
theorem f_X3_test_20 (hZ : ZRN (ztb (tb_X3_test E d mc ms)) cut G R T Z) (f : Nat) (L : ZLV) (st : List Value) (σ : ZHp) (n k w : Nat) : Z (f + 1) 20 L st σ n k w = s_getf 2 0 23 L st σ n k w (zk1 cut G (Z f)) G R T := zrs hZ rfl f L st σ n k w
theorem f_X3_test_23 (hZ : ZRN (ztb (tb_X3_test E d mc ms)) cut G R T Z) (f : Nat) (L : ZLV) (st : List Value) (σ : ZHp) (n k w : Nat) : Z (f + 1) 23 L st σ n k w = s_const (.ref (zeK E 28)) 26 L st σ n k w (zk1 cut G (Z f)) G R T := zrs hZ rfl f L st σ n k w
theorem f_X3_test_26 (hZ : ZRN (ztb (tb_X3_test E d mc ms)) cut G R T Z) (f : Nat) (L : ZLV) (st : List Value) (σ : ZHp) (n k w : Nat) : Z (f + 1) 26 L st σ n k w = s_callV E d mc ms 9 MX10_take 1 29 L st σ n k w (zk1 cut G (Z f)) G R T := zrs hZ rfl f L st σ n k w
theorem f_X3_test_29 (hZ : ZRN (ztb (tb_X3_test E d mc ms)) cut G R T Z) (f : Nat) (L : ZLV) (st : List Value) (σ : ZHp) (n k w : Nat) : Z (f + 1) 29 L st σ n k w = s_if_eq 55 32 L st σ n k w (zk1 cut G (Z f)) G R T := zrs hZ rfl f L st σ n k w
theorem f_X3_test_32 (hZ : ZRN (ztb (tb_X3_test E d mc ms)) cut G R T Z) (f : Nat) (L : ZLV) (st : List Value) (σ : ZHp) (n k w : Nat) : Z (f + 1) 32 L st σ n k w = s_aload 0 33 L st σ n k w (zk1 cut G (Z f)) G R T := zrs hZ rfl f L st σ n k w
theorem f_X3_test_33 (hZ : ZRN (ztb (tb_X3_test E d mc ms)) cut G R T Z) (f : Nat) (L : ZLV) (st : List Value) (σ : ZHp) (n k w : Nat) : Z (f + 1) 33 L st σ n k w = s_iload 1 34 L st σ n k w (zk1 cut G (Z f)) G R T := zrs hZ rfl f L st σ n k w
theorem f_X3_test_34 (hZ : ZRN (ztb (tb_X3_test E d mc ms)) cut G R T Z) (f : Nat) (L : ZLV) (st : List Value) (σ : ZHp) (n k w : Nat) : Z (f + 1) 34 L st σ n k w = s_callV E d mc ms 2 MX3_both 1 37 L st σ n k w (zk1 cut G (Z f)) G R T := zrs hZ rfl f L st σ n k w
theorem f_X3_test_37 (hZ : ZRN (ztb (tb_X3_test E d mc ms)) cut G R T Z) (f : Nat) (L : ZLV) (st : List Value) (σ : ZHp) (n k w : Nat) : Z (f + 1) 37 L st σ n k w = s_istore 2 38 L st σ n k w (zk1 cut G (Z f)) G R T := zrs hZ rfl f L st σ n k w
theorem f_X3_test_38 (hZ : ZRN (ztb (tb_X3_test E d mc ms)) cut G R T Z) (f : Nat) (L : ZLV) (st : List Value) (σ : ZHp) (n k w : Nat) : Z (f + 1) 38 L st σ n k w = s_aload 0 39 L st σ n k w (zk1 cut G (Z f)) G R T := zrs hZ rfl f L st σ n k w
theorem f_X3_test_39 (hZ : ZRN (ztb (tb_X3_test E d mc ms)) cut G R T Z) (f : Nat) (L : ZLV) (st : List Value) (σ : ZHp) (n k w : Nat) : Z (f + 1) 39 L st σ n k w = s_getf 2 2 42 L st σ n k w (zk1 cut G (Z f)) G R T := zrs hZ rfl f L st σ n k w
theorem f_X3_test_42 (hZ : ZRN (ztb (tb_X3_test E d mc ms)) cut G R T Z) (f : Nat) (L : ZLV) (st : List Value) (σ : ZHp) (n k w : Nat) : Z (f + 1) 42 L st σ n k w = s_const (.ref (zeK E 28)) 45 L st σ n k w (zk1 cut G (Z f)) G R T := zrs hZ rfl f L st σ n k w
theorem f_X3_test_45 (hZ : ZRN (ztb (tb_X3_test E d mc ms)) cut G R T Z) (f : Nat) (L : ZLV) (st : List Value) (σ : ZHp) (n k w : Nat) : Z (f + 1) 45 L st σ n k w = s_const (.int (0)) 46 L st σ n k w (zk1 cut G (Z f)) G R T := zrs hZ rfl f L st σ n k w
theorem f_X3_test_46 (hZ : ZRN (ztb (tb_X3_test E d mc ms)) cut G R T Z) (f : Nat) (L : ZLV) (st : List Value) (σ : ZHp) (n k w : Nat) : Z (f + 1) 46 L st σ n k w = s_callV E d mc ms 0 MX1_add 2 49 L st σ n k w (zk1 cut G (Z f)) G R T := zrs hZ rfl f L st σ n k w
theorem f_X3_test_49 (hZ : ZRN (ztb (tb_X3_test E d mc ms)) cut G R T Z) (f : Nat) (L : ZLV) (st : List Value) (σ : ZHp) (n k w : Nat) : Z (f + 1) 49 L st σ n k w = s_iinc 3 (1) 52 L st σ n k w (zk1 cut G (Z f)) G R T := zrs hZ rfl f L st σ n k w
theorem f_X3_test_52 (hZ : ZRN (ztb (tb_X3_test E d mc ms)) cut G R T Z) (f : Nat) (L : ZLV) (st : List Value) (σ : ZHp) (n k w : Nat) : Z (f + 1) 52 L st σ n k w = s_goto 8 L st σ n k w (zk1 cut G (Z f)) G R T := zrs hZ rfl f L st σ n k w
theorem f_X3_test_55 (hZ : ZRN (ztb (tb_X3_test E d mc ms)) cut G R T Z) (f : Nat) (L : ZLV) (st : List Value) (σ : ZHp) (n k w : Nat) : Z (f + 1) 55 L st σ n k w = s_iload 2 56 L st σ n k w (zk1 cut G (Z f)) G R T := zrs hZ rfl f L st σ n k w
theorem f_X3_test_56 (hZ : ZRN (ztb (tb_X3_test E d mc ms)) cut G R T Z) (f : Nat) (L : ZLV) (st : List Value) (σ : ZHp) (n k w : Nat) : Z (f + 1) 56 L st σ n k w = s_zreturn L st σ n k w (zk1 cut G (Z f)) G R T := zrs hZ rfl f L st σ n k w
theorem f_X3_both_0 (hZ : ZRN (ztb (tb_X3_both E d mc ms)) cut G R T Z) (f : Nat) (L : ZLV) (st : List Value) (σ : ZHp) (n k w : Nat) : Z (f + 1) 0 L st σ n k w = s_aload 0 1 L st σ n k w (zk1 cut G (Z f)) G R T := zrs hZ rfl f L st σ n k w
theorem f_X3_both_1 (hZ : ZRN (ztb (tb_X3_both E d mc ms)) cut G R T Z) (f : Nat) (L : ZLV) (st : List Value) (σ : ZHp) (n k w : Nat) : Z (f + 1) 1 L st σ n k w = s_iload 1 2 L st σ n k w (zk1 cut G (Z f)) G R T := zrs hZ rfl f L st σ n k w
theorem f_X3_both_2 (hZ : ZRN (ztb (tb_X3_both E d mc ms)) cut G R T Z) (f : Nat) (L : ZLV) (st : List Value) (σ : ZHp) (n k w : Nat) : Z (f + 1) 2 L st σ n k w = s_callV E d mc ms 2 MX3_single 1 5 L st σ n k w (zk1 cut G (Z f)) G R T := zrs hZ rfl f L st σ n k w
theorem f_X3_both_5 (hZ : ZRN (ztb (tb_X3_both E d mc ms)) cut G R T Z) (f : Nat) (L : ZLV) (st : List Value) (σ : ZHp) (n k w : Nat) : Z (f + 1) 5 L st σ n k w = s_istore 2 6 L st σ n k w (zk1 cut G (Z f)) G R T := zrs hZ rfl f L st σ n k w
theorem f_X3_both_6 (hZ : ZRN (ztb (tb_X3_both E d mc ms)) cut G R T Z) (f : Nat) (L : ZLV) (st : List Value) (σ : ZHp) (n k w : Nat) : Z (f + 1) 6 L st σ n k w = s_const (.int (0)) 7 L st σ n k w (zk1 cut G (Z f)) G R T := zrs hZ rfl f L st σ n k w
theorem f_X3_both_7 (hZ : ZRN (ztb (tb_X3_both E d mc ms)) cut G R T Z) (f : Nat) (L : ZLV) (st : List Value) (σ : ZHp) (n k w : Nat) : Z (f + 1) 7 L st σ n k w = s_istore 3 8 L st σ n k w (zk1 cut G (Z f)) G R T := zrs hZ rfl f L st σ n k w
theorem f_X3_both_8 (hZ : ZRN (ztb (tb_X3_both E d mc ms)) cut G R T Z) (f : Nat) (L : ZLV) (st : List Value) (σ : ZHp) (n k w : Nat) : Z (f + 1) 8 L st σ n k w = s_iload 3 9 L st σ n k w (zk1 cut G (Z f)) G R T := zrs hZ rfl f L st σ n k w
theorem f_X3_both_9 (hZ : ZRN (ztb (tb_X3_both E d mc ms)) cut G R T Z) (f : Nat) (L : ZLV) (st : List Value) (σ : ZHp) (n k w : Nat) : Z (f + 1) 9 L st σ n k w = s_const (.int (400)) 12 L st σ n k w (zk1 cut G (Z f)) G R T := zrs hZ rfl f L st σ n k w
theorem f_X3_both_12 (hZ : ZRN (ztb (tb_X3_both E d mc ms)) cut G R T Z) (f : Nat) (L : ZLV) (st : List Value) (σ : ZHp) (n k w : Nat) : Z (f + 1) 12 L st σ n k w = s_icmp_ge 55 15 L st σ n k w (zk1 cut G (Z f)) G R T := zrs hZ rfl f L st σ n k w
theorem f_X3_both_15 (hZ : ZRN (ztb (tb_X3_both E d mc ms)) cut G R T Z) (f : Nat) (L : ZLV) (st : List Value) (σ : ZHp) (n k w : Nat) : Z (f + 1) 15 L st σ n k w = s_iload 2 16 L st σ n k w (zk1 cut G (Z f)) G R T := zrs hZ rfl f L st σ n k w
theorem f_X3_both_16 (hZ : ZRN (ztb (tb_X3_both E d mc ms)) cut G R T Z) (f : Nat) (L : ZLV) (st : List Value) (σ : ZHp) (n k w : Nat) : Z (f + 1) 16 L st σ n k w = s_if_eq 55 19 L st σ n k w (zk1 cut G (Z f)) G R T := zrs hZ rfl f L st σ n k w
theorem f_X3_both_19 (hZ : ZRN (ztb (tb_X3_both E d mc ms)) cut G R T Z) (f : Nat) (L : ZLV) (st : List Value) (σ : ZHp) (n k w : Nat) : Z (f + 1) 19 L st σ n k w = s_aload 0 20 L st σ n k w (zk1 cut G (Z f)) G R T := zrs hZ rfl f L st σ n k w
theorem f_X3_both_20 (hZ : ZRN (ztb (tb_X3_both E d mc ms)) cut G R T Z) (f : Nat) (L : ZLV) (st : List Value) (σ : ZHp) (n k w : Nat) : Z (f + 1) 20 L st σ n k w = s_getf 2 0 23 L st σ n k w (zk1 cut G (Z f)) G R T := zrs hZ rfl f L st σ n k w
theorem f_X3_both_23 (hZ : ZRN (ztb (tb_X3_both E d mc ms)) cut G R T Z) (f : Nat) (L : ZLV) (st : List Value) (σ : ZHp) (n k w : Nat) : Z (f + 1) 23 L st σ n k w = s_const (.ref (zeK E 27)) 26 L st σ n k w (zk1 cut G (Z f)) G R T := zrs hZ rfl f L st σ n k w
theorem f_X3_both_26 (hZ : ZRN (ztb (tb_X3_both E d mc ms)) cut G R T Z) (f : Nat) (L : ZLV) (st : List Value) (σ : ZHp) (n k w : Nat) : Z (f + 1) 26 L st σ n k w = s_callV E d mc ms 9 MX10_take 1 29 L st σ n k w (zk1 cut G (Z f)) G R T := zrs hZ rfl f L st σ n k w
theorem f_X3_both_29 (hZ : ZRN (ztb (tb_X3_both E d mc ms)) cut G R T Z) (f : Nat) (L : ZLV) (st : List Value) (σ : ZHp) (n k w : Nat) : Z (f + 1) 29 L st σ n k w = s_if_eq 55 32 L st σ n k w (zk1 cut G (Z f)) G R T := zrs hZ rfl f L st σ n k w
theorem f_X3_both_32 (hZ : ZRN (ztb (tb_X3_both E d mc ms)) cut G R T Z) (f : Nat) (L : ZLV) (st : List Value) (σ : ZHp) (n k w : Nat) : Z (f + 1) 32 L st σ n k w = s_aload 0 33 L st σ n k w (zk1 cut G (Z f)) G R T := zrs hZ rfl f L st σ n k w
theorem f_X3_both_33 (hZ : ZRN (ztb (tb_X3_both E d mc ms)) cut G R T Z) (f : Nat) (L : ZLV) (st : List Value) (σ : ZHp) (n k w : Nat) : Z (f + 1) 33 L st σ n k w = s_iload 1 34 L st σ n k w (zk1 cut G (Z f)) G R T := zrs hZ rfl f L st σ n k w
theorem f_X3_both_34 (hZ : ZRN (ztb (tb_X3_both E d mc ms)) cut G R T Z) (f : Nat) (L : ZLV) (st : List Value) (σ : ZHp) (n k w : Nat) : Z (f + 1) 34 L st σ n k w = s_callV E d mc ms 2 MX3_single 1 37 L st σ n k w (zk1 cut G (Z f)) G R T := zrs hZ rfl f L st σ n k w
theorem f_X3_both_37 (hZ : ZRN (ztb (tb_X3_both E d mc ms)) cut G R T Z) (f : Nat) (L : ZLV) (st : List Value) (σ : ZHp) (n k w : Nat) : Z (f + 1) 37 L st σ n k w = s_istore 2 38 L st σ n k w (zk1 cut G (Z f)) G R T := zrs hZ rfl f L st σ n k w
theorem f_X3_both_38 (hZ : ZRN (ztb (tb_X3_both E d mc ms)) cut G R T Z) (f : Nat) (L : ZLV) (st : List Value) (σ : ZHp) (n k w : Nat) : Z (f + 1) 38 L st σ n k w = s_aload 0 39 L st σ n k w (zk1 cut G (Z f)) G R T := zrs hZ rfl f L st σ n k w
theorem f_X3_both_39 (hZ : ZRN (ztb (tb_X3_both E d mc ms)) cut G R T Z) (f : Nat) (L : ZLV) (st : List Value) (σ : ZHp) (n k w : Nat) : Z (f + 1) 39 L st σ n k w = s_getf 2 2 42 L st σ n k w (zk1 cut G (Z f)) G R T := zrs hZ rfl f L st σ n k w
theorem f_X3_both_42 (hZ : ZRN (ztb (tb_X3_both E d mc ms)) cut G R T Z) (f : Nat) (L : ZLV) (st : List Value) (σ : ZHp) (n k w : Nat) : Z (f + 1) 42 L st σ n k w = s_const (.ref (zeK E 27)) 45 L st σ n k w (zk1 cut G (Z f)) G R T := zrs hZ rfl f L st σ n k w
theorem f_X3_both_45 (hZ : ZRN (ztb (tb_X3_both E d mc ms)) cut G R T Z) (f : Nat) (L : ZLV) (st : List Value) (σ : ZHp) (n k w : Nat) : Z (f + 1) 45 L st σ n k w = s_const (.int (0)) 46 L st σ n k w (zk1 cut G (Z f)) G R T := zrs hZ rfl f L st σ n k w
theorem f_X3_both_46 (hZ : ZRN (ztb (tb_X3_both E d mc ms)) cut G R T Z) (f : Nat) (L : ZLV) (st : List Value) (σ : ZHp) (n k w : Nat) : Z (f + 1) 46 L st σ n k w = s_callV E d mc ms 0 MX1_add 2 49 L st σ n k w (zk1 cut G (Z f)) G R T := zrs hZ rfl f L st σ n k w
theorem f_X3_both_49 (hZ : ZRN (ztb (tb_X3_both E d mc ms)) cut G R T Z) (f : Nat) (L : ZLV) (st : List Value) (σ : ZHp) (n k w : Nat) : Z (f + 1) 49 L st σ n k w = s_iinc 3 (1) 52 L st σ n k w (zk1 cut G (Z f)) G R T := zrs hZ rfl f L st σ n k w
theorem f_X3_both_52 (hZ : ZRN (ztb (tb_X3_both E d mc ms)) cut G R T Z) (f : Nat) (L : ZLV) (st : List Value) (σ : ZHp) (n k w : Nat) : Z (f + 1) 52 L st σ n k w = s_goto 8 L st σ n k w (zk1 cut G (Z f)) G R T := zrs hZ rfl f L st σ n k w
theorem f_X3_both_55 (hZ : ZRN (ztb (tb_X3_both E d mc ms)) cut G R T Z) (f : Nat) (L : ZLV) (st : List Value) (σ : ZHp) (n k w : Nat) : Z (f + 1) 55 L st σ n k w = s_iload 2 56 L st σ n k w (zk1 cut G (Z f)) G R T := zrs hZ rfl f L st σ n k w
theorem f_X3_both_56 (hZ : ZRN (ztb (tb_X3_both E d mc ms)) cut G R T Z) (f : Nat) (L : ZLV) (st : List Value) (σ : ZHp) (n k w : Nat) : Z (f + 1) 56 L st σ n k w = s_zreturn L st σ n k w (zk1 cut G (Z f)) G R T := zrs hZ rfl f L st σ n k w
theorem f_X3_single_0 (hZ : ZRN (ztb (tb_X3_single E d mc ms)) cut G R T Z) (f : Nat) (L : ZLV) (st : List Value) (σ : ZHp) (n k w : Nat) : Z (f + 1) 0 L st σ n k w = s_aload 0 1 L st σ n k w (zk1 cut G (Z f)) G R T := zrs hZ rfl f L st σ n k w
theorem f_X3_single_1 (hZ : ZRN (ztb (tb_X3_single E d mc ms)) cut G R T Z) (f : Nat) (L : ZLV) (st : List Value) (σ : ZHp) (n k w : Nat) : Z (f + 1) 1 L st σ n k w = s_getf 2 0 4 L st σ n k w (zk1 cut G (Z f)) G R T := zrs hZ rfl f L st σ n k w
theorem f_X3_single_4 (hZ : ZRN (ztb (tb_X3_single E d mc ms)) cut G R T Z) (f : Nat) (L : ZLV) (st : List Value) (σ : ZHp) (n k w : Nat) : Z (f + 1) 4 L st σ n k w = s_callV E d mc ms 9 MX10_sign 0 7 L st σ n k w (zk1 cut G (Z f)) G R T := zrs hZ rfl f L st σ n k w
theorem f_X3_single_7 (hZ : ZRN (ztb (tb_X3_single E d mc ms)) cut G R T Z) (f : Nat) (L : ZLV) (st : List Value) (σ : ZHp) (n k w : Nat) : Z (f + 1) 7 L st σ n k w = s_astore 2 8 L st σ n k w (zk1 cut G (Z f)) G R T := zrs hZ rfl f L st σ n k w
theorem f_X3_single_8 (hZ : ZRN (ztb (tb_X3_single E d mc ms)) cut G R T Z) (f : Nat) (L : ZLV) (st : List Value) (σ : ZHp) (n k w : Nat) : Z (f + 1) 8 L st σ n k w = s_aload 2 9 L st σ n k w (zk1 cut G (Z f)) G R T := zrs hZ rfl f L st σ n k w
theorem f_X3_single_9 (hZ : ZRN (ztb (tb_X3_single E d mc ms)) cut G R T Z) (f : Nat) (L : ZLV) (st : List Value) (σ : ZHp) (n k w : Nat) : Z (f + 1) 9 L st σ n k w = s_const (.ref (zeK E 26)) 12 L st σ n k w (zk1 cut G (Z f)) G R T := zrs hZ rfl f L st σ n k w
theorem f_X3_single_12 (hZ : ZRN (ztb (tb_X3_single E d mc ms)) cut G R T Z) (f : Nat) (L : ZLV) (st : List Value) (σ : ZHp) (n k w : Nat) : Z (f + 1) 12 L st σ n k w = s_acmp_eq 22 15 L st σ n k w (zk1 cut G (Z f)) G R T := zrs hZ rfl f L st σ n k w
theorem f_X3_single_15 (hZ : ZRN (ztb (tb_X3_single E d mc ms)) cut G R T Z) (f : Nat) (L : ZLV) (st : List Value) (σ : ZHp) (n k w : Nat) : Z (f + 1) 15 L st σ n k w = s_aload 2 16 L st σ n k w (zk1 cut G (Z f)) G R T := zrs hZ rfl f L st σ n k w
theorem f_X3_single_16 (hZ : ZRN (ztb (tb_X3_single E d mc ms)) cut G R T Z) (f : Nat) (L : ZLV) (st : List Value) (σ : ZHp) (n k w : Nat) : Z (f + 1) 16 L st σ n k w = s_const (.ref (zeK E 33)) 19 L st σ n k w (zk1 cut G (Z f)) G R T := zrs hZ rfl f L st σ n k w
theorem f_X3_single_19 (hZ : ZRN (ztb (tb_X3_single E d mc ms)) cut G R T Z) (f : Nat) (L : ZLV) (st : List Value) (σ : ZHp) (n k w : Nat) : Z (f + 1) 19 L st σ n k w = s_acmp_ne 94 22 L st σ n k w (zk1 cut G (Z f)) G R T := zrs hZ rfl f L st σ n k w
theorem f_X3_single_22 (hZ : ZRN (ztb (tb_X3_single E d mc ms)) cut G R T Z) (f : Nat) (L : ZLV) (st : List Value) (σ : ZHp) (n k w : Nat) : Z (f + 1) 22 L st σ n k w = s_iload 1 23 L st σ n k w (zk1 cut G (Z f)) G R T := zrs hZ rfl f L st σ n k w
theorem f_X3_single_23 (hZ : ZRN (ztb (tb_X3_single E d mc ms)) cut G R T Z) (f : Nat) (L : ZLV) (st : List Value) (σ : ZHp) (n k w : Nat) : Z (f + 1) 23 L st σ n k w = s_const (.int (8)) 25 L st σ n k w (zk1 cut G (Z f)) G R T := zrs hZ rfl f L st σ n k w
theorem f_X3_single_25 (hZ : ZRN (ztb (tb_X3_single E d mc ms)) cut G R T Z) (f : Nat) (L : ZLV) (st : List Value) (σ : ZHp) (n k w : Nat) : Z (f + 1) 25 L st σ n k w = s_icmp_lt 30 28 L st σ n k w (zk1 cut G (Z f)) G R T := zrs hZ rfl f L st σ n k w
theorem f_X3_single_28 (hZ : ZRN (ztb (tb_X3_single E d mc ms)) cut G R T Z) (f : Nat) (L : ZLV) (st : List Value) (σ : ZHp) (n k w : Nat) : Z (f + 1) 28 L st σ n k w = s_const (.int (0)) 29 L st σ n k w (zk1 cut G (Z f)) G R T := zrs hZ rfl f L st σ n k w
theorem f_X3_single_29 (hZ : ZRN (ztb (tb_X3_single E d mc ms)) cut G R T Z) (f : Nat) (L : ZLV) (st : List Value) (σ : ZHp) (n k w : Nat) : Z (f + 1) 29 L st σ n k w = s_zreturn L st σ n k w (zk1 cut G (Z f)) G R T := zrs hZ rfl f L st σ n k w
theorem f_X3_single_30 (hZ : ZRN (ztb (tb_X3_single E d mc ms)) cut G R T Z) (f : Nat) (L : ZLV) (st : List Value) (σ : ZHp) (n k w : Nat) : Z (f + 1) 30 L st σ n k w = s_aload 0 31 L st σ n k w (zk1 cut G (Z f)) G R T := zrs hZ rfl f L st σ n k w
theorem f_X3_single_31 (hZ : ZRN (ztb (tb_X3_single E d mc ms)) cut G R T Z) (f : Nat) (L : ZLV) (st : List Value) (σ : ZHp) (n k w : Nat) : Z (f + 1) 31 L st σ n k w = s_getf 2 0 34 L st σ n k w (zk1 cut G (Z f)) G R T := zrs hZ rfl f L st σ n k w
theorem f_X3_single_34 (hZ : ZRN (ztb (tb_X3_single E d mc ms)) cut G R T Z) (f : Nat) (L : ZLV) (st : List Value) (σ : ZHp) (n k w : Nat) : Z (f + 1) 34 L st σ n k w = s_callV E d mc ms 9 MX10_advance 0 37 L st σ n k w (zk1 cut G (Z f)) G R T := zrs hZ rfl f L st σ n k w
theorem f_X3_single_37 (hZ : ZRN (ztb (tb_X3_single E d mc ms)) cut G R T Z) (f : Nat) (L : ZLV) (st : List Value) (σ : ZHp) (n k w : Nat) : Z (f + 1) 37 L st σ n k w = s_aload 2 38 L st σ n k w (zk1 cut G (Z f)) G R T := zrs hZ rfl f L st σ n k w
theorem f_X3_single_38 (hZ : ZRN (ztb (tb_X3_single E d mc ms)) cut G R T Z) (f : Nat) (L : ZLV) (st : List Value) (σ : ZHp) (n k w : Nat) : Z (f + 1) 38 L st σ n k w = s_const (.ref (zeK E 33)) 41 L st σ n k w (zk1 cut G (Z f)) G R T := zrs hZ rfl f L st σ n k w
theorem f_X3_single_41 (hZ : ZRN (ztb (tb_X3_single E d mc ms)) cut G R T Z) (f : Nat) (L : ZLV) (st : List Value) (σ : ZHp) (n k w : Nat) : Z (f + 1) 41 L st σ n k w = s_acmp_ne 73 44 L st σ n k w (zk1 cut G (Z f)) G R T := zrs hZ rfl f L st σ n k w
theorem f_X3_single_44 (hZ : ZRN (ztb (tb_X3_single E d mc ms)) cut G R T Z) (f : Nat) (L : ZLV) (st : List Value) (σ : ZHp) (n k w : Nat) : Z (f + 1) 44 L st σ n k w = s_aload 0 45 L st σ n k w (zk1 cut G (Z f)) G R T := zrs hZ rfl f L st σ n k w
theorem f_X3_single_45 (hZ : ZRN (ztb (tb_X3_single E d mc ms)) cut G R T Z) (f : Nat) (L : ZLV) (st : List Value) (σ : ZHp) (n k w : Nat) : Z (f + 1) 45 L st σ n k w = s_iload 1 46 L st σ n k w (zk1 cut G (Z f)) G R T := zrs hZ rfl f L st σ n k w
theorem f_X3_single_46 (hZ : ZRN (ztb (tb_X3_single E d mc ms)) cut G R T Z) (f : Nat) (L : ZLV) (st : List Value) (σ : ZHp) (n k w : Nat) : Z (f + 1) 46 L st σ n k w = s_const (.int (1)) 47 L st σ n k w (zk1 cut G (Z f)) G R T := zrs hZ rfl f L st σ n k w
theorem f_X3_single_47 (hZ : ZRN (ztb (tb_X3_single E d mc ms)) cut G R T Z) (f : Nat) (L : ZLV) (st : List Value) (σ : ZHp) (n k w : Nat) : Z (f + 1) 47 L st σ n k w = s_iadd 48 L st σ n k w (zk1 cut G (Z f)) G R T := zrs hZ rfl f L st σ n k w
theorem f_X3_single_48 (hZ : ZRN (ztb (tb_X3_single E d mc ms)) cut G R T Z) (f : Nat) (L : ZLV) (st : List Value) (σ : ZHp) (n k w : Nat) : Z (f + 1) 48 L st σ n k w = s_callV E d mc ms 2 MX3_test 1 51 L st σ n k w (zk1 cut G (Z f)) G R T := zrs hZ rfl f L st σ n k w
theorem f_X3_single_51 (hZ : ZRN (ztb (tb_X3_single E d mc ms)) cut G R T Z) (f : Nat) (L : ZLV) (st : List Value) (σ : ZHp) (n k w : Nat) : Z (f + 1) 51 L st σ n k w = s_if_eq 71 54 L st σ n k w (zk1 cut G (Z f)) G R T := zrs hZ rfl f L st σ n k w
theorem f_X3_single_54 (hZ : ZRN (ztb (tb_X3_single E d mc ms)) cut G R T Z) (f : Nat) (L : ZLV) (st : List Value) (σ : ZHp) (n k w : Nat) : Z (f + 1) 54 L st σ n k w = s_aload 0 55 L st σ n k w (zk1 cut G (Z f)) G R T := zrs hZ rfl f L st σ n k w
theorem f_X3_single_55 (hZ : ZRN (ztb (tb_X3_single E d mc ms)) cut G R T Z) (f : Nat) (L : ZLV) (st : List Value) (σ : ZHp) (n k w : Nat) : Z (f + 1) 55 L st σ n k w = s_getf 2 0 58 L st σ n k w (zk1 cut G (Z f)) G R T := zrs hZ rfl f L st σ n k w
theorem f_X3_single_58 (hZ : ZRN (ztb (tb_X3_single E d mc ms)) cut G R T Z) (f : Nat) (L : ZLV) (st : List Value) (σ : ZHp) (n k w : Nat) : Z (f + 1) 58 L st σ n k w = s_const (.ref (zeK E 34)) 61 L st σ n k w (zk1 cut G (Z f)) G R T := zrs hZ rfl f L st σ n k w
theorem f_X3_single_61 (hZ : ZRN (ztb (tb_X3_single E d mc ms)) cut G R T Z) (f : Nat) (L : ZLV) (st : List Value) (σ : ZHp) (n k w : Nat) : Z (f + 1) 61 L st σ n k w = s_callV E d mc ms 9 MX10_take 1 64 L st σ n k w (zk1 cut G (Z f)) G R T := zrs hZ rfl f L st σ n k w
theorem f_X3_single_64 (hZ : ZRN (ztb (tb_X3_single E d mc ms)) cut G R T Z) (f : Nat) (L : ZLV) (st : List Value) (σ : ZHp) (n k w : Nat) : Z (f + 1) 64 L st σ n k w = s_if_eq 71 67 L st σ n k w (zk1 cut G (Z f)) G R T := zrs hZ rfl f L st σ n k w
theorem f_X3_single_67 (hZ : ZRN (ztb (tb_X3_single E d mc ms)) cut G R T Z) (f : Nat) (L : ZLV) (st : List Value) (σ : ZHp) (n k w : Nat) : Z (f + 1) 67 L st σ n k w = s_const (.int (1)) 68 L st σ n k w (zk1 cut G (Z f)) G R T := zrs hZ rfl f L st σ n k w
theorem f_X3_single_68 (hZ : ZRN (ztb (tb_X3_single E d mc ms)) cut G R T Z) (f : Nat) (L : ZLV) (st : List Value) (σ : ZHp) (n k w : Nat) : Z (f + 1) 68 L st σ n k w = s_goto 72 L st σ n k w (zk1 cut G (Z f)) G R T := zrs hZ rfl f L st σ n k w
theorem f_X3_single_71 (hZ : ZRN (ztb (tb_X3_single E d mc ms)) cut G R T Z) (f : Nat) (L : ZLV) (st : List Value) (σ : ZHp) (n k w : Nat) : Z (f + 1) 71 L st σ n k w = s_const (.int (0)) 72 L st σ n k w (zk1 cut G (Z f)) G R T := zrs hZ rfl f L st σ n k w
theorem f_X3_single_72 (hZ : ZRN (ztb (tb_X3_single E d mc ms)) cut G R T Z) (f : Nat) (L : ZLV) (st : List Value) (σ : ZHp) (n k w : Nat) : Z (f + 1) 72 L st σ n k w = s_zreturn L st σ n k w (zk1 cut G (Z f)) G R T := zrs hZ rfl f L st σ n k w
theorem f_X3_single_73 (hZ : ZRN (ztb (tb_X3_single E d mc ms)) cut G R T Z) (f : Nat) (L : ZLV) (st : List Value) (σ : ZHp) (n k w : Nat) : Z (f + 1) 73 L st σ n k w = s_aload 0 74 L st σ n k w (zk1 cut G (Z f)) G R T := zrs hZ rfl f L st σ n k w
theorem f_X3_single_74 (hZ : ZRN (ztb (tb_X3_single E d mc ms)) cut G R T Z) (f : Nat) (L : ZLV) (st : List Value) (σ : ZHp) (n k w : Nat) : Z (f + 1) 74 L st σ n k w = s_iload 1 75 L st σ n k w (zk1 cut G (Z f)) G R T := zrs hZ rfl f L st σ n k w
theorem f_X3_single_75 (hZ : ZRN (ztb (tb_X3_single E d mc ms)) cut G R T Z) (f : Nat) (L : ZLV) (st : List Value) (σ : ZHp) (n k w : Nat) : Z (f + 1) 75 L st σ n k w = s_const (.int (1)) 76 L st σ n k w (zk1 cut G (Z f)) G R T := zrs hZ rfl f L st σ n k w
theorem f_X3_single_76 (hZ : ZRN (ztb (tb_X3_single E d mc ms)) cut G R T Z) (f : Nat) (L : ZLV) (st : List Value) (σ : ZHp) (n k w : Nat) : Z (f + 1) 76 L st σ n k w = s_iadd 77 L st σ n k w (zk1 cut G (Z f)) G R T := zrs hZ rfl f L st σ n k w
theorem f_X3_single_77 (hZ : ZRN (ztb (tb_X3_single E d mc ms)) cut G R T Z) (f : Nat) (L : ZLV) (st : List Value) (σ : ZHp) (n k w : Nat) : Z (f + 1) 77 L st σ n k w = s_callV E d mc ms 2 MX3_single 1 80 L st σ n k w (zk1 cut G (Z f)) G R T := zrs hZ rfl f L st σ n k w
theorem f_X3_single_80 (hZ : ZRN (ztb (tb_X3_single E d mc ms)) cut G R T Z) (f : Nat) (L : ZLV) (st : List Value) (σ : ZHp) (n k w : Nat) : Z (f + 1) 80 L st σ n k w = s_istore 3 81 L st σ n k w (zk1 cut G (Z f)) G R T := zrs hZ rfl f L st σ n k w
theorem f_X3_single_81 (hZ : ZRN (ztb (tb_X3_single E d mc ms)) cut G R T Z) (f : Nat) (L : ZLV) (st : List Value) (σ : ZHp) (n k w : Nat) : Z (f + 1) 81 L st σ n k w = s_aload 0 82 L st σ n k w (zk1 cut G (Z f)) G R T := zrs hZ rfl f L st σ n k w
theorem f_X3_single_82 (hZ : ZRN (ztb (tb_X3_single E d mc ms)) cut G R T Z) (f : Nat) (L : ZLV) (st : List Value) (σ : ZHp) (n k w : Nat) : Z (f + 1) 82 L st σ n k w = s_getf 2 2 85 L st σ n k w (zk1 cut G (Z f)) G R T := zrs hZ rfl f L st σ n k w
theorem f_X3_single_85 (hZ : ZRN (ztb (tb_X3_single E d mc ms)) cut G R T Z) (f : Nat) (L : ZLV) (st : List Value) (σ : ZHp) (n k w : Nat) : Z (f + 1) 85 L st σ n k w = s_const (.ref (zeK E 26)) 88 L st σ n k w (zk1 cut G (Z f)) G R T := zrs hZ rfl f L st σ n k w
theorem f_X3_single_88 (hZ : ZRN (ztb (tb_X3_single E d mc ms)) cut G R T Z) (f : Nat) (L : ZLV) (st : List Value) (σ : ZHp) (n k w : Nat) : Z (f + 1) 88 L st σ n k w = s_const (.int (0)) 89 L st σ n k w (zk1 cut G (Z f)) G R T := zrs hZ rfl f L st σ n k w
theorem f_X3_single_89 (hZ : ZRN (ztb (tb_X3_single E d mc ms)) cut G R T Z) (f : Nat) (L : ZLV) (st : List Value) (σ : ZHp) (n k w : Nat) : Z (f + 1) 89 L st σ n k w = s_callV E d mc ms 0 MX1_add 2 92 L st σ n k w (zk1 cut G (Z f)) G R T := zrs hZ rfl f L st σ n k w
theorem f_X3_single_92 (hZ : ZRN (ztb (tb_X3_single E d mc ms)) cut G R T Z) (f : Nat) (L : ZLV) (st : List Value) (σ : ZHp) (n k w : Nat) : Z (f + 1) 92 L st σ n k w = s_iload 3 93 L st σ n k w (zk1 cut G (Z f)) G R T := zrs hZ rfl f L st σ n k w
theorem f_X3_single_93 (hZ : ZRN (ztb (tb_X3_single E d mc ms)) cut G R T Z) (f : Nat) (L : ZLV) (st : List Value) (σ : ZHp) (n k w : Nat) : Z (f + 1) 93 L st σ n k w = s_zreturn L st σ n k w (zk1 cut G (Z f)) G R T := zrs hZ rfl f L st σ n k w
theorem f_X3_single_94 (hZ : ZRN (ztb (tb_X3_single E d mc ms)) cut G R T Z) (f : Nat) (L : ZLV) (st : List Value) (σ : ZHp) (n k w : Nat) : Z (f + 1) 94 L st σ n k w = s_aload 0 95 L st σ n k w (zk1 cut G (Z f)) G R T := zrs hZ rfl f L st σ n k w
theorem f_X3_single_95 (hZ : ZRN (ztb (tb_X3_single E d mc ms)) cut G R T Z) (f : Nat) (L : ZLV) (st : List Value) (σ : ZHp) (n k w : Nat) : Z (f + 1) 95 L st σ n k w = s_iload 1 96 L st σ n k w (zk1 cut G (Z f)) G R T := zrs hZ rfl f L st σ n k w
theorem f_X3_single_96 (hZ : ZRN (ztb (tb_X3_single E d mc ms)) cut G R T Z) (f : Nat) (L : ZLV) (st : List Value) (σ : ZHp) (n k w : Nat) : Z (f + 1) 96 L st σ n k w = s_callV E d mc ms 2 MX3_sum 1 99 L st σ n k w (zk1 cut G (Z f)) G R T := zrs hZ rfl f L st σ n k w
theorem f_X3_single_99 (hZ : ZRN (ztb (tb_X3_single E d mc ms)) cut G R T Z) (f : Nat) (L : ZLV) (st : List Value) (σ : ZHp) (n k w : Nat) : Z (f + 1) 99 L st σ n k w = s_if_eq 115 102 L st σ n k w (zk1 cut G (Z f)) G R T := zrs hZ rfl f L st σ n k w
theorem f_X3_single_102 (hZ : ZRN (ztb (tb_X3_single E d mc ms)) cut G R T Z) (f : Nat) (L : ZLV) (st : List Value) (σ : ZHp) (n k w : Nat) : Z (f + 1) 102 L st σ n k w = s_aload 0 103 L st σ n k w (zk1 cut G (Z f)) G R T := zrs hZ rfl f L st σ n k w
theorem f_X3_single_103 (hZ : ZRN (ztb (tb_X3_single E d mc ms)) cut G R T Z) (f : Nat) (L : ZLV) (st : List Value) (σ : ZHp) (n k w : Nat) : Z (f + 1) 103 L st σ n k w = s_getf 2 0 106 L st σ n k w (zk1 cut G (Z f)) G R T := zrs hZ rfl f L st σ n k w
theorem f_X3_single_106 (hZ : ZRN (ztb (tb_X3_single E d mc ms)) cut G R T Z) (f : Nat) (L : ZLV) (st : List Value) (σ : ZHp) (n k w : Nat) : Z (f + 1) 106 L st σ n k w = s_callV E d mc ms 9 MX10_sign 0 109 L st σ n k w (zk1 cut G (Z f)) G R T := zrs hZ rfl f L st σ n k w
theorem f_X3_single_109 (hZ : ZRN (ztb (tb_X3_single E d mc ms)) cut G R T Z) (f : Nat) (L : ZLV) (st : List Value) (σ : ZHp) (n k w : Nat) : Z (f + 1) 109 L st σ n k w = s_callS E d mc ms MX3_isComparison 1 112 L st σ n k w (zk1 cut G (Z f)) G R T := zrs hZ rfl f L st σ n k w
theorem f_X3_single_112 (hZ : ZRN (ztb (tb_X3_single E d mc ms)) cut G R T Z) (f : Nat) (L : ZLV) (st : List Value) (σ : ZHp) (n k w : Nat) : Z (f + 1) 112 L st σ n k w = s_if_ne 117 115 L st σ n k w (zk1 cut G (Z f)) G R T := zrs hZ rfl f L st σ n k w
theorem f_X3_single_115 (hZ : ZRN (ztb (tb_X3_single E d mc ms)) cut G R T Z) (f : Nat) (L : ZLV) (st : List Value) (σ : ZHp) (n k w : Nat) : Z (f + 1) 115 L st σ n k w = s_const (.int (0)) 116 L st σ n k w (zk1 cut G (Z f)) G R T := zrs hZ rfl f L st σ n k w
theorem f_X3_single_116 (hZ : ZRN (ztb (tb_X3_single E d mc ms)) cut G R T Z) (f : Nat) (L : ZLV) (st : List Value) (σ : ZHp) (n k w : Nat) : Z (f + 1) 116 L st σ n k w = s_zreturn L st σ n k w (zk1 cut G (Z f)) G R T := zrs hZ rfl f L st σ n k w
theorem f_X3_single_117 (hZ : ZRN (ztb (tb_X3_single E d mc ms)) cut G R T Z) (f : Nat) (L : ZLV) (st : List Value) (σ : ZHp) (n k w : Nat) : Z (f + 1) 117 L st σ n k w = s_aload 0 118 L st σ n k w (zk1 cut G (Z f)) G R T := zrs hZ rfl f L st σ n k w
theorem f_X3_single_118 (hZ : ZRN (ztb (tb_X3_single E d mc ms)) cut G R T Z) (f : Nat) (L : ZLV) (st : List Value) (σ : ZHp) (n k w : Nat) : Z (f + 1) 118 L st σ n k w = s_getf 2 0 121 L st σ n k w (zk1 cut G (Z f)) G R T := zrs hZ rfl f L st σ n k w
theorem f_X3_single_121 (hZ : ZRN (ztb (tb_X3_single E d mc ms)) cut G R T Z) (f : Nat) (L : ZLV) (st : List Value) (σ : ZHp) (n k w : Nat) : Z (f + 1) 121 L st σ n k w = s_callV E d mc ms 9 MX10_sign 0 124 L st σ n k w (zk1 cut G (Z f)) G R T := zrs hZ rfl f L st σ n k w
theorem f_X3_single_124 (hZ : ZRN (ztb (tb_X3_single E d mc ms)) cut G R T Z) (f : Nat) (L : ZLV) (st : List Value) (σ : ZHp) (n k w : Nat) : Z (f + 1) 124 L st σ n k w = s_astore 3 125 L st σ n k w (zk1 cut G (Z f)) G R T := zrs hZ rfl f L st σ n k w
theorem f_X3_single_125 (hZ : ZRN (ztb (tb_X3_single E d mc ms)) cut G R T Z) (f : Nat) (L : ZLV) (st : List Value) (σ : ZHp) (n k w : Nat) : Z (f + 1) 125 L st σ n k w = s_aload 0 126 L st σ n k w (zk1 cut G (Z f)) G R T := zrs hZ rfl f L st σ n k w
theorem f_X3_single_126 (hZ : ZRN (ztb (tb_X3_single E d mc ms)) cut G R T Z) (f : Nat) (L : ZLV) (st : List Value) (σ : ZHp) (n k w : Nat) : Z (f + 1) 126 L st σ n k w = s_getf 2 0 129 L st σ n k w (zk1 cut G (Z f)) G R T := zrs hZ rfl f L st σ n k w
theorem f_X3_single_129 (hZ : ZRN (ztb (tb_X3_single E d mc ms)) cut G R T Z) (f : Nat) (L : ZLV) (st : List Value) (σ : ZHp) (n k w : Nat) : Z (f + 1) 129 L st σ n k w = s_callV E d mc ms 9 MX10_advance 0 132 L st σ n k w (zk1 cut G (Z f)) G R T := zrs hZ rfl f L st σ n k w
theorem f_X3_single_132 (hZ : ZRN (ztb (tb_X3_single E d mc ms)) cut G R T Z) (f : Nat) (L : ZLV) (st : List Value) (σ : ZHp) (n k w : Nat) : Z (f + 1) 132 L st σ n k w = s_aload 0 133 L st σ n k w (zk1 cut G (Z f)) G R T := zrs hZ rfl f L st σ n k w
theorem f_X3_single_133 (hZ : ZRN (ztb (tb_X3_single E d mc ms)) cut G R T Z) (f : Nat) (L : ZLV) (st : List Value) (σ : ZHp) (n k w : Nat) : Z (f + 1) 133 L st σ n k w = s_iload 1 134 L st σ n k w (zk1 cut G (Z f)) G R T := zrs hZ rfl f L st σ n k w
theorem f_X3_single_134 (hZ : ZRN (ztb (tb_X3_single E d mc ms)) cut G R T Z) (f : Nat) (L : ZLV) (st : List Value) (σ : ZHp) (n k w : Nat) : Z (f + 1) 134 L st σ n k w = s_callV E d mc ms 2 MX3_sum 1 137 L st σ n k w (zk1 cut G (Z f)) G R T := zrs hZ rfl f L st σ n k w
theorem f_X3_single_137 (hZ : ZRN (ztb (tb_X3_single E d mc ms)) cut G R T Z) (f : Nat) (L : ZLV) (st : List Value) (σ : ZHp) (n k w : Nat) : Z (f + 1) 137 L st σ n k w = s_istore 4 139 L st σ n k w (zk1 cut G (Z f)) G R T := zrs hZ rfl f L st σ n k w
theorem f_X3_single_139 (hZ : ZRN (ztb (tb_X3_single E d mc ms)) cut G R T Z) (f : Nat) (L : ZLV) (st : List Value) (σ : ZHp) (n k w : Nat) : Z (f + 1) 139 L st σ n k w = s_aload 0 140 L st σ n k w (zk1 cut G (Z f)) G R T := zrs hZ rfl f L st σ n k w
theorem f_X3_single_140 (hZ : ZRN (ztb (tb_X3_single E d mc ms)) cut G R T Z) (f : Nat) (L : ZLV) (st : List Value) (σ : ZHp) (n k w : Nat) : Z (f + 1) 140 L st σ n k w = s_getf 2 2 143 L st σ n k w (zk1 cut G (Z f)) G R T := zrs hZ rfl f L st σ n k w
theorem f_X3_single_143 (hZ : ZRN (ztb (tb_X3_single E d mc ms)) cut G R T Z) (f : Nat) (L : ZLV) (st : List Value) (σ : ZHp) (n k w : Nat) : Z (f + 1) 143 L st σ n k w = s_aload 3 144 L st σ n k w (zk1 cut G (Z f)) G R T := zrs hZ rfl f L st σ n k w
theorem f_X3_single_144 (hZ : ZRN (ztb (tb_X3_single E d mc ms)) cut G R T Z) (f : Nat) (L : ZLV) (st : List Value) (σ : ZHp) (n k w : Nat) : Z (f + 1) 144 L st σ n k w = s_const (.int (0)) 145 L st σ n k w (zk1 cut G (Z f)) G R T := zrs hZ rfl f L st σ n k w
theorem f_X3_single_145 (hZ : ZRN (ztb (tb_X3_single E d mc ms)) cut G R T Z) (f : Nat) (L : ZLV) (st : List Value) (σ : ZHp) (n k w : Nat) : Z (f + 1) 145 L st σ n k w = s_callV E d mc ms 0 MX1_add 2 148 L st σ n k w (zk1 cut G (Z f)) G R T := zrs hZ rfl f L st σ n k w
theorem f_X3_single_148 (hZ : ZRN (ztb (tb_X3_single E d mc ms)) cut G R T Z) (f : Nat) (L : ZLV) (st : List Value) (σ : ZHp) (n k w : Nat) : Z (f + 1) 148 L st σ n k w = s_iload 4 150 L st σ n k w (zk1 cut G (Z f)) G R T := zrs hZ rfl f L st σ n k w
theorem f_X3_single_150 (hZ : ZRN (ztb (tb_X3_single E d mc ms)) cut G R T Z) (f : Nat) (L : ZLV) (st : List Value) (σ : ZHp) (n k w : Nat) : Z (f + 1) 150 L st σ n k w = s_zreturn L st σ n k w (zk1 cut G (Z f)) G R T := zrs hZ rfl f L st σ n k w
theorem f_X3_isComparison_0 (hZ : ZRN (ztb (tb_X3_isComparison E d mc ms)) cut G R T Z) (f : Nat) (L : ZLV) (st : List Value) (σ : ZHp) (n k w : Nat) : Z (f + 1) 0 L st σ n k w = s_aload 0 1 L st σ n k w (zk1 cut G (Z f)) G R T := zrs hZ rfl f L st σ n k w
theorem f_X3_isComparison_1 (hZ : ZRN (ztb (tb_X3_isComparison E d mc ms)) cut G R T Z) (f : Nat) (L : ZLV) (st : List Value) (σ : ZHp) (n k w : Nat) : Z (f + 1) 1 L st σ n k w = s_const (.ref (zeK E 41)) 4 L st σ n k w (zk1 cut G (Z f)) G R T := zrs hZ rfl f L st σ n k w
theorem f_X3_isComparison_4 (hZ : ZRN (ztb (tb_X3_isComparison E d mc ms)) cut G R T Z) (f : Nat) (L : ZLV) (st : List Value) (σ : ZHp) (n k w : Nat) : Z (f + 1) 4 L st σ n k w = s_acmp_eq 35 7 L st σ n k w (zk1 cut G (Z f)) G R T := zrs hZ rfl f L st σ n k w
theorem f_X3_isComparison_7 (hZ : ZRN (ztb (tb_X3_isComparison E d mc ms)) cut G R T Z) (f : Nat) (L : ZLV) (st : List Value) (σ : ZHp) (n k w : Nat) : Z (f + 1) 7 L st σ n k w = s_aload 0 8 L st σ n k w (zk1 cut G (Z f)) G R T := zrs hZ rfl f L st σ n k w
theorem f_X3_isComparison_8 (hZ : ZRN (ztb (tb_X3_isComparison E d mc ms)) cut G R T Z) (f : Nat) (L : ZLV) (st : List Value) (σ : ZHp) (n k w : Nat) : Z (f + 1) 8 L st σ n k w = s_const (.ref (zeK E 42)) 11 L st σ n k w (zk1 cut G (Z f)) G R T := zrs hZ rfl f L st σ n k w
theorem f_X3_isComparison_11 (hZ : ZRN (ztb (tb_X3_isComparison E d mc ms)) cut G R T Z) (f : Nat) (L : ZLV) (st : List Value) (σ : ZHp) (n k w : Nat) : Z (f + 1) 11 L st σ n k w = s_acmp_eq 35 14 L st σ n k w (zk1 cut G (Z f)) G R T := zrs hZ rfl f L st σ n k w
theorem f_X3_isComparison_14 (hZ : ZRN (ztb (tb_X3_isComparison E d mc ms)) cut G R T Z) (f : Nat) (L : ZLV) (st : List Value) (σ : ZHp) (n k w : Nat) : Z (f + 1) 14 L st σ n k w = s_aload 0 15 L st σ n k w (zk1 cut G (Z f)) G R T := zrs hZ rfl f L st σ n k w
theorem f_X3_isComparison_15 (hZ : ZRN (ztb (tb_X3_isComparison E d mc ms)) cut G R T Z) (f : Nat) (L : ZLV) (st : List Value) (σ : ZHp) (n k w : Nat) : Z (f + 1) 15 L st σ n k w = s_const (.ref (zeK E 43)) 18 L st σ n k w (zk1 cut G (Z f)) G R T := zrs hZ rfl f L st σ n k w
theorem f_X3_isComparison_18 (hZ : ZRN (ztb (tb_X3_isComparison E d mc ms)) cut G R T Z) (f : Nat) (L : ZLV) (st : List Value) (σ : ZHp) (n k w : Nat) : Z (f + 1) 18 L st σ n k w = s_acmp_eq 35 21 L st σ n k w (zk1 cut G (Z f)) G R T := zrs hZ rfl f L st σ n k w
theorem f_X3_isComparison_21 (hZ : ZRN (ztb (tb_X3_isComparison E d mc ms)) cut G R T Z) (f : Nat) (L : ZLV) (st : List Value) (σ : ZHp) (n k w : Nat) : Z (f + 1) 21 L st σ n k w = s_aload 0 22 L st σ n k w (zk1 cut G (Z f)) G R T := zrs hZ rfl f L st σ n k w
theorem f_X3_isComparison_22 (hZ : ZRN (ztb (tb_X3_isComparison E d mc ms)) cut G R T Z) (f : Nat) (L : ZLV) (st : List Value) (σ : ZHp) (n k w : Nat) : Z (f + 1) 22 L st σ n k w = s_const (.ref (zeK E 44)) 25 L st σ n k w (zk1 cut G (Z f)) G R T := zrs hZ rfl f L st σ n k w
theorem f_X3_isComparison_25 (hZ : ZRN (ztb (tb_X3_isComparison E d mc ms)) cut G R T Z) (f : Nat) (L : ZLV) (st : List Value) (σ : ZHp) (n k w : Nat) : Z (f + 1) 25 L st σ n k w = s_acmp_eq 35 28 L st σ n k w (zk1 cut G (Z f)) G R T := zrs hZ rfl f L st σ n k w
theorem f_X3_isComparison_28 (hZ : ZRN (ztb (tb_X3_isComparison E d mc ms)) cut G R T Z) (f : Nat) (L : ZLV) (st : List Value) (σ : ZHp) (n k w : Nat) : Z (f + 1) 28 L st σ n k w = s_aload 0 29 L st σ n k w (zk1 cut G (Z f)) G R T := zrs hZ rfl f L st σ n k w
theorem f_X3_isComparison_29 (hZ : ZRN (ztb (tb_X3_isComparison E d mc ms)) cut G R T Z) (f : Nat) (L : ZLV) (st : List Value) (σ : ZHp) (n k w : Nat) : Z (f + 1) 29 L st σ n k w = s_const (.ref (zeK E 45)) 32 L st σ n k w (zk1 cut G (Z f)) G R T := zrs hZ rfl f L st σ n k w
theorem f_X3_isComparison_32 (hZ : ZRN (ztb (tb_X3_isComparison E d mc ms)) cut G R T Z) (f : Nat) (L : ZLV) (st : List Value) (σ : ZHp) (n k w : Nat) : Z (f + 1) 32 L st σ n k w = s_acmp_ne 39 35 L st σ n k w (zk1 cut G (Z f)) G R T := zrs hZ rfl f L st σ n k w
theorem f_X3_isComparison_35 (hZ : ZRN (ztb (tb_X3_isComparison E d mc ms)) cut G R T Z) (f : Nat) (L : ZLV) (st : List Value) (σ : ZHp) (n k w : Nat) : Z (f + 1) 35 L st σ n k w = s_const (.int (1)) 36 L st σ n k w (zk1 cut G (Z f)) G R T := zrs hZ rfl f L st σ n k w
theorem f_X3_isComparison_36 (hZ : ZRN (ztb (tb_X3_isComparison E d mc ms)) cut G R T Z) (f : Nat) (L : ZLV) (st : List Value) (σ : ZHp) (n k w : Nat) : Z (f + 1) 36 L st σ n k w = s_goto 40 L st σ n k w (zk1 cut G (Z f)) G R T := zrs hZ rfl f L st σ n k w
theorem f_X3_isComparison_39 (hZ : ZRN (ztb (tb_X3_isComparison E d mc ms)) cut G R T Z) (f : Nat) (L : ZLV) (st : List Value) (σ : ZHp) (n k w : Nat) : Z (f + 1) 39 L st σ n k w = s_const (.int (0)) 40 L st σ n k w (zk1 cut G (Z f)) G R T := zrs hZ rfl f L st σ n k w
theorem f_X3_isComparison_40 (hZ : ZRN (ztb (tb_X3_isComparison E d mc ms)) cut G R T Z) (f : Nat) (L : ZLV) (st : List Value) (σ : ZHp) (n k w : Nat) : Z (f + 1) 40 L st σ n k w = s_zreturn L st σ n k w (zk1 cut G (Z f)) G R T := zrs hZ rfl f L st σ n k w
theorem f_X3_sum_0 (hZ : ZRN (ztb (tb_X3_sum E d mc ms)) cut G R T Z) (f : Nat) (L : ZLV) (st : List Value) (σ : ZHp) (n k w : Nat) : Z (f + 1) 0 L st σ n k w = s_aload 0 1 L st σ n k w (zk1 cut G (Z f)) G R T := zrs hZ rfl f L st σ n k w
theorem f_X3_sum_1 (hZ : ZRN (ztb (tb_X3_sum E d mc ms)) cut G R T Z) (f : Nat) (L : ZLV) (st : List Value) (σ : ZHp) (n k w : Nat) : Z (f + 1) 1 L st σ n k w = s_iload 1 2 L st σ n k w (zk1 cut G (Z f)) G R T := zrs hZ rfl f L st σ n k w
theorem f_X3_sum_2 (hZ : ZRN (ztb (tb_X3_sum E d mc ms)) cut G R T Z) (f : Nat) (L : ZLV) (st : List Value) (σ : ZHp) (n k w : Nat) : Z (f + 1) 2 L st σ n k w = s_callV E d mc ms 2 MX3_product 1 5 L st σ n k w (zk1 cut G (Z f)) G R T := zrs hZ rfl f L st σ n k w
theorem f_X3_sum_5 (hZ : ZRN (ztb (tb_X3_sum E d mc ms)) cut G R T Z) (f : Nat) (L : ZLV) (st : List Value) (σ : ZHp) (n k w : Nat) : Z (f + 1) 5 L st σ n k w = s_istore 2 6 L st σ n k w (zk1 cut G (Z f)) G R T := zrs hZ rfl f L st σ n k w
theorem f_X3_sum_6 (hZ : ZRN (ztb (tb_X3_sum E d mc ms)) cut G R T Z) (f : Nat) (L : ZLV) (st : List Value) (σ : ZHp) (n k w : Nat) : Z (f + 1) 6 L st σ n k w = s_const (.int (0)) 7 L st σ n k w (zk1 cut G (Z f)) G R T := zrs hZ rfl f L st σ n k w
theorem f_X3_sum_7 (hZ : ZRN (ztb (tb_X3_sum E d mc ms)) cut G R T Z) (f : Nat) (L : ZLV) (st : List Value) (σ : ZHp) (n k w : Nat) : Z (f + 1) 7 L st σ n k w = s_istore 3 8 L st σ n k w (zk1 cut G (Z f)) G R T := zrs hZ rfl f L st σ n k w
theorem f_X3_sum_8 (hZ : ZRN (ztb (tb_X3_sum E d mc ms)) cut G R T Z) (f : Nat) (L : ZLV) (st : List Value) (σ : ZHp) (n k w : Nat) : Z (f + 1) 8 L st σ n k w = s_iload 3 9 L st σ n k w (zk1 cut G (Z f)) G R T := zrs hZ rfl f L st σ n k w
theorem f_X3_sum_9 (hZ : ZRN (ztb (tb_X3_sum E d mc ms)) cut G R T Z) (f : Nat) (L : ZLV) (st : List Value) (σ : ZHp) (n k w : Nat) : Z (f + 1) 9 L st σ n k w = s_const (.int (400)) 12 L st σ n k w (zk1 cut G (Z f)) G R T := zrs hZ rfl f L st σ n k w
theorem f_X3_sum_12 (hZ : ZRN (ztb (tb_X3_sum E d mc ms)) cut G R T Z) (f : Nat) (L : ZLV) (st : List Value) (σ : ZHp) (n k w : Nat) : Z (f + 1) 12 L st σ n k w = s_icmp_ge 73 15 L st σ n k w (zk1 cut G (Z f)) G R T := zrs hZ rfl f L st σ n k w
theorem f_X3_sum_15 (hZ : ZRN (ztb (tb_X3_sum E d mc ms)) cut G R T Z) (f : Nat) (L : ZLV) (st : List Value) (σ : ZHp) (n k w : Nat) : Z (f + 1) 15 L st σ n k w = s_iload 2 16 L st σ n k w (zk1 cut G (Z f)) G R T := zrs hZ rfl f L st σ n k w
theorem f_X3_sum_16 (hZ : ZRN (ztb (tb_X3_sum E d mc ms)) cut G R T Z) (f : Nat) (L : ZLV) (st : List Value) (σ : ZHp) (n k w : Nat) : Z (f + 1) 16 L st σ n k w = s_if_eq 73 19 L st σ n k w (zk1 cut G (Z f)) G R T := zrs hZ rfl f L st σ n k w
theorem f_X3_sum_19 (hZ : ZRN (ztb (tb_X3_sum E d mc ms)) cut G R T Z) (f : Nat) (L : ZLV) (st : List Value) (σ : ZHp) (n k w : Nat) : Z (f + 1) 19 L st σ n k w = s_aload 0 20 L st σ n k w (zk1 cut G (Z f)) G R T := zrs hZ rfl f L st σ n k w
theorem f_X3_sum_20 (hZ : ZRN (ztb (tb_X3_sum E d mc ms)) cut G R T Z) (f : Nat) (L : ZLV) (st : List Value) (σ : ZHp) (n k w : Nat) : Z (f + 1) 20 L st σ n k w = s_getf 2 0 23 L st σ n k w (zk1 cut G (Z f)) G R T := zrs hZ rfl f L st σ n k w
theorem f_X3_sum_23 (hZ : ZRN (ztb (tb_X3_sum E d mc ms)) cut G R T Z) (f : Nat) (L : ZLV) (st : List Value) (σ : ZHp) (n k w : Nat) : Z (f + 1) 23 L st σ n k w = s_const (.ref (zeK E 37)) 26 L st σ n k w (zk1 cut G (Z f)) G R T := zrs hZ rfl f L st σ n k w
theorem f_X3_sum_26 (hZ : ZRN (ztb (tb_X3_sum E d mc ms)) cut G R T Z) (f : Nat) (L : ZLV) (st : List Value) (σ : ZHp) (n k w : Nat) : Z (f + 1) 26 L st σ n k w = s_const (.ref (zeK E 38)) 29 L st σ n k w (zk1 cut G (Z f)) G R T := zrs hZ rfl f L st σ n k w
theorem f_X3_sum_29 (hZ : ZRN (ztb (tb_X3_sum E d mc ms)) cut G R T Z) (f : Nat) (L : ZLV) (st : List Value) (σ : ZHp) (n k w : Nat) : Z (f + 1) 29 L st σ n k w = s_callV E d mc ms 9 MX10_isEither 2 32 L st σ n k w (zk1 cut G (Z f)) G R T := zrs hZ rfl f L st σ n k w
theorem f_X3_sum_32 (hZ : ZRN (ztb (tb_X3_sum E d mc ms)) cut G R T Z) (f : Nat) (L : ZLV) (st : List Value) (σ : ZHp) (n k w : Nat) : Z (f + 1) 32 L st σ n k w = s_if_eq 73 35 L st σ n k w (zk1 cut G (Z f)) G R T := zrs hZ rfl f L st σ n k w
theorem f_X3_sum_35 (hZ : ZRN (ztb (tb_X3_sum E d mc ms)) cut G R T Z) (f : Nat) (L : ZLV) (st : List Value) (σ : ZHp) (n k w : Nat) : Z (f + 1) 35 L st σ n k w = s_aload 0 36 L st σ n k w (zk1 cut G (Z f)) G R T := zrs hZ rfl f L st σ n k w
theorem f_X3_sum_36 (hZ : ZRN (ztb (tb_X3_sum E d mc ms)) cut G R T Z) (f : Nat) (L : ZLV) (st : List Value) (σ : ZHp) (n k w : Nat) : Z (f + 1) 36 L st σ n k w = s_getf 2 0 39 L st σ n k w (zk1 cut G (Z f)) G R T := zrs hZ rfl f L st σ n k w
theorem f_X3_sum_39 (hZ : ZRN (ztb (tb_X3_sum E d mc ms)) cut G R T Z) (f : Nat) (L : ZLV) (st : List Value) (σ : ZHp) (n k w : Nat) : Z (f + 1) 39 L st σ n k w = s_callV E d mc ms 9 MX10_sign 0 42 L st σ n k w (zk1 cut G (Z f)) G R T := zrs hZ rfl f L st σ n k w
theorem f_X3_sum_42 (hZ : ZRN (ztb (tb_X3_sum E d mc ms)) cut G R T Z) (f : Nat) (L : ZLV) (st : List Value) (σ : ZHp) (n k w : Nat) : Z (f + 1) 42 L st σ n k w = s_astore 4 44 L st σ n k w (zk1 cut G (Z f)) G R T := zrs hZ rfl f L st σ n k w
theorem f_X3_sum_44 (hZ : ZRN (ztb (tb_X3_sum E d mc ms)) cut G R T Z) (f : Nat) (L : ZLV) (st : List Value) (σ : ZHp) (n k w : Nat) : Z (f + 1) 44 L st σ n k w = s_aload 0 45 L st σ n k w (zk1 cut G (Z f)) G R T := zrs hZ rfl f L st σ n k w
theorem f_X3_sum_45 (hZ : ZRN (ztb (tb_X3_sum E d mc ms)) cut G R T Z) (f : Nat) (L : ZLV) (st : List Value) (σ : ZHp) (n k w : Nat) : Z (f + 1) 45 L st σ n k w = s_getf 2 0 48 L st σ n k w (zk1 cut G (Z f)) G R T := zrs hZ rfl f L st σ n k w
theorem f_X3_sum_48 (hZ : ZRN (ztb (tb_X3_sum E d mc ms)) cut G R T Z) (f : Nat) (L : ZLV) (st : List Value) (σ : ZHp) (n k w : Nat) : Z (f + 1) 48 L st σ n k w = s_callV E d mc ms 9 MX10_advance 0 51 L st σ n k w (zk1 cut G (Z f)) G R T := zrs hZ rfl f L st σ n k w
theorem f_X3_sum_51 (hZ : ZRN (ztb (tb_X3_sum E d mc ms)) cut G R T Z) (f : Nat) (L : ZLV) (st : List Value) (σ : ZHp) (n k w : Nat) : Z (f + 1) 51 L st σ n k w = s_aload 0 52 L st σ n k w (zk1 cut G (Z f)) G R T := zrs hZ rfl f L st σ n k w
theorem f_X3_sum_52 (hZ : ZRN (ztb (tb_X3_sum E d mc ms)) cut G R T Z) (f : Nat) (L : ZLV) (st : List Value) (σ : ZHp) (n k w : Nat) : Z (f + 1) 52 L st σ n k w = s_iload 1 53 L st σ n k w (zk1 cut G (Z f)) G R T := zrs hZ rfl f L st σ n k w
theorem f_X3_sum_53 (hZ : ZRN (ztb (tb_X3_sum E d mc ms)) cut G R T Z) (f : Nat) (L : ZLV) (st : List Value) (σ : ZHp) (n k w : Nat) : Z (f + 1) 53 L st σ n k w = s_callV E d mc ms 2 MX3_product 1 56 L st σ n k w (zk1 cut G (Z f)) G R T := zrs hZ rfl f L st σ n k w
theorem f_X3_sum_56 (hZ : ZRN (ztb (tb_X3_sum E d mc ms)) cut G R T Z) (f : Nat) (L : ZLV) (st : List Value) (σ : ZHp) (n k w : Nat) : Z (f + 1) 56 L st σ n k w = s_istore 2 57 L st σ n k w (zk1 cut G (Z f)) G R T := zrs hZ rfl f L st σ n k w
theorem f_X3_sum_57 (hZ : ZRN (ztb (tb_X3_sum E d mc ms)) cut G R T Z) (f : Nat) (L : ZLV) (st : List Value) (σ : ZHp) (n k w : Nat) : Z (f + 1) 57 L st σ n k w = s_aload 0 58 L st σ n k w (zk1 cut G (Z f)) G R T := zrs hZ rfl f L st σ n k w
theorem f_X3_sum_58 (hZ : ZRN (ztb (tb_X3_sum E d mc ms)) cut G R T Z) (f : Nat) (L : ZLV) (st : List Value) (σ : ZHp) (n k w : Nat) : Z (f + 1) 58 L st σ n k w = s_getf 2 2 61 L st σ n k w (zk1 cut G (Z f)) G R T := zrs hZ rfl f L st σ n k w
theorem f_X3_sum_61 (hZ : ZRN (ztb (tb_X3_sum E d mc ms)) cut G R T Z) (f : Nat) (L : ZLV) (st : List Value) (σ : ZHp) (n k w : Nat) : Z (f + 1) 61 L st σ n k w = s_aload 4 63 L st σ n k w (zk1 cut G (Z f)) G R T := zrs hZ rfl f L st σ n k w
theorem f_X3_sum_63 (hZ : ZRN (ztb (tb_X3_sum E d mc ms)) cut G R T Z) (f : Nat) (L : ZLV) (st : List Value) (σ : ZHp) (n k w : Nat) : Z (f + 1) 63 L st σ n k w = s_const (.int (0)) 64 L st σ n k w (zk1 cut G (Z f)) G R T := zrs hZ rfl f L st σ n k w
theorem f_X3_sum_64 (hZ : ZRN (ztb (tb_X3_sum E d mc ms)) cut G R T Z) (f : Nat) (L : ZLV) (st : List Value) (σ : ZHp) (n k w : Nat) : Z (f + 1) 64 L st σ n k w = s_callV E d mc ms 0 MX1_add 2 67 L st σ n k w (zk1 cut G (Z f)) G R T := zrs hZ rfl f L st σ n k w
theorem f_X3_sum_67 (hZ : ZRN (ztb (tb_X3_sum E d mc ms)) cut G R T Z) (f : Nat) (L : ZLV) (st : List Value) (σ : ZHp) (n k w : Nat) : Z (f + 1) 67 L st σ n k w = s_iinc 3 (1) 70 L st σ n k w (zk1 cut G (Z f)) G R T := zrs hZ rfl f L st σ n k w
theorem f_X3_sum_70 (hZ : ZRN (ztb (tb_X3_sum E d mc ms)) cut G R T Z) (f : Nat) (L : ZLV) (st : List Value) (σ : ZHp) (n k w : Nat) : Z (f + 1) 70 L st σ n k w = s_goto 8 L st σ n k w (zk1 cut G (Z f)) G R T := zrs hZ rfl f L st σ n k w
theorem f_X3_sum_73 (hZ : ZRN (ztb (tb_X3_sum E d mc ms)) cut G R T Z) (f : Nat) (L : ZLV) (st : List Value) (σ : ZHp) (n k w : Nat) : Z (f + 1) 73 L st σ n k w = s_iload 2 74 L st σ n k w (zk1 cut G (Z f)) G R T := zrs hZ rfl f L st σ n k w
theorem f_X3_sum_74 (hZ : ZRN (ztb (tb_X3_sum E d mc ms)) cut G R T Z) (f : Nat) (L : ZLV) (st : List Value) (σ : ZHp) (n k w : Nat) : Z (f + 1) 74 L st σ n k w = s_zreturn L st σ n k w (zk1 cut G (Z f)) G R T := zrs hZ rfl f L st σ n k w
theorem f_X3_product_0 (hZ : ZRN (ztb (tb_X3_product E d mc ms)) cut G R T Z) (f : Nat) (L : ZLV) (st : List Value) (σ : ZHp) (n k w : Nat) : Z (f + 1) 0 L st σ n k w = s_aload 0 1 L st σ n k w (zk1 cut G (Z f)) G R T := zrs hZ rfl f L st σ n k w
theorem f_X3_product_1 (hZ : ZRN (ztb (tb_X3_product E d mc ms)) cut G R T Z) (f : Nat) (L : ZLV) (st : List Value) (σ : ZHp) (n k w : Nat) : Z (f + 1) 1 L st σ n k w = s_iload 1 2 L st σ n k w (zk1 cut G (Z f)) G R T := zrs hZ rfl f L st σ n k w
theorem f_X3_product_2 (hZ : ZRN (ztb (tb_X3_product E d mc ms)) cut G R T Z) (f : Nat) (L : ZLV) (st : List Value) (σ : ZHp) (n k w : Nat) : Z (f + 1) 2 L st σ n k w = s_callV E d mc ms 2 MX3_value 1 5 L st σ n k w (zk1 cut G (Z f)) G R T := zrs hZ rfl f L st σ n k w
theorem f_X3_product_5 (hZ : ZRN (ztb (tb_X3_product E d mc ms)) cut G R T Z) (f : Nat) (L : ZLV) (st : List Value) (σ : ZHp) (n k w : Nat) : Z (f + 1) 5 L st σ n k w = s_istore 2 6 L st σ n k w (zk1 cut G (Z f)) G R T := zrs hZ rfl f L st σ n k w
theorem f_X3_product_6 (hZ : ZRN (ztb (tb_X3_product E d mc ms)) cut G R T Z) (f : Nat) (L : ZLV) (st : List Value) (σ : ZHp) (n k w : Nat) : Z (f + 1) 6 L st σ n k w = s_const (.int (0)) 7 L st σ n k w (zk1 cut G (Z f)) G R T := zrs hZ rfl f L st σ n k w
theorem f_X3_product_7 (hZ : ZRN (ztb (tb_X3_product E d mc ms)) cut G R T Z) (f : Nat) (L : ZLV) (st : List Value) (σ : ZHp) (n k w : Nat) : Z (f + 1) 7 L st σ n k w = s_istore 3 8 L st σ n k w (zk1 cut G (Z f)) G R T := zrs hZ rfl f L st σ n k w
theorem f_X3_product_8 (hZ : ZRN (ztb (tb_X3_product E d mc ms)) cut G R T Z) (f : Nat) (L : ZLV) (st : List Value) (σ : ZHp) (n k w : Nat) : Z (f + 1) 8 L st σ n k w = s_iload 3 9 L st σ n k w (zk1 cut G (Z f)) G R T := zrs hZ rfl f L st σ n k w
theorem f_X3_product_9 (hZ : ZRN (ztb (tb_X3_product E d mc ms)) cut G R T Z) (f : Nat) (L : ZLV) (st : List Value) (σ : ZHp) (n k w : Nat) : Z (f + 1) 9 L st σ n k w = s_const (.int (400)) 12 L st σ n k w (zk1 cut G (Z f)) G R T := zrs hZ rfl f L st σ n k w
theorem f_X3_product_12 (hZ : ZRN (ztb (tb_X3_product E d mc ms)) cut G R T Z) (f : Nat) (L : ZLV) (st : List Value) (σ : ZHp) (n k w : Nat) : Z (f + 1) 12 L st σ n k w = s_icmp_ge 73 15 L st σ n k w (zk1 cut G (Z f)) G R T := zrs hZ rfl f L st σ n k w
theorem f_X3_product_15 (hZ : ZRN (ztb (tb_X3_product E d mc ms)) cut G R T Z) (f : Nat) (L : ZLV) (st : List Value) (σ : ZHp) (n k w : Nat) : Z (f + 1) 15 L st σ n k w = s_iload 2 16 L st σ n k w (zk1 cut G (Z f)) G R T := zrs hZ rfl f L st σ n k w
theorem f_X3_product_16 (hZ : ZRN (ztb (tb_X3_product E d mc ms)) cut G R T Z) (f : Nat) (L : ZLV) (st : List Value) (σ : ZHp) (n k w : Nat) : Z (f + 1) 16 L st σ n k w = s_if_eq 73 19 L st σ n k w (zk1 cut G (Z f)) G R T := zrs hZ rfl f L st σ n k w
theorem f_X3_product_19 (hZ : ZRN (ztb (tb_X3_product E d mc ms)) cut G R T Z) (f : Nat) (L : ZLV) (st : List Value) (σ : ZHp) (n k w : Nat) : Z (f + 1) 19 L st σ n k w = s_aload 0 20 L st σ n k w (zk1 cut G (Z f)) G R T := zrs hZ rfl f L st σ n k w
theorem f_X3_product_20 (hZ : ZRN (ztb (tb_X3_product E d mc ms)) cut G R T Z) (f : Nat) (L : ZLV) (st : List Value) (σ : ZHp) (n k w : Nat) : Z (f + 1) 20 L st σ n k w = s_getf 2 0 23 L st σ n k w (zk1 cut G (Z f)) G R T := zrs hZ rfl f L st σ n k w
theorem f_X3_product_23 (hZ : ZRN (ztb (tb_X3_product E d mc ms)) cut G R T Z) (f : Nat) (L : ZLV) (st : List Value) (σ : ZHp) (n k w : Nat) : Z (f + 1) 23 L st σ n k w = s_const (.ref (zeK E 39)) 26 L st σ n k w (zk1 cut G (Z f)) G R T := zrs hZ rfl f L st σ n k w
theorem f_X3_product_26 (hZ : ZRN (ztb (tb_X3_product E d mc ms)) cut G R T Z) (f : Nat) (L : ZLV) (st : List Value) (σ : ZHp) (n k w : Nat) : Z (f + 1) 26 L st σ n k w = s_const (.ref (zeK E 40)) 29 L st σ n k w (zk1 cut G (Z f)) G R T := zrs hZ rfl f L st σ n k w
theorem f_X3_product_29 (hZ : ZRN (ztb (tb_X3_product E d mc ms)) cut G R T Z) (f : Nat) (L : ZLV) (st : List Value) (σ : ZHp) (n k w : Nat) : Z (f + 1) 29 L st σ n k w = s_callV E d mc ms 9 MX10_isEither 2 32 L st σ n k w (zk1 cut G (Z f)) G R T := zrs hZ rfl f L st σ n k w
theorem f_X3_product_32 (hZ : ZRN (ztb (tb_X3_product E d mc ms)) cut G R T Z) (f : Nat) (L : ZLV) (st : List Value) (σ : ZHp) (n k w : Nat) : Z (f + 1) 32 L st σ n k w = s_if_eq 73 35 L st σ n k w (zk1 cut G (Z f)) G R T := zrs hZ rfl f L st σ n k w
theorem f_X3_product_35 (hZ : ZRN (ztb (tb_X3_product E d mc ms)) cut G R T Z) (f : Nat) (L : ZLV) (st : List Value) (σ : ZHp) (n k w : Nat) : Z (f + 1) 35 L st σ n k w = s_aload 0 36 L st σ n k w (zk1 cut G (Z f)) G R T := zrs hZ rfl f L st σ n k w
theorem f_X3_product_36 (hZ : ZRN (ztb (tb_X3_product E d mc ms)) cut G R T Z) (f : Nat) (L : ZLV) (st : List Value) (σ : ZHp) (n k w : Nat) : Z (f + 1) 36 L st σ n k w = s_getf 2 0 39 L st σ n k w (zk1 cut G (Z f)) G R T := zrs hZ rfl f L st σ n k w
theorem f_X3_product_39 (hZ : ZRN (ztb (tb_X3_product E d mc ms)) cut G R T Z) (f : Nat) (L : ZLV) (st : List Value) (σ : ZHp) (n k w : Nat) : Z (f + 1) 39 L st σ n k w = s_callV E d mc ms 9 MX10_sign 0 42 L st σ n k w (zk1 cut G (Z f)) G R T := zrs hZ rfl f L st σ n k w
theorem f_X3_product_42 (hZ : ZRN (ztb (tb_X3_product E d mc ms)) cut G R T Z) (f : Nat) (L : ZLV) (st : List Value) (σ : ZHp) (n k w : Nat) : Z (f + 1) 42 L st σ n k w = s_astore 4 44 L st σ n k w (zk1 cut G (Z f)) G R T := zrs hZ rfl f L st σ n k w
theorem f_X3_product_44 (hZ : ZRN (ztb (tb_X3_product E d mc ms)) cut G R T Z) (f : Nat) (L : ZLV) (st : List Value) (σ : ZHp) (n k w : Nat) : Z (f + 1) 44 L st σ n k w = s_aload 0 45 L st σ n k w (zk1 cut G (Z f)) G R T := zrs hZ rfl f L st σ n k w
theorem f_X3_product_45 (hZ : ZRN (ztb (tb_X3_product E d mc ms)) cut G R T Z) (f : Nat) (L : ZLV) (st : List Value) (σ : ZHp) (n k w : Nat) : Z (f + 1) 45 L st σ n k w = s_getf 2 0 48 L st σ n k w (zk1 cut G (Z f)) G R T := zrs hZ rfl f L st σ n k w
theorem f_X3_product_48 (hZ : ZRN (ztb (tb_X3_product E d mc ms)) cut G R T Z) (f : Nat) (L : ZLV) (st : List Value) (σ : ZHp) (n k w : Nat) : Z (f + 1) 48 L st σ n k w = s_callV E d mc ms 9 MX10_advance 0 51 L st σ n k w (zk1 cut G (Z f)) G R T := zrs hZ rfl f L st σ n k w
theorem f_X3_product_51 (hZ : ZRN (ztb (tb_X3_product E d mc ms)) cut G R T Z) (f : Nat) (L : ZLV) (st : List Value) (σ : ZHp) (n k w : Nat) : Z (f + 1) 51 L st σ n k w = s_aload 0 52 L st σ n k w (zk1 cut G (Z f)) G R T := zrs hZ rfl f L st σ n k w
theorem f_X3_product_52 (hZ : ZRN (ztb (tb_X3_product E d mc ms)) cut G R T Z) (f : Nat) (L : ZLV) (st : List Value) (σ : ZHp) (n k w : Nat) : Z (f + 1) 52 L st σ n k w = s_iload 1 53 L st σ n k w (zk1 cut G (Z f)) G R T := zrs hZ rfl f L st σ n k w
theorem f_X3_product_53 (hZ : ZRN (ztb (tb_X3_product E d mc ms)) cut G R T Z) (f : Nat) (L : ZLV) (st : List Value) (σ : ZHp) (n k w : Nat) : Z (f + 1) 53 L st σ n k w = s_callV E d mc ms 2 MX3_value 1 56 L st σ n k w (zk1 cut G (Z f)) G R T := zrs hZ rfl f L st σ n k w
theorem f_X3_product_56 (hZ : ZRN (ztb (tb_X3_product E d mc ms)) cut G R T Z) (f : Nat) (L : ZLV) (st : List Value) (σ : ZHp) (n k w : Nat) : Z (f + 1) 56 L st σ n k w = s_istore 2 57 L st σ n k w (zk1 cut G (Z f)) G R T := zrs hZ rfl f L st σ n k w
theorem f_X3_product_57 (hZ : ZRN (ztb (tb_X3_product E d mc ms)) cut G R T Z) (f : Nat) (L : ZLV) (st : List Value) (σ : ZHp) (n k w : Nat) : Z (f + 1) 57 L st σ n k w = s_aload 0 58 L st σ n k w (zk1 cut G (Z f)) G R T := zrs hZ rfl f L st σ n k w
theorem f_X3_product_58 (hZ : ZRN (ztb (tb_X3_product E d mc ms)) cut G R T Z) (f : Nat) (L : ZLV) (st : List Value) (σ : ZHp) (n k w : Nat) : Z (f + 1) 58 L st σ n k w = s_getf 2 2 61 L st σ n k w (zk1 cut G (Z f)) G R T := zrs hZ rfl f L st σ n k w
theorem f_X3_product_61 (hZ : ZRN (ztb (tb_X3_product E d mc ms)) cut G R T Z) (f : Nat) (L : ZLV) (st : List Value) (σ : ZHp) (n k w : Nat) : Z (f + 1) 61 L st σ n k w = s_aload 4 63 L st σ n k w (zk1 cut G (Z f)) G R T := zrs hZ rfl f L st σ n k w
theorem f_X3_product_63 (hZ : ZRN (ztb (tb_X3_product E d mc ms)) cut G R T Z) (f : Nat) (L : ZLV) (st : List Value) (σ : ZHp) (n k w : Nat) : Z (f + 1) 63 L st σ n k w = s_const (.int (0)) 64 L st σ n k w (zk1 cut G (Z f)) G R T := zrs hZ rfl f L st σ n k w
theorem f_X3_product_64 (hZ : ZRN (ztb (tb_X3_product E d mc ms)) cut G R T Z) (f : Nat) (L : ZLV) (st : List Value) (σ : ZHp) (n k w : Nat) : Z (f + 1) 64 L st σ n k w = s_callV E d mc ms 0 MX1_add 2 67 L st σ n k w (zk1 cut G (Z f)) G R T := zrs hZ rfl f L st σ n k w
theorem f_X3_product_67 (hZ : ZRN (ztb (tb_X3_product E d mc ms)) cut G R T Z) (f : Nat) (L : ZLV) (st : List Value) (σ : ZHp) (n k w : Nat) : Z (f + 1) 67 L st σ n k w = s_iinc 3 (1) 70 L st σ n k w (zk1 cut G (Z f)) G R T := zrs hZ rfl f L st σ n k w
theorem f_X3_product_70 (hZ : ZRN (ztb (tb_X3_product E d mc ms)) cut G R T Z) (f : Nat) (L : ZLV) (st : List Value) (σ : ZHp) (n k w : Nat) : Z (f + 1) 70 L st σ n k w = s_goto 8 L st σ n k w (zk1 cut G (Z f)) G R T := zrs hZ rfl f L st σ n k w
theorem f_X3_product_73 (hZ : ZRN (ztb (tb_X3_product E d mc ms)) cut G R T Z) (f : Nat) (L : ZLV) (st : List Value) (σ : ZHp) (n k w : Nat) : Z (f + 1) 73 L st σ n k w = s_iload 2 74 L st σ n k w (zk1 cut G (Z f)) G R T := zrs hZ rfl f L st σ n k w
theorem f_X3_product_74 (hZ : ZRN (ztb (tb_X3_product E d mc ms)) cut G R T Z) (f : Nat) (L : ZLV) (st : List Value) (σ : ZHp) (n k w : Nat) : Z (f + 1) 74 L st σ n k w = s_zreturn L st σ n k w (zk1 cut G (Z f)) G R T := zrs hZ rfl f L st σ n k w
theorem f_X3_value_0 (hZ : ZRN (ztb (tb_X3_value E d mc ms)) cut G R T Z) (f : Nat) (L : ZLV) (st : List Value) (σ : ZHp) (n k w : Nat) : Z (f + 1) 0 L st σ n k w = s_aload 0 1 L st σ n k w (zk1 cut G (Z f)) G R T := zrs hZ rfl f L st σ n k w
theorem f_X3_value_1 (hZ : ZRN (ztb (tb_X3_value E d mc ms)) cut G R T Z) (f : Nat) (L : ZLV) (st : List Value) (σ : ZHp) (n k w : Nat) : Z (f + 1) 1 L st σ n k w = s_getf 2 0 4 L st σ n k w (zk1 cut G (Z f)) G R T := zrs hZ rfl f L st σ n k w
theorem f_X3_value_4 (hZ : ZRN (ztb (tb_X3_value E d mc ms)) cut G R T Z) (f : Nat) (L : ZLV) (st : List Value) (σ : ZHp) (n k w : Nat) : Z (f + 1) 4 L st σ n k w = s_callV E d mc ms 9 MX10_sign 0 7 L st σ n k w (zk1 cut G (Z f)) G R T := zrs hZ rfl f L st σ n k w
theorem f_X3_value_7 (hZ : ZRN (ztb (tb_X3_value E d mc ms)) cut G R T Z) (f : Nat) (L : ZLV) (st : List Value) (σ : ZHp) (n k w : Nat) : Z (f + 1) 7 L st σ n k w = s_astore 2 8 L st σ n k w (zk1 cut G (Z f)) G R T := zrs hZ rfl f L st σ n k w
theorem f_X3_value_8 (hZ : ZRN (ztb (tb_X3_value E d mc ms)) cut G R T Z) (f : Nat) (L : ZLV) (st : List Value) (σ : ZHp) (n k w : Nat) : Z (f + 1) 8 L st σ n k w = s_const (.ref (zeK E 47)) 11 L st σ n k w (zk1 cut G (Z f)) G R T := zrs hZ rfl f L st σ n k w
theorem f_X3_value_11 (hZ : ZRN (ztb (tb_X3_value E d mc ms)) cut G R T Z) (f : Nat) (L : ZLV) (st : List Value) (σ : ZHp) (n k w : Nat) : Z (f + 1) 11 L st σ n k w = s_aload 2 12 L st σ n k w (zk1 cut G (Z f)) G R T := zrs hZ rfl f L st σ n k w
theorem f_X3_value_12 (hZ : ZRN (ztb (tb_X3_value E d mc ms)) cut G R T Z) (f : Nat) (L : ZLV) (st : List Value) (σ : ZHp) (n k w : Nat) : Z (f + 1) 12 L st σ n k w = s_callK E d mc ms 0 46 MJx29ce0_ordinal_8abf5 0 15 L st σ n k w (zk1 cut G (Z f)) G R T := zrs hZ rfl f L st σ n k w
theorem f_X3_value_15 (hZ : ZRN (ztb (tb_X3_value E d mc ms)) cut G R T Z) (f : Nat) (L : ZLV) (st : List Value) (σ : ZHp) (n k w : Nat) : Z (f + 1) 15 L st σ n k w = s_ialdK E 16 L st σ n k w (zk1 cut G (Z f)) G R T := zrs hZ rfl f L st σ n k w
theorem f_X3_value_16 (hZ : ZRN (ztb (tb_X3_value E d mc ms)) cut G R T Z) (f : Nat) (L : ZLV) (st : List Value) (σ : ZHp) (n k w : Nat) : Z (f + 1) 16 L st σ n k w = s_tsw 9 [84, 84, 84, 84, 84, 84, 109, 109, 109, 169, 169, 193, 229] 277 L st σ n k w (zk1 cut G (Z f)) G R T := zrs hZ rfl f L st σ n k w
theorem f_X3_value_84 (hZ : ZRN (ztb (tb_X3_value E d mc ms)) cut G R T Z) (f : Nat) (L : ZLV) (st : List Value) (σ : ZHp) (n k w : Nat) : Z (f + 1) 84 L st σ n k w = s_aload 0 85 L st σ n k w (zk1 cut G (Z f)) G R T := zrs hZ rfl f L st σ n k w
theorem f_X3_value_85 (hZ : ZRN (ztb (tb_X3_value E d mc ms)) cut G R T Z) (f : Nat) (L : ZLV) (st : List Value) (σ : ZHp) (n k w : Nat) : Z (f + 1) 85 L st σ n k w = s_getf 2 2 88 L st σ n k w (zk1 cut G (Z f)) G R T := zrs hZ rfl f L st σ n k w
theorem f_X3_value_88 (hZ : ZRN (ztb (tb_X3_value E d mc ms)) cut G R T Z) (f : Nat) (L : ZLV) (st : List Value) (σ : ZHp) (n k w : Nat) : Z (f + 1) 88 L st σ n k w = s_aload 2 89 L st σ n k w (zk1 cut G (Z f)) G R T := zrs hZ rfl f L st σ n k w
theorem f_X3_value_89 (hZ : ZRN (ztb (tb_X3_value E d mc ms)) cut G R T Z) (f : Nat) (L : ZLV) (st : List Value) (σ : ZHp) (n k w : Nat) : Z (f + 1) 89 L st σ n k w = s_aload 0 90 L st σ n k w (zk1 cut G (Z f)) G R T := zrs hZ rfl f L st σ n k w
theorem f_X3_value_90 (hZ : ZRN (ztb (tb_X3_value E d mc ms)) cut G R T Z) (f : Nat) (L : ZLV) (st : List Value) (σ : ZHp) (n k w : Nat) : Z (f + 1) 90 L st σ n k w = s_getf 2 0 93 L st σ n k w (zk1 cut G (Z f)) G R T := zrs hZ rfl f L st σ n k w
theorem f_X3_value_93 (hZ : ZRN (ztb (tb_X3_value E d mc ms)) cut G R T Z) (f : Nat) (L : ZLV) (st : List Value) (σ : ZHp) (n k w : Nat) : Z (f + 1) 93 L st σ n k w = s_callV E d mc ms 9 MX10_value 0 96 L st σ n k w (zk1 cut G (Z f)) G R T := zrs hZ rfl f L st σ n k w
theorem f_X3_value_96 (hZ : ZRN (ztb (tb_X3_value E d mc ms)) cut G R T Z) (f : Nat) (L : ZLV) (st : List Value) (σ : ZHp) (n k w : Nat) : Z (f + 1) 96 L st σ n k w = s_l2i 97 L st σ n k w (zk1 cut G (Z f)) G R T := zrs hZ rfl f L st σ n k w
theorem f_X3_value_97 (hZ : ZRN (ztb (tb_X3_value E d mc ms)) cut G R T Z) (f : Nat) (L : ZLV) (st : List Value) (σ : ZHp) (n k w : Nat) : Z (f + 1) 97 L st σ n k w = s_callV E d mc ms 0 MX1_add 2 100 L st σ n k w (zk1 cut G (Z f)) G R T := zrs hZ rfl f L st σ n k w
theorem f_X3_value_100 (hZ : ZRN (ztb (tb_X3_value E d mc ms)) cut G R T Z) (f : Nat) (L : ZLV) (st : List Value) (σ : ZHp) (n k w : Nat) : Z (f + 1) 100 L st σ n k w = s_aload 0 101 L st σ n k w (zk1 cut G (Z f)) G R T := zrs hZ rfl f L st σ n k w
theorem f_X3_value_101 (hZ : ZRN (ztb (tb_X3_value E d mc ms)) cut G R T Z) (f : Nat) (L : ZLV) (st : List Value) (σ : ZHp) (n k w : Nat) : Z (f + 1) 101 L st σ n k w = s_getf 2 0 104 L st σ n k w (zk1 cut G (Z f)) G R T := zrs hZ rfl f L st σ n k w
theorem f_X3_value_104 (hZ : ZRN (ztb (tb_X3_value E d mc ms)) cut G R T Z) (f : Nat) (L : ZLV) (st : List Value) (σ : ZHp) (n k w : Nat) : Z (f + 1) 104 L st σ n k w = s_callV E d mc ms 9 MX10_advance 0 107 L st σ n k w (zk1 cut G (Z f)) G R T := zrs hZ rfl f L st σ n k w
theorem f_X3_value_107 (hZ : ZRN (ztb (tb_X3_value E d mc ms)) cut G R T Z) (f : Nat) (L : ZLV) (st : List Value) (σ : ZHp) (n k w : Nat) : Z (f + 1) 107 L st σ n k w = s_const (.int (1)) 108 L st σ n k w (zk1 cut G (Z f)) G R T := zrs hZ rfl f L st σ n k w
theorem f_X3_value_108 (hZ : ZRN (ztb (tb_X3_value E d mc ms)) cut G R T Z) (f : Nat) (L : ZLV) (st : List Value) (σ : ZHp) (n k w : Nat) : Z (f + 1) 108 L st σ n k w = s_zreturn L st σ n k w (zk1 cut G (Z f)) G R T := zrs hZ rfl f L st σ n k w
theorem f_X3_value_109 (hZ : ZRN (ztb (tb_X3_value E d mc ms)) cut G R T Z) (f : Nat) (L : ZLV) (st : List Value) (σ : ZHp) (n k w : Nat) : Z (f + 1) 109 L st σ n k w = s_aload 0 110 L st σ n k w (zk1 cut G (Z f)) G R T := zrs hZ rfl f L st σ n k w
theorem f_X3_value_110 (hZ : ZRN (ztb (tb_X3_value E d mc ms)) cut G R T Z) (f : Nat) (L : ZLV) (st : List Value) (σ : ZHp) (n k w : Nat) : Z (f + 1) 110 L st σ n k w = s_getf 2 0 113 L st σ n k w (zk1 cut G (Z f)) G R T := zrs hZ rfl f L st σ n k w
theorem f_X3_value_113 (hZ : ZRN (ztb (tb_X3_value E d mc ms)) cut G R T Z) (f : Nat) (L : ZLV) (st : List Value) (σ : ZHp) (n k w : Nat) : Z (f + 1) 113 L st σ n k w = s_callV E d mc ms 9 MX10_advance 0 116 L st σ n k w (zk1 cut G (Z f)) G R T := zrs hZ rfl f L st σ n k w
theorem f_X3_value_116 (hZ : ZRN (ztb (tb_X3_value E d mc ms)) cut G R T Z) (f : Nat) (L : ZLV) (st : List Value) (σ : ZHp) (n k w : Nat) : Z (f + 1) 116 L st σ n k w = s_aload 0 117 L st σ n k w (zk1 cut G (Z f)) G R T := zrs hZ rfl f L st σ n k w
theorem f_X3_value_117 (hZ : ZRN (ztb (tb_X3_value E d mc ms)) cut G R T Z) (f : Nat) (L : ZLV) (st : List Value) (σ : ZHp) (n k w : Nat) : Z (f + 1) 117 L st σ n k w = s_getf 2 0 120 L st σ n k w (zk1 cut G (Z f)) G R T := zrs hZ rfl f L st σ n k w
theorem f_X3_value_120 (hZ : ZRN (ztb (tb_X3_value E d mc ms)) cut G R T Z) (f : Nat) (L : ZLV) (st : List Value) (σ : ZHp) (n k w : Nat) : Z (f + 1) 120 L st σ n k w = s_callV E d mc ms 9 MX10_sign 0 123 L st σ n k w (zk1 cut G (Z f)) G R T := zrs hZ rfl f L st σ n k w
theorem f_X3_value_123 (hZ : ZRN (ztb (tb_X3_value E d mc ms)) cut G R T Z) (f : Nat) (L : ZLV) (st : List Value) (σ : ZHp) (n k w : Nat) : Z (f + 1) 123 L st σ n k w = s_const (.ref (zeK E 2)) 126 L st σ n k w (zk1 cut G (Z f)) G R T := zrs hZ rfl f L st σ n k w
theorem f_X3_value_126 (hZ : ZRN (ztb (tb_X3_value E d mc ms)) cut G R T Z) (f : Nat) (L : ZLV) (st : List Value) (σ : ZHp) (n k w : Nat) : Z (f + 1) 126 L st σ n k w = s_acmp_eq 131 129 L st σ n k w (zk1 cut G (Z f)) G R T := zrs hZ rfl f L st σ n k w
theorem f_X3_value_129 (hZ : ZRN (ztb (tb_X3_value E d mc ms)) cut G R T Z) (f : Nat) (L : ZLV) (st : List Value) (σ : ZHp) (n k w : Nat) : Z (f + 1) 129 L st σ n k w = s_const (.int (0)) 130 L st σ n k w (zk1 cut G (Z f)) G R T := zrs hZ rfl f L st σ n k w
theorem f_X3_value_130 (hZ : ZRN (ztb (tb_X3_value E d mc ms)) cut G R T Z) (f : Nat) (L : ZLV) (st : List Value) (σ : ZHp) (n k w : Nat) : Z (f + 1) 130 L st σ n k w = s_zreturn L st σ n k w (zk1 cut G (Z f)) G R T := zrs hZ rfl f L st σ n k w
theorem f_X3_value_131 (hZ : ZRN (ztb (tb_X3_value E d mc ms)) cut G R T Z) (f : Nat) (L : ZLV) (st : List Value) (σ : ZHp) (n k w : Nat) : Z (f + 1) 131 L st σ n k w = s_aload 0 132 L st σ n k w (zk1 cut G (Z f)) G R T := zrs hZ rfl f L st σ n k w
theorem f_X3_value_132 (hZ : ZRN (ztb (tb_X3_value E d mc ms)) cut G R T Z) (f : Nat) (L : ZLV) (st : List Value) (σ : ZHp) (n k w : Nat) : Z (f + 1) 132 L st σ n k w = s_getf 2 2 135 L st σ n k w (zk1 cut G (Z f)) G R T := zrs hZ rfl f L st σ n k w
theorem f_X3_value_135 (hZ : ZRN (ztb (tb_X3_value E d mc ms)) cut G R T Z) (f : Nat) (L : ZLV) (st : List Value) (σ : ZHp) (n k w : Nat) : Z (f + 1) 135 L st σ n k w = s_aload 2 136 L st σ n k w (zk1 cut G (Z f)) G R T := zrs hZ rfl f L st σ n k w
theorem f_X3_value_136 (hZ : ZRN (ztb (tb_X3_value E d mc ms)) cut G R T Z) (f : Nat) (L : ZLV) (st : List Value) (σ : ZHp) (n k w : Nat) : Z (f + 1) 136 L st σ n k w = s_aload 0 137 L st σ n k w (zk1 cut G (Z f)) G R T := zrs hZ rfl f L st σ n k w
theorem f_X3_value_137 (hZ : ZRN (ztb (tb_X3_value E d mc ms)) cut G R T Z) (f : Nat) (L : ZLV) (st : List Value) (σ : ZHp) (n k w : Nat) : Z (f + 1) 137 L st σ n k w = s_getf 2 1 140 L st σ n k w (zk1 cut G (Z f)) G R T := zrs hZ rfl f L st σ n k w
theorem f_X3_value_140 (hZ : ZRN (ztb (tb_X3_value E d mc ms)) cut G R T Z) (f : Nat) (L : ZLV) (st : List Value) (σ : ZHp) (n k w : Nat) : Z (f + 1) 140 L st σ n k w = s_aload 0 141 L st σ n k w (zk1 cut G (Z f)) G R T := zrs hZ rfl f L st σ n k w
theorem f_X3_value_141 (hZ : ZRN (ztb (tb_X3_value E d mc ms)) cut G R T Z) (f : Nat) (L : ZLV) (st : List Value) (σ : ZHp) (n k w : Nat) : Z (f + 1) 141 L st σ n k w = s_getf 2 0 144 L st σ n k w (zk1 cut G (Z f)) G R T := zrs hZ rfl f L st σ n k w
theorem f_X3_value_144 (hZ : ZRN (ztb (tb_X3_value E d mc ms)) cut G R T Z) (f : Nat) (L : ZLV) (st : List Value) (σ : ZHp) (n k w : Nat) : Z (f + 1) 144 L st σ n k w = s_callV E d mc ms 9 MX10_value 0 147 L st σ n k w (zk1 cut G (Z f)) G R T := zrs hZ rfl f L st σ n k w
theorem f_X3_value_147 (hZ : ZRN (ztb (tb_X3_value E d mc ms)) cut G R T Z) (f : Nat) (L : ZLV) (st : List Value) (σ : ZHp) (n k w : Nat) : Z (f + 1) 147 L st σ n k w = s_aload 0 148 L st σ n k w (zk1 cut G (Z f)) G R T := zrs hZ rfl f L st σ n k w
theorem f_X3_value_148 (hZ : ZRN (ztb (tb_X3_value E d mc ms)) cut G R T Z) (f : Nat) (L : ZLV) (st : List Value) (σ : ZHp) (n k w : Nat) : Z (f + 1) 148 L st σ n k w = s_getf 2 0 151 L st σ n k w (zk1 cut G (Z f)) G R T := zrs hZ rfl f L st σ n k w
theorem f_X3_value_151 (hZ : ZRN (ztb (tb_X3_value E d mc ms)) cut G R T Z) (f : Nat) (L : ZLV) (st : List Value) (σ : ZHp) (n k w : Nat) : Z (f + 1) 151 L st σ n k w = s_callV E d mc ms 9 MX10_place 0 154 L st σ n k w (zk1 cut G (Z f)) G R T := zrs hZ rfl f L st σ n k w
theorem f_X3_value_154 (hZ : ZRN (ztb (tb_X3_value E d mc ms)) cut G R T Z) (f : Nat) (L : ZLV) (st : List Value) (σ : ZHp) (n k w : Nat) : Z (f + 1) 154 L st σ n k w = s_callV E d mc ms 6 MX7_cardNamed 2 157 L st σ n k w (zk1 cut G (Z f)) G R T := zrs hZ rfl f L st σ n k w
theorem f_X3_value_157 (hZ : ZRN (ztb (tb_X3_value E d mc ms)) cut G R T Z) (f : Nat) (L : ZLV) (st : List Value) (σ : ZHp) (n k w : Nat) : Z (f + 1) 157 L st σ n k w = s_callV E d mc ms 0 MX1_add 2 160 L st σ n k w (zk1 cut G (Z f)) G R T := zrs hZ rfl f L st σ n k w
theorem f_X3_value_160 (hZ : ZRN (ztb (tb_X3_value E d mc ms)) cut G R T Z) (f : Nat) (L : ZLV) (st : List Value) (σ : ZHp) (n k w : Nat) : Z (f + 1) 160 L st σ n k w = s_aload 0 161 L st σ n k w (zk1 cut G (Z f)) G R T := zrs hZ rfl f L st σ n k w
theorem f_X3_value_161 (hZ : ZRN (ztb (tb_X3_value E d mc ms)) cut G R T Z) (f : Nat) (L : ZLV) (st : List Value) (σ : ZHp) (n k w : Nat) : Z (f + 1) 161 L st σ n k w = s_getf 2 0 164 L st σ n k w (zk1 cut G (Z f)) G R T := zrs hZ rfl f L st σ n k w
theorem f_X3_value_164 (hZ : ZRN (ztb (tb_X3_value E d mc ms)) cut G R T Z) (f : Nat) (L : ZLV) (st : List Value) (σ : ZHp) (n k w : Nat) : Z (f + 1) 164 L st σ n k w = s_callV E d mc ms 9 MX10_advance 0 167 L st σ n k w (zk1 cut G (Z f)) G R T := zrs hZ rfl f L st σ n k w
theorem f_X3_value_167 (hZ : ZRN (ztb (tb_X3_value E d mc ms)) cut G R T Z) (f : Nat) (L : ZLV) (st : List Value) (σ : ZHp) (n k w : Nat) : Z (f + 1) 167 L st σ n k w = s_const (.int (1)) 168 L st σ n k w (zk1 cut G (Z f)) G R T := zrs hZ rfl f L st σ n k w
theorem f_X3_value_168 (hZ : ZRN (ztb (tb_X3_value E d mc ms)) cut G R T Z) (f : Nat) (L : ZLV) (st : List Value) (σ : ZHp) (n k w : Nat) : Z (f + 1) 168 L st σ n k w = s_zreturn L st σ n k w (zk1 cut G (Z f)) G R T := zrs hZ rfl f L st σ n k w
theorem f_X3_value_169 (hZ : ZRN (ztb (tb_X3_value E d mc ms)) cut G R T Z) (f : Nat) (L : ZLV) (st : List Value) (σ : ZHp) (n k w : Nat) : Z (f + 1) 169 L st σ n k w = s_aload 0 170 L st σ n k w (zk1 cut G (Z f)) G R T := zrs hZ rfl f L st σ n k w
theorem f_X3_value_170 (hZ : ZRN (ztb (tb_X3_value E d mc ms)) cut G R T Z) (f : Nat) (L : ZLV) (st : List Value) (σ : ZHp) (n k w : Nat) : Z (f + 1) 170 L st σ n k w = s_getf 2 0 173 L st σ n k w (zk1 cut G (Z f)) G R T := zrs hZ rfl f L st σ n k w
theorem f_X3_value_173 (hZ : ZRN (ztb (tb_X3_value E d mc ms)) cut G R T Z) (f : Nat) (L : ZLV) (st : List Value) (σ : ZHp) (n k w : Nat) : Z (f + 1) 173 L st σ n k w = s_callV E d mc ms 9 MX10_advance 0 176 L st σ n k w (zk1 cut G (Z f)) G R T := zrs hZ rfl f L st σ n k w
theorem f_X3_value_176 (hZ : ZRN (ztb (tb_X3_value E d mc ms)) cut G R T Z) (f : Nat) (L : ZLV) (st : List Value) (σ : ZHp) (n k w : Nat) : Z (f + 1) 176 L st σ n k w = s_aload 0 177 L st σ n k w (zk1 cut G (Z f)) G R T := zrs hZ rfl f L st σ n k w
theorem f_X3_value_177 (hZ : ZRN (ztb (tb_X3_value E d mc ms)) cut G R T Z) (f : Nat) (L : ZLV) (st : List Value) (σ : ZHp) (n k w : Nat) : Z (f + 1) 177 L st σ n k w = s_iload 1 178 L st σ n k w (zk1 cut G (Z f)) G R T := zrs hZ rfl f L st σ n k w
theorem f_X3_value_178 (hZ : ZRN (ztb (tb_X3_value E d mc ms)) cut G R T Z) (f : Nat) (L : ZLV) (st : List Value) (σ : ZHp) (n k w : Nat) : Z (f + 1) 178 L st σ n k w = s_callV E d mc ms 2 MX3_pair 1 181 L st σ n k w (zk1 cut G (Z f)) G R T := zrs hZ rfl f L st σ n k w
theorem f_X3_value_181 (hZ : ZRN (ztb (tb_X3_value E d mc ms)) cut G R T Z) (f : Nat) (L : ZLV) (st : List Value) (σ : ZHp) (n k w : Nat) : Z (f + 1) 181 L st σ n k w = s_istore 3 182 L st σ n k w (zk1 cut G (Z f)) G R T := zrs hZ rfl f L st σ n k w
theorem f_X3_value_182 (hZ : ZRN (ztb (tb_X3_value E d mc ms)) cut G R T Z) (f : Nat) (L : ZLV) (st : List Value) (σ : ZHp) (n k w : Nat) : Z (f + 1) 182 L st σ n k w = s_aload 0 183 L st σ n k w (zk1 cut G (Z f)) G R T := zrs hZ rfl f L st σ n k w
theorem f_X3_value_183 (hZ : ZRN (ztb (tb_X3_value E d mc ms)) cut G R T Z) (f : Nat) (L : ZLV) (st : List Value) (σ : ZHp) (n k w : Nat) : Z (f + 1) 183 L st σ n k w = s_getf 2 2 186 L st σ n k w (zk1 cut G (Z f)) G R T := zrs hZ rfl f L st σ n k w
theorem f_X3_value_186 (hZ : ZRN (ztb (tb_X3_value E d mc ms)) cut G R T Z) (f : Nat) (L : ZLV) (st : List Value) (σ : ZHp) (n k w : Nat) : Z (f + 1) 186 L st σ n k w = s_aload 2 187 L st σ n k w (zk1 cut G (Z f)) G R T := zrs hZ rfl f L st σ n k w
theorem f_X3_value_187 (hZ : ZRN (ztb (tb_X3_value E d mc ms)) cut G R T Z) (f : Nat) (L : ZLV) (st : List Value) (σ : ZHp) (n k w : Nat) : Z (f + 1) 187 L st σ n k w = s_const (.int (0)) 188 L st σ n k w (zk1 cut G (Z f)) G R T := zrs hZ rfl f L st σ n k w
theorem f_X3_value_188 (hZ : ZRN (ztb (tb_X3_value E d mc ms)) cut G R T Z) (f : Nat) (L : ZLV) (st : List Value) (σ : ZHp) (n k w : Nat) : Z (f + 1) 188 L st σ n k w = s_callV E d mc ms 0 MX1_add 2 191 L st σ n k w (zk1 cut G (Z f)) G R T := zrs hZ rfl f L st σ n k w
theorem f_X3_value_191 (hZ : ZRN (ztb (tb_X3_value E d mc ms)) cut G R T Z) (f : Nat) (L : ZLV) (st : List Value) (σ : ZHp) (n k w : Nat) : Z (f + 1) 191 L st σ n k w = s_iload 3 192 L st σ n k w (zk1 cut G (Z f)) G R T := zrs hZ rfl f L st σ n k w
theorem f_X3_value_192 (hZ : ZRN (ztb (tb_X3_value E d mc ms)) cut G R T Z) (f : Nat) (L : ZLV) (st : List Value) (σ : ZHp) (n k w : Nat) : Z (f + 1) 192 L st σ n k w = s_zreturn L st σ n k w (zk1 cut G (Z f)) G R T := zrs hZ rfl f L st σ n k w
theorem f_X3_value_193 (hZ : ZRN (ztb (tb_X3_value E d mc ms)) cut G R T Z) (f : Nat) (L : ZLV) (st : List Value) (σ : ZHp) (n k w : Nat) : Z (f + 1) 193 L st σ n k w = s_iload 1 194 L st σ n k w (zk1 cut G (Z f)) G R T := zrs hZ rfl f L st σ n k w
theorem f_X3_value_194 (hZ : ZRN (ztb (tb_X3_value E d mc ms)) cut G R T Z) (f : Nat) (L : ZLV) (st : List Value) (σ : ZHp) (n k w : Nat) : Z (f + 1) 194 L st σ n k w = s_const (.int (8)) 196 L st σ n k w (zk1 cut G (Z f)) G R T := zrs hZ rfl f L st σ n k w
theorem f_X3_value_196 (hZ : ZRN (ztb (tb_X3_value E d mc ms)) cut G R T Z) (f : Nat) (L : ZLV) (st : List Value) (σ : ZHp) (n k w : Nat) : Z (f + 1) 196 L st σ n k w = s_icmp_lt 201 199 L st σ n k w (zk1 cut G (Z f)) G R T := zrs hZ rfl f L st σ n k w
theorem f_X3_value_199 (hZ : ZRN (ztb (tb_X3_value E d mc ms)) cut G R T Z) (f : Nat) (L : ZLV) (st : List Value) (σ : ZHp) (n k w : Nat) : Z (f + 1) 199 L st σ n k w = s_const (.int (0)) 200 L st σ n k w (zk1 cut G (Z f)) G R T := zrs hZ rfl f L st σ n k w
theorem f_X3_value_200 (hZ : ZRN (ztb (tb_X3_value E d mc ms)) cut G R T Z) (f : Nat) (L : ZLV) (st : List Value) (σ : ZHp) (n k w : Nat) : Z (f + 1) 200 L st σ n k w = s_zreturn L st σ n k w (zk1 cut G (Z f)) G R T := zrs hZ rfl f L st σ n k w
theorem f_X3_value_201 (hZ : ZRN (ztb (tb_X3_value E d mc ms)) cut G R T Z) (f : Nat) (L : ZLV) (st : List Value) (σ : ZHp) (n k w : Nat) : Z (f + 1) 201 L st σ n k w = s_aload 0 202 L st σ n k w (zk1 cut G (Z f)) G R T := zrs hZ rfl f L st σ n k w
theorem f_X3_value_202 (hZ : ZRN (ztb (tb_X3_value E d mc ms)) cut G R T Z) (f : Nat) (L : ZLV) (st : List Value) (σ : ZHp) (n k w : Nat) : Z (f + 1) 202 L st σ n k w = s_getf 2 0 205 L st σ n k w (zk1 cut G (Z f)) G R T := zrs hZ rfl f L st σ n k w
theorem f_X3_value_205 (hZ : ZRN (ztb (tb_X3_value E d mc ms)) cut G R T Z) (f : Nat) (L : ZLV) (st : List Value) (σ : ZHp) (n k w : Nat) : Z (f + 1) 205 L st σ n k w = s_callV E d mc ms 9 MX10_advance 0 208 L st σ n k w (zk1 cut G (Z f)) G R T := zrs hZ rfl f L st σ n k w
theorem f_X3_value_208 (hZ : ZRN (ztb (tb_X3_value E d mc ms)) cut G R T Z) (f : Nat) (L : ZLV) (st : List Value) (σ : ZHp) (n k w : Nat) : Z (f + 1) 208 L st σ n k w = s_aload 0 209 L st σ n k w (zk1 cut G (Z f)) G R T := zrs hZ rfl f L st σ n k w
theorem f_X3_value_209 (hZ : ZRN (ztb (tb_X3_value E d mc ms)) cut G R T Z) (f : Nat) (L : ZLV) (st : List Value) (σ : ZHp) (n k w : Nat) : Z (f + 1) 209 L st σ n k w = s_iload 1 210 L st σ n k w (zk1 cut G (Z f)) G R T := zrs hZ rfl f L st σ n k w
theorem f_X3_value_210 (hZ : ZRN (ztb (tb_X3_value E d mc ms)) cut G R T Z) (f : Nat) (L : ZLV) (st : List Value) (σ : ZHp) (n k w : Nat) : Z (f + 1) 210 L st σ n k w = s_const (.int (1)) 211 L st σ n k w (zk1 cut G (Z f)) G R T := zrs hZ rfl f L st σ n k w
theorem f_X3_value_211 (hZ : ZRN (ztb (tb_X3_value E d mc ms)) cut G R T Z) (f : Nat) (L : ZLV) (st : List Value) (σ : ZHp) (n k w : Nat) : Z (f + 1) 211 L st σ n k w = s_iadd 212 L st σ n k w (zk1 cut G (Z f)) G R T := zrs hZ rfl f L st σ n k w
theorem f_X3_value_212 (hZ : ZRN (ztb (tb_X3_value E d mc ms)) cut G R T Z) (f : Nat) (L : ZLV) (st : List Value) (σ : ZHp) (n k w : Nat) : Z (f + 1) 212 L st σ n k w = s_callV E d mc ms 2 MX3_value 1 215 L st σ n k w (zk1 cut G (Z f)) G R T := zrs hZ rfl f L st σ n k w
theorem f_X3_value_215 (hZ : ZRN (ztb (tb_X3_value E d mc ms)) cut G R T Z) (f : Nat) (L : ZLV) (st : List Value) (σ : ZHp) (n k w : Nat) : Z (f + 1) 215 L st σ n k w = s_istore 3 216 L st σ n k w (zk1 cut G (Z f)) G R T := zrs hZ rfl f L st σ n k w
theorem f_X3_value_216 (hZ : ZRN (ztb (tb_X3_value E d mc ms)) cut G R T Z) (f : Nat) (L : ZLV) (st : List Value) (σ : ZHp) (n k w : Nat) : Z (f + 1) 216 L st σ n k w = s_aload 0 217 L st σ n k w (zk1 cut G (Z f)) G R T := zrs hZ rfl f L st σ n k w
theorem f_X3_value_217 (hZ : ZRN (ztb (tb_X3_value E d mc ms)) cut G R T Z) (f : Nat) (L : ZLV) (st : List Value) (σ : ZHp) (n k w : Nat) : Z (f + 1) 217 L st σ n k w = s_getf 2 2 220 L st σ n k w (zk1 cut G (Z f)) G R T := zrs hZ rfl f L st σ n k w
theorem f_X3_value_220 (hZ : ZRN (ztb (tb_X3_value E d mc ms)) cut G R T Z) (f : Nat) (L : ZLV) (st : List Value) (σ : ZHp) (n k w : Nat) : Z (f + 1) 220 L st σ n k w = s_const (.ref (zeK E 4)) 223 L st σ n k w (zk1 cut G (Z f)) G R T := zrs hZ rfl f L st σ n k w
theorem f_X3_value_223 (hZ : ZRN (ztb (tb_X3_value E d mc ms)) cut G R T Z) (f : Nat) (L : ZLV) (st : List Value) (σ : ZHp) (n k w : Nat) : Z (f + 1) 223 L st σ n k w = s_const (.int (0)) 224 L st σ n k w (zk1 cut G (Z f)) G R T := zrs hZ rfl f L st σ n k w
theorem f_X3_value_224 (hZ : ZRN (ztb (tb_X3_value E d mc ms)) cut G R T Z) (f : Nat) (L : ZLV) (st : List Value) (σ : ZHp) (n k w : Nat) : Z (f + 1) 224 L st σ n k w = s_callV E d mc ms 0 MX1_add 2 227 L st σ n k w (zk1 cut G (Z f)) G R T := zrs hZ rfl f L st σ n k w
theorem f_X3_value_227 (hZ : ZRN (ztb (tb_X3_value E d mc ms)) cut G R T Z) (f : Nat) (L : ZLV) (st : List Value) (σ : ZHp) (n k w : Nat) : Z (f + 1) 227 L st σ n k w = s_iload 3 228 L st σ n k w (zk1 cut G (Z f)) G R T := zrs hZ rfl f L st σ n k w
theorem f_X3_value_228 (hZ : ZRN (ztb (tb_X3_value E d mc ms)) cut G R T Z) (f : Nat) (L : ZLV) (st : List Value) (σ : ZHp) (n k w : Nat) : Z (f + 1) 228 L st σ n k w = s_zreturn L st σ n k w (zk1 cut G (Z f)) G R T := zrs hZ rfl f L st σ n k w
theorem f_X3_value_229 (hZ : ZRN (ztb (tb_X3_value E d mc ms)) cut G R T Z) (f : Nat) (L : ZLV) (st : List Value) (σ : ZHp) (n k w : Nat) : Z (f + 1) 229 L st σ n k w = s_iload 1 230 L st σ n k w (zk1 cut G (Z f)) G R T := zrs hZ rfl f L st σ n k w
theorem f_X3_value_230 (hZ : ZRN (ztb (tb_X3_value E d mc ms)) cut G R T Z) (f : Nat) (L : ZLV) (st : List Value) (σ : ZHp) (n k w : Nat) : Z (f + 1) 230 L st σ n k w = s_const (.int (8)) 232 L st σ n k w (zk1 cut G (Z f)) G R T := zrs hZ rfl f L st σ n k w
theorem f_X3_value_232 (hZ : ZRN (ztb (tb_X3_value E d mc ms)) cut G R T Z) (f : Nat) (L : ZLV) (st : List Value) (σ : ZHp) (n k w : Nat) : Z (f + 1) 232 L st σ n k w = s_icmp_ge 275 235 L st σ n k w (zk1 cut G (Z f)) G R T := zrs hZ rfl f L st σ n k w
theorem f_X3_value_235 (hZ : ZRN (ztb (tb_X3_value E d mc ms)) cut G R T Z) (f : Nat) (L : ZLV) (st : List Value) (σ : ZHp) (n k w : Nat) : Z (f + 1) 235 L st σ n k w = s_aload 0 236 L st σ n k w (zk1 cut G (Z f)) G R T := zrs hZ rfl f L st σ n k w
theorem f_X3_value_236 (hZ : ZRN (ztb (tb_X3_value E d mc ms)) cut G R T Z) (f : Nat) (L : ZLV) (st : List Value) (σ : ZHp) (n k w : Nat) : Z (f + 1) 236 L st σ n k w = s_getf 2 0 239 L st σ n k w (zk1 cut G (Z f)) G R T := zrs hZ rfl f L st σ n k w
theorem f_X3_value_239 (hZ : ZRN (ztb (tb_X3_value E d mc ms)) cut G R T Z) (f : Nat) (L : ZLV) (st : List Value) (σ : ZHp) (n k w : Nat) : Z (f + 1) 239 L st σ n k w = s_const (.ref (zeK E 31)) 242 L st σ n k w (zk1 cut G (Z f)) G R T := zrs hZ rfl f L st σ n k w
theorem f_X3_value_242 (hZ : ZRN (ztb (tb_X3_value E d mc ms)) cut G R T Z) (f : Nat) (L : ZLV) (st : List Value) (σ : ZHp) (n k w : Nat) : Z (f + 1) 242 L st σ n k w = s_callV E d mc ms 9 MX10_take 1 245 L st σ n k w (zk1 cut G (Z f)) G R T := zrs hZ rfl f L st σ n k w
theorem f_X3_value_245 (hZ : ZRN (ztb (tb_X3_value E d mc ms)) cut G R T Z) (f : Nat) (L : ZLV) (st : List Value) (σ : ZHp) (n k w : Nat) : Z (f + 1) 245 L st σ n k w = s_if_eq 275 248 L st σ n k w (zk1 cut G (Z f)) G R T := zrs hZ rfl f L st σ n k w
theorem f_X3_value_248 (hZ : ZRN (ztb (tb_X3_value E d mc ms)) cut G R T Z) (f : Nat) (L : ZLV) (st : List Value) (σ : ZHp) (n k w : Nat) : Z (f + 1) 248 L st σ n k w = s_aload 0 249 L st σ n k w (zk1 cut G (Z f)) G R T := zrs hZ rfl f L st σ n k w
theorem f_X3_value_249 (hZ : ZRN (ztb (tb_X3_value E d mc ms)) cut G R T Z) (f : Nat) (L : ZLV) (st : List Value) (σ : ZHp) (n k w : Nat) : Z (f + 1) 249 L st σ n k w = s_iload 1 250 L st σ n k w (zk1 cut G (Z f)) G R T := zrs hZ rfl f L st σ n k w
theorem f_X3_value_250 (hZ : ZRN (ztb (tb_X3_value E d mc ms)) cut G R T Z) (f : Nat) (L : ZLV) (st : List Value) (σ : ZHp) (n k w : Nat) : Z (f + 1) 250 L st σ n k w = s_const (.int (1)) 251 L st σ n k w (zk1 cut G (Z f)) G R T := zrs hZ rfl f L st σ n k w
theorem f_X3_value_251 (hZ : ZRN (ztb (tb_X3_value E d mc ms)) cut G R T Z) (f : Nat) (L : ZLV) (st : List Value) (σ : ZHp) (n k w : Nat) : Z (f + 1) 251 L st σ n k w = s_iadd 252 L st σ n k w (zk1 cut G (Z f)) G R T := zrs hZ rfl f L st σ n k w
theorem f_X3_value_252 (hZ : ZRN (ztb (tb_X3_value E d mc ms)) cut G R T Z) (f : Nat) (L : ZLV) (st : List Value) (σ : ZHp) (n k w : Nat) : Z (f + 1) 252 L st σ n k w = s_callV E d mc ms 2 MX3_sum 1 255 L st σ n k w (zk1 cut G (Z f)) G R T := zrs hZ rfl f L st σ n k w
theorem f_X3_value_255 (hZ : ZRN (ztb (tb_X3_value E d mc ms)) cut G R T Z) (f : Nat) (L : ZLV) (st : List Value) (σ : ZHp) (n k w : Nat) : Z (f + 1) 255 L st σ n k w = s_if_eq 275 258 L st σ n k w (zk1 cut G (Z f)) G R T := zrs hZ rfl f L st σ n k w
theorem f_X3_value_258 (hZ : ZRN (ztb (tb_X3_value E d mc ms)) cut G R T Z) (f : Nat) (L : ZLV) (st : List Value) (σ : ZHp) (n k w : Nat) : Z (f + 1) 258 L st σ n k w = s_aload 0 259 L st σ n k w (zk1 cut G (Z f)) G R T := zrs hZ rfl f L st σ n k w
theorem f_X3_value_259 (hZ : ZRN (ztb (tb_X3_value E d mc ms)) cut G R T Z) (f : Nat) (L : ZLV) (st : List Value) (σ : ZHp) (n k w : Nat) : Z (f + 1) 259 L st σ n k w = s_getf 2 0 262 L st σ n k w (zk1 cut G (Z f)) G R T := zrs hZ rfl f L st σ n k w
theorem f_X3_value_262 (hZ : ZRN (ztb (tb_X3_value E d mc ms)) cut G R T Z) (f : Nat) (L : ZLV) (st : List Value) (σ : ZHp) (n k w : Nat) : Z (f + 1) 262 L st σ n k w = s_const (.ref (zeK E 32)) 265 L st σ n k w (zk1 cut G (Z f)) G R T := zrs hZ rfl f L st σ n k w
theorem f_X3_value_265 (hZ : ZRN (ztb (tb_X3_value E d mc ms)) cut G R T Z) (f : Nat) (L : ZLV) (st : List Value) (σ : ZHp) (n k w : Nat) : Z (f + 1) 265 L st σ n k w = s_callV E d mc ms 9 MX10_take 1 268 L st σ n k w (zk1 cut G (Z f)) G R T := zrs hZ rfl f L st σ n k w
theorem f_X3_value_268 (hZ : ZRN (ztb (tb_X3_value E d mc ms)) cut G R T Z) (f : Nat) (L : ZLV) (st : List Value) (σ : ZHp) (n k w : Nat) : Z (f + 1) 268 L st σ n k w = s_if_eq 275 271 L st σ n k w (zk1 cut G (Z f)) G R T := zrs hZ rfl f L st σ n k w
theorem f_X3_value_271 (hZ : ZRN (ztb (tb_X3_value E d mc ms)) cut G R T Z) (f : Nat) (L : ZLV) (st : List Value) (σ : ZHp) (n k w : Nat) : Z (f + 1) 271 L st σ n k w = s_const (.int (1)) 272 L st σ n k w (zk1 cut G (Z f)) G R T := zrs hZ rfl f L st σ n k w
theorem f_X3_value_272 (hZ : ZRN (ztb (tb_X3_value E d mc ms)) cut G R T Z) (f : Nat) (L : ZLV) (st : List Value) (σ : ZHp) (n k w : Nat) : Z (f + 1) 272 L st σ n k w = s_goto 276 L st σ n k w (zk1 cut G (Z f)) G R T := zrs hZ rfl f L st σ n k w
theorem f_X3_value_275 (hZ : ZRN (ztb (tb_X3_value E d mc ms)) cut G R T Z) (f : Nat) (L : ZLV) (st : List Value) (σ : ZHp) (n k w : Nat) : Z (f + 1) 275 L st σ n k w = s_const (.int (0)) 276 L st σ n k w (zk1 cut G (Z f)) G R T := zrs hZ rfl f L st σ n k w
theorem f_X3_value_276 (hZ : ZRN (ztb (tb_X3_value E d mc ms)) cut G R T Z) (f : Nat) (L : ZLV) (st : List Value) (σ : ZHp) (n k w : Nat) : Z (f + 1) 276 L st σ n k w = s_zreturn L st σ n k w (zk1 cut G (Z f)) G R T := zrs hZ rfl f L st σ n k w
theorem f_X3_value_277 (hZ : ZRN (ztb (tb_X3_value E d mc ms)) cut G R T Z) (f : Nat) (L : ZLV) (st : List Value) (σ : ZHp) (n k w : Nat) : Z (f + 1) 277 L st σ n k w = s_const (.int (0)) 278 L st σ n k w (zk1 cut G (Z f)) G R T := zrs hZ rfl f L st σ n k w
theorem f_X3_value_278 (hZ : ZRN (ztb (tb_X3_value E d mc ms)) cut G R T Z) (f : Nat) (L : ZLV) (st : List Value) (σ : ZHp) (n k w : Nat) : Z (f + 1) 278 L st σ n k w = s_zreturn L st σ n k w (zk1 cut G (Z f)) G R T := zrs hZ rfl f L st σ n k w
theorem f_X3_pair_0 (hZ : ZRN (ztb (tb_X3_pair E d mc ms)) cut G R T Z) (f : Nat) (L : ZLV) (st : List Value) (σ : ZHp) (n k w : Nat) : Z (f + 1) 0 L st σ n k w = s_iload 1 1 L st σ n k w (zk1 cut G (Z f)) G R T := zrs hZ rfl f L st σ n k w
theorem f_X3_pair_1 (hZ : ZRN (ztb (tb_X3_pair E d mc ms)) cut G R T Z) (f : Nat) (L : ZLV) (st : List Value) (σ : ZHp) (n k w : Nat) : Z (f + 1) 1 L st σ n k w = s_const (.int (8)) 3 L st σ n k w (zk1 cut G (Z f)) G R T := zrs hZ rfl f L st σ n k w
theorem f_X3_pair_3 (hZ : ZRN (ztb (tb_X3_pair E d mc ms)) cut G R T Z) (f : Nat) (L : ZLV) (st : List Value) (σ : ZHp) (n k w : Nat) : Z (f + 1) 3 L st σ n k w = s_icmp_ge 69 6 L st σ n k w (zk1 cut G (Z f)) G R T := zrs hZ rfl f L st σ n k w
theorem f_X3_pair_6 (hZ : ZRN (ztb (tb_X3_pair E d mc ms)) cut G R T Z) (f : Nat) (L : ZLV) (st : List Value) (σ : ZHp) (n k w : Nat) : Z (f + 1) 6 L st σ n k w = s_aload 0 7 L st σ n k w (zk1 cut G (Z f)) G R T := zrs hZ rfl f L st σ n k w
theorem f_X3_pair_7 (hZ : ZRN (ztb (tb_X3_pair E d mc ms)) cut G R T Z) (f : Nat) (L : ZLV) (st : List Value) (σ : ZHp) (n k w : Nat) : Z (f + 1) 7 L st σ n k w = s_getf 2 0 10 L st σ n k w (zk1 cut G (Z f)) G R T := zrs hZ rfl f L st σ n k w
theorem f_X3_pair_10 (hZ : ZRN (ztb (tb_X3_pair E d mc ms)) cut G R T Z) (f : Nat) (L : ZLV) (st : List Value) (σ : ZHp) (n k w : Nat) : Z (f + 1) 10 L st σ n k w = s_const (.ref (zeK E 31)) 13 L st σ n k w (zk1 cut G (Z f)) G R T := zrs hZ rfl f L st σ n k w
theorem f_X3_pair_13 (hZ : ZRN (ztb (tb_X3_pair E d mc ms)) cut G R T Z) (f : Nat) (L : ZLV) (st : List Value) (σ : ZHp) (n k w : Nat) : Z (f + 1) 13 L st σ n k w = s_callV E d mc ms 9 MX10_take 1 16 L st σ n k w (zk1 cut G (Z f)) G R T := zrs hZ rfl f L st σ n k w
theorem f_X3_pair_16 (hZ : ZRN (ztb (tb_X3_pair E d mc ms)) cut G R T Z) (f : Nat) (L : ZLV) (st : List Value) (σ : ZHp) (n k w : Nat) : Z (f + 1) 16 L st σ n k w = s_if_eq 69 19 L st σ n k w (zk1 cut G (Z f)) G R T := zrs hZ rfl f L st σ n k w
theorem f_X3_pair_19 (hZ : ZRN (ztb (tb_X3_pair E d mc ms)) cut G R T Z) (f : Nat) (L : ZLV) (st : List Value) (σ : ZHp) (n k w : Nat) : Z (f + 1) 19 L st σ n k w = s_aload 0 20 L st σ n k w (zk1 cut G (Z f)) G R T := zrs hZ rfl f L st σ n k w
theorem f_X3_pair_20 (hZ : ZRN (ztb (tb_X3_pair E d mc ms)) cut G R T Z) (f : Nat) (L : ZLV) (st : List Value) (σ : ZHp) (n k w : Nat) : Z (f + 1) 20 L st σ n k w = s_iload 1 21 L st σ n k w (zk1 cut G (Z f)) G R T := zrs hZ rfl f L st σ n k w
theorem f_X3_pair_21 (hZ : ZRN (ztb (tb_X3_pair E d mc ms)) cut G R T Z) (f : Nat) (L : ZLV) (st : List Value) (σ : ZHp) (n k w : Nat) : Z (f + 1) 21 L st σ n k w = s_const (.int (1)) 22 L st σ n k w (zk1 cut G (Z f)) G R T := zrs hZ rfl f L st σ n k w
theorem f_X3_pair_22 (hZ : ZRN (ztb (tb_X3_pair E d mc ms)) cut G R T Z) (f : Nat) (L : ZLV) (st : List Value) (σ : ZHp) (n k w : Nat) : Z (f + 1) 22 L st σ n k w = s_iadd 23 L st σ n k w (zk1 cut G (Z f)) G R T := zrs hZ rfl f L st σ n k w
theorem f_X3_pair_23 (hZ : ZRN (ztb (tb_X3_pair E d mc ms)) cut G R T Z) (f : Nat) (L : ZLV) (st : List Value) (σ : ZHp) (n k w : Nat) : Z (f + 1) 23 L st σ n k w = s_callV E d mc ms 2 MX3_sum 1 26 L st σ n k w (zk1 cut G (Z f)) G R T := zrs hZ rfl f L st σ n k w
theorem f_X3_pair_26 (hZ : ZRN (ztb (tb_X3_pair E d mc ms)) cut G R T Z) (f : Nat) (L : ZLV) (st : List Value) (σ : ZHp) (n k w : Nat) : Z (f + 1) 26 L st σ n k w = s_if_eq 69 29 L st σ n k w (zk1 cut G (Z f)) G R T := zrs hZ rfl f L st σ n k w
theorem f_X3_pair_29 (hZ : ZRN (ztb (tb_X3_pair E d mc ms)) cut G R T Z) (f : Nat) (L : ZLV) (st : List Value) (σ : ZHp) (n k w : Nat) : Z (f + 1) 29 L st σ n k w = s_aload 0 30 L st σ n k w (zk1 cut G (Z f)) G R T := zrs hZ rfl f L st σ n k w
theorem f_X3_pair_30 (hZ : ZRN (ztb (tb_X3_pair E d mc ms)) cut G R T Z) (f : Nat) (L : ZLV) (st : List Value) (σ : ZHp) (n k w : Nat) : Z (f + 1) 30 L st σ n k w = s_getf 2 0 33 L st σ n k w (zk1 cut G (Z f)) G R T := zrs hZ rfl f L st σ n k w
theorem f_X3_pair_33 (hZ : ZRN (ztb (tb_X3_pair E d mc ms)) cut G R T Z) (f : Nat) (L : ZLV) (st : List Value) (σ : ZHp) (n k w : Nat) : Z (f + 1) 33 L st σ n k w = s_const (.ref (zeK E 36)) 36 L st σ n k w (zk1 cut G (Z f)) G R T := zrs hZ rfl f L st σ n k w
theorem f_X3_pair_36 (hZ : ZRN (ztb (tb_X3_pair E d mc ms)) cut G R T Z) (f : Nat) (L : ZLV) (st : List Value) (σ : ZHp) (n k w : Nat) : Z (f + 1) 36 L st σ n k w = s_callV E d mc ms 9 MX10_take 1 39 L st σ n k w (zk1 cut G (Z f)) G R T := zrs hZ rfl f L st σ n k w
theorem f_X3_pair_39 (hZ : ZRN (ztb (tb_X3_pair E d mc ms)) cut G R T Z) (f : Nat) (L : ZLV) (st : List Value) (σ : ZHp) (n k w : Nat) : Z (f + 1) 39 L st σ n k w = s_if_eq 69 42 L st σ n k w (zk1 cut G (Z f)) G R T := zrs hZ rfl f L st σ n k w
theorem f_X3_pair_42 (hZ : ZRN (ztb (tb_X3_pair E d mc ms)) cut G R T Z) (f : Nat) (L : ZLV) (st : List Value) (σ : ZHp) (n k w : Nat) : Z (f + 1) 42 L st σ n k w = s_aload 0 43 L st σ n k w (zk1 cut G (Z f)) G R T := zrs hZ rfl f L st σ n k w
theorem f_X3_pair_43 (hZ : ZRN (ztb (tb_X3_pair E d mc ms)) cut G R T Z) (f : Nat) (L : ZLV) (st : List Value) (σ : ZHp) (n k w : Nat) : Z (f + 1) 43 L st σ n k w = s_iload 1 44 L st σ n k w (zk1 cut G (Z f)) G R T := zrs hZ rfl f L st σ n k w
theorem f_X3_pair_44 (hZ : ZRN (ztb (tb_X3_pair E d mc ms)) cut G R T Z) (f : Nat) (L : ZLV) (st : List Value) (σ : ZHp) (n k w : Nat) : Z (f + 1) 44 L st σ n k w = s_const (.int (1)) 45 L st σ n k w (zk1 cut G (Z f)) G R T := zrs hZ rfl f L st σ n k w
theorem f_X3_pair_45 (hZ : ZRN (ztb (tb_X3_pair E d mc ms)) cut G R T Z) (f : Nat) (L : ZLV) (st : List Value) (σ : ZHp) (n k w : Nat) : Z (f + 1) 45 L st σ n k w = s_iadd 46 L st σ n k w (zk1 cut G (Z f)) G R T := zrs hZ rfl f L st σ n k w
theorem f_X3_pair_46 (hZ : ZRN (ztb (tb_X3_pair E d mc ms)) cut G R T Z) (f : Nat) (L : ZLV) (st : List Value) (σ : ZHp) (n k w : Nat) : Z (f + 1) 46 L st σ n k w = s_callV E d mc ms 2 MX3_sum 1 49 L st σ n k w (zk1 cut G (Z f)) G R T := zrs hZ rfl f L st σ n k w
theorem f_X3_pair_49 (hZ : ZRN (ztb (tb_X3_pair E d mc ms)) cut G R T Z) (f : Nat) (L : ZLV) (st : List Value) (σ : ZHp) (n k w : Nat) : Z (f + 1) 49 L st σ n k w = s_if_eq 69 52 L st σ n k w (zk1 cut G (Z f)) G R T := zrs hZ rfl f L st σ n k w
theorem f_X3_pair_52 (hZ : ZRN (ztb (tb_X3_pair E d mc ms)) cut G R T Z) (f : Nat) (L : ZLV) (st : List Value) (σ : ZHp) (n k w : Nat) : Z (f + 1) 52 L st σ n k w = s_aload 0 53 L st σ n k w (zk1 cut G (Z f)) G R T := zrs hZ rfl f L st σ n k w
theorem f_X3_pair_53 (hZ : ZRN (ztb (tb_X3_pair E d mc ms)) cut G R T Z) (f : Nat) (L : ZLV) (st : List Value) (σ : ZHp) (n k w : Nat) : Z (f + 1) 53 L st σ n k w = s_getf 2 0 56 L st σ n k w (zk1 cut G (Z f)) G R T := zrs hZ rfl f L st σ n k w
theorem f_X3_pair_56 (hZ : ZRN (ztb (tb_X3_pair E d mc ms)) cut G R T Z) (f : Nat) (L : ZLV) (st : List Value) (σ : ZHp) (n k w : Nat) : Z (f + 1) 56 L st σ n k w = s_const (.ref (zeK E 32)) 59 L st σ n k w (zk1 cut G (Z f)) G R T := zrs hZ rfl f L st σ n k w
theorem f_X3_pair_59 (hZ : ZRN (ztb (tb_X3_pair E d mc ms)) cut G R T Z) (f : Nat) (L : ZLV) (st : List Value) (σ : ZHp) (n k w : Nat) : Z (f + 1) 59 L st σ n k w = s_callV E d mc ms 9 MX10_take 1 62 L st σ n k w (zk1 cut G (Z f)) G R T := zrs hZ rfl f L st σ n k w
theorem f_X3_pair_62 (hZ : ZRN (ztb (tb_X3_pair E d mc ms)) cut G R T Z) (f : Nat) (L : ZLV) (st : List Value) (σ : ZHp) (n k w : Nat) : Z (f + 1) 62 L st σ n k w = s_if_eq 69 65 L st σ n k w (zk1 cut G (Z f)) G R T := zrs hZ rfl f L st σ n k w
theorem f_X3_pair_65 (hZ : ZRN (ztb (tb_X3_pair E d mc ms)) cut G R T Z) (f : Nat) (L : ZLV) (st : List Value) (σ : ZHp) (n k w : Nat) : Z (f + 1) 65 L st σ n k w = s_const (.int (1)) 66 L st σ n k w (zk1 cut G (Z f)) G R T := zrs hZ rfl f L st σ n k w
theorem f_X3_pair_66 (hZ : ZRN (ztb (tb_X3_pair E d mc ms)) cut G R T Z) (f : Nat) (L : ZLV) (st : List Value) (σ : ZHp) (n k w : Nat) : Z (f + 1) 66 L st σ n k w = s_goto 70 L st σ n k w (zk1 cut G (Z f)) G R T := zrs hZ rfl f L st σ n k w
theorem f_X3_pair_69 (hZ : ZRN (ztb (tb_X3_pair E d mc ms)) cut G R T Z) (f : Nat) (L : ZLV) (st : List Value) (σ : ZHp) (n k w : Nat) : Z (f + 1) 69 L st σ n k w = s_const (.int (0)) 70 L st σ n k w (zk1 cut G (Z f)) G R T := zrs hZ rfl f L st σ n k w
theorem f_X3_pair_70 (hZ : ZRN (ztb (tb_X3_pair E d mc ms)) cut G R T Z) (f : Nat) (L : ZLV) (st : List Value) (σ : ZHp) (n k w : Nat) : Z (f + 1) 70 L st σ n k w = s_zreturn L st σ n k w (zk1 cut G (Z f)) G R T := zrs hZ rfl f L st σ n k w
end
