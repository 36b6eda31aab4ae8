/-! TABLES: what each instruction does, that it does so, and each one by its place (printed by wip/whole/gen/gentab.py) -/
def tb_X15_can (E : ZEX) (d mc ms : Nat) : List (Nat × ZStep) := [(0, s_aload 0 1), (1, s_getf 14 6 4), (4, s_getf 12 17 7), (7, s_iload 1 8), (8, s_iaload E 9), (9, s_istore 2 10), (10, s_iload 1 11), (11, s_aload 0 12), (12, s_getf 14 22 15), (15, s_icmp_eq 41 18), (18, s_aload 0 19), (19, s_getf 14 6 22), (22, s_getf 12 18 25), (25, s_iload 1 26), (26, s_iaload E 27), (27, s_aload 0 28), (28, s_getf 14 11 31), (31, s_icmp_ne 41 34), (34, s_aload 0 35), (35, s_getf 14 17 38), (38, s_if_ne 43 41), (41, s_const (.int (0)) 42), (42, s_zreturn), (43, s_aload 0 44), (44, s_aload 0 45), (45, s_getf 14 6 48), (48, s_getf 12 19 51), (51, s_iload 1 52), (52, s_iaload E 53), (53, s_putf 14 9 0 56), (56, s_aload 0 57), (57, s_getf 14 9 60), (60, s_const (.int (-1)) 61), (61, s_icmp_eq 71 64), (64, s_aload 0 65), (65, s_callV E d mc ms 14 MX15_test 0 68), (68, s_if_eq 124 71), (71, s_aload 0 72), (72, s_getf 14 10 75), (75, s_getf 13 3 78), (78, s_iload 2 79), (79, s_iaload E 80), (80, s_if_le 124 83), (83, s_aload 0 84), (84, s_getf 14 16 87), (87, s_aload 0 88), (88, s_getf 14 6 91), (91, s_getf 12 7 94), (94, s_iload 2 95), (95, s_iaload E 96), (96, s_icmp_lt 124 99), (99, s_aload 0 100), (100, s_getf 14 10 103), (103, s_aload 0 104), (104, s_getf 14 11 107), (107, s_callV E d mc ms 13 MX14_all 1 110), (110, s_aload 0 111), (111, s_getf 14 13 114), (114, s_iadd 115), (115, s_const (.int (60)) 117), (117, s_icmp_ge 124 120), (120, s_const (.int (1)) 121), (121, s_goto 125), (124, s_const (.int (0)) 125), (125, s_zreturn)]
set_option maxRecDepth 20000 in
theorem ok_X15_can {E : ZEX} {X : ZMX} {d mc ms : Nat} {P : ZPT} {T : ZTT} (h : ZCX E X MX15_can d mc ms P T) : ∀ pc, ZRow E X MX15_can mc ms P T pc (ztb (tb_X15_can E d mc ms) pc) := ztb_ok (by
  unfold tb_X15_can
  refine zfmc (r_aload_n h (pc := 0) (kf := 0) 0 (by decide +kernel) rfl) ?_
  refine zfmc (r_getf h (pc := 1) (ix := 20) (by decide +kernel) ckX15 6 (by decide) wk_bda7210969) ?_
  refine zfmc (r_getfN h (pc := 4) (ix := 201) (by decide +kernel) ckX13 17 (by decide) wk_f19993cbc1) ?_
  refine zfmc (r_iload_n h (pc := 7) (kf := 1) 1 (by decide +kernel) rfl) ?_
  refine zfmc (r_iaload h (pc := 8) (by decide +kernel)) ?_
  refine zfmc (r_istore_n h (pc := 9) (kf := 2) 2 (by decide +kernel) rfl (by decide +kernel)) ?_
  refine zfmc (r_iload_n h (pc := 10) (kf := 1) 1 (by decide +kernel) rfl) ?_
  refine zfmc (r_aload_n h (pc := 11) (kf := 0) 0 (by decide +kernel) rfl) ?_
  refine zfmc (r_getf h (pc := 12) (ix := 43) (by decide +kernel) ckX15 22 (by decide) wk_faf6dad86c) ?_
  refine zfmc (r_icmp_eq h (pc := 15) (off := 26) (by decide +kernel) 41 (by decide +kernel)) ?_
  refine zfmc (r_aload_n h (pc := 18) (kf := 0) 0 (by decide +kernel) rfl) ?_
  refine zfmc (r_getf h (pc := 19) (ix := 20) (by decide +kernel) ckX15 6 (by decide) wk_bda7210969) ?_
  refine zfmc (r_getfN h (pc := 22) (ix := 207) (by decide +kernel) ckX13 18 (by decide) wk_8d423eb8e2) ?_
  refine zfmc (r_iload_n h (pc := 25) (kf := 1) 1 (by decide +kernel) rfl) ?_
  refine zfmc (r_iaload h (pc := 26) (by decide +kernel)) ?_
  refine zfmc (r_aload_n h (pc := 27) (kf := 0) 0 (by decide +kernel) rfl) ?_
  refine zfmc (r_getf h (pc := 28) (ix := 279) (by decide +kernel) ckX15 11 (by decide) wk_df7a3a0d01) ?_
  refine zfmc (r_icmp_ne h (pc := 31) (off := 10) (by decide +kernel) 41 (by decide +kernel)) ?_
  refine zfmc (r_aload_n h (pc := 34) (kf := 0) 0 (by decide +kernel) rfl) ?_
  refine zfmc (r_getf h (pc := 35) (ix := 294) (by decide +kernel) ckX15 17 (by decide) wk_fadba25f12) ?_
  refine zfmc (r_if_ne h (pc := 38) (off := 5) (by decide +kernel) 43 (by decide +kernel)) ?_
  refine zfmc (r_iconst h (pc := 41) (z := 0) (by decide +kernel) (0) (by decide +kernel)) ?_
  refine zfmc (r_zreturn h (pc := 42) (by decide +kernel) rfl) ?_
  refine zfmc (r_aload_n h (pc := 43) (kf := 0) 0 (by decide +kernel) rfl) ?_
  refine zfmc (r_aload_n h (pc := 44) (kf := 0) 0 (by decide +kernel) rfl) ?_
  refine zfmc (r_getf h (pc := 45) (ix := 20) (by decide +kernel) ckX15 6 (by decide) wk_bda7210969) ?_
  refine zfmc (r_getfN h (pc := 48) (ix := 228) (by decide +kernel) ckX13 19 (by decide) wk_ea53deddcd) ?_
  refine zfmc (r_iload_n h (pc := 51) (kf := 1) 1 (by decide +kernel) rfl) ?_
  refine zfmc (r_iaload h (pc := 52) (by decide +kernel)) ?_
  refine zfmc (r_putf h (pc := 53) (ix := 254) (by decide +kernel) ckX15 9 (by decide) 0 (fty := tyX15 9) (tyX15_ok 9 (by decide)) rfl rfl wk_76716ac291) ?_
  refine zfmc (r_aload_n h (pc := 56) (kf := 0) 0 (by decide +kernel) rfl) ?_
  refine zfmc (r_getf h (pc := 57) (ix := 254) (by decide +kernel) ckX15 9 (by decide) wk_76716ac291) ?_
  refine zfmc (r_iconst h (pc := 60) (z := -1) (by decide +kernel) (-1) (by decide +kernel)) ?_
  refine zfmc (r_icmp_eq h (pc := 61) (off := 10) (by decide +kernel) 71 (by decide +kernel)) ?_
  refine zfmc (r_aload_n h (pc := 64) (kf := 0) 0 (by decide +kernel) rfl) ?_
  refine zfmc (r_callV h (pc := 65) (ix := 267) (by decide +kernel) ckX15 0 mcX15_test wk_18570ad943 wk_c49954e947 wk_3bbedf2f7f rfl) ?_
  refine zfmc (r_if_eq h (pc := 68) (off := 56) (by decide +kernel) 124 (by decide +kernel)) ?_
  refine zfmc (r_aload_n h (pc := 71) (kf := 0) 0 (by decide +kernel) rfl) ?_
  refine zfmc (r_getf h (pc := 72) (ix := 34) (by decide +kernel) ckX15 10 (by decide) wk_bb5033aff6) ?_
  refine zfmc (r_getfN h (pc := 75) (ix := 302) (by decide +kernel) ckX14 3 (by decide) wk_f4f89b3b47) ?_
  refine zfmc (r_iload_n h (pc := 78) (kf := 2) 2 (by decide +kernel) rfl) ?_
  refine zfmc (r_iaload h (pc := 79) (by decide +kernel)) ?_
  refine zfmc (r_if_le h (pc := 80) (off := 44) (by decide +kernel) 124 (by decide +kernel)) ?_
  refine zfmc (r_aload_n h (pc := 83) (kf := 0) 0 (by decide +kernel) rfl) ?_
  refine zfmc (r_getf h (pc := 84) (ix := 291) (by decide +kernel) ckX15 16 (by decide) wk_7886e16464) ?_
  refine zfmc (r_aload_n h (pc := 87) (kf := 0) 0 (by decide +kernel) rfl) ?_
  refine zfmc (r_getf h (pc := 88) (ix := 20) (by decide +kernel) ckX15 6 (by decide) wk_bda7210969) ?_
  refine zfmc (r_getfN h (pc := 91) (ix := 212) (by decide +kernel) ckX13 7 (by decide) wk_82d99483c8) ?_
  refine zfmc (r_iload_n h (pc := 94) (kf := 2) 2 (by decide +kernel) rfl) ?_
  refine zfmc (r_iaload h (pc := 95) (by decide +kernel)) ?_
  refine zfmc (r_icmp_lt h (pc := 96) (off := 28) (by decide +kernel) 124 (by decide +kernel)) ?_
  refine zfmc (r_aload_n h (pc := 99) (kf := 0) 0 (by decide +kernel) rfl) ?_
  refine zfmc (r_getf h (pc := 100) (ix := 34) (by decide +kernel) ckX15 10 (by decide) wk_bb5033aff6) ?_
  refine zfmc (r_aload_n h (pc := 103) (kf := 0) 0 (by decide +kernel) rfl) ?_
  refine zfmc (r_getf h (pc := 104) (ix := 279) (by decide +kernel) ckX15 11 (by decide) wk_df7a3a0d01) ?_
  refine zfmc (r_callV h (pc := 107) (ix := 354) (by decide +kernel) ckX14 1 mcX14_all wk_0940095031 wk_bcc60fc80f wk_ab8f1e57c9 rfl) ?_
  refine zfmc (r_aload_n h (pc := 110) (kf := 0) 0 (by decide +kernel) rfl) ?_
  refine zfmc (r_getf h (pc := 111) (ix := 285) (by decide +kernel) ckX15 13 (by decide) wk_c77fad5ba9) ?_
  refine zfmc (r_iadd h (pc := 114) (by decide +kernel)) ?_
  refine zfmc (r_bipush h (pc := 115) (z := 60) (by decide +kernel) (60) (by decide +kernel)) ?_
  refine zfmc (r_icmp_ge h (pc := 117) (off := 7) (by decide +kernel) 124 (by decide +kernel)) ?_
  refine zfmc (r_iconst h (pc := 120) (z := 1) (by decide +kernel) (1) (by decide +kernel)) ?_
  refine zfmc (r_goto h (pc := 121) (off := 4) (by decide +kernel) 125 (by decide +kernel)) ?_
  refine zfmc (r_iconst h (pc := 124) (z := 0) (by decide +kernel) (0) (by decide +kernel)) ?_
  refine zfmc (r_zreturn h (pc := 125) (by decide +kernel) rfl) ?_
  exact zfm0)
def tb_X15_buy (E : ZEX) (d mc ms : Nat) : List (Nat × ZStep) := [(0, s_aload 0 1), (1, s_getf 14 10 4), (4, s_getf 13 3 7), (7, s_iload 1 8), (8, s_dup2 9), (9, s_iaload E 10), (10, s_const (.int (1)) 11), (11, s_isub 12), (12, s_iastore E 13), (13, s_aload 0 14), (14, s_dup 15), (15, s_getf 14 16 18), (18, s_aload 0 19), (19, s_getf 14 6 22), (22, s_getf 12 7 25), (25, s_iload 1 26), (26, s_iaload E 27), (27, s_isub 28), (28, s_putf 14 16 0 31), (31, s_aload 0 32), (32, s_dup 33), (33, s_getf 14 17 36), (36, s_const (.int (1)) 37), (37, s_isub 38), (38, s_putf 14 17 0 41), (41, s_aload 0 42), (42, s_getf 14 10 45), (45, s_aload 0 46), (46, s_getf 14 11 49), (49, s_iload 1 50), (50, s_callV E d mc ms 13 MX14_discard 2 53), (53, s_aload 0 54), (54, s_getf 14 10 57), (57, s_getf 13 5 60), (60, s_iload 1 61), (61, s_dup2 62), (62, s_iaload E 63), (63, s_const (.int (1)) 64), (64, s_iadd 65), (65, s_iastore E 66), (66, s_aload 0 67), (67, s_getf 14 10 70), (70, s_getf 13 12 73), (73, s_aload 0 74), (74, s_getf 14 11 77), (77, s_dup2 78), (78, s_iaload E 79), (79, s_const (.int (1)) 80), (80, s_iadd 81), (81, s_iastore E 82), (82, s_aload 0 83), (83, s_getf 14 10 86), (86, s_dup 87), (87, s_getf 13 2 90), (90, s_const (.int (1)) 91), (91, s_iadd 92), (92, s_putf 13 2 0 95), (95, s_aload 0 96), (96, s_dup 97), (97, s_getf 14 21 100), (100, s_const (.int (1)) 101), (101, s_iadd 102), (102, s_putf 14 21 0 105), (105, s_return)]
set_option maxRecDepth 20000 in
theorem ok_X15_buy {E : ZEX} {X : ZMX} {d mc ms : Nat} {P : ZPT} {T : ZTT} (h : ZCX E X MX15_buy d mc ms P T) : ∀ pc, ZRow E X MX15_buy mc ms P T pc (ztb (tb_X15_buy E d mc ms) pc) := ztb_ok (by
  unfold tb_X15_buy
  refine zfmc (r_aload_n h (pc := 0) (kf := 0) 0 (by decide +kernel) rfl) ?_
  refine zfmc (r_getf h (pc := 1) (ix := 34) (by decide +kernel) ckX15 10 (by decide) wk_bb5033aff6) ?_
  refine zfmc (r_getfN h (pc := 4) (ix := 302) (by decide +kernel) ckX14 3 (by decide) wk_f4f89b3b47) ?_
  refine zfmc (r_iload_n h (pc := 7) (kf := 1) 1 (by decide +kernel) rfl) ?_
  refine zfmc (r_dup2 h (pc := 8) (by decide +kernel)) ?_
  refine zfmc (r_iaload h (pc := 9) (by decide +kernel)) ?_
  refine zfmc (r_iconst h (pc := 10) (z := 1) (by decide +kernel) (1) (by decide +kernel)) ?_
  refine zfmc (r_isub h (pc := 11) (by decide +kernel)) ?_
  refine zfmc (r_iastore h (pc := 12) (by decide +kernel)) ?_
  refine zfmc (r_aload_n h (pc := 13) (kf := 0) 0 (by decide +kernel) rfl) ?_
  refine zfmc (r_dup h (pc := 14) (by decide +kernel)) ?_
  refine zfmc (r_getf h (pc := 15) (ix := 291) (by decide +kernel) ckX15 16 (by decide) wk_7886e16464) ?_
  refine zfmc (r_aload_n h (pc := 18) (kf := 0) 0 (by decide +kernel) rfl) ?_
  refine zfmc (r_getf h (pc := 19) (ix := 20) (by decide +kernel) ckX15 6 (by decide) wk_bda7210969) ?_
  refine zfmc (r_getfN h (pc := 22) (ix := 212) (by decide +kernel) ckX13 7 (by decide) wk_82d99483c8) ?_
  refine zfmc (r_iload_n h (pc := 25) (kf := 1) 1 (by decide +kernel) rfl) ?_
  refine zfmc (r_iaload h (pc := 26) (by decide +kernel)) ?_
  refine zfmc (r_isub h (pc := 27) (by decide +kernel)) ?_
  refine zfmc (r_putf h (pc := 28) (ix := 291) (by decide +kernel) ckX15 16 (by decide) 0 (fty := tyX15 16) (tyX15_ok 16 (by decide)) rfl rfl wk_7886e16464) ?_
  refine zfmc (r_aload_n h (pc := 31) (kf := 0) 0 (by decide +kernel) rfl) ?_
  refine zfmc (r_dup h (pc := 32) (by decide +kernel)) ?_
  refine zfmc (r_getf h (pc := 33) (ix := 294) (by decide +kernel) ckX15 17 (by decide) wk_fadba25f12) ?_
  refine zfmc (r_iconst h (pc := 36) (z := 1) (by decide +kernel) (1) (by decide +kernel)) ?_
  refine zfmc (r_isub h (pc := 37) (by decide +kernel)) ?_
  refine zfmc (r_putf h (pc := 38) (ix := 294) (by decide +kernel) ckX15 17 (by decide) 0 (fty := tyX15 17) (tyX15_ok 17 (by decide)) rfl rfl wk_fadba25f12) ?_
  refine zfmc (r_aload_n h (pc := 41) (kf := 0) 0 (by decide +kernel) rfl) ?_
  refine zfmc (r_getf h (pc := 42) (ix := 34) (by decide +kernel) ckX15 10 (by decide) wk_bb5033aff6) ?_
  refine zfmc (r_aload_n h (pc := 45) (kf := 0) 0 (by decide +kernel) rfl) ?_
  refine zfmc (r_getf h (pc := 46) (ix := 279) (by decide +kernel) ckX15 11 (by decide) wk_df7a3a0d01) ?_
  refine zfmc (r_iload_n h (pc := 49) (kf := 1) 1 (by decide +kernel) rfl) ?_
  refine zfmc (r_callV h (pc := 50) (ix := 357) (by decide +kernel) ckX14 2 mcX14_discard wk_f9bda2d395 wk_56a0df1c4d wk_8fa8d0d18b rfl) ?_
  refine zfmc (r_aload_n h (pc := 53) (kf := 0) 0 (by decide +kernel) rfl) ?_
  refine zfmc (r_getf h (pc := 54) (ix := 34) (by decide +kernel) ckX15 10 (by decide) wk_bb5033aff6) ?_
  refine zfmc (r_getfN h (pc := 57) (ix := 360) (by decide +kernel) ckX14 5 (by decide) wk_1c5eb1bfbd) ?_
  refine zfmc (r_iload_n h (pc := 60) (kf := 1) 1 (by decide +kernel) rfl) ?_
  refine zfmc (r_dup2 h (pc := 61) (by decide +kernel)) ?_
  refine zfmc (r_iaload h (pc := 62) (by decide +kernel)) ?_
  refine zfmc (r_iconst h (pc := 63) (z := 1) (by decide +kernel) (1) (by decide +kernel)) ?_
  refine zfmc (r_iadd h (pc := 64) (by decide +kernel)) ?_
  refine zfmc (r_iastore h (pc := 65) (by decide +kernel)) ?_
  refine zfmc (r_aload_n h (pc := 66) (kf := 0) 0 (by decide +kernel) rfl) ?_
  refine zfmc (r_getf h (pc := 67) (ix := 34) (by decide +kernel) ckX15 10 (by decide) wk_bb5033aff6) ?_
  refine zfmc (r_getfN h (pc := 70) (ix := 363) (by decide +kernel) ckX14 12 (by decide) wk_c6f6c027e3) ?_
  refine zfmc (r_aload_n h (pc := 73) (kf := 0) 0 (by decide +kernel) rfl) ?_
  refine zfmc (r_getf h (pc := 74) (ix := 279) (by decide +kernel) ckX15 11 (by decide) wk_df7a3a0d01) ?_
  refine zfmc (r_dup2 h (pc := 77) (by decide +kernel)) ?_
  refine zfmc (r_iaload h (pc := 78) (by decide +kernel)) ?_
  refine zfmc (r_iconst h (pc := 79) (z := 1) (by decide +kernel) (1) (by decide +kernel)) ?_
  refine zfmc (r_iadd h (pc := 80) (by decide +kernel)) ?_
  refine zfmc (r_iastore h (pc := 81) (by decide +kernel)) ?_
  refine zfmc (r_aload_n h (pc := 82) (kf := 0) 0 (by decide +kernel) rfl) ?_
  refine zfmc (r_getf h (pc := 83) (ix := 34) (by decide +kernel) ckX15 10 (by decide) wk_bb5033aff6) ?_
  refine zfmc (r_dup h (pc := 86) (by decide +kernel)) ?_
  refine zfmc (r_getfN h (pc := 87) (ix := 364) (by decide +kernel) ckX14 2 (by decide) wk_54a19969e5) ?_
  refine zfmc (r_iconst h (pc := 90) (z := 1) (by decide +kernel) (1) (by decide +kernel)) ?_
  refine zfmc (r_iadd h (pc := 91) (by decide +kernel)) ?_
  refine zfmc (r_putfN h (pc := 92) (ix := 364) (by decide +kernel) ckX14 2 (by decide) 0 (fty := tyX14 2) (tyX14_ok 2 (by decide)) rfl rfl wk_54a19969e5) ?_
  refine zfmc (r_aload_n h (pc := 95) (kf := 0) 0 (by decide +kernel) rfl) ?_
  refine zfmc (r_dup h (pc := 96) (by decide +kernel)) ?_
  refine zfmc (r_getf h (pc := 97) (ix := 367) (by decide +kernel) ckX15 21 (by decide) wk_fc4541e523) ?_
  refine zfmc (r_iconst h (pc := 100) (z := 1) (by decide +kernel) (1) (by decide +kernel)) ?_
  refine zfmc (r_iadd h (pc := 101) (by decide +kernel)) ?_
  refine zfmc (r_putf h (pc := 102) (ix := 367) (by decide +kernel) ckX15 21 (by decide) 0 (fty := tyX15 21) (tyX15_ok 21 (by decide)) rfl rfl wk_fc4541e523) ?_
  refine zfmc (r_return h (pc := 105) (by decide +kernel) rfl) ?_
  exact zfm0)
def tb_X15_turn (E : ZEX) (d mc ms : Nat) : List (Nat × ZStep) := [(0, s_aload 0 1), (1, s_aload 1 2), (2, s_putf 14 10 3 5), (5, s_aload 0 6), (6, s_iload 2 7), (7, s_putf 14 11 0 10), (10, s_aload 0 11), (11, s_const (.int (0)) 12), (12, s_putf 14 16 0 15), (15, s_aload 0 16), (16, s_const (.int (1)) 17), (17, s_putf 14 17 0 20), (20, s_aload 0 21), (21, s_const (.int (0)) 22), (22, s_putf 14 13 0 25), (25, s_aload 0 26), (26, s_const (.int (0)) 27), (27, s_putf 14 20 0 30), (30, s_aload 0 31), (31, s_const (.int (0)) 32), (32, s_putf 14 21 0 35), (35, s_const (.int (0)) 36), (36, s_istore 3 37), (37, s_iload 3 38), (38, s_const (.int (10)) 40), (40, s_icmp_ge 56 43), (43, s_aload 0 44), (44, s_getf 14 15 47), (47, s_iload 3 48), (48, s_const (.int (0)) 49), (49, s_iastore E 50), (50, s_iinc 3 (1) 53), (53, s_goto 37), (56, s_const (.int (0)) 57), (57, s_istore 3 58), (58, s_iload 3 59), (59, s_const (.int (5)) 60), (60, s_icmp_ge 73 63), (63, s_aload 0 64), (64, s_callV E d mc ms 14 MX15_drawOne 0 67), (67, s_iinc 3 (1) 70), (70, s_goto 58), (73, s_aload 0 74), (74, s_callV E d mc ms 14 MX15_playHand 0 77), (77, s_aload 0 78), (78, s_aload 0 79), (79, s_getf 14 16 82), (82, s_putf 14 18 0 85), (85, s_aload 0 86), (86, s_aload 0 87), (87, s_getf 14 17 90), (90, s_putf 14 19 0 93), (93, s_aload 1 94), (94, s_getf 13 13 97), (97, s_iload 2 98), (98, s_aload 0 99), (99, s_getf 14 16 102), (102, s_iastore E 103), (103, s_const (.int (0)) 104), (104, s_istore 3 105), (105, s_iload 3 106), (106, s_aload 0 107), (107, s_getf 14 6 110), (110, s_getf 12 16 113), (113, s_icmp_ge 143 116), (116, s_aload 0 117), (117, s_iload 3 118), (118, s_callV E d mc ms 14 MX15_can 1 121), (121, s_if_eq 137 124), (124, s_aload 0 125), (125, s_aload 0 126), (126, s_getf 14 6 129), (129, s_getf 12 17 132), (132, s_iload 3 133), (133, s_iaload E 134), (134, s_callV E d mc ms 14 MX15_buy 1 137), (137, s_iinc 3 (1) 140), (140, s_goto 105), (143, s_const (.int (0)) 144), (144, s_istore 3 145), (145, s_iload 3 146), (146, s_aload 0 147), (147, s_getf 14 13 150), (150, s_icmp_ge 170 153), (153, s_aload 1 154), (154, s_iload 2 155), (155, s_aload 0 156), (156, s_getf 14 12 159), (159, s_iload 3 160), (160, s_iaload E 161), (161, s_callV E d mc ms 13 MX14_discard 2 164), (164, s_iinc 3 (1) 167), (167, s_goto 145), (170, s_aload 0 171), (171, s_const (.int (0)) 172), (172, s_putf 14 13 0 175), (175, s_return)]
set_option maxRecDepth 20000 in
theorem ok_X15_turn {E : ZEX} {X : ZMX} {d mc ms : Nat} {P : ZPT} {T : ZTT} (h : ZCX E X MX15_turn d mc ms P T) : ∀ pc, ZRow E X MX15_turn mc ms P T pc (ztb (tb_X15_turn E d mc ms) pc) := ztb_ok (by
  unfold tb_X15_turn
  refine zfmc (r_aload_n h (pc := 0) (kf := 0) 0 (by decide +kernel) rfl) ?_
  refine zfmc (r_aload_n h (pc := 1) (kf := 1) 1 (by decide +kernel) rfl) ?_
  refine zfmc (r_putf h (pc := 2) (ix := 34) (by decide +kernel) ckX15 10 (by decide) 3 (fty := tyX15 10) (tyX15_ok 10 (by decide)) rfl rfl wk_bb5033aff6) ?_
  refine zfmc (r_aload_n h (pc := 5) (kf := 0) 0 (by decide +kernel) rfl) ?_
  refine zfmc (r_iload_n h (pc := 6) (kf := 2) 2 (by decide +kernel) rfl) ?_
  refine zfmc (r_putf h (pc := 7) (ix := 279) (by decide +kernel) ckX15 11 (by decide) 0 (fty := tyX15 11) (tyX15_ok 11 (by decide)) rfl rfl wk_df7a3a0d01) ?_
  refine zfmc (r_aload_n h (pc := 10) (kf := 0) 0 (by decide +kernel) rfl) ?_
  refine zfmc (r_iconst h (pc := 11) (z := 0) (by decide +kernel) (0) (by decide +kernel)) ?_
  refine zfmc (r_putf h (pc := 12) (ix := 291) (by decide +kernel) ckX15 16 (by decide) 0 (fty := tyX15 16) (tyX15_ok 16 (by decide)) rfl rfl wk_7886e16464) ?_
  refine zfmc (r_aload_n h (pc := 15) (kf := 0) 0 (by decide +kernel) rfl) ?_
  refine zfmc (r_iconst h (pc := 16) (z := 1) (by decide +kernel) (1) (by decide +kernel)) ?_
  refine zfmc (r_putf h (pc := 17) (ix := 294) (by decide +kernel) ckX15 17 (by decide) 0 (fty := tyX15 17) (tyX15_ok 17 (by decide)) rfl rfl wk_fadba25f12) ?_
  refine zfmc (r_aload_n h (pc := 20) (kf := 0) 0 (by decide +kernel) rfl) ?_
  refine zfmc (r_iconst h (pc := 21) (z := 0) (by decide +kernel) (0) (by decide +kernel)) ?_
  refine zfmc (r_putf h (pc := 22) (ix := 285) (by decide +kernel) ckX15 13 (by decide) 0 (fty := tyX15 13) (tyX15_ok 13 (by decide)) rfl rfl wk_c77fad5ba9) ?_
  refine zfmc (r_aload_n h (pc := 25) (kf := 0) 0 (by decide +kernel) rfl) ?_
  refine zfmc (r_iconst h (pc := 26) (z := 0) (by decide +kernel) (0) (by decide +kernel)) ?_
  refine zfmc (r_putf h (pc := 27) (ix := 331) (by decide +kernel) ckX15 20 (by decide) 0 (fty := tyX15 20) (tyX15_ok 20 (by decide)) rfl rfl wk_63e7676f14) ?_
  refine zfmc (r_aload_n h (pc := 30) (kf := 0) 0 (by decide +kernel) rfl) ?_
  refine zfmc (r_iconst h (pc := 31) (z := 0) (by decide +kernel) (0) (by decide +kernel)) ?_
  refine zfmc (r_putf h (pc := 32) (ix := 367) (by decide +kernel) ckX15 21 (by decide) 0 (fty := tyX15 21) (tyX15_ok 21 (by decide)) rfl rfl wk_fc4541e523) ?_
  refine zfmc (r_iconst h (pc := 35) (z := 0) (by decide +kernel) (0) (by decide +kernel)) ?_
  refine zfmc (r_istore_n h (pc := 36) (kf := 3) 3 (by decide +kernel) rfl (by decide +kernel)) ?_
  refine zfmc (r_iload_n h (pc := 37) (kf := 3) 3 (by decide +kernel) rfl) ?_
  refine zfmc (r_bipush h (pc := 38) (z := 10) (by decide +kernel) (10) (by decide +kernel)) ?_
  refine zfmc (r_icmp_ge h (pc := 40) (off := 16) (by decide +kernel) 56 (by decide +kernel)) ?_
  refine zfmc (r_aload_n h (pc := 43) (kf := 0) 0 (by decide +kernel) rfl) ?_
  refine zfmc (r_getf h (pc := 44) (ix := 40) (by decide +kernel) ckX15 15 (by decide) wk_12c1aebea4) ?_
  refine zfmc (r_iload_n h (pc := 47) (kf := 3) 3 (by decide +kernel) rfl) ?_
  refine zfmc (r_iconst h (pc := 48) (z := 0) (by decide +kernel) (0) (by decide +kernel)) ?_
  refine zfmc (r_iastore h (pc := 49) (by decide +kernel)) ?_
  refine zfmc (r_iinc h (pc := 50) 3 (z := 1) (by decide +kernel) (1) (by decide +kernel) (by decide +kernel)) ?_
  refine zfmc (r_goto h (pc := 53) (off := -16) (by decide +kernel) 37 (by decide +kernel)) ?_
  refine zfmc (r_iconst h (pc := 56) (z := 0) (by decide +kernel) (0) (by decide +kernel)) ?_
  refine zfmc (r_istore_n h (pc := 57) (kf := 3) 3 (by decide +kernel) rfl (by decide +kernel)) ?_
  refine zfmc (r_iload_n h (pc := 58) (kf := 3) 3 (by decide +kernel) rfl) ?_
  refine zfmc (r_iconst h (pc := 59) (z := 5) (by decide +kernel) (5) (by decide +kernel)) ?_
  refine zfmc (r_icmp_ge h (pc := 60) (off := 13) (by decide +kernel) 73 (by decide +kernel)) ?_
  refine zfmc (r_aload_n h (pc := 63) (kf := 0) 0 (by decide +kernel) rfl) ?_
  refine zfmc (r_callV h (pc := 64) (ix := 340) (by decide +kernel) ckX15 0 mcX15_drawOne wk_1107aef6bd wk_5e330a6f67 wk_a6f46fcbae rfl) ?_
  refine zfmc (r_iinc h (pc := 67) 3 (z := 1) (by decide +kernel) (1) (by decide +kernel) (by decide +kernel)) ?_
  refine zfmc (r_goto h (pc := 70) (off := -12) (by decide +kernel) 58 (by decide +kernel)) ?_
  refine zfmc (r_aload_n h (pc := 73) (kf := 0) 0 (by decide +kernel) rfl) ?_
  refine zfmc (r_callV h (pc := 74) (ix := 370) (by decide +kernel) ckX15 0 mcX15_playHand wk_624ac6332c wk_dd972fa5db wk_95257ac65c rfl) ?_
  refine zfmc (r_aload_n h (pc := 77) (kf := 0) 0 (by decide +kernel) rfl) ?_
  refine zfmc (r_aload_n h (pc := 78) (kf := 0) 0 (by decide +kernel) rfl) ?_
  refine zfmc (r_getf h (pc := 79) (ix := 291) (by decide +kernel) ckX15 16 (by decide) wk_7886e16464) ?_
  refine zfmc (r_putf h (pc := 82) (ix := 373) (by decide +kernel) ckX15 18 (by decide) 0 (fty := tyX15 18) (tyX15_ok 18 (by decide)) rfl rfl wk_1d40bc64eb) ?_
  refine zfmc (r_aload_n h (pc := 85) (kf := 0) 0 (by decide +kernel) rfl) ?_
  refine zfmc (r_aload_n h (pc := 86) (kf := 0) 0 (by decide +kernel) rfl) ?_
  refine zfmc (r_getf h (pc := 87) (ix := 294) (by decide +kernel) ckX15 17 (by decide) wk_fadba25f12) ?_
  refine zfmc (r_putf h (pc := 90) (ix := 376) (by decide +kernel) ckX15 19 (by decide) 0 (fty := tyX15 19) (tyX15_ok 19 (by decide)) rfl rfl wk_83b4ac6f2a) ?_
  refine zfmc (r_aload_n h (pc := 93) (kf := 1) 1 (by decide +kernel) rfl) ?_
  refine zfmc (r_getfN h (pc := 94) (ix := 379) (by decide +kernel) ckX14 13 (by decide) wk_ef3d45b501) ?_
  refine zfmc (r_iload_n h (pc := 97) (kf := 2) 2 (by decide +kernel) rfl) ?_
  refine zfmc (r_aload_n h (pc := 98) (kf := 0) 0 (by decide +kernel) rfl) ?_
  refine zfmc (r_getf h (pc := 99) (ix := 291) (by decide +kernel) ckX15 16 (by decide) wk_7886e16464) ?_
  refine zfmc (r_iastore h (pc := 102) (by decide +kernel)) ?_
  refine zfmc (r_iconst h (pc := 103) (z := 0) (by decide +kernel) (0) (by decide +kernel)) ?_
  refine zfmc (r_istore_n h (pc := 104) (kf := 3) 3 (by decide +kernel) rfl (by decide +kernel)) ?_
  refine zfmc (r_iload_n h (pc := 105) (kf := 3) 3 (by decide +kernel) rfl) ?_
  refine zfmc (r_aload_n h (pc := 106) (kf := 0) 0 (by decide +kernel) rfl) ?_
  refine zfmc (r_getf h (pc := 107) (ix := 20) (by decide +kernel) ckX15 6 (by decide) wk_bda7210969) ?_
  refine zfmc (r_getfN h (pc := 110) (ix := 204) (by decide +kernel) ckX13 16 (by decide) wk_194e060314) ?_
  refine zfmc (r_icmp_ge h (pc := 113) (off := 30) (by decide +kernel) 143 (by decide +kernel)) ?_
  refine zfmc (r_aload_n h (pc := 116) (kf := 0) 0 (by decide +kernel) rfl) ?_
  refine zfmc (r_iload_n h (pc := 117) (kf := 3) 3 (by decide +kernel) rfl) ?_
  refine zfmc (r_callV h (pc := 118) (ix := 382) (by decide +kernel) ckX15 1 mcX15_can wk_98281a42b9 wk_ebc1857466 wk_208a4f0ed6 rfl) ?_
  refine zfmc (r_if_eq h (pc := 121) (off := 16) (by decide +kernel) 137 (by decide +kernel)) ?_
  refine zfmc (r_aload_n h (pc := 124) (kf := 0) 0 (by decide +kernel) rfl) ?_
  refine zfmc (r_aload_n h (pc := 125) (kf := 0) 0 (by decide +kernel) rfl) ?_
  refine zfmc (r_getf h (pc := 126) (ix := 20) (by decide +kernel) ckX15 6 (by decide) wk_bda7210969) ?_
  refine zfmc (r_getfN h (pc := 129) (ix := 201) (by decide +kernel) ckX13 17 (by decide) wk_f19993cbc1) ?_
  refine zfmc (r_iload_n h (pc := 132) (kf := 3) 3 (by decide +kernel) rfl) ?_
  refine zfmc (r_iaload h (pc := 133) (by decide +kernel)) ?_
  refine zfmc (r_callV h (pc := 134) (ix := 385) (by decide +kernel) ckX15 1 mcX15_buy wk_de5328e3a9 wk_f954051cc5 wk_6b31e175ec rfl) ?_
  refine zfmc (r_iinc h (pc := 137) 3 (z := 1) (by decide +kernel) (1) (by decide +kernel) (by decide +kernel)) ?_
  refine zfmc (r_goto h (pc := 140) (off := -35) (by decide +kernel) 105 (by decide +kernel)) ?_
  refine zfmc (r_iconst h (pc := 143) (z := 0) (by decide +kernel) (0) (by decide +kernel)) ?_
  refine zfmc (r_istore_n h (pc := 144) (kf := 3) 3 (by decide +kernel) rfl (by decide +kernel)) ?_
  refine zfmc (r_iload_n h (pc := 145) (kf := 3) 3 (by decide +kernel) rfl) ?_
  refine zfmc (r_aload_n h (pc := 146) (kf := 0) 0 (by decide +kernel) rfl) ?_
  refine zfmc (r_getf h (pc := 147) (ix := 285) (by decide +kernel) ckX15 13 (by decide) wk_c77fad5ba9) ?_
  refine zfmc (r_icmp_ge h (pc := 150) (off := 20) (by decide +kernel) 170 (by decide +kernel)) ?_
  refine zfmc (r_aload_n h (pc := 153) (kf := 1) 1 (by decide +kernel) rfl) ?_
  refine zfmc (r_iload_n h (pc := 154) (kf := 2) 2 (by decide +kernel) rfl) ?_
  refine zfmc (r_aload_n h (pc := 155) (kf := 0) 0 (by decide +kernel) rfl) ?_
  refine zfmc (r_getf h (pc := 156) (ix := 37) (by decide +kernel) ckX15 12 (by decide) wk_340e4a7024) ?_
  refine zfmc (r_iload_n h (pc := 159) (kf := 3) 3 (by decide +kernel) rfl) ?_
  refine zfmc (r_iaload h (pc := 160) (by decide +kernel)) ?_
  refine zfmc (r_callV h (pc := 161) (ix := 357) (by decide +kernel) ckX14 2 mcX14_discard wk_f9bda2d395 wk_56a0df1c4d wk_8fa8d0d18b rfl) ?_
  refine zfmc (r_iinc h (pc := 164) 3 (z := 1) (by decide +kernel) (1) (by decide +kernel) (by decide +kernel)) ?_
  refine zfmc (r_goto h (pc := 167) (off := -22) (by decide +kernel) 145 (by decide +kernel)) ?_
  refine zfmc (r_aload_n h (pc := 170) (kf := 0) 0 (by decide +kernel) rfl) ?_
  refine zfmc (r_iconst h (pc := 171) (z := 0) (by decide +kernel) (0) (by decide +kernel)) ?_
  refine zfmc (r_putf h (pc := 172) (ix := 285) (by decide +kernel) ckX15 13 (by decide) 0 (fty := tyX15 13) (tyX15_ok 13 (by decide)) rfl rfl wk_c77fad5ba9) ?_
  refine zfmc (r_return h (pc := 175) (by decide +kernel) rfl) ?_
  exact zfm0)
def tb_X15_rounds (E : ZEX) (d mc ms : Nat) : List (Nat × ZStep) := [(0, s_const (.int (0)) 1), (1, s_istore 3 2), (2, s_iload 3 3), (3, s_iload 2 4), (4, s_icmp_ge 51 7), (7, s_const (.int (0)) 8), (8, s_istore 4 10), (10, s_iload 4 12), (12, s_aload 0 13), (13, s_getf 14 6 16), (16, s_getf 12 12 19), (19, s_icmp_ge 35 22), (22, s_aload 0 23), (23, s_aload 1 24), (24, s_iload 4 26), (26, s_callV E d mc ms 14 MX15_turn 2 29), (29, s_iinc 4 (1) 32), (32, s_goto 10), (35, s_aload 1 36), (36, s_dup 37), (37, s_getf 13 0 40), (40, s_const (.int (1)) 41), (41, s_iadd 42), (42, s_putf 13 0 0 45), (45, s_iinc 3 (1) 48), (48, s_goto 2), (51, s_return)]
set_option maxRecDepth 20000 in
theorem ok_X15_rounds {E : ZEX} {X : ZMX} {d mc ms : Nat} {P : ZPT} {T : ZTT} (h : ZCX E X MX15_rounds d mc ms P T) : ∀ pc, ZRow E X MX15_rounds mc ms P T pc (ztb (tb_X15_rounds E d mc ms) pc) := ztb_ok (by
  unfold tb_X15_rounds
  refine zfmc (r_iconst h (pc := 0) (z := 0) (by decide +kernel) (0) (by decide +kernel)) ?_
  refine zfmc (r_istore_n h (pc := 1) (kf := 3) 3 (by decide +kernel) rfl (by decide +kernel)) ?_
  refine zfmc (r_iload_n h (pc := 2) (kf := 3) 3 (by decide +kernel) rfl) ?_
  refine zfmc (r_iload_n h (pc := 3) (kf := 2) 2 (by decide +kernel) rfl) ?_
  refine zfmc (r_icmp_ge h (pc := 4) (off := 47) (by decide +kernel) 51 (by decide +kernel)) ?_
  refine zfmc (r_iconst h (pc := 7) (z := 0) (by decide +kernel) (0) (by decide +kernel)) ?_
  refine zfmc (r_istore h (pc := 8) 4 (by decide +kernel) (by decide +kernel)) ?_
  refine zfmc (r_iload h (pc := 10) 4 (by decide +kernel)) ?_
  refine zfmc (r_aload_n h (pc := 12) (kf := 0) 0 (by decide +kernel) rfl) ?_
  refine zfmc (r_getf h (pc := 13) (ix := 20) (by decide +kernel) ckX15 6 (by decide) wk_bda7210969) ?_
  refine zfmc (r_getfN h (pc := 16) (ix := 56) (by decide +kernel) ckX13 12 (by decide) wk_e206866251) ?_
  refine zfmc (r_icmp_ge h (pc := 19) (off := 16) (by decide +kernel) 35 (by decide +kernel)) ?_
  refine zfmc (r_aload_n h (pc := 22) (kf := 0) 0 (by decide +kernel) rfl) ?_
  refine zfmc (r_aload_n h (pc := 23) (kf := 1) 1 (by decide +kernel) rfl) ?_
  refine zfmc (r_iload h (pc := 24) 4 (by decide +kernel)) ?_
  refine zfmc (r_callV h (pc := 26) (ix := 388) (by decide +kernel) ckX15 2 mcX15_turn wk_98e21f9383 wk_1849f28298 wk_8f33aebc51 rfl) ?_
  refine zfmc (r_iinc h (pc := 29) 4 (z := 1) (by decide +kernel) (1) (by decide +kernel) (by decide +kernel)) ?_
  refine zfmc (r_goto h (pc := 32) (off := -22) (by decide +kernel) 10 (by decide +kernel)) ?_
  refine zfmc (r_aload_n h (pc := 35) (kf := 1) 1 (by decide +kernel) rfl) ?_
  refine zfmc (r_dup h (pc := 36) (by decide +kernel)) ?_
  refine zfmc (r_getfN h (pc := 37) (ix := 288) (by decide +kernel) ckX14 0 (by decide) wk_79428fe769) ?_
  refine zfmc (r_iconst h (pc := 40) (z := 1) (by decide +kernel) (1) (by decide +kernel)) ?_
  refine zfmc (r_iadd h (pc := 41) (by decide +kernel)) ?_
  refine zfmc (r_putfN h (pc := 42) (ix := 288) (by decide +kernel) ckX14 0 (by decide) 0 (fty := tyX14 0) (tyX14_ok 0 (by decide)) rfl rfl wk_79428fe769) ?_
  refine zfmc (r_iinc h (pc := 45) 3 (z := 1) (by decide +kernel) (1) (by decide +kernel) (by decide +kernel)) ?_
  refine zfmc (r_goto h (pc := 48) (off := -46) (by decide +kernel) 2 (by decide +kernel)) ?_
  refine zfmc (r_return h (pc := 51) (by decide +kernel) rfl) ?_
  exact zfm0)
def tb_X15_worthOf (E : ZEX) (d mc ms : Nat) : List (Nat × ZStep) := [(0, s_const (.int (0)) 1), (1, s_istore 3 2), (2, s_const (.int (0)) 3), (3, s_istore 4 5), (5, s_iload 4 7), (7, s_aload 1 8), (8, s_getf 13 7 11), (11, s_iload 2 12), (12, s_iaload E 13), (13, s_icmp_ge 45 16), (16, s_iload 3 17), (17, s_aload 0 18), (18, s_getf 14 6 21), (21, s_getf 12 8 24), (24, s_aload 1 25), (25, s_getf 13 6 28), (28, s_const (.int (60)) 30), (30, s_iload 2 31), (31, s_imul 32), (32, s_iload 4 34), (34, s_iadd 35), (35, s_iaload E 36), (36, s_iaload E 37), (37, s_iadd 38), (38, s_istore 3 39), (39, s_iinc 4 (1) 42), (42, s_goto 5), (45, s_const (.int (0)) 46), (46, s_istore 4 48), (48, s_iload 4 50), (50, s_aload 1 51), (51, s_getf 13 9 54), (54, s_iload 2 55), (55, s_iaload E 56), (56, s_icmp_ge 88 59), (59, s_iload 3 60), (60, s_aload 0 61), (61, s_getf 14 6 64), (64, s_getf 12 8 67), (67, s_aload 1 68), (68, s_getf 13 8 71), (71, s_const (.int (60)) 73), (73, s_iload 2 74), (74, s_imul 75), (75, s_iload 4 77), (77, s_iadd 78), (78, s_iaload E 79), (79, s_iaload E 80), (80, s_iadd 81), (81, s_istore 3 82), (82, s_iinc 4 (1) 85), (85, s_goto 48), (88, s_iload 3 89), (89, s_ireturn)]
set_option maxRecDepth 20000 in
theorem ok_X15_worthOf {E : ZEX} {X : ZMX} {d mc ms : Nat} {P : ZPT} {T : ZTT} (h : ZCX E X MX15_worthOf d mc ms P T) : ∀ pc, ZRow E X MX15_worthOf mc ms P T pc (ztb (tb_X15_worthOf E d mc ms) pc) := ztb_ok (by
  unfold tb_X15_worthOf
  refine zfmc (r_iconst h (pc := 0) (z := 0) (by decide +kernel) (0) (by decide +kernel)) ?_
  refine zfmc (r_istore_n h (pc := 1) (kf := 3) 3 (by decide +kernel) rfl (by decide +kernel)) ?_
  refine zfmc (r_iconst h (pc := 2) (z := 0) (by decide +kernel) (0) (by decide +kernel)) ?_
  refine zfmc (r_istore h (pc := 3) 4 (by decide +kernel) (by decide +kernel)) ?_
  refine zfmc (r_iload h (pc := 5) 4 (by decide +kernel)) ?_
  refine zfmc (r_aload_n h (pc := 7) (kf := 1) 1 (by decide +kernel) rfl) ?_
  refine zfmc (r_getfN h (pc := 8) (ix := 392) (by decide +kernel) ckX14 7 (by decide) wk_67bfe7c55c) ?_
  refine zfmc (r_iload_n h (pc := 11) (kf := 2) 2 (by decide +kernel) rfl) ?_
  refine zfmc (r_iaload h (pc := 12) (by decide +kernel)) ?_
  refine zfmc (r_icmp_ge h (pc := 13) (off := 32) (by decide +kernel) 45 (by decide +kernel)) ?_
  refine zfmc (r_iload_n h (pc := 16) (kf := 3) 3 (by decide +kernel) rfl) ?_
  refine zfmc (r_aload_n h (pc := 17) (kf := 0) 0 (by decide +kernel) rfl) ?_
  refine zfmc (r_getf h (pc := 18) (ix := 20) (by decide +kernel) ckX15 6 (by decide) wk_bda7210969) ?_
  refine zfmc (r_getfN h (pc := 21) (ix := 219) (by decide +kernel) ckX13 8 (by decide) wk_6a7a13c022) ?_
  refine zfmc (r_aload_n h (pc := 24) (kf := 1) 1 (by decide +kernel) rfl) ?_
  refine zfmc (r_getfN h (pc := 25) (ix := 395) (by decide +kernel) ckX14 6 (by decide) wk_92a08cf95e) ?_
  refine zfmc (r_bipush h (pc := 28) (z := 60) (by decide +kernel) (60) (by decide +kernel)) ?_
  refine zfmc (r_iload_n h (pc := 30) (kf := 2) 2 (by decide +kernel) rfl) ?_
  refine zfmc (r_imul h (pc := 31) (by decide +kernel)) ?_
  refine zfmc (r_iload h (pc := 32) 4 (by decide +kernel)) ?_
  refine zfmc (r_iadd h (pc := 34) (by decide +kernel)) ?_
  refine zfmc (r_iaload h (pc := 35) (by decide +kernel)) ?_
  refine zfmc (r_iaload h (pc := 36) (by decide +kernel)) ?_
  refine zfmc (r_iadd h (pc := 37) (by decide +kernel)) ?_
  refine zfmc (r_istore_n h (pc := 38) (kf := 3) 3 (by decide +kernel) rfl (by decide +kernel)) ?_
  refine zfmc (r_iinc h (pc := 39) 4 (z := 1) (by decide +kernel) (1) (by decide +kernel) (by decide +kernel)) ?_
  refine zfmc (r_goto h (pc := 42) (off := -37) (by decide +kernel) 5 (by decide +kernel)) ?_
  refine zfmc (r_iconst h (pc := 45) (z := 0) (by decide +kernel) (0) (by decide +kernel)) ?_
  refine zfmc (r_istore h (pc := 46) 4 (by decide +kernel) (by decide +kernel)) ?_
  refine zfmc (r_iload h (pc := 48) 4 (by decide +kernel)) ?_
  refine zfmc (r_aload_n h (pc := 50) (kf := 1) 1 (by decide +kernel) rfl) ?_
  refine zfmc (r_getfN h (pc := 51) (ix := 398) (by decide +kernel) ckX14 9 (by decide) wk_f3aeaa7482) ?_
  refine zfmc (r_iload_n h (pc := 54) (kf := 2) 2 (by decide +kernel) rfl) ?_
  refine zfmc (r_iaload h (pc := 55) (by decide +kernel)) ?_
  refine zfmc (r_icmp_ge h (pc := 56) (off := 32) (by decide +kernel) 88 (by decide +kernel)) ?_
  refine zfmc (r_iload_n h (pc := 59) (kf := 3) 3 (by decide +kernel) rfl) ?_
  refine zfmc (r_aload_n h (pc := 60) (kf := 0) 0 (by decide +kernel) rfl) ?_
  refine zfmc (r_getf h (pc := 61) (ix := 20) (by decide +kernel) ckX15 6 (by decide) wk_bda7210969) ?_
  refine zfmc (r_getfN h (pc := 64) (ix := 219) (by decide +kernel) ckX13 8 (by decide) wk_6a7a13c022) ?_
  refine zfmc (r_aload_n h (pc := 67) (kf := 1) 1 (by decide +kernel) rfl) ?_
  refine zfmc (r_getfN h (pc := 68) (ix := 401) (by decide +kernel) ckX14 8 (by decide) wk_463c0a872f) ?_
  refine zfmc (r_bipush h (pc := 71) (z := 60) (by decide +kernel) (60) (by decide +kernel)) ?_
  refine zfmc (r_iload_n h (pc := 73) (kf := 2) 2 (by decide +kernel) rfl) ?_
  refine zfmc (r_imul h (pc := 74) (by decide +kernel)) ?_
  refine zfmc (r_iload h (pc := 75) 4 (by decide +kernel)) ?_
  refine zfmc (r_iadd h (pc := 77) (by decide +kernel)) ?_
  refine zfmc (r_iaload h (pc := 78) (by decide +kernel)) ?_
  refine zfmc (r_iaload h (pc := 79) (by decide +kernel)) ?_
  refine zfmc (r_iadd h (pc := 80) (by decide +kernel)) ?_
  refine zfmc (r_istore_n h (pc := 81) (kf := 3) 3 (by decide +kernel) rfl (by decide +kernel)) ?_
  refine zfmc (r_iinc h (pc := 82) 4 (z := 1) (by decide +kernel) (1) (by decide +kernel) (by decide +kernel)) ?_
  refine zfmc (r_goto h (pc := 85) (off := -37) (by decide +kernel) 48 (by decide +kernel)) ?_
  refine zfmc (r_iload_n h (pc := 88) (kf := 3) 3 (by decide +kernel) rfl) ?_
  refine zfmc (r_ireturn h (pc := 89) (by decide +kernel) rfl) ?_
  exact zfm0)
def tb_X15_leaderOf (E : ZEX) (d mc ms : Nat) : List (Nat × ZStep) := [(0, s_const (.int (-1)) 1), (1, s_istore 2 2), (2, s_const (.int (0)) 3), (3, s_istore 3 4), (4, s_iload 3 5), (5, s_aload 0 6), (6, s_getf 14 6 9), (9, s_getf 12 12 12), (12, s_icmp_ge 70 15), (15, s_iload 2 16), (16, s_const (.int (-1)) 17), (17, s_icmp_ne 24 20), (20, s_const (.int (1)) 21), (21, s_goto 37), (24, s_aload 0 25), (25, s_aload 1 26), (26, s_iload 3 27), (27, s_callV E d mc ms 14 MX15_worthOf 2 30), (30, s_aload 0 31), (31, s_aload 1 32), (32, s_iload 2 33), (33, s_callV E d mc ms 14 MX15_worthOf 2 36), (36, s_isub 37), (37, s_istore 4 39), (39, s_iload 4 41), (41, s_if_gt 62 44), (44, s_iload 4 46), (46, s_if_ne 64 49), (49, s_aload 1 50), (50, s_iload 3 51), (51, s_callV E d mc ms 13 MX14_all 1 54), (54, s_aload 1 55), (55, s_iload 2 56), (56, s_callV E d mc ms 13 MX14_all 1 59), (59, s_icmp_ge 64 62), (62, s_iload 3 63), (63, s_istore 2 64), (64, s_iinc 3 (1) 67), (67, s_goto 4), (70, s_iload 2 71), (71, s_ireturn)]
set_option maxRecDepth 20000 in
theorem ok_X15_leaderOf {E : ZEX} {X : ZMX} {d mc ms : Nat} {P : ZPT} {T : ZTT} (h : ZCX E X MX15_leaderOf d mc ms P T) : ∀ pc, ZRow E X MX15_leaderOf mc ms P T pc (ztb (tb_X15_leaderOf E d mc ms) pc) := ztb_ok (by
  unfold tb_X15_leaderOf
  refine zfmc (r_iconst h (pc := 0) (z := -1) (by decide +kernel) (-1) (by decide +kernel)) ?_
  refine zfmc (r_istore_n h (pc := 1) (kf := 2) 2 (by decide +kernel) rfl (by decide +kernel)) ?_
  refine zfmc (r_iconst h (pc := 2) (z := 0) (by decide +kernel) (0) (by decide +kernel)) ?_
  refine zfmc (r_istore_n h (pc := 3) (kf := 3) 3 (by decide +kernel) rfl (by decide +kernel)) ?_
  refine zfmc (r_iload_n h (pc := 4) (kf := 3) 3 (by decide +kernel) rfl) ?_
  refine zfmc (r_aload_n h (pc := 5) (kf := 0) 0 (by decide +kernel) rfl) ?_
  refine zfmc (r_getf h (pc := 6) (ix := 20) (by decide +kernel) ckX15 6 (by decide) wk_bda7210969) ?_
  refine zfmc (r_getfN h (pc := 9) (ix := 56) (by decide +kernel) ckX13 12 (by decide) wk_e206866251) ?_
  refine zfmc (r_icmp_ge h (pc := 12) (off := 58) (by decide +kernel) 70 (by decide +kernel)) ?_
  refine zfmc (r_iload_n h (pc := 15) (kf := 2) 2 (by decide +kernel) rfl) ?_
  refine zfmc (r_iconst h (pc := 16) (z := -1) (by decide +kernel) (-1) (by decide +kernel)) ?_
  refine zfmc (r_icmp_ne h (pc := 17) (off := 7) (by decide +kernel) 24 (by decide +kernel)) ?_
  refine zfmc (r_iconst h (pc := 20) (z := 1) (by decide +kernel) (1) (by decide +kernel)) ?_
  refine zfmc (r_goto h (pc := 21) (off := 16) (by decide +kernel) 37 (by decide +kernel)) ?_
  refine zfmc (r_aload_n h (pc := 24) (kf := 0) 0 (by decide +kernel) rfl) ?_
  refine zfmc (r_aload_n h (pc := 25) (kf := 1) 1 (by decide +kernel) rfl) ?_
  refine zfmc (r_iload_n h (pc := 26) (kf := 3) 3 (by decide +kernel) rfl) ?_
  refine zfmc (r_callV h (pc := 27) (ix := 404) (by decide +kernel) ckX15 2 mcX15_worthOf wk_fb0a21ee0e wk_92b92dda45 wk_87dffed090 rfl) ?_
  refine zfmc (r_aload_n h (pc := 30) (kf := 0) 0 (by decide +kernel) rfl) ?_
  refine zfmc (r_aload_n h (pc := 31) (kf := 1) 1 (by decide +kernel) rfl) ?_
  refine zfmc (r_iload_n h (pc := 32) (kf := 2) 2 (by decide +kernel) rfl) ?_
  refine zfmc (r_callV h (pc := 33) (ix := 404) (by decide +kernel) ckX15 2 mcX15_worthOf wk_fb0a21ee0e wk_92b92dda45 wk_87dffed090 rfl) ?_
  refine zfmc (r_isub h (pc := 36) (by decide +kernel)) ?_
  refine zfmc (r_istore h (pc := 37) 4 (by decide +kernel) (by decide +kernel)) ?_
  refine zfmc (r_iload h (pc := 39) 4 (by decide +kernel)) ?_
  refine zfmc (r_if_gt h (pc := 41) (off := 21) (by decide +kernel) 62 (by decide +kernel)) ?_
  refine zfmc (r_iload h (pc := 44) 4 (by decide +kernel)) ?_
  refine zfmc (r_if_ne h (pc := 46) (off := 18) (by decide +kernel) 64 (by decide +kernel)) ?_
  refine zfmc (r_aload_n h (pc := 49) (kf := 1) 1 (by decide +kernel) rfl) ?_
  refine zfmc (r_iload_n h (pc := 50) (kf := 3) 3 (by decide +kernel) rfl) ?_
  refine zfmc (r_callV h (pc := 51) (ix := 354) (by decide +kernel) ckX14 1 mcX14_all wk_0940095031 wk_bcc60fc80f wk_ab8f1e57c9 rfl) ?_
  refine zfmc (r_aload_n h (pc := 54) (kf := 1) 1 (by decide +kernel) rfl) ?_
  refine zfmc (r_iload_n h (pc := 55) (kf := 2) 2 (by decide +kernel) rfl) ?_
  refine zfmc (r_callV h (pc := 56) (ix := 354) (by decide +kernel) ckX14 1 mcX14_all wk_0940095031 wk_bcc60fc80f wk_ab8f1e57c9 rfl) ?_
  refine zfmc (r_icmp_ge h (pc := 59) (off := 5) (by decide +kernel) 64 (by decide +kernel)) ?_
  refine zfmc (r_iload_n h (pc := 62) (kf := 3) 3 (by decide +kernel) rfl) ?_
  refine zfmc (r_istore_n h (pc := 63) (kf := 2) 2 (by decide +kernel) rfl (by decide +kernel)) ?_
  refine zfmc (r_iinc h (pc := 64) 3 (z := 1) (by decide +kernel) (1) (by decide +kernel) (by decide +kernel)) ?_
  refine zfmc (r_goto h (pc := 67) (off := -63) (by decide +kernel) 4 (by decide +kernel)) ?_
  refine zfmc (r_iload_n h (pc := 70) (kf := 2) 2 (by decide +kernel) rfl) ?_
  refine zfmc (r_ireturn h (pc := 71) (by decide +kernel) rfl) ?_
  exact zfm0)
def tb_X15_counted (E : ZEX) (d mc ms : Nat) : List (Nat × ZStep) := [(0, s_const (.int (0)) 1), (1, s_istore 3 2), (2, s_iload 2 3), (3, s_tsw 0 [48, 53, 61, 69, 77, 110, 142, 147] 152), (48, s_aload 1 49), (49, s_getf 13 0 52), (52, s_ireturn), (53, s_aload 0 54), (54, s_getf 14 6 57), (57, s_getf 12 5 60), (60, s_ireturn), (61, s_aload 0 62), (62, s_getf 14 6 65), (65, s_getf 12 12 68), (68, s_ireturn), (69, s_aload 0 70), (70, s_getf 14 6 73), (73, s_getf 12 16 76), (76, s_ireturn), (77, s_const (.int (0)) 78), (78, s_istore 4 80), (80, s_iload 4 82), (82, s_aload 0 83), (83, s_getf 14 6 86), (86, s_getf 12 5 89), (89, s_icmp_ge 108 92), (92, s_iload 3 93), (93, s_aload 1 94), (94, s_getf 13 3 97), (97, s_iload 4 99), (99, s_iaload E 100), (100, s_iadd 101), (101, s_istore 3 102), (102, s_iinc 4 (1) 105), (105, s_goto 80), (108, s_iload 3 109), (109, s_ireturn), (110, s_const (.int (0)) 111), (111, s_istore 4 113), (113, s_iload 4 115), (115, s_aload 0 116), (116, s_getf 14 6 119), (119, s_getf 12 12 122), (122, s_icmp_ge 140 125), (125, s_iload 3 126), (126, s_aload 1 127), (127, s_iload 4 129), (129, s_callV E d mc ms 13 MX14_all 1 132), (132, s_iadd 133), (133, s_istore 3 134), (134, s_iinc 4 (1) 137), (137, s_goto 113), (140, s_iload 3 141), (141, s_ireturn), (142, s_aload 1 143), (143, s_getf 13 1 146), (146, s_ireturn), (147, s_aload 1 148), (148, s_getf 13 2 151), (151, s_ireturn), (152, s_aload 0 153), (153, s_getf 14 2 156), (156, s_ireturn)]
set_option maxRecDepth 20000 in
theorem ok_X15_counted {E : ZEX} {X : ZMX} {d mc ms : Nat} {P : ZPT} {T : ZTT} (h : ZCX E X MX15_counted d mc ms P T) : ∀ pc, ZRow E X MX15_counted mc ms P T pc (ztb (tb_X15_counted E d mc ms) pc) := ztb_ok (by
  unfold tb_X15_counted
  refine zfmc (r_iconst h (pc := 0) (z := 0) (by decide +kernel) (0) (by decide +kernel)) ?_
  refine zfmc (r_istore_n h (pc := 1) (kf := 3) 3 (by decide +kernel) rfl (by decide +kernel)) ?_
  refine zfmc (r_iload_n h (pc := 2) (kf := 2) 2 (by decide +kernel) rfl) ?_
  refine zfmc (r_tsw h (pc := 3) (dflt := 149) (lo := 0) (hi := 7) (offs := #[45, 50, 58, 66, 74, 107, 139, 144]) (len := 45) (by decide +kernel) [48, 53, 61, 69, 77, 110, 142, 147] 152 (by decide +kernel) (by decide +kernel) (by decide +kernel)) ?_
  refine zfmc (r_aload_n h (pc := 48) (kf := 1) 1 (by decide +kernel) rfl) ?_
  refine zfmc (r_getfN h (pc := 49) (ix := 288) (by decide +kernel) ckX14 0 (by decide) wk_79428fe769) ?_
  refine zfmc (r_ireturn h (pc := 52) (by decide +kernel) rfl) ?_
  refine zfmc (r_aload_n h (pc := 53) (kf := 0) 0 (by decide +kernel) rfl) ?_
  refine zfmc (r_getf h (pc := 54) (ix := 20) (by decide +kernel) ckX15 6 (by decide) wk_bda7210969) ?_
  refine zfmc (r_getfN h (pc := 57) (ix := 49) (by decide +kernel) ckX13 5 (by decide) wk_e01ba970e0) ?_
  refine zfmc (r_ireturn h (pc := 60) (by decide +kernel) rfl) ?_
  refine zfmc (r_aload_n h (pc := 61) (kf := 0) 0 (by decide +kernel) rfl) ?_
  refine zfmc (r_getf h (pc := 62) (ix := 20) (by decide +kernel) ckX15 6 (by decide) wk_bda7210969) ?_
  refine zfmc (r_getfN h (pc := 65) (ix := 56) (by decide +kernel) ckX13 12 (by decide) wk_e206866251) ?_
  refine zfmc (r_ireturn h (pc := 68) (by decide +kernel) rfl) ?_
  refine zfmc (r_aload_n h (pc := 69) (kf := 0) 0 (by decide +kernel) rfl) ?_
  refine zfmc (r_getf h (pc := 70) (ix := 20) (by decide +kernel) ckX15 6 (by decide) wk_bda7210969) ?_
  refine zfmc (r_getfN h (pc := 73) (ix := 204) (by decide +kernel) ckX13 16 (by decide) wk_194e060314) ?_
  refine zfmc (r_ireturn h (pc := 76) (by decide +kernel) rfl) ?_
  refine zfmc (r_iconst h (pc := 77) (z := 0) (by decide +kernel) (0) (by decide +kernel)) ?_
  refine zfmc (r_istore h (pc := 78) 4 (by decide +kernel) (by decide +kernel)) ?_
  refine zfmc (r_iload h (pc := 80) 4 (by decide +kernel)) ?_
  refine zfmc (r_aload_n h (pc := 82) (kf := 0) 0 (by decide +kernel) rfl) ?_
  refine zfmc (r_getf h (pc := 83) (ix := 20) (by decide +kernel) ckX15 6 (by decide) wk_bda7210969) ?_
  refine zfmc (r_getfN h (pc := 86) (ix := 49) (by decide +kernel) ckX13 5 (by decide) wk_e01ba970e0) ?_
  refine zfmc (r_icmp_ge h (pc := 89) (off := 19) (by decide +kernel) 108 (by decide +kernel)) ?_
  refine zfmc (r_iload_n h (pc := 92) (kf := 3) 3 (by decide +kernel) rfl) ?_
  refine zfmc (r_aload_n h (pc := 93) (kf := 1) 1 (by decide +kernel) rfl) ?_
  refine zfmc (r_getfN h (pc := 94) (ix := 302) (by decide +kernel) ckX14 3 (by decide) wk_f4f89b3b47) ?_
  refine zfmc (r_iload h (pc := 97) 4 (by decide +kernel)) ?_
  refine zfmc (r_iaload h (pc := 99) (by decide +kernel)) ?_
  refine zfmc (r_iadd h (pc := 100) (by decide +kernel)) ?_
  refine zfmc (r_istore_n h (pc := 101) (kf := 3) 3 (by decide +kernel) rfl (by decide +kernel)) ?_
  refine zfmc (r_iinc h (pc := 102) 4 (z := 1) (by decide +kernel) (1) (by decide +kernel) (by decide +kernel)) ?_
  refine zfmc (r_goto h (pc := 105) (off := -25) (by decide +kernel) 80 (by decide +kernel)) ?_
  refine zfmc (r_iload_n h (pc := 108) (kf := 3) 3 (by decide +kernel) rfl) ?_
  refine zfmc (r_ireturn h (pc := 109) (by decide +kernel) rfl) ?_
  refine zfmc (r_iconst h (pc := 110) (z := 0) (by decide +kernel) (0) (by decide +kernel)) ?_
  refine zfmc (r_istore h (pc := 111) 4 (by decide +kernel) (by decide +kernel)) ?_
  refine zfmc (r_iload h (pc := 113) 4 (by decide +kernel)) ?_
  refine zfmc (r_aload_n h (pc := 115) (kf := 0) 0 (by decide +kernel) rfl) ?_
  refine zfmc (r_getf h (pc := 116) (ix := 20) (by decide +kernel) ckX15 6 (by decide) wk_bda7210969) ?_
  refine zfmc (r_getfN h (pc := 119) (ix := 56) (by decide +kernel) ckX13 12 (by decide) wk_e206866251) ?_
  refine zfmc (r_icmp_ge h (pc := 122) (off := 18) (by decide +kernel) 140 (by decide +kernel)) ?_
  refine zfmc (r_iload_n h (pc := 125) (kf := 3) 3 (by decide +kernel) rfl) ?_
  refine zfmc (r_aload_n h (pc := 126) (kf := 1) 1 (by decide +kernel) rfl) ?_
  refine zfmc (r_iload h (pc := 127) 4 (by decide +kernel)) ?_
  refine zfmc (r_callV h (pc := 129) (ix := 354) (by decide +kernel) ckX14 1 mcX14_all wk_0940095031 wk_bcc60fc80f wk_ab8f1e57c9 rfl) ?_
  refine zfmc (r_iadd h (pc := 132) (by decide +kernel)) ?_
  refine zfmc (r_istore_n h (pc := 133) (kf := 3) 3 (by decide +kernel) rfl (by decide +kernel)) ?_
  refine zfmc (r_iinc h (pc := 134) 4 (z := 1) (by decide +kernel) (1) (by decide +kernel) (by decide +kernel)) ?_
  refine zfmc (r_goto h (pc := 137) (off := -24) (by decide +kernel) 113 (by decide +kernel)) ?_
  refine zfmc (r_iload_n h (pc := 140) (kf := 3) 3 (by decide +kernel) rfl) ?_
  refine zfmc (r_ireturn h (pc := 141) (by decide +kernel) rfl) ?_
  refine zfmc (r_aload_n h (pc := 142) (kf := 1) 1 (by decide +kernel) rfl) ?_
  refine zfmc (r_getfN h (pc := 143) (ix := 328) (by decide +kernel) ckX14 1 (by decide) wk_755f3a88aa) ?_
  refine zfmc (r_ireturn h (pc := 146) (by decide +kernel) rfl) ?_
  refine zfmc (r_aload_n h (pc := 147) (kf := 1) 1 (by decide +kernel) rfl) ?_
  refine zfmc (r_getfN h (pc := 148) (ix := 364) (by decide +kernel) ckX14 2 (by decide) wk_54a19969e5) ?_
  refine zfmc (r_ireturn h (pc := 151) (by decide +kernel) rfl) ?_
  refine zfmc (r_aload_n h (pc := 152) (kf := 0) 0 (by decide +kernel) rfl) ?_
  refine zfmc (r_getf h (pc := 153) (ix := 59) (by decide +kernel) ckX15 2 (by decide) wk_53df394097) ?_
  refine zfmc (r_ireturn h (pc := 156) (by decide +kernel) rfl) ?_
  exact zfm0)
def tb_X15_feed (E : ZEX) (d mc ms : Nat) : List (Nat × ZStep) := [(0, s_aload 0 1), (1, s_const (.int (0)) 2), (2, s_putf 14 0 0 5), (5, s_aload 0 6), (6, s_getf 14 2 9), (9, s_const (.int (20)) 11), (11, s_iadd 12), (12, s_const (.int (2000)) 15), (15, s_icmp_le 24 18), (18, s_aload 0 19), (19, s_const (.int (1)) 20), (20, s_callV E d mc ms 14 MX15_no 1 23), (23, s_ireturn), (24, s_const (.int (5)) 25), (25, s_newI E mc ms 27), (27, s_dup 28), (28, s_const (.int (0)) 29), (29, s_iload 1 30), (30, s_iastore E 31), (31, s_dup 32), (32, s_const (.int (1)) 33), (33, s_iload 2 34), (34, s_iastore E 35), (35, s_dup 36), (36, s_const (.int (2)) 37), (37, s_iload 3 38), (38, s_iastore E 39), (39, s_dup 40), (40, s_const (.int (3)) 41), (41, s_iload 4 43), (43, s_iastore E 44), (44, s_dup 45), (45, s_const (.int (4)) 46), (46, s_iload 5 48), (48, s_iastore E 49), (49, s_astore 6 51), (51, s_const (.int (0)) 52), (52, s_istore 7 54), (54, s_iload 7 56), (56, s_const (.int (20)) 58), (58, s_icmp_ge 101 61), (61, s_aload 0 62), (62, s_getf 14 1 65), (65, s_aload 0 66), (66, s_getf 14 2 69), (69, s_iload 7 71), (71, s_iadd 72), (72, s_aload 6 74), (74, s_iload 7 76), (76, s_const (.int (4)) 77), (77, s_idiv 78), (78, s_iaload E 79), (79, s_const (.int (24)) 81), (81, s_iload 7 83), (83, s_const (.int (4)) 84), (84, s_irem 85), (85, s_const (.int (8)) 87), (87, s_imul 88), (88, s_isub 89), (89, s_iushr 90), (90, s_const (.int (255)) 93), (93, s_iand 94), (94, s_iastore E 95), (95, s_iinc 7 (1) 98), (98, s_goto 54), (101, s_aload 0 102), (102, s_dup 103), (103, s_getf 14 2 106), (106, s_const (.int (20)) 108), (108, s_iadd 109), (109, s_putf 14 2 0 112), (112, s_aload 0 113), (113, s_getf 14 2 116), (116, s_ireturn)]
set_option maxRecDepth 20000 in
theorem ok_X15_feed {E : ZEX} {X : ZMX} {d mc ms : Nat} {P : ZPT} {T : ZTT} (h : ZCX E X MX15_feed d mc ms P T) : ∀ pc, ZRow E X MX15_feed mc ms P T pc (ztb (tb_X15_feed E d mc ms) pc) := ztb_ok (by
  unfold tb_X15_feed
  refine zfmc (r_aload_n h (pc := 0) (kf := 0) 0 (by decide +kernel) rfl) ?_
  refine zfmc (r_iconst h (pc := 1) (z := 0) (by decide +kernel) (0) (by decide +kernel)) ?_
  refine zfmc (r_putf h (pc := 2) (ix := 46) (by decide +kernel) ckX15 0 (by decide) 0 (fty := tyX15 0) (tyX15_ok 0 (by decide)) rfl rfl wk_57ca463f01) ?_
  refine zfmc (r_aload_n h (pc := 5) (kf := 0) 0 (by decide +kernel) rfl) ?_
  refine zfmc (r_getf h (pc := 6) (ix := 59) (by decide +kernel) ckX15 2 (by decide) wk_53df394097) ?_
  refine zfmc (r_bipush h (pc := 9) (z := 20) (by decide +kernel) (20) (by decide +kernel)) ?_
  refine zfmc (r_iadd h (pc := 11) (by decide +kernel)) ?_
  refine zfmc (r_sipush h (pc := 12) (z := 2000) (by decide +kernel) (2000) (by decide +kernel)) ?_
  refine zfmc (r_icmp_le h (pc := 15) (off := 9) (by decide +kernel) 24 (by decide +kernel)) ?_
  refine zfmc (r_aload_n h (pc := 18) (kf := 0) 0 (by decide +kernel) rfl) ?_
  refine zfmc (r_iconst h (pc := 19) (z := 1) (by decide +kernel) (1) (by decide +kernel)) ?_
  refine zfmc (r_callV h (pc := 20) (ix := 408) (by decide +kernel) ckX15 1 mcX15_no wk_d6e972a452 wk_8e3f3b9ff5 wk_f18335f135 rfl) ?_
  refine zfmc (r_ireturn h (pc := 23) (by decide +kernel) rfl) ?_
  refine zfmc (r_iconst h (pc := 24) (z := 5) (by decide +kernel) (5) (by decide +kernel)) ?_
  refine zfmc (r_newI h (pc := 25) (by decide +kernel) wk_bfa9f9c18d) ?_
  refine zfmc (r_dup h (pc := 27) (by decide +kernel)) ?_
  refine zfmc (r_iconst h (pc := 28) (z := 0) (by decide +kernel) (0) (by decide +kernel)) ?_
  refine zfmc (r_iload_n h (pc := 29) (kf := 1) 1 (by decide +kernel) rfl) ?_
  refine zfmc (r_iastore h (pc := 30) (by decide +kernel)) ?_
  refine zfmc (r_dup h (pc := 31) (by decide +kernel)) ?_
  refine zfmc (r_iconst h (pc := 32) (z := 1) (by decide +kernel) (1) (by decide +kernel)) ?_
  refine zfmc (r_iload_n h (pc := 33) (kf := 2) 2 (by decide +kernel) rfl) ?_
  refine zfmc (r_iastore h (pc := 34) (by decide +kernel)) ?_
  refine zfmc (r_dup h (pc := 35) (by decide +kernel)) ?_
  refine zfmc (r_iconst h (pc := 36) (z := 2) (by decide +kernel) (2) (by decide +kernel)) ?_
  refine zfmc (r_iload_n h (pc := 37) (kf := 3) 3 (by decide +kernel) rfl) ?_
  refine zfmc (r_iastore h (pc := 38) (by decide +kernel)) ?_
  refine zfmc (r_dup h (pc := 39) (by decide +kernel)) ?_
  refine zfmc (r_iconst h (pc := 40) (z := 3) (by decide +kernel) (3) (by decide +kernel)) ?_
  refine zfmc (r_iload h (pc := 41) 4 (by decide +kernel)) ?_
  refine zfmc (r_iastore h (pc := 43) (by decide +kernel)) ?_
  refine zfmc (r_dup h (pc := 44) (by decide +kernel)) ?_
  refine zfmc (r_iconst h (pc := 45) (z := 4) (by decide +kernel) (4) (by decide +kernel)) ?_
  refine zfmc (r_iload h (pc := 46) 5 (by decide +kernel)) ?_
  refine zfmc (r_iastore h (pc := 48) (by decide +kernel)) ?_
  refine zfmc (r_astore h (pc := 49) 6 (by decide +kernel) (by decide +kernel)) ?_
  refine zfmc (r_iconst h (pc := 51) (z := 0) (by decide +kernel) (0) (by decide +kernel)) ?_
  refine zfmc (r_istore h (pc := 52) 7 (by decide +kernel) (by decide +kernel)) ?_
  refine zfmc (r_iload h (pc := 54) 7 (by decide +kernel)) ?_
  refine zfmc (r_bipush h (pc := 56) (z := 20) (by decide +kernel) (20) (by decide +kernel)) ?_
  refine zfmc (r_icmp_ge h (pc := 58) (off := 43) (by decide +kernel) 101 (by decide +kernel)) ?_
  refine zfmc (r_aload_n h (pc := 61) (kf := 0) 0 (by decide +kernel) rfl) ?_
  refine zfmc (r_getf h (pc := 62) (ix := 9) (by decide +kernel) ckX15 1 (by decide) wk_817e5a39aa) ?_
  refine zfmc (r_aload_n h (pc := 65) (kf := 0) 0 (by decide +kernel) rfl) ?_
  refine zfmc (r_getf h (pc := 66) (ix := 59) (by decide +kernel) ckX15 2 (by decide) wk_53df394097) ?_
  refine zfmc (r_iload h (pc := 69) 7 (by decide +kernel)) ?_
  refine zfmc (r_iadd h (pc := 71) (by decide +kernel)) ?_
  refine zfmc (r_aload h (pc := 72) 6 (by decide +kernel)) ?_
  refine zfmc (r_iload h (pc := 74) 7 (by decide +kernel)) ?_
  refine zfmc (r_iconst h (pc := 76) (z := 4) (by decide +kernel) (4) (by decide +kernel)) ?_
  refine zfmc (r_idiv h (pc := 77) (by decide +kernel)) ?_
  refine zfmc (r_iaload h (pc := 78) (by decide +kernel)) ?_
  refine zfmc (r_bipush h (pc := 79) (z := 24) (by decide +kernel) (24) (by decide +kernel)) ?_
  refine zfmc (r_iload h (pc := 81) 7 (by decide +kernel)) ?_
  refine zfmc (r_iconst h (pc := 83) (z := 4) (by decide +kernel) (4) (by decide +kernel)) ?_
  refine zfmc (r_irem h (pc := 84) (by decide +kernel)) ?_
  refine zfmc (r_bipush h (pc := 85) (z := 8) (by decide +kernel) (8) (by decide +kernel)) ?_
  refine zfmc (r_imul h (pc := 87) (by decide +kernel)) ?_
  refine zfmc (r_isub h (pc := 88) (by decide +kernel)) ?_
  refine zfmc (r_iushr h (pc := 89) (by decide +kernel)) ?_
  refine zfmc (r_sipush h (pc := 90) (z := 255) (by decide +kernel) (255) (by decide +kernel)) ?_
  refine zfmc (r_iand h (pc := 93) (by decide +kernel)) ?_
  refine zfmc (r_iastore h (pc := 94) (by decide +kernel)) ?_
  refine zfmc (r_iinc h (pc := 95) 7 (z := 1) (by decide +kernel) (1) (by decide +kernel) (by decide +kernel)) ?_
  refine zfmc (r_goto h (pc := 98) (off := -44) (by decide +kernel) 54 (by decide +kernel)) ?_
  refine zfmc (r_aload_n h (pc := 101) (kf := 0) 0 (by decide +kernel) rfl) ?_
  refine zfmc (r_dup h (pc := 102) (by decide +kernel)) ?_
  refine zfmc (r_getf h (pc := 103) (ix := 59) (by decide +kernel) ckX15 2 (by decide) wk_53df394097) ?_
  refine zfmc (r_bipush h (pc := 106) (z := 20) (by decide +kernel) (20) (by decide +kernel)) ?_
  refine zfmc (r_iadd h (pc := 108) (by decide +kernel)) ?_
  refine zfmc (r_putf h (pc := 109) (ix := 59) (by decide +kernel) ckX15 2 (by decide) 0 (fty := tyX15 2) (tyX15_ok 2 (by decide)) rfl rfl wk_53df394097) ?_
  refine zfmc (r_aload_n h (pc := 112) (kf := 0) 0 (by decide +kernel) rfl) ?_
  refine zfmc (r_getf h (pc := 113) (ix := 59) (by decide +kernel) ckX15 2 (by decide) wk_53df394097) ?_
  refine zfmc (r_ireturn h (pc := 116) (by decide +kernel) rfl) ?_
  exact zfm0)
def tb_X15_trim (E : ZEX) (d mc ms : Nat) : List (Nat × ZStep) := [(0, s_aload 0 1), (1, s_const (.int (0)) 2), (2, s_putf 14 0 0 5), (5, s_iload 1 6), (6, s_const (.int (0)) 7), (7, s_aload 0 8), (8, s_getf 14 2 11), (11, s_callS E d mc ms MX15_isIn 3 14), (14, s_if_ne 23 17), (17, s_aload 0 18), (18, s_const (.int (1)) 19), (19, s_callV E d mc ms 14 MX15_no 1 22), (22, s_ireturn), (23, s_aload 0 24), (24, s_iload 1 25), (25, s_putf 14 2 0 28), (28, s_iload 1 29), (29, s_ireturn)]
set_option maxRecDepth 20000 in
theorem ok_X15_trim {E : ZEX} {X : ZMX} {d mc ms : Nat} {P : ZPT} {T : ZTT} (h : ZCX E X MX15_trim d mc ms P T) : ∀ pc, ZRow E X MX15_trim mc ms P T pc (ztb (tb_X15_trim E d mc ms) pc) := ztb_ok (by
  unfold tb_X15_trim
  refine zfmc (r_aload_n h (pc := 0) (kf := 0) 0 (by decide +kernel) rfl) ?_
  refine zfmc (r_iconst h (pc := 1) (z := 0) (by decide +kernel) (0) (by decide +kernel)) ?_
  refine zfmc (r_putf h (pc := 2) (ix := 46) (by decide +kernel) ckX15 0 (by decide) 0 (fty := tyX15 0) (tyX15_ok 0 (by decide)) rfl rfl wk_57ca463f01) ?_
  refine zfmc (r_iload_n h (pc := 5) (kf := 1) 1 (by decide +kernel) rfl) ?_
  refine zfmc (r_iconst h (pc := 6) (z := 0) (by decide +kernel) (0) (by decide +kernel)) ?_
  refine zfmc (r_aload_n h (pc := 7) (kf := 0) 0 (by decide +kernel) rfl) ?_
  refine zfmc (r_getf h (pc := 8) (ix := 59) (by decide +kernel) ckX15 2 (by decide) wk_53df394097) ?_
  refine zfmc (r_callS h (pc := 11) (ix := 52) (by decide +kernel) 3 mcX15_isIn wk_ed1f636136 wk_d0354324c1) ?_
  refine zfmc (r_if_ne h (pc := 14) (off := 9) (by decide +kernel) 23 (by decide +kernel)) ?_
  refine zfmc (r_aload_n h (pc := 17) (kf := 0) 0 (by decide +kernel) rfl) ?_
  refine zfmc (r_iconst h (pc := 18) (z := 1) (by decide +kernel) (1) (by decide +kernel)) ?_
  refine zfmc (r_callV h (pc := 19) (ix := 408) (by decide +kernel) ckX15 1 mcX15_no wk_d6e972a452 wk_8e3f3b9ff5 wk_f18335f135 rfl) ?_
  refine zfmc (r_ireturn h (pc := 22) (by decide +kernel) rfl) ?_
  refine zfmc (r_aload_n h (pc := 23) (kf := 0) 0 (by decide +kernel) rfl) ?_
  refine zfmc (r_iload_n h (pc := 24) (kf := 1) 1 (by decide +kernel) rfl) ?_
  refine zfmc (r_putf h (pc := 25) (ix := 59) (by decide +kernel) ckX15 2 (by decide) 0 (fty := tyX15 2) (tyX15_ok 2 (by decide)) rfl rfl wk_53df394097) ?_
  refine zfmc (r_iload_n h (pc := 28) (kf := 1) 1 (by decide +kernel) rfl) ?_
  refine zfmc (r_ireturn h (pc := 29) (by decide +kernel) rfl) ?_
  exact zfm0)
def tb_X15_fill (E : ZEX) (d mc ms : Nat) : List (Nat × ZStep) := [(0, s_const (.int (0)) 1), (1, s_istore 2 2), (2, s_iload 2 3), (3, s_aload 0 4), (4, s_alen E 5), (5, s_icmp_ge 18 8), (8, s_aload 0 9), (9, s_iload 2 10), (10, s_iload 1 11), (11, s_iastore E 12), (12, s_iinc 2 (1) 15), (15, s_goto 2), (18, s_return)]
set_option maxRecDepth 20000 in
theorem ok_X15_fill {E : ZEX} {X : ZMX} {d mc ms : Nat} {P : ZPT} {T : ZTT} (h : ZCX E X MX15_fill d mc ms P T) : ∀ pc, ZRow E X MX15_fill mc ms P T pc (ztb (tb_X15_fill E d mc ms) pc) := ztb_ok (by
  unfold tb_X15_fill
  refine zfmc (r_iconst h (pc := 0) (z := 0) (by decide +kernel) (0) (by decide +kernel)) ?_
  refine zfmc (r_istore_n h (pc := 1) (kf := 2) 2 (by decide +kernel) rfl (by decide +kernel)) ?_
  refine zfmc (r_iload_n h (pc := 2) (kf := 2) 2 (by decide +kernel) rfl) ?_
  refine zfmc (r_aload_n h (pc := 3) (kf := 0) 0 (by decide +kernel) rfl) ?_
  refine zfmc (r_alen h (pc := 4) (by decide +kernel)) ?_
  refine zfmc (r_icmp_ge h (pc := 5) (off := 13) (by decide +kernel) 18 (by decide +kernel)) ?_
  refine zfmc (r_aload_n h (pc := 8) (kf := 0) 0 (by decide +kernel) rfl) ?_
  refine zfmc (r_iload_n h (pc := 9) (kf := 2) 2 (by decide +kernel) rfl) ?_
  refine zfmc (r_iload_n h (pc := 10) (kf := 1) 1 (by decide +kernel) rfl) ?_
  refine zfmc (r_iastore h (pc := 11) (by decide +kernel)) ?_
  refine zfmc (r_iinc h (pc := 12) 2 (z := 1) (by decide +kernel) (1) (by decide +kernel) (by decide +kernel)) ?_
  refine zfmc (r_goto h (pc := 15) (off := -13) (by decide +kernel) 2 (by decide +kernel)) ?_
  refine zfmc (r_return h (pc := 18) (by decide +kernel) rfl) ?_
  exact zfm0)
def tb_X15_begin (E : ZEX) (d mc ms : Nat) : List (Nat × ZStep) := [(0, s_aload 0 1), (1, s_getf 14 7 4), (4, s_const (.int (0)) 5), (5, s_putf 13 0 0 8), (8, s_aload 0 9), (9, s_getf 14 7 12), (12, s_const (.int (0)) 13), (13, s_putf 13 1 0 16), (16, s_aload 0 17), (17, s_getf 14 7 20), (20, s_const (.int (0)) 21), (21, s_putf 13 2 0 24), (24, s_aload 0 25), (25, s_getf 14 6 28), (28, s_getf 12 9 31), (31, s_const (.int (0)) 32), (32, s_aload 0 33), (33, s_getf 14 7 36), (36, s_getf 13 3 39), (39, s_const (.int (0)) 40), (40, s_const (.int (10)) 42), (42, s_acopy E d 45), (45, s_const (.int (8)) 47), (47, s_anewA E mc ms 50), (50, s_dup 51), (51, s_const (.int (0)) 52), (52, s_aload 0 53), (53, s_getf 14 7 56), (56, s_getf 13 4 59), (59, s_aastoreA E 60), (60, s_dup 61), (61, s_const (.int (1)) 62), (62, s_aload 0 63), (63, s_getf 14 7 66), (66, s_getf 13 5 69), (69, s_aastoreA E 70), (70, s_dup 71), (71, s_const (.int (2)) 72), (72, s_aload 0 73), (73, s_getf 14 7 76), (76, s_getf 13 7 79), (79, s_aastoreA E 80), (80, s_dup 81), (81, s_const (.int (3)) 82), (82, s_aload 0 83), (83, s_getf 14 7 86), (86, s_getf 13 9 89), (89, s_aastoreA E 90), (90, s_dup 91), (91, s_const (.int (4)) 92), (92, s_aload 0 93), (93, s_getf 14 7 96), (96, s_getf 13 11 99), (99, s_aastoreA E 100), (100, s_dup 101), (101, s_const (.int (5)) 102), (102, s_aload 0 103), (103, s_getf 14 7 106), (106, s_getf 13 12 109), (109, s_aastoreA E 110), (110, s_dup 111), (111, s_const (.int (6)) 113), (113, s_aload 0 114), (114, s_getf 14 7 117), (117, s_getf 13 13 120), (120, s_aastoreA E 121), (121, s_dup 122), (122, s_const (.int (7)) 124), (124, s_aload 0 125), (125, s_getf 14 7 128), (128, s_getf 13 14 131), (131, s_aastoreA E 132), (132, s_astore 1 133), (133, s_aload 1 134), (134, s_astore 2 135), (135, s_aload 2 136), (136, s_alen E 137), (137, s_istore 3 138), (138, s_const (.int (0)) 139), (139, s_istore 4 141), (141, s_iload 4 143), (143, s_iload 3 144), (144, s_icmp_ge 165 147), (147, s_aload 2 148), (148, s_iload 4 150), (150, s_aaload E 151), (151, s_astore 5 153), (153, s_aload 5 155), (155, s_const (.int (0)) 156), (156, s_callS E d mc ms MX15_fill 2 159), (159, s_iinc 4 (1) 162), (162, s_goto 141), (165, s_const (.int (0)) 166), (166, s_istore 2 167), (167, s_iload 2 168), (168, s_aload 0 169), (169, s_getf 14 6 172), (172, s_getf 12 12 175), (175, s_icmp_ge 235 178), (178, s_aload 0 179), (179, s_getf 14 7 182), (182, s_getf 13 10 185), (185, s_iload 2 186), (186, s_const (.int (7)) 188), (188, s_iload 2 189), (189, s_imul 190), (190, s_const (.int (1)) 191), (191, s_iadd 192), (192, s_iastore E 193), (193, s_const (.int (0)) 194), (194, s_istore 3 195), (195, s_iload 3 196), (196, s_aload 0 197), (197, s_getf 14 6 200), (200, s_getf 12 14 203), (203, s_icmp_ge 229 206), (206, s_aload 0 207), (207, s_getf 14 7 210), (210, s_iload 2 211), (211, s_aload 0 212), (212, s_getf 14 6 215), (215, s_getf 12 15 218), (218, s_iload 3 219), (219, s_iaload E 220), (220, s_callV E d mc ms 13 MX14_discard 2 223), (223, s_iinc 3 (1) 226), (226, s_goto 195), (229, s_iinc 2 (1) 232), (232, s_goto 167), (235, s_return)]
set_option maxRecDepth 20000 in
theorem ok_X15_begin {E : ZEX} {X : ZMX} {d mc ms : Nat} {P : ZPT} {T : ZTT} (h : ZCX E X MX15_begin d mc ms P T) : ∀ pc, ZRow E X MX15_begin mc ms P T pc (ztb (tb_X15_begin E d mc ms) pc) := ztb_ok (by
  unfold tb_X15_begin
  refine zfmc (r_aload_n h (pc := 0) (kf := 0) 0 (by decide +kernel) rfl) ?_
  refine zfmc (r_getf h (pc := 1) (ix := 27) (by decide +kernel) ckX15 7 (by decide) wk_bb0990f128) ?_
  refine zfmc (r_iconst h (pc := 4) (z := 0) (by decide +kernel) (0) (by decide +kernel)) ?_
  refine zfmc (r_putfN h (pc := 5) (ix := 288) (by decide +kernel) ckX14 0 (by decide) 0 (fty := tyX14 0) (tyX14_ok 0 (by decide)) rfl rfl wk_79428fe769) ?_
  refine zfmc (r_aload_n h (pc := 8) (kf := 0) 0 (by decide +kernel) rfl) ?_
  refine zfmc (r_getf h (pc := 9) (ix := 27) (by decide +kernel) ckX15 7 (by decide) wk_bb0990f128) ?_
  refine zfmc (r_iconst h (pc := 12) (z := 0) (by decide +kernel) (0) (by decide +kernel)) ?_
  refine zfmc (r_putfN h (pc := 13) (ix := 328) (by decide +kernel) ckX14 1 (by decide) 0 (fty := tyX14 1) (tyX14_ok 1 (by decide)) rfl rfl wk_755f3a88aa) ?_
  refine zfmc (r_aload_n h (pc := 16) (kf := 0) 0 (by decide +kernel) rfl) ?_
  refine zfmc (r_getf h (pc := 17) (ix := 27) (by decide +kernel) ckX15 7 (by decide) wk_bb0990f128) ?_
  refine zfmc (r_iconst h (pc := 20) (z := 0) (by decide +kernel) (0) (by decide +kernel)) ?_
  refine zfmc (r_putfN h (pc := 21) (ix := 364) (by decide +kernel) ckX14 2 (by decide) 0 (fty := tyX14 2) (tyX14_ok 2 (by decide)) rfl rfl wk_54a19969e5) ?_
  refine zfmc (r_aload_n h (pc := 24) (kf := 0) 0 (by decide +kernel) rfl) ?_
  refine zfmc (r_getf h (pc := 25) (ix := 20) (by decide +kernel) ckX15 6 (by decide) wk_bda7210969) ?_
  refine zfmc (r_getfN h (pc := 28) (ix := 178) (by decide +kernel) ckX13 9 (by decide) wk_d4ee6b1275) ?_
  refine zfmc (r_iconst h (pc := 31) (z := 0) (by decide +kernel) (0) (by decide +kernel)) ?_
  refine zfmc (r_aload_n h (pc := 32) (kf := 0) 0 (by decide +kernel) rfl) ?_
  refine zfmc (r_getf h (pc := 33) (ix := 27) (by decide +kernel) ckX15 7 (by decide) wk_bb0990f128) ?_
  refine zfmc (r_getfN h (pc := 36) (ix := 302) (by decide +kernel) ckX14 3 (by decide) wk_f4f89b3b47) ?_
  refine zfmc (r_iconst h (pc := 39) (z := 0) (by decide +kernel) (0) (by decide +kernel)) ?_
  refine zfmc (r_bipush h (pc := 40) (z := 10) (by decide +kernel) (10) (by decide +kernel)) ?_
  refine zfmc (r_acopy h (pc := 42) (ix := 322) (by decide +kernel) wk_4673d78a86 wk_14aeafd7f0 wk_410e289dfd wk_c7b251dcc4) ?_
  refine zfmc (r_bipush h (pc := 45) (z := 8) (by decide +kernel) (8) (by decide +kernel)) ?_
  refine zfmc (r_anewA h (pc := 47) (ix := 411) (by decide +kernel) wk_9e5f932f99 (zx_aoA h.ok)) ?_
  refine zfmc (r_dup h (pc := 50) (by decide +kernel)) ?_
  refine zfmc (r_iconst h (pc := 51) (z := 0) (by decide +kernel) (0) (by decide +kernel)) ?_
  refine zfmc (r_aload_n h (pc := 52) (kf := 0) 0 (by decide +kernel) rfl) ?_
  refine zfmc (r_getf h (pc := 53) (ix := 27) (by decide +kernel) ckX15 7 (by decide) wk_bb0990f128) ?_
  refine zfmc (r_getfN h (pc := 56) (ix := 347) (by decide +kernel) ckX14 4 (by decide) wk_f66b0e492e) ?_
  refine zfmc (r_aastoreA h (pc := 59) (by decide +kernel)) ?_
  refine zfmc (r_dup h (pc := 60) (by decide +kernel)) ?_
  refine zfmc (r_iconst h (pc := 61) (z := 1) (by decide +kernel) (1) (by decide +kernel)) ?_
  refine zfmc (r_aload_n h (pc := 62) (kf := 0) 0 (by decide +kernel) rfl) ?_
  refine zfmc (r_getf h (pc := 63) (ix := 27) (by decide +kernel) ckX15 7 (by decide) wk_bb0990f128) ?_
  refine zfmc (r_getfN h (pc := 66) (ix := 360) (by decide +kernel) ckX14 5 (by decide) wk_1c5eb1bfbd) ?_
  refine zfmc (r_aastoreA h (pc := 69) (by decide +kernel)) ?_
  refine zfmc (r_dup h (pc := 70) (by decide +kernel)) ?_
  refine zfmc (r_iconst h (pc := 71) (z := 2) (by decide +kernel) (2) (by decide +kernel)) ?_
  refine zfmc (r_aload_n h (pc := 72) (kf := 0) 0 (by decide +kernel) rfl) ?_
  refine zfmc (r_getf h (pc := 73) (ix := 27) (by decide +kernel) ckX15 7 (by decide) wk_bb0990f128) ?_
  refine zfmc (r_getfN h (pc := 76) (ix := 392) (by decide +kernel) ckX14 7 (by decide) wk_67bfe7c55c) ?_
  refine zfmc (r_aastoreA h (pc := 79) (by decide +kernel)) ?_
  refine zfmc (r_dup h (pc := 80) (by decide +kernel)) ?_
  refine zfmc (r_iconst h (pc := 81) (z := 3) (by decide +kernel) (3) (by decide +kernel)) ?_
  refine zfmc (r_aload_n h (pc := 82) (kf := 0) 0 (by decide +kernel) rfl) ?_
  refine zfmc (r_getf h (pc := 83) (ix := 27) (by decide +kernel) ckX15 7 (by decide) wk_bb0990f128) ?_
  refine zfmc (r_getfN h (pc := 86) (ix := 398) (by decide +kernel) ckX14 9 (by decide) wk_f3aeaa7482) ?_
  refine zfmc (r_aastoreA h (pc := 89) (by decide +kernel)) ?_
  refine zfmc (r_dup h (pc := 90) (by decide +kernel)) ?_
  refine zfmc (r_iconst h (pc := 91) (z := 4) (by decide +kernel) (4) (by decide +kernel)) ?_
  refine zfmc (r_aload_n h (pc := 92) (kf := 0) 0 (by decide +kernel) rfl) ?_
  refine zfmc (r_getf h (pc := 93) (ix := 27) (by decide +kernel) ckX15 7 (by decide) wk_bb0990f128) ?_
  refine zfmc (r_getfN h (pc := 96) (ix := 296) (by decide +kernel) ckX14 11 (by decide) wk_b0c93d9fec) ?_
  refine zfmc (r_aastoreA h (pc := 99) (by decide +kernel)) ?_
  refine zfmc (r_dup h (pc := 100) (by decide +kernel)) ?_
  refine zfmc (r_iconst h (pc := 101) (z := 5) (by decide +kernel) (5) (by decide +kernel)) ?_
  refine zfmc (r_aload_n h (pc := 102) (kf := 0) 0 (by decide +kernel) rfl) ?_
  refine zfmc (r_getf h (pc := 103) (ix := 27) (by decide +kernel) ckX15 7 (by decide) wk_bb0990f128) ?_
  refine zfmc (r_getfN h (pc := 106) (ix := 363) (by decide +kernel) ckX14 12 (by decide) wk_c6f6c027e3) ?_
  refine zfmc (r_aastoreA h (pc := 109) (by decide +kernel)) ?_
  refine zfmc (r_dup h (pc := 110) (by decide +kernel)) ?_
  refine zfmc (r_bipush h (pc := 111) (z := 6) (by decide +kernel) (6) (by decide +kernel)) ?_
  refine zfmc (r_aload_n h (pc := 113) (kf := 0) 0 (by decide +kernel) rfl) ?_
  refine zfmc (r_getf h (pc := 114) (ix := 27) (by decide +kernel) ckX15 7 (by decide) wk_bb0990f128) ?_
  refine zfmc (r_getfN h (pc := 117) (ix := 379) (by decide +kernel) ckX14 13 (by decide) wk_ef3d45b501) ?_
  refine zfmc (r_aastoreA h (pc := 120) (by decide +kernel)) ?_
  refine zfmc (r_dup h (pc := 121) (by decide +kernel)) ?_
  refine zfmc (r_bipush h (pc := 122) (z := 7) (by decide +kernel) (7) (by decide +kernel)) ?_
  refine zfmc (r_aload_n h (pc := 124) (kf := 0) 0 (by decide +kernel) rfl) ?_
  refine zfmc (r_getf h (pc := 125) (ix := 27) (by decide +kernel) ckX15 7 (by decide) wk_bb0990f128) ?_
  refine zfmc (r_getfN h (pc := 128) (ix := 412) (by decide +kernel) ckX14 14 (by decide) wk_7562589326) ?_
  refine zfmc (r_aastoreA h (pc := 131) (by decide +kernel)) ?_
  refine zfmc (r_astore_n h (pc := 132) (kf := 1) 1 (by decide +kernel) rfl (by decide +kernel)) ?_
  refine zfmc (r_aload_n h (pc := 133) (kf := 1) 1 (by decide +kernel) rfl) ?_
  refine zfmc (r_astore_n h (pc := 134) (kf := 2) 2 (by decide +kernel) rfl (by decide +kernel)) ?_
  refine zfmc (r_aload_n h (pc := 135) (kf := 2) 2 (by decide +kernel) rfl) ?_
  refine zfmc (r_alen h (pc := 136) (by decide +kernel)) ?_
  refine zfmc (r_istore_n h (pc := 137) (kf := 3) 3 (by decide +kernel) rfl (by decide +kernel)) ?_
  refine zfmc (r_iconst h (pc := 138) (z := 0) (by decide +kernel) (0) (by decide +kernel)) ?_
  refine zfmc (r_istore h (pc := 139) 4 (by decide +kernel) (by decide +kernel)) ?_
  refine zfmc (r_iload h (pc := 141) 4 (by decide +kernel)) ?_
  refine zfmc (r_iload_n h (pc := 143) (kf := 3) 3 (by decide +kernel) rfl) ?_
  refine zfmc (r_icmp_ge h (pc := 144) (off := 21) (by decide +kernel) 165 (by decide +kernel)) ?_
  refine zfmc (r_aload_n h (pc := 147) (kf := 2) 2 (by decide +kernel) rfl) ?_
  refine zfmc (r_iload h (pc := 148) 4 (by decide +kernel)) ?_
  refine zfmc (r_aaload h (pc := 150) (by decide +kernel)) ?_
  refine zfmc (r_astore h (pc := 151) 5 (by decide +kernel) (by decide +kernel)) ?_
  refine zfmc (r_aload h (pc := 153) 5 (by decide +kernel)) ?_
  refine zfmc (r_iconst h (pc := 155) (z := 0) (by decide +kernel) (0) (by decide +kernel)) ?_
  refine zfmc (r_callS h (pc := 156) (ix := 415) (by decide +kernel) 2 mcX15_fill wk_d296329bc1 wk_5ea3c26cc0) ?_
  refine zfmc (r_iinc h (pc := 159) 4 (z := 1) (by decide +kernel) (1) (by decide +kernel) (by decide +kernel)) ?_
  refine zfmc (r_goto h (pc := 162) (off := -21) (by decide +kernel) 141 (by decide +kernel)) ?_
  refine zfmc (r_iconst h (pc := 165) (z := 0) (by decide +kernel) (0) (by decide +kernel)) ?_
  refine zfmc (r_istore_n h (pc := 166) (kf := 2) 2 (by decide +kernel) rfl (by decide +kernel)) ?_
  refine zfmc (r_iload_n h (pc := 167) (kf := 2) 2 (by decide +kernel) rfl) ?_
  refine zfmc (r_aload_n h (pc := 168) (kf := 0) 0 (by decide +kernel) rfl) ?_
  refine zfmc (r_getf h (pc := 169) (ix := 20) (by decide +kernel) ckX15 6 (by decide) wk_bda7210969) ?_
  refine zfmc (r_getfN h (pc := 172) (ix := 56) (by decide +kernel) ckX13 12 (by decide) wk_e206866251) ?_
  refine zfmc (r_icmp_ge h (pc := 175) (off := 60) (by decide +kernel) 235 (by decide +kernel)) ?_
  refine zfmc (r_aload_n h (pc := 178) (kf := 0) 0 (by decide +kernel) rfl) ?_
  refine zfmc (r_getf h (pc := 179) (ix := 27) (by decide +kernel) ckX15 7 (by decide) wk_bb0990f128) ?_
  refine zfmc (r_getfN h (pc := 182) (ix := 419) (by decide +kernel) ckX14 10 (by decide) wk_2a1558cfbc) ?_
  refine zfmc (r_iload_n h (pc := 185) (kf := 2) 2 (by decide +kernel) rfl) ?_
  refine zfmc (r_bipush h (pc := 186) (z := 7) (by decide +kernel) (7) (by decide +kernel)) ?_
  refine zfmc (r_iload_n h (pc := 188) (kf := 2) 2 (by decide +kernel) rfl) ?_
  refine zfmc (r_imul h (pc := 189) (by decide +kernel)) ?_
  refine zfmc (r_iconst h (pc := 190) (z := 1) (by decide +kernel) (1) (by decide +kernel)) ?_
  refine zfmc (r_iadd h (pc := 191) (by decide +kernel)) ?_
  refine zfmc (r_iastore h (pc := 192) (by decide +kernel)) ?_
  refine zfmc (r_iconst h (pc := 193) (z := 0) (by decide +kernel) (0) (by decide +kernel)) ?_
  refine zfmc (r_istore_n h (pc := 194) (kf := 3) 3 (by decide +kernel) rfl (by decide +kernel)) ?_
  refine zfmc (r_iload_n h (pc := 195) (kf := 3) 3 (by decide +kernel) rfl) ?_
  refine zfmc (r_aload_n h (pc := 196) (kf := 0) 0 (by decide +kernel) rfl) ?_
  refine zfmc (r_getf h (pc := 197) (ix := 20) (by decide +kernel) ckX15 6 (by decide) wk_bda7210969) ?_
  refine zfmc (r_getfN h (pc := 200) (ix := 187) (by decide +kernel) ckX13 14 (by decide) wk_296b415e6e) ?_
  refine zfmc (r_icmp_ge h (pc := 203) (off := 26) (by decide +kernel) 229 (by decide +kernel)) ?_
  refine zfmc (r_aload_n h (pc := 206) (kf := 0) 0 (by decide +kernel) rfl) ?_
  refine zfmc (r_getf h (pc := 207) (ix := 27) (by decide +kernel) ckX15 7 (by decide) wk_bb0990f128) ?_
  refine zfmc (r_iload_n h (pc := 210) (kf := 2) 2 (by decide +kernel) rfl) ?_
  refine zfmc (r_aload_n h (pc := 211) (kf := 0) 0 (by decide +kernel) rfl) ?_
  refine zfmc (r_getf h (pc := 212) (ix := 20) (by decide +kernel) ckX15 6 (by decide) wk_bda7210969) ?_
  refine zfmc (r_getfN h (pc := 215) (ix := 184) (by decide +kernel) ckX13 15 (by decide) wk_a89ab465b6) ?_
  refine zfmc (r_iload_n h (pc := 218) (kf := 3) 3 (by decide +kernel) rfl) ?_
  refine zfmc (r_iaload h (pc := 219) (by decide +kernel)) ?_
  refine zfmc (r_callV h (pc := 220) (ix := 357) (by decide +kernel) ckX14 2 mcX14_discard wk_f9bda2d395 wk_56a0df1c4d wk_8fa8d0d18b rfl) ?_
  refine zfmc (r_iinc h (pc := 223) 3 (z := 1) (by decide +kernel) (1) (by decide +kernel) (by decide +kernel)) ?_
  refine zfmc (r_goto h (pc := 226) (off := -31) (by decide +kernel) 195 (by decide +kernel)) ?_
  refine zfmc (r_iinc h (pc := 229) 2 (z := 1) (by decide +kernel) (1) (by decide +kernel) (by decide +kernel)) ?_
  refine zfmc (r_goto h (pc := 232) (off := -65) (by decide +kernel) 167 (by decide +kernel)) ?_
  refine zfmc (r_return h (pc := 235) (by decide +kernel) rfl) ?_
  exact zfm0)
def tb_X15_teach (E : ZEX) (d mc ms : Nat) : List (Nat × ZStep) := [(0, s_aload 0 1), (1, s_const (.int (0)) 2), (2, s_putf 14 0 0 5), (5, s_aload 0 6), (6, s_const (.int (-1)) 7), (7, s_putf 14 3 0 10), (10, s_new 12 21 fsX13 mc ms 13), (13, s_dup 14), (14, s_callI E d mc ms MX13_init 0 17), (17, s_astore 1 18), (18, s_aload 0 19), (19, s_aload 1 20), (20, s_callV E d mc ms 14 MX15_read 1 23), (23, s_istore 2 24), (24, s_aload 0 25), (25, s_const (.int (0)) 26), (26, s_putf 14 2 0 29), (29, s_iload 2 30), (30, s_if_le 35 33), (33, s_iload 2 34), (34, s_ireturn), (35, s_aload 0 36), (36, s_aload 1 37), (37, s_putf 14 6 3 40), (40, s_aload 0 41), (41, s_callV E d mc ms 14 MX15_begin 0 44), (44, s_const (.int (0)) 45), (45, s_ireturn)]
set_option maxRecDepth 20000 in
theorem ok_X15_teach {E : ZEX} {X : ZMX} {d mc ms : Nat} {P : ZPT} {T : ZTT} (h : ZCX E X MX15_teach d mc ms P T) : ∀ pc, ZRow E X MX15_teach mc ms P T pc (ztb (tb_X15_teach E d mc ms) pc) := ztb_ok (by
  unfold tb_X15_teach
  refine zfmc (r_aload_n h (pc := 0) (kf := 0) 0 (by decide +kernel) rfl) ?_
  refine zfmc (r_iconst h (pc := 1) (z := 0) (by decide +kernel) (0) (by decide +kernel)) ?_
  refine zfmc (r_putf h (pc := 2) (ix := 46) (by decide +kernel) ckX15 0 (by decide) 0 (fty := tyX15 0) (tyX15_ok 0 (by decide)) rfl rfl wk_57ca463f01) ?_
  refine zfmc (r_aload_n h (pc := 5) (kf := 0) 0 (by decide +kernel) rfl) ?_
  refine zfmc (r_iconst h (pc := 6) (z := -1) (by decide +kernel) (-1) (by decide +kernel)) ?_
  refine zfmc (r_putf h (pc := 7) (ix := 13) (by decide +kernel) ckX15 3 (by decide) 0 (fty := tyX15 3) (tyX15_ok 3 (by decide)) rfl rfl wk_09b9507526) ?_
  refine zfmc (r_new h (pc := 10) (ix := 17) (by decide +kernel) ckX13 fsX13 tyX13 tyX13_ok fsX13_ok wk_6061322f4a wk_5fb25c30d3 wk_a696937878) ?_
  refine zfmc (r_dup h (pc := 13) (by decide +kernel)) ?_
  refine zfmc (r_callIN h (pc := 14) (ix := 19) (by decide +kernel) 0 mcX13_init wk_295099b7bd rfl rfl wk_673547e3dc) ?_
  refine zfmc (r_astore_n h (pc := 17) (kf := 1) 1 (by decide +kernel) rfl (by decide +kernel)) ?_
  refine zfmc (r_aload_n h (pc := 18) (kf := 0) 0 (by decide +kernel) rfl) ?_
  refine zfmc (r_aload_n h (pc := 19) (kf := 1) 1 (by decide +kernel) rfl) ?_
  refine zfmc (r_callV h (pc := 20) (ix := 422) (by decide +kernel) ckX15 1 mcX15_read wk_8b00ec5772 wk_303dd4fa61 wk_5bfa66a9f5 rfl) ?_
  refine zfmc (r_istore_n h (pc := 23) (kf := 2) 2 (by decide +kernel) rfl (by decide +kernel)) ?_
  refine zfmc (r_aload_n h (pc := 24) (kf := 0) 0 (by decide +kernel) rfl) ?_
  refine zfmc (r_iconst h (pc := 25) (z := 0) (by decide +kernel) (0) (by decide +kernel)) ?_
  refine zfmc (r_putf h (pc := 26) (ix := 59) (by decide +kernel) ckX15 2 (by decide) 0 (fty := tyX15 2) (tyX15_ok 2 (by decide)) rfl rfl wk_53df394097) ?_
  refine zfmc (r_iload_n h (pc := 29) (kf := 2) 2 (by decide +kernel) rfl) ?_
  refine zfmc (r_if_le h (pc := 30) (off := 5) (by decide +kernel) 35 (by decide +kernel)) ?_
  refine zfmc (r_iload_n h (pc := 33) (kf := 2) 2 (by decide +kernel) rfl) ?_
  refine zfmc (r_ireturn h (pc := 34) (by decide +kernel) rfl) ?_
  refine zfmc (r_aload_n h (pc := 35) (kf := 0) 0 (by decide +kernel) rfl) ?_
  refine zfmc (r_aload_n h (pc := 36) (kf := 1) 1 (by decide +kernel) rfl) ?_
  refine zfmc (r_putf h (pc := 37) (ix := 20) (by decide +kernel) ckX15 6 (by decide) 3 (fty := tyX15 6) (tyX15_ok 6 (by decide)) rfl rfl wk_bda7210969) ?_
  refine zfmc (r_aload_n h (pc := 40) (kf := 0) 0 (by decide +kernel) rfl) ?_
  refine zfmc (r_callV h (pc := 41) (ix := 425) (by decide +kernel) ckX15 0 mcX15_begin wk_7db0beb74f wk_dd90b1f0c1 wk_a9ce178590 rfl) ?_
  refine zfmc (r_iconst h (pc := 44) (z := 0) (by decide +kernel) (0) (by decide +kernel)) ?_
  refine zfmc (r_ireturn h (pc := 45) (by decide +kernel) rfl) ?_
  exact zfm0)
section
variable {E : ZEX} {d mc ms : Nat} {cut : Nat → Bool} {G : ZCont} {R : ZRtn} {T : ZTT} {Z : Nat → ZCont}
theorem f_X15_can_0 (hZ : ZRN (ztb (tb_X15_can E d mc ms)) cut G R T Z) (f : Nat) (L : ZLV) (st : List Value) (σ : ZHp) (n k w : Nat) : Z (f + 1) 0 L st σ n k w = s_aload 0 1 L st σ n k w (zk1 cut G (Z f)) G R T := zrs hZ rfl f L st σ n k w
theorem f_X15_can_1 (hZ : ZRN (ztb (tb_X15_can E d mc ms)) cut G R T Z) (f : Nat) (L : ZLV) (st : List Value) (σ : ZHp) (n k w : Nat) : Z (f + 1) 1 L st σ n k w = s_getf 14 6 4 L st σ n k w (zk1 cut G (Z f)) G R T := zrs hZ rfl f L st σ n k w
theorem f_X15_can_4 (hZ : ZRN (ztb (tb_X15_can E d mc ms)) cut G R T Z) (f : Nat) (L : ZLV) (st : List Value) (σ : ZHp) (n k w : Nat) : Z (f + 1) 4 L st σ n k w = s_getf 12 17 7 L st σ n k w (zk1 cut G (Z f)) G R T := zrs hZ rfl f L st σ n k w
theorem f_X15_can_7 (hZ : ZRN (ztb (tb_X15_can E d mc ms)) cut G R T Z) (f : Nat) (L : ZLV) (st : List Value) (σ : ZHp) (n k w : Nat) : Z (f + 1) 7 L st σ n k w = s_iload 1 8 L st σ n k w (zk1 cut G (Z f)) G R T := zrs hZ rfl f L st σ n k w
theorem f_X15_can_8 (hZ : ZRN (ztb (tb_X15_can E d mc ms)) cut G R T Z) (f : Nat) (L : ZLV) (st : List Value) (σ : ZHp) (n k w : Nat) : Z (f + 1) 8 L st σ n k w = s_iaload E 9 L st σ n k w (zk1 cut G (Z f)) G R T := zrs hZ rfl f L st σ n k w
theorem f_X15_can_9 (hZ : ZRN (ztb (tb_X15_can E d mc ms)) cut G R T Z) (f : Nat) (L : ZLV) (st : List Value) (σ : ZHp) (n k w : Nat) : Z (f + 1) 9 L st σ n k w = s_istore 2 10 L st σ n k w (zk1 cut G (Z f)) G R T := zrs hZ rfl f L st σ n k w
theorem f_X15_can_10 (hZ : ZRN (ztb (tb_X15_can E d mc ms)) cut G R T Z) (f : Nat) (L : ZLV) (st : List Value) (σ : ZHp) (n k w : Nat) : Z (f + 1) 10 L st σ n k w = s_iload 1 11 L st σ n k w (zk1 cut G (Z f)) G R T := zrs hZ rfl f L st σ n k w
theorem f_X15_can_11 (hZ : ZRN (ztb (tb_X15_can E d mc ms)) cut G R T Z) (f : Nat) (L : ZLV) (st : List Value) (σ : ZHp) (n k w : Nat) : Z (f + 1) 11 L st σ n k w = s_aload 0 12 L st σ n k w (zk1 cut G (Z f)) G R T := zrs hZ rfl f L st σ n k w
theorem f_X15_can_12 (hZ : ZRN (ztb (tb_X15_can E d mc ms)) cut G R T Z) (f : Nat) (L : ZLV) (st : List Value) (σ : ZHp) (n k w : Nat) : Z (f + 1) 12 L st σ n k w = s_getf 14 22 15 L st σ n k w (zk1 cut G (Z f)) G R T := zrs hZ rfl f L st σ n k w
theorem f_X15_can_15 (hZ : ZRN (ztb (tb_X15_can E d mc ms)) cut G R T Z) (f : Nat) (L : ZLV) (st : List Value) (σ : ZHp) (n k w : Nat) : Z (f + 1) 15 L st σ n k w = s_icmp_eq 41 18 L st σ n k w (zk1 cut G (Z f)) G R T := zrs hZ rfl f L st σ n k w
theorem f_X15_can_18 (hZ : ZRN (ztb (tb_X15_can E d mc ms)) cut G R T Z) (f : Nat) (L : ZLV) (st : List Value) (σ : ZHp) (n k w : Nat) : Z (f + 1) 18 L st σ n k w = s_aload 0 19 L st σ n k w (zk1 cut G (Z f)) G R T := zrs hZ rfl f L st σ n k w
theorem f_X15_can_19 (hZ : ZRN (ztb (tb_X15_can E d mc ms)) cut G R T Z) (f : Nat) (L : ZLV) (st : List Value) (σ : ZHp) (n k w : Nat) : Z (f + 1) 19 L st σ n k w = s_getf 14 6 22 L st σ n k w (zk1 cut G (Z f)) G R T := zrs hZ rfl f L st σ n k w
theorem f_X15_can_22 (hZ : ZRN (ztb (tb_X15_can E d mc ms)) cut G R T Z) (f : Nat) (L : ZLV) (st : List Value) (σ : ZHp) (n k w : Nat) : Z (f + 1) 22 L st σ n k w = s_getf 12 18 25 L st σ n k w (zk1 cut G (Z f)) G R T := zrs hZ rfl f L st σ n k w
theorem f_X15_can_25 (hZ : ZRN (ztb (tb_X15_can E d mc ms)) cut G R T Z) (f : Nat) (L : ZLV) (st : List Value) (σ : ZHp) (n k w : Nat) : Z (f + 1) 25 L st σ n k w = s_iload 1 26 L st σ n k w (zk1 cut G (Z f)) G R T := zrs hZ rfl f L st σ n k w
theorem f_X15_can_26 (hZ : ZRN (ztb (tb_X15_can E d mc ms)) cut G R T Z) (f : Nat) (L : ZLV) (st : List Value) (σ : ZHp) (n k w : Nat) : Z (f + 1) 26 L st σ n k w = s_iaload E 27 L st σ n k w (zk1 cut G (Z f)) G R T := zrs hZ rfl f L st σ n k w
theorem f_X15_can_27 (hZ : ZRN (ztb (tb_X15_can E d mc ms)) cut G R T Z) (f : Nat) (L : ZLV) (st : List Value) (σ : ZHp) (n k w : Nat) : Z (f + 1) 27 L st σ n k w = s_aload 0 28 L st σ n k w (zk1 cut G (Z f)) G R T := zrs hZ rfl f L st σ n k w
theorem f_X15_can_28 (hZ : ZRN (ztb (tb_X15_can E d mc ms)) cut G R T Z) (f : Nat) (L : ZLV) (st : List Value) (σ : ZHp) (n k w : Nat) : Z (f + 1) 28 L st σ n k w = s_getf 14 11 31 L st σ n k w (zk1 cut G (Z f)) G R T := zrs hZ rfl f L st σ n k w
theorem f_X15_can_31 (hZ : ZRN (ztb (tb_X15_can E d mc ms)) cut G R T Z) (f : Nat) (L : ZLV) (st : List Value) (σ : ZHp) (n k w : Nat) : Z (f + 1) 31 L st σ n k w = s_icmp_ne 41 34 L st σ n k w (zk1 cut G (Z f)) G R T := zrs hZ rfl f L st σ n k w
theorem f_X15_can_34 (hZ : ZRN (ztb (tb_X15_can E d mc ms)) cut G R T Z) (f : Nat) (L : ZLV) (st : List Value) (σ : ZHp) (n k w : Nat) : Z (f + 1) 34 L st σ n k w = s_aload 0 35 L st σ n k w (zk1 cut G (Z f)) G R T := zrs hZ rfl f L st σ n k w
theorem f_X15_can_35 (hZ : ZRN (ztb (tb_X15_can E d mc ms)) cut G R T Z) (f : Nat) (L : ZLV) (st : List Value) (σ : ZHp) (n k w : Nat) : Z (f + 1) 35 L st σ n k w = s_getf 14 17 38 L st σ n k w (zk1 cut G (Z f)) G R T := zrs hZ rfl f L st σ n k w
theorem f_X15_can_38 (hZ : ZRN (ztb (tb_X15_can E d mc ms)) cut G R T Z) (f : Nat) (L : ZLV) (st : List Value) (σ : ZHp) (n k w : Nat) : Z (f + 1) 38 L st σ n k w = s_if_ne 43 41 L st σ n k w (zk1 cut G (Z f)) G R T := zrs hZ rfl f L st σ n k w
theorem f_X15_can_41 (hZ : ZRN (ztb (tb_X15_can E d mc ms)) cut G R T Z) (f : Nat) (L : ZLV) (st : List Value) (σ : ZHp) (n k w : Nat) : Z (f + 1) 41 L st σ n k w = s_const (.int (0)) 42 L st σ n k w (zk1 cut G (Z f)) G R T := zrs hZ rfl f L st σ n k w
theorem f_X15_can_42 (hZ : ZRN (ztb (tb_X15_can E d mc ms)) cut G R T Z) (f : Nat) (L : ZLV) (st : List Value) (σ : ZHp) (n k w : Nat) : Z (f + 1) 42 L st σ n k w = s_zreturn L st σ n k w (zk1 cut G (Z f)) G R T := zrs hZ rfl f L st σ n k w
theorem f_X15_can_43 (hZ : ZRN (ztb (tb_X15_can E d mc ms)) cut G R T Z) (f : Nat) (L : ZLV) (st : List Value) (σ : ZHp) (n k w : Nat) : Z (f + 1) 43 L st σ n k w = s_aload 0 44 L st σ n k w (zk1 cut G (Z f)) G R T := zrs hZ rfl f L st σ n k w
theorem f_X15_can_44 (hZ : ZRN (ztb (tb_X15_can E d mc ms)) cut G R T Z) (f : Nat) (L : ZLV) (st : List Value) (σ : ZHp) (n k w : Nat) : Z (f + 1) 44 L st σ n k w = s_aload 0 45 L st σ n k w (zk1 cut G (Z f)) G R T := zrs hZ rfl f L st σ n k w
theorem f_X15_can_45 (hZ : ZRN (ztb (tb_X15_can E d mc ms)) cut G R T Z) (f : Nat) (L : ZLV) (st : List Value) (σ : ZHp) (n k w : Nat) : Z (f + 1) 45 L st σ n k w = s_getf 14 6 48 L st σ n k w (zk1 cut G (Z f)) G R T := zrs hZ rfl f L st σ n k w
theorem f_X15_can_48 (hZ : ZRN (ztb (tb_X15_can E d mc ms)) cut G R T Z) (f : Nat) (L : ZLV) (st : List Value) (σ : ZHp) (n k w : Nat) : Z (f + 1) 48 L st σ n k w = s_getf 12 19 51 L st σ n k w (zk1 cut G (Z f)) G R T := zrs hZ rfl f L st σ n k w
theorem f_X15_can_51 (hZ : ZRN (ztb (tb_X15_can E d mc ms)) cut G R T Z) (f : Nat) (L : ZLV) (st : List Value) (σ : ZHp) (n k w : Nat) : Z (f + 1) 51 L st σ n k w = s_iload 1 52 L st σ n k w (zk1 cut G (Z f)) G R T := zrs hZ rfl f L st σ n k w
theorem f_X15_can_52 (hZ : ZRN (ztb (tb_X15_can E d mc ms)) cut G R T Z) (f : Nat) (L : ZLV) (st : List Value) (σ : ZHp) (n k w : Nat) : Z (f + 1) 52 L st σ n k w = s_iaload E 53 L st σ n k w (zk1 cut G (Z f)) G R T := zrs hZ rfl f L st σ n k w
theorem f_X15_can_53 (hZ : ZRN (ztb (tb_X15_can E d mc ms)) cut G R T Z) (f : Nat) (L : ZLV) (st : List Value) (σ : ZHp) (n k w : Nat) : Z (f + 1) 53 L st σ n k w = s_putf 14 9 0 56 L st σ n k w (zk1 cut G (Z f)) G R T := zrs hZ rfl f L st σ n k w
theorem f_X15_can_56 (hZ : ZRN (ztb (tb_X15_can E d mc ms)) cut G R T Z) (f : Nat) (L : ZLV) (st : List Value) (σ : ZHp) (n k w : Nat) : Z (f + 1) 56 L st σ n k w = s_aload 0 57 L st σ n k w (zk1 cut G (Z f)) G R T := zrs hZ rfl f L st σ n k w
theorem f_X15_can_57 (hZ : ZRN (ztb (tb_X15_can E d mc ms)) cut G R T Z) (f : Nat) (L : ZLV) (st : List Value) (σ : ZHp) (n k w : Nat) : Z (f + 1) 57 L st σ n k w = s_getf 14 9 60 L st σ n k w (zk1 cut G (Z f)) G R T := zrs hZ rfl f L st σ n k w
theorem f_X15_can_60 (hZ : ZRN (ztb (tb_X15_can E d mc ms)) cut G R T Z) (f : Nat) (L : ZLV) (st : List Value) (σ : ZHp) (n k w : Nat) : Z (f + 1) 60 L st σ n k w = s_const (.int (-1)) 61 L st σ n k w (zk1 cut G (Z f)) G R T := zrs hZ rfl f L st σ n k w
theorem f_X15_can_61 (hZ : ZRN (ztb (tb_X15_can E d mc ms)) cut G R T Z) (f : Nat) (L : ZLV) (st : List Value) (σ : ZHp) (n k w : Nat) : Z (f + 1) 61 L st σ n k w = s_icmp_eq 71 64 L st σ n k w (zk1 cut G (Z f)) G R T := zrs hZ rfl f L st σ n k w
theorem f_X15_can_64 (hZ : ZRN (ztb (tb_X15_can E d mc ms)) cut G R T Z) (f : Nat) (L : ZLV) (st : List Value) (σ : ZHp) (n k w : Nat) : Z (f + 1) 64 L st σ n k w = s_aload 0 65 L st σ n k w (zk1 cut G (Z f)) G R T := zrs hZ rfl f L st σ n k w
theorem f_X15_can_65 (hZ : ZRN (ztb (tb_X15_can E d mc ms)) cut G R T Z) (f : Nat) (L : ZLV) (st : List Value) (σ : ZHp) (n k w : Nat) : Z (f + 1) 65 L st σ n k w = s_callV E d mc ms 14 MX15_test 0 68 L st σ n k w (zk1 cut G (Z f)) G R T := zrs hZ rfl f L st σ n k w
theorem f_X15_can_68 (hZ : ZRN (ztb (tb_X15_can E d mc ms)) cut G R T Z) (f : Nat) (L : ZLV) (st : List Value) (σ : ZHp) (n k w : Nat) : Z (f + 1) 68 L st σ n k w = s_if_eq 124 71 L st σ n k w (zk1 cut G (Z f)) G R T := zrs hZ rfl f L st σ n k w
theorem f_X15_can_71 (hZ : ZRN (ztb (tb_X15_can E d mc ms)) cut G R T Z) (f : Nat) (L : ZLV) (st : List Value) (σ : ZHp) (n k w : Nat) : Z (f + 1) 71 L st σ n k w = s_aload 0 72 L st σ n k w (zk1 cut G (Z f)) G R T := zrs hZ rfl f L st σ n k w
theorem f_X15_can_72 (hZ : ZRN (ztb (tb_X15_can E d mc ms)) cut G R T Z) (f : Nat) (L : ZLV) (st : List Value) (σ : ZHp) (n k w : Nat) : Z (f + 1) 72 L st σ n k w = s_getf 14 10 75 L st σ n k w (zk1 cut G (Z f)) G R T := zrs hZ rfl f L st σ n k w
theorem f_X15_can_75 (hZ : ZRN (ztb (tb_X15_can E d mc ms)) cut G R T Z) (f : Nat) (L : ZLV) (st : List Value) (σ : ZHp) (n k w : Nat) : Z (f + 1) 75 L st σ n k w = s_getf 13 3 78 L st σ n k w (zk1 cut G (Z f)) G R T := zrs hZ rfl f L st σ n k w
theorem f_X15_can_78 (hZ : ZRN (ztb (tb_X15_can E d mc ms)) cut G R T Z) (f : Nat) (L : ZLV) (st : List Value) (σ : ZHp) (n k w : Nat) : Z (f + 1) 78 L st σ n k w = s_iload 2 79 L st σ n k w (zk1 cut G (Z f)) G R T := zrs hZ rfl f L st σ n k w
theorem f_X15_can_79 (hZ : ZRN (ztb (tb_X15_can E d mc ms)) cut G R T Z) (f : Nat) (L : ZLV) (st : List Value) (σ : ZHp) (n k w : Nat) : Z (f + 1) 79 L st σ n k w = s_iaload E 80 L st σ n k w (zk1 cut G (Z f)) G R T := zrs hZ rfl f L st σ n k w
theorem f_X15_can_80 (hZ : ZRN (ztb (tb_X15_can E d mc ms)) cut G R T Z) (f : Nat) (L : ZLV) (st : List Value) (σ : ZHp) (n k w : Nat) : Z (f + 1) 80 L st σ n k w = s_if_le 124 83 L st σ n k w (zk1 cut G (Z f)) G R T := zrs hZ rfl f L st σ n k w
theorem f_X15_can_83 (hZ : ZRN (ztb (tb_X15_can E d mc ms)) cut G R T Z) (f : Nat) (L : ZLV) (st : List Value) (σ : ZHp) (n k w : Nat) : Z (f + 1) 83 L st σ n k w = s_aload 0 84 L st σ n k w (zk1 cut G (Z f)) G R T := zrs hZ rfl f L st σ n k w
theorem f_X15_can_84 (hZ : ZRN (ztb (tb_X15_can E d mc ms)) cut G R T Z) (f : Nat) (L : ZLV) (st : List Value) (σ : ZHp) (n k w : Nat) : Z (f + 1) 84 L st σ n k w = s_getf 14 16 87 L st σ n k w (zk1 cut G (Z f)) G R T := zrs hZ rfl f L st σ n k w
theorem f_X15_can_87 (hZ : ZRN (ztb (tb_X15_can E d mc ms)) cut G R T Z) (f : Nat) (L : ZLV) (st : List Value) (σ : ZHp) (n k w : Nat) : Z (f + 1) 87 L st σ n k w = s_aload 0 88 L st σ n k w (zk1 cut G (Z f)) G R T := zrs hZ rfl f L st σ n k w
theorem f_X15_can_88 (hZ : ZRN (ztb (tb_X15_can E d mc ms)) cut G R T Z) (f : Nat) (L : ZLV) (st : List Value) (σ : ZHp) (n k w : Nat) : Z (f + 1) 88 L st σ n k w = s_getf 14 6 91 L st σ n k w (zk1 cut G (Z f)) G R T := zrs hZ rfl f L st σ n k w
theorem f_X15_can_91 (hZ : ZRN (ztb (tb_X15_can E d mc ms)) cut G R T Z) (f : Nat) (L : ZLV) (st : List Value) (σ : ZHp) (n k w : Nat) : Z (f + 1) 91 L st σ n k w = s_getf 12 7 94 L st σ n k w (zk1 cut G (Z f)) G R T := zrs hZ rfl f L st σ n k w
theorem f_X15_can_94 (hZ : ZRN (ztb (tb_X15_can E d mc ms)) cut G R T Z) (f : Nat) (L : ZLV) (st : List Value) (σ : ZHp) (n k w : Nat) : Z (f + 1) 94 L st σ n k w = s_iload 2 95 L st σ n k w (zk1 cut G (Z f)) G R T := zrs hZ rfl f L st σ n k w
theorem f_X15_can_95 (hZ : ZRN (ztb (tb_X15_can E d mc ms)) cut G R T Z) (f : Nat) (L : ZLV) (st : List Value) (σ : ZHp) (n k w : Nat) : Z (f + 1) 95 L st σ n k w = s_iaload E 96 L st σ n k w (zk1 cut G (Z f)) G R T := zrs hZ rfl f L st σ n k w
theorem f_X15_can_96 (hZ : ZRN (ztb (tb_X15_can E d mc ms)) cut G R T Z) (f : Nat) (L : ZLV) (st : List Value) (σ : ZHp) (n k w : Nat) : Z (f + 1) 96 L st σ n k w = s_icmp_lt 124 99 L st σ n k w (zk1 cut G (Z f)) G R T := zrs hZ rfl f L st σ n k w
theorem f_X15_can_99 (hZ : ZRN (ztb (tb_X15_can E d mc ms)) cut G R T Z) (f : Nat) (L : ZLV) (st : List Value) (σ : ZHp) (n k w : Nat) : Z (f + 1) 99 L st σ n k w = s_aload 0 100 L st σ n k w (zk1 cut G (Z f)) G R T := zrs hZ rfl f L st σ n k w
theorem f_X15_can_100 (hZ : ZRN (ztb (tb_X15_can E d mc ms)) cut G R T Z) (f : Nat) (L : ZLV) (st : List Value) (σ : ZHp) (n k w : Nat) : Z (f + 1) 100 L st σ n k w = s_getf 14 10 103 L st σ n k w (zk1 cut G (Z f)) G R T := zrs hZ rfl f L st σ n k w
theorem f_X15_can_103 (hZ : ZRN (ztb (tb_X15_can E d mc ms)) cut G R T Z) (f : Nat) (L : ZLV) (st : List Value) (σ : ZHp) (n k w : Nat) : Z (f + 1) 103 L st σ n k w = s_aload 0 104 L st σ n k w (zk1 cut G (Z f)) G R T := zrs hZ rfl f L st σ n k w
theorem f_X15_can_104 (hZ : ZRN (ztb (tb_X15_can E d mc ms)) cut G R T Z) (f : Nat) (L : ZLV) (st : List Value) (σ : ZHp) (n k w : Nat) : Z (f + 1) 104 L st σ n k w = s_getf 14 11 107 L st σ n k w (zk1 cut G (Z f)) G R T := zrs hZ rfl f L st σ n k w
theorem f_X15_can_107 (hZ : ZRN (ztb (tb_X15_can E d mc ms)) cut G R T Z) (f : Nat) (L : ZLV) (st : List Value) (σ : ZHp) (n k w : Nat) : Z (f + 1) 107 L st σ n k w = s_callV E d mc ms 13 MX14_all 1 110 L st σ n k w (zk1 cut G (Z f)) G R T := zrs hZ rfl f L st σ n k w
theorem f_X15_can_110 (hZ : ZRN (ztb (tb_X15_can E d mc ms)) cut G R T Z) (f : Nat) (L : ZLV) (st : List Value) (σ : ZHp) (n k w : Nat) : Z (f + 1) 110 L st σ n k w = s_aload 0 111 L st σ n k w (zk1 cut G (Z f)) G R T := zrs hZ rfl f L st σ n k w
theorem f_X15_can_111 (hZ : ZRN (ztb (tb_X15_can E d mc ms)) cut G R T Z) (f : Nat) (L : ZLV) (st : List Value) (σ : ZHp) (n k w : Nat) : Z (f + 1) 111 L st σ n k w = s_getf 14 13 114 L st σ n k w (zk1 cut G (Z f)) G R T := zrs hZ rfl f L st σ n k w
theorem f_X15_can_114 (hZ : ZRN (ztb (tb_X15_can E d mc ms)) cut G R T Z) (f : Nat) (L : ZLV) (st : List Value) (σ : ZHp) (n k w : Nat) : Z (f + 1) 114 L st σ n k w = s_iadd 115 L st σ n k w (zk1 cut G (Z f)) G R T := zrs hZ rfl f L st σ n k w
theorem f_X15_can_115 (hZ : ZRN (ztb (tb_X15_can E d mc ms)) cut G R T Z) (f : Nat) (L : ZLV) (st : List Value) (σ : ZHp) (n k w : Nat) : Z (f + 1) 115 L st σ n k w = s_const (.int (60)) 117 L st σ n k w (zk1 cut G (Z f)) G R T := zrs hZ rfl f L st σ n k w
theorem f_X15_can_117 (hZ : ZRN (ztb (tb_X15_can E d mc ms)) cut G R T Z) (f : Nat) (L : ZLV) (st : List Value) (σ : ZHp) (n k w : Nat) : Z (f + 1) 117 L st σ n k w = s_icmp_ge 124 120 L st σ n k w (zk1 cut G (Z f)) G R T := zrs hZ rfl f L st σ n k w
theorem f_X15_can_120 (hZ : ZRN (ztb (tb_X15_can E d mc ms)) cut G R T Z) (f : Nat) (L : ZLV) (st : List Value) (σ : ZHp) (n k w : Nat) : Z (f + 1) 120 L st σ n k w = s_const (.int (1)) 121 L st σ n k w (zk1 cut G (Z f)) G R T := zrs hZ rfl f L st σ n k w
theorem f_X15_can_121 (hZ : ZRN (ztb (tb_X15_can E d mc ms)) cut G R T Z) (f : Nat) (L : ZLV) (st : List Value) (σ : ZHp) (n k w : Nat) : Z (f + 1) 121 L st σ n k w = s_goto 125 L st σ n k w (zk1 cut G (Z f)) G R T := zrs hZ rfl f L st σ n k w
theorem f_X15_can_124 (hZ : ZRN (ztb (tb_X15_can E d mc ms)) cut G R T Z) (f : Nat) (L : ZLV) (st : List Value) (σ : ZHp) (n k w : Nat) : Z (f + 1) 124 L st σ n k w = s_const (.int (0)) 125 L st σ n k w (zk1 cut G (Z f)) G R T := zrs hZ rfl f L st σ n k w
theorem f_X15_can_125 (hZ : ZRN (ztb (tb_X15_can E d mc ms)) cut G R T Z) (f : Nat) (L : ZLV) (st : List Value) (σ : ZHp) (n k w : Nat) : Z (f + 1) 125 L st σ n k w = s_zreturn L st σ n k w (zk1 cut G (Z f)) G R T := zrs hZ rfl f L st σ n k w
theorem f_X15_buy_0 (hZ : ZRN (ztb (tb_X15_buy E d mc ms)) cut G R T Z) (f : Nat) (L : ZLV) (st : List Value) (σ : ZHp) (n k w : Nat) : Z (f + 1) 0 L st σ n k w = s_aload 0 1 L st σ n k w (zk1 cut G (Z f)) G R T := zrs hZ rfl f L st σ n k w
theorem f_X15_buy_1 (hZ : ZRN (ztb (tb_X15_buy E d mc ms)) cut G R T Z) (f : Nat) (L : ZLV) (st : List Value) (σ : ZHp) (n k w : Nat) : Z (f + 1) 1 L st σ n k w = s_getf 14 10 4 L st σ n k w (zk1 cut G (Z f)) G R T := zrs hZ rfl f L st σ n k w
theorem f_X15_buy_4 (hZ : ZRN (ztb (tb_X15_buy E d mc ms)) cut G R T Z) (f : Nat) (L : ZLV) (st : List Value) (σ : ZHp) (n k w : Nat) : Z (f + 1) 4 L st σ n k w = s_getf 13 3 7 L st σ n k w (zk1 cut G (Z f)) G R T := zrs hZ rfl f L st σ n k w
theorem f_X15_buy_7 (hZ : ZRN (ztb (tb_X15_buy E d mc ms)) cut G R T Z) (f : Nat) (L : ZLV) (st : List Value) (σ : ZHp) (n k w : Nat) : Z (f + 1) 7 L st σ n k w = s_iload 1 8 L st σ n k w (zk1 cut G (Z f)) G R T := zrs hZ rfl f L st σ n k w
theorem f_X15_buy_8 (hZ : ZRN (ztb (tb_X15_buy E d mc ms)) cut G R T Z) (f : Nat) (L : ZLV) (st : List Value) (σ : ZHp) (n k w : Nat) : Z (f + 1) 8 L st σ n k w = s_dup2 9 L st σ n k w (zk1 cut G (Z f)) G R T := zrs hZ rfl f L st σ n k w
theorem f_X15_buy_9 (hZ : ZRN (ztb (tb_X15_buy E d mc ms)) cut G R T Z) (f : Nat) (L : ZLV) (st : List Value) (σ : ZHp) (n k w : Nat) : Z (f + 1) 9 L st σ n k w = s_iaload E 10 L st σ n k w (zk1 cut G (Z f)) G R T := zrs hZ rfl f L st σ n k w
theorem f_X15_buy_10 (hZ : ZRN (ztb (tb_X15_buy E d mc ms)) cut G R T Z) (f : Nat) (L : ZLV) (st : List Value) (σ : ZHp) (n k w : Nat) : Z (f + 1) 10 L st σ n k w = s_const (.int (1)) 11 L st σ n k w (zk1 cut G (Z f)) G R T := zrs hZ rfl f L st σ n k w
theorem f_X15_buy_11 (hZ : ZRN (ztb (tb_X15_buy E d mc ms)) cut G R T Z) (f : Nat) (L : ZLV) (st : List Value) (σ : ZHp) (n k w : Nat) : Z (f + 1) 11 L st σ n k w = s_isub 12 L st σ n k w (zk1 cut G (Z f)) G R T := zrs hZ rfl f L st σ n k w
theorem f_X15_buy_12 (hZ : ZRN (ztb (tb_X15_buy E d mc ms)) cut G R T Z) (f : Nat) (L : ZLV) (st : List Value) (σ : ZHp) (n k w : Nat) : Z (f + 1) 12 L st σ n k w = s_iastore E 13 L st σ n k w (zk1 cut G (Z f)) G R T := zrs hZ rfl f L st σ n k w
theorem f_X15_buy_13 (hZ : ZRN (ztb (tb_X15_buy E d mc ms)) cut G R T Z) (f : Nat) (L : ZLV) (st : List Value) (σ : ZHp) (n k w : Nat) : Z (f + 1) 13 L st σ n k w = s_aload 0 14 L st σ n k w (zk1 cut G (Z f)) G R T := zrs hZ rfl f L st σ n k w
theorem f_X15_buy_14 (hZ : ZRN (ztb (tb_X15_buy E d mc ms)) cut G R T Z) (f : Nat) (L : ZLV) (st : List Value) (σ : ZHp) (n k w : Nat) : Z (f + 1) 14 L st σ n k w = s_dup 15 L st σ n k w (zk1 cut G (Z f)) G R T := zrs hZ rfl f L st σ n k w
theorem f_X15_buy_15 (hZ : ZRN (ztb (tb_X15_buy E d mc ms)) cut G R T Z) (f : Nat) (L : ZLV) (st : List Value) (σ : ZHp) (n k w : Nat) : Z (f + 1) 15 L st σ n k w = s_getf 14 16 18 L st σ n k w (zk1 cut G (Z f)) G R T := zrs hZ rfl f L st σ n k w
theorem f_X15_buy_18 (hZ : ZRN (ztb (tb_X15_buy E d mc ms)) cut G R T Z) (f : Nat) (L : ZLV) (st : List Value) (σ : ZHp) (n k w : Nat) : Z (f + 1) 18 L st σ n k w = s_aload 0 19 L st σ n k w (zk1 cut G (Z f)) G R T := zrs hZ rfl f L st σ n k w
theorem f_X15_buy_19 (hZ : ZRN (ztb (tb_X15_buy E d mc ms)) cut G R T Z) (f : Nat) (L : ZLV) (st : List Value) (σ : ZHp) (n k w : Nat) : Z (f + 1) 19 L st σ n k w = s_getf 14 6 22 L st σ n k w (zk1 cut G (Z f)) G R T := zrs hZ rfl f L st σ n k w
theorem f_X15_buy_22 (hZ : ZRN (ztb (tb_X15_buy E d mc ms)) cut G R T Z) (f : Nat) (L : ZLV) (st : List Value) (σ : ZHp) (n k w : Nat) : Z (f + 1) 22 L st σ n k w = s_getf 12 7 25 L st σ n k w (zk1 cut G (Z f)) G R T := zrs hZ rfl f L st σ n k w
theorem f_X15_buy_25 (hZ : ZRN (ztb (tb_X15_buy E d mc ms)) cut G R T Z) (f : Nat) (L : ZLV) (st : List Value) (σ : ZHp) (n k w : Nat) : Z (f + 1) 25 L st σ n k w = s_iload 1 26 L st σ n k w (zk1 cut G (Z f)) G R T := zrs hZ rfl f L st σ n k w
theorem f_X15_buy_26 (hZ : ZRN (ztb (tb_X15_buy E d mc ms)) cut G R T Z) (f : Nat) (L : ZLV) (st : List Value) (σ : ZHp) (n k w : Nat) : Z (f + 1) 26 L st σ n k w = s_iaload E 27 L st σ n k w (zk1 cut G (Z f)) G R T := zrs hZ rfl f L st σ n k w
theorem f_X15_buy_27 (hZ : ZRN (ztb (tb_X15_buy E d mc ms)) cut G R T Z) (f : Nat) (L : ZLV) (st : List Value) (σ : ZHp) (n k w : Nat) : Z (f + 1) 27 L st σ n k w = s_isub 28 L st σ n k w (zk1 cut G (Z f)) G R T := zrs hZ rfl f L st σ n k w
theorem f_X15_buy_28 (hZ : ZRN (ztb (tb_X15_buy E d mc ms)) cut G R T Z) (f : Nat) (L : ZLV) (st : List Value) (σ : ZHp) (n k w : Nat) : Z (f + 1) 28 L st σ n k w = s_putf 14 16 0 31 L st σ n k w (zk1 cut G (Z f)) G R T := zrs hZ rfl f L st σ n k w
theorem f_X15_buy_31 (hZ : ZRN (ztb (tb_X15_buy E d mc ms)) cut G R T Z) (f : Nat) (L : ZLV) (st : List Value) (σ : ZHp) (n k w : Nat) : Z (f + 1) 31 L st σ n k w = s_aload 0 32 L st σ n k w (zk1 cut G (Z f)) G R T := zrs hZ rfl f L st σ n k w
theorem f_X15_buy_32 (hZ : ZRN (ztb (tb_X15_buy E d mc ms)) cut G R T Z) (f : Nat) (L : ZLV) (st : List Value) (σ : ZHp) (n k w : Nat) : Z (f + 1) 32 L st σ n k w = s_dup 33 L st σ n k w (zk1 cut G (Z f)) G R T := zrs hZ rfl f L st σ n k w
theorem f_X15_buy_33 (hZ : ZRN (ztb (tb_X15_buy E d mc ms)) cut G R T Z) (f : Nat) (L : ZLV) (st : List Value) (σ : ZHp) (n k w : Nat) : Z (f + 1) 33 L st σ n k w = s_getf 14 17 36 L st σ n k w (zk1 cut G (Z f)) G R T := zrs hZ rfl f L st σ n k w
theorem f_X15_buy_36 (hZ : ZRN (ztb (tb_X15_buy E d mc ms)) cut G R T Z) (f : Nat) (L : ZLV) (st : List Value) (σ : ZHp) (n k w : Nat) : Z (f + 1) 36 L st σ n k w = s_const (.int (1)) 37 L st σ n k w (zk1 cut G (Z f)) G R T := zrs hZ rfl f L st σ n k w
theorem f_X15_buy_37 (hZ : ZRN (ztb (tb_X15_buy E d mc ms)) cut G R T Z) (f : Nat) (L : ZLV) (st : List Value) (σ : ZHp) (n k w : Nat) : Z (f + 1) 37 L st σ n k w = s_isub 38 L st σ n k w (zk1 cut G (Z f)) G R T := zrs hZ rfl f L st σ n k w
theorem f_X15_buy_38 (hZ : ZRN (ztb (tb_X15_buy E d mc ms)) cut G R T Z) (f : Nat) (L : ZLV) (st : List Value) (σ : ZHp) (n k w : Nat) : Z (f + 1) 38 L st σ n k w = s_putf 14 17 0 41 L st σ n k w (zk1 cut G (Z f)) G R T := zrs hZ rfl f L st σ n k w
theorem f_X15_buy_41 (hZ : ZRN (ztb (tb_X15_buy E d mc ms)) cut G R T Z) (f : Nat) (L : ZLV) (st : List Value) (σ : ZHp) (n k w : Nat) : Z (f + 1) 41 L st σ n k w = s_aload 0 42 L st σ n k w (zk1 cut G (Z f)) G R T := zrs hZ rfl f L st σ n k w
theorem f_X15_buy_42 (hZ : ZRN (ztb (tb_X15_buy E d mc ms)) cut G R T Z) (f : Nat) (L : ZLV) (st : List Value) (σ : ZHp) (n k w : Nat) : Z (f + 1) 42 L st σ n k w = s_getf 14 10 45 L st σ n k w (zk1 cut G (Z f)) G R T := zrs hZ rfl f L st σ n k w
theorem f_X15_buy_45 (hZ : ZRN (ztb (tb_X15_buy E d mc ms)) cut G R T Z) (f : Nat) (L : ZLV) (st : List Value) (σ : ZHp) (n k w : Nat) : Z (f + 1) 45 L st σ n k w = s_aload 0 46 L st σ n k w (zk1 cut G (Z f)) G R T := zrs hZ rfl f L st σ n k w
theorem f_X15_buy_46 (hZ : ZRN (ztb (tb_X15_buy E d mc ms)) cut G R T Z) (f : Nat) (L : ZLV) (st : List Value) (σ : ZHp) (n k w : Nat) : Z (f + 1) 46 L st σ n k w = s_getf 14 11 49 L st σ n k w (zk1 cut G (Z f)) G R T := zrs hZ rfl f L st σ n k w
theorem f_X15_buy_49 (hZ : ZRN (ztb (tb_X15_buy E d mc ms)) cut G R T Z) (f : Nat) (L : ZLV) (st : List Value) (σ : ZHp) (n k w : Nat) : Z (f + 1) 49 L st σ n k w = s_iload 1 50 L st σ n k w (zk1 cut G (Z f)) G R T := zrs hZ rfl f L st σ n k w
theorem f_X15_buy_50 (hZ : ZRN (ztb (tb_X15_buy E d mc ms)) cut G R T Z) (f : Nat) (L : ZLV) (st : List Value) (σ : ZHp) (n k w : Nat) : Z (f + 1) 50 L st σ n k w = s_callV E d mc ms 13 MX14_discard 2 53 L st σ n k w (zk1 cut G (Z f)) G R T := zrs hZ rfl f L st σ n k w
theorem f_X15_buy_53 (hZ : ZRN (ztb (tb_X15_buy E d mc ms)) cut G R T Z) (f : Nat) (L : ZLV) (st : List Value) (σ : ZHp) (n k w : Nat) : Z (f + 1) 53 L st σ n k w = s_aload 0 54 L st σ n k w (zk1 cut G (Z f)) G R T := zrs hZ rfl f L st σ n k w
theorem f_X15_buy_54 (hZ : ZRN (ztb (tb_X15_buy E d mc ms)) cut G R T Z) (f : Nat) (L : ZLV) (st : List Value) (σ : ZHp) (n k w : Nat) : Z (f + 1) 54 L st σ n k w = s_getf 14 10 57 L st σ n k w (zk1 cut G (Z f)) G R T := zrs hZ rfl f L st σ n k w
theorem f_X15_buy_57 (hZ : ZRN (ztb (tb_X15_buy E d mc ms)) cut G R T Z) (f : Nat) (L : ZLV) (st : List Value) (σ : ZHp) (n k w : Nat) : Z (f + 1) 57 L st σ n k w = s_getf 13 5 60 L st σ n k w (zk1 cut G (Z f)) G R T := zrs hZ rfl f L st σ n k w
theorem f_X15_buy_60 (hZ : ZRN (ztb (tb_X15_buy E d mc ms)) cut G R T Z) (f : Nat) (L : ZLV) (st : List Value) (σ : ZHp) (n k w : Nat) : Z (f + 1) 60 L st σ n k w = s_iload 1 61 L st σ n k w (zk1 cut G (Z f)) G R T := zrs hZ rfl f L st σ n k w
theorem f_X15_buy_61 (hZ : ZRN (ztb (tb_X15_buy E d mc ms)) cut G R T Z) (f : Nat) (L : ZLV) (st : List Value) (σ : ZHp) (n k w : Nat) : Z (f + 1) 61 L st σ n k w = s_dup2 62 L st σ n k w (zk1 cut G (Z f)) G R T := zrs hZ rfl f L st σ n k w
theorem f_X15_buy_62 (hZ : ZRN (ztb (tb_X15_buy E d mc ms)) cut G R T Z) (f : Nat) (L : ZLV) (st : List Value) (σ : ZHp) (n k w : Nat) : Z (f + 1) 62 L st σ n k w = s_iaload E 63 L st σ n k w (zk1 cut G (Z f)) G R T := zrs hZ rfl f L st σ n k w
theorem f_X15_buy_63 (hZ : ZRN (ztb (tb_X15_buy E d mc ms)) cut G R T Z) (f : Nat) (L : ZLV) (st : List Value) (σ : ZHp) (n k w : Nat) : Z (f + 1) 63 L st σ n k w = s_const (.int (1)) 64 L st σ n k w (zk1 cut G (Z f)) G R T := zrs hZ rfl f L st σ n k w
theorem f_X15_buy_64 (hZ : ZRN (ztb (tb_X15_buy E d mc ms)) cut G R T Z) (f : Nat) (L : ZLV) (st : List Value) (σ : ZHp) (n k w : Nat) : Z (f + 1) 64 L st σ n k w = s_iadd 65 L st σ n k w (zk1 cut G (Z f)) G R T := zrs hZ rfl f L st σ n k w
theorem f_X15_buy_65 (hZ : ZRN (ztb (tb_X15_buy E d mc ms)) cut G R T Z) (f : Nat) (L : ZLV) (st : List Value) (σ : ZHp) (n k w : Nat) : Z (f + 1) 65 L st σ n k w = s_iastore E 66 L st σ n k w (zk1 cut G (Z f)) G R T := zrs hZ rfl f L st σ n k w
theorem f_X15_buy_66 (hZ : ZRN (ztb (tb_X15_buy E d mc ms)) cut G R T Z) (f : Nat) (L : ZLV) (st : List Value) (σ : ZHp) (n k w : Nat) : Z (f + 1) 66 L st σ n k w = s_aload 0 67 L st σ n k w (zk1 cut G (Z f)) G R T := zrs hZ rfl f L st σ n k w
theorem f_X15_buy_67 (hZ : ZRN (ztb (tb_X15_buy E d mc ms)) cut G R T Z) (f : Nat) (L : ZLV) (st : List Value) (σ : ZHp) (n k w : Nat) : Z (f + 1) 67 L st σ n k w = s_getf 14 10 70 L st σ n k w (zk1 cut G (Z f)) G R T := zrs hZ rfl f L st σ n k w
theorem f_X15_buy_70 (hZ : ZRN (ztb (tb_X15_buy E d mc ms)) cut G R T Z) (f : Nat) (L : ZLV) (st : List Value) (σ : ZHp) (n k w : Nat) : Z (f + 1) 70 L st σ n k w = s_getf 13 12 73 L st σ n k w (zk1 cut G (Z f)) G R T := zrs hZ rfl f L st σ n k w
theorem f_X15_buy_73 (hZ : ZRN (ztb (tb_X15_buy E d mc ms)) cut G R T Z) (f : Nat) (L : ZLV) (st : List Value) (σ : ZHp) (n k w : Nat) : Z (f + 1) 73 L st σ n k w = s_aload 0 74 L st σ n k w (zk1 cut G (Z f)) G R T := zrs hZ rfl f L st σ n k w
theorem f_X15_buy_74 (hZ : ZRN (ztb (tb_X15_buy E d mc ms)) cut G R T Z) (f : Nat) (L : ZLV) (st : List Value) (σ : ZHp) (n k w : Nat) : Z (f + 1) 74 L st σ n k w = s_getf 14 11 77 L st σ n k w (zk1 cut G (Z f)) G R T := zrs hZ rfl f L st σ n k w
theorem f_X15_buy_77 (hZ : ZRN (ztb (tb_X15_buy E d mc ms)) cut G R T Z) (f : Nat) (L : ZLV) (st : List Value) (σ : ZHp) (n k w : Nat) : Z (f + 1) 77 L st σ n k w = s_dup2 78 L st σ n k w (zk1 cut G (Z f)) G R T := zrs hZ rfl f L st σ n k w
theorem f_X15_buy_78 (hZ : ZRN (ztb (tb_X15_buy E d mc ms)) cut G R T Z) (f : Nat) (L : ZLV) (st : List Value) (σ : ZHp) (n k w : Nat) : Z (f + 1) 78 L st σ n k w = s_iaload E 79 L st σ n k w (zk1 cut G (Z f)) G R T := zrs hZ rfl f L st σ n k w
theorem f_X15_buy_79 (hZ : ZRN (ztb (tb_X15_buy E d mc ms)) cut G R T Z) (f : Nat) (L : ZLV) (st : List Value) (σ : ZHp) (n k w : Nat) : Z (f + 1) 79 L st σ n k w = s_const (.int (1)) 80 L st σ n k w (zk1 cut G (Z f)) G R T := zrs hZ rfl f L st σ n k w
theorem f_X15_buy_80 (hZ : ZRN (ztb (tb_X15_buy E d mc ms)) cut G R T Z) (f : Nat) (L : ZLV) (st : List Value) (σ : ZHp) (n k w : Nat) : Z (f + 1) 80 L st σ n k w = s_iadd 81 L st σ n k w (zk1 cut G (Z f)) G R T := zrs hZ rfl f L st σ n k w
theorem f_X15_buy_81 (hZ : ZRN (ztb (tb_X15_buy E d mc ms)) cut G R T Z) (f : Nat) (L : ZLV) (st : List Value) (σ : ZHp) (n k w : Nat) : Z (f + 1) 81 L st σ n k w = s_iastore E 82 L st σ n k w (zk1 cut G (Z f)) G R T := zrs hZ rfl f L st σ n k w
theorem f_X15_buy_82 (hZ : ZRN (ztb (tb_X15_buy E d mc ms)) cut G R T Z) (f : Nat) (L : ZLV) (st : List Value) (σ : ZHp) (n k w : Nat) : Z (f + 1) 82 L st σ n k w = s_aload 0 83 L st σ n k w (zk1 cut G (Z f)) G R T := zrs hZ rfl f L st σ n k w
theorem f_X15_buy_83 (hZ : ZRN (ztb (tb_X15_buy E d mc ms)) cut G R T Z) (f : Nat) (L : ZLV) (st : List Value) (σ : ZHp) (n k w : Nat) : Z (f + 1) 83 L st σ n k w = s_getf 14 10 86 L st σ n k w (zk1 cut G (Z f)) G R T := zrs hZ rfl f L st σ n k w
theorem f_X15_buy_86 (hZ : ZRN (ztb (tb_X15_buy E d mc ms)) cut G R T Z) (f : Nat) (L : ZLV) (st : List Value) (σ : ZHp) (n k w : Nat) : Z (f + 1) 86 L st σ n k w = s_dup 87 L st σ n k w (zk1 cut G (Z f)) G R T := zrs hZ rfl f L st σ n k w
theorem f_X15_buy_87 (hZ : ZRN (ztb (tb_X15_buy E d mc ms)) cut G R T Z) (f : Nat) (L : ZLV) (st : List Value) (σ : ZHp) (n k w : Nat) : Z (f + 1) 87 L st σ n k w = s_getf 13 2 90 L st σ n k w (zk1 cut G (Z f)) G R T := zrs hZ rfl f L st σ n k w
theorem f_X15_buy_90 (hZ : ZRN (ztb (tb_X15_buy E d mc ms)) cut G R T Z) (f : Nat) (L : ZLV) (st : List Value) (σ : ZHp) (n k w : Nat) : Z (f + 1) 90 L st σ n k w = s_const (.int (1)) 91 L st σ n k w (zk1 cut G (Z f)) G R T := zrs hZ rfl f L st σ n k w
theorem f_X15_buy_91 (hZ : ZRN (ztb (tb_X15_buy E d mc ms)) cut G R T Z) (f : Nat) (L : ZLV) (st : List Value) (σ : ZHp) (n k w : Nat) : Z (f + 1) 91 L st σ n k w = s_iadd 92 L st σ n k w (zk1 cut G (Z f)) G R T := zrs hZ rfl f L st σ n k w
theorem f_X15_buy_92 (hZ : ZRN (ztb (tb_X15_buy E d mc ms)) cut G R T Z) (f : Nat) (L : ZLV) (st : List Value) (σ : ZHp) (n k w : Nat) : Z (f + 1) 92 L st σ n k w = s_putf 13 2 0 95 L st σ n k w (zk1 cut G (Z f)) G R T := zrs hZ rfl f L st σ n k w
theorem f_X15_buy_95 (hZ : ZRN (ztb (tb_X15_buy E d mc ms)) cut G R T Z) (f : Nat) (L : ZLV) (st : List Value) (σ : ZHp) (n k w : Nat) : Z (f + 1) 95 L st σ n k w = s_aload 0 96 L st σ n k w (zk1 cut G (Z f)) G R T := zrs hZ rfl f L st σ n k w
theorem f_X15_buy_96 (hZ : ZRN (ztb (tb_X15_buy E d mc ms)) cut G R T Z) (f : Nat) (L : ZLV) (st : List Value) (σ : ZHp) (n k w : Nat) : Z (f + 1) 96 L st σ n k w = s_dup 97 L st σ n k w (zk1 cut G (Z f)) G R T := zrs hZ rfl f L st σ n k w
theorem f_X15_buy_97 (hZ : ZRN (ztb (tb_X15_buy E d mc ms)) cut G R T Z) (f : Nat) (L : ZLV) (st : List Value) (σ : ZHp) (n k w : Nat) : Z (f + 1) 97 L st σ n k w = s_getf 14 21 100 L st σ n k w (zk1 cut G (Z f)) G R T := zrs hZ rfl f L st σ n k w
theorem f_X15_buy_100 (hZ : ZRN (ztb (tb_X15_buy E d mc ms)) cut G R T Z) (f : Nat) (L : ZLV) (st : List Value) (σ : ZHp) (n k w : Nat) : Z (f + 1) 100 L st σ n k w = s_const (.int (1)) 101 L st σ n k w (zk1 cut G (Z f)) G R T := zrs hZ rfl f L st σ n k w
theorem f_X15_buy_101 (hZ : ZRN (ztb (tb_X15_buy E d mc ms)) cut G R T Z) (f : Nat) (L : ZLV) (st : List Value) (σ : ZHp) (n k w : Nat) : Z (f + 1) 101 L st σ n k w = s_iadd 102 L st σ n k w (zk1 cut G (Z f)) G R T := zrs hZ rfl f L st σ n k w
theorem f_X15_buy_102 (hZ : ZRN (ztb (tb_X15_buy E d mc ms)) cut G R T Z) (f : Nat) (L : ZLV) (st : List Value) (σ : ZHp) (n k w : Nat) : Z (f + 1) 102 L st σ n k w = s_putf 14 21 0 105 L st σ n k w (zk1 cut G (Z f)) G R T := zrs hZ rfl f L st σ n k w
theorem f_X15_buy_105 (hZ : ZRN (ztb (tb_X15_buy E d mc ms)) cut G R T Z) (f : Nat) (L : ZLV) (st : List Value) (σ : ZHp) (n k w : Nat) : Z (f + 1) 105 L st σ n k w = s_return L st σ n k w (zk1 cut G (Z f)) G R T := zrs hZ rfl f L st σ n k w
theorem f_X15_turn_0 (hZ : ZRN (ztb (tb_X15_turn E d mc ms)) cut G R T Z) (f : Nat) (L : ZLV) (st : List Value) (σ : ZHp) (n k w : Nat) : Z (f + 1) 0 L st σ n k w = s_aload 0 1 L st σ n k w (zk1 cut G (Z f)) G R T := zrs hZ rfl f L st σ n k w
theorem f_X15_turn_1 (hZ : ZRN (ztb (tb_X15_turn E d mc ms)) cut G R T Z) (f : Nat) (L : ZLV) (st : List Value) (σ : ZHp) (n k w : Nat) : Z (f + 1) 1 L st σ n k w = s_aload 1 2 L st σ n k w (zk1 cut G (Z f)) G R T := zrs hZ rfl f L st σ n k w
theorem f_X15_turn_2 (hZ : ZRN (ztb (tb_X15_turn E d mc ms)) cut G R T Z) (f : Nat) (L : ZLV) (st : List Value) (σ : ZHp) (n k w : Nat) : Z (f + 1) 2 L st σ n k w = s_putf 14 10 3 5 L st σ n k w (zk1 cut G (Z f)) G R T := zrs hZ rfl f L st σ n k w
theorem f_X15_turn_5 (hZ : ZRN (ztb (tb_X15_turn E d mc ms)) cut G R T Z) (f : Nat) (L : ZLV) (st : List Value) (σ : ZHp) (n k w : Nat) : Z (f + 1) 5 L st σ n k w = s_aload 0 6 L st σ n k w (zk1 cut G (Z f)) G R T := zrs hZ rfl f L st σ n k w
theorem f_X15_turn_6 (hZ : ZRN (ztb (tb_X15_turn E d mc ms)) cut G R T Z) (f : Nat) (L : ZLV) (st : List Value) (σ : ZHp) (n k w : Nat) : Z (f + 1) 6 L st σ n k w = s_iload 2 7 L st σ n k w (zk1 cut G (Z f)) G R T := zrs hZ rfl f L st σ n k w
theorem f_X15_turn_7 (hZ : ZRN (ztb (tb_X15_turn E d mc ms)) cut G R T Z) (f : Nat) (L : ZLV) (st : List Value) (σ : ZHp) (n k w : Nat) : Z (f + 1) 7 L st σ n k w = s_putf 14 11 0 10 L st σ n k w (zk1 cut G (Z f)) G R T := zrs hZ rfl f L st σ n k w
theorem f_X15_turn_10 (hZ : ZRN (ztb (tb_X15_turn E d mc ms)) cut G R T Z) (f : Nat) (L : ZLV) (st : List Value) (σ : ZHp) (n k w : Nat) : Z (f + 1) 10 L st σ n k w = s_aload 0 11 L st σ n k w (zk1 cut G (Z f)) G R T := zrs hZ rfl f L st σ n k w
theorem f_X15_turn_11 (hZ : ZRN (ztb (tb_X15_turn E d mc ms)) cut G R T Z) (f : Nat) (L : ZLV) (st : List Value) (σ : ZHp) (n k w : Nat) : Z (f + 1) 11 L st σ n k w = s_const (.int (0)) 12 L st σ n k w (zk1 cut G (Z f)) G R T := zrs hZ rfl f L st σ n k w
theorem f_X15_turn_12 (hZ : ZRN (ztb (tb_X15_turn E d mc ms)) cut G R T Z) (f : Nat) (L : ZLV) (st : List Value) (σ : ZHp) (n k w : Nat) : Z (f + 1) 12 L st σ n k w = s_putf 14 16 0 15 L st σ n k w (zk1 cut G (Z f)) G R T := zrs hZ rfl f L st σ n k w
theorem f_X15_turn_15 (hZ : ZRN (ztb (tb_X15_turn E d mc ms)) cut G R T Z) (f : Nat) (L : ZLV) (st : List Value) (σ : ZHp) (n k w : Nat) : Z (f + 1) 15 L st σ n k w = s_aload 0 16 L st σ n k w (zk1 cut G (Z f)) G R T := zrs hZ rfl f L st σ n k w
theorem f_X15_turn_16 (hZ : ZRN (ztb (tb_X15_turn E d mc ms)) cut G R T Z) (f : Nat) (L : ZLV) (st : List Value) (σ : ZHp) (n k w : Nat) : Z (f + 1) 16 L st σ n k w = s_const (.int (1)) 17 L st σ n k w (zk1 cut G (Z f)) G R T := zrs hZ rfl f L st σ n k w
theorem f_X15_turn_17 (hZ : ZRN (ztb (tb_X15_turn E d mc ms)) cut G R T Z) (f : Nat) (L : ZLV) (st : List Value) (σ : ZHp) (n k w : Nat) : Z (f + 1) 17 L st σ n k w = s_putf 14 17 0 20 L st σ n k w (zk1 cut G (Z f)) G R T := zrs hZ rfl f L st σ n k w
theorem f_X15_turn_20 (hZ : ZRN (ztb (tb_X15_turn E d mc ms)) cut G R T Z) (f : Nat) (L : ZLV) (st : List Value) (σ : ZHp) (n k w : Nat) : Z (f + 1) 20 L st σ n k w = s_aload 0 21 L st σ n k w (zk1 cut G (Z f)) G R T := zrs hZ rfl f L st σ n k w
theorem f_X15_turn_21 (hZ : ZRN (ztb (tb_X15_turn E d mc ms)) cut G R T Z) (f : Nat) (L : ZLV) (st : List Value) (σ : ZHp) (n k w : Nat) : Z (f + 1) 21 L st σ n k w = s_const (.int (0)) 22 L st σ n k w (zk1 cut G (Z f)) G R T := zrs hZ rfl f L st σ n k w
theorem f_X15_turn_22 (hZ : ZRN (ztb (tb_X15_turn E d mc ms)) cut G R T Z) (f : Nat) (L : ZLV) (st : List Value) (σ : ZHp) (n k w : Nat) : Z (f + 1) 22 L st σ n k w = s_putf 14 13 0 25 L st σ n k w (zk1 cut G (Z f)) G R T := zrs hZ rfl f L st σ n k w
theorem f_X15_turn_25 (hZ : ZRN (ztb (tb_X15_turn E d mc ms)) cut G R T Z) (f : Nat) (L : ZLV) (st : List Value) (σ : ZHp) (n k w : Nat) : Z (f + 1) 25 L st σ n k w = s_aload 0 26 L st σ n k w (zk1 cut G (Z f)) G R T := zrs hZ rfl f L st σ n k w
theorem f_X15_turn_26 (hZ : ZRN (ztb (tb_X15_turn E d mc ms)) cut G R T Z) (f : Nat) (L : ZLV) (st : List Value) (σ : ZHp) (n k w : Nat) : Z (f + 1) 26 L st σ n k w = s_const (.int (0)) 27 L st σ n k w (zk1 cut G (Z f)) G R T := zrs hZ rfl f L st σ n k w
theorem f_X15_turn_27 (hZ : ZRN (ztb (tb_X15_turn E d mc ms)) cut G R T Z) (f : Nat) (L : ZLV) (st : List Value) (σ : ZHp) (n k w : Nat) : Z (f + 1) 27 L st σ n k w = s_putf 14 20 0 30 L st σ n k w (zk1 cut G (Z f)) G R T := zrs hZ rfl f L st σ n k w
theorem f_X15_turn_30 (hZ : ZRN (ztb (tb_X15_turn E d mc ms)) cut G R T Z) (f : Nat) (L : ZLV) (st : List Value) (σ : ZHp) (n k w : Nat) : Z (f + 1) 30 L st σ n k w = s_aload 0 31 L st σ n k w (zk1 cut G (Z f)) G R T := zrs hZ rfl f L st σ n k w
theorem f_X15_turn_31 (hZ : ZRN (ztb (tb_X15_turn E d mc ms)) cut G R T Z) (f : Nat) (L : ZLV) (st : List Value) (σ : ZHp) (n k w : Nat) : Z (f + 1) 31 L st σ n k w = s_const (.int (0)) 32 L st σ n k w (zk1 cut G (Z f)) G R T := zrs hZ rfl f L st σ n k w
theorem f_X15_turn_32 (hZ : ZRN (ztb (tb_X15_turn E d mc ms)) cut G R T Z) (f : Nat) (L : ZLV) (st : List Value) (σ : ZHp) (n k w : Nat) : Z (f + 1) 32 L st σ n k w = s_putf 14 21 0 35 L st σ n k w (zk1 cut G (Z f)) G R T := zrs hZ rfl f L st σ n k w
theorem f_X15_turn_35 (hZ : ZRN (ztb (tb_X15_turn E d mc ms)) cut G R T Z) (f : Nat) (L : ZLV) (st : List Value) (σ : ZHp) (n k w : Nat) : Z (f + 1) 35 L st σ n k w = s_const (.int (0)) 36 L st σ n k w (zk1 cut G (Z f)) G R T := zrs hZ rfl f L st σ n k w
theorem f_X15_turn_36 (hZ : ZRN (ztb (tb_X15_turn E d mc ms)) cut G R T Z) (f : Nat) (L : ZLV) (st : List Value) (σ : ZHp) (n k w : Nat) : Z (f + 1) 36 L st σ n k w = s_istore 3 37 L st σ n k w (zk1 cut G (Z f)) G R T := zrs hZ rfl f L st σ n k w
theorem f_X15_turn_37 (hZ : ZRN (ztb (tb_X15_turn E d mc ms)) cut G R T Z) (f : Nat) (L : ZLV) (st : List Value) (σ : ZHp) (n k w : Nat) : Z (f + 1) 37 L st σ n k w = s_iload 3 38 L st σ n k w (zk1 cut G (Z f)) G R T := zrs hZ rfl f L st σ n k w
theorem f_X15_turn_38 (hZ : ZRN (ztb (tb_X15_turn E d mc ms)) cut G R T Z) (f : Nat) (L : ZLV) (st : List Value) (σ : ZHp) (n k w : Nat) : Z (f + 1) 38 L st σ n k w = s_const (.int (10)) 40 L st σ n k w (zk1 cut G (Z f)) G R T := zrs hZ rfl f L st σ n k w
theorem f_X15_turn_40 (hZ : ZRN (ztb (tb_X15_turn E d mc ms)) cut G R T Z) (f : Nat) (L : ZLV) (st : List Value) (σ : ZHp) (n k w : Nat) : Z (f + 1) 40 L st σ n k w = s_icmp_ge 56 43 L st σ n k w (zk1 cut G (Z f)) G R T := zrs hZ rfl f L st σ n k w
theorem f_X15_turn_43 (hZ : ZRN (ztb (tb_X15_turn E d mc ms)) cut G R T Z) (f : Nat) (L : ZLV) (st : List Value) (σ : ZHp) (n k w : Nat) : Z (f + 1) 43 L st σ n k w = s_aload 0 44 L st σ n k w (zk1 cut G (Z f)) G R T := zrs hZ rfl f L st σ n k w
theorem f_X15_turn_44 (hZ : ZRN (ztb (tb_X15_turn E d mc ms)) cut G R T Z) (f : Nat) (L : ZLV) (st : List Value) (σ : ZHp) (n k w : Nat) : Z (f + 1) 44 L st σ n k w = s_getf 14 15 47 L st σ n k w (zk1 cut G (Z f)) G R T := zrs hZ rfl f L st σ n k w
theorem f_X15_turn_47 (hZ : ZRN (ztb (tb_X15_turn E d mc ms)) cut G R T Z) (f : Nat) (L : ZLV) (st : List Value) (σ : ZHp) (n k w : Nat) : Z (f + 1) 47 L st σ n k w = s_iload 3 48 L st σ n k w (zk1 cut G (Z f)) G R T := zrs hZ rfl f L st σ n k w
theorem f_X15_turn_48 (hZ : ZRN (ztb (tb_X15_turn E d mc ms)) cut G R T Z) (f : Nat) (L : ZLV) (st : List Value) (σ : ZHp) (n k w : Nat) : Z (f + 1) 48 L st σ n k w = s_const (.int (0)) 49 L st σ n k w (zk1 cut G (Z f)) G R T := zrs hZ rfl f L st σ n k w
theorem f_X15_turn_49 (hZ : ZRN (ztb (tb_X15_turn E d mc ms)) cut G R T Z) (f : Nat) (L : ZLV) (st : List Value) (σ : ZHp) (n k w : Nat) : Z (f + 1) 49 L st σ n k w = s_iastore E 50 L st σ n k w (zk1 cut G (Z f)) G R T := zrs hZ rfl f L st σ n k w
theorem f_X15_turn_50 (hZ : ZRN (ztb (tb_X15_turn E d mc ms)) cut G R T Z) (f : Nat) (L : ZLV) (st : List Value) (σ : ZHp) (n k w : Nat) : Z (f + 1) 50 L st σ n k w = s_iinc 3 (1) 53 L st σ n k w (zk1 cut G (Z f)) G R T := zrs hZ rfl f L st σ n k w
theorem f_X15_turn_53 (hZ : ZRN (ztb (tb_X15_turn E d mc ms)) cut G R T Z) (f : Nat) (L : ZLV) (st : List Value) (σ : ZHp) (n k w : Nat) : Z (f + 1) 53 L st σ n k w = s_goto 37 L st σ n k w (zk1 cut G (Z f)) G R T := zrs hZ rfl f L st σ n k w
theorem f_X15_turn_56 (hZ : ZRN (ztb (tb_X15_turn E d mc ms)) cut G R T Z) (f : Nat) (L : ZLV) (st : List Value) (σ : ZHp) (n k w : Nat) : Z (f + 1) 56 L st σ n k w = s_const (.int (0)) 57 L st σ n k w (zk1 cut G (Z f)) G R T := zrs hZ rfl f L st σ n k w
theorem f_X15_turn_57 (hZ : ZRN (ztb (tb_X15_turn E d mc ms)) cut G R T Z) (f : Nat) (L : ZLV) (st : List Value) (σ : ZHp) (n k w : Nat) : Z (f + 1) 57 L st σ n k w = s_istore 3 58 L st σ n k w (zk1 cut G (Z f)) G R T := zrs hZ rfl f L st σ n k w
theorem f_X15_turn_58 (hZ : ZRN (ztb (tb_X15_turn E d mc ms)) cut G R T Z) (f : Nat) (L : ZLV) (st : List Value) (σ : ZHp) (n k w : Nat) : Z (f + 1) 58 L st σ n k w = s_iload 3 59 L st σ n k w (zk1 cut G (Z f)) G R T := zrs hZ rfl f L st σ n k w
theorem f_X15_turn_59 (hZ : ZRN (ztb (tb_X15_turn E d mc ms)) cut G R T Z) (f : Nat) (L : ZLV) (st : List Value) (σ : ZHp) (n k w : Nat) : Z (f + 1) 59 L st σ n k w = s_const (.int (5)) 60 L st σ n k w (zk1 cut G (Z f)) G R T := zrs hZ rfl f L st σ n k w
theorem f_X15_turn_60 (hZ : ZRN (ztb (tb_X15_turn E d mc ms)) cut G R T Z) (f : Nat) (L : ZLV) (st : List Value) (σ : ZHp) (n k w : Nat) : Z (f + 1) 60 L st σ n k w = s_icmp_ge 73 63 L st σ n k w (zk1 cut G (Z f)) G R T := zrs hZ rfl f L st σ n k w
theorem f_X15_turn_63 (hZ : ZRN (ztb (tb_X15_turn E d mc ms)) cut G R T Z) (f : Nat) (L : ZLV) (st : List Value) (σ : ZHp) (n k w : Nat) : Z (f + 1) 63 L st σ n k w = s_aload 0 64 L st σ n k w (zk1 cut G (Z f)) G R T := zrs hZ rfl f L st σ n k w
theorem f_X15_turn_64 (hZ : ZRN (ztb (tb_X15_turn E d mc ms)) cut G R T Z) (f : Nat) (L : ZLV) (st : List Value) (σ : ZHp) (n k w : Nat) : Z (f + 1) 64 L st σ n k w = s_callV E d mc ms 14 MX15_drawOne 0 67 L st σ n k w (zk1 cut G (Z f)) G R T := zrs hZ rfl f L st σ n k w
theorem f_X15_turn_67 (hZ : ZRN (ztb (tb_X15_turn E d mc ms)) cut G R T Z) (f : Nat) (L : ZLV) (st : List Value) (σ : ZHp) (n k w : Nat) : Z (f + 1) 67 L st σ n k w = s_iinc 3 (1) 70 L st σ n k w (zk1 cut G (Z f)) G R T := zrs hZ rfl f L st σ n k w
theorem f_X15_turn_70 (hZ : ZRN (ztb (tb_X15_turn E d mc ms)) cut G R T Z) (f : Nat) (L : ZLV) (st : List Value) (σ : ZHp) (n k w : Nat) : Z (f + 1) 70 L st σ n k w = s_goto 58 L st σ n k w (zk1 cut G (Z f)) G R T := zrs hZ rfl f L st σ n k w
theorem f_X15_turn_73 (hZ : ZRN (ztb (tb_X15_turn E d mc ms)) cut G R T Z) (f : Nat) (L : ZLV) (st : List Value) (σ : ZHp) (n k w : Nat) : Z (f + 1) 73 L st σ n k w = s_aload 0 74 L st σ n k w (zk1 cut G (Z f)) G R T := zrs hZ rfl f L st σ n k w
theorem f_X15_turn_74 (hZ : ZRN (ztb (tb_X15_turn E d mc ms)) cut G R T Z) (f : Nat) (L : ZLV) (st : List Value) (σ : ZHp) (n k w : Nat) : Z (f + 1) 74 L st σ n k w = s_callV E d mc ms 14 MX15_playHand 0 77 L st σ n k w (zk1 cut G (Z f)) G R T := zrs hZ rfl f L st σ n k w
theorem f_X15_turn_77 (hZ : ZRN (ztb (tb_X15_turn E d mc ms)) cut G R T Z) (f : Nat) (L : ZLV) (st : List Value) (σ : ZHp) (n k w : Nat) : Z (f + 1) 77 L st σ n k w = s_aload 0 78 L st σ n k w (zk1 cut G (Z f)) G R T := zrs hZ rfl f L st σ n k w
theorem f_X15_turn_78 (hZ : ZRN (ztb (tb_X15_turn E d mc ms)) cut G R T Z) (f : Nat) (L : ZLV) (st : List Value) (σ : ZHp) (n k w : Nat) : Z (f + 1) 78 L st σ n k w = s_aload 0 79 L st σ n k w (zk1 cut G (Z f)) G R T := zrs hZ rfl f L st σ n k w
theorem f_X15_turn_79 (hZ : ZRN (ztb (tb_X15_turn E d mc ms)) cut G R T Z) (f : Nat) (L : ZLV) (st : List Value) (σ : ZHp) (n k w : Nat) : Z (f + 1) 79 L st σ n k w = s_getf 14 16 82 L st σ n k w (zk1 cut G (Z f)) G R T := zrs hZ rfl f L st σ n k w
theorem f_X15_turn_82 (hZ : ZRN (ztb (tb_X15_turn E d mc ms)) cut G R T Z) (f : Nat) (L : ZLV) (st : List Value) (σ : ZHp) (n k w : Nat) : Z (f + 1) 82 L st σ n k w = s_putf 14 18 0 85 L st σ n k w (zk1 cut G (Z f)) G R T := zrs hZ rfl f L st σ n k w
theorem f_X15_turn_85 (hZ : ZRN (ztb (tb_X15_turn E d mc ms)) cut G R T Z) (f : Nat) (L : ZLV) (st : List Value) (σ : ZHp) (n k w : Nat) : Z (f + 1) 85 L st σ n k w = s_aload 0 86 L st σ n k w (zk1 cut G (Z f)) G R T := zrs hZ rfl f L st σ n k w
theorem f_X15_turn_86 (hZ : ZRN (ztb (tb_X15_turn E d mc ms)) cut G R T Z) (f : Nat) (L : ZLV) (st : List Value) (σ : ZHp) (n k w : Nat) : Z (f + 1) 86 L st σ n k w = s_aload 0 87 L st σ n k w (zk1 cut G (Z f)) G R T := zrs hZ rfl f L st σ n k w
theorem f_X15_turn_87 (hZ : ZRN (ztb (tb_X15_turn E d mc ms)) cut G R T Z) (f : Nat) (L : ZLV) (st : List Value) (σ : ZHp) (n k w : Nat) : Z (f + 1) 87 L st σ n k w = s_getf 14 17 90 L st σ n k w (zk1 cut G (Z f)) G R T := zrs hZ rfl f L st σ n k w
theorem f_X15_turn_90 (hZ : ZRN (ztb (tb_X15_turn E d mc ms)) cut G R T Z) (f : Nat) (L : ZLV) (st : List Value) (σ : ZHp) (n k w : Nat) : Z (f + 1) 90 L st σ n k w = s_putf 14 19 0 93 L st σ n k w (zk1 cut G (Z f)) G R T := zrs hZ rfl f L st σ n k w
theorem f_X15_turn_93 (hZ : ZRN (ztb (tb_X15_turn E d mc ms)) cut G R T Z) (f : Nat) (L : ZLV) (st : List Value) (σ : ZHp) (n k w : Nat) : Z (f + 1) 93 L st σ n k w = s_aload 1 94 L st σ n k w (zk1 cut G (Z f)) G R T := zrs hZ rfl f L st σ n k w
theorem f_X15_turn_94 (hZ : ZRN (ztb (tb_X15_turn E d mc ms)) cut G R T Z) (f : Nat) (L : ZLV) (st : List Value) (σ : ZHp) (n k w : Nat) : Z (f + 1) 94 L st σ n k w = s_getf 13 13 97 L st σ n k w (zk1 cut G (Z f)) G R T := zrs hZ rfl f L st σ n k w
theorem f_X15_turn_97 (hZ : ZRN (ztb (tb_X15_turn E d mc ms)) cut G R T Z) (f : Nat) (L : ZLV) (st : List Value) (σ : ZHp) (n k w : Nat) : Z (f + 1) 97 L st σ n k w = s_iload 2 98 L st σ n k w (zk1 cut G (Z f)) G R T := zrs hZ rfl f L st σ n k w
theorem f_X15_turn_98 (hZ : ZRN (ztb (tb_X15_turn E d mc ms)) cut G R T Z) (f : Nat) (L : ZLV) (st : List Value) (σ : ZHp) (n k w : Nat) : Z (f + 1) 98 L st σ n k w = s_aload 0 99 L st σ n k w (zk1 cut G (Z f)) G R T := zrs hZ rfl f L st σ n k w
theorem f_X15_turn_99 (hZ : ZRN (ztb (tb_X15_turn E d mc ms)) cut G R T Z) (f : Nat) (L : ZLV) (st : List Value) (σ : ZHp) (n k w : Nat) : Z (f + 1) 99 L st σ n k w = s_getf 14 16 102 L st σ n k w (zk1 cut G (Z f)) G R T := zrs hZ rfl f L st σ n k w
theorem f_X15_turn_102 (hZ : ZRN (ztb (tb_X15_turn E d mc ms)) cut G R T Z) (f : Nat) (L : ZLV) (st : List Value) (σ : ZHp) (n k w : Nat) : Z (f + 1) 102 L st σ n k w = s_iastore E 103 L st σ n k w (zk1 cut G (Z f)) G R T := zrs hZ rfl f L st σ n k w
theorem f_X15_turn_103 (hZ : ZRN (ztb (tb_X15_turn E d mc ms)) cut G R T Z) (f : Nat) (L : ZLV) (st : List Value) (σ : ZHp) (n k w : Nat) : Z (f + 1) 103 L st σ n k w = s_const (.int (0)) 104 L st σ n k w (zk1 cut G (Z f)) G R T := zrs hZ rfl f L st σ n k w
theorem f_X15_turn_104 (hZ : ZRN (ztb (tb_X15_turn E d mc ms)) cut G R T Z) (f : Nat) (L : ZLV) (st : List Value) (σ : ZHp) (n k w : Nat) : Z (f + 1) 104 L st σ n k w = s_istore 3 105 L st σ n k w (zk1 cut G (Z f)) G R T := zrs hZ rfl f L st σ n k w
theorem f_X15_turn_105 (hZ : ZRN (ztb (tb_X15_turn E d mc ms)) cut G R T Z) (f : Nat) (L : ZLV) (st : List Value) (σ : ZHp) (n k w : Nat) : Z (f + 1) 105 L st σ n k w = s_iload 3 106 L st σ n k w (zk1 cut G (Z f)) G R T := zrs hZ rfl f L st σ n k w
theorem f_X15_turn_106 (hZ : ZRN (ztb (tb_X15_turn E d mc ms)) cut G R T Z) (f : Nat) (L : ZLV) (st : List Value) (σ : ZHp) (n k w : Nat) : Z (f + 1) 106 L st σ n k w = s_aload 0 107 L st σ n k w (zk1 cut G (Z f)) G R T := zrs hZ rfl f L st σ n k w
theorem f_X15_turn_107 (hZ : ZRN (ztb (tb_X15_turn E d mc ms)) cut G R T Z) (f : Nat) (L : ZLV) (st : List Value) (σ : ZHp) (n k w : Nat) : Z (f + 1) 107 L st σ n k w = s_getf 14 6 110 L st σ n k w (zk1 cut G (Z f)) G R T := zrs hZ rfl f L st σ n k w
theorem f_X15_turn_110 (hZ : ZRN (ztb (tb_X15_turn E d mc ms)) cut G R T Z) (f : Nat) (L : ZLV) (st : List Value) (σ : ZHp) (n k w : Nat) : Z (f + 1) 110 L st σ n k w = s_getf 12 16 113 L st σ n k w (zk1 cut G (Z f)) G R T := zrs hZ rfl f L st σ n k w
theorem f_X15_turn_113 (hZ : ZRN (ztb (tb_X15_turn E d mc ms)) cut G R T Z) (f : Nat) (L : ZLV) (st : List Value) (σ : ZHp) (n k w : Nat) : Z (f + 1) 113 L st σ n k w = s_icmp_ge 143 116 L st σ n k w (zk1 cut G (Z f)) G R T := zrs hZ rfl f L st σ n k w
theorem f_X15_turn_116 (hZ : ZRN (ztb (tb_X15_turn E d mc ms)) cut G R T Z) (f : Nat) (L : ZLV) (st : List Value) (σ : ZHp) (n k w : Nat) : Z (f + 1) 116 L st σ n k w = s_aload 0 117 L st σ n k w (zk1 cut G (Z f)) G R T := zrs hZ rfl f L st σ n k w
theorem f_X15_turn_117 (hZ : ZRN (ztb (tb_X15_turn E d mc ms)) cut G R T Z) (f : Nat) (L : ZLV) (st : List Value) (σ : ZHp) (n k w : Nat) : Z (f + 1) 117 L st σ n k w = s_iload 3 118 L st σ n k w (zk1 cut G (Z f)) G R T := zrs hZ rfl f L st σ n k w
theorem f_X15_turn_118 (hZ : ZRN (ztb (tb_X15_turn E d mc ms)) cut G R T Z) (f : Nat) (L : ZLV) (st : List Value) (σ : ZHp) (n k w : Nat) : Z (f + 1) 118 L st σ n k w = s_callV E d mc ms 14 MX15_can 1 121 L st σ n k w (zk1 cut G (Z f)) G R T := zrs hZ rfl f L st σ n k w
theorem f_X15_turn_121 (hZ : ZRN (ztb (tb_X15_turn E d mc ms)) cut G R T Z) (f : Nat) (L : ZLV) (st : List Value) (σ : ZHp) (n k w : Nat) : Z (f + 1) 121 L st σ n k w = s_if_eq 137 124 L st σ n k w (zk1 cut G (Z f)) G R T := zrs hZ rfl f L st σ n k w
theorem f_X15_turn_124 (hZ : ZRN (ztb (tb_X15_turn E d mc ms)) cut G R T Z) (f : Nat) (L : ZLV) (st : List Value) (σ : ZHp) (n k w : Nat) : Z (f + 1) 124 L st σ n k w = s_aload 0 125 L st σ n k w (zk1 cut G (Z f)) G R T := zrs hZ rfl f L st σ n k w
theorem f_X15_turn_125 (hZ : ZRN (ztb (tb_X15_turn E d mc ms)) cut G R T Z) (f : Nat) (L : ZLV) (st : List Value) (σ : ZHp) (n k w : Nat) : Z (f + 1) 125 L st σ n k w = s_aload 0 126 L st σ n k w (zk1 cut G (Z f)) G R T := zrs hZ rfl f L st σ n k w
theorem f_X15_turn_126 (hZ : ZRN (ztb (tb_X15_turn E d mc ms)) cut G R T Z) (f : Nat) (L : ZLV) (st : List Value) (σ : ZHp) (n k w : Nat) : Z (f + 1) 126 L st σ n k w = s_getf 14 6 129 L st σ n k w (zk1 cut G (Z f)) G R T := zrs hZ rfl f L st σ n k w
theorem f_X15_turn_129 (hZ : ZRN (ztb (tb_X15_turn E d mc ms)) cut G R T Z) (f : Nat) (L : ZLV) (st : List Value) (σ : ZHp) (n k w : Nat) : Z (f + 1) 129 L st σ n k w = s_getf 12 17 132 L st σ n k w (zk1 cut G (Z f)) G R T := zrs hZ rfl f L st σ n k w
theorem f_X15_turn_132 (hZ : ZRN (ztb (tb_X15_turn E d mc ms)) cut G R T Z) (f : Nat) (L : ZLV) (st : List Value) (σ : ZHp) (n k w : Nat) : Z (f + 1) 132 L st σ n k w = s_iload 3 133 L st σ n k w (zk1 cut G (Z f)) G R T := zrs hZ rfl f L st σ n k w
theorem f_X15_turn_133 (hZ : ZRN (ztb (tb_X15_turn E d mc ms)) cut G R T Z) (f : Nat) (L : ZLV) (st : List Value) (σ : ZHp) (n k w : Nat) : Z (f + 1) 133 L st σ n k w = s_iaload E 134 L st σ n k w (zk1 cut G (Z f)) G R T := zrs hZ rfl f L st σ n k w
theorem f_X15_turn_134 (hZ : ZRN (ztb (tb_X15_turn E d mc ms)) cut G R T Z) (f : Nat) (L : ZLV) (st : List Value) (σ : ZHp) (n k w : Nat) : Z (f + 1) 134 L st σ n k w = s_callV E d mc ms 14 MX15_buy 1 137 L st σ n k w (zk1 cut G (Z f)) G R T := zrs hZ rfl f L st σ n k w
theorem f_X15_turn_137 (hZ : ZRN (ztb (tb_X15_turn E d mc ms)) cut G R T Z) (f : Nat) (L : ZLV) (st : List Value) (σ : ZHp) (n k w : Nat) : Z (f + 1) 137 L st σ n k w = s_iinc 3 (1) 140 L st σ n k w (zk1 cut G (Z f)) G R T := zrs hZ rfl f L st σ n k w
theorem f_X15_turn_140 (hZ : ZRN (ztb (tb_X15_turn E d mc ms)) cut G R T Z) (f : Nat) (L : ZLV) (st : List Value) (σ : ZHp) (n k w : Nat) : Z (f + 1) 140 L st σ n k w = s_goto 105 L st σ n k w (zk1 cut G (Z f)) G R T := zrs hZ rfl f L st σ n k w
theorem f_X15_turn_143 (hZ : ZRN (ztb (tb_X15_turn E d mc ms)) cut G R T Z) (f : Nat) (L : ZLV) (st : List Value) (σ : ZHp) (n k w : Nat) : Z (f + 1) 143 L st σ n k w = s_const (.int (0)) 144 L st σ n k w (zk1 cut G (Z f)) G R T := zrs hZ rfl f L st σ n k w
theorem f_X15_turn_144 (hZ : ZRN (ztb (tb_X15_turn E d mc ms)) cut G R T Z) (f : Nat) (L : ZLV) (st : List Value) (σ : ZHp) (n k w : Nat) : Z (f + 1) 144 L st σ n k w = s_istore 3 145 L st σ n k w (zk1 cut G (Z f)) G R T := zrs hZ rfl f L st σ n k w
theorem f_X15_turn_145 (hZ : ZRN (ztb (tb_X15_turn E d mc ms)) cut G R T Z) (f : Nat) (L : ZLV) (st : List Value) (σ : ZHp) (n k w : Nat) : Z (f + 1) 145 L st σ n k w = s_iload 3 146 L st σ n k w (zk1 cut G (Z f)) G R T := zrs hZ rfl f L st σ n k w
theorem f_X15_turn_146 (hZ : ZRN (ztb (tb_X15_turn E d mc ms)) cut G R T Z) (f : Nat) (L : ZLV) (st : List Value) (σ : ZHp) (n k w : Nat) : Z (f + 1) 146 L st σ n k w = s_aload 0 147 L st σ n k w (zk1 cut G (Z f)) G R T := zrs hZ rfl f L st σ n k w
theorem f_X15_turn_147 (hZ : ZRN (ztb (tb_X15_turn E d mc ms)) cut G R T Z) (f : Nat) (L : ZLV) (st : List Value) (σ : ZHp) (n k w : Nat) : Z (f + 1) 147 L st σ n k w = s_getf 14 13 150 L st σ n k w (zk1 cut G (Z f)) G R T := zrs hZ rfl f L st σ n k w
theorem f_X15_turn_150 (hZ : ZRN (ztb (tb_X15_turn E d mc ms)) cut G R T Z) (f : Nat) (L : ZLV) (st : List Value) (σ : ZHp) (n k w : Nat) : Z (f + 1) 150 L st σ n k w = s_icmp_ge 170 153 L st σ n k w (zk1 cut G (Z f)) G R T := zrs hZ rfl f L st σ n k w
theorem f_X15_turn_153 (hZ : ZRN (ztb (tb_X15_turn E d mc ms)) cut G R T Z) (f : Nat) (L : ZLV) (st : List Value) (σ : ZHp) (n k w : Nat) : Z (f + 1) 153 L st σ n k w = s_aload 1 154 L st σ n k w (zk1 cut G (Z f)) G R T := zrs hZ rfl f L st σ n k w
theorem f_X15_turn_154 (hZ : ZRN (ztb (tb_X15_turn E d mc ms)) cut G R T Z) (f : Nat) (L : ZLV) (st : List Value) (σ : ZHp) (n k w : Nat) : Z (f + 1) 154 L st σ n k w = s_iload 2 155 L st σ n k w (zk1 cut G (Z f)) G R T := zrs hZ rfl f L st σ n k w
theorem f_X15_turn_155 (hZ : ZRN (ztb (tb_X15_turn E d mc ms)) cut G R T Z) (f : Nat) (L : ZLV) (st : List Value) (σ : ZHp) (n k w : Nat) : Z (f + 1) 155 L st σ n k w = s_aload 0 156 L st σ n k w (zk1 cut G (Z f)) G R T := zrs hZ rfl f L st σ n k w
theorem f_X15_turn_156 (hZ : ZRN (ztb (tb_X15_turn E d mc ms)) cut G R T Z) (f : Nat) (L : ZLV) (st : List Value) (σ : ZHp) (n k w : Nat) : Z (f + 1) 156 L st σ n k w = s_getf 14 12 159 L st σ n k w (zk1 cut G (Z f)) G R T := zrs hZ rfl f L st σ n k w
theorem f_X15_turn_159 (hZ : ZRN (ztb (tb_X15_turn E d mc ms)) cut G R T Z) (f : Nat) (L : ZLV) (st : List Value) (σ : ZHp) (n k w : Nat) : Z (f + 1) 159 L st σ n k w = s_iload 3 160 L st σ n k w (zk1 cut G (Z f)) G R T := zrs hZ rfl f L st σ n k w
theorem f_X15_turn_160 (hZ : ZRN (ztb (tb_X15_turn E d mc ms)) cut G R T Z) (f : Nat) (L : ZLV) (st : List Value) (σ : ZHp) (n k w : Nat) : Z (f + 1) 160 L st σ n k w = s_iaload E 161 L st σ n k w (zk1 cut G (Z f)) G R T := zrs hZ rfl f L st σ n k w
theorem f_X15_turn_161 (hZ : ZRN (ztb (tb_X15_turn E d mc ms)) cut G R T Z) (f : Nat) (L : ZLV) (st : List Value) (σ : ZHp) (n k w : Nat) : Z (f + 1) 161 L st σ n k w = s_callV E d mc ms 13 MX14_discard 2 164 L st σ n k w (zk1 cut G (Z f)) G R T := zrs hZ rfl f L st σ n k w
theorem f_X15_turn_164 (hZ : ZRN (ztb (tb_X15_turn E d mc ms)) cut G R T Z) (f : Nat) (L : ZLV) (st : List Value) (σ : ZHp) (n k w : Nat) : Z (f + 1) 164 L st σ n k w = s_iinc 3 (1) 167 L st σ n k w (zk1 cut G (Z f)) G R T := zrs hZ rfl f L st σ n k w
theorem f_X15_turn_167 (hZ : ZRN (ztb (tb_X15_turn E d mc ms)) cut G R T Z) (f : Nat) (L : ZLV) (st : List Value) (σ : ZHp) (n k w : Nat) : Z (f + 1) 167 L st σ n k w = s_goto 145 L st σ n k w (zk1 cut G (Z f)) G R T := zrs hZ rfl f L st σ n k w
theorem f_X15_turn_170 (hZ : ZRN (ztb (tb_X15_turn E d mc ms)) cut G R T Z) (f : Nat) (L : ZLV) (st : List Value) (σ : ZHp) (n k w : Nat) : Z (f + 1) 170 L st σ n k w = s_aload 0 171 L st σ n k w (zk1 cut G (Z f)) G R T := zrs hZ rfl f L st σ n k w
theorem f_X15_turn_171 (hZ : ZRN (ztb (tb_X15_turn E d mc ms)) cut G R T Z) (f : Nat) (L : ZLV) (st : List Value) (σ : ZHp) (n k w : Nat) : Z (f + 1) 171 L st σ n k w = s_const (.int (0)) 172 L st σ n k w (zk1 cut G (Z f)) G R T := zrs hZ rfl f L st σ n k w
theorem f_X15_turn_172 (hZ : ZRN (ztb (tb_X15_turn E d mc ms)) cut G R T Z) (f : Nat) (L : ZLV) (st : List Value) (σ : ZHp) (n k w : Nat) : Z (f + 1) 172 L st σ n k w = s_putf 14 13 0 175 L st σ n k w (zk1 cut G (Z f)) G R T := zrs hZ rfl f L st σ n k w
theorem f_X15_turn_175 (hZ : ZRN (ztb (tb_X15_turn E d mc ms)) cut G R T Z) (f : Nat) (L : ZLV) (st : List Value) (σ : ZHp) (n k w : Nat) : Z (f + 1) 175 L st σ n k w = s_return L st σ n k w (zk1 cut G (Z f)) G R T := zrs hZ rfl f L st σ n k w
theorem f_X15_rounds_0 (hZ : ZRN (ztb (tb_X15_rounds E d mc ms)) cut G R T Z) (f : Nat) (L : ZLV) (st : List Value) (σ : ZHp) (n k w : Nat) : Z (f + 1) 0 L st σ n k w = s_const (.int (0)) 1 L st σ n k w (zk1 cut G (Z f)) G R T := zrs hZ rfl f L st σ n k w
theorem f_X15_rounds_1 (hZ : ZRN (ztb (tb_X15_rounds E d mc ms)) cut G R T Z) (f : Nat) (L : ZLV) (st : List Value) (σ : ZHp) (n k w : Nat) : Z (f + 1) 1 L st σ n k w = s_istore 3 2 L st σ n k w (zk1 cut G (Z f)) G R T := zrs hZ rfl f L st σ n k w
theorem f_X15_rounds_2 (hZ : ZRN (ztb (tb_X15_rounds E d mc ms)) cut G R T Z) (f : Nat) (L : ZLV) (st : List Value) (σ : ZHp) (n k w : Nat) : Z (f + 1) 2 L st σ n k w = s_iload 3 3 L st σ n k w (zk1 cut G (Z f)) G R T := zrs hZ rfl f L st σ n k w
theorem f_X15_rounds_3 (hZ : ZRN (ztb (tb_X15_rounds E d mc ms)) cut G R T Z) (f : Nat) (L : ZLV) (st : List Value) (σ : ZHp) (n k w : Nat) : Z (f + 1) 3 L st σ n k w = s_iload 2 4 L st σ n k w (zk1 cut G (Z f)) G R T := zrs hZ rfl f L st σ n k w
theorem f_X15_rounds_4 (hZ : ZRN (ztb (tb_X15_rounds E d mc ms)) cut G R T Z) (f : Nat) (L : ZLV) (st : List Value) (σ : ZHp) (n k w : Nat) : Z (f + 1) 4 L st σ n k w = s_icmp_ge 51 7 L st σ n k w (zk1 cut G (Z f)) G R T := zrs hZ rfl f L st σ n k w
theorem f_X15_rounds_7 (hZ : ZRN (ztb (tb_X15_rounds E d mc ms)) cut G R T Z) (f : Nat) (L : ZLV) (st : List Value) (σ : ZHp) (n k w : Nat) : Z (f + 1) 7 L st σ n k w = s_const (.int (0)) 8 L st σ n k w (zk1 cut G (Z f)) G R T := zrs hZ rfl f L st σ n k w
theorem f_X15_rounds_8 (hZ : ZRN (ztb (tb_X15_rounds E d mc ms)) cut G R T Z) (f : Nat) (L : ZLV) (st : List Value) (σ : ZHp) (n k w : Nat) : Z (f + 1) 8 L st σ n k w = s_istore 4 10 L st σ n k w (zk1 cut G (Z f)) G R T := zrs hZ rfl f L st σ n k w
theorem f_X15_rounds_10 (hZ : ZRN (ztb (tb_X15_rounds E d mc ms)) cut G R T Z) (f : Nat) (L : ZLV) (st : List Value) (σ : ZHp) (n k w : Nat) : Z (f + 1) 10 L st σ n k w = s_iload 4 12 L st σ n k w (zk1 cut G (Z f)) G R T := zrs hZ rfl f L st σ n k w
theorem f_X15_rounds_12 (hZ : ZRN (ztb (tb_X15_rounds E d mc ms)) cut G R T Z) (f : Nat) (L : ZLV) (st : List Value) (σ : ZHp) (n k w : Nat) : Z (f + 1) 12 L st σ n k w = s_aload 0 13 L st σ n k w (zk1 cut G (Z f)) G R T := zrs hZ rfl f L st σ n k w
theorem f_X15_rounds_13 (hZ : ZRN (ztb (tb_X15_rounds E d mc ms)) cut G R T Z) (f : Nat) (L : ZLV) (st : List Value) (σ : ZHp) (n k w : Nat) : Z (f + 1) 13 L st σ n k w = s_getf 14 6 16 L st σ n k w (zk1 cut G (Z f)) G R T := zrs hZ rfl f L st σ n k w
theorem f_X15_rounds_16 (hZ : ZRN (ztb (tb_X15_rounds E d mc ms)) cut G R T Z) (f : Nat) (L : ZLV) (st : List Value) (σ : ZHp) (n k w : Nat) : Z (f + 1) 16 L st σ n k w = s_getf 12 12 19 L st σ n k w (zk1 cut G (Z f)) G R T := zrs hZ rfl f L st σ n k w
theorem f_X15_rounds_19 (hZ : ZRN (ztb (tb_X15_rounds E d mc ms)) cut G R T Z) (f : Nat) (L : ZLV) (st : List Value) (σ : ZHp) (n k w : Nat) : Z (f + 1) 19 L st σ n k w = s_icmp_ge 35 22 L st σ n k w (zk1 cut G (Z f)) G R T := zrs hZ rfl f L st σ n k w
theorem f_X15_rounds_22 (hZ : ZRN (ztb (tb_X15_rounds E d mc ms)) cut G R T Z) (f : Nat) (L : ZLV) (st : List Value) (σ : ZHp) (n k w : Nat) : Z (f + 1) 22 L st σ n k w = s_aload 0 23 L st σ n k w (zk1 cut G (Z f)) G R T := zrs hZ rfl f L st σ n k w
theorem f_X15_rounds_23 (hZ : ZRN (ztb (tb_X15_rounds E d mc ms)) cut G R T Z) (f : Nat) (L : ZLV) (st : List Value) (σ : ZHp) (n k w : Nat) : Z (f + 1) 23 L st σ n k w = s_aload 1 24 L st σ n k w (zk1 cut G (Z f)) G R T := zrs hZ rfl f L st σ n k w
theorem f_X15_rounds_24 (hZ : ZRN (ztb (tb_X15_rounds E d mc ms)) cut G R T Z) (f : Nat) (L : ZLV) (st : List Value) (σ : ZHp) (n k w : Nat) : Z (f + 1) 24 L st σ n k w = s_iload 4 26 L st σ n k w (zk1 cut G (Z f)) G R T := zrs hZ rfl f L st σ n k w
theorem f_X15_rounds_26 (hZ : ZRN (ztb (tb_X15_rounds E d mc ms)) cut G R T Z) (f : Nat) (L : ZLV) (st : List Value) (σ : ZHp) (n k w : Nat) : Z (f + 1) 26 L st σ n k w = s_callV E d mc ms 14 MX15_turn 2 29 L st σ n k w (zk1 cut G (Z f)) G R T := zrs hZ rfl f L st σ n k w
theorem f_X15_rounds_29 (hZ : ZRN (ztb (tb_X15_rounds E d mc ms)) cut G R T Z) (f : Nat) (L : ZLV) (st : List Value) (σ : ZHp) (n k w : Nat) : Z (f + 1) 29 L st σ n k w = s_iinc 4 (1) 32 L st σ n k w (zk1 cut G (Z f)) G R T := zrs hZ rfl f L st σ n k w
theorem f_X15_rounds_32 (hZ : ZRN (ztb (tb_X15_rounds E d mc ms)) cut G R T Z) (f : Nat) (L : ZLV) (st : List Value) (σ : ZHp) (n k w : Nat) : Z (f + 1) 32 L st σ n k w = s_goto 10 L st σ n k w (zk1 cut G (Z f)) G R T := zrs hZ rfl f L st σ n k w
theorem f_X15_rounds_35 (hZ : ZRN (ztb (tb_X15_rounds E d mc ms)) cut G R T Z) (f : Nat) (L : ZLV) (st : List Value) (σ : ZHp) (n k w : Nat) : Z (f + 1) 35 L st σ n k w = s_aload 1 36 L st σ n k w (zk1 cut G (Z f)) G R T := zrs hZ rfl f L st σ n k w
theorem f_X15_rounds_36 (hZ : ZRN (ztb (tb_X15_rounds E d mc ms)) cut G R T Z) (f : Nat) (L : ZLV) (st : List Value) (σ : ZHp) (n k w : Nat) : Z (f + 1) 36 L st σ n k w = s_dup 37 L st σ n k w (zk1 cut G (Z f)) G R T := zrs hZ rfl f L st σ n k w
theorem f_X15_rounds_37 (hZ : ZRN (ztb (tb_X15_rounds E d mc ms)) cut G R T Z) (f : Nat) (L : ZLV) (st : List Value) (σ : ZHp) (n k w : Nat) : Z (f + 1) 37 L st σ n k w = s_getf 13 0 40 L st σ n k w (zk1 cut G (Z f)) G R T := zrs hZ rfl f L st σ n k w
theorem f_X15_rounds_40 (hZ : ZRN (ztb (tb_X15_rounds E d mc ms)) cut G R T Z) (f : Nat) (L : ZLV) (st : List Value) (σ : ZHp) (n k w : Nat) : Z (f + 1) 40 L st σ n k w = s_const (.int (1)) 41 L st σ n k w (zk1 cut G (Z f)) G R T := zrs hZ rfl f L st σ n k w
theorem f_X15_rounds_41 (hZ : ZRN (ztb (tb_X15_rounds E d mc ms)) cut G R T Z) (f : Nat) (L : ZLV) (st : List Value) (σ : ZHp) (n k w : Nat) : Z (f + 1) 41 L st σ n k w = s_iadd 42 L st σ n k w (zk1 cut G (Z f)) G R T := zrs hZ rfl f L st σ n k w
theorem f_X15_rounds_42 (hZ : ZRN (ztb (tb_X15_rounds E d mc ms)) cut G R T Z) (f : Nat) (L : ZLV) (st : List Value) (σ : ZHp) (n k w : Nat) : Z (f + 1) 42 L st σ n k w = s_putf 13 0 0 45 L st σ n k w (zk1 cut G (Z f)) G R T := zrs hZ rfl f L st σ n k w
theorem f_X15_rounds_45 (hZ : ZRN (ztb (tb_X15_rounds E d mc ms)) cut G R T Z) (f : Nat) (L : ZLV) (st : List Value) (σ : ZHp) (n k w : Nat) : Z (f + 1) 45 L st σ n k w = s_iinc 3 (1) 48 L st σ n k w (zk1 cut G (Z f)) G R T := zrs hZ rfl f L st σ n k w
theorem f_X15_rounds_48 (hZ : ZRN (ztb (tb_X15_rounds E d mc ms)) cut G R T Z) (f : Nat) (L : ZLV) (st : List Value) (σ : ZHp) (n k w : Nat) : Z (f + 1) 48 L st σ n k w = s_goto 2 L st σ n k w (zk1 cut G (Z f)) G R T := zrs hZ rfl f L st σ n k w
theorem f_X15_rounds_51 (hZ : ZRN (ztb (tb_X15_rounds E d mc ms)) cut G R T Z) (f : Nat) (L : ZLV) (st : List Value) (σ : ZHp) (n k w : Nat) : Z (f + 1) 51 L st σ n k w = s_return L st σ n k w (zk1 cut G (Z f)) G R T := zrs hZ rfl f L st σ n k w
theorem f_X15_worthOf_0 (hZ : ZRN (ztb (tb_X15_worthOf E d mc ms)) cut G R T Z) (f : Nat) (L : ZLV) (st : List Value) (σ : ZHp) (n k w : Nat) : Z (f + 1) 0 L st σ n k w = s_const (.int (0)) 1 L st σ n k w (zk1 cut G (Z f)) G R T := zrs hZ rfl f L st σ n k w
theorem f_X15_worthOf_1 (hZ : ZRN (ztb (tb_X15_worthOf E d mc ms)) cut G R T Z) (f : Nat) (L : ZLV) (st : List Value) (σ : ZHp) (n k w : Nat) : Z (f + 1) 1 L st σ n k w = s_istore 3 2 L st σ n k w (zk1 cut G (Z f)) G R T := zrs hZ rfl f L st σ n k w
theorem f_X15_worthOf_2 (hZ : ZRN (ztb (tb_X15_worthOf E d mc ms)) cut G R T Z) (f : Nat) (L : ZLV) (st : List Value) (σ : ZHp) (n k w : Nat) : Z (f + 1) 2 L st σ n k w = s_const (.int (0)) 3 L st σ n k w (zk1 cut G (Z f)) G R T := zrs hZ rfl f L st σ n k w
theorem f_X15_worthOf_3 (hZ : ZRN (ztb (tb_X15_worthOf E d mc ms)) cut G R T Z) (f : Nat) (L : ZLV) (st : List Value) (σ : ZHp) (n k w : Nat) : Z (f + 1) 3 L st σ n k w = s_istore 4 5 L st σ n k w (zk1 cut G (Z f)) G R T := zrs hZ rfl f L st σ n k w
theorem f_X15_worthOf_5 (hZ : ZRN (ztb (tb_X15_worthOf E d mc ms)) cut G R T Z) (f : Nat) (L : ZLV) (st : List Value) (σ : ZHp) (n k w : Nat) : Z (f + 1) 5 L st σ n k w = s_iload 4 7 L st σ n k w (zk1 cut G (Z f)) G R T := zrs hZ rfl f L st σ n k w
theorem f_X15_worthOf_7 (hZ : ZRN (ztb (tb_X15_worthOf E d mc ms)) cut G R T Z) (f : Nat) (L : ZLV) (st : List Value) (σ : ZHp) (n k w : Nat) : Z (f + 1) 7 L st σ n k w = s_aload 1 8 L st σ n k w (zk1 cut G (Z f)) G R T := zrs hZ rfl f L st σ n k w
theorem f_X15_worthOf_8 (hZ : ZRN (ztb (tb_X15_worthOf E d mc ms)) cut G R T Z) (f : Nat) (L : ZLV) (st : List Value) (σ : ZHp) (n k w : Nat) : Z (f + 1) 8 L st σ n k w = s_getf 13 7 11 L st σ n k w (zk1 cut G (Z f)) G R T := zrs hZ rfl f L st σ n k w
theorem f_X15_worthOf_11 (hZ : ZRN (ztb (tb_X15_worthOf E d mc ms)) cut G R T Z) (f : Nat) (L : ZLV) (st : List Value) (σ : ZHp) (n k w : Nat) : Z (f + 1) 11 L st σ n k w = s_iload 2 12 L st σ n k w (zk1 cut G (Z f)) G R T := zrs hZ rfl f L st σ n k w
theorem f_X15_worthOf_12 (hZ : ZRN (ztb (tb_X15_worthOf E d mc ms)) cut G R T Z) (f : Nat) (L : ZLV) (st : List Value) (σ : ZHp) (n k w : Nat) : Z (f + 1) 12 L st σ n k w = s_iaload E 13 L st σ n k w (zk1 cut G (Z f)) G R T := zrs hZ rfl f L st σ n k w
theorem f_X15_worthOf_13 (hZ : ZRN (ztb (tb_X15_worthOf E d mc ms)) cut G R T Z) (f : Nat) (L : ZLV) (st : List Value) (σ : ZHp) (n k w : Nat) : Z (f + 1) 13 L st σ n k w = s_icmp_ge 45 16 L st σ n k w (zk1 cut G (Z f)) G R T := zrs hZ rfl f L st σ n k w
theorem f_X15_worthOf_16 (hZ : ZRN (ztb (tb_X15_worthOf E d mc ms)) cut G R T Z) (f : Nat) (L : ZLV) (st : List Value) (σ : ZHp) (n k w : Nat) : Z (f + 1) 16 L st σ n k w = s_iload 3 17 L st σ n k w (zk1 cut G (Z f)) G R T := zrs hZ rfl f L st σ n k w
theorem f_X15_worthOf_17 (hZ : ZRN (ztb (tb_X15_worthOf E d mc ms)) cut G R T Z) (f : Nat) (L : ZLV) (st : List Value) (σ : ZHp) (n k w : Nat) : Z (f + 1) 17 L st σ n k w = s_aload 0 18 L st σ n k w (zk1 cut G (Z f)) G R T := zrs hZ rfl f L st σ n k w
theorem f_X15_worthOf_18 (hZ : ZRN (ztb (tb_X15_worthOf E d mc ms)) cut G R T Z) (f : Nat) (L : ZLV) (st : List Value) (σ : ZHp) (n k w : Nat) : Z (f + 1) 18 L st σ n k w = s_getf 14 6 21 L st σ n k w (zk1 cut G (Z f)) G R T := zrs hZ rfl f L st σ n k w
theorem f_X15_worthOf_21 (hZ : ZRN (ztb (tb_X15_worthOf E d mc ms)) cut G R T Z) (f : Nat) (L : ZLV) (st : List Value) (σ : ZHp) (n k w : Nat) : Z (f + 1) 21 L st σ n k w = s_getf 12 8 24 L st σ n k w (zk1 cut G (Z f)) G R T := zrs hZ rfl f L st σ n k w
theorem f_X15_worthOf_24 (hZ : ZRN (ztb (tb_X15_worthOf E d mc ms)) cut G R T Z) (f : Nat) (L : ZLV) (st : List Value) (σ : ZHp) (n k w : Nat) : Z (f + 1) 24 L st σ n k w = s_aload 1 25 L st σ n k w (zk1 cut G (Z f)) G R T := zrs hZ rfl f L st σ n k w
theorem f_X15_worthOf_25 (hZ : ZRN (ztb (tb_X15_worthOf E d mc ms)) cut G R T Z) (f : Nat) (L : ZLV) (st : List Value) (σ : ZHp) (n k w : Nat) : Z (f + 1) 25 L st σ n k w = s_getf 13 6 28 L st σ n k w (zk1 cut G (Z f)) G R T := zrs hZ rfl f L st σ n k w
theorem f_X15_worthOf_28 (hZ : ZRN (ztb (tb_X15_worthOf E d mc ms)) cut G R T Z) (f : Nat) (L : ZLV) (st : List Value) (σ : ZHp) (n k w : Nat) : Z (f + 1) 28 L st σ n k w = s_const (.int (60)) 30 L st σ n k w (zk1 cut G (Z f)) G R T := zrs hZ rfl f L st σ n k w
theorem f_X15_worthOf_30 (hZ : ZRN (ztb (tb_X15_worthOf E d mc ms)) cut G R T Z) (f : Nat) (L : ZLV) (st : List Value) (σ : ZHp) (n k w : Nat) : Z (f + 1) 30 L st σ n k w = s_iload 2 31 L st σ n k w (zk1 cut G (Z f)) G R T := zrs hZ rfl f L st σ n k w
theorem f_X15_worthOf_31 (hZ : ZRN (ztb (tb_X15_worthOf E d mc ms)) cut G R T Z) (f : Nat) (L : ZLV) (st : List Value) (σ : ZHp) (n k w : Nat) : Z (f + 1) 31 L st σ n k w = s_imul 32 L st σ n k w (zk1 cut G (Z f)) G R T := zrs hZ rfl f L st σ n k w
theorem f_X15_worthOf_32 (hZ : ZRN (ztb (tb_X15_worthOf E d mc ms)) cut G R T Z) (f : Nat) (L : ZLV) (st : List Value) (σ : ZHp) (n k w : Nat) : Z (f + 1) 32 L st σ n k w = s_iload 4 34 L st σ n k w (zk1 cut G (Z f)) G R T := zrs hZ rfl f L st σ n k w
theorem f_X15_worthOf_34 (hZ : ZRN (ztb (tb_X15_worthOf E d mc ms)) cut G R T Z) (f : Nat) (L : ZLV) (st : List Value) (σ : ZHp) (n k w : Nat) : Z (f + 1) 34 L st σ n k w = s_iadd 35 L st σ n k w (zk1 cut G (Z f)) G R T := zrs hZ rfl f L st σ n k w
theorem f_X15_worthOf_35 (hZ : ZRN (ztb (tb_X15_worthOf E d mc ms)) cut G R T Z) (f : Nat) (L : ZLV) (st : List Value) (σ : ZHp) (n k w : Nat) : Z (f + 1) 35 L st σ n k w = s_iaload E 36 L st σ n k w (zk1 cut G (Z f)) G R T := zrs hZ rfl f L st σ n k w
theorem f_X15_worthOf_36 (hZ : ZRN (ztb (tb_X15_worthOf E d mc ms)) cut G R T Z) (f : Nat) (L : ZLV) (st : List Value) (σ : ZHp) (n k w : Nat) : Z (f + 1) 36 L st σ n k w = s_iaload E 37 L st σ n k w (zk1 cut G (Z f)) G R T := zrs hZ rfl f L st σ n k w
theorem f_X15_worthOf_37 (hZ : ZRN (ztb (tb_X15_worthOf E d mc ms)) cut G R T Z) (f : Nat) (L : ZLV) (st : List Value) (σ : ZHp) (n k w : Nat) : Z (f + 1) 37 L st σ n k w = s_iadd 38 L st σ n k w (zk1 cut G (Z f)) G R T := zrs hZ rfl f L st σ n k w
theorem f_X15_worthOf_38 (hZ : ZRN (ztb (tb_X15_worthOf E d mc ms)) cut G R T Z) (f : Nat) (L : ZLV) (st : List Value) (σ : ZHp) (n k w : Nat) : Z (f + 1) 38 L st σ n k w = s_istore 3 39 L st σ n k w (zk1 cut G (Z f)) G R T := zrs hZ rfl f L st σ n k w
theorem f_X15_worthOf_39 (hZ : ZRN (ztb (tb_X15_worthOf E d mc ms)) cut G R T Z) (f : Nat) (L : ZLV) (st : List Value) (σ : ZHp) (n k w : Nat) : Z (f + 1) 39 L st σ n k w = s_iinc 4 (1) 42 L st σ n k w (zk1 cut G (Z f)) G R T := zrs hZ rfl f L st σ n k w
theorem f_X15_worthOf_42 (hZ : ZRN (ztb (tb_X15_worthOf E d mc ms)) cut G R T Z) (f : Nat) (L : ZLV) (st : List Value) (σ : ZHp) (n k w : Nat) : Z (f + 1) 42 L st σ n k w = s_goto 5 L st σ n k w (zk1 cut G (Z f)) G R T := zrs hZ rfl f L st σ n k w
theorem f_X15_worthOf_45 (hZ : ZRN (ztb (tb_X15_worthOf E d mc ms)) cut G R T Z) (f : Nat) (L : ZLV) (st : List Value) (σ : ZHp) (n k w : Nat) : Z (f + 1) 45 L st σ n k w = s_const (.int (0)) 46 L st σ n k w (zk1 cut G (Z f)) G R T := zrs hZ rfl f L st σ n k w
theorem f_X15_worthOf_46 (hZ : ZRN (ztb (tb_X15_worthOf E d mc ms)) cut G R T Z) (f : Nat) (L : ZLV) (st : List Value) (σ : ZHp) (n k w : Nat) : Z (f + 1) 46 L st σ n k w = s_istore 4 48 L st σ n k w (zk1 cut G (Z f)) G R T := zrs hZ rfl f L st σ n k w
theorem f_X15_worthOf_48 (hZ : ZRN (ztb (tb_X15_worthOf E d mc ms)) cut G R T Z) (f : Nat) (L : ZLV) (st : List Value) (σ : ZHp) (n k w : Nat) : Z (f + 1) 48 L st σ n k w = s_iload 4 50 L st σ n k w (zk1 cut G (Z f)) G R T := zrs hZ rfl f L st σ n k w
theorem f_X15_worthOf_50 (hZ : ZRN (ztb (tb_X15_worthOf E d mc ms)) cut G R T Z) (f : Nat) (L : ZLV) (st : List Value) (σ : ZHp) (n k w : Nat) : Z (f + 1) 50 L st σ n k w = s_aload 1 51 L st σ n k w (zk1 cut G (Z f)) G R T := zrs hZ rfl f L st σ n k w
theorem f_X15_worthOf_51 (hZ : ZRN (ztb (tb_X15_worthOf E d mc ms)) cut G R T Z) (f : Nat) (L : ZLV) (st : List Value) (σ : ZHp) (n k w : Nat) : Z (f + 1) 51 L st σ n k w = s_getf 13 9 54 L st σ n k w (zk1 cut G (Z f)) G R T := zrs hZ rfl f L st σ n k w
theorem f_X15_worthOf_54 (hZ : ZRN (ztb (tb_X15_worthOf E d mc ms)) cut G R T Z) (f : Nat) (L : ZLV) (st : List Value) (σ : ZHp) (n k w : Nat) : Z (f + 1) 54 L st σ n k w = s_iload 2 55 L st σ n k w (zk1 cut G (Z f)) G R T := zrs hZ rfl f L st σ n k w
theorem f_X15_worthOf_55 (hZ : ZRN (ztb (tb_X15_worthOf E d mc ms)) cut G R T Z) (f : Nat) (L : ZLV) (st : List Value) (σ : ZHp) (n k w : Nat) : Z (f + 1) 55 L st σ n k w = s_iaload E 56 L st σ n k w (zk1 cut G (Z f)) G R T := zrs hZ rfl f L st σ n k w
theorem f_X15_worthOf_56 (hZ : ZRN (ztb (tb_X15_worthOf E d mc ms)) cut G R T Z) (f : Nat) (L : ZLV) (st : List Value) (σ : ZHp) (n k w : Nat) : Z (f + 1) 56 L st σ n k w = s_icmp_ge 88 59 L st σ n k w (zk1 cut G (Z f)) G R T := zrs hZ rfl f L st σ n k w
theorem f_X15_worthOf_59 (hZ : ZRN (ztb (tb_X15_worthOf E d mc ms)) cut G R T Z) (f : Nat) (L : ZLV) (st : List Value) (σ : ZHp) (n k w : Nat) : Z (f + 1) 59 L st σ n k w = s_iload 3 60 L st σ n k w (zk1 cut G (Z f)) G R T := zrs hZ rfl f L st σ n k w
theorem f_X15_worthOf_60 (hZ : ZRN (ztb (tb_X15_worthOf E d mc ms)) cut G R T Z) (f : Nat) (L : ZLV) (st : List Value) (σ : ZHp) (n k w : Nat) : Z (f + 1) 60 L st σ n k w = s_aload 0 61 L st σ n k w (zk1 cut G (Z f)) G R T := zrs hZ rfl f L st σ n k w
theorem f_X15_worthOf_61 (hZ : ZRN (ztb (tb_X15_worthOf E d mc ms)) cut G R T Z) (f : Nat) (L : ZLV) (st : List Value) (σ : ZHp) (n k w : Nat) : Z (f + 1) 61 L st σ n k w = s_getf 14 6 64 L st σ n k w (zk1 cut G (Z f)) G R T := zrs hZ rfl f L st σ n k w
theorem f_X15_worthOf_64 (hZ : ZRN (ztb (tb_X15_worthOf E d mc ms)) cut G R T Z) (f : Nat) (L : ZLV) (st : List Value) (σ : ZHp) (n k w : Nat) : Z (f + 1) 64 L st σ n k w = s_getf 12 8 67 L st σ n k w (zk1 cut G (Z f)) G R T := zrs hZ rfl f L st σ n k w
theorem f_X15_worthOf_67 (hZ : ZRN (ztb (tb_X15_worthOf E d mc ms)) cut G R T Z) (f : Nat) (L : ZLV) (st : List Value) (σ : ZHp) (n k w : Nat) : Z (f + 1) 67 L st σ n k w = s_aload 1 68 L st σ n k w (zk1 cut G (Z f)) G R T := zrs hZ rfl f L st σ n k w
theorem f_X15_worthOf_68 (hZ : ZRN (ztb (tb_X15_worthOf E d mc ms)) cut G R T Z) (f : Nat) (L : ZLV) (st : List Value) (σ : ZHp) (n k w : Nat) : Z (f + 1) 68 L st σ n k w = s_getf 13 8 71 L st σ n k w (zk1 cut G (Z f)) G R T := zrs hZ rfl f L st σ n k w
theorem f_X15_worthOf_71 (hZ : ZRN (ztb (tb_X15_worthOf E d mc ms)) cut G R T Z) (f : Nat) (L : ZLV) (st : List Value) (σ : ZHp) (n k w : Nat) : Z (f + 1) 71 L st σ n k w = s_const (.int (60)) 73 L st σ n k w (zk1 cut G (Z f)) G R T := zrs hZ rfl f L st σ n k w
theorem f_X15_worthOf_73 (hZ : ZRN (ztb (tb_X15_worthOf E d mc ms)) cut G R T Z) (f : Nat) (L : ZLV) (st : List Value) (σ : ZHp) (n k w : Nat) : Z (f + 1) 73 L st σ n k w = s_iload 2 74 L st σ n k w (zk1 cut G (Z f)) G R T := zrs hZ rfl f L st σ n k w
theorem f_X15_worthOf_74 (hZ : ZRN (ztb (tb_X15_worthOf E d mc ms)) cut G R T Z) (f : Nat) (L : ZLV) (st : List Value) (σ : ZHp) (n k w : Nat) : Z (f + 1) 74 L st σ n k w = s_imul 75 L st σ n k w (zk1 cut G (Z f)) G R T := zrs hZ rfl f L st σ n k w
theorem f_X15_worthOf_75 (hZ : ZRN (ztb (tb_X15_worthOf E d mc ms)) cut G R T Z) (f : Nat) (L : ZLV) (st : List Value) (σ : ZHp) (n k w : Nat) : Z (f + 1) 75 L st σ n k w = s_iload 4 77 L st σ n k w (zk1 cut G (Z f)) G R T := zrs hZ rfl f L st σ n k w
theorem f_X15_worthOf_77 (hZ : ZRN (ztb (tb_X15_worthOf E d mc ms)) cut G R T Z) (f : Nat) (L : ZLV) (st : List Value) (σ : ZHp) (n k w : Nat) : Z (f + 1) 77 L st σ n k w = s_iadd 78 L st σ n k w (zk1 cut G (Z f)) G R T := zrs hZ rfl f L st σ n k w
theorem f_X15_worthOf_78 (hZ : ZRN (ztb (tb_X15_worthOf E d mc ms)) cut G R T Z) (f : Nat) (L : ZLV) (st : List Value) (σ : ZHp) (n k w : Nat) : Z (f + 1) 78 L st σ n k w = s_iaload E 79 L st σ n k w (zk1 cut G (Z f)) G R T := zrs hZ rfl f L st σ n k w
theorem f_X15_worthOf_79 (hZ : ZRN (ztb (tb_X15_worthOf E d mc ms)) cut G R T Z) (f : Nat) (L : ZLV) (st : List Value) (σ : ZHp) (n k w : Nat) : Z (f + 1) 79 L st σ n k w = s_iaload E 80 L st σ n k w (zk1 cut G (Z f)) G R T := zrs hZ rfl f L st σ n k w
theorem f_X15_worthOf_80 (hZ : ZRN (ztb (tb_X15_worthOf E d mc ms)) cut G R T Z) (f : Nat) (L : ZLV) (st : List Value) (σ : ZHp) (n k w : Nat) : Z (f + 1) 80 L st σ n k w = s_iadd 81 L st σ n k w (zk1 cut G (Z f)) G R T := zrs hZ rfl f L st σ n k w
theorem f_X15_worthOf_81 (hZ : ZRN (ztb (tb_X15_worthOf E d mc ms)) cut G R T Z) (f : Nat) (L : ZLV) (st : List Value) (σ : ZHp) (n k w : Nat) : Z (f + 1) 81 L st σ n k w = s_istore 3 82 L st σ n k w (zk1 cut G (Z f)) G R T := zrs hZ rfl f L st σ n k w
theorem f_X15_worthOf_82 (hZ : ZRN (ztb (tb_X15_worthOf E d mc ms)) cut G R T Z) (f : Nat) (L : ZLV) (st : List Value) (σ : ZHp) (n k w : Nat) : Z (f + 1) 82 L st σ n k w = s_iinc 4 (1) 85 L st σ n k w (zk1 cut G (Z f)) G R T := zrs hZ rfl f L st σ n k w
theorem f_X15_worthOf_85 (hZ : ZRN (ztb (tb_X15_worthOf E d mc ms)) cut G R T Z) (f : Nat) (L : ZLV) (st : List Value) (σ : ZHp) (n k w : Nat) : Z (f + 1) 85 L st σ n k w = s_goto 48 L st σ n k w (zk1 cut G (Z f)) G R T := zrs hZ rfl f L st σ n k w
theorem f_X15_worthOf_88 (hZ : ZRN (ztb (tb_X15_worthOf E d mc ms)) cut G R T Z) (f : Nat) (L : ZLV) (st : List Value) (σ : ZHp) (n k w : Nat) : Z (f + 1) 88 L st σ n k w = s_iload 3 89 L st σ n k w (zk1 cut G (Z f)) G R T := zrs hZ rfl f L st σ n k w
theorem f_X15_worthOf_89 (hZ : ZRN (ztb (tb_X15_worthOf E d mc ms)) cut G R T Z) (f : Nat) (L : ZLV) (st : List Value) (σ : ZHp) (n k w : Nat) : Z (f + 1) 89 L st σ n k w = s_ireturn L st σ n k w (zk1 cut G (Z f)) G R T := zrs hZ rfl f L st σ n k w
theorem f_X15_leaderOf_0 (hZ : ZRN (ztb (tb_X15_leaderOf E d mc ms)) cut G R T Z) (f : Nat) (L : ZLV) (st : List Value) (σ : ZHp) (n k w : Nat) : Z (f + 1) 0 L st σ n k w = s_const (.int (-1)) 1 L st σ n k w (zk1 cut G (Z f)) G R T := zrs hZ rfl f L st σ n k w
theorem f_X15_leaderOf_1 (hZ : ZRN (ztb (tb_X15_leaderOf E d mc ms)) cut G R T Z) (f : Nat) (L : ZLV) (st : List Value) (σ : ZHp) (n k w : Nat) : Z (f + 1) 1 L st σ n k w = s_istore 2 2 L st σ n k w (zk1 cut G (Z f)) G R T := zrs hZ rfl f L st σ n k w
theorem f_X15_leaderOf_2 (hZ : ZRN (ztb (tb_X15_leaderOf E d mc ms)) cut G R T Z) (f : Nat) (L : ZLV) (st : List Value) (σ : ZHp) (n k w : Nat) : Z (f + 1) 2 L st σ n k w = s_const (.int (0)) 3 L st σ n k w (zk1 cut G (Z f)) G R T := zrs hZ rfl f L st σ n k w
theorem f_X15_leaderOf_3 (hZ : ZRN (ztb (tb_X15_leaderOf E d mc ms)) cut G R T Z) (f : Nat) (L : ZLV) (st : List Value) (σ : ZHp) (n k w : Nat) : Z (f + 1) 3 L st σ n k w = s_istore 3 4 L st σ n k w (zk1 cut G (Z f)) G R T := zrs hZ rfl f L st σ n k w
theorem f_X15_leaderOf_4 (hZ : ZRN (ztb (tb_X15_leaderOf E d mc ms)) cut G R T Z) (f : Nat) (L : ZLV) (st : List Value) (σ : ZHp) (n k w : Nat) : Z (f + 1) 4 L st σ n k w = s_iload 3 5 L st σ n k w (zk1 cut G (Z f)) G R T := zrs hZ rfl f L st σ n k w
theorem f_X15_leaderOf_5 (hZ : ZRN (ztb (tb_X15_leaderOf E d mc ms)) cut G R T Z) (f : Nat) (L : ZLV) (st : List Value) (σ : ZHp) (n k w : Nat) : Z (f + 1) 5 L st σ n k w = s_aload 0 6 L st σ n k w (zk1 cut G (Z f)) G R T := zrs hZ rfl f L st σ n k w
theorem f_X15_leaderOf_6 (hZ : ZRN (ztb (tb_X15_leaderOf E d mc ms)) cut G R T Z) (f : Nat) (L : ZLV) (st : List Value) (σ : ZHp) (n k w : Nat) : Z (f + 1) 6 L st σ n k w = s_getf 14 6 9 L st σ n k w (zk1 cut G (Z f)) G R T := zrs hZ rfl f L st σ n k w
theorem f_X15_leaderOf_9 (hZ : ZRN (ztb (tb_X15_leaderOf E d mc ms)) cut G R T Z) (f : Nat) (L : ZLV) (st : List Value) (σ : ZHp) (n k w : Nat) : Z (f + 1) 9 L st σ n k w = s_getf 12 12 12 L st σ n k w (zk1 cut G (Z f)) G R T := zrs hZ rfl f L st σ n k w
theorem f_X15_leaderOf_12 (hZ : ZRN (ztb (tb_X15_leaderOf E d mc ms)) cut G R T Z) (f : Nat) (L : ZLV) (st : List Value) (σ : ZHp) (n k w : Nat) : Z (f + 1) 12 L st σ n k w = s_icmp_ge 70 15 L st σ n k w (zk1 cut G (Z f)) G R T := zrs hZ rfl f L st σ n k w
theorem f_X15_leaderOf_15 (hZ : ZRN (ztb (tb_X15_leaderOf E d mc ms)) cut G R T Z) (f : Nat) (L : ZLV) (st : List Value) (σ : ZHp) (n k w : Nat) : Z (f + 1) 15 L st σ n k w = s_iload 2 16 L st σ n k w (zk1 cut G (Z f)) G R T := zrs hZ rfl f L st σ n k w
theorem f_X15_leaderOf_16 (hZ : ZRN (ztb (tb_X15_leaderOf E d mc ms)) cut G R T Z) (f : Nat) (L : ZLV) (st : List Value) (σ : ZHp) (n k w : Nat) : Z (f + 1) 16 L st σ n k w = s_const (.int (-1)) 17 L st σ n k w (zk1 cut G (Z f)) G R T := zrs hZ rfl f L st σ n k w
theorem f_X15_leaderOf_17 (hZ : ZRN (ztb (tb_X15_leaderOf E d mc ms)) cut G R T Z) (f : Nat) (L : ZLV) (st : List Value) (σ : ZHp) (n k w : Nat) : Z (f + 1) 17 L st σ n k w = s_icmp_ne 24 20 L st σ n k w (zk1 cut G (Z f)) G R T := zrs hZ rfl f L st σ n k w
theorem f_X15_leaderOf_20 (hZ : ZRN (ztb (tb_X15_leaderOf E d mc ms)) cut G R T Z) (f : Nat) (L : ZLV) (st : List Value) (σ : ZHp) (n k w : Nat) : Z (f + 1) 20 L st σ n k w = s_const (.int (1)) 21 L st σ n k w (zk1 cut G (Z f)) G R T := zrs hZ rfl f L st σ n k w
theorem f_X15_leaderOf_21 (hZ : ZRN (ztb (tb_X15_leaderOf E d mc ms)) cut G R T Z) (f : Nat) (L : ZLV) (st : List Value) (σ : ZHp) (n k w : Nat) : Z (f + 1) 21 L st σ n k w = s_goto 37 L st σ n k w (zk1 cut G (Z f)) G R T := zrs hZ rfl f L st σ n k w
theorem f_X15_leaderOf_24 (hZ : ZRN (ztb (tb_X15_leaderOf E d mc ms)) cut G R T Z) (f : Nat) (L : ZLV) (st : List Value) (σ : ZHp) (n k w : Nat) : Z (f + 1) 24 L st σ n k w = s_aload 0 25 L st σ n k w (zk1 cut G (Z f)) G R T := zrs hZ rfl f L st σ n k w
theorem f_X15_leaderOf_25 (hZ : ZRN (ztb (tb_X15_leaderOf E d mc ms)) cut G R T Z) (f : Nat) (L : ZLV) (st : List Value) (σ : ZHp) (n k w : Nat) : Z (f + 1) 25 L st σ n k w = s_aload 1 26 L st σ n k w (zk1 cut G (Z f)) G R T := zrs hZ rfl f L st σ n k w
theorem f_X15_leaderOf_26 (hZ : ZRN (ztb (tb_X15_leaderOf E d mc ms)) cut G R T Z) (f : Nat) (L : ZLV) (st : List Value) (σ : ZHp) (n k w : Nat) : Z (f + 1) 26 L st σ n k w = s_iload 3 27 L st σ n k w (zk1 cut G (Z f)) G R T := zrs hZ rfl f L st σ n k w
theorem f_X15_leaderOf_27 (hZ : ZRN (ztb (tb_X15_leaderOf E d mc ms)) cut G R T Z) (f : Nat) (L : ZLV) (st : List Value) (σ : ZHp) (n k w : Nat) : Z (f + 1) 27 L st σ n k w = s_callV E d mc ms 14 MX15_worthOf 2 30 L st σ n k w (zk1 cut G (Z f)) G R T := zrs hZ rfl f L st σ n k w
theorem f_X15_leaderOf_30 (hZ : ZRN (ztb (tb_X15_leaderOf E d mc ms)) cut G R T Z) (f : Nat) (L : ZLV) (st : List Value) (σ : ZHp) (n k w : Nat) : Z (f + 1) 30 L st σ n k w = s_aload 0 31 L st σ n k w (zk1 cut G (Z f)) G R T := zrs hZ rfl f L st σ n k w
theorem f_X15_leaderOf_31 (hZ : ZRN (ztb (tb_X15_leaderOf E d mc ms)) cut G R T Z) (f : Nat) (L : ZLV) (st : List Value) (σ : ZHp) (n k w : Nat) : Z (f + 1) 31 L st σ n k w = s_aload 1 32 L st σ n k w (zk1 cut G (Z f)) G R T := zrs hZ rfl f L st σ n k w
theorem f_X15_leaderOf_32 (hZ : ZRN (ztb (tb_X15_leaderOf E d mc ms)) cut G R T Z) (f : Nat) (L : ZLV) (st : List Value) (σ : ZHp) (n k w : Nat) : Z (f + 1) 32 L st σ n k w = s_iload 2 33 L st σ n k w (zk1 cut G (Z f)) G R T := zrs hZ rfl f L st σ n k w
theorem f_X15_leaderOf_33 (hZ : ZRN (ztb (tb_X15_leaderOf E d mc ms)) cut G R T Z) (f : Nat) (L : ZLV) (st : List Value) (σ : ZHp) (n k w : Nat) : Z (f + 1) 33 L st σ n k w = s_callV E d mc ms 14 MX15_worthOf 2 36 L st σ n k w (zk1 cut G (Z f)) G R T := zrs hZ rfl f L st σ n k w
theorem f_X15_leaderOf_36 (hZ : ZRN (ztb (tb_X15_leaderOf E d mc ms)) cut G R T Z) (f : Nat) (L : ZLV) (st : List Value) (σ : ZHp) (n k w : Nat) : Z (f + 1) 36 L st σ n k w = s_isub 37 L st σ n k w (zk1 cut G (Z f)) G R T := zrs hZ rfl f L st σ n k w
theorem f_X15_leaderOf_37 (hZ : ZRN (ztb (tb_X15_leaderOf E d mc ms)) cut G R T Z) (f : Nat) (L : ZLV) (st : List Value) (σ : ZHp) (n k w : Nat) : Z (f + 1) 37 L st σ n k w = s_istore 4 39 L st σ n k w (zk1 cut G (Z f)) G R T := zrs hZ rfl f L st σ n k w
theorem f_X15_leaderOf_39 (hZ : ZRN (ztb (tb_X15_leaderOf E d mc ms)) cut G R T Z) (f : Nat) (L : ZLV) (st : List Value) (σ : ZHp) (n k w : Nat) : Z (f + 1) 39 L st σ n k w = s_iload 4 41 L st σ n k w (zk1 cut G (Z f)) G R T := zrs hZ rfl f L st σ n k w
theorem f_X15_leaderOf_41 (hZ : ZRN (ztb (tb_X15_leaderOf E d mc ms)) cut G R T Z) (f : Nat) (L : ZLV) (st : List Value) (σ : ZHp) (n k w : Nat) : Z (f + 1) 41 L st σ n k w = s_if_gt 62 44 L st σ n k w (zk1 cut G (Z f)) G R T := zrs hZ rfl f L st σ n k w
theorem f_X15_leaderOf_44 (hZ : ZRN (ztb (tb_X15_leaderOf E d mc ms)) cut G R T Z) (f : Nat) (L : ZLV) (st : List Value) (σ : ZHp) (n k w : Nat) : Z (f + 1) 44 L st σ n k w = s_iload 4 46 L st σ n k w (zk1 cut G (Z f)) G R T := zrs hZ rfl f L st σ n k w
theorem f_X15_leaderOf_46 (hZ : ZRN (ztb (tb_X15_leaderOf E d mc ms)) cut G R T Z) (f : Nat) (L : ZLV) (st : List Value) (σ : ZHp) (n k w : Nat) : Z (f + 1) 46 L st σ n k w = s_if_ne 64 49 L st σ n k w (zk1 cut G (Z f)) G R T := zrs hZ rfl f L st σ n k w
theorem f_X15_leaderOf_49 (hZ : ZRN (ztb (tb_X15_leaderOf E d mc ms)) cut G R T Z) (f : Nat) (L : ZLV) (st : List Value) (σ : ZHp) (n k w : Nat) : Z (f + 1) 49 L st σ n k w = s_aload 1 50 L st σ n k w (zk1 cut G (Z f)) G R T := zrs hZ rfl f L st σ n k w
theorem f_X15_leaderOf_50 (hZ : ZRN (ztb (tb_X15_leaderOf E d mc ms)) cut G R T Z) (f : Nat) (L : ZLV) (st : List Value) (σ : ZHp) (n k w : Nat) : Z (f + 1) 50 L st σ n k w = s_iload 3 51 L st σ n k w (zk1 cut G (Z f)) G R T := zrs hZ rfl f L st σ n k w
theorem f_X15_leaderOf_51 (hZ : ZRN (ztb (tb_X15_leaderOf E d mc ms)) cut G R T Z) (f : Nat) (L : ZLV) (st : List Value) (σ : ZHp) (n k w : Nat) : Z (f + 1) 51 L st σ n k w = s_callV E d mc ms 13 MX14_all 1 54 L st σ n k w (zk1 cut G (Z f)) G R T := zrs hZ rfl f L st σ n k w
theorem f_X15_leaderOf_54 (hZ : ZRN (ztb (tb_X15_leaderOf E d mc ms)) cut G R T Z) (f : Nat) (L : ZLV) (st : List Value) (σ : ZHp) (n k w : Nat) : Z (f + 1) 54 L st σ n k w = s_aload 1 55 L st σ n k w (zk1 cut G (Z f)) G R T := zrs hZ rfl f L st σ n k w
theorem f_X15_leaderOf_55 (hZ : ZRN (ztb (tb_X15_leaderOf E d mc ms)) cut G R T Z) (f : Nat) (L : ZLV) (st : List Value) (σ : ZHp) (n k w : Nat) : Z (f + 1) 55 L st σ n k w = s_iload 2 56 L st σ n k w (zk1 cut G (Z f)) G R T := zrs hZ rfl f L st σ n k w
theorem f_X15_leaderOf_56 (hZ : ZRN (ztb (tb_X15_leaderOf E d mc ms)) cut G R T Z) (f : Nat) (L : ZLV) (st : List Value) (σ : ZHp) (n k w : Nat) : Z (f + 1) 56 L st σ n k w = s_callV E d mc ms 13 MX14_all 1 59 L st σ n k w (zk1 cut G (Z f)) G R T := zrs hZ rfl f L st σ n k w
theorem f_X15_leaderOf_59 (hZ : ZRN (ztb (tb_X15_leaderOf E d mc ms)) cut G R T Z) (f : Nat) (L : ZLV) (st : List Value) (σ : ZHp) (n k w : Nat) : Z (f + 1) 59 L st σ n k w = s_icmp_ge 64 62 L st σ n k w (zk1 cut G (Z f)) G R T := zrs hZ rfl f L st σ n k w
theorem f_X15_leaderOf_62 (hZ : ZRN (ztb (tb_X15_leaderOf E d mc ms)) cut G R T Z) (f : Nat) (L : ZLV) (st : List Value) (σ : ZHp) (n k w : Nat) : Z (f + 1) 62 L st σ n k w = s_iload 3 63 L st σ n k w (zk1 cut G (Z f)) G R T := zrs hZ rfl f L st σ n k w
theorem f_X15_leaderOf_63 (hZ : ZRN (ztb (tb_X15_leaderOf E d mc ms)) cut G R T Z) (f : Nat) (L : ZLV) (st : List Value) (σ : ZHp) (n k w : Nat) : Z (f + 1) 63 L st σ n k w = s_istore 2 64 L st σ n k w (zk1 cut G (Z f)) G R T := zrs hZ rfl f L st σ n k w
theorem f_X15_leaderOf_64 (hZ : ZRN (ztb (tb_X15_leaderOf E d mc ms)) cut G R T Z) (f : Nat) (L : ZLV) (st : List Value) (σ : ZHp) (n k w : Nat) : Z (f + 1) 64 L st σ n k w = s_iinc 3 (1) 67 L st σ n k w (zk1 cut G (Z f)) G R T := zrs hZ rfl f L st σ n k w
theorem f_X15_leaderOf_67 (hZ : ZRN (ztb (tb_X15_leaderOf E d mc ms)) cut G R T Z) (f : Nat) (L : ZLV) (st : List Value) (σ : ZHp) (n k w : Nat) : Z (f + 1) 67 L st σ n k w = s_goto 4 L st σ n k w (zk1 cut G (Z f)) G R T := zrs hZ rfl f L st σ n k w
theorem f_X15_leaderOf_70 (hZ : ZRN (ztb (tb_X15_leaderOf E d mc ms)) cut G R T Z) (f : Nat) (L : ZLV) (st : List Value) (σ : ZHp) (n k w : Nat) : Z (f + 1) 70 L st σ n k w = s_iload 2 71 L st σ n k w (zk1 cut G (Z f)) G R T := zrs hZ rfl f L st σ n k w
theorem f_X15_leaderOf_71 (hZ : ZRN (ztb (tb_X15_leaderOf E d mc ms)) cut G R T Z) (f : Nat) (L : ZLV) (st : List Value) (σ : ZHp) (n k w : Nat) : Z (f + 1) 71 L st σ n k w = s_ireturn L st σ n k w (zk1 cut G (Z f)) G R T := zrs hZ rfl f L st σ n k w
theorem f_X15_counted_0 (hZ : ZRN (ztb (tb_X15_counted E d mc ms)) cut G R T Z) (f : Nat) (L : ZLV) (st : List Value) (σ : ZHp) (n k w : Nat) : Z (f + 1) 0 L st σ n k w = s_const (.int (0)) 1 L st σ n k w (zk1 cut G (Z f)) G R T := zrs hZ rfl f L st σ n k w
theorem f_X15_counted_1 (hZ : ZRN (ztb (tb_X15_counted E d mc ms)) cut G R T Z) (f : Nat) (L : ZLV) (st : List Value) (σ : ZHp) (n k w : Nat) : Z (f + 1) 1 L st σ n k w = s_istore 3 2 L st σ n k w (zk1 cut G (Z f)) G R T := zrs hZ rfl f L st σ n k w
theorem f_X15_counted_2 (hZ : ZRN (ztb (tb_X15_counted E d mc ms)) cut G R T Z) (f : Nat) (L : ZLV) (st : List Value) (σ : ZHp) (n k w : Nat) : Z (f + 1) 2 L st σ n k w = s_iload 2 3 L st σ n k w (zk1 cut G (Z f)) G R T := zrs hZ rfl f L st σ n k w
theorem f_X15_counted_3 (hZ : ZRN (ztb (tb_X15_counted E d mc ms)) cut G R T Z) (f : Nat) (L : ZLV) (st : List Value) (σ : ZHp) (n k w : Nat) : Z (f + 1) 3 L st σ n k w = s_tsw 0 [48, 53, 61, 69, 77, 110, 142, 147] 152 L st σ n k w (zk1 cut G (Z f)) G R T := zrs hZ rfl f L st σ n k w
theorem f_X15_counted_48 (hZ : ZRN (ztb (tb_X15_counted E d mc ms)) cut G R T Z) (f : Nat) (L : ZLV) (st : List Value) (σ : ZHp) (n k w : Nat) : Z (f + 1) 48 L st σ n k w = s_aload 1 49 L st σ n k w (zk1 cut G (Z f)) G R T := zrs hZ rfl f L st σ n k w
theorem f_X15_counted_49 (hZ : ZRN (ztb (tb_X15_counted E d mc ms)) cut G R T Z) (f : Nat) (L : ZLV) (st : List Value) (σ : ZHp) (n k w : Nat) : Z (f + 1) 49 L st σ n k w = s_getf 13 0 52 L st σ n k w (zk1 cut G (Z f)) G R T := zrs hZ rfl f L st σ n k w
theorem f_X15_counted_52 (hZ : ZRN (ztb (tb_X15_counted E d mc ms)) cut G R T Z) (f : Nat) (L : ZLV) (st : List Value) (σ : ZHp) (n k w : Nat) : Z (f + 1) 52 L st σ n k w = s_ireturn L st σ n k w (zk1 cut G (Z f)) G R T := zrs hZ rfl f L st σ n k w
theorem f_X15_counted_53 (hZ : ZRN (ztb (tb_X15_counted E d mc ms)) cut G R T Z) (f : Nat) (L : ZLV) (st : List Value) (σ : ZHp) (n k w : Nat) : Z (f + 1) 53 L st σ n k w = s_aload 0 54 L st σ n k w (zk1 cut G (Z f)) G R T := zrs hZ rfl f L st σ n k w
theorem f_X15_counted_54 (hZ : ZRN (ztb (tb_X15_counted E d mc ms)) cut G R T Z) (f : Nat) (L : ZLV) (st : List Value) (σ : ZHp) (n k w : Nat) : Z (f + 1) 54 L st σ n k w = s_getf 14 6 57 L st σ n k w (zk1 cut G (Z f)) G R T := zrs hZ rfl f L st σ n k w
theorem f_X15_counted_57 (hZ : ZRN (ztb (tb_X15_counted E d mc ms)) cut G R T Z) (f : Nat) (L : ZLV) (st : List Value) (σ : ZHp) (n k w : Nat) : Z (f + 1) 57 L st σ n k w = s_getf 12 5 60 L st σ n k w (zk1 cut G (Z f)) G R T := zrs hZ rfl f L st σ n k w
theorem f_X15_counted_60 (hZ : ZRN (ztb (tb_X15_counted E d mc ms)) cut G R T Z) (f : Nat) (L : ZLV) (st : List Value) (σ : ZHp) (n k w : Nat) : Z (f + 1) 60 L st σ n k w = s_ireturn L st σ n k w (zk1 cut G (Z f)) G R T := zrs hZ rfl f L st σ n k w
theorem f_X15_counted_61 (hZ : ZRN (ztb (tb_X15_counted E d mc ms)) cut G R T Z) (f : Nat) (L : ZLV) (st : List Value) (σ : ZHp) (n k w : Nat) : Z (f + 1) 61 L st σ n k w = s_aload 0 62 L st σ n k w (zk1 cut G (Z f)) G R T := zrs hZ rfl f L st σ n k w
theorem f_X15_counted_62 (hZ : ZRN (ztb (tb_X15_counted E d mc ms)) cut G R T Z) (f : Nat) (L : ZLV) (st : List Value) (σ : ZHp) (n k w : Nat) : Z (f + 1) 62 L st σ n k w = s_getf 14 6 65 L st σ n k w (zk1 cut G (Z f)) G R T := zrs hZ rfl f L st σ n k w
theorem f_X15_counted_65 (hZ : ZRN (ztb (tb_X15_counted E d mc ms)) cut G R T Z) (f : Nat) (L : ZLV) (st : List Value) (σ : ZHp) (n k w : Nat) : Z (f + 1) 65 L st σ n k w = s_getf 12 12 68 L st σ n k w (zk1 cut G (Z f)) G R T := zrs hZ rfl f L st σ n k w
theorem f_X15_counted_68 (hZ : ZRN (ztb (tb_X15_counted E d mc ms)) cut G R T Z) (f : Nat) (L : ZLV) (st : List Value) (σ : ZHp) (n k w : Nat) : Z (f + 1) 68 L st σ n k w = s_ireturn L st σ n k w (zk1 cut G (Z f)) G R T := zrs hZ rfl f L st σ n k w
theorem f_X15_counted_69 (hZ : ZRN (ztb (tb_X15_counted E d mc ms)) cut G R T Z) (f : Nat) (L : ZLV) (st : List Value) (σ : ZHp) (n k w : Nat) : Z (f + 1) 69 L st σ n k w = s_aload 0 70 L st σ n k w (zk1 cut G (Z f)) G R T := zrs hZ rfl f L st σ n k w
theorem f_X15_counted_70 (hZ : ZRN (ztb (tb_X15_counted E d mc ms)) cut G R T Z) (f : Nat) (L : ZLV) (st : List Value) (σ : ZHp) (n k w : Nat) : Z (f + 1) 70 L st σ n k w = s_getf 14 6 73 L st σ n k w (zk1 cut G (Z f)) G R T := zrs hZ rfl f L st σ n k w
theorem f_X15_counted_73 (hZ : ZRN (ztb (tb_X15_counted E d mc ms)) cut G R T Z) (f : Nat) (L : ZLV) (st : List Value) (σ : ZHp) (n k w : Nat) : Z (f + 1) 73 L st σ n k w = s_getf 12 16 76 L st σ n k w (zk1 cut G (Z f)) G R T := zrs hZ rfl f L st σ n k w
theorem f_X15_counted_76 (hZ : ZRN (ztb (tb_X15_counted E d mc ms)) cut G R T Z) (f : Nat) (L : ZLV) (st : List Value) (σ : ZHp) (n k w : Nat) : Z (f + 1) 76 L st σ n k w = s_ireturn L st σ n k w (zk1 cut G (Z f)) G R T := zrs hZ rfl f L st σ n k w
theorem f_X15_counted_77 (hZ : ZRN (ztb (tb_X15_counted E d mc ms)) cut G R T Z) (f : Nat) (L : ZLV) (st : List Value) (σ : ZHp) (n k w : Nat) : Z (f + 1) 77 L st σ n k w = s_const (.int (0)) 78 L st σ n k w (zk1 cut G (Z f)) G R T := zrs hZ rfl f L st σ n k w
theorem f_X15_counted_78 (hZ : ZRN (ztb (tb_X15_counted E d mc ms)) cut G R T Z) (f : Nat) (L : ZLV) (st : List Value) (σ : ZHp) (n k w : Nat) : Z (f + 1) 78 L st σ n k w = s_istore 4 80 L st σ n k w (zk1 cut G (Z f)) G R T := zrs hZ rfl f L st σ n k w
theorem f_X15_counted_80 (hZ : ZRN (ztb (tb_X15_counted E d mc ms)) cut G R T Z) (f : Nat) (L : ZLV) (st : List Value) (σ : ZHp) (n k w : Nat) : Z (f + 1) 80 L st σ n k w = s_iload 4 82 L st σ n k w (zk1 cut G (Z f)) G R T := zrs hZ rfl f L st σ n k w
theorem f_X15_counted_82 (hZ : ZRN (ztb (tb_X15_counted E d mc ms)) cut G R T Z) (f : Nat) (L : ZLV) (st : List Value) (σ : ZHp) (n k w : Nat) : Z (f + 1) 82 L st σ n k w = s_aload 0 83 L st σ n k w (zk1 cut G (Z f)) G R T := zrs hZ rfl f L st σ n k w
theorem f_X15_counted_83 (hZ : ZRN (ztb (tb_X15_counted E d mc ms)) cut G R T Z) (f : Nat) (L : ZLV) (st : List Value) (σ : ZHp) (n k w : Nat) : Z (f + 1) 83 L st σ n k w = s_getf 14 6 86 L st σ n k w (zk1 cut G (Z f)) G R T := zrs hZ rfl f L st σ n k w
theorem f_X15_counted_86 (hZ : ZRN (ztb (tb_X15_counted E d mc ms)) cut G R T Z) (f : Nat) (L : ZLV) (st : List Value) (σ : ZHp) (n k w : Nat) : Z (f + 1) 86 L st σ n k w = s_getf 12 5 89 L st σ n k w (zk1 cut G (Z f)) G R T := zrs hZ rfl f L st σ n k w
theorem f_X15_counted_89 (hZ : ZRN (ztb (tb_X15_counted E d mc ms)) cut G R T Z) (f : Nat) (L : ZLV) (st : List Value) (σ : ZHp) (n k w : Nat) : Z (f + 1) 89 L st σ n k w = s_icmp_ge 108 92 L st σ n k w (zk1 cut G (Z f)) G R T := zrs hZ rfl f L st σ n k w
theorem f_X15_counted_92 (hZ : ZRN (ztb (tb_X15_counted E d mc ms)) cut G R T Z) (f : Nat) (L : ZLV) (st : List Value) (σ : ZHp) (n k w : Nat) : Z (f + 1) 92 L st σ n k w = s_iload 3 93 L st σ n k w (zk1 cut G (Z f)) G R T := zrs hZ rfl f L st σ n k w
theorem f_X15_counted_93 (hZ : ZRN (ztb (tb_X15_counted E d mc ms)) cut G R T Z) (f : Nat) (L : ZLV) (st : List Value) (σ : ZHp) (n k w : Nat) : Z (f + 1) 93 L st σ n k w = s_aload 1 94 L st σ n k w (zk1 cut G (Z f)) G R T := zrs hZ rfl f L st σ n k w
theorem f_X15_counted_94 (hZ : ZRN (ztb (tb_X15_counted E d mc ms)) cut G R T Z) (f : Nat) (L : ZLV) (st : List Value) (σ : ZHp) (n k w : Nat) : Z (f + 1) 94 L st σ n k w = s_getf 13 3 97 L st σ n k w (zk1 cut G (Z f)) G R T := zrs hZ rfl f L st σ n k w
theorem f_X15_counted_97 (hZ : ZRN (ztb (tb_X15_counted E d mc ms)) cut G R T Z) (f : Nat) (L : ZLV) (st : List Value) (σ : ZHp) (n k w : Nat) : Z (f + 1) 97 L st σ n k w = s_iload 4 99 L st σ n k w (zk1 cut G (Z f)) G R T := zrs hZ rfl f L st σ n k w
theorem f_X15_counted_99 (hZ : ZRN (ztb (tb_X15_counted E d mc ms)) cut G R T Z) (f : Nat) (L : ZLV) (st : List Value) (σ : ZHp) (n k w : Nat) : Z (f + 1) 99 L st σ n k w = s_iaload E 100 L st σ n k w (zk1 cut G (Z f)) G R T := zrs hZ rfl f L st σ n k w
theorem f_X15_counted_100 (hZ : ZRN (ztb (tb_X15_counted E d mc ms)) cut G R T Z) (f : Nat) (L : ZLV) (st : List Value) (σ : ZHp) (n k w : Nat) : Z (f + 1) 100 L st σ n k w = s_iadd 101 L st σ n k w (zk1 cut G (Z f)) G R T := zrs hZ rfl f L st σ n k w
theorem f_X15_counted_101 (hZ : ZRN (ztb (tb_X15_counted E d mc ms)) cut G R T Z) (f : Nat) (L : ZLV) (st : List Value) (σ : ZHp) (n k w : Nat) : Z (f + 1) 101 L st σ n k w = s_istore 3 102 L st σ n k w (zk1 cut G (Z f)) G R T := zrs hZ rfl f L st σ n k w
theorem f_X15_counted_102 (hZ : ZRN (ztb (tb_X15_counted E d mc ms)) cut G R T Z) (f : Nat) (L : ZLV) (st : List Value) (σ : ZHp) (n k w : Nat) : Z (f + 1) 102 L st σ n k w = s_iinc 4 (1) 105 L st σ n k w (zk1 cut G (Z f)) G R T := zrs hZ rfl f L st σ n k w
theorem f_X15_counted_105 (hZ : ZRN (ztb (tb_X15_counted E d mc ms)) cut G R T Z) (f : Nat) (L : ZLV) (st : List Value) (σ : ZHp) (n k w : Nat) : Z (f + 1) 105 L st σ n k w = s_goto 80 L st σ n k w (zk1 cut G (Z f)) G R T := zrs hZ rfl f L st σ n k w
theorem f_X15_counted_108 (hZ : ZRN (ztb (tb_X15_counted E d mc ms)) cut G R T Z) (f : Nat) (L : ZLV) (st : List Value) (σ : ZHp) (n k w : Nat) : Z (f + 1) 108 L st σ n k w = s_iload 3 109 L st σ n k w (zk1 cut G (Z f)) G R T := zrs hZ rfl f L st σ n k w
theorem f_X15_counted_109 (hZ : ZRN (ztb (tb_X15_counted E d mc ms)) cut G R T Z) (f : Nat) (L : ZLV) (st : List Value) (σ : ZHp) (n k w : Nat) : Z (f + 1) 109 L st σ n k w = s_ireturn L st σ n k w (zk1 cut G (Z f)) G R T := zrs hZ rfl f L st σ n k w
theorem f_X15_counted_110 (hZ : ZRN (ztb (tb_X15_counted E d mc ms)) cut G R T Z) (f : Nat) (L : ZLV) (st : List Value) (σ : ZHp) (n k w : Nat) : Z (f + 1) 110 L st σ n k w = s_const (.int (0)) 111 L st σ n k w (zk1 cut G (Z f)) G R T := zrs hZ rfl f L st σ n k w
theorem f_X15_counted_111 (hZ : ZRN (ztb (tb_X15_counted E d mc ms)) cut G R T Z) (f : Nat) (L : ZLV) (st : List Value) (σ : ZHp) (n k w : Nat) : Z (f + 1) 111 L st σ n k w = s_istore 4 113 L st σ n k w (zk1 cut G (Z f)) G R T := zrs hZ rfl f L st σ n k w
theorem f_X15_counted_113 (hZ : ZRN (ztb (tb_X15_counted E d mc ms)) cut G R T Z) (f : Nat) (L : ZLV) (st : List Value) (σ : ZHp) (n k w : Nat) : Z (f + 1) 113 L st σ n k w = s_iload 4 115 L st σ n k w (zk1 cut G (Z f)) G R T := zrs hZ rfl f L st σ n k w
theorem f_X15_counted_115 (hZ : ZRN (ztb (tb_X15_counted E d mc ms)) cut G R T Z) (f : Nat) (L : ZLV) (st : List Value) (σ : ZHp) (n k w : Nat) : Z (f + 1) 115 L st σ n k w = s_aload 0 116 L st σ n k w (zk1 cut G (Z f)) G R T := zrs hZ rfl f L st σ n k w
theorem f_X15_counted_116 (hZ : ZRN (ztb (tb_X15_counted E d mc ms)) cut G R T Z) (f : Nat) (L : ZLV) (st : List Value) (σ : ZHp) (n k w : Nat) : Z (f + 1) 116 L st σ n k w = s_getf 14 6 119 L st σ n k w (zk1 cut G (Z f)) G R T := zrs hZ rfl f L st σ n k w
theorem f_X15_counted_119 (hZ : ZRN (ztb (tb_X15_counted E d mc ms)) cut G R T Z) (f : Nat) (L : ZLV) (st : List Value) (σ : ZHp) (n k w : Nat) : Z (f + 1) 119 L st σ n k w = s_getf 12 12 122 L st σ n k w (zk1 cut G (Z f)) G R T := zrs hZ rfl f L st σ n k w
theorem f_X15_counted_122 (hZ : ZRN (ztb (tb_X15_counted E d mc ms)) cut G R T Z) (f : Nat) (L : ZLV) (st : List Value) (σ : ZHp) (n k w : Nat) : Z (f + 1) 122 L st σ n k w = s_icmp_ge 140 125 L st σ n k w (zk1 cut G (Z f)) G R T := zrs hZ rfl f L st σ n k w
theorem f_X15_counted_125 (hZ : ZRN (ztb (tb_X15_counted E d mc ms)) cut G R T Z) (f : Nat) (L : ZLV) (st : List Value) (σ : ZHp) (n k w : Nat) : Z (f + 1) 125 L st σ n k w = s_iload 3 126 L st σ n k w (zk1 cut G (Z f)) G R T := zrs hZ rfl f L st σ n k w
theorem f_X15_counted_126 (hZ : ZRN (ztb (tb_X15_counted E d mc ms)) cut G R T Z) (f : Nat) (L : ZLV) (st : List Value) (σ : ZHp) (n k w : Nat) : Z (f + 1) 126 L st σ n k w = s_aload 1 127 L st σ n k w (zk1 cut G (Z f)) G R T := zrs hZ rfl f L st σ n k w
theorem f_X15_counted_127 (hZ : ZRN (ztb (tb_X15_counted E d mc ms)) cut G R T Z) (f : Nat) (L : ZLV) (st : List Value) (σ : ZHp) (n k w : Nat) : Z (f + 1) 127 L st σ n k w = s_iload 4 129 L st σ n k w (zk1 cut G (Z f)) G R T := zrs hZ rfl f L st σ n k w
theorem f_X15_counted_129 (hZ : ZRN (ztb (tb_X15_counted E d mc ms)) cut G R T Z) (f : Nat) (L : ZLV) (st : List Value) (σ : ZHp) (n k w : Nat) : Z (f + 1) 129 L st σ n k w = s_callV E d mc ms 13 MX14_all 1 132 L st σ n k w (zk1 cut G (Z f)) G R T := zrs hZ rfl f L st σ n k w
theorem f_X15_counted_132 (hZ : ZRN (ztb (tb_X15_counted E d mc ms)) cut G R T Z) (f : Nat) (L : ZLV) (st : List Value) (σ : ZHp) (n k w : Nat) : Z (f + 1) 132 L st σ n k w = s_iadd 133 L st σ n k w (zk1 cut G (Z f)) G R T := zrs hZ rfl f L st σ n k w
theorem f_X15_counted_133 (hZ : ZRN (ztb (tb_X15_counted E d mc ms)) cut G R T Z) (f : Nat) (L : ZLV) (st : List Value) (σ : ZHp) (n k w : Nat) : Z (f + 1) 133 L st σ n k w = s_istore 3 134 L st σ n k w (zk1 cut G (Z f)) G R T := zrs hZ rfl f L st σ n k w
theorem f_X15_counted_134 (hZ : ZRN (ztb (tb_X15_counted E d mc ms)) cut G R T Z) (f : Nat) (L : ZLV) (st : List Value) (σ : ZHp) (n k w : Nat) : Z (f + 1) 134 L st σ n k w = s_iinc 4 (1) 137 L st σ n k w (zk1 cut G (Z f)) G R T := zrs hZ rfl f L st σ n k w
theorem f_X15_counted_137 (hZ : ZRN (ztb (tb_X15_counted E d mc ms)) cut G R T Z) (f : Nat) (L : ZLV) (st : List Value) (σ : ZHp) (n k w : Nat) : Z (f + 1) 137 L st σ n k w = s_goto 113 L st σ n k w (zk1 cut G (Z f)) G R T := zrs hZ rfl f L st σ n k w
theorem f_X15_counted_140 (hZ : ZRN (ztb (tb_X15_counted E d mc ms)) cut G R T Z) (f : Nat) (L : ZLV) (st : List Value) (σ : ZHp) (n k w : Nat) : Z (f + 1) 140 L st σ n k w = s_iload 3 141 L st σ n k w (zk1 cut G (Z f)) G R T := zrs hZ rfl f L st σ n k w
theorem f_X15_counted_141 (hZ : ZRN (ztb (tb_X15_counted E d mc ms)) cut G R T Z) (f : Nat) (L : ZLV) (st : List Value) (σ : ZHp) (n k w : Nat) : Z (f + 1) 141 L st σ n k w = s_ireturn L st σ n k w (zk1 cut G (Z f)) G R T := zrs hZ rfl f L st σ n k w
theorem f_X15_counted_142 (hZ : ZRN (ztb (tb_X15_counted E d mc ms)) cut G R T Z) (f : Nat) (L : ZLV) (st : List Value) (σ : ZHp) (n k w : Nat) : Z (f + 1) 142 L st σ n k w = s_aload 1 143 L st σ n k w (zk1 cut G (Z f)) G R T := zrs hZ rfl f L st σ n k w
theorem f_X15_counted_143 (hZ : ZRN (ztb (tb_X15_counted E d mc ms)) cut G R T Z) (f : Nat) (L : ZLV) (st : List Value) (σ : ZHp) (n k w : Nat) : Z (f + 1) 143 L st σ n k w = s_getf 13 1 146 L st σ n k w (zk1 cut G (Z f)) G R T := zrs hZ rfl f L st σ n k w
theorem f_X15_counted_146 (hZ : ZRN (ztb (tb_X15_counted E d mc ms)) cut G R T Z) (f : Nat) (L : ZLV) (st : List Value) (σ : ZHp) (n k w : Nat) : Z (f + 1) 146 L st σ n k w = s_ireturn L st σ n k w (zk1 cut G (Z f)) G R T := zrs hZ rfl f L st σ n k w
theorem f_X15_counted_147 (hZ : ZRN (ztb (tb_X15_counted E d mc ms)) cut G R T Z) (f : Nat) (L : ZLV) (st : List Value) (σ : ZHp) (n k w : Nat) : Z (f + 1) 147 L st σ n k w = s_aload 1 148 L st σ n k w (zk1 cut G (Z f)) G R T := zrs hZ rfl f L st σ n k w
theorem f_X15_counted_148 (hZ : ZRN (ztb (tb_X15_counted E d mc ms)) cut G R T Z) (f : Nat) (L : ZLV) (st : List Value) (σ : ZHp) (n k w : Nat) : Z (f + 1) 148 L st σ n k w = s_getf 13 2 151 L st σ n k w (zk1 cut G (Z f)) G R T := zrs hZ rfl f L st σ n k w
theorem f_X15_counted_151 (hZ : ZRN (ztb (tb_X15_counted E d mc ms)) cut G R T Z) (f : Nat) (L : ZLV) (st : List Value) (σ : ZHp) (n k w : Nat) : Z (f + 1) 151 L st σ n k w = s_ireturn L st σ n k w (zk1 cut G (Z f)) G R T := zrs hZ rfl f L st σ n k w
theorem f_X15_counted_152 (hZ : ZRN (ztb (tb_X15_counted E d mc ms)) cut G R T Z) (f : Nat) (L : ZLV) (st : List Value) (σ : ZHp) (n k w : Nat) : Z (f + 1) 152 L st σ n k w = s_aload 0 153 L st σ n k w (zk1 cut G (Z f)) G R T := zrs hZ rfl f L st σ n k w
theorem f_X15_counted_153 (hZ : ZRN (ztb (tb_X15_counted E d mc ms)) cut G R T Z) (f : Nat) (L : ZLV) (st : List Value) (σ : ZHp) (n k w : Nat) : Z (f + 1) 153 L st σ n k w = s_getf 14 2 156 L st σ n k w (zk1 cut G (Z f)) G R T := zrs hZ rfl f L st σ n k w
theorem f_X15_counted_156 (hZ : ZRN (ztb (tb_X15_counted E d mc ms)) cut G R T Z) (f : Nat) (L : ZLV) (st : List Value) (σ : ZHp) (n k w : Nat) : Z (f + 1) 156 L st σ n k w = s_ireturn L st σ n k w (zk1 cut G (Z f)) G R T := zrs hZ rfl f L st σ n k w
theorem f_X15_feed_0 (hZ : ZRN (ztb (tb_X15_feed E d mc ms)) cut G R T Z) (f : Nat) (L : ZLV) (st : List Value) (σ : ZHp) (n k w : Nat) : Z (f + 1) 0 L st σ n k w = s_aload 0 1 L st σ n k w (zk1 cut G (Z f)) G R T := zrs hZ rfl f L st σ n k w
theorem f_X15_feed_1 (hZ : ZRN (ztb (tb_X15_feed E d mc ms)) cut G R T Z) (f : Nat) (L : ZLV) (st : List Value) (σ : ZHp) (n k w : Nat) : Z (f + 1) 1 L st σ n k w = s_const (.int (0)) 2 L st σ n k w (zk1 cut G (Z f)) G R T := zrs hZ rfl f L st σ n k w
theorem f_X15_feed_2 (hZ : ZRN (ztb (tb_X15_feed E d mc ms)) cut G R T Z) (f : Nat) (L : ZLV) (st : List Value) (σ : ZHp) (n k w : Nat) : Z (f + 1) 2 L st σ n k w = s_putf 14 0 0 5 L st σ n k w (zk1 cut G (Z f)) G R T := zrs hZ rfl f L st σ n k w
theorem f_X15_feed_5 (hZ : ZRN (ztb (tb_X15_feed E d mc ms)) cut G R T Z) (f : Nat) (L : ZLV) (st : List Value) (σ : ZHp) (n k w : Nat) : Z (f + 1) 5 L st σ n k w = s_aload 0 6 L st σ n k w (zk1 cut G (Z f)) G R T := zrs hZ rfl f L st σ n k w
theorem f_X15_feed_6 (hZ : ZRN (ztb (tb_X15_feed E d mc ms)) cut G R T Z) (f : Nat) (L : ZLV) (st : List Value) (σ : ZHp) (n k w : Nat) : Z (f + 1) 6 L st σ n k w = s_getf 14 2 9 L st σ n k w (zk1 cut G (Z f)) G R T := zrs hZ rfl f L st σ n k w
theorem f_X15_feed_9 (hZ : ZRN (ztb (tb_X15_feed E d mc ms)) cut G R T Z) (f : Nat) (L : ZLV) (st : List Value) (σ : ZHp) (n k w : Nat) : Z (f + 1) 9 L st σ n k w = s_const (.int (20)) 11 L st σ n k w (zk1 cut G (Z f)) G R T := zrs hZ rfl f L st σ n k w
theorem f_X15_feed_11 (hZ : ZRN (ztb (tb_X15_feed E d mc ms)) cut G R T Z) (f : Nat) (L : ZLV) (st : List Value) (σ : ZHp) (n k w : Nat) : Z (f + 1) 11 L st σ n k w = s_iadd 12 L st σ n k w (zk1 cut G (Z f)) G R T := zrs hZ rfl f L st σ n k w
theorem f_X15_feed_12 (hZ : ZRN (ztb (tb_X15_feed E d mc ms)) cut G R T Z) (f : Nat) (L : ZLV) (st : List Value) (σ : ZHp) (n k w : Nat) : Z (f + 1) 12 L st σ n k w = s_const (.int (2000)) 15 L st σ n k w (zk1 cut G (Z f)) G R T := zrs hZ rfl f L st σ n k w
theorem f_X15_feed_15 (hZ : ZRN (ztb (tb_X15_feed E d mc ms)) cut G R T Z) (f : Nat) (L : ZLV) (st : List Value) (σ : ZHp) (n k w : Nat) : Z (f + 1) 15 L st σ n k w = s_icmp_le 24 18 L st σ n k w (zk1 cut G (Z f)) G R T := zrs hZ rfl f L st σ n k w
theorem f_X15_feed_18 (hZ : ZRN (ztb (tb_X15_feed E d mc ms)) cut G R T Z) (f : Nat) (L : ZLV) (st : List Value) (σ : ZHp) (n k w : Nat) : Z (f + 1) 18 L st σ n k w = s_aload 0 19 L st σ n k w (zk1 cut G (Z f)) G R T := zrs hZ rfl f L st σ n k w
theorem f_X15_feed_19 (hZ : ZRN (ztb (tb_X15_feed E d mc ms)) cut G R T Z) (f : Nat) (L : ZLV) (st : List Value) (σ : ZHp) (n k w : Nat) : Z (f + 1) 19 L st σ n k w = s_const (.int (1)) 20 L st σ n k w (zk1 cut G (Z f)) G R T := zrs hZ rfl f L st σ n k w
theorem f_X15_feed_20 (hZ : ZRN (ztb (tb_X15_feed E d mc ms)) cut G R T Z) (f : Nat) (L : ZLV) (st : List Value) (σ : ZHp) (n k w : Nat) : Z (f + 1) 20 L st σ n k w = s_callV E d mc ms 14 MX15_no 1 23 L st σ n k w (zk1 cut G (Z f)) G R T := zrs hZ rfl f L st σ n k w
theorem f_X15_feed_23 (hZ : ZRN (ztb (tb_X15_feed E d mc ms)) cut G R T Z) (f : Nat) (L : ZLV) (st : List Value) (σ : ZHp) (n k w : Nat) : Z (f + 1) 23 L st σ n k w = s_ireturn L st σ n k w (zk1 cut G (Z f)) G R T := zrs hZ rfl f L st σ n k w
theorem f_X15_feed_24 (hZ : ZRN (ztb (tb_X15_feed E d mc ms)) cut G R T Z) (f : Nat) (L : ZLV) (st : List Value) (σ : ZHp) (n k w : Nat) : Z (f + 1) 24 L st σ n k w = s_const (.int (5)) 25 L st σ n k w (zk1 cut G (Z f)) G R T := zrs hZ rfl f L st σ n k w
theorem f_X15_feed_25 (hZ : ZRN (ztb (tb_X15_feed E d mc ms)) cut G R T Z) (f : Nat) (L : ZLV) (st : List Value) (σ : ZHp) (n k w : Nat) : Z (f + 1) 25 L st σ n k w = s_newI E mc ms 27 L st σ n k w (zk1 cut G (Z f)) G R T := zrs hZ rfl f L st σ n k w
theorem f_X15_feed_27 (hZ : ZRN (ztb (tb_X15_feed E d mc ms)) cut G R T Z) (f : Nat) (L : ZLV) (st : List Value) (σ : ZHp) (n k w : Nat) : Z (f + 1) 27 L st σ n k w = s_dup 28 L st σ n k w (zk1 cut G (Z f)) G R T := zrs hZ rfl f L st σ n k w
theorem f_X15_feed_28 (hZ : ZRN (ztb (tb_X15_feed E d mc ms)) cut G R T Z) (f : Nat) (L : ZLV) (st : List Value) (σ : ZHp) (n k w : Nat) : Z (f + 1) 28 L st σ n k w = s_const (.int (0)) 29 L st σ n k w (zk1 cut G (Z f)) G R T := zrs hZ rfl f L st σ n k w
theorem f_X15_feed_29 (hZ : ZRN (ztb (tb_X15_feed E d mc ms)) cut G R T Z) (f : Nat) (L : ZLV) (st : List Value) (σ : ZHp) (n k w : Nat) : Z (f + 1) 29 L st σ n k w = s_iload 1 30 L st σ n k w (zk1 cut G (Z f)) G R T := zrs hZ rfl f L st σ n k w
theorem f_X15_feed_30 (hZ : ZRN (ztb (tb_X15_feed E d mc ms)) cut G R T Z) (f : Nat) (L : ZLV) (st : List Value) (σ : ZHp) (n k w : Nat) : Z (f + 1) 30 L st σ n k w = s_iastore E 31 L st σ n k w (zk1 cut G (Z f)) G R T := zrs hZ rfl f L st σ n k w
theorem f_X15_feed_31 (hZ : ZRN (ztb (tb_X15_feed E d mc ms)) cut G R T Z) (f : Nat) (L : ZLV) (st : List Value) (σ : ZHp) (n k w : Nat) : Z (f + 1) 31 L st σ n k w = s_dup 32 L st σ n k w (zk1 cut G (Z f)) G R T := zrs hZ rfl f L st σ n k w
theorem f_X15_feed_32 (hZ : ZRN (ztb (tb_X15_feed E d mc ms)) cut G R T Z) (f : Nat) (L : ZLV) (st : List Value) (σ : ZHp) (n k w : Nat) : Z (f + 1) 32 L st σ n k w = s_const (.int (1)) 33 L st σ n k w (zk1 cut G (Z f)) G R T := zrs hZ rfl f L st σ n k w
theorem f_X15_feed_33 (hZ : ZRN (ztb (tb_X15_feed E d mc ms)) cut G R T Z) (f : Nat) (L : ZLV) (st : List Value) (σ : ZHp) (n k w : Nat) : Z (f + 1) 33 L st σ n k w = s_iload 2 34 L st σ n k w (zk1 cut G (Z f)) G R T := zrs hZ rfl f L st σ n k w
theorem f_X15_feed_34 (hZ : ZRN (ztb (tb_X15_feed E d mc ms)) cut G R T Z) (f : Nat) (L : ZLV) (st : List Value) (σ : ZHp) (n k w : Nat) : Z (f + 1) 34 L st σ n k w = s_iastore E 35 L st σ n k w (zk1 cut G (Z f)) G R T := zrs hZ rfl f L st σ n k w
theorem f_X15_feed_35 (hZ : ZRN (ztb (tb_X15_feed E d mc ms)) cut G R T Z) (f : Nat) (L : ZLV) (st : List Value) (σ : ZHp) (n k w : Nat) : Z (f + 1) 35 L st σ n k w = s_dup 36 L st σ n k w (zk1 cut G (Z f)) G R T := zrs hZ rfl f L st σ n k w
theorem f_X15_feed_36 (hZ : ZRN (ztb (tb_X15_feed E d mc ms)) cut G R T Z) (f : Nat) (L : ZLV) (st : List Value) (σ : ZHp) (n k w : Nat) : Z (f + 1) 36 L st σ n k w = s_const (.int (2)) 37 L st σ n k w (zk1 cut G (Z f)) G R T := zrs hZ rfl f L st σ n k w
theorem f_X15_feed_37 (hZ : ZRN (ztb (tb_X15_feed E d mc ms)) cut G R T Z) (f : Nat) (L : ZLV) (st : List Value) (σ : ZHp) (n k w : Nat) : Z (f + 1) 37 L st σ n k w = s_iload 3 38 L st σ n k w (zk1 cut G (Z f)) G R T := zrs hZ rfl f L st σ n k w
theorem f_X15_feed_38 (hZ : ZRN (ztb (tb_X15_feed E d mc ms)) cut G R T Z) (f : Nat) (L : ZLV) (st : List Value) (σ : ZHp) (n k w : Nat) : Z (f + 1) 38 L st σ n k w = s_iastore E 39 L st σ n k w (zk1 cut G (Z f)) G R T := zrs hZ rfl f L st σ n k w
theorem f_X15_feed_39 (hZ : ZRN (ztb (tb_X15_feed E d mc ms)) cut G R T Z) (f : Nat) (L : ZLV) (st : List Value) (σ : ZHp) (n k w : Nat) : Z (f + 1) 39 L st σ n k w = s_dup 40 L st σ n k w (zk1 cut G (Z f)) G R T := zrs hZ rfl f L st σ n k w
theorem f_X15_feed_40 (hZ : ZRN (ztb (tb_X15_feed E d mc ms)) cut G R T Z) (f : Nat) (L : ZLV) (st : List Value) (σ : ZHp) (n k w : Nat) : Z (f + 1) 40 L st σ n k w = s_const (.int (3)) 41 L st σ n k w (zk1 cut G (Z f)) G R T := zrs hZ rfl f L st σ n k w
theorem f_X15_feed_41 (hZ : ZRN (ztb (tb_X15_feed E d mc ms)) cut G R T Z) (f : Nat) (L : ZLV) (st : List Value) (σ : ZHp) (n k w : Nat) : Z (f + 1) 41 L st σ n k w = s_iload 4 43 L st σ n k w (zk1 cut G (Z f)) G R T := zrs hZ rfl f L st σ n k w
theorem f_X15_feed_43 (hZ : ZRN (ztb (tb_X15_feed E d mc ms)) cut G R T Z) (f : Nat) (L : ZLV) (st : List Value) (σ : ZHp) (n k w : Nat) : Z (f + 1) 43 L st σ n k w = s_iastore E 44 L st σ n k w (zk1 cut G (Z f)) G R T := zrs hZ rfl f L st σ n k w
theorem f_X15_feed_44 (hZ : ZRN (ztb (tb_X15_feed E d mc ms)) cut G R T Z) (f : Nat) (L : ZLV) (st : List Value) (σ : ZHp) (n k w : Nat) : Z (f + 1) 44 L st σ n k w = s_dup 45 L st σ n k w (zk1 cut G (Z f)) G R T := zrs hZ rfl f L st σ n k w
theorem f_X15_feed_45 (hZ : ZRN (ztb (tb_X15_feed E d mc ms)) cut G R T Z) (f : Nat) (L : ZLV) (st : List Value) (σ : ZHp) (n k w : Nat) : Z (f + 1) 45 L st σ n k w = s_const (.int (4)) 46 L st σ n k w (zk1 cut G (Z f)) G R T := zrs hZ rfl f L st σ n k w
theorem f_X15_feed_46 (hZ : ZRN (ztb (tb_X15_feed E d mc ms)) cut G R T Z) (f : Nat) (L : ZLV) (st : List Value) (σ : ZHp) (n k w : Nat) : Z (f + 1) 46 L st σ n k w = s_iload 5 48 L st σ n k w (zk1 cut G (Z f)) G R T := zrs hZ rfl f L st σ n k w
theorem f_X15_feed_48 (hZ : ZRN (ztb (tb_X15_feed E d mc ms)) cut G R T Z) (f : Nat) (L : ZLV) (st : List Value) (σ : ZHp) (n k w : Nat) : Z (f + 1) 48 L st σ n k w = s_iastore E 49 L st σ n k w (zk1 cut G (Z f)) G R T := zrs hZ rfl f L st σ n k w
theorem f_X15_feed_49 (hZ : ZRN (ztb (tb_X15_feed E d mc ms)) cut G R T Z) (f : Nat) (L : ZLV) (st : List Value) (σ : ZHp) (n k w : Nat) : Z (f + 1) 49 L st σ n k w = s_astore 6 51 L st σ n k w (zk1 cut G (Z f)) G R T := zrs hZ rfl f L st σ n k w
theorem f_X15_feed_51 (hZ : ZRN (ztb (tb_X15_feed E d mc ms)) cut G R T Z) (f : Nat) (L : ZLV) (st : List Value) (σ : ZHp) (n k w : Nat) : Z (f + 1) 51 L st σ n k w = s_const (.int (0)) 52 L st σ n k w (zk1 cut G (Z f)) G R T := zrs hZ rfl f L st σ n k w
theorem f_X15_feed_52 (hZ : ZRN (ztb (tb_X15_feed E d mc ms)) cut G R T Z) (f : Nat) (L : ZLV) (st : List Value) (σ : ZHp) (n k w : Nat) : Z (f + 1) 52 L st σ n k w = s_istore 7 54 L st σ n k w (zk1 cut G (Z f)) G R T := zrs hZ rfl f L st σ n k w
theorem f_X15_feed_54 (hZ : ZRN (ztb (tb_X15_feed E d mc ms)) cut G R T Z) (f : Nat) (L : ZLV) (st : List Value) (σ : ZHp) (n k w : Nat) : Z (f + 1) 54 L st σ n k w = s_iload 7 56 L st σ n k w (zk1 cut G (Z f)) G R T := zrs hZ rfl f L st σ n k w
theorem f_X15_feed_56 (hZ : ZRN (ztb (tb_X15_feed E d mc ms)) cut G R T Z) (f : Nat) (L : ZLV) (st : List Value) (σ : ZHp) (n k w : Nat) : Z (f + 1) 56 L st σ n k w = s_const (.int (20)) 58 L st σ n k w (zk1 cut G (Z f)) G R T := zrs hZ rfl f L st σ n k w
theorem f_X15_feed_58 (hZ : ZRN (ztb (tb_X15_feed E d mc ms)) cut G R T Z) (f : Nat) (L : ZLV) (st : List Value) (σ : ZHp) (n k w : Nat) : Z (f + 1) 58 L st σ n k w = s_icmp_ge 101 61 L st σ n k w (zk1 cut G (Z f)) G R T := zrs hZ rfl f L st σ n k w
theorem f_X15_feed_61 (hZ : ZRN (ztb (tb_X15_feed E d mc ms)) cut G R T Z) (f : Nat) (L : ZLV) (st : List Value) (σ : ZHp) (n k w : Nat) : Z (f + 1) 61 L st σ n k w = s_aload 0 62 L st σ n k w (zk1 cut G (Z f)) G R T := zrs hZ rfl f L st σ n k w
theorem f_X15_feed_62 (hZ : ZRN (ztb (tb_X15_feed E d mc ms)) cut G R T Z) (f : Nat) (L : ZLV) (st : List Value) (σ : ZHp) (n k w : Nat) : Z (f + 1) 62 L st σ n k w = s_getf 14 1 65 L st σ n k w (zk1 cut G (Z f)) G R T := zrs hZ rfl f L st σ n k w
theorem f_X15_feed_65 (hZ : ZRN (ztb (tb_X15_feed E d mc ms)) cut G R T Z) (f : Nat) (L : ZLV) (st : List Value) (σ : ZHp) (n k w : Nat) : Z (f + 1) 65 L st σ n k w = s_aload 0 66 L st σ n k w (zk1 cut G (Z f)) G R T := zrs hZ rfl f L st σ n k w
theorem f_X15_feed_66 (hZ : ZRN (ztb (tb_X15_feed E d mc ms)) cut G R T Z) (f : Nat) (L : ZLV) (st : List Value) (σ : ZHp) (n k w : Nat) : Z (f + 1) 66 L st σ n k w = s_getf 14 2 69 L st σ n k w (zk1 cut G (Z f)) G R T := zrs hZ rfl f L st σ n k w
theorem f_X15_feed_69 (hZ : ZRN (ztb (tb_X15_feed E d mc ms)) cut G R T Z) (f : Nat) (L : ZLV) (st : List Value) (σ : ZHp) (n k w : Nat) : Z (f + 1) 69 L st σ n k w = s_iload 7 71 L st σ n k w (zk1 cut G (Z f)) G R T := zrs hZ rfl f L st σ n k w
theorem f_X15_feed_71 (hZ : ZRN (ztb (tb_X15_feed E d mc ms)) cut G R T Z) (f : Nat) (L : ZLV) (st : List Value) (σ : ZHp) (n k w : Nat) : Z (f + 1) 71 L st σ n k w = s_iadd 72 L st σ n k w (zk1 cut G (Z f)) G R T := zrs hZ rfl f L st σ n k w
theorem f_X15_feed_72 (hZ : ZRN (ztb (tb_X15_feed E d mc ms)) cut G R T Z) (f : Nat) (L : ZLV) (st : List Value) (σ : ZHp) (n k w : Nat) : Z (f + 1) 72 L st σ n k w = s_aload 6 74 L st σ n k w (zk1 cut G (Z f)) G R T := zrs hZ rfl f L st σ n k w
theorem f_X15_feed_74 (hZ : ZRN (ztb (tb_X15_feed E d mc ms)) cut G R T Z) (f : Nat) (L : ZLV) (st : List Value) (σ : ZHp) (n k w : Nat) : Z (f + 1) 74 L st σ n k w = s_iload 7 76 L st σ n k w (zk1 cut G (Z f)) G R T := zrs hZ rfl f L st σ n k w
theorem f_X15_feed_76 (hZ : ZRN (ztb (tb_X15_feed E d mc ms)) cut G R T Z) (f : Nat) (L : ZLV) (st : List Value) (σ : ZHp) (n k w : Nat) : Z (f + 1) 76 L st σ n k w = s_const (.int (4)) 77 L st σ n k w (zk1 cut G (Z f)) G R T := zrs hZ rfl f L st σ n k w
theorem f_X15_feed_77 (hZ : ZRN (ztb (tb_X15_feed E d mc ms)) cut G R T Z) (f : Nat) (L : ZLV) (st : List Value) (σ : ZHp) (n k w : Nat) : Z (f + 1) 77 L st σ n k w = s_idiv 78 L st σ n k w (zk1 cut G (Z f)) G R T := zrs hZ rfl f L st σ n k w
theorem f_X15_feed_78 (hZ : ZRN (ztb (tb_X15_feed E d mc ms)) cut G R T Z) (f : Nat) (L : ZLV) (st : List Value) (σ : ZHp) (n k w : Nat) : Z (f + 1) 78 L st σ n k w = s_iaload E 79 L st σ n k w (zk1 cut G (Z f)) G R T := zrs hZ rfl f L st σ n k w
theorem f_X15_feed_79 (hZ : ZRN (ztb (tb_X15_feed E d mc ms)) cut G R T Z) (f : Nat) (L : ZLV) (st : List Value) (σ : ZHp) (n k w : Nat) : Z (f + 1) 79 L st σ n k w = s_const (.int (24)) 81 L st σ n k w (zk1 cut G (Z f)) G R T := zrs hZ rfl f L st σ n k w
theorem f_X15_feed_81 (hZ : ZRN (ztb (tb_X15_feed E d mc ms)) cut G R T Z) (f : Nat) (L : ZLV) (st : List Value) (σ : ZHp) (n k w : Nat) : Z (f + 1) 81 L st σ n k w = s_iload 7 83 L st σ n k w (zk1 cut G (Z f)) G R T := zrs hZ rfl f L st σ n k w
theorem f_X15_feed_83 (hZ : ZRN (ztb (tb_X15_feed E d mc ms)) cut G R T Z) (f : Nat) (L : ZLV) (st : List Value) (σ : ZHp) (n k w : Nat) : Z (f + 1) 83 L st σ n k w = s_const (.int (4)) 84 L st σ n k w (zk1 cut G (Z f)) G R T := zrs hZ rfl f L st σ n k w
theorem f_X15_feed_84 (hZ : ZRN (ztb (tb_X15_feed E d mc ms)) cut G R T Z) (f : Nat) (L : ZLV) (st : List Value) (σ : ZHp) (n k w : Nat) : Z (f + 1) 84 L st σ n k w = s_irem 85 L st σ n k w (zk1 cut G (Z f)) G R T := zrs hZ rfl f L st σ n k w
theorem f_X15_feed_85 (hZ : ZRN (ztb (tb_X15_feed E d mc ms)) cut G R T Z) (f : Nat) (L : ZLV) (st : List Value) (σ : ZHp) (n k w : Nat) : Z (f + 1) 85 L st σ n k w = s_const (.int (8)) 87 L st σ n k w (zk1 cut G (Z f)) G R T := zrs hZ rfl f L st σ n k w
theorem f_X15_feed_87 (hZ : ZRN (ztb (tb_X15_feed E d mc ms)) cut G R T Z) (f : Nat) (L : ZLV) (st : List Value) (σ : ZHp) (n k w : Nat) : Z (f + 1) 87 L st σ n k w = s_imul 88 L st σ n k w (zk1 cut G (Z f)) G R T := zrs hZ rfl f L st σ n k w
theorem f_X15_feed_88 (hZ : ZRN (ztb (tb_X15_feed E d mc ms)) cut G R T Z) (f : Nat) (L : ZLV) (st : List Value) (σ : ZHp) (n k w : Nat) : Z (f + 1) 88 L st σ n k w = s_isub 89 L st σ n k w (zk1 cut G (Z f)) G R T := zrs hZ rfl f L st σ n k w
theorem f_X15_feed_89 (hZ : ZRN (ztb (tb_X15_feed E d mc ms)) cut G R T Z) (f : Nat) (L : ZLV) (st : List Value) (σ : ZHp) (n k w : Nat) : Z (f + 1) 89 L st σ n k w = s_iushr 90 L st σ n k w (zk1 cut G (Z f)) G R T := zrs hZ rfl f L st σ n k w
theorem f_X15_feed_90 (hZ : ZRN (ztb (tb_X15_feed E d mc ms)) cut G R T Z) (f : Nat) (L : ZLV) (st : List Value) (σ : ZHp) (n k w : Nat) : Z (f + 1) 90 L st σ n k w = s_const (.int (255)) 93 L st σ n k w (zk1 cut G (Z f)) G R T := zrs hZ rfl f L st σ n k w
theorem f_X15_feed_93 (hZ : ZRN (ztb (tb_X15_feed E d mc ms)) cut G R T Z) (f : Nat) (L : ZLV) (st : List Value) (σ : ZHp) (n k w : Nat) : Z (f + 1) 93 L st σ n k w = s_iand 94 L st σ n k w (zk1 cut G (Z f)) G R T := zrs hZ rfl f L st σ n k w
theorem f_X15_feed_94 (hZ : ZRN (ztb (tb_X15_feed E d mc ms)) cut G R T Z) (f : Nat) (L : ZLV) (st : List Value) (σ : ZHp) (n k w : Nat) : Z (f + 1) 94 L st σ n k w = s_iastore E 95 L st σ n k w (zk1 cut G (Z f)) G R T := zrs hZ rfl f L st σ n k w
theorem f_X15_feed_95 (hZ : ZRN (ztb (tb_X15_feed E d mc ms)) cut G R T Z) (f : Nat) (L : ZLV) (st : List Value) (σ : ZHp) (n k w : Nat) : Z (f + 1) 95 L st σ n k w = s_iinc 7 (1) 98 L st σ n k w (zk1 cut G (Z f)) G R T := zrs hZ rfl f L st σ n k w
theorem f_X15_feed_98 (hZ : ZRN (ztb (tb_X15_feed E d mc ms)) cut G R T Z) (f : Nat) (L : ZLV) (st : List Value) (σ : ZHp) (n k w : Nat) : Z (f + 1) 98 L st σ n k w = s_goto 54 L st σ n k w (zk1 cut G (Z f)) G R T := zrs hZ rfl f L st σ n k w
theorem f_X15_feed_101 (hZ : ZRN (ztb (tb_X15_feed E d mc ms)) cut G R T Z) (f : Nat) (L : ZLV) (st : List Value) (σ : ZHp) (n k w : Nat) : Z (f + 1) 101 L st σ n k w = s_aload 0 102 L st σ n k w (zk1 cut G (Z f)) G R T := zrs hZ rfl f L st σ n k w
theorem f_X15_feed_102 (hZ : ZRN (ztb (tb_X15_feed E d mc ms)) cut G R T Z) (f : Nat) (L : ZLV) (st : List Value) (σ : ZHp) (n k w : Nat) : Z (f + 1) 102 L st σ n k w = s_dup 103 L st σ n k w (zk1 cut G (Z f)) G R T := zrs hZ rfl f L st σ n k w
theorem f_X15_feed_103 (hZ : ZRN (ztb (tb_X15_feed E d mc ms)) cut G R T Z) (f : Nat) (L : ZLV) (st : List Value) (σ : ZHp) (n k w : Nat) : Z (f + 1) 103 L st σ n k w = s_getf 14 2 106 L st σ n k w (zk1 cut G (Z f)) G R T := zrs hZ rfl f L st σ n k w
theorem f_X15_feed_106 (hZ : ZRN (ztb (tb_X15_feed E d mc ms)) cut G R T Z) (f : Nat) (L : ZLV) (st : List Value) (σ : ZHp) (n k w : Nat) : Z (f + 1) 106 L st σ n k w = s_const (.int (20)) 108 L st σ n k w (zk1 cut G (Z f)) G R T := zrs hZ rfl f L st σ n k w
theorem f_X15_feed_108 (hZ : ZRN (ztb (tb_X15_feed E d mc ms)) cut G R T Z) (f : Nat) (L : ZLV) (st : List Value) (σ : ZHp) (n k w : Nat) : Z (f + 1) 108 L st σ n k w = s_iadd 109 L st σ n k w (zk1 cut G (Z f)) G R T := zrs hZ rfl f L st σ n k w
theorem f_X15_feed_109 (hZ : ZRN (ztb (tb_X15_feed E d mc ms)) cut G R T Z) (f : Nat) (L : ZLV) (st : List Value) (σ : ZHp) (n k w : Nat) : Z (f + 1) 109 L st σ n k w = s_putf 14 2 0 112 L st σ n k w (zk1 cut G (Z f)) G R T := zrs hZ rfl f L st σ n k w
theorem f_X15_feed_112 (hZ : ZRN (ztb (tb_X15_feed E d mc ms)) cut G R T Z) (f : Nat) (L : ZLV) (st : List Value) (σ : ZHp) (n k w : Nat) : Z (f + 1) 112 L st σ n k w = s_aload 0 113 L st σ n k w (zk1 cut G (Z f)) G R T := zrs hZ rfl f L st σ n k w
theorem f_X15_feed_113 (hZ : ZRN (ztb (tb_X15_feed E d mc ms)) cut G R T Z) (f : Nat) (L : ZLV) (st : List Value) (σ : ZHp) (n k w : Nat) : Z (f + 1) 113 L st σ n k w = s_getf 14 2 116 L st σ n k w (zk1 cut G (Z f)) G R T := zrs hZ rfl f L st σ n k w
theorem f_X15_feed_116 (hZ : ZRN (ztb (tb_X15_feed E d mc ms)) cut G R T Z) (f : Nat) (L : ZLV) (st : List Value) (σ : ZHp) (n k w : Nat) : Z (f + 1) 116 L st σ n k w = s_ireturn L st σ n k w (zk1 cut G (Z f)) G R T := zrs hZ rfl f L st σ n k w
theorem f_X15_trim_0 (hZ : ZRN (ztb (tb_X15_trim E d mc ms)) cut G R T Z) (f : Nat) (L : ZLV) (st : List Value) (σ : ZHp) (n k w : Nat) : Z (f + 1) 0 L st σ n k w = s_aload 0 1 L st σ n k w (zk1 cut G (Z f)) G R T := zrs hZ rfl f L st σ n k w
theorem f_X15_trim_1 (hZ : ZRN (ztb (tb_X15_trim E d mc ms)) cut G R T Z) (f : Nat) (L : ZLV) (st : List Value) (σ : ZHp) (n k w : Nat) : Z (f + 1) 1 L st σ n k w = s_const (.int (0)) 2 L st σ n k w (zk1 cut G (Z f)) G R T := zrs hZ rfl f L st σ n k w
theorem f_X15_trim_2 (hZ : ZRN (ztb (tb_X15_trim E d mc ms)) cut G R T Z) (f : Nat) (L : ZLV) (st : List Value) (σ : ZHp) (n k w : Nat) : Z (f + 1) 2 L st σ n k w = s_putf 14 0 0 5 L st σ n k w (zk1 cut G (Z f)) G R T := zrs hZ rfl f L st σ n k w
theorem f_X15_trim_5 (hZ : ZRN (ztb (tb_X15_trim E d mc ms)) cut G R T Z) (f : Nat) (L : ZLV) (st : List Value) (σ : ZHp) (n k w : Nat) : Z (f + 1) 5 L st σ n k w = s_iload 1 6 L st σ n k w (zk1 cut G (Z f)) G R T := zrs hZ rfl f L st σ n k w
theorem f_X15_trim_6 (hZ : ZRN (ztb (tb_X15_trim E d mc ms)) cut G R T Z) (f : Nat) (L : ZLV) (st : List Value) (σ : ZHp) (n k w : Nat) : Z (f + 1) 6 L st σ n k w = s_const (.int (0)) 7 L st σ n k w (zk1 cut G (Z f)) G R T := zrs hZ rfl f L st σ n k w
theorem f_X15_trim_7 (hZ : ZRN (ztb (tb_X15_trim E d mc ms)) cut G R T Z) (f : Nat) (L : ZLV) (st : List Value) (σ : ZHp) (n k w : Nat) : Z (f + 1) 7 L st σ n k w = s_aload 0 8 L st σ n k w (zk1 cut G (Z f)) G R T := zrs hZ rfl f L st σ n k w
theorem f_X15_trim_8 (hZ : ZRN (ztb (tb_X15_trim E d mc ms)) cut G R T Z) (f : Nat) (L : ZLV) (st : List Value) (σ : ZHp) (n k w : Nat) : Z (f + 1) 8 L st σ n k w = s_getf 14 2 11 L st σ n k w (zk1 cut G (Z f)) G R T := zrs hZ rfl f L st σ n k w
theorem f_X15_trim_11 (hZ : ZRN (ztb (tb_X15_trim E d mc ms)) cut G R T Z) (f : Nat) (L : ZLV) (st : List Value) (σ : ZHp) (n k w : Nat) : Z (f + 1) 11 L st σ n k w = s_callS E d mc ms MX15_isIn 3 14 L st σ n k w (zk1 cut G (Z f)) G R T := zrs hZ rfl f L st σ n k w
theorem f_X15_trim_14 (hZ : ZRN (ztb (tb_X15_trim E d mc ms)) cut G R T Z) (f : Nat) (L : ZLV) (st : List Value) (σ : ZHp) (n k w : Nat) : Z (f + 1) 14 L st σ n k w = s_if_ne 23 17 L st σ n k w (zk1 cut G (Z f)) G R T := zrs hZ rfl f L st σ n k w
theorem f_X15_trim_17 (hZ : ZRN (ztb (tb_X15_trim E d mc ms)) cut G R T Z) (f : Nat) (L : ZLV) (st : List Value) (σ : ZHp) (n k w : Nat) : Z (f + 1) 17 L st σ n k w = s_aload 0 18 L st σ n k w (zk1 cut G (Z f)) G R T := zrs hZ rfl f L st σ n k w
theorem f_X15_trim_18 (hZ : ZRN (ztb (tb_X15_trim E d mc ms)) cut G R T Z) (f : Nat) (L : ZLV) (st : List Value) (σ : ZHp) (n k w : Nat) : Z (f + 1) 18 L st σ n k w = s_const (.int (1)) 19 L st σ n k w (zk1 cut G (Z f)) G R T := zrs hZ rfl f L st σ n k w
theorem f_X15_trim_19 (hZ : ZRN (ztb (tb_X15_trim E d mc ms)) cut G R T Z) (f : Nat) (L : ZLV) (st : List Value) (σ : ZHp) (n k w : Nat) : Z (f + 1) 19 L st σ n k w = s_callV E d mc ms 14 MX15_no 1 22 L st σ n k w (zk1 cut G (Z f)) G R T := zrs hZ rfl f L st σ n k w
theorem f_X15_trim_22 (hZ : ZRN (ztb (tb_X15_trim E d mc ms)) cut G R T Z) (f : Nat) (L : ZLV) (st : List Value) (σ : ZHp) (n k w : Nat) : Z (f + 1) 22 L st σ n k w = s_ireturn L st σ n k w (zk1 cut G (Z f)) G R T := zrs hZ rfl f L st σ n k w
theorem f_X15_trim_23 (hZ : ZRN (ztb (tb_X15_trim E d mc ms)) cut G R T Z) (f : Nat) (L : ZLV) (st : List Value) (σ : ZHp) (n k w : Nat) : Z (f + 1) 23 L st σ n k w = s_aload 0 24 L st σ n k w (zk1 cut G (Z f)) G R T := zrs hZ rfl f L st σ n k w
theorem f_X15_trim_24 (hZ : ZRN (ztb (tb_X15_trim E d mc ms)) cut G R T Z) (f : Nat) (L : ZLV) (st : List Value) (σ : ZHp) (n k w : Nat) : Z (f + 1) 24 L st σ n k w = s_iload 1 25 L st σ n k w (zk1 cut G (Z f)) G R T := zrs hZ rfl f L st σ n k w
theorem f_X15_trim_25 (hZ : ZRN (ztb (tb_X15_trim E d mc ms)) cut G R T Z) (f : Nat) (L : ZLV) (st : List Value) (σ : ZHp) (n k w : Nat) : Z (f + 1) 25 L st σ n k w = s_putf 14 2 0 28 L st σ n k w (zk1 cut G (Z f)) G R T := zrs hZ rfl f L st σ n k w
theorem f_X15_trim_28 (hZ : ZRN (ztb (tb_X15_trim E d mc ms)) cut G R T Z) (f : Nat) (L : ZLV) (st : List Value) (σ : ZHp) (n k w : Nat) : Z (f + 1) 28 L st σ n k w = s_iload 1 29 L st σ n k w (zk1 cut G (Z f)) G R T := zrs hZ rfl f L st σ n k w
theorem f_X15_trim_29 (hZ : ZRN (ztb (tb_X15_trim E d mc ms)) cut G R T Z) (f : Nat) (L : ZLV) (st : List Value) (σ : ZHp) (n k w : Nat) : Z (f + 1) 29 L st σ n k w = s_ireturn L st σ n k w (zk1 cut G (Z f)) G R T := zrs hZ rfl f L st σ n k w
theorem f_X15_fill_0 (hZ : ZRN (ztb (tb_X15_fill E d mc ms)) cut G R T Z) (f : Nat) (L : ZLV) (st : List Value) (σ : ZHp) (n k w : Nat) : Z (f + 1) 0 L st σ n k w = s_const (.int (0)) 1 L st σ n k w (zk1 cut G (Z f)) G R T := zrs hZ rfl f L st σ n k w
theorem f_X15_fill_1 (hZ : ZRN (ztb (tb_X15_fill E d mc ms)) cut G R T Z) (f : Nat) (L : ZLV) (st : List Value) (σ : ZHp) (n k w : Nat) : Z (f + 1) 1 L st σ n k w = s_istore 2 2 L st σ n k w (zk1 cut G (Z f)) G R T := zrs hZ rfl f L st σ n k w
theorem f_X15_fill_2 (hZ : ZRN (ztb (tb_X15_fill E d mc ms)) cut G R T Z) (f : Nat) (L : ZLV) (st : List Value) (σ : ZHp) (n k w : Nat) : Z (f + 1) 2 L st σ n k w = s_iload 2 3 L st σ n k w (zk1 cut G (Z f)) G R T := zrs hZ rfl f L st σ n k w
theorem f_X15_fill_3 (hZ : ZRN (ztb (tb_X15_fill E d mc ms)) cut G R T Z) (f : Nat) (L : ZLV) (st : List Value) (σ : ZHp) (n k w : Nat) : Z (f + 1) 3 L st σ n k w = s_aload 0 4 L st σ n k w (zk1 cut G (Z f)) G R T := zrs hZ rfl f L st σ n k w
theorem f_X15_fill_4 (hZ : ZRN (ztb (tb_X15_fill E d mc ms)) cut G R T Z) (f : Nat) (L : ZLV) (st : List Value) (σ : ZHp) (n k w : Nat) : Z (f + 1) 4 L st σ n k w = s_alen E 5 L st σ n k w (zk1 cut G (Z f)) G R T := zrs hZ rfl f L st σ n k w
theorem f_X15_fill_5 (hZ : ZRN (ztb (tb_X15_fill E d mc ms)) cut G R T Z) (f : Nat) (L : ZLV) (st : List Value) (σ : ZHp) (n k w : Nat) : Z (f + 1) 5 L st σ n k w = s_icmp_ge 18 8 L st σ n k w (zk1 cut G (Z f)) G R T := zrs hZ rfl f L st σ n k w
theorem f_X15_fill_8 (hZ : ZRN (ztb (tb_X15_fill E d mc ms)) cut G R T Z) (f : Nat) (L : ZLV) (st : List Value) (σ : ZHp) (n k w : Nat) : Z (f + 1) 8 L st σ n k w = s_aload 0 9 L st σ n k w (zk1 cut G (Z f)) G R T := zrs hZ rfl f L st σ n k w
theorem f_X15_fill_9 (hZ : ZRN (ztb (tb_X15_fill E d mc ms)) cut G R T Z) (f : Nat) (L : ZLV) (st : List Value) (σ : ZHp) (n k w : Nat) : Z (f + 1) 9 L st σ n k w = s_iload 2 10 L st σ n k w (zk1 cut G (Z f)) G R T := zrs hZ rfl f L st σ n k w
theorem f_X15_fill_10 (hZ : ZRN (ztb (tb_X15_fill E d mc ms)) cut G R T Z) (f : Nat) (L : ZLV) (st : List Value) (σ : ZHp) (n k w : Nat) : Z (f + 1) 10 L st σ n k w = s_iload 1 11 L st σ n k w (zk1 cut G (Z f)) G R T := zrs hZ rfl f L st σ n k w
theorem f_X15_fill_11 (hZ : ZRN (ztb (tb_X15_fill E d mc ms)) cut G R T Z) (f : Nat) (L : ZLV) (st : List Value) (σ : ZHp) (n k w : Nat) : Z (f + 1) 11 L st σ n k w = s_iastore E 12 L st σ n k w (zk1 cut G (Z f)) G R T := zrs hZ rfl f L st σ n k w
theorem f_X15_fill_12 (hZ : ZRN (ztb (tb_X15_fill E d mc ms)) cut G R T Z) (f : Nat) (L : ZLV) (st : List Value) (σ : ZHp) (n k w : Nat) : Z (f + 1) 12 L st σ n k w = s_iinc 2 (1) 15 L st σ n k w (zk1 cut G (Z f)) G R T := zrs hZ rfl f L st σ n k w
theorem f_X15_fill_15 (hZ : ZRN (ztb (tb_X15_fill E d mc ms)) cut G R T Z) (f : Nat) (L : ZLV) (st : List Value) (σ : ZHp) (n k w : Nat) : Z (f + 1) 15 L st σ n k w = s_goto 2 L st σ n k w (zk1 cut G (Z f)) G R T := zrs hZ rfl f L st σ n k w
theorem f_X15_fill_18 (hZ : ZRN (ztb (tb_X15_fill E d mc ms)) cut G R T Z) (f : Nat) (L : ZLV) (st : List Value) (σ : ZHp) (n k w : Nat) : Z (f + 1) 18 L st σ n k w = s_return L st σ n k w (zk1 cut G (Z f)) G R T := zrs hZ rfl f L st σ n k w
theorem f_X15_begin_0 (hZ : ZRN (ztb (tb_X15_begin E d mc ms)) cut G R T Z) (f : Nat) (L : ZLV) (st : List Value) (σ : ZHp) (n k w : Nat) : Z (f + 1) 0 L st σ n k w = s_aload 0 1 L st σ n k w (zk1 cut G (Z f)) G R T := zrs hZ rfl f L st σ n k w
theorem f_X15_begin_1 (hZ : ZRN (ztb (tb_X15_begin E d mc ms)) cut G R T Z) (f : Nat) (L : ZLV) (st : List Value) (σ : ZHp) (n k w : Nat) : Z (f + 1) 1 L st σ n k w = s_getf 14 7 4 L st σ n k w (zk1 cut G (Z f)) G R T := zrs hZ rfl f L st σ n k w
theorem f_X15_begin_4 (hZ : ZRN (ztb (tb_X15_begin E d mc ms)) cut G R T Z) (f : Nat) (L : ZLV) (st : List Value) (σ : ZHp) (n k w : Nat) : Z (f + 1) 4 L st σ n k w = s_const (.int (0)) 5 L st σ n k w (zk1 cut G (Z f)) G R T := zrs hZ rfl f L st σ n k w
theorem f_X15_begin_5 (hZ : ZRN (ztb (tb_X15_begin E d mc ms)) cut G R T Z) (f : Nat) (L : ZLV) (st : List Value) (σ : ZHp) (n k w : Nat) : Z (f + 1) 5 L st σ n k w = s_putf 13 0 0 8 L st σ n k w (zk1 cut G (Z f)) G R T := zrs hZ rfl f L st σ n k w
theorem f_X15_begin_8 (hZ : ZRN (ztb (tb_X15_begin E d mc ms)) cut G R T Z) (f : Nat) (L : ZLV) (st : List Value) (σ : ZHp) (n k w : Nat) : Z (f + 1) 8 L st σ n k w = s_aload 0 9 L st σ n k w (zk1 cut G (Z f)) G R T := zrs hZ rfl f L st σ n k w
theorem f_X15_begin_9 (hZ : ZRN (ztb (tb_X15_begin E d mc ms)) cut G R T Z) (f : Nat) (L : ZLV) (st : List Value) (σ : ZHp) (n k w : Nat) : Z (f + 1) 9 L st σ n k w = s_getf 14 7 12 L st σ n k w (zk1 cut G (Z f)) G R T := zrs hZ rfl f L st σ n k w
theorem f_X15_begin_12 (hZ : ZRN (ztb (tb_X15_begin E d mc ms)) cut G R T Z) (f : Nat) (L : ZLV) (st : List Value) (σ : ZHp) (n k w : Nat) : Z (f + 1) 12 L st σ n k w = s_const (.int (0)) 13 L st σ n k w (zk1 cut G (Z f)) G R T := zrs hZ rfl f L st σ n k w
theorem f_X15_begin_13 (hZ : ZRN (ztb (tb_X15_begin E d mc ms)) cut G R T Z) (f : Nat) (L : ZLV) (st : List Value) (σ : ZHp) (n k w : Nat) : Z (f + 1) 13 L st σ n k w = s_putf 13 1 0 16 L st σ n k w (zk1 cut G (Z f)) G R T := zrs hZ rfl f L st σ n k w
theorem f_X15_begin_16 (hZ : ZRN (ztb (tb_X15_begin E d mc ms)) cut G R T Z) (f : Nat) (L : ZLV) (st : List Value) (σ : ZHp) (n k w : Nat) : Z (f + 1) 16 L st σ n k w = s_aload 0 17 L st σ n k w (zk1 cut G (Z f)) G R T := zrs hZ rfl f L st σ n k w
theorem f_X15_begin_17 (hZ : ZRN (ztb (tb_X15_begin E d mc ms)) cut G R T Z) (f : Nat) (L : ZLV) (st : List Value) (σ : ZHp) (n k w : Nat) : Z (f + 1) 17 L st σ n k w = s_getf 14 7 20 L st σ n k w (zk1 cut G (Z f)) G R T := zrs hZ rfl f L st σ n k w
theorem f_X15_begin_20 (hZ : ZRN (ztb (tb_X15_begin E d mc ms)) cut G R T Z) (f : Nat) (L : ZLV) (st : List Value) (σ : ZHp) (n k w : Nat) : Z (f + 1) 20 L st σ n k w = s_const (.int (0)) 21 L st σ n k w (zk1 cut G (Z f)) G R T := zrs hZ rfl f L st σ n k w
theorem f_X15_begin_21 (hZ : ZRN (ztb (tb_X15_begin E d mc ms)) cut G R T Z) (f : Nat) (L : ZLV) (st : List Value) (σ : ZHp) (n k w : Nat) : Z (f + 1) 21 L st σ n k w = s_putf 13 2 0 24 L st σ n k w (zk1 cut G (Z f)) G R T := zrs hZ rfl f L st σ n k w
theorem f_X15_begin_24 (hZ : ZRN (ztb (tb_X15_begin E d mc ms)) cut G R T Z) (f : Nat) (L : ZLV) (st : List Value) (σ : ZHp) (n k w : Nat) : Z (f + 1) 24 L st σ n k w = s_aload 0 25 L st σ n k w (zk1 cut G (Z f)) G R T := zrs hZ rfl f L st σ n k w
theorem f_X15_begin_25 (hZ : ZRN (ztb (tb_X15_begin E d mc ms)) cut G R T Z) (f : Nat) (L : ZLV) (st : List Value) (σ : ZHp) (n k w : Nat) : Z (f + 1) 25 L st σ n k w = s_getf 14 6 28 L st σ n k w (zk1 cut G (Z f)) G R T := zrs hZ rfl f L st σ n k w
theorem f_X15_begin_28 (hZ : ZRN (ztb (tb_X15_begin E d mc ms)) cut G R T Z) (f : Nat) (L : ZLV) (st : List Value) (σ : ZHp) (n k w : Nat) : Z (f + 1) 28 L st σ n k w = s_getf 12 9 31 L st σ n k w (zk1 cut G (Z f)) G R T := zrs hZ rfl f L st σ n k w
theorem f_X15_begin_31 (hZ : ZRN (ztb (tb_X15_begin E d mc ms)) cut G R T Z) (f : Nat) (L : ZLV) (st : List Value) (σ : ZHp) (n k w : Nat) : Z (f + 1) 31 L st σ n k w = s_const (.int (0)) 32 L st σ n k w (zk1 cut G (Z f)) G R T := zrs hZ rfl f L st σ n k w
theorem f_X15_begin_32 (hZ : ZRN (ztb (tb_X15_begin E d mc ms)) cut G R T Z) (f : Nat) (L : ZLV) (st : List Value) (σ : ZHp) (n k w : Nat) : Z (f + 1) 32 L st σ n k w = s_aload 0 33 L st σ n k w (zk1 cut G (Z f)) G R T := zrs hZ rfl f L st σ n k w
theorem f_X15_begin_33 (hZ : ZRN (ztb (tb_X15_begin E d mc ms)) cut G R T Z) (f : Nat) (L : ZLV) (st : List Value) (σ : ZHp) (n k w : Nat) : Z (f + 1) 33 L st σ n k w = s_getf 14 7 36 L st σ n k w (zk1 cut G (Z f)) G R T := zrs hZ rfl f L st σ n k w
theorem f_X15_begin_36 (hZ : ZRN (ztb (tb_X15_begin E d mc ms)) cut G R T Z) (f : Nat) (L : ZLV) (st : List Value) (σ : ZHp) (n k w : Nat) : Z (f + 1) 36 L st σ n k w = s_getf 13 3 39 L st σ n k w (zk1 cut G (Z f)) G R T := zrs hZ rfl f L st σ n k w
theorem f_X15_begin_39 (hZ : ZRN (ztb (tb_X15_begin E d mc ms)) cut G R T Z) (f : Nat) (L : ZLV) (st : List Value) (σ : ZHp) (n k w : Nat) : Z (f + 1) 39 L st σ n k w = s_const (.int (0)) 40 L st σ n k w (zk1 cut G (Z f)) G R T := zrs hZ rfl f L st σ n k w
theorem f_X15_begin_40 (hZ : ZRN (ztb (tb_X15_begin E d mc ms)) cut G R T Z) (f : Nat) (L : ZLV) (st : List Value) (σ : ZHp) (n k w : Nat) : Z (f + 1) 40 L st σ n k w = s_const (.int (10)) 42 L st σ n k w (zk1 cut G (Z f)) G R T := zrs hZ rfl f L st σ n k w
theorem f_X15_begin_42 (hZ : ZRN (ztb (tb_X15_begin E d mc ms)) cut G R T Z) (f : Nat) (L : ZLV) (st : List Value) (σ : ZHp) (n k w : Nat) : Z (f + 1) 42 L st σ n k w = s_acopy E d 45 L st σ n k w (zk1 cut G (Z f)) G R T := zrs hZ rfl f L st σ n k w
theorem f_X15_begin_45 (hZ : ZRN (ztb (tb_X15_begin E d mc ms)) cut G R T Z) (f : Nat) (L : ZLV) (st : List Value) (σ : ZHp) (n k w : Nat) : Z (f + 1) 45 L st σ n k w = s_const (.int (8)) 47 L st σ n k w (zk1 cut G (Z f)) G R T := zrs hZ rfl f L st σ n k w
theorem f_X15_begin_47 (hZ : ZRN (ztb (tb_X15_begin E d mc ms)) cut G R T Z) (f : Nat) (L : ZLV) (st : List Value) (σ : ZHp) (n k w : Nat) : Z (f + 1) 47 L st σ n k w = s_anewA E mc ms 50 L st σ n k w (zk1 cut G (Z f)) G R T := zrs hZ rfl f L st σ n k w
theorem f_X15_begin_50 (hZ : ZRN (ztb (tb_X15_begin E d mc ms)) cut G R T Z) (f : Nat) (L : ZLV) (st : List Value) (σ : ZHp) (n k w : Nat) : Z (f + 1) 50 L st σ n k w = s_dup 51 L st σ n k w (zk1 cut G (Z f)) G R T := zrs hZ rfl f L st σ n k w
theorem f_X15_begin_51 (hZ : ZRN (ztb (tb_X15_begin E d mc ms)) cut G R T Z) (f : Nat) (L : ZLV) (st : List Value) (σ : ZHp) (n k w : Nat) : Z (f + 1) 51 L st σ n k w = s_const (.int (0)) 52 L st σ n k w (zk1 cut G (Z f)) G R T := zrs hZ rfl f L st σ n k w
theorem f_X15_begin_52 (hZ : ZRN (ztb (tb_X15_begin E d mc ms)) cut G R T Z) (f : Nat) (L : ZLV) (st : List Value) (σ : ZHp) (n k w : Nat) : Z (f + 1) 52 L st σ n k w = s_aload 0 53 L st σ n k w (zk1 cut G (Z f)) G R T := zrs hZ rfl f L st σ n k w
theorem f_X15_begin_53 (hZ : ZRN (ztb (tb_X15_begin E d mc ms)) cut G R T Z) (f : Nat) (L : ZLV) (st : List Value) (σ : ZHp) (n k w : Nat) : Z (f + 1) 53 L st σ n k w = s_getf 14 7 56 L st σ n k w (zk1 cut G (Z f)) G R T := zrs hZ rfl f L st σ n k w
theorem f_X15_begin_56 (hZ : ZRN (ztb (tb_X15_begin E d mc ms)) cut G R T Z) (f : Nat) (L : ZLV) (st : List Value) (σ : ZHp) (n k w : Nat) : Z (f + 1) 56 L st σ n k w = s_getf 13 4 59 L st σ n k w (zk1 cut G (Z f)) G R T := zrs hZ rfl f L st σ n k w
theorem f_X15_begin_59 (hZ : ZRN (ztb (tb_X15_begin E d mc ms)) cut G R T Z) (f : Nat) (L : ZLV) (st : List Value) (σ : ZHp) (n k w : Nat) : Z (f + 1) 59 L st σ n k w = s_aastoreA E 60 L st σ n k w (zk1 cut G (Z f)) G R T := zrs hZ rfl f L st σ n k w
theorem f_X15_begin_60 (hZ : ZRN (ztb (tb_X15_begin E d mc ms)) cut G R T Z) (f : Nat) (L : ZLV) (st : List Value) (σ : ZHp) (n k w : Nat) : Z (f + 1) 60 L st σ n k w = s_dup 61 L st σ n k w (zk1 cut G (Z f)) G R T := zrs hZ rfl f L st σ n k w
theorem f_X15_begin_61 (hZ : ZRN (ztb (tb_X15_begin E d mc ms)) cut G R T Z) (f : Nat) (L : ZLV) (st : List Value) (σ : ZHp) (n k w : Nat) : Z (f + 1) 61 L st σ n k w = s_const (.int (1)) 62 L st σ n k w (zk1 cut G (Z f)) G R T := zrs hZ rfl f L st σ n k w
theorem f_X15_begin_62 (hZ : ZRN (ztb (tb_X15_begin E d mc ms)) cut G R T Z) (f : Nat) (L : ZLV) (st : List Value) (σ : ZHp) (n k w : Nat) : Z (f + 1) 62 L st σ n k w = s_aload 0 63 L st σ n k w (zk1 cut G (Z f)) G R T := zrs hZ rfl f L st σ n k w
theorem f_X15_begin_63 (hZ : ZRN (ztb (tb_X15_begin E d mc ms)) cut G R T Z) (f : Nat) (L : ZLV) (st : List Value) (σ : ZHp) (n k w : Nat) : Z (f + 1) 63 L st σ n k w = s_getf 14 7 66 L st σ n k w (zk1 cut G (Z f)) G R T := zrs hZ rfl f L st σ n k w
theorem f_X15_begin_66 (hZ : ZRN (ztb (tb_X15_begin E d mc ms)) cut G R T Z) (f : Nat) (L : ZLV) (st : List Value) (σ : ZHp) (n k w : Nat) : Z (f + 1) 66 L st σ n k w = s_getf 13 5 69 L st σ n k w (zk1 cut G (Z f)) G R T := zrs hZ rfl f L st σ n k w
theorem f_X15_begin_69 (hZ : ZRN (ztb (tb_X15_begin E d mc ms)) cut G R T Z) (f : Nat) (L : ZLV) (st : List Value) (σ : ZHp) (n k w : Nat) : Z (f + 1) 69 L st σ n k w = s_aastoreA E 70 L st σ n k w (zk1 cut G (Z f)) G R T := zrs hZ rfl f L st σ n k w
theorem f_X15_begin_70 (hZ : ZRN (ztb (tb_X15_begin E d mc ms)) cut G R T Z) (f : Nat) (L : ZLV) (st : List Value) (σ : ZHp) (n k w : Nat) : Z (f + 1) 70 L st σ n k w = s_dup 71 L st σ n k w (zk1 cut G (Z f)) G R T := zrs hZ rfl f L st σ n k w
theorem f_X15_begin_71 (hZ : ZRN (ztb (tb_X15_begin E d mc ms)) cut G R T Z) (f : Nat) (L : ZLV) (st : List Value) (σ : ZHp) (n k w : Nat) : Z (f + 1) 71 L st σ n k w = s_const (.int (2)) 72 L st σ n k w (zk1 cut G (Z f)) G R T := zrs hZ rfl f L st σ n k w
theorem f_X15_begin_72 (hZ : ZRN (ztb (tb_X15_begin E d mc ms)) cut G R T Z) (f : Nat) (L : ZLV) (st : List Value) (σ : ZHp) (n k w : Nat) : Z (f + 1) 72 L st σ n k w = s_aload 0 73 L st σ n k w (zk1 cut G (Z f)) G R T := zrs hZ rfl f L st σ n k w
theorem f_X15_begin_73 (hZ : ZRN (ztb (tb_X15_begin E d mc ms)) cut G R T Z) (f : Nat) (L : ZLV) (st : List Value) (σ : ZHp) (n k w : Nat) : Z (f + 1) 73 L st σ n k w = s_getf 14 7 76 L st σ n k w (zk1 cut G (Z f)) G R T := zrs hZ rfl f L st σ n k w
theorem f_X15_begin_76 (hZ : ZRN (ztb (tb_X15_begin E d mc ms)) cut G R T Z) (f : Nat) (L : ZLV) (st : List Value) (σ : ZHp) (n k w : Nat) : Z (f + 1) 76 L st σ n k w = s_getf 13 7 79 L st σ n k w (zk1 cut G (Z f)) G R T := zrs hZ rfl f L st σ n k w
theorem f_X15_begin_79 (hZ : ZRN (ztb (tb_X15_begin E d mc ms)) cut G R T Z) (f : Nat) (L : ZLV) (st : List Value) (σ : ZHp) (n k w : Nat) : Z (f + 1) 79 L st σ n k w = s_aastoreA E 80 L st σ n k w (zk1 cut G (Z f)) G R T := zrs hZ rfl f L st σ n k w
theorem f_X15_begin_80 (hZ : ZRN (ztb (tb_X15_begin E d mc ms)) cut G R T Z) (f : Nat) (L : ZLV) (st : List Value) (σ : ZHp) (n k w : Nat) : Z (f + 1) 80 L st σ n k w = s_dup 81 L st σ n k w (zk1 cut G (Z f)) G R T := zrs hZ rfl f L st σ n k w
theorem f_X15_begin_81 (hZ : ZRN (ztb (tb_X15_begin E d mc ms)) cut G R T Z) (f : Nat) (L : ZLV) (st : List Value) (σ : ZHp) (n k w : Nat) : Z (f + 1) 81 L st σ n k w = s_const (.int (3)) 82 L st σ n k w (zk1 cut G (Z f)) G R T := zrs hZ rfl f L st σ n k w
theorem f_X15_begin_82 (hZ : ZRN (ztb (tb_X15_begin E d mc ms)) cut G R T Z) (f : Nat) (L : ZLV) (st : List Value) (σ : ZHp) (n k w : Nat) : Z (f + 1) 82 L st σ n k w = s_aload 0 83 L st σ n k w (zk1 cut G (Z f)) G R T := zrs hZ rfl f L st σ n k w
theorem f_X15_begin_83 (hZ : ZRN (ztb (tb_X15_begin E d mc ms)) cut G R T Z) (f : Nat) (L : ZLV) (st : List Value) (σ : ZHp) (n k w : Nat) : Z (f + 1) 83 L st σ n k w = s_getf 14 7 86 L st σ n k w (zk1 cut G (Z f)) G R T := zrs hZ rfl f L st σ n k w
theorem f_X15_begin_86 (hZ : ZRN (ztb (tb_X15_begin E d mc ms)) cut G R T Z) (f : Nat) (L : ZLV) (st : List Value) (σ : ZHp) (n k w : Nat) : Z (f + 1) 86 L st σ n k w = s_getf 13 9 89 L st σ n k w (zk1 cut G (Z f)) G R T := zrs hZ rfl f L st σ n k w
theorem f_X15_begin_89 (hZ : ZRN (ztb (tb_X15_begin E d mc ms)) cut G R T Z) (f : Nat) (L : ZLV) (st : List Value) (σ : ZHp) (n k w : Nat) : Z (f + 1) 89 L st σ n k w = s_aastoreA E 90 L st σ n k w (zk1 cut G (Z f)) G R T := zrs hZ rfl f L st σ n k w
theorem f_X15_begin_90 (hZ : ZRN (ztb (tb_X15_begin E d mc ms)) cut G R T Z) (f : Nat) (L : ZLV) (st : List Value) (σ : ZHp) (n k w : Nat) : Z (f + 1) 90 L st σ n k w = s_dup 91 L st σ n k w (zk1 cut G (Z f)) G R T := zrs hZ rfl f L st σ n k w
theorem f_X15_begin_91 (hZ : ZRN (ztb (tb_X15_begin E d mc ms)) cut G R T Z) (f : Nat) (L : ZLV) (st : List Value) (σ : ZHp) (n k w : Nat) : Z (f + 1) 91 L st σ n k w = s_const (.int (4)) 92 L st σ n k w (zk1 cut G (Z f)) G R T := zrs hZ rfl f L st σ n k w
theorem f_X15_begin_92 (hZ : ZRN (ztb (tb_X15_begin E d mc ms)) cut G R T Z) (f : Nat) (L : ZLV) (st : List Value) (σ : ZHp) (n k w : Nat) : Z (f + 1) 92 L st σ n k w = s_aload 0 93 L st σ n k w (zk1 cut G (Z f)) G R T := zrs hZ rfl f L st σ n k w
theorem f_X15_begin_93 (hZ : ZRN (ztb (tb_X15_begin E d mc ms)) cut G R T Z) (f : Nat) (L : ZLV) (st : List Value) (σ : ZHp) (n k w : Nat) : Z (f + 1) 93 L st σ n k w = s_getf 14 7 96 L st σ n k w (zk1 cut G (Z f)) G R T := zrs hZ rfl f L st σ n k w
theorem f_X15_begin_96 (hZ : ZRN (ztb (tb_X15_begin E d mc ms)) cut G R T Z) (f : Nat) (L : ZLV) (st : List Value) (σ : ZHp) (n k w : Nat) : Z (f + 1) 96 L st σ n k w = s_getf 13 11 99 L st σ n k w (zk1 cut G (Z f)) G R T := zrs hZ rfl f L st σ n k w
theorem f_X15_begin_99 (hZ : ZRN (ztb (tb_X15_begin E d mc ms)) cut G R T Z) (f : Nat) (L : ZLV) (st : List Value) (σ : ZHp) (n k w : Nat) : Z (f + 1) 99 L st σ n k w = s_aastoreA E 100 L st σ n k w (zk1 cut G (Z f)) G R T := zrs hZ rfl f L st σ n k w
theorem f_X15_begin_100 (hZ : ZRN (ztb (tb_X15_begin E d mc ms)) cut G R T Z) (f : Nat) (L : ZLV) (st : List Value) (σ : ZHp) (n k w : Nat) : Z (f + 1) 100 L st σ n k w = s_dup 101 L st σ n k w (zk1 cut G (Z f)) G R T := zrs hZ rfl f L st σ n k w
theorem f_X15_begin_101 (hZ : ZRN (ztb (tb_X15_begin E d mc ms)) cut G R T Z) (f : Nat) (L : ZLV) (st : List Value) (σ : ZHp) (n k w : Nat) : Z (f + 1) 101 L st σ n k w = s_const (.int (5)) 102 L st σ n k w (zk1 cut G (Z f)) G R T := zrs hZ rfl f L st σ n k w
theorem f_X15_begin_102 (hZ : ZRN (ztb (tb_X15_begin E d mc ms)) cut G R T Z) (f : Nat) (L : ZLV) (st : List Value) (σ : ZHp) (n k w : Nat) : Z (f + 1) 102 L st σ n k w = s_aload 0 103 L st σ n k w (zk1 cut G (Z f)) G R T := zrs hZ rfl f L st σ n k w
theorem f_X15_begin_103 (hZ : ZRN (ztb (tb_X15_begin E d mc ms)) cut G R T Z) (f : Nat) (L : ZLV) (st : List Value) (σ : ZHp) (n k w : Nat) : Z (f + 1) 103 L st σ n k w = s_getf 14 7 106 L st σ n k w (zk1 cut G (Z f)) G R T := zrs hZ rfl f L st σ n k w
theorem f_X15_begin_106 (hZ : ZRN (ztb (tb_X15_begin E d mc ms)) cut G R T Z) (f : Nat) (L : ZLV) (st : List Value) (σ : ZHp) (n k w : Nat) : Z (f + 1) 106 L st σ n k w = s_getf 13 12 109 L st σ n k w (zk1 cut G (Z f)) G R T := zrs hZ rfl f L st σ n k w
theorem f_X15_begin_109 (hZ : ZRN (ztb (tb_X15_begin E d mc ms)) cut G R T Z) (f : Nat) (L : ZLV) (st : List Value) (σ : ZHp) (n k w : Nat) : Z (f + 1) 109 L st σ n k w = s_aastoreA E 110 L st σ n k w (zk1 cut G (Z f)) G R T := zrs hZ rfl f L st σ n k w
theorem f_X15_begin_110 (hZ : ZRN (ztb (tb_X15_begin E d mc ms)) cut G R T Z) (f : Nat) (L : ZLV) (st : List Value) (σ : ZHp) (n k w : Nat) : Z (f + 1) 110 L st σ n k w = s_dup 111 L st σ n k w (zk1 cut G (Z f)) G R T := zrs hZ rfl f L st σ n k w
theorem f_X15_begin_111 (hZ : ZRN (ztb (tb_X15_begin E d mc ms)) cut G R T Z) (f : Nat) (L : ZLV) (st : List Value) (σ : ZHp) (n k w : Nat) : Z (f + 1) 111 L st σ n k w = s_const (.int (6)) 113 L st σ n k w (zk1 cut G (Z f)) G R T := zrs hZ rfl f L st σ n k w
theorem f_X15_begin_113 (hZ : ZRN (ztb (tb_X15_begin E d mc ms)) cut G R T Z) (f : Nat) (L : ZLV) (st : List Value) (σ : ZHp) (n k w : Nat) : Z (f + 1) 113 L st σ n k w = s_aload 0 114 L st σ n k w (zk1 cut G (Z f)) G R T := zrs hZ rfl f L st σ n k w
theorem f_X15_begin_114 (hZ : ZRN (ztb (tb_X15_begin E d mc ms)) cut G R T Z) (f : Nat) (L : ZLV) (st : List Value) (σ : ZHp) (n k w : Nat) : Z (f + 1) 114 L st σ n k w = s_getf 14 7 117 L st σ n k w (zk1 cut G (Z f)) G R T := zrs hZ rfl f L st σ n k w
theorem f_X15_begin_117 (hZ : ZRN (ztb (tb_X15_begin E d mc ms)) cut G R T Z) (f : Nat) (L : ZLV) (st : List Value) (σ : ZHp) (n k w : Nat) : Z (f + 1) 117 L st σ n k w = s_getf 13 13 120 L st σ n k w (zk1 cut G (Z f)) G R T := zrs hZ rfl f L st σ n k w
theorem f_X15_begin_120 (hZ : ZRN (ztb (tb_X15_begin E d mc ms)) cut G R T Z) (f : Nat) (L : ZLV) (st : List Value) (σ : ZHp) (n k w : Nat) : Z (f + 1) 120 L st σ n k w = s_aastoreA E 121 L st σ n k w (zk1 cut G (Z f)) G R T := zrs hZ rfl f L st σ n k w
theorem f_X15_begin_121 (hZ : ZRN (ztb (tb_X15_begin E d mc ms)) cut G R T Z) (f : Nat) (L : ZLV) (st : List Value) (σ : ZHp) (n k w : Nat) : Z (f + 1) 121 L st σ n k w = s_dup 122 L st σ n k w (zk1 cut G (Z f)) G R T := zrs hZ rfl f L st σ n k w
theorem f_X15_begin_122 (hZ : ZRN (ztb (tb_X15_begin E d mc ms)) cut G R T Z) (f : Nat) (L : ZLV) (st : List Value) (σ : ZHp) (n k w : Nat) : Z (f + 1) 122 L st σ n k w = s_const (.int (7)) 124 L st σ n k w (zk1 cut G (Z f)) G R T := zrs hZ rfl f L st σ n k w
theorem f_X15_begin_124 (hZ : ZRN (ztb (tb_X15_begin E d mc ms)) cut G R T Z) (f : Nat) (L : ZLV) (st : List Value) (σ : ZHp) (n k w : Nat) : Z (f + 1) 124 L st σ n k w = s_aload 0 125 L st σ n k w (zk1 cut G (Z f)) G R T := zrs hZ rfl f L st σ n k w
theorem f_X15_begin_125 (hZ : ZRN (ztb (tb_X15_begin E d mc ms)) cut G R T Z) (f : Nat) (L : ZLV) (st : List Value) (σ : ZHp) (n k w : Nat) : Z (f + 1) 125 L st σ n k w = s_getf 14 7 128 L st σ n k w (zk1 cut G (Z f)) G R T := zrs hZ rfl f L st σ n k w
theorem f_X15_begin_128 (hZ : ZRN (ztb (tb_X15_begin E d mc ms)) cut G R T Z) (f : Nat) (L : ZLV) (st : List Value) (σ : ZHp) (n k w : Nat) : Z (f + 1) 128 L st σ n k w = s_getf 13 14 131 L st σ n k w (zk1 cut G (Z f)) G R T := zrs hZ rfl f L st σ n k w
theorem f_X15_begin_131 (hZ : ZRN (ztb (tb_X15_begin E d mc ms)) cut G R T Z) (f : Nat) (L : ZLV) (st : List Value) (σ : ZHp) (n k w : Nat) : Z (f + 1) 131 L st σ n k w = s_aastoreA E 132 L st σ n k w (zk1 cut G (Z f)) G R T := zrs hZ rfl f L st σ n k w
theorem f_X15_begin_132 (hZ : ZRN (ztb (tb_X15_begin E d mc ms)) cut G R T Z) (f : Nat) (L : ZLV) (st : List Value) (σ : ZHp) (n k w : Nat) : Z (f + 1) 132 L st σ n k w = s_astore 1 133 L st σ n k w (zk1 cut G (Z f)) G R T := zrs hZ rfl f L st σ n k w
theorem f_X15_begin_133 (hZ : ZRN (ztb (tb_X15_begin E d mc ms)) cut G R T Z) (f : Nat) (L : ZLV) (st : List Value) (σ : ZHp) (n k w : Nat) : Z (f + 1) 133 L st σ n k w = s_aload 1 134 L st σ n k w (zk1 cut G (Z f)) G R T := zrs hZ rfl f L st σ n k w
theorem f_X15_begin_134 (hZ : ZRN (ztb (tb_X15_begin E d mc ms)) cut G R T Z) (f : Nat) (L : ZLV) (st : List Value) (σ : ZHp) (n k w : Nat) : Z (f + 1) 134 L st σ n k w = s_astore 2 135 L st σ n k w (zk1 cut G (Z f)) G R T := zrs hZ rfl f L st σ n k w
theorem f_X15_begin_135 (hZ : ZRN (ztb (tb_X15_begin E d mc ms)) cut G R T Z) (f : Nat) (L : ZLV) (st : List Value) (σ : ZHp) (n k w : Nat) : Z (f + 1) 135 L st σ n k w = s_aload 2 136 L st σ n k w (zk1 cut G (Z f)) G R T := zrs hZ rfl f L st σ n k w
theorem f_X15_begin_136 (hZ : ZRN (ztb (tb_X15_begin E d mc ms)) cut G R T Z) (f : Nat) (L : ZLV) (st : List Value) (σ : ZHp) (n k w : Nat) : Z (f + 1) 136 L st σ n k w = s_alen E 137 L st σ n k w (zk1 cut G (Z f)) G R T := zrs hZ rfl f L st σ n k w
theorem f_X15_begin_137 (hZ : ZRN (ztb (tb_X15_begin E d mc ms)) cut G R T Z) (f : Nat) (L : ZLV) (st : List Value) (σ : ZHp) (n k w : Nat) : Z (f + 1) 137 L st σ n k w = s_istore 3 138 L st σ n k w (zk1 cut G (Z f)) G R T := zrs hZ rfl f L st σ n k w
theorem f_X15_begin_138 (hZ : ZRN (ztb (tb_X15_begin E d mc ms)) cut G R T Z) (f : Nat) (L : ZLV) (st : List Value) (σ : ZHp) (n k w : Nat) : Z (f + 1) 138 L st σ n k w = s_const (.int (0)) 139 L st σ n k w (zk1 cut G (Z f)) G R T := zrs hZ rfl f L st σ n k w
theorem f_X15_begin_139 (hZ : ZRN (ztb (tb_X15_begin E d mc ms)) cut G R T Z) (f : Nat) (L : ZLV) (st : List Value) (σ : ZHp) (n k w : Nat) : Z (f + 1) 139 L st σ n k w = s_istore 4 141 L st σ n k w (zk1 cut G (Z f)) G R T := zrs hZ rfl f L st σ n k w
theorem f_X15_begin_141 (hZ : ZRN (ztb (tb_X15_begin E d mc ms)) cut G R T Z) (f : Nat) (L : ZLV) (st : List Value) (σ : ZHp) (n k w : Nat) : Z (f + 1) 141 L st σ n k w = s_iload 4 143 L st σ n k w (zk1 cut G (Z f)) G R T := zrs hZ rfl f L st σ n k w
theorem f_X15_begin_143 (hZ : ZRN (ztb (tb_X15_begin E d mc ms)) cut G R T Z) (f : Nat) (L : ZLV) (st : List Value) (σ : ZHp) (n k w : Nat) : Z (f + 1) 143 L st σ n k w = s_iload 3 144 L st σ n k w (zk1 cut G (Z f)) G R T := zrs hZ rfl f L st σ n k w
theorem f_X15_begin_144 (hZ : ZRN (ztb (tb_X15_begin E d mc ms)) cut G R T Z) (f : Nat) (L : ZLV) (st : List Value) (σ : ZHp) (n k w : Nat) : Z (f + 1) 144 L st σ n k w = s_icmp_ge 165 147 L st σ n k w (zk1 cut G (Z f)) G R T := zrs hZ rfl f L st σ n k w
theorem f_X15_begin_147 (hZ : ZRN (ztb (tb_X15_begin E d mc ms)) cut G R T Z) (f : Nat) (L : ZLV) (st : List Value) (σ : ZHp) (n k w : Nat) : Z (f + 1) 147 L st σ n k w = s_aload 2 148 L st σ n k w (zk1 cut G (Z f)) G R T := zrs hZ rfl f L st σ n k w
theorem f_X15_begin_148 (hZ : ZRN (ztb (tb_X15_begin E d mc ms)) cut G R T Z) (f : Nat) (L : ZLV) (st : List Value) (σ : ZHp) (n k w : Nat) : Z (f + 1) 148 L st σ n k w = s_iload 4 150 L st σ n k w (zk1 cut G (Z f)) G R T := zrs hZ rfl f L st σ n k w
theorem f_X15_begin_150 (hZ : ZRN (ztb (tb_X15_begin E d mc ms)) cut G R T Z) (f : Nat) (L : ZLV) (st : List Value) (σ : ZHp) (n k w : Nat) : Z (f + 1) 150 L st σ n k w = s_aaload E 151 L st σ n k w (zk1 cut G (Z f)) G R T := zrs hZ rfl f L st σ n k w
theorem f_X15_begin_151 (hZ : ZRN (ztb (tb_X15_begin E d mc ms)) cut G R T Z) (f : Nat) (L : ZLV) (st : List Value) (σ : ZHp) (n k w : Nat) : Z (f + 1) 151 L st σ n k w = s_astore 5 153 L st σ n k w (zk1 cut G (Z f)) G R T := zrs hZ rfl f L st σ n k w
theorem f_X15_begin_153 (hZ : ZRN (ztb (tb_X15_begin E d mc ms)) cut G R T Z) (f : Nat) (L : ZLV) (st : List Value) (σ : ZHp) (n k w : Nat) : Z (f + 1) 153 L st σ n k w = s_aload 5 155 L st σ n k w (zk1 cut G (Z f)) G R T := zrs hZ rfl f L st σ n k w
theorem f_X15_begin_155 (hZ : ZRN (ztb (tb_X15_begin E d mc ms)) cut G R T Z) (f : Nat) (L : ZLV) (st : List Value) (σ : ZHp) (n k w : Nat) : Z (f + 1) 155 L st σ n k w = s_const (.int (0)) 156 L st σ n k w (zk1 cut G (Z f)) G R T := zrs hZ rfl f L st σ n k w
theorem f_X15_begin_156 (hZ : ZRN (ztb (tb_X15_begin E d mc ms)) cut G R T Z) (f : Nat) (L : ZLV) (st : List Value) (σ : ZHp) (n k w : Nat) : Z (f + 1) 156 L st σ n k w = s_callS E d mc ms MX15_fill 2 159 L st σ n k w (zk1 cut G (Z f)) G R T := zrs hZ rfl f L st σ n k w
theorem f_X15_begin_159 (hZ : ZRN (ztb (tb_X15_begin E d mc ms)) cut G R T Z) (f : Nat) (L : ZLV) (st : List Value) (σ : ZHp) (n k w : Nat) : Z (f + 1) 159 L st σ n k w = s_iinc 4 (1) 162 L st σ n k w (zk1 cut G (Z f)) G R T := zrs hZ rfl f L st σ n k w
theorem f_X15_begin_162 (hZ : ZRN (ztb (tb_X15_begin E d mc ms)) cut G R T Z) (f : Nat) (L : ZLV) (st : List Value) (σ : ZHp) (n k w : Nat) : Z (f + 1) 162 L st σ n k w = s_goto 141 L st σ n k w (zk1 cut G (Z f)) G R T := zrs hZ rfl f L st σ n k w
theorem f_X15_begin_165 (hZ : ZRN (ztb (tb_X15_begin E d mc ms)) cut G R T Z) (f : Nat) (L : ZLV) (st : List Value) (σ : ZHp) (n k w : Nat) : Z (f + 1) 165 L st σ n k w = s_const (.int (0)) 166 L st σ n k w (zk1 cut G (Z f)) G R T := zrs hZ rfl f L st σ n k w
theorem f_X15_begin_166 (hZ : ZRN (ztb (tb_X15_begin E d mc ms)) cut G R T Z) (f : Nat) (L : ZLV) (st : List Value) (σ : ZHp) (n k w : Nat) : Z (f + 1) 166 L st σ n k w = s_istore 2 167 L st σ n k w (zk1 cut G (Z f)) G R T := zrs hZ rfl f L st σ n k w
theorem f_X15_begin_167 (hZ : ZRN (ztb (tb_X15_begin E d mc ms)) cut G R T Z) (f : Nat) (L : ZLV) (st : List Value) (σ : ZHp) (n k w : Nat) : Z (f + 1) 167 L st σ n k w = s_iload 2 168 L st σ n k w (zk1 cut G (Z f)) G R T := zrs hZ rfl f L st σ n k w
theorem f_X15_begin_168 (hZ : ZRN (ztb (tb_X15_begin E d mc ms)) cut G R T Z) (f : Nat) (L : ZLV) (st : List Value) (σ : ZHp) (n k w : Nat) : Z (f + 1) 168 L st σ n k w = s_aload 0 169 L st σ n k w (zk1 cut G (Z f)) G R T := zrs hZ rfl f L st σ n k w
theorem f_X15_begin_169 (hZ : ZRN (ztb (tb_X15_begin E d mc ms)) cut G R T Z) (f : Nat) (L : ZLV) (st : List Value) (σ : ZHp) (n k w : Nat) : Z (f + 1) 169 L st σ n k w = s_getf 14 6 172 L st σ n k w (zk1 cut G (Z f)) G R T := zrs hZ rfl f L st σ n k w
theorem f_X15_begin_172 (hZ : ZRN (ztb (tb_X15_begin E d mc ms)) cut G R T Z) (f : Nat) (L : ZLV) (st : List Value) (σ : ZHp) (n k w : Nat) : Z (f + 1) 172 L st σ n k w = s_getf 12 12 175 L st σ n k w (zk1 cut G (Z f)) G R T := zrs hZ rfl f L st σ n k w
theorem f_X15_begin_175 (hZ : ZRN (ztb (tb_X15_begin E d mc ms)) cut G R T Z) (f : Nat) (L : ZLV) (st : List Value) (σ : ZHp) (n k w : Nat) : Z (f + 1) 175 L st σ n k w = s_icmp_ge 235 178 L st σ n k w (zk1 cut G (Z f)) G R T := zrs hZ rfl f L st σ n k w
theorem f_X15_begin_178 (hZ : ZRN (ztb (tb_X15_begin E d mc ms)) cut G R T Z) (f : Nat) (L : ZLV) (st : List Value) (σ : ZHp) (n k w : Nat) : Z (f + 1) 178 L st σ n k w = s_aload 0 179 L st σ n k w (zk1 cut G (Z f)) G R T := zrs hZ rfl f L st σ n k w
theorem f_X15_begin_179 (hZ : ZRN (ztb (tb_X15_begin E d mc ms)) cut G R T Z) (f : Nat) (L : ZLV) (st : List Value) (σ : ZHp) (n k w : Nat) : Z (f + 1) 179 L st σ n k w = s_getf 14 7 182 L st σ n k w (zk1 cut G (Z f)) G R T := zrs hZ rfl f L st σ n k w
theorem f_X15_begin_182 (hZ : ZRN (ztb (tb_X15_begin E d mc ms)) cut G R T Z) (f : Nat) (L : ZLV) (st : List Value) (σ : ZHp) (n k w : Nat) : Z (f + 1) 182 L st σ n k w = s_getf 13 10 185 L st σ n k w (zk1 cut G (Z f)) G R T := zrs hZ rfl f L st σ n k w
theorem f_X15_begin_185 (hZ : ZRN (ztb (tb_X15_begin E d mc ms)) cut G R T Z) (f : Nat) (L : ZLV) (st : List Value) (σ : ZHp) (n k w : Nat) : Z (f + 1) 185 L st σ n k w = s_iload 2 186 L st σ n k w (zk1 cut G (Z f)) G R T := zrs hZ rfl f L st σ n k w
theorem f_X15_begin_186 (hZ : ZRN (ztb (tb_X15_begin E d mc ms)) cut G R T Z) (f : Nat) (L : ZLV) (st : List Value) (σ : ZHp) (n k w : Nat) : Z (f + 1) 186 L st σ n k w = s_const (.int (7)) 188 L st σ n k w (zk1 cut G (Z f)) G R T := zrs hZ rfl f L st σ n k w
theorem f_X15_begin_188 (hZ : ZRN (ztb (tb_X15_begin E d mc ms)) cut G R T Z) (f : Nat) (L : ZLV) (st : List Value) (σ : ZHp) (n k w : Nat) : Z (f + 1) 188 L st σ n k w = s_iload 2 189 L st σ n k w (zk1 cut G (Z f)) G R T := zrs hZ rfl f L st σ n k w
theorem f_X15_begin_189 (hZ : ZRN (ztb (tb_X15_begin E d mc ms)) cut G R T Z) (f : Nat) (L : ZLV) (st : List Value) (σ : ZHp) (n k w : Nat) : Z (f + 1) 189 L st σ n k w = s_imul 190 L st σ n k w (zk1 cut G (Z f)) G R T := zrs hZ rfl f L st σ n k w
theorem f_X15_begin_190 (hZ : ZRN (ztb (tb_X15_begin E d mc ms)) cut G R T Z) (f : Nat) (L : ZLV) (st : List Value) (σ : ZHp) (n k w : Nat) : Z (f + 1) 190 L st σ n k w = s_const (.int (1)) 191 L st σ n k w (zk1 cut G (Z f)) G R T := zrs hZ rfl f L st σ n k w
theorem f_X15_begin_191 (hZ : ZRN (ztb (tb_X15_begin E d mc ms)) cut G R T Z) (f : Nat) (L : ZLV) (st : List Value) (σ : ZHp) (n k w : Nat) : Z (f + 1) 191 L st σ n k w = s_iadd 192 L st σ n k w (zk1 cut G (Z f)) G R T := zrs hZ rfl f L st σ n k w
theorem f_X15_begin_192 (hZ : ZRN (ztb (tb_X15_begin E d mc ms)) cut G R T Z) (f : Nat) (L : ZLV) (st : List Value) (σ : ZHp) (n k w : Nat) : Z (f + 1) 192 L st σ n k w = s_iastore E 193 L st σ n k w (zk1 cut G (Z f)) G R T := zrs hZ rfl f L st σ n k w
theorem f_X15_begin_193 (hZ : ZRN (ztb (tb_X15_begin E d mc ms)) cut G R T Z) (f : Nat) (L : ZLV) (st : List Value) (σ : ZHp) (n k w : Nat) : Z (f + 1) 193 L st σ n k w = s_const (.int (0)) 194 L st σ n k w (zk1 cut G (Z f)) G R T := zrs hZ rfl f L st σ n k w
theorem f_X15_begin_194 (hZ : ZRN (ztb (tb_X15_begin E d mc ms)) cut G R T Z) (f : Nat) (L : ZLV) (st : List Value) (σ : ZHp) (n k w : Nat) : Z (f + 1) 194 L st σ n k w = s_istore 3 195 L st σ n k w (zk1 cut G (Z f)) G R T := zrs hZ rfl f L st σ n k w
theorem f_X15_begin_195 (hZ : ZRN (ztb (tb_X15_begin E d mc ms)) cut G R T Z) (f : Nat) (L : ZLV) (st : List Value) (σ : ZHp) (n k w : Nat) : Z (f + 1) 195 L st σ n k w = s_iload 3 196 L st σ n k w (zk1 cut G (Z f)) G R T := zrs hZ rfl f L st σ n k w
theorem f_X15_begin_196 (hZ : ZRN (ztb (tb_X15_begin E d mc ms)) cut G R T Z) (f : Nat) (L : ZLV) (st : List Value) (σ : ZHp) (n k w : Nat) : Z (f + 1) 196 L st σ n k w = s_aload 0 197 L st σ n k w (zk1 cut G (Z f)) G R T := zrs hZ rfl f L st σ n k w
theorem f_X15_begin_197 (hZ : ZRN (ztb (tb_X15_begin E d mc ms)) cut G R T Z) (f : Nat) (L : ZLV) (st : List Value) (σ : ZHp) (n k w : Nat) : Z (f + 1) 197 L st σ n k w = s_getf 14 6 200 L st σ n k w (zk1 cut G (Z f)) G R T := zrs hZ rfl f L st σ n k w
theorem f_X15_begin_200 (hZ : ZRN (ztb (tb_X15_begin E d mc ms)) cut G R T Z) (f : Nat) (L : ZLV) (st : List Value) (σ : ZHp) (n k w : Nat) : Z (f + 1) 200 L st σ n k w = s_getf 12 14 203 L st σ n k w (zk1 cut G (Z f)) G R T := zrs hZ rfl f L st σ n k w
theorem f_X15_begin_203 (hZ : ZRN (ztb (tb_X15_begin E d mc ms)) cut G R T Z) (f : Nat) (L : ZLV) (st : List Value) (σ : ZHp) (n k w : Nat) : Z (f + 1) 203 L st σ n k w = s_icmp_ge 229 206 L st σ n k w (zk1 cut G (Z f)) G R T := zrs hZ rfl f L st σ n k w
theorem f_X15_begin_206 (hZ : ZRN (ztb (tb_X15_begin E d mc ms)) cut G R T Z) (f : Nat) (L : ZLV) (st : List Value) (σ : ZHp) (n k w : Nat) : Z (f + 1) 206 L st σ n k w = s_aload 0 207 L st σ n k w (zk1 cut G (Z f)) G R T := zrs hZ rfl f L st σ n k w
theorem f_X15_begin_207 (hZ : ZRN (ztb (tb_X15_begin E d mc ms)) cut G R T Z) (f : Nat) (L : ZLV) (st : List Value) (σ : ZHp) (n k w : Nat) : Z (f + 1) 207 L st σ n k w = s_getf 14 7 210 L st σ n k w (zk1 cut G (Z f)) G R T := zrs hZ rfl f L st σ n k w
theorem f_X15_begin_210 (hZ : ZRN (ztb (tb_X15_begin E d mc ms)) cut G R T Z) (f : Nat) (L : ZLV) (st : List Value) (σ : ZHp) (n k w : Nat) : Z (f + 1) 210 L st σ n k w = s_iload 2 211 L st σ n k w (zk1 cut G (Z f)) G R T := zrs hZ rfl f L st σ n k w
theorem f_X15_begin_211 (hZ : ZRN (ztb (tb_X15_begin E d mc ms)) cut G R T Z) (f : Nat) (L : ZLV) (st : List Value) (σ : ZHp) (n k w : Nat) : Z (f + 1) 211 L st σ n k w = s_aload 0 212 L st σ n k w (zk1 cut G (Z f)) G R T := zrs hZ rfl f L st σ n k w
theorem f_X15_begin_212 (hZ : ZRN (ztb (tb_X15_begin E d mc ms)) cut G R T Z) (f : Nat) (L : ZLV) (st : List Value) (σ : ZHp) (n k w : Nat) : Z (f + 1) 212 L st σ n k w = s_getf 14 6 215 L st σ n k w (zk1 cut G (Z f)) G R T := zrs hZ rfl f L st σ n k w
theorem f_X15_begin_215 (hZ : ZRN (ztb (tb_X15_begin E d mc ms)) cut G R T Z) (f : Nat) (L : ZLV) (st : List Value) (σ : ZHp) (n k w : Nat) : Z (f + 1) 215 L st σ n k w = s_getf 12 15 218 L st σ n k w (zk1 cut G (Z f)) G R T := zrs hZ rfl f L st σ n k w
theorem f_X15_begin_218 (hZ : ZRN (ztb (tb_X15_begin E d mc ms)) cut G R T Z) (f : Nat) (L : ZLV) (st : List Value) (σ : ZHp) (n k w : Nat) : Z (f + 1) 218 L st σ n k w = s_iload 3 219 L st σ n k w (zk1 cut G (Z f)) G R T := zrs hZ rfl f L st σ n k w
theorem f_X15_begin_219 (hZ : ZRN (ztb (tb_X15_begin E d mc ms)) cut G R T Z) (f : Nat) (L : ZLV) (st : List Value) (σ : ZHp) (n k w : Nat) : Z (f + 1) 219 L st σ n k w = s_iaload E 220 L st σ n k w (zk1 cut G (Z f)) G R T := zrs hZ rfl f L st σ n k w
theorem f_X15_begin_220 (hZ : ZRN (ztb (tb_X15_begin E d mc ms)) cut G R T Z) (f : Nat) (L : ZLV) (st : List Value) (σ : ZHp) (n k w : Nat) : Z (f + 1) 220 L st σ n k w = s_callV E d mc ms 13 MX14_discard 2 223 L st σ n k w (zk1 cut G (Z f)) G R T := zrs hZ rfl f L st σ n k w
theorem f_X15_begin_223 (hZ : ZRN (ztb (tb_X15_begin E d mc ms)) cut G R T Z) (f : Nat) (L : ZLV) (st : List Value) (σ : ZHp) (n k w : Nat) : Z (f + 1) 223 L st σ n k w = s_iinc 3 (1) 226 L st σ n k w (zk1 cut G (Z f)) G R T := zrs hZ rfl f L st σ n k w
theorem f_X15_begin_226 (hZ : ZRN (ztb (tb_X15_begin E d mc ms)) cut G R T Z) (f : Nat) (L : ZLV) (st : List Value) (σ : ZHp) (n k w : Nat) : Z (f + 1) 226 L st σ n k w = s_goto 195 L st σ n k w (zk1 cut G (Z f)) G R T := zrs hZ rfl f L st σ n k w
theorem f_X15_begin_229 (hZ : ZRN (ztb (tb_X15_begin E d mc ms)) cut G R T Z) (f : Nat) (L : ZLV) (st : List Value) (σ : ZHp) (n k w : Nat) : Z (f + 1) 229 L st σ n k w = s_iinc 2 (1) 232 L st σ n k w (zk1 cut G (Z f)) G R T := zrs hZ rfl f L st σ n k w
theorem f_X15_begin_232 (hZ : ZRN (ztb (tb_X15_begin E d mc ms)) cut G R T Z) (f : Nat) (L : ZLV) (st : List Value) (σ : ZHp) (n k w : Nat) : Z (f + 1) 232 L st σ n k w = s_goto 167 L st σ n k w (zk1 cut G (Z f)) G R T := zrs hZ rfl f L st σ n k w
theorem f_X15_begin_235 (hZ : ZRN (ztb (tb_X15_begin E d mc ms)) cut G R T Z) (f : Nat) (L : ZLV) (st : List Value) (σ : ZHp) (n k w : Nat) : Z (f + 1) 235 L st σ n k w = s_return L st σ n k w (zk1 cut G (Z f)) G R T := zrs hZ rfl f L st σ n k w
theorem f_X15_teach_0 (hZ : ZRN (ztb (tb_X15_teach E d mc ms)) cut G R T Z) (f : Nat) (L : ZLV) (st : List Value) (σ : ZHp) (n k w : Nat) : Z (f + 1) 0 L st σ n k w = s_aload 0 1 L st σ n k w (zk1 cut G (Z f)) G R T := zrs hZ rfl f L st σ n k w
theorem f_X15_teach_1 (hZ : ZRN (ztb (tb_X15_teach E d mc ms)) cut G R T Z) (f : Nat) (L : ZLV) (st : List Value) (σ : ZHp) (n k w : Nat) : Z (f + 1) 1 L st σ n k w = s_const (.int (0)) 2 L st σ n k w (zk1 cut G (Z f)) G R T := zrs hZ rfl f L st σ n k w
theorem f_X15_teach_2 (hZ : ZRN (ztb (tb_X15_teach E d mc ms)) cut G R T Z) (f : Nat) (L : ZLV) (st : List Value) (σ : ZHp) (n k w : Nat) : Z (f + 1) 2 L st σ n k w = s_putf 14 0 0 5 L st σ n k w (zk1 cut G (Z f)) G R T := zrs hZ rfl f L st σ n k w
theorem f_X15_teach_5 (hZ : ZRN (ztb (tb_X15_teach E d mc ms)) cut G R T Z) (f : Nat) (L : ZLV) (st : List Value) (σ : ZHp) (n k w : Nat) : Z (f + 1) 5 L st σ n k w = s_aload 0 6 L st σ n k w (zk1 cut G (Z f)) G R T := zrs hZ rfl f L st σ n k w
theorem f_X15_teach_6 (hZ : ZRN (ztb (tb_X15_teach E d mc ms)) cut G R T Z) (f : Nat) (L : ZLV) (st : List Value) (σ : ZHp) (n k w : Nat) : Z (f + 1) 6 L st σ n k w = s_const (.int (-1)) 7 L st σ n k w (zk1 cut G (Z f)) G R T := zrs hZ rfl f L st σ n k w
theorem f_X15_teach_7 (hZ : ZRN (ztb (tb_X15_teach E d mc ms)) cut G R T Z) (f : Nat) (L : ZLV) (st : List Value) (σ : ZHp) (n k w : Nat) : Z (f + 1) 7 L st σ n k w = s_putf 14 3 0 10 L st σ n k w (zk1 cut G (Z f)) G R T := zrs hZ rfl f L st σ n k w
theorem f_X15_teach_10 (hZ : ZRN (ztb (tb_X15_teach E d mc ms)) cut G R T Z) (f : Nat) (L : ZLV) (st : List Value) (σ : ZHp) (n k w : Nat) : Z (f + 1) 10 L st σ n k w = s_new 12 21 fsX13 mc ms 13 L st σ n k w (zk1 cut G (Z f)) G R T := zrs hZ rfl f L st σ n k w
theorem f_X15_teach_13 (hZ : ZRN (ztb (tb_X15_teach E d mc ms)) cut G R T Z) (f : Nat) (L : ZLV) (st : List Value) (σ : ZHp) (n k w : Nat) : Z (f + 1) 13 L st σ n k w = s_dup 14 L st σ n k w (zk1 cut G (Z f)) G R T := zrs hZ rfl f L st σ n k w
theorem f_X15_teach_14 (hZ : ZRN (ztb (tb_X15_teach E d mc ms)) cut G R T Z) (f : Nat) (L : ZLV) (st : List Value) (σ : ZHp) (n k w : Nat) : Z (f + 1) 14 L st σ n k w = s_callI E d mc ms MX13_init 0 17 L st σ n k w (zk1 cut G (Z f)) G R T := zrs hZ rfl f L st σ n k w
theorem f_X15_teach_17 (hZ : ZRN (ztb (tb_X15_teach E d mc ms)) cut G R T Z) (f : Nat) (L : ZLV) (st : List Value) (σ : ZHp) (n k w : Nat) : Z (f + 1) 17 L st σ n k w = s_astore 1 18 L st σ n k w (zk1 cut G (Z f)) G R T := zrs hZ rfl f L st σ n k w
theorem f_X15_teach_18 (hZ : ZRN (ztb (tb_X15_teach E d mc ms)) cut G R T Z) (f : Nat) (L : ZLV) (st : List Value) (σ : ZHp) (n k w : Nat) : Z (f + 1) 18 L st σ n k w = s_aload 0 19 L st σ n k w (zk1 cut G (Z f)) G R T := zrs hZ rfl f L st σ n k w
theorem f_X15_teach_19 (hZ : ZRN (ztb (tb_X15_teach E d mc ms)) cut G R T Z) (f : Nat) (L : ZLV) (st : List Value) (σ : ZHp) (n k w : Nat) : Z (f + 1) 19 L st σ n k w = s_aload 1 20 L st σ n k w (zk1 cut G (Z f)) G R T := zrs hZ rfl f L st σ n k w
theorem f_X15_teach_20 (hZ : ZRN (ztb (tb_X15_teach E d mc ms)) cut G R T Z) (f : Nat) (L : ZLV) (st : List Value) (σ : ZHp) (n k w : Nat) : Z (f + 1) 20 L st σ n k w = s_callV E d mc ms 14 MX15_read 1 23 L st σ n k w (zk1 cut G (Z f)) G R T := zrs hZ rfl f L st σ n k w
theorem f_X15_teach_23 (hZ : ZRN (ztb (tb_X15_teach E d mc ms)) cut G R T Z) (f : Nat) (L : ZLV) (st : List Value) (σ : ZHp) (n k w : Nat) : Z (f + 1) 23 L st σ n k w = s_istore 2 24 L st σ n k w (zk1 cut G (Z f)) G R T := zrs hZ rfl f L st σ n k w
theorem f_X15_teach_24 (hZ : ZRN (ztb (tb_X15_teach E d mc ms)) cut G R T Z) (f : Nat) (L : ZLV) (st : List Value) (σ : ZHp) (n k w : Nat) : Z (f + 1) 24 L st σ n k w = s_aload 0 25 L st σ n k w (zk1 cut G (Z f)) G R T := zrs hZ rfl f L st σ n k w
theorem f_X15_teach_25 (hZ : ZRN (ztb (tb_X15_teach E d mc ms)) cut G R T Z) (f : Nat) (L : ZLV) (st : List Value) (σ : ZHp) (n k w : Nat) : Z (f + 1) 25 L st σ n k w = s_const (.int (0)) 26 L st σ n k w (zk1 cut G (Z f)) G R T := zrs hZ rfl f L st σ n k w
theorem f_X15_teach_26 (hZ : ZRN (ztb (tb_X15_teach E d mc ms)) cut G R T Z) (f : Nat) (L : ZLV) (st : List Value) (σ : ZHp) (n k w : Nat) : Z (f + 1) 26 L st σ n k w = s_putf 14 2 0 29 L st σ n k w (zk1 cut G (Z f)) G R T := zrs hZ rfl f L st σ n k w
theorem f_X15_teach_29 (hZ : ZRN (ztb (tb_X15_teach E d mc ms)) cut G R T Z) (f : Nat) (L : ZLV) (st : List Value) (σ : ZHp) (n k w : Nat) : Z (f + 1) 29 L st σ n k w = s_iload 2 30 L st σ n k w (zk1 cut G (Z f)) G R T := zrs hZ rfl f L st σ n k w
theorem f_X15_teach_30 (hZ : ZRN (ztb (tb_X15_teach E d mc ms)) cut G R T Z) (f : Nat) (L : ZLV) (st : List Value) (σ : ZHp) (n k w : Nat) : Z (f + 1) 30 L st σ n k w = s_if_le 35 33 L st σ n k w (zk1 cut G (Z f)) G R T := zrs hZ rfl f L st σ n k w
theorem f_X15_teach_33 (hZ : ZRN (ztb (tb_X15_teach E d mc ms)) cut G R T Z) (f : Nat) (L : ZLV) (st : List Value) (σ : ZHp) (n k w : Nat) : Z (f + 1) 33 L st σ n k w = s_iload 2 34 L st σ n k w (zk1 cut G (Z f)) G R T := zrs hZ rfl f L st σ n k w
theorem f_X15_teach_34 (hZ : ZRN (ztb (tb_X15_teach E d mc ms)) cut G R T Z) (f : Nat) (L : ZLV) (st : List Value) (σ : ZHp) (n k w : Nat) : Z (f + 1) 34 L st σ n k w = s_ireturn L st σ n k w (zk1 cut G (Z f)) G R T := zrs hZ rfl f L st σ n k w
theorem f_X15_teach_35 (hZ : ZRN (ztb (tb_X15_teach E d mc ms)) cut G R T Z) (f : Nat) (L : ZLV) (st : List Value) (σ : ZHp) (n k w : Nat) : Z (f + 1) 35 L st σ n k w = s_aload 0 36 L st σ n k w (zk1 cut G (Z f)) G R T := zrs hZ rfl f L st σ n k w
theorem f_X15_teach_36 (hZ : ZRN (ztb (tb_X15_teach E d mc ms)) cut G R T Z) (f : Nat) (L : ZLV) (st : List Value) (σ : ZHp) (n k w : Nat) : Z (f + 1) 36 L st σ n k w = s_aload 1 37 L st σ n k w (zk1 cut G (Z f)) G R T := zrs hZ rfl f L st σ n k w
theorem f_X15_teach_37 (hZ : ZRN (ztb (tb_X15_teach E d mc ms)) cut G R T Z) (f : Nat) (L : ZLV) (st : List Value) (σ : ZHp) (n k w : Nat) : Z (f + 1) 37 L st σ n k w = s_putf 14 6 3 40 L st σ n k w (zk1 cut G (Z f)) G R T := zrs hZ rfl f L st σ n k w
theorem f_X15_teach_40 (hZ : ZRN (ztb (tb_X15_teach E d mc ms)) cut G R T Z) (f : Nat) (L : ZLV) (st : List Value) (σ : ZHp) (n k w : Nat) : Z (f + 1) 40 L st σ n k w = s_aload 0 41 L st σ n k w (zk1 cut G (Z f)) G R T := zrs hZ rfl f L st σ n k w
theorem f_X15_teach_41 (hZ : ZRN (ztb (tb_X15_teach E d mc ms)) cut G R T Z) (f : Nat) (L : ZLV) (st : List Value) (σ : ZHp) (n k w : Nat) : Z (f + 1) 41 L st σ n k w = s_callV E d mc ms 14 MX15_begin 0 44 L st σ n k w (zk1 cut G (Z f)) G R T := zrs hZ rfl f L st σ n k w
theorem f_X15_teach_44 (hZ : ZRN (ztb (tb_X15_teach E d mc ms)) cut G R T Z) (f : Nat) (L : ZLV) (st : List Value) (σ : ZHp) (n k w : Nat) : Z (f + 1) 44 L st σ n k w = s_const (.int (0)) 45 L st σ n k w (zk1 cut G (Z f)) G R T := zrs hZ rfl f L st σ n k w
theorem f_X15_teach_45 (hZ : ZRN (ztb (tb_X15_teach E d mc ms)) cut G R T Z) (f : Nat) (L : ZLV) (st : List Value) (σ : ZHp) (n k w : Nat) : Z (f + 1) 45 L st σ n k w = s_ireturn L st σ n k w (zk1 cut G (Z f)) G R T := zrs hZ rfl f L st σ n k w
end
