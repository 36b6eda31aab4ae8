/-! TABLES: what each instruction does, that it does so, and each one by its place (printed by wip/whole/gen/gentab.py) -/
def tb_X2_init (E : ZEX) (d mc ms : Nat) : List (Nat × ZStep) := [(0, s_aload 0 1), (1, s_objinit d 4), (4, s_aload 0 5), (5, s_new 3 7 fsX4 mc ms 8), (8, s_dup 9), (9, s_callI E d mc ms MX4_init 0 12), (12, s_putf 1 0 3 15), (15, s_aload 0 16), (16, s_new 4 2 fsX5 mc ms 19), (19, s_dup 20), (20, s_const (.int (60)) 22), (22, s_callI E d mc ms MX5_init 1 25), (25, s_putf 1 1 3 28), (28, s_aload 0 29), (29, s_new 4 2 fsX5 mc ms 32), (32, s_dup 33), (33, s_const (.int (10)) 35), (35, s_callI E d mc ms MX5_init 1 38), (38, s_putf 1 2 3 41), (41, s_aload 0 42), (42, s_new 4 2 fsX5 mc ms 45), (45, s_dup 46), (46, s_const (.int (400)) 49), (49, s_callI E d mc ms MX5_init 1 52), (52, s_putf 1 3 3 55), (55, s_aload 0 56), (56, s_new 10 10 fsX11 mc ms 59), (59, s_dup 60), (60, s_callI E d mc ms MX11_init 0 63), (63, s_putf 1 4 3 66), (66, s_aload 0 67), (67, s_const (.int (0)) 68), (68, s_putf 1 5 0 71), (71, s_aload 0 72), (72, s_const (.int (0)) 73), (73, s_putf 1 6 0 76), (76, s_aload 0 77), (77, s_const (.int (0)) 78), (78, s_putf 1 7 0 81), (81, s_aload 0 82), (82, s_const (.int (0)) 83), (83, s_putf 1 8 0 86), (86, s_aload 0 87), (87, s_const (.int (0)) 88), (88, s_putf 1 9 0 91), (91, s_aload 0 92), (92, s_const (.int (0)) 93), (93, s_putf 1 10 0 96), (96, s_return)]
set_option maxRecDepth 20000 in
theorem ok_X2_init {E : ZEX} {X : ZMX} {d mc ms : Nat} {P : ZPT} {T : ZTT} (h : ZCX E X MX2_init d mc ms P T) : ∀ pc, ZRow E X MX2_init mc ms P T pc (ztb (tb_X2_init E d mc ms) pc) := ztb_ok (by
  unfold tb_X2_init
  refine zfmc (r_aload_n h (pc := 0) (kf := 0) 0 (by decide +kernel) rfl) ?_
  refine zfmc (r_objinit h (pc := 1) (ix := 3) (by decide +kernel) wk_ba50acb09d wk_ee0d472f0f wk_13171937f3) ?_
  refine zfmc (r_aload_n h (pc := 4) (kf := 0) 0 (by decide +kernel) rfl) ?_
  refine zfmc (r_new h (pc := 5) (ix := 9) (by decide +kernel) ckX4 fsX4 tyX4 tyX4_ok fsX4_ok wk_55122b847b wk_5386822b14 wk_857d4479e6) ?_
  refine zfmc (r_dup h (pc := 8) (by decide +kernel)) ?_
  refine zfmc (r_callI h (pc := 9) (ix := 11) (by decide +kernel) 0 mcX4_init wk_be5edff26e rfl rfl wk_77ca2daa3c) ?_
  refine zfmc (r_putfF h (pc := 12) (ix := 12) (by decide +kernel) ckX2 0 (by decide) 3 (fty := tyX2 0) (tyX2_ok 0 (by decide)) rfl rfl rfl rfl wk_6445df9d3b) ?_
  refine zfmc (r_aload_n h (pc := 15) (kf := 0) 0 (by decide +kernel) rfl) ?_
  refine zfmc (r_new h (pc := 16) (ix := 18) (by decide +kernel) ckX5 fsX5 tyX5 tyX5_ok fsX5_ok wk_2ed9b3fbf0 wk_17139636bc wk_1cd044b3d8) ?_
  refine zfmc (r_dup h (pc := 19) (by decide +kernel)) ?_
  refine zfmc (r_bipush h (pc := 20) (z := 60) (by decide +kernel) (60) (by decide +kernel)) ?_
  refine zfmc (r_callI h (pc := 22) (ix := 20) (by decide +kernel) 1 mcX5_init wk_ed7131bba4 rfl rfl wk_1c97d1cb94) ?_
  refine zfmc (r_putfF h (pc := 25) (ix := 23) (by decide +kernel) ckX2 1 (by decide) 3 (fty := tyX2 1) (tyX2_ok 1 (by decide)) rfl rfl rfl rfl wk_6bb8abc6ae) ?_
  refine zfmc (r_aload_n h (pc := 28) (kf := 0) 0 (by decide +kernel) rfl) ?_
  refine zfmc (r_new h (pc := 29) (ix := 18) (by decide +kernel) ckX5 fsX5 tyX5 tyX5_ok fsX5_ok wk_2ed9b3fbf0 wk_17139636bc wk_1cd044b3d8) ?_
  refine zfmc (r_dup h (pc := 32) (by decide +kernel)) ?_
  refine zfmc (r_bipush h (pc := 33) (z := 10) (by decide +kernel) (10) (by decide +kernel)) ?_
  refine zfmc (r_callI h (pc := 35) (ix := 20) (by decide +kernel) 1 mcX5_init wk_ed7131bba4 rfl rfl wk_1c97d1cb94) ?_
  refine zfmc (r_putfF h (pc := 38) (ix := 27) (by decide +kernel) ckX2 2 (by decide) 3 (fty := tyX2 2) (tyX2_ok 2 (by decide)) rfl rfl rfl rfl wk_bc611ce136) ?_
  refine zfmc (r_aload_n h (pc := 41) (kf := 0) 0 (by decide +kernel) rfl) ?_
  refine zfmc (r_new h (pc := 42) (ix := 18) (by decide +kernel) ckX5 fsX5 tyX5 tyX5_ok fsX5_ok wk_2ed9b3fbf0 wk_17139636bc wk_1cd044b3d8) ?_
  refine zfmc (r_dup h (pc := 45) (by decide +kernel)) ?_
  refine zfmc (r_sipush h (pc := 46) (z := 400) (by decide +kernel) (400) (by decide +kernel)) ?_
  refine zfmc (r_callI h (pc := 49) (ix := 20) (by decide +kernel) 1 mcX5_init wk_ed7131bba4 rfl rfl wk_1c97d1cb94) ?_
  refine zfmc (r_putfF h (pc := 52) (ix := 30) (by decide +kernel) ckX2 3 (by decide) 3 (fty := tyX2 3) (tyX2_ok 3 (by decide)) rfl rfl rfl rfl wk_f7fced4a76) ?_
  refine zfmc (r_aload_n h (pc := 55) (kf := 0) 0 (by decide +kernel) rfl) ?_
  refine zfmc (r_new h (pc := 56) (ix := 33) (by decide +kernel) ckX11 fsX11 tyX11 tyX11_ok fsX11_ok wk_84b6ccd7b3 wk_2e9d103838 wk_122ad6e1db) ?_
  refine zfmc (r_dup h (pc := 59) (by decide +kernel)) ?_
  refine zfmc (r_callIN h (pc := 60) (ix := 35) (by decide +kernel) 0 mcX11_init wk_3933aa3219 rfl rfl wk_6648c8206f) ?_
  refine zfmc (r_putf h (pc := 63) (ix := 36) (by decide +kernel) ckX2 4 (by decide) 3 (fty := tyX2 4) (tyX2_ok 4 (by decide)) rfl rfl wk_27d9be5ecc) ?_
  refine zfmc (r_aload_n h (pc := 66) (kf := 0) 0 (by decide +kernel) rfl) ?_
  refine zfmc (r_iconst h (pc := 67) (z := 0) (by decide +kernel) (0) (by decide +kernel)) ?_
  refine zfmc (r_putf h (pc := 68) (ix := 40) (by decide +kernel) ckX2 5 (by decide) 0 (fty := tyX2 5) (tyX2_ok 5 (by decide)) rfl rfl wk_fcd9e551a0) ?_
  refine zfmc (r_aload_n h (pc := 71) (kf := 0) 0 (by decide +kernel) rfl) ?_
  refine zfmc (r_iconst h (pc := 72) (z := 0) (by decide +kernel) (0) (by decide +kernel)) ?_
  refine zfmc (r_putf h (pc := 73) (ix := 44) (by decide +kernel) ckX2 6 (by decide) 0 (fty := tyX2 6) (tyX2_ok 6 (by decide)) rfl rfl wk_1a9d89c54c) ?_
  refine zfmc (r_aload_n h (pc := 76) (kf := 0) 0 (by decide +kernel) rfl) ?_
  refine zfmc (r_iconst h (pc := 77) (z := 0) (by decide +kernel) (0) (by decide +kernel)) ?_
  refine zfmc (r_putf h (pc := 78) (ix := 47) (by decide +kernel) ckX2 7 (by decide) 0 (fty := tyX2 7) (tyX2_ok 7 (by decide)) rfl rfl wk_77d6177362) ?_
  refine zfmc (r_aload_n h (pc := 81) (kf := 0) 0 (by decide +kernel) rfl) ?_
  refine zfmc (r_iconst h (pc := 82) (z := 0) (by decide +kernel) (0) (by decide +kernel)) ?_
  refine zfmc (r_putf h (pc := 83) (ix := 50) (by decide +kernel) ckX2 8 (by decide) 0 (fty := tyX2 8) (tyX2_ok 8 (by decide)) rfl rfl wk_d945692295) ?_
  refine zfmc (r_aload_n h (pc := 86) (kf := 0) 0 (by decide +kernel) rfl) ?_
  refine zfmc (r_iconst h (pc := 87) (z := 0) (by decide +kernel) (0) (by decide +kernel)) ?_
  refine zfmc (r_putf h (pc := 88) (ix := 53) (by decide +kernel) ckX2 9 (by decide) 0 (fty := tyX2 9) (tyX2_ok 9 (by decide)) rfl rfl wk_4ba6249de5) ?_
  refine zfmc (r_aload_n h (pc := 91) (kf := 0) 0 (by decide +kernel) rfl) ?_
  refine zfmc (r_iconst h (pc := 92) (z := 0) (by decide +kernel) (0) (by decide +kernel)) ?_
  refine zfmc (r_putf h (pc := 93) (ix := 56) (by decide +kernel) ckX2 10 (by decide) 0 (fty := tyX2 10) (tyX2_ok 10 (by decide)) rfl rfl wk_752e412d1d) ?_
  refine zfmc (r_return h (pc := 96) (by decide +kernel) rfl) ?_
  exact zfm0)
def tb_X2_playRounds (E : ZEX) (d mc ms : Nat) : List (Nat × ZStep) := [(0, s_const (.int (0)) 1), (1, s_istore 3 2), (2, s_const (.int (0)) 3), (3, s_istore 4 5), (5, s_iload 4 7), (7, s_iload 1 8), (8, s_icmp_ge 68 11), (11, s_const (.int (0)) 12), (12, s_istore 5 14), (14, s_iload 5 16), (16, s_aload 0 17), (17, s_getf 1 0 20), (20, s_getf 3 5 23), (23, s_getf 5 1 26), (26, s_icmp_ge 49 29), (29, s_aload 0 30), (30, s_iload 5 32), (32, s_iload 2 33), (33, s_callV E d mc ms 1 MX2_takeTurn 2 36), (36, s_iload 3 37), (37, s_aload 0 38), (38, s_getf 1 10 41), (41, s_iadd 42), (42, s_istore 3 43), (43, s_iinc 5 (1) 46), (46, s_goto 14), (49, s_aload 0 50), (50, s_getf 1 0 53), (53, s_dup 54), (54, s_getf 3 6 57), (57, s_const (.int (1)) 58), (58, s_iadd 59), (59, s_putf 3 6 0 62), (62, s_iinc 4 (1) 65), (65, s_goto 5), (68, s_iload 3 69), (69, s_ireturn)]
set_option maxRecDepth 20000 in
theorem ok_X2_playRounds {E : ZEX} {X : ZMX} {d mc ms : Nat} {P : ZPT} {T : ZTT} (h : ZCX E X MX2_playRounds d mc ms P T) : ∀ pc, ZRow E X MX2_playRounds mc ms P T pc (ztb (tb_X2_playRounds E d mc ms) pc) := ztb_ok (by
  unfold tb_X2_playRounds
  refine zfmc (r_iconst h (pc := 0) (z := 0) (by decide +kernel) (0) (by decide +kernel)) ?_
  refine zfmc (r_istore_n h (pc := 1) (kf := 3) 3 (by decide +kernel) rfl (by decide +kernel)) ?_
  refine zfmc (r_iconst h (pc := 2) (z := 0) (by decide +kernel) (0) (by decide +kernel)) ?_
  refine zfmc (r_istore h (pc := 3) 4 (by decide +kernel) (by decide +kernel)) ?_
  refine zfmc (r_iload h (pc := 5) 4 (by decide +kernel)) ?_
  refine zfmc (r_iload_n h (pc := 7) (kf := 1) 1 (by decide +kernel) rfl) ?_
  refine zfmc (r_icmp_ge h (pc := 8) (off := 60) (by decide +kernel) 68 (by decide +kernel)) ?_
  refine zfmc (r_iconst h (pc := 11) (z := 0) (by decide +kernel) (0) (by decide +kernel)) ?_
  refine zfmc (r_istore h (pc := 12) 5 (by decide +kernel) (by decide +kernel)) ?_
  refine zfmc (r_iload h (pc := 14) 5 (by decide +kernel)) ?_
  refine zfmc (r_aload_n h (pc := 16) (kf := 0) 0 (by decide +kernel) rfl) ?_
  refine zfmc (r_getf h (pc := 17) (ix := 12) (by decide +kernel) ckX2 0 (by decide) wk_6445df9d3b) ?_
  refine zfmc (r_getfN h (pc := 20) (ix := 59) (by decide +kernel) ckX4 5 (by decide) wk_835e837b02) ?_
  refine zfmc (r_getfN h (pc := 23) (ix := 63) (by decide +kernel) ckX6 1 (by decide) wk_d45159bca2) ?_
  refine zfmc (r_icmp_ge h (pc := 26) (off := 23) (by decide +kernel) 49 (by decide +kernel)) ?_
  refine zfmc (r_aload_n h (pc := 29) (kf := 0) 0 (by decide +kernel) rfl) ?_
  refine zfmc (r_iload h (pc := 30) 5 (by decide +kernel)) ?_
  refine zfmc (r_iload_n h (pc := 32) (kf := 2) 2 (by decide +kernel) rfl) ?_
  refine zfmc (r_callV h (pc := 33) (ix := 68) (by decide +kernel) ckX2 2 mcX2_takeTurn wk_f8a18ec809 wk_ae007254b6 wk_6ba4d3e6f0 rfl) ?_
  refine zfmc (r_iload_n h (pc := 36) (kf := 3) 3 (by decide +kernel) rfl) ?_
  refine zfmc (r_aload_n h (pc := 37) (kf := 0) 0 (by decide +kernel) rfl) ?_
  refine zfmc (r_getf h (pc := 38) (ix := 56) (by decide +kernel) ckX2 10 (by decide) wk_752e412d1d) ?_
  refine zfmc (r_iadd h (pc := 41) (by decide +kernel)) ?_
  refine zfmc (r_istore_n h (pc := 42) (kf := 3) 3 (by decide +kernel) rfl (by decide +kernel)) ?_
  refine zfmc (r_iinc h (pc := 43) 5 (z := 1) (by decide +kernel) (1) (by decide +kernel) (by decide +kernel)) ?_
  refine zfmc (r_goto h (pc := 46) (off := -32) (by decide +kernel) 14 (by decide +kernel)) ?_
  refine zfmc (r_aload_n h (pc := 49) (kf := 0) 0 (by decide +kernel) rfl) ?_
  refine zfmc (r_getf h (pc := 50) (ix := 12) (by decide +kernel) ckX2 0 (by decide) wk_6445df9d3b) ?_
  refine zfmc (r_dup h (pc := 53) (by decide +kernel)) ?_
  refine zfmc (r_getfN h (pc := 54) (ix := 72) (by decide +kernel) ckX4 6 (by decide) wk_6cd737360c) ?_
  refine zfmc (r_iconst h (pc := 57) (z := 1) (by decide +kernel) (1) (by decide +kernel)) ?_
  refine zfmc (r_iadd h (pc := 58) (by decide +kernel)) ?_
  refine zfmc (r_putfN h (pc := 59) (ix := 72) (by decide +kernel) ckX4 6 (by decide) 0 (fty := tyX4 6) (tyX4_ok 6 (by decide)) rfl rfl wk_6cd737360c) ?_
  refine zfmc (r_iinc h (pc := 62) 4 (z := 1) (by decide +kernel) (1) (by decide +kernel) (by decide +kernel)) ?_
  refine zfmc (r_goto h (pc := 65) (off := -60) (by decide +kernel) 5 (by decide +kernel)) ?_
  refine zfmc (r_iload_n h (pc := 68) (kf := 3) 3 (by decide +kernel) rfl) ?_
  refine zfmc (r_ireturn h (pc := 69) (by decide +kernel) rfl) ?_
  exact zfm0)
def tb_X2_takeTurn (E : ZEX) (d mc ms : Nat) : List (Nat × ZStep) := [(0, s_aload 0 1), (1, s_aload 0 2), (2, s_getf 1 0 5), (5, s_iload 1 6), (6, s_callV E d mc ms 3 MX4_trader 1 9), (9, s_putf 1 4 3 12), (12, s_aload 0 13), (13, s_getf 1 1 16), (16, s_callV E d mc ms 4 MX5_clear 0 19), (19, s_aload 0 20), (20, s_getf 1 2 23), (23, s_callV E d mc ms 4 MX5_clear 0 26), (26, s_aload 0 27), (27, s_const (.int (0)) 28), (28, s_putf 1 5 0 31), (31, s_aload 0 32), (32, s_const (.int (1)) 33), (33, s_putf 1 6 0 36), (36, s_aload 0 37), (37, s_const (.int (0)) 38), (38, s_putf 1 8 0 41), (41, s_aload 0 42), (42, s_const (.int (0)) 43), (43, s_putf 1 9 0 46), (46, s_aload 0 47), (47, s_const (.int (0)) 48), (48, s_putf 1 10 0 51), (51, s_aload 0 52), (52, s_const (.int (5)) 53), (53, s_callV E d mc ms 1 MX2_draw 1 56), (56, s_aload 0 57), (57, s_callV E d mc ms 1 MX2_playHand 0 60), (60, s_aload 0 61), (61, s_getf 1 4 64), (64, s_aload 0 65), (65, s_getf 1 5 68), (68, s_putf 10 8 0 71), (71, s_aload 0 72), (72, s_aload 0 73), (73, s_getf 1 6 76), (76, s_putf 1 7 0 79), (79, s_aload 0 80), (80, s_iload 1 81), (81, s_iload 2 82), (82, s_callV E d mc ms 1 MX2_followOrders 2 85), (85, s_aload 0 86), (86, s_getf 1 4 89), (89, s_getf 10 1 92), (92, s_aload 0 93), (93, s_getf 1 1 96), (96, s_callV E d mc ms 4 MX5_addAll 1 99), (99, s_return)]
set_option maxRecDepth 20000 in
theorem ok_X2_takeTurn {E : ZEX} {X : ZMX} {d mc ms : Nat} {P : ZPT} {T : ZTT} (h : ZCX E X MX2_takeTurn d mc ms P T) : ∀ pc, ZRow E X MX2_takeTurn mc ms P T pc (ztb (tb_X2_takeTurn E d mc ms) pc) := ztb_ok (by
  unfold tb_X2_takeTurn
  refine zfmc (r_aload_n h (pc := 0) (kf := 0) 0 (by decide +kernel) rfl) ?_
  refine zfmc (r_aload_n h (pc := 1) (kf := 0) 0 (by decide +kernel) rfl) ?_
  refine zfmc (r_getf h (pc := 2) (ix := 12) (by decide +kernel) ckX2 0 (by decide) wk_6445df9d3b) ?_
  refine zfmc (r_iload_n h (pc := 5) (kf := 1) 1 (by decide +kernel) rfl) ?_
  refine zfmc (r_callV h (pc := 6) (ix := 75) (by decide +kernel) ckX4 1 mcX4_trader wk_70b2a8186c wk_7237d4be04 wk_a79dbba60d rfl) ?_
  refine zfmc (r_putf h (pc := 9) (ix := 36) (by decide +kernel) ckX2 4 (by decide) 3 (fty := tyX2 4) (tyX2_ok 4 (by decide)) rfl rfl wk_27d9be5ecc) ?_
  refine zfmc (r_aload_n h (pc := 12) (kf := 0) 0 (by decide +kernel) rfl) ?_
  refine zfmc (r_getf h (pc := 13) (ix := 23) (by decide +kernel) ckX2 1 (by decide) wk_6bb8abc6ae) ?_
  refine zfmc (r_callV h (pc := 16) (ix := 78) (by decide +kernel) ckX5 0 mcX5_clear wk_02cca295a9 wk_e93657c684 wk_6ba25339bd rfl) ?_
  refine zfmc (r_aload_n h (pc := 19) (kf := 0) 0 (by decide +kernel) rfl) ?_
  refine zfmc (r_getf h (pc := 20) (ix := 27) (by decide +kernel) ckX2 2 (by decide) wk_bc611ce136) ?_
  refine zfmc (r_callV h (pc := 23) (ix := 78) (by decide +kernel) ckX5 0 mcX5_clear wk_02cca295a9 wk_e93657c684 wk_6ba25339bd rfl) ?_
  refine zfmc (r_aload_n h (pc := 26) (kf := 0) 0 (by decide +kernel) rfl) ?_
  refine zfmc (r_iconst h (pc := 27) (z := 0) (by decide +kernel) (0) (by decide +kernel)) ?_
  refine zfmc (r_putf h (pc := 28) (ix := 40) (by decide +kernel) ckX2 5 (by decide) 0 (fty := tyX2 5) (tyX2_ok 5 (by decide)) rfl rfl wk_fcd9e551a0) ?_
  refine zfmc (r_aload_n h (pc := 31) (kf := 0) 0 (by decide +kernel) rfl) ?_
  refine zfmc (r_iconst h (pc := 32) (z := 1) (by decide +kernel) (1) (by decide +kernel)) ?_
  refine zfmc (r_putf h (pc := 33) (ix := 44) (by decide +kernel) ckX2 6 (by decide) 0 (fty := tyX2 6) (tyX2_ok 6 (by decide)) rfl rfl wk_1a9d89c54c) ?_
  refine zfmc (r_aload_n h (pc := 36) (kf := 0) 0 (by decide +kernel) rfl) ?_
  refine zfmc (r_iconst h (pc := 37) (z := 0) (by decide +kernel) (0) (by decide +kernel)) ?_
  refine zfmc (r_putf h (pc := 38) (ix := 50) (by decide +kernel) ckX2 8 (by decide) 0 (fty := tyX2 8) (tyX2_ok 8 (by decide)) rfl rfl wk_d945692295) ?_
  refine zfmc (r_aload_n h (pc := 41) (kf := 0) 0 (by decide +kernel) rfl) ?_
  refine zfmc (r_iconst h (pc := 42) (z := 0) (by decide +kernel) (0) (by decide +kernel)) ?_
  refine zfmc (r_putf h (pc := 43) (ix := 53) (by decide +kernel) ckX2 9 (by decide) 0 (fty := tyX2 9) (tyX2_ok 9 (by decide)) rfl rfl wk_4ba6249de5) ?_
  refine zfmc (r_aload_n h (pc := 46) (kf := 0) 0 (by decide +kernel) rfl) ?_
  refine zfmc (r_iconst h (pc := 47) (z := 0) (by decide +kernel) (0) (by decide +kernel)) ?_
  refine zfmc (r_putf h (pc := 48) (ix := 56) (by decide +kernel) ckX2 10 (by decide) 0 (fty := tyX2 10) (tyX2_ok 10 (by decide)) rfl rfl wk_752e412d1d) ?_
  refine zfmc (r_aload_n h (pc := 51) (kf := 0) 0 (by decide +kernel) rfl) ?_
  refine zfmc (r_iconst h (pc := 52) (z := 5) (by decide +kernel) (5) (by decide +kernel)) ?_
  refine zfmc (r_callV h (pc := 53) (ix := 81) (by decide +kernel) ckX2 1 mcX2_draw wk_a456b20dae wk_8750560a85 wk_a7d4056845 rfl) ?_
  refine zfmc (r_aload_n h (pc := 56) (kf := 0) 0 (by decide +kernel) rfl) ?_
  refine zfmc (r_callV h (pc := 57) (ix := 84) (by decide +kernel) ckX2 0 mcX2_playHand wk_176d3a61bf wk_539f88c78d wk_8d1bc5b8dc rfl) ?_
  refine zfmc (r_aload_n h (pc := 60) (kf := 0) 0 (by decide +kernel) rfl) ?_
  refine zfmc (r_getf h (pc := 61) (ix := 36) (by decide +kernel) ckX2 4 (by decide) wk_27d9be5ecc) ?_
  refine zfmc (r_aload_n h (pc := 64) (kf := 0) 0 (by decide +kernel) rfl) ?_
  refine zfmc (r_getf h (pc := 65) (ix := 40) (by decide +kernel) ckX2 5 (by decide) wk_fcd9e551a0) ?_
  refine zfmc (r_putfN h (pc := 68) (ix := 87) (by decide +kernel) ckX11 8 (by decide) 0 (fty := tyX11 8) (tyX11_ok 8 (by decide)) rfl rfl wk_2657450f68) ?_
  refine zfmc (r_aload_n h (pc := 71) (kf := 0) 0 (by decide +kernel) rfl) ?_
  refine zfmc (r_aload_n h (pc := 72) (kf := 0) 0 (by decide +kernel) rfl) ?_
  refine zfmc (r_getf h (pc := 73) (ix := 44) (by decide +kernel) ckX2 6 (by decide) wk_1a9d89c54c) ?_
  refine zfmc (r_putf h (pc := 76) (ix := 47) (by decide +kernel) ckX2 7 (by decide) 0 (fty := tyX2 7) (tyX2_ok 7 (by decide)) rfl rfl wk_77d6177362) ?_
  refine zfmc (r_aload_n h (pc := 79) (kf := 0) 0 (by decide +kernel) rfl) ?_
  refine zfmc (r_iload_n h (pc := 80) (kf := 1) 1 (by decide +kernel) rfl) ?_
  refine zfmc (r_iload_n h (pc := 81) (kf := 2) 2 (by decide +kernel) rfl) ?_
  refine zfmc (r_callV h (pc := 82) (ix := 88) (by decide +kernel) ckX2 2 mcX2_followOrders wk_cb7e92be0b wk_7cb7bc2633 wk_5e1a6f516f rfl) ?_
  refine zfmc (r_aload_n h (pc := 85) (kf := 0) 0 (by decide +kernel) rfl) ?_
  refine zfmc (r_getf h (pc := 86) (ix := 36) (by decide +kernel) ckX2 4 (by decide) wk_27d9be5ecc) ?_
  refine zfmc (r_getfN h (pc := 89) (ix := 91) (by decide +kernel) ckX11 1 (by decide) wk_c88b6291c3) ?_
  refine zfmc (r_aload_n h (pc := 92) (kf := 0) 0 (by decide +kernel) rfl) ?_
  refine zfmc (r_getf h (pc := 93) (ix := 23) (by decide +kernel) ckX2 1 (by decide) wk_6bb8abc6ae) ?_
  refine zfmc (r_callV h (pc := 96) (ix := 94) (by decide +kernel) ckX5 1 mcX5_addAll wk_fba7da3471 wk_f5b6524780 wk_60058a1cfd rfl) ?_
  refine zfmc (r_return h (pc := 99) (by decide +kernel) rfl) ?_
  exact zfm0)
def tb_X2_turnNumber (E : ZEX) (d mc ms : Nat) : List (Nat × ZStep) := [(0, s_iload 1 1), (1, s_tsw 0 [32, 40, 45, 50] 55), (32, s_aload 0 33), (33, s_getf 1 4 36), (36, s_getf 10 8 39), (39, s_ireturn), (40, s_aload 0 41), (41, s_getf 1 7 44), (44, s_ireturn), (45, s_aload 0 46), (46, s_getf 1 8 49), (49, s_ireturn), (50, s_aload 0 51), (51, s_getf 1 9 54), (54, s_ireturn), (55, s_aload 0 56), (56, s_getf 1 10 59), (59, s_ireturn)]
set_option maxRecDepth 20000 in
theorem ok_X2_turnNumber {E : ZEX} {X : ZMX} {d mc ms : Nat} {P : ZPT} {T : ZTT} (h : ZCX E X MX2_turnNumber d mc ms P T) : ∀ pc, ZRow E X MX2_turnNumber mc ms P T pc (ztb (tb_X2_turnNumber E d mc ms) pc) := ztb_ok (by
  unfold tb_X2_turnNumber
  refine zfmc (r_iload_n h (pc := 0) (kf := 1) 1 (by decide +kernel) rfl) ?_
  refine zfmc (r_tsw h (pc := 1) (dflt := 54) (lo := 0) (hi := 3) (offs := #[31, 39, 44, 49]) (len := 31) (by decide +kernel) [32, 40, 45, 50] 55 (by decide +kernel) (by decide +kernel) (by decide +kernel)) ?_
  refine zfmc (r_aload_n h (pc := 32) (kf := 0) 0 (by decide +kernel) rfl) ?_
  refine zfmc (r_getf h (pc := 33) (ix := 36) (by decide +kernel) ckX2 4 (by decide) wk_27d9be5ecc) ?_
  refine zfmc (r_getfN h (pc := 36) (ix := 87) (by decide +kernel) ckX11 8 (by decide) wk_2657450f68) ?_
  refine zfmc (r_ireturn h (pc := 39) (by decide +kernel) rfl) ?_
  refine zfmc (r_aload_n h (pc := 40) (kf := 0) 0 (by decide +kernel) rfl) ?_
  refine zfmc (r_getf h (pc := 41) (ix := 47) (by decide +kernel) ckX2 7 (by decide) wk_77d6177362) ?_
  refine zfmc (r_ireturn h (pc := 44) (by decide +kernel) rfl) ?_
  refine zfmc (r_aload_n h (pc := 45) (kf := 0) 0 (by decide +kernel) rfl) ?_
  refine zfmc (r_getf h (pc := 46) (ix := 50) (by decide +kernel) ckX2 8 (by decide) wk_d945692295) ?_
  refine zfmc (r_ireturn h (pc := 49) (by decide +kernel) rfl) ?_
  refine zfmc (r_aload_n h (pc := 50) (kf := 0) 0 (by decide +kernel) rfl) ?_
  refine zfmc (r_getf h (pc := 51) (ix := 53) (by decide +kernel) ckX2 9 (by decide) wk_4ba6249de5) ?_
  refine zfmc (r_ireturn h (pc := 54) (by decide +kernel) rfl) ?_
  refine zfmc (r_aload_n h (pc := 55) (kf := 0) 0 (by decide +kernel) rfl) ?_
  refine zfmc (r_getf h (pc := 56) (ix := 56) (by decide +kernel) ckX2 10 (by decide) wk_752e412d1d) ?_
  refine zfmc (r_ireturn h (pc := 59) (by decide +kernel) rfl) ?_
  exact zfm0)
def tb_X2_draw (E : ZEX) (d mc ms : Nat) : List (Nat × ZStep) := [(0, s_const (.int (0)) 1), (1, s_istore 2 2), (2, s_iload 2 3), (3, s_iload 1 4), (4, s_icmp_ge 54 7), (7, s_aload 0 8), (8, s_getf 1 4 11), (11, s_callV E d mc ms 10 MX11_deckSize 0 14), (14, s_if_ne 24 17), (17, s_aload 0 18), (18, s_getf 1 4 21), (21, s_callV E d mc ms 10 MX11_mixDiscards 0 24), (24, s_aload 0 25), (25, s_getf 1 4 28), (28, s_callV E d mc ms 10 MX11_deckSize 0 31), (31, s_if_le 48 34), (34, s_aload 0 35), (35, s_getf 1 1 38), (38, s_aload 0 39), (39, s_getf 1 4 42), (42, s_callV E d mc ms 10 MX11_drawTop 0 45), (45, s_callV E d mc ms 4 MX5_add 1 48), (48, s_iinc 2 (1) 51), (51, s_goto 2), (54, s_return)]
set_option maxRecDepth 20000 in
theorem ok_X2_draw {E : ZEX} {X : ZMX} {d mc ms : Nat} {P : ZPT} {T : ZTT} (h : ZCX E X MX2_draw d mc ms P T) : ∀ pc, ZRow E X MX2_draw mc ms P T pc (ztb (tb_X2_draw E d mc ms) pc) := ztb_ok (by
  unfold tb_X2_draw
  refine zfmc (r_iconst h (pc := 0) (z := 0) (by decide +kernel) (0) (by decide +kernel)) ?_
  refine zfmc (r_istore_n h (pc := 1) (kf := 2) 2 (by decide +kernel) rfl (by decide +kernel)) ?_
  refine zfmc (r_iload_n h (pc := 2) (kf := 2) 2 (by decide +kernel) rfl) ?_
  refine zfmc (r_iload_n h (pc := 3) (kf := 1) 1 (by decide +kernel) rfl) ?_
  refine zfmc (r_icmp_ge h (pc := 4) (off := 50) (by decide +kernel) 54 (by decide +kernel)) ?_
  refine zfmc (r_aload_n h (pc := 7) (kf := 0) 0 (by decide +kernel) rfl) ?_
  refine zfmc (r_getf h (pc := 8) (ix := 36) (by decide +kernel) ckX2 4 (by decide) wk_27d9be5ecc) ?_
  refine zfmc (r_callV h (pc := 11) (ix := 98) (by decide +kernel) ckX11 0 mcX11_deckSize wk_e9d0ddb9cc wk_b0c86f9268 wk_2c6efe0eda rfl) ?_
  refine zfmc (r_if_ne h (pc := 14) (off := 10) (by decide +kernel) 24 (by decide +kernel)) ?_
  refine zfmc (r_aload_n h (pc := 17) (kf := 0) 0 (by decide +kernel) rfl) ?_
  refine zfmc (r_getf h (pc := 18) (ix := 36) (by decide +kernel) ckX2 4 (by decide) wk_27d9be5ecc) ?_
  refine zfmc (r_callV h (pc := 21) (ix := 102) (by decide +kernel) ckX11 0 mcX11_mixDiscards wk_996c35ad09 wk_9e29a52e30 wk_b1d87b6d16 rfl) ?_
  refine zfmc (r_aload_n h (pc := 24) (kf := 0) 0 (by decide +kernel) rfl) ?_
  refine zfmc (r_getf h (pc := 25) (ix := 36) (by decide +kernel) ckX2 4 (by decide) wk_27d9be5ecc) ?_
  refine zfmc (r_callV h (pc := 28) (ix := 98) (by decide +kernel) ckX11 0 mcX11_deckSize wk_e9d0ddb9cc wk_b0c86f9268 wk_2c6efe0eda rfl) ?_
  refine zfmc (r_if_le h (pc := 31) (off := 17) (by decide +kernel) 48 (by decide +kernel)) ?_
  refine zfmc (r_aload_n h (pc := 34) (kf := 0) 0 (by decide +kernel) rfl) ?_
  refine zfmc (r_getf h (pc := 35) (ix := 23) (by decide +kernel) ckX2 1 (by decide) wk_6bb8abc6ae) ?_
  refine zfmc (r_aload_n h (pc := 38) (kf := 0) 0 (by decide +kernel) rfl) ?_
  refine zfmc (r_getf h (pc := 39) (ix := 36) (by decide +kernel) ckX2 4 (by decide) wk_27d9be5ecc) ?_
  refine zfmc (r_callV h (pc := 42) (ix := 105) (by decide +kernel) ckX11 0 mcX11_drawTop wk_fe4813fb1e wk_55a6cbfe6b wk_fa56b70e13 rfl) ?_
  refine zfmc (r_callV h (pc := 45) (ix := 108) (by decide +kernel) ckX5 1 mcX5_add wk_e34e9f52c3 wk_0a50db8e31 wk_45d5950202 rfl) ?_
  refine zfmc (r_iinc h (pc := 48) 2 (z := 1) (by decide +kernel) (1) (by decide +kernel) (by decide +kernel)) ?_
  refine zfmc (r_goto h (pc := 51) (off := -49) (by decide +kernel) 2 (by decide +kernel)) ?_
  refine zfmc (r_return h (pc := 54) (by decide +kernel) rfl) ?_
  exact zfm0)
def tb_X2_playHand (E : ZEX) (d mc ms : Nat) : List (Nat × ZStep) := [(0, s_const (.int (0)) 1), (1, s_istore 1 2), (2, s_iload 1 3), (3, s_const (.int (30)) 5), (5, s_icmp_ge 101 8), (8, s_iload 1 9), (9, s_aload 0 10), (10, s_getf 1 1 13), (13, s_callV E d mc ms 4 MX5_size 0 16), (16, s_icmp_ge 101 19), (19, s_aload 0 20), (20, s_getf 1 1 23), (23, s_iload 1 24), (24, s_callV E d mc ms 4 MX5_get 1 27), (27, s_istore 2 28), (28, s_aload 0 29), (29, s_dup 30), (30, s_getf 1 8 33), (33, s_const (.int (1)) 34), (34, s_iadd 35), (35, s_putf 1 8 0 38), (38, s_aload 0 39), (39, s_getf 1 2 42), (42, s_iload 2 43), (43, s_const (.int (1)) 44), (44, s_callV E d mc ms 4 MX5_raise 2 47), (47, s_aload 0 48), (48, s_getf 1 0 51), (51, s_getf 3 1 54), (54, s_iload 2 55), (55, s_const (.int (1)) 56), (56, s_callV E d mc ms 4 MX5_raise 2 59), (59, s_const (.int (0)) 60), (60, s_istore 3 61), (61, s_iload 3 62), (62, s_aload 0 63), (63, s_getf 1 0 66), (66, s_getf 3 5 69), (69, s_getf 5 7 72), (72, s_iload 2 73), (73, s_callV E d mc ms 4 MX5_get 1 76), (76, s_icmp_ge 95 79), (79, s_aload 0 80), (80, s_iload 2 81), (81, s_iload 2 82), (82, s_const (.int (4)) 83), (83, s_imul 84), (84, s_iload 3 85), (85, s_iadd 86), (86, s_callV E d mc ms 1 MX2_doDeed 2 89), (89, s_iinc 3 (1) 92), (92, s_goto 61), (95, s_iinc 1 (1) 98), (98, s_goto 2), (101, s_return)]
set_option maxRecDepth 20000 in
theorem ok_X2_playHand {E : ZEX} {X : ZMX} {d mc ms : Nat} {P : ZPT} {T : ZTT} (h : ZCX E X MX2_playHand d mc ms P T) : ∀ pc, ZRow E X MX2_playHand mc ms P T pc (ztb (tb_X2_playHand E d mc ms) pc) := ztb_ok (by
  unfold tb_X2_playHand
  refine zfmc (r_iconst h (pc := 0) (z := 0) (by decide +kernel) (0) (by decide +kernel)) ?_
  refine zfmc (r_istore_n h (pc := 1) (kf := 1) 1 (by decide +kernel) rfl (by decide +kernel)) ?_
  refine zfmc (r_iload_n h (pc := 2) (kf := 1) 1 (by decide +kernel) rfl) ?_
  refine zfmc (r_bipush h (pc := 3) (z := 30) (by decide +kernel) (30) (by decide +kernel)) ?_
  refine zfmc (r_icmp_ge h (pc := 5) (off := 96) (by decide +kernel) 101 (by decide +kernel)) ?_
  refine zfmc (r_iload_n h (pc := 8) (kf := 1) 1 (by decide +kernel) rfl) ?_
  refine zfmc (r_aload_n h (pc := 9) (kf := 0) 0 (by decide +kernel) rfl) ?_
  refine zfmc (r_getf h (pc := 10) (ix := 23) (by decide +kernel) ckX2 1 (by decide) wk_6bb8abc6ae) ?_
  refine zfmc (r_callV h (pc := 13) (ix := 111) (by decide +kernel) ckX5 0 mcX5_size wk_2a1282b961 wk_62e7e67aee wk_5abe0e2775 rfl) ?_
  refine zfmc (r_icmp_ge h (pc := 16) (off := 85) (by decide +kernel) 101 (by decide +kernel)) ?_
  refine zfmc (r_aload_n h (pc := 19) (kf := 0) 0 (by decide +kernel) rfl) ?_
  refine zfmc (r_getf h (pc := 20) (ix := 23) (by decide +kernel) ckX2 1 (by decide) wk_6bb8abc6ae) ?_
  refine zfmc (r_iload_n h (pc := 23) (kf := 1) 1 (by decide +kernel) rfl) ?_
  refine zfmc (r_callV h (pc := 24) (ix := 114) (by decide +kernel) ckX5 1 mcX5_get wk_d096485f84 wk_3bb576bd7a wk_1db6b0b94a rfl) ?_
  refine zfmc (r_istore_n h (pc := 27) (kf := 2) 2 (by decide +kernel) rfl (by decide +kernel)) ?_
  refine zfmc (r_aload_n h (pc := 28) (kf := 0) 0 (by decide +kernel) rfl) ?_
  refine zfmc (r_dup h (pc := 29) (by decide +kernel)) ?_
  refine zfmc (r_getf h (pc := 30) (ix := 50) (by decide +kernel) ckX2 8 (by decide) wk_d945692295) ?_
  refine zfmc (r_iconst h (pc := 33) (z := 1) (by decide +kernel) (1) (by decide +kernel)) ?_
  refine zfmc (r_iadd h (pc := 34) (by decide +kernel)) ?_
  refine zfmc (r_putf h (pc := 35) (ix := 50) (by decide +kernel) ckX2 8 (by decide) 0 (fty := tyX2 8) (tyX2_ok 8 (by decide)) rfl rfl wk_d945692295) ?_
  refine zfmc (r_aload_n h (pc := 38) (kf := 0) 0 (by decide +kernel) rfl) ?_
  refine zfmc (r_getf h (pc := 39) (ix := 27) (by decide +kernel) ckX2 2 (by decide) wk_bc611ce136) ?_
  refine zfmc (r_iload_n h (pc := 42) (kf := 2) 2 (by decide +kernel) rfl) ?_
  refine zfmc (r_iconst h (pc := 43) (z := 1) (by decide +kernel) (1) (by decide +kernel)) ?_
  refine zfmc (r_callV h (pc := 44) (ix := 118) (by decide +kernel) ckX5 2 mcX5_raise wk_0355c8e134 wk_a9227e5c0a wk_5f3d568753 rfl) ?_
  refine zfmc (r_aload_n h (pc := 47) (kf := 0) 0 (by decide +kernel) rfl) ?_
  refine zfmc (r_getf h (pc := 48) (ix := 12) (by decide +kernel) ckX2 0 (by decide) wk_6445df9d3b) ?_
  refine zfmc (r_getfN h (pc := 51) (ix := 121) (by decide +kernel) ckX4 1 (by decide) wk_4a78e1c92b) ?_
  refine zfmc (r_iload_n h (pc := 54) (kf := 2) 2 (by decide +kernel) rfl) ?_
  refine zfmc (r_iconst h (pc := 55) (z := 1) (by decide +kernel) (1) (by decide +kernel)) ?_
  refine zfmc (r_callV h (pc := 56) (ix := 118) (by decide +kernel) ckX5 2 mcX5_raise wk_0355c8e134 wk_a9227e5c0a wk_5f3d568753 rfl) ?_
  refine zfmc (r_iconst h (pc := 59) (z := 0) (by decide +kernel) (0) (by decide +kernel)) ?_
  refine zfmc (r_istore_n h (pc := 60) (kf := 3) 3 (by decide +kernel) rfl (by decide +kernel)) ?_
  refine zfmc (r_iload_n h (pc := 61) (kf := 3) 3 (by decide +kernel) rfl) ?_
  refine zfmc (r_aload_n h (pc := 62) (kf := 0) 0 (by decide +kernel) rfl) ?_
  refine zfmc (r_getf h (pc := 63) (ix := 12) (by decide +kernel) ckX2 0 (by decide) wk_6445df9d3b) ?_
  refine zfmc (r_getfN h (pc := 66) (ix := 59) (by decide +kernel) ckX4 5 (by decide) wk_835e837b02) ?_
  refine zfmc (r_getfN h (pc := 69) (ix := 122) (by decide +kernel) ckX6 7 (by decide) wk_b27d14eb03) ?_
  refine zfmc (r_iload_n h (pc := 72) (kf := 2) 2 (by decide +kernel) rfl) ?_
  refine zfmc (r_callV h (pc := 73) (ix := 114) (by decide +kernel) ckX5 1 mcX5_get wk_d096485f84 wk_3bb576bd7a wk_1db6b0b94a rfl) ?_
  refine zfmc (r_icmp_ge h (pc := 76) (off := 19) (by decide +kernel) 95 (by decide +kernel)) ?_
  refine zfmc (r_aload_n h (pc := 79) (kf := 0) 0 (by decide +kernel) rfl) ?_
  refine zfmc (r_iload_n h (pc := 80) (kf := 2) 2 (by decide +kernel) rfl) ?_
  refine zfmc (r_iload_n h (pc := 81) (kf := 2) 2 (by decide +kernel) rfl) ?_
  refine zfmc (r_iconst h (pc := 82) (z := 4) (by decide +kernel) (4) (by decide +kernel)) ?_
  refine zfmc (r_imul h (pc := 83) (by decide +kernel)) ?_
  refine zfmc (r_iload_n h (pc := 84) (kf := 3) 3 (by decide +kernel) rfl) ?_
  refine zfmc (r_iadd h (pc := 85) (by decide +kernel)) ?_
  refine zfmc (r_callV h (pc := 86) (ix := 125) (by decide +kernel) ckX2 2 mcX2_doDeed wk_7e671d82f3 wk_8557e61d13 wk_23d37a97c4 rfl) ?_
  refine zfmc (r_iinc h (pc := 89) 3 (z := 1) (by decide +kernel) (1) (by decide +kernel) (by decide +kernel)) ?_
  refine zfmc (r_goto h (pc := 92) (off := -31) (by decide +kernel) 61 (by decide +kernel)) ?_
  refine zfmc (r_iinc h (pc := 95) 1 (z := 1) (by decide +kernel) (1) (by decide +kernel) (by decide +kernel)) ?_
  refine zfmc (r_goto h (pc := 98) (off := -96) (by decide +kernel) 2 (by decide +kernel)) ?_
  refine zfmc (r_return h (pc := 101) (by decide +kernel) rfl) ?_
  exact zfm0)
def tb_X2_doDeed (E : ZEX) (d mc ms : Nat) : List (Nat × ZStep) := [(0, s_aload 0 1), (1, s_getf 1 0 4), (4, s_getf 3 5 7), (7, s_astore 3 8), (8, s_aload 3 9), (9, s_getf 5 9 12), (12, s_iload 2 13), (13, s_callV E d mc ms 4 MX5_get 1 16), (16, s_istore 4 18), (18, s_aload 3 19), (19, s_getf 5 10 22), (22, s_iload 2 23), (23, s_callV E d mc ms 4 MX5_get 1 26), (26, s_istore 5 28), (28, s_const (.ref (zeK E 47)) 31), (31, s_aload 3 32), (32, s_iload 2 33), (33, s_callV E d mc ms 5 MX6_deedKind 1 36), (36, s_callK E d mc ms 0 46 MJx29ce0_ordinal_8abf5 0 39), (39, s_ialdK E 40), (40, s_lsw [(5, 162), (6, 171), (11, 92), (12, 137), (22, 118)] 220), (92, s_aload 0 93), (93, s_aload 0 94), (94, s_getf 1 5 97), (97, s_i2l 98), (98, s_aload 0 99), (99, s_iload 5 101), (101, s_callV E d mc ms 1 MX2_reckon 1 104), (104, s_i2l 105), (105, s_ladd 106), (106, s_const (.int (999)) 109), (109, s_callS E d mc ms MX2_held 2 112), (112, s_putf 1 5 0 115), (115, s_goto 220), (118, s_aload 0 119), (119, s_aload 0 120), (120, s_iload 5 122), (122, s_callV E d mc ms 1 MX2_reckon 1 125), (125, s_i2l 126), (126, s_const (.int (9)) 128), (128, s_callS E d mc ms MX2_held 2 131), (131, s_callV E d mc ms 1 MX2_draw 1 134), (134, s_goto 220), (137, s_aload 0 138), (138, s_aload 0 139), (139, s_getf 1 6 142), (142, s_i2l 143), (143, s_aload 0 144), (144, s_iload 5 146), (146, s_callV E d mc ms 1 MX2_reckon 1 149), (149, s_i2l 150), (150, s_ladd 151), (151, s_const (.int (9)) 153), (153, s_callS E d mc ms MX2_held 2 156), (156, s_putf 1 6 0 159), (159, s_goto 220), (162, s_aload 0 163), (163, s_iload 4 165), (165, s_callV E d mc ms 1 MX2_trashUnplayed 1 168), (168, s_goto 220), (171, s_aload 0 172), (172, s_getf 1 2 175), (175, s_iload 4 177), (177, s_callV E d mc ms 4 MX5_get 1 180), (180, s_iload 4 182), (182, s_iload 1 183), (183, s_icmp_ne 190 186), (186, s_const (.int (1)) 187), (187, s_goto 191), (190, s_const (.int (0)) 191), (191, s_icmp_le 220 194), (194, s_aload 0 195), (195, s_aload 0 196), (196, s_getf 1 5 199), (199, s_i2l 200), (200, s_aload 0 201), (201, s_iload 5 203), (203, s_callV E d mc ms 1 MX2_reckon 1 206), (206, s_i2l 207), (207, s_ladd 208), (208, s_const (.int (999)) 211), (211, s_callS E d mc ms MX2_held 2 214), (214, s_putf 1 5 0 217), (217, s_goto 220), (220, s_return)]
set_option maxRecDepth 20000 in
theorem ok_X2_doDeed {E : ZEX} {X : ZMX} {d mc ms : Nat} {P : ZPT} {T : ZTT} (h : ZCX E X MX2_doDeed d mc ms P T) : ∀ pc, ZRow E X MX2_doDeed mc ms P T pc (ztb (tb_X2_doDeed E d mc ms) pc) := ztb_ok (by
  unfold tb_X2_doDeed
  refine zfmc (r_aload_n h (pc := 0) (kf := 0) 0 (by decide +kernel) rfl) ?_
  refine zfmc (r_getf h (pc := 1) (ix := 12) (by decide +kernel) ckX2 0 (by decide) wk_6445df9d3b) ?_
  refine zfmc (r_getfN h (pc := 4) (ix := 59) (by decide +kernel) ckX4 5 (by decide) wk_835e837b02) ?_
  refine zfmc (r_astore_n h (pc := 7) (kf := 3) 3 (by decide +kernel) rfl (by decide +kernel)) ?_
  refine zfmc (r_aload_n h (pc := 8) (kf := 3) 3 (by decide +kernel) rfl) ?_
  refine zfmc (r_getfN h (pc := 9) (ix := 128) (by decide +kernel) ckX6 9 (by decide) wk_7caccb6470) ?_
  refine zfmc (r_iload_n h (pc := 12) (kf := 2) 2 (by decide +kernel) rfl) ?_
  refine zfmc (r_callV h (pc := 13) (ix := 114) (by decide +kernel) ckX5 1 mcX5_get wk_d096485f84 wk_3bb576bd7a wk_1db6b0b94a rfl) ?_
  refine zfmc (r_istore h (pc := 16) 4 (by decide +kernel) (by decide +kernel)) ?_
  refine zfmc (r_aload_n h (pc := 18) (kf := 3) 3 (by decide +kernel) rfl) ?_
  refine zfmc (r_getfN h (pc := 19) (ix := 131) (by decide +kernel) ckX6 10 (by decide) wk_ed788a7603) ?_
  refine zfmc (r_iload_n h (pc := 22) (kf := 2) 2 (by decide +kernel) rfl) ?_
  refine zfmc (r_callV h (pc := 23) (ix := 114) (by decide +kernel) ckX5 1 mcX5_get wk_d096485f84 wk_3bb576bd7a wk_1db6b0b94a rfl) ?_
  refine zfmc (r_istore h (pc := 26) 5 (by decide +kernel) (by decide +kernel)) ?_
  refine zfmc (r_getstatic h (pc := 28) (ix := 134) (by decide +kernel) (.ref (zeK E 47)) (zx_sw h.ok) wk_2859e6f440) ?_
  refine zfmc (r_aload_n h (pc := 31) (kf := 3) 3 (by decide +kernel) rfl) ?_
  refine zfmc (r_iload_n h (pc := 32) (kf := 2) 2 (by decide +kernel) rfl) ?_
  refine zfmc (r_callV h (pc := 33) (ix := 140) (by decide +kernel) ckX6 1 mcX6_deedKind wk_7aa4ef9647 wk_98509a2332 wk_6454cfebdd rfl) ?_
  refine zfmc (r_callU h (pc := 36) (ix := 144) (by decide +kernel) (zx_sgO2 h.ok) 0 mcJx29ce0_ordinal_8abf5 wk_7da2aaab0b (⟨RX8, "ordinal", "()I"⟩ : MethodName) wk_098b042c84 wk_7f528e0d7b wk_644ddbbc93 rfl) ?_
  refine zfmc (r_ialdK h (pc := 39) (by decide +kernel)) ?_
  refine zfmc (r_lsw h (pc := 40) (dflt := 180) (qs := #[(5, 122), (6, 131), (11, 52), (12, 97), (22, 78)]) (len := 52) (by decide +kernel) [(5, 162), (6, 171), (11, 92), (12, 137), (22, 118)] 220 (by decide +kernel) (by decide +kernel) (by decide +kernel)) ?_
  refine zfmc (r_aload_n h (pc := 92) (kf := 0) 0 (by decide +kernel) rfl) ?_
  refine zfmc (r_aload_n h (pc := 93) (kf := 0) 0 (by decide +kernel) rfl) ?_
  refine zfmc (r_getf h (pc := 94) (ix := 40) (by decide +kernel) ckX2 5 (by decide) wk_fcd9e551a0) ?_
  refine zfmc (r_i2l h (pc := 97) (by decide +kernel)) ?_
  refine zfmc (r_aload_n h (pc := 98) (kf := 0) 0 (by decide +kernel) rfl) ?_
  refine zfmc (r_iload h (pc := 99) 5 (by decide +kernel)) ?_
  refine zfmc (r_callV h (pc := 101) (ix := 149) (by decide +kernel) ckX2 1 mcX2_reckon wk_2cef8a4eff wk_2fccedef45 wk_37b63c1f6f rfl) ?_
  refine zfmc (r_i2l h (pc := 104) (by decide +kernel)) ?_
  refine zfmc (r_ladd h (pc := 105) (by decide +kernel)) ?_
  refine zfmc (r_sipush h (pc := 106) (z := 999) (by decide +kernel) (999) (by decide +kernel)) ?_
  refine zfmc (r_callS h (pc := 109) (ix := 152) (by decide +kernel) 2 mcX2_held wk_0cd5eab851 wk_78f11518d3) ?_
  refine zfmc (r_putf h (pc := 112) (ix := 40) (by decide +kernel) ckX2 5 (by decide) 0 (fty := tyX2 5) (tyX2_ok 5 (by decide)) rfl rfl wk_fcd9e551a0) ?_
  refine zfmc (r_goto h (pc := 115) (off := 105) (by decide +kernel) 220 (by decide +kernel)) ?_
  refine zfmc (r_aload_n h (pc := 118) (kf := 0) 0 (by decide +kernel) rfl) ?_
  refine zfmc (r_aload_n h (pc := 119) (kf := 0) 0 (by decide +kernel) rfl) ?_
  refine zfmc (r_iload h (pc := 120) 5 (by decide +kernel)) ?_
  refine zfmc (r_callV h (pc := 122) (ix := 149) (by decide +kernel) ckX2 1 mcX2_reckon wk_2cef8a4eff wk_2fccedef45 wk_37b63c1f6f rfl) ?_
  refine zfmc (r_i2l h (pc := 125) (by decide +kernel)) ?_
  refine zfmc (r_bipush h (pc := 126) (z := 9) (by decide +kernel) (9) (by decide +kernel)) ?_
  refine zfmc (r_callS h (pc := 128) (ix := 152) (by decide +kernel) 2 mcX2_held wk_0cd5eab851 wk_78f11518d3) ?_
  refine zfmc (r_callV h (pc := 131) (ix := 81) (by decide +kernel) ckX2 1 mcX2_draw wk_a456b20dae wk_8750560a85 wk_a7d4056845 rfl) ?_
  refine zfmc (r_goto h (pc := 134) (off := 86) (by decide +kernel) 220 (by decide +kernel)) ?_
  refine zfmc (r_aload_n h (pc := 137) (kf := 0) 0 (by decide +kernel) rfl) ?_
  refine zfmc (r_aload_n h (pc := 138) (kf := 0) 0 (by decide +kernel) rfl) ?_
  refine zfmc (r_getf h (pc := 139) (ix := 44) (by decide +kernel) ckX2 6 (by decide) wk_1a9d89c54c) ?_
  refine zfmc (r_i2l h (pc := 142) (by decide +kernel)) ?_
  refine zfmc (r_aload_n h (pc := 143) (kf := 0) 0 (by decide +kernel) rfl) ?_
  refine zfmc (r_iload h (pc := 144) 5 (by decide +kernel)) ?_
  refine zfmc (r_callV h (pc := 146) (ix := 149) (by decide +kernel) ckX2 1 mcX2_reckon wk_2cef8a4eff wk_2fccedef45 wk_37b63c1f6f rfl) ?_
  refine zfmc (r_i2l h (pc := 149) (by decide +kernel)) ?_
  refine zfmc (r_ladd h (pc := 150) (by decide +kernel)) ?_
  refine zfmc (r_bipush h (pc := 151) (z := 9) (by decide +kernel) (9) (by decide +kernel)) ?_
  refine zfmc (r_callS h (pc := 153) (ix := 152) (by decide +kernel) 2 mcX2_held wk_0cd5eab851 wk_78f11518d3) ?_
  refine zfmc (r_putf h (pc := 156) (ix := 44) (by decide +kernel) ckX2 6 (by decide) 0 (fty := tyX2 6) (tyX2_ok 6 (by decide)) rfl rfl wk_1a9d89c54c) ?_
  refine zfmc (r_goto h (pc := 159) (off := 61) (by decide +kernel) 220 (by decide +kernel)) ?_
  refine zfmc (r_aload_n h (pc := 162) (kf := 0) 0 (by decide +kernel) rfl) ?_
  refine zfmc (r_iload h (pc := 163) 4 (by decide +kernel)) ?_
  refine zfmc (r_callV h (pc := 165) (ix := 156) (by decide +kernel) ckX2 1 mcX2_trashUnplayed wk_81a2845d6f wk_b059061f90 wk_594f136ed9 rfl) ?_
  refine zfmc (r_goto h (pc := 168) (off := 52) (by decide +kernel) 220 (by decide +kernel)) ?_
  refine zfmc (r_aload_n h (pc := 171) (kf := 0) 0 (by decide +kernel) rfl) ?_
  refine zfmc (r_getf h (pc := 172) (ix := 27) (by decide +kernel) ckX2 2 (by decide) wk_bc611ce136) ?_
  refine zfmc (r_iload h (pc := 175) 4 (by decide +kernel)) ?_
  refine zfmc (r_callV h (pc := 177) (ix := 114) (by decide +kernel) ckX5 1 mcX5_get wk_d096485f84 wk_3bb576bd7a wk_1db6b0b94a rfl) ?_
  refine zfmc (r_iload h (pc := 180) 4 (by decide +kernel)) ?_
  refine zfmc (r_iload_n h (pc := 182) (kf := 1) 1 (by decide +kernel) rfl) ?_
  refine zfmc (r_icmp_ne h (pc := 183) (off := 7) (by decide +kernel) 190 (by decide +kernel)) ?_
  refine zfmc (r_iconst h (pc := 186) (z := 1) (by decide +kernel) (1) (by decide +kernel)) ?_
  refine zfmc (r_goto h (pc := 187) (off := 4) (by decide +kernel) 191 (by decide +kernel)) ?_
  refine zfmc (r_iconst h (pc := 190) (z := 0) (by decide +kernel) (0) (by decide +kernel)) ?_
  refine zfmc (r_icmp_le h (pc := 191) (off := 29) (by decide +kernel) 220 (by decide +kernel)) ?_
  refine zfmc (r_aload_n h (pc := 194) (kf := 0) 0 (by decide +kernel) rfl) ?_
  refine zfmc (r_aload_n h (pc := 195) (kf := 0) 0 (by decide +kernel) rfl) ?_
  refine zfmc (r_getf h (pc := 196) (ix := 40) (by decide +kernel) ckX2 5 (by decide) wk_fcd9e551a0) ?_
  refine zfmc (r_i2l h (pc := 199) (by decide +kernel)) ?_
  refine zfmc (r_aload_n h (pc := 200) (kf := 0) 0 (by decide +kernel) rfl) ?_
  refine zfmc (r_iload h (pc := 201) 5 (by decide +kernel)) ?_
  refine zfmc (r_callV h (pc := 203) (ix := 149) (by decide +kernel) ckX2 1 mcX2_reckon wk_2cef8a4eff wk_2fccedef45 wk_37b63c1f6f rfl) ?_
  refine zfmc (r_i2l h (pc := 206) (by decide +kernel)) ?_
  refine zfmc (r_ladd h (pc := 207) (by decide +kernel)) ?_
  refine zfmc (r_sipush h (pc := 208) (z := 999) (by decide +kernel) (999) (by decide +kernel)) ?_
  refine zfmc (r_callS h (pc := 211) (ix := 152) (by decide +kernel) 2 mcX2_held wk_0cd5eab851 wk_78f11518d3) ?_
  refine zfmc (r_putf h (pc := 214) (ix := 40) (by decide +kernel) ckX2 5 (by decide) 0 (fty := tyX2 5) (tyX2_ok 5 (by decide)) rfl rfl wk_fcd9e551a0) ?_
  refine zfmc (r_goto h (pc := 217) (off := 3) (by decide +kernel) 220 (by decide +kernel)) ?_
  refine zfmc (r_return h (pc := 220) (by decide +kernel) rfl) ?_
  exact zfm0)
def tb_X2_held (E : ZEX) (d mc ms : Nat) : List (Nat × ZStep) := [(0, s_lload 0 1), (1, s_const (.long 0) 2), (2, s_lcmp 3), (3, s_if_ge 10 6), (6, s_const (.int (0)) 7), (7, s_goto 23), (10, s_lload 0 11), (11, s_iload 2 12), (12, s_i2l 13), (13, s_lcmp 14), (14, s_if_le 21 17), (17, s_iload 2 18), (18, s_goto 23), (21, s_lload 0 22), (22, s_l2i 23), (23, s_ireturn)]
set_option maxRecDepth 20000 in
theorem ok_X2_held {E : ZEX} {X : ZMX} {d mc ms : Nat} {P : ZPT} {T : ZTT} (h : ZCX E X MX2_held d mc ms P T) : ∀ pc, ZRow E X MX2_held mc ms P T pc (ztb (tb_X2_held E d mc ms) pc) := ztb_ok (by
  unfold tb_X2_held
  refine zfmc (r_lload_n h (pc := 0) (kf := 0) 0 (by decide +kernel) rfl) ?_
  refine zfmc (r_lconst h (pc := 1) (z := 0) (by decide +kernel) 0 (by decide +kernel)) ?_
  refine zfmc (r_lcmp h (pc := 2) (by decide +kernel)) ?_
  refine zfmc (r_if_ge h (pc := 3) (off := 7) (by decide +kernel) 10 (by decide +kernel)) ?_
  refine zfmc (r_iconst h (pc := 6) (z := 0) (by decide +kernel) (0) (by decide +kernel)) ?_
  refine zfmc (r_goto h (pc := 7) (off := 16) (by decide +kernel) 23 (by decide +kernel)) ?_
  refine zfmc (r_lload_n h (pc := 10) (kf := 0) 0 (by decide +kernel) rfl) ?_
  refine zfmc (r_iload_n h (pc := 11) (kf := 2) 2 (by decide +kernel) rfl) ?_
  refine zfmc (r_i2l h (pc := 12) (by decide +kernel)) ?_
  refine zfmc (r_lcmp h (pc := 13) (by decide +kernel)) ?_
  refine zfmc (r_if_le h (pc := 14) (off := 7) (by decide +kernel) 21 (by decide +kernel)) ?_
  refine zfmc (r_iload_n h (pc := 17) (kf := 2) 2 (by decide +kernel) rfl) ?_
  refine zfmc (r_goto h (pc := 18) (off := 5) (by decide +kernel) 23 (by decide +kernel)) ?_
  refine zfmc (r_lload_n h (pc := 21) (kf := 0) 0 (by decide +kernel) rfl) ?_
  refine zfmc (r_l2i h (pc := 22) (by decide +kernel)) ?_
  refine zfmc (r_ireturn h (pc := 23) (by decide +kernel) rfl) ?_
  exact zfm0)
def tb_X2_trashUnplayed (E : ZEX) (d mc ms : Nat) : List (Nat × ZStep) := [(0, s_aload 0 1), (1, s_getf 1 1 4), (4, s_iload 1 5), (5, s_aload 0 6), (6, s_getf 1 8 9), (9, s_callV E d mc ms 4 MX5_find 2 12), (12, s_istore 2 13), (13, s_iload 2 14), (14, s_const (.int (-1)) 15), (15, s_icmp_eq 45 18), (18, s_aload 0 19), (19, s_getf 1 1 22), (22, s_iload 2 23), (23, s_const (.int (1)) 24), (24, s_callV E d mc ms 4 MX5_cut 2 27), (27, s_aload 0 28), (28, s_getf 1 4 31), (31, s_iload 1 32), (32, s_callV E d mc ms 10 MX11_lose 1 35), (35, s_aload 0 36), (36, s_dup 37), (37, s_getf 1 9 40), (40, s_const (.int (1)) 41), (41, s_iadd 42), (42, s_putf 1 9 0 45), (45, s_return)]
set_option maxRecDepth 20000 in
theorem ok_X2_trashUnplayed {E : ZEX} {X : ZMX} {d mc ms : Nat} {P : ZPT} {T : ZTT} (h : ZCX E X MX2_trashUnplayed d mc ms P T) : ∀ pc, ZRow E X MX2_trashUnplayed mc ms P T pc (ztb (tb_X2_trashUnplayed E d mc ms) pc) := ztb_ok (by
  unfold tb_X2_trashUnplayed
  refine zfmc (r_aload_n h (pc := 0) (kf := 0) 0 (by decide +kernel) rfl) ?_
  refine zfmc (r_getf h (pc := 1) (ix := 23) (by decide +kernel) ckX2 1 (by decide) wk_6bb8abc6ae) ?_
  refine zfmc (r_iload_n h (pc := 4) (kf := 1) 1 (by decide +kernel) rfl) ?_
  refine zfmc (r_aload_n h (pc := 5) (kf := 0) 0 (by decide +kernel) rfl) ?_
  refine zfmc (r_getf h (pc := 6) (ix := 50) (by decide +kernel) ckX2 8 (by decide) wk_d945692295) ?_
  refine zfmc (r_callV h (pc := 9) (ix := 159) (by decide +kernel) ckX5 2 mcX5_find wk_2edc606aa4 wk_e2244f031c wk_f0df594bc9 rfl) ?_
  refine zfmc (r_istore_n h (pc := 12) (kf := 2) 2 (by decide +kernel) rfl (by decide +kernel)) ?_
  refine zfmc (r_iload_n h (pc := 13) (kf := 2) 2 (by decide +kernel) rfl) ?_
  refine zfmc (r_iconst h (pc := 14) (z := -1) (by decide +kernel) (-1) (by decide +kernel)) ?_
  refine zfmc (r_icmp_eq h (pc := 15) (off := 30) (by decide +kernel) 45 (by decide +kernel)) ?_
  refine zfmc (r_aload_n h (pc := 18) (kf := 0) 0 (by decide +kernel) rfl) ?_
  refine zfmc (r_getf h (pc := 19) (ix := 23) (by decide +kernel) ckX2 1 (by decide) wk_6bb8abc6ae) ?_
  refine zfmc (r_iload_n h (pc := 22) (kf := 2) 2 (by decide +kernel) rfl) ?_
  refine zfmc (r_iconst h (pc := 23) (z := 1) (by decide +kernel) (1) (by decide +kernel)) ?_
  refine zfmc (r_callV h (pc := 24) (ix := 163) (by decide +kernel) ckX5 2 mcX5_cut wk_626fd87c2d wk_44bf708421 wk_854227e5ee rfl) ?_
  refine zfmc (r_aload_n h (pc := 27) (kf := 0) 0 (by decide +kernel) rfl) ?_
  refine zfmc (r_getf h (pc := 28) (ix := 36) (by decide +kernel) ckX2 4 (by decide) wk_27d9be5ecc) ?_
  refine zfmc (r_iload_n h (pc := 31) (kf := 1) 1 (by decide +kernel) rfl) ?_
  refine zfmc (r_callV h (pc := 32) (ix := 166) (by decide +kernel) ckX11 1 mcX11_lose wk_18fed2f7c7 wk_984258ba47 wk_cd568a7c4d rfl) ?_
  refine zfmc (r_aload_n h (pc := 35) (kf := 0) 0 (by decide +kernel) rfl) ?_
  refine zfmc (r_dup h (pc := 36) (by decide +kernel)) ?_
  refine zfmc (r_getf h (pc := 37) (ix := 53) (by decide +kernel) ckX2 9 (by decide) wk_4ba6249de5) ?_
  refine zfmc (r_iconst h (pc := 40) (z := 1) (by decide +kernel) (1) (by decide +kernel)) ?_
  refine zfmc (r_iadd h (pc := 41) (by decide +kernel)) ?_
  refine zfmc (r_putf h (pc := 42) (ix := 53) (by decide +kernel) ckX2 9 (by decide) 0 (fty := tyX2 9) (tyX2_ok 9 (by decide)) rfl rfl wk_4ba6249de5) ?_
  refine zfmc (r_return h (pc := 45) (by decide +kernel) rfl) ?_
  exact zfm0)
def tb_X2_followOrders (E : ZEX) (d mc ms : Nat) : List (Nat × ZStep) := [(0, s_aload 0 1), (1, s_getf 1 0 4), (4, s_getf 3 5 7), (7, s_astore 3 8), (8, s_const (.int (0)) 9), (9, s_istore 4 11), (11, s_iload 4 13), (13, s_aload 3 14), (14, s_getf 5 2 17), (17, s_icmp_ge 68 20), (20, s_iload 4 22), (22, s_iload 2 23), (23, s_icmp_eq 62 26), (26, s_aload 3 27), (27, s_getf 5 11 30), (30, s_iload 4 32), (32, s_callV E d mc ms 4 MX5_get 1 35), (35, s_iload 1 36), (36, s_icmp_ne 62 39), (39, s_aload 0 40), (40, s_iload 1 41), (41, s_aload 3 42), (42, s_getf 5 12 45), (45, s_iload 4 47), (47, s_callV E d mc ms 4 MX5_get 1 50), (50, s_aload 3 51), (51, s_getf 5 13 54), (54, s_iload 4 56), (56, s_callV E d mc ms 4 MX5_get 1 59), (59, s_callV E d mc ms 1 MX2_follow 3 62), (62, s_iinc 4 (1) 65), (65, s_goto 11), (68, s_return)]
set_option maxRecDepth 20000 in
theorem ok_X2_followOrders {E : ZEX} {X : ZMX} {d mc ms : Nat} {P : ZPT} {T : ZTT} (h : ZCX E X MX2_followOrders d mc ms P T) : ∀ pc, ZRow E X MX2_followOrders mc ms P T pc (ztb (tb_X2_followOrders E d mc ms) pc) := ztb_ok (by
  unfold tb_X2_followOrders
  refine zfmc (r_aload_n h (pc := 0) (kf := 0) 0 (by decide +kernel) rfl) ?_
  refine zfmc (r_getf h (pc := 1) (ix := 12) (by decide +kernel) ckX2 0 (by decide) wk_6445df9d3b) ?_
  refine zfmc (r_getfN h (pc := 4) (ix := 59) (by decide +kernel) ckX4 5 (by decide) wk_835e837b02) ?_
  refine zfmc (r_astore_n h (pc := 7) (kf := 3) 3 (by decide +kernel) rfl (by decide +kernel)) ?_
  refine zfmc (r_iconst h (pc := 8) (z := 0) (by decide +kernel) (0) (by decide +kernel)) ?_
  refine zfmc (r_istore h (pc := 9) 4 (by decide +kernel) (by decide +kernel)) ?_
  refine zfmc (r_iload h (pc := 11) 4 (by decide +kernel)) ?_
  refine zfmc (r_aload_n h (pc := 13) (kf := 3) 3 (by decide +kernel) rfl) ?_
  refine zfmc (r_getfN h (pc := 14) (ix := 169) (by decide +kernel) ckX6 2 (by decide) wk_2555cc5ec0) ?_
  refine zfmc (r_icmp_ge h (pc := 17) (off := 51) (by decide +kernel) 68 (by decide +kernel)) ?_
  refine zfmc (r_iload h (pc := 20) 4 (by decide +kernel)) ?_
  refine zfmc (r_iload_n h (pc := 22) (kf := 2) 2 (by decide +kernel) rfl) ?_
  refine zfmc (r_icmp_eq h (pc := 23) (off := 39) (by decide +kernel) 62 (by decide +kernel)) ?_
  refine zfmc (r_aload_n h (pc := 26) (kf := 3) 3 (by decide +kernel) rfl) ?_
  refine zfmc (r_getfN h (pc := 27) (ix := 172) (by decide +kernel) ckX6 11 (by decide) wk_86b2718bda) ?_
  refine zfmc (r_iload h (pc := 30) 4 (by decide +kernel)) ?_
  refine zfmc (r_callV h (pc := 32) (ix := 114) (by decide +kernel) ckX5 1 mcX5_get wk_d096485f84 wk_3bb576bd7a wk_1db6b0b94a rfl) ?_
  refine zfmc (r_iload_n h (pc := 35) (kf := 1) 1 (by decide +kernel) rfl) ?_
  refine zfmc (r_icmp_ne h (pc := 36) (off := 26) (by decide +kernel) 62 (by decide +kernel)) ?_
  refine zfmc (r_aload_n h (pc := 39) (kf := 0) 0 (by decide +kernel) rfl) ?_
  refine zfmc (r_iload_n h (pc := 40) (kf := 1) 1 (by decide +kernel) rfl) ?_
  refine zfmc (r_aload_n h (pc := 41) (kf := 3) 3 (by decide +kernel) rfl) ?_
  refine zfmc (r_getfN h (pc := 42) (ix := 175) (by decide +kernel) ckX6 12 (by decide) wk_57c5990029) ?_
  refine zfmc (r_iload h (pc := 45) 4 (by decide +kernel)) ?_
  refine zfmc (r_callV h (pc := 47) (ix := 114) (by decide +kernel) ckX5 1 mcX5_get wk_d096485f84 wk_3bb576bd7a wk_1db6b0b94a rfl) ?_
  refine zfmc (r_aload_n h (pc := 50) (kf := 3) 3 (by decide +kernel) rfl) ?_
  refine zfmc (r_getfN h (pc := 51) (ix := 178) (by decide +kernel) ckX6 13 (by decide) wk_5d17234cb0) ?_
  refine zfmc (r_iload h (pc := 54) 4 (by decide +kernel)) ?_
  refine zfmc (r_callV h (pc := 56) (ix := 114) (by decide +kernel) ckX5 1 mcX5_get wk_d096485f84 wk_3bb576bd7a wk_1db6b0b94a rfl) ?_
  refine zfmc (r_callV h (pc := 59) (ix := 181) (by decide +kernel) ckX2 3 mcX2_follow wk_97aaf3228d wk_cc32fa01b4 wk_ec3b4f7b35 rfl) ?_
  refine zfmc (r_iinc h (pc := 62) 4 (z := 1) (by decide +kernel) (1) (by decide +kernel) (by decide +kernel)) ?_
  refine zfmc (r_goto h (pc := 65) (off := -54) (by decide +kernel) 11 (by decide +kernel)) ?_
  refine zfmc (r_return h (pc := 68) (by decide +kernel) rfl) ?_
  exact zfm0)
def tb_X2_follow (E : ZEX) (d mc ms : Nat) : List (Nat × ZStep) := [(0, s_aload 0 1), (1, s_getf 1 0 4), (4, s_getf 3 5 7), (7, s_getf 5 3 10), (10, s_iload 2 11), (11, s_callV E d mc ms 4 MX5_get 1 14), (14, s_istore 4 16), (16, s_aload 0 17), (17, s_getf 1 6 20), (20, s_if_le 122 23), (23, s_aload 0 24), (24, s_getf 1 5 27), (27, s_iload 4 29), (29, s_icmp_lt 122 32), (32, s_aload 0 33), (33, s_getf 1 0 36), (36, s_iload 1 37), (37, s_iload 2 38), (38, s_callV E d mc ms 3 MX4_canGain 2 41), (41, s_if_eq 122 44), (44, s_iload 3 45), (45, s_const (.int (-1)) 46), (46, s_icmp_eq 57 49), (49, s_aload 0 50), (50, s_iload 3 51), (51, s_callV E d mc ms 1 MX2_reckon 1 54), (54, s_if_eq 122 57), (57, s_aload 0 58), (58, s_getf 1 0 61), (61, s_iload 1 62), (62, s_iload 2 63), (63, s_callV E d mc ms 3 MX4_gain 2 66), (66, s_aload 0 67), (67, s_getf 1 0 70), (70, s_getf 3 2 73), (73, s_iload 2 74), (74, s_const (.int (1)) 75), (75, s_callV E d mc ms 4 MX5_raise 2 78), (78, s_aload 0 79), (79, s_getf 1 4 82), (82, s_dup 83), (83, s_getf 10 7 86), (86, s_const (.int (1)) 87), (87, s_iadd 88), (88, s_putf 10 7 0 91), (91, s_aload 0 92), (92, s_dup 93), (93, s_getf 1 10 96), (96, s_const (.int (1)) 97), (97, s_iadd 98), (98, s_putf 1 10 0 101), (101, s_aload 0 102), (102, s_dup 103), (103, s_getf 1 5 106), (106, s_iload 4 108), (108, s_isub 109), (109, s_putf 1 5 0 112), (112, s_aload 0 113), (113, s_dup 114), (114, s_getf 1 6 117), (117, s_const (.int (1)) 118), (118, s_isub 119), (119, s_putf 1 6 0 122), (122, s_return)]
set_option maxRecDepth 20000 in
theorem ok_X2_follow {E : ZEX} {X : ZMX} {d mc ms : Nat} {P : ZPT} {T : ZTT} (h : ZCX E X MX2_follow d mc ms P T) : ∀ pc, ZRow E X MX2_follow mc ms P T pc (ztb (tb_X2_follow E d mc ms) pc) := ztb_ok (by
  unfold tb_X2_follow
  refine zfmc (r_aload_n h (pc := 0) (kf := 0) 0 (by decide +kernel) rfl) ?_
  refine zfmc (r_getf h (pc := 1) (ix := 12) (by decide +kernel) ckX2 0 (by decide) wk_6445df9d3b) ?_
  refine zfmc (r_getfN h (pc := 4) (ix := 59) (by decide +kernel) ckX4 5 (by decide) wk_835e837b02) ?_
  refine zfmc (r_getfN h (pc := 7) (ix := 185) (by decide +kernel) ckX6 3 (by decide) wk_d83b1c6501) ?_
  refine zfmc (r_iload_n h (pc := 10) (kf := 2) 2 (by decide +kernel) rfl) ?_
  refine zfmc (r_callV h (pc := 11) (ix := 114) (by decide +kernel) ckX5 1 mcX5_get wk_d096485f84 wk_3bb576bd7a wk_1db6b0b94a rfl) ?_
  refine zfmc (r_istore h (pc := 14) 4 (by decide +kernel) (by decide +kernel)) ?_
  refine zfmc (r_aload_n h (pc := 16) (kf := 0) 0 (by decide +kernel) rfl) ?_
  refine zfmc (r_getf h (pc := 17) (ix := 44) (by decide +kernel) ckX2 6 (by decide) wk_1a9d89c54c) ?_
  refine zfmc (r_if_le h (pc := 20) (off := 102) (by decide +kernel) 122 (by decide +kernel)) ?_
  refine zfmc (r_aload_n h (pc := 23) (kf := 0) 0 (by decide +kernel) rfl) ?_
  refine zfmc (r_getf h (pc := 24) (ix := 40) (by decide +kernel) ckX2 5 (by decide) wk_fcd9e551a0) ?_
  refine zfmc (r_iload h (pc := 27) 4 (by decide +kernel)) ?_
  refine zfmc (r_icmp_lt h (pc := 29) (off := 93) (by decide +kernel) 122 (by decide +kernel)) ?_
  refine zfmc (r_aload_n h (pc := 32) (kf := 0) 0 (by decide +kernel) rfl) ?_
  refine zfmc (r_getf h (pc := 33) (ix := 12) (by decide +kernel) ckX2 0 (by decide) wk_6445df9d3b) ?_
  refine zfmc (r_iload_n h (pc := 36) (kf := 1) 1 (by decide +kernel) rfl) ?_
  refine zfmc (r_iload_n h (pc := 37) (kf := 2) 2 (by decide +kernel) rfl) ?_
  refine zfmc (r_callV h (pc := 38) (ix := 188) (by decide +kernel) ckX4 2 mcX4_canGain wk_ef75030472 wk_0c9c5250d6 wk_28c121af57 rfl) ?_
  refine zfmc (r_if_eq h (pc := 41) (off := 81) (by decide +kernel) 122 (by decide +kernel)) ?_
  refine zfmc (r_iload_n h (pc := 44) (kf := 3) 3 (by decide +kernel) rfl) ?_
  refine zfmc (r_iconst h (pc := 45) (z := -1) (by decide +kernel) (-1) (by decide +kernel)) ?_
  refine zfmc (r_icmp_eq h (pc := 46) (off := 11) (by decide +kernel) 57 (by decide +kernel)) ?_
  refine zfmc (r_aload_n h (pc := 49) (kf := 0) 0 (by decide +kernel) rfl) ?_
  refine zfmc (r_iload_n h (pc := 50) (kf := 3) 3 (by decide +kernel) rfl) ?_
  refine zfmc (r_callV h (pc := 51) (ix := 149) (by decide +kernel) ckX2 1 mcX2_reckon wk_2cef8a4eff wk_2fccedef45 wk_37b63c1f6f rfl) ?_
  refine zfmc (r_if_eq h (pc := 54) (off := 68) (by decide +kernel) 122 (by decide +kernel)) ?_
  refine zfmc (r_aload_n h (pc := 57) (kf := 0) 0 (by decide +kernel) rfl) ?_
  refine zfmc (r_getf h (pc := 58) (ix := 12) (by decide +kernel) ckX2 0 (by decide) wk_6445df9d3b) ?_
  refine zfmc (r_iload_n h (pc := 61) (kf := 1) 1 (by decide +kernel) rfl) ?_
  refine zfmc (r_iload_n h (pc := 62) (kf := 2) 2 (by decide +kernel) rfl) ?_
  refine zfmc (r_callV h (pc := 63) (ix := 192) (by decide +kernel) ckX4 2 mcX4_gain wk_105b2081ed wk_fd890054bf wk_e15baf71b6 rfl) ?_
  refine zfmc (r_aload_n h (pc := 66) (kf := 0) 0 (by decide +kernel) rfl) ?_
  refine zfmc (r_getf h (pc := 67) (ix := 12) (by decide +kernel) ckX2 0 (by decide) wk_6445df9d3b) ?_
  refine zfmc (r_getfN h (pc := 70) (ix := 195) (by decide +kernel) ckX4 2 (by decide) wk_0308d1fb6f) ?_
  refine zfmc (r_iload_n h (pc := 73) (kf := 2) 2 (by decide +kernel) rfl) ?_
  refine zfmc (r_iconst h (pc := 74) (z := 1) (by decide +kernel) (1) (by decide +kernel)) ?_
  refine zfmc (r_callV h (pc := 75) (ix := 118) (by decide +kernel) ckX5 2 mcX5_raise wk_0355c8e134 wk_a9227e5c0a wk_5f3d568753 rfl) ?_
  refine zfmc (r_aload_n h (pc := 78) (kf := 0) 0 (by decide +kernel) rfl) ?_
  refine zfmc (r_getf h (pc := 79) (ix := 36) (by decide +kernel) ckX2 4 (by decide) wk_27d9be5ecc) ?_
  refine zfmc (r_dup h (pc := 82) (by decide +kernel)) ?_
  refine zfmc (r_getfN h (pc := 83) (ix := 198) (by decide +kernel) ckX11 7 (by decide) wk_0d1d2d13f0) ?_
  refine zfmc (r_iconst h (pc := 86) (z := 1) (by decide +kernel) (1) (by decide +kernel)) ?_
  refine zfmc (r_iadd h (pc := 87) (by decide +kernel)) ?_
  refine zfmc (r_putfN h (pc := 88) (ix := 198) (by decide +kernel) ckX11 7 (by decide) 0 (fty := tyX11 7) (tyX11_ok 7 (by decide)) rfl rfl wk_0d1d2d13f0) ?_
  refine zfmc (r_aload_n h (pc := 91) (kf := 0) 0 (by decide +kernel) rfl) ?_
  refine zfmc (r_dup h (pc := 92) (by decide +kernel)) ?_
  refine zfmc (r_getf h (pc := 93) (ix := 56) (by decide +kernel) ckX2 10 (by decide) wk_752e412d1d) ?_
  refine zfmc (r_iconst h (pc := 96) (z := 1) (by decide +kernel) (1) (by decide +kernel)) ?_
  refine zfmc (r_iadd h (pc := 97) (by decide +kernel)) ?_
  refine zfmc (r_putf h (pc := 98) (ix := 56) (by decide +kernel) ckX2 10 (by decide) 0 (fty := tyX2 10) (tyX2_ok 10 (by decide)) rfl rfl wk_752e412d1d) ?_
  refine zfmc (r_aload_n h (pc := 101) (kf := 0) 0 (by decide +kernel) rfl) ?_
  refine zfmc (r_dup h (pc := 102) (by decide +kernel)) ?_
  refine zfmc (r_getf h (pc := 103) (ix := 40) (by decide +kernel) ckX2 5 (by decide) wk_fcd9e551a0) ?_
  refine zfmc (r_iload h (pc := 106) 4 (by decide +kernel)) ?_
  refine zfmc (r_isub h (pc := 108) (by decide +kernel)) ?_
  refine zfmc (r_putf h (pc := 109) (ix := 40) (by decide +kernel) ckX2 5 (by decide) 0 (fty := tyX2 5) (tyX2_ok 5 (by decide)) rfl rfl wk_fcd9e551a0) ?_
  refine zfmc (r_aload_n h (pc := 112) (kf := 0) 0 (by decide +kernel) rfl) ?_
  refine zfmc (r_dup h (pc := 113) (by decide +kernel)) ?_
  refine zfmc (r_getf h (pc := 114) (ix := 44) (by decide +kernel) ckX2 6 (by decide) wk_1a9d89c54c) ?_
  refine zfmc (r_iconst h (pc := 117) (z := 1) (by decide +kernel) (1) (by decide +kernel)) ?_
  refine zfmc (r_isub h (pc := 118) (by decide +kernel)) ?_
  refine zfmc (r_putf h (pc := 119) (ix := 44) (by decide +kernel) ckX2 6 (by decide) 0 (fty := tyX2 6) (tyX2_ok 6 (by decide)) rfl rfl wk_1a9d89c54c) ?_
  refine zfmc (r_return h (pc := 122) (by decide +kernel) rfl) ?_
  exact zfm0)
def tb_X2_reckon (E : ZEX) (d mc ms : Nat) : List (Nat × ZStep) := [(0, s_aload 0 1), (1, s_getf 1 0 4), (4, s_getf 3 5 7), (7, s_getf 5 14 10), (10, s_astore 2 11), (11, s_iload 1 12), (12, s_istore 3 13), (13, s_iload 3 14), (14, s_aload 2 15), (15, s_callV E d mc ms 0 MX1_size 0 18), (18, s_icmp_ge 161 21), (21, s_aload 2 22), (22, s_iload 3 23), (23, s_callV E d mc ms 0 MX1_operation 1 26), (26, s_const (.ref (zeK E 1)) 29), (29, s_acmp_eq 161 32), (32, s_aload 2 33), (33, s_iload 3 34), (34, s_callV E d mc ms 0 MX1_operation 1 37), (37, s_astore 4 39), (39, s_aload 4 41), (41, s_const (.ref (zeK E 4)) 44), (44, s_acmp_ne 65 47), (47, s_aload 0 48), (48, s_getf 1 3 51), (51, s_aload 0 52), (52, s_getf 1 3 55), (55, s_callV E d mc ms 4 MX5_takeLast 0 58), (58, s_ineg 59), (59, s_callV E d mc ms 4 MX5_add 1 62), (62, s_goto 155), (65, s_aload 4 67), (67, s_const (.ref (zeK E 26)) 70), (70, s_acmp_ne 92 73), (73, s_aload 0 74), (74, s_getf 1 3 77), (77, s_const (.int (1)) 78), (78, s_aload 0 79), (79, s_getf 1 3 82), (82, s_callV E d mc ms 4 MX5_takeLast 0 85), (85, s_isub 86), (86, s_callV E d mc ms 4 MX5_add 1 89), (89, s_goto 155), (92, s_aload 4 94), (94, s_callS E d mc ms MX2_isJoining 1 97), (97, s_if_eq 137 100), (100, s_aload 0 101), (101, s_getf 1 3 104), (104, s_callV E d mc ms 4 MX5_takeLast 0 107), (107, s_istore 5 109), (109, s_aload 0 110), (110, s_getf 1 3 113), (113, s_callV E d mc ms 4 MX5_takeLast 0 116), (116, s_istore 6 118), (118, s_aload 0 119), (119, s_getf 1 3 122), (122, s_aload 4 124), (124, s_iload 6 126), (126, s_iload 5 128), (128, s_callS E d mc ms MX2_joined 3 131), (131, s_callV E d mc ms 4 MX5_add 1 134), (134, s_goto 155), (137, s_aload 0 138), (138, s_getf 1 3 141), (141, s_aload 0 142), (142, s_aload 4 144), (144, s_aload 2 145), (145, s_iload 3 146), (146, s_callV E d mc ms 0 MX1_operand 1 149), (149, s_callV E d mc ms 1 MX2_known 2 152), (152, s_callV E d mc ms 4 MX5_add 1 155), (155, s_iinc 3 (1) 158), (158, s_goto 13), (161, s_aload 0 162), (162, s_getf 1 3 165), (165, s_callV E d mc ms 4 MX5_takeLast 0 168), (168, s_ireturn)]
set_option maxRecDepth 20000 in
theorem ok_X2_reckon {E : ZEX} {X : ZMX} {d mc ms : Nat} {P : ZPT} {T : ZTT} (h : ZCX E X MX2_reckon d mc ms P T) : ∀ pc, ZRow E X MX2_reckon mc ms P T pc (ztb (tb_X2_reckon E d mc ms) pc) := ztb_ok (by
  unfold tb_X2_reckon
  refine zfmc (r_aload_n h (pc := 0) (kf := 0) 0 (by decide +kernel) rfl) ?_
  refine zfmc (r_getf h (pc := 1) (ix := 12) (by decide +kernel) ckX2 0 (by decide) wk_6445df9d3b) ?_
  refine zfmc (r_getfN h (pc := 4) (ix := 59) (by decide +kernel) ckX4 5 (by decide) wk_835e837b02) ?_
  refine zfmc (r_getfN h (pc := 7) (ix := 200) (by decide +kernel) ckX6 14 (by decide) wk_b7d110e7fd) ?_
  refine zfmc (r_astore_n h (pc := 10) (kf := 2) 2 (by decide +kernel) rfl (by decide +kernel)) ?_
  refine zfmc (r_iload_n h (pc := 11) (kf := 1) 1 (by decide +kernel) rfl) ?_
  refine zfmc (r_istore_n h (pc := 12) (kf := 3) 3 (by decide +kernel) rfl (by decide +kernel)) ?_
  refine zfmc (r_iload_n h (pc := 13) (kf := 3) 3 (by decide +kernel) rfl) ?_
  refine zfmc (r_aload_n h (pc := 14) (kf := 2) 2 (by decide +kernel) rfl) ?_
  refine zfmc (r_callV h (pc := 15) (ix := 204) (by decide +kernel) ckX1 0 mcX1_size wk_9b426dd4bc wk_2ccef7fa1a wk_cb7ec85336 rfl) ?_
  refine zfmc (r_icmp_ge h (pc := 18) (off := 143) (by decide +kernel) 161 (by decide +kernel)) ?_
  refine zfmc (r_aload_n h (pc := 21) (kf := 2) 2 (by decide +kernel) rfl) ?_
  refine zfmc (r_iload_n h (pc := 22) (kf := 3) 3 (by decide +kernel) rfl) ?_
  refine zfmc (r_callV h (pc := 23) (ix := 207) (by decide +kernel) ckX1 1 mcX1_operation wk_c7586ee7be wk_5070b1cfac wk_9927a91261 rfl) ?_
  refine zfmc (r_getstatic h (pc := 26) (ix := 210) (by decide +kernel) (.ref (zeK E 1)) (zx_sg h.ok 1 (by decide)) wk_8d3685d85b) ?_
  refine zfmc (r_acmp_eq h (pc := 29) (off := 132) (by decide +kernel) 161 (by decide +kernel)) ?_
  refine zfmc (r_aload_n h (pc := 32) (kf := 2) 2 (by decide +kernel) rfl) ?_
  refine zfmc (r_iload_n h (pc := 33) (kf := 3) 3 (by decide +kernel) rfl) ?_
  refine zfmc (r_callV h (pc := 34) (ix := 207) (by decide +kernel) ckX1 1 mcX1_operation wk_c7586ee7be wk_5070b1cfac wk_9927a91261 rfl) ?_
  refine zfmc (r_astore h (pc := 37) 4 (by decide +kernel) (by decide +kernel)) ?_
  refine zfmc (r_aload h (pc := 39) 4 (by decide +kernel)) ?_
  refine zfmc (r_getstatic h (pc := 41) (ix := 214) (by decide +kernel) (.ref (zeK E 4)) (zx_sg h.ok 4 (by decide)) wk_aa9285be56) ?_
  refine zfmc (r_acmp_ne h (pc := 44) (off := 21) (by decide +kernel) 65 (by decide +kernel)) ?_
  refine zfmc (r_aload_n h (pc := 47) (kf := 0) 0 (by decide +kernel) rfl) ?_
  refine zfmc (r_getf h (pc := 48) (ix := 30) (by decide +kernel) ckX2 3 (by decide) wk_f7fced4a76) ?_
  refine zfmc (r_aload_n h (pc := 51) (kf := 0) 0 (by decide +kernel) rfl) ?_
  refine zfmc (r_getf h (pc := 52) (ix := 30) (by decide +kernel) ckX2 3 (by decide) wk_f7fced4a76) ?_
  refine zfmc (r_callV h (pc := 55) (ix := 217) (by decide +kernel) ckX5 0 mcX5_takeLast wk_296eaefbf4 wk_4db0a76889 wk_c89b390a70 rfl) ?_
  refine zfmc (r_ineg h (pc := 58) (by decide +kernel)) ?_
  refine zfmc (r_callV h (pc := 59) (ix := 108) (by decide +kernel) ckX5 1 mcX5_add wk_e34e9f52c3 wk_0a50db8e31 wk_45d5950202 rfl) ?_
  refine zfmc (r_goto h (pc := 62) (off := 93) (by decide +kernel) 155 (by decide +kernel)) ?_
  refine zfmc (r_aload h (pc := 65) 4 (by decide +kernel)) ?_
  refine zfmc (r_getstatic h (pc := 67) (ix := 220) (by decide +kernel) (.ref (zeK E 26)) (zx_sg h.ok 26 (by decide)) wk_9466a1c012) ?_
  refine zfmc (r_acmp_ne h (pc := 70) (off := 22) (by decide +kernel) 92 (by decide +kernel)) ?_
  refine zfmc (r_aload_n h (pc := 73) (kf := 0) 0 (by decide +kernel) rfl) ?_
  refine zfmc (r_getf h (pc := 74) (ix := 30) (by decide +kernel) ckX2 3 (by decide) wk_f7fced4a76) ?_
  refine zfmc (r_iconst h (pc := 77) (z := 1) (by decide +kernel) (1) (by decide +kernel)) ?_
  refine zfmc (r_aload_n h (pc := 78) (kf := 0) 0 (by decide +kernel) rfl) ?_
  refine zfmc (r_getf h (pc := 79) (ix := 30) (by decide +kernel) ckX2 3 (by decide) wk_f7fced4a76) ?_
  refine zfmc (r_callV h (pc := 82) (ix := 217) (by decide +kernel) ckX5 0 mcX5_takeLast wk_296eaefbf4 wk_4db0a76889 wk_c89b390a70 rfl) ?_
  refine zfmc (r_isub h (pc := 85) (by decide +kernel)) ?_
  refine zfmc (r_callV h (pc := 86) (ix := 108) (by decide +kernel) ckX5 1 mcX5_add wk_e34e9f52c3 wk_0a50db8e31 wk_45d5950202 rfl) ?_
  refine zfmc (r_goto h (pc := 89) (off := 66) (by decide +kernel) 155 (by decide +kernel)) ?_
  refine zfmc (r_aload h (pc := 92) 4 (by decide +kernel)) ?_
  refine zfmc (r_callS h (pc := 94) (ix := 223) (by decide +kernel) 1 mcX2_isJoining wk_9e13f7af6b wk_230bac7e64) ?_
  refine zfmc (r_if_eq h (pc := 97) (off := 40) (by decide +kernel) 137 (by decide +kernel)) ?_
  refine zfmc (r_aload_n h (pc := 100) (kf := 0) 0 (by decide +kernel) rfl) ?_
  refine zfmc (r_getf h (pc := 101) (ix := 30) (by decide +kernel) ckX2 3 (by decide) wk_f7fced4a76) ?_
  refine zfmc (r_callV h (pc := 104) (ix := 217) (by decide +kernel) ckX5 0 mcX5_takeLast wk_296eaefbf4 wk_4db0a76889 wk_c89b390a70 rfl) ?_
  refine zfmc (r_istore h (pc := 107) 5 (by decide +kernel) (by decide +kernel)) ?_
  refine zfmc (r_aload_n h (pc := 109) (kf := 0) 0 (by decide +kernel) rfl) ?_
  refine zfmc (r_getf h (pc := 110) (ix := 30) (by decide +kernel) ckX2 3 (by decide) wk_f7fced4a76) ?_
  refine zfmc (r_callV h (pc := 113) (ix := 217) (by decide +kernel) ckX5 0 mcX5_takeLast wk_296eaefbf4 wk_4db0a76889 wk_c89b390a70 rfl) ?_
  refine zfmc (r_istore h (pc := 116) 6 (by decide +kernel) (by decide +kernel)) ?_
  refine zfmc (r_aload_n h (pc := 118) (kf := 0) 0 (by decide +kernel) rfl) ?_
  refine zfmc (r_getf h (pc := 119) (ix := 30) (by decide +kernel) ckX2 3 (by decide) wk_f7fced4a76) ?_
  refine zfmc (r_aload h (pc := 122) 4 (by decide +kernel)) ?_
  refine zfmc (r_iload h (pc := 124) 6 (by decide +kernel)) ?_
  refine zfmc (r_iload h (pc := 126) 5 (by decide +kernel)) ?_
  refine zfmc (r_callS h (pc := 128) (ix := 227) (by decide +kernel) 3 mcX2_joined wk_3eb6d1d98e wk_e285651359) ?_
  refine zfmc (r_callV h (pc := 131) (ix := 108) (by decide +kernel) ckX5 1 mcX5_add wk_e34e9f52c3 wk_0a50db8e31 wk_45d5950202 rfl) ?_
  refine zfmc (r_goto h (pc := 134) (off := 21) (by decide +kernel) 155 (by decide +kernel)) ?_
  refine zfmc (r_aload_n h (pc := 137) (kf := 0) 0 (by decide +kernel) rfl) ?_
  refine zfmc (r_getf h (pc := 138) (ix := 30) (by decide +kernel) ckX2 3 (by decide) wk_f7fced4a76) ?_
  refine zfmc (r_aload_n h (pc := 141) (kf := 0) 0 (by decide +kernel) rfl) ?_
  refine zfmc (r_aload h (pc := 142) 4 (by decide +kernel)) ?_
  refine zfmc (r_aload_n h (pc := 144) (kf := 2) 2 (by decide +kernel) rfl) ?_
  refine zfmc (r_iload_n h (pc := 145) (kf := 3) 3 (by decide +kernel) rfl) ?_
  refine zfmc (r_callV h (pc := 146) (ix := 231) (by decide +kernel) ckX1 1 mcX1_operand wk_e5624b72e3 wk_4f26f339b7 wk_05cc759a97 rfl) ?_
  refine zfmc (r_callV h (pc := 149) (ix := 234) (by decide +kernel) ckX2 2 mcX2_known wk_ec3a669224 wk_5841d0b811 wk_2310da5067 rfl) ?_
  refine zfmc (r_callV h (pc := 152) (ix := 108) (by decide +kernel) ckX5 1 mcX5_add wk_e34e9f52c3 wk_0a50db8e31 wk_45d5950202 rfl) ?_
  refine zfmc (r_iinc h (pc := 155) 3 (z := 1) (by decide +kernel) (1) (by decide +kernel) (by decide +kernel)) ?_
  refine zfmc (r_goto h (pc := 158) (off := -145) (by decide +kernel) 13 (by decide +kernel)) ?_
  refine zfmc (r_aload_n h (pc := 161) (kf := 0) 0 (by decide +kernel) rfl) ?_
  refine zfmc (r_getf h (pc := 162) (ix := 30) (by decide +kernel) ckX2 3 (by decide) wk_f7fced4a76) ?_
  refine zfmc (r_callV h (pc := 165) (ix := 217) (by decide +kernel) ckX5 0 mcX5_takeLast wk_296eaefbf4 wk_4db0a76889 wk_c89b390a70 rfl) ?_
  refine zfmc (r_ireturn h (pc := 168) (by decide +kernel) rfl) ?_
  exact zfm0)
def tb_X2_known (E : ZEX) (d mc ms : Nat) : List (Nat × ZStep) := [(0, s_const (.ref (zeK E 47)) 3), (3, s_aload 1 4), (4, s_callK E d mc ms 0 46 MJx29ce0_ordinal_8abf5 0 7), (7, s_ialdK E 8), (8, s_tsw 10 [56, 64, 69, 74, 82, 90, 99, 111] 123), (56, s_aload 0 57), (57, s_getf 1 0 60), (60, s_getf 3 6 63), (63, s_ireturn), (64, s_aload 0 65), (65, s_getf 1 5 68), (68, s_ireturn), (69, s_aload 0 70), (70, s_getf 1 6 73), (73, s_ireturn), (74, s_aload 0 75), (75, s_getf 1 1 78), (78, s_callV E d mc ms 4 MX5_size 0 81), (81, s_ireturn), (82, s_aload 0 83), (83, s_getf 1 4 86), (86, s_getf 10 6 89), (89, s_ireturn), (90, s_aload 0 91), (91, s_getf 1 2 94), (94, s_iload 2 95), (95, s_callV E d mc ms 4 MX5_get 1 98), (98, s_ireturn), (99, s_aload 0 100), (100, s_getf 1 4 103), (103, s_getf 10 2 106), (106, s_iload 2 107), (107, s_callV E d mc ms 4 MX5_get 1 110), (110, s_ireturn), (111, s_aload 0 112), (112, s_getf 1 0 115), (115, s_getf 3 0 118), (118, s_iload 2 119), (119, s_callV E d mc ms 4 MX5_get 1 122), (122, s_ireturn), (123, s_iload 2 124), (124, s_ireturn)]
set_option maxRecDepth 20000 in
theorem ok_X2_known {E : ZEX} {X : ZMX} {d mc ms : Nat} {P : ZPT} {T : ZTT} (h : ZCX E X MX2_known d mc ms P T) : ∀ pc, ZRow E X MX2_known mc ms P T pc (ztb (tb_X2_known E d mc ms) pc) := ztb_ok (by
  unfold tb_X2_known
  refine zfmc (r_getstatic h (pc := 0) (ix := 134) (by decide +kernel) (.ref (zeK E 47)) (zx_sw h.ok) wk_2859e6f440) ?_
  refine zfmc (r_aload_n h (pc := 3) (kf := 1) 1 (by decide +kernel) rfl) ?_
  refine zfmc (r_callU h (pc := 4) (ix := 144) (by decide +kernel) (zx_sgO2 h.ok) 0 mcJx29ce0_ordinal_8abf5 wk_7da2aaab0b (⟨RX8, "ordinal", "()I"⟩ : MethodName) wk_098b042c84 wk_7f528e0d7b wk_644ddbbc93 rfl) ?_
  refine zfmc (r_ialdK h (pc := 7) (by decide +kernel)) ?_
  refine zfmc (r_tsw h (pc := 8) (dflt := 115) (lo := 10) (hi := 17) (offs := #[48, 56, 61, 66, 74, 82, 91, 103]) (len := 48) (by decide +kernel) [56, 64, 69, 74, 82, 90, 99, 111] 123 (by decide +kernel) (by decide +kernel) (by decide +kernel)) ?_
  refine zfmc (r_aload_n h (pc := 56) (kf := 0) 0 (by decide +kernel) rfl) ?_
  refine zfmc (r_getf h (pc := 57) (ix := 12) (by decide +kernel) ckX2 0 (by decide) wk_6445df9d3b) ?_
  refine zfmc (r_getfN h (pc := 60) (ix := 72) (by decide +kernel) ckX4 6 (by decide) wk_6cd737360c) ?_
  refine zfmc (r_ireturn h (pc := 63) (by decide +kernel) rfl) ?_
  refine zfmc (r_aload_n h (pc := 64) (kf := 0) 0 (by decide +kernel) rfl) ?_
  refine zfmc (r_getf h (pc := 65) (ix := 40) (by decide +kernel) ckX2 5 (by decide) wk_fcd9e551a0) ?_
  refine zfmc (r_ireturn h (pc := 68) (by decide +kernel) rfl) ?_
  refine zfmc (r_aload_n h (pc := 69) (kf := 0) 0 (by decide +kernel) rfl) ?_
  refine zfmc (r_getf h (pc := 70) (ix := 44) (by decide +kernel) ckX2 6 (by decide) wk_1a9d89c54c) ?_
  refine zfmc (r_ireturn h (pc := 73) (by decide +kernel) rfl) ?_
  refine zfmc (r_aload_n h (pc := 74) (kf := 0) 0 (by decide +kernel) rfl) ?_
  refine zfmc (r_getf h (pc := 75) (ix := 23) (by decide +kernel) ckX2 1 (by decide) wk_6bb8abc6ae) ?_
  refine zfmc (r_callV h (pc := 78) (ix := 111) (by decide +kernel) ckX5 0 mcX5_size wk_2a1282b961 wk_62e7e67aee wk_5abe0e2775 rfl) ?_
  refine zfmc (r_ireturn h (pc := 81) (by decide +kernel) rfl) ?_
  refine zfmc (r_aload_n h (pc := 82) (kf := 0) 0 (by decide +kernel) rfl) ?_
  refine zfmc (r_getf h (pc := 83) (ix := 36) (by decide +kernel) ckX2 4 (by decide) wk_27d9be5ecc) ?_
  refine zfmc (r_getfN h (pc := 86) (ix := 238) (by decide +kernel) ckX11 6 (by decide) wk_516f936089) ?_
  refine zfmc (r_ireturn h (pc := 89) (by decide +kernel) rfl) ?_
  refine zfmc (r_aload_n h (pc := 90) (kf := 0) 0 (by decide +kernel) rfl) ?_
  refine zfmc (r_getf h (pc := 91) (ix := 27) (by decide +kernel) ckX2 2 (by decide) wk_bc611ce136) ?_
  refine zfmc (r_iload_n h (pc := 94) (kf := 2) 2 (by decide +kernel) rfl) ?_
  refine zfmc (r_callV h (pc := 95) (ix := 114) (by decide +kernel) ckX5 1 mcX5_get wk_d096485f84 wk_3bb576bd7a wk_1db6b0b94a rfl) ?_
  refine zfmc (r_ireturn h (pc := 98) (by decide +kernel) rfl) ?_
  refine zfmc (r_aload_n h (pc := 99) (kf := 0) 0 (by decide +kernel) rfl) ?_
  refine zfmc (r_getf h (pc := 100) (ix := 36) (by decide +kernel) ckX2 4 (by decide) wk_27d9be5ecc) ?_
  refine zfmc (r_getfN h (pc := 103) (ix := 241) (by decide +kernel) ckX11 2 (by decide) wk_b3ccba4326) ?_
  refine zfmc (r_iload_n h (pc := 106) (kf := 2) 2 (by decide +kernel) rfl) ?_
  refine zfmc (r_callV h (pc := 107) (ix := 114) (by decide +kernel) ckX5 1 mcX5_get wk_d096485f84 wk_3bb576bd7a wk_1db6b0b94a rfl) ?_
  refine zfmc (r_ireturn h (pc := 110) (by decide +kernel) rfl) ?_
  refine zfmc (r_aload_n h (pc := 111) (kf := 0) 0 (by decide +kernel) rfl) ?_
  refine zfmc (r_getf h (pc := 112) (ix := 12) (by decide +kernel) ckX2 0 (by decide) wk_6445df9d3b) ?_
  refine zfmc (r_getfN h (pc := 115) (ix := 244) (by decide +kernel) ckX4 0 (by decide) wk_59c9c782a7) ?_
  refine zfmc (r_iload_n h (pc := 118) (kf := 2) 2 (by decide +kernel) rfl) ?_
  refine zfmc (r_callV h (pc := 119) (ix := 114) (by decide +kernel) ckX5 1 mcX5_get wk_d096485f84 wk_3bb576bd7a wk_1db6b0b94a rfl) ?_
  refine zfmc (r_ireturn h (pc := 122) (by decide +kernel) rfl) ?_
  refine zfmc (r_iload_n h (pc := 123) (kf := 2) 2 (by decide +kernel) rfl) ?_
  refine zfmc (r_ireturn h (pc := 124) (by decide +kernel) rfl) ?_
  exact zfm0)
def tb_X2_isJoining (E : ZEX) (d mc ms : Nat) : List (Nat × ZStep) := [(0, s_const (.ref (zeK E 47)) 3), (3, s_aload 0 4), (4, s_callK E d mc ms 0 46 MJx29ce0_ordinal_8abf5 0 7), (7, s_ialdK E 8), (8, s_tsw 9 [60, 60, 60, 60, 60, 60, 60, 60, 60] 62), (60, s_const (.int (0)) 61), (61, s_zreturn), (62, s_const (.int (1)) 63), (63, s_zreturn)]
set_option maxRecDepth 20000 in
theorem ok_X2_isJoining {E : ZEX} {X : ZMX} {d mc ms : Nat} {P : ZPT} {T : ZTT} (h : ZCX E X MX2_isJoining d mc ms P T) : ∀ pc, ZRow E X MX2_isJoining mc ms P T pc (ztb (tb_X2_isJoining E d mc ms) pc) := ztb_ok (by
  unfold tb_X2_isJoining
  refine zfmc (r_getstatic h (pc := 0) (ix := 134) (by decide +kernel) (.ref (zeK E 47)) (zx_sw h.ok) wk_2859e6f440) ?_
  refine zfmc (r_aload_n h (pc := 3) (kf := 0) 0 (by decide +kernel) rfl) ?_
  refine zfmc (r_callU h (pc := 4) (ix := 144) (by decide +kernel) (zx_sgO2 h.ok) 0 mcJx29ce0_ordinal_8abf5 wk_7da2aaab0b (⟨RX8, "ordinal", "()I"⟩ : MethodName) wk_098b042c84 wk_7f528e0d7b wk_644ddbbc93 rfl) ?_
  refine zfmc (r_ialdK h (pc := 7) (by decide +kernel)) ?_
  refine zfmc (r_tsw h (pc := 8) (dflt := 54) (lo := 9) (hi := 17) (offs := #[52, 52, 52, 52, 52, 52, 52, 52, 52]) (len := 52) (by decide +kernel) [60, 60, 60, 60, 60, 60, 60, 60, 60] 62 (by decide +kernel) (by decide +kernel) (by decide +kernel)) ?_
  refine zfmc (r_iconst h (pc := 60) (z := 0) (by decide +kernel) (0) (by decide +kernel)) ?_
  refine zfmc (r_zreturn h (pc := 61) (by decide +kernel) rfl) ?_
  refine zfmc (r_iconst h (pc := 62) (z := 1) (by decide +kernel) (1) (by decide +kernel)) ?_
  refine zfmc (r_zreturn h (pc := 63) (by decide +kernel) rfl) ?_
  exact zfm0)
def tb_X2_joined (E : ZEX) (d mc ms : Nat) : List (Nat × ZStep) := [(0, s_const (.ref (zeK E 47)) 3), (3, s_aload 0 4), (4, s_callK E d mc ms 0 46 MJx29ce0_ordinal_8abf5 0 7), (7, s_ialdK E 8), (8, s_tsw 18 [108, 114, 88, 183, 183, 84, 92, 96, 120, 131, 142, 153, 164, 175, 179] 183), (84, s_iload 1 85), (85, s_iload 2 86), (86, s_iadd 87), (87, s_ireturn), (88, s_iload 1 89), (89, s_iload 2 90), (90, s_isub 91), (91, s_ireturn), (92, s_iload 1 93), (93, s_iload 2 94), (94, s_imul 95), (95, s_ireturn), (96, s_iload 2 97), (97, s_if_ne 104 100), (100, s_const (.int (0)) 101), (101, s_goto 107), (104, s_iload 1 105), (105, s_iload 2 106), (106, s_idiv 107), (107, s_ireturn), (108, s_iload 1 109), (109, s_iload 2 110), (110, s_mmin d mc ms 113), (113, s_ireturn), (114, s_iload 1 115), (115, s_iload 2 116), (116, s_mmax d mc ms 119), (119, s_ireturn), (120, s_iload 1 121), (121, s_iload 2 122), (122, s_icmp_ge 129 125), (125, s_const (.int (1)) 126), (126, s_goto 130), (129, s_const (.int (0)) 130), (130, s_ireturn), (131, s_iload 1 132), (132, s_iload 2 133), (133, s_icmp_le 140 136), (136, s_const (.int (1)) 137), (137, s_goto 141), (140, s_const (.int (0)) 141), (141, s_ireturn), (142, s_iload 1 143), (143, s_iload 2 144), (144, s_icmp_ne 151 147), (147, s_const (.int (1)) 148), (148, s_goto 152), (151, s_const (.int (0)) 152), (152, s_ireturn), (153, s_iload 1 154), (154, s_iload 2 155), (155, s_icmp_gt 162 158), (158, s_const (.int (1)) 159), (159, s_goto 163), (162, s_const (.int (0)) 163), (163, s_ireturn), (164, s_iload 1 165), (165, s_iload 2 166), (166, s_icmp_lt 173 169), (169, s_const (.int (1)) 170), (170, s_goto 174), (173, s_const (.int (0)) 174), (174, s_ireturn), (175, s_iload 1 176), (176, s_iload 2 177), (177, s_iand 178), (178, s_ireturn), (179, s_iload 1 180), (180, s_iload 2 181), (181, s_ior 182), (182, s_ireturn), (183, s_const (.int (0)) 184), (184, s_ireturn)]
set_option maxRecDepth 20000 in
theorem ok_X2_joined {E : ZEX} {X : ZMX} {d mc ms : Nat} {P : ZPT} {T : ZTT} (h : ZCX E X MX2_joined d mc ms P T) : ∀ pc, ZRow E X MX2_joined mc ms P T pc (ztb (tb_X2_joined E d mc ms) pc) := ztb_ok (by
  unfold tb_X2_joined
  refine zfmc (r_getstatic h (pc := 0) (ix := 134) (by decide +kernel) (.ref (zeK E 47)) (zx_sw h.ok) wk_2859e6f440) ?_
  refine zfmc (r_aload_n h (pc := 3) (kf := 0) 0 (by decide +kernel) rfl) ?_
  refine zfmc (r_callU h (pc := 4) (ix := 144) (by decide +kernel) (zx_sgO2 h.ok) 0 mcJx29ce0_ordinal_8abf5 wk_7da2aaab0b (⟨RX8, "ordinal", "()I"⟩ : MethodName) wk_098b042c84 wk_7f528e0d7b wk_644ddbbc93 rfl) ?_
  refine zfmc (r_ialdK h (pc := 7) (by decide +kernel)) ?_
  refine zfmc (r_tsw h (pc := 8) (dflt := 175) (lo := 18) (hi := 32) (offs := #[100, 106, 80, 175, 175, 76, 84, 88, 112, 123, 134, 145, 156, 167, 171]) (len := 76) (by decide +kernel) [108, 114, 88, 183, 183, 84, 92, 96, 120, 131, 142, 153, 164, 175, 179] 183 (by decide +kernel) (by decide +kernel) (by decide +kernel)) ?_
  refine zfmc (r_iload_n h (pc := 84) (kf := 1) 1 (by decide +kernel) rfl) ?_
  refine zfmc (r_iload_n h (pc := 85) (kf := 2) 2 (by decide +kernel) rfl) ?_
  refine zfmc (r_iadd h (pc := 86) (by decide +kernel)) ?_
  refine zfmc (r_ireturn h (pc := 87) (by decide +kernel) rfl) ?_
  refine zfmc (r_iload_n h (pc := 88) (kf := 1) 1 (by decide +kernel) rfl) ?_
  refine zfmc (r_iload_n h (pc := 89) (kf := 2) 2 (by decide +kernel) rfl) ?_
  refine zfmc (r_isub h (pc := 90) (by decide +kernel)) ?_
  refine zfmc (r_ireturn h (pc := 91) (by decide +kernel) rfl) ?_
  refine zfmc (r_iload_n h (pc := 92) (kf := 1) 1 (by decide +kernel) rfl) ?_
  refine zfmc (r_iload_n h (pc := 93) (kf := 2) 2 (by decide +kernel) rfl) ?_
  refine zfmc (r_imul h (pc := 94) (by decide +kernel)) ?_
  refine zfmc (r_ireturn h (pc := 95) (by decide +kernel) rfl) ?_
  refine zfmc (r_iload_n h (pc := 96) (kf := 2) 2 (by decide +kernel) rfl) ?_
  refine zfmc (r_if_ne h (pc := 97) (off := 7) (by decide +kernel) 104 (by decide +kernel)) ?_
  refine zfmc (r_iconst h (pc := 100) (z := 0) (by decide +kernel) (0) (by decide +kernel)) ?_
  refine zfmc (r_goto h (pc := 101) (off := 6) (by decide +kernel) 107 (by decide +kernel)) ?_
  refine zfmc (r_iload_n h (pc := 104) (kf := 1) 1 (by decide +kernel) rfl) ?_
  refine zfmc (r_iload_n h (pc := 105) (kf := 2) 2 (by decide +kernel) rfl) ?_
  refine zfmc (r_idiv h (pc := 106) (by decide +kernel)) ?_
  refine zfmc (r_ireturn h (pc := 107) (by decide +kernel) rfl) ?_
  refine zfmc (r_iload_n h (pc := 108) (kf := 1) 1 (by decide +kernel) rfl) ?_
  refine zfmc (r_iload_n h (pc := 109) (kf := 2) 2 (by decide +kernel) rfl) ?_
  refine zfmc (r_mmin h (pc := 110) (ix := 247) (by decide +kernel) wk_0cdcdaf76d wk_94a2aa520f wk_a21f4ed447 wk_eb9f31f5a8) ?_
  refine zfmc (r_ireturn h (pc := 113) (by decide +kernel) rfl) ?_
  refine zfmc (r_iload_n h (pc := 114) (kf := 1) 1 (by decide +kernel) rfl) ?_
  refine zfmc (r_iload_n h (pc := 115) (kf := 2) 2 (by decide +kernel) rfl) ?_
  refine zfmc (r_mmax h (pc := 116) (ix := 252) (by decide +kernel) wk_cae99c128e wk_a84ac99c0d wk_a21f4ed447 wk_35712895b6) ?_
  refine zfmc (r_ireturn h (pc := 119) (by decide +kernel) rfl) ?_
  refine zfmc (r_iload_n h (pc := 120) (kf := 1) 1 (by decide +kernel) rfl) ?_
  refine zfmc (r_iload_n h (pc := 121) (kf := 2) 2 (by decide +kernel) rfl) ?_
  refine zfmc (r_icmp_ge h (pc := 122) (off := 7) (by decide +kernel) 129 (by decide +kernel)) ?_
  refine zfmc (r_iconst h (pc := 125) (z := 1) (by decide +kernel) (1) (by decide +kernel)) ?_
  refine zfmc (r_goto h (pc := 126) (off := 4) (by decide +kernel) 130 (by decide +kernel)) ?_
  refine zfmc (r_iconst h (pc := 129) (z := 0) (by decide +kernel) (0) (by decide +kernel)) ?_
  refine zfmc (r_ireturn h (pc := 130) (by decide +kernel) rfl) ?_
  refine zfmc (r_iload_n h (pc := 131) (kf := 1) 1 (by decide +kernel) rfl) ?_
  refine zfmc (r_iload_n h (pc := 132) (kf := 2) 2 (by decide +kernel) rfl) ?_
  refine zfmc (r_icmp_le h (pc := 133) (off := 7) (by decide +kernel) 140 (by decide +kernel)) ?_
  refine zfmc (r_iconst h (pc := 136) (z := 1) (by decide +kernel) (1) (by decide +kernel)) ?_
  refine zfmc (r_goto h (pc := 137) (off := 4) (by decide +kernel) 141 (by decide +kernel)) ?_
  refine zfmc (r_iconst h (pc := 140) (z := 0) (by decide +kernel) (0) (by decide +kernel)) ?_
  refine zfmc (r_ireturn h (pc := 141) (by decide +kernel) rfl) ?_
  refine zfmc (r_iload_n h (pc := 142) (kf := 1) 1 (by decide +kernel) rfl) ?_
  refine zfmc (r_iload_n h (pc := 143) (kf := 2) 2 (by decide +kernel) rfl) ?_
  refine zfmc (r_icmp_ne h (pc := 144) (off := 7) (by decide +kernel) 151 (by decide +kernel)) ?_
  refine zfmc (r_iconst h (pc := 147) (z := 1) (by decide +kernel) (1) (by decide +kernel)) ?_
  refine zfmc (r_goto h (pc := 148) (off := 4) (by decide +kernel) 152 (by decide +kernel)) ?_
  refine zfmc (r_iconst h (pc := 151) (z := 0) (by decide +kernel) (0) (by decide +kernel)) ?_
  refine zfmc (r_ireturn h (pc := 152) (by decide +kernel) rfl) ?_
  refine zfmc (r_iload_n h (pc := 153) (kf := 1) 1 (by decide +kernel) rfl) ?_
  refine zfmc (r_iload_n h (pc := 154) (kf := 2) 2 (by decide +kernel) rfl) ?_
  refine zfmc (r_icmp_gt h (pc := 155) (off := 7) (by decide +kernel) 162 (by decide +kernel)) ?_
  refine zfmc (r_iconst h (pc := 158) (z := 1) (by decide +kernel) (1) (by decide +kernel)) ?_
  refine zfmc (r_goto h (pc := 159) (off := 4) (by decide +kernel) 163 (by decide +kernel)) ?_
  refine zfmc (r_iconst h (pc := 162) (z := 0) (by decide +kernel) (0) (by decide +kernel)) ?_
  refine zfmc (r_ireturn h (pc := 163) (by decide +kernel) rfl) ?_
  refine zfmc (r_iload_n h (pc := 164) (kf := 1) 1 (by decide +kernel) rfl) ?_
  refine zfmc (r_iload_n h (pc := 165) (kf := 2) 2 (by decide +kernel) rfl) ?_
  refine zfmc (r_icmp_lt h (pc := 166) (off := 7) (by decide +kernel) 173 (by decide +kernel)) ?_
  refine zfmc (r_iconst h (pc := 169) (z := 1) (by decide +kernel) (1) (by decide +kernel)) ?_
  refine zfmc (r_goto h (pc := 170) (off := 4) (by decide +kernel) 174 (by decide +kernel)) ?_
  refine zfmc (r_iconst h (pc := 173) (z := 0) (by decide +kernel) (0) (by decide +kernel)) ?_
  refine zfmc (r_ireturn h (pc := 174) (by decide +kernel) rfl) ?_
  refine zfmc (r_iload_n h (pc := 175) (kf := 1) 1 (by decide +kernel) rfl) ?_
  refine zfmc (r_iload_n h (pc := 176) (kf := 2) 2 (by decide +kernel) rfl) ?_
  refine zfmc (r_iand h (pc := 177) (by decide +kernel)) ?_
  refine zfmc (r_ireturn h (pc := 178) (by decide +kernel) rfl) ?_
  refine zfmc (r_iload_n h (pc := 179) (kf := 1) 1 (by decide +kernel) rfl) ?_
  refine zfmc (r_iload_n h (pc := 180) (kf := 2) 2 (by decide +kernel) rfl) ?_
  refine zfmc (r_ior h (pc := 181) (by decide +kernel)) ?_
  refine zfmc (r_ireturn h (pc := 182) (by decide +kernel) rfl) ?_
  refine zfmc (r_iconst h (pc := 183) (z := 0) (by decide +kernel) (0) (by decide +kernel)) ?_
  refine zfmc (r_ireturn h (pc := 184) (by decide +kernel) rfl) ?_
  exact zfm0)
section
variable {E : ZEX} {d mc ms : Nat} {cut : Nat → Bool} {G : ZCont} {R : ZRtn} {T : ZTT} {Z : Nat → ZCont}
theorem f_X2_init_0 (hZ : ZRN (ztb (tb_X2_init E d mc ms)) cut G R T Z) (f : Nat) (L : ZLV) (st : List Value) (σ : ZHp) (n k w : Nat) : Z (f + 1) 0 L st σ n k w = s_aload 0 1 L st σ n k w (zk1 cut G (Z f)) G R T := zrs hZ rfl f L st σ n k w
theorem f_X2_init_1 (hZ : ZRN (ztb (tb_X2_init E d mc ms)) cut G R T Z) (f : Nat) (L : ZLV) (st : List Value) (σ : ZHp) (n k w : Nat) : Z (f + 1) 1 L st σ n k w = s_objinit d 4 L st σ n k w (zk1 cut G (Z f)) G R T := zrs hZ rfl f L st σ n k w
theorem f_X2_init_4 (hZ : ZRN (ztb (tb_X2_init E d mc ms)) cut G R T Z) (f : Nat) (L : ZLV) (st : List Value) (σ : ZHp) (n k w : Nat) : Z (f + 1) 4 L st σ n k w = s_aload 0 5 L st σ n k w (zk1 cut G (Z f)) G R T := zrs hZ rfl f L st σ n k w
theorem f_X2_init_5 (hZ : ZRN (ztb (tb_X2_init E d mc ms)) cut G R T Z) (f : Nat) (L : ZLV) (st : List Value) (σ : ZHp) (n k w : Nat) : Z (f + 1) 5 L st σ n k w = s_new 3 7 fsX4 mc ms 8 L st σ n k w (zk1 cut G (Z f)) G R T := zrs hZ rfl f L st σ n k w
theorem f_X2_init_8 (hZ : ZRN (ztb (tb_X2_init E d mc ms)) cut G R T Z) (f : Nat) (L : ZLV) (st : List Value) (σ : ZHp) (n k w : Nat) : Z (f + 1) 8 L st σ n k w = s_dup 9 L st σ n k w (zk1 cut G (Z f)) G R T := zrs hZ rfl f L st σ n k w
theorem f_X2_init_9 (hZ : ZRN (ztb (tb_X2_init E d mc ms)) cut G R T Z) (f : Nat) (L : ZLV) (st : List Value) (σ : ZHp) (n k w : Nat) : Z (f + 1) 9 L st σ n k w = s_callI E d mc ms MX4_init 0 12 L st σ n k w (zk1 cut G (Z f)) G R T := zrs hZ rfl f L st σ n k w
theorem f_X2_init_12 (hZ : ZRN (ztb (tb_X2_init E d mc ms)) cut G R T Z) (f : Nat) (L : ZLV) (st : List Value) (σ : ZHp) (n k w : Nat) : Z (f + 1) 12 L st σ n k w = s_putf 1 0 3 15 L st σ n k w (zk1 cut G (Z f)) G R T := zrs hZ rfl f L st σ n k w
theorem f_X2_init_15 (hZ : ZRN (ztb (tb_X2_init E d mc ms)) cut G R T Z) (f : Nat) (L : ZLV) (st : List Value) (σ : ZHp) (n k w : Nat) : Z (f + 1) 15 L st σ n k w = s_aload 0 16 L st σ n k w (zk1 cut G (Z f)) G R T := zrs hZ rfl f L st σ n k w
theorem f_X2_init_16 (hZ : ZRN (ztb (tb_X2_init E d mc ms)) cut G R T Z) (f : Nat) (L : ZLV) (st : List Value) (σ : ZHp) (n k w : Nat) : Z (f + 1) 16 L st σ n k w = s_new 4 2 fsX5 mc ms 19 L st σ n k w (zk1 cut G (Z f)) G R T := zrs hZ rfl f L st σ n k w
theorem f_X2_init_19 (hZ : ZRN (ztb (tb_X2_init E d mc ms)) cut G R T Z) (f : Nat) (L : ZLV) (st : List Value) (σ : ZHp) (n k w : Nat) : Z (f + 1) 19 L st σ n k w = s_dup 20 L st σ n k w (zk1 cut G (Z f)) G R T := zrs hZ rfl f L st σ n k w
theorem f_X2_init_20 (hZ : ZRN (ztb (tb_X2_init E d mc ms)) cut G R T Z) (f : Nat) (L : ZLV) (st : List Value) (σ : ZHp) (n k w : Nat) : Z (f + 1) 20 L st σ n k w = s_const (.int (60)) 22 L st σ n k w (zk1 cut G (Z f)) G R T := zrs hZ rfl f L st σ n k w
theorem f_X2_init_22 (hZ : ZRN (ztb (tb_X2_init E d mc ms)) cut G R T Z) (f : Nat) (L : ZLV) (st : List Value) (σ : ZHp) (n k w : Nat) : Z (f + 1) 22 L st σ n k w = s_callI E d mc ms MX5_init 1 25 L st σ n k w (zk1 cut G (Z f)) G R T := zrs hZ rfl f L st σ n k w
theorem f_X2_init_25 (hZ : ZRN (ztb (tb_X2_init E d mc ms)) cut G R T Z) (f : Nat) (L : ZLV) (st : List Value) (σ : ZHp) (n k w : Nat) : Z (f + 1) 25 L st σ n k w = s_putf 1 1 3 28 L st σ n k w (zk1 cut G (Z f)) G R T := zrs hZ rfl f L st σ n k w
theorem f_X2_init_28 (hZ : ZRN (ztb (tb_X2_init E d mc ms)) cut G R T Z) (f : Nat) (L : ZLV) (st : List Value) (σ : ZHp) (n k w : Nat) : Z (f + 1) 28 L st σ n k w = s_aload 0 29 L st σ n k w (zk1 cut G (Z f)) G R T := zrs hZ rfl f L st σ n k w
theorem f_X2_init_29 (hZ : ZRN (ztb (tb_X2_init E d mc ms)) cut G R T Z) (f : Nat) (L : ZLV) (st : List Value) (σ : ZHp) (n k w : Nat) : Z (f + 1) 29 L st σ n k w = s_new 4 2 fsX5 mc ms 32 L st σ n k w (zk1 cut G (Z f)) G R T := zrs hZ rfl f L st σ n k w
theorem f_X2_init_32 (hZ : ZRN (ztb (tb_X2_init E d mc ms)) cut G R T Z) (f : Nat) (L : ZLV) (st : List Value) (σ : ZHp) (n k w : Nat) : Z (f + 1) 32 L st σ n k w = s_dup 33 L st σ n k w (zk1 cut G (Z f)) G R T := zrs hZ rfl f L st σ n k w
theorem f_X2_init_33 (hZ : ZRN (ztb (tb_X2_init E d mc ms)) cut G R T Z) (f : Nat) (L : ZLV) (st : List Value) (σ : ZHp) (n k w : Nat) : Z (f + 1) 33 L st σ n k w = s_const (.int (10)) 35 L st σ n k w (zk1 cut G (Z f)) G R T := zrs hZ rfl f L st σ n k w
theorem f_X2_init_35 (hZ : ZRN (ztb (tb_X2_init E d mc ms)) cut G R T Z) (f : Nat) (L : ZLV) (st : List Value) (σ : ZHp) (n k w : Nat) : Z (f + 1) 35 L st σ n k w = s_callI E d mc ms MX5_init 1 38 L st σ n k w (zk1 cut G (Z f)) G R T := zrs hZ rfl f L st σ n k w
theorem f_X2_init_38 (hZ : ZRN (ztb (tb_X2_init E d mc ms)) cut G R T Z) (f : Nat) (L : ZLV) (st : List Value) (σ : ZHp) (n k w : Nat) : Z (f + 1) 38 L st σ n k w = s_putf 1 2 3 41 L st σ n k w (zk1 cut G (Z f)) G R T := zrs hZ rfl f L st σ n k w
theorem f_X2_init_41 (hZ : ZRN (ztb (tb_X2_init E d mc ms)) cut G R T Z) (f : Nat) (L : ZLV) (st : List Value) (σ : ZHp) (n k w : Nat) : Z (f + 1) 41 L st σ n k w = s_aload 0 42 L st σ n k w (zk1 cut G (Z f)) G R T := zrs hZ rfl f L st σ n k w
theorem f_X2_init_42 (hZ : ZRN (ztb (tb_X2_init E d mc ms)) cut G R T Z) (f : Nat) (L : ZLV) (st : List Value) (σ : ZHp) (n k w : Nat) : Z (f + 1) 42 L st σ n k w = s_new 4 2 fsX5 mc ms 45 L st σ n k w (zk1 cut G (Z f)) G R T := zrs hZ rfl f L st σ n k w
theorem f_X2_init_45 (hZ : ZRN (ztb (tb_X2_init E d mc ms)) cut G R T Z) (f : Nat) (L : ZLV) (st : List Value) (σ : ZHp) (n k w : Nat) : Z (f + 1) 45 L st σ n k w = s_dup 46 L st σ n k w (zk1 cut G (Z f)) G R T := zrs hZ rfl f L st σ n k w
theorem f_X2_init_46 (hZ : ZRN (ztb (tb_X2_init E d mc ms)) cut G R T Z) (f : Nat) (L : ZLV) (st : List Value) (σ : ZHp) (n k w : Nat) : Z (f + 1) 46 L st σ n k w = s_const (.int (400)) 49 L st σ n k w (zk1 cut G (Z f)) G R T := zrs hZ rfl f L st σ n k w
theorem f_X2_init_49 (hZ : ZRN (ztb (tb_X2_init E d mc ms)) cut G R T Z) (f : Nat) (L : ZLV) (st : List Value) (σ : ZHp) (n k w : Nat) : Z (f + 1) 49 L st σ n k w = s_callI E d mc ms MX5_init 1 52 L st σ n k w (zk1 cut G (Z f)) G R T := zrs hZ rfl f L st σ n k w
theorem f_X2_init_52 (hZ : ZRN (ztb (tb_X2_init E d mc ms)) cut G R T Z) (f : Nat) (L : ZLV) (st : List Value) (σ : ZHp) (n k w : Nat) : Z (f + 1) 52 L st σ n k w = s_putf 1 3 3 55 L st σ n k w (zk1 cut G (Z f)) G R T := zrs hZ rfl f L st σ n k w
theorem f_X2_init_55 (hZ : ZRN (ztb (tb_X2_init E d mc ms)) cut G R T Z) (f : Nat) (L : ZLV) (st : List Value) (σ : ZHp) (n k w : Nat) : Z (f + 1) 55 L st σ n k w = s_aload 0 56 L st σ n k w (zk1 cut G (Z f)) G R T := zrs hZ rfl f L st σ n k w
theorem f_X2_init_56 (hZ : ZRN (ztb (tb_X2_init E d mc ms)) cut G R T Z) (f : Nat) (L : ZLV) (st : List Value) (σ : ZHp) (n k w : Nat) : Z (f + 1) 56 L st σ n k w = s_new 10 10 fsX11 mc ms 59 L st σ n k w (zk1 cut G (Z f)) G R T := zrs hZ rfl f L st σ n k w
theorem f_X2_init_59 (hZ : ZRN (ztb (tb_X2_init E d mc ms)) cut G R T Z) (f : Nat) (L : ZLV) (st : List Value) (σ : ZHp) (n k w : Nat) : Z (f + 1) 59 L st σ n k w = s_dup 60 L st σ n k w (zk1 cut G (Z f)) G R T := zrs hZ rfl f L st σ n k w
theorem f_X2_init_60 (hZ : ZRN (ztb (tb_X2_init E d mc ms)) cut G R T Z) (f : Nat) (L : ZLV) (st : List Value) (σ : ZHp) (n k w : Nat) : Z (f + 1) 60 L st σ n k w = s_callI E d mc ms MX11_init 0 63 L st σ n k w (zk1 cut G (Z f)) G R T := zrs hZ rfl f L st σ n k w
theorem f_X2_init_63 (hZ : ZRN (ztb (tb_X2_init E d mc ms)) cut G R T Z) (f : Nat) (L : ZLV) (st : List Value) (σ : ZHp) (n k w : Nat) : Z (f + 1) 63 L st σ n k w = s_putf 1 4 3 66 L st σ n k w (zk1 cut G (Z f)) G R T := zrs hZ rfl f L st σ n k w
theorem f_X2_init_66 (hZ : ZRN (ztb (tb_X2_init E d mc ms)) cut G R T Z) (f : Nat) (L : ZLV) (st : List Value) (σ : ZHp) (n k w : Nat) : Z (f + 1) 66 L st σ n k w = s_aload 0 67 L st σ n k w (zk1 cut G (Z f)) G R T := zrs hZ rfl f L st σ n k w
theorem f_X2_init_67 (hZ : ZRN (ztb (tb_X2_init E d mc ms)) cut G R T Z) (f : Nat) (L : ZLV) (st : List Value) (σ : ZHp) (n k w : Nat) : Z (f + 1) 67 L st σ n k w = s_const (.int (0)) 68 L st σ n k w (zk1 cut G (Z f)) G R T := zrs hZ rfl f L st σ n k w
theorem f_X2_init_68 (hZ : ZRN (ztb (tb_X2_init E d mc ms)) cut G R T Z) (f : Nat) (L : ZLV) (st : List Value) (σ : ZHp) (n k w : Nat) : Z (f + 1) 68 L st σ n k w = s_putf 1 5 0 71 L st σ n k w (zk1 cut G (Z f)) G R T := zrs hZ rfl f L st σ n k w
theorem f_X2_init_71 (hZ : ZRN (ztb (tb_X2_init E d mc ms)) cut G R T Z) (f : Nat) (L : ZLV) (st : List Value) (σ : ZHp) (n k w : Nat) : Z (f + 1) 71 L st σ n k w = s_aload 0 72 L st σ n k w (zk1 cut G (Z f)) G R T := zrs hZ rfl f L st σ n k w
theorem f_X2_init_72 (hZ : ZRN (ztb (tb_X2_init E d mc ms)) cut G R T Z) (f : Nat) (L : ZLV) (st : List Value) (σ : ZHp) (n k w : Nat) : Z (f + 1) 72 L st σ n k w = s_const (.int (0)) 73 L st σ n k w (zk1 cut G (Z f)) G R T := zrs hZ rfl f L st σ n k w
theorem f_X2_init_73 (hZ : ZRN (ztb (tb_X2_init E d mc ms)) cut G R T Z) (f : Nat) (L : ZLV) (st : List Value) (σ : ZHp) (n k w : Nat) : Z (f + 1) 73 L st σ n k w = s_putf 1 6 0 76 L st σ n k w (zk1 cut G (Z f)) G R T := zrs hZ rfl f L st σ n k w
theorem f_X2_init_76 (hZ : ZRN (ztb (tb_X2_init E d mc ms)) cut G R T Z) (f : Nat) (L : ZLV) (st : List Value) (σ : ZHp) (n k w : Nat) : Z (f + 1) 76 L st σ n k w = s_aload 0 77 L st σ n k w (zk1 cut G (Z f)) G R T := zrs hZ rfl f L st σ n k w
theorem f_X2_init_77 (hZ : ZRN (ztb (tb_X2_init E d mc ms)) cut G R T Z) (f : Nat) (L : ZLV) (st : List Value) (σ : ZHp) (n k w : Nat) : Z (f + 1) 77 L st σ n k w = s_const (.int (0)) 78 L st σ n k w (zk1 cut G (Z f)) G R T := zrs hZ rfl f L st σ n k w
theorem f_X2_init_78 (hZ : ZRN (ztb (tb_X2_init E d mc ms)) cut G R T Z) (f : Nat) (L : ZLV) (st : List Value) (σ : ZHp) (n k w : Nat) : Z (f + 1) 78 L st σ n k w = s_putf 1 7 0 81 L st σ n k w (zk1 cut G (Z f)) G R T := zrs hZ rfl f L st σ n k w
theorem f_X2_init_81 (hZ : ZRN (ztb (tb_X2_init E d mc ms)) cut G R T Z) (f : Nat) (L : ZLV) (st : List Value) (σ : ZHp) (n k w : Nat) : Z (f + 1) 81 L st σ n k w = s_aload 0 82 L st σ n k w (zk1 cut G (Z f)) G R T := zrs hZ rfl f L st σ n k w
theorem f_X2_init_82 (hZ : ZRN (ztb (tb_X2_init E d mc ms)) cut G R T Z) (f : Nat) (L : ZLV) (st : List Value) (σ : ZHp) (n k w : Nat) : Z (f + 1) 82 L st σ n k w = s_const (.int (0)) 83 L st σ n k w (zk1 cut G (Z f)) G R T := zrs hZ rfl f L st σ n k w
theorem f_X2_init_83 (hZ : ZRN (ztb (tb_X2_init E d mc ms)) cut G R T Z) (f : Nat) (L : ZLV) (st : List Value) (σ : ZHp) (n k w : Nat) : Z (f + 1) 83 L st σ n k w = s_putf 1 8 0 86 L st σ n k w (zk1 cut G (Z f)) G R T := zrs hZ rfl f L st σ n k w
theorem f_X2_init_86 (hZ : ZRN (ztb (tb_X2_init E d mc ms)) cut G R T Z) (f : Nat) (L : ZLV) (st : List Value) (σ : ZHp) (n k w : Nat) : Z (f + 1) 86 L st σ n k w = s_aload 0 87 L st σ n k w (zk1 cut G (Z f)) G R T := zrs hZ rfl f L st σ n k w
theorem f_X2_init_87 (hZ : ZRN (ztb (tb_X2_init E d mc ms)) cut G R T Z) (f : Nat) (L : ZLV) (st : List Value) (σ : ZHp) (n k w : Nat) : Z (f + 1) 87 L st σ n k w = s_const (.int (0)) 88 L st σ n k w (zk1 cut G (Z f)) G R T := zrs hZ rfl f L st σ n k w
theorem f_X2_init_88 (hZ : ZRN (ztb (tb_X2_init E d mc ms)) cut G R T Z) (f : Nat) (L : ZLV) (st : List Value) (σ : ZHp) (n k w : Nat) : Z (f + 1) 88 L st σ n k w = s_putf 1 9 0 91 L st σ n k w (zk1 cut G (Z f)) G R T := zrs hZ rfl f L st σ n k w
theorem f_X2_init_91 (hZ : ZRN (ztb (tb_X2_init E d mc ms)) cut G R T Z) (f : Nat) (L : ZLV) (st : List Value) (σ : ZHp) (n k w : Nat) : Z (f + 1) 91 L st σ n k w = s_aload 0 92 L st σ n k w (zk1 cut G (Z f)) G R T := zrs hZ rfl f L st σ n k w
theorem f_X2_init_92 (hZ : ZRN (ztb (tb_X2_init E d mc ms)) cut G R T Z) (f : Nat) (L : ZLV) (st : List Value) (σ : ZHp) (n k w : Nat) : Z (f + 1) 92 L st σ n k w = s_const (.int (0)) 93 L st σ n k w (zk1 cut G (Z f)) G R T := zrs hZ rfl f L st σ n k w
theorem f_X2_init_93 (hZ : ZRN (ztb (tb_X2_init E d mc ms)) cut G R T Z) (f : Nat) (L : ZLV) (st : List Value) (σ : ZHp) (n k w : Nat) : Z (f + 1) 93 L st σ n k w = s_putf 1 10 0 96 L st σ n k w (zk1 cut G (Z f)) G R T := zrs hZ rfl f L st σ n k w
theorem f_X2_init_96 (hZ : ZRN (ztb (tb_X2_init E d mc ms)) cut G R T Z) (f : Nat) (L : ZLV) (st : List Value) (σ : ZHp) (n k w : Nat) : Z (f + 1) 96 L st σ n k w = s_return L st σ n k w (zk1 cut G (Z f)) G R T := zrs hZ rfl f L st σ n k w
theorem f_X2_playRounds_0 (hZ : ZRN (ztb (tb_X2_playRounds E d mc ms)) cut G R T Z) (f : Nat) (L : ZLV) (st : List Value) (σ : ZHp) (n k w : Nat) : Z (f + 1) 0 L st σ n k w = s_const (.int (0)) 1 L st σ n k w (zk1 cut G (Z f)) G R T := zrs hZ rfl f L st σ n k w
theorem f_X2_playRounds_1 (hZ : ZRN (ztb (tb_X2_playRounds E d mc ms)) cut G R T Z) (f : Nat) (L : ZLV) (st : List Value) (σ : ZHp) (n k w : Nat) : Z (f + 1) 1 L st σ n k w = s_istore 3 2 L st σ n k w (zk1 cut G (Z f)) G R T := zrs hZ rfl f L st σ n k w
theorem f_X2_playRounds_2 (hZ : ZRN (ztb (tb_X2_playRounds E d mc ms)) cut G R T Z) (f : Nat) (L : ZLV) (st : List Value) (σ : ZHp) (n k w : Nat) : Z (f + 1) 2 L st σ n k w = s_const (.int (0)) 3 L st σ n k w (zk1 cut G (Z f)) G R T := zrs hZ rfl f L st σ n k w
theorem f_X2_playRounds_3 (hZ : ZRN (ztb (tb_X2_playRounds E d mc ms)) cut G R T Z) (f : Nat) (L : ZLV) (st : List Value) (σ : ZHp) (n k w : Nat) : Z (f + 1) 3 L st σ n k w = s_istore 4 5 L st σ n k w (zk1 cut G (Z f)) G R T := zrs hZ rfl f L st σ n k w
theorem f_X2_playRounds_5 (hZ : ZRN (ztb (tb_X2_playRounds E d mc ms)) cut G R T Z) (f : Nat) (L : ZLV) (st : List Value) (σ : ZHp) (n k w : Nat) : Z (f + 1) 5 L st σ n k w = s_iload 4 7 L st σ n k w (zk1 cut G (Z f)) G R T := zrs hZ rfl f L st σ n k w
theorem f_X2_playRounds_7 (hZ : ZRN (ztb (tb_X2_playRounds E d mc ms)) cut G R T Z) (f : Nat) (L : ZLV) (st : List Value) (σ : ZHp) (n k w : Nat) : Z (f + 1) 7 L st σ n k w = s_iload 1 8 L st σ n k w (zk1 cut G (Z f)) G R T := zrs hZ rfl f L st σ n k w
theorem f_X2_playRounds_8 (hZ : ZRN (ztb (tb_X2_playRounds E d mc ms)) cut G R T Z) (f : Nat) (L : ZLV) (st : List Value) (σ : ZHp) (n k w : Nat) : Z (f + 1) 8 L st σ n k w = s_icmp_ge 68 11 L st σ n k w (zk1 cut G (Z f)) G R T := zrs hZ rfl f L st σ n k w
theorem f_X2_playRounds_11 (hZ : ZRN (ztb (tb_X2_playRounds E d mc ms)) cut G R T Z) (f : Nat) (L : ZLV) (st : List Value) (σ : ZHp) (n k w : Nat) : Z (f + 1) 11 L st σ n k w = s_const (.int (0)) 12 L st σ n k w (zk1 cut G (Z f)) G R T := zrs hZ rfl f L st σ n k w
theorem f_X2_playRounds_12 (hZ : ZRN (ztb (tb_X2_playRounds E d mc ms)) cut G R T Z) (f : Nat) (L : ZLV) (st : List Value) (σ : ZHp) (n k w : Nat) : Z (f + 1) 12 L st σ n k w = s_istore 5 14 L st σ n k w (zk1 cut G (Z f)) G R T := zrs hZ rfl f L st σ n k w
theorem f_X2_playRounds_14 (hZ : ZRN (ztb (tb_X2_playRounds E d mc ms)) cut G R T Z) (f : Nat) (L : ZLV) (st : List Value) (σ : ZHp) (n k w : Nat) : Z (f + 1) 14 L st σ n k w = s_iload 5 16 L st σ n k w (zk1 cut G (Z f)) G R T := zrs hZ rfl f L st σ n k w
theorem f_X2_playRounds_16 (hZ : ZRN (ztb (tb_X2_playRounds E d mc ms)) cut G R T Z) (f : Nat) (L : ZLV) (st : List Value) (σ : ZHp) (n k w : Nat) : Z (f + 1) 16 L st σ n k w = s_aload 0 17 L st σ n k w (zk1 cut G (Z f)) G R T := zrs hZ rfl f L st σ n k w
theorem f_X2_playRounds_17 (hZ : ZRN (ztb (tb_X2_playRounds E d mc ms)) cut G R T Z) (f : Nat) (L : ZLV) (st : List Value) (σ : ZHp) (n k w : Nat) : Z (f + 1) 17 L st σ n k w = s_getf 1 0 20 L st σ n k w (zk1 cut G (Z f)) G R T := zrs hZ rfl f L st σ n k w
theorem f_X2_playRounds_20 (hZ : ZRN (ztb (tb_X2_playRounds E d mc ms)) cut G R T Z) (f : Nat) (L : ZLV) (st : List Value) (σ : ZHp) (n k w : Nat) : Z (f + 1) 20 L st σ n k w = s_getf 3 5 23 L st σ n k w (zk1 cut G (Z f)) G R T := zrs hZ rfl f L st σ n k w
theorem f_X2_playRounds_23 (hZ : ZRN (ztb (tb_X2_playRounds E d mc ms)) cut G R T Z) (f : Nat) (L : ZLV) (st : List Value) (σ : ZHp) (n k w : Nat) : Z (f + 1) 23 L st σ n k w = s_getf 5 1 26 L st σ n k w (zk1 cut G (Z f)) G R T := zrs hZ rfl f L st σ n k w
theorem f_X2_playRounds_26 (hZ : ZRN (ztb (tb_X2_playRounds E d mc ms)) cut G R T Z) (f : Nat) (L : ZLV) (st : List Value) (σ : ZHp) (n k w : Nat) : Z (f + 1) 26 L st σ n k w = s_icmp_ge 49 29 L st σ n k w (zk1 cut G (Z f)) G R T := zrs hZ rfl f L st σ n k w
theorem f_X2_playRounds_29 (hZ : ZRN (ztb (tb_X2_playRounds E d mc ms)) cut G R T Z) (f : Nat) (L : ZLV) (st : List Value) (σ : ZHp) (n k w : Nat) : Z (f + 1) 29 L st σ n k w = s_aload 0 30 L st σ n k w (zk1 cut G (Z f)) G R T := zrs hZ rfl f L st σ n k w
theorem f_X2_playRounds_30 (hZ : ZRN (ztb (tb_X2_playRounds E d mc ms)) cut G R T Z) (f : Nat) (L : ZLV) (st : List Value) (σ : ZHp) (n k w : Nat) : Z (f + 1) 30 L st σ n k w = s_iload 5 32 L st σ n k w (zk1 cut G (Z f)) G R T := zrs hZ rfl f L st σ n k w
theorem f_X2_playRounds_32 (hZ : ZRN (ztb (tb_X2_playRounds E d mc ms)) cut G R T Z) (f : Nat) (L : ZLV) (st : List Value) (σ : ZHp) (n k w : Nat) : Z (f + 1) 32 L st σ n k w = s_iload 2 33 L st σ n k w (zk1 cut G (Z f)) G R T := zrs hZ rfl f L st σ n k w
theorem f_X2_playRounds_33 (hZ : ZRN (ztb (tb_X2_playRounds E d mc ms)) cut G R T Z) (f : Nat) (L : ZLV) (st : List Value) (σ : ZHp) (n k w : Nat) : Z (f + 1) 33 L st σ n k w = s_callV E d mc ms 1 MX2_takeTurn 2 36 L st σ n k w (zk1 cut G (Z f)) G R T := zrs hZ rfl f L st σ n k w
theorem f_X2_playRounds_36 (hZ : ZRN (ztb (tb_X2_playRounds E d mc ms)) cut G R T Z) (f : Nat) (L : ZLV) (st : List Value) (σ : ZHp) (n k w : Nat) : Z (f + 1) 36 L st σ n k w = s_iload 3 37 L st σ n k w (zk1 cut G (Z f)) G R T := zrs hZ rfl f L st σ n k w
theorem f_X2_playRounds_37 (hZ : ZRN (ztb (tb_X2_playRounds E d mc ms)) cut G R T Z) (f : Nat) (L : ZLV) (st : List Value) (σ : ZHp) (n k w : Nat) : Z (f + 1) 37 L st σ n k w = s_aload 0 38 L st σ n k w (zk1 cut G (Z f)) G R T := zrs hZ rfl f L st σ n k w
theorem f_X2_playRounds_38 (hZ : ZRN (ztb (tb_X2_playRounds E d mc ms)) cut G R T Z) (f : Nat) (L : ZLV) (st : List Value) (σ : ZHp) (n k w : Nat) : Z (f + 1) 38 L st σ n k w = s_getf 1 10 41 L st σ n k w (zk1 cut G (Z f)) G R T := zrs hZ rfl f L st σ n k w
theorem f_X2_playRounds_41 (hZ : ZRN (ztb (tb_X2_playRounds E d mc ms)) cut G R T Z) (f : Nat) (L : ZLV) (st : List Value) (σ : ZHp) (n k w : Nat) : Z (f + 1) 41 L st σ n k w = s_iadd 42 L st σ n k w (zk1 cut G (Z f)) G R T := zrs hZ rfl f L st σ n k w
theorem f_X2_playRounds_42 (hZ : ZRN (ztb (tb_X2_playRounds E d mc ms)) cut G R T Z) (f : Nat) (L : ZLV) (st : List Value) (σ : ZHp) (n k w : Nat) : Z (f + 1) 42 L st σ n k w = s_istore 3 43 L st σ n k w (zk1 cut G (Z f)) G R T := zrs hZ rfl f L st σ n k w
theorem f_X2_playRounds_43 (hZ : ZRN (ztb (tb_X2_playRounds E d mc ms)) cut G R T Z) (f : Nat) (L : ZLV) (st : List Value) (σ : ZHp) (n k w : Nat) : Z (f + 1) 43 L st σ n k w = s_iinc 5 (1) 46 L st σ n k w (zk1 cut G (Z f)) G R T := zrs hZ rfl f L st σ n k w
theorem f_X2_playRounds_46 (hZ : ZRN (ztb (tb_X2_playRounds E d mc ms)) cut G R T Z) (f : Nat) (L : ZLV) (st : List Value) (σ : ZHp) (n k w : Nat) : Z (f + 1) 46 L st σ n k w = s_goto 14 L st σ n k w (zk1 cut G (Z f)) G R T := zrs hZ rfl f L st σ n k w
theorem f_X2_playRounds_49 (hZ : ZRN (ztb (tb_X2_playRounds E d mc ms)) cut G R T Z) (f : Nat) (L : ZLV) (st : List Value) (σ : ZHp) (n k w : Nat) : Z (f + 1) 49 L st σ n k w = s_aload 0 50 L st σ n k w (zk1 cut G (Z f)) G R T := zrs hZ rfl f L st σ n k w
theorem f_X2_playRounds_50 (hZ : ZRN (ztb (tb_X2_playRounds E d mc ms)) cut G R T Z) (f : Nat) (L : ZLV) (st : List Value) (σ : ZHp) (n k w : Nat) : Z (f + 1) 50 L st σ n k w = s_getf 1 0 53 L st σ n k w (zk1 cut G (Z f)) G R T := zrs hZ rfl f L st σ n k w
theorem f_X2_playRounds_53 (hZ : ZRN (ztb (tb_X2_playRounds E d mc ms)) cut G R T Z) (f : Nat) (L : ZLV) (st : List Value) (σ : ZHp) (n k w : Nat) : Z (f + 1) 53 L st σ n k w = s_dup 54 L st σ n k w (zk1 cut G (Z f)) G R T := zrs hZ rfl f L st σ n k w
theorem f_X2_playRounds_54 (hZ : ZRN (ztb (tb_X2_playRounds E d mc ms)) cut G R T Z) (f : Nat) (L : ZLV) (st : List Value) (σ : ZHp) (n k w : Nat) : Z (f + 1) 54 L st σ n k w = s_getf 3 6 57 L st σ n k w (zk1 cut G (Z f)) G R T := zrs hZ rfl f L st σ n k w
theorem f_X2_playRounds_57 (hZ : ZRN (ztb (tb_X2_playRounds E d mc ms)) cut G R T Z) (f : Nat) (L : ZLV) (st : List Value) (σ : ZHp) (n k w : Nat) : Z (f + 1) 57 L st σ n k w = s_const (.int (1)) 58 L st σ n k w (zk1 cut G (Z f)) G R T := zrs hZ rfl f L st σ n k w
theorem f_X2_playRounds_58 (hZ : ZRN (ztb (tb_X2_playRounds E d mc ms)) cut G R T Z) (f : Nat) (L : ZLV) (st : List Value) (σ : ZHp) (n k w : Nat) : Z (f + 1) 58 L st σ n k w = s_iadd 59 L st σ n k w (zk1 cut G (Z f)) G R T := zrs hZ rfl f L st σ n k w
theorem f_X2_playRounds_59 (hZ : ZRN (ztb (tb_X2_playRounds E d mc ms)) cut G R T Z) (f : Nat) (L : ZLV) (st : List Value) (σ : ZHp) (n k w : Nat) : Z (f + 1) 59 L st σ n k w = s_putf 3 6 0 62 L st σ n k w (zk1 cut G (Z f)) G R T := zrs hZ rfl f L st σ n k w
theorem f_X2_playRounds_62 (hZ : ZRN (ztb (tb_X2_playRounds E d mc ms)) cut G R T Z) (f : Nat) (L : ZLV) (st : List Value) (σ : ZHp) (n k w : Nat) : Z (f + 1) 62 L st σ n k w = s_iinc 4 (1) 65 L st σ n k w (zk1 cut G (Z f)) G R T := zrs hZ rfl f L st σ n k w
theorem f_X2_playRounds_65 (hZ : ZRN (ztb (tb_X2_playRounds E d mc ms)) cut G R T Z) (f : Nat) (L : ZLV) (st : List Value) (σ : ZHp) (n k w : Nat) : Z (f + 1) 65 L st σ n k w = s_goto 5 L st σ n k w (zk1 cut G (Z f)) G R T := zrs hZ rfl f L st σ n k w
theorem f_X2_playRounds_68 (hZ : ZRN (ztb (tb_X2_playRounds E d mc ms)) cut G R T Z) (f : Nat) (L : ZLV) (st : List Value) (σ : ZHp) (n k w : Nat) : Z (f + 1) 68 L st σ n k w = s_iload 3 69 L st σ n k w (zk1 cut G (Z f)) G R T := zrs hZ rfl f L st σ n k w
theorem f_X2_playRounds_69 (hZ : ZRN (ztb (tb_X2_playRounds E d mc ms)) cut G R T Z) (f : Nat) (L : ZLV) (st : List Value) (σ : ZHp) (n k w : Nat) : Z (f + 1) 69 L st σ n k w = s_ireturn L st σ n k w (zk1 cut G (Z f)) G R T := zrs hZ rfl f L st σ n k w
theorem f_X2_takeTurn_0 (hZ : ZRN (ztb (tb_X2_takeTurn E d mc ms)) cut G R T Z) (f : Nat) (L : ZLV) (st : List Value) (σ : ZHp) (n k w : Nat) : Z (f + 1) 0 L st σ n k w = s_aload 0 1 L st σ n k w (zk1 cut G (Z f)) G R T := zrs hZ rfl f L st σ n k w
theorem f_X2_takeTurn_1 (hZ : ZRN (ztb (tb_X2_takeTurn E d mc ms)) cut G R T Z) (f : Nat) (L : ZLV) (st : List Value) (σ : ZHp) (n k w : Nat) : Z (f + 1) 1 L st σ n k w = s_aload 0 2 L st σ n k w (zk1 cut G (Z f)) G R T := zrs hZ rfl f L st σ n k w
theorem f_X2_takeTurn_2 (hZ : ZRN (ztb (tb_X2_takeTurn E d mc ms)) cut G R T Z) (f : Nat) (L : ZLV) (st : List Value) (σ : ZHp) (n k w : Nat) : Z (f + 1) 2 L st σ n k w = s_getf 1 0 5 L st σ n k w (zk1 cut G (Z f)) G R T := zrs hZ rfl f L st σ n k w
theorem f_X2_takeTurn_5 (hZ : ZRN (ztb (tb_X2_takeTurn E d mc ms)) cut G R T Z) (f : Nat) (L : ZLV) (st : List Value) (σ : ZHp) (n k w : Nat) : Z (f + 1) 5 L st σ n k w = s_iload 1 6 L st σ n k w (zk1 cut G (Z f)) G R T := zrs hZ rfl f L st σ n k w
theorem f_X2_takeTurn_6 (hZ : ZRN (ztb (tb_X2_takeTurn E d mc ms)) cut G R T Z) (f : Nat) (L : ZLV) (st : List Value) (σ : ZHp) (n k w : Nat) : Z (f + 1) 6 L st σ n k w = s_callV E d mc ms 3 MX4_trader 1 9 L st σ n k w (zk1 cut G (Z f)) G R T := zrs hZ rfl f L st σ n k w
theorem f_X2_takeTurn_9 (hZ : ZRN (ztb (tb_X2_takeTurn E d mc ms)) cut G R T Z) (f : Nat) (L : ZLV) (st : List Value) (σ : ZHp) (n k w : Nat) : Z (f + 1) 9 L st σ n k w = s_putf 1 4 3 12 L st σ n k w (zk1 cut G (Z f)) G R T := zrs hZ rfl f L st σ n k w
theorem f_X2_takeTurn_12 (hZ : ZRN (ztb (tb_X2_takeTurn E d mc ms)) cut G R T Z) (f : Nat) (L : ZLV) (st : List Value) (σ : ZHp) (n k w : Nat) : Z (f + 1) 12 L st σ n k w = s_aload 0 13 L st σ n k w (zk1 cut G (Z f)) G R T := zrs hZ rfl f L st σ n k w
theorem f_X2_takeTurn_13 (hZ : ZRN (ztb (tb_X2_takeTurn E d mc ms)) cut G R T Z) (f : Nat) (L : ZLV) (st : List Value) (σ : ZHp) (n k w : Nat) : Z (f + 1) 13 L st σ n k w = s_getf 1 1 16 L st σ n k w (zk1 cut G (Z f)) G R T := zrs hZ rfl f L st σ n k w
theorem f_X2_takeTurn_16 (hZ : ZRN (ztb (tb_X2_takeTurn E d mc ms)) cut G R T Z) (f : Nat) (L : ZLV) (st : List Value) (σ : ZHp) (n k w : Nat) : Z (f + 1) 16 L st σ n k w = s_callV E d mc ms 4 MX5_clear 0 19 L st σ n k w (zk1 cut G (Z f)) G R T := zrs hZ rfl f L st σ n k w
theorem f_X2_takeTurn_19 (hZ : ZRN (ztb (tb_X2_takeTurn E d mc ms)) cut G R T Z) (f : Nat) (L : ZLV) (st : List Value) (σ : ZHp) (n k w : Nat) : Z (f + 1) 19 L st σ n k w = s_aload 0 20 L st σ n k w (zk1 cut G (Z f)) G R T := zrs hZ rfl f L st σ n k w
theorem f_X2_takeTurn_20 (hZ : ZRN (ztb (tb_X2_takeTurn E d mc ms)) cut G R T Z) (f : Nat) (L : ZLV) (st : List Value) (σ : ZHp) (n k w : Nat) : Z (f + 1) 20 L st σ n k w = s_getf 1 2 23 L st σ n k w (zk1 cut G (Z f)) G R T := zrs hZ rfl f L st σ n k w
theorem f_X2_takeTurn_23 (hZ : ZRN (ztb (tb_X2_takeTurn E d mc ms)) cut G R T Z) (f : Nat) (L : ZLV) (st : List Value) (σ : ZHp) (n k w : Nat) : Z (f + 1) 23 L st σ n k w = s_callV E d mc ms 4 MX5_clear 0 26 L st σ n k w (zk1 cut G (Z f)) G R T := zrs hZ rfl f L st σ n k w
theorem f_X2_takeTurn_26 (hZ : ZRN (ztb (tb_X2_takeTurn E d mc ms)) cut G R T Z) (f : Nat) (L : ZLV) (st : List Value) (σ : ZHp) (n k w : Nat) : Z (f + 1) 26 L st σ n k w = s_aload 0 27 L st σ n k w (zk1 cut G (Z f)) G R T := zrs hZ rfl f L st σ n k w
theorem f_X2_takeTurn_27 (hZ : ZRN (ztb (tb_X2_takeTurn E d mc ms)) cut G R T Z) (f : Nat) (L : ZLV) (st : List Value) (σ : ZHp) (n k w : Nat) : Z (f + 1) 27 L st σ n k w = s_const (.int (0)) 28 L st σ n k w (zk1 cut G (Z f)) G R T := zrs hZ rfl f L st σ n k w
theorem f_X2_takeTurn_28 (hZ : ZRN (ztb (tb_X2_takeTurn E d mc ms)) cut G R T Z) (f : Nat) (L : ZLV) (st : List Value) (σ : ZHp) (n k w : Nat) : Z (f + 1) 28 L st σ n k w = s_putf 1 5 0 31 L st σ n k w (zk1 cut G (Z f)) G R T := zrs hZ rfl f L st σ n k w
theorem f_X2_takeTurn_31 (hZ : ZRN (ztb (tb_X2_takeTurn E d mc ms)) cut G R T Z) (f : Nat) (L : ZLV) (st : List Value) (σ : ZHp) (n k w : Nat) : Z (f + 1) 31 L st σ n k w = s_aload 0 32 L st σ n k w (zk1 cut G (Z f)) G R T := zrs hZ rfl f L st σ n k w
theorem f_X2_takeTurn_32 (hZ : ZRN (ztb (tb_X2_takeTurn E d mc ms)) cut G R T Z) (f : Nat) (L : ZLV) (st : List Value) (σ : ZHp) (n k w : Nat) : Z (f + 1) 32 L st σ n k w = s_const (.int (1)) 33 L st σ n k w (zk1 cut G (Z f)) G R T := zrs hZ rfl f L st σ n k w
theorem f_X2_takeTurn_33 (hZ : ZRN (ztb (tb_X2_takeTurn E d mc ms)) cut G R T Z) (f : Nat) (L : ZLV) (st : List Value) (σ : ZHp) (n k w : Nat) : Z (f + 1) 33 L st σ n k w = s_putf 1 6 0 36 L st σ n k w (zk1 cut G (Z f)) G R T := zrs hZ rfl f L st σ n k w
theorem f_X2_takeTurn_36 (hZ : ZRN (ztb (tb_X2_takeTurn E d mc ms)) cut G R T Z) (f : Nat) (L : ZLV) (st : List Value) (σ : ZHp) (n k w : Nat) : Z (f + 1) 36 L st σ n k w = s_aload 0 37 L st σ n k w (zk1 cut G (Z f)) G R T := zrs hZ rfl f L st σ n k w
theorem f_X2_takeTurn_37 (hZ : ZRN (ztb (tb_X2_takeTurn E d mc ms)) cut G R T Z) (f : Nat) (L : ZLV) (st : List Value) (σ : ZHp) (n k w : Nat) : Z (f + 1) 37 L st σ n k w = s_const (.int (0)) 38 L st σ n k w (zk1 cut G (Z f)) G R T := zrs hZ rfl f L st σ n k w
theorem f_X2_takeTurn_38 (hZ : ZRN (ztb (tb_X2_takeTurn E d mc ms)) cut G R T Z) (f : Nat) (L : ZLV) (st : List Value) (σ : ZHp) (n k w : Nat) : Z (f + 1) 38 L st σ n k w = s_putf 1 8 0 41 L st σ n k w (zk1 cut G (Z f)) G R T := zrs hZ rfl f L st σ n k w
theorem f_X2_takeTurn_41 (hZ : ZRN (ztb (tb_X2_takeTurn E d mc ms)) cut G R T Z) (f : Nat) (L : ZLV) (st : List Value) (σ : ZHp) (n k w : Nat) : Z (f + 1) 41 L st σ n k w = s_aload 0 42 L st σ n k w (zk1 cut G (Z f)) G R T := zrs hZ rfl f L st σ n k w
theorem f_X2_takeTurn_42 (hZ : ZRN (ztb (tb_X2_takeTurn E d mc ms)) cut G R T Z) (f : Nat) (L : ZLV) (st : List Value) (σ : ZHp) (n k w : Nat) : Z (f + 1) 42 L st σ n k w = s_const (.int (0)) 43 L st σ n k w (zk1 cut G (Z f)) G R T := zrs hZ rfl f L st σ n k w
theorem f_X2_takeTurn_43 (hZ : ZRN (ztb (tb_X2_takeTurn E d mc ms)) cut G R T Z) (f : Nat) (L : ZLV) (st : List Value) (σ : ZHp) (n k w : Nat) : Z (f + 1) 43 L st σ n k w = s_putf 1 9 0 46 L st σ n k w (zk1 cut G (Z f)) G R T := zrs hZ rfl f L st σ n k w
theorem f_X2_takeTurn_46 (hZ : ZRN (ztb (tb_X2_takeTurn E d mc ms)) cut G R T Z) (f : Nat) (L : ZLV) (st : List Value) (σ : ZHp) (n k w : Nat) : Z (f + 1) 46 L st σ n k w = s_aload 0 47 L st σ n k w (zk1 cut G (Z f)) G R T := zrs hZ rfl f L st σ n k w
theorem f_X2_takeTurn_47 (hZ : ZRN (ztb (tb_X2_takeTurn E d mc ms)) cut G R T Z) (f : Nat) (L : ZLV) (st : List Value) (σ : ZHp) (n k w : Nat) : Z (f + 1) 47 L st σ n k w = s_const (.int (0)) 48 L st σ n k w (zk1 cut G (Z f)) G R T := zrs hZ rfl f L st σ n k w
theorem f_X2_takeTurn_48 (hZ : ZRN (ztb (tb_X2_takeTurn E d mc ms)) cut G R T Z) (f : Nat) (L : ZLV) (st : List Value) (σ : ZHp) (n k w : Nat) : Z (f + 1) 48 L st σ n k w = s_putf 1 10 0 51 L st σ n k w (zk1 cut G (Z f)) G R T := zrs hZ rfl f L st σ n k w
theorem f_X2_takeTurn_51 (hZ : ZRN (ztb (tb_X2_takeTurn E d mc ms)) cut G R T Z) (f : Nat) (L : ZLV) (st : List Value) (σ : ZHp) (n k w : Nat) : Z (f + 1) 51 L st σ n k w = s_aload 0 52 L st σ n k w (zk1 cut G (Z f)) G R T := zrs hZ rfl f L st σ n k w
theorem f_X2_takeTurn_52 (hZ : ZRN (ztb (tb_X2_takeTurn E d mc ms)) cut G R T Z) (f : Nat) (L : ZLV) (st : List Value) (σ : ZHp) (n k w : Nat) : Z (f + 1) 52 L st σ n k w = s_const (.int (5)) 53 L st σ n k w (zk1 cut G (Z f)) G R T := zrs hZ rfl f L st σ n k w
theorem f_X2_takeTurn_53 (hZ : ZRN (ztb (tb_X2_takeTurn E d mc ms)) cut G R T Z) (f : Nat) (L : ZLV) (st : List Value) (σ : ZHp) (n k w : Nat) : Z (f + 1) 53 L st σ n k w = s_callV E d mc ms 1 MX2_draw 1 56 L st σ n k w (zk1 cut G (Z f)) G R T := zrs hZ rfl f L st σ n k w
theorem f_X2_takeTurn_56 (hZ : ZRN (ztb (tb_X2_takeTurn E d mc ms)) cut G R T Z) (f : Nat) (L : ZLV) (st : List Value) (σ : ZHp) (n k w : Nat) : Z (f + 1) 56 L st σ n k w = s_aload 0 57 L st σ n k w (zk1 cut G (Z f)) G R T := zrs hZ rfl f L st σ n k w
theorem f_X2_takeTurn_57 (hZ : ZRN (ztb (tb_X2_takeTurn E d mc ms)) cut G R T Z) (f : Nat) (L : ZLV) (st : List Value) (σ : ZHp) (n k w : Nat) : Z (f + 1) 57 L st σ n k w = s_callV E d mc ms 1 MX2_playHand 0 60 L st σ n k w (zk1 cut G (Z f)) G R T := zrs hZ rfl f L st σ n k w
theorem f_X2_takeTurn_60 (hZ : ZRN (ztb (tb_X2_takeTurn E d mc ms)) cut G R T Z) (f : Nat) (L : ZLV) (st : List Value) (σ : ZHp) (n k w : Nat) : Z (f + 1) 60 L st σ n k w = s_aload 0 61 L st σ n k w (zk1 cut G (Z f)) G R T := zrs hZ rfl f L st σ n k w
theorem f_X2_takeTurn_61 (hZ : ZRN (ztb (tb_X2_takeTurn E d mc ms)) cut G R T Z) (f : Nat) (L : ZLV) (st : List Value) (σ : ZHp) (n k w : Nat) : Z (f + 1) 61 L st σ n k w = s_getf 1 4 64 L st σ n k w (zk1 cut G (Z f)) G R T := zrs hZ rfl f L st σ n k w
theorem f_X2_takeTurn_64 (hZ : ZRN (ztb (tb_X2_takeTurn E d mc ms)) cut G R T Z) (f : Nat) (L : ZLV) (st : List Value) (σ : ZHp) (n k w : Nat) : Z (f + 1) 64 L st σ n k w = s_aload 0 65 L st σ n k w (zk1 cut G (Z f)) G R T := zrs hZ rfl f L st σ n k w
theorem f_X2_takeTurn_65 (hZ : ZRN (ztb (tb_X2_takeTurn E d mc ms)) cut G R T Z) (f : Nat) (L : ZLV) (st : List Value) (σ : ZHp) (n k w : Nat) : Z (f + 1) 65 L st σ n k w = s_getf 1 5 68 L st σ n k w (zk1 cut G (Z f)) G R T := zrs hZ rfl f L st σ n k w
theorem f_X2_takeTurn_68 (hZ : ZRN (ztb (tb_X2_takeTurn E d mc ms)) cut G R T Z) (f : Nat) (L : ZLV) (st : List Value) (σ : ZHp) (n k w : Nat) : Z (f + 1) 68 L st σ n k w = s_putf 10 8 0 71 L st σ n k w (zk1 cut G (Z f)) G R T := zrs hZ rfl f L st σ n k w
theorem f_X2_takeTurn_71 (hZ : ZRN (ztb (tb_X2_takeTurn E d mc ms)) cut G R T Z) (f : Nat) (L : ZLV) (st : List Value) (σ : ZHp) (n k w : Nat) : Z (f + 1) 71 L st σ n k w = s_aload 0 72 L st σ n k w (zk1 cut G (Z f)) G R T := zrs hZ rfl f L st σ n k w
theorem f_X2_takeTurn_72 (hZ : ZRN (ztb (tb_X2_takeTurn E d mc ms)) cut G R T Z) (f : Nat) (L : ZLV) (st : List Value) (σ : ZHp) (n k w : Nat) : Z (f + 1) 72 L st σ n k w = s_aload 0 73 L st σ n k w (zk1 cut G (Z f)) G R T := zrs hZ rfl f L st σ n k w
theorem f_X2_takeTurn_73 (hZ : ZRN (ztb (tb_X2_takeTurn E d mc ms)) cut G R T Z) (f : Nat) (L : ZLV) (st : List Value) (σ : ZHp) (n k w : Nat) : Z (f + 1) 73 L st σ n k w = s_getf 1 6 76 L st σ n k w (zk1 cut G (Z f)) G R T := zrs hZ rfl f L st σ n k w
theorem f_X2_takeTurn_76 (hZ : ZRN (ztb (tb_X2_takeTurn E d mc ms)) cut G R T Z) (f : Nat) (L : ZLV) (st : List Value) (σ : ZHp) (n k w : Nat) : Z (f + 1) 76 L st σ n k w = s_putf 1 7 0 79 L st σ n k w (zk1 cut G (Z f)) G R T := zrs hZ rfl f L st σ n k w
theorem f_X2_takeTurn_79 (hZ : ZRN (ztb (tb_X2_takeTurn E d mc ms)) cut G R T Z) (f : Nat) (L : ZLV) (st : List Value) (σ : ZHp) (n k w : Nat) : Z (f + 1) 79 L st σ n k w = s_aload 0 80 L st σ n k w (zk1 cut G (Z f)) G R T := zrs hZ rfl f L st σ n k w
theorem f_X2_takeTurn_80 (hZ : ZRN (ztb (tb_X2_takeTurn E d mc ms)) cut G R T Z) (f : Nat) (L : ZLV) (st : List Value) (σ : ZHp) (n k w : Nat) : Z (f + 1) 80 L st σ n k w = s_iload 1 81 L st σ n k w (zk1 cut G (Z f)) G R T := zrs hZ rfl f L st σ n k w
theorem f_X2_takeTurn_81 (hZ : ZRN (ztb (tb_X2_takeTurn E d mc ms)) cut G R T Z) (f : Nat) (L : ZLV) (st : List Value) (σ : ZHp) (n k w : Nat) : Z (f + 1) 81 L st σ n k w = s_iload 2 82 L st σ n k w (zk1 cut G (Z f)) G R T := zrs hZ rfl f L st σ n k w
theorem f_X2_takeTurn_82 (hZ : ZRN (ztb (tb_X2_takeTurn E d mc ms)) cut G R T Z) (f : Nat) (L : ZLV) (st : List Value) (σ : ZHp) (n k w : Nat) : Z (f + 1) 82 L st σ n k w = s_callV E d mc ms 1 MX2_followOrders 2 85 L st σ n k w (zk1 cut G (Z f)) G R T := zrs hZ rfl f L st σ n k w
theorem f_X2_takeTurn_85 (hZ : ZRN (ztb (tb_X2_takeTurn E d mc ms)) cut G R T Z) (f : Nat) (L : ZLV) (st : List Value) (σ : ZHp) (n k w : Nat) : Z (f + 1) 85 L st σ n k w = s_aload 0 86 L st σ n k w (zk1 cut G (Z f)) G R T := zrs hZ rfl f L st σ n k w
theorem f_X2_takeTurn_86 (hZ : ZRN (ztb (tb_X2_takeTurn E d mc ms)) cut G R T Z) (f : Nat) (L : ZLV) (st : List Value) (σ : ZHp) (n k w : Nat) : Z (f + 1) 86 L st σ n k w = s_getf 1 4 89 L st σ n k w (zk1 cut G (Z f)) G R T := zrs hZ rfl f L st σ n k w
theorem f_X2_takeTurn_89 (hZ : ZRN (ztb (tb_X2_takeTurn E d mc ms)) cut G R T Z) (f : Nat) (L : ZLV) (st : List Value) (σ : ZHp) (n k w : Nat) : Z (f + 1) 89 L st σ n k w = s_getf 10 1 92 L st σ n k w (zk1 cut G (Z f)) G R T := zrs hZ rfl f L st σ n k w
theorem f_X2_takeTurn_92 (hZ : ZRN (ztb (tb_X2_takeTurn E d mc ms)) cut G R T Z) (f : Nat) (L : ZLV) (st : List Value) (σ : ZHp) (n k w : Nat) : Z (f + 1) 92 L st σ n k w = s_aload 0 93 L st σ n k w (zk1 cut G (Z f)) G R T := zrs hZ rfl f L st σ n k w
theorem f_X2_takeTurn_93 (hZ : ZRN (ztb (tb_X2_takeTurn E d mc ms)) cut G R T Z) (f : Nat) (L : ZLV) (st : List Value) (σ : ZHp) (n k w : Nat) : Z (f + 1) 93 L st σ n k w = s_getf 1 1 96 L st σ n k w (zk1 cut G (Z f)) G R T := zrs hZ rfl f L st σ n k w
theorem f_X2_takeTurn_96 (hZ : ZRN (ztb (tb_X2_takeTurn E d mc ms)) cut G R T Z) (f : Nat) (L : ZLV) (st : List Value) (σ : ZHp) (n k w : Nat) : Z (f + 1) 96 L st σ n k w = s_callV E d mc ms 4 MX5_addAll 1 99 L st σ n k w (zk1 cut G (Z f)) G R T := zrs hZ rfl f L st σ n k w
theorem f_X2_takeTurn_99 (hZ : ZRN (ztb (tb_X2_takeTurn E d mc ms)) cut G R T Z) (f : Nat) (L : ZLV) (st : List Value) (σ : ZHp) (n k w : Nat) : Z (f + 1) 99 L st σ n k w = s_return L st σ n k w (zk1 cut G (Z f)) G R T := zrs hZ rfl f L st σ n k w
theorem f_X2_turnNumber_0 (hZ : ZRN (ztb (tb_X2_turnNumber E d mc ms)) cut G R T Z) (f : Nat) (L : ZLV) (st : List Value) (σ : ZHp) (n k w : Nat) : Z (f + 1) 0 L st σ n k w = s_iload 1 1 L st σ n k w (zk1 cut G (Z f)) G R T := zrs hZ rfl f L st σ n k w
theorem f_X2_turnNumber_1 (hZ : ZRN (ztb (tb_X2_turnNumber E d mc ms)) cut G R T Z) (f : Nat) (L : ZLV) (st : List Value) (σ : ZHp) (n k w : Nat) : Z (f + 1) 1 L st σ n k w = s_tsw 0 [32, 40, 45, 50] 55 L st σ n k w (zk1 cut G (Z f)) G R T := zrs hZ rfl f L st σ n k w
theorem f_X2_turnNumber_32 (hZ : ZRN (ztb (tb_X2_turnNumber E d mc ms)) cut G R T Z) (f : Nat) (L : ZLV) (st : List Value) (σ : ZHp) (n k w : Nat) : Z (f + 1) 32 L st σ n k w = s_aload 0 33 L st σ n k w (zk1 cut G (Z f)) G R T := zrs hZ rfl f L st σ n k w
theorem f_X2_turnNumber_33 (hZ : ZRN (ztb (tb_X2_turnNumber E d mc ms)) cut G R T Z) (f : Nat) (L : ZLV) (st : List Value) (σ : ZHp) (n k w : Nat) : Z (f + 1) 33 L st σ n k w = s_getf 1 4 36 L st σ n k w (zk1 cut G (Z f)) G R T := zrs hZ rfl f L st σ n k w
theorem f_X2_turnNumber_36 (hZ : ZRN (ztb (tb_X2_turnNumber E d mc ms)) cut G R T Z) (f : Nat) (L : ZLV) (st : List Value) (σ : ZHp) (n k w : Nat) : Z (f + 1) 36 L st σ n k w = s_getf 10 8 39 L st σ n k w (zk1 cut G (Z f)) G R T := zrs hZ rfl f L st σ n k w
theorem f_X2_turnNumber_39 (hZ : ZRN (ztb (tb_X2_turnNumber E d mc ms)) cut G R T Z) (f : Nat) (L : ZLV) (st : List Value) (σ : ZHp) (n k w : Nat) : Z (f + 1) 39 L st σ n k w = s_ireturn L st σ n k w (zk1 cut G (Z f)) G R T := zrs hZ rfl f L st σ n k w
theorem f_X2_turnNumber_40 (hZ : ZRN (ztb (tb_X2_turnNumber E d mc ms)) cut G R T Z) (f : Nat) (L : ZLV) (st : List Value) (σ : ZHp) (n k w : Nat) : Z (f + 1) 40 L st σ n k w = s_aload 0 41 L st σ n k w (zk1 cut G (Z f)) G R T := zrs hZ rfl f L st σ n k w
theorem f_X2_turnNumber_41 (hZ : ZRN (ztb (tb_X2_turnNumber E d mc ms)) cut G R T Z) (f : Nat) (L : ZLV) (st : List Value) (σ : ZHp) (n k w : Nat) : Z (f + 1) 41 L st σ n k w = s_getf 1 7 44 L st σ n k w (zk1 cut G (Z f)) G R T := zrs hZ rfl f L st σ n k w
theorem f_X2_turnNumber_44 (hZ : ZRN (ztb (tb_X2_turnNumber E d mc ms)) cut G R T Z) (f : Nat) (L : ZLV) (st : List Value) (σ : ZHp) (n k w : Nat) : Z (f + 1) 44 L st σ n k w = s_ireturn L st σ n k w (zk1 cut G (Z f)) G R T := zrs hZ rfl f L st σ n k w
theorem f_X2_turnNumber_45 (hZ : ZRN (ztb (tb_X2_turnNumber E d mc ms)) cut G R T Z) (f : Nat) (L : ZLV) (st : List Value) (σ : ZHp) (n k w : Nat) : Z (f + 1) 45 L st σ n k w = s_aload 0 46 L st σ n k w (zk1 cut G (Z f)) G R T := zrs hZ rfl f L st σ n k w
theorem f_X2_turnNumber_46 (hZ : ZRN (ztb (tb_X2_turnNumber E d mc ms)) cut G R T Z) (f : Nat) (L : ZLV) (st : List Value) (σ : ZHp) (n k w : Nat) : Z (f + 1) 46 L st σ n k w = s_getf 1 8 49 L st σ n k w (zk1 cut G (Z f)) G R T := zrs hZ rfl f L st σ n k w
theorem f_X2_turnNumber_49 (hZ : ZRN (ztb (tb_X2_turnNumber E d mc ms)) cut G R T Z) (f : Nat) (L : ZLV) (st : List Value) (σ : ZHp) (n k w : Nat) : Z (f + 1) 49 L st σ n k w = s_ireturn L st σ n k w (zk1 cut G (Z f)) G R T := zrs hZ rfl f L st σ n k w
theorem f_X2_turnNumber_50 (hZ : ZRN (ztb (tb_X2_turnNumber E d mc ms)) cut G R T Z) (f : Nat) (L : ZLV) (st : List Value) (σ : ZHp) (n k w : Nat) : Z (f + 1) 50 L st σ n k w = s_aload 0 51 L st σ n k w (zk1 cut G (Z f)) G R T := zrs hZ rfl f L st σ n k w
theorem f_X2_turnNumber_51 (hZ : ZRN (ztb (tb_X2_turnNumber E d mc ms)) cut G R T Z) (f : Nat) (L : ZLV) (st : List Value) (σ : ZHp) (n k w : Nat) : Z (f + 1) 51 L st σ n k w = s_getf 1 9 54 L st σ n k w (zk1 cut G (Z f)) G R T := zrs hZ rfl f L st σ n k w
theorem f_X2_turnNumber_54 (hZ : ZRN (ztb (tb_X2_turnNumber E d mc ms)) cut G R T Z) (f : Nat) (L : ZLV) (st : List Value) (σ : ZHp) (n k w : Nat) : Z (f + 1) 54 L st σ n k w = s_ireturn L st σ n k w (zk1 cut G (Z f)) G R T := zrs hZ rfl f L st σ n k w
theorem f_X2_turnNumber_55 (hZ : ZRN (ztb (tb_X2_turnNumber E d mc ms)) cut G R T Z) (f : Nat) (L : ZLV) (st : List Value) (σ : ZHp) (n k w : Nat) : Z (f + 1) 55 L st σ n k w = s_aload 0 56 L st σ n k w (zk1 cut G (Z f)) G R T := zrs hZ rfl f L st σ n k w
theorem f_X2_turnNumber_56 (hZ : ZRN (ztb (tb_X2_turnNumber E d mc ms)) cut G R T Z) (f : Nat) (L : ZLV) (st : List Value) (σ : ZHp) (n k w : Nat) : Z (f + 1) 56 L st σ n k w = s_getf 1 10 59 L st σ n k w (zk1 cut G (Z f)) G R T := zrs hZ rfl f L st σ n k w
theorem f_X2_turnNumber_59 (hZ : ZRN (ztb (tb_X2_turnNumber E d mc ms)) cut G R T Z) (f : Nat) (L : ZLV) (st : List Value) (σ : ZHp) (n k w : Nat) : Z (f + 1) 59 L st σ n k w = s_ireturn L st σ n k w (zk1 cut G (Z f)) G R T := zrs hZ rfl f L st σ n k w
theorem f_X2_draw_0 (hZ : ZRN (ztb (tb_X2_draw E d mc ms)) cut G R T Z) (f : Nat) (L : ZLV) (st : List Value) (σ : ZHp) (n k w : Nat) : Z (f + 1) 0 L st σ n k w = s_const (.int (0)) 1 L st σ n k w (zk1 cut G (Z f)) G R T := zrs hZ rfl f L st σ n k w
theorem f_X2_draw_1 (hZ : ZRN (ztb (tb_X2_draw E d mc ms)) cut G R T Z) (f : Nat) (L : ZLV) (st : List Value) (σ : ZHp) (n k w : Nat) : Z (f + 1) 1 L st σ n k w = s_istore 2 2 L st σ n k w (zk1 cut G (Z f)) G R T := zrs hZ rfl f L st σ n k w
theorem f_X2_draw_2 (hZ : ZRN (ztb (tb_X2_draw E d mc ms)) cut G R T Z) (f : Nat) (L : ZLV) (st : List Value) (σ : ZHp) (n k w : Nat) : Z (f + 1) 2 L st σ n k w = s_iload 2 3 L st σ n k w (zk1 cut G (Z f)) G R T := zrs hZ rfl f L st σ n k w
theorem f_X2_draw_3 (hZ : ZRN (ztb (tb_X2_draw E d mc ms)) cut G R T Z) (f : Nat) (L : ZLV) (st : List Value) (σ : ZHp) (n k w : Nat) : Z (f + 1) 3 L st σ n k w = s_iload 1 4 L st σ n k w (zk1 cut G (Z f)) G R T := zrs hZ rfl f L st σ n k w
theorem f_X2_draw_4 (hZ : ZRN (ztb (tb_X2_draw E d mc ms)) cut G R T Z) (f : Nat) (L : ZLV) (st : List Value) (σ : ZHp) (n k w : Nat) : Z (f + 1) 4 L st σ n k w = s_icmp_ge 54 7 L st σ n k w (zk1 cut G (Z f)) G R T := zrs hZ rfl f L st σ n k w
theorem f_X2_draw_7 (hZ : ZRN (ztb (tb_X2_draw E d mc ms)) cut G R T Z) (f : Nat) (L : ZLV) (st : List Value) (σ : ZHp) (n k w : Nat) : Z (f + 1) 7 L st σ n k w = s_aload 0 8 L st σ n k w (zk1 cut G (Z f)) G R T := zrs hZ rfl f L st σ n k w
theorem f_X2_draw_8 (hZ : ZRN (ztb (tb_X2_draw E d mc ms)) cut G R T Z) (f : Nat) (L : ZLV) (st : List Value) (σ : ZHp) (n k w : Nat) : Z (f + 1) 8 L st σ n k w = s_getf 1 4 11 L st σ n k w (zk1 cut G (Z f)) G R T := zrs hZ rfl f L st σ n k w
theorem f_X2_draw_11 (hZ : ZRN (ztb (tb_X2_draw E d mc ms)) cut G R T Z) (f : Nat) (L : ZLV) (st : List Value) (σ : ZHp) (n k w : Nat) : Z (f + 1) 11 L st σ n k w = s_callV E d mc ms 10 MX11_deckSize 0 14 L st σ n k w (zk1 cut G (Z f)) G R T := zrs hZ rfl f L st σ n k w
theorem f_X2_draw_14 (hZ : ZRN (ztb (tb_X2_draw E d mc ms)) cut G R T Z) (f : Nat) (L : ZLV) (st : List Value) (σ : ZHp) (n k w : Nat) : Z (f + 1) 14 L st σ n k w = s_if_ne 24 17 L st σ n k w (zk1 cut G (Z f)) G R T := zrs hZ rfl f L st σ n k w
theorem f_X2_draw_17 (hZ : ZRN (ztb (tb_X2_draw E d mc ms)) cut G R T Z) (f : Nat) (L : ZLV) (st : List Value) (σ : ZHp) (n k w : Nat) : Z (f + 1) 17 L st σ n k w = s_aload 0 18 L st σ n k w (zk1 cut G (Z f)) G R T := zrs hZ rfl f L st σ n k w
theorem f_X2_draw_18 (hZ : ZRN (ztb (tb_X2_draw E d mc ms)) cut G R T Z) (f : Nat) (L : ZLV) (st : List Value) (σ : ZHp) (n k w : Nat) : Z (f + 1) 18 L st σ n k w = s_getf 1 4 21 L st σ n k w (zk1 cut G (Z f)) G R T := zrs hZ rfl f L st σ n k w
theorem f_X2_draw_21 (hZ : ZRN (ztb (tb_X2_draw E d mc ms)) cut G R T Z) (f : Nat) (L : ZLV) (st : List Value) (σ : ZHp) (n k w : Nat) : Z (f + 1) 21 L st σ n k w = s_callV E d mc ms 10 MX11_mixDiscards 0 24 L st σ n k w (zk1 cut G (Z f)) G R T := zrs hZ rfl f L st σ n k w
theorem f_X2_draw_24 (hZ : ZRN (ztb (tb_X2_draw E d mc ms)) cut G R T Z) (f : Nat) (L : ZLV) (st : List Value) (σ : ZHp) (n k w : Nat) : Z (f + 1) 24 L st σ n k w = s_aload 0 25 L st σ n k w (zk1 cut G (Z f)) G R T := zrs hZ rfl f L st σ n k w
theorem f_X2_draw_25 (hZ : ZRN (ztb (tb_X2_draw E d mc ms)) cut G R T Z) (f : Nat) (L : ZLV) (st : List Value) (σ : ZHp) (n k w : Nat) : Z (f + 1) 25 L st σ n k w = s_getf 1 4 28 L st σ n k w (zk1 cut G (Z f)) G R T := zrs hZ rfl f L st σ n k w
theorem f_X2_draw_28 (hZ : ZRN (ztb (tb_X2_draw E d mc ms)) cut G R T Z) (f : Nat) (L : ZLV) (st : List Value) (σ : ZHp) (n k w : Nat) : Z (f + 1) 28 L st σ n k w = s_callV E d mc ms 10 MX11_deckSize 0 31 L st σ n k w (zk1 cut G (Z f)) G R T := zrs hZ rfl f L st σ n k w
theorem f_X2_draw_31 (hZ : ZRN (ztb (tb_X2_draw E d mc ms)) cut G R T Z) (f : Nat) (L : ZLV) (st : List Value) (σ : ZHp) (n k w : Nat) : Z (f + 1) 31 L st σ n k w = s_if_le 48 34 L st σ n k w (zk1 cut G (Z f)) G R T := zrs hZ rfl f L st σ n k w
theorem f_X2_draw_34 (hZ : ZRN (ztb (tb_X2_draw E d mc ms)) cut G R T Z) (f : Nat) (L : ZLV) (st : List Value) (σ : ZHp) (n k w : Nat) : Z (f + 1) 34 L st σ n k w = s_aload 0 35 L st σ n k w (zk1 cut G (Z f)) G R T := zrs hZ rfl f L st σ n k w
theorem f_X2_draw_35 (hZ : ZRN (ztb (tb_X2_draw E d mc ms)) cut G R T Z) (f : Nat) (L : ZLV) (st : List Value) (σ : ZHp) (n k w : Nat) : Z (f + 1) 35 L st σ n k w = s_getf 1 1 38 L st σ n k w (zk1 cut G (Z f)) G R T := zrs hZ rfl f L st σ n k w
theorem f_X2_draw_38 (hZ : ZRN (ztb (tb_X2_draw E d mc ms)) cut G R T Z) (f : Nat) (L : ZLV) (st : List Value) (σ : ZHp) (n k w : Nat) : Z (f + 1) 38 L st σ n k w = s_aload 0 39 L st σ n k w (zk1 cut G (Z f)) G R T := zrs hZ rfl f L st σ n k w
theorem f_X2_draw_39 (hZ : ZRN (ztb (tb_X2_draw E d mc ms)) cut G R T Z) (f : Nat) (L : ZLV) (st : List Value) (σ : ZHp) (n k w : Nat) : Z (f + 1) 39 L st σ n k w = s_getf 1 4 42 L st σ n k w (zk1 cut G (Z f)) G R T := zrs hZ rfl f L st σ n k w
theorem f_X2_draw_42 (hZ : ZRN (ztb (tb_X2_draw E d mc ms)) cut G R T Z) (f : Nat) (L : ZLV) (st : List Value) (σ : ZHp) (n k w : Nat) : Z (f + 1) 42 L st σ n k w = s_callV E d mc ms 10 MX11_drawTop 0 45 L st σ n k w (zk1 cut G (Z f)) G R T := zrs hZ rfl f L st σ n k w
theorem f_X2_draw_45 (hZ : ZRN (ztb (tb_X2_draw E d mc ms)) cut G R T Z) (f : Nat) (L : ZLV) (st : List Value) (σ : ZHp) (n k w : Nat) : Z (f + 1) 45 L st σ n k w = s_callV E d mc ms 4 MX5_add 1 48 L st σ n k w (zk1 cut G (Z f)) G R T := zrs hZ rfl f L st σ n k w
theorem f_X2_draw_48 (hZ : ZRN (ztb (tb_X2_draw E d mc ms)) cut G R T Z) (f : Nat) (L : ZLV) (st : List Value) (σ : ZHp) (n k w : Nat) : Z (f + 1) 48 L st σ n k w = s_iinc 2 (1) 51 L st σ n k w (zk1 cut G (Z f)) G R T := zrs hZ rfl f L st σ n k w
theorem f_X2_draw_51 (hZ : ZRN (ztb (tb_X2_draw E d mc ms)) cut G R T Z) (f : Nat) (L : ZLV) (st : List Value) (σ : ZHp) (n k w : Nat) : Z (f + 1) 51 L st σ n k w = s_goto 2 L st σ n k w (zk1 cut G (Z f)) G R T := zrs hZ rfl f L st σ n k w
theorem f_X2_draw_54 (hZ : ZRN (ztb (tb_X2_draw E d mc ms)) cut G R T Z) (f : Nat) (L : ZLV) (st : List Value) (σ : ZHp) (n k w : Nat) : Z (f + 1) 54 L st σ n k w = s_return L st σ n k w (zk1 cut G (Z f)) G R T := zrs hZ rfl f L st σ n k w
theorem f_X2_playHand_0 (hZ : ZRN (ztb (tb_X2_playHand E d mc ms)) cut G R T Z) (f : Nat) (L : ZLV) (st : List Value) (σ : ZHp) (n k w : Nat) : Z (f + 1) 0 L st σ n k w = s_const (.int (0)) 1 L st σ n k w (zk1 cut G (Z f)) G R T := zrs hZ rfl f L st σ n k w
theorem f_X2_playHand_1 (hZ : ZRN (ztb (tb_X2_playHand E d mc ms)) cut G R T Z) (f : Nat) (L : ZLV) (st : List Value) (σ : ZHp) (n k w : Nat) : Z (f + 1) 1 L st σ n k w = s_istore 1 2 L st σ n k w (zk1 cut G (Z f)) G R T := zrs hZ rfl f L st σ n k w
theorem f_X2_playHand_2 (hZ : ZRN (ztb (tb_X2_playHand E d mc ms)) cut G R T Z) (f : Nat) (L : ZLV) (st : List Value) (σ : ZHp) (n k w : Nat) : Z (f + 1) 2 L st σ n k w = s_iload 1 3 L st σ n k w (zk1 cut G (Z f)) G R T := zrs hZ rfl f L st σ n k w
theorem f_X2_playHand_3 (hZ : ZRN (ztb (tb_X2_playHand E d mc ms)) cut G R T Z) (f : Nat) (L : ZLV) (st : List Value) (σ : ZHp) (n k w : Nat) : Z (f + 1) 3 L st σ n k w = s_const (.int (30)) 5 L st σ n k w (zk1 cut G (Z f)) G R T := zrs hZ rfl f L st σ n k w
theorem f_X2_playHand_5 (hZ : ZRN (ztb (tb_X2_playHand E d mc ms)) cut G R T Z) (f : Nat) (L : ZLV) (st : List Value) (σ : ZHp) (n k w : Nat) : Z (f + 1) 5 L st σ n k w = s_icmp_ge 101 8 L st σ n k w (zk1 cut G (Z f)) G R T := zrs hZ rfl f L st σ n k w
theorem f_X2_playHand_8 (hZ : ZRN (ztb (tb_X2_playHand E d mc ms)) cut G R T Z) (f : Nat) (L : ZLV) (st : List Value) (σ : ZHp) (n k w : Nat) : Z (f + 1) 8 L st σ n k w = s_iload 1 9 L st σ n k w (zk1 cut G (Z f)) G R T := zrs hZ rfl f L st σ n k w
theorem f_X2_playHand_9 (hZ : ZRN (ztb (tb_X2_playHand E d mc ms)) cut G R T Z) (f : Nat) (L : ZLV) (st : List Value) (σ : ZHp) (n k w : Nat) : Z (f + 1) 9 L st σ n k w = s_aload 0 10 L st σ n k w (zk1 cut G (Z f)) G R T := zrs hZ rfl f L st σ n k w
theorem f_X2_playHand_10 (hZ : ZRN (ztb (tb_X2_playHand E d mc ms)) cut G R T Z) (f : Nat) (L : ZLV) (st : List Value) (σ : ZHp) (n k w : Nat) : Z (f + 1) 10 L st σ n k w = s_getf 1 1 13 L st σ n k w (zk1 cut G (Z f)) G R T := zrs hZ rfl f L st σ n k w
theorem f_X2_playHand_13 (hZ : ZRN (ztb (tb_X2_playHand E d mc ms)) cut G R T Z) (f : Nat) (L : ZLV) (st : List Value) (σ : ZHp) (n k w : Nat) : Z (f + 1) 13 L st σ n k w = s_callV E d mc ms 4 MX5_size 0 16 L st σ n k w (zk1 cut G (Z f)) G R T := zrs hZ rfl f L st σ n k w
theorem f_X2_playHand_16 (hZ : ZRN (ztb (tb_X2_playHand E d mc ms)) cut G R T Z) (f : Nat) (L : ZLV) (st : List Value) (σ : ZHp) (n k w : Nat) : Z (f + 1) 16 L st σ n k w = s_icmp_ge 101 19 L st σ n k w (zk1 cut G (Z f)) G R T := zrs hZ rfl f L st σ n k w
theorem f_X2_playHand_19 (hZ : ZRN (ztb (tb_X2_playHand E d mc ms)) cut G R T Z) (f : Nat) (L : ZLV) (st : List Value) (σ : ZHp) (n k w : Nat) : Z (f + 1) 19 L st σ n k w = s_aload 0 20 L st σ n k w (zk1 cut G (Z f)) G R T := zrs hZ rfl f L st σ n k w
theorem f_X2_playHand_20 (hZ : ZRN (ztb (tb_X2_playHand E d mc ms)) cut G R T Z) (f : Nat) (L : ZLV) (st : List Value) (σ : ZHp) (n k w : Nat) : Z (f + 1) 20 L st σ n k w = s_getf 1 1 23 L st σ n k w (zk1 cut G (Z f)) G R T := zrs hZ rfl f L st σ n k w
theorem f_X2_playHand_23 (hZ : ZRN (ztb (tb_X2_playHand E d mc ms)) cut G R T Z) (f : Nat) (L : ZLV) (st : List Value) (σ : ZHp) (n k w : Nat) : Z (f + 1) 23 L st σ n k w = s_iload 1 24 L st σ n k w (zk1 cut G (Z f)) G R T := zrs hZ rfl f L st σ n k w
theorem f_X2_playHand_24 (hZ : ZRN (ztb (tb_X2_playHand E d mc ms)) cut G R T Z) (f : Nat) (L : ZLV) (st : List Value) (σ : ZHp) (n k w : Nat) : Z (f + 1) 24 L st σ n k w = s_callV E d mc ms 4 MX5_get 1 27 L st σ n k w (zk1 cut G (Z f)) G R T := zrs hZ rfl f L st σ n k w
theorem f_X2_playHand_27 (hZ : ZRN (ztb (tb_X2_playHand E d mc ms)) cut G R T Z) (f : Nat) (L : ZLV) (st : List Value) (σ : ZHp) (n k w : Nat) : Z (f + 1) 27 L st σ n k w = s_istore 2 28 L st σ n k w (zk1 cut G (Z f)) G R T := zrs hZ rfl f L st σ n k w
theorem f_X2_playHand_28 (hZ : ZRN (ztb (tb_X2_playHand E d mc ms)) cut G R T Z) (f : Nat) (L : ZLV) (st : List Value) (σ : ZHp) (n k w : Nat) : Z (f + 1) 28 L st σ n k w = s_aload 0 29 L st σ n k w (zk1 cut G (Z f)) G R T := zrs hZ rfl f L st σ n k w
theorem f_X2_playHand_29 (hZ : ZRN (ztb (tb_X2_playHand E d mc ms)) cut G R T Z) (f : Nat) (L : ZLV) (st : List Value) (σ : ZHp) (n k w : Nat) : Z (f + 1) 29 L st σ n k w = s_dup 30 L st σ n k w (zk1 cut G (Z f)) G R T := zrs hZ rfl f L st σ n k w
theorem f_X2_playHand_30 (hZ : ZRN (ztb (tb_X2_playHand E d mc ms)) cut G R T Z) (f : Nat) (L : ZLV) (st : List Value) (σ : ZHp) (n k w : Nat) : Z (f + 1) 30 L st σ n k w = s_getf 1 8 33 L st σ n k w (zk1 cut G (Z f)) G R T := zrs hZ rfl f L st σ n k w
theorem f_X2_playHand_33 (hZ : ZRN (ztb (tb_X2_playHand E d mc ms)) cut G R T Z) (f : Nat) (L : ZLV) (st : List Value) (σ : ZHp) (n k w : Nat) : Z (f + 1) 33 L st σ n k w = s_const (.int (1)) 34 L st σ n k w (zk1 cut G (Z f)) G R T := zrs hZ rfl f L st σ n k w
theorem f_X2_playHand_34 (hZ : ZRN (ztb (tb_X2_playHand E d mc ms)) cut G R T Z) (f : Nat) (L : ZLV) (st : List Value) (σ : ZHp) (n k w : Nat) : Z (f + 1) 34 L st σ n k w = s_iadd 35 L st σ n k w (zk1 cut G (Z f)) G R T := zrs hZ rfl f L st σ n k w
theorem f_X2_playHand_35 (hZ : ZRN (ztb (tb_X2_playHand E d mc ms)) cut G R T Z) (f : Nat) (L : ZLV) (st : List Value) (σ : ZHp) (n k w : Nat) : Z (f + 1) 35 L st σ n k w = s_putf 1 8 0 38 L st σ n k w (zk1 cut G (Z f)) G R T := zrs hZ rfl f L st σ n k w
theorem f_X2_playHand_38 (hZ : ZRN (ztb (tb_X2_playHand E d mc ms)) cut G R T Z) (f : Nat) (L : ZLV) (st : List Value) (σ : ZHp) (n k w : Nat) : Z (f + 1) 38 L st σ n k w = s_aload 0 39 L st σ n k w (zk1 cut G (Z f)) G R T := zrs hZ rfl f L st σ n k w
theorem f_X2_playHand_39 (hZ : ZRN (ztb (tb_X2_playHand E d mc ms)) cut G R T Z) (f : Nat) (L : ZLV) (st : List Value) (σ : ZHp) (n k w : Nat) : Z (f + 1) 39 L st σ n k w = s_getf 1 2 42 L st σ n k w (zk1 cut G (Z f)) G R T := zrs hZ rfl f L st σ n k w
theorem f_X2_playHand_42 (hZ : ZRN (ztb (tb_X2_playHand E d mc ms)) cut G R T Z) (f : Nat) (L : ZLV) (st : List Value) (σ : ZHp) (n k w : Nat) : Z (f + 1) 42 L st σ n k w = s_iload 2 43 L st σ n k w (zk1 cut G (Z f)) G R T := zrs hZ rfl f L st σ n k w
theorem f_X2_playHand_43 (hZ : ZRN (ztb (tb_X2_playHand E d mc ms)) cut G R T Z) (f : Nat) (L : ZLV) (st : List Value) (σ : ZHp) (n k w : Nat) : Z (f + 1) 43 L st σ n k w = s_const (.int (1)) 44 L st σ n k w (zk1 cut G (Z f)) G R T := zrs hZ rfl f L st σ n k w
theorem f_X2_playHand_44 (hZ : ZRN (ztb (tb_X2_playHand E d mc ms)) cut G R T Z) (f : Nat) (L : ZLV) (st : List Value) (σ : ZHp) (n k w : Nat) : Z (f + 1) 44 L st σ n k w = s_callV E d mc ms 4 MX5_raise 2 47 L st σ n k w (zk1 cut G (Z f)) G R T := zrs hZ rfl f L st σ n k w
theorem f_X2_playHand_47 (hZ : ZRN (ztb (tb_X2_playHand E d mc ms)) cut G R T Z) (f : Nat) (L : ZLV) (st : List Value) (σ : ZHp) (n k w : Nat) : Z (f + 1) 47 L st σ n k w = s_aload 0 48 L st σ n k w (zk1 cut G (Z f)) G R T := zrs hZ rfl f L st σ n k w
theorem f_X2_playHand_48 (hZ : ZRN (ztb (tb_X2_playHand E d mc ms)) cut G R T Z) (f : Nat) (L : ZLV) (st : List Value) (σ : ZHp) (n k w : Nat) : Z (f + 1) 48 L st σ n k w = s_getf 1 0 51 L st σ n k w (zk1 cut G (Z f)) G R T := zrs hZ rfl f L st σ n k w
theorem f_X2_playHand_51 (hZ : ZRN (ztb (tb_X2_playHand E d mc ms)) cut G R T Z) (f : Nat) (L : ZLV) (st : List Value) (σ : ZHp) (n k w : Nat) : Z (f + 1) 51 L st σ n k w = s_getf 3 1 54 L st σ n k w (zk1 cut G (Z f)) G R T := zrs hZ rfl f L st σ n k w
theorem f_X2_playHand_54 (hZ : ZRN (ztb (tb_X2_playHand E d mc ms)) cut G R T Z) (f : Nat) (L : ZLV) (st : List Value) (σ : ZHp) (n k w : Nat) : Z (f + 1) 54 L st σ n k w = s_iload 2 55 L st σ n k w (zk1 cut G (Z f)) G R T := zrs hZ rfl f L st σ n k w
theorem f_X2_playHand_55 (hZ : ZRN (ztb (tb_X2_playHand E d mc ms)) cut G R T Z) (f : Nat) (L : ZLV) (st : List Value) (σ : ZHp) (n k w : Nat) : Z (f + 1) 55 L st σ n k w = s_const (.int (1)) 56 L st σ n k w (zk1 cut G (Z f)) G R T := zrs hZ rfl f L st σ n k w
theorem f_X2_playHand_56 (hZ : ZRN (ztb (tb_X2_playHand E d mc ms)) cut G R T Z) (f : Nat) (L : ZLV) (st : List Value) (σ : ZHp) (n k w : Nat) : Z (f + 1) 56 L st σ n k w = s_callV E d mc ms 4 MX5_raise 2 59 L st σ n k w (zk1 cut G (Z f)) G R T := zrs hZ rfl f L st σ n k w
theorem f_X2_playHand_59 (hZ : ZRN (ztb (tb_X2_playHand E d mc ms)) cut G R T Z) (f : Nat) (L : ZLV) (st : List Value) (σ : ZHp) (n k w : Nat) : Z (f + 1) 59 L st σ n k w = s_const (.int (0)) 60 L st σ n k w (zk1 cut G (Z f)) G R T := zrs hZ rfl f L st σ n k w
theorem f_X2_playHand_60 (hZ : ZRN (ztb (tb_X2_playHand E d mc ms)) cut G R T Z) (f : Nat) (L : ZLV) (st : List Value) (σ : ZHp) (n k w : Nat) : Z (f + 1) 60 L st σ n k w = s_istore 3 61 L st σ n k w (zk1 cut G (Z f)) G R T := zrs hZ rfl f L st σ n k w
theorem f_X2_playHand_61 (hZ : ZRN (ztb (tb_X2_playHand E d mc ms)) cut G R T Z) (f : Nat) (L : ZLV) (st : List Value) (σ : ZHp) (n k w : Nat) : Z (f + 1) 61 L st σ n k w = s_iload 3 62 L st σ n k w (zk1 cut G (Z f)) G R T := zrs hZ rfl f L st σ n k w
theorem f_X2_playHand_62 (hZ : ZRN (ztb (tb_X2_playHand E d mc ms)) cut G R T Z) (f : Nat) (L : ZLV) (st : List Value) (σ : ZHp) (n k w : Nat) : Z (f + 1) 62 L st σ n k w = s_aload 0 63 L st σ n k w (zk1 cut G (Z f)) G R T := zrs hZ rfl f L st σ n k w
theorem f_X2_playHand_63 (hZ : ZRN (ztb (tb_X2_playHand E d mc ms)) cut G R T Z) (f : Nat) (L : ZLV) (st : List Value) (σ : ZHp) (n k w : Nat) : Z (f + 1) 63 L st σ n k w = s_getf 1 0 66 L st σ n k w (zk1 cut G (Z f)) G R T := zrs hZ rfl f L st σ n k w
theorem f_X2_playHand_66 (hZ : ZRN (ztb (tb_X2_playHand E d mc ms)) cut G R T Z) (f : Nat) (L : ZLV) (st : List Value) (σ : ZHp) (n k w : Nat) : Z (f + 1) 66 L st σ n k w = s_getf 3 5 69 L st σ n k w (zk1 cut G (Z f)) G R T := zrs hZ rfl f L st σ n k w
theorem f_X2_playHand_69 (hZ : ZRN (ztb (tb_X2_playHand E d mc ms)) cut G R T Z) (f : Nat) (L : ZLV) (st : List Value) (σ : ZHp) (n k w : Nat) : Z (f + 1) 69 L st σ n k w = s_getf 5 7 72 L st σ n k w (zk1 cut G (Z f)) G R T := zrs hZ rfl f L st σ n k w
theorem f_X2_playHand_72 (hZ : ZRN (ztb (tb_X2_playHand E d mc ms)) cut G R T Z) (f : Nat) (L : ZLV) (st : List Value) (σ : ZHp) (n k w : Nat) : Z (f + 1) 72 L st σ n k w = s_iload 2 73 L st σ n k w (zk1 cut G (Z f)) G R T := zrs hZ rfl f L st σ n k w
theorem f_X2_playHand_73 (hZ : ZRN (ztb (tb_X2_playHand E d mc ms)) cut G R T Z) (f : Nat) (L : ZLV) (st : List Value) (σ : ZHp) (n k w : Nat) : Z (f + 1) 73 L st σ n k w = s_callV E d mc ms 4 MX5_get 1 76 L st σ n k w (zk1 cut G (Z f)) G R T := zrs hZ rfl f L st σ n k w
theorem f_X2_playHand_76 (hZ : ZRN (ztb (tb_X2_playHand E d mc ms)) cut G R T Z) (f : Nat) (L : ZLV) (st : List Value) (σ : ZHp) (n k w : Nat) : Z (f + 1) 76 L st σ n k w = s_icmp_ge 95 79 L st σ n k w (zk1 cut G (Z f)) G R T := zrs hZ rfl f L st σ n k w
theorem f_X2_playHand_79 (hZ : ZRN (ztb (tb_X2_playHand E d mc ms)) cut G R T Z) (f : Nat) (L : ZLV) (st : List Value) (σ : ZHp) (n k w : Nat) : Z (f + 1) 79 L st σ n k w = s_aload 0 80 L st σ n k w (zk1 cut G (Z f)) G R T := zrs hZ rfl f L st σ n k w
theorem f_X2_playHand_80 (hZ : ZRN (ztb (tb_X2_playHand E d mc ms)) cut G R T Z) (f : Nat) (L : ZLV) (st : List Value) (σ : ZHp) (n k w : Nat) : Z (f + 1) 80 L st σ n k w = s_iload 2 81 L st σ n k w (zk1 cut G (Z f)) G R T := zrs hZ rfl f L st σ n k w
theorem f_X2_playHand_81 (hZ : ZRN (ztb (tb_X2_playHand E d mc ms)) cut G R T Z) (f : Nat) (L : ZLV) (st : List Value) (σ : ZHp) (n k w : Nat) : Z (f + 1) 81 L st σ n k w = s_iload 2 82 L st σ n k w (zk1 cut G (Z f)) G R T := zrs hZ rfl f L st σ n k w
theorem f_X2_playHand_82 (hZ : ZRN (ztb (tb_X2_playHand E d mc ms)) cut G R T Z) (f : Nat) (L : ZLV) (st : List Value) (σ : ZHp) (n k w : Nat) : Z (f + 1) 82 L st σ n k w = s_const (.int (4)) 83 L st σ n k w (zk1 cut G (Z f)) G R T := zrs hZ rfl f L st σ n k w
theorem f_X2_playHand_83 (hZ : ZRN (ztb (tb_X2_playHand E d mc ms)) cut G R T Z) (f : Nat) (L : ZLV) (st : List Value) (σ : ZHp) (n k w : Nat) : Z (f + 1) 83 L st σ n k w = s_imul 84 L st σ n k w (zk1 cut G (Z f)) G R T := zrs hZ rfl f L st σ n k w
theorem f_X2_playHand_84 (hZ : ZRN (ztb (tb_X2_playHand E d mc ms)) cut G R T Z) (f : Nat) (L : ZLV) (st : List Value) (σ : ZHp) (n k w : Nat) : Z (f + 1) 84 L st σ n k w = s_iload 3 85 L st σ n k w (zk1 cut G (Z f)) G R T := zrs hZ rfl f L st σ n k w
theorem f_X2_playHand_85 (hZ : ZRN (ztb (tb_X2_playHand E d mc ms)) cut G R T Z) (f : Nat) (L : ZLV) (st : List Value) (σ : ZHp) (n k w : Nat) : Z (f + 1) 85 L st σ n k w = s_iadd 86 L st σ n k w (zk1 cut G (Z f)) G R T := zrs hZ rfl f L st σ n k w
theorem f_X2_playHand_86 (hZ : ZRN (ztb (tb_X2_playHand E d mc ms)) cut G R T Z) (f : Nat) (L : ZLV) (st : List Value) (σ : ZHp) (n k w : Nat) : Z (f + 1) 86 L st σ n k w = s_callV E d mc ms 1 MX2_doDeed 2 89 L st σ n k w (zk1 cut G (Z f)) G R T := zrs hZ rfl f L st σ n k w
theorem f_X2_playHand_89 (hZ : ZRN (ztb (tb_X2_playHand E d mc ms)) cut G R T Z) (f : Nat) (L : ZLV) (st : List Value) (σ : ZHp) (n k w : Nat) : Z (f + 1) 89 L st σ n k w = s_iinc 3 (1) 92 L st σ n k w (zk1 cut G (Z f)) G R T := zrs hZ rfl f L st σ n k w
theorem f_X2_playHand_92 (hZ : ZRN (ztb (tb_X2_playHand E d mc ms)) cut G R T Z) (f : Nat) (L : ZLV) (st : List Value) (σ : ZHp) (n k w : Nat) : Z (f + 1) 92 L st σ n k w = s_goto 61 L st σ n k w (zk1 cut G (Z f)) G R T := zrs hZ rfl f L st σ n k w
theorem f_X2_playHand_95 (hZ : ZRN (ztb (tb_X2_playHand E d mc ms)) cut G R T Z) (f : Nat) (L : ZLV) (st : List Value) (σ : ZHp) (n k w : Nat) : Z (f + 1) 95 L st σ n k w = s_iinc 1 (1) 98 L st σ n k w (zk1 cut G (Z f)) G R T := zrs hZ rfl f L st σ n k w
theorem f_X2_playHand_98 (hZ : ZRN (ztb (tb_X2_playHand E d mc ms)) cut G R T Z) (f : Nat) (L : ZLV) (st : List Value) (σ : ZHp) (n k w : Nat) : Z (f + 1) 98 L st σ n k w = s_goto 2 L st σ n k w (zk1 cut G (Z f)) G R T := zrs hZ rfl f L st σ n k w
theorem f_X2_playHand_101 (hZ : ZRN (ztb (tb_X2_playHand E d mc ms)) cut G R T Z) (f : Nat) (L : ZLV) (st : List Value) (σ : ZHp) (n k w : Nat) : Z (f + 1) 101 L st σ n k w = s_return L st σ n k w (zk1 cut G (Z f)) G R T := zrs hZ rfl f L st σ n k w
theorem f_X2_doDeed_0 (hZ : ZRN (ztb (tb_X2_doDeed E d mc ms)) cut G R T Z) (f : Nat) (L : ZLV) (st : List Value) (σ : ZHp) (n k w : Nat) : Z (f + 1) 0 L st σ n k w = s_aload 0 1 L st σ n k w (zk1 cut G (Z f)) G R T := zrs hZ rfl f L st σ n k w
theorem f_X2_doDeed_1 (hZ : ZRN (ztb (tb_X2_doDeed E d mc ms)) cut G R T Z) (f : Nat) (L : ZLV) (st : List Value) (σ : ZHp) (n k w : Nat) : Z (f + 1) 1 L st σ n k w = s_getf 1 0 4 L st σ n k w (zk1 cut G (Z f)) G R T := zrs hZ rfl f L st σ n k w
theorem f_X2_doDeed_4 (hZ : ZRN (ztb (tb_X2_doDeed E d mc ms)) cut G R T Z) (f : Nat) (L : ZLV) (st : List Value) (σ : ZHp) (n k w : Nat) : Z (f + 1) 4 L st σ n k w = s_getf 3 5 7 L st σ n k w (zk1 cut G (Z f)) G R T := zrs hZ rfl f L st σ n k w
theorem f_X2_doDeed_7 (hZ : ZRN (ztb (tb_X2_doDeed E d mc ms)) cut G R T Z) (f : Nat) (L : ZLV) (st : List Value) (σ : ZHp) (n k w : Nat) : Z (f + 1) 7 L st σ n k w = s_astore 3 8 L st σ n k w (zk1 cut G (Z f)) G R T := zrs hZ rfl f L st σ n k w
theorem f_X2_doDeed_8 (hZ : ZRN (ztb (tb_X2_doDeed E d mc ms)) cut G R T Z) (f : Nat) (L : ZLV) (st : List Value) (σ : ZHp) (n k w : Nat) : Z (f + 1) 8 L st σ n k w = s_aload 3 9 L st σ n k w (zk1 cut G (Z f)) G R T := zrs hZ rfl f L st σ n k w
theorem f_X2_doDeed_9 (hZ : ZRN (ztb (tb_X2_doDeed E d mc ms)) cut G R T Z) (f : Nat) (L : ZLV) (st : List Value) (σ : ZHp) (n k w : Nat) : Z (f + 1) 9 L st σ n k w = s_getf 5 9 12 L st σ n k w (zk1 cut G (Z f)) G R T := zrs hZ rfl f L st σ n k w
theorem f_X2_doDeed_12 (hZ : ZRN (ztb (tb_X2_doDeed E d mc ms)) cut G R T Z) (f : Nat) (L : ZLV) (st : List Value) (σ : ZHp) (n k w : Nat) : Z (f + 1) 12 L st σ n k w = s_iload 2 13 L st σ n k w (zk1 cut G (Z f)) G R T := zrs hZ rfl f L st σ n k w
theorem f_X2_doDeed_13 (hZ : ZRN (ztb (tb_X2_doDeed E d mc ms)) cut G R T Z) (f : Nat) (L : ZLV) (st : List Value) (σ : ZHp) (n k w : Nat) : Z (f + 1) 13 L st σ n k w = s_callV E d mc ms 4 MX5_get 1 16 L st σ n k w (zk1 cut G (Z f)) G R T := zrs hZ rfl f L st σ n k w
theorem f_X2_doDeed_16 (hZ : ZRN (ztb (tb_X2_doDeed E d mc ms)) cut G R T Z) (f : Nat) (L : ZLV) (st : List Value) (σ : ZHp) (n k w : Nat) : Z (f + 1) 16 L st σ n k w = s_istore 4 18 L st σ n k w (zk1 cut G (Z f)) G R T := zrs hZ rfl f L st σ n k w
theorem f_X2_doDeed_18 (hZ : ZRN (ztb (tb_X2_doDeed E d mc ms)) cut G R T Z) (f : Nat) (L : ZLV) (st : List Value) (σ : ZHp) (n k w : Nat) : Z (f + 1) 18 L st σ n k w = s_aload 3 19 L st σ n k w (zk1 cut G (Z f)) G R T := zrs hZ rfl f L st σ n k w
theorem f_X2_doDeed_19 (hZ : ZRN (ztb (tb_X2_doDeed E d mc ms)) cut G R T Z) (f : Nat) (L : ZLV) (st : List Value) (σ : ZHp) (n k w : Nat) : Z (f + 1) 19 L st σ n k w = s_getf 5 10 22 L st σ n k w (zk1 cut G (Z f)) G R T := zrs hZ rfl f L st σ n k w
theorem f_X2_doDeed_22 (hZ : ZRN (ztb (tb_X2_doDeed E d mc ms)) cut G R T Z) (f : Nat) (L : ZLV) (st : List Value) (σ : ZHp) (n k w : Nat) : Z (f + 1) 22 L st σ n k w = s_iload 2 23 L st σ n k w (zk1 cut G (Z f)) G R T := zrs hZ rfl f L st σ n k w
theorem f_X2_doDeed_23 (hZ : ZRN (ztb (tb_X2_doDeed E d mc ms)) cut G R T Z) (f : Nat) (L : ZLV) (st : List Value) (σ : ZHp) (n k w : Nat) : Z (f + 1) 23 L st σ n k w = s_callV E d mc ms 4 MX5_get 1 26 L st σ n k w (zk1 cut G (Z f)) G R T := zrs hZ rfl f L st σ n k w
theorem f_X2_doDeed_26 (hZ : ZRN (ztb (tb_X2_doDeed E d mc ms)) cut G R T Z) (f : Nat) (L : ZLV) (st : List Value) (σ : ZHp) (n k w : Nat) : Z (f + 1) 26 L st σ n k w = s_istore 5 28 L st σ n k w (zk1 cut G (Z f)) G R T := zrs hZ rfl f L st σ n k w
theorem f_X2_doDeed_28 (hZ : ZRN (ztb (tb_X2_doDeed E d mc ms)) cut G R T Z) (f : Nat) (L : ZLV) (st : List Value) (σ : ZHp) (n k w : Nat) : Z (f + 1) 28 L st σ n k w = s_const (.ref (zeK E 47)) 31 L st σ n k w (zk1 cut G (Z f)) G R T := zrs hZ rfl f L st σ n k w
theorem f_X2_doDeed_31 (hZ : ZRN (ztb (tb_X2_doDeed E d mc ms)) cut G R T Z) (f : Nat) (L : ZLV) (st : List Value) (σ : ZHp) (n k w : Nat) : Z (f + 1) 31 L st σ n k w = s_aload 3 32 L st σ n k w (zk1 cut G (Z f)) G R T := zrs hZ rfl f L st σ n k w
theorem f_X2_doDeed_32 (hZ : ZRN (ztb (tb_X2_doDeed E d mc ms)) cut G R T Z) (f : Nat) (L : ZLV) (st : List Value) (σ : ZHp) (n k w : Nat) : Z (f + 1) 32 L st σ n k w = s_iload 2 33 L st σ n k w (zk1 cut G (Z f)) G R T := zrs hZ rfl f L st σ n k w
theorem f_X2_doDeed_33 (hZ : ZRN (ztb (tb_X2_doDeed E d mc ms)) cut G R T Z) (f : Nat) (L : ZLV) (st : List Value) (σ : ZHp) (n k w : Nat) : Z (f + 1) 33 L st σ n k w = s_callV E d mc ms 5 MX6_deedKind 1 36 L st σ n k w (zk1 cut G (Z f)) G R T := zrs hZ rfl f L st σ n k w
theorem f_X2_doDeed_36 (hZ : ZRN (ztb (tb_X2_doDeed E d mc ms)) cut G R T Z) (f : Nat) (L : ZLV) (st : List Value) (σ : ZHp) (n k w : Nat) : Z (f + 1) 36 L st σ n k w = s_callK E d mc ms 0 46 MJx29ce0_ordinal_8abf5 0 39 L st σ n k w (zk1 cut G (Z f)) G R T := zrs hZ rfl f L st σ n k w
theorem f_X2_doDeed_39 (hZ : ZRN (ztb (tb_X2_doDeed E d mc ms)) cut G R T Z) (f : Nat) (L : ZLV) (st : List Value) (σ : ZHp) (n k w : Nat) : Z (f + 1) 39 L st σ n k w = s_ialdK E 40 L st σ n k w (zk1 cut G (Z f)) G R T := zrs hZ rfl f L st σ n k w
theorem f_X2_doDeed_40 (hZ : ZRN (ztb (tb_X2_doDeed E d mc ms)) cut G R T Z) (f : Nat) (L : ZLV) (st : List Value) (σ : ZHp) (n k w : Nat) : Z (f + 1) 40 L st σ n k w = s_lsw [(5, 162), (6, 171), (11, 92), (12, 137), (22, 118)] 220 L st σ n k w (zk1 cut G (Z f)) G R T := zrs hZ rfl f L st σ n k w
theorem f_X2_doDeed_92 (hZ : ZRN (ztb (tb_X2_doDeed E d mc ms)) cut G R T Z) (f : Nat) (L : ZLV) (st : List Value) (σ : ZHp) (n k w : Nat) : Z (f + 1) 92 L st σ n k w = s_aload 0 93 L st σ n k w (zk1 cut G (Z f)) G R T := zrs hZ rfl f L st σ n k w
theorem f_X2_doDeed_93 (hZ : ZRN (ztb (tb_X2_doDeed E d mc ms)) cut G R T Z) (f : Nat) (L : ZLV) (st : List Value) (σ : ZHp) (n k w : Nat) : Z (f + 1) 93 L st σ n k w = s_aload 0 94 L st σ n k w (zk1 cut G (Z f)) G R T := zrs hZ rfl f L st σ n k w
theorem f_X2_doDeed_94 (hZ : ZRN (ztb (tb_X2_doDeed E d mc ms)) cut G R T Z) (f : Nat) (L : ZLV) (st : List Value) (σ : ZHp) (n k w : Nat) : Z (f + 1) 94 L st σ n k w = s_getf 1 5 97 L st σ n k w (zk1 cut G (Z f)) G R T := zrs hZ rfl f L st σ n k w
theorem f_X2_doDeed_97 (hZ : ZRN (ztb (tb_X2_doDeed E d mc ms)) cut G R T Z) (f : Nat) (L : ZLV) (st : List Value) (σ : ZHp) (n k w : Nat) : Z (f + 1) 97 L st σ n k w = s_i2l 98 L st σ n k w (zk1 cut G (Z f)) G R T := zrs hZ rfl f L st σ n k w
theorem f_X2_doDeed_98 (hZ : ZRN (ztb (tb_X2_doDeed E d mc ms)) cut G R T Z) (f : Nat) (L : ZLV) (st : List Value) (σ : ZHp) (n k w : Nat) : Z (f + 1) 98 L st σ n k w = s_aload 0 99 L st σ n k w (zk1 cut G (Z f)) G R T := zrs hZ rfl f L st σ n k w
theorem f_X2_doDeed_99 (hZ : ZRN (ztb (tb_X2_doDeed E d mc ms)) cut G R T Z) (f : Nat) (L : ZLV) (st : List Value) (σ : ZHp) (n k w : Nat) : Z (f + 1) 99 L st σ n k w = s_iload 5 101 L st σ n k w (zk1 cut G (Z f)) G R T := zrs hZ rfl f L st σ n k w
theorem f_X2_doDeed_101 (hZ : ZRN (ztb (tb_X2_doDeed E d mc ms)) cut G R T Z) (f : Nat) (L : ZLV) (st : List Value) (σ : ZHp) (n k w : Nat) : Z (f + 1) 101 L st σ n k w = s_callV E d mc ms 1 MX2_reckon 1 104 L st σ n k w (zk1 cut G (Z f)) G R T := zrs hZ rfl f L st σ n k w
theorem f_X2_doDeed_104 (hZ : ZRN (ztb (tb_X2_doDeed E d mc ms)) cut G R T Z) (f : Nat) (L : ZLV) (st : List Value) (σ : ZHp) (n k w : Nat) : Z (f + 1) 104 L st σ n k w = s_i2l 105 L st σ n k w (zk1 cut G (Z f)) G R T := zrs hZ rfl f L st σ n k w
theorem f_X2_doDeed_105 (hZ : ZRN (ztb (tb_X2_doDeed E d mc ms)) cut G R T Z) (f : Nat) (L : ZLV) (st : List Value) (σ : ZHp) (n k w : Nat) : Z (f + 1) 105 L st σ n k w = s_ladd 106 L st σ n k w (zk1 cut G (Z f)) G R T := zrs hZ rfl f L st σ n k w
theorem f_X2_doDeed_106 (hZ : ZRN (ztb (tb_X2_doDeed E d mc ms)) cut G R T Z) (f : Nat) (L : ZLV) (st : List Value) (σ : ZHp) (n k w : Nat) : Z (f + 1) 106 L st σ n k w = s_const (.int (999)) 109 L st σ n k w (zk1 cut G (Z f)) G R T := zrs hZ rfl f L st σ n k w
theorem f_X2_doDeed_109 (hZ : ZRN (ztb (tb_X2_doDeed E d mc ms)) cut G R T Z) (f : Nat) (L : ZLV) (st : List Value) (σ : ZHp) (n k w : Nat) : Z (f + 1) 109 L st σ n k w = s_callS E d mc ms MX2_held 2 112 L st σ n k w (zk1 cut G (Z f)) G R T := zrs hZ rfl f L st σ n k w
theorem f_X2_doDeed_112 (hZ : ZRN (ztb (tb_X2_doDeed E d mc ms)) cut G R T Z) (f : Nat) (L : ZLV) (st : List Value) (σ : ZHp) (n k w : Nat) : Z (f + 1) 112 L st σ n k w = s_putf 1 5 0 115 L st σ n k w (zk1 cut G (Z f)) G R T := zrs hZ rfl f L st σ n k w
theorem f_X2_doDeed_115 (hZ : ZRN (ztb (tb_X2_doDeed E d mc ms)) cut G R T Z) (f : Nat) (L : ZLV) (st : List Value) (σ : ZHp) (n k w : Nat) : Z (f + 1) 115 L st σ n k w = s_goto 220 L st σ n k w (zk1 cut G (Z f)) G R T := zrs hZ rfl f L st σ n k w
theorem f_X2_doDeed_118 (hZ : ZRN (ztb (tb_X2_doDeed E d mc ms)) cut G R T Z) (f : Nat) (L : ZLV) (st : List Value) (σ : ZHp) (n k w : Nat) : Z (f + 1) 118 L st σ n k w = s_aload 0 119 L st σ n k w (zk1 cut G (Z f)) G R T := zrs hZ rfl f L st σ n k w
theorem f_X2_doDeed_119 (hZ : ZRN (ztb (tb_X2_doDeed E d mc ms)) cut G R T Z) (f : Nat) (L : ZLV) (st : List Value) (σ : ZHp) (n k w : Nat) : Z (f + 1) 119 L st σ n k w = s_aload 0 120 L st σ n k w (zk1 cut G (Z f)) G R T := zrs hZ rfl f L st σ n k w
theorem f_X2_doDeed_120 (hZ : ZRN (ztb (tb_X2_doDeed E d mc ms)) cut G R T Z) (f : Nat) (L : ZLV) (st : List Value) (σ : ZHp) (n k w : Nat) : Z (f + 1) 120 L st σ n k w = s_iload 5 122 L st σ n k w (zk1 cut G (Z f)) G R T := zrs hZ rfl f L st σ n k w
theorem f_X2_doDeed_122 (hZ : ZRN (ztb (tb_X2_doDeed E d mc ms)) cut G R T Z) (f : Nat) (L : ZLV) (st : List Value) (σ : ZHp) (n k w : Nat) : Z (f + 1) 122 L st σ n k w = s_callV E d mc ms 1 MX2_reckon 1 125 L st σ n k w (zk1 cut G (Z f)) G R T := zrs hZ rfl f L st σ n k w
theorem f_X2_doDeed_125 (hZ : ZRN (ztb (tb_X2_doDeed E d mc ms)) cut G R T Z) (f : Nat) (L : ZLV) (st : List Value) (σ : ZHp) (n k w : Nat) : Z (f + 1) 125 L st σ n k w = s_i2l 126 L st σ n k w (zk1 cut G (Z f)) G R T := zrs hZ rfl f L st σ n k w
theorem f_X2_doDeed_126 (hZ : ZRN (ztb (tb_X2_doDeed E d mc ms)) cut G R T Z) (f : Nat) (L : ZLV) (st : List Value) (σ : ZHp) (n k w : Nat) : Z (f + 1) 126 L st σ n k w = s_const (.int (9)) 128 L st σ n k w (zk1 cut G (Z f)) G R T := zrs hZ rfl f L st σ n k w
theorem f_X2_doDeed_128 (hZ : ZRN (ztb (tb_X2_doDeed E d mc ms)) cut G R T Z) (f : Nat) (L : ZLV) (st : List Value) (σ : ZHp) (n k w : Nat) : Z (f + 1) 128 L st σ n k w = s_callS E d mc ms MX2_held 2 131 L st σ n k w (zk1 cut G (Z f)) G R T := zrs hZ rfl f L st σ n k w
theorem f_X2_doDeed_131 (hZ : ZRN (ztb (tb_X2_doDeed E d mc ms)) cut G R T Z) (f : Nat) (L : ZLV) (st : List Value) (σ : ZHp) (n k w : Nat) : Z (f + 1) 131 L st σ n k w = s_callV E d mc ms 1 MX2_draw 1 134 L st σ n k w (zk1 cut G (Z f)) G R T := zrs hZ rfl f L st σ n k w
theorem f_X2_doDeed_134 (hZ : ZRN (ztb (tb_X2_doDeed E d mc ms)) cut G R T Z) (f : Nat) (L : ZLV) (st : List Value) (σ : ZHp) (n k w : Nat) : Z (f + 1) 134 L st σ n k w = s_goto 220 L st σ n k w (zk1 cut G (Z f)) G R T := zrs hZ rfl f L st σ n k w
theorem f_X2_doDeed_137 (hZ : ZRN (ztb (tb_X2_doDeed E d mc ms)) cut G R T Z) (f : Nat) (L : ZLV) (st : List Value) (σ : ZHp) (n k w : Nat) : Z (f + 1) 137 L st σ n k w = s_aload 0 138 L st σ n k w (zk1 cut G (Z f)) G R T := zrs hZ rfl f L st σ n k w
theorem f_X2_doDeed_138 (hZ : ZRN (ztb (tb_X2_doDeed E d mc ms)) cut G R T Z) (f : Nat) (L : ZLV) (st : List Value) (σ : ZHp) (n k w : Nat) : Z (f + 1) 138 L st σ n k w = s_aload 0 139 L st σ n k w (zk1 cut G (Z f)) G R T := zrs hZ rfl f L st σ n k w
theorem f_X2_doDeed_139 (hZ : ZRN (ztb (tb_X2_doDeed E d mc ms)) cut G R T Z) (f : Nat) (L : ZLV) (st : List Value) (σ : ZHp) (n k w : Nat) : Z (f + 1) 139 L st σ n k w = s_getf 1 6 142 L st σ n k w (zk1 cut G (Z f)) G R T := zrs hZ rfl f L st σ n k w
theorem f_X2_doDeed_142 (hZ : ZRN (ztb (tb_X2_doDeed E d mc ms)) cut G R T Z) (f : Nat) (L : ZLV) (st : List Value) (σ : ZHp) (n k w : Nat) : Z (f + 1) 142 L st σ n k w = s_i2l 143 L st σ n k w (zk1 cut G (Z f)) G R T := zrs hZ rfl f L st σ n k w
theorem f_X2_doDeed_143 (hZ : ZRN (ztb (tb_X2_doDeed E d mc ms)) cut G R T Z) (f : Nat) (L : ZLV) (st : List Value) (σ : ZHp) (n k w : Nat) : Z (f + 1) 143 L st σ n k w = s_aload 0 144 L st σ n k w (zk1 cut G (Z f)) G R T := zrs hZ rfl f L st σ n k w
theorem f_X2_doDeed_144 (hZ : ZRN (ztb (tb_X2_doDeed E d mc ms)) cut G R T Z) (f : Nat) (L : ZLV) (st : List Value) (σ : ZHp) (n k w : Nat) : Z (f + 1) 144 L st σ n k w = s_iload 5 146 L st σ n k w (zk1 cut G (Z f)) G R T := zrs hZ rfl f L st σ n k w
theorem f_X2_doDeed_146 (hZ : ZRN (ztb (tb_X2_doDeed E d mc ms)) cut G R T Z) (f : Nat) (L : ZLV) (st : List Value) (σ : ZHp) (n k w : Nat) : Z (f + 1) 146 L st σ n k w = s_callV E d mc ms 1 MX2_reckon 1 149 L st σ n k w (zk1 cut G (Z f)) G R T := zrs hZ rfl f L st σ n k w
theorem f_X2_doDeed_149 (hZ : ZRN (ztb (tb_X2_doDeed E d mc ms)) cut G R T Z) (f : Nat) (L : ZLV) (st : List Value) (σ : ZHp) (n k w : Nat) : Z (f + 1) 149 L st σ n k w = s_i2l 150 L st σ n k w (zk1 cut G (Z f)) G R T := zrs hZ rfl f L st σ n k w
theorem f_X2_doDeed_150 (hZ : ZRN (ztb (tb_X2_doDeed E d mc ms)) cut G R T Z) (f : Nat) (L : ZLV) (st : List Value) (σ : ZHp) (n k w : Nat) : Z (f + 1) 150 L st σ n k w = s_ladd 151 L st σ n k w (zk1 cut G (Z f)) G R T := zrs hZ rfl f L st σ n k w
theorem f_X2_doDeed_151 (hZ : ZRN (ztb (tb_X2_doDeed E d mc ms)) cut G R T Z) (f : Nat) (L : ZLV) (st : List Value) (σ : ZHp) (n k w : Nat) : Z (f + 1) 151 L st σ n k w = s_const (.int (9)) 153 L st σ n k w (zk1 cut G (Z f)) G R T := zrs hZ rfl f L st σ n k w
theorem f_X2_doDeed_153 (hZ : ZRN (ztb (tb_X2_doDeed E d mc ms)) cut G R T Z) (f : Nat) (L : ZLV) (st : List Value) (σ : ZHp) (n k w : Nat) : Z (f + 1) 153 L st σ n k w = s_callS E d mc ms MX2_held 2 156 L st σ n k w (zk1 cut G (Z f)) G R T := zrs hZ rfl f L st σ n k w
theorem f_X2_doDeed_156 (hZ : ZRN (ztb (tb_X2_doDeed E d mc ms)) cut G R T Z) (f : Nat) (L : ZLV) (st : List Value) (σ : ZHp) (n k w : Nat) : Z (f + 1) 156 L st σ n k w = s_putf 1 6 0 159 L st σ n k w (zk1 cut G (Z f)) G R T := zrs hZ rfl f L st σ n k w
theorem f_X2_doDeed_159 (hZ : ZRN (ztb (tb_X2_doDeed E d mc ms)) cut G R T Z) (f : Nat) (L : ZLV) (st : List Value) (σ : ZHp) (n k w : Nat) : Z (f + 1) 159 L st σ n k w = s_goto 220 L st σ n k w (zk1 cut G (Z f)) G R T := zrs hZ rfl f L st σ n k w
theorem f_X2_doDeed_162 (hZ : ZRN (ztb (tb_X2_doDeed E d mc ms)) cut G R T Z) (f : Nat) (L : ZLV) (st : List Value) (σ : ZHp) (n k w : Nat) : Z (f + 1) 162 L st σ n k w = s_aload 0 163 L st σ n k w (zk1 cut G (Z f)) G R T := zrs hZ rfl f L st σ n k w
theorem f_X2_doDeed_163 (hZ : ZRN (ztb (tb_X2_doDeed E d mc ms)) cut G R T Z) (f : Nat) (L : ZLV) (st : List Value) (σ : ZHp) (n k w : Nat) : Z (f + 1) 163 L st σ n k w = s_iload 4 165 L st σ n k w (zk1 cut G (Z f)) G R T := zrs hZ rfl f L st σ n k w
theorem f_X2_doDeed_165 (hZ : ZRN (ztb (tb_X2_doDeed E d mc ms)) cut G R T Z) (f : Nat) (L : ZLV) (st : List Value) (σ : ZHp) (n k w : Nat) : Z (f + 1) 165 L st σ n k w = s_callV E d mc ms 1 MX2_trashUnplayed 1 168 L st σ n k w (zk1 cut G (Z f)) G R T := zrs hZ rfl f L st σ n k w
theorem f_X2_doDeed_168 (hZ : ZRN (ztb (tb_X2_doDeed E d mc ms)) cut G R T Z) (f : Nat) (L : ZLV) (st : List Value) (σ : ZHp) (n k w : Nat) : Z (f + 1) 168 L st σ n k w = s_goto 220 L st σ n k w (zk1 cut G (Z f)) G R T := zrs hZ rfl f L st σ n k w
theorem f_X2_doDeed_171 (hZ : ZRN (ztb (tb_X2_doDeed E d mc ms)) cut G R T Z) (f : Nat) (L : ZLV) (st : List Value) (σ : ZHp) (n k w : Nat) : Z (f + 1) 171 L st σ n k w = s_aload 0 172 L st σ n k w (zk1 cut G (Z f)) G R T := zrs hZ rfl f L st σ n k w
theorem f_X2_doDeed_172 (hZ : ZRN (ztb (tb_X2_doDeed E d mc ms)) cut G R T Z) (f : Nat) (L : ZLV) (st : List Value) (σ : ZHp) (n k w : Nat) : Z (f + 1) 172 L st σ n k w = s_getf 1 2 175 L st σ n k w (zk1 cut G (Z f)) G R T := zrs hZ rfl f L st σ n k w
theorem f_X2_doDeed_175 (hZ : ZRN (ztb (tb_X2_doDeed E d mc ms)) cut G R T Z) (f : Nat) (L : ZLV) (st : List Value) (σ : ZHp) (n k w : Nat) : Z (f + 1) 175 L st σ n k w = s_iload 4 177 L st σ n k w (zk1 cut G (Z f)) G R T := zrs hZ rfl f L st σ n k w
theorem f_X2_doDeed_177 (hZ : ZRN (ztb (tb_X2_doDeed E d mc ms)) cut G R T Z) (f : Nat) (L : ZLV) (st : List Value) (σ : ZHp) (n k w : Nat) : Z (f + 1) 177 L st σ n k w = s_callV E d mc ms 4 MX5_get 1 180 L st σ n k w (zk1 cut G (Z f)) G R T := zrs hZ rfl f L st σ n k w
theorem f_X2_doDeed_180 (hZ : ZRN (ztb (tb_X2_doDeed E d mc ms)) cut G R T Z) (f : Nat) (L : ZLV) (st : List Value) (σ : ZHp) (n k w : Nat) : Z (f + 1) 180 L st σ n k w = s_iload 4 182 L st σ n k w (zk1 cut G (Z f)) G R T := zrs hZ rfl f L st σ n k w
theorem f_X2_doDeed_182 (hZ : ZRN (ztb (tb_X2_doDeed E d mc ms)) cut G R T Z) (f : Nat) (L : ZLV) (st : List Value) (σ : ZHp) (n k w : Nat) : Z (f + 1) 182 L st σ n k w = s_iload 1 183 L st σ n k w (zk1 cut G (Z f)) G R T := zrs hZ rfl f L st σ n k w
theorem f_X2_doDeed_183 (hZ : ZRN (ztb (tb_X2_doDeed E d mc ms)) cut G R T Z) (f : Nat) (L : ZLV) (st : List Value) (σ : ZHp) (n k w : Nat) : Z (f + 1) 183 L st σ n k w = s_icmp_ne 190 186 L st σ n k w (zk1 cut G (Z f)) G R T := zrs hZ rfl f L st σ n k w
theorem f_X2_doDeed_186 (hZ : ZRN (ztb (tb_X2_doDeed E d mc ms)) cut G R T Z) (f : Nat) (L : ZLV) (st : List Value) (σ : ZHp) (n k w : Nat) : Z (f + 1) 186 L st σ n k w = s_const (.int (1)) 187 L st σ n k w (zk1 cut G (Z f)) G R T := zrs hZ rfl f L st σ n k w
theorem f_X2_doDeed_187 (hZ : ZRN (ztb (tb_X2_doDeed E d mc ms)) cut G R T Z) (f : Nat) (L : ZLV) (st : List Value) (σ : ZHp) (n k w : Nat) : Z (f + 1) 187 L st σ n k w = s_goto 191 L st σ n k w (zk1 cut G (Z f)) G R T := zrs hZ rfl f L st σ n k w
theorem f_X2_doDeed_190 (hZ : ZRN (ztb (tb_X2_doDeed E d mc ms)) cut G R T Z) (f : Nat) (L : ZLV) (st : List Value) (σ : ZHp) (n k w : Nat) : Z (f + 1) 190 L st σ n k w = s_const (.int (0)) 191 L st σ n k w (zk1 cut G (Z f)) G R T := zrs hZ rfl f L st σ n k w
theorem f_X2_doDeed_191 (hZ : ZRN (ztb (tb_X2_doDeed E d mc ms)) cut G R T Z) (f : Nat) (L : ZLV) (st : List Value) (σ : ZHp) (n k w : Nat) : Z (f + 1) 191 L st σ n k w = s_icmp_le 220 194 L st σ n k w (zk1 cut G (Z f)) G R T := zrs hZ rfl f L st σ n k w
theorem f_X2_doDeed_194 (hZ : ZRN (ztb (tb_X2_doDeed E d mc ms)) cut G R T Z) (f : Nat) (L : ZLV) (st : List Value) (σ : ZHp) (n k w : Nat) : Z (f + 1) 194 L st σ n k w = s_aload 0 195 L st σ n k w (zk1 cut G (Z f)) G R T := zrs hZ rfl f L st σ n k w
theorem f_X2_doDeed_195 (hZ : ZRN (ztb (tb_X2_doDeed E d mc ms)) cut G R T Z) (f : Nat) (L : ZLV) (st : List Value) (σ : ZHp) (n k w : Nat) : Z (f + 1) 195 L st σ n k w = s_aload 0 196 L st σ n k w (zk1 cut G (Z f)) G R T := zrs hZ rfl f L st σ n k w
theorem f_X2_doDeed_196 (hZ : ZRN (ztb (tb_X2_doDeed E d mc ms)) cut G R T Z) (f : Nat) (L : ZLV) (st : List Value) (σ : ZHp) (n k w : Nat) : Z (f + 1) 196 L st σ n k w = s_getf 1 5 199 L st σ n k w (zk1 cut G (Z f)) G R T := zrs hZ rfl f L st σ n k w
theorem f_X2_doDeed_199 (hZ : ZRN (ztb (tb_X2_doDeed E d mc ms)) cut G R T Z) (f : Nat) (L : ZLV) (st : List Value) (σ : ZHp) (n k w : Nat) : Z (f + 1) 199 L st σ n k w = s_i2l 200 L st σ n k w (zk1 cut G (Z f)) G R T := zrs hZ rfl f L st σ n k w
theorem f_X2_doDeed_200 (hZ : ZRN (ztb (tb_X2_doDeed E d mc ms)) cut G R T Z) (f : Nat) (L : ZLV) (st : List Value) (σ : ZHp) (n k w : Nat) : Z (f + 1) 200 L st σ n k w = s_aload 0 201 L st σ n k w (zk1 cut G (Z f)) G R T := zrs hZ rfl f L st σ n k w
theorem f_X2_doDeed_201 (hZ : ZRN (ztb (tb_X2_doDeed E d mc ms)) cut G R T Z) (f : Nat) (L : ZLV) (st : List Value) (σ : ZHp) (n k w : Nat) : Z (f + 1) 201 L st σ n k w = s_iload 5 203 L st σ n k w (zk1 cut G (Z f)) G R T := zrs hZ rfl f L st σ n k w
theorem f_X2_doDeed_203 (hZ : ZRN (ztb (tb_X2_doDeed E d mc ms)) cut G R T Z) (f : Nat) (L : ZLV) (st : List Value) (σ : ZHp) (n k w : Nat) : Z (f + 1) 203 L st σ n k w = s_callV E d mc ms 1 MX2_reckon 1 206 L st σ n k w (zk1 cut G (Z f)) G R T := zrs hZ rfl f L st σ n k w
theorem f_X2_doDeed_206 (hZ : ZRN (ztb (tb_X2_doDeed E d mc ms)) cut G R T Z) (f : Nat) (L : ZLV) (st : List Value) (σ : ZHp) (n k w : Nat) : Z (f + 1) 206 L st σ n k w = s_i2l 207 L st σ n k w (zk1 cut G (Z f)) G R T := zrs hZ rfl f L st σ n k w
theorem f_X2_doDeed_207 (hZ : ZRN (ztb (tb_X2_doDeed E d mc ms)) cut G R T Z) (f : Nat) (L : ZLV) (st : List Value) (σ : ZHp) (n k w : Nat) : Z (f + 1) 207 L st σ n k w = s_ladd 208 L st σ n k w (zk1 cut G (Z f)) G R T := zrs hZ rfl f L st σ n k w
theorem f_X2_doDeed_208 (hZ : ZRN (ztb (tb_X2_doDeed E d mc ms)) cut G R T Z) (f : Nat) (L : ZLV) (st : List Value) (σ : ZHp) (n k w : Nat) : Z (f + 1) 208 L st σ n k w = s_const (.int (999)) 211 L st σ n k w (zk1 cut G (Z f)) G R T := zrs hZ rfl f L st σ n k w
theorem f_X2_doDeed_211 (hZ : ZRN (ztb (tb_X2_doDeed E d mc ms)) cut G R T Z) (f : Nat) (L : ZLV) (st : List Value) (σ : ZHp) (n k w : Nat) : Z (f + 1) 211 L st σ n k w = s_callS E d mc ms MX2_held 2 214 L st σ n k w (zk1 cut G (Z f)) G R T := zrs hZ rfl f L st σ n k w
theorem f_X2_doDeed_214 (hZ : ZRN (ztb (tb_X2_doDeed E d mc ms)) cut G R T Z) (f : Nat) (L : ZLV) (st : List Value) (σ : ZHp) (n k w : Nat) : Z (f + 1) 214 L st σ n k w = s_putf 1 5 0 217 L st σ n k w (zk1 cut G (Z f)) G R T := zrs hZ rfl f L st σ n k w
theorem f_X2_doDeed_217 (hZ : ZRN (ztb (tb_X2_doDeed E d mc ms)) cut G R T Z) (f : Nat) (L : ZLV) (st : List Value) (σ : ZHp) (n k w : Nat) : Z (f + 1) 217 L st σ n k w = s_goto 220 L st σ n k w (zk1 cut G (Z f)) G R T := zrs hZ rfl f L st σ n k w
theorem f_X2_doDeed_220 (hZ : ZRN (ztb (tb_X2_doDeed E d mc ms)) cut G R T Z) (f : Nat) (L : ZLV) (st : List Value) (σ : ZHp) (n k w : Nat) : Z (f + 1) 220 L st σ n k w = s_return L st σ n k w (zk1 cut G (Z f)) G R T := zrs hZ rfl f L st σ n k w
theorem f_X2_held_0 (hZ : ZRN (ztb (tb_X2_held E d mc ms)) cut G R T Z) (f : Nat) (L : ZLV) (st : List Value) (σ : ZHp) (n k w : Nat) : Z (f + 1) 0 L st σ n k w = s_lload 0 1 L st σ n k w (zk1 cut G (Z f)) G R T := zrs hZ rfl f L st σ n k w
theorem f_X2_held_1 (hZ : ZRN (ztb (tb_X2_held E d mc ms)) cut G R T Z) (f : Nat) (L : ZLV) (st : List Value) (σ : ZHp) (n k w : Nat) : Z (f + 1) 1 L st σ n k w = s_const (.long 0) 2 L st σ n k w (zk1 cut G (Z f)) G R T := zrs hZ rfl f L st σ n k w
theorem f_X2_held_2 (hZ : ZRN (ztb (tb_X2_held E d mc ms)) cut G R T Z) (f : Nat) (L : ZLV) (st : List Value) (σ : ZHp) (n k w : Nat) : Z (f + 1) 2 L st σ n k w = s_lcmp 3 L st σ n k w (zk1 cut G (Z f)) G R T := zrs hZ rfl f L st σ n k w
theorem f_X2_held_3 (hZ : ZRN (ztb (tb_X2_held E d mc ms)) cut G R T Z) (f : Nat) (L : ZLV) (st : List Value) (σ : ZHp) (n k w : Nat) : Z (f + 1) 3 L st σ n k w = s_if_ge 10 6 L st σ n k w (zk1 cut G (Z f)) G R T := zrs hZ rfl f L st σ n k w
theorem f_X2_held_6 (hZ : ZRN (ztb (tb_X2_held E d mc ms)) cut G R T Z) (f : Nat) (L : ZLV) (st : List Value) (σ : ZHp) (n k w : Nat) : Z (f + 1) 6 L st σ n k w = s_const (.int (0)) 7 L st σ n k w (zk1 cut G (Z f)) G R T := zrs hZ rfl f L st σ n k w
theorem f_X2_held_7 (hZ : ZRN (ztb (tb_X2_held E d mc ms)) cut G R T Z) (f : Nat) (L : ZLV) (st : List Value) (σ : ZHp) (n k w : Nat) : Z (f + 1) 7 L st σ n k w = s_goto 23 L st σ n k w (zk1 cut G (Z f)) G R T := zrs hZ rfl f L st σ n k w
theorem f_X2_held_10 (hZ : ZRN (ztb (tb_X2_held E d mc ms)) cut G R T Z) (f : Nat) (L : ZLV) (st : List Value) (σ : ZHp) (n k w : Nat) : Z (f + 1) 10 L st σ n k w = s_lload 0 11 L st σ n k w (zk1 cut G (Z f)) G R T := zrs hZ rfl f L st σ n k w
theorem f_X2_held_11 (hZ : ZRN (ztb (tb_X2_held E d mc ms)) cut G R T Z) (f : Nat) (L : ZLV) (st : List Value) (σ : ZHp) (n k w : Nat) : Z (f + 1) 11 L st σ n k w = s_iload 2 12 L st σ n k w (zk1 cut G (Z f)) G R T := zrs hZ rfl f L st σ n k w
theorem f_X2_held_12 (hZ : ZRN (ztb (tb_X2_held E d mc ms)) cut G R T Z) (f : Nat) (L : ZLV) (st : List Value) (σ : ZHp) (n k w : Nat) : Z (f + 1) 12 L st σ n k w = s_i2l 13 L st σ n k w (zk1 cut G (Z f)) G R T := zrs hZ rfl f L st σ n k w
theorem f_X2_held_13 (hZ : ZRN (ztb (tb_X2_held E d mc ms)) cut G R T Z) (f : Nat) (L : ZLV) (st : List Value) (σ : ZHp) (n k w : Nat) : Z (f + 1) 13 L st σ n k w = s_lcmp 14 L st σ n k w (zk1 cut G (Z f)) G R T := zrs hZ rfl f L st σ n k w
theorem f_X2_held_14 (hZ : ZRN (ztb (tb_X2_held E d mc ms)) cut G R T Z) (f : Nat) (L : ZLV) (st : List Value) (σ : ZHp) (n k w : Nat) : Z (f + 1) 14 L st σ n k w = s_if_le 21 17 L st σ n k w (zk1 cut G (Z f)) G R T := zrs hZ rfl f L st σ n k w
theorem f_X2_held_17 (hZ : ZRN (ztb (tb_X2_held E d mc ms)) cut G R T Z) (f : Nat) (L : ZLV) (st : List Value) (σ : ZHp) (n k w : Nat) : Z (f + 1) 17 L st σ n k w = s_iload 2 18 L st σ n k w (zk1 cut G (Z f)) G R T := zrs hZ rfl f L st σ n k w
theorem f_X2_held_18 (hZ : ZRN (ztb (tb_X2_held E d mc ms)) cut G R T Z) (f : Nat) (L : ZLV) (st : List Value) (σ : ZHp) (n k w : Nat) : Z (f + 1) 18 L st σ n k w = s_goto 23 L st σ n k w (zk1 cut G (Z f)) G R T := zrs hZ rfl f L st σ n k w
theorem f_X2_held_21 (hZ : ZRN (ztb (tb_X2_held E d mc ms)) cut G R T Z) (f : Nat) (L : ZLV) (st : List Value) (σ : ZHp) (n k w : Nat) : Z (f + 1) 21 L st σ n k w = s_lload 0 22 L st σ n k w (zk1 cut G (Z f)) G R T := zrs hZ rfl f L st σ n k w
theorem f_X2_held_22 (hZ : ZRN (ztb (tb_X2_held E d mc ms)) cut G R T Z) (f : Nat) (L : ZLV) (st : List Value) (σ : ZHp) (n k w : Nat) : Z (f + 1) 22 L st σ n k w = s_l2i 23 L st σ n k w (zk1 cut G (Z f)) G R T := zrs hZ rfl f L st σ n k w
theorem f_X2_held_23 (hZ : ZRN (ztb (tb_X2_held E d mc ms)) cut G R T Z) (f : Nat) (L : ZLV) (st : List Value) (σ : ZHp) (n k w : Nat) : Z (f + 1) 23 L st σ n k w = s_ireturn L st σ n k w (zk1 cut G (Z f)) G R T := zrs hZ rfl f L st σ n k w
theorem f_X2_trashUnplayed_0 (hZ : ZRN (ztb (tb_X2_trashUnplayed E d mc ms)) cut G R T Z) (f : Nat) (L : ZLV) (st : List Value) (σ : ZHp) (n k w : Nat) : Z (f + 1) 0 L st σ n k w = s_aload 0 1 L st σ n k w (zk1 cut G (Z f)) G R T := zrs hZ rfl f L st σ n k w
theorem f_X2_trashUnplayed_1 (hZ : ZRN (ztb (tb_X2_trashUnplayed E d mc ms)) cut G R T Z) (f : Nat) (L : ZLV) (st : List Value) (σ : ZHp) (n k w : Nat) : Z (f + 1) 1 L st σ n k w = s_getf 1 1 4 L st σ n k w (zk1 cut G (Z f)) G R T := zrs hZ rfl f L st σ n k w
theorem f_X2_trashUnplayed_4 (hZ : ZRN (ztb (tb_X2_trashUnplayed E d mc ms)) cut G R T Z) (f : Nat) (L : ZLV) (st : List Value) (σ : ZHp) (n k w : Nat) : Z (f + 1) 4 L st σ n k w = s_iload 1 5 L st σ n k w (zk1 cut G (Z f)) G R T := zrs hZ rfl f L st σ n k w
theorem f_X2_trashUnplayed_5 (hZ : ZRN (ztb (tb_X2_trashUnplayed E d mc ms)) cut G R T Z) (f : Nat) (L : ZLV) (st : List Value) (σ : ZHp) (n k w : Nat) : Z (f + 1) 5 L st σ n k w = s_aload 0 6 L st σ n k w (zk1 cut G (Z f)) G R T := zrs hZ rfl f L st σ n k w
theorem f_X2_trashUnplayed_6 (hZ : ZRN (ztb (tb_X2_trashUnplayed E d mc ms)) cut G R T Z) (f : Nat) (L : ZLV) (st : List Value) (σ : ZHp) (n k w : Nat) : Z (f + 1) 6 L st σ n k w = s_getf 1 8 9 L st σ n k w (zk1 cut G (Z f)) G R T := zrs hZ rfl f L st σ n k w
theorem f_X2_trashUnplayed_9 (hZ : ZRN (ztb (tb_X2_trashUnplayed E d mc ms)) cut G R T Z) (f : Nat) (L : ZLV) (st : List Value) (σ : ZHp) (n k w : Nat) : Z (f + 1) 9 L st σ n k w = s_callV E d mc ms 4 MX5_find 2 12 L st σ n k w (zk1 cut G (Z f)) G R T := zrs hZ rfl f L st σ n k w
theorem f_X2_trashUnplayed_12 (hZ : ZRN (ztb (tb_X2_trashUnplayed E d mc ms)) cut G R T Z) (f : Nat) (L : ZLV) (st : List Value) (σ : ZHp) (n k w : Nat) : Z (f + 1) 12 L st σ n k w = s_istore 2 13 L st σ n k w (zk1 cut G (Z f)) G R T := zrs hZ rfl f L st σ n k w
theorem f_X2_trashUnplayed_13 (hZ : ZRN (ztb (tb_X2_trashUnplayed E d mc ms)) cut G R T Z) (f : Nat) (L : ZLV) (st : List Value) (σ : ZHp) (n k w : Nat) : Z (f + 1) 13 L st σ n k w = s_iload 2 14 L st σ n k w (zk1 cut G (Z f)) G R T := zrs hZ rfl f L st σ n k w
theorem f_X2_trashUnplayed_14 (hZ : ZRN (ztb (tb_X2_trashUnplayed E d mc ms)) cut G R T Z) (f : Nat) (L : ZLV) (st : List Value) (σ : ZHp) (n k w : Nat) : Z (f + 1) 14 L st σ n k w = s_const (.int (-1)) 15 L st σ n k w (zk1 cut G (Z f)) G R T := zrs hZ rfl f L st σ n k w
theorem f_X2_trashUnplayed_15 (hZ : ZRN (ztb (tb_X2_trashUnplayed E d mc ms)) cut G R T Z) (f : Nat) (L : ZLV) (st : List Value) (σ : ZHp) (n k w : Nat) : Z (f + 1) 15 L st σ n k w = s_icmp_eq 45 18 L st σ n k w (zk1 cut G (Z f)) G R T := zrs hZ rfl f L st σ n k w
theorem f_X2_trashUnplayed_18 (hZ : ZRN (ztb (tb_X2_trashUnplayed E d mc ms)) cut G R T Z) (f : Nat) (L : ZLV) (st : List Value) (σ : ZHp) (n k w : Nat) : Z (f + 1) 18 L st σ n k w = s_aload 0 19 L st σ n k w (zk1 cut G (Z f)) G R T := zrs hZ rfl f L st σ n k w
theorem f_X2_trashUnplayed_19 (hZ : ZRN (ztb (tb_X2_trashUnplayed E d mc ms)) cut G R T Z) (f : Nat) (L : ZLV) (st : List Value) (σ : ZHp) (n k w : Nat) : Z (f + 1) 19 L st σ n k w = s_getf 1 1 22 L st σ n k w (zk1 cut G (Z f)) G R T := zrs hZ rfl f L st σ n k w
theorem f_X2_trashUnplayed_22 (hZ : ZRN (ztb (tb_X2_trashUnplayed E d mc ms)) cut G R T Z) (f : Nat) (L : ZLV) (st : List Value) (σ : ZHp) (n k w : Nat) : Z (f + 1) 22 L st σ n k w = s_iload 2 23 L st σ n k w (zk1 cut G (Z f)) G R T := zrs hZ rfl f L st σ n k w
theorem f_X2_trashUnplayed_23 (hZ : ZRN (ztb (tb_X2_trashUnplayed E d mc ms)) cut G R T Z) (f : Nat) (L : ZLV) (st : List Value) (σ : ZHp) (n k w : Nat) : Z (f + 1) 23 L st σ n k w = s_const (.int (1)) 24 L st σ n k w (zk1 cut G (Z f)) G R T := zrs hZ rfl f L st σ n k w
theorem f_X2_trashUnplayed_24 (hZ : ZRN (ztb (tb_X2_trashUnplayed E d mc ms)) cut G R T Z) (f : Nat) (L : ZLV) (st : List Value) (σ : ZHp) (n k w : Nat) : Z (f + 1) 24 L st σ n k w = s_callV E d mc ms 4 MX5_cut 2 27 L st σ n k w (zk1 cut G (Z f)) G R T := zrs hZ rfl f L st σ n k w
theorem f_X2_trashUnplayed_27 (hZ : ZRN (ztb (tb_X2_trashUnplayed E d mc ms)) cut G R T Z) (f : Nat) (L : ZLV) (st : List Value) (σ : ZHp) (n k w : Nat) : Z (f + 1) 27 L st σ n k w = s_aload 0 28 L st σ n k w (zk1 cut G (Z f)) G R T := zrs hZ rfl f L st σ n k w
theorem f_X2_trashUnplayed_28 (hZ : ZRN (ztb (tb_X2_trashUnplayed E d mc ms)) cut G R T Z) (f : Nat) (L : ZLV) (st : List Value) (σ : ZHp) (n k w : Nat) : Z (f + 1) 28 L st σ n k w = s_getf 1 4 31 L st σ n k w (zk1 cut G (Z f)) G R T := zrs hZ rfl f L st σ n k w
theorem f_X2_trashUnplayed_31 (hZ : ZRN (ztb (tb_X2_trashUnplayed E d mc ms)) cut G R T Z) (f : Nat) (L : ZLV) (st : List Value) (σ : ZHp) (n k w : Nat) : Z (f + 1) 31 L st σ n k w = s_iload 1 32 L st σ n k w (zk1 cut G (Z f)) G R T := zrs hZ rfl f L st σ n k w
theorem f_X2_trashUnplayed_32 (hZ : ZRN (ztb (tb_X2_trashUnplayed E d mc ms)) cut G R T Z) (f : Nat) (L : ZLV) (st : List Value) (σ : ZHp) (n k w : Nat) : Z (f + 1) 32 L st σ n k w = s_callV E d mc ms 10 MX11_lose 1 35 L st σ n k w (zk1 cut G (Z f)) G R T := zrs hZ rfl f L st σ n k w
theorem f_X2_trashUnplayed_35 (hZ : ZRN (ztb (tb_X2_trashUnplayed E d mc ms)) cut G R T Z) (f : Nat) (L : ZLV) (st : List Value) (σ : ZHp) (n k w : Nat) : Z (f + 1) 35 L st σ n k w = s_aload 0 36 L st σ n k w (zk1 cut G (Z f)) G R T := zrs hZ rfl f L st σ n k w
theorem f_X2_trashUnplayed_36 (hZ : ZRN (ztb (tb_X2_trashUnplayed E d mc ms)) cut G R T Z) (f : Nat) (L : ZLV) (st : List Value) (σ : ZHp) (n k w : Nat) : Z (f + 1) 36 L st σ n k w = s_dup 37 L st σ n k w (zk1 cut G (Z f)) G R T := zrs hZ rfl f L st σ n k w
theorem f_X2_trashUnplayed_37 (hZ : ZRN (ztb (tb_X2_trashUnplayed E d mc ms)) cut G R T Z) (f : Nat) (L : ZLV) (st : List Value) (σ : ZHp) (n k w : Nat) : Z (f + 1) 37 L st σ n k w = s_getf 1 9 40 L st σ n k w (zk1 cut G (Z f)) G R T := zrs hZ rfl f L st σ n k w
theorem f_X2_trashUnplayed_40 (hZ : ZRN (ztb (tb_X2_trashUnplayed E d mc ms)) cut G R T Z) (f : Nat) (L : ZLV) (st : List Value) (σ : ZHp) (n k w : Nat) : Z (f + 1) 40 L st σ n k w = s_const (.int (1)) 41 L st σ n k w (zk1 cut G (Z f)) G R T := zrs hZ rfl f L st σ n k w
theorem f_X2_trashUnplayed_41 (hZ : ZRN (ztb (tb_X2_trashUnplayed E d mc ms)) cut G R T Z) (f : Nat) (L : ZLV) (st : List Value) (σ : ZHp) (n k w : Nat) : Z (f + 1) 41 L st σ n k w = s_iadd 42 L st σ n k w (zk1 cut G (Z f)) G R T := zrs hZ rfl f L st σ n k w
theorem f_X2_trashUnplayed_42 (hZ : ZRN (ztb (tb_X2_trashUnplayed E d mc ms)) cut G R T Z) (f : Nat) (L : ZLV) (st : List Value) (σ : ZHp) (n k w : Nat) : Z (f + 1) 42 L st σ n k w = s_putf 1 9 0 45 L st σ n k w (zk1 cut G (Z f)) G R T := zrs hZ rfl f L st σ n k w
theorem f_X2_trashUnplayed_45 (hZ : ZRN (ztb (tb_X2_trashUnplayed E d mc ms)) cut G R T Z) (f : Nat) (L : ZLV) (st : List Value) (σ : ZHp) (n k w : Nat) : Z (f + 1) 45 L st σ n k w = s_return L st σ n k w (zk1 cut G (Z f)) G R T := zrs hZ rfl f L st σ n k w
theorem f_X2_followOrders_0 (hZ : ZRN (ztb (tb_X2_followOrders E d mc ms)) cut G R T Z) (f : Nat) (L : ZLV) (st : List Value) (σ : ZHp) (n k w : Nat) : Z (f + 1) 0 L st σ n k w = s_aload 0 1 L st σ n k w (zk1 cut G (Z f)) G R T := zrs hZ rfl f L st σ n k w
theorem f_X2_followOrders_1 (hZ : ZRN (ztb (tb_X2_followOrders E d mc ms)) cut G R T Z) (f : Nat) (L : ZLV) (st : List Value) (σ : ZHp) (n k w : Nat) : Z (f + 1) 1 L st σ n k w = s_getf 1 0 4 L st σ n k w (zk1 cut G (Z f)) G R T := zrs hZ rfl f L st σ n k w
theorem f_X2_followOrders_4 (hZ : ZRN (ztb (tb_X2_followOrders E d mc ms)) cut G R T Z) (f : Nat) (L : ZLV) (st : List Value) (σ : ZHp) (n k w : Nat) : Z (f + 1) 4 L st σ n k w = s_getf 3 5 7 L st σ n k w (zk1 cut G (Z f)) G R T := zrs hZ rfl f L st σ n k w
theorem f_X2_followOrders_7 (hZ : ZRN (ztb (tb_X2_followOrders E d mc ms)) cut G R T Z) (f : Nat) (L : ZLV) (st : List Value) (σ : ZHp) (n k w : Nat) : Z (f + 1) 7 L st σ n k w = s_astore 3 8 L st σ n k w (zk1 cut G (Z f)) G R T := zrs hZ rfl f L st σ n k w
theorem f_X2_followOrders_8 (hZ : ZRN (ztb (tb_X2_followOrders E d mc ms)) cut G R T Z) (f : Nat) (L : ZLV) (st : List Value) (σ : ZHp) (n k w : Nat) : Z (f + 1) 8 L st σ n k w = s_const (.int (0)) 9 L st σ n k w (zk1 cut G (Z f)) G R T := zrs hZ rfl f L st σ n k w
theorem f_X2_followOrders_9 (hZ : ZRN (ztb (tb_X2_followOrders E d mc ms)) cut G R T Z) (f : Nat) (L : ZLV) (st : List Value) (σ : ZHp) (n k w : Nat) : Z (f + 1) 9 L st σ n k w = s_istore 4 11 L st σ n k w (zk1 cut G (Z f)) G R T := zrs hZ rfl f L st σ n k w
theorem f_X2_followOrders_11 (hZ : ZRN (ztb (tb_X2_followOrders E d mc ms)) cut G R T Z) (f : Nat) (L : ZLV) (st : List Value) (σ : ZHp) (n k w : Nat) : Z (f + 1) 11 L st σ n k w = s_iload 4 13 L st σ n k w (zk1 cut G (Z f)) G R T := zrs hZ rfl f L st σ n k w
theorem f_X2_followOrders_13 (hZ : ZRN (ztb (tb_X2_followOrders E d mc ms)) cut G R T Z) (f : Nat) (L : ZLV) (st : List Value) (σ : ZHp) (n k w : Nat) : Z (f + 1) 13 L st σ n k w = s_aload 3 14 L st σ n k w (zk1 cut G (Z f)) G R T := zrs hZ rfl f L st σ n k w
theorem f_X2_followOrders_14 (hZ : ZRN (ztb (tb_X2_followOrders E d mc ms)) cut G R T Z) (f : Nat) (L : ZLV) (st : List Value) (σ : ZHp) (n k w : Nat) : Z (f + 1) 14 L st σ n k w = s_getf 5 2 17 L st σ n k w (zk1 cut G (Z f)) G R T := zrs hZ rfl f L st σ n k w
theorem f_X2_followOrders_17 (hZ : ZRN (ztb (tb_X2_followOrders E d mc ms)) cut G R T Z) (f : Nat) (L : ZLV) (st : List Value) (σ : ZHp) (n k w : Nat) : Z (f + 1) 17 L st σ n k w = s_icmp_ge 68 20 L st σ n k w (zk1 cut G (Z f)) G R T := zrs hZ rfl f L st σ n k w
theorem f_X2_followOrders_20 (hZ : ZRN (ztb (tb_X2_followOrders E d mc ms)) cut G R T Z) (f : Nat) (L : ZLV) (st : List Value) (σ : ZHp) (n k w : Nat) : Z (f + 1) 20 L st σ n k w = s_iload 4 22 L st σ n k w (zk1 cut G (Z f)) G R T := zrs hZ rfl f L st σ n k w
theorem f_X2_followOrders_22 (hZ : ZRN (ztb (tb_X2_followOrders E d mc ms)) cut G R T Z) (f : Nat) (L : ZLV) (st : List Value) (σ : ZHp) (n k w : Nat) : Z (f + 1) 22 L st σ n k w = s_iload 2 23 L st σ n k w (zk1 cut G (Z f)) G R T := zrs hZ rfl f L st σ n k w
theorem f_X2_followOrders_23 (hZ : ZRN (ztb (tb_X2_followOrders E d mc ms)) cut G R T Z) (f : Nat) (L : ZLV) (st : List Value) (σ : ZHp) (n k w : Nat) : Z (f + 1) 23 L st σ n k w = s_icmp_eq 62 26 L st σ n k w (zk1 cut G (Z f)) G R T := zrs hZ rfl f L st σ n k w
theorem f_X2_followOrders_26 (hZ : ZRN (ztb (tb_X2_followOrders E d mc ms)) cut G R T Z) (f : Nat) (L : ZLV) (st : List Value) (σ : ZHp) (n k w : Nat) : Z (f + 1) 26 L st σ n k w = s_aload 3 27 L st σ n k w (zk1 cut G (Z f)) G R T := zrs hZ rfl f L st σ n k w
theorem f_X2_followOrders_27 (hZ : ZRN (ztb (tb_X2_followOrders E d mc ms)) cut G R T Z) (f : Nat) (L : ZLV) (st : List Value) (σ : ZHp) (n k w : Nat) : Z (f + 1) 27 L st σ n k w = s_getf 5 11 30 L st σ n k w (zk1 cut G (Z f)) G R T := zrs hZ rfl f L st σ n k w
theorem f_X2_followOrders_30 (hZ : ZRN (ztb (tb_X2_followOrders E d mc ms)) cut G R T Z) (f : Nat) (L : ZLV) (st : List Value) (σ : ZHp) (n k w : Nat) : Z (f + 1) 30 L st σ n k w = s_iload 4 32 L st σ n k w (zk1 cut G (Z f)) G R T := zrs hZ rfl f L st σ n k w
theorem f_X2_followOrders_32 (hZ : ZRN (ztb (tb_X2_followOrders E d mc ms)) cut G R T Z) (f : Nat) (L : ZLV) (st : List Value) (σ : ZHp) (n k w : Nat) : Z (f + 1) 32 L st σ n k w = s_callV E d mc ms 4 MX5_get 1 35 L st σ n k w (zk1 cut G (Z f)) G R T := zrs hZ rfl f L st σ n k w
theorem f_X2_followOrders_35 (hZ : ZRN (ztb (tb_X2_followOrders E d mc ms)) cut G R T Z) (f : Nat) (L : ZLV) (st : List Value) (σ : ZHp) (n k w : Nat) : Z (f + 1) 35 L st σ n k w = s_iload 1 36 L st σ n k w (zk1 cut G (Z f)) G R T := zrs hZ rfl f L st σ n k w
theorem f_X2_followOrders_36 (hZ : ZRN (ztb (tb_X2_followOrders E d mc ms)) cut G R T Z) (f : Nat) (L : ZLV) (st : List Value) (σ : ZHp) (n k w : Nat) : Z (f + 1) 36 L st σ n k w = s_icmp_ne 62 39 L st σ n k w (zk1 cut G (Z f)) G R T := zrs hZ rfl f L st σ n k w
theorem f_X2_followOrders_39 (hZ : ZRN (ztb (tb_X2_followOrders E d mc ms)) cut G R T Z) (f : Nat) (L : ZLV) (st : List Value) (σ : ZHp) (n k w : Nat) : Z (f + 1) 39 L st σ n k w = s_aload 0 40 L st σ n k w (zk1 cut G (Z f)) G R T := zrs hZ rfl f L st σ n k w
theorem f_X2_followOrders_40 (hZ : ZRN (ztb (tb_X2_followOrders E d mc ms)) cut G R T Z) (f : Nat) (L : ZLV) (st : List Value) (σ : ZHp) (n k w : Nat) : Z (f + 1) 40 L st σ n k w = s_iload 1 41 L st σ n k w (zk1 cut G (Z f)) G R T := zrs hZ rfl f L st σ n k w
theorem f_X2_followOrders_41 (hZ : ZRN (ztb (tb_X2_followOrders E d mc ms)) cut G R T Z) (f : Nat) (L : ZLV) (st : List Value) (σ : ZHp) (n k w : Nat) : Z (f + 1) 41 L st σ n k w = s_aload 3 42 L st σ n k w (zk1 cut G (Z f)) G R T := zrs hZ rfl f L st σ n k w
theorem f_X2_followOrders_42 (hZ : ZRN (ztb (tb_X2_followOrders E d mc ms)) cut G R T Z) (f : Nat) (L : ZLV) (st : List Value) (σ : ZHp) (n k w : Nat) : Z (f + 1) 42 L st σ n k w = s_getf 5 12 45 L st σ n k w (zk1 cut G (Z f)) G R T := zrs hZ rfl f L st σ n k w
theorem f_X2_followOrders_45 (hZ : ZRN (ztb (tb_X2_followOrders E d mc ms)) cut G R T Z) (f : Nat) (L : ZLV) (st : List Value) (σ : ZHp) (n k w : Nat) : Z (f + 1) 45 L st σ n k w = s_iload 4 47 L st σ n k w (zk1 cut G (Z f)) G R T := zrs hZ rfl f L st σ n k w
theorem f_X2_followOrders_47 (hZ : ZRN (ztb (tb_X2_followOrders E d mc ms)) cut G R T Z) (f : Nat) (L : ZLV) (st : List Value) (σ : ZHp) (n k w : Nat) : Z (f + 1) 47 L st σ n k w = s_callV E d mc ms 4 MX5_get 1 50 L st σ n k w (zk1 cut G (Z f)) G R T := zrs hZ rfl f L st σ n k w
theorem f_X2_followOrders_50 (hZ : ZRN (ztb (tb_X2_followOrders E d mc ms)) cut G R T Z) (f : Nat) (L : ZLV) (st : List Value) (σ : ZHp) (n k w : Nat) : Z (f + 1) 50 L st σ n k w = s_aload 3 51 L st σ n k w (zk1 cut G (Z f)) G R T := zrs hZ rfl f L st σ n k w
theorem f_X2_followOrders_51 (hZ : ZRN (ztb (tb_X2_followOrders E d mc ms)) cut G R T Z) (f : Nat) (L : ZLV) (st : List Value) (σ : ZHp) (n k w : Nat) : Z (f + 1) 51 L st σ n k w = s_getf 5 13 54 L st σ n k w (zk1 cut G (Z f)) G R T := zrs hZ rfl f L st σ n k w
theorem f_X2_followOrders_54 (hZ : ZRN (ztb (tb_X2_followOrders E d mc ms)) cut G R T Z) (f : Nat) (L : ZLV) (st : List Value) (σ : ZHp) (n k w : Nat) : Z (f + 1) 54 L st σ n k w = s_iload 4 56 L st σ n k w (zk1 cut G (Z f)) G R T := zrs hZ rfl f L st σ n k w
theorem f_X2_followOrders_56 (hZ : ZRN (ztb (tb_X2_followOrders E d mc ms)) cut G R T Z) (f : Nat) (L : ZLV) (st : List Value) (σ : ZHp) (n k w : Nat) : Z (f + 1) 56 L st σ n k w = s_callV E d mc ms 4 MX5_get 1 59 L st σ n k w (zk1 cut G (Z f)) G R T := zrs hZ rfl f L st σ n k w
theorem f_X2_followOrders_59 (hZ : ZRN (ztb (tb_X2_followOrders E d mc ms)) cut G R T Z) (f : Nat) (L : ZLV) (st : List Value) (σ : ZHp) (n k w : Nat) : Z (f + 1) 59 L st σ n k w = s_callV E d mc ms 1 MX2_follow 3 62 L st σ n k w (zk1 cut G (Z f)) G R T := zrs hZ rfl f L st σ n k w
theorem f_X2_followOrders_62 (hZ : ZRN (ztb (tb_X2_followOrders E d mc ms)) cut G R T Z) (f : Nat) (L : ZLV) (st : List Value) (σ : ZHp) (n k w : Nat) : Z (f + 1) 62 L st σ n k w = s_iinc 4 (1) 65 L st σ n k w (zk1 cut G (Z f)) G R T := zrs hZ rfl f L st σ n k w
theorem f_X2_followOrders_65 (hZ : ZRN (ztb (tb_X2_followOrders E d mc ms)) cut G R T Z) (f : Nat) (L : ZLV) (st : List Value) (σ : ZHp) (n k w : Nat) : Z (f + 1) 65 L st σ n k w = s_goto 11 L st σ n k w (zk1 cut G (Z f)) G R T := zrs hZ rfl f L st σ n k w
theorem f_X2_followOrders_68 (hZ : ZRN (ztb (tb_X2_followOrders E d mc ms)) cut G R T Z) (f : Nat) (L : ZLV) (st : List Value) (σ : ZHp) (n k w : Nat) : Z (f + 1) 68 L st σ n k w = s_return L st σ n k w (zk1 cut G (Z f)) G R T := zrs hZ rfl f L st σ n k w
theorem f_X2_follow_0 (hZ : ZRN (ztb (tb_X2_follow E d mc ms)) cut G R T Z) (f : Nat) (L : ZLV) (st : List Value) (σ : ZHp) (n k w : Nat) : Z (f + 1) 0 L st σ n k w = s_aload 0 1 L st σ n k w (zk1 cut G (Z f)) G R T := zrs hZ rfl f L st σ n k w
theorem f_X2_follow_1 (hZ : ZRN (ztb (tb_X2_follow E d mc ms)) cut G R T Z) (f : Nat) (L : ZLV) (st : List Value) (σ : ZHp) (n k w : Nat) : Z (f + 1) 1 L st σ n k w = s_getf 1 0 4 L st σ n k w (zk1 cut G (Z f)) G R T := zrs hZ rfl f L st σ n k w
theorem f_X2_follow_4 (hZ : ZRN (ztb (tb_X2_follow E d mc ms)) cut G R T Z) (f : Nat) (L : ZLV) (st : List Value) (σ : ZHp) (n k w : Nat) : Z (f + 1) 4 L st σ n k w = s_getf 3 5 7 L st σ n k w (zk1 cut G (Z f)) G R T := zrs hZ rfl f L st σ n k w
theorem f_X2_follow_7 (hZ : ZRN (ztb (tb_X2_follow E d mc ms)) cut G R T Z) (f : Nat) (L : ZLV) (st : List Value) (σ : ZHp) (n k w : Nat) : Z (f + 1) 7 L st σ n k w = s_getf 5 3 10 L st σ n k w (zk1 cut G (Z f)) G R T := zrs hZ rfl f L st σ n k w
theorem f_X2_follow_10 (hZ : ZRN (ztb (tb_X2_follow E d mc ms)) cut G R T Z) (f : Nat) (L : ZLV) (st : List Value) (σ : ZHp) (n k w : Nat) : Z (f + 1) 10 L st σ n k w = s_iload 2 11 L st σ n k w (zk1 cut G (Z f)) G R T := zrs hZ rfl f L st σ n k w
theorem f_X2_follow_11 (hZ : ZRN (ztb (tb_X2_follow E d mc ms)) cut G R T Z) (f : Nat) (L : ZLV) (st : List Value) (σ : ZHp) (n k w : Nat) : Z (f + 1) 11 L st σ n k w = s_callV E d mc ms 4 MX5_get 1 14 L st σ n k w (zk1 cut G (Z f)) G R T := zrs hZ rfl f L st σ n k w
theorem f_X2_follow_14 (hZ : ZRN (ztb (tb_X2_follow E d mc ms)) cut G R T Z) (f : Nat) (L : ZLV) (st : List Value) (σ : ZHp) (n k w : Nat) : Z (f + 1) 14 L st σ n k w = s_istore 4 16 L st σ n k w (zk1 cut G (Z f)) G R T := zrs hZ rfl f L st σ n k w
theorem f_X2_follow_16 (hZ : ZRN (ztb (tb_X2_follow E d mc ms)) cut G R T Z) (f : Nat) (L : ZLV) (st : List Value) (σ : ZHp) (n k w : Nat) : Z (f + 1) 16 L st σ n k w = s_aload 0 17 L st σ n k w (zk1 cut G (Z f)) G R T := zrs hZ rfl f L st σ n k w
theorem f_X2_follow_17 (hZ : ZRN (ztb (tb_X2_follow E d mc ms)) cut G R T Z) (f : Nat) (L : ZLV) (st : List Value) (σ : ZHp) (n k w : Nat) : Z (f + 1) 17 L st σ n k w = s_getf 1 6 20 L st σ n k w (zk1 cut G (Z f)) G R T := zrs hZ rfl f L st σ n k w
theorem f_X2_follow_20 (hZ : ZRN (ztb (tb_X2_follow E d mc ms)) cut G R T Z) (f : Nat) (L : ZLV) (st : List Value) (σ : ZHp) (n k w : Nat) : Z (f + 1) 20 L st σ n k w = s_if_le 122 23 L st σ n k w (zk1 cut G (Z f)) G R T := zrs hZ rfl f L st σ n k w
theorem f_X2_follow_23 (hZ : ZRN (ztb (tb_X2_follow E d mc ms)) cut G R T Z) (f : Nat) (L : ZLV) (st : List Value) (σ : ZHp) (n k w : Nat) : Z (f + 1) 23 L st σ n k w = s_aload 0 24 L st σ n k w (zk1 cut G (Z f)) G R T := zrs hZ rfl f L st σ n k w
theorem f_X2_follow_24 (hZ : ZRN (ztb (tb_X2_follow E d mc ms)) cut G R T Z) (f : Nat) (L : ZLV) (st : List Value) (σ : ZHp) (n k w : Nat) : Z (f + 1) 24 L st σ n k w = s_getf 1 5 27 L st σ n k w (zk1 cut G (Z f)) G R T := zrs hZ rfl f L st σ n k w
theorem f_X2_follow_27 (hZ : ZRN (ztb (tb_X2_follow E d mc ms)) cut G R T Z) (f : Nat) (L : ZLV) (st : List Value) (σ : ZHp) (n k w : Nat) : Z (f + 1) 27 L st σ n k w = s_iload 4 29 L st σ n k w (zk1 cut G (Z f)) G R T := zrs hZ rfl f L st σ n k w
theorem f_X2_follow_29 (hZ : ZRN (ztb (tb_X2_follow E d mc ms)) cut G R T Z) (f : Nat) (L : ZLV) (st : List Value) (σ : ZHp) (n k w : Nat) : Z (f + 1) 29 L st σ n k w = s_icmp_lt 122 32 L st σ n k w (zk1 cut G (Z f)) G R T := zrs hZ rfl f L st σ n k w
theorem f_X2_follow_32 (hZ : ZRN (ztb (tb_X2_follow E d mc ms)) cut G R T Z) (f : Nat) (L : ZLV) (st : List Value) (σ : ZHp) (n k w : Nat) : Z (f + 1) 32 L st σ n k w = s_aload 0 33 L st σ n k w (zk1 cut G (Z f)) G R T := zrs hZ rfl f L st σ n k w
theorem f_X2_follow_33 (hZ : ZRN (ztb (tb_X2_follow E d mc ms)) cut G R T Z) (f : Nat) (L : ZLV) (st : List Value) (σ : ZHp) (n k w : Nat) : Z (f + 1) 33 L st σ n k w = s_getf 1 0 36 L st σ n k w (zk1 cut G (Z f)) G R T := zrs hZ rfl f L st σ n k w
theorem f_X2_follow_36 (hZ : ZRN (ztb (tb_X2_follow E d mc ms)) cut G R T Z) (f : Nat) (L : ZLV) (st : List Value) (σ : ZHp) (n k w : Nat) : Z (f + 1) 36 L st σ n k w = s_iload 1 37 L st σ n k w (zk1 cut G (Z f)) G R T := zrs hZ rfl f L st σ n k w
theorem f_X2_follow_37 (hZ : ZRN (ztb (tb_X2_follow E d mc ms)) cut G R T Z) (f : Nat) (L : ZLV) (st : List Value) (σ : ZHp) (n k w : Nat) : Z (f + 1) 37 L st σ n k w = s_iload 2 38 L st σ n k w (zk1 cut G (Z f)) G R T := zrs hZ rfl f L st σ n k w
theorem f_X2_follow_38 (hZ : ZRN (ztb (tb_X2_follow E d mc ms)) cut G R T Z) (f : Nat) (L : ZLV) (st : List Value) (σ : ZHp) (n k w : Nat) : Z (f + 1) 38 L st σ n k w = s_callV E d mc ms 3 MX4_canGain 2 41 L st σ n k w (zk1 cut G (Z f)) G R T := zrs hZ rfl f L st σ n k w
theorem f_X2_follow_41 (hZ : ZRN (ztb (tb_X2_follow E d mc ms)) cut G R T Z) (f : Nat) (L : ZLV) (st : List Value) (σ : ZHp) (n k w : Nat) : Z (f + 1) 41 L st σ n k w = s_if_eq 122 44 L st σ n k w (zk1 cut G (Z f)) G R T := zrs hZ rfl f L st σ n k w
theorem f_X2_follow_44 (hZ : ZRN (ztb (tb_X2_follow E d mc ms)) cut G R T Z) (f : Nat) (L : ZLV) (st : List Value) (σ : ZHp) (n k w : Nat) : Z (f + 1) 44 L st σ n k w = s_iload 3 45 L st σ n k w (zk1 cut G (Z f)) G R T := zrs hZ rfl f L st σ n k w
theorem f_X2_follow_45 (hZ : ZRN (ztb (tb_X2_follow E d mc ms)) cut G R T Z) (f : Nat) (L : ZLV) (st : List Value) (σ : ZHp) (n k w : Nat) : Z (f + 1) 45 L st σ n k w = s_const (.int (-1)) 46 L st σ n k w (zk1 cut G (Z f)) G R T := zrs hZ rfl f L st σ n k w
theorem f_X2_follow_46 (hZ : ZRN (ztb (tb_X2_follow E d mc ms)) cut G R T Z) (f : Nat) (L : ZLV) (st : List Value) (σ : ZHp) (n k w : Nat) : Z (f + 1) 46 L st σ n k w = s_icmp_eq 57 49 L st σ n k w (zk1 cut G (Z f)) G R T := zrs hZ rfl f L st σ n k w
theorem f_X2_follow_49 (hZ : ZRN (ztb (tb_X2_follow E d mc ms)) cut G R T Z) (f : Nat) (L : ZLV) (st : List Value) (σ : ZHp) (n k w : Nat) : Z (f + 1) 49 L st σ n k w = s_aload 0 50 L st σ n k w (zk1 cut G (Z f)) G R T := zrs hZ rfl f L st σ n k w
theorem f_X2_follow_50 (hZ : ZRN (ztb (tb_X2_follow E d mc ms)) cut G R T Z) (f : Nat) (L : ZLV) (st : List Value) (σ : ZHp) (n k w : Nat) : Z (f + 1) 50 L st σ n k w = s_iload 3 51 L st σ n k w (zk1 cut G (Z f)) G R T := zrs hZ rfl f L st σ n k w
theorem f_X2_follow_51 (hZ : ZRN (ztb (tb_X2_follow E d mc ms)) cut G R T Z) (f : Nat) (L : ZLV) (st : List Value) (σ : ZHp) (n k w : Nat) : Z (f + 1) 51 L st σ n k w = s_callV E d mc ms 1 MX2_reckon 1 54 L st σ n k w (zk1 cut G (Z f)) G R T := zrs hZ rfl f L st σ n k w
theorem f_X2_follow_54 (hZ : ZRN (ztb (tb_X2_follow E d mc ms)) cut G R T Z) (f : Nat) (L : ZLV) (st : List Value) (σ : ZHp) (n k w : Nat) : Z (f + 1) 54 L st σ n k w = s_if_eq 122 57 L st σ n k w (zk1 cut G (Z f)) G R T := zrs hZ rfl f L st σ n k w
theorem f_X2_follow_57 (hZ : ZRN (ztb (tb_X2_follow E d mc ms)) cut G R T Z) (f : Nat) (L : ZLV) (st : List Value) (σ : ZHp) (n k w : Nat) : Z (f + 1) 57 L st σ n k w = s_aload 0 58 L st σ n k w (zk1 cut G (Z f)) G R T := zrs hZ rfl f L st σ n k w
theorem f_X2_follow_58 (hZ : ZRN (ztb (tb_X2_follow E d mc ms)) cut G R T Z) (f : Nat) (L : ZLV) (st : List Value) (σ : ZHp) (n k w : Nat) : Z (f + 1) 58 L st σ n k w = s_getf 1 0 61 L st σ n k w (zk1 cut G (Z f)) G R T := zrs hZ rfl f L st σ n k w
theorem f_X2_follow_61 (hZ : ZRN (ztb (tb_X2_follow E d mc ms)) cut G R T Z) (f : Nat) (L : ZLV) (st : List Value) (σ : ZHp) (n k w : Nat) : Z (f + 1) 61 L st σ n k w = s_iload 1 62 L st σ n k w (zk1 cut G (Z f)) G R T := zrs hZ rfl f L st σ n k w
theorem f_X2_follow_62 (hZ : ZRN (ztb (tb_X2_follow E d mc ms)) cut G R T Z) (f : Nat) (L : ZLV) (st : List Value) (σ : ZHp) (n k w : Nat) : Z (f + 1) 62 L st σ n k w = s_iload 2 63 L st σ n k w (zk1 cut G (Z f)) G R T := zrs hZ rfl f L st σ n k w
theorem f_X2_follow_63 (hZ : ZRN (ztb (tb_X2_follow E d mc ms)) cut G R T Z) (f : Nat) (L : ZLV) (st : List Value) (σ : ZHp) (n k w : Nat) : Z (f + 1) 63 L st σ n k w = s_callV E d mc ms 3 MX4_gain 2 66 L st σ n k w (zk1 cut G (Z f)) G R T := zrs hZ rfl f L st σ n k w
theorem f_X2_follow_66 (hZ : ZRN (ztb (tb_X2_follow E d mc ms)) cut G R T Z) (f : Nat) (L : ZLV) (st : List Value) (σ : ZHp) (n k w : Nat) : Z (f + 1) 66 L st σ n k w = s_aload 0 67 L st σ n k w (zk1 cut G (Z f)) G R T := zrs hZ rfl f L st σ n k w
theorem f_X2_follow_67 (hZ : ZRN (ztb (tb_X2_follow E d mc ms)) cut G R T Z) (f : Nat) (L : ZLV) (st : List Value) (σ : ZHp) (n k w : Nat) : Z (f + 1) 67 L st σ n k w = s_getf 1 0 70 L st σ n k w (zk1 cut G (Z f)) G R T := zrs hZ rfl f L st σ n k w
theorem f_X2_follow_70 (hZ : ZRN (ztb (tb_X2_follow E d mc ms)) cut G R T Z) (f : Nat) (L : ZLV) (st : List Value) (σ : ZHp) (n k w : Nat) : Z (f + 1) 70 L st σ n k w = s_getf 3 2 73 L st σ n k w (zk1 cut G (Z f)) G R T := zrs hZ rfl f L st σ n k w
theorem f_X2_follow_73 (hZ : ZRN (ztb (tb_X2_follow E d mc ms)) cut G R T Z) (f : Nat) (L : ZLV) (st : List Value) (σ : ZHp) (n k w : Nat) : Z (f + 1) 73 L st σ n k w = s_iload 2 74 L st σ n k w (zk1 cut G (Z f)) G R T := zrs hZ rfl f L st σ n k w
theorem f_X2_follow_74 (hZ : ZRN (ztb (tb_X2_follow E d mc ms)) cut G R T Z) (f : Nat) (L : ZLV) (st : List Value) (σ : ZHp) (n k w : Nat) : Z (f + 1) 74 L st σ n k w = s_const (.int (1)) 75 L st σ n k w (zk1 cut G (Z f)) G R T := zrs hZ rfl f L st σ n k w
theorem f_X2_follow_75 (hZ : ZRN (ztb (tb_X2_follow E d mc ms)) cut G R T Z) (f : Nat) (L : ZLV) (st : List Value) (σ : ZHp) (n k w : Nat) : Z (f + 1) 75 L st σ n k w = s_callV E d mc ms 4 MX5_raise 2 78 L st σ n k w (zk1 cut G (Z f)) G R T := zrs hZ rfl f L st σ n k w
theorem f_X2_follow_78 (hZ : ZRN (ztb (tb_X2_follow E d mc ms)) cut G R T Z) (f : Nat) (L : ZLV) (st : List Value) (σ : ZHp) (n k w : Nat) : Z (f + 1) 78 L st σ n k w = s_aload 0 79 L st σ n k w (zk1 cut G (Z f)) G R T := zrs hZ rfl f L st σ n k w
theorem f_X2_follow_79 (hZ : ZRN (ztb (tb_X2_follow E d mc ms)) cut G R T Z) (f : Nat) (L : ZLV) (st : List Value) (σ : ZHp) (n k w : Nat) : Z (f + 1) 79 L st σ n k w = s_getf 1 4 82 L st σ n k w (zk1 cut G (Z f)) G R T := zrs hZ rfl f L st σ n k w
theorem f_X2_follow_82 (hZ : ZRN (ztb (tb_X2_follow E d mc ms)) cut G R T Z) (f : Nat) (L : ZLV) (st : List Value) (σ : ZHp) (n k w : Nat) : Z (f + 1) 82 L st σ n k w = s_dup 83 L st σ n k w (zk1 cut G (Z f)) G R T := zrs hZ rfl f L st σ n k w
theorem f_X2_follow_83 (hZ : ZRN (ztb (tb_X2_follow E d mc ms)) cut G R T Z) (f : Nat) (L : ZLV) (st : List Value) (σ : ZHp) (n k w : Nat) : Z (f + 1) 83 L st σ n k w = s_getf 10 7 86 L st σ n k w (zk1 cut G (Z f)) G R T := zrs hZ rfl f L st σ n k w
theorem f_X2_follow_86 (hZ : ZRN (ztb (tb_X2_follow E d mc ms)) cut G R T Z) (f : Nat) (L : ZLV) (st : List Value) (σ : ZHp) (n k w : Nat) : Z (f + 1) 86 L st σ n k w = s_const (.int (1)) 87 L st σ n k w (zk1 cut G (Z f)) G R T := zrs hZ rfl f L st σ n k w
theorem f_X2_follow_87 (hZ : ZRN (ztb (tb_X2_follow E d mc ms)) cut G R T Z) (f : Nat) (L : ZLV) (st : List Value) (σ : ZHp) (n k w : Nat) : Z (f + 1) 87 L st σ n k w = s_iadd 88 L st σ n k w (zk1 cut G (Z f)) G R T := zrs hZ rfl f L st σ n k w
theorem f_X2_follow_88 (hZ : ZRN (ztb (tb_X2_follow E d mc ms)) cut G R T Z) (f : Nat) (L : ZLV) (st : List Value) (σ : ZHp) (n k w : Nat) : Z (f + 1) 88 L st σ n k w = s_putf 10 7 0 91 L st σ n k w (zk1 cut G (Z f)) G R T := zrs hZ rfl f L st σ n k w
theorem f_X2_follow_91 (hZ : ZRN (ztb (tb_X2_follow E d mc ms)) cut G R T Z) (f : Nat) (L : ZLV) (st : List Value) (σ : ZHp) (n k w : Nat) : Z (f + 1) 91 L st σ n k w = s_aload 0 92 L st σ n k w (zk1 cut G (Z f)) G R T := zrs hZ rfl f L st σ n k w
theorem f_X2_follow_92 (hZ : ZRN (ztb (tb_X2_follow E d mc ms)) cut G R T Z) (f : Nat) (L : ZLV) (st : List Value) (σ : ZHp) (n k w : Nat) : Z (f + 1) 92 L st σ n k w = s_dup 93 L st σ n k w (zk1 cut G (Z f)) G R T := zrs hZ rfl f L st σ n k w
theorem f_X2_follow_93 (hZ : ZRN (ztb (tb_X2_follow E d mc ms)) cut G R T Z) (f : Nat) (L : ZLV) (st : List Value) (σ : ZHp) (n k w : Nat) : Z (f + 1) 93 L st σ n k w = s_getf 1 10 96 L st σ n k w (zk1 cut G (Z f)) G R T := zrs hZ rfl f L st σ n k w
theorem f_X2_follow_96 (hZ : ZRN (ztb (tb_X2_follow E d mc ms)) cut G R T Z) (f : Nat) (L : ZLV) (st : List Value) (σ : ZHp) (n k w : Nat) : Z (f + 1) 96 L st σ n k w = s_const (.int (1)) 97 L st σ n k w (zk1 cut G (Z f)) G R T := zrs hZ rfl f L st σ n k w
theorem f_X2_follow_97 (hZ : ZRN (ztb (tb_X2_follow E d mc ms)) cut G R T Z) (f : Nat) (L : ZLV) (st : List Value) (σ : ZHp) (n k w : Nat) : Z (f + 1) 97 L st σ n k w = s_iadd 98 L st σ n k w (zk1 cut G (Z f)) G R T := zrs hZ rfl f L st σ n k w
theorem f_X2_follow_98 (hZ : ZRN (ztb (tb_X2_follow E d mc ms)) cut G R T Z) (f : Nat) (L : ZLV) (st : List Value) (σ : ZHp) (n k w : Nat) : Z (f + 1) 98 L st σ n k w = s_putf 1 10 0 101 L st σ n k w (zk1 cut G (Z f)) G R T := zrs hZ rfl f L st σ n k w
theorem f_X2_follow_101 (hZ : ZRN (ztb (tb_X2_follow E d mc ms)) cut G R T Z) (f : Nat) (L : ZLV) (st : List Value) (σ : ZHp) (n k w : Nat) : Z (f + 1) 101 L st σ n k w = s_aload 0 102 L st σ n k w (zk1 cut G (Z f)) G R T := zrs hZ rfl f L st σ n k w
theorem f_X2_follow_102 (hZ : ZRN (ztb (tb_X2_follow E d mc ms)) cut G R T Z) (f : Nat) (L : ZLV) (st : List Value) (σ : ZHp) (n k w : Nat) : Z (f + 1) 102 L st σ n k w = s_dup 103 L st σ n k w (zk1 cut G (Z f)) G R T := zrs hZ rfl f L st σ n k w
theorem f_X2_follow_103 (hZ : ZRN (ztb (tb_X2_follow E d mc ms)) cut G R T Z) (f : Nat) (L : ZLV) (st : List Value) (σ : ZHp) (n k w : Nat) : Z (f + 1) 103 L st σ n k w = s_getf 1 5 106 L st σ n k w (zk1 cut G (Z f)) G R T := zrs hZ rfl f L st σ n k w
theorem f_X2_follow_106 (hZ : ZRN (ztb (tb_X2_follow E d mc ms)) cut G R T Z) (f : Nat) (L : ZLV) (st : List Value) (σ : ZHp) (n k w : Nat) : Z (f + 1) 106 L st σ n k w = s_iload 4 108 L st σ n k w (zk1 cut G (Z f)) G R T := zrs hZ rfl f L st σ n k w
theorem f_X2_follow_108 (hZ : ZRN (ztb (tb_X2_follow E d mc ms)) cut G R T Z) (f : Nat) (L : ZLV) (st : List Value) (σ : ZHp) (n k w : Nat) : Z (f + 1) 108 L st σ n k w = s_isub 109 L st σ n k w (zk1 cut G (Z f)) G R T := zrs hZ rfl f L st σ n k w
theorem f_X2_follow_109 (hZ : ZRN (ztb (tb_X2_follow E d mc ms)) cut G R T Z) (f : Nat) (L : ZLV) (st : List Value) (σ : ZHp) (n k w : Nat) : Z (f + 1) 109 L st σ n k w = s_putf 1 5 0 112 L st σ n k w (zk1 cut G (Z f)) G R T := zrs hZ rfl f L st σ n k w
theorem f_X2_follow_112 (hZ : ZRN (ztb (tb_X2_follow E d mc ms)) cut G R T Z) (f : Nat) (L : ZLV) (st : List Value) (σ : ZHp) (n k w : Nat) : Z (f + 1) 112 L st σ n k w = s_aload 0 113 L st σ n k w (zk1 cut G (Z f)) G R T := zrs hZ rfl f L st σ n k w
theorem f_X2_follow_113 (hZ : ZRN (ztb (tb_X2_follow E d mc ms)) cut G R T Z) (f : Nat) (L : ZLV) (st : List Value) (σ : ZHp) (n k w : Nat) : Z (f + 1) 113 L st σ n k w = s_dup 114 L st σ n k w (zk1 cut G (Z f)) G R T := zrs hZ rfl f L st σ n k w
theorem f_X2_follow_114 (hZ : ZRN (ztb (tb_X2_follow E d mc ms)) cut G R T Z) (f : Nat) (L : ZLV) (st : List Value) (σ : ZHp) (n k w : Nat) : Z (f + 1) 114 L st σ n k w = s_getf 1 6 117 L st σ n k w (zk1 cut G (Z f)) G R T := zrs hZ rfl f L st σ n k w
theorem f_X2_follow_117 (hZ : ZRN (ztb (tb_X2_follow E d mc ms)) cut G R T Z) (f : Nat) (L : ZLV) (st : List Value) (σ : ZHp) (n k w : Nat) : Z (f + 1) 117 L st σ n k w = s_const (.int (1)) 118 L st σ n k w (zk1 cut G (Z f)) G R T := zrs hZ rfl f L st σ n k w
theorem f_X2_follow_118 (hZ : ZRN (ztb (tb_X2_follow E d mc ms)) cut G R T Z) (f : Nat) (L : ZLV) (st : List Value) (σ : ZHp) (n k w : Nat) : Z (f + 1) 118 L st σ n k w = s_isub 119 L st σ n k w (zk1 cut G (Z f)) G R T := zrs hZ rfl f L st σ n k w
theorem f_X2_follow_119 (hZ : ZRN (ztb (tb_X2_follow E d mc ms)) cut G R T Z) (f : Nat) (L : ZLV) (st : List Value) (σ : ZHp) (n k w : Nat) : Z (f + 1) 119 L st σ n k w = s_putf 1 6 0 122 L st σ n k w (zk1 cut G (Z f)) G R T := zrs hZ rfl f L st σ n k w
theorem f_X2_follow_122 (hZ : ZRN (ztb (tb_X2_follow E d mc ms)) cut G R T Z) (f : Nat) (L : ZLV) (st : List Value) (σ : ZHp) (n k w : Nat) : Z (f + 1) 122 L st σ n k w = s_return L st σ n k w (zk1 cut G (Z f)) G R T := zrs hZ rfl f L st σ n k w
theorem f_X2_reckon_0 (hZ : ZRN (ztb (tb_X2_reckon E d mc ms)) cut G R T Z) (f : Nat) (L : ZLV) (st : List Value) (σ : ZHp) (n k w : Nat) : Z (f + 1) 0 L st σ n k w = s_aload 0 1 L st σ n k w (zk1 cut G (Z f)) G R T := zrs hZ rfl f L st σ n k w
theorem f_X2_reckon_1 (hZ : ZRN (ztb (tb_X2_reckon E d mc ms)) cut G R T Z) (f : Nat) (L : ZLV) (st : List Value) (σ : ZHp) (n k w : Nat) : Z (f + 1) 1 L st σ n k w = s_getf 1 0 4 L st σ n k w (zk1 cut G (Z f)) G R T := zrs hZ rfl f L st σ n k w
theorem f_X2_reckon_4 (hZ : ZRN (ztb (tb_X2_reckon E d mc ms)) cut G R T Z) (f : Nat) (L : ZLV) (st : List Value) (σ : ZHp) (n k w : Nat) : Z (f + 1) 4 L st σ n k w = s_getf 3 5 7 L st σ n k w (zk1 cut G (Z f)) G R T := zrs hZ rfl f L st σ n k w
theorem f_X2_reckon_7 (hZ : ZRN (ztb (tb_X2_reckon E d mc ms)) cut G R T Z) (f : Nat) (L : ZLV) (st : List Value) (σ : ZHp) (n k w : Nat) : Z (f + 1) 7 L st σ n k w = s_getf 5 14 10 L st σ n k w (zk1 cut G (Z f)) G R T := zrs hZ rfl f L st σ n k w
theorem f_X2_reckon_10 (hZ : ZRN (ztb (tb_X2_reckon E d mc ms)) cut G R T Z) (f : Nat) (L : ZLV) (st : List Value) (σ : ZHp) (n k w : Nat) : Z (f + 1) 10 L st σ n k w = s_astore 2 11 L st σ n k w (zk1 cut G (Z f)) G R T := zrs hZ rfl f L st σ n k w
theorem f_X2_reckon_11 (hZ : ZRN (ztb (tb_X2_reckon E d mc ms)) cut G R T Z) (f : Nat) (L : ZLV) (st : List Value) (σ : ZHp) (n k w : Nat) : Z (f + 1) 11 L st σ n k w = s_iload 1 12 L st σ n k w (zk1 cut G (Z f)) G R T := zrs hZ rfl f L st σ n k w
theorem f_X2_reckon_12 (hZ : ZRN (ztb (tb_X2_reckon E d mc ms)) cut G R T Z) (f : Nat) (L : ZLV) (st : List Value) (σ : ZHp) (n k w : Nat) : Z (f + 1) 12 L st σ n k w = s_istore 3 13 L st σ n k w (zk1 cut G (Z f)) G R T := zrs hZ rfl f L st σ n k w
theorem f_X2_reckon_13 (hZ : ZRN (ztb (tb_X2_reckon E d mc ms)) cut G R T Z) (f : Nat) (L : ZLV) (st : List Value) (σ : ZHp) (n k w : Nat) : Z (f + 1) 13 L st σ n k w = s_iload 3 14 L st σ n k w (zk1 cut G (Z f)) G R T := zrs hZ rfl f L st σ n k w
theorem f_X2_reckon_14 (hZ : ZRN (ztb (tb_X2_reckon E d mc ms)) cut G R T Z) (f : Nat) (L : ZLV) (st : List Value) (σ : ZHp) (n k w : Nat) : Z (f + 1) 14 L st σ n k w = s_aload 2 15 L st σ n k w (zk1 cut G (Z f)) G R T := zrs hZ rfl f L st σ n k w
theorem f_X2_reckon_15 (hZ : ZRN (ztb (tb_X2_reckon E d mc ms)) cut G R T Z) (f : Nat) (L : ZLV) (st : List Value) (σ : ZHp) (n k w : Nat) : Z (f + 1) 15 L st σ n k w = s_callV E d mc ms 0 MX1_size 0 18 L st σ n k w (zk1 cut G (Z f)) G R T := zrs hZ rfl f L st σ n k w
theorem f_X2_reckon_18 (hZ : ZRN (ztb (tb_X2_reckon E d mc ms)) cut G R T Z) (f : Nat) (L : ZLV) (st : List Value) (σ : ZHp) (n k w : Nat) : Z (f + 1) 18 L st σ n k w = s_icmp_ge 161 21 L st σ n k w (zk1 cut G (Z f)) G R T := zrs hZ rfl f L st σ n k w
theorem f_X2_reckon_21 (hZ : ZRN (ztb (tb_X2_reckon E d mc ms)) cut G R T Z) (f : Nat) (L : ZLV) (st : List Value) (σ : ZHp) (n k w : Nat) : Z (f + 1) 21 L st σ n k w = s_aload 2 22 L st σ n k w (zk1 cut G (Z f)) G R T := zrs hZ rfl f L st σ n k w
theorem f_X2_reckon_22 (hZ : ZRN (ztb (tb_X2_reckon E d mc ms)) cut G R T Z) (f : Nat) (L : ZLV) (st : List Value) (σ : ZHp) (n k w : Nat) : Z (f + 1) 22 L st σ n k w = s_iload 3 23 L st σ n k w (zk1 cut G (Z f)) G R T := zrs hZ rfl f L st σ n k w
theorem f_X2_reckon_23 (hZ : ZRN (ztb (tb_X2_reckon E d mc ms)) cut G R T Z) (f : Nat) (L : ZLV) (st : List Value) (σ : ZHp) (n k w : Nat) : Z (f + 1) 23 L st σ n k w = s_callV E d mc ms 0 MX1_operation 1 26 L st σ n k w (zk1 cut G (Z f)) G R T := zrs hZ rfl f L st σ n k w
theorem f_X2_reckon_26 (hZ : ZRN (ztb (tb_X2_reckon E d mc ms)) cut G R T Z) (f : Nat) (L : ZLV) (st : List Value) (σ : ZHp) (n k w : Nat) : Z (f + 1) 26 L st σ n k w = s_const (.ref (zeK E 1)) 29 L st σ n k w (zk1 cut G (Z f)) G R T := zrs hZ rfl f L st σ n k w
theorem f_X2_reckon_29 (hZ : ZRN (ztb (tb_X2_reckon E d mc ms)) cut G R T Z) (f : Nat) (L : ZLV) (st : List Value) (σ : ZHp) (n k w : Nat) : Z (f + 1) 29 L st σ n k w = s_acmp_eq 161 32 L st σ n k w (zk1 cut G (Z f)) G R T := zrs hZ rfl f L st σ n k w
theorem f_X2_reckon_32 (hZ : ZRN (ztb (tb_X2_reckon E d mc ms)) cut G R T Z) (f : Nat) (L : ZLV) (st : List Value) (σ : ZHp) (n k w : Nat) : Z (f + 1) 32 L st σ n k w = s_aload 2 33 L st σ n k w (zk1 cut G (Z f)) G R T := zrs hZ rfl f L st σ n k w
theorem f_X2_reckon_33 (hZ : ZRN (ztb (tb_X2_reckon E d mc ms)) cut G R T Z) (f : Nat) (L : ZLV) (st : List Value) (σ : ZHp) (n k w : Nat) : Z (f + 1) 33 L st σ n k w = s_iload 3 34 L st σ n k w (zk1 cut G (Z f)) G R T := zrs hZ rfl f L st σ n k w
theorem f_X2_reckon_34 (hZ : ZRN (ztb (tb_X2_reckon E d mc ms)) cut G R T Z) (f : Nat) (L : ZLV) (st : List Value) (σ : ZHp) (n k w : Nat) : Z (f + 1) 34 L st σ n k w = s_callV E d mc ms 0 MX1_operation 1 37 L st σ n k w (zk1 cut G (Z f)) G R T := zrs hZ rfl f L st σ n k w
theorem f_X2_reckon_37 (hZ : ZRN (ztb (tb_X2_reckon E d mc ms)) cut G R T Z) (f : Nat) (L : ZLV) (st : List Value) (σ : ZHp) (n k w : Nat) : Z (f + 1) 37 L st σ n k w = s_astore 4 39 L st σ n k w (zk1 cut G (Z f)) G R T := zrs hZ rfl f L st σ n k w
theorem f_X2_reckon_39 (hZ : ZRN (ztb (tb_X2_reckon E d mc ms)) cut G R T Z) (f : Nat) (L : ZLV) (st : List Value) (σ : ZHp) (n k w : Nat) : Z (f + 1) 39 L st σ n k w = s_aload 4 41 L st σ n k w (zk1 cut G (Z f)) G R T := zrs hZ rfl f L st σ n k w
theorem f_X2_reckon_41 (hZ : ZRN (ztb (tb_X2_reckon E d mc ms)) cut G R T Z) (f : Nat) (L : ZLV) (st : List Value) (σ : ZHp) (n k w : Nat) : Z (f + 1) 41 L st σ n k w = s_const (.ref (zeK E 4)) 44 L st σ n k w (zk1 cut G (Z f)) G R T := zrs hZ rfl f L st σ n k w
theorem f_X2_reckon_44 (hZ : ZRN (ztb (tb_X2_reckon E d mc ms)) cut G R T Z) (f : Nat) (L : ZLV) (st : List Value) (σ : ZHp) (n k w : Nat) : Z (f + 1) 44 L st σ n k w = s_acmp_ne 65 47 L st σ n k w (zk1 cut G (Z f)) G R T := zrs hZ rfl f L st σ n k w
theorem f_X2_reckon_47 (hZ : ZRN (ztb (tb_X2_reckon E d mc ms)) cut G R T Z) (f : Nat) (L : ZLV) (st : List Value) (σ : ZHp) (n k w : Nat) : Z (f + 1) 47 L st σ n k w = s_aload 0 48 L st σ n k w (zk1 cut G (Z f)) G R T := zrs hZ rfl f L st σ n k w
theorem f_X2_reckon_48 (hZ : ZRN (ztb (tb_X2_reckon E d mc ms)) cut G R T Z) (f : Nat) (L : ZLV) (st : List Value) (σ : ZHp) (n k w : Nat) : Z (f + 1) 48 L st σ n k w = s_getf 1 3 51 L st σ n k w (zk1 cut G (Z f)) G R T := zrs hZ rfl f L st σ n k w
theorem f_X2_reckon_51 (hZ : ZRN (ztb (tb_X2_reckon E d mc ms)) cut G R T Z) (f : Nat) (L : ZLV) (st : List Value) (σ : ZHp) (n k w : Nat) : Z (f + 1) 51 L st σ n k w = s_aload 0 52 L st σ n k w (zk1 cut G (Z f)) G R T := zrs hZ rfl f L st σ n k w
theorem f_X2_reckon_52 (hZ : ZRN (ztb (tb_X2_reckon E d mc ms)) cut G R T Z) (f : Nat) (L : ZLV) (st : List Value) (σ : ZHp) (n k w : Nat) : Z (f + 1) 52 L st σ n k w = s_getf 1 3 55 L st σ n k w (zk1 cut G (Z f)) G R T := zrs hZ rfl f L st σ n k w
theorem f_X2_reckon_55 (hZ : ZRN (ztb (tb_X2_reckon E d mc ms)) cut G R T Z) (f : Nat) (L : ZLV) (st : List Value) (σ : ZHp) (n k w : Nat) : Z (f + 1) 55 L st σ n k w = s_callV E d mc ms 4 MX5_takeLast 0 58 L st σ n k w (zk1 cut G (Z f)) G R T := zrs hZ rfl f L st σ n k w
theorem f_X2_reckon_58 (hZ : ZRN (ztb (tb_X2_reckon E d mc ms)) cut G R T Z) (f : Nat) (L : ZLV) (st : List Value) (σ : ZHp) (n k w : Nat) : Z (f + 1) 58 L st σ n k w = s_ineg 59 L st σ n k w (zk1 cut G (Z f)) G R T := zrs hZ rfl f L st σ n k w
theorem f_X2_reckon_59 (hZ : ZRN (ztb (tb_X2_reckon E d mc ms)) cut G R T Z) (f : Nat) (L : ZLV) (st : List Value) (σ : ZHp) (n k w : Nat) : Z (f + 1) 59 L st σ n k w = s_callV E d mc ms 4 MX5_add 1 62 L st σ n k w (zk1 cut G (Z f)) G R T := zrs hZ rfl f L st σ n k w
theorem f_X2_reckon_62 (hZ : ZRN (ztb (tb_X2_reckon E d mc ms)) cut G R T Z) (f : Nat) (L : ZLV) (st : List Value) (σ : ZHp) (n k w : Nat) : Z (f + 1) 62 L st σ n k w = s_goto 155 L st σ n k w (zk1 cut G (Z f)) G R T := zrs hZ rfl f L st σ n k w
theorem f_X2_reckon_65 (hZ : ZRN (ztb (tb_X2_reckon E d mc ms)) cut G R T Z) (f : Nat) (L : ZLV) (st : List Value) (σ : ZHp) (n k w : Nat) : Z (f + 1) 65 L st σ n k w = s_aload 4 67 L st σ n k w (zk1 cut G (Z f)) G R T := zrs hZ rfl f L st σ n k w
theorem f_X2_reckon_67 (hZ : ZRN (ztb (tb_X2_reckon E d mc ms)) cut G R T Z) (f : Nat) (L : ZLV) (st : List Value) (σ : ZHp) (n k w : Nat) : Z (f + 1) 67 L st σ n k w = s_const (.ref (zeK E 26)) 70 L st σ n k w (zk1 cut G (Z f)) G R T := zrs hZ rfl f L st σ n k w
theorem f_X2_reckon_70 (hZ : ZRN (ztb (tb_X2_reckon E d mc ms)) cut G R T Z) (f : Nat) (L : ZLV) (st : List Value) (σ : ZHp) (n k w : Nat) : Z (f + 1) 70 L st σ n k w = s_acmp_ne 92 73 L st σ n k w (zk1 cut G (Z f)) G R T := zrs hZ rfl f L st σ n k w
theorem f_X2_reckon_73 (hZ : ZRN (ztb (tb_X2_reckon E d mc ms)) cut G R T Z) (f : Nat) (L : ZLV) (st : List Value) (σ : ZHp) (n k w : Nat) : Z (f + 1) 73 L st σ n k w = s_aload 0 74 L st σ n k w (zk1 cut G (Z f)) G R T := zrs hZ rfl f L st σ n k w
theorem f_X2_reckon_74 (hZ : ZRN (ztb (tb_X2_reckon E d mc ms)) cut G R T Z) (f : Nat) (L : ZLV) (st : List Value) (σ : ZHp) (n k w : Nat) : Z (f + 1) 74 L st σ n k w = s_getf 1 3 77 L st σ n k w (zk1 cut G (Z f)) G R T := zrs hZ rfl f L st σ n k w
theorem f_X2_reckon_77 (hZ : ZRN (ztb (tb_X2_reckon E d mc ms)) cut G R T Z) (f : Nat) (L : ZLV) (st : List Value) (σ : ZHp) (n k w : Nat) : Z (f + 1) 77 L st σ n k w = s_const (.int (1)) 78 L st σ n k w (zk1 cut G (Z f)) G R T := zrs hZ rfl f L st σ n k w
theorem f_X2_reckon_78 (hZ : ZRN (ztb (tb_X2_reckon E d mc ms)) cut G R T Z) (f : Nat) (L : ZLV) (st : List Value) (σ : ZHp) (n k w : Nat) : Z (f + 1) 78 L st σ n k w = s_aload 0 79 L st σ n k w (zk1 cut G (Z f)) G R T := zrs hZ rfl f L st σ n k w
theorem f_X2_reckon_79 (hZ : ZRN (ztb (tb_X2_reckon E d mc ms)) cut G R T Z) (f : Nat) (L : ZLV) (st : List Value) (σ : ZHp) (n k w : Nat) : Z (f + 1) 79 L st σ n k w = s_getf 1 3 82 L st σ n k w (zk1 cut G (Z f)) G R T := zrs hZ rfl f L st σ n k w
theorem f_X2_reckon_82 (hZ : ZRN (ztb (tb_X2_reckon E d mc ms)) cut G R T Z) (f : Nat) (L : ZLV) (st : List Value) (σ : ZHp) (n k w : Nat) : Z (f + 1) 82 L st σ n k w = s_callV E d mc ms 4 MX5_takeLast 0 85 L st σ n k w (zk1 cut G (Z f)) G R T := zrs hZ rfl f L st σ n k w
theorem f_X2_reckon_85 (hZ : ZRN (ztb (tb_X2_reckon E d mc ms)) cut G R T Z) (f : Nat) (L : ZLV) (st : List Value) (σ : ZHp) (n k w : Nat) : Z (f + 1) 85 L st σ n k w = s_isub 86 L st σ n k w (zk1 cut G (Z f)) G R T := zrs hZ rfl f L st σ n k w
theorem f_X2_reckon_86 (hZ : ZRN (ztb (tb_X2_reckon E d mc ms)) cut G R T Z) (f : Nat) (L : ZLV) (st : List Value) (σ : ZHp) (n k w : Nat) : Z (f + 1) 86 L st σ n k w = s_callV E d mc ms 4 MX5_add 1 89 L st σ n k w (zk1 cut G (Z f)) G R T := zrs hZ rfl f L st σ n k w
theorem f_X2_reckon_89 (hZ : ZRN (ztb (tb_X2_reckon E d mc ms)) cut G R T Z) (f : Nat) (L : ZLV) (st : List Value) (σ : ZHp) (n k w : Nat) : Z (f + 1) 89 L st σ n k w = s_goto 155 L st σ n k w (zk1 cut G (Z f)) G R T := zrs hZ rfl f L st σ n k w
theorem f_X2_reckon_92 (hZ : ZRN (ztb (tb_X2_reckon E d mc ms)) cut G R T Z) (f : Nat) (L : ZLV) (st : List Value) (σ : ZHp) (n k w : Nat) : Z (f + 1) 92 L st σ n k w = s_aload 4 94 L st σ n k w (zk1 cut G (Z f)) G R T := zrs hZ rfl f L st σ n k w
theorem f_X2_reckon_94 (hZ : ZRN (ztb (tb_X2_reckon E d mc ms)) cut G R T Z) (f : Nat) (L : ZLV) (st : List Value) (σ : ZHp) (n k w : Nat) : Z (f + 1) 94 L st σ n k w = s_callS E d mc ms MX2_isJoining 1 97 L st σ n k w (zk1 cut G (Z f)) G R T := zrs hZ rfl f L st σ n k w
theorem f_X2_reckon_97 (hZ : ZRN (ztb (tb_X2_reckon E d mc ms)) cut G R T Z) (f : Nat) (L : ZLV) (st : List Value) (σ : ZHp) (n k w : Nat) : Z (f + 1) 97 L st σ n k w = s_if_eq 137 100 L st σ n k w (zk1 cut G (Z f)) G R T := zrs hZ rfl f L st σ n k w
theorem f_X2_reckon_100 (hZ : ZRN (ztb (tb_X2_reckon E d mc ms)) cut G R T Z) (f : Nat) (L : ZLV) (st : List Value) (σ : ZHp) (n k w : Nat) : Z (f + 1) 100 L st σ n k w = s_aload 0 101 L st σ n k w (zk1 cut G (Z f)) G R T := zrs hZ rfl f L st σ n k w
theorem f_X2_reckon_101 (hZ : ZRN (ztb (tb_X2_reckon E d mc ms)) cut G R T Z) (f : Nat) (L : ZLV) (st : List Value) (σ : ZHp) (n k w : Nat) : Z (f + 1) 101 L st σ n k w = s_getf 1 3 104 L st σ n k w (zk1 cut G (Z f)) G R T := zrs hZ rfl f L st σ n k w
theorem f_X2_reckon_104 (hZ : ZRN (ztb (tb_X2_reckon E d mc ms)) cut G R T Z) (f : Nat) (L : ZLV) (st : List Value) (σ : ZHp) (n k w : Nat) : Z (f + 1) 104 L st σ n k w = s_callV E d mc ms 4 MX5_takeLast 0 107 L st σ n k w (zk1 cut G (Z f)) G R T := zrs hZ rfl f L st σ n k w
theorem f_X2_reckon_107 (hZ : ZRN (ztb (tb_X2_reckon E d mc ms)) cut G R T Z) (f : Nat) (L : ZLV) (st : List Value) (σ : ZHp) (n k w : Nat) : Z (f + 1) 107 L st σ n k w = s_istore 5 109 L st σ n k w (zk1 cut G (Z f)) G R T := zrs hZ rfl f L st σ n k w
theorem f_X2_reckon_109 (hZ : ZRN (ztb (tb_X2_reckon E d mc ms)) cut G R T Z) (f : Nat) (L : ZLV) (st : List Value) (σ : ZHp) (n k w : Nat) : Z (f + 1) 109 L st σ n k w = s_aload 0 110 L st σ n k w (zk1 cut G (Z f)) G R T := zrs hZ rfl f L st σ n k w
theorem f_X2_reckon_110 (hZ : ZRN (ztb (tb_X2_reckon E d mc ms)) cut G R T Z) (f : Nat) (L : ZLV) (st : List Value) (σ : ZHp) (n k w : Nat) : Z (f + 1) 110 L st σ n k w = s_getf 1 3 113 L st σ n k w (zk1 cut G (Z f)) G R T := zrs hZ rfl f L st σ n k w
theorem f_X2_reckon_113 (hZ : ZRN (ztb (tb_X2_reckon E d mc ms)) cut G R T Z) (f : Nat) (L : ZLV) (st : List Value) (σ : ZHp) (n k w : Nat) : Z (f + 1) 113 L st σ n k w = s_callV E d mc ms 4 MX5_takeLast 0 116 L st σ n k w (zk1 cut G (Z f)) G R T := zrs hZ rfl f L st σ n k w
theorem f_X2_reckon_116 (hZ : ZRN (ztb (tb_X2_reckon E d mc ms)) cut G R T Z) (f : Nat) (L : ZLV) (st : List Value) (σ : ZHp) (n k w : Nat) : Z (f + 1) 116 L st σ n k w = s_istore 6 118 L st σ n k w (zk1 cut G (Z f)) G R T := zrs hZ rfl f L st σ n k w
theorem f_X2_reckon_118 (hZ : ZRN (ztb (tb_X2_reckon E d mc ms)) cut G R T Z) (f : Nat) (L : ZLV) (st : List Value) (σ : ZHp) (n k w : Nat) : Z (f + 1) 118 L st σ n k w = s_aload 0 119 L st σ n k w (zk1 cut G (Z f)) G R T := zrs hZ rfl f L st σ n k w
theorem f_X2_reckon_119 (hZ : ZRN (ztb (tb_X2_reckon E d mc ms)) cut G R T Z) (f : Nat) (L : ZLV) (st : List Value) (σ : ZHp) (n k w : Nat) : Z (f + 1) 119 L st σ n k w = s_getf 1 3 122 L st σ n k w (zk1 cut G (Z f)) G R T := zrs hZ rfl f L st σ n k w
theorem f_X2_reckon_122 (hZ : ZRN (ztb (tb_X2_reckon E d mc ms)) cut G R T Z) (f : Nat) (L : ZLV) (st : List Value) (σ : ZHp) (n k w : Nat) : Z (f + 1) 122 L st σ n k w = s_aload 4 124 L st σ n k w (zk1 cut G (Z f)) G R T := zrs hZ rfl f L st σ n k w
theorem f_X2_reckon_124 (hZ : ZRN (ztb (tb_X2_reckon E d mc ms)) cut G R T Z) (f : Nat) (L : ZLV) (st : List Value) (σ : ZHp) (n k w : Nat) : Z (f + 1) 124 L st σ n k w = s_iload 6 126 L st σ n k w (zk1 cut G (Z f)) G R T := zrs hZ rfl f L st σ n k w
theorem f_X2_reckon_126 (hZ : ZRN (ztb (tb_X2_reckon E d mc ms)) cut G R T Z) (f : Nat) (L : ZLV) (st : List Value) (σ : ZHp) (n k w : Nat) : Z (f + 1) 126 L st σ n k w = s_iload 5 128 L st σ n k w (zk1 cut G (Z f)) G R T := zrs hZ rfl f L st σ n k w
theorem f_X2_reckon_128 (hZ : ZRN (ztb (tb_X2_reckon E d mc ms)) cut G R T Z) (f : Nat) (L : ZLV) (st : List Value) (σ : ZHp) (n k w : Nat) : Z (f + 1) 128 L st σ n k w = s_callS E d mc ms MX2_joined 3 131 L st σ n k w (zk1 cut G (Z f)) G R T := zrs hZ rfl f L st σ n k w
theorem f_X2_reckon_131 (hZ : ZRN (ztb (tb_X2_reckon E d mc ms)) cut G R T Z) (f : Nat) (L : ZLV) (st : List Value) (σ : ZHp) (n k w : Nat) : Z (f + 1) 131 L st σ n k w = s_callV E d mc ms 4 MX5_add 1 134 L st σ n k w (zk1 cut G (Z f)) G R T := zrs hZ rfl f L st σ n k w
theorem f_X2_reckon_134 (hZ : ZRN (ztb (tb_X2_reckon E d mc ms)) cut G R T Z) (f : Nat) (L : ZLV) (st : List Value) (σ : ZHp) (n k w : Nat) : Z (f + 1) 134 L st σ n k w = s_goto 155 L st σ n k w (zk1 cut G (Z f)) G R T := zrs hZ rfl f L st σ n k w
theorem f_X2_reckon_137 (hZ : ZRN (ztb (tb_X2_reckon E d mc ms)) cut G R T Z) (f : Nat) (L : ZLV) (st : List Value) (σ : ZHp) (n k w : Nat) : Z (f + 1) 137 L st σ n k w = s_aload 0 138 L st σ n k w (zk1 cut G (Z f)) G R T := zrs hZ rfl f L st σ n k w
theorem f_X2_reckon_138 (hZ : ZRN (ztb (tb_X2_reckon E d mc ms)) cut G R T Z) (f : Nat) (L : ZLV) (st : List Value) (σ : ZHp) (n k w : Nat) : Z (f + 1) 138 L st σ n k w = s_getf 1 3 141 L st σ n k w (zk1 cut G (Z f)) G R T := zrs hZ rfl f L st σ n k w
theorem f_X2_reckon_141 (hZ : ZRN (ztb (tb_X2_reckon E d mc ms)) cut G R T Z) (f : Nat) (L : ZLV) (st : List Value) (σ : ZHp) (n k w : Nat) : Z (f + 1) 141 L st σ n k w = s_aload 0 142 L st σ n k w (zk1 cut G (Z f)) G R T := zrs hZ rfl f L st σ n k w
theorem f_X2_reckon_142 (hZ : ZRN (ztb (tb_X2_reckon E d mc ms)) cut G R T Z) (f : Nat) (L : ZLV) (st : List Value) (σ : ZHp) (n k w : Nat) : Z (f + 1) 142 L st σ n k w = s_aload 4 144 L st σ n k w (zk1 cut G (Z f)) G R T := zrs hZ rfl f L st σ n k w
theorem f_X2_reckon_144 (hZ : ZRN (ztb (tb_X2_reckon E d mc ms)) cut G R T Z) (f : Nat) (L : ZLV) (st : List Value) (σ : ZHp) (n k w : Nat) : Z (f + 1) 144 L st σ n k w = s_aload 2 145 L st σ n k w (zk1 cut G (Z f)) G R T := zrs hZ rfl f L st σ n k w
theorem f_X2_reckon_145 (hZ : ZRN (ztb (tb_X2_reckon E d mc ms)) cut G R T Z) (f : Nat) (L : ZLV) (st : List Value) (σ : ZHp) (n k w : Nat) : Z (f + 1) 145 L st σ n k w = s_iload 3 146 L st σ n k w (zk1 cut G (Z f)) G R T := zrs hZ rfl f L st σ n k w
theorem f_X2_reckon_146 (hZ : ZRN (ztb (tb_X2_reckon E d mc ms)) cut G R T Z) (f : Nat) (L : ZLV) (st : List Value) (σ : ZHp) (n k w : Nat) : Z (f + 1) 146 L st σ n k w = s_callV E d mc ms 0 MX1_operand 1 149 L st σ n k w (zk1 cut G (Z f)) G R T := zrs hZ rfl f L st σ n k w
theorem f_X2_reckon_149 (hZ : ZRN (ztb (tb_X2_reckon E d mc ms)) cut G R T Z) (f : Nat) (L : ZLV) (st : List Value) (σ : ZHp) (n k w : Nat) : Z (f + 1) 149 L st σ n k w = s_callV E d mc ms 1 MX2_known 2 152 L st σ n k w (zk1 cut G (Z f)) G R T := zrs hZ rfl f L st σ n k w
theorem f_X2_reckon_152 (hZ : ZRN (ztb (tb_X2_reckon E d mc ms)) cut G R T Z) (f : Nat) (L : ZLV) (st : List Value) (σ : ZHp) (n k w : Nat) : Z (f + 1) 152 L st σ n k w = s_callV E d mc ms 4 MX5_add 1 155 L st σ n k w (zk1 cut G (Z f)) G R T := zrs hZ rfl f L st σ n k w
theorem f_X2_reckon_155 (hZ : ZRN (ztb (tb_X2_reckon E d mc ms)) cut G R T Z) (f : Nat) (L : ZLV) (st : List Value) (σ : ZHp) (n k w : Nat) : Z (f + 1) 155 L st σ n k w = s_iinc 3 (1) 158 L st σ n k w (zk1 cut G (Z f)) G R T := zrs hZ rfl f L st σ n k w
theorem f_X2_reckon_158 (hZ : ZRN (ztb (tb_X2_reckon E d mc ms)) cut G R T Z) (f : Nat) (L : ZLV) (st : List Value) (σ : ZHp) (n k w : Nat) : Z (f + 1) 158 L st σ n k w = s_goto 13 L st σ n k w (zk1 cut G (Z f)) G R T := zrs hZ rfl f L st σ n k w
theorem f_X2_reckon_161 (hZ : ZRN (ztb (tb_X2_reckon E d mc ms)) cut G R T Z) (f : Nat) (L : ZLV) (st : List Value) (σ : ZHp) (n k w : Nat) : Z (f + 1) 161 L st σ n k w = s_aload 0 162 L st σ n k w (zk1 cut G (Z f)) G R T := zrs hZ rfl f L st σ n k w
theorem f_X2_reckon_162 (hZ : ZRN (ztb (tb_X2_reckon E d mc ms)) cut G R T Z) (f : Nat) (L : ZLV) (st : List Value) (σ : ZHp) (n k w : Nat) : Z (f + 1) 162 L st σ n k w = s_getf 1 3 165 L st σ n k w (zk1 cut G (Z f)) G R T := zrs hZ rfl f L st σ n k w
theorem f_X2_reckon_165 (hZ : ZRN (ztb (tb_X2_reckon E d mc ms)) cut G R T Z) (f : Nat) (L : ZLV) (st : List Value) (σ : ZHp) (n k w : Nat) : Z (f + 1) 165 L st σ n k w = s_callV E d mc ms 4 MX5_takeLast 0 168 L st σ n k w (zk1 cut G (Z f)) G R T := zrs hZ rfl f L st σ n k w
theorem f_X2_reckon_168 (hZ : ZRN (ztb (tb_X2_reckon E d mc ms)) cut G R T Z) (f : Nat) (L : ZLV) (st : List Value) (σ : ZHp) (n k w : Nat) : Z (f + 1) 168 L st σ n k w = s_ireturn L st σ n k w (zk1 cut G (Z f)) G R T := zrs hZ rfl f L st σ n k w
theorem f_X2_known_0 (hZ : ZRN (ztb (tb_X2_known E d mc ms)) cut G R T Z) (f : Nat) (L : ZLV) (st : List Value) (σ : ZHp) (n k w : Nat) : Z (f + 1) 0 L st σ n k w = s_const (.ref (zeK E 47)) 3 L st σ n k w (zk1 cut G (Z f)) G R T := zrs hZ rfl f L st σ n k w
theorem f_X2_known_3 (hZ : ZRN (ztb (tb_X2_known E d mc ms)) cut G R T Z) (f : Nat) (L : ZLV) (st : List Value) (σ : ZHp) (n k w : Nat) : Z (f + 1) 3 L st σ n k w = s_aload 1 4 L st σ n k w (zk1 cut G (Z f)) G R T := zrs hZ rfl f L st σ n k w
theorem f_X2_known_4 (hZ : ZRN (ztb (tb_X2_known E d mc ms)) cut G R T Z) (f : Nat) (L : ZLV) (st : List Value) (σ : ZHp) (n k w : Nat) : Z (f + 1) 4 L st σ n k w = s_callK E d mc ms 0 46 MJx29ce0_ordinal_8abf5 0 7 L st σ n k w (zk1 cut G (Z f)) G R T := zrs hZ rfl f L st σ n k w
theorem f_X2_known_7 (hZ : ZRN (ztb (tb_X2_known E d mc ms)) cut G R T Z) (f : Nat) (L : ZLV) (st : List Value) (σ : ZHp) (n k w : Nat) : Z (f + 1) 7 L st σ n k w = s_ialdK E 8 L st σ n k w (zk1 cut G (Z f)) G R T := zrs hZ rfl f L st σ n k w
theorem f_X2_known_8 (hZ : ZRN (ztb (tb_X2_known E d mc ms)) cut G R T Z) (f : Nat) (L : ZLV) (st : List Value) (σ : ZHp) (n k w : Nat) : Z (f + 1) 8 L st σ n k w = s_tsw 10 [56, 64, 69, 74, 82, 90, 99, 111] 123 L st σ n k w (zk1 cut G (Z f)) G R T := zrs hZ rfl f L st σ n k w
theorem f_X2_known_56 (hZ : ZRN (ztb (tb_X2_known E d mc ms)) cut G R T Z) (f : Nat) (L : ZLV) (st : List Value) (σ : ZHp) (n k w : Nat) : Z (f + 1) 56 L st σ n k w = s_aload 0 57 L st σ n k w (zk1 cut G (Z f)) G R T := zrs hZ rfl f L st σ n k w
theorem f_X2_known_57 (hZ : ZRN (ztb (tb_X2_known E d mc ms)) cut G R T Z) (f : Nat) (L : ZLV) (st : List Value) (σ : ZHp) (n k w : Nat) : Z (f + 1) 57 L st σ n k w = s_getf 1 0 60 L st σ n k w (zk1 cut G (Z f)) G R T := zrs hZ rfl f L st σ n k w
theorem f_X2_known_60 (hZ : ZRN (ztb (tb_X2_known E d mc ms)) cut G R T Z) (f : Nat) (L : ZLV) (st : List Value) (σ : ZHp) (n k w : Nat) : Z (f + 1) 60 L st σ n k w = s_getf 3 6 63 L st σ n k w (zk1 cut G (Z f)) G R T := zrs hZ rfl f L st σ n k w
theorem f_X2_known_63 (hZ : ZRN (ztb (tb_X2_known E d mc ms)) cut G R T Z) (f : Nat) (L : ZLV) (st : List Value) (σ : ZHp) (n k w : Nat) : Z (f + 1) 63 L st σ n k w = s_ireturn L st σ n k w (zk1 cut G (Z f)) G R T := zrs hZ rfl f L st σ n k w
theorem f_X2_known_64 (hZ : ZRN (ztb (tb_X2_known E d mc ms)) cut G R T Z) (f : Nat) (L : ZLV) (st : List Value) (σ : ZHp) (n k w : Nat) : Z (f + 1) 64 L st σ n k w = s_aload 0 65 L st σ n k w (zk1 cut G (Z f)) G R T := zrs hZ rfl f L st σ n k w
theorem f_X2_known_65 (hZ : ZRN (ztb (tb_X2_known E d mc ms)) cut G R T Z) (f : Nat) (L : ZLV) (st : List Value) (σ : ZHp) (n k w : Nat) : Z (f + 1) 65 L st σ n k w = s_getf 1 5 68 L st σ n k w (zk1 cut G (Z f)) G R T := zrs hZ rfl f L st σ n k w
theorem f_X2_known_68 (hZ : ZRN (ztb (tb_X2_known E d mc ms)) cut G R T Z) (f : Nat) (L : ZLV) (st : List Value) (σ : ZHp) (n k w : Nat) : Z (f + 1) 68 L st σ n k w = s_ireturn L st σ n k w (zk1 cut G (Z f)) G R T := zrs hZ rfl f L st σ n k w
theorem f_X2_known_69 (hZ : ZRN (ztb (tb_X2_known E d mc ms)) cut G R T Z) (f : Nat) (L : ZLV) (st : List Value) (σ : ZHp) (n k w : Nat) : Z (f + 1) 69 L st σ n k w = s_aload 0 70 L st σ n k w (zk1 cut G (Z f)) G R T := zrs hZ rfl f L st σ n k w
theorem f_X2_known_70 (hZ : ZRN (ztb (tb_X2_known E d mc ms)) cut G R T Z) (f : Nat) (L : ZLV) (st : List Value) (σ : ZHp) (n k w : Nat) : Z (f + 1) 70 L st σ n k w = s_getf 1 6 73 L st σ n k w (zk1 cut G (Z f)) G R T := zrs hZ rfl f L st σ n k w
theorem f_X2_known_73 (hZ : ZRN (ztb (tb_X2_known E d mc ms)) cut G R T Z) (f : Nat) (L : ZLV) (st : List Value) (σ : ZHp) (n k w : Nat) : Z (f + 1) 73 L st σ n k w = s_ireturn L st σ n k w (zk1 cut G (Z f)) G R T := zrs hZ rfl f L st σ n k w
theorem f_X2_known_74 (hZ : ZRN (ztb (tb_X2_known E d mc ms)) cut G R T Z) (f : Nat) (L : ZLV) (st : List Value) (σ : ZHp) (n k w : Nat) : Z (f + 1) 74 L st σ n k w = s_aload 0 75 L st σ n k w (zk1 cut G (Z f)) G R T := zrs hZ rfl f L st σ n k w
theorem f_X2_known_75 (hZ : ZRN (ztb (tb_X2_known E d mc ms)) cut G R T Z) (f : Nat) (L : ZLV) (st : List Value) (σ : ZHp) (n k w : Nat) : Z (f + 1) 75 L st σ n k w = s_getf 1 1 78 L st σ n k w (zk1 cut G (Z f)) G R T := zrs hZ rfl f L st σ n k w
theorem f_X2_known_78 (hZ : ZRN (ztb (tb_X2_known E d mc ms)) cut G R T Z) (f : Nat) (L : ZLV) (st : List Value) (σ : ZHp) (n k w : Nat) : Z (f + 1) 78 L st σ n k w = s_callV E d mc ms 4 MX5_size 0 81 L st σ n k w (zk1 cut G (Z f)) G R T := zrs hZ rfl f L st σ n k w
theorem f_X2_known_81 (hZ : ZRN (ztb (tb_X2_known E d mc ms)) cut G R T Z) (f : Nat) (L : ZLV) (st : List Value) (σ : ZHp) (n k w : Nat) : Z (f + 1) 81 L st σ n k w = s_ireturn L st σ n k w (zk1 cut G (Z f)) G R T := zrs hZ rfl f L st σ n k w
theorem f_X2_known_82 (hZ : ZRN (ztb (tb_X2_known E d mc ms)) cut G R T Z) (f : Nat) (L : ZLV) (st : List Value) (σ : ZHp) (n k w : Nat) : Z (f + 1) 82 L st σ n k w = s_aload 0 83 L st σ n k w (zk1 cut G (Z f)) G R T := zrs hZ rfl f L st σ n k w
theorem f_X2_known_83 (hZ : ZRN (ztb (tb_X2_known E d mc ms)) cut G R T Z) (f : Nat) (L : ZLV) (st : List Value) (σ : ZHp) (n k w : Nat) : Z (f + 1) 83 L st σ n k w = s_getf 1 4 86 L st σ n k w (zk1 cut G (Z f)) G R T := zrs hZ rfl f L st σ n k w
theorem f_X2_known_86 (hZ : ZRN (ztb (tb_X2_known E d mc ms)) cut G R T Z) (f : Nat) (L : ZLV) (st : List Value) (σ : ZHp) (n k w : Nat) : Z (f + 1) 86 L st σ n k w = s_getf 10 6 89 L st σ n k w (zk1 cut G (Z f)) G R T := zrs hZ rfl f L st σ n k w
theorem f_X2_known_89 (hZ : ZRN (ztb (tb_X2_known E d mc ms)) cut G R T Z) (f : Nat) (L : ZLV) (st : List Value) (σ : ZHp) (n k w : Nat) : Z (f + 1) 89 L st σ n k w = s_ireturn L st σ n k w (zk1 cut G (Z f)) G R T := zrs hZ rfl f L st σ n k w
theorem f_X2_known_90 (hZ : ZRN (ztb (tb_X2_known E d mc ms)) cut G R T Z) (f : Nat) (L : ZLV) (st : List Value) (σ : ZHp) (n k w : Nat) : Z (f + 1) 90 L st σ n k w = s_aload 0 91 L st σ n k w (zk1 cut G (Z f)) G R T := zrs hZ rfl f L st σ n k w
theorem f_X2_known_91 (hZ : ZRN (ztb (tb_X2_known E d mc ms)) cut G R T Z) (f : Nat) (L : ZLV) (st : List Value) (σ : ZHp) (n k w : Nat) : Z (f + 1) 91 L st σ n k w = s_getf 1 2 94 L st σ n k w (zk1 cut G (Z f)) G R T := zrs hZ rfl f L st σ n k w
theorem f_X2_known_94 (hZ : ZRN (ztb (tb_X2_known E d mc ms)) cut G R T Z) (f : Nat) (L : ZLV) (st : List Value) (σ : ZHp) (n k w : Nat) : Z (f + 1) 94 L st σ n k w = s_iload 2 95 L st σ n k w (zk1 cut G (Z f)) G R T := zrs hZ rfl f L st σ n k w
theorem f_X2_known_95 (hZ : ZRN (ztb (tb_X2_known E d mc ms)) cut G R T Z) (f : Nat) (L : ZLV) (st : List Value) (σ : ZHp) (n k w : Nat) : Z (f + 1) 95 L st σ n k w = s_callV E d mc ms 4 MX5_get 1 98 L st σ n k w (zk1 cut G (Z f)) G R T := zrs hZ rfl f L st σ n k w
theorem f_X2_known_98 (hZ : ZRN (ztb (tb_X2_known E d mc ms)) cut G R T Z) (f : Nat) (L : ZLV) (st : List Value) (σ : ZHp) (n k w : Nat) : Z (f + 1) 98 L st σ n k w = s_ireturn L st σ n k w (zk1 cut G (Z f)) G R T := zrs hZ rfl f L st σ n k w
theorem f_X2_known_99 (hZ : ZRN (ztb (tb_X2_known E d mc ms)) cut G R T Z) (f : Nat) (L : ZLV) (st : List Value) (σ : ZHp) (n k w : Nat) : Z (f + 1) 99 L st σ n k w = s_aload 0 100 L st σ n k w (zk1 cut G (Z f)) G R T := zrs hZ rfl f L st σ n k w
theorem f_X2_known_100 (hZ : ZRN (ztb (tb_X2_known E d mc ms)) cut G R T Z) (f : Nat) (L : ZLV) (st : List Value) (σ : ZHp) (n k w : Nat) : Z (f + 1) 100 L st σ n k w = s_getf 1 4 103 L st σ n k w (zk1 cut G (Z f)) G R T := zrs hZ rfl f L st σ n k w
theorem f_X2_known_103 (hZ : ZRN (ztb (tb_X2_known E d mc ms)) cut G R T Z) (f : Nat) (L : ZLV) (st : List Value) (σ : ZHp) (n k w : Nat) : Z (f + 1) 103 L st σ n k w = s_getf 10 2 106 L st σ n k w (zk1 cut G (Z f)) G R T := zrs hZ rfl f L st σ n k w
theorem f_X2_known_106 (hZ : ZRN (ztb (tb_X2_known E d mc ms)) cut G R T Z) (f : Nat) (L : ZLV) (st : List Value) (σ : ZHp) (n k w : Nat) : Z (f + 1) 106 L st σ n k w = s_iload 2 107 L st σ n k w (zk1 cut G (Z f)) G R T := zrs hZ rfl f L st σ n k w
theorem f_X2_known_107 (hZ : ZRN (ztb (tb_X2_known E d mc ms)) cut G R T Z) (f : Nat) (L : ZLV) (st : List Value) (σ : ZHp) (n k w : Nat) : Z (f + 1) 107 L st σ n k w = s_callV E d mc ms 4 MX5_get 1 110 L st σ n k w (zk1 cut G (Z f)) G R T := zrs hZ rfl f L st σ n k w
theorem f_X2_known_110 (hZ : ZRN (ztb (tb_X2_known E d mc ms)) cut G R T Z) (f : Nat) (L : ZLV) (st : List Value) (σ : ZHp) (n k w : Nat) : Z (f + 1) 110 L st σ n k w = s_ireturn L st σ n k w (zk1 cut G (Z f)) G R T := zrs hZ rfl f L st σ n k w
theorem f_X2_known_111 (hZ : ZRN (ztb (tb_X2_known E d mc ms)) cut G R T Z) (f : Nat) (L : ZLV) (st : List Value) (σ : ZHp) (n k w : Nat) : Z (f + 1) 111 L st σ n k w = s_aload 0 112 L st σ n k w (zk1 cut G (Z f)) G R T := zrs hZ rfl f L st σ n k w
theorem f_X2_known_112 (hZ : ZRN (ztb (tb_X2_known E d mc ms)) cut G R T Z) (f : Nat) (L : ZLV) (st : List Value) (σ : ZHp) (n k w : Nat) : Z (f + 1) 112 L st σ n k w = s_getf 1 0 115 L st σ n k w (zk1 cut G (Z f)) G R T := zrs hZ rfl f L st σ n k w
theorem f_X2_known_115 (hZ : ZRN (ztb (tb_X2_known E d mc ms)) cut G R T Z) (f : Nat) (L : ZLV) (st : List Value) (σ : ZHp) (n k w : Nat) : Z (f + 1) 115 L st σ n k w = s_getf 3 0 118 L st σ n k w (zk1 cut G (Z f)) G R T := zrs hZ rfl f L st σ n k w
theorem f_X2_known_118 (hZ : ZRN (ztb (tb_X2_known E d mc ms)) cut G R T Z) (f : Nat) (L : ZLV) (st : List Value) (σ : ZHp) (n k w : Nat) : Z (f + 1) 118 L st σ n k w = s_iload 2 119 L st σ n k w (zk1 cut G (Z f)) G R T := zrs hZ rfl f L st σ n k w
theorem f_X2_known_119 (hZ : ZRN (ztb (tb_X2_known E d mc ms)) cut G R T Z) (f : Nat) (L : ZLV) (st : List Value) (σ : ZHp) (n k w : Nat) : Z (f + 1) 119 L st σ n k w = s_callV E d mc ms 4 MX5_get 1 122 L st σ n k w (zk1 cut G (Z f)) G R T := zrs hZ rfl f L st σ n k w
theorem f_X2_known_122 (hZ : ZRN (ztb (tb_X2_known E d mc ms)) cut G R T Z) (f : Nat) (L : ZLV) (st : List Value) (σ : ZHp) (n k w : Nat) : Z (f + 1) 122 L st σ n k w = s_ireturn L st σ n k w (zk1 cut G (Z f)) G R T := zrs hZ rfl f L st σ n k w
theorem f_X2_known_123 (hZ : ZRN (ztb (tb_X2_known E d mc ms)) cut G R T Z) (f : Nat) (L : ZLV) (st : List Value) (σ : ZHp) (n k w : Nat) : Z (f + 1) 123 L st σ n k w = s_iload 2 124 L st σ n k w (zk1 cut G (Z f)) G R T := zrs hZ rfl f L st σ n k w
theorem f_X2_known_124 (hZ : ZRN (ztb (tb_X2_known E d mc ms)) cut G R T Z) (f : Nat) (L : ZLV) (st : List Value) (σ : ZHp) (n k w : Nat) : Z (f + 1) 124 L st σ n k w = s_ireturn L st σ n k w (zk1 cut G (Z f)) G R T := zrs hZ rfl f L st σ n k w
theorem f_X2_isJoining_0 (hZ : ZRN (ztb (tb_X2_isJoining E d mc ms)) cut G R T Z) (f : Nat) (L : ZLV) (st : List Value) (σ : ZHp) (n k w : Nat) : Z (f + 1) 0 L st σ n k w = s_const (.ref (zeK E 47)) 3 L st σ n k w (zk1 cut G (Z f)) G R T := zrs hZ rfl f L st σ n k w
theorem f_X2_isJoining_3 (hZ : ZRN (ztb (tb_X2_isJoining E d mc ms)) cut G R T Z) (f : Nat) (L : ZLV) (st : List Value) (σ : ZHp) (n k w : Nat) : Z (f + 1) 3 L st σ n k w = s_aload 0 4 L st σ n k w (zk1 cut G (Z f)) G R T := zrs hZ rfl f L st σ n k w
theorem f_X2_isJoining_4 (hZ : ZRN (ztb (tb_X2_isJoining E d mc ms)) cut G R T Z) (f : Nat) (L : ZLV) (st : List Value) (σ : ZHp) (n k w : Nat) : Z (f + 1) 4 L st σ n k w = s_callK E d mc ms 0 46 MJx29ce0_ordinal_8abf5 0 7 L st σ n k w (zk1 cut G (Z f)) G R T := zrs hZ rfl f L st σ n k w
theorem f_X2_isJoining_7 (hZ : ZRN (ztb (tb_X2_isJoining E d mc ms)) cut G R T Z) (f : Nat) (L : ZLV) (st : List Value) (σ : ZHp) (n k w : Nat) : Z (f + 1) 7 L st σ n k w = s_ialdK E 8 L st σ n k w (zk1 cut G (Z f)) G R T := zrs hZ rfl f L st σ n k w
theorem f_X2_isJoining_8 (hZ : ZRN (ztb (tb_X2_isJoining E d mc ms)) cut G R T Z) (f : Nat) (L : ZLV) (st : List Value) (σ : ZHp) (n k w : Nat) : Z (f + 1) 8 L st σ n k w = s_tsw 9 [60, 60, 60, 60, 60, 60, 60, 60, 60] 62 L st σ n k w (zk1 cut G (Z f)) G R T := zrs hZ rfl f L st σ n k w
theorem f_X2_isJoining_60 (hZ : ZRN (ztb (tb_X2_isJoining E d mc ms)) cut G R T Z) (f : Nat) (L : ZLV) (st : List Value) (σ : ZHp) (n k w : Nat) : Z (f + 1) 60 L st σ n k w = s_const (.int (0)) 61 L st σ n k w (zk1 cut G (Z f)) G R T := zrs hZ rfl f L st σ n k w
theorem f_X2_isJoining_61 (hZ : ZRN (ztb (tb_X2_isJoining E d mc ms)) cut G R T Z) (f : Nat) (L : ZLV) (st : List Value) (σ : ZHp) (n k w : Nat) : Z (f + 1) 61 L st σ n k w = s_zreturn L st σ n k w (zk1 cut G (Z f)) G R T := zrs hZ rfl f L st σ n k w
theorem f_X2_isJoining_62 (hZ : ZRN (ztb (tb_X2_isJoining E d mc ms)) cut G R T Z) (f : Nat) (L : ZLV) (st : List Value) (σ : ZHp) (n k w : Nat) : Z (f + 1) 62 L st σ n k w = s_const (.int (1)) 63 L st σ n k w (zk1 cut G (Z f)) G R T := zrs hZ rfl f L st σ n k w
theorem f_X2_isJoining_63 (hZ : ZRN (ztb (tb_X2_isJoining E d mc ms)) cut G R T Z) (f : Nat) (L : ZLV) (st : List Value) (σ : ZHp) (n k w : Nat) : Z (f + 1) 63 L st σ n k w = s_zreturn L st σ n k w (zk1 cut G (Z f)) G R T := zrs hZ rfl f L st σ n k w
theorem f_X2_joined_0 (hZ : ZRN (ztb (tb_X2_joined E d mc ms)) cut G R T Z) (f : Nat) (L : ZLV) (st : List Value) (σ : ZHp) (n k w : Nat) : Z (f + 1) 0 L st σ n k w = s_const (.ref (zeK E 47)) 3 L st σ n k w (zk1 cut G (Z f)) G R T := zrs hZ rfl f L st σ n k w
theorem f_X2_joined_3 (hZ : ZRN (ztb (tb_X2_joined E d mc ms)) cut G R T Z) (f : Nat) (L : ZLV) (st : List Value) (σ : ZHp) (n k w : Nat) : Z (f + 1) 3 L st σ n k w = s_aload 0 4 L st σ n k w (zk1 cut G (Z f)) G R T := zrs hZ rfl f L st σ n k w
theorem f_X2_joined_4 (hZ : ZRN (ztb (tb_X2_joined E d mc ms)) cut G R T Z) (f : Nat) (L : ZLV) (st : List Value) (σ : ZHp) (n k w : Nat) : Z (f + 1) 4 L st σ n k w = s_callK E d mc ms 0 46 MJx29ce0_ordinal_8abf5 0 7 L st σ n k w (zk1 cut G (Z f)) G R T := zrs hZ rfl f L st σ n k w
theorem f_X2_joined_7 (hZ : ZRN (ztb (tb_X2_joined E d mc ms)) cut G R T Z) (f : Nat) (L : ZLV) (st : List Value) (σ : ZHp) (n k w : Nat) : Z (f + 1) 7 L st σ n k w = s_ialdK E 8 L st σ n k w (zk1 cut G (Z f)) G R T := zrs hZ rfl f L st σ n k w
theorem f_X2_joined_8 (hZ : ZRN (ztb (tb_X2_joined E d mc ms)) cut G R T Z) (f : Nat) (L : ZLV) (st : List Value) (σ : ZHp) (n k w : Nat) : Z (f + 1) 8 L st σ n k w = s_tsw 18 [108, 114, 88, 183, 183, 84, 92, 96, 120, 131, 142, 153, 164, 175, 179] 183 L st σ n k w (zk1 cut G (Z f)) G R T := zrs hZ rfl f L st σ n k w
theorem f_X2_joined_84 (hZ : ZRN (ztb (tb_X2_joined E d mc ms)) cut G R T Z) (f : Nat) (L : ZLV) (st : List Value) (σ : ZHp) (n k w : Nat) : Z (f + 1) 84 L st σ n k w = s_iload 1 85 L st σ n k w (zk1 cut G (Z f)) G R T := zrs hZ rfl f L st σ n k w
theorem f_X2_joined_85 (hZ : ZRN (ztb (tb_X2_joined E d mc ms)) cut G R T Z) (f : Nat) (L : ZLV) (st : List Value) (σ : ZHp) (n k w : Nat) : Z (f + 1) 85 L st σ n k w = s_iload 2 86 L st σ n k w (zk1 cut G (Z f)) G R T := zrs hZ rfl f L st σ n k w
theorem f_X2_joined_86 (hZ : ZRN (ztb (tb_X2_joined E d mc ms)) cut G R T Z) (f : Nat) (L : ZLV) (st : List Value) (σ : ZHp) (n k w : Nat) : Z (f + 1) 86 L st σ n k w = s_iadd 87 L st σ n k w (zk1 cut G (Z f)) G R T := zrs hZ rfl f L st σ n k w
theorem f_X2_joined_87 (hZ : ZRN (ztb (tb_X2_joined E d mc ms)) cut G R T Z) (f : Nat) (L : ZLV) (st : List Value) (σ : ZHp) (n k w : Nat) : Z (f + 1) 87 L st σ n k w = s_ireturn L st σ n k w (zk1 cut G (Z f)) G R T := zrs hZ rfl f L st σ n k w
theorem f_X2_joined_88 (hZ : ZRN (ztb (tb_X2_joined E d mc ms)) cut G R T Z) (f : Nat) (L : ZLV) (st : List Value) (σ : ZHp) (n k w : Nat) : Z (f + 1) 88 L st σ n k w = s_iload 1 89 L st σ n k w (zk1 cut G (Z f)) G R T := zrs hZ rfl f L st σ n k w
theorem f_X2_joined_89 (hZ : ZRN (ztb (tb_X2_joined E d mc ms)) cut G R T Z) (f : Nat) (L : ZLV) (st : List Value) (σ : ZHp) (n k w : Nat) : Z (f + 1) 89 L st σ n k w = s_iload 2 90 L st σ n k w (zk1 cut G (Z f)) G R T := zrs hZ rfl f L st σ n k w
theorem f_X2_joined_90 (hZ : ZRN (ztb (tb_X2_joined E d mc ms)) cut G R T Z) (f : Nat) (L : ZLV) (st : List Value) (σ : ZHp) (n k w : Nat) : Z (f + 1) 90 L st σ n k w = s_isub 91 L st σ n k w (zk1 cut G (Z f)) G R T := zrs hZ rfl f L st σ n k w
theorem f_X2_joined_91 (hZ : ZRN (ztb (tb_X2_joined E d mc ms)) cut G R T Z) (f : Nat) (L : ZLV) (st : List Value) (σ : ZHp) (n k w : Nat) : Z (f + 1) 91 L st σ n k w = s_ireturn L st σ n k w (zk1 cut G (Z f)) G R T := zrs hZ rfl f L st σ n k w
theorem f_X2_joined_92 (hZ : ZRN (ztb (tb_X2_joined E d mc ms)) cut G R T Z) (f : Nat) (L : ZLV) (st : List Value) (σ : ZHp) (n k w : Nat) : Z (f + 1) 92 L st σ n k w = s_iload 1 93 L st σ n k w (zk1 cut G (Z f)) G R T := zrs hZ rfl f L st σ n k w
theorem f_X2_joined_93 (hZ : ZRN (ztb (tb_X2_joined E d mc ms)) cut G R T Z) (f : Nat) (L : ZLV) (st : List Value) (σ : ZHp) (n k w : Nat) : Z (f + 1) 93 L st σ n k w = s_iload 2 94 L st σ n k w (zk1 cut G (Z f)) G R T := zrs hZ rfl f L st σ n k w
theorem f_X2_joined_94 (hZ : ZRN (ztb (tb_X2_joined E d mc ms)) cut G R T Z) (f : Nat) (L : ZLV) (st : List Value) (σ : ZHp) (n k w : Nat) : Z (f + 1) 94 L st σ n k w = s_imul 95 L st σ n k w (zk1 cut G (Z f)) G R T := zrs hZ rfl f L st σ n k w
theorem f_X2_joined_95 (hZ : ZRN (ztb (tb_X2_joined E d mc ms)) cut G R T Z) (f : Nat) (L : ZLV) (st : List Value) (σ : ZHp) (n k w : Nat) : Z (f + 1) 95 L st σ n k w = s_ireturn L st σ n k w (zk1 cut G (Z f)) G R T := zrs hZ rfl f L st σ n k w
theorem f_X2_joined_96 (hZ : ZRN (ztb (tb_X2_joined E d mc ms)) cut G R T Z) (f : Nat) (L : ZLV) (st : List Value) (σ : ZHp) (n k w : Nat) : Z (f + 1) 96 L st σ n k w = s_iload 2 97 L st σ n k w (zk1 cut G (Z f)) G R T := zrs hZ rfl f L st σ n k w
theorem f_X2_joined_97 (hZ : ZRN (ztb (tb_X2_joined E d mc ms)) cut G R T Z) (f : Nat) (L : ZLV) (st : List Value) (σ : ZHp) (n k w : Nat) : Z (f + 1) 97 L st σ n k w = s_if_ne 104 100 L st σ n k w (zk1 cut G (Z f)) G R T := zrs hZ rfl f L st σ n k w
theorem f_X2_joined_100 (hZ : ZRN (ztb (tb_X2_joined E d mc ms)) cut G R T Z) (f : Nat) (L : ZLV) (st : List Value) (σ : ZHp) (n k w : Nat) : Z (f + 1) 100 L st σ n k w = s_const (.int (0)) 101 L st σ n k w (zk1 cut G (Z f)) G R T := zrs hZ rfl f L st σ n k w
theorem f_X2_joined_101 (hZ : ZRN (ztb (tb_X2_joined E d mc ms)) cut G R T Z) (f : Nat) (L : ZLV) (st : List Value) (σ : ZHp) (n k w : Nat) : Z (f + 1) 101 L st σ n k w = s_goto 107 L st σ n k w (zk1 cut G (Z f)) G R T := zrs hZ rfl f L st σ n k w
theorem f_X2_joined_104 (hZ : ZRN (ztb (tb_X2_joined E d mc ms)) cut G R T Z) (f : Nat) (L : ZLV) (st : List Value) (σ : ZHp) (n k w : Nat) : Z (f + 1) 104 L st σ n k w = s_iload 1 105 L st σ n k w (zk1 cut G (Z f)) G R T := zrs hZ rfl f L st σ n k w
theorem f_X2_joined_105 (hZ : ZRN (ztb (tb_X2_joined E d mc ms)) cut G R T Z) (f : Nat) (L : ZLV) (st : List Value) (σ : ZHp) (n k w : Nat) : Z (f + 1) 105 L st σ n k w = s_iload 2 106 L st σ n k w (zk1 cut G (Z f)) G R T := zrs hZ rfl f L st σ n k w
theorem f_X2_joined_106 (hZ : ZRN (ztb (tb_X2_joined E d mc ms)) cut G R T Z) (f : Nat) (L : ZLV) (st : List Value) (σ : ZHp) (n k w : Nat) : Z (f + 1) 106 L st σ n k w = s_idiv 107 L st σ n k w (zk1 cut G (Z f)) G R T := zrs hZ rfl f L st σ n k w
theorem f_X2_joined_107 (hZ : ZRN (ztb (tb_X2_joined E d mc ms)) cut G R T Z) (f : Nat) (L : ZLV) (st : List Value) (σ : ZHp) (n k w : Nat) : Z (f + 1) 107 L st σ n k w = s_ireturn L st σ n k w (zk1 cut G (Z f)) G R T := zrs hZ rfl f L st σ n k w
theorem f_X2_joined_108 (hZ : ZRN (ztb (tb_X2_joined E d mc ms)) cut G R T Z) (f : Nat) (L : ZLV) (st : List Value) (σ : ZHp) (n k w : Nat) : Z (f + 1) 108 L st σ n k w = s_iload 1 109 L st σ n k w (zk1 cut G (Z f)) G R T := zrs hZ rfl f L st σ n k w
theorem f_X2_joined_109 (hZ : ZRN (ztb (tb_X2_joined E d mc ms)) cut G R T Z) (f : Nat) (L : ZLV) (st : List Value) (σ : ZHp) (n k w : Nat) : Z (f + 1) 109 L st σ n k w = s_iload 2 110 L st σ n k w (zk1 cut G (Z f)) G R T := zrs hZ rfl f L st σ n k w
theorem f_X2_joined_110 (hZ : ZRN (ztb (tb_X2_joined E d mc ms)) cut G R T Z) (f : Nat) (L : ZLV) (st : List Value) (σ : ZHp) (n k w : Nat) : Z (f + 1) 110 L st σ n k w = s_mmin d mc ms 113 L st σ n k w (zk1 cut G (Z f)) G R T := zrs hZ rfl f L st σ n k w
theorem f_X2_joined_113 (hZ : ZRN (ztb (tb_X2_joined E d mc ms)) cut G R T Z) (f : Nat) (L : ZLV) (st : List Value) (σ : ZHp) (n k w : Nat) : Z (f + 1) 113 L st σ n k w = s_ireturn L st σ n k w (zk1 cut G (Z f)) G R T := zrs hZ rfl f L st σ n k w
theorem f_X2_joined_114 (hZ : ZRN (ztb (tb_X2_joined E d mc ms)) cut G R T Z) (f : Nat) (L : ZLV) (st : List Value) (σ : ZHp) (n k w : Nat) : Z (f + 1) 114 L st σ n k w = s_iload 1 115 L st σ n k w (zk1 cut G (Z f)) G R T := zrs hZ rfl f L st σ n k w
theorem f_X2_joined_115 (hZ : ZRN (ztb (tb_X2_joined E d mc ms)) cut G R T Z) (f : Nat) (L : ZLV) (st : List Value) (σ : ZHp) (n k w : Nat) : Z (f + 1) 115 L st σ n k w = s_iload 2 116 L st σ n k w (zk1 cut G (Z f)) G R T := zrs hZ rfl f L st σ n k w
theorem f_X2_joined_116 (hZ : ZRN (ztb (tb_X2_joined E d mc ms)) cut G R T Z) (f : Nat) (L : ZLV) (st : List Value) (σ : ZHp) (n k w : Nat) : Z (f + 1) 116 L st σ n k w = s_mmax d mc ms 119 L st σ n k w (zk1 cut G (Z f)) G R T := zrs hZ rfl f L st σ n k w
theorem f_X2_joined_119 (hZ : ZRN (ztb (tb_X2_joined E d mc ms)) cut G R T Z) (f : Nat) (L : ZLV) (st : List Value) (σ : ZHp) (n k w : Nat) : Z (f + 1) 119 L st σ n k w = s_ireturn L st σ n k w (zk1 cut G (Z f)) G R T := zrs hZ rfl f L st σ n k w
theorem f_X2_joined_120 (hZ : ZRN (ztb (tb_X2_joined E d mc ms)) cut G R T Z) (f : Nat) (L : ZLV) (st : List Value) (σ : ZHp) (n k w : Nat) : Z (f + 1) 120 L st σ n k w = s_iload 1 121 L st σ n k w (zk1 cut G (Z f)) G R T := zrs hZ rfl f L st σ n k w
theorem f_X2_joined_121 (hZ : ZRN (ztb (tb_X2_joined E d mc ms)) cut G R T Z) (f : Nat) (L : ZLV) (st : List Value) (σ : ZHp) (n k w : Nat) : Z (f + 1) 121 L st σ n k w = s_iload 2 122 L st σ n k w (zk1 cut G (Z f)) G R T := zrs hZ rfl f L st σ n k w
theorem f_X2_joined_122 (hZ : ZRN (ztb (tb_X2_joined E d mc ms)) cut G R T Z) (f : Nat) (L : ZLV) (st : List Value) (σ : ZHp) (n k w : Nat) : Z (f + 1) 122 L st σ n k w = s_icmp_ge 129 125 L st σ n k w (zk1 cut G (Z f)) G R T := zrs hZ rfl f L st σ n k w
theorem f_X2_joined_125 (hZ : ZRN (ztb (tb_X2_joined E d mc ms)) cut G R T Z) (f : Nat) (L : ZLV) (st : List Value) (σ : ZHp) (n k w : Nat) : Z (f + 1) 125 L st σ n k w = s_const (.int (1)) 126 L st σ n k w (zk1 cut G (Z f)) G R T := zrs hZ rfl f L st σ n k w
theorem f_X2_joined_126 (hZ : ZRN (ztb (tb_X2_joined E d mc ms)) cut G R T Z) (f : Nat) (L : ZLV) (st : List Value) (σ : ZHp) (n k w : Nat) : Z (f + 1) 126 L st σ n k w = s_goto 130 L st σ n k w (zk1 cut G (Z f)) G R T := zrs hZ rfl f L st σ n k w
theorem f_X2_joined_129 (hZ : ZRN (ztb (tb_X2_joined E d mc ms)) cut G R T Z) (f : Nat) (L : ZLV) (st : List Value) (σ : ZHp) (n k w : Nat) : Z (f + 1) 129 L st σ n k w = s_const (.int (0)) 130 L st σ n k w (zk1 cut G (Z f)) G R T := zrs hZ rfl f L st σ n k w
theorem f_X2_joined_130 (hZ : ZRN (ztb (tb_X2_joined E d mc ms)) cut G R T Z) (f : Nat) (L : ZLV) (st : List Value) (σ : ZHp) (n k w : Nat) : Z (f + 1) 130 L st σ n k w = s_ireturn L st σ n k w (zk1 cut G (Z f)) G R T := zrs hZ rfl f L st σ n k w
theorem f_X2_joined_131 (hZ : ZRN (ztb (tb_X2_joined E d mc ms)) cut G R T Z) (f : Nat) (L : ZLV) (st : List Value) (σ : ZHp) (n k w : Nat) : Z (f + 1) 131 L st σ n k w = s_iload 1 132 L st σ n k w (zk1 cut G (Z f)) G R T := zrs hZ rfl f L st σ n k w
theorem f_X2_joined_132 (hZ : ZRN (ztb (tb_X2_joined E d mc ms)) cut G R T Z) (f : Nat) (L : ZLV) (st : List Value) (σ : ZHp) (n k w : Nat) : Z (f + 1) 132 L st σ n k w = s_iload 2 133 L st σ n k w (zk1 cut G (Z f)) G R T := zrs hZ rfl f L st σ n k w
theorem f_X2_joined_133 (hZ : ZRN (ztb (tb_X2_joined E d mc ms)) cut G R T Z) (f : Nat) (L : ZLV) (st : List Value) (σ : ZHp) (n k w : Nat) : Z (f + 1) 133 L st σ n k w = s_icmp_le 140 136 L st σ n k w (zk1 cut G (Z f)) G R T := zrs hZ rfl f L st σ n k w
theorem f_X2_joined_136 (hZ : ZRN (ztb (tb_X2_joined E d mc ms)) cut G R T Z) (f : Nat) (L : ZLV) (st : List Value) (σ : ZHp) (n k w : Nat) : Z (f + 1) 136 L st σ n k w = s_const (.int (1)) 137 L st σ n k w (zk1 cut G (Z f)) G R T := zrs hZ rfl f L st σ n k w
theorem f_X2_joined_137 (hZ : ZRN (ztb (tb_X2_joined E d mc ms)) cut G R T Z) (f : Nat) (L : ZLV) (st : List Value) (σ : ZHp) (n k w : Nat) : Z (f + 1) 137 L st σ n k w = s_goto 141 L st σ n k w (zk1 cut G (Z f)) G R T := zrs hZ rfl f L st σ n k w
theorem f_X2_joined_140 (hZ : ZRN (ztb (tb_X2_joined E d mc ms)) cut G R T Z) (f : Nat) (L : ZLV) (st : List Value) (σ : ZHp) (n k w : Nat) : Z (f + 1) 140 L st σ n k w = s_const (.int (0)) 141 L st σ n k w (zk1 cut G (Z f)) G R T := zrs hZ rfl f L st σ n k w
theorem f_X2_joined_141 (hZ : ZRN (ztb (tb_X2_joined E d mc ms)) cut G R T Z) (f : Nat) (L : ZLV) (st : List Value) (σ : ZHp) (n k w : Nat) : Z (f + 1) 141 L st σ n k w = s_ireturn L st σ n k w (zk1 cut G (Z f)) G R T := zrs hZ rfl f L st σ n k w
theorem f_X2_joined_142 (hZ : ZRN (ztb (tb_X2_joined E d mc ms)) cut G R T Z) (f : Nat) (L : ZLV) (st : List Value) (σ : ZHp) (n k w : Nat) : Z (f + 1) 142 L st σ n k w = s_iload 1 143 L st σ n k w (zk1 cut G (Z f)) G R T := zrs hZ rfl f L st σ n k w
theorem f_X2_joined_143 (hZ : ZRN (ztb (tb_X2_joined E d mc ms)) cut G R T Z) (f : Nat) (L : ZLV) (st : List Value) (σ : ZHp) (n k w : Nat) : Z (f + 1) 143 L st σ n k w = s_iload 2 144 L st σ n k w (zk1 cut G (Z f)) G R T := zrs hZ rfl f L st σ n k w
theorem f_X2_joined_144 (hZ : ZRN (ztb (tb_X2_joined E d mc ms)) cut G R T Z) (f : Nat) (L : ZLV) (st : List Value) (σ : ZHp) (n k w : Nat) : Z (f + 1) 144 L st σ n k w = s_icmp_ne 151 147 L st σ n k w (zk1 cut G (Z f)) G R T := zrs hZ rfl f L st σ n k w
theorem f_X2_joined_147 (hZ : ZRN (ztb (tb_X2_joined E d mc ms)) cut G R T Z) (f : Nat) (L : ZLV) (st : List Value) (σ : ZHp) (n k w : Nat) : Z (f + 1) 147 L st σ n k w = s_const (.int (1)) 148 L st σ n k w (zk1 cut G (Z f)) G R T := zrs hZ rfl f L st σ n k w
theorem f_X2_joined_148 (hZ : ZRN (ztb (tb_X2_joined E d mc ms)) cut G R T Z) (f : Nat) (L : ZLV) (st : List Value) (σ : ZHp) (n k w : Nat) : Z (f + 1) 148 L st σ n k w = s_goto 152 L st σ n k w (zk1 cut G (Z f)) G R T := zrs hZ rfl f L st σ n k w
theorem f_X2_joined_151 (hZ : ZRN (ztb (tb_X2_joined E d mc ms)) cut G R T Z) (f : Nat) (L : ZLV) (st : List Value) (σ : ZHp) (n k w : Nat) : Z (f + 1) 151 L st σ n k w = s_const (.int (0)) 152 L st σ n k w (zk1 cut G (Z f)) G R T := zrs hZ rfl f L st σ n k w
theorem f_X2_joined_152 (hZ : ZRN (ztb (tb_X2_joined E d mc ms)) cut G R T Z) (f : Nat) (L : ZLV) (st : List Value) (σ : ZHp) (n k w : Nat) : Z (f + 1) 152 L st σ n k w = s_ireturn L st σ n k w (zk1 cut G (Z f)) G R T := zrs hZ rfl f L st σ n k w
theorem f_X2_joined_153 (hZ : ZRN (ztb (tb_X2_joined E d mc ms)) cut G R T Z) (f : Nat) (L : ZLV) (st : List Value) (σ : ZHp) (n k w : Nat) : Z (f + 1) 153 L st σ n k w = s_iload 1 154 L st σ n k w (zk1 cut G (Z f)) G R T := zrs hZ rfl f L st σ n k w
theorem f_X2_joined_154 (hZ : ZRN (ztb (tb_X2_joined E d mc ms)) cut G R T Z) (f : Nat) (L : ZLV) (st : List Value) (σ : ZHp) (n k w : Nat) : Z (f + 1) 154 L st σ n k w = s_iload 2 155 L st σ n k w (zk1 cut G (Z f)) G R T := zrs hZ rfl f L st σ n k w
theorem f_X2_joined_155 (hZ : ZRN (ztb (tb_X2_joined E d mc ms)) cut G R T Z) (f : Nat) (L : ZLV) (st : List Value) (σ : ZHp) (n k w : Nat) : Z (f + 1) 155 L st σ n k w = s_icmp_gt 162 158 L st σ n k w (zk1 cut G (Z f)) G R T := zrs hZ rfl f L st σ n k w
theorem f_X2_joined_158 (hZ : ZRN (ztb (tb_X2_joined E d mc ms)) cut G R T Z) (f : Nat) (L : ZLV) (st : List Value) (σ : ZHp) (n k w : Nat) : Z (f + 1) 158 L st σ n k w = s_const (.int (1)) 159 L st σ n k w (zk1 cut G (Z f)) G R T := zrs hZ rfl f L st σ n k w
theorem f_X2_joined_159 (hZ : ZRN (ztb (tb_X2_joined E d mc ms)) cut G R T Z) (f : Nat) (L : ZLV) (st : List Value) (σ : ZHp) (n k w : Nat) : Z (f + 1) 159 L st σ n k w = s_goto 163 L st σ n k w (zk1 cut G (Z f)) G R T := zrs hZ rfl f L st σ n k w
theorem f_X2_joined_162 (hZ : ZRN (ztb (tb_X2_joined E d mc ms)) cut G R T Z) (f : Nat) (L : ZLV) (st : List Value) (σ : ZHp) (n k w : Nat) : Z (f + 1) 162 L st σ n k w = s_const (.int (0)) 163 L st σ n k w (zk1 cut G (Z f)) G R T := zrs hZ rfl f L st σ n k w
theorem f_X2_joined_163 (hZ : ZRN (ztb (tb_X2_joined E d mc ms)) cut G R T Z) (f : Nat) (L : ZLV) (st : List Value) (σ : ZHp) (n k w : Nat) : Z (f + 1) 163 L st σ n k w = s_ireturn L st σ n k w (zk1 cut G (Z f)) G R T := zrs hZ rfl f L st σ n k w
theorem f_X2_joined_164 (hZ : ZRN (ztb (tb_X2_joined E d mc ms)) cut G R T Z) (f : Nat) (L : ZLV) (st : List Value) (σ : ZHp) (n k w : Nat) : Z (f + 1) 164 L st σ n k w = s_iload 1 165 L st σ n k w (zk1 cut G (Z f)) G R T := zrs hZ rfl f L st σ n k w
theorem f_X2_joined_165 (hZ : ZRN (ztb (tb_X2_joined E d mc ms)) cut G R T Z) (f : Nat) (L : ZLV) (st : List Value) (σ : ZHp) (n k w : Nat) : Z (f + 1) 165 L st σ n k w = s_iload 2 166 L st σ n k w (zk1 cut G (Z f)) G R T := zrs hZ rfl f L st σ n k w
theorem f_X2_joined_166 (hZ : ZRN (ztb (tb_X2_joined E d mc ms)) cut G R T Z) (f : Nat) (L : ZLV) (st : List Value) (σ : ZHp) (n k w : Nat) : Z (f + 1) 166 L st σ n k w = s_icmp_lt 173 169 L st σ n k w (zk1 cut G (Z f)) G R T := zrs hZ rfl f L st σ n k w
theorem f_X2_joined_169 (hZ : ZRN (ztb (tb_X2_joined E d mc ms)) cut G R T Z) (f : Nat) (L : ZLV) (st : List Value) (σ : ZHp) (n k w : Nat) : Z (f + 1) 169 L st σ n k w = s_const (.int (1)) 170 L st σ n k w (zk1 cut G (Z f)) G R T := zrs hZ rfl f L st σ n k w
theorem f_X2_joined_170 (hZ : ZRN (ztb (tb_X2_joined E d mc ms)) cut G R T Z) (f : Nat) (L : ZLV) (st : List Value) (σ : ZHp) (n k w : Nat) : Z (f + 1) 170 L st σ n k w = s_goto 174 L st σ n k w (zk1 cut G (Z f)) G R T := zrs hZ rfl f L st σ n k w
theorem f_X2_joined_173 (hZ : ZRN (ztb (tb_X2_joined E d mc ms)) cut G R T Z) (f : Nat) (L : ZLV) (st : List Value) (σ : ZHp) (n k w : Nat) : Z (f + 1) 173 L st σ n k w = s_const (.int (0)) 174 L st σ n k w (zk1 cut G (Z f)) G R T := zrs hZ rfl f L st σ n k w
theorem f_X2_joined_174 (hZ : ZRN (ztb (tb_X2_joined E d mc ms)) cut G R T Z) (f : Nat) (L : ZLV) (st : List Value) (σ : ZHp) (n k w : Nat) : Z (f + 1) 174 L st σ n k w = s_ireturn L st σ n k w (zk1 cut G (Z f)) G R T := zrs hZ rfl f L st σ n k w
theorem f_X2_joined_175 (hZ : ZRN (ztb (tb_X2_joined E d mc ms)) cut G R T Z) (f : Nat) (L : ZLV) (st : List Value) (σ : ZHp) (n k w : Nat) : Z (f + 1) 175 L st σ n k w = s_iload 1 176 L st σ n k w (zk1 cut G (Z f)) G R T := zrs hZ rfl f L st σ n k w
theorem f_X2_joined_176 (hZ : ZRN (ztb (tb_X2_joined E d mc ms)) cut G R T Z) (f : Nat) (L : ZLV) (st : List Value) (σ : ZHp) (n k w : Nat) : Z (f + 1) 176 L st σ n k w = s_iload 2 177 L st σ n k w (zk1 cut G (Z f)) G R T := zrs hZ rfl f L st σ n k w
theorem f_X2_joined_177 (hZ : ZRN (ztb (tb_X2_joined E d mc ms)) cut G R T Z) (f : Nat) (L : ZLV) (st : List Value) (σ : ZHp) (n k w : Nat) : Z (f + 1) 177 L st σ n k w = s_iand 178 L st σ n k w (zk1 cut G (Z f)) G R T := zrs hZ rfl f L st σ n k w
theorem f_X2_joined_178 (hZ : ZRN (ztb (tb_X2_joined E d mc ms)) cut G R T Z) (f : Nat) (L : ZLV) (st : List Value) (σ : ZHp) (n k w : Nat) : Z (f + 1) 178 L st σ n k w = s_ireturn L st σ n k w (zk1 cut G (Z f)) G R T := zrs hZ rfl f L st σ n k w
theorem f_X2_joined_179 (hZ : ZRN (ztb (tb_X2_joined E d mc ms)) cut G R T Z) (f : Nat) (L : ZLV) (st : List Value) (σ : ZHp) (n k w : Nat) : Z (f + 1) 179 L st σ n k w = s_iload 1 180 L st σ n k w (zk1 cut G (Z f)) G R T := zrs hZ rfl f L st σ n k w
theorem f_X2_joined_180 (hZ : ZRN (ztb (tb_X2_joined E d mc ms)) cut G R T Z) (f : Nat) (L : ZLV) (st : List Value) (σ : ZHp) (n k w : Nat) : Z (f + 1) 180 L st σ n k w = s_iload 2 181 L st σ n k w (zk1 cut G (Z f)) G R T := zrs hZ rfl f L st σ n k w
theorem f_X2_joined_181 (hZ : ZRN (ztb (tb_X2_joined E d mc ms)) cut G R T Z) (f : Nat) (L : ZLV) (st : List Value) (σ : ZHp) (n k w : Nat) : Z (f + 1) 181 L st σ n k w = s_ior 182 L st σ n k w (zk1 cut G (Z f)) G R T := zrs hZ rfl f L st σ n k w
theorem f_X2_joined_182 (hZ : ZRN (ztb (tb_X2_joined E d mc ms)) cut G R T Z) (f : Nat) (L : ZLV) (st : List Value) (σ : ZHp) (n k w : Nat) : Z (f + 1) 182 L st σ n k w = s_ireturn L st σ n k w (zk1 cut G (Z f)) G R T := zrs hZ rfl f L st σ n k w
theorem f_X2_joined_183 (hZ : ZRN (ztb (tb_X2_joined E d mc ms)) cut G R T Z) (f : Nat) (L : ZLV) (st : List Value) (σ : ZHp) (n k w : Nat) : Z (f + 1) 183 L st σ n k w = s_const (.int (0)) 184 L st σ n k w (zk1 cut G (Z f)) G R T := zrs hZ rfl f L st σ n k w
theorem f_X2_joined_184 (hZ : ZRN (ztb (tb_X2_joined E d mc ms)) cut G R T Z) (f : Nat) (L : ZLV) (st : List Value) (σ : ZHp) (n k w : Nat) : Z (f + 1) 184 L st σ n k w = s_ireturn L st σ n k w (zk1 cut G (Z f)) G R T := zrs hZ rfl f L st σ n k w
end
