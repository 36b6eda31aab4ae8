/-! TABLES: what each instruction does, that it does so, and each one by its place (printed by wip/whole/gen/gentab.py) -/
def tb_X4_init (E : ZEX) (d mc ms : Nat) : List (Nat × ZStep) := [(0, s_aload 0 1), (1, s_objinit d 4), (4, s_aload 0 5), (5, s_new 4 2 fsX5 mc ms 8), (8, s_dup 9), (9, s_const (.int (10)) 11), (11, s_callI E d mc ms MX5_init 1 14), (14, s_putf 3 0 3 17), (17, s_aload 0 18), (18, s_new 4 2 fsX5 mc ms 21), (21, s_dup 22), (22, s_const (.int (10)) 24), (24, s_callI E d mc ms MX5_init 1 27), (27, s_putf 3 1 3 30), (30, s_aload 0 31), (31, s_new 4 2 fsX5 mc ms 34), (34, s_dup 35), (35, s_const (.int (10)) 37), (37, s_callI E d mc ms MX5_init 1 40), (40, s_putf 3 2 3 43), (43, s_aload 0 44), (44, s_const (.int (4)) 45), (45, s_anewT E mc ms 48), (48, s_putf 3 3 3 51), (51, s_aload 0 52), (52, s_new 10 10 fsX11 mc ms 55), (55, s_dup 56), (56, s_callI E d mc ms MX11_init 0 59), (59, s_putf 3 4 3 62), (62, s_aload 0 63), (63, s_new 5 15 fsX6 mc ms 66), (66, s_dup 67), (67, s_callI E d mc ms MX6_init 0 70), (70, s_putf 3 5 3 73), (73, s_aload 0 74), (74, s_const (.int (0)) 75), (75, s_putf 3 6 0 78), (78, s_const (.int (0)) 79), (79, s_istore 1 80), (80, s_iload 1 81), (81, s_aload 0 82), (82, s_getf 3 3 85), (85, s_alen E 86), (86, s_icmp_ge 108 89), (89, s_aload 0 90), (90, s_getf 3 3 93), (93, s_iload 1 94), (94, s_new 10 10 fsX11 mc ms 97), (97, s_dup 98), (98, s_callI E d mc ms MX11_init 0 101), (101, s_aastoreT E 102), (102, s_iinc 1 (1) 105), (105, s_goto 80), (108, s_return)]
set_option maxRecDepth 20000 in
theorem ok_X4_init {E : ZEX} {X : ZMX} {d mc ms : Nat} {P : ZPT} {T : ZTT} (h : ZCX E X MX4_init d mc ms P T) : ∀ pc, ZRow E X MX4_init mc ms P T pc (ztb (tb_X4_init E d mc ms) pc) := ztb_ok (by
  unfold tb_X4_init
  refine zfmc (r_aload_n h (pc := 0) (kf := 0) 0 (by decide +kernel) rfl) ?_
  refine zfmc (r_objinit h (pc := 1) (ix := 3) (by decide +kernel) wk_7ff21563f2 wk_ee0d472f0f wk_13171937f3) ?_
  refine zfmc (r_aload_n h (pc := 4) (kf := 0) 0 (by decide +kernel) rfl) ?_
  refine zfmc (r_new h (pc := 5) (ix := 9) (by decide +kernel) ckX5 fsX5 tyX5 tyX5_ok fsX5_ok wk_6cc63321cc wk_17139636bc wk_1cd044b3d8) ?_
  refine zfmc (r_dup h (pc := 8) (by decide +kernel)) ?_
  refine zfmc (r_bipush h (pc := 9) (z := 10) (by decide +kernel) (10) (by decide +kernel)) ?_
  refine zfmc (r_callI h (pc := 11) (ix := 11) (by decide +kernel) 1 mcX5_init wk_ed7131bba4 rfl rfl wk_e2bed930bf) ?_
  refine zfmc (r_putfF h (pc := 14) (ix := 14) (by decide +kernel) ckX4 0 (by decide) 3 (fty := tyX4 0) (tyX4_ok 0 (by decide)) rfl rfl rfl rfl wk_b089cfa250) ?_
  refine zfmc (r_aload_n h (pc := 17) (kf := 0) 0 (by decide +kernel) rfl) ?_
  refine zfmc (r_new h (pc := 18) (ix := 9) (by decide +kernel) ckX5 fsX5 tyX5 tyX5_ok fsX5_ok wk_6cc63321cc wk_17139636bc wk_1cd044b3d8) ?_
  refine zfmc (r_dup h (pc := 21) (by decide +kernel)) ?_
  refine zfmc (r_bipush h (pc := 22) (z := 10) (by decide +kernel) (10) (by decide +kernel)) ?_
  refine zfmc (r_callI h (pc := 24) (ix := 11) (by decide +kernel) 1 mcX5_init wk_ed7131bba4 rfl rfl wk_e2bed930bf) ?_
  refine zfmc (r_putfF h (pc := 27) (ix := 20) (by decide +kernel) ckX4 1 (by decide) 3 (fty := tyX4 1) (tyX4_ok 1 (by decide)) rfl rfl rfl rfl wk_d91f2c5557) ?_
  refine zfmc (r_aload_n h (pc := 30) (kf := 0) 0 (by decide +kernel) rfl) ?_
  refine zfmc (r_new h (pc := 31) (ix := 9) (by decide +kernel) ckX5 fsX5 tyX5 tyX5_ok fsX5_ok wk_6cc63321cc wk_17139636bc wk_1cd044b3d8) ?_
  refine zfmc (r_dup h (pc := 34) (by decide +kernel)) ?_
  refine zfmc (r_bipush h (pc := 35) (z := 10) (by decide +kernel) (10) (by decide +kernel)) ?_
  refine zfmc (r_callI h (pc := 37) (ix := 11) (by decide +kernel) 1 mcX5_init wk_ed7131bba4 rfl rfl wk_e2bed930bf) ?_
  refine zfmc (r_putfF h (pc := 40) (ix := 23) (by decide +kernel) ckX4 2 (by decide) 3 (fty := tyX4 2) (tyX4_ok 2 (by decide)) rfl rfl rfl rfl wk_3c0f3aec5c) ?_
  refine zfmc (r_aload_n h (pc := 43) (kf := 0) 0 (by decide +kernel) rfl) ?_
  refine zfmc (r_iconst h (pc := 44) (z := 4) (by decide +kernel) (4) (by decide +kernel)) ?_
  refine zfmc (r_anewT h (pc := 45) (ix := 26) (by decide +kernel) wk_7ae929d5a8 (zx_aoT h.ok)) ?_
  refine zfmc (r_putfF h (pc := 48) (ix := 28) (by decide +kernel) ckX4 3 (by decide) 3 (fty := tyX4 3) (tyX4_ok 3 (by decide)) rfl rfl rfl rfl wk_09c3af0685) ?_
  refine zfmc (r_aload_n h (pc := 51) (kf := 0) 0 (by decide +kernel) rfl) ?_
  refine zfmc (r_new h (pc := 52) (ix := 26) (by decide +kernel) ckX11 fsX11 tyX11 tyX11_ok fsX11_ok wk_7ae929d5a8 wk_2e9d103838 wk_122ad6e1db) ?_
  refine zfmc (r_dup h (pc := 55) (by decide +kernel)) ?_
  refine zfmc (r_callIN h (pc := 56) (ix := 32) (by decide +kernel) 0 mcX11_init wk_3933aa3219 rfl rfl wk_9f4679facf) ?_
  refine zfmc (r_putfF h (pc := 59) (ix := 33) (by decide +kernel) ckX4 4 (by decide) 3 (fty := tyX4 4) (tyX4_ok 4 (by decide)) rfl rfl rfl rfl wk_95be3d1e70) ?_
  refine zfmc (r_aload_n h (pc := 62) (kf := 0) 0 (by decide +kernel) rfl) ?_
  refine zfmc (r_new h (pc := 63) (ix := 37) (by decide +kernel) ckX6 fsX6 tyX6 tyX6_ok fsX6_ok wk_3c1b341013 wk_1b44a7534a wk_a96b087aca) ?_
  refine zfmc (r_dup h (pc := 66) (by decide +kernel)) ?_
  refine zfmc (r_callIN h (pc := 67) (ix := 39) (by decide +kernel) 0 mcX6_init wk_e1bc6dc3f3 rfl rfl wk_495b24bdb2) ?_
  refine zfmc (r_putf h (pc := 70) (ix := 40) (by decide +kernel) ckX4 5 (by decide) 3 (fty := tyX4 5) (tyX4_ok 5 (by decide)) rfl rfl wk_005fa91519) ?_
  refine zfmc (r_aload_n h (pc := 73) (kf := 0) 0 (by decide +kernel) rfl) ?_
  refine zfmc (r_iconst h (pc := 74) (z := 0) (by decide +kernel) (0) (by decide +kernel)) ?_
  refine zfmc (r_putf h (pc := 75) (ix := 44) (by decide +kernel) ckX4 6 (by decide) 0 (fty := tyX4 6) (tyX4_ok 6 (by decide)) rfl rfl wk_07af886758) ?_
  refine zfmc (r_iconst h (pc := 78) (z := 0) (by decide +kernel) (0) (by decide +kernel)) ?_
  refine zfmc (r_istore_n h (pc := 79) (kf := 1) 1 (by decide +kernel) rfl (by decide +kernel)) ?_
  refine zfmc (r_iload_n h (pc := 80) (kf := 1) 1 (by decide +kernel) rfl) ?_
  refine zfmc (r_aload_n h (pc := 81) (kf := 0) 0 (by decide +kernel) rfl) ?_
  refine zfmc (r_getf h (pc := 82) (ix := 28) (by decide +kernel) ckX4 3 (by decide) wk_09c3af0685) ?_
  refine zfmc (r_alen h (pc := 85) (by decide +kernel)) ?_
  refine zfmc (r_icmp_ge h (pc := 86) (off := 22) (by decide +kernel) 108 (by decide +kernel)) ?_
  refine zfmc (r_aload_n h (pc := 89) (kf := 0) 0 (by decide +kernel) rfl) ?_
  refine zfmc (r_getf h (pc := 90) (ix := 28) (by decide +kernel) ckX4 3 (by decide) wk_09c3af0685) ?_
  refine zfmc (r_iload_n h (pc := 93) (kf := 1) 1 (by decide +kernel) rfl) ?_
  refine zfmc (r_new h (pc := 94) (ix := 26) (by decide +kernel) ckX11 fsX11 tyX11 tyX11_ok fsX11_ok wk_7ae929d5a8 wk_2e9d103838 wk_122ad6e1db) ?_
  refine zfmc (r_dup h (pc := 97) (by decide +kernel)) ?_
  refine zfmc (r_callIN h (pc := 98) (ix := 32) (by decide +kernel) 0 mcX11_init wk_3933aa3219 rfl rfl wk_9f4679facf) ?_
  refine zfmc (r_aastoreT h (pc := 101) (by decide +kernel)) ?_
  refine zfmc (r_iinc h (pc := 102) 1 (z := 1) (by decide +kernel) (1) (by decide +kernel) (by decide +kernel)) ?_
  refine zfmc (r_goto h (pc := 105) (off := -25) (by decide +kernel) 80 (by decide +kernel)) ?_
  refine zfmc (r_return h (pc := 108) (by decide +kernel) rfl) ?_
  exact zfm0)
def tb_X4_begin (E : ZEX) (d mc ms : Nat) : List (Nat × ZStep) := [(0, s_aload 0 1), (1, s_aload 1 2), (2, s_putf 3 5 3 5), (5, s_aload 0 6), (6, s_const (.int (0)) 7), (7, s_putf 3 6 0 10), (10, s_aload 0 11), (11, s_getf 3 0 14), (14, s_aload 1 15), (15, s_getf 5 5 18), (18, s_callV E d mc ms 4 MX5_copy 1 21), (21, s_aload 0 22), (22, s_getf 3 1 25), (25, s_callV E d mc ms 4 MX5_clear 0 28), (28, s_aload 0 29), (29, s_getf 3 2 32), (32, s_callV E d mc ms 4 MX5_clear 0 35), (35, s_const (.int (0)) 36), (36, s_istore 2 37), (37, s_iload 2 38), (38, s_const (.int (4)) 39), (39, s_icmp_ge 61 42), (42, s_aload 0 43), (43, s_iload 2 44), (44, s_callV E d mc ms 3 MX4_trader 1 47), (47, s_iload 2 48), (48, s_aload 1 49), (49, s_getf 5 6 52), (52, s_callV E d mc ms 10 MX11_begin 2 55), (55, s_iinc 2 (1) 58), (58, s_goto 37), (61, s_return)]
set_option maxRecDepth 20000 in
theorem ok_X4_begin {E : ZEX} {X : ZMX} {d mc ms : Nat} {P : ZPT} {T : ZTT} (h : ZCX E X MX4_begin d mc ms P T) : ∀ pc, ZRow E X MX4_begin mc ms P T pc (ztb (tb_X4_begin E d mc ms) pc) := ztb_ok (by
  unfold tb_X4_begin
  refine zfmc (r_aload_n h (pc := 0) (kf := 0) 0 (by decide +kernel) rfl) ?_
  refine zfmc (r_aload_n h (pc := 1) (kf := 1) 1 (by decide +kernel) rfl) ?_
  refine zfmc (r_putf h (pc := 2) (ix := 40) (by decide +kernel) ckX4 5 (by decide) 3 (fty := tyX4 5) (tyX4_ok 5 (by decide)) rfl rfl wk_005fa91519) ?_
  refine zfmc (r_aload_n h (pc := 5) (kf := 0) 0 (by decide +kernel) rfl) ?_
  refine zfmc (r_iconst h (pc := 6) (z := 0) (by decide +kernel) (0) (by decide +kernel)) ?_
  refine zfmc (r_putf h (pc := 7) (ix := 44) (by decide +kernel) ckX4 6 (by decide) 0 (fty := tyX4 6) (tyX4_ok 6 (by decide)) rfl rfl wk_07af886758) ?_
  refine zfmc (r_aload_n h (pc := 10) (kf := 0) 0 (by decide +kernel) rfl) ?_
  refine zfmc (r_getf h (pc := 11) (ix := 14) (by decide +kernel) ckX4 0 (by decide) wk_b089cfa250) ?_
  refine zfmc (r_aload_n h (pc := 14) (kf := 1) 1 (by decide +kernel) rfl) ?_
  refine zfmc (r_getfN h (pc := 15) (ix := 48) (by decide +kernel) ckX6 5 (by decide) wk_4d9b0fd4f3) ?_
  refine zfmc (r_callV h (pc := 18) (ix := 49) (by decide +kernel) ckX5 1 mcX5_copy wk_4b1c1692f4 wk_9c86e26e75 wk_c5fab07008 rfl) ?_
  refine zfmc (r_aload_n h (pc := 21) (kf := 0) 0 (by decide +kernel) rfl) ?_
  refine zfmc (r_getf h (pc := 22) (ix := 20) (by decide +kernel) ckX4 1 (by decide) wk_d91f2c5557) ?_
  refine zfmc (r_callV h (pc := 25) (ix := 53) (by decide +kernel) ckX5 0 mcX5_clear wk_02cca295a9 wk_4c6ddf9347 wk_6ba25339bd rfl) ?_
  refine zfmc (r_aload_n h (pc := 28) (kf := 0) 0 (by decide +kernel) rfl) ?_
  refine zfmc (r_getf h (pc := 29) (ix := 23) (by decide +kernel) ckX4 2 (by decide) wk_3c0f3aec5c) ?_
  refine zfmc (r_callV h (pc := 32) (ix := 53) (by decide +kernel) ckX5 0 mcX5_clear wk_02cca295a9 wk_4c6ddf9347 wk_6ba25339bd rfl) ?_
  refine zfmc (r_iconst h (pc := 35) (z := 0) (by decide +kernel) (0) (by decide +kernel)) ?_
  refine zfmc (r_istore_n h (pc := 36) (kf := 2) 2 (by decide +kernel) rfl (by decide +kernel)) ?_
  refine zfmc (r_iload_n h (pc := 37) (kf := 2) 2 (by decide +kernel) rfl) ?_
  refine zfmc (r_iconst h (pc := 38) (z := 4) (by decide +kernel) (4) (by decide +kernel)) ?_
  refine zfmc (r_icmp_ge h (pc := 39) (off := 22) (by decide +kernel) 61 (by decide +kernel)) ?_
  refine zfmc (r_aload_n h (pc := 42) (kf := 0) 0 (by decide +kernel) rfl) ?_
  refine zfmc (r_iload_n h (pc := 43) (kf := 2) 2 (by decide +kernel) rfl) ?_
  refine zfmc (r_callV h (pc := 44) (ix := 56) (by decide +kernel) ckX4 1 mcX4_trader wk_70b2a8186c wk_c60b4e54bc wk_a79dbba60d rfl) ?_
  refine zfmc (r_iload_n h (pc := 47) (kf := 2) 2 (by decide +kernel) rfl) ?_
  refine zfmc (r_aload_n h (pc := 48) (kf := 1) 1 (by decide +kernel) rfl) ?_
  refine zfmc (r_getfN h (pc := 49) (ix := 60) (by decide +kernel) ckX6 6 (by decide) wk_3f8ec0ad54) ?_
  refine zfmc (r_callV h (pc := 52) (ix := 63) (by decide +kernel) ckX11 2 mcX11_begin wk_0a25269859 wk_b6bca89cf2 wk_430c668172 rfl) ?_
  refine zfmc (r_iinc h (pc := 55) 2 (z := 1) (by decide +kernel) (1) (by decide +kernel) (by decide +kernel)) ?_
  refine zfmc (r_goto h (pc := 58) (off := -21) (by decide +kernel) 37 (by decide +kernel)) ?_
  refine zfmc (r_return h (pc := 61) (by decide +kernel) rfl) ?_
  exact zfm0)
def tb_X4_copy (E : ZEX) (d mc ms : Nat) : List (Nat × ZStep) := [(0, s_aload 0 1), (1, s_aload 1 2), (2, s_getf 3 5 5), (5, s_putf 3 5 3 8), (8, s_aload 0 9), (9, s_aload 1 10), (10, s_getf 3 6 13), (13, s_putf 3 6 0 16), (16, s_aload 0 17), (17, s_getf 3 0 20), (20, s_aload 1 21), (21, s_getf 3 0 24), (24, s_callV E d mc ms 4 MX5_copy 1 27), (27, s_aload 0 28), (28, s_getf 3 1 31), (31, s_aload 1 32), (32, s_getf 3 1 35), (35, s_callV E d mc ms 4 MX5_copy 1 38), (38, s_aload 0 39), (39, s_getf 3 2 42), (42, s_aload 1 43), (43, s_getf 3 2 46), (46, s_callV E d mc ms 4 MX5_copy 1 49), (49, s_const (.int (0)) 50), (50, s_istore 2 51), (51, s_iload 2 52), (52, s_const (.int (4)) 53), (53, s_icmp_ge 75 56), (56, s_aload 0 57), (57, s_iload 2 58), (58, s_callV E d mc ms 3 MX4_trader 1 61), (61, s_aload 1 62), (62, s_iload 2 63), (63, s_callV E d mc ms 3 MX4_trader 1 66), (66, s_callV E d mc ms 10 MX11_copy 1 69), (69, s_iinc 2 (1) 72), (72, s_goto 51), (75, s_return)]
set_option maxRecDepth 20000 in
theorem ok_X4_copy {E : ZEX} {X : ZMX} {d mc ms : Nat} {P : ZPT} {T : ZTT} (h : ZCX E X MX4_copy d mc ms P T) : ∀ pc, ZRow E X MX4_copy mc ms P T pc (ztb (tb_X4_copy E d mc ms) pc) := ztb_ok (by
  unfold tb_X4_copy
  refine zfmc (r_aload_n h (pc := 0) (kf := 0) 0 (by decide +kernel) rfl) ?_
  refine zfmc (r_aload_n h (pc := 1) (kf := 1) 1 (by decide +kernel) rfl) ?_
  refine zfmc (r_getf h (pc := 2) (ix := 40) (by decide +kernel) ckX4 5 (by decide) wk_005fa91519) ?_
  refine zfmc (r_putf h (pc := 5) (ix := 40) (by decide +kernel) ckX4 5 (by decide) 3 (fty := tyX4 5) (tyX4_ok 5 (by decide)) rfl rfl wk_005fa91519) ?_
  refine zfmc (r_aload_n h (pc := 8) (kf := 0) 0 (by decide +kernel) rfl) ?_
  refine zfmc (r_aload_n h (pc := 9) (kf := 1) 1 (by decide +kernel) rfl) ?_
  refine zfmc (r_getf h (pc := 10) (ix := 44) (by decide +kernel) ckX4 6 (by decide) wk_07af886758) ?_
  refine zfmc (r_putf h (pc := 13) (ix := 44) (by decide +kernel) ckX4 6 (by decide) 0 (fty := tyX4 6) (tyX4_ok 6 (by decide)) rfl rfl wk_07af886758) ?_
  refine zfmc (r_aload_n h (pc := 16) (kf := 0) 0 (by decide +kernel) rfl) ?_
  refine zfmc (r_getf h (pc := 17) (ix := 14) (by decide +kernel) ckX4 0 (by decide) wk_b089cfa250) ?_
  refine zfmc (r_aload_n h (pc := 20) (kf := 1) 1 (by decide +kernel) rfl) ?_
  refine zfmc (r_getf h (pc := 21) (ix := 14) (by decide +kernel) ckX4 0 (by decide) wk_b089cfa250) ?_
  refine zfmc (r_callV h (pc := 24) (ix := 49) (by decide +kernel) ckX5 1 mcX5_copy wk_4b1c1692f4 wk_9c86e26e75 wk_c5fab07008 rfl) ?_
  refine zfmc (r_aload_n h (pc := 27) (kf := 0) 0 (by decide +kernel) rfl) ?_
  refine zfmc (r_getf h (pc := 28) (ix := 20) (by decide +kernel) ckX4 1 (by decide) wk_d91f2c5557) ?_
  refine zfmc (r_aload_n h (pc := 31) (kf := 1) 1 (by decide +kernel) rfl) ?_
  refine zfmc (r_getf h (pc := 32) (ix := 20) (by decide +kernel) ckX4 1 (by decide) wk_d91f2c5557) ?_
  refine zfmc (r_callV h (pc := 35) (ix := 49) (by decide +kernel) ckX5 1 mcX5_copy wk_4b1c1692f4 wk_9c86e26e75 wk_c5fab07008 rfl) ?_
  refine zfmc (r_aload_n h (pc := 38) (kf := 0) 0 (by decide +kernel) rfl) ?_
  refine zfmc (r_getf h (pc := 39) (ix := 23) (by decide +kernel) ckX4 2 (by decide) wk_3c0f3aec5c) ?_
  refine zfmc (r_aload_n h (pc := 42) (kf := 1) 1 (by decide +kernel) rfl) ?_
  refine zfmc (r_getf h (pc := 43) (ix := 23) (by decide +kernel) ckX4 2 (by decide) wk_3c0f3aec5c) ?_
  refine zfmc (r_callV h (pc := 46) (ix := 49) (by decide +kernel) ckX5 1 mcX5_copy wk_4b1c1692f4 wk_9c86e26e75 wk_c5fab07008 rfl) ?_
  refine zfmc (r_iconst h (pc := 49) (z := 0) (by decide +kernel) (0) (by decide +kernel)) ?_
  refine zfmc (r_istore_n h (pc := 50) (kf := 2) 2 (by decide +kernel) rfl (by decide +kernel)) ?_
  refine zfmc (r_iload_n h (pc := 51) (kf := 2) 2 (by decide +kernel) rfl) ?_
  refine zfmc (r_iconst h (pc := 52) (z := 4) (by decide +kernel) (4) (by decide +kernel)) ?_
  refine zfmc (r_icmp_ge h (pc := 53) (off := 22) (by decide +kernel) 75 (by decide +kernel)) ?_
  refine zfmc (r_aload_n h (pc := 56) (kf := 0) 0 (by decide +kernel) rfl) ?_
  refine zfmc (r_iload_n h (pc := 57) (kf := 2) 2 (by decide +kernel) rfl) ?_
  refine zfmc (r_callV h (pc := 58) (ix := 56) (by decide +kernel) ckX4 1 mcX4_trader wk_70b2a8186c wk_c60b4e54bc wk_a79dbba60d rfl) ?_
  refine zfmc (r_aload_n h (pc := 61) (kf := 1) 1 (by decide +kernel) rfl) ?_
  refine zfmc (r_iload_n h (pc := 62) (kf := 2) 2 (by decide +kernel) rfl) ?_
  refine zfmc (r_callV h (pc := 63) (ix := 56) (by decide +kernel) ckX4 1 mcX4_trader wk_70b2a8186c wk_c60b4e54bc wk_a79dbba60d rfl) ?_
  refine zfmc (r_callV h (pc := 66) (ix := 67) (by decide +kernel) ckX11 1 mcX11_copy wk_50a56647dd wk_73c550d047 wk_68fd6c6f6b rfl) ?_
  refine zfmc (r_iinc h (pc := 69) 2 (z := 1) (by decide +kernel) (1) (by decide +kernel) (by decide +kernel)) ?_
  refine zfmc (r_goto h (pc := 72) (off := -21) (by decide +kernel) 51 (by decide +kernel)) ?_
  refine zfmc (r_return h (pc := 75) (by decide +kernel) rfl) ?_
  exact zfm0)
def tb_X4_trader (E : ZEX) (d mc ms : Nat) : List (Nat × ZStep) := [(0, s_iload 1 1), (1, s_if_lt 22 4), (4, s_iload 1 5), (5, s_aload 0 6), (6, s_getf 3 3 9), (9, s_alen E 10), (10, s_icmp_ge 22 13), (13, s_aload 0 14), (14, s_getf 3 3 17), (17, s_iload 1 18), (18, s_aaload E 19), (19, s_goto 26), (22, s_aload 0 23), (23, s_getf 3 4 26), (26, s_astore 2 27), (27, s_aload 2 28), (28, s_ifnonnull 38 31), (31, s_aload 0 32), (32, s_getf 3 4 35), (35, s_goto 39), (38, s_aload 2 39), (39, s_areturn)]
set_option maxRecDepth 20000 in
theorem ok_X4_trader {E : ZEX} {X : ZMX} {d mc ms : Nat} {P : ZPT} {T : ZTT} (h : ZCX E X MX4_trader d mc ms P T) : ∀ pc, ZRow E X MX4_trader mc ms P T pc (ztb (tb_X4_trader E d mc ms) pc) := ztb_ok (by
  unfold tb_X4_trader
  refine zfmc (r_iload_n h (pc := 0) (kf := 1) 1 (by decide +kernel) rfl) ?_
  refine zfmc (r_if_lt h (pc := 1) (off := 21) (by decide +kernel) 22 (by decide +kernel)) ?_
  refine zfmc (r_iload_n h (pc := 4) (kf := 1) 1 (by decide +kernel) rfl) ?_
  refine zfmc (r_aload_n h (pc := 5) (kf := 0) 0 (by decide +kernel) rfl) ?_
  refine zfmc (r_getf h (pc := 6) (ix := 28) (by decide +kernel) ckX4 3 (by decide) wk_09c3af0685) ?_
  refine zfmc (r_alen h (pc := 9) (by decide +kernel)) ?_
  refine zfmc (r_icmp_ge h (pc := 10) (off := 12) (by decide +kernel) 22 (by decide +kernel)) ?_
  refine zfmc (r_aload_n h (pc := 13) (kf := 0) 0 (by decide +kernel) rfl) ?_
  refine zfmc (r_getf h (pc := 14) (ix := 28) (by decide +kernel) ckX4 3 (by decide) wk_09c3af0685) ?_
  refine zfmc (r_iload_n h (pc := 17) (kf := 1) 1 (by decide +kernel) rfl) ?_
  refine zfmc (r_aaload h (pc := 18) (by decide +kernel)) ?_
  refine zfmc (r_goto h (pc := 19) (off := 7) (by decide +kernel) 26 (by decide +kernel)) ?_
  refine zfmc (r_aload_n h (pc := 22) (kf := 0) 0 (by decide +kernel) rfl) ?_
  refine zfmc (r_getf h (pc := 23) (ix := 33) (by decide +kernel) ckX4 4 (by decide) wk_95be3d1e70) ?_
  refine zfmc (r_astore_n h (pc := 26) (kf := 2) 2 (by decide +kernel) rfl (by decide +kernel)) ?_
  refine zfmc (r_aload_n h (pc := 27) (kf := 2) 2 (by decide +kernel) rfl) ?_
  refine zfmc (r_ifnonnull h (pc := 28) (off := 10) (by decide +kernel) 38 (by decide +kernel)) ?_
  refine zfmc (r_aload_n h (pc := 31) (kf := 0) 0 (by decide +kernel) rfl) ?_
  refine zfmc (r_getf h (pc := 32) (ix := 33) (by decide +kernel) ckX4 4 (by decide) wk_95be3d1e70) ?_
  refine zfmc (r_goto h (pc := 35) (off := 4) (by decide +kernel) 39 (by decide +kernel)) ?_
  refine zfmc (r_aload_n h (pc := 38) (kf := 2) 2 (by decide +kernel) rfl) ?_
  refine zfmc (r_areturn h (pc := 39) (by decide +kernel) rfl) ?_
  exact zfm0)
def tb_X4_number (E : ZEX) (d mc ms : Nat) : List (Nat × ZStep) := [(0, s_iload 1 1), (1, s_tsw 0 [36, 41, 49, 57, 65] 73), (36, s_aload 0 37), (37, s_getf 3 6 40), (40, s_ireturn), (41, s_aload 0 42), (42, s_getf 3 5 45), (45, s_getf 5 0 48), (48, s_ireturn), (49, s_aload 0 50), (50, s_getf 3 5 53), (53, s_getf 5 1 56), (56, s_ireturn), (57, s_aload 0 58), (58, s_getf 3 5 61), (61, s_getf 5 2 64), (64, s_ireturn), (65, s_aload 0 66), (66, s_getf 3 0 69), (69, s_callV E d mc ms 4 MX5_sum 0 72), (72, s_ireturn), (73, s_aload 0 74), (74, s_iload 1 75), (75, s_callV E d mc ms 3 MX4_numberOfAll 1 78), (78, s_ireturn)]
set_option maxRecDepth 20000 in
theorem ok_X4_number {E : ZEX} {X : ZMX} {d mc ms : Nat} {P : ZPT} {T : ZTT} (h : ZCX E X MX4_number d mc ms P T) : ∀ pc, ZRow E X MX4_number mc ms P T pc (ztb (tb_X4_number E d mc ms) pc) := ztb_ok (by
  unfold tb_X4_number
  refine zfmc (r_iload_n h (pc := 0) (kf := 1) 1 (by decide +kernel) rfl) ?_
  refine zfmc (r_tsw h (pc := 1) (dflt := 72) (lo := 0) (hi := 4) (offs := #[35, 40, 48, 56, 64]) (len := 35) (by decide +kernel) [36, 41, 49, 57, 65] 73 (by decide +kernel) (by decide +kernel) (by decide +kernel)) ?_
  refine zfmc (r_aload_n h (pc := 36) (kf := 0) 0 (by decide +kernel) rfl) ?_
  refine zfmc (r_getf h (pc := 37) (ix := 44) (by decide +kernel) ckX4 6 (by decide) wk_07af886758) ?_
  refine zfmc (r_ireturn h (pc := 40) (by decide +kernel) rfl) ?_
  refine zfmc (r_aload_n h (pc := 41) (kf := 0) 0 (by decide +kernel) rfl) ?_
  refine zfmc (r_getf h (pc := 42) (ix := 40) (by decide +kernel) ckX4 5 (by decide) wk_005fa91519) ?_
  refine zfmc (r_getfN h (pc := 45) (ix := 70) (by decide +kernel) ckX6 0 (by decide) wk_e48b613a2f) ?_
  refine zfmc (r_ireturn h (pc := 48) (by decide +kernel) rfl) ?_
  refine zfmc (r_aload_n h (pc := 49) (kf := 0) 0 (by decide +kernel) rfl) ?_
  refine zfmc (r_getf h (pc := 50) (ix := 40) (by decide +kernel) ckX4 5 (by decide) wk_005fa91519) ?_
  refine zfmc (r_getfN h (pc := 53) (ix := 73) (by decide +kernel) ckX6 1 (by decide) wk_854af9f967) ?_
  refine zfmc (r_ireturn h (pc := 56) (by decide +kernel) rfl) ?_
  refine zfmc (r_aload_n h (pc := 57) (kf := 0) 0 (by decide +kernel) rfl) ?_
  refine zfmc (r_getf h (pc := 58) (ix := 40) (by decide +kernel) ckX4 5 (by decide) wk_005fa91519) ?_
  refine zfmc (r_getfN h (pc := 61) (ix := 76) (by decide +kernel) ckX6 2 (by decide) wk_51eff18048) ?_
  refine zfmc (r_ireturn h (pc := 64) (by decide +kernel) rfl) ?_
  refine zfmc (r_aload_n h (pc := 65) (kf := 0) 0 (by decide +kernel) rfl) ?_
  refine zfmc (r_getf h (pc := 66) (ix := 14) (by decide +kernel) ckX4 0 (by decide) wk_b089cfa250) ?_
  refine zfmc (r_callV h (pc := 69) (ix := 79) (by decide +kernel) ckX5 0 mcX5_sum wk_a2f9425748 wk_3b76e43f7f wk_f1416accce rfl) ?_
  refine zfmc (r_ireturn h (pc := 72) (by decide +kernel) rfl) ?_
  refine zfmc (r_aload_n h (pc := 73) (kf := 0) 0 (by decide +kernel) rfl) ?_
  refine zfmc (r_iload_n h (pc := 74) (kf := 1) 1 (by decide +kernel) rfl) ?_
  refine zfmc (r_callV h (pc := 75) (ix := 83) (by decide +kernel) ckX4 1 mcX4_numberOfAll wk_c960752dfb wk_f7e8922f72 wk_7e80027d83 rfl) ?_
  refine zfmc (r_ireturn h (pc := 78) (by decide +kernel) rfl) ?_
  exact zfm0)
def tb_X4_numberOfAll (E : ZEX) (d mc ms : Nat) : List (Nat × ZStep) := [(0, s_const (.int (0)) 1), (1, s_istore 2 2), (2, s_const (.int (0)) 3), (3, s_istore 3 4), (4, s_iload 3 5), (5, s_aload 0 6), (6, s_getf 3 5 9), (9, s_getf 5 1 12), (12, s_icmp_ge 63 15), (15, s_aload 0 16), (16, s_iload 3 17), (17, s_callV E d mc ms 3 MX4_trader 1 20), (20, s_astore 4 22), (22, s_iload 2 23), (23, s_iload 1 24), (24, s_const (.int (5)) 25), (25, s_icmp_ne 36 28), (28, s_aload 4 30), (30, s_getf 10 4 33), (33, s_goto 55), (36, s_iload 1 37), (37, s_const (.int (6)) 39), (39, s_icmp_ne 50 42), (42, s_aload 4 44), (44, s_getf 10 6 47), (47, s_goto 55), (50, s_aload 4 52), (52, s_getf 10 7 55), (55, s_iadd 56), (56, s_istore 2 57), (57, s_iinc 3 (1) 60), (60, s_goto 4), (63, s_iload 2 64), (64, s_ireturn)]
set_option maxRecDepth 20000 in
theorem ok_X4_numberOfAll {E : ZEX} {X : ZMX} {d mc ms : Nat} {P : ZPT} {T : ZTT} (h : ZCX E X MX4_numberOfAll d mc ms P T) : ∀ pc, ZRow E X MX4_numberOfAll mc ms P T pc (ztb (tb_X4_numberOfAll E d mc ms) pc) := ztb_ok (by
  unfold tb_X4_numberOfAll
  refine zfmc (r_iconst h (pc := 0) (z := 0) (by decide +kernel) (0) (by decide +kernel)) ?_
  refine zfmc (r_istore_n h (pc := 1) (kf := 2) 2 (by decide +kernel) rfl (by decide +kernel)) ?_
  refine zfmc (r_iconst h (pc := 2) (z := 0) (by decide +kernel) (0) (by decide +kernel)) ?_
  refine zfmc (r_istore_n h (pc := 3) (kf := 3) 3 (by decide +kernel) rfl (by decide +kernel)) ?_
  refine zfmc (r_iload_n h (pc := 4) (kf := 3) 3 (by decide +kernel) rfl) ?_
  refine zfmc (r_aload_n h (pc := 5) (kf := 0) 0 (by decide +kernel) rfl) ?_
  refine zfmc (r_getf h (pc := 6) (ix := 40) (by decide +kernel) ckX4 5 (by decide) wk_005fa91519) ?_
  refine zfmc (r_getfN h (pc := 9) (ix := 73) (by decide +kernel) ckX6 1 (by decide) wk_854af9f967) ?_
  refine zfmc (r_icmp_ge h (pc := 12) (off := 51) (by decide +kernel) 63 (by decide +kernel)) ?_
  refine zfmc (r_aload_n h (pc := 15) (kf := 0) 0 (by decide +kernel) rfl) ?_
  refine zfmc (r_iload_n h (pc := 16) (kf := 3) 3 (by decide +kernel) rfl) ?_
  refine zfmc (r_callV h (pc := 17) (ix := 56) (by decide +kernel) ckX4 1 mcX4_trader wk_70b2a8186c wk_c60b4e54bc wk_a79dbba60d rfl) ?_
  refine zfmc (r_astore h (pc := 20) 4 (by decide +kernel) (by decide +kernel)) ?_
  refine zfmc (r_iload_n h (pc := 22) (kf := 2) 2 (by decide +kernel) rfl) ?_
  refine zfmc (r_iload_n h (pc := 23) (kf := 1) 1 (by decide +kernel) rfl) ?_
  refine zfmc (r_iconst h (pc := 24) (z := 5) (by decide +kernel) (5) (by decide +kernel)) ?_
  refine zfmc (r_icmp_ne h (pc := 25) (off := 11) (by decide +kernel) 36 (by decide +kernel)) ?_
  refine zfmc (r_aload h (pc := 28) 4 (by decide +kernel)) ?_
  refine zfmc (r_getfN h (pc := 30) (ix := 87) (by decide +kernel) ckX11 4 (by decide) wk_87cbdce159) ?_
  refine zfmc (r_goto h (pc := 33) (off := 22) (by decide +kernel) 55 (by decide +kernel)) ?_
  refine zfmc (r_iload_n h (pc := 36) (kf := 1) 1 (by decide +kernel) rfl) ?_
  refine zfmc (r_bipush h (pc := 37) (z := 6) (by decide +kernel) (6) (by decide +kernel)) ?_
  refine zfmc (r_icmp_ne h (pc := 39) (off := 11) (by decide +kernel) 50 (by decide +kernel)) ?_
  refine zfmc (r_aload h (pc := 42) 4 (by decide +kernel)) ?_
  refine zfmc (r_getfN h (pc := 44) (ix := 90) (by decide +kernel) ckX11 6 (by decide) wk_5c2b2702b3) ?_
  refine zfmc (r_goto h (pc := 47) (off := 8) (by decide +kernel) 55 (by decide +kernel)) ?_
  refine zfmc (r_aload h (pc := 50) 4 (by decide +kernel)) ?_
  refine zfmc (r_getfN h (pc := 52) (ix := 93) (by decide +kernel) ckX11 7 (by decide) wk_775e0dfd02) ?_
  refine zfmc (r_iadd h (pc := 55) (by decide +kernel)) ?_
  refine zfmc (r_istore_n h (pc := 56) (kf := 2) 2 (by decide +kernel) rfl (by decide +kernel)) ?_
  refine zfmc (r_iinc h (pc := 57) 3 (z := 1) (by decide +kernel) (1) (by decide +kernel) (by decide +kernel)) ?_
  refine zfmc (r_goto h (pc := 60) (off := -56) (by decide +kernel) 4 (by decide +kernel)) ?_
  refine zfmc (r_iload_n h (pc := 63) (kf := 2) 2 (by decide +kernel) rfl) ?_
  refine zfmc (r_ireturn h (pc := 64) (by decide +kernel) rfl) ?_
  exact zfm0)
def tb_X4_cardNumber (E : ZEX) (d mc ms : Nat) : List (Nat × ZStep) := [(0, s_iload 2 1), (1, s_tsw 0 [40, 52, 64, 76, 85, 91] 100), (40, s_aload 0 41), (41, s_getf 3 5 44), (44, s_getf 5 3 47), (47, s_iload 1 48), (48, s_callV E d mc ms 4 MX5_get 1 51), (51, s_ireturn), (52, s_aload 0 53), (53, s_getf 3 5 56), (56, s_getf 5 4 59), (59, s_iload 1 60), (60, s_callV E d mc ms 4 MX5_get 1 63), (63, s_ireturn), (64, s_aload 0 65), (65, s_getf 3 5 68), (68, s_getf 5 7 71), (71, s_iload 1 72), (72, s_callV E d mc ms 4 MX5_get 1 75), (75, s_ireturn), (76, s_aload 0 77), (77, s_getf 3 0 80), (80, s_iload 1 81), (81, s_callV E d mc ms 4 MX5_get 1 84), (84, s_ireturn), (85, s_aload 0 86), (86, s_iload 1 87), (87, s_callV E d mc ms 3 MX4_ownedByAll 1 90), (90, s_ireturn), (91, s_aload 0 92), (92, s_getf 3 1 95), (95, s_iload 1 96), (96, s_callV E d mc ms 4 MX5_get 1 99), (99, s_ireturn), (100, s_aload 0 101), (101, s_getf 3 2 104), (104, s_iload 1 105), (105, s_callV E d mc ms 4 MX5_get 1 108), (108, s_ireturn)]
set_option maxRecDepth 20000 in
theorem ok_X4_cardNumber {E : ZEX} {X : ZMX} {d mc ms : Nat} {P : ZPT} {T : ZTT} (h : ZCX E X MX4_cardNumber d mc ms P T) : ∀ pc, ZRow E X MX4_cardNumber mc ms P T pc (ztb (tb_X4_cardNumber E d mc ms) pc) := ztb_ok (by
  unfold tb_X4_cardNumber
  refine zfmc (r_iload_n h (pc := 0) (kf := 2) 2 (by decide +kernel) rfl) ?_
  refine zfmc (r_tsw h (pc := 1) (dflt := 99) (lo := 0) (hi := 5) (offs := #[39, 51, 63, 75, 84, 90]) (len := 39) (by decide +kernel) [40, 52, 64, 76, 85, 91] 100 (by decide +kernel) (by decide +kernel) (by decide +kernel)) ?_
  refine zfmc (r_aload_n h (pc := 40) (kf := 0) 0 (by decide +kernel) rfl) ?_
  refine zfmc (r_getf h (pc := 41) (ix := 40) (by decide +kernel) ckX4 5 (by decide) wk_005fa91519) ?_
  refine zfmc (r_getfN h (pc := 44) (ix := 95) (by decide +kernel) ckX6 3 (by decide) wk_77d06aa84e) ?_
  refine zfmc (r_iload_n h (pc := 47) (kf := 1) 1 (by decide +kernel) rfl) ?_
  refine zfmc (r_callV h (pc := 48) (ix := 98) (by decide +kernel) ckX5 1 mcX5_get wk_d096485f84 wk_a62daed223 wk_1db6b0b94a rfl) ?_
  refine zfmc (r_ireturn h (pc := 51) (by decide +kernel) rfl) ?_
  refine zfmc (r_aload_n h (pc := 52) (kf := 0) 0 (by decide +kernel) rfl) ?_
  refine zfmc (r_getf h (pc := 53) (ix := 40) (by decide +kernel) ckX4 5 (by decide) wk_005fa91519) ?_
  refine zfmc (r_getfN h (pc := 56) (ix := 101) (by decide +kernel) ckX6 4 (by decide) wk_7dd5ffa479) ?_
  refine zfmc (r_iload_n h (pc := 59) (kf := 1) 1 (by decide +kernel) rfl) ?_
  refine zfmc (r_callV h (pc := 60) (ix := 98) (by decide +kernel) ckX5 1 mcX5_get wk_d096485f84 wk_a62daed223 wk_1db6b0b94a rfl) ?_
  refine zfmc (r_ireturn h (pc := 63) (by decide +kernel) rfl) ?_
  refine zfmc (r_aload_n h (pc := 64) (kf := 0) 0 (by decide +kernel) rfl) ?_
  refine zfmc (r_getf h (pc := 65) (ix := 40) (by decide +kernel) ckX4 5 (by decide) wk_005fa91519) ?_
  refine zfmc (r_getfN h (pc := 68) (ix := 104) (by decide +kernel) ckX6 7 (by decide) wk_23ce489643) ?_
  refine zfmc (r_iload_n h (pc := 71) (kf := 1) 1 (by decide +kernel) rfl) ?_
  refine zfmc (r_callV h (pc := 72) (ix := 98) (by decide +kernel) ckX5 1 mcX5_get wk_d096485f84 wk_a62daed223 wk_1db6b0b94a rfl) ?_
  refine zfmc (r_ireturn h (pc := 75) (by decide +kernel) rfl) ?_
  refine zfmc (r_aload_n h (pc := 76) (kf := 0) 0 (by decide +kernel) rfl) ?_
  refine zfmc (r_getf h (pc := 77) (ix := 14) (by decide +kernel) ckX4 0 (by decide) wk_b089cfa250) ?_
  refine zfmc (r_iload_n h (pc := 80) (kf := 1) 1 (by decide +kernel) rfl) ?_
  refine zfmc (r_callV h (pc := 81) (ix := 98) (by decide +kernel) ckX5 1 mcX5_get wk_d096485f84 wk_a62daed223 wk_1db6b0b94a rfl) ?_
  refine zfmc (r_ireturn h (pc := 84) (by decide +kernel) rfl) ?_
  refine zfmc (r_aload_n h (pc := 85) (kf := 0) 0 (by decide +kernel) rfl) ?_
  refine zfmc (r_iload_n h (pc := 86) (kf := 1) 1 (by decide +kernel) rfl) ?_
  refine zfmc (r_callV h (pc := 87) (ix := 107) (by decide +kernel) ckX4 1 mcX4_ownedByAll wk_30d3a351ca wk_414604cac0 wk_d49b09b284 rfl) ?_
  refine zfmc (r_ireturn h (pc := 90) (by decide +kernel) rfl) ?_
  refine zfmc (r_aload_n h (pc := 91) (kf := 0) 0 (by decide +kernel) rfl) ?_
  refine zfmc (r_getf h (pc := 92) (ix := 20) (by decide +kernel) ckX4 1 (by decide) wk_d91f2c5557) ?_
  refine zfmc (r_iload_n h (pc := 95) (kf := 1) 1 (by decide +kernel) rfl) ?_
  refine zfmc (r_callV h (pc := 96) (ix := 98) (by decide +kernel) ckX5 1 mcX5_get wk_d096485f84 wk_a62daed223 wk_1db6b0b94a rfl) ?_
  refine zfmc (r_ireturn h (pc := 99) (by decide +kernel) rfl) ?_
  refine zfmc (r_aload_n h (pc := 100) (kf := 0) 0 (by decide +kernel) rfl) ?_
  refine zfmc (r_getf h (pc := 101) (ix := 23) (by decide +kernel) ckX4 2 (by decide) wk_3c0f3aec5c) ?_
  refine zfmc (r_iload_n h (pc := 104) (kf := 1) 1 (by decide +kernel) rfl) ?_
  refine zfmc (r_callV h (pc := 105) (ix := 98) (by decide +kernel) ckX5 1 mcX5_get wk_d096485f84 wk_a62daed223 wk_1db6b0b94a rfl) ?_
  refine zfmc (r_ireturn h (pc := 108) (by decide +kernel) rfl) ?_
  exact zfm0)
def tb_X4_ownedByAll (E : ZEX) (d mc ms : Nat) : List (Nat × ZStep) := [(0, s_const (.int (0)) 1), (1, s_istore 2 2), (2, s_const (.int (0)) 3), (3, s_istore 3 4), (4, s_iload 3 5), (5, s_aload 0 6), (6, s_getf 3 5 9), (9, s_getf 5 1 12), (12, s_icmp_ge 36 15), (15, s_iload 2 16), (16, s_aload 0 17), (17, s_iload 3 18), (18, s_callV E d mc ms 3 MX4_trader 1 21), (21, s_getf 10 2 24), (24, s_iload 1 25), (25, s_callV E d mc ms 4 MX5_get 1 28), (28, s_iadd 29), (29, s_istore 2 30), (30, s_iinc 3 (1) 33), (33, s_goto 4), (36, s_iload 2 37), (37, s_ireturn)]
set_option maxRecDepth 20000 in
theorem ok_X4_ownedByAll {E : ZEX} {X : ZMX} {d mc ms : Nat} {P : ZPT} {T : ZTT} (h : ZCX E X MX4_ownedByAll d mc ms P T) : ∀ pc, ZRow E X MX4_ownedByAll mc ms P T pc (ztb (tb_X4_ownedByAll E d mc ms) pc) := ztb_ok (by
  unfold tb_X4_ownedByAll
  refine zfmc (r_iconst h (pc := 0) (z := 0) (by decide +kernel) (0) (by decide +kernel)) ?_
  refine zfmc (r_istore_n h (pc := 1) (kf := 2) 2 (by decide +kernel) rfl (by decide +kernel)) ?_
  refine zfmc (r_iconst h (pc := 2) (z := 0) (by decide +kernel) (0) (by decide +kernel)) ?_
  refine zfmc (r_istore_n h (pc := 3) (kf := 3) 3 (by decide +kernel) rfl (by decide +kernel)) ?_
  refine zfmc (r_iload_n h (pc := 4) (kf := 3) 3 (by decide +kernel) rfl) ?_
  refine zfmc (r_aload_n h (pc := 5) (kf := 0) 0 (by decide +kernel) rfl) ?_
  refine zfmc (r_getf h (pc := 6) (ix := 40) (by decide +kernel) ckX4 5 (by decide) wk_005fa91519) ?_
  refine zfmc (r_getfN h (pc := 9) (ix := 73) (by decide +kernel) ckX6 1 (by decide) wk_854af9f967) ?_
  refine zfmc (r_icmp_ge h (pc := 12) (off := 24) (by decide +kernel) 36 (by decide +kernel)) ?_
  refine zfmc (r_iload_n h (pc := 15) (kf := 2) 2 (by decide +kernel) rfl) ?_
  refine zfmc (r_aload_n h (pc := 16) (kf := 0) 0 (by decide +kernel) rfl) ?_
  refine zfmc (r_iload_n h (pc := 17) (kf := 3) 3 (by decide +kernel) rfl) ?_
  refine zfmc (r_callV h (pc := 18) (ix := 56) (by decide +kernel) ckX4 1 mcX4_trader wk_70b2a8186c wk_c60b4e54bc wk_a79dbba60d rfl) ?_
  refine zfmc (r_getfN h (pc := 21) (ix := 110) (by decide +kernel) ckX11 2 (by decide) wk_e2b593c30a) ?_
  refine zfmc (r_iload_n h (pc := 24) (kf := 1) 1 (by decide +kernel) rfl) ?_
  refine zfmc (r_callV h (pc := 25) (ix := 98) (by decide +kernel) ckX5 1 mcX5_get wk_d096485f84 wk_a62daed223 wk_1db6b0b94a rfl) ?_
  refine zfmc (r_iadd h (pc := 28) (by decide +kernel)) ?_
  refine zfmc (r_istore_n h (pc := 29) (kf := 2) 2 (by decide +kernel) rfl (by decide +kernel)) ?_
  refine zfmc (r_iinc h (pc := 30) 3 (z := 1) (by decide +kernel) (1) (by decide +kernel) (by decide +kernel)) ?_
  refine zfmc (r_goto h (pc := 33) (off := -29) (by decide +kernel) 4 (by decide +kernel)) ?_
  refine zfmc (r_iload_n h (pc := 36) (kf := 2) 2 (by decide +kernel) rfl) ?_
  refine zfmc (r_ireturn h (pc := 37) (by decide +kernel) rfl) ?_
  exact zfm0)
def tb_X4_worth (E : ZEX) (d mc ms : Nat) : List (Nat × ZStep) := [(0, s_aload 0 1), (1, s_iload 1 2), (2, s_callV E d mc ms 3 MX4_trader 1 5), (5, s_getf 10 2 8), (8, s_astore 2 9), (9, s_const (.int (0)) 10), (10, s_istore 3 11), (11, s_const (.int (0)) 12), (12, s_istore 4 14), (14, s_iload 4 16), (16, s_aload 0 17), (17, s_getf 3 5 20), (20, s_getf 5 0 23), (23, s_icmp_ge 54 26), (26, s_iload 3 27), (27, s_aload 2 28), (28, s_iload 4 30), (30, s_callV E d mc ms 4 MX5_get 1 33), (33, s_aload 0 34), (34, s_getf 3 5 37), (37, s_getf 5 4 40), (40, s_iload 4 42), (42, s_callV E d mc ms 4 MX5_get 1 45), (45, s_imul 46), (46, s_iadd 47), (47, s_istore 3 48), (48, s_iinc 4 (1) 51), (51, s_goto 14), (54, s_iload 3 55), (55, s_ireturn)]
set_option maxRecDepth 20000 in
theorem ok_X4_worth {E : ZEX} {X : ZMX} {d mc ms : Nat} {P : ZPT} {T : ZTT} (h : ZCX E X MX4_worth d mc ms P T) : ∀ pc, ZRow E X MX4_worth mc ms P T pc (ztb (tb_X4_worth E d mc ms) pc) := ztb_ok (by
  unfold tb_X4_worth
  refine zfmc (r_aload_n h (pc := 0) (kf := 0) 0 (by decide +kernel) rfl) ?_
  refine zfmc (r_iload_n h (pc := 1) (kf := 1) 1 (by decide +kernel) rfl) ?_
  refine zfmc (r_callV h (pc := 2) (ix := 56) (by decide +kernel) ckX4 1 mcX4_trader wk_70b2a8186c wk_c60b4e54bc wk_a79dbba60d rfl) ?_
  refine zfmc (r_getfN h (pc := 5) (ix := 110) (by decide +kernel) ckX11 2 (by decide) wk_e2b593c30a) ?_
  refine zfmc (r_astore_n h (pc := 8) (kf := 2) 2 (by decide +kernel) rfl (by decide +kernel)) ?_
  refine zfmc (r_iconst h (pc := 9) (z := 0) (by decide +kernel) (0) (by decide +kernel)) ?_
  refine zfmc (r_istore_n h (pc := 10) (kf := 3) 3 (by decide +kernel) rfl (by decide +kernel)) ?_
  refine zfmc (r_iconst h (pc := 11) (z := 0) (by decide +kernel) (0) (by decide +kernel)) ?_
  refine zfmc (r_istore h (pc := 12) 4 (by decide +kernel) (by decide +kernel)) ?_
  refine zfmc (r_iload h (pc := 14) 4 (by decide +kernel)) ?_
  refine zfmc (r_aload_n h (pc := 16) (kf := 0) 0 (by decide +kernel) rfl) ?_
  refine zfmc (r_getf h (pc := 17) (ix := 40) (by decide +kernel) ckX4 5 (by decide) wk_005fa91519) ?_
  refine zfmc (r_getfN h (pc := 20) (ix := 70) (by decide +kernel) ckX6 0 (by decide) wk_e48b613a2f) ?_
  refine zfmc (r_icmp_ge h (pc := 23) (off := 31) (by decide +kernel) 54 (by decide +kernel)) ?_
  refine zfmc (r_iload_n h (pc := 26) (kf := 3) 3 (by decide +kernel) rfl) ?_
  refine zfmc (r_aload_n h (pc := 27) (kf := 2) 2 (by decide +kernel) rfl) ?_
  refine zfmc (r_iload h (pc := 28) 4 (by decide +kernel)) ?_
  refine zfmc (r_callV h (pc := 30) (ix := 98) (by decide +kernel) ckX5 1 mcX5_get wk_d096485f84 wk_a62daed223 wk_1db6b0b94a rfl) ?_
  refine zfmc (r_aload_n h (pc := 33) (kf := 0) 0 (by decide +kernel) rfl) ?_
  refine zfmc (r_getf h (pc := 34) (ix := 40) (by decide +kernel) ckX4 5 (by decide) wk_005fa91519) ?_
  refine zfmc (r_getfN h (pc := 37) (ix := 101) (by decide +kernel) ckX6 4 (by decide) wk_7dd5ffa479) ?_
  refine zfmc (r_iload h (pc := 40) 4 (by decide +kernel)) ?_
  refine zfmc (r_callV h (pc := 42) (ix := 98) (by decide +kernel) ckX5 1 mcX5_get wk_d096485f84 wk_a62daed223 wk_1db6b0b94a rfl) ?_
  refine zfmc (r_imul h (pc := 45) (by decide +kernel)) ?_
  refine zfmc (r_iadd h (pc := 46) (by decide +kernel)) ?_
  refine zfmc (r_istore_n h (pc := 47) (kf := 3) 3 (by decide +kernel) rfl (by decide +kernel)) ?_
  refine zfmc (r_iinc h (pc := 48) 4 (z := 1) (by decide +kernel) (1) (by decide +kernel) (by decide +kernel)) ?_
  refine zfmc (r_goto h (pc := 51) (off := -37) (by decide +kernel) 14 (by decide +kernel)) ?_
  refine zfmc (r_iload_n h (pc := 54) (kf := 3) 3 (by decide +kernel) rfl) ?_
  refine zfmc (r_ireturn h (pc := 55) (by decide +kernel) rfl) ?_
  exact zfm0)
def tb_X4_worthiest (E : ZEX) (d mc ms : Nat) : List (Nat × ZStep) := [(0, s_const (.int (-1)) 1), (1, s_istore 1 2), (2, s_const (.int (0)) 3), (3, s_istore 2 4), (4, s_iload 2 5), (5, s_aload 0 6), (6, s_getf 3 5 9), (9, s_getf 5 1 12), (12, s_icmp_ge 37 15), (15, s_iload 1 16), (16, s_const (.int (-1)) 17), (17, s_icmp_eq 29 20), (20, s_aload 0 21), (21, s_iload 2 22), (22, s_iload 1 23), (23, s_callV E d mc ms 3 MX4_isAhead 2 26), (26, s_if_eq 31 29), (29, s_iload 2 30), (30, s_istore 1 31), (31, s_iinc 2 (1) 34), (34, s_goto 4), (37, s_iload 1 38), (38, s_ireturn)]
set_option maxRecDepth 20000 in
theorem ok_X4_worthiest {E : ZEX} {X : ZMX} {d mc ms : Nat} {P : ZPT} {T : ZTT} (h : ZCX E X MX4_worthiest d mc ms P T) : ∀ pc, ZRow E X MX4_worthiest mc ms P T pc (ztb (tb_X4_worthiest E d mc ms) pc) := ztb_ok (by
  unfold tb_X4_worthiest
  refine zfmc (r_iconst h (pc := 0) (z := -1) (by decide +kernel) (-1) (by decide +kernel)) ?_
  refine zfmc (r_istore_n h (pc := 1) (kf := 1) 1 (by decide +kernel) rfl (by decide +kernel)) ?_
  refine zfmc (r_iconst h (pc := 2) (z := 0) (by decide +kernel) (0) (by decide +kernel)) ?_
  refine zfmc (r_istore_n h (pc := 3) (kf := 2) 2 (by decide +kernel) rfl (by decide +kernel)) ?_
  refine zfmc (r_iload_n h (pc := 4) (kf := 2) 2 (by decide +kernel) rfl) ?_
  refine zfmc (r_aload_n h (pc := 5) (kf := 0) 0 (by decide +kernel) rfl) ?_
  refine zfmc (r_getf h (pc := 6) (ix := 40) (by decide +kernel) ckX4 5 (by decide) wk_005fa91519) ?_
  refine zfmc (r_getfN h (pc := 9) (ix := 73) (by decide +kernel) ckX6 1 (by decide) wk_854af9f967) ?_
  refine zfmc (r_icmp_ge h (pc := 12) (off := 25) (by decide +kernel) 37 (by decide +kernel)) ?_
  refine zfmc (r_iload_n h (pc := 15) (kf := 1) 1 (by decide +kernel) rfl) ?_
  refine zfmc (r_iconst h (pc := 16) (z := -1) (by decide +kernel) (-1) (by decide +kernel)) ?_
  refine zfmc (r_icmp_eq h (pc := 17) (off := 12) (by decide +kernel) 29 (by decide +kernel)) ?_
  refine zfmc (r_aload_n h (pc := 20) (kf := 0) 0 (by decide +kernel) rfl) ?_
  refine zfmc (r_iload_n h (pc := 21) (kf := 2) 2 (by decide +kernel) rfl) ?_
  refine zfmc (r_iload_n h (pc := 22) (kf := 1) 1 (by decide +kernel) rfl) ?_
  refine zfmc (r_callV h (pc := 23) (ix := 113) (by decide +kernel) ckX4 2 mcX4_isAhead wk_67f4fc4464 wk_bd8b3a0785 wk_89f698eb05 rfl) ?_
  refine zfmc (r_if_eq h (pc := 26) (off := 5) (by decide +kernel) 31 (by decide +kernel)) ?_
  refine zfmc (r_iload_n h (pc := 29) (kf := 2) 2 (by decide +kernel) rfl) ?_
  refine zfmc (r_istore_n h (pc := 30) (kf := 1) 1 (by decide +kernel) rfl (by decide +kernel)) ?_
  refine zfmc (r_iinc h (pc := 31) 2 (z := 1) (by decide +kernel) (1) (by decide +kernel) (by decide +kernel)) ?_
  refine zfmc (r_goto h (pc := 34) (off := -30) (by decide +kernel) 4 (by decide +kernel)) ?_
  refine zfmc (r_iload_n h (pc := 37) (kf := 1) 1 (by decide +kernel) rfl) ?_
  refine zfmc (r_ireturn h (pc := 38) (by decide +kernel) rfl) ?_
  exact zfm0)
def tb_X4_isAhead (E : ZEX) (d mc ms : Nat) : List (Nat × ZStep) := [(0, s_aload 0 1), (1, s_iload 1 2), (2, s_callV E d mc ms 3 MX4_worth 1 5), (5, s_aload 0 6), (6, s_iload 2 7), (7, s_callV E d mc ms 3 MX4_worth 1 10), (10, s_icmp_eq 32 13), (13, s_aload 0 14), (14, s_iload 1 15), (15, s_callV E d mc ms 3 MX4_worth 1 18), (18, s_aload 0 19), (19, s_iload 2 20), (20, s_callV E d mc ms 3 MX4_worth 1 23), (23, s_icmp_le 30 26), (26, s_const (.int (1)) 27), (27, s_goto 31), (30, s_const (.int (0)) 31), (31, s_zreturn), (32, s_aload 0 33), (33, s_iload 1 34), (34, s_callV E d mc ms 3 MX4_trader 1 37), (37, s_getf 10 4 40), (40, s_aload 0 41), (41, s_iload 2 42), (42, s_callV E d mc ms 3 MX4_trader 1 45), (45, s_getf 10 4 48), (48, s_icmp_ge 55 51), (51, s_const (.int (1)) 52), (52, s_goto 56), (55, s_const (.int (0)) 56), (56, s_zreturn)]
set_option maxRecDepth 20000 in
theorem ok_X4_isAhead {E : ZEX} {X : ZMX} {d mc ms : Nat} {P : ZPT} {T : ZTT} (h : ZCX E X MX4_isAhead d mc ms P T) : ∀ pc, ZRow E X MX4_isAhead mc ms P T pc (ztb (tb_X4_isAhead E d mc ms) pc) := ztb_ok (by
  unfold tb_X4_isAhead
  refine zfmc (r_aload_n h (pc := 0) (kf := 0) 0 (by decide +kernel) rfl) ?_
  refine zfmc (r_iload_n h (pc := 1) (kf := 1) 1 (by decide +kernel) rfl) ?_
  refine zfmc (r_callV h (pc := 2) (ix := 117) (by decide +kernel) ckX4 1 mcX4_worth wk_02cd43441e wk_a3f7b4ac5c wk_207461d6d6 rfl) ?_
  refine zfmc (r_aload_n h (pc := 5) (kf := 0) 0 (by decide +kernel) rfl) ?_
  refine zfmc (r_iload_n h (pc := 6) (kf := 2) 2 (by decide +kernel) rfl) ?_
  refine zfmc (r_callV h (pc := 7) (ix := 117) (by decide +kernel) ckX4 1 mcX4_worth wk_02cd43441e wk_a3f7b4ac5c wk_207461d6d6 rfl) ?_
  refine zfmc (r_icmp_eq h (pc := 10) (off := 22) (by decide +kernel) 32 (by decide +kernel)) ?_
  refine zfmc (r_aload_n h (pc := 13) (kf := 0) 0 (by decide +kernel) rfl) ?_
  refine zfmc (r_iload_n h (pc := 14) (kf := 1) 1 (by decide +kernel) rfl) ?_
  refine zfmc (r_callV h (pc := 15) (ix := 117) (by decide +kernel) ckX4 1 mcX4_worth wk_02cd43441e wk_a3f7b4ac5c wk_207461d6d6 rfl) ?_
  refine zfmc (r_aload_n h (pc := 18) (kf := 0) 0 (by decide +kernel) rfl) ?_
  refine zfmc (r_iload_n h (pc := 19) (kf := 2) 2 (by decide +kernel) rfl) ?_
  refine zfmc (r_callV h (pc := 20) (ix := 117) (by decide +kernel) ckX4 1 mcX4_worth wk_02cd43441e wk_a3f7b4ac5c wk_207461d6d6 rfl) ?_
  refine zfmc (r_icmp_le h (pc := 23) (off := 7) (by decide +kernel) 30 (by decide +kernel)) ?_
  refine zfmc (r_iconst h (pc := 26) (z := 1) (by decide +kernel) (1) (by decide +kernel)) ?_
  refine zfmc (r_goto h (pc := 27) (off := 4) (by decide +kernel) 31 (by decide +kernel)) ?_
  refine zfmc (r_iconst h (pc := 30) (z := 0) (by decide +kernel) (0) (by decide +kernel)) ?_
  refine zfmc (r_zreturn h (pc := 31) (by decide +kernel) rfl) ?_
  refine zfmc (r_aload_n h (pc := 32) (kf := 0) 0 (by decide +kernel) rfl) ?_
  refine zfmc (r_iload_n h (pc := 33) (kf := 1) 1 (by decide +kernel) rfl) ?_
  refine zfmc (r_callV h (pc := 34) (ix := 56) (by decide +kernel) ckX4 1 mcX4_trader wk_70b2a8186c wk_c60b4e54bc wk_a79dbba60d rfl) ?_
  refine zfmc (r_getfN h (pc := 37) (ix := 87) (by decide +kernel) ckX11 4 (by decide) wk_87cbdce159) ?_
  refine zfmc (r_aload_n h (pc := 40) (kf := 0) 0 (by decide +kernel) rfl) ?_
  refine zfmc (r_iload_n h (pc := 41) (kf := 2) 2 (by decide +kernel) rfl) ?_
  refine zfmc (r_callV h (pc := 42) (ix := 56) (by decide +kernel) ckX4 1 mcX4_trader wk_70b2a8186c wk_c60b4e54bc wk_a79dbba60d rfl) ?_
  refine zfmc (r_getfN h (pc := 45) (ix := 87) (by decide +kernel) ckX11 4 (by decide) wk_87cbdce159) ?_
  refine zfmc (r_icmp_ge h (pc := 48) (off := 7) (by decide +kernel) 55 (by decide +kernel)) ?_
  refine zfmc (r_iconst h (pc := 51) (z := 1) (by decide +kernel) (1) (by decide +kernel)) ?_
  refine zfmc (r_goto h (pc := 52) (off := 4) (by decide +kernel) 56 (by decide +kernel)) ?_
  refine zfmc (r_iconst h (pc := 55) (z := 0) (by decide +kernel) (0) (by decide +kernel)) ?_
  refine zfmc (r_zreturn h (pc := 56) (by decide +kernel) rfl) ?_
  exact zfm0)
def tb_X4_canGain (E : ZEX) (d mc ms : Nat) : List (Nat × ZStep) := [(0, s_aload 0 1), (1, s_getf 3 0 4), (4, s_iload 2 5), (5, s_callV E d mc ms 4 MX5_get 1 8), (8, s_if_le 28 11), (11, s_aload 0 12), (12, s_iload 1 13), (13, s_callV E d mc ms 3 MX4_trader 1 16), (16, s_getf 10 4 19), (19, s_const (.int (60)) 21), (21, s_icmp_ge 28 24), (24, s_const (.int (1)) 25), (25, s_goto 29), (28, s_const (.int (0)) 29), (29, s_zreturn)]
set_option maxRecDepth 20000 in
theorem ok_X4_canGain {E : ZEX} {X : ZMX} {d mc ms : Nat} {P : ZPT} {T : ZTT} (h : ZCX E X MX4_canGain d mc ms P T) : ∀ pc, ZRow E X MX4_canGain mc ms P T pc (ztb (tb_X4_canGain E d mc ms) pc) := ztb_ok (by
  unfold tb_X4_canGain
  refine zfmc (r_aload_n h (pc := 0) (kf := 0) 0 (by decide +kernel) rfl) ?_
  refine zfmc (r_getf h (pc := 1) (ix := 14) (by decide +kernel) ckX4 0 (by decide) wk_b089cfa250) ?_
  refine zfmc (r_iload_n h (pc := 4) (kf := 2) 2 (by decide +kernel) rfl) ?_
  refine zfmc (r_callV h (pc := 5) (ix := 98) (by decide +kernel) ckX5 1 mcX5_get wk_d096485f84 wk_a62daed223 wk_1db6b0b94a rfl) ?_
  refine zfmc (r_if_le h (pc := 8) (off := 20) (by decide +kernel) 28 (by decide +kernel)) ?_
  refine zfmc (r_aload_n h (pc := 11) (kf := 0) 0 (by decide +kernel) rfl) ?_
  refine zfmc (r_iload_n h (pc := 12) (kf := 1) 1 (by decide +kernel) rfl) ?_
  refine zfmc (r_callV h (pc := 13) (ix := 56) (by decide +kernel) ckX4 1 mcX4_trader wk_70b2a8186c wk_c60b4e54bc wk_a79dbba60d rfl) ?_
  refine zfmc (r_getfN h (pc := 16) (ix := 87) (by decide +kernel) ckX11 4 (by decide) wk_87cbdce159) ?_
  refine zfmc (r_bipush h (pc := 19) (z := 60) (by decide +kernel) (60) (by decide +kernel)) ?_
  refine zfmc (r_icmp_ge h (pc := 21) (off := 7) (by decide +kernel) 28 (by decide +kernel)) ?_
  refine zfmc (r_iconst h (pc := 24) (z := 1) (by decide +kernel) (1) (by decide +kernel)) ?_
  refine zfmc (r_goto h (pc := 25) (off := 4) (by decide +kernel) 29 (by decide +kernel)) ?_
  refine zfmc (r_iconst h (pc := 28) (z := 0) (by decide +kernel) (0) (by decide +kernel)) ?_
  refine zfmc (r_zreturn h (pc := 29) (by decide +kernel) rfl) ?_
  exact zfm0)
def tb_X4_gain (E : ZEX) (d mc ms : Nat) : List (Nat × ZStep) := [(0, s_aload 0 1), (1, s_getf 3 0 4), (4, s_iload 2 5), (5, s_const (.int (-1)) 6), (6, s_callV E d mc ms 4 MX5_raise 2 9), (9, s_aload 0 10), (10, s_iload 1 11), (11, s_callV E d mc ms 3 MX4_trader 1 14), (14, s_iload 2 15), (15, s_callV E d mc ms 10 MX11_gain 1 18), (18, s_return)]
set_option maxRecDepth 20000 in
theorem ok_X4_gain {E : ZEX} {X : ZMX} {d mc ms : Nat} {P : ZPT} {T : ZTT} (h : ZCX E X MX4_gain d mc ms P T) : ∀ pc, ZRow E X MX4_gain mc ms P T pc (ztb (tb_X4_gain E d mc ms) pc) := ztb_ok (by
  unfold tb_X4_gain
  refine zfmc (r_aload_n h (pc := 0) (kf := 0) 0 (by decide +kernel) rfl) ?_
  refine zfmc (r_getf h (pc := 1) (ix := 14) (by decide +kernel) ckX4 0 (by decide) wk_b089cfa250) ?_
  refine zfmc (r_iload_n h (pc := 4) (kf := 2) 2 (by decide +kernel) rfl) ?_
  refine zfmc (r_iconst h (pc := 5) (z := -1) (by decide +kernel) (-1) (by decide +kernel)) ?_
  refine zfmc (r_callV h (pc := 6) (ix := 119) (by decide +kernel) ckX5 2 mcX5_raise wk_0355c8e134 wk_86cf0cc88e wk_5f3d568753 rfl) ?_
  refine zfmc (r_aload_n h (pc := 9) (kf := 0) 0 (by decide +kernel) rfl) ?_
  refine zfmc (r_iload_n h (pc := 10) (kf := 1) 1 (by decide +kernel) rfl) ?_
  refine zfmc (r_callV h (pc := 11) (ix := 56) (by decide +kernel) ckX4 1 mcX4_trader wk_70b2a8186c wk_c60b4e54bc wk_a79dbba60d rfl) ?_
  refine zfmc (r_iload_n h (pc := 14) (kf := 2) 2 (by decide +kernel) rfl) ?_
  refine zfmc (r_callV h (pc := 15) (ix := 123) (by decide +kernel) ckX11 1 mcX11_gain wk_fecf2be63f wk_fa65c4c1dc wk_63bdb3e140 rfl) ?_
  refine zfmc (r_return h (pc := 18) (by decide +kernel) rfl) ?_
  exact zfm0)
def tb_X6_init (E : ZEX) (d mc ms : Nat) : List (Nat × ZStep) := [(0, s_aload 0 1), (1, s_objinit d 4), (4, s_aload 0 5), (5, s_const (.int (0)) 6), (6, s_putf 5 0 0 9), (9, s_aload 0 10), (10, s_const (.int (0)) 11), (11, s_putf 5 1 0 14), (14, s_aload 0 15), (15, s_const (.int (0)) 16), (16, s_putf 5 2 0 19), (19, s_aload 0 20), (20, s_new 4 2 fsX5 mc ms 23), (23, s_dup 24), (24, s_const (.int (10)) 26), (26, s_callI E d mc ms MX5_init 1 29), (29, s_putf 5 3 3 32), (32, s_aload 0 33), (33, s_new 4 2 fsX5 mc ms 36), (36, s_dup 37), (37, s_const (.int (10)) 39), (39, s_callI E d mc ms MX5_init 1 42), (42, s_putf 5 4 3 45), (45, s_aload 0 46), (46, s_new 4 2 fsX5 mc ms 49), (49, s_dup 50), (50, s_const (.int (10)) 52), (52, s_callI E d mc ms MX5_init 1 55), (55, s_putf 5 5 3 58), (58, s_aload 0 59), (59, s_new 4 2 fsX5 mc ms 62), (62, s_dup 63), (63, s_const (.int (20)) 65), (65, s_callI E d mc ms MX5_init 1 68), (68, s_putf 5 6 3 71), (71, s_aload 0 72), (72, s_new 4 2 fsX5 mc ms 75), (75, s_dup 76), (76, s_const (.int (10)) 78), (78, s_callI E d mc ms MX5_init 1 81), (81, s_putf 5 7 3 84), (84, s_aload 0 85), (85, s_const (.int (40)) 87), (87, s_anewS E mc ms 90), (90, s_putf 5 8 3 93), (93, s_aload 0 94), (94, s_new 4 2 fsX5 mc ms 97), (97, s_dup 98), (98, s_const (.int (40)) 100), (100, s_callI E d mc ms MX5_init 1 103), (103, s_putf 5 9 3 106), (106, s_aload 0 107), (107, s_new 4 2 fsX5 mc ms 110), (110, s_dup 111), (111, s_const (.int (40)) 113), (113, s_callI E d mc ms MX5_init 1 116), (116, s_putf 5 10 3 119), (119, s_aload 0 120), (120, s_new 4 2 fsX5 mc ms 123), (123, s_dup 124), (124, s_const (.int (16)) 126), (126, s_callI E d mc ms MX5_init 1 129), (129, s_putf 5 11 3 132), (132, s_aload 0 133), (133, s_new 4 2 fsX5 mc ms 136), (136, s_dup 137), (137, s_const (.int (16)) 139), (139, s_callI E d mc ms MX5_init 1 142), (142, s_putf 5 12 3 145), (145, s_aload 0 146), (146, s_new 4 2 fsX5 mc ms 149), (149, s_dup 150), (150, s_const (.int (16)) 152), (152, s_callI E d mc ms MX5_init 1 155), (155, s_putf 5 13 3 158), (158, s_aload 0 159), (159, s_new 0 2 fsX1 mc ms 162), (162, s_dup 163), (163, s_callI E d mc ms MX1_init 0 166), (166, s_putf 5 14 3 169), (169, s_return)]
set_option maxRecDepth 20000 in
theorem ok_X6_init {E : ZEX} {X : ZMX} {d mc ms : Nat} {P : ZPT} {T : ZTT} (h : ZCX E X MX6_init d mc ms P T) : ∀ pc, ZRow E X MX6_init mc ms P T pc (ztb (tb_X6_init E d mc ms) pc) := ztb_ok (by
  unfold tb_X6_init
  refine zfmc (r_aload_n h (pc := 0) (kf := 0) 0 (by decide +kernel) rfl) ?_
  refine zfmc (r_objinit h (pc := 1) (ix := 3) (by decide +kernel) wk_20d1ba854c wk_ee0d472f0f wk_13171937f3) ?_
  refine zfmc (r_aload_n h (pc := 4) (kf := 0) 0 (by decide +kernel) rfl) ?_
  refine zfmc (r_iconst h (pc := 5) (z := 0) (by decide +kernel) (0) (by decide +kernel)) ?_
  refine zfmc (r_putf h (pc := 6) (ix := 9) (by decide +kernel) ckX6 0 (by decide) 0 (fty := tyX6 0) (tyX6_ok 0 (by decide)) rfl rfl wk_40d666262d) ?_
  refine zfmc (r_aload_n h (pc := 9) (kf := 0) 0 (by decide +kernel) rfl) ?_
  refine zfmc (r_iconst h (pc := 10) (z := 0) (by decide +kernel) (0) (by decide +kernel)) ?_
  refine zfmc (r_putf h (pc := 11) (ix := 15) (by decide +kernel) ckX6 1 (by decide) 0 (fty := tyX6 1) (tyX6_ok 1 (by decide)) rfl rfl wk_ca72964d6e) ?_
  refine zfmc (r_aload_n h (pc := 14) (kf := 0) 0 (by decide +kernel) rfl) ?_
  refine zfmc (r_iconst h (pc := 15) (z := 0) (by decide +kernel) (0) (by decide +kernel)) ?_
  refine zfmc (r_putf h (pc := 16) (ix := 18) (by decide +kernel) ckX6 2 (by decide) 0 (fty := tyX6 2) (tyX6_ok 2 (by decide)) rfl rfl wk_baf1c4fecd) ?_
  refine zfmc (r_aload_n h (pc := 19) (kf := 0) 0 (by decide +kernel) rfl) ?_
  refine zfmc (r_new h (pc := 20) (ix := 21) (by decide +kernel) ckX5 fsX5 tyX5 tyX5_ok fsX5_ok wk_a7a614768b wk_17139636bc wk_1cd044b3d8) ?_
  refine zfmc (r_dup h (pc := 23) (by decide +kernel)) ?_
  refine zfmc (r_bipush h (pc := 24) (z := 10) (by decide +kernel) (10) (by decide +kernel)) ?_
  refine zfmc (r_callI h (pc := 26) (ix := 23) (by decide +kernel) 1 mcX5_init wk_ed7131bba4 rfl rfl wk_2ea8547b65) ?_
  refine zfmc (r_putfF h (pc := 29) (ix := 26) (by decide +kernel) ckX6 3 (by decide) 3 (fty := tyX6 3) (tyX6_ok 3 (by decide)) rfl rfl rfl rfl wk_2bd3436ddb) ?_
  refine zfmc (r_aload_n h (pc := 32) (kf := 0) 0 (by decide +kernel) rfl) ?_
  refine zfmc (r_new h (pc := 33) (ix := 21) (by decide +kernel) ckX5 fsX5 tyX5 tyX5_ok fsX5_ok wk_a7a614768b wk_17139636bc wk_1cd044b3d8) ?_
  refine zfmc (r_dup h (pc := 36) (by decide +kernel)) ?_
  refine zfmc (r_bipush h (pc := 37) (z := 10) (by decide +kernel) (10) (by decide +kernel)) ?_
  refine zfmc (r_callI h (pc := 39) (ix := 23) (by decide +kernel) 1 mcX5_init wk_ed7131bba4 rfl rfl wk_2ea8547b65) ?_
  refine zfmc (r_putfF h (pc := 42) (ix := 30) (by decide +kernel) ckX6 4 (by decide) 3 (fty := tyX6 4) (tyX6_ok 4 (by decide)) rfl rfl rfl rfl wk_6593aee64c) ?_
  refine zfmc (r_aload_n h (pc := 45) (kf := 0) 0 (by decide +kernel) rfl) ?_
  refine zfmc (r_new h (pc := 46) (ix := 21) (by decide +kernel) ckX5 fsX5 tyX5 tyX5_ok fsX5_ok wk_a7a614768b wk_17139636bc wk_1cd044b3d8) ?_
  refine zfmc (r_dup h (pc := 49) (by decide +kernel)) ?_
  refine zfmc (r_bipush h (pc := 50) (z := 10) (by decide +kernel) (10) (by decide +kernel)) ?_
  refine zfmc (r_callI h (pc := 52) (ix := 23) (by decide +kernel) 1 mcX5_init wk_ed7131bba4 rfl rfl wk_2ea8547b65) ?_
  refine zfmc (r_putfF h (pc := 55) (ix := 33) (by decide +kernel) ckX6 5 (by decide) 3 (fty := tyX6 5) (tyX6_ok 5 (by decide)) rfl rfl rfl rfl wk_fdb826aa17) ?_
  refine zfmc (r_aload_n h (pc := 58) (kf := 0) 0 (by decide +kernel) rfl) ?_
  refine zfmc (r_new h (pc := 59) (ix := 21) (by decide +kernel) ckX5 fsX5 tyX5 tyX5_ok fsX5_ok wk_a7a614768b wk_17139636bc wk_1cd044b3d8) ?_
  refine zfmc (r_dup h (pc := 62) (by decide +kernel)) ?_
  refine zfmc (r_bipush h (pc := 63) (z := 20) (by decide +kernel) (20) (by decide +kernel)) ?_
  refine zfmc (r_callI h (pc := 65) (ix := 23) (by decide +kernel) 1 mcX5_init wk_ed7131bba4 rfl rfl wk_2ea8547b65) ?_
  refine zfmc (r_putfF h (pc := 68) (ix := 36) (by decide +kernel) ckX6 6 (by decide) 3 (fty := tyX6 6) (tyX6_ok 6 (by decide)) rfl rfl rfl rfl wk_9c0cc14a61) ?_
  refine zfmc (r_aload_n h (pc := 71) (kf := 0) 0 (by decide +kernel) rfl) ?_
  refine zfmc (r_new h (pc := 72) (ix := 21) (by decide +kernel) ckX5 fsX5 tyX5 tyX5_ok fsX5_ok wk_a7a614768b wk_17139636bc wk_1cd044b3d8) ?_
  refine zfmc (r_dup h (pc := 75) (by decide +kernel)) ?_
  refine zfmc (r_bipush h (pc := 76) (z := 10) (by decide +kernel) (10) (by decide +kernel)) ?_
  refine zfmc (r_callI h (pc := 78) (ix := 23) (by decide +kernel) 1 mcX5_init wk_ed7131bba4 rfl rfl wk_2ea8547b65) ?_
  refine zfmc (r_putfF h (pc := 81) (ix := 39) (by decide +kernel) ckX6 7 (by decide) 3 (fty := tyX6 7) (tyX6_ok 7 (by decide)) rfl rfl rfl rfl wk_b9c6f27ad6) ?_
  refine zfmc (r_aload_n h (pc := 84) (kf := 0) 0 (by decide +kernel) rfl) ?_
  refine zfmc (r_bipush h (pc := 85) (z := 40) (by decide +kernel) (40) (by decide +kernel)) ?_
  refine zfmc (r_anewS h (pc := 87) (ix := 42) (by decide +kernel) wk_58998ed291 (zx_aoS h.ok)) ?_
  refine zfmc (r_putfF h (pc := 90) (ix := 44) (by decide +kernel) ckX6 8 (by decide) 3 (fty := tyX6 8) (tyX6_ok 8 (by decide)) rfl rfl rfl rfl wk_156a63584d) ?_
  refine zfmc (r_aload_n h (pc := 93) (kf := 0) 0 (by decide +kernel) rfl) ?_
  refine zfmc (r_new h (pc := 94) (ix := 21) (by decide +kernel) ckX5 fsX5 tyX5 tyX5_ok fsX5_ok wk_a7a614768b wk_17139636bc wk_1cd044b3d8) ?_
  refine zfmc (r_dup h (pc := 97) (by decide +kernel)) ?_
  refine zfmc (r_bipush h (pc := 98) (z := 40) (by decide +kernel) (40) (by decide +kernel)) ?_
  refine zfmc (r_callI h (pc := 100) (ix := 23) (by decide +kernel) 1 mcX5_init wk_ed7131bba4 rfl rfl wk_2ea8547b65) ?_
  refine zfmc (r_putfF h (pc := 103) (ix := 48) (by decide +kernel) ckX6 9 (by decide) 3 (fty := tyX6 9) (tyX6_ok 9 (by decide)) rfl rfl rfl rfl wk_f84c93dde5) ?_
  refine zfmc (r_aload_n h (pc := 106) (kf := 0) 0 (by decide +kernel) rfl) ?_
  refine zfmc (r_new h (pc := 107) (ix := 21) (by decide +kernel) ckX5 fsX5 tyX5 tyX5_ok fsX5_ok wk_a7a614768b wk_17139636bc wk_1cd044b3d8) ?_
  refine zfmc (r_dup h (pc := 110) (by decide +kernel)) ?_
  refine zfmc (r_bipush h (pc := 111) (z := 40) (by decide +kernel) (40) (by decide +kernel)) ?_
  refine zfmc (r_callI h (pc := 113) (ix := 23) (by decide +kernel) 1 mcX5_init wk_ed7131bba4 rfl rfl wk_2ea8547b65) ?_
  refine zfmc (r_putfF h (pc := 116) (ix := 51) (by decide +kernel) ckX6 10 (by decide) 3 (fty := tyX6 10) (tyX6_ok 10 (by decide)) rfl rfl rfl rfl wk_e3815e1f6d) ?_
  refine zfmc (r_aload_n h (pc := 119) (kf := 0) 0 (by decide +kernel) rfl) ?_
  refine zfmc (r_new h (pc := 120) (ix := 21) (by decide +kernel) ckX5 fsX5 tyX5 tyX5_ok fsX5_ok wk_a7a614768b wk_17139636bc wk_1cd044b3d8) ?_
  refine zfmc (r_dup h (pc := 123) (by decide +kernel)) ?_
  refine zfmc (r_bipush h (pc := 124) (z := 16) (by decide +kernel) (16) (by decide +kernel)) ?_
  refine zfmc (r_callI h (pc := 126) (ix := 23) (by decide +kernel) 1 mcX5_init wk_ed7131bba4 rfl rfl wk_2ea8547b65) ?_
  refine zfmc (r_putfF h (pc := 129) (ix := 54) (by decide +kernel) ckX6 11 (by decide) 3 (fty := tyX6 11) (tyX6_ok 11 (by decide)) rfl rfl rfl rfl wk_ed1e21c59e) ?_
  refine zfmc (r_aload_n h (pc := 132) (kf := 0) 0 (by decide +kernel) rfl) ?_
  refine zfmc (r_new h (pc := 133) (ix := 21) (by decide +kernel) ckX5 fsX5 tyX5 tyX5_ok fsX5_ok wk_a7a614768b wk_17139636bc wk_1cd044b3d8) ?_
  refine zfmc (r_dup h (pc := 136) (by decide +kernel)) ?_
  refine zfmc (r_bipush h (pc := 137) (z := 16) (by decide +kernel) (16) (by decide +kernel)) ?_
  refine zfmc (r_callI h (pc := 139) (ix := 23) (by decide +kernel) 1 mcX5_init wk_ed7131bba4 rfl rfl wk_2ea8547b65) ?_
  refine zfmc (r_putfF h (pc := 142) (ix := 57) (by decide +kernel) ckX6 12 (by decide) 3 (fty := tyX6 12) (tyX6_ok 12 (by decide)) rfl rfl rfl rfl wk_71d0242bce) ?_
  refine zfmc (r_aload_n h (pc := 145) (kf := 0) 0 (by decide +kernel) rfl) ?_
  refine zfmc (r_new h (pc := 146) (ix := 21) (by decide +kernel) ckX5 fsX5 tyX5 tyX5_ok fsX5_ok wk_a7a614768b wk_17139636bc wk_1cd044b3d8) ?_
  refine zfmc (r_dup h (pc := 149) (by decide +kernel)) ?_
  refine zfmc (r_bipush h (pc := 150) (z := 16) (by decide +kernel) (16) (by decide +kernel)) ?_
  refine zfmc (r_callI h (pc := 152) (ix := 23) (by decide +kernel) 1 mcX5_init wk_ed7131bba4 rfl rfl wk_2ea8547b65) ?_
  refine zfmc (r_putfF h (pc := 155) (ix := 60) (by decide +kernel) ckX6 13 (by decide) 3 (fty := tyX6 13) (tyX6_ok 13 (by decide)) rfl rfl rfl rfl wk_fb89ebb4a7) ?_
  refine zfmc (r_aload_n h (pc := 158) (kf := 0) 0 (by decide +kernel) rfl) ?_
  refine zfmc (r_new h (pc := 159) (ix := 63) (by decide +kernel) ckX1 fsX1 tyX1 tyX1_ok fsX1_ok wk_f009b0abcf wk_572f951422 wk_99e4575855) ?_
  refine zfmc (r_dup h (pc := 162) (by decide +kernel)) ?_
  refine zfmc (r_callIN h (pc := 163) (ix := 65) (by decide +kernel) 0 mcX1_init wk_09e10a2fe3 rfl rfl wk_4e3fe82aaa) ?_
  refine zfmc (r_putfF h (pc := 166) (ix := 66) (by decide +kernel) ckX6 14 (by decide) 3 (fty := tyX6 14) (tyX6_ok 14 (by decide)) rfl rfl rfl rfl wk_05f45bc363) ?_
  refine zfmc (r_return h (pc := 169) (by decide +kernel) rfl) ?_
  exact zfm0)
def tb_X6_clear (E : ZEX) (d mc ms : Nat) : List (Nat × ZStep) := [(0, s_aload 0 1), (1, s_const (.int (0)) 2), (2, s_putf 5 0 0 5), (5, s_aload 0 6), (6, s_const (.int (0)) 7), (7, s_putf 5 1 0 10), (10, s_aload 0 11), (11, s_const (.int (0)) 12), (12, s_putf 5 2 0 15), (15, s_aload 0 16), (16, s_getf 5 3 19), (19, s_callV E d mc ms 4 MX5_clear 0 22), (22, s_aload 0 23), (23, s_getf 5 4 26), (26, s_callV E d mc ms 4 MX5_clear 0 29), (29, s_aload 0 30), (30, s_getf 5 5 33), (33, s_callV E d mc ms 4 MX5_clear 0 36), (36, s_aload 0 37), (37, s_getf 5 6 40), (40, s_callV E d mc ms 4 MX5_clear 0 43), (43, s_aload 0 44), (44, s_getf 5 7 47), (47, s_callV E d mc ms 4 MX5_clear 0 50), (50, s_aload 0 51), (51, s_getf 5 14 54), (54, s_callV E d mc ms 0 MX1_clear 0 57), (57, s_return)]
set_option maxRecDepth 20000 in
theorem ok_X6_clear {E : ZEX} {X : ZMX} {d mc ms : Nat} {P : ZPT} {T : ZTT} (h : ZCX E X MX6_clear d mc ms P T) : ∀ pc, ZRow E X MX6_clear mc ms P T pc (ztb (tb_X6_clear E d mc ms) pc) := ztb_ok (by
  unfold tb_X6_clear
  refine zfmc (r_aload_n h (pc := 0) (kf := 0) 0 (by decide +kernel) rfl) ?_
  refine zfmc (r_iconst h (pc := 1) (z := 0) (by decide +kernel) (0) (by decide +kernel)) ?_
  refine zfmc (r_putf h (pc := 2) (ix := 9) (by decide +kernel) ckX6 0 (by decide) 0 (fty := tyX6 0) (tyX6_ok 0 (by decide)) rfl rfl wk_40d666262d) ?_
  refine zfmc (r_aload_n h (pc := 5) (kf := 0) 0 (by decide +kernel) rfl) ?_
  refine zfmc (r_iconst h (pc := 6) (z := 0) (by decide +kernel) (0) (by decide +kernel)) ?_
  refine zfmc (r_putf h (pc := 7) (ix := 15) (by decide +kernel) ckX6 1 (by decide) 0 (fty := tyX6 1) (tyX6_ok 1 (by decide)) rfl rfl wk_ca72964d6e) ?_
  refine zfmc (r_aload_n h (pc := 10) (kf := 0) 0 (by decide +kernel) rfl) ?_
  refine zfmc (r_iconst h (pc := 11) (z := 0) (by decide +kernel) (0) (by decide +kernel)) ?_
  refine zfmc (r_putf h (pc := 12) (ix := 18) (by decide +kernel) ckX6 2 (by decide) 0 (fty := tyX6 2) (tyX6_ok 2 (by decide)) rfl rfl wk_baf1c4fecd) ?_
  refine zfmc (r_aload_n h (pc := 15) (kf := 0) 0 (by decide +kernel) rfl) ?_
  refine zfmc (r_getf h (pc := 16) (ix := 26) (by decide +kernel) ckX6 3 (by decide) wk_2bd3436ddb) ?_
  refine zfmc (r_callV h (pc := 19) (ix := 70) (by decide +kernel) ckX5 0 mcX5_clear wk_02cca295a9 wk_38a51f5f8b wk_6ba25339bd rfl) ?_
  refine zfmc (r_aload_n h (pc := 22) (kf := 0) 0 (by decide +kernel) rfl) ?_
  refine zfmc (r_getf h (pc := 23) (ix := 30) (by decide +kernel) ckX6 4 (by decide) wk_6593aee64c) ?_
  refine zfmc (r_callV h (pc := 26) (ix := 70) (by decide +kernel) ckX5 0 mcX5_clear wk_02cca295a9 wk_38a51f5f8b wk_6ba25339bd rfl) ?_
  refine zfmc (r_aload_n h (pc := 29) (kf := 0) 0 (by decide +kernel) rfl) ?_
  refine zfmc (r_getf h (pc := 30) (ix := 33) (by decide +kernel) ckX6 5 (by decide) wk_fdb826aa17) ?_
  refine zfmc (r_callV h (pc := 33) (ix := 70) (by decide +kernel) ckX5 0 mcX5_clear wk_02cca295a9 wk_38a51f5f8b wk_6ba25339bd rfl) ?_
  refine zfmc (r_aload_n h (pc := 36) (kf := 0) 0 (by decide +kernel) rfl) ?_
  refine zfmc (r_getf h (pc := 37) (ix := 36) (by decide +kernel) ckX6 6 (by decide) wk_9c0cc14a61) ?_
  refine zfmc (r_callV h (pc := 40) (ix := 70) (by decide +kernel) ckX5 0 mcX5_clear wk_02cca295a9 wk_38a51f5f8b wk_6ba25339bd rfl) ?_
  refine zfmc (r_aload_n h (pc := 43) (kf := 0) 0 (by decide +kernel) rfl) ?_
  refine zfmc (r_getf h (pc := 44) (ix := 39) (by decide +kernel) ckX6 7 (by decide) wk_b9c6f27ad6) ?_
  refine zfmc (r_callV h (pc := 47) (ix := 70) (by decide +kernel) ckX5 0 mcX5_clear wk_02cca295a9 wk_38a51f5f8b wk_6ba25339bd rfl) ?_
  refine zfmc (r_aload_n h (pc := 50) (kf := 0) 0 (by decide +kernel) rfl) ?_
  refine zfmc (r_getf h (pc := 51) (ix := 66) (by decide +kernel) ckX6 14 (by decide) wk_05f45bc363) ?_
  refine zfmc (r_callV h (pc := 54) (ix := 73) (by decide +kernel) ckX1 0 mcX1_clear wk_cecc421e59 wk_01e5863e27 wk_312871d4ad rfl) ?_
  refine zfmc (r_return h (pc := 57) (by decide +kernel) rfl) ?_
  exact zfm0)
def tb_X6_deedKind (E : ZEX) (d mc ms : Nat) : List (Nat × ZStep) := [(0, s_iload 1 1), (1, s_if_lt 22 4), (4, s_iload 1 5), (5, s_aload 0 6), (6, s_getf 5 8 9), (9, s_alen E 10), (10, s_icmp_ge 22 13), (13, s_aload 0 14), (14, s_getf 5 8 17), (17, s_iload 1 18), (18, s_aaload E 19), (19, s_goto 25), (22, s_const (.ref (zeK E 0)) 25), (25, s_astore 2 26), (26, s_aload 2 27), (27, s_ifnonnull 36 30), (30, s_const (.ref (zeK E 0)) 33), (33, s_goto 37), (36, s_aload 2 37), (37, s_areturn)]
set_option maxRecDepth 20000 in
theorem ok_X6_deedKind {E : ZEX} {X : ZMX} {d mc ms : Nat} {P : ZPT} {T : ZTT} (h : ZCX E X MX6_deedKind d mc ms P T) : ∀ pc, ZRow E X MX6_deedKind mc ms P T pc (ztb (tb_X6_deedKind E d mc ms) pc) := ztb_ok (by
  unfold tb_X6_deedKind
  refine zfmc (r_iload_n h (pc := 0) (kf := 1) 1 (by decide +kernel) rfl) ?_
  refine zfmc (r_if_lt h (pc := 1) (off := 21) (by decide +kernel) 22 (by decide +kernel)) ?_
  refine zfmc (r_iload_n h (pc := 4) (kf := 1) 1 (by decide +kernel) rfl) ?_
  refine zfmc (r_aload_n h (pc := 5) (kf := 0) 0 (by decide +kernel) rfl) ?_
  refine zfmc (r_getf h (pc := 6) (ix := 44) (by decide +kernel) ckX6 8 (by decide) wk_156a63584d) ?_
  refine zfmc (r_alen h (pc := 9) (by decide +kernel)) ?_
  refine zfmc (r_icmp_ge h (pc := 10) (off := 12) (by decide +kernel) 22 (by decide +kernel)) ?_
  refine zfmc (r_aload_n h (pc := 13) (kf := 0) 0 (by decide +kernel) rfl) ?_
  refine zfmc (r_getf h (pc := 14) (ix := 44) (by decide +kernel) ckX6 8 (by decide) wk_156a63584d) ?_
  refine zfmc (r_iload_n h (pc := 17) (kf := 1) 1 (by decide +kernel) rfl) ?_
  refine zfmc (r_aaload h (pc := 18) (by decide +kernel)) ?_
  refine zfmc (r_goto h (pc := 19) (off := 6) (by decide +kernel) 25 (by decide +kernel)) ?_
  refine zfmc (r_getstatic h (pc := 22) (ix := 74) (by decide +kernel) (.ref (zeK E 0)) (zx_sg h.ok 0 (by decide)) wk_4d37f489df) ?_
  refine zfmc (r_astore_n h (pc := 25) (kf := 2) 2 (by decide +kernel) rfl (by decide +kernel)) ?_
  refine zfmc (r_aload_n h (pc := 26) (kf := 2) 2 (by decide +kernel) rfl) ?_
  refine zfmc (r_ifnonnull h (pc := 27) (off := 9) (by decide +kernel) 36 (by decide +kernel)) ?_
  refine zfmc (r_getstatic h (pc := 30) (ix := 74) (by decide +kernel) (.ref (zeK E 0)) (zx_sg h.ok 0 (by decide)) wk_4d37f489df) ?_
  refine zfmc (r_goto h (pc := 33) (off := 4) (by decide +kernel) 37 (by decide +kernel)) ?_
  refine zfmc (r_aload_n h (pc := 36) (kf := 2) 2 (by decide +kernel) rfl) ?_
  refine zfmc (r_areturn h (pc := 37) (by decide +kernel) rfl) ?_
  exact zfm0)
def tb_X6_setDeed (E : ZEX) (d mc ms : Nat) : List (Nat × ZStep) := [(0, s_iload 1 1), (1, s_if_lt 38 4), (4, s_iload 1 5), (5, s_aload 0 6), (6, s_getf 5 8 9), (9, s_alen E 10), (10, s_icmp_ge 38 13), (13, s_aload 0 14), (14, s_getf 5 8 17), (17, s_iload 1 18), (18, s_aload 2 19), (19, s_aastoreS E 20), (20, s_aload 0 21), (21, s_getf 5 9 24), (24, s_iload 1 25), (25, s_const (.int (0)) 26), (26, s_callV E d mc ms 4 MX5_set 2 29), (29, s_aload 0 30), (30, s_getf 5 10 33), (33, s_iload 1 34), (34, s_iload 3 35), (35, s_callV E d mc ms 4 MX5_set 2 38), (38, s_return)]
set_option maxRecDepth 20000 in
theorem ok_X6_setDeed {E : ZEX} {X : ZMX} {d mc ms : Nat} {P : ZPT} {T : ZTT} (h : ZCX E X MX6_setDeed d mc ms P T) : ∀ pc, ZRow E X MX6_setDeed mc ms P T pc (ztb (tb_X6_setDeed E d mc ms) pc) := ztb_ok (by
  unfold tb_X6_setDeed
  refine zfmc (r_iload_n h (pc := 0) (kf := 1) 1 (by decide +kernel) rfl) ?_
  refine zfmc (r_if_lt h (pc := 1) (off := 37) (by decide +kernel) 38 (by decide +kernel)) ?_
  refine zfmc (r_iload_n h (pc := 4) (kf := 1) 1 (by decide +kernel) rfl) ?_
  refine zfmc (r_aload_n h (pc := 5) (kf := 0) 0 (by decide +kernel) rfl) ?_
  refine zfmc (r_getf h (pc := 6) (ix := 44) (by decide +kernel) ckX6 8 (by decide) wk_156a63584d) ?_
  refine zfmc (r_alen h (pc := 9) (by decide +kernel)) ?_
  refine zfmc (r_icmp_ge h (pc := 10) (off := 28) (by decide +kernel) 38 (by decide +kernel)) ?_
  refine zfmc (r_aload_n h (pc := 13) (kf := 0) 0 (by decide +kernel) rfl) ?_
  refine zfmc (r_getf h (pc := 14) (ix := 44) (by decide +kernel) ckX6 8 (by decide) wk_156a63584d) ?_
  refine zfmc (r_iload_n h (pc := 17) (kf := 1) 1 (by decide +kernel) rfl) ?_
  refine zfmc (r_aload_n h (pc := 18) (kf := 2) 2 (by decide +kernel) rfl) ?_
  refine zfmc (r_aastoreS h (pc := 19) (by decide +kernel) (zx_sgO h.ok)) ?_
  refine zfmc (r_aload_n h (pc := 20) (kf := 0) 0 (by decide +kernel) rfl) ?_
  refine zfmc (r_getf h (pc := 21) (ix := 48) (by decide +kernel) ckX6 9 (by decide) wk_f84c93dde5) ?_
  refine zfmc (r_iload_n h (pc := 24) (kf := 1) 1 (by decide +kernel) rfl) ?_
  refine zfmc (r_iconst h (pc := 25) (z := 0) (by decide +kernel) (0) (by decide +kernel)) ?_
  refine zfmc (r_callV h (pc := 26) (ix := 78) (by decide +kernel) ckX5 2 mcX5_set wk_ccb0d228aa wk_b17e35628b wk_4515af4f52 rfl) ?_
  refine zfmc (r_aload_n h (pc := 29) (kf := 0) 0 (by decide +kernel) rfl) ?_
  refine zfmc (r_getf h (pc := 30) (ix := 51) (by decide +kernel) ckX6 10 (by decide) wk_e3815e1f6d) ?_
  refine zfmc (r_iload_n h (pc := 33) (kf := 1) 1 (by decide +kernel) rfl) ?_
  refine zfmc (r_iload_n h (pc := 34) (kf := 3) 3 (by decide +kernel) rfl) ?_
  refine zfmc (r_callV h (pc := 35) (ix := 78) (by decide +kernel) ckX5 2 mcX5_set wk_ccb0d228aa wk_b17e35628b wk_4515af4f52 rfl) ?_
  refine zfmc (r_return h (pc := 38) (by decide +kernel) rfl) ?_
  exact zfm0)
section
variable {E : ZEX} {d mc ms : Nat} {cut : Nat → Bool} {G : ZCont} {R : ZRtn} {T : ZTT} {Z : Nat → ZCont}
theorem f_X4_init_0 (hZ : ZRN (ztb (tb_X4_init E d mc ms)) cut G R T Z) (f : Nat) (L : ZLV) (st : List Value) (σ : ZHp) (n k w : Nat) : Z (f + 1) 0 L st σ n k w = s_aload 0 1 L st σ n k w (zk1 cut G (Z f)) G R T := zrs hZ rfl f L st σ n k w
theorem f_X4_init_1 (hZ : ZRN (ztb (tb_X4_init E d mc ms)) cut G R T Z) (f : Nat) (L : ZLV) (st : List Value) (σ : ZHp) (n k w : Nat) : Z (f + 1) 1 L st σ n k w = s_objinit d 4 L st σ n k w (zk1 cut G (Z f)) G R T := zrs hZ rfl f L st σ n k w
theorem f_X4_init_4 (hZ : ZRN (ztb (tb_X4_init E d mc ms)) cut G R T Z) (f : Nat) (L : ZLV) (st : List Value) (σ : ZHp) (n k w : Nat) : Z (f + 1) 4 L st σ n k w = s_aload 0 5 L st σ n k w (zk1 cut G (Z f)) G R T := zrs hZ rfl f L st σ n k w
theorem f_X4_init_5 (hZ : ZRN (ztb (tb_X4_init E d mc ms)) cut G R T Z) (f : Nat) (L : ZLV) (st : List Value) (σ : ZHp) (n k w : Nat) : Z (f + 1) 5 L st σ n k w = s_new 4 2 fsX5 mc ms 8 L st σ n k w (zk1 cut G (Z f)) G R T := zrs hZ rfl f L st σ n k w
theorem f_X4_init_8 (hZ : ZRN (ztb (tb_X4_init E d mc ms)) cut G R T Z) (f : Nat) (L : ZLV) (st : List Value) (σ : ZHp) (n k w : Nat) : Z (f + 1) 8 L st σ n k w = s_dup 9 L st σ n k w (zk1 cut G (Z f)) G R T := zrs hZ rfl f L st σ n k w
theorem f_X4_init_9 (hZ : ZRN (ztb (tb_X4_init E d mc ms)) cut G R T Z) (f : Nat) (L : ZLV) (st : List Value) (σ : ZHp) (n k w : Nat) : Z (f + 1) 9 L st σ n k w = s_const (.int (10)) 11 L st σ n k w (zk1 cut G (Z f)) G R T := zrs hZ rfl f L st σ n k w
theorem f_X4_init_11 (hZ : ZRN (ztb (tb_X4_init E d mc ms)) cut G R T Z) (f : Nat) (L : ZLV) (st : List Value) (σ : ZHp) (n k w : Nat) : Z (f + 1) 11 L st σ n k w = s_callI E d mc ms MX5_init 1 14 L st σ n k w (zk1 cut G (Z f)) G R T := zrs hZ rfl f L st σ n k w
theorem f_X4_init_14 (hZ : ZRN (ztb (tb_X4_init E d mc ms)) cut G R T Z) (f : Nat) (L : ZLV) (st : List Value) (σ : ZHp) (n k w : Nat) : Z (f + 1) 14 L st σ n k w = s_putf 3 0 3 17 L st σ n k w (zk1 cut G (Z f)) G R T := zrs hZ rfl f L st σ n k w
theorem f_X4_init_17 (hZ : ZRN (ztb (tb_X4_init E d mc ms)) cut G R T Z) (f : Nat) (L : ZLV) (st : List Value) (σ : ZHp) (n k w : Nat) : Z (f + 1) 17 L st σ n k w = s_aload 0 18 L st σ n k w (zk1 cut G (Z f)) G R T := zrs hZ rfl f L st σ n k w
theorem f_X4_init_18 (hZ : ZRN (ztb (tb_X4_init E d mc ms)) cut G R T Z) (f : Nat) (L : ZLV) (st : List Value) (σ : ZHp) (n k w : Nat) : Z (f + 1) 18 L st σ n k w = s_new 4 2 fsX5 mc ms 21 L st σ n k w (zk1 cut G (Z f)) G R T := zrs hZ rfl f L st σ n k w
theorem f_X4_init_21 (hZ : ZRN (ztb (tb_X4_init E d mc ms)) cut G R T Z) (f : Nat) (L : ZLV) (st : List Value) (σ : ZHp) (n k w : Nat) : Z (f + 1) 21 L st σ n k w = s_dup 22 L st σ n k w (zk1 cut G (Z f)) G R T := zrs hZ rfl f L st σ n k w
theorem f_X4_init_22 (hZ : ZRN (ztb (tb_X4_init E d mc ms)) cut G R T Z) (f : Nat) (L : ZLV) (st : List Value) (σ : ZHp) (n k w : Nat) : Z (f + 1) 22 L st σ n k w = s_const (.int (10)) 24 L st σ n k w (zk1 cut G (Z f)) G R T := zrs hZ rfl f L st σ n k w
theorem f_X4_init_24 (hZ : ZRN (ztb (tb_X4_init E d mc ms)) cut G R T Z) (f : Nat) (L : ZLV) (st : List Value) (σ : ZHp) (n k w : Nat) : Z (f + 1) 24 L st σ n k w = s_callI E d mc ms MX5_init 1 27 L st σ n k w (zk1 cut G (Z f)) G R T := zrs hZ rfl f L st σ n k w
theorem f_X4_init_27 (hZ : ZRN (ztb (tb_X4_init E d mc ms)) cut G R T Z) (f : Nat) (L : ZLV) (st : List Value) (σ : ZHp) (n k w : Nat) : Z (f + 1) 27 L st σ n k w = s_putf 3 1 3 30 L st σ n k w (zk1 cut G (Z f)) G R T := zrs hZ rfl f L st σ n k w
theorem f_X4_init_30 (hZ : ZRN (ztb (tb_X4_init E d mc ms)) cut G R T Z) (f : Nat) (L : ZLV) (st : List Value) (σ : ZHp) (n k w : Nat) : Z (f + 1) 30 L st σ n k w = s_aload 0 31 L st σ n k w (zk1 cut G (Z f)) G R T := zrs hZ rfl f L st σ n k w
theorem f_X4_init_31 (hZ : ZRN (ztb (tb_X4_init E d mc ms)) cut G R T Z) (f : Nat) (L : ZLV) (st : List Value) (σ : ZHp) (n k w : Nat) : Z (f + 1) 31 L st σ n k w = s_new 4 2 fsX5 mc ms 34 L st σ n k w (zk1 cut G (Z f)) G R T := zrs hZ rfl f L st σ n k w
theorem f_X4_init_34 (hZ : ZRN (ztb (tb_X4_init E d mc ms)) cut G R T Z) (f : Nat) (L : ZLV) (st : List Value) (σ : ZHp) (n k w : Nat) : Z (f + 1) 34 L st σ n k w = s_dup 35 L st σ n k w (zk1 cut G (Z f)) G R T := zrs hZ rfl f L st σ n k w
theorem f_X4_init_35 (hZ : ZRN (ztb (tb_X4_init E d mc ms)) cut G R T Z) (f : Nat) (L : ZLV) (st : List Value) (σ : ZHp) (n k w : Nat) : Z (f + 1) 35 L st σ n k w = s_const (.int (10)) 37 L st σ n k w (zk1 cut G (Z f)) G R T := zrs hZ rfl f L st σ n k w
theorem f_X4_init_37 (hZ : ZRN (ztb (tb_X4_init E d mc ms)) cut G R T Z) (f : Nat) (L : ZLV) (st : List Value) (σ : ZHp) (n k w : Nat) : Z (f + 1) 37 L st σ n k w = s_callI E d mc ms MX5_init 1 40 L st σ n k w (zk1 cut G (Z f)) G R T := zrs hZ rfl f L st σ n k w
theorem f_X4_init_40 (hZ : ZRN (ztb (tb_X4_init E d mc ms)) cut G R T Z) (f : Nat) (L : ZLV) (st : List Value) (σ : ZHp) (n k w : Nat) : Z (f + 1) 40 L st σ n k w = s_putf 3 2 3 43 L st σ n k w (zk1 cut G (Z f)) G R T := zrs hZ rfl f L st σ n k w
theorem f_X4_init_43 (hZ : ZRN (ztb (tb_X4_init E d mc ms)) cut G R T Z) (f : Nat) (L : ZLV) (st : List Value) (σ : ZHp) (n k w : Nat) : Z (f + 1) 43 L st σ n k w = s_aload 0 44 L st σ n k w (zk1 cut G (Z f)) G R T := zrs hZ rfl f L st σ n k w
theorem f_X4_init_44 (hZ : ZRN (ztb (tb_X4_init E d mc ms)) cut G R T Z) (f : Nat) (L : ZLV) (st : List Value) (σ : ZHp) (n k w : Nat) : Z (f + 1) 44 L st σ n k w = s_const (.int (4)) 45 L st σ n k w (zk1 cut G (Z f)) G R T := zrs hZ rfl f L st σ n k w
theorem f_X4_init_45 (hZ : ZRN (ztb (tb_X4_init E d mc ms)) cut G R T Z) (f : Nat) (L : ZLV) (st : List Value) (σ : ZHp) (n k w : Nat) : Z (f + 1) 45 L st σ n k w = s_anewT E mc ms 48 L st σ n k w (zk1 cut G (Z f)) G R T := zrs hZ rfl f L st σ n k w
theorem f_X4_init_48 (hZ : ZRN (ztb (tb_X4_init E d mc ms)) cut G R T Z) (f : Nat) (L : ZLV) (st : List Value) (σ : ZHp) (n k w : Nat) : Z (f + 1) 48 L st σ n k w = s_putf 3 3 3 51 L st σ n k w (zk1 cut G (Z f)) G R T := zrs hZ rfl f L st σ n k w
theorem f_X4_init_51 (hZ : ZRN (ztb (tb_X4_init E d mc ms)) cut G R T Z) (f : Nat) (L : ZLV) (st : List Value) (σ : ZHp) (n k w : Nat) : Z (f + 1) 51 L st σ n k w = s_aload 0 52 L st σ n k w (zk1 cut G (Z f)) G R T := zrs hZ rfl f L st σ n k w
theorem f_X4_init_52 (hZ : ZRN (ztb (tb_X4_init E d mc ms)) cut G R T Z) (f : Nat) (L : ZLV) (st : List Value) (σ : ZHp) (n k w : Nat) : Z (f + 1) 52 L st σ n k w = s_new 10 10 fsX11 mc ms 55 L st σ n k w (zk1 cut G (Z f)) G R T := zrs hZ rfl f L st σ n k w
theorem f_X4_init_55 (hZ : ZRN (ztb (tb_X4_init E d mc ms)) cut G R T Z) (f : Nat) (L : ZLV) (st : List Value) (σ : ZHp) (n k w : Nat) : Z (f + 1) 55 L st σ n k w = s_dup 56 L st σ n k w (zk1 cut G (Z f)) G R T := zrs hZ rfl f L st σ n k w
theorem f_X4_init_56 (hZ : ZRN (ztb (tb_X4_init E d mc ms)) cut G R T Z) (f : Nat) (L : ZLV) (st : List Value) (σ : ZHp) (n k w : Nat) : Z (f + 1) 56 L st σ n k w = s_callI E d mc ms MX11_init 0 59 L st σ n k w (zk1 cut G (Z f)) G R T := zrs hZ rfl f L st σ n k w
theorem f_X4_init_59 (hZ : ZRN (ztb (tb_X4_init E d mc ms)) cut G R T Z) (f : Nat) (L : ZLV) (st : List Value) (σ : ZHp) (n k w : Nat) : Z (f + 1) 59 L st σ n k w = s_putf 3 4 3 62 L st σ n k w (zk1 cut G (Z f)) G R T := zrs hZ rfl f L st σ n k w
theorem f_X4_init_62 (hZ : ZRN (ztb (tb_X4_init E d mc ms)) cut G R T Z) (f : Nat) (L : ZLV) (st : List Value) (σ : ZHp) (n k w : Nat) : Z (f + 1) 62 L st σ n k w = s_aload 0 63 L st σ n k w (zk1 cut G (Z f)) G R T := zrs hZ rfl f L st σ n k w
theorem f_X4_init_63 (hZ : ZRN (ztb (tb_X4_init E d mc ms)) cut G R T Z) (f : Nat) (L : ZLV) (st : List Value) (σ : ZHp) (n k w : Nat) : Z (f + 1) 63 L st σ n k w = s_new 5 15 fsX6 mc ms 66 L st σ n k w (zk1 cut G (Z f)) G R T := zrs hZ rfl f L st σ n k w
theorem f_X4_init_66 (hZ : ZRN (ztb (tb_X4_init E d mc ms)) cut G R T Z) (f : Nat) (L : ZLV) (st : List Value) (σ : ZHp) (n k w : Nat) : Z (f + 1) 66 L st σ n k w = s_dup 67 L st σ n k w (zk1 cut G (Z f)) G R T := zrs hZ rfl f L st σ n k w
theorem f_X4_init_67 (hZ : ZRN (ztb (tb_X4_init E d mc ms)) cut G R T Z) (f : Nat) (L : ZLV) (st : List Value) (σ : ZHp) (n k w : Nat) : Z (f + 1) 67 L st σ n k w = s_callI E d mc ms MX6_init 0 70 L st σ n k w (zk1 cut G (Z f)) G R T := zrs hZ rfl f L st σ n k w
theorem f_X4_init_70 (hZ : ZRN (ztb (tb_X4_init E d mc ms)) cut G R T Z) (f : Nat) (L : ZLV) (st : List Value) (σ : ZHp) (n k w : Nat) : Z (f + 1) 70 L st σ n k w = s_putf 3 5 3 73 L st σ n k w (zk1 cut G (Z f)) G R T := zrs hZ rfl f L st σ n k w
theorem f_X4_init_73 (hZ : ZRN (ztb (tb_X4_init E d mc ms)) cut G R T Z) (f : Nat) (L : ZLV) (st : List Value) (σ : ZHp) (n k w : Nat) : Z (f + 1) 73 L st σ n k w = s_aload 0 74 L st σ n k w (zk1 cut G (Z f)) G R T := zrs hZ rfl f L st σ n k w
theorem f_X4_init_74 (hZ : ZRN (ztb (tb_X4_init E d mc ms)) cut G R T Z) (f : Nat) (L : ZLV) (st : List Value) (σ : ZHp) (n k w : Nat) : Z (f + 1) 74 L st σ n k w = s_const (.int (0)) 75 L st σ n k w (zk1 cut G (Z f)) G R T := zrs hZ rfl f L st σ n k w
theorem f_X4_init_75 (hZ : ZRN (ztb (tb_X4_init E d mc ms)) cut G R T Z) (f : Nat) (L : ZLV) (st : List Value) (σ : ZHp) (n k w : Nat) : Z (f + 1) 75 L st σ n k w = s_putf 3 6 0 78 L st σ n k w (zk1 cut G (Z f)) G R T := zrs hZ rfl f L st σ n k w
theorem f_X4_init_78 (hZ : ZRN (ztb (tb_X4_init E d mc ms)) cut G R T Z) (f : Nat) (L : ZLV) (st : List Value) (σ : ZHp) (n k w : Nat) : Z (f + 1) 78 L st σ n k w = s_const (.int (0)) 79 L st σ n k w (zk1 cut G (Z f)) G R T := zrs hZ rfl f L st σ n k w
theorem f_X4_init_79 (hZ : ZRN (ztb (tb_X4_init E d mc ms)) cut G R T Z) (f : Nat) (L : ZLV) (st : List Value) (σ : ZHp) (n k w : Nat) : Z (f + 1) 79 L st σ n k w = s_istore 1 80 L st σ n k w (zk1 cut G (Z f)) G R T := zrs hZ rfl f L st σ n k w
theorem f_X4_init_80 (hZ : ZRN (ztb (tb_X4_init E d mc ms)) cut G R T Z) (f : Nat) (L : ZLV) (st : List Value) (σ : ZHp) (n k w : Nat) : Z (f + 1) 80 L st σ n k w = s_iload 1 81 L st σ n k w (zk1 cut G (Z f)) G R T := zrs hZ rfl f L st σ n k w
theorem f_X4_init_81 (hZ : ZRN (ztb (tb_X4_init E d mc ms)) cut G R T Z) (f : Nat) (L : ZLV) (st : List Value) (σ : ZHp) (n k w : Nat) : Z (f + 1) 81 L st σ n k w = s_aload 0 82 L st σ n k w (zk1 cut G (Z f)) G R T := zrs hZ rfl f L st σ n k w
theorem f_X4_init_82 (hZ : ZRN (ztb (tb_X4_init E d mc ms)) cut G R T Z) (f : Nat) (L : ZLV) (st : List Value) (σ : ZHp) (n k w : Nat) : Z (f + 1) 82 L st σ n k w = s_getf 3 3 85 L st σ n k w (zk1 cut G (Z f)) G R T := zrs hZ rfl f L st σ n k w
theorem f_X4_init_85 (hZ : ZRN (ztb (tb_X4_init E d mc ms)) cut G R T Z) (f : Nat) (L : ZLV) (st : List Value) (σ : ZHp) (n k w : Nat) : Z (f + 1) 85 L st σ n k w = s_alen E 86 L st σ n k w (zk1 cut G (Z f)) G R T := zrs hZ rfl f L st σ n k w
theorem f_X4_init_86 (hZ : ZRN (ztb (tb_X4_init E d mc ms)) cut G R T Z) (f : Nat) (L : ZLV) (st : List Value) (σ : ZHp) (n k w : Nat) : Z (f + 1) 86 L st σ n k w = s_icmp_ge 108 89 L st σ n k w (zk1 cut G (Z f)) G R T := zrs hZ rfl f L st σ n k w
theorem f_X4_init_89 (hZ : ZRN (ztb (tb_X4_init E d mc ms)) cut G R T Z) (f : Nat) (L : ZLV) (st : List Value) (σ : ZHp) (n k w : Nat) : Z (f + 1) 89 L st σ n k w = s_aload 0 90 L st σ n k w (zk1 cut G (Z f)) G R T := zrs hZ rfl f L st σ n k w
theorem f_X4_init_90 (hZ : ZRN (ztb (tb_X4_init E d mc ms)) cut G R T Z) (f : Nat) (L : ZLV) (st : List Value) (σ : ZHp) (n k w : Nat) : Z (f + 1) 90 L st σ n k w = s_getf 3 3 93 L st σ n k w (zk1 cut G (Z f)) G R T := zrs hZ rfl f L st σ n k w
theorem f_X4_init_93 (hZ : ZRN (ztb (tb_X4_init E d mc ms)) cut G R T Z) (f : Nat) (L : ZLV) (st : List Value) (σ : ZHp) (n k w : Nat) : Z (f + 1) 93 L st σ n k w = s_iload 1 94 L st σ n k w (zk1 cut G (Z f)) G R T := zrs hZ rfl f L st σ n k w
theorem f_X4_init_94 (hZ : ZRN (ztb (tb_X4_init E d mc ms)) cut G R T Z) (f : Nat) (L : ZLV) (st : List Value) (σ : ZHp) (n k w : Nat) : Z (f + 1) 94 L st σ n k w = s_new 10 10 fsX11 mc ms 97 L st σ n k w (zk1 cut G (Z f)) G R T := zrs hZ rfl f L st σ n k w
theorem f_X4_init_97 (hZ : ZRN (ztb (tb_X4_init E d mc ms)) cut G R T Z) (f : Nat) (L : ZLV) (st : List Value) (σ : ZHp) (n k w : Nat) : Z (f + 1) 97 L st σ n k w = s_dup 98 L st σ n k w (zk1 cut G (Z f)) G R T := zrs hZ rfl f L st σ n k w
theorem f_X4_init_98 (hZ : ZRN (ztb (tb_X4_init E d mc ms)) cut G R T Z) (f : Nat) (L : ZLV) (st : List Value) (σ : ZHp) (n k w : Nat) : Z (f + 1) 98 L st σ n k w = s_callI E d mc ms MX11_init 0 101 L st σ n k w (zk1 cut G (Z f)) G R T := zrs hZ rfl f L st σ n k w
theorem f_X4_init_101 (hZ : ZRN (ztb (tb_X4_init E d mc ms)) cut G R T Z) (f : Nat) (L : ZLV) (st : List Value) (σ : ZHp) (n k w : Nat) : Z (f + 1) 101 L st σ n k w = s_aastoreT E 102 L st σ n k w (zk1 cut G (Z f)) G R T := zrs hZ rfl f L st σ n k w
theorem f_X4_init_102 (hZ : ZRN (ztb (tb_X4_init E d mc ms)) cut G R T Z) (f : Nat) (L : ZLV) (st : List Value) (σ : ZHp) (n k w : Nat) : Z (f + 1) 102 L st σ n k w = s_iinc 1 (1) 105 L st σ n k w (zk1 cut G (Z f)) G R T := zrs hZ rfl f L st σ n k w
theorem f_X4_init_105 (hZ : ZRN (ztb (tb_X4_init E d mc ms)) cut G R T Z) (f : Nat) (L : ZLV) (st : List Value) (σ : ZHp) (n k w : Nat) : Z (f + 1) 105 L st σ n k w = s_goto 80 L st σ n k w (zk1 cut G (Z f)) G R T := zrs hZ rfl f L st σ n k w
theorem f_X4_init_108 (hZ : ZRN (ztb (tb_X4_init E d mc ms)) cut G R T Z) (f : Nat) (L : ZLV) (st : List Value) (σ : ZHp) (n k w : Nat) : Z (f + 1) 108 L st σ n k w = s_return L st σ n k w (zk1 cut G (Z f)) G R T := zrs hZ rfl f L st σ n k w
theorem f_X4_begin_0 (hZ : ZRN (ztb (tb_X4_begin E d mc ms)) cut G R T Z) (f : Nat) (L : ZLV) (st : List Value) (σ : ZHp) (n k w : Nat) : Z (f + 1) 0 L st σ n k w = s_aload 0 1 L st σ n k w (zk1 cut G (Z f)) G R T := zrs hZ rfl f L st σ n k w
theorem f_X4_begin_1 (hZ : ZRN (ztb (tb_X4_begin E d mc ms)) cut G R T Z) (f : Nat) (L : ZLV) (st : List Value) (σ : ZHp) (n k w : Nat) : Z (f + 1) 1 L st σ n k w = s_aload 1 2 L st σ n k w (zk1 cut G (Z f)) G R T := zrs hZ rfl f L st σ n k w
theorem f_X4_begin_2 (hZ : ZRN (ztb (tb_X4_begin E d mc ms)) cut G R T Z) (f : Nat) (L : ZLV) (st : List Value) (σ : ZHp) (n k w : Nat) : Z (f + 1) 2 L st σ n k w = s_putf 3 5 3 5 L st σ n k w (zk1 cut G (Z f)) G R T := zrs hZ rfl f L st σ n k w
theorem f_X4_begin_5 (hZ : ZRN (ztb (tb_X4_begin E d mc ms)) cut G R T Z) (f : Nat) (L : ZLV) (st : List Value) (σ : ZHp) (n k w : Nat) : Z (f + 1) 5 L st σ n k w = s_aload 0 6 L st σ n k w (zk1 cut G (Z f)) G R T := zrs hZ rfl f L st σ n k w
theorem f_X4_begin_6 (hZ : ZRN (ztb (tb_X4_begin E d mc ms)) cut G R T Z) (f : Nat) (L : ZLV) (st : List Value) (σ : ZHp) (n k w : Nat) : Z (f + 1) 6 L st σ n k w = s_const (.int (0)) 7 L st σ n k w (zk1 cut G (Z f)) G R T := zrs hZ rfl f L st σ n k w
theorem f_X4_begin_7 (hZ : ZRN (ztb (tb_X4_begin E d mc ms)) cut G R T Z) (f : Nat) (L : ZLV) (st : List Value) (σ : ZHp) (n k w : Nat) : Z (f + 1) 7 L st σ n k w = s_putf 3 6 0 10 L st σ n k w (zk1 cut G (Z f)) G R T := zrs hZ rfl f L st σ n k w
theorem f_X4_begin_10 (hZ : ZRN (ztb (tb_X4_begin E d mc ms)) cut G R T Z) (f : Nat) (L : ZLV) (st : List Value) (σ : ZHp) (n k w : Nat) : Z (f + 1) 10 L st σ n k w = s_aload 0 11 L st σ n k w (zk1 cut G (Z f)) G R T := zrs hZ rfl f L st σ n k w
theorem f_X4_begin_11 (hZ : ZRN (ztb (tb_X4_begin E d mc ms)) cut G R T Z) (f : Nat) (L : ZLV) (st : List Value) (σ : ZHp) (n k w : Nat) : Z (f + 1) 11 L st σ n k w = s_getf 3 0 14 L st σ n k w (zk1 cut G (Z f)) G R T := zrs hZ rfl f L st σ n k w
theorem f_X4_begin_14 (hZ : ZRN (ztb (tb_X4_begin E d mc ms)) cut G R T Z) (f : Nat) (L : ZLV) (st : List Value) (σ : ZHp) (n k w : Nat) : Z (f + 1) 14 L st σ n k w = s_aload 1 15 L st σ n k w (zk1 cut G (Z f)) G R T := zrs hZ rfl f L st σ n k w
theorem f_X4_begin_15 (hZ : ZRN (ztb (tb_X4_begin E d mc ms)) cut G R T Z) (f : Nat) (L : ZLV) (st : List Value) (σ : ZHp) (n k w : Nat) : Z (f + 1) 15 L st σ n k w = s_getf 5 5 18 L st σ n k w (zk1 cut G (Z f)) G R T := zrs hZ rfl f L st σ n k w
theorem f_X4_begin_18 (hZ : ZRN (ztb (tb_X4_begin E d mc ms)) cut G R T Z) (f : Nat) (L : ZLV) (st : List Value) (σ : ZHp) (n k w : Nat) : Z (f + 1) 18 L st σ n k w = s_callV E d mc ms 4 MX5_copy 1 21 L st σ n k w (zk1 cut G (Z f)) G R T := zrs hZ rfl f L st σ n k w
theorem f_X4_begin_21 (hZ : ZRN (ztb (tb_X4_begin E d mc ms)) cut G R T Z) (f : Nat) (L : ZLV) (st : List Value) (σ : ZHp) (n k w : Nat) : Z (f + 1) 21 L st σ n k w = s_aload 0 22 L st σ n k w (zk1 cut G (Z f)) G R T := zrs hZ rfl f L st σ n k w
theorem f_X4_begin_22 (hZ : ZRN (ztb (tb_X4_begin E d mc ms)) cut G R T Z) (f : Nat) (L : ZLV) (st : List Value) (σ : ZHp) (n k w : Nat) : Z (f + 1) 22 L st σ n k w = s_getf 3 1 25 L st σ n k w (zk1 cut G (Z f)) G R T := zrs hZ rfl f L st σ n k w
theorem f_X4_begin_25 (hZ : ZRN (ztb (tb_X4_begin E d mc ms)) cut G R T Z) (f : Nat) (L : ZLV) (st : List Value) (σ : ZHp) (n k w : Nat) : Z (f + 1) 25 L st σ n k w = s_callV E d mc ms 4 MX5_clear 0 28 L st σ n k w (zk1 cut G (Z f)) G R T := zrs hZ rfl f L st σ n k w
theorem f_X4_begin_28 (hZ : ZRN (ztb (tb_X4_begin E d mc ms)) cut G R T Z) (f : Nat) (L : ZLV) (st : List Value) (σ : ZHp) (n k w : Nat) : Z (f + 1) 28 L st σ n k w = s_aload 0 29 L st σ n k w (zk1 cut G (Z f)) G R T := zrs hZ rfl f L st σ n k w
theorem f_X4_begin_29 (hZ : ZRN (ztb (tb_X4_begin E d mc ms)) cut G R T Z) (f : Nat) (L : ZLV) (st : List Value) (σ : ZHp) (n k w : Nat) : Z (f + 1) 29 L st σ n k w = s_getf 3 2 32 L st σ n k w (zk1 cut G (Z f)) G R T := zrs hZ rfl f L st σ n k w
theorem f_X4_begin_32 (hZ : ZRN (ztb (tb_X4_begin E d mc ms)) cut G R T Z) (f : Nat) (L : ZLV) (st : List Value) (σ : ZHp) (n k w : Nat) : Z (f + 1) 32 L st σ n k w = s_callV E d mc ms 4 MX5_clear 0 35 L st σ n k w (zk1 cut G (Z f)) G R T := zrs hZ rfl f L st σ n k w
theorem f_X4_begin_35 (hZ : ZRN (ztb (tb_X4_begin E d mc ms)) cut G R T Z) (f : Nat) (L : ZLV) (st : List Value) (σ : ZHp) (n k w : Nat) : Z (f + 1) 35 L st σ n k w = s_const (.int (0)) 36 L st σ n k w (zk1 cut G (Z f)) G R T := zrs hZ rfl f L st σ n k w
theorem f_X4_begin_36 (hZ : ZRN (ztb (tb_X4_begin E d mc ms)) cut G R T Z) (f : Nat) (L : ZLV) (st : List Value) (σ : ZHp) (n k w : Nat) : Z (f + 1) 36 L st σ n k w = s_istore 2 37 L st σ n k w (zk1 cut G (Z f)) G R T := zrs hZ rfl f L st σ n k w
theorem f_X4_begin_37 (hZ : ZRN (ztb (tb_X4_begin E d mc ms)) cut G R T Z) (f : Nat) (L : ZLV) (st : List Value) (σ : ZHp) (n k w : Nat) : Z (f + 1) 37 L st σ n k w = s_iload 2 38 L st σ n k w (zk1 cut G (Z f)) G R T := zrs hZ rfl f L st σ n k w
theorem f_X4_begin_38 (hZ : ZRN (ztb (tb_X4_begin E d mc ms)) cut G R T Z) (f : Nat) (L : ZLV) (st : List Value) (σ : ZHp) (n k w : Nat) : Z (f + 1) 38 L st σ n k w = s_const (.int (4)) 39 L st σ n k w (zk1 cut G (Z f)) G R T := zrs hZ rfl f L st σ n k w
theorem f_X4_begin_39 (hZ : ZRN (ztb (tb_X4_begin E d mc ms)) cut G R T Z) (f : Nat) (L : ZLV) (st : List Value) (σ : ZHp) (n k w : Nat) : Z (f + 1) 39 L st σ n k w = s_icmp_ge 61 42 L st σ n k w (zk1 cut G (Z f)) G R T := zrs hZ rfl f L st σ n k w
theorem f_X4_begin_42 (hZ : ZRN (ztb (tb_X4_begin E d mc ms)) cut G R T Z) (f : Nat) (L : ZLV) (st : List Value) (σ : ZHp) (n k w : Nat) : Z (f + 1) 42 L st σ n k w = s_aload 0 43 L st σ n k w (zk1 cut G (Z f)) G R T := zrs hZ rfl f L st σ n k w
theorem f_X4_begin_43 (hZ : ZRN (ztb (tb_X4_begin E d mc ms)) cut G R T Z) (f : Nat) (L : ZLV) (st : List Value) (σ : ZHp) (n k w : Nat) : Z (f + 1) 43 L st σ n k w = s_iload 2 44 L st σ n k w (zk1 cut G (Z f)) G R T := zrs hZ rfl f L st σ n k w
theorem f_X4_begin_44 (hZ : ZRN (ztb (tb_X4_begin E d mc ms)) cut G R T Z) (f : Nat) (L : ZLV) (st : List Value) (σ : ZHp) (n k w : Nat) : Z (f + 1) 44 L st σ n k w = s_callV E d mc ms 3 MX4_trader 1 47 L st σ n k w (zk1 cut G (Z f)) G R T := zrs hZ rfl f L st σ n k w
theorem f_X4_begin_47 (hZ : ZRN (ztb (tb_X4_begin E d mc ms)) cut G R T Z) (f : Nat) (L : ZLV) (st : List Value) (σ : ZHp) (n k w : Nat) : Z (f + 1) 47 L st σ n k w = s_iload 2 48 L st σ n k w (zk1 cut G (Z f)) G R T := zrs hZ rfl f L st σ n k w
theorem f_X4_begin_48 (hZ : ZRN (ztb (tb_X4_begin E d mc ms)) cut G R T Z) (f : Nat) (L : ZLV) (st : List Value) (σ : ZHp) (n k w : Nat) : Z (f + 1) 48 L st σ n k w = s_aload 1 49 L st σ n k w (zk1 cut G (Z f)) G R T := zrs hZ rfl f L st σ n k w
theorem f_X4_begin_49 (hZ : ZRN (ztb (tb_X4_begin E d mc ms)) cut G R T Z) (f : Nat) (L : ZLV) (st : List Value) (σ : ZHp) (n k w : Nat) : Z (f + 1) 49 L st σ n k w = s_getf 5 6 52 L st σ n k w (zk1 cut G (Z f)) G R T := zrs hZ rfl f L st σ n k w
theorem f_X4_begin_52 (hZ : ZRN (ztb (tb_X4_begin E d mc ms)) cut G R T Z) (f : Nat) (L : ZLV) (st : List Value) (σ : ZHp) (n k w : Nat) : Z (f + 1) 52 L st σ n k w = s_callV E d mc ms 10 MX11_begin 2 55 L st σ n k w (zk1 cut G (Z f)) G R T := zrs hZ rfl f L st σ n k w
theorem f_X4_begin_55 (hZ : ZRN (ztb (tb_X4_begin E d mc ms)) cut G R T Z) (f : Nat) (L : ZLV) (st : List Value) (σ : ZHp) (n k w : Nat) : Z (f + 1) 55 L st σ n k w = s_iinc 2 (1) 58 L st σ n k w (zk1 cut G (Z f)) G R T := zrs hZ rfl f L st σ n k w
theorem f_X4_begin_58 (hZ : ZRN (ztb (tb_X4_begin E d mc ms)) cut G R T Z) (f : Nat) (L : ZLV) (st : List Value) (σ : ZHp) (n k w : Nat) : Z (f + 1) 58 L st σ n k w = s_goto 37 L st σ n k w (zk1 cut G (Z f)) G R T := zrs hZ rfl f L st σ n k w
theorem f_X4_begin_61 (hZ : ZRN (ztb (tb_X4_begin E d mc ms)) cut G R T Z) (f : Nat) (L : ZLV) (st : List Value) (σ : ZHp) (n k w : Nat) : Z (f + 1) 61 L st σ n k w = s_return L st σ n k w (zk1 cut G (Z f)) G R T := zrs hZ rfl f L st σ n k w
theorem f_X4_copy_0 (hZ : ZRN (ztb (tb_X4_copy E d mc ms)) cut G R T Z) (f : Nat) (L : ZLV) (st : List Value) (σ : ZHp) (n k w : Nat) : Z (f + 1) 0 L st σ n k w = s_aload 0 1 L st σ n k w (zk1 cut G (Z f)) G R T := zrs hZ rfl f L st σ n k w
theorem f_X4_copy_1 (hZ : ZRN (ztb (tb_X4_copy E d mc ms)) cut G R T Z) (f : Nat) (L : ZLV) (st : List Value) (σ : ZHp) (n k w : Nat) : Z (f + 1) 1 L st σ n k w = s_aload 1 2 L st σ n k w (zk1 cut G (Z f)) G R T := zrs hZ rfl f L st σ n k w
theorem f_X4_copy_2 (hZ : ZRN (ztb (tb_X4_copy E d mc ms)) cut G R T Z) (f : Nat) (L : ZLV) (st : List Value) (σ : ZHp) (n k w : Nat) : Z (f + 1) 2 L st σ n k w = s_getf 3 5 5 L st σ n k w (zk1 cut G (Z f)) G R T := zrs hZ rfl f L st σ n k w
theorem f_X4_copy_5 (hZ : ZRN (ztb (tb_X4_copy E d mc ms)) cut G R T Z) (f : Nat) (L : ZLV) (st : List Value) (σ : ZHp) (n k w : Nat) : Z (f + 1) 5 L st σ n k w = s_putf 3 5 3 8 L st σ n k w (zk1 cut G (Z f)) G R T := zrs hZ rfl f L st σ n k w
theorem f_X4_copy_8 (hZ : ZRN (ztb (tb_X4_copy E d mc ms)) cut G R T Z) (f : Nat) (L : ZLV) (st : List Value) (σ : ZHp) (n k w : Nat) : Z (f + 1) 8 L st σ n k w = s_aload 0 9 L st σ n k w (zk1 cut G (Z f)) G R T := zrs hZ rfl f L st σ n k w
theorem f_X4_copy_9 (hZ : ZRN (ztb (tb_X4_copy E d mc ms)) cut G R T Z) (f : Nat) (L : ZLV) (st : List Value) (σ : ZHp) (n k w : Nat) : Z (f + 1) 9 L st σ n k w = s_aload 1 10 L st σ n k w (zk1 cut G (Z f)) G R T := zrs hZ rfl f L st σ n k w
theorem f_X4_copy_10 (hZ : ZRN (ztb (tb_X4_copy E d mc ms)) cut G R T Z) (f : Nat) (L : ZLV) (st : List Value) (σ : ZHp) (n k w : Nat) : Z (f + 1) 10 L st σ n k w = s_getf 3 6 13 L st σ n k w (zk1 cut G (Z f)) G R T := zrs hZ rfl f L st σ n k w
theorem f_X4_copy_13 (hZ : ZRN (ztb (tb_X4_copy E d mc ms)) cut G R T Z) (f : Nat) (L : ZLV) (st : List Value) (σ : ZHp) (n k w : Nat) : Z (f + 1) 13 L st σ n k w = s_putf 3 6 0 16 L st σ n k w (zk1 cut G (Z f)) G R T := zrs hZ rfl f L st σ n k w
theorem f_X4_copy_16 (hZ : ZRN (ztb (tb_X4_copy E d mc ms)) cut G R T Z) (f : Nat) (L : ZLV) (st : List Value) (σ : ZHp) (n k w : Nat) : Z (f + 1) 16 L st σ n k w = s_aload 0 17 L st σ n k w (zk1 cut G (Z f)) G R T := zrs hZ rfl f L st σ n k w
theorem f_X4_copy_17 (hZ : ZRN (ztb (tb_X4_copy E d mc ms)) cut G R T Z) (f : Nat) (L : ZLV) (st : List Value) (σ : ZHp) (n k w : Nat) : Z (f + 1) 17 L st σ n k w = s_getf 3 0 20 L st σ n k w (zk1 cut G (Z f)) G R T := zrs hZ rfl f L st σ n k w
theorem f_X4_copy_20 (hZ : ZRN (ztb (tb_X4_copy E d mc ms)) cut G R T Z) (f : Nat) (L : ZLV) (st : List Value) (σ : ZHp) (n k w : Nat) : Z (f + 1) 20 L st σ n k w = s_aload 1 21 L st σ n k w (zk1 cut G (Z f)) G R T := zrs hZ rfl f L st σ n k w
theorem f_X4_copy_21 (hZ : ZRN (ztb (tb_X4_copy E d mc ms)) cut G R T Z) (f : Nat) (L : ZLV) (st : List Value) (σ : ZHp) (n k w : Nat) : Z (f + 1) 21 L st σ n k w = s_getf 3 0 24 L st σ n k w (zk1 cut G (Z f)) G R T := zrs hZ rfl f L st σ n k w
theorem f_X4_copy_24 (hZ : ZRN (ztb (tb_X4_copy E d mc ms)) cut G R T Z) (f : Nat) (L : ZLV) (st : List Value) (σ : ZHp) (n k w : Nat) : Z (f + 1) 24 L st σ n k w = s_callV E d mc ms 4 MX5_copy 1 27 L st σ n k w (zk1 cut G (Z f)) G R T := zrs hZ rfl f L st σ n k w
theorem f_X4_copy_27 (hZ : ZRN (ztb (tb_X4_copy E d mc ms)) cut G R T Z) (f : Nat) (L : ZLV) (st : List Value) (σ : ZHp) (n k w : Nat) : Z (f + 1) 27 L st σ n k w = s_aload 0 28 L st σ n k w (zk1 cut G (Z f)) G R T := zrs hZ rfl f L st σ n k w
theorem f_X4_copy_28 (hZ : ZRN (ztb (tb_X4_copy E d mc ms)) cut G R T Z) (f : Nat) (L : ZLV) (st : List Value) (σ : ZHp) (n k w : Nat) : Z (f + 1) 28 L st σ n k w = s_getf 3 1 31 L st σ n k w (zk1 cut G (Z f)) G R T := zrs hZ rfl f L st σ n k w
theorem f_X4_copy_31 (hZ : ZRN (ztb (tb_X4_copy E d mc ms)) cut G R T Z) (f : Nat) (L : ZLV) (st : List Value) (σ : ZHp) (n k w : Nat) : Z (f + 1) 31 L st σ n k w = s_aload 1 32 L st σ n k w (zk1 cut G (Z f)) G R T := zrs hZ rfl f L st σ n k w
theorem f_X4_copy_32 (hZ : ZRN (ztb (tb_X4_copy E d mc ms)) cut G R T Z) (f : Nat) (L : ZLV) (st : List Value) (σ : ZHp) (n k w : Nat) : Z (f + 1) 32 L st σ n k w = s_getf 3 1 35 L st σ n k w (zk1 cut G (Z f)) G R T := zrs hZ rfl f L st σ n k w
theorem f_X4_copy_35 (hZ : ZRN (ztb (tb_X4_copy E d mc ms)) cut G R T Z) (f : Nat) (L : ZLV) (st : List Value) (σ : ZHp) (n k w : Nat) : Z (f + 1) 35 L st σ n k w = s_callV E d mc ms 4 MX5_copy 1 38 L st σ n k w (zk1 cut G (Z f)) G R T := zrs hZ rfl f L st σ n k w
theorem f_X4_copy_38 (hZ : ZRN (ztb (tb_X4_copy E d mc ms)) cut G R T Z) (f : Nat) (L : ZLV) (st : List Value) (σ : ZHp) (n k w : Nat) : Z (f + 1) 38 L st σ n k w = s_aload 0 39 L st σ n k w (zk1 cut G (Z f)) G R T := zrs hZ rfl f L st σ n k w
theorem f_X4_copy_39 (hZ : ZRN (ztb (tb_X4_copy E d mc ms)) cut G R T Z) (f : Nat) (L : ZLV) (st : List Value) (σ : ZHp) (n k w : Nat) : Z (f + 1) 39 L st σ n k w = s_getf 3 2 42 L st σ n k w (zk1 cut G (Z f)) G R T := zrs hZ rfl f L st σ n k w
theorem f_X4_copy_42 (hZ : ZRN (ztb (tb_X4_copy E d mc ms)) cut G R T Z) (f : Nat) (L : ZLV) (st : List Value) (σ : ZHp) (n k w : Nat) : Z (f + 1) 42 L st σ n k w = s_aload 1 43 L st σ n k w (zk1 cut G (Z f)) G R T := zrs hZ rfl f L st σ n k w
theorem f_X4_copy_43 (hZ : ZRN (ztb (tb_X4_copy E d mc ms)) cut G R T Z) (f : Nat) (L : ZLV) (st : List Value) (σ : ZHp) (n k w : Nat) : Z (f + 1) 43 L st σ n k w = s_getf 3 2 46 L st σ n k w (zk1 cut G (Z f)) G R T := zrs hZ rfl f L st σ n k w
theorem f_X4_copy_46 (hZ : ZRN (ztb (tb_X4_copy E d mc ms)) cut G R T Z) (f : Nat) (L : ZLV) (st : List Value) (σ : ZHp) (n k w : Nat) : Z (f + 1) 46 L st σ n k w = s_callV E d mc ms 4 MX5_copy 1 49 L st σ n k w (zk1 cut G (Z f)) G R T := zrs hZ rfl f L st σ n k w
theorem f_X4_copy_49 (hZ : ZRN (ztb (tb_X4_copy E d mc ms)) cut G R T Z) (f : Nat) (L : ZLV) (st : List Value) (σ : ZHp) (n k w : Nat) : Z (f + 1) 49 L st σ n k w = s_const (.int (0)) 50 L st σ n k w (zk1 cut G (Z f)) G R T := zrs hZ rfl f L st σ n k w
theorem f_X4_copy_50 (hZ : ZRN (ztb (tb_X4_copy E d mc ms)) cut G R T Z) (f : Nat) (L : ZLV) (st : List Value) (σ : ZHp) (n k w : Nat) : Z (f + 1) 50 L st σ n k w = s_istore 2 51 L st σ n k w (zk1 cut G (Z f)) G R T := zrs hZ rfl f L st σ n k w
theorem f_X4_copy_51 (hZ : ZRN (ztb (tb_X4_copy E d mc ms)) cut G R T Z) (f : Nat) (L : ZLV) (st : List Value) (σ : ZHp) (n k w : Nat) : Z (f + 1) 51 L st σ n k w = s_iload 2 52 L st σ n k w (zk1 cut G (Z f)) G R T := zrs hZ rfl f L st σ n k w
theorem f_X4_copy_52 (hZ : ZRN (ztb (tb_X4_copy E d mc ms)) cut G R T Z) (f : Nat) (L : ZLV) (st : List Value) (σ : ZHp) (n k w : Nat) : Z (f + 1) 52 L st σ n k w = s_const (.int (4)) 53 L st σ n k w (zk1 cut G (Z f)) G R T := zrs hZ rfl f L st σ n k w
theorem f_X4_copy_53 (hZ : ZRN (ztb (tb_X4_copy E d mc ms)) cut G R T Z) (f : Nat) (L : ZLV) (st : List Value) (σ : ZHp) (n k w : Nat) : Z (f + 1) 53 L st σ n k w = s_icmp_ge 75 56 L st σ n k w (zk1 cut G (Z f)) G R T := zrs hZ rfl f L st σ n k w
theorem f_X4_copy_56 (hZ : ZRN (ztb (tb_X4_copy E d mc ms)) cut G R T Z) (f : Nat) (L : ZLV) (st : List Value) (σ : ZHp) (n k w : Nat) : Z (f + 1) 56 L st σ n k w = s_aload 0 57 L st σ n k w (zk1 cut G (Z f)) G R T := zrs hZ rfl f L st σ n k w
theorem f_X4_copy_57 (hZ : ZRN (ztb (tb_X4_copy E d mc ms)) cut G R T Z) (f : Nat) (L : ZLV) (st : List Value) (σ : ZHp) (n k w : Nat) : Z (f + 1) 57 L st σ n k w = s_iload 2 58 L st σ n k w (zk1 cut G (Z f)) G R T := zrs hZ rfl f L st σ n k w
theorem f_X4_copy_58 (hZ : ZRN (ztb (tb_X4_copy E d mc ms)) cut G R T Z) (f : Nat) (L : ZLV) (st : List Value) (σ : ZHp) (n k w : Nat) : Z (f + 1) 58 L st σ n k w = s_callV E d mc ms 3 MX4_trader 1 61 L st σ n k w (zk1 cut G (Z f)) G R T := zrs hZ rfl f L st σ n k w
theorem f_X4_copy_61 (hZ : ZRN (ztb (tb_X4_copy E d mc ms)) cut G R T Z) (f : Nat) (L : ZLV) (st : List Value) (σ : ZHp) (n k w : Nat) : Z (f + 1) 61 L st σ n k w = s_aload 1 62 L st σ n k w (zk1 cut G (Z f)) G R T := zrs hZ rfl f L st σ n k w
theorem f_X4_copy_62 (hZ : ZRN (ztb (tb_X4_copy E d mc ms)) cut G R T Z) (f : Nat) (L : ZLV) (st : List Value) (σ : ZHp) (n k w : Nat) : Z (f + 1) 62 L st σ n k w = s_iload 2 63 L st σ n k w (zk1 cut G (Z f)) G R T := zrs hZ rfl f L st σ n k w
theorem f_X4_copy_63 (hZ : ZRN (ztb (tb_X4_copy E d mc ms)) cut G R T Z) (f : Nat) (L : ZLV) (st : List Value) (σ : ZHp) (n k w : Nat) : Z (f + 1) 63 L st σ n k w = s_callV E d mc ms 3 MX4_trader 1 66 L st σ n k w (zk1 cut G (Z f)) G R T := zrs hZ rfl f L st σ n k w
theorem f_X4_copy_66 (hZ : ZRN (ztb (tb_X4_copy E d mc ms)) cut G R T Z) (f : Nat) (L : ZLV) (st : List Value) (σ : ZHp) (n k w : Nat) : Z (f + 1) 66 L st σ n k w = s_callV E d mc ms 10 MX11_copy 1 69 L st σ n k w (zk1 cut G (Z f)) G R T := zrs hZ rfl f L st σ n k w
theorem f_X4_copy_69 (hZ : ZRN (ztb (tb_X4_copy E d mc ms)) cut G R T Z) (f : Nat) (L : ZLV) (st : List Value) (σ : ZHp) (n k w : Nat) : Z (f + 1) 69 L st σ n k w = s_iinc 2 (1) 72 L st σ n k w (zk1 cut G (Z f)) G R T := zrs hZ rfl f L st σ n k w
theorem f_X4_copy_72 (hZ : ZRN (ztb (tb_X4_copy E d mc ms)) cut G R T Z) (f : Nat) (L : ZLV) (st : List Value) (σ : ZHp) (n k w : Nat) : Z (f + 1) 72 L st σ n k w = s_goto 51 L st σ n k w (zk1 cut G (Z f)) G R T := zrs hZ rfl f L st σ n k w
theorem f_X4_copy_75 (hZ : ZRN (ztb (tb_X4_copy E d mc ms)) cut G R T Z) (f : Nat) (L : ZLV) (st : List Value) (σ : ZHp) (n k w : Nat) : Z (f + 1) 75 L st σ n k w = s_return L st σ n k w (zk1 cut G (Z f)) G R T := zrs hZ rfl f L st σ n k w
theorem f_X4_trader_0 (hZ : ZRN (ztb (tb_X4_trader E d mc ms)) cut G R T Z) (f : Nat) (L : ZLV) (st : List Value) (σ : ZHp) (n k w : Nat) : Z (f + 1) 0 L st σ n k w = s_iload 1 1 L st σ n k w (zk1 cut G (Z f)) G R T := zrs hZ rfl f L st σ n k w
theorem f_X4_trader_1 (hZ : ZRN (ztb (tb_X4_trader E d mc ms)) cut G R T Z) (f : Nat) (L : ZLV) (st : List Value) (σ : ZHp) (n k w : Nat) : Z (f + 1) 1 L st σ n k w = s_if_lt 22 4 L st σ n k w (zk1 cut G (Z f)) G R T := zrs hZ rfl f L st σ n k w
theorem f_X4_trader_4 (hZ : ZRN (ztb (tb_X4_trader E d mc ms)) cut G R T Z) (f : Nat) (L : ZLV) (st : List Value) (σ : ZHp) (n k w : Nat) : Z (f + 1) 4 L st σ n k w = s_iload 1 5 L st σ n k w (zk1 cut G (Z f)) G R T := zrs hZ rfl f L st σ n k w
theorem f_X4_trader_5 (hZ : ZRN (ztb (tb_X4_trader E d mc ms)) cut G R T Z) (f : Nat) (L : ZLV) (st : List Value) (σ : ZHp) (n k w : Nat) : Z (f + 1) 5 L st σ n k w = s_aload 0 6 L st σ n k w (zk1 cut G (Z f)) G R T := zrs hZ rfl f L st σ n k w
theorem f_X4_trader_6 (hZ : ZRN (ztb (tb_X4_trader E d mc ms)) cut G R T Z) (f : Nat) (L : ZLV) (st : List Value) (σ : ZHp) (n k w : Nat) : Z (f + 1) 6 L st σ n k w = s_getf 3 3 9 L st σ n k w (zk1 cut G (Z f)) G R T := zrs hZ rfl f L st σ n k w
theorem f_X4_trader_9 (hZ : ZRN (ztb (tb_X4_trader E d mc ms)) cut G R T Z) (f : Nat) (L : ZLV) (st : List Value) (σ : ZHp) (n k w : Nat) : Z (f + 1) 9 L st σ n k w = s_alen E 10 L st σ n k w (zk1 cut G (Z f)) G R T := zrs hZ rfl f L st σ n k w
theorem f_X4_trader_10 (hZ : ZRN (ztb (tb_X4_trader E d mc ms)) cut G R T Z) (f : Nat) (L : ZLV) (st : List Value) (σ : ZHp) (n k w : Nat) : Z (f + 1) 10 L st σ n k w = s_icmp_ge 22 13 L st σ n k w (zk1 cut G (Z f)) G R T := zrs hZ rfl f L st σ n k w
theorem f_X4_trader_13 (hZ : ZRN (ztb (tb_X4_trader E d mc ms)) cut G R T Z) (f : Nat) (L : ZLV) (st : List Value) (σ : ZHp) (n k w : Nat) : Z (f + 1) 13 L st σ n k w = s_aload 0 14 L st σ n k w (zk1 cut G (Z f)) G R T := zrs hZ rfl f L st σ n k w
theorem f_X4_trader_14 (hZ : ZRN (ztb (tb_X4_trader E d mc ms)) cut G R T Z) (f : Nat) (L : ZLV) (st : List Value) (σ : ZHp) (n k w : Nat) : Z (f + 1) 14 L st σ n k w = s_getf 3 3 17 L st σ n k w (zk1 cut G (Z f)) G R T := zrs hZ rfl f L st σ n k w
theorem f_X4_trader_17 (hZ : ZRN (ztb (tb_X4_trader E d mc ms)) cut G R T Z) (f : Nat) (L : ZLV) (st : List Value) (σ : ZHp) (n k w : Nat) : Z (f + 1) 17 L st σ n k w = s_iload 1 18 L st σ n k w (zk1 cut G (Z f)) G R T := zrs hZ rfl f L st σ n k w
theorem f_X4_trader_18 (hZ : ZRN (ztb (tb_X4_trader E d mc ms)) cut G R T Z) (f : Nat) (L : ZLV) (st : List Value) (σ : ZHp) (n k w : Nat) : Z (f + 1) 18 L st σ n k w = s_aaload E 19 L st σ n k w (zk1 cut G (Z f)) G R T := zrs hZ rfl f L st σ n k w
theorem f_X4_trader_19 (hZ : ZRN (ztb (tb_X4_trader E d mc ms)) cut G R T Z) (f : Nat) (L : ZLV) (st : List Value) (σ : ZHp) (n k w : Nat) : Z (f + 1) 19 L st σ n k w = s_goto 26 L st σ n k w (zk1 cut G (Z f)) G R T := zrs hZ rfl f L st σ n k w
theorem f_X4_trader_22 (hZ : ZRN (ztb (tb_X4_trader E d mc ms)) cut G R T Z) (f : Nat) (L : ZLV) (st : List Value) (σ : ZHp) (n k w : Nat) : Z (f + 1) 22 L st σ n k w = s_aload 0 23 L st σ n k w (zk1 cut G (Z f)) G R T := zrs hZ rfl f L st σ n k w
theorem f_X4_trader_23 (hZ : ZRN (ztb (tb_X4_trader E d mc ms)) cut G R T Z) (f : Nat) (L : ZLV) (st : List Value) (σ : ZHp) (n k w : Nat) : Z (f + 1) 23 L st σ n k w = s_getf 3 4 26 L st σ n k w (zk1 cut G (Z f)) G R T := zrs hZ rfl f L st σ n k w
theorem f_X4_trader_26 (hZ : ZRN (ztb (tb_X4_trader E d mc ms)) cut G R T Z) (f : Nat) (L : ZLV) (st : List Value) (σ : ZHp) (n k w : Nat) : Z (f + 1) 26 L st σ n k w = s_astore 2 27 L st σ n k w (zk1 cut G (Z f)) G R T := zrs hZ rfl f L st σ n k w
theorem f_X4_trader_27 (hZ : ZRN (ztb (tb_X4_trader E d mc ms)) cut G R T Z) (f : Nat) (L : ZLV) (st : List Value) (σ : ZHp) (n k w : Nat) : Z (f + 1) 27 L st σ n k w = s_aload 2 28 L st σ n k w (zk1 cut G (Z f)) G R T := zrs hZ rfl f L st σ n k w
theorem f_X4_trader_28 (hZ : ZRN (ztb (tb_X4_trader E d mc ms)) cut G R T Z) (f : Nat) (L : ZLV) (st : List Value) (σ : ZHp) (n k w : Nat) : Z (f + 1) 28 L st σ n k w = s_ifnonnull 38 31 L st σ n k w (zk1 cut G (Z f)) G R T := zrs hZ rfl f L st σ n k w
theorem f_X4_trader_31 (hZ : ZRN (ztb (tb_X4_trader E d mc ms)) cut G R T Z) (f : Nat) (L : ZLV) (st : List Value) (σ : ZHp) (n k w : Nat) : Z (f + 1) 31 L st σ n k w = s_aload 0 32 L st σ n k w (zk1 cut G (Z f)) G R T := zrs hZ rfl f L st σ n k w
theorem f_X4_trader_32 (hZ : ZRN (ztb (tb_X4_trader E d mc ms)) cut G R T Z) (f : Nat) (L : ZLV) (st : List Value) (σ : ZHp) (n k w : Nat) : Z (f + 1) 32 L st σ n k w = s_getf 3 4 35 L st σ n k w (zk1 cut G (Z f)) G R T := zrs hZ rfl f L st σ n k w
theorem f_X4_trader_35 (hZ : ZRN (ztb (tb_X4_trader E d mc ms)) cut G R T Z) (f : Nat) (L : ZLV) (st : List Value) (σ : ZHp) (n k w : Nat) : Z (f + 1) 35 L st σ n k w = s_goto 39 L st σ n k w (zk1 cut G (Z f)) G R T := zrs hZ rfl f L st σ n k w
theorem f_X4_trader_38 (hZ : ZRN (ztb (tb_X4_trader E d mc ms)) cut G R T Z) (f : Nat) (L : ZLV) (st : List Value) (σ : ZHp) (n k w : Nat) : Z (f + 1) 38 L st σ n k w = s_aload 2 39 L st σ n k w (zk1 cut G (Z f)) G R T := zrs hZ rfl f L st σ n k w
theorem f_X4_trader_39 (hZ : ZRN (ztb (tb_X4_trader E d mc ms)) cut G R T Z) (f : Nat) (L : ZLV) (st : List Value) (σ : ZHp) (n k w : Nat) : Z (f + 1) 39 L st σ n k w = s_areturn L st σ n k w (zk1 cut G (Z f)) G R T := zrs hZ rfl f L st σ n k w
theorem f_X4_number_0 (hZ : ZRN (ztb (tb_X4_number E d mc ms)) cut G R T Z) (f : Nat) (L : ZLV) (st : List Value) (σ : ZHp) (n k w : Nat) : Z (f + 1) 0 L st σ n k w = s_iload 1 1 L st σ n k w (zk1 cut G (Z f)) G R T := zrs hZ rfl f L st σ n k w
theorem f_X4_number_1 (hZ : ZRN (ztb (tb_X4_number E d mc ms)) cut G R T Z) (f : Nat) (L : ZLV) (st : List Value) (σ : ZHp) (n k w : Nat) : Z (f + 1) 1 L st σ n k w = s_tsw 0 [36, 41, 49, 57, 65] 73 L st σ n k w (zk1 cut G (Z f)) G R T := zrs hZ rfl f L st σ n k w
theorem f_X4_number_36 (hZ : ZRN (ztb (tb_X4_number E d mc ms)) cut G R T Z) (f : Nat) (L : ZLV) (st : List Value) (σ : ZHp) (n k w : Nat) : Z (f + 1) 36 L st σ n k w = s_aload 0 37 L st σ n k w (zk1 cut G (Z f)) G R T := zrs hZ rfl f L st σ n k w
theorem f_X4_number_37 (hZ : ZRN (ztb (tb_X4_number E d mc ms)) cut G R T Z) (f : Nat) (L : ZLV) (st : List Value) (σ : ZHp) (n k w : Nat) : Z (f + 1) 37 L st σ n k w = s_getf 3 6 40 L st σ n k w (zk1 cut G (Z f)) G R T := zrs hZ rfl f L st σ n k w
theorem f_X4_number_40 (hZ : ZRN (ztb (tb_X4_number E d mc ms)) cut G R T Z) (f : Nat) (L : ZLV) (st : List Value) (σ : ZHp) (n k w : Nat) : Z (f + 1) 40 L st σ n k w = s_ireturn L st σ n k w (zk1 cut G (Z f)) G R T := zrs hZ rfl f L st σ n k w
theorem f_X4_number_41 (hZ : ZRN (ztb (tb_X4_number E d mc ms)) cut G R T Z) (f : Nat) (L : ZLV) (st : List Value) (σ : ZHp) (n k w : Nat) : Z (f + 1) 41 L st σ n k w = s_aload 0 42 L st σ n k w (zk1 cut G (Z f)) G R T := zrs hZ rfl f L st σ n k w
theorem f_X4_number_42 (hZ : ZRN (ztb (tb_X4_number E d mc ms)) cut G R T Z) (f : Nat) (L : ZLV) (st : List Value) (σ : ZHp) (n k w : Nat) : Z (f + 1) 42 L st σ n k w = s_getf 3 5 45 L st σ n k w (zk1 cut G (Z f)) G R T := zrs hZ rfl f L st σ n k w
theorem f_X4_number_45 (hZ : ZRN (ztb (tb_X4_number E d mc ms)) cut G R T Z) (f : Nat) (L : ZLV) (st : List Value) (σ : ZHp) (n k w : Nat) : Z (f + 1) 45 L st σ n k w = s_getf 5 0 48 L st σ n k w (zk1 cut G (Z f)) G R T := zrs hZ rfl f L st σ n k w
theorem f_X4_number_48 (hZ : ZRN (ztb (tb_X4_number E d mc ms)) cut G R T Z) (f : Nat) (L : ZLV) (st : List Value) (σ : ZHp) (n k w : Nat) : Z (f + 1) 48 L st σ n k w = s_ireturn L st σ n k w (zk1 cut G (Z f)) G R T := zrs hZ rfl f L st σ n k w
theorem f_X4_number_49 (hZ : ZRN (ztb (tb_X4_number E d mc ms)) cut G R T Z) (f : Nat) (L : ZLV) (st : List Value) (σ : ZHp) (n k w : Nat) : Z (f + 1) 49 L st σ n k w = s_aload 0 50 L st σ n k w (zk1 cut G (Z f)) G R T := zrs hZ rfl f L st σ n k w
theorem f_X4_number_50 (hZ : ZRN (ztb (tb_X4_number E d mc ms)) cut G R T Z) (f : Nat) (L : ZLV) (st : List Value) (σ : ZHp) (n k w : Nat) : Z (f + 1) 50 L st σ n k w = s_getf 3 5 53 L st σ n k w (zk1 cut G (Z f)) G R T := zrs hZ rfl f L st σ n k w
theorem f_X4_number_53 (hZ : ZRN (ztb (tb_X4_number E d mc ms)) cut G R T Z) (f : Nat) (L : ZLV) (st : List Value) (σ : ZHp) (n k w : Nat) : Z (f + 1) 53 L st σ n k w = s_getf 5 1 56 L st σ n k w (zk1 cut G (Z f)) G R T := zrs hZ rfl f L st σ n k w
theorem f_X4_number_56 (hZ : ZRN (ztb (tb_X4_number E d mc ms)) cut G R T Z) (f : Nat) (L : ZLV) (st : List Value) (σ : ZHp) (n k w : Nat) : Z (f + 1) 56 L st σ n k w = s_ireturn L st σ n k w (zk1 cut G (Z f)) G R T := zrs hZ rfl f L st σ n k w
theorem f_X4_number_57 (hZ : ZRN (ztb (tb_X4_number E d mc ms)) cut G R T Z) (f : Nat) (L : ZLV) (st : List Value) (σ : ZHp) (n k w : Nat) : Z (f + 1) 57 L st σ n k w = s_aload 0 58 L st σ n k w (zk1 cut G (Z f)) G R T := zrs hZ rfl f L st σ n k w
theorem f_X4_number_58 (hZ : ZRN (ztb (tb_X4_number E d mc ms)) cut G R T Z) (f : Nat) (L : ZLV) (st : List Value) (σ : ZHp) (n k w : Nat) : Z (f + 1) 58 L st σ n k w = s_getf 3 5 61 L st σ n k w (zk1 cut G (Z f)) G R T := zrs hZ rfl f L st σ n k w
theorem f_X4_number_61 (hZ : ZRN (ztb (tb_X4_number E d mc ms)) cut G R T Z) (f : Nat) (L : ZLV) (st : List Value) (σ : ZHp) (n k w : Nat) : Z (f + 1) 61 L st σ n k w = s_getf 5 2 64 L st σ n k w (zk1 cut G (Z f)) G R T := zrs hZ rfl f L st σ n k w
theorem f_X4_number_64 (hZ : ZRN (ztb (tb_X4_number E d mc ms)) cut G R T Z) (f : Nat) (L : ZLV) (st : List Value) (σ : ZHp) (n k w : Nat) : Z (f + 1) 64 L st σ n k w = s_ireturn L st σ n k w (zk1 cut G (Z f)) G R T := zrs hZ rfl f L st σ n k w
theorem f_X4_number_65 (hZ : ZRN (ztb (tb_X4_number E d mc ms)) cut G R T Z) (f : Nat) (L : ZLV) (st : List Value) (σ : ZHp) (n k w : Nat) : Z (f + 1) 65 L st σ n k w = s_aload 0 66 L st σ n k w (zk1 cut G (Z f)) G R T := zrs hZ rfl f L st σ n k w
theorem f_X4_number_66 (hZ : ZRN (ztb (tb_X4_number E d mc ms)) cut G R T Z) (f : Nat) (L : ZLV) (st : List Value) (σ : ZHp) (n k w : Nat) : Z (f + 1) 66 L st σ n k w = s_getf 3 0 69 L st σ n k w (zk1 cut G (Z f)) G R T := zrs hZ rfl f L st σ n k w
theorem f_X4_number_69 (hZ : ZRN (ztb (tb_X4_number E d mc ms)) cut G R T Z) (f : Nat) (L : ZLV) (st : List Value) (σ : ZHp) (n k w : Nat) : Z (f + 1) 69 L st σ n k w = s_callV E d mc ms 4 MX5_sum 0 72 L st σ n k w (zk1 cut G (Z f)) G R T := zrs hZ rfl f L st σ n k w
theorem f_X4_number_72 (hZ : ZRN (ztb (tb_X4_number E d mc ms)) cut G R T Z) (f : Nat) (L : ZLV) (st : List Value) (σ : ZHp) (n k w : Nat) : Z (f + 1) 72 L st σ n k w = s_ireturn L st σ n k w (zk1 cut G (Z f)) G R T := zrs hZ rfl f L st σ n k w
theorem f_X4_number_73 (hZ : ZRN (ztb (tb_X4_number E d mc ms)) cut G R T Z) (f : Nat) (L : ZLV) (st : List Value) (σ : ZHp) (n k w : Nat) : Z (f + 1) 73 L st σ n k w = s_aload 0 74 L st σ n k w (zk1 cut G (Z f)) G R T := zrs hZ rfl f L st σ n k w
theorem f_X4_number_74 (hZ : ZRN (ztb (tb_X4_number E d mc ms)) cut G R T Z) (f : Nat) (L : ZLV) (st : List Value) (σ : ZHp) (n k w : Nat) : Z (f + 1) 74 L st σ n k w = s_iload 1 75 L st σ n k w (zk1 cut G (Z f)) G R T := zrs hZ rfl f L st σ n k w
theorem f_X4_number_75 (hZ : ZRN (ztb (tb_X4_number E d mc ms)) cut G R T Z) (f : Nat) (L : ZLV) (st : List Value) (σ : ZHp) (n k w : Nat) : Z (f + 1) 75 L st σ n k w = s_callV E d mc ms 3 MX4_numberOfAll 1 78 L st σ n k w (zk1 cut G (Z f)) G R T := zrs hZ rfl f L st σ n k w
theorem f_X4_number_78 (hZ : ZRN (ztb (tb_X4_number E d mc ms)) cut G R T Z) (f : Nat) (L : ZLV) (st : List Value) (σ : ZHp) (n k w : Nat) : Z (f + 1) 78 L st σ n k w = s_ireturn L st σ n k w (zk1 cut G (Z f)) G R T := zrs hZ rfl f L st σ n k w
theorem f_X4_numberOfAll_0 (hZ : ZRN (ztb (tb_X4_numberOfAll E d mc ms)) cut G R T Z) (f : Nat) (L : ZLV) (st : List Value) (σ : ZHp) (n k w : Nat) : Z (f + 1) 0 L st σ n k w = s_const (.int (0)) 1 L st σ n k w (zk1 cut G (Z f)) G R T := zrs hZ rfl f L st σ n k w
theorem f_X4_numberOfAll_1 (hZ : ZRN (ztb (tb_X4_numberOfAll E d mc ms)) cut G R T Z) (f : Nat) (L : ZLV) (st : List Value) (σ : ZHp) (n k w : Nat) : Z (f + 1) 1 L st σ n k w = s_istore 2 2 L st σ n k w (zk1 cut G (Z f)) G R T := zrs hZ rfl f L st σ n k w
theorem f_X4_numberOfAll_2 (hZ : ZRN (ztb (tb_X4_numberOfAll E d mc ms)) cut G R T Z) (f : Nat) (L : ZLV) (st : List Value) (σ : ZHp) (n k w : Nat) : Z (f + 1) 2 L st σ n k w = s_const (.int (0)) 3 L st σ n k w (zk1 cut G (Z f)) G R T := zrs hZ rfl f L st σ n k w
theorem f_X4_numberOfAll_3 (hZ : ZRN (ztb (tb_X4_numberOfAll E d mc ms)) cut G R T Z) (f : Nat) (L : ZLV) (st : List Value) (σ : ZHp) (n k w : Nat) : Z (f + 1) 3 L st σ n k w = s_istore 3 4 L st σ n k w (zk1 cut G (Z f)) G R T := zrs hZ rfl f L st σ n k w
theorem f_X4_numberOfAll_4 (hZ : ZRN (ztb (tb_X4_numberOfAll E d mc ms)) cut G R T Z) (f : Nat) (L : ZLV) (st : List Value) (σ : ZHp) (n k w : Nat) : Z (f + 1) 4 L st σ n k w = s_iload 3 5 L st σ n k w (zk1 cut G (Z f)) G R T := zrs hZ rfl f L st σ n k w
theorem f_X4_numberOfAll_5 (hZ : ZRN (ztb (tb_X4_numberOfAll E d mc ms)) cut G R T Z) (f : Nat) (L : ZLV) (st : List Value) (σ : ZHp) (n k w : Nat) : Z (f + 1) 5 L st σ n k w = s_aload 0 6 L st σ n k w (zk1 cut G (Z f)) G R T := zrs hZ rfl f L st σ n k w
theorem f_X4_numberOfAll_6 (hZ : ZRN (ztb (tb_X4_numberOfAll E d mc ms)) cut G R T Z) (f : Nat) (L : ZLV) (st : List Value) (σ : ZHp) (n k w : Nat) : Z (f + 1) 6 L st σ n k w = s_getf 3 5 9 L st σ n k w (zk1 cut G (Z f)) G R T := zrs hZ rfl f L st σ n k w
theorem f_X4_numberOfAll_9 (hZ : ZRN (ztb (tb_X4_numberOfAll E d mc ms)) cut G R T Z) (f : Nat) (L : ZLV) (st : List Value) (σ : ZHp) (n k w : Nat) : Z (f + 1) 9 L st σ n k w = s_getf 5 1 12 L st σ n k w (zk1 cut G (Z f)) G R T := zrs hZ rfl f L st σ n k w
theorem f_X4_numberOfAll_12 (hZ : ZRN (ztb (tb_X4_numberOfAll E d mc ms)) cut G R T Z) (f : Nat) (L : ZLV) (st : List Value) (σ : ZHp) (n k w : Nat) : Z (f + 1) 12 L st σ n k w = s_icmp_ge 63 15 L st σ n k w (zk1 cut G (Z f)) G R T := zrs hZ rfl f L st σ n k w
theorem f_X4_numberOfAll_15 (hZ : ZRN (ztb (tb_X4_numberOfAll E d mc ms)) cut G R T Z) (f : Nat) (L : ZLV) (st : List Value) (σ : ZHp) (n k w : Nat) : Z (f + 1) 15 L st σ n k w = s_aload 0 16 L st σ n k w (zk1 cut G (Z f)) G R T := zrs hZ rfl f L st σ n k w
theorem f_X4_numberOfAll_16 (hZ : ZRN (ztb (tb_X4_numberOfAll E d mc ms)) cut G R T Z) (f : Nat) (L : ZLV) (st : List Value) (σ : ZHp) (n k w : Nat) : Z (f + 1) 16 L st σ n k w = s_iload 3 17 L st σ n k w (zk1 cut G (Z f)) G R T := zrs hZ rfl f L st σ n k w
theorem f_X4_numberOfAll_17 (hZ : ZRN (ztb (tb_X4_numberOfAll E d mc ms)) cut G R T Z) (f : Nat) (L : ZLV) (st : List Value) (σ : ZHp) (n k w : Nat) : Z (f + 1) 17 L st σ n k w = s_callV E d mc ms 3 MX4_trader 1 20 L st σ n k w (zk1 cut G (Z f)) G R T := zrs hZ rfl f L st σ n k w
theorem f_X4_numberOfAll_20 (hZ : ZRN (ztb (tb_X4_numberOfAll E d mc ms)) cut G R T Z) (f : Nat) (L : ZLV) (st : List Value) (σ : ZHp) (n k w : Nat) : Z (f + 1) 20 L st σ n k w = s_astore 4 22 L st σ n k w (zk1 cut G (Z f)) G R T := zrs hZ rfl f L st σ n k w
theorem f_X4_numberOfAll_22 (hZ : ZRN (ztb (tb_X4_numberOfAll E d mc ms)) cut G R T Z) (f : Nat) (L : ZLV) (st : List Value) (σ : ZHp) (n k w : Nat) : Z (f + 1) 22 L st σ n k w = s_iload 2 23 L st σ n k w (zk1 cut G (Z f)) G R T := zrs hZ rfl f L st σ n k w
theorem f_X4_numberOfAll_23 (hZ : ZRN (ztb (tb_X4_numberOfAll E d mc ms)) cut G R T Z) (f : Nat) (L : ZLV) (st : List Value) (σ : ZHp) (n k w : Nat) : Z (f + 1) 23 L st σ n k w = s_iload 1 24 L st σ n k w (zk1 cut G (Z f)) G R T := zrs hZ rfl f L st σ n k w
theorem f_X4_numberOfAll_24 (hZ : ZRN (ztb (tb_X4_numberOfAll E d mc ms)) cut G R T Z) (f : Nat) (L : ZLV) (st : List Value) (σ : ZHp) (n k w : Nat) : Z (f + 1) 24 L st σ n k w = s_const (.int (5)) 25 L st σ n k w (zk1 cut G (Z f)) G R T := zrs hZ rfl f L st σ n k w
theorem f_X4_numberOfAll_25 (hZ : ZRN (ztb (tb_X4_numberOfAll E d mc ms)) cut G R T Z) (f : Nat) (L : ZLV) (st : List Value) (σ : ZHp) (n k w : Nat) : Z (f + 1) 25 L st σ n k w = s_icmp_ne 36 28 L st σ n k w (zk1 cut G (Z f)) G R T := zrs hZ rfl f L st σ n k w
theorem f_X4_numberOfAll_28 (hZ : ZRN (ztb (tb_X4_numberOfAll E d mc ms)) cut G R T Z) (f : Nat) (L : ZLV) (st : List Value) (σ : ZHp) (n k w : Nat) : Z (f + 1) 28 L st σ n k w = s_aload 4 30 L st σ n k w (zk1 cut G (Z f)) G R T := zrs hZ rfl f L st σ n k w
theorem f_X4_numberOfAll_30 (hZ : ZRN (ztb (tb_X4_numberOfAll E d mc ms)) cut G R T Z) (f : Nat) (L : ZLV) (st : List Value) (σ : ZHp) (n k w : Nat) : Z (f + 1) 30 L st σ n k w = s_getf 10 4 33 L st σ n k w (zk1 cut G (Z f)) G R T := zrs hZ rfl f L st σ n k w
theorem f_X4_numberOfAll_33 (hZ : ZRN (ztb (tb_X4_numberOfAll E d mc ms)) cut G R T Z) (f : Nat) (L : ZLV) (st : List Value) (σ : ZHp) (n k w : Nat) : Z (f + 1) 33 L st σ n k w = s_goto 55 L st σ n k w (zk1 cut G (Z f)) G R T := zrs hZ rfl f L st σ n k w
theorem f_X4_numberOfAll_36 (hZ : ZRN (ztb (tb_X4_numberOfAll E d mc ms)) cut G R T Z) (f : Nat) (L : ZLV) (st : List Value) (σ : ZHp) (n k w : Nat) : Z (f + 1) 36 L st σ n k w = s_iload 1 37 L st σ n k w (zk1 cut G (Z f)) G R T := zrs hZ rfl f L st σ n k w
theorem f_X4_numberOfAll_37 (hZ : ZRN (ztb (tb_X4_numberOfAll E d mc ms)) cut G R T Z) (f : Nat) (L : ZLV) (st : List Value) (σ : ZHp) (n k w : Nat) : Z (f + 1) 37 L st σ n k w = s_const (.int (6)) 39 L st σ n k w (zk1 cut G (Z f)) G R T := zrs hZ rfl f L st σ n k w
theorem f_X4_numberOfAll_39 (hZ : ZRN (ztb (tb_X4_numberOfAll E d mc ms)) cut G R T Z) (f : Nat) (L : ZLV) (st : List Value) (σ : ZHp) (n k w : Nat) : Z (f + 1) 39 L st σ n k w = s_icmp_ne 50 42 L st σ n k w (zk1 cut G (Z f)) G R T := zrs hZ rfl f L st σ n k w
theorem f_X4_numberOfAll_42 (hZ : ZRN (ztb (tb_X4_numberOfAll E d mc ms)) cut G R T Z) (f : Nat) (L : ZLV) (st : List Value) (σ : ZHp) (n k w : Nat) : Z (f + 1) 42 L st σ n k w = s_aload 4 44 L st σ n k w (zk1 cut G (Z f)) G R T := zrs hZ rfl f L st σ n k w
theorem f_X4_numberOfAll_44 (hZ : ZRN (ztb (tb_X4_numberOfAll E d mc ms)) cut G R T Z) (f : Nat) (L : ZLV) (st : List Value) (σ : ZHp) (n k w : Nat) : Z (f + 1) 44 L st σ n k w = s_getf 10 6 47 L st σ n k w (zk1 cut G (Z f)) G R T := zrs hZ rfl f L st σ n k w
theorem f_X4_numberOfAll_47 (hZ : ZRN (ztb (tb_X4_numberOfAll E d mc ms)) cut G R T Z) (f : Nat) (L : ZLV) (st : List Value) (σ : ZHp) (n k w : Nat) : Z (f + 1) 47 L st σ n k w = s_goto 55 L st σ n k w (zk1 cut G (Z f)) G R T := zrs hZ rfl f L st σ n k w
theorem f_X4_numberOfAll_50 (hZ : ZRN (ztb (tb_X4_numberOfAll E d mc ms)) cut G R T Z) (f : Nat) (L : ZLV) (st : List Value) (σ : ZHp) (n k w : Nat) : Z (f + 1) 50 L st σ n k w = s_aload 4 52 L st σ n k w (zk1 cut G (Z f)) G R T := zrs hZ rfl f L st σ n k w
theorem f_X4_numberOfAll_52 (hZ : ZRN (ztb (tb_X4_numberOfAll E d mc ms)) cut G R T Z) (f : Nat) (L : ZLV) (st : List Value) (σ : ZHp) (n k w : Nat) : Z (f + 1) 52 L st σ n k w = s_getf 10 7 55 L st σ n k w (zk1 cut G (Z f)) G R T := zrs hZ rfl f L st σ n k w
theorem f_X4_numberOfAll_55 (hZ : ZRN (ztb (tb_X4_numberOfAll E d mc ms)) cut G R T Z) (f : Nat) (L : ZLV) (st : List Value) (σ : ZHp) (n k w : Nat) : Z (f + 1) 55 L st σ n k w = s_iadd 56 L st σ n k w (zk1 cut G (Z f)) G R T := zrs hZ rfl f L st σ n k w
theorem f_X4_numberOfAll_56 (hZ : ZRN (ztb (tb_X4_numberOfAll E d mc ms)) cut G R T Z) (f : Nat) (L : ZLV) (st : List Value) (σ : ZHp) (n k w : Nat) : Z (f + 1) 56 L st σ n k w = s_istore 2 57 L st σ n k w (zk1 cut G (Z f)) G R T := zrs hZ rfl f L st σ n k w
theorem f_X4_numberOfAll_57 (hZ : ZRN (ztb (tb_X4_numberOfAll E d mc ms)) cut G R T Z) (f : Nat) (L : ZLV) (st : List Value) (σ : ZHp) (n k w : Nat) : Z (f + 1) 57 L st σ n k w = s_iinc 3 (1) 60 L st σ n k w (zk1 cut G (Z f)) G R T := zrs hZ rfl f L st σ n k w
theorem f_X4_numberOfAll_60 (hZ : ZRN (ztb (tb_X4_numberOfAll E d mc ms)) cut G R T Z) (f : Nat) (L : ZLV) (st : List Value) (σ : ZHp) (n k w : Nat) : Z (f + 1) 60 L st σ n k w = s_goto 4 L st σ n k w (zk1 cut G (Z f)) G R T := zrs hZ rfl f L st σ n k w
theorem f_X4_numberOfAll_63 (hZ : ZRN (ztb (tb_X4_numberOfAll E d mc ms)) cut G R T Z) (f : Nat) (L : ZLV) (st : List Value) (σ : ZHp) (n k w : Nat) : Z (f + 1) 63 L st σ n k w = s_iload 2 64 L st σ n k w (zk1 cut G (Z f)) G R T := zrs hZ rfl f L st σ n k w
theorem f_X4_numberOfAll_64 (hZ : ZRN (ztb (tb_X4_numberOfAll E d mc ms)) cut G R T Z) (f : Nat) (L : ZLV) (st : List Value) (σ : ZHp) (n k w : Nat) : Z (f + 1) 64 L st σ n k w = s_ireturn L st σ n k w (zk1 cut G (Z f)) G R T := zrs hZ rfl f L st σ n k w
theorem f_X4_cardNumber_0 (hZ : ZRN (ztb (tb_X4_cardNumber E d mc ms)) cut G R T Z) (f : Nat) (L : ZLV) (st : List Value) (σ : ZHp) (n k w : Nat) : Z (f + 1) 0 L st σ n k w = s_iload 2 1 L st σ n k w (zk1 cut G (Z f)) G R T := zrs hZ rfl f L st σ n k w
theorem f_X4_cardNumber_1 (hZ : ZRN (ztb (tb_X4_cardNumber E d mc ms)) cut G R T Z) (f : Nat) (L : ZLV) (st : List Value) (σ : ZHp) (n k w : Nat) : Z (f + 1) 1 L st σ n k w = s_tsw 0 [40, 52, 64, 76, 85, 91] 100 L st σ n k w (zk1 cut G (Z f)) G R T := zrs hZ rfl f L st σ n k w
theorem f_X4_cardNumber_40 (hZ : ZRN (ztb (tb_X4_cardNumber E d mc ms)) cut G R T Z) (f : Nat) (L : ZLV) (st : List Value) (σ : ZHp) (n k w : Nat) : Z (f + 1) 40 L st σ n k w = s_aload 0 41 L st σ n k w (zk1 cut G (Z f)) G R T := zrs hZ rfl f L st σ n k w
theorem f_X4_cardNumber_41 (hZ : ZRN (ztb (tb_X4_cardNumber E d mc ms)) cut G R T Z) (f : Nat) (L : ZLV) (st : List Value) (σ : ZHp) (n k w : Nat) : Z (f + 1) 41 L st σ n k w = s_getf 3 5 44 L st σ n k w (zk1 cut G (Z f)) G R T := zrs hZ rfl f L st σ n k w
theorem f_X4_cardNumber_44 (hZ : ZRN (ztb (tb_X4_cardNumber E d mc ms)) cut G R T Z) (f : Nat) (L : ZLV) (st : List Value) (σ : ZHp) (n k w : Nat) : Z (f + 1) 44 L st σ n k w = s_getf 5 3 47 L st σ n k w (zk1 cut G (Z f)) G R T := zrs hZ rfl f L st σ n k w
theorem f_X4_cardNumber_47 (hZ : ZRN (ztb (tb_X4_cardNumber E d mc ms)) cut G R T Z) (f : Nat) (L : ZLV) (st : List Value) (σ : ZHp) (n k w : Nat) : Z (f + 1) 47 L st σ n k w = s_iload 1 48 L st σ n k w (zk1 cut G (Z f)) G R T := zrs hZ rfl f L st σ n k w
theorem f_X4_cardNumber_48 (hZ : ZRN (ztb (tb_X4_cardNumber E d mc ms)) cut G R T Z) (f : Nat) (L : ZLV) (st : List Value) (σ : ZHp) (n k w : Nat) : Z (f + 1) 48 L st σ n k w = s_callV E d mc ms 4 MX5_get 1 51 L st σ n k w (zk1 cut G (Z f)) G R T := zrs hZ rfl f L st σ n k w
theorem f_X4_cardNumber_51 (hZ : ZRN (ztb (tb_X4_cardNumber E d mc ms)) cut G R T Z) (f : Nat) (L : ZLV) (st : List Value) (σ : ZHp) (n k w : Nat) : Z (f + 1) 51 L st σ n k w = s_ireturn L st σ n k w (zk1 cut G (Z f)) G R T := zrs hZ rfl f L st σ n k w
theorem f_X4_cardNumber_52 (hZ : ZRN (ztb (tb_X4_cardNumber E d mc ms)) cut G R T Z) (f : Nat) (L : ZLV) (st : List Value) (σ : ZHp) (n k w : Nat) : Z (f + 1) 52 L st σ n k w = s_aload 0 53 L st σ n k w (zk1 cut G (Z f)) G R T := zrs hZ rfl f L st σ n k w
theorem f_X4_cardNumber_53 (hZ : ZRN (ztb (tb_X4_cardNumber E d mc ms)) cut G R T Z) (f : Nat) (L : ZLV) (st : List Value) (σ : ZHp) (n k w : Nat) : Z (f + 1) 53 L st σ n k w = s_getf 3 5 56 L st σ n k w (zk1 cut G (Z f)) G R T := zrs hZ rfl f L st σ n k w
theorem f_X4_cardNumber_56 (hZ : ZRN (ztb (tb_X4_cardNumber E d mc ms)) cut G R T Z) (f : Nat) (L : ZLV) (st : List Value) (σ : ZHp) (n k w : Nat) : Z (f + 1) 56 L st σ n k w = s_getf 5 4 59 L st σ n k w (zk1 cut G (Z f)) G R T := zrs hZ rfl f L st σ n k w
theorem f_X4_cardNumber_59 (hZ : ZRN (ztb (tb_X4_cardNumber E d mc ms)) cut G R T Z) (f : Nat) (L : ZLV) (st : List Value) (σ : ZHp) (n k w : Nat) : Z (f + 1) 59 L st σ n k w = s_iload 1 60 L st σ n k w (zk1 cut G (Z f)) G R T := zrs hZ rfl f L st σ n k w
theorem f_X4_cardNumber_60 (hZ : ZRN (ztb (tb_X4_cardNumber E d mc ms)) cut G R T Z) (f : Nat) (L : ZLV) (st : List Value) (σ : ZHp) (n k w : Nat) : Z (f + 1) 60 L st σ n k w = s_callV E d mc ms 4 MX5_get 1 63 L st σ n k w (zk1 cut G (Z f)) G R T := zrs hZ rfl f L st σ n k w
theorem f_X4_cardNumber_63 (hZ : ZRN (ztb (tb_X4_cardNumber E d mc ms)) cut G R T Z) (f : Nat) (L : ZLV) (st : List Value) (σ : ZHp) (n k w : Nat) : Z (f + 1) 63 L st σ n k w = s_ireturn L st σ n k w (zk1 cut G (Z f)) G R T := zrs hZ rfl f L st σ n k w
theorem f_X4_cardNumber_64 (hZ : ZRN (ztb (tb_X4_cardNumber E d mc ms)) cut G R T Z) (f : Nat) (L : ZLV) (st : List Value) (σ : ZHp) (n k w : Nat) : Z (f + 1) 64 L st σ n k w = s_aload 0 65 L st σ n k w (zk1 cut G (Z f)) G R T := zrs hZ rfl f L st σ n k w
theorem f_X4_cardNumber_65 (hZ : ZRN (ztb (tb_X4_cardNumber E d mc ms)) cut G R T Z) (f : Nat) (L : ZLV) (st : List Value) (σ : ZHp) (n k w : Nat) : Z (f + 1) 65 L st σ n k w = s_getf 3 5 68 L st σ n k w (zk1 cut G (Z f)) G R T := zrs hZ rfl f L st σ n k w
theorem f_X4_cardNumber_68 (hZ : ZRN (ztb (tb_X4_cardNumber E d mc ms)) cut G R T Z) (f : Nat) (L : ZLV) (st : List Value) (σ : ZHp) (n k w : Nat) : Z (f + 1) 68 L st σ n k w = s_getf 5 7 71 L st σ n k w (zk1 cut G (Z f)) G R T := zrs hZ rfl f L st σ n k w
theorem f_X4_cardNumber_71 (hZ : ZRN (ztb (tb_X4_cardNumber E d mc ms)) cut G R T Z) (f : Nat) (L : ZLV) (st : List Value) (σ : ZHp) (n k w : Nat) : Z (f + 1) 71 L st σ n k w = s_iload 1 72 L st σ n k w (zk1 cut G (Z f)) G R T := zrs hZ rfl f L st σ n k w
theorem f_X4_cardNumber_72 (hZ : ZRN (ztb (tb_X4_cardNumber E d mc ms)) cut G R T Z) (f : Nat) (L : ZLV) (st : List Value) (σ : ZHp) (n k w : Nat) : Z (f + 1) 72 L st σ n k w = s_callV E d mc ms 4 MX5_get 1 75 L st σ n k w (zk1 cut G (Z f)) G R T := zrs hZ rfl f L st σ n k w
theorem f_X4_cardNumber_75 (hZ : ZRN (ztb (tb_X4_cardNumber E d mc ms)) cut G R T Z) (f : Nat) (L : ZLV) (st : List Value) (σ : ZHp) (n k w : Nat) : Z (f + 1) 75 L st σ n k w = s_ireturn L st σ n k w (zk1 cut G (Z f)) G R T := zrs hZ rfl f L st σ n k w
theorem f_X4_cardNumber_76 (hZ : ZRN (ztb (tb_X4_cardNumber E d mc ms)) cut G R T Z) (f : Nat) (L : ZLV) (st : List Value) (σ : ZHp) (n k w : Nat) : Z (f + 1) 76 L st σ n k w = s_aload 0 77 L st σ n k w (zk1 cut G (Z f)) G R T := zrs hZ rfl f L st σ n k w
theorem f_X4_cardNumber_77 (hZ : ZRN (ztb (tb_X4_cardNumber E d mc ms)) cut G R T Z) (f : Nat) (L : ZLV) (st : List Value) (σ : ZHp) (n k w : Nat) : Z (f + 1) 77 L st σ n k w = s_getf 3 0 80 L st σ n k w (zk1 cut G (Z f)) G R T := zrs hZ rfl f L st σ n k w
theorem f_X4_cardNumber_80 (hZ : ZRN (ztb (tb_X4_cardNumber E d mc ms)) cut G R T Z) (f : Nat) (L : ZLV) (st : List Value) (σ : ZHp) (n k w : Nat) : Z (f + 1) 80 L st σ n k w = s_iload 1 81 L st σ n k w (zk1 cut G (Z f)) G R T := zrs hZ rfl f L st σ n k w
theorem f_X4_cardNumber_81 (hZ : ZRN (ztb (tb_X4_cardNumber E d mc ms)) cut G R T Z) (f : Nat) (L : ZLV) (st : List Value) (σ : ZHp) (n k w : Nat) : Z (f + 1) 81 L st σ n k w = s_callV E d mc ms 4 MX5_get 1 84 L st σ n k w (zk1 cut G (Z f)) G R T := zrs hZ rfl f L st σ n k w
theorem f_X4_cardNumber_84 (hZ : ZRN (ztb (tb_X4_cardNumber E d mc ms)) cut G R T Z) (f : Nat) (L : ZLV) (st : List Value) (σ : ZHp) (n k w : Nat) : Z (f + 1) 84 L st σ n k w = s_ireturn L st σ n k w (zk1 cut G (Z f)) G R T := zrs hZ rfl f L st σ n k w
theorem f_X4_cardNumber_85 (hZ : ZRN (ztb (tb_X4_cardNumber E d mc ms)) cut G R T Z) (f : Nat) (L : ZLV) (st : List Value) (σ : ZHp) (n k w : Nat) : Z (f + 1) 85 L st σ n k w = s_aload 0 86 L st σ n k w (zk1 cut G (Z f)) G R T := zrs hZ rfl f L st σ n k w
theorem f_X4_cardNumber_86 (hZ : ZRN (ztb (tb_X4_cardNumber E d mc ms)) cut G R T Z) (f : Nat) (L : ZLV) (st : List Value) (σ : ZHp) (n k w : Nat) : Z (f + 1) 86 L st σ n k w = s_iload 1 87 L st σ n k w (zk1 cut G (Z f)) G R T := zrs hZ rfl f L st σ n k w
theorem f_X4_cardNumber_87 (hZ : ZRN (ztb (tb_X4_cardNumber E d mc ms)) cut G R T Z) (f : Nat) (L : ZLV) (st : List Value) (σ : ZHp) (n k w : Nat) : Z (f + 1) 87 L st σ n k w = s_callV E d mc ms 3 MX4_ownedByAll 1 90 L st σ n k w (zk1 cut G (Z f)) G R T := zrs hZ rfl f L st σ n k w
theorem f_X4_cardNumber_90 (hZ : ZRN (ztb (tb_X4_cardNumber E d mc ms)) cut G R T Z) (f : Nat) (L : ZLV) (st : List Value) (σ : ZHp) (n k w : Nat) : Z (f + 1) 90 L st σ n k w = s_ireturn L st σ n k w (zk1 cut G (Z f)) G R T := zrs hZ rfl f L st σ n k w
theorem f_X4_cardNumber_91 (hZ : ZRN (ztb (tb_X4_cardNumber E d mc ms)) cut G R T Z) (f : Nat) (L : ZLV) (st : List Value) (σ : ZHp) (n k w : Nat) : Z (f + 1) 91 L st σ n k w = s_aload 0 92 L st σ n k w (zk1 cut G (Z f)) G R T := zrs hZ rfl f L st σ n k w
theorem f_X4_cardNumber_92 (hZ : ZRN (ztb (tb_X4_cardNumber E d mc ms)) cut G R T Z) (f : Nat) (L : ZLV) (st : List Value) (σ : ZHp) (n k w : Nat) : Z (f + 1) 92 L st σ n k w = s_getf 3 1 95 L st σ n k w (zk1 cut G (Z f)) G R T := zrs hZ rfl f L st σ n k w
theorem f_X4_cardNumber_95 (hZ : ZRN (ztb (tb_X4_cardNumber E d mc ms)) cut G R T Z) (f : Nat) (L : ZLV) (st : List Value) (σ : ZHp) (n k w : Nat) : Z (f + 1) 95 L st σ n k w = s_iload 1 96 L st σ n k w (zk1 cut G (Z f)) G R T := zrs hZ rfl f L st σ n k w
theorem f_X4_cardNumber_96 (hZ : ZRN (ztb (tb_X4_cardNumber E d mc ms)) cut G R T Z) (f : Nat) (L : ZLV) (st : List Value) (σ : ZHp) (n k w : Nat) : Z (f + 1) 96 L st σ n k w = s_callV E d mc ms 4 MX5_get 1 99 L st σ n k w (zk1 cut G (Z f)) G R T := zrs hZ rfl f L st σ n k w
theorem f_X4_cardNumber_99 (hZ : ZRN (ztb (tb_X4_cardNumber E d mc ms)) cut G R T Z) (f : Nat) (L : ZLV) (st : List Value) (σ : ZHp) (n k w : Nat) : Z (f + 1) 99 L st σ n k w = s_ireturn L st σ n k w (zk1 cut G (Z f)) G R T := zrs hZ rfl f L st σ n k w
theorem f_X4_cardNumber_100 (hZ : ZRN (ztb (tb_X4_cardNumber E d mc ms)) cut G R T Z) (f : Nat) (L : ZLV) (st : List Value) (σ : ZHp) (n k w : Nat) : Z (f + 1) 100 L st σ n k w = s_aload 0 101 L st σ n k w (zk1 cut G (Z f)) G R T := zrs hZ rfl f L st σ n k w
theorem f_X4_cardNumber_101 (hZ : ZRN (ztb (tb_X4_cardNumber E d mc ms)) cut G R T Z) (f : Nat) (L : ZLV) (st : List Value) (σ : ZHp) (n k w : Nat) : Z (f + 1) 101 L st σ n k w = s_getf 3 2 104 L st σ n k w (zk1 cut G (Z f)) G R T := zrs hZ rfl f L st σ n k w
theorem f_X4_cardNumber_104 (hZ : ZRN (ztb (tb_X4_cardNumber E d mc ms)) cut G R T Z) (f : Nat) (L : ZLV) (st : List Value) (σ : ZHp) (n k w : Nat) : Z (f + 1) 104 L st σ n k w = s_iload 1 105 L st σ n k w (zk1 cut G (Z f)) G R T := zrs hZ rfl f L st σ n k w
theorem f_X4_cardNumber_105 (hZ : ZRN (ztb (tb_X4_cardNumber E d mc ms)) cut G R T Z) (f : Nat) (L : ZLV) (st : List Value) (σ : ZHp) (n k w : Nat) : Z (f + 1) 105 L st σ n k w = s_callV E d mc ms 4 MX5_get 1 108 L st σ n k w (zk1 cut G (Z f)) G R T := zrs hZ rfl f L st σ n k w
theorem f_X4_cardNumber_108 (hZ : ZRN (ztb (tb_X4_cardNumber E d mc ms)) cut G R T Z) (f : Nat) (L : ZLV) (st : List Value) (σ : ZHp) (n k w : Nat) : Z (f + 1) 108 L st σ n k w = s_ireturn L st σ n k w (zk1 cut G (Z f)) G R T := zrs hZ rfl f L st σ n k w
theorem f_X4_ownedByAll_0 (hZ : ZRN (ztb (tb_X4_ownedByAll E d mc ms)) cut G R T Z) (f : Nat) (L : ZLV) (st : List Value) (σ : ZHp) (n k w : Nat) : Z (f + 1) 0 L st σ n k w = s_const (.int (0)) 1 L st σ n k w (zk1 cut G (Z f)) G R T := zrs hZ rfl f L st σ n k w
theorem f_X4_ownedByAll_1 (hZ : ZRN (ztb (tb_X4_ownedByAll E d mc ms)) cut G R T Z) (f : Nat) (L : ZLV) (st : List Value) (σ : ZHp) (n k w : Nat) : Z (f + 1) 1 L st σ n k w = s_istore 2 2 L st σ n k w (zk1 cut G (Z f)) G R T := zrs hZ rfl f L st σ n k w
theorem f_X4_ownedByAll_2 (hZ : ZRN (ztb (tb_X4_ownedByAll E d mc ms)) cut G R T Z) (f : Nat) (L : ZLV) (st : List Value) (σ : ZHp) (n k w : Nat) : Z (f + 1) 2 L st σ n k w = s_const (.int (0)) 3 L st σ n k w (zk1 cut G (Z f)) G R T := zrs hZ rfl f L st σ n k w
theorem f_X4_ownedByAll_3 (hZ : ZRN (ztb (tb_X4_ownedByAll E d mc ms)) cut G R T Z) (f : Nat) (L : ZLV) (st : List Value) (σ : ZHp) (n k w : Nat) : Z (f + 1) 3 L st σ n k w = s_istore 3 4 L st σ n k w (zk1 cut G (Z f)) G R T := zrs hZ rfl f L st σ n k w
theorem f_X4_ownedByAll_4 (hZ : ZRN (ztb (tb_X4_ownedByAll E d mc ms)) cut G R T Z) (f : Nat) (L : ZLV) (st : List Value) (σ : ZHp) (n k w : Nat) : Z (f + 1) 4 L st σ n k w = s_iload 3 5 L st σ n k w (zk1 cut G (Z f)) G R T := zrs hZ rfl f L st σ n k w
theorem f_X4_ownedByAll_5 (hZ : ZRN (ztb (tb_X4_ownedByAll E d mc ms)) cut G R T Z) (f : Nat) (L : ZLV) (st : List Value) (σ : ZHp) (n k w : Nat) : Z (f + 1) 5 L st σ n k w = s_aload 0 6 L st σ n k w (zk1 cut G (Z f)) G R T := zrs hZ rfl f L st σ n k w
theorem f_X4_ownedByAll_6 (hZ : ZRN (ztb (tb_X4_ownedByAll E d mc ms)) cut G R T Z) (f : Nat) (L : ZLV) (st : List Value) (σ : ZHp) (n k w : Nat) : Z (f + 1) 6 L st σ n k w = s_getf 3 5 9 L st σ n k w (zk1 cut G (Z f)) G R T := zrs hZ rfl f L st σ n k w
theorem f_X4_ownedByAll_9 (hZ : ZRN (ztb (tb_X4_ownedByAll E d mc ms)) cut G R T Z) (f : Nat) (L : ZLV) (st : List Value) (σ : ZHp) (n k w : Nat) : Z (f + 1) 9 L st σ n k w = s_getf 5 1 12 L st σ n k w (zk1 cut G (Z f)) G R T := zrs hZ rfl f L st σ n k w
theorem f_X4_ownedByAll_12 (hZ : ZRN (ztb (tb_X4_ownedByAll E d mc ms)) cut G R T Z) (f : Nat) (L : ZLV) (st : List Value) (σ : ZHp) (n k w : Nat) : Z (f + 1) 12 L st σ n k w = s_icmp_ge 36 15 L st σ n k w (zk1 cut G (Z f)) G R T := zrs hZ rfl f L st σ n k w
theorem f_X4_ownedByAll_15 (hZ : ZRN (ztb (tb_X4_ownedByAll E d mc ms)) cut G R T Z) (f : Nat) (L : ZLV) (st : List Value) (σ : ZHp) (n k w : Nat) : Z (f + 1) 15 L st σ n k w = s_iload 2 16 L st σ n k w (zk1 cut G (Z f)) G R T := zrs hZ rfl f L st σ n k w
theorem f_X4_ownedByAll_16 (hZ : ZRN (ztb (tb_X4_ownedByAll E d mc ms)) cut G R T Z) (f : Nat) (L : ZLV) (st : List Value) (σ : ZHp) (n k w : Nat) : Z (f + 1) 16 L st σ n k w = s_aload 0 17 L st σ n k w (zk1 cut G (Z f)) G R T := zrs hZ rfl f L st σ n k w
theorem f_X4_ownedByAll_17 (hZ : ZRN (ztb (tb_X4_ownedByAll E d mc ms)) cut G R T Z) (f : Nat) (L : ZLV) (st : List Value) (σ : ZHp) (n k w : Nat) : Z (f + 1) 17 L st σ n k w = s_iload 3 18 L st σ n k w (zk1 cut G (Z f)) G R T := zrs hZ rfl f L st σ n k w
theorem f_X4_ownedByAll_18 (hZ : ZRN (ztb (tb_X4_ownedByAll E d mc ms)) cut G R T Z) (f : Nat) (L : ZLV) (st : List Value) (σ : ZHp) (n k w : Nat) : Z (f + 1) 18 L st σ n k w = s_callV E d mc ms 3 MX4_trader 1 21 L st σ n k w (zk1 cut G (Z f)) G R T := zrs hZ rfl f L st σ n k w
theorem f_X4_ownedByAll_21 (hZ : ZRN (ztb (tb_X4_ownedByAll E d mc ms)) cut G R T Z) (f : Nat) (L : ZLV) (st : List Value) (σ : ZHp) (n k w : Nat) : Z (f + 1) 21 L st σ n k w = s_getf 10 2 24 L st σ n k w (zk1 cut G (Z f)) G R T := zrs hZ rfl f L st σ n k w
theorem f_X4_ownedByAll_24 (hZ : ZRN (ztb (tb_X4_ownedByAll E d mc ms)) cut G R T Z) (f : Nat) (L : ZLV) (st : List Value) (σ : ZHp) (n k w : Nat) : Z (f + 1) 24 L st σ n k w = s_iload 1 25 L st σ n k w (zk1 cut G (Z f)) G R T := zrs hZ rfl f L st σ n k w
theorem f_X4_ownedByAll_25 (hZ : ZRN (ztb (tb_X4_ownedByAll E d mc ms)) cut G R T Z) (f : Nat) (L : ZLV) (st : List Value) (σ : ZHp) (n k w : Nat) : Z (f + 1) 25 L st σ n k w = s_callV E d mc ms 4 MX5_get 1 28 L st σ n k w (zk1 cut G (Z f)) G R T := zrs hZ rfl f L st σ n k w
theorem f_X4_ownedByAll_28 (hZ : ZRN (ztb (tb_X4_ownedByAll E d mc ms)) cut G R T Z) (f : Nat) (L : ZLV) (st : List Value) (σ : ZHp) (n k w : Nat) : Z (f + 1) 28 L st σ n k w = s_iadd 29 L st σ n k w (zk1 cut G (Z f)) G R T := zrs hZ rfl f L st σ n k w
theorem f_X4_ownedByAll_29 (hZ : ZRN (ztb (tb_X4_ownedByAll E d mc ms)) cut G R T Z) (f : Nat) (L : ZLV) (st : List Value) (σ : ZHp) (n k w : Nat) : Z (f + 1) 29 L st σ n k w = s_istore 2 30 L st σ n k w (zk1 cut G (Z f)) G R T := zrs hZ rfl f L st σ n k w
theorem f_X4_ownedByAll_30 (hZ : ZRN (ztb (tb_X4_ownedByAll E d mc ms)) cut G R T Z) (f : Nat) (L : ZLV) (st : List Value) (σ : ZHp) (n k w : Nat) : Z (f + 1) 30 L st σ n k w = s_iinc 3 (1) 33 L st σ n k w (zk1 cut G (Z f)) G R T := zrs hZ rfl f L st σ n k w
theorem f_X4_ownedByAll_33 (hZ : ZRN (ztb (tb_X4_ownedByAll E d mc ms)) cut G R T Z) (f : Nat) (L : ZLV) (st : List Value) (σ : ZHp) (n k w : Nat) : Z (f + 1) 33 L st σ n k w = s_goto 4 L st σ n k w (zk1 cut G (Z f)) G R T := zrs hZ rfl f L st σ n k w
theorem f_X4_ownedByAll_36 (hZ : ZRN (ztb (tb_X4_ownedByAll E d mc ms)) cut G R T Z) (f : Nat) (L : ZLV) (st : List Value) (σ : ZHp) (n k w : Nat) : Z (f + 1) 36 L st σ n k w = s_iload 2 37 L st σ n k w (zk1 cut G (Z f)) G R T := zrs hZ rfl f L st σ n k w
theorem f_X4_ownedByAll_37 (hZ : ZRN (ztb (tb_X4_ownedByAll E d mc ms)) cut G R T Z) (f : Nat) (L : ZLV) (st : List Value) (σ : ZHp) (n k w : Nat) : Z (f + 1) 37 L st σ n k w = s_ireturn L st σ n k w (zk1 cut G (Z f)) G R T := zrs hZ rfl f L st σ n k w
theorem f_X4_worth_0 (hZ : ZRN (ztb (tb_X4_worth E d mc ms)) cut G R T Z) (f : Nat) (L : ZLV) (st : List Value) (σ : ZHp) (n k w : Nat) : Z (f + 1) 0 L st σ n k w = s_aload 0 1 L st σ n k w (zk1 cut G (Z f)) G R T := zrs hZ rfl f L st σ n k w
theorem f_X4_worth_1 (hZ : ZRN (ztb (tb_X4_worth E d mc ms)) cut G R T Z) (f : Nat) (L : ZLV) (st : List Value) (σ : ZHp) (n k w : Nat) : Z (f + 1) 1 L st σ n k w = s_iload 1 2 L st σ n k w (zk1 cut G (Z f)) G R T := zrs hZ rfl f L st σ n k w
theorem f_X4_worth_2 (hZ : ZRN (ztb (tb_X4_worth E d mc ms)) cut G R T Z) (f : Nat) (L : ZLV) (st : List Value) (σ : ZHp) (n k w : Nat) : Z (f + 1) 2 L st σ n k w = s_callV E d mc ms 3 MX4_trader 1 5 L st σ n k w (zk1 cut G (Z f)) G R T := zrs hZ rfl f L st σ n k w
theorem f_X4_worth_5 (hZ : ZRN (ztb (tb_X4_worth E d mc ms)) cut G R T Z) (f : Nat) (L : ZLV) (st : List Value) (σ : ZHp) (n k w : Nat) : Z (f + 1) 5 L st σ n k w = s_getf 10 2 8 L st σ n k w (zk1 cut G (Z f)) G R T := zrs hZ rfl f L st σ n k w
theorem f_X4_worth_8 (hZ : ZRN (ztb (tb_X4_worth E d mc ms)) cut G R T Z) (f : Nat) (L : ZLV) (st : List Value) (σ : ZHp) (n k w : Nat) : Z (f + 1) 8 L st σ n k w = s_astore 2 9 L st σ n k w (zk1 cut G (Z f)) G R T := zrs hZ rfl f L st σ n k w
theorem f_X4_worth_9 (hZ : ZRN (ztb (tb_X4_worth E d mc ms)) cut G R T Z) (f : Nat) (L : ZLV) (st : List Value) (σ : ZHp) (n k w : Nat) : Z (f + 1) 9 L st σ n k w = s_const (.int (0)) 10 L st σ n k w (zk1 cut G (Z f)) G R T := zrs hZ rfl f L st σ n k w
theorem f_X4_worth_10 (hZ : ZRN (ztb (tb_X4_worth E d mc ms)) cut G R T Z) (f : Nat) (L : ZLV) (st : List Value) (σ : ZHp) (n k w : Nat) : Z (f + 1) 10 L st σ n k w = s_istore 3 11 L st σ n k w (zk1 cut G (Z f)) G R T := zrs hZ rfl f L st σ n k w
theorem f_X4_worth_11 (hZ : ZRN (ztb (tb_X4_worth E d mc ms)) cut G R T Z) (f : Nat) (L : ZLV) (st : List Value) (σ : ZHp) (n k w : Nat) : Z (f + 1) 11 L st σ n k w = s_const (.int (0)) 12 L st σ n k w (zk1 cut G (Z f)) G R T := zrs hZ rfl f L st σ n k w
theorem f_X4_worth_12 (hZ : ZRN (ztb (tb_X4_worth E d mc ms)) cut G R T Z) (f : Nat) (L : ZLV) (st : List Value) (σ : ZHp) (n k w : Nat) : Z (f + 1) 12 L st σ n k w = s_istore 4 14 L st σ n k w (zk1 cut G (Z f)) G R T := zrs hZ rfl f L st σ n k w
theorem f_X4_worth_14 (hZ : ZRN (ztb (tb_X4_worth E d mc ms)) cut G R T Z) (f : Nat) (L : ZLV) (st : List Value) (σ : ZHp) (n k w : Nat) : Z (f + 1) 14 L st σ n k w = s_iload 4 16 L st σ n k w (zk1 cut G (Z f)) G R T := zrs hZ rfl f L st σ n k w
theorem f_X4_worth_16 (hZ : ZRN (ztb (tb_X4_worth E d mc ms)) cut G R T Z) (f : Nat) (L : ZLV) (st : List Value) (σ : ZHp) (n k w : Nat) : Z (f + 1) 16 L st σ n k w = s_aload 0 17 L st σ n k w (zk1 cut G (Z f)) G R T := zrs hZ rfl f L st σ n k w
theorem f_X4_worth_17 (hZ : ZRN (ztb (tb_X4_worth E d mc ms)) cut G R T Z) (f : Nat) (L : ZLV) (st : List Value) (σ : ZHp) (n k w : Nat) : Z (f + 1) 17 L st σ n k w = s_getf 3 5 20 L st σ n k w (zk1 cut G (Z f)) G R T := zrs hZ rfl f L st σ n k w
theorem f_X4_worth_20 (hZ : ZRN (ztb (tb_X4_worth E d mc ms)) cut G R T Z) (f : Nat) (L : ZLV) (st : List Value) (σ : ZHp) (n k w : Nat) : Z (f + 1) 20 L st σ n k w = s_getf 5 0 23 L st σ n k w (zk1 cut G (Z f)) G R T := zrs hZ rfl f L st σ n k w
theorem f_X4_worth_23 (hZ : ZRN (ztb (tb_X4_worth E d mc ms)) cut G R T Z) (f : Nat) (L : ZLV) (st : List Value) (σ : ZHp) (n k w : Nat) : Z (f + 1) 23 L st σ n k w = s_icmp_ge 54 26 L st σ n k w (zk1 cut G (Z f)) G R T := zrs hZ rfl f L st σ n k w
theorem f_X4_worth_26 (hZ : ZRN (ztb (tb_X4_worth E d mc ms)) cut G R T Z) (f : Nat) (L : ZLV) (st : List Value) (σ : ZHp) (n k w : Nat) : Z (f + 1) 26 L st σ n k w = s_iload 3 27 L st σ n k w (zk1 cut G (Z f)) G R T := zrs hZ rfl f L st σ n k w
theorem f_X4_worth_27 (hZ : ZRN (ztb (tb_X4_worth E d mc ms)) cut G R T Z) (f : Nat) (L : ZLV) (st : List Value) (σ : ZHp) (n k w : Nat) : Z (f + 1) 27 L st σ n k w = s_aload 2 28 L st σ n k w (zk1 cut G (Z f)) G R T := zrs hZ rfl f L st σ n k w
theorem f_X4_worth_28 (hZ : ZRN (ztb (tb_X4_worth E d mc ms)) cut G R T Z) (f : Nat) (L : ZLV) (st : List Value) (σ : ZHp) (n k w : Nat) : Z (f + 1) 28 L st σ n k w = s_iload 4 30 L st σ n k w (zk1 cut G (Z f)) G R T := zrs hZ rfl f L st σ n k w
theorem f_X4_worth_30 (hZ : ZRN (ztb (tb_X4_worth E d mc ms)) cut G R T Z) (f : Nat) (L : ZLV) (st : List Value) (σ : ZHp) (n k w : Nat) : Z (f + 1) 30 L st σ n k w = s_callV E d mc ms 4 MX5_get 1 33 L st σ n k w (zk1 cut G (Z f)) G R T := zrs hZ rfl f L st σ n k w
theorem f_X4_worth_33 (hZ : ZRN (ztb (tb_X4_worth E d mc ms)) cut G R T Z) (f : Nat) (L : ZLV) (st : List Value) (σ : ZHp) (n k w : Nat) : Z (f + 1) 33 L st σ n k w = s_aload 0 34 L st σ n k w (zk1 cut G (Z f)) G R T := zrs hZ rfl f L st σ n k w
theorem f_X4_worth_34 (hZ : ZRN (ztb (tb_X4_worth E d mc ms)) cut G R T Z) (f : Nat) (L : ZLV) (st : List Value) (σ : ZHp) (n k w : Nat) : Z (f + 1) 34 L st σ n k w = s_getf 3 5 37 L st σ n k w (zk1 cut G (Z f)) G R T := zrs hZ rfl f L st σ n k w
theorem f_X4_worth_37 (hZ : ZRN (ztb (tb_X4_worth E d mc ms)) cut G R T Z) (f : Nat) (L : ZLV) (st : List Value) (σ : ZHp) (n k w : Nat) : Z (f + 1) 37 L st σ n k w = s_getf 5 4 40 L st σ n k w (zk1 cut G (Z f)) G R T := zrs hZ rfl f L st σ n k w
theorem f_X4_worth_40 (hZ : ZRN (ztb (tb_X4_worth E d mc ms)) cut G R T Z) (f : Nat) (L : ZLV) (st : List Value) (σ : ZHp) (n k w : Nat) : Z (f + 1) 40 L st σ n k w = s_iload 4 42 L st σ n k w (zk1 cut G (Z f)) G R T := zrs hZ rfl f L st σ n k w
theorem f_X4_worth_42 (hZ : ZRN (ztb (tb_X4_worth E d mc ms)) cut G R T Z) (f : Nat) (L : ZLV) (st : List Value) (σ : ZHp) (n k w : Nat) : Z (f + 1) 42 L st σ n k w = s_callV E d mc ms 4 MX5_get 1 45 L st σ n k w (zk1 cut G (Z f)) G R T := zrs hZ rfl f L st σ n k w
theorem f_X4_worth_45 (hZ : ZRN (ztb (tb_X4_worth E d mc ms)) cut G R T Z) (f : Nat) (L : ZLV) (st : List Value) (σ : ZHp) (n k w : Nat) : Z (f + 1) 45 L st σ n k w = s_imul 46 L st σ n k w (zk1 cut G (Z f)) G R T := zrs hZ rfl f L st σ n k w
theorem f_X4_worth_46 (hZ : ZRN (ztb (tb_X4_worth E d mc ms)) cut G R T Z) (f : Nat) (L : ZLV) (st : List Value) (σ : ZHp) (n k w : Nat) : Z (f + 1) 46 L st σ n k w = s_iadd 47 L st σ n k w (zk1 cut G (Z f)) G R T := zrs hZ rfl f L st σ n k w
theorem f_X4_worth_47 (hZ : ZRN (ztb (tb_X4_worth E d mc ms)) cut G R T Z) (f : Nat) (L : ZLV) (st : List Value) (σ : ZHp) (n k w : Nat) : Z (f + 1) 47 L st σ n k w = s_istore 3 48 L st σ n k w (zk1 cut G (Z f)) G R T := zrs hZ rfl f L st σ n k w
theorem f_X4_worth_48 (hZ : ZRN (ztb (tb_X4_worth E d mc ms)) cut G R T Z) (f : Nat) (L : ZLV) (st : List Value) (σ : ZHp) (n k w : Nat) : Z (f + 1) 48 L st σ n k w = s_iinc 4 (1) 51 L st σ n k w (zk1 cut G (Z f)) G R T := zrs hZ rfl f L st σ n k w
theorem f_X4_worth_51 (hZ : ZRN (ztb (tb_X4_worth E d mc ms)) cut G R T Z) (f : Nat) (L : ZLV) (st : List Value) (σ : ZHp) (n k w : Nat) : Z (f + 1) 51 L st σ n k w = s_goto 14 L st σ n k w (zk1 cut G (Z f)) G R T := zrs hZ rfl f L st σ n k w
theorem f_X4_worth_54 (hZ : ZRN (ztb (tb_X4_worth E d mc ms)) cut G R T Z) (f : Nat) (L : ZLV) (st : List Value) (σ : ZHp) (n k w : Nat) : Z (f + 1) 54 L st σ n k w = s_iload 3 55 L st σ n k w (zk1 cut G (Z f)) G R T := zrs hZ rfl f L st σ n k w
theorem f_X4_worth_55 (hZ : ZRN (ztb (tb_X4_worth E d mc ms)) cut G R T Z) (f : Nat) (L : ZLV) (st : List Value) (σ : ZHp) (n k w : Nat) : Z (f + 1) 55 L st σ n k w = s_ireturn L st σ n k w (zk1 cut G (Z f)) G R T := zrs hZ rfl f L st σ n k w
theorem f_X4_worthiest_0 (hZ : ZRN (ztb (tb_X4_worthiest E d mc ms)) cut G R T Z) (f : Nat) (L : ZLV) (st : List Value) (σ : ZHp) (n k w : Nat) : Z (f + 1) 0 L st σ n k w = s_const (.int (-1)) 1 L st σ n k w (zk1 cut G (Z f)) G R T := zrs hZ rfl f L st σ n k w
theorem f_X4_worthiest_1 (hZ : ZRN (ztb (tb_X4_worthiest E d mc ms)) cut G R T Z) (f : Nat) (L : ZLV) (st : List Value) (σ : ZHp) (n k w : Nat) : Z (f + 1) 1 L st σ n k w = s_istore 1 2 L st σ n k w (zk1 cut G (Z f)) G R T := zrs hZ rfl f L st σ n k w
theorem f_X4_worthiest_2 (hZ : ZRN (ztb (tb_X4_worthiest E d mc ms)) cut G R T Z) (f : Nat) (L : ZLV) (st : List Value) (σ : ZHp) (n k w : Nat) : Z (f + 1) 2 L st σ n k w = s_const (.int (0)) 3 L st σ n k w (zk1 cut G (Z f)) G R T := zrs hZ rfl f L st σ n k w
theorem f_X4_worthiest_3 (hZ : ZRN (ztb (tb_X4_worthiest E d mc ms)) cut G R T Z) (f : Nat) (L : ZLV) (st : List Value) (σ : ZHp) (n k w : Nat) : Z (f + 1) 3 L st σ n k w = s_istore 2 4 L st σ n k w (zk1 cut G (Z f)) G R T := zrs hZ rfl f L st σ n k w
theorem f_X4_worthiest_4 (hZ : ZRN (ztb (tb_X4_worthiest E d mc ms)) cut G R T Z) (f : Nat) (L : ZLV) (st : List Value) (σ : ZHp) (n k w : Nat) : Z (f + 1) 4 L st σ n k w = s_iload 2 5 L st σ n k w (zk1 cut G (Z f)) G R T := zrs hZ rfl f L st σ n k w
theorem f_X4_worthiest_5 (hZ : ZRN (ztb (tb_X4_worthiest E d mc ms)) cut G R T Z) (f : Nat) (L : ZLV) (st : List Value) (σ : ZHp) (n k w : Nat) : Z (f + 1) 5 L st σ n k w = s_aload 0 6 L st σ n k w (zk1 cut G (Z f)) G R T := zrs hZ rfl f L st σ n k w
theorem f_X4_worthiest_6 (hZ : ZRN (ztb (tb_X4_worthiest E d mc ms)) cut G R T Z) (f : Nat) (L : ZLV) (st : List Value) (σ : ZHp) (n k w : Nat) : Z (f + 1) 6 L st σ n k w = s_getf 3 5 9 L st σ n k w (zk1 cut G (Z f)) G R T := zrs hZ rfl f L st σ n k w
theorem f_X4_worthiest_9 (hZ : ZRN (ztb (tb_X4_worthiest E d mc ms)) cut G R T Z) (f : Nat) (L : ZLV) (st : List Value) (σ : ZHp) (n k w : Nat) : Z (f + 1) 9 L st σ n k w = s_getf 5 1 12 L st σ n k w (zk1 cut G (Z f)) G R T := zrs hZ rfl f L st σ n k w
theorem f_X4_worthiest_12 (hZ : ZRN (ztb (tb_X4_worthiest E d mc ms)) cut G R T Z) (f : Nat) (L : ZLV) (st : List Value) (σ : ZHp) (n k w : Nat) : Z (f + 1) 12 L st σ n k w = s_icmp_ge 37 15 L st σ n k w (zk1 cut G (Z f)) G R T := zrs hZ rfl f L st σ n k w
theorem f_X4_worthiest_15 (hZ : ZRN (ztb (tb_X4_worthiest E d mc ms)) cut G R T Z) (f : Nat) (L : ZLV) (st : List Value) (σ : ZHp) (n k w : Nat) : Z (f + 1) 15 L st σ n k w = s_iload 1 16 L st σ n k w (zk1 cut G (Z f)) G R T := zrs hZ rfl f L st σ n k w
theorem f_X4_worthiest_16 (hZ : ZRN (ztb (tb_X4_worthiest E d mc ms)) cut G R T Z) (f : Nat) (L : ZLV) (st : List Value) (σ : ZHp) (n k w : Nat) : Z (f + 1) 16 L st σ n k w = s_const (.int (-1)) 17 L st σ n k w (zk1 cut G (Z f)) G R T := zrs hZ rfl f L st σ n k w
theorem f_X4_worthiest_17 (hZ : ZRN (ztb (tb_X4_worthiest E d mc ms)) cut G R T Z) (f : Nat) (L : ZLV) (st : List Value) (σ : ZHp) (n k w : Nat) : Z (f + 1) 17 L st σ n k w = s_icmp_eq 29 20 L st σ n k w (zk1 cut G (Z f)) G R T := zrs hZ rfl f L st σ n k w
theorem f_X4_worthiest_20 (hZ : ZRN (ztb (tb_X4_worthiest E d mc ms)) cut G R T Z) (f : Nat) (L : ZLV) (st : List Value) (σ : ZHp) (n k w : Nat) : Z (f + 1) 20 L st σ n k w = s_aload 0 21 L st σ n k w (zk1 cut G (Z f)) G R T := zrs hZ rfl f L st σ n k w
theorem f_X4_worthiest_21 (hZ : ZRN (ztb (tb_X4_worthiest E d mc ms)) cut G R T Z) (f : Nat) (L : ZLV) (st : List Value) (σ : ZHp) (n k w : Nat) : Z (f + 1) 21 L st σ n k w = s_iload 2 22 L st σ n k w (zk1 cut G (Z f)) G R T := zrs hZ rfl f L st σ n k w
theorem f_X4_worthiest_22 (hZ : ZRN (ztb (tb_X4_worthiest E d mc ms)) cut G R T Z) (f : Nat) (L : ZLV) (st : List Value) (σ : ZHp) (n k w : Nat) : Z (f + 1) 22 L st σ n k w = s_iload 1 23 L st σ n k w (zk1 cut G (Z f)) G R T := zrs hZ rfl f L st σ n k w
theorem f_X4_worthiest_23 (hZ : ZRN (ztb (tb_X4_worthiest E d mc ms)) cut G R T Z) (f : Nat) (L : ZLV) (st : List Value) (σ : ZHp) (n k w : Nat) : Z (f + 1) 23 L st σ n k w = s_callV E d mc ms 3 MX4_isAhead 2 26 L st σ n k w (zk1 cut G (Z f)) G R T := zrs hZ rfl f L st σ n k w
theorem f_X4_worthiest_26 (hZ : ZRN (ztb (tb_X4_worthiest E d mc ms)) cut G R T Z) (f : Nat) (L : ZLV) (st : List Value) (σ : ZHp) (n k w : Nat) : Z (f + 1) 26 L st σ n k w = s_if_eq 31 29 L st σ n k w (zk1 cut G (Z f)) G R T := zrs hZ rfl f L st σ n k w
theorem f_X4_worthiest_29 (hZ : ZRN (ztb (tb_X4_worthiest E d mc ms)) cut G R T Z) (f : Nat) (L : ZLV) (st : List Value) (σ : ZHp) (n k w : Nat) : Z (f + 1) 29 L st σ n k w = s_iload 2 30 L st σ n k w (zk1 cut G (Z f)) G R T := zrs hZ rfl f L st σ n k w
theorem f_X4_worthiest_30 (hZ : ZRN (ztb (tb_X4_worthiest E d mc ms)) cut G R T Z) (f : Nat) (L : ZLV) (st : List Value) (σ : ZHp) (n k w : Nat) : Z (f + 1) 30 L st σ n k w = s_istore 1 31 L st σ n k w (zk1 cut G (Z f)) G R T := zrs hZ rfl f L st σ n k w
theorem f_X4_worthiest_31 (hZ : ZRN (ztb (tb_X4_worthiest E d mc ms)) cut G R T Z) (f : Nat) (L : ZLV) (st : List Value) (σ : ZHp) (n k w : Nat) : Z (f + 1) 31 L st σ n k w = s_iinc 2 (1) 34 L st σ n k w (zk1 cut G (Z f)) G R T := zrs hZ rfl f L st σ n k w
theorem f_X4_worthiest_34 (hZ : ZRN (ztb (tb_X4_worthiest E d mc ms)) cut G R T Z) (f : Nat) (L : ZLV) (st : List Value) (σ : ZHp) (n k w : Nat) : Z (f + 1) 34 L st σ n k w = s_goto 4 L st σ n k w (zk1 cut G (Z f)) G R T := zrs hZ rfl f L st σ n k w
theorem f_X4_worthiest_37 (hZ : ZRN (ztb (tb_X4_worthiest E d mc ms)) cut G R T Z) (f : Nat) (L : ZLV) (st : List Value) (σ : ZHp) (n k w : Nat) : Z (f + 1) 37 L st σ n k w = s_iload 1 38 L st σ n k w (zk1 cut G (Z f)) G R T := zrs hZ rfl f L st σ n k w
theorem f_X4_worthiest_38 (hZ : ZRN (ztb (tb_X4_worthiest E d mc ms)) cut G R T Z) (f : Nat) (L : ZLV) (st : List Value) (σ : ZHp) (n k w : Nat) : Z (f + 1) 38 L st σ n k w = s_ireturn L st σ n k w (zk1 cut G (Z f)) G R T := zrs hZ rfl f L st σ n k w
theorem f_X4_isAhead_0 (hZ : ZRN (ztb (tb_X4_isAhead E d mc ms)) cut G R T Z) (f : Nat) (L : ZLV) (st : List Value) (σ : ZHp) (n k w : Nat) : Z (f + 1) 0 L st σ n k w = s_aload 0 1 L st σ n k w (zk1 cut G (Z f)) G R T := zrs hZ rfl f L st σ n k w
theorem f_X4_isAhead_1 (hZ : ZRN (ztb (tb_X4_isAhead E d mc ms)) cut G R T Z) (f : Nat) (L : ZLV) (st : List Value) (σ : ZHp) (n k w : Nat) : Z (f + 1) 1 L st σ n k w = s_iload 1 2 L st σ n k w (zk1 cut G (Z f)) G R T := zrs hZ rfl f L st σ n k w
theorem f_X4_isAhead_2 (hZ : ZRN (ztb (tb_X4_isAhead E d mc ms)) cut G R T Z) (f : Nat) (L : ZLV) (st : List Value) (σ : ZHp) (n k w : Nat) : Z (f + 1) 2 L st σ n k w = s_callV E d mc ms 3 MX4_worth 1 5 L st σ n k w (zk1 cut G (Z f)) G R T := zrs hZ rfl f L st σ n k w
theorem f_X4_isAhead_5 (hZ : ZRN (ztb (tb_X4_isAhead E d mc ms)) cut G R T Z) (f : Nat) (L : ZLV) (st : List Value) (σ : ZHp) (n k w : Nat) : Z (f + 1) 5 L st σ n k w = s_aload 0 6 L st σ n k w (zk1 cut G (Z f)) G R T := zrs hZ rfl f L st σ n k w
theorem f_X4_isAhead_6 (hZ : ZRN (ztb (tb_X4_isAhead E d mc ms)) cut G R T Z) (f : Nat) (L : ZLV) (st : List Value) (σ : ZHp) (n k w : Nat) : Z (f + 1) 6 L st σ n k w = s_iload 2 7 L st σ n k w (zk1 cut G (Z f)) G R T := zrs hZ rfl f L st σ n k w
theorem f_X4_isAhead_7 (hZ : ZRN (ztb (tb_X4_isAhead E d mc ms)) cut G R T Z) (f : Nat) (L : ZLV) (st : List Value) (σ : ZHp) (n k w : Nat) : Z (f + 1) 7 L st σ n k w = s_callV E d mc ms 3 MX4_worth 1 10 L st σ n k w (zk1 cut G (Z f)) G R T := zrs hZ rfl f L st σ n k w
theorem f_X4_isAhead_10 (hZ : ZRN (ztb (tb_X4_isAhead E d mc ms)) cut G R T Z) (f : Nat) (L : ZLV) (st : List Value) (σ : ZHp) (n k w : Nat) : Z (f + 1) 10 L st σ n k w = s_icmp_eq 32 13 L st σ n k w (zk1 cut G (Z f)) G R T := zrs hZ rfl f L st σ n k w
theorem f_X4_isAhead_13 (hZ : ZRN (ztb (tb_X4_isAhead E d mc ms)) cut G R T Z) (f : Nat) (L : ZLV) (st : List Value) (σ : ZHp) (n k w : Nat) : Z (f + 1) 13 L st σ n k w = s_aload 0 14 L st σ n k w (zk1 cut G (Z f)) G R T := zrs hZ rfl f L st σ n k w
theorem f_X4_isAhead_14 (hZ : ZRN (ztb (tb_X4_isAhead E d mc ms)) cut G R T Z) (f : Nat) (L : ZLV) (st : List Value) (σ : ZHp) (n k w : Nat) : Z (f + 1) 14 L st σ n k w = s_iload 1 15 L st σ n k w (zk1 cut G (Z f)) G R T := zrs hZ rfl f L st σ n k w
theorem f_X4_isAhead_15 (hZ : ZRN (ztb (tb_X4_isAhead E d mc ms)) cut G R T Z) (f : Nat) (L : ZLV) (st : List Value) (σ : ZHp) (n k w : Nat) : Z (f + 1) 15 L st σ n k w = s_callV E d mc ms 3 MX4_worth 1 18 L st σ n k w (zk1 cut G (Z f)) G R T := zrs hZ rfl f L st σ n k w
theorem f_X4_isAhead_18 (hZ : ZRN (ztb (tb_X4_isAhead E d mc ms)) cut G R T Z) (f : Nat) (L : ZLV) (st : List Value) (σ : ZHp) (n k w : Nat) : Z (f + 1) 18 L st σ n k w = s_aload 0 19 L st σ n k w (zk1 cut G (Z f)) G R T := zrs hZ rfl f L st σ n k w
theorem f_X4_isAhead_19 (hZ : ZRN (ztb (tb_X4_isAhead E d mc ms)) cut G R T Z) (f : Nat) (L : ZLV) (st : List Value) (σ : ZHp) (n k w : Nat) : Z (f + 1) 19 L st σ n k w = s_iload 2 20 L st σ n k w (zk1 cut G (Z f)) G R T := zrs hZ rfl f L st σ n k w
theorem f_X4_isAhead_20 (hZ : ZRN (ztb (tb_X4_isAhead E d mc ms)) cut G R T Z) (f : Nat) (L : ZLV) (st : List Value) (σ : ZHp) (n k w : Nat) : Z (f + 1) 20 L st σ n k w = s_callV E d mc ms 3 MX4_worth 1 23 L st σ n k w (zk1 cut G (Z f)) G R T := zrs hZ rfl f L st σ n k w
theorem f_X4_isAhead_23 (hZ : ZRN (ztb (tb_X4_isAhead E d mc ms)) cut G R T Z) (f : Nat) (L : ZLV) (st : List Value) (σ : ZHp) (n k w : Nat) : Z (f + 1) 23 L st σ n k w = s_icmp_le 30 26 L st σ n k w (zk1 cut G (Z f)) G R T := zrs hZ rfl f L st σ n k w
theorem f_X4_isAhead_26 (hZ : ZRN (ztb (tb_X4_isAhead E d mc ms)) cut G R T Z) (f : Nat) (L : ZLV) (st : List Value) (σ : ZHp) (n k w : Nat) : Z (f + 1) 26 L st σ n k w = s_const (.int (1)) 27 L st σ n k w (zk1 cut G (Z f)) G R T := zrs hZ rfl f L st σ n k w
theorem f_X4_isAhead_27 (hZ : ZRN (ztb (tb_X4_isAhead E d mc ms)) cut G R T Z) (f : Nat) (L : ZLV) (st : List Value) (σ : ZHp) (n k w : Nat) : Z (f + 1) 27 L st σ n k w = s_goto 31 L st σ n k w (zk1 cut G (Z f)) G R T := zrs hZ rfl f L st σ n k w
theorem f_X4_isAhead_30 (hZ : ZRN (ztb (tb_X4_isAhead E d mc ms)) cut G R T Z) (f : Nat) (L : ZLV) (st : List Value) (σ : ZHp) (n k w : Nat) : Z (f + 1) 30 L st σ n k w = s_const (.int (0)) 31 L st σ n k w (zk1 cut G (Z f)) G R T := zrs hZ rfl f L st σ n k w
theorem f_X4_isAhead_31 (hZ : ZRN (ztb (tb_X4_isAhead E d mc ms)) cut G R T Z) (f : Nat) (L : ZLV) (st : List Value) (σ : ZHp) (n k w : Nat) : Z (f + 1) 31 L st σ n k w = s_zreturn L st σ n k w (zk1 cut G (Z f)) G R T := zrs hZ rfl f L st σ n k w
theorem f_X4_isAhead_32 (hZ : ZRN (ztb (tb_X4_isAhead E d mc ms)) cut G R T Z) (f : Nat) (L : ZLV) (st : List Value) (σ : ZHp) (n k w : Nat) : Z (f + 1) 32 L st σ n k w = s_aload 0 33 L st σ n k w (zk1 cut G (Z f)) G R T := zrs hZ rfl f L st σ n k w
theorem f_X4_isAhead_33 (hZ : ZRN (ztb (tb_X4_isAhead E d mc ms)) cut G R T Z) (f : Nat) (L : ZLV) (st : List Value) (σ : ZHp) (n k w : Nat) : Z (f + 1) 33 L st σ n k w = s_iload 1 34 L st σ n k w (zk1 cut G (Z f)) G R T := zrs hZ rfl f L st σ n k w
theorem f_X4_isAhead_34 (hZ : ZRN (ztb (tb_X4_isAhead E d mc ms)) cut G R T Z) (f : Nat) (L : ZLV) (st : List Value) (σ : ZHp) (n k w : Nat) : Z (f + 1) 34 L st σ n k w = s_callV E d mc ms 3 MX4_trader 1 37 L st σ n k w (zk1 cut G (Z f)) G R T := zrs hZ rfl f L st σ n k w
theorem f_X4_isAhead_37 (hZ : ZRN (ztb (tb_X4_isAhead E d mc ms)) cut G R T Z) (f : Nat) (L : ZLV) (st : List Value) (σ : ZHp) (n k w : Nat) : Z (f + 1) 37 L st σ n k w = s_getf 10 4 40 L st σ n k w (zk1 cut G (Z f)) G R T := zrs hZ rfl f L st σ n k w
theorem f_X4_isAhead_40 (hZ : ZRN (ztb (tb_X4_isAhead E d mc ms)) cut G R T Z) (f : Nat) (L : ZLV) (st : List Value) (σ : ZHp) (n k w : Nat) : Z (f + 1) 40 L st σ n k w = s_aload 0 41 L st σ n k w (zk1 cut G (Z f)) G R T := zrs hZ rfl f L st σ n k w
theorem f_X4_isAhead_41 (hZ : ZRN (ztb (tb_X4_isAhead E d mc ms)) cut G R T Z) (f : Nat) (L : ZLV) (st : List Value) (σ : ZHp) (n k w : Nat) : Z (f + 1) 41 L st σ n k w = s_iload 2 42 L st σ n k w (zk1 cut G (Z f)) G R T := zrs hZ rfl f L st σ n k w
theorem f_X4_isAhead_42 (hZ : ZRN (ztb (tb_X4_isAhead E d mc ms)) cut G R T Z) (f : Nat) (L : ZLV) (st : List Value) (σ : ZHp) (n k w : Nat) : Z (f + 1) 42 L st σ n k w = s_callV E d mc ms 3 MX4_trader 1 45 L st σ n k w (zk1 cut G (Z f)) G R T := zrs hZ rfl f L st σ n k w
theorem f_X4_isAhead_45 (hZ : ZRN (ztb (tb_X4_isAhead E d mc ms)) cut G R T Z) (f : Nat) (L : ZLV) (st : List Value) (σ : ZHp) (n k w : Nat) : Z (f + 1) 45 L st σ n k w = s_getf 10 4 48 L st σ n k w (zk1 cut G (Z f)) G R T := zrs hZ rfl f L st σ n k w
theorem f_X4_isAhead_48 (hZ : ZRN (ztb (tb_X4_isAhead E d mc ms)) cut G R T Z) (f : Nat) (L : ZLV) (st : List Value) (σ : ZHp) (n k w : Nat) : Z (f + 1) 48 L st σ n k w = s_icmp_ge 55 51 L st σ n k w (zk1 cut G (Z f)) G R T := zrs hZ rfl f L st σ n k w
theorem f_X4_isAhead_51 (hZ : ZRN (ztb (tb_X4_isAhead E d mc ms)) cut G R T Z) (f : Nat) (L : ZLV) (st : List Value) (σ : ZHp) (n k w : Nat) : Z (f + 1) 51 L st σ n k w = s_const (.int (1)) 52 L st σ n k w (zk1 cut G (Z f)) G R T := zrs hZ rfl f L st σ n k w
theorem f_X4_isAhead_52 (hZ : ZRN (ztb (tb_X4_isAhead E d mc ms)) cut G R T Z) (f : Nat) (L : ZLV) (st : List Value) (σ : ZHp) (n k w : Nat) : Z (f + 1) 52 L st σ n k w = s_goto 56 L st σ n k w (zk1 cut G (Z f)) G R T := zrs hZ rfl f L st σ n k w
theorem f_X4_isAhead_55 (hZ : ZRN (ztb (tb_X4_isAhead E d mc ms)) cut G R T Z) (f : Nat) (L : ZLV) (st : List Value) (σ : ZHp) (n k w : Nat) : Z (f + 1) 55 L st σ n k w = s_const (.int (0)) 56 L st σ n k w (zk1 cut G (Z f)) G R T := zrs hZ rfl f L st σ n k w
theorem f_X4_isAhead_56 (hZ : ZRN (ztb (tb_X4_isAhead E d mc ms)) cut G R T Z) (f : Nat) (L : ZLV) (st : List Value) (σ : ZHp) (n k w : Nat) : Z (f + 1) 56 L st σ n k w = s_zreturn L st σ n k w (zk1 cut G (Z f)) G R T := zrs hZ rfl f L st σ n k w
theorem f_X4_canGain_0 (hZ : ZRN (ztb (tb_X4_canGain E d mc ms)) cut G R T Z) (f : Nat) (L : ZLV) (st : List Value) (σ : ZHp) (n k w : Nat) : Z (f + 1) 0 L st σ n k w = s_aload 0 1 L st σ n k w (zk1 cut G (Z f)) G R T := zrs hZ rfl f L st σ n k w
theorem f_X4_canGain_1 (hZ : ZRN (ztb (tb_X4_canGain E d mc ms)) cut G R T Z) (f : Nat) (L : ZLV) (st : List Value) (σ : ZHp) (n k w : Nat) : Z (f + 1) 1 L st σ n k w = s_getf 3 0 4 L st σ n k w (zk1 cut G (Z f)) G R T := zrs hZ rfl f L st σ n k w
theorem f_X4_canGain_4 (hZ : ZRN (ztb (tb_X4_canGain E d mc ms)) cut G R T Z) (f : Nat) (L : ZLV) (st : List Value) (σ : ZHp) (n k w : Nat) : Z (f + 1) 4 L st σ n k w = s_iload 2 5 L st σ n k w (zk1 cut G (Z f)) G R T := zrs hZ rfl f L st σ n k w
theorem f_X4_canGain_5 (hZ : ZRN (ztb (tb_X4_canGain E d mc ms)) cut G R T Z) (f : Nat) (L : ZLV) (st : List Value) (σ : ZHp) (n k w : Nat) : Z (f + 1) 5 L st σ n k w = s_callV E d mc ms 4 MX5_get 1 8 L st σ n k w (zk1 cut G (Z f)) G R T := zrs hZ rfl f L st σ n k w
theorem f_X4_canGain_8 (hZ : ZRN (ztb (tb_X4_canGain E d mc ms)) cut G R T Z) (f : Nat) (L : ZLV) (st : List Value) (σ : ZHp) (n k w : Nat) : Z (f + 1) 8 L st σ n k w = s_if_le 28 11 L st σ n k w (zk1 cut G (Z f)) G R T := zrs hZ rfl f L st σ n k w
theorem f_X4_canGain_11 (hZ : ZRN (ztb (tb_X4_canGain E d mc ms)) cut G R T Z) (f : Nat) (L : ZLV) (st : List Value) (σ : ZHp) (n k w : Nat) : Z (f + 1) 11 L st σ n k w = s_aload 0 12 L st σ n k w (zk1 cut G (Z f)) G R T := zrs hZ rfl f L st σ n k w
theorem f_X4_canGain_12 (hZ : ZRN (ztb (tb_X4_canGain E d mc ms)) cut G R T Z) (f : Nat) (L : ZLV) (st : List Value) (σ : ZHp) (n k w : Nat) : Z (f + 1) 12 L st σ n k w = s_iload 1 13 L st σ n k w (zk1 cut G (Z f)) G R T := zrs hZ rfl f L st σ n k w
theorem f_X4_canGain_13 (hZ : ZRN (ztb (tb_X4_canGain E d mc ms)) cut G R T Z) (f : Nat) (L : ZLV) (st : List Value) (σ : ZHp) (n k w : Nat) : Z (f + 1) 13 L st σ n k w = s_callV E d mc ms 3 MX4_trader 1 16 L st σ n k w (zk1 cut G (Z f)) G R T := zrs hZ rfl f L st σ n k w
theorem f_X4_canGain_16 (hZ : ZRN (ztb (tb_X4_canGain E d mc ms)) cut G R T Z) (f : Nat) (L : ZLV) (st : List Value) (σ : ZHp) (n k w : Nat) : Z (f + 1) 16 L st σ n k w = s_getf 10 4 19 L st σ n k w (zk1 cut G (Z f)) G R T := zrs hZ rfl f L st σ n k w
theorem f_X4_canGain_19 (hZ : ZRN (ztb (tb_X4_canGain E d mc ms)) cut G R T Z) (f : Nat) (L : ZLV) (st : List Value) (σ : ZHp) (n k w : Nat) : Z (f + 1) 19 L st σ n k w = s_const (.int (60)) 21 L st σ n k w (zk1 cut G (Z f)) G R T := zrs hZ rfl f L st σ n k w
theorem f_X4_canGain_21 (hZ : ZRN (ztb (tb_X4_canGain E d mc ms)) cut G R T Z) (f : Nat) (L : ZLV) (st : List Value) (σ : ZHp) (n k w : Nat) : Z (f + 1) 21 L st σ n k w = s_icmp_ge 28 24 L st σ n k w (zk1 cut G (Z f)) G R T := zrs hZ rfl f L st σ n k w
theorem f_X4_canGain_24 (hZ : ZRN (ztb (tb_X4_canGain E d mc ms)) cut G R T Z) (f : Nat) (L : ZLV) (st : List Value) (σ : ZHp) (n k w : Nat) : Z (f + 1) 24 L st σ n k w = s_const (.int (1)) 25 L st σ n k w (zk1 cut G (Z f)) G R T := zrs hZ rfl f L st σ n k w
theorem f_X4_canGain_25 (hZ : ZRN (ztb (tb_X4_canGain E d mc ms)) cut G R T Z) (f : Nat) (L : ZLV) (st : List Value) (σ : ZHp) (n k w : Nat) : Z (f + 1) 25 L st σ n k w = s_goto 29 L st σ n k w (zk1 cut G (Z f)) G R T := zrs hZ rfl f L st σ n k w
theorem f_X4_canGain_28 (hZ : ZRN (ztb (tb_X4_canGain E d mc ms)) cut G R T Z) (f : Nat) (L : ZLV) (st : List Value) (σ : ZHp) (n k w : Nat) : Z (f + 1) 28 L st σ n k w = s_const (.int (0)) 29 L st σ n k w (zk1 cut G (Z f)) G R T := zrs hZ rfl f L st σ n k w
theorem f_X4_canGain_29 (hZ : ZRN (ztb (tb_X4_canGain E d mc ms)) cut G R T Z) (f : Nat) (L : ZLV) (st : List Value) (σ : ZHp) (n k w : Nat) : Z (f + 1) 29 L st σ n k w = s_zreturn L st σ n k w (zk1 cut G (Z f)) G R T := zrs hZ rfl f L st σ n k w
theorem f_X4_gain_0 (hZ : ZRN (ztb (tb_X4_gain E d mc ms)) cut G R T Z) (f : Nat) (L : ZLV) (st : List Value) (σ : ZHp) (n k w : Nat) : Z (f + 1) 0 L st σ n k w = s_aload 0 1 L st σ n k w (zk1 cut G (Z f)) G R T := zrs hZ rfl f L st σ n k w
theorem f_X4_gain_1 (hZ : ZRN (ztb (tb_X4_gain E d mc ms)) cut G R T Z) (f : Nat) (L : ZLV) (st : List Value) (σ : ZHp) (n k w : Nat) : Z (f + 1) 1 L st σ n k w = s_getf 3 0 4 L st σ n k w (zk1 cut G (Z f)) G R T := zrs hZ rfl f L st σ n k w
theorem f_X4_gain_4 (hZ : ZRN (ztb (tb_X4_gain E d mc ms)) cut G R T Z) (f : Nat) (L : ZLV) (st : List Value) (σ : ZHp) (n k w : Nat) : Z (f + 1) 4 L st σ n k w = s_iload 2 5 L st σ n k w (zk1 cut G (Z f)) G R T := zrs hZ rfl f L st σ n k w
theorem f_X4_gain_5 (hZ : ZRN (ztb (tb_X4_gain E d mc ms)) cut G R T Z) (f : Nat) (L : ZLV) (st : List Value) (σ : ZHp) (n k w : Nat) : Z (f + 1) 5 L st σ n k w = s_const (.int (-1)) 6 L st σ n k w (zk1 cut G (Z f)) G R T := zrs hZ rfl f L st σ n k w
theorem f_X4_gain_6 (hZ : ZRN (ztb (tb_X4_gain E d mc ms)) cut G R T Z) (f : Nat) (L : ZLV) (st : List Value) (σ : ZHp) (n k w : Nat) : Z (f + 1) 6 L st σ n k w = s_callV E d mc ms 4 MX5_raise 2 9 L st σ n k w (zk1 cut G (Z f)) G R T := zrs hZ rfl f L st σ n k w
theorem f_X4_gain_9 (hZ : ZRN (ztb (tb_X4_gain E d mc ms)) cut G R T Z) (f : Nat) (L : ZLV) (st : List Value) (σ : ZHp) (n k w : Nat) : Z (f + 1) 9 L st σ n k w = s_aload 0 10 L st σ n k w (zk1 cut G (Z f)) G R T := zrs hZ rfl f L st σ n k w
theorem f_X4_gain_10 (hZ : ZRN (ztb (tb_X4_gain E d mc ms)) cut G R T Z) (f : Nat) (L : ZLV) (st : List Value) (σ : ZHp) (n k w : Nat) : Z (f + 1) 10 L st σ n k w = s_iload 1 11 L st σ n k w (zk1 cut G (Z f)) G R T := zrs hZ rfl f L st σ n k w
theorem f_X4_gain_11 (hZ : ZRN (ztb (tb_X4_gain E d mc ms)) cut G R T Z) (f : Nat) (L : ZLV) (st : List Value) (σ : ZHp) (n k w : Nat) : Z (f + 1) 11 L st σ n k w = s_callV E d mc ms 3 MX4_trader 1 14 L st σ n k w (zk1 cut G (Z f)) G R T := zrs hZ rfl f L st σ n k w
theorem f_X4_gain_14 (hZ : ZRN (ztb (tb_X4_gain E d mc ms)) cut G R T Z) (f : Nat) (L : ZLV) (st : List Value) (σ : ZHp) (n k w : Nat) : Z (f + 1) 14 L st σ n k w = s_iload 2 15 L st σ n k w (zk1 cut G (Z f)) G R T := zrs hZ rfl f L st σ n k w
theorem f_X4_gain_15 (hZ : ZRN (ztb (tb_X4_gain E d mc ms)) cut G R T Z) (f : Nat) (L : ZLV) (st : List Value) (σ : ZHp) (n k w : Nat) : Z (f + 1) 15 L st σ n k w = s_callV E d mc ms 10 MX11_gain 1 18 L st σ n k w (zk1 cut G (Z f)) G R T := zrs hZ rfl f L st σ n k w
theorem f_X4_gain_18 (hZ : ZRN (ztb (tb_X4_gain E d mc ms)) cut G R T Z) (f : Nat) (L : ZLV) (st : List Value) (σ : ZHp) (n k w : Nat) : Z (f + 1) 18 L st σ n k w = s_return L st σ n k w (zk1 cut G (Z f)) G R T := zrs hZ rfl f L st σ n k w
theorem f_X6_init_0 (hZ : ZRN (ztb (tb_X6_init E d mc ms)) cut G R T Z) (f : Nat) (L : ZLV) (st : List Value) (σ : ZHp) (n k w : Nat) : Z (f + 1) 0 L st σ n k w = s_aload 0 1 L st σ n k w (zk1 cut G (Z f)) G R T := zrs hZ rfl f L st σ n k w
theorem f_X6_init_1 (hZ : ZRN (ztb (tb_X6_init E d mc ms)) cut G R T Z) (f : Nat) (L : ZLV) (st : List Value) (σ : ZHp) (n k w : Nat) : Z (f + 1) 1 L st σ n k w = s_objinit d 4 L st σ n k w (zk1 cut G (Z f)) G R T := zrs hZ rfl f L st σ n k w
theorem f_X6_init_4 (hZ : ZRN (ztb (tb_X6_init E d mc ms)) cut G R T Z) (f : Nat) (L : ZLV) (st : List Value) (σ : ZHp) (n k w : Nat) : Z (f + 1) 4 L st σ n k w = s_aload 0 5 L st σ n k w (zk1 cut G (Z f)) G R T := zrs hZ rfl f L st σ n k w
theorem f_X6_init_5 (hZ : ZRN (ztb (tb_X6_init E d mc ms)) cut G R T Z) (f : Nat) (L : ZLV) (st : List Value) (σ : ZHp) (n k w : Nat) : Z (f + 1) 5 L st σ n k w = s_const (.int (0)) 6 L st σ n k w (zk1 cut G (Z f)) G R T := zrs hZ rfl f L st σ n k w
theorem f_X6_init_6 (hZ : ZRN (ztb (tb_X6_init E d mc ms)) cut G R T Z) (f : Nat) (L : ZLV) (st : List Value) (σ : ZHp) (n k w : Nat) : Z (f + 1) 6 L st σ n k w = s_putf 5 0 0 9 L st σ n k w (zk1 cut G (Z f)) G R T := zrs hZ rfl f L st σ n k w
theorem f_X6_init_9 (hZ : ZRN (ztb (tb_X6_init E d mc ms)) cut G R T Z) (f : Nat) (L : ZLV) (st : List Value) (σ : ZHp) (n k w : Nat) : Z (f + 1) 9 L st σ n k w = s_aload 0 10 L st σ n k w (zk1 cut G (Z f)) G R T := zrs hZ rfl f L st σ n k w
theorem f_X6_init_10 (hZ : ZRN (ztb (tb_X6_init E d mc ms)) cut G R T Z) (f : Nat) (L : ZLV) (st : List Value) (σ : ZHp) (n k w : Nat) : Z (f + 1) 10 L st σ n k w = s_const (.int (0)) 11 L st σ n k w (zk1 cut G (Z f)) G R T := zrs hZ rfl f L st σ n k w
theorem f_X6_init_11 (hZ : ZRN (ztb (tb_X6_init E d mc ms)) cut G R T Z) (f : Nat) (L : ZLV) (st : List Value) (σ : ZHp) (n k w : Nat) : Z (f + 1) 11 L st σ n k w = s_putf 5 1 0 14 L st σ n k w (zk1 cut G (Z f)) G R T := zrs hZ rfl f L st σ n k w
theorem f_X6_init_14 (hZ : ZRN (ztb (tb_X6_init E d mc ms)) cut G R T Z) (f : Nat) (L : ZLV) (st : List Value) (σ : ZHp) (n k w : Nat) : Z (f + 1) 14 L st σ n k w = s_aload 0 15 L st σ n k w (zk1 cut G (Z f)) G R T := zrs hZ rfl f L st σ n k w
theorem f_X6_init_15 (hZ : ZRN (ztb (tb_X6_init E d mc ms)) cut G R T Z) (f : Nat) (L : ZLV) (st : List Value) (σ : ZHp) (n k w : Nat) : Z (f + 1) 15 L st σ n k w = s_const (.int (0)) 16 L st σ n k w (zk1 cut G (Z f)) G R T := zrs hZ rfl f L st σ n k w
theorem f_X6_init_16 (hZ : ZRN (ztb (tb_X6_init E d mc ms)) cut G R T Z) (f : Nat) (L : ZLV) (st : List Value) (σ : ZHp) (n k w : Nat) : Z (f + 1) 16 L st σ n k w = s_putf 5 2 0 19 L st σ n k w (zk1 cut G (Z f)) G R T := zrs hZ rfl f L st σ n k w
theorem f_X6_init_19 (hZ : ZRN (ztb (tb_X6_init E d mc ms)) cut G R T Z) (f : Nat) (L : ZLV) (st : List Value) (σ : ZHp) (n k w : Nat) : Z (f + 1) 19 L st σ n k w = s_aload 0 20 L st σ n k w (zk1 cut G (Z f)) G R T := zrs hZ rfl f L st σ n k w
theorem f_X6_init_20 (hZ : ZRN (ztb (tb_X6_init E d mc ms)) cut G R T Z) (f : Nat) (L : ZLV) (st : List Value) (σ : ZHp) (n k w : Nat) : Z (f + 1) 20 L st σ n k w = s_new 4 2 fsX5 mc ms 23 L st σ n k w (zk1 cut G (Z f)) G R T := zrs hZ rfl f L st σ n k w
theorem f_X6_init_23 (hZ : ZRN (ztb (tb_X6_init E d mc ms)) cut G R T Z) (f : Nat) (L : ZLV) (st : List Value) (σ : ZHp) (n k w : Nat) : Z (f + 1) 23 L st σ n k w = s_dup 24 L st σ n k w (zk1 cut G (Z f)) G R T := zrs hZ rfl f L st σ n k w
theorem f_X6_init_24 (hZ : ZRN (ztb (tb_X6_init E d mc ms)) cut G R T Z) (f : Nat) (L : ZLV) (st : List Value) (σ : ZHp) (n k w : Nat) : Z (f + 1) 24 L st σ n k w = s_const (.int (10)) 26 L st σ n k w (zk1 cut G (Z f)) G R T := zrs hZ rfl f L st σ n k w
theorem f_X6_init_26 (hZ : ZRN (ztb (tb_X6_init E d mc ms)) cut G R T Z) (f : Nat) (L : ZLV) (st : List Value) (σ : ZHp) (n k w : Nat) : Z (f + 1) 26 L st σ n k w = s_callI E d mc ms MX5_init 1 29 L st σ n k w (zk1 cut G (Z f)) G R T := zrs hZ rfl f L st σ n k w
theorem f_X6_init_29 (hZ : ZRN (ztb (tb_X6_init E d mc ms)) cut G R T Z) (f : Nat) (L : ZLV) (st : List Value) (σ : ZHp) (n k w : Nat) : Z (f + 1) 29 L st σ n k w = s_putf 5 3 3 32 L st σ n k w (zk1 cut G (Z f)) G R T := zrs hZ rfl f L st σ n k w
theorem f_X6_init_32 (hZ : ZRN (ztb (tb_X6_init E d mc ms)) cut G R T Z) (f : Nat) (L : ZLV) (st : List Value) (σ : ZHp) (n k w : Nat) : Z (f + 1) 32 L st σ n k w = s_aload 0 33 L st σ n k w (zk1 cut G (Z f)) G R T := zrs hZ rfl f L st σ n k w
theorem f_X6_init_33 (hZ : ZRN (ztb (tb_X6_init E d mc ms)) cut G R T Z) (f : Nat) (L : ZLV) (st : List Value) (σ : ZHp) (n k w : Nat) : Z (f + 1) 33 L st σ n k w = s_new 4 2 fsX5 mc ms 36 L st σ n k w (zk1 cut G (Z f)) G R T := zrs hZ rfl f L st σ n k w
theorem f_X6_init_36 (hZ : ZRN (ztb (tb_X6_init E d mc ms)) cut G R T Z) (f : Nat) (L : ZLV) (st : List Value) (σ : ZHp) (n k w : Nat) : Z (f + 1) 36 L st σ n k w = s_dup 37 L st σ n k w (zk1 cut G (Z f)) G R T := zrs hZ rfl f L st σ n k w
theorem f_X6_init_37 (hZ : ZRN (ztb (tb_X6_init E d mc ms)) cut G R T Z) (f : Nat) (L : ZLV) (st : List Value) (σ : ZHp) (n k w : Nat) : Z (f + 1) 37 L st σ n k w = s_const (.int (10)) 39 L st σ n k w (zk1 cut G (Z f)) G R T := zrs hZ rfl f L st σ n k w
theorem f_X6_init_39 (hZ : ZRN (ztb (tb_X6_init E d mc ms)) cut G R T Z) (f : Nat) (L : ZLV) (st : List Value) (σ : ZHp) (n k w : Nat) : Z (f + 1) 39 L st σ n k w = s_callI E d mc ms MX5_init 1 42 L st σ n k w (zk1 cut G (Z f)) G R T := zrs hZ rfl f L st σ n k w
theorem f_X6_init_42 (hZ : ZRN (ztb (tb_X6_init E d mc ms)) cut G R T Z) (f : Nat) (L : ZLV) (st : List Value) (σ : ZHp) (n k w : Nat) : Z (f + 1) 42 L st σ n k w = s_putf 5 4 3 45 L st σ n k w (zk1 cut G (Z f)) G R T := zrs hZ rfl f L st σ n k w
theorem f_X6_init_45 (hZ : ZRN (ztb (tb_X6_init E d mc ms)) cut G R T Z) (f : Nat) (L : ZLV) (st : List Value) (σ : ZHp) (n k w : Nat) : Z (f + 1) 45 L st σ n k w = s_aload 0 46 L st σ n k w (zk1 cut G (Z f)) G R T := zrs hZ rfl f L st σ n k w
theorem f_X6_init_46 (hZ : ZRN (ztb (tb_X6_init E d mc ms)) cut G R T Z) (f : Nat) (L : ZLV) (st : List Value) (σ : ZHp) (n k w : Nat) : Z (f + 1) 46 L st σ n k w = s_new 4 2 fsX5 mc ms 49 L st σ n k w (zk1 cut G (Z f)) G R T := zrs hZ rfl f L st σ n k w
theorem f_X6_init_49 (hZ : ZRN (ztb (tb_X6_init E d mc ms)) cut G R T Z) (f : Nat) (L : ZLV) (st : List Value) (σ : ZHp) (n k w : Nat) : Z (f + 1) 49 L st σ n k w = s_dup 50 L st σ n k w (zk1 cut G (Z f)) G R T := zrs hZ rfl f L st σ n k w
theorem f_X6_init_50 (hZ : ZRN (ztb (tb_X6_init E d mc ms)) cut G R T Z) (f : Nat) (L : ZLV) (st : List Value) (σ : ZHp) (n k w : Nat) : Z (f + 1) 50 L st σ n k w = s_const (.int (10)) 52 L st σ n k w (zk1 cut G (Z f)) G R T := zrs hZ rfl f L st σ n k w
theorem f_X6_init_52 (hZ : ZRN (ztb (tb_X6_init E d mc ms)) cut G R T Z) (f : Nat) (L : ZLV) (st : List Value) (σ : ZHp) (n k w : Nat) : Z (f + 1) 52 L st σ n k w = s_callI E d mc ms MX5_init 1 55 L st σ n k w (zk1 cut G (Z f)) G R T := zrs hZ rfl f L st σ n k w
theorem f_X6_init_55 (hZ : ZRN (ztb (tb_X6_init E d mc ms)) cut G R T Z) (f : Nat) (L : ZLV) (st : List Value) (σ : ZHp) (n k w : Nat) : Z (f + 1) 55 L st σ n k w = s_putf 5 5 3 58 L st σ n k w (zk1 cut G (Z f)) G R T := zrs hZ rfl f L st σ n k w
theorem f_X6_init_58 (hZ : ZRN (ztb (tb_X6_init E d mc ms)) cut G R T Z) (f : Nat) (L : ZLV) (st : List Value) (σ : ZHp) (n k w : Nat) : Z (f + 1) 58 L st σ n k w = s_aload 0 59 L st σ n k w (zk1 cut G (Z f)) G R T := zrs hZ rfl f L st σ n k w
theorem f_X6_init_59 (hZ : ZRN (ztb (tb_X6_init E d mc ms)) cut G R T Z) (f : Nat) (L : ZLV) (st : List Value) (σ : ZHp) (n k w : Nat) : Z (f + 1) 59 L st σ n k w = s_new 4 2 fsX5 mc ms 62 L st σ n k w (zk1 cut G (Z f)) G R T := zrs hZ rfl f L st σ n k w
theorem f_X6_init_62 (hZ : ZRN (ztb (tb_X6_init E d mc ms)) cut G R T Z) (f : Nat) (L : ZLV) (st : List Value) (σ : ZHp) (n k w : Nat) : Z (f + 1) 62 L st σ n k w = s_dup 63 L st σ n k w (zk1 cut G (Z f)) G R T := zrs hZ rfl f L st σ n k w
theorem f_X6_init_63 (hZ : ZRN (ztb (tb_X6_init E d mc ms)) cut G R T Z) (f : Nat) (L : ZLV) (st : List Value) (σ : ZHp) (n k w : Nat) : Z (f + 1) 63 L st σ n k w = s_const (.int (20)) 65 L st σ n k w (zk1 cut G (Z f)) G R T := zrs hZ rfl f L st σ n k w
theorem f_X6_init_65 (hZ : ZRN (ztb (tb_X6_init E d mc ms)) cut G R T Z) (f : Nat) (L : ZLV) (st : List Value) (σ : ZHp) (n k w : Nat) : Z (f + 1) 65 L st σ n k w = s_callI E d mc ms MX5_init 1 68 L st σ n k w (zk1 cut G (Z f)) G R T := zrs hZ rfl f L st σ n k w
theorem f_X6_init_68 (hZ : ZRN (ztb (tb_X6_init E d mc ms)) cut G R T Z) (f : Nat) (L : ZLV) (st : List Value) (σ : ZHp) (n k w : Nat) : Z (f + 1) 68 L st σ n k w = s_putf 5 6 3 71 L st σ n k w (zk1 cut G (Z f)) G R T := zrs hZ rfl f L st σ n k w
theorem f_X6_init_71 (hZ : ZRN (ztb (tb_X6_init E d mc ms)) cut G R T Z) (f : Nat) (L : ZLV) (st : List Value) (σ : ZHp) (n k w : Nat) : Z (f + 1) 71 L st σ n k w = s_aload 0 72 L st σ n k w (zk1 cut G (Z f)) G R T := zrs hZ rfl f L st σ n k w
theorem f_X6_init_72 (hZ : ZRN (ztb (tb_X6_init E d mc ms)) cut G R T Z) (f : Nat) (L : ZLV) (st : List Value) (σ : ZHp) (n k w : Nat) : Z (f + 1) 72 L st σ n k w = s_new 4 2 fsX5 mc ms 75 L st σ n k w (zk1 cut G (Z f)) G R T := zrs hZ rfl f L st σ n k w
theorem f_X6_init_75 (hZ : ZRN (ztb (tb_X6_init E d mc ms)) cut G R T Z) (f : Nat) (L : ZLV) (st : List Value) (σ : ZHp) (n k w : Nat) : Z (f + 1) 75 L st σ n k w = s_dup 76 L st σ n k w (zk1 cut G (Z f)) G R T := zrs hZ rfl f L st σ n k w
theorem f_X6_init_76 (hZ : ZRN (ztb (tb_X6_init E d mc ms)) cut G R T Z) (f : Nat) (L : ZLV) (st : List Value) (σ : ZHp) (n k w : Nat) : Z (f + 1) 76 L st σ n k w = s_const (.int (10)) 78 L st σ n k w (zk1 cut G (Z f)) G R T := zrs hZ rfl f L st σ n k w
theorem f_X6_init_78 (hZ : ZRN (ztb (tb_X6_init E d mc ms)) cut G R T Z) (f : Nat) (L : ZLV) (st : List Value) (σ : ZHp) (n k w : Nat) : Z (f + 1) 78 L st σ n k w = s_callI E d mc ms MX5_init 1 81 L st σ n k w (zk1 cut G (Z f)) G R T := zrs hZ rfl f L st σ n k w
theorem f_X6_init_81 (hZ : ZRN (ztb (tb_X6_init E d mc ms)) cut G R T Z) (f : Nat) (L : ZLV) (st : List Value) (σ : ZHp) (n k w : Nat) : Z (f + 1) 81 L st σ n k w = s_putf 5 7 3 84 L st σ n k w (zk1 cut G (Z f)) G R T := zrs hZ rfl f L st σ n k w
theorem f_X6_init_84 (hZ : ZRN (ztb (tb_X6_init E d mc ms)) cut G R T Z) (f : Nat) (L : ZLV) (st : List Value) (σ : ZHp) (n k w : Nat) : Z (f + 1) 84 L st σ n k w = s_aload 0 85 L st σ n k w (zk1 cut G (Z f)) G R T := zrs hZ rfl f L st σ n k w
theorem f_X6_init_85 (hZ : ZRN (ztb (tb_X6_init E d mc ms)) cut G R T Z) (f : Nat) (L : ZLV) (st : List Value) (σ : ZHp) (n k w : Nat) : Z (f + 1) 85 L st σ n k w = s_const (.int (40)) 87 L st σ n k w (zk1 cut G (Z f)) G R T := zrs hZ rfl f L st σ n k w
theorem f_X6_init_87 (hZ : ZRN (ztb (tb_X6_init E d mc ms)) cut G R T Z) (f : Nat) (L : ZLV) (st : List Value) (σ : ZHp) (n k w : Nat) : Z (f + 1) 87 L st σ n k w = s_anewS E mc ms 90 L st σ n k w (zk1 cut G (Z f)) G R T := zrs hZ rfl f L st σ n k w
theorem f_X6_init_90 (hZ : ZRN (ztb (tb_X6_init E d mc ms)) cut G R T Z) (f : Nat) (L : ZLV) (st : List Value) (σ : ZHp) (n k w : Nat) : Z (f + 1) 90 L st σ n k w = s_putf 5 8 3 93 L st σ n k w (zk1 cut G (Z f)) G R T := zrs hZ rfl f L st σ n k w
theorem f_X6_init_93 (hZ : ZRN (ztb (tb_X6_init E d mc ms)) cut G R T Z) (f : Nat) (L : ZLV) (st : List Value) (σ : ZHp) (n k w : Nat) : Z (f + 1) 93 L st σ n k w = s_aload 0 94 L st σ n k w (zk1 cut G (Z f)) G R T := zrs hZ rfl f L st σ n k w
theorem f_X6_init_94 (hZ : ZRN (ztb (tb_X6_init E d mc ms)) cut G R T Z) (f : Nat) (L : ZLV) (st : List Value) (σ : ZHp) (n k w : Nat) : Z (f + 1) 94 L st σ n k w = s_new 4 2 fsX5 mc ms 97 L st σ n k w (zk1 cut G (Z f)) G R T := zrs hZ rfl f L st σ n k w
theorem f_X6_init_97 (hZ : ZRN (ztb (tb_X6_init E d mc ms)) cut G R T Z) (f : Nat) (L : ZLV) (st : List Value) (σ : ZHp) (n k w : Nat) : Z (f + 1) 97 L st σ n k w = s_dup 98 L st σ n k w (zk1 cut G (Z f)) G R T := zrs hZ rfl f L st σ n k w
theorem f_X6_init_98 (hZ : ZRN (ztb (tb_X6_init E d mc ms)) cut G R T Z) (f : Nat) (L : ZLV) (st : List Value) (σ : ZHp) (n k w : Nat) : Z (f + 1) 98 L st σ n k w = s_const (.int (40)) 100 L st σ n k w (zk1 cut G (Z f)) G R T := zrs hZ rfl f L st σ n k w
theorem f_X6_init_100 (hZ : ZRN (ztb (tb_X6_init E d mc ms)) cut G R T Z) (f : Nat) (L : ZLV) (st : List Value) (σ : ZHp) (n k w : Nat) : Z (f + 1) 100 L st σ n k w = s_callI E d mc ms MX5_init 1 103 L st σ n k w (zk1 cut G (Z f)) G R T := zrs hZ rfl f L st σ n k w
theorem f_X6_init_103 (hZ : ZRN (ztb (tb_X6_init E d mc ms)) cut G R T Z) (f : Nat) (L : ZLV) (st : List Value) (σ : ZHp) (n k w : Nat) : Z (f + 1) 103 L st σ n k w = s_putf 5 9 3 106 L st σ n k w (zk1 cut G (Z f)) G R T := zrs hZ rfl f L st σ n k w
theorem f_X6_init_106 (hZ : ZRN (ztb (tb_X6_init E d mc ms)) cut G R T Z) (f : Nat) (L : ZLV) (st : List Value) (σ : ZHp) (n k w : Nat) : Z (f + 1) 106 L st σ n k w = s_aload 0 107 L st σ n k w (zk1 cut G (Z f)) G R T := zrs hZ rfl f L st σ n k w
theorem f_X6_init_107 (hZ : ZRN (ztb (tb_X6_init E d mc ms)) cut G R T Z) (f : Nat) (L : ZLV) (st : List Value) (σ : ZHp) (n k w : Nat) : Z (f + 1) 107 L st σ n k w = s_new 4 2 fsX5 mc ms 110 L st σ n k w (zk1 cut G (Z f)) G R T := zrs hZ rfl f L st σ n k w
theorem f_X6_init_110 (hZ : ZRN (ztb (tb_X6_init E d mc ms)) cut G R T Z) (f : Nat) (L : ZLV) (st : List Value) (σ : ZHp) (n k w : Nat) : Z (f + 1) 110 L st σ n k w = s_dup 111 L st σ n k w (zk1 cut G (Z f)) G R T := zrs hZ rfl f L st σ n k w
theorem f_X6_init_111 (hZ : ZRN (ztb (tb_X6_init E d mc ms)) cut G R T Z) (f : Nat) (L : ZLV) (st : List Value) (σ : ZHp) (n k w : Nat) : Z (f + 1) 111 L st σ n k w = s_const (.int (40)) 113 L st σ n k w (zk1 cut G (Z f)) G R T := zrs hZ rfl f L st σ n k w
theorem f_X6_init_113 (hZ : ZRN (ztb (tb_X6_init E d mc ms)) cut G R T Z) (f : Nat) (L : ZLV) (st : List Value) (σ : ZHp) (n k w : Nat) : Z (f + 1) 113 L st σ n k w = s_callI E d mc ms MX5_init 1 116 L st σ n k w (zk1 cut G (Z f)) G R T := zrs hZ rfl f L st σ n k w
theorem f_X6_init_116 (hZ : ZRN (ztb (tb_X6_init E d mc ms)) cut G R T Z) (f : Nat) (L : ZLV) (st : List Value) (σ : ZHp) (n k w : Nat) : Z (f + 1) 116 L st σ n k w = s_putf 5 10 3 119 L st σ n k w (zk1 cut G (Z f)) G R T := zrs hZ rfl f L st σ n k w
theorem f_X6_init_119 (hZ : ZRN (ztb (tb_X6_init E d mc ms)) cut G R T Z) (f : Nat) (L : ZLV) (st : List Value) (σ : ZHp) (n k w : Nat) : Z (f + 1) 119 L st σ n k w = s_aload 0 120 L st σ n k w (zk1 cut G (Z f)) G R T := zrs hZ rfl f L st σ n k w
theorem f_X6_init_120 (hZ : ZRN (ztb (tb_X6_init E d mc ms)) cut G R T Z) (f : Nat) (L : ZLV) (st : List Value) (σ : ZHp) (n k w : Nat) : Z (f + 1) 120 L st σ n k w = s_new 4 2 fsX5 mc ms 123 L st σ n k w (zk1 cut G (Z f)) G R T := zrs hZ rfl f L st σ n k w
theorem f_X6_init_123 (hZ : ZRN (ztb (tb_X6_init E d mc ms)) cut G R T Z) (f : Nat) (L : ZLV) (st : List Value) (σ : ZHp) (n k w : Nat) : Z (f + 1) 123 L st σ n k w = s_dup 124 L st σ n k w (zk1 cut G (Z f)) G R T := zrs hZ rfl f L st σ n k w
theorem f_X6_init_124 (hZ : ZRN (ztb (tb_X6_init E d mc ms)) cut G R T Z) (f : Nat) (L : ZLV) (st : List Value) (σ : ZHp) (n k w : Nat) : Z (f + 1) 124 L st σ n k w = s_const (.int (16)) 126 L st σ n k w (zk1 cut G (Z f)) G R T := zrs hZ rfl f L st σ n k w
theorem f_X6_init_126 (hZ : ZRN (ztb (tb_X6_init E d mc ms)) cut G R T Z) (f : Nat) (L : ZLV) (st : List Value) (σ : ZHp) (n k w : Nat) : Z (f + 1) 126 L st σ n k w = s_callI E d mc ms MX5_init 1 129 L st σ n k w (zk1 cut G (Z f)) G R T := zrs hZ rfl f L st σ n k w
theorem f_X6_init_129 (hZ : ZRN (ztb (tb_X6_init E d mc ms)) cut G R T Z) (f : Nat) (L : ZLV) (st : List Value) (σ : ZHp) (n k w : Nat) : Z (f + 1) 129 L st σ n k w = s_putf 5 11 3 132 L st σ n k w (zk1 cut G (Z f)) G R T := zrs hZ rfl f L st σ n k w
theorem f_X6_init_132 (hZ : ZRN (ztb (tb_X6_init E d mc ms)) cut G R T Z) (f : Nat) (L : ZLV) (st : List Value) (σ : ZHp) (n k w : Nat) : Z (f + 1) 132 L st σ n k w = s_aload 0 133 L st σ n k w (zk1 cut G (Z f)) G R T := zrs hZ rfl f L st σ n k w
theorem f_X6_init_133 (hZ : ZRN (ztb (tb_X6_init E d mc ms)) cut G R T Z) (f : Nat) (L : ZLV) (st : List Value) (σ : ZHp) (n k w : Nat) : Z (f + 1) 133 L st σ n k w = s_new 4 2 fsX5 mc ms 136 L st σ n k w (zk1 cut G (Z f)) G R T := zrs hZ rfl f L st σ n k w
theorem f_X6_init_136 (hZ : ZRN (ztb (tb_X6_init E d mc ms)) cut G R T Z) (f : Nat) (L : ZLV) (st : List Value) (σ : ZHp) (n k w : Nat) : Z (f + 1) 136 L st σ n k w = s_dup 137 L st σ n k w (zk1 cut G (Z f)) G R T := zrs hZ rfl f L st σ n k w
theorem f_X6_init_137 (hZ : ZRN (ztb (tb_X6_init E d mc ms)) cut G R T Z) (f : Nat) (L : ZLV) (st : List Value) (σ : ZHp) (n k w : Nat) : Z (f + 1) 137 L st σ n k w = s_const (.int (16)) 139 L st σ n k w (zk1 cut G (Z f)) G R T := zrs hZ rfl f L st σ n k w
theorem f_X6_init_139 (hZ : ZRN (ztb (tb_X6_init E d mc ms)) cut G R T Z) (f : Nat) (L : ZLV) (st : List Value) (σ : ZHp) (n k w : Nat) : Z (f + 1) 139 L st σ n k w = s_callI E d mc ms MX5_init 1 142 L st σ n k w (zk1 cut G (Z f)) G R T := zrs hZ rfl f L st σ n k w
theorem f_X6_init_142 (hZ : ZRN (ztb (tb_X6_init E d mc ms)) cut G R T Z) (f : Nat) (L : ZLV) (st : List Value) (σ : ZHp) (n k w : Nat) : Z (f + 1) 142 L st σ n k w = s_putf 5 12 3 145 L st σ n k w (zk1 cut G (Z f)) G R T := zrs hZ rfl f L st σ n k w
theorem f_X6_init_145 (hZ : ZRN (ztb (tb_X6_init E d mc ms)) cut G R T Z) (f : Nat) (L : ZLV) (st : List Value) (σ : ZHp) (n k w : Nat) : Z (f + 1) 145 L st σ n k w = s_aload 0 146 L st σ n k w (zk1 cut G (Z f)) G R T := zrs hZ rfl f L st σ n k w
theorem f_X6_init_146 (hZ : ZRN (ztb (tb_X6_init E d mc ms)) cut G R T Z) (f : Nat) (L : ZLV) (st : List Value) (σ : ZHp) (n k w : Nat) : Z (f + 1) 146 L st σ n k w = s_new 4 2 fsX5 mc ms 149 L st σ n k w (zk1 cut G (Z f)) G R T := zrs hZ rfl f L st σ n k w
theorem f_X6_init_149 (hZ : ZRN (ztb (tb_X6_init E d mc ms)) cut G R T Z) (f : Nat) (L : ZLV) (st : List Value) (σ : ZHp) (n k w : Nat) : Z (f + 1) 149 L st σ n k w = s_dup 150 L st σ n k w (zk1 cut G (Z f)) G R T := zrs hZ rfl f L st σ n k w
theorem f_X6_init_150 (hZ : ZRN (ztb (tb_X6_init E d mc ms)) cut G R T Z) (f : Nat) (L : ZLV) (st : List Value) (σ : ZHp) (n k w : Nat) : Z (f + 1) 150 L st σ n k w = s_const (.int (16)) 152 L st σ n k w (zk1 cut G (Z f)) G R T := zrs hZ rfl f L st σ n k w
theorem f_X6_init_152 (hZ : ZRN (ztb (tb_X6_init E d mc ms)) cut G R T Z) (f : Nat) (L : ZLV) (st : List Value) (σ : ZHp) (n k w : Nat) : Z (f + 1) 152 L st σ n k w = s_callI E d mc ms MX5_init 1 155 L st σ n k w (zk1 cut G (Z f)) G R T := zrs hZ rfl f L st σ n k w
theorem f_X6_init_155 (hZ : ZRN (ztb (tb_X6_init E d mc ms)) cut G R T Z) (f : Nat) (L : ZLV) (st : List Value) (σ : ZHp) (n k w : Nat) : Z (f + 1) 155 L st σ n k w = s_putf 5 13 3 158 L st σ n k w (zk1 cut G (Z f)) G R T := zrs hZ rfl f L st σ n k w
theorem f_X6_init_158 (hZ : ZRN (ztb (tb_X6_init E d mc ms)) cut G R T Z) (f : Nat) (L : ZLV) (st : List Value) (σ : ZHp) (n k w : Nat) : Z (f + 1) 158 L st σ n k w = s_aload 0 159 L st σ n k w (zk1 cut G (Z f)) G R T := zrs hZ rfl f L st σ n k w
theorem f_X6_init_159 (hZ : ZRN (ztb (tb_X6_init E d mc ms)) cut G R T Z) (f : Nat) (L : ZLV) (st : List Value) (σ : ZHp) (n k w : Nat) : Z (f + 1) 159 L st σ n k w = s_new 0 2 fsX1 mc ms 162 L st σ n k w (zk1 cut G (Z f)) G R T := zrs hZ rfl f L st σ n k w
theorem f_X6_init_162 (hZ : ZRN (ztb (tb_X6_init E d mc ms)) cut G R T Z) (f : Nat) (L : ZLV) (st : List Value) (σ : ZHp) (n k w : Nat) : Z (f + 1) 162 L st σ n k w = s_dup 163 L st σ n k w (zk1 cut G (Z f)) G R T := zrs hZ rfl f L st σ n k w
theorem f_X6_init_163 (hZ : ZRN (ztb (tb_X6_init E d mc ms)) cut G R T Z) (f : Nat) (L : ZLV) (st : List Value) (σ : ZHp) (n k w : Nat) : Z (f + 1) 163 L st σ n k w = s_callI E d mc ms MX1_init 0 166 L st σ n k w (zk1 cut G (Z f)) G R T := zrs hZ rfl f L st σ n k w
theorem f_X6_init_166 (hZ : ZRN (ztb (tb_X6_init E d mc ms)) cut G R T Z) (f : Nat) (L : ZLV) (st : List Value) (σ : ZHp) (n k w : Nat) : Z (f + 1) 166 L st σ n k w = s_putf 5 14 3 169 L st σ n k w (zk1 cut G (Z f)) G R T := zrs hZ rfl f L st σ n k w
theorem f_X6_init_169 (hZ : ZRN (ztb (tb_X6_init E d mc ms)) cut G R T Z) (f : Nat) (L : ZLV) (st : List Value) (σ : ZHp) (n k w : Nat) : Z (f + 1) 169 L st σ n k w = s_return L st σ n k w (zk1 cut G (Z f)) G R T := zrs hZ rfl f L st σ n k w
theorem f_X6_clear_0 (hZ : ZRN (ztb (tb_X6_clear E d mc ms)) cut G R T Z) (f : Nat) (L : ZLV) (st : List Value) (σ : ZHp) (n k w : Nat) : Z (f + 1) 0 L st σ n k w = s_aload 0 1 L st σ n k w (zk1 cut G (Z f)) G R T := zrs hZ rfl f L st σ n k w
theorem f_X6_clear_1 (hZ : ZRN (ztb (tb_X6_clear E d mc ms)) cut G R T Z) (f : Nat) (L : ZLV) (st : List Value) (σ : ZHp) (n k w : Nat) : Z (f + 1) 1 L st σ n k w = s_const (.int (0)) 2 L st σ n k w (zk1 cut G (Z f)) G R T := zrs hZ rfl f L st σ n k w
theorem f_X6_clear_2 (hZ : ZRN (ztb (tb_X6_clear E d mc ms)) cut G R T Z) (f : Nat) (L : ZLV) (st : List Value) (σ : ZHp) (n k w : Nat) : Z (f + 1) 2 L st σ n k w = s_putf 5 0 0 5 L st σ n k w (zk1 cut G (Z f)) G R T := zrs hZ rfl f L st σ n k w
theorem f_X6_clear_5 (hZ : ZRN (ztb (tb_X6_clear E d mc ms)) cut G R T Z) (f : Nat) (L : ZLV) (st : List Value) (σ : ZHp) (n k w : Nat) : Z (f + 1) 5 L st σ n k w = s_aload 0 6 L st σ n k w (zk1 cut G (Z f)) G R T := zrs hZ rfl f L st σ n k w
theorem f_X6_clear_6 (hZ : ZRN (ztb (tb_X6_clear E d mc ms)) cut G R T Z) (f : Nat) (L : ZLV) (st : List Value) (σ : ZHp) (n k w : Nat) : Z (f + 1) 6 L st σ n k w = s_const (.int (0)) 7 L st σ n k w (zk1 cut G (Z f)) G R T := zrs hZ rfl f L st σ n k w
theorem f_X6_clear_7 (hZ : ZRN (ztb (tb_X6_clear E d mc ms)) cut G R T Z) (f : Nat) (L : ZLV) (st : List Value) (σ : ZHp) (n k w : Nat) : Z (f + 1) 7 L st σ n k w = s_putf 5 1 0 10 L st σ n k w (zk1 cut G (Z f)) G R T := zrs hZ rfl f L st σ n k w
theorem f_X6_clear_10 (hZ : ZRN (ztb (tb_X6_clear E d mc ms)) cut G R T Z) (f : Nat) (L : ZLV) (st : List Value) (σ : ZHp) (n k w : Nat) : Z (f + 1) 10 L st σ n k w = s_aload 0 11 L st σ n k w (zk1 cut G (Z f)) G R T := zrs hZ rfl f L st σ n k w
theorem f_X6_clear_11 (hZ : ZRN (ztb (tb_X6_clear E d mc ms)) cut G R T Z) (f : Nat) (L : ZLV) (st : List Value) (σ : ZHp) (n k w : Nat) : Z (f + 1) 11 L st σ n k w = s_const (.int (0)) 12 L st σ n k w (zk1 cut G (Z f)) G R T := zrs hZ rfl f L st σ n k w
theorem f_X6_clear_12 (hZ : ZRN (ztb (tb_X6_clear E d mc ms)) cut G R T Z) (f : Nat) (L : ZLV) (st : List Value) (σ : ZHp) (n k w : Nat) : Z (f + 1) 12 L st σ n k w = s_putf 5 2 0 15 L st σ n k w (zk1 cut G (Z f)) G R T := zrs hZ rfl f L st σ n k w
theorem f_X6_clear_15 (hZ : ZRN (ztb (tb_X6_clear E d mc ms)) cut G R T Z) (f : Nat) (L : ZLV) (st : List Value) (σ : ZHp) (n k w : Nat) : Z (f + 1) 15 L st σ n k w = s_aload 0 16 L st σ n k w (zk1 cut G (Z f)) G R T := zrs hZ rfl f L st σ n k w
theorem f_X6_clear_16 (hZ : ZRN (ztb (tb_X6_clear E d mc ms)) cut G R T Z) (f : Nat) (L : ZLV) (st : List Value) (σ : ZHp) (n k w : Nat) : Z (f + 1) 16 L st σ n k w = s_getf 5 3 19 L st σ n k w (zk1 cut G (Z f)) G R T := zrs hZ rfl f L st σ n k w
theorem f_X6_clear_19 (hZ : ZRN (ztb (tb_X6_clear E d mc ms)) cut G R T Z) (f : Nat) (L : ZLV) (st : List Value) (σ : ZHp) (n k w : Nat) : Z (f + 1) 19 L st σ n k w = s_callV E d mc ms 4 MX5_clear 0 22 L st σ n k w (zk1 cut G (Z f)) G R T := zrs hZ rfl f L st σ n k w
theorem f_X6_clear_22 (hZ : ZRN (ztb (tb_X6_clear E d mc ms)) cut G R T Z) (f : Nat) (L : ZLV) (st : List Value) (σ : ZHp) (n k w : Nat) : Z (f + 1) 22 L st σ n k w = s_aload 0 23 L st σ n k w (zk1 cut G (Z f)) G R T := zrs hZ rfl f L st σ n k w
theorem f_X6_clear_23 (hZ : ZRN (ztb (tb_X6_clear E d mc ms)) cut G R T Z) (f : Nat) (L : ZLV) (st : List Value) (σ : ZHp) (n k w : Nat) : Z (f + 1) 23 L st σ n k w = s_getf 5 4 26 L st σ n k w (zk1 cut G (Z f)) G R T := zrs hZ rfl f L st σ n k w
theorem f_X6_clear_26 (hZ : ZRN (ztb (tb_X6_clear E d mc ms)) cut G R T Z) (f : Nat) (L : ZLV) (st : List Value) (σ : ZHp) (n k w : Nat) : Z (f + 1) 26 L st σ n k w = s_callV E d mc ms 4 MX5_clear 0 29 L st σ n k w (zk1 cut G (Z f)) G R T := zrs hZ rfl f L st σ n k w
theorem f_X6_clear_29 (hZ : ZRN (ztb (tb_X6_clear E d mc ms)) cut G R T Z) (f : Nat) (L : ZLV) (st : List Value) (σ : ZHp) (n k w : Nat) : Z (f + 1) 29 L st σ n k w = s_aload 0 30 L st σ n k w (zk1 cut G (Z f)) G R T := zrs hZ rfl f L st σ n k w
theorem f_X6_clear_30 (hZ : ZRN (ztb (tb_X6_clear E d mc ms)) cut G R T Z) (f : Nat) (L : ZLV) (st : List Value) (σ : ZHp) (n k w : Nat) : Z (f + 1) 30 L st σ n k w = s_getf 5 5 33 L st σ n k w (zk1 cut G (Z f)) G R T := zrs hZ rfl f L st σ n k w
theorem f_X6_clear_33 (hZ : ZRN (ztb (tb_X6_clear E d mc ms)) cut G R T Z) (f : Nat) (L : ZLV) (st : List Value) (σ : ZHp) (n k w : Nat) : Z (f + 1) 33 L st σ n k w = s_callV E d mc ms 4 MX5_clear 0 36 L st σ n k w (zk1 cut G (Z f)) G R T := zrs hZ rfl f L st σ n k w
theorem f_X6_clear_36 (hZ : ZRN (ztb (tb_X6_clear E d mc ms)) cut G R T Z) (f : Nat) (L : ZLV) (st : List Value) (σ : ZHp) (n k w : Nat) : Z (f + 1) 36 L st σ n k w = s_aload 0 37 L st σ n k w (zk1 cut G (Z f)) G R T := zrs hZ rfl f L st σ n k w
theorem f_X6_clear_37 (hZ : ZRN (ztb (tb_X6_clear E d mc ms)) cut G R T Z) (f : Nat) (L : ZLV) (st : List Value) (σ : ZHp) (n k w : Nat) : Z (f + 1) 37 L st σ n k w = s_getf 5 6 40 L st σ n k w (zk1 cut G (Z f)) G R T := zrs hZ rfl f L st σ n k w
theorem f_X6_clear_40 (hZ : ZRN (ztb (tb_X6_clear E d mc ms)) cut G R T Z) (f : Nat) (L : ZLV) (st : List Value) (σ : ZHp) (n k w : Nat) : Z (f + 1) 40 L st σ n k w = s_callV E d mc ms 4 MX5_clear 0 43 L st σ n k w (zk1 cut G (Z f)) G R T := zrs hZ rfl f L st σ n k w
theorem f_X6_clear_43 (hZ : ZRN (ztb (tb_X6_clear E d mc ms)) cut G R T Z) (f : Nat) (L : ZLV) (st : List Value) (σ : ZHp) (n k w : Nat) : Z (f + 1) 43 L st σ n k w = s_aload 0 44 L st σ n k w (zk1 cut G (Z f)) G R T := zrs hZ rfl f L st σ n k w
theorem f_X6_clear_44 (hZ : ZRN (ztb (tb_X6_clear E d mc ms)) cut G R T Z) (f : Nat) (L : ZLV) (st : List Value) (σ : ZHp) (n k w : Nat) : Z (f + 1) 44 L st σ n k w = s_getf 5 7 47 L st σ n k w (zk1 cut G (Z f)) G R T := zrs hZ rfl f L st σ n k w
theorem f_X6_clear_47 (hZ : ZRN (ztb (tb_X6_clear E d mc ms)) cut G R T Z) (f : Nat) (L : ZLV) (st : List Value) (σ : ZHp) (n k w : Nat) : Z (f + 1) 47 L st σ n k w = s_callV E d mc ms 4 MX5_clear 0 50 L st σ n k w (zk1 cut G (Z f)) G R T := zrs hZ rfl f L st σ n k w
theorem f_X6_clear_50 (hZ : ZRN (ztb (tb_X6_clear E d mc ms)) cut G R T Z) (f : Nat) (L : ZLV) (st : List Value) (σ : ZHp) (n k w : Nat) : Z (f + 1) 50 L st σ n k w = s_aload 0 51 L st σ n k w (zk1 cut G (Z f)) G R T := zrs hZ rfl f L st σ n k w
theorem f_X6_clear_51 (hZ : ZRN (ztb (tb_X6_clear E d mc ms)) cut G R T Z) (f : Nat) (L : ZLV) (st : List Value) (σ : ZHp) (n k w : Nat) : Z (f + 1) 51 L st σ n k w = s_getf 5 14 54 L st σ n k w (zk1 cut G (Z f)) G R T := zrs hZ rfl f L st σ n k w
theorem f_X6_clear_54 (hZ : ZRN (ztb (tb_X6_clear E d mc ms)) cut G R T Z) (f : Nat) (L : ZLV) (st : List Value) (σ : ZHp) (n k w : Nat) : Z (f + 1) 54 L st σ n k w = s_callV E d mc ms 0 MX1_clear 0 57 L st σ n k w (zk1 cut G (Z f)) G R T := zrs hZ rfl f L st σ n k w
theorem f_X6_clear_57 (hZ : ZRN (ztb (tb_X6_clear E d mc ms)) cut G R T Z) (f : Nat) (L : ZLV) (st : List Value) (σ : ZHp) (n k w : Nat) : Z (f + 1) 57 L st σ n k w = s_return L st σ n k w (zk1 cut G (Z f)) G R T := zrs hZ rfl f L st σ n k w
theorem f_X6_deedKind_0 (hZ : ZRN (ztb (tb_X6_deedKind E d mc ms)) cut G R T Z) (f : Nat) (L : ZLV) (st : List Value) (σ : ZHp) (n k w : Nat) : Z (f + 1) 0 L st σ n k w = s_iload 1 1 L st σ n k w (zk1 cut G (Z f)) G R T := zrs hZ rfl f L st σ n k w
theorem f_X6_deedKind_1 (hZ : ZRN (ztb (tb_X6_deedKind E d mc ms)) cut G R T Z) (f : Nat) (L : ZLV) (st : List Value) (σ : ZHp) (n k w : Nat) : Z (f + 1) 1 L st σ n k w = s_if_lt 22 4 L st σ n k w (zk1 cut G (Z f)) G R T := zrs hZ rfl f L st σ n k w
theorem f_X6_deedKind_4 (hZ : ZRN (ztb (tb_X6_deedKind E d mc ms)) cut G R T Z) (f : Nat) (L : ZLV) (st : List Value) (σ : ZHp) (n k w : Nat) : Z (f + 1) 4 L st σ n k w = s_iload 1 5 L st σ n k w (zk1 cut G (Z f)) G R T := zrs hZ rfl f L st σ n k w
theorem f_X6_deedKind_5 (hZ : ZRN (ztb (tb_X6_deedKind E d mc ms)) cut G R T Z) (f : Nat) (L : ZLV) (st : List Value) (σ : ZHp) (n k w : Nat) : Z (f + 1) 5 L st σ n k w = s_aload 0 6 L st σ n k w (zk1 cut G (Z f)) G R T := zrs hZ rfl f L st σ n k w
theorem f_X6_deedKind_6 (hZ : ZRN (ztb (tb_X6_deedKind E d mc ms)) cut G R T Z) (f : Nat) (L : ZLV) (st : List Value) (σ : ZHp) (n k w : Nat) : Z (f + 1) 6 L st σ n k w = s_getf 5 8 9 L st σ n k w (zk1 cut G (Z f)) G R T := zrs hZ rfl f L st σ n k w
theorem f_X6_deedKind_9 (hZ : ZRN (ztb (tb_X6_deedKind E d mc ms)) cut G R T Z) (f : Nat) (L : ZLV) (st : List Value) (σ : ZHp) (n k w : Nat) : Z (f + 1) 9 L st σ n k w = s_alen E 10 L st σ n k w (zk1 cut G (Z f)) G R T := zrs hZ rfl f L st σ n k w
theorem f_X6_deedKind_10 (hZ : ZRN (ztb (tb_X6_deedKind E d mc ms)) cut G R T Z) (f : Nat) (L : ZLV) (st : List Value) (σ : ZHp) (n k w : Nat) : Z (f + 1) 10 L st σ n k w = s_icmp_ge 22 13 L st σ n k w (zk1 cut G (Z f)) G R T := zrs hZ rfl f L st σ n k w
theorem f_X6_deedKind_13 (hZ : ZRN (ztb (tb_X6_deedKind E d mc ms)) cut G R T Z) (f : Nat) (L : ZLV) (st : List Value) (σ : ZHp) (n k w : Nat) : Z (f + 1) 13 L st σ n k w = s_aload 0 14 L st σ n k w (zk1 cut G (Z f)) G R T := zrs hZ rfl f L st σ n k w
theorem f_X6_deedKind_14 (hZ : ZRN (ztb (tb_X6_deedKind E d mc ms)) cut G R T Z) (f : Nat) (L : ZLV) (st : List Value) (σ : ZHp) (n k w : Nat) : Z (f + 1) 14 L st σ n k w = s_getf 5 8 17 L st σ n k w (zk1 cut G (Z f)) G R T := zrs hZ rfl f L st σ n k w
theorem f_X6_deedKind_17 (hZ : ZRN (ztb (tb_X6_deedKind E d mc ms)) cut G R T Z) (f : Nat) (L : ZLV) (st : List Value) (σ : ZHp) (n k w : Nat) : Z (f + 1) 17 L st σ n k w = s_iload 1 18 L st σ n k w (zk1 cut G (Z f)) G R T := zrs hZ rfl f L st σ n k w
theorem f_X6_deedKind_18 (hZ : ZRN (ztb (tb_X6_deedKind E d mc ms)) cut G R T Z) (f : Nat) (L : ZLV) (st : List Value) (σ : ZHp) (n k w : Nat) : Z (f + 1) 18 L st σ n k w = s_aaload E 19 L st σ n k w (zk1 cut G (Z f)) G R T := zrs hZ rfl f L st σ n k w
theorem f_X6_deedKind_19 (hZ : ZRN (ztb (tb_X6_deedKind E d mc ms)) cut G R T Z) (f : Nat) (L : ZLV) (st : List Value) (σ : ZHp) (n k w : Nat) : Z (f + 1) 19 L st σ n k w = s_goto 25 L st σ n k w (zk1 cut G (Z f)) G R T := zrs hZ rfl f L st σ n k w
theorem f_X6_deedKind_22 (hZ : ZRN (ztb (tb_X6_deedKind E d mc ms)) cut G R T Z) (f : Nat) (L : ZLV) (st : List Value) (σ : ZHp) (n k w : Nat) : Z (f + 1) 22 L st σ n k w = s_const (.ref (zeK E 0)) 25 L st σ n k w (zk1 cut G (Z f)) G R T := zrs hZ rfl f L st σ n k w
theorem f_X6_deedKind_25 (hZ : ZRN (ztb (tb_X6_deedKind E d mc ms)) cut G R T Z) (f : Nat) (L : ZLV) (st : List Value) (σ : ZHp) (n k w : Nat) : Z (f + 1) 25 L st σ n k w = s_astore 2 26 L st σ n k w (zk1 cut G (Z f)) G R T := zrs hZ rfl f L st σ n k w
theorem f_X6_deedKind_26 (hZ : ZRN (ztb (tb_X6_deedKind E d mc ms)) cut G R T Z) (f : Nat) (L : ZLV) (st : List Value) (σ : ZHp) (n k w : Nat) : Z (f + 1) 26 L st σ n k w = s_aload 2 27 L st σ n k w (zk1 cut G (Z f)) G R T := zrs hZ rfl f L st σ n k w
theorem f_X6_deedKind_27 (hZ : ZRN (ztb (tb_X6_deedKind E d mc ms)) cut G R T Z) (f : Nat) (L : ZLV) (st : List Value) (σ : ZHp) (n k w : Nat) : Z (f + 1) 27 L st σ n k w = s_ifnonnull 36 30 L st σ n k w (zk1 cut G (Z f)) G R T := zrs hZ rfl f L st σ n k w
theorem f_X6_deedKind_30 (hZ : ZRN (ztb (tb_X6_deedKind E d mc ms)) cut G R T Z) (f : Nat) (L : ZLV) (st : List Value) (σ : ZHp) (n k w : Nat) : Z (f + 1) 30 L st σ n k w = s_const (.ref (zeK E 0)) 33 L st σ n k w (zk1 cut G (Z f)) G R T := zrs hZ rfl f L st σ n k w
theorem f_X6_deedKind_33 (hZ : ZRN (ztb (tb_X6_deedKind E d mc ms)) cut G R T Z) (f : Nat) (L : ZLV) (st : List Value) (σ : ZHp) (n k w : Nat) : Z (f + 1) 33 L st σ n k w = s_goto 37 L st σ n k w (zk1 cut G (Z f)) G R T := zrs hZ rfl f L st σ n k w
theorem f_X6_deedKind_36 (hZ : ZRN (ztb (tb_X6_deedKind E d mc ms)) cut G R T Z) (f : Nat) (L : ZLV) (st : List Value) (σ : ZHp) (n k w : Nat) : Z (f + 1) 36 L st σ n k w = s_aload 2 37 L st σ n k w (zk1 cut G (Z f)) G R T := zrs hZ rfl f L st σ n k w
theorem f_X6_deedKind_37 (hZ : ZRN (ztb (tb_X6_deedKind E d mc ms)) cut G R T Z) (f : Nat) (L : ZLV) (st : List Value) (σ : ZHp) (n k w : Nat) : Z (f + 1) 37 L st σ n k w = s_areturn L st σ n k w (zk1 cut G (Z f)) G R T := zrs hZ rfl f L st σ n k w
theorem f_X6_setDeed_0 (hZ : ZRN (ztb (tb_X6_setDeed E d mc ms)) cut G R T Z) (f : Nat) (L : ZLV) (st : List Value) (σ : ZHp) (n k w : Nat) : Z (f + 1) 0 L st σ n k w = s_iload 1 1 L st σ n k w (zk1 cut G (Z f)) G R T := zrs hZ rfl f L st σ n k w
theorem f_X6_setDeed_1 (hZ : ZRN (ztb (tb_X6_setDeed E d mc ms)) cut G R T Z) (f : Nat) (L : ZLV) (st : List Value) (σ : ZHp) (n k w : Nat) : Z (f + 1) 1 L st σ n k w = s_if_lt 38 4 L st σ n k w (zk1 cut G (Z f)) G R T := zrs hZ rfl f L st σ n k w
theorem f_X6_setDeed_4 (hZ : ZRN (ztb (tb_X6_setDeed E d mc ms)) cut G R T Z) (f : Nat) (L : ZLV) (st : List Value) (σ : ZHp) (n k w : Nat) : Z (f + 1) 4 L st σ n k w = s_iload 1 5 L st σ n k w (zk1 cut G (Z f)) G R T := zrs hZ rfl f L st σ n k w
theorem f_X6_setDeed_5 (hZ : ZRN (ztb (tb_X6_setDeed E d mc ms)) cut G R T Z) (f : Nat) (L : ZLV) (st : List Value) (σ : ZHp) (n k w : Nat) : Z (f + 1) 5 L st σ n k w = s_aload 0 6 L st σ n k w (zk1 cut G (Z f)) G R T := zrs hZ rfl f L st σ n k w
theorem f_X6_setDeed_6 (hZ : ZRN (ztb (tb_X6_setDeed E d mc ms)) cut G R T Z) (f : Nat) (L : ZLV) (st : List Value) (σ : ZHp) (n k w : Nat) : Z (f + 1) 6 L st σ n k w = s_getf 5 8 9 L st σ n k w (zk1 cut G (Z f)) G R T := zrs hZ rfl f L st σ n k w
theorem f_X6_setDeed_9 (hZ : ZRN (ztb (tb_X6_setDeed E d mc ms)) cut G R T Z) (f : Nat) (L : ZLV) (st : List Value) (σ : ZHp) (n k w : Nat) : Z (f + 1) 9 L st σ n k w = s_alen E 10 L st σ n k w (zk1 cut G (Z f)) G R T := zrs hZ rfl f L st σ n k w
theorem f_X6_setDeed_10 (hZ : ZRN (ztb (tb_X6_setDeed E d mc ms)) cut G R T Z) (f : Nat) (L : ZLV) (st : List Value) (σ : ZHp) (n k w : Nat) : Z (f + 1) 10 L st σ n k w = s_icmp_ge 38 13 L st σ n k w (zk1 cut G (Z f)) G R T := zrs hZ rfl f L st σ n k w
theorem f_X6_setDeed_13 (hZ : ZRN (ztb (tb_X6_setDeed E d mc ms)) cut G R T Z) (f : Nat) (L : ZLV) (st : List Value) (σ : ZHp) (n k w : Nat) : Z (f + 1) 13 L st σ n k w = s_aload 0 14 L st σ n k w (zk1 cut G (Z f)) G R T := zrs hZ rfl f L st σ n k w
theorem f_X6_setDeed_14 (hZ : ZRN (ztb (tb_X6_setDeed E d mc ms)) cut G R T Z) (f : Nat) (L : ZLV) (st : List Value) (σ : ZHp) (n k w : Nat) : Z (f + 1) 14 L st σ n k w = s_getf 5 8 17 L st σ n k w (zk1 cut G (Z f)) G R T := zrs hZ rfl f L st σ n k w
theorem f_X6_setDeed_17 (hZ : ZRN (ztb (tb_X6_setDeed E d mc ms)) cut G R T Z) (f : Nat) (L : ZLV) (st : List Value) (σ : ZHp) (n k w : Nat) : Z (f + 1) 17 L st σ n k w = s_iload 1 18 L st σ n k w (zk1 cut G (Z f)) G R T := zrs hZ rfl f L st σ n k w
theorem f_X6_setDeed_18 (hZ : ZRN (ztb (tb_X6_setDeed E d mc ms)) cut G R T Z) (f : Nat) (L : ZLV) (st : List Value) (σ : ZHp) (n k w : Nat) : Z (f + 1) 18 L st σ n k w = s_aload 2 19 L st σ n k w (zk1 cut G (Z f)) G R T := zrs hZ rfl f L st σ n k w
theorem f_X6_setDeed_19 (hZ : ZRN (ztb (tb_X6_setDeed E d mc ms)) cut G R T Z) (f : Nat) (L : ZLV) (st : List Value) (σ : ZHp) (n k w : Nat) : Z (f + 1) 19 L st σ n k w = s_aastoreS E 20 L st σ n k w (zk1 cut G (Z f)) G R T := zrs hZ rfl f L st σ n k w
theorem f_X6_setDeed_20 (hZ : ZRN (ztb (tb_X6_setDeed E d mc ms)) cut G R T Z) (f : Nat) (L : ZLV) (st : List Value) (σ : ZHp) (n k w : Nat) : Z (f + 1) 20 L st σ n k w = s_aload 0 21 L st σ n k w (zk1 cut G (Z f)) G R T := zrs hZ rfl f L st σ n k w
theorem f_X6_setDeed_21 (hZ : ZRN (ztb (tb_X6_setDeed E d mc ms)) cut G R T Z) (f : Nat) (L : ZLV) (st : List Value) (σ : ZHp) (n k w : Nat) : Z (f + 1) 21 L st σ n k w = s_getf 5 9 24 L st σ n k w (zk1 cut G (Z f)) G R T := zrs hZ rfl f L st σ n k w
theorem f_X6_setDeed_24 (hZ : ZRN (ztb (tb_X6_setDeed E d mc ms)) cut G R T Z) (f : Nat) (L : ZLV) (st : List Value) (σ : ZHp) (n k w : Nat) : Z (f + 1) 24 L st σ n k w = s_iload 1 25 L st σ n k w (zk1 cut G (Z f)) G R T := zrs hZ rfl f L st σ n k w
theorem f_X6_setDeed_25 (hZ : ZRN (ztb (tb_X6_setDeed E d mc ms)) cut G R T Z) (f : Nat) (L : ZLV) (st : List Value) (σ : ZHp) (n k w : Nat) : Z (f + 1) 25 L st σ n k w = s_const (.int (0)) 26 L st σ n k w (zk1 cut G (Z f)) G R T := zrs hZ rfl f L st σ n k w
theorem f_X6_setDeed_26 (hZ : ZRN (ztb (tb_X6_setDeed E d mc ms)) cut G R T Z) (f : Nat) (L : ZLV) (st : List Value) (σ : ZHp) (n k w : Nat) : Z (f + 1) 26 L st σ n k w = s_callV E d mc ms 4 MX5_set 2 29 L st σ n k w (zk1 cut G (Z f)) G R T := zrs hZ rfl f L st σ n k w
theorem f_X6_setDeed_29 (hZ : ZRN (ztb (tb_X6_setDeed E d mc ms)) cut G R T Z) (f : Nat) (L : ZLV) (st : List Value) (σ : ZHp) (n k w : Nat) : Z (f + 1) 29 L st σ n k w = s_aload 0 30 L st σ n k w (zk1 cut G (Z f)) G R T := zrs hZ rfl f L st σ n k w
theorem f_X6_setDeed_30 (hZ : ZRN (ztb (tb_X6_setDeed E d mc ms)) cut G R T Z) (f : Nat) (L : ZLV) (st : List Value) (σ : ZHp) (n k w : Nat) : Z (f + 1) 30 L st σ n k w = s_getf 5 10 33 L st σ n k w (zk1 cut G (Z f)) G R T := zrs hZ rfl f L st σ n k w
theorem f_X6_setDeed_33 (hZ : ZRN (ztb (tb_X6_setDeed E d mc ms)) cut G R T Z) (f : Nat) (L : ZLV) (st : List Value) (σ : ZHp) (n k w : Nat) : Z (f + 1) 33 L st σ n k w = s_iload 1 34 L st σ n k w (zk1 cut G (Z f)) G R T := zrs hZ rfl f L st σ n k w
theorem f_X6_setDeed_34 (hZ : ZRN (ztb (tb_X6_setDeed E d mc ms)) cut G R T Z) (f : Nat) (L : ZLV) (st : List Value) (σ : ZHp) (n k w : Nat) : Z (f + 1) 34 L st σ n k w = s_iload 3 35 L st σ n k w (zk1 cut G (Z f)) G R T := zrs hZ rfl f L st σ n k w
theorem f_X6_setDeed_35 (hZ : ZRN (ztb (tb_X6_setDeed E d mc ms)) cut G R T Z) (f : Nat) (L : ZLV) (st : List Value) (σ : ZHp) (n k w : Nat) : Z (f + 1) 35 L st σ n k w = s_callV E d mc ms 4 MX5_set 2 38 L st σ n k w (zk1 cut G (Z f)) G R T := zrs hZ rfl f L st σ n k w
theorem f_X6_setDeed_38 (hZ : ZRN (ztb (tb_X6_setDeed E d mc ms)) cut G R T Z) (f : Nat) (L : ZLV) (st : List Value) (σ : ZHp) (n k w : Nat) : Z (f + 1) 38 L st σ n k w = s_return L st σ n k w (zk1 cut G (Z f)) G R T := zrs hZ rfl f L st σ n k w
end
