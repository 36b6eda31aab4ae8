/-! TABLES: what each instruction does, that it does so, and each one by its place (printed by wip/whole/gen/gentab.py) -/
def tb_X13_init (E : ZEX) (d mc ms : Nat) : List (Nat × ZStep) := [(0, s_aload 0 1), (1, s_objinit d 4), (4, s_aload 0 5), (5, s_const (.int (401)) 8), (8, s_newI E mc ms 10), (10, s_putf 12 0 3 13), (13, s_aload 0 14), (14, s_const (.int (401)) 17), (17, s_newI E mc ms 19), (19, s_putf 12 1 3 22), (22, s_aload 0 23), (23, s_const (.int (401)) 26), (26, s_newI E mc ms 28), (28, s_putf 12 2 3 31), (31, s_aload 0 32), (32, s_const (.int (401)) 35), (35, s_newI E mc ms 37), (37, s_putf 12 3 3 40), (40, s_aload 0 41), (41, s_const (.int (401)) 44), (44, s_newI E mc ms 46), (46, s_putf 12 4 3 49), (49, s_aload 0 50), (50, s_const (.int (10)) 52), (52, s_newI E mc ms 54), (54, s_putf 12 6 3 57), (57, s_aload 0 58), (58, s_const (.int (10)) 60), (60, s_newI E mc ms 62), (62, s_putf 12 7 3 65), (65, s_aload 0 66), (66, s_const (.int (10)) 68), (68, s_newI E mc ms 70), (70, s_putf 12 8 3 73), (73, s_aload 0 74), (74, s_const (.int (10)) 76), (76, s_newI E mc ms 78), (78, s_putf 12 9 3 81), (81, s_aload 0 82), (82, s_const (.int (10)) 84), (84, s_newI E mc ms 86), (86, s_putf 12 10 3 89), (89, s_aload 0 90), (90, s_const (.int (40)) 92), (92, s_newI E mc ms 94), (94, s_putf 12 11 3 97), (97, s_aload 0 98), (98, s_const (.int (4)) 99), (99, s_newI E mc ms 101), (101, s_putf 12 13 3 104), (104, s_aload 0 105), (105, s_const (.int (20)) 107), (107, s_newI E mc ms 109), (109, s_putf 12 15 3 112), (112, s_aload 0 113), (113, s_const (.int (16)) 115), (115, s_newI E mc ms 117), (117, s_putf 12 17 3 120), (120, s_aload 0 121), (121, s_const (.int (16)) 123), (123, s_newI E mc ms 125), (125, s_putf 12 18 3 128), (128, s_aload 0 129), (129, s_const (.int (16)) 131), (131, s_newI E mc ms 133), (133, s_putf 12 19 3 136), (136, s_return)]
set_option maxRecDepth 20000 in
theorem ok_X13_init {E : ZEX} {X : ZMX} {d mc ms : Nat} {P : ZPT} {T : ZTT} (h : ZCX E X MX13_init d mc ms P T) : ∀ pc, ZRow E X MX13_init mc ms P T pc (ztb (tb_X13_init E d mc ms) pc) := ztb_ok (by
  unfold tb_X13_init
  refine zfmc (r_aload_n h (pc := 0) (kf := 0) 0 (by decide +kernel) rfl) ?_
  refine zfmc (r_objinit h (pc := 1) (ix := 3) (by decide +kernel) wk_99ac505d1c wk_ee0d472f0f wk_13171937f3) ?_
  refine zfmc (r_aload_n h (pc := 4) (kf := 0) 0 (by decide +kernel) rfl) ?_
  refine zfmc (r_sipush h (pc := 5) (z := 401) (by decide +kernel) (401) (by decide +kernel)) ?_
  refine zfmc (r_newI h (pc := 8) (by decide +kernel) wk_bfa9f9c18d) ?_
  refine zfmc (r_putfF h (pc := 10) (ix := 9) (by decide +kernel) ckX13 0 (by decide) 3 (fty := tyX13 0) (tyX13_ok 0 (by decide)) rfl rfl rfl rfl wk_4ace4fbdf1) ?_
  refine zfmc (r_aload_n h (pc := 13) (kf := 0) 0 (by decide +kernel) rfl) ?_
  refine zfmc (r_sipush h (pc := 14) (z := 401) (by decide +kernel) (401) (by decide +kernel)) ?_
  refine zfmc (r_newI h (pc := 17) (by decide +kernel) wk_bfa9f9c18d) ?_
  refine zfmc (r_putfF h (pc := 19) (ix := 15) (by decide +kernel) ckX13 1 (by decide) 3 (fty := tyX13 1) (tyX13_ok 1 (by decide)) rfl rfl rfl rfl wk_e621a15c69) ?_
  refine zfmc (r_aload_n h (pc := 22) (kf := 0) 0 (by decide +kernel) rfl) ?_
  refine zfmc (r_sipush h (pc := 23) (z := 401) (by decide +kernel) (401) (by decide +kernel)) ?_
  refine zfmc (r_newI h (pc := 26) (by decide +kernel) wk_bfa9f9c18d) ?_
  refine zfmc (r_putfF h (pc := 28) (ix := 18) (by decide +kernel) ckX13 2 (by decide) 3 (fty := tyX13 2) (tyX13_ok 2 (by decide)) rfl rfl rfl rfl wk_e6383b5fcb) ?_
  refine zfmc (r_aload_n h (pc := 31) (kf := 0) 0 (by decide +kernel) rfl) ?_
  refine zfmc (r_sipush h (pc := 32) (z := 401) (by decide +kernel) (401) (by decide +kernel)) ?_
  refine zfmc (r_newI h (pc := 35) (by decide +kernel) wk_bfa9f9c18d) ?_
  refine zfmc (r_putfF h (pc := 37) (ix := 21) (by decide +kernel) ckX13 3 (by decide) 3 (fty := tyX13 3) (tyX13_ok 3 (by decide)) rfl rfl rfl rfl wk_7f0300e5f6) ?_
  refine zfmc (r_aload_n h (pc := 40) (kf := 0) 0 (by decide +kernel) rfl) ?_
  refine zfmc (r_sipush h (pc := 41) (z := 401) (by decide +kernel) (401) (by decide +kernel)) ?_
  refine zfmc (r_newI h (pc := 44) (by decide +kernel) wk_bfa9f9c18d) ?_
  refine zfmc (r_putfF h (pc := 46) (ix := 24) (by decide +kernel) ckX13 4 (by decide) 3 (fty := tyX13 4) (tyX13_ok 4 (by decide)) rfl rfl rfl rfl wk_0c2db5c93a) ?_
  refine zfmc (r_aload_n h (pc := 49) (kf := 0) 0 (by decide +kernel) rfl) ?_
  refine zfmc (r_bipush h (pc := 50) (z := 10) (by decide +kernel) (10) (by decide +kernel)) ?_
  refine zfmc (r_newI h (pc := 52) (by decide +kernel) wk_bfa9f9c18d) ?_
  refine zfmc (r_putfF h (pc := 54) (ix := 27) (by decide +kernel) ckX13 6 (by decide) 3 (fty := tyX13 6) (tyX13_ok 6 (by decide)) rfl rfl rfl rfl wk_5c9e681001) ?_
  refine zfmc (r_aload_n h (pc := 57) (kf := 0) 0 (by decide +kernel) rfl) ?_
  refine zfmc (r_bipush h (pc := 58) (z := 10) (by decide +kernel) (10) (by decide +kernel)) ?_
  refine zfmc (r_newI h (pc := 60) (by decide +kernel) wk_bfa9f9c18d) ?_
  refine zfmc (r_putfF h (pc := 62) (ix := 30) (by decide +kernel) ckX13 7 (by decide) 3 (fty := tyX13 7) (tyX13_ok 7 (by decide)) rfl rfl rfl rfl wk_6f2df1cf02) ?_
  refine zfmc (r_aload_n h (pc := 65) (kf := 0) 0 (by decide +kernel) rfl) ?_
  refine zfmc (r_bipush h (pc := 66) (z := 10) (by decide +kernel) (10) (by decide +kernel)) ?_
  refine zfmc (r_newI h (pc := 68) (by decide +kernel) wk_bfa9f9c18d) ?_
  refine zfmc (r_putfF h (pc := 70) (ix := 33) (by decide +kernel) ckX13 8 (by decide) 3 (fty := tyX13 8) (tyX13_ok 8 (by decide)) rfl rfl rfl rfl wk_cc6c301130) ?_
  refine zfmc (r_aload_n h (pc := 73) (kf := 0) 0 (by decide +kernel) rfl) ?_
  refine zfmc (r_bipush h (pc := 74) (z := 10) (by decide +kernel) (10) (by decide +kernel)) ?_
  refine zfmc (r_newI h (pc := 76) (by decide +kernel) wk_bfa9f9c18d) ?_
  refine zfmc (r_putfF h (pc := 78) (ix := 36) (by decide +kernel) ckX13 9 (by decide) 3 (fty := tyX13 9) (tyX13_ok 9 (by decide)) rfl rfl rfl rfl wk_e50fa64f03) ?_
  refine zfmc (r_aload_n h (pc := 81) (kf := 0) 0 (by decide +kernel) rfl) ?_
  refine zfmc (r_bipush h (pc := 82) (z := 10) (by decide +kernel) (10) (by decide +kernel)) ?_
  refine zfmc (r_newI h (pc := 84) (by decide +kernel) wk_bfa9f9c18d) ?_
  refine zfmc (r_putfF h (pc := 86) (ix := 39) (by decide +kernel) ckX13 10 (by decide) 3 (fty := tyX13 10) (tyX13_ok 10 (by decide)) rfl rfl rfl rfl wk_30275b8c4c) ?_
  refine zfmc (r_aload_n h (pc := 89) (kf := 0) 0 (by decide +kernel) rfl) ?_
  refine zfmc (r_bipush h (pc := 90) (z := 40) (by decide +kernel) (40) (by decide +kernel)) ?_
  refine zfmc (r_newI h (pc := 92) (by decide +kernel) wk_bfa9f9c18d) ?_
  refine zfmc (r_putfF h (pc := 94) (ix := 42) (by decide +kernel) ckX13 11 (by decide) 3 (fty := tyX13 11) (tyX13_ok 11 (by decide)) rfl rfl rfl rfl wk_29d6cdf77d) ?_
  refine zfmc (r_aload_n h (pc := 97) (kf := 0) 0 (by decide +kernel) rfl) ?_
  refine zfmc (r_iconst h (pc := 98) (z := 4) (by decide +kernel) (4) (by decide +kernel)) ?_
  refine zfmc (r_newI h (pc := 99) (by decide +kernel) wk_bfa9f9c18d) ?_
  refine zfmc (r_putfF h (pc := 101) (ix := 45) (by decide +kernel) ckX13 13 (by decide) 3 (fty := tyX13 13) (tyX13_ok 13 (by decide)) rfl rfl rfl rfl wk_4444da57fd) ?_
  refine zfmc (r_aload_n h (pc := 104) (kf := 0) 0 (by decide +kernel) rfl) ?_
  refine zfmc (r_bipush h (pc := 105) (z := 20) (by decide +kernel) (20) (by decide +kernel)) ?_
  refine zfmc (r_newI h (pc := 107) (by decide +kernel) wk_bfa9f9c18d) ?_
  refine zfmc (r_putfF h (pc := 109) (ix := 48) (by decide +kernel) ckX13 15 (by decide) 3 (fty := tyX13 15) (tyX13_ok 15 (by decide)) rfl rfl rfl rfl wk_2816fac51a) ?_
  refine zfmc (r_aload_n h (pc := 112) (kf := 0) 0 (by decide +kernel) rfl) ?_
  refine zfmc (r_bipush h (pc := 113) (z := 16) (by decide +kernel) (16) (by decide +kernel)) ?_
  refine zfmc (r_newI h (pc := 115) (by decide +kernel) wk_bfa9f9c18d) ?_
  refine zfmc (r_putfF h (pc := 117) (ix := 51) (by decide +kernel) ckX13 17 (by decide) 3 (fty := tyX13 17) (tyX13_ok 17 (by decide)) rfl rfl rfl rfl wk_e7c644e86f) ?_
  refine zfmc (r_aload_n h (pc := 120) (kf := 0) 0 (by decide +kernel) rfl) ?_
  refine zfmc (r_bipush h (pc := 121) (z := 16) (by decide +kernel) (16) (by decide +kernel)) ?_
  refine zfmc (r_newI h (pc := 123) (by decide +kernel) wk_bfa9f9c18d) ?_
  refine zfmc (r_putfF h (pc := 125) (ix := 54) (by decide +kernel) ckX13 18 (by decide) 3 (fty := tyX13 18) (tyX13_ok 18 (by decide)) rfl rfl rfl rfl wk_a95d99dc80) ?_
  refine zfmc (r_aload_n h (pc := 128) (kf := 0) 0 (by decide +kernel) rfl) ?_
  refine zfmc (r_bipush h (pc := 129) (z := 16) (by decide +kernel) (16) (by decide +kernel)) ?_
  refine zfmc (r_newI h (pc := 131) (by decide +kernel) wk_bfa9f9c18d) ?_
  refine zfmc (r_putfF h (pc := 133) (ix := 57) (by decide +kernel) ckX13 19 (by decide) 3 (fty := tyX13 19) (tyX13_ok 19 (by decide)) rfl rfl rfl rfl wk_629568d439) ?_
  refine zfmc (r_return h (pc := 136) (by decide +kernel) rfl) ?_
  exact zfm0)
def tb_X14_init (E : ZEX) (d mc ms : Nat) : List (Nat × ZStep) := [(0, s_aload 0 1), (1, s_objinit d 4), (4, s_aload 0 5), (5, s_const (.int (10)) 7), (7, s_newI E mc ms 9), (9, s_putf 13 3 3 12), (12, s_aload 0 13), (13, s_const (.int (10)) 15), (15, s_newI E mc ms 17), (17, s_putf 13 4 3 20), (20, s_aload 0 21), (21, s_const (.int (10)) 23), (23, s_newI E mc ms 25), (25, s_putf 13 5 3 28), (28, s_aload 0 29), (29, s_const (.int (240)) 32), (32, s_newI E mc ms 34), (34, s_putf 13 6 3 37), (37, s_aload 0 38), (38, s_const (.int (4)) 39), (39, s_newI E mc ms 41), (41, s_putf 13 7 3 44), (44, s_aload 0 45), (45, s_const (.int (240)) 48), (48, s_newI E mc ms 50), (50, s_putf 13 8 3 53), (53, s_aload 0 54), (54, s_const (.int (4)) 55), (55, s_newI E mc ms 57), (57, s_putf 13 9 3 60), (60, s_aload 0 61), (61, s_const (.int (4)) 62), (62, s_newI E mc ms 64), (64, s_putf 13 10 3 67), (67, s_aload 0 68), (68, s_const (.int (4)) 69), (69, s_newI E mc ms 71), (71, s_putf 13 11 3 74), (74, s_aload 0 75), (75, s_const (.int (4)) 76), (76, s_newI E mc ms 78), (78, s_putf 13 12 3 81), (81, s_aload 0 82), (82, s_const (.int (4)) 83), (83, s_newI E mc ms 85), (85, s_putf 13 13 3 88), (88, s_aload 0 89), (89, s_const (.int (4)) 90), (90, s_newI E mc ms 92), (92, s_putf 13 14 3 95), (95, s_return)]
set_option maxRecDepth 20000 in
theorem ok_X14_init {E : ZEX} {X : ZMX} {d mc ms : Nat} {P : ZPT} {T : ZTT} (h : ZCX E X MX14_init d mc ms P T) : ∀ pc, ZRow E X MX14_init mc ms P T pc (ztb (tb_X14_init E d mc ms) pc) := ztb_ok (by
  unfold tb_X14_init
  refine zfmc (r_aload_n h (pc := 0) (kf := 0) 0 (by decide +kernel) rfl) ?_
  refine zfmc (r_objinit h (pc := 1) (ix := 3) (by decide +kernel) wk_6add6b4325 wk_ee0d472f0f wk_13171937f3) ?_
  refine zfmc (r_aload_n h (pc := 4) (kf := 0) 0 (by decide +kernel) rfl) ?_
  refine zfmc (r_bipush h (pc := 5) (z := 10) (by decide +kernel) (10) (by decide +kernel)) ?_
  refine zfmc (r_newI h (pc := 7) (by decide +kernel) wk_bfa9f9c18d) ?_
  refine zfmc (r_putfF h (pc := 9) (ix := 9) (by decide +kernel) ckX14 3 (by decide) 3 (fty := tyX14 3) (tyX14_ok 3 (by decide)) rfl rfl rfl rfl wk_cd494cfe19) ?_
  refine zfmc (r_aload_n h (pc := 12) (kf := 0) 0 (by decide +kernel) rfl) ?_
  refine zfmc (r_bipush h (pc := 13) (z := 10) (by decide +kernel) (10) (by decide +kernel)) ?_
  refine zfmc (r_newI h (pc := 15) (by decide +kernel) wk_bfa9f9c18d) ?_
  refine zfmc (r_putfF h (pc := 17) (ix := 15) (by decide +kernel) ckX14 4 (by decide) 3 (fty := tyX14 4) (tyX14_ok 4 (by decide)) rfl rfl rfl rfl wk_a9cfea9f1f) ?_
  refine zfmc (r_aload_n h (pc := 20) (kf := 0) 0 (by decide +kernel) rfl) ?_
  refine zfmc (r_bipush h (pc := 21) (z := 10) (by decide +kernel) (10) (by decide +kernel)) ?_
  refine zfmc (r_newI h (pc := 23) (by decide +kernel) wk_bfa9f9c18d) ?_
  refine zfmc (r_putfF h (pc := 25) (ix := 18) (by decide +kernel) ckX14 5 (by decide) 3 (fty := tyX14 5) (tyX14_ok 5 (by decide)) rfl rfl rfl rfl wk_96ca37a4a0) ?_
  refine zfmc (r_aload_n h (pc := 28) (kf := 0) 0 (by decide +kernel) rfl) ?_
  refine zfmc (r_sipush h (pc := 29) (z := 240) (by decide +kernel) (240) (by decide +kernel)) ?_
  refine zfmc (r_newI h (pc := 32) (by decide +kernel) wk_bfa9f9c18d) ?_
  refine zfmc (r_putfF h (pc := 34) (ix := 21) (by decide +kernel) ckX14 6 (by decide) 3 (fty := tyX14 6) (tyX14_ok 6 (by decide)) rfl rfl rfl rfl wk_24f0260e7c) ?_
  refine zfmc (r_aload_n h (pc := 37) (kf := 0) 0 (by decide +kernel) rfl) ?_
  refine zfmc (r_iconst h (pc := 38) (z := 4) (by decide +kernel) (4) (by decide +kernel)) ?_
  refine zfmc (r_newI h (pc := 39) (by decide +kernel) wk_bfa9f9c18d) ?_
  refine zfmc (r_putfF h (pc := 41) (ix := 24) (by decide +kernel) ckX14 7 (by decide) 3 (fty := tyX14 7) (tyX14_ok 7 (by decide)) rfl rfl rfl rfl wk_7e53b7018f) ?_
  refine zfmc (r_aload_n h (pc := 44) (kf := 0) 0 (by decide +kernel) rfl) ?_
  refine zfmc (r_sipush h (pc := 45) (z := 240) (by decide +kernel) (240) (by decide +kernel)) ?_
  refine zfmc (r_newI h (pc := 48) (by decide +kernel) wk_bfa9f9c18d) ?_
  refine zfmc (r_putfF h (pc := 50) (ix := 27) (by decide +kernel) ckX14 8 (by decide) 3 (fty := tyX14 8) (tyX14_ok 8 (by decide)) rfl rfl rfl rfl wk_fc6ff07b16) ?_
  refine zfmc (r_aload_n h (pc := 53) (kf := 0) 0 (by decide +kernel) rfl) ?_
  refine zfmc (r_iconst h (pc := 54) (z := 4) (by decide +kernel) (4) (by decide +kernel)) ?_
  refine zfmc (r_newI h (pc := 55) (by decide +kernel) wk_bfa9f9c18d) ?_
  refine zfmc (r_putfF h (pc := 57) (ix := 30) (by decide +kernel) ckX14 9 (by decide) 3 (fty := tyX14 9) (tyX14_ok 9 (by decide)) rfl rfl rfl rfl wk_c1e5cfb904) ?_
  refine zfmc (r_aload_n h (pc := 60) (kf := 0) 0 (by decide +kernel) rfl) ?_
  refine zfmc (r_iconst h (pc := 61) (z := 4) (by decide +kernel) (4) (by decide +kernel)) ?_
  refine zfmc (r_newI h (pc := 62) (by decide +kernel) wk_bfa9f9c18d) ?_
  refine zfmc (r_putfF h (pc := 64) (ix := 33) (by decide +kernel) ckX14 10 (by decide) 3 (fty := tyX14 10) (tyX14_ok 10 (by decide)) rfl rfl rfl rfl wk_908a41162e) ?_
  refine zfmc (r_aload_n h (pc := 67) (kf := 0) 0 (by decide +kernel) rfl) ?_
  refine zfmc (r_iconst h (pc := 68) (z := 4) (by decide +kernel) (4) (by decide +kernel)) ?_
  refine zfmc (r_newI h (pc := 69) (by decide +kernel) wk_bfa9f9c18d) ?_
  refine zfmc (r_putfF h (pc := 71) (ix := 36) (by decide +kernel) ckX14 11 (by decide) 3 (fty := tyX14 11) (tyX14_ok 11 (by decide)) rfl rfl rfl rfl wk_162b446159) ?_
  refine zfmc (r_aload_n h (pc := 74) (kf := 0) 0 (by decide +kernel) rfl) ?_
  refine zfmc (r_iconst h (pc := 75) (z := 4) (by decide +kernel) (4) (by decide +kernel)) ?_
  refine zfmc (r_newI h (pc := 76) (by decide +kernel) wk_bfa9f9c18d) ?_
  refine zfmc (r_putfF h (pc := 78) (ix := 39) (by decide +kernel) ckX14 12 (by decide) 3 (fty := tyX14 12) (tyX14_ok 12 (by decide)) rfl rfl rfl rfl wk_445ec7c99c) ?_
  refine zfmc (r_aload_n h (pc := 81) (kf := 0) 0 (by decide +kernel) rfl) ?_
  refine zfmc (r_iconst h (pc := 82) (z := 4) (by decide +kernel) (4) (by decide +kernel)) ?_
  refine zfmc (r_newI h (pc := 83) (by decide +kernel) wk_bfa9f9c18d) ?_
  refine zfmc (r_putfF h (pc := 85) (ix := 42) (by decide +kernel) ckX14 13 (by decide) 3 (fty := tyX14 13) (tyX14_ok 13 (by decide)) rfl rfl rfl rfl wk_f12095c544) ?_
  refine zfmc (r_aload_n h (pc := 88) (kf := 0) 0 (by decide +kernel) rfl) ?_
  refine zfmc (r_iconst h (pc := 89) (z := 4) (by decide +kernel) (4) (by decide +kernel)) ?_
  refine zfmc (r_newI h (pc := 90) (by decide +kernel) wk_bfa9f9c18d) ?_
  refine zfmc (r_putfF h (pc := 92) (ix := 45) (by decide +kernel) ckX14 14 (by decide) 3 (fty := tyX14 14) (tyX14_ok 14 (by decide)) rfl rfl rfl rfl wk_a8e6f6b3af) ?_
  refine zfmc (r_return h (pc := 95) (by decide +kernel) rfl) ?_
  exact zfm0)
def tb_X14_copy (E : ZEX) (d mc ms : Nat) : List (Nat × ZStep) := [(0, s_aload 0 1), (1, s_const (.int (0)) 2), (2, s_aload 1 3), (3, s_const (.int (0)) 4), (4, s_aload 0 5), (5, s_alen E 6), (6, s_acopy E d 9), (9, s_return)]
set_option maxRecDepth 20000 in
theorem ok_X14_copy {E : ZEX} {X : ZMX} {d mc ms : Nat} {P : ZPT} {T : ZTT} (h : ZCX E X MX14_copy d mc ms P T) : ∀ pc, ZRow E X MX14_copy mc ms P T pc (ztb (tb_X14_copy E d mc ms) pc) := ztb_ok (by
  unfold tb_X14_copy
  refine zfmc (r_aload_n h (pc := 0) (kf := 0) 0 (by decide +kernel) rfl) ?_
  refine zfmc (r_iconst h (pc := 1) (z := 0) (by decide +kernel) (0) (by decide +kernel)) ?_
  refine zfmc (r_aload_n h (pc := 2) (kf := 1) 1 (by decide +kernel) rfl) ?_
  refine zfmc (r_iconst h (pc := 3) (z := 0) (by decide +kernel) (0) (by decide +kernel)) ?_
  refine zfmc (r_aload_n h (pc := 4) (kf := 0) 0 (by decide +kernel) rfl) ?_
  refine zfmc (r_alen h (pc := 5) (by decide +kernel)) ?_
  refine zfmc (r_acopy h (pc := 6) (ix := 48) (by decide +kernel) wk_d468e61953 wk_14aeafd7f0 wk_410e289dfd wk_c7b251dcc4) ?_
  refine zfmc (r_return h (pc := 9) (by decide +kernel) rfl) ?_
  exact zfm0)
def tb_X14_become (E : ZEX) (d mc ms : Nat) : List (Nat × ZStep) := [(0, s_aload 0 1), (1, s_aload 1 2), (2, s_getf 13 0 5), (5, s_putf 13 0 0 8), (8, s_aload 0 9), (9, s_aload 1 10), (10, s_getf 13 1 13), (13, s_putf 13 1 0 16), (16, s_aload 0 17), (17, s_aload 1 18), (18, s_getf 13 2 21), (21, s_putf 13 2 0 24), (24, s_aload 1 25), (25, s_getf 13 3 28), (28, s_aload 0 29), (29, s_getf 13 3 32), (32, s_callS E d mc ms MX14_copy 2 35), (35, s_aload 1 36), (36, s_getf 13 4 39), (39, s_aload 0 40), (40, s_getf 13 4 43), (43, s_callS E d mc ms MX14_copy 2 46), (46, s_aload 1 47), (47, s_getf 13 5 50), (50, s_aload 0 51), (51, s_getf 13 5 54), (54, s_callS E d mc ms MX14_copy 2 57), (57, s_aload 1 58), (58, s_getf 13 6 61), (61, s_aload 0 62), (62, s_getf 13 6 65), (65, s_callS E d mc ms MX14_copy 2 68), (68, s_aload 1 69), (69, s_getf 13 7 72), (72, s_aload 0 73), (73, s_getf 13 7 76), (76, s_callS E d mc ms MX14_copy 2 79), (79, s_aload 1 80), (80, s_getf 13 8 83), (83, s_aload 0 84), (84, s_getf 13 8 87), (87, s_callS E d mc ms MX14_copy 2 90), (90, s_aload 1 91), (91, s_getf 13 9 94), (94, s_aload 0 95), (95, s_getf 13 9 98), (98, s_callS E d mc ms MX14_copy 2 101), (101, s_aload 1 102), (102, s_getf 13 10 105), (105, s_aload 0 106), (106, s_getf 13 10 109), (109, s_callS E d mc ms MX14_copy 2 112), (112, s_aload 1 113), (113, s_getf 13 11 116), (116, s_aload 0 117), (117, s_getf 13 11 120), (120, s_callS E d mc ms MX14_copy 2 123), (123, s_aload 1 124), (124, s_getf 13 12 127), (127, s_aload 0 128), (128, s_getf 13 12 131), (131, s_callS E d mc ms MX14_copy 2 134), (134, s_aload 1 135), (135, s_getf 13 13 138), (138, s_aload 0 139), (139, s_getf 13 13 142), (142, s_callS E d mc ms MX14_copy 2 145), (145, s_aload 1 146), (146, s_getf 13 14 149), (149, s_aload 0 150), (150, s_getf 13 14 153), (153, s_callS E d mc ms MX14_copy 2 156), (156, s_return)]
set_option maxRecDepth 20000 in
theorem ok_X14_become {E : ZEX} {X : ZMX} {d mc ms : Nat} {P : ZPT} {T : ZTT} (h : ZCX E X MX14_become d mc ms P T) : ∀ pc, ZRow E X MX14_become mc ms P T pc (ztb (tb_X14_become E d mc ms) pc) := ztb_ok (by
  unfold tb_X14_become
  refine zfmc (r_aload_n h (pc := 0) (kf := 0) 0 (by decide +kernel) rfl) ?_
  refine zfmc (r_aload_n h (pc := 1) (kf := 1) 1 (by decide +kernel) rfl) ?_
  refine zfmc (r_getf h (pc := 2) (ix := 54) (by decide +kernel) ckX14 0 (by decide) wk_d3bdd119cc) ?_
  refine zfmc (r_putf h (pc := 5) (ix := 54) (by decide +kernel) ckX14 0 (by decide) 0 (fty := tyX14 0) (tyX14_ok 0 (by decide)) rfl rfl wk_d3bdd119cc) ?_
  refine zfmc (r_aload_n h (pc := 8) (kf := 0) 0 (by decide +kernel) rfl) ?_
  refine zfmc (r_aload_n h (pc := 9) (kf := 1) 1 (by decide +kernel) rfl) ?_
  refine zfmc (r_getf h (pc := 10) (ix := 58) (by decide +kernel) ckX14 1 (by decide) wk_703f8626e3) ?_
  refine zfmc (r_putf h (pc := 13) (ix := 58) (by decide +kernel) ckX14 1 (by decide) 0 (fty := tyX14 1) (tyX14_ok 1 (by decide)) rfl rfl wk_703f8626e3) ?_
  refine zfmc (r_aload_n h (pc := 16) (kf := 0) 0 (by decide +kernel) rfl) ?_
  refine zfmc (r_aload_n h (pc := 17) (kf := 1) 1 (by decide +kernel) rfl) ?_
  refine zfmc (r_getf h (pc := 18) (ix := 61) (by decide +kernel) ckX14 2 (by decide) wk_56fda8aefd) ?_
  refine zfmc (r_putf h (pc := 21) (ix := 61) (by decide +kernel) ckX14 2 (by decide) 0 (fty := tyX14 2) (tyX14_ok 2 (by decide)) rfl rfl wk_56fda8aefd) ?_
  refine zfmc (r_aload_n h (pc := 24) (kf := 1) 1 (by decide +kernel) rfl) ?_
  refine zfmc (r_getf h (pc := 25) (ix := 9) (by decide +kernel) ckX14 3 (by decide) wk_cd494cfe19) ?_
  refine zfmc (r_aload_n h (pc := 28) (kf := 0) 0 (by decide +kernel) rfl) ?_
  refine zfmc (r_getf h (pc := 29) (ix := 9) (by decide +kernel) ckX14 3 (by decide) wk_cd494cfe19) ?_
  refine zfmc (r_callS h (pc := 32) (ix := 64) (by decide +kernel) 2 mcX14_copy wk_610e2f471a wk_c524907f20) ?_
  refine zfmc (r_aload_n h (pc := 35) (kf := 1) 1 (by decide +kernel) rfl) ?_
  refine zfmc (r_getf h (pc := 36) (ix := 15) (by decide +kernel) ckX14 4 (by decide) wk_a9cfea9f1f) ?_
  refine zfmc (r_aload_n h (pc := 39) (kf := 0) 0 (by decide +kernel) rfl) ?_
  refine zfmc (r_getf h (pc := 40) (ix := 15) (by decide +kernel) ckX14 4 (by decide) wk_a9cfea9f1f) ?_
  refine zfmc (r_callS h (pc := 43) (ix := 64) (by decide +kernel) 2 mcX14_copy wk_610e2f471a wk_c524907f20) ?_
  refine zfmc (r_aload_n h (pc := 46) (kf := 1) 1 (by decide +kernel) rfl) ?_
  refine zfmc (r_getf h (pc := 47) (ix := 18) (by decide +kernel) ckX14 5 (by decide) wk_96ca37a4a0) ?_
  refine zfmc (r_aload_n h (pc := 50) (kf := 0) 0 (by decide +kernel) rfl) ?_
  refine zfmc (r_getf h (pc := 51) (ix := 18) (by decide +kernel) ckX14 5 (by decide) wk_96ca37a4a0) ?_
  refine zfmc (r_callS h (pc := 54) (ix := 64) (by decide +kernel) 2 mcX14_copy wk_610e2f471a wk_c524907f20) ?_
  refine zfmc (r_aload_n h (pc := 57) (kf := 1) 1 (by decide +kernel) rfl) ?_
  refine zfmc (r_getf h (pc := 58) (ix := 21) (by decide +kernel) ckX14 6 (by decide) wk_24f0260e7c) ?_
  refine zfmc (r_aload_n h (pc := 61) (kf := 0) 0 (by decide +kernel) rfl) ?_
  refine zfmc (r_getf h (pc := 62) (ix := 21) (by decide +kernel) ckX14 6 (by decide) wk_24f0260e7c) ?_
  refine zfmc (r_callS h (pc := 65) (ix := 64) (by decide +kernel) 2 mcX14_copy wk_610e2f471a wk_c524907f20) ?_
  refine zfmc (r_aload_n h (pc := 68) (kf := 1) 1 (by decide +kernel) rfl) ?_
  refine zfmc (r_getf h (pc := 69) (ix := 24) (by decide +kernel) ckX14 7 (by decide) wk_7e53b7018f) ?_
  refine zfmc (r_aload_n h (pc := 72) (kf := 0) 0 (by decide +kernel) rfl) ?_
  refine zfmc (r_getf h (pc := 73) (ix := 24) (by decide +kernel) ckX14 7 (by decide) wk_7e53b7018f) ?_
  refine zfmc (r_callS h (pc := 76) (ix := 64) (by decide +kernel) 2 mcX14_copy wk_610e2f471a wk_c524907f20) ?_
  refine zfmc (r_aload_n h (pc := 79) (kf := 1) 1 (by decide +kernel) rfl) ?_
  refine zfmc (r_getf h (pc := 80) (ix := 27) (by decide +kernel) ckX14 8 (by decide) wk_fc6ff07b16) ?_
  refine zfmc (r_aload_n h (pc := 83) (kf := 0) 0 (by decide +kernel) rfl) ?_
  refine zfmc (r_getf h (pc := 84) (ix := 27) (by decide +kernel) ckX14 8 (by decide) wk_fc6ff07b16) ?_
  refine zfmc (r_callS h (pc := 87) (ix := 64) (by decide +kernel) 2 mcX14_copy wk_610e2f471a wk_c524907f20) ?_
  refine zfmc (r_aload_n h (pc := 90) (kf := 1) 1 (by decide +kernel) rfl) ?_
  refine zfmc (r_getf h (pc := 91) (ix := 30) (by decide +kernel) ckX14 9 (by decide) wk_c1e5cfb904) ?_
  refine zfmc (r_aload_n h (pc := 94) (kf := 0) 0 (by decide +kernel) rfl) ?_
  refine zfmc (r_getf h (pc := 95) (ix := 30) (by decide +kernel) ckX14 9 (by decide) wk_c1e5cfb904) ?_
  refine zfmc (r_callS h (pc := 98) (ix := 64) (by decide +kernel) 2 mcX14_copy wk_610e2f471a wk_c524907f20) ?_
  refine zfmc (r_aload_n h (pc := 101) (kf := 1) 1 (by decide +kernel) rfl) ?_
  refine zfmc (r_getf h (pc := 102) (ix := 33) (by decide +kernel) ckX14 10 (by decide) wk_908a41162e) ?_
  refine zfmc (r_aload_n h (pc := 105) (kf := 0) 0 (by decide +kernel) rfl) ?_
  refine zfmc (r_getf h (pc := 106) (ix := 33) (by decide +kernel) ckX14 10 (by decide) wk_908a41162e) ?_
  refine zfmc (r_callS h (pc := 109) (ix := 64) (by decide +kernel) 2 mcX14_copy wk_610e2f471a wk_c524907f20) ?_
  refine zfmc (r_aload_n h (pc := 112) (kf := 1) 1 (by decide +kernel) rfl) ?_
  refine zfmc (r_getf h (pc := 113) (ix := 36) (by decide +kernel) ckX14 11 (by decide) wk_162b446159) ?_
  refine zfmc (r_aload_n h (pc := 116) (kf := 0) 0 (by decide +kernel) rfl) ?_
  refine zfmc (r_getf h (pc := 117) (ix := 36) (by decide +kernel) ckX14 11 (by decide) wk_162b446159) ?_
  refine zfmc (r_callS h (pc := 120) (ix := 64) (by decide +kernel) 2 mcX14_copy wk_610e2f471a wk_c524907f20) ?_
  refine zfmc (r_aload_n h (pc := 123) (kf := 1) 1 (by decide +kernel) rfl) ?_
  refine zfmc (r_getf h (pc := 124) (ix := 39) (by decide +kernel) ckX14 12 (by decide) wk_445ec7c99c) ?_
  refine zfmc (r_aload_n h (pc := 127) (kf := 0) 0 (by decide +kernel) rfl) ?_
  refine zfmc (r_getf h (pc := 128) (ix := 39) (by decide +kernel) ckX14 12 (by decide) wk_445ec7c99c) ?_
  refine zfmc (r_callS h (pc := 131) (ix := 64) (by decide +kernel) 2 mcX14_copy wk_610e2f471a wk_c524907f20) ?_
  refine zfmc (r_aload_n h (pc := 134) (kf := 1) 1 (by decide +kernel) rfl) ?_
  refine zfmc (r_getf h (pc := 135) (ix := 42) (by decide +kernel) ckX14 13 (by decide) wk_f12095c544) ?_
  refine zfmc (r_aload_n h (pc := 138) (kf := 0) 0 (by decide +kernel) rfl) ?_
  refine zfmc (r_getf h (pc := 139) (ix := 42) (by decide +kernel) ckX14 13 (by decide) wk_f12095c544) ?_
  refine zfmc (r_callS h (pc := 142) (ix := 64) (by decide +kernel) 2 mcX14_copy wk_610e2f471a wk_c524907f20) ?_
  refine zfmc (r_aload_n h (pc := 145) (kf := 1) 1 (by decide +kernel) rfl) ?_
  refine zfmc (r_getf h (pc := 146) (ix := 45) (by decide +kernel) ckX14 14 (by decide) wk_a8e6f6b3af) ?_
  refine zfmc (r_aload_n h (pc := 149) (kf := 0) 0 (by decide +kernel) rfl) ?_
  refine zfmc (r_getf h (pc := 150) (ix := 45) (by decide +kernel) ckX14 14 (by decide) wk_a8e6f6b3af) ?_
  refine zfmc (r_callS h (pc := 153) (ix := 64) (by decide +kernel) 2 mcX14_copy wk_610e2f471a wk_c524907f20) ?_
  refine zfmc (r_return h (pc := 156) (by decide +kernel) rfl) ?_
  exact zfm0)
def tb_X14_discard (E : ZEX) (d mc ms : Nat) : List (Nat × ZStep) := [(0, s_aload 0 1), (1, s_getf 13 8 4), (4, s_const (.int (60)) 6), (6, s_iload 1 7), (7, s_imul 8), (8, s_aload 0 9), (9, s_getf 13 9 12), (12, s_iload 1 13), (13, s_iaload E 14), (14, s_iadd 15), (15, s_iload 2 16), (16, s_iastore E 17), (17, s_aload 0 18), (18, s_getf 13 9 21), (21, s_iload 1 22), (22, s_dup2 23), (23, s_iaload E 24), (24, s_const (.int (1)) 25), (25, s_iadd 26), (26, s_iastore E 27), (27, s_return)]
set_option maxRecDepth 20000 in
theorem ok_X14_discard {E : ZEX} {X : ZMX} {d mc ms : Nat} {P : ZPT} {T : ZTT} (h : ZCX E X MX14_discard d mc ms P T) : ∀ pc, ZRow E X MX14_discard mc ms P T pc (ztb (tb_X14_discard E d mc ms) pc) := ztb_ok (by
  unfold tb_X14_discard
  refine zfmc (r_aload_n h (pc := 0) (kf := 0) 0 (by decide +kernel) rfl) ?_
  refine zfmc (r_getf h (pc := 1) (ix := 27) (by decide +kernel) ckX14 8 (by decide) wk_fc6ff07b16) ?_
  refine zfmc (r_bipush h (pc := 4) (z := 60) (by decide +kernel) (60) (by decide +kernel)) ?_
  refine zfmc (r_iload_n h (pc := 6) (kf := 1) 1 (by decide +kernel) rfl) ?_
  refine zfmc (r_imul h (pc := 7) (by decide +kernel)) ?_
  refine zfmc (r_aload_n h (pc := 8) (kf := 0) 0 (by decide +kernel) rfl) ?_
  refine zfmc (r_getf h (pc := 9) (ix := 30) (by decide +kernel) ckX14 9 (by decide) wk_c1e5cfb904) ?_
  refine zfmc (r_iload_n h (pc := 12) (kf := 1) 1 (by decide +kernel) rfl) ?_
  refine zfmc (r_iaload h (pc := 13) (by decide +kernel)) ?_
  refine zfmc (r_iadd h (pc := 14) (by decide +kernel)) ?_
  refine zfmc (r_iload_n h (pc := 15) (kf := 2) 2 (by decide +kernel) rfl) ?_
  refine zfmc (r_iastore h (pc := 16) (by decide +kernel)) ?_
  refine zfmc (r_aload_n h (pc := 17) (kf := 0) 0 (by decide +kernel) rfl) ?_
  refine zfmc (r_getf h (pc := 18) (ix := 30) (by decide +kernel) ckX14 9 (by decide) wk_c1e5cfb904) ?_
  refine zfmc (r_iload_n h (pc := 21) (kf := 1) 1 (by decide +kernel) rfl) ?_
  refine zfmc (r_dup2 h (pc := 22) (by decide +kernel)) ?_
  refine zfmc (r_iaload h (pc := 23) (by decide +kernel)) ?_
  refine zfmc (r_iconst h (pc := 24) (z := 1) (by decide +kernel) (1) (by decide +kernel)) ?_
  refine zfmc (r_iadd h (pc := 25) (by decide +kernel)) ?_
  refine zfmc (r_iastore h (pc := 26) (by decide +kernel)) ?_
  refine zfmc (r_return h (pc := 27) (by decide +kernel) rfl) ?_
  exact zfm0)
def tb_X14_mix (E : ZEX) (d mc ms : Nat) : List (Nat × ZStep) := [(0, s_const (.int (60)) 2), (2, s_iload 1 3), (3, s_imul 4), (4, s_istore 2 5), (5, s_aload 0 6), (6, s_getf 13 9 9), (9, s_iload 1 10), (10, s_iaload E 11), (11, s_const (.int (1)) 12), (12, s_isub 13), (13, s_istore 3 14), (14, s_iload 3 15), (15, s_const (.int (1)) 16), (16, s_icmp_lt 96 19), (19, s_aload 0 20), (20, s_getf 13 10 23), (23, s_iload 1 24), (24, s_aload 0 25), (25, s_getf 13 10 28), (28, s_iload 1 29), (29, s_iaload E 30), (30, s_const (.int (193)) 33), (33, s_imul 34), (34, s_const (.int (71)) 36), (36, s_iadd 37), (37, s_const (.int (1021)) 40), (40, s_irem 41), (41, s_iastore E 42), (42, s_iload 2 43), (43, s_aload 0 44), (44, s_getf 13 10 47), (47, s_iload 1 48), (48, s_iaload E 49), (49, s_iload 3 50), (50, s_const (.int (1)) 51), (51, s_iadd 52), (52, s_irem 53), (53, s_iadd 54), (54, s_istore 4 56), (56, s_aload 0 57), (57, s_getf 13 8 60), (60, s_iload 2 61), (61, s_iload 3 62), (62, s_iadd 63), (63, s_iaload E 64), (64, s_istore 5 66), (66, s_aload 0 67), (67, s_getf 13 8 70), (70, s_iload 2 71), (71, s_iload 3 72), (72, s_iadd 73), (73, s_aload 0 74), (74, s_getf 13 8 77), (77, s_iload 4 79), (79, s_iaload E 80), (80, s_iastore E 81), (81, s_aload 0 82), (82, s_getf 13 8 85), (85, s_iload 4 87), (87, s_iload 5 89), (89, s_iastore E 90), (90, s_iinc 3 (-1) 93), (93, s_goto 14), (96, s_aload 0 97), (97, s_getf 13 14 100), (100, s_iload 1 101), (101, s_dup2 102), (102, s_iaload E 103), (103, s_const (.int (1)) 104), (104, s_iadd 105), (105, s_iastore E 106), (106, s_return)]
set_option maxRecDepth 20000 in
theorem ok_X14_mix {E : ZEX} {X : ZMX} {d mc ms : Nat} {P : ZPT} {T : ZTT} (h : ZCX E X MX14_mix d mc ms P T) : ∀ pc, ZRow E X MX14_mix mc ms P T pc (ztb (tb_X14_mix E d mc ms) pc) := ztb_ok (by
  unfold tb_X14_mix
  refine zfmc (r_bipush h (pc := 0) (z := 60) (by decide +kernel) (60) (by decide +kernel)) ?_
  refine zfmc (r_iload_n h (pc := 2) (kf := 1) 1 (by decide +kernel) rfl) ?_
  refine zfmc (r_imul h (pc := 3) (by decide +kernel)) ?_
  refine zfmc (r_istore_n h (pc := 4) (kf := 2) 2 (by decide +kernel) rfl (by decide +kernel)) ?_
  refine zfmc (r_aload_n h (pc := 5) (kf := 0) 0 (by decide +kernel) rfl) ?_
  refine zfmc (r_getf h (pc := 6) (ix := 30) (by decide +kernel) ckX14 9 (by decide) wk_c1e5cfb904) ?_
  refine zfmc (r_iload_n h (pc := 9) (kf := 1) 1 (by decide +kernel) rfl) ?_
  refine zfmc (r_iaload h (pc := 10) (by decide +kernel)) ?_
  refine zfmc (r_iconst h (pc := 11) (z := 1) (by decide +kernel) (1) (by decide +kernel)) ?_
  refine zfmc (r_isub h (pc := 12) (by decide +kernel)) ?_
  refine zfmc (r_istore_n h (pc := 13) (kf := 3) 3 (by decide +kernel) rfl (by decide +kernel)) ?_
  refine zfmc (r_iload_n h (pc := 14) (kf := 3) 3 (by decide +kernel) rfl) ?_
  refine zfmc (r_iconst h (pc := 15) (z := 1) (by decide +kernel) (1) (by decide +kernel)) ?_
  refine zfmc (r_icmp_lt h (pc := 16) (off := 80) (by decide +kernel) 96 (by decide +kernel)) ?_
  refine zfmc (r_aload_n h (pc := 19) (kf := 0) 0 (by decide +kernel) rfl) ?_
  refine zfmc (r_getf h (pc := 20) (ix := 33) (by decide +kernel) ckX14 10 (by decide) wk_908a41162e) ?_
  refine zfmc (r_iload_n h (pc := 23) (kf := 1) 1 (by decide +kernel) rfl) ?_
  refine zfmc (r_aload_n h (pc := 24) (kf := 0) 0 (by decide +kernel) rfl) ?_
  refine zfmc (r_getf h (pc := 25) (ix := 33) (by decide +kernel) ckX14 10 (by decide) wk_908a41162e) ?_
  refine zfmc (r_iload_n h (pc := 28) (kf := 1) 1 (by decide +kernel) rfl) ?_
  refine zfmc (r_iaload h (pc := 29) (by decide +kernel)) ?_
  refine zfmc (r_sipush h (pc := 30) (z := 193) (by decide +kernel) (193) (by decide +kernel)) ?_
  refine zfmc (r_imul h (pc := 33) (by decide +kernel)) ?_
  refine zfmc (r_bipush h (pc := 34) (z := 71) (by decide +kernel) (71) (by decide +kernel)) ?_
  refine zfmc (r_iadd h (pc := 36) (by decide +kernel)) ?_
  refine zfmc (r_sipush h (pc := 37) (z := 1021) (by decide +kernel) (1021) (by decide +kernel)) ?_
  refine zfmc (r_irem h (pc := 40) (by decide +kernel)) ?_
  refine zfmc (r_iastore h (pc := 41) (by decide +kernel)) ?_
  refine zfmc (r_iload_n h (pc := 42) (kf := 2) 2 (by decide +kernel) rfl) ?_
  refine zfmc (r_aload_n h (pc := 43) (kf := 0) 0 (by decide +kernel) rfl) ?_
  refine zfmc (r_getf h (pc := 44) (ix := 33) (by decide +kernel) ckX14 10 (by decide) wk_908a41162e) ?_
  refine zfmc (r_iload_n h (pc := 47) (kf := 1) 1 (by decide +kernel) rfl) ?_
  refine zfmc (r_iaload h (pc := 48) (by decide +kernel)) ?_
  refine zfmc (r_iload_n h (pc := 49) (kf := 3) 3 (by decide +kernel) rfl) ?_
  refine zfmc (r_iconst h (pc := 50) (z := 1) (by decide +kernel) (1) (by decide +kernel)) ?_
  refine zfmc (r_iadd h (pc := 51) (by decide +kernel)) ?_
  refine zfmc (r_irem h (pc := 52) (by decide +kernel)) ?_
  refine zfmc (r_iadd h (pc := 53) (by decide +kernel)) ?_
  refine zfmc (r_istore h (pc := 54) 4 (by decide +kernel) (by decide +kernel)) ?_
  refine zfmc (r_aload_n h (pc := 56) (kf := 0) 0 (by decide +kernel) rfl) ?_
  refine zfmc (r_getf h (pc := 57) (ix := 27) (by decide +kernel) ckX14 8 (by decide) wk_fc6ff07b16) ?_
  refine zfmc (r_iload_n h (pc := 60) (kf := 2) 2 (by decide +kernel) rfl) ?_
  refine zfmc (r_iload_n h (pc := 61) (kf := 3) 3 (by decide +kernel) rfl) ?_
  refine zfmc (r_iadd h (pc := 62) (by decide +kernel)) ?_
  refine zfmc (r_iaload h (pc := 63) (by decide +kernel)) ?_
  refine zfmc (r_istore h (pc := 64) 5 (by decide +kernel) (by decide +kernel)) ?_
  refine zfmc (r_aload_n h (pc := 66) (kf := 0) 0 (by decide +kernel) rfl) ?_
  refine zfmc (r_getf h (pc := 67) (ix := 27) (by decide +kernel) ckX14 8 (by decide) wk_fc6ff07b16) ?_
  refine zfmc (r_iload_n h (pc := 70) (kf := 2) 2 (by decide +kernel) rfl) ?_
  refine zfmc (r_iload_n h (pc := 71) (kf := 3) 3 (by decide +kernel) rfl) ?_
  refine zfmc (r_iadd h (pc := 72) (by decide +kernel)) ?_
  refine zfmc (r_aload_n h (pc := 73) (kf := 0) 0 (by decide +kernel) rfl) ?_
  refine zfmc (r_getf h (pc := 74) (ix := 27) (by decide +kernel) ckX14 8 (by decide) wk_fc6ff07b16) ?_
  refine zfmc (r_iload h (pc := 77) 4 (by decide +kernel)) ?_
  refine zfmc (r_iaload h (pc := 79) (by decide +kernel)) ?_
  refine zfmc (r_iastore h (pc := 80) (by decide +kernel)) ?_
  refine zfmc (r_aload_n h (pc := 81) (kf := 0) 0 (by decide +kernel) rfl) ?_
  refine zfmc (r_getf h (pc := 82) (ix := 27) (by decide +kernel) ckX14 8 (by decide) wk_fc6ff07b16) ?_
  refine zfmc (r_iload h (pc := 85) 4 (by decide +kernel)) ?_
  refine zfmc (r_iload h (pc := 87) 5 (by decide +kernel)) ?_
  refine zfmc (r_iastore h (pc := 89) (by decide +kernel)) ?_
  refine zfmc (r_iinc h (pc := 90) 3 (z := -1) (by decide +kernel) (-1) (by decide +kernel) (by decide +kernel)) ?_
  refine zfmc (r_goto h (pc := 93) (off := -79) (by decide +kernel) 14 (by decide +kernel)) ?_
  refine zfmc (r_aload_n h (pc := 96) (kf := 0) 0 (by decide +kernel) rfl) ?_
  refine zfmc (r_getf h (pc := 97) (ix := 45) (by decide +kernel) ckX14 14 (by decide) wk_a8e6f6b3af) ?_
  refine zfmc (r_iload_n h (pc := 100) (kf := 1) 1 (by decide +kernel) rfl) ?_
  refine zfmc (r_dup2 h (pc := 101) (by decide +kernel)) ?_
  refine zfmc (r_iaload h (pc := 102) (by decide +kernel)) ?_
  refine zfmc (r_iconst h (pc := 103) (z := 1) (by decide +kernel) (1) (by decide +kernel)) ?_
  refine zfmc (r_iadd h (pc := 104) (by decide +kernel)) ?_
  refine zfmc (r_iastore h (pc := 105) (by decide +kernel)) ?_
  refine zfmc (r_return h (pc := 106) (by decide +kernel) rfl) ?_
  exact zfm0)
def tb_X14_shuffle (E : ZEX) (d mc ms : Nat) : List (Nat × ZStep) := [(0, s_aload 0 1), (1, s_getf 13 9 4), (4, s_iload 1 5), (5, s_iaload E 6), (6, s_if_ne 10 9), (9, s_return), (10, s_aload 0 11), (11, s_iload 1 12), (12, s_callV E d mc ms 13 MX14_mix 1 15), (15, s_aload 0 16), (16, s_getf 13 8 19), (19, s_const (.int (60)) 21), (21, s_iload 1 22), (22, s_imul 23), (23, s_aload 0 24), (24, s_getf 13 6 27), (27, s_const (.int (60)) 29), (29, s_iload 1 30), (30, s_imul 31), (31, s_aload 0 32), (32, s_getf 13 7 35), (35, s_iload 1 36), (36, s_iaload E 37), (37, s_iadd 38), (38, s_aload 0 39), (39, s_getf 13 9 42), (42, s_iload 1 43), (43, s_iaload E 44), (44, s_acopy E d 47), (47, s_aload 0 48), (48, s_getf 13 7 51), (51, s_iload 1 52), (52, s_dup2 53), (53, s_iaload E 54), (54, s_aload 0 55), (55, s_getf 13 9 58), (58, s_iload 1 59), (59, s_iaload E 60), (60, s_iadd 61), (61, s_iastore E 62), (62, s_aload 0 63), (63, s_getf 13 9 66), (66, s_iload 1 67), (67, s_const (.int (0)) 68), (68, s_iastore E 69), (69, s_return)]
set_option maxRecDepth 20000 in
theorem ok_X14_shuffle {E : ZEX} {X : ZMX} {d mc ms : Nat} {P : ZPT} {T : ZTT} (h : ZCX E X MX14_shuffle d mc ms P T) : ∀ pc, ZRow E X MX14_shuffle mc ms P T pc (ztb (tb_X14_shuffle E d mc ms) pc) := ztb_ok (by
  unfold tb_X14_shuffle
  refine zfmc (r_aload_n h (pc := 0) (kf := 0) 0 (by decide +kernel) rfl) ?_
  refine zfmc (r_getf h (pc := 1) (ix := 30) (by decide +kernel) ckX14 9 (by decide) wk_c1e5cfb904) ?_
  refine zfmc (r_iload_n h (pc := 4) (kf := 1) 1 (by decide +kernel) rfl) ?_
  refine zfmc (r_iaload h (pc := 5) (by decide +kernel)) ?_
  refine zfmc (r_if_ne h (pc := 6) (off := 4) (by decide +kernel) 10 (by decide +kernel)) ?_
  refine zfmc (r_return h (pc := 9) (by decide +kernel) rfl) ?_
  refine zfmc (r_aload_n h (pc := 10) (kf := 0) 0 (by decide +kernel) rfl) ?_
  refine zfmc (r_iload_n h (pc := 11) (kf := 1) 1 (by decide +kernel) rfl) ?_
  refine zfmc (r_callV h (pc := 12) (ix := 68) (by decide +kernel) ckX14 1 mcX14_mix wk_4eab6729ac wk_f835100b59 wk_10a856f049 rfl) ?_
  refine zfmc (r_aload_n h (pc := 15) (kf := 0) 0 (by decide +kernel) rfl) ?_
  refine zfmc (r_getf h (pc := 16) (ix := 27) (by decide +kernel) ckX14 8 (by decide) wk_fc6ff07b16) ?_
  refine zfmc (r_bipush h (pc := 19) (z := 60) (by decide +kernel) (60) (by decide +kernel)) ?_
  refine zfmc (r_iload_n h (pc := 21) (kf := 1) 1 (by decide +kernel) rfl) ?_
  refine zfmc (r_imul h (pc := 22) (by decide +kernel)) ?_
  refine zfmc (r_aload_n h (pc := 23) (kf := 0) 0 (by decide +kernel) rfl) ?_
  refine zfmc (r_getf h (pc := 24) (ix := 21) (by decide +kernel) ckX14 6 (by decide) wk_24f0260e7c) ?_
  refine zfmc (r_bipush h (pc := 27) (z := 60) (by decide +kernel) (60) (by decide +kernel)) ?_
  refine zfmc (r_iload_n h (pc := 29) (kf := 1) 1 (by decide +kernel) rfl) ?_
  refine zfmc (r_imul h (pc := 30) (by decide +kernel)) ?_
  refine zfmc (r_aload_n h (pc := 31) (kf := 0) 0 (by decide +kernel) rfl) ?_
  refine zfmc (r_getf h (pc := 32) (ix := 24) (by decide +kernel) ckX14 7 (by decide) wk_7e53b7018f) ?_
  refine zfmc (r_iload_n h (pc := 35) (kf := 1) 1 (by decide +kernel) rfl) ?_
  refine zfmc (r_iaload h (pc := 36) (by decide +kernel)) ?_
  refine zfmc (r_iadd h (pc := 37) (by decide +kernel)) ?_
  refine zfmc (r_aload_n h (pc := 38) (kf := 0) 0 (by decide +kernel) rfl) ?_
  refine zfmc (r_getf h (pc := 39) (ix := 30) (by decide +kernel) ckX14 9 (by decide) wk_c1e5cfb904) ?_
  refine zfmc (r_iload_n h (pc := 42) (kf := 1) 1 (by decide +kernel) rfl) ?_
  refine zfmc (r_iaload h (pc := 43) (by decide +kernel)) ?_
  refine zfmc (r_acopy h (pc := 44) (ix := 48) (by decide +kernel) wk_d468e61953 wk_14aeafd7f0 wk_410e289dfd wk_c7b251dcc4) ?_
  refine zfmc (r_aload_n h (pc := 47) (kf := 0) 0 (by decide +kernel) rfl) ?_
  refine zfmc (r_getf h (pc := 48) (ix := 24) (by decide +kernel) ckX14 7 (by decide) wk_7e53b7018f) ?_
  refine zfmc (r_iload_n h (pc := 51) (kf := 1) 1 (by decide +kernel) rfl) ?_
  refine zfmc (r_dup2 h (pc := 52) (by decide +kernel)) ?_
  refine zfmc (r_iaload h (pc := 53) (by decide +kernel)) ?_
  refine zfmc (r_aload_n h (pc := 54) (kf := 0) 0 (by decide +kernel) rfl) ?_
  refine zfmc (r_getf h (pc := 55) (ix := 30) (by decide +kernel) ckX14 9 (by decide) wk_c1e5cfb904) ?_
  refine zfmc (r_iload_n h (pc := 58) (kf := 1) 1 (by decide +kernel) rfl) ?_
  refine zfmc (r_iaload h (pc := 59) (by decide +kernel)) ?_
  refine zfmc (r_iadd h (pc := 60) (by decide +kernel)) ?_
  refine zfmc (r_iastore h (pc := 61) (by decide +kernel)) ?_
  refine zfmc (r_aload_n h (pc := 62) (kf := 0) 0 (by decide +kernel) rfl) ?_
  refine zfmc (r_getf h (pc := 63) (ix := 30) (by decide +kernel) ckX14 9 (by decide) wk_c1e5cfb904) ?_
  refine zfmc (r_iload_n h (pc := 66) (kf := 1) 1 (by decide +kernel) rfl) ?_
  refine zfmc (r_iconst h (pc := 67) (z := 0) (by decide +kernel) (0) (by decide +kernel)) ?_
  refine zfmc (r_iastore h (pc := 68) (by decide +kernel)) ?_
  refine zfmc (r_return h (pc := 69) (by decide +kernel) rfl) ?_
  exact zfm0)
def tb_X14_draw (E : ZEX) (d mc ms : Nat) : List (Nat × ZStep) := [(0, s_aload 0 1), (1, s_getf 13 7 4), (4, s_iload 1 5), (5, s_iaload E 6), (6, s_if_ne 14 9), (9, s_aload 0 10), (10, s_iload 1 11), (11, s_callV E d mc ms 13 MX14_shuffle 1 14), (14, s_aload 0 15), (15, s_getf 13 7 18), (18, s_iload 1 19), (19, s_iaload E 20), (20, s_if_ne 25 23), (23, s_const (.int (-1)) 24), (24, s_ireturn), (25, s_aload 0 26), (26, s_getf 13 6 29), (29, s_const (.int (60)) 31), (31, s_iload 1 32), (32, s_imul 33), (33, s_iaload E 34), (34, s_istore 2 35), (35, s_aload 0 36), (36, s_getf 13 7 39), (39, s_iload 1 40), (40, s_dup2 41), (41, s_iaload E 42), (42, s_const (.int (1)) 43), (43, s_isub 44), (44, s_iastore E 45), (45, s_aload 0 46), (46, s_getf 13 6 49), (49, s_const (.int (60)) 51), (51, s_iload 1 52), (52, s_imul 53), (53, s_const (.int (1)) 54), (54, s_iadd 55), (55, s_aload 0 56), (56, s_getf 13 6 59), (59, s_const (.int (60)) 61), (61, s_iload 1 62), (62, s_imul 63), (63, s_aload 0 64), (64, s_getf 13 7 67), (67, s_iload 1 68), (68, s_iaload E 69), (69, s_acopy E d 72), (72, s_iload 2 73), (73, s_ireturn)]
set_option maxRecDepth 20000 in
theorem ok_X14_draw {E : ZEX} {X : ZMX} {d mc ms : Nat} {P : ZPT} {T : ZTT} (h : ZCX E X MX14_draw d mc ms P T) : ∀ pc, ZRow E X MX14_draw mc ms P T pc (ztb (tb_X14_draw E d mc ms) pc) := ztb_ok (by
  unfold tb_X14_draw
  refine zfmc (r_aload_n h (pc := 0) (kf := 0) 0 (by decide +kernel) rfl) ?_
  refine zfmc (r_getf h (pc := 1) (ix := 24) (by decide +kernel) ckX14 7 (by decide) wk_7e53b7018f) ?_
  refine zfmc (r_iload_n h (pc := 4) (kf := 1) 1 (by decide +kernel) rfl) ?_
  refine zfmc (r_iaload h (pc := 5) (by decide +kernel)) ?_
  refine zfmc (r_if_ne h (pc := 6) (off := 8) (by decide +kernel) 14 (by decide +kernel)) ?_
  refine zfmc (r_aload_n h (pc := 9) (kf := 0) 0 (by decide +kernel) rfl) ?_
  refine zfmc (r_iload_n h (pc := 10) (kf := 1) 1 (by decide +kernel) rfl) ?_
  refine zfmc (r_callV h (pc := 11) (ix := 72) (by decide +kernel) ckX14 1 mcX14_shuffle wk_0720a8419f wk_0fb5f356f9 wk_ec6d6501f0 rfl) ?_
  refine zfmc (r_aload_n h (pc := 14) (kf := 0) 0 (by decide +kernel) rfl) ?_
  refine zfmc (r_getf h (pc := 15) (ix := 24) (by decide +kernel) ckX14 7 (by decide) wk_7e53b7018f) ?_
  refine zfmc (r_iload_n h (pc := 18) (kf := 1) 1 (by decide +kernel) rfl) ?_
  refine zfmc (r_iaload h (pc := 19) (by decide +kernel)) ?_
  refine zfmc (r_if_ne h (pc := 20) (off := 5) (by decide +kernel) 25 (by decide +kernel)) ?_
  refine zfmc (r_iconst h (pc := 23) (z := -1) (by decide +kernel) (-1) (by decide +kernel)) ?_
  refine zfmc (r_ireturn h (pc := 24) (by decide +kernel) rfl) ?_
  refine zfmc (r_aload_n h (pc := 25) (kf := 0) 0 (by decide +kernel) rfl) ?_
  refine zfmc (r_getf h (pc := 26) (ix := 21) (by decide +kernel) ckX14 6 (by decide) wk_24f0260e7c) ?_
  refine zfmc (r_bipush h (pc := 29) (z := 60) (by decide +kernel) (60) (by decide +kernel)) ?_
  refine zfmc (r_iload_n h (pc := 31) (kf := 1) 1 (by decide +kernel) rfl) ?_
  refine zfmc (r_imul h (pc := 32) (by decide +kernel)) ?_
  refine zfmc (r_iaload h (pc := 33) (by decide +kernel)) ?_
  refine zfmc (r_istore_n h (pc := 34) (kf := 2) 2 (by decide +kernel) rfl (by decide +kernel)) ?_
  refine zfmc (r_aload_n h (pc := 35) (kf := 0) 0 (by decide +kernel) rfl) ?_
  refine zfmc (r_getf h (pc := 36) (ix := 24) (by decide +kernel) ckX14 7 (by decide) wk_7e53b7018f) ?_
  refine zfmc (r_iload_n h (pc := 39) (kf := 1) 1 (by decide +kernel) rfl) ?_
  refine zfmc (r_dup2 h (pc := 40) (by decide +kernel)) ?_
  refine zfmc (r_iaload h (pc := 41) (by decide +kernel)) ?_
  refine zfmc (r_iconst h (pc := 42) (z := 1) (by decide +kernel) (1) (by decide +kernel)) ?_
  refine zfmc (r_isub h (pc := 43) (by decide +kernel)) ?_
  refine zfmc (r_iastore h (pc := 44) (by decide +kernel)) ?_
  refine zfmc (r_aload_n h (pc := 45) (kf := 0) 0 (by decide +kernel) rfl) ?_
  refine zfmc (r_getf h (pc := 46) (ix := 21) (by decide +kernel) ckX14 6 (by decide) wk_24f0260e7c) ?_
  refine zfmc (r_bipush h (pc := 49) (z := 60) (by decide +kernel) (60) (by decide +kernel)) ?_
  refine zfmc (r_iload_n h (pc := 51) (kf := 1) 1 (by decide +kernel) rfl) ?_
  refine zfmc (r_imul h (pc := 52) (by decide +kernel)) ?_
  refine zfmc (r_iconst h (pc := 53) (z := 1) (by decide +kernel) (1) (by decide +kernel)) ?_
  refine zfmc (r_iadd h (pc := 54) (by decide +kernel)) ?_
  refine zfmc (r_aload_n h (pc := 55) (kf := 0) 0 (by decide +kernel) rfl) ?_
  refine zfmc (r_getf h (pc := 56) (ix := 21) (by decide +kernel) ckX14 6 (by decide) wk_24f0260e7c) ?_
  refine zfmc (r_bipush h (pc := 59) (z := 60) (by decide +kernel) (60) (by decide +kernel)) ?_
  refine zfmc (r_iload_n h (pc := 61) (kf := 1) 1 (by decide +kernel) rfl) ?_
  refine zfmc (r_imul h (pc := 62) (by decide +kernel)) ?_
  refine zfmc (r_aload_n h (pc := 63) (kf := 0) 0 (by decide +kernel) rfl) ?_
  refine zfmc (r_getf h (pc := 64) (ix := 24) (by decide +kernel) ckX14 7 (by decide) wk_7e53b7018f) ?_
  refine zfmc (r_iload_n h (pc := 67) (kf := 1) 1 (by decide +kernel) rfl) ?_
  refine zfmc (r_iaload h (pc := 68) (by decide +kernel)) ?_
  refine zfmc (r_acopy h (pc := 69) (ix := 48) (by decide +kernel) wk_d468e61953 wk_14aeafd7f0 wk_410e289dfd wk_c7b251dcc4) ?_
  refine zfmc (r_iload_n h (pc := 72) (kf := 2) 2 (by decide +kernel) rfl) ?_
  refine zfmc (r_ireturn h (pc := 73) (by decide +kernel) rfl) ?_
  exact zfm0)
def tb_X14_has (E : ZEX) (d mc ms : Nat) : List (Nat × ZStep) := [(0, s_const (.int (0)) 1), (1, s_istore 3 2), (2, s_const (.int (0)) 3), (3, s_istore 4 5), (5, s_iload 4 7), (7, s_aload 0 8), (8, s_getf 13 7 11), (11, s_iload 1 12), (12, s_iaload E 13), (13, s_icmp_ge 46 16), (16, s_iload 3 17), (17, s_aload 0 18), (18, s_getf 13 6 21), (21, s_const (.int (60)) 23), (23, s_iload 1 24), (24, s_imul 25), (25, s_iload 4 27), (27, s_iadd 28), (28, s_iaload E 29), (29, s_iload 2 30), (30, s_icmp_ne 37 33), (33, s_const (.int (1)) 34), (34, s_goto 38), (37, s_const (.int (0)) 38), (38, s_iadd 39), (39, s_istore 3 40), (40, s_iinc 4 (1) 43), (43, s_goto 5), (46, s_const (.int (0)) 47), (47, s_istore 4 49), (49, s_iload 4 51), (51, s_aload 0 52), (52, s_getf 13 9 55), (55, s_iload 1 56), (56, s_iaload E 57), (57, s_icmp_ge 90 60), (60, s_iload 3 61), (61, s_aload 0 62), (62, s_getf 13 8 65), (65, s_const (.int (60)) 67), (67, s_iload 1 68), (68, s_imul 69), (69, s_iload 4 71), (71, s_iadd 72), (72, s_iaload E 73), (73, s_iload 2 74), (74, s_icmp_ne 81 77), (77, s_const (.int (1)) 78), (78, s_goto 82), (81, s_const (.int (0)) 82), (82, s_iadd 83), (83, s_istore 3 84), (84, s_iinc 4 (1) 87), (87, s_goto 49), (90, s_iload 3 91), (91, s_ireturn)]
set_option maxRecDepth 20000 in
theorem ok_X14_has {E : ZEX} {X : ZMX} {d mc ms : Nat} {P : ZPT} {T : ZTT} (h : ZCX E X MX14_has d mc ms P T) : ∀ pc, ZRow E X MX14_has mc ms P T pc (ztb (tb_X14_has E d mc ms) pc) := ztb_ok (by
  unfold tb_X14_has
  refine zfmc (r_iconst h (pc := 0) (z := 0) (by decide +kernel) (0) (by decide +kernel)) ?_
  refine zfmc (r_istore_n h (pc := 1) (kf := 3) 3 (by decide +kernel) rfl (by decide +kernel)) ?_
  refine zfmc (r_iconst h (pc := 2) (z := 0) (by decide +kernel) (0) (by decide +kernel)) ?_
  refine zfmc (r_istore h (pc := 3) 4 (by decide +kernel) (by decide +kernel)) ?_
  refine zfmc (r_iload h (pc := 5) 4 (by decide +kernel)) ?_
  refine zfmc (r_aload_n h (pc := 7) (kf := 0) 0 (by decide +kernel) rfl) ?_
  refine zfmc (r_getf h (pc := 8) (ix := 24) (by decide +kernel) ckX14 7 (by decide) wk_7e53b7018f) ?_
  refine zfmc (r_iload_n h (pc := 11) (kf := 1) 1 (by decide +kernel) rfl) ?_
  refine zfmc (r_iaload h (pc := 12) (by decide +kernel)) ?_
  refine zfmc (r_icmp_ge h (pc := 13) (off := 33) (by decide +kernel) 46 (by decide +kernel)) ?_
  refine zfmc (r_iload_n h (pc := 16) (kf := 3) 3 (by decide +kernel) rfl) ?_
  refine zfmc (r_aload_n h (pc := 17) (kf := 0) 0 (by decide +kernel) rfl) ?_
  refine zfmc (r_getf h (pc := 18) (ix := 21) (by decide +kernel) ckX14 6 (by decide) wk_24f0260e7c) ?_
  refine zfmc (r_bipush h (pc := 21) (z := 60) (by decide +kernel) (60) (by decide +kernel)) ?_
  refine zfmc (r_iload_n h (pc := 23) (kf := 1) 1 (by decide +kernel) rfl) ?_
  refine zfmc (r_imul h (pc := 24) (by decide +kernel)) ?_
  refine zfmc (r_iload h (pc := 25) 4 (by decide +kernel)) ?_
  refine zfmc (r_iadd h (pc := 27) (by decide +kernel)) ?_
  refine zfmc (r_iaload h (pc := 28) (by decide +kernel)) ?_
  refine zfmc (r_iload_n h (pc := 29) (kf := 2) 2 (by decide +kernel) rfl) ?_
  refine zfmc (r_icmp_ne h (pc := 30) (off := 7) (by decide +kernel) 37 (by decide +kernel)) ?_
  refine zfmc (r_iconst h (pc := 33) (z := 1) (by decide +kernel) (1) (by decide +kernel)) ?_
  refine zfmc (r_goto h (pc := 34) (off := 4) (by decide +kernel) 38 (by decide +kernel)) ?_
  refine zfmc (r_iconst h (pc := 37) (z := 0) (by decide +kernel) (0) (by decide +kernel)) ?_
  refine zfmc (r_iadd h (pc := 38) (by decide +kernel)) ?_
  refine zfmc (r_istore_n h (pc := 39) (kf := 3) 3 (by decide +kernel) rfl (by decide +kernel)) ?_
  refine zfmc (r_iinc h (pc := 40) 4 (z := 1) (by decide +kernel) (1) (by decide +kernel) (by decide +kernel)) ?_
  refine zfmc (r_goto h (pc := 43) (off := -38) (by decide +kernel) 5 (by decide +kernel)) ?_
  refine zfmc (r_iconst h (pc := 46) (z := 0) (by decide +kernel) (0) (by decide +kernel)) ?_
  refine zfmc (r_istore h (pc := 47) 4 (by decide +kernel) (by decide +kernel)) ?_
  refine zfmc (r_iload h (pc := 49) 4 (by decide +kernel)) ?_
  refine zfmc (r_aload_n h (pc := 51) (kf := 0) 0 (by decide +kernel) rfl) ?_
  refine zfmc (r_getf h (pc := 52) (ix := 30) (by decide +kernel) ckX14 9 (by decide) wk_c1e5cfb904) ?_
  refine zfmc (r_iload_n h (pc := 55) (kf := 1) 1 (by decide +kernel) rfl) ?_
  refine zfmc (r_iaload h (pc := 56) (by decide +kernel)) ?_
  refine zfmc (r_icmp_ge h (pc := 57) (off := 33) (by decide +kernel) 90 (by decide +kernel)) ?_
  refine zfmc (r_iload_n h (pc := 60) (kf := 3) 3 (by decide +kernel) rfl) ?_
  refine zfmc (r_aload_n h (pc := 61) (kf := 0) 0 (by decide +kernel) rfl) ?_
  refine zfmc (r_getf h (pc := 62) (ix := 27) (by decide +kernel) ckX14 8 (by decide) wk_fc6ff07b16) ?_
  refine zfmc (r_bipush h (pc := 65) (z := 60) (by decide +kernel) (60) (by decide +kernel)) ?_
  refine zfmc (r_iload_n h (pc := 67) (kf := 1) 1 (by decide +kernel) rfl) ?_
  refine zfmc (r_imul h (pc := 68) (by decide +kernel)) ?_
  refine zfmc (r_iload h (pc := 69) 4 (by decide +kernel)) ?_
  refine zfmc (r_iadd h (pc := 71) (by decide +kernel)) ?_
  refine zfmc (r_iaload h (pc := 72) (by decide +kernel)) ?_
  refine zfmc (r_iload_n h (pc := 73) (kf := 2) 2 (by decide +kernel) rfl) ?_
  refine zfmc (r_icmp_ne h (pc := 74) (off := 7) (by decide +kernel) 81 (by decide +kernel)) ?_
  refine zfmc (r_iconst h (pc := 77) (z := 1) (by decide +kernel) (1) (by decide +kernel)) ?_
  refine zfmc (r_goto h (pc := 78) (off := 4) (by decide +kernel) 82 (by decide +kernel)) ?_
  refine zfmc (r_iconst h (pc := 81) (z := 0) (by decide +kernel) (0) (by decide +kernel)) ?_
  refine zfmc (r_iadd h (pc := 82) (by decide +kernel)) ?_
  refine zfmc (r_istore_n h (pc := 83) (kf := 3) 3 (by decide +kernel) rfl (by decide +kernel)) ?_
  refine zfmc (r_iinc h (pc := 84) 4 (z := 1) (by decide +kernel) (1) (by decide +kernel) (by decide +kernel)) ?_
  refine zfmc (r_goto h (pc := 87) (off := -38) (by decide +kernel) 49 (by decide +kernel)) ?_
  refine zfmc (r_iload_n h (pc := 90) (kf := 3) 3 (by decide +kernel) rfl) ?_
  refine zfmc (r_ireturn h (pc := 91) (by decide +kernel) rfl) ?_
  exact zfm0)
def tb_X14_all (E : ZEX) (d mc ms : Nat) : List (Nat × ZStep) := [(0, s_aload 0 1), (1, s_getf 13 7 4), (4, s_iload 1 5), (5, s_iaload E 6), (6, s_aload 0 7), (7, s_getf 13 9 10), (10, s_iload 1 11), (11, s_iaload E 12), (12, s_iadd 13), (13, s_ireturn)]
set_option maxRecDepth 20000 in
theorem ok_X14_all {E : ZEX} {X : ZMX} {d mc ms : Nat} {P : ZPT} {T : ZTT} (h : ZCX E X MX14_all d mc ms P T) : ∀ pc, ZRow E X MX14_all mc ms P T pc (ztb (tb_X14_all E d mc ms) pc) := ztb_ok (by
  unfold tb_X14_all
  refine zfmc (r_aload_n h (pc := 0) (kf := 0) 0 (by decide +kernel) rfl) ?_
  refine zfmc (r_getf h (pc := 1) (ix := 24) (by decide +kernel) ckX14 7 (by decide) wk_7e53b7018f) ?_
  refine zfmc (r_iload_n h (pc := 4) (kf := 1) 1 (by decide +kernel) rfl) ?_
  refine zfmc (r_iaload h (pc := 5) (by decide +kernel)) ?_
  refine zfmc (r_aload_n h (pc := 6) (kf := 0) 0 (by decide +kernel) rfl) ?_
  refine zfmc (r_getf h (pc := 7) (ix := 30) (by decide +kernel) ckX14 9 (by decide) wk_c1e5cfb904) ?_
  refine zfmc (r_iload_n h (pc := 10) (kf := 1) 1 (by decide +kernel) rfl) ?_
  refine zfmc (r_iaload h (pc := 11) (by decide +kernel)) ?_
  refine zfmc (r_iadd h (pc := 12) (by decide +kernel)) ?_
  refine zfmc (r_ireturn h (pc := 13) (by decide +kernel) rfl) ?_
  exact zfm0)
section
variable {E : ZEX} {d mc ms : Nat} {cut : Nat → Bool} {G : ZCont} {R : ZRtn} {T : ZTT} {Z : Nat → ZCont}
theorem f_X13_init_0 (hZ : ZRN (ztb (tb_X13_init E d mc ms)) cut G R T Z) (f : Nat) (L : ZLV) (st : List Value) (σ : ZHp) (n k w : Nat) : Z (f + 1) 0 L st σ n k w = s_aload 0 1 L st σ n k w (zk1 cut G (Z f)) G R T := zrs hZ rfl f L st σ n k w
theorem f_X13_init_1 (hZ : ZRN (ztb (tb_X13_init E d mc ms)) cut G R T Z) (f : Nat) (L : ZLV) (st : List Value) (σ : ZHp) (n k w : Nat) : Z (f + 1) 1 L st σ n k w = s_objinit d 4 L st σ n k w (zk1 cut G (Z f)) G R T := zrs hZ rfl f L st σ n k w
theorem f_X13_init_4 (hZ : ZRN (ztb (tb_X13_init E d mc ms)) cut G R T Z) (f : Nat) (L : ZLV) (st : List Value) (σ : ZHp) (n k w : Nat) : Z (f + 1) 4 L st σ n k w = s_aload 0 5 L st σ n k w (zk1 cut G (Z f)) G R T := zrs hZ rfl f L st σ n k w
theorem f_X13_init_5 (hZ : ZRN (ztb (tb_X13_init E d mc ms)) cut G R T Z) (f : Nat) (L : ZLV) (st : List Value) (σ : ZHp) (n k w : Nat) : Z (f + 1) 5 L st σ n k w = s_const (.int (401)) 8 L st σ n k w (zk1 cut G (Z f)) G R T := zrs hZ rfl f L st σ n k w
theorem f_X13_init_8 (hZ : ZRN (ztb (tb_X13_init E d mc ms)) cut G R T Z) (f : Nat) (L : ZLV) (st : List Value) (σ : ZHp) (n k w : Nat) : Z (f + 1) 8 L st σ n k w = s_newI E mc ms 10 L st σ n k w (zk1 cut G (Z f)) G R T := zrs hZ rfl f L st σ n k w
theorem f_X13_init_10 (hZ : ZRN (ztb (tb_X13_init E d mc ms)) cut G R T Z) (f : Nat) (L : ZLV) (st : List Value) (σ : ZHp) (n k w : Nat) : Z (f + 1) 10 L st σ n k w = s_putf 12 0 3 13 L st σ n k w (zk1 cut G (Z f)) G R T := zrs hZ rfl f L st σ n k w
theorem f_X13_init_13 (hZ : ZRN (ztb (tb_X13_init E d mc ms)) cut G R T Z) (f : Nat) (L : ZLV) (st : List Value) (σ : ZHp) (n k w : Nat) : Z (f + 1) 13 L st σ n k w = s_aload 0 14 L st σ n k w (zk1 cut G (Z f)) G R T := zrs hZ rfl f L st σ n k w
theorem f_X13_init_14 (hZ : ZRN (ztb (tb_X13_init E d mc ms)) cut G R T Z) (f : Nat) (L : ZLV) (st : List Value) (σ : ZHp) (n k w : Nat) : Z (f + 1) 14 L st σ n k w = s_const (.int (401)) 17 L st σ n k w (zk1 cut G (Z f)) G R T := zrs hZ rfl f L st σ n k w
theorem f_X13_init_17 (hZ : ZRN (ztb (tb_X13_init E d mc ms)) cut G R T Z) (f : Nat) (L : ZLV) (st : List Value) (σ : ZHp) (n k w : Nat) : Z (f + 1) 17 L st σ n k w = s_newI E mc ms 19 L st σ n k w (zk1 cut G (Z f)) G R T := zrs hZ rfl f L st σ n k w
theorem f_X13_init_19 (hZ : ZRN (ztb (tb_X13_init E d mc ms)) cut G R T Z) (f : Nat) (L : ZLV) (st : List Value) (σ : ZHp) (n k w : Nat) : Z (f + 1) 19 L st σ n k w = s_putf 12 1 3 22 L st σ n k w (zk1 cut G (Z f)) G R T := zrs hZ rfl f L st σ n k w
theorem f_X13_init_22 (hZ : ZRN (ztb (tb_X13_init E d mc ms)) cut G R T Z) (f : Nat) (L : ZLV) (st : List Value) (σ : ZHp) (n k w : Nat) : Z (f + 1) 22 L st σ n k w = s_aload 0 23 L st σ n k w (zk1 cut G (Z f)) G R T := zrs hZ rfl f L st σ n k w
theorem f_X13_init_23 (hZ : ZRN (ztb (tb_X13_init E d mc ms)) cut G R T Z) (f : Nat) (L : ZLV) (st : List Value) (σ : ZHp) (n k w : Nat) : Z (f + 1) 23 L st σ n k w = s_const (.int (401)) 26 L st σ n k w (zk1 cut G (Z f)) G R T := zrs hZ rfl f L st σ n k w
theorem f_X13_init_26 (hZ : ZRN (ztb (tb_X13_init E d mc ms)) cut G R T Z) (f : Nat) (L : ZLV) (st : List Value) (σ : ZHp) (n k w : Nat) : Z (f + 1) 26 L st σ n k w = s_newI E mc ms 28 L st σ n k w (zk1 cut G (Z f)) G R T := zrs hZ rfl f L st σ n k w
theorem f_X13_init_28 (hZ : ZRN (ztb (tb_X13_init E d mc ms)) cut G R T Z) (f : Nat) (L : ZLV) (st : List Value) (σ : ZHp) (n k w : Nat) : Z (f + 1) 28 L st σ n k w = s_putf 12 2 3 31 L st σ n k w (zk1 cut G (Z f)) G R T := zrs hZ rfl f L st σ n k w
theorem f_X13_init_31 (hZ : ZRN (ztb (tb_X13_init E d mc ms)) cut G R T Z) (f : Nat) (L : ZLV) (st : List Value) (σ : ZHp) (n k w : Nat) : Z (f + 1) 31 L st σ n k w = s_aload 0 32 L st σ n k w (zk1 cut G (Z f)) G R T := zrs hZ rfl f L st σ n k w
theorem f_X13_init_32 (hZ : ZRN (ztb (tb_X13_init E d mc ms)) cut G R T Z) (f : Nat) (L : ZLV) (st : List Value) (σ : ZHp) (n k w : Nat) : Z (f + 1) 32 L st σ n k w = s_const (.int (401)) 35 L st σ n k w (zk1 cut G (Z f)) G R T := zrs hZ rfl f L st σ n k w
theorem f_X13_init_35 (hZ : ZRN (ztb (tb_X13_init E d mc ms)) cut G R T Z) (f : Nat) (L : ZLV) (st : List Value) (σ : ZHp) (n k w : Nat) : Z (f + 1) 35 L st σ n k w = s_newI E mc ms 37 L st σ n k w (zk1 cut G (Z f)) G R T := zrs hZ rfl f L st σ n k w
theorem f_X13_init_37 (hZ : ZRN (ztb (tb_X13_init E d mc ms)) cut G R T Z) (f : Nat) (L : ZLV) (st : List Value) (σ : ZHp) (n k w : Nat) : Z (f + 1) 37 L st σ n k w = s_putf 12 3 3 40 L st σ n k w (zk1 cut G (Z f)) G R T := zrs hZ rfl f L st σ n k w
theorem f_X13_init_40 (hZ : ZRN (ztb (tb_X13_init E d mc ms)) cut G R T Z) (f : Nat) (L : ZLV) (st : List Value) (σ : ZHp) (n k w : Nat) : Z (f + 1) 40 L st σ n k w = s_aload 0 41 L st σ n k w (zk1 cut G (Z f)) G R T := zrs hZ rfl f L st σ n k w
theorem f_X13_init_41 (hZ : ZRN (ztb (tb_X13_init E d mc ms)) cut G R T Z) (f : Nat) (L : ZLV) (st : List Value) (σ : ZHp) (n k w : Nat) : Z (f + 1) 41 L st σ n k w = s_const (.int (401)) 44 L st σ n k w (zk1 cut G (Z f)) G R T := zrs hZ rfl f L st σ n k w
theorem f_X13_init_44 (hZ : ZRN (ztb (tb_X13_init E d mc ms)) cut G R T Z) (f : Nat) (L : ZLV) (st : List Value) (σ : ZHp) (n k w : Nat) : Z (f + 1) 44 L st σ n k w = s_newI E mc ms 46 L st σ n k w (zk1 cut G (Z f)) G R T := zrs hZ rfl f L st σ n k w
theorem f_X13_init_46 (hZ : ZRN (ztb (tb_X13_init E d mc ms)) cut G R T Z) (f : Nat) (L : ZLV) (st : List Value) (σ : ZHp) (n k w : Nat) : Z (f + 1) 46 L st σ n k w = s_putf 12 4 3 49 L st σ n k w (zk1 cut G (Z f)) G R T := zrs hZ rfl f L st σ n k w
theorem f_X13_init_49 (hZ : ZRN (ztb (tb_X13_init E d mc ms)) cut G R T Z) (f : Nat) (L : ZLV) (st : List Value) (σ : ZHp) (n k w : Nat) : Z (f + 1) 49 L st σ n k w = s_aload 0 50 L st σ n k w (zk1 cut G (Z f)) G R T := zrs hZ rfl f L st σ n k w
theorem f_X13_init_50 (hZ : ZRN (ztb (tb_X13_init E d mc ms)) cut G R T Z) (f : Nat) (L : ZLV) (st : List Value) (σ : ZHp) (n k w : Nat) : Z (f + 1) 50 L st σ n k w = s_const (.int (10)) 52 L st σ n k w (zk1 cut G (Z f)) G R T := zrs hZ rfl f L st σ n k w
theorem f_X13_init_52 (hZ : ZRN (ztb (tb_X13_init E d mc ms)) cut G R T Z) (f : Nat) (L : ZLV) (st : List Value) (σ : ZHp) (n k w : Nat) : Z (f + 1) 52 L st σ n k w = s_newI E mc ms 54 L st σ n k w (zk1 cut G (Z f)) G R T := zrs hZ rfl f L st σ n k w
theorem f_X13_init_54 (hZ : ZRN (ztb (tb_X13_init E d mc ms)) cut G R T Z) (f : Nat) (L : ZLV) (st : List Value) (σ : ZHp) (n k w : Nat) : Z (f + 1) 54 L st σ n k w = s_putf 12 6 3 57 L st σ n k w (zk1 cut G (Z f)) G R T := zrs hZ rfl f L st σ n k w
theorem f_X13_init_57 (hZ : ZRN (ztb (tb_X13_init E d mc ms)) cut G R T Z) (f : Nat) (L : ZLV) (st : List Value) (σ : ZHp) (n k w : Nat) : Z (f + 1) 57 L st σ n k w = s_aload 0 58 L st σ n k w (zk1 cut G (Z f)) G R T := zrs hZ rfl f L st σ n k w
theorem f_X13_init_58 (hZ : ZRN (ztb (tb_X13_init E d mc ms)) cut G R T Z) (f : Nat) (L : ZLV) (st : List Value) (σ : ZHp) (n k w : Nat) : Z (f + 1) 58 L st σ n k w = s_const (.int (10)) 60 L st σ n k w (zk1 cut G (Z f)) G R T := zrs hZ rfl f L st σ n k w
theorem f_X13_init_60 (hZ : ZRN (ztb (tb_X13_init E d mc ms)) cut G R T Z) (f : Nat) (L : ZLV) (st : List Value) (σ : ZHp) (n k w : Nat) : Z (f + 1) 60 L st σ n k w = s_newI E mc ms 62 L st σ n k w (zk1 cut G (Z f)) G R T := zrs hZ rfl f L st σ n k w
theorem f_X13_init_62 (hZ : ZRN (ztb (tb_X13_init E d mc ms)) cut G R T Z) (f : Nat) (L : ZLV) (st : List Value) (σ : ZHp) (n k w : Nat) : Z (f + 1) 62 L st σ n k w = s_putf 12 7 3 65 L st σ n k w (zk1 cut G (Z f)) G R T := zrs hZ rfl f L st σ n k w
theorem f_X13_init_65 (hZ : ZRN (ztb (tb_X13_init E d mc ms)) cut G R T Z) (f : Nat) (L : ZLV) (st : List Value) (σ : ZHp) (n k w : Nat) : Z (f + 1) 65 L st σ n k w = s_aload 0 66 L st σ n k w (zk1 cut G (Z f)) G R T := zrs hZ rfl f L st σ n k w
theorem f_X13_init_66 (hZ : ZRN (ztb (tb_X13_init E d mc ms)) cut G R T Z) (f : Nat) (L : ZLV) (st : List Value) (σ : ZHp) (n k w : Nat) : Z (f + 1) 66 L st σ n k w = s_const (.int (10)) 68 L st σ n k w (zk1 cut G (Z f)) G R T := zrs hZ rfl f L st σ n k w
theorem f_X13_init_68 (hZ : ZRN (ztb (tb_X13_init E d mc ms)) cut G R T Z) (f : Nat) (L : ZLV) (st : List Value) (σ : ZHp) (n k w : Nat) : Z (f + 1) 68 L st σ n k w = s_newI E mc ms 70 L st σ n k w (zk1 cut G (Z f)) G R T := zrs hZ rfl f L st σ n k w
theorem f_X13_init_70 (hZ : ZRN (ztb (tb_X13_init E d mc ms)) cut G R T Z) (f : Nat) (L : ZLV) (st : List Value) (σ : ZHp) (n k w : Nat) : Z (f + 1) 70 L st σ n k w = s_putf 12 8 3 73 L st σ n k w (zk1 cut G (Z f)) G R T := zrs hZ rfl f L st σ n k w
theorem f_X13_init_73 (hZ : ZRN (ztb (tb_X13_init E d mc ms)) cut G R T Z) (f : Nat) (L : ZLV) (st : List Value) (σ : ZHp) (n k w : Nat) : Z (f + 1) 73 L st σ n k w = s_aload 0 74 L st σ n k w (zk1 cut G (Z f)) G R T := zrs hZ rfl f L st σ n k w
theorem f_X13_init_74 (hZ : ZRN (ztb (tb_X13_init E d mc ms)) cut G R T Z) (f : Nat) (L : ZLV) (st : List Value) (σ : ZHp) (n k w : Nat) : Z (f + 1) 74 L st σ n k w = s_const (.int (10)) 76 L st σ n k w (zk1 cut G (Z f)) G R T := zrs hZ rfl f L st σ n k w
theorem f_X13_init_76 (hZ : ZRN (ztb (tb_X13_init E d mc ms)) cut G R T Z) (f : Nat) (L : ZLV) (st : List Value) (σ : ZHp) (n k w : Nat) : Z (f + 1) 76 L st σ n k w = s_newI E mc ms 78 L st σ n k w (zk1 cut G (Z f)) G R T := zrs hZ rfl f L st σ n k w
theorem f_X13_init_78 (hZ : ZRN (ztb (tb_X13_init E d mc ms)) cut G R T Z) (f : Nat) (L : ZLV) (st : List Value) (σ : ZHp) (n k w : Nat) : Z (f + 1) 78 L st σ n k w = s_putf 12 9 3 81 L st σ n k w (zk1 cut G (Z f)) G R T := zrs hZ rfl f L st σ n k w
theorem f_X13_init_81 (hZ : ZRN (ztb (tb_X13_init E d mc ms)) cut G R T Z) (f : Nat) (L : ZLV) (st : List Value) (σ : ZHp) (n k w : Nat) : Z (f + 1) 81 L st σ n k w = s_aload 0 82 L st σ n k w (zk1 cut G (Z f)) G R T := zrs hZ rfl f L st σ n k w
theorem f_X13_init_82 (hZ : ZRN (ztb (tb_X13_init E d mc ms)) cut G R T Z) (f : Nat) (L : ZLV) (st : List Value) (σ : ZHp) (n k w : Nat) : Z (f + 1) 82 L st σ n k w = s_const (.int (10)) 84 L st σ n k w (zk1 cut G (Z f)) G R T := zrs hZ rfl f L st σ n k w
theorem f_X13_init_84 (hZ : ZRN (ztb (tb_X13_init E d mc ms)) cut G R T Z) (f : Nat) (L : ZLV) (st : List Value) (σ : ZHp) (n k w : Nat) : Z (f + 1) 84 L st σ n k w = s_newI E mc ms 86 L st σ n k w (zk1 cut G (Z f)) G R T := zrs hZ rfl f L st σ n k w
theorem f_X13_init_86 (hZ : ZRN (ztb (tb_X13_init E d mc ms)) cut G R T Z) (f : Nat) (L : ZLV) (st : List Value) (σ : ZHp) (n k w : Nat) : Z (f + 1) 86 L st σ n k w = s_putf 12 10 3 89 L st σ n k w (zk1 cut G (Z f)) G R T := zrs hZ rfl f L st σ n k w
theorem f_X13_init_89 (hZ : ZRN (ztb (tb_X13_init E d mc ms)) cut G R T Z) (f : Nat) (L : ZLV) (st : List Value) (σ : ZHp) (n k w : Nat) : Z (f + 1) 89 L st σ n k w = s_aload 0 90 L st σ n k w (zk1 cut G (Z f)) G R T := zrs hZ rfl f L st σ n k w
theorem f_X13_init_90 (hZ : ZRN (ztb (tb_X13_init E d mc ms)) cut G R T Z) (f : Nat) (L : ZLV) (st : List Value) (σ : ZHp) (n k w : Nat) : Z (f + 1) 90 L st σ n k w = s_const (.int (40)) 92 L st σ n k w (zk1 cut G (Z f)) G R T := zrs hZ rfl f L st σ n k w
theorem f_X13_init_92 (hZ : ZRN (ztb (tb_X13_init E d mc ms)) cut G R T Z) (f : Nat) (L : ZLV) (st : List Value) (σ : ZHp) (n k w : Nat) : Z (f + 1) 92 L st σ n k w = s_newI E mc ms 94 L st σ n k w (zk1 cut G (Z f)) G R T := zrs hZ rfl f L st σ n k w
theorem f_X13_init_94 (hZ : ZRN (ztb (tb_X13_init E d mc ms)) cut G R T Z) (f : Nat) (L : ZLV) (st : List Value) (σ : ZHp) (n k w : Nat) : Z (f + 1) 94 L st σ n k w = s_putf 12 11 3 97 L st σ n k w (zk1 cut G (Z f)) G R T := zrs hZ rfl f L st σ n k w
theorem f_X13_init_97 (hZ : ZRN (ztb (tb_X13_init E d mc ms)) cut G R T Z) (f : Nat) (L : ZLV) (st : List Value) (σ : ZHp) (n k w : Nat) : Z (f + 1) 97 L st σ n k w = s_aload 0 98 L st σ n k w (zk1 cut G (Z f)) G R T := zrs hZ rfl f L st σ n k w
theorem f_X13_init_98 (hZ : ZRN (ztb (tb_X13_init E d mc ms)) cut G R T Z) (f : Nat) (L : ZLV) (st : List Value) (σ : ZHp) (n k w : Nat) : Z (f + 1) 98 L st σ n k w = s_const (.int (4)) 99 L st σ n k w (zk1 cut G (Z f)) G R T := zrs hZ rfl f L st σ n k w
theorem f_X13_init_99 (hZ : ZRN (ztb (tb_X13_init E d mc ms)) cut G R T Z) (f : Nat) (L : ZLV) (st : List Value) (σ : ZHp) (n k w : Nat) : Z (f + 1) 99 L st σ n k w = s_newI E mc ms 101 L st σ n k w (zk1 cut G (Z f)) G R T := zrs hZ rfl f L st σ n k w
theorem f_X13_init_101 (hZ : ZRN (ztb (tb_X13_init E d mc ms)) cut G R T Z) (f : Nat) (L : ZLV) (st : List Value) (σ : ZHp) (n k w : Nat) : Z (f + 1) 101 L st σ n k w = s_putf 12 13 3 104 L st σ n k w (zk1 cut G (Z f)) G R T := zrs hZ rfl f L st σ n k w
theorem f_X13_init_104 (hZ : ZRN (ztb (tb_X13_init E d mc ms)) cut G R T Z) (f : Nat) (L : ZLV) (st : List Value) (σ : ZHp) (n k w : Nat) : Z (f + 1) 104 L st σ n k w = s_aload 0 105 L st σ n k w (zk1 cut G (Z f)) G R T := zrs hZ rfl f L st σ n k w
theorem f_X13_init_105 (hZ : ZRN (ztb (tb_X13_init E d mc ms)) cut G R T Z) (f : Nat) (L : ZLV) (st : List Value) (σ : ZHp) (n k w : Nat) : Z (f + 1) 105 L st σ n k w = s_const (.int (20)) 107 L st σ n k w (zk1 cut G (Z f)) G R T := zrs hZ rfl f L st σ n k w
theorem f_X13_init_107 (hZ : ZRN (ztb (tb_X13_init E d mc ms)) cut G R T Z) (f : Nat) (L : ZLV) (st : List Value) (σ : ZHp) (n k w : Nat) : Z (f + 1) 107 L st σ n k w = s_newI E mc ms 109 L st σ n k w (zk1 cut G (Z f)) G R T := zrs hZ rfl f L st σ n k w
theorem f_X13_init_109 (hZ : ZRN (ztb (tb_X13_init E d mc ms)) cut G R T Z) (f : Nat) (L : ZLV) (st : List Value) (σ : ZHp) (n k w : Nat) : Z (f + 1) 109 L st σ n k w = s_putf 12 15 3 112 L st σ n k w (zk1 cut G (Z f)) G R T := zrs hZ rfl f L st σ n k w
theorem f_X13_init_112 (hZ : ZRN (ztb (tb_X13_init E d mc ms)) cut G R T Z) (f : Nat) (L : ZLV) (st : List Value) (σ : ZHp) (n k w : Nat) : Z (f + 1) 112 L st σ n k w = s_aload 0 113 L st σ n k w (zk1 cut G (Z f)) G R T := zrs hZ rfl f L st σ n k w
theorem f_X13_init_113 (hZ : ZRN (ztb (tb_X13_init E d mc ms)) cut G R T Z) (f : Nat) (L : ZLV) (st : List Value) (σ : ZHp) (n k w : Nat) : Z (f + 1) 113 L st σ n k w = s_const (.int (16)) 115 L st σ n k w (zk1 cut G (Z f)) G R T := zrs hZ rfl f L st σ n k w
theorem f_X13_init_115 (hZ : ZRN (ztb (tb_X13_init E d mc ms)) cut G R T Z) (f : Nat) (L : ZLV) (st : List Value) (σ : ZHp) (n k w : Nat) : Z (f + 1) 115 L st σ n k w = s_newI E mc ms 117 L st σ n k w (zk1 cut G (Z f)) G R T := zrs hZ rfl f L st σ n k w
theorem f_X13_init_117 (hZ : ZRN (ztb (tb_X13_init E d mc ms)) cut G R T Z) (f : Nat) (L : ZLV) (st : List Value) (σ : ZHp) (n k w : Nat) : Z (f + 1) 117 L st σ n k w = s_putf 12 17 3 120 L st σ n k w (zk1 cut G (Z f)) G R T := zrs hZ rfl f L st σ n k w
theorem f_X13_init_120 (hZ : ZRN (ztb (tb_X13_init E d mc ms)) cut G R T Z) (f : Nat) (L : ZLV) (st : List Value) (σ : ZHp) (n k w : Nat) : Z (f + 1) 120 L st σ n k w = s_aload 0 121 L st σ n k w (zk1 cut G (Z f)) G R T := zrs hZ rfl f L st σ n k w
theorem f_X13_init_121 (hZ : ZRN (ztb (tb_X13_init E d mc ms)) cut G R T Z) (f : Nat) (L : ZLV) (st : List Value) (σ : ZHp) (n k w : Nat) : Z (f + 1) 121 L st σ n k w = s_const (.int (16)) 123 L st σ n k w (zk1 cut G (Z f)) G R T := zrs hZ rfl f L st σ n k w
theorem f_X13_init_123 (hZ : ZRN (ztb (tb_X13_init E d mc ms)) cut G R T Z) (f : Nat) (L : ZLV) (st : List Value) (σ : ZHp) (n k w : Nat) : Z (f + 1) 123 L st σ n k w = s_newI E mc ms 125 L st σ n k w (zk1 cut G (Z f)) G R T := zrs hZ rfl f L st σ n k w
theorem f_X13_init_125 (hZ : ZRN (ztb (tb_X13_init E d mc ms)) cut G R T Z) (f : Nat) (L : ZLV) (st : List Value) (σ : ZHp) (n k w : Nat) : Z (f + 1) 125 L st σ n k w = s_putf 12 18 3 128 L st σ n k w (zk1 cut G (Z f)) G R T := zrs hZ rfl f L st σ n k w
theorem f_X13_init_128 (hZ : ZRN (ztb (tb_X13_init E d mc ms)) cut G R T Z) (f : Nat) (L : ZLV) (st : List Value) (σ : ZHp) (n k w : Nat) : Z (f + 1) 128 L st σ n k w = s_aload 0 129 L st σ n k w (zk1 cut G (Z f)) G R T := zrs hZ rfl f L st σ n k w
theorem f_X13_init_129 (hZ : ZRN (ztb (tb_X13_init E d mc ms)) cut G R T Z) (f : Nat) (L : ZLV) (st : List Value) (σ : ZHp) (n k w : Nat) : Z (f + 1) 129 L st σ n k w = s_const (.int (16)) 131 L st σ n k w (zk1 cut G (Z f)) G R T := zrs hZ rfl f L st σ n k w
theorem f_X13_init_131 (hZ : ZRN (ztb (tb_X13_init E d mc ms)) cut G R T Z) (f : Nat) (L : ZLV) (st : List Value) (σ : ZHp) (n k w : Nat) : Z (f + 1) 131 L st σ n k w = s_newI E mc ms 133 L st σ n k w (zk1 cut G (Z f)) G R T := zrs hZ rfl f L st σ n k w
theorem f_X13_init_133 (hZ : ZRN (ztb (tb_X13_init E d mc ms)) cut G R T Z) (f : Nat) (L : ZLV) (st : List Value) (σ : ZHp) (n k w : Nat) : Z (f + 1) 133 L st σ n k w = s_putf 12 19 3 136 L st σ n k w (zk1 cut G (Z f)) G R T := zrs hZ rfl f L st σ n k w
theorem f_X13_init_136 (hZ : ZRN (ztb (tb_X13_init E d mc ms)) cut G R T Z) (f : Nat) (L : ZLV) (st : List Value) (σ : ZHp) (n k w : Nat) : Z (f + 1) 136 L st σ n k w = s_return L st σ n k w (zk1 cut G (Z f)) G R T := zrs hZ rfl f L st σ n k w
theorem f_X14_init_0 (hZ : ZRN (ztb (tb_X14_init E d mc ms)) cut G R T Z) (f : Nat) (L : ZLV) (st : List Value) (σ : ZHp) (n k w : Nat) : Z (f + 1) 0 L st σ n k w = s_aload 0 1 L st σ n k w (zk1 cut G (Z f)) G R T := zrs hZ rfl f L st σ n k w
theorem f_X14_init_1 (hZ : ZRN (ztb (tb_X14_init E d mc ms)) cut G R T Z) (f : Nat) (L : ZLV) (st : List Value) (σ : ZHp) (n k w : Nat) : Z (f + 1) 1 L st σ n k w = s_objinit d 4 L st σ n k w (zk1 cut G (Z f)) G R T := zrs hZ rfl f L st σ n k w
theorem f_X14_init_4 (hZ : ZRN (ztb (tb_X14_init E d mc ms)) cut G R T Z) (f : Nat) (L : ZLV) (st : List Value) (σ : ZHp) (n k w : Nat) : Z (f + 1) 4 L st σ n k w = s_aload 0 5 L st σ n k w (zk1 cut G (Z f)) G R T := zrs hZ rfl f L st σ n k w
theorem f_X14_init_5 (hZ : ZRN (ztb (tb_X14_init E d mc ms)) cut G R T Z) (f : Nat) (L : ZLV) (st : List Value) (σ : ZHp) (n k w : Nat) : Z (f + 1) 5 L st σ n k w = s_const (.int (10)) 7 L st σ n k w (zk1 cut G (Z f)) G R T := zrs hZ rfl f L st σ n k w
theorem f_X14_init_7 (hZ : ZRN (ztb (tb_X14_init E d mc ms)) cut G R T Z) (f : Nat) (L : ZLV) (st : List Value) (σ : ZHp) (n k w : Nat) : Z (f + 1) 7 L st σ n k w = s_newI E mc ms 9 L st σ n k w (zk1 cut G (Z f)) G R T := zrs hZ rfl f L st σ n k w
theorem f_X14_init_9 (hZ : ZRN (ztb (tb_X14_init E d mc ms)) cut G R T Z) (f : Nat) (L : ZLV) (st : List Value) (σ : ZHp) (n k w : Nat) : Z (f + 1) 9 L st σ n k w = s_putf 13 3 3 12 L st σ n k w (zk1 cut G (Z f)) G R T := zrs hZ rfl f L st σ n k w
theorem f_X14_init_12 (hZ : ZRN (ztb (tb_X14_init E d mc ms)) cut G R T Z) (f : Nat) (L : ZLV) (st : List Value) (σ : ZHp) (n k w : Nat) : Z (f + 1) 12 L st σ n k w = s_aload 0 13 L st σ n k w (zk1 cut G (Z f)) G R T := zrs hZ rfl f L st σ n k w
theorem f_X14_init_13 (hZ : ZRN (ztb (tb_X14_init E d mc ms)) cut G R T Z) (f : Nat) (L : ZLV) (st : List Value) (σ : ZHp) (n k w : Nat) : Z (f + 1) 13 L st σ n k w = s_const (.int (10)) 15 L st σ n k w (zk1 cut G (Z f)) G R T := zrs hZ rfl f L st σ n k w
theorem f_X14_init_15 (hZ : ZRN (ztb (tb_X14_init E d mc ms)) cut G R T Z) (f : Nat) (L : ZLV) (st : List Value) (σ : ZHp) (n k w : Nat) : Z (f + 1) 15 L st σ n k w = s_newI E mc ms 17 L st σ n k w (zk1 cut G (Z f)) G R T := zrs hZ rfl f L st σ n k w
theorem f_X14_init_17 (hZ : ZRN (ztb (tb_X14_init E d mc ms)) cut G R T Z) (f : Nat) (L : ZLV) (st : List Value) (σ : ZHp) (n k w : Nat) : Z (f + 1) 17 L st σ n k w = s_putf 13 4 3 20 L st σ n k w (zk1 cut G (Z f)) G R T := zrs hZ rfl f L st σ n k w
theorem f_X14_init_20 (hZ : ZRN (ztb (tb_X14_init E d mc ms)) cut G R T Z) (f : Nat) (L : ZLV) (st : List Value) (σ : ZHp) (n k w : Nat) : Z (f + 1) 20 L st σ n k w = s_aload 0 21 L st σ n k w (zk1 cut G (Z f)) G R T := zrs hZ rfl f L st σ n k w
theorem f_X14_init_21 (hZ : ZRN (ztb (tb_X14_init E d mc ms)) cut G R T Z) (f : Nat) (L : ZLV) (st : List Value) (σ : ZHp) (n k w : Nat) : Z (f + 1) 21 L st σ n k w = s_const (.int (10)) 23 L st σ n k w (zk1 cut G (Z f)) G R T := zrs hZ rfl f L st σ n k w
theorem f_X14_init_23 (hZ : ZRN (ztb (tb_X14_init E d mc ms)) cut G R T Z) (f : Nat) (L : ZLV) (st : List Value) (σ : ZHp) (n k w : Nat) : Z (f + 1) 23 L st σ n k w = s_newI E mc ms 25 L st σ n k w (zk1 cut G (Z f)) G R T := zrs hZ rfl f L st σ n k w
theorem f_X14_init_25 (hZ : ZRN (ztb (tb_X14_init E d mc ms)) cut G R T Z) (f : Nat) (L : ZLV) (st : List Value) (σ : ZHp) (n k w : Nat) : Z (f + 1) 25 L st σ n k w = s_putf 13 5 3 28 L st σ n k w (zk1 cut G (Z f)) G R T := zrs hZ rfl f L st σ n k w
theorem f_X14_init_28 (hZ : ZRN (ztb (tb_X14_init E d mc ms)) cut G R T Z) (f : Nat) (L : ZLV) (st : List Value) (σ : ZHp) (n k w : Nat) : Z (f + 1) 28 L st σ n k w = s_aload 0 29 L st σ n k w (zk1 cut G (Z f)) G R T := zrs hZ rfl f L st σ n k w
theorem f_X14_init_29 (hZ : ZRN (ztb (tb_X14_init E d mc ms)) cut G R T Z) (f : Nat) (L : ZLV) (st : List Value) (σ : ZHp) (n k w : Nat) : Z (f + 1) 29 L st σ n k w = s_const (.int (240)) 32 L st σ n k w (zk1 cut G (Z f)) G R T := zrs hZ rfl f L st σ n k w
theorem f_X14_init_32 (hZ : ZRN (ztb (tb_X14_init E d mc ms)) cut G R T Z) (f : Nat) (L : ZLV) (st : List Value) (σ : ZHp) (n k w : Nat) : Z (f + 1) 32 L st σ n k w = s_newI E mc ms 34 L st σ n k w (zk1 cut G (Z f)) G R T := zrs hZ rfl f L st σ n k w
theorem f_X14_init_34 (hZ : ZRN (ztb (tb_X14_init E d mc ms)) cut G R T Z) (f : Nat) (L : ZLV) (st : List Value) (σ : ZHp) (n k w : Nat) : Z (f + 1) 34 L st σ n k w = s_putf 13 6 3 37 L st σ n k w (zk1 cut G (Z f)) G R T := zrs hZ rfl f L st σ n k w
theorem f_X14_init_37 (hZ : ZRN (ztb (tb_X14_init E d mc ms)) cut G R T Z) (f : Nat) (L : ZLV) (st : List Value) (σ : ZHp) (n k w : Nat) : Z (f + 1) 37 L st σ n k w = s_aload 0 38 L st σ n k w (zk1 cut G (Z f)) G R T := zrs hZ rfl f L st σ n k w
theorem f_X14_init_38 (hZ : ZRN (ztb (tb_X14_init E d mc ms)) cut G R T Z) (f : Nat) (L : ZLV) (st : List Value) (σ : ZHp) (n k w : Nat) : Z (f + 1) 38 L st σ n k w = s_const (.int (4)) 39 L st σ n k w (zk1 cut G (Z f)) G R T := zrs hZ rfl f L st σ n k w
theorem f_X14_init_39 (hZ : ZRN (ztb (tb_X14_init E d mc ms)) cut G R T Z) (f : Nat) (L : ZLV) (st : List Value) (σ : ZHp) (n k w : Nat) : Z (f + 1) 39 L st σ n k w = s_newI E mc ms 41 L st σ n k w (zk1 cut G (Z f)) G R T := zrs hZ rfl f L st σ n k w
theorem f_X14_init_41 (hZ : ZRN (ztb (tb_X14_init E d mc ms)) cut G R T Z) (f : Nat) (L : ZLV) (st : List Value) (σ : ZHp) (n k w : Nat) : Z (f + 1) 41 L st σ n k w = s_putf 13 7 3 44 L st σ n k w (zk1 cut G (Z f)) G R T := zrs hZ rfl f L st σ n k w
theorem f_X14_init_44 (hZ : ZRN (ztb (tb_X14_init E d mc ms)) cut G R T Z) (f : Nat) (L : ZLV) (st : List Value) (σ : ZHp) (n k w : Nat) : Z (f + 1) 44 L st σ n k w = s_aload 0 45 L st σ n k w (zk1 cut G (Z f)) G R T := zrs hZ rfl f L st σ n k w
theorem f_X14_init_45 (hZ : ZRN (ztb (tb_X14_init E d mc ms)) cut G R T Z) (f : Nat) (L : ZLV) (st : List Value) (σ : ZHp) (n k w : Nat) : Z (f + 1) 45 L st σ n k w = s_const (.int (240)) 48 L st σ n k w (zk1 cut G (Z f)) G R T := zrs hZ rfl f L st σ n k w
theorem f_X14_init_48 (hZ : ZRN (ztb (tb_X14_init E d mc ms)) cut G R T Z) (f : Nat) (L : ZLV) (st : List Value) (σ : ZHp) (n k w : Nat) : Z (f + 1) 48 L st σ n k w = s_newI E mc ms 50 L st σ n k w (zk1 cut G (Z f)) G R T := zrs hZ rfl f L st σ n k w
theorem f_X14_init_50 (hZ : ZRN (ztb (tb_X14_init E d mc ms)) cut G R T Z) (f : Nat) (L : ZLV) (st : List Value) (σ : ZHp) (n k w : Nat) : Z (f + 1) 50 L st σ n k w = s_putf 13 8 3 53 L st σ n k w (zk1 cut G (Z f)) G R T := zrs hZ rfl f L st σ n k w
theorem f_X14_init_53 (hZ : ZRN (ztb (tb_X14_init E d mc ms)) cut G R T Z) (f : Nat) (L : ZLV) (st : List Value) (σ : ZHp) (n k w : Nat) : Z (f + 1) 53 L st σ n k w = s_aload 0 54 L st σ n k w (zk1 cut G (Z f)) G R T := zrs hZ rfl f L st σ n k w
theorem f_X14_init_54 (hZ : ZRN (ztb (tb_X14_init E d mc ms)) cut G R T Z) (f : Nat) (L : ZLV) (st : List Value) (σ : ZHp) (n k w : Nat) : Z (f + 1) 54 L st σ n k w = s_const (.int (4)) 55 L st σ n k w (zk1 cut G (Z f)) G R T := zrs hZ rfl f L st σ n k w
theorem f_X14_init_55 (hZ : ZRN (ztb (tb_X14_init E d mc ms)) cut G R T Z) (f : Nat) (L : ZLV) (st : List Value) (σ : ZHp) (n k w : Nat) : Z (f + 1) 55 L st σ n k w = s_newI E mc ms 57 L st σ n k w (zk1 cut G (Z f)) G R T := zrs hZ rfl f L st σ n k w
theorem f_X14_init_57 (hZ : ZRN (ztb (tb_X14_init E d mc ms)) cut G R T Z) (f : Nat) (L : ZLV) (st : List Value) (σ : ZHp) (n k w : Nat) : Z (f + 1) 57 L st σ n k w = s_putf 13 9 3 60 L st σ n k w (zk1 cut G (Z f)) G R T := zrs hZ rfl f L st σ n k w
theorem f_X14_init_60 (hZ : ZRN (ztb (tb_X14_init E d mc ms)) cut G R T Z) (f : Nat) (L : ZLV) (st : List Value) (σ : ZHp) (n k w : Nat) : Z (f + 1) 60 L st σ n k w = s_aload 0 61 L st σ n k w (zk1 cut G (Z f)) G R T := zrs hZ rfl f L st σ n k w
theorem f_X14_init_61 (hZ : ZRN (ztb (tb_X14_init E d mc ms)) cut G R T Z) (f : Nat) (L : ZLV) (st : List Value) (σ : ZHp) (n k w : Nat) : Z (f + 1) 61 L st σ n k w = s_const (.int (4)) 62 L st σ n k w (zk1 cut G (Z f)) G R T := zrs hZ rfl f L st σ n k w
theorem f_X14_init_62 (hZ : ZRN (ztb (tb_X14_init E d mc ms)) cut G R T Z) (f : Nat) (L : ZLV) (st : List Value) (σ : ZHp) (n k w : Nat) : Z (f + 1) 62 L st σ n k w = s_newI E mc ms 64 L st σ n k w (zk1 cut G (Z f)) G R T := zrs hZ rfl f L st σ n k w
theorem f_X14_init_64 (hZ : ZRN (ztb (tb_X14_init E d mc ms)) cut G R T Z) (f : Nat) (L : ZLV) (st : List Value) (σ : ZHp) (n k w : Nat) : Z (f + 1) 64 L st σ n k w = s_putf 13 10 3 67 L st σ n k w (zk1 cut G (Z f)) G R T := zrs hZ rfl f L st σ n k w
theorem f_X14_init_67 (hZ : ZRN (ztb (tb_X14_init E d mc ms)) cut G R T Z) (f : Nat) (L : ZLV) (st : List Value) (σ : ZHp) (n k w : Nat) : Z (f + 1) 67 L st σ n k w = s_aload 0 68 L st σ n k w (zk1 cut G (Z f)) G R T := zrs hZ rfl f L st σ n k w
theorem f_X14_init_68 (hZ : ZRN (ztb (tb_X14_init E d mc ms)) cut G R T Z) (f : Nat) (L : ZLV) (st : List Value) (σ : ZHp) (n k w : Nat) : Z (f + 1) 68 L st σ n k w = s_const (.int (4)) 69 L st σ n k w (zk1 cut G (Z f)) G R T := zrs hZ rfl f L st σ n k w
theorem f_X14_init_69 (hZ : ZRN (ztb (tb_X14_init E d mc ms)) cut G R T Z) (f : Nat) (L : ZLV) (st : List Value) (σ : ZHp) (n k w : Nat) : Z (f + 1) 69 L st σ n k w = s_newI E mc ms 71 L st σ n k w (zk1 cut G (Z f)) G R T := zrs hZ rfl f L st σ n k w
theorem f_X14_init_71 (hZ : ZRN (ztb (tb_X14_init E d mc ms)) cut G R T Z) (f : Nat) (L : ZLV) (st : List Value) (σ : ZHp) (n k w : Nat) : Z (f + 1) 71 L st σ n k w = s_putf 13 11 3 74 L st σ n k w (zk1 cut G (Z f)) G R T := zrs hZ rfl f L st σ n k w
theorem f_X14_init_74 (hZ : ZRN (ztb (tb_X14_init E d mc ms)) cut G R T Z) (f : Nat) (L : ZLV) (st : List Value) (σ : ZHp) (n k w : Nat) : Z (f + 1) 74 L st σ n k w = s_aload 0 75 L st σ n k w (zk1 cut G (Z f)) G R T := zrs hZ rfl f L st σ n k w
theorem f_X14_init_75 (hZ : ZRN (ztb (tb_X14_init E d mc ms)) cut G R T Z) (f : Nat) (L : ZLV) (st : List Value) (σ : ZHp) (n k w : Nat) : Z (f + 1) 75 L st σ n k w = s_const (.int (4)) 76 L st σ n k w (zk1 cut G (Z f)) G R T := zrs hZ rfl f L st σ n k w
theorem f_X14_init_76 (hZ : ZRN (ztb (tb_X14_init E d mc ms)) cut G R T Z) (f : Nat) (L : ZLV) (st : List Value) (σ : ZHp) (n k w : Nat) : Z (f + 1) 76 L st σ n k w = s_newI E mc ms 78 L st σ n k w (zk1 cut G (Z f)) G R T := zrs hZ rfl f L st σ n k w
theorem f_X14_init_78 (hZ : ZRN (ztb (tb_X14_init E d mc ms)) cut G R T Z) (f : Nat) (L : ZLV) (st : List Value) (σ : ZHp) (n k w : Nat) : Z (f + 1) 78 L st σ n k w = s_putf 13 12 3 81 L st σ n k w (zk1 cut G (Z f)) G R T := zrs hZ rfl f L st σ n k w
theorem f_X14_init_81 (hZ : ZRN (ztb (tb_X14_init E d mc ms)) cut G R T Z) (f : Nat) (L : ZLV) (st : List Value) (σ : ZHp) (n k w : Nat) : Z (f + 1) 81 L st σ n k w = s_aload 0 82 L st σ n k w (zk1 cut G (Z f)) G R T := zrs hZ rfl f L st σ n k w
theorem f_X14_init_82 (hZ : ZRN (ztb (tb_X14_init E d mc ms)) cut G R T Z) (f : Nat) (L : ZLV) (st : List Value) (σ : ZHp) (n k w : Nat) : Z (f + 1) 82 L st σ n k w = s_const (.int (4)) 83 L st σ n k w (zk1 cut G (Z f)) G R T := zrs hZ rfl f L st σ n k w
theorem f_X14_init_83 (hZ : ZRN (ztb (tb_X14_init E d mc ms)) cut G R T Z) (f : Nat) (L : ZLV) (st : List Value) (σ : ZHp) (n k w : Nat) : Z (f + 1) 83 L st σ n k w = s_newI E mc ms 85 L st σ n k w (zk1 cut G (Z f)) G R T := zrs hZ rfl f L st σ n k w
theorem f_X14_init_85 (hZ : ZRN (ztb (tb_X14_init E d mc ms)) cut G R T Z) (f : Nat) (L : ZLV) (st : List Value) (σ : ZHp) (n k w : Nat) : Z (f + 1) 85 L st σ n k w = s_putf 13 13 3 88 L st σ n k w (zk1 cut G (Z f)) G R T := zrs hZ rfl f L st σ n k w
theorem f_X14_init_88 (hZ : ZRN (ztb (tb_X14_init E d mc ms)) cut G R T Z) (f : Nat) (L : ZLV) (st : List Value) (σ : ZHp) (n k w : Nat) : Z (f + 1) 88 L st σ n k w = s_aload 0 89 L st σ n k w (zk1 cut G (Z f)) G R T := zrs hZ rfl f L st σ n k w
theorem f_X14_init_89 (hZ : ZRN (ztb (tb_X14_init E d mc ms)) cut G R T Z) (f : Nat) (L : ZLV) (st : List Value) (σ : ZHp) (n k w : Nat) : Z (f + 1) 89 L st σ n k w = s_const (.int (4)) 90 L st σ n k w (zk1 cut G (Z f)) G R T := zrs hZ rfl f L st σ n k w
theorem f_X14_init_90 (hZ : ZRN (ztb (tb_X14_init E d mc ms)) cut G R T Z) (f : Nat) (L : ZLV) (st : List Value) (σ : ZHp) (n k w : Nat) : Z (f + 1) 90 L st σ n k w = s_newI E mc ms 92 L st σ n k w (zk1 cut G (Z f)) G R T := zrs hZ rfl f L st σ n k w
theorem f_X14_init_92 (hZ : ZRN (ztb (tb_X14_init E d mc ms)) cut G R T Z) (f : Nat) (L : ZLV) (st : List Value) (σ : ZHp) (n k w : Nat) : Z (f + 1) 92 L st σ n k w = s_putf 13 14 3 95 L st σ n k w (zk1 cut G (Z f)) G R T := zrs hZ rfl f L st σ n k w
theorem f_X14_init_95 (hZ : ZRN (ztb (tb_X14_init E d mc ms)) cut G R T Z) (f : Nat) (L : ZLV) (st : List Value) (σ : ZHp) (n k w : Nat) : Z (f + 1) 95 L st σ n k w = s_return L st σ n k w (zk1 cut G (Z f)) G R T := zrs hZ rfl f L st σ n k w
theorem f_X14_copy_0 (hZ : ZRN (ztb (tb_X14_copy E d mc ms)) cut G R T Z) (f : Nat) (L : ZLV) (st : List Value) (σ : ZHp) (n k w : Nat) : Z (f + 1) 0 L st σ n k w = s_aload 0 1 L st σ n k w (zk1 cut G (Z f)) G R T := zrs hZ rfl f L st σ n k w
theorem f_X14_copy_1 (hZ : ZRN (ztb (tb_X14_copy E d mc ms)) cut G R T Z) (f : Nat) (L : ZLV) (st : List Value) (σ : ZHp) (n k w : Nat) : Z (f + 1) 1 L st σ n k w = s_const (.int (0)) 2 L st σ n k w (zk1 cut G (Z f)) G R T := zrs hZ rfl f L st σ n k w
theorem f_X14_copy_2 (hZ : ZRN (ztb (tb_X14_copy E d mc ms)) cut G R T Z) (f : Nat) (L : ZLV) (st : List Value) (σ : ZHp) (n k w : Nat) : Z (f + 1) 2 L st σ n k w = s_aload 1 3 L st σ n k w (zk1 cut G (Z f)) G R T := zrs hZ rfl f L st σ n k w
theorem f_X14_copy_3 (hZ : ZRN (ztb (tb_X14_copy E d mc ms)) cut G R T Z) (f : Nat) (L : ZLV) (st : List Value) (σ : ZHp) (n k w : Nat) : Z (f + 1) 3 L st σ n k w = s_const (.int (0)) 4 L st σ n k w (zk1 cut G (Z f)) G R T := zrs hZ rfl f L st σ n k w
theorem f_X14_copy_4 (hZ : ZRN (ztb (tb_X14_copy E d mc ms)) cut G R T Z) (f : Nat) (L : ZLV) (st : List Value) (σ : ZHp) (n k w : Nat) : Z (f + 1) 4 L st σ n k w = s_aload 0 5 L st σ n k w (zk1 cut G (Z f)) G R T := zrs hZ rfl f L st σ n k w
theorem f_X14_copy_5 (hZ : ZRN (ztb (tb_X14_copy E d mc ms)) cut G R T Z) (f : Nat) (L : ZLV) (st : List Value) (σ : ZHp) (n k w : Nat) : Z (f + 1) 5 L st σ n k w = s_alen E 6 L st σ n k w (zk1 cut G (Z f)) G R T := zrs hZ rfl f L st σ n k w
theorem f_X14_copy_6 (hZ : ZRN (ztb (tb_X14_copy E d mc ms)) cut G R T Z) (f : Nat) (L : ZLV) (st : List Value) (σ : ZHp) (n k w : Nat) : Z (f + 1) 6 L st σ n k w = s_acopy E d 9 L st σ n k w (zk1 cut G (Z f)) G R T := zrs hZ rfl f L st σ n k w
theorem f_X14_copy_9 (hZ : ZRN (ztb (tb_X14_copy E d mc ms)) cut G R T Z) (f : Nat) (L : ZLV) (st : List Value) (σ : ZHp) (n k w : Nat) : Z (f + 1) 9 L st σ n k w = s_return L st σ n k w (zk1 cut G (Z f)) G R T := zrs hZ rfl f L st σ n k w
theorem f_X14_become_0 (hZ : ZRN (ztb (tb_X14_become E d mc ms)) cut G R T Z) (f : Nat) (L : ZLV) (st : List Value) (σ : ZHp) (n k w : Nat) : Z (f + 1) 0 L st σ n k w = s_aload 0 1 L st σ n k w (zk1 cut G (Z f)) G R T := zrs hZ rfl f L st σ n k w
theorem f_X14_become_1 (hZ : ZRN (ztb (tb_X14_become E d mc ms)) cut G R T Z) (f : Nat) (L : ZLV) (st : List Value) (σ : ZHp) (n k w : Nat) : Z (f + 1) 1 L st σ n k w = s_aload 1 2 L st σ n k w (zk1 cut G (Z f)) G R T := zrs hZ rfl f L st σ n k w
theorem f_X14_become_2 (hZ : ZRN (ztb (tb_X14_become E d mc ms)) cut G R T Z) (f : Nat) (L : ZLV) (st : List Value) (σ : ZHp) (n k w : Nat) : Z (f + 1) 2 L st σ n k w = s_getf 13 0 5 L st σ n k w (zk1 cut G (Z f)) G R T := zrs hZ rfl f L st σ n k w
theorem f_X14_become_5 (hZ : ZRN (ztb (tb_X14_become E d mc ms)) cut G R T Z) (f : Nat) (L : ZLV) (st : List Value) (σ : ZHp) (n k w : Nat) : Z (f + 1) 5 L st σ n k w = s_putf 13 0 0 8 L st σ n k w (zk1 cut G (Z f)) G R T := zrs hZ rfl f L st σ n k w
theorem f_X14_become_8 (hZ : ZRN (ztb (tb_X14_become E d mc ms)) cut G R T Z) (f : Nat) (L : ZLV) (st : List Value) (σ : ZHp) (n k w : Nat) : Z (f + 1) 8 L st σ n k w = s_aload 0 9 L st σ n k w (zk1 cut G (Z f)) G R T := zrs hZ rfl f L st σ n k w
theorem f_X14_become_9 (hZ : ZRN (ztb (tb_X14_become E d mc ms)) cut G R T Z) (f : Nat) (L : ZLV) (st : List Value) (σ : ZHp) (n k w : Nat) : Z (f + 1) 9 L st σ n k w = s_aload 1 10 L st σ n k w (zk1 cut G (Z f)) G R T := zrs hZ rfl f L st σ n k w
theorem f_X14_become_10 (hZ : ZRN (ztb (tb_X14_become E d mc ms)) cut G R T Z) (f : Nat) (L : ZLV) (st : List Value) (σ : ZHp) (n k w : Nat) : Z (f + 1) 10 L st σ n k w = s_getf 13 1 13 L st σ n k w (zk1 cut G (Z f)) G R T := zrs hZ rfl f L st σ n k w
theorem f_X14_become_13 (hZ : ZRN (ztb (tb_X14_become E d mc ms)) cut G R T Z) (f : Nat) (L : ZLV) (st : List Value) (σ : ZHp) (n k w : Nat) : Z (f + 1) 13 L st σ n k w = s_putf 13 1 0 16 L st σ n k w (zk1 cut G (Z f)) G R T := zrs hZ rfl f L st σ n k w
theorem f_X14_become_16 (hZ : ZRN (ztb (tb_X14_become E d mc ms)) cut G R T Z) (f : Nat) (L : ZLV) (st : List Value) (σ : ZHp) (n k w : Nat) : Z (f + 1) 16 L st σ n k w = s_aload 0 17 L st σ n k w (zk1 cut G (Z f)) G R T := zrs hZ rfl f L st σ n k w
theorem f_X14_become_17 (hZ : ZRN (ztb (tb_X14_become E d mc ms)) cut G R T Z) (f : Nat) (L : ZLV) (st : List Value) (σ : ZHp) (n k w : Nat) : Z (f + 1) 17 L st σ n k w = s_aload 1 18 L st σ n k w (zk1 cut G (Z f)) G R T := zrs hZ rfl f L st σ n k w
theorem f_X14_become_18 (hZ : ZRN (ztb (tb_X14_become E d mc ms)) cut G R T Z) (f : Nat) (L : ZLV) (st : List Value) (σ : ZHp) (n k w : Nat) : Z (f + 1) 18 L st σ n k w = s_getf 13 2 21 L st σ n k w (zk1 cut G (Z f)) G R T := zrs hZ rfl f L st σ n k w
theorem f_X14_become_21 (hZ : ZRN (ztb (tb_X14_become E d mc ms)) cut G R T Z) (f : Nat) (L : ZLV) (st : List Value) (σ : ZHp) (n k w : Nat) : Z (f + 1) 21 L st σ n k w = s_putf 13 2 0 24 L st σ n k w (zk1 cut G (Z f)) G R T := zrs hZ rfl f L st σ n k w
theorem f_X14_become_24 (hZ : ZRN (ztb (tb_X14_become E d mc ms)) cut G R T Z) (f : Nat) (L : ZLV) (st : List Value) (σ : ZHp) (n k w : Nat) : Z (f + 1) 24 L st σ n k w = s_aload 1 25 L st σ n k w (zk1 cut G (Z f)) G R T := zrs hZ rfl f L st σ n k w
theorem f_X14_become_25 (hZ : ZRN (ztb (tb_X14_become E d mc ms)) cut G R T Z) (f : Nat) (L : ZLV) (st : List Value) (σ : ZHp) (n k w : Nat) : Z (f + 1) 25 L st σ n k w = s_getf 13 3 28 L st σ n k w (zk1 cut G (Z f)) G R T := zrs hZ rfl f L st σ n k w
theorem f_X14_become_28 (hZ : ZRN (ztb (tb_X14_become E d mc ms)) cut G R T Z) (f : Nat) (L : ZLV) (st : List Value) (σ : ZHp) (n k w : Nat) : Z (f + 1) 28 L st σ n k w = s_aload 0 29 L st σ n k w (zk1 cut G (Z f)) G R T := zrs hZ rfl f L st σ n k w
theorem f_X14_become_29 (hZ : ZRN (ztb (tb_X14_become E d mc ms)) cut G R T Z) (f : Nat) (L : ZLV) (st : List Value) (σ : ZHp) (n k w : Nat) : Z (f + 1) 29 L st σ n k w = s_getf 13 3 32 L st σ n k w (zk1 cut G (Z f)) G R T := zrs hZ rfl f L st σ n k w
theorem f_X14_become_32 (hZ : ZRN (ztb (tb_X14_become E d mc ms)) cut G R T Z) (f : Nat) (L : ZLV) (st : List Value) (σ : ZHp) (n k w : Nat) : Z (f + 1) 32 L st σ n k w = s_callS E d mc ms MX14_copy 2 35 L st σ n k w (zk1 cut G (Z f)) G R T := zrs hZ rfl f L st σ n k w
theorem f_X14_become_35 (hZ : ZRN (ztb (tb_X14_become E d mc ms)) cut G R T Z) (f : Nat) (L : ZLV) (st : List Value) (σ : ZHp) (n k w : Nat) : Z (f + 1) 35 L st σ n k w = s_aload 1 36 L st σ n k w (zk1 cut G (Z f)) G R T := zrs hZ rfl f L st σ n k w
theorem f_X14_become_36 (hZ : ZRN (ztb (tb_X14_become E d mc ms)) cut G R T Z) (f : Nat) (L : ZLV) (st : List Value) (σ : ZHp) (n k w : Nat) : Z (f + 1) 36 L st σ n k w = s_getf 13 4 39 L st σ n k w (zk1 cut G (Z f)) G R T := zrs hZ rfl f L st σ n k w
theorem f_X14_become_39 (hZ : ZRN (ztb (tb_X14_become E d mc ms)) cut G R T Z) (f : Nat) (L : ZLV) (st : List Value) (σ : ZHp) (n k w : Nat) : Z (f + 1) 39 L st σ n k w = s_aload 0 40 L st σ n k w (zk1 cut G (Z f)) G R T := zrs hZ rfl f L st σ n k w
theorem f_X14_become_40 (hZ : ZRN (ztb (tb_X14_become E d mc ms)) cut G R T Z) (f : Nat) (L : ZLV) (st : List Value) (σ : ZHp) (n k w : Nat) : Z (f + 1) 40 L st σ n k w = s_getf 13 4 43 L st σ n k w (zk1 cut G (Z f)) G R T := zrs hZ rfl f L st σ n k w
theorem f_X14_become_43 (hZ : ZRN (ztb (tb_X14_become E d mc ms)) cut G R T Z) (f : Nat) (L : ZLV) (st : List Value) (σ : ZHp) (n k w : Nat) : Z (f + 1) 43 L st σ n k w = s_callS E d mc ms MX14_copy 2 46 L st σ n k w (zk1 cut G (Z f)) G R T := zrs hZ rfl f L st σ n k w
theorem f_X14_become_46 (hZ : ZRN (ztb (tb_X14_become E d mc ms)) cut G R T Z) (f : Nat) (L : ZLV) (st : List Value) (σ : ZHp) (n k w : Nat) : Z (f + 1) 46 L st σ n k w = s_aload 1 47 L st σ n k w (zk1 cut G (Z f)) G R T := zrs hZ rfl f L st σ n k w
theorem f_X14_become_47 (hZ : ZRN (ztb (tb_X14_become E d mc ms)) cut G R T Z) (f : Nat) (L : ZLV) (st : List Value) (σ : ZHp) (n k w : Nat) : Z (f + 1) 47 L st σ n k w = s_getf 13 5 50 L st σ n k w (zk1 cut G (Z f)) G R T := zrs hZ rfl f L st σ n k w
theorem f_X14_become_50 (hZ : ZRN (ztb (tb_X14_become E d mc ms)) cut G R T Z) (f : Nat) (L : ZLV) (st : List Value) (σ : ZHp) (n k w : Nat) : Z (f + 1) 50 L st σ n k w = s_aload 0 51 L st σ n k w (zk1 cut G (Z f)) G R T := zrs hZ rfl f L st σ n k w
theorem f_X14_become_51 (hZ : ZRN (ztb (tb_X14_become E d mc ms)) cut G R T Z) (f : Nat) (L : ZLV) (st : List Value) (σ : ZHp) (n k w : Nat) : Z (f + 1) 51 L st σ n k w = s_getf 13 5 54 L st σ n k w (zk1 cut G (Z f)) G R T := zrs hZ rfl f L st σ n k w
theorem f_X14_become_54 (hZ : ZRN (ztb (tb_X14_become E d mc ms)) cut G R T Z) (f : Nat) (L : ZLV) (st : List Value) (σ : ZHp) (n k w : Nat) : Z (f + 1) 54 L st σ n k w = s_callS E d mc ms MX14_copy 2 57 L st σ n k w (zk1 cut G (Z f)) G R T := zrs hZ rfl f L st σ n k w
theorem f_X14_become_57 (hZ : ZRN (ztb (tb_X14_become E d mc ms)) cut G R T Z) (f : Nat) (L : ZLV) (st : List Value) (σ : ZHp) (n k w : Nat) : Z (f + 1) 57 L st σ n k w = s_aload 1 58 L st σ n k w (zk1 cut G (Z f)) G R T := zrs hZ rfl f L st σ n k w
theorem f_X14_become_58 (hZ : ZRN (ztb (tb_X14_become E d mc ms)) cut G R T Z) (f : Nat) (L : ZLV) (st : List Value) (σ : ZHp) (n k w : Nat) : Z (f + 1) 58 L st σ n k w = s_getf 13 6 61 L st σ n k w (zk1 cut G (Z f)) G R T := zrs hZ rfl f L st σ n k w
theorem f_X14_become_61 (hZ : ZRN (ztb (tb_X14_become E d mc ms)) cut G R T Z) (f : Nat) (L : ZLV) (st : List Value) (σ : ZHp) (n k w : Nat) : Z (f + 1) 61 L st σ n k w = s_aload 0 62 L st σ n k w (zk1 cut G (Z f)) G R T := zrs hZ rfl f L st σ n k w
theorem f_X14_become_62 (hZ : ZRN (ztb (tb_X14_become E d mc ms)) cut G R T Z) (f : Nat) (L : ZLV) (st : List Value) (σ : ZHp) (n k w : Nat) : Z (f + 1) 62 L st σ n k w = s_getf 13 6 65 L st σ n k w (zk1 cut G (Z f)) G R T := zrs hZ rfl f L st σ n k w
theorem f_X14_become_65 (hZ : ZRN (ztb (tb_X14_become E d mc ms)) cut G R T Z) (f : Nat) (L : ZLV) (st : List Value) (σ : ZHp) (n k w : Nat) : Z (f + 1) 65 L st σ n k w = s_callS E d mc ms MX14_copy 2 68 L st σ n k w (zk1 cut G (Z f)) G R T := zrs hZ rfl f L st σ n k w
theorem f_X14_become_68 (hZ : ZRN (ztb (tb_X14_become E d mc ms)) cut G R T Z) (f : Nat) (L : ZLV) (st : List Value) (σ : ZHp) (n k w : Nat) : Z (f + 1) 68 L st σ n k w = s_aload 1 69 L st σ n k w (zk1 cut G (Z f)) G R T := zrs hZ rfl f L st σ n k w
theorem f_X14_become_69 (hZ : ZRN (ztb (tb_X14_become E d mc ms)) cut G R T Z) (f : Nat) (L : ZLV) (st : List Value) (σ : ZHp) (n k w : Nat) : Z (f + 1) 69 L st σ n k w = s_getf 13 7 72 L st σ n k w (zk1 cut G (Z f)) G R T := zrs hZ rfl f L st σ n k w
theorem f_X14_become_72 (hZ : ZRN (ztb (tb_X14_become E d mc ms)) cut G R T Z) (f : Nat) (L : ZLV) (st : List Value) (σ : ZHp) (n k w : Nat) : Z (f + 1) 72 L st σ n k w = s_aload 0 73 L st σ n k w (zk1 cut G (Z f)) G R T := zrs hZ rfl f L st σ n k w
theorem f_X14_become_73 (hZ : ZRN (ztb (tb_X14_become E d mc ms)) cut G R T Z) (f : Nat) (L : ZLV) (st : List Value) (σ : ZHp) (n k w : Nat) : Z (f + 1) 73 L st σ n k w = s_getf 13 7 76 L st σ n k w (zk1 cut G (Z f)) G R T := zrs hZ rfl f L st σ n k w
theorem f_X14_become_76 (hZ : ZRN (ztb (tb_X14_become E d mc ms)) cut G R T Z) (f : Nat) (L : ZLV) (st : List Value) (σ : ZHp) (n k w : Nat) : Z (f + 1) 76 L st σ n k w = s_callS E d mc ms MX14_copy 2 79 L st σ n k w (zk1 cut G (Z f)) G R T := zrs hZ rfl f L st σ n k w
theorem f_X14_become_79 (hZ : ZRN (ztb (tb_X14_become E d mc ms)) cut G R T Z) (f : Nat) (L : ZLV) (st : List Value) (σ : ZHp) (n k w : Nat) : Z (f + 1) 79 L st σ n k w = s_aload 1 80 L st σ n k w (zk1 cut G (Z f)) G R T := zrs hZ rfl f L st σ n k w
theorem f_X14_become_80 (hZ : ZRN (ztb (tb_X14_become E d mc ms)) cut G R T Z) (f : Nat) (L : ZLV) (st : List Value) (σ : ZHp) (n k w : Nat) : Z (f + 1) 80 L st σ n k w = s_getf 13 8 83 L st σ n k w (zk1 cut G (Z f)) G R T := zrs hZ rfl f L st σ n k w
theorem f_X14_become_83 (hZ : ZRN (ztb (tb_X14_become E d mc ms)) cut G R T Z) (f : Nat) (L : ZLV) (st : List Value) (σ : ZHp) (n k w : Nat) : Z (f + 1) 83 L st σ n k w = s_aload 0 84 L st σ n k w (zk1 cut G (Z f)) G R T := zrs hZ rfl f L st σ n k w
theorem f_X14_become_84 (hZ : ZRN (ztb (tb_X14_become E d mc ms)) cut G R T Z) (f : Nat) (L : ZLV) (st : List Value) (σ : ZHp) (n k w : Nat) : Z (f + 1) 84 L st σ n k w = s_getf 13 8 87 L st σ n k w (zk1 cut G (Z f)) G R T := zrs hZ rfl f L st σ n k w
theorem f_X14_become_87 (hZ : ZRN (ztb (tb_X14_become E d mc ms)) cut G R T Z) (f : Nat) (L : ZLV) (st : List Value) (σ : ZHp) (n k w : Nat) : Z (f + 1) 87 L st σ n k w = s_callS E d mc ms MX14_copy 2 90 L st σ n k w (zk1 cut G (Z f)) G R T := zrs hZ rfl f L st σ n k w
theorem f_X14_become_90 (hZ : ZRN (ztb (tb_X14_become E d mc ms)) cut G R T Z) (f : Nat) (L : ZLV) (st : List Value) (σ : ZHp) (n k w : Nat) : Z (f + 1) 90 L st σ n k w = s_aload 1 91 L st σ n k w (zk1 cut G (Z f)) G R T := zrs hZ rfl f L st σ n k w
theorem f_X14_become_91 (hZ : ZRN (ztb (tb_X14_become E d mc ms)) cut G R T Z) (f : Nat) (L : ZLV) (st : List Value) (σ : ZHp) (n k w : Nat) : Z (f + 1) 91 L st σ n k w = s_getf 13 9 94 L st σ n k w (zk1 cut G (Z f)) G R T := zrs hZ rfl f L st σ n k w
theorem f_X14_become_94 (hZ : ZRN (ztb (tb_X14_become E d mc ms)) cut G R T Z) (f : Nat) (L : ZLV) (st : List Value) (σ : ZHp) (n k w : Nat) : Z (f + 1) 94 L st σ n k w = s_aload 0 95 L st σ n k w (zk1 cut G (Z f)) G R T := zrs hZ rfl f L st σ n k w
theorem f_X14_become_95 (hZ : ZRN (ztb (tb_X14_become E d mc ms)) cut G R T Z) (f : Nat) (L : ZLV) (st : List Value) (σ : ZHp) (n k w : Nat) : Z (f + 1) 95 L st σ n k w = s_getf 13 9 98 L st σ n k w (zk1 cut G (Z f)) G R T := zrs hZ rfl f L st σ n k w
theorem f_X14_become_98 (hZ : ZRN (ztb (tb_X14_become E d mc ms)) cut G R T Z) (f : Nat) (L : ZLV) (st : List Value) (σ : ZHp) (n k w : Nat) : Z (f + 1) 98 L st σ n k w = s_callS E d mc ms MX14_copy 2 101 L st σ n k w (zk1 cut G (Z f)) G R T := zrs hZ rfl f L st σ n k w
theorem f_X14_become_101 (hZ : ZRN (ztb (tb_X14_become E d mc ms)) cut G R T Z) (f : Nat) (L : ZLV) (st : List Value) (σ : ZHp) (n k w : Nat) : Z (f + 1) 101 L st σ n k w = s_aload 1 102 L st σ n k w (zk1 cut G (Z f)) G R T := zrs hZ rfl f L st σ n k w
theorem f_X14_become_102 (hZ : ZRN (ztb (tb_X14_become E d mc ms)) cut G R T Z) (f : Nat) (L : ZLV) (st : List Value) (σ : ZHp) (n k w : Nat) : Z (f + 1) 102 L st σ n k w = s_getf 13 10 105 L st σ n k w (zk1 cut G (Z f)) G R T := zrs hZ rfl f L st σ n k w
theorem f_X14_become_105 (hZ : ZRN (ztb (tb_X14_become E d mc ms)) cut G R T Z) (f : Nat) (L : ZLV) (st : List Value) (σ : ZHp) (n k w : Nat) : Z (f + 1) 105 L st σ n k w = s_aload 0 106 L st σ n k w (zk1 cut G (Z f)) G R T := zrs hZ rfl f L st σ n k w
theorem f_X14_become_106 (hZ : ZRN (ztb (tb_X14_become E d mc ms)) cut G R T Z) (f : Nat) (L : ZLV) (st : List Value) (σ : ZHp) (n k w : Nat) : Z (f + 1) 106 L st σ n k w = s_getf 13 10 109 L st σ n k w (zk1 cut G (Z f)) G R T := zrs hZ rfl f L st σ n k w
theorem f_X14_become_109 (hZ : ZRN (ztb (tb_X14_become E d mc ms)) cut G R T Z) (f : Nat) (L : ZLV) (st : List Value) (σ : ZHp) (n k w : Nat) : Z (f + 1) 109 L st σ n k w = s_callS E d mc ms MX14_copy 2 112 L st σ n k w (zk1 cut G (Z f)) G R T := zrs hZ rfl f L st σ n k w
theorem f_X14_become_112 (hZ : ZRN (ztb (tb_X14_become E d mc ms)) cut G R T Z) (f : Nat) (L : ZLV) (st : List Value) (σ : ZHp) (n k w : Nat) : Z (f + 1) 112 L st σ n k w = s_aload 1 113 L st σ n k w (zk1 cut G (Z f)) G R T := zrs hZ rfl f L st σ n k w
theorem f_X14_become_113 (hZ : ZRN (ztb (tb_X14_become E d mc ms)) cut G R T Z) (f : Nat) (L : ZLV) (st : List Value) (σ : ZHp) (n k w : Nat) : Z (f + 1) 113 L st σ n k w = s_getf 13 11 116 L st σ n k w (zk1 cut G (Z f)) G R T := zrs hZ rfl f L st σ n k w
theorem f_X14_become_116 (hZ : ZRN (ztb (tb_X14_become E d mc ms)) cut G R T Z) (f : Nat) (L : ZLV) (st : List Value) (σ : ZHp) (n k w : Nat) : Z (f + 1) 116 L st σ n k w = s_aload 0 117 L st σ n k w (zk1 cut G (Z f)) G R T := zrs hZ rfl f L st σ n k w
theorem f_X14_become_117 (hZ : ZRN (ztb (tb_X14_become E d mc ms)) cut G R T Z) (f : Nat) (L : ZLV) (st : List Value) (σ : ZHp) (n k w : Nat) : Z (f + 1) 117 L st σ n k w = s_getf 13 11 120 L st σ n k w (zk1 cut G (Z f)) G R T := zrs hZ rfl f L st σ n k w
theorem f_X14_become_120 (hZ : ZRN (ztb (tb_X14_become E d mc ms)) cut G R T Z) (f : Nat) (L : ZLV) (st : List Value) (σ : ZHp) (n k w : Nat) : Z (f + 1) 120 L st σ n k w = s_callS E d mc ms MX14_copy 2 123 L st σ n k w (zk1 cut G (Z f)) G R T := zrs hZ rfl f L st σ n k w
theorem f_X14_become_123 (hZ : ZRN (ztb (tb_X14_become E d mc ms)) cut G R T Z) (f : Nat) (L : ZLV) (st : List Value) (σ : ZHp) (n k w : Nat) : Z (f + 1) 123 L st σ n k w = s_aload 1 124 L st σ n k w (zk1 cut G (Z f)) G R T := zrs hZ rfl f L st σ n k w
theorem f_X14_become_124 (hZ : ZRN (ztb (tb_X14_become E d mc ms)) cut G R T Z) (f : Nat) (L : ZLV) (st : List Value) (σ : ZHp) (n k w : Nat) : Z (f + 1) 124 L st σ n k w = s_getf 13 12 127 L st σ n k w (zk1 cut G (Z f)) G R T := zrs hZ rfl f L st σ n k w
theorem f_X14_become_127 (hZ : ZRN (ztb (tb_X14_become E d mc ms)) cut G R T Z) (f : Nat) (L : ZLV) (st : List Value) (σ : ZHp) (n k w : Nat) : Z (f + 1) 127 L st σ n k w = s_aload 0 128 L st σ n k w (zk1 cut G (Z f)) G R T := zrs hZ rfl f L st σ n k w
theorem f_X14_become_128 (hZ : ZRN (ztb (tb_X14_become E d mc ms)) cut G R T Z) (f : Nat) (L : ZLV) (st : List Value) (σ : ZHp) (n k w : Nat) : Z (f + 1) 128 L st σ n k w = s_getf 13 12 131 L st σ n k w (zk1 cut G (Z f)) G R T := zrs hZ rfl f L st σ n k w
theorem f_X14_become_131 (hZ : ZRN (ztb (tb_X14_become E d mc ms)) cut G R T Z) (f : Nat) (L : ZLV) (st : List Value) (σ : ZHp) (n k w : Nat) : Z (f + 1) 131 L st σ n k w = s_callS E d mc ms MX14_copy 2 134 L st σ n k w (zk1 cut G (Z f)) G R T := zrs hZ rfl f L st σ n k w
theorem f_X14_become_134 (hZ : ZRN (ztb (tb_X14_become E d mc ms)) cut G R T Z) (f : Nat) (L : ZLV) (st : List Value) (σ : ZHp) (n k w : Nat) : Z (f + 1) 134 L st σ n k w = s_aload 1 135 L st σ n k w (zk1 cut G (Z f)) G R T := zrs hZ rfl f L st σ n k w
theorem f_X14_become_135 (hZ : ZRN (ztb (tb_X14_become E d mc ms)) cut G R T Z) (f : Nat) (L : ZLV) (st : List Value) (σ : ZHp) (n k w : Nat) : Z (f + 1) 135 L st σ n k w = s_getf 13 13 138 L st σ n k w (zk1 cut G (Z f)) G R T := zrs hZ rfl f L st σ n k w
theorem f_X14_become_138 (hZ : ZRN (ztb (tb_X14_become E d mc ms)) cut G R T Z) (f : Nat) (L : ZLV) (st : List Value) (σ : ZHp) (n k w : Nat) : Z (f + 1) 138 L st σ n k w = s_aload 0 139 L st σ n k w (zk1 cut G (Z f)) G R T := zrs hZ rfl f L st σ n k w
theorem f_X14_become_139 (hZ : ZRN (ztb (tb_X14_become E d mc ms)) cut G R T Z) (f : Nat) (L : ZLV) (st : List Value) (σ : ZHp) (n k w : Nat) : Z (f + 1) 139 L st σ n k w = s_getf 13 13 142 L st σ n k w (zk1 cut G (Z f)) G R T := zrs hZ rfl f L st σ n k w
theorem f_X14_become_142 (hZ : ZRN (ztb (tb_X14_become E d mc ms)) cut G R T Z) (f : Nat) (L : ZLV) (st : List Value) (σ : ZHp) (n k w : Nat) : Z (f + 1) 142 L st σ n k w = s_callS E d mc ms MX14_copy 2 145 L st σ n k w (zk1 cut G (Z f)) G R T := zrs hZ rfl f L st σ n k w
theorem f_X14_become_145 (hZ : ZRN (ztb (tb_X14_become E d mc ms)) cut G R T Z) (f : Nat) (L : ZLV) (st : List Value) (σ : ZHp) (n k w : Nat) : Z (f + 1) 145 L st σ n k w = s_aload 1 146 L st σ n k w (zk1 cut G (Z f)) G R T := zrs hZ rfl f L st σ n k w
theorem f_X14_become_146 (hZ : ZRN (ztb (tb_X14_become E d mc ms)) cut G R T Z) (f : Nat) (L : ZLV) (st : List Value) (σ : ZHp) (n k w : Nat) : Z (f + 1) 146 L st σ n k w = s_getf 13 14 149 L st σ n k w (zk1 cut G (Z f)) G R T := zrs hZ rfl f L st σ n k w
theorem f_X14_become_149 (hZ : ZRN (ztb (tb_X14_become E d mc ms)) cut G R T Z) (f : Nat) (L : ZLV) (st : List Value) (σ : ZHp) (n k w : Nat) : Z (f + 1) 149 L st σ n k w = s_aload 0 150 L st σ n k w (zk1 cut G (Z f)) G R T := zrs hZ rfl f L st σ n k w
theorem f_X14_become_150 (hZ : ZRN (ztb (tb_X14_become E d mc ms)) cut G R T Z) (f : Nat) (L : ZLV) (st : List Value) (σ : ZHp) (n k w : Nat) : Z (f + 1) 150 L st σ n k w = s_getf 13 14 153 L st σ n k w (zk1 cut G (Z f)) G R T := zrs hZ rfl f L st σ n k w
theorem f_X14_become_153 (hZ : ZRN (ztb (tb_X14_become E d mc ms)) cut G R T Z) (f : Nat) (L : ZLV) (st : List Value) (σ : ZHp) (n k w : Nat) : Z (f + 1) 153 L st σ n k w = s_callS E d mc ms MX14_copy 2 156 L st σ n k w (zk1 cut G (Z f)) G R T := zrs hZ rfl f L st σ n k w
theorem f_X14_become_156 (hZ : ZRN (ztb (tb_X14_become E d mc ms)) cut G R T Z) (f : Nat) (L : ZLV) (st : List Value) (σ : ZHp) (n k w : Nat) : Z (f + 1) 156 L st σ n k w = s_return L st σ n k w (zk1 cut G (Z f)) G R T := zrs hZ rfl f L st σ n k w
theorem f_X14_discard_0 (hZ : ZRN (ztb (tb_X14_discard E d mc ms)) cut G R T Z) (f : Nat) (L : ZLV) (st : List Value) (σ : ZHp) (n k w : Nat) : Z (f + 1) 0 L st σ n k w = s_aload 0 1 L st σ n k w (zk1 cut G (Z f)) G R T := zrs hZ rfl f L st σ n k w
theorem f_X14_discard_1 (hZ : ZRN (ztb (tb_X14_discard E d mc ms)) cut G R T Z) (f : Nat) (L : ZLV) (st : List Value) (σ : ZHp) (n k w : Nat) : Z (f + 1) 1 L st σ n k w = s_getf 13 8 4 L st σ n k w (zk1 cut G (Z f)) G R T := zrs hZ rfl f L st σ n k w
theorem f_X14_discard_4 (hZ : ZRN (ztb (tb_X14_discard E d mc ms)) cut G R T Z) (f : Nat) (L : ZLV) (st : List Value) (σ : ZHp) (n k w : Nat) : Z (f + 1) 4 L st σ n k w = s_const (.int (60)) 6 L st σ n k w (zk1 cut G (Z f)) G R T := zrs hZ rfl f L st σ n k w
theorem f_X14_discard_6 (hZ : ZRN (ztb (tb_X14_discard E d mc ms)) cut G R T Z) (f : Nat) (L : ZLV) (st : List Value) (σ : ZHp) (n k w : Nat) : Z (f + 1) 6 L st σ n k w = s_iload 1 7 L st σ n k w (zk1 cut G (Z f)) G R T := zrs hZ rfl f L st σ n k w
theorem f_X14_discard_7 (hZ : ZRN (ztb (tb_X14_discard E d mc ms)) cut G R T Z) (f : Nat) (L : ZLV) (st : List Value) (σ : ZHp) (n k w : Nat) : Z (f + 1) 7 L st σ n k w = s_imul 8 L st σ n k w (zk1 cut G (Z f)) G R T := zrs hZ rfl f L st σ n k w
theorem f_X14_discard_8 (hZ : ZRN (ztb (tb_X14_discard E d mc ms)) cut G R T Z) (f : Nat) (L : ZLV) (st : List Value) (σ : ZHp) (n k w : Nat) : Z (f + 1) 8 L st σ n k w = s_aload 0 9 L st σ n k w (zk1 cut G (Z f)) G R T := zrs hZ rfl f L st σ n k w
theorem f_X14_discard_9 (hZ : ZRN (ztb (tb_X14_discard E d mc ms)) cut G R T Z) (f : Nat) (L : ZLV) (st : List Value) (σ : ZHp) (n k w : Nat) : Z (f + 1) 9 L st σ n k w = s_getf 13 9 12 L st σ n k w (zk1 cut G (Z f)) G R T := zrs hZ rfl f L st σ n k w
theorem f_X14_discard_12 (hZ : ZRN (ztb (tb_X14_discard E d mc ms)) cut G R T Z) (f : Nat) (L : ZLV) (st : List Value) (σ : ZHp) (n k w : Nat) : Z (f + 1) 12 L st σ n k w = s_iload 1 13 L st σ n k w (zk1 cut G (Z f)) G R T := zrs hZ rfl f L st σ n k w
theorem f_X14_discard_13 (hZ : ZRN (ztb (tb_X14_discard E d mc ms)) cut G R T Z) (f : Nat) (L : ZLV) (st : List Value) (σ : ZHp) (n k w : Nat) : Z (f + 1) 13 L st σ n k w = s_iaload E 14 L st σ n k w (zk1 cut G (Z f)) G R T := zrs hZ rfl f L st σ n k w
theorem f_X14_discard_14 (hZ : ZRN (ztb (tb_X14_discard E d mc ms)) cut G R T Z) (f : Nat) (L : ZLV) (st : List Value) (σ : ZHp) (n k w : Nat) : Z (f + 1) 14 L st σ n k w = s_iadd 15 L st σ n k w (zk1 cut G (Z f)) G R T := zrs hZ rfl f L st σ n k w
theorem f_X14_discard_15 (hZ : ZRN (ztb (tb_X14_discard E d mc ms)) cut G R T Z) (f : Nat) (L : ZLV) (st : List Value) (σ : ZHp) (n k w : Nat) : Z (f + 1) 15 L st σ n k w = s_iload 2 16 L st σ n k w (zk1 cut G (Z f)) G R T := zrs hZ rfl f L st σ n k w
theorem f_X14_discard_16 (hZ : ZRN (ztb (tb_X14_discard E d mc ms)) cut G R T Z) (f : Nat) (L : ZLV) (st : List Value) (σ : ZHp) (n k w : Nat) : Z (f + 1) 16 L st σ n k w = s_iastore E 17 L st σ n k w (zk1 cut G (Z f)) G R T := zrs hZ rfl f L st σ n k w
theorem f_X14_discard_17 (hZ : ZRN (ztb (tb_X14_discard E d mc ms)) cut G R T Z) (f : Nat) (L : ZLV) (st : List Value) (σ : ZHp) (n k w : Nat) : Z (f + 1) 17 L st σ n k w = s_aload 0 18 L st σ n k w (zk1 cut G (Z f)) G R T := zrs hZ rfl f L st σ n k w
theorem f_X14_discard_18 (hZ : ZRN (ztb (tb_X14_discard E d mc ms)) cut G R T Z) (f : Nat) (L : ZLV) (st : List Value) (σ : ZHp) (n k w : Nat) : Z (f + 1) 18 L st σ n k w = s_getf 13 9 21 L st σ n k w (zk1 cut G (Z f)) G R T := zrs hZ rfl f L st σ n k w
theorem f_X14_discard_21 (hZ : ZRN (ztb (tb_X14_discard E d mc ms)) cut G R T Z) (f : Nat) (L : ZLV) (st : List Value) (σ : ZHp) (n k w : Nat) : Z (f + 1) 21 L st σ n k w = s_iload 1 22 L st σ n k w (zk1 cut G (Z f)) G R T := zrs hZ rfl f L st σ n k w
theorem f_X14_discard_22 (hZ : ZRN (ztb (tb_X14_discard E d mc ms)) cut G R T Z) (f : Nat) (L : ZLV) (st : List Value) (σ : ZHp) (n k w : Nat) : Z (f + 1) 22 L st σ n k w = s_dup2 23 L st σ n k w (zk1 cut G (Z f)) G R T := zrs hZ rfl f L st σ n k w
theorem f_X14_discard_23 (hZ : ZRN (ztb (tb_X14_discard E d mc ms)) cut G R T Z) (f : Nat) (L : ZLV) (st : List Value) (σ : ZHp) (n k w : Nat) : Z (f + 1) 23 L st σ n k w = s_iaload E 24 L st σ n k w (zk1 cut G (Z f)) G R T := zrs hZ rfl f L st σ n k w
theorem f_X14_discard_24 (hZ : ZRN (ztb (tb_X14_discard E d mc ms)) cut G R T Z) (f : Nat) (L : ZLV) (st : List Value) (σ : ZHp) (n k w : Nat) : Z (f + 1) 24 L st σ n k w = s_const (.int (1)) 25 L st σ n k w (zk1 cut G (Z f)) G R T := zrs hZ rfl f L st σ n k w
theorem f_X14_discard_25 (hZ : ZRN (ztb (tb_X14_discard E d mc ms)) cut G R T Z) (f : Nat) (L : ZLV) (st : List Value) (σ : ZHp) (n k w : Nat) : Z (f + 1) 25 L st σ n k w = s_iadd 26 L st σ n k w (zk1 cut G (Z f)) G R T := zrs hZ rfl f L st σ n k w
theorem f_X14_discard_26 (hZ : ZRN (ztb (tb_X14_discard E d mc ms)) cut G R T Z) (f : Nat) (L : ZLV) (st : List Value) (σ : ZHp) (n k w : Nat) : Z (f + 1) 26 L st σ n k w = s_iastore E 27 L st σ n k w (zk1 cut G (Z f)) G R T := zrs hZ rfl f L st σ n k w
theorem f_X14_discard_27 (hZ : ZRN (ztb (tb_X14_discard E d mc ms)) cut G R T Z) (f : Nat) (L : ZLV) (st : List Value) (σ : ZHp) (n k w : Nat) : Z (f + 1) 27 L st σ n k w = s_return L st σ n k w (zk1 cut G (Z f)) G R T := zrs hZ rfl f L st σ n k w
theorem f_X14_mix_0 (hZ : ZRN (ztb (tb_X14_mix E d mc ms)) cut G R T Z) (f : Nat) (L : ZLV) (st : List Value) (σ : ZHp) (n k w : Nat) : Z (f + 1) 0 L st σ n k w = s_const (.int (60)) 2 L st σ n k w (zk1 cut G (Z f)) G R T := zrs hZ rfl f L st σ n k w
theorem f_X14_mix_2 (hZ : ZRN (ztb (tb_X14_mix E d mc ms)) cut G R T Z) (f : Nat) (L : ZLV) (st : List Value) (σ : ZHp) (n k w : Nat) : Z (f + 1) 2 L st σ n k w = s_iload 1 3 L st σ n k w (zk1 cut G (Z f)) G R T := zrs hZ rfl f L st σ n k w
theorem f_X14_mix_3 (hZ : ZRN (ztb (tb_X14_mix E d mc ms)) cut G R T Z) (f : Nat) (L : ZLV) (st : List Value) (σ : ZHp) (n k w : Nat) : Z (f + 1) 3 L st σ n k w = s_imul 4 L st σ n k w (zk1 cut G (Z f)) G R T := zrs hZ rfl f L st σ n k w
theorem f_X14_mix_4 (hZ : ZRN (ztb (tb_X14_mix E d mc ms)) cut G R T Z) (f : Nat) (L : ZLV) (st : List Value) (σ : ZHp) (n k w : Nat) : Z (f + 1) 4 L st σ n k w = s_istore 2 5 L st σ n k w (zk1 cut G (Z f)) G R T := zrs hZ rfl f L st σ n k w
theorem f_X14_mix_5 (hZ : ZRN (ztb (tb_X14_mix E d mc ms)) cut G R T Z) (f : Nat) (L : ZLV) (st : List Value) (σ : ZHp) (n k w : Nat) : Z (f + 1) 5 L st σ n k w = s_aload 0 6 L st σ n k w (zk1 cut G (Z f)) G R T := zrs hZ rfl f L st σ n k w
theorem f_X14_mix_6 (hZ : ZRN (ztb (tb_X14_mix E d mc ms)) cut G R T Z) (f : Nat) (L : ZLV) (st : List Value) (σ : ZHp) (n k w : Nat) : Z (f + 1) 6 L st σ n k w = s_getf 13 9 9 L st σ n k w (zk1 cut G (Z f)) G R T := zrs hZ rfl f L st σ n k w
theorem f_X14_mix_9 (hZ : ZRN (ztb (tb_X14_mix E d mc ms)) cut G R T Z) (f : Nat) (L : ZLV) (st : List Value) (σ : ZHp) (n k w : Nat) : Z (f + 1) 9 L st σ n k w = s_iload 1 10 L st σ n k w (zk1 cut G (Z f)) G R T := zrs hZ rfl f L st σ n k w
theorem f_X14_mix_10 (hZ : ZRN (ztb (tb_X14_mix E d mc ms)) cut G R T Z) (f : Nat) (L : ZLV) (st : List Value) (σ : ZHp) (n k w : Nat) : Z (f + 1) 10 L st σ n k w = s_iaload E 11 L st σ n k w (zk1 cut G (Z f)) G R T := zrs hZ rfl f L st σ n k w
theorem f_X14_mix_11 (hZ : ZRN (ztb (tb_X14_mix E d mc ms)) cut G R T Z) (f : Nat) (L : ZLV) (st : List Value) (σ : ZHp) (n k w : Nat) : Z (f + 1) 11 L st σ n k w = s_const (.int (1)) 12 L st σ n k w (zk1 cut G (Z f)) G R T := zrs hZ rfl f L st σ n k w
theorem f_X14_mix_12 (hZ : ZRN (ztb (tb_X14_mix E d mc ms)) cut G R T Z) (f : Nat) (L : ZLV) (st : List Value) (σ : ZHp) (n k w : Nat) : Z (f + 1) 12 L st σ n k w = s_isub 13 L st σ n k w (zk1 cut G (Z f)) G R T := zrs hZ rfl f L st σ n k w
theorem f_X14_mix_13 (hZ : ZRN (ztb (tb_X14_mix E d mc ms)) cut G R T Z) (f : Nat) (L : ZLV) (st : List Value) (σ : ZHp) (n k w : Nat) : Z (f + 1) 13 L st σ n k w = s_istore 3 14 L st σ n k w (zk1 cut G (Z f)) G R T := zrs hZ rfl f L st σ n k w
theorem f_X14_mix_14 (hZ : ZRN (ztb (tb_X14_mix E d mc ms)) cut G R T Z) (f : Nat) (L : ZLV) (st : List Value) (σ : ZHp) (n k w : Nat) : Z (f + 1) 14 L st σ n k w = s_iload 3 15 L st σ n k w (zk1 cut G (Z f)) G R T := zrs hZ rfl f L st σ n k w
theorem f_X14_mix_15 (hZ : ZRN (ztb (tb_X14_mix E d mc ms)) cut G R T Z) (f : Nat) (L : ZLV) (st : List Value) (σ : ZHp) (n k w : Nat) : Z (f + 1) 15 L st σ n k w = s_const (.int (1)) 16 L st σ n k w (zk1 cut G (Z f)) G R T := zrs hZ rfl f L st σ n k w
theorem f_X14_mix_16 (hZ : ZRN (ztb (tb_X14_mix E d mc ms)) cut G R T Z) (f : Nat) (L : ZLV) (st : List Value) (σ : ZHp) (n k w : Nat) : Z (f + 1) 16 L st σ n k w = s_icmp_lt 96 19 L st σ n k w (zk1 cut G (Z f)) G R T := zrs hZ rfl f L st σ n k w
theorem f_X14_mix_19 (hZ : ZRN (ztb (tb_X14_mix E d mc ms)) cut G R T Z) (f : Nat) (L : ZLV) (st : List Value) (σ : ZHp) (n k w : Nat) : Z (f + 1) 19 L st σ n k w = s_aload 0 20 L st σ n k w (zk1 cut G (Z f)) G R T := zrs hZ rfl f L st σ n k w
theorem f_X14_mix_20 (hZ : ZRN (ztb (tb_X14_mix E d mc ms)) cut G R T Z) (f : Nat) (L : ZLV) (st : List Value) (σ : ZHp) (n k w : Nat) : Z (f + 1) 20 L st σ n k w = s_getf 13 10 23 L st σ n k w (zk1 cut G (Z f)) G R T := zrs hZ rfl f L st σ n k w
theorem f_X14_mix_23 (hZ : ZRN (ztb (tb_X14_mix E d mc ms)) cut G R T Z) (f : Nat) (L : ZLV) (st : List Value) (σ : ZHp) (n k w : Nat) : Z (f + 1) 23 L st σ n k w = s_iload 1 24 L st σ n k w (zk1 cut G (Z f)) G R T := zrs hZ rfl f L st σ n k w
theorem f_X14_mix_24 (hZ : ZRN (ztb (tb_X14_mix E d mc ms)) cut G R T Z) (f : Nat) (L : ZLV) (st : List Value) (σ : ZHp) (n k w : Nat) : Z (f + 1) 24 L st σ n k w = s_aload 0 25 L st σ n k w (zk1 cut G (Z f)) G R T := zrs hZ rfl f L st σ n k w
theorem f_X14_mix_25 (hZ : ZRN (ztb (tb_X14_mix E d mc ms)) cut G R T Z) (f : Nat) (L : ZLV) (st : List Value) (σ : ZHp) (n k w : Nat) : Z (f + 1) 25 L st σ n k w = s_getf 13 10 28 L st σ n k w (zk1 cut G (Z f)) G R T := zrs hZ rfl f L st σ n k w
theorem f_X14_mix_28 (hZ : ZRN (ztb (tb_X14_mix E d mc ms)) cut G R T Z) (f : Nat) (L : ZLV) (st : List Value) (σ : ZHp) (n k w : Nat) : Z (f + 1) 28 L st σ n k w = s_iload 1 29 L st σ n k w (zk1 cut G (Z f)) G R T := zrs hZ rfl f L st σ n k w
theorem f_X14_mix_29 (hZ : ZRN (ztb (tb_X14_mix E d mc ms)) cut G R T Z) (f : Nat) (L : ZLV) (st : List Value) (σ : ZHp) (n k w : Nat) : Z (f + 1) 29 L st σ n k w = s_iaload E 30 L st σ n k w (zk1 cut G (Z f)) G R T := zrs hZ rfl f L st σ n k w
theorem f_X14_mix_30 (hZ : ZRN (ztb (tb_X14_mix E d mc ms)) cut G R T Z) (f : Nat) (L : ZLV) (st : List Value) (σ : ZHp) (n k w : Nat) : Z (f + 1) 30 L st σ n k w = s_const (.int (193)) 33 L st σ n k w (zk1 cut G (Z f)) G R T := zrs hZ rfl f L st σ n k w
theorem f_X14_mix_33 (hZ : ZRN (ztb (tb_X14_mix E d mc ms)) cut G R T Z) (f : Nat) (L : ZLV) (st : List Value) (σ : ZHp) (n k w : Nat) : Z (f + 1) 33 L st σ n k w = s_imul 34 L st σ n k w (zk1 cut G (Z f)) G R T := zrs hZ rfl f L st σ n k w
theorem f_X14_mix_34 (hZ : ZRN (ztb (tb_X14_mix E d mc ms)) cut G R T Z) (f : Nat) (L : ZLV) (st : List Value) (σ : ZHp) (n k w : Nat) : Z (f + 1) 34 L st σ n k w = s_const (.int (71)) 36 L st σ n k w (zk1 cut G (Z f)) G R T := zrs hZ rfl f L st σ n k w
theorem f_X14_mix_36 (hZ : ZRN (ztb (tb_X14_mix E d mc ms)) cut G R T Z) (f : Nat) (L : ZLV) (st : List Value) (σ : ZHp) (n k w : Nat) : Z (f + 1) 36 L st σ n k w = s_iadd 37 L st σ n k w (zk1 cut G (Z f)) G R T := zrs hZ rfl f L st σ n k w
theorem f_X14_mix_37 (hZ : ZRN (ztb (tb_X14_mix E d mc ms)) cut G R T Z) (f : Nat) (L : ZLV) (st : List Value) (σ : ZHp) (n k w : Nat) : Z (f + 1) 37 L st σ n k w = s_const (.int (1021)) 40 L st σ n k w (zk1 cut G (Z f)) G R T := zrs hZ rfl f L st σ n k w
theorem f_X14_mix_40 (hZ : ZRN (ztb (tb_X14_mix E d mc ms)) cut G R T Z) (f : Nat) (L : ZLV) (st : List Value) (σ : ZHp) (n k w : Nat) : Z (f + 1) 40 L st σ n k w = s_irem 41 L st σ n k w (zk1 cut G (Z f)) G R T := zrs hZ rfl f L st σ n k w
theorem f_X14_mix_41 (hZ : ZRN (ztb (tb_X14_mix E d mc ms)) cut G R T Z) (f : Nat) (L : ZLV) (st : List Value) (σ : ZHp) (n k w : Nat) : Z (f + 1) 41 L st σ n k w = s_iastore E 42 L st σ n k w (zk1 cut G (Z f)) G R T := zrs hZ rfl f L st σ n k w
theorem f_X14_mix_42 (hZ : ZRN (ztb (tb_X14_mix E d mc ms)) cut G R T Z) (f : Nat) (L : ZLV) (st : List Value) (σ : ZHp) (n k w : Nat) : Z (f + 1) 42 L st σ n k w = s_iload 2 43 L st σ n k w (zk1 cut G (Z f)) G R T := zrs hZ rfl f L st σ n k w
theorem f_X14_mix_43 (hZ : ZRN (ztb (tb_X14_mix E d mc ms)) cut G R T Z) (f : Nat) (L : ZLV) (st : List Value) (σ : ZHp) (n k w : Nat) : Z (f + 1) 43 L st σ n k w = s_aload 0 44 L st σ n k w (zk1 cut G (Z f)) G R T := zrs hZ rfl f L st σ n k w
theorem f_X14_mix_44 (hZ : ZRN (ztb (tb_X14_mix E d mc ms)) cut G R T Z) (f : Nat) (L : ZLV) (st : List Value) (σ : ZHp) (n k w : Nat) : Z (f + 1) 44 L st σ n k w = s_getf 13 10 47 L st σ n k w (zk1 cut G (Z f)) G R T := zrs hZ rfl f L st σ n k w
theorem f_X14_mix_47 (hZ : ZRN (ztb (tb_X14_mix E d mc ms)) cut G R T Z) (f : Nat) (L : ZLV) (st : List Value) (σ : ZHp) (n k w : Nat) : Z (f + 1) 47 L st σ n k w = s_iload 1 48 L st σ n k w (zk1 cut G (Z f)) G R T := zrs hZ rfl f L st σ n k w
theorem f_X14_mix_48 (hZ : ZRN (ztb (tb_X14_mix E d mc ms)) cut G R T Z) (f : Nat) (L : ZLV) (st : List Value) (σ : ZHp) (n k w : Nat) : Z (f + 1) 48 L st σ n k w = s_iaload E 49 L st σ n k w (zk1 cut G (Z f)) G R T := zrs hZ rfl f L st σ n k w
theorem f_X14_mix_49 (hZ : ZRN (ztb (tb_X14_mix E d mc ms)) cut G R T Z) (f : Nat) (L : ZLV) (st : List Value) (σ : ZHp) (n k w : Nat) : Z (f + 1) 49 L st σ n k w = s_iload 3 50 L st σ n k w (zk1 cut G (Z f)) G R T := zrs hZ rfl f L st σ n k w
theorem f_X14_mix_50 (hZ : ZRN (ztb (tb_X14_mix E d mc ms)) cut G R T Z) (f : Nat) (L : ZLV) (st : List Value) (σ : ZHp) (n k w : Nat) : Z (f + 1) 50 L st σ n k w = s_const (.int (1)) 51 L st σ n k w (zk1 cut G (Z f)) G R T := zrs hZ rfl f L st σ n k w
theorem f_X14_mix_51 (hZ : ZRN (ztb (tb_X14_mix E d mc ms)) cut G R T Z) (f : Nat) (L : ZLV) (st : List Value) (σ : ZHp) (n k w : Nat) : Z (f + 1) 51 L st σ n k w = s_iadd 52 L st σ n k w (zk1 cut G (Z f)) G R T := zrs hZ rfl f L st σ n k w
theorem f_X14_mix_52 (hZ : ZRN (ztb (tb_X14_mix E d mc ms)) cut G R T Z) (f : Nat) (L : ZLV) (st : List Value) (σ : ZHp) (n k w : Nat) : Z (f + 1) 52 L st σ n k w = s_irem 53 L st σ n k w (zk1 cut G (Z f)) G R T := zrs hZ rfl f L st σ n k w
theorem f_X14_mix_53 (hZ : ZRN (ztb (tb_X14_mix E d mc ms)) cut G R T Z) (f : Nat) (L : ZLV) (st : List Value) (σ : ZHp) (n k w : Nat) : Z (f + 1) 53 L st σ n k w = s_iadd 54 L st σ n k w (zk1 cut G (Z f)) G R T := zrs hZ rfl f L st σ n k w
theorem f_X14_mix_54 (hZ : ZRN (ztb (tb_X14_mix E d mc ms)) cut G R T Z) (f : Nat) (L : ZLV) (st : List Value) (σ : ZHp) (n k w : Nat) : Z (f + 1) 54 L st σ n k w = s_istore 4 56 L st σ n k w (zk1 cut G (Z f)) G R T := zrs hZ rfl f L st σ n k w
theorem f_X14_mix_56 (hZ : ZRN (ztb (tb_X14_mix E d mc ms)) cut G R T Z) (f : Nat) (L : ZLV) (st : List Value) (σ : ZHp) (n k w : Nat) : Z (f + 1) 56 L st σ n k w = s_aload 0 57 L st σ n k w (zk1 cut G (Z f)) G R T := zrs hZ rfl f L st σ n k w
theorem f_X14_mix_57 (hZ : ZRN (ztb (tb_X14_mix E d mc ms)) cut G R T Z) (f : Nat) (L : ZLV) (st : List Value) (σ : ZHp) (n k w : Nat) : Z (f + 1) 57 L st σ n k w = s_getf 13 8 60 L st σ n k w (zk1 cut G (Z f)) G R T := zrs hZ rfl f L st σ n k w
theorem f_X14_mix_60 (hZ : ZRN (ztb (tb_X14_mix E d mc ms)) cut G R T Z) (f : Nat) (L : ZLV) (st : List Value) (σ : ZHp) (n k w : Nat) : Z (f + 1) 60 L st σ n k w = s_iload 2 61 L st σ n k w (zk1 cut G (Z f)) G R T := zrs hZ rfl f L st σ n k w
theorem f_X14_mix_61 (hZ : ZRN (ztb (tb_X14_mix E d mc ms)) cut G R T Z) (f : Nat) (L : ZLV) (st : List Value) (σ : ZHp) (n k w : Nat) : Z (f + 1) 61 L st σ n k w = s_iload 3 62 L st σ n k w (zk1 cut G (Z f)) G R T := zrs hZ rfl f L st σ n k w
theorem f_X14_mix_62 (hZ : ZRN (ztb (tb_X14_mix E d mc ms)) cut G R T Z) (f : Nat) (L : ZLV) (st : List Value) (σ : ZHp) (n k w : Nat) : Z (f + 1) 62 L st σ n k w = s_iadd 63 L st σ n k w (zk1 cut G (Z f)) G R T := zrs hZ rfl f L st σ n k w
theorem f_X14_mix_63 (hZ : ZRN (ztb (tb_X14_mix E d mc ms)) cut G R T Z) (f : Nat) (L : ZLV) (st : List Value) (σ : ZHp) (n k w : Nat) : Z (f + 1) 63 L st σ n k w = s_iaload E 64 L st σ n k w (zk1 cut G (Z f)) G R T := zrs hZ rfl f L st σ n k w
theorem f_X14_mix_64 (hZ : ZRN (ztb (tb_X14_mix E d mc ms)) cut G R T Z) (f : Nat) (L : ZLV) (st : List Value) (σ : ZHp) (n k w : Nat) : Z (f + 1) 64 L st σ n k w = s_istore 5 66 L st σ n k w (zk1 cut G (Z f)) G R T := zrs hZ rfl f L st σ n k w
theorem f_X14_mix_66 (hZ : ZRN (ztb (tb_X14_mix E d mc ms)) cut G R T Z) (f : Nat) (L : ZLV) (st : List Value) (σ : ZHp) (n k w : Nat) : Z (f + 1) 66 L st σ n k w = s_aload 0 67 L st σ n k w (zk1 cut G (Z f)) G R T := zrs hZ rfl f L st σ n k w
theorem f_X14_mix_67 (hZ : ZRN (ztb (tb_X14_mix E d mc ms)) cut G R T Z) (f : Nat) (L : ZLV) (st : List Value) (σ : ZHp) (n k w : Nat) : Z (f + 1) 67 L st σ n k w = s_getf 13 8 70 L st σ n k w (zk1 cut G (Z f)) G R T := zrs hZ rfl f L st σ n k w
theorem f_X14_mix_70 (hZ : ZRN (ztb (tb_X14_mix E d mc ms)) cut G R T Z) (f : Nat) (L : ZLV) (st : List Value) (σ : ZHp) (n k w : Nat) : Z (f + 1) 70 L st σ n k w = s_iload 2 71 L st σ n k w (zk1 cut G (Z f)) G R T := zrs hZ rfl f L st σ n k w
theorem f_X14_mix_71 (hZ : ZRN (ztb (tb_X14_mix E d mc ms)) cut G R T Z) (f : Nat) (L : ZLV) (st : List Value) (σ : ZHp) (n k w : Nat) : Z (f + 1) 71 L st σ n k w = s_iload 3 72 L st σ n k w (zk1 cut G (Z f)) G R T := zrs hZ rfl f L st σ n k w
theorem f_X14_mix_72 (hZ : ZRN (ztb (tb_X14_mix E d mc ms)) cut G R T Z) (f : Nat) (L : ZLV) (st : List Value) (σ : ZHp) (n k w : Nat) : Z (f + 1) 72 L st σ n k w = s_iadd 73 L st σ n k w (zk1 cut G (Z f)) G R T := zrs hZ rfl f L st σ n k w
theorem f_X14_mix_73 (hZ : ZRN (ztb (tb_X14_mix E d mc ms)) cut G R T Z) (f : Nat) (L : ZLV) (st : List Value) (σ : ZHp) (n k w : Nat) : Z (f + 1) 73 L st σ n k w = s_aload 0 74 L st σ n k w (zk1 cut G (Z f)) G R T := zrs hZ rfl f L st σ n k w
theorem f_X14_mix_74 (hZ : ZRN (ztb (tb_X14_mix E d mc ms)) cut G R T Z) (f : Nat) (L : ZLV) (st : List Value) (σ : ZHp) (n k w : Nat) : Z (f + 1) 74 L st σ n k w = s_getf 13 8 77 L st σ n k w (zk1 cut G (Z f)) G R T := zrs hZ rfl f L st σ n k w
theorem f_X14_mix_77 (hZ : ZRN (ztb (tb_X14_mix E d mc ms)) cut G R T Z) (f : Nat) (L : ZLV) (st : List Value) (σ : ZHp) (n k w : Nat) : Z (f + 1) 77 L st σ n k w = s_iload 4 79 L st σ n k w (zk1 cut G (Z f)) G R T := zrs hZ rfl f L st σ n k w
theorem f_X14_mix_79 (hZ : ZRN (ztb (tb_X14_mix E d mc ms)) cut G R T Z) (f : Nat) (L : ZLV) (st : List Value) (σ : ZHp) (n k w : Nat) : Z (f + 1) 79 L st σ n k w = s_iaload E 80 L st σ n k w (zk1 cut G (Z f)) G R T := zrs hZ rfl f L st σ n k w
theorem f_X14_mix_80 (hZ : ZRN (ztb (tb_X14_mix E d mc ms)) cut G R T Z) (f : Nat) (L : ZLV) (st : List Value) (σ : ZHp) (n k w : Nat) : Z (f + 1) 80 L st σ n k w = s_iastore E 81 L st σ n k w (zk1 cut G (Z f)) G R T := zrs hZ rfl f L st σ n k w
theorem f_X14_mix_81 (hZ : ZRN (ztb (tb_X14_mix E d mc ms)) cut G R T Z) (f : Nat) (L : ZLV) (st : List Value) (σ : ZHp) (n k w : Nat) : Z (f + 1) 81 L st σ n k w = s_aload 0 82 L st σ n k w (zk1 cut G (Z f)) G R T := zrs hZ rfl f L st σ n k w
theorem f_X14_mix_82 (hZ : ZRN (ztb (tb_X14_mix E d mc ms)) cut G R T Z) (f : Nat) (L : ZLV) (st : List Value) (σ : ZHp) (n k w : Nat) : Z (f + 1) 82 L st σ n k w = s_getf 13 8 85 L st σ n k w (zk1 cut G (Z f)) G R T := zrs hZ rfl f L st σ n k w
theorem f_X14_mix_85 (hZ : ZRN (ztb (tb_X14_mix E d mc ms)) cut G R T Z) (f : Nat) (L : ZLV) (st : List Value) (σ : ZHp) (n k w : Nat) : Z (f + 1) 85 L st σ n k w = s_iload 4 87 L st σ n k w (zk1 cut G (Z f)) G R T := zrs hZ rfl f L st σ n k w
theorem f_X14_mix_87 (hZ : ZRN (ztb (tb_X14_mix E d mc ms)) cut G R T Z) (f : Nat) (L : ZLV) (st : List Value) (σ : ZHp) (n k w : Nat) : Z (f + 1) 87 L st σ n k w = s_iload 5 89 L st σ n k w (zk1 cut G (Z f)) G R T := zrs hZ rfl f L st σ n k w
theorem f_X14_mix_89 (hZ : ZRN (ztb (tb_X14_mix E d mc ms)) cut G R T Z) (f : Nat) (L : ZLV) (st : List Value) (σ : ZHp) (n k w : Nat) : Z (f + 1) 89 L st σ n k w = s_iastore E 90 L st σ n k w (zk1 cut G (Z f)) G R T := zrs hZ rfl f L st σ n k w
theorem f_X14_mix_90 (hZ : ZRN (ztb (tb_X14_mix E d mc ms)) cut G R T Z) (f : Nat) (L : ZLV) (st : List Value) (σ : ZHp) (n k w : Nat) : Z (f + 1) 90 L st σ n k w = s_iinc 3 (-1) 93 L st σ n k w (zk1 cut G (Z f)) G R T := zrs hZ rfl f L st σ n k w
theorem f_X14_mix_93 (hZ : ZRN (ztb (tb_X14_mix E d mc ms)) cut G R T Z) (f : Nat) (L : ZLV) (st : List Value) (σ : ZHp) (n k w : Nat) : Z (f + 1) 93 L st σ n k w = s_goto 14 L st σ n k w (zk1 cut G (Z f)) G R T := zrs hZ rfl f L st σ n k w
theorem f_X14_mix_96 (hZ : ZRN (ztb (tb_X14_mix E d mc ms)) cut G R T Z) (f : Nat) (L : ZLV) (st : List Value) (σ : ZHp) (n k w : Nat) : Z (f + 1) 96 L st σ n k w = s_aload 0 97 L st σ n k w (zk1 cut G (Z f)) G R T := zrs hZ rfl f L st σ n k w
theorem f_X14_mix_97 (hZ : ZRN (ztb (tb_X14_mix E d mc ms)) cut G R T Z) (f : Nat) (L : ZLV) (st : List Value) (σ : ZHp) (n k w : Nat) : Z (f + 1) 97 L st σ n k w = s_getf 13 14 100 L st σ n k w (zk1 cut G (Z f)) G R T := zrs hZ rfl f L st σ n k w
theorem f_X14_mix_100 (hZ : ZRN (ztb (tb_X14_mix E d mc ms)) cut G R T Z) (f : Nat) (L : ZLV) (st : List Value) (σ : ZHp) (n k w : Nat) : Z (f + 1) 100 L st σ n k w = s_iload 1 101 L st σ n k w (zk1 cut G (Z f)) G R T := zrs hZ rfl f L st σ n k w
theorem f_X14_mix_101 (hZ : ZRN (ztb (tb_X14_mix E d mc ms)) cut G R T Z) (f : Nat) (L : ZLV) (st : List Value) (σ : ZHp) (n k w : Nat) : Z (f + 1) 101 L st σ n k w = s_dup2 102 L st σ n k w (zk1 cut G (Z f)) G R T := zrs hZ rfl f L st σ n k w
theorem f_X14_mix_102 (hZ : ZRN (ztb (tb_X14_mix E d mc ms)) cut G R T Z) (f : Nat) (L : ZLV) (st : List Value) (σ : ZHp) (n k w : Nat) : Z (f + 1) 102 L st σ n k w = s_iaload E 103 L st σ n k w (zk1 cut G (Z f)) G R T := zrs hZ rfl f L st σ n k w
theorem f_X14_mix_103 (hZ : ZRN (ztb (tb_X14_mix E d mc ms)) cut G R T Z) (f : Nat) (L : ZLV) (st : List Value) (σ : ZHp) (n k w : Nat) : Z (f + 1) 103 L st σ n k w = s_const (.int (1)) 104 L st σ n k w (zk1 cut G (Z f)) G R T := zrs hZ rfl f L st σ n k w
theorem f_X14_mix_104 (hZ : ZRN (ztb (tb_X14_mix E d mc ms)) cut G R T Z) (f : Nat) (L : ZLV) (st : List Value) (σ : ZHp) (n k w : Nat) : Z (f + 1) 104 L st σ n k w = s_iadd 105 L st σ n k w (zk1 cut G (Z f)) G R T := zrs hZ rfl f L st σ n k w
theorem f_X14_mix_105 (hZ : ZRN (ztb (tb_X14_mix E d mc ms)) cut G R T Z) (f : Nat) (L : ZLV) (st : List Value) (σ : ZHp) (n k w : Nat) : Z (f + 1) 105 L st σ n k w = s_iastore E 106 L st σ n k w (zk1 cut G (Z f)) G R T := zrs hZ rfl f L st σ n k w
theorem f_X14_mix_106 (hZ : ZRN (ztb (tb_X14_mix E d mc ms)) cut G R T Z) (f : Nat) (L : ZLV) (st : List Value) (σ : ZHp) (n k w : Nat) : Z (f + 1) 106 L st σ n k w = s_return L st σ n k w (zk1 cut G (Z f)) G R T := zrs hZ rfl f L st σ n k w
theorem f_X14_shuffle_0 (hZ : ZRN (ztb (tb_X14_shuffle E d mc ms)) cut G R T Z) (f : Nat) (L : ZLV) (st : List Value) (σ : ZHp) (n k w : Nat) : Z (f + 1) 0 L st σ n k w = s_aload 0 1 L st σ n k w (zk1 cut G (Z f)) G R T := zrs hZ rfl f L st σ n k w
theorem f_X14_shuffle_1 (hZ : ZRN (ztb (tb_X14_shuffle E d mc ms)) cut G R T Z) (f : Nat) (L : ZLV) (st : List Value) (σ : ZHp) (n k w : Nat) : Z (f + 1) 1 L st σ n k w = s_getf 13 9 4 L st σ n k w (zk1 cut G (Z f)) G R T := zrs hZ rfl f L st σ n k w
theorem f_X14_shuffle_4 (hZ : ZRN (ztb (tb_X14_shuffle E d mc ms)) cut G R T Z) (f : Nat) (L : ZLV) (st : List Value) (σ : ZHp) (n k w : Nat) : Z (f + 1) 4 L st σ n k w = s_iload 1 5 L st σ n k w (zk1 cut G (Z f)) G R T := zrs hZ rfl f L st σ n k w
theorem f_X14_shuffle_5 (hZ : ZRN (ztb (tb_X14_shuffle E d mc ms)) cut G R T Z) (f : Nat) (L : ZLV) (st : List Value) (σ : ZHp) (n k w : Nat) : Z (f + 1) 5 L st σ n k w = s_iaload E 6 L st σ n k w (zk1 cut G (Z f)) G R T := zrs hZ rfl f L st σ n k w
theorem f_X14_shuffle_6 (hZ : ZRN (ztb (tb_X14_shuffle E d mc ms)) cut G R T Z) (f : Nat) (L : ZLV) (st : List Value) (σ : ZHp) (n k w : Nat) : Z (f + 1) 6 L st σ n k w = s_if_ne 10 9 L st σ n k w (zk1 cut G (Z f)) G R T := zrs hZ rfl f L st σ n k w
theorem f_X14_shuffle_9 (hZ : ZRN (ztb (tb_X14_shuffle E d mc ms)) cut G R T Z) (f : Nat) (L : ZLV) (st : List Value) (σ : ZHp) (n k w : Nat) : Z (f + 1) 9 L st σ n k w = s_return L st σ n k w (zk1 cut G (Z f)) G R T := zrs hZ rfl f L st σ n k w
theorem f_X14_shuffle_10 (hZ : ZRN (ztb (tb_X14_shuffle E d mc ms)) cut G R T Z) (f : Nat) (L : ZLV) (st : List Value) (σ : ZHp) (n k w : Nat) : Z (f + 1) 10 L st σ n k w = s_aload 0 11 L st σ n k w (zk1 cut G (Z f)) G R T := zrs hZ rfl f L st σ n k w
theorem f_X14_shuffle_11 (hZ : ZRN (ztb (tb_X14_shuffle E d mc ms)) cut G R T Z) (f : Nat) (L : ZLV) (st : List Value) (σ : ZHp) (n k w : Nat) : Z (f + 1) 11 L st σ n k w = s_iload 1 12 L st σ n k w (zk1 cut G (Z f)) G R T := zrs hZ rfl f L st σ n k w
theorem f_X14_shuffle_12 (hZ : ZRN (ztb (tb_X14_shuffle E d mc ms)) cut G R T Z) (f : Nat) (L : ZLV) (st : List Value) (σ : ZHp) (n k w : Nat) : Z (f + 1) 12 L st σ n k w = s_callV E d mc ms 13 MX14_mix 1 15 L st σ n k w (zk1 cut G (Z f)) G R T := zrs hZ rfl f L st σ n k w
theorem f_X14_shuffle_15 (hZ : ZRN (ztb (tb_X14_shuffle E d mc ms)) cut G R T Z) (f : Nat) (L : ZLV) (st : List Value) (σ : ZHp) (n k w : Nat) : Z (f + 1) 15 L st σ n k w = s_aload 0 16 L st σ n k w (zk1 cut G (Z f)) G R T := zrs hZ rfl f L st σ n k w
theorem f_X14_shuffle_16 (hZ : ZRN (ztb (tb_X14_shuffle E d mc ms)) cut G R T Z) (f : Nat) (L : ZLV) (st : List Value) (σ : ZHp) (n k w : Nat) : Z (f + 1) 16 L st σ n k w = s_getf 13 8 19 L st σ n k w (zk1 cut G (Z f)) G R T := zrs hZ rfl f L st σ n k w
theorem f_X14_shuffle_19 (hZ : ZRN (ztb (tb_X14_shuffle E d mc ms)) cut G R T Z) (f : Nat) (L : ZLV) (st : List Value) (σ : ZHp) (n k w : Nat) : Z (f + 1) 19 L st σ n k w = s_const (.int (60)) 21 L st σ n k w (zk1 cut G (Z f)) G R T := zrs hZ rfl f L st σ n k w
theorem f_X14_shuffle_21 (hZ : ZRN (ztb (tb_X14_shuffle E d mc ms)) cut G R T Z) (f : Nat) (L : ZLV) (st : List Value) (σ : ZHp) (n k w : Nat) : Z (f + 1) 21 L st σ n k w = s_iload 1 22 L st σ n k w (zk1 cut G (Z f)) G R T := zrs hZ rfl f L st σ n k w
theorem f_X14_shuffle_22 (hZ : ZRN (ztb (tb_X14_shuffle E d mc ms)) cut G R T Z) (f : Nat) (L : ZLV) (st : List Value) (σ : ZHp) (n k w : Nat) : Z (f + 1) 22 L st σ n k w = s_imul 23 L st σ n k w (zk1 cut G (Z f)) G R T := zrs hZ rfl f L st σ n k w
theorem f_X14_shuffle_23 (hZ : ZRN (ztb (tb_X14_shuffle E d mc ms)) cut G R T Z) (f : Nat) (L : ZLV) (st : List Value) (σ : ZHp) (n k w : Nat) : Z (f + 1) 23 L st σ n k w = s_aload 0 24 L st σ n k w (zk1 cut G (Z f)) G R T := zrs hZ rfl f L st σ n k w
theorem f_X14_shuffle_24 (hZ : ZRN (ztb (tb_X14_shuffle E d mc ms)) cut G R T Z) (f : Nat) (L : ZLV) (st : List Value) (σ : ZHp) (n k w : Nat) : Z (f + 1) 24 L st σ n k w = s_getf 13 6 27 L st σ n k w (zk1 cut G (Z f)) G R T := zrs hZ rfl f L st σ n k w
theorem f_X14_shuffle_27 (hZ : ZRN (ztb (tb_X14_shuffle E d mc ms)) cut G R T Z) (f : Nat) (L : ZLV) (st : List Value) (σ : ZHp) (n k w : Nat) : Z (f + 1) 27 L st σ n k w = s_const (.int (60)) 29 L st σ n k w (zk1 cut G (Z f)) G R T := zrs hZ rfl f L st σ n k w
theorem f_X14_shuffle_29 (hZ : ZRN (ztb (tb_X14_shuffle E d mc ms)) cut G R T Z) (f : Nat) (L : ZLV) (st : List Value) (σ : ZHp) (n k w : Nat) : Z (f + 1) 29 L st σ n k w = s_iload 1 30 L st σ n k w (zk1 cut G (Z f)) G R T := zrs hZ rfl f L st σ n k w
theorem f_X14_shuffle_30 (hZ : ZRN (ztb (tb_X14_shuffle E d mc ms)) cut G R T Z) (f : Nat) (L : ZLV) (st : List Value) (σ : ZHp) (n k w : Nat) : Z (f + 1) 30 L st σ n k w = s_imul 31 L st σ n k w (zk1 cut G (Z f)) G R T := zrs hZ rfl f L st σ n k w
theorem f_X14_shuffle_31 (hZ : ZRN (ztb (tb_X14_shuffle E d mc ms)) cut G R T Z) (f : Nat) (L : ZLV) (st : List Value) (σ : ZHp) (n k w : Nat) : Z (f + 1) 31 L st σ n k w = s_aload 0 32 L st σ n k w (zk1 cut G (Z f)) G R T := zrs hZ rfl f L st σ n k w
theorem f_X14_shuffle_32 (hZ : ZRN (ztb (tb_X14_shuffle E d mc ms)) cut G R T Z) (f : Nat) (L : ZLV) (st : List Value) (σ : ZHp) (n k w : Nat) : Z (f + 1) 32 L st σ n k w = s_getf 13 7 35 L st σ n k w (zk1 cut G (Z f)) G R T := zrs hZ rfl f L st σ n k w
theorem f_X14_shuffle_35 (hZ : ZRN (ztb (tb_X14_shuffle E d mc ms)) cut G R T Z) (f : Nat) (L : ZLV) (st : List Value) (σ : ZHp) (n k w : Nat) : Z (f + 1) 35 L st σ n k w = s_iload 1 36 L st σ n k w (zk1 cut G (Z f)) G R T := zrs hZ rfl f L st σ n k w
theorem f_X14_shuffle_36 (hZ : ZRN (ztb (tb_X14_shuffle E d mc ms)) cut G R T Z) (f : Nat) (L : ZLV) (st : List Value) (σ : ZHp) (n k w : Nat) : Z (f + 1) 36 L st σ n k w = s_iaload E 37 L st σ n k w (zk1 cut G (Z f)) G R T := zrs hZ rfl f L st σ n k w
theorem f_X14_shuffle_37 (hZ : ZRN (ztb (tb_X14_shuffle E d mc ms)) cut G R T Z) (f : Nat) (L : ZLV) (st : List Value) (σ : ZHp) (n k w : Nat) : Z (f + 1) 37 L st σ n k w = s_iadd 38 L st σ n k w (zk1 cut G (Z f)) G R T := zrs hZ rfl f L st σ n k w
theorem f_X14_shuffle_38 (hZ : ZRN (ztb (tb_X14_shuffle E d mc ms)) cut G R T Z) (f : Nat) (L : ZLV) (st : List Value) (σ : ZHp) (n k w : Nat) : Z (f + 1) 38 L st σ n k w = s_aload 0 39 L st σ n k w (zk1 cut G (Z f)) G R T := zrs hZ rfl f L st σ n k w
theorem f_X14_shuffle_39 (hZ : ZRN (ztb (tb_X14_shuffle E d mc ms)) cut G R T Z) (f : Nat) (L : ZLV) (st : List Value) (σ : ZHp) (n k w : Nat) : Z (f + 1) 39 L st σ n k w = s_getf 13 9 42 L st σ n k w (zk1 cut G (Z f)) G R T := zrs hZ rfl f L st σ n k w
theorem f_X14_shuffle_42 (hZ : ZRN (ztb (tb_X14_shuffle E d mc ms)) cut G R T Z) (f : Nat) (L : ZLV) (st : List Value) (σ : ZHp) (n k w : Nat) : Z (f + 1) 42 L st σ n k w = s_iload 1 43 L st σ n k w (zk1 cut G (Z f)) G R T := zrs hZ rfl f L st σ n k w
theorem f_X14_shuffle_43 (hZ : ZRN (ztb (tb_X14_shuffle E d mc ms)) cut G R T Z) (f : Nat) (L : ZLV) (st : List Value) (σ : ZHp) (n k w : Nat) : Z (f + 1) 43 L st σ n k w = s_iaload E 44 L st σ n k w (zk1 cut G (Z f)) G R T := zrs hZ rfl f L st σ n k w
theorem f_X14_shuffle_44 (hZ : ZRN (ztb (tb_X14_shuffle E d mc ms)) cut G R T Z) (f : Nat) (L : ZLV) (st : List Value) (σ : ZHp) (n k w : Nat) : Z (f + 1) 44 L st σ n k w = s_acopy E d 47 L st σ n k w (zk1 cut G (Z f)) G R T := zrs hZ rfl f L st σ n k w
theorem f_X14_shuffle_47 (hZ : ZRN (ztb (tb_X14_shuffle E d mc ms)) cut G R T Z) (f : Nat) (L : ZLV) (st : List Value) (σ : ZHp) (n k w : Nat) : Z (f + 1) 47 L st σ n k w = s_aload 0 48 L st σ n k w (zk1 cut G (Z f)) G R T := zrs hZ rfl f L st σ n k w
theorem f_X14_shuffle_48 (hZ : ZRN (ztb (tb_X14_shuffle E d mc ms)) cut G R T Z) (f : Nat) (L : ZLV) (st : List Value) (σ : ZHp) (n k w : Nat) : Z (f + 1) 48 L st σ n k w = s_getf 13 7 51 L st σ n k w (zk1 cut G (Z f)) G R T := zrs hZ rfl f L st σ n k w
theorem f_X14_shuffle_51 (hZ : ZRN (ztb (tb_X14_shuffle E d mc ms)) cut G R T Z) (f : Nat) (L : ZLV) (st : List Value) (σ : ZHp) (n k w : Nat) : Z (f + 1) 51 L st σ n k w = s_iload 1 52 L st σ n k w (zk1 cut G (Z f)) G R T := zrs hZ rfl f L st σ n k w
theorem f_X14_shuffle_52 (hZ : ZRN (ztb (tb_X14_shuffle E d mc ms)) cut G R T Z) (f : Nat) (L : ZLV) (st : List Value) (σ : ZHp) (n k w : Nat) : Z (f + 1) 52 L st σ n k w = s_dup2 53 L st σ n k w (zk1 cut G (Z f)) G R T := zrs hZ rfl f L st σ n k w
theorem f_X14_shuffle_53 (hZ : ZRN (ztb (tb_X14_shuffle E d mc ms)) cut G R T Z) (f : Nat) (L : ZLV) (st : List Value) (σ : ZHp) (n k w : Nat) : Z (f + 1) 53 L st σ n k w = s_iaload E 54 L st σ n k w (zk1 cut G (Z f)) G R T := zrs hZ rfl f L st σ n k w
theorem f_X14_shuffle_54 (hZ : ZRN (ztb (tb_X14_shuffle E d mc ms)) cut G R T Z) (f : Nat) (L : ZLV) (st : List Value) (σ : ZHp) (n k w : Nat) : Z (f + 1) 54 L st σ n k w = s_aload 0 55 L st σ n k w (zk1 cut G (Z f)) G R T := zrs hZ rfl f L st σ n k w
theorem f_X14_shuffle_55 (hZ : ZRN (ztb (tb_X14_shuffle E d mc ms)) cut G R T Z) (f : Nat) (L : ZLV) (st : List Value) (σ : ZHp) (n k w : Nat) : Z (f + 1) 55 L st σ n k w = s_getf 13 9 58 L st σ n k w (zk1 cut G (Z f)) G R T := zrs hZ rfl f L st σ n k w
theorem f_X14_shuffle_58 (hZ : ZRN (ztb (tb_X14_shuffle E d mc ms)) cut G R T Z) (f : Nat) (L : ZLV) (st : List Value) (σ : ZHp) (n k w : Nat) : Z (f + 1) 58 L st σ n k w = s_iload 1 59 L st σ n k w (zk1 cut G (Z f)) G R T := zrs hZ rfl f L st σ n k w
theorem f_X14_shuffle_59 (hZ : ZRN (ztb (tb_X14_shuffle E d mc ms)) cut G R T Z) (f : Nat) (L : ZLV) (st : List Value) (σ : ZHp) (n k w : Nat) : Z (f + 1) 59 L st σ n k w = s_iaload E 60 L st σ n k w (zk1 cut G (Z f)) G R T := zrs hZ rfl f L st σ n k w
theorem f_X14_shuffle_60 (hZ : ZRN (ztb (tb_X14_shuffle E d mc ms)) cut G R T Z) (f : Nat) (L : ZLV) (st : List Value) (σ : ZHp) (n k w : Nat) : Z (f + 1) 60 L st σ n k w = s_iadd 61 L st σ n k w (zk1 cut G (Z f)) G R T := zrs hZ rfl f L st σ n k w
theorem f_X14_shuffle_61 (hZ : ZRN (ztb (tb_X14_shuffle E d mc ms)) cut G R T Z) (f : Nat) (L : ZLV) (st : List Value) (σ : ZHp) (n k w : Nat) : Z (f + 1) 61 L st σ n k w = s_iastore E 62 L st σ n k w (zk1 cut G (Z f)) G R T := zrs hZ rfl f L st σ n k w
theorem f_X14_shuffle_62 (hZ : ZRN (ztb (tb_X14_shuffle E d mc ms)) cut G R T Z) (f : Nat) (L : ZLV) (st : List Value) (σ : ZHp) (n k w : Nat) : Z (f + 1) 62 L st σ n k w = s_aload 0 63 L st σ n k w (zk1 cut G (Z f)) G R T := zrs hZ rfl f L st σ n k w
theorem f_X14_shuffle_63 (hZ : ZRN (ztb (tb_X14_shuffle E d mc ms)) cut G R T Z) (f : Nat) (L : ZLV) (st : List Value) (σ : ZHp) (n k w : Nat) : Z (f + 1) 63 L st σ n k w = s_getf 13 9 66 L st σ n k w (zk1 cut G (Z f)) G R T := zrs hZ rfl f L st σ n k w
theorem f_X14_shuffle_66 (hZ : ZRN (ztb (tb_X14_shuffle E d mc ms)) cut G R T Z) (f : Nat) (L : ZLV) (st : List Value) (σ : ZHp) (n k w : Nat) : Z (f + 1) 66 L st σ n k w = s_iload 1 67 L st σ n k w (zk1 cut G (Z f)) G R T := zrs hZ rfl f L st σ n k w
theorem f_X14_shuffle_67 (hZ : ZRN (ztb (tb_X14_shuffle E d mc ms)) cut G R T Z) (f : Nat) (L : ZLV) (st : List Value) (σ : ZHp) (n k w : Nat) : Z (f + 1) 67 L st σ n k w = s_const (.int (0)) 68 L st σ n k w (zk1 cut G (Z f)) G R T := zrs hZ rfl f L st σ n k w
theorem f_X14_shuffle_68 (hZ : ZRN (ztb (tb_X14_shuffle E d mc ms)) cut G R T Z) (f : Nat) (L : ZLV) (st : List Value) (σ : ZHp) (n k w : Nat) : Z (f + 1) 68 L st σ n k w = s_iastore E 69 L st σ n k w (zk1 cut G (Z f)) G R T := zrs hZ rfl f L st σ n k w
theorem f_X14_shuffle_69 (hZ : ZRN (ztb (tb_X14_shuffle E d mc ms)) cut G R T Z) (f : Nat) (L : ZLV) (st : List Value) (σ : ZHp) (n k w : Nat) : Z (f + 1) 69 L st σ n k w = s_return L st σ n k w (zk1 cut G (Z f)) G R T := zrs hZ rfl f L st σ n k w
theorem f_X14_draw_0 (hZ : ZRN (ztb (tb_X14_draw E d mc ms)) cut G R T Z) (f : Nat) (L : ZLV) (st : List Value) (σ : ZHp) (n k w : Nat) : Z (f + 1) 0 L st σ n k w = s_aload 0 1 L st σ n k w (zk1 cut G (Z f)) G R T := zrs hZ rfl f L st σ n k w
theorem f_X14_draw_1 (hZ : ZRN (ztb (tb_X14_draw E d mc ms)) cut G R T Z) (f : Nat) (L : ZLV) (st : List Value) (σ : ZHp) (n k w : Nat) : Z (f + 1) 1 L st σ n k w = s_getf 13 7 4 L st σ n k w (zk1 cut G (Z f)) G R T := zrs hZ rfl f L st σ n k w
theorem f_X14_draw_4 (hZ : ZRN (ztb (tb_X14_draw E d mc ms)) cut G R T Z) (f : Nat) (L : ZLV) (st : List Value) (σ : ZHp) (n k w : Nat) : Z (f + 1) 4 L st σ n k w = s_iload 1 5 L st σ n k w (zk1 cut G (Z f)) G R T := zrs hZ rfl f L st σ n k w
theorem f_X14_draw_5 (hZ : ZRN (ztb (tb_X14_draw E d mc ms)) cut G R T Z) (f : Nat) (L : ZLV) (st : List Value) (σ : ZHp) (n k w : Nat) : Z (f + 1) 5 L st σ n k w = s_iaload E 6 L st σ n k w (zk1 cut G (Z f)) G R T := zrs hZ rfl f L st σ n k w
theorem f_X14_draw_6 (hZ : ZRN (ztb (tb_X14_draw E d mc ms)) cut G R T Z) (f : Nat) (L : ZLV) (st : List Value) (σ : ZHp) (n k w : Nat) : Z (f + 1) 6 L st σ n k w = s_if_ne 14 9 L st σ n k w (zk1 cut G (Z f)) G R T := zrs hZ rfl f L st σ n k w
theorem f_X14_draw_9 (hZ : ZRN (ztb (tb_X14_draw E d mc ms)) cut G R T Z) (f : Nat) (L : ZLV) (st : List Value) (σ : ZHp) (n k w : Nat) : Z (f + 1) 9 L st σ n k w = s_aload 0 10 L st σ n k w (zk1 cut G (Z f)) G R T := zrs hZ rfl f L st σ n k w
theorem f_X14_draw_10 (hZ : ZRN (ztb (tb_X14_draw E d mc ms)) cut G R T Z) (f : Nat) (L : ZLV) (st : List Value) (σ : ZHp) (n k w : Nat) : Z (f + 1) 10 L st σ n k w = s_iload 1 11 L st σ n k w (zk1 cut G (Z f)) G R T := zrs hZ rfl f L st σ n k w
theorem f_X14_draw_11 (hZ : ZRN (ztb (tb_X14_draw E d mc ms)) cut G R T Z) (f : Nat) (L : ZLV) (st : List Value) (σ : ZHp) (n k w : Nat) : Z (f + 1) 11 L st σ n k w = s_callV E d mc ms 13 MX14_shuffle 1 14 L st σ n k w (zk1 cut G (Z f)) G R T := zrs hZ rfl f L st σ n k w
theorem f_X14_draw_14 (hZ : ZRN (ztb (tb_X14_draw E d mc ms)) cut G R T Z) (f : Nat) (L : ZLV) (st : List Value) (σ : ZHp) (n k w : Nat) : Z (f + 1) 14 L st σ n k w = s_aload 0 15 L st σ n k w (zk1 cut G (Z f)) G R T := zrs hZ rfl f L st σ n k w
theorem f_X14_draw_15 (hZ : ZRN (ztb (tb_X14_draw E d mc ms)) cut G R T Z) (f : Nat) (L : ZLV) (st : List Value) (σ : ZHp) (n k w : Nat) : Z (f + 1) 15 L st σ n k w = s_getf 13 7 18 L st σ n k w (zk1 cut G (Z f)) G R T := zrs hZ rfl f L st σ n k w
theorem f_X14_draw_18 (hZ : ZRN (ztb (tb_X14_draw E d mc ms)) cut G R T Z) (f : Nat) (L : ZLV) (st : List Value) (σ : ZHp) (n k w : Nat) : Z (f + 1) 18 L st σ n k w = s_iload 1 19 L st σ n k w (zk1 cut G (Z f)) G R T := zrs hZ rfl f L st σ n k w
theorem f_X14_draw_19 (hZ : ZRN (ztb (tb_X14_draw E d mc ms)) cut G R T Z) (f : Nat) (L : ZLV) (st : List Value) (σ : ZHp) (n k w : Nat) : Z (f + 1) 19 L st σ n k w = s_iaload E 20 L st σ n k w (zk1 cut G (Z f)) G R T := zrs hZ rfl f L st σ n k w
theorem f_X14_draw_20 (hZ : ZRN (ztb (tb_X14_draw E d mc ms)) cut G R T Z) (f : Nat) (L : ZLV) (st : List Value) (σ : ZHp) (n k w : Nat) : Z (f + 1) 20 L st σ n k w = s_if_ne 25 23 L st σ n k w (zk1 cut G (Z f)) G R T := zrs hZ rfl f L st σ n k w
theorem f_X14_draw_23 (hZ : ZRN (ztb (tb_X14_draw E d mc ms)) cut G R T Z) (f : Nat) (L : ZLV) (st : List Value) (σ : ZHp) (n k w : Nat) : Z (f + 1) 23 L st σ n k w = s_const (.int (-1)) 24 L st σ n k w (zk1 cut G (Z f)) G R T := zrs hZ rfl f L st σ n k w
theorem f_X14_draw_24 (hZ : ZRN (ztb (tb_X14_draw E d mc ms)) cut G R T Z) (f : Nat) (L : ZLV) (st : List Value) (σ : ZHp) (n k w : Nat) : Z (f + 1) 24 L st σ n k w = s_ireturn L st σ n k w (zk1 cut G (Z f)) G R T := zrs hZ rfl f L st σ n k w
theorem f_X14_draw_25 (hZ : ZRN (ztb (tb_X14_draw E d mc ms)) cut G R T Z) (f : Nat) (L : ZLV) (st : List Value) (σ : ZHp) (n k w : Nat) : Z (f + 1) 25 L st σ n k w = s_aload 0 26 L st σ n k w (zk1 cut G (Z f)) G R T := zrs hZ rfl f L st σ n k w
theorem f_X14_draw_26 (hZ : ZRN (ztb (tb_X14_draw E d mc ms)) cut G R T Z) (f : Nat) (L : ZLV) (st : List Value) (σ : ZHp) (n k w : Nat) : Z (f + 1) 26 L st σ n k w = s_getf 13 6 29 L st σ n k w (zk1 cut G (Z f)) G R T := zrs hZ rfl f L st σ n k w
theorem f_X14_draw_29 (hZ : ZRN (ztb (tb_X14_draw E d mc ms)) cut G R T Z) (f : Nat) (L : ZLV) (st : List Value) (σ : ZHp) (n k w : Nat) : Z (f + 1) 29 L st σ n k w = s_const (.int (60)) 31 L st σ n k w (zk1 cut G (Z f)) G R T := zrs hZ rfl f L st σ n k w
theorem f_X14_draw_31 (hZ : ZRN (ztb (tb_X14_draw E d mc ms)) cut G R T Z) (f : Nat) (L : ZLV) (st : List Value) (σ : ZHp) (n k w : Nat) : Z (f + 1) 31 L st σ n k w = s_iload 1 32 L st σ n k w (zk1 cut G (Z f)) G R T := zrs hZ rfl f L st σ n k w
theorem f_X14_draw_32 (hZ : ZRN (ztb (tb_X14_draw E d mc ms)) cut G R T Z) (f : Nat) (L : ZLV) (st : List Value) (σ : ZHp) (n k w : Nat) : Z (f + 1) 32 L st σ n k w = s_imul 33 L st σ n k w (zk1 cut G (Z f)) G R T := zrs hZ rfl f L st σ n k w
theorem f_X14_draw_33 (hZ : ZRN (ztb (tb_X14_draw E d mc ms)) cut G R T Z) (f : Nat) (L : ZLV) (st : List Value) (σ : ZHp) (n k w : Nat) : Z (f + 1) 33 L st σ n k w = s_iaload E 34 L st σ n k w (zk1 cut G (Z f)) G R T := zrs hZ rfl f L st σ n k w
theorem f_X14_draw_34 (hZ : ZRN (ztb (tb_X14_draw E d mc ms)) cut G R T Z) (f : Nat) (L : ZLV) (st : List Value) (σ : ZHp) (n k w : Nat) : Z (f + 1) 34 L st σ n k w = s_istore 2 35 L st σ n k w (zk1 cut G (Z f)) G R T := zrs hZ rfl f L st σ n k w
theorem f_X14_draw_35 (hZ : ZRN (ztb (tb_X14_draw E d mc ms)) cut G R T Z) (f : Nat) (L : ZLV) (st : List Value) (σ : ZHp) (n k w : Nat) : Z (f + 1) 35 L st σ n k w = s_aload 0 36 L st σ n k w (zk1 cut G (Z f)) G R T := zrs hZ rfl f L st σ n k w
theorem f_X14_draw_36 (hZ : ZRN (ztb (tb_X14_draw E d mc ms)) cut G R T Z) (f : Nat) (L : ZLV) (st : List Value) (σ : ZHp) (n k w : Nat) : Z (f + 1) 36 L st σ n k w = s_getf 13 7 39 L st σ n k w (zk1 cut G (Z f)) G R T := zrs hZ rfl f L st σ n k w
theorem f_X14_draw_39 (hZ : ZRN (ztb (tb_X14_draw E d mc ms)) cut G R T Z) (f : Nat) (L : ZLV) (st : List Value) (σ : ZHp) (n k w : Nat) : Z (f + 1) 39 L st σ n k w = s_iload 1 40 L st σ n k w (zk1 cut G (Z f)) G R T := zrs hZ rfl f L st σ n k w
theorem f_X14_draw_40 (hZ : ZRN (ztb (tb_X14_draw E d mc ms)) cut G R T Z) (f : Nat) (L : ZLV) (st : List Value) (σ : ZHp) (n k w : Nat) : Z (f + 1) 40 L st σ n k w = s_dup2 41 L st σ n k w (zk1 cut G (Z f)) G R T := zrs hZ rfl f L st σ n k w
theorem f_X14_draw_41 (hZ : ZRN (ztb (tb_X14_draw E d mc ms)) cut G R T Z) (f : Nat) (L : ZLV) (st : List Value) (σ : ZHp) (n k w : Nat) : Z (f + 1) 41 L st σ n k w = s_iaload E 42 L st σ n k w (zk1 cut G (Z f)) G R T := zrs hZ rfl f L st σ n k w
theorem f_X14_draw_42 (hZ : ZRN (ztb (tb_X14_draw E d mc ms)) cut G R T Z) (f : Nat) (L : ZLV) (st : List Value) (σ : ZHp) (n k w : Nat) : Z (f + 1) 42 L st σ n k w = s_const (.int (1)) 43 L st σ n k w (zk1 cut G (Z f)) G R T := zrs hZ rfl f L st σ n k w
theorem f_X14_draw_43 (hZ : ZRN (ztb (tb_X14_draw E d mc ms)) cut G R T Z) (f : Nat) (L : ZLV) (st : List Value) (σ : ZHp) (n k w : Nat) : Z (f + 1) 43 L st σ n k w = s_isub 44 L st σ n k w (zk1 cut G (Z f)) G R T := zrs hZ rfl f L st σ n k w
theorem f_X14_draw_44 (hZ : ZRN (ztb (tb_X14_draw E d mc ms)) cut G R T Z) (f : Nat) (L : ZLV) (st : List Value) (σ : ZHp) (n k w : Nat) : Z (f + 1) 44 L st σ n k w = s_iastore E 45 L st σ n k w (zk1 cut G (Z f)) G R T := zrs hZ rfl f L st σ n k w
theorem f_X14_draw_45 (hZ : ZRN (ztb (tb_X14_draw E d mc ms)) cut G R T Z) (f : Nat) (L : ZLV) (st : List Value) (σ : ZHp) (n k w : Nat) : Z (f + 1) 45 L st σ n k w = s_aload 0 46 L st σ n k w (zk1 cut G (Z f)) G R T := zrs hZ rfl f L st σ n k w
theorem f_X14_draw_46 (hZ : ZRN (ztb (tb_X14_draw E d mc ms)) cut G R T Z) (f : Nat) (L : ZLV) (st : List Value) (σ : ZHp) (n k w : Nat) : Z (f + 1) 46 L st σ n k w = s_getf 13 6 49 L st σ n k w (zk1 cut G (Z f)) G R T := zrs hZ rfl f L st σ n k w
theorem f_X14_draw_49 (hZ : ZRN (ztb (tb_X14_draw E d mc ms)) cut G R T Z) (f : Nat) (L : ZLV) (st : List Value) (σ : ZHp) (n k w : Nat) : Z (f + 1) 49 L st σ n k w = s_const (.int (60)) 51 L st σ n k w (zk1 cut G (Z f)) G R T := zrs hZ rfl f L st σ n k w
theorem f_X14_draw_51 (hZ : ZRN (ztb (tb_X14_draw E d mc ms)) cut G R T Z) (f : Nat) (L : ZLV) (st : List Value) (σ : ZHp) (n k w : Nat) : Z (f + 1) 51 L st σ n k w = s_iload 1 52 L st σ n k w (zk1 cut G (Z f)) G R T := zrs hZ rfl f L st σ n k w
theorem f_X14_draw_52 (hZ : ZRN (ztb (tb_X14_draw E d mc ms)) cut G R T Z) (f : Nat) (L : ZLV) (st : List Value) (σ : ZHp) (n k w : Nat) : Z (f + 1) 52 L st σ n k w = s_imul 53 L st σ n k w (zk1 cut G (Z f)) G R T := zrs hZ rfl f L st σ n k w
theorem f_X14_draw_53 (hZ : ZRN (ztb (tb_X14_draw E d mc ms)) cut G R T Z) (f : Nat) (L : ZLV) (st : List Value) (σ : ZHp) (n k w : Nat) : Z (f + 1) 53 L st σ n k w = s_const (.int (1)) 54 L st σ n k w (zk1 cut G (Z f)) G R T := zrs hZ rfl f L st σ n k w
theorem f_X14_draw_54 (hZ : ZRN (ztb (tb_X14_draw E d mc ms)) cut G R T Z) (f : Nat) (L : ZLV) (st : List Value) (σ : ZHp) (n k w : Nat) : Z (f + 1) 54 L st σ n k w = s_iadd 55 L st σ n k w (zk1 cut G (Z f)) G R T := zrs hZ rfl f L st σ n k w
theorem f_X14_draw_55 (hZ : ZRN (ztb (tb_X14_draw E d mc ms)) cut G R T Z) (f : Nat) (L : ZLV) (st : List Value) (σ : ZHp) (n k w : Nat) : Z (f + 1) 55 L st σ n k w = s_aload 0 56 L st σ n k w (zk1 cut G (Z f)) G R T := zrs hZ rfl f L st σ n k w
theorem f_X14_draw_56 (hZ : ZRN (ztb (tb_X14_draw E d mc ms)) cut G R T Z) (f : Nat) (L : ZLV) (st : List Value) (σ : ZHp) (n k w : Nat) : Z (f + 1) 56 L st σ n k w = s_getf 13 6 59 L st σ n k w (zk1 cut G (Z f)) G R T := zrs hZ rfl f L st σ n k w
theorem f_X14_draw_59 (hZ : ZRN (ztb (tb_X14_draw E d mc ms)) cut G R T Z) (f : Nat) (L : ZLV) (st : List Value) (σ : ZHp) (n k w : Nat) : Z (f + 1) 59 L st σ n k w = s_const (.int (60)) 61 L st σ n k w (zk1 cut G (Z f)) G R T := zrs hZ rfl f L st σ n k w
theorem f_X14_draw_61 (hZ : ZRN (ztb (tb_X14_draw E d mc ms)) cut G R T Z) (f : Nat) (L : ZLV) (st : List Value) (σ : ZHp) (n k w : Nat) : Z (f + 1) 61 L st σ n k w = s_iload 1 62 L st σ n k w (zk1 cut G (Z f)) G R T := zrs hZ rfl f L st σ n k w
theorem f_X14_draw_62 (hZ : ZRN (ztb (tb_X14_draw E d mc ms)) cut G R T Z) (f : Nat) (L : ZLV) (st : List Value) (σ : ZHp) (n k w : Nat) : Z (f + 1) 62 L st σ n k w = s_imul 63 L st σ n k w (zk1 cut G (Z f)) G R T := zrs hZ rfl f L st σ n k w
theorem f_X14_draw_63 (hZ : ZRN (ztb (tb_X14_draw E d mc ms)) cut G R T Z) (f : Nat) (L : ZLV) (st : List Value) (σ : ZHp) (n k w : Nat) : Z (f + 1) 63 L st σ n k w = s_aload 0 64 L st σ n k w (zk1 cut G (Z f)) G R T := zrs hZ rfl f L st σ n k w
theorem f_X14_draw_64 (hZ : ZRN (ztb (tb_X14_draw E d mc ms)) cut G R T Z) (f : Nat) (L : ZLV) (st : List Value) (σ : ZHp) (n k w : Nat) : Z (f + 1) 64 L st σ n k w = s_getf 13 7 67 L st σ n k w (zk1 cut G (Z f)) G R T := zrs hZ rfl f L st σ n k w
theorem f_X14_draw_67 (hZ : ZRN (ztb (tb_X14_draw E d mc ms)) cut G R T Z) (f : Nat) (L : ZLV) (st : List Value) (σ : ZHp) (n k w : Nat) : Z (f + 1) 67 L st σ n k w = s_iload 1 68 L st σ n k w (zk1 cut G (Z f)) G R T := zrs hZ rfl f L st σ n k w
theorem f_X14_draw_68 (hZ : ZRN (ztb (tb_X14_draw E d mc ms)) cut G R T Z) (f : Nat) (L : ZLV) (st : List Value) (σ : ZHp) (n k w : Nat) : Z (f + 1) 68 L st σ n k w = s_iaload E 69 L st σ n k w (zk1 cut G (Z f)) G R T := zrs hZ rfl f L st σ n k w
theorem f_X14_draw_69 (hZ : ZRN (ztb (tb_X14_draw E d mc ms)) cut G R T Z) (f : Nat) (L : ZLV) (st : List Value) (σ : ZHp) (n k w : Nat) : Z (f + 1) 69 L st σ n k w = s_acopy E d 72 L st σ n k w (zk1 cut G (Z f)) G R T := zrs hZ rfl f L st σ n k w
theorem f_X14_draw_72 (hZ : ZRN (ztb (tb_X14_draw E d mc ms)) cut G R T Z) (f : Nat) (L : ZLV) (st : List Value) (σ : ZHp) (n k w : Nat) : Z (f + 1) 72 L st σ n k w = s_iload 2 73 L st σ n k w (zk1 cut G (Z f)) G R T := zrs hZ rfl f L st σ n k w
theorem f_X14_draw_73 (hZ : ZRN (ztb (tb_X14_draw E d mc ms)) cut G R T Z) (f : Nat) (L : ZLV) (st : List Value) (σ : ZHp) (n k w : Nat) : Z (f + 1) 73 L st σ n k w = s_ireturn L st σ n k w (zk1 cut G (Z f)) G R T := zrs hZ rfl f L st σ n k w
theorem f_X14_has_0 (hZ : ZRN (ztb (tb_X14_has E d mc ms)) cut G R T Z) (f : Nat) (L : ZLV) (st : List Value) (σ : ZHp) (n k w : Nat) : Z (f + 1) 0 L st σ n k w = s_const (.int (0)) 1 L st σ n k w (zk1 cut G (Z f)) G R T := zrs hZ rfl f L st σ n k w
theorem f_X14_has_1 (hZ : ZRN (ztb (tb_X14_has E d mc ms)) cut G R T Z) (f : Nat) (L : ZLV) (st : List Value) (σ : ZHp) (n k w : Nat) : Z (f + 1) 1 L st σ n k w = s_istore 3 2 L st σ n k w (zk1 cut G (Z f)) G R T := zrs hZ rfl f L st σ n k w
theorem f_X14_has_2 (hZ : ZRN (ztb (tb_X14_has E d mc ms)) cut G R T Z) (f : Nat) (L : ZLV) (st : List Value) (σ : ZHp) (n k w : Nat) : Z (f + 1) 2 L st σ n k w = s_const (.int (0)) 3 L st σ n k w (zk1 cut G (Z f)) G R T := zrs hZ rfl f L st σ n k w
theorem f_X14_has_3 (hZ : ZRN (ztb (tb_X14_has E d mc ms)) cut G R T Z) (f : Nat) (L : ZLV) (st : List Value) (σ : ZHp) (n k w : Nat) : Z (f + 1) 3 L st σ n k w = s_istore 4 5 L st σ n k w (zk1 cut G (Z f)) G R T := zrs hZ rfl f L st σ n k w
theorem f_X14_has_5 (hZ : ZRN (ztb (tb_X14_has E d mc ms)) cut G R T Z) (f : Nat) (L : ZLV) (st : List Value) (σ : ZHp) (n k w : Nat) : Z (f + 1) 5 L st σ n k w = s_iload 4 7 L st σ n k w (zk1 cut G (Z f)) G R T := zrs hZ rfl f L st σ n k w
theorem f_X14_has_7 (hZ : ZRN (ztb (tb_X14_has E d mc ms)) cut G R T Z) (f : Nat) (L : ZLV) (st : List Value) (σ : ZHp) (n k w : Nat) : Z (f + 1) 7 L st σ n k w = s_aload 0 8 L st σ n k w (zk1 cut G (Z f)) G R T := zrs hZ rfl f L st σ n k w
theorem f_X14_has_8 (hZ : ZRN (ztb (tb_X14_has E d mc ms)) cut G R T Z) (f : Nat) (L : ZLV) (st : List Value) (σ : ZHp) (n k w : Nat) : Z (f + 1) 8 L st σ n k w = s_getf 13 7 11 L st σ n k w (zk1 cut G (Z f)) G R T := zrs hZ rfl f L st σ n k w
theorem f_X14_has_11 (hZ : ZRN (ztb (tb_X14_has E d mc ms)) cut G R T Z) (f : Nat) (L : ZLV) (st : List Value) (σ : ZHp) (n k w : Nat) : Z (f + 1) 11 L st σ n k w = s_iload 1 12 L st σ n k w (zk1 cut G (Z f)) G R T := zrs hZ rfl f L st σ n k w
theorem f_X14_has_12 (hZ : ZRN (ztb (tb_X14_has E d mc ms)) cut G R T Z) (f : Nat) (L : ZLV) (st : List Value) (σ : ZHp) (n k w : Nat) : Z (f + 1) 12 L st σ n k w = s_iaload E 13 L st σ n k w (zk1 cut G (Z f)) G R T := zrs hZ rfl f L st σ n k w
theorem f_X14_has_13 (hZ : ZRN (ztb (tb_X14_has E d mc ms)) cut G R T Z) (f : Nat) (L : ZLV) (st : List Value) (σ : ZHp) (n k w : Nat) : Z (f + 1) 13 L st σ n k w = s_icmp_ge 46 16 L st σ n k w (zk1 cut G (Z f)) G R T := zrs hZ rfl f L st σ n k w
theorem f_X14_has_16 (hZ : ZRN (ztb (tb_X14_has E d mc ms)) cut G R T Z) (f : Nat) (L : ZLV) (st : List Value) (σ : ZHp) (n k w : Nat) : Z (f + 1) 16 L st σ n k w = s_iload 3 17 L st σ n k w (zk1 cut G (Z f)) G R T := zrs hZ rfl f L st σ n k w
theorem f_X14_has_17 (hZ : ZRN (ztb (tb_X14_has E d mc ms)) cut G R T Z) (f : Nat) (L : ZLV) (st : List Value) (σ : ZHp) (n k w : Nat) : Z (f + 1) 17 L st σ n k w = s_aload 0 18 L st σ n k w (zk1 cut G (Z f)) G R T := zrs hZ rfl f L st σ n k w
theorem f_X14_has_18 (hZ : ZRN (ztb (tb_X14_has E d mc ms)) cut G R T Z) (f : Nat) (L : ZLV) (st : List Value) (σ : ZHp) (n k w : Nat) : Z (f + 1) 18 L st σ n k w = s_getf 13 6 21 L st σ n k w (zk1 cut G (Z f)) G R T := zrs hZ rfl f L st σ n k w
theorem f_X14_has_21 (hZ : ZRN (ztb (tb_X14_has E d mc ms)) cut G R T Z) (f : Nat) (L : ZLV) (st : List Value) (σ : ZHp) (n k w : Nat) : Z (f + 1) 21 L st σ n k w = s_const (.int (60)) 23 L st σ n k w (zk1 cut G (Z f)) G R T := zrs hZ rfl f L st σ n k w
theorem f_X14_has_23 (hZ : ZRN (ztb (tb_X14_has E d mc ms)) cut G R T Z) (f : Nat) (L : ZLV) (st : List Value) (σ : ZHp) (n k w : Nat) : Z (f + 1) 23 L st σ n k w = s_iload 1 24 L st σ n k w (zk1 cut G (Z f)) G R T := zrs hZ rfl f L st σ n k w
theorem f_X14_has_24 (hZ : ZRN (ztb (tb_X14_has E d mc ms)) cut G R T Z) (f : Nat) (L : ZLV) (st : List Value) (σ : ZHp) (n k w : Nat) : Z (f + 1) 24 L st σ n k w = s_imul 25 L st σ n k w (zk1 cut G (Z f)) G R T := zrs hZ rfl f L st σ n k w
theorem f_X14_has_25 (hZ : ZRN (ztb (tb_X14_has E d mc ms)) cut G R T Z) (f : Nat) (L : ZLV) (st : List Value) (σ : ZHp) (n k w : Nat) : Z (f + 1) 25 L st σ n k w = s_iload 4 27 L st σ n k w (zk1 cut G (Z f)) G R T := zrs hZ rfl f L st σ n k w
theorem f_X14_has_27 (hZ : ZRN (ztb (tb_X14_has E d mc ms)) cut G R T Z) (f : Nat) (L : ZLV) (st : List Value) (σ : ZHp) (n k w : Nat) : Z (f + 1) 27 L st σ n k w = s_iadd 28 L st σ n k w (zk1 cut G (Z f)) G R T := zrs hZ rfl f L st σ n k w
theorem f_X14_has_28 (hZ : ZRN (ztb (tb_X14_has E d mc ms)) cut G R T Z) (f : Nat) (L : ZLV) (st : List Value) (σ : ZHp) (n k w : Nat) : Z (f + 1) 28 L st σ n k w = s_iaload E 29 L st σ n k w (zk1 cut G (Z f)) G R T := zrs hZ rfl f L st σ n k w
theorem f_X14_has_29 (hZ : ZRN (ztb (tb_X14_has E d mc ms)) cut G R T Z) (f : Nat) (L : ZLV) (st : List Value) (σ : ZHp) (n k w : Nat) : Z (f + 1) 29 L st σ n k w = s_iload 2 30 L st σ n k w (zk1 cut G (Z f)) G R T := zrs hZ rfl f L st σ n k w
theorem f_X14_has_30 (hZ : ZRN (ztb (tb_X14_has E d mc ms)) cut G R T Z) (f : Nat) (L : ZLV) (st : List Value) (σ : ZHp) (n k w : Nat) : Z (f + 1) 30 L st σ n k w = s_icmp_ne 37 33 L st σ n k w (zk1 cut G (Z f)) G R T := zrs hZ rfl f L st σ n k w
theorem f_X14_has_33 (hZ : ZRN (ztb (tb_X14_has E d mc ms)) cut G R T Z) (f : Nat) (L : ZLV) (st : List Value) (σ : ZHp) (n k w : Nat) : Z (f + 1) 33 L st σ n k w = s_const (.int (1)) 34 L st σ n k w (zk1 cut G (Z f)) G R T := zrs hZ rfl f L st σ n k w
theorem f_X14_has_34 (hZ : ZRN (ztb (tb_X14_has E d mc ms)) cut G R T Z) (f : Nat) (L : ZLV) (st : List Value) (σ : ZHp) (n k w : Nat) : Z (f + 1) 34 L st σ n k w = s_goto 38 L st σ n k w (zk1 cut G (Z f)) G R T := zrs hZ rfl f L st σ n k w
theorem f_X14_has_37 (hZ : ZRN (ztb (tb_X14_has E d mc ms)) cut G R T Z) (f : Nat) (L : ZLV) (st : List Value) (σ : ZHp) (n k w : Nat) : Z (f + 1) 37 L st σ n k w = s_const (.int (0)) 38 L st σ n k w (zk1 cut G (Z f)) G R T := zrs hZ rfl f L st σ n k w
theorem f_X14_has_38 (hZ : ZRN (ztb (tb_X14_has E d mc ms)) cut G R T Z) (f : Nat) (L : ZLV) (st : List Value) (σ : ZHp) (n k w : Nat) : Z (f + 1) 38 L st σ n k w = s_iadd 39 L st σ n k w (zk1 cut G (Z f)) G R T := zrs hZ rfl f L st σ n k w
theorem f_X14_has_39 (hZ : ZRN (ztb (tb_X14_has E d mc ms)) cut G R T Z) (f : Nat) (L : ZLV) (st : List Value) (σ : ZHp) (n k w : Nat) : Z (f + 1) 39 L st σ n k w = s_istore 3 40 L st σ n k w (zk1 cut G (Z f)) G R T := zrs hZ rfl f L st σ n k w
theorem f_X14_has_40 (hZ : ZRN (ztb (tb_X14_has E d mc ms)) cut G R T Z) (f : Nat) (L : ZLV) (st : List Value) (σ : ZHp) (n k w : Nat) : Z (f + 1) 40 L st σ n k w = s_iinc 4 (1) 43 L st σ n k w (zk1 cut G (Z f)) G R T := zrs hZ rfl f L st σ n k w
theorem f_X14_has_43 (hZ : ZRN (ztb (tb_X14_has E d mc ms)) cut G R T Z) (f : Nat) (L : ZLV) (st : List Value) (σ : ZHp) (n k w : Nat) : Z (f + 1) 43 L st σ n k w = s_goto 5 L st σ n k w (zk1 cut G (Z f)) G R T := zrs hZ rfl f L st σ n k w
theorem f_X14_has_46 (hZ : ZRN (ztb (tb_X14_has E d mc ms)) cut G R T Z) (f : Nat) (L : ZLV) (st : List Value) (σ : ZHp) (n k w : Nat) : Z (f + 1) 46 L st σ n k w = s_const (.int (0)) 47 L st σ n k w (zk1 cut G (Z f)) G R T := zrs hZ rfl f L st σ n k w
theorem f_X14_has_47 (hZ : ZRN (ztb (tb_X14_has E d mc ms)) cut G R T Z) (f : Nat) (L : ZLV) (st : List Value) (σ : ZHp) (n k w : Nat) : Z (f + 1) 47 L st σ n k w = s_istore 4 49 L st σ n k w (zk1 cut G (Z f)) G R T := zrs hZ rfl f L st σ n k w
theorem f_X14_has_49 (hZ : ZRN (ztb (tb_X14_has E d mc ms)) cut G R T Z) (f : Nat) (L : ZLV) (st : List Value) (σ : ZHp) (n k w : Nat) : Z (f + 1) 49 L st σ n k w = s_iload 4 51 L st σ n k w (zk1 cut G (Z f)) G R T := zrs hZ rfl f L st σ n k w
theorem f_X14_has_51 (hZ : ZRN (ztb (tb_X14_has E d mc ms)) cut G R T Z) (f : Nat) (L : ZLV) (st : List Value) (σ : ZHp) (n k w : Nat) : Z (f + 1) 51 L st σ n k w = s_aload 0 52 L st σ n k w (zk1 cut G (Z f)) G R T := zrs hZ rfl f L st σ n k w
theorem f_X14_has_52 (hZ : ZRN (ztb (tb_X14_has E d mc ms)) cut G R T Z) (f : Nat) (L : ZLV) (st : List Value) (σ : ZHp) (n k w : Nat) : Z (f + 1) 52 L st σ n k w = s_getf 13 9 55 L st σ n k w (zk1 cut G (Z f)) G R T := zrs hZ rfl f L st σ n k w
theorem f_X14_has_55 (hZ : ZRN (ztb (tb_X14_has E d mc ms)) cut G R T Z) (f : Nat) (L : ZLV) (st : List Value) (σ : ZHp) (n k w : Nat) : Z (f + 1) 55 L st σ n k w = s_iload 1 56 L st σ n k w (zk1 cut G (Z f)) G R T := zrs hZ rfl f L st σ n k w
theorem f_X14_has_56 (hZ : ZRN (ztb (tb_X14_has E d mc ms)) cut G R T Z) (f : Nat) (L : ZLV) (st : List Value) (σ : ZHp) (n k w : Nat) : Z (f + 1) 56 L st σ n k w = s_iaload E 57 L st σ n k w (zk1 cut G (Z f)) G R T := zrs hZ rfl f L st σ n k w
theorem f_X14_has_57 (hZ : ZRN (ztb (tb_X14_has E d mc ms)) cut G R T Z) (f : Nat) (L : ZLV) (st : List Value) (σ : ZHp) (n k w : Nat) : Z (f + 1) 57 L st σ n k w = s_icmp_ge 90 60 L st σ n k w (zk1 cut G (Z f)) G R T := zrs hZ rfl f L st σ n k w
theorem f_X14_has_60 (hZ : ZRN (ztb (tb_X14_has E d mc ms)) cut G R T Z) (f : Nat) (L : ZLV) (st : List Value) (σ : ZHp) (n k w : Nat) : Z (f + 1) 60 L st σ n k w = s_iload 3 61 L st σ n k w (zk1 cut G (Z f)) G R T := zrs hZ rfl f L st σ n k w
theorem f_X14_has_61 (hZ : ZRN (ztb (tb_X14_has E d mc ms)) cut G R T Z) (f : Nat) (L : ZLV) (st : List Value) (σ : ZHp) (n k w : Nat) : Z (f + 1) 61 L st σ n k w = s_aload 0 62 L st σ n k w (zk1 cut G (Z f)) G R T := zrs hZ rfl f L st σ n k w
theorem f_X14_has_62 (hZ : ZRN (ztb (tb_X14_has E d mc ms)) cut G R T Z) (f : Nat) (L : ZLV) (st : List Value) (σ : ZHp) (n k w : Nat) : Z (f + 1) 62 L st σ n k w = s_getf 13 8 65 L st σ n k w (zk1 cut G (Z f)) G R T := zrs hZ rfl f L st σ n k w
theorem f_X14_has_65 (hZ : ZRN (ztb (tb_X14_has E d mc ms)) cut G R T Z) (f : Nat) (L : ZLV) (st : List Value) (σ : ZHp) (n k w : Nat) : Z (f + 1) 65 L st σ n k w = s_const (.int (60)) 67 L st σ n k w (zk1 cut G (Z f)) G R T := zrs hZ rfl f L st σ n k w
theorem f_X14_has_67 (hZ : ZRN (ztb (tb_X14_has E d mc ms)) cut G R T Z) (f : Nat) (L : ZLV) (st : List Value) (σ : ZHp) (n k w : Nat) : Z (f + 1) 67 L st σ n k w = s_iload 1 68 L st σ n k w (zk1 cut G (Z f)) G R T := zrs hZ rfl f L st σ n k w
theorem f_X14_has_68 (hZ : ZRN (ztb (tb_X14_has E d mc ms)) cut G R T Z) (f : Nat) (L : ZLV) (st : List Value) (σ : ZHp) (n k w : Nat) : Z (f + 1) 68 L st σ n k w = s_imul 69 L st σ n k w (zk1 cut G (Z f)) G R T := zrs hZ rfl f L st σ n k w
theorem f_X14_has_69 (hZ : ZRN (ztb (tb_X14_has E d mc ms)) cut G R T Z) (f : Nat) (L : ZLV) (st : List Value) (σ : ZHp) (n k w : Nat) : Z (f + 1) 69 L st σ n k w = s_iload 4 71 L st σ n k w (zk1 cut G (Z f)) G R T := zrs hZ rfl f L st σ n k w
theorem f_X14_has_71 (hZ : ZRN (ztb (tb_X14_has E d mc ms)) cut G R T Z) (f : Nat) (L : ZLV) (st : List Value) (σ : ZHp) (n k w : Nat) : Z (f + 1) 71 L st σ n k w = s_iadd 72 L st σ n k w (zk1 cut G (Z f)) G R T := zrs hZ rfl f L st σ n k w
theorem f_X14_has_72 (hZ : ZRN (ztb (tb_X14_has E d mc ms)) cut G R T Z) (f : Nat) (L : ZLV) (st : List Value) (σ : ZHp) (n k w : Nat) : Z (f + 1) 72 L st σ n k w = s_iaload E 73 L st σ n k w (zk1 cut G (Z f)) G R T := zrs hZ rfl f L st σ n k w
theorem f_X14_has_73 (hZ : ZRN (ztb (tb_X14_has E d mc ms)) cut G R T Z) (f : Nat) (L : ZLV) (st : List Value) (σ : ZHp) (n k w : Nat) : Z (f + 1) 73 L st σ n k w = s_iload 2 74 L st σ n k w (zk1 cut G (Z f)) G R T := zrs hZ rfl f L st σ n k w
theorem f_X14_has_74 (hZ : ZRN (ztb (tb_X14_has E d mc ms)) cut G R T Z) (f : Nat) (L : ZLV) (st : List Value) (σ : ZHp) (n k w : Nat) : Z (f + 1) 74 L st σ n k w = s_icmp_ne 81 77 L st σ n k w (zk1 cut G (Z f)) G R T := zrs hZ rfl f L st σ n k w
theorem f_X14_has_77 (hZ : ZRN (ztb (tb_X14_has E d mc ms)) cut G R T Z) (f : Nat) (L : ZLV) (st : List Value) (σ : ZHp) (n k w : Nat) : Z (f + 1) 77 L st σ n k w = s_const (.int (1)) 78 L st σ n k w (zk1 cut G (Z f)) G R T := zrs hZ rfl f L st σ n k w
theorem f_X14_has_78 (hZ : ZRN (ztb (tb_X14_has E d mc ms)) cut G R T Z) (f : Nat) (L : ZLV) (st : List Value) (σ : ZHp) (n k w : Nat) : Z (f + 1) 78 L st σ n k w = s_goto 82 L st σ n k w (zk1 cut G (Z f)) G R T := zrs hZ rfl f L st σ n k w
theorem f_X14_has_81 (hZ : ZRN (ztb (tb_X14_has E d mc ms)) cut G R T Z) (f : Nat) (L : ZLV) (st : List Value) (σ : ZHp) (n k w : Nat) : Z (f + 1) 81 L st σ n k w = s_const (.int (0)) 82 L st σ n k w (zk1 cut G (Z f)) G R T := zrs hZ rfl f L st σ n k w
theorem f_X14_has_82 (hZ : ZRN (ztb (tb_X14_has E d mc ms)) cut G R T Z) (f : Nat) (L : ZLV) (st : List Value) (σ : ZHp) (n k w : Nat) : Z (f + 1) 82 L st σ n k w = s_iadd 83 L st σ n k w (zk1 cut G (Z f)) G R T := zrs hZ rfl f L st σ n k w
theorem f_X14_has_83 (hZ : ZRN (ztb (tb_X14_has E d mc ms)) cut G R T Z) (f : Nat) (L : ZLV) (st : List Value) (σ : ZHp) (n k w : Nat) : Z (f + 1) 83 L st σ n k w = s_istore 3 84 L st σ n k w (zk1 cut G (Z f)) G R T := zrs hZ rfl f L st σ n k w
theorem f_X14_has_84 (hZ : ZRN (ztb (tb_X14_has E d mc ms)) cut G R T Z) (f : Nat) (L : ZLV) (st : List Value) (σ : ZHp) (n k w : Nat) : Z (f + 1) 84 L st σ n k w = s_iinc 4 (1) 87 L st σ n k w (zk1 cut G (Z f)) G R T := zrs hZ rfl f L st σ n k w
theorem f_X14_has_87 (hZ : ZRN (ztb (tb_X14_has E d mc ms)) cut G R T Z) (f : Nat) (L : ZLV) (st : List Value) (σ : ZHp) (n k w : Nat) : Z (f + 1) 87 L st σ n k w = s_goto 49 L st σ n k w (zk1 cut G (Z f)) G R T := zrs hZ rfl f L st σ n k w
theorem f_X14_has_90 (hZ : ZRN (ztb (tb_X14_has E d mc ms)) cut G R T Z) (f : Nat) (L : ZLV) (st : List Value) (σ : ZHp) (n k w : Nat) : Z (f + 1) 90 L st σ n k w = s_iload 3 91 L st σ n k w (zk1 cut G (Z f)) G R T := zrs hZ rfl f L st σ n k w
theorem f_X14_has_91 (hZ : ZRN (ztb (tb_X14_has E d mc ms)) cut G R T Z) (f : Nat) (L : ZLV) (st : List Value) (σ : ZHp) (n k w : Nat) : Z (f + 1) 91 L st σ n k w = s_ireturn L st σ n k w (zk1 cut G (Z f)) G R T := zrs hZ rfl f L st σ n k w
theorem f_X14_all_0 (hZ : ZRN (ztb (tb_X14_all E d mc ms)) cut G R T Z) (f : Nat) (L : ZLV) (st : List Value) (σ : ZHp) (n k w : Nat) : Z (f + 1) 0 L st σ n k w = s_aload 0 1 L st σ n k w (zk1 cut G (Z f)) G R T := zrs hZ rfl f L st σ n k w
theorem f_X14_all_1 (hZ : ZRN (ztb (tb_X14_all E d mc ms)) cut G R T Z) (f : Nat) (L : ZLV) (st : List Value) (σ : ZHp) (n k w : Nat) : Z (f + 1) 1 L st σ n k w = s_getf 13 7 4 L st σ n k w (zk1 cut G (Z f)) G R T := zrs hZ rfl f L st σ n k w
theorem f_X14_all_4 (hZ : ZRN (ztb (tb_X14_all E d mc ms)) cut G R T Z) (f : Nat) (L : ZLV) (st : List Value) (σ : ZHp) (n k w : Nat) : Z (f + 1) 4 L st σ n k w = s_iload 1 5 L st σ n k w (zk1 cut G (Z f)) G R T := zrs hZ rfl f L st σ n k w
theorem f_X14_all_5 (hZ : ZRN (ztb (tb_X14_all E d mc ms)) cut G R T Z) (f : Nat) (L : ZLV) (st : List Value) (σ : ZHp) (n k w : Nat) : Z (f + 1) 5 L st σ n k w = s_iaload E 6 L st σ n k w (zk1 cut G (Z f)) G R T := zrs hZ rfl f L st σ n k w
theorem f_X14_all_6 (hZ : ZRN (ztb (tb_X14_all E d mc ms)) cut G R T Z) (f : Nat) (L : ZLV) (st : List Value) (σ : ZHp) (n k w : Nat) : Z (f + 1) 6 L st σ n k w = s_aload 0 7 L st σ n k w (zk1 cut G (Z f)) G R T := zrs hZ rfl f L st σ n k w
theorem f_X14_all_7 (hZ : ZRN (ztb (tb_X14_all E d mc ms)) cut G R T Z) (f : Nat) (L : ZLV) (st : List Value) (σ : ZHp) (n k w : Nat) : Z (f + 1) 7 L st σ n k w = s_getf 13 9 10 L st σ n k w (zk1 cut G (Z f)) G R T := zrs hZ rfl f L st σ n k w
theorem f_X14_all_10 (hZ : ZRN (ztb (tb_X14_all E d mc ms)) cut G R T Z) (f : Nat) (L : ZLV) (st : List Value) (σ : ZHp) (n k w : Nat) : Z (f + 1) 10 L st σ n k w = s_iload 1 11 L st σ n k w (zk1 cut G (Z f)) G R T := zrs hZ rfl f L st σ n k w
theorem f_X14_all_11 (hZ : ZRN (ztb (tb_X14_all E d mc ms)) cut G R T Z) (f : Nat) (L : ZLV) (st : List Value) (σ : ZHp) (n k w : Nat) : Z (f + 1) 11 L st σ n k w = s_iaload E 12 L st σ n k w (zk1 cut G (Z f)) G R T := zrs hZ rfl f L st σ n k w
theorem f_X14_all_12 (hZ : ZRN (ztb (tb_X14_all E d mc ms)) cut G R T Z) (f : Nat) (L : ZLV) (st : List Value) (σ : ZHp) (n k w : Nat) : Z (f + 1) 12 L st σ n k w = s_iadd 13 L st σ n k w (zk1 cut G (Z f)) G R T := zrs hZ rfl f L st σ n k w
theorem f_X14_all_13 (hZ : ZRN (ztb (tb_X14_all E d mc ms)) cut G R T Z) (f : Nat) (L : ZLV) (st : List Value) (σ : ZHp) (n k w : Nat) : Z (f + 1) 13 L st σ n k w = s_ireturn L st σ n k w (zk1 cut G (Z f)) G R T := zrs hZ rfl f L st σ n k w
end
