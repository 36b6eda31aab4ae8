/-! TABLES: what each instruction does, that it does so, and each one by its place (printed by wip/whole/gen/gentab.py) -/
def tb_X7_init (E : ZEX) (d mc ms : Nat) : List (Nat × ZStep) := [(0, s_aload 0 1), (1, s_objinit d 4), (4, s_aload 0 5), (5, s_const (.int (10)) 7), (7, s_newL E mc ms 9), (9, s_putf 6 0 3 12), (12, s_aload 0 13), (13, s_const (.int (4)) 14), (14, s_newL E mc ms 16), (16, s_putf 6 1 3 19), (19, s_aload 0 20), (20, s_new 5 15 fsX6 mc ms 23), (23, s_dup 24), (24, s_callI E d mc ms MX6_init 0 27), (27, s_putf 6 2 3 30), (30, s_aload 0 31), (31, s_const (.int (0)) 32), (32, s_putf 6 3 0 35), (35, s_aload 0 36), (36, s_const (.int (-1)) 37), (37, s_putf 6 4 0 40), (40, s_aload 0 41), (41, s_const (.int (0)) 42), (42, s_putf 6 5 0 45), (45, s_return)]
set_option maxRecDepth 20000 in
theorem ok_X7_init {E : ZEX} {X : ZMX} {d mc ms : Nat} {P : ZPT} {T : ZTT} (h : ZCX E X MX7_init d mc ms P T) : ∀ pc, ZRow E X MX7_init mc ms P T pc (ztb (tb_X7_init E d mc ms) pc) := ztb_ok (by
  unfold tb_X7_init
  refine zfmc (r_aload_n h (pc := 0) (kf := 0) 0 (by decide +kernel) rfl) ?_
  refine zfmc (r_objinit h (pc := 1) (ix := 3) (by decide +kernel) wk_e5adcf647e wk_ee0d472f0f wk_13171937f3) ?_
  refine zfmc (r_aload_n h (pc := 4) (kf := 0) 0 (by decide +kernel) rfl) ?_
  refine zfmc (r_bipush h (pc := 5) (z := 10) (by decide +kernel) (10) (by decide +kernel)) ?_
  refine zfmc (r_newL h (pc := 7) (by decide +kernel) wk_c8524a40b5) ?_
  refine zfmc (r_putfF h (pc := 9) (ix := 9) (by decide +kernel) ckX7 0 (by decide) 3 (fty := tyX7 0) (tyX7_ok 0 (by decide)) rfl rfl rfl rfl wk_e3bfe8f0fc) ?_
  refine zfmc (r_aload_n h (pc := 12) (kf := 0) 0 (by decide +kernel) rfl) ?_
  refine zfmc (r_iconst h (pc := 13) (z := 4) (by decide +kernel) (4) (by decide +kernel)) ?_
  refine zfmc (r_newL h (pc := 14) (by decide +kernel) wk_c8524a40b5) ?_
  refine zfmc (r_putfF h (pc := 16) (ix := 15) (by decide +kernel) ckX7 1 (by decide) 3 (fty := tyX7 1) (tyX7_ok 1 (by decide)) rfl rfl rfl rfl wk_c3685fc114) ?_
  refine zfmc (r_aload_n h (pc := 19) (kf := 0) 0 (by decide +kernel) rfl) ?_
  refine zfmc (r_new h (pc := 20) (ix := 18) (by decide +kernel) ckX6 fsX6 tyX6 tyX6_ok fsX6_ok wk_bacc5da6f3 wk_1b44a7534a wk_a96b087aca) ?_
  refine zfmc (r_dup h (pc := 23) (by decide +kernel)) ?_
  refine zfmc (r_callIN h (pc := 24) (ix := 20) (by decide +kernel) 0 mcX6_init wk_e1bc6dc3f3 rfl rfl wk_df4ab40ab4) ?_
  refine zfmc (r_putf h (pc := 27) (ix := 21) (by decide +kernel) ckX7 2 (by decide) 3 (fty := tyX7 2) (tyX7_ok 2 (by decide)) rfl rfl wk_17d695debe) ?_
  refine zfmc (r_aload_n h (pc := 30) (kf := 0) 0 (by decide +kernel) rfl) ?_
  refine zfmc (r_iconst h (pc := 31) (z := 0) (by decide +kernel) (0) (by decide +kernel)) ?_
  refine zfmc (r_putf h (pc := 32) (ix := 25) (by decide +kernel) ckX7 3 (by decide) 0 (fty := tyX7 3) (tyX7_ok 3 (by decide)) rfl rfl wk_167547b358) ?_
  refine zfmc (r_aload_n h (pc := 35) (kf := 0) 0 (by decide +kernel) rfl) ?_
  refine zfmc (r_iconst h (pc := 36) (z := -1) (by decide +kernel) (-1) (by decide +kernel)) ?_
  refine zfmc (r_putf h (pc := 37) (ix := 29) (by decide +kernel) ckX7 4 (by decide) 0 (fty := tyX7 4) (tyX7_ok 4 (by decide)) rfl rfl wk_bca31db031) ?_
  refine zfmc (r_aload_n h (pc := 40) (kf := 0) 0 (by decide +kernel) rfl) ?_
  refine zfmc (r_iconst h (pc := 41) (z := 0) (by decide +kernel) (0) (by decide +kernel)) ?_
  refine zfmc (r_putf h (pc := 42) (ix := 32) (by decide +kernel) ckX7 5 (by decide) 0 (fty := tyX7 5) (tyX7_ok 5 (by decide)) rfl rfl wk_77218926ed) ?_
  refine zfmc (r_return h (pc := 45) (by decide +kernel) rfl) ?_
  exact zfm0)
def tb_X7_begin (E : ZEX) (d mc ms : Nat) : List (Nat × ZStep) := [(0, s_aload 0 1), (1, s_aload 1 2), (2, s_putf 6 2 3 5), (5, s_aload 0 6), (6, s_const (.int (0)) 7), (7, s_putf 6 3 0 10), (10, s_aload 0 11), (11, s_const (.int (-1)) 12), (12, s_putf 6 4 0 15), (15, s_return)]
set_option maxRecDepth 20000 in
theorem ok_X7_begin {E : ZEX} {X : ZMX} {d mc ms : Nat} {P : ZPT} {T : ZTT} (h : ZCX E X MX7_begin d mc ms P T) : ∀ pc, ZRow E X MX7_begin mc ms P T pc (ztb (tb_X7_begin E d mc ms) pc) := ztb_ok (by
  unfold tb_X7_begin
  refine zfmc (r_aload_n h (pc := 0) (kf := 0) 0 (by decide +kernel) rfl) ?_
  refine zfmc (r_aload_n h (pc := 1) (kf := 1) 1 (by decide +kernel) rfl) ?_
  refine zfmc (r_putf h (pc := 2) (ix := 21) (by decide +kernel) ckX7 2 (by decide) 3 (fty := tyX7 2) (tyX7_ok 2 (by decide)) rfl rfl wk_17d695debe) ?_
  refine zfmc (r_aload_n h (pc := 5) (kf := 0) 0 (by decide +kernel) rfl) ?_
  refine zfmc (r_iconst h (pc := 6) (z := 0) (by decide +kernel) (0) (by decide +kernel)) ?_
  refine zfmc (r_putf h (pc := 7) (ix := 25) (by decide +kernel) ckX7 3 (by decide) 0 (fty := tyX7 3) (tyX7_ok 3 (by decide)) rfl rfl wk_167547b358) ?_
  refine zfmc (r_aload_n h (pc := 10) (kf := 0) 0 (by decide +kernel) rfl) ?_
  refine zfmc (r_iconst h (pc := 11) (z := -1) (by decide +kernel) (-1) (by decide +kernel)) ?_
  refine zfmc (r_putf h (pc := 12) (ix := 29) (by decide +kernel) ckX7 4 (by decide) 0 (fty := tyX7 4) (tyX7_ok 4 (by decide)) rfl rfl wk_bca31db031) ?_
  refine zfmc (r_return h (pc := 15) (by decide +kernel) rfl) ?_
  exact zfm0)
def tb_X7_error (E : ZEX) (d mc ms : Nat) : List (Nat × ZStep) := [(0, s_aload 0 1), (1, s_getf 6 3 4), (4, s_ireturn)]
set_option maxRecDepth 20000 in
theorem ok_X7_error {E : ZEX} {X : ZMX} {d mc ms : Nat} {P : ZPT} {T : ZTT} (h : ZCX E X MX7_error d mc ms P T) : ∀ pc, ZRow E X MX7_error mc ms P T pc (ztb (tb_X7_error E d mc ms) pc) := ztb_ok (by
  unfold tb_X7_error
  refine zfmc (r_aload_n h (pc := 0) (kf := 0) 0 (by decide +kernel) rfl) ?_
  refine zfmc (r_getf h (pc := 1) (ix := 25) (by decide +kernel) ckX7 3 (by decide) wk_167547b358) ?_
  refine zfmc (r_ireturn h (pc := 4) (by decide +kernel) rfl) ?_
  exact zfm0)
def tb_X7_errorPlace (E : ZEX) (d mc ms : Nat) : List (Nat × ZStep) := [(0, s_aload 0 1), (1, s_getf 6 4 4), (4, s_ireturn)]
set_option maxRecDepth 20000 in
theorem ok_X7_errorPlace {E : ZEX} {X : ZMX} {d mc ms : Nat} {P : ZPT} {T : ZTT} (h : ZCX E X MX7_errorPlace d mc ms P T) : ∀ pc, ZRow E X MX7_errorPlace mc ms P T pc (ztb (tb_X7_errorPlace E d mc ms) pc) := ztb_ok (by
  unfold tb_X7_errorPlace
  refine zfmc (r_aload_n h (pc := 0) (kf := 0) 0 (by decide +kernel) rfl) ?_
  refine zfmc (r_getf h (pc := 1) (ix := 29) (by decide +kernel) ckX7 4 (by decide) wk_bca31db031) ?_
  refine zfmc (r_ireturn h (pc := 4) (by decide +kernel) rfl) ?_
  exact zfm0)
def tb_X7_writeNumber (E : ZEX) (d mc ms : Nat) : List (Nat × ZStep) := [(0, s_aload 0 1), (1, s_iload 2 2), (2, s_putf 6 5 0 5), (5, s_aload 1 6), (6, s_const (.ref (zeK E 13)) 9), (9, s_acmp_ne 35 12), (12, s_iload 2 13), (13, s_const (.int (20)) 15), (15, s_aload 0 16), (16, s_getf 6 2 19), (19, s_getf 5 6 22), (22, s_callV E d mc ms 4 MX5_size 0 25), (25, s_isub 26), (26, s_icmp_le 35 29), (29, s_aload 0 30), (30, s_const (.int (4)) 31), (31, s_iload 3 32), (32, s_callV E d mc ms 6 MX7_fault 2 35), (35, s_iload 2 36), (36, s_aload 1 37), (37, s_callS E d mc ms MX7_most 1 40), (40, s_icmp_gt 55 43), (43, s_aload 1 44), (44, s_const (.ref (zeK E 13)) 47), (47, s_acmp_ne 61 50), (50, s_iload 2 51), (51, s_const (.int (1)) 52), (52, s_icmp_ge 61 55), (55, s_aload 0 56), (56, s_const (.int (5)) 57), (57, s_iload 3 58), (58, s_callV E d mc ms 6 MX7_fault 2 61), (61, s_aload 0 62), (62, s_getf 6 3 65), (65, s_if_ne 98 68), (68, s_aload 1 69), (69, s_const (.ref (zeK E 6)) 72), (72, s_acmp_ne 98 75), (75, s_aload 0 76), (76, s_getf 6 2 79), (79, s_getf 5 3 82), (82, s_aload 0 83), (83, s_getf 6 2 86), (86, s_getf 5 0 89), (89, s_const (.int (1)) 90), (90, s_isub 91), (91, s_iload 2 92), (92, s_callV E d mc ms 4 MX5_set 2 95), (95, s_goto 132), (98, s_aload 0 99), (99, s_getf 6 3 102), (102, s_if_ne 132 105), (105, s_aload 1 106), (106, s_const (.ref (zeK E 7)) 109), (109, s_acmp_ne 132 112), (112, s_aload 0 113), (113, s_getf 6 2 116), (116, s_getf 5 4 119), (119, s_aload 0 120), (120, s_getf 6 2 123), (123, s_getf 5 0 126), (126, s_const (.int (1)) 127), (127, s_isub 128), (128, s_iload 2 129), (129, s_callV E d mc ms 4 MX5_set 2 132), (132, s_return)]
set_option maxRecDepth 20000 in
theorem ok_X7_writeNumber {E : ZEX} {X : ZMX} {d mc ms : Nat} {P : ZPT} {T : ZTT} (h : ZCX E X MX7_writeNumber d mc ms P T) : ∀ pc, ZRow E X MX7_writeNumber mc ms P T pc (ztb (tb_X7_writeNumber E d mc ms) pc) := ztb_ok (by
  unfold tb_X7_writeNumber
  refine zfmc (r_aload_n h (pc := 0) (kf := 0) 0 (by decide +kernel) rfl) ?_
  refine zfmc (r_iload_n h (pc := 1) (kf := 2) 2 (by decide +kernel) rfl) ?_
  refine zfmc (r_putf h (pc := 2) (ix := 32) (by decide +kernel) ckX7 5 (by decide) 0 (fty := tyX7 5) (tyX7_ok 5 (by decide)) rfl rfl wk_77218926ed) ?_
  refine zfmc (r_aload_n h (pc := 5) (kf := 1) 1 (by decide +kernel) rfl) ?_
  refine zfmc (r_getstatic h (pc := 6) (ix := 35) (by decide +kernel) (.ref (zeK E 13)) (zx_sg h.ok 13 (by decide)) wk_de6d704880) ?_
  refine zfmc (r_acmp_ne h (pc := 9) (off := 26) (by decide +kernel) 35 (by decide +kernel)) ?_
  refine zfmc (r_iload_n h (pc := 12) (kf := 2) 2 (by decide +kernel) rfl) ?_
  refine zfmc (r_bipush h (pc := 13) (z := 20) (by decide +kernel) (20) (by decide +kernel)) ?_
  refine zfmc (r_aload_n h (pc := 15) (kf := 0) 0 (by decide +kernel) rfl) ?_
  refine zfmc (r_getf h (pc := 16) (ix := 21) (by decide +kernel) ckX7 2 (by decide) wk_17d695debe) ?_
  refine zfmc (r_getfN h (pc := 19) (ix := 41) (by decide +kernel) ckX6 6 (by decide) wk_30d1414ab5) ?_
  refine zfmc (r_callV h (pc := 22) (ix := 45) (by decide +kernel) ckX5 0 mcX5_size wk_2a1282b961 wk_4b31edae9d wk_5abe0e2775 rfl) ?_
  refine zfmc (r_isub h (pc := 25) (by decide +kernel)) ?_
  refine zfmc (r_icmp_le h (pc := 26) (off := 9) (by decide +kernel) 35 (by decide +kernel)) ?_
  refine zfmc (r_aload_n h (pc := 29) (kf := 0) 0 (by decide +kernel) rfl) ?_
  refine zfmc (r_iconst h (pc := 30) (z := 4) (by decide +kernel) (4) (by decide +kernel)) ?_
  refine zfmc (r_iload_n h (pc := 31) (kf := 3) 3 (by decide +kernel) rfl) ?_
  refine zfmc (r_callV h (pc := 32) (ix := 51) (by decide +kernel) ckX7 2 mcX7_fault wk_5207a6e7c2 wk_4f13c41ef8 wk_9b0c7ca1d2 rfl) ?_
  refine zfmc (r_iload_n h (pc := 35) (kf := 2) 2 (by decide +kernel) rfl) ?_
  refine zfmc (r_aload_n h (pc := 36) (kf := 1) 1 (by decide +kernel) rfl) ?_
  refine zfmc (r_callS h (pc := 37) (ix := 55) (by decide +kernel) 1 mcX7_most wk_2346a6819c wk_5a16e089a1) ?_
  refine zfmc (r_icmp_gt h (pc := 40) (off := 15) (by decide +kernel) 55 (by decide +kernel)) ?_
  refine zfmc (r_aload_n h (pc := 43) (kf := 1) 1 (by decide +kernel) rfl) ?_
  refine zfmc (r_getstatic h (pc := 44) (ix := 35) (by decide +kernel) (.ref (zeK E 13)) (zx_sg h.ok 13 (by decide)) wk_de6d704880) ?_
  refine zfmc (r_acmp_ne h (pc := 47) (off := 14) (by decide +kernel) 61 (by decide +kernel)) ?_
  refine zfmc (r_iload_n h (pc := 50) (kf := 2) 2 (by decide +kernel) rfl) ?_
  refine zfmc (r_iconst h (pc := 51) (z := 1) (by decide +kernel) (1) (by decide +kernel)) ?_
  refine zfmc (r_icmp_ge h (pc := 52) (off := 9) (by decide +kernel) 61 (by decide +kernel)) ?_
  refine zfmc (r_aload_n h (pc := 55) (kf := 0) 0 (by decide +kernel) rfl) ?_
  refine zfmc (r_iconst h (pc := 56) (z := 5) (by decide +kernel) (5) (by decide +kernel)) ?_
  refine zfmc (r_iload_n h (pc := 57) (kf := 3) 3 (by decide +kernel) rfl) ?_
  refine zfmc (r_callV h (pc := 58) (ix := 51) (by decide +kernel) ckX7 2 mcX7_fault wk_5207a6e7c2 wk_4f13c41ef8 wk_9b0c7ca1d2 rfl) ?_
  refine zfmc (r_aload_n h (pc := 61) (kf := 0) 0 (by decide +kernel) rfl) ?_
  refine zfmc (r_getf h (pc := 62) (ix := 25) (by decide +kernel) ckX7 3 (by decide) wk_167547b358) ?_
  refine zfmc (r_if_ne h (pc := 65) (off := 33) (by decide +kernel) 98 (by decide +kernel)) ?_
  refine zfmc (r_aload_n h (pc := 68) (kf := 1) 1 (by decide +kernel) rfl) ?_
  refine zfmc (r_getstatic h (pc := 69) (ix := 59) (by decide +kernel) (.ref (zeK E 6)) (zx_sg h.ok 6 (by decide)) wk_3f612cd51f) ?_
  refine zfmc (r_acmp_ne h (pc := 72) (off := 26) (by decide +kernel) 98 (by decide +kernel)) ?_
  refine zfmc (r_aload_n h (pc := 75) (kf := 0) 0 (by decide +kernel) rfl) ?_
  refine zfmc (r_getf h (pc := 76) (ix := 21) (by decide +kernel) ckX7 2 (by decide) wk_17d695debe) ?_
  refine zfmc (r_getfN h (pc := 79) (ix := 62) (by decide +kernel) ckX6 3 (by decide) wk_256be79555) ?_
  refine zfmc (r_aload_n h (pc := 82) (kf := 0) 0 (by decide +kernel) rfl) ?_
  refine zfmc (r_getf h (pc := 83) (ix := 21) (by decide +kernel) ckX7 2 (by decide) wk_17d695debe) ?_
  refine zfmc (r_getfN h (pc := 86) (ix := 65) (by decide +kernel) ckX6 0 (by decide) wk_6e87d868db) ?_
  refine zfmc (r_iconst h (pc := 89) (z := 1) (by decide +kernel) (1) (by decide +kernel)) ?_
  refine zfmc (r_isub h (pc := 90) (by decide +kernel)) ?_
  refine zfmc (r_iload_n h (pc := 91) (kf := 2) 2 (by decide +kernel) rfl) ?_
  refine zfmc (r_callV h (pc := 92) (ix := 68) (by decide +kernel) ckX5 2 mcX5_set wk_ccb0d228aa wk_4ee565af6c wk_4515af4f52 rfl) ?_
  refine zfmc (r_goto h (pc := 95) (off := 37) (by decide +kernel) 132 (by decide +kernel)) ?_
  refine zfmc (r_aload_n h (pc := 98) (kf := 0) 0 (by decide +kernel) rfl) ?_
  refine zfmc (r_getf h (pc := 99) (ix := 25) (by decide +kernel) ckX7 3 (by decide) wk_167547b358) ?_
  refine zfmc (r_if_ne h (pc := 102) (off := 30) (by decide +kernel) 132 (by decide +kernel)) ?_
  refine zfmc (r_aload_n h (pc := 105) (kf := 1) 1 (by decide +kernel) rfl) ?_
  refine zfmc (r_getstatic h (pc := 106) (ix := 71) (by decide +kernel) (.ref (zeK E 7)) (zx_sg h.ok 7 (by decide)) wk_4ea3ac8e03) ?_
  refine zfmc (r_acmp_ne h (pc := 109) (off := 23) (by decide +kernel) 132 (by decide +kernel)) ?_
  refine zfmc (r_aload_n h (pc := 112) (kf := 0) 0 (by decide +kernel) rfl) ?_
  refine zfmc (r_getf h (pc := 113) (ix := 21) (by decide +kernel) ckX7 2 (by decide) wk_17d695debe) ?_
  refine zfmc (r_getfN h (pc := 116) (ix := 74) (by decide +kernel) ckX6 4 (by decide) wk_ce7d3e95f7) ?_
  refine zfmc (r_aload_n h (pc := 119) (kf := 0) 0 (by decide +kernel) rfl) ?_
  refine zfmc (r_getf h (pc := 120) (ix := 21) (by decide +kernel) ckX7 2 (by decide) wk_17d695debe) ?_
  refine zfmc (r_getfN h (pc := 123) (ix := 65) (by decide +kernel) ckX6 0 (by decide) wk_6e87d868db) ?_
  refine zfmc (r_iconst h (pc := 126) (z := 1) (by decide +kernel) (1) (by decide +kernel)) ?_
  refine zfmc (r_isub h (pc := 127) (by decide +kernel)) ?_
  refine zfmc (r_iload_n h (pc := 128) (kf := 2) 2 (by decide +kernel) rfl) ?_
  refine zfmc (r_callV h (pc := 129) (ix := 68) (by decide +kernel) ckX5 2 mcX5_set wk_ccb0d228aa wk_4ee565af6c wk_4515af4f52 rfl) ?_
  refine zfmc (r_return h (pc := 132) (by decide +kernel) rfl) ?_
  exact zfm0)
def tb_X7_most (E : ZEX) (d mc ms : Nat) : List (Nat × ZStep) := [(0, s_aload 0 1), (1, s_const (.ref (zeK E 13)) 4), (4, s_acmp_ne 12 7), (7, s_const (.int (20)) 9), (9, s_goto 26), (12, s_aload 0 13), (13, s_const (.ref (zeK E 15)) 16), (16, s_acmp_ne 24 19), (19, s_const (.int (30)) 21), (21, s_goto 26), (24, s_const (.int (99)) 26), (26, s_ireturn)]
set_option maxRecDepth 20000 in
theorem ok_X7_most {E : ZEX} {X : ZMX} {d mc ms : Nat} {P : ZPT} {T : ZTT} (h : ZCX E X MX7_most d mc ms P T) : ∀ pc, ZRow E X MX7_most mc ms P T pc (ztb (tb_X7_most E d mc ms) pc) := ztb_ok (by
  unfold tb_X7_most
  refine zfmc (r_aload_n h (pc := 0) (kf := 0) 0 (by decide +kernel) rfl) ?_
  refine zfmc (r_getstatic h (pc := 1) (ix := 35) (by decide +kernel) (.ref (zeK E 13)) (zx_sg h.ok 13 (by decide)) wk_de6d704880) ?_
  refine zfmc (r_acmp_ne h (pc := 4) (off := 8) (by decide +kernel) 12 (by decide +kernel)) ?_
  refine zfmc (r_bipush h (pc := 7) (z := 20) (by decide +kernel) (20) (by decide +kernel)) ?_
  refine zfmc (r_goto h (pc := 9) (off := 17) (by decide +kernel) 26 (by decide +kernel)) ?_
  refine zfmc (r_aload_n h (pc := 12) (kf := 0) 0 (by decide +kernel) rfl) ?_
  refine zfmc (r_getstatic h (pc := 13) (ix := 77) (by decide +kernel) (.ref (zeK E 15)) (zx_sg h.ok 15 (by decide)) wk_4394fba095) ?_
  refine zfmc (r_acmp_ne h (pc := 16) (off := 8) (by decide +kernel) 24 (by decide +kernel)) ?_
  refine zfmc (r_bipush h (pc := 19) (z := 30) (by decide +kernel) (30) (by decide +kernel)) ?_
  refine zfmc (r_goto h (pc := 21) (off := 5) (by decide +kernel) 26 (by decide +kernel)) ?_
  refine zfmc (r_bipush h (pc := 24) (z := 99) (by decide +kernel) (99) (by decide +kernel)) ?_
  refine zfmc (r_ireturn h (pc := 26) (by decide +kernel) rfl) ?_
  exact zfm0)
def tb_X7_writeName (E : ZEX) (d mc ms : Nat) : List (Nat × ZStep) := [(0, s_aload 0 1), (1, s_getf 6 3 4), (4, s_if_eq 8 7), (7, s_return), (8, s_aload 1 9), (9, s_const (.ref (zeK E 5)) 12), (12, s_acmp_ne 25 15), (15, s_aload 0 16), (16, s_lload 2 17), (17, s_iload 4 19), (19, s_callV E d mc ms 6 MX7_addCard 2 22), (22, s_goto 71), (25, s_aload 1 26), (26, s_const (.ref (zeK E 16)) 29), (29, s_acmp_ne 42 32), (32, s_aload 0 33), (33, s_lload 2 34), (34, s_iload 4 36), (36, s_callV E d mc ms 6 MX7_addMerchant 2 39), (39, s_goto 71), (42, s_aload 0 43), (43, s_aload 1 44), (44, s_aload 1 45), (45, s_const (.ref (zeK E 18)) 48), (48, s_acmp_ne 61 51), (51, s_aload 0 52), (52, s_lload 2 53), (53, s_iload 4 55), (55, s_callV E d mc ms 6 MX7_merchantNamed 2 58), (58, s_goto 68), (61, s_aload 0 62), (62, s_lload 2 63), (63, s_iload 4 65), (65, s_callV E d mc ms 6 MX7_cardNamed 2 68), (68, s_callV E d mc ms 6 MX7_writeNamed 2 71), (71, s_return)]
set_option maxRecDepth 20000 in
theorem ok_X7_writeName {E : ZEX} {X : ZMX} {d mc ms : Nat} {P : ZPT} {T : ZTT} (h : ZCX E X MX7_writeName d mc ms P T) : ∀ pc, ZRow E X MX7_writeName mc ms P T pc (ztb (tb_X7_writeName E d mc ms) pc) := ztb_ok (by
  unfold tb_X7_writeName
  refine zfmc (r_aload_n h (pc := 0) (kf := 0) 0 (by decide +kernel) rfl) ?_
  refine zfmc (r_getf h (pc := 1) (ix := 25) (by decide +kernel) ckX7 3 (by decide) wk_167547b358) ?_
  refine zfmc (r_if_eq h (pc := 4) (off := 4) (by decide +kernel) 8 (by decide +kernel)) ?_
  refine zfmc (r_return h (pc := 7) (by decide +kernel) rfl) ?_
  refine zfmc (r_aload_n h (pc := 8) (kf := 1) 1 (by decide +kernel) rfl) ?_
  refine zfmc (r_getstatic h (pc := 9) (ix := 80) (by decide +kernel) (.ref (zeK E 5)) (zx_sg h.ok 5 (by decide)) wk_a84c921990) ?_
  refine zfmc (r_acmp_ne h (pc := 12) (off := 13) (by decide +kernel) 25 (by decide +kernel)) ?_
  refine zfmc (r_aload_n h (pc := 15) (kf := 0) 0 (by decide +kernel) rfl) ?_
  refine zfmc (r_lload_n h (pc := 16) (kf := 2) 2 (by decide +kernel) rfl) ?_
  refine zfmc (r_iload h (pc := 17) 4 (by decide +kernel)) ?_
  refine zfmc (r_callV h (pc := 19) (ix := 83) (by decide +kernel) ckX7 2 mcX7_addCard wk_8b139e3055 wk_86c0b28b99 wk_8f47d69098 rfl) ?_
  refine zfmc (r_goto h (pc := 22) (off := 49) (by decide +kernel) 71 (by decide +kernel)) ?_
  refine zfmc (r_aload_n h (pc := 25) (kf := 1) 1 (by decide +kernel) rfl) ?_
  refine zfmc (r_getstatic h (pc := 26) (ix := 87) (by decide +kernel) (.ref (zeK E 16)) (zx_sg h.ok 16 (by decide)) wk_4ad0e4ea7a) ?_
  refine zfmc (r_acmp_ne h (pc := 29) (off := 13) (by decide +kernel) 42 (by decide +kernel)) ?_
  refine zfmc (r_aload_n h (pc := 32) (kf := 0) 0 (by decide +kernel) rfl) ?_
  refine zfmc (r_lload_n h (pc := 33) (kf := 2) 2 (by decide +kernel) rfl) ?_
  refine zfmc (r_iload h (pc := 34) 4 (by decide +kernel)) ?_
  refine zfmc (r_callV h (pc := 36) (ix := 90) (by decide +kernel) ckX7 2 mcX7_addMerchant wk_4d5a1dcbf8 wk_ecc77dc09c wk_f0009831bb rfl) ?_
  refine zfmc (r_goto h (pc := 39) (off := 32) (by decide +kernel) 71 (by decide +kernel)) ?_
  refine zfmc (r_aload_n h (pc := 42) (kf := 0) 0 (by decide +kernel) rfl) ?_
  refine zfmc (r_aload_n h (pc := 43) (kf := 1) 1 (by decide +kernel) rfl) ?_
  refine zfmc (r_aload_n h (pc := 44) (kf := 1) 1 (by decide +kernel) rfl) ?_
  refine zfmc (r_getstatic h (pc := 45) (ix := 93) (by decide +kernel) (.ref (zeK E 18)) (zx_sg h.ok 18 (by decide)) wk_773d0d5315) ?_
  refine zfmc (r_acmp_ne h (pc := 48) (off := 13) (by decide +kernel) 61 (by decide +kernel)) ?_
  refine zfmc (r_aload_n h (pc := 51) (kf := 0) 0 (by decide +kernel) rfl) ?_
  refine zfmc (r_lload_n h (pc := 52) (kf := 2) 2 (by decide +kernel) rfl) ?_
  refine zfmc (r_iload h (pc := 53) 4 (by decide +kernel)) ?_
  refine zfmc (r_callV h (pc := 55) (ix := 96) (by decide +kernel) ckX7 2 mcX7_merchantNamed wk_3de83efc13 wk_f323106446 wk_e5c8b808f8 rfl) ?_
  refine zfmc (r_goto h (pc := 58) (off := 10) (by decide +kernel) 68 (by decide +kernel)) ?_
  refine zfmc (r_aload_n h (pc := 61) (kf := 0) 0 (by decide +kernel) rfl) ?_
  refine zfmc (r_lload_n h (pc := 62) (kf := 2) 2 (by decide +kernel) rfl) ?_
  refine zfmc (r_iload h (pc := 63) 4 (by decide +kernel)) ?_
  refine zfmc (r_callV h (pc := 65) (ix := 100) (by decide +kernel) ckX7 2 mcX7_cardNamed wk_094a190833 wk_bd49e4a0d4 wk_ffff2eb983 rfl) ?_
  refine zfmc (r_callV h (pc := 68) (ix := 103) (by decide +kernel) ckX7 2 mcX7_writeNamed wk_2726312262 wk_3c0f74dd70 wk_926667693b rfl) ?_
  refine zfmc (r_return h (pc := 71) (by decide +kernel) rfl) ?_
  exact zfm0)
def tb_X7_cardNamed (E : ZEX) (d mc ms : Nat) : List (Nat × ZStep) := [(0, s_aload 0 1), (1, s_getf 6 0 4), (4, s_aload 0 5), (5, s_getf 6 2 8), (8, s_getf 5 0 11), (11, s_lload 1 12), (12, s_callS E d mc ms MX7_find 3 15), (15, s_istore 4 17), (17, s_iload 4 19), (19, s_const (.int (-1)) 20), (20, s_icmp_ne 29 23), (23, s_aload 0 24), (24, s_const (.int (3)) 25), (25, s_iload 3 26), (26, s_callV E d mc ms 6 MX7_fault 2 29), (29, s_iload 4 31), (31, s_ireturn)]
set_option maxRecDepth 20000 in
theorem ok_X7_cardNamed {E : ZEX} {X : ZMX} {d mc ms : Nat} {P : ZPT} {T : ZTT} (h : ZCX E X MX7_cardNamed d mc ms P T) : ∀ pc, ZRow E X MX7_cardNamed mc ms P T pc (ztb (tb_X7_cardNamed E d mc ms) pc) := ztb_ok (by
  unfold tb_X7_cardNamed
  refine zfmc (r_aload_n h (pc := 0) (kf := 0) 0 (by decide +kernel) rfl) ?_
  refine zfmc (r_getf h (pc := 1) (ix := 9) (by decide +kernel) ckX7 0 (by decide) wk_e3bfe8f0fc) ?_
  refine zfmc (r_aload_n h (pc := 4) (kf := 0) 0 (by decide +kernel) rfl) ?_
  refine zfmc (r_getf h (pc := 5) (ix := 21) (by decide +kernel) ckX7 2 (by decide) wk_17d695debe) ?_
  refine zfmc (r_getfN h (pc := 8) (ix := 65) (by decide +kernel) ckX6 0 (by decide) wk_6e87d868db) ?_
  refine zfmc (r_lload_n h (pc := 11) (kf := 1) 1 (by decide +kernel) rfl) ?_
  refine zfmc (r_callS h (pc := 12) (ix := 107) (by decide +kernel) 3 mcX7_find wk_61d8aa23e9 wk_2dbb2cb1ae) ?_
  refine zfmc (r_istore h (pc := 15) 4 (by decide +kernel) (by decide +kernel)) ?_
  refine zfmc (r_iload h (pc := 17) 4 (by decide +kernel)) ?_
  refine zfmc (r_iconst h (pc := 19) (z := -1) (by decide +kernel) (-1) (by decide +kernel)) ?_
  refine zfmc (r_icmp_ne h (pc := 20) (off := 9) (by decide +kernel) 29 (by decide +kernel)) ?_
  refine zfmc (r_aload_n h (pc := 23) (kf := 0) 0 (by decide +kernel) rfl) ?_
  refine zfmc (r_iconst h (pc := 24) (z := 3) (by decide +kernel) (3) (by decide +kernel)) ?_
  refine zfmc (r_iload_n h (pc := 25) (kf := 3) 3 (by decide +kernel) rfl) ?_
  refine zfmc (r_callV h (pc := 26) (ix := 51) (by decide +kernel) ckX7 2 mcX7_fault wk_5207a6e7c2 wk_4f13c41ef8 wk_9b0c7ca1d2 rfl) ?_
  refine zfmc (r_iload h (pc := 29) 4 (by decide +kernel)) ?_
  refine zfmc (r_ireturn h (pc := 31) (by decide +kernel) rfl) ?_
  exact zfm0)
def tb_X7_merchantNamed (E : ZEX) (d mc ms : Nat) : List (Nat × ZStep) := [(0, s_aload 0 1), (1, s_getf 6 1 4), (4, s_aload 0 5), (5, s_getf 6 2 8), (8, s_getf 5 1 11), (11, s_lload 1 12), (12, s_callS E d mc ms MX7_find 3 15), (15, s_istore 4 17), (17, s_iload 4 19), (19, s_const (.int (-1)) 20), (20, s_icmp_ne 29 23), (23, s_aload 0 24), (24, s_const (.int (3)) 25), (25, s_iload 3 26), (26, s_callV E d mc ms 6 MX7_fault 2 29), (29, s_iload 4 31), (31, s_ireturn)]
set_option maxRecDepth 20000 in
theorem ok_X7_merchantNamed {E : ZEX} {X : ZMX} {d mc ms : Nat} {P : ZPT} {T : ZTT} (h : ZCX E X MX7_merchantNamed d mc ms P T) : ∀ pc, ZRow E X MX7_merchantNamed mc ms P T pc (ztb (tb_X7_merchantNamed E d mc ms) pc) := ztb_ok (by
  unfold tb_X7_merchantNamed
  refine zfmc (r_aload_n h (pc := 0) (kf := 0) 0 (by decide +kernel) rfl) ?_
  refine zfmc (r_getf h (pc := 1) (ix := 15) (by decide +kernel) ckX7 1 (by decide) wk_c3685fc114) ?_
  refine zfmc (r_aload_n h (pc := 4) (kf := 0) 0 (by decide +kernel) rfl) ?_
  refine zfmc (r_getf h (pc := 5) (ix := 21) (by decide +kernel) ckX7 2 (by decide) wk_17d695debe) ?_
  refine zfmc (r_getfN h (pc := 8) (ix := 111) (by decide +kernel) ckX6 1 (by decide) wk_b9a167de6d) ?_
  refine zfmc (r_lload_n h (pc := 11) (kf := 1) 1 (by decide +kernel) rfl) ?_
  refine zfmc (r_callS h (pc := 12) (ix := 107) (by decide +kernel) 3 mcX7_find wk_61d8aa23e9 wk_2dbb2cb1ae) ?_
  refine zfmc (r_istore h (pc := 15) 4 (by decide +kernel) (by decide +kernel)) ?_
  refine zfmc (r_iload h (pc := 17) 4 (by decide +kernel)) ?_
  refine zfmc (r_iconst h (pc := 19) (z := -1) (by decide +kernel) (-1) (by decide +kernel)) ?_
  refine zfmc (r_icmp_ne h (pc := 20) (off := 9) (by decide +kernel) 29 (by decide +kernel)) ?_
  refine zfmc (r_aload_n h (pc := 23) (kf := 0) 0 (by decide +kernel) rfl) ?_
  refine zfmc (r_iconst h (pc := 24) (z := 3) (by decide +kernel) (3) (by decide +kernel)) ?_
  refine zfmc (r_iload_n h (pc := 25) (kf := 3) 3 (by decide +kernel) rfl) ?_
  refine zfmc (r_callV h (pc := 26) (ix := 51) (by decide +kernel) ckX7 2 mcX7_fault wk_5207a6e7c2 wk_4f13c41ef8 wk_9b0c7ca1d2 rfl) ?_
  refine zfmc (r_iload h (pc := 29) 4 (by decide +kernel)) ?_
  refine zfmc (r_ireturn h (pc := 31) (by decide +kernel) rfl) ?_
  exact zfm0)
def tb_X7_writeDeed (E : ZEX) (d mc ms : Nat) : List (Nat × ZStep) := [(0, s_aload 0 1), (1, s_getf 6 2 4), (4, s_getf 5 0 7), (7, s_const (.int (1)) 8), (8, s_isub 9), (9, s_istore 3 10), (10, s_aload 0 11), (11, s_getf 6 2 14), (14, s_getf 5 7 17), (17, s_iload 3 18), (18, s_callV E d mc ms 4 MX5_get 1 21), (21, s_istore 4 23), (23, s_iload 4 25), (25, s_const (.int (4)) 26), (26, s_icmp_lt 35 29), (29, s_aload 0 30), (30, s_const (.int (4)) 31), (31, s_iload 2 32), (32, s_callV E d mc ms 6 MX7_fault 2 35), (35, s_aload 0 36), (36, s_getf 6 3 39), (39, s_if_ne 81 42), (42, s_aload 0 43), (43, s_getf 6 2 46), (46, s_iload 3 47), (47, s_const (.int (4)) 48), (48, s_imul 49), (49, s_iload 4 51), (51, s_iadd 52), (52, s_aload 1 53), (53, s_aload 0 54), (54, s_getf 6 2 57), (57, s_getf 5 14 60), (60, s_callV E d mc ms 0 MX1_size 0 63), (63, s_callV E d mc ms 5 MX6_setDeed 3 66), (66, s_aload 0 67), (67, s_getf 6 2 70), (70, s_getf 5 7 73), (73, s_iload 3 74), (74, s_iload 4 76), (76, s_const (.int (1)) 77), (77, s_iadd 78), (78, s_callV E d mc ms 4 MX5_set 2 81), (81, s_return)]
set_option maxRecDepth 20000 in
theorem ok_X7_writeDeed {E : ZEX} {X : ZMX} {d mc ms : Nat} {P : ZPT} {T : ZTT} (h : ZCX E X MX7_writeDeed d mc ms P T) : ∀ pc, ZRow E X MX7_writeDeed mc ms P T pc (ztb (tb_X7_writeDeed E d mc ms) pc) := ztb_ok (by
  unfold tb_X7_writeDeed
  refine zfmc (r_aload_n h (pc := 0) (kf := 0) 0 (by decide +kernel) rfl) ?_
  refine zfmc (r_getf h (pc := 1) (ix := 21) (by decide +kernel) ckX7 2 (by decide) wk_17d695debe) ?_
  refine zfmc (r_getfN h (pc := 4) (ix := 65) (by decide +kernel) ckX6 0 (by decide) wk_6e87d868db) ?_
  refine zfmc (r_iconst h (pc := 7) (z := 1) (by decide +kernel) (1) (by decide +kernel)) ?_
  refine zfmc (r_isub h (pc := 8) (by decide +kernel)) ?_
  refine zfmc (r_istore_n h (pc := 9) (kf := 3) 3 (by decide +kernel) rfl (by decide +kernel)) ?_
  refine zfmc (r_aload_n h (pc := 10) (kf := 0) 0 (by decide +kernel) rfl) ?_
  refine zfmc (r_getf h (pc := 11) (ix := 21) (by decide +kernel) ckX7 2 (by decide) wk_17d695debe) ?_
  refine zfmc (r_getfN h (pc := 14) (ix := 114) (by decide +kernel) ckX6 7 (by decide) wk_b3708af178) ?_
  refine zfmc (r_iload_n h (pc := 17) (kf := 3) 3 (by decide +kernel) rfl) ?_
  refine zfmc (r_callV h (pc := 18) (ix := 117) (by decide +kernel) ckX5 1 mcX5_get wk_d096485f84 wk_84cada5791 wk_1db6b0b94a rfl) ?_
  refine zfmc (r_istore h (pc := 21) 4 (by decide +kernel) (by decide +kernel)) ?_
  refine zfmc (r_iload h (pc := 23) 4 (by decide +kernel)) ?_
  refine zfmc (r_iconst h (pc := 25) (z := 4) (by decide +kernel) (4) (by decide +kernel)) ?_
  refine zfmc (r_icmp_lt h (pc := 26) (off := 9) (by decide +kernel) 35 (by decide +kernel)) ?_
  refine zfmc (r_aload_n h (pc := 29) (kf := 0) 0 (by decide +kernel) rfl) ?_
  refine zfmc (r_iconst h (pc := 30) (z := 4) (by decide +kernel) (4) (by decide +kernel)) ?_
  refine zfmc (r_iload_n h (pc := 31) (kf := 2) 2 (by decide +kernel) rfl) ?_
  refine zfmc (r_callV h (pc := 32) (ix := 51) (by decide +kernel) ckX7 2 mcX7_fault wk_5207a6e7c2 wk_4f13c41ef8 wk_9b0c7ca1d2 rfl) ?_
  refine zfmc (r_aload_n h (pc := 35) (kf := 0) 0 (by decide +kernel) rfl) ?_
  refine zfmc (r_getf h (pc := 36) (ix := 25) (by decide +kernel) ckX7 3 (by decide) wk_167547b358) ?_
  refine zfmc (r_if_ne h (pc := 39) (off := 42) (by decide +kernel) 81 (by decide +kernel)) ?_
  refine zfmc (r_aload_n h (pc := 42) (kf := 0) 0 (by decide +kernel) rfl) ?_
  refine zfmc (r_getf h (pc := 43) (ix := 21) (by decide +kernel) ckX7 2 (by decide) wk_17d695debe) ?_
  refine zfmc (r_iload_n h (pc := 46) (kf := 3) 3 (by decide +kernel) rfl) ?_
  refine zfmc (r_iconst h (pc := 47) (z := 4) (by decide +kernel) (4) (by decide +kernel)) ?_
  refine zfmc (r_imul h (pc := 48) (by decide +kernel)) ?_
  refine zfmc (r_iload h (pc := 49) 4 (by decide +kernel)) ?_
  refine zfmc (r_iadd h (pc := 51) (by decide +kernel)) ?_
  refine zfmc (r_aload_n h (pc := 52) (kf := 1) 1 (by decide +kernel) rfl) ?_
  refine zfmc (r_aload_n h (pc := 53) (kf := 0) 0 (by decide +kernel) rfl) ?_
  refine zfmc (r_getf h (pc := 54) (ix := 21) (by decide +kernel) ckX7 2 (by decide) wk_17d695debe) ?_
  refine zfmc (r_getfN h (pc := 57) (ix := 121) (by decide +kernel) ckX6 14 (by decide) wk_12b1939b44) ?_
  refine zfmc (r_callV h (pc := 60) (ix := 125) (by decide +kernel) ckX1 0 mcX1_size wk_9b426dd4bc wk_069c9e291e wk_cb7ec85336 rfl) ?_
  refine zfmc (r_callV h (pc := 63) (ix := 128) (by decide +kernel) ckX6 3 mcX6_setDeed wk_eca30d3bb9 wk_1cb7c4fefb wk_64ba3b5ef5 rfl) ?_
  refine zfmc (r_aload_n h (pc := 66) (kf := 0) 0 (by decide +kernel) rfl) ?_
  refine zfmc (r_getf h (pc := 67) (ix := 21) (by decide +kernel) ckX7 2 (by decide) wk_17d695debe) ?_
  refine zfmc (r_getfN h (pc := 70) (ix := 114) (by decide +kernel) ckX6 7 (by decide) wk_b3708af178) ?_
  refine zfmc (r_iload_n h (pc := 73) (kf := 3) 3 (by decide +kernel) rfl) ?_
  refine zfmc (r_iload h (pc := 74) 4 (by decide +kernel)) ?_
  refine zfmc (r_iconst h (pc := 76) (z := 1) (by decide +kernel) (1) (by decide +kernel)) ?_
  refine zfmc (r_iadd h (pc := 77) (by decide +kernel)) ?_
  refine zfmc (r_callV h (pc := 78) (ix := 68) (by decide +kernel) ckX5 2 mcX5_set wk_ccb0d228aa wk_4ee565af6c wk_4515af4f52 rfl) ?_
  refine zfmc (r_return h (pc := 81) (by decide +kernel) rfl) ?_
  exact zfm0)
def tb_X7_writeOrder (E : ZEX) (d mc ms : Nat) : List (Nat × ZStep) := [(0, s_aload 0 1), (1, s_getf 6 2 4), (4, s_getf 5 2 7), (7, s_const (.int (16)) 9), (9, s_icmp_lt 18 12), (12, s_aload 0 13), (13, s_const (.int (4)) 14), (14, s_iload 1 15), (15, s_callV E d mc ms 6 MX7_fault 2 18), (18, s_aload 0 19), (19, s_getf 6 3 22), (22, s_if_ne 56 25), (25, s_aload 0 26), (26, s_getf 6 2 29), (29, s_getf 5 13 32), (32, s_aload 0 33), (33, s_getf 6 2 36), (36, s_getf 5 2 39), (39, s_const (.int (-1)) 40), (40, s_callV E d mc ms 4 MX5_set 2 43), (43, s_aload 0 44), (44, s_getf 6 2 47), (47, s_dup 48), (48, s_getf 5 2 51), (51, s_const (.int (1)) 52), (52, s_iadd 53), (53, s_putf 5 2 0 56), (56, s_return)]
set_option maxRecDepth 20000 in
theorem ok_X7_writeOrder {E : ZEX} {X : ZMX} {d mc ms : Nat} {P : ZPT} {T : ZTT} (h : ZCX E X MX7_writeOrder d mc ms P T) : ∀ pc, ZRow E X MX7_writeOrder mc ms P T pc (ztb (tb_X7_writeOrder E d mc ms) pc) := ztb_ok (by
  unfold tb_X7_writeOrder
  refine zfmc (r_aload_n h (pc := 0) (kf := 0) 0 (by decide +kernel) rfl) ?_
  refine zfmc (r_getf h (pc := 1) (ix := 21) (by decide +kernel) ckX7 2 (by decide) wk_17d695debe) ?_
  refine zfmc (r_getfN h (pc := 4) (ix := 132) (by decide +kernel) ckX6 2 (by decide) wk_f37bb93753) ?_
  refine zfmc (r_bipush h (pc := 7) (z := 16) (by decide +kernel) (16) (by decide +kernel)) ?_
  refine zfmc (r_icmp_lt h (pc := 9) (off := 9) (by decide +kernel) 18 (by decide +kernel)) ?_
  refine zfmc (r_aload_n h (pc := 12) (kf := 0) 0 (by decide +kernel) rfl) ?_
  refine zfmc (r_iconst h (pc := 13) (z := 4) (by decide +kernel) (4) (by decide +kernel)) ?_
  refine zfmc (r_iload_n h (pc := 14) (kf := 1) 1 (by decide +kernel) rfl) ?_
  refine zfmc (r_callV h (pc := 15) (ix := 51) (by decide +kernel) ckX7 2 mcX7_fault wk_5207a6e7c2 wk_4f13c41ef8 wk_9b0c7ca1d2 rfl) ?_
  refine zfmc (r_aload_n h (pc := 18) (kf := 0) 0 (by decide +kernel) rfl) ?_
  refine zfmc (r_getf h (pc := 19) (ix := 25) (by decide +kernel) ckX7 3 (by decide) wk_167547b358) ?_
  refine zfmc (r_if_ne h (pc := 22) (off := 34) (by decide +kernel) 56 (by decide +kernel)) ?_
  refine zfmc (r_aload_n h (pc := 25) (kf := 0) 0 (by decide +kernel) rfl) ?_
  refine zfmc (r_getf h (pc := 26) (ix := 21) (by decide +kernel) ckX7 2 (by decide) wk_17d695debe) ?_
  refine zfmc (r_getfN h (pc := 29) (ix := 135) (by decide +kernel) ckX6 13 (by decide) wk_44ee06f4f9) ?_
  refine zfmc (r_aload_n h (pc := 32) (kf := 0) 0 (by decide +kernel) rfl) ?_
  refine zfmc (r_getf h (pc := 33) (ix := 21) (by decide +kernel) ckX7 2 (by decide) wk_17d695debe) ?_
  refine zfmc (r_getfN h (pc := 36) (ix := 132) (by decide +kernel) ckX6 2 (by decide) wk_f37bb93753) ?_
  refine zfmc (r_iconst h (pc := 39) (z := -1) (by decide +kernel) (-1) (by decide +kernel)) ?_
  refine zfmc (r_callV h (pc := 40) (ix := 68) (by decide +kernel) ckX5 2 mcX5_set wk_ccb0d228aa wk_4ee565af6c wk_4515af4f52 rfl) ?_
  refine zfmc (r_aload_n h (pc := 43) (kf := 0) 0 (by decide +kernel) rfl) ?_
  refine zfmc (r_getf h (pc := 44) (ix := 21) (by decide +kernel) ckX7 2 (by decide) wk_17d695debe) ?_
  refine zfmc (r_dup h (pc := 47) (by decide +kernel)) ?_
  refine zfmc (r_getfN h (pc := 48) (ix := 132) (by decide +kernel) ckX6 2 (by decide) wk_f37bb93753) ?_
  refine zfmc (r_iconst h (pc := 51) (z := 1) (by decide +kernel) (1) (by decide +kernel)) ?_
  refine zfmc (r_iadd h (pc := 52) (by decide +kernel)) ?_
  refine zfmc (r_putfN h (pc := 53) (ix := 132) (by decide +kernel) ckX6 2 (by decide) 0 (fty := tyX6 2) (tyX6_ok 2 (by decide)) rfl rfl wk_f37bb93753) ?_
  refine zfmc (r_return h (pc := 56) (by decide +kernel) rfl) ?_
  exact zfm0)
def tb_X7_writeTest (E : ZEX) (d mc ms : Nat) : List (Nat × ZStep) := [(0, s_aload 0 1), (1, s_getf 6 3 4), (4, s_if_ne 36 7), (7, s_aload 0 8), (8, s_getf 6 2 11), (11, s_getf 5 13 14), (14, s_aload 0 15), (15, s_getf 6 2 18), (18, s_getf 5 2 21), (21, s_const (.int (1)) 22), (22, s_isub 23), (23, s_aload 0 24), (24, s_getf 6 2 27), (27, s_getf 5 14 30), (30, s_callV E d mc ms 0 MX1_size 0 33), (33, s_callV E d mc ms 4 MX5_set 2 36), (36, s_return)]
set_option maxRecDepth 20000 in
theorem ok_X7_writeTest {E : ZEX} {X : ZMX} {d mc ms : Nat} {P : ZPT} {T : ZTT} (h : ZCX E X MX7_writeTest d mc ms P T) : ∀ pc, ZRow E X MX7_writeTest mc ms P T pc (ztb (tb_X7_writeTest E d mc ms) pc) := ztb_ok (by
  unfold tb_X7_writeTest
  refine zfmc (r_aload_n h (pc := 0) (kf := 0) 0 (by decide +kernel) rfl) ?_
  refine zfmc (r_getf h (pc := 1) (ix := 25) (by decide +kernel) ckX7 3 (by decide) wk_167547b358) ?_
  refine zfmc (r_if_ne h (pc := 4) (off := 32) (by decide +kernel) 36 (by decide +kernel)) ?_
  refine zfmc (r_aload_n h (pc := 7) (kf := 0) 0 (by decide +kernel) rfl) ?_
  refine zfmc (r_getf h (pc := 8) (ix := 21) (by decide +kernel) ckX7 2 (by decide) wk_17d695debe) ?_
  refine zfmc (r_getfN h (pc := 11) (ix := 135) (by decide +kernel) ckX6 13 (by decide) wk_44ee06f4f9) ?_
  refine zfmc (r_aload_n h (pc := 14) (kf := 0) 0 (by decide +kernel) rfl) ?_
  refine zfmc (r_getf h (pc := 15) (ix := 21) (by decide +kernel) ckX7 2 (by decide) wk_17d695debe) ?_
  refine zfmc (r_getfN h (pc := 18) (ix := 132) (by decide +kernel) ckX6 2 (by decide) wk_f37bb93753) ?_
  refine zfmc (r_iconst h (pc := 21) (z := 1) (by decide +kernel) (1) (by decide +kernel)) ?_
  refine zfmc (r_isub h (pc := 22) (by decide +kernel)) ?_
  refine zfmc (r_aload_n h (pc := 23) (kf := 0) 0 (by decide +kernel) rfl) ?_
  refine zfmc (r_getf h (pc := 24) (ix := 21) (by decide +kernel) ckX7 2 (by decide) wk_17d695debe) ?_
  refine zfmc (r_getfN h (pc := 27) (ix := 121) (by decide +kernel) ckX6 14 (by decide) wk_12b1939b44) ?_
  refine zfmc (r_callV h (pc := 30) (ix := 125) (by decide +kernel) ckX1 0 mcX1_size wk_9b426dd4bc wk_069c9e291e wk_cb7ec85336 rfl) ?_
  refine zfmc (r_callV h (pc := 33) (ix := 68) (by decide +kernel) ckX5 2 mcX5_set wk_ccb0d228aa wk_4ee565af6c wk_4515af4f52 rfl) ?_
  refine zfmc (r_return h (pc := 36) (by decide +kernel) rfl) ?_
  exact zfm0)
def tb_X7_fault (E : ZEX) (d mc ms : Nat) : List (Nat × ZStep) := [(0, s_aload 0 1), (1, s_getf 6 3 4), (4, s_if_ne 17 7), (7, s_aload 0 8), (8, s_iload 1 9), (9, s_putf 6 3 0 12), (12, s_aload 0 13), (13, s_iload 2 14), (14, s_putf 6 4 0 17), (17, s_return)]
set_option maxRecDepth 20000 in
theorem ok_X7_fault {E : ZEX} {X : ZMX} {d mc ms : Nat} {P : ZPT} {T : ZTT} (h : ZCX E X MX7_fault d mc ms P T) : ∀ pc, ZRow E X MX7_fault mc ms P T pc (ztb (tb_X7_fault E d mc ms) pc) := ztb_ok (by
  unfold tb_X7_fault
  refine zfmc (r_aload_n h (pc := 0) (kf := 0) 0 (by decide +kernel) rfl) ?_
  refine zfmc (r_getf h (pc := 1) (ix := 25) (by decide +kernel) ckX7 3 (by decide) wk_167547b358) ?_
  refine zfmc (r_if_ne h (pc := 4) (off := 13) (by decide +kernel) 17 (by decide +kernel)) ?_
  refine zfmc (r_aload_n h (pc := 7) (kf := 0) 0 (by decide +kernel) rfl) ?_
  refine zfmc (r_iload_n h (pc := 8) (kf := 1) 1 (by decide +kernel) rfl) ?_
  refine zfmc (r_putf h (pc := 9) (ix := 25) (by decide +kernel) ckX7 3 (by decide) 0 (fty := tyX7 3) (tyX7_ok 3 (by decide)) rfl rfl wk_167547b358) ?_
  refine zfmc (r_aload_n h (pc := 12) (kf := 0) 0 (by decide +kernel) rfl) ?_
  refine zfmc (r_iload_n h (pc := 13) (kf := 2) 2 (by decide +kernel) rfl) ?_
  refine zfmc (r_putf h (pc := 14) (ix := 29) (by decide +kernel) ckX7 4 (by decide) 0 (fty := tyX7 4) (tyX7_ok 4 (by decide)) rfl rfl wk_bca31db031) ?_
  refine zfmc (r_return h (pc := 17) (by decide +kernel) rfl) ?_
  exact zfm0)
def tb_X7_addCard (E : ZEX) (d mc ms : Nat) : List (Nat × ZStep) := [(0, s_aload 0 1), (1, s_getf 6 0 4), (4, s_aload 0 5), (5, s_getf 6 2 8), (8, s_getf 5 0 11), (11, s_lload 1 12), (12, s_callS E d mc ms MX7_find 3 15), (15, s_const (.int (-1)) 16), (16, s_icmp_eq 28 19), (19, s_aload 0 20), (20, s_const (.int (2)) 21), (21, s_iload 3 22), (22, s_callV E d mc ms 6 MX7_fault 2 25), (25, s_goto 88), (28, s_aload 0 29), (29, s_getf 6 2 32), (32, s_getf 5 0 35), (35, s_if_lt 53 38), (38, s_aload 0 39), (39, s_getf 6 2 42), (42, s_getf 5 0 45), (45, s_aload 0 46), (46, s_getf 6 0 49), (49, s_alen E 50), (50, s_icmp_lt 62 53), (53, s_aload 0 54), (54, s_const (.int (4)) 55), (55, s_iload 3 56), (56, s_callV E d mc ms 6 MX7_fault 2 59), (59, s_goto 88), (62, s_aload 0 63), (63, s_getf 6 0 66), (66, s_aload 0 67), (67, s_getf 6 2 70), (70, s_getf 5 0 73), (73, s_lload 1 74), (74, s_lastore E 75), (75, s_aload 0 76), (76, s_getf 6 2 79), (79, s_dup 80), (80, s_getf 5 0 83), (83, s_const (.int (1)) 84), (84, s_iadd 85), (85, s_putf 5 0 0 88), (88, s_return)]
set_option maxRecDepth 20000 in
theorem ok_X7_addCard {E : ZEX} {X : ZMX} {d mc ms : Nat} {P : ZPT} {T : ZTT} (h : ZCX E X MX7_addCard d mc ms P T) : ∀ pc, ZRow E X MX7_addCard mc ms P T pc (ztb (tb_X7_addCard E d mc ms) pc) := ztb_ok (by
  unfold tb_X7_addCard
  refine zfmc (r_aload_n h (pc := 0) (kf := 0) 0 (by decide +kernel) rfl) ?_
  refine zfmc (r_getf h (pc := 1) (ix := 9) (by decide +kernel) ckX7 0 (by decide) wk_e3bfe8f0fc) ?_
  refine zfmc (r_aload_n h (pc := 4) (kf := 0) 0 (by decide +kernel) rfl) ?_
  refine zfmc (r_getf h (pc := 5) (ix := 21) (by decide +kernel) ckX7 2 (by decide) wk_17d695debe) ?_
  refine zfmc (r_getfN h (pc := 8) (ix := 65) (by decide +kernel) ckX6 0 (by decide) wk_6e87d868db) ?_
  refine zfmc (r_lload_n h (pc := 11) (kf := 1) 1 (by decide +kernel) rfl) ?_
  refine zfmc (r_callS h (pc := 12) (ix := 107) (by decide +kernel) 3 mcX7_find wk_61d8aa23e9 wk_2dbb2cb1ae) ?_
  refine zfmc (r_iconst h (pc := 15) (z := -1) (by decide +kernel) (-1) (by decide +kernel)) ?_
  refine zfmc (r_icmp_eq h (pc := 16) (off := 12) (by decide +kernel) 28 (by decide +kernel)) ?_
  refine zfmc (r_aload_n h (pc := 19) (kf := 0) 0 (by decide +kernel) rfl) ?_
  refine zfmc (r_iconst h (pc := 20) (z := 2) (by decide +kernel) (2) (by decide +kernel)) ?_
  refine zfmc (r_iload_n h (pc := 21) (kf := 3) 3 (by decide +kernel) rfl) ?_
  refine zfmc (r_callV h (pc := 22) (ix := 51) (by decide +kernel) ckX7 2 mcX7_fault wk_5207a6e7c2 wk_4f13c41ef8 wk_9b0c7ca1d2 rfl) ?_
  refine zfmc (r_goto h (pc := 25) (off := 63) (by decide +kernel) 88 (by decide +kernel)) ?_
  refine zfmc (r_aload_n h (pc := 28) (kf := 0) 0 (by decide +kernel) rfl) ?_
  refine zfmc (r_getf h (pc := 29) (ix := 21) (by decide +kernel) ckX7 2 (by decide) wk_17d695debe) ?_
  refine zfmc (r_getfN h (pc := 32) (ix := 65) (by decide +kernel) ckX6 0 (by decide) wk_6e87d868db) ?_
  refine zfmc (r_if_lt h (pc := 35) (off := 18) (by decide +kernel) 53 (by decide +kernel)) ?_
  refine zfmc (r_aload_n h (pc := 38) (kf := 0) 0 (by decide +kernel) rfl) ?_
  refine zfmc (r_getf h (pc := 39) (ix := 21) (by decide +kernel) ckX7 2 (by decide) wk_17d695debe) ?_
  refine zfmc (r_getfN h (pc := 42) (ix := 65) (by decide +kernel) ckX6 0 (by decide) wk_6e87d868db) ?_
  refine zfmc (r_aload_n h (pc := 45) (kf := 0) 0 (by decide +kernel) rfl) ?_
  refine zfmc (r_getf h (pc := 46) (ix := 9) (by decide +kernel) ckX7 0 (by decide) wk_e3bfe8f0fc) ?_
  refine zfmc (r_alen h (pc := 49) (by decide +kernel)) ?_
  refine zfmc (r_icmp_lt h (pc := 50) (off := 12) (by decide +kernel) 62 (by decide +kernel)) ?_
  refine zfmc (r_aload_n h (pc := 53) (kf := 0) 0 (by decide +kernel) rfl) ?_
  refine zfmc (r_iconst h (pc := 54) (z := 4) (by decide +kernel) (4) (by decide +kernel)) ?_
  refine zfmc (r_iload_n h (pc := 55) (kf := 3) 3 (by decide +kernel) rfl) ?_
  refine zfmc (r_callV h (pc := 56) (ix := 51) (by decide +kernel) ckX7 2 mcX7_fault wk_5207a6e7c2 wk_4f13c41ef8 wk_9b0c7ca1d2 rfl) ?_
  refine zfmc (r_goto h (pc := 59) (off := 29) (by decide +kernel) 88 (by decide +kernel)) ?_
  refine zfmc (r_aload_n h (pc := 62) (kf := 0) 0 (by decide +kernel) rfl) ?_
  refine zfmc (r_getf h (pc := 63) (ix := 9) (by decide +kernel) ckX7 0 (by decide) wk_e3bfe8f0fc) ?_
  refine zfmc (r_aload_n h (pc := 66) (kf := 0) 0 (by decide +kernel) rfl) ?_
  refine zfmc (r_getf h (pc := 67) (ix := 21) (by decide +kernel) ckX7 2 (by decide) wk_17d695debe) ?_
  refine zfmc (r_getfN h (pc := 70) (ix := 65) (by decide +kernel) ckX6 0 (by decide) wk_6e87d868db) ?_
  refine zfmc (r_lload_n h (pc := 73) (kf := 1) 1 (by decide +kernel) rfl) ?_
  refine zfmc (r_lastore h (pc := 74) (by decide +kernel)) ?_
  refine zfmc (r_aload_n h (pc := 75) (kf := 0) 0 (by decide +kernel) rfl) ?_
  refine zfmc (r_getf h (pc := 76) (ix := 21) (by decide +kernel) ckX7 2 (by decide) wk_17d695debe) ?_
  refine zfmc (r_dup h (pc := 79) (by decide +kernel)) ?_
  refine zfmc (r_getfN h (pc := 80) (ix := 65) (by decide +kernel) ckX6 0 (by decide) wk_6e87d868db) ?_
  refine zfmc (r_iconst h (pc := 83) (z := 1) (by decide +kernel) (1) (by decide +kernel)) ?_
  refine zfmc (r_iadd h (pc := 84) (by decide +kernel)) ?_
  refine zfmc (r_putfN h (pc := 85) (ix := 65) (by decide +kernel) ckX6 0 (by decide) 0 (fty := tyX6 0) (tyX6_ok 0 (by decide)) rfl rfl wk_6e87d868db) ?_
  refine zfmc (r_return h (pc := 88) (by decide +kernel) rfl) ?_
  exact zfm0)
def tb_X7_addMerchant (E : ZEX) (d mc ms : Nat) : List (Nat × ZStep) := [(0, s_aload 0 1), (1, s_getf 6 1 4), (4, s_aload 0 5), (5, s_getf 6 2 8), (8, s_getf 5 1 11), (11, s_lload 1 12), (12, s_callS E d mc ms MX7_find 3 15), (15, s_const (.int (-1)) 16), (16, s_icmp_eq 28 19), (19, s_aload 0 20), (20, s_const (.int (2)) 21), (21, s_iload 3 22), (22, s_callV E d mc ms 6 MX7_fault 2 25), (25, s_goto 88), (28, s_aload 0 29), (29, s_getf 6 2 32), (32, s_getf 5 1 35), (35, s_if_lt 53 38), (38, s_aload 0 39), (39, s_getf 6 2 42), (42, s_getf 5 1 45), (45, s_aload 0 46), (46, s_getf 6 1 49), (49, s_alen E 50), (50, s_icmp_lt 62 53), (53, s_aload 0 54), (54, s_const (.int (4)) 55), (55, s_iload 3 56), (56, s_callV E d mc ms 6 MX7_fault 2 59), (59, s_goto 88), (62, s_aload 0 63), (63, s_getf 6 1 66), (66, s_aload 0 67), (67, s_getf 6 2 70), (70, s_getf 5 1 73), (73, s_lload 1 74), (74, s_lastore E 75), (75, s_aload 0 76), (76, s_getf 6 2 79), (79, s_dup 80), (80, s_getf 5 1 83), (83, s_const (.int (1)) 84), (84, s_iadd 85), (85, s_putf 5 1 0 88), (88, s_return)]
set_option maxRecDepth 20000 in
theorem ok_X7_addMerchant {E : ZEX} {X : ZMX} {d mc ms : Nat} {P : ZPT} {T : ZTT} (h : ZCX E X MX7_addMerchant d mc ms P T) : ∀ pc, ZRow E X MX7_addMerchant mc ms P T pc (ztb (tb_X7_addMerchant E d mc ms) pc) := ztb_ok (by
  unfold tb_X7_addMerchant
  refine zfmc (r_aload_n h (pc := 0) (kf := 0) 0 (by decide +kernel) rfl) ?_
  refine zfmc (r_getf h (pc := 1) (ix := 15) (by decide +kernel) ckX7 1 (by decide) wk_c3685fc114) ?_
  refine zfmc (r_aload_n h (pc := 4) (kf := 0) 0 (by decide +kernel) rfl) ?_
  refine zfmc (r_getf h (pc := 5) (ix := 21) (by decide +kernel) ckX7 2 (by decide) wk_17d695debe) ?_
  refine zfmc (r_getfN h (pc := 8) (ix := 111) (by decide +kernel) ckX6 1 (by decide) wk_b9a167de6d) ?_
  refine zfmc (r_lload_n h (pc := 11) (kf := 1) 1 (by decide +kernel) rfl) ?_
  refine zfmc (r_callS h (pc := 12) (ix := 107) (by decide +kernel) 3 mcX7_find wk_61d8aa23e9 wk_2dbb2cb1ae) ?_
  refine zfmc (r_iconst h (pc := 15) (z := -1) (by decide +kernel) (-1) (by decide +kernel)) ?_
  refine zfmc (r_icmp_eq h (pc := 16) (off := 12) (by decide +kernel) 28 (by decide +kernel)) ?_
  refine zfmc (r_aload_n h (pc := 19) (kf := 0) 0 (by decide +kernel) rfl) ?_
  refine zfmc (r_iconst h (pc := 20) (z := 2) (by decide +kernel) (2) (by decide +kernel)) ?_
  refine zfmc (r_iload_n h (pc := 21) (kf := 3) 3 (by decide +kernel) rfl) ?_
  refine zfmc (r_callV h (pc := 22) (ix := 51) (by decide +kernel) ckX7 2 mcX7_fault wk_5207a6e7c2 wk_4f13c41ef8 wk_9b0c7ca1d2 rfl) ?_
  refine zfmc (r_goto h (pc := 25) (off := 63) (by decide +kernel) 88 (by decide +kernel)) ?_
  refine zfmc (r_aload_n h (pc := 28) (kf := 0) 0 (by decide +kernel) rfl) ?_
  refine zfmc (r_getf h (pc := 29) (ix := 21) (by decide +kernel) ckX7 2 (by decide) wk_17d695debe) ?_
  refine zfmc (r_getfN h (pc := 32) (ix := 111) (by decide +kernel) ckX6 1 (by decide) wk_b9a167de6d) ?_
  refine zfmc (r_if_lt h (pc := 35) (off := 18) (by decide +kernel) 53 (by decide +kernel)) ?_
  refine zfmc (r_aload_n h (pc := 38) (kf := 0) 0 (by decide +kernel) rfl) ?_
  refine zfmc (r_getf h (pc := 39) (ix := 21) (by decide +kernel) ckX7 2 (by decide) wk_17d695debe) ?_
  refine zfmc (r_getfN h (pc := 42) (ix := 111) (by decide +kernel) ckX6 1 (by decide) wk_b9a167de6d) ?_
  refine zfmc (r_aload_n h (pc := 45) (kf := 0) 0 (by decide +kernel) rfl) ?_
  refine zfmc (r_getf h (pc := 46) (ix := 15) (by decide +kernel) ckX7 1 (by decide) wk_c3685fc114) ?_
  refine zfmc (r_alen h (pc := 49) (by decide +kernel)) ?_
  refine zfmc (r_icmp_lt h (pc := 50) (off := 12) (by decide +kernel) 62 (by decide +kernel)) ?_
  refine zfmc (r_aload_n h (pc := 53) (kf := 0) 0 (by decide +kernel) rfl) ?_
  refine zfmc (r_iconst h (pc := 54) (z := 4) (by decide +kernel) (4) (by decide +kernel)) ?_
  refine zfmc (r_iload_n h (pc := 55) (kf := 3) 3 (by decide +kernel) rfl) ?_
  refine zfmc (r_callV h (pc := 56) (ix := 51) (by decide +kernel) ckX7 2 mcX7_fault wk_5207a6e7c2 wk_4f13c41ef8 wk_9b0c7ca1d2 rfl) ?_
  refine zfmc (r_goto h (pc := 59) (off := 29) (by decide +kernel) 88 (by decide +kernel)) ?_
  refine zfmc (r_aload_n h (pc := 62) (kf := 0) 0 (by decide +kernel) rfl) ?_
  refine zfmc (r_getf h (pc := 63) (ix := 15) (by decide +kernel) ckX7 1 (by decide) wk_c3685fc114) ?_
  refine zfmc (r_aload_n h (pc := 66) (kf := 0) 0 (by decide +kernel) rfl) ?_
  refine zfmc (r_getf h (pc := 67) (ix := 21) (by decide +kernel) ckX7 2 (by decide) wk_17d695debe) ?_
  refine zfmc (r_getfN h (pc := 70) (ix := 111) (by decide +kernel) ckX6 1 (by decide) wk_b9a167de6d) ?_
  refine zfmc (r_lload_n h (pc := 73) (kf := 1) 1 (by decide +kernel) rfl) ?_
  refine zfmc (r_lastore h (pc := 74) (by decide +kernel)) ?_
  refine zfmc (r_aload_n h (pc := 75) (kf := 0) 0 (by decide +kernel) rfl) ?_
  refine zfmc (r_getf h (pc := 76) (ix := 21) (by decide +kernel) ckX7 2 (by decide) wk_17d695debe) ?_
  refine zfmc (r_dup h (pc := 79) (by decide +kernel)) ?_
  refine zfmc (r_getfN h (pc := 80) (ix := 111) (by decide +kernel) ckX6 1 (by decide) wk_b9a167de6d) ?_
  refine zfmc (r_iconst h (pc := 83) (z := 1) (by decide +kernel) (1) (by decide +kernel)) ?_
  refine zfmc (r_iadd h (pc := 84) (by decide +kernel)) ?_
  refine zfmc (r_putfN h (pc := 85) (ix := 111) (by decide +kernel) ckX6 1 (by decide) 0 (fty := tyX6 1) (tyX6_ok 1 (by decide)) rfl rfl wk_b9a167de6d) ?_
  refine zfmc (r_return h (pc := 88) (by decide +kernel) rfl) ?_
  exact zfm0)
def tb_X7_writeNamed (E : ZEX) (d mc ms : Nat) : List (Nat × ZStep) := [(0, s_iload 2 1), (1, s_const (.int (-1)) 2), (2, s_icmp_ne 6 5), (5, s_return), (6, s_aload 0 7), (7, s_getf 6 2 10), (10, s_getf 5 0 13), (13, s_const (.int (1)) 14), (14, s_isub 15), (15, s_istore 3 16), (16, s_const (.ref (zeK E 47)) 19), (19, s_aload 1 20), (20, s_callK E d mc ms 0 46 MJx29ce0_ordinal_8abf5 0 23), (23, s_ialdK E 24), (24, s_tsw 1 [64, 103, 121, 144, 167, 167] 198), (64, s_const (.int (0)) 65), (65, s_istore 4 67), (67, s_iload 4 69), (69, s_aload 0 70), (70, s_getf 6 5 73), (73, s_icmp_ge 100 76), (76, s_iload 4 78), (78, s_const (.int (20)) 80), (80, s_icmp_ge 100 83), (83, s_aload 0 84), (84, s_getf 6 2 87), (87, s_getf 5 6 90), (90, s_iload 2 91), (91, s_callV E d mc ms 4 MX5_add 1 94), (94, s_iinc 4 (1) 97), (97, s_goto 67), (100, s_goto 198), (103, s_aload 0 104), (104, s_getf 6 2 107), (107, s_getf 5 5 110), (110, s_iload 2 111), (111, s_aload 0 112), (112, s_getf 6 5 115), (115, s_callV E d mc ms 4 MX5_set 2 118), (118, s_goto 198), (121, s_aload 0 122), (122, s_getf 6 2 125), (125, s_getf 5 12 128), (128, s_aload 0 129), (129, s_getf 6 2 132), (132, s_getf 5 2 135), (135, s_const (.int (1)) 136), (136, s_isub 137), (137, s_iload 2 138), (138, s_callV E d mc ms 4 MX5_set 2 141), (141, s_goto 198), (144, s_aload 0 145), (145, s_getf 6 2 148), (148, s_getf 5 11 151), (151, s_aload 0 152), (152, s_getf 6 2 155), (155, s_getf 5 2 158), (158, s_const (.int (1)) 159), (159, s_isub 160), (160, s_iload 2 161), (161, s_callV E d mc ms 4 MX5_set 2 164), (164, s_goto 198), (167, s_aload 0 168), (168, s_getf 6 2 171), (171, s_getf 5 9 174), (174, s_iload 3 175), (175, s_const (.int (4)) 176), (176, s_imul 177), (177, s_aload 0 178), (178, s_getf 6 2 181), (181, s_getf 5 7 184), (184, s_iload 3 185), (185, s_callV E d mc ms 4 MX5_get 1 188), (188, s_iadd 189), (189, s_const (.int (1)) 190), (190, s_isub 191), (191, s_iload 2 192), (192, s_callV E d mc ms 4 MX5_set 2 195), (195, s_goto 198), (198, s_return)]
set_option maxRecDepth 20000 in
theorem ok_X7_writeNamed {E : ZEX} {X : ZMX} {d mc ms : Nat} {P : ZPT} {T : ZTT} (h : ZCX E X MX7_writeNamed d mc ms P T) : ∀ pc, ZRow E X MX7_writeNamed mc ms P T pc (ztb (tb_X7_writeNamed E d mc ms) pc) := ztb_ok (by
  unfold tb_X7_writeNamed
  refine zfmc (r_iload_n h (pc := 0) (kf := 2) 2 (by decide +kernel) rfl) ?_
  refine zfmc (r_iconst h (pc := 1) (z := -1) (by decide +kernel) (-1) (by decide +kernel)) ?_
  refine zfmc (r_icmp_ne h (pc := 2) (off := 4) (by decide +kernel) 6 (by decide +kernel)) ?_
  refine zfmc (r_return h (pc := 5) (by decide +kernel) rfl) ?_
  refine zfmc (r_aload_n h (pc := 6) (kf := 0) 0 (by decide +kernel) rfl) ?_
  refine zfmc (r_getf h (pc := 7) (ix := 21) (by decide +kernel) ckX7 2 (by decide) wk_17d695debe) ?_
  refine zfmc (r_getfN h (pc := 10) (ix := 65) (by decide +kernel) ckX6 0 (by decide) wk_6e87d868db) ?_
  refine zfmc (r_iconst h (pc := 13) (z := 1) (by decide +kernel) (1) (by decide +kernel)) ?_
  refine zfmc (r_isub h (pc := 14) (by decide +kernel)) ?_
  refine zfmc (r_istore_n h (pc := 15) (kf := 3) 3 (by decide +kernel) rfl (by decide +kernel)) ?_
  refine zfmc (r_getstatic h (pc := 16) (ix := 138) (by decide +kernel) (.ref (zeK E 47)) (zx_sw h.ok) wk_26c013d11e) ?_
  refine zfmc (r_aload_n h (pc := 19) (kf := 1) 1 (by decide +kernel) rfl) ?_
  refine zfmc (r_callU h (pc := 20) (ix := 144) (by decide +kernel) (zx_sgO2 h.ok) 0 mcJx29ce0_ordinal_8abf5 wk_7da2aaab0b (⟨RX8, "ordinal", "()I"⟩ : MethodName) wk_82f4ddb94b wk_7f528e0d7b wk_644ddbbc93 rfl) ?_
  refine zfmc (r_ialdK h (pc := 23) (by decide +kernel)) ?_
  refine zfmc (r_tsw h (pc := 24) (dflt := 174) (lo := 1) (hi := 6) (offs := #[40, 79, 97, 120, 143, 143]) (len := 40) (by decide +kernel) [64, 103, 121, 144, 167, 167] 198 (by decide +kernel) (by decide +kernel) (by decide +kernel)) ?_
  refine zfmc (r_iconst h (pc := 64) (z := 0) (by decide +kernel) (0) (by decide +kernel)) ?_
  refine zfmc (r_istore h (pc := 65) 4 (by decide +kernel) (by decide +kernel)) ?_
  refine zfmc (r_iload h (pc := 67) 4 (by decide +kernel)) ?_
  refine zfmc (r_aload_n h (pc := 69) (kf := 0) 0 (by decide +kernel) rfl) ?_
  refine zfmc (r_getf h (pc := 70) (ix := 32) (by decide +kernel) ckX7 5 (by decide) wk_77218926ed) ?_
  refine zfmc (r_icmp_ge h (pc := 73) (off := 27) (by decide +kernel) 100 (by decide +kernel)) ?_
  refine zfmc (r_iload h (pc := 76) 4 (by decide +kernel)) ?_
  refine zfmc (r_bipush h (pc := 78) (z := 20) (by decide +kernel) (20) (by decide +kernel)) ?_
  refine zfmc (r_icmp_ge h (pc := 80) (off := 20) (by decide +kernel) 100 (by decide +kernel)) ?_
  refine zfmc (r_aload_n h (pc := 83) (kf := 0) 0 (by decide +kernel) rfl) ?_
  refine zfmc (r_getf h (pc := 84) (ix := 21) (by decide +kernel) ckX7 2 (by decide) wk_17d695debe) ?_
  refine zfmc (r_getfN h (pc := 87) (ix := 41) (by decide +kernel) ckX6 6 (by decide) wk_30d1414ab5) ?_
  refine zfmc (r_iload_n h (pc := 90) (kf := 2) 2 (by decide +kernel) rfl) ?_
  refine zfmc (r_callV h (pc := 91) (ix := 147) (by decide +kernel) ckX5 1 mcX5_add wk_e34e9f52c3 wk_47cf170c90 wk_45d5950202 rfl) ?_
  refine zfmc (r_iinc h (pc := 94) 4 (z := 1) (by decide +kernel) (1) (by decide +kernel) (by decide +kernel)) ?_
  refine zfmc (r_goto h (pc := 97) (off := -30) (by decide +kernel) 67 (by decide +kernel)) ?_
  refine zfmc (r_goto h (pc := 100) (off := 98) (by decide +kernel) 198 (by decide +kernel)) ?_
  refine zfmc (r_aload_n h (pc := 103) (kf := 0) 0 (by decide +kernel) rfl) ?_
  refine zfmc (r_getf h (pc := 104) (ix := 21) (by decide +kernel) ckX7 2 (by decide) wk_17d695debe) ?_
  refine zfmc (r_getfN h (pc := 107) (ix := 151) (by decide +kernel) ckX6 5 (by decide) wk_9427da0481) ?_
  refine zfmc (r_iload_n h (pc := 110) (kf := 2) 2 (by decide +kernel) rfl) ?_
  refine zfmc (r_aload_n h (pc := 111) (kf := 0) 0 (by decide +kernel) rfl) ?_
  refine zfmc (r_getf h (pc := 112) (ix := 32) (by decide +kernel) ckX7 5 (by decide) wk_77218926ed) ?_
  refine zfmc (r_callV h (pc := 115) (ix := 68) (by decide +kernel) ckX5 2 mcX5_set wk_ccb0d228aa wk_4ee565af6c wk_4515af4f52 rfl) ?_
  refine zfmc (r_goto h (pc := 118) (off := 80) (by decide +kernel) 198 (by decide +kernel)) ?_
  refine zfmc (r_aload_n h (pc := 121) (kf := 0) 0 (by decide +kernel) rfl) ?_
  refine zfmc (r_getf h (pc := 122) (ix := 21) (by decide +kernel) ckX7 2 (by decide) wk_17d695debe) ?_
  refine zfmc (r_getfN h (pc := 125) (ix := 154) (by decide +kernel) ckX6 12 (by decide) wk_46a8935115) ?_
  refine zfmc (r_aload_n h (pc := 128) (kf := 0) 0 (by decide +kernel) rfl) ?_
  refine zfmc (r_getf h (pc := 129) (ix := 21) (by decide +kernel) ckX7 2 (by decide) wk_17d695debe) ?_
  refine zfmc (r_getfN h (pc := 132) (ix := 132) (by decide +kernel) ckX6 2 (by decide) wk_f37bb93753) ?_
  refine zfmc (r_iconst h (pc := 135) (z := 1) (by decide +kernel) (1) (by decide +kernel)) ?_
  refine zfmc (r_isub h (pc := 136) (by decide +kernel)) ?_
  refine zfmc (r_iload_n h (pc := 137) (kf := 2) 2 (by decide +kernel) rfl) ?_
  refine zfmc (r_callV h (pc := 138) (ix := 68) (by decide +kernel) ckX5 2 mcX5_set wk_ccb0d228aa wk_4ee565af6c wk_4515af4f52 rfl) ?_
  refine zfmc (r_goto h (pc := 141) (off := 57) (by decide +kernel) 198 (by decide +kernel)) ?_
  refine zfmc (r_aload_n h (pc := 144) (kf := 0) 0 (by decide +kernel) rfl) ?_
  refine zfmc (r_getf h (pc := 145) (ix := 21) (by decide +kernel) ckX7 2 (by decide) wk_17d695debe) ?_
  refine zfmc (r_getfN h (pc := 148) (ix := 157) (by decide +kernel) ckX6 11 (by decide) wk_b5ae64f92f) ?_
  refine zfmc (r_aload_n h (pc := 151) (kf := 0) 0 (by decide +kernel) rfl) ?_
  refine zfmc (r_getf h (pc := 152) (ix := 21) (by decide +kernel) ckX7 2 (by decide) wk_17d695debe) ?_
  refine zfmc (r_getfN h (pc := 155) (ix := 132) (by decide +kernel) ckX6 2 (by decide) wk_f37bb93753) ?_
  refine zfmc (r_iconst h (pc := 158) (z := 1) (by decide +kernel) (1) (by decide +kernel)) ?_
  refine zfmc (r_isub h (pc := 159) (by decide +kernel)) ?_
  refine zfmc (r_iload_n h (pc := 160) (kf := 2) 2 (by decide +kernel) rfl) ?_
  refine zfmc (r_callV h (pc := 161) (ix := 68) (by decide +kernel) ckX5 2 mcX5_set wk_ccb0d228aa wk_4ee565af6c wk_4515af4f52 rfl) ?_
  refine zfmc (r_goto h (pc := 164) (off := 34) (by decide +kernel) 198 (by decide +kernel)) ?_
  refine zfmc (r_aload_n h (pc := 167) (kf := 0) 0 (by decide +kernel) rfl) ?_
  refine zfmc (r_getf h (pc := 168) (ix := 21) (by decide +kernel) ckX7 2 (by decide) wk_17d695debe) ?_
  refine zfmc (r_getfN h (pc := 171) (ix := 160) (by decide +kernel) ckX6 9 (by decide) wk_25e1572d88) ?_
  refine zfmc (r_iload_n h (pc := 174) (kf := 3) 3 (by decide +kernel) rfl) ?_
  refine zfmc (r_iconst h (pc := 175) (z := 4) (by decide +kernel) (4) (by decide +kernel)) ?_
  refine zfmc (r_imul h (pc := 176) (by decide +kernel)) ?_
  refine zfmc (r_aload_n h (pc := 177) (kf := 0) 0 (by decide +kernel) rfl) ?_
  refine zfmc (r_getf h (pc := 178) (ix := 21) (by decide +kernel) ckX7 2 (by decide) wk_17d695debe) ?_
  refine zfmc (r_getfN h (pc := 181) (ix := 114) (by decide +kernel) ckX6 7 (by decide) wk_b3708af178) ?_
  refine zfmc (r_iload_n h (pc := 184) (kf := 3) 3 (by decide +kernel) rfl) ?_
  refine zfmc (r_callV h (pc := 185) (ix := 117) (by decide +kernel) ckX5 1 mcX5_get wk_d096485f84 wk_84cada5791 wk_1db6b0b94a rfl) ?_
  refine zfmc (r_iadd h (pc := 188) (by decide +kernel)) ?_
  refine zfmc (r_iconst h (pc := 189) (z := 1) (by decide +kernel) (1) (by decide +kernel)) ?_
  refine zfmc (r_isub h (pc := 190) (by decide +kernel)) ?_
  refine zfmc (r_iload_n h (pc := 191) (kf := 2) 2 (by decide +kernel) rfl) ?_
  refine zfmc (r_callV h (pc := 192) (ix := 68) (by decide +kernel) ckX5 2 mcX5_set wk_ccb0d228aa wk_4ee565af6c wk_4515af4f52 rfl) ?_
  refine zfmc (r_goto h (pc := 195) (off := 3) (by decide +kernel) 198 (by decide +kernel)) ?_
  refine zfmc (r_return h (pc := 198) (by decide +kernel) rfl) ?_
  exact zfm0)
def tb_X7_find (E : ZEX) (d mc ms : Nat) : List (Nat × ZStep) := [(0, s_const (.int (0)) 1), (1, s_istore 4 3), (3, s_iload 4 5), (5, s_iload 1 6), (6, s_icmp_ge 34 9), (9, s_iload 4 11), (11, s_aload 0 12), (12, s_alen E 13), (13, s_icmp_ge 34 16), (16, s_aload 0 17), (17, s_iload 4 19), (19, s_laload E 20), (20, s_lload 2 21), (21, s_lcmp 22), (22, s_if_ne 28 25), (25, s_iload 4 27), (27, s_ireturn), (28, s_iinc 4 (1) 31), (31, s_goto 3), (34, s_const (.int (-1)) 35), (35, s_ireturn)]
set_option maxRecDepth 20000 in
theorem ok_X7_find {E : ZEX} {X : ZMX} {d mc ms : Nat} {P : ZPT} {T : ZTT} (h : ZCX E X MX7_find d mc ms P T) : ∀ pc, ZRow E X MX7_find mc ms P T pc (ztb (tb_X7_find E d mc ms) pc) := ztb_ok (by
  unfold tb_X7_find
  refine zfmc (r_iconst h (pc := 0) (z := 0) (by decide +kernel) (0) (by decide +kernel)) ?_
  refine zfmc (r_istore h (pc := 1) 4 (by decide +kernel) (by decide +kernel)) ?_
  refine zfmc (r_iload h (pc := 3) 4 (by decide +kernel)) ?_
  refine zfmc (r_iload_n h (pc := 5) (kf := 1) 1 (by decide +kernel) rfl) ?_
  refine zfmc (r_icmp_ge h (pc := 6) (off := 28) (by decide +kernel) 34 (by decide +kernel)) ?_
  refine zfmc (r_iload h (pc := 9) 4 (by decide +kernel)) ?_
  refine zfmc (r_aload_n h (pc := 11) (kf := 0) 0 (by decide +kernel) rfl) ?_
  refine zfmc (r_alen h (pc := 12) (by decide +kernel)) ?_
  refine zfmc (r_icmp_ge h (pc := 13) (off := 21) (by decide +kernel) 34 (by decide +kernel)) ?_
  refine zfmc (r_aload_n h (pc := 16) (kf := 0) 0 (by decide +kernel) rfl) ?_
  refine zfmc (r_iload h (pc := 17) 4 (by decide +kernel)) ?_
  refine zfmc (r_laload h (pc := 19) (by decide +kernel)) ?_
  refine zfmc (r_lload_n h (pc := 20) (kf := 2) 2 (by decide +kernel) rfl) ?_
  refine zfmc (r_lcmp h (pc := 21) (by decide +kernel)) ?_
  refine zfmc (r_if_ne h (pc := 22) (off := 6) (by decide +kernel) 28 (by decide +kernel)) ?_
  refine zfmc (r_iload h (pc := 25) 4 (by decide +kernel)) ?_
  refine zfmc (r_ireturn h (pc := 27) (by decide +kernel) rfl) ?_
  refine zfmc (r_iinc h (pc := 28) 4 (z := 1) (by decide +kernel) (1) (by decide +kernel) (by decide +kernel)) ?_
  refine zfmc (r_goto h (pc := 31) (off := -28) (by decide +kernel) 3 (by decide +kernel)) ?_
  refine zfmc (r_iconst h (pc := 34) (z := -1) (by decide +kernel) (-1) (by decide +kernel)) ?_
  refine zfmc (r_ireturn h (pc := 35) (by decide +kernel) rfl) ?_
  exact zfm0)
def tb_X8_spelled (E : ZEX) (d mc ms : Nat) : List (Nat × ZStep) := [(0, s_const (.ref (zeK E 46)) 3), (3, s_astore 3 4), (4, s_aload 3 5), (5, s_alenK E 46 46 6), (6, s_istore 4 8), (8, s_const (.int (0)) 9), (9, s_istore 5 11), (11, s_iload 5 13), (13, s_iload 4 15), (15, s_icmp_ge 49 18), (18, s_aload 3 19), (19, s_iload 5 21), (21, s_aaldK E 46 46 (fun j => j) 22), (22, s_astore 6 24), (24, s_aload 6 26), (26, s_ifnull 43 29), (29, s_aload 6 31), (31, s_aload 0 32), (32, s_iload 1 33), (33, s_iload 2 34), (34, s_callK E d mc ms 0 46 MX8_isSpelled 3 37), (37, s_if_eq 43 40), (40, s_aload 6 42), (42, s_areturn), (43, s_iinc 5 (1) 46), (46, s_goto 11), (49, s_const (.ref (zeK E 0)) 52), (52, s_areturn)]
set_option maxRecDepth 20000 in
theorem ok_X8_spelled {E : ZEX} {X : ZMX} {d mc ms : Nat} {P : ZPT} {T : ZTT} (h : ZCX E X MX8_spelled d mc ms P T) : ∀ pc, ZRow E X MX8_spelled mc ms P T pc (ztb (tb_X8_spelled E d mc ms) pc) := ztb_ok (by
  unfold tb_X8_spelled
  refine zfmc (r_getstatic h (pc := 0) (ix := 165) (by decide +kernel) (.ref (zeK E 46)) (zx_all h.ok) wk_9f7c3c88bd) ?_
  refine zfmc (r_astore_n h (pc := 3) (kf := 3) 3 (by decide +kernel) rfl (by decide +kernel)) ?_
  refine zfmc (r_aload_n h (pc := 4) (kf := 3) 3 (by decide +kernel) rfl) ?_
  refine zfmc (r_alenK h (pc := 5) (by decide +kernel) (zx_allT h.ok)) ?_
  refine zfmc (r_istore h (pc := 6) 4 (by decide +kernel) (by decide +kernel)) ?_
  refine zfmc (r_iconst h (pc := 8) (z := 0) (by decide +kernel) (0) (by decide +kernel)) ?_
  refine zfmc (r_istore h (pc := 9) 5 (by decide +kernel) (by decide +kernel)) ?_
  refine zfmc (r_iload h (pc := 11) 5 (by decide +kernel)) ?_
  refine zfmc (r_iload h (pc := 13) 4 (by decide +kernel)) ?_
  refine zfmc (r_icmp_ge h (pc := 15) (off := 34) (by decide +kernel) 49 (by decide +kernel)) ?_
  refine zfmc (r_aload_n h (pc := 18) (kf := 3) 3 (by decide +kernel) rfl) ?_
  refine zfmc (r_iload h (pc := 19) 5 (by decide +kernel)) ?_
  refine zfmc (r_aaldK h (pc := 21) (by decide +kernel) (zx_allT h.ok)) ?_
  refine zfmc (r_astore h (pc := 22) 6 (by decide +kernel) (by decide +kernel)) ?_
  refine zfmc (r_aload h (pc := 24) 6 (by decide +kernel)) ?_
  refine zfmc (r_ifnull h (pc := 26) (off := 17) (by decide +kernel) 43 (by decide +kernel)) ?_
  refine zfmc (r_aload h (pc := 29) 6 (by decide +kernel)) ?_
  refine zfmc (r_aload_n h (pc := 31) (kf := 0) 0 (by decide +kernel) rfl) ?_
  refine zfmc (r_iload_n h (pc := 32) (kf := 1) 1 (by decide +kernel) rfl) ?_
  refine zfmc (r_iload_n h (pc := 33) (kf := 2) 2 (by decide +kernel) rfl) ?_
  refine zfmc (r_callK h (pc := 34) (ix := 168) (by decide +kernel) (zx_sgO2 h.ok) 3 mcX8_isSpelled wk_a3fe9f05ed wk_7b297bcc83 wk_6b10e3f488 rfl) ?_
  refine zfmc (r_if_eq h (pc := 37) (off := 6) (by decide +kernel) 43 (by decide +kernel)) ?_
  refine zfmc (r_aload h (pc := 40) 6 (by decide +kernel)) ?_
  refine zfmc (r_areturn h (pc := 42) (by decide +kernel) rfl) ?_
  refine zfmc (r_iinc h (pc := 43) 5 (z := 1) (by decide +kernel) (1) (by decide +kernel) (by decide +kernel)) ?_
  refine zfmc (r_goto h (pc := 46) (off := -35) (by decide +kernel) 11 (by decide +kernel)) ?_
  refine zfmc (r_getstatic h (pc := 49) (ix := 3) (by decide +kernel) (.ref (zeK E 0)) (zx_sg h.ok 0 (by decide)) wk_abd1e1b04f) ?_
  refine zfmc (r_areturn h (pc := 52) (by decide +kernel) rfl) ?_
  exact zfm0)
def tb_X8_isSpelled (E : ZEX) (d mc ms : Nat) : List (Nat × ZStep) := [(0, s_aload 0 1), (1, s_getfK E 0 46 (fun j => .ref (zeK E (50 + j))) 4), (4, s_callK E d mc ms 50 123 MJ0_length_8abf5 0 7), (7, s_if_eq 21 10), (10, s_aload 0 11), (11, s_getfK E 0 46 (fun j => .ref (zeK E (50 + j))) 14), (14, s_callK E d mc ms 50 123 MJ0_length_8abf5 0 17), (17, s_iload 3 18), (18, s_icmp_eq 23 21), (21, s_const (.int (0)) 22), (22, s_zreturn), (23, s_const (.int (0)) 24), (24, s_istore 4 26), (26, s_iload 4 28), (28, s_iload 3 29), (29, s_icmp_ge 60 32), (32, s_aload 1 33), (33, s_iload 2 34), (34, s_iload 4 36), (36, s_iadd 37), (37, s_callV E d mc ms 8 MX9_at 1 40), (40, s_aload 0 41), (41, s_getfK E 0 46 (fun j => .ref (zeK E (50 + j))) 44), (44, s_iload 4 46), (46, s_callK E d mc ms 50 123 MJ0_charAt_5068e 1 49), (49, s_icmp_eq 54 52), (52, s_const (.int (0)) 53), (53, s_zreturn), (54, s_iinc 4 (1) 57), (57, s_goto 26), (60, s_const (.int (1)) 61), (61, s_zreturn)]
set_option maxRecDepth 20000 in
theorem ok_X8_isSpelled {E : ZEX} {X : ZMX} {d mc ms : Nat} {P : ZPT} {T : ZTT} (h : ZCX E X MX8_isSpelled d mc ms P T) : ∀ pc, ZRow E X MX8_isSpelled mc ms P T pc (ztb (tb_X8_isSpelled E d mc ms) pc) := ztb_ok (by
  unfold tb_X8_isSpelled
  refine zfmc (r_aload_n h (pc := 0) (kf := 0) 0 (by decide +kernel) rfl) ?_
  refine zfmc (r_getfK h (pc := 1) (ix := 161) (by decide +kernel) (fun j _ hj => zx_text h.ok j hj) wk_a85779d660) ?_
  refine zfmc (r_callK h (pc := 4) (ix := 172) (by decide +kernel) (zx_strO h.ok) 0 mcJ0_length_8abf5 wk_619519f581 wk_4d598e65f7 wk_0dc8280577 rfl) ?_
  refine zfmc (r_if_eq h (pc := 7) (off := 14) (by decide +kernel) 21 (by decide +kernel)) ?_
  refine zfmc (r_aload_n h (pc := 10) (kf := 0) 0 (by decide +kernel) rfl) ?_
  refine zfmc (r_getfK h (pc := 11) (ix := 161) (by decide +kernel) (fun j _ hj => zx_text h.ok j hj) wk_a85779d660) ?_
  refine zfmc (r_callK h (pc := 14) (ix := 172) (by decide +kernel) (zx_strO h.ok) 0 mcJ0_length_8abf5 wk_619519f581 wk_4d598e65f7 wk_0dc8280577 rfl) ?_
  refine zfmc (r_iload_n h (pc := 17) (kf := 3) 3 (by decide +kernel) rfl) ?_
  refine zfmc (r_icmp_eq h (pc := 18) (off := 5) (by decide +kernel) 23 (by decide +kernel)) ?_
  refine zfmc (r_iconst h (pc := 21) (z := 0) (by decide +kernel) (0) (by decide +kernel)) ?_
  refine zfmc (r_zreturn h (pc := 22) (by decide +kernel) rfl) ?_
  refine zfmc (r_iconst h (pc := 23) (z := 0) (by decide +kernel) (0) (by decide +kernel)) ?_
  refine zfmc (r_istore h (pc := 24) 4 (by decide +kernel) (by decide +kernel)) ?_
  refine zfmc (r_iload h (pc := 26) 4 (by decide +kernel)) ?_
  refine zfmc (r_iload_n h (pc := 28) (kf := 3) 3 (by decide +kernel) rfl) ?_
  refine zfmc (r_icmp_ge h (pc := 29) (off := 31) (by decide +kernel) 60 (by decide +kernel)) ?_
  refine zfmc (r_aload_n h (pc := 32) (kf := 1) 1 (by decide +kernel) rfl) ?_
  refine zfmc (r_iload_n h (pc := 33) (kf := 2) 2 (by decide +kernel) rfl) ?_
  refine zfmc (r_iload h (pc := 34) 4 (by decide +kernel)) ?_
  refine zfmc (r_iadd h (pc := 36) (by decide +kernel)) ?_
  refine zfmc (r_callV h (pc := 37) (ix := 178) (by decide +kernel) ckX9 1 mcX9_at wk_0811a024de wk_653894a015 wk_81aef38773 rfl) ?_
  refine zfmc (r_aload_n h (pc := 40) (kf := 0) 0 (by decide +kernel) rfl) ?_
  refine zfmc (r_getfK h (pc := 41) (ix := 161) (by decide +kernel) (fun j _ hj => zx_text h.ok j hj) wk_a85779d660) ?_
  refine zfmc (r_iload h (pc := 44) 4 (by decide +kernel)) ?_
  refine zfmc (r_callK h (pc := 46) (ix := 184) (by decide +kernel) (zx_strO h.ok) 1 mcJ0_charAt_5068e wk_2be1052724 wk_7fb336e4ae wk_9e44423619 rfl) ?_
  refine zfmc (r_icmp_eq h (pc := 49) (off := 5) (by decide +kernel) 54 (by decide +kernel)) ?_
  refine zfmc (r_iconst h (pc := 52) (z := 0) (by decide +kernel) (0) (by decide +kernel)) ?_
  refine zfmc (r_zreturn h (pc := 53) (by decide +kernel) rfl) ?_
  refine zfmc (r_iinc h (pc := 54) 4 (z := 1) (by decide +kernel) (1) (by decide +kernel) (by decide +kernel)) ?_
  refine zfmc (r_goto h (pc := 57) (off := -31) (by decide +kernel) 26 (by decide +kernel)) ?_
  refine zfmc (r_iconst h (pc := 60) (z := 1) (by decide +kernel) (1) (by decide +kernel)) ?_
  refine zfmc (r_zreturn h (pc := 61) (by decide +kernel) rfl) ?_
  exact zfm0)
def tb_X10_init (E : ZEX) (d mc ms : Nat) : List (Nat × ZStep) := [(0, s_aload 0 1), (1, s_objinit d 4), (4, s_aload 0 5), (5, s_const (.int (401)) 8), (8, s_anewS E mc ms 11), (11, s_putf 9 0 3 14), (14, s_aload 0 15), (15, s_new 4 2 fsX5 mc ms 18), (18, s_dup 19), (19, s_const (.int (401)) 22), (22, s_callI E d mc ms MX5_init 1 25), (25, s_putf 9 1 3 28), (28, s_aload 0 29), (29, s_const (.int (401)) 32), (32, s_newL E mc ms 34), (34, s_putf 9 2 3 37), (37, s_aload 0 38), (38, s_const (.int (0)) 39), (39, s_putf 9 3 0 42), (42, s_aload 0 43), (43, s_const (.ref (zeK E 1)) 46), (46, s_putf 9 4 3 49), (49, s_aload 0 50), (50, s_const (.long 0) 51), (51, s_putf 9 5 2 54), (54, s_return)]
set_option maxRecDepth 20000 in
theorem ok_X10_init {E : ZEX} {X : ZMX} {d mc ms : Nat} {P : ZPT} {T : ZTT} (h : ZCX E X MX10_init d mc ms P T) : ∀ pc, ZRow E X MX10_init mc ms P T pc (ztb (tb_X10_init E d mc ms) pc) := ztb_ok (by
  unfold tb_X10_init
  refine zfmc (r_aload_n h (pc := 0) (kf := 0) 0 (by decide +kernel) rfl) ?_
  refine zfmc (r_objinit h (pc := 1) (ix := 3) (by decide +kernel) wk_e4908bb84e wk_ee0d472f0f wk_13171937f3) ?_
  refine zfmc (r_aload_n h (pc := 4) (kf := 0) 0 (by decide +kernel) rfl) ?_
  refine zfmc (r_sipush h (pc := 5) (z := 401) (by decide +kernel) (401) (by decide +kernel)) ?_
  refine zfmc (r_anewS h (pc := 8) (ix := 9) (by decide +kernel) wk_4eadb1f87c (zx_aoS h.ok)) ?_
  refine zfmc (r_putfF h (pc := 11) (ix := 11) (by decide +kernel) ckX10 0 (by decide) 3 (fty := tyX10 0) (tyX10_ok 0 (by decide)) rfl rfl rfl rfl wk_bfd5e5e809) ?_
  refine zfmc (r_aload_n h (pc := 14) (kf := 0) 0 (by decide +kernel) rfl) ?_
  refine zfmc (r_new h (pc := 15) (ix := 17) (by decide +kernel) ckX5 fsX5 tyX5 tyX5_ok fsX5_ok wk_98177cf36f wk_17139636bc wk_1cd044b3d8) ?_
  refine zfmc (r_dup h (pc := 18) (by decide +kernel)) ?_
  refine zfmc (r_sipush h (pc := 19) (z := 401) (by decide +kernel) (401) (by decide +kernel)) ?_
  refine zfmc (r_callI h (pc := 22) (ix := 19) (by decide +kernel) 1 mcX5_init wk_ed7131bba4 rfl rfl wk_56a9bf0e78) ?_
  refine zfmc (r_putfF h (pc := 25) (ix := 22) (by decide +kernel) ckX10 1 (by decide) 3 (fty := tyX10 1) (tyX10_ok 1 (by decide)) rfl rfl rfl rfl wk_feddce35b7) ?_
  refine zfmc (r_aload_n h (pc := 28) (kf := 0) 0 (by decide +kernel) rfl) ?_
  refine zfmc (r_sipush h (pc := 29) (z := 401) (by decide +kernel) (401) (by decide +kernel)) ?_
  refine zfmc (r_newL h (pc := 32) (by decide +kernel) wk_c8524a40b5) ?_
  refine zfmc (r_putfF h (pc := 34) (ix := 26) (by decide +kernel) ckX10 2 (by decide) 3 (fty := tyX10 2) (tyX10_ok 2 (by decide)) rfl rfl rfl rfl wk_78be0f4147) ?_
  refine zfmc (r_aload_n h (pc := 37) (kf := 0) 0 (by decide +kernel) rfl) ?_
  refine zfmc (r_iconst h (pc := 38) (z := 0) (by decide +kernel) (0) (by decide +kernel)) ?_
  refine zfmc (r_putf h (pc := 39) (ix := 30) (by decide +kernel) ckX10 3 (by decide) 0 (fty := tyX10 3) (tyX10_ok 3 (by decide)) rfl rfl wk_f6f6629ee8) ?_
  refine zfmc (r_aload_n h (pc := 42) (kf := 0) 0 (by decide +kernel) rfl) ?_
  refine zfmc (r_getstatic h (pc := 43) (ix := 34) (by decide +kernel) (.ref (zeK E 1)) (zx_sg h.ok 1 (by decide)) wk_8ebbcd3bef) ?_
  refine zfmc (r_putf h (pc := 46) (ix := 38) (by decide +kernel) ckX10 4 (by decide) 3 (fty := tyX10 4) (tyX10_ok 4 (by decide)) rfl rfl wk_0036d487e3) ?_
  refine zfmc (r_aload_n h (pc := 49) (kf := 0) 0 (by decide +kernel) rfl) ?_
  refine zfmc (r_lconst h (pc := 50) (z := 0) (by decide +kernel) 0 (by decide +kernel)) ?_
  refine zfmc (r_putf h (pc := 51) (ix := 41) (by decide +kernel) ckX10 5 (by decide) 2 (fty := tyX10 5) (tyX10_ok 5 (by decide)) rfl rfl wk_25f8b5d7ae) ?_
  refine zfmc (r_return h (pc := 54) (by decide +kernel) rfl) ?_
  exact zfm0)
def tb_X10_scan (E : ZEX) (d mc ms : Nat) : List (Nat × ZStep) := [(0, s_aload 0 1), (1, s_const (.int (0)) 2), (2, s_putf 9 3 0 5), (5, s_const (.int (0)) 6), (6, s_istore 2 7), (7, s_const (.int (0)) 8), (8, s_istore 3 9), (9, s_const (.int (0)) 10), (10, s_istore 4 12), (12, s_iload 4 14), (14, s_const (.int (400)) 17), (17, s_icmp_gt 105 20), (20, s_iload 3 21), (21, s_if_ne 105 24), (24, s_aload 1 25), (25, s_iload 2 26), (26, s_callS E d mc ms MX10_behindBlanks 2 29), (29, s_istore 2 30), (30, s_aload 0 31), (31, s_aload 1 32), (32, s_iload 2 33), (33, s_callV E d mc ms 9 MX10_readToken 2 36), (36, s_istore 5 38), (38, s_iload 4 40), (40, s_const (.int (400)) 43), (43, s_icmp_ne 63 46), (46, s_aload 0 47), (47, s_getf 9 4 50), (50, s_const (.ref (zeK E 1)) 53), (53, s_acmp_eq 63 56), (56, s_aload 0 57), (57, s_const (.ref (zeK E 0)) 60), (60, s_putf 9 4 3 63), (63, s_aload 0 64), (64, s_iload 4 66), (66, s_iload 2 67), (67, s_callV E d mc ms 9 MX10_keep 2 70), (70, s_iload 5 72), (72, s_istore 2 73), (73, s_aload 0 74), (74, s_getf 9 4 77), (77, s_const (.ref (zeK E 1)) 80), (80, s_acmp_eq 93 83), (83, s_aload 0 84), (84, s_getf 9 4 87), (87, s_const (.ref (zeK E 0)) 90), (90, s_acmp_ne 97 93), (93, s_const (.int (1)) 94), (94, s_goto 98), (97, s_const (.int (0)) 98), (98, s_istore 3 99), (99, s_iinc 4 (1) 102), (102, s_goto 12), (105, s_return)]
set_option maxRecDepth 20000 in
theorem ok_X10_scan {E : ZEX} {X : ZMX} {d mc ms : Nat} {P : ZPT} {T : ZTT} (h : ZCX E X MX10_scan d mc ms P T) : ∀ pc, ZRow E X MX10_scan mc ms P T pc (ztb (tb_X10_scan E d mc ms) pc) := ztb_ok (by
  unfold tb_X10_scan
  refine zfmc (r_aload_n h (pc := 0) (kf := 0) 0 (by decide +kernel) rfl) ?_
  refine zfmc (r_iconst h (pc := 1) (z := 0) (by decide +kernel) (0) (by decide +kernel)) ?_
  refine zfmc (r_putf h (pc := 2) (ix := 30) (by decide +kernel) ckX10 3 (by decide) 0 (fty := tyX10 3) (tyX10_ok 3 (by decide)) rfl rfl wk_f6f6629ee8) ?_
  refine zfmc (r_iconst h (pc := 5) (z := 0) (by decide +kernel) (0) (by decide +kernel)) ?_
  refine zfmc (r_istore_n h (pc := 6) (kf := 2) 2 (by decide +kernel) rfl (by decide +kernel)) ?_
  refine zfmc (r_iconst h (pc := 7) (z := 0) (by decide +kernel) (0) (by decide +kernel)) ?_
  refine zfmc (r_istore_n h (pc := 8) (kf := 3) 3 (by decide +kernel) rfl (by decide +kernel)) ?_
  refine zfmc (r_iconst h (pc := 9) (z := 0) (by decide +kernel) (0) (by decide +kernel)) ?_
  refine zfmc (r_istore h (pc := 10) 4 (by decide +kernel) (by decide +kernel)) ?_
  refine zfmc (r_iload h (pc := 12) 4 (by decide +kernel)) ?_
  refine zfmc (r_sipush h (pc := 14) (z := 400) (by decide +kernel) (400) (by decide +kernel)) ?_
  refine zfmc (r_icmp_gt h (pc := 17) (off := 88) (by decide +kernel) 105 (by decide +kernel)) ?_
  refine zfmc (r_iload_n h (pc := 20) (kf := 3) 3 (by decide +kernel) rfl) ?_
  refine zfmc (r_if_ne h (pc := 21) (off := 84) (by decide +kernel) 105 (by decide +kernel)) ?_
  refine zfmc (r_aload_n h (pc := 24) (kf := 1) 1 (by decide +kernel) rfl) ?_
  refine zfmc (r_iload_n h (pc := 25) (kf := 2) 2 (by decide +kernel) rfl) ?_
  refine zfmc (r_callS h (pc := 26) (ix := 45) (by decide +kernel) 2 mcX10_behindBlanks wk_08c50bdb5d wk_20d0f9ea5c) ?_
  refine zfmc (r_istore_n h (pc := 29) (kf := 2) 2 (by decide +kernel) rfl (by decide +kernel)) ?_
  refine zfmc (r_aload_n h (pc := 30) (kf := 0) 0 (by decide +kernel) rfl) ?_
  refine zfmc (r_aload_n h (pc := 31) (kf := 1) 1 (by decide +kernel) rfl) ?_
  refine zfmc (r_iload_n h (pc := 32) (kf := 2) 2 (by decide +kernel) rfl) ?_
  refine zfmc (r_callV h (pc := 33) (ix := 49) (by decide +kernel) ckX10 2 mcX10_readToken wk_361cfd362f wk_d4ade3323a wk_bfd1919f14 rfl) ?_
  refine zfmc (r_istore h (pc := 36) 5 (by decide +kernel) (by decide +kernel)) ?_
  refine zfmc (r_iload h (pc := 38) 4 (by decide +kernel)) ?_
  refine zfmc (r_sipush h (pc := 40) (z := 400) (by decide +kernel) (400) (by decide +kernel)) ?_
  refine zfmc (r_icmp_ne h (pc := 43) (off := 20) (by decide +kernel) 63 (by decide +kernel)) ?_
  refine zfmc (r_aload_n h (pc := 46) (kf := 0) 0 (by decide +kernel) rfl) ?_
  refine zfmc (r_getf h (pc := 47) (ix := 38) (by decide +kernel) ckX10 4 (by decide) wk_0036d487e3) ?_
  refine zfmc (r_getstatic h (pc := 50) (ix := 34) (by decide +kernel) (.ref (zeK E 1)) (zx_sg h.ok 1 (by decide)) wk_8ebbcd3bef) ?_
  refine zfmc (r_acmp_eq h (pc := 53) (off := 10) (by decide +kernel) 63 (by decide +kernel)) ?_
  refine zfmc (r_aload_n h (pc := 56) (kf := 0) 0 (by decide +kernel) rfl) ?_
  refine zfmc (r_getstatic h (pc := 57) (ix := 52) (by decide +kernel) (.ref (zeK E 0)) (zx_sg h.ok 0 (by decide)) wk_d2fdde9d40) ?_
  refine zfmc (r_putf h (pc := 60) (ix := 38) (by decide +kernel) ckX10 4 (by decide) 3 (fty := tyX10 4) (tyX10_ok 4 (by decide)) rfl rfl wk_0036d487e3) ?_
  refine zfmc (r_aload_n h (pc := 63) (kf := 0) 0 (by decide +kernel) rfl) ?_
  refine zfmc (r_iload h (pc := 64) 4 (by decide +kernel)) ?_
  refine zfmc (r_iload_n h (pc := 66) (kf := 2) 2 (by decide +kernel) rfl) ?_
  refine zfmc (r_callV h (pc := 67) (ix := 55) (by decide +kernel) ckX10 2 mcX10_keep wk_f5de3a6c49 wk_ac9d5d2fe8 wk_9f68e2f8de rfl) ?_
  refine zfmc (r_iload h (pc := 70) 5 (by decide +kernel)) ?_
  refine zfmc (r_istore_n h (pc := 72) (kf := 2) 2 (by decide +kernel) rfl (by decide +kernel)) ?_
  refine zfmc (r_aload_n h (pc := 73) (kf := 0) 0 (by decide +kernel) rfl) ?_
  refine zfmc (r_getf h (pc := 74) (ix := 38) (by decide +kernel) ckX10 4 (by decide) wk_0036d487e3) ?_
  refine zfmc (r_getstatic h (pc := 77) (ix := 34) (by decide +kernel) (.ref (zeK E 1)) (zx_sg h.ok 1 (by decide)) wk_8ebbcd3bef) ?_
  refine zfmc (r_acmp_eq h (pc := 80) (off := 13) (by decide +kernel) 93 (by decide +kernel)) ?_
  refine zfmc (r_aload_n h (pc := 83) (kf := 0) 0 (by decide +kernel) rfl) ?_
  refine zfmc (r_getf h (pc := 84) (ix := 38) (by decide +kernel) ckX10 4 (by decide) wk_0036d487e3) ?_
  refine zfmc (r_getstatic h (pc := 87) (ix := 52) (by decide +kernel) (.ref (zeK E 0)) (zx_sg h.ok 0 (by decide)) wk_d2fdde9d40) ?_
  refine zfmc (r_acmp_ne h (pc := 90) (off := 7) (by decide +kernel) 97 (by decide +kernel)) ?_
  refine zfmc (r_iconst h (pc := 93) (z := 1) (by decide +kernel) (1) (by decide +kernel)) ?_
  refine zfmc (r_goto h (pc := 94) (off := 4) (by decide +kernel) 98 (by decide +kernel)) ?_
  refine zfmc (r_iconst h (pc := 97) (z := 0) (by decide +kernel) (0) (by decide +kernel)) ?_
  refine zfmc (r_istore_n h (pc := 98) (kf := 3) 3 (by decide +kernel) rfl (by decide +kernel)) ?_
  refine zfmc (r_iinc h (pc := 99) 4 (z := 1) (by decide +kernel) (1) (by decide +kernel) (by decide +kernel)) ?_
  refine zfmc (r_goto h (pc := 102) (off := -90) (by decide +kernel) 12 (by decide +kernel)) ?_
  refine zfmc (r_return h (pc := 105) (by decide +kernel) rfl) ?_
  exact zfm0)
def tb_X10_sign (E : ZEX) (d mc ms : Nat) : List (Nat × ZStep) := [(0, s_aload 0 1), (1, s_getf 9 3 4), (4, s_if_lt 31 7), (7, s_aload 0 8), (8, s_getf 9 3 11), (11, s_aload 0 12), (12, s_getf 9 0 15), (15, s_alen E 16), (16, s_icmp_ge 31 19), (19, s_aload 0 20), (20, s_getf 9 0 23), (23, s_aload 0 24), (24, s_getf 9 3 27), (27, s_aaload E 28), (28, s_goto 34), (31, s_const (.ref (zeK E 1)) 34), (34, s_astore 1 35), (35, s_aload 1 36), (36, s_ifnonnull 45 39), (39, s_const (.ref (zeK E 1)) 42), (42, s_goto 46), (45, s_aload 1 46), (46, s_areturn)]
set_option maxRecDepth 20000 in
theorem ok_X10_sign {E : ZEX} {X : ZMX} {d mc ms : Nat} {P : ZPT} {T : ZTT} (h : ZCX E X MX10_sign d mc ms P T) : ∀ pc, ZRow E X MX10_sign mc ms P T pc (ztb (tb_X10_sign E d mc ms) pc) := ztb_ok (by
  unfold tb_X10_sign
  refine zfmc (r_aload_n h (pc := 0) (kf := 0) 0 (by decide +kernel) rfl) ?_
  refine zfmc (r_getf h (pc := 1) (ix := 30) (by decide +kernel) ckX10 3 (by decide) wk_f6f6629ee8) ?_
  refine zfmc (r_if_lt h (pc := 4) (off := 27) (by decide +kernel) 31 (by decide +kernel)) ?_
  refine zfmc (r_aload_n h (pc := 7) (kf := 0) 0 (by decide +kernel) rfl) ?_
  refine zfmc (r_getf h (pc := 8) (ix := 30) (by decide +kernel) ckX10 3 (by decide) wk_f6f6629ee8) ?_
  refine zfmc (r_aload_n h (pc := 11) (kf := 0) 0 (by decide +kernel) rfl) ?_
  refine zfmc (r_getf h (pc := 12) (ix := 11) (by decide +kernel) ckX10 0 (by decide) wk_bfd5e5e809) ?_
  refine zfmc (r_alen h (pc := 15) (by decide +kernel)) ?_
  refine zfmc (r_icmp_ge h (pc := 16) (off := 15) (by decide +kernel) 31 (by decide +kernel)) ?_
  refine zfmc (r_aload_n h (pc := 19) (kf := 0) 0 (by decide +kernel) rfl) ?_
  refine zfmc (r_getf h (pc := 20) (ix := 11) (by decide +kernel) ckX10 0 (by decide) wk_bfd5e5e809) ?_
  refine zfmc (r_aload_n h (pc := 23) (kf := 0) 0 (by decide +kernel) rfl) ?_
  refine zfmc (r_getf h (pc := 24) (ix := 30) (by decide +kernel) ckX10 3 (by decide) wk_f6f6629ee8) ?_
  refine zfmc (r_aaload h (pc := 27) (by decide +kernel)) ?_
  refine zfmc (r_goto h (pc := 28) (off := 6) (by decide +kernel) 34 (by decide +kernel)) ?_
  refine zfmc (r_getstatic h (pc := 31) (ix := 34) (by decide +kernel) (.ref (zeK E 1)) (zx_sg h.ok 1 (by decide)) wk_8ebbcd3bef) ?_
  refine zfmc (r_astore_n h (pc := 34) (kf := 1) 1 (by decide +kernel) rfl (by decide +kernel)) ?_
  refine zfmc (r_aload_n h (pc := 35) (kf := 1) 1 (by decide +kernel) rfl) ?_
  refine zfmc (r_ifnonnull h (pc := 36) (off := 9) (by decide +kernel) 45 (by decide +kernel)) ?_
  refine zfmc (r_getstatic h (pc := 39) (ix := 34) (by decide +kernel) (.ref (zeK E 1)) (zx_sg h.ok 1 (by decide)) wk_8ebbcd3bef) ?_
  refine zfmc (r_goto h (pc := 42) (off := 4) (by decide +kernel) 46 (by decide +kernel)) ?_
  refine zfmc (r_aload_n h (pc := 45) (kf := 1) 1 (by decide +kernel) rfl) ?_
  refine zfmc (r_areturn h (pc := 46) (by decide +kernel) rfl) ?_
  exact zfm0)
def tb_X10_value (E : ZEX) (d mc ms : Nat) : List (Nat × ZStep) := [(0, s_aload 0 1), (1, s_getf 9 3 4), (4, s_if_lt 31 7), (7, s_aload 0 8), (8, s_getf 9 3 11), (11, s_aload 0 12), (12, s_getf 9 2 15), (15, s_alen E 16), (16, s_icmp_ge 31 19), (19, s_aload 0 20), (20, s_getf 9 2 23), (23, s_aload 0 24), (24, s_getf 9 3 27), (27, s_laload E 28), (28, s_goto 32), (31, s_const (.long 0) 32), (32, s_lreturn)]
set_option maxRecDepth 20000 in
theorem ok_X10_value {E : ZEX} {X : ZMX} {d mc ms : Nat} {P : ZPT} {T : ZTT} (h : ZCX E X MX10_value d mc ms P T) : ∀ pc, ZRow E X MX10_value mc ms P T pc (ztb (tb_X10_value E d mc ms) pc) := ztb_ok (by
  unfold tb_X10_value
  refine zfmc (r_aload_n h (pc := 0) (kf := 0) 0 (by decide +kernel) rfl) ?_
  refine zfmc (r_getf h (pc := 1) (ix := 30) (by decide +kernel) ckX10 3 (by decide) wk_f6f6629ee8) ?_
  refine zfmc (r_if_lt h (pc := 4) (off := 27) (by decide +kernel) 31 (by decide +kernel)) ?_
  refine zfmc (r_aload_n h (pc := 7) (kf := 0) 0 (by decide +kernel) rfl) ?_
  refine zfmc (r_getf h (pc := 8) (ix := 30) (by decide +kernel) ckX10 3 (by decide) wk_f6f6629ee8) ?_
  refine zfmc (r_aload_n h (pc := 11) (kf := 0) 0 (by decide +kernel) rfl) ?_
  refine zfmc (r_getf h (pc := 12) (ix := 26) (by decide +kernel) ckX10 2 (by decide) wk_78be0f4147) ?_
  refine zfmc (r_alen h (pc := 15) (by decide +kernel)) ?_
  refine zfmc (r_icmp_ge h (pc := 16) (off := 15) (by decide +kernel) 31 (by decide +kernel)) ?_
  refine zfmc (r_aload_n h (pc := 19) (kf := 0) 0 (by decide +kernel) rfl) ?_
  refine zfmc (r_getf h (pc := 20) (ix := 26) (by decide +kernel) ckX10 2 (by decide) wk_78be0f4147) ?_
  refine zfmc (r_aload_n h (pc := 23) (kf := 0) 0 (by decide +kernel) rfl) ?_
  refine zfmc (r_getf h (pc := 24) (ix := 30) (by decide +kernel) ckX10 3 (by decide) wk_f6f6629ee8) ?_
  refine zfmc (r_laload h (pc := 27) (by decide +kernel)) ?_
  refine zfmc (r_goto h (pc := 28) (off := 4) (by decide +kernel) 32 (by decide +kernel)) ?_
  refine zfmc (r_lconst h (pc := 31) (z := 0) (by decide +kernel) 0 (by decide +kernel)) ?_
  refine zfmc (r_lreturn h (pc := 32) (by decide +kernel) rfl) ?_
  exact zfm0)
def tb_X10_place (E : ZEX) (d mc ms : Nat) : List (Nat × ZStep) := [(0, s_aload 0 1), (1, s_getf 9 1 4), (4, s_aload 0 5), (5, s_getf 9 3 8), (8, s_callV E d mc ms 4 MX5_get 1 11), (11, s_ireturn)]
set_option maxRecDepth 20000 in
theorem ok_X10_place {E : ZEX} {X : ZMX} {d mc ms : Nat} {P : ZPT} {T : ZTT} (h : ZCX E X MX10_place d mc ms P T) : ∀ pc, ZRow E X MX10_place mc ms P T pc (ztb (tb_X10_place E d mc ms) pc) := ztb_ok (by
  unfold tb_X10_place
  refine zfmc (r_aload_n h (pc := 0) (kf := 0) 0 (by decide +kernel) rfl) ?_
  refine zfmc (r_getf h (pc := 1) (ix := 22) (by decide +kernel) ckX10 1 (by decide) wk_feddce35b7) ?_
  refine zfmc (r_aload_n h (pc := 4) (kf := 0) 0 (by decide +kernel) rfl) ?_
  refine zfmc (r_getf h (pc := 5) (ix := 30) (by decide +kernel) ckX10 3 (by decide) wk_f6f6629ee8) ?_
  refine zfmc (r_callV h (pc := 8) (ix := 59) (by decide +kernel) ckX5 1 mcX5_get wk_d096485f84 wk_d76516e408 wk_1db6b0b94a rfl) ?_
  refine zfmc (r_ireturn h (pc := 11) (by decide +kernel) rfl) ?_
  exact zfm0)
def tb_X10_isEither (E : ZEX) (d mc ms : Nat) : List (Nat × ZStep) := [(0, s_aload 0 1), (1, s_callV E d mc ms 9 MX10_sign 0 4), (4, s_aload 1 5), (5, s_acmp_eq 16 8), (8, s_aload 0 9), (9, s_callV E d mc ms 9 MX10_sign 0 12), (12, s_aload 2 13), (13, s_acmp_ne 20 16), (16, s_const (.int (1)) 17), (17, s_goto 21), (20, s_const (.int (0)) 21), (21, s_zreturn)]
set_option maxRecDepth 20000 in
theorem ok_X10_isEither {E : ZEX} {X : ZMX} {d mc ms : Nat} {P : ZPT} {T : ZTT} (h : ZCX E X MX10_isEither d mc ms P T) : ∀ pc, ZRow E X MX10_isEither mc ms P T pc (ztb (tb_X10_isEither E d mc ms) pc) := ztb_ok (by
  unfold tb_X10_isEither
  refine zfmc (r_aload_n h (pc := 0) (kf := 0) 0 (by decide +kernel) rfl) ?_
  refine zfmc (r_callV h (pc := 1) (ix := 63) (by decide +kernel) ckX10 0 mcX10_sign wk_acf175afd6 wk_2b1373bc24 wk_6775fbb695 rfl) ?_
  refine zfmc (r_aload_n h (pc := 4) (kf := 1) 1 (by decide +kernel) rfl) ?_
  refine zfmc (r_acmp_eq h (pc := 5) (off := 11) (by decide +kernel) 16 (by decide +kernel)) ?_
  refine zfmc (r_aload_n h (pc := 8) (kf := 0) 0 (by decide +kernel) rfl) ?_
  refine zfmc (r_callV h (pc := 9) (ix := 63) (by decide +kernel) ckX10 0 mcX10_sign wk_acf175afd6 wk_2b1373bc24 wk_6775fbb695 rfl) ?_
  refine zfmc (r_aload_n h (pc := 12) (kf := 2) 2 (by decide +kernel) rfl) ?_
  refine zfmc (r_acmp_ne h (pc := 13) (off := 7) (by decide +kernel) 20 (by decide +kernel)) ?_
  refine zfmc (r_iconst h (pc := 16) (z := 1) (by decide +kernel) (1) (by decide +kernel)) ?_
  refine zfmc (r_goto h (pc := 17) (off := 4) (by decide +kernel) 21 (by decide +kernel)) ?_
  refine zfmc (r_iconst h (pc := 20) (z := 0) (by decide +kernel) (0) (by decide +kernel)) ?_
  refine zfmc (r_zreturn h (pc := 21) (by decide +kernel) rfl) ?_
  exact zfm0)
def tb_X10_advance (E : ZEX) (d mc ms : Nat) : List (Nat × ZStep) := [(0, s_aload 0 1), (1, s_dup 2), (2, s_getf 9 3 5), (5, s_const (.int (1)) 6), (6, s_iadd 7), (7, s_putf 9 3 0 10), (10, s_return)]
set_option maxRecDepth 20000 in
theorem ok_X10_advance {E : ZEX} {X : ZMX} {d mc ms : Nat} {P : ZPT} {T : ZTT} (h : ZCX E X MX10_advance d mc ms P T) : ∀ pc, ZRow E X MX10_advance mc ms P T pc (ztb (tb_X10_advance E d mc ms) pc) := ztb_ok (by
  unfold tb_X10_advance
  refine zfmc (r_aload_n h (pc := 0) (kf := 0) 0 (by decide +kernel) rfl) ?_
  refine zfmc (r_dup h (pc := 1) (by decide +kernel)) ?_
  refine zfmc (r_getf h (pc := 2) (ix := 30) (by decide +kernel) ckX10 3 (by decide) wk_f6f6629ee8) ?_
  refine zfmc (r_iconst h (pc := 5) (z := 1) (by decide +kernel) (1) (by decide +kernel)) ?_
  refine zfmc (r_iadd h (pc := 6) (by decide +kernel)) ?_
  refine zfmc (r_putf h (pc := 7) (ix := 30) (by decide +kernel) ckX10 3 (by decide) 0 (fty := tyX10 3) (tyX10_ok 3 (by decide)) rfl rfl wk_f6f6629ee8) ?_
  refine zfmc (r_return h (pc := 10) (by decide +kernel) rfl) ?_
  exact zfm0)
def tb_X10_take (E : ZEX) (d mc ms : Nat) : List (Nat × ZStep) := [(0, s_aload 0 1), (1, s_callV E d mc ms 9 MX10_sign 0 4), (4, s_aload 1 5), (5, s_acmp_eq 10 8), (8, s_const (.int (0)) 9), (9, s_zreturn), (10, s_aload 0 11), (11, s_callV E d mc ms 9 MX10_advance 0 14), (14, s_const (.int (1)) 15), (15, s_zreturn)]
set_option maxRecDepth 20000 in
theorem ok_X10_take {E : ZEX} {X : ZMX} {d mc ms : Nat} {P : ZPT} {T : ZTT} (h : ZCX E X MX10_take d mc ms P T) : ∀ pc, ZRow E X MX10_take mc ms P T pc (ztb (tb_X10_take E d mc ms) pc) := ztb_ok (by
  unfold tb_X10_take
  refine zfmc (r_aload_n h (pc := 0) (kf := 0) 0 (by decide +kernel) rfl) ?_
  refine zfmc (r_callV h (pc := 1) (ix := 63) (by decide +kernel) ckX10 0 mcX10_sign wk_acf175afd6 wk_2b1373bc24 wk_6775fbb695 rfl) ?_
  refine zfmc (r_aload_n h (pc := 4) (kf := 1) 1 (by decide +kernel) rfl) ?_
  refine zfmc (r_acmp_eq h (pc := 5) (off := 5) (by decide +kernel) 10 (by decide +kernel)) ?_
  refine zfmc (r_iconst h (pc := 8) (z := 0) (by decide +kernel) (0) (by decide +kernel)) ?_
  refine zfmc (r_zreturn h (pc := 9) (by decide +kernel) rfl) ?_
  refine zfmc (r_aload_n h (pc := 10) (kf := 0) 0 (by decide +kernel) rfl) ?_
  refine zfmc (r_callV h (pc := 11) (ix := 67) (by decide +kernel) ckX10 0 mcX10_advance wk_6cd8203c8a wk_59730dda47 wk_add6c799bb rfl) ?_
  refine zfmc (r_iconst h (pc := 14) (z := 1) (by decide +kernel) (1) (by decide +kernel)) ?_
  refine zfmc (r_zreturn h (pc := 15) (by decide +kernel) rfl) ?_
  exact zfm0)
def tb_X10_keep (E : ZEX) (d mc ms : Nat) : List (Nat × ZStep) := [(0, s_iload 1 1), (1, s_if_lt 51 4), (4, s_iload 1 5), (5, s_aload 0 6), (6, s_getf 9 0 9), (9, s_alen E 10), (10, s_icmp_ge 51 13), (13, s_iload 1 14), (14, s_aload 0 15), (15, s_getf 9 2 18), (18, s_alen E 19), (19, s_icmp_ge 51 22), (22, s_aload 0 23), (23, s_getf 9 0 26), (26, s_iload 1 27), (27, s_aload 0 28), (28, s_getf 9 4 31), (31, s_aastoreS E 32), (32, s_aload 0 33), (33, s_getf 9 2 36), (36, s_iload 1 37), (37, s_aload 0 38), (38, s_getf 9 5 41), (41, s_lastore E 42), (42, s_aload 0 43), (43, s_getf 9 1 46), (46, s_iload 1 47), (47, s_iload 2 48), (48, s_callV E d mc ms 4 MX5_set 2 51), (51, s_return)]
set_option maxRecDepth 20000 in
theorem ok_X10_keep {E : ZEX} {X : ZMX} {d mc ms : Nat} {P : ZPT} {T : ZTT} (h : ZCX E X MX10_keep d mc ms P T) : ∀ pc, ZRow E X MX10_keep mc ms P T pc (ztb (tb_X10_keep E d mc ms) pc) := ztb_ok (by
  unfold tb_X10_keep
  refine zfmc (r_iload_n h (pc := 0) (kf := 1) 1 (by decide +kernel) rfl) ?_
  refine zfmc (r_if_lt h (pc := 1) (off := 50) (by decide +kernel) 51 (by decide +kernel)) ?_
  refine zfmc (r_iload_n h (pc := 4) (kf := 1) 1 (by decide +kernel) rfl) ?_
  refine zfmc (r_aload_n h (pc := 5) (kf := 0) 0 (by decide +kernel) rfl) ?_
  refine zfmc (r_getf h (pc := 6) (ix := 11) (by decide +kernel) ckX10 0 (by decide) wk_bfd5e5e809) ?_
  refine zfmc (r_alen h (pc := 9) (by decide +kernel)) ?_
  refine zfmc (r_icmp_ge h (pc := 10) (off := 41) (by decide +kernel) 51 (by decide +kernel)) ?_
  refine zfmc (r_iload_n h (pc := 13) (kf := 1) 1 (by decide +kernel) rfl) ?_
  refine zfmc (r_aload_n h (pc := 14) (kf := 0) 0 (by decide +kernel) rfl) ?_
  refine zfmc (r_getf h (pc := 15) (ix := 26) (by decide +kernel) ckX10 2 (by decide) wk_78be0f4147) ?_
  refine zfmc (r_alen h (pc := 18) (by decide +kernel)) ?_
  refine zfmc (r_icmp_ge h (pc := 19) (off := 32) (by decide +kernel) 51 (by decide +kernel)) ?_
  refine zfmc (r_aload_n h (pc := 22) (kf := 0) 0 (by decide +kernel) rfl) ?_
  refine zfmc (r_getf h (pc := 23) (ix := 11) (by decide +kernel) ckX10 0 (by decide) wk_bfd5e5e809) ?_
  refine zfmc (r_iload_n h (pc := 26) (kf := 1) 1 (by decide +kernel) rfl) ?_
  refine zfmc (r_aload_n h (pc := 27) (kf := 0) 0 (by decide +kernel) rfl) ?_
  refine zfmc (r_getf h (pc := 28) (ix := 38) (by decide +kernel) ckX10 4 (by decide) wk_0036d487e3) ?_
  refine zfmc (r_aastoreS h (pc := 31) (by decide +kernel) (zx_sgO h.ok)) ?_
  refine zfmc (r_aload_n h (pc := 32) (kf := 0) 0 (by decide +kernel) rfl) ?_
  refine zfmc (r_getf h (pc := 33) (ix := 26) (by decide +kernel) ckX10 2 (by decide) wk_78be0f4147) ?_
  refine zfmc (r_iload_n h (pc := 36) (kf := 1) 1 (by decide +kernel) rfl) ?_
  refine zfmc (r_aload_n h (pc := 37) (kf := 0) 0 (by decide +kernel) rfl) ?_
  refine zfmc (r_getf h (pc := 38) (ix := 41) (by decide +kernel) ckX10 5 (by decide) wk_25f8b5d7ae) ?_
  refine zfmc (r_lastore h (pc := 41) (by decide +kernel)) ?_
  refine zfmc (r_aload_n h (pc := 42) (kf := 0) 0 (by decide +kernel) rfl) ?_
  refine zfmc (r_getf h (pc := 43) (ix := 22) (by decide +kernel) ckX10 1 (by decide) wk_feddce35b7) ?_
  refine zfmc (r_iload_n h (pc := 46) (kf := 1) 1 (by decide +kernel) rfl) ?_
  refine zfmc (r_iload_n h (pc := 47) (kf := 2) 2 (by decide +kernel) rfl) ?_
  refine zfmc (r_callV h (pc := 48) (ix := 70) (by decide +kernel) ckX5 2 mcX5_set wk_ccb0d228aa wk_a398ad31ed wk_4515af4f52 rfl) ?_
  refine zfmc (r_return h (pc := 51) (by decide +kernel) rfl) ?_
  exact zfm0)
def tb_X10_behindBlanks (E : ZEX) (d mc ms : Nat) : List (Nat × ZStep) := [(0, s_iload 1 1), (1, s_istore 2 2), (2, s_iload 2 3), (3, s_aload 0 4), (4, s_callV E d mc ms 8 MX9_length 0 7), (7, s_icmp_ge 36 10), (10, s_aload 0 11), (11, s_iload 2 12), (12, s_callV E d mc ms 8 MX9_at 1 15), (15, s_const (.int (32)) 17), (17, s_icmp_eq 30 20), (20, s_aload 0 21), (21, s_iload 2 22), (22, s_callV E d mc ms 8 MX9_at 1 25), (25, s_const (.int (10)) 27), (27, s_icmp_ne 36 30), (30, s_iinc 2 (1) 33), (33, s_goto 2), (36, s_iload 2 37), (37, s_ireturn)]
set_option maxRecDepth 20000 in
theorem ok_X10_behindBlanks {E : ZEX} {X : ZMX} {d mc ms : Nat} {P : ZPT} {T : ZTT} (h : ZCX E X MX10_behindBlanks d mc ms P T) : ∀ pc, ZRow E X MX10_behindBlanks mc ms P T pc (ztb (tb_X10_behindBlanks E d mc ms) pc) := ztb_ok (by
  unfold tb_X10_behindBlanks
  refine zfmc (r_iload_n h (pc := 0) (kf := 1) 1 (by decide +kernel) rfl) ?_
  refine zfmc (r_istore_n h (pc := 1) (kf := 2) 2 (by decide +kernel) rfl (by decide +kernel)) ?_
  refine zfmc (r_iload_n h (pc := 2) (kf := 2) 2 (by decide +kernel) rfl) ?_
  refine zfmc (r_aload_n h (pc := 3) (kf := 0) 0 (by decide +kernel) rfl) ?_
  refine zfmc (r_callV h (pc := 4) (ix := 73) (by decide +kernel) ckX9 0 mcX9_length wk_4501614704 wk_a696399dbe wk_a63e454dd6 rfl) ?_
  refine zfmc (r_icmp_ge h (pc := 7) (off := 29) (by decide +kernel) 36 (by decide +kernel)) ?_
  refine zfmc (r_aload_n h (pc := 10) (kf := 0) 0 (by decide +kernel) rfl) ?_
  refine zfmc (r_iload_n h (pc := 11) (kf := 2) 2 (by decide +kernel) rfl) ?_
  refine zfmc (r_callV h (pc := 12) (ix := 79) (by decide +kernel) ckX9 1 mcX9_at wk_0811a024de wk_d3f9786673 wk_81aef38773 rfl) ?_
  refine zfmc (r_bipush h (pc := 15) (z := 32) (by decide +kernel) (32) (by decide +kernel)) ?_
  refine zfmc (r_icmp_eq h (pc := 17) (off := 13) (by decide +kernel) 30 (by decide +kernel)) ?_
  refine zfmc (r_aload_n h (pc := 20) (kf := 0) 0 (by decide +kernel) rfl) ?_
  refine zfmc (r_iload_n h (pc := 21) (kf := 2) 2 (by decide +kernel) rfl) ?_
  refine zfmc (r_callV h (pc := 22) (ix := 79) (by decide +kernel) ckX9 1 mcX9_at wk_0811a024de wk_d3f9786673 wk_81aef38773 rfl) ?_
  refine zfmc (r_bipush h (pc := 25) (z := 10) (by decide +kernel) (10) (by decide +kernel)) ?_
  refine zfmc (r_icmp_ne h (pc := 27) (off := 9) (by decide +kernel) 36 (by decide +kernel)) ?_
  refine zfmc (r_iinc h (pc := 30) 2 (z := 1) (by decide +kernel) (1) (by decide +kernel) (by decide +kernel)) ?_
  refine zfmc (r_goto h (pc := 33) (off := -31) (by decide +kernel) 2 (by decide +kernel)) ?_
  refine zfmc (r_iload_n h (pc := 36) (kf := 2) 2 (by decide +kernel) rfl) ?_
  refine zfmc (r_ireturn h (pc := 37) (by decide +kernel) rfl) ?_
  exact zfm0)
def tb_X10_readToken (E : ZEX) (d mc ms : Nat) : List (Nat × ZStep) := [(0, s_aload 0 1), (1, s_const (.long 0) 2), (2, s_putf 9 5 2 5), (5, s_iload 2 6), (6, s_aload 1 7), (7, s_callV E d mc ms 8 MX9_length 0 10), (10, s_icmp_lt 22 13), (13, s_aload 0 14), (14, s_const (.ref (zeK E 1)) 17), (17, s_putf 9 4 3 20), (20, s_iload 2 21), (21, s_ireturn), (22, s_aload 1 23), (23, s_iload 2 24), (24, s_callV E d mc ms 8 MX9_at 1 27), (27, s_callS E d mc ms MX10_isLetter 1 30), (30, s_if_eq 40 33), (33, s_aload 0 34), (34, s_aload 1 35), (35, s_iload 2 36), (36, s_callV E d mc ms 9 MX10_readWord 2 39), (39, s_ireturn), (40, s_aload 1 41), (41, s_iload 2 42), (42, s_callV E d mc ms 8 MX9_at 1 45), (45, s_callS E d mc ms MX10_isDigit 1 48), (48, s_if_eq 58 51), (51, s_aload 0 52), (52, s_aload 1 53), (53, s_iload 2 54), (54, s_callV E d mc ms 9 MX10_readNumber 2 57), (57, s_ireturn), (58, s_aload 0 59), (59, s_aload 1 60), (60, s_iload 2 61), (61, s_callV E d mc ms 9 MX10_readSymbol 2 64), (64, s_ireturn)]
set_option maxRecDepth 20000 in
theorem ok_X10_readToken {E : ZEX} {X : ZMX} {d mc ms : Nat} {P : ZPT} {T : ZTT} (h : ZCX E X MX10_readToken d mc ms P T) : ∀ pc, ZRow E X MX10_readToken mc ms P T pc (ztb (tb_X10_readToken E d mc ms) pc) := ztb_ok (by
  unfold tb_X10_readToken
  refine zfmc (r_aload_n h (pc := 0) (kf := 0) 0 (by decide +kernel) rfl) ?_
  refine zfmc (r_lconst h (pc := 1) (z := 0) (by decide +kernel) 0 (by decide +kernel)) ?_
  refine zfmc (r_putf h (pc := 2) (ix := 41) (by decide +kernel) ckX10 5 (by decide) 2 (fty := tyX10 5) (tyX10_ok 5 (by decide)) rfl rfl wk_25f8b5d7ae) ?_
  refine zfmc (r_iload_n h (pc := 5) (kf := 2) 2 (by decide +kernel) rfl) ?_
  refine zfmc (r_aload_n h (pc := 6) (kf := 1) 1 (by decide +kernel) rfl) ?_
  refine zfmc (r_callV h (pc := 7) (ix := 73) (by decide +kernel) ckX9 0 mcX9_length wk_4501614704 wk_a696399dbe wk_a63e454dd6 rfl) ?_
  refine zfmc (r_icmp_lt h (pc := 10) (off := 12) (by decide +kernel) 22 (by decide +kernel)) ?_
  refine zfmc (r_aload_n h (pc := 13) (kf := 0) 0 (by decide +kernel) rfl) ?_
  refine zfmc (r_getstatic h (pc := 14) (ix := 34) (by decide +kernel) (.ref (zeK E 1)) (zx_sg h.ok 1 (by decide)) wk_8ebbcd3bef) ?_
  refine zfmc (r_putf h (pc := 17) (ix := 38) (by decide +kernel) ckX10 4 (by decide) 3 (fty := tyX10 4) (tyX10_ok 4 (by decide)) rfl rfl wk_0036d487e3) ?_
  refine zfmc (r_iload_n h (pc := 20) (kf := 2) 2 (by decide +kernel) rfl) ?_
  refine zfmc (r_ireturn h (pc := 21) (by decide +kernel) rfl) ?_
  refine zfmc (r_aload_n h (pc := 22) (kf := 1) 1 (by decide +kernel) rfl) ?_
  refine zfmc (r_iload_n h (pc := 23) (kf := 2) 2 (by decide +kernel) rfl) ?_
  refine zfmc (r_callV h (pc := 24) (ix := 79) (by decide +kernel) ckX9 1 mcX9_at wk_0811a024de wk_d3f9786673 wk_81aef38773 rfl) ?_
  refine zfmc (r_callS h (pc := 27) (ix := 82) (by decide +kernel) 1 mcX10_isLetter wk_2ccc84015b wk_a3f22905d6) ?_
  refine zfmc (r_if_eq h (pc := 30) (off := 10) (by decide +kernel) 40 (by decide +kernel)) ?_
  refine zfmc (r_aload_n h (pc := 33) (kf := 0) 0 (by decide +kernel) rfl) ?_
  refine zfmc (r_aload_n h (pc := 34) (kf := 1) 1 (by decide +kernel) rfl) ?_
  refine zfmc (r_iload_n h (pc := 35) (kf := 2) 2 (by decide +kernel) rfl) ?_
  refine zfmc (r_callV h (pc := 36) (ix := 86) (by decide +kernel) ckX10 2 mcX10_readWord wk_1d0699ebbe wk_2e2e44761e wk_3227e89323 rfl) ?_
  refine zfmc (r_ireturn h (pc := 39) (by decide +kernel) rfl) ?_
  refine zfmc (r_aload_n h (pc := 40) (kf := 1) 1 (by decide +kernel) rfl) ?_
  refine zfmc (r_iload_n h (pc := 41) (kf := 2) 2 (by decide +kernel) rfl) ?_
  refine zfmc (r_callV h (pc := 42) (ix := 79) (by decide +kernel) ckX9 1 mcX9_at wk_0811a024de wk_d3f9786673 wk_81aef38773 rfl) ?_
  refine zfmc (r_callS h (pc := 45) (ix := 89) (by decide +kernel) 1 mcX10_isDigit wk_a222d56a78 wk_66c894c7ad) ?_
  refine zfmc (r_if_eq h (pc := 48) (off := 10) (by decide +kernel) 58 (by decide +kernel)) ?_
  refine zfmc (r_aload_n h (pc := 51) (kf := 0) 0 (by decide +kernel) rfl) ?_
  refine zfmc (r_aload_n h (pc := 52) (kf := 1) 1 (by decide +kernel) rfl) ?_
  refine zfmc (r_iload_n h (pc := 53) (kf := 2) 2 (by decide +kernel) rfl) ?_
  refine zfmc (r_callV h (pc := 54) (ix := 92) (by decide +kernel) ckX10 2 mcX10_readNumber wk_11e0ff138e wk_e0839f5f05 wk_85ac4c78b3 rfl) ?_
  refine zfmc (r_ireturn h (pc := 57) (by decide +kernel) rfl) ?_
  refine zfmc (r_aload_n h (pc := 58) (kf := 0) 0 (by decide +kernel) rfl) ?_
  refine zfmc (r_aload_n h (pc := 59) (kf := 1) 1 (by decide +kernel) rfl) ?_
  refine zfmc (r_iload_n h (pc := 60) (kf := 2) 2 (by decide +kernel) rfl) ?_
  refine zfmc (r_callV h (pc := 61) (ix := 95) (by decide +kernel) ckX10 2 mcX10_readSymbol wk_c01c1ec717 wk_8a4dc1508b wk_b4251a6add rfl) ?_
  refine zfmc (r_ireturn h (pc := 64) (by decide +kernel) rfl) ?_
  exact zfm0)
def tb_X10_readWord (E : ZEX) (d mc ms : Nat) : List (Nat × ZStep) := [(0, s_iload 2 1), (1, s_istore 3 2), (2, s_iload 3 3), (3, s_aload 1 4), (4, s_callV E d mc ms 8 MX9_length 0 7), (7, s_icmp_ge 85 10), (10, s_aload 1 11), (11, s_iload 3 12), (12, s_callV E d mc ms 8 MX9_at 1 15), (15, s_callS E d mc ms MX10_isLetter 1 18), (18, s_if_ne 32 21), (21, s_aload 1 22), (22, s_iload 3 23), (23, s_callV E d mc ms 8 MX9_at 1 26), (26, s_callS E d mc ms MX10_isDigit 1 29), (29, s_if_eq 85 32), (32, s_aload 1 33), (33, s_iload 3 34), (34, s_callV E d mc ms 8 MX9_at 1 37), (37, s_istore 4 39), (39, s_aload 0 40), (40, s_aload 0 41), (41, s_getf 9 5 44), (44, s_const (.long (37)) 47), (47, s_lmul 48), (48, s_iload 4 50), (50, s_callS E d mc ms MX10_isDigit 1 53), (53, s_if_eq 66 56), (56, s_iload 4 58), (58, s_const (.int (48)) 60), (60, s_isub 61), (61, s_const (.int (1)) 62), (62, s_iadd 63), (63, s_goto 74), (66, s_iload 4 68), (68, s_const (.int (97)) 70), (70, s_isub 71), (71, s_const (.int (11)) 73), (73, s_iadd 74), (74, s_i2l 75), (75, s_ladd 76), (76, s_putf 9 5 2 79), (79, s_iinc 3 (1) 82), (82, s_goto 2), (85, s_iload 3 86), (86, s_iload 2 87), (87, s_isub 88), (88, s_istore 4 90), (90, s_aload 0 91), (91, s_const (.ref (zeK E 0)) 94), (94, s_putf 9 4 3 97), (97, s_iload 4 99), (99, s_const (.int (10)) 101), (101, s_icmp_gt 133 104), (104, s_aload 1 105), (105, s_iload 2 106), (106, s_iload 4 108), (108, s_callS E d mc ms MX8_spelled 3 111), (111, s_astore 5 113), (113, s_aload 0 114), (114, s_aload 5 116), (116, s_const (.ref (zeK E 0)) 119), (119, s_acmp_ne 128 122), (122, s_const (.ref (zeK E 2)) 125), (125, s_goto 130), (128, s_aload 5 130), (130, s_putf 9 4 3 133), (133, s_iload 3 134), (134, s_ireturn)]
set_option maxRecDepth 20000 in
theorem ok_X10_readWord {E : ZEX} {X : ZMX} {d mc ms : Nat} {P : ZPT} {T : ZTT} (h : ZCX E X MX10_readWord d mc ms P T) : ∀ pc, ZRow E X MX10_readWord mc ms P T pc (ztb (tb_X10_readWord E d mc ms) pc) := ztb_ok (by
  unfold tb_X10_readWord
  refine zfmc (r_iload_n h (pc := 0) (kf := 2) 2 (by decide +kernel) rfl) ?_
  refine zfmc (r_istore_n h (pc := 1) (kf := 3) 3 (by decide +kernel) rfl (by decide +kernel)) ?_
  refine zfmc (r_iload_n h (pc := 2) (kf := 3) 3 (by decide +kernel) rfl) ?_
  refine zfmc (r_aload_n h (pc := 3) (kf := 1) 1 (by decide +kernel) rfl) ?_
  refine zfmc (r_callV h (pc := 4) (ix := 73) (by decide +kernel) ckX9 0 mcX9_length wk_4501614704 wk_a696399dbe wk_a63e454dd6 rfl) ?_
  refine zfmc (r_icmp_ge h (pc := 7) (off := 78) (by decide +kernel) 85 (by decide +kernel)) ?_
  refine zfmc (r_aload_n h (pc := 10) (kf := 1) 1 (by decide +kernel) rfl) ?_
  refine zfmc (r_iload_n h (pc := 11) (kf := 3) 3 (by decide +kernel) rfl) ?_
  refine zfmc (r_callV h (pc := 12) (ix := 79) (by decide +kernel) ckX9 1 mcX9_at wk_0811a024de wk_d3f9786673 wk_81aef38773 rfl) ?_
  refine zfmc (r_callS h (pc := 15) (ix := 82) (by decide +kernel) 1 mcX10_isLetter wk_2ccc84015b wk_a3f22905d6) ?_
  refine zfmc (r_if_ne h (pc := 18) (off := 14) (by decide +kernel) 32 (by decide +kernel)) ?_
  refine zfmc (r_aload_n h (pc := 21) (kf := 1) 1 (by decide +kernel) rfl) ?_
  refine zfmc (r_iload_n h (pc := 22) (kf := 3) 3 (by decide +kernel) rfl) ?_
  refine zfmc (r_callV h (pc := 23) (ix := 79) (by decide +kernel) ckX9 1 mcX9_at wk_0811a024de wk_d3f9786673 wk_81aef38773 rfl) ?_
  refine zfmc (r_callS h (pc := 26) (ix := 89) (by decide +kernel) 1 mcX10_isDigit wk_a222d56a78 wk_66c894c7ad) ?_
  refine zfmc (r_if_eq h (pc := 29) (off := 56) (by decide +kernel) 85 (by decide +kernel)) ?_
  refine zfmc (r_aload_n h (pc := 32) (kf := 1) 1 (by decide +kernel) rfl) ?_
  refine zfmc (r_iload_n h (pc := 33) (kf := 3) 3 (by decide +kernel) rfl) ?_
  refine zfmc (r_callV h (pc := 34) (ix := 79) (by decide +kernel) ckX9 1 mcX9_at wk_0811a024de wk_d3f9786673 wk_81aef38773 rfl) ?_
  refine zfmc (r_istore h (pc := 37) 4 (by decide +kernel) (by decide +kernel)) ?_
  refine zfmc (r_aload_n h (pc := 39) (kf := 0) 0 (by decide +kernel) rfl) ?_
  refine zfmc (r_aload_n h (pc := 40) (kf := 0) 0 (by decide +kernel) rfl) ?_
  refine zfmc (r_getf h (pc := 41) (ix := 41) (by decide +kernel) ckX10 5 (by decide) wk_25f8b5d7ae) ?_
  refine zfmc (r_ldc2L h (pc := 44) (ix := 98) (by decide +kernel) (37) wk_8cd2987e7a) ?_
  refine zfmc (r_lmul h (pc := 47) (by decide +kernel)) ?_
  refine zfmc (r_iload h (pc := 48) 4 (by decide +kernel)) ?_
  refine zfmc (r_callS h (pc := 50) (ix := 89) (by decide +kernel) 1 mcX10_isDigit wk_a222d56a78 wk_66c894c7ad) ?_
  refine zfmc (r_if_eq h (pc := 53) (off := 13) (by decide +kernel) 66 (by decide +kernel)) ?_
  refine zfmc (r_iload h (pc := 56) 4 (by decide +kernel)) ?_
  refine zfmc (r_bipush h (pc := 58) (z := 48) (by decide +kernel) (48) (by decide +kernel)) ?_
  refine zfmc (r_isub h (pc := 60) (by decide +kernel)) ?_
  refine zfmc (r_iconst h (pc := 61) (z := 1) (by decide +kernel) (1) (by decide +kernel)) ?_
  refine zfmc (r_iadd h (pc := 62) (by decide +kernel)) ?_
  refine zfmc (r_goto h (pc := 63) (off := 11) (by decide +kernel) 74 (by decide +kernel)) ?_
  refine zfmc (r_iload h (pc := 66) 4 (by decide +kernel)) ?_
  refine zfmc (r_bipush h (pc := 68) (z := 97) (by decide +kernel) (97) (by decide +kernel)) ?_
  refine zfmc (r_isub h (pc := 70) (by decide +kernel)) ?_
  refine zfmc (r_bipush h (pc := 71) (z := 11) (by decide +kernel) (11) (by decide +kernel)) ?_
  refine zfmc (r_iadd h (pc := 73) (by decide +kernel)) ?_
  refine zfmc (r_i2l h (pc := 74) (by decide +kernel)) ?_
  refine zfmc (r_ladd h (pc := 75) (by decide +kernel)) ?_
  refine zfmc (r_putf h (pc := 76) (ix := 41) (by decide +kernel) ckX10 5 (by decide) 2 (fty := tyX10 5) (tyX10_ok 5 (by decide)) rfl rfl wk_25f8b5d7ae) ?_
  refine zfmc (r_iinc h (pc := 79) 3 (z := 1) (by decide +kernel) (1) (by decide +kernel) (by decide +kernel)) ?_
  refine zfmc (r_goto h (pc := 82) (off := -80) (by decide +kernel) 2 (by decide +kernel)) ?_
  refine zfmc (r_iload_n h (pc := 85) (kf := 3) 3 (by decide +kernel) rfl) ?_
  refine zfmc (r_iload_n h (pc := 86) (kf := 2) 2 (by decide +kernel) rfl) ?_
  refine zfmc (r_isub h (pc := 87) (by decide +kernel)) ?_
  refine zfmc (r_istore h (pc := 88) 4 (by decide +kernel) (by decide +kernel)) ?_
  refine zfmc (r_aload_n h (pc := 90) (kf := 0) 0 (by decide +kernel) rfl) ?_
  refine zfmc (r_getstatic h (pc := 91) (ix := 52) (by decide +kernel) (.ref (zeK E 0)) (zx_sg h.ok 0 (by decide)) wk_d2fdde9d40) ?_
  refine zfmc (r_putf h (pc := 94) (ix := 38) (by decide +kernel) ckX10 4 (by decide) 3 (fty := tyX10 4) (tyX10_ok 4 (by decide)) rfl rfl wk_0036d487e3) ?_
  refine zfmc (r_iload h (pc := 97) 4 (by decide +kernel)) ?_
  refine zfmc (r_bipush h (pc := 99) (z := 10) (by decide +kernel) (10) (by decide +kernel)) ?_
  refine zfmc (r_icmp_gt h (pc := 101) (off := 32) (by decide +kernel) 133 (by decide +kernel)) ?_
  refine zfmc (r_aload_n h (pc := 104) (kf := 1) 1 (by decide +kernel) rfl) ?_
  refine zfmc (r_iload_n h (pc := 105) (kf := 2) 2 (by decide +kernel) rfl) ?_
  refine zfmc (r_iload h (pc := 106) 4 (by decide +kernel)) ?_
  refine zfmc (r_callS h (pc := 108) (ix := 100) (by decide +kernel) 3 mcX8_spelled wk_c484858f44 wk_45f763cdd7) ?_
  refine zfmc (r_astore h (pc := 111) 5 (by decide +kernel) (by decide +kernel)) ?_
  refine zfmc (r_aload_n h (pc := 113) (kf := 0) 0 (by decide +kernel) rfl) ?_
  refine zfmc (r_aload h (pc := 114) 5 (by decide +kernel)) ?_
  refine zfmc (r_getstatic h (pc := 116) (ix := 52) (by decide +kernel) (.ref (zeK E 0)) (zx_sg h.ok 0 (by decide)) wk_d2fdde9d40) ?_
  refine zfmc (r_acmp_ne h (pc := 119) (off := 9) (by decide +kernel) 128 (by decide +kernel)) ?_
  refine zfmc (r_getstatic h (pc := 122) (ix := 104) (by decide +kernel) (.ref (zeK E 2)) (zx_sg h.ok 2 (by decide)) wk_5db5ec28de) ?_
  refine zfmc (r_goto h (pc := 125) (off := 5) (by decide +kernel) 130 (by decide +kernel)) ?_
  refine zfmc (r_aload h (pc := 128) 5 (by decide +kernel)) ?_
  refine zfmc (r_putf h (pc := 130) (ix := 38) (by decide +kernel) ckX10 4 (by decide) 3 (fty := tyX10 4) (tyX10_ok 4 (by decide)) rfl rfl wk_0036d487e3) ?_
  refine zfmc (r_iload_n h (pc := 133) (kf := 3) 3 (by decide +kernel) rfl) ?_
  refine zfmc (r_ireturn h (pc := 134) (by decide +kernel) rfl) ?_
  exact zfm0)
def tb_X10_readNumber (E : ZEX) (d mc ms : Nat) : List (Nat × ZStep) := [(0, s_iload 2 1), (1, s_istore 3 2), (2, s_iload 3 3), (3, s_aload 1 4), (4, s_callV E d mc ms 8 MX9_length 0 7), (7, s_icmp_ge 49 10), (10, s_aload 1 11), (11, s_iload 3 12), (12, s_callV E d mc ms 8 MX9_at 1 15), (15, s_callS E d mc ms MX10_isDigit 1 18), (18, s_if_eq 49 21), (21, s_aload 0 22), (22, s_aload 0 23), (23, s_getf 9 5 26), (26, s_const (.long (10)) 29), (29, s_lmul 30), (30, s_aload 1 31), (31, s_iload 3 32), (32, s_callV E d mc ms 8 MX9_at 1 35), (35, s_const (.int (48)) 37), (37, s_isub 38), (38, s_i2l 39), (39, s_ladd 40), (40, s_putf 9 5 2 43), (43, s_iinc 3 (1) 46), (46, s_goto 2), (49, s_aload 0 50), (50, s_iload 3 51), (51, s_iload 2 52), (52, s_isub 53), (53, s_const (.int (6)) 55), (55, s_icmp_gt 64 58), (58, s_const (.ref (zeK E 3)) 61), (61, s_goto 67), (64, s_const (.ref (zeK E 0)) 67), (67, s_putf 9 4 3 70), (70, s_iload 3 71), (71, s_ireturn)]
set_option maxRecDepth 20000 in
theorem ok_X10_readNumber {E : ZEX} {X : ZMX} {d mc ms : Nat} {P : ZPT} {T : ZTT} (h : ZCX E X MX10_readNumber d mc ms P T) : ∀ pc, ZRow E X MX10_readNumber mc ms P T pc (ztb (tb_X10_readNumber E d mc ms) pc) := ztb_ok (by
  unfold tb_X10_readNumber
  refine zfmc (r_iload_n h (pc := 0) (kf := 2) 2 (by decide +kernel) rfl) ?_
  refine zfmc (r_istore_n h (pc := 1) (kf := 3) 3 (by decide +kernel) rfl (by decide +kernel)) ?_
  refine zfmc (r_iload_n h (pc := 2) (kf := 3) 3 (by decide +kernel) rfl) ?_
  refine zfmc (r_aload_n h (pc := 3) (kf := 1) 1 (by decide +kernel) rfl) ?_
  refine zfmc (r_callV h (pc := 4) (ix := 73) (by decide +kernel) ckX9 0 mcX9_length wk_4501614704 wk_a696399dbe wk_a63e454dd6 rfl) ?_
  refine zfmc (r_icmp_ge h (pc := 7) (off := 42) (by decide +kernel) 49 (by decide +kernel)) ?_
  refine zfmc (r_aload_n h (pc := 10) (kf := 1) 1 (by decide +kernel) rfl) ?_
  refine zfmc (r_iload_n h (pc := 11) (kf := 3) 3 (by decide +kernel) rfl) ?_
  refine zfmc (r_callV h (pc := 12) (ix := 79) (by decide +kernel) ckX9 1 mcX9_at wk_0811a024de wk_d3f9786673 wk_81aef38773 rfl) ?_
  refine zfmc (r_callS h (pc := 15) (ix := 89) (by decide +kernel) 1 mcX10_isDigit wk_a222d56a78 wk_66c894c7ad) ?_
  refine zfmc (r_if_eq h (pc := 18) (off := 31) (by decide +kernel) 49 (by decide +kernel)) ?_
  refine zfmc (r_aload_n h (pc := 21) (kf := 0) 0 (by decide +kernel) rfl) ?_
  refine zfmc (r_aload_n h (pc := 22) (kf := 0) 0 (by decide +kernel) rfl) ?_
  refine zfmc (r_getf h (pc := 23) (ix := 41) (by decide +kernel) ckX10 5 (by decide) wk_25f8b5d7ae) ?_
  refine zfmc (r_ldc2L h (pc := 26) (ix := 107) (by decide +kernel) (10) wk_6851d4e605) ?_
  refine zfmc (r_lmul h (pc := 29) (by decide +kernel)) ?_
  refine zfmc (r_aload_n h (pc := 30) (kf := 1) 1 (by decide +kernel) rfl) ?_
  refine zfmc (r_iload_n h (pc := 31) (kf := 3) 3 (by decide +kernel) rfl) ?_
  refine zfmc (r_callV h (pc := 32) (ix := 79) (by decide +kernel) ckX9 1 mcX9_at wk_0811a024de wk_d3f9786673 wk_81aef38773 rfl) ?_
  refine zfmc (r_bipush h (pc := 35) (z := 48) (by decide +kernel) (48) (by decide +kernel)) ?_
  refine zfmc (r_isub h (pc := 37) (by decide +kernel)) ?_
  refine zfmc (r_i2l h (pc := 38) (by decide +kernel)) ?_
  refine zfmc (r_ladd h (pc := 39) (by decide +kernel)) ?_
  refine zfmc (r_putf h (pc := 40) (ix := 41) (by decide +kernel) ckX10 5 (by decide) 2 (fty := tyX10 5) (tyX10_ok 5 (by decide)) rfl rfl wk_25f8b5d7ae) ?_
  refine zfmc (r_iinc h (pc := 43) 3 (z := 1) (by decide +kernel) (1) (by decide +kernel) (by decide +kernel)) ?_
  refine zfmc (r_goto h (pc := 46) (off := -44) (by decide +kernel) 2 (by decide +kernel)) ?_
  refine zfmc (r_aload_n h (pc := 49) (kf := 0) 0 (by decide +kernel) rfl) ?_
  refine zfmc (r_iload_n h (pc := 50) (kf := 3) 3 (by decide +kernel) rfl) ?_
  refine zfmc (r_iload_n h (pc := 51) (kf := 2) 2 (by decide +kernel) rfl) ?_
  refine zfmc (r_isub h (pc := 52) (by decide +kernel)) ?_
  refine zfmc (r_bipush h (pc := 53) (z := 6) (by decide +kernel) (6) (by decide +kernel)) ?_
  refine zfmc (r_icmp_gt h (pc := 55) (off := 9) (by decide +kernel) 64 (by decide +kernel)) ?_
  refine zfmc (r_getstatic h (pc := 58) (ix := 109) (by decide +kernel) (.ref (zeK E 3)) (zx_sg h.ok 3 (by decide)) wk_3cd78b1b06) ?_
  refine zfmc (r_goto h (pc := 61) (off := 6) (by decide +kernel) 67 (by decide +kernel)) ?_
  refine zfmc (r_getstatic h (pc := 64) (ix := 52) (by decide +kernel) (.ref (zeK E 0)) (zx_sg h.ok 0 (by decide)) wk_d2fdde9d40) ?_
  refine zfmc (r_putf h (pc := 67) (ix := 38) (by decide +kernel) ckX10 4 (by decide) 3 (fty := tyX10 4) (tyX10_ok 4 (by decide)) rfl rfl wk_0036d487e3) ?_
  refine zfmc (r_iload_n h (pc := 70) (kf := 3) 3 (by decide +kernel) rfl) ?_
  refine zfmc (r_ireturn h (pc := 71) (by decide +kernel) rfl) ?_
  exact zfm0)
def tb_X10_readSymbol (E : ZEX) (d mc ms : Nat) : List (Nat × ZStep) := [(0, s_aload 0 1), (1, s_aload 1 2), (2, s_iload 2 3), (3, s_const (.int (2)) 4), (4, s_callS E d mc ms MX8_spelled 3 7), (7, s_putf 9 4 3 10), (10, s_aload 0 11), (11, s_getf 9 4 14), (14, s_const (.ref (zeK E 0)) 17), (17, s_acmp_eq 24 20), (20, s_iload 2 21), (21, s_const (.int (2)) 22), (22, s_iadd 23), (23, s_ireturn), (24, s_aload 0 25), (25, s_aload 1 26), (26, s_iload 2 27), (27, s_const (.int (1)) 28), (28, s_callS E d mc ms MX8_spelled 3 31), (31, s_putf 9 4 3 34), (34, s_iload 2 35), (35, s_const (.int (1)) 36), (36, s_iadd 37), (37, s_ireturn)]
set_option maxRecDepth 20000 in
theorem ok_X10_readSymbol {E : ZEX} {X : ZMX} {d mc ms : Nat} {P : ZPT} {T : ZTT} (h : ZCX E X MX10_readSymbol d mc ms P T) : ∀ pc, ZRow E X MX10_readSymbol mc ms P T pc (ztb (tb_X10_readSymbol E d mc ms) pc) := ztb_ok (by
  unfold tb_X10_readSymbol
  refine zfmc (r_aload_n h (pc := 0) (kf := 0) 0 (by decide +kernel) rfl) ?_
  refine zfmc (r_aload_n h (pc := 1) (kf := 1) 1 (by decide +kernel) rfl) ?_
  refine zfmc (r_iload_n h (pc := 2) (kf := 2) 2 (by decide +kernel) rfl) ?_
  refine zfmc (r_iconst h (pc := 3) (z := 2) (by decide +kernel) (2) (by decide +kernel)) ?_
  refine zfmc (r_callS h (pc := 4) (ix := 100) (by decide +kernel) 3 mcX8_spelled wk_c484858f44 wk_45f763cdd7) ?_
  refine zfmc (r_putf h (pc := 7) (ix := 38) (by decide +kernel) ckX10 4 (by decide) 3 (fty := tyX10 4) (tyX10_ok 4 (by decide)) rfl rfl wk_0036d487e3) ?_
  refine zfmc (r_aload_n h (pc := 10) (kf := 0) 0 (by decide +kernel) rfl) ?_
  refine zfmc (r_getf h (pc := 11) (ix := 38) (by decide +kernel) ckX10 4 (by decide) wk_0036d487e3) ?_
  refine zfmc (r_getstatic h (pc := 14) (ix := 52) (by decide +kernel) (.ref (zeK E 0)) (zx_sg h.ok 0 (by decide)) wk_d2fdde9d40) ?_
  refine zfmc (r_acmp_eq h (pc := 17) (off := 7) (by decide +kernel) 24 (by decide +kernel)) ?_
  refine zfmc (r_iload_n h (pc := 20) (kf := 2) 2 (by decide +kernel) rfl) ?_
  refine zfmc (r_iconst h (pc := 21) (z := 2) (by decide +kernel) (2) (by decide +kernel)) ?_
  refine zfmc (r_iadd h (pc := 22) (by decide +kernel)) ?_
  refine zfmc (r_ireturn h (pc := 23) (by decide +kernel) rfl) ?_
  refine zfmc (r_aload_n h (pc := 24) (kf := 0) 0 (by decide +kernel) rfl) ?_
  refine zfmc (r_aload_n h (pc := 25) (kf := 1) 1 (by decide +kernel) rfl) ?_
  refine zfmc (r_iload_n h (pc := 26) (kf := 2) 2 (by decide +kernel) rfl) ?_
  refine zfmc (r_iconst h (pc := 27) (z := 1) (by decide +kernel) (1) (by decide +kernel)) ?_
  refine zfmc (r_callS h (pc := 28) (ix := 100) (by decide +kernel) 3 mcX8_spelled wk_c484858f44 wk_45f763cdd7) ?_
  refine zfmc (r_putf h (pc := 31) (ix := 38) (by decide +kernel) ckX10 4 (by decide) 3 (fty := tyX10 4) (tyX10_ok 4 (by decide)) rfl rfl wk_0036d487e3) ?_
  refine zfmc (r_iload_n h (pc := 34) (kf := 2) 2 (by decide +kernel) rfl) ?_
  refine zfmc (r_iconst h (pc := 35) (z := 1) (by decide +kernel) (1) (by decide +kernel)) ?_
  refine zfmc (r_iadd h (pc := 36) (by decide +kernel)) ?_
  refine zfmc (r_ireturn h (pc := 37) (by decide +kernel) rfl) ?_
  exact zfm0)
def tb_X10_isLetter (E : ZEX) (d mc ms : Nat) : List (Nat × ZStep) := [(0, s_iload 0 1), (1, s_const (.int (97)) 3), (3, s_icmp_lt 16 6), (6, s_iload 0 7), (7, s_const (.int (122)) 9), (9, s_icmp_gt 16 12), (12, s_const (.int (1)) 13), (13, s_goto 17), (16, s_const (.int (0)) 17), (17, s_zreturn)]
set_option maxRecDepth 20000 in
theorem ok_X10_isLetter {E : ZEX} {X : ZMX} {d mc ms : Nat} {P : ZPT} {T : ZTT} (h : ZCX E X MX10_isLetter d mc ms P T) : ∀ pc, ZRow E X MX10_isLetter mc ms P T pc (ztb (tb_X10_isLetter E d mc ms) pc) := ztb_ok (by
  unfold tb_X10_isLetter
  refine zfmc (r_iload_n h (pc := 0) (kf := 0) 0 (by decide +kernel) rfl) ?_
  refine zfmc (r_bipush h (pc := 1) (z := 97) (by decide +kernel) (97) (by decide +kernel)) ?_
  refine zfmc (r_icmp_lt h (pc := 3) (off := 13) (by decide +kernel) 16 (by decide +kernel)) ?_
  refine zfmc (r_iload_n h (pc := 6) (kf := 0) 0 (by decide +kernel) rfl) ?_
  refine zfmc (r_bipush h (pc := 7) (z := 122) (by decide +kernel) (122) (by decide +kernel)) ?_
  refine zfmc (r_icmp_gt h (pc := 9) (off := 7) (by decide +kernel) 16 (by decide +kernel)) ?_
  refine zfmc (r_iconst h (pc := 12) (z := 1) (by decide +kernel) (1) (by decide +kernel)) ?_
  refine zfmc (r_goto h (pc := 13) (off := 4) (by decide +kernel) 17 (by decide +kernel)) ?_
  refine zfmc (r_iconst h (pc := 16) (z := 0) (by decide +kernel) (0) (by decide +kernel)) ?_
  refine zfmc (r_zreturn h (pc := 17) (by decide +kernel) rfl) ?_
  exact zfm0)
def tb_X10_isDigit (E : ZEX) (d mc ms : Nat) : List (Nat × ZStep) := [(0, s_iload 0 1), (1, s_const (.int (48)) 3), (3, s_icmp_lt 16 6), (6, s_iload 0 7), (7, s_const (.int (57)) 9), (9, s_icmp_gt 16 12), (12, s_const (.int (1)) 13), (13, s_goto 17), (16, s_const (.int (0)) 17), (17, s_zreturn)]
set_option maxRecDepth 20000 in
theorem ok_X10_isDigit {E : ZEX} {X : ZMX} {d mc ms : Nat} {P : ZPT} {T : ZTT} (h : ZCX E X MX10_isDigit d mc ms P T) : ∀ pc, ZRow E X MX10_isDigit mc ms P T pc (ztb (tb_X10_isDigit E d mc ms) pc) := ztb_ok (by
  unfold tb_X10_isDigit
  refine zfmc (r_iload_n h (pc := 0) (kf := 0) 0 (by decide +kernel) rfl) ?_
  refine zfmc (r_bipush h (pc := 1) (z := 48) (by decide +kernel) (48) (by decide +kernel)) ?_
  refine zfmc (r_icmp_lt h (pc := 3) (off := 13) (by decide +kernel) 16 (by decide +kernel)) ?_
  refine zfmc (r_iload_n h (pc := 6) (kf := 0) 0 (by decide +kernel) rfl) ?_
  refine zfmc (r_bipush h (pc := 7) (z := 57) (by decide +kernel) (57) (by decide +kernel)) ?_
  refine zfmc (r_icmp_gt h (pc := 9) (off := 7) (by decide +kernel) 16 (by decide +kernel)) ?_
  refine zfmc (r_iconst h (pc := 12) (z := 1) (by decide +kernel) (1) (by decide +kernel)) ?_
  refine zfmc (r_goto h (pc := 13) (off := 4) (by decide +kernel) 17 (by decide +kernel)) ?_
  refine zfmc (r_iconst h (pc := 16) (z := 0) (by decide +kernel) (0) (by decide +kernel)) ?_
  refine zfmc (r_zreturn h (pc := 17) (by decide +kernel) rfl) ?_
  exact zfm0)
section
variable {E : ZEX} {d mc ms : Nat} {cut : Nat → Bool} {G : ZCont} {R : ZRtn} {T : ZTT} {Z : Nat → ZCont}
theorem f_X7_init_0 (hZ : ZRN (ztb (tb_X7_init E d mc ms)) cut G R T Z) (f : Nat) (L : ZLV) (st : List Value) (σ : ZHp) (n k w : Nat) : Z (f + 1) 0 L st σ n k w = s_aload 0 1 L st σ n k w (zk1 cut G (Z f)) G R T := zrs hZ rfl f L st σ n k w
theorem f_X7_init_1 (hZ : ZRN (ztb (tb_X7_init E d mc ms)) cut G R T Z) (f : Nat) (L : ZLV) (st : List Value) (σ : ZHp) (n k w : Nat) : Z (f + 1) 1 L st σ n k w = s_objinit d 4 L st σ n k w (zk1 cut G (Z f)) G R T := zrs hZ rfl f L st σ n k w
theorem f_X7_init_4 (hZ : ZRN (ztb (tb_X7_init E d mc ms)) cut G R T Z) (f : Nat) (L : ZLV) (st : List Value) (σ : ZHp) (n k w : Nat) : Z (f + 1) 4 L st σ n k w = s_aload 0 5 L st σ n k w (zk1 cut G (Z f)) G R T := zrs hZ rfl f L st σ n k w
theorem f_X7_init_5 (hZ : ZRN (ztb (tb_X7_init E d mc ms)) cut G R T Z) (f : Nat) (L : ZLV) (st : List Value) (σ : ZHp) (n k w : Nat) : Z (f + 1) 5 L st σ n k w = s_const (.int (10)) 7 L st σ n k w (zk1 cut G (Z f)) G R T := zrs hZ rfl f L st σ n k w
theorem f_X7_init_7 (hZ : ZRN (ztb (tb_X7_init E d mc ms)) cut G R T Z) (f : Nat) (L : ZLV) (st : List Value) (σ : ZHp) (n k w : Nat) : Z (f + 1) 7 L st σ n k w = s_newL E mc ms 9 L st σ n k w (zk1 cut G (Z f)) G R T := zrs hZ rfl f L st σ n k w
theorem f_X7_init_9 (hZ : ZRN (ztb (tb_X7_init E d mc ms)) cut G R T Z) (f : Nat) (L : ZLV) (st : List Value) (σ : ZHp) (n k w : Nat) : Z (f + 1) 9 L st σ n k w = s_putf 6 0 3 12 L st σ n k w (zk1 cut G (Z f)) G R T := zrs hZ rfl f L st σ n k w
theorem f_X7_init_12 (hZ : ZRN (ztb (tb_X7_init E d mc ms)) cut G R T Z) (f : Nat) (L : ZLV) (st : List Value) (σ : ZHp) (n k w : Nat) : Z (f + 1) 12 L st σ n k w = s_aload 0 13 L st σ n k w (zk1 cut G (Z f)) G R T := zrs hZ rfl f L st σ n k w
theorem f_X7_init_13 (hZ : ZRN (ztb (tb_X7_init E d mc ms)) cut G R T Z) (f : Nat) (L : ZLV) (st : List Value) (σ : ZHp) (n k w : Nat) : Z (f + 1) 13 L st σ n k w = s_const (.int (4)) 14 L st σ n k w (zk1 cut G (Z f)) G R T := zrs hZ rfl f L st σ n k w
theorem f_X7_init_14 (hZ : ZRN (ztb (tb_X7_init E d mc ms)) cut G R T Z) (f : Nat) (L : ZLV) (st : List Value) (σ : ZHp) (n k w : Nat) : Z (f + 1) 14 L st σ n k w = s_newL E mc ms 16 L st σ n k w (zk1 cut G (Z f)) G R T := zrs hZ rfl f L st σ n k w
theorem f_X7_init_16 (hZ : ZRN (ztb (tb_X7_init E d mc ms)) cut G R T Z) (f : Nat) (L : ZLV) (st : List Value) (σ : ZHp) (n k w : Nat) : Z (f + 1) 16 L st σ n k w = s_putf 6 1 3 19 L st σ n k w (zk1 cut G (Z f)) G R T := zrs hZ rfl f L st σ n k w
theorem f_X7_init_19 (hZ : ZRN (ztb (tb_X7_init E d mc ms)) cut G R T Z) (f : Nat) (L : ZLV) (st : List Value) (σ : ZHp) (n k w : Nat) : Z (f + 1) 19 L st σ n k w = s_aload 0 20 L st σ n k w (zk1 cut G (Z f)) G R T := zrs hZ rfl f L st σ n k w
theorem f_X7_init_20 (hZ : ZRN (ztb (tb_X7_init E d mc ms)) cut G R T Z) (f : Nat) (L : ZLV) (st : List Value) (σ : ZHp) (n k w : Nat) : Z (f + 1) 20 L st σ n k w = s_new 5 15 fsX6 mc ms 23 L st σ n k w (zk1 cut G (Z f)) G R T := zrs hZ rfl f L st σ n k w
theorem f_X7_init_23 (hZ : ZRN (ztb (tb_X7_init E d mc ms)) cut G R T Z) (f : Nat) (L : ZLV) (st : List Value) (σ : ZHp) (n k w : Nat) : Z (f + 1) 23 L st σ n k w = s_dup 24 L st σ n k w (zk1 cut G (Z f)) G R T := zrs hZ rfl f L st σ n k w
theorem f_X7_init_24 (hZ : ZRN (ztb (tb_X7_init E d mc ms)) cut G R T Z) (f : Nat) (L : ZLV) (st : List Value) (σ : ZHp) (n k w : Nat) : Z (f + 1) 24 L st σ n k w = s_callI E d mc ms MX6_init 0 27 L st σ n k w (zk1 cut G (Z f)) G R T := zrs hZ rfl f L st σ n k w
theorem f_X7_init_27 (hZ : ZRN (ztb (tb_X7_init E d mc ms)) cut G R T Z) (f : Nat) (L : ZLV) (st : List Value) (σ : ZHp) (n k w : Nat) : Z (f + 1) 27 L st σ n k w = s_putf 6 2 3 30 L st σ n k w (zk1 cut G (Z f)) G R T := zrs hZ rfl f L st σ n k w
theorem f_X7_init_30 (hZ : ZRN (ztb (tb_X7_init E d mc ms)) cut G R T Z) (f : Nat) (L : ZLV) (st : List Value) (σ : ZHp) (n k w : Nat) : Z (f + 1) 30 L st σ n k w = s_aload 0 31 L st σ n k w (zk1 cut G (Z f)) G R T := zrs hZ rfl f L st σ n k w
theorem f_X7_init_31 (hZ : ZRN (ztb (tb_X7_init E d mc ms)) cut G R T Z) (f : Nat) (L : ZLV) (st : List Value) (σ : ZHp) (n k w : Nat) : Z (f + 1) 31 L st σ n k w = s_const (.int (0)) 32 L st σ n k w (zk1 cut G (Z f)) G R T := zrs hZ rfl f L st σ n k w
theorem f_X7_init_32 (hZ : ZRN (ztb (tb_X7_init E d mc ms)) cut G R T Z) (f : Nat) (L : ZLV) (st : List Value) (σ : ZHp) (n k w : Nat) : Z (f + 1) 32 L st σ n k w = s_putf 6 3 0 35 L st σ n k w (zk1 cut G (Z f)) G R T := zrs hZ rfl f L st σ n k w
theorem f_X7_init_35 (hZ : ZRN (ztb (tb_X7_init E d mc ms)) cut G R T Z) (f : Nat) (L : ZLV) (st : List Value) (σ : ZHp) (n k w : Nat) : Z (f + 1) 35 L st σ n k w = s_aload 0 36 L st σ n k w (zk1 cut G (Z f)) G R T := zrs hZ rfl f L st σ n k w
theorem f_X7_init_36 (hZ : ZRN (ztb (tb_X7_init E d mc ms)) cut G R T Z) (f : Nat) (L : ZLV) (st : List Value) (σ : ZHp) (n k w : Nat) : Z (f + 1) 36 L st σ n k w = s_const (.int (-1)) 37 L st σ n k w (zk1 cut G (Z f)) G R T := zrs hZ rfl f L st σ n k w
theorem f_X7_init_37 (hZ : ZRN (ztb (tb_X7_init E d mc ms)) cut G R T Z) (f : Nat) (L : ZLV) (st : List Value) (σ : ZHp) (n k w : Nat) : Z (f + 1) 37 L st σ n k w = s_putf 6 4 0 40 L st σ n k w (zk1 cut G (Z f)) G R T := zrs hZ rfl f L st σ n k w
theorem f_X7_init_40 (hZ : ZRN (ztb (tb_X7_init E d mc ms)) cut G R T Z) (f : Nat) (L : ZLV) (st : List Value) (σ : ZHp) (n k w : Nat) : Z (f + 1) 40 L st σ n k w = s_aload 0 41 L st σ n k w (zk1 cut G (Z f)) G R T := zrs hZ rfl f L st σ n k w
theorem f_X7_init_41 (hZ : ZRN (ztb (tb_X7_init E d mc ms)) cut G R T Z) (f : Nat) (L : ZLV) (st : List Value) (σ : ZHp) (n k w : Nat) : Z (f + 1) 41 L st σ n k w = s_const (.int (0)) 42 L st σ n k w (zk1 cut G (Z f)) G R T := zrs hZ rfl f L st σ n k w
theorem f_X7_init_42 (hZ : ZRN (ztb (tb_X7_init E d mc ms)) cut G R T Z) (f : Nat) (L : ZLV) (st : List Value) (σ : ZHp) (n k w : Nat) : Z (f + 1) 42 L st σ n k w = s_putf 6 5 0 45 L st σ n k w (zk1 cut G (Z f)) G R T := zrs hZ rfl f L st σ n k w
theorem f_X7_init_45 (hZ : ZRN (ztb (tb_X7_init E d mc ms)) cut G R T Z) (f : Nat) (L : ZLV) (st : List Value) (σ : ZHp) (n k w : Nat) : Z (f + 1) 45 L st σ n k w = s_return L st σ n k w (zk1 cut G (Z f)) G R T := zrs hZ rfl f L st σ n k w
theorem f_X7_begin_0 (hZ : ZRN (ztb (tb_X7_begin E d mc ms)) cut G R T Z) (f : Nat) (L : ZLV) (st : List Value) (σ : ZHp) (n k w : Nat) : Z (f + 1) 0 L st σ n k w = s_aload 0 1 L st σ n k w (zk1 cut G (Z f)) G R T := zrs hZ rfl f L st σ n k w
theorem f_X7_begin_1 (hZ : ZRN (ztb (tb_X7_begin E d mc ms)) cut G R T Z) (f : Nat) (L : ZLV) (st : List Value) (σ : ZHp) (n k w : Nat) : Z (f + 1) 1 L st σ n k w = s_aload 1 2 L st σ n k w (zk1 cut G (Z f)) G R T := zrs hZ rfl f L st σ n k w
theorem f_X7_begin_2 (hZ : ZRN (ztb (tb_X7_begin E d mc ms)) cut G R T Z) (f : Nat) (L : ZLV) (st : List Value) (σ : ZHp) (n k w : Nat) : Z (f + 1) 2 L st σ n k w = s_putf 6 2 3 5 L st σ n k w (zk1 cut G (Z f)) G R T := zrs hZ rfl f L st σ n k w
theorem f_X7_begin_5 (hZ : ZRN (ztb (tb_X7_begin E d mc ms)) cut G R T Z) (f : Nat) (L : ZLV) (st : List Value) (σ : ZHp) (n k w : Nat) : Z (f + 1) 5 L st σ n k w = s_aload 0 6 L st σ n k w (zk1 cut G (Z f)) G R T := zrs hZ rfl f L st σ n k w
theorem f_X7_begin_6 (hZ : ZRN (ztb (tb_X7_begin E d mc ms)) cut G R T Z) (f : Nat) (L : ZLV) (st : List Value) (σ : ZHp) (n k w : Nat) : Z (f + 1) 6 L st σ n k w = s_const (.int (0)) 7 L st σ n k w (zk1 cut G (Z f)) G R T := zrs hZ rfl f L st σ n k w
theorem f_X7_begin_7 (hZ : ZRN (ztb (tb_X7_begin E d mc ms)) cut G R T Z) (f : Nat) (L : ZLV) (st : List Value) (σ : ZHp) (n k w : Nat) : Z (f + 1) 7 L st σ n k w = s_putf 6 3 0 10 L st σ n k w (zk1 cut G (Z f)) G R T := zrs hZ rfl f L st σ n k w
theorem f_X7_begin_10 (hZ : ZRN (ztb (tb_X7_begin E d mc ms)) cut G R T Z) (f : Nat) (L : ZLV) (st : List Value) (σ : ZHp) (n k w : Nat) : Z (f + 1) 10 L st σ n k w = s_aload 0 11 L st σ n k w (zk1 cut G (Z f)) G R T := zrs hZ rfl f L st σ n k w
theorem f_X7_begin_11 (hZ : ZRN (ztb (tb_X7_begin E d mc ms)) cut G R T Z) (f : Nat) (L : ZLV) (st : List Value) (σ : ZHp) (n k w : Nat) : Z (f + 1) 11 L st σ n k w = s_const (.int (-1)) 12 L st σ n k w (zk1 cut G (Z f)) G R T := zrs hZ rfl f L st σ n k w
theorem f_X7_begin_12 (hZ : ZRN (ztb (tb_X7_begin E d mc ms)) cut G R T Z) (f : Nat) (L : ZLV) (st : List Value) (σ : ZHp) (n k w : Nat) : Z (f + 1) 12 L st σ n k w = s_putf 6 4 0 15 L st σ n k w (zk1 cut G (Z f)) G R T := zrs hZ rfl f L st σ n k w
theorem f_X7_begin_15 (hZ : ZRN (ztb (tb_X7_begin E d mc ms)) cut G R T Z) (f : Nat) (L : ZLV) (st : List Value) (σ : ZHp) (n k w : Nat) : Z (f + 1) 15 L st σ n k w = s_return L st σ n k w (zk1 cut G (Z f)) G R T := zrs hZ rfl f L st σ n k w
theorem f_X7_error_0 (hZ : ZRN (ztb (tb_X7_error E d mc ms)) cut G R T Z) (f : Nat) (L : ZLV) (st : List Value) (σ : ZHp) (n k w : Nat) : Z (f + 1) 0 L st σ n k w = s_aload 0 1 L st σ n k w (zk1 cut G (Z f)) G R T := zrs hZ rfl f L st σ n k w
theorem f_X7_error_1 (hZ : ZRN (ztb (tb_X7_error E d mc ms)) cut G R T Z) (f : Nat) (L : ZLV) (st : List Value) (σ : ZHp) (n k w : Nat) : Z (f + 1) 1 L st σ n k w = s_getf 6 3 4 L st σ n k w (zk1 cut G (Z f)) G R T := zrs hZ rfl f L st σ n k w
theorem f_X7_error_4 (hZ : ZRN (ztb (tb_X7_error E d mc ms)) cut G R T Z) (f : Nat) (L : ZLV) (st : List Value) (σ : ZHp) (n k w : Nat) : Z (f + 1) 4 L st σ n k w = s_ireturn L st σ n k w (zk1 cut G (Z f)) G R T := zrs hZ rfl f L st σ n k w
theorem f_X7_errorPlace_0 (hZ : ZRN (ztb (tb_X7_errorPlace E d mc ms)) cut G R T Z) (f : Nat) (L : ZLV) (st : List Value) (σ : ZHp) (n k w : Nat) : Z (f + 1) 0 L st σ n k w = s_aload 0 1 L st σ n k w (zk1 cut G (Z f)) G R T := zrs hZ rfl f L st σ n k w
theorem f_X7_errorPlace_1 (hZ : ZRN (ztb (tb_X7_errorPlace E d mc ms)) cut G R T Z) (f : Nat) (L : ZLV) (st : List Value) (σ : ZHp) (n k w : Nat) : Z (f + 1) 1 L st σ n k w = s_getf 6 4 4 L st σ n k w (zk1 cut G (Z f)) G R T := zrs hZ rfl f L st σ n k w
theorem f_X7_errorPlace_4 (hZ : ZRN (ztb (tb_X7_errorPlace E d mc ms)) cut G R T Z) (f : Nat) (L : ZLV) (st : List Value) (σ : ZHp) (n k w : Nat) : Z (f + 1) 4 L st σ n k w = s_ireturn L st σ n k w (zk1 cut G (Z f)) G R T := zrs hZ rfl f L st σ n k w
theorem f_X7_writeNumber_0 (hZ : ZRN (ztb (tb_X7_writeNumber E d mc ms)) cut G R T Z) (f : Nat) (L : ZLV) (st : List Value) (σ : ZHp) (n k w : Nat) : Z (f + 1) 0 L st σ n k w = s_aload 0 1 L st σ n k w (zk1 cut G (Z f)) G R T := zrs hZ rfl f L st σ n k w
theorem f_X7_writeNumber_1 (hZ : ZRN (ztb (tb_X7_writeNumber E d mc ms)) cut G R T Z) (f : Nat) (L : ZLV) (st : List Value) (σ : ZHp) (n k w : Nat) : Z (f + 1) 1 L st σ n k w = s_iload 2 2 L st σ n k w (zk1 cut G (Z f)) G R T := zrs hZ rfl f L st σ n k w
theorem f_X7_writeNumber_2 (hZ : ZRN (ztb (tb_X7_writeNumber E d mc ms)) cut G R T Z) (f : Nat) (L : ZLV) (st : List Value) (σ : ZHp) (n k w : Nat) : Z (f + 1) 2 L st σ n k w = s_putf 6 5 0 5 L st σ n k w (zk1 cut G (Z f)) G R T := zrs hZ rfl f L st σ n k w
theorem f_X7_writeNumber_5 (hZ : ZRN (ztb (tb_X7_writeNumber E d mc ms)) cut G R T Z) (f : Nat) (L : ZLV) (st : List Value) (σ : ZHp) (n k w : Nat) : Z (f + 1) 5 L st σ n k w = s_aload 1 6 L st σ n k w (zk1 cut G (Z f)) G R T := zrs hZ rfl f L st σ n k w
theorem f_X7_writeNumber_6 (hZ : ZRN (ztb (tb_X7_writeNumber E d mc ms)) cut G R T Z) (f : Nat) (L : ZLV) (st : List Value) (σ : ZHp) (n k w : Nat) : Z (f + 1) 6 L st σ n k w = s_const (.ref (zeK E 13)) 9 L st σ n k w (zk1 cut G (Z f)) G R T := zrs hZ rfl f L st σ n k w
theorem f_X7_writeNumber_9 (hZ : ZRN (ztb (tb_X7_writeNumber E d mc ms)) cut G R T Z) (f : Nat) (L : ZLV) (st : List Value) (σ : ZHp) (n k w : Nat) : Z (f + 1) 9 L st σ n k w = s_acmp_ne 35 12 L st σ n k w (zk1 cut G (Z f)) G R T := zrs hZ rfl f L st σ n k w
theorem f_X7_writeNumber_12 (hZ : ZRN (ztb (tb_X7_writeNumber E d mc ms)) cut G R T Z) (f : Nat) (L : ZLV) (st : List Value) (σ : ZHp) (n k w : Nat) : Z (f + 1) 12 L st σ n k w = s_iload 2 13 L st σ n k w (zk1 cut G (Z f)) G R T := zrs hZ rfl f L st σ n k w
theorem f_X7_writeNumber_13 (hZ : ZRN (ztb (tb_X7_writeNumber E d mc ms)) cut G R T Z) (f : Nat) (L : ZLV) (st : List Value) (σ : ZHp) (n k w : Nat) : Z (f + 1) 13 L st σ n k w = s_const (.int (20)) 15 L st σ n k w (zk1 cut G (Z f)) G R T := zrs hZ rfl f L st σ n k w
theorem f_X7_writeNumber_15 (hZ : ZRN (ztb (tb_X7_writeNumber E d mc ms)) cut G R T Z) (f : Nat) (L : ZLV) (st : List Value) (σ : ZHp) (n k w : Nat) : Z (f + 1) 15 L st σ n k w = s_aload 0 16 L st σ n k w (zk1 cut G (Z f)) G R T := zrs hZ rfl f L st σ n k w
theorem f_X7_writeNumber_16 (hZ : ZRN (ztb (tb_X7_writeNumber E d mc ms)) cut G R T Z) (f : Nat) (L : ZLV) (st : List Value) (σ : ZHp) (n k w : Nat) : Z (f + 1) 16 L st σ n k w = s_getf 6 2 19 L st σ n k w (zk1 cut G (Z f)) G R T := zrs hZ rfl f L st σ n k w
theorem f_X7_writeNumber_19 (hZ : ZRN (ztb (tb_X7_writeNumber E d mc ms)) cut G R T Z) (f : Nat) (L : ZLV) (st : List Value) (σ : ZHp) (n k w : Nat) : Z (f + 1) 19 L st σ n k w = s_getf 5 6 22 L st σ n k w (zk1 cut G (Z f)) G R T := zrs hZ rfl f L st σ n k w
theorem f_X7_writeNumber_22 (hZ : ZRN (ztb (tb_X7_writeNumber E d mc ms)) cut G R T Z) (f : Nat) (L : ZLV) (st : List Value) (σ : ZHp) (n k w : Nat) : Z (f + 1) 22 L st σ n k w = s_callV E d mc ms 4 MX5_size 0 25 L st σ n k w (zk1 cut G (Z f)) G R T := zrs hZ rfl f L st σ n k w
theorem f_X7_writeNumber_25 (hZ : ZRN (ztb (tb_X7_writeNumber E d mc ms)) cut G R T Z) (f : Nat) (L : ZLV) (st : List Value) (σ : ZHp) (n k w : Nat) : Z (f + 1) 25 L st σ n k w = s_isub 26 L st σ n k w (zk1 cut G (Z f)) G R T := zrs hZ rfl f L st σ n k w
theorem f_X7_writeNumber_26 (hZ : ZRN (ztb (tb_X7_writeNumber E d mc ms)) cut G R T Z) (f : Nat) (L : ZLV) (st : List Value) (σ : ZHp) (n k w : Nat) : Z (f + 1) 26 L st σ n k w = s_icmp_le 35 29 L st σ n k w (zk1 cut G (Z f)) G R T := zrs hZ rfl f L st σ n k w
theorem f_X7_writeNumber_29 (hZ : ZRN (ztb (tb_X7_writeNumber E d mc ms)) cut G R T Z) (f : Nat) (L : ZLV) (st : List Value) (σ : ZHp) (n k w : Nat) : Z (f + 1) 29 L st σ n k w = s_aload 0 30 L st σ n k w (zk1 cut G (Z f)) G R T := zrs hZ rfl f L st σ n k w
theorem f_X7_writeNumber_30 (hZ : ZRN (ztb (tb_X7_writeNumber E d mc ms)) cut G R T Z) (f : Nat) (L : ZLV) (st : List Value) (σ : ZHp) (n k w : Nat) : Z (f + 1) 30 L st σ n k w = s_const (.int (4)) 31 L st σ n k w (zk1 cut G (Z f)) G R T := zrs hZ rfl f L st σ n k w
theorem f_X7_writeNumber_31 (hZ : ZRN (ztb (tb_X7_writeNumber E d mc ms)) cut G R T Z) (f : Nat) (L : ZLV) (st : List Value) (σ : ZHp) (n k w : Nat) : Z (f + 1) 31 L st σ n k w = s_iload 3 32 L st σ n k w (zk1 cut G (Z f)) G R T := zrs hZ rfl f L st σ n k w
theorem f_X7_writeNumber_32 (hZ : ZRN (ztb (tb_X7_writeNumber E d mc ms)) cut G R T Z) (f : Nat) (L : ZLV) (st : List Value) (σ : ZHp) (n k w : Nat) : Z (f + 1) 32 L st σ n k w = s_callV E d mc ms 6 MX7_fault 2 35 L st σ n k w (zk1 cut G (Z f)) G R T := zrs hZ rfl f L st σ n k w
theorem f_X7_writeNumber_35 (hZ : ZRN (ztb (tb_X7_writeNumber E d mc ms)) cut G R T Z) (f : Nat) (L : ZLV) (st : List Value) (σ : ZHp) (n k w : Nat) : Z (f + 1) 35 L st σ n k w = s_iload 2 36 L st σ n k w (zk1 cut G (Z f)) G R T := zrs hZ rfl f L st σ n k w
theorem f_X7_writeNumber_36 (hZ : ZRN (ztb (tb_X7_writeNumber E d mc ms)) cut G R T Z) (f : Nat) (L : ZLV) (st : List Value) (σ : ZHp) (n k w : Nat) : Z (f + 1) 36 L st σ n k w = s_aload 1 37 L st σ n k w (zk1 cut G (Z f)) G R T := zrs hZ rfl f L st σ n k w
theorem f_X7_writeNumber_37 (hZ : ZRN (ztb (tb_X7_writeNumber E d mc ms)) cut G R T Z) (f : Nat) (L : ZLV) (st : List Value) (σ : ZHp) (n k w : Nat) : Z (f + 1) 37 L st σ n k w = s_callS E d mc ms MX7_most 1 40 L st σ n k w (zk1 cut G (Z f)) G R T := zrs hZ rfl f L st σ n k w
theorem f_X7_writeNumber_40 (hZ : ZRN (ztb (tb_X7_writeNumber E d mc ms)) cut G R T Z) (f : Nat) (L : ZLV) (st : List Value) (σ : ZHp) (n k w : Nat) : Z (f + 1) 40 L st σ n k w = s_icmp_gt 55 43 L st σ n k w (zk1 cut G (Z f)) G R T := zrs hZ rfl f L st σ n k w
theorem f_X7_writeNumber_43 (hZ : ZRN (ztb (tb_X7_writeNumber E d mc ms)) cut G R T Z) (f : Nat) (L : ZLV) (st : List Value) (σ : ZHp) (n k w : Nat) : Z (f + 1) 43 L st σ n k w = s_aload 1 44 L st σ n k w (zk1 cut G (Z f)) G R T := zrs hZ rfl f L st σ n k w
theorem f_X7_writeNumber_44 (hZ : ZRN (ztb (tb_X7_writeNumber E d mc ms)) cut G R T Z) (f : Nat) (L : ZLV) (st : List Value) (σ : ZHp) (n k w : Nat) : Z (f + 1) 44 L st σ n k w = s_const (.ref (zeK E 13)) 47 L st σ n k w (zk1 cut G (Z f)) G R T := zrs hZ rfl f L st σ n k w
theorem f_X7_writeNumber_47 (hZ : ZRN (ztb (tb_X7_writeNumber E d mc ms)) cut G R T Z) (f : Nat) (L : ZLV) (st : List Value) (σ : ZHp) (n k w : Nat) : Z (f + 1) 47 L st σ n k w = s_acmp_ne 61 50 L st σ n k w (zk1 cut G (Z f)) G R T := zrs hZ rfl f L st σ n k w
theorem f_X7_writeNumber_50 (hZ : ZRN (ztb (tb_X7_writeNumber E d mc ms)) cut G R T Z) (f : Nat) (L : ZLV) (st : List Value) (σ : ZHp) (n k w : Nat) : Z (f + 1) 50 L st σ n k w = s_iload 2 51 L st σ n k w (zk1 cut G (Z f)) G R T := zrs hZ rfl f L st σ n k w
theorem f_X7_writeNumber_51 (hZ : ZRN (ztb (tb_X7_writeNumber E d mc ms)) cut G R T Z) (f : Nat) (L : ZLV) (st : List Value) (σ : ZHp) (n k w : Nat) : Z (f + 1) 51 L st σ n k w = s_const (.int (1)) 52 L st σ n k w (zk1 cut G (Z f)) G R T := zrs hZ rfl f L st σ n k w
theorem f_X7_writeNumber_52 (hZ : ZRN (ztb (tb_X7_writeNumber E d mc ms)) cut G R T Z) (f : Nat) (L : ZLV) (st : List Value) (σ : ZHp) (n k w : Nat) : Z (f + 1) 52 L st σ n k w = s_icmp_ge 61 55 L st σ n k w (zk1 cut G (Z f)) G R T := zrs hZ rfl f L st σ n k w
theorem f_X7_writeNumber_55 (hZ : ZRN (ztb (tb_X7_writeNumber E d mc ms)) cut G R T Z) (f : Nat) (L : ZLV) (st : List Value) (σ : ZHp) (n k w : Nat) : Z (f + 1) 55 L st σ n k w = s_aload 0 56 L st σ n k w (zk1 cut G (Z f)) G R T := zrs hZ rfl f L st σ n k w
theorem f_X7_writeNumber_56 (hZ : ZRN (ztb (tb_X7_writeNumber E d mc ms)) cut G R T Z) (f : Nat) (L : ZLV) (st : List Value) (σ : ZHp) (n k w : Nat) : Z (f + 1) 56 L st σ n k w = s_const (.int (5)) 57 L st σ n k w (zk1 cut G (Z f)) G R T := zrs hZ rfl f L st σ n k w
theorem f_X7_writeNumber_57 (hZ : ZRN (ztb (tb_X7_writeNumber E d mc ms)) cut G R T Z) (f : Nat) (L : ZLV) (st : List Value) (σ : ZHp) (n k w : Nat) : Z (f + 1) 57 L st σ n k w = s_iload 3 58 L st σ n k w (zk1 cut G (Z f)) G R T := zrs hZ rfl f L st σ n k w
theorem f_X7_writeNumber_58 (hZ : ZRN (ztb (tb_X7_writeNumber E d mc ms)) cut G R T Z) (f : Nat) (L : ZLV) (st : List Value) (σ : ZHp) (n k w : Nat) : Z (f + 1) 58 L st σ n k w = s_callV E d mc ms 6 MX7_fault 2 61 L st σ n k w (zk1 cut G (Z f)) G R T := zrs hZ rfl f L st σ n k w
theorem f_X7_writeNumber_61 (hZ : ZRN (ztb (tb_X7_writeNumber E d mc ms)) cut G R T Z) (f : Nat) (L : ZLV) (st : List Value) (σ : ZHp) (n k w : Nat) : Z (f + 1) 61 L st σ n k w = s_aload 0 62 L st σ n k w (zk1 cut G (Z f)) G R T := zrs hZ rfl f L st σ n k w
theorem f_X7_writeNumber_62 (hZ : ZRN (ztb (tb_X7_writeNumber E d mc ms)) cut G R T Z) (f : Nat) (L : ZLV) (st : List Value) (σ : ZHp) (n k w : Nat) : Z (f + 1) 62 L st σ n k w = s_getf 6 3 65 L st σ n k w (zk1 cut G (Z f)) G R T := zrs hZ rfl f L st σ n k w
theorem f_X7_writeNumber_65 (hZ : ZRN (ztb (tb_X7_writeNumber E d mc ms)) cut G R T Z) (f : Nat) (L : ZLV) (st : List Value) (σ : ZHp) (n k w : Nat) : Z (f + 1) 65 L st σ n k w = s_if_ne 98 68 L st σ n k w (zk1 cut G (Z f)) G R T := zrs hZ rfl f L st σ n k w
theorem f_X7_writeNumber_68 (hZ : ZRN (ztb (tb_X7_writeNumber E d mc ms)) cut G R T Z) (f : Nat) (L : ZLV) (st : List Value) (σ : ZHp) (n k w : Nat) : Z (f + 1) 68 L st σ n k w = s_aload 1 69 L st σ n k w (zk1 cut G (Z f)) G R T := zrs hZ rfl f L st σ n k w
theorem f_X7_writeNumber_69 (hZ : ZRN (ztb (tb_X7_writeNumber E d mc ms)) cut G R T Z) (f : Nat) (L : ZLV) (st : List Value) (σ : ZHp) (n k w : Nat) : Z (f + 1) 69 L st σ n k w = s_const (.ref (zeK E 6)) 72 L st σ n k w (zk1 cut G (Z f)) G R T := zrs hZ rfl f L st σ n k w
theorem f_X7_writeNumber_72 (hZ : ZRN (ztb (tb_X7_writeNumber E d mc ms)) cut G R T Z) (f : Nat) (L : ZLV) (st : List Value) (σ : ZHp) (n k w : Nat) : Z (f + 1) 72 L st σ n k w = s_acmp_ne 98 75 L st σ n k w (zk1 cut G (Z f)) G R T := zrs hZ rfl f L st σ n k w
theorem f_X7_writeNumber_75 (hZ : ZRN (ztb (tb_X7_writeNumber E d mc ms)) cut G R T Z) (f : Nat) (L : ZLV) (st : List Value) (σ : ZHp) (n k w : Nat) : Z (f + 1) 75 L st σ n k w = s_aload 0 76 L st σ n k w (zk1 cut G (Z f)) G R T := zrs hZ rfl f L st σ n k w
theorem f_X7_writeNumber_76 (hZ : ZRN (ztb (tb_X7_writeNumber E d mc ms)) cut G R T Z) (f : Nat) (L : ZLV) (st : List Value) (σ : ZHp) (n k w : Nat) : Z (f + 1) 76 L st σ n k w = s_getf 6 2 79 L st σ n k w (zk1 cut G (Z f)) G R T := zrs hZ rfl f L st σ n k w
theorem f_X7_writeNumber_79 (hZ : ZRN (ztb (tb_X7_writeNumber E d mc ms)) cut G R T Z) (f : Nat) (L : ZLV) (st : List Value) (σ : ZHp) (n k w : Nat) : Z (f + 1) 79 L st σ n k w = s_getf 5 3 82 L st σ n k w (zk1 cut G (Z f)) G R T := zrs hZ rfl f L st σ n k w
theorem f_X7_writeNumber_82 (hZ : ZRN (ztb (tb_X7_writeNumber E d mc ms)) cut G R T Z) (f : Nat) (L : ZLV) (st : List Value) (σ : ZHp) (n k w : Nat) : Z (f + 1) 82 L st σ n k w = s_aload 0 83 L st σ n k w (zk1 cut G (Z f)) G R T := zrs hZ rfl f L st σ n k w
theorem f_X7_writeNumber_83 (hZ : ZRN (ztb (tb_X7_writeNumber E d mc ms)) cut G R T Z) (f : Nat) (L : ZLV) (st : List Value) (σ : ZHp) (n k w : Nat) : Z (f + 1) 83 L st σ n k w = s_getf 6 2 86 L st σ n k w (zk1 cut G (Z f)) G R T := zrs hZ rfl f L st σ n k w
theorem f_X7_writeNumber_86 (hZ : ZRN (ztb (tb_X7_writeNumber E d mc ms)) cut G R T Z) (f : Nat) (L : ZLV) (st : List Value) (σ : ZHp) (n k w : Nat) : Z (f + 1) 86 L st σ n k w = s_getf 5 0 89 L st σ n k w (zk1 cut G (Z f)) G R T := zrs hZ rfl f L st σ n k w
theorem f_X7_writeNumber_89 (hZ : ZRN (ztb (tb_X7_writeNumber E d mc ms)) cut G R T Z) (f : Nat) (L : ZLV) (st : List Value) (σ : ZHp) (n k w : Nat) : Z (f + 1) 89 L st σ n k w = s_const (.int (1)) 90 L st σ n k w (zk1 cut G (Z f)) G R T := zrs hZ rfl f L st σ n k w
theorem f_X7_writeNumber_90 (hZ : ZRN (ztb (tb_X7_writeNumber E d mc ms)) cut G R T Z) (f : Nat) (L : ZLV) (st : List Value) (σ : ZHp) (n k w : Nat) : Z (f + 1) 90 L st σ n k w = s_isub 91 L st σ n k w (zk1 cut G (Z f)) G R T := zrs hZ rfl f L st σ n k w
theorem f_X7_writeNumber_91 (hZ : ZRN (ztb (tb_X7_writeNumber E d mc ms)) cut G R T Z) (f : Nat) (L : ZLV) (st : List Value) (σ : ZHp) (n k w : Nat) : Z (f + 1) 91 L st σ n k w = s_iload 2 92 L st σ n k w (zk1 cut G (Z f)) G R T := zrs hZ rfl f L st σ n k w
theorem f_X7_writeNumber_92 (hZ : ZRN (ztb (tb_X7_writeNumber E d mc ms)) cut G R T Z) (f : Nat) (L : ZLV) (st : List Value) (σ : ZHp) (n k w : Nat) : Z (f + 1) 92 L st σ n k w = s_callV E d mc ms 4 MX5_set 2 95 L st σ n k w (zk1 cut G (Z f)) G R T := zrs hZ rfl f L st σ n k w
theorem f_X7_writeNumber_95 (hZ : ZRN (ztb (tb_X7_writeNumber E d mc ms)) cut G R T Z) (f : Nat) (L : ZLV) (st : List Value) (σ : ZHp) (n k w : Nat) : Z (f + 1) 95 L st σ n k w = s_goto 132 L st σ n k w (zk1 cut G (Z f)) G R T := zrs hZ rfl f L st σ n k w
theorem f_X7_writeNumber_98 (hZ : ZRN (ztb (tb_X7_writeNumber E d mc ms)) cut G R T Z) (f : Nat) (L : ZLV) (st : List Value) (σ : ZHp) (n k w : Nat) : Z (f + 1) 98 L st σ n k w = s_aload 0 99 L st σ n k w (zk1 cut G (Z f)) G R T := zrs hZ rfl f L st σ n k w
theorem f_X7_writeNumber_99 (hZ : ZRN (ztb (tb_X7_writeNumber E d mc ms)) cut G R T Z) (f : Nat) (L : ZLV) (st : List Value) (σ : ZHp) (n k w : Nat) : Z (f + 1) 99 L st σ n k w = s_getf 6 3 102 L st σ n k w (zk1 cut G (Z f)) G R T := zrs hZ rfl f L st σ n k w
theorem f_X7_writeNumber_102 (hZ : ZRN (ztb (tb_X7_writeNumber E d mc ms)) cut G R T Z) (f : Nat) (L : ZLV) (st : List Value) (σ : ZHp) (n k w : Nat) : Z (f + 1) 102 L st σ n k w = s_if_ne 132 105 L st σ n k w (zk1 cut G (Z f)) G R T := zrs hZ rfl f L st σ n k w
theorem f_X7_writeNumber_105 (hZ : ZRN (ztb (tb_X7_writeNumber E d mc ms)) cut G R T Z) (f : Nat) (L : ZLV) (st : List Value) (σ : ZHp) (n k w : Nat) : Z (f + 1) 105 L st σ n k w = s_aload 1 106 L st σ n k w (zk1 cut G (Z f)) G R T := zrs hZ rfl f L st σ n k w
theorem f_X7_writeNumber_106 (hZ : ZRN (ztb (tb_X7_writeNumber E d mc ms)) cut G R T Z) (f : Nat) (L : ZLV) (st : List Value) (σ : ZHp) (n k w : Nat) : Z (f + 1) 106 L st σ n k w = s_const (.ref (zeK E 7)) 109 L st σ n k w (zk1 cut G (Z f)) G R T := zrs hZ rfl f L st σ n k w
theorem f_X7_writeNumber_109 (hZ : ZRN (ztb (tb_X7_writeNumber E d mc ms)) cut G R T Z) (f : Nat) (L : ZLV) (st : List Value) (σ : ZHp) (n k w : Nat) : Z (f + 1) 109 L st σ n k w = s_acmp_ne 132 112 L st σ n k w (zk1 cut G (Z f)) G R T := zrs hZ rfl f L st σ n k w
theorem f_X7_writeNumber_112 (hZ : ZRN (ztb (tb_X7_writeNumber E d mc ms)) cut G R T Z) (f : Nat) (L : ZLV) (st : List Value) (σ : ZHp) (n k w : Nat) : Z (f + 1) 112 L st σ n k w = s_aload 0 113 L st σ n k w (zk1 cut G (Z f)) G R T := zrs hZ rfl f L st σ n k w
theorem f_X7_writeNumber_113 (hZ : ZRN (ztb (tb_X7_writeNumber E d mc ms)) cut G R T Z) (f : Nat) (L : ZLV) (st : List Value) (σ : ZHp) (n k w : Nat) : Z (f + 1) 113 L st σ n k w = s_getf 6 2 116 L st σ n k w (zk1 cut G (Z f)) G R T := zrs hZ rfl f L st σ n k w
theorem f_X7_writeNumber_116 (hZ : ZRN (ztb (tb_X7_writeNumber E d mc ms)) cut G R T Z) (f : Nat) (L : ZLV) (st : List Value) (σ : ZHp) (n k w : Nat) : Z (f + 1) 116 L st σ n k w = s_getf 5 4 119 L st σ n k w (zk1 cut G (Z f)) G R T := zrs hZ rfl f L st σ n k w
theorem f_X7_writeNumber_119 (hZ : ZRN (ztb (tb_X7_writeNumber E d mc ms)) cut G R T Z) (f : Nat) (L : ZLV) (st : List Value) (σ : ZHp) (n k w : Nat) : Z (f + 1) 119 L st σ n k w = s_aload 0 120 L st σ n k w (zk1 cut G (Z f)) G R T := zrs hZ rfl f L st σ n k w
theorem f_X7_writeNumber_120 (hZ : ZRN (ztb (tb_X7_writeNumber E d mc ms)) cut G R T Z) (f : Nat) (L : ZLV) (st : List Value) (σ : ZHp) (n k w : Nat) : Z (f + 1) 120 L st σ n k w = s_getf 6 2 123 L st σ n k w (zk1 cut G (Z f)) G R T := zrs hZ rfl f L st σ n k w
theorem f_X7_writeNumber_123 (hZ : ZRN (ztb (tb_X7_writeNumber E d mc ms)) cut G R T Z) (f : Nat) (L : ZLV) (st : List Value) (σ : ZHp) (n k w : Nat) : Z (f + 1) 123 L st σ n k w = s_getf 5 0 126 L st σ n k w (zk1 cut G (Z f)) G R T := zrs hZ rfl f L st σ n k w
theorem f_X7_writeNumber_126 (hZ : ZRN (ztb (tb_X7_writeNumber E d mc ms)) cut G R T Z) (f : Nat) (L : ZLV) (st : List Value) (σ : ZHp) (n k w : Nat) : Z (f + 1) 126 L st σ n k w = s_const (.int (1)) 127 L st σ n k w (zk1 cut G (Z f)) G R T := zrs hZ rfl f L st σ n k w
theorem f_X7_writeNumber_127 (hZ : ZRN (ztb (tb_X7_writeNumber E d mc ms)) cut G R T Z) (f : Nat) (L : ZLV) (st : List Value) (σ : ZHp) (n k w : Nat) : Z (f + 1) 127 L st σ n k w = s_isub 128 L st σ n k w (zk1 cut G (Z f)) G R T := zrs hZ rfl f L st σ n k w
theorem f_X7_writeNumber_128 (hZ : ZRN (ztb (tb_X7_writeNumber E d mc ms)) cut G R T Z) (f : Nat) (L : ZLV) (st : List Value) (σ : ZHp) (n k w : Nat) : Z (f + 1) 128 L st σ n k w = s_iload 2 129 L st σ n k w (zk1 cut G (Z f)) G R T := zrs hZ rfl f L st σ n k w
theorem f_X7_writeNumber_129 (hZ : ZRN (ztb (tb_X7_writeNumber E d mc ms)) cut G R T Z) (f : Nat) (L : ZLV) (st : List Value) (σ : ZHp) (n k w : Nat) : Z (f + 1) 129 L st σ n k w = s_callV E d mc ms 4 MX5_set 2 132 L st σ n k w (zk1 cut G (Z f)) G R T := zrs hZ rfl f L st σ n k w
theorem f_X7_writeNumber_132 (hZ : ZRN (ztb (tb_X7_writeNumber E d mc ms)) cut G R T Z) (f : Nat) (L : ZLV) (st : List Value) (σ : ZHp) (n k w : Nat) : Z (f + 1) 132 L st σ n k w = s_return L st σ n k w (zk1 cut G (Z f)) G R T := zrs hZ rfl f L st σ n k w
theorem f_X7_most_0 (hZ : ZRN (ztb (tb_X7_most E d mc ms)) cut G R T Z) (f : Nat) (L : ZLV) (st : List Value) (σ : ZHp) (n k w : Nat) : Z (f + 1) 0 L st σ n k w = s_aload 0 1 L st σ n k w (zk1 cut G (Z f)) G R T := zrs hZ rfl f L st σ n k w
theorem f_X7_most_1 (hZ : ZRN (ztb (tb_X7_most E d mc ms)) cut G R T Z) (f : Nat) (L : ZLV) (st : List Value) (σ : ZHp) (n k w : Nat) : Z (f + 1) 1 L st σ n k w = s_const (.ref (zeK E 13)) 4 L st σ n k w (zk1 cut G (Z f)) G R T := zrs hZ rfl f L st σ n k w
theorem f_X7_most_4 (hZ : ZRN (ztb (tb_X7_most E d mc ms)) cut G R T Z) (f : Nat) (L : ZLV) (st : List Value) (σ : ZHp) (n k w : Nat) : Z (f + 1) 4 L st σ n k w = s_acmp_ne 12 7 L st σ n k w (zk1 cut G (Z f)) G R T := zrs hZ rfl f L st σ n k w
theorem f_X7_most_7 (hZ : ZRN (ztb (tb_X7_most E d mc ms)) cut G R T Z) (f : Nat) (L : ZLV) (st : List Value) (σ : ZHp) (n k w : Nat) : Z (f + 1) 7 L st σ n k w = s_const (.int (20)) 9 L st σ n k w (zk1 cut G (Z f)) G R T := zrs hZ rfl f L st σ n k w
theorem f_X7_most_9 (hZ : ZRN (ztb (tb_X7_most E d mc ms)) cut G R T Z) (f : Nat) (L : ZLV) (st : List Value) (σ : ZHp) (n k w : Nat) : Z (f + 1) 9 L st σ n k w = s_goto 26 L st σ n k w (zk1 cut G (Z f)) G R T := zrs hZ rfl f L st σ n k w
theorem f_X7_most_12 (hZ : ZRN (ztb (tb_X7_most E d mc ms)) cut G R T Z) (f : Nat) (L : ZLV) (st : List Value) (σ : ZHp) (n k w : Nat) : Z (f + 1) 12 L st σ n k w = s_aload 0 13 L st σ n k w (zk1 cut G (Z f)) G R T := zrs hZ rfl f L st σ n k w
theorem f_X7_most_13 (hZ : ZRN (ztb (tb_X7_most E d mc ms)) cut G R T Z) (f : Nat) (L : ZLV) (st : List Value) (σ : ZHp) (n k w : Nat) : Z (f + 1) 13 L st σ n k w = s_const (.ref (zeK E 15)) 16 L st σ n k w (zk1 cut G (Z f)) G R T := zrs hZ rfl f L st σ n k w
theorem f_X7_most_16 (hZ : ZRN (ztb (tb_X7_most E d mc ms)) cut G R T Z) (f : Nat) (L : ZLV) (st : List Value) (σ : ZHp) (n k w : Nat) : Z (f + 1) 16 L st σ n k w = s_acmp_ne 24 19 L st σ n k w (zk1 cut G (Z f)) G R T := zrs hZ rfl f L st σ n k w
theorem f_X7_most_19 (hZ : ZRN (ztb (tb_X7_most E d mc ms)) cut G R T Z) (f : Nat) (L : ZLV) (st : List Value) (σ : ZHp) (n k w : Nat) : Z (f + 1) 19 L st σ n k w = s_const (.int (30)) 21 L st σ n k w (zk1 cut G (Z f)) G R T := zrs hZ rfl f L st σ n k w
theorem f_X7_most_21 (hZ : ZRN (ztb (tb_X7_most E d mc ms)) cut G R T Z) (f : Nat) (L : ZLV) (st : List Value) (σ : ZHp) (n k w : Nat) : Z (f + 1) 21 L st σ n k w = s_goto 26 L st σ n k w (zk1 cut G (Z f)) G R T := zrs hZ rfl f L st σ n k w
theorem f_X7_most_24 (hZ : ZRN (ztb (tb_X7_most E d mc ms)) cut G R T Z) (f : Nat) (L : ZLV) (st : List Value) (σ : ZHp) (n k w : Nat) : Z (f + 1) 24 L st σ n k w = s_const (.int (99)) 26 L st σ n k w (zk1 cut G (Z f)) G R T := zrs hZ rfl f L st σ n k w
theorem f_X7_most_26 (hZ : ZRN (ztb (tb_X7_most E d mc ms)) cut G R T Z) (f : Nat) (L : ZLV) (st : List Value) (σ : ZHp) (n k w : Nat) : Z (f + 1) 26 L st σ n k w = s_ireturn L st σ n k w (zk1 cut G (Z f)) G R T := zrs hZ rfl f L st σ n k w
theorem f_X7_writeName_0 (hZ : ZRN (ztb (tb_X7_writeName E d mc ms)) cut G R T Z) (f : Nat) (L : ZLV) (st : List Value) (σ : ZHp) (n k w : Nat) : Z (f + 1) 0 L st σ n k w = s_aload 0 1 L st σ n k w (zk1 cut G (Z f)) G R T := zrs hZ rfl f L st σ n k w
theorem f_X7_writeName_1 (hZ : ZRN (ztb (tb_X7_writeName E d mc ms)) cut G R T Z) (f : Nat) (L : ZLV) (st : List Value) (σ : ZHp) (n k w : Nat) : Z (f + 1) 1 L st σ n k w = s_getf 6 3 4 L st σ n k w (zk1 cut G (Z f)) G R T := zrs hZ rfl f L st σ n k w
theorem f_X7_writeName_4 (hZ : ZRN (ztb (tb_X7_writeName E d mc ms)) cut G R T Z) (f : Nat) (L : ZLV) (st : List Value) (σ : ZHp) (n k w : Nat) : Z (f + 1) 4 L st σ n k w = s_if_eq 8 7 L st σ n k w (zk1 cut G (Z f)) G R T := zrs hZ rfl f L st σ n k w
theorem f_X7_writeName_7 (hZ : ZRN (ztb (tb_X7_writeName E d mc ms)) cut G R T Z) (f : Nat) (L : ZLV) (st : List Value) (σ : ZHp) (n k w : Nat) : Z (f + 1) 7 L st σ n k w = s_return L st σ n k w (zk1 cut G (Z f)) G R T := zrs hZ rfl f L st σ n k w
theorem f_X7_writeName_8 (hZ : ZRN (ztb (tb_X7_writeName E d mc ms)) cut G R T Z) (f : Nat) (L : ZLV) (st : List Value) (σ : ZHp) (n k w : Nat) : Z (f + 1) 8 L st σ n k w = s_aload 1 9 L st σ n k w (zk1 cut G (Z f)) G R T := zrs hZ rfl f L st σ n k w
theorem f_X7_writeName_9 (hZ : ZRN (ztb (tb_X7_writeName E d mc ms)) cut G R T Z) (f : Nat) (L : ZLV) (st : List Value) (σ : ZHp) (n k w : Nat) : Z (f + 1) 9 L st σ n k w = s_const (.ref (zeK E 5)) 12 L st σ n k w (zk1 cut G (Z f)) G R T := zrs hZ rfl f L st σ n k w
theorem f_X7_writeName_12 (hZ : ZRN (ztb (tb_X7_writeName E d mc ms)) cut G R T Z) (f : Nat) (L : ZLV) (st : List Value) (σ : ZHp) (n k w : Nat) : Z (f + 1) 12 L st σ n k w = s_acmp_ne 25 15 L st σ n k w (zk1 cut G (Z f)) G R T := zrs hZ rfl f L st σ n k w
theorem f_X7_writeName_15 (hZ : ZRN (ztb (tb_X7_writeName E d mc ms)) cut G R T Z) (f : Nat) (L : ZLV) (st : List Value) (σ : ZHp) (n k w : Nat) : Z (f + 1) 15 L st σ n k w = s_aload 0 16 L st σ n k w (zk1 cut G (Z f)) G R T := zrs hZ rfl f L st σ n k w
theorem f_X7_writeName_16 (hZ : ZRN (ztb (tb_X7_writeName E d mc ms)) cut G R T Z) (f : Nat) (L : ZLV) (st : List Value) (σ : ZHp) (n k w : Nat) : Z (f + 1) 16 L st σ n k w = s_lload 2 17 L st σ n k w (zk1 cut G (Z f)) G R T := zrs hZ rfl f L st σ n k w
theorem f_X7_writeName_17 (hZ : ZRN (ztb (tb_X7_writeName E d mc ms)) cut G R T Z) (f : Nat) (L : ZLV) (st : List Value) (σ : ZHp) (n k w : Nat) : Z (f + 1) 17 L st σ n k w = s_iload 4 19 L st σ n k w (zk1 cut G (Z f)) G R T := zrs hZ rfl f L st σ n k w
theorem f_X7_writeName_19 (hZ : ZRN (ztb (tb_X7_writeName E d mc ms)) cut G R T Z) (f : Nat) (L : ZLV) (st : List Value) (σ : ZHp) (n k w : Nat) : Z (f + 1) 19 L st σ n k w = s_callV E d mc ms 6 MX7_addCard 2 22 L st σ n k w (zk1 cut G (Z f)) G R T := zrs hZ rfl f L st σ n k w
theorem f_X7_writeName_22 (hZ : ZRN (ztb (tb_X7_writeName E d mc ms)) cut G R T Z) (f : Nat) (L : ZLV) (st : List Value) (σ : ZHp) (n k w : Nat) : Z (f + 1) 22 L st σ n k w = s_goto 71 L st σ n k w (zk1 cut G (Z f)) G R T := zrs hZ rfl f L st σ n k w
theorem f_X7_writeName_25 (hZ : ZRN (ztb (tb_X7_writeName E d mc ms)) cut G R T Z) (f : Nat) (L : ZLV) (st : List Value) (σ : ZHp) (n k w : Nat) : Z (f + 1) 25 L st σ n k w = s_aload 1 26 L st σ n k w (zk1 cut G (Z f)) G R T := zrs hZ rfl f L st σ n k w
theorem f_X7_writeName_26 (hZ : ZRN (ztb (tb_X7_writeName E d mc ms)) cut G R T Z) (f : Nat) (L : ZLV) (st : List Value) (σ : ZHp) (n k w : Nat) : Z (f + 1) 26 L st σ n k w = s_const (.ref (zeK E 16)) 29 L st σ n k w (zk1 cut G (Z f)) G R T := zrs hZ rfl f L st σ n k w
theorem f_X7_writeName_29 (hZ : ZRN (ztb (tb_X7_writeName E d mc ms)) cut G R T Z) (f : Nat) (L : ZLV) (st : List Value) (σ : ZHp) (n k w : Nat) : Z (f + 1) 29 L st σ n k w = s_acmp_ne 42 32 L st σ n k w (zk1 cut G (Z f)) G R T := zrs hZ rfl f L st σ n k w
theorem f_X7_writeName_32 (hZ : ZRN (ztb (tb_X7_writeName E d mc ms)) cut G R T Z) (f : Nat) (L : ZLV) (st : List Value) (σ : ZHp) (n k w : Nat) : Z (f + 1) 32 L st σ n k w = s_aload 0 33 L st σ n k w (zk1 cut G (Z f)) G R T := zrs hZ rfl f L st σ n k w
theorem f_X7_writeName_33 (hZ : ZRN (ztb (tb_X7_writeName E d mc ms)) cut G R T Z) (f : Nat) (L : ZLV) (st : List Value) (σ : ZHp) (n k w : Nat) : Z (f + 1) 33 L st σ n k w = s_lload 2 34 L st σ n k w (zk1 cut G (Z f)) G R T := zrs hZ rfl f L st σ n k w
theorem f_X7_writeName_34 (hZ : ZRN (ztb (tb_X7_writeName E d mc ms)) cut G R T Z) (f : Nat) (L : ZLV) (st : List Value) (σ : ZHp) (n k w : Nat) : Z (f + 1) 34 L st σ n k w = s_iload 4 36 L st σ n k w (zk1 cut G (Z f)) G R T := zrs hZ rfl f L st σ n k w
theorem f_X7_writeName_36 (hZ : ZRN (ztb (tb_X7_writeName E d mc ms)) cut G R T Z) (f : Nat) (L : ZLV) (st : List Value) (σ : ZHp) (n k w : Nat) : Z (f + 1) 36 L st σ n k w = s_callV E d mc ms 6 MX7_addMerchant 2 39 L st σ n k w (zk1 cut G (Z f)) G R T := zrs hZ rfl f L st σ n k w
theorem f_X7_writeName_39 (hZ : ZRN (ztb (tb_X7_writeName E d mc ms)) cut G R T Z) (f : Nat) (L : ZLV) (st : List Value) (σ : ZHp) (n k w : Nat) : Z (f + 1) 39 L st σ n k w = s_goto 71 L st σ n k w (zk1 cut G (Z f)) G R T := zrs hZ rfl f L st σ n k w
theorem f_X7_writeName_42 (hZ : ZRN (ztb (tb_X7_writeName E d mc ms)) cut G R T Z) (f : Nat) (L : ZLV) (st : List Value) (σ : ZHp) (n k w : Nat) : Z (f + 1) 42 L st σ n k w = s_aload 0 43 L st σ n k w (zk1 cut G (Z f)) G R T := zrs hZ rfl f L st σ n k w
theorem f_X7_writeName_43 (hZ : ZRN (ztb (tb_X7_writeName E d mc ms)) cut G R T Z) (f : Nat) (L : ZLV) (st : List Value) (σ : ZHp) (n k w : Nat) : Z (f + 1) 43 L st σ n k w = s_aload 1 44 L st σ n k w (zk1 cut G (Z f)) G R T := zrs hZ rfl f L st σ n k w
theorem f_X7_writeName_44 (hZ : ZRN (ztb (tb_X7_writeName E d mc ms)) cut G R T Z) (f : Nat) (L : ZLV) (st : List Value) (σ : ZHp) (n k w : Nat) : Z (f + 1) 44 L st σ n k w = s_aload 1 45 L st σ n k w (zk1 cut G (Z f)) G R T := zrs hZ rfl f L st σ n k w
theorem f_X7_writeName_45 (hZ : ZRN (ztb (tb_X7_writeName E d mc ms)) cut G R T Z) (f : Nat) (L : ZLV) (st : List Value) (σ : ZHp) (n k w : Nat) : Z (f + 1) 45 L st σ n k w = s_const (.ref (zeK E 18)) 48 L st σ n k w (zk1 cut G (Z f)) G R T := zrs hZ rfl f L st σ n k w
theorem f_X7_writeName_48 (hZ : ZRN (ztb (tb_X7_writeName E d mc ms)) cut G R T Z) (f : Nat) (L : ZLV) (st : List Value) (σ : ZHp) (n k w : Nat) : Z (f + 1) 48 L st σ n k w = s_acmp_ne 61 51 L st σ n k w (zk1 cut G (Z f)) G R T := zrs hZ rfl f L st σ n k w
theorem f_X7_writeName_51 (hZ : ZRN (ztb (tb_X7_writeName E d mc ms)) cut G R T Z) (f : Nat) (L : ZLV) (st : List Value) (σ : ZHp) (n k w : Nat) : Z (f + 1) 51 L st σ n k w = s_aload 0 52 L st σ n k w (zk1 cut G (Z f)) G R T := zrs hZ rfl f L st σ n k w
theorem f_X7_writeName_52 (hZ : ZRN (ztb (tb_X7_writeName E d mc ms)) cut G R T Z) (f : Nat) (L : ZLV) (st : List Value) (σ : ZHp) (n k w : Nat) : Z (f + 1) 52 L st σ n k w = s_lload 2 53 L st σ n k w (zk1 cut G (Z f)) G R T := zrs hZ rfl f L st σ n k w
theorem f_X7_writeName_53 (hZ : ZRN (ztb (tb_X7_writeName E d mc ms)) cut G R T Z) (f : Nat) (L : ZLV) (st : List Value) (σ : ZHp) (n k w : Nat) : Z (f + 1) 53 L st σ n k w = s_iload 4 55 L st σ n k w (zk1 cut G (Z f)) G R T := zrs hZ rfl f L st σ n k w
theorem f_X7_writeName_55 (hZ : ZRN (ztb (tb_X7_writeName E d mc ms)) cut G R T Z) (f : Nat) (L : ZLV) (st : List Value) (σ : ZHp) (n k w : Nat) : Z (f + 1) 55 L st σ n k w = s_callV E d mc ms 6 MX7_merchantNamed 2 58 L st σ n k w (zk1 cut G (Z f)) G R T := zrs hZ rfl f L st σ n k w
theorem f_X7_writeName_58 (hZ : ZRN (ztb (tb_X7_writeName E d mc ms)) cut G R T Z) (f : Nat) (L : ZLV) (st : List Value) (σ : ZHp) (n k w : Nat) : Z (f + 1) 58 L st σ n k w = s_goto 68 L st σ n k w (zk1 cut G (Z f)) G R T := zrs hZ rfl f L st σ n k w
theorem f_X7_writeName_61 (hZ : ZRN (ztb (tb_X7_writeName E d mc ms)) cut G R T Z) (f : Nat) (L : ZLV) (st : List Value) (σ : ZHp) (n k w : Nat) : Z (f + 1) 61 L st σ n k w = s_aload 0 62 L st σ n k w (zk1 cut G (Z f)) G R T := zrs hZ rfl f L st σ n k w
theorem f_X7_writeName_62 (hZ : ZRN (ztb (tb_X7_writeName E d mc ms)) cut G R T Z) (f : Nat) (L : ZLV) (st : List Value) (σ : ZHp) (n k w : Nat) : Z (f + 1) 62 L st σ n k w = s_lload 2 63 L st σ n k w (zk1 cut G (Z f)) G R T := zrs hZ rfl f L st σ n k w
theorem f_X7_writeName_63 (hZ : ZRN (ztb (tb_X7_writeName E d mc ms)) cut G R T Z) (f : Nat) (L : ZLV) (st : List Value) (σ : ZHp) (n k w : Nat) : Z (f + 1) 63 L st σ n k w = s_iload 4 65 L st σ n k w (zk1 cut G (Z f)) G R T := zrs hZ rfl f L st σ n k w
theorem f_X7_writeName_65 (hZ : ZRN (ztb (tb_X7_writeName E d mc ms)) cut G R T Z) (f : Nat) (L : ZLV) (st : List Value) (σ : ZHp) (n k w : Nat) : Z (f + 1) 65 L st σ n k w = s_callV E d mc ms 6 MX7_cardNamed 2 68 L st σ n k w (zk1 cut G (Z f)) G R T := zrs hZ rfl f L st σ n k w
theorem f_X7_writeName_68 (hZ : ZRN (ztb (tb_X7_writeName E d mc ms)) cut G R T Z) (f : Nat) (L : ZLV) (st : List Value) (σ : ZHp) (n k w : Nat) : Z (f + 1) 68 L st σ n k w = s_callV E d mc ms 6 MX7_writeNamed 2 71 L st σ n k w (zk1 cut G (Z f)) G R T := zrs hZ rfl f L st σ n k w
theorem f_X7_writeName_71 (hZ : ZRN (ztb (tb_X7_writeName E d mc ms)) cut G R T Z) (f : Nat) (L : ZLV) (st : List Value) (σ : ZHp) (n k w : Nat) : Z (f + 1) 71 L st σ n k w = s_return L st σ n k w (zk1 cut G (Z f)) G R T := zrs hZ rfl f L st σ n k w
theorem f_X7_cardNamed_0 (hZ : ZRN (ztb (tb_X7_cardNamed E d mc ms)) cut G R T Z) (f : Nat) (L : ZLV) (st : List Value) (σ : ZHp) (n k w : Nat) : Z (f + 1) 0 L st σ n k w = s_aload 0 1 L st σ n k w (zk1 cut G (Z f)) G R T := zrs hZ rfl f L st σ n k w
theorem f_X7_cardNamed_1 (hZ : ZRN (ztb (tb_X7_cardNamed E d mc ms)) cut G R T Z) (f : Nat) (L : ZLV) (st : List Value) (σ : ZHp) (n k w : Nat) : Z (f + 1) 1 L st σ n k w = s_getf 6 0 4 L st σ n k w (zk1 cut G (Z f)) G R T := zrs hZ rfl f L st σ n k w
theorem f_X7_cardNamed_4 (hZ : ZRN (ztb (tb_X7_cardNamed E d mc ms)) cut G R T Z) (f : Nat) (L : ZLV) (st : List Value) (σ : ZHp) (n k w : Nat) : Z (f + 1) 4 L st σ n k w = s_aload 0 5 L st σ n k w (zk1 cut G (Z f)) G R T := zrs hZ rfl f L st σ n k w
theorem f_X7_cardNamed_5 (hZ : ZRN (ztb (tb_X7_cardNamed E d mc ms)) cut G R T Z) (f : Nat) (L : ZLV) (st : List Value) (σ : ZHp) (n k w : Nat) : Z (f + 1) 5 L st σ n k w = s_getf 6 2 8 L st σ n k w (zk1 cut G (Z f)) G R T := zrs hZ rfl f L st σ n k w
theorem f_X7_cardNamed_8 (hZ : ZRN (ztb (tb_X7_cardNamed E d mc ms)) cut G R T Z) (f : Nat) (L : ZLV) (st : List Value) (σ : ZHp) (n k w : Nat) : Z (f + 1) 8 L st σ n k w = s_getf 5 0 11 L st σ n k w (zk1 cut G (Z f)) G R T := zrs hZ rfl f L st σ n k w
theorem f_X7_cardNamed_11 (hZ : ZRN (ztb (tb_X7_cardNamed E d mc ms)) cut G R T Z) (f : Nat) (L : ZLV) (st : List Value) (σ : ZHp) (n k w : Nat) : Z (f + 1) 11 L st σ n k w = s_lload 1 12 L st σ n k w (zk1 cut G (Z f)) G R T := zrs hZ rfl f L st σ n k w
theorem f_X7_cardNamed_12 (hZ : ZRN (ztb (tb_X7_cardNamed E d mc ms)) cut G R T Z) (f : Nat) (L : ZLV) (st : List Value) (σ : ZHp) (n k w : Nat) : Z (f + 1) 12 L st σ n k w = s_callS E d mc ms MX7_find 3 15 L st σ n k w (zk1 cut G (Z f)) G R T := zrs hZ rfl f L st σ n k w
theorem f_X7_cardNamed_15 (hZ : ZRN (ztb (tb_X7_cardNamed E d mc ms)) cut G R T Z) (f : Nat) (L : ZLV) (st : List Value) (σ : ZHp) (n k w : Nat) : Z (f + 1) 15 L st σ n k w = s_istore 4 17 L st σ n k w (zk1 cut G (Z f)) G R T := zrs hZ rfl f L st σ n k w
theorem f_X7_cardNamed_17 (hZ : ZRN (ztb (tb_X7_cardNamed E d mc ms)) cut G R T Z) (f : Nat) (L : ZLV) (st : List Value) (σ : ZHp) (n k w : Nat) : Z (f + 1) 17 L st σ n k w = s_iload 4 19 L st σ n k w (zk1 cut G (Z f)) G R T := zrs hZ rfl f L st σ n k w
theorem f_X7_cardNamed_19 (hZ : ZRN (ztb (tb_X7_cardNamed E d mc ms)) cut G R T Z) (f : Nat) (L : ZLV) (st : List Value) (σ : ZHp) (n k w : Nat) : Z (f + 1) 19 L st σ n k w = s_const (.int (-1)) 20 L st σ n k w (zk1 cut G (Z f)) G R T := zrs hZ rfl f L st σ n k w
theorem f_X7_cardNamed_20 (hZ : ZRN (ztb (tb_X7_cardNamed E d mc ms)) cut G R T Z) (f : Nat) (L : ZLV) (st : List Value) (σ : ZHp) (n k w : Nat) : Z (f + 1) 20 L st σ n k w = s_icmp_ne 29 23 L st σ n k w (zk1 cut G (Z f)) G R T := zrs hZ rfl f L st σ n k w
theorem f_X7_cardNamed_23 (hZ : ZRN (ztb (tb_X7_cardNamed E d mc ms)) cut G R T Z) (f : Nat) (L : ZLV) (st : List Value) (σ : ZHp) (n k w : Nat) : Z (f + 1) 23 L st σ n k w = s_aload 0 24 L st σ n k w (zk1 cut G (Z f)) G R T := zrs hZ rfl f L st σ n k w
theorem f_X7_cardNamed_24 (hZ : ZRN (ztb (tb_X7_cardNamed E d mc ms)) cut G R T Z) (f : Nat) (L : ZLV) (st : List Value) (σ : ZHp) (n k w : Nat) : Z (f + 1) 24 L st σ n k w = s_const (.int (3)) 25 L st σ n k w (zk1 cut G (Z f)) G R T := zrs hZ rfl f L st σ n k w
theorem f_X7_cardNamed_25 (hZ : ZRN (ztb (tb_X7_cardNamed E d mc ms)) cut G R T Z) (f : Nat) (L : ZLV) (st : List Value) (σ : ZHp) (n k w : Nat) : Z (f + 1) 25 L st σ n k w = s_iload 3 26 L st σ n k w (zk1 cut G (Z f)) G R T := zrs hZ rfl f L st σ n k w
theorem f_X7_cardNamed_26 (hZ : ZRN (ztb (tb_X7_cardNamed E d mc ms)) cut G R T Z) (f : Nat) (L : ZLV) (st : List Value) (σ : ZHp) (n k w : Nat) : Z (f + 1) 26 L st σ n k w = s_callV E d mc ms 6 MX7_fault 2 29 L st σ n k w (zk1 cut G (Z f)) G R T := zrs hZ rfl f L st σ n k w
theorem f_X7_cardNamed_29 (hZ : ZRN (ztb (tb_X7_cardNamed E d mc ms)) cut G R T Z) (f : Nat) (L : ZLV) (st : List Value) (σ : ZHp) (n k w : Nat) : Z (f + 1) 29 L st σ n k w = s_iload 4 31 L st σ n k w (zk1 cut G (Z f)) G R T := zrs hZ rfl f L st σ n k w
theorem f_X7_cardNamed_31 (hZ : ZRN (ztb (tb_X7_cardNamed E d mc ms)) cut G R T Z) (f : Nat) (L : ZLV) (st : List Value) (σ : ZHp) (n k w : Nat) : Z (f + 1) 31 L st σ n k w = s_ireturn L st σ n k w (zk1 cut G (Z f)) G R T := zrs hZ rfl f L st σ n k w
theorem f_X7_merchantNamed_0 (hZ : ZRN (ztb (tb_X7_merchantNamed E d mc ms)) cut G R T Z) (f : Nat) (L : ZLV) (st : List Value) (σ : ZHp) (n k w : Nat) : Z (f + 1) 0 L st σ n k w = s_aload 0 1 L st σ n k w (zk1 cut G (Z f)) G R T := zrs hZ rfl f L st σ n k w
theorem f_X7_merchantNamed_1 (hZ : ZRN (ztb (tb_X7_merchantNamed E d mc ms)) cut G R T Z) (f : Nat) (L : ZLV) (st : List Value) (σ : ZHp) (n k w : Nat) : Z (f + 1) 1 L st σ n k w = s_getf 6 1 4 L st σ n k w (zk1 cut G (Z f)) G R T := zrs hZ rfl f L st σ n k w
theorem f_X7_merchantNamed_4 (hZ : ZRN (ztb (tb_X7_merchantNamed E d mc ms)) cut G R T Z) (f : Nat) (L : ZLV) (st : List Value) (σ : ZHp) (n k w : Nat) : Z (f + 1) 4 L st σ n k w = s_aload 0 5 L st σ n k w (zk1 cut G (Z f)) G R T := zrs hZ rfl f L st σ n k w
theorem f_X7_merchantNamed_5 (hZ : ZRN (ztb (tb_X7_merchantNamed E d mc ms)) cut G R T Z) (f : Nat) (L : ZLV) (st : List Value) (σ : ZHp) (n k w : Nat) : Z (f + 1) 5 L st σ n k w = s_getf 6 2 8 L st σ n k w (zk1 cut G (Z f)) G R T := zrs hZ rfl f L st σ n k w
theorem f_X7_merchantNamed_8 (hZ : ZRN (ztb (tb_X7_merchantNamed E d mc ms)) cut G R T Z) (f : Nat) (L : ZLV) (st : List Value) (σ : ZHp) (n k w : Nat) : Z (f + 1) 8 L st σ n k w = s_getf 5 1 11 L st σ n k w (zk1 cut G (Z f)) G R T := zrs hZ rfl f L st σ n k w
theorem f_X7_merchantNamed_11 (hZ : ZRN (ztb (tb_X7_merchantNamed E d mc ms)) cut G R T Z) (f : Nat) (L : ZLV) (st : List Value) (σ : ZHp) (n k w : Nat) : Z (f + 1) 11 L st σ n k w = s_lload 1 12 L st σ n k w (zk1 cut G (Z f)) G R T := zrs hZ rfl f L st σ n k w
theorem f_X7_merchantNamed_12 (hZ : ZRN (ztb (tb_X7_merchantNamed E d mc ms)) cut G R T Z) (f : Nat) (L : ZLV) (st : List Value) (σ : ZHp) (n k w : Nat) : Z (f + 1) 12 L st σ n k w = s_callS E d mc ms MX7_find 3 15 L st σ n k w (zk1 cut G (Z f)) G R T := zrs hZ rfl f L st σ n k w
theorem f_X7_merchantNamed_15 (hZ : ZRN (ztb (tb_X7_merchantNamed E d mc ms)) cut G R T Z) (f : Nat) (L : ZLV) (st : List Value) (σ : ZHp) (n k w : Nat) : Z (f + 1) 15 L st σ n k w = s_istore 4 17 L st σ n k w (zk1 cut G (Z f)) G R T := zrs hZ rfl f L st σ n k w
theorem f_X7_merchantNamed_17 (hZ : ZRN (ztb (tb_X7_merchantNamed E d mc ms)) cut G R T Z) (f : Nat) (L : ZLV) (st : List Value) (σ : ZHp) (n k w : Nat) : Z (f + 1) 17 L st σ n k w = s_iload 4 19 L st σ n k w (zk1 cut G (Z f)) G R T := zrs hZ rfl f L st σ n k w
theorem f_X7_merchantNamed_19 (hZ : ZRN (ztb (tb_X7_merchantNamed E d mc ms)) cut G R T Z) (f : Nat) (L : ZLV) (st : List Value) (σ : ZHp) (n k w : Nat) : Z (f + 1) 19 L st σ n k w = s_const (.int (-1)) 20 L st σ n k w (zk1 cut G (Z f)) G R T := zrs hZ rfl f L st σ n k w
theorem f_X7_merchantNamed_20 (hZ : ZRN (ztb (tb_X7_merchantNamed E d mc ms)) cut G R T Z) (f : Nat) (L : ZLV) (st : List Value) (σ : ZHp) (n k w : Nat) : Z (f + 1) 20 L st σ n k w = s_icmp_ne 29 23 L st σ n k w (zk1 cut G (Z f)) G R T := zrs hZ rfl f L st σ n k w
theorem f_X7_merchantNamed_23 (hZ : ZRN (ztb (tb_X7_merchantNamed E d mc ms)) cut G R T Z) (f : Nat) (L : ZLV) (st : List Value) (σ : ZHp) (n k w : Nat) : Z (f + 1) 23 L st σ n k w = s_aload 0 24 L st σ n k w (zk1 cut G (Z f)) G R T := zrs hZ rfl f L st σ n k w
theorem f_X7_merchantNamed_24 (hZ : ZRN (ztb (tb_X7_merchantNamed E d mc ms)) cut G R T Z) (f : Nat) (L : ZLV) (st : List Value) (σ : ZHp) (n k w : Nat) : Z (f + 1) 24 L st σ n k w = s_const (.int (3)) 25 L st σ n k w (zk1 cut G (Z f)) G R T := zrs hZ rfl f L st σ n k w
theorem f_X7_merchantNamed_25 (hZ : ZRN (ztb (tb_X7_merchantNamed E d mc ms)) cut G R T Z) (f : Nat) (L : ZLV) (st : List Value) (σ : ZHp) (n k w : Nat) : Z (f + 1) 25 L st σ n k w = s_iload 3 26 L st σ n k w (zk1 cut G (Z f)) G R T := zrs hZ rfl f L st σ n k w
theorem f_X7_merchantNamed_26 (hZ : ZRN (ztb (tb_X7_merchantNamed E d mc ms)) cut G R T Z) (f : Nat) (L : ZLV) (st : List Value) (σ : ZHp) (n k w : Nat) : Z (f + 1) 26 L st σ n k w = s_callV E d mc ms 6 MX7_fault 2 29 L st σ n k w (zk1 cut G (Z f)) G R T := zrs hZ rfl f L st σ n k w
theorem f_X7_merchantNamed_29 (hZ : ZRN (ztb (tb_X7_merchantNamed E d mc ms)) cut G R T Z) (f : Nat) (L : ZLV) (st : List Value) (σ : ZHp) (n k w : Nat) : Z (f + 1) 29 L st σ n k w = s_iload 4 31 L st σ n k w (zk1 cut G (Z f)) G R T := zrs hZ rfl f L st σ n k w
theorem f_X7_merchantNamed_31 (hZ : ZRN (ztb (tb_X7_merchantNamed E d mc ms)) cut G R T Z) (f : Nat) (L : ZLV) (st : List Value) (σ : ZHp) (n k w : Nat) : Z (f + 1) 31 L st σ n k w = s_ireturn L st σ n k w (zk1 cut G (Z f)) G R T := zrs hZ rfl f L st σ n k w
theorem f_X7_writeDeed_0 (hZ : ZRN (ztb (tb_X7_writeDeed E d mc ms)) cut G R T Z) (f : Nat) (L : ZLV) (st : List Value) (σ : ZHp) (n k w : Nat) : Z (f + 1) 0 L st σ n k w = s_aload 0 1 L st σ n k w (zk1 cut G (Z f)) G R T := zrs hZ rfl f L st σ n k w
theorem f_X7_writeDeed_1 (hZ : ZRN (ztb (tb_X7_writeDeed E d mc ms)) cut G R T Z) (f : Nat) (L : ZLV) (st : List Value) (σ : ZHp) (n k w : Nat) : Z (f + 1) 1 L st σ n k w = s_getf 6 2 4 L st σ n k w (zk1 cut G (Z f)) G R T := zrs hZ rfl f L st σ n k w
theorem f_X7_writeDeed_4 (hZ : ZRN (ztb (tb_X7_writeDeed E d mc ms)) cut G R T Z) (f : Nat) (L : ZLV) (st : List Value) (σ : ZHp) (n k w : Nat) : Z (f + 1) 4 L st σ n k w = s_getf 5 0 7 L st σ n k w (zk1 cut G (Z f)) G R T := zrs hZ rfl f L st σ n k w
theorem f_X7_writeDeed_7 (hZ : ZRN (ztb (tb_X7_writeDeed E d mc ms)) cut G R T Z) (f : Nat) (L : ZLV) (st : List Value) (σ : ZHp) (n k w : Nat) : Z (f + 1) 7 L st σ n k w = s_const (.int (1)) 8 L st σ n k w (zk1 cut G (Z f)) G R T := zrs hZ rfl f L st σ n k w
theorem f_X7_writeDeed_8 (hZ : ZRN (ztb (tb_X7_writeDeed E d mc ms)) cut G R T Z) (f : Nat) (L : ZLV) (st : List Value) (σ : ZHp) (n k w : Nat) : Z (f + 1) 8 L st σ n k w = s_isub 9 L st σ n k w (zk1 cut G (Z f)) G R T := zrs hZ rfl f L st σ n k w
theorem f_X7_writeDeed_9 (hZ : ZRN (ztb (tb_X7_writeDeed E d mc ms)) cut G R T Z) (f : Nat) (L : ZLV) (st : List Value) (σ : ZHp) (n k w : Nat) : Z (f + 1) 9 L st σ n k w = s_istore 3 10 L st σ n k w (zk1 cut G (Z f)) G R T := zrs hZ rfl f L st σ n k w
theorem f_X7_writeDeed_10 (hZ : ZRN (ztb (tb_X7_writeDeed E d mc ms)) cut G R T Z) (f : Nat) (L : ZLV) (st : List Value) (σ : ZHp) (n k w : Nat) : Z (f + 1) 10 L st σ n k w = s_aload 0 11 L st σ n k w (zk1 cut G (Z f)) G R T := zrs hZ rfl f L st σ n k w
theorem f_X7_writeDeed_11 (hZ : ZRN (ztb (tb_X7_writeDeed E d mc ms)) cut G R T Z) (f : Nat) (L : ZLV) (st : List Value) (σ : ZHp) (n k w : Nat) : Z (f + 1) 11 L st σ n k w = s_getf 6 2 14 L st σ n k w (zk1 cut G (Z f)) G R T := zrs hZ rfl f L st σ n k w
theorem f_X7_writeDeed_14 (hZ : ZRN (ztb (tb_X7_writeDeed E d mc ms)) cut G R T Z) (f : Nat) (L : ZLV) (st : List Value) (σ : ZHp) (n k w : Nat) : Z (f + 1) 14 L st σ n k w = s_getf 5 7 17 L st σ n k w (zk1 cut G (Z f)) G R T := zrs hZ rfl f L st σ n k w
theorem f_X7_writeDeed_17 (hZ : ZRN (ztb (tb_X7_writeDeed E d mc ms)) cut G R T Z) (f : Nat) (L : ZLV) (st : List Value) (σ : ZHp) (n k w : Nat) : Z (f + 1) 17 L st σ n k w = s_iload 3 18 L st σ n k w (zk1 cut G (Z f)) G R T := zrs hZ rfl f L st σ n k w
theorem f_X7_writeDeed_18 (hZ : ZRN (ztb (tb_X7_writeDeed E d mc ms)) cut G R T Z) (f : Nat) (L : ZLV) (st : List Value) (σ : ZHp) (n k w : Nat) : Z (f + 1) 18 L st σ n k w = s_callV E d mc ms 4 MX5_get 1 21 L st σ n k w (zk1 cut G (Z f)) G R T := zrs hZ rfl f L st σ n k w
theorem f_X7_writeDeed_21 (hZ : ZRN (ztb (tb_X7_writeDeed E d mc ms)) cut G R T Z) (f : Nat) (L : ZLV) (st : List Value) (σ : ZHp) (n k w : Nat) : Z (f + 1) 21 L st σ n k w = s_istore 4 23 L st σ n k w (zk1 cut G (Z f)) G R T := zrs hZ rfl f L st σ n k w
theorem f_X7_writeDeed_23 (hZ : ZRN (ztb (tb_X7_writeDeed E d mc ms)) cut G R T Z) (f : Nat) (L : ZLV) (st : List Value) (σ : ZHp) (n k w : Nat) : Z (f + 1) 23 L st σ n k w = s_iload 4 25 L st σ n k w (zk1 cut G (Z f)) G R T := zrs hZ rfl f L st σ n k w
theorem f_X7_writeDeed_25 (hZ : ZRN (ztb (tb_X7_writeDeed E d mc ms)) cut G R T Z) (f : Nat) (L : ZLV) (st : List Value) (σ : ZHp) (n k w : Nat) : Z (f + 1) 25 L st σ n k w = s_const (.int (4)) 26 L st σ n k w (zk1 cut G (Z f)) G R T := zrs hZ rfl f L st σ n k w
theorem f_X7_writeDeed_26 (hZ : ZRN (ztb (tb_X7_writeDeed E d mc ms)) cut G R T Z) (f : Nat) (L : ZLV) (st : List Value) (σ : ZHp) (n k w : Nat) : Z (f + 1) 26 L st σ n k w = s_icmp_lt 35 29 L st σ n k w (zk1 cut G (Z f)) G R T := zrs hZ rfl f L st σ n k w
theorem f_X7_writeDeed_29 (hZ : ZRN (ztb (tb_X7_writeDeed E d mc ms)) cut G R T Z) (f : Nat) (L : ZLV) (st : List Value) (σ : ZHp) (n k w : Nat) : Z (f + 1) 29 L st σ n k w = s_aload 0 30 L st σ n k w (zk1 cut G (Z f)) G R T := zrs hZ rfl f L st σ n k w
theorem f_X7_writeDeed_30 (hZ : ZRN (ztb (tb_X7_writeDeed E d mc ms)) cut G R T Z) (f : Nat) (L : ZLV) (st : List Value) (σ : ZHp) (n k w : Nat) : Z (f + 1) 30 L st σ n k w = s_const (.int (4)) 31 L st σ n k w (zk1 cut G (Z f)) G R T := zrs hZ rfl f L st σ n k w
theorem f_X7_writeDeed_31 (hZ : ZRN (ztb (tb_X7_writeDeed E d mc ms)) cut G R T Z) (f : Nat) (L : ZLV) (st : List Value) (σ : ZHp) (n k w : Nat) : Z (f + 1) 31 L st σ n k w = s_iload 2 32 L st σ n k w (zk1 cut G (Z f)) G R T := zrs hZ rfl f L st σ n k w
theorem f_X7_writeDeed_32 (hZ : ZRN (ztb (tb_X7_writeDeed E d mc ms)) cut G R T Z) (f : Nat) (L : ZLV) (st : List Value) (σ : ZHp) (n k w : Nat) : Z (f + 1) 32 L st σ n k w = s_callV E d mc ms 6 MX7_fault 2 35 L st σ n k w (zk1 cut G (Z f)) G R T := zrs hZ rfl f L st σ n k w
theorem f_X7_writeDeed_35 (hZ : ZRN (ztb (tb_X7_writeDeed E d mc ms)) cut G R T Z) (f : Nat) (L : ZLV) (st : List Value) (σ : ZHp) (n k w : Nat) : Z (f + 1) 35 L st σ n k w = s_aload 0 36 L st σ n k w (zk1 cut G (Z f)) G R T := zrs hZ rfl f L st σ n k w
theorem f_X7_writeDeed_36 (hZ : ZRN (ztb (tb_X7_writeDeed E d mc ms)) cut G R T Z) (f : Nat) (L : ZLV) (st : List Value) (σ : ZHp) (n k w : Nat) : Z (f + 1) 36 L st σ n k w = s_getf 6 3 39 L st σ n k w (zk1 cut G (Z f)) G R T := zrs hZ rfl f L st σ n k w
theorem f_X7_writeDeed_39 (hZ : ZRN (ztb (tb_X7_writeDeed E d mc ms)) cut G R T Z) (f : Nat) (L : ZLV) (st : List Value) (σ : ZHp) (n k w : Nat) : Z (f + 1) 39 L st σ n k w = s_if_ne 81 42 L st σ n k w (zk1 cut G (Z f)) G R T := zrs hZ rfl f L st σ n k w
theorem f_X7_writeDeed_42 (hZ : ZRN (ztb (tb_X7_writeDeed E d mc ms)) cut G R T Z) (f : Nat) (L : ZLV) (st : List Value) (σ : ZHp) (n k w : Nat) : Z (f + 1) 42 L st σ n k w = s_aload 0 43 L st σ n k w (zk1 cut G (Z f)) G R T := zrs hZ rfl f L st σ n k w
theorem f_X7_writeDeed_43 (hZ : ZRN (ztb (tb_X7_writeDeed E d mc ms)) cut G R T Z) (f : Nat) (L : ZLV) (st : List Value) (σ : ZHp) (n k w : Nat) : Z (f + 1) 43 L st σ n k w = s_getf 6 2 46 L st σ n k w (zk1 cut G (Z f)) G R T := zrs hZ rfl f L st σ n k w
theorem f_X7_writeDeed_46 (hZ : ZRN (ztb (tb_X7_writeDeed E d mc ms)) cut G R T Z) (f : Nat) (L : ZLV) (st : List Value) (σ : ZHp) (n k w : Nat) : Z (f + 1) 46 L st σ n k w = s_iload 3 47 L st σ n k w (zk1 cut G (Z f)) G R T := zrs hZ rfl f L st σ n k w
theorem f_X7_writeDeed_47 (hZ : ZRN (ztb (tb_X7_writeDeed E d mc ms)) cut G R T Z) (f : Nat) (L : ZLV) (st : List Value) (σ : ZHp) (n k w : Nat) : Z (f + 1) 47 L st σ n k w = s_const (.int (4)) 48 L st σ n k w (zk1 cut G (Z f)) G R T := zrs hZ rfl f L st σ n k w
theorem f_X7_writeDeed_48 (hZ : ZRN (ztb (tb_X7_writeDeed E d mc ms)) cut G R T Z) (f : Nat) (L : ZLV) (st : List Value) (σ : ZHp) (n k w : Nat) : Z (f + 1) 48 L st σ n k w = s_imul 49 L st σ n k w (zk1 cut G (Z f)) G R T := zrs hZ rfl f L st σ n k w
theorem f_X7_writeDeed_49 (hZ : ZRN (ztb (tb_X7_writeDeed E d mc ms)) cut G R T Z) (f : Nat) (L : ZLV) (st : List Value) (σ : ZHp) (n k w : Nat) : Z (f + 1) 49 L st σ n k w = s_iload 4 51 L st σ n k w (zk1 cut G (Z f)) G R T := zrs hZ rfl f L st σ n k w
theorem f_X7_writeDeed_51 (hZ : ZRN (ztb (tb_X7_writeDeed E d mc ms)) cut G R T Z) (f : Nat) (L : ZLV) (st : List Value) (σ : ZHp) (n k w : Nat) : Z (f + 1) 51 L st σ n k w = s_iadd 52 L st σ n k w (zk1 cut G (Z f)) G R T := zrs hZ rfl f L st σ n k w
theorem f_X7_writeDeed_52 (hZ : ZRN (ztb (tb_X7_writeDeed E d mc ms)) cut G R T Z) (f : Nat) (L : ZLV) (st : List Value) (σ : ZHp) (n k w : Nat) : Z (f + 1) 52 L st σ n k w = s_aload 1 53 L st σ n k w (zk1 cut G (Z f)) G R T := zrs hZ rfl f L st σ n k w
theorem f_X7_writeDeed_53 (hZ : ZRN (ztb (tb_X7_writeDeed E d mc ms)) cut G R T Z) (f : Nat) (L : ZLV) (st : List Value) (σ : ZHp) (n k w : Nat) : Z (f + 1) 53 L st σ n k w = s_aload 0 54 L st σ n k w (zk1 cut G (Z f)) G R T := zrs hZ rfl f L st σ n k w
theorem f_X7_writeDeed_54 (hZ : ZRN (ztb (tb_X7_writeDeed E d mc ms)) cut G R T Z) (f : Nat) (L : ZLV) (st : List Value) (σ : ZHp) (n k w : Nat) : Z (f + 1) 54 L st σ n k w = s_getf 6 2 57 L st σ n k w (zk1 cut G (Z f)) G R T := zrs hZ rfl f L st σ n k w
theorem f_X7_writeDeed_57 (hZ : ZRN (ztb (tb_X7_writeDeed E d mc ms)) cut G R T Z) (f : Nat) (L : ZLV) (st : List Value) (σ : ZHp) (n k w : Nat) : Z (f + 1) 57 L st σ n k w = s_getf 5 14 60 L st σ n k w (zk1 cut G (Z f)) G R T := zrs hZ rfl f L st σ n k w
theorem f_X7_writeDeed_60 (hZ : ZRN (ztb (tb_X7_writeDeed E d mc ms)) cut G R T Z) (f : Nat) (L : ZLV) (st : List Value) (σ : ZHp) (n k w : Nat) : Z (f + 1) 60 L st σ n k w = s_callV E d mc ms 0 MX1_size 0 63 L st σ n k w (zk1 cut G (Z f)) G R T := zrs hZ rfl f L st σ n k w
theorem f_X7_writeDeed_63 (hZ : ZRN (ztb (tb_X7_writeDeed E d mc ms)) cut G R T Z) (f : Nat) (L : ZLV) (st : List Value) (σ : ZHp) (n k w : Nat) : Z (f + 1) 63 L st σ n k w = s_callV E d mc ms 5 MX6_setDeed 3 66 L st σ n k w (zk1 cut G (Z f)) G R T := zrs hZ rfl f L st σ n k w
theorem f_X7_writeDeed_66 (hZ : ZRN (ztb (tb_X7_writeDeed E d mc ms)) cut G R T Z) (f : Nat) (L : ZLV) (st : List Value) (σ : ZHp) (n k w : Nat) : Z (f + 1) 66 L st σ n k w = s_aload 0 67 L st σ n k w (zk1 cut G (Z f)) G R T := zrs hZ rfl f L st σ n k w
theorem f_X7_writeDeed_67 (hZ : ZRN (ztb (tb_X7_writeDeed E d mc ms)) cut G R T Z) (f : Nat) (L : ZLV) (st : List Value) (σ : ZHp) (n k w : Nat) : Z (f + 1) 67 L st σ n k w = s_getf 6 2 70 L st σ n k w (zk1 cut G (Z f)) G R T := zrs hZ rfl f L st σ n k w
theorem f_X7_writeDeed_70 (hZ : ZRN (ztb (tb_X7_writeDeed E d mc ms)) cut G R T Z) (f : Nat) (L : ZLV) (st : List Value) (σ : ZHp) (n k w : Nat) : Z (f + 1) 70 L st σ n k w = s_getf 5 7 73 L st σ n k w (zk1 cut G (Z f)) G R T := zrs hZ rfl f L st σ n k w
theorem f_X7_writeDeed_73 (hZ : ZRN (ztb (tb_X7_writeDeed E d mc ms)) cut G R T Z) (f : Nat) (L : ZLV) (st : List Value) (σ : ZHp) (n k w : Nat) : Z (f + 1) 73 L st σ n k w = s_iload 3 74 L st σ n k w (zk1 cut G (Z f)) G R T := zrs hZ rfl f L st σ n k w
theorem f_X7_writeDeed_74 (hZ : ZRN (ztb (tb_X7_writeDeed E d mc ms)) cut G R T Z) (f : Nat) (L : ZLV) (st : List Value) (σ : ZHp) (n k w : Nat) : Z (f + 1) 74 L st σ n k w = s_iload 4 76 L st σ n k w (zk1 cut G (Z f)) G R T := zrs hZ rfl f L st σ n k w
theorem f_X7_writeDeed_76 (hZ : ZRN (ztb (tb_X7_writeDeed E d mc ms)) cut G R T Z) (f : Nat) (L : ZLV) (st : List Value) (σ : ZHp) (n k w : Nat) : Z (f + 1) 76 L st σ n k w = s_const (.int (1)) 77 L st σ n k w (zk1 cut G (Z f)) G R T := zrs hZ rfl f L st σ n k w
theorem f_X7_writeDeed_77 (hZ : ZRN (ztb (tb_X7_writeDeed E d mc ms)) cut G R T Z) (f : Nat) (L : ZLV) (st : List Value) (σ : ZHp) (n k w : Nat) : Z (f + 1) 77 L st σ n k w = s_iadd 78 L st σ n k w (zk1 cut G (Z f)) G R T := zrs hZ rfl f L st σ n k w
theorem f_X7_writeDeed_78 (hZ : ZRN (ztb (tb_X7_writeDeed E d mc ms)) cut G R T Z) (f : Nat) (L : ZLV) (st : List Value) (σ : ZHp) (n k w : Nat) : Z (f + 1) 78 L st σ n k w = s_callV E d mc ms 4 MX5_set 2 81 L st σ n k w (zk1 cut G (Z f)) G R T := zrs hZ rfl f L st σ n k w
theorem f_X7_writeDeed_81 (hZ : ZRN (ztb (tb_X7_writeDeed E d mc ms)) cut G R T Z) (f : Nat) (L : ZLV) (st : List Value) (σ : ZHp) (n k w : Nat) : Z (f + 1) 81 L st σ n k w = s_return L st σ n k w (zk1 cut G (Z f)) G R T := zrs hZ rfl f L st σ n k w
theorem f_X7_writeOrder_0 (hZ : ZRN (ztb (tb_X7_writeOrder E d mc ms)) cut G R T Z) (f : Nat) (L : ZLV) (st : List Value) (σ : ZHp) (n k w : Nat) : Z (f + 1) 0 L st σ n k w = s_aload 0 1 L st σ n k w (zk1 cut G (Z f)) G R T := zrs hZ rfl f L st σ n k w
theorem f_X7_writeOrder_1 (hZ : ZRN (ztb (tb_X7_writeOrder E d mc ms)) cut G R T Z) (f : Nat) (L : ZLV) (st : List Value) (σ : ZHp) (n k w : Nat) : Z (f + 1) 1 L st σ n k w = s_getf 6 2 4 L st σ n k w (zk1 cut G (Z f)) G R T := zrs hZ rfl f L st σ n k w
theorem f_X7_writeOrder_4 (hZ : ZRN (ztb (tb_X7_writeOrder E d mc ms)) cut G R T Z) (f : Nat) (L : ZLV) (st : List Value) (σ : ZHp) (n k w : Nat) : Z (f + 1) 4 L st σ n k w = s_getf 5 2 7 L st σ n k w (zk1 cut G (Z f)) G R T := zrs hZ rfl f L st σ n k w
theorem f_X7_writeOrder_7 (hZ : ZRN (ztb (tb_X7_writeOrder E d mc ms)) cut G R T Z) (f : Nat) (L : ZLV) (st : List Value) (σ : ZHp) (n k w : Nat) : Z (f + 1) 7 L st σ n k w = s_const (.int (16)) 9 L st σ n k w (zk1 cut G (Z f)) G R T := zrs hZ rfl f L st σ n k w
theorem f_X7_writeOrder_9 (hZ : ZRN (ztb (tb_X7_writeOrder E d mc ms)) cut G R T Z) (f : Nat) (L : ZLV) (st : List Value) (σ : ZHp) (n k w : Nat) : Z (f + 1) 9 L st σ n k w = s_icmp_lt 18 12 L st σ n k w (zk1 cut G (Z f)) G R T := zrs hZ rfl f L st σ n k w
theorem f_X7_writeOrder_12 (hZ : ZRN (ztb (tb_X7_writeOrder E d mc ms)) cut G R T Z) (f : Nat) (L : ZLV) (st : List Value) (σ : ZHp) (n k w : Nat) : Z (f + 1) 12 L st σ n k w = s_aload 0 13 L st σ n k w (zk1 cut G (Z f)) G R T := zrs hZ rfl f L st σ n k w
theorem f_X7_writeOrder_13 (hZ : ZRN (ztb (tb_X7_writeOrder E d mc ms)) cut G R T Z) (f : Nat) (L : ZLV) (st : List Value) (σ : ZHp) (n k w : Nat) : Z (f + 1) 13 L st σ n k w = s_const (.int (4)) 14 L st σ n k w (zk1 cut G (Z f)) G R T := zrs hZ rfl f L st σ n k w
theorem f_X7_writeOrder_14 (hZ : ZRN (ztb (tb_X7_writeOrder E d mc ms)) cut G R T Z) (f : Nat) (L : ZLV) (st : List Value) (σ : ZHp) (n k w : Nat) : Z (f + 1) 14 L st σ n k w = s_iload 1 15 L st σ n k w (zk1 cut G (Z f)) G R T := zrs hZ rfl f L st σ n k w
theorem f_X7_writeOrder_15 (hZ : ZRN (ztb (tb_X7_writeOrder E d mc ms)) cut G R T Z) (f : Nat) (L : ZLV) (st : List Value) (σ : ZHp) (n k w : Nat) : Z (f + 1) 15 L st σ n k w = s_callV E d mc ms 6 MX7_fault 2 18 L st σ n k w (zk1 cut G (Z f)) G R T := zrs hZ rfl f L st σ n k w
theorem f_X7_writeOrder_18 (hZ : ZRN (ztb (tb_X7_writeOrder E d mc ms)) cut G R T Z) (f : Nat) (L : ZLV) (st : List Value) (σ : ZHp) (n k w : Nat) : Z (f + 1) 18 L st σ n k w = s_aload 0 19 L st σ n k w (zk1 cut G (Z f)) G R T := zrs hZ rfl f L st σ n k w
theorem f_X7_writeOrder_19 (hZ : ZRN (ztb (tb_X7_writeOrder E d mc ms)) cut G R T Z) (f : Nat) (L : ZLV) (st : List Value) (σ : ZHp) (n k w : Nat) : Z (f + 1) 19 L st σ n k w = s_getf 6 3 22 L st σ n k w (zk1 cut G (Z f)) G R T := zrs hZ rfl f L st σ n k w
theorem f_X7_writeOrder_22 (hZ : ZRN (ztb (tb_X7_writeOrder E d mc ms)) cut G R T Z) (f : Nat) (L : ZLV) (st : List Value) (σ : ZHp) (n k w : Nat) : Z (f + 1) 22 L st σ n k w = s_if_ne 56 25 L st σ n k w (zk1 cut G (Z f)) G R T := zrs hZ rfl f L st σ n k w
theorem f_X7_writeOrder_25 (hZ : ZRN (ztb (tb_X7_writeOrder E d mc ms)) cut G R T Z) (f : Nat) (L : ZLV) (st : List Value) (σ : ZHp) (n k w : Nat) : Z (f + 1) 25 L st σ n k w = s_aload 0 26 L st σ n k w (zk1 cut G (Z f)) G R T := zrs hZ rfl f L st σ n k w
theorem f_X7_writeOrder_26 (hZ : ZRN (ztb (tb_X7_writeOrder E d mc ms)) cut G R T Z) (f : Nat) (L : ZLV) (st : List Value) (σ : ZHp) (n k w : Nat) : Z (f + 1) 26 L st σ n k w = s_getf 6 2 29 L st σ n k w (zk1 cut G (Z f)) G R T := zrs hZ rfl f L st σ n k w
theorem f_X7_writeOrder_29 (hZ : ZRN (ztb (tb_X7_writeOrder E d mc ms)) cut G R T Z) (f : Nat) (L : ZLV) (st : List Value) (σ : ZHp) (n k w : Nat) : Z (f + 1) 29 L st σ n k w = s_getf 5 13 32 L st σ n k w (zk1 cut G (Z f)) G R T := zrs hZ rfl f L st σ n k w
theorem f_X7_writeOrder_32 (hZ : ZRN (ztb (tb_X7_writeOrder E d mc ms)) cut G R T Z) (f : Nat) (L : ZLV) (st : List Value) (σ : ZHp) (n k w : Nat) : Z (f + 1) 32 L st σ n k w = s_aload 0 33 L st σ n k w (zk1 cut G (Z f)) G R T := zrs hZ rfl f L st σ n k w
theorem f_X7_writeOrder_33 (hZ : ZRN (ztb (tb_X7_writeOrder E d mc ms)) cut G R T Z) (f : Nat) (L : ZLV) (st : List Value) (σ : ZHp) (n k w : Nat) : Z (f + 1) 33 L st σ n k w = s_getf 6 2 36 L st σ n k w (zk1 cut G (Z f)) G R T := zrs hZ rfl f L st σ n k w
theorem f_X7_writeOrder_36 (hZ : ZRN (ztb (tb_X7_writeOrder E d mc ms)) cut G R T Z) (f : Nat) (L : ZLV) (st : List Value) (σ : ZHp) (n k w : Nat) : Z (f + 1) 36 L st σ n k w = s_getf 5 2 39 L st σ n k w (zk1 cut G (Z f)) G R T := zrs hZ rfl f L st σ n k w
theorem f_X7_writeOrder_39 (hZ : ZRN (ztb (tb_X7_writeOrder E d mc ms)) cut G R T Z) (f : Nat) (L : ZLV) (st : List Value) (σ : ZHp) (n k w : Nat) : Z (f + 1) 39 L st σ n k w = s_const (.int (-1)) 40 L st σ n k w (zk1 cut G (Z f)) G R T := zrs hZ rfl f L st σ n k w
theorem f_X7_writeOrder_40 (hZ : ZRN (ztb (tb_X7_writeOrder E d mc ms)) cut G R T Z) (f : Nat) (L : ZLV) (st : List Value) (σ : ZHp) (n k w : Nat) : Z (f + 1) 40 L st σ n k w = s_callV E d mc ms 4 MX5_set 2 43 L st σ n k w (zk1 cut G (Z f)) G R T := zrs hZ rfl f L st σ n k w
theorem f_X7_writeOrder_43 (hZ : ZRN (ztb (tb_X7_writeOrder E d mc ms)) cut G R T Z) (f : Nat) (L : ZLV) (st : List Value) (σ : ZHp) (n k w : Nat) : Z (f + 1) 43 L st σ n k w = s_aload 0 44 L st σ n k w (zk1 cut G (Z f)) G R T := zrs hZ rfl f L st σ n k w
theorem f_X7_writeOrder_44 (hZ : ZRN (ztb (tb_X7_writeOrder E d mc ms)) cut G R T Z) (f : Nat) (L : ZLV) (st : List Value) (σ : ZHp) (n k w : Nat) : Z (f + 1) 44 L st σ n k w = s_getf 6 2 47 L st σ n k w (zk1 cut G (Z f)) G R T := zrs hZ rfl f L st σ n k w
theorem f_X7_writeOrder_47 (hZ : ZRN (ztb (tb_X7_writeOrder E d mc ms)) cut G R T Z) (f : Nat) (L : ZLV) (st : List Value) (σ : ZHp) (n k w : Nat) : Z (f + 1) 47 L st σ n k w = s_dup 48 L st σ n k w (zk1 cut G (Z f)) G R T := zrs hZ rfl f L st σ n k w
theorem f_X7_writeOrder_48 (hZ : ZRN (ztb (tb_X7_writeOrder E d mc ms)) cut G R T Z) (f : Nat) (L : ZLV) (st : List Value) (σ : ZHp) (n k w : Nat) : Z (f + 1) 48 L st σ n k w = s_getf 5 2 51 L st σ n k w (zk1 cut G (Z f)) G R T := zrs hZ rfl f L st σ n k w
theorem f_X7_writeOrder_51 (hZ : ZRN (ztb (tb_X7_writeOrder E d mc ms)) cut G R T Z) (f : Nat) (L : ZLV) (st : List Value) (σ : ZHp) (n k w : Nat) : Z (f + 1) 51 L st σ n k w = s_const (.int (1)) 52 L st σ n k w (zk1 cut G (Z f)) G R T := zrs hZ rfl f L st σ n k w
theorem f_X7_writeOrder_52 (hZ : ZRN (ztb (tb_X7_writeOrder E d mc ms)) cut G R T Z) (f : Nat) (L : ZLV) (st : List Value) (σ : ZHp) (n k w : Nat) : Z (f + 1) 52 L st σ n k w = s_iadd 53 L st σ n k w (zk1 cut G (Z f)) G R T := zrs hZ rfl f L st σ n k w
theorem f_X7_writeOrder_53 (hZ : ZRN (ztb (tb_X7_writeOrder E d mc ms)) cut G R T Z) (f : Nat) (L : ZLV) (st : List Value) (σ : ZHp) (n k w : Nat) : Z (f + 1) 53 L st σ n k w = s_putf 5 2 0 56 L st σ n k w (zk1 cut G (Z f)) G R T := zrs hZ rfl f L st σ n k w
theorem f_X7_writeOrder_56 (hZ : ZRN (ztb (tb_X7_writeOrder E d mc ms)) cut G R T Z) (f : Nat) (L : ZLV) (st : List Value) (σ : ZHp) (n k w : Nat) : Z (f + 1) 56 L st σ n k w = s_return L st σ n k w (zk1 cut G (Z f)) G R T := zrs hZ rfl f L st σ n k w
theorem f_X7_writeTest_0 (hZ : ZRN (ztb (tb_X7_writeTest E d mc ms)) cut G R T Z) (f : Nat) (L : ZLV) (st : List Value) (σ : ZHp) (n k w : Nat) : Z (f + 1) 0 L st σ n k w = s_aload 0 1 L st σ n k w (zk1 cut G (Z f)) G R T := zrs hZ rfl f L st σ n k w
theorem f_X7_writeTest_1 (hZ : ZRN (ztb (tb_X7_writeTest E d mc ms)) cut G R T Z) (f : Nat) (L : ZLV) (st : List Value) (σ : ZHp) (n k w : Nat) : Z (f + 1) 1 L st σ n k w = s_getf 6 3 4 L st σ n k w (zk1 cut G (Z f)) G R T := zrs hZ rfl f L st σ n k w
theorem f_X7_writeTest_4 (hZ : ZRN (ztb (tb_X7_writeTest E d mc ms)) cut G R T Z) (f : Nat) (L : ZLV) (st : List Value) (σ : ZHp) (n k w : Nat) : Z (f + 1) 4 L st σ n k w = s_if_ne 36 7 L st σ n k w (zk1 cut G (Z f)) G R T := zrs hZ rfl f L st σ n k w
theorem f_X7_writeTest_7 (hZ : ZRN (ztb (tb_X7_writeTest E d mc ms)) cut G R T Z) (f : Nat) (L : ZLV) (st : List Value) (σ : ZHp) (n k w : Nat) : Z (f + 1) 7 L st σ n k w = s_aload 0 8 L st σ n k w (zk1 cut G (Z f)) G R T := zrs hZ rfl f L st σ n k w
theorem f_X7_writeTest_8 (hZ : ZRN (ztb (tb_X7_writeTest E d mc ms)) cut G R T Z) (f : Nat) (L : ZLV) (st : List Value) (σ : ZHp) (n k w : Nat) : Z (f + 1) 8 L st σ n k w = s_getf 6 2 11 L st σ n k w (zk1 cut G (Z f)) G R T := zrs hZ rfl f L st σ n k w
theorem f_X7_writeTest_11 (hZ : ZRN (ztb (tb_X7_writeTest E d mc ms)) cut G R T Z) (f : Nat) (L : ZLV) (st : List Value) (σ : ZHp) (n k w : Nat) : Z (f + 1) 11 L st σ n k w = s_getf 5 13 14 L st σ n k w (zk1 cut G (Z f)) G R T := zrs hZ rfl f L st σ n k w
theorem f_X7_writeTest_14 (hZ : ZRN (ztb (tb_X7_writeTest E d mc ms)) cut G R T Z) (f : Nat) (L : ZLV) (st : List Value) (σ : ZHp) (n k w : Nat) : Z (f + 1) 14 L st σ n k w = s_aload 0 15 L st σ n k w (zk1 cut G (Z f)) G R T := zrs hZ rfl f L st σ n k w
theorem f_X7_writeTest_15 (hZ : ZRN (ztb (tb_X7_writeTest E d mc ms)) cut G R T Z) (f : Nat) (L : ZLV) (st : List Value) (σ : ZHp) (n k w : Nat) : Z (f + 1) 15 L st σ n k w = s_getf 6 2 18 L st σ n k w (zk1 cut G (Z f)) G R T := zrs hZ rfl f L st σ n k w
theorem f_X7_writeTest_18 (hZ : ZRN (ztb (tb_X7_writeTest E d mc ms)) cut G R T Z) (f : Nat) (L : ZLV) (st : List Value) (σ : ZHp) (n k w : Nat) : Z (f + 1) 18 L st σ n k w = s_getf 5 2 21 L st σ n k w (zk1 cut G (Z f)) G R T := zrs hZ rfl f L st σ n k w
theorem f_X7_writeTest_21 (hZ : ZRN (ztb (tb_X7_writeTest E d mc ms)) cut G R T Z) (f : Nat) (L : ZLV) (st : List Value) (σ : ZHp) (n k w : Nat) : Z (f + 1) 21 L st σ n k w = s_const (.int (1)) 22 L st σ n k w (zk1 cut G (Z f)) G R T := zrs hZ rfl f L st σ n k w
theorem f_X7_writeTest_22 (hZ : ZRN (ztb (tb_X7_writeTest E d mc ms)) cut G R T Z) (f : Nat) (L : ZLV) (st : List Value) (σ : ZHp) (n k w : Nat) : Z (f + 1) 22 L st σ n k w = s_isub 23 L st σ n k w (zk1 cut G (Z f)) G R T := zrs hZ rfl f L st σ n k w
theorem f_X7_writeTest_23 (hZ : ZRN (ztb (tb_X7_writeTest E d mc ms)) cut G R T Z) (f : Nat) (L : ZLV) (st : List Value) (σ : ZHp) (n k w : Nat) : Z (f + 1) 23 L st σ n k w = s_aload 0 24 L st σ n k w (zk1 cut G (Z f)) G R T := zrs hZ rfl f L st σ n k w
theorem f_X7_writeTest_24 (hZ : ZRN (ztb (tb_X7_writeTest E d mc ms)) cut G R T Z) (f : Nat) (L : ZLV) (st : List Value) (σ : ZHp) (n k w : Nat) : Z (f + 1) 24 L st σ n k w = s_getf 6 2 27 L st σ n k w (zk1 cut G (Z f)) G R T := zrs hZ rfl f L st σ n k w
theorem f_X7_writeTest_27 (hZ : ZRN (ztb (tb_X7_writeTest E d mc ms)) cut G R T Z) (f : Nat) (L : ZLV) (st : List Value) (σ : ZHp) (n k w : Nat) : Z (f + 1) 27 L st σ n k w = s_getf 5 14 30 L st σ n k w (zk1 cut G (Z f)) G R T := zrs hZ rfl f L st σ n k w
theorem f_X7_writeTest_30 (hZ : ZRN (ztb (tb_X7_writeTest E d mc ms)) cut G R T Z) (f : Nat) (L : ZLV) (st : List Value) (σ : ZHp) (n k w : Nat) : Z (f + 1) 30 L st σ n k w = s_callV E d mc ms 0 MX1_size 0 33 L st σ n k w (zk1 cut G (Z f)) G R T := zrs hZ rfl f L st σ n k w
theorem f_X7_writeTest_33 (hZ : ZRN (ztb (tb_X7_writeTest E d mc ms)) cut G R T Z) (f : Nat) (L : ZLV) (st : List Value) (σ : ZHp) (n k w : Nat) : Z (f + 1) 33 L st σ n k w = s_callV E d mc ms 4 MX5_set 2 36 L st σ n k w (zk1 cut G (Z f)) G R T := zrs hZ rfl f L st σ n k w
theorem f_X7_writeTest_36 (hZ : ZRN (ztb (tb_X7_writeTest E d mc ms)) cut G R T Z) (f : Nat) (L : ZLV) (st : List Value) (σ : ZHp) (n k w : Nat) : Z (f + 1) 36 L st σ n k w = s_return L st σ n k w (zk1 cut G (Z f)) G R T := zrs hZ rfl f L st σ n k w
theorem f_X7_fault_0 (hZ : ZRN (ztb (tb_X7_fault E d mc ms)) cut G R T Z) (f : Nat) (L : ZLV) (st : List Value) (σ : ZHp) (n k w : Nat) : Z (f + 1) 0 L st σ n k w = s_aload 0 1 L st σ n k w (zk1 cut G (Z f)) G R T := zrs hZ rfl f L st σ n k w
theorem f_X7_fault_1 (hZ : ZRN (ztb (tb_X7_fault E d mc ms)) cut G R T Z) (f : Nat) (L : ZLV) (st : List Value) (σ : ZHp) (n k w : Nat) : Z (f + 1) 1 L st σ n k w = s_getf 6 3 4 L st σ n k w (zk1 cut G (Z f)) G R T := zrs hZ rfl f L st σ n k w
theorem f_X7_fault_4 (hZ : ZRN (ztb (tb_X7_fault E d mc ms)) cut G R T Z) (f : Nat) (L : ZLV) (st : List Value) (σ : ZHp) (n k w : Nat) : Z (f + 1) 4 L st σ n k w = s_if_ne 17 7 L st σ n k w (zk1 cut G (Z f)) G R T := zrs hZ rfl f L st σ n k w
theorem f_X7_fault_7 (hZ : ZRN (ztb (tb_X7_fault E d mc ms)) cut G R T Z) (f : Nat) (L : ZLV) (st : List Value) (σ : ZHp) (n k w : Nat) : Z (f + 1) 7 L st σ n k w = s_aload 0 8 L st σ n k w (zk1 cut G (Z f)) G R T := zrs hZ rfl f L st σ n k w
theorem f_X7_fault_8 (hZ : ZRN (ztb (tb_X7_fault E d mc ms)) cut G R T Z) (f : Nat) (L : ZLV) (st : List Value) (σ : ZHp) (n k w : Nat) : Z (f + 1) 8 L st σ n k w = s_iload 1 9 L st σ n k w (zk1 cut G (Z f)) G R T := zrs hZ rfl f L st σ n k w
theorem f_X7_fault_9 (hZ : ZRN (ztb (tb_X7_fault E d mc ms)) cut G R T Z) (f : Nat) (L : ZLV) (st : List Value) (σ : ZHp) (n k w : Nat) : Z (f + 1) 9 L st σ n k w = s_putf 6 3 0 12 L st σ n k w (zk1 cut G (Z f)) G R T := zrs hZ rfl f L st σ n k w
theorem f_X7_fault_12 (hZ : ZRN (ztb (tb_X7_fault E d mc ms)) cut G R T Z) (f : Nat) (L : ZLV) (st : List Value) (σ : ZHp) (n k w : Nat) : Z (f + 1) 12 L st σ n k w = s_aload 0 13 L st σ n k w (zk1 cut G (Z f)) G R T := zrs hZ rfl f L st σ n k w
theorem f_X7_fault_13 (hZ : ZRN (ztb (tb_X7_fault E d mc ms)) cut G R T Z) (f : Nat) (L : ZLV) (st : List Value) (σ : ZHp) (n k w : Nat) : Z (f + 1) 13 L st σ n k w = s_iload 2 14 L st σ n k w (zk1 cut G (Z f)) G R T := zrs hZ rfl f L st σ n k w
theorem f_X7_fault_14 (hZ : ZRN (ztb (tb_X7_fault E d mc ms)) cut G R T Z) (f : Nat) (L : ZLV) (st : List Value) (σ : ZHp) (n k w : Nat) : Z (f + 1) 14 L st σ n k w = s_putf 6 4 0 17 L st σ n k w (zk1 cut G (Z f)) G R T := zrs hZ rfl f L st σ n k w
theorem f_X7_fault_17 (hZ : ZRN (ztb (tb_X7_fault E d mc ms)) cut G R T Z) (f : Nat) (L : ZLV) (st : List Value) (σ : ZHp) (n k w : Nat) : Z (f + 1) 17 L st σ n k w = s_return L st σ n k w (zk1 cut G (Z f)) G R T := zrs hZ rfl f L st σ n k w
theorem f_X7_addCard_0 (hZ : ZRN (ztb (tb_X7_addCard E d mc ms)) cut G R T Z) (f : Nat) (L : ZLV) (st : List Value) (σ : ZHp) (n k w : Nat) : Z (f + 1) 0 L st σ n k w = s_aload 0 1 L st σ n k w (zk1 cut G (Z f)) G R T := zrs hZ rfl f L st σ n k w
theorem f_X7_addCard_1 (hZ : ZRN (ztb (tb_X7_addCard E d mc ms)) cut G R T Z) (f : Nat) (L : ZLV) (st : List Value) (σ : ZHp) (n k w : Nat) : Z (f + 1) 1 L st σ n k w = s_getf 6 0 4 L st σ n k w (zk1 cut G (Z f)) G R T := zrs hZ rfl f L st σ n k w
theorem f_X7_addCard_4 (hZ : ZRN (ztb (tb_X7_addCard E d mc ms)) cut G R T Z) (f : Nat) (L : ZLV) (st : List Value) (σ : ZHp) (n k w : Nat) : Z (f + 1) 4 L st σ n k w = s_aload 0 5 L st σ n k w (zk1 cut G (Z f)) G R T := zrs hZ rfl f L st σ n k w
theorem f_X7_addCard_5 (hZ : ZRN (ztb (tb_X7_addCard E d mc ms)) cut G R T Z) (f : Nat) (L : ZLV) (st : List Value) (σ : ZHp) (n k w : Nat) : Z (f + 1) 5 L st σ n k w = s_getf 6 2 8 L st σ n k w (zk1 cut G (Z f)) G R T := zrs hZ rfl f L st σ n k w
theorem f_X7_addCard_8 (hZ : ZRN (ztb (tb_X7_addCard E d mc ms)) cut G R T Z) (f : Nat) (L : ZLV) (st : List Value) (σ : ZHp) (n k w : Nat) : Z (f + 1) 8 L st σ n k w = s_getf 5 0 11 L st σ n k w (zk1 cut G (Z f)) G R T := zrs hZ rfl f L st σ n k w
theorem f_X7_addCard_11 (hZ : ZRN (ztb (tb_X7_addCard E d mc ms)) cut G R T Z) (f : Nat) (L : ZLV) (st : List Value) (σ : ZHp) (n k w : Nat) : Z (f + 1) 11 L st σ n k w = s_lload 1 12 L st σ n k w (zk1 cut G (Z f)) G R T := zrs hZ rfl f L st σ n k w
theorem f_X7_addCard_12 (hZ : ZRN (ztb (tb_X7_addCard E d mc ms)) cut G R T Z) (f : Nat) (L : ZLV) (st : List Value) (σ : ZHp) (n k w : Nat) : Z (f + 1) 12 L st σ n k w = s_callS E d mc ms MX7_find 3 15 L st σ n k w (zk1 cut G (Z f)) G R T := zrs hZ rfl f L st σ n k w
theorem f_X7_addCard_15 (hZ : ZRN (ztb (tb_X7_addCard E d mc ms)) cut G R T Z) (f : Nat) (L : ZLV) (st : List Value) (σ : ZHp) (n k w : Nat) : Z (f + 1) 15 L st σ n k w = s_const (.int (-1)) 16 L st σ n k w (zk1 cut G (Z f)) G R T := zrs hZ rfl f L st σ n k w
theorem f_X7_addCard_16 (hZ : ZRN (ztb (tb_X7_addCard E d mc ms)) cut G R T Z) (f : Nat) (L : ZLV) (st : List Value) (σ : ZHp) (n k w : Nat) : Z (f + 1) 16 L st σ n k w = s_icmp_eq 28 19 L st σ n k w (zk1 cut G (Z f)) G R T := zrs hZ rfl f L st σ n k w
theorem f_X7_addCard_19 (hZ : ZRN (ztb (tb_X7_addCard E d mc ms)) cut G R T Z) (f : Nat) (L : ZLV) (st : List Value) (σ : ZHp) (n k w : Nat) : Z (f + 1) 19 L st σ n k w = s_aload 0 20 L st σ n k w (zk1 cut G (Z f)) G R T := zrs hZ rfl f L st σ n k w
theorem f_X7_addCard_20 (hZ : ZRN (ztb (tb_X7_addCard E d mc ms)) cut G R T Z) (f : Nat) (L : ZLV) (st : List Value) (σ : ZHp) (n k w : Nat) : Z (f + 1) 20 L st σ n k w = s_const (.int (2)) 21 L st σ n k w (zk1 cut G (Z f)) G R T := zrs hZ rfl f L st σ n k w
theorem f_X7_addCard_21 (hZ : ZRN (ztb (tb_X7_addCard E d mc ms)) cut G R T Z) (f : Nat) (L : ZLV) (st : List Value) (σ : ZHp) (n k w : Nat) : Z (f + 1) 21 L st σ n k w = s_iload 3 22 L st σ n k w (zk1 cut G (Z f)) G R T := zrs hZ rfl f L st σ n k w
theorem f_X7_addCard_22 (hZ : ZRN (ztb (tb_X7_addCard E d mc ms)) cut G R T Z) (f : Nat) (L : ZLV) (st : List Value) (σ : ZHp) (n k w : Nat) : Z (f + 1) 22 L st σ n k w = s_callV E d mc ms 6 MX7_fault 2 25 L st σ n k w (zk1 cut G (Z f)) G R T := zrs hZ rfl f L st σ n k w
theorem f_X7_addCard_25 (hZ : ZRN (ztb (tb_X7_addCard E d mc ms)) cut G R T Z) (f : Nat) (L : ZLV) (st : List Value) (σ : ZHp) (n k w : Nat) : Z (f + 1) 25 L st σ n k w = s_goto 88 L st σ n k w (zk1 cut G (Z f)) G R T := zrs hZ rfl f L st σ n k w
theorem f_X7_addCard_28 (hZ : ZRN (ztb (tb_X7_addCard E d mc ms)) cut G R T Z) (f : Nat) (L : ZLV) (st : List Value) (σ : ZHp) (n k w : Nat) : Z (f + 1) 28 L st σ n k w = s_aload 0 29 L st σ n k w (zk1 cut G (Z f)) G R T := zrs hZ rfl f L st σ n k w
theorem f_X7_addCard_29 (hZ : ZRN (ztb (tb_X7_addCard E d mc ms)) cut G R T Z) (f : Nat) (L : ZLV) (st : List Value) (σ : ZHp) (n k w : Nat) : Z (f + 1) 29 L st σ n k w = s_getf 6 2 32 L st σ n k w (zk1 cut G (Z f)) G R T := zrs hZ rfl f L st σ n k w
theorem f_X7_addCard_32 (hZ : ZRN (ztb (tb_X7_addCard E d mc ms)) cut G R T Z) (f : Nat) (L : ZLV) (st : List Value) (σ : ZHp) (n k w : Nat) : Z (f + 1) 32 L st σ n k w = s_getf 5 0 35 L st σ n k w (zk1 cut G (Z f)) G R T := zrs hZ rfl f L st σ n k w
theorem f_X7_addCard_35 (hZ : ZRN (ztb (tb_X7_addCard E d mc ms)) cut G R T Z) (f : Nat) (L : ZLV) (st : List Value) (σ : ZHp) (n k w : Nat) : Z (f + 1) 35 L st σ n k w = s_if_lt 53 38 L st σ n k w (zk1 cut G (Z f)) G R T := zrs hZ rfl f L st σ n k w
theorem f_X7_addCard_38 (hZ : ZRN (ztb (tb_X7_addCard E d mc ms)) cut G R T Z) (f : Nat) (L : ZLV) (st : List Value) (σ : ZHp) (n k w : Nat) : Z (f + 1) 38 L st σ n k w = s_aload 0 39 L st σ n k w (zk1 cut G (Z f)) G R T := zrs hZ rfl f L st σ n k w
theorem f_X7_addCard_39 (hZ : ZRN (ztb (tb_X7_addCard E d mc ms)) cut G R T Z) (f : Nat) (L : ZLV) (st : List Value) (σ : ZHp) (n k w : Nat) : Z (f + 1) 39 L st σ n k w = s_getf 6 2 42 L st σ n k w (zk1 cut G (Z f)) G R T := zrs hZ rfl f L st σ n k w
theorem f_X7_addCard_42 (hZ : ZRN (ztb (tb_X7_addCard E d mc ms)) cut G R T Z) (f : Nat) (L : ZLV) (st : List Value) (σ : ZHp) (n k w : Nat) : Z (f + 1) 42 L st σ n k w = s_getf 5 0 45 L st σ n k w (zk1 cut G (Z f)) G R T := zrs hZ rfl f L st σ n k w
theorem f_X7_addCard_45 (hZ : ZRN (ztb (tb_X7_addCard E d mc ms)) cut G R T Z) (f : Nat) (L : ZLV) (st : List Value) (σ : ZHp) (n k w : Nat) : Z (f + 1) 45 L st σ n k w = s_aload 0 46 L st σ n k w (zk1 cut G (Z f)) G R T := zrs hZ rfl f L st σ n k w
theorem f_X7_addCard_46 (hZ : ZRN (ztb (tb_X7_addCard E d mc ms)) cut G R T Z) (f : Nat) (L : ZLV) (st : List Value) (σ : ZHp) (n k w : Nat) : Z (f + 1) 46 L st σ n k w = s_getf 6 0 49 L st σ n k w (zk1 cut G (Z f)) G R T := zrs hZ rfl f L st σ n k w
theorem f_X7_addCard_49 (hZ : ZRN (ztb (tb_X7_addCard E d mc ms)) cut G R T Z) (f : Nat) (L : ZLV) (st : List Value) (σ : ZHp) (n k w : Nat) : Z (f + 1) 49 L st σ n k w = s_alen E 50 L st σ n k w (zk1 cut G (Z f)) G R T := zrs hZ rfl f L st σ n k w
theorem f_X7_addCard_50 (hZ : ZRN (ztb (tb_X7_addCard E d mc ms)) cut G R T Z) (f : Nat) (L : ZLV) (st : List Value) (σ : ZHp) (n k w : Nat) : Z (f + 1) 50 L st σ n k w = s_icmp_lt 62 53 L st σ n k w (zk1 cut G (Z f)) G R T := zrs hZ rfl f L st σ n k w
theorem f_X7_addCard_53 (hZ : ZRN (ztb (tb_X7_addCard E d mc ms)) cut G R T Z) (f : Nat) (L : ZLV) (st : List Value) (σ : ZHp) (n k w : Nat) : Z (f + 1) 53 L st σ n k w = s_aload 0 54 L st σ n k w (zk1 cut G (Z f)) G R T := zrs hZ rfl f L st σ n k w
theorem f_X7_addCard_54 (hZ : ZRN (ztb (tb_X7_addCard E d mc ms)) cut G R T Z) (f : Nat) (L : ZLV) (st : List Value) (σ : ZHp) (n k w : Nat) : Z (f + 1) 54 L st σ n k w = s_const (.int (4)) 55 L st σ n k w (zk1 cut G (Z f)) G R T := zrs hZ rfl f L st σ n k w
theorem f_X7_addCard_55 (hZ : ZRN (ztb (tb_X7_addCard E d mc ms)) cut G R T Z) (f : Nat) (L : ZLV) (st : List Value) (σ : ZHp) (n k w : Nat) : Z (f + 1) 55 L st σ n k w = s_iload 3 56 L st σ n k w (zk1 cut G (Z f)) G R T := zrs hZ rfl f L st σ n k w
theorem f_X7_addCard_56 (hZ : ZRN (ztb (tb_X7_addCard E d mc ms)) cut G R T Z) (f : Nat) (L : ZLV) (st : List Value) (σ : ZHp) (n k w : Nat) : Z (f + 1) 56 L st σ n k w = s_callV E d mc ms 6 MX7_fault 2 59 L st σ n k w (zk1 cut G (Z f)) G R T := zrs hZ rfl f L st σ n k w
theorem f_X7_addCard_59 (hZ : ZRN (ztb (tb_X7_addCard E d mc ms)) cut G R T Z) (f : Nat) (L : ZLV) (st : List Value) (σ : ZHp) (n k w : Nat) : Z (f + 1) 59 L st σ n k w = s_goto 88 L st σ n k w (zk1 cut G (Z f)) G R T := zrs hZ rfl f L st σ n k w
theorem f_X7_addCard_62 (hZ : ZRN (ztb (tb_X7_addCard E d mc ms)) cut G R T Z) (f : Nat) (L : ZLV) (st : List Value) (σ : ZHp) (n k w : Nat) : Z (f + 1) 62 L st σ n k w = s_aload 0 63 L st σ n k w (zk1 cut G (Z f)) G R T := zrs hZ rfl f L st σ n k w
theorem f_X7_addCard_63 (hZ : ZRN (ztb (tb_X7_addCard E d mc ms)) cut G R T Z) (f : Nat) (L : ZLV) (st : List Value) (σ : ZHp) (n k w : Nat) : Z (f + 1) 63 L st σ n k w = s_getf 6 0 66 L st σ n k w (zk1 cut G (Z f)) G R T := zrs hZ rfl f L st σ n k w
theorem f_X7_addCard_66 (hZ : ZRN (ztb (tb_X7_addCard E d mc ms)) cut G R T Z) (f : Nat) (L : ZLV) (st : List Value) (σ : ZHp) (n k w : Nat) : Z (f + 1) 66 L st σ n k w = s_aload 0 67 L st σ n k w (zk1 cut G (Z f)) G R T := zrs hZ rfl f L st σ n k w
theorem f_X7_addCard_67 (hZ : ZRN (ztb (tb_X7_addCard E d mc ms)) cut G R T Z) (f : Nat) (L : ZLV) (st : List Value) (σ : ZHp) (n k w : Nat) : Z (f + 1) 67 L st σ n k w = s_getf 6 2 70 L st σ n k w (zk1 cut G (Z f)) G R T := zrs hZ rfl f L st σ n k w
theorem f_X7_addCard_70 (hZ : ZRN (ztb (tb_X7_addCard E d mc ms)) cut G R T Z) (f : Nat) (L : ZLV) (st : List Value) (σ : ZHp) (n k w : Nat) : Z (f + 1) 70 L st σ n k w = s_getf 5 0 73 L st σ n k w (zk1 cut G (Z f)) G R T := zrs hZ rfl f L st σ n k w
theorem f_X7_addCard_73 (hZ : ZRN (ztb (tb_X7_addCard E d mc ms)) cut G R T Z) (f : Nat) (L : ZLV) (st : List Value) (σ : ZHp) (n k w : Nat) : Z (f + 1) 73 L st σ n k w = s_lload 1 74 L st σ n k w (zk1 cut G (Z f)) G R T := zrs hZ rfl f L st σ n k w
theorem f_X7_addCard_74 (hZ : ZRN (ztb (tb_X7_addCard E d mc ms)) cut G R T Z) (f : Nat) (L : ZLV) (st : List Value) (σ : ZHp) (n k w : Nat) : Z (f + 1) 74 L st σ n k w = s_lastore E 75 L st σ n k w (zk1 cut G (Z f)) G R T := zrs hZ rfl f L st σ n k w
theorem f_X7_addCard_75 (hZ : ZRN (ztb (tb_X7_addCard E d mc ms)) cut G R T Z) (f : Nat) (L : ZLV) (st : List Value) (σ : ZHp) (n k w : Nat) : Z (f + 1) 75 L st σ n k w = s_aload 0 76 L st σ n k w (zk1 cut G (Z f)) G R T := zrs hZ rfl f L st σ n k w
theorem f_X7_addCard_76 (hZ : ZRN (ztb (tb_X7_addCard E d mc ms)) cut G R T Z) (f : Nat) (L : ZLV) (st : List Value) (σ : ZHp) (n k w : Nat) : Z (f + 1) 76 L st σ n k w = s_getf 6 2 79 L st σ n k w (zk1 cut G (Z f)) G R T := zrs hZ rfl f L st σ n k w
theorem f_X7_addCard_79 (hZ : ZRN (ztb (tb_X7_addCard E d mc ms)) cut G R T Z) (f : Nat) (L : ZLV) (st : List Value) (σ : ZHp) (n k w : Nat) : Z (f + 1) 79 L st σ n k w = s_dup 80 L st σ n k w (zk1 cut G (Z f)) G R T := zrs hZ rfl f L st σ n k w
theorem f_X7_addCard_80 (hZ : ZRN (ztb (tb_X7_addCard E d mc ms)) cut G R T Z) (f : Nat) (L : ZLV) (st : List Value) (σ : ZHp) (n k w : Nat) : Z (f + 1) 80 L st σ n k w = s_getf 5 0 83 L st σ n k w (zk1 cut G (Z f)) G R T := zrs hZ rfl f L st σ n k w
theorem f_X7_addCard_83 (hZ : ZRN (ztb (tb_X7_addCard E d mc ms)) cut G R T Z) (f : Nat) (L : ZLV) (st : List Value) (σ : ZHp) (n k w : Nat) : Z (f + 1) 83 L st σ n k w = s_const (.int (1)) 84 L st σ n k w (zk1 cut G (Z f)) G R T := zrs hZ rfl f L st σ n k w
theorem f_X7_addCard_84 (hZ : ZRN (ztb (tb_X7_addCard E d mc ms)) cut G R T Z) (f : Nat) (L : ZLV) (st : List Value) (σ : ZHp) (n k w : Nat) : Z (f + 1) 84 L st σ n k w = s_iadd 85 L st σ n k w (zk1 cut G (Z f)) G R T := zrs hZ rfl f L st σ n k w
theorem f_X7_addCard_85 (hZ : ZRN (ztb (tb_X7_addCard E d mc ms)) cut G R T Z) (f : Nat) (L : ZLV) (st : List Value) (σ : ZHp) (n k w : Nat) : Z (f + 1) 85 L st σ n k w = s_putf 5 0 0 88 L st σ n k w (zk1 cut G (Z f)) G R T := zrs hZ rfl f L st σ n k w
theorem f_X7_addCard_88 (hZ : ZRN (ztb (tb_X7_addCard E d mc ms)) cut G R T Z) (f : Nat) (L : ZLV) (st : List Value) (σ : ZHp) (n k w : Nat) : Z (f + 1) 88 L st σ n k w = s_return L st σ n k w (zk1 cut G (Z f)) G R T := zrs hZ rfl f L st σ n k w
theorem f_X7_addMerchant_0 (hZ : ZRN (ztb (tb_X7_addMerchant E d mc ms)) cut G R T Z) (f : Nat) (L : ZLV) (st : List Value) (σ : ZHp) (n k w : Nat) : Z (f + 1) 0 L st σ n k w = s_aload 0 1 L st σ n k w (zk1 cut G (Z f)) G R T := zrs hZ rfl f L st σ n k w
theorem f_X7_addMerchant_1 (hZ : ZRN (ztb (tb_X7_addMerchant E d mc ms)) cut G R T Z) (f : Nat) (L : ZLV) (st : List Value) (σ : ZHp) (n k w : Nat) : Z (f + 1) 1 L st σ n k w = s_getf 6 1 4 L st σ n k w (zk1 cut G (Z f)) G R T := zrs hZ rfl f L st σ n k w
theorem f_X7_addMerchant_4 (hZ : ZRN (ztb (tb_X7_addMerchant E d mc ms)) cut G R T Z) (f : Nat) (L : ZLV) (st : List Value) (σ : ZHp) (n k w : Nat) : Z (f + 1) 4 L st σ n k w = s_aload 0 5 L st σ n k w (zk1 cut G (Z f)) G R T := zrs hZ rfl f L st σ n k w
theorem f_X7_addMerchant_5 (hZ : ZRN (ztb (tb_X7_addMerchant E d mc ms)) cut G R T Z) (f : Nat) (L : ZLV) (st : List Value) (σ : ZHp) (n k w : Nat) : Z (f + 1) 5 L st σ n k w = s_getf 6 2 8 L st σ n k w (zk1 cut G (Z f)) G R T := zrs hZ rfl f L st σ n k w
theorem f_X7_addMerchant_8 (hZ : ZRN (ztb (tb_X7_addMerchant E d mc ms)) cut G R T Z) (f : Nat) (L : ZLV) (st : List Value) (σ : ZHp) (n k w : Nat) : Z (f + 1) 8 L st σ n k w = s_getf 5 1 11 L st σ n k w (zk1 cut G (Z f)) G R T := zrs hZ rfl f L st σ n k w
theorem f_X7_addMerchant_11 (hZ : ZRN (ztb (tb_X7_addMerchant E d mc ms)) cut G R T Z) (f : Nat) (L : ZLV) (st : List Value) (σ : ZHp) (n k w : Nat) : Z (f + 1) 11 L st σ n k w = s_lload 1 12 L st σ n k w (zk1 cut G (Z f)) G R T := zrs hZ rfl f L st σ n k w
theorem f_X7_addMerchant_12 (hZ : ZRN (ztb (tb_X7_addMerchant E d mc ms)) cut G R T Z) (f : Nat) (L : ZLV) (st : List Value) (σ : ZHp) (n k w : Nat) : Z (f + 1) 12 L st σ n k w = s_callS E d mc ms MX7_find 3 15 L st σ n k w (zk1 cut G (Z f)) G R T := zrs hZ rfl f L st σ n k w
theorem f_X7_addMerchant_15 (hZ : ZRN (ztb (tb_X7_addMerchant E d mc ms)) cut G R T Z) (f : Nat) (L : ZLV) (st : List Value) (σ : ZHp) (n k w : Nat) : Z (f + 1) 15 L st σ n k w = s_const (.int (-1)) 16 L st σ n k w (zk1 cut G (Z f)) G R T := zrs hZ rfl f L st σ n k w
theorem f_X7_addMerchant_16 (hZ : ZRN (ztb (tb_X7_addMerchant E d mc ms)) cut G R T Z) (f : Nat) (L : ZLV) (st : List Value) (σ : ZHp) (n k w : Nat) : Z (f + 1) 16 L st σ n k w = s_icmp_eq 28 19 L st σ n k w (zk1 cut G (Z f)) G R T := zrs hZ rfl f L st σ n k w
theorem f_X7_addMerchant_19 (hZ : ZRN (ztb (tb_X7_addMerchant E d mc ms)) cut G R T Z) (f : Nat) (L : ZLV) (st : List Value) (σ : ZHp) (n k w : Nat) : Z (f + 1) 19 L st σ n k w = s_aload 0 20 L st σ n k w (zk1 cut G (Z f)) G R T := zrs hZ rfl f L st σ n k w
theorem f_X7_addMerchant_20 (hZ : ZRN (ztb (tb_X7_addMerchant E d mc ms)) cut G R T Z) (f : Nat) (L : ZLV) (st : List Value) (σ : ZHp) (n k w : Nat) : Z (f + 1) 20 L st σ n k w = s_const (.int (2)) 21 L st σ n k w (zk1 cut G (Z f)) G R T := zrs hZ rfl f L st σ n k w
theorem f_X7_addMerchant_21 (hZ : ZRN (ztb (tb_X7_addMerchant E d mc ms)) cut G R T Z) (f : Nat) (L : ZLV) (st : List Value) (σ : ZHp) (n k w : Nat) : Z (f + 1) 21 L st σ n k w = s_iload 3 22 L st σ n k w (zk1 cut G (Z f)) G R T := zrs hZ rfl f L st σ n k w
theorem f_X7_addMerchant_22 (hZ : ZRN (ztb (tb_X7_addMerchant E d mc ms)) cut G R T Z) (f : Nat) (L : ZLV) (st : List Value) (σ : ZHp) (n k w : Nat) : Z (f + 1) 22 L st σ n k w = s_callV E d mc ms 6 MX7_fault 2 25 L st σ n k w (zk1 cut G (Z f)) G R T := zrs hZ rfl f L st σ n k w
theorem f_X7_addMerchant_25 (hZ : ZRN (ztb (tb_X7_addMerchant E d mc ms)) cut G R T Z) (f : Nat) (L : ZLV) (st : List Value) (σ : ZHp) (n k w : Nat) : Z (f + 1) 25 L st σ n k w = s_goto 88 L st σ n k w (zk1 cut G (Z f)) G R T := zrs hZ rfl f L st σ n k w
theorem f_X7_addMerchant_28 (hZ : ZRN (ztb (tb_X7_addMerchant E d mc ms)) cut G R T Z) (f : Nat) (L : ZLV) (st : List Value) (σ : ZHp) (n k w : Nat) : Z (f + 1) 28 L st σ n k w = s_aload 0 29 L st σ n k w (zk1 cut G (Z f)) G R T := zrs hZ rfl f L st σ n k w
theorem f_X7_addMerchant_29 (hZ : ZRN (ztb (tb_X7_addMerchant E d mc ms)) cut G R T Z) (f : Nat) (L : ZLV) (st : List Value) (σ : ZHp) (n k w : Nat) : Z (f + 1) 29 L st σ n k w = s_getf 6 2 32 L st σ n k w (zk1 cut G (Z f)) G R T := zrs hZ rfl f L st σ n k w
theorem f_X7_addMerchant_32 (hZ : ZRN (ztb (tb_X7_addMerchant E d mc ms)) cut G R T Z) (f : Nat) (L : ZLV) (st : List Value) (σ : ZHp) (n k w : Nat) : Z (f + 1) 32 L st σ n k w = s_getf 5 1 35 L st σ n k w (zk1 cut G (Z f)) G R T := zrs hZ rfl f L st σ n k w
theorem f_X7_addMerchant_35 (hZ : ZRN (ztb (tb_X7_addMerchant E d mc ms)) cut G R T Z) (f : Nat) (L : ZLV) (st : List Value) (σ : ZHp) (n k w : Nat) : Z (f + 1) 35 L st σ n k w = s_if_lt 53 38 L st σ n k w (zk1 cut G (Z f)) G R T := zrs hZ rfl f L st σ n k w
theorem f_X7_addMerchant_38 (hZ : ZRN (ztb (tb_X7_addMerchant E d mc ms)) cut G R T Z) (f : Nat) (L : ZLV) (st : List Value) (σ : ZHp) (n k w : Nat) : Z (f + 1) 38 L st σ n k w = s_aload 0 39 L st σ n k w (zk1 cut G (Z f)) G R T := zrs hZ rfl f L st σ n k w
theorem f_X7_addMerchant_39 (hZ : ZRN (ztb (tb_X7_addMerchant E d mc ms)) cut G R T Z) (f : Nat) (L : ZLV) (st : List Value) (σ : ZHp) (n k w : Nat) : Z (f + 1) 39 L st σ n k w = s_getf 6 2 42 L st σ n k w (zk1 cut G (Z f)) G R T := zrs hZ rfl f L st σ n k w
theorem f_X7_addMerchant_42 (hZ : ZRN (ztb (tb_X7_addMerchant E d mc ms)) cut G R T Z) (f : Nat) (L : ZLV) (st : List Value) (σ : ZHp) (n k w : Nat) : Z (f + 1) 42 L st σ n k w = s_getf 5 1 45 L st σ n k w (zk1 cut G (Z f)) G R T := zrs hZ rfl f L st σ n k w
theorem f_X7_addMerchant_45 (hZ : ZRN (ztb (tb_X7_addMerchant E d mc ms)) cut G R T Z) (f : Nat) (L : ZLV) (st : List Value) (σ : ZHp) (n k w : Nat) : Z (f + 1) 45 L st σ n k w = s_aload 0 46 L st σ n k w (zk1 cut G (Z f)) G R T := zrs hZ rfl f L st σ n k w
theorem f_X7_addMerchant_46 (hZ : ZRN (ztb (tb_X7_addMerchant E d mc ms)) cut G R T Z) (f : Nat) (L : ZLV) (st : List Value) (σ : ZHp) (n k w : Nat) : Z (f + 1) 46 L st σ n k w = s_getf 6 1 49 L st σ n k w (zk1 cut G (Z f)) G R T := zrs hZ rfl f L st σ n k w
theorem f_X7_addMerchant_49 (hZ : ZRN (ztb (tb_X7_addMerchant E d mc ms)) cut G R T Z) (f : Nat) (L : ZLV) (st : List Value) (σ : ZHp) (n k w : Nat) : Z (f + 1) 49 L st σ n k w = s_alen E 50 L st σ n k w (zk1 cut G (Z f)) G R T := zrs hZ rfl f L st σ n k w
theorem f_X7_addMerchant_50 (hZ : ZRN (ztb (tb_X7_addMerchant E d mc ms)) cut G R T Z) (f : Nat) (L : ZLV) (st : List Value) (σ : ZHp) (n k w : Nat) : Z (f + 1) 50 L st σ n k w = s_icmp_lt 62 53 L st σ n k w (zk1 cut G (Z f)) G R T := zrs hZ rfl f L st σ n k w
theorem f_X7_addMerchant_53 (hZ : ZRN (ztb (tb_X7_addMerchant E d mc ms)) cut G R T Z) (f : Nat) (L : ZLV) (st : List Value) (σ : ZHp) (n k w : Nat) : Z (f + 1) 53 L st σ n k w = s_aload 0 54 L st σ n k w (zk1 cut G (Z f)) G R T := zrs hZ rfl f L st σ n k w
theorem f_X7_addMerchant_54 (hZ : ZRN (ztb (tb_X7_addMerchant E d mc ms)) cut G R T Z) (f : Nat) (L : ZLV) (st : List Value) (σ : ZHp) (n k w : Nat) : Z (f + 1) 54 L st σ n k w = s_const (.int (4)) 55 L st σ n k w (zk1 cut G (Z f)) G R T := zrs hZ rfl f L st σ n k w
theorem f_X7_addMerchant_55 (hZ : ZRN (ztb (tb_X7_addMerchant E d mc ms)) cut G R T Z) (f : Nat) (L : ZLV) (st : List Value) (σ : ZHp) (n k w : Nat) : Z (f + 1) 55 L st σ n k w = s_iload 3 56 L st σ n k w (zk1 cut G (Z f)) G R T := zrs hZ rfl f L st σ n k w
theorem f_X7_addMerchant_56 (hZ : ZRN (ztb (tb_X7_addMerchant E d mc ms)) cut G R T Z) (f : Nat) (L : ZLV) (st : List Value) (σ : ZHp) (n k w : Nat) : Z (f + 1) 56 L st σ n k w = s_callV E d mc ms 6 MX7_fault 2 59 L st σ n k w (zk1 cut G (Z f)) G R T := zrs hZ rfl f L st σ n k w
theorem f_X7_addMerchant_59 (hZ : ZRN (ztb (tb_X7_addMerchant E d mc ms)) cut G R T Z) (f : Nat) (L : ZLV) (st : List Value) (σ : ZHp) (n k w : Nat) : Z (f + 1) 59 L st σ n k w = s_goto 88 L st σ n k w (zk1 cut G (Z f)) G R T := zrs hZ rfl f L st σ n k w
theorem f_X7_addMerchant_62 (hZ : ZRN (ztb (tb_X7_addMerchant E d mc ms)) cut G R T Z) (f : Nat) (L : ZLV) (st : List Value) (σ : ZHp) (n k w : Nat) : Z (f + 1) 62 L st σ n k w = s_aload 0 63 L st σ n k w (zk1 cut G (Z f)) G R T := zrs hZ rfl f L st σ n k w
theorem f_X7_addMerchant_63 (hZ : ZRN (ztb (tb_X7_addMerchant E d mc ms)) cut G R T Z) (f : Nat) (L : ZLV) (st : List Value) (σ : ZHp) (n k w : Nat) : Z (f + 1) 63 L st σ n k w = s_getf 6 1 66 L st σ n k w (zk1 cut G (Z f)) G R T := zrs hZ rfl f L st σ n k w
theorem f_X7_addMerchant_66 (hZ : ZRN (ztb (tb_X7_addMerchant E d mc ms)) cut G R T Z) (f : Nat) (L : ZLV) (st : List Value) (σ : ZHp) (n k w : Nat) : Z (f + 1) 66 L st σ n k w = s_aload 0 67 L st σ n k w (zk1 cut G (Z f)) G R T := zrs hZ rfl f L st σ n k w
theorem f_X7_addMerchant_67 (hZ : ZRN (ztb (tb_X7_addMerchant E d mc ms)) cut G R T Z) (f : Nat) (L : ZLV) (st : List Value) (σ : ZHp) (n k w : Nat) : Z (f + 1) 67 L st σ n k w = s_getf 6 2 70 L st σ n k w (zk1 cut G (Z f)) G R T := zrs hZ rfl f L st σ n k w
theorem f_X7_addMerchant_70 (hZ : ZRN (ztb (tb_X7_addMerchant E d mc ms)) cut G R T Z) (f : Nat) (L : ZLV) (st : List Value) (σ : ZHp) (n k w : Nat) : Z (f + 1) 70 L st σ n k w = s_getf 5 1 73 L st σ n k w (zk1 cut G (Z f)) G R T := zrs hZ rfl f L st σ n k w
theorem f_X7_addMerchant_73 (hZ : ZRN (ztb (tb_X7_addMerchant E d mc ms)) cut G R T Z) (f : Nat) (L : ZLV) (st : List Value) (σ : ZHp) (n k w : Nat) : Z (f + 1) 73 L st σ n k w = s_lload 1 74 L st σ n k w (zk1 cut G (Z f)) G R T := zrs hZ rfl f L st σ n k w
theorem f_X7_addMerchant_74 (hZ : ZRN (ztb (tb_X7_addMerchant E d mc ms)) cut G R T Z) (f : Nat) (L : ZLV) (st : List Value) (σ : ZHp) (n k w : Nat) : Z (f + 1) 74 L st σ n k w = s_lastore E 75 L st σ n k w (zk1 cut G (Z f)) G R T := zrs hZ rfl f L st σ n k w
theorem f_X7_addMerchant_75 (hZ : ZRN (ztb (tb_X7_addMerchant E d mc ms)) cut G R T Z) (f : Nat) (L : ZLV) (st : List Value) (σ : ZHp) (n k w : Nat) : Z (f + 1) 75 L st σ n k w = s_aload 0 76 L st σ n k w (zk1 cut G (Z f)) G R T := zrs hZ rfl f L st σ n k w
theorem f_X7_addMerchant_76 (hZ : ZRN (ztb (tb_X7_addMerchant E d mc ms)) cut G R T Z) (f : Nat) (L : ZLV) (st : List Value) (σ : ZHp) (n k w : Nat) : Z (f + 1) 76 L st σ n k w = s_getf 6 2 79 L st σ n k w (zk1 cut G (Z f)) G R T := zrs hZ rfl f L st σ n k w
theorem f_X7_addMerchant_79 (hZ : ZRN (ztb (tb_X7_addMerchant E d mc ms)) cut G R T Z) (f : Nat) (L : ZLV) (st : List Value) (σ : ZHp) (n k w : Nat) : Z (f + 1) 79 L st σ n k w = s_dup 80 L st σ n k w (zk1 cut G (Z f)) G R T := zrs hZ rfl f L st σ n k w
theorem f_X7_addMerchant_80 (hZ : ZRN (ztb (tb_X7_addMerchant E d mc ms)) cut G R T Z) (f : Nat) (L : ZLV) (st : List Value) (σ : ZHp) (n k w : Nat) : Z (f + 1) 80 L st σ n k w = s_getf 5 1 83 L st σ n k w (zk1 cut G (Z f)) G R T := zrs hZ rfl f L st σ n k w
theorem f_X7_addMerchant_83 (hZ : ZRN (ztb (tb_X7_addMerchant E d mc ms)) cut G R T Z) (f : Nat) (L : ZLV) (st : List Value) (σ : ZHp) (n k w : Nat) : Z (f + 1) 83 L st σ n k w = s_const (.int (1)) 84 L st σ n k w (zk1 cut G (Z f)) G R T := zrs hZ rfl f L st σ n k w
theorem f_X7_addMerchant_84 (hZ : ZRN (ztb (tb_X7_addMerchant E d mc ms)) cut G R T Z) (f : Nat) (L : ZLV) (st : List Value) (σ : ZHp) (n k w : Nat) : Z (f + 1) 84 L st σ n k w = s_iadd 85 L st σ n k w (zk1 cut G (Z f)) G R T := zrs hZ rfl f L st σ n k w
theorem f_X7_addMerchant_85 (hZ : ZRN (ztb (tb_X7_addMerchant E d mc ms)) cut G R T Z) (f : Nat) (L : ZLV) (st : List Value) (σ : ZHp) (n k w : Nat) : Z (f + 1) 85 L st σ n k w = s_putf 5 1 0 88 L st σ n k w (zk1 cut G (Z f)) G R T := zrs hZ rfl f L st σ n k w
theorem f_X7_addMerchant_88 (hZ : ZRN (ztb (tb_X7_addMerchant E d mc ms)) cut G R T Z) (f : Nat) (L : ZLV) (st : List Value) (σ : ZHp) (n k w : Nat) : Z (f + 1) 88 L st σ n k w = s_return L st σ n k w (zk1 cut G (Z f)) G R T := zrs hZ rfl f L st σ n k w
theorem f_X7_writeNamed_0 (hZ : ZRN (ztb (tb_X7_writeNamed E d mc ms)) cut G R T Z) (f : Nat) (L : ZLV) (st : List Value) (σ : ZHp) (n k w : Nat) : Z (f + 1) 0 L st σ n k w = s_iload 2 1 L st σ n k w (zk1 cut G (Z f)) G R T := zrs hZ rfl f L st σ n k w
theorem f_X7_writeNamed_1 (hZ : ZRN (ztb (tb_X7_writeNamed E d mc ms)) cut G R T Z) (f : Nat) (L : ZLV) (st : List Value) (σ : ZHp) (n k w : Nat) : Z (f + 1) 1 L st σ n k w = s_const (.int (-1)) 2 L st σ n k w (zk1 cut G (Z f)) G R T := zrs hZ rfl f L st σ n k w
theorem f_X7_writeNamed_2 (hZ : ZRN (ztb (tb_X7_writeNamed E d mc ms)) cut G R T Z) (f : Nat) (L : ZLV) (st : List Value) (σ : ZHp) (n k w : Nat) : Z (f + 1) 2 L st σ n k w = s_icmp_ne 6 5 L st σ n k w (zk1 cut G (Z f)) G R T := zrs hZ rfl f L st σ n k w
theorem f_X7_writeNamed_5 (hZ : ZRN (ztb (tb_X7_writeNamed E d mc ms)) cut G R T Z) (f : Nat) (L : ZLV) (st : List Value) (σ : ZHp) (n k w : Nat) : Z (f + 1) 5 L st σ n k w = s_return L st σ n k w (zk1 cut G (Z f)) G R T := zrs hZ rfl f L st σ n k w
theorem f_X7_writeNamed_6 (hZ : ZRN (ztb (tb_X7_writeNamed E d mc ms)) cut G R T Z) (f : Nat) (L : ZLV) (st : List Value) (σ : ZHp) (n k w : Nat) : Z (f + 1) 6 L st σ n k w = s_aload 0 7 L st σ n k w (zk1 cut G (Z f)) G R T := zrs hZ rfl f L st σ n k w
theorem f_X7_writeNamed_7 (hZ : ZRN (ztb (tb_X7_writeNamed E d mc ms)) cut G R T Z) (f : Nat) (L : ZLV) (st : List Value) (σ : ZHp) (n k w : Nat) : Z (f + 1) 7 L st σ n k w = s_getf 6 2 10 L st σ n k w (zk1 cut G (Z f)) G R T := zrs hZ rfl f L st σ n k w
theorem f_X7_writeNamed_10 (hZ : ZRN (ztb (tb_X7_writeNamed E d mc ms)) cut G R T Z) (f : Nat) (L : ZLV) (st : List Value) (σ : ZHp) (n k w : Nat) : Z (f + 1) 10 L st σ n k w = s_getf 5 0 13 L st σ n k w (zk1 cut G (Z f)) G R T := zrs hZ rfl f L st σ n k w
theorem f_X7_writeNamed_13 (hZ : ZRN (ztb (tb_X7_writeNamed E d mc ms)) cut G R T Z) (f : Nat) (L : ZLV) (st : List Value) (σ : ZHp) (n k w : Nat) : Z (f + 1) 13 L st σ n k w = s_const (.int (1)) 14 L st σ n k w (zk1 cut G (Z f)) G R T := zrs hZ rfl f L st σ n k w
theorem f_X7_writeNamed_14 (hZ : ZRN (ztb (tb_X7_writeNamed E d mc ms)) cut G R T Z) (f : Nat) (L : ZLV) (st : List Value) (σ : ZHp) (n k w : Nat) : Z (f + 1) 14 L st σ n k w = s_isub 15 L st σ n k w (zk1 cut G (Z f)) G R T := zrs hZ rfl f L st σ n k w
theorem f_X7_writeNamed_15 (hZ : ZRN (ztb (tb_X7_writeNamed E d mc ms)) cut G R T Z) (f : Nat) (L : ZLV) (st : List Value) (σ : ZHp) (n k w : Nat) : Z (f + 1) 15 L st σ n k w = s_istore 3 16 L st σ n k w (zk1 cut G (Z f)) G R T := zrs hZ rfl f L st σ n k w
theorem f_X7_writeNamed_16 (hZ : ZRN (ztb (tb_X7_writeNamed E d mc ms)) cut G R T Z) (f : Nat) (L : ZLV) (st : List Value) (σ : ZHp) (n k w : Nat) : Z (f + 1) 16 L st σ n k w = s_const (.ref (zeK E 47)) 19 L st σ n k w (zk1 cut G (Z f)) G R T := zrs hZ rfl f L st σ n k w
theorem f_X7_writeNamed_19 (hZ : ZRN (ztb (tb_X7_writeNamed E d mc ms)) cut G R T Z) (f : Nat) (L : ZLV) (st : List Value) (σ : ZHp) (n k w : Nat) : Z (f + 1) 19 L st σ n k w = s_aload 1 20 L st σ n k w (zk1 cut G (Z f)) G R T := zrs hZ rfl f L st σ n k w
theorem f_X7_writeNamed_20 (hZ : ZRN (ztb (tb_X7_writeNamed E d mc ms)) cut G R T Z) (f : Nat) (L : ZLV) (st : List Value) (σ : ZHp) (n k w : Nat) : Z (f + 1) 20 L st σ n k w = s_callK E d mc ms 0 46 MJx29ce0_ordinal_8abf5 0 23 L st σ n k w (zk1 cut G (Z f)) G R T := zrs hZ rfl f L st σ n k w
theorem f_X7_writeNamed_23 (hZ : ZRN (ztb (tb_X7_writeNamed E d mc ms)) cut G R T Z) (f : Nat) (L : ZLV) (st : List Value) (σ : ZHp) (n k w : Nat) : Z (f + 1) 23 L st σ n k w = s_ialdK E 24 L st σ n k w (zk1 cut G (Z f)) G R T := zrs hZ rfl f L st σ n k w
theorem f_X7_writeNamed_24 (hZ : ZRN (ztb (tb_X7_writeNamed E d mc ms)) cut G R T Z) (f : Nat) (L : ZLV) (st : List Value) (σ : ZHp) (n k w : Nat) : Z (f + 1) 24 L st σ n k w = s_tsw 1 [64, 103, 121, 144, 167, 167] 198 L st σ n k w (zk1 cut G (Z f)) G R T := zrs hZ rfl f L st σ n k w
theorem f_X7_writeNamed_64 (hZ : ZRN (ztb (tb_X7_writeNamed E d mc ms)) cut G R T Z) (f : Nat) (L : ZLV) (st : List Value) (σ : ZHp) (n k w : Nat) : Z (f + 1) 64 L st σ n k w = s_const (.int (0)) 65 L st σ n k w (zk1 cut G (Z f)) G R T := zrs hZ rfl f L st σ n k w
theorem f_X7_writeNamed_65 (hZ : ZRN (ztb (tb_X7_writeNamed E d mc ms)) cut G R T Z) (f : Nat) (L : ZLV) (st : List Value) (σ : ZHp) (n k w : Nat) : Z (f + 1) 65 L st σ n k w = s_istore 4 67 L st σ n k w (zk1 cut G (Z f)) G R T := zrs hZ rfl f L st σ n k w
theorem f_X7_writeNamed_67 (hZ : ZRN (ztb (tb_X7_writeNamed E d mc ms)) cut G R T Z) (f : Nat) (L : ZLV) (st : List Value) (σ : ZHp) (n k w : Nat) : Z (f + 1) 67 L st σ n k w = s_iload 4 69 L st σ n k w (zk1 cut G (Z f)) G R T := zrs hZ rfl f L st σ n k w
theorem f_X7_writeNamed_69 (hZ : ZRN (ztb (tb_X7_writeNamed E d mc ms)) cut G R T Z) (f : Nat) (L : ZLV) (st : List Value) (σ : ZHp) (n k w : Nat) : Z (f + 1) 69 L st σ n k w = s_aload 0 70 L st σ n k w (zk1 cut G (Z f)) G R T := zrs hZ rfl f L st σ n k w
theorem f_X7_writeNamed_70 (hZ : ZRN (ztb (tb_X7_writeNamed E d mc ms)) cut G R T Z) (f : Nat) (L : ZLV) (st : List Value) (σ : ZHp) (n k w : Nat) : Z (f + 1) 70 L st σ n k w = s_getf 6 5 73 L st σ n k w (zk1 cut G (Z f)) G R T := zrs hZ rfl f L st σ n k w
theorem f_X7_writeNamed_73 (hZ : ZRN (ztb (tb_X7_writeNamed E d mc ms)) cut G R T Z) (f : Nat) (L : ZLV) (st : List Value) (σ : ZHp) (n k w : Nat) : Z (f + 1) 73 L st σ n k w = s_icmp_ge 100 76 L st σ n k w (zk1 cut G (Z f)) G R T := zrs hZ rfl f L st σ n k w
theorem f_X7_writeNamed_76 (hZ : ZRN (ztb (tb_X7_writeNamed E d mc ms)) cut G R T Z) (f : Nat) (L : ZLV) (st : List Value) (σ : ZHp) (n k w : Nat) : Z (f + 1) 76 L st σ n k w = s_iload 4 78 L st σ n k w (zk1 cut G (Z f)) G R T := zrs hZ rfl f L st σ n k w
theorem f_X7_writeNamed_78 (hZ : ZRN (ztb (tb_X7_writeNamed E d mc ms)) cut G R T Z) (f : Nat) (L : ZLV) (st : List Value) (σ : ZHp) (n k w : Nat) : Z (f + 1) 78 L st σ n k w = s_const (.int (20)) 80 L st σ n k w (zk1 cut G (Z f)) G R T := zrs hZ rfl f L st σ n k w
theorem f_X7_writeNamed_80 (hZ : ZRN (ztb (tb_X7_writeNamed E d mc ms)) cut G R T Z) (f : Nat) (L : ZLV) (st : List Value) (σ : ZHp) (n k w : Nat) : Z (f + 1) 80 L st σ n k w = s_icmp_ge 100 83 L st σ n k w (zk1 cut G (Z f)) G R T := zrs hZ rfl f L st σ n k w
theorem f_X7_writeNamed_83 (hZ : ZRN (ztb (tb_X7_writeNamed E d mc ms)) cut G R T Z) (f : Nat) (L : ZLV) (st : List Value) (σ : ZHp) (n k w : Nat) : Z (f + 1) 83 L st σ n k w = s_aload 0 84 L st σ n k w (zk1 cut G (Z f)) G R T := zrs hZ rfl f L st σ n k w
theorem f_X7_writeNamed_84 (hZ : ZRN (ztb (tb_X7_writeNamed E d mc ms)) cut G R T Z) (f : Nat) (L : ZLV) (st : List Value) (σ : ZHp) (n k w : Nat) : Z (f + 1) 84 L st σ n k w = s_getf 6 2 87 L st σ n k w (zk1 cut G (Z f)) G R T := zrs hZ rfl f L st σ n k w
theorem f_X7_writeNamed_87 (hZ : ZRN (ztb (tb_X7_writeNamed E d mc ms)) cut G R T Z) (f : Nat) (L : ZLV) (st : List Value) (σ : ZHp) (n k w : Nat) : Z (f + 1) 87 L st σ n k w = s_getf 5 6 90 L st σ n k w (zk1 cut G (Z f)) G R T := zrs hZ rfl f L st σ n k w
theorem f_X7_writeNamed_90 (hZ : ZRN (ztb (tb_X7_writeNamed E d mc ms)) cut G R T Z) (f : Nat) (L : ZLV) (st : List Value) (σ : ZHp) (n k w : Nat) : Z (f + 1) 90 L st σ n k w = s_iload 2 91 L st σ n k w (zk1 cut G (Z f)) G R T := zrs hZ rfl f L st σ n k w
theorem f_X7_writeNamed_91 (hZ : ZRN (ztb (tb_X7_writeNamed E d mc ms)) cut G R T Z) (f : Nat) (L : ZLV) (st : List Value) (σ : ZHp) (n k w : Nat) : Z (f + 1) 91 L st σ n k w = s_callV E d mc ms 4 MX5_add 1 94 L st σ n k w (zk1 cut G (Z f)) G R T := zrs hZ rfl f L st σ n k w
theorem f_X7_writeNamed_94 (hZ : ZRN (ztb (tb_X7_writeNamed E d mc ms)) cut G R T Z) (f : Nat) (L : ZLV) (st : List Value) (σ : ZHp) (n k w : Nat) : Z (f + 1) 94 L st σ n k w = s_iinc 4 (1) 97 L st σ n k w (zk1 cut G (Z f)) G R T := zrs hZ rfl f L st σ n k w
theorem f_X7_writeNamed_97 (hZ : ZRN (ztb (tb_X7_writeNamed E d mc ms)) cut G R T Z) (f : Nat) (L : ZLV) (st : List Value) (σ : ZHp) (n k w : Nat) : Z (f + 1) 97 L st σ n k w = s_goto 67 L st σ n k w (zk1 cut G (Z f)) G R T := zrs hZ rfl f L st σ n k w
theorem f_X7_writeNamed_100 (hZ : ZRN (ztb (tb_X7_writeNamed E d mc ms)) cut G R T Z) (f : Nat) (L : ZLV) (st : List Value) (σ : ZHp) (n k w : Nat) : Z (f + 1) 100 L st σ n k w = s_goto 198 L st σ n k w (zk1 cut G (Z f)) G R T := zrs hZ rfl f L st σ n k w
theorem f_X7_writeNamed_103 (hZ : ZRN (ztb (tb_X7_writeNamed E d mc ms)) cut G R T Z) (f : Nat) (L : ZLV) (st : List Value) (σ : ZHp) (n k w : Nat) : Z (f + 1) 103 L st σ n k w = s_aload 0 104 L st σ n k w (zk1 cut G (Z f)) G R T := zrs hZ rfl f L st σ n k w
theorem f_X7_writeNamed_104 (hZ : ZRN (ztb (tb_X7_writeNamed E d mc ms)) cut G R T Z) (f : Nat) (L : ZLV) (st : List Value) (σ : ZHp) (n k w : Nat) : Z (f + 1) 104 L st σ n k w = s_getf 6 2 107 L st σ n k w (zk1 cut G (Z f)) G R T := zrs hZ rfl f L st σ n k w
theorem f_X7_writeNamed_107 (hZ : ZRN (ztb (tb_X7_writeNamed E d mc ms)) cut G R T Z) (f : Nat) (L : ZLV) (st : List Value) (σ : ZHp) (n k w : Nat) : Z (f + 1) 107 L st σ n k w = s_getf 5 5 110 L st σ n k w (zk1 cut G (Z f)) G R T := zrs hZ rfl f L st σ n k w
theorem f_X7_writeNamed_110 (hZ : ZRN (ztb (tb_X7_writeNamed E d mc ms)) cut G R T Z) (f : Nat) (L : ZLV) (st : List Value) (σ : ZHp) (n k w : Nat) : Z (f + 1) 110 L st σ n k w = s_iload 2 111 L st σ n k w (zk1 cut G (Z f)) G R T := zrs hZ rfl f L st σ n k w
theorem f_X7_writeNamed_111 (hZ : ZRN (ztb (tb_X7_writeNamed E d mc ms)) cut G R T Z) (f : Nat) (L : ZLV) (st : List Value) (σ : ZHp) (n k w : Nat) : Z (f + 1) 111 L st σ n k w = s_aload 0 112 L st σ n k w (zk1 cut G (Z f)) G R T := zrs hZ rfl f L st σ n k w
theorem f_X7_writeNamed_112 (hZ : ZRN (ztb (tb_X7_writeNamed E d mc ms)) cut G R T Z) (f : Nat) (L : ZLV) (st : List Value) (σ : ZHp) (n k w : Nat) : Z (f + 1) 112 L st σ n k w = s_getf 6 5 115 L st σ n k w (zk1 cut G (Z f)) G R T := zrs hZ rfl f L st σ n k w
theorem f_X7_writeNamed_115 (hZ : ZRN (ztb (tb_X7_writeNamed E d mc ms)) cut G R T Z) (f : Nat) (L : ZLV) (st : List Value) (σ : ZHp) (n k w : Nat) : Z (f + 1) 115 L st σ n k w = s_callV E d mc ms 4 MX5_set 2 118 L st σ n k w (zk1 cut G (Z f)) G R T := zrs hZ rfl f L st σ n k w
theorem f_X7_writeNamed_118 (hZ : ZRN (ztb (tb_X7_writeNamed E d mc ms)) cut G R T Z) (f : Nat) (L : ZLV) (st : List Value) (σ : ZHp) (n k w : Nat) : Z (f + 1) 118 L st σ n k w = s_goto 198 L st σ n k w (zk1 cut G (Z f)) G R T := zrs hZ rfl f L st σ n k w
theorem f_X7_writeNamed_121 (hZ : ZRN (ztb (tb_X7_writeNamed E d mc ms)) cut G R T Z) (f : Nat) (L : ZLV) (st : List Value) (σ : ZHp) (n k w : Nat) : Z (f + 1) 121 L st σ n k w = s_aload 0 122 L st σ n k w (zk1 cut G (Z f)) G R T := zrs hZ rfl f L st σ n k w
theorem f_X7_writeNamed_122 (hZ : ZRN (ztb (tb_X7_writeNamed E d mc ms)) cut G R T Z) (f : Nat) (L : ZLV) (st : List Value) (σ : ZHp) (n k w : Nat) : Z (f + 1) 122 L st σ n k w = s_getf 6 2 125 L st σ n k w (zk1 cut G (Z f)) G R T := zrs hZ rfl f L st σ n k w
theorem f_X7_writeNamed_125 (hZ : ZRN (ztb (tb_X7_writeNamed E d mc ms)) cut G R T Z) (f : Nat) (L : ZLV) (st : List Value) (σ : ZHp) (n k w : Nat) : Z (f + 1) 125 L st σ n k w = s_getf 5 12 128 L st σ n k w (zk1 cut G (Z f)) G R T := zrs hZ rfl f L st σ n k w
theorem f_X7_writeNamed_128 (hZ : ZRN (ztb (tb_X7_writeNamed E d mc ms)) cut G R T Z) (f : Nat) (L : ZLV) (st : List Value) (σ : ZHp) (n k w : Nat) : Z (f + 1) 128 L st σ n k w = s_aload 0 129 L st σ n k w (zk1 cut G (Z f)) G R T := zrs hZ rfl f L st σ n k w
theorem f_X7_writeNamed_129 (hZ : ZRN (ztb (tb_X7_writeNamed E d mc ms)) cut G R T Z) (f : Nat) (L : ZLV) (st : List Value) (σ : ZHp) (n k w : Nat) : Z (f + 1) 129 L st σ n k w = s_getf 6 2 132 L st σ n k w (zk1 cut G (Z f)) G R T := zrs hZ rfl f L st σ n k w
theorem f_X7_writeNamed_132 (hZ : ZRN (ztb (tb_X7_writeNamed E d mc ms)) cut G R T Z) (f : Nat) (L : ZLV) (st : List Value) (σ : ZHp) (n k w : Nat) : Z (f + 1) 132 L st σ n k w = s_getf 5 2 135 L st σ n k w (zk1 cut G (Z f)) G R T := zrs hZ rfl f L st σ n k w
theorem f_X7_writeNamed_135 (hZ : ZRN (ztb (tb_X7_writeNamed E d mc ms)) cut G R T Z) (f : Nat) (L : ZLV) (st : List Value) (σ : ZHp) (n k w : Nat) : Z (f + 1) 135 L st σ n k w = s_const (.int (1)) 136 L st σ n k w (zk1 cut G (Z f)) G R T := zrs hZ rfl f L st σ n k w
theorem f_X7_writeNamed_136 (hZ : ZRN (ztb (tb_X7_writeNamed E d mc ms)) cut G R T Z) (f : Nat) (L : ZLV) (st : List Value) (σ : ZHp) (n k w : Nat) : Z (f + 1) 136 L st σ n k w = s_isub 137 L st σ n k w (zk1 cut G (Z f)) G R T := zrs hZ rfl f L st σ n k w
theorem f_X7_writeNamed_137 (hZ : ZRN (ztb (tb_X7_writeNamed E d mc ms)) cut G R T Z) (f : Nat) (L : ZLV) (st : List Value) (σ : ZHp) (n k w : Nat) : Z (f + 1) 137 L st σ n k w = s_iload 2 138 L st σ n k w (zk1 cut G (Z f)) G R T := zrs hZ rfl f L st σ n k w
theorem f_X7_writeNamed_138 (hZ : ZRN (ztb (tb_X7_writeNamed E d mc ms)) cut G R T Z) (f : Nat) (L : ZLV) (st : List Value) (σ : ZHp) (n k w : Nat) : Z (f + 1) 138 L st σ n k w = s_callV E d mc ms 4 MX5_set 2 141 L st σ n k w (zk1 cut G (Z f)) G R T := zrs hZ rfl f L st σ n k w
theorem f_X7_writeNamed_141 (hZ : ZRN (ztb (tb_X7_writeNamed E d mc ms)) cut G R T Z) (f : Nat) (L : ZLV) (st : List Value) (σ : ZHp) (n k w : Nat) : Z (f + 1) 141 L st σ n k w = s_goto 198 L st σ n k w (zk1 cut G (Z f)) G R T := zrs hZ rfl f L st σ n k w
theorem f_X7_writeNamed_144 (hZ : ZRN (ztb (tb_X7_writeNamed E d mc ms)) cut G R T Z) (f : Nat) (L : ZLV) (st : List Value) (σ : ZHp) (n k w : Nat) : Z (f + 1) 144 L st σ n k w = s_aload 0 145 L st σ n k w (zk1 cut G (Z f)) G R T := zrs hZ rfl f L st σ n k w
theorem f_X7_writeNamed_145 (hZ : ZRN (ztb (tb_X7_writeNamed E d mc ms)) cut G R T Z) (f : Nat) (L : ZLV) (st : List Value) (σ : ZHp) (n k w : Nat) : Z (f + 1) 145 L st σ n k w = s_getf 6 2 148 L st σ n k w (zk1 cut G (Z f)) G R T := zrs hZ rfl f L st σ n k w
theorem f_X7_writeNamed_148 (hZ : ZRN (ztb (tb_X7_writeNamed E d mc ms)) cut G R T Z) (f : Nat) (L : ZLV) (st : List Value) (σ : ZHp) (n k w : Nat) : Z (f + 1) 148 L st σ n k w = s_getf 5 11 151 L st σ n k w (zk1 cut G (Z f)) G R T := zrs hZ rfl f L st σ n k w
theorem f_X7_writeNamed_151 (hZ : ZRN (ztb (tb_X7_writeNamed E d mc ms)) cut G R T Z) (f : Nat) (L : ZLV) (st : List Value) (σ : ZHp) (n k w : Nat) : Z (f + 1) 151 L st σ n k w = s_aload 0 152 L st σ n k w (zk1 cut G (Z f)) G R T := zrs hZ rfl f L st σ n k w
theorem f_X7_writeNamed_152 (hZ : ZRN (ztb (tb_X7_writeNamed E d mc ms)) cut G R T Z) (f : Nat) (L : ZLV) (st : List Value) (σ : ZHp) (n k w : Nat) : Z (f + 1) 152 L st σ n k w = s_getf 6 2 155 L st σ n k w (zk1 cut G (Z f)) G R T := zrs hZ rfl f L st σ n k w
theorem f_X7_writeNamed_155 (hZ : ZRN (ztb (tb_X7_writeNamed E d mc ms)) cut G R T Z) (f : Nat) (L : ZLV) (st : List Value) (σ : ZHp) (n k w : Nat) : Z (f + 1) 155 L st σ n k w = s_getf 5 2 158 L st σ n k w (zk1 cut G (Z f)) G R T := zrs hZ rfl f L st σ n k w
theorem f_X7_writeNamed_158 (hZ : ZRN (ztb (tb_X7_writeNamed E d mc ms)) cut G R T Z) (f : Nat) (L : ZLV) (st : List Value) (σ : ZHp) (n k w : Nat) : Z (f + 1) 158 L st σ n k w = s_const (.int (1)) 159 L st σ n k w (zk1 cut G (Z f)) G R T := zrs hZ rfl f L st σ n k w
theorem f_X7_writeNamed_159 (hZ : ZRN (ztb (tb_X7_writeNamed E d mc ms)) cut G R T Z) (f : Nat) (L : ZLV) (st : List Value) (σ : ZHp) (n k w : Nat) : Z (f + 1) 159 L st σ n k w = s_isub 160 L st σ n k w (zk1 cut G (Z f)) G R T := zrs hZ rfl f L st σ n k w
theorem f_X7_writeNamed_160 (hZ : ZRN (ztb (tb_X7_writeNamed E d mc ms)) cut G R T Z) (f : Nat) (L : ZLV) (st : List Value) (σ : ZHp) (n k w : Nat) : Z (f + 1) 160 L st σ n k w = s_iload 2 161 L st σ n k w (zk1 cut G (Z f)) G R T := zrs hZ rfl f L st σ n k w
theorem f_X7_writeNamed_161 (hZ : ZRN (ztb (tb_X7_writeNamed E d mc ms)) cut G R T Z) (f : Nat) (L : ZLV) (st : List Value) (σ : ZHp) (n k w : Nat) : Z (f + 1) 161 L st σ n k w = s_callV E d mc ms 4 MX5_set 2 164 L st σ n k w (zk1 cut G (Z f)) G R T := zrs hZ rfl f L st σ n k w
theorem f_X7_writeNamed_164 (hZ : ZRN (ztb (tb_X7_writeNamed E d mc ms)) cut G R T Z) (f : Nat) (L : ZLV) (st : List Value) (σ : ZHp) (n k w : Nat) : Z (f + 1) 164 L st σ n k w = s_goto 198 L st σ n k w (zk1 cut G (Z f)) G R T := zrs hZ rfl f L st σ n k w
theorem f_X7_writeNamed_167 (hZ : ZRN (ztb (tb_X7_writeNamed E d mc ms)) cut G R T Z) (f : Nat) (L : ZLV) (st : List Value) (σ : ZHp) (n k w : Nat) : Z (f + 1) 167 L st σ n k w = s_aload 0 168 L st σ n k w (zk1 cut G (Z f)) G R T := zrs hZ rfl f L st σ n k w
theorem f_X7_writeNamed_168 (hZ : ZRN (ztb (tb_X7_writeNamed E d mc ms)) cut G R T Z) (f : Nat) (L : ZLV) (st : List Value) (σ : ZHp) (n k w : Nat) : Z (f + 1) 168 L st σ n k w = s_getf 6 2 171 L st σ n k w (zk1 cut G (Z f)) G R T := zrs hZ rfl f L st σ n k w
theorem f_X7_writeNamed_171 (hZ : ZRN (ztb (tb_X7_writeNamed E d mc ms)) cut G R T Z) (f : Nat) (L : ZLV) (st : List Value) (σ : ZHp) (n k w : Nat) : Z (f + 1) 171 L st σ n k w = s_getf 5 9 174 L st σ n k w (zk1 cut G (Z f)) G R T := zrs hZ rfl f L st σ n k w
theorem f_X7_writeNamed_174 (hZ : ZRN (ztb (tb_X7_writeNamed E d mc ms)) cut G R T Z) (f : Nat) (L : ZLV) (st : List Value) (σ : ZHp) (n k w : Nat) : Z (f + 1) 174 L st σ n k w = s_iload 3 175 L st σ n k w (zk1 cut G (Z f)) G R T := zrs hZ rfl f L st σ n k w
theorem f_X7_writeNamed_175 (hZ : ZRN (ztb (tb_X7_writeNamed E d mc ms)) cut G R T Z) (f : Nat) (L : ZLV) (st : List Value) (σ : ZHp) (n k w : Nat) : Z (f + 1) 175 L st σ n k w = s_const (.int (4)) 176 L st σ n k w (zk1 cut G (Z f)) G R T := zrs hZ rfl f L st σ n k w
theorem f_X7_writeNamed_176 (hZ : ZRN (ztb (tb_X7_writeNamed E d mc ms)) cut G R T Z) (f : Nat) (L : ZLV) (st : List Value) (σ : ZHp) (n k w : Nat) : Z (f + 1) 176 L st σ n k w = s_imul 177 L st σ n k w (zk1 cut G (Z f)) G R T := zrs hZ rfl f L st σ n k w
theorem f_X7_writeNamed_177 (hZ : ZRN (ztb (tb_X7_writeNamed E d mc ms)) cut G R T Z) (f : Nat) (L : ZLV) (st : List Value) (σ : ZHp) (n k w : Nat) : Z (f + 1) 177 L st σ n k w = s_aload 0 178 L st σ n k w (zk1 cut G (Z f)) G R T := zrs hZ rfl f L st σ n k w
theorem f_X7_writeNamed_178 (hZ : ZRN (ztb (tb_X7_writeNamed E d mc ms)) cut G R T Z) (f : Nat) (L : ZLV) (st : List Value) (σ : ZHp) (n k w : Nat) : Z (f + 1) 178 L st σ n k w = s_getf 6 2 181 L st σ n k w (zk1 cut G (Z f)) G R T := zrs hZ rfl f L st σ n k w
theorem f_X7_writeNamed_181 (hZ : ZRN (ztb (tb_X7_writeNamed E d mc ms)) cut G R T Z) (f : Nat) (L : ZLV) (st : List Value) (σ : ZHp) (n k w : Nat) : Z (f + 1) 181 L st σ n k w = s_getf 5 7 184 L st σ n k w (zk1 cut G (Z f)) G R T := zrs hZ rfl f L st σ n k w
theorem f_X7_writeNamed_184 (hZ : ZRN (ztb (tb_X7_writeNamed E d mc ms)) cut G R T Z) (f : Nat) (L : ZLV) (st : List Value) (σ : ZHp) (n k w : Nat) : Z (f + 1) 184 L st σ n k w = s_iload 3 185 L st σ n k w (zk1 cut G (Z f)) G R T := zrs hZ rfl f L st σ n k w
theorem f_X7_writeNamed_185 (hZ : ZRN (ztb (tb_X7_writeNamed E d mc ms)) cut G R T Z) (f : Nat) (L : ZLV) (st : List Value) (σ : ZHp) (n k w : Nat) : Z (f + 1) 185 L st σ n k w = s_callV E d mc ms 4 MX5_get 1 188 L st σ n k w (zk1 cut G (Z f)) G R T := zrs hZ rfl f L st σ n k w
theorem f_X7_writeNamed_188 (hZ : ZRN (ztb (tb_X7_writeNamed E d mc ms)) cut G R T Z) (f : Nat) (L : ZLV) (st : List Value) (σ : ZHp) (n k w : Nat) : Z (f + 1) 188 L st σ n k w = s_iadd 189 L st σ n k w (zk1 cut G (Z f)) G R T := zrs hZ rfl f L st σ n k w
theorem f_X7_writeNamed_189 (hZ : ZRN (ztb (tb_X7_writeNamed E d mc ms)) cut G R T Z) (f : Nat) (L : ZLV) (st : List Value) (σ : ZHp) (n k w : Nat) : Z (f + 1) 189 L st σ n k w = s_const (.int (1)) 190 L st σ n k w (zk1 cut G (Z f)) G R T := zrs hZ rfl f L st σ n k w
theorem f_X7_writeNamed_190 (hZ : ZRN (ztb (tb_X7_writeNamed E d mc ms)) cut G R T Z) (f : Nat) (L : ZLV) (st : List Value) (σ : ZHp) (n k w : Nat) : Z (f + 1) 190 L st σ n k w = s_isub 191 L st σ n k w (zk1 cut G (Z f)) G R T := zrs hZ rfl f L st σ n k w
theorem f_X7_writeNamed_191 (hZ : ZRN (ztb (tb_X7_writeNamed E d mc ms)) cut G R T Z) (f : Nat) (L : ZLV) (st : List Value) (σ : ZHp) (n k w : Nat) : Z (f + 1) 191 L st σ n k w = s_iload 2 192 L st σ n k w (zk1 cut G (Z f)) G R T := zrs hZ rfl f L st σ n k w
theorem f_X7_writeNamed_192 (hZ : ZRN (ztb (tb_X7_writeNamed E d mc ms)) cut G R T Z) (f : Nat) (L : ZLV) (st : List Value) (σ : ZHp) (n k w : Nat) : Z (f + 1) 192 L st σ n k w = s_callV E d mc ms 4 MX5_set 2 195 L st σ n k w (zk1 cut G (Z f)) G R T := zrs hZ rfl f L st σ n k w
theorem f_X7_writeNamed_195 (hZ : ZRN (ztb (tb_X7_writeNamed E d mc ms)) cut G R T Z) (f : Nat) (L : ZLV) (st : List Value) (σ : ZHp) (n k w : Nat) : Z (f + 1) 195 L st σ n k w = s_goto 198 L st σ n k w (zk1 cut G (Z f)) G R T := zrs hZ rfl f L st σ n k w
theorem f_X7_writeNamed_198 (hZ : ZRN (ztb (tb_X7_writeNamed E d mc ms)) cut G R T Z) (f : Nat) (L : ZLV) (st : List Value) (σ : ZHp) (n k w : Nat) : Z (f + 1) 198 L st σ n k w = s_return L st σ n k w (zk1 cut G (Z f)) G R T := zrs hZ rfl f L st σ n k w
theorem f_X7_find_0 (hZ : ZRN (ztb (tb_X7_find E d mc ms)) cut G R T Z) (f : Nat) (L : ZLV) (st : List Value) (σ : ZHp) (n k w : Nat) : Z (f + 1) 0 L st σ n k w = s_const (.int (0)) 1 L st σ n k w (zk1 cut G (Z f)) G R T := zrs hZ rfl f L st σ n k w
theorem f_X7_find_1 (hZ : ZRN (ztb (tb_X7_find E d mc ms)) cut G R T Z) (f : Nat) (L : ZLV) (st : List Value) (σ : ZHp) (n k w : Nat) : Z (f + 1) 1 L st σ n k w = s_istore 4 3 L st σ n k w (zk1 cut G (Z f)) G R T := zrs hZ rfl f L st σ n k w
theorem f_X7_find_3 (hZ : ZRN (ztb (tb_X7_find E d mc ms)) cut G R T Z) (f : Nat) (L : ZLV) (st : List Value) (σ : ZHp) (n k w : Nat) : Z (f + 1) 3 L st σ n k w = s_iload 4 5 L st σ n k w (zk1 cut G (Z f)) G R T := zrs hZ rfl f L st σ n k w
theorem f_X7_find_5 (hZ : ZRN (ztb (tb_X7_find E d mc ms)) cut G R T Z) (f : Nat) (L : ZLV) (st : List Value) (σ : ZHp) (n k w : Nat) : Z (f + 1) 5 L st σ n k w = s_iload 1 6 L st σ n k w (zk1 cut G (Z f)) G R T := zrs hZ rfl f L st σ n k w
theorem f_X7_find_6 (hZ : ZRN (ztb (tb_X7_find E d mc ms)) cut G R T Z) (f : Nat) (L : ZLV) (st : List Value) (σ : ZHp) (n k w : Nat) : Z (f + 1) 6 L st σ n k w = s_icmp_ge 34 9 L st σ n k w (zk1 cut G (Z f)) G R T := zrs hZ rfl f L st σ n k w
theorem f_X7_find_9 (hZ : ZRN (ztb (tb_X7_find E d mc ms)) cut G R T Z) (f : Nat) (L : ZLV) (st : List Value) (σ : ZHp) (n k w : Nat) : Z (f + 1) 9 L st σ n k w = s_iload 4 11 L st σ n k w (zk1 cut G (Z f)) G R T := zrs hZ rfl f L st σ n k w
theorem f_X7_find_11 (hZ : ZRN (ztb (tb_X7_find E d mc ms)) cut G R T Z) (f : Nat) (L : ZLV) (st : List Value) (σ : ZHp) (n k w : Nat) : Z (f + 1) 11 L st σ n k w = s_aload 0 12 L st σ n k w (zk1 cut G (Z f)) G R T := zrs hZ rfl f L st σ n k w
theorem f_X7_find_12 (hZ : ZRN (ztb (tb_X7_find E d mc ms)) cut G R T Z) (f : Nat) (L : ZLV) (st : List Value) (σ : ZHp) (n k w : Nat) : Z (f + 1) 12 L st σ n k w = s_alen E 13 L st σ n k w (zk1 cut G (Z f)) G R T := zrs hZ rfl f L st σ n k w
theorem f_X7_find_13 (hZ : ZRN (ztb (tb_X7_find E d mc ms)) cut G R T Z) (f : Nat) (L : ZLV) (st : List Value) (σ : ZHp) (n k w : Nat) : Z (f + 1) 13 L st σ n k w = s_icmp_ge 34 16 L st σ n k w (zk1 cut G (Z f)) G R T := zrs hZ rfl f L st σ n k w
theorem f_X7_find_16 (hZ : ZRN (ztb (tb_X7_find E d mc ms)) cut G R T Z) (f : Nat) (L : ZLV) (st : List Value) (σ : ZHp) (n k w : Nat) : Z (f + 1) 16 L st σ n k w = s_aload 0 17 L st σ n k w (zk1 cut G (Z f)) G R T := zrs hZ rfl f L st σ n k w
theorem f_X7_find_17 (hZ : ZRN (ztb (tb_X7_find E d mc ms)) cut G R T Z) (f : Nat) (L : ZLV) (st : List Value) (σ : ZHp) (n k w : Nat) : Z (f + 1) 17 L st σ n k w = s_iload 4 19 L st σ n k w (zk1 cut G (Z f)) G R T := zrs hZ rfl f L st σ n k w
theorem f_X7_find_19 (hZ : ZRN (ztb (tb_X7_find E d mc ms)) cut G R T Z) (f : Nat) (L : ZLV) (st : List Value) (σ : ZHp) (n k w : Nat) : Z (f + 1) 19 L st σ n k w = s_laload E 20 L st σ n k w (zk1 cut G (Z f)) G R T := zrs hZ rfl f L st σ n k w
theorem f_X7_find_20 (hZ : ZRN (ztb (tb_X7_find E d mc ms)) cut G R T Z) (f : Nat) (L : ZLV) (st : List Value) (σ : ZHp) (n k w : Nat) : Z (f + 1) 20 L st σ n k w = s_lload 2 21 L st σ n k w (zk1 cut G (Z f)) G R T := zrs hZ rfl f L st σ n k w
theorem f_X7_find_21 (hZ : ZRN (ztb (tb_X7_find E d mc ms)) cut G R T Z) (f : Nat) (L : ZLV) (st : List Value) (σ : ZHp) (n k w : Nat) : Z (f + 1) 21 L st σ n k w = s_lcmp 22 L st σ n k w (zk1 cut G (Z f)) G R T := zrs hZ rfl f L st σ n k w
theorem f_X7_find_22 (hZ : ZRN (ztb (tb_X7_find E d mc ms)) cut G R T Z) (f : Nat) (L : ZLV) (st : List Value) (σ : ZHp) (n k w : Nat) : Z (f + 1) 22 L st σ n k w = s_if_ne 28 25 L st σ n k w (zk1 cut G (Z f)) G R T := zrs hZ rfl f L st σ n k w
theorem f_X7_find_25 (hZ : ZRN (ztb (tb_X7_find E d mc ms)) cut G R T Z) (f : Nat) (L : ZLV) (st : List Value) (σ : ZHp) (n k w : Nat) : Z (f + 1) 25 L st σ n k w = s_iload 4 27 L st σ n k w (zk1 cut G (Z f)) G R T := zrs hZ rfl f L st σ n k w
theorem f_X7_find_27 (hZ : ZRN (ztb (tb_X7_find E d mc ms)) cut G R T Z) (f : Nat) (L : ZLV) (st : List Value) (σ : ZHp) (n k w : Nat) : Z (f + 1) 27 L st σ n k w = s_ireturn L st σ n k w (zk1 cut G (Z f)) G R T := zrs hZ rfl f L st σ n k w
theorem f_X7_find_28 (hZ : ZRN (ztb (tb_X7_find E d mc ms)) cut G R T Z) (f : Nat) (L : ZLV) (st : List Value) (σ : ZHp) (n k w : Nat) : Z (f + 1) 28 L st σ n k w = s_iinc 4 (1) 31 L st σ n k w (zk1 cut G (Z f)) G R T := zrs hZ rfl f L st σ n k w
theorem f_X7_find_31 (hZ : ZRN (ztb (tb_X7_find E d mc ms)) cut G R T Z) (f : Nat) (L : ZLV) (st : List Value) (σ : ZHp) (n k w : Nat) : Z (f + 1) 31 L st σ n k w = s_goto 3 L st σ n k w (zk1 cut G (Z f)) G R T := zrs hZ rfl f L st σ n k w
theorem f_X7_find_34 (hZ : ZRN (ztb (tb_X7_find E d mc ms)) cut G R T Z) (f : Nat) (L : ZLV) (st : List Value) (σ : ZHp) (n k w : Nat) : Z (f + 1) 34 L st σ n k w = s_const (.int (-1)) 35 L st σ n k w (zk1 cut G (Z f)) G R T := zrs hZ rfl f L st σ n k w
theorem f_X7_find_35 (hZ : ZRN (ztb (tb_X7_find E d mc ms)) cut G R T Z) (f : Nat) (L : ZLV) (st : List Value) (σ : ZHp) (n k w : Nat) : Z (f + 1) 35 L st σ n k w = s_ireturn L st σ n k w (zk1 cut G (Z f)) G R T := zrs hZ rfl f L st σ n k w
theorem f_X8_spelled_0 (hZ : ZRN (ztb (tb_X8_spelled E d mc ms)) cut G R T Z) (f : Nat) (L : ZLV) (st : List Value) (σ : ZHp) (n k w : Nat) : Z (f + 1) 0 L st σ n k w = s_const (.ref (zeK E 46)) 3 L st σ n k w (zk1 cut G (Z f)) G R T := zrs hZ rfl f L st σ n k w
theorem f_X8_spelled_3 (hZ : ZRN (ztb (tb_X8_spelled E d mc ms)) cut G R T Z) (f : Nat) (L : ZLV) (st : List Value) (σ : ZHp) (n k w : Nat) : Z (f + 1) 3 L st σ n k w = s_astore 3 4 L st σ n k w (zk1 cut G (Z f)) G R T := zrs hZ rfl f L st σ n k w
theorem f_X8_spelled_4 (hZ : ZRN (ztb (tb_X8_spelled E d mc ms)) cut G R T Z) (f : Nat) (L : ZLV) (st : List Value) (σ : ZHp) (n k w : Nat) : Z (f + 1) 4 L st σ n k w = s_aload 3 5 L st σ n k w (zk1 cut G (Z f)) G R T := zrs hZ rfl f L st σ n k w
theorem f_X8_spelled_5 (hZ : ZRN (ztb (tb_X8_spelled E d mc ms)) cut G R T Z) (f : Nat) (L : ZLV) (st : List Value) (σ : ZHp) (n k w : Nat) : Z (f + 1) 5 L st σ n k w = s_alenK E 46 46 6 L st σ n k w (zk1 cut G (Z f)) G R T := zrs hZ rfl f L st σ n k w
theorem f_X8_spelled_6 (hZ : ZRN (ztb (tb_X8_spelled E d mc ms)) cut G R T Z) (f : Nat) (L : ZLV) (st : List Value) (σ : ZHp) (n k w : Nat) : Z (f + 1) 6 L st σ n k w = s_istore 4 8 L st σ n k w (zk1 cut G (Z f)) G R T := zrs hZ rfl f L st σ n k w
theorem f_X8_spelled_8 (hZ : ZRN (ztb (tb_X8_spelled E d mc ms)) cut G R T Z) (f : Nat) (L : ZLV) (st : List Value) (σ : ZHp) (n k w : Nat) : Z (f + 1) 8 L st σ n k w = s_const (.int (0)) 9 L st σ n k w (zk1 cut G (Z f)) G R T := zrs hZ rfl f L st σ n k w
theorem f_X8_spelled_9 (hZ : ZRN (ztb (tb_X8_spelled E d mc ms)) cut G R T Z) (f : Nat) (L : ZLV) (st : List Value) (σ : ZHp) (n k w : Nat) : Z (f + 1) 9 L st σ n k w = s_istore 5 11 L st σ n k w (zk1 cut G (Z f)) G R T := zrs hZ rfl f L st σ n k w
theorem f_X8_spelled_11 (hZ : ZRN (ztb (tb_X8_spelled E d mc ms)) cut G R T Z) (f : Nat) (L : ZLV) (st : List Value) (σ : ZHp) (n k w : Nat) : Z (f + 1) 11 L st σ n k w = s_iload 5 13 L st σ n k w (zk1 cut G (Z f)) G R T := zrs hZ rfl f L st σ n k w
theorem f_X8_spelled_13 (hZ : ZRN (ztb (tb_X8_spelled E d mc ms)) cut G R T Z) (f : Nat) (L : ZLV) (st : List Value) (σ : ZHp) (n k w : Nat) : Z (f + 1) 13 L st σ n k w = s_iload 4 15 L st σ n k w (zk1 cut G (Z f)) G R T := zrs hZ rfl f L st σ n k w
theorem f_X8_spelled_15 (hZ : ZRN (ztb (tb_X8_spelled E d mc ms)) cut G R T Z) (f : Nat) (L : ZLV) (st : List Value) (σ : ZHp) (n k w : Nat) : Z (f + 1) 15 L st σ n k w = s_icmp_ge 49 18 L st σ n k w (zk1 cut G (Z f)) G R T := zrs hZ rfl f L st σ n k w
theorem f_X8_spelled_18 (hZ : ZRN (ztb (tb_X8_spelled E d mc ms)) cut G R T Z) (f : Nat) (L : ZLV) (st : List Value) (σ : ZHp) (n k w : Nat) : Z (f + 1) 18 L st σ n k w = s_aload 3 19 L st σ n k w (zk1 cut G (Z f)) G R T := zrs hZ rfl f L st σ n k w
theorem f_X8_spelled_19 (hZ : ZRN (ztb (tb_X8_spelled E d mc ms)) cut G R T Z) (f : Nat) (L : ZLV) (st : List Value) (σ : ZHp) (n k w : Nat) : Z (f + 1) 19 L st σ n k w = s_iload 5 21 L st σ n k w (zk1 cut G (Z f)) G R T := zrs hZ rfl f L st σ n k w
theorem f_X8_spelled_21 (hZ : ZRN (ztb (tb_X8_spelled E d mc ms)) cut G R T Z) (f : Nat) (L : ZLV) (st : List Value) (σ : ZHp) (n k w : Nat) : Z (f + 1) 21 L st σ n k w = s_aaldK E 46 46 (fun j => j) 22 L st σ n k w (zk1 cut G (Z f)) G R T := zrs hZ rfl f L st σ n k w
theorem f_X8_spelled_22 (hZ : ZRN (ztb (tb_X8_spelled E d mc ms)) cut G R T Z) (f : Nat) (L : ZLV) (st : List Value) (σ : ZHp) (n k w : Nat) : Z (f + 1) 22 L st σ n k w = s_astore 6 24 L st σ n k w (zk1 cut G (Z f)) G R T := zrs hZ rfl f L st σ n k w
theorem f_X8_spelled_24 (hZ : ZRN (ztb (tb_X8_spelled E d mc ms)) cut G R T Z) (f : Nat) (L : ZLV) (st : List Value) (σ : ZHp) (n k w : Nat) : Z (f + 1) 24 L st σ n k w = s_aload 6 26 L st σ n k w (zk1 cut G (Z f)) G R T := zrs hZ rfl f L st σ n k w
theorem f_X8_spelled_26 (hZ : ZRN (ztb (tb_X8_spelled E d mc ms)) cut G R T Z) (f : Nat) (L : ZLV) (st : List Value) (σ : ZHp) (n k w : Nat) : Z (f + 1) 26 L st σ n k w = s_ifnull 43 29 L st σ n k w (zk1 cut G (Z f)) G R T := zrs hZ rfl f L st σ n k w
theorem f_X8_spelled_29 (hZ : ZRN (ztb (tb_X8_spelled E d mc ms)) cut G R T Z) (f : Nat) (L : ZLV) (st : List Value) (σ : ZHp) (n k w : Nat) : Z (f + 1) 29 L st σ n k w = s_aload 6 31 L st σ n k w (zk1 cut G (Z f)) G R T := zrs hZ rfl f L st σ n k w
theorem f_X8_spelled_31 (hZ : ZRN (ztb (tb_X8_spelled E d mc ms)) cut G R T Z) (f : Nat) (L : ZLV) (st : List Value) (σ : ZHp) (n k w : Nat) : Z (f + 1) 31 L st σ n k w = s_aload 0 32 L st σ n k w (zk1 cut G (Z f)) G R T := zrs hZ rfl f L st σ n k w
theorem f_X8_spelled_32 (hZ : ZRN (ztb (tb_X8_spelled E d mc ms)) cut G R T Z) (f : Nat) (L : ZLV) (st : List Value) (σ : ZHp) (n k w : Nat) : Z (f + 1) 32 L st σ n k w = s_iload 1 33 L st σ n k w (zk1 cut G (Z f)) G R T := zrs hZ rfl f L st σ n k w
theorem f_X8_spelled_33 (hZ : ZRN (ztb (tb_X8_spelled E d mc ms)) cut G R T Z) (f : Nat) (L : ZLV) (st : List Value) (σ : ZHp) (n k w : Nat) : Z (f + 1) 33 L st σ n k w = s_iload 2 34 L st σ n k w (zk1 cut G (Z f)) G R T := zrs hZ rfl f L st σ n k w
theorem f_X8_spelled_34 (hZ : ZRN (ztb (tb_X8_spelled E d mc ms)) cut G R T Z) (f : Nat) (L : ZLV) (st : List Value) (σ : ZHp) (n k w : Nat) : Z (f + 1) 34 L st σ n k w = s_callK E d mc ms 0 46 MX8_isSpelled 3 37 L st σ n k w (zk1 cut G (Z f)) G R T := zrs hZ rfl f L st σ n k w
theorem f_X8_spelled_37 (hZ : ZRN (ztb (tb_X8_spelled E d mc ms)) cut G R T Z) (f : Nat) (L : ZLV) (st : List Value) (σ : ZHp) (n k w : Nat) : Z (f + 1) 37 L st σ n k w = s_if_eq 43 40 L st σ n k w (zk1 cut G (Z f)) G R T := zrs hZ rfl f L st σ n k w
theorem f_X8_spelled_40 (hZ : ZRN (ztb (tb_X8_spelled E d mc ms)) cut G R T Z) (f : Nat) (L : ZLV) (st : List Value) (σ : ZHp) (n k w : Nat) : Z (f + 1) 40 L st σ n k w = s_aload 6 42 L st σ n k w (zk1 cut G (Z f)) G R T := zrs hZ rfl f L st σ n k w
theorem f_X8_spelled_42 (hZ : ZRN (ztb (tb_X8_spelled E d mc ms)) cut G R T Z) (f : Nat) (L : ZLV) (st : List Value) (σ : ZHp) (n k w : Nat) : Z (f + 1) 42 L st σ n k w = s_areturn L st σ n k w (zk1 cut G (Z f)) G R T := zrs hZ rfl f L st σ n k w
theorem f_X8_spelled_43 (hZ : ZRN (ztb (tb_X8_spelled E d mc ms)) cut G R T Z) (f : Nat) (L : ZLV) (st : List Value) (σ : ZHp) (n k w : Nat) : Z (f + 1) 43 L st σ n k w = s_iinc 5 (1) 46 L st σ n k w (zk1 cut G (Z f)) G R T := zrs hZ rfl f L st σ n k w
theorem f_X8_spelled_46 (hZ : ZRN (ztb (tb_X8_spelled E d mc ms)) cut G R T Z) (f : Nat) (L : ZLV) (st : List Value) (σ : ZHp) (n k w : Nat) : Z (f + 1) 46 L st σ n k w = s_goto 11 L st σ n k w (zk1 cut G (Z f)) G R T := zrs hZ rfl f L st σ n k w
theorem f_X8_spelled_49 (hZ : ZRN (ztb (tb_X8_spelled E d mc ms)) cut G R T Z) (f : Nat) (L : ZLV) (st : List Value) (σ : ZHp) (n k w : Nat) : Z (f + 1) 49 L st σ n k w = s_const (.ref (zeK E 0)) 52 L st σ n k w (zk1 cut G (Z f)) G R T := zrs hZ rfl f L st σ n k w
theorem f_X8_spelled_52 (hZ : ZRN (ztb (tb_X8_spelled E d mc ms)) cut G R T Z) (f : Nat) (L : ZLV) (st : List Value) (σ : ZHp) (n k w : Nat) : Z (f + 1) 52 L st σ n k w = s_areturn L st σ n k w (zk1 cut G (Z f)) G R T := zrs hZ rfl f L st σ n k w
theorem f_X8_isSpelled_0 (hZ : ZRN (ztb (tb_X8_isSpelled E d mc ms)) cut G R T Z) (f : Nat) (L : ZLV) (st : List Value) (σ : ZHp) (n k w : Nat) : Z (f + 1) 0 L st σ n k w = s_aload 0 1 L st σ n k w (zk1 cut G (Z f)) G R T := zrs hZ rfl f L st σ n k w
theorem f_X8_isSpelled_1 (hZ : ZRN (ztb (tb_X8_isSpelled E d mc ms)) cut G R T Z) (f : Nat) (L : ZLV) (st : List Value) (σ : ZHp) (n k w : Nat) : Z (f + 1) 1 L st σ n k w = s_getfK E 0 46 (fun j => .ref (zeK E (50 + j))) 4 L st σ n k w (zk1 cut G (Z f)) G R T := zrs hZ rfl f L st σ n k w
theorem f_X8_isSpelled_4 (hZ : ZRN (ztb (tb_X8_isSpelled E d mc ms)) cut G R T Z) (f : Nat) (L : ZLV) (st : List Value) (σ : ZHp) (n k w : Nat) : Z (f + 1) 4 L st σ n k w = s_callK E d mc ms 50 123 MJ0_length_8abf5 0 7 L st σ n k w (zk1 cut G (Z f)) G R T := zrs hZ rfl f L st σ n k w
theorem f_X8_isSpelled_7 (hZ : ZRN (ztb (tb_X8_isSpelled E d mc ms)) cut G R T Z) (f : Nat) (L : ZLV) (st : List Value) (σ : ZHp) (n k w : Nat) : Z (f + 1) 7 L st σ n k w = s_if_eq 21 10 L st σ n k w (zk1 cut G (Z f)) G R T := zrs hZ rfl f L st σ n k w
theorem f_X8_isSpelled_10 (hZ : ZRN (ztb (tb_X8_isSpelled E d mc ms)) cut G R T Z) (f : Nat) (L : ZLV) (st : List Value) (σ : ZHp) (n k w : Nat) : Z (f + 1) 10 L st σ n k w = s_aload 0 11 L st σ n k w (zk1 cut G (Z f)) G R T := zrs hZ rfl f L st σ n k w
theorem f_X8_isSpelled_11 (hZ : ZRN (ztb (tb_X8_isSpelled E d mc ms)) cut G R T Z) (f : Nat) (L : ZLV) (st : List Value) (σ : ZHp) (n k w : Nat) : Z (f + 1) 11 L st σ n k w = s_getfK E 0 46 (fun j => .ref (zeK E (50 + j))) 14 L st σ n k w (zk1 cut G (Z f)) G R T := zrs hZ rfl f L st σ n k w
theorem f_X8_isSpelled_14 (hZ : ZRN (ztb (tb_X8_isSpelled E d mc ms)) cut G R T Z) (f : Nat) (L : ZLV) (st : List Value) (σ : ZHp) (n k w : Nat) : Z (f + 1) 14 L st σ n k w = s_callK E d mc ms 50 123 MJ0_length_8abf5 0 17 L st σ n k w (zk1 cut G (Z f)) G R T := zrs hZ rfl f L st σ n k w
theorem f_X8_isSpelled_17 (hZ : ZRN (ztb (tb_X8_isSpelled E d mc ms)) cut G R T Z) (f : Nat) (L : ZLV) (st : List Value) (σ : ZHp) (n k w : Nat) : Z (f + 1) 17 L st σ n k w = s_iload 3 18 L st σ n k w (zk1 cut G (Z f)) G R T := zrs hZ rfl f L st σ n k w
theorem f_X8_isSpelled_18 (hZ : ZRN (ztb (tb_X8_isSpelled E d mc ms)) cut G R T Z) (f : Nat) (L : ZLV) (st : List Value) (σ : ZHp) (n k w : Nat) : Z (f + 1) 18 L st σ n k w = s_icmp_eq 23 21 L st σ n k w (zk1 cut G (Z f)) G R T := zrs hZ rfl f L st σ n k w
theorem f_X8_isSpelled_21 (hZ : ZRN (ztb (tb_X8_isSpelled E d mc ms)) cut G R T Z) (f : Nat) (L : ZLV) (st : List Value) (σ : ZHp) (n k w : Nat) : Z (f + 1) 21 L st σ n k w = s_const (.int (0)) 22 L st σ n k w (zk1 cut G (Z f)) G R T := zrs hZ rfl f L st σ n k w
theorem f_X8_isSpelled_22 (hZ : ZRN (ztb (tb_X8_isSpelled E d mc ms)) cut G R T Z) (f : Nat) (L : ZLV) (st : List Value) (σ : ZHp) (n k w : Nat) : Z (f + 1) 22 L st σ n k w = s_zreturn L st σ n k w (zk1 cut G (Z f)) G R T := zrs hZ rfl f L st σ n k w
theorem f_X8_isSpelled_23 (hZ : ZRN (ztb (tb_X8_isSpelled E d mc ms)) cut G R T Z) (f : Nat) (L : ZLV) (st : List Value) (σ : ZHp) (n k w : Nat) : Z (f + 1) 23 L st σ n k w = s_const (.int (0)) 24 L st σ n k w (zk1 cut G (Z f)) G R T := zrs hZ rfl f L st σ n k w
theorem f_X8_isSpelled_24 (hZ : ZRN (ztb (tb_X8_isSpelled E d mc ms)) cut G R T Z) (f : Nat) (L : ZLV) (st : List Value) (σ : ZHp) (n k w : Nat) : Z (f + 1) 24 L st σ n k w = s_istore 4 26 L st σ n k w (zk1 cut G (Z f)) G R T := zrs hZ rfl f L st σ n k w
theorem f_X8_isSpelled_26 (hZ : ZRN (ztb (tb_X8_isSpelled E d mc ms)) cut G R T Z) (f : Nat) (L : ZLV) (st : List Value) (σ : ZHp) (n k w : Nat) : Z (f + 1) 26 L st σ n k w = s_iload 4 28 L st σ n k w (zk1 cut G (Z f)) G R T := zrs hZ rfl f L st σ n k w
theorem f_X8_isSpelled_28 (hZ : ZRN (ztb (tb_X8_isSpelled E d mc ms)) cut G R T Z) (f : Nat) (L : ZLV) (st : List Value) (σ : ZHp) (n k w : Nat) : Z (f + 1) 28 L st σ n k w = s_iload 3 29 L st σ n k w (zk1 cut G (Z f)) G R T := zrs hZ rfl f L st σ n k w
theorem f_X8_isSpelled_29 (hZ : ZRN (ztb (tb_X8_isSpelled E d mc ms)) cut G R T Z) (f : Nat) (L : ZLV) (st : List Value) (σ : ZHp) (n k w : Nat) : Z (f + 1) 29 L st σ n k w = s_icmp_ge 60 32 L st σ n k w (zk1 cut G (Z f)) G R T := zrs hZ rfl f L st σ n k w
theorem f_X8_isSpelled_32 (hZ : ZRN (ztb (tb_X8_isSpelled E d mc ms)) cut G R T Z) (f : Nat) (L : ZLV) (st : List Value) (σ : ZHp) (n k w : Nat) : Z (f + 1) 32 L st σ n k w = s_aload 1 33 L st σ n k w (zk1 cut G (Z f)) G R T := zrs hZ rfl f L st σ n k w
theorem f_X8_isSpelled_33 (hZ : ZRN (ztb (tb_X8_isSpelled E d mc ms)) cut G R T Z) (f : Nat) (L : ZLV) (st : List Value) (σ : ZHp) (n k w : Nat) : Z (f + 1) 33 L st σ n k w = s_iload 2 34 L st σ n k w (zk1 cut G (Z f)) G R T := zrs hZ rfl f L st σ n k w
theorem f_X8_isSpelled_34 (hZ : ZRN (ztb (tb_X8_isSpelled E d mc ms)) cut G R T Z) (f : Nat) (L : ZLV) (st : List Value) (σ : ZHp) (n k w : Nat) : Z (f + 1) 34 L st σ n k w = s_iload 4 36 L st σ n k w (zk1 cut G (Z f)) G R T := zrs hZ rfl f L st σ n k w
theorem f_X8_isSpelled_36 (hZ : ZRN (ztb (tb_X8_isSpelled E d mc ms)) cut G R T Z) (f : Nat) (L : ZLV) (st : List Value) (σ : ZHp) (n k w : Nat) : Z (f + 1) 36 L st σ n k w = s_iadd 37 L st σ n k w (zk1 cut G (Z f)) G R T := zrs hZ rfl f L st σ n k w
theorem f_X8_isSpelled_37 (hZ : ZRN (ztb (tb_X8_isSpelled E d mc ms)) cut G R T Z) (f : Nat) (L : ZLV) (st : List Value) (σ : ZHp) (n k w : Nat) : Z (f + 1) 37 L st σ n k w = s_callV E d mc ms 8 MX9_at 1 40 L st σ n k w (zk1 cut G (Z f)) G R T := zrs hZ rfl f L st σ n k w
theorem f_X8_isSpelled_40 (hZ : ZRN (ztb (tb_X8_isSpelled E d mc ms)) cut G R T Z) (f : Nat) (L : ZLV) (st : List Value) (σ : ZHp) (n k w : Nat) : Z (f + 1) 40 L st σ n k w = s_aload 0 41 L st σ n k w (zk1 cut G (Z f)) G R T := zrs hZ rfl f L st σ n k w
theorem f_X8_isSpelled_41 (hZ : ZRN (ztb (tb_X8_isSpelled E d mc ms)) cut G R T Z) (f : Nat) (L : ZLV) (st : List Value) (σ : ZHp) (n k w : Nat) : Z (f + 1) 41 L st σ n k w = s_getfK E 0 46 (fun j => .ref (zeK E (50 + j))) 44 L st σ n k w (zk1 cut G (Z f)) G R T := zrs hZ rfl f L st σ n k w
theorem f_X8_isSpelled_44 (hZ : ZRN (ztb (tb_X8_isSpelled E d mc ms)) cut G R T Z) (f : Nat) (L : ZLV) (st : List Value) (σ : ZHp) (n k w : Nat) : Z (f + 1) 44 L st σ n k w = s_iload 4 46 L st σ n k w (zk1 cut G (Z f)) G R T := zrs hZ rfl f L st σ n k w
theorem f_X8_isSpelled_46 (hZ : ZRN (ztb (tb_X8_isSpelled E d mc ms)) cut G R T Z) (f : Nat) (L : ZLV) (st : List Value) (σ : ZHp) (n k w : Nat) : Z (f + 1) 46 L st σ n k w = s_callK E d mc ms 50 123 MJ0_charAt_5068e 1 49 L st σ n k w (zk1 cut G (Z f)) G R T := zrs hZ rfl f L st σ n k w
theorem f_X8_isSpelled_49 (hZ : ZRN (ztb (tb_X8_isSpelled E d mc ms)) cut G R T Z) (f : Nat) (L : ZLV) (st : List Value) (σ : ZHp) (n k w : Nat) : Z (f + 1) 49 L st σ n k w = s_icmp_eq 54 52 L st σ n k w (zk1 cut G (Z f)) G R T := zrs hZ rfl f L st σ n k w
theorem f_X8_isSpelled_52 (hZ : ZRN (ztb (tb_X8_isSpelled E d mc ms)) cut G R T Z) (f : Nat) (L : ZLV) (st : List Value) (σ : ZHp) (n k w : Nat) : Z (f + 1) 52 L st σ n k w = s_const (.int (0)) 53 L st σ n k w (zk1 cut G (Z f)) G R T := zrs hZ rfl f L st σ n k w
theorem f_X8_isSpelled_53 (hZ : ZRN (ztb (tb_X8_isSpelled E d mc ms)) cut G R T Z) (f : Nat) (L : ZLV) (st : List Value) (σ : ZHp) (n k w : Nat) : Z (f + 1) 53 L st σ n k w = s_zreturn L st σ n k w (zk1 cut G (Z f)) G R T := zrs hZ rfl f L st σ n k w
theorem f_X8_isSpelled_54 (hZ : ZRN (ztb (tb_X8_isSpelled E d mc ms)) cut G R T Z) (f : Nat) (L : ZLV) (st : List Value) (σ : ZHp) (n k w : Nat) : Z (f + 1) 54 L st σ n k w = s_iinc 4 (1) 57 L st σ n k w (zk1 cut G (Z f)) G R T := zrs hZ rfl f L st σ n k w
theorem f_X8_isSpelled_57 (hZ : ZRN (ztb (tb_X8_isSpelled E d mc ms)) cut G R T Z) (f : Nat) (L : ZLV) (st : List Value) (σ : ZHp) (n k w : Nat) : Z (f + 1) 57 L st σ n k w = s_goto 26 L st σ n k w (zk1 cut G (Z f)) G R T := zrs hZ rfl f L st σ n k w
theorem f_X8_isSpelled_60 (hZ : ZRN (ztb (tb_X8_isSpelled E d mc ms)) cut G R T Z) (f : Nat) (L : ZLV) (st : List Value) (σ : ZHp) (n k w : Nat) : Z (f + 1) 60 L st σ n k w = s_const (.int (1)) 61 L st σ n k w (zk1 cut G (Z f)) G R T := zrs hZ rfl f L st σ n k w
theorem f_X8_isSpelled_61 (hZ : ZRN (ztb (tb_X8_isSpelled E d mc ms)) cut G R T Z) (f : Nat) (L : ZLV) (st : List Value) (σ : ZHp) (n k w : Nat) : Z (f + 1) 61 L st σ n k w = s_zreturn L st σ n k w (zk1 cut G (Z f)) G R T := zrs hZ rfl f L st σ n k w
theorem f_X10_init_0 (hZ : ZRN (ztb (tb_X10_init E d mc ms)) cut G R T Z) (f : Nat) (L : ZLV) (st : List Value) (σ : ZHp) (n k w : Nat) : Z (f + 1) 0 L st σ n k w = s_aload 0 1 L st σ n k w (zk1 cut G (Z f)) G R T := zrs hZ rfl f L st σ n k w
theorem f_X10_init_1 (hZ : ZRN (ztb (tb_X10_init E d mc ms)) cut G R T Z) (f : Nat) (L : ZLV) (st : List Value) (σ : ZHp) (n k w : Nat) : Z (f + 1) 1 L st σ n k w = s_objinit d 4 L st σ n k w (zk1 cut G (Z f)) G R T := zrs hZ rfl f L st σ n k w
theorem f_X10_init_4 (hZ : ZRN (ztb (tb_X10_init E d mc ms)) cut G R T Z) (f : Nat) (L : ZLV) (st : List Value) (σ : ZHp) (n k w : Nat) : Z (f + 1) 4 L st σ n k w = s_aload 0 5 L st σ n k w (zk1 cut G (Z f)) G R T := zrs hZ rfl f L st σ n k w
theorem f_X10_init_5 (hZ : ZRN (ztb (tb_X10_init E d mc ms)) cut G R T Z) (f : Nat) (L : ZLV) (st : List Value) (σ : ZHp) (n k w : Nat) : Z (f + 1) 5 L st σ n k w = s_const (.int (401)) 8 L st σ n k w (zk1 cut G (Z f)) G R T := zrs hZ rfl f L st σ n k w
theorem f_X10_init_8 (hZ : ZRN (ztb (tb_X10_init E d mc ms)) cut G R T Z) (f : Nat) (L : ZLV) (st : List Value) (σ : ZHp) (n k w : Nat) : Z (f + 1) 8 L st σ n k w = s_anewS E mc ms 11 L st σ n k w (zk1 cut G (Z f)) G R T := zrs hZ rfl f L st σ n k w
theorem f_X10_init_11 (hZ : ZRN (ztb (tb_X10_init E d mc ms)) cut G R T Z) (f : Nat) (L : ZLV) (st : List Value) (σ : ZHp) (n k w : Nat) : Z (f + 1) 11 L st σ n k w = s_putf 9 0 3 14 L st σ n k w (zk1 cut G (Z f)) G R T := zrs hZ rfl f L st σ n k w
theorem f_X10_init_14 (hZ : ZRN (ztb (tb_X10_init E d mc ms)) cut G R T Z) (f : Nat) (L : ZLV) (st : List Value) (σ : ZHp) (n k w : Nat) : Z (f + 1) 14 L st σ n k w = s_aload 0 15 L st σ n k w (zk1 cut G (Z f)) G R T := zrs hZ rfl f L st σ n k w
theorem f_X10_init_15 (hZ : ZRN (ztb (tb_X10_init E d mc ms)) cut G R T Z) (f : Nat) (L : ZLV) (st : List Value) (σ : ZHp) (n k w : Nat) : Z (f + 1) 15 L st σ n k w = s_new 4 2 fsX5 mc ms 18 L st σ n k w (zk1 cut G (Z f)) G R T := zrs hZ rfl f L st σ n k w
theorem f_X10_init_18 (hZ : ZRN (ztb (tb_X10_init E d mc ms)) cut G R T Z) (f : Nat) (L : ZLV) (st : List Value) (σ : ZHp) (n k w : Nat) : Z (f + 1) 18 L st σ n k w = s_dup 19 L st σ n k w (zk1 cut G (Z f)) G R T := zrs hZ rfl f L st σ n k w
theorem f_X10_init_19 (hZ : ZRN (ztb (tb_X10_init E d mc ms)) cut G R T Z) (f : Nat) (L : ZLV) (st : List Value) (σ : ZHp) (n k w : Nat) : Z (f + 1) 19 L st σ n k w = s_const (.int (401)) 22 L st σ n k w (zk1 cut G (Z f)) G R T := zrs hZ rfl f L st σ n k w
theorem f_X10_init_22 (hZ : ZRN (ztb (tb_X10_init E d mc ms)) cut G R T Z) (f : Nat) (L : ZLV) (st : List Value) (σ : ZHp) (n k w : Nat) : Z (f + 1) 22 L st σ n k w = s_callI E d mc ms MX5_init 1 25 L st σ n k w (zk1 cut G (Z f)) G R T := zrs hZ rfl f L st σ n k w
theorem f_X10_init_25 (hZ : ZRN (ztb (tb_X10_init E d mc ms)) cut G R T Z) (f : Nat) (L : ZLV) (st : List Value) (σ : ZHp) (n k w : Nat) : Z (f + 1) 25 L st σ n k w = s_putf 9 1 3 28 L st σ n k w (zk1 cut G (Z f)) G R T := zrs hZ rfl f L st σ n k w
theorem f_X10_init_28 (hZ : ZRN (ztb (tb_X10_init E d mc ms)) cut G R T Z) (f : Nat) (L : ZLV) (st : List Value) (σ : ZHp) (n k w : Nat) : Z (f + 1) 28 L st σ n k w = s_aload 0 29 L st σ n k w (zk1 cut G (Z f)) G R T := zrs hZ rfl f L st σ n k w
theorem f_X10_init_29 (hZ : ZRN (ztb (tb_X10_init E d mc ms)) cut G R T Z) (f : Nat) (L : ZLV) (st : List Value) (σ : ZHp) (n k w : Nat) : Z (f + 1) 29 L st σ n k w = s_const (.int (401)) 32 L st σ n k w (zk1 cut G (Z f)) G R T := zrs hZ rfl f L st σ n k w
theorem f_X10_init_32 (hZ : ZRN (ztb (tb_X10_init E d mc ms)) cut G R T Z) (f : Nat) (L : ZLV) (st : List Value) (σ : ZHp) (n k w : Nat) : Z (f + 1) 32 L st σ n k w = s_newL E mc ms 34 L st σ n k w (zk1 cut G (Z f)) G R T := zrs hZ rfl f L st σ n k w
theorem f_X10_init_34 (hZ : ZRN (ztb (tb_X10_init E d mc ms)) cut G R T Z) (f : Nat) (L : ZLV) (st : List Value) (σ : ZHp) (n k w : Nat) : Z (f + 1) 34 L st σ n k w = s_putf 9 2 3 37 L st σ n k w (zk1 cut G (Z f)) G R T := zrs hZ rfl f L st σ n k w
theorem f_X10_init_37 (hZ : ZRN (ztb (tb_X10_init E d mc ms)) cut G R T Z) (f : Nat) (L : ZLV) (st : List Value) (σ : ZHp) (n k w : Nat) : Z (f + 1) 37 L st σ n k w = s_aload 0 38 L st σ n k w (zk1 cut G (Z f)) G R T := zrs hZ rfl f L st σ n k w
theorem f_X10_init_38 (hZ : ZRN (ztb (tb_X10_init E d mc ms)) cut G R T Z) (f : Nat) (L : ZLV) (st : List Value) (σ : ZHp) (n k w : Nat) : Z (f + 1) 38 L st σ n k w = s_const (.int (0)) 39 L st σ n k w (zk1 cut G (Z f)) G R T := zrs hZ rfl f L st σ n k w
theorem f_X10_init_39 (hZ : ZRN (ztb (tb_X10_init E d mc ms)) cut G R T Z) (f : Nat) (L : ZLV) (st : List Value) (σ : ZHp) (n k w : Nat) : Z (f + 1) 39 L st σ n k w = s_putf 9 3 0 42 L st σ n k w (zk1 cut G (Z f)) G R T := zrs hZ rfl f L st σ n k w
theorem f_X10_init_42 (hZ : ZRN (ztb (tb_X10_init E d mc ms)) cut G R T Z) (f : Nat) (L : ZLV) (st : List Value) (σ : ZHp) (n k w : Nat) : Z (f + 1) 42 L st σ n k w = s_aload 0 43 L st σ n k w (zk1 cut G (Z f)) G R T := zrs hZ rfl f L st σ n k w
theorem f_X10_init_43 (hZ : ZRN (ztb (tb_X10_init E d mc ms)) cut G R T Z) (f : Nat) (L : ZLV) (st : List Value) (σ : ZHp) (n k w : Nat) : Z (f + 1) 43 L st σ n k w = s_const (.ref (zeK E 1)) 46 L st σ n k w (zk1 cut G (Z f)) G R T := zrs hZ rfl f L st σ n k w
theorem f_X10_init_46 (hZ : ZRN (ztb (tb_X10_init E d mc ms)) cut G R T Z) (f : Nat) (L : ZLV) (st : List Value) (σ : ZHp) (n k w : Nat) : Z (f + 1) 46 L st σ n k w = s_putf 9 4 3 49 L st σ n k w (zk1 cut G (Z f)) G R T := zrs hZ rfl f L st σ n k w
theorem f_X10_init_49 (hZ : ZRN (ztb (tb_X10_init E d mc ms)) cut G R T Z) (f : Nat) (L : ZLV) (st : List Value) (σ : ZHp) (n k w : Nat) : Z (f + 1) 49 L st σ n k w = s_aload 0 50 L st σ n k w (zk1 cut G (Z f)) G R T := zrs hZ rfl f L st σ n k w
theorem f_X10_init_50 (hZ : ZRN (ztb (tb_X10_init E d mc ms)) cut G R T Z) (f : Nat) (L : ZLV) (st : List Value) (σ : ZHp) (n k w : Nat) : Z (f + 1) 50 L st σ n k w = s_const (.long 0) 51 L st σ n k w (zk1 cut G (Z f)) G R T := zrs hZ rfl f L st σ n k w
theorem f_X10_init_51 (hZ : ZRN (ztb (tb_X10_init E d mc ms)) cut G R T Z) (f : Nat) (L : ZLV) (st : List Value) (σ : ZHp) (n k w : Nat) : Z (f + 1) 51 L st σ n k w = s_putf 9 5 2 54 L st σ n k w (zk1 cut G (Z f)) G R T := zrs hZ rfl f L st σ n k w
theorem f_X10_init_54 (hZ : ZRN (ztb (tb_X10_init E d mc ms)) cut G R T Z) (f : Nat) (L : ZLV) (st : List Value) (σ : ZHp) (n k w : Nat) : Z (f + 1) 54 L st σ n k w = s_return L st σ n k w (zk1 cut G (Z f)) G R T := zrs hZ rfl f L st σ n k w
theorem f_X10_scan_0 (hZ : ZRN (ztb (tb_X10_scan E d mc ms)) cut G R T Z) (f : Nat) (L : ZLV) (st : List Value) (σ : ZHp) (n k w : Nat) : Z (f + 1) 0 L st σ n k w = s_aload 0 1 L st σ n k w (zk1 cut G (Z f)) G R T := zrs hZ rfl f L st σ n k w
theorem f_X10_scan_1 (hZ : ZRN (ztb (tb_X10_scan E d mc ms)) cut G R T Z) (f : Nat) (L : ZLV) (st : List Value) (σ : ZHp) (n k w : Nat) : Z (f + 1) 1 L st σ n k w = s_const (.int (0)) 2 L st σ n k w (zk1 cut G (Z f)) G R T := zrs hZ rfl f L st σ n k w
theorem f_X10_scan_2 (hZ : ZRN (ztb (tb_X10_scan E d mc ms)) cut G R T Z) (f : Nat) (L : ZLV) (st : List Value) (σ : ZHp) (n k w : Nat) : Z (f + 1) 2 L st σ n k w = s_putf 9 3 0 5 L st σ n k w (zk1 cut G (Z f)) G R T := zrs hZ rfl f L st σ n k w
theorem f_X10_scan_5 (hZ : ZRN (ztb (tb_X10_scan E d mc ms)) cut G R T Z) (f : Nat) (L : ZLV) (st : List Value) (σ : ZHp) (n k w : Nat) : Z (f + 1) 5 L st σ n k w = s_const (.int (0)) 6 L st σ n k w (zk1 cut G (Z f)) G R T := zrs hZ rfl f L st σ n k w
theorem f_X10_scan_6 (hZ : ZRN (ztb (tb_X10_scan E d mc ms)) cut G R T Z) (f : Nat) (L : ZLV) (st : List Value) (σ : ZHp) (n k w : Nat) : Z (f + 1) 6 L st σ n k w = s_istore 2 7 L st σ n k w (zk1 cut G (Z f)) G R T := zrs hZ rfl f L st σ n k w
theorem f_X10_scan_7 (hZ : ZRN (ztb (tb_X10_scan E d mc ms)) cut G R T Z) (f : Nat) (L : ZLV) (st : List Value) (σ : ZHp) (n k w : Nat) : Z (f + 1) 7 L st σ n k w = s_const (.int (0)) 8 L st σ n k w (zk1 cut G (Z f)) G R T := zrs hZ rfl f L st σ n k w
theorem f_X10_scan_8 (hZ : ZRN (ztb (tb_X10_scan E d mc ms)) cut G R T Z) (f : Nat) (L : ZLV) (st : List Value) (σ : ZHp) (n k w : Nat) : Z (f + 1) 8 L st σ n k w = s_istore 3 9 L st σ n k w (zk1 cut G (Z f)) G R T := zrs hZ rfl f L st σ n k w
theorem f_X10_scan_9 (hZ : ZRN (ztb (tb_X10_scan E d mc ms)) cut G R T Z) (f : Nat) (L : ZLV) (st : List Value) (σ : ZHp) (n k w : Nat) : Z (f + 1) 9 L st σ n k w = s_const (.int (0)) 10 L st σ n k w (zk1 cut G (Z f)) G R T := zrs hZ rfl f L st σ n k w
theorem f_X10_scan_10 (hZ : ZRN (ztb (tb_X10_scan E d mc ms)) cut G R T Z) (f : Nat) (L : ZLV) (st : List Value) (σ : ZHp) (n k w : Nat) : Z (f + 1) 10 L st σ n k w = s_istore 4 12 L st σ n k w (zk1 cut G (Z f)) G R T := zrs hZ rfl f L st σ n k w
theorem f_X10_scan_12 (hZ : ZRN (ztb (tb_X10_scan E d mc ms)) cut G R T Z) (f : Nat) (L : ZLV) (st : List Value) (σ : ZHp) (n k w : Nat) : Z (f + 1) 12 L st σ n k w = s_iload 4 14 L st σ n k w (zk1 cut G (Z f)) G R T := zrs hZ rfl f L st σ n k w
theorem f_X10_scan_14 (hZ : ZRN (ztb (tb_X10_scan E d mc ms)) cut G R T Z) (f : Nat) (L : ZLV) (st : List Value) (σ : ZHp) (n k w : Nat) : Z (f + 1) 14 L st σ n k w = s_const (.int (400)) 17 L st σ n k w (zk1 cut G (Z f)) G R T := zrs hZ rfl f L st σ n k w
theorem f_X10_scan_17 (hZ : ZRN (ztb (tb_X10_scan E d mc ms)) cut G R T Z) (f : Nat) (L : ZLV) (st : List Value) (σ : ZHp) (n k w : Nat) : Z (f + 1) 17 L st σ n k w = s_icmp_gt 105 20 L st σ n k w (zk1 cut G (Z f)) G R T := zrs hZ rfl f L st σ n k w
theorem f_X10_scan_20 (hZ : ZRN (ztb (tb_X10_scan E d mc ms)) cut G R T Z) (f : Nat) (L : ZLV) (st : List Value) (σ : ZHp) (n k w : Nat) : Z (f + 1) 20 L st σ n k w = s_iload 3 21 L st σ n k w (zk1 cut G (Z f)) G R T := zrs hZ rfl f L st σ n k w
theorem f_X10_scan_21 (hZ : ZRN (ztb (tb_X10_scan E d mc ms)) cut G R T Z) (f : Nat) (L : ZLV) (st : List Value) (σ : ZHp) (n k w : Nat) : Z (f + 1) 21 L st σ n k w = s_if_ne 105 24 L st σ n k w (zk1 cut G (Z f)) G R T := zrs hZ rfl f L st σ n k w
theorem f_X10_scan_24 (hZ : ZRN (ztb (tb_X10_scan E d mc ms)) cut G R T Z) (f : Nat) (L : ZLV) (st : List Value) (σ : ZHp) (n k w : Nat) : Z (f + 1) 24 L st σ n k w = s_aload 1 25 L st σ n k w (zk1 cut G (Z f)) G R T := zrs hZ rfl f L st σ n k w
theorem f_X10_scan_25 (hZ : ZRN (ztb (tb_X10_scan E d mc ms)) cut G R T Z) (f : Nat) (L : ZLV) (st : List Value) (σ : ZHp) (n k w : Nat) : Z (f + 1) 25 L st σ n k w = s_iload 2 26 L st σ n k w (zk1 cut G (Z f)) G R T := zrs hZ rfl f L st σ n k w
theorem f_X10_scan_26 (hZ : ZRN (ztb (tb_X10_scan E d mc ms)) cut G R T Z) (f : Nat) (L : ZLV) (st : List Value) (σ : ZHp) (n k w : Nat) : Z (f + 1) 26 L st σ n k w = s_callS E d mc ms MX10_behindBlanks 2 29 L st σ n k w (zk1 cut G (Z f)) G R T := zrs hZ rfl f L st σ n k w
theorem f_X10_scan_29 (hZ : ZRN (ztb (tb_X10_scan E d mc ms)) cut G R T Z) (f : Nat) (L : ZLV) (st : List Value) (σ : ZHp) (n k w : Nat) : Z (f + 1) 29 L st σ n k w = s_istore 2 30 L st σ n k w (zk1 cut G (Z f)) G R T := zrs hZ rfl f L st σ n k w
theorem f_X10_scan_30 (hZ : ZRN (ztb (tb_X10_scan E d mc ms)) cut G R T Z) (f : Nat) (L : ZLV) (st : List Value) (σ : ZHp) (n k w : Nat) : Z (f + 1) 30 L st σ n k w = s_aload 0 31 L st σ n k w (zk1 cut G (Z f)) G R T := zrs hZ rfl f L st σ n k w
theorem f_X10_scan_31 (hZ : ZRN (ztb (tb_X10_scan E d mc ms)) cut G R T Z) (f : Nat) (L : ZLV) (st : List Value) (σ : ZHp) (n k w : Nat) : Z (f + 1) 31 L st σ n k w = s_aload 1 32 L st σ n k w (zk1 cut G (Z f)) G R T := zrs hZ rfl f L st σ n k w
theorem f_X10_scan_32 (hZ : ZRN (ztb (tb_X10_scan E d mc ms)) cut G R T Z) (f : Nat) (L : ZLV) (st : List Value) (σ : ZHp) (n k w : Nat) : Z (f + 1) 32 L st σ n k w = s_iload 2 33 L st σ n k w (zk1 cut G (Z f)) G R T := zrs hZ rfl f L st σ n k w
theorem f_X10_scan_33 (hZ : ZRN (ztb (tb_X10_scan E d mc ms)) cut G R T Z) (f : Nat) (L : ZLV) (st : List Value) (σ : ZHp) (n k w : Nat) : Z (f + 1) 33 L st σ n k w = s_callV E d mc ms 9 MX10_readToken 2 36 L st σ n k w (zk1 cut G (Z f)) G R T := zrs hZ rfl f L st σ n k w
theorem f_X10_scan_36 (hZ : ZRN (ztb (tb_X10_scan E d mc ms)) cut G R T Z) (f : Nat) (L : ZLV) (st : List Value) (σ : ZHp) (n k w : Nat) : Z (f + 1) 36 L st σ n k w = s_istore 5 38 L st σ n k w (zk1 cut G (Z f)) G R T := zrs hZ rfl f L st σ n k w
theorem f_X10_scan_38 (hZ : ZRN (ztb (tb_X10_scan E d mc ms)) cut G R T Z) (f : Nat) (L : ZLV) (st : List Value) (σ : ZHp) (n k w : Nat) : Z (f + 1) 38 L st σ n k w = s_iload 4 40 L st σ n k w (zk1 cut G (Z f)) G R T := zrs hZ rfl f L st σ n k w
theorem f_X10_scan_40 (hZ : ZRN (ztb (tb_X10_scan E d mc ms)) cut G R T Z) (f : Nat) (L : ZLV) (st : List Value) (σ : ZHp) (n k w : Nat) : Z (f + 1) 40 L st σ n k w = s_const (.int (400)) 43 L st σ n k w (zk1 cut G (Z f)) G R T := zrs hZ rfl f L st σ n k w
theorem f_X10_scan_43 (hZ : ZRN (ztb (tb_X10_scan E d mc ms)) cut G R T Z) (f : Nat) (L : ZLV) (st : List Value) (σ : ZHp) (n k w : Nat) : Z (f + 1) 43 L st σ n k w = s_icmp_ne 63 46 L st σ n k w (zk1 cut G (Z f)) G R T := zrs hZ rfl f L st σ n k w
theorem f_X10_scan_46 (hZ : ZRN (ztb (tb_X10_scan E d mc ms)) cut G R T Z) (f : Nat) (L : ZLV) (st : List Value) (σ : ZHp) (n k w : Nat) : Z (f + 1) 46 L st σ n k w = s_aload 0 47 L st σ n k w (zk1 cut G (Z f)) G R T := zrs hZ rfl f L st σ n k w
theorem f_X10_scan_47 (hZ : ZRN (ztb (tb_X10_scan E d mc ms)) cut G R T Z) (f : Nat) (L : ZLV) (st : List Value) (σ : ZHp) (n k w : Nat) : Z (f + 1) 47 L st σ n k w = s_getf 9 4 50 L st σ n k w (zk1 cut G (Z f)) G R T := zrs hZ rfl f L st σ n k w
theorem f_X10_scan_50 (hZ : ZRN (ztb (tb_X10_scan E d mc ms)) cut G R T Z) (f : Nat) (L : ZLV) (st : List Value) (σ : ZHp) (n k w : Nat) : Z (f + 1) 50 L st σ n k w = s_const (.ref (zeK E 1)) 53 L st σ n k w (zk1 cut G (Z f)) G R T := zrs hZ rfl f L st σ n k w
theorem f_X10_scan_53 (hZ : ZRN (ztb (tb_X10_scan E d mc ms)) cut G R T Z) (f : Nat) (L : ZLV) (st : List Value) (σ : ZHp) (n k w : Nat) : Z (f + 1) 53 L st σ n k w = s_acmp_eq 63 56 L st σ n k w (zk1 cut G (Z f)) G R T := zrs hZ rfl f L st σ n k w
theorem f_X10_scan_56 (hZ : ZRN (ztb (tb_X10_scan E d mc ms)) cut G R T Z) (f : Nat) (L : ZLV) (st : List Value) (σ : ZHp) (n k w : Nat) : Z (f + 1) 56 L st σ n k w = s_aload 0 57 L st σ n k w (zk1 cut G (Z f)) G R T := zrs hZ rfl f L st σ n k w
theorem f_X10_scan_57 (hZ : ZRN (ztb (tb_X10_scan E d mc ms)) cut G R T Z) (f : Nat) (L : ZLV) (st : List Value) (σ : ZHp) (n k w : Nat) : Z (f + 1) 57 L st σ n k w = s_const (.ref (zeK E 0)) 60 L st σ n k w (zk1 cut G (Z f)) G R T := zrs hZ rfl f L st σ n k w
theorem f_X10_scan_60 (hZ : ZRN (ztb (tb_X10_scan E d mc ms)) cut G R T Z) (f : Nat) (L : ZLV) (st : List Value) (σ : ZHp) (n k w : Nat) : Z (f + 1) 60 L st σ n k w = s_putf 9 4 3 63 L st σ n k w (zk1 cut G (Z f)) G R T := zrs hZ rfl f L st σ n k w
theorem f_X10_scan_63 (hZ : ZRN (ztb (tb_X10_scan E d mc ms)) cut G R T Z) (f : Nat) (L : ZLV) (st : List Value) (σ : ZHp) (n k w : Nat) : Z (f + 1) 63 L st σ n k w = s_aload 0 64 L st σ n k w (zk1 cut G (Z f)) G R T := zrs hZ rfl f L st σ n k w
theorem f_X10_scan_64 (hZ : ZRN (ztb (tb_X10_scan E d mc ms)) cut G R T Z) (f : Nat) (L : ZLV) (st : List Value) (σ : ZHp) (n k w : Nat) : Z (f + 1) 64 L st σ n k w = s_iload 4 66 L st σ n k w (zk1 cut G (Z f)) G R T := zrs hZ rfl f L st σ n k w
theorem f_X10_scan_66 (hZ : ZRN (ztb (tb_X10_scan E d mc ms)) cut G R T Z) (f : Nat) (L : ZLV) (st : List Value) (σ : ZHp) (n k w : Nat) : Z (f + 1) 66 L st σ n k w = s_iload 2 67 L st σ n k w (zk1 cut G (Z f)) G R T := zrs hZ rfl f L st σ n k w
theorem f_X10_scan_67 (hZ : ZRN (ztb (tb_X10_scan E d mc ms)) cut G R T Z) (f : Nat) (L : ZLV) (st : List Value) (σ : ZHp) (n k w : Nat) : Z (f + 1) 67 L st σ n k w = s_callV E d mc ms 9 MX10_keep 2 70 L st σ n k w (zk1 cut G (Z f)) G R T := zrs hZ rfl f L st σ n k w
theorem f_X10_scan_70 (hZ : ZRN (ztb (tb_X10_scan E d mc ms)) cut G R T Z) (f : Nat) (L : ZLV) (st : List Value) (σ : ZHp) (n k w : Nat) : Z (f + 1) 70 L st σ n k w = s_iload 5 72 L st σ n k w (zk1 cut G (Z f)) G R T := zrs hZ rfl f L st σ n k w
theorem f_X10_scan_72 (hZ : ZRN (ztb (tb_X10_scan E d mc ms)) cut G R T Z) (f : Nat) (L : ZLV) (st : List Value) (σ : ZHp) (n k w : Nat) : Z (f + 1) 72 L st σ n k w = s_istore 2 73 L st σ n k w (zk1 cut G (Z f)) G R T := zrs hZ rfl f L st σ n k w
theorem f_X10_scan_73 (hZ : ZRN (ztb (tb_X10_scan E d mc ms)) cut G R T Z) (f : Nat) (L : ZLV) (st : List Value) (σ : ZHp) (n k w : Nat) : Z (f + 1) 73 L st σ n k w = s_aload 0 74 L st σ n k w (zk1 cut G (Z f)) G R T := zrs hZ rfl f L st σ n k w
theorem f_X10_scan_74 (hZ : ZRN (ztb (tb_X10_scan E d mc ms)) cut G R T Z) (f : Nat) (L : ZLV) (st : List Value) (σ : ZHp) (n k w : Nat) : Z (f + 1) 74 L st σ n k w = s_getf 9 4 77 L st σ n k w (zk1 cut G (Z f)) G R T := zrs hZ rfl f L st σ n k w
theorem f_X10_scan_77 (hZ : ZRN (ztb (tb_X10_scan E d mc ms)) cut G R T Z) (f : Nat) (L : ZLV) (st : List Value) (σ : ZHp) (n k w : Nat) : Z (f + 1) 77 L st σ n k w = s_const (.ref (zeK E 1)) 80 L st σ n k w (zk1 cut G (Z f)) G R T := zrs hZ rfl f L st σ n k w
theorem f_X10_scan_80 (hZ : ZRN (ztb (tb_X10_scan E d mc ms)) cut G R T Z) (f : Nat) (L : ZLV) (st : List Value) (σ : ZHp) (n k w : Nat) : Z (f + 1) 80 L st σ n k w = s_acmp_eq 93 83 L st σ n k w (zk1 cut G (Z f)) G R T := zrs hZ rfl f L st σ n k w
theorem f_X10_scan_83 (hZ : ZRN (ztb (tb_X10_scan E d mc ms)) cut G R T Z) (f : Nat) (L : ZLV) (st : List Value) (σ : ZHp) (n k w : Nat) : Z (f + 1) 83 L st σ n k w = s_aload 0 84 L st σ n k w (zk1 cut G (Z f)) G R T := zrs hZ rfl f L st σ n k w
theorem f_X10_scan_84 (hZ : ZRN (ztb (tb_X10_scan E d mc ms)) cut G R T Z) (f : Nat) (L : ZLV) (st : List Value) (σ : ZHp) (n k w : Nat) : Z (f + 1) 84 L st σ n k w = s_getf 9 4 87 L st σ n k w (zk1 cut G (Z f)) G R T := zrs hZ rfl f L st σ n k w
theorem f_X10_scan_87 (hZ : ZRN (ztb (tb_X10_scan E d mc ms)) cut G R T Z) (f : Nat) (L : ZLV) (st : List Value) (σ : ZHp) (n k w : Nat) : Z (f + 1) 87 L st σ n k w = s_const (.ref (zeK E 0)) 90 L st σ n k w (zk1 cut G (Z f)) G R T := zrs hZ rfl f L st σ n k w
theorem f_X10_scan_90 (hZ : ZRN (ztb (tb_X10_scan E d mc ms)) cut G R T Z) (f : Nat) (L : ZLV) (st : List Value) (σ : ZHp) (n k w : Nat) : Z (f + 1) 90 L st σ n k w = s_acmp_ne 97 93 L st σ n k w (zk1 cut G (Z f)) G R T := zrs hZ rfl f L st σ n k w
theorem f_X10_scan_93 (hZ : ZRN (ztb (tb_X10_scan E d mc ms)) cut G R T Z) (f : Nat) (L : ZLV) (st : List Value) (σ : ZHp) (n k w : Nat) : Z (f + 1) 93 L st σ n k w = s_const (.int (1)) 94 L st σ n k w (zk1 cut G (Z f)) G R T := zrs hZ rfl f L st σ n k w
theorem f_X10_scan_94 (hZ : ZRN (ztb (tb_X10_scan E d mc ms)) cut G R T Z) (f : Nat) (L : ZLV) (st : List Value) (σ : ZHp) (n k w : Nat) : Z (f + 1) 94 L st σ n k w = s_goto 98 L st σ n k w (zk1 cut G (Z f)) G R T := zrs hZ rfl f L st σ n k w
theorem f_X10_scan_97 (hZ : ZRN (ztb (tb_X10_scan E d mc ms)) cut G R T Z) (f : Nat) (L : ZLV) (st : List Value) (σ : ZHp) (n k w : Nat) : Z (f + 1) 97 L st σ n k w = s_const (.int (0)) 98 L st σ n k w (zk1 cut G (Z f)) G R T := zrs hZ rfl f L st σ n k w
theorem f_X10_scan_98 (hZ : ZRN (ztb (tb_X10_scan E d mc ms)) cut G R T Z) (f : Nat) (L : ZLV) (st : List Value) (σ : ZHp) (n k w : Nat) : Z (f + 1) 98 L st σ n k w = s_istore 3 99 L st σ n k w (zk1 cut G (Z f)) G R T := zrs hZ rfl f L st σ n k w
theorem f_X10_scan_99 (hZ : ZRN (ztb (tb_X10_scan E d mc ms)) cut G R T Z) (f : Nat) (L : ZLV) (st : List Value) (σ : ZHp) (n k w : Nat) : Z (f + 1) 99 L st σ n k w = s_iinc 4 (1) 102 L st σ n k w (zk1 cut G (Z f)) G R T := zrs hZ rfl f L st σ n k w
theorem f_X10_scan_102 (hZ : ZRN (ztb (tb_X10_scan E d mc ms)) cut G R T Z) (f : Nat) (L : ZLV) (st : List Value) (σ : ZHp) (n k w : Nat) : Z (f + 1) 102 L st σ n k w = s_goto 12 L st σ n k w (zk1 cut G (Z f)) G R T := zrs hZ rfl f L st σ n k w
theorem f_X10_scan_105 (hZ : ZRN (ztb (tb_X10_scan E d mc ms)) cut G R T Z) (f : Nat) (L : ZLV) (st : List Value) (σ : ZHp) (n k w : Nat) : Z (f + 1) 105 L st σ n k w = s_return L st σ n k w (zk1 cut G (Z f)) G R T := zrs hZ rfl f L st σ n k w
theorem f_X10_sign_0 (hZ : ZRN (ztb (tb_X10_sign E d mc ms)) cut G R T Z) (f : Nat) (L : ZLV) (st : List Value) (σ : ZHp) (n k w : Nat) : Z (f + 1) 0 L st σ n k w = s_aload 0 1 L st σ n k w (zk1 cut G (Z f)) G R T := zrs hZ rfl f L st σ n k w
theorem f_X10_sign_1 (hZ : ZRN (ztb (tb_X10_sign E d mc ms)) cut G R T Z) (f : Nat) (L : ZLV) (st : List Value) (σ : ZHp) (n k w : Nat) : Z (f + 1) 1 L st σ n k w = s_getf 9 3 4 L st σ n k w (zk1 cut G (Z f)) G R T := zrs hZ rfl f L st σ n k w
theorem f_X10_sign_4 (hZ : ZRN (ztb (tb_X10_sign E d mc ms)) cut G R T Z) (f : Nat) (L : ZLV) (st : List Value) (σ : ZHp) (n k w : Nat) : Z (f + 1) 4 L st σ n k w = s_if_lt 31 7 L st σ n k w (zk1 cut G (Z f)) G R T := zrs hZ rfl f L st σ n k w
theorem f_X10_sign_7 (hZ : ZRN (ztb (tb_X10_sign E d mc ms)) cut G R T Z) (f : Nat) (L : ZLV) (st : List Value) (σ : ZHp) (n k w : Nat) : Z (f + 1) 7 L st σ n k w = s_aload 0 8 L st σ n k w (zk1 cut G (Z f)) G R T := zrs hZ rfl f L st σ n k w
theorem f_X10_sign_8 (hZ : ZRN (ztb (tb_X10_sign E d mc ms)) cut G R T Z) (f : Nat) (L : ZLV) (st : List Value) (σ : ZHp) (n k w : Nat) : Z (f + 1) 8 L st σ n k w = s_getf 9 3 11 L st σ n k w (zk1 cut G (Z f)) G R T := zrs hZ rfl f L st σ n k w
theorem f_X10_sign_11 (hZ : ZRN (ztb (tb_X10_sign E d mc ms)) cut G R T Z) (f : Nat) (L : ZLV) (st : List Value) (σ : ZHp) (n k w : Nat) : Z (f + 1) 11 L st σ n k w = s_aload 0 12 L st σ n k w (zk1 cut G (Z f)) G R T := zrs hZ rfl f L st σ n k w
theorem f_X10_sign_12 (hZ : ZRN (ztb (tb_X10_sign E d mc ms)) cut G R T Z) (f : Nat) (L : ZLV) (st : List Value) (σ : ZHp) (n k w : Nat) : Z (f + 1) 12 L st σ n k w = s_getf 9 0 15 L st σ n k w (zk1 cut G (Z f)) G R T := zrs hZ rfl f L st σ n k w
theorem f_X10_sign_15 (hZ : ZRN (ztb (tb_X10_sign E d mc ms)) cut G R T Z) (f : Nat) (L : ZLV) (st : List Value) (σ : ZHp) (n k w : Nat) : Z (f + 1) 15 L st σ n k w = s_alen E 16 L st σ n k w (zk1 cut G (Z f)) G R T := zrs hZ rfl f L st σ n k w
theorem f_X10_sign_16 (hZ : ZRN (ztb (tb_X10_sign E d mc ms)) cut G R T Z) (f : Nat) (L : ZLV) (st : List Value) (σ : ZHp) (n k w : Nat) : Z (f + 1) 16 L st σ n k w = s_icmp_ge 31 19 L st σ n k w (zk1 cut G (Z f)) G R T := zrs hZ rfl f L st σ n k w
theorem f_X10_sign_19 (hZ : ZRN (ztb (tb_X10_sign E d mc ms)) cut G R T Z) (f : Nat) (L : ZLV) (st : List Value) (σ : ZHp) (n k w : Nat) : Z (f + 1) 19 L st σ n k w = s_aload 0 20 L st σ n k w (zk1 cut G (Z f)) G R T := zrs hZ rfl f L st σ n k w
theorem f_X10_sign_20 (hZ : ZRN (ztb (tb_X10_sign E d mc ms)) cut G R T Z) (f : Nat) (L : ZLV) (st : List Value) (σ : ZHp) (n k w : Nat) : Z (f + 1) 20 L st σ n k w = s_getf 9 0 23 L st σ n k w (zk1 cut G (Z f)) G R T := zrs hZ rfl f L st σ n k w
theorem f_X10_sign_23 (hZ : ZRN (ztb (tb_X10_sign E d mc ms)) cut G R T Z) (f : Nat) (L : ZLV) (st : List Value) (σ : ZHp) (n k w : Nat) : Z (f + 1) 23 L st σ n k w = s_aload 0 24 L st σ n k w (zk1 cut G (Z f)) G R T := zrs hZ rfl f L st σ n k w
theorem f_X10_sign_24 (hZ : ZRN (ztb (tb_X10_sign E d mc ms)) cut G R T Z) (f : Nat) (L : ZLV) (st : List Value) (σ : ZHp) (n k w : Nat) : Z (f + 1) 24 L st σ n k w = s_getf 9 3 27 L st σ n k w (zk1 cut G (Z f)) G R T := zrs hZ rfl f L st σ n k w
theorem f_X10_sign_27 (hZ : ZRN (ztb (tb_X10_sign E d mc ms)) cut G R T Z) (f : Nat) (L : ZLV) (st : List Value) (σ : ZHp) (n k w : Nat) : Z (f + 1) 27 L st σ n k w = s_aaload E 28 L st σ n k w (zk1 cut G (Z f)) G R T := zrs hZ rfl f L st σ n k w
theorem f_X10_sign_28 (hZ : ZRN (ztb (tb_X10_sign E d mc ms)) cut G R T Z) (f : Nat) (L : ZLV) (st : List Value) (σ : ZHp) (n k w : Nat) : Z (f + 1) 28 L st σ n k w = s_goto 34 L st σ n k w (zk1 cut G (Z f)) G R T := zrs hZ rfl f L st σ n k w
theorem f_X10_sign_31 (hZ : ZRN (ztb (tb_X10_sign E d mc ms)) cut G R T Z) (f : Nat) (L : ZLV) (st : List Value) (σ : ZHp) (n k w : Nat) : Z (f + 1) 31 L st σ n k w = s_const (.ref (zeK E 1)) 34 L st σ n k w (zk1 cut G (Z f)) G R T := zrs hZ rfl f L st σ n k w
theorem f_X10_sign_34 (hZ : ZRN (ztb (tb_X10_sign E d mc ms)) cut G R T Z) (f : Nat) (L : ZLV) (st : List Value) (σ : ZHp) (n k w : Nat) : Z (f + 1) 34 L st σ n k w = s_astore 1 35 L st σ n k w (zk1 cut G (Z f)) G R T := zrs hZ rfl f L st σ n k w
theorem f_X10_sign_35 (hZ : ZRN (ztb (tb_X10_sign E d mc ms)) cut G R T Z) (f : Nat) (L : ZLV) (st : List Value) (σ : ZHp) (n k w : Nat) : Z (f + 1) 35 L st σ n k w = s_aload 1 36 L st σ n k w (zk1 cut G (Z f)) G R T := zrs hZ rfl f L st σ n k w
theorem f_X10_sign_36 (hZ : ZRN (ztb (tb_X10_sign E d mc ms)) cut G R T Z) (f : Nat) (L : ZLV) (st : List Value) (σ : ZHp) (n k w : Nat) : Z (f + 1) 36 L st σ n k w = s_ifnonnull 45 39 L st σ n k w (zk1 cut G (Z f)) G R T := zrs hZ rfl f L st σ n k w
theorem f_X10_sign_39 (hZ : ZRN (ztb (tb_X10_sign E d mc ms)) cut G R T Z) (f : Nat) (L : ZLV) (st : List Value) (σ : ZHp) (n k w : Nat) : Z (f + 1) 39 L st σ n k w = s_const (.ref (zeK E 1)) 42 L st σ n k w (zk1 cut G (Z f)) G R T := zrs hZ rfl f L st σ n k w
theorem f_X10_sign_42 (hZ : ZRN (ztb (tb_X10_sign E d mc ms)) cut G R T Z) (f : Nat) (L : ZLV) (st : List Value) (σ : ZHp) (n k w : Nat) : Z (f + 1) 42 L st σ n k w = s_goto 46 L st σ n k w (zk1 cut G (Z f)) G R T := zrs hZ rfl f L st σ n k w
theorem f_X10_sign_45 (hZ : ZRN (ztb (tb_X10_sign E d mc ms)) cut G R T Z) (f : Nat) (L : ZLV) (st : List Value) (σ : ZHp) (n k w : Nat) : Z (f + 1) 45 L st σ n k w = s_aload 1 46 L st σ n k w (zk1 cut G (Z f)) G R T := zrs hZ rfl f L st σ n k w
theorem f_X10_sign_46 (hZ : ZRN (ztb (tb_X10_sign E d mc ms)) cut G R T Z) (f : Nat) (L : ZLV) (st : List Value) (σ : ZHp) (n k w : Nat) : Z (f + 1) 46 L st σ n k w = s_areturn L st σ n k w (zk1 cut G (Z f)) G R T := zrs hZ rfl f L st σ n k w
theorem f_X10_value_0 (hZ : ZRN (ztb (tb_X10_value E d mc ms)) cut G R T Z) (f : Nat) (L : ZLV) (st : List Value) (σ : ZHp) (n k w : Nat) : Z (f + 1) 0 L st σ n k w = s_aload 0 1 L st σ n k w (zk1 cut G (Z f)) G R T := zrs hZ rfl f L st σ n k w
theorem f_X10_value_1 (hZ : ZRN (ztb (tb_X10_value E d mc ms)) cut G R T Z) (f : Nat) (L : ZLV) (st : List Value) (σ : ZHp) (n k w : Nat) : Z (f + 1) 1 L st σ n k w = s_getf 9 3 4 L st σ n k w (zk1 cut G (Z f)) G R T := zrs hZ rfl f L st σ n k w
theorem f_X10_value_4 (hZ : ZRN (ztb (tb_X10_value E d mc ms)) cut G R T Z) (f : Nat) (L : ZLV) (st : List Value) (σ : ZHp) (n k w : Nat) : Z (f + 1) 4 L st σ n k w = s_if_lt 31 7 L st σ n k w (zk1 cut G (Z f)) G R T := zrs hZ rfl f L st σ n k w
theorem f_X10_value_7 (hZ : ZRN (ztb (tb_X10_value E d mc ms)) cut G R T Z) (f : Nat) (L : ZLV) (st : List Value) (σ : ZHp) (n k w : Nat) : Z (f + 1) 7 L st σ n k w = s_aload 0 8 L st σ n k w (zk1 cut G (Z f)) G R T := zrs hZ rfl f L st σ n k w
theorem f_X10_value_8 (hZ : ZRN (ztb (tb_X10_value E d mc ms)) cut G R T Z) (f : Nat) (L : ZLV) (st : List Value) (σ : ZHp) (n k w : Nat) : Z (f + 1) 8 L st σ n k w = s_getf 9 3 11 L st σ n k w (zk1 cut G (Z f)) G R T := zrs hZ rfl f L st σ n k w
theorem f_X10_value_11 (hZ : ZRN (ztb (tb_X10_value E d mc ms)) cut G R T Z) (f : Nat) (L : ZLV) (st : List Value) (σ : ZHp) (n k w : Nat) : Z (f + 1) 11 L st σ n k w = s_aload 0 12 L st σ n k w (zk1 cut G (Z f)) G R T := zrs hZ rfl f L st σ n k w
theorem f_X10_value_12 (hZ : ZRN (ztb (tb_X10_value E d mc ms)) cut G R T Z) (f : Nat) (L : ZLV) (st : List Value) (σ : ZHp) (n k w : Nat) : Z (f + 1) 12 L st σ n k w = s_getf 9 2 15 L st σ n k w (zk1 cut G (Z f)) G R T := zrs hZ rfl f L st σ n k w
theorem f_X10_value_15 (hZ : ZRN (ztb (tb_X10_value E d mc ms)) cut G R T Z) (f : Nat) (L : ZLV) (st : List Value) (σ : ZHp) (n k w : Nat) : Z (f + 1) 15 L st σ n k w = s_alen E 16 L st σ n k w (zk1 cut G (Z f)) G R T := zrs hZ rfl f L st σ n k w
theorem f_X10_value_16 (hZ : ZRN (ztb (tb_X10_value E d mc ms)) cut G R T Z) (f : Nat) (L : ZLV) (st : List Value) (σ : ZHp) (n k w : Nat) : Z (f + 1) 16 L st σ n k w = s_icmp_ge 31 19 L st σ n k w (zk1 cut G (Z f)) G R T := zrs hZ rfl f L st σ n k w
theorem f_X10_value_19 (hZ : ZRN (ztb (tb_X10_value E d mc ms)) cut G R T Z) (f : Nat) (L : ZLV) (st : List Value) (σ : ZHp) (n k w : Nat) : Z (f + 1) 19 L st σ n k w = s_aload 0 20 L st σ n k w (zk1 cut G (Z f)) G R T := zrs hZ rfl f L st σ n k w
theorem f_X10_value_20 (hZ : ZRN (ztb (tb_X10_value E d mc ms)) cut G R T Z) (f : Nat) (L : ZLV) (st : List Value) (σ : ZHp) (n k w : Nat) : Z (f + 1) 20 L st σ n k w = s_getf 9 2 23 L st σ n k w (zk1 cut G (Z f)) G R T := zrs hZ rfl f L st σ n k w
theorem f_X10_value_23 (hZ : ZRN (ztb (tb_X10_value E d mc ms)) cut G R T Z) (f : Nat) (L : ZLV) (st : List Value) (σ : ZHp) (n k w : Nat) : Z (f + 1) 23 L st σ n k w = s_aload 0 24 L st σ n k w (zk1 cut G (Z f)) G R T := zrs hZ rfl f L st σ n k w
theorem f_X10_value_24 (hZ : ZRN (ztb (tb_X10_value E d mc ms)) cut G R T Z) (f : Nat) (L : ZLV) (st : List Value) (σ : ZHp) (n k w : Nat) : Z (f + 1) 24 L st σ n k w = s_getf 9 3 27 L st σ n k w (zk1 cut G (Z f)) G R T := zrs hZ rfl f L st σ n k w
theorem f_X10_value_27 (hZ : ZRN (ztb (tb_X10_value E d mc ms)) cut G R T Z) (f : Nat) (L : ZLV) (st : List Value) (σ : ZHp) (n k w : Nat) : Z (f + 1) 27 L st σ n k w = s_laload E 28 L st σ n k w (zk1 cut G (Z f)) G R T := zrs hZ rfl f L st σ n k w
theorem f_X10_value_28 (hZ : ZRN (ztb (tb_X10_value E d mc ms)) cut G R T Z) (f : Nat) (L : ZLV) (st : List Value) (σ : ZHp) (n k w : Nat) : Z (f + 1) 28 L st σ n k w = s_goto 32 L st σ n k w (zk1 cut G (Z f)) G R T := zrs hZ rfl f L st σ n k w
theorem f_X10_value_31 (hZ : ZRN (ztb (tb_X10_value E d mc ms)) cut G R T Z) (f : Nat) (L : ZLV) (st : List Value) (σ : ZHp) (n k w : Nat) : Z (f + 1) 31 L st σ n k w = s_const (.long 0) 32 L st σ n k w (zk1 cut G (Z f)) G R T := zrs hZ rfl f L st σ n k w
theorem f_X10_value_32 (hZ : ZRN (ztb (tb_X10_value E d mc ms)) cut G R T Z) (f : Nat) (L : ZLV) (st : List Value) (σ : ZHp) (n k w : Nat) : Z (f + 1) 32 L st σ n k w = s_lreturn L st σ n k w (zk1 cut G (Z f)) G R T := zrs hZ rfl f L st σ n k w
theorem f_X10_place_0 (hZ : ZRN (ztb (tb_X10_place E d mc ms)) cut G R T Z) (f : Nat) (L : ZLV) (st : List Value) (σ : ZHp) (n k w : Nat) : Z (f + 1) 0 L st σ n k w = s_aload 0 1 L st σ n k w (zk1 cut G (Z f)) G R T := zrs hZ rfl f L st σ n k w
theorem f_X10_place_1 (hZ : ZRN (ztb (tb_X10_place E d mc ms)) cut G R T Z) (f : Nat) (L : ZLV) (st : List Value) (σ : ZHp) (n k w : Nat) : Z (f + 1) 1 L st σ n k w = s_getf 9 1 4 L st σ n k w (zk1 cut G (Z f)) G R T := zrs hZ rfl f L st σ n k w
theorem f_X10_place_4 (hZ : ZRN (ztb (tb_X10_place E d mc ms)) cut G R T Z) (f : Nat) (L : ZLV) (st : List Value) (σ : ZHp) (n k w : Nat) : Z (f + 1) 4 L st σ n k w = s_aload 0 5 L st σ n k w (zk1 cut G (Z f)) G R T := zrs hZ rfl f L st σ n k w
theorem f_X10_place_5 (hZ : ZRN (ztb (tb_X10_place E d mc ms)) cut G R T Z) (f : Nat) (L : ZLV) (st : List Value) (σ : ZHp) (n k w : Nat) : Z (f + 1) 5 L st σ n k w = s_getf 9 3 8 L st σ n k w (zk1 cut G (Z f)) G R T := zrs hZ rfl f L st σ n k w
theorem f_X10_place_8 (hZ : ZRN (ztb (tb_X10_place E d mc ms)) cut G R T Z) (f : Nat) (L : ZLV) (st : List Value) (σ : ZHp) (n k w : Nat) : Z (f + 1) 8 L st σ n k w = s_callV E d mc ms 4 MX5_get 1 11 L st σ n k w (zk1 cut G (Z f)) G R T := zrs hZ rfl f L st σ n k w
theorem f_X10_place_11 (hZ : ZRN (ztb (tb_X10_place E d mc ms)) cut G R T Z) (f : Nat) (L : ZLV) (st : List Value) (σ : ZHp) (n k w : Nat) : Z (f + 1) 11 L st σ n k w = s_ireturn L st σ n k w (zk1 cut G (Z f)) G R T := zrs hZ rfl f L st σ n k w
theorem f_X10_isEither_0 (hZ : ZRN (ztb (tb_X10_isEither E d mc ms)) cut G R T Z) (f : Nat) (L : ZLV) (st : List Value) (σ : ZHp) (n k w : Nat) : Z (f + 1) 0 L st σ n k w = s_aload 0 1 L st σ n k w (zk1 cut G (Z f)) G R T := zrs hZ rfl f L st σ n k w
theorem f_X10_isEither_1 (hZ : ZRN (ztb (tb_X10_isEither E d mc ms)) cut G R T Z) (f : Nat) (L : ZLV) (st : List Value) (σ : ZHp) (n k w : Nat) : Z (f + 1) 1 L st σ n k w = s_callV E d mc ms 9 MX10_sign 0 4 L st σ n k w (zk1 cut G (Z f)) G R T := zrs hZ rfl f L st σ n k w
theorem f_X10_isEither_4 (hZ : ZRN (ztb (tb_X10_isEither E d mc ms)) cut G R T Z) (f : Nat) (L : ZLV) (st : List Value) (σ : ZHp) (n k w : Nat) : Z (f + 1) 4 L st σ n k w = s_aload 1 5 L st σ n k w (zk1 cut G (Z f)) G R T := zrs hZ rfl f L st σ n k w
theorem f_X10_isEither_5 (hZ : ZRN (ztb (tb_X10_isEither E d mc ms)) cut G R T Z) (f : Nat) (L : ZLV) (st : List Value) (σ : ZHp) (n k w : Nat) : Z (f + 1) 5 L st σ n k w = s_acmp_eq 16 8 L st σ n k w (zk1 cut G (Z f)) G R T := zrs hZ rfl f L st σ n k w
theorem f_X10_isEither_8 (hZ : ZRN (ztb (tb_X10_isEither E d mc ms)) cut G R T Z) (f : Nat) (L : ZLV) (st : List Value) (σ : ZHp) (n k w : Nat) : Z (f + 1) 8 L st σ n k w = s_aload 0 9 L st σ n k w (zk1 cut G (Z f)) G R T := zrs hZ rfl f L st σ n k w
theorem f_X10_isEither_9 (hZ : ZRN (ztb (tb_X10_isEither E d mc ms)) cut G R T Z) (f : Nat) (L : ZLV) (st : List Value) (σ : ZHp) (n k w : Nat) : Z (f + 1) 9 L st σ n k w = s_callV E d mc ms 9 MX10_sign 0 12 L st σ n k w (zk1 cut G (Z f)) G R T := zrs hZ rfl f L st σ n k w
theorem f_X10_isEither_12 (hZ : ZRN (ztb (tb_X10_isEither E d mc ms)) cut G R T Z) (f : Nat) (L : ZLV) (st : List Value) (σ : ZHp) (n k w : Nat) : Z (f + 1) 12 L st σ n k w = s_aload 2 13 L st σ n k w (zk1 cut G (Z f)) G R T := zrs hZ rfl f L st σ n k w
theorem f_X10_isEither_13 (hZ : ZRN (ztb (tb_X10_isEither E d mc ms)) cut G R T Z) (f : Nat) (L : ZLV) (st : List Value) (σ : ZHp) (n k w : Nat) : Z (f + 1) 13 L st σ n k w = s_acmp_ne 20 16 L st σ n k w (zk1 cut G (Z f)) G R T := zrs hZ rfl f L st σ n k w
theorem f_X10_isEither_16 (hZ : ZRN (ztb (tb_X10_isEither E d mc ms)) cut G R T Z) (f : Nat) (L : ZLV) (st : List Value) (σ : ZHp) (n k w : Nat) : Z (f + 1) 16 L st σ n k w = s_const (.int (1)) 17 L st σ n k w (zk1 cut G (Z f)) G R T := zrs hZ rfl f L st σ n k w
theorem f_X10_isEither_17 (hZ : ZRN (ztb (tb_X10_isEither E d mc ms)) cut G R T Z) (f : Nat) (L : ZLV) (st : List Value) (σ : ZHp) (n k w : Nat) : Z (f + 1) 17 L st σ n k w = s_goto 21 L st σ n k w (zk1 cut G (Z f)) G R T := zrs hZ rfl f L st σ n k w
theorem f_X10_isEither_20 (hZ : ZRN (ztb (tb_X10_isEither E d mc ms)) cut G R T Z) (f : Nat) (L : ZLV) (st : List Value) (σ : ZHp) (n k w : Nat) : Z (f + 1) 20 L st σ n k w = s_const (.int (0)) 21 L st σ n k w (zk1 cut G (Z f)) G R T := zrs hZ rfl f L st σ n k w
theorem f_X10_isEither_21 (hZ : ZRN (ztb (tb_X10_isEither E d mc ms)) cut G R T Z) (f : Nat) (L : ZLV) (st : List Value) (σ : ZHp) (n k w : Nat) : Z (f + 1) 21 L st σ n k w = s_zreturn L st σ n k w (zk1 cut G (Z f)) G R T := zrs hZ rfl f L st σ n k w
theorem f_X10_advance_0 (hZ : ZRN (ztb (tb_X10_advance E d mc ms)) cut G R T Z) (f : Nat) (L : ZLV) (st : List Value) (σ : ZHp) (n k w : Nat) : Z (f + 1) 0 L st σ n k w = s_aload 0 1 L st σ n k w (zk1 cut G (Z f)) G R T := zrs hZ rfl f L st σ n k w
theorem f_X10_advance_1 (hZ : ZRN (ztb (tb_X10_advance E d mc ms)) cut G R T Z) (f : Nat) (L : ZLV) (st : List Value) (σ : ZHp) (n k w : Nat) : Z (f + 1) 1 L st σ n k w = s_dup 2 L st σ n k w (zk1 cut G (Z f)) G R T := zrs hZ rfl f L st σ n k w
theorem f_X10_advance_2 (hZ : ZRN (ztb (tb_X10_advance E d mc ms)) cut G R T Z) (f : Nat) (L : ZLV) (st : List Value) (σ : ZHp) (n k w : Nat) : Z (f + 1) 2 L st σ n k w = s_getf 9 3 5 L st σ n k w (zk1 cut G (Z f)) G R T := zrs hZ rfl f L st σ n k w
theorem f_X10_advance_5 (hZ : ZRN (ztb (tb_X10_advance E d mc ms)) cut G R T Z) (f : Nat) (L : ZLV) (st : List Value) (σ : ZHp) (n k w : Nat) : Z (f + 1) 5 L st σ n k w = s_const (.int (1)) 6 L st σ n k w (zk1 cut G (Z f)) G R T := zrs hZ rfl f L st σ n k w
theorem f_X10_advance_6 (hZ : ZRN (ztb (tb_X10_advance E d mc ms)) cut G R T Z) (f : Nat) (L : ZLV) (st : List Value) (σ : ZHp) (n k w : Nat) : Z (f + 1) 6 L st σ n k w = s_iadd 7 L st σ n k w (zk1 cut G (Z f)) G R T := zrs hZ rfl f L st σ n k w
theorem f_X10_advance_7 (hZ : ZRN (ztb (tb_X10_advance E d mc ms)) cut G R T Z) (f : Nat) (L : ZLV) (st : List Value) (σ : ZHp) (n k w : Nat) : Z (f + 1) 7 L st σ n k w = s_putf 9 3 0 10 L st σ n k w (zk1 cut G (Z f)) G R T := zrs hZ rfl f L st σ n k w
theorem f_X10_advance_10 (hZ : ZRN (ztb (tb_X10_advance E d mc ms)) cut G R T Z) (f : Nat) (L : ZLV) (st : List Value) (σ : ZHp) (n k w : Nat) : Z (f + 1) 10 L st σ n k w = s_return L st σ n k w (zk1 cut G (Z f)) G R T := zrs hZ rfl f L st σ n k w
theorem f_X10_take_0 (hZ : ZRN (ztb (tb_X10_take E d mc ms)) cut G R T Z) (f : Nat) (L : ZLV) (st : List Value) (σ : ZHp) (n k w : Nat) : Z (f + 1) 0 L st σ n k w = s_aload 0 1 L st σ n k w (zk1 cut G (Z f)) G R T := zrs hZ rfl f L st σ n k w
theorem f_X10_take_1 (hZ : ZRN (ztb (tb_X10_take E d mc ms)) cut G R T Z) (f : Nat) (L : ZLV) (st : List Value) (σ : ZHp) (n k w : Nat) : Z (f + 1) 1 L st σ n k w = s_callV E d mc ms 9 MX10_sign 0 4 L st σ n k w (zk1 cut G (Z f)) G R T := zrs hZ rfl f L st σ n k w
theorem f_X10_take_4 (hZ : ZRN (ztb (tb_X10_take E d mc ms)) cut G R T Z) (f : Nat) (L : ZLV) (st : List Value) (σ : ZHp) (n k w : Nat) : Z (f + 1) 4 L st σ n k w = s_aload 1 5 L st σ n k w (zk1 cut G (Z f)) G R T := zrs hZ rfl f L st σ n k w
theorem f_X10_take_5 (hZ : ZRN (ztb (tb_X10_take E d mc ms)) cut G R T Z) (f : Nat) (L : ZLV) (st : List Value) (σ : ZHp) (n k w : Nat) : Z (f + 1) 5 L st σ n k w = s_acmp_eq 10 8 L st σ n k w (zk1 cut G (Z f)) G R T := zrs hZ rfl f L st σ n k w
theorem f_X10_take_8 (hZ : ZRN (ztb (tb_X10_take E d mc ms)) cut G R T Z) (f : Nat) (L : ZLV) (st : List Value) (σ : ZHp) (n k w : Nat) : Z (f + 1) 8 L st σ n k w = s_const (.int (0)) 9 L st σ n k w (zk1 cut G (Z f)) G R T := zrs hZ rfl f L st σ n k w
theorem f_X10_take_9 (hZ : ZRN (ztb (tb_X10_take E d mc ms)) cut G R T Z) (f : Nat) (L : ZLV) (st : List Value) (σ : ZHp) (n k w : Nat) : Z (f + 1) 9 L st σ n k w = s_zreturn L st σ n k w (zk1 cut G (Z f)) G R T := zrs hZ rfl f L st σ n k w
theorem f_X10_take_10 (hZ : ZRN (ztb (tb_X10_take E d mc ms)) cut G R T Z) (f : Nat) (L : ZLV) (st : List Value) (σ : ZHp) (n k w : Nat) : Z (f + 1) 10 L st σ n k w = s_aload 0 11 L st σ n k w (zk1 cut G (Z f)) G R T := zrs hZ rfl f L st σ n k w
theorem f_X10_take_11 (hZ : ZRN (ztb (tb_X10_take E d mc ms)) cut G R T Z) (f : Nat) (L : ZLV) (st : List Value) (σ : ZHp) (n k w : Nat) : Z (f + 1) 11 L st σ n k w = s_callV E d mc ms 9 MX10_advance 0 14 L st σ n k w (zk1 cut G (Z f)) G R T := zrs hZ rfl f L st σ n k w
theorem f_X10_take_14 (hZ : ZRN (ztb (tb_X10_take E d mc ms)) cut G R T Z) (f : Nat) (L : ZLV) (st : List Value) (σ : ZHp) (n k w : Nat) : Z (f + 1) 14 L st σ n k w = s_const (.int (1)) 15 L st σ n k w (zk1 cut G (Z f)) G R T := zrs hZ rfl f L st σ n k w
theorem f_X10_take_15 (hZ : ZRN (ztb (tb_X10_take E d mc ms)) cut G R T Z) (f : Nat) (L : ZLV) (st : List Value) (σ : ZHp) (n k w : Nat) : Z (f + 1) 15 L st σ n k w = s_zreturn L st σ n k w (zk1 cut G (Z f)) G R T := zrs hZ rfl f L st σ n k w
theorem f_X10_keep_0 (hZ : ZRN (ztb (tb_X10_keep E d mc ms)) cut G R T Z) (f : Nat) (L : ZLV) (st : List Value) (σ : ZHp) (n k w : Nat) : Z (f + 1) 0 L st σ n k w = s_iload 1 1 L st σ n k w (zk1 cut G (Z f)) G R T := zrs hZ rfl f L st σ n k w
theorem f_X10_keep_1 (hZ : ZRN (ztb (tb_X10_keep E d mc ms)) cut G R T Z) (f : Nat) (L : ZLV) (st : List Value) (σ : ZHp) (n k w : Nat) : Z (f + 1) 1 L st σ n k w = s_if_lt 51 4 L st σ n k w (zk1 cut G (Z f)) G R T := zrs hZ rfl f L st σ n k w
theorem f_X10_keep_4 (hZ : ZRN (ztb (tb_X10_keep E d mc ms)) cut G R T Z) (f : Nat) (L : ZLV) (st : List Value) (σ : ZHp) (n k w : Nat) : Z (f + 1) 4 L st σ n k w = s_iload 1 5 L st σ n k w (zk1 cut G (Z f)) G R T := zrs hZ rfl f L st σ n k w
theorem f_X10_keep_5 (hZ : ZRN (ztb (tb_X10_keep E d mc ms)) cut G R T Z) (f : Nat) (L : ZLV) (st : List Value) (σ : ZHp) (n k w : Nat) : Z (f + 1) 5 L st σ n k w = s_aload 0 6 L st σ n k w (zk1 cut G (Z f)) G R T := zrs hZ rfl f L st σ n k w
theorem f_X10_keep_6 (hZ : ZRN (ztb (tb_X10_keep E d mc ms)) cut G R T Z) (f : Nat) (L : ZLV) (st : List Value) (σ : ZHp) (n k w : Nat) : Z (f + 1) 6 L st σ n k w = s_getf 9 0 9 L st σ n k w (zk1 cut G (Z f)) G R T := zrs hZ rfl f L st σ n k w
theorem f_X10_keep_9 (hZ : ZRN (ztb (tb_X10_keep E d mc ms)) cut G R T Z) (f : Nat) (L : ZLV) (st : List Value) (σ : ZHp) (n k w : Nat) : Z (f + 1) 9 L st σ n k w = s_alen E 10 L st σ n k w (zk1 cut G (Z f)) G R T := zrs hZ rfl f L st σ n k w
theorem f_X10_keep_10 (hZ : ZRN (ztb (tb_X10_keep E d mc ms)) cut G R T Z) (f : Nat) (L : ZLV) (st : List Value) (σ : ZHp) (n k w : Nat) : Z (f + 1) 10 L st σ n k w = s_icmp_ge 51 13 L st σ n k w (zk1 cut G (Z f)) G R T := zrs hZ rfl f L st σ n k w
theorem f_X10_keep_13 (hZ : ZRN (ztb (tb_X10_keep E d mc ms)) cut G R T Z) (f : Nat) (L : ZLV) (st : List Value) (σ : ZHp) (n k w : Nat) : Z (f + 1) 13 L st σ n k w = s_iload 1 14 L st σ n k w (zk1 cut G (Z f)) G R T := zrs hZ rfl f L st σ n k w
theorem f_X10_keep_14 (hZ : ZRN (ztb (tb_X10_keep E d mc ms)) cut G R T Z) (f : Nat) (L : ZLV) (st : List Value) (σ : ZHp) (n k w : Nat) : Z (f + 1) 14 L st σ n k w = s_aload 0 15 L st σ n k w (zk1 cut G (Z f)) G R T := zrs hZ rfl f L st σ n k w
theorem f_X10_keep_15 (hZ : ZRN (ztb (tb_X10_keep E d mc ms)) cut G R T Z) (f : Nat) (L : ZLV) (st : List Value) (σ : ZHp) (n k w : Nat) : Z (f + 1) 15 L st σ n k w = s_getf 9 2 18 L st σ n k w (zk1 cut G (Z f)) G R T := zrs hZ rfl f L st σ n k w
theorem f_X10_keep_18 (hZ : ZRN (ztb (tb_X10_keep E d mc ms)) cut G R T Z) (f : Nat) (L : ZLV) (st : List Value) (σ : ZHp) (n k w : Nat) : Z (f + 1) 18 L st σ n k w = s_alen E 19 L st σ n k w (zk1 cut G (Z f)) G R T := zrs hZ rfl f L st σ n k w
theorem f_X10_keep_19 (hZ : ZRN (ztb (tb_X10_keep E d mc ms)) cut G R T Z) (f : Nat) (L : ZLV) (st : List Value) (σ : ZHp) (n k w : Nat) : Z (f + 1) 19 L st σ n k w = s_icmp_ge 51 22 L st σ n k w (zk1 cut G (Z f)) G R T := zrs hZ rfl f L st σ n k w
theorem f_X10_keep_22 (hZ : ZRN (ztb (tb_X10_keep E d mc ms)) cut G R T Z) (f : Nat) (L : ZLV) (st : List Value) (σ : ZHp) (n k w : Nat) : Z (f + 1) 22 L st σ n k w = s_aload 0 23 L st σ n k w (zk1 cut G (Z f)) G R T := zrs hZ rfl f L st σ n k w
theorem f_X10_keep_23 (hZ : ZRN (ztb (tb_X10_keep E d mc ms)) cut G R T Z) (f : Nat) (L : ZLV) (st : List Value) (σ : ZHp) (n k w : Nat) : Z (f + 1) 23 L st σ n k w = s_getf 9 0 26 L st σ n k w (zk1 cut G (Z f)) G R T := zrs hZ rfl f L st σ n k w
theorem f_X10_keep_26 (hZ : ZRN (ztb (tb_X10_keep E d mc ms)) cut G R T Z) (f : Nat) (L : ZLV) (st : List Value) (σ : ZHp) (n k w : Nat) : Z (f + 1) 26 L st σ n k w = s_iload 1 27 L st σ n k w (zk1 cut G (Z f)) G R T := zrs hZ rfl f L st σ n k w
theorem f_X10_keep_27 (hZ : ZRN (ztb (tb_X10_keep E d mc ms)) cut G R T Z) (f : Nat) (L : ZLV) (st : List Value) (σ : ZHp) (n k w : Nat) : Z (f + 1) 27 L st σ n k w = s_aload 0 28 L st σ n k w (zk1 cut G (Z f)) G R T := zrs hZ rfl f L st σ n k w
theorem f_X10_keep_28 (hZ : ZRN (ztb (tb_X10_keep E d mc ms)) cut G R T Z) (f : Nat) (L : ZLV) (st : List Value) (σ : ZHp) (n k w : Nat) : Z (f + 1) 28 L st σ n k w = s_getf 9 4 31 L st σ n k w (zk1 cut G (Z f)) G R T := zrs hZ rfl f L st σ n k w
theorem f_X10_keep_31 (hZ : ZRN (ztb (tb_X10_keep E d mc ms)) cut G R T Z) (f : Nat) (L : ZLV) (st : List Value) (σ : ZHp) (n k w : Nat) : Z (f + 1) 31 L st σ n k w = s_aastoreS E 32 L st σ n k w (zk1 cut G (Z f)) G R T := zrs hZ rfl f L st σ n k w
theorem f_X10_keep_32 (hZ : ZRN (ztb (tb_X10_keep E d mc ms)) cut G R T Z) (f : Nat) (L : ZLV) (st : List Value) (σ : ZHp) (n k w : Nat) : Z (f + 1) 32 L st σ n k w = s_aload 0 33 L st σ n k w (zk1 cut G (Z f)) G R T := zrs hZ rfl f L st σ n k w
theorem f_X10_keep_33 (hZ : ZRN (ztb (tb_X10_keep E d mc ms)) cut G R T Z) (f : Nat) (L : ZLV) (st : List Value) (σ : ZHp) (n k w : Nat) : Z (f + 1) 33 L st σ n k w = s_getf 9 2 36 L st σ n k w (zk1 cut G (Z f)) G R T := zrs hZ rfl f L st σ n k w
theorem f_X10_keep_36 (hZ : ZRN (ztb (tb_X10_keep E d mc ms)) cut G R T Z) (f : Nat) (L : ZLV) (st : List Value) (σ : ZHp) (n k w : Nat) : Z (f + 1) 36 L st σ n k w = s_iload 1 37 L st σ n k w (zk1 cut G (Z f)) G R T := zrs hZ rfl f L st σ n k w
theorem f_X10_keep_37 (hZ : ZRN (ztb (tb_X10_keep E d mc ms)) cut G R T Z) (f : Nat) (L : ZLV) (st : List Value) (σ : ZHp) (n k w : Nat) : Z (f + 1) 37 L st σ n k w = s_aload 0 38 L st σ n k w (zk1 cut G (Z f)) G R T := zrs hZ rfl f L st σ n k w
theorem f_X10_keep_38 (hZ : ZRN (ztb (tb_X10_keep E d mc ms)) cut G R T Z) (f : Nat) (L : ZLV) (st : List Value) (σ : ZHp) (n k w : Nat) : Z (f + 1) 38 L st σ n k w = s_getf 9 5 41 L st σ n k w (zk1 cut G (Z f)) G R T := zrs hZ rfl f L st σ n k w
theorem f_X10_keep_41 (hZ : ZRN (ztb (tb_X10_keep E d mc ms)) cut G R T Z) (f : Nat) (L : ZLV) (st : List Value) (σ : ZHp) (n k w : Nat) : Z (f + 1) 41 L st σ n k w = s_lastore E 42 L st σ n k w (zk1 cut G (Z f)) G R T := zrs hZ rfl f L st σ n k w
theorem f_X10_keep_42 (hZ : ZRN (ztb (tb_X10_keep E d mc ms)) cut G R T Z) (f : Nat) (L : ZLV) (st : List Value) (σ : ZHp) (n k w : Nat) : Z (f + 1) 42 L st σ n k w = s_aload 0 43 L st σ n k w (zk1 cut G (Z f)) G R T := zrs hZ rfl f L st σ n k w
theorem f_X10_keep_43 (hZ : ZRN (ztb (tb_X10_keep E d mc ms)) cut G R T Z) (f : Nat) (L : ZLV) (st : List Value) (σ : ZHp) (n k w : Nat) : Z (f + 1) 43 L st σ n k w = s_getf 9 1 46 L st σ n k w (zk1 cut G (Z f)) G R T := zrs hZ rfl f L st σ n k w
theorem f_X10_keep_46 (hZ : ZRN (ztb (tb_X10_keep E d mc ms)) cut G R T Z) (f : Nat) (L : ZLV) (st : List Value) (σ : ZHp) (n k w : Nat) : Z (f + 1) 46 L st σ n k w = s_iload 1 47 L st σ n k w (zk1 cut G (Z f)) G R T := zrs hZ rfl f L st σ n k w
theorem f_X10_keep_47 (hZ : ZRN (ztb (tb_X10_keep E d mc ms)) cut G R T Z) (f : Nat) (L : ZLV) (st : List Value) (σ : ZHp) (n k w : Nat) : Z (f + 1) 47 L st σ n k w = s_iload 2 48 L st σ n k w (zk1 cut G (Z f)) G R T := zrs hZ rfl f L st σ n k w
theorem f_X10_keep_48 (hZ : ZRN (ztb (tb_X10_keep E d mc ms)) cut G R T Z) (f : Nat) (L : ZLV) (st : List Value) (σ : ZHp) (n k w : Nat) : Z (f + 1) 48 L st σ n k w = s_callV E d mc ms 4 MX5_set 2 51 L st σ n k w (zk1 cut G (Z f)) G R T := zrs hZ rfl f L st σ n k w
theorem f_X10_keep_51 (hZ : ZRN (ztb (tb_X10_keep E d mc ms)) cut G R T Z) (f : Nat) (L : ZLV) (st : List Value) (σ : ZHp) (n k w : Nat) : Z (f + 1) 51 L st σ n k w = s_return L st σ n k w (zk1 cut G (Z f)) G R T := zrs hZ rfl f L st σ n k w
theorem f_X10_behindBlanks_0 (hZ : ZRN (ztb (tb_X10_behindBlanks E d mc ms)) cut G R T Z) (f : Nat) (L : ZLV) (st : List Value) (σ : ZHp) (n k w : Nat) : Z (f + 1) 0 L st σ n k w = s_iload 1 1 L st σ n k w (zk1 cut G (Z f)) G R T := zrs hZ rfl f L st σ n k w
theorem f_X10_behindBlanks_1 (hZ : ZRN (ztb (tb_X10_behindBlanks E d mc ms)) cut G R T Z) (f : Nat) (L : ZLV) (st : List Value) (σ : ZHp) (n k w : Nat) : Z (f + 1) 1 L st σ n k w = s_istore 2 2 L st σ n k w (zk1 cut G (Z f)) G R T := zrs hZ rfl f L st σ n k w
theorem f_X10_behindBlanks_2 (hZ : ZRN (ztb (tb_X10_behindBlanks E d mc ms)) cut G R T Z) (f : Nat) (L : ZLV) (st : List Value) (σ : ZHp) (n k w : Nat) : Z (f + 1) 2 L st σ n k w = s_iload 2 3 L st σ n k w (zk1 cut G (Z f)) G R T := zrs hZ rfl f L st σ n k w
theorem f_X10_behindBlanks_3 (hZ : ZRN (ztb (tb_X10_behindBlanks E d mc ms)) cut G R T Z) (f : Nat) (L : ZLV) (st : List Value) (σ : ZHp) (n k w : Nat) : Z (f + 1) 3 L st σ n k w = s_aload 0 4 L st σ n k w (zk1 cut G (Z f)) G R T := zrs hZ rfl f L st σ n k w
theorem f_X10_behindBlanks_4 (hZ : ZRN (ztb (tb_X10_behindBlanks E d mc ms)) cut G R T Z) (f : Nat) (L : ZLV) (st : List Value) (σ : ZHp) (n k w : Nat) : Z (f + 1) 4 L st σ n k w = s_callV E d mc ms 8 MX9_length 0 7 L st σ n k w (zk1 cut G (Z f)) G R T := zrs hZ rfl f L st σ n k w
theorem f_X10_behindBlanks_7 (hZ : ZRN (ztb (tb_X10_behindBlanks E d mc ms)) cut G R T Z) (f : Nat) (L : ZLV) (st : List Value) (σ : ZHp) (n k w : Nat) : Z (f + 1) 7 L st σ n k w = s_icmp_ge 36 10 L st σ n k w (zk1 cut G (Z f)) G R T := zrs hZ rfl f L st σ n k w
theorem f_X10_behindBlanks_10 (hZ : ZRN (ztb (tb_X10_behindBlanks E d mc ms)) cut G R T Z) (f : Nat) (L : ZLV) (st : List Value) (σ : ZHp) (n k w : Nat) : Z (f + 1) 10 L st σ n k w = s_aload 0 11 L st σ n k w (zk1 cut G (Z f)) G R T := zrs hZ rfl f L st σ n k w
theorem f_X10_behindBlanks_11 (hZ : ZRN (ztb (tb_X10_behindBlanks E d mc ms)) cut G R T Z) (f : Nat) (L : ZLV) (st : List Value) (σ : ZHp) (n k w : Nat) : Z (f + 1) 11 L st σ n k w = s_iload 2 12 L st σ n k w (zk1 cut G (Z f)) G R T := zrs hZ rfl f L st σ n k w
theorem f_X10_behindBlanks_12 (hZ : ZRN (ztb (tb_X10_behindBlanks E d mc ms)) cut G R T Z) (f : Nat) (L : ZLV) (st : List Value) (σ : ZHp) (n k w : Nat) : Z (f + 1) 12 L st σ n k w = s_callV E d mc ms 8 MX9_at 1 15 L st σ n k w (zk1 cut G (Z f)) G R T := zrs hZ rfl f L st σ n k w
theorem f_X10_behindBlanks_15 (hZ : ZRN (ztb (tb_X10_behindBlanks E d mc ms)) cut G R T Z) (f : Nat) (L : ZLV) (st : List Value) (σ : ZHp) (n k w : Nat) : Z (f + 1) 15 L st σ n k w = s_const (.int (32)) 17 L st σ n k w (zk1 cut G (Z f)) G R T := zrs hZ rfl f L st σ n k w
theorem f_X10_behindBlanks_17 (hZ : ZRN (ztb (tb_X10_behindBlanks E d mc ms)) cut G R T Z) (f : Nat) (L : ZLV) (st : List Value) (σ : ZHp) (n k w : Nat) : Z (f + 1) 17 L st σ n k w = s_icmp_eq 30 20 L st σ n k w (zk1 cut G (Z f)) G R T := zrs hZ rfl f L st σ n k w
theorem f_X10_behindBlanks_20 (hZ : ZRN (ztb (tb_X10_behindBlanks E d mc ms)) cut G R T Z) (f : Nat) (L : ZLV) (st : List Value) (σ : ZHp) (n k w : Nat) : Z (f + 1) 20 L st σ n k w = s_aload 0 21 L st σ n k w (zk1 cut G (Z f)) G R T := zrs hZ rfl f L st σ n k w
theorem f_X10_behindBlanks_21 (hZ : ZRN (ztb (tb_X10_behindBlanks E d mc ms)) cut G R T Z) (f : Nat) (L : ZLV) (st : List Value) (σ : ZHp) (n k w : Nat) : Z (f + 1) 21 L st σ n k w = s_iload 2 22 L st σ n k w (zk1 cut G (Z f)) G R T := zrs hZ rfl f L st σ n k w
theorem f_X10_behindBlanks_22 (hZ : ZRN (ztb (tb_X10_behindBlanks E d mc ms)) cut G R T Z) (f : Nat) (L : ZLV) (st : List Value) (σ : ZHp) (n k w : Nat) : Z (f + 1) 22 L st σ n k w = s_callV E d mc ms 8 MX9_at 1 25 L st σ n k w (zk1 cut G (Z f)) G R T := zrs hZ rfl f L st σ n k w
theorem f_X10_behindBlanks_25 (hZ : ZRN (ztb (tb_X10_behindBlanks E d mc ms)) cut G R T Z) (f : Nat) (L : ZLV) (st : List Value) (σ : ZHp) (n k w : Nat) : Z (f + 1) 25 L st σ n k w = s_const (.int (10)) 27 L st σ n k w (zk1 cut G (Z f)) G R T := zrs hZ rfl f L st σ n k w
theorem f_X10_behindBlanks_27 (hZ : ZRN (ztb (tb_X10_behindBlanks E d mc ms)) cut G R T Z) (f : Nat) (L : ZLV) (st : List Value) (σ : ZHp) (n k w : Nat) : Z (f + 1) 27 L st σ n k w = s_icmp_ne 36 30 L st σ n k w (zk1 cut G (Z f)) G R T := zrs hZ rfl f L st σ n k w
theorem f_X10_behindBlanks_30 (hZ : ZRN (ztb (tb_X10_behindBlanks E d mc ms)) cut G R T Z) (f : Nat) (L : ZLV) (st : List Value) (σ : ZHp) (n k w : Nat) : Z (f + 1) 30 L st σ n k w = s_iinc 2 (1) 33 L st σ n k w (zk1 cut G (Z f)) G R T := zrs hZ rfl f L st σ n k w
theorem f_X10_behindBlanks_33 (hZ : ZRN (ztb (tb_X10_behindBlanks E d mc ms)) cut G R T Z) (f : Nat) (L : ZLV) (st : List Value) (σ : ZHp) (n k w : Nat) : Z (f + 1) 33 L st σ n k w = s_goto 2 L st σ n k w (zk1 cut G (Z f)) G R T := zrs hZ rfl f L st σ n k w
theorem f_X10_behindBlanks_36 (hZ : ZRN (ztb (tb_X10_behindBlanks E d mc ms)) cut G R T Z) (f : Nat) (L : ZLV) (st : List Value) (σ : ZHp) (n k w : Nat) : Z (f + 1) 36 L st σ n k w = s_iload 2 37 L st σ n k w (zk1 cut G (Z f)) G R T := zrs hZ rfl f L st σ n k w
theorem f_X10_behindBlanks_37 (hZ : ZRN (ztb (tb_X10_behindBlanks E d mc ms)) cut G R T Z) (f : Nat) (L : ZLV) (st : List Value) (σ : ZHp) (n k w : Nat) : Z (f + 1) 37 L st σ n k w = s_ireturn L st σ n k w (zk1 cut G (Z f)) G R T := zrs hZ rfl f L st σ n k w
theorem f_X10_readToken_0 (hZ : ZRN (ztb (tb_X10_readToken E d mc ms)) cut G R T Z) (f : Nat) (L : ZLV) (st : List Value) (σ : ZHp) (n k w : Nat) : Z (f + 1) 0 L st σ n k w = s_aload 0 1 L st σ n k w (zk1 cut G (Z f)) G R T := zrs hZ rfl f L st σ n k w
theorem f_X10_readToken_1 (hZ : ZRN (ztb (tb_X10_readToken E d mc ms)) cut G R T Z) (f : Nat) (L : ZLV) (st : List Value) (σ : ZHp) (n k w : Nat) : Z (f + 1) 1 L st σ n k w = s_const (.long 0) 2 L st σ n k w (zk1 cut G (Z f)) G R T := zrs hZ rfl f L st σ n k w
theorem f_X10_readToken_2 (hZ : ZRN (ztb (tb_X10_readToken E d mc ms)) cut G R T Z) (f : Nat) (L : ZLV) (st : List Value) (σ : ZHp) (n k w : Nat) : Z (f + 1) 2 L st σ n k w = s_putf 9 5 2 5 L st σ n k w (zk1 cut G (Z f)) G R T := zrs hZ rfl f L st σ n k w
theorem f_X10_readToken_5 (hZ : ZRN (ztb (tb_X10_readToken E d mc ms)) cut G R T Z) (f : Nat) (L : ZLV) (st : List Value) (σ : ZHp) (n k w : Nat) : Z (f + 1) 5 L st σ n k w = s_iload 2 6 L st σ n k w (zk1 cut G (Z f)) G R T := zrs hZ rfl f L st σ n k w
theorem f_X10_readToken_6 (hZ : ZRN (ztb (tb_X10_readToken E d mc ms)) cut G R T Z) (f : Nat) (L : ZLV) (st : List Value) (σ : ZHp) (n k w : Nat) : Z (f + 1) 6 L st σ n k w = s_aload 1 7 L st σ n k w (zk1 cut G (Z f)) G R T := zrs hZ rfl f L st σ n k w
theorem f_X10_readToken_7 (hZ : ZRN (ztb (tb_X10_readToken E d mc ms)) cut G R T Z) (f : Nat) (L : ZLV) (st : List Value) (σ : ZHp) (n k w : Nat) : Z (f + 1) 7 L st σ n k w = s_callV E d mc ms 8 MX9_length 0 10 L st σ n k w (zk1 cut G (Z f)) G R T := zrs hZ rfl f L st σ n k w
theorem f_X10_readToken_10 (hZ : ZRN (ztb (tb_X10_readToken E d mc ms)) cut G R T Z) (f : Nat) (L : ZLV) (st : List Value) (σ : ZHp) (n k w : Nat) : Z (f + 1) 10 L st σ n k w = s_icmp_lt 22 13 L st σ n k w (zk1 cut G (Z f)) G R T := zrs hZ rfl f L st σ n k w
theorem f_X10_readToken_13 (hZ : ZRN (ztb (tb_X10_readToken E d mc ms)) cut G R T Z) (f : Nat) (L : ZLV) (st : List Value) (σ : ZHp) (n k w : Nat) : Z (f + 1) 13 L st σ n k w = s_aload 0 14 L st σ n k w (zk1 cut G (Z f)) G R T := zrs hZ rfl f L st σ n k w
theorem f_X10_readToken_14 (hZ : ZRN (ztb (tb_X10_readToken E d mc ms)) cut G R T Z) (f : Nat) (L : ZLV) (st : List Value) (σ : ZHp) (n k w : Nat) : Z (f + 1) 14 L st σ n k w = s_const (.ref (zeK E 1)) 17 L st σ n k w (zk1 cut G (Z f)) G R T := zrs hZ rfl f L st σ n k w
theorem f_X10_readToken_17 (hZ : ZRN (ztb (tb_X10_readToken E d mc ms)) cut G R T Z) (f : Nat) (L : ZLV) (st : List Value) (σ : ZHp) (n k w : Nat) : Z (f + 1) 17 L st σ n k w = s_putf 9 4 3 20 L st σ n k w (zk1 cut G (Z f)) G R T := zrs hZ rfl f L st σ n k w
theorem f_X10_readToken_20 (hZ : ZRN (ztb (tb_X10_readToken E d mc ms)) cut G R T Z) (f : Nat) (L : ZLV) (st : List Value) (σ : ZHp) (n k w : Nat) : Z (f + 1) 20 L st σ n k w = s_iload 2 21 L st σ n k w (zk1 cut G (Z f)) G R T := zrs hZ rfl f L st σ n k w
theorem f_X10_readToken_21 (hZ : ZRN (ztb (tb_X10_readToken E d mc ms)) cut G R T Z) (f : Nat) (L : ZLV) (st : List Value) (σ : ZHp) (n k w : Nat) : Z (f + 1) 21 L st σ n k w = s_ireturn L st σ n k w (zk1 cut G (Z f)) G R T := zrs hZ rfl f L st σ n k w
theorem f_X10_readToken_22 (hZ : ZRN (ztb (tb_X10_readToken E d mc ms)) cut G R T Z) (f : Nat) (L : ZLV) (st : List Value) (σ : ZHp) (n k w : Nat) : Z (f + 1) 22 L st σ n k w = s_aload 1 23 L st σ n k w (zk1 cut G (Z f)) G R T := zrs hZ rfl f L st σ n k w
theorem f_X10_readToken_23 (hZ : ZRN (ztb (tb_X10_readToken E d mc ms)) cut G R T Z) (f : Nat) (L : ZLV) (st : List Value) (σ : ZHp) (n k w : Nat) : Z (f + 1) 23 L st σ n k w = s_iload 2 24 L st σ n k w (zk1 cut G (Z f)) G R T := zrs hZ rfl f L st σ n k w
theorem f_X10_readToken_24 (hZ : ZRN (ztb (tb_X10_readToken E d mc ms)) cut G R T Z) (f : Nat) (L : ZLV) (st : List Value) (σ : ZHp) (n k w : Nat) : Z (f + 1) 24 L st σ n k w = s_callV E d mc ms 8 MX9_at 1 27 L st σ n k w (zk1 cut G (Z f)) G R T := zrs hZ rfl f L st σ n k w
theorem f_X10_readToken_27 (hZ : ZRN (ztb (tb_X10_readToken E d mc ms)) cut G R T Z) (f : Nat) (L : ZLV) (st : List Value) (σ : ZHp) (n k w : Nat) : Z (f + 1) 27 L st σ n k w = s_callS E d mc ms MX10_isLetter 1 30 L st σ n k w (zk1 cut G (Z f)) G R T := zrs hZ rfl f L st σ n k w
theorem f_X10_readToken_30 (hZ : ZRN (ztb (tb_X10_readToken E d mc ms)) cut G R T Z) (f : Nat) (L : ZLV) (st : List Value) (σ : ZHp) (n k w : Nat) : Z (f + 1) 30 L st σ n k w = s_if_eq 40 33 L st σ n k w (zk1 cut G (Z f)) G R T := zrs hZ rfl f L st σ n k w
theorem f_X10_readToken_33 (hZ : ZRN (ztb (tb_X10_readToken E d mc ms)) cut G R T Z) (f : Nat) (L : ZLV) (st : List Value) (σ : ZHp) (n k w : Nat) : Z (f + 1) 33 L st σ n k w = s_aload 0 34 L st σ n k w (zk1 cut G (Z f)) G R T := zrs hZ rfl f L st σ n k w
theorem f_X10_readToken_34 (hZ : ZRN (ztb (tb_X10_readToken E d mc ms)) cut G R T Z) (f : Nat) (L : ZLV) (st : List Value) (σ : ZHp) (n k w : Nat) : Z (f + 1) 34 L st σ n k w = s_aload 1 35 L st σ n k w (zk1 cut G (Z f)) G R T := zrs hZ rfl f L st σ n k w
theorem f_X10_readToken_35 (hZ : ZRN (ztb (tb_X10_readToken E d mc ms)) cut G R T Z) (f : Nat) (L : ZLV) (st : List Value) (σ : ZHp) (n k w : Nat) : Z (f + 1) 35 L st σ n k w = s_iload 2 36 L st σ n k w (zk1 cut G (Z f)) G R T := zrs hZ rfl f L st σ n k w
theorem f_X10_readToken_36 (hZ : ZRN (ztb (tb_X10_readToken E d mc ms)) cut G R T Z) (f : Nat) (L : ZLV) (st : List Value) (σ : ZHp) (n k w : Nat) : Z (f + 1) 36 L st σ n k w = s_callV E d mc ms 9 MX10_readWord 2 39 L st σ n k w (zk1 cut G (Z f)) G R T := zrs hZ rfl f L st σ n k w
theorem f_X10_readToken_39 (hZ : ZRN (ztb (tb_X10_readToken E d mc ms)) cut G R T Z) (f : Nat) (L : ZLV) (st : List Value) (σ : ZHp) (n k w : Nat) : Z (f + 1) 39 L st σ n k w = s_ireturn L st σ n k w (zk1 cut G (Z f)) G R T := zrs hZ rfl f L st σ n k w
theorem f_X10_readToken_40 (hZ : ZRN (ztb (tb_X10_readToken E d mc ms)) cut G R T Z) (f : Nat) (L : ZLV) (st : List Value) (σ : ZHp) (n k w : Nat) : Z (f + 1) 40 L st σ n k w = s_aload 1 41 L st σ n k w (zk1 cut G (Z f)) G R T := zrs hZ rfl f L st σ n k w
theorem f_X10_readToken_41 (hZ : ZRN (ztb (tb_X10_readToken E d mc ms)) cut G R T Z) (f : Nat) (L : ZLV) (st : List Value) (σ : ZHp) (n k w : Nat) : Z (f + 1) 41 L st σ n k w = s_iload 2 42 L st σ n k w (zk1 cut G (Z f)) G R T := zrs hZ rfl f L st σ n k w
theorem f_X10_readToken_42 (hZ : ZRN (ztb (tb_X10_readToken E d mc ms)) cut G R T Z) (f : Nat) (L : ZLV) (st : List Value) (σ : ZHp) (n k w : Nat) : Z (f + 1) 42 L st σ n k w = s_callV E d mc ms 8 MX9_at 1 45 L st σ n k w (zk1 cut G (Z f)) G R T := zrs hZ rfl f L st σ n k w
theorem f_X10_readToken_45 (hZ : ZRN (ztb (tb_X10_readToken E d mc ms)) cut G R T Z) (f : Nat) (L : ZLV) (st : List Value) (σ : ZHp) (n k w : Nat) : Z (f + 1) 45 L st σ n k w = s_callS E d mc ms MX10_isDigit 1 48 L st σ n k w (zk1 cut G (Z f)) G R T := zrs hZ rfl f L st σ n k w
theorem f_X10_readToken_48 (hZ : ZRN (ztb (tb_X10_readToken E d mc ms)) cut G R T Z) (f : Nat) (L : ZLV) (st : List Value) (σ : ZHp) (n k w : Nat) : Z (f + 1) 48 L st σ n k w = s_if_eq 58 51 L st σ n k w (zk1 cut G (Z f)) G R T := zrs hZ rfl f L st σ n k w
theorem f_X10_readToken_51 (hZ : ZRN (ztb (tb_X10_readToken E d mc ms)) cut G R T Z) (f : Nat) (L : ZLV) (st : List Value) (σ : ZHp) (n k w : Nat) : Z (f + 1) 51 L st σ n k w = s_aload 0 52 L st σ n k w (zk1 cut G (Z f)) G R T := zrs hZ rfl f L st σ n k w
theorem f_X10_readToken_52 (hZ : ZRN (ztb (tb_X10_readToken E d mc ms)) cut G R T Z) (f : Nat) (L : ZLV) (st : List Value) (σ : ZHp) (n k w : Nat) : Z (f + 1) 52 L st σ n k w = s_aload 1 53 L st σ n k w (zk1 cut G (Z f)) G R T := zrs hZ rfl f L st σ n k w
theorem f_X10_readToken_53 (hZ : ZRN (ztb (tb_X10_readToken E d mc ms)) cut G R T Z) (f : Nat) (L : ZLV) (st : List Value) (σ : ZHp) (n k w : Nat) : Z (f + 1) 53 L st σ n k w = s_iload 2 54 L st σ n k w (zk1 cut G (Z f)) G R T := zrs hZ rfl f L st σ n k w
theorem f_X10_readToken_54 (hZ : ZRN (ztb (tb_X10_readToken E d mc ms)) cut G R T Z) (f : Nat) (L : ZLV) (st : List Value) (σ : ZHp) (n k w : Nat) : Z (f + 1) 54 L st σ n k w = s_callV E d mc ms 9 MX10_readNumber 2 57 L st σ n k w (zk1 cut G (Z f)) G R T := zrs hZ rfl f L st σ n k w
theorem f_X10_readToken_57 (hZ : ZRN (ztb (tb_X10_readToken E d mc ms)) cut G R T Z) (f : Nat) (L : ZLV) (st : List Value) (σ : ZHp) (n k w : Nat) : Z (f + 1) 57 L st σ n k w = s_ireturn L st σ n k w (zk1 cut G (Z f)) G R T := zrs hZ rfl f L st σ n k w
theorem f_X10_readToken_58 (hZ : ZRN (ztb (tb_X10_readToken E d mc ms)) cut G R T Z) (f : Nat) (L : ZLV) (st : List Value) (σ : ZHp) (n k w : Nat) : Z (f + 1) 58 L st σ n k w = s_aload 0 59 L st σ n k w (zk1 cut G (Z f)) G R T := zrs hZ rfl f L st σ n k w
theorem f_X10_readToken_59 (hZ : ZRN (ztb (tb_X10_readToken E d mc ms)) cut G R T Z) (f : Nat) (L : ZLV) (st : List Value) (σ : ZHp) (n k w : Nat) : Z (f + 1) 59 L st σ n k w = s_aload 1 60 L st σ n k w (zk1 cut G (Z f)) G R T := zrs hZ rfl f L st σ n k w
theorem f_X10_readToken_60 (hZ : ZRN (ztb (tb_X10_readToken E d mc ms)) cut G R T Z) (f : Nat) (L : ZLV) (st : List Value) (σ : ZHp) (n k w : Nat) : Z (f + 1) 60 L st σ n k w = s_iload 2 61 L st σ n k w (zk1 cut G (Z f)) G R T := zrs hZ rfl f L st σ n k w
theorem f_X10_readToken_61 (hZ : ZRN (ztb (tb_X10_readToken E d mc ms)) cut G R T Z) (f : Nat) (L : ZLV) (st : List Value) (σ : ZHp) (n k w : Nat) : Z (f + 1) 61 L st σ n k w = s_callV E d mc ms 9 MX10_readSymbol 2 64 L st σ n k w (zk1 cut G (Z f)) G R T := zrs hZ rfl f L st σ n k w
theorem f_X10_readToken_64 (hZ : ZRN (ztb (tb_X10_readToken E d mc ms)) cut G R T Z) (f : Nat) (L : ZLV) (st : List Value) (σ : ZHp) (n k w : Nat) : Z (f + 1) 64 L st σ n k w = s_ireturn L st σ n k w (zk1 cut G (Z f)) G R T := zrs hZ rfl f L st σ n k w
theorem f_X10_readWord_0 (hZ : ZRN (ztb (tb_X10_readWord E d mc ms)) cut G R T Z) (f : Nat) (L : ZLV) (st : List Value) (σ : ZHp) (n k w : Nat) : Z (f + 1) 0 L st σ n k w = s_iload 2 1 L st σ n k w (zk1 cut G (Z f)) G R T := zrs hZ rfl f L st σ n k w
theorem f_X10_readWord_1 (hZ : ZRN (ztb (tb_X10_readWord E d mc ms)) cut G R T Z) (f : Nat) (L : ZLV) (st : List Value) (σ : ZHp) (n k w : Nat) : Z (f + 1) 1 L st σ n k w = s_istore 3 2 L st σ n k w (zk1 cut G (Z f)) G R T := zrs hZ rfl f L st σ n k w
theorem f_X10_readWord_2 (hZ : ZRN (ztb (tb_X10_readWord E d mc ms)) cut G R T Z) (f : Nat) (L : ZLV) (st : List Value) (σ : ZHp) (n k w : Nat) : Z (f + 1) 2 L st σ n k w = s_iload 3 3 L st σ n k w (zk1 cut G (Z f)) G R T := zrs hZ rfl f L st σ n k w
theorem f_X10_readWord_3 (hZ : ZRN (ztb (tb_X10_readWord E d mc ms)) cut G R T Z) (f : Nat) (L : ZLV) (st : List Value) (σ : ZHp) (n k w : Nat) : Z (f + 1) 3 L st σ n k w = s_aload 1 4 L st σ n k w (zk1 cut G (Z f)) G R T := zrs hZ rfl f L st σ n k w
theorem f_X10_readWord_4 (hZ : ZRN (ztb (tb_X10_readWord E d mc ms)) cut G R T Z) (f : Nat) (L : ZLV) (st : List Value) (σ : ZHp) (n k w : Nat) : Z (f + 1) 4 L st σ n k w = s_callV E d mc ms 8 MX9_length 0 7 L st σ n k w (zk1 cut G (Z f)) G R T := zrs hZ rfl f L st σ n k w
theorem f_X10_readWord_7 (hZ : ZRN (ztb (tb_X10_readWord E d mc ms)) cut G R T Z) (f : Nat) (L : ZLV) (st : List Value) (σ : ZHp) (n k w : Nat) : Z (f + 1) 7 L st σ n k w = s_icmp_ge 85 10 L st σ n k w (zk1 cut G (Z f)) G R T := zrs hZ rfl f L st σ n k w
theorem f_X10_readWord_10 (hZ : ZRN (ztb (tb_X10_readWord E d mc ms)) cut G R T Z) (f : Nat) (L : ZLV) (st : List Value) (σ : ZHp) (n k w : Nat) : Z (f + 1) 10 L st σ n k w = s_aload 1 11 L st σ n k w (zk1 cut G (Z f)) G R T := zrs hZ rfl f L st σ n k w
theorem f_X10_readWord_11 (hZ : ZRN (ztb (tb_X10_readWord E d mc ms)) cut G R T Z) (f : Nat) (L : ZLV) (st : List Value) (σ : ZHp) (n k w : Nat) : Z (f + 1) 11 L st σ n k w = s_iload 3 12 L st σ n k w (zk1 cut G (Z f)) G R T := zrs hZ rfl f L st σ n k w
theorem f_X10_readWord_12 (hZ : ZRN (ztb (tb_X10_readWord E d mc ms)) cut G R T Z) (f : Nat) (L : ZLV) (st : List Value) (σ : ZHp) (n k w : Nat) : Z (f + 1) 12 L st σ n k w = s_callV E d mc ms 8 MX9_at 1 15 L st σ n k w (zk1 cut G (Z f)) G R T := zrs hZ rfl f L st σ n k w
theorem f_X10_readWord_15 (hZ : ZRN (ztb (tb_X10_readWord E d mc ms)) cut G R T Z) (f : Nat) (L : ZLV) (st : List Value) (σ : ZHp) (n k w : Nat) : Z (f + 1) 15 L st σ n k w = s_callS E d mc ms MX10_isLetter 1 18 L st σ n k w (zk1 cut G (Z f)) G R T := zrs hZ rfl f L st σ n k w
theorem f_X10_readWord_18 (hZ : ZRN (ztb (tb_X10_readWord E d mc ms)) cut G R T Z) (f : Nat) (L : ZLV) (st : List Value) (σ : ZHp) (n k w : Nat) : Z (f + 1) 18 L st σ n k w = s_if_ne 32 21 L st σ n k w (zk1 cut G (Z f)) G R T := zrs hZ rfl f L st σ n k w
theorem f_X10_readWord_21 (hZ : ZRN (ztb (tb_X10_readWord E d mc ms)) cut G R T Z) (f : Nat) (L : ZLV) (st : List Value) (σ : ZHp) (n k w : Nat) : Z (f + 1) 21 L st σ n k w = s_aload 1 22 L st σ n k w (zk1 cut G (Z f)) G R T := zrs hZ rfl f L st σ n k w
theorem f_X10_readWord_22 (hZ : ZRN (ztb (tb_X10_readWord E d mc ms)) cut G R T Z) (f : Nat) (L : ZLV) (st : List Value) (σ : ZHp) (n k w : Nat) : Z (f + 1) 22 L st σ n k w = s_iload 3 23 L st σ n k w (zk1 cut G (Z f)) G R T := zrs hZ rfl f L st σ n k w
theorem f_X10_readWord_23 (hZ : ZRN (ztb (tb_X10_readWord E d mc ms)) cut G R T Z) (f : Nat) (L : ZLV) (st : List Value) (σ : ZHp) (n k w : Nat) : Z (f + 1) 23 L st σ n k w = s_callV E d mc ms 8 MX9_at 1 26 L st σ n k w (zk1 cut G (Z f)) G R T := zrs hZ rfl f L st σ n k w
theorem f_X10_readWord_26 (hZ : ZRN (ztb (tb_X10_readWord E d mc ms)) cut G R T Z) (f : Nat) (L : ZLV) (st : List Value) (σ : ZHp) (n k w : Nat) : Z (f + 1) 26 L st σ n k w = s_callS E d mc ms MX10_isDigit 1 29 L st σ n k w (zk1 cut G (Z f)) G R T := zrs hZ rfl f L st σ n k w
theorem f_X10_readWord_29 (hZ : ZRN (ztb (tb_X10_readWord E d mc ms)) cut G R T Z) (f : Nat) (L : ZLV) (st : List Value) (σ : ZHp) (n k w : Nat) : Z (f + 1) 29 L st σ n k w = s_if_eq 85 32 L st σ n k w (zk1 cut G (Z f)) G R T := zrs hZ rfl f L st σ n k w
theorem f_X10_readWord_32 (hZ : ZRN (ztb (tb_X10_readWord E d mc ms)) cut G R T Z) (f : Nat) (L : ZLV) (st : List Value) (σ : ZHp) (n k w : Nat) : Z (f + 1) 32 L st σ n k w = s_aload 1 33 L st σ n k w (zk1 cut G (Z f)) G R T := zrs hZ rfl f L st σ n k w
theorem f_X10_readWord_33 (hZ : ZRN (ztb (tb_X10_readWord E d mc ms)) cut G R T Z) (f : Nat) (L : ZLV) (st : List Value) (σ : ZHp) (n k w : Nat) : Z (f + 1) 33 L st σ n k w = s_iload 3 34 L st σ n k w (zk1 cut G (Z f)) G R T := zrs hZ rfl f L st σ n k w
theorem f_X10_readWord_34 (hZ : ZRN (ztb (tb_X10_readWord E d mc ms)) cut G R T Z) (f : Nat) (L : ZLV) (st : List Value) (σ : ZHp) (n k w : Nat) : Z (f + 1) 34 L st σ n k w = s_callV E d mc ms 8 MX9_at 1 37 L st σ n k w (zk1 cut G (Z f)) G R T := zrs hZ rfl f L st σ n k w
theorem f_X10_readWord_37 (hZ : ZRN (ztb (tb_X10_readWord E d mc ms)) cut G R T Z) (f : Nat) (L : ZLV) (st : List Value) (σ : ZHp) (n k w : Nat) : Z (f + 1) 37 L st σ n k w = s_istore 4 39 L st σ n k w (zk1 cut G (Z f)) G R T := zrs hZ rfl f L st σ n k w
theorem f_X10_readWord_39 (hZ : ZRN (ztb (tb_X10_readWord E d mc ms)) cut G R T Z) (f : Nat) (L : ZLV) (st : List Value) (σ : ZHp) (n k w : Nat) : Z (f + 1) 39 L st σ n k w = s_aload 0 40 L st σ n k w (zk1 cut G (Z f)) G R T := zrs hZ rfl f L st σ n k w
theorem f_X10_readWord_40 (hZ : ZRN (ztb (tb_X10_readWord E d mc ms)) cut G R T Z) (f : Nat) (L : ZLV) (st : List Value) (σ : ZHp) (n k w : Nat) : Z (f + 1) 40 L st σ n k w = s_aload 0 41 L st σ n k w (zk1 cut G (Z f)) G R T := zrs hZ rfl f L st σ n k w
theorem f_X10_readWord_41 (hZ : ZRN (ztb (tb_X10_readWord E d mc ms)) cut G R T Z) (f : Nat) (L : ZLV) (st : List Value) (σ : ZHp) (n k w : Nat) : Z (f + 1) 41 L st σ n k w = s_getf 9 5 44 L st σ n k w (zk1 cut G (Z f)) G R T := zrs hZ rfl f L st σ n k w
theorem f_X10_readWord_44 (hZ : ZRN (ztb (tb_X10_readWord E d mc ms)) cut G R T Z) (f : Nat) (L : ZLV) (st : List Value) (σ : ZHp) (n k w : Nat) : Z (f + 1) 44 L st σ n k w = s_const (.long (37)) 47 L st σ n k w (zk1 cut G (Z f)) G R T := zrs hZ rfl f L st σ n k w
theorem f_X10_readWord_47 (hZ : ZRN (ztb (tb_X10_readWord E d mc ms)) cut G R T Z) (f : Nat) (L : ZLV) (st : List Value) (σ : ZHp) (n k w : Nat) : Z (f + 1) 47 L st σ n k w = s_lmul 48 L st σ n k w (zk1 cut G (Z f)) G R T := zrs hZ rfl f L st σ n k w
theorem f_X10_readWord_48 (hZ : ZRN (ztb (tb_X10_readWord E d mc ms)) cut G R T Z) (f : Nat) (L : ZLV) (st : List Value) (σ : ZHp) (n k w : Nat) : Z (f + 1) 48 L st σ n k w = s_iload 4 50 L st σ n k w (zk1 cut G (Z f)) G R T := zrs hZ rfl f L st σ n k w
theorem f_X10_readWord_50 (hZ : ZRN (ztb (tb_X10_readWord E d mc ms)) cut G R T Z) (f : Nat) (L : ZLV) (st : List Value) (σ : ZHp) (n k w : Nat) : Z (f + 1) 50 L st σ n k w = s_callS E d mc ms MX10_isDigit 1 53 L st σ n k w (zk1 cut G (Z f)) G R T := zrs hZ rfl f L st σ n k w
theorem f_X10_readWord_53 (hZ : ZRN (ztb (tb_X10_readWord E d mc ms)) cut G R T Z) (f : Nat) (L : ZLV) (st : List Value) (σ : ZHp) (n k w : Nat) : Z (f + 1) 53 L st σ n k w = s_if_eq 66 56 L st σ n k w (zk1 cut G (Z f)) G R T := zrs hZ rfl f L st σ n k w
theorem f_X10_readWord_56 (hZ : ZRN (ztb (tb_X10_readWord E d mc ms)) cut G R T Z) (f : Nat) (L : ZLV) (st : List Value) (σ : ZHp) (n k w : Nat) : Z (f + 1) 56 L st σ n k w = s_iload 4 58 L st σ n k w (zk1 cut G (Z f)) G R T := zrs hZ rfl f L st σ n k w
theorem f_X10_readWord_58 (hZ : ZRN (ztb (tb_X10_readWord E d mc ms)) cut G R T Z) (f : Nat) (L : ZLV) (st : List Value) (σ : ZHp) (n k w : Nat) : Z (f + 1) 58 L st σ n k w = s_const (.int (48)) 60 L st σ n k w (zk1 cut G (Z f)) G R T := zrs hZ rfl f L st σ n k w
theorem f_X10_readWord_60 (hZ : ZRN (ztb (tb_X10_readWord E d mc ms)) cut G R T Z) (f : Nat) (L : ZLV) (st : List Value) (σ : ZHp) (n k w : Nat) : Z (f + 1) 60 L st σ n k w = s_isub 61 L st σ n k w (zk1 cut G (Z f)) G R T := zrs hZ rfl f L st σ n k w
theorem f_X10_readWord_61 (hZ : ZRN (ztb (tb_X10_readWord E d mc ms)) cut G R T Z) (f : Nat) (L : ZLV) (st : List Value) (σ : ZHp) (n k w : Nat) : Z (f + 1) 61 L st σ n k w = s_const (.int (1)) 62 L st σ n k w (zk1 cut G (Z f)) G R T := zrs hZ rfl f L st σ n k w
theorem f_X10_readWord_62 (hZ : ZRN (ztb (tb_X10_readWord E d mc ms)) cut G R T Z) (f : Nat) (L : ZLV) (st : List Value) (σ : ZHp) (n k w : Nat) : Z (f + 1) 62 L st σ n k w = s_iadd 63 L st σ n k w (zk1 cut G (Z f)) G R T := zrs hZ rfl f L st σ n k w
theorem f_X10_readWord_63 (hZ : ZRN (ztb (tb_X10_readWord E d mc ms)) cut G R T Z) (f : Nat) (L : ZLV) (st : List Value) (σ : ZHp) (n k w : Nat) : Z (f + 1) 63 L st σ n k w = s_goto 74 L st σ n k w (zk1 cut G (Z f)) G R T := zrs hZ rfl f L st σ n k w
theorem f_X10_readWord_66 (hZ : ZRN (ztb (tb_X10_readWord E d mc ms)) cut G R T Z) (f : Nat) (L : ZLV) (st : List Value) (σ : ZHp) (n k w : Nat) : Z (f + 1) 66 L st σ n k w = s_iload 4 68 L st σ n k w (zk1 cut G (Z f)) G R T := zrs hZ rfl f L st σ n k w
theorem f_X10_readWord_68 (hZ : ZRN (ztb (tb_X10_readWord E d mc ms)) cut G R T Z) (f : Nat) (L : ZLV) (st : List Value) (σ : ZHp) (n k w : Nat) : Z (f + 1) 68 L st σ n k w = s_const (.int (97)) 70 L st σ n k w (zk1 cut G (Z f)) G R T := zrs hZ rfl f L st σ n k w
theorem f_X10_readWord_70 (hZ : ZRN (ztb (tb_X10_readWord E d mc ms)) cut G R T Z) (f : Nat) (L : ZLV) (st : List Value) (σ : ZHp) (n k w : Nat) : Z (f + 1) 70 L st σ n k w = s_isub 71 L st σ n k w (zk1 cut G (Z f)) G R T := zrs hZ rfl f L st σ n k w
theorem f_X10_readWord_71 (hZ : ZRN (ztb (tb_X10_readWord E d mc ms)) cut G R T Z) (f : Nat) (L : ZLV) (st : List Value) (σ : ZHp) (n k w : Nat) : Z (f + 1) 71 L st σ n k w = s_const (.int (11)) 73 L st σ n k w (zk1 cut G (Z f)) G R T := zrs hZ rfl f L st σ n k w
theorem f_X10_readWord_73 (hZ : ZRN (ztb (tb_X10_readWord E d mc ms)) cut G R T Z) (f : Nat) (L : ZLV) (st : List Value) (σ : ZHp) (n k w : Nat) : Z (f + 1) 73 L st σ n k w = s_iadd 74 L st σ n k w (zk1 cut G (Z f)) G R T := zrs hZ rfl f L st σ n k w
theorem f_X10_readWord_74 (hZ : ZRN (ztb (tb_X10_readWord E d mc ms)) cut G R T Z) (f : Nat) (L : ZLV) (st : List Value) (σ : ZHp) (n k w : Nat) : Z (f + 1) 74 L st σ n k w = s_i2l 75 L st σ n k w (zk1 cut G (Z f)) G R T := zrs hZ rfl f L st σ n k w
theorem f_X10_readWord_75 (hZ : ZRN (ztb (tb_X10_readWord E d mc ms)) cut G R T Z) (f : Nat) (L : ZLV) (st : List Value) (σ : ZHp) (n k w : Nat) : Z (f + 1) 75 L st σ n k w = s_ladd 76 L st σ n k w (zk1 cut G (Z f)) G R T := zrs hZ rfl f L st σ n k w
theorem f_X10_readWord_76 (hZ : ZRN (ztb (tb_X10_readWord E d mc ms)) cut G R T Z) (f : Nat) (L : ZLV) (st : List Value) (σ : ZHp) (n k w : Nat) : Z (f + 1) 76 L st σ n k w = s_putf 9 5 2 79 L st σ n k w (zk1 cut G (Z f)) G R T := zrs hZ rfl f L st σ n k w
theorem f_X10_readWord_79 (hZ : ZRN (ztb (tb_X10_readWord E d mc ms)) cut G R T Z) (f : Nat) (L : ZLV) (st : List Value) (σ : ZHp) (n k w : Nat) : Z (f + 1) 79 L st σ n k w = s_iinc 3 (1) 82 L st σ n k w (zk1 cut G (Z f)) G R T := zrs hZ rfl f L st σ n k w
theorem f_X10_readWord_82 (hZ : ZRN (ztb (tb_X10_readWord E d mc ms)) cut G R T Z) (f : Nat) (L : ZLV) (st : List Value) (σ : ZHp) (n k w : Nat) : Z (f + 1) 82 L st σ n k w = s_goto 2 L st σ n k w (zk1 cut G (Z f)) G R T := zrs hZ rfl f L st σ n k w
theorem f_X10_readWord_85 (hZ : ZRN (ztb (tb_X10_readWord E d mc ms)) cut G R T Z) (f : Nat) (L : ZLV) (st : List Value) (σ : ZHp) (n k w : Nat) : Z (f + 1) 85 L st σ n k w = s_iload 3 86 L st σ n k w (zk1 cut G (Z f)) G R T := zrs hZ rfl f L st σ n k w
theorem f_X10_readWord_86 (hZ : ZRN (ztb (tb_X10_readWord E d mc ms)) cut G R T Z) (f : Nat) (L : ZLV) (st : List Value) (σ : ZHp) (n k w : Nat) : Z (f + 1) 86 L st σ n k w = s_iload 2 87 L st σ n k w (zk1 cut G (Z f)) G R T := zrs hZ rfl f L st σ n k w
theorem f_X10_readWord_87 (hZ : ZRN (ztb (tb_X10_readWord E d mc ms)) cut G R T Z) (f : Nat) (L : ZLV) (st : List Value) (σ : ZHp) (n k w : Nat) : Z (f + 1) 87 L st σ n k w = s_isub 88 L st σ n k w (zk1 cut G (Z f)) G R T := zrs hZ rfl f L st σ n k w
theorem f_X10_readWord_88 (hZ : ZRN (ztb (tb_X10_readWord E d mc ms)) cut G R T Z) (f : Nat) (L : ZLV) (st : List Value) (σ : ZHp) (n k w : Nat) : Z (f + 1) 88 L st σ n k w = s_istore 4 90 L st σ n k w (zk1 cut G (Z f)) G R T := zrs hZ rfl f L st σ n k w
theorem f_X10_readWord_90 (hZ : ZRN (ztb (tb_X10_readWord E d mc ms)) cut G R T Z) (f : Nat) (L : ZLV) (st : List Value) (σ : ZHp) (n k w : Nat) : Z (f + 1) 90 L st σ n k w = s_aload 0 91 L st σ n k w (zk1 cut G (Z f)) G R T := zrs hZ rfl f L st σ n k w
theorem f_X10_readWord_91 (hZ : ZRN (ztb (tb_X10_readWord E d mc ms)) cut G R T Z) (f : Nat) (L : ZLV) (st : List Value) (σ : ZHp) (n k w : Nat) : Z (f + 1) 91 L st σ n k w = s_const (.ref (zeK E 0)) 94 L st σ n k w (zk1 cut G (Z f)) G R T := zrs hZ rfl f L st σ n k w
theorem f_X10_readWord_94 (hZ : ZRN (ztb (tb_X10_readWord E d mc ms)) cut G R T Z) (f : Nat) (L : ZLV) (st : List Value) (σ : ZHp) (n k w : Nat) : Z (f + 1) 94 L st σ n k w = s_putf 9 4 3 97 L st σ n k w (zk1 cut G (Z f)) G R T := zrs hZ rfl f L st σ n k w
theorem f_X10_readWord_97 (hZ : ZRN (ztb (tb_X10_readWord E d mc ms)) cut G R T Z) (f : Nat) (L : ZLV) (st : List Value) (σ : ZHp) (n k w : Nat) : Z (f + 1) 97 L st σ n k w = s_iload 4 99 L st σ n k w (zk1 cut G (Z f)) G R T := zrs hZ rfl f L st σ n k w
theorem f_X10_readWord_99 (hZ : ZRN (ztb (tb_X10_readWord E d mc ms)) cut G R T Z) (f : Nat) (L : ZLV) (st : List Value) (σ : ZHp) (n k w : Nat) : Z (f + 1) 99 L st σ n k w = s_const (.int (10)) 101 L st σ n k w (zk1 cut G (Z f)) G R T := zrs hZ rfl f L st σ n k w
theorem f_X10_readWord_101 (hZ : ZRN (ztb (tb_X10_readWord E d mc ms)) cut G R T Z) (f : Nat) (L : ZLV) (st : List Value) (σ : ZHp) (n k w : Nat) : Z (f + 1) 101 L st σ n k w = s_icmp_gt 133 104 L st σ n k w (zk1 cut G (Z f)) G R T := zrs hZ rfl f L st σ n k w
theorem f_X10_readWord_104 (hZ : ZRN (ztb (tb_X10_readWord E d mc ms)) cut G R T Z) (f : Nat) (L : ZLV) (st : List Value) (σ : ZHp) (n k w : Nat) : Z (f + 1) 104 L st σ n k w = s_aload 1 105 L st σ n k w (zk1 cut G (Z f)) G R T := zrs hZ rfl f L st σ n k w
theorem f_X10_readWord_105 (hZ : ZRN (ztb (tb_X10_readWord E d mc ms)) cut G R T Z) (f : Nat) (L : ZLV) (st : List Value) (σ : ZHp) (n k w : Nat) : Z (f + 1) 105 L st σ n k w = s_iload 2 106 L st σ n k w (zk1 cut G (Z f)) G R T := zrs hZ rfl f L st σ n k w
theorem f_X10_readWord_106 (hZ : ZRN (ztb (tb_X10_readWord E d mc ms)) cut G R T Z) (f : Nat) (L : ZLV) (st : List Value) (σ : ZHp) (n k w : Nat) : Z (f + 1) 106 L st σ n k w = s_iload 4 108 L st σ n k w (zk1 cut G (Z f)) G R T := zrs hZ rfl f L st σ n k w
theorem f_X10_readWord_108 (hZ : ZRN (ztb (tb_X10_readWord E d mc ms)) cut G R T Z) (f : Nat) (L : ZLV) (st : List Value) (σ : ZHp) (n k w : Nat) : Z (f + 1) 108 L st σ n k w = s_callS E d mc ms MX8_spelled 3 111 L st σ n k w (zk1 cut G (Z f)) G R T := zrs hZ rfl f L st σ n k w
theorem f_X10_readWord_111 (hZ : ZRN (ztb (tb_X10_readWord E d mc ms)) cut G R T Z) (f : Nat) (L : ZLV) (st : List Value) (σ : ZHp) (n k w : Nat) : Z (f + 1) 111 L st σ n k w = s_astore 5 113 L st σ n k w (zk1 cut G (Z f)) G R T := zrs hZ rfl f L st σ n k w
theorem f_X10_readWord_113 (hZ : ZRN (ztb (tb_X10_readWord E d mc ms)) cut G R T Z) (f : Nat) (L : ZLV) (st : List Value) (σ : ZHp) (n k w : Nat) : Z (f + 1) 113 L st σ n k w = s_aload 0 114 L st σ n k w (zk1 cut G (Z f)) G R T := zrs hZ rfl f L st σ n k w
theorem f_X10_readWord_114 (hZ : ZRN (ztb (tb_X10_readWord E d mc ms)) cut G R T Z) (f : Nat) (L : ZLV) (st : List Value) (σ : ZHp) (n k w : Nat) : Z (f + 1) 114 L st σ n k w = s_aload 5 116 L st σ n k w (zk1 cut G (Z f)) G R T := zrs hZ rfl f L st σ n k w
theorem f_X10_readWord_116 (hZ : ZRN (ztb (tb_X10_readWord E d mc ms)) cut G R T Z) (f : Nat) (L : ZLV) (st : List Value) (σ : ZHp) (n k w : Nat) : Z (f + 1) 116 L st σ n k w = s_const (.ref (zeK E 0)) 119 L st σ n k w (zk1 cut G (Z f)) G R T := zrs hZ rfl f L st σ n k w
theorem f_X10_readWord_119 (hZ : ZRN (ztb (tb_X10_readWord E d mc ms)) cut G R T Z) (f : Nat) (L : ZLV) (st : List Value) (σ : ZHp) (n k w : Nat) : Z (f + 1) 119 L st σ n k w = s_acmp_ne 128 122 L st σ n k w (zk1 cut G (Z f)) G R T := zrs hZ rfl f L st σ n k w
theorem f_X10_readWord_122 (hZ : ZRN (ztb (tb_X10_readWord E d mc ms)) cut G R T Z) (f : Nat) (L : ZLV) (st : List Value) (σ : ZHp) (n k w : Nat) : Z (f + 1) 122 L st σ n k w = s_const (.ref (zeK E 2)) 125 L st σ n k w (zk1 cut G (Z f)) G R T := zrs hZ rfl f L st σ n k w
theorem f_X10_readWord_125 (hZ : ZRN (ztb (tb_X10_readWord E d mc ms)) cut G R T Z) (f : Nat) (L : ZLV) (st : List Value) (σ : ZHp) (n k w : Nat) : Z (f + 1) 125 L st σ n k w = s_goto 130 L st σ n k w (zk1 cut G (Z f)) G R T := zrs hZ rfl f L st σ n k w
theorem f_X10_readWord_128 (hZ : ZRN (ztb (tb_X10_readWord E d mc ms)) cut G R T Z) (f : Nat) (L : ZLV) (st : List Value) (σ : ZHp) (n k w : Nat) : Z (f + 1) 128 L st σ n k w = s_aload 5 130 L st σ n k w (zk1 cut G (Z f)) G R T := zrs hZ rfl f L st σ n k w
theorem f_X10_readWord_130 (hZ : ZRN (ztb (tb_X10_readWord E d mc ms)) cut G R T Z) (f : Nat) (L : ZLV) (st : List Value) (σ : ZHp) (n k w : Nat) : Z (f + 1) 130 L st σ n k w = s_putf 9 4 3 133 L st σ n k w (zk1 cut G (Z f)) G R T := zrs hZ rfl f L st σ n k w
theorem f_X10_readWord_133 (hZ : ZRN (ztb (tb_X10_readWord E d mc ms)) cut G R T Z) (f : Nat) (L : ZLV) (st : List Value) (σ : ZHp) (n k w : Nat) : Z (f + 1) 133 L st σ n k w = s_iload 3 134 L st σ n k w (zk1 cut G (Z f)) G R T := zrs hZ rfl f L st σ n k w
theorem f_X10_readWord_134 (hZ : ZRN (ztb (tb_X10_readWord E d mc ms)) cut G R T Z) (f : Nat) (L : ZLV) (st : List Value) (σ : ZHp) (n k w : Nat) : Z (f + 1) 134 L st σ n k w = s_ireturn L st σ n k w (zk1 cut G (Z f)) G R T := zrs hZ rfl f L st σ n k w
theorem f_X10_readNumber_0 (hZ : ZRN (ztb (tb_X10_readNumber E d mc ms)) cut G R T Z) (f : Nat) (L : ZLV) (st : List Value) (σ : ZHp) (n k w : Nat) : Z (f + 1) 0 L st σ n k w = s_iload 2 1 L st σ n k w (zk1 cut G (Z f)) G R T := zrs hZ rfl f L st σ n k w
theorem f_X10_readNumber_1 (hZ : ZRN (ztb (tb_X10_readNumber E d mc ms)) cut G R T Z) (f : Nat) (L : ZLV) (st : List Value) (σ : ZHp) (n k w : Nat) : Z (f + 1) 1 L st σ n k w = s_istore 3 2 L st σ n k w (zk1 cut G (Z f)) G R T := zrs hZ rfl f L st σ n k w
theorem f_X10_readNumber_2 (hZ : ZRN (ztb (tb_X10_readNumber E d mc ms)) cut G R T Z) (f : Nat) (L : ZLV) (st : List Value) (σ : ZHp) (n k w : Nat) : Z (f + 1) 2 L st σ n k w = s_iload 3 3 L st σ n k w (zk1 cut G (Z f)) G R T := zrs hZ rfl f L st σ n k w
theorem f_X10_readNumber_3 (hZ : ZRN (ztb (tb_X10_readNumber E d mc ms)) cut G R T Z) (f : Nat) (L : ZLV) (st : List Value) (σ : ZHp) (n k w : Nat) : Z (f + 1) 3 L st σ n k w = s_aload 1 4 L st σ n k w (zk1 cut G (Z f)) G R T := zrs hZ rfl f L st σ n k w
theorem f_X10_readNumber_4 (hZ : ZRN (ztb (tb_X10_readNumber E d mc ms)) cut G R T Z) (f : Nat) (L : ZLV) (st : List Value) (σ : ZHp) (n k w : Nat) : Z (f + 1) 4 L st σ n k w = s_callV E d mc ms 8 MX9_length 0 7 L st σ n k w (zk1 cut G (Z f)) G R T := zrs hZ rfl f L st σ n k w
theorem f_X10_readNumber_7 (hZ : ZRN (ztb (tb_X10_readNumber E d mc ms)) cut G R T Z) (f : Nat) (L : ZLV) (st : List Value) (σ : ZHp) (n k w : Nat) : Z (f + 1) 7 L st σ n k w = s_icmp_ge 49 10 L st σ n k w (zk1 cut G (Z f)) G R T := zrs hZ rfl f L st σ n k w
theorem f_X10_readNumber_10 (hZ : ZRN (ztb (tb_X10_readNumber E d mc ms)) cut G R T Z) (f : Nat) (L : ZLV) (st : List Value) (σ : ZHp) (n k w : Nat) : Z (f + 1) 10 L st σ n k w = s_aload 1 11 L st σ n k w (zk1 cut G (Z f)) G R T := zrs hZ rfl f L st σ n k w
theorem f_X10_readNumber_11 (hZ : ZRN (ztb (tb_X10_readNumber E d mc ms)) cut G R T Z) (f : Nat) (L : ZLV) (st : List Value) (σ : ZHp) (n k w : Nat) : Z (f + 1) 11 L st σ n k w = s_iload 3 12 L st σ n k w (zk1 cut G (Z f)) G R T := zrs hZ rfl f L st σ n k w
theorem f_X10_readNumber_12 (hZ : ZRN (ztb (tb_X10_readNumber E d mc ms)) cut G R T Z) (f : Nat) (L : ZLV) (st : List Value) (σ : ZHp) (n k w : Nat) : Z (f + 1) 12 L st σ n k w = s_callV E d mc ms 8 MX9_at 1 15 L st σ n k w (zk1 cut G (Z f)) G R T := zrs hZ rfl f L st σ n k w
theorem f_X10_readNumber_15 (hZ : ZRN (ztb (tb_X10_readNumber E d mc ms)) cut G R T Z) (f : Nat) (L : ZLV) (st : List Value) (σ : ZHp) (n k w : Nat) : Z (f + 1) 15 L st σ n k w = s_callS E d mc ms MX10_isDigit 1 18 L st σ n k w (zk1 cut G (Z f)) G R T := zrs hZ rfl f L st σ n k w
theorem f_X10_readNumber_18 (hZ : ZRN (ztb (tb_X10_readNumber E d mc ms)) cut G R T Z) (f : Nat) (L : ZLV) (st : List Value) (σ : ZHp) (n k w : Nat) : Z (f + 1) 18 L st σ n k w = s_if_eq 49 21 L st σ n k w (zk1 cut G (Z f)) G R T := zrs hZ rfl f L st σ n k w
theorem f_X10_readNumber_21 (hZ : ZRN (ztb (tb_X10_readNumber E d mc ms)) cut G R T Z) (f : Nat) (L : ZLV) (st : List Value) (σ : ZHp) (n k w : Nat) : Z (f + 1) 21 L st σ n k w = s_aload 0 22 L st σ n k w (zk1 cut G (Z f)) G R T := zrs hZ rfl f L st σ n k w
theorem f_X10_readNumber_22 (hZ : ZRN (ztb (tb_X10_readNumber E d mc ms)) cut G R T Z) (f : Nat) (L : ZLV) (st : List Value) (σ : ZHp) (n k w : Nat) : Z (f + 1) 22 L st σ n k w = s_aload 0 23 L st σ n k w (zk1 cut G (Z f)) G R T := zrs hZ rfl f L st σ n k w
theorem f_X10_readNumber_23 (hZ : ZRN (ztb (tb_X10_readNumber E d mc ms)) cut G R T Z) (f : Nat) (L : ZLV) (st : List Value) (σ : ZHp) (n k w : Nat) : Z (f + 1) 23 L st σ n k w = s_getf 9 5 26 L st σ n k w (zk1 cut G (Z f)) G R T := zrs hZ rfl f L st σ n k w
theorem f_X10_readNumber_26 (hZ : ZRN (ztb (tb_X10_readNumber E d mc ms)) cut G R T Z) (f : Nat) (L : ZLV) (st : List Value) (σ : ZHp) (n k w : Nat) : Z (f + 1) 26 L st σ n k w = s_const (.long (10)) 29 L st σ n k w (zk1 cut G (Z f)) G R T := zrs hZ rfl f L st σ n k w
theorem f_X10_readNumber_29 (hZ : ZRN (ztb (tb_X10_readNumber E d mc ms)) cut G R T Z) (f : Nat) (L : ZLV) (st : List Value) (σ : ZHp) (n k w : Nat) : Z (f + 1) 29 L st σ n k w = s_lmul 30 L st σ n k w (zk1 cut G (Z f)) G R T := zrs hZ rfl f L st σ n k w
theorem f_X10_readNumber_30 (hZ : ZRN (ztb (tb_X10_readNumber E d mc ms)) cut G R T Z) (f : Nat) (L : ZLV) (st : List Value) (σ : ZHp) (n k w : Nat) : Z (f + 1) 30 L st σ n k w = s_aload 1 31 L st σ n k w (zk1 cut G (Z f)) G R T := zrs hZ rfl f L st σ n k w
theorem f_X10_readNumber_31 (hZ : ZRN (ztb (tb_X10_readNumber E d mc ms)) cut G R T Z) (f : Nat) (L : ZLV) (st : List Value) (σ : ZHp) (n k w : Nat) : Z (f + 1) 31 L st σ n k w = s_iload 3 32 L st σ n k w (zk1 cut G (Z f)) G R T := zrs hZ rfl f L st σ n k w
theorem f_X10_readNumber_32 (hZ : ZRN (ztb (tb_X10_readNumber E d mc ms)) cut G R T Z) (f : Nat) (L : ZLV) (st : List Value) (σ : ZHp) (n k w : Nat) : Z (f + 1) 32 L st σ n k w = s_callV E d mc ms 8 MX9_at 1 35 L st σ n k w (zk1 cut G (Z f)) G R T := zrs hZ rfl f L st σ n k w
theorem f_X10_readNumber_35 (hZ : ZRN (ztb (tb_X10_readNumber E d mc ms)) cut G R T Z) (f : Nat) (L : ZLV) (st : List Value) (σ : ZHp) (n k w : Nat) : Z (f + 1) 35 L st σ n k w = s_const (.int (48)) 37 L st σ n k w (zk1 cut G (Z f)) G R T := zrs hZ rfl f L st σ n k w
theorem f_X10_readNumber_37 (hZ : ZRN (ztb (tb_X10_readNumber E d mc ms)) cut G R T Z) (f : Nat) (L : ZLV) (st : List Value) (σ : ZHp) (n k w : Nat) : Z (f + 1) 37 L st σ n k w = s_isub 38 L st σ n k w (zk1 cut G (Z f)) G R T := zrs hZ rfl f L st σ n k w
theorem f_X10_readNumber_38 (hZ : ZRN (ztb (tb_X10_readNumber E d mc ms)) cut G R T Z) (f : Nat) (L : ZLV) (st : List Value) (σ : ZHp) (n k w : Nat) : Z (f + 1) 38 L st σ n k w = s_i2l 39 L st σ n k w (zk1 cut G (Z f)) G R T := zrs hZ rfl f L st σ n k w
theorem f_X10_readNumber_39 (hZ : ZRN (ztb (tb_X10_readNumber E d mc ms)) cut G R T Z) (f : Nat) (L : ZLV) (st : List Value) (σ : ZHp) (n k w : Nat) : Z (f + 1) 39 L st σ n k w = s_ladd 40 L st σ n k w (zk1 cut G (Z f)) G R T := zrs hZ rfl f L st σ n k w
theorem f_X10_readNumber_40 (hZ : ZRN (ztb (tb_X10_readNumber E d mc ms)) cut G R T Z) (f : Nat) (L : ZLV) (st : List Value) (σ : ZHp) (n k w : Nat) : Z (f + 1) 40 L st σ n k w = s_putf 9 5 2 43 L st σ n k w (zk1 cut G (Z f)) G R T := zrs hZ rfl f L st σ n k w
theorem f_X10_readNumber_43 (hZ : ZRN (ztb (tb_X10_readNumber E d mc ms)) cut G R T Z) (f : Nat) (L : ZLV) (st : List Value) (σ : ZHp) (n k w : Nat) : Z (f + 1) 43 L st σ n k w = s_iinc 3 (1) 46 L st σ n k w (zk1 cut G (Z f)) G R T := zrs hZ rfl f L st σ n k w
theorem f_X10_readNumber_46 (hZ : ZRN (ztb (tb_X10_readNumber E d mc ms)) cut G R T Z) (f : Nat) (L : ZLV) (st : List Value) (σ : ZHp) (n k w : Nat) : Z (f + 1) 46 L st σ n k w = s_goto 2 L st σ n k w (zk1 cut G (Z f)) G R T := zrs hZ rfl f L st σ n k w
theorem f_X10_readNumber_49 (hZ : ZRN (ztb (tb_X10_readNumber E d mc ms)) cut G R T Z) (f : Nat) (L : ZLV) (st : List Value) (σ : ZHp) (n k w : Nat) : Z (f + 1) 49 L st σ n k w = s_aload 0 50 L st σ n k w (zk1 cut G (Z f)) G R T := zrs hZ rfl f L st σ n k w
theorem f_X10_readNumber_50 (hZ : ZRN (ztb (tb_X10_readNumber E d mc ms)) cut G R T Z) (f : Nat) (L : ZLV) (st : List Value) (σ : ZHp) (n k w : Nat) : Z (f + 1) 50 L st σ n k w = s_iload 3 51 L st σ n k w (zk1 cut G (Z f)) G R T := zrs hZ rfl f L st σ n k w
theorem f_X10_readNumber_51 (hZ : ZRN (ztb (tb_X10_readNumber E d mc ms)) cut G R T Z) (f : Nat) (L : ZLV) (st : List Value) (σ : ZHp) (n k w : Nat) : Z (f + 1) 51 L st σ n k w = s_iload 2 52 L st σ n k w (zk1 cut G (Z f)) G R T := zrs hZ rfl f L st σ n k w
theorem f_X10_readNumber_52 (hZ : ZRN (ztb (tb_X10_readNumber E d mc ms)) cut G R T Z) (f : Nat) (L : ZLV) (st : List Value) (σ : ZHp) (n k w : Nat) : Z (f + 1) 52 L st σ n k w = s_isub 53 L st σ n k w (zk1 cut G (Z f)) G R T := zrs hZ rfl f L st σ n k w
theorem f_X10_readNumber_53 (hZ : ZRN (ztb (tb_X10_readNumber E d mc ms)) cut G R T Z) (f : Nat) (L : ZLV) (st : List Value) (σ : ZHp) (n k w : Nat) : Z (f + 1) 53 L st σ n k w = s_const (.int (6)) 55 L st σ n k w (zk1 cut G (Z f)) G R T := zrs hZ rfl f L st σ n k w
theorem f_X10_readNumber_55 (hZ : ZRN (ztb (tb_X10_readNumber E d mc ms)) cut G R T Z) (f : Nat) (L : ZLV) (st : List Value) (σ : ZHp) (n k w : Nat) : Z (f + 1) 55 L st σ n k w = s_icmp_gt 64 58 L st σ n k w (zk1 cut G (Z f)) G R T := zrs hZ rfl f L st σ n k w
theorem f_X10_readNumber_58 (hZ : ZRN (ztb (tb_X10_readNumber E d mc ms)) cut G R T Z) (f : Nat) (L : ZLV) (st : List Value) (σ : ZHp) (n k w : Nat) : Z (f + 1) 58 L st σ n k w = s_const (.ref (zeK E 3)) 61 L st σ n k w (zk1 cut G (Z f)) G R T := zrs hZ rfl f L st σ n k w
theorem f_X10_readNumber_61 (hZ : ZRN (ztb (tb_X10_readNumber E d mc ms)) cut G R T Z) (f : Nat) (L : ZLV) (st : List Value) (σ : ZHp) (n k w : Nat) : Z (f + 1) 61 L st σ n k w = s_goto 67 L st σ n k w (zk1 cut G (Z f)) G R T := zrs hZ rfl f L st σ n k w
theorem f_X10_readNumber_64 (hZ : ZRN (ztb (tb_X10_readNumber E d mc ms)) cut G R T Z) (f : Nat) (L : ZLV) (st : List Value) (σ : ZHp) (n k w : Nat) : Z (f + 1) 64 L st σ n k w = s_const (.ref (zeK E 0)) 67 L st σ n k w (zk1 cut G (Z f)) G R T := zrs hZ rfl f L st σ n k w
theorem f_X10_readNumber_67 (hZ : ZRN (ztb (tb_X10_readNumber E d mc ms)) cut G R T Z) (f : Nat) (L : ZLV) (st : List Value) (σ : ZHp) (n k w : Nat) : Z (f + 1) 67 L st σ n k w = s_putf 9 4 3 70 L st σ n k w (zk1 cut G (Z f)) G R T := zrs hZ rfl f L st σ n k w
theorem f_X10_readNumber_70 (hZ : ZRN (ztb (tb_X10_readNumber E d mc ms)) cut G R T Z) (f : Nat) (L : ZLV) (st : List Value) (σ : ZHp) (n k w : Nat) : Z (f + 1) 70 L st σ n k w = s_iload 3 71 L st σ n k w (zk1 cut G (Z f)) G R T := zrs hZ rfl f L st σ n k w
theorem f_X10_readNumber_71 (hZ : ZRN (ztb (tb_X10_readNumber E d mc ms)) cut G R T Z) (f : Nat) (L : ZLV) (st : List Value) (σ : ZHp) (n k w : Nat) : Z (f + 1) 71 L st σ n k w = s_ireturn L st σ n k w (zk1 cut G (Z f)) G R T := zrs hZ rfl f L st σ n k w
theorem f_X10_readSymbol_0 (hZ : ZRN (ztb (tb_X10_readSymbol E d mc ms)) cut G R T Z) (f : Nat) (L : ZLV) (st : List Value) (σ : ZHp) (n k w : Nat) : Z (f + 1) 0 L st σ n k w = s_aload 0 1 L st σ n k w (zk1 cut G (Z f)) G R T := zrs hZ rfl f L st σ n k w
theorem f_X10_readSymbol_1 (hZ : ZRN (ztb (tb_X10_readSymbol E d mc ms)) cut G R T Z) (f : Nat) (L : ZLV) (st : List Value) (σ : ZHp) (n k w : Nat) : Z (f + 1) 1 L st σ n k w = s_aload 1 2 L st σ n k w (zk1 cut G (Z f)) G R T := zrs hZ rfl f L st σ n k w
theorem f_X10_readSymbol_2 (hZ : ZRN (ztb (tb_X10_readSymbol E d mc ms)) cut G R T Z) (f : Nat) (L : ZLV) (st : List Value) (σ : ZHp) (n k w : Nat) : Z (f + 1) 2 L st σ n k w = s_iload 2 3 L st σ n k w (zk1 cut G (Z f)) G R T := zrs hZ rfl f L st σ n k w
theorem f_X10_readSymbol_3 (hZ : ZRN (ztb (tb_X10_readSymbol E d mc ms)) cut G R T Z) (f : Nat) (L : ZLV) (st : List Value) (σ : ZHp) (n k w : Nat) : Z (f + 1) 3 L st σ n k w = s_const (.int (2)) 4 L st σ n k w (zk1 cut G (Z f)) G R T := zrs hZ rfl f L st σ n k w
theorem f_X10_readSymbol_4 (hZ : ZRN (ztb (tb_X10_readSymbol E d mc ms)) cut G R T Z) (f : Nat) (L : ZLV) (st : List Value) (σ : ZHp) (n k w : Nat) : Z (f + 1) 4 L st σ n k w = s_callS E d mc ms MX8_spelled 3 7 L st σ n k w (zk1 cut G (Z f)) G R T := zrs hZ rfl f L st σ n k w
theorem f_X10_readSymbol_7 (hZ : ZRN (ztb (tb_X10_readSymbol E d mc ms)) cut G R T Z) (f : Nat) (L : ZLV) (st : List Value) (σ : ZHp) (n k w : Nat) : Z (f + 1) 7 L st σ n k w = s_putf 9 4 3 10 L st σ n k w (zk1 cut G (Z f)) G R T := zrs hZ rfl f L st σ n k w
theorem f_X10_readSymbol_10 (hZ : ZRN (ztb (tb_X10_readSymbol E d mc ms)) cut G R T Z) (f : Nat) (L : ZLV) (st : List Value) (σ : ZHp) (n k w : Nat) : Z (f + 1) 10 L st σ n k w = s_aload 0 11 L st σ n k w (zk1 cut G (Z f)) G R T := zrs hZ rfl f L st σ n k w
theorem f_X10_readSymbol_11 (hZ : ZRN (ztb (tb_X10_readSymbol E d mc ms)) cut G R T Z) (f : Nat) (L : ZLV) (st : List Value) (σ : ZHp) (n k w : Nat) : Z (f + 1) 11 L st σ n k w = s_getf 9 4 14 L st σ n k w (zk1 cut G (Z f)) G R T := zrs hZ rfl f L st σ n k w
theorem f_X10_readSymbol_14 (hZ : ZRN (ztb (tb_X10_readSymbol E d mc ms)) cut G R T Z) (f : Nat) (L : ZLV) (st : List Value) (σ : ZHp) (n k w : Nat) : Z (f + 1) 14 L st σ n k w = s_const (.ref (zeK E 0)) 17 L st σ n k w (zk1 cut G (Z f)) G R T := zrs hZ rfl f L st σ n k w
theorem f_X10_readSymbol_17 (hZ : ZRN (ztb (tb_X10_readSymbol E d mc ms)) cut G R T Z) (f : Nat) (L : ZLV) (st : List Value) (σ : ZHp) (n k w : Nat) : Z (f + 1) 17 L st σ n k w = s_acmp_eq 24 20 L st σ n k w (zk1 cut G (Z f)) G R T := zrs hZ rfl f L st σ n k w
theorem f_X10_readSymbol_20 (hZ : ZRN (ztb (tb_X10_readSymbol E d mc ms)) cut G R T Z) (f : Nat) (L : ZLV) (st : List Value) (σ : ZHp) (n k w : Nat) : Z (f + 1) 20 L st σ n k w = s_iload 2 21 L st σ n k w (zk1 cut G (Z f)) G R T := zrs hZ rfl f L st σ n k w
theorem f_X10_readSymbol_21 (hZ : ZRN (ztb (tb_X10_readSymbol E d mc ms)) cut G R T Z) (f : Nat) (L : ZLV) (st : List Value) (σ : ZHp) (n k w : Nat) : Z (f + 1) 21 L st σ n k w = s_const (.int (2)) 22 L st σ n k w (zk1 cut G (Z f)) G R T := zrs hZ rfl f L st σ n k w
theorem f_X10_readSymbol_22 (hZ : ZRN (ztb (tb_X10_readSymbol E d mc ms)) cut G R T Z) (f : Nat) (L : ZLV) (st : List Value) (σ : ZHp) (n k w : Nat) : Z (f + 1) 22 L st σ n k w = s_iadd 23 L st σ n k w (zk1 cut G (Z f)) G R T := zrs hZ rfl f L st σ n k w
theorem f_X10_readSymbol_23 (hZ : ZRN (ztb (tb_X10_readSymbol E d mc ms)) cut G R T Z) (f : Nat) (L : ZLV) (st : List Value) (σ : ZHp) (n k w : Nat) : Z (f + 1) 23 L st σ n k w = s_ireturn L st σ n k w (zk1 cut G (Z f)) G R T := zrs hZ rfl f L st σ n k w
theorem f_X10_readSymbol_24 (hZ : ZRN (ztb (tb_X10_readSymbol E d mc ms)) cut G R T Z) (f : Nat) (L : ZLV) (st : List Value) (σ : ZHp) (n k w : Nat) : Z (f + 1) 24 L st σ n k w = s_aload 0 25 L st σ n k w (zk1 cut G (Z f)) G R T := zrs hZ rfl f L st σ n k w
theorem f_X10_readSymbol_25 (hZ : ZRN (ztb (tb_X10_readSymbol E d mc ms)) cut G R T Z) (f : Nat) (L : ZLV) (st : List Value) (σ : ZHp) (n k w : Nat) : Z (f + 1) 25 L st σ n k w = s_aload 1 26 L st σ n k w (zk1 cut G (Z f)) G R T := zrs hZ rfl f L st σ n k w
theorem f_X10_readSymbol_26 (hZ : ZRN (ztb (tb_X10_readSymbol E d mc ms)) cut G R T Z) (f : Nat) (L : ZLV) (st : List Value) (σ : ZHp) (n k w : Nat) : Z (f + 1) 26 L st σ n k w = s_iload 2 27 L st σ n k w (zk1 cut G (Z f)) G R T := zrs hZ rfl f L st σ n k w
theorem f_X10_readSymbol_27 (hZ : ZRN (ztb (tb_X10_readSymbol E d mc ms)) cut G R T Z) (f : Nat) (L : ZLV) (st : List Value) (σ : ZHp) (n k w : Nat) : Z (f + 1) 27 L st σ n k w = s_const (.int (1)) 28 L st σ n k w (zk1 cut G (Z f)) G R T := zrs hZ rfl f L st σ n k w
theorem f_X10_readSymbol_28 (hZ : ZRN (ztb (tb_X10_readSymbol E d mc ms)) cut G R T Z) (f : Nat) (L : ZLV) (st : List Value) (σ : ZHp) (n k w : Nat) : Z (f + 1) 28 L st σ n k w = s_callS E d mc ms MX8_spelled 3 31 L st σ n k w (zk1 cut G (Z f)) G R T := zrs hZ rfl f L st σ n k w
theorem f_X10_readSymbol_31 (hZ : ZRN (ztb (tb_X10_readSymbol E d mc ms)) cut G R T Z) (f : Nat) (L : ZLV) (st : List Value) (σ : ZHp) (n k w : Nat) : Z (f + 1) 31 L st σ n k w = s_putf 9 4 3 34 L st σ n k w (zk1 cut G (Z f)) G R T := zrs hZ rfl f L st σ n k w
theorem f_X10_readSymbol_34 (hZ : ZRN (ztb (tb_X10_readSymbol E d mc ms)) cut G R T Z) (f : Nat) (L : ZLV) (st : List Value) (σ : ZHp) (n k w : Nat) : Z (f + 1) 34 L st σ n k w = s_iload 2 35 L st σ n k w (zk1 cut G (Z f)) G R T := zrs hZ rfl f L st σ n k w
theorem f_X10_readSymbol_35 (hZ : ZRN (ztb (tb_X10_readSymbol E d mc ms)) cut G R T Z) (f : Nat) (L : ZLV) (st : List Value) (σ : ZHp) (n k w : Nat) : Z (f + 1) 35 L st σ n k w = s_const (.int (1)) 36 L st σ n k w (zk1 cut G (Z f)) G R T := zrs hZ rfl f L st σ n k w
theorem f_X10_readSymbol_36 (hZ : ZRN (ztb (tb_X10_readSymbol E d mc ms)) cut G R T Z) (f : Nat) (L : ZLV) (st : List Value) (σ : ZHp) (n k w : Nat) : Z (f + 1) 36 L st σ n k w = s_iadd 37 L st σ n k w (zk1 cut G (Z f)) G R T := zrs hZ rfl f L st σ n k w
theorem f_X10_readSymbol_37 (hZ : ZRN (ztb (tb_X10_readSymbol E d mc ms)) cut G R T Z) (f : Nat) (L : ZLV) (st : List Value) (σ : ZHp) (n k w : Nat) : Z (f + 1) 37 L st σ n k w = s_ireturn L st σ n k w (zk1 cut G (Z f)) G R T := zrs hZ rfl f L st σ n k w
theorem f_X10_isLetter_0 (hZ : ZRN (ztb (tb_X10_isLetter E d mc ms)) cut G R T Z) (f : Nat) (L : ZLV) (st : List Value) (σ : ZHp) (n k w : Nat) : Z (f + 1) 0 L st σ n k w = s_iload 0 1 L st σ n k w (zk1 cut G (Z f)) G R T := zrs hZ rfl f L st σ n k w
theorem f_X10_isLetter_1 (hZ : ZRN (ztb (tb_X10_isLetter E d mc ms)) cut G R T Z) (f : Nat) (L : ZLV) (st : List Value) (σ : ZHp) (n k w : Nat) : Z (f + 1) 1 L st σ n k w = s_const (.int (97)) 3 L st σ n k w (zk1 cut G (Z f)) G R T := zrs hZ rfl f L st σ n k w
theorem f_X10_isLetter_3 (hZ : ZRN (ztb (tb_X10_isLetter E d mc ms)) cut G R T Z) (f : Nat) (L : ZLV) (st : List Value) (σ : ZHp) (n k w : Nat) : Z (f + 1) 3 L st σ n k w = s_icmp_lt 16 6 L st σ n k w (zk1 cut G (Z f)) G R T := zrs hZ rfl f L st σ n k w
theorem f_X10_isLetter_6 (hZ : ZRN (ztb (tb_X10_isLetter E d mc ms)) cut G R T Z) (f : Nat) (L : ZLV) (st : List Value) (σ : ZHp) (n k w : Nat) : Z (f + 1) 6 L st σ n k w = s_iload 0 7 L st σ n k w (zk1 cut G (Z f)) G R T := zrs hZ rfl f L st σ n k w
theorem f_X10_isLetter_7 (hZ : ZRN (ztb (tb_X10_isLetter E d mc ms)) cut G R T Z) (f : Nat) (L : ZLV) (st : List Value) (σ : ZHp) (n k w : Nat) : Z (f + 1) 7 L st σ n k w = s_const (.int (122)) 9 L st σ n k w (zk1 cut G (Z f)) G R T := zrs hZ rfl f L st σ n k w
theorem f_X10_isLetter_9 (hZ : ZRN (ztb (tb_X10_isLetter E d mc ms)) cut G R T Z) (f : Nat) (L : ZLV) (st : List Value) (σ : ZHp) (n k w : Nat) : Z (f + 1) 9 L st σ n k w = s_icmp_gt 16 12 L st σ n k w (zk1 cut G (Z f)) G R T := zrs hZ rfl f L st σ n k w
theorem f_X10_isLetter_12 (hZ : ZRN (ztb (tb_X10_isLetter E d mc ms)) cut G R T Z) (f : Nat) (L : ZLV) (st : List Value) (σ : ZHp) (n k w : Nat) : Z (f + 1) 12 L st σ n k w = s_const (.int (1)) 13 L st σ n k w (zk1 cut G (Z f)) G R T := zrs hZ rfl f L st σ n k w
theorem f_X10_isLetter_13 (hZ : ZRN (ztb (tb_X10_isLetter E d mc ms)) cut G R T Z) (f : Nat) (L : ZLV) (st : List Value) (σ : ZHp) (n k w : Nat) : Z (f + 1) 13 L st σ n k w = s_goto 17 L st σ n k w (zk1 cut G (Z f)) G R T := zrs hZ rfl f L st σ n k w
theorem f_X10_isLetter_16 (hZ : ZRN (ztb (tb_X10_isLetter E d mc ms)) cut G R T Z) (f : Nat) (L : ZLV) (st : List Value) (σ : ZHp) (n k w : Nat) : Z (f + 1) 16 L st σ n k w = s_const (.int (0)) 17 L st σ n k w (zk1 cut G (Z f)) G R T := zrs hZ rfl f L st σ n k w
theorem f_X10_isLetter_17 (hZ : ZRN (ztb (tb_X10_isLetter E d mc ms)) cut G R T Z) (f : Nat) (L : ZLV) (st : List Value) (σ : ZHp) (n k w : Nat) : Z (f + 1) 17 L st σ n k w = s_zreturn L st σ n k w (zk1 cut G (Z f)) G R T := zrs hZ rfl f L st σ n k w
theorem f_X10_isDigit_0 (hZ : ZRN (ztb (tb_X10_isDigit E d mc ms)) cut G R T Z) (f : Nat) (L : ZLV) (st : List Value) (σ : ZHp) (n k w : Nat) : Z (f + 1) 0 L st σ n k w = s_iload 0 1 L st σ n k w (zk1 cut G (Z f)) G R T := zrs hZ rfl f L st σ n k w
theorem f_X10_isDigit_1 (hZ : ZRN (ztb (tb_X10_isDigit E d mc ms)) cut G R T Z) (f : Nat) (L : ZLV) (st : List Value) (σ : ZHp) (n k w : Nat) : Z (f + 1) 1 L st σ n k w = s_const (.int (48)) 3 L st σ n k w (zk1 cut G (Z f)) G R T := zrs hZ rfl f L st σ n k w
theorem f_X10_isDigit_3 (hZ : ZRN (ztb (tb_X10_isDigit E d mc ms)) cut G R T Z) (f : Nat) (L : ZLV) (st : List Value) (σ : ZHp) (n k w : Nat) : Z (f + 1) 3 L st σ n k w = s_icmp_lt 16 6 L st σ n k w (zk1 cut G (Z f)) G R T := zrs hZ rfl f L st σ n k w
theorem f_X10_isDigit_6 (hZ : ZRN (ztb (tb_X10_isDigit E d mc ms)) cut G R T Z) (f : Nat) (L : ZLV) (st : List Value) (σ : ZHp) (n k w : Nat) : Z (f + 1) 6 L st σ n k w = s_iload 0 7 L st σ n k w (zk1 cut G (Z f)) G R T := zrs hZ rfl f L st σ n k w
theorem f_X10_isDigit_7 (hZ : ZRN (ztb (tb_X10_isDigit E d mc ms)) cut G R T Z) (f : Nat) (L : ZLV) (st : List Value) (σ : ZHp) (n k w : Nat) : Z (f + 1) 7 L st σ n k w = s_const (.int (57)) 9 L st σ n k w (zk1 cut G (Z f)) G R T := zrs hZ rfl f L st σ n k w
theorem f_X10_isDigit_9 (hZ : ZRN (ztb (tb_X10_isDigit E d mc ms)) cut G R T Z) (f : Nat) (L : ZLV) (st : List Value) (σ : ZHp) (n k w : Nat) : Z (f + 1) 9 L st σ n k w = s_icmp_gt 16 12 L st σ n k w (zk1 cut G (Z f)) G R T := zrs hZ rfl f L st σ n k w
theorem f_X10_isDigit_12 (hZ : ZRN (ztb (tb_X10_isDigit E d mc ms)) cut G R T Z) (f : Nat) (L : ZLV) (st : List Value) (σ : ZHp) (n k w : Nat) : Z (f + 1) 12 L st σ n k w = s_const (.int (1)) 13 L st σ n k w (zk1 cut G (Z f)) G R T := zrs hZ rfl f L st σ n k w
theorem f_X10_isDigit_13 (hZ : ZRN (ztb (tb_X10_isDigit E d mc ms)) cut G R T Z) (f : Nat) (L : ZLV) (st : List Value) (σ : ZHp) (n k w : Nat) : Z (f + 1) 13 L st σ n k w = s_goto 17 L st σ n k w (zk1 cut G (Z f)) G R T := zrs hZ rfl f L st σ n k w
theorem f_X10_isDigit_16 (hZ : ZRN (ztb (tb_X10_isDigit E d mc ms)) cut G R T Z) (f : Nat) (L : ZLV) (st : List Value) (σ : ZHp) (n k w : Nat) : Z (f + 1) 16 L st σ n k w = s_const (.int (0)) 17 L st σ n k w (zk1 cut G (Z f)) G R T := zrs hZ rfl f L st σ n k w
theorem f_X10_isDigit_17 (hZ : ZRN (ztb (tb_X10_isDigit E d mc ms)) cut G R T Z) (f : Nat) (L : ZLV) (st : List Value) (σ : ZHp) (n k w : Nat) : Z (f + 1) 17 L st σ n k w = s_zreturn L st σ n k w (zk1 cut G (Z f)) G R T := zrs hZ rfl f L st σ n k w
end
