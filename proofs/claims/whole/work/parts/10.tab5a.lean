/-! TABLES: what each instruction does, that it does so, and each one by its place (printed by wip/whole/gen/gentab.py) -/
def tb_X15_init (E : ZEX) (d mc ms : Nat) : List (Nat × ZStep) := [(0, s_aload 0 1), (1, s_objinit d 4), (4, s_aload 0 5), (5, s_const (.int (2000)) 8), (8, s_newI E mc ms 10), (10, s_putf 14 1 3 13), (13, s_aload 0 14), (14, s_const (.int (-1)) 15), (15, s_putf 14 3 0 18), (18, s_aload 0 19), (19, s_new 12 21 fsX13 mc ms 22), (22, s_dup 23), (23, s_callI E d mc ms MX13_init 0 26), (26, s_putf 14 6 3 29), (29, s_aload 0 30), (30, s_new 13 15 fsX14 mc ms 33), (33, s_dup 34), (34, s_callI E d mc ms MX14_init 0 37), (37, s_putf 14 7 3 40), (40, s_aload 0 41), (41, s_new 13 15 fsX14 mc ms 44), (44, s_dup 45), (45, s_callI E d mc ms MX14_init 0 48), (48, s_putf 14 8 3 51), (51, s_aload 0 52), (52, s_aload 0 53), (53, s_getf 14 7 56), (56, s_putf 14 10 3 59), (59, s_aload 0 60), (60, s_const (.int (60)) 62), (62, s_newI E mc ms 64), (64, s_putf 14 12 3 67), (67, s_aload 0 68), (68, s_const (.int (10)) 70), (70, s_newI E mc ms 72), (72, s_putf 14 15 3 75), (75, s_aload 0 76), (76, s_const (.int (-1)) 77), (77, s_putf 14 22 0 80), (80, s_return)]
set_option maxRecDepth 20000 in
theorem ok_X15_init {E : ZEX} {X : ZMX} {d mc ms : Nat} {P : ZPT} {T : ZTT} (h : ZCX E X MX15_init d mc ms P T) : ∀ pc, ZRow E X MX15_init mc ms P T pc (ztb (tb_X15_init E d mc ms) pc) := ztb_ok (by
  unfold tb_X15_init
  refine zfmc (r_aload_n h (pc := 0) (kf := 0) 0 (by decide +kernel) rfl) ?_
  refine zfmc (r_objinit h (pc := 1) (ix := 1) (by decide +kernel) wk_1a38910612 wk_ee0d472f0f wk_13171937f3) ?_
  refine zfmc (r_aload_n h (pc := 4) (kf := 0) 0 (by decide +kernel) rfl) ?_
  refine zfmc (r_sipush h (pc := 5) (z := 2000) (by decide +kernel) (2000) (by decide +kernel)) ?_
  refine zfmc (r_newI h (pc := 8) (by decide +kernel) wk_bfa9f9c18d) ?_
  refine zfmc (r_putfF h (pc := 10) (ix := 9) (by decide +kernel) ckX15 1 (by decide) 3 (fty := tyX15 1) (tyX15_ok 1 (by decide)) rfl rfl rfl rfl wk_817e5a39aa) ?_
  refine zfmc (r_aload_n h (pc := 13) (kf := 0) 0 (by decide +kernel) rfl) ?_
  refine zfmc (r_iconst h (pc := 14) (z := -1) (by decide +kernel) (-1) (by decide +kernel)) ?_
  refine zfmc (r_putf h (pc := 15) (ix := 13) (by decide +kernel) ckX15 3 (by decide) 0 (fty := tyX15 3) (tyX15_ok 3 (by decide)) rfl rfl wk_09b9507526) ?_
  refine zfmc (r_aload_n h (pc := 18) (kf := 0) 0 (by decide +kernel) rfl) ?_
  refine zfmc (r_new h (pc := 19) (ix := 17) (by decide +kernel) ckX13 fsX13 tyX13 tyX13_ok fsX13_ok wk_6061322f4a wk_5fb25c30d3 wk_a696937878) ?_
  refine zfmc (r_dup h (pc := 22) (by decide +kernel)) ?_
  refine zfmc (r_callIN h (pc := 23) (ix := 19) (by decide +kernel) 0 mcX13_init wk_295099b7bd rfl rfl wk_673547e3dc) ?_
  refine zfmc (r_putf h (pc := 26) (ix := 20) (by decide +kernel) ckX15 6 (by decide) 3 (fty := tyX15 6) (tyX15_ok 6 (by decide)) rfl rfl wk_bda7210969) ?_
  refine zfmc (r_aload_n h (pc := 29) (kf := 0) 0 (by decide +kernel) rfl) ?_
  refine zfmc (r_new h (pc := 30) (ix := 24) (by decide +kernel) ckX14 fsX14 tyX14 tyX14_ok fsX14_ok wk_4c008c65c7 wk_d9308903ce wk_95aac858bd) ?_
  refine zfmc (r_dup h (pc := 33) (by decide +kernel)) ?_
  refine zfmc (r_callIN h (pc := 34) (ix := 26) (by decide +kernel) 0 mcX14_init wk_594495d5f7 rfl rfl wk_4a4c684cf1) ?_
  refine zfmc (r_putfF h (pc := 37) (ix := 27) (by decide +kernel) ckX15 7 (by decide) 3 (fty := tyX15 7) (tyX15_ok 7 (by decide)) rfl rfl rfl rfl wk_bb0990f128) ?_
  refine zfmc (r_aload_n h (pc := 40) (kf := 0) 0 (by decide +kernel) rfl) ?_
  refine zfmc (r_new h (pc := 41) (ix := 24) (by decide +kernel) ckX14 fsX14 tyX14 tyX14_ok fsX14_ok wk_4c008c65c7 wk_d9308903ce wk_95aac858bd) ?_
  refine zfmc (r_dup h (pc := 44) (by decide +kernel)) ?_
  refine zfmc (r_callIN h (pc := 45) (ix := 26) (by decide +kernel) 0 mcX14_init wk_594495d5f7 rfl rfl wk_4a4c684cf1) ?_
  refine zfmc (r_putfF h (pc := 48) (ix := 31) (by decide +kernel) ckX15 8 (by decide) 3 (fty := tyX15 8) (tyX15_ok 8 (by decide)) rfl rfl rfl rfl wk_5e658eb7a5) ?_
  refine zfmc (r_aload_n h (pc := 51) (kf := 0) 0 (by decide +kernel) rfl) ?_
  refine zfmc (r_aload_n h (pc := 52) (kf := 0) 0 (by decide +kernel) rfl) ?_
  refine zfmc (r_getf h (pc := 53) (ix := 27) (by decide +kernel) ckX15 7 (by decide) wk_bb0990f128) ?_
  refine zfmc (r_putf h (pc := 56) (ix := 34) (by decide +kernel) ckX15 10 (by decide) 3 (fty := tyX15 10) (tyX15_ok 10 (by decide)) rfl rfl wk_bb5033aff6) ?_
  refine zfmc (r_aload_n h (pc := 59) (kf := 0) 0 (by decide +kernel) rfl) ?_
  refine zfmc (r_bipush h (pc := 60) (z := 60) (by decide +kernel) (60) (by decide +kernel)) ?_
  refine zfmc (r_newI h (pc := 62) (by decide +kernel) wk_bfa9f9c18d) ?_
  refine zfmc (r_putfF h (pc := 64) (ix := 37) (by decide +kernel) ckX15 12 (by decide) 3 (fty := tyX15 12) (tyX15_ok 12 (by decide)) rfl rfl rfl rfl wk_340e4a7024) ?_
  refine zfmc (r_aload_n h (pc := 67) (kf := 0) 0 (by decide +kernel) rfl) ?_
  refine zfmc (r_bipush h (pc := 68) (z := 10) (by decide +kernel) (10) (by decide +kernel)) ?_
  refine zfmc (r_newI h (pc := 70) (by decide +kernel) wk_bfa9f9c18d) ?_
  refine zfmc (r_putfF h (pc := 72) (ix := 40) (by decide +kernel) ckX15 15 (by decide) 3 (fty := tyX15 15) (tyX15_ok 15 (by decide)) rfl rfl rfl rfl wk_12c1aebea4) ?_
  refine zfmc (r_aload_n h (pc := 75) (kf := 0) 0 (by decide +kernel) rfl) ?_
  refine zfmc (r_iconst h (pc := 76) (z := -1) (by decide +kernel) (-1) (by decide +kernel)) ?_
  refine zfmc (r_putf h (pc := 77) (ix := 43) (by decide +kernel) ckX15 22 (by decide) 0 (fty := tyX15 22) (tyX15_ok 22 (by decide)) rfl rfl wk_faf6dad86c) ?_
  refine zfmc (r_return h (pc := 80) (by decide +kernel) rfl) ?_
  exact zfm0)
def tb_X15_thrown (E : ZEX) (d mc ms : Nat) : List (Nat × ZStep) := [(0, s_aload 0 1), (1, s_getf 14 0 4), (4, s_ireturn)]
set_option maxRecDepth 20000 in
theorem ok_X15_thrown {E : ZEX} {X : ZMX} {d mc ms : Nat} {P : ZPT} {T : ZTT} (h : ZCX E X MX15_thrown d mc ms P T) : ∀ pc, ZRow E X MX15_thrown mc ms P T pc (ztb (tb_X15_thrown E d mc ms) pc) := ztb_ok (by
  unfold tb_X15_thrown
  refine zfmc (r_aload_n h (pc := 0) (kf := 0) 0 (by decide +kernel) rfl) ?_
  refine zfmc (r_getf h (pc := 1) (ix := 46) (by decide +kernel) ckX15 0 (by decide) wk_57ca463f01) ?_
  refine zfmc (r_ireturn h (pc := 4) (by decide +kernel) rfl) ?_
  exact zfm0)
def tb_X15_no (E : ZEX) (d mc ms : Nat) : List (Nat × ZStep) := [(0, s_aload 0 1), (1, s_iload 1 2), (2, s_putf 14 0 0 5), (5, s_const (.int (0)) 6), (6, s_ireturn)]
set_option maxRecDepth 20000 in
theorem ok_X15_no {E : ZEX} {X : ZMX} {d mc ms : Nat} {P : ZPT} {T : ZTT} (h : ZCX E X MX15_no d mc ms P T) : ∀ pc, ZRow E X MX15_no mc ms P T pc (ztb (tb_X15_no E d mc ms) pc) := ztb_ok (by
  unfold tb_X15_no
  refine zfmc (r_aload_n h (pc := 0) (kf := 0) 0 (by decide +kernel) rfl) ?_
  refine zfmc (r_iload_n h (pc := 1) (kf := 1) 1 (by decide +kernel) rfl) ?_
  refine zfmc (r_putf h (pc := 2) (ix := 46) (by decide +kernel) ckX15 0 (by decide) 0 (fty := tyX15 0) (tyX15_ok 0 (by decide)) rfl rfl wk_57ca463f01) ?_
  refine zfmc (r_iconst h (pc := 5) (z := 0) (by decide +kernel) (0) (by decide +kernel)) ?_
  refine zfmc (r_ireturn h (pc := 6) (by decide +kernel) rfl) ?_
  exact zfm0)
def tb_X15_isIn (E : ZEX) (d mc ms : Nat) : List (Nat × ZStep) := [(0, s_iload 0 1), (1, s_iload 1 2), (2, s_icmp_lt 14 5), (5, s_iload 0 6), (6, s_iload 2 7), (7, s_icmp_gt 14 10), (10, s_const (.int (1)) 11), (11, s_goto 15), (14, s_const (.int (0)) 15), (15, s_zreturn)]
set_option maxRecDepth 20000 in
theorem ok_X15_isIn {E : ZEX} {X : ZMX} {d mc ms : Nat} {P : ZPT} {T : ZTT} (h : ZCX E X MX15_isIn d mc ms P T) : ∀ pc, ZRow E X MX15_isIn mc ms P T pc (ztb (tb_X15_isIn E d mc ms) pc) := ztb_ok (by
  unfold tb_X15_isIn
  refine zfmc (r_iload_n h (pc := 0) (kf := 0) 0 (by decide +kernel) rfl) ?_
  refine zfmc (r_iload_n h (pc := 1) (kf := 1) 1 (by decide +kernel) rfl) ?_
  refine zfmc (r_icmp_lt h (pc := 2) (off := 12) (by decide +kernel) 14 (by decide +kernel)) ?_
  refine zfmc (r_iload_n h (pc := 5) (kf := 0) 0 (by decide +kernel) rfl) ?_
  refine zfmc (r_iload_n h (pc := 6) (kf := 2) 2 (by decide +kernel) rfl) ?_
  refine zfmc (r_icmp_gt h (pc := 7) (off := 7) (by decide +kernel) 14 (by decide +kernel)) ?_
  refine zfmc (r_iconst h (pc := 10) (z := 1) (by decide +kernel) (1) (by decide +kernel)) ?_
  refine zfmc (r_goto h (pc := 11) (off := 4) (by decide +kernel) 15 (by decide +kernel)) ?_
  refine zfmc (r_iconst h (pc := 14) (z := 0) (by decide +kernel) (0) (by decide +kernel)) ?_
  refine zfmc (r_zreturn h (pc := 15) (by decide +kernel) rfl) ?_
  exact zfm0)
def tb_X15_isCard (E : ZEX) (d mc ms : Nat) : List (Nat × ZStep) := [(0, s_iload 1 1), (1, s_const (.int (0)) 2), (2, s_aload 0 3), (3, s_getf 14 6 6), (6, s_getf 12 5 9), (9, s_const (.int (1)) 10), (10, s_isub 11), (11, s_callS E d mc ms MX15_isIn 3 14), (14, s_zreturn)]
set_option maxRecDepth 20000 in
theorem ok_X15_isCard {E : ZEX} {X : ZMX} {d mc ms : Nat} {P : ZPT} {T : ZTT} (h : ZCX E X MX15_isCard d mc ms P T) : ∀ pc, ZRow E X MX15_isCard mc ms P T pc (ztb (tb_X15_isCard E d mc ms) pc) := ztb_ok (by
  unfold tb_X15_isCard
  refine zfmc (r_iload_n h (pc := 0) (kf := 1) 1 (by decide +kernel) rfl) ?_
  refine zfmc (r_iconst h (pc := 1) (z := 0) (by decide +kernel) (0) (by decide +kernel)) ?_
  refine zfmc (r_aload_n h (pc := 2) (kf := 0) 0 (by decide +kernel) rfl) ?_
  refine zfmc (r_getf h (pc := 3) (ix := 20) (by decide +kernel) ckX15 6 (by decide) wk_bda7210969) ?_
  refine zfmc (r_getfN h (pc := 6) (ix := 49) (by decide +kernel) ckX13 5 (by decide) wk_e01ba970e0) ?_
  refine zfmc (r_iconst h (pc := 9) (z := 1) (by decide +kernel) (1) (by decide +kernel)) ?_
  refine zfmc (r_isub h (pc := 10) (by decide +kernel)) ?_
  refine zfmc (r_callS h (pc := 11) (ix := 52) (by decide +kernel) 3 mcX15_isIn wk_ed1f636136 wk_d0354324c1) ?_
  refine zfmc (r_zreturn h (pc := 14) (by decide +kernel) rfl) ?_
  exact zfm0)
def tb_X15_isMerchant (E : ZEX) (d mc ms : Nat) : List (Nat × ZStep) := [(0, s_iload 1 1), (1, s_const (.int (0)) 2), (2, s_aload 0 3), (3, s_getf 14 6 6), (6, s_getf 12 12 9), (9, s_const (.int (1)) 10), (10, s_isub 11), (11, s_callS E d mc ms MX15_isIn 3 14), (14, s_zreturn)]
set_option maxRecDepth 20000 in
theorem ok_X15_isMerchant {E : ZEX} {X : ZMX} {d mc ms : Nat} {P : ZPT} {T : ZTT} (h : ZCX E X MX15_isMerchant d mc ms P T) : ∀ pc, ZRow E X MX15_isMerchant mc ms P T pc (ztb (tb_X15_isMerchant E d mc ms) pc) := ztb_ok (by
  unfold tb_X15_isMerchant
  refine zfmc (r_iload_n h (pc := 0) (kf := 1) 1 (by decide +kernel) rfl) ?_
  refine zfmc (r_iconst h (pc := 1) (z := 0) (by decide +kernel) (0) (by decide +kernel)) ?_
  refine zfmc (r_aload_n h (pc := 2) (kf := 0) 0 (by decide +kernel) rfl) ?_
  refine zfmc (r_getf h (pc := 3) (ix := 20) (by decide +kernel) ckX15 6 (by decide) wk_bda7210969) ?_
  refine zfmc (r_getfN h (pc := 6) (ix := 56) (by decide +kernel) ckX13 12 (by decide) wk_e206866251) ?_
  refine zfmc (r_iconst h (pc := 9) (z := 1) (by decide +kernel) (1) (by decide +kernel)) ?_
  refine zfmc (r_isub h (pc := 10) (by decide +kernel)) ?_
  refine zfmc (r_callS h (pc := 11) (ix := 52) (by decide +kernel) 3 mcX15_isIn wk_ed1f636136 wk_d0354324c1) ?_
  refine zfmc (r_zreturn h (pc := 14) (by decide +kernel) rfl) ?_
  exact zfm0)
def tb_X15_isLetter (E : ZEX) (d mc ms : Nat) : List (Nat × ZStep) := [(0, s_iload 0 1), (1, s_const (.int (97)) 3), (3, s_icmp_lt 16 6), (6, s_iload 0 7), (7, s_const (.int (122)) 9), (9, s_icmp_gt 16 12), (12, s_const (.int (1)) 13), (13, s_goto 17), (16, s_const (.int (0)) 17), (17, s_zreturn)]
set_option maxRecDepth 20000 in
theorem ok_X15_isLetter {E : ZEX} {X : ZMX} {d mc ms : Nat} {P : ZPT} {T : ZTT} (h : ZCX E X MX15_isLetter d mc ms P T) : ∀ pc, ZRow E X MX15_isLetter mc ms P T pc (ztb (tb_X15_isLetter E d mc ms) pc) := ztb_ok (by
  unfold tb_X15_isLetter
  refine zfmc (r_iload_n h (pc := 0) (kf := 0) 0 (by decide +kernel) rfl) ?_
  refine zfmc (r_bipush h (pc := 1) (z := 97) (by decide +kernel) (97) (by decide +kernel)) ?_
  refine zfmc (r_icmp_lt h (pc := 3) (off := 13) (by decide +kernel) 16 (by decide +kernel)) ?_
  refine zfmc (r_iload_n h (pc := 6) (kf := 0) 0 (by decide +kernel) rfl) ?_
  refine zfmc (r_bipush h (pc := 7) (z := 122) (by decide +kernel) (122) (by decide +kernel)) ?_
  refine zfmc (r_icmp_gt h (pc := 9) (off := 7) (by decide +kernel) 16 (by decide +kernel)) ?_
  refine zfmc (r_iconst h (pc := 12) (z := 1) (by decide +kernel) (1) (by decide +kernel)) ?_
  refine zfmc (r_goto h (pc := 13) (off := 4) (by decide +kernel) 17 (by decide +kernel)) ?_
  refine zfmc (r_iconst h (pc := 16) (z := 0) (by decide +kernel) (0) (by decide +kernel)) ?_
  refine zfmc (r_zreturn h (pc := 17) (by decide +kernel) rfl) ?_
  exact zfm0)
def tb_X15_isDigit (E : ZEX) (d mc ms : Nat) : List (Nat × ZStep) := [(0, s_iload 0 1), (1, s_const (.int (48)) 3), (3, s_icmp_lt 16 6), (6, s_iload 0 7), (7, s_const (.int (57)) 9), (9, s_icmp_gt 16 12), (12, s_const (.int (1)) 13), (13, s_goto 17), (16, s_const (.int (0)) 17), (17, s_zreturn)]
set_option maxRecDepth 20000 in
theorem ok_X15_isDigit {E : ZEX} {X : ZMX} {d mc ms : Nat} {P : ZPT} {T : ZTT} (h : ZCX E X MX15_isDigit d mc ms P T) : ∀ pc, ZRow E X MX15_isDigit mc ms P T pc (ztb (tb_X15_isDigit E d mc ms) pc) := ztb_ok (by
  unfold tb_X15_isDigit
  refine zfmc (r_iload_n h (pc := 0) (kf := 0) 0 (by decide +kernel) rfl) ?_
  refine zfmc (r_bipush h (pc := 1) (z := 48) (by decide +kernel) (48) (by decide +kernel)) ?_
  refine zfmc (r_icmp_lt h (pc := 3) (off := 13) (by decide +kernel) 16 (by decide +kernel)) ?_
  refine zfmc (r_iload_n h (pc := 6) (kf := 0) 0 (by decide +kernel) rfl) ?_
  refine zfmc (r_bipush h (pc := 7) (z := 57) (by decide +kernel) (57) (by decide +kernel)) ?_
  refine zfmc (r_icmp_gt h (pc := 9) (off := 7) (by decide +kernel) 16 (by decide +kernel)) ?_
  refine zfmc (r_iconst h (pc := 12) (z := 1) (by decide +kernel) (1) (by decide +kernel)) ?_
  refine zfmc (r_goto h (pc := 13) (off := 4) (by decide +kernel) 17 (by decide +kernel)) ?_
  refine zfmc (r_iconst h (pc := 16) (z := 0) (by decide +kernel) (0) (by decide +kernel)) ?_
  refine zfmc (r_zreturn h (pc := 17) (by decide +kernel) rfl) ?_
  exact zfm0)
def tb_X15_byteAt (E : ZEX) (d mc ms : Nat) : List (Nat × ZStep) := [(0, s_iload 1 1), (1, s_aload 0 2), (2, s_getf 14 2 5), (5, s_icmp_ge 17 8), (8, s_aload 0 9), (9, s_getf 14 1 12), (12, s_iload 1 13), (13, s_iaload E 14), (14, s_goto 18), (17, s_const (.int (-1)) 18), (18, s_ireturn)]
set_option maxRecDepth 20000 in
theorem ok_X15_byteAt {E : ZEX} {X : ZMX} {d mc ms : Nat} {P : ZPT} {T : ZTT} (h : ZCX E X MX15_byteAt d mc ms P T) : ∀ pc, ZRow E X MX15_byteAt mc ms P T pc (ztb (tb_X15_byteAt E d mc ms) pc) := ztb_ok (by
  unfold tb_X15_byteAt
  refine zfmc (r_iload_n h (pc := 0) (kf := 1) 1 (by decide +kernel) rfl) ?_
  refine zfmc (r_aload_n h (pc := 1) (kf := 0) 0 (by decide +kernel) rfl) ?_
  refine zfmc (r_getf h (pc := 2) (ix := 59) (by decide +kernel) ckX15 2 (by decide) wk_53df394097) ?_
  refine zfmc (r_icmp_ge h (pc := 5) (off := 12) (by decide +kernel) 17 (by decide +kernel)) ?_
  refine zfmc (r_aload_n h (pc := 8) (kf := 0) 0 (by decide +kernel) rfl) ?_
  refine zfmc (r_getf h (pc := 9) (ix := 9) (by decide +kernel) ckX15 1 (by decide) wk_817e5a39aa) ?_
  refine zfmc (r_iload_n h (pc := 12) (kf := 1) 1 (by decide +kernel) rfl) ?_
  refine zfmc (r_iaload h (pc := 13) (by decide +kernel)) ?_
  refine zfmc (r_goto h (pc := 14) (off := 4) (by decide +kernel) 18 (by decide +kernel)) ?_
  refine zfmc (r_iconst h (pc := 17) (z := -1) (by decide +kernel) (-1) (by decide +kernel)) ?_
  refine zfmc (r_ireturn h (pc := 18) (by decide +kernel) rfl) ?_
  exact zfm0)
def tb_X15_lengthAt (E : ZEX) (d mc ms : Nat) : List (Nat × ZStep) := [(0, s_aload 0 1), (1, s_iload 1 2), (2, s_callV E d mc ms 14 MX15_byteAt 1 5), (5, s_istore 2 6), (6, s_iload 1 7), (7, s_const (.int (1)) 8), (8, s_iadd 9), (9, s_istore 3 10), (10, s_iload 2 11), (11, s_callS E d mc ms MX15_isLetter 1 14), (14, s_if_ne 24 17), (17, s_iload 2 18), (18, s_callS E d mc ms MX15_isDigit 1 21), (21, s_if_eq 59 24), (24, s_aload 0 25), (25, s_iload 3 26), (26, s_callV E d mc ms 14 MX15_byteAt 1 29), (29, s_callS E d mc ms MX15_isDigit 1 32), (32, s_if_ne 53 35), (35, s_iload 2 36), (36, s_callS E d mc ms MX15_isLetter 1 39), (39, s_if_eq 84 42), (42, s_aload 0 43), (43, s_iload 3 44), (44, s_callV E d mc ms 14 MX15_byteAt 1 47), (47, s_callS E d mc ms MX15_isLetter 1 50), (50, s_if_eq 84 53), (53, s_iinc 3 (1) 56), (56, s_goto 24), (59, s_iload 2 60), (60, s_const (.int (60)) 62), (62, s_icmp_eq 71 65), (65, s_iload 2 66), (66, s_const (.int (62)) 68), (68, s_icmp_ne 84 71), (71, s_aload 0 72), (72, s_iload 3 73), (73, s_callV E d mc ms 14 MX15_byteAt 1 76), (76, s_const (.int (61)) 78), (78, s_icmp_ne 84 81), (81, s_iinc 3 (1) 84), (84, s_iload 3 85), (85, s_iload 1 86), (86, s_isub 87), (87, s_ireturn)]
set_option maxRecDepth 20000 in
theorem ok_X15_lengthAt {E : ZEX} {X : ZMX} {d mc ms : Nat} {P : ZPT} {T : ZTT} (h : ZCX E X MX15_lengthAt d mc ms P T) : ∀ pc, ZRow E X MX15_lengthAt mc ms P T pc (ztb (tb_X15_lengthAt E d mc ms) pc) := ztb_ok (by
  unfold tb_X15_lengthAt
  refine zfmc (r_aload_n h (pc := 0) (kf := 0) 0 (by decide +kernel) rfl) ?_
  refine zfmc (r_iload_n h (pc := 1) (kf := 1) 1 (by decide +kernel) rfl) ?_
  refine zfmc (r_callV h (pc := 2) (ix := 62) (by decide +kernel) ckX15 1 mcX15_byteAt wk_a7d4509603 wk_f53ee386d6 wk_84d4d5e469 rfl) ?_
  refine zfmc (r_istore_n h (pc := 5) (kf := 2) 2 (by decide +kernel) rfl (by decide +kernel)) ?_
  refine zfmc (r_iload_n h (pc := 6) (kf := 1) 1 (by decide +kernel) rfl) ?_
  refine zfmc (r_iconst h (pc := 7) (z := 1) (by decide +kernel) (1) (by decide +kernel)) ?_
  refine zfmc (r_iadd h (pc := 8) (by decide +kernel)) ?_
  refine zfmc (r_istore_n h (pc := 9) (kf := 3) 3 (by decide +kernel) rfl (by decide +kernel)) ?_
  refine zfmc (r_iload_n h (pc := 10) (kf := 2) 2 (by decide +kernel) rfl) ?_
  refine zfmc (r_callS h (pc := 11) (ix := 66) (by decide +kernel) 1 mcX15_isLetter wk_d7cc035617 wk_65a9a8f96f) ?_
  refine zfmc (r_if_ne h (pc := 14) (off := 10) (by decide +kernel) 24 (by decide +kernel)) ?_
  refine zfmc (r_iload_n h (pc := 17) (kf := 2) 2 (by decide +kernel) rfl) ?_
  refine zfmc (r_callS h (pc := 18) (ix := 70) (by decide +kernel) 1 mcX15_isDigit wk_fface12e7a wk_e3cd061ea2) ?_
  refine zfmc (r_if_eq h (pc := 21) (off := 38) (by decide +kernel) 59 (by decide +kernel)) ?_
  refine zfmc (r_aload_n h (pc := 24) (kf := 0) 0 (by decide +kernel) rfl) ?_
  refine zfmc (r_iload_n h (pc := 25) (kf := 3) 3 (by decide +kernel) rfl) ?_
  refine zfmc (r_callV h (pc := 26) (ix := 62) (by decide +kernel) ckX15 1 mcX15_byteAt wk_a7d4509603 wk_f53ee386d6 wk_84d4d5e469 rfl) ?_
  refine zfmc (r_callS h (pc := 29) (ix := 70) (by decide +kernel) 1 mcX15_isDigit wk_fface12e7a wk_e3cd061ea2) ?_
  refine zfmc (r_if_ne h (pc := 32) (off := 21) (by decide +kernel) 53 (by decide +kernel)) ?_
  refine zfmc (r_iload_n h (pc := 35) (kf := 2) 2 (by decide +kernel) rfl) ?_
  refine zfmc (r_callS h (pc := 36) (ix := 66) (by decide +kernel) 1 mcX15_isLetter wk_d7cc035617 wk_65a9a8f96f) ?_
  refine zfmc (r_if_eq h (pc := 39) (off := 45) (by decide +kernel) 84 (by decide +kernel)) ?_
  refine zfmc (r_aload_n h (pc := 42) (kf := 0) 0 (by decide +kernel) rfl) ?_
  refine zfmc (r_iload_n h (pc := 43) (kf := 3) 3 (by decide +kernel) rfl) ?_
  refine zfmc (r_callV h (pc := 44) (ix := 62) (by decide +kernel) ckX15 1 mcX15_byteAt wk_a7d4509603 wk_f53ee386d6 wk_84d4d5e469 rfl) ?_
  refine zfmc (r_callS h (pc := 47) (ix := 66) (by decide +kernel) 1 mcX15_isLetter wk_d7cc035617 wk_65a9a8f96f) ?_
  refine zfmc (r_if_eq h (pc := 50) (off := 34) (by decide +kernel) 84 (by decide +kernel)) ?_
  refine zfmc (r_iinc h (pc := 53) 3 (z := 1) (by decide +kernel) (1) (by decide +kernel) (by decide +kernel)) ?_
  refine zfmc (r_goto h (pc := 56) (off := -32) (by decide +kernel) 24 (by decide +kernel)) ?_
  refine zfmc (r_iload_n h (pc := 59) (kf := 2) 2 (by decide +kernel) rfl) ?_
  refine zfmc (r_bipush h (pc := 60) (z := 60) (by decide +kernel) (60) (by decide +kernel)) ?_
  refine zfmc (r_icmp_eq h (pc := 62) (off := 9) (by decide +kernel) 71 (by decide +kernel)) ?_
  refine zfmc (r_iload_n h (pc := 65) (kf := 2) 2 (by decide +kernel) rfl) ?_
  refine zfmc (r_bipush h (pc := 66) (z := 62) (by decide +kernel) (62) (by decide +kernel)) ?_
  refine zfmc (r_icmp_ne h (pc := 68) (off := 16) (by decide +kernel) 84 (by decide +kernel)) ?_
  refine zfmc (r_aload_n h (pc := 71) (kf := 0) 0 (by decide +kernel) rfl) ?_
  refine zfmc (r_iload_n h (pc := 72) (kf := 3) 3 (by decide +kernel) rfl) ?_
  refine zfmc (r_callV h (pc := 73) (ix := 62) (by decide +kernel) ckX15 1 mcX15_byteAt wk_a7d4509603 wk_f53ee386d6 wk_84d4d5e469 rfl) ?_
  refine zfmc (r_bipush h (pc := 76) (z := 61) (by decide +kernel) (61) (by decide +kernel)) ?_
  refine zfmc (r_icmp_ne h (pc := 78) (off := 6) (by decide +kernel) 84 (by decide +kernel)) ?_
  refine zfmc (r_iinc h (pc := 81) 3 (z := 1) (by decide +kernel) (1) (by decide +kernel) (by decide +kernel)) ?_
  refine zfmc (r_iload_n h (pc := 84) (kf := 3) 3 (by decide +kernel) rfl) ?_
  refine zfmc (r_iload_n h (pc := 85) (kf := 1) 1 (by decide +kernel) rfl) ?_
  refine zfmc (r_isub h (pc := 86) (by decide +kernel)) ?_
  refine zfmc (r_ireturn h (pc := 87) (by decide +kernel) rfl) ?_
  exact zfm0)
def tb_X15_kindAt (E : ZEX) (d mc ms : Nat) : List (Nat × ZStep) := [(0, s_aload 0 1), (1, s_iload 1 2), (2, s_callV E d mc ms 14 MX15_byteAt 1 5), (5, s_istore 3 6), (6, s_iload 3 7), (7, s_const (.int (-1)) 8), (8, s_icmp_ne 14 11), (11, s_const (.int (70)) 13), (13, s_ireturn), (14, s_iload 3 15), (15, s_callS E d mc ms MX15_isDigit 1 18), (18, s_if_eq 35 21), (21, s_iload 2 22), (22, s_const (.int (6)) 24), (24, s_icmp_le 32 27), (27, s_const (.int (71)) 29), (29, s_goto 34), (32, s_const (.int (31)) 34), (34, s_ireturn), (35, s_iload 3 36), (36, s_callS E d mc ms MX15_isLetter 1 39), (39, s_if_eq 60 42), (42, s_iload 2 43), (43, s_const (.int (10)) 45), (45, s_icmp_le 53 48), (48, s_const (.int (71)) 50), (50, s_goto 59), (53, s_aload 0 54), (54, s_iload 1 55), (55, s_iload 2 56), (56, s_callV E d mc ms 14 MX15_wordAt 2 59), (59, s_ireturn), (60, s_iload 2 61), (61, s_const (.int (2)) 62), (62, s_icmp_ne 79 65), (65, s_iload 3 66), (66, s_const (.int (60)) 68), (68, s_icmp_ne 76 71), (71, s_const (.int (53)) 73), (73, s_goto 78), (76, s_const (.int (54)) 78), (78, s_ireturn), (79, s_const (.ref (zeK E 122)) 81), (81, s_iload 3 82), (82, s_callK E d mc ms 50 123 MJ0_indexOf_0f7a4 1 85), (85, s_istore 4 87), (87, s_iload 4 89), (89, s_if_ge 97 92), (92, s_const (.int (71)) 94), (94, s_goto 102), (97, s_const (.int (40)) 99), (99, s_iload 4 101), (101, s_iadd 102), (102, s_ireturn)]
set_option maxRecDepth 20000 in
theorem ok_X15_kindAt {E : ZEX} {X : ZMX} {d mc ms : Nat} {P : ZPT} {T : ZTT} (h : ZCX E X MX15_kindAt d mc ms P T) : ∀ pc, ZRow E X MX15_kindAt mc ms P T pc (ztb (tb_X15_kindAt E d mc ms) pc) := ztb_ok (by
  unfold tb_X15_kindAt
  refine zfmc (r_aload_n h (pc := 0) (kf := 0) 0 (by decide +kernel) rfl) ?_
  refine zfmc (r_iload_n h (pc := 1) (kf := 1) 1 (by decide +kernel) rfl) ?_
  refine zfmc (r_callV h (pc := 2) (ix := 62) (by decide +kernel) ckX15 1 mcX15_byteAt wk_a7d4509603 wk_f53ee386d6 wk_84d4d5e469 rfl) ?_
  refine zfmc (r_istore_n h (pc := 5) (kf := 3) 3 (by decide +kernel) rfl (by decide +kernel)) ?_
  refine zfmc (r_iload_n h (pc := 6) (kf := 3) 3 (by decide +kernel) rfl) ?_
  refine zfmc (r_iconst h (pc := 7) (z := -1) (by decide +kernel) (-1) (by decide +kernel)) ?_
  refine zfmc (r_icmp_ne h (pc := 8) (off := 6) (by decide +kernel) 14 (by decide +kernel)) ?_
  refine zfmc (r_bipush h (pc := 11) (z := 70) (by decide +kernel) (70) (by decide +kernel)) ?_
  refine zfmc (r_ireturn h (pc := 13) (by decide +kernel) rfl) ?_
  refine zfmc (r_iload_n h (pc := 14) (kf := 3) 3 (by decide +kernel) rfl) ?_
  refine zfmc (r_callS h (pc := 15) (ix := 70) (by decide +kernel) 1 mcX15_isDigit wk_fface12e7a wk_e3cd061ea2) ?_
  refine zfmc (r_if_eq h (pc := 18) (off := 17) (by decide +kernel) 35 (by decide +kernel)) ?_
  refine zfmc (r_iload_n h (pc := 21) (kf := 2) 2 (by decide +kernel) rfl) ?_
  refine zfmc (r_bipush h (pc := 22) (z := 6) (by decide +kernel) (6) (by decide +kernel)) ?_
  refine zfmc (r_icmp_le h (pc := 24) (off := 8) (by decide +kernel) 32 (by decide +kernel)) ?_
  refine zfmc (r_bipush h (pc := 27) (z := 71) (by decide +kernel) (71) (by decide +kernel)) ?_
  refine zfmc (r_goto h (pc := 29) (off := 5) (by decide +kernel) 34 (by decide +kernel)) ?_
  refine zfmc (r_bipush h (pc := 32) (z := 31) (by decide +kernel) (31) (by decide +kernel)) ?_
  refine zfmc (r_ireturn h (pc := 34) (by decide +kernel) rfl) ?_
  refine zfmc (r_iload_n h (pc := 35) (kf := 3) 3 (by decide +kernel) rfl) ?_
  refine zfmc (r_callS h (pc := 36) (ix := 66) (by decide +kernel) 1 mcX15_isLetter wk_d7cc035617 wk_65a9a8f96f) ?_
  refine zfmc (r_if_eq h (pc := 39) (off := 21) (by decide +kernel) 60 (by decide +kernel)) ?_
  refine zfmc (r_iload_n h (pc := 42) (kf := 2) 2 (by decide +kernel) rfl) ?_
  refine zfmc (r_bipush h (pc := 43) (z := 10) (by decide +kernel) (10) (by decide +kernel)) ?_
  refine zfmc (r_icmp_le h (pc := 45) (off := 8) (by decide +kernel) 53 (by decide +kernel)) ?_
  refine zfmc (r_bipush h (pc := 48) (z := 71) (by decide +kernel) (71) (by decide +kernel)) ?_
  refine zfmc (r_goto h (pc := 50) (off := 9) (by decide +kernel) 59 (by decide +kernel)) ?_
  refine zfmc (r_aload_n h (pc := 53) (kf := 0) 0 (by decide +kernel) rfl) ?_
  refine zfmc (r_iload_n h (pc := 54) (kf := 1) 1 (by decide +kernel) rfl) ?_
  refine zfmc (r_iload_n h (pc := 55) (kf := 2) 2 (by decide +kernel) rfl) ?_
  refine zfmc (r_callV h (pc := 56) (ix := 73) (by decide +kernel) ckX15 2 mcX15_wordAt wk_620c559109 wk_224f32afb8 wk_75ca689af2 rfl) ?_
  refine zfmc (r_ireturn h (pc := 59) (by decide +kernel) rfl) ?_
  refine zfmc (r_iload_n h (pc := 60) (kf := 2) 2 (by decide +kernel) rfl) ?_
  refine zfmc (r_iconst h (pc := 61) (z := 2) (by decide +kernel) (2) (by decide +kernel)) ?_
  refine zfmc (r_icmp_ne h (pc := 62) (off := 17) (by decide +kernel) 79 (by decide +kernel)) ?_
  refine zfmc (r_iload_n h (pc := 65) (kf := 3) 3 (by decide +kernel) rfl) ?_
  refine zfmc (r_bipush h (pc := 66) (z := 60) (by decide +kernel) (60) (by decide +kernel)) ?_
  refine zfmc (r_icmp_ne h (pc := 68) (off := 8) (by decide +kernel) 76 (by decide +kernel)) ?_
  refine zfmc (r_bipush h (pc := 71) (z := 53) (by decide +kernel) (53) (by decide +kernel)) ?_
  refine zfmc (r_goto h (pc := 73) (off := 5) (by decide +kernel) 78 (by decide +kernel)) ?_
  refine zfmc (r_bipush h (pc := 76) (z := 54) (by decide +kernel) (54) (by decide +kernel)) ?_
  refine zfmc (r_ireturn h (pc := 78) (by decide +kernel) rfl) ?_
  refine zfmc (r_ldcS h (pc := 79) (ix := 77) (by decide +kernel) (zeK E 122) (zx_sgs h.ok)) ?_
  refine zfmc (r_iload_n h (pc := 81) (kf := 3) 3 (by decide +kernel) rfl) ?_
  refine zfmc (r_callK h (pc := 82) (ix := 79) (by decide +kernel) (zx_strO h.ok) 1 mcJ0_indexOf_0f7a4 wk_0b481267ef wk_ada55d7ef0 wk_aedca2eb4d rfl) ?_
  refine zfmc (r_istore h (pc := 85) 4 (by decide +kernel) (by decide +kernel)) ?_
  refine zfmc (r_iload h (pc := 87) 4 (by decide +kernel)) ?_
  refine zfmc (r_if_ge h (pc := 89) (off := 8) (by decide +kernel) 97 (by decide +kernel)) ?_
  refine zfmc (r_bipush h (pc := 92) (z := 71) (by decide +kernel) (71) (by decide +kernel)) ?_
  refine zfmc (r_goto h (pc := 94) (off := 8) (by decide +kernel) 102 (by decide +kernel)) ?_
  refine zfmc (r_bipush h (pc := 97) (z := 40) (by decide +kernel) (40) (by decide +kernel)) ?_
  refine zfmc (r_iload h (pc := 99) 4 (by decide +kernel)) ?_
  refine zfmc (r_iadd h (pc := 101) (by decide +kernel)) ?_
  refine zfmc (r_ireturn h (pc := 102) (by decide +kernel) rfl) ?_
  exact zfm0)
def tb_X15_wordAt (E : ZEX) (d mc ms : Nat) : List (Nat × ZStep) := [(0, s_const (.int (0)) 1), (1, s_istore 3 2), (2, s_iload 3 3), (3, s_const (.ref (zeK E 48)) 6), (6, s_alenK E 48 26 7), (7, s_icmp_ge 87 10), (10, s_const (.int (0)) 11), (11, s_istore 4 13), (13, s_iload 4 15), (15, s_iload 2 16), (16, s_icmp_ge 60 19), (19, s_iload 4 21), (21, s_const (.ref (zeK E 48)) 24), (24, s_iload 3 25), (25, s_aaldK E 48 26 (fun j => 96 + j) 26), (26, s_callK E d mc ms 50 123 MJ0_length_8abf5 0 29), (29, s_icmp_ge 60 32), (32, s_const (.ref (zeK E 48)) 35), (35, s_iload 3 36), (36, s_aaldK E 48 26 (fun j => 96 + j) 37), (37, s_iload 4 39), (39, s_callK E d mc ms 50 123 MJ0_charAt_5068e 1 42), (42, s_aload 0 43), (43, s_getf 14 1 46), (46, s_iload 1 47), (47, s_iload 4 49), (49, s_iadd 50), (50, s_iaload E 51), (51, s_icmp_ne 60 54), (54, s_iinc 4 (1) 57), (57, s_goto 13), (60, s_iload 4 62), (62, s_iload 2 63), (63, s_icmp_ne 81 66), (66, s_iload 4 68), (68, s_const (.ref (zeK E 48)) 71), (71, s_iload 3 72), (72, s_aaldK E 48 26 (fun j => 96 + j) 73), (73, s_callK E d mc ms 50 123 MJ0_length_8abf5 0 76), (76, s_icmp_ne 81 79), (79, s_iload 3 80), (80, s_ireturn), (81, s_iinc 3 (1) 84), (84, s_goto 2), (87, s_const (.int (30)) 89), (89, s_ireturn)]
set_option maxRecDepth 20000 in
theorem ok_X15_wordAt {E : ZEX} {X : ZMX} {d mc ms : Nat} {P : ZPT} {T : ZTT} (h : ZCX E X MX15_wordAt d mc ms P T) : ∀ pc, ZRow E X MX15_wordAt mc ms P T pc (ztb (tb_X15_wordAt E d mc ms) pc) := ztb_ok (by
  unfold tb_X15_wordAt
  refine zfmc (r_iconst h (pc := 0) (z := 0) (by decide +kernel) (0) (by decide +kernel)) ?_
  refine zfmc (r_istore_n h (pc := 1) (kf := 3) 3 (by decide +kernel) rfl (by decide +kernel)) ?_
  refine zfmc (r_iload_n h (pc := 2) (kf := 3) 3 (by decide +kernel) rfl) ?_
  refine zfmc (r_getstatic h (pc := 3) (ix := 84) (by decide +kernel) (.ref (zeK E 48)) (zx_words h.ok) wk_370ed40ae3) ?_
  refine zfmc (r_alenK h (pc := 6) (by decide +kernel) (zx_wordsT h.ok)) ?_
  refine zfmc (r_icmp_ge h (pc := 7) (off := 80) (by decide +kernel) 87 (by decide +kernel)) ?_
  refine zfmc (r_iconst h (pc := 10) (z := 0) (by decide +kernel) (0) (by decide +kernel)) ?_
  refine zfmc (r_istore h (pc := 11) 4 (by decide +kernel) (by decide +kernel)) ?_
  refine zfmc (r_iload h (pc := 13) 4 (by decide +kernel)) ?_
  refine zfmc (r_iload_n h (pc := 15) (kf := 2) 2 (by decide +kernel) rfl) ?_
  refine zfmc (r_icmp_ge h (pc := 16) (off := 44) (by decide +kernel) 60 (by decide +kernel)) ?_
  refine zfmc (r_iload h (pc := 19) 4 (by decide +kernel)) ?_
  refine zfmc (r_getstatic h (pc := 21) (ix := 84) (by decide +kernel) (.ref (zeK E 48)) (zx_words h.ok) wk_370ed40ae3) ?_
  refine zfmc (r_iload_n h (pc := 24) (kf := 3) 3 (by decide +kernel) rfl) ?_
  refine zfmc (r_aaldK h (pc := 25) (by decide +kernel) (zx_wordsT h.ok)) ?_
  refine zfmc (r_callK h (pc := 26) (ix := 88) (by decide +kernel) (zx_strO h.ok) 0 mcJ0_length_8abf5 wk_619519f581 wk_b29935d81a wk_0dc8280577 rfl) ?_
  refine zfmc (r_icmp_ge h (pc := 29) (off := 31) (by decide +kernel) 60 (by decide +kernel)) ?_
  refine zfmc (r_getstatic h (pc := 32) (ix := 84) (by decide +kernel) (.ref (zeK E 48)) (zx_words h.ok) wk_370ed40ae3) ?_
  refine zfmc (r_iload_n h (pc := 35) (kf := 3) 3 (by decide +kernel) rfl) ?_
  refine zfmc (r_aaldK h (pc := 36) (by decide +kernel) (zx_wordsT h.ok)) ?_
  refine zfmc (r_iload h (pc := 37) 4 (by decide +kernel)) ?_
  refine zfmc (r_callK h (pc := 39) (ix := 92) (by decide +kernel) (zx_strO h.ok) 1 mcJ0_charAt_5068e wk_2be1052724 wk_7a65d5cdb2 wk_9e44423619 rfl) ?_
  refine zfmc (r_aload_n h (pc := 42) (kf := 0) 0 (by decide +kernel) rfl) ?_
  refine zfmc (r_getf h (pc := 43) (ix := 9) (by decide +kernel) ckX15 1 (by decide) wk_817e5a39aa) ?_
  refine zfmc (r_iload_n h (pc := 46) (kf := 1) 1 (by decide +kernel) rfl) ?_
  refine zfmc (r_iload h (pc := 47) 4 (by decide +kernel)) ?_
  refine zfmc (r_iadd h (pc := 49) (by decide +kernel)) ?_
  refine zfmc (r_iaload h (pc := 50) (by decide +kernel)) ?_
  refine zfmc (r_icmp_ne h (pc := 51) (off := 9) (by decide +kernel) 60 (by decide +kernel)) ?_
  refine zfmc (r_iinc h (pc := 54) 4 (z := 1) (by decide +kernel) (1) (by decide +kernel) (by decide +kernel)) ?_
  refine zfmc (r_goto h (pc := 57) (off := -44) (by decide +kernel) 13 (by decide +kernel)) ?_
  refine zfmc (r_iload h (pc := 60) 4 (by decide +kernel)) ?_
  refine zfmc (r_iload_n h (pc := 62) (kf := 2) 2 (by decide +kernel) rfl) ?_
  refine zfmc (r_icmp_ne h (pc := 63) (off := 18) (by decide +kernel) 81 (by decide +kernel)) ?_
  refine zfmc (r_iload h (pc := 66) 4 (by decide +kernel)) ?_
  refine zfmc (r_getstatic h (pc := 68) (ix := 84) (by decide +kernel) (.ref (zeK E 48)) (zx_words h.ok) wk_370ed40ae3) ?_
  refine zfmc (r_iload_n h (pc := 71) (kf := 3) 3 (by decide +kernel) rfl) ?_
  refine zfmc (r_aaldK h (pc := 72) (by decide +kernel) (zx_wordsT h.ok)) ?_
  refine zfmc (r_callK h (pc := 73) (ix := 88) (by decide +kernel) (zx_strO h.ok) 0 mcJ0_length_8abf5 wk_619519f581 wk_b29935d81a wk_0dc8280577 rfl) ?_
  refine zfmc (r_icmp_ne h (pc := 76) (off := 5) (by decide +kernel) 81 (by decide +kernel)) ?_
  refine zfmc (r_iload_n h (pc := 79) (kf := 3) 3 (by decide +kernel) rfl) ?_
  refine zfmc (r_ireturn h (pc := 80) (by decide +kernel) rfl) ?_
  refine zfmc (r_iinc h (pc := 81) 3 (z := 1) (by decide +kernel) (1) (by decide +kernel) (by decide +kernel)) ?_
  refine zfmc (r_goto h (pc := 84) (off := -82) (by decide +kernel) 2 (by decide +kernel)) ?_
  refine zfmc (r_bipush h (pc := 87) (z := 30) (by decide +kernel) (30) (by decide +kernel)) ?_
  refine zfmc (r_ireturn h (pc := 89) (by decide +kernel) rfl) ?_
  exact zfm0)
def tb_X15_cut (E : ZEX) (d mc ms : Nat) : List (Nat × ZStep) := [(0, s_const (.int (0)) 1), (1, s_istore 2 2), (2, s_const (.int (0)) 3), (3, s_istore 3 4), (4, s_iload 3 5), (5, s_const (.int (400)) 8), (8, s_icmp_gt 125 11), (11, s_aload 0 12), (12, s_iload 2 13), (13, s_callV E d mc ms 14 MX15_byteAt 1 16), (16, s_const (.int (32)) 18), (18, s_icmp_eq 31 21), (21, s_aload 0 22), (22, s_iload 2 23), (23, s_callV E d mc ms 14 MX15_byteAt 1 26), (26, s_const (.int (10)) 28), (28, s_icmp_ne 37 31), (31, s_iinc 2 (1) 34), (34, s_goto 11), (37, s_aload 1 38), (38, s_getf 12 1 41), (41, s_iload 3 42), (42, s_iload 2 43), (43, s_iastore E 44), (44, s_aload 1 45), (45, s_getf 12 2 48), (48, s_iload 3 49), (49, s_aload 0 50), (50, s_iload 2 51), (51, s_callV E d mc ms 14 MX15_lengthAt 1 54), (54, s_iastore E 55), (55, s_aload 1 56), (56, s_getf 12 0 59), (59, s_iload 3 60), (60, s_aload 0 61), (61, s_iload 2 62), (62, s_aload 1 63), (63, s_getf 12 2 66), (66, s_iload 3 67), (67, s_iaload E 68), (68, s_callV E d mc ms 14 MX15_kindAt 2 71), (71, s_iastore E 72), (72, s_iload 3 73), (73, s_const (.int (400)) 76), (76, s_icmp_ne 98 79), (79, s_aload 1 80), (80, s_getf 12 0 83), (83, s_iload 3 84), (84, s_iaload E 85), (85, s_const (.int (70)) 87), (87, s_icmp_eq 98 90), (90, s_aload 1 91), (91, s_getf 12 0 94), (94, s_iload 3 95), (95, s_const (.int (71)) 97), (97, s_iastore E 98), (98, s_aload 1 99), (99, s_getf 12 0 102), (102, s_iload 3 103), (103, s_iaload E 104), (104, s_const (.int (70)) 106), (106, s_icmp_lt 110 109), (109, s_return), (110, s_iload 2 111), (111, s_aload 1 112), (112, s_getf 12 2 115), (115, s_iload 3 116), (116, s_iaload E 117), (117, s_iadd 118), (118, s_istore 2 119), (119, s_iinc 3 (1) 122), (122, s_goto 4), (125, s_return)]
set_option maxRecDepth 20000 in
theorem ok_X15_cut {E : ZEX} {X : ZMX} {d mc ms : Nat} {P : ZPT} {T : ZTT} (h : ZCX E X MX15_cut d mc ms P T) : ∀ pc, ZRow E X MX15_cut mc ms P T pc (ztb (tb_X15_cut E d mc ms) pc) := ztb_ok (by
  unfold tb_X15_cut
  refine zfmc (r_iconst h (pc := 0) (z := 0) (by decide +kernel) (0) (by decide +kernel)) ?_
  refine zfmc (r_istore_n h (pc := 1) (kf := 2) 2 (by decide +kernel) rfl (by decide +kernel)) ?_
  refine zfmc (r_iconst h (pc := 2) (z := 0) (by decide +kernel) (0) (by decide +kernel)) ?_
  refine zfmc (r_istore_n h (pc := 3) (kf := 3) 3 (by decide +kernel) rfl (by decide +kernel)) ?_
  refine zfmc (r_iload_n h (pc := 4) (kf := 3) 3 (by decide +kernel) rfl) ?_
  refine zfmc (r_sipush h (pc := 5) (z := 400) (by decide +kernel) (400) (by decide +kernel)) ?_
  refine zfmc (r_icmp_gt h (pc := 8) (off := 117) (by decide +kernel) 125 (by decide +kernel)) ?_
  refine zfmc (r_aload_n h (pc := 11) (kf := 0) 0 (by decide +kernel) rfl) ?_
  refine zfmc (r_iload_n h (pc := 12) (kf := 2) 2 (by decide +kernel) rfl) ?_
  refine zfmc (r_callV h (pc := 13) (ix := 62) (by decide +kernel) ckX15 1 mcX15_byteAt wk_a7d4509603 wk_f53ee386d6 wk_84d4d5e469 rfl) ?_
  refine zfmc (r_bipush h (pc := 16) (z := 32) (by decide +kernel) (32) (by decide +kernel)) ?_
  refine zfmc (r_icmp_eq h (pc := 18) (off := 13) (by decide +kernel) 31 (by decide +kernel)) ?_
  refine zfmc (r_aload_n h (pc := 21) (kf := 0) 0 (by decide +kernel) rfl) ?_
  refine zfmc (r_iload_n h (pc := 22) (kf := 2) 2 (by decide +kernel) rfl) ?_
  refine zfmc (r_callV h (pc := 23) (ix := 62) (by decide +kernel) ckX15 1 mcX15_byteAt wk_a7d4509603 wk_f53ee386d6 wk_84d4d5e469 rfl) ?_
  refine zfmc (r_bipush h (pc := 26) (z := 10) (by decide +kernel) (10) (by decide +kernel)) ?_
  refine zfmc (r_icmp_ne h (pc := 28) (off := 9) (by decide +kernel) 37 (by decide +kernel)) ?_
  refine zfmc (r_iinc h (pc := 31) 2 (z := 1) (by decide +kernel) (1) (by decide +kernel) (by decide +kernel)) ?_
  refine zfmc (r_goto h (pc := 34) (off := -23) (by decide +kernel) 11 (by decide +kernel)) ?_
  refine zfmc (r_aload_n h (pc := 37) (kf := 1) 1 (by decide +kernel) rfl) ?_
  refine zfmc (r_getfN h (pc := 38) (ix := 96) (by decide +kernel) ckX13 1 (by decide) wk_6e7ced0cb5) ?_
  refine zfmc (r_iload_n h (pc := 41) (kf := 3) 3 (by decide +kernel) rfl) ?_
  refine zfmc (r_iload_n h (pc := 42) (kf := 2) 2 (by decide +kernel) rfl) ?_
  refine zfmc (r_iastore h (pc := 43) (by decide +kernel)) ?_
  refine zfmc (r_aload_n h (pc := 44) (kf := 1) 1 (by decide +kernel) rfl) ?_
  refine zfmc (r_getfN h (pc := 45) (ix := 99) (by decide +kernel) ckX13 2 (by decide) wk_23d6f966c4) ?_
  refine zfmc (r_iload_n h (pc := 48) (kf := 3) 3 (by decide +kernel) rfl) ?_
  refine zfmc (r_aload_n h (pc := 49) (kf := 0) 0 (by decide +kernel) rfl) ?_
  refine zfmc (r_iload_n h (pc := 50) (kf := 2) 2 (by decide +kernel) rfl) ?_
  refine zfmc (r_callV h (pc := 51) (ix := 102) (by decide +kernel) ckX15 1 mcX15_lengthAt wk_e9f002a231 wk_1a55e394a1 wk_b919cd87c0 rfl) ?_
  refine zfmc (r_iastore h (pc := 54) (by decide +kernel)) ?_
  refine zfmc (r_aload_n h (pc := 55) (kf := 1) 1 (by decide +kernel) rfl) ?_
  refine zfmc (r_getfN h (pc := 56) (ix := 105) (by decide +kernel) ckX13 0 (by decide) wk_7b5b465128) ?_
  refine zfmc (r_iload_n h (pc := 59) (kf := 3) 3 (by decide +kernel) rfl) ?_
  refine zfmc (r_aload_n h (pc := 60) (kf := 0) 0 (by decide +kernel) rfl) ?_
  refine zfmc (r_iload_n h (pc := 61) (kf := 2) 2 (by decide +kernel) rfl) ?_
  refine zfmc (r_aload_n h (pc := 62) (kf := 1) 1 (by decide +kernel) rfl) ?_
  refine zfmc (r_getfN h (pc := 63) (ix := 99) (by decide +kernel) ckX13 2 (by decide) wk_23d6f966c4) ?_
  refine zfmc (r_iload_n h (pc := 66) (kf := 3) 3 (by decide +kernel) rfl) ?_
  refine zfmc (r_iaload h (pc := 67) (by decide +kernel)) ?_
  refine zfmc (r_callV h (pc := 68) (ix := 108) (by decide +kernel) ckX15 2 mcX15_kindAt wk_4453f966aa wk_aee6580044 wk_15ae913880 rfl) ?_
  refine zfmc (r_iastore h (pc := 71) (by decide +kernel)) ?_
  refine zfmc (r_iload_n h (pc := 72) (kf := 3) 3 (by decide +kernel) rfl) ?_
  refine zfmc (r_sipush h (pc := 73) (z := 400) (by decide +kernel) (400) (by decide +kernel)) ?_
  refine zfmc (r_icmp_ne h (pc := 76) (off := 22) (by decide +kernel) 98 (by decide +kernel)) ?_
  refine zfmc (r_aload_n h (pc := 79) (kf := 1) 1 (by decide +kernel) rfl) ?_
  refine zfmc (r_getfN h (pc := 80) (ix := 105) (by decide +kernel) ckX13 0 (by decide) wk_7b5b465128) ?_
  refine zfmc (r_iload_n h (pc := 83) (kf := 3) 3 (by decide +kernel) rfl) ?_
  refine zfmc (r_iaload h (pc := 84) (by decide +kernel)) ?_
  refine zfmc (r_bipush h (pc := 85) (z := 70) (by decide +kernel) (70) (by decide +kernel)) ?_
  refine zfmc (r_icmp_eq h (pc := 87) (off := 11) (by decide +kernel) 98 (by decide +kernel)) ?_
  refine zfmc (r_aload_n h (pc := 90) (kf := 1) 1 (by decide +kernel) rfl) ?_
  refine zfmc (r_getfN h (pc := 91) (ix := 105) (by decide +kernel) ckX13 0 (by decide) wk_7b5b465128) ?_
  refine zfmc (r_iload_n h (pc := 94) (kf := 3) 3 (by decide +kernel) rfl) ?_
  refine zfmc (r_bipush h (pc := 95) (z := 71) (by decide +kernel) (71) (by decide +kernel)) ?_
  refine zfmc (r_iastore h (pc := 97) (by decide +kernel)) ?_
  refine zfmc (r_aload_n h (pc := 98) (kf := 1) 1 (by decide +kernel) rfl) ?_
  refine zfmc (r_getfN h (pc := 99) (ix := 105) (by decide +kernel) ckX13 0 (by decide) wk_7b5b465128) ?_
  refine zfmc (r_iload_n h (pc := 102) (kf := 3) 3 (by decide +kernel) rfl) ?_
  refine zfmc (r_iaload h (pc := 103) (by decide +kernel)) ?_
  refine zfmc (r_bipush h (pc := 104) (z := 70) (by decide +kernel) (70) (by decide +kernel)) ?_
  refine zfmc (r_icmp_lt h (pc := 106) (off := 4) (by decide +kernel) 110 (by decide +kernel)) ?_
  refine zfmc (r_return h (pc := 109) (by decide +kernel) rfl) ?_
  refine zfmc (r_iload_n h (pc := 110) (kf := 2) 2 (by decide +kernel) rfl) ?_
  refine zfmc (r_aload_n h (pc := 111) (kf := 1) 1 (by decide +kernel) rfl) ?_
  refine zfmc (r_getfN h (pc := 112) (ix := 99) (by decide +kernel) ckX13 2 (by decide) wk_23d6f966c4) ?_
  refine zfmc (r_iload_n h (pc := 115) (kf := 3) 3 (by decide +kernel) rfl) ?_
  refine zfmc (r_iaload h (pc := 116) (by decide +kernel)) ?_
  refine zfmc (r_iadd h (pc := 117) (by decide +kernel)) ?_
  refine zfmc (r_istore_n h (pc := 118) (kf := 2) 2 (by decide +kernel) rfl (by decide +kernel)) ?_
  refine zfmc (r_iinc h (pc := 119) 3 (z := 1) (by decide +kernel) (1) (by decide +kernel) (by decide +kernel)) ?_
  refine zfmc (r_goto h (pc := 122) (off := -118) (by decide +kernel) 4 (by decide +kernel)) ?_
  refine zfmc (r_return h (pc := 125) (by decide +kernel) rfl) ?_
  exact zfm0)
def tb_X15_eat (E : ZEX) (d mc ms : Nat) : List (Nat × ZStep) := [(0, s_aload 1 1), (1, s_getf 12 0 4), (4, s_aload 0 5), (5, s_getf 14 4 8), (8, s_iaload E 9), (9, s_iload 2 10), (10, s_icmp_eq 15 13), (13, s_const (.int (0)) 14), (14, s_zreturn), (15, s_aload 0 16), (16, s_dup 17), (17, s_getf 14 4 20), (20, s_const (.int (1)) 21), (21, s_iadd 22), (22, s_putf 14 4 0 25), (25, s_const (.int (1)) 26), (26, s_zreturn)]
set_option maxRecDepth 20000 in
theorem ok_X15_eat {E : ZEX} {X : ZMX} {d mc ms : Nat} {P : ZPT} {T : ZTT} (h : ZCX E X MX15_eat d mc ms P T) : ∀ pc, ZRow E X MX15_eat mc ms P T pc (ztb (tb_X15_eat E d mc ms) pc) := ztb_ok (by
  unfold tb_X15_eat
  refine zfmc (r_aload_n h (pc := 0) (kf := 1) 1 (by decide +kernel) rfl) ?_
  refine zfmc (r_getfN h (pc := 1) (ix := 105) (by decide +kernel) ckX13 0 (by decide) wk_7b5b465128) ?_
  refine zfmc (r_aload_n h (pc := 4) (kf := 0) 0 (by decide +kernel) rfl) ?_
  refine zfmc (r_getf h (pc := 5) (ix := 111) (by decide +kernel) ckX15 4 (by decide) wk_1ffd16151b) ?_
  refine zfmc (r_iaload h (pc := 8) (by decide +kernel)) ?_
  refine zfmc (r_iload_n h (pc := 9) (kf := 2) 2 (by decide +kernel) rfl) ?_
  refine zfmc (r_icmp_eq h (pc := 10) (off := 5) (by decide +kernel) 15 (by decide +kernel)) ?_
  refine zfmc (r_iconst h (pc := 13) (z := 0) (by decide +kernel) (0) (by decide +kernel)) ?_
  refine zfmc (r_zreturn h (pc := 14) (by decide +kernel) rfl) ?_
  refine zfmc (r_aload_n h (pc := 15) (kf := 0) 0 (by decide +kernel) rfl) ?_
  refine zfmc (r_dup h (pc := 16) (by decide +kernel)) ?_
  refine zfmc (r_getf h (pc := 17) (ix := 111) (by decide +kernel) ckX15 4 (by decide) wk_1ffd16151b) ?_
  refine zfmc (r_iconst h (pc := 20) (z := 1) (by decide +kernel) (1) (by decide +kernel)) ?_
  refine zfmc (r_iadd h (pc := 21) (by decide +kernel)) ?_
  refine zfmc (r_putf h (pc := 22) (ix := 111) (by decide +kernel) ckX15 4 (by decide) 0 (fty := tyX15 4) (tyX15_ok 4 (by decide)) rfl rfl wk_1ffd16151b) ?_
  refine zfmc (r_iconst h (pc := 25) (z := 1) (by decide +kernel) (1) (by decide +kernel)) ?_
  refine zfmc (r_zreturn h (pc := 26) (by decide +kernel) rfl) ?_
  exact zfm0)
def tb_X15_eatIn (E : ZEX) (d mc ms : Nat) : List (Nat × ZStep) := [(0, s_aload 1 1), (1, s_getf 12 0 4), (4, s_aload 0 5), (5, s_getf 14 4 8), (8, s_iaload E 9), (9, s_iload 2 10), (10, s_iload 3 11), (11, s_callS E d mc ms MX15_isIn 3 14), (14, s_if_ne 19 17), (17, s_const (.int (0)) 18), (18, s_zreturn), (19, s_aload 0 20), (20, s_dup 21), (21, s_getf 14 4 24), (24, s_const (.int (1)) 25), (25, s_iadd 26), (26, s_putf 14 4 0 29), (29, s_const (.int (1)) 30), (30, s_zreturn)]
set_option maxRecDepth 20000 in
theorem ok_X15_eatIn {E : ZEX} {X : ZMX} {d mc ms : Nat} {P : ZPT} {T : ZTT} (h : ZCX E X MX15_eatIn d mc ms P T) : ∀ pc, ZRow E X MX15_eatIn mc ms P T pc (ztb (tb_X15_eatIn E d mc ms) pc) := ztb_ok (by
  unfold tb_X15_eatIn
  refine zfmc (r_aload_n h (pc := 0) (kf := 1) 1 (by decide +kernel) rfl) ?_
  refine zfmc (r_getfN h (pc := 1) (ix := 105) (by decide +kernel) ckX13 0 (by decide) wk_7b5b465128) ?_
  refine zfmc (r_aload_n h (pc := 4) (kf := 0) 0 (by decide +kernel) rfl) ?_
  refine zfmc (r_getf h (pc := 5) (ix := 111) (by decide +kernel) ckX15 4 (by decide) wk_1ffd16151b) ?_
  refine zfmc (r_iaload h (pc := 8) (by decide +kernel)) ?_
  refine zfmc (r_iload_n h (pc := 9) (kf := 2) 2 (by decide +kernel) rfl) ?_
  refine zfmc (r_iload_n h (pc := 10) (kf := 3) 3 (by decide +kernel) rfl) ?_
  refine zfmc (r_callS h (pc := 11) (ix := 52) (by decide +kernel) 3 mcX15_isIn wk_ed1f636136 wk_d0354324c1) ?_
  refine zfmc (r_if_ne h (pc := 14) (off := 5) (by decide +kernel) 19 (by decide +kernel)) ?_
  refine zfmc (r_iconst h (pc := 17) (z := 0) (by decide +kernel) (0) (by decide +kernel)) ?_
  refine zfmc (r_zreturn h (pc := 18) (by decide +kernel) rfl) ?_
  refine zfmc (r_aload_n h (pc := 19) (kf := 0) 0 (by decide +kernel) rfl) ?_
  refine zfmc (r_dup h (pc := 20) (by decide +kernel)) ?_
  refine zfmc (r_getf h (pc := 21) (ix := 111) (by decide +kernel) ckX15 4 (by decide) wk_1ffd16151b) ?_
  refine zfmc (r_iconst h (pc := 24) (z := 1) (by decide +kernel) (1) (by decide +kernel)) ?_
  refine zfmc (r_iadd h (pc := 25) (by decide +kernel)) ?_
  refine zfmc (r_putf h (pc := 26) (ix := 111) (by decide +kernel) ckX15 4 (by decide) 0 (fty := tyX15 4) (tyX15_ok 4 (by decide)) rfl rfl wk_1ffd16151b) ?_
  refine zfmc (r_iconst h (pc := 29) (z := 1) (by decide +kernel) (1) (by decide +kernel)) ?_
  refine zfmc (r_zreturn h (pc := 30) (by decide +kernel) rfl) ?_
  exact zfm0)
def tb_X15_goDown (E : ZEX) (d mc ms : Nat) : List (Nat × ZStep) := [(0, s_aload 1 1), (1, s_getf 12 0 4), (4, s_aload 0 5), (5, s_getf 14 4 8), (8, s_iaload E 9), (9, s_iload 2 10), (10, s_icmp_ne 22 13), (13, s_aload 0 14), (14, s_getf 14 5 17), (17, s_const (.int (8)) 19), (19, s_icmp_ne 24 22), (22, s_const (.int (0)) 23), (23, s_zreturn), (24, s_aload 0 25), (25, s_dup 26), (26, s_getf 14 5 29), (29, s_const (.int (1)) 30), (30, s_iadd 31), (31, s_putf 14 5 0 34), (34, s_aload 0 35), (35, s_dup 36), (36, s_getf 14 4 39), (39, s_const (.int (1)) 40), (40, s_iadd 41), (41, s_putf 14 4 0 44), (44, s_const (.int (1)) 45), (45, s_zreturn)]
set_option maxRecDepth 20000 in
theorem ok_X15_goDown {E : ZEX} {X : ZMX} {d mc ms : Nat} {P : ZPT} {T : ZTT} (h : ZCX E X MX15_goDown d mc ms P T) : ∀ pc, ZRow E X MX15_goDown mc ms P T pc (ztb (tb_X15_goDown E d mc ms) pc) := ztb_ok (by
  unfold tb_X15_goDown
  refine zfmc (r_aload_n h (pc := 0) (kf := 1) 1 (by decide +kernel) rfl) ?_
  refine zfmc (r_getfN h (pc := 1) (ix := 105) (by decide +kernel) ckX13 0 (by decide) wk_7b5b465128) ?_
  refine zfmc (r_aload_n h (pc := 4) (kf := 0) 0 (by decide +kernel) rfl) ?_
  refine zfmc (r_getf h (pc := 5) (ix := 111) (by decide +kernel) ckX15 4 (by decide) wk_1ffd16151b) ?_
  refine zfmc (r_iaload h (pc := 8) (by decide +kernel)) ?_
  refine zfmc (r_iload_n h (pc := 9) (kf := 2) 2 (by decide +kernel) rfl) ?_
  refine zfmc (r_icmp_ne h (pc := 10) (off := 12) (by decide +kernel) 22 (by decide +kernel)) ?_
  refine zfmc (r_aload_n h (pc := 13) (kf := 0) 0 (by decide +kernel) rfl) ?_
  refine zfmc (r_getf h (pc := 14) (ix := 114) (by decide +kernel) ckX15 5 (by decide) wk_af527be352) ?_
  refine zfmc (r_bipush h (pc := 17) (z := 8) (by decide +kernel) (8) (by decide +kernel)) ?_
  refine zfmc (r_icmp_ne h (pc := 19) (off := 5) (by decide +kernel) 24 (by decide +kernel)) ?_
  refine zfmc (r_iconst h (pc := 22) (z := 0) (by decide +kernel) (0) (by decide +kernel)) ?_
  refine zfmc (r_zreturn h (pc := 23) (by decide +kernel) rfl) ?_
  refine zfmc (r_aload_n h (pc := 24) (kf := 0) 0 (by decide +kernel) rfl) ?_
  refine zfmc (r_dup h (pc := 25) (by decide +kernel)) ?_
  refine zfmc (r_getf h (pc := 26) (ix := 114) (by decide +kernel) ckX15 5 (by decide) wk_af527be352) ?_
  refine zfmc (r_iconst h (pc := 29) (z := 1) (by decide +kernel) (1) (by decide +kernel)) ?_
  refine zfmc (r_iadd h (pc := 30) (by decide +kernel)) ?_
  refine zfmc (r_putf h (pc := 31) (ix := 114) (by decide +kernel) ckX15 5 (by decide) 0 (fty := tyX15 5) (tyX15_ok 5 (by decide)) rfl rfl wk_af527be352) ?_
  refine zfmc (r_aload_n h (pc := 34) (kf := 0) 0 (by decide +kernel) rfl) ?_
  refine zfmc (r_dup h (pc := 35) (by decide +kernel)) ?_
  refine zfmc (r_getf h (pc := 36) (ix := 111) (by decide +kernel) ckX15 4 (by decide) wk_1ffd16151b) ?_
  refine zfmc (r_iconst h (pc := 39) (z := 1) (by decide +kernel) (1) (by decide +kernel)) ?_
  refine zfmc (r_iadd h (pc := 40) (by decide +kernel)) ?_
  refine zfmc (r_putf h (pc := 41) (ix := 111) (by decide +kernel) ckX15 4 (by decide) 0 (fty := tyX15 4) (tyX15_ok 4 (by decide)) rfl rfl wk_1ffd16151b) ?_
  refine zfmc (r_iconst h (pc := 44) (z := 1) (by decide +kernel) (1) (by decide +kernel)) ?_
  refine zfmc (r_zreturn h (pc := 45) (by decide +kernel) rfl) ?_
  exact zfm0)
def tb_X15_isList (E : ZEX) (d mc ms : Nat) : List (Nat × ZStep) := [(0, s_aload 1 1), (1, s_getf 12 0 4), (4, s_aload 0 5), (5, s_getf 14 4 8), (8, s_iaload E 9), (9, s_const (.int (70)) 11), (11, s_icmp_eq 34 14), (14, s_aload 0 15), (15, s_aload 1 16), (16, s_callV E d mc ms 14 MX15_isLine 1 19), (19, s_if_eq 32 22), (22, s_aload 0 23), (23, s_aload 1 24), (24, s_const (.int (44)) 26), (26, s_callV E d mc ms 14 MX15_eat 2 29), (29, s_if_ne 0 32), (32, s_const (.int (0)) 33), (33, s_zreturn), (34, s_const (.int (1)) 35), (35, s_zreturn)]
set_option maxRecDepth 20000 in
theorem ok_X15_isList {E : ZEX} {X : ZMX} {d mc ms : Nat} {P : ZPT} {T : ZTT} (h : ZCX E X MX15_isList d mc ms P T) : ∀ pc, ZRow E X MX15_isList mc ms P T pc (ztb (tb_X15_isList E d mc ms) pc) := ztb_ok (by
  unfold tb_X15_isList
  refine zfmc (r_aload_n h (pc := 0) (kf := 1) 1 (by decide +kernel) rfl) ?_
  refine zfmc (r_getfN h (pc := 1) (ix := 105) (by decide +kernel) ckX13 0 (by decide) wk_7b5b465128) ?_
  refine zfmc (r_aload_n h (pc := 4) (kf := 0) 0 (by decide +kernel) rfl) ?_
  refine zfmc (r_getf h (pc := 5) (ix := 111) (by decide +kernel) ckX15 4 (by decide) wk_1ffd16151b) ?_
  refine zfmc (r_iaload h (pc := 8) (by decide +kernel)) ?_
  refine zfmc (r_bipush h (pc := 9) (z := 70) (by decide +kernel) (70) (by decide +kernel)) ?_
  refine zfmc (r_icmp_eq h (pc := 11) (off := 23) (by decide +kernel) 34 (by decide +kernel)) ?_
  refine zfmc (r_aload_n h (pc := 14) (kf := 0) 0 (by decide +kernel) rfl) ?_
  refine zfmc (r_aload_n h (pc := 15) (kf := 1) 1 (by decide +kernel) rfl) ?_
  refine zfmc (r_callV h (pc := 16) (ix := 117) (by decide +kernel) ckX15 1 mcX15_isLine wk_0e56f1d75f wk_316d0bbcb0 wk_1764b36a24 rfl) ?_
  refine zfmc (r_if_eq h (pc := 19) (off := 13) (by decide +kernel) 32 (by decide +kernel)) ?_
  refine zfmc (r_aload_n h (pc := 22) (kf := 0) 0 (by decide +kernel) rfl) ?_
  refine zfmc (r_aload_n h (pc := 23) (kf := 1) 1 (by decide +kernel) rfl) ?_
  refine zfmc (r_bipush h (pc := 24) (z := 44) (by decide +kernel) (44) (by decide +kernel)) ?_
  refine zfmc (r_callV h (pc := 26) (ix := 121) (by decide +kernel) ckX15 2 mcX15_eat wk_e0372883b3 wk_853a2f0ca3 wk_432dbcace1 rfl) ?_
  refine zfmc (r_if_ne h (pc := 29) (off := -29) (by decide +kernel) 0 (by decide +kernel)) ?_
  refine zfmc (r_iconst h (pc := 32) (z := 0) (by decide +kernel) (0) (by decide +kernel)) ?_
  refine zfmc (r_zreturn h (pc := 33) (by decide +kernel) rfl) ?_
  refine zfmc (r_iconst h (pc := 34) (z := 1) (by decide +kernel) (1) (by decide +kernel)) ?_
  refine zfmc (r_zreturn h (pc := 35) (by decide +kernel) rfl) ?_
  exact zfm0)
def tb_X15_isNumber (E : ZEX) (d mc ms : Nat) : List (Nat × ZStep) := [(0, s_aload 0 1), (1, s_aload 1 2), (2, s_iload 2 3), (3, s_callV E d mc ms 14 MX15_eat 2 6), (6, s_if_eq 23 9), (9, s_aload 0 10), (10, s_aload 1 11), (11, s_const (.int (31)) 13), (13, s_callV E d mc ms 14 MX15_eat 2 16), (16, s_if_eq 23 19), (19, s_const (.int (1)) 20), (20, s_goto 24), (23, s_const (.int (0)) 24), (24, s_zreturn)]
set_option maxRecDepth 20000 in
theorem ok_X15_isNumber {E : ZEX} {X : ZMX} {d mc ms : Nat} {P : ZPT} {T : ZTT} (h : ZCX E X MX15_isNumber d mc ms P T) : ∀ pc, ZRow E X MX15_isNumber mc ms P T pc (ztb (tb_X15_isNumber E d mc ms) pc) := ztb_ok (by
  unfold tb_X15_isNumber
  refine zfmc (r_aload_n h (pc := 0) (kf := 0) 0 (by decide +kernel) rfl) ?_
  refine zfmc (r_aload_n h (pc := 1) (kf := 1) 1 (by decide +kernel) rfl) ?_
  refine zfmc (r_iload_n h (pc := 2) (kf := 2) 2 (by decide +kernel) rfl) ?_
  refine zfmc (r_callV h (pc := 3) (ix := 121) (by decide +kernel) ckX15 2 mcX15_eat wk_e0372883b3 wk_853a2f0ca3 wk_432dbcace1 rfl) ?_
  refine zfmc (r_if_eq h (pc := 6) (off := 17) (by decide +kernel) 23 (by decide +kernel)) ?_
  refine zfmc (r_aload_n h (pc := 9) (kf := 0) 0 (by decide +kernel) rfl) ?_
  refine zfmc (r_aload_n h (pc := 10) (kf := 1) 1 (by decide +kernel) rfl) ?_
  refine zfmc (r_bipush h (pc := 11) (z := 31) (by decide +kernel) (31) (by decide +kernel)) ?_
  refine zfmc (r_callV h (pc := 13) (ix := 121) (by decide +kernel) ckX15 2 mcX15_eat wk_e0372883b3 wk_853a2f0ca3 wk_432dbcace1 rfl) ?_
  refine zfmc (r_if_eq h (pc := 16) (off := 7) (by decide +kernel) 23 (by decide +kernel)) ?_
  refine zfmc (r_iconst h (pc := 19) (z := 1) (by decide +kernel) (1) (by decide +kernel)) ?_
  refine zfmc (r_goto h (pc := 20) (off := 4) (by decide +kernel) 24 (by decide +kernel)) ?_
  refine zfmc (r_iconst h (pc := 23) (z := 0) (by decide +kernel) (0) (by decide +kernel)) ?_
  refine zfmc (r_zreturn h (pc := 24) (by decide +kernel) rfl) ?_
  exact zfm0)
def tb_X15_isName (E : ZEX) (d mc ms : Nat) : List (Nat × ZStep) := [(0, s_aload 0 1), (1, s_aload 1 2), (2, s_iload 2 3), (3, s_callV E d mc ms 14 MX15_eat 2 6), (6, s_if_eq 23 9), (9, s_aload 0 10), (10, s_aload 1 11), (11, s_const (.int (30)) 13), (13, s_callV E d mc ms 14 MX15_eat 2 16), (16, s_if_eq 23 19), (19, s_const (.int (1)) 20), (20, s_goto 24), (23, s_const (.int (0)) 24), (24, s_zreturn)]
set_option maxRecDepth 20000 in
theorem ok_X15_isName {E : ZEX} {X : ZMX} {d mc ms : Nat} {P : ZPT} {T : ZTT} (h : ZCX E X MX15_isName d mc ms P T) : ∀ pc, ZRow E X MX15_isName mc ms P T pc (ztb (tb_X15_isName E d mc ms) pc) := ztb_ok (by
  unfold tb_X15_isName
  refine zfmc (r_aload_n h (pc := 0) (kf := 0) 0 (by decide +kernel) rfl) ?_
  refine zfmc (r_aload_n h (pc := 1) (kf := 1) 1 (by decide +kernel) rfl) ?_
  refine zfmc (r_iload_n h (pc := 2) (kf := 2) 2 (by decide +kernel) rfl) ?_
  refine zfmc (r_callV h (pc := 3) (ix := 121) (by decide +kernel) ckX15 2 mcX15_eat wk_e0372883b3 wk_853a2f0ca3 wk_432dbcace1 rfl) ?_
  refine zfmc (r_if_eq h (pc := 6) (off := 17) (by decide +kernel) 23 (by decide +kernel)) ?_
  refine zfmc (r_aload_n h (pc := 9) (kf := 0) 0 (by decide +kernel) rfl) ?_
  refine zfmc (r_aload_n h (pc := 10) (kf := 1) 1 (by decide +kernel) rfl) ?_
  refine zfmc (r_bipush h (pc := 11) (z := 30) (by decide +kernel) (30) (by decide +kernel)) ?_
  refine zfmc (r_callV h (pc := 13) (ix := 121) (by decide +kernel) ckX15 2 mcX15_eat wk_e0372883b3 wk_853a2f0ca3 wk_432dbcace1 rfl) ?_
  refine zfmc (r_if_eq h (pc := 16) (off := 7) (by decide +kernel) 23 (by decide +kernel)) ?_
  refine zfmc (r_iconst h (pc := 19) (z := 1) (by decide +kernel) (1) (by decide +kernel)) ?_
  refine zfmc (r_goto h (pc := 20) (off := 4) (by decide +kernel) 24 (by decide +kernel)) ?_
  refine zfmc (r_iconst h (pc := 23) (z := 0) (by decide +kernel) (0) (by decide +kernel)) ?_
  refine zfmc (r_zreturn h (pc := 24) (by decide +kernel) rfl) ?_
  exact zfm0)
def tb_X15_isLine (E : ZEX) (d mc ms : Nat) : List (Nat × ZStep) := [(0, s_aload 1 1), (1, s_getf 12 0 4), (4, s_aload 0 5), (5, s_getf 14 4 8), (8, s_iaload E 9), (9, s_lsw [(0, 52), (8, 93), (10, 93), (11, 129)] 137), (52, s_aload 0 53), (53, s_aload 1 54), (54, s_const (.int (0)) 55), (55, s_callV E d mc ms 14 MX15_isName 2 58), (58, s_if_eq 91 61), (61, s_aload 0 62), (62, s_aload 1 63), (63, s_const (.int (1)) 64), (64, s_callV E d mc ms 14 MX15_isNumber 2 67), (67, s_if_eq 91 70), (70, s_aload 0 71), (71, s_aload 1 72), (72, s_const (.int (2)) 73), (73, s_callV E d mc ms 14 MX15_isNumber 2 76), (76, s_if_eq 91 79), (79, s_aload 0 80), (80, s_aload 1 81), (81, s_callV E d mc ms 14 MX15_areDeeds 1 84), (84, s_if_eq 91 87), (87, s_const (.int (1)) 88), (88, s_goto 92), (91, s_const (.int (0)) 92), (92, s_zreturn), (93, s_aload 0 94), (94, s_dup 95), (95, s_getf 14 4 98), (98, s_const (.int (1)) 99), (99, s_iadd 100), (100, s_putf 14 4 0 103), (103, s_aload 0 104), (104, s_aload 1 105), (105, s_const (.int (31)) 107), (107, s_callV E d mc ms 14 MX15_eat 2 110), (110, s_if_eq 127 113), (113, s_aload 0 114), (114, s_aload 1 115), (115, s_const (.int (9)) 117), (117, s_callV E d mc ms 14 MX15_isName 2 120), (120, s_if_eq 127 123), (123, s_const (.int (1)) 124), (124, s_goto 128), (127, s_const (.int (0)) 128), (128, s_zreturn), (129, s_aload 0 130), (130, s_aload 1 131), (131, s_const (.int (11)) 133), (133, s_callV E d mc ms 14 MX15_isName 2 136), (136, s_zreturn), (137, s_aload 0 138), (138, s_aload 1 139), (139, s_const (.int (12)) 141), (141, s_callV E d mc ms 14 MX15_isName 2 144), (144, s_if_eq 179 147), (147, s_aload 0 148), (148, s_aload 1 149), (149, s_const (.int (13)) 151), (151, s_callV E d mc ms 14 MX15_isName 2 154), (154, s_if_eq 179 157), (157, s_aload 0 158), (158, s_aload 1 159), (159, s_const (.int (14)) 161), (161, s_callV E d mc ms 14 MX15_eat 2 164), (164, s_if_eq 175 167), (167, s_aload 0 168), (168, s_aload 1 169), (169, s_callV E d mc ms 14 MX15_isTest 1 172), (172, s_if_eq 179 175), (175, s_const (.int (1)) 176), (176, s_goto 180), (179, s_const (.int (0)) 180), (180, s_zreturn)]
set_option maxRecDepth 20000 in
theorem ok_X15_isLine {E : ZEX} {X : ZMX} {d mc ms : Nat} {P : ZPT} {T : ZTT} (h : ZCX E X MX15_isLine d mc ms P T) : ∀ pc, ZRow E X MX15_isLine mc ms P T pc (ztb (tb_X15_isLine E d mc ms) pc) := ztb_ok (by
  unfold tb_X15_isLine
  refine zfmc (r_aload_n h (pc := 0) (kf := 1) 1 (by decide +kernel) rfl) ?_
  refine zfmc (r_getfN h (pc := 1) (ix := 105) (by decide +kernel) ckX13 0 (by decide) wk_7b5b465128) ?_
  refine zfmc (r_aload_n h (pc := 4) (kf := 0) 0 (by decide +kernel) rfl) ?_
  refine zfmc (r_getf h (pc := 5) (ix := 111) (by decide +kernel) ckX15 4 (by decide) wk_1ffd16151b) ?_
  refine zfmc (r_iaload h (pc := 8) (by decide +kernel)) ?_
  refine zfmc (r_lsw h (pc := 9) (dflt := 128) (qs := #[(0, 43), (8, 84), (10, 84), (11, 120)]) (len := 43) (by decide +kernel) [(0, 52), (8, 93), (10, 93), (11, 129)] 137 (by decide +kernel) (by decide +kernel) (by decide +kernel)) ?_
  refine zfmc (r_aload_n h (pc := 52) (kf := 0) 0 (by decide +kernel) rfl) ?_
  refine zfmc (r_aload_n h (pc := 53) (kf := 1) 1 (by decide +kernel) rfl) ?_
  refine zfmc (r_iconst h (pc := 54) (z := 0) (by decide +kernel) (0) (by decide +kernel)) ?_
  refine zfmc (r_callV h (pc := 55) (ix := 125) (by decide +kernel) ckX15 2 mcX15_isName wk_f9c6412e49 wk_fa87decaca wk_e718cd4b21 rfl) ?_
  refine zfmc (r_if_eq h (pc := 58) (off := 33) (by decide +kernel) 91 (by decide +kernel)) ?_
  refine zfmc (r_aload_n h (pc := 61) (kf := 0) 0 (by decide +kernel) rfl) ?_
  refine zfmc (r_aload_n h (pc := 62) (kf := 1) 1 (by decide +kernel) rfl) ?_
  refine zfmc (r_iconst h (pc := 63) (z := 1) (by decide +kernel) (1) (by decide +kernel)) ?_
  refine zfmc (r_callV h (pc := 64) (ix := 128) (by decide +kernel) ckX15 2 mcX15_isNumber wk_ad1c411df6 wk_a3d4c18a99 wk_cb55fadefa rfl) ?_
  refine zfmc (r_if_eq h (pc := 67) (off := 24) (by decide +kernel) 91 (by decide +kernel)) ?_
  refine zfmc (r_aload_n h (pc := 70) (kf := 0) 0 (by decide +kernel) rfl) ?_
  refine zfmc (r_aload_n h (pc := 71) (kf := 1) 1 (by decide +kernel) rfl) ?_
  refine zfmc (r_iconst h (pc := 72) (z := 2) (by decide +kernel) (2) (by decide +kernel)) ?_
  refine zfmc (r_callV h (pc := 73) (ix := 128) (by decide +kernel) ckX15 2 mcX15_isNumber wk_ad1c411df6 wk_a3d4c18a99 wk_cb55fadefa rfl) ?_
  refine zfmc (r_if_eq h (pc := 76) (off := 15) (by decide +kernel) 91 (by decide +kernel)) ?_
  refine zfmc (r_aload_n h (pc := 79) (kf := 0) 0 (by decide +kernel) rfl) ?_
  refine zfmc (r_aload_n h (pc := 80) (kf := 1) 1 (by decide +kernel) rfl) ?_
  refine zfmc (r_callV h (pc := 81) (ix := 131) (by decide +kernel) ckX15 1 mcX15_areDeeds wk_4d3bb24e21 wk_4155f87eb5 wk_22a7ecbdf0 rfl) ?_
  refine zfmc (r_if_eq h (pc := 84) (off := 7) (by decide +kernel) 91 (by decide +kernel)) ?_
  refine zfmc (r_iconst h (pc := 87) (z := 1) (by decide +kernel) (1) (by decide +kernel)) ?_
  refine zfmc (r_goto h (pc := 88) (off := 4) (by decide +kernel) 92 (by decide +kernel)) ?_
  refine zfmc (r_iconst h (pc := 91) (z := 0) (by decide +kernel) (0) (by decide +kernel)) ?_
  refine zfmc (r_zreturn h (pc := 92) (by decide +kernel) rfl) ?_
  refine zfmc (r_aload_n h (pc := 93) (kf := 0) 0 (by decide +kernel) rfl) ?_
  refine zfmc (r_dup h (pc := 94) (by decide +kernel)) ?_
  refine zfmc (r_getf h (pc := 95) (ix := 111) (by decide +kernel) ckX15 4 (by decide) wk_1ffd16151b) ?_
  refine zfmc (r_iconst h (pc := 98) (z := 1) (by decide +kernel) (1) (by decide +kernel)) ?_
  refine zfmc (r_iadd h (pc := 99) (by decide +kernel)) ?_
  refine zfmc (r_putf h (pc := 100) (ix := 111) (by decide +kernel) ckX15 4 (by decide) 0 (fty := tyX15 4) (tyX15_ok 4 (by decide)) rfl rfl wk_1ffd16151b) ?_
  refine zfmc (r_aload_n h (pc := 103) (kf := 0) 0 (by decide +kernel) rfl) ?_
  refine zfmc (r_aload_n h (pc := 104) (kf := 1) 1 (by decide +kernel) rfl) ?_
  refine zfmc (r_bipush h (pc := 105) (z := 31) (by decide +kernel) (31) (by decide +kernel)) ?_
  refine zfmc (r_callV h (pc := 107) (ix := 121) (by decide +kernel) ckX15 2 mcX15_eat wk_e0372883b3 wk_853a2f0ca3 wk_432dbcace1 rfl) ?_
  refine zfmc (r_if_eq h (pc := 110) (off := 17) (by decide +kernel) 127 (by decide +kernel)) ?_
  refine zfmc (r_aload_n h (pc := 113) (kf := 0) 0 (by decide +kernel) rfl) ?_
  refine zfmc (r_aload_n h (pc := 114) (kf := 1) 1 (by decide +kernel) rfl) ?_
  refine zfmc (r_bipush h (pc := 115) (z := 9) (by decide +kernel) (9) (by decide +kernel)) ?_
  refine zfmc (r_callV h (pc := 117) (ix := 125) (by decide +kernel) ckX15 2 mcX15_isName wk_f9c6412e49 wk_fa87decaca wk_e718cd4b21 rfl) ?_
  refine zfmc (r_if_eq h (pc := 120) (off := 7) (by decide +kernel) 127 (by decide +kernel)) ?_
  refine zfmc (r_iconst h (pc := 123) (z := 1) (by decide +kernel) (1) (by decide +kernel)) ?_
  refine zfmc (r_goto h (pc := 124) (off := 4) (by decide +kernel) 128 (by decide +kernel)) ?_
  refine zfmc (r_iconst h (pc := 127) (z := 0) (by decide +kernel) (0) (by decide +kernel)) ?_
  refine zfmc (r_zreturn h (pc := 128) (by decide +kernel) rfl) ?_
  refine zfmc (r_aload_n h (pc := 129) (kf := 0) 0 (by decide +kernel) rfl) ?_
  refine zfmc (r_aload_n h (pc := 130) (kf := 1) 1 (by decide +kernel) rfl) ?_
  refine zfmc (r_bipush h (pc := 131) (z := 11) (by decide +kernel) (11) (by decide +kernel)) ?_
  refine zfmc (r_callV h (pc := 133) (ix := 125) (by decide +kernel) ckX15 2 mcX15_isName wk_f9c6412e49 wk_fa87decaca wk_e718cd4b21 rfl) ?_
  refine zfmc (r_zreturn h (pc := 136) (by decide +kernel) rfl) ?_
  refine zfmc (r_aload_n h (pc := 137) (kf := 0) 0 (by decide +kernel) rfl) ?_
  refine zfmc (r_aload_n h (pc := 138) (kf := 1) 1 (by decide +kernel) rfl) ?_
  refine zfmc (r_bipush h (pc := 139) (z := 12) (by decide +kernel) (12) (by decide +kernel)) ?_
  refine zfmc (r_callV h (pc := 141) (ix := 125) (by decide +kernel) ckX15 2 mcX15_isName wk_f9c6412e49 wk_fa87decaca wk_e718cd4b21 rfl) ?_
  refine zfmc (r_if_eq h (pc := 144) (off := 35) (by decide +kernel) 179 (by decide +kernel)) ?_
  refine zfmc (r_aload_n h (pc := 147) (kf := 0) 0 (by decide +kernel) rfl) ?_
  refine zfmc (r_aload_n h (pc := 148) (kf := 1) 1 (by decide +kernel) rfl) ?_
  refine zfmc (r_bipush h (pc := 149) (z := 13) (by decide +kernel) (13) (by decide +kernel)) ?_
  refine zfmc (r_callV h (pc := 151) (ix := 125) (by decide +kernel) ckX15 2 mcX15_isName wk_f9c6412e49 wk_fa87decaca wk_e718cd4b21 rfl) ?_
  refine zfmc (r_if_eq h (pc := 154) (off := 25) (by decide +kernel) 179 (by decide +kernel)) ?_
  refine zfmc (r_aload_n h (pc := 157) (kf := 0) 0 (by decide +kernel) rfl) ?_
  refine zfmc (r_aload_n h (pc := 158) (kf := 1) 1 (by decide +kernel) rfl) ?_
  refine zfmc (r_bipush h (pc := 159) (z := 14) (by decide +kernel) (14) (by decide +kernel)) ?_
  refine zfmc (r_callV h (pc := 161) (ix := 121) (by decide +kernel) ckX15 2 mcX15_eat wk_e0372883b3 wk_853a2f0ca3 wk_432dbcace1 rfl) ?_
  refine zfmc (r_if_eq h (pc := 164) (off := 11) (by decide +kernel) 175 (by decide +kernel)) ?_
  refine zfmc (r_aload_n h (pc := 167) (kf := 0) 0 (by decide +kernel) rfl) ?_
  refine zfmc (r_aload_n h (pc := 168) (kf := 1) 1 (by decide +kernel) rfl) ?_
  refine zfmc (r_callV h (pc := 169) (ix := 134) (by decide +kernel) ckX15 1 mcX15_isTest wk_9b535c3461 wk_929b7b87a7 wk_c419703964 rfl) ?_
  refine zfmc (r_if_eq h (pc := 172) (off := 7) (by decide +kernel) 179 (by decide +kernel)) ?_
  refine zfmc (r_iconst h (pc := 175) (z := 1) (by decide +kernel) (1) (by decide +kernel)) ?_
  refine zfmc (r_goto h (pc := 176) (off := 4) (by decide +kernel) 180 (by decide +kernel)) ?_
  refine zfmc (r_iconst h (pc := 179) (z := 0) (by decide +kernel) (0) (by decide +kernel)) ?_
  refine zfmc (r_zreturn h (pc := 180) (by decide +kernel) rfl) ?_
  exact zfm0)
def tb_X15_areDeeds (E : ZEX) (d mc ms : Nat) : List (Nat × ZStep) := [(0, s_aload 1 1), (1, s_getf 12 0 4), (4, s_aload 0 5), (5, s_getf 14 4 8), (8, s_iaload E 9), (9, s_const (.int (3)) 10), (10, s_const (.int (7)) 12), (12, s_callS E d mc ms MX15_isIn 3 15), (15, s_if_eq 83 18), (18, s_aload 1 19), (19, s_getf 12 0 22), (22, s_aload 0 23), (23, s_getf 14 4 26), (26, s_iaload E 27), (27, s_istore 2 28), (28, s_aload 1 29), (29, s_getf 12 4 32), (32, s_aload 0 33), (33, s_getf 14 4 36), (36, s_const (.int (1)) 37), (37, s_iastore E 38), (38, s_aload 0 39), (39, s_dup 40), (40, s_getf 14 4 43), (43, s_const (.int (1)) 44), (44, s_iadd 45), (45, s_putf 14 4 0 48), (48, s_iload 2 49), (49, s_const (.int (6)) 51), (51, s_icmp_lt 64 54), (54, s_aload 0 55), (55, s_aload 1 56), (56, s_const (.int (30)) 58), (58, s_callV E d mc ms 14 MX15_eat 2 61), (61, s_if_eq 78 64), (64, s_iload 2 65), (65, s_const (.int (6)) 67), (67, s_icmp_eq 80 70), (70, s_aload 0 71), (71, s_aload 1 72), (72, s_callV E d mc ms 14 MX15_isSum 1 75), (75, s_if_ne 80 78), (78, s_const (.int (0)) 79), (79, s_zreturn), (80, s_goto 0), (83, s_const (.int (1)) 84), (84, s_zreturn)]
set_option maxRecDepth 20000 in
theorem ok_X15_areDeeds {E : ZEX} {X : ZMX} {d mc ms : Nat} {P : ZPT} {T : ZTT} (h : ZCX E X MX15_areDeeds d mc ms P T) : ∀ pc, ZRow E X MX15_areDeeds mc ms P T pc (ztb (tb_X15_areDeeds E d mc ms) pc) := ztb_ok (by
  unfold tb_X15_areDeeds
  refine zfmc (r_aload_n h (pc := 0) (kf := 1) 1 (by decide +kernel) rfl) ?_
  refine zfmc (r_getfN h (pc := 1) (ix := 105) (by decide +kernel) ckX13 0 (by decide) wk_7b5b465128) ?_
  refine zfmc (r_aload_n h (pc := 4) (kf := 0) 0 (by decide +kernel) rfl) ?_
  refine zfmc (r_getf h (pc := 5) (ix := 111) (by decide +kernel) ckX15 4 (by decide) wk_1ffd16151b) ?_
  refine zfmc (r_iaload h (pc := 8) (by decide +kernel)) ?_
  refine zfmc (r_iconst h (pc := 9) (z := 3) (by decide +kernel) (3) (by decide +kernel)) ?_
  refine zfmc (r_bipush h (pc := 10) (z := 7) (by decide +kernel) (7) (by decide +kernel)) ?_
  refine zfmc (r_callS h (pc := 12) (ix := 52) (by decide +kernel) 3 mcX15_isIn wk_ed1f636136 wk_d0354324c1) ?_
  refine zfmc (r_if_eq h (pc := 15) (off := 68) (by decide +kernel) 83 (by decide +kernel)) ?_
  refine zfmc (r_aload_n h (pc := 18) (kf := 1) 1 (by decide +kernel) rfl) ?_
  refine zfmc (r_getfN h (pc := 19) (ix := 105) (by decide +kernel) ckX13 0 (by decide) wk_7b5b465128) ?_
  refine zfmc (r_aload_n h (pc := 22) (kf := 0) 0 (by decide +kernel) rfl) ?_
  refine zfmc (r_getf h (pc := 23) (ix := 111) (by decide +kernel) ckX15 4 (by decide) wk_1ffd16151b) ?_
  refine zfmc (r_iaload h (pc := 26) (by decide +kernel)) ?_
  refine zfmc (r_istore_n h (pc := 27) (kf := 2) 2 (by decide +kernel) rfl (by decide +kernel)) ?_
  refine zfmc (r_aload_n h (pc := 28) (kf := 1) 1 (by decide +kernel) rfl) ?_
  refine zfmc (r_getfN h (pc := 29) (ix := 137) (by decide +kernel) ckX13 4 (by decide) wk_b2b65bd087) ?_
  refine zfmc (r_aload_n h (pc := 32) (kf := 0) 0 (by decide +kernel) rfl) ?_
  refine zfmc (r_getf h (pc := 33) (ix := 111) (by decide +kernel) ckX15 4 (by decide) wk_1ffd16151b) ?_
  refine zfmc (r_iconst h (pc := 36) (z := 1) (by decide +kernel) (1) (by decide +kernel)) ?_
  refine zfmc (r_iastore h (pc := 37) (by decide +kernel)) ?_
  refine zfmc (r_aload_n h (pc := 38) (kf := 0) 0 (by decide +kernel) rfl) ?_
  refine zfmc (r_dup h (pc := 39) (by decide +kernel)) ?_
  refine zfmc (r_getf h (pc := 40) (ix := 111) (by decide +kernel) ckX15 4 (by decide) wk_1ffd16151b) ?_
  refine zfmc (r_iconst h (pc := 43) (z := 1) (by decide +kernel) (1) (by decide +kernel)) ?_
  refine zfmc (r_iadd h (pc := 44) (by decide +kernel)) ?_
  refine zfmc (r_putf h (pc := 45) (ix := 111) (by decide +kernel) ckX15 4 (by decide) 0 (fty := tyX15 4) (tyX15_ok 4 (by decide)) rfl rfl wk_1ffd16151b) ?_
  refine zfmc (r_iload_n h (pc := 48) (kf := 2) 2 (by decide +kernel) rfl) ?_
  refine zfmc (r_bipush h (pc := 49) (z := 6) (by decide +kernel) (6) (by decide +kernel)) ?_
  refine zfmc (r_icmp_lt h (pc := 51) (off := 13) (by decide +kernel) 64 (by decide +kernel)) ?_
  refine zfmc (r_aload_n h (pc := 54) (kf := 0) 0 (by decide +kernel) rfl) ?_
  refine zfmc (r_aload_n h (pc := 55) (kf := 1) 1 (by decide +kernel) rfl) ?_
  refine zfmc (r_bipush h (pc := 56) (z := 30) (by decide +kernel) (30) (by decide +kernel)) ?_
  refine zfmc (r_callV h (pc := 58) (ix := 121) (by decide +kernel) ckX15 2 mcX15_eat wk_e0372883b3 wk_853a2f0ca3 wk_432dbcace1 rfl) ?_
  refine zfmc (r_if_eq h (pc := 61) (off := 17) (by decide +kernel) 78 (by decide +kernel)) ?_
  refine zfmc (r_iload_n h (pc := 64) (kf := 2) 2 (by decide +kernel) rfl) ?_
  refine zfmc (r_bipush h (pc := 65) (z := 6) (by decide +kernel) (6) (by decide +kernel)) ?_
  refine zfmc (r_icmp_eq h (pc := 67) (off := 13) (by decide +kernel) 80 (by decide +kernel)) ?_
  refine zfmc (r_aload_n h (pc := 70) (kf := 0) 0 (by decide +kernel) rfl) ?_
  refine zfmc (r_aload_n h (pc := 71) (kf := 1) 1 (by decide +kernel) rfl) ?_
  refine zfmc (r_callV h (pc := 72) (ix := 140) (by decide +kernel) ckX15 1 mcX15_isSum wk_53a8d9d354 wk_73eea2d41e wk_fc48919d8d rfl) ?_
  refine zfmc (r_if_ne h (pc := 75) (off := 5) (by decide +kernel) 80 (by decide +kernel)) ?_
  refine zfmc (r_iconst h (pc := 78) (z := 0) (by decide +kernel) (0) (by decide +kernel)) ?_
  refine zfmc (r_zreturn h (pc := 79) (by decide +kernel) rfl) ?_
  refine zfmc (r_goto h (pc := 80) (off := -80) (by decide +kernel) 0 (by decide +kernel)) ?_
  refine zfmc (r_iconst h (pc := 83) (z := 1) (by decide +kernel) (1) (by decide +kernel)) ?_
  refine zfmc (r_zreturn h (pc := 84) (by decide +kernel) rfl) ?_
  exact zfm0)
def tb_X15_isTest (E : ZEX) (d mc ms : Nat) : List (Nat × ZStep) := [(0, s_aload 0 1), (1, s_aload 1 2), (2, s_callV E d mc ms 14 MX15_isBoth 1 5), (5, s_if_ne 10 8), (8, s_const (.int (0)) 9), (9, s_zreturn), (10, s_aload 0 11), (11, s_aload 1 12), (12, s_const (.int (23)) 14), (14, s_callV E d mc ms 14 MX15_eat 2 17), (17, s_if_ne 0 20), (20, s_const (.int (1)) 21), (21, s_zreturn)]
set_option maxRecDepth 20000 in
theorem ok_X15_isTest {E : ZEX} {X : ZMX} {d mc ms : Nat} {P : ZPT} {T : ZTT} (h : ZCX E X MX15_isTest d mc ms P T) : ∀ pc, ZRow E X MX15_isTest mc ms P T pc (ztb (tb_X15_isTest E d mc ms) pc) := ztb_ok (by
  unfold tb_X15_isTest
  refine zfmc (r_aload_n h (pc := 0) (kf := 0) 0 (by decide +kernel) rfl) ?_
  refine zfmc (r_aload_n h (pc := 1) (kf := 1) 1 (by decide +kernel) rfl) ?_
  refine zfmc (r_callV h (pc := 2) (ix := 143) (by decide +kernel) ckX15 1 mcX15_isBoth wk_caf156a357 wk_bffebec827 wk_5da39b3a2a rfl) ?_
  refine zfmc (r_if_ne h (pc := 5) (off := 5) (by decide +kernel) 10 (by decide +kernel)) ?_
  refine zfmc (r_iconst h (pc := 8) (z := 0) (by decide +kernel) (0) (by decide +kernel)) ?_
  refine zfmc (r_zreturn h (pc := 9) (by decide +kernel) rfl) ?_
  refine zfmc (r_aload_n h (pc := 10) (kf := 0) 0 (by decide +kernel) rfl) ?_
  refine zfmc (r_aload_n h (pc := 11) (kf := 1) 1 (by decide +kernel) rfl) ?_
  refine zfmc (r_bipush h (pc := 12) (z := 23) (by decide +kernel) (23) (by decide +kernel)) ?_
  refine zfmc (r_callV h (pc := 14) (ix := 121) (by decide +kernel) ckX15 2 mcX15_eat wk_e0372883b3 wk_853a2f0ca3 wk_432dbcace1 rfl) ?_
  refine zfmc (r_if_ne h (pc := 17) (off := -17) (by decide +kernel) 0 (by decide +kernel)) ?_
  refine zfmc (r_iconst h (pc := 20) (z := 1) (by decide +kernel) (1) (by decide +kernel)) ?_
  refine zfmc (r_zreturn h (pc := 21) (by decide +kernel) rfl) ?_
  exact zfm0)
def tb_X15_isBoth (E : ZEX) (d mc ms : Nat) : List (Nat × ZStep) := [(0, s_aload 0 1), (1, s_aload 1 2), (2, s_callV E d mc ms 14 MX15_isSingle 1 5), (5, s_if_ne 10 8), (8, s_const (.int (0)) 9), (9, s_zreturn), (10, s_aload 0 11), (11, s_aload 1 12), (12, s_const (.int (22)) 14), (14, s_callV E d mc ms 14 MX15_eat 2 17), (17, s_if_ne 0 20), (20, s_const (.int (1)) 21), (21, s_zreturn)]
set_option maxRecDepth 20000 in
theorem ok_X15_isBoth {E : ZEX} {X : ZMX} {d mc ms : Nat} {P : ZPT} {T : ZTT} (h : ZCX E X MX15_isBoth d mc ms P T) : ∀ pc, ZRow E X MX15_isBoth mc ms P T pc (ztb (tb_X15_isBoth E d mc ms) pc) := ztb_ok (by
  unfold tb_X15_isBoth
  refine zfmc (r_aload_n h (pc := 0) (kf := 0) 0 (by decide +kernel) rfl) ?_
  refine zfmc (r_aload_n h (pc := 1) (kf := 1) 1 (by decide +kernel) rfl) ?_
  refine zfmc (r_callV h (pc := 2) (ix := 146) (by decide +kernel) ckX15 1 mcX15_isSingle wk_b4a68c4fe4 wk_e384cf0dd7 wk_5cd3f967d3 rfl) ?_
  refine zfmc (r_if_ne h (pc := 5) (off := 5) (by decide +kernel) 10 (by decide +kernel)) ?_
  refine zfmc (r_iconst h (pc := 8) (z := 0) (by decide +kernel) (0) (by decide +kernel)) ?_
  refine zfmc (r_zreturn h (pc := 9) (by decide +kernel) rfl) ?_
  refine zfmc (r_aload_n h (pc := 10) (kf := 0) 0 (by decide +kernel) rfl) ?_
  refine zfmc (r_aload_n h (pc := 11) (kf := 1) 1 (by decide +kernel) rfl) ?_
  refine zfmc (r_bipush h (pc := 12) (z := 22) (by decide +kernel) (22) (by decide +kernel)) ?_
  refine zfmc (r_callV h (pc := 14) (ix := 121) (by decide +kernel) ckX15 2 mcX15_eat wk_e0372883b3 wk_853a2f0ca3 wk_432dbcace1 rfl) ?_
  refine zfmc (r_if_ne h (pc := 17) (off := -17) (by decide +kernel) 0 (by decide +kernel)) ?_
  refine zfmc (r_iconst h (pc := 20) (z := 1) (by decide +kernel) (1) (by decide +kernel)) ?_
  refine zfmc (r_zreturn h (pc := 21) (by decide +kernel) rfl) ?_
  exact zfm0)
def tb_X15_isSingle (E : ZEX) (d mc ms : Nat) : List (Nat × ZStep) := [(0, s_aload 1 1), (1, s_getf 12 0 4), (4, s_aload 0 5), (5, s_getf 14 4 8), (8, s_iaload E 9), (9, s_const (.int (21)) 11), (11, s_icmp_ne 46 14), (14, s_aload 0 15), (15, s_aload 1 16), (16, s_const (.int (21)) 18), (18, s_callV E d mc ms 14 MX15_goDown 2 21), (21, s_if_eq 32 24), (24, s_aload 0 25), (25, s_aload 1 26), (26, s_callV E d mc ms 14 MX15_isSingle 1 29), (29, s_if_ne 34 32), (32, s_const (.int (0)) 33), (33, s_zreturn), (34, s_aload 0 35), (35, s_dup 36), (36, s_getf 14 5 39), (39, s_const (.int (1)) 40), (40, s_isub 41), (41, s_putf 14 5 0 44), (44, s_const (.int (1)) 45), (45, s_zreturn), (46, s_aload 1 47), (47, s_getf 12 0 50), (50, s_aload 0 51), (51, s_getf 14 4 54), (54, s_iaload E 55), (55, s_const (.int (42)) 57), (57, s_icmp_ne 102 60), (60, s_aload 0 61), (61, s_aload 1 62), (62, s_const (.int (42)) 64), (64, s_callV E d mc ms 14 MX15_goDown 2 67), (67, s_if_eq 88 70), (70, s_aload 0 71), (71, s_aload 1 72), (72, s_callV E d mc ms 14 MX15_isTest 1 75), (75, s_if_eq 88 78), (78, s_aload 0 79), (79, s_aload 1 80), (80, s_const (.int (43)) 82), (82, s_callV E d mc ms 14 MX15_eat 2 85), (85, s_if_ne 90 88), (88, s_const (.int (0)) 89), (89, s_zreturn), (90, s_aload 0 91), (91, s_dup 92), (92, s_getf 14 5 95), (95, s_const (.int (1)) 96), (96, s_isub 97), (97, s_putf 14 5 0 100), (100, s_const (.int (1)) 101), (101, s_zreturn), (102, s_aload 0 103), (103, s_aload 1 104), (104, s_callV E d mc ms 14 MX15_isSum 1 107), (107, s_if_eq 134 110), (110, s_aload 0 111), (111, s_aload 1 112), (112, s_const (.int (50)) 114), (114, s_const (.int (54)) 116), (116, s_callV E d mc ms 14 MX15_eatIn 3 119), (119, s_if_eq 134 122), (122, s_aload 0 123), (123, s_aload 1 124), (124, s_callV E d mc ms 14 MX15_isSum 1 127), (127, s_if_eq 134 130), (130, s_const (.int (1)) 131), (131, s_goto 135), (134, s_const (.int (0)) 135), (135, s_zreturn)]
set_option maxRecDepth 20000 in
theorem ok_X15_isSingle {E : ZEX} {X : ZMX} {d mc ms : Nat} {P : ZPT} {T : ZTT} (h : ZCX E X MX15_isSingle d mc ms P T) : ∀ pc, ZRow E X MX15_isSingle mc ms P T pc (ztb (tb_X15_isSingle E d mc ms) pc) := ztb_ok (by
  unfold tb_X15_isSingle
  refine zfmc (r_aload_n h (pc := 0) (kf := 1) 1 (by decide +kernel) rfl) ?_
  refine zfmc (r_getfN h (pc := 1) (ix := 105) (by decide +kernel) ckX13 0 (by decide) wk_7b5b465128) ?_
  refine zfmc (r_aload_n h (pc := 4) (kf := 0) 0 (by decide +kernel) rfl) ?_
  refine zfmc (r_getf h (pc := 5) (ix := 111) (by decide +kernel) ckX15 4 (by decide) wk_1ffd16151b) ?_
  refine zfmc (r_iaload h (pc := 8) (by decide +kernel)) ?_
  refine zfmc (r_bipush h (pc := 9) (z := 21) (by decide +kernel) (21) (by decide +kernel)) ?_
  refine zfmc (r_icmp_ne h (pc := 11) (off := 35) (by decide +kernel) 46 (by decide +kernel)) ?_
  refine zfmc (r_aload_n h (pc := 14) (kf := 0) 0 (by decide +kernel) rfl) ?_
  refine zfmc (r_aload_n h (pc := 15) (kf := 1) 1 (by decide +kernel) rfl) ?_
  refine zfmc (r_bipush h (pc := 16) (z := 21) (by decide +kernel) (21) (by decide +kernel)) ?_
  refine zfmc (r_callV h (pc := 18) (ix := 149) (by decide +kernel) ckX15 2 mcX15_goDown wk_d0402d8968 wk_2d266b8d55 wk_e0baa40295 rfl) ?_
  refine zfmc (r_if_eq h (pc := 21) (off := 11) (by decide +kernel) 32 (by decide +kernel)) ?_
  refine zfmc (r_aload_n h (pc := 24) (kf := 0) 0 (by decide +kernel) rfl) ?_
  refine zfmc (r_aload_n h (pc := 25) (kf := 1) 1 (by decide +kernel) rfl) ?_
  refine zfmc (r_callV h (pc := 26) (ix := 146) (by decide +kernel) ckX15 1 mcX15_isSingle wk_b4a68c4fe4 wk_e384cf0dd7 wk_5cd3f967d3 rfl) ?_
  refine zfmc (r_if_ne h (pc := 29) (off := 5) (by decide +kernel) 34 (by decide +kernel)) ?_
  refine zfmc (r_iconst h (pc := 32) (z := 0) (by decide +kernel) (0) (by decide +kernel)) ?_
  refine zfmc (r_zreturn h (pc := 33) (by decide +kernel) rfl) ?_
  refine zfmc (r_aload_n h (pc := 34) (kf := 0) 0 (by decide +kernel) rfl) ?_
  refine zfmc (r_dup h (pc := 35) (by decide +kernel)) ?_
  refine zfmc (r_getf h (pc := 36) (ix := 114) (by decide +kernel) ckX15 5 (by decide) wk_af527be352) ?_
  refine zfmc (r_iconst h (pc := 39) (z := 1) (by decide +kernel) (1) (by decide +kernel)) ?_
  refine zfmc (r_isub h (pc := 40) (by decide +kernel)) ?_
  refine zfmc (r_putf h (pc := 41) (ix := 114) (by decide +kernel) ckX15 5 (by decide) 0 (fty := tyX15 5) (tyX15_ok 5 (by decide)) rfl rfl wk_af527be352) ?_
  refine zfmc (r_iconst h (pc := 44) (z := 1) (by decide +kernel) (1) (by decide +kernel)) ?_
  refine zfmc (r_zreturn h (pc := 45) (by decide +kernel) rfl) ?_
  refine zfmc (r_aload_n h (pc := 46) (kf := 1) 1 (by decide +kernel) rfl) ?_
  refine zfmc (r_getfN h (pc := 47) (ix := 105) (by decide +kernel) ckX13 0 (by decide) wk_7b5b465128) ?_
  refine zfmc (r_aload_n h (pc := 50) (kf := 0) 0 (by decide +kernel) rfl) ?_
  refine zfmc (r_getf h (pc := 51) (ix := 111) (by decide +kernel) ckX15 4 (by decide) wk_1ffd16151b) ?_
  refine zfmc (r_iaload h (pc := 54) (by decide +kernel)) ?_
  refine zfmc (r_bipush h (pc := 55) (z := 42) (by decide +kernel) (42) (by decide +kernel)) ?_
  refine zfmc (r_icmp_ne h (pc := 57) (off := 45) (by decide +kernel) 102 (by decide +kernel)) ?_
  refine zfmc (r_aload_n h (pc := 60) (kf := 0) 0 (by decide +kernel) rfl) ?_
  refine zfmc (r_aload_n h (pc := 61) (kf := 1) 1 (by decide +kernel) rfl) ?_
  refine zfmc (r_bipush h (pc := 62) (z := 42) (by decide +kernel) (42) (by decide +kernel)) ?_
  refine zfmc (r_callV h (pc := 64) (ix := 149) (by decide +kernel) ckX15 2 mcX15_goDown wk_d0402d8968 wk_2d266b8d55 wk_e0baa40295 rfl) ?_
  refine zfmc (r_if_eq h (pc := 67) (off := 21) (by decide +kernel) 88 (by decide +kernel)) ?_
  refine zfmc (r_aload_n h (pc := 70) (kf := 0) 0 (by decide +kernel) rfl) ?_
  refine zfmc (r_aload_n h (pc := 71) (kf := 1) 1 (by decide +kernel) rfl) ?_
  refine zfmc (r_callV h (pc := 72) (ix := 134) (by decide +kernel) ckX15 1 mcX15_isTest wk_9b535c3461 wk_929b7b87a7 wk_c419703964 rfl) ?_
  refine zfmc (r_if_eq h (pc := 75) (off := 13) (by decide +kernel) 88 (by decide +kernel)) ?_
  refine zfmc (r_aload_n h (pc := 78) (kf := 0) 0 (by decide +kernel) rfl) ?_
  refine zfmc (r_aload_n h (pc := 79) (kf := 1) 1 (by decide +kernel) rfl) ?_
  refine zfmc (r_bipush h (pc := 80) (z := 43) (by decide +kernel) (43) (by decide +kernel)) ?_
  refine zfmc (r_callV h (pc := 82) (ix := 121) (by decide +kernel) ckX15 2 mcX15_eat wk_e0372883b3 wk_853a2f0ca3 wk_432dbcace1 rfl) ?_
  refine zfmc (r_if_ne h (pc := 85) (off := 5) (by decide +kernel) 90 (by decide +kernel)) ?_
  refine zfmc (r_iconst h (pc := 88) (z := 0) (by decide +kernel) (0) (by decide +kernel)) ?_
  refine zfmc (r_zreturn h (pc := 89) (by decide +kernel) rfl) ?_
  refine zfmc (r_aload_n h (pc := 90) (kf := 0) 0 (by decide +kernel) rfl) ?_
  refine zfmc (r_dup h (pc := 91) (by decide +kernel)) ?_
  refine zfmc (r_getf h (pc := 92) (ix := 114) (by decide +kernel) ckX15 5 (by decide) wk_af527be352) ?_
  refine zfmc (r_iconst h (pc := 95) (z := 1) (by decide +kernel) (1) (by decide +kernel)) ?_
  refine zfmc (r_isub h (pc := 96) (by decide +kernel)) ?_
  refine zfmc (r_putf h (pc := 97) (ix := 114) (by decide +kernel) ckX15 5 (by decide) 0 (fty := tyX15 5) (tyX15_ok 5 (by decide)) rfl rfl wk_af527be352) ?_
  refine zfmc (r_iconst h (pc := 100) (z := 1) (by decide +kernel) (1) (by decide +kernel)) ?_
  refine zfmc (r_zreturn h (pc := 101) (by decide +kernel) rfl) ?_
  refine zfmc (r_aload_n h (pc := 102) (kf := 0) 0 (by decide +kernel) rfl) ?_
  refine zfmc (r_aload_n h (pc := 103) (kf := 1) 1 (by decide +kernel) rfl) ?_
  refine zfmc (r_callV h (pc := 104) (ix := 140) (by decide +kernel) ckX15 1 mcX15_isSum wk_53a8d9d354 wk_73eea2d41e wk_fc48919d8d rfl) ?_
  refine zfmc (r_if_eq h (pc := 107) (off := 27) (by decide +kernel) 134 (by decide +kernel)) ?_
  refine zfmc (r_aload_n h (pc := 110) (kf := 0) 0 (by decide +kernel) rfl) ?_
  refine zfmc (r_aload_n h (pc := 111) (kf := 1) 1 (by decide +kernel) rfl) ?_
  refine zfmc (r_bipush h (pc := 112) (z := 50) (by decide +kernel) (50) (by decide +kernel)) ?_
  refine zfmc (r_bipush h (pc := 114) (z := 54) (by decide +kernel) (54) (by decide +kernel)) ?_
  refine zfmc (r_callV h (pc := 116) (ix := 152) (by decide +kernel) ckX15 3 mcX15_eatIn wk_eff6b7c34b wk_f5cf107898 wk_ad06174b4b rfl) ?_
  refine zfmc (r_if_eq h (pc := 119) (off := 15) (by decide +kernel) 134 (by decide +kernel)) ?_
  refine zfmc (r_aload_n h (pc := 122) (kf := 0) 0 (by decide +kernel) rfl) ?_
  refine zfmc (r_aload_n h (pc := 123) (kf := 1) 1 (by decide +kernel) rfl) ?_
  refine zfmc (r_callV h (pc := 124) (ix := 140) (by decide +kernel) ckX15 1 mcX15_isSum wk_53a8d9d354 wk_73eea2d41e wk_fc48919d8d rfl) ?_
  refine zfmc (r_if_eq h (pc := 127) (off := 7) (by decide +kernel) 134 (by decide +kernel)) ?_
  refine zfmc (r_iconst h (pc := 130) (z := 1) (by decide +kernel) (1) (by decide +kernel)) ?_
  refine zfmc (r_goto h (pc := 131) (off := 4) (by decide +kernel) 135 (by decide +kernel)) ?_
  refine zfmc (r_iconst h (pc := 134) (z := 0) (by decide +kernel) (0) (by decide +kernel)) ?_
  refine zfmc (r_zreturn h (pc := 135) (by decide +kernel) rfl) ?_
  exact zfm0)
section
variable {E : ZEX} {d mc ms : Nat} {cut : Nat → Bool} {G : ZCont} {R : ZRtn} {T : ZTT} {Z : Nat → ZCont}
theorem f_X15_init_0 (hZ : ZRN (ztb (tb_X15_init E d mc ms)) cut G R T Z) (f : Nat) (L : ZLV) (st : List Value) (σ : ZHp) (n k w : Nat) : Z (f + 1) 0 L st σ n k w = s_aload 0 1 L st σ n k w (zk1 cut G (Z f)) G R T := zrs hZ rfl f L st σ n k w
theorem f_X15_init_1 (hZ : ZRN (ztb (tb_X15_init E d mc ms)) cut G R T Z) (f : Nat) (L : ZLV) (st : List Value) (σ : ZHp) (n k w : Nat) : Z (f + 1) 1 L st σ n k w = s_objinit d 4 L st σ n k w (zk1 cut G (Z f)) G R T := zrs hZ rfl f L st σ n k w
theorem f_X15_init_4 (hZ : ZRN (ztb (tb_X15_init E d mc ms)) cut G R T Z) (f : Nat) (L : ZLV) (st : List Value) (σ : ZHp) (n k w : Nat) : Z (f + 1) 4 L st σ n k w = s_aload 0 5 L st σ n k w (zk1 cut G (Z f)) G R T := zrs hZ rfl f L st σ n k w
theorem f_X15_init_5 (hZ : ZRN (ztb (tb_X15_init E d mc ms)) cut G R T Z) (f : Nat) (L : ZLV) (st : List Value) (σ : ZHp) (n k w : Nat) : Z (f + 1) 5 L st σ n k w = s_const (.int (2000)) 8 L st σ n k w (zk1 cut G (Z f)) G R T := zrs hZ rfl f L st σ n k w
theorem f_X15_init_8 (hZ : ZRN (ztb (tb_X15_init E d mc ms)) cut G R T Z) (f : Nat) (L : ZLV) (st : List Value) (σ : ZHp) (n k w : Nat) : Z (f + 1) 8 L st σ n k w = s_newI E mc ms 10 L st σ n k w (zk1 cut G (Z f)) G R T := zrs hZ rfl f L st σ n k w
theorem f_X15_init_10 (hZ : ZRN (ztb (tb_X15_init E d mc ms)) cut G R T Z) (f : Nat) (L : ZLV) (st : List Value) (σ : ZHp) (n k w : Nat) : Z (f + 1) 10 L st σ n k w = s_putf 14 1 3 13 L st σ n k w (zk1 cut G (Z f)) G R T := zrs hZ rfl f L st σ n k w
theorem f_X15_init_13 (hZ : ZRN (ztb (tb_X15_init E d mc ms)) cut G R T Z) (f : Nat) (L : ZLV) (st : List Value) (σ : ZHp) (n k w : Nat) : Z (f + 1) 13 L st σ n k w = s_aload 0 14 L st σ n k w (zk1 cut G (Z f)) G R T := zrs hZ rfl f L st σ n k w
theorem f_X15_init_14 (hZ : ZRN (ztb (tb_X15_init E d mc ms)) cut G R T Z) (f : Nat) (L : ZLV) (st : List Value) (σ : ZHp) (n k w : Nat) : Z (f + 1) 14 L st σ n k w = s_const (.int (-1)) 15 L st σ n k w (zk1 cut G (Z f)) G R T := zrs hZ rfl f L st σ n k w
theorem f_X15_init_15 (hZ : ZRN (ztb (tb_X15_init E d mc ms)) cut G R T Z) (f : Nat) (L : ZLV) (st : List Value) (σ : ZHp) (n k w : Nat) : Z (f + 1) 15 L st σ n k w = s_putf 14 3 0 18 L st σ n k w (zk1 cut G (Z f)) G R T := zrs hZ rfl f L st σ n k w
theorem f_X15_init_18 (hZ : ZRN (ztb (tb_X15_init E d mc ms)) cut G R T Z) (f : Nat) (L : ZLV) (st : List Value) (σ : ZHp) (n k w : Nat) : Z (f + 1) 18 L st σ n k w = s_aload 0 19 L st σ n k w (zk1 cut G (Z f)) G R T := zrs hZ rfl f L st σ n k w
theorem f_X15_init_19 (hZ : ZRN (ztb (tb_X15_init E d mc ms)) cut G R T Z) (f : Nat) (L : ZLV) (st : List Value) (σ : ZHp) (n k w : Nat) : Z (f + 1) 19 L st σ n k w = s_new 12 21 fsX13 mc ms 22 L st σ n k w (zk1 cut G (Z f)) G R T := zrs hZ rfl f L st σ n k w
theorem f_X15_init_22 (hZ : ZRN (ztb (tb_X15_init E d mc ms)) cut G R T Z) (f : Nat) (L : ZLV) (st : List Value) (σ : ZHp) (n k w : Nat) : Z (f + 1) 22 L st σ n k w = s_dup 23 L st σ n k w (zk1 cut G (Z f)) G R T := zrs hZ rfl f L st σ n k w
theorem f_X15_init_23 (hZ : ZRN (ztb (tb_X15_init E d mc ms)) cut G R T Z) (f : Nat) (L : ZLV) (st : List Value) (σ : ZHp) (n k w : Nat) : Z (f + 1) 23 L st σ n k w = s_callI E d mc ms MX13_init 0 26 L st σ n k w (zk1 cut G (Z f)) G R T := zrs hZ rfl f L st σ n k w
theorem f_X15_init_26 (hZ : ZRN (ztb (tb_X15_init E d mc ms)) cut G R T Z) (f : Nat) (L : ZLV) (st : List Value) (σ : ZHp) (n k w : Nat) : Z (f + 1) 26 L st σ n k w = s_putf 14 6 3 29 L st σ n k w (zk1 cut G (Z f)) G R T := zrs hZ rfl f L st σ n k w
theorem f_X15_init_29 (hZ : ZRN (ztb (tb_X15_init E d mc ms)) cut G R T Z) (f : Nat) (L : ZLV) (st : List Value) (σ : ZHp) (n k w : Nat) : Z (f + 1) 29 L st σ n k w = s_aload 0 30 L st σ n k w (zk1 cut G (Z f)) G R T := zrs hZ rfl f L st σ n k w
theorem f_X15_init_30 (hZ : ZRN (ztb (tb_X15_init E d mc ms)) cut G R T Z) (f : Nat) (L : ZLV) (st : List Value) (σ : ZHp) (n k w : Nat) : Z (f + 1) 30 L st σ n k w = s_new 13 15 fsX14 mc ms 33 L st σ n k w (zk1 cut G (Z f)) G R T := zrs hZ rfl f L st σ n k w
theorem f_X15_init_33 (hZ : ZRN (ztb (tb_X15_init E d mc ms)) cut G R T Z) (f : Nat) (L : ZLV) (st : List Value) (σ : ZHp) (n k w : Nat) : Z (f + 1) 33 L st σ n k w = s_dup 34 L st σ n k w (zk1 cut G (Z f)) G R T := zrs hZ rfl f L st σ n k w
theorem f_X15_init_34 (hZ : ZRN (ztb (tb_X15_init E d mc ms)) cut G R T Z) (f : Nat) (L : ZLV) (st : List Value) (σ : ZHp) (n k w : Nat) : Z (f + 1) 34 L st σ n k w = s_callI E d mc ms MX14_init 0 37 L st σ n k w (zk1 cut G (Z f)) G R T := zrs hZ rfl f L st σ n k w
theorem f_X15_init_37 (hZ : ZRN (ztb (tb_X15_init E d mc ms)) cut G R T Z) (f : Nat) (L : ZLV) (st : List Value) (σ : ZHp) (n k w : Nat) : Z (f + 1) 37 L st σ n k w = s_putf 14 7 3 40 L st σ n k w (zk1 cut G (Z f)) G R T := zrs hZ rfl f L st σ n k w
theorem f_X15_init_40 (hZ : ZRN (ztb (tb_X15_init E d mc ms)) cut G R T Z) (f : Nat) (L : ZLV) (st : List Value) (σ : ZHp) (n k w : Nat) : Z (f + 1) 40 L st σ n k w = s_aload 0 41 L st σ n k w (zk1 cut G (Z f)) G R T := zrs hZ rfl f L st σ n k w
theorem f_X15_init_41 (hZ : ZRN (ztb (tb_X15_init E d mc ms)) cut G R T Z) (f : Nat) (L : ZLV) (st : List Value) (σ : ZHp) (n k w : Nat) : Z (f + 1) 41 L st σ n k w = s_new 13 15 fsX14 mc ms 44 L st σ n k w (zk1 cut G (Z f)) G R T := zrs hZ rfl f L st σ n k w
theorem f_X15_init_44 (hZ : ZRN (ztb (tb_X15_init E d mc ms)) cut G R T Z) (f : Nat) (L : ZLV) (st : List Value) (σ : ZHp) (n k w : Nat) : Z (f + 1) 44 L st σ n k w = s_dup 45 L st σ n k w (zk1 cut G (Z f)) G R T := zrs hZ rfl f L st σ n k w
theorem f_X15_init_45 (hZ : ZRN (ztb (tb_X15_init E d mc ms)) cut G R T Z) (f : Nat) (L : ZLV) (st : List Value) (σ : ZHp) (n k w : Nat) : Z (f + 1) 45 L st σ n k w = s_callI E d mc ms MX14_init 0 48 L st σ n k w (zk1 cut G (Z f)) G R T := zrs hZ rfl f L st σ n k w
theorem f_X15_init_48 (hZ : ZRN (ztb (tb_X15_init E d mc ms)) cut G R T Z) (f : Nat) (L : ZLV) (st : List Value) (σ : ZHp) (n k w : Nat) : Z (f + 1) 48 L st σ n k w = s_putf 14 8 3 51 L st σ n k w (zk1 cut G (Z f)) G R T := zrs hZ rfl f L st σ n k w
theorem f_X15_init_51 (hZ : ZRN (ztb (tb_X15_init E d mc ms)) cut G R T Z) (f : Nat) (L : ZLV) (st : List Value) (σ : ZHp) (n k w : Nat) : Z (f + 1) 51 L st σ n k w = s_aload 0 52 L st σ n k w (zk1 cut G (Z f)) G R T := zrs hZ rfl f L st σ n k w
theorem f_X15_init_52 (hZ : ZRN (ztb (tb_X15_init E d mc ms)) cut G R T Z) (f : Nat) (L : ZLV) (st : List Value) (σ : ZHp) (n k w : Nat) : Z (f + 1) 52 L st σ n k w = s_aload 0 53 L st σ n k w (zk1 cut G (Z f)) G R T := zrs hZ rfl f L st σ n k w
theorem f_X15_init_53 (hZ : ZRN (ztb (tb_X15_init E d mc ms)) cut G R T Z) (f : Nat) (L : ZLV) (st : List Value) (σ : ZHp) (n k w : Nat) : Z (f + 1) 53 L st σ n k w = s_getf 14 7 56 L st σ n k w (zk1 cut G (Z f)) G R T := zrs hZ rfl f L st σ n k w
theorem f_X15_init_56 (hZ : ZRN (ztb (tb_X15_init E d mc ms)) cut G R T Z) (f : Nat) (L : ZLV) (st : List Value) (σ : ZHp) (n k w : Nat) : Z (f + 1) 56 L st σ n k w = s_putf 14 10 3 59 L st σ n k w (zk1 cut G (Z f)) G R T := zrs hZ rfl f L st σ n k w
theorem f_X15_init_59 (hZ : ZRN (ztb (tb_X15_init E d mc ms)) cut G R T Z) (f : Nat) (L : ZLV) (st : List Value) (σ : ZHp) (n k w : Nat) : Z (f + 1) 59 L st σ n k w = s_aload 0 60 L st σ n k w (zk1 cut G (Z f)) G R T := zrs hZ rfl f L st σ n k w
theorem f_X15_init_60 (hZ : ZRN (ztb (tb_X15_init E d mc ms)) cut G R T Z) (f : Nat) (L : ZLV) (st : List Value) (σ : ZHp) (n k w : Nat) : Z (f + 1) 60 L st σ n k w = s_const (.int (60)) 62 L st σ n k w (zk1 cut G (Z f)) G R T := zrs hZ rfl f L st σ n k w
theorem f_X15_init_62 (hZ : ZRN (ztb (tb_X15_init E d mc ms)) cut G R T Z) (f : Nat) (L : ZLV) (st : List Value) (σ : ZHp) (n k w : Nat) : Z (f + 1) 62 L st σ n k w = s_newI E mc ms 64 L st σ n k w (zk1 cut G (Z f)) G R T := zrs hZ rfl f L st σ n k w
theorem f_X15_init_64 (hZ : ZRN (ztb (tb_X15_init E d mc ms)) cut G R T Z) (f : Nat) (L : ZLV) (st : List Value) (σ : ZHp) (n k w : Nat) : Z (f + 1) 64 L st σ n k w = s_putf 14 12 3 67 L st σ n k w (zk1 cut G (Z f)) G R T := zrs hZ rfl f L st σ n k w
theorem f_X15_init_67 (hZ : ZRN (ztb (tb_X15_init E d mc ms)) cut G R T Z) (f : Nat) (L : ZLV) (st : List Value) (σ : ZHp) (n k w : Nat) : Z (f + 1) 67 L st σ n k w = s_aload 0 68 L st σ n k w (zk1 cut G (Z f)) G R T := zrs hZ rfl f L st σ n k w
theorem f_X15_init_68 (hZ : ZRN (ztb (tb_X15_init E d mc ms)) cut G R T Z) (f : Nat) (L : ZLV) (st : List Value) (σ : ZHp) (n k w : Nat) : Z (f + 1) 68 L st σ n k w = s_const (.int (10)) 70 L st σ n k w (zk1 cut G (Z f)) G R T := zrs hZ rfl f L st σ n k w
theorem f_X15_init_70 (hZ : ZRN (ztb (tb_X15_init E d mc ms)) cut G R T Z) (f : Nat) (L : ZLV) (st : List Value) (σ : ZHp) (n k w : Nat) : Z (f + 1) 70 L st σ n k w = s_newI E mc ms 72 L st σ n k w (zk1 cut G (Z f)) G R T := zrs hZ rfl f L st σ n k w
theorem f_X15_init_72 (hZ : ZRN (ztb (tb_X15_init E d mc ms)) cut G R T Z) (f : Nat) (L : ZLV) (st : List Value) (σ : ZHp) (n k w : Nat) : Z (f + 1) 72 L st σ n k w = s_putf 14 15 3 75 L st σ n k w (zk1 cut G (Z f)) G R T := zrs hZ rfl f L st σ n k w
theorem f_X15_init_75 (hZ : ZRN (ztb (tb_X15_init E d mc ms)) cut G R T Z) (f : Nat) (L : ZLV) (st : List Value) (σ : ZHp) (n k w : Nat) : Z (f + 1) 75 L st σ n k w = s_aload 0 76 L st σ n k w (zk1 cut G (Z f)) G R T := zrs hZ rfl f L st σ n k w
theorem f_X15_init_76 (hZ : ZRN (ztb (tb_X15_init E d mc ms)) cut G R T Z) (f : Nat) (L : ZLV) (st : List Value) (σ : ZHp) (n k w : Nat) : Z (f + 1) 76 L st σ n k w = s_const (.int (-1)) 77 L st σ n k w (zk1 cut G (Z f)) G R T := zrs hZ rfl f L st σ n k w
theorem f_X15_init_77 (hZ : ZRN (ztb (tb_X15_init E d mc ms)) cut G R T Z) (f : Nat) (L : ZLV) (st : List Value) (σ : ZHp) (n k w : Nat) : Z (f + 1) 77 L st σ n k w = s_putf 14 22 0 80 L st σ n k w (zk1 cut G (Z f)) G R T := zrs hZ rfl f L st σ n k w
theorem f_X15_init_80 (hZ : ZRN (ztb (tb_X15_init E d mc ms)) cut G R T Z) (f : Nat) (L : ZLV) (st : List Value) (σ : ZHp) (n k w : Nat) : Z (f + 1) 80 L st σ n k w = s_return L st σ n k w (zk1 cut G (Z f)) G R T := zrs hZ rfl f L st σ n k w
theorem f_X15_thrown_0 (hZ : ZRN (ztb (tb_X15_thrown E d mc ms)) cut G R T Z) (f : Nat) (L : ZLV) (st : List Value) (σ : ZHp) (n k w : Nat) : Z (f + 1) 0 L st σ n k w = s_aload 0 1 L st σ n k w (zk1 cut G (Z f)) G R T := zrs hZ rfl f L st σ n k w
theorem f_X15_thrown_1 (hZ : ZRN (ztb (tb_X15_thrown E d mc ms)) cut G R T Z) (f : Nat) (L : ZLV) (st : List Value) (σ : ZHp) (n k w : Nat) : Z (f + 1) 1 L st σ n k w = s_getf 14 0 4 L st σ n k w (zk1 cut G (Z f)) G R T := zrs hZ rfl f L st σ n k w
theorem f_X15_thrown_4 (hZ : ZRN (ztb (tb_X15_thrown E d mc ms)) cut G R T Z) (f : Nat) (L : ZLV) (st : List Value) (σ : ZHp) (n k w : Nat) : Z (f + 1) 4 L st σ n k w = s_ireturn L st σ n k w (zk1 cut G (Z f)) G R T := zrs hZ rfl f L st σ n k w
theorem f_X15_no_0 (hZ : ZRN (ztb (tb_X15_no E d mc ms)) cut G R T Z) (f : Nat) (L : ZLV) (st : List Value) (σ : ZHp) (n k w : Nat) : Z (f + 1) 0 L st σ n k w = s_aload 0 1 L st σ n k w (zk1 cut G (Z f)) G R T := zrs hZ rfl f L st σ n k w
theorem f_X15_no_1 (hZ : ZRN (ztb (tb_X15_no E d mc ms)) cut G R T Z) (f : Nat) (L : ZLV) (st : List Value) (σ : ZHp) (n k w : Nat) : Z (f + 1) 1 L st σ n k w = s_iload 1 2 L st σ n k w (zk1 cut G (Z f)) G R T := zrs hZ rfl f L st σ n k w
theorem f_X15_no_2 (hZ : ZRN (ztb (tb_X15_no E d mc ms)) cut G R T Z) (f : Nat) (L : ZLV) (st : List Value) (σ : ZHp) (n k w : Nat) : Z (f + 1) 2 L st σ n k w = s_putf 14 0 0 5 L st σ n k w (zk1 cut G (Z f)) G R T := zrs hZ rfl f L st σ n k w
theorem f_X15_no_5 (hZ : ZRN (ztb (tb_X15_no E d mc ms)) cut G R T Z) (f : Nat) (L : ZLV) (st : List Value) (σ : ZHp) (n k w : Nat) : Z (f + 1) 5 L st σ n k w = s_const (.int (0)) 6 L st σ n k w (zk1 cut G (Z f)) G R T := zrs hZ rfl f L st σ n k w
theorem f_X15_no_6 (hZ : ZRN (ztb (tb_X15_no E d mc ms)) cut G R T Z) (f : Nat) (L : ZLV) (st : List Value) (σ : ZHp) (n k w : Nat) : Z (f + 1) 6 L st σ n k w = s_ireturn L st σ n k w (zk1 cut G (Z f)) G R T := zrs hZ rfl f L st σ n k w
theorem f_X15_isIn_0 (hZ : ZRN (ztb (tb_X15_isIn E d mc ms)) cut G R T Z) (f : Nat) (L : ZLV) (st : List Value) (σ : ZHp) (n k w : Nat) : Z (f + 1) 0 L st σ n k w = s_iload 0 1 L st σ n k w (zk1 cut G (Z f)) G R T := zrs hZ rfl f L st σ n k w
theorem f_X15_isIn_1 (hZ : ZRN (ztb (tb_X15_isIn E d mc ms)) cut G R T Z) (f : Nat) (L : ZLV) (st : List Value) (σ : ZHp) (n k w : Nat) : Z (f + 1) 1 L st σ n k w = s_iload 1 2 L st σ n k w (zk1 cut G (Z f)) G R T := zrs hZ rfl f L st σ n k w
theorem f_X15_isIn_2 (hZ : ZRN (ztb (tb_X15_isIn E d mc ms)) cut G R T Z) (f : Nat) (L : ZLV) (st : List Value) (σ : ZHp) (n k w : Nat) : Z (f + 1) 2 L st σ n k w = s_icmp_lt 14 5 L st σ n k w (zk1 cut G (Z f)) G R T := zrs hZ rfl f L st σ n k w
theorem f_X15_isIn_5 (hZ : ZRN (ztb (tb_X15_isIn E d mc ms)) cut G R T Z) (f : Nat) (L : ZLV) (st : List Value) (σ : ZHp) (n k w : Nat) : Z (f + 1) 5 L st σ n k w = s_iload 0 6 L st σ n k w (zk1 cut G (Z f)) G R T := zrs hZ rfl f L st σ n k w
theorem f_X15_isIn_6 (hZ : ZRN (ztb (tb_X15_isIn E d mc ms)) cut G R T Z) (f : Nat) (L : ZLV) (st : List Value) (σ : ZHp) (n k w : Nat) : Z (f + 1) 6 L st σ n k w = s_iload 2 7 L st σ n k w (zk1 cut G (Z f)) G R T := zrs hZ rfl f L st σ n k w
theorem f_X15_isIn_7 (hZ : ZRN (ztb (tb_X15_isIn E d mc ms)) cut G R T Z) (f : Nat) (L : ZLV) (st : List Value) (σ : ZHp) (n k w : Nat) : Z (f + 1) 7 L st σ n k w = s_icmp_gt 14 10 L st σ n k w (zk1 cut G (Z f)) G R T := zrs hZ rfl f L st σ n k w
theorem f_X15_isIn_10 (hZ : ZRN (ztb (tb_X15_isIn E d mc ms)) cut G R T Z) (f : Nat) (L : ZLV) (st : List Value) (σ : ZHp) (n k w : Nat) : Z (f + 1) 10 L st σ n k w = s_const (.int (1)) 11 L st σ n k w (zk1 cut G (Z f)) G R T := zrs hZ rfl f L st σ n k w
theorem f_X15_isIn_11 (hZ : ZRN (ztb (tb_X15_isIn E d mc ms)) cut G R T Z) (f : Nat) (L : ZLV) (st : List Value) (σ : ZHp) (n k w : Nat) : Z (f + 1) 11 L st σ n k w = s_goto 15 L st σ n k w (zk1 cut G (Z f)) G R T := zrs hZ rfl f L st σ n k w
theorem f_X15_isIn_14 (hZ : ZRN (ztb (tb_X15_isIn E d mc ms)) cut G R T Z) (f : Nat) (L : ZLV) (st : List Value) (σ : ZHp) (n k w : Nat) : Z (f + 1) 14 L st σ n k w = s_const (.int (0)) 15 L st σ n k w (zk1 cut G (Z f)) G R T := zrs hZ rfl f L st σ n k w
theorem f_X15_isIn_15 (hZ : ZRN (ztb (tb_X15_isIn E d mc ms)) cut G R T Z) (f : Nat) (L : ZLV) (st : List Value) (σ : ZHp) (n k w : Nat) : Z (f + 1) 15 L st σ n k w = s_zreturn L st σ n k w (zk1 cut G (Z f)) G R T := zrs hZ rfl f L st σ n k w
theorem f_X15_isCard_0 (hZ : ZRN (ztb (tb_X15_isCard E d mc ms)) cut G R T Z) (f : Nat) (L : ZLV) (st : List Value) (σ : ZHp) (n k w : Nat) : Z (f + 1) 0 L st σ n k w = s_iload 1 1 L st σ n k w (zk1 cut G (Z f)) G R T := zrs hZ rfl f L st σ n k w
theorem f_X15_isCard_1 (hZ : ZRN (ztb (tb_X15_isCard E d mc ms)) cut G R T Z) (f : Nat) (L : ZLV) (st : List Value) (σ : ZHp) (n k w : Nat) : Z (f + 1) 1 L st σ n k w = s_const (.int (0)) 2 L st σ n k w (zk1 cut G (Z f)) G R T := zrs hZ rfl f L st σ n k w
theorem f_X15_isCard_2 (hZ : ZRN (ztb (tb_X15_isCard E d mc ms)) cut G R T Z) (f : Nat) (L : ZLV) (st : List Value) (σ : ZHp) (n k w : Nat) : Z (f + 1) 2 L st σ n k w = s_aload 0 3 L st σ n k w (zk1 cut G (Z f)) G R T := zrs hZ rfl f L st σ n k w
theorem f_X15_isCard_3 (hZ : ZRN (ztb (tb_X15_isCard E d mc ms)) cut G R T Z) (f : Nat) (L : ZLV) (st : List Value) (σ : ZHp) (n k w : Nat) : Z (f + 1) 3 L st σ n k w = s_getf 14 6 6 L st σ n k w (zk1 cut G (Z f)) G R T := zrs hZ rfl f L st σ n k w
theorem f_X15_isCard_6 (hZ : ZRN (ztb (tb_X15_isCard E d mc ms)) cut G R T Z) (f : Nat) (L : ZLV) (st : List Value) (σ : ZHp) (n k w : Nat) : Z (f + 1) 6 L st σ n k w = s_getf 12 5 9 L st σ n k w (zk1 cut G (Z f)) G R T := zrs hZ rfl f L st σ n k w
theorem f_X15_isCard_9 (hZ : ZRN (ztb (tb_X15_isCard E d mc ms)) cut G R T Z) (f : Nat) (L : ZLV) (st : List Value) (σ : ZHp) (n k w : Nat) : Z (f + 1) 9 L st σ n k w = s_const (.int (1)) 10 L st σ n k w (zk1 cut G (Z f)) G R T := zrs hZ rfl f L st σ n k w
theorem f_X15_isCard_10 (hZ : ZRN (ztb (tb_X15_isCard E d mc ms)) cut G R T Z) (f : Nat) (L : ZLV) (st : List Value) (σ : ZHp) (n k w : Nat) : Z (f + 1) 10 L st σ n k w = s_isub 11 L st σ n k w (zk1 cut G (Z f)) G R T := zrs hZ rfl f L st σ n k w
theorem f_X15_isCard_11 (hZ : ZRN (ztb (tb_X15_isCard E d mc ms)) cut G R T Z) (f : Nat) (L : ZLV) (st : List Value) (σ : ZHp) (n k w : Nat) : Z (f + 1) 11 L st σ n k w = s_callS E d mc ms MX15_isIn 3 14 L st σ n k w (zk1 cut G (Z f)) G R T := zrs hZ rfl f L st σ n k w
theorem f_X15_isCard_14 (hZ : ZRN (ztb (tb_X15_isCard E d mc ms)) cut G R T Z) (f : Nat) (L : ZLV) (st : List Value) (σ : ZHp) (n k w : Nat) : Z (f + 1) 14 L st σ n k w = s_zreturn L st σ n k w (zk1 cut G (Z f)) G R T := zrs hZ rfl f L st σ n k w
theorem f_X15_isMerchant_0 (hZ : ZRN (ztb (tb_X15_isMerchant E d mc ms)) cut G R T Z) (f : Nat) (L : ZLV) (st : List Value) (σ : ZHp) (n k w : Nat) : Z (f + 1) 0 L st σ n k w = s_iload 1 1 L st σ n k w (zk1 cut G (Z f)) G R T := zrs hZ rfl f L st σ n k w
theorem f_X15_isMerchant_1 (hZ : ZRN (ztb (tb_X15_isMerchant E d mc ms)) cut G R T Z) (f : Nat) (L : ZLV) (st : List Value) (σ : ZHp) (n k w : Nat) : Z (f + 1) 1 L st σ n k w = s_const (.int (0)) 2 L st σ n k w (zk1 cut G (Z f)) G R T := zrs hZ rfl f L st σ n k w
theorem f_X15_isMerchant_2 (hZ : ZRN (ztb (tb_X15_isMerchant E d mc ms)) cut G R T Z) (f : Nat) (L : ZLV) (st : List Value) (σ : ZHp) (n k w : Nat) : Z (f + 1) 2 L st σ n k w = s_aload 0 3 L st σ n k w (zk1 cut G (Z f)) G R T := zrs hZ rfl f L st σ n k w
theorem f_X15_isMerchant_3 (hZ : ZRN (ztb (tb_X15_isMerchant E d mc ms)) cut G R T Z) (f : Nat) (L : ZLV) (st : List Value) (σ : ZHp) (n k w : Nat) : Z (f + 1) 3 L st σ n k w = s_getf 14 6 6 L st σ n k w (zk1 cut G (Z f)) G R T := zrs hZ rfl f L st σ n k w
theorem f_X15_isMerchant_6 (hZ : ZRN (ztb (tb_X15_isMerchant E d mc ms)) cut G R T Z) (f : Nat) (L : ZLV) (st : List Value) (σ : ZHp) (n k w : Nat) : Z (f + 1) 6 L st σ n k w = s_getf 12 12 9 L st σ n k w (zk1 cut G (Z f)) G R T := zrs hZ rfl f L st σ n k w
theorem f_X15_isMerchant_9 (hZ : ZRN (ztb (tb_X15_isMerchant E d mc ms)) cut G R T Z) (f : Nat) (L : ZLV) (st : List Value) (σ : ZHp) (n k w : Nat) : Z (f + 1) 9 L st σ n k w = s_const (.int (1)) 10 L st σ n k w (zk1 cut G (Z f)) G R T := zrs hZ rfl f L st σ n k w
theorem f_X15_isMerchant_10 (hZ : ZRN (ztb (tb_X15_isMerchant E d mc ms)) cut G R T Z) (f : Nat) (L : ZLV) (st : List Value) (σ : ZHp) (n k w : Nat) : Z (f + 1) 10 L st σ n k w = s_isub 11 L st σ n k w (zk1 cut G (Z f)) G R T := zrs hZ rfl f L st σ n k w
theorem f_X15_isMerchant_11 (hZ : ZRN (ztb (tb_X15_isMerchant E d mc ms)) cut G R T Z) (f : Nat) (L : ZLV) (st : List Value) (σ : ZHp) (n k w : Nat) : Z (f + 1) 11 L st σ n k w = s_callS E d mc ms MX15_isIn 3 14 L st σ n k w (zk1 cut G (Z f)) G R T := zrs hZ rfl f L st σ n k w
theorem f_X15_isMerchant_14 (hZ : ZRN (ztb (tb_X15_isMerchant E d mc ms)) cut G R T Z) (f : Nat) (L : ZLV) (st : List Value) (σ : ZHp) (n k w : Nat) : Z (f + 1) 14 L st σ n k w = s_zreturn L st σ n k w (zk1 cut G (Z f)) G R T := zrs hZ rfl f L st σ n k w
theorem f_X15_isLetter_0 (hZ : ZRN (ztb (tb_X15_isLetter E d mc ms)) cut G R T Z) (f : Nat) (L : ZLV) (st : List Value) (σ : ZHp) (n k w : Nat) : Z (f + 1) 0 L st σ n k w = s_iload 0 1 L st σ n k w (zk1 cut G (Z f)) G R T := zrs hZ rfl f L st σ n k w
theorem f_X15_isLetter_1 (hZ : ZRN (ztb (tb_X15_isLetter E d mc ms)) cut G R T Z) (f : Nat) (L : ZLV) (st : List Value) (σ : ZHp) (n k w : Nat) : Z (f + 1) 1 L st σ n k w = s_const (.int (97)) 3 L st σ n k w (zk1 cut G (Z f)) G R T := zrs hZ rfl f L st σ n k w
theorem f_X15_isLetter_3 (hZ : ZRN (ztb (tb_X15_isLetter E d mc ms)) cut G R T Z) (f : Nat) (L : ZLV) (st : List Value) (σ : ZHp) (n k w : Nat) : Z (f + 1) 3 L st σ n k w = s_icmp_lt 16 6 L st σ n k w (zk1 cut G (Z f)) G R T := zrs hZ rfl f L st σ n k w
theorem f_X15_isLetter_6 (hZ : ZRN (ztb (tb_X15_isLetter E d mc ms)) cut G R T Z) (f : Nat) (L : ZLV) (st : List Value) (σ : ZHp) (n k w : Nat) : Z (f + 1) 6 L st σ n k w = s_iload 0 7 L st σ n k w (zk1 cut G (Z f)) G R T := zrs hZ rfl f L st σ n k w
theorem f_X15_isLetter_7 (hZ : ZRN (ztb (tb_X15_isLetter E d mc ms)) cut G R T Z) (f : Nat) (L : ZLV) (st : List Value) (σ : ZHp) (n k w : Nat) : Z (f + 1) 7 L st σ n k w = s_const (.int (122)) 9 L st σ n k w (zk1 cut G (Z f)) G R T := zrs hZ rfl f L st σ n k w
theorem f_X15_isLetter_9 (hZ : ZRN (ztb (tb_X15_isLetter E d mc ms)) cut G R T Z) (f : Nat) (L : ZLV) (st : List Value) (σ : ZHp) (n k w : Nat) : Z (f + 1) 9 L st σ n k w = s_icmp_gt 16 12 L st σ n k w (zk1 cut G (Z f)) G R T := zrs hZ rfl f L st σ n k w
theorem f_X15_isLetter_12 (hZ : ZRN (ztb (tb_X15_isLetter E d mc ms)) cut G R T Z) (f : Nat) (L : ZLV) (st : List Value) (σ : ZHp) (n k w : Nat) : Z (f + 1) 12 L st σ n k w = s_const (.int (1)) 13 L st σ n k w (zk1 cut G (Z f)) G R T := zrs hZ rfl f L st σ n k w
theorem f_X15_isLetter_13 (hZ : ZRN (ztb (tb_X15_isLetter E d mc ms)) cut G R T Z) (f : Nat) (L : ZLV) (st : List Value) (σ : ZHp) (n k w : Nat) : Z (f + 1) 13 L st σ n k w = s_goto 17 L st σ n k w (zk1 cut G (Z f)) G R T := zrs hZ rfl f L st σ n k w
theorem f_X15_isLetter_16 (hZ : ZRN (ztb (tb_X15_isLetter E d mc ms)) cut G R T Z) (f : Nat) (L : ZLV) (st : List Value) (σ : ZHp) (n k w : Nat) : Z (f + 1) 16 L st σ n k w = s_const (.int (0)) 17 L st σ n k w (zk1 cut G (Z f)) G R T := zrs hZ rfl f L st σ n k w
theorem f_X15_isLetter_17 (hZ : ZRN (ztb (tb_X15_isLetter E d mc ms)) cut G R T Z) (f : Nat) (L : ZLV) (st : List Value) (σ : ZHp) (n k w : Nat) : Z (f + 1) 17 L st σ n k w = s_zreturn L st σ n k w (zk1 cut G (Z f)) G R T := zrs hZ rfl f L st σ n k w
theorem f_X15_isDigit_0 (hZ : ZRN (ztb (tb_X15_isDigit E d mc ms)) cut G R T Z) (f : Nat) (L : ZLV) (st : List Value) (σ : ZHp) (n k w : Nat) : Z (f + 1) 0 L st σ n k w = s_iload 0 1 L st σ n k w (zk1 cut G (Z f)) G R T := zrs hZ rfl f L st σ n k w
theorem f_X15_isDigit_1 (hZ : ZRN (ztb (tb_X15_isDigit E d mc ms)) cut G R T Z) (f : Nat) (L : ZLV) (st : List Value) (σ : ZHp) (n k w : Nat) : Z (f + 1) 1 L st σ n k w = s_const (.int (48)) 3 L st σ n k w (zk1 cut G (Z f)) G R T := zrs hZ rfl f L st σ n k w
theorem f_X15_isDigit_3 (hZ : ZRN (ztb (tb_X15_isDigit E d mc ms)) cut G R T Z) (f : Nat) (L : ZLV) (st : List Value) (σ : ZHp) (n k w : Nat) : Z (f + 1) 3 L st σ n k w = s_icmp_lt 16 6 L st σ n k w (zk1 cut G (Z f)) G R T := zrs hZ rfl f L st σ n k w
theorem f_X15_isDigit_6 (hZ : ZRN (ztb (tb_X15_isDigit E d mc ms)) cut G R T Z) (f : Nat) (L : ZLV) (st : List Value) (σ : ZHp) (n k w : Nat) : Z (f + 1) 6 L st σ n k w = s_iload 0 7 L st σ n k w (zk1 cut G (Z f)) G R T := zrs hZ rfl f L st σ n k w
theorem f_X15_isDigit_7 (hZ : ZRN (ztb (tb_X15_isDigit E d mc ms)) cut G R T Z) (f : Nat) (L : ZLV) (st : List Value) (σ : ZHp) (n k w : Nat) : Z (f + 1) 7 L st σ n k w = s_const (.int (57)) 9 L st σ n k w (zk1 cut G (Z f)) G R T := zrs hZ rfl f L st σ n k w
theorem f_X15_isDigit_9 (hZ : ZRN (ztb (tb_X15_isDigit E d mc ms)) cut G R T Z) (f : Nat) (L : ZLV) (st : List Value) (σ : ZHp) (n k w : Nat) : Z (f + 1) 9 L st σ n k w = s_icmp_gt 16 12 L st σ n k w (zk1 cut G (Z f)) G R T := zrs hZ rfl f L st σ n k w
theorem f_X15_isDigit_12 (hZ : ZRN (ztb (tb_X15_isDigit E d mc ms)) cut G R T Z) (f : Nat) (L : ZLV) (st : List Value) (σ : ZHp) (n k w : Nat) : Z (f + 1) 12 L st σ n k w = s_const (.int (1)) 13 L st σ n k w (zk1 cut G (Z f)) G R T := zrs hZ rfl f L st σ n k w
theorem f_X15_isDigit_13 (hZ : ZRN (ztb (tb_X15_isDigit E d mc ms)) cut G R T Z) (f : Nat) (L : ZLV) (st : List Value) (σ : ZHp) (n k w : Nat) : Z (f + 1) 13 L st σ n k w = s_goto 17 L st σ n k w (zk1 cut G (Z f)) G R T := zrs hZ rfl f L st σ n k w
theorem f_X15_isDigit_16 (hZ : ZRN (ztb (tb_X15_isDigit E d mc ms)) cut G R T Z) (f : Nat) (L : ZLV) (st : List Value) (σ : ZHp) (n k w : Nat) : Z (f + 1) 16 L st σ n k w = s_const (.int (0)) 17 L st σ n k w (zk1 cut G (Z f)) G R T := zrs hZ rfl f L st σ n k w
theorem f_X15_isDigit_17 (hZ : ZRN (ztb (tb_X15_isDigit E d mc ms)) cut G R T Z) (f : Nat) (L : ZLV) (st : List Value) (σ : ZHp) (n k w : Nat) : Z (f + 1) 17 L st σ n k w = s_zreturn L st σ n k w (zk1 cut G (Z f)) G R T := zrs hZ rfl f L st σ n k w
theorem f_X15_byteAt_0 (hZ : ZRN (ztb (tb_X15_byteAt E d mc ms)) cut G R T Z) (f : Nat) (L : ZLV) (st : List Value) (σ : ZHp) (n k w : Nat) : Z (f + 1) 0 L st σ n k w = s_iload 1 1 L st σ n k w (zk1 cut G (Z f)) G R T := zrs hZ rfl f L st σ n k w
theorem f_X15_byteAt_1 (hZ : ZRN (ztb (tb_X15_byteAt E d mc ms)) cut G R T Z) (f : Nat) (L : ZLV) (st : List Value) (σ : ZHp) (n k w : Nat) : Z (f + 1) 1 L st σ n k w = s_aload 0 2 L st σ n k w (zk1 cut G (Z f)) G R T := zrs hZ rfl f L st σ n k w
theorem f_X15_byteAt_2 (hZ : ZRN (ztb (tb_X15_byteAt E d mc ms)) cut G R T Z) (f : Nat) (L : ZLV) (st : List Value) (σ : ZHp) (n k w : Nat) : Z (f + 1) 2 L st σ n k w = s_getf 14 2 5 L st σ n k w (zk1 cut G (Z f)) G R T := zrs hZ rfl f L st σ n k w
theorem f_X15_byteAt_5 (hZ : ZRN (ztb (tb_X15_byteAt E d mc ms)) cut G R T Z) (f : Nat) (L : ZLV) (st : List Value) (σ : ZHp) (n k w : Nat) : Z (f + 1) 5 L st σ n k w = s_icmp_ge 17 8 L st σ n k w (zk1 cut G (Z f)) G R T := zrs hZ rfl f L st σ n k w
theorem f_X15_byteAt_8 (hZ : ZRN (ztb (tb_X15_byteAt E d mc ms)) cut G R T Z) (f : Nat) (L : ZLV) (st : List Value) (σ : ZHp) (n k w : Nat) : Z (f + 1) 8 L st σ n k w = s_aload 0 9 L st σ n k w (zk1 cut G (Z f)) G R T := zrs hZ rfl f L st σ n k w
theorem f_X15_byteAt_9 (hZ : ZRN (ztb (tb_X15_byteAt E d mc ms)) cut G R T Z) (f : Nat) (L : ZLV) (st : List Value) (σ : ZHp) (n k w : Nat) : Z (f + 1) 9 L st σ n k w = s_getf 14 1 12 L st σ n k w (zk1 cut G (Z f)) G R T := zrs hZ rfl f L st σ n k w
theorem f_X15_byteAt_12 (hZ : ZRN (ztb (tb_X15_byteAt E d mc ms)) cut G R T Z) (f : Nat) (L : ZLV) (st : List Value) (σ : ZHp) (n k w : Nat) : Z (f + 1) 12 L st σ n k w = s_iload 1 13 L st σ n k w (zk1 cut G (Z f)) G R T := zrs hZ rfl f L st σ n k w
theorem f_X15_byteAt_13 (hZ : ZRN (ztb (tb_X15_byteAt E d mc ms)) cut G R T Z) (f : Nat) (L : ZLV) (st : List Value) (σ : ZHp) (n k w : Nat) : Z (f + 1) 13 L st σ n k w = s_iaload E 14 L st σ n k w (zk1 cut G (Z f)) G R T := zrs hZ rfl f L st σ n k w
theorem f_X15_byteAt_14 (hZ : ZRN (ztb (tb_X15_byteAt E d mc ms)) cut G R T Z) (f : Nat) (L : ZLV) (st : List Value) (σ : ZHp) (n k w : Nat) : Z (f + 1) 14 L st σ n k w = s_goto 18 L st σ n k w (zk1 cut G (Z f)) G R T := zrs hZ rfl f L st σ n k w
theorem f_X15_byteAt_17 (hZ : ZRN (ztb (tb_X15_byteAt E d mc ms)) cut G R T Z) (f : Nat) (L : ZLV) (st : List Value) (σ : ZHp) (n k w : Nat) : Z (f + 1) 17 L st σ n k w = s_const (.int (-1)) 18 L st σ n k w (zk1 cut G (Z f)) G R T := zrs hZ rfl f L st σ n k w
theorem f_X15_byteAt_18 (hZ : ZRN (ztb (tb_X15_byteAt E d mc ms)) cut G R T Z) (f : Nat) (L : ZLV) (st : List Value) (σ : ZHp) (n k w : Nat) : Z (f + 1) 18 L st σ n k w = s_ireturn L st σ n k w (zk1 cut G (Z f)) G R T := zrs hZ rfl f L st σ n k w
theorem f_X15_lengthAt_0 (hZ : ZRN (ztb (tb_X15_lengthAt E d mc ms)) cut G R T Z) (f : Nat) (L : ZLV) (st : List Value) (σ : ZHp) (n k w : Nat) : Z (f + 1) 0 L st σ n k w = s_aload 0 1 L st σ n k w (zk1 cut G (Z f)) G R T := zrs hZ rfl f L st σ n k w
theorem f_X15_lengthAt_1 (hZ : ZRN (ztb (tb_X15_lengthAt E d mc ms)) cut G R T Z) (f : Nat) (L : ZLV) (st : List Value) (σ : ZHp) (n k w : Nat) : Z (f + 1) 1 L st σ n k w = s_iload 1 2 L st σ n k w (zk1 cut G (Z f)) G R T := zrs hZ rfl f L st σ n k w
theorem f_X15_lengthAt_2 (hZ : ZRN (ztb (tb_X15_lengthAt E d mc ms)) cut G R T Z) (f : Nat) (L : ZLV) (st : List Value) (σ : ZHp) (n k w : Nat) : Z (f + 1) 2 L st σ n k w = s_callV E d mc ms 14 MX15_byteAt 1 5 L st σ n k w (zk1 cut G (Z f)) G R T := zrs hZ rfl f L st σ n k w
theorem f_X15_lengthAt_5 (hZ : ZRN (ztb (tb_X15_lengthAt E d mc ms)) cut G R T Z) (f : Nat) (L : ZLV) (st : List Value) (σ : ZHp) (n k w : Nat) : Z (f + 1) 5 L st σ n k w = s_istore 2 6 L st σ n k w (zk1 cut G (Z f)) G R T := zrs hZ rfl f L st σ n k w
theorem f_X15_lengthAt_6 (hZ : ZRN (ztb (tb_X15_lengthAt E d mc ms)) cut G R T Z) (f : Nat) (L : ZLV) (st : List Value) (σ : ZHp) (n k w : Nat) : Z (f + 1) 6 L st σ n k w = s_iload 1 7 L st σ n k w (zk1 cut G (Z f)) G R T := zrs hZ rfl f L st σ n k w
theorem f_X15_lengthAt_7 (hZ : ZRN (ztb (tb_X15_lengthAt E d mc ms)) cut G R T Z) (f : Nat) (L : ZLV) (st : List Value) (σ : ZHp) (n k w : Nat) : Z (f + 1) 7 L st σ n k w = s_const (.int (1)) 8 L st σ n k w (zk1 cut G (Z f)) G R T := zrs hZ rfl f L st σ n k w
theorem f_X15_lengthAt_8 (hZ : ZRN (ztb (tb_X15_lengthAt E d mc ms)) cut G R T Z) (f : Nat) (L : ZLV) (st : List Value) (σ : ZHp) (n k w : Nat) : Z (f + 1) 8 L st σ n k w = s_iadd 9 L st σ n k w (zk1 cut G (Z f)) G R T := zrs hZ rfl f L st σ n k w
theorem f_X15_lengthAt_9 (hZ : ZRN (ztb (tb_X15_lengthAt E d mc ms)) cut G R T Z) (f : Nat) (L : ZLV) (st : List Value) (σ : ZHp) (n k w : Nat) : Z (f + 1) 9 L st σ n k w = s_istore 3 10 L st σ n k w (zk1 cut G (Z f)) G R T := zrs hZ rfl f L st σ n k w
theorem f_X15_lengthAt_10 (hZ : ZRN (ztb (tb_X15_lengthAt E d mc ms)) cut G R T Z) (f : Nat) (L : ZLV) (st : List Value) (σ : ZHp) (n k w : Nat) : Z (f + 1) 10 L st σ n k w = s_iload 2 11 L st σ n k w (zk1 cut G (Z f)) G R T := zrs hZ rfl f L st σ n k w
theorem f_X15_lengthAt_11 (hZ : ZRN (ztb (tb_X15_lengthAt E d mc ms)) cut G R T Z) (f : Nat) (L : ZLV) (st : List Value) (σ : ZHp) (n k w : Nat) : Z (f + 1) 11 L st σ n k w = s_callS E d mc ms MX15_isLetter 1 14 L st σ n k w (zk1 cut G (Z f)) G R T := zrs hZ rfl f L st σ n k w
theorem f_X15_lengthAt_14 (hZ : ZRN (ztb (tb_X15_lengthAt E d mc ms)) cut G R T Z) (f : Nat) (L : ZLV) (st : List Value) (σ : ZHp) (n k w : Nat) : Z (f + 1) 14 L st σ n k w = s_if_ne 24 17 L st σ n k w (zk1 cut G (Z f)) G R T := zrs hZ rfl f L st σ n k w
theorem f_X15_lengthAt_17 (hZ : ZRN (ztb (tb_X15_lengthAt E d mc ms)) cut G R T Z) (f : Nat) (L : ZLV) (st : List Value) (σ : ZHp) (n k w : Nat) : Z (f + 1) 17 L st σ n k w = s_iload 2 18 L st σ n k w (zk1 cut G (Z f)) G R T := zrs hZ rfl f L st σ n k w
theorem f_X15_lengthAt_18 (hZ : ZRN (ztb (tb_X15_lengthAt E d mc ms)) cut G R T Z) (f : Nat) (L : ZLV) (st : List Value) (σ : ZHp) (n k w : Nat) : Z (f + 1) 18 L st σ n k w = s_callS E d mc ms MX15_isDigit 1 21 L st σ n k w (zk1 cut G (Z f)) G R T := zrs hZ rfl f L st σ n k w
theorem f_X15_lengthAt_21 (hZ : ZRN (ztb (tb_X15_lengthAt E d mc ms)) cut G R T Z) (f : Nat) (L : ZLV) (st : List Value) (σ : ZHp) (n k w : Nat) : Z (f + 1) 21 L st σ n k w = s_if_eq 59 24 L st σ n k w (zk1 cut G (Z f)) G R T := zrs hZ rfl f L st σ n k w
theorem f_X15_lengthAt_24 (hZ : ZRN (ztb (tb_X15_lengthAt E d mc ms)) cut G R T Z) (f : Nat) (L : ZLV) (st : List Value) (σ : ZHp) (n k w : Nat) : Z (f + 1) 24 L st σ n k w = s_aload 0 25 L st σ n k w (zk1 cut G (Z f)) G R T := zrs hZ rfl f L st σ n k w
theorem f_X15_lengthAt_25 (hZ : ZRN (ztb (tb_X15_lengthAt E d mc ms)) cut G R T Z) (f : Nat) (L : ZLV) (st : List Value) (σ : ZHp) (n k w : Nat) : Z (f + 1) 25 L st σ n k w = s_iload 3 26 L st σ n k w (zk1 cut G (Z f)) G R T := zrs hZ rfl f L st σ n k w
theorem f_X15_lengthAt_26 (hZ : ZRN (ztb (tb_X15_lengthAt E d mc ms)) cut G R T Z) (f : Nat) (L : ZLV) (st : List Value) (σ : ZHp) (n k w : Nat) : Z (f + 1) 26 L st σ n k w = s_callV E d mc ms 14 MX15_byteAt 1 29 L st σ n k w (zk1 cut G (Z f)) G R T := zrs hZ rfl f L st σ n k w
theorem f_X15_lengthAt_29 (hZ : ZRN (ztb (tb_X15_lengthAt E d mc ms)) cut G R T Z) (f : Nat) (L : ZLV) (st : List Value) (σ : ZHp) (n k w : Nat) : Z (f + 1) 29 L st σ n k w = s_callS E d mc ms MX15_isDigit 1 32 L st σ n k w (zk1 cut G (Z f)) G R T := zrs hZ rfl f L st σ n k w
theorem f_X15_lengthAt_32 (hZ : ZRN (ztb (tb_X15_lengthAt E d mc ms)) cut G R T Z) (f : Nat) (L : ZLV) (st : List Value) (σ : ZHp) (n k w : Nat) : Z (f + 1) 32 L st σ n k w = s_if_ne 53 35 L st σ n k w (zk1 cut G (Z f)) G R T := zrs hZ rfl f L st σ n k w
theorem f_X15_lengthAt_35 (hZ : ZRN (ztb (tb_X15_lengthAt E d mc ms)) cut G R T Z) (f : Nat) (L : ZLV) (st : List Value) (σ : ZHp) (n k w : Nat) : Z (f + 1) 35 L st σ n k w = s_iload 2 36 L st σ n k w (zk1 cut G (Z f)) G R T := zrs hZ rfl f L st σ n k w
theorem f_X15_lengthAt_36 (hZ : ZRN (ztb (tb_X15_lengthAt E d mc ms)) cut G R T Z) (f : Nat) (L : ZLV) (st : List Value) (σ : ZHp) (n k w : Nat) : Z (f + 1) 36 L st σ n k w = s_callS E d mc ms MX15_isLetter 1 39 L st σ n k w (zk1 cut G (Z f)) G R T := zrs hZ rfl f L st σ n k w
theorem f_X15_lengthAt_39 (hZ : ZRN (ztb (tb_X15_lengthAt E d mc ms)) cut G R T Z) (f : Nat) (L : ZLV) (st : List Value) (σ : ZHp) (n k w : Nat) : Z (f + 1) 39 L st σ n k w = s_if_eq 84 42 L st σ n k w (zk1 cut G (Z f)) G R T := zrs hZ rfl f L st σ n k w
theorem f_X15_lengthAt_42 (hZ : ZRN (ztb (tb_X15_lengthAt E d mc ms)) cut G R T Z) (f : Nat) (L : ZLV) (st : List Value) (σ : ZHp) (n k w : Nat) : Z (f + 1) 42 L st σ n k w = s_aload 0 43 L st σ n k w (zk1 cut G (Z f)) G R T := zrs hZ rfl f L st σ n k w
theorem f_X15_lengthAt_43 (hZ : ZRN (ztb (tb_X15_lengthAt E d mc ms)) cut G R T Z) (f : Nat) (L : ZLV) (st : List Value) (σ : ZHp) (n k w : Nat) : Z (f + 1) 43 L st σ n k w = s_iload 3 44 L st σ n k w (zk1 cut G (Z f)) G R T := zrs hZ rfl f L st σ n k w
theorem f_X15_lengthAt_44 (hZ : ZRN (ztb (tb_X15_lengthAt E d mc ms)) cut G R T Z) (f : Nat) (L : ZLV) (st : List Value) (σ : ZHp) (n k w : Nat) : Z (f + 1) 44 L st σ n k w = s_callV E d mc ms 14 MX15_byteAt 1 47 L st σ n k w (zk1 cut G (Z f)) G R T := zrs hZ rfl f L st σ n k w
theorem f_X15_lengthAt_47 (hZ : ZRN (ztb (tb_X15_lengthAt E d mc ms)) cut G R T Z) (f : Nat) (L : ZLV) (st : List Value) (σ : ZHp) (n k w : Nat) : Z (f + 1) 47 L st σ n k w = s_callS E d mc ms MX15_isLetter 1 50 L st σ n k w (zk1 cut G (Z f)) G R T := zrs hZ rfl f L st σ n k w
theorem f_X15_lengthAt_50 (hZ : ZRN (ztb (tb_X15_lengthAt E d mc ms)) cut G R T Z) (f : Nat) (L : ZLV) (st : List Value) (σ : ZHp) (n k w : Nat) : Z (f + 1) 50 L st σ n k w = s_if_eq 84 53 L st σ n k w (zk1 cut G (Z f)) G R T := zrs hZ rfl f L st σ n k w
theorem f_X15_lengthAt_53 (hZ : ZRN (ztb (tb_X15_lengthAt E d mc ms)) cut G R T Z) (f : Nat) (L : ZLV) (st : List Value) (σ : ZHp) (n k w : Nat) : Z (f + 1) 53 L st σ n k w = s_iinc 3 (1) 56 L st σ n k w (zk1 cut G (Z f)) G R T := zrs hZ rfl f L st σ n k w
theorem f_X15_lengthAt_56 (hZ : ZRN (ztb (tb_X15_lengthAt E d mc ms)) cut G R T Z) (f : Nat) (L : ZLV) (st : List Value) (σ : ZHp) (n k w : Nat) : Z (f + 1) 56 L st σ n k w = s_goto 24 L st σ n k w (zk1 cut G (Z f)) G R T := zrs hZ rfl f L st σ n k w
theorem f_X15_lengthAt_59 (hZ : ZRN (ztb (tb_X15_lengthAt E d mc ms)) cut G R T Z) (f : Nat) (L : ZLV) (st : List Value) (σ : ZHp) (n k w : Nat) : Z (f + 1) 59 L st σ n k w = s_iload 2 60 L st σ n k w (zk1 cut G (Z f)) G R T := zrs hZ rfl f L st σ n k w
theorem f_X15_lengthAt_60 (hZ : ZRN (ztb (tb_X15_lengthAt E d mc ms)) cut G R T Z) (f : Nat) (L : ZLV) (st : List Value) (σ : ZHp) (n k w : Nat) : Z (f + 1) 60 L st σ n k w = s_const (.int (60)) 62 L st σ n k w (zk1 cut G (Z f)) G R T := zrs hZ rfl f L st σ n k w
theorem f_X15_lengthAt_62 (hZ : ZRN (ztb (tb_X15_lengthAt E d mc ms)) cut G R T Z) (f : Nat) (L : ZLV) (st : List Value) (σ : ZHp) (n k w : Nat) : Z (f + 1) 62 L st σ n k w = s_icmp_eq 71 65 L st σ n k w (zk1 cut G (Z f)) G R T := zrs hZ rfl f L st σ n k w
theorem f_X15_lengthAt_65 (hZ : ZRN (ztb (tb_X15_lengthAt E d mc ms)) cut G R T Z) (f : Nat) (L : ZLV) (st : List Value) (σ : ZHp) (n k w : Nat) : Z (f + 1) 65 L st σ n k w = s_iload 2 66 L st σ n k w (zk1 cut G (Z f)) G R T := zrs hZ rfl f L st σ n k w
theorem f_X15_lengthAt_66 (hZ : ZRN (ztb (tb_X15_lengthAt E d mc ms)) cut G R T Z) (f : Nat) (L : ZLV) (st : List Value) (σ : ZHp) (n k w : Nat) : Z (f + 1) 66 L st σ n k w = s_const (.int (62)) 68 L st σ n k w (zk1 cut G (Z f)) G R T := zrs hZ rfl f L st σ n k w
theorem f_X15_lengthAt_68 (hZ : ZRN (ztb (tb_X15_lengthAt E d mc ms)) cut G R T Z) (f : Nat) (L : ZLV) (st : List Value) (σ : ZHp) (n k w : Nat) : Z (f + 1) 68 L st σ n k w = s_icmp_ne 84 71 L st σ n k w (zk1 cut G (Z f)) G R T := zrs hZ rfl f L st σ n k w
theorem f_X15_lengthAt_71 (hZ : ZRN (ztb (tb_X15_lengthAt E d mc ms)) cut G R T Z) (f : Nat) (L : ZLV) (st : List Value) (σ : ZHp) (n k w : Nat) : Z (f + 1) 71 L st σ n k w = s_aload 0 72 L st σ n k w (zk1 cut G (Z f)) G R T := zrs hZ rfl f L st σ n k w
theorem f_X15_lengthAt_72 (hZ : ZRN (ztb (tb_X15_lengthAt E d mc ms)) cut G R T Z) (f : Nat) (L : ZLV) (st : List Value) (σ : ZHp) (n k w : Nat) : Z (f + 1) 72 L st σ n k w = s_iload 3 73 L st σ n k w (zk1 cut G (Z f)) G R T := zrs hZ rfl f L st σ n k w
theorem f_X15_lengthAt_73 (hZ : ZRN (ztb (tb_X15_lengthAt E d mc ms)) cut G R T Z) (f : Nat) (L : ZLV) (st : List Value) (σ : ZHp) (n k w : Nat) : Z (f + 1) 73 L st σ n k w = s_callV E d mc ms 14 MX15_byteAt 1 76 L st σ n k w (zk1 cut G (Z f)) G R T := zrs hZ rfl f L st σ n k w
theorem f_X15_lengthAt_76 (hZ : ZRN (ztb (tb_X15_lengthAt E d mc ms)) cut G R T Z) (f : Nat) (L : ZLV) (st : List Value) (σ : ZHp) (n k w : Nat) : Z (f + 1) 76 L st σ n k w = s_const (.int (61)) 78 L st σ n k w (zk1 cut G (Z f)) G R T := zrs hZ rfl f L st σ n k w
theorem f_X15_lengthAt_78 (hZ : ZRN (ztb (tb_X15_lengthAt E d mc ms)) cut G R T Z) (f : Nat) (L : ZLV) (st : List Value) (σ : ZHp) (n k w : Nat) : Z (f + 1) 78 L st σ n k w = s_icmp_ne 84 81 L st σ n k w (zk1 cut G (Z f)) G R T := zrs hZ rfl f L st σ n k w
theorem f_X15_lengthAt_81 (hZ : ZRN (ztb (tb_X15_lengthAt E d mc ms)) cut G R T Z) (f : Nat) (L : ZLV) (st : List Value) (σ : ZHp) (n k w : Nat) : Z (f + 1) 81 L st σ n k w = s_iinc 3 (1) 84 L st σ n k w (zk1 cut G (Z f)) G R T := zrs hZ rfl f L st σ n k w
theorem f_X15_lengthAt_84 (hZ : ZRN (ztb (tb_X15_lengthAt E d mc ms)) cut G R T Z) (f : Nat) (L : ZLV) (st : List Value) (σ : ZHp) (n k w : Nat) : Z (f + 1) 84 L st σ n k w = s_iload 3 85 L st σ n k w (zk1 cut G (Z f)) G R T := zrs hZ rfl f L st σ n k w
theorem f_X15_lengthAt_85 (hZ : ZRN (ztb (tb_X15_lengthAt E d mc ms)) cut G R T Z) (f : Nat) (L : ZLV) (st : List Value) (σ : ZHp) (n k w : Nat) : Z (f + 1) 85 L st σ n k w = s_iload 1 86 L st σ n k w (zk1 cut G (Z f)) G R T := zrs hZ rfl f L st σ n k w
theorem f_X15_lengthAt_86 (hZ : ZRN (ztb (tb_X15_lengthAt E d mc ms)) cut G R T Z) (f : Nat) (L : ZLV) (st : List Value) (σ : ZHp) (n k w : Nat) : Z (f + 1) 86 L st σ n k w = s_isub 87 L st σ n k w (zk1 cut G (Z f)) G R T := zrs hZ rfl f L st σ n k w
theorem f_X15_lengthAt_87 (hZ : ZRN (ztb (tb_X15_lengthAt E d mc ms)) cut G R T Z) (f : Nat) (L : ZLV) (st : List Value) (σ : ZHp) (n k w : Nat) : Z (f + 1) 87 L st σ n k w = s_ireturn L st σ n k w (zk1 cut G (Z f)) G R T := zrs hZ rfl f L st σ n k w
theorem f_X15_kindAt_0 (hZ : ZRN (ztb (tb_X15_kindAt E d mc ms)) cut G R T Z) (f : Nat) (L : ZLV) (st : List Value) (σ : ZHp) (n k w : Nat) : Z (f + 1) 0 L st σ n k w = s_aload 0 1 L st σ n k w (zk1 cut G (Z f)) G R T := zrs hZ rfl f L st σ n k w
theorem f_X15_kindAt_1 (hZ : ZRN (ztb (tb_X15_kindAt E d mc ms)) cut G R T Z) (f : Nat) (L : ZLV) (st : List Value) (σ : ZHp) (n k w : Nat) : Z (f + 1) 1 L st σ n k w = s_iload 1 2 L st σ n k w (zk1 cut G (Z f)) G R T := zrs hZ rfl f L st σ n k w
theorem f_X15_kindAt_2 (hZ : ZRN (ztb (tb_X15_kindAt E d mc ms)) cut G R T Z) (f : Nat) (L : ZLV) (st : List Value) (σ : ZHp) (n k w : Nat) : Z (f + 1) 2 L st σ n k w = s_callV E d mc ms 14 MX15_byteAt 1 5 L st σ n k w (zk1 cut G (Z f)) G R T := zrs hZ rfl f L st σ n k w
theorem f_X15_kindAt_5 (hZ : ZRN (ztb (tb_X15_kindAt E d mc ms)) cut G R T Z) (f : Nat) (L : ZLV) (st : List Value) (σ : ZHp) (n k w : Nat) : Z (f + 1) 5 L st σ n k w = s_istore 3 6 L st σ n k w (zk1 cut G (Z f)) G R T := zrs hZ rfl f L st σ n k w
theorem f_X15_kindAt_6 (hZ : ZRN (ztb (tb_X15_kindAt E d mc ms)) cut G R T Z) (f : Nat) (L : ZLV) (st : List Value) (σ : ZHp) (n k w : Nat) : Z (f + 1) 6 L st σ n k w = s_iload 3 7 L st σ n k w (zk1 cut G (Z f)) G R T := zrs hZ rfl f L st σ n k w
theorem f_X15_kindAt_7 (hZ : ZRN (ztb (tb_X15_kindAt E d mc ms)) cut G R T Z) (f : Nat) (L : ZLV) (st : List Value) (σ : ZHp) (n k w : Nat) : Z (f + 1) 7 L st σ n k w = s_const (.int (-1)) 8 L st σ n k w (zk1 cut G (Z f)) G R T := zrs hZ rfl f L st σ n k w
theorem f_X15_kindAt_8 (hZ : ZRN (ztb (tb_X15_kindAt E d mc ms)) cut G R T Z) (f : Nat) (L : ZLV) (st : List Value) (σ : ZHp) (n k w : Nat) : Z (f + 1) 8 L st σ n k w = s_icmp_ne 14 11 L st σ n k w (zk1 cut G (Z f)) G R T := zrs hZ rfl f L st σ n k w
theorem f_X15_kindAt_11 (hZ : ZRN (ztb (tb_X15_kindAt E d mc ms)) cut G R T Z) (f : Nat) (L : ZLV) (st : List Value) (σ : ZHp) (n k w : Nat) : Z (f + 1) 11 L st σ n k w = s_const (.int (70)) 13 L st σ n k w (zk1 cut G (Z f)) G R T := zrs hZ rfl f L st σ n k w
theorem f_X15_kindAt_13 (hZ : ZRN (ztb (tb_X15_kindAt E d mc ms)) cut G R T Z) (f : Nat) (L : ZLV) (st : List Value) (σ : ZHp) (n k w : Nat) : Z (f + 1) 13 L st σ n k w = s_ireturn L st σ n k w (zk1 cut G (Z f)) G R T := zrs hZ rfl f L st σ n k w
theorem f_X15_kindAt_14 (hZ : ZRN (ztb (tb_X15_kindAt E d mc ms)) cut G R T Z) (f : Nat) (L : ZLV) (st : List Value) (σ : ZHp) (n k w : Nat) : Z (f + 1) 14 L st σ n k w = s_iload 3 15 L st σ n k w (zk1 cut G (Z f)) G R T := zrs hZ rfl f L st σ n k w
theorem f_X15_kindAt_15 (hZ : ZRN (ztb (tb_X15_kindAt E d mc ms)) cut G R T Z) (f : Nat) (L : ZLV) (st : List Value) (σ : ZHp) (n k w : Nat) : Z (f + 1) 15 L st σ n k w = s_callS E d mc ms MX15_isDigit 1 18 L st σ n k w (zk1 cut G (Z f)) G R T := zrs hZ rfl f L st σ n k w
theorem f_X15_kindAt_18 (hZ : ZRN (ztb (tb_X15_kindAt E d mc ms)) cut G R T Z) (f : Nat) (L : ZLV) (st : List Value) (σ : ZHp) (n k w : Nat) : Z (f + 1) 18 L st σ n k w = s_if_eq 35 21 L st σ n k w (zk1 cut G (Z f)) G R T := zrs hZ rfl f L st σ n k w
theorem f_X15_kindAt_21 (hZ : ZRN (ztb (tb_X15_kindAt E d mc ms)) cut G R T Z) (f : Nat) (L : ZLV) (st : List Value) (σ : ZHp) (n k w : Nat) : Z (f + 1) 21 L st σ n k w = s_iload 2 22 L st σ n k w (zk1 cut G (Z f)) G R T := zrs hZ rfl f L st σ n k w
theorem f_X15_kindAt_22 (hZ : ZRN (ztb (tb_X15_kindAt E d mc ms)) cut G R T Z) (f : Nat) (L : ZLV) (st : List Value) (σ : ZHp) (n k w : Nat) : Z (f + 1) 22 L st σ n k w = s_const (.int (6)) 24 L st σ n k w (zk1 cut G (Z f)) G R T := zrs hZ rfl f L st σ n k w
theorem f_X15_kindAt_24 (hZ : ZRN (ztb (tb_X15_kindAt E d mc ms)) cut G R T Z) (f : Nat) (L : ZLV) (st : List Value) (σ : ZHp) (n k w : Nat) : Z (f + 1) 24 L st σ n k w = s_icmp_le 32 27 L st σ n k w (zk1 cut G (Z f)) G R T := zrs hZ rfl f L st σ n k w
theorem f_X15_kindAt_27 (hZ : ZRN (ztb (tb_X15_kindAt E d mc ms)) cut G R T Z) (f : Nat) (L : ZLV) (st : List Value) (σ : ZHp) (n k w : Nat) : Z (f + 1) 27 L st σ n k w = s_const (.int (71)) 29 L st σ n k w (zk1 cut G (Z f)) G R T := zrs hZ rfl f L st σ n k w
theorem f_X15_kindAt_29 (hZ : ZRN (ztb (tb_X15_kindAt E d mc ms)) cut G R T Z) (f : Nat) (L : ZLV) (st : List Value) (σ : ZHp) (n k w : Nat) : Z (f + 1) 29 L st σ n k w = s_goto 34 L st σ n k w (zk1 cut G (Z f)) G R T := zrs hZ rfl f L st σ n k w
theorem f_X15_kindAt_32 (hZ : ZRN (ztb (tb_X15_kindAt E d mc ms)) cut G R T Z) (f : Nat) (L : ZLV) (st : List Value) (σ : ZHp) (n k w : Nat) : Z (f + 1) 32 L st σ n k w = s_const (.int (31)) 34 L st σ n k w (zk1 cut G (Z f)) G R T := zrs hZ rfl f L st σ n k w
theorem f_X15_kindAt_34 (hZ : ZRN (ztb (tb_X15_kindAt E d mc ms)) cut G R T Z) (f : Nat) (L : ZLV) (st : List Value) (σ : ZHp) (n k w : Nat) : Z (f + 1) 34 L st σ n k w = s_ireturn L st σ n k w (zk1 cut G (Z f)) G R T := zrs hZ rfl f L st σ n k w
theorem f_X15_kindAt_35 (hZ : ZRN (ztb (tb_X15_kindAt E d mc ms)) cut G R T Z) (f : Nat) (L : ZLV) (st : List Value) (σ : ZHp) (n k w : Nat) : Z (f + 1) 35 L st σ n k w = s_iload 3 36 L st σ n k w (zk1 cut G (Z f)) G R T := zrs hZ rfl f L st σ n k w
theorem f_X15_kindAt_36 (hZ : ZRN (ztb (tb_X15_kindAt E d mc ms)) cut G R T Z) (f : Nat) (L : ZLV) (st : List Value) (σ : ZHp) (n k w : Nat) : Z (f + 1) 36 L st σ n k w = s_callS E d mc ms MX15_isLetter 1 39 L st σ n k w (zk1 cut G (Z f)) G R T := zrs hZ rfl f L st σ n k w
theorem f_X15_kindAt_39 (hZ : ZRN (ztb (tb_X15_kindAt E d mc ms)) cut G R T Z) (f : Nat) (L : ZLV) (st : List Value) (σ : ZHp) (n k w : Nat) : Z (f + 1) 39 L st σ n k w = s_if_eq 60 42 L st σ n k w (zk1 cut G (Z f)) G R T := zrs hZ rfl f L st σ n k w
theorem f_X15_kindAt_42 (hZ : ZRN (ztb (tb_X15_kindAt E d mc ms)) cut G R T Z) (f : Nat) (L : ZLV) (st : List Value) (σ : ZHp) (n k w : Nat) : Z (f + 1) 42 L st σ n k w = s_iload 2 43 L st σ n k w (zk1 cut G (Z f)) G R T := zrs hZ rfl f L st σ n k w
theorem f_X15_kindAt_43 (hZ : ZRN (ztb (tb_X15_kindAt E d mc ms)) cut G R T Z) (f : Nat) (L : ZLV) (st : List Value) (σ : ZHp) (n k w : Nat) : Z (f + 1) 43 L st σ n k w = s_const (.int (10)) 45 L st σ n k w (zk1 cut G (Z f)) G R T := zrs hZ rfl f L st σ n k w
theorem f_X15_kindAt_45 (hZ : ZRN (ztb (tb_X15_kindAt E d mc ms)) cut G R T Z) (f : Nat) (L : ZLV) (st : List Value) (σ : ZHp) (n k w : Nat) : Z (f + 1) 45 L st σ n k w = s_icmp_le 53 48 L st σ n k w (zk1 cut G (Z f)) G R T := zrs hZ rfl f L st σ n k w
theorem f_X15_kindAt_48 (hZ : ZRN (ztb (tb_X15_kindAt E d mc ms)) cut G R T Z) (f : Nat) (L : ZLV) (st : List Value) (σ : ZHp) (n k w : Nat) : Z (f + 1) 48 L st σ n k w = s_const (.int (71)) 50 L st σ n k w (zk1 cut G (Z f)) G R T := zrs hZ rfl f L st σ n k w
theorem f_X15_kindAt_50 (hZ : ZRN (ztb (tb_X15_kindAt E d mc ms)) cut G R T Z) (f : Nat) (L : ZLV) (st : List Value) (σ : ZHp) (n k w : Nat) : Z (f + 1) 50 L st σ n k w = s_goto 59 L st σ n k w (zk1 cut G (Z f)) G R T := zrs hZ rfl f L st σ n k w
theorem f_X15_kindAt_53 (hZ : ZRN (ztb (tb_X15_kindAt E d mc ms)) cut G R T Z) (f : Nat) (L : ZLV) (st : List Value) (σ : ZHp) (n k w : Nat) : Z (f + 1) 53 L st σ n k w = s_aload 0 54 L st σ n k w (zk1 cut G (Z f)) G R T := zrs hZ rfl f L st σ n k w
theorem f_X15_kindAt_54 (hZ : ZRN (ztb (tb_X15_kindAt E d mc ms)) cut G R T Z) (f : Nat) (L : ZLV) (st : List Value) (σ : ZHp) (n k w : Nat) : Z (f + 1) 54 L st σ n k w = s_iload 1 55 L st σ n k w (zk1 cut G (Z f)) G R T := zrs hZ rfl f L st σ n k w
theorem f_X15_kindAt_55 (hZ : ZRN (ztb (tb_X15_kindAt E d mc ms)) cut G R T Z) (f : Nat) (L : ZLV) (st : List Value) (σ : ZHp) (n k w : Nat) : Z (f + 1) 55 L st σ n k w = s_iload 2 56 L st σ n k w (zk1 cut G (Z f)) G R T := zrs hZ rfl f L st σ n k w
theorem f_X15_kindAt_56 (hZ : ZRN (ztb (tb_X15_kindAt E d mc ms)) cut G R T Z) (f : Nat) (L : ZLV) (st : List Value) (σ : ZHp) (n k w : Nat) : Z (f + 1) 56 L st σ n k w = s_callV E d mc ms 14 MX15_wordAt 2 59 L st σ n k w (zk1 cut G (Z f)) G R T := zrs hZ rfl f L st σ n k w
theorem f_X15_kindAt_59 (hZ : ZRN (ztb (tb_X15_kindAt E d mc ms)) cut G R T Z) (f : Nat) (L : ZLV) (st : List Value) (σ : ZHp) (n k w : Nat) : Z (f + 1) 59 L st σ n k w = s_ireturn L st σ n k w (zk1 cut G (Z f)) G R T := zrs hZ rfl f L st σ n k w
theorem f_X15_kindAt_60 (hZ : ZRN (ztb (tb_X15_kindAt E d mc ms)) cut G R T Z) (f : Nat) (L : ZLV) (st : List Value) (σ : ZHp) (n k w : Nat) : Z (f + 1) 60 L st σ n k w = s_iload 2 61 L st σ n k w (zk1 cut G (Z f)) G R T := zrs hZ rfl f L st σ n k w
theorem f_X15_kindAt_61 (hZ : ZRN (ztb (tb_X15_kindAt E d mc ms)) cut G R T Z) (f : Nat) (L : ZLV) (st : List Value) (σ : ZHp) (n k w : Nat) : Z (f + 1) 61 L st σ n k w = s_const (.int (2)) 62 L st σ n k w (zk1 cut G (Z f)) G R T := zrs hZ rfl f L st σ n k w
theorem f_X15_kindAt_62 (hZ : ZRN (ztb (tb_X15_kindAt E d mc ms)) cut G R T Z) (f : Nat) (L : ZLV) (st : List Value) (σ : ZHp) (n k w : Nat) : Z (f + 1) 62 L st σ n k w = s_icmp_ne 79 65 L st σ n k w (zk1 cut G (Z f)) G R T := zrs hZ rfl f L st σ n k w
theorem f_X15_kindAt_65 (hZ : ZRN (ztb (tb_X15_kindAt E d mc ms)) cut G R T Z) (f : Nat) (L : ZLV) (st : List Value) (σ : ZHp) (n k w : Nat) : Z (f + 1) 65 L st σ n k w = s_iload 3 66 L st σ n k w (zk1 cut G (Z f)) G R T := zrs hZ rfl f L st σ n k w
theorem f_X15_kindAt_66 (hZ : ZRN (ztb (tb_X15_kindAt E d mc ms)) cut G R T Z) (f : Nat) (L : ZLV) (st : List Value) (σ : ZHp) (n k w : Nat) : Z (f + 1) 66 L st σ n k w = s_const (.int (60)) 68 L st σ n k w (zk1 cut G (Z f)) G R T := zrs hZ rfl f L st σ n k w
theorem f_X15_kindAt_68 (hZ : ZRN (ztb (tb_X15_kindAt E d mc ms)) cut G R T Z) (f : Nat) (L : ZLV) (st : List Value) (σ : ZHp) (n k w : Nat) : Z (f + 1) 68 L st σ n k w = s_icmp_ne 76 71 L st σ n k w (zk1 cut G (Z f)) G R T := zrs hZ rfl f L st σ n k w
theorem f_X15_kindAt_71 (hZ : ZRN (ztb (tb_X15_kindAt E d mc ms)) cut G R T Z) (f : Nat) (L : ZLV) (st : List Value) (σ : ZHp) (n k w : Nat) : Z (f + 1) 71 L st σ n k w = s_const (.int (53)) 73 L st σ n k w (zk1 cut G (Z f)) G R T := zrs hZ rfl f L st σ n k w
theorem f_X15_kindAt_73 (hZ : ZRN (ztb (tb_X15_kindAt E d mc ms)) cut G R T Z) (f : Nat) (L : ZLV) (st : List Value) (σ : ZHp) (n k w : Nat) : Z (f + 1) 73 L st σ n k w = s_goto 78 L st σ n k w (zk1 cut G (Z f)) G R T := zrs hZ rfl f L st σ n k w
theorem f_X15_kindAt_76 (hZ : ZRN (ztb (tb_X15_kindAt E d mc ms)) cut G R T Z) (f : Nat) (L : ZLV) (st : List Value) (σ : ZHp) (n k w : Nat) : Z (f + 1) 76 L st σ n k w = s_const (.int (54)) 78 L st σ n k w (zk1 cut G (Z f)) G R T := zrs hZ rfl f L st σ n k w
theorem f_X15_kindAt_78 (hZ : ZRN (ztb (tb_X15_kindAt E d mc ms)) cut G R T Z) (f : Nat) (L : ZLV) (st : List Value) (σ : ZHp) (n k w : Nat) : Z (f + 1) 78 L st σ n k w = s_ireturn L st σ n k w (zk1 cut G (Z f)) G R T := zrs hZ rfl f L st σ n k w
theorem f_X15_kindAt_79 (hZ : ZRN (ztb (tb_X15_kindAt E d mc ms)) cut G R T Z) (f : Nat) (L : ZLV) (st : List Value) (σ : ZHp) (n k w : Nat) : Z (f + 1) 79 L st σ n k w = s_const (.ref (zeK E 122)) 81 L st σ n k w (zk1 cut G (Z f)) G R T := zrs hZ rfl f L st σ n k w
theorem f_X15_kindAt_81 (hZ : ZRN (ztb (tb_X15_kindAt E d mc ms)) cut G R T Z) (f : Nat) (L : ZLV) (st : List Value) (σ : ZHp) (n k w : Nat) : Z (f + 1) 81 L st σ n k w = s_iload 3 82 L st σ n k w (zk1 cut G (Z f)) G R T := zrs hZ rfl f L st σ n k w
theorem f_X15_kindAt_82 (hZ : ZRN (ztb (tb_X15_kindAt E d mc ms)) cut G R T Z) (f : Nat) (L : ZLV) (st : List Value) (σ : ZHp) (n k w : Nat) : Z (f + 1) 82 L st σ n k w = s_callK E d mc ms 50 123 MJ0_indexOf_0f7a4 1 85 L st σ n k w (zk1 cut G (Z f)) G R T := zrs hZ rfl f L st σ n k w
theorem f_X15_kindAt_85 (hZ : ZRN (ztb (tb_X15_kindAt E d mc ms)) cut G R T Z) (f : Nat) (L : ZLV) (st : List Value) (σ : ZHp) (n k w : Nat) : Z (f + 1) 85 L st σ n k w = s_istore 4 87 L st σ n k w (zk1 cut G (Z f)) G R T := zrs hZ rfl f L st σ n k w
theorem f_X15_kindAt_87 (hZ : ZRN (ztb (tb_X15_kindAt E d mc ms)) cut G R T Z) (f : Nat) (L : ZLV) (st : List Value) (σ : ZHp) (n k w : Nat) : Z (f + 1) 87 L st σ n k w = s_iload 4 89 L st σ n k w (zk1 cut G (Z f)) G R T := zrs hZ rfl f L st σ n k w
theorem f_X15_kindAt_89 (hZ : ZRN (ztb (tb_X15_kindAt E d mc ms)) cut G R T Z) (f : Nat) (L : ZLV) (st : List Value) (σ : ZHp) (n k w : Nat) : Z (f + 1) 89 L st σ n k w = s_if_ge 97 92 L st σ n k w (zk1 cut G (Z f)) G R T := zrs hZ rfl f L st σ n k w
theorem f_X15_kindAt_92 (hZ : ZRN (ztb (tb_X15_kindAt E d mc ms)) cut G R T Z) (f : Nat) (L : ZLV) (st : List Value) (σ : ZHp) (n k w : Nat) : Z (f + 1) 92 L st σ n k w = s_const (.int (71)) 94 L st σ n k w (zk1 cut G (Z f)) G R T := zrs hZ rfl f L st σ n k w
theorem f_X15_kindAt_94 (hZ : ZRN (ztb (tb_X15_kindAt E d mc ms)) cut G R T Z) (f : Nat) (L : ZLV) (st : List Value) (σ : ZHp) (n k w : Nat) : Z (f + 1) 94 L st σ n k w = s_goto 102 L st σ n k w (zk1 cut G (Z f)) G R T := zrs hZ rfl f L st σ n k w
theorem f_X15_kindAt_97 (hZ : ZRN (ztb (tb_X15_kindAt E d mc ms)) cut G R T Z) (f : Nat) (L : ZLV) (st : List Value) (σ : ZHp) (n k w : Nat) : Z (f + 1) 97 L st σ n k w = s_const (.int (40)) 99 L st σ n k w (zk1 cut G (Z f)) G R T := zrs hZ rfl f L st σ n k w
theorem f_X15_kindAt_99 (hZ : ZRN (ztb (tb_X15_kindAt E d mc ms)) cut G R T Z) (f : Nat) (L : ZLV) (st : List Value) (σ : ZHp) (n k w : Nat) : Z (f + 1) 99 L st σ n k w = s_iload 4 101 L st σ n k w (zk1 cut G (Z f)) G R T := zrs hZ rfl f L st σ n k w
theorem f_X15_kindAt_101 (hZ : ZRN (ztb (tb_X15_kindAt E d mc ms)) cut G R T Z) (f : Nat) (L : ZLV) (st : List Value) (σ : ZHp) (n k w : Nat) : Z (f + 1) 101 L st σ n k w = s_iadd 102 L st σ n k w (zk1 cut G (Z f)) G R T := zrs hZ rfl f L st σ n k w
theorem f_X15_kindAt_102 (hZ : ZRN (ztb (tb_X15_kindAt E d mc ms)) cut G R T Z) (f : Nat) (L : ZLV) (st : List Value) (σ : ZHp) (n k w : Nat) : Z (f + 1) 102 L st σ n k w = s_ireturn L st σ n k w (zk1 cut G (Z f)) G R T := zrs hZ rfl f L st σ n k w
theorem f_X15_wordAt_0 (hZ : ZRN (ztb (tb_X15_wordAt E d mc ms)) cut G R T Z) (f : Nat) (L : ZLV) (st : List Value) (σ : ZHp) (n k w : Nat) : Z (f + 1) 0 L st σ n k w = s_const (.int (0)) 1 L st σ n k w (zk1 cut G (Z f)) G R T := zrs hZ rfl f L st σ n k w
theorem f_X15_wordAt_1 (hZ : ZRN (ztb (tb_X15_wordAt E d mc ms)) cut G R T Z) (f : Nat) (L : ZLV) (st : List Value) (σ : ZHp) (n k w : Nat) : Z (f + 1) 1 L st σ n k w = s_istore 3 2 L st σ n k w (zk1 cut G (Z f)) G R T := zrs hZ rfl f L st σ n k w
theorem f_X15_wordAt_2 (hZ : ZRN (ztb (tb_X15_wordAt E d mc ms)) cut G R T Z) (f : Nat) (L : ZLV) (st : List Value) (σ : ZHp) (n k w : Nat) : Z (f + 1) 2 L st σ n k w = s_iload 3 3 L st σ n k w (zk1 cut G (Z f)) G R T := zrs hZ rfl f L st σ n k w
theorem f_X15_wordAt_3 (hZ : ZRN (ztb (tb_X15_wordAt E d mc ms)) cut G R T Z) (f : Nat) (L : ZLV) (st : List Value) (σ : ZHp) (n k w : Nat) : Z (f + 1) 3 L st σ n k w = s_const (.ref (zeK E 48)) 6 L st σ n k w (zk1 cut G (Z f)) G R T := zrs hZ rfl f L st σ n k w
theorem f_X15_wordAt_6 (hZ : ZRN (ztb (tb_X15_wordAt E d mc ms)) cut G R T Z) (f : Nat) (L : ZLV) (st : List Value) (σ : ZHp) (n k w : Nat) : Z (f + 1) 6 L st σ n k w = s_alenK E 48 26 7 L st σ n k w (zk1 cut G (Z f)) G R T := zrs hZ rfl f L st σ n k w
theorem f_X15_wordAt_7 (hZ : ZRN (ztb (tb_X15_wordAt E d mc ms)) cut G R T Z) (f : Nat) (L : ZLV) (st : List Value) (σ : ZHp) (n k w : Nat) : Z (f + 1) 7 L st σ n k w = s_icmp_ge 87 10 L st σ n k w (zk1 cut G (Z f)) G R T := zrs hZ rfl f L st σ n k w
theorem f_X15_wordAt_10 (hZ : ZRN (ztb (tb_X15_wordAt E d mc ms)) cut G R T Z) (f : Nat) (L : ZLV) (st : List Value) (σ : ZHp) (n k w : Nat) : Z (f + 1) 10 L st σ n k w = s_const (.int (0)) 11 L st σ n k w (zk1 cut G (Z f)) G R T := zrs hZ rfl f L st σ n k w
theorem f_X15_wordAt_11 (hZ : ZRN (ztb (tb_X15_wordAt E d mc ms)) cut G R T Z) (f : Nat) (L : ZLV) (st : List Value) (σ : ZHp) (n k w : Nat) : Z (f + 1) 11 L st σ n k w = s_istore 4 13 L st σ n k w (zk1 cut G (Z f)) G R T := zrs hZ rfl f L st σ n k w
theorem f_X15_wordAt_13 (hZ : ZRN (ztb (tb_X15_wordAt E d mc ms)) cut G R T Z) (f : Nat) (L : ZLV) (st : List Value) (σ : ZHp) (n k w : Nat) : Z (f + 1) 13 L st σ n k w = s_iload 4 15 L st σ n k w (zk1 cut G (Z f)) G R T := zrs hZ rfl f L st σ n k w
theorem f_X15_wordAt_15 (hZ : ZRN (ztb (tb_X15_wordAt E d mc ms)) cut G R T Z) (f : Nat) (L : ZLV) (st : List Value) (σ : ZHp) (n k w : Nat) : Z (f + 1) 15 L st σ n k w = s_iload 2 16 L st σ n k w (zk1 cut G (Z f)) G R T := zrs hZ rfl f L st σ n k w
theorem f_X15_wordAt_16 (hZ : ZRN (ztb (tb_X15_wordAt E d mc ms)) cut G R T Z) (f : Nat) (L : ZLV) (st : List Value) (σ : ZHp) (n k w : Nat) : Z (f + 1) 16 L st σ n k w = s_icmp_ge 60 19 L st σ n k w (zk1 cut G (Z f)) G R T := zrs hZ rfl f L st σ n k w
theorem f_X15_wordAt_19 (hZ : ZRN (ztb (tb_X15_wordAt E d mc ms)) cut G R T Z) (f : Nat) (L : ZLV) (st : List Value) (σ : ZHp) (n k w : Nat) : Z (f + 1) 19 L st σ n k w = s_iload 4 21 L st σ n k w (zk1 cut G (Z f)) G R T := zrs hZ rfl f L st σ n k w
theorem f_X15_wordAt_21 (hZ : ZRN (ztb (tb_X15_wordAt E d mc ms)) cut G R T Z) (f : Nat) (L : ZLV) (st : List Value) (σ : ZHp) (n k w : Nat) : Z (f + 1) 21 L st σ n k w = s_const (.ref (zeK E 48)) 24 L st σ n k w (zk1 cut G (Z f)) G R T := zrs hZ rfl f L st σ n k w
theorem f_X15_wordAt_24 (hZ : ZRN (ztb (tb_X15_wordAt E d mc ms)) cut G R T Z) (f : Nat) (L : ZLV) (st : List Value) (σ : ZHp) (n k w : Nat) : Z (f + 1) 24 L st σ n k w = s_iload 3 25 L st σ n k w (zk1 cut G (Z f)) G R T := zrs hZ rfl f L st σ n k w
theorem f_X15_wordAt_25 (hZ : ZRN (ztb (tb_X15_wordAt E d mc ms)) cut G R T Z) (f : Nat) (L : ZLV) (st : List Value) (σ : ZHp) (n k w : Nat) : Z (f + 1) 25 L st σ n k w = s_aaldK E 48 26 (fun j => 96 + j) 26 L st σ n k w (zk1 cut G (Z f)) G R T := zrs hZ rfl f L st σ n k w
theorem f_X15_wordAt_26 (hZ : ZRN (ztb (tb_X15_wordAt E d mc ms)) cut G R T Z) (f : Nat) (L : ZLV) (st : List Value) (σ : ZHp) (n k w : Nat) : Z (f + 1) 26 L st σ n k w = s_callK E d mc ms 50 123 MJ0_length_8abf5 0 29 L st σ n k w (zk1 cut G (Z f)) G R T := zrs hZ rfl f L st σ n k w
theorem f_X15_wordAt_29 (hZ : ZRN (ztb (tb_X15_wordAt E d mc ms)) cut G R T Z) (f : Nat) (L : ZLV) (st : List Value) (σ : ZHp) (n k w : Nat) : Z (f + 1) 29 L st σ n k w = s_icmp_ge 60 32 L st σ n k w (zk1 cut G (Z f)) G R T := zrs hZ rfl f L st σ n k w
theorem f_X15_wordAt_32 (hZ : ZRN (ztb (tb_X15_wordAt E d mc ms)) cut G R T Z) (f : Nat) (L : ZLV) (st : List Value) (σ : ZHp) (n k w : Nat) : Z (f + 1) 32 L st σ n k w = s_const (.ref (zeK E 48)) 35 L st σ n k w (zk1 cut G (Z f)) G R T := zrs hZ rfl f L st σ n k w
theorem f_X15_wordAt_35 (hZ : ZRN (ztb (tb_X15_wordAt E d mc ms)) cut G R T Z) (f : Nat) (L : ZLV) (st : List Value) (σ : ZHp) (n k w : Nat) : Z (f + 1) 35 L st σ n k w = s_iload 3 36 L st σ n k w (zk1 cut G (Z f)) G R T := zrs hZ rfl f L st σ n k w
theorem f_X15_wordAt_36 (hZ : ZRN (ztb (tb_X15_wordAt E d mc ms)) cut G R T Z) (f : Nat) (L : ZLV) (st : List Value) (σ : ZHp) (n k w : Nat) : Z (f + 1) 36 L st σ n k w = s_aaldK E 48 26 (fun j => 96 + j) 37 L st σ n k w (zk1 cut G (Z f)) G R T := zrs hZ rfl f L st σ n k w
theorem f_X15_wordAt_37 (hZ : ZRN (ztb (tb_X15_wordAt E d mc ms)) cut G R T Z) (f : Nat) (L : ZLV) (st : List Value) (σ : ZHp) (n k w : Nat) : Z (f + 1) 37 L st σ n k w = s_iload 4 39 L st σ n k w (zk1 cut G (Z f)) G R T := zrs hZ rfl f L st σ n k w
theorem f_X15_wordAt_39 (hZ : ZRN (ztb (tb_X15_wordAt E d mc ms)) cut G R T Z) (f : Nat) (L : ZLV) (st : List Value) (σ : ZHp) (n k w : Nat) : Z (f + 1) 39 L st σ n k w = s_callK E d mc ms 50 123 MJ0_charAt_5068e 1 42 L st σ n k w (zk1 cut G (Z f)) G R T := zrs hZ rfl f L st σ n k w
theorem f_X15_wordAt_42 (hZ : ZRN (ztb (tb_X15_wordAt E d mc ms)) cut G R T Z) (f : Nat) (L : ZLV) (st : List Value) (σ : ZHp) (n k w : Nat) : Z (f + 1) 42 L st σ n k w = s_aload 0 43 L st σ n k w (zk1 cut G (Z f)) G R T := zrs hZ rfl f L st σ n k w
theorem f_X15_wordAt_43 (hZ : ZRN (ztb (tb_X15_wordAt E d mc ms)) cut G R T Z) (f : Nat) (L : ZLV) (st : List Value) (σ : ZHp) (n k w : Nat) : Z (f + 1) 43 L st σ n k w = s_getf 14 1 46 L st σ n k w (zk1 cut G (Z f)) G R T := zrs hZ rfl f L st σ n k w
theorem f_X15_wordAt_46 (hZ : ZRN (ztb (tb_X15_wordAt E d mc ms)) cut G R T Z) (f : Nat) (L : ZLV) (st : List Value) (σ : ZHp) (n k w : Nat) : Z (f + 1) 46 L st σ n k w = s_iload 1 47 L st σ n k w (zk1 cut G (Z f)) G R T := zrs hZ rfl f L st σ n k w
theorem f_X15_wordAt_47 (hZ : ZRN (ztb (tb_X15_wordAt E d mc ms)) cut G R T Z) (f : Nat) (L : ZLV) (st : List Value) (σ : ZHp) (n k w : Nat) : Z (f + 1) 47 L st σ n k w = s_iload 4 49 L st σ n k w (zk1 cut G (Z f)) G R T := zrs hZ rfl f L st σ n k w
theorem f_X15_wordAt_49 (hZ : ZRN (ztb (tb_X15_wordAt E d mc ms)) cut G R T Z) (f : Nat) (L : ZLV) (st : List Value) (σ : ZHp) (n k w : Nat) : Z (f + 1) 49 L st σ n k w = s_iadd 50 L st σ n k w (zk1 cut G (Z f)) G R T := zrs hZ rfl f L st σ n k w
theorem f_X15_wordAt_50 (hZ : ZRN (ztb (tb_X15_wordAt E d mc ms)) cut G R T Z) (f : Nat) (L : ZLV) (st : List Value) (σ : ZHp) (n k w : Nat) : Z (f + 1) 50 L st σ n k w = s_iaload E 51 L st σ n k w (zk1 cut G (Z f)) G R T := zrs hZ rfl f L st σ n k w
theorem f_X15_wordAt_51 (hZ : ZRN (ztb (tb_X15_wordAt E d mc ms)) cut G R T Z) (f : Nat) (L : ZLV) (st : List Value) (σ : ZHp) (n k w : Nat) : Z (f + 1) 51 L st σ n k w = s_icmp_ne 60 54 L st σ n k w (zk1 cut G (Z f)) G R T := zrs hZ rfl f L st σ n k w
theorem f_X15_wordAt_54 (hZ : ZRN (ztb (tb_X15_wordAt E d mc ms)) cut G R T Z) (f : Nat) (L : ZLV) (st : List Value) (σ : ZHp) (n k w : Nat) : Z (f + 1) 54 L st σ n k w = s_iinc 4 (1) 57 L st σ n k w (zk1 cut G (Z f)) G R T := zrs hZ rfl f L st σ n k w
theorem f_X15_wordAt_57 (hZ : ZRN (ztb (tb_X15_wordAt E d mc ms)) cut G R T Z) (f : Nat) (L : ZLV) (st : List Value) (σ : ZHp) (n k w : Nat) : Z (f + 1) 57 L st σ n k w = s_goto 13 L st σ n k w (zk1 cut G (Z f)) G R T := zrs hZ rfl f L st σ n k w
theorem f_X15_wordAt_60 (hZ : ZRN (ztb (tb_X15_wordAt E d mc ms)) cut G R T Z) (f : Nat) (L : ZLV) (st : List Value) (σ : ZHp) (n k w : Nat) : Z (f + 1) 60 L st σ n k w = s_iload 4 62 L st σ n k w (zk1 cut G (Z f)) G R T := zrs hZ rfl f L st σ n k w
theorem f_X15_wordAt_62 (hZ : ZRN (ztb (tb_X15_wordAt E d mc ms)) cut G R T Z) (f : Nat) (L : ZLV) (st : List Value) (σ : ZHp) (n k w : Nat) : Z (f + 1) 62 L st σ n k w = s_iload 2 63 L st σ n k w (zk1 cut G (Z f)) G R T := zrs hZ rfl f L st σ n k w
theorem f_X15_wordAt_63 (hZ : ZRN (ztb (tb_X15_wordAt E d mc ms)) cut G R T Z) (f : Nat) (L : ZLV) (st : List Value) (σ : ZHp) (n k w : Nat) : Z (f + 1) 63 L st σ n k w = s_icmp_ne 81 66 L st σ n k w (zk1 cut G (Z f)) G R T := zrs hZ rfl f L st σ n k w
theorem f_X15_wordAt_66 (hZ : ZRN (ztb (tb_X15_wordAt E d mc ms)) cut G R T Z) (f : Nat) (L : ZLV) (st : List Value) (σ : ZHp) (n k w : Nat) : Z (f + 1) 66 L st σ n k w = s_iload 4 68 L st σ n k w (zk1 cut G (Z f)) G R T := zrs hZ rfl f L st σ n k w
theorem f_X15_wordAt_68 (hZ : ZRN (ztb (tb_X15_wordAt E d mc ms)) cut G R T Z) (f : Nat) (L : ZLV) (st : List Value) (σ : ZHp) (n k w : Nat) : Z (f + 1) 68 L st σ n k w = s_const (.ref (zeK E 48)) 71 L st σ n k w (zk1 cut G (Z f)) G R T := zrs hZ rfl f L st σ n k w
theorem f_X15_wordAt_71 (hZ : ZRN (ztb (tb_X15_wordAt E d mc ms)) cut G R T Z) (f : Nat) (L : ZLV) (st : List Value) (σ : ZHp) (n k w : Nat) : Z (f + 1) 71 L st σ n k w = s_iload 3 72 L st σ n k w (zk1 cut G (Z f)) G R T := zrs hZ rfl f L st σ n k w
theorem f_X15_wordAt_72 (hZ : ZRN (ztb (tb_X15_wordAt E d mc ms)) cut G R T Z) (f : Nat) (L : ZLV) (st : List Value) (σ : ZHp) (n k w : Nat) : Z (f + 1) 72 L st σ n k w = s_aaldK E 48 26 (fun j => 96 + j) 73 L st σ n k w (zk1 cut G (Z f)) G R T := zrs hZ rfl f L st σ n k w
theorem f_X15_wordAt_73 (hZ : ZRN (ztb (tb_X15_wordAt E d mc ms)) cut G R T Z) (f : Nat) (L : ZLV) (st : List Value) (σ : ZHp) (n k w : Nat) : Z (f + 1) 73 L st σ n k w = s_callK E d mc ms 50 123 MJ0_length_8abf5 0 76 L st σ n k w (zk1 cut G (Z f)) G R T := zrs hZ rfl f L st σ n k w
theorem f_X15_wordAt_76 (hZ : ZRN (ztb (tb_X15_wordAt E d mc ms)) cut G R T Z) (f : Nat) (L : ZLV) (st : List Value) (σ : ZHp) (n k w : Nat) : Z (f + 1) 76 L st σ n k w = s_icmp_ne 81 79 L st σ n k w (zk1 cut G (Z f)) G R T := zrs hZ rfl f L st σ n k w
theorem f_X15_wordAt_79 (hZ : ZRN (ztb (tb_X15_wordAt E d mc ms)) cut G R T Z) (f : Nat) (L : ZLV) (st : List Value) (σ : ZHp) (n k w : Nat) : Z (f + 1) 79 L st σ n k w = s_iload 3 80 L st σ n k w (zk1 cut G (Z f)) G R T := zrs hZ rfl f L st σ n k w
theorem f_X15_wordAt_80 (hZ : ZRN (ztb (tb_X15_wordAt E d mc ms)) cut G R T Z) (f : Nat) (L : ZLV) (st : List Value) (σ : ZHp) (n k w : Nat) : Z (f + 1) 80 L st σ n k w = s_ireturn L st σ n k w (zk1 cut G (Z f)) G R T := zrs hZ rfl f L st σ n k w
theorem f_X15_wordAt_81 (hZ : ZRN (ztb (tb_X15_wordAt E d mc ms)) cut G R T Z) (f : Nat) (L : ZLV) (st : List Value) (σ : ZHp) (n k w : Nat) : Z (f + 1) 81 L st σ n k w = s_iinc 3 (1) 84 L st σ n k w (zk1 cut G (Z f)) G R T := zrs hZ rfl f L st σ n k w
theorem f_X15_wordAt_84 (hZ : ZRN (ztb (tb_X15_wordAt E d mc ms)) cut G R T Z) (f : Nat) (L : ZLV) (st : List Value) (σ : ZHp) (n k w : Nat) : Z (f + 1) 84 L st σ n k w = s_goto 2 L st σ n k w (zk1 cut G (Z f)) G R T := zrs hZ rfl f L st σ n k w
theorem f_X15_wordAt_87 (hZ : ZRN (ztb (tb_X15_wordAt E d mc ms)) cut G R T Z) (f : Nat) (L : ZLV) (st : List Value) (σ : ZHp) (n k w : Nat) : Z (f + 1) 87 L st σ n k w = s_const (.int (30)) 89 L st σ n k w (zk1 cut G (Z f)) G R T := zrs hZ rfl f L st σ n k w
theorem f_X15_wordAt_89 (hZ : ZRN (ztb (tb_X15_wordAt E d mc ms)) cut G R T Z) (f : Nat) (L : ZLV) (st : List Value) (σ : ZHp) (n k w : Nat) : Z (f + 1) 89 L st σ n k w = s_ireturn L st σ n k w (zk1 cut G (Z f)) G R T := zrs hZ rfl f L st σ n k w
theorem f_X15_cut_0 (hZ : ZRN (ztb (tb_X15_cut E d mc ms)) cut G R T Z) (f : Nat) (L : ZLV) (st : List Value) (σ : ZHp) (n k w : Nat) : Z (f + 1) 0 L st σ n k w = s_const (.int (0)) 1 L st σ n k w (zk1 cut G (Z f)) G R T := zrs hZ rfl f L st σ n k w
theorem f_X15_cut_1 (hZ : ZRN (ztb (tb_X15_cut E d mc ms)) cut G R T Z) (f : Nat) (L : ZLV) (st : List Value) (σ : ZHp) (n k w : Nat) : Z (f + 1) 1 L st σ n k w = s_istore 2 2 L st σ n k w (zk1 cut G (Z f)) G R T := zrs hZ rfl f L st σ n k w
theorem f_X15_cut_2 (hZ : ZRN (ztb (tb_X15_cut E d mc ms)) cut G R T Z) (f : Nat) (L : ZLV) (st : List Value) (σ : ZHp) (n k w : Nat) : Z (f + 1) 2 L st σ n k w = s_const (.int (0)) 3 L st σ n k w (zk1 cut G (Z f)) G R T := zrs hZ rfl f L st σ n k w
theorem f_X15_cut_3 (hZ : ZRN (ztb (tb_X15_cut E d mc ms)) cut G R T Z) (f : Nat) (L : ZLV) (st : List Value) (σ : ZHp) (n k w : Nat) : Z (f + 1) 3 L st σ n k w = s_istore 3 4 L st σ n k w (zk1 cut G (Z f)) G R T := zrs hZ rfl f L st σ n k w
theorem f_X15_cut_4 (hZ : ZRN (ztb (tb_X15_cut E d mc ms)) cut G R T Z) (f : Nat) (L : ZLV) (st : List Value) (σ : ZHp) (n k w : Nat) : Z (f + 1) 4 L st σ n k w = s_iload 3 5 L st σ n k w (zk1 cut G (Z f)) G R T := zrs hZ rfl f L st σ n k w
theorem f_X15_cut_5 (hZ : ZRN (ztb (tb_X15_cut E d mc ms)) cut G R T Z) (f : Nat) (L : ZLV) (st : List Value) (σ : ZHp) (n k w : Nat) : Z (f + 1) 5 L st σ n k w = s_const (.int (400)) 8 L st σ n k w (zk1 cut G (Z f)) G R T := zrs hZ rfl f L st σ n k w
theorem f_X15_cut_8 (hZ : ZRN (ztb (tb_X15_cut E d mc ms)) cut G R T Z) (f : Nat) (L : ZLV) (st : List Value) (σ : ZHp) (n k w : Nat) : Z (f + 1) 8 L st σ n k w = s_icmp_gt 125 11 L st σ n k w (zk1 cut G (Z f)) G R T := zrs hZ rfl f L st σ n k w
theorem f_X15_cut_11 (hZ : ZRN (ztb (tb_X15_cut E d mc ms)) cut G R T Z) (f : Nat) (L : ZLV) (st : List Value) (σ : ZHp) (n k w : Nat) : Z (f + 1) 11 L st σ n k w = s_aload 0 12 L st σ n k w (zk1 cut G (Z f)) G R T := zrs hZ rfl f L st σ n k w
theorem f_X15_cut_12 (hZ : ZRN (ztb (tb_X15_cut E d mc ms)) cut G R T Z) (f : Nat) (L : ZLV) (st : List Value) (σ : ZHp) (n k w : Nat) : Z (f + 1) 12 L st σ n k w = s_iload 2 13 L st σ n k w (zk1 cut G (Z f)) G R T := zrs hZ rfl f L st σ n k w
theorem f_X15_cut_13 (hZ : ZRN (ztb (tb_X15_cut E d mc ms)) cut G R T Z) (f : Nat) (L : ZLV) (st : List Value) (σ : ZHp) (n k w : Nat) : Z (f + 1) 13 L st σ n k w = s_callV E d mc ms 14 MX15_byteAt 1 16 L st σ n k w (zk1 cut G (Z f)) G R T := zrs hZ rfl f L st σ n k w
theorem f_X15_cut_16 (hZ : ZRN (ztb (tb_X15_cut E d mc ms)) cut G R T Z) (f : Nat) (L : ZLV) (st : List Value) (σ : ZHp) (n k w : Nat) : Z (f + 1) 16 L st σ n k w = s_const (.int (32)) 18 L st σ n k w (zk1 cut G (Z f)) G R T := zrs hZ rfl f L st σ n k w
theorem f_X15_cut_18 (hZ : ZRN (ztb (tb_X15_cut E d mc ms)) cut G R T Z) (f : Nat) (L : ZLV) (st : List Value) (σ : ZHp) (n k w : Nat) : Z (f + 1) 18 L st σ n k w = s_icmp_eq 31 21 L st σ n k w (zk1 cut G (Z f)) G R T := zrs hZ rfl f L st σ n k w
theorem f_X15_cut_21 (hZ : ZRN (ztb (tb_X15_cut E d mc ms)) cut G R T Z) (f : Nat) (L : ZLV) (st : List Value) (σ : ZHp) (n k w : Nat) : Z (f + 1) 21 L st σ n k w = s_aload 0 22 L st σ n k w (zk1 cut G (Z f)) G R T := zrs hZ rfl f L st σ n k w
theorem f_X15_cut_22 (hZ : ZRN (ztb (tb_X15_cut E d mc ms)) cut G R T Z) (f : Nat) (L : ZLV) (st : List Value) (σ : ZHp) (n k w : Nat) : Z (f + 1) 22 L st σ n k w = s_iload 2 23 L st σ n k w (zk1 cut G (Z f)) G R T := zrs hZ rfl f L st σ n k w
theorem f_X15_cut_23 (hZ : ZRN (ztb (tb_X15_cut E d mc ms)) cut G R T Z) (f : Nat) (L : ZLV) (st : List Value) (σ : ZHp) (n k w : Nat) : Z (f + 1) 23 L st σ n k w = s_callV E d mc ms 14 MX15_byteAt 1 26 L st σ n k w (zk1 cut G (Z f)) G R T := zrs hZ rfl f L st σ n k w
theorem f_X15_cut_26 (hZ : ZRN (ztb (tb_X15_cut E d mc ms)) cut G R T Z) (f : Nat) (L : ZLV) (st : List Value) (σ : ZHp) (n k w : Nat) : Z (f + 1) 26 L st σ n k w = s_const (.int (10)) 28 L st σ n k w (zk1 cut G (Z f)) G R T := zrs hZ rfl f L st σ n k w
theorem f_X15_cut_28 (hZ : ZRN (ztb (tb_X15_cut E d mc ms)) cut G R T Z) (f : Nat) (L : ZLV) (st : List Value) (σ : ZHp) (n k w : Nat) : Z (f + 1) 28 L st σ n k w = s_icmp_ne 37 31 L st σ n k w (zk1 cut G (Z f)) G R T := zrs hZ rfl f L st σ n k w
theorem f_X15_cut_31 (hZ : ZRN (ztb (tb_X15_cut E d mc ms)) cut G R T Z) (f : Nat) (L : ZLV) (st : List Value) (σ : ZHp) (n k w : Nat) : Z (f + 1) 31 L st σ n k w = s_iinc 2 (1) 34 L st σ n k w (zk1 cut G (Z f)) G R T := zrs hZ rfl f L st σ n k w
theorem f_X15_cut_34 (hZ : ZRN (ztb (tb_X15_cut E d mc ms)) cut G R T Z) (f : Nat) (L : ZLV) (st : List Value) (σ : ZHp) (n k w : Nat) : Z (f + 1) 34 L st σ n k w = s_goto 11 L st σ n k w (zk1 cut G (Z f)) G R T := zrs hZ rfl f L st σ n k w
theorem f_X15_cut_37 (hZ : ZRN (ztb (tb_X15_cut E d mc ms)) cut G R T Z) (f : Nat) (L : ZLV) (st : List Value) (σ : ZHp) (n k w : Nat) : Z (f + 1) 37 L st σ n k w = s_aload 1 38 L st σ n k w (zk1 cut G (Z f)) G R T := zrs hZ rfl f L st σ n k w
theorem f_X15_cut_38 (hZ : ZRN (ztb (tb_X15_cut E d mc ms)) cut G R T Z) (f : Nat) (L : ZLV) (st : List Value) (σ : ZHp) (n k w : Nat) : Z (f + 1) 38 L st σ n k w = s_getf 12 1 41 L st σ n k w (zk1 cut G (Z f)) G R T := zrs hZ rfl f L st σ n k w
theorem f_X15_cut_41 (hZ : ZRN (ztb (tb_X15_cut E d mc ms)) cut G R T Z) (f : Nat) (L : ZLV) (st : List Value) (σ : ZHp) (n k w : Nat) : Z (f + 1) 41 L st σ n k w = s_iload 3 42 L st σ n k w (zk1 cut G (Z f)) G R T := zrs hZ rfl f L st σ n k w
theorem f_X15_cut_42 (hZ : ZRN (ztb (tb_X15_cut E d mc ms)) cut G R T Z) (f : Nat) (L : ZLV) (st : List Value) (σ : ZHp) (n k w : Nat) : Z (f + 1) 42 L st σ n k w = s_iload 2 43 L st σ n k w (zk1 cut G (Z f)) G R T := zrs hZ rfl f L st σ n k w
theorem f_X15_cut_43 (hZ : ZRN (ztb (tb_X15_cut E d mc ms)) cut G R T Z) (f : Nat) (L : ZLV) (st : List Value) (σ : ZHp) (n k w : Nat) : Z (f + 1) 43 L st σ n k w = s_iastore E 44 L st σ n k w (zk1 cut G (Z f)) G R T := zrs hZ rfl f L st σ n k w
theorem f_X15_cut_44 (hZ : ZRN (ztb (tb_X15_cut E d mc ms)) cut G R T Z) (f : Nat) (L : ZLV) (st : List Value) (σ : ZHp) (n k w : Nat) : Z (f + 1) 44 L st σ n k w = s_aload 1 45 L st σ n k w (zk1 cut G (Z f)) G R T := zrs hZ rfl f L st σ n k w
theorem f_X15_cut_45 (hZ : ZRN (ztb (tb_X15_cut E d mc ms)) cut G R T Z) (f : Nat) (L : ZLV) (st : List Value) (σ : ZHp) (n k w : Nat) : Z (f + 1) 45 L st σ n k w = s_getf 12 2 48 L st σ n k w (zk1 cut G (Z f)) G R T := zrs hZ rfl f L st σ n k w
theorem f_X15_cut_48 (hZ : ZRN (ztb (tb_X15_cut E d mc ms)) cut G R T Z) (f : Nat) (L : ZLV) (st : List Value) (σ : ZHp) (n k w : Nat) : Z (f + 1) 48 L st σ n k w = s_iload 3 49 L st σ n k w (zk1 cut G (Z f)) G R T := zrs hZ rfl f L st σ n k w
theorem f_X15_cut_49 (hZ : ZRN (ztb (tb_X15_cut E d mc ms)) cut G R T Z) (f : Nat) (L : ZLV) (st : List Value) (σ : ZHp) (n k w : Nat) : Z (f + 1) 49 L st σ n k w = s_aload 0 50 L st σ n k w (zk1 cut G (Z f)) G R T := zrs hZ rfl f L st σ n k w
theorem f_X15_cut_50 (hZ : ZRN (ztb (tb_X15_cut E d mc ms)) cut G R T Z) (f : Nat) (L : ZLV) (st : List Value) (σ : ZHp) (n k w : Nat) : Z (f + 1) 50 L st σ n k w = s_iload 2 51 L st σ n k w (zk1 cut G (Z f)) G R T := zrs hZ rfl f L st σ n k w
theorem f_X15_cut_51 (hZ : ZRN (ztb (tb_X15_cut E d mc ms)) cut G R T Z) (f : Nat) (L : ZLV) (st : List Value) (σ : ZHp) (n k w : Nat) : Z (f + 1) 51 L st σ n k w = s_callV E d mc ms 14 MX15_lengthAt 1 54 L st σ n k w (zk1 cut G (Z f)) G R T := zrs hZ rfl f L st σ n k w
theorem f_X15_cut_54 (hZ : ZRN (ztb (tb_X15_cut E d mc ms)) cut G R T Z) (f : Nat) (L : ZLV) (st : List Value) (σ : ZHp) (n k w : Nat) : Z (f + 1) 54 L st σ n k w = s_iastore E 55 L st σ n k w (zk1 cut G (Z f)) G R T := zrs hZ rfl f L st σ n k w
theorem f_X15_cut_55 (hZ : ZRN (ztb (tb_X15_cut E d mc ms)) cut G R T Z) (f : Nat) (L : ZLV) (st : List Value) (σ : ZHp) (n k w : Nat) : Z (f + 1) 55 L st σ n k w = s_aload 1 56 L st σ n k w (zk1 cut G (Z f)) G R T := zrs hZ rfl f L st σ n k w
theorem f_X15_cut_56 (hZ : ZRN (ztb (tb_X15_cut E d mc ms)) cut G R T Z) (f : Nat) (L : ZLV) (st : List Value) (σ : ZHp) (n k w : Nat) : Z (f + 1) 56 L st σ n k w = s_getf 12 0 59 L st σ n k w (zk1 cut G (Z f)) G R T := zrs hZ rfl f L st σ n k w
theorem f_X15_cut_59 (hZ : ZRN (ztb (tb_X15_cut E d mc ms)) cut G R T Z) (f : Nat) (L : ZLV) (st : List Value) (σ : ZHp) (n k w : Nat) : Z (f + 1) 59 L st σ n k w = s_iload 3 60 L st σ n k w (zk1 cut G (Z f)) G R T := zrs hZ rfl f L st σ n k w
theorem f_X15_cut_60 (hZ : ZRN (ztb (tb_X15_cut E d mc ms)) cut G R T Z) (f : Nat) (L : ZLV) (st : List Value) (σ : ZHp) (n k w : Nat) : Z (f + 1) 60 L st σ n k w = s_aload 0 61 L st σ n k w (zk1 cut G (Z f)) G R T := zrs hZ rfl f L st σ n k w
theorem f_X15_cut_61 (hZ : ZRN (ztb (tb_X15_cut E d mc ms)) cut G R T Z) (f : Nat) (L : ZLV) (st : List Value) (σ : ZHp) (n k w : Nat) : Z (f + 1) 61 L st σ n k w = s_iload 2 62 L st σ n k w (zk1 cut G (Z f)) G R T := zrs hZ rfl f L st σ n k w
theorem f_X15_cut_62 (hZ : ZRN (ztb (tb_X15_cut E d mc ms)) cut G R T Z) (f : Nat) (L : ZLV) (st : List Value) (σ : ZHp) (n k w : Nat) : Z (f + 1) 62 L st σ n k w = s_aload 1 63 L st σ n k w (zk1 cut G (Z f)) G R T := zrs hZ rfl f L st σ n k w
theorem f_X15_cut_63 (hZ : ZRN (ztb (tb_X15_cut E d mc ms)) cut G R T Z) (f : Nat) (L : ZLV) (st : List Value) (σ : ZHp) (n k w : Nat) : Z (f + 1) 63 L st σ n k w = s_getf 12 2 66 L st σ n k w (zk1 cut G (Z f)) G R T := zrs hZ rfl f L st σ n k w
theorem f_X15_cut_66 (hZ : ZRN (ztb (tb_X15_cut E d mc ms)) cut G R T Z) (f : Nat) (L : ZLV) (st : List Value) (σ : ZHp) (n k w : Nat) : Z (f + 1) 66 L st σ n k w = s_iload 3 67 L st σ n k w (zk1 cut G (Z f)) G R T := zrs hZ rfl f L st σ n k w
theorem f_X15_cut_67 (hZ : ZRN (ztb (tb_X15_cut E d mc ms)) cut G R T Z) (f : Nat) (L : ZLV) (st : List Value) (σ : ZHp) (n k w : Nat) : Z (f + 1) 67 L st σ n k w = s_iaload E 68 L st σ n k w (zk1 cut G (Z f)) G R T := zrs hZ rfl f L st σ n k w
theorem f_X15_cut_68 (hZ : ZRN (ztb (tb_X15_cut E d mc ms)) cut G R T Z) (f : Nat) (L : ZLV) (st : List Value) (σ : ZHp) (n k w : Nat) : Z (f + 1) 68 L st σ n k w = s_callV E d mc ms 14 MX15_kindAt 2 71 L st σ n k w (zk1 cut G (Z f)) G R T := zrs hZ rfl f L st σ n k w
theorem f_X15_cut_71 (hZ : ZRN (ztb (tb_X15_cut E d mc ms)) cut G R T Z) (f : Nat) (L : ZLV) (st : List Value) (σ : ZHp) (n k w : Nat) : Z (f + 1) 71 L st σ n k w = s_iastore E 72 L st σ n k w (zk1 cut G (Z f)) G R T := zrs hZ rfl f L st σ n k w
theorem f_X15_cut_72 (hZ : ZRN (ztb (tb_X15_cut E d mc ms)) cut G R T Z) (f : Nat) (L : ZLV) (st : List Value) (σ : ZHp) (n k w : Nat) : Z (f + 1) 72 L st σ n k w = s_iload 3 73 L st σ n k w (zk1 cut G (Z f)) G R T := zrs hZ rfl f L st σ n k w
theorem f_X15_cut_73 (hZ : ZRN (ztb (tb_X15_cut E d mc ms)) cut G R T Z) (f : Nat) (L : ZLV) (st : List Value) (σ : ZHp) (n k w : Nat) : Z (f + 1) 73 L st σ n k w = s_const (.int (400)) 76 L st σ n k w (zk1 cut G (Z f)) G R T := zrs hZ rfl f L st σ n k w
theorem f_X15_cut_76 (hZ : ZRN (ztb (tb_X15_cut E d mc ms)) cut G R T Z) (f : Nat) (L : ZLV) (st : List Value) (σ : ZHp) (n k w : Nat) : Z (f + 1) 76 L st σ n k w = s_icmp_ne 98 79 L st σ n k w (zk1 cut G (Z f)) G R T := zrs hZ rfl f L st σ n k w
theorem f_X15_cut_79 (hZ : ZRN (ztb (tb_X15_cut E d mc ms)) cut G R T Z) (f : Nat) (L : ZLV) (st : List Value) (σ : ZHp) (n k w : Nat) : Z (f + 1) 79 L st σ n k w = s_aload 1 80 L st σ n k w (zk1 cut G (Z f)) G R T := zrs hZ rfl f L st σ n k w
theorem f_X15_cut_80 (hZ : ZRN (ztb (tb_X15_cut E d mc ms)) cut G R T Z) (f : Nat) (L : ZLV) (st : List Value) (σ : ZHp) (n k w : Nat) : Z (f + 1) 80 L st σ n k w = s_getf 12 0 83 L st σ n k w (zk1 cut G (Z f)) G R T := zrs hZ rfl f L st σ n k w
theorem f_X15_cut_83 (hZ : ZRN (ztb (tb_X15_cut E d mc ms)) cut G R T Z) (f : Nat) (L : ZLV) (st : List Value) (σ : ZHp) (n k w : Nat) : Z (f + 1) 83 L st σ n k w = s_iload 3 84 L st σ n k w (zk1 cut G (Z f)) G R T := zrs hZ rfl f L st σ n k w
theorem f_X15_cut_84 (hZ : ZRN (ztb (tb_X15_cut E d mc ms)) cut G R T Z) (f : Nat) (L : ZLV) (st : List Value) (σ : ZHp) (n k w : Nat) : Z (f + 1) 84 L st σ n k w = s_iaload E 85 L st σ n k w (zk1 cut G (Z f)) G R T := zrs hZ rfl f L st σ n k w
theorem f_X15_cut_85 (hZ : ZRN (ztb (tb_X15_cut E d mc ms)) cut G R T Z) (f : Nat) (L : ZLV) (st : List Value) (σ : ZHp) (n k w : Nat) : Z (f + 1) 85 L st σ n k w = s_const (.int (70)) 87 L st σ n k w (zk1 cut G (Z f)) G R T := zrs hZ rfl f L st σ n k w
theorem f_X15_cut_87 (hZ : ZRN (ztb (tb_X15_cut E d mc ms)) cut G R T Z) (f : Nat) (L : ZLV) (st : List Value) (σ : ZHp) (n k w : Nat) : Z (f + 1) 87 L st σ n k w = s_icmp_eq 98 90 L st σ n k w (zk1 cut G (Z f)) G R T := zrs hZ rfl f L st σ n k w
theorem f_X15_cut_90 (hZ : ZRN (ztb (tb_X15_cut E d mc ms)) cut G R T Z) (f : Nat) (L : ZLV) (st : List Value) (σ : ZHp) (n k w : Nat) : Z (f + 1) 90 L st σ n k w = s_aload 1 91 L st σ n k w (zk1 cut G (Z f)) G R T := zrs hZ rfl f L st σ n k w
theorem f_X15_cut_91 (hZ : ZRN (ztb (tb_X15_cut E d mc ms)) cut G R T Z) (f : Nat) (L : ZLV) (st : List Value) (σ : ZHp) (n k w : Nat) : Z (f + 1) 91 L st σ n k w = s_getf 12 0 94 L st σ n k w (zk1 cut G (Z f)) G R T := zrs hZ rfl f L st σ n k w
theorem f_X15_cut_94 (hZ : ZRN (ztb (tb_X15_cut E d mc ms)) cut G R T Z) (f : Nat) (L : ZLV) (st : List Value) (σ : ZHp) (n k w : Nat) : Z (f + 1) 94 L st σ n k w = s_iload 3 95 L st σ n k w (zk1 cut G (Z f)) G R T := zrs hZ rfl f L st σ n k w
theorem f_X15_cut_95 (hZ : ZRN (ztb (tb_X15_cut E d mc ms)) cut G R T Z) (f : Nat) (L : ZLV) (st : List Value) (σ : ZHp) (n k w : Nat) : Z (f + 1) 95 L st σ n k w = s_const (.int (71)) 97 L st σ n k w (zk1 cut G (Z f)) G R T := zrs hZ rfl f L st σ n k w
theorem f_X15_cut_97 (hZ : ZRN (ztb (tb_X15_cut E d mc ms)) cut G R T Z) (f : Nat) (L : ZLV) (st : List Value) (σ : ZHp) (n k w : Nat) : Z (f + 1) 97 L st σ n k w = s_iastore E 98 L st σ n k w (zk1 cut G (Z f)) G R T := zrs hZ rfl f L st σ n k w
theorem f_X15_cut_98 (hZ : ZRN (ztb (tb_X15_cut E d mc ms)) cut G R T Z) (f : Nat) (L : ZLV) (st : List Value) (σ : ZHp) (n k w : Nat) : Z (f + 1) 98 L st σ n k w = s_aload 1 99 L st σ n k w (zk1 cut G (Z f)) G R T := zrs hZ rfl f L st σ n k w
theorem f_X15_cut_99 (hZ : ZRN (ztb (tb_X15_cut E d mc ms)) cut G R T Z) (f : Nat) (L : ZLV) (st : List Value) (σ : ZHp) (n k w : Nat) : Z (f + 1) 99 L st σ n k w = s_getf 12 0 102 L st σ n k w (zk1 cut G (Z f)) G R T := zrs hZ rfl f L st σ n k w
theorem f_X15_cut_102 (hZ : ZRN (ztb (tb_X15_cut E d mc ms)) cut G R T Z) (f : Nat) (L : ZLV) (st : List Value) (σ : ZHp) (n k w : Nat) : Z (f + 1) 102 L st σ n k w = s_iload 3 103 L st σ n k w (zk1 cut G (Z f)) G R T := zrs hZ rfl f L st σ n k w
theorem f_X15_cut_103 (hZ : ZRN (ztb (tb_X15_cut E d mc ms)) cut G R T Z) (f : Nat) (L : ZLV) (st : List Value) (σ : ZHp) (n k w : Nat) : Z (f + 1) 103 L st σ n k w = s_iaload E 104 L st σ n k w (zk1 cut G (Z f)) G R T := zrs hZ rfl f L st σ n k w
theorem f_X15_cut_104 (hZ : ZRN (ztb (tb_X15_cut E d mc ms)) cut G R T Z) (f : Nat) (L : ZLV) (st : List Value) (σ : ZHp) (n k w : Nat) : Z (f + 1) 104 L st σ n k w = s_const (.int (70)) 106 L st σ n k w (zk1 cut G (Z f)) G R T := zrs hZ rfl f L st σ n k w
theorem f_X15_cut_106 (hZ : ZRN (ztb (tb_X15_cut E d mc ms)) cut G R T Z) (f : Nat) (L : ZLV) (st : List Value) (σ : ZHp) (n k w : Nat) : Z (f + 1) 106 L st σ n k w = s_icmp_lt 110 109 L st σ n k w (zk1 cut G (Z f)) G R T := zrs hZ rfl f L st σ n k w
theorem f_X15_cut_109 (hZ : ZRN (ztb (tb_X15_cut E d mc ms)) cut G R T Z) (f : Nat) (L : ZLV) (st : List Value) (σ : ZHp) (n k w : Nat) : Z (f + 1) 109 L st σ n k w = s_return L st σ n k w (zk1 cut G (Z f)) G R T := zrs hZ rfl f L st σ n k w
theorem f_X15_cut_110 (hZ : ZRN (ztb (tb_X15_cut E d mc ms)) cut G R T Z) (f : Nat) (L : ZLV) (st : List Value) (σ : ZHp) (n k w : Nat) : Z (f + 1) 110 L st σ n k w = s_iload 2 111 L st σ n k w (zk1 cut G (Z f)) G R T := zrs hZ rfl f L st σ n k w
theorem f_X15_cut_111 (hZ : ZRN (ztb (tb_X15_cut E d mc ms)) cut G R T Z) (f : Nat) (L : ZLV) (st : List Value) (σ : ZHp) (n k w : Nat) : Z (f + 1) 111 L st σ n k w = s_aload 1 112 L st σ n k w (zk1 cut G (Z f)) G R T := zrs hZ rfl f L st σ n k w
theorem f_X15_cut_112 (hZ : ZRN (ztb (tb_X15_cut E d mc ms)) cut G R T Z) (f : Nat) (L : ZLV) (st : List Value) (σ : ZHp) (n k w : Nat) : Z (f + 1) 112 L st σ n k w = s_getf 12 2 115 L st σ n k w (zk1 cut G (Z f)) G R T := zrs hZ rfl f L st σ n k w
theorem f_X15_cut_115 (hZ : ZRN (ztb (tb_X15_cut E d mc ms)) cut G R T Z) (f : Nat) (L : ZLV) (st : List Value) (σ : ZHp) (n k w : Nat) : Z (f + 1) 115 L st σ n k w = s_iload 3 116 L st σ n k w (zk1 cut G (Z f)) G R T := zrs hZ rfl f L st σ n k w
theorem f_X15_cut_116 (hZ : ZRN (ztb (tb_X15_cut E d mc ms)) cut G R T Z) (f : Nat) (L : ZLV) (st : List Value) (σ : ZHp) (n k w : Nat) : Z (f + 1) 116 L st σ n k w = s_iaload E 117 L st σ n k w (zk1 cut G (Z f)) G R T := zrs hZ rfl f L st σ n k w
theorem f_X15_cut_117 (hZ : ZRN (ztb (tb_X15_cut E d mc ms)) cut G R T Z) (f : Nat) (L : ZLV) (st : List Value) (σ : ZHp) (n k w : Nat) : Z (f + 1) 117 L st σ n k w = s_iadd 118 L st σ n k w (zk1 cut G (Z f)) G R T := zrs hZ rfl f L st σ n k w
theorem f_X15_cut_118 (hZ : ZRN (ztb (tb_X15_cut E d mc ms)) cut G R T Z) (f : Nat) (L : ZLV) (st : List Value) (σ : ZHp) (n k w : Nat) : Z (f + 1) 118 L st σ n k w = s_istore 2 119 L st σ n k w (zk1 cut G (Z f)) G R T := zrs hZ rfl f L st σ n k w
theorem f_X15_cut_119 (hZ : ZRN (ztb (tb_X15_cut E d mc ms)) cut G R T Z) (f : Nat) (L : ZLV) (st : List Value) (σ : ZHp) (n k w : Nat) : Z (f + 1) 119 L st σ n k w = s_iinc 3 (1) 122 L st σ n k w (zk1 cut G (Z f)) G R T := zrs hZ rfl f L st σ n k w
theorem f_X15_cut_122 (hZ : ZRN (ztb (tb_X15_cut E d mc ms)) cut G R T Z) (f : Nat) (L : ZLV) (st : List Value) (σ : ZHp) (n k w : Nat) : Z (f + 1) 122 L st σ n k w = s_goto 4 L st σ n k w (zk1 cut G (Z f)) G R T := zrs hZ rfl f L st σ n k w
theorem f_X15_cut_125 (hZ : ZRN (ztb (tb_X15_cut E d mc ms)) cut G R T Z) (f : Nat) (L : ZLV) (st : List Value) (σ : ZHp) (n k w : Nat) : Z (f + 1) 125 L st σ n k w = s_return L st σ n k w (zk1 cut G (Z f)) G R T := zrs hZ rfl f L st σ n k w
theorem f_X15_eat_0 (hZ : ZRN (ztb (tb_X15_eat E d mc ms)) cut G R T Z) (f : Nat) (L : ZLV) (st : List Value) (σ : ZHp) (n k w : Nat) : Z (f + 1) 0 L st σ n k w = s_aload 1 1 L st σ n k w (zk1 cut G (Z f)) G R T := zrs hZ rfl f L st σ n k w
theorem f_X15_eat_1 (hZ : ZRN (ztb (tb_X15_eat E d mc ms)) cut G R T Z) (f : Nat) (L : ZLV) (st : List Value) (σ : ZHp) (n k w : Nat) : Z (f + 1) 1 L st σ n k w = s_getf 12 0 4 L st σ n k w (zk1 cut G (Z f)) G R T := zrs hZ rfl f L st σ n k w
theorem f_X15_eat_4 (hZ : ZRN (ztb (tb_X15_eat E d mc ms)) cut G R T Z) (f : Nat) (L : ZLV) (st : List Value) (σ : ZHp) (n k w : Nat) : Z (f + 1) 4 L st σ n k w = s_aload 0 5 L st σ n k w (zk1 cut G (Z f)) G R T := zrs hZ rfl f L st σ n k w
theorem f_X15_eat_5 (hZ : ZRN (ztb (tb_X15_eat E d mc ms)) cut G R T Z) (f : Nat) (L : ZLV) (st : List Value) (σ : ZHp) (n k w : Nat) : Z (f + 1) 5 L st σ n k w = s_getf 14 4 8 L st σ n k w (zk1 cut G (Z f)) G R T := zrs hZ rfl f L st σ n k w
theorem f_X15_eat_8 (hZ : ZRN (ztb (tb_X15_eat E d mc ms)) cut G R T Z) (f : Nat) (L : ZLV) (st : List Value) (σ : ZHp) (n k w : Nat) : Z (f + 1) 8 L st σ n k w = s_iaload E 9 L st σ n k w (zk1 cut G (Z f)) G R T := zrs hZ rfl f L st σ n k w
theorem f_X15_eat_9 (hZ : ZRN (ztb (tb_X15_eat E d mc ms)) cut G R T Z) (f : Nat) (L : ZLV) (st : List Value) (σ : ZHp) (n k w : Nat) : Z (f + 1) 9 L st σ n k w = s_iload 2 10 L st σ n k w (zk1 cut G (Z f)) G R T := zrs hZ rfl f L st σ n k w
theorem f_X15_eat_10 (hZ : ZRN (ztb (tb_X15_eat E d mc ms)) cut G R T Z) (f : Nat) (L : ZLV) (st : List Value) (σ : ZHp) (n k w : Nat) : Z (f + 1) 10 L st σ n k w = s_icmp_eq 15 13 L st σ n k w (zk1 cut G (Z f)) G R T := zrs hZ rfl f L st σ n k w
theorem f_X15_eat_13 (hZ : ZRN (ztb (tb_X15_eat E d mc ms)) cut G R T Z) (f : Nat) (L : ZLV) (st : List Value) (σ : ZHp) (n k w : Nat) : Z (f + 1) 13 L st σ n k w = s_const (.int (0)) 14 L st σ n k w (zk1 cut G (Z f)) G R T := zrs hZ rfl f L st σ n k w
theorem f_X15_eat_14 (hZ : ZRN (ztb (tb_X15_eat E d mc ms)) cut G R T Z) (f : Nat) (L : ZLV) (st : List Value) (σ : ZHp) (n k w : Nat) : Z (f + 1) 14 L st σ n k w = s_zreturn L st σ n k w (zk1 cut G (Z f)) G R T := zrs hZ rfl f L st σ n k w
theorem f_X15_eat_15 (hZ : ZRN (ztb (tb_X15_eat E d mc ms)) cut G R T Z) (f : Nat) (L : ZLV) (st : List Value) (σ : ZHp) (n k w : Nat) : Z (f + 1) 15 L st σ n k w = s_aload 0 16 L st σ n k w (zk1 cut G (Z f)) G R T := zrs hZ rfl f L st σ n k w
theorem f_X15_eat_16 (hZ : ZRN (ztb (tb_X15_eat E d mc ms)) cut G R T Z) (f : Nat) (L : ZLV) (st : List Value) (σ : ZHp) (n k w : Nat) : Z (f + 1) 16 L st σ n k w = s_dup 17 L st σ n k w (zk1 cut G (Z f)) G R T := zrs hZ rfl f L st σ n k w
theorem f_X15_eat_17 (hZ : ZRN (ztb (tb_X15_eat E d mc ms)) cut G R T Z) (f : Nat) (L : ZLV) (st : List Value) (σ : ZHp) (n k w : Nat) : Z (f + 1) 17 L st σ n k w = s_getf 14 4 20 L st σ n k w (zk1 cut G (Z f)) G R T := zrs hZ rfl f L st σ n k w
theorem f_X15_eat_20 (hZ : ZRN (ztb (tb_X15_eat E d mc ms)) cut G R T Z) (f : Nat) (L : ZLV) (st : List Value) (σ : ZHp) (n k w : Nat) : Z (f + 1) 20 L st σ n k w = s_const (.int (1)) 21 L st σ n k w (zk1 cut G (Z f)) G R T := zrs hZ rfl f L st σ n k w
theorem f_X15_eat_21 (hZ : ZRN (ztb (tb_X15_eat E d mc ms)) cut G R T Z) (f : Nat) (L : ZLV) (st : List Value) (σ : ZHp) (n k w : Nat) : Z (f + 1) 21 L st σ n k w = s_iadd 22 L st σ n k w (zk1 cut G (Z f)) G R T := zrs hZ rfl f L st σ n k w
theorem f_X15_eat_22 (hZ : ZRN (ztb (tb_X15_eat E d mc ms)) cut G R T Z) (f : Nat) (L : ZLV) (st : List Value) (σ : ZHp) (n k w : Nat) : Z (f + 1) 22 L st σ n k w = s_putf 14 4 0 25 L st σ n k w (zk1 cut G (Z f)) G R T := zrs hZ rfl f L st σ n k w
theorem f_X15_eat_25 (hZ : ZRN (ztb (tb_X15_eat E d mc ms)) cut G R T Z) (f : Nat) (L : ZLV) (st : List Value) (σ : ZHp) (n k w : Nat) : Z (f + 1) 25 L st σ n k w = s_const (.int (1)) 26 L st σ n k w (zk1 cut G (Z f)) G R T := zrs hZ rfl f L st σ n k w
theorem f_X15_eat_26 (hZ : ZRN (ztb (tb_X15_eat E d mc ms)) cut G R T Z) (f : Nat) (L : ZLV) (st : List Value) (σ : ZHp) (n k w : Nat) : Z (f + 1) 26 L st σ n k w = s_zreturn L st σ n k w (zk1 cut G (Z f)) G R T := zrs hZ rfl f L st σ n k w
theorem f_X15_eatIn_0 (hZ : ZRN (ztb (tb_X15_eatIn E d mc ms)) cut G R T Z) (f : Nat) (L : ZLV) (st : List Value) (σ : ZHp) (n k w : Nat) : Z (f + 1) 0 L st σ n k w = s_aload 1 1 L st σ n k w (zk1 cut G (Z f)) G R T := zrs hZ rfl f L st σ n k w
theorem f_X15_eatIn_1 (hZ : ZRN (ztb (tb_X15_eatIn E d mc ms)) cut G R T Z) (f : Nat) (L : ZLV) (st : List Value) (σ : ZHp) (n k w : Nat) : Z (f + 1) 1 L st σ n k w = s_getf 12 0 4 L st σ n k w (zk1 cut G (Z f)) G R T := zrs hZ rfl f L st σ n k w
theorem f_X15_eatIn_4 (hZ : ZRN (ztb (tb_X15_eatIn E d mc ms)) cut G R T Z) (f : Nat) (L : ZLV) (st : List Value) (σ : ZHp) (n k w : Nat) : Z (f + 1) 4 L st σ n k w = s_aload 0 5 L st σ n k w (zk1 cut G (Z f)) G R T := zrs hZ rfl f L st σ n k w
theorem f_X15_eatIn_5 (hZ : ZRN (ztb (tb_X15_eatIn E d mc ms)) cut G R T Z) (f : Nat) (L : ZLV) (st : List Value) (σ : ZHp) (n k w : Nat) : Z (f + 1) 5 L st σ n k w = s_getf 14 4 8 L st σ n k w (zk1 cut G (Z f)) G R T := zrs hZ rfl f L st σ n k w
theorem f_X15_eatIn_8 (hZ : ZRN (ztb (tb_X15_eatIn E d mc ms)) cut G R T Z) (f : Nat) (L : ZLV) (st : List Value) (σ : ZHp) (n k w : Nat) : Z (f + 1) 8 L st σ n k w = s_iaload E 9 L st σ n k w (zk1 cut G (Z f)) G R T := zrs hZ rfl f L st σ n k w
theorem f_X15_eatIn_9 (hZ : ZRN (ztb (tb_X15_eatIn E d mc ms)) cut G R T Z) (f : Nat) (L : ZLV) (st : List Value) (σ : ZHp) (n k w : Nat) : Z (f + 1) 9 L st σ n k w = s_iload 2 10 L st σ n k w (zk1 cut G (Z f)) G R T := zrs hZ rfl f L st σ n k w
theorem f_X15_eatIn_10 (hZ : ZRN (ztb (tb_X15_eatIn E d mc ms)) cut G R T Z) (f : Nat) (L : ZLV) (st : List Value) (σ : ZHp) (n k w : Nat) : Z (f + 1) 10 L st σ n k w = s_iload 3 11 L st σ n k w (zk1 cut G (Z f)) G R T := zrs hZ rfl f L st σ n k w
theorem f_X15_eatIn_11 (hZ : ZRN (ztb (tb_X15_eatIn E d mc ms)) cut G R T Z) (f : Nat) (L : ZLV) (st : List Value) (σ : ZHp) (n k w : Nat) : Z (f + 1) 11 L st σ n k w = s_callS E d mc ms MX15_isIn 3 14 L st σ n k w (zk1 cut G (Z f)) G R T := zrs hZ rfl f L st σ n k w
theorem f_X15_eatIn_14 (hZ : ZRN (ztb (tb_X15_eatIn E d mc ms)) cut G R T Z) (f : Nat) (L : ZLV) (st : List Value) (σ : ZHp) (n k w : Nat) : Z (f + 1) 14 L st σ n k w = s_if_ne 19 17 L st σ n k w (zk1 cut G (Z f)) G R T := zrs hZ rfl f L st σ n k w
theorem f_X15_eatIn_17 (hZ : ZRN (ztb (tb_X15_eatIn E d mc ms)) cut G R T Z) (f : Nat) (L : ZLV) (st : List Value) (σ : ZHp) (n k w : Nat) : Z (f + 1) 17 L st σ n k w = s_const (.int (0)) 18 L st σ n k w (zk1 cut G (Z f)) G R T := zrs hZ rfl f L st σ n k w
theorem f_X15_eatIn_18 (hZ : ZRN (ztb (tb_X15_eatIn E d mc ms)) cut G R T Z) (f : Nat) (L : ZLV) (st : List Value) (σ : ZHp) (n k w : Nat) : Z (f + 1) 18 L st σ n k w = s_zreturn L st σ n k w (zk1 cut G (Z f)) G R T := zrs hZ rfl f L st σ n k w
theorem f_X15_eatIn_19 (hZ : ZRN (ztb (tb_X15_eatIn E d mc ms)) cut G R T Z) (f : Nat) (L : ZLV) (st : List Value) (σ : ZHp) (n k w : Nat) : Z (f + 1) 19 L st σ n k w = s_aload 0 20 L st σ n k w (zk1 cut G (Z f)) G R T := zrs hZ rfl f L st σ n k w
theorem f_X15_eatIn_20 (hZ : ZRN (ztb (tb_X15_eatIn E d mc ms)) cut G R T Z) (f : Nat) (L : ZLV) (st : List Value) (σ : ZHp) (n k w : Nat) : Z (f + 1) 20 L st σ n k w = s_dup 21 L st σ n k w (zk1 cut G (Z f)) G R T := zrs hZ rfl f L st σ n k w
theorem f_X15_eatIn_21 (hZ : ZRN (ztb (tb_X15_eatIn E d mc ms)) cut G R T Z) (f : Nat) (L : ZLV) (st : List Value) (σ : ZHp) (n k w : Nat) : Z (f + 1) 21 L st σ n k w = s_getf 14 4 24 L st σ n k w (zk1 cut G (Z f)) G R T := zrs hZ rfl f L st σ n k w
theorem f_X15_eatIn_24 (hZ : ZRN (ztb (tb_X15_eatIn E d mc ms)) cut G R T Z) (f : Nat) (L : ZLV) (st : List Value) (σ : ZHp) (n k w : Nat) : Z (f + 1) 24 L st σ n k w = s_const (.int (1)) 25 L st σ n k w (zk1 cut G (Z f)) G R T := zrs hZ rfl f L st σ n k w
theorem f_X15_eatIn_25 (hZ : ZRN (ztb (tb_X15_eatIn E d mc ms)) cut G R T Z) (f : Nat) (L : ZLV) (st : List Value) (σ : ZHp) (n k w : Nat) : Z (f + 1) 25 L st σ n k w = s_iadd 26 L st σ n k w (zk1 cut G (Z f)) G R T := zrs hZ rfl f L st σ n k w
theorem f_X15_eatIn_26 (hZ : ZRN (ztb (tb_X15_eatIn E d mc ms)) cut G R T Z) (f : Nat) (L : ZLV) (st : List Value) (σ : ZHp) (n k w : Nat) : Z (f + 1) 26 L st σ n k w = s_putf 14 4 0 29 L st σ n k w (zk1 cut G (Z f)) G R T := zrs hZ rfl f L st σ n k w
theorem f_X15_eatIn_29 (hZ : ZRN (ztb (tb_X15_eatIn E d mc ms)) cut G R T Z) (f : Nat) (L : ZLV) (st : List Value) (σ : ZHp) (n k w : Nat) : Z (f + 1) 29 L st σ n k w = s_const (.int (1)) 30 L st σ n k w (zk1 cut G (Z f)) G R T := zrs hZ rfl f L st σ n k w
theorem f_X15_eatIn_30 (hZ : ZRN (ztb (tb_X15_eatIn E d mc ms)) cut G R T Z) (f : Nat) (L : ZLV) (st : List Value) (σ : ZHp) (n k w : Nat) : Z (f + 1) 30 L st σ n k w = s_zreturn L st σ n k w (zk1 cut G (Z f)) G R T := zrs hZ rfl f L st σ n k w
theorem f_X15_goDown_0 (hZ : ZRN (ztb (tb_X15_goDown E d mc ms)) cut G R T Z) (f : Nat) (L : ZLV) (st : List Value) (σ : ZHp) (n k w : Nat) : Z (f + 1) 0 L st σ n k w = s_aload 1 1 L st σ n k w (zk1 cut G (Z f)) G R T := zrs hZ rfl f L st σ n k w
theorem f_X15_goDown_1 (hZ : ZRN (ztb (tb_X15_goDown E d mc ms)) cut G R T Z) (f : Nat) (L : ZLV) (st : List Value) (σ : ZHp) (n k w : Nat) : Z (f + 1) 1 L st σ n k w = s_getf 12 0 4 L st σ n k w (zk1 cut G (Z f)) G R T := zrs hZ rfl f L st σ n k w
theorem f_X15_goDown_4 (hZ : ZRN (ztb (tb_X15_goDown E d mc ms)) cut G R T Z) (f : Nat) (L : ZLV) (st : List Value) (σ : ZHp) (n k w : Nat) : Z (f + 1) 4 L st σ n k w = s_aload 0 5 L st σ n k w (zk1 cut G (Z f)) G R T := zrs hZ rfl f L st σ n k w
theorem f_X15_goDown_5 (hZ : ZRN (ztb (tb_X15_goDown E d mc ms)) cut G R T Z) (f : Nat) (L : ZLV) (st : List Value) (σ : ZHp) (n k w : Nat) : Z (f + 1) 5 L st σ n k w = s_getf 14 4 8 L st σ n k w (zk1 cut G (Z f)) G R T := zrs hZ rfl f L st σ n k w
theorem f_X15_goDown_8 (hZ : ZRN (ztb (tb_X15_goDown E d mc ms)) cut G R T Z) (f : Nat) (L : ZLV) (st : List Value) (σ : ZHp) (n k w : Nat) : Z (f + 1) 8 L st σ n k w = s_iaload E 9 L st σ n k w (zk1 cut G (Z f)) G R T := zrs hZ rfl f L st σ n k w
theorem f_X15_goDown_9 (hZ : ZRN (ztb (tb_X15_goDown E d mc ms)) cut G R T Z) (f : Nat) (L : ZLV) (st : List Value) (σ : ZHp) (n k w : Nat) : Z (f + 1) 9 L st σ n k w = s_iload 2 10 L st σ n k w (zk1 cut G (Z f)) G R T := zrs hZ rfl f L st σ n k w
theorem f_X15_goDown_10 (hZ : ZRN (ztb (tb_X15_goDown E d mc ms)) cut G R T Z) (f : Nat) (L : ZLV) (st : List Value) (σ : ZHp) (n k w : Nat) : Z (f + 1) 10 L st σ n k w = s_icmp_ne 22 13 L st σ n k w (zk1 cut G (Z f)) G R T := zrs hZ rfl f L st σ n k w
theorem f_X15_goDown_13 (hZ : ZRN (ztb (tb_X15_goDown E d mc ms)) cut G R T Z) (f : Nat) (L : ZLV) (st : List Value) (σ : ZHp) (n k w : Nat) : Z (f + 1) 13 L st σ n k w = s_aload 0 14 L st σ n k w (zk1 cut G (Z f)) G R T := zrs hZ rfl f L st σ n k w
theorem f_X15_goDown_14 (hZ : ZRN (ztb (tb_X15_goDown E d mc ms)) cut G R T Z) (f : Nat) (L : ZLV) (st : List Value) (σ : ZHp) (n k w : Nat) : Z (f + 1) 14 L st σ n k w = s_getf 14 5 17 L st σ n k w (zk1 cut G (Z f)) G R T := zrs hZ rfl f L st σ n k w
theorem f_X15_goDown_17 (hZ : ZRN (ztb (tb_X15_goDown E d mc ms)) cut G R T Z) (f : Nat) (L : ZLV) (st : List Value) (σ : ZHp) (n k w : Nat) : Z (f + 1) 17 L st σ n k w = s_const (.int (8)) 19 L st σ n k w (zk1 cut G (Z f)) G R T := zrs hZ rfl f L st σ n k w
theorem f_X15_goDown_19 (hZ : ZRN (ztb (tb_X15_goDown E d mc ms)) cut G R T Z) (f : Nat) (L : ZLV) (st : List Value) (σ : ZHp) (n k w : Nat) : Z (f + 1) 19 L st σ n k w = s_icmp_ne 24 22 L st σ n k w (zk1 cut G (Z f)) G R T := zrs hZ rfl f L st σ n k w
theorem f_X15_goDown_22 (hZ : ZRN (ztb (tb_X15_goDown E d mc ms)) cut G R T Z) (f : Nat) (L : ZLV) (st : List Value) (σ : ZHp) (n k w : Nat) : Z (f + 1) 22 L st σ n k w = s_const (.int (0)) 23 L st σ n k w (zk1 cut G (Z f)) G R T := zrs hZ rfl f L st σ n k w
theorem f_X15_goDown_23 (hZ : ZRN (ztb (tb_X15_goDown E d mc ms)) cut G R T Z) (f : Nat) (L : ZLV) (st : List Value) (σ : ZHp) (n k w : Nat) : Z (f + 1) 23 L st σ n k w = s_zreturn L st σ n k w (zk1 cut G (Z f)) G R T := zrs hZ rfl f L st σ n k w
theorem f_X15_goDown_24 (hZ : ZRN (ztb (tb_X15_goDown E d mc ms)) cut G R T Z) (f : Nat) (L : ZLV) (st : List Value) (σ : ZHp) (n k w : Nat) : Z (f + 1) 24 L st σ n k w = s_aload 0 25 L st σ n k w (zk1 cut G (Z f)) G R T := zrs hZ rfl f L st σ n k w
theorem f_X15_goDown_25 (hZ : ZRN (ztb (tb_X15_goDown E d mc ms)) cut G R T Z) (f : Nat) (L : ZLV) (st : List Value) (σ : ZHp) (n k w : Nat) : Z (f + 1) 25 L st σ n k w = s_dup 26 L st σ n k w (zk1 cut G (Z f)) G R T := zrs hZ rfl f L st σ n k w
theorem f_X15_goDown_26 (hZ : ZRN (ztb (tb_X15_goDown E d mc ms)) cut G R T Z) (f : Nat) (L : ZLV) (st : List Value) (σ : ZHp) (n k w : Nat) : Z (f + 1) 26 L st σ n k w = s_getf 14 5 29 L st σ n k w (zk1 cut G (Z f)) G R T := zrs hZ rfl f L st σ n k w
theorem f_X15_goDown_29 (hZ : ZRN (ztb (tb_X15_goDown E d mc ms)) cut G R T Z) (f : Nat) (L : ZLV) (st : List Value) (σ : ZHp) (n k w : Nat) : Z (f + 1) 29 L st σ n k w = s_const (.int (1)) 30 L st σ n k w (zk1 cut G (Z f)) G R T := zrs hZ rfl f L st σ n k w
theorem f_X15_goDown_30 (hZ : ZRN (ztb (tb_X15_goDown E d mc ms)) cut G R T Z) (f : Nat) (L : ZLV) (st : List Value) (σ : ZHp) (n k w : Nat) : Z (f + 1) 30 L st σ n k w = s_iadd 31 L st σ n k w (zk1 cut G (Z f)) G R T := zrs hZ rfl f L st σ n k w
theorem f_X15_goDown_31 (hZ : ZRN (ztb (tb_X15_goDown E d mc ms)) cut G R T Z) (f : Nat) (L : ZLV) (st : List Value) (σ : ZHp) (n k w : Nat) : Z (f + 1) 31 L st σ n k w = s_putf 14 5 0 34 L st σ n k w (zk1 cut G (Z f)) G R T := zrs hZ rfl f L st σ n k w
theorem f_X15_goDown_34 (hZ : ZRN (ztb (tb_X15_goDown E d mc ms)) cut G R T Z) (f : Nat) (L : ZLV) (st : List Value) (σ : ZHp) (n k w : Nat) : Z (f + 1) 34 L st σ n k w = s_aload 0 35 L st σ n k w (zk1 cut G (Z f)) G R T := zrs hZ rfl f L st σ n k w
theorem f_X15_goDown_35 (hZ : ZRN (ztb (tb_X15_goDown E d mc ms)) cut G R T Z) (f : Nat) (L : ZLV) (st : List Value) (σ : ZHp) (n k w : Nat) : Z (f + 1) 35 L st σ n k w = s_dup 36 L st σ n k w (zk1 cut G (Z f)) G R T := zrs hZ rfl f L st σ n k w
theorem f_X15_goDown_36 (hZ : ZRN (ztb (tb_X15_goDown E d mc ms)) cut G R T Z) (f : Nat) (L : ZLV) (st : List Value) (σ : ZHp) (n k w : Nat) : Z (f + 1) 36 L st σ n k w = s_getf 14 4 39 L st σ n k w (zk1 cut G (Z f)) G R T := zrs hZ rfl f L st σ n k w
theorem f_X15_goDown_39 (hZ : ZRN (ztb (tb_X15_goDown E d mc ms)) cut G R T Z) (f : Nat) (L : ZLV) (st : List Value) (σ : ZHp) (n k w : Nat) : Z (f + 1) 39 L st σ n k w = s_const (.int (1)) 40 L st σ n k w (zk1 cut G (Z f)) G R T := zrs hZ rfl f L st σ n k w
theorem f_X15_goDown_40 (hZ : ZRN (ztb (tb_X15_goDown E d mc ms)) cut G R T Z) (f : Nat) (L : ZLV) (st : List Value) (σ : ZHp) (n k w : Nat) : Z (f + 1) 40 L st σ n k w = s_iadd 41 L st σ n k w (zk1 cut G (Z f)) G R T := zrs hZ rfl f L st σ n k w
theorem f_X15_goDown_41 (hZ : ZRN (ztb (tb_X15_goDown E d mc ms)) cut G R T Z) (f : Nat) (L : ZLV) (st : List Value) (σ : ZHp) (n k w : Nat) : Z (f + 1) 41 L st σ n k w = s_putf 14 4 0 44 L st σ n k w (zk1 cut G (Z f)) G R T := zrs hZ rfl f L st σ n k w
theorem f_X15_goDown_44 (hZ : ZRN (ztb (tb_X15_goDown E d mc ms)) cut G R T Z) (f : Nat) (L : ZLV) (st : List Value) (σ : ZHp) (n k w : Nat) : Z (f + 1) 44 L st σ n k w = s_const (.int (1)) 45 L st σ n k w (zk1 cut G (Z f)) G R T := zrs hZ rfl f L st σ n k w
theorem f_X15_goDown_45 (hZ : ZRN (ztb (tb_X15_goDown E d mc ms)) cut G R T Z) (f : Nat) (L : ZLV) (st : List Value) (σ : ZHp) (n k w : Nat) : Z (f + 1) 45 L st σ n k w = s_zreturn L st σ n k w (zk1 cut G (Z f)) G R T := zrs hZ rfl f L st σ n k w
theorem f_X15_isList_0 (hZ : ZRN (ztb (tb_X15_isList E d mc ms)) cut G R T Z) (f : Nat) (L : ZLV) (st : List Value) (σ : ZHp) (n k w : Nat) : Z (f + 1) 0 L st σ n k w = s_aload 1 1 L st σ n k w (zk1 cut G (Z f)) G R T := zrs hZ rfl f L st σ n k w
theorem f_X15_isList_1 (hZ : ZRN (ztb (tb_X15_isList E d mc ms)) cut G R T Z) (f : Nat) (L : ZLV) (st : List Value) (σ : ZHp) (n k w : Nat) : Z (f + 1) 1 L st σ n k w = s_getf 12 0 4 L st σ n k w (zk1 cut G (Z f)) G R T := zrs hZ rfl f L st σ n k w
theorem f_X15_isList_4 (hZ : ZRN (ztb (tb_X15_isList E d mc ms)) cut G R T Z) (f : Nat) (L : ZLV) (st : List Value) (σ : ZHp) (n k w : Nat) : Z (f + 1) 4 L st σ n k w = s_aload 0 5 L st σ n k w (zk1 cut G (Z f)) G R T := zrs hZ rfl f L st σ n k w
theorem f_X15_isList_5 (hZ : ZRN (ztb (tb_X15_isList E d mc ms)) cut G R T Z) (f : Nat) (L : ZLV) (st : List Value) (σ : ZHp) (n k w : Nat) : Z (f + 1) 5 L st σ n k w = s_getf 14 4 8 L st σ n k w (zk1 cut G (Z f)) G R T := zrs hZ rfl f L st σ n k w
theorem f_X15_isList_8 (hZ : ZRN (ztb (tb_X15_isList E d mc ms)) cut G R T Z) (f : Nat) (L : ZLV) (st : List Value) (σ : ZHp) (n k w : Nat) : Z (f + 1) 8 L st σ n k w = s_iaload E 9 L st σ n k w (zk1 cut G (Z f)) G R T := zrs hZ rfl f L st σ n k w
theorem f_X15_isList_9 (hZ : ZRN (ztb (tb_X15_isList E d mc ms)) cut G R T Z) (f : Nat) (L : ZLV) (st : List Value) (σ : ZHp) (n k w : Nat) : Z (f + 1) 9 L st σ n k w = s_const (.int (70)) 11 L st σ n k w (zk1 cut G (Z f)) G R T := zrs hZ rfl f L st σ n k w
theorem f_X15_isList_11 (hZ : ZRN (ztb (tb_X15_isList E d mc ms)) cut G R T Z) (f : Nat) (L : ZLV) (st : List Value) (σ : ZHp) (n k w : Nat) : Z (f + 1) 11 L st σ n k w = s_icmp_eq 34 14 L st σ n k w (zk1 cut G (Z f)) G R T := zrs hZ rfl f L st σ n k w
theorem f_X15_isList_14 (hZ : ZRN (ztb (tb_X15_isList E d mc ms)) cut G R T Z) (f : Nat) (L : ZLV) (st : List Value) (σ : ZHp) (n k w : Nat) : Z (f + 1) 14 L st σ n k w = s_aload 0 15 L st σ n k w (zk1 cut G (Z f)) G R T := zrs hZ rfl f L st σ n k w
theorem f_X15_isList_15 (hZ : ZRN (ztb (tb_X15_isList E d mc ms)) cut G R T Z) (f : Nat) (L : ZLV) (st : List Value) (σ : ZHp) (n k w : Nat) : Z (f + 1) 15 L st σ n k w = s_aload 1 16 L st σ n k w (zk1 cut G (Z f)) G R T := zrs hZ rfl f L st σ n k w
theorem f_X15_isList_16 (hZ : ZRN (ztb (tb_X15_isList E d mc ms)) cut G R T Z) (f : Nat) (L : ZLV) (st : List Value) (σ : ZHp) (n k w : Nat) : Z (f + 1) 16 L st σ n k w = s_callV E d mc ms 14 MX15_isLine 1 19 L st σ n k w (zk1 cut G (Z f)) G R T := zrs hZ rfl f L st σ n k w
theorem f_X15_isList_19 (hZ : ZRN (ztb (tb_X15_isList E d mc ms)) cut G R T Z) (f : Nat) (L : ZLV) (st : List Value) (σ : ZHp) (n k w : Nat) : Z (f + 1) 19 L st σ n k w = s_if_eq 32 22 L st σ n k w (zk1 cut G (Z f)) G R T := zrs hZ rfl f L st σ n k w
theorem f_X15_isList_22 (hZ : ZRN (ztb (tb_X15_isList E d mc ms)) cut G R T Z) (f : Nat) (L : ZLV) (st : List Value) (σ : ZHp) (n k w : Nat) : Z (f + 1) 22 L st σ n k w = s_aload 0 23 L st σ n k w (zk1 cut G (Z f)) G R T := zrs hZ rfl f L st σ n k w
theorem f_X15_isList_23 (hZ : ZRN (ztb (tb_X15_isList E d mc ms)) cut G R T Z) (f : Nat) (L : ZLV) (st : List Value) (σ : ZHp) (n k w : Nat) : Z (f + 1) 23 L st σ n k w = s_aload 1 24 L st σ n k w (zk1 cut G (Z f)) G R T := zrs hZ rfl f L st σ n k w
theorem f_X15_isList_24 (hZ : ZRN (ztb (tb_X15_isList E d mc ms)) cut G R T Z) (f : Nat) (L : ZLV) (st : List Value) (σ : ZHp) (n k w : Nat) : Z (f + 1) 24 L st σ n k w = s_const (.int (44)) 26 L st σ n k w (zk1 cut G (Z f)) G R T := zrs hZ rfl f L st σ n k w
theorem f_X15_isList_26 (hZ : ZRN (ztb (tb_X15_isList E d mc ms)) cut G R T Z) (f : Nat) (L : ZLV) (st : List Value) (σ : ZHp) (n k w : Nat) : Z (f + 1) 26 L st σ n k w = s_callV E d mc ms 14 MX15_eat 2 29 L st σ n k w (zk1 cut G (Z f)) G R T := zrs hZ rfl f L st σ n k w
theorem f_X15_isList_29 (hZ : ZRN (ztb (tb_X15_isList E d mc ms)) cut G R T Z) (f : Nat) (L : ZLV) (st : List Value) (σ : ZHp) (n k w : Nat) : Z (f + 1) 29 L st σ n k w = s_if_ne 0 32 L st σ n k w (zk1 cut G (Z f)) G R T := zrs hZ rfl f L st σ n k w
theorem f_X15_isList_32 (hZ : ZRN (ztb (tb_X15_isList E d mc ms)) cut G R T Z) (f : Nat) (L : ZLV) (st : List Value) (σ : ZHp) (n k w : Nat) : Z (f + 1) 32 L st σ n k w = s_const (.int (0)) 33 L st σ n k w (zk1 cut G (Z f)) G R T := zrs hZ rfl f L st σ n k w
theorem f_X15_isList_33 (hZ : ZRN (ztb (tb_X15_isList E d mc ms)) cut G R T Z) (f : Nat) (L : ZLV) (st : List Value) (σ : ZHp) (n k w : Nat) : Z (f + 1) 33 L st σ n k w = s_zreturn L st σ n k w (zk1 cut G (Z f)) G R T := zrs hZ rfl f L st σ n k w
theorem f_X15_isList_34 (hZ : ZRN (ztb (tb_X15_isList E d mc ms)) cut G R T Z) (f : Nat) (L : ZLV) (st : List Value) (σ : ZHp) (n k w : Nat) : Z (f + 1) 34 L st σ n k w = s_const (.int (1)) 35 L st σ n k w (zk1 cut G (Z f)) G R T := zrs hZ rfl f L st σ n k w
theorem f_X15_isList_35 (hZ : ZRN (ztb (tb_X15_isList E d mc ms)) cut G R T Z) (f : Nat) (L : ZLV) (st : List Value) (σ : ZHp) (n k w : Nat) : Z (f + 1) 35 L st σ n k w = s_zreturn L st σ n k w (zk1 cut G (Z f)) G R T := zrs hZ rfl f L st σ n k w
theorem f_X15_isNumber_0 (hZ : ZRN (ztb (tb_X15_isNumber E d mc ms)) cut G R T Z) (f : Nat) (L : ZLV) (st : List Value) (σ : ZHp) (n k w : Nat) : Z (f + 1) 0 L st σ n k w = s_aload 0 1 L st σ n k w (zk1 cut G (Z f)) G R T := zrs hZ rfl f L st σ n k w
theorem f_X15_isNumber_1 (hZ : ZRN (ztb (tb_X15_isNumber E d mc ms)) cut G R T Z) (f : Nat) (L : ZLV) (st : List Value) (σ : ZHp) (n k w : Nat) : Z (f + 1) 1 L st σ n k w = s_aload 1 2 L st σ n k w (zk1 cut G (Z f)) G R T := zrs hZ rfl f L st σ n k w
theorem f_X15_isNumber_2 (hZ : ZRN (ztb (tb_X15_isNumber E d mc ms)) cut G R T Z) (f : Nat) (L : ZLV) (st : List Value) (σ : ZHp) (n k w : Nat) : Z (f + 1) 2 L st σ n k w = s_iload 2 3 L st σ n k w (zk1 cut G (Z f)) G R T := zrs hZ rfl f L st σ n k w
theorem f_X15_isNumber_3 (hZ : ZRN (ztb (tb_X15_isNumber E d mc ms)) cut G R T Z) (f : Nat) (L : ZLV) (st : List Value) (σ : ZHp) (n k w : Nat) : Z (f + 1) 3 L st σ n k w = s_callV E d mc ms 14 MX15_eat 2 6 L st σ n k w (zk1 cut G (Z f)) G R T := zrs hZ rfl f L st σ n k w
theorem f_X15_isNumber_6 (hZ : ZRN (ztb (tb_X15_isNumber E d mc ms)) cut G R T Z) (f : Nat) (L : ZLV) (st : List Value) (σ : ZHp) (n k w : Nat) : Z (f + 1) 6 L st σ n k w = s_if_eq 23 9 L st σ n k w (zk1 cut G (Z f)) G R T := zrs hZ rfl f L st σ n k w
theorem f_X15_isNumber_9 (hZ : ZRN (ztb (tb_X15_isNumber E d mc ms)) cut G R T Z) (f : Nat) (L : ZLV) (st : List Value) (σ : ZHp) (n k w : Nat) : Z (f + 1) 9 L st σ n k w = s_aload 0 10 L st σ n k w (zk1 cut G (Z f)) G R T := zrs hZ rfl f L st σ n k w
theorem f_X15_isNumber_10 (hZ : ZRN (ztb (tb_X15_isNumber E d mc ms)) cut G R T Z) (f : Nat) (L : ZLV) (st : List Value) (σ : ZHp) (n k w : Nat) : Z (f + 1) 10 L st σ n k w = s_aload 1 11 L st σ n k w (zk1 cut G (Z f)) G R T := zrs hZ rfl f L st σ n k w
theorem f_X15_isNumber_11 (hZ : ZRN (ztb (tb_X15_isNumber E d mc ms)) cut G R T Z) (f : Nat) (L : ZLV) (st : List Value) (σ : ZHp) (n k w : Nat) : Z (f + 1) 11 L st σ n k w = s_const (.int (31)) 13 L st σ n k w (zk1 cut G (Z f)) G R T := zrs hZ rfl f L st σ n k w
theorem f_X15_isNumber_13 (hZ : ZRN (ztb (tb_X15_isNumber E d mc ms)) cut G R T Z) (f : Nat) (L : ZLV) (st : List Value) (σ : ZHp) (n k w : Nat) : Z (f + 1) 13 L st σ n k w = s_callV E d mc ms 14 MX15_eat 2 16 L st σ n k w (zk1 cut G (Z f)) G R T := zrs hZ rfl f L st σ n k w
theorem f_X15_isNumber_16 (hZ : ZRN (ztb (tb_X15_isNumber E d mc ms)) cut G R T Z) (f : Nat) (L : ZLV) (st : List Value) (σ : ZHp) (n k w : Nat) : Z (f + 1) 16 L st σ n k w = s_if_eq 23 19 L st σ n k w (zk1 cut G (Z f)) G R T := zrs hZ rfl f L st σ n k w
theorem f_X15_isNumber_19 (hZ : ZRN (ztb (tb_X15_isNumber E d mc ms)) cut G R T Z) (f : Nat) (L : ZLV) (st : List Value) (σ : ZHp) (n k w : Nat) : Z (f + 1) 19 L st σ n k w = s_const (.int (1)) 20 L st σ n k w (zk1 cut G (Z f)) G R T := zrs hZ rfl f L st σ n k w
theorem f_X15_isNumber_20 (hZ : ZRN (ztb (tb_X15_isNumber E d mc ms)) cut G R T Z) (f : Nat) (L : ZLV) (st : List Value) (σ : ZHp) (n k w : Nat) : Z (f + 1) 20 L st σ n k w = s_goto 24 L st σ n k w (zk1 cut G (Z f)) G R T := zrs hZ rfl f L st σ n k w
theorem f_X15_isNumber_23 (hZ : ZRN (ztb (tb_X15_isNumber E d mc ms)) cut G R T Z) (f : Nat) (L : ZLV) (st : List Value) (σ : ZHp) (n k w : Nat) : Z (f + 1) 23 L st σ n k w = s_const (.int (0)) 24 L st σ n k w (zk1 cut G (Z f)) G R T := zrs hZ rfl f L st σ n k w
theorem f_X15_isNumber_24 (hZ : ZRN (ztb (tb_X15_isNumber E d mc ms)) cut G R T Z) (f : Nat) (L : ZLV) (st : List Value) (σ : ZHp) (n k w : Nat) : Z (f + 1) 24 L st σ n k w = s_zreturn L st σ n k w (zk1 cut G (Z f)) G R T := zrs hZ rfl f L st σ n k w
theorem f_X15_isName_0 (hZ : ZRN (ztb (tb_X15_isName E d mc ms)) cut G R T Z) (f : Nat) (L : ZLV) (st : List Value) (σ : ZHp) (n k w : Nat) : Z (f + 1) 0 L st σ n k w = s_aload 0 1 L st σ n k w (zk1 cut G (Z f)) G R T := zrs hZ rfl f L st σ n k w
theorem f_X15_isName_1 (hZ : ZRN (ztb (tb_X15_isName E d mc ms)) cut G R T Z) (f : Nat) (L : ZLV) (st : List Value) (σ : ZHp) (n k w : Nat) : Z (f + 1) 1 L st σ n k w = s_aload 1 2 L st σ n k w (zk1 cut G (Z f)) G R T := zrs hZ rfl f L st σ n k w
theorem f_X15_isName_2 (hZ : ZRN (ztb (tb_X15_isName E d mc ms)) cut G R T Z) (f : Nat) (L : ZLV) (st : List Value) (σ : ZHp) (n k w : Nat) : Z (f + 1) 2 L st σ n k w = s_iload 2 3 L st σ n k w (zk1 cut G (Z f)) G R T := zrs hZ rfl f L st σ n k w
theorem f_X15_isName_3 (hZ : ZRN (ztb (tb_X15_isName E d mc ms)) cut G R T Z) (f : Nat) (L : ZLV) (st : List Value) (σ : ZHp) (n k w : Nat) : Z (f + 1) 3 L st σ n k w = s_callV E d mc ms 14 MX15_eat 2 6 L st σ n k w (zk1 cut G (Z f)) G R T := zrs hZ rfl f L st σ n k w
theorem f_X15_isName_6 (hZ : ZRN (ztb (tb_X15_isName E d mc ms)) cut G R T Z) (f : Nat) (L : ZLV) (st : List Value) (σ : ZHp) (n k w : Nat) : Z (f + 1) 6 L st σ n k w = s_if_eq 23 9 L st σ n k w (zk1 cut G (Z f)) G R T := zrs hZ rfl f L st σ n k w
theorem f_X15_isName_9 (hZ : ZRN (ztb (tb_X15_isName E d mc ms)) cut G R T Z) (f : Nat) (L : ZLV) (st : List Value) (σ : ZHp) (n k w : Nat) : Z (f + 1) 9 L st σ n k w = s_aload 0 10 L st σ n k w (zk1 cut G (Z f)) G R T := zrs hZ rfl f L st σ n k w
theorem f_X15_isName_10 (hZ : ZRN (ztb (tb_X15_isName E d mc ms)) cut G R T Z) (f : Nat) (L : ZLV) (st : List Value) (σ : ZHp) (n k w : Nat) : Z (f + 1) 10 L st σ n k w = s_aload 1 11 L st σ n k w (zk1 cut G (Z f)) G R T := zrs hZ rfl f L st σ n k w
theorem f_X15_isName_11 (hZ : ZRN (ztb (tb_X15_isName E d mc ms)) cut G R T Z) (f : Nat) (L : ZLV) (st : List Value) (σ : ZHp) (n k w : Nat) : Z (f + 1) 11 L st σ n k w = s_const (.int (30)) 13 L st σ n k w (zk1 cut G (Z f)) G R T := zrs hZ rfl f L st σ n k w
theorem f_X15_isName_13 (hZ : ZRN (ztb (tb_X15_isName E d mc ms)) cut G R T Z) (f : Nat) (L : ZLV) (st : List Value) (σ : ZHp) (n k w : Nat) : Z (f + 1) 13 L st σ n k w = s_callV E d mc ms 14 MX15_eat 2 16 L st σ n k w (zk1 cut G (Z f)) G R T := zrs hZ rfl f L st σ n k w
theorem f_X15_isName_16 (hZ : ZRN (ztb (tb_X15_isName E d mc ms)) cut G R T Z) (f : Nat) (L : ZLV) (st : List Value) (σ : ZHp) (n k w : Nat) : Z (f + 1) 16 L st σ n k w = s_if_eq 23 19 L st σ n k w (zk1 cut G (Z f)) G R T := zrs hZ rfl f L st σ n k w
theorem f_X15_isName_19 (hZ : ZRN (ztb (tb_X15_isName E d mc ms)) cut G R T Z) (f : Nat) (L : ZLV) (st : List Value) (σ : ZHp) (n k w : Nat) : Z (f + 1) 19 L st σ n k w = s_const (.int (1)) 20 L st σ n k w (zk1 cut G (Z f)) G R T := zrs hZ rfl f L st σ n k w
theorem f_X15_isName_20 (hZ : ZRN (ztb (tb_X15_isName E d mc ms)) cut G R T Z) (f : Nat) (L : ZLV) (st : List Value) (σ : ZHp) (n k w : Nat) : Z (f + 1) 20 L st σ n k w = s_goto 24 L st σ n k w (zk1 cut G (Z f)) G R T := zrs hZ rfl f L st σ n k w
theorem f_X15_isName_23 (hZ : ZRN (ztb (tb_X15_isName E d mc ms)) cut G R T Z) (f : Nat) (L : ZLV) (st : List Value) (σ : ZHp) (n k w : Nat) : Z (f + 1) 23 L st σ n k w = s_const (.int (0)) 24 L st σ n k w (zk1 cut G (Z f)) G R T := zrs hZ rfl f L st σ n k w
theorem f_X15_isName_24 (hZ : ZRN (ztb (tb_X15_isName E d mc ms)) cut G R T Z) (f : Nat) (L : ZLV) (st : List Value) (σ : ZHp) (n k w : Nat) : Z (f + 1) 24 L st σ n k w = s_zreturn L st σ n k w (zk1 cut G (Z f)) G R T := zrs hZ rfl f L st σ n k w
theorem f_X15_isLine_0 (hZ : ZRN (ztb (tb_X15_isLine E d mc ms)) cut G R T Z) (f : Nat) (L : ZLV) (st : List Value) (σ : ZHp) (n k w : Nat) : Z (f + 1) 0 L st σ n k w = s_aload 1 1 L st σ n k w (zk1 cut G (Z f)) G R T := zrs hZ rfl f L st σ n k w
theorem f_X15_isLine_1 (hZ : ZRN (ztb (tb_X15_isLine E d mc ms)) cut G R T Z) (f : Nat) (L : ZLV) (st : List Value) (σ : ZHp) (n k w : Nat) : Z (f + 1) 1 L st σ n k w = s_getf 12 0 4 L st σ n k w (zk1 cut G (Z f)) G R T := zrs hZ rfl f L st σ n k w
theorem f_X15_isLine_4 (hZ : ZRN (ztb (tb_X15_isLine E d mc ms)) cut G R T Z) (f : Nat) (L : ZLV) (st : List Value) (σ : ZHp) (n k w : Nat) : Z (f + 1) 4 L st σ n k w = s_aload 0 5 L st σ n k w (zk1 cut G (Z f)) G R T := zrs hZ rfl f L st σ n k w
theorem f_X15_isLine_5 (hZ : ZRN (ztb (tb_X15_isLine E d mc ms)) cut G R T Z) (f : Nat) (L : ZLV) (st : List Value) (σ : ZHp) (n k w : Nat) : Z (f + 1) 5 L st σ n k w = s_getf 14 4 8 L st σ n k w (zk1 cut G (Z f)) G R T := zrs hZ rfl f L st σ n k w
theorem f_X15_isLine_8 (hZ : ZRN (ztb (tb_X15_isLine E d mc ms)) cut G R T Z) (f : Nat) (L : ZLV) (st : List Value) (σ : ZHp) (n k w : Nat) : Z (f + 1) 8 L st σ n k w = s_iaload E 9 L st σ n k w (zk1 cut G (Z f)) G R T := zrs hZ rfl f L st σ n k w
theorem f_X15_isLine_9 (hZ : ZRN (ztb (tb_X15_isLine E d mc ms)) cut G R T Z) (f : Nat) (L : ZLV) (st : List Value) (σ : ZHp) (n k w : Nat) : Z (f + 1) 9 L st σ n k w = s_lsw [(0, 52), (8, 93), (10, 93), (11, 129)] 137 L st σ n k w (zk1 cut G (Z f)) G R T := zrs hZ rfl f L st σ n k w
theorem f_X15_isLine_52 (hZ : ZRN (ztb (tb_X15_isLine E d mc ms)) cut G R T Z) (f : Nat) (L : ZLV) (st : List Value) (σ : ZHp) (n k w : Nat) : Z (f + 1) 52 L st σ n k w = s_aload 0 53 L st σ n k w (zk1 cut G (Z f)) G R T := zrs hZ rfl f L st σ n k w
theorem f_X15_isLine_53 (hZ : ZRN (ztb (tb_X15_isLine E d mc ms)) cut G R T Z) (f : Nat) (L : ZLV) (st : List Value) (σ : ZHp) (n k w : Nat) : Z (f + 1) 53 L st σ n k w = s_aload 1 54 L st σ n k w (zk1 cut G (Z f)) G R T := zrs hZ rfl f L st σ n k w
theorem f_X15_isLine_54 (hZ : ZRN (ztb (tb_X15_isLine E d mc ms)) cut G R T Z) (f : Nat) (L : ZLV) (st : List Value) (σ : ZHp) (n k w : Nat) : Z (f + 1) 54 L st σ n k w = s_const (.int (0)) 55 L st σ n k w (zk1 cut G (Z f)) G R T := zrs hZ rfl f L st σ n k w
theorem f_X15_isLine_55 (hZ : ZRN (ztb (tb_X15_isLine E d mc ms)) cut G R T Z) (f : Nat) (L : ZLV) (st : List Value) (σ : ZHp) (n k w : Nat) : Z (f + 1) 55 L st σ n k w = s_callV E d mc ms 14 MX15_isName 2 58 L st σ n k w (zk1 cut G (Z f)) G R T := zrs hZ rfl f L st σ n k w
theorem f_X15_isLine_58 (hZ : ZRN (ztb (tb_X15_isLine E d mc ms)) cut G R T Z) (f : Nat) (L : ZLV) (st : List Value) (σ : ZHp) (n k w : Nat) : Z (f + 1) 58 L st σ n k w = s_if_eq 91 61 L st σ n k w (zk1 cut G (Z f)) G R T := zrs hZ rfl f L st σ n k w
theorem f_X15_isLine_61 (hZ : ZRN (ztb (tb_X15_isLine E d mc ms)) cut G R T Z) (f : Nat) (L : ZLV) (st : List Value) (σ : ZHp) (n k w : Nat) : Z (f + 1) 61 L st σ n k w = s_aload 0 62 L st σ n k w (zk1 cut G (Z f)) G R T := zrs hZ rfl f L st σ n k w
theorem f_X15_isLine_62 (hZ : ZRN (ztb (tb_X15_isLine E d mc ms)) cut G R T Z) (f : Nat) (L : ZLV) (st : List Value) (σ : ZHp) (n k w : Nat) : Z (f + 1) 62 L st σ n k w = s_aload 1 63 L st σ n k w (zk1 cut G (Z f)) G R T := zrs hZ rfl f L st σ n k w
theorem f_X15_isLine_63 (hZ : ZRN (ztb (tb_X15_isLine E d mc ms)) cut G R T Z) (f : Nat) (L : ZLV) (st : List Value) (σ : ZHp) (n k w : Nat) : Z (f + 1) 63 L st σ n k w = s_const (.int (1)) 64 L st σ n k w (zk1 cut G (Z f)) G R T := zrs hZ rfl f L st σ n k w
theorem f_X15_isLine_64 (hZ : ZRN (ztb (tb_X15_isLine E d mc ms)) cut G R T Z) (f : Nat) (L : ZLV) (st : List Value) (σ : ZHp) (n k w : Nat) : Z (f + 1) 64 L st σ n k w = s_callV E d mc ms 14 MX15_isNumber 2 67 L st σ n k w (zk1 cut G (Z f)) G R T := zrs hZ rfl f L st σ n k w
theorem f_X15_isLine_67 (hZ : ZRN (ztb (tb_X15_isLine E d mc ms)) cut G R T Z) (f : Nat) (L : ZLV) (st : List Value) (σ : ZHp) (n k w : Nat) : Z (f + 1) 67 L st σ n k w = s_if_eq 91 70 L st σ n k w (zk1 cut G (Z f)) G R T := zrs hZ rfl f L st σ n k w
theorem f_X15_isLine_70 (hZ : ZRN (ztb (tb_X15_isLine E d mc ms)) cut G R T Z) (f : Nat) (L : ZLV) (st : List Value) (σ : ZHp) (n k w : Nat) : Z (f + 1) 70 L st σ n k w = s_aload 0 71 L st σ n k w (zk1 cut G (Z f)) G R T := zrs hZ rfl f L st σ n k w
theorem f_X15_isLine_71 (hZ : ZRN (ztb (tb_X15_isLine E d mc ms)) cut G R T Z) (f : Nat) (L : ZLV) (st : List Value) (σ : ZHp) (n k w : Nat) : Z (f + 1) 71 L st σ n k w = s_aload 1 72 L st σ n k w (zk1 cut G (Z f)) G R T := zrs hZ rfl f L st σ n k w
theorem f_X15_isLine_72 (hZ : ZRN (ztb (tb_X15_isLine E d mc ms)) cut G R T Z) (f : Nat) (L : ZLV) (st : List Value) (σ : ZHp) (n k w : Nat) : Z (f + 1) 72 L st σ n k w = s_const (.int (2)) 73 L st σ n k w (zk1 cut G (Z f)) G R T := zrs hZ rfl f L st σ n k w
theorem f_X15_isLine_73 (hZ : ZRN (ztb (tb_X15_isLine E d mc ms)) cut G R T Z) (f : Nat) (L : ZLV) (st : List Value) (σ : ZHp) (n k w : Nat) : Z (f + 1) 73 L st σ n k w = s_callV E d mc ms 14 MX15_isNumber 2 76 L st σ n k w (zk1 cut G (Z f)) G R T := zrs hZ rfl f L st σ n k w
theorem f_X15_isLine_76 (hZ : ZRN (ztb (tb_X15_isLine E d mc ms)) cut G R T Z) (f : Nat) (L : ZLV) (st : List Value) (σ : ZHp) (n k w : Nat) : Z (f + 1) 76 L st σ n k w = s_if_eq 91 79 L st σ n k w (zk1 cut G (Z f)) G R T := zrs hZ rfl f L st σ n k w
theorem f_X15_isLine_79 (hZ : ZRN (ztb (tb_X15_isLine E d mc ms)) cut G R T Z) (f : Nat) (L : ZLV) (st : List Value) (σ : ZHp) (n k w : Nat) : Z (f + 1) 79 L st σ n k w = s_aload 0 80 L st σ n k w (zk1 cut G (Z f)) G R T := zrs hZ rfl f L st σ n k w
theorem f_X15_isLine_80 (hZ : ZRN (ztb (tb_X15_isLine E d mc ms)) cut G R T Z) (f : Nat) (L : ZLV) (st : List Value) (σ : ZHp) (n k w : Nat) : Z (f + 1) 80 L st σ n k w = s_aload 1 81 L st σ n k w (zk1 cut G (Z f)) G R T := zrs hZ rfl f L st σ n k w
theorem f_X15_isLine_81 (hZ : ZRN (ztb (tb_X15_isLine E d mc ms)) cut G R T Z) (f : Nat) (L : ZLV) (st : List Value) (σ : ZHp) (n k w : Nat) : Z (f + 1) 81 L st σ n k w = s_callV E d mc ms 14 MX15_areDeeds 1 84 L st σ n k w (zk1 cut G (Z f)) G R T := zrs hZ rfl f L st σ n k w
theorem f_X15_isLine_84 (hZ : ZRN (ztb (tb_X15_isLine E d mc ms)) cut G R T Z) (f : Nat) (L : ZLV) (st : List Value) (σ : ZHp) (n k w : Nat) : Z (f + 1) 84 L st σ n k w = s_if_eq 91 87 L st σ n k w (zk1 cut G (Z f)) G R T := zrs hZ rfl f L st σ n k w
theorem f_X15_isLine_87 (hZ : ZRN (ztb (tb_X15_isLine E d mc ms)) cut G R T Z) (f : Nat) (L : ZLV) (st : List Value) (σ : ZHp) (n k w : Nat) : Z (f + 1) 87 L st σ n k w = s_const (.int (1)) 88 L st σ n k w (zk1 cut G (Z f)) G R T := zrs hZ rfl f L st σ n k w
theorem f_X15_isLine_88 (hZ : ZRN (ztb (tb_X15_isLine E d mc ms)) cut G R T Z) (f : Nat) (L : ZLV) (st : List Value) (σ : ZHp) (n k w : Nat) : Z (f + 1) 88 L st σ n k w = s_goto 92 L st σ n k w (zk1 cut G (Z f)) G R T := zrs hZ rfl f L st σ n k w
theorem f_X15_isLine_91 (hZ : ZRN (ztb (tb_X15_isLine E d mc ms)) cut G R T Z) (f : Nat) (L : ZLV) (st : List Value) (σ : ZHp) (n k w : Nat) : Z (f + 1) 91 L st σ n k w = s_const (.int (0)) 92 L st σ n k w (zk1 cut G (Z f)) G R T := zrs hZ rfl f L st σ n k w
theorem f_X15_isLine_92 (hZ : ZRN (ztb (tb_X15_isLine E d mc ms)) cut G R T Z) (f : Nat) (L : ZLV) (st : List Value) (σ : ZHp) (n k w : Nat) : Z (f + 1) 92 L st σ n k w = s_zreturn L st σ n k w (zk1 cut G (Z f)) G R T := zrs hZ rfl f L st σ n k w
theorem f_X15_isLine_93 (hZ : ZRN (ztb (tb_X15_isLine E d mc ms)) cut G R T Z) (f : Nat) (L : ZLV) (st : List Value) (σ : ZHp) (n k w : Nat) : Z (f + 1) 93 L st σ n k w = s_aload 0 94 L st σ n k w (zk1 cut G (Z f)) G R T := zrs hZ rfl f L st σ n k w
theorem f_X15_isLine_94 (hZ : ZRN (ztb (tb_X15_isLine E d mc ms)) cut G R T Z) (f : Nat) (L : ZLV) (st : List Value) (σ : ZHp) (n k w : Nat) : Z (f + 1) 94 L st σ n k w = s_dup 95 L st σ n k w (zk1 cut G (Z f)) G R T := zrs hZ rfl f L st σ n k w
theorem f_X15_isLine_95 (hZ : ZRN (ztb (tb_X15_isLine E d mc ms)) cut G R T Z) (f : Nat) (L : ZLV) (st : List Value) (σ : ZHp) (n k w : Nat) : Z (f + 1) 95 L st σ n k w = s_getf 14 4 98 L st σ n k w (zk1 cut G (Z f)) G R T := zrs hZ rfl f L st σ n k w
theorem f_X15_isLine_98 (hZ : ZRN (ztb (tb_X15_isLine E d mc ms)) cut G R T Z) (f : Nat) (L : ZLV) (st : List Value) (σ : ZHp) (n k w : Nat) : Z (f + 1) 98 L st σ n k w = s_const (.int (1)) 99 L st σ n k w (zk1 cut G (Z f)) G R T := zrs hZ rfl f L st σ n k w
theorem f_X15_isLine_99 (hZ : ZRN (ztb (tb_X15_isLine E d mc ms)) cut G R T Z) (f : Nat) (L : ZLV) (st : List Value) (σ : ZHp) (n k w : Nat) : Z (f + 1) 99 L st σ n k w = s_iadd 100 L st σ n k w (zk1 cut G (Z f)) G R T := zrs hZ rfl f L st σ n k w
theorem f_X15_isLine_100 (hZ : ZRN (ztb (tb_X15_isLine E d mc ms)) cut G R T Z) (f : Nat) (L : ZLV) (st : List Value) (σ : ZHp) (n k w : Nat) : Z (f + 1) 100 L st σ n k w = s_putf 14 4 0 103 L st σ n k w (zk1 cut G (Z f)) G R T := zrs hZ rfl f L st σ n k w
theorem f_X15_isLine_103 (hZ : ZRN (ztb (tb_X15_isLine E d mc ms)) cut G R T Z) (f : Nat) (L : ZLV) (st : List Value) (σ : ZHp) (n k w : Nat) : Z (f + 1) 103 L st σ n k w = s_aload 0 104 L st σ n k w (zk1 cut G (Z f)) G R T := zrs hZ rfl f L st σ n k w
theorem f_X15_isLine_104 (hZ : ZRN (ztb (tb_X15_isLine E d mc ms)) cut G R T Z) (f : Nat) (L : ZLV) (st : List Value) (σ : ZHp) (n k w : Nat) : Z (f + 1) 104 L st σ n k w = s_aload 1 105 L st σ n k w (zk1 cut G (Z f)) G R T := zrs hZ rfl f L st σ n k w
theorem f_X15_isLine_105 (hZ : ZRN (ztb (tb_X15_isLine E d mc ms)) cut G R T Z) (f : Nat) (L : ZLV) (st : List Value) (σ : ZHp) (n k w : Nat) : Z (f + 1) 105 L st σ n k w = s_const (.int (31)) 107 L st σ n k w (zk1 cut G (Z f)) G R T := zrs hZ rfl f L st σ n k w
theorem f_X15_isLine_107 (hZ : ZRN (ztb (tb_X15_isLine E d mc ms)) cut G R T Z) (f : Nat) (L : ZLV) (st : List Value) (σ : ZHp) (n k w : Nat) : Z (f + 1) 107 L st σ n k w = s_callV E d mc ms 14 MX15_eat 2 110 L st σ n k w (zk1 cut G (Z f)) G R T := zrs hZ rfl f L st σ n k w
theorem f_X15_isLine_110 (hZ : ZRN (ztb (tb_X15_isLine E d mc ms)) cut G R T Z) (f : Nat) (L : ZLV) (st : List Value) (σ : ZHp) (n k w : Nat) : Z (f + 1) 110 L st σ n k w = s_if_eq 127 113 L st σ n k w (zk1 cut G (Z f)) G R T := zrs hZ rfl f L st σ n k w
theorem f_X15_isLine_113 (hZ : ZRN (ztb (tb_X15_isLine E d mc ms)) cut G R T Z) (f : Nat) (L : ZLV) (st : List Value) (σ : ZHp) (n k w : Nat) : Z (f + 1) 113 L st σ n k w = s_aload 0 114 L st σ n k w (zk1 cut G (Z f)) G R T := zrs hZ rfl f L st σ n k w
theorem f_X15_isLine_114 (hZ : ZRN (ztb (tb_X15_isLine E d mc ms)) cut G R T Z) (f : Nat) (L : ZLV) (st : List Value) (σ : ZHp) (n k w : Nat) : Z (f + 1) 114 L st σ n k w = s_aload 1 115 L st σ n k w (zk1 cut G (Z f)) G R T := zrs hZ rfl f L st σ n k w
theorem f_X15_isLine_115 (hZ : ZRN (ztb (tb_X15_isLine E d mc ms)) cut G R T Z) (f : Nat) (L : ZLV) (st : List Value) (σ : ZHp) (n k w : Nat) : Z (f + 1) 115 L st σ n k w = s_const (.int (9)) 117 L st σ n k w (zk1 cut G (Z f)) G R T := zrs hZ rfl f L st σ n k w
theorem f_X15_isLine_117 (hZ : ZRN (ztb (tb_X15_isLine E d mc ms)) cut G R T Z) (f : Nat) (L : ZLV) (st : List Value) (σ : ZHp) (n k w : Nat) : Z (f + 1) 117 L st σ n k w = s_callV E d mc ms 14 MX15_isName 2 120 L st σ n k w (zk1 cut G (Z f)) G R T := zrs hZ rfl f L st σ n k w
theorem f_X15_isLine_120 (hZ : ZRN (ztb (tb_X15_isLine E d mc ms)) cut G R T Z) (f : Nat) (L : ZLV) (st : List Value) (σ : ZHp) (n k w : Nat) : Z (f + 1) 120 L st σ n k w = s_if_eq 127 123 L st σ n k w (zk1 cut G (Z f)) G R T := zrs hZ rfl f L st σ n k w
theorem f_X15_isLine_123 (hZ : ZRN (ztb (tb_X15_isLine E d mc ms)) cut G R T Z) (f : Nat) (L : ZLV) (st : List Value) (σ : ZHp) (n k w : Nat) : Z (f + 1) 123 L st σ n k w = s_const (.int (1)) 124 L st σ n k w (zk1 cut G (Z f)) G R T := zrs hZ rfl f L st σ n k w
theorem f_X15_isLine_124 (hZ : ZRN (ztb (tb_X15_isLine E d mc ms)) cut G R T Z) (f : Nat) (L : ZLV) (st : List Value) (σ : ZHp) (n k w : Nat) : Z (f + 1) 124 L st σ n k w = s_goto 128 L st σ n k w (zk1 cut G (Z f)) G R T := zrs hZ rfl f L st σ n k w
theorem f_X15_isLine_127 (hZ : ZRN (ztb (tb_X15_isLine E d mc ms)) cut G R T Z) (f : Nat) (L : ZLV) (st : List Value) (σ : ZHp) (n k w : Nat) : Z (f + 1) 127 L st σ n k w = s_const (.int (0)) 128 L st σ n k w (zk1 cut G (Z f)) G R T := zrs hZ rfl f L st σ n k w
theorem f_X15_isLine_128 (hZ : ZRN (ztb (tb_X15_isLine E d mc ms)) cut G R T Z) (f : Nat) (L : ZLV) (st : List Value) (σ : ZHp) (n k w : Nat) : Z (f + 1) 128 L st σ n k w = s_zreturn L st σ n k w (zk1 cut G (Z f)) G R T := zrs hZ rfl f L st σ n k w
theorem f_X15_isLine_129 (hZ : ZRN (ztb (tb_X15_isLine E d mc ms)) cut G R T Z) (f : Nat) (L : ZLV) (st : List Value) (σ : ZHp) (n k w : Nat) : Z (f + 1) 129 L st σ n k w = s_aload 0 130 L st σ n k w (zk1 cut G (Z f)) G R T := zrs hZ rfl f L st σ n k w
theorem f_X15_isLine_130 (hZ : ZRN (ztb (tb_X15_isLine E d mc ms)) cut G R T Z) (f : Nat) (L : ZLV) (st : List Value) (σ : ZHp) (n k w : Nat) : Z (f + 1) 130 L st σ n k w = s_aload 1 131 L st σ n k w (zk1 cut G (Z f)) G R T := zrs hZ rfl f L st σ n k w
theorem f_X15_isLine_131 (hZ : ZRN (ztb (tb_X15_isLine E d mc ms)) cut G R T Z) (f : Nat) (L : ZLV) (st : List Value) (σ : ZHp) (n k w : Nat) : Z (f + 1) 131 L st σ n k w = s_const (.int (11)) 133 L st σ n k w (zk1 cut G (Z f)) G R T := zrs hZ rfl f L st σ n k w
theorem f_X15_isLine_133 (hZ : ZRN (ztb (tb_X15_isLine E d mc ms)) cut G R T Z) (f : Nat) (L : ZLV) (st : List Value) (σ : ZHp) (n k w : Nat) : Z (f + 1) 133 L st σ n k w = s_callV E d mc ms 14 MX15_isName 2 136 L st σ n k w (zk1 cut G (Z f)) G R T := zrs hZ rfl f L st σ n k w
theorem f_X15_isLine_136 (hZ : ZRN (ztb (tb_X15_isLine E d mc ms)) cut G R T Z) (f : Nat) (L : ZLV) (st : List Value) (σ : ZHp) (n k w : Nat) : Z (f + 1) 136 L st σ n k w = s_zreturn L st σ n k w (zk1 cut G (Z f)) G R T := zrs hZ rfl f L st σ n k w
theorem f_X15_isLine_137 (hZ : ZRN (ztb (tb_X15_isLine E d mc ms)) cut G R T Z) (f : Nat) (L : ZLV) (st : List Value) (σ : ZHp) (n k w : Nat) : Z (f + 1) 137 L st σ n k w = s_aload 0 138 L st σ n k w (zk1 cut G (Z f)) G R T := zrs hZ rfl f L st σ n k w
theorem f_X15_isLine_138 (hZ : ZRN (ztb (tb_X15_isLine E d mc ms)) cut G R T Z) (f : Nat) (L : ZLV) (st : List Value) (σ : ZHp) (n k w : Nat) : Z (f + 1) 138 L st σ n k w = s_aload 1 139 L st σ n k w (zk1 cut G (Z f)) G R T := zrs hZ rfl f L st σ n k w
theorem f_X15_isLine_139 (hZ : ZRN (ztb (tb_X15_isLine E d mc ms)) cut G R T Z) (f : Nat) (L : ZLV) (st : List Value) (σ : ZHp) (n k w : Nat) : Z (f + 1) 139 L st σ n k w = s_const (.int (12)) 141 L st σ n k w (zk1 cut G (Z f)) G R T := zrs hZ rfl f L st σ n k w
theorem f_X15_isLine_141 (hZ : ZRN (ztb (tb_X15_isLine E d mc ms)) cut G R T Z) (f : Nat) (L : ZLV) (st : List Value) (σ : ZHp) (n k w : Nat) : Z (f + 1) 141 L st σ n k w = s_callV E d mc ms 14 MX15_isName 2 144 L st σ n k w (zk1 cut G (Z f)) G R T := zrs hZ rfl f L st σ n k w
theorem f_X15_isLine_144 (hZ : ZRN (ztb (tb_X15_isLine E d mc ms)) cut G R T Z) (f : Nat) (L : ZLV) (st : List Value) (σ : ZHp) (n k w : Nat) : Z (f + 1) 144 L st σ n k w = s_if_eq 179 147 L st σ n k w (zk1 cut G (Z f)) G R T := zrs hZ rfl f L st σ n k w
theorem f_X15_isLine_147 (hZ : ZRN (ztb (tb_X15_isLine E d mc ms)) cut G R T Z) (f : Nat) (L : ZLV) (st : List Value) (σ : ZHp) (n k w : Nat) : Z (f + 1) 147 L st σ n k w = s_aload 0 148 L st σ n k w (zk1 cut G (Z f)) G R T := zrs hZ rfl f L st σ n k w
theorem f_X15_isLine_148 (hZ : ZRN (ztb (tb_X15_isLine E d mc ms)) cut G R T Z) (f : Nat) (L : ZLV) (st : List Value) (σ : ZHp) (n k w : Nat) : Z (f + 1) 148 L st σ n k w = s_aload 1 149 L st σ n k w (zk1 cut G (Z f)) G R T := zrs hZ rfl f L st σ n k w
theorem f_X15_isLine_149 (hZ : ZRN (ztb (tb_X15_isLine E d mc ms)) cut G R T Z) (f : Nat) (L : ZLV) (st : List Value) (σ : ZHp) (n k w : Nat) : Z (f + 1) 149 L st σ n k w = s_const (.int (13)) 151 L st σ n k w (zk1 cut G (Z f)) G R T := zrs hZ rfl f L st σ n k w
theorem f_X15_isLine_151 (hZ : ZRN (ztb (tb_X15_isLine E d mc ms)) cut G R T Z) (f : Nat) (L : ZLV) (st : List Value) (σ : ZHp) (n k w : Nat) : Z (f + 1) 151 L st σ n k w = s_callV E d mc ms 14 MX15_isName 2 154 L st σ n k w (zk1 cut G (Z f)) G R T := zrs hZ rfl f L st σ n k w
theorem f_X15_isLine_154 (hZ : ZRN (ztb (tb_X15_isLine E d mc ms)) cut G R T Z) (f : Nat) (L : ZLV) (st : List Value) (σ : ZHp) (n k w : Nat) : Z (f + 1) 154 L st σ n k w = s_if_eq 179 157 L st σ n k w (zk1 cut G (Z f)) G R T := zrs hZ rfl f L st σ n k w
theorem f_X15_isLine_157 (hZ : ZRN (ztb (tb_X15_isLine E d mc ms)) cut G R T Z) (f : Nat) (L : ZLV) (st : List Value) (σ : ZHp) (n k w : Nat) : Z (f + 1) 157 L st σ n k w = s_aload 0 158 L st σ n k w (zk1 cut G (Z f)) G R T := zrs hZ rfl f L st σ n k w
theorem f_X15_isLine_158 (hZ : ZRN (ztb (tb_X15_isLine E d mc ms)) cut G R T Z) (f : Nat) (L : ZLV) (st : List Value) (σ : ZHp) (n k w : Nat) : Z (f + 1) 158 L st σ n k w = s_aload 1 159 L st σ n k w (zk1 cut G (Z f)) G R T := zrs hZ rfl f L st σ n k w
theorem f_X15_isLine_159 (hZ : ZRN (ztb (tb_X15_isLine E d mc ms)) cut G R T Z) (f : Nat) (L : ZLV) (st : List Value) (σ : ZHp) (n k w : Nat) : Z (f + 1) 159 L st σ n k w = s_const (.int (14)) 161 L st σ n k w (zk1 cut G (Z f)) G R T := zrs hZ rfl f L st σ n k w
theorem f_X15_isLine_161 (hZ : ZRN (ztb (tb_X15_isLine E d mc ms)) cut G R T Z) (f : Nat) (L : ZLV) (st : List Value) (σ : ZHp) (n k w : Nat) : Z (f + 1) 161 L st σ n k w = s_callV E d mc ms 14 MX15_eat 2 164 L st σ n k w (zk1 cut G (Z f)) G R T := zrs hZ rfl f L st σ n k w
theorem f_X15_isLine_164 (hZ : ZRN (ztb (tb_X15_isLine E d mc ms)) cut G R T Z) (f : Nat) (L : ZLV) (st : List Value) (σ : ZHp) (n k w : Nat) : Z (f + 1) 164 L st σ n k w = s_if_eq 175 167 L st σ n k w (zk1 cut G (Z f)) G R T := zrs hZ rfl f L st σ n k w
theorem f_X15_isLine_167 (hZ : ZRN (ztb (tb_X15_isLine E d mc ms)) cut G R T Z) (f : Nat) (L : ZLV) (st : List Value) (σ : ZHp) (n k w : Nat) : Z (f + 1) 167 L st σ n k w = s_aload 0 168 L st σ n k w (zk1 cut G (Z f)) G R T := zrs hZ rfl f L st σ n k w
theorem f_X15_isLine_168 (hZ : ZRN (ztb (tb_X15_isLine E d mc ms)) cut G R T Z) (f : Nat) (L : ZLV) (st : List Value) (σ : ZHp) (n k w : Nat) : Z (f + 1) 168 L st σ n k w = s_aload 1 169 L st σ n k w (zk1 cut G (Z f)) G R T := zrs hZ rfl f L st σ n k w
theorem f_X15_isLine_169 (hZ : ZRN (ztb (tb_X15_isLine E d mc ms)) cut G R T Z) (f : Nat) (L : ZLV) (st : List Value) (σ : ZHp) (n k w : Nat) : Z (f + 1) 169 L st σ n k w = s_callV E d mc ms 14 MX15_isTest 1 172 L st σ n k w (zk1 cut G (Z f)) G R T := zrs hZ rfl f L st σ n k w
theorem f_X15_isLine_172 (hZ : ZRN (ztb (tb_X15_isLine E d mc ms)) cut G R T Z) (f : Nat) (L : ZLV) (st : List Value) (σ : ZHp) (n k w : Nat) : Z (f + 1) 172 L st σ n k w = s_if_eq 179 175 L st σ n k w (zk1 cut G (Z f)) G R T := zrs hZ rfl f L st σ n k w
theorem f_X15_isLine_175 (hZ : ZRN (ztb (tb_X15_isLine E d mc ms)) cut G R T Z) (f : Nat) (L : ZLV) (st : List Value) (σ : ZHp) (n k w : Nat) : Z (f + 1) 175 L st σ n k w = s_const (.int (1)) 176 L st σ n k w (zk1 cut G (Z f)) G R T := zrs hZ rfl f L st σ n k w
theorem f_X15_isLine_176 (hZ : ZRN (ztb (tb_X15_isLine E d mc ms)) cut G R T Z) (f : Nat) (L : ZLV) (st : List Value) (σ : ZHp) (n k w : Nat) : Z (f + 1) 176 L st σ n k w = s_goto 180 L st σ n k w (zk1 cut G (Z f)) G R T := zrs hZ rfl f L st σ n k w
theorem f_X15_isLine_179 (hZ : ZRN (ztb (tb_X15_isLine E d mc ms)) cut G R T Z) (f : Nat) (L : ZLV) (st : List Value) (σ : ZHp) (n k w : Nat) : Z (f + 1) 179 L st σ n k w = s_const (.int (0)) 180 L st σ n k w (zk1 cut G (Z f)) G R T := zrs hZ rfl f L st σ n k w
theorem f_X15_isLine_180 (hZ : ZRN (ztb (tb_X15_isLine E d mc ms)) cut G R T Z) (f : Nat) (L : ZLV) (st : List Value) (σ : ZHp) (n k w : Nat) : Z (f + 1) 180 L st σ n k w = s_zreturn L st σ n k w (zk1 cut G (Z f)) G R T := zrs hZ rfl f L st σ n k w
theorem f_X15_areDeeds_0 (hZ : ZRN (ztb (tb_X15_areDeeds E d mc ms)) cut G R T Z) (f : Nat) (L : ZLV) (st : List Value) (σ : ZHp) (n k w : Nat) : Z (f + 1) 0 L st σ n k w = s_aload 1 1 L st σ n k w (zk1 cut G (Z f)) G R T := zrs hZ rfl f L st σ n k w
theorem f_X15_areDeeds_1 (hZ : ZRN (ztb (tb_X15_areDeeds E d mc ms)) cut G R T Z) (f : Nat) (L : ZLV) (st : List Value) (σ : ZHp) (n k w : Nat) : Z (f + 1) 1 L st σ n k w = s_getf 12 0 4 L st σ n k w (zk1 cut G (Z f)) G R T := zrs hZ rfl f L st σ n k w
theorem f_X15_areDeeds_4 (hZ : ZRN (ztb (tb_X15_areDeeds E d mc ms)) cut G R T Z) (f : Nat) (L : ZLV) (st : List Value) (σ : ZHp) (n k w : Nat) : Z (f + 1) 4 L st σ n k w = s_aload 0 5 L st σ n k w (zk1 cut G (Z f)) G R T := zrs hZ rfl f L st σ n k w
theorem f_X15_areDeeds_5 (hZ : ZRN (ztb (tb_X15_areDeeds E d mc ms)) cut G R T Z) (f : Nat) (L : ZLV) (st : List Value) (σ : ZHp) (n k w : Nat) : Z (f + 1) 5 L st σ n k w = s_getf 14 4 8 L st σ n k w (zk1 cut G (Z f)) G R T := zrs hZ rfl f L st σ n k w
theorem f_X15_areDeeds_8 (hZ : ZRN (ztb (tb_X15_areDeeds E d mc ms)) cut G R T Z) (f : Nat) (L : ZLV) (st : List Value) (σ : ZHp) (n k w : Nat) : Z (f + 1) 8 L st σ n k w = s_iaload E 9 L st σ n k w (zk1 cut G (Z f)) G R T := zrs hZ rfl f L st σ n k w
theorem f_X15_areDeeds_9 (hZ : ZRN (ztb (tb_X15_areDeeds E d mc ms)) cut G R T Z) (f : Nat) (L : ZLV) (st : List Value) (σ : ZHp) (n k w : Nat) : Z (f + 1) 9 L st σ n k w = s_const (.int (3)) 10 L st σ n k w (zk1 cut G (Z f)) G R T := zrs hZ rfl f L st σ n k w
theorem f_X15_areDeeds_10 (hZ : ZRN (ztb (tb_X15_areDeeds E d mc ms)) cut G R T Z) (f : Nat) (L : ZLV) (st : List Value) (σ : ZHp) (n k w : Nat) : Z (f + 1) 10 L st σ n k w = s_const (.int (7)) 12 L st σ n k w (zk1 cut G (Z f)) G R T := zrs hZ rfl f L st σ n k w
theorem f_X15_areDeeds_12 (hZ : ZRN (ztb (tb_X15_areDeeds E d mc ms)) cut G R T Z) (f : Nat) (L : ZLV) (st : List Value) (σ : ZHp) (n k w : Nat) : Z (f + 1) 12 L st σ n k w = s_callS E d mc ms MX15_isIn 3 15 L st σ n k w (zk1 cut G (Z f)) G R T := zrs hZ rfl f L st σ n k w
theorem f_X15_areDeeds_15 (hZ : ZRN (ztb (tb_X15_areDeeds E d mc ms)) cut G R T Z) (f : Nat) (L : ZLV) (st : List Value) (σ : ZHp) (n k w : Nat) : Z (f + 1) 15 L st σ n k w = s_if_eq 83 18 L st σ n k w (zk1 cut G (Z f)) G R T := zrs hZ rfl f L st σ n k w
theorem f_X15_areDeeds_18 (hZ : ZRN (ztb (tb_X15_areDeeds E d mc ms)) cut G R T Z) (f : Nat) (L : ZLV) (st : List Value) (σ : ZHp) (n k w : Nat) : Z (f + 1) 18 L st σ n k w = s_aload 1 19 L st σ n k w (zk1 cut G (Z f)) G R T := zrs hZ rfl f L st σ n k w
theorem f_X15_areDeeds_19 (hZ : ZRN (ztb (tb_X15_areDeeds E d mc ms)) cut G R T Z) (f : Nat) (L : ZLV) (st : List Value) (σ : ZHp) (n k w : Nat) : Z (f + 1) 19 L st σ n k w = s_getf 12 0 22 L st σ n k w (zk1 cut G (Z f)) G R T := zrs hZ rfl f L st σ n k w
theorem f_X15_areDeeds_22 (hZ : ZRN (ztb (tb_X15_areDeeds E d mc ms)) cut G R T Z) (f : Nat) (L : ZLV) (st : List Value) (σ : ZHp) (n k w : Nat) : Z (f + 1) 22 L st σ n k w = s_aload 0 23 L st σ n k w (zk1 cut G (Z f)) G R T := zrs hZ rfl f L st σ n k w
theorem f_X15_areDeeds_23 (hZ : ZRN (ztb (tb_X15_areDeeds E d mc ms)) cut G R T Z) (f : Nat) (L : ZLV) (st : List Value) (σ : ZHp) (n k w : Nat) : Z (f + 1) 23 L st σ n k w = s_getf 14 4 26 L st σ n k w (zk1 cut G (Z f)) G R T := zrs hZ rfl f L st σ n k w
theorem f_X15_areDeeds_26 (hZ : ZRN (ztb (tb_X15_areDeeds E d mc ms)) cut G R T Z) (f : Nat) (L : ZLV) (st : List Value) (σ : ZHp) (n k w : Nat) : Z (f + 1) 26 L st σ n k w = s_iaload E 27 L st σ n k w (zk1 cut G (Z f)) G R T := zrs hZ rfl f L st σ n k w
theorem f_X15_areDeeds_27 (hZ : ZRN (ztb (tb_X15_areDeeds E d mc ms)) cut G R T Z) (f : Nat) (L : ZLV) (st : List Value) (σ : ZHp) (n k w : Nat) : Z (f + 1) 27 L st σ n k w = s_istore 2 28 L st σ n k w (zk1 cut G (Z f)) G R T := zrs hZ rfl f L st σ n k w
theorem f_X15_areDeeds_28 (hZ : ZRN (ztb (tb_X15_areDeeds E d mc ms)) cut G R T Z) (f : Nat) (L : ZLV) (st : List Value) (σ : ZHp) (n k w : Nat) : Z (f + 1) 28 L st σ n k w = s_aload 1 29 L st σ n k w (zk1 cut G (Z f)) G R T := zrs hZ rfl f L st σ n k w
theorem f_X15_areDeeds_29 (hZ : ZRN (ztb (tb_X15_areDeeds E d mc ms)) cut G R T Z) (f : Nat) (L : ZLV) (st : List Value) (σ : ZHp) (n k w : Nat) : Z (f + 1) 29 L st σ n k w = s_getf 12 4 32 L st σ n k w (zk1 cut G (Z f)) G R T := zrs hZ rfl f L st σ n k w
theorem f_X15_areDeeds_32 (hZ : ZRN (ztb (tb_X15_areDeeds E d mc ms)) cut G R T Z) (f : Nat) (L : ZLV) (st : List Value) (σ : ZHp) (n k w : Nat) : Z (f + 1) 32 L st σ n k w = s_aload 0 33 L st σ n k w (zk1 cut G (Z f)) G R T := zrs hZ rfl f L st σ n k w
theorem f_X15_areDeeds_33 (hZ : ZRN (ztb (tb_X15_areDeeds E d mc ms)) cut G R T Z) (f : Nat) (L : ZLV) (st : List Value) (σ : ZHp) (n k w : Nat) : Z (f + 1) 33 L st σ n k w = s_getf 14 4 36 L st σ n k w (zk1 cut G (Z f)) G R T := zrs hZ rfl f L st σ n k w
theorem f_X15_areDeeds_36 (hZ : ZRN (ztb (tb_X15_areDeeds E d mc ms)) cut G R T Z) (f : Nat) (L : ZLV) (st : List Value) (σ : ZHp) (n k w : Nat) : Z (f + 1) 36 L st σ n k w = s_const (.int (1)) 37 L st σ n k w (zk1 cut G (Z f)) G R T := zrs hZ rfl f L st σ n k w
theorem f_X15_areDeeds_37 (hZ : ZRN (ztb (tb_X15_areDeeds E d mc ms)) cut G R T Z) (f : Nat) (L : ZLV) (st : List Value) (σ : ZHp) (n k w : Nat) : Z (f + 1) 37 L st σ n k w = s_iastore E 38 L st σ n k w (zk1 cut G (Z f)) G R T := zrs hZ rfl f L st σ n k w
theorem f_X15_areDeeds_38 (hZ : ZRN (ztb (tb_X15_areDeeds E d mc ms)) cut G R T Z) (f : Nat) (L : ZLV) (st : List Value) (σ : ZHp) (n k w : Nat) : Z (f + 1) 38 L st σ n k w = s_aload 0 39 L st σ n k w (zk1 cut G (Z f)) G R T := zrs hZ rfl f L st σ n k w
theorem f_X15_areDeeds_39 (hZ : ZRN (ztb (tb_X15_areDeeds E d mc ms)) cut G R T Z) (f : Nat) (L : ZLV) (st : List Value) (σ : ZHp) (n k w : Nat) : Z (f + 1) 39 L st σ n k w = s_dup 40 L st σ n k w (zk1 cut G (Z f)) G R T := zrs hZ rfl f L st σ n k w
theorem f_X15_areDeeds_40 (hZ : ZRN (ztb (tb_X15_areDeeds E d mc ms)) cut G R T Z) (f : Nat) (L : ZLV) (st : List Value) (σ : ZHp) (n k w : Nat) : Z (f + 1) 40 L st σ n k w = s_getf 14 4 43 L st σ n k w (zk1 cut G (Z f)) G R T := zrs hZ rfl f L st σ n k w
theorem f_X15_areDeeds_43 (hZ : ZRN (ztb (tb_X15_areDeeds E d mc ms)) cut G R T Z) (f : Nat) (L : ZLV) (st : List Value) (σ : ZHp) (n k w : Nat) : Z (f + 1) 43 L st σ n k w = s_const (.int (1)) 44 L st σ n k w (zk1 cut G (Z f)) G R T := zrs hZ rfl f L st σ n k w
theorem f_X15_areDeeds_44 (hZ : ZRN (ztb (tb_X15_areDeeds E d mc ms)) cut G R T Z) (f : Nat) (L : ZLV) (st : List Value) (σ : ZHp) (n k w : Nat) : Z (f + 1) 44 L st σ n k w = s_iadd 45 L st σ n k w (zk1 cut G (Z f)) G R T := zrs hZ rfl f L st σ n k w
theorem f_X15_areDeeds_45 (hZ : ZRN (ztb (tb_X15_areDeeds E d mc ms)) cut G R T Z) (f : Nat) (L : ZLV) (st : List Value) (σ : ZHp) (n k w : Nat) : Z (f + 1) 45 L st σ n k w = s_putf 14 4 0 48 L st σ n k w (zk1 cut G (Z f)) G R T := zrs hZ rfl f L st σ n k w
theorem f_X15_areDeeds_48 (hZ : ZRN (ztb (tb_X15_areDeeds E d mc ms)) cut G R T Z) (f : Nat) (L : ZLV) (st : List Value) (σ : ZHp) (n k w : Nat) : Z (f + 1) 48 L st σ n k w = s_iload 2 49 L st σ n k w (zk1 cut G (Z f)) G R T := zrs hZ rfl f L st σ n k w
theorem f_X15_areDeeds_49 (hZ : ZRN (ztb (tb_X15_areDeeds E d mc ms)) cut G R T Z) (f : Nat) (L : ZLV) (st : List Value) (σ : ZHp) (n k w : Nat) : Z (f + 1) 49 L st σ n k w = s_const (.int (6)) 51 L st σ n k w (zk1 cut G (Z f)) G R T := zrs hZ rfl f L st σ n k w
theorem f_X15_areDeeds_51 (hZ : ZRN (ztb (tb_X15_areDeeds E d mc ms)) cut G R T Z) (f : Nat) (L : ZLV) (st : List Value) (σ : ZHp) (n k w : Nat) : Z (f + 1) 51 L st σ n k w = s_icmp_lt 64 54 L st σ n k w (zk1 cut G (Z f)) G R T := zrs hZ rfl f L st σ n k w
theorem f_X15_areDeeds_54 (hZ : ZRN (ztb (tb_X15_areDeeds E d mc ms)) cut G R T Z) (f : Nat) (L : ZLV) (st : List Value) (σ : ZHp) (n k w : Nat) : Z (f + 1) 54 L st σ n k w = s_aload 0 55 L st σ n k w (zk1 cut G (Z f)) G R T := zrs hZ rfl f L st σ n k w
theorem f_X15_areDeeds_55 (hZ : ZRN (ztb (tb_X15_areDeeds E d mc ms)) cut G R T Z) (f : Nat) (L : ZLV) (st : List Value) (σ : ZHp) (n k w : Nat) : Z (f + 1) 55 L st σ n k w = s_aload 1 56 L st σ n k w (zk1 cut G (Z f)) G R T := zrs hZ rfl f L st σ n k w
theorem f_X15_areDeeds_56 (hZ : ZRN (ztb (tb_X15_areDeeds E d mc ms)) cut G R T Z) (f : Nat) (L : ZLV) (st : List Value) (σ : ZHp) (n k w : Nat) : Z (f + 1) 56 L st σ n k w = s_const (.int (30)) 58 L st σ n k w (zk1 cut G (Z f)) G R T := zrs hZ rfl f L st σ n k w
theorem f_X15_areDeeds_58 (hZ : ZRN (ztb (tb_X15_areDeeds E d mc ms)) cut G R T Z) (f : Nat) (L : ZLV) (st : List Value) (σ : ZHp) (n k w : Nat) : Z (f + 1) 58 L st σ n k w = s_callV E d mc ms 14 MX15_eat 2 61 L st σ n k w (zk1 cut G (Z f)) G R T := zrs hZ rfl f L st σ n k w
theorem f_X15_areDeeds_61 (hZ : ZRN (ztb (tb_X15_areDeeds E d mc ms)) cut G R T Z) (f : Nat) (L : ZLV) (st : List Value) (σ : ZHp) (n k w : Nat) : Z (f + 1) 61 L st σ n k w = s_if_eq 78 64 L st σ n k w (zk1 cut G (Z f)) G R T := zrs hZ rfl f L st σ n k w
theorem f_X15_areDeeds_64 (hZ : ZRN (ztb (tb_X15_areDeeds E d mc ms)) cut G R T Z) (f : Nat) (L : ZLV) (st : List Value) (σ : ZHp) (n k w : Nat) : Z (f + 1) 64 L st σ n k w = s_iload 2 65 L st σ n k w (zk1 cut G (Z f)) G R T := zrs hZ rfl f L st σ n k w
theorem f_X15_areDeeds_65 (hZ : ZRN (ztb (tb_X15_areDeeds E d mc ms)) cut G R T Z) (f : Nat) (L : ZLV) (st : List Value) (σ : ZHp) (n k w : Nat) : Z (f + 1) 65 L st σ n k w = s_const (.int (6)) 67 L st σ n k w (zk1 cut G (Z f)) G R T := zrs hZ rfl f L st σ n k w
theorem f_X15_areDeeds_67 (hZ : ZRN (ztb (tb_X15_areDeeds E d mc ms)) cut G R T Z) (f : Nat) (L : ZLV) (st : List Value) (σ : ZHp) (n k w : Nat) : Z (f + 1) 67 L st σ n k w = s_icmp_eq 80 70 L st σ n k w (zk1 cut G (Z f)) G R T := zrs hZ rfl f L st σ n k w
theorem f_X15_areDeeds_70 (hZ : ZRN (ztb (tb_X15_areDeeds E d mc ms)) cut G R T Z) (f : Nat) (L : ZLV) (st : List Value) (σ : ZHp) (n k w : Nat) : Z (f + 1) 70 L st σ n k w = s_aload 0 71 L st σ n k w (zk1 cut G (Z f)) G R T := zrs hZ rfl f L st σ n k w
theorem f_X15_areDeeds_71 (hZ : ZRN (ztb (tb_X15_areDeeds E d mc ms)) cut G R T Z) (f : Nat) (L : ZLV) (st : List Value) (σ : ZHp) (n k w : Nat) : Z (f + 1) 71 L st σ n k w = s_aload 1 72 L st σ n k w (zk1 cut G (Z f)) G R T := zrs hZ rfl f L st σ n k w
theorem f_X15_areDeeds_72 (hZ : ZRN (ztb (tb_X15_areDeeds E d mc ms)) cut G R T Z) (f : Nat) (L : ZLV) (st : List Value) (σ : ZHp) (n k w : Nat) : Z (f + 1) 72 L st σ n k w = s_callV E d mc ms 14 MX15_isSum 1 75 L st σ n k w (zk1 cut G (Z f)) G R T := zrs hZ rfl f L st σ n k w
theorem f_X15_areDeeds_75 (hZ : ZRN (ztb (tb_X15_areDeeds E d mc ms)) cut G R T Z) (f : Nat) (L : ZLV) (st : List Value) (σ : ZHp) (n k w : Nat) : Z (f + 1) 75 L st σ n k w = s_if_ne 80 78 L st σ n k w (zk1 cut G (Z f)) G R T := zrs hZ rfl f L st σ n k w
theorem f_X15_areDeeds_78 (hZ : ZRN (ztb (tb_X15_areDeeds E d mc ms)) cut G R T Z) (f : Nat) (L : ZLV) (st : List Value) (σ : ZHp) (n k w : Nat) : Z (f + 1) 78 L st σ n k w = s_const (.int (0)) 79 L st σ n k w (zk1 cut G (Z f)) G R T := zrs hZ rfl f L st σ n k w
theorem f_X15_areDeeds_79 (hZ : ZRN (ztb (tb_X15_areDeeds E d mc ms)) cut G R T Z) (f : Nat) (L : ZLV) (st : List Value) (σ : ZHp) (n k w : Nat) : Z (f + 1) 79 L st σ n k w = s_zreturn L st σ n k w (zk1 cut G (Z f)) G R T := zrs hZ rfl f L st σ n k w
theorem f_X15_areDeeds_80 (hZ : ZRN (ztb (tb_X15_areDeeds E d mc ms)) cut G R T Z) (f : Nat) (L : ZLV) (st : List Value) (σ : ZHp) (n k w : Nat) : Z (f + 1) 80 L st σ n k w = s_goto 0 L st σ n k w (zk1 cut G (Z f)) G R T := zrs hZ rfl f L st σ n k w
theorem f_X15_areDeeds_83 (hZ : ZRN (ztb (tb_X15_areDeeds E d mc ms)) cut G R T Z) (f : Nat) (L : ZLV) (st : List Value) (σ : ZHp) (n k w : Nat) : Z (f + 1) 83 L st σ n k w = s_const (.int (1)) 84 L st σ n k w (zk1 cut G (Z f)) G R T := zrs hZ rfl f L st σ n k w
theorem f_X15_areDeeds_84 (hZ : ZRN (ztb (tb_X15_areDeeds E d mc ms)) cut G R T Z) (f : Nat) (L : ZLV) (st : List Value) (σ : ZHp) (n k w : Nat) : Z (f + 1) 84 L st σ n k w = s_zreturn L st σ n k w (zk1 cut G (Z f)) G R T := zrs hZ rfl f L st σ n k w
theorem f_X15_isTest_0 (hZ : ZRN (ztb (tb_X15_isTest E d mc ms)) cut G R T Z) (f : Nat) (L : ZLV) (st : List Value) (σ : ZHp) (n k w : Nat) : Z (f + 1) 0 L st σ n k w = s_aload 0 1 L st σ n k w (zk1 cut G (Z f)) G R T := zrs hZ rfl f L st σ n k w
theorem f_X15_isTest_1 (hZ : ZRN (ztb (tb_X15_isTest E d mc ms)) cut G R T Z) (f : Nat) (L : ZLV) (st : List Value) (σ : ZHp) (n k w : Nat) : Z (f + 1) 1 L st σ n k w = s_aload 1 2 L st σ n k w (zk1 cut G (Z f)) G R T := zrs hZ rfl f L st σ n k w
theorem f_X15_isTest_2 (hZ : ZRN (ztb (tb_X15_isTest E d mc ms)) cut G R T Z) (f : Nat) (L : ZLV) (st : List Value) (σ : ZHp) (n k w : Nat) : Z (f + 1) 2 L st σ n k w = s_callV E d mc ms 14 MX15_isBoth 1 5 L st σ n k w (zk1 cut G (Z f)) G R T := zrs hZ rfl f L st σ n k w
theorem f_X15_isTest_5 (hZ : ZRN (ztb (tb_X15_isTest E d mc ms)) cut G R T Z) (f : Nat) (L : ZLV) (st : List Value) (σ : ZHp) (n k w : Nat) : Z (f + 1) 5 L st σ n k w = s_if_ne 10 8 L st σ n k w (zk1 cut G (Z f)) G R T := zrs hZ rfl f L st σ n k w
theorem f_X15_isTest_8 (hZ : ZRN (ztb (tb_X15_isTest E d mc ms)) cut G R T Z) (f : Nat) (L : ZLV) (st : List Value) (σ : ZHp) (n k w : Nat) : Z (f + 1) 8 L st σ n k w = s_const (.int (0)) 9 L st σ n k w (zk1 cut G (Z f)) G R T := zrs hZ rfl f L st σ n k w
theorem f_X15_isTest_9 (hZ : ZRN (ztb (tb_X15_isTest E d mc ms)) cut G R T Z) (f : Nat) (L : ZLV) (st : List Value) (σ : ZHp) (n k w : Nat) : Z (f + 1) 9 L st σ n k w = s_zreturn L st σ n k w (zk1 cut G (Z f)) G R T := zrs hZ rfl f L st σ n k w
theorem f_X15_isTest_10 (hZ : ZRN (ztb (tb_X15_isTest E d mc ms)) cut G R T Z) (f : Nat) (L : ZLV) (st : List Value) (σ : ZHp) (n k w : Nat) : Z (f + 1) 10 L st σ n k w = s_aload 0 11 L st σ n k w (zk1 cut G (Z f)) G R T := zrs hZ rfl f L st σ n k w
theorem f_X15_isTest_11 (hZ : ZRN (ztb (tb_X15_isTest E d mc ms)) cut G R T Z) (f : Nat) (L : ZLV) (st : List Value) (σ : ZHp) (n k w : Nat) : Z (f + 1) 11 L st σ n k w = s_aload 1 12 L st σ n k w (zk1 cut G (Z f)) G R T := zrs hZ rfl f L st σ n k w
theorem f_X15_isTest_12 (hZ : ZRN (ztb (tb_X15_isTest E d mc ms)) cut G R T Z) (f : Nat) (L : ZLV) (st : List Value) (σ : ZHp) (n k w : Nat) : Z (f + 1) 12 L st σ n k w = s_const (.int (23)) 14 L st σ n k w (zk1 cut G (Z f)) G R T := zrs hZ rfl f L st σ n k w
theorem f_X15_isTest_14 (hZ : ZRN (ztb (tb_X15_isTest E d mc ms)) cut G R T Z) (f : Nat) (L : ZLV) (st : List Value) (σ : ZHp) (n k w : Nat) : Z (f + 1) 14 L st σ n k w = s_callV E d mc ms 14 MX15_eat 2 17 L st σ n k w (zk1 cut G (Z f)) G R T := zrs hZ rfl f L st σ n k w
theorem f_X15_isTest_17 (hZ : ZRN (ztb (tb_X15_isTest E d mc ms)) cut G R T Z) (f : Nat) (L : ZLV) (st : List Value) (σ : ZHp) (n k w : Nat) : Z (f + 1) 17 L st σ n k w = s_if_ne 0 20 L st σ n k w (zk1 cut G (Z f)) G R T := zrs hZ rfl f L st σ n k w
theorem f_X15_isTest_20 (hZ : ZRN (ztb (tb_X15_isTest E d mc ms)) cut G R T Z) (f : Nat) (L : ZLV) (st : List Value) (σ : ZHp) (n k w : Nat) : Z (f + 1) 20 L st σ n k w = s_const (.int (1)) 21 L st σ n k w (zk1 cut G (Z f)) G R T := zrs hZ rfl f L st σ n k w
theorem f_X15_isTest_21 (hZ : ZRN (ztb (tb_X15_isTest E d mc ms)) cut G R T Z) (f : Nat) (L : ZLV) (st : List Value) (σ : ZHp) (n k w : Nat) : Z (f + 1) 21 L st σ n k w = s_zreturn L st σ n k w (zk1 cut G (Z f)) G R T := zrs hZ rfl f L st σ n k w
theorem f_X15_isBoth_0 (hZ : ZRN (ztb (tb_X15_isBoth E d mc ms)) cut G R T Z) (f : Nat) (L : ZLV) (st : List Value) (σ : ZHp) (n k w : Nat) : Z (f + 1) 0 L st σ n k w = s_aload 0 1 L st σ n k w (zk1 cut G (Z f)) G R T := zrs hZ rfl f L st σ n k w
theorem f_X15_isBoth_1 (hZ : ZRN (ztb (tb_X15_isBoth E d mc ms)) cut G R T Z) (f : Nat) (L : ZLV) (st : List Value) (σ : ZHp) (n k w : Nat) : Z (f + 1) 1 L st σ n k w = s_aload 1 2 L st σ n k w (zk1 cut G (Z f)) G R T := zrs hZ rfl f L st σ n k w
theorem f_X15_isBoth_2 (hZ : ZRN (ztb (tb_X15_isBoth E d mc ms)) cut G R T Z) (f : Nat) (L : ZLV) (st : List Value) (σ : ZHp) (n k w : Nat) : Z (f + 1) 2 L st σ n k w = s_callV E d mc ms 14 MX15_isSingle 1 5 L st σ n k w (zk1 cut G (Z f)) G R T := zrs hZ rfl f L st σ n k w
theorem f_X15_isBoth_5 (hZ : ZRN (ztb (tb_X15_isBoth E d mc ms)) cut G R T Z) (f : Nat) (L : ZLV) (st : List Value) (σ : ZHp) (n k w : Nat) : Z (f + 1) 5 L st σ n k w = s_if_ne 10 8 L st σ n k w (zk1 cut G (Z f)) G R T := zrs hZ rfl f L st σ n k w
theorem f_X15_isBoth_8 (hZ : ZRN (ztb (tb_X15_isBoth E d mc ms)) cut G R T Z) (f : Nat) (L : ZLV) (st : List Value) (σ : ZHp) (n k w : Nat) : Z (f + 1) 8 L st σ n k w = s_const (.int (0)) 9 L st σ n k w (zk1 cut G (Z f)) G R T := zrs hZ rfl f L st σ n k w
theorem f_X15_isBoth_9 (hZ : ZRN (ztb (tb_X15_isBoth E d mc ms)) cut G R T Z) (f : Nat) (L : ZLV) (st : List Value) (σ : ZHp) (n k w : Nat) : Z (f + 1) 9 L st σ n k w = s_zreturn L st σ n k w (zk1 cut G (Z f)) G R T := zrs hZ rfl f L st σ n k w
theorem f_X15_isBoth_10 (hZ : ZRN (ztb (tb_X15_isBoth E d mc ms)) cut G R T Z) (f : Nat) (L : ZLV) (st : List Value) (σ : ZHp) (n k w : Nat) : Z (f + 1) 10 L st σ n k w = s_aload 0 11 L st σ n k w (zk1 cut G (Z f)) G R T := zrs hZ rfl f L st σ n k w
theorem f_X15_isBoth_11 (hZ : ZRN (ztb (tb_X15_isBoth E d mc ms)) cut G R T Z) (f : Nat) (L : ZLV) (st : List Value) (σ : ZHp) (n k w : Nat) : Z (f + 1) 11 L st σ n k w = s_aload 1 12 L st σ n k w (zk1 cut G (Z f)) G R T := zrs hZ rfl f L st σ n k w
theorem f_X15_isBoth_12 (hZ : ZRN (ztb (tb_X15_isBoth E d mc ms)) cut G R T Z) (f : Nat) (L : ZLV) (st : List Value) (σ : ZHp) (n k w : Nat) : Z (f + 1) 12 L st σ n k w = s_const (.int (22)) 14 L st σ n k w (zk1 cut G (Z f)) G R T := zrs hZ rfl f L st σ n k w
theorem f_X15_isBoth_14 (hZ : ZRN (ztb (tb_X15_isBoth E d mc ms)) cut G R T Z) (f : Nat) (L : ZLV) (st : List Value) (σ : ZHp) (n k w : Nat) : Z (f + 1) 14 L st σ n k w = s_callV E d mc ms 14 MX15_eat 2 17 L st σ n k w (zk1 cut G (Z f)) G R T := zrs hZ rfl f L st σ n k w
theorem f_X15_isBoth_17 (hZ : ZRN (ztb (tb_X15_isBoth E d mc ms)) cut G R T Z) (f : Nat) (L : ZLV) (st : List Value) (σ : ZHp) (n k w : Nat) : Z (f + 1) 17 L st σ n k w = s_if_ne 0 20 L st σ n k w (zk1 cut G (Z f)) G R T := zrs hZ rfl f L st σ n k w
theorem f_X15_isBoth_20 (hZ : ZRN (ztb (tb_X15_isBoth E d mc ms)) cut G R T Z) (f : Nat) (L : ZLV) (st : List Value) (σ : ZHp) (n k w : Nat) : Z (f + 1) 20 L st σ n k w = s_const (.int (1)) 21 L st σ n k w (zk1 cut G (Z f)) G R T := zrs hZ rfl f L st σ n k w
theorem f_X15_isBoth_21 (hZ : ZRN (ztb (tb_X15_isBoth E d mc ms)) cut G R T Z) (f : Nat) (L : ZLV) (st : List Value) (σ : ZHp) (n k w : Nat) : Z (f + 1) 21 L st σ n k w = s_zreturn L st σ n k w (zk1 cut G (Z f)) G R T := zrs hZ rfl f L st σ n k w
theorem f_X15_isSingle_0 (hZ : ZRN (ztb (tb_X15_isSingle E d mc ms)) cut G R T Z) (f : Nat) (L : ZLV) (st : List Value) (σ : ZHp) (n k w : Nat) : Z (f + 1) 0 L st σ n k w = s_aload 1 1 L st σ n k w (zk1 cut G (Z f)) G R T := zrs hZ rfl f L st σ n k w
theorem f_X15_isSingle_1 (hZ : ZRN (ztb (tb_X15_isSingle E d mc ms)) cut G R T Z) (f : Nat) (L : ZLV) (st : List Value) (σ : ZHp) (n k w : Nat) : Z (f + 1) 1 L st σ n k w = s_getf 12 0 4 L st σ n k w (zk1 cut G (Z f)) G R T := zrs hZ rfl f L st σ n k w
theorem f_X15_isSingle_4 (hZ : ZRN (ztb (tb_X15_isSingle E d mc ms)) cut G R T Z) (f : Nat) (L : ZLV) (st : List Value) (σ : ZHp) (n k w : Nat) : Z (f + 1) 4 L st σ n k w = s_aload 0 5 L st σ n k w (zk1 cut G (Z f)) G R T := zrs hZ rfl f L st σ n k w
theorem f_X15_isSingle_5 (hZ : ZRN (ztb (tb_X15_isSingle E d mc ms)) cut G R T Z) (f : Nat) (L : ZLV) (st : List Value) (σ : ZHp) (n k w : Nat) : Z (f + 1) 5 L st σ n k w = s_getf 14 4 8 L st σ n k w (zk1 cut G (Z f)) G R T := zrs hZ rfl f L st σ n k w
theorem f_X15_isSingle_8 (hZ : ZRN (ztb (tb_X15_isSingle E d mc ms)) cut G R T Z) (f : Nat) (L : ZLV) (st : List Value) (σ : ZHp) (n k w : Nat) : Z (f + 1) 8 L st σ n k w = s_iaload E 9 L st σ n k w (zk1 cut G (Z f)) G R T := zrs hZ rfl f L st σ n k w
theorem f_X15_isSingle_9 (hZ : ZRN (ztb (tb_X15_isSingle E d mc ms)) cut G R T Z) (f : Nat) (L : ZLV) (st : List Value) (σ : ZHp) (n k w : Nat) : Z (f + 1) 9 L st σ n k w = s_const (.int (21)) 11 L st σ n k w (zk1 cut G (Z f)) G R T := zrs hZ rfl f L st σ n k w
theorem f_X15_isSingle_11 (hZ : ZRN (ztb (tb_X15_isSingle E d mc ms)) cut G R T Z) (f : Nat) (L : ZLV) (st : List Value) (σ : ZHp) (n k w : Nat) : Z (f + 1) 11 L st σ n k w = s_icmp_ne 46 14 L st σ n k w (zk1 cut G (Z f)) G R T := zrs hZ rfl f L st σ n k w
theorem f_X15_isSingle_14 (hZ : ZRN (ztb (tb_X15_isSingle E d mc ms)) cut G R T Z) (f : Nat) (L : ZLV) (st : List Value) (σ : ZHp) (n k w : Nat) : Z (f + 1) 14 L st σ n k w = s_aload 0 15 L st σ n k w (zk1 cut G (Z f)) G R T := zrs hZ rfl f L st σ n k w
theorem f_X15_isSingle_15 (hZ : ZRN (ztb (tb_X15_isSingle E d mc ms)) cut G R T Z) (f : Nat) (L : ZLV) (st : List Value) (σ : ZHp) (n k w : Nat) : Z (f + 1) 15 L st σ n k w = s_aload 1 16 L st σ n k w (zk1 cut G (Z f)) G R T := zrs hZ rfl f L st σ n k w
theorem f_X15_isSingle_16 (hZ : ZRN (ztb (tb_X15_isSingle E d mc ms)) cut G R T Z) (f : Nat) (L : ZLV) (st : List Value) (σ : ZHp) (n k w : Nat) : Z (f + 1) 16 L st σ n k w = s_const (.int (21)) 18 L st σ n k w (zk1 cut G (Z f)) G R T := zrs hZ rfl f L st σ n k w
theorem f_X15_isSingle_18 (hZ : ZRN (ztb (tb_X15_isSingle E d mc ms)) cut G R T Z) (f : Nat) (L : ZLV) (st : List Value) (σ : ZHp) (n k w : Nat) : Z (f + 1) 18 L st σ n k w = s_callV E d mc ms 14 MX15_goDown 2 21 L st σ n k w (zk1 cut G (Z f)) G R T := zrs hZ rfl f L st σ n k w
theorem f_X15_isSingle_21 (hZ : ZRN (ztb (tb_X15_isSingle E d mc ms)) cut G R T Z) (f : Nat) (L : ZLV) (st : List Value) (σ : ZHp) (n k w : Nat) : Z (f + 1) 21 L st σ n k w = s_if_eq 32 24 L st σ n k w (zk1 cut G (Z f)) G R T := zrs hZ rfl f L st σ n k w
theorem f_X15_isSingle_24 (hZ : ZRN (ztb (tb_X15_isSingle E d mc ms)) cut G R T Z) (f : Nat) (L : ZLV) (st : List Value) (σ : ZHp) (n k w : Nat) : Z (f + 1) 24 L st σ n k w = s_aload 0 25 L st σ n k w (zk1 cut G (Z f)) G R T := zrs hZ rfl f L st σ n k w
theorem f_X15_isSingle_25 (hZ : ZRN (ztb (tb_X15_isSingle E d mc ms)) cut G R T Z) (f : Nat) (L : ZLV) (st : List Value) (σ : ZHp) (n k w : Nat) : Z (f + 1) 25 L st σ n k w = s_aload 1 26 L st σ n k w (zk1 cut G (Z f)) G R T := zrs hZ rfl f L st σ n k w
theorem f_X15_isSingle_26 (hZ : ZRN (ztb (tb_X15_isSingle E d mc ms)) cut G R T Z) (f : Nat) (L : ZLV) (st : List Value) (σ : ZHp) (n k w : Nat) : Z (f + 1) 26 L st σ n k w = s_callV E d mc ms 14 MX15_isSingle 1 29 L st σ n k w (zk1 cut G (Z f)) G R T := zrs hZ rfl f L st σ n k w
theorem f_X15_isSingle_29 (hZ : ZRN (ztb (tb_X15_isSingle E d mc ms)) cut G R T Z) (f : Nat) (L : ZLV) (st : List Value) (σ : ZHp) (n k w : Nat) : Z (f + 1) 29 L st σ n k w = s_if_ne 34 32 L st σ n k w (zk1 cut G (Z f)) G R T := zrs hZ rfl f L st σ n k w
theorem f_X15_isSingle_32 (hZ : ZRN (ztb (tb_X15_isSingle E d mc ms)) cut G R T Z) (f : Nat) (L : ZLV) (st : List Value) (σ : ZHp) (n k w : Nat) : Z (f + 1) 32 L st σ n k w = s_const (.int (0)) 33 L st σ n k w (zk1 cut G (Z f)) G R T := zrs hZ rfl f L st σ n k w
theorem f_X15_isSingle_33 (hZ : ZRN (ztb (tb_X15_isSingle E d mc ms)) cut G R T Z) (f : Nat) (L : ZLV) (st : List Value) (σ : ZHp) (n k w : Nat) : Z (f + 1) 33 L st σ n k w = s_zreturn L st σ n k w (zk1 cut G (Z f)) G R T := zrs hZ rfl f L st σ n k w
theorem f_X15_isSingle_34 (hZ : ZRN (ztb (tb_X15_isSingle E d mc ms)) cut G R T Z) (f : Nat) (L : ZLV) (st : List Value) (σ : ZHp) (n k w : Nat) : Z (f + 1) 34 L st σ n k w = s_aload 0 35 L st σ n k w (zk1 cut G (Z f)) G R T := zrs hZ rfl f L st σ n k w
theorem f_X15_isSingle_35 (hZ : ZRN (ztb (tb_X15_isSingle E d mc ms)) cut G R T Z) (f : Nat) (L : ZLV) (st : List Value) (σ : ZHp) (n k w : Nat) : Z (f + 1) 35 L st σ n k w = s_dup 36 L st σ n k w (zk1 cut G (Z f)) G R T := zrs hZ rfl f L st σ n k w
theorem f_X15_isSingle_36 (hZ : ZRN (ztb (tb_X15_isSingle E d mc ms)) cut G R T Z) (f : Nat) (L : ZLV) (st : List Value) (σ : ZHp) (n k w : Nat) : Z (f + 1) 36 L st σ n k w = s_getf 14 5 39 L st σ n k w (zk1 cut G (Z f)) G R T := zrs hZ rfl f L st σ n k w
theorem f_X15_isSingle_39 (hZ : ZRN (ztb (tb_X15_isSingle E d mc ms)) cut G R T Z) (f : Nat) (L : ZLV) (st : List Value) (σ : ZHp) (n k w : Nat) : Z (f + 1) 39 L st σ n k w = s_const (.int (1)) 40 L st σ n k w (zk1 cut G (Z f)) G R T := zrs hZ rfl f L st σ n k w
theorem f_X15_isSingle_40 (hZ : ZRN (ztb (tb_X15_isSingle E d mc ms)) cut G R T Z) (f : Nat) (L : ZLV) (st : List Value) (σ : ZHp) (n k w : Nat) : Z (f + 1) 40 L st σ n k w = s_isub 41 L st σ n k w (zk1 cut G (Z f)) G R T := zrs hZ rfl f L st σ n k w
theorem f_X15_isSingle_41 (hZ : ZRN (ztb (tb_X15_isSingle E d mc ms)) cut G R T Z) (f : Nat) (L : ZLV) (st : List Value) (σ : ZHp) (n k w : Nat) : Z (f + 1) 41 L st σ n k w = s_putf 14 5 0 44 L st σ n k w (zk1 cut G (Z f)) G R T := zrs hZ rfl f L st σ n k w
theorem f_X15_isSingle_44 (hZ : ZRN (ztb (tb_X15_isSingle E d mc ms)) cut G R T Z) (f : Nat) (L : ZLV) (st : List Value) (σ : ZHp) (n k w : Nat) : Z (f + 1) 44 L st σ n k w = s_const (.int (1)) 45 L st σ n k w (zk1 cut G (Z f)) G R T := zrs hZ rfl f L st σ n k w
theorem f_X15_isSingle_45 (hZ : ZRN (ztb (tb_X15_isSingle E d mc ms)) cut G R T Z) (f : Nat) (L : ZLV) (st : List Value) (σ : ZHp) (n k w : Nat) : Z (f + 1) 45 L st σ n k w = s_zreturn L st σ n k w (zk1 cut G (Z f)) G R T := zrs hZ rfl f L st σ n k w
theorem f_X15_isSingle_46 (hZ : ZRN (ztb (tb_X15_isSingle E d mc ms)) cut G R T Z) (f : Nat) (L : ZLV) (st : List Value) (σ : ZHp) (n k w : Nat) : Z (f + 1) 46 L st σ n k w = s_aload 1 47 L st σ n k w (zk1 cut G (Z f)) G R T := zrs hZ rfl f L st σ n k w
theorem f_X15_isSingle_47 (hZ : ZRN (ztb (tb_X15_isSingle E d mc ms)) cut G R T Z) (f : Nat) (L : ZLV) (st : List Value) (σ : ZHp) (n k w : Nat) : Z (f + 1) 47 L st σ n k w = s_getf 12 0 50 L st σ n k w (zk1 cut G (Z f)) G R T := zrs hZ rfl f L st σ n k w
theorem f_X15_isSingle_50 (hZ : ZRN (ztb (tb_X15_isSingle E d mc ms)) cut G R T Z) (f : Nat) (L : ZLV) (st : List Value) (σ : ZHp) (n k w : Nat) : Z (f + 1) 50 L st σ n k w = s_aload 0 51 L st σ n k w (zk1 cut G (Z f)) G R T := zrs hZ rfl f L st σ n k w
theorem f_X15_isSingle_51 (hZ : ZRN (ztb (tb_X15_isSingle E d mc ms)) cut G R T Z) (f : Nat) (L : ZLV) (st : List Value) (σ : ZHp) (n k w : Nat) : Z (f + 1) 51 L st σ n k w = s_getf 14 4 54 L st σ n k w (zk1 cut G (Z f)) G R T := zrs hZ rfl f L st σ n k w
theorem f_X15_isSingle_54 (hZ : ZRN (ztb (tb_X15_isSingle E d mc ms)) cut G R T Z) (f : Nat) (L : ZLV) (st : List Value) (σ : ZHp) (n k w : Nat) : Z (f + 1) 54 L st σ n k w = s_iaload E 55 L st σ n k w (zk1 cut G (Z f)) G R T := zrs hZ rfl f L st σ n k w
theorem f_X15_isSingle_55 (hZ : ZRN (ztb (tb_X15_isSingle E d mc ms)) cut G R T Z) (f : Nat) (L : ZLV) (st : List Value) (σ : ZHp) (n k w : Nat) : Z (f + 1) 55 L st σ n k w = s_const (.int (42)) 57 L st σ n k w (zk1 cut G (Z f)) G R T := zrs hZ rfl f L st σ n k w
theorem f_X15_isSingle_57 (hZ : ZRN (ztb (tb_X15_isSingle E d mc ms)) cut G R T Z) (f : Nat) (L : ZLV) (st : List Value) (σ : ZHp) (n k w : Nat) : Z (f + 1) 57 L st σ n k w = s_icmp_ne 102 60 L st σ n k w (zk1 cut G (Z f)) G R T := zrs hZ rfl f L st σ n k w
theorem f_X15_isSingle_60 (hZ : ZRN (ztb (tb_X15_isSingle E d mc ms)) cut G R T Z) (f : Nat) (L : ZLV) (st : List Value) (σ : ZHp) (n k w : Nat) : Z (f + 1) 60 L st σ n k w = s_aload 0 61 L st σ n k w (zk1 cut G (Z f)) G R T := zrs hZ rfl f L st σ n k w
theorem f_X15_isSingle_61 (hZ : ZRN (ztb (tb_X15_isSingle E d mc ms)) cut G R T Z) (f : Nat) (L : ZLV) (st : List Value) (σ : ZHp) (n k w : Nat) : Z (f + 1) 61 L st σ n k w = s_aload 1 62 L st σ n k w (zk1 cut G (Z f)) G R T := zrs hZ rfl f L st σ n k w
theorem f_X15_isSingle_62 (hZ : ZRN (ztb (tb_X15_isSingle E d mc ms)) cut G R T Z) (f : Nat) (L : ZLV) (st : List Value) (σ : ZHp) (n k w : Nat) : Z (f + 1) 62 L st σ n k w = s_const (.int (42)) 64 L st σ n k w (zk1 cut G (Z f)) G R T := zrs hZ rfl f L st σ n k w
theorem f_X15_isSingle_64 (hZ : ZRN (ztb (tb_X15_isSingle E d mc ms)) cut G R T Z) (f : Nat) (L : ZLV) (st : List Value) (σ : ZHp) (n k w : Nat) : Z (f + 1) 64 L st σ n k w = s_callV E d mc ms 14 MX15_goDown 2 67 L st σ n k w (zk1 cut G (Z f)) G R T := zrs hZ rfl f L st σ n k w
theorem f_X15_isSingle_67 (hZ : ZRN (ztb (tb_X15_isSingle E d mc ms)) cut G R T Z) (f : Nat) (L : ZLV) (st : List Value) (σ : ZHp) (n k w : Nat) : Z (f + 1) 67 L st σ n k w = s_if_eq 88 70 L st σ n k w (zk1 cut G (Z f)) G R T := zrs hZ rfl f L st σ n k w
theorem f_X15_isSingle_70 (hZ : ZRN (ztb (tb_X15_isSingle E d mc ms)) cut G R T Z) (f : Nat) (L : ZLV) (st : List Value) (σ : ZHp) (n k w : Nat) : Z (f + 1) 70 L st σ n k w = s_aload 0 71 L st σ n k w (zk1 cut G (Z f)) G R T := zrs hZ rfl f L st σ n k w
theorem f_X15_isSingle_71 (hZ : ZRN (ztb (tb_X15_isSingle E d mc ms)) cut G R T Z) (f : Nat) (L : ZLV) (st : List Value) (σ : ZHp) (n k w : Nat) : Z (f + 1) 71 L st σ n k w = s_aload 1 72 L st σ n k w (zk1 cut G (Z f)) G R T := zrs hZ rfl f L st σ n k w
theorem f_X15_isSingle_72 (hZ : ZRN (ztb (tb_X15_isSingle E d mc ms)) cut G R T Z) (f : Nat) (L : ZLV) (st : List Value) (σ : ZHp) (n k w : Nat) : Z (f + 1) 72 L st σ n k w = s_callV E d mc ms 14 MX15_isTest 1 75 L st σ n k w (zk1 cut G (Z f)) G R T := zrs hZ rfl f L st σ n k w
theorem f_X15_isSingle_75 (hZ : ZRN (ztb (tb_X15_isSingle E d mc ms)) cut G R T Z) (f : Nat) (L : ZLV) (st : List Value) (σ : ZHp) (n k w : Nat) : Z (f + 1) 75 L st σ n k w = s_if_eq 88 78 L st σ n k w (zk1 cut G (Z f)) G R T := zrs hZ rfl f L st σ n k w
theorem f_X15_isSingle_78 (hZ : ZRN (ztb (tb_X15_isSingle E d mc ms)) cut G R T Z) (f : Nat) (L : ZLV) (st : List Value) (σ : ZHp) (n k w : Nat) : Z (f + 1) 78 L st σ n k w = s_aload 0 79 L st σ n k w (zk1 cut G (Z f)) G R T := zrs hZ rfl f L st σ n k w
theorem f_X15_isSingle_79 (hZ : ZRN (ztb (tb_X15_isSingle E d mc ms)) cut G R T Z) (f : Nat) (L : ZLV) (st : List Value) (σ : ZHp) (n k w : Nat) : Z (f + 1) 79 L st σ n k w = s_aload 1 80 L st σ n k w (zk1 cut G (Z f)) G R T := zrs hZ rfl f L st σ n k w
theorem f_X15_isSingle_80 (hZ : ZRN (ztb (tb_X15_isSingle E d mc ms)) cut G R T Z) (f : Nat) (L : ZLV) (st : List Value) (σ : ZHp) (n k w : Nat) : Z (f + 1) 80 L st σ n k w = s_const (.int (43)) 82 L st σ n k w (zk1 cut G (Z f)) G R T := zrs hZ rfl f L st σ n k w
theorem f_X15_isSingle_82 (hZ : ZRN (ztb (tb_X15_isSingle E d mc ms)) cut G R T Z) (f : Nat) (L : ZLV) (st : List Value) (σ : ZHp) (n k w : Nat) : Z (f + 1) 82 L st σ n k w = s_callV E d mc ms 14 MX15_eat 2 85 L st σ n k w (zk1 cut G (Z f)) G R T := zrs hZ rfl f L st σ n k w
theorem f_X15_isSingle_85 (hZ : ZRN (ztb (tb_X15_isSingle E d mc ms)) cut G R T Z) (f : Nat) (L : ZLV) (st : List Value) (σ : ZHp) (n k w : Nat) : Z (f + 1) 85 L st σ n k w = s_if_ne 90 88 L st σ n k w (zk1 cut G (Z f)) G R T := zrs hZ rfl f L st σ n k w
theorem f_X15_isSingle_88 (hZ : ZRN (ztb (tb_X15_isSingle E d mc ms)) cut G R T Z) (f : Nat) (L : ZLV) (st : List Value) (σ : ZHp) (n k w : Nat) : Z (f + 1) 88 L st σ n k w = s_const (.int (0)) 89 L st σ n k w (zk1 cut G (Z f)) G R T := zrs hZ rfl f L st σ n k w
theorem f_X15_isSingle_89 (hZ : ZRN (ztb (tb_X15_isSingle E d mc ms)) cut G R T Z) (f : Nat) (L : ZLV) (st : List Value) (σ : ZHp) (n k w : Nat) : Z (f + 1) 89 L st σ n k w = s_zreturn L st σ n k w (zk1 cut G (Z f)) G R T := zrs hZ rfl f L st σ n k w
theorem f_X15_isSingle_90 (hZ : ZRN (ztb (tb_X15_isSingle E d mc ms)) cut G R T Z) (f : Nat) (L : ZLV) (st : List Value) (σ : ZHp) (n k w : Nat) : Z (f + 1) 90 L st σ n k w = s_aload 0 91 L st σ n k w (zk1 cut G (Z f)) G R T := zrs hZ rfl f L st σ n k w
theorem f_X15_isSingle_91 (hZ : ZRN (ztb (tb_X15_isSingle E d mc ms)) cut G R T Z) (f : Nat) (L : ZLV) (st : List Value) (σ : ZHp) (n k w : Nat) : Z (f + 1) 91 L st σ n k w = s_dup 92 L st σ n k w (zk1 cut G (Z f)) G R T := zrs hZ rfl f L st σ n k w
theorem f_X15_isSingle_92 (hZ : ZRN (ztb (tb_X15_isSingle E d mc ms)) cut G R T Z) (f : Nat) (L : ZLV) (st : List Value) (σ : ZHp) (n k w : Nat) : Z (f + 1) 92 L st σ n k w = s_getf 14 5 95 L st σ n k w (zk1 cut G (Z f)) G R T := zrs hZ rfl f L st σ n k w
theorem f_X15_isSingle_95 (hZ : ZRN (ztb (tb_X15_isSingle E d mc ms)) cut G R T Z) (f : Nat) (L : ZLV) (st : List Value) (σ : ZHp) (n k w : Nat) : Z (f + 1) 95 L st σ n k w = s_const (.int (1)) 96 L st σ n k w (zk1 cut G (Z f)) G R T := zrs hZ rfl f L st σ n k w
theorem f_X15_isSingle_96 (hZ : ZRN (ztb (tb_X15_isSingle E d mc ms)) cut G R T Z) (f : Nat) (L : ZLV) (st : List Value) (σ : ZHp) (n k w : Nat) : Z (f + 1) 96 L st σ n k w = s_isub 97 L st σ n k w (zk1 cut G (Z f)) G R T := zrs hZ rfl f L st σ n k w
theorem f_X15_isSingle_97 (hZ : ZRN (ztb (tb_X15_isSingle E d mc ms)) cut G R T Z) (f : Nat) (L : ZLV) (st : List Value) (σ : ZHp) (n k w : Nat) : Z (f + 1) 97 L st σ n k w = s_putf 14 5 0 100 L st σ n k w (zk1 cut G (Z f)) G R T := zrs hZ rfl f L st σ n k w
theorem f_X15_isSingle_100 (hZ : ZRN (ztb (tb_X15_isSingle E d mc ms)) cut G R T Z) (f : Nat) (L : ZLV) (st : List Value) (σ : ZHp) (n k w : Nat) : Z (f + 1) 100 L st σ n k w = s_const (.int (1)) 101 L st σ n k w (zk1 cut G (Z f)) G R T := zrs hZ rfl f L st σ n k w
theorem f_X15_isSingle_101 (hZ : ZRN (ztb (tb_X15_isSingle E d mc ms)) cut G R T Z) (f : Nat) (L : ZLV) (st : List Value) (σ : ZHp) (n k w : Nat) : Z (f + 1) 101 L st σ n k w = s_zreturn L st σ n k w (zk1 cut G (Z f)) G R T := zrs hZ rfl f L st σ n k w
theorem f_X15_isSingle_102 (hZ : ZRN (ztb (tb_X15_isSingle E d mc ms)) cut G R T Z) (f : Nat) (L : ZLV) (st : List Value) (σ : ZHp) (n k w : Nat) : Z (f + 1) 102 L st σ n k w = s_aload 0 103 L st σ n k w (zk1 cut G (Z f)) G R T := zrs hZ rfl f L st σ n k w
theorem f_X15_isSingle_103 (hZ : ZRN (ztb (tb_X15_isSingle E d mc ms)) cut G R T Z) (f : Nat) (L : ZLV) (st : List Value) (σ : ZHp) (n k w : Nat) : Z (f + 1) 103 L st σ n k w = s_aload 1 104 L st σ n k w (zk1 cut G (Z f)) G R T := zrs hZ rfl f L st σ n k w
theorem f_X15_isSingle_104 (hZ : ZRN (ztb (tb_X15_isSingle E d mc ms)) cut G R T Z) (f : Nat) (L : ZLV) (st : List Value) (σ : ZHp) (n k w : Nat) : Z (f + 1) 104 L st σ n k w = s_callV E d mc ms 14 MX15_isSum 1 107 L st σ n k w (zk1 cut G (Z f)) G R T := zrs hZ rfl f L st σ n k w
theorem f_X15_isSingle_107 (hZ : ZRN (ztb (tb_X15_isSingle E d mc ms)) cut G R T Z) (f : Nat) (L : ZLV) (st : List Value) (σ : ZHp) (n k w : Nat) : Z (f + 1) 107 L st σ n k w = s_if_eq 134 110 L st σ n k w (zk1 cut G (Z f)) G R T := zrs hZ rfl f L st σ n k w
theorem f_X15_isSingle_110 (hZ : ZRN (ztb (tb_X15_isSingle E d mc ms)) cut G R T Z) (f : Nat) (L : ZLV) (st : List Value) (σ : ZHp) (n k w : Nat) : Z (f + 1) 110 L st σ n k w = s_aload 0 111 L st σ n k w (zk1 cut G (Z f)) G R T := zrs hZ rfl f L st σ n k w
theorem f_X15_isSingle_111 (hZ : ZRN (ztb (tb_X15_isSingle E d mc ms)) cut G R T Z) (f : Nat) (L : ZLV) (st : List Value) (σ : ZHp) (n k w : Nat) : Z (f + 1) 111 L st σ n k w = s_aload 1 112 L st σ n k w (zk1 cut G (Z f)) G R T := zrs hZ rfl f L st σ n k w
theorem f_X15_isSingle_112 (hZ : ZRN (ztb (tb_X15_isSingle E d mc ms)) cut G R T Z) (f : Nat) (L : ZLV) (st : List Value) (σ : ZHp) (n k w : Nat) : Z (f + 1) 112 L st σ n k w = s_const (.int (50)) 114 L st σ n k w (zk1 cut G (Z f)) G R T := zrs hZ rfl f L st σ n k w
theorem f_X15_isSingle_114 (hZ : ZRN (ztb (tb_X15_isSingle E d mc ms)) cut G R T Z) (f : Nat) (L : ZLV) (st : List Value) (σ : ZHp) (n k w : Nat) : Z (f + 1) 114 L st σ n k w = s_const (.int (54)) 116 L st σ n k w (zk1 cut G (Z f)) G R T := zrs hZ rfl f L st σ n k w
theorem f_X15_isSingle_116 (hZ : ZRN (ztb (tb_X15_isSingle E d mc ms)) cut G R T Z) (f : Nat) (L : ZLV) (st : List Value) (σ : ZHp) (n k w : Nat) : Z (f + 1) 116 L st σ n k w = s_callV E d mc ms 14 MX15_eatIn 3 119 L st σ n k w (zk1 cut G (Z f)) G R T := zrs hZ rfl f L st σ n k w
theorem f_X15_isSingle_119 (hZ : ZRN (ztb (tb_X15_isSingle E d mc ms)) cut G R T Z) (f : Nat) (L : ZLV) (st : List Value) (σ : ZHp) (n k w : Nat) : Z (f + 1) 119 L st σ n k w = s_if_eq 134 122 L st σ n k w (zk1 cut G (Z f)) G R T := zrs hZ rfl f L st σ n k w
theorem f_X15_isSingle_122 (hZ : ZRN (ztb (tb_X15_isSingle E d mc ms)) cut G R T Z) (f : Nat) (L : ZLV) (st : List Value) (σ : ZHp) (n k w : Nat) : Z (f + 1) 122 L st σ n k w = s_aload 0 123 L st σ n k w (zk1 cut G (Z f)) G R T := zrs hZ rfl f L st σ n k w
theorem f_X15_isSingle_123 (hZ : ZRN (ztb (tb_X15_isSingle E d mc ms)) cut G R T Z) (f : Nat) (L : ZLV) (st : List Value) (σ : ZHp) (n k w : Nat) : Z (f + 1) 123 L st σ n k w = s_aload 1 124 L st σ n k w (zk1 cut G (Z f)) G R T := zrs hZ rfl f L st σ n k w
theorem f_X15_isSingle_124 (hZ : ZRN (ztb (tb_X15_isSingle E d mc ms)) cut G R T Z) (f : Nat) (L : ZLV) (st : List Value) (σ : ZHp) (n k w : Nat) : Z (f + 1) 124 L st σ n k w = s_callV E d mc ms 14 MX15_isSum 1 127 L st σ n k w (zk1 cut G (Z f)) G R T := zrs hZ rfl f L st σ n k w
theorem f_X15_isSingle_127 (hZ : ZRN (ztb (tb_X15_isSingle E d mc ms)) cut G R T Z) (f : Nat) (L : ZLV) (st : List Value) (σ : ZHp) (n k w : Nat) : Z (f + 1) 127 L st σ n k w = s_if_eq 134 130 L st σ n k w (zk1 cut G (Z f)) G R T := zrs hZ rfl f L st σ n k w
theorem f_X15_isSingle_130 (hZ : ZRN (ztb (tb_X15_isSingle E d mc ms)) cut G R T Z) (f : Nat) (L : ZLV) (st : List Value) (σ : ZHp) (n k w : Nat) : Z (f + 1) 130 L st σ n k w = s_const (.int (1)) 131 L st σ n k w (zk1 cut G (Z f)) G R T := zrs hZ rfl f L st σ n k w
theorem f_X15_isSingle_131 (hZ : ZRN (ztb (tb_X15_isSingle E d mc ms)) cut G R T Z) (f : Nat) (L : ZLV) (st : List Value) (σ : ZHp) (n k w : Nat) : Z (f + 1) 131 L st σ n k w = s_goto 135 L st σ n k w (zk1 cut G (Z f)) G R T := zrs hZ rfl f L st σ n k w
theorem f_X15_isSingle_134 (hZ : ZRN (ztb (tb_X15_isSingle E d mc ms)) cut G R T Z) (f : Nat) (L : ZLV) (st : List Value) (σ : ZHp) (n k w : Nat) : Z (f + 1) 134 L st σ n k w = s_const (.int (0)) 135 L st σ n k w (zk1 cut G (Z f)) G R T := zrs hZ rfl f L st σ n k w
theorem f_X15_isSingle_135 (hZ : ZRN (ztb (tb_X15_isSingle E d mc ms)) cut G R T Z) (f : Nat) (L : ZLV) (st : List Value) (σ : ZHp) (n k w : Nat) : Z (f + 1) 135 L st σ n k w = s_zreturn L st σ n k w (zk1 cut G (Z f)) G R T := zrs hZ rfl f L st σ n k w
end
