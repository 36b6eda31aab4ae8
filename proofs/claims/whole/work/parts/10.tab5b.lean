/-! TABLES: what each instruction does, that it does so, and each one by its place (printed by wip/whole/gen/gentab.py) -/
def tb_X15_isSum (E : ZEX) (d mc ms : Nat) : List (Nat × ZStep) := [(0, s_aload 0 1), (1, s_aload 1 2), (2, s_callV E d mc ms 14 MX15_isProduct 1 5), (5, s_if_ne 10 8), (8, s_const (.int (0)) 9), (9, s_zreturn), (10, s_aload 0 11), (11, s_aload 1 12), (12, s_const (.int (46)) 14), (14, s_const (.int (47)) 16), (16, s_callV E d mc ms 14 MX15_eatIn 3 19), (19, s_if_ne 0 22), (22, s_const (.int (1)) 23), (23, s_zreturn)]
set_option maxRecDepth 20000 in
theorem ok_X15_isSum {E : ZEX} {X : ZMX} {d mc ms : Nat} {P : ZPT} {T : ZTT} (h : ZCX E X MX15_isSum d mc ms P T) : ∀ pc, ZRow E X MX15_isSum mc ms P T pc (ztb (tb_X15_isSum E d mc ms) pc) := ztb_ok (by
  unfold tb_X15_isSum
  refine zfmc (r_aload_n h (pc := 0) (kf := 0) 0 (by decide +kernel) rfl) ?_
  refine zfmc (r_aload_n h (pc := 1) (kf := 1) 1 (by decide +kernel) rfl) ?_
  refine zfmc (r_callV h (pc := 2) (ix := 156) (by decide +kernel) ckX15 1 mcX15_isProduct wk_cca820943c wk_c1b1638557 wk_b5cf84b3d2 rfl) ?_
  refine zfmc (r_if_ne h (pc := 5) (off := 5) (by decide +kernel) 10 (by decide +kernel)) ?_
  refine zfmc (r_iconst h (pc := 8) (z := 0) (by decide +kernel) (0) (by decide +kernel)) ?_
  refine zfmc (r_zreturn h (pc := 9) (by decide +kernel) rfl) ?_
  refine zfmc (r_aload_n h (pc := 10) (kf := 0) 0 (by decide +kernel) rfl) ?_
  refine zfmc (r_aload_n h (pc := 11) (kf := 1) 1 (by decide +kernel) rfl) ?_
  refine zfmc (r_bipush h (pc := 12) (z := 46) (by decide +kernel) (46) (by decide +kernel)) ?_
  refine zfmc (r_bipush h (pc := 14) (z := 47) (by decide +kernel) (47) (by decide +kernel)) ?_
  refine zfmc (r_callV h (pc := 16) (ix := 152) (by decide +kernel) ckX15 3 mcX15_eatIn wk_eff6b7c34b wk_f5cf107898 wk_ad06174b4b rfl) ?_
  refine zfmc (r_if_ne h (pc := 19) (off := -19) (by decide +kernel) 0 (by decide +kernel)) ?_
  refine zfmc (r_iconst h (pc := 22) (z := 1) (by decide +kernel) (1) (by decide +kernel)) ?_
  refine zfmc (r_zreturn h (pc := 23) (by decide +kernel) rfl) ?_
  exact zfm0)
def tb_X15_isProduct (E : ZEX) (d mc ms : Nat) : List (Nat × ZStep) := [(0, s_aload 0 1), (1, s_aload 1 2), (2, s_callV E d mc ms 14 MX15_isValue 1 5), (5, s_if_ne 10 8), (8, s_const (.int (0)) 9), (9, s_zreturn), (10, s_aload 0 11), (11, s_aload 1 12), (12, s_const (.int (48)) 14), (14, s_const (.int (49)) 16), (16, s_callV E d mc ms 14 MX15_eatIn 3 19), (19, s_if_ne 0 22), (22, s_const (.int (1)) 23), (23, s_zreturn)]
set_option maxRecDepth 20000 in
theorem ok_X15_isProduct {E : ZEX} {X : ZMX} {d mc ms : Nat} {P : ZPT} {T : ZTT} (h : ZCX E X MX15_isProduct d mc ms P T) : ∀ pc, ZRow E X MX15_isProduct mc ms P T pc (ztb (tb_X15_isProduct E d mc ms) pc) := ztb_ok (by
  unfold tb_X15_isProduct
  refine zfmc (r_aload_n h (pc := 0) (kf := 0) 0 (by decide +kernel) rfl) ?_
  refine zfmc (r_aload_n h (pc := 1) (kf := 1) 1 (by decide +kernel) rfl) ?_
  refine zfmc (r_callV h (pc := 2) (ix := 159) (by decide +kernel) ckX15 1 mcX15_isValue wk_f9e4b23534 wk_a9921354dd wk_275f5faa99 rfl) ?_
  refine zfmc (r_if_ne h (pc := 5) (off := 5) (by decide +kernel) 10 (by decide +kernel)) ?_
  refine zfmc (r_iconst h (pc := 8) (z := 0) (by decide +kernel) (0) (by decide +kernel)) ?_
  refine zfmc (r_zreturn h (pc := 9) (by decide +kernel) rfl) ?_
  refine zfmc (r_aload_n h (pc := 10) (kf := 0) 0 (by decide +kernel) rfl) ?_
  refine zfmc (r_aload_n h (pc := 11) (kf := 1) 1 (by decide +kernel) rfl) ?_
  refine zfmc (r_bipush h (pc := 12) (z := 48) (by decide +kernel) (48) (by decide +kernel)) ?_
  refine zfmc (r_bipush h (pc := 14) (z := 49) (by decide +kernel) (49) (by decide +kernel)) ?_
  refine zfmc (r_callV h (pc := 16) (ix := 152) (by decide +kernel) ckX15 3 mcX15_eatIn wk_eff6b7c34b wk_f5cf107898 wk_ad06174b4b rfl) ?_
  refine zfmc (r_if_ne h (pc := 19) (off := -19) (by decide +kernel) 0 (by decide +kernel)) ?_
  refine zfmc (r_iconst h (pc := 22) (z := 1) (by decide +kernel) (1) (by decide +kernel)) ?_
  refine zfmc (r_zreturn h (pc := 23) (by decide +kernel) rfl) ?_
  exact zfm0)
def tb_X15_isValue (E : ZEX) (d mc ms : Nat) : List (Nat × ZStep) := [(0, s_aload 1 1), (1, s_getf 12 0 4), (4, s_aload 0 5), (5, s_getf 14 4 8), (8, s_iaload E 9), (9, s_const (.int (47)) 11), (11, s_icmp_ne 46 14), (14, s_aload 0 15), (15, s_aload 1 16), (16, s_const (.int (47)) 18), (18, s_callV E d mc ms 14 MX15_goDown 2 21), (21, s_if_eq 32 24), (24, s_aload 0 25), (25, s_aload 1 26), (26, s_callV E d mc ms 14 MX15_isValue 1 29), (29, s_if_ne 34 32), (32, s_const (.int (0)) 33), (33, s_zreturn), (34, s_aload 0 35), (35, s_dup 36), (36, s_getf 14 5 39), (39, s_const (.int (1)) 40), (40, s_isub 41), (41, s_putf 14 5 0 44), (44, s_const (.int (1)) 45), (45, s_zreturn), (46, s_aload 0 47), (47, s_aload 1 48), (48, s_const (.int (31)) 50), (50, s_callV E d mc ms 14 MX15_eat 2 53), (53, s_if_ne 96 56), (56, s_aload 0 57), (57, s_aload 1 58), (58, s_const (.int (15)) 60), (60, s_const (.int (16)) 62), (62, s_callV E d mc ms 14 MX15_eatIn 3 65), (65, s_if_ne 96 68), (68, s_aload 0 69), (69, s_aload 1 70), (70, s_const (.int (3)) 71), (71, s_callV E d mc ms 14 MX15_eat 2 74), (74, s_if_ne 96 77), (77, s_aload 0 78), (78, s_aload 1 79), (79, s_const (.int (5)) 80), (80, s_callV E d mc ms 14 MX15_eat 2 83), (83, s_if_ne 96 86), (86, s_aload 0 87), (87, s_aload 1 88), (88, s_const (.int (20)) 90), (90, s_callV E d mc ms 14 MX15_eat 2 93), (93, s_if_eq 98 96), (96, s_const (.int (1)) 97), (97, s_zreturn), (98, s_aload 0 99), (99, s_aload 1 100), (100, s_const (.int (17)) 102), (102, s_const (.int (19)) 104), (104, s_callV E d mc ms 14 MX15_eatIn 3 107), (107, s_if_eq 118 110), (110, s_aload 0 111), (111, s_aload 1 112), (112, s_const (.int (30)) 114), (114, s_callV E d mc ms 14 MX15_eat 2 117), (117, s_zreturn), (118, s_aload 0 119), (119, s_aload 1 120), (120, s_const (.int (24)) 122), (122, s_const (.int (25)) 124), (124, s_callV E d mc ms 14 MX15_eatIn 3 127), (127, s_istore 2 128), (128, s_aload 0 129), (129, s_aload 1 130), (130, s_const (.int (40)) 132), (132, s_callV E d mc ms 14 MX15_goDown 2 135), (135, s_if_eq 178 138), (138, s_aload 0 139), (139, s_aload 1 140), (140, s_callV E d mc ms 14 MX15_isSum 1 143), (143, s_if_eq 178 146), (146, s_iload 2 147), (147, s_if_eq 168 150), (150, s_aload 0 151), (151, s_aload 1 152), (152, s_const (.int (45)) 154), (154, s_callV E d mc ms 14 MX15_eat 2 157), (157, s_if_eq 178 160), (160, s_aload 0 161), (161, s_aload 1 162), (162, s_callV E d mc ms 14 MX15_isSum 1 165), (165, s_if_eq 178 168), (168, s_aload 0 169), (169, s_aload 1 170), (170, s_const (.int (41)) 172), (172, s_callV E d mc ms 14 MX15_eat 2 175), (175, s_if_ne 180 178), (178, s_const (.int (0)) 179), (179, s_zreturn), (180, s_aload 0 181), (181, s_dup 182), (182, s_getf 14 5 185), (185, s_const (.int (1)) 186), (186, s_isub 187), (187, s_putf 14 5 0 190), (190, s_const (.int (1)) 191), (191, s_zreturn)]
set_option maxRecDepth 20000 in
theorem ok_X15_isValue {E : ZEX} {X : ZMX} {d mc ms : Nat} {P : ZPT} {T : ZTT} (h : ZCX E X MX15_isValue d mc ms P T) : ∀ pc, ZRow E X MX15_isValue mc ms P T pc (ztb (tb_X15_isValue E d mc ms) pc) := ztb_ok (by
  unfold tb_X15_isValue
  refine zfmc (r_aload_n h (pc := 0) (kf := 1) 1 (by decide +kernel) rfl) ?_
  refine zfmc (r_getfN h (pc := 1) (ix := 105) (by decide +kernel) ckX13 0 (by decide) wk_7b5b465128) ?_
  refine zfmc (r_aload_n h (pc := 4) (kf := 0) 0 (by decide +kernel) rfl) ?_
  refine zfmc (r_getf h (pc := 5) (ix := 111) (by decide +kernel) ckX15 4 (by decide) wk_1ffd16151b) ?_
  refine zfmc (r_iaload h (pc := 8) (by decide +kernel)) ?_
  refine zfmc (r_bipush h (pc := 9) (z := 47) (by decide +kernel) (47) (by decide +kernel)) ?_
  refine zfmc (r_icmp_ne h (pc := 11) (off := 35) (by decide +kernel) 46 (by decide +kernel)) ?_
  refine zfmc (r_aload_n h (pc := 14) (kf := 0) 0 (by decide +kernel) rfl) ?_
  refine zfmc (r_aload_n h (pc := 15) (kf := 1) 1 (by decide +kernel) rfl) ?_
  refine zfmc (r_bipush h (pc := 16) (z := 47) (by decide +kernel) (47) (by decide +kernel)) ?_
  refine zfmc (r_callV h (pc := 18) (ix := 149) (by decide +kernel) ckX15 2 mcX15_goDown wk_d0402d8968 wk_2d266b8d55 wk_e0baa40295 rfl) ?_
  refine zfmc (r_if_eq h (pc := 21) (off := 11) (by decide +kernel) 32 (by decide +kernel)) ?_
  refine zfmc (r_aload_n h (pc := 24) (kf := 0) 0 (by decide +kernel) rfl) ?_
  refine zfmc (r_aload_n h (pc := 25) (kf := 1) 1 (by decide +kernel) rfl) ?_
  refine zfmc (r_callV h (pc := 26) (ix := 159) (by decide +kernel) ckX15 1 mcX15_isValue wk_f9e4b23534 wk_a9921354dd wk_275f5faa99 rfl) ?_
  refine zfmc (r_if_ne h (pc := 29) (off := 5) (by decide +kernel) 34 (by decide +kernel)) ?_
  refine zfmc (r_iconst h (pc := 32) (z := 0) (by decide +kernel) (0) (by decide +kernel)) ?_
  refine zfmc (r_zreturn h (pc := 33) (by decide +kernel) rfl) ?_
  refine zfmc (r_aload_n h (pc := 34) (kf := 0) 0 (by decide +kernel) rfl) ?_
  refine zfmc (r_dup h (pc := 35) (by decide +kernel)) ?_
  refine zfmc (r_getf h (pc := 36) (ix := 114) (by decide +kernel) ckX15 5 (by decide) wk_af527be352) ?_
  refine zfmc (r_iconst h (pc := 39) (z := 1) (by decide +kernel) (1) (by decide +kernel)) ?_
  refine zfmc (r_isub h (pc := 40) (by decide +kernel)) ?_
  refine zfmc (r_putf h (pc := 41) (ix := 114) (by decide +kernel) ckX15 5 (by decide) 0 (fty := tyX15 5) (tyX15_ok 5 (by decide)) rfl rfl wk_af527be352) ?_
  refine zfmc (r_iconst h (pc := 44) (z := 1) (by decide +kernel) (1) (by decide +kernel)) ?_
  refine zfmc (r_zreturn h (pc := 45) (by decide +kernel) rfl) ?_
  refine zfmc (r_aload_n h (pc := 46) (kf := 0) 0 (by decide +kernel) rfl) ?_
  refine zfmc (r_aload_n h (pc := 47) (kf := 1) 1 (by decide +kernel) rfl) ?_
  refine zfmc (r_bipush h (pc := 48) (z := 31) (by decide +kernel) (31) (by decide +kernel)) ?_
  refine zfmc (r_callV h (pc := 50) (ix := 121) (by decide +kernel) ckX15 2 mcX15_eat wk_e0372883b3 wk_853a2f0ca3 wk_432dbcace1 rfl) ?_
  refine zfmc (r_if_ne h (pc := 53) (off := 43) (by decide +kernel) 96 (by decide +kernel)) ?_
  refine zfmc (r_aload_n h (pc := 56) (kf := 0) 0 (by decide +kernel) rfl) ?_
  refine zfmc (r_aload_n h (pc := 57) (kf := 1) 1 (by decide +kernel) rfl) ?_
  refine zfmc (r_bipush h (pc := 58) (z := 15) (by decide +kernel) (15) (by decide +kernel)) ?_
  refine zfmc (r_bipush h (pc := 60) (z := 16) (by decide +kernel) (16) (by decide +kernel)) ?_
  refine zfmc (r_callV h (pc := 62) (ix := 152) (by decide +kernel) ckX15 3 mcX15_eatIn wk_eff6b7c34b wk_f5cf107898 wk_ad06174b4b rfl) ?_
  refine zfmc (r_if_ne h (pc := 65) (off := 31) (by decide +kernel) 96 (by decide +kernel)) ?_
  refine zfmc (r_aload_n h (pc := 68) (kf := 0) 0 (by decide +kernel) rfl) ?_
  refine zfmc (r_aload_n h (pc := 69) (kf := 1) 1 (by decide +kernel) rfl) ?_
  refine zfmc (r_iconst h (pc := 70) (z := 3) (by decide +kernel) (3) (by decide +kernel)) ?_
  refine zfmc (r_callV h (pc := 71) (ix := 121) (by decide +kernel) ckX15 2 mcX15_eat wk_e0372883b3 wk_853a2f0ca3 wk_432dbcace1 rfl) ?_
  refine zfmc (r_if_ne h (pc := 74) (off := 22) (by decide +kernel) 96 (by decide +kernel)) ?_
  refine zfmc (r_aload_n h (pc := 77) (kf := 0) 0 (by decide +kernel) rfl) ?_
  refine zfmc (r_aload_n h (pc := 78) (kf := 1) 1 (by decide +kernel) rfl) ?_
  refine zfmc (r_iconst h (pc := 79) (z := 5) (by decide +kernel) (5) (by decide +kernel)) ?_
  refine zfmc (r_callV h (pc := 80) (ix := 121) (by decide +kernel) ckX15 2 mcX15_eat wk_e0372883b3 wk_853a2f0ca3 wk_432dbcace1 rfl) ?_
  refine zfmc (r_if_ne h (pc := 83) (off := 13) (by decide +kernel) 96 (by decide +kernel)) ?_
  refine zfmc (r_aload_n h (pc := 86) (kf := 0) 0 (by decide +kernel) rfl) ?_
  refine zfmc (r_aload_n h (pc := 87) (kf := 1) 1 (by decide +kernel) rfl) ?_
  refine zfmc (r_bipush h (pc := 88) (z := 20) (by decide +kernel) (20) (by decide +kernel)) ?_
  refine zfmc (r_callV h (pc := 90) (ix := 121) (by decide +kernel) ckX15 2 mcX15_eat wk_e0372883b3 wk_853a2f0ca3 wk_432dbcace1 rfl) ?_
  refine zfmc (r_if_eq h (pc := 93) (off := 5) (by decide +kernel) 98 (by decide +kernel)) ?_
  refine zfmc (r_iconst h (pc := 96) (z := 1) (by decide +kernel) (1) (by decide +kernel)) ?_
  refine zfmc (r_zreturn h (pc := 97) (by decide +kernel) rfl) ?_
  refine zfmc (r_aload_n h (pc := 98) (kf := 0) 0 (by decide +kernel) rfl) ?_
  refine zfmc (r_aload_n h (pc := 99) (kf := 1) 1 (by decide +kernel) rfl) ?_
  refine zfmc (r_bipush h (pc := 100) (z := 17) (by decide +kernel) (17) (by decide +kernel)) ?_
  refine zfmc (r_bipush h (pc := 102) (z := 19) (by decide +kernel) (19) (by decide +kernel)) ?_
  refine zfmc (r_callV h (pc := 104) (ix := 152) (by decide +kernel) ckX15 3 mcX15_eatIn wk_eff6b7c34b wk_f5cf107898 wk_ad06174b4b rfl) ?_
  refine zfmc (r_if_eq h (pc := 107) (off := 11) (by decide +kernel) 118 (by decide +kernel)) ?_
  refine zfmc (r_aload_n h (pc := 110) (kf := 0) 0 (by decide +kernel) rfl) ?_
  refine zfmc (r_aload_n h (pc := 111) (kf := 1) 1 (by decide +kernel) rfl) ?_
  refine zfmc (r_bipush h (pc := 112) (z := 30) (by decide +kernel) (30) (by decide +kernel)) ?_
  refine zfmc (r_callV h (pc := 114) (ix := 121) (by decide +kernel) ckX15 2 mcX15_eat wk_e0372883b3 wk_853a2f0ca3 wk_432dbcace1 rfl) ?_
  refine zfmc (r_zreturn h (pc := 117) (by decide +kernel) rfl) ?_
  refine zfmc (r_aload_n h (pc := 118) (kf := 0) 0 (by decide +kernel) rfl) ?_
  refine zfmc (r_aload_n h (pc := 119) (kf := 1) 1 (by decide +kernel) rfl) ?_
  refine zfmc (r_bipush h (pc := 120) (z := 24) (by decide +kernel) (24) (by decide +kernel)) ?_
  refine zfmc (r_bipush h (pc := 122) (z := 25) (by decide +kernel) (25) (by decide +kernel)) ?_
  refine zfmc (r_callV h (pc := 124) (ix := 152) (by decide +kernel) ckX15 3 mcX15_eatIn wk_eff6b7c34b wk_f5cf107898 wk_ad06174b4b rfl) ?_
  refine zfmc (r_istore_n h (pc := 127) (kf := 2) 2 (by decide +kernel) rfl (by decide +kernel)) ?_
  refine zfmc (r_aload_n h (pc := 128) (kf := 0) 0 (by decide +kernel) rfl) ?_
  refine zfmc (r_aload_n h (pc := 129) (kf := 1) 1 (by decide +kernel) rfl) ?_
  refine zfmc (r_bipush h (pc := 130) (z := 40) (by decide +kernel) (40) (by decide +kernel)) ?_
  refine zfmc (r_callV h (pc := 132) (ix := 149) (by decide +kernel) ckX15 2 mcX15_goDown wk_d0402d8968 wk_2d266b8d55 wk_e0baa40295 rfl) ?_
  refine zfmc (r_if_eq h (pc := 135) (off := 43) (by decide +kernel) 178 (by decide +kernel)) ?_
  refine zfmc (r_aload_n h (pc := 138) (kf := 0) 0 (by decide +kernel) rfl) ?_
  refine zfmc (r_aload_n h (pc := 139) (kf := 1) 1 (by decide +kernel) rfl) ?_
  refine zfmc (r_callV h (pc := 140) (ix := 140) (by decide +kernel) ckX15 1 mcX15_isSum wk_53a8d9d354 wk_73eea2d41e wk_fc48919d8d rfl) ?_
  refine zfmc (r_if_eq h (pc := 143) (off := 35) (by decide +kernel) 178 (by decide +kernel)) ?_
  refine zfmc (r_iload_n h (pc := 146) (kf := 2) 2 (by decide +kernel) rfl) ?_
  refine zfmc (r_if_eq h (pc := 147) (off := 21) (by decide +kernel) 168 (by decide +kernel)) ?_
  refine zfmc (r_aload_n h (pc := 150) (kf := 0) 0 (by decide +kernel) rfl) ?_
  refine zfmc (r_aload_n h (pc := 151) (kf := 1) 1 (by decide +kernel) rfl) ?_
  refine zfmc (r_bipush h (pc := 152) (z := 45) (by decide +kernel) (45) (by decide +kernel)) ?_
  refine zfmc (r_callV h (pc := 154) (ix := 121) (by decide +kernel) ckX15 2 mcX15_eat wk_e0372883b3 wk_853a2f0ca3 wk_432dbcace1 rfl) ?_
  refine zfmc (r_if_eq h (pc := 157) (off := 21) (by decide +kernel) 178 (by decide +kernel)) ?_
  refine zfmc (r_aload_n h (pc := 160) (kf := 0) 0 (by decide +kernel) rfl) ?_
  refine zfmc (r_aload_n h (pc := 161) (kf := 1) 1 (by decide +kernel) rfl) ?_
  refine zfmc (r_callV h (pc := 162) (ix := 140) (by decide +kernel) ckX15 1 mcX15_isSum wk_53a8d9d354 wk_73eea2d41e wk_fc48919d8d rfl) ?_
  refine zfmc (r_if_eq h (pc := 165) (off := 13) (by decide +kernel) 178 (by decide +kernel)) ?_
  refine zfmc (r_aload_n h (pc := 168) (kf := 0) 0 (by decide +kernel) rfl) ?_
  refine zfmc (r_aload_n h (pc := 169) (kf := 1) 1 (by decide +kernel) rfl) ?_
  refine zfmc (r_bipush h (pc := 170) (z := 41) (by decide +kernel) (41) (by decide +kernel)) ?_
  refine zfmc (r_callV h (pc := 172) (ix := 121) (by decide +kernel) ckX15 2 mcX15_eat wk_e0372883b3 wk_853a2f0ca3 wk_432dbcace1 rfl) ?_
  refine zfmc (r_if_ne h (pc := 175) (off := 5) (by decide +kernel) 180 (by decide +kernel)) ?_
  refine zfmc (r_iconst h (pc := 178) (z := 0) (by decide +kernel) (0) (by decide +kernel)) ?_
  refine zfmc (r_zreturn h (pc := 179) (by decide +kernel) rfl) ?_
  refine zfmc (r_aload_n h (pc := 180) (kf := 0) 0 (by decide +kernel) rfl) ?_
  refine zfmc (r_dup h (pc := 181) (by decide +kernel)) ?_
  refine zfmc (r_getf h (pc := 182) (ix := 114) (by decide +kernel) ckX15 5 (by decide) wk_af527be352) ?_
  refine zfmc (r_iconst h (pc := 185) (z := 1) (by decide +kernel) (1) (by decide +kernel)) ?_
  refine zfmc (r_isub h (pc := 186) (by decide +kernel)) ?_
  refine zfmc (r_putf h (pc := 187) (ix := 114) (by decide +kernel) ckX15 5 (by decide) 0 (fty := tyX15 5) (tyX15_ok 5 (by decide)) rfl rfl wk_af527be352) ?_
  refine zfmc (r_iconst h (pc := 190) (z := 1) (by decide +kernel) (1) (by decide +kernel)) ?_
  refine zfmc (r_zreturn h (pc := 191) (by decide +kernel) rfl) ?_
  exact zfm0)
def tb_X15_number (E : ZEX) (d mc ms : Nat) : List (Nat × ZStep) := [(0, s_const (.int (0)) 1), (1, s_istore 3 2), (2, s_const (.int (0)) 3), (3, s_istore 4 5), (5, s_iload 4 7), (7, s_aload 1 8), (8, s_getf 12 2 11), (11, s_iload 2 12), (12, s_iaload E 13), (13, s_icmp_ge 45 16), (16, s_const (.int (10)) 18), (18, s_iload 3 19), (19, s_imul 20), (20, s_aload 0 21), (21, s_getf 14 1 24), (24, s_aload 1 25), (25, s_getf 12 1 28), (28, s_iload 2 29), (29, s_iaload E 30), (30, s_iload 4 32), (32, s_iadd 33), (33, s_iaload E 34), (34, s_iadd 35), (35, s_const (.int (48)) 37), (37, s_isub 38), (38, s_istore 3 39), (39, s_iinc 4 (1) 42), (42, s_goto 5), (45, s_iload 3 46), (46, s_ireturn)]
set_option maxRecDepth 20000 in
theorem ok_X15_number {E : ZEX} {X : ZMX} {d mc ms : Nat} {P : ZPT} {T : ZTT} (h : ZCX E X MX15_number d mc ms P T) : ∀ pc, ZRow E X MX15_number mc ms P T pc (ztb (tb_X15_number E d mc ms) pc) := ztb_ok (by
  unfold tb_X15_number
  refine zfmc (r_iconst h (pc := 0) (z := 0) (by decide +kernel) (0) (by decide +kernel)) ?_
  refine zfmc (r_istore_n h (pc := 1) (kf := 3) 3 (by decide +kernel) rfl (by decide +kernel)) ?_
  refine zfmc (r_iconst h (pc := 2) (z := 0) (by decide +kernel) (0) (by decide +kernel)) ?_
  refine zfmc (r_istore h (pc := 3) 4 (by decide +kernel) (by decide +kernel)) ?_
  refine zfmc (r_iload h (pc := 5) 4 (by decide +kernel)) ?_
  refine zfmc (r_aload_n h (pc := 7) (kf := 1) 1 (by decide +kernel) rfl) ?_
  refine zfmc (r_getfN h (pc := 8) (ix := 99) (by decide +kernel) ckX13 2 (by decide) wk_23d6f966c4) ?_
  refine zfmc (r_iload_n h (pc := 11) (kf := 2) 2 (by decide +kernel) rfl) ?_
  refine zfmc (r_iaload h (pc := 12) (by decide +kernel)) ?_
  refine zfmc (r_icmp_ge h (pc := 13) (off := 32) (by decide +kernel) 45 (by decide +kernel)) ?_
  refine zfmc (r_bipush h (pc := 16) (z := 10) (by decide +kernel) (10) (by decide +kernel)) ?_
  refine zfmc (r_iload_n h (pc := 18) (kf := 3) 3 (by decide +kernel) rfl) ?_
  refine zfmc (r_imul h (pc := 19) (by decide +kernel)) ?_
  refine zfmc (r_aload_n h (pc := 20) (kf := 0) 0 (by decide +kernel) rfl) ?_
  refine zfmc (r_getf h (pc := 21) (ix := 9) (by decide +kernel) ckX15 1 (by decide) wk_817e5a39aa) ?_
  refine zfmc (r_aload_n h (pc := 24) (kf := 1) 1 (by decide +kernel) rfl) ?_
  refine zfmc (r_getfN h (pc := 25) (ix := 96) (by decide +kernel) ckX13 1 (by decide) wk_6e7ced0cb5) ?_
  refine zfmc (r_iload_n h (pc := 28) (kf := 2) 2 (by decide +kernel) rfl) ?_
  refine zfmc (r_iaload h (pc := 29) (by decide +kernel)) ?_
  refine zfmc (r_iload h (pc := 30) 4 (by decide +kernel)) ?_
  refine zfmc (r_iadd h (pc := 32) (by decide +kernel)) ?_
  refine zfmc (r_iaload h (pc := 33) (by decide +kernel)) ?_
  refine zfmc (r_iadd h (pc := 34) (by decide +kernel)) ?_
  refine zfmc (r_bipush h (pc := 35) (z := 48) (by decide +kernel) (48) (by decide +kernel)) ?_
  refine zfmc (r_isub h (pc := 37) (by decide +kernel)) ?_
  refine zfmc (r_istore_n h (pc := 38) (kf := 3) 3 (by decide +kernel) rfl (by decide +kernel)) ?_
  refine zfmc (r_iinc h (pc := 39) 4 (z := 1) (by decide +kernel) (1) (by decide +kernel) (by decide +kernel)) ?_
  refine zfmc (r_goto h (pc := 42) (off := -37) (by decide +kernel) 5 (by decide +kernel)) ?_
  refine zfmc (r_iload_n h (pc := 45) (kf := 3) 3 (by decide +kernel) rfl) ?_
  refine zfmc (r_ireturn h (pc := 46) (by decide +kernel) rfl) ?_
  exact zfm0)
def tb_X15_areSame (E : ZEX) (d mc ms : Nat) : List (Nat × ZStep) := [(0, s_aload 1 1), (1, s_getf 12 2 4), (4, s_iload 2 5), (5, s_iaload E 6), (6, s_aload 1 7), (7, s_getf 12 2 10), (10, s_iload 3 11), (11, s_iaload E 12), (12, s_icmp_ne 19 15), (15, s_const (.int (1)) 16), (16, s_goto 20), (19, s_const (.int (0)) 20), (20, s_istore 4 22), (22, s_const (.int (0)) 23), (23, s_istore 5 25), (25, s_iload 4 27), (27, s_if_eq 85 30), (30, s_iload 5 32), (32, s_aload 1 33), (33, s_getf 12 2 36), (36, s_iload 2 37), (37, s_iaload E 38), (38, s_icmp_ge 85 41), (41, s_aload 0 42), (42, s_getf 14 1 45), (45, s_aload 1 46), (46, s_getf 12 1 49), (49, s_iload 2 50), (50, s_iaload E 51), (51, s_iload 5 53), (53, s_iadd 54), (54, s_iaload E 55), (55, s_aload 0 56), (56, s_getf 14 1 59), (59, s_aload 1 60), (60, s_getf 12 1 63), (63, s_iload 3 64), (64, s_iaload E 65), (65, s_iload 5 67), (67, s_iadd 68), (68, s_iaload E 69), (69, s_icmp_ne 76 72), (72, s_const (.int (1)) 73), (73, s_goto 77), (76, s_const (.int (0)) 77), (77, s_istore 4 79), (79, s_iinc 5 (1) 82), (82, s_goto 25), (85, s_iload 4 87), (87, s_zreturn)]
set_option maxRecDepth 20000 in
theorem ok_X15_areSame {E : ZEX} {X : ZMX} {d mc ms : Nat} {P : ZPT} {T : ZTT} (h : ZCX E X MX15_areSame d mc ms P T) : ∀ pc, ZRow E X MX15_areSame mc ms P T pc (ztb (tb_X15_areSame E d mc ms) pc) := ztb_ok (by
  unfold tb_X15_areSame
  refine zfmc (r_aload_n h (pc := 0) (kf := 1) 1 (by decide +kernel) rfl) ?_
  refine zfmc (r_getfN h (pc := 1) (ix := 99) (by decide +kernel) ckX13 2 (by decide) wk_23d6f966c4) ?_
  refine zfmc (r_iload_n h (pc := 4) (kf := 2) 2 (by decide +kernel) rfl) ?_
  refine zfmc (r_iaload h (pc := 5) (by decide +kernel)) ?_
  refine zfmc (r_aload_n h (pc := 6) (kf := 1) 1 (by decide +kernel) rfl) ?_
  refine zfmc (r_getfN h (pc := 7) (ix := 99) (by decide +kernel) ckX13 2 (by decide) wk_23d6f966c4) ?_
  refine zfmc (r_iload_n h (pc := 10) (kf := 3) 3 (by decide +kernel) rfl) ?_
  refine zfmc (r_iaload h (pc := 11) (by decide +kernel)) ?_
  refine zfmc (r_icmp_ne h (pc := 12) (off := 7) (by decide +kernel) 19 (by decide +kernel)) ?_
  refine zfmc (r_iconst h (pc := 15) (z := 1) (by decide +kernel) (1) (by decide +kernel)) ?_
  refine zfmc (r_goto h (pc := 16) (off := 4) (by decide +kernel) 20 (by decide +kernel)) ?_
  refine zfmc (r_iconst h (pc := 19) (z := 0) (by decide +kernel) (0) (by decide +kernel)) ?_
  refine zfmc (r_istore h (pc := 20) 4 (by decide +kernel) (by decide +kernel)) ?_
  refine zfmc (r_iconst h (pc := 22) (z := 0) (by decide +kernel) (0) (by decide +kernel)) ?_
  refine zfmc (r_istore h (pc := 23) 5 (by decide +kernel) (by decide +kernel)) ?_
  refine zfmc (r_iload h (pc := 25) 4 (by decide +kernel)) ?_
  refine zfmc (r_if_eq h (pc := 27) (off := 58) (by decide +kernel) 85 (by decide +kernel)) ?_
  refine zfmc (r_iload h (pc := 30) 5 (by decide +kernel)) ?_
  refine zfmc (r_aload_n h (pc := 32) (kf := 1) 1 (by decide +kernel) rfl) ?_
  refine zfmc (r_getfN h (pc := 33) (ix := 99) (by decide +kernel) ckX13 2 (by decide) wk_23d6f966c4) ?_
  refine zfmc (r_iload_n h (pc := 36) (kf := 2) 2 (by decide +kernel) rfl) ?_
  refine zfmc (r_iaload h (pc := 37) (by decide +kernel)) ?_
  refine zfmc (r_icmp_ge h (pc := 38) (off := 47) (by decide +kernel) 85 (by decide +kernel)) ?_
  refine zfmc (r_aload_n h (pc := 41) (kf := 0) 0 (by decide +kernel) rfl) ?_
  refine zfmc (r_getf h (pc := 42) (ix := 9) (by decide +kernel) ckX15 1 (by decide) wk_817e5a39aa) ?_
  refine zfmc (r_aload_n h (pc := 45) (kf := 1) 1 (by decide +kernel) rfl) ?_
  refine zfmc (r_getfN h (pc := 46) (ix := 96) (by decide +kernel) ckX13 1 (by decide) wk_6e7ced0cb5) ?_
  refine zfmc (r_iload_n h (pc := 49) (kf := 2) 2 (by decide +kernel) rfl) ?_
  refine zfmc (r_iaload h (pc := 50) (by decide +kernel)) ?_
  refine zfmc (r_iload h (pc := 51) 5 (by decide +kernel)) ?_
  refine zfmc (r_iadd h (pc := 53) (by decide +kernel)) ?_
  refine zfmc (r_iaload h (pc := 54) (by decide +kernel)) ?_
  refine zfmc (r_aload_n h (pc := 55) (kf := 0) 0 (by decide +kernel) rfl) ?_
  refine zfmc (r_getf h (pc := 56) (ix := 9) (by decide +kernel) ckX15 1 (by decide) wk_817e5a39aa) ?_
  refine zfmc (r_aload_n h (pc := 59) (kf := 1) 1 (by decide +kernel) rfl) ?_
  refine zfmc (r_getfN h (pc := 60) (ix := 96) (by decide +kernel) ckX13 1 (by decide) wk_6e7ced0cb5) ?_
  refine zfmc (r_iload_n h (pc := 63) (kf := 3) 3 (by decide +kernel) rfl) ?_
  refine zfmc (r_iaload h (pc := 64) (by decide +kernel)) ?_
  refine zfmc (r_iload h (pc := 65) 5 (by decide +kernel)) ?_
  refine zfmc (r_iadd h (pc := 67) (by decide +kernel)) ?_
  refine zfmc (r_iaload h (pc := 68) (by decide +kernel)) ?_
  refine zfmc (r_icmp_ne h (pc := 69) (off := 7) (by decide +kernel) 76 (by decide +kernel)) ?_
  refine zfmc (r_iconst h (pc := 72) (z := 1) (by decide +kernel) (1) (by decide +kernel)) ?_
  refine zfmc (r_goto h (pc := 73) (off := 4) (by decide +kernel) 77 (by decide +kernel)) ?_
  refine zfmc (r_iconst h (pc := 76) (z := 0) (by decide +kernel) (0) (by decide +kernel)) ?_
  refine zfmc (r_istore h (pc := 77) 4 (by decide +kernel) (by decide +kernel)) ?_
  refine zfmc (r_iinc h (pc := 79) 5 (z := 1) (by decide +kernel) (1) (by decide +kernel) (by decide +kernel)) ?_
  refine zfmc (r_goto h (pc := 82) (off := -57) (by decide +kernel) 25 (by decide +kernel)) ?_
  refine zfmc (r_iload h (pc := 85) 4 (by decide +kernel)) ?_
  refine zfmc (r_zreturn h (pc := 87) (by decide +kernel) rfl) ?_
  exact zfm0)
def tb_X15_find (E : ZEX) (d mc ms : Nat) : List (Nat × ZStep) := [(0, s_const (.int (0)) 1), (1, s_istore 5 3), (3, s_iload 5 5), (5, s_iload 3 6), (6, s_icmp_ge 32 9), (9, s_aload 0 10), (10, s_aload 1 11), (11, s_aload 2 12), (12, s_iload 5 14), (14, s_iaload E 15), (15, s_iload 4 17), (17, s_callV E d mc ms 14 MX15_areSame 3 20), (20, s_if_eq 26 23), (23, s_iload 5 25), (25, s_ireturn), (26, s_iinc 5 (1) 29), (29, s_goto 3), (32, s_const (.int (-1)) 33), (33, s_ireturn)]
set_option maxRecDepth 20000 in
theorem ok_X15_find {E : ZEX} {X : ZMX} {d mc ms : Nat} {P : ZPT} {T : ZTT} (h : ZCX E X MX15_find d mc ms P T) : ∀ pc, ZRow E X MX15_find mc ms P T pc (ztb (tb_X15_find E d mc ms) pc) := ztb_ok (by
  unfold tb_X15_find
  refine zfmc (r_iconst h (pc := 0) (z := 0) (by decide +kernel) (0) (by decide +kernel)) ?_
  refine zfmc (r_istore h (pc := 1) 5 (by decide +kernel) (by decide +kernel)) ?_
  refine zfmc (r_iload h (pc := 3) 5 (by decide +kernel)) ?_
  refine zfmc (r_iload_n h (pc := 5) (kf := 3) 3 (by decide +kernel) rfl) ?_
  refine zfmc (r_icmp_ge h (pc := 6) (off := 26) (by decide +kernel) 32 (by decide +kernel)) ?_
  refine zfmc (r_aload_n h (pc := 9) (kf := 0) 0 (by decide +kernel) rfl) ?_
  refine zfmc (r_aload_n h (pc := 10) (kf := 1) 1 (by decide +kernel) rfl) ?_
  refine zfmc (r_aload_n h (pc := 11) (kf := 2) 2 (by decide +kernel) rfl) ?_
  refine zfmc (r_iload h (pc := 12) 5 (by decide +kernel)) ?_
  refine zfmc (r_iaload h (pc := 14) (by decide +kernel)) ?_
  refine zfmc (r_iload h (pc := 15) 4 (by decide +kernel)) ?_
  refine zfmc (r_callV h (pc := 17) (ix := 162) (by decide +kernel) ckX15 3 mcX15_areSame wk_81b9fc3712 wk_8077959170 wk_3826ec4736 rfl) ?_
  refine zfmc (r_if_eq h (pc := 20) (off := 6) (by decide +kernel) 26 (by decide +kernel)) ?_
  refine zfmc (r_iload h (pc := 23) 5 (by decide +kernel)) ?_
  refine zfmc (r_ireturn h (pc := 25) (by decide +kernel) rfl) ?_
  refine zfmc (r_iinc h (pc := 26) 5 (z := 1) (by decide +kernel) (1) (by decide +kernel) (by decide +kernel)) ?_
  refine zfmc (r_goto h (pc := 29) (off := -26) (by decide +kernel) 3 (by decide +kernel)) ?_
  refine zfmc (r_iconst h (pc := 32) (z := -1) (by decide +kernel) (-1) (by decide +kernel)) ?_
  refine zfmc (r_ireturn h (pc := 33) (by decide +kernel) rfl) ?_
  exact zfm0)
def tb_X15_errorOfCard (E : ZEX) (d mc ms : Nat) : List (Nat × ZStep) := [(0, s_aload 0 1), (1, s_aload 1 2), (2, s_aload 1 3), (3, s_getf 12 6 6), (6, s_aload 1 7), (7, s_getf 12 5 10), (10, s_iload 2 11), (11, s_callV E d mc ms 14 MX15_find 4 14), (14, s_const (.int (-1)) 15), (15, s_icmp_eq 20 18), (18, s_const (.int (2)) 19), (19, s_ireturn), (20, s_aload 1 21), (21, s_getf 12 5 24), (24, s_const (.int (10)) 26), (26, s_icmp_ne 31 29), (29, s_const (.int (4)) 30), (30, s_ireturn), (31, s_aload 1 32), (32, s_getf 12 6 35), (35, s_aload 1 36), (36, s_getf 12 5 39), (39, s_iload 2 40), (40, s_iastore E 41), (41, s_aload 1 42), (42, s_dup 43), (43, s_getf 12 5 46), (46, s_const (.int (1)) 47), (47, s_iadd 48), (48, s_putf 12 5 0 51), (51, s_const (.int (0)) 52), (52, s_ireturn)]
set_option maxRecDepth 20000 in
theorem ok_X15_errorOfCard {E : ZEX} {X : ZMX} {d mc ms : Nat} {P : ZPT} {T : ZTT} (h : ZCX E X MX15_errorOfCard d mc ms P T) : ∀ pc, ZRow E X MX15_errorOfCard mc ms P T pc (ztb (tb_X15_errorOfCard E d mc ms) pc) := ztb_ok (by
  unfold tb_X15_errorOfCard
  refine zfmc (r_aload_n h (pc := 0) (kf := 0) 0 (by decide +kernel) rfl) ?_
  refine zfmc (r_aload_n h (pc := 1) (kf := 1) 1 (by decide +kernel) rfl) ?_
  refine zfmc (r_aload_n h (pc := 2) (kf := 1) 1 (by decide +kernel) rfl) ?_
  refine zfmc (r_getfN h (pc := 3) (ix := 165) (by decide +kernel) ckX13 6 (by decide) wk_4070348528) ?_
  refine zfmc (r_aload_n h (pc := 6) (kf := 1) 1 (by decide +kernel) rfl) ?_
  refine zfmc (r_getfN h (pc := 7) (ix := 49) (by decide +kernel) ckX13 5 (by decide) wk_e01ba970e0) ?_
  refine zfmc (r_iload_n h (pc := 10) (kf := 2) 2 (by decide +kernel) rfl) ?_
  refine zfmc (r_callV h (pc := 11) (ix := 168) (by decide +kernel) ckX15 4 mcX15_find wk_6ebe42acf6 wk_898e1a4020 wk_d03817506e rfl) ?_
  refine zfmc (r_iconst h (pc := 14) (z := -1) (by decide +kernel) (-1) (by decide +kernel)) ?_
  refine zfmc (r_icmp_eq h (pc := 15) (off := 5) (by decide +kernel) 20 (by decide +kernel)) ?_
  refine zfmc (r_iconst h (pc := 18) (z := 2) (by decide +kernel) (2) (by decide +kernel)) ?_
  refine zfmc (r_ireturn h (pc := 19) (by decide +kernel) rfl) ?_
  refine zfmc (r_aload_n h (pc := 20) (kf := 1) 1 (by decide +kernel) rfl) ?_
  refine zfmc (r_getfN h (pc := 21) (ix := 49) (by decide +kernel) ckX13 5 (by decide) wk_e01ba970e0) ?_
  refine zfmc (r_bipush h (pc := 24) (z := 10) (by decide +kernel) (10) (by decide +kernel)) ?_
  refine zfmc (r_icmp_ne h (pc := 26) (off := 5) (by decide +kernel) 31 (by decide +kernel)) ?_
  refine zfmc (r_iconst h (pc := 29) (z := 4) (by decide +kernel) (4) (by decide +kernel)) ?_
  refine zfmc (r_ireturn h (pc := 30) (by decide +kernel) rfl) ?_
  refine zfmc (r_aload_n h (pc := 31) (kf := 1) 1 (by decide +kernel) rfl) ?_
  refine zfmc (r_getfN h (pc := 32) (ix := 165) (by decide +kernel) ckX13 6 (by decide) wk_4070348528) ?_
  refine zfmc (r_aload_n h (pc := 35) (kf := 1) 1 (by decide +kernel) rfl) ?_
  refine zfmc (r_getfN h (pc := 36) (ix := 49) (by decide +kernel) ckX13 5 (by decide) wk_e01ba970e0) ?_
  refine zfmc (r_iload_n h (pc := 39) (kf := 2) 2 (by decide +kernel) rfl) ?_
  refine zfmc (r_iastore h (pc := 40) (by decide +kernel)) ?_
  refine zfmc (r_aload_n h (pc := 41) (kf := 1) 1 (by decide +kernel) rfl) ?_
  refine zfmc (r_dup h (pc := 42) (by decide +kernel)) ?_
  refine zfmc (r_getfN h (pc := 43) (ix := 49) (by decide +kernel) ckX13 5 (by decide) wk_e01ba970e0) ?_
  refine zfmc (r_iconst h (pc := 46) (z := 1) (by decide +kernel) (1) (by decide +kernel)) ?_
  refine zfmc (r_iadd h (pc := 47) (by decide +kernel)) ?_
  refine zfmc (r_putfN h (pc := 48) (ix := 49) (by decide +kernel) ckX13 5 (by decide) 0 (fty := tyX13 5) (tyX13_ok 5 (by decide)) rfl rfl wk_e01ba970e0) ?_
  refine zfmc (r_iconst h (pc := 51) (z := 0) (by decide +kernel) (0) (by decide +kernel)) ?_
  refine zfmc (r_ireturn h (pc := 52) (by decide +kernel) rfl) ?_
  exact zfm0)
def tb_X15_errorOfMerchant (E : ZEX) (d mc ms : Nat) : List (Nat × ZStep) := [(0, s_aload 0 1), (1, s_aload 1 2), (2, s_aload 1 3), (3, s_getf 12 13 6), (6, s_aload 1 7), (7, s_getf 12 12 10), (10, s_iload 2 11), (11, s_callV E d mc ms 14 MX15_find 4 14), (14, s_const (.int (-1)) 15), (15, s_icmp_eq 20 18), (18, s_const (.int (2)) 19), (19, s_ireturn), (20, s_aload 1 21), (21, s_getf 12 12 24), (24, s_const (.int (4)) 25), (25, s_icmp_ne 30 28), (28, s_const (.int (4)) 29), (29, s_ireturn), (30, s_aload 1 31), (31, s_getf 12 13 34), (34, s_aload 1 35), (35, s_getf 12 12 38), (38, s_iload 2 39), (39, s_iastore E 40), (40, s_aload 1 41), (41, s_dup 42), (42, s_getf 12 12 45), (45, s_const (.int (1)) 46), (46, s_iadd 47), (47, s_putf 12 12 0 50), (50, s_const (.int (0)) 51), (51, s_ireturn)]
set_option maxRecDepth 20000 in
theorem ok_X15_errorOfMerchant {E : ZEX} {X : ZMX} {d mc ms : Nat} {P : ZPT} {T : ZTT} (h : ZCX E X MX15_errorOfMerchant d mc ms P T) : ∀ pc, ZRow E X MX15_errorOfMerchant mc ms P T pc (ztb (tb_X15_errorOfMerchant E d mc ms) pc) := ztb_ok (by
  unfold tb_X15_errorOfMerchant
  refine zfmc (r_aload_n h (pc := 0) (kf := 0) 0 (by decide +kernel) rfl) ?_
  refine zfmc (r_aload_n h (pc := 1) (kf := 1) 1 (by decide +kernel) rfl) ?_
  refine zfmc (r_aload_n h (pc := 2) (kf := 1) 1 (by decide +kernel) rfl) ?_
  refine zfmc (r_getfN h (pc := 3) (ix := 172) (by decide +kernel) ckX13 13 (by decide) wk_d38372213b) ?_
  refine zfmc (r_aload_n h (pc := 6) (kf := 1) 1 (by decide +kernel) rfl) ?_
  refine zfmc (r_getfN h (pc := 7) (ix := 56) (by decide +kernel) ckX13 12 (by decide) wk_e206866251) ?_
  refine zfmc (r_iload_n h (pc := 10) (kf := 2) 2 (by decide +kernel) rfl) ?_
  refine zfmc (r_callV h (pc := 11) (ix := 168) (by decide +kernel) ckX15 4 mcX15_find wk_6ebe42acf6 wk_898e1a4020 wk_d03817506e rfl) ?_
  refine zfmc (r_iconst h (pc := 14) (z := -1) (by decide +kernel) (-1) (by decide +kernel)) ?_
  refine zfmc (r_icmp_eq h (pc := 15) (off := 5) (by decide +kernel) 20 (by decide +kernel)) ?_
  refine zfmc (r_iconst h (pc := 18) (z := 2) (by decide +kernel) (2) (by decide +kernel)) ?_
  refine zfmc (r_ireturn h (pc := 19) (by decide +kernel) rfl) ?_
  refine zfmc (r_aload_n h (pc := 20) (kf := 1) 1 (by decide +kernel) rfl) ?_
  refine zfmc (r_getfN h (pc := 21) (ix := 56) (by decide +kernel) ckX13 12 (by decide) wk_e206866251) ?_
  refine zfmc (r_iconst h (pc := 24) (z := 4) (by decide +kernel) (4) (by decide +kernel)) ?_
  refine zfmc (r_icmp_ne h (pc := 25) (off := 5) (by decide +kernel) 30 (by decide +kernel)) ?_
  refine zfmc (r_iconst h (pc := 28) (z := 4) (by decide +kernel) (4) (by decide +kernel)) ?_
  refine zfmc (r_ireturn h (pc := 29) (by decide +kernel) rfl) ?_
  refine zfmc (r_aload_n h (pc := 30) (kf := 1) 1 (by decide +kernel) rfl) ?_
  refine zfmc (r_getfN h (pc := 31) (ix := 172) (by decide +kernel) ckX13 13 (by decide) wk_d38372213b) ?_
  refine zfmc (r_aload_n h (pc := 34) (kf := 1) 1 (by decide +kernel) rfl) ?_
  refine zfmc (r_getfN h (pc := 35) (ix := 56) (by decide +kernel) ckX13 12 (by decide) wk_e206866251) ?_
  refine zfmc (r_iload_n h (pc := 38) (kf := 2) 2 (by decide +kernel) rfl) ?_
  refine zfmc (r_iastore h (pc := 39) (by decide +kernel)) ?_
  refine zfmc (r_aload_n h (pc := 40) (kf := 1) 1 (by decide +kernel) rfl) ?_
  refine zfmc (r_dup h (pc := 41) (by decide +kernel)) ?_
  refine zfmc (r_getfN h (pc := 42) (ix := 56) (by decide +kernel) ckX13 12 (by decide) wk_e206866251) ?_
  refine zfmc (r_iconst h (pc := 45) (z := 1) (by decide +kernel) (1) (by decide +kernel)) ?_
  refine zfmc (r_iadd h (pc := 46) (by decide +kernel)) ?_
  refine zfmc (r_putfN h (pc := 47) (ix := 56) (by decide +kernel) ckX13 12 (by decide) 0 (fty := tyX13 12) (tyX13_ok 12 (by decide)) rfl rfl wk_e206866251) ?_
  refine zfmc (r_iconst h (pc := 50) (z := 0) (by decide +kernel) (0) (by decide +kernel)) ?_
  refine zfmc (r_ireturn h (pc := 51) (by decide +kernel) rfl) ?_
  exact zfm0)
def tb_X15_endStock (E : ZEX) (d mc ms : Nat) : List (Nat × ZStep) := [(0, s_aload 1 1), (1, s_getf 12 3 4), (4, s_iload 2 5), (5, s_iaload E 6), (6, s_istore 3 7), (7, s_aload 1 8), (8, s_getf 12 0 11), (11, s_iload 2 12), (12, s_const (.int (3)) 13), (13, s_isub 14), (14, s_iaload E 15), (15, s_const (.int (10)) 17), (17, s_icmp_ne 31 20), (20, s_aload 1 21), (21, s_getf 12 9 24), (24, s_iload 3 25), (25, s_aload 1 26), (26, s_getf 12 20 29), (29, s_iastore E 30), (30, s_return), (31, s_const (.int (0)) 32), (32, s_istore 4 34), (34, s_iload 4 36), (36, s_aload 1 37), (37, s_getf 12 20 40), (40, s_icmp_ge 69 43), (43, s_aload 1 44), (44, s_getf 12 15 47), (47, s_aload 1 48), (48, s_getf 12 14 51), (51, s_iload 3 52), (52, s_iastore E 53), (53, s_aload 1 54), (54, s_dup 55), (55, s_getf 12 14 58), (58, s_const (.int (1)) 59), (59, s_iadd 60), (60, s_putf 12 14 0 63), (63, s_iinc 4 (1) 66), (66, s_goto 34), (69, s_return)]
set_option maxRecDepth 20000 in
theorem ok_X15_endStock {E : ZEX} {X : ZMX} {d mc ms : Nat} {P : ZPT} {T : ZTT} (h : ZCX E X MX15_endStock d mc ms P T) : ∀ pc, ZRow E X MX15_endStock mc ms P T pc (ztb (tb_X15_endStock E d mc ms) pc) := ztb_ok (by
  unfold tb_X15_endStock
  refine zfmc (r_aload_n h (pc := 0) (kf := 1) 1 (by decide +kernel) rfl) ?_
  refine zfmc (r_getfN h (pc := 1) (ix := 175) (by decide +kernel) ckX13 3 (by decide) wk_083eb24f0a) ?_
  refine zfmc (r_iload_n h (pc := 4) (kf := 2) 2 (by decide +kernel) rfl) ?_
  refine zfmc (r_iaload h (pc := 5) (by decide +kernel)) ?_
  refine zfmc (r_istore_n h (pc := 6) (kf := 3) 3 (by decide +kernel) rfl (by decide +kernel)) ?_
  refine zfmc (r_aload_n h (pc := 7) (kf := 1) 1 (by decide +kernel) rfl) ?_
  refine zfmc (r_getfN h (pc := 8) (ix := 105) (by decide +kernel) ckX13 0 (by decide) wk_7b5b465128) ?_
  refine zfmc (r_iload_n h (pc := 11) (kf := 2) 2 (by decide +kernel) rfl) ?_
  refine zfmc (r_iconst h (pc := 12) (z := 3) (by decide +kernel) (3) (by decide +kernel)) ?_
  refine zfmc (r_isub h (pc := 13) (by decide +kernel)) ?_
  refine zfmc (r_iaload h (pc := 14) (by decide +kernel)) ?_
  refine zfmc (r_bipush h (pc := 15) (z := 10) (by decide +kernel) (10) (by decide +kernel)) ?_
  refine zfmc (r_icmp_ne h (pc := 17) (off := 14) (by decide +kernel) 31 (by decide +kernel)) ?_
  refine zfmc (r_aload_n h (pc := 20) (kf := 1) 1 (by decide +kernel) rfl) ?_
  refine zfmc (r_getfN h (pc := 21) (ix := 178) (by decide +kernel) ckX13 9 (by decide) wk_d4ee6b1275) ?_
  refine zfmc (r_iload_n h (pc := 24) (kf := 3) 3 (by decide +kernel) rfl) ?_
  refine zfmc (r_aload_n h (pc := 25) (kf := 1) 1 (by decide +kernel) rfl) ?_
  refine zfmc (r_getfN h (pc := 26) (ix := 181) (by decide +kernel) ckX13 20 (by decide) wk_3e37b6f8f3) ?_
  refine zfmc (r_iastore h (pc := 29) (by decide +kernel)) ?_
  refine zfmc (r_return h (pc := 30) (by decide +kernel) rfl) ?_
  refine zfmc (r_iconst h (pc := 31) (z := 0) (by decide +kernel) (0) (by decide +kernel)) ?_
  refine zfmc (r_istore h (pc := 32) 4 (by decide +kernel) (by decide +kernel)) ?_
  refine zfmc (r_iload h (pc := 34) 4 (by decide +kernel)) ?_
  refine zfmc (r_aload_n h (pc := 36) (kf := 1) 1 (by decide +kernel) rfl) ?_
  refine zfmc (r_getfN h (pc := 37) (ix := 181) (by decide +kernel) ckX13 20 (by decide) wk_3e37b6f8f3) ?_
  refine zfmc (r_icmp_ge h (pc := 40) (off := 29) (by decide +kernel) 69 (by decide +kernel)) ?_
  refine zfmc (r_aload_n h (pc := 43) (kf := 1) 1 (by decide +kernel) rfl) ?_
  refine zfmc (r_getfN h (pc := 44) (ix := 184) (by decide +kernel) ckX13 15 (by decide) wk_a89ab465b6) ?_
  refine zfmc (r_aload_n h (pc := 47) (kf := 1) 1 (by decide +kernel) rfl) ?_
  refine zfmc (r_getfN h (pc := 48) (ix := 187) (by decide +kernel) ckX13 14 (by decide) wk_296b415e6e) ?_
  refine zfmc (r_iload_n h (pc := 51) (kf := 3) 3 (by decide +kernel) rfl) ?_
  refine zfmc (r_iastore h (pc := 52) (by decide +kernel)) ?_
  refine zfmc (r_aload_n h (pc := 53) (kf := 1) 1 (by decide +kernel) rfl) ?_
  refine zfmc (r_dup h (pc := 54) (by decide +kernel)) ?_
  refine zfmc (r_getfN h (pc := 55) (ix := 187) (by decide +kernel) ckX13 14 (by decide) wk_296b415e6e) ?_
  refine zfmc (r_iconst h (pc := 58) (z := 1) (by decide +kernel) (1) (by decide +kernel)) ?_
  refine zfmc (r_iadd h (pc := 59) (by decide +kernel)) ?_
  refine zfmc (r_putfN h (pc := 60) (ix := 187) (by decide +kernel) ckX13 14 (by decide) 0 (fty := tyX13 14) (tyX13_ok 14 (by decide)) rfl rfl wk_296b415e6e) ?_
  refine zfmc (r_iinc h (pc := 63) 4 (z := 1) (by decide +kernel) (1) (by decide +kernel) (by decide +kernel)) ?_
  refine zfmc (r_goto h (pc := 66) (off := -32) (by decide +kernel) 34 (by decide +kernel)) ?_
  refine zfmc (r_return h (pc := 69) (by decide +kernel) rfl) ?_
  exact zfm0)
def tb_X15_errorOfName (E : ZEX) (d mc ms : Nat) : List (Nat × ZStep) := [(0, s_aload 1 1), (1, s_getf 12 0 4), (4, s_iload 2 5), (5, s_const (.int (1)) 6), (6, s_isub 7), (7, s_iaload E 8), (8, s_istore 3 9), (9, s_iload 3 10), (10, s_if_ne 20 13), (13, s_aload 0 14), (14, s_aload 1 15), (15, s_iload 2 16), (16, s_callV E d mc ms 14 MX15_errorOfCard 2 19), (19, s_ireturn), (20, s_iload 3 21), (21, s_const (.int (11)) 23), (23, s_icmp_ne 33 26), (26, s_aload 0 27), (27, s_aload 1 28), (28, s_iload 2 29), (29, s_callV E d mc ms 14 MX15_errorOfMerchant 2 32), (32, s_ireturn), (33, s_aload 1 34), (34, s_getf 12 3 37), (37, s_iload 2 38), (38, s_iload 3 39), (39, s_const (.int (13)) 41), (41, s_icmp_ne 61 44), (44, s_aload 0 45), (45, s_aload 1 46), (46, s_aload 1 47), (47, s_getf 12 13 50), (50, s_aload 1 51), (51, s_getf 12 12 54), (54, s_iload 2 55), (55, s_callV E d mc ms 14 MX15_find 4 58), (58, s_goto 75), (61, s_aload 0 62), (62, s_aload 1 63), (63, s_aload 1 64), (64, s_getf 12 6 67), (67, s_aload 1 68), (68, s_getf 12 5 71), (71, s_iload 2 72), (72, s_callV E d mc ms 14 MX15_find 4 75), (75, s_iastore E 76), (76, s_aload 1 77), (77, s_getf 12 3 80), (80, s_iload 2 81), (81, s_iaload E 82), (82, s_const (.int (-1)) 83), (83, s_icmp_ne 88 86), (86, s_const (.int (3)) 87), (87, s_ireturn), (88, s_iload 3 89), (89, s_const (.int (9)) 91), (91, s_icmp_ne 100 94), (94, s_aload 0 95), (95, s_aload 1 96), (96, s_iload 2 97), (97, s_callV E d mc ms 14 MX15_endStock 2 100), (100, s_iload 3 101), (101, s_const (.int (12)) 103), (103, s_icmp_ne 123 106), (106, s_aload 1 107), (107, s_getf 12 17 110), (110, s_aload 1 111), (111, s_getf 12 16 114), (114, s_const (.int (1)) 115), (115, s_isub 116), (116, s_aload 1 117), (117, s_getf 12 3 120), (120, s_iload 2 121), (121, s_iaload E 122), (122, s_iastore E 123), (123, s_iload 3 124), (124, s_const (.int (13)) 126), (126, s_icmp_ne 146 129), (129, s_aload 1 130), (130, s_getf 12 18 133), (133, s_aload 1 134), (134, s_getf 12 16 137), (137, s_const (.int (1)) 138), (138, s_isub 139), (139, s_aload 1 140), (140, s_getf 12 3 143), (143, s_iload 2 144), (144, s_iaload E 145), (145, s_iastore E 146), (146, s_const (.int (0)) 147), (147, s_ireturn)]
set_option maxRecDepth 20000 in
theorem ok_X15_errorOfName {E : ZEX} {X : ZMX} {d mc ms : Nat} {P : ZPT} {T : ZTT} (h : ZCX E X MX15_errorOfName d mc ms P T) : ∀ pc, ZRow E X MX15_errorOfName mc ms P T pc (ztb (tb_X15_errorOfName E d mc ms) pc) := ztb_ok (by
  unfold tb_X15_errorOfName
  refine zfmc (r_aload_n h (pc := 0) (kf := 1) 1 (by decide +kernel) rfl) ?_
  refine zfmc (r_getfN h (pc := 1) (ix := 105) (by decide +kernel) ckX13 0 (by decide) wk_7b5b465128) ?_
  refine zfmc (r_iload_n h (pc := 4) (kf := 2) 2 (by decide +kernel) rfl) ?_
  refine zfmc (r_iconst h (pc := 5) (z := 1) (by decide +kernel) (1) (by decide +kernel)) ?_
  refine zfmc (r_isub h (pc := 6) (by decide +kernel)) ?_
  refine zfmc (r_iaload h (pc := 7) (by decide +kernel)) ?_
  refine zfmc (r_istore_n h (pc := 8) (kf := 3) 3 (by decide +kernel) rfl (by decide +kernel)) ?_
  refine zfmc (r_iload_n h (pc := 9) (kf := 3) 3 (by decide +kernel) rfl) ?_
  refine zfmc (r_if_ne h (pc := 10) (off := 10) (by decide +kernel) 20 (by decide +kernel)) ?_
  refine zfmc (r_aload_n h (pc := 13) (kf := 0) 0 (by decide +kernel) rfl) ?_
  refine zfmc (r_aload_n h (pc := 14) (kf := 1) 1 (by decide +kernel) rfl) ?_
  refine zfmc (r_iload_n h (pc := 15) (kf := 2) 2 (by decide +kernel) rfl) ?_
  refine zfmc (r_callV h (pc := 16) (ix := 190) (by decide +kernel) ckX15 2 mcX15_errorOfCard wk_1b3f425e98 wk_4365bfafd5 wk_b61dc3cdb9 rfl) ?_
  refine zfmc (r_ireturn h (pc := 19) (by decide +kernel) rfl) ?_
  refine zfmc (r_iload_n h (pc := 20) (kf := 3) 3 (by decide +kernel) rfl) ?_
  refine zfmc (r_bipush h (pc := 21) (z := 11) (by decide +kernel) (11) (by decide +kernel)) ?_
  refine zfmc (r_icmp_ne h (pc := 23) (off := 10) (by decide +kernel) 33 (by decide +kernel)) ?_
  refine zfmc (r_aload_n h (pc := 26) (kf := 0) 0 (by decide +kernel) rfl) ?_
  refine zfmc (r_aload_n h (pc := 27) (kf := 1) 1 (by decide +kernel) rfl) ?_
  refine zfmc (r_iload_n h (pc := 28) (kf := 2) 2 (by decide +kernel) rfl) ?_
  refine zfmc (r_callV h (pc := 29) (ix := 194) (by decide +kernel) ckX15 2 mcX15_errorOfMerchant wk_307739cdb3 wk_7b2e0d6cc1 wk_2b7189ca5d rfl) ?_
  refine zfmc (r_ireturn h (pc := 32) (by decide +kernel) rfl) ?_
  refine zfmc (r_aload_n h (pc := 33) (kf := 1) 1 (by decide +kernel) rfl) ?_
  refine zfmc (r_getfN h (pc := 34) (ix := 175) (by decide +kernel) ckX13 3 (by decide) wk_083eb24f0a) ?_
  refine zfmc (r_iload_n h (pc := 37) (kf := 2) 2 (by decide +kernel) rfl) ?_
  refine zfmc (r_iload_n h (pc := 38) (kf := 3) 3 (by decide +kernel) rfl) ?_
  refine zfmc (r_bipush h (pc := 39) (z := 13) (by decide +kernel) (13) (by decide +kernel)) ?_
  refine zfmc (r_icmp_ne h (pc := 41) (off := 20) (by decide +kernel) 61 (by decide +kernel)) ?_
  refine zfmc (r_aload_n h (pc := 44) (kf := 0) 0 (by decide +kernel) rfl) ?_
  refine zfmc (r_aload_n h (pc := 45) (kf := 1) 1 (by decide +kernel) rfl) ?_
  refine zfmc (r_aload_n h (pc := 46) (kf := 1) 1 (by decide +kernel) rfl) ?_
  refine zfmc (r_getfN h (pc := 47) (ix := 172) (by decide +kernel) ckX13 13 (by decide) wk_d38372213b) ?_
  refine zfmc (r_aload_n h (pc := 50) (kf := 1) 1 (by decide +kernel) rfl) ?_
  refine zfmc (r_getfN h (pc := 51) (ix := 56) (by decide +kernel) ckX13 12 (by decide) wk_e206866251) ?_
  refine zfmc (r_iload_n h (pc := 54) (kf := 2) 2 (by decide +kernel) rfl) ?_
  refine zfmc (r_callV h (pc := 55) (ix := 168) (by decide +kernel) ckX15 4 mcX15_find wk_6ebe42acf6 wk_898e1a4020 wk_d03817506e rfl) ?_
  refine zfmc (r_goto h (pc := 58) (off := 17) (by decide +kernel) 75 (by decide +kernel)) ?_
  refine zfmc (r_aload_n h (pc := 61) (kf := 0) 0 (by decide +kernel) rfl) ?_
  refine zfmc (r_aload_n h (pc := 62) (kf := 1) 1 (by decide +kernel) rfl) ?_
  refine zfmc (r_aload_n h (pc := 63) (kf := 1) 1 (by decide +kernel) rfl) ?_
  refine zfmc (r_getfN h (pc := 64) (ix := 165) (by decide +kernel) ckX13 6 (by decide) wk_4070348528) ?_
  refine zfmc (r_aload_n h (pc := 67) (kf := 1) 1 (by decide +kernel) rfl) ?_
  refine zfmc (r_getfN h (pc := 68) (ix := 49) (by decide +kernel) ckX13 5 (by decide) wk_e01ba970e0) ?_
  refine zfmc (r_iload_n h (pc := 71) (kf := 2) 2 (by decide +kernel) rfl) ?_
  refine zfmc (r_callV h (pc := 72) (ix := 168) (by decide +kernel) ckX15 4 mcX15_find wk_6ebe42acf6 wk_898e1a4020 wk_d03817506e rfl) ?_
  refine zfmc (r_iastore h (pc := 75) (by decide +kernel)) ?_
  refine zfmc (r_aload_n h (pc := 76) (kf := 1) 1 (by decide +kernel) rfl) ?_
  refine zfmc (r_getfN h (pc := 77) (ix := 175) (by decide +kernel) ckX13 3 (by decide) wk_083eb24f0a) ?_
  refine zfmc (r_iload_n h (pc := 80) (kf := 2) 2 (by decide +kernel) rfl) ?_
  refine zfmc (r_iaload h (pc := 81) (by decide +kernel)) ?_
  refine zfmc (r_iconst h (pc := 82) (z := -1) (by decide +kernel) (-1) (by decide +kernel)) ?_
  refine zfmc (r_icmp_ne h (pc := 83) (off := 5) (by decide +kernel) 88 (by decide +kernel)) ?_
  refine zfmc (r_iconst h (pc := 86) (z := 3) (by decide +kernel) (3) (by decide +kernel)) ?_
  refine zfmc (r_ireturn h (pc := 87) (by decide +kernel) rfl) ?_
  refine zfmc (r_iload_n h (pc := 88) (kf := 3) 3 (by decide +kernel) rfl) ?_
  refine zfmc (r_bipush h (pc := 89) (z := 9) (by decide +kernel) (9) (by decide +kernel)) ?_
  refine zfmc (r_icmp_ne h (pc := 91) (off := 9) (by decide +kernel) 100 (by decide +kernel)) ?_
  refine zfmc (r_aload_n h (pc := 94) (kf := 0) 0 (by decide +kernel) rfl) ?_
  refine zfmc (r_aload_n h (pc := 95) (kf := 1) 1 (by decide +kernel) rfl) ?_
  refine zfmc (r_iload_n h (pc := 96) (kf := 2) 2 (by decide +kernel) rfl) ?_
  refine zfmc (r_callV h (pc := 97) (ix := 197) (by decide +kernel) ckX15 2 mcX15_endStock wk_68ef610f67 wk_7948a08952 wk_fcf1761f44 rfl) ?_
  refine zfmc (r_iload_n h (pc := 100) (kf := 3) 3 (by decide +kernel) rfl) ?_
  refine zfmc (r_bipush h (pc := 101) (z := 12) (by decide +kernel) (12) (by decide +kernel)) ?_
  refine zfmc (r_icmp_ne h (pc := 103) (off := 20) (by decide +kernel) 123 (by decide +kernel)) ?_
  refine zfmc (r_aload_n h (pc := 106) (kf := 1) 1 (by decide +kernel) rfl) ?_
  refine zfmc (r_getfN h (pc := 107) (ix := 201) (by decide +kernel) ckX13 17 (by decide) wk_f19993cbc1) ?_
  refine zfmc (r_aload_n h (pc := 110) (kf := 1) 1 (by decide +kernel) rfl) ?_
  refine zfmc (r_getfN h (pc := 111) (ix := 204) (by decide +kernel) ckX13 16 (by decide) wk_194e060314) ?_
  refine zfmc (r_iconst h (pc := 114) (z := 1) (by decide +kernel) (1) (by decide +kernel)) ?_
  refine zfmc (r_isub h (pc := 115) (by decide +kernel)) ?_
  refine zfmc (r_aload_n h (pc := 116) (kf := 1) 1 (by decide +kernel) rfl) ?_
  refine zfmc (r_getfN h (pc := 117) (ix := 175) (by decide +kernel) ckX13 3 (by decide) wk_083eb24f0a) ?_
  refine zfmc (r_iload_n h (pc := 120) (kf := 2) 2 (by decide +kernel) rfl) ?_
  refine zfmc (r_iaload h (pc := 121) (by decide +kernel)) ?_
  refine zfmc (r_iastore h (pc := 122) (by decide +kernel)) ?_
  refine zfmc (r_iload_n h (pc := 123) (kf := 3) 3 (by decide +kernel) rfl) ?_
  refine zfmc (r_bipush h (pc := 124) (z := 13) (by decide +kernel) (13) (by decide +kernel)) ?_
  refine zfmc (r_icmp_ne h (pc := 126) (off := 20) (by decide +kernel) 146 (by decide +kernel)) ?_
  refine zfmc (r_aload_n h (pc := 129) (kf := 1) 1 (by decide +kernel) rfl) ?_
  refine zfmc (r_getfN h (pc := 130) (ix := 207) (by decide +kernel) ckX13 18 (by decide) wk_8d423eb8e2) ?_
  refine zfmc (r_aload_n h (pc := 133) (kf := 1) 1 (by decide +kernel) rfl) ?_
  refine zfmc (r_getfN h (pc := 134) (ix := 204) (by decide +kernel) ckX13 16 (by decide) wk_194e060314) ?_
  refine zfmc (r_iconst h (pc := 137) (z := 1) (by decide +kernel) (1) (by decide +kernel)) ?_
  refine zfmc (r_isub h (pc := 138) (by decide +kernel)) ?_
  refine zfmc (r_aload_n h (pc := 139) (kf := 1) 1 (by decide +kernel) rfl) ?_
  refine zfmc (r_getfN h (pc := 140) (ix := 175) (by decide +kernel) ckX13 3 (by decide) wk_083eb24f0a) ?_
  refine zfmc (r_iload_n h (pc := 143) (kf := 2) 2 (by decide +kernel) rfl) ?_
  refine zfmc (r_iaload h (pc := 144) (by decide +kernel)) ?_
  refine zfmc (r_iastore h (pc := 145) (by decide +kernel)) ?_
  refine zfmc (r_iconst h (pc := 146) (z := 0) (by decide +kernel) (0) (by decide +kernel)) ?_
  refine zfmc (r_ireturn h (pc := 147) (by decide +kernel) rfl) ?_
  exact zfm0)
def tb_X15_errorOfRange (E : ZEX) (d mc ms : Nat) : List (Nat × ZStep) := [(0, s_iload 0 1), (1, s_iload 1 2), (2, s_iload 2 3), (3, s_callS E d mc ms MX15_isIn 3 6), (6, s_if_eq 13 9), (9, s_const (.int (0)) 10), (10, s_goto 14), (13, s_const (.int (5)) 14), (14, s_ireturn)]
set_option maxRecDepth 20000 in
theorem ok_X15_errorOfRange {E : ZEX} {X : ZMX} {d mc ms : Nat} {P : ZPT} {T : ZTT} (h : ZCX E X MX15_errorOfRange d mc ms P T) : ∀ pc, ZRow E X MX15_errorOfRange mc ms P T pc (ztb (tb_X15_errorOfRange E d mc ms) pc) := ztb_ok (by
  unfold tb_X15_errorOfRange
  refine zfmc (r_iload_n h (pc := 0) (kf := 0) 0 (by decide +kernel) rfl) ?_
  refine zfmc (r_iload_n h (pc := 1) (kf := 1) 1 (by decide +kernel) rfl) ?_
  refine zfmc (r_iload_n h (pc := 2) (kf := 2) 2 (by decide +kernel) rfl) ?_
  refine zfmc (r_callS h (pc := 3) (ix := 52) (by decide +kernel) 3 mcX15_isIn wk_ed1f636136 wk_d0354324c1) ?_
  refine zfmc (r_if_eq h (pc := 6) (off := 7) (by decide +kernel) 13 (by decide +kernel)) ?_
  refine zfmc (r_iconst h (pc := 9) (z := 0) (by decide +kernel) (0) (by decide +kernel)) ?_
  refine zfmc (r_goto h (pc := 10) (off := 4) (by decide +kernel) 14 (by decide +kernel)) ?_
  refine zfmc (r_iconst h (pc := 13) (z := 5) (by decide +kernel) (5) (by decide +kernel)) ?_
  refine zfmc (r_ireturn h (pc := 14) (by decide +kernel) rfl) ?_
  exact zfm0)
def tb_X15_errorOfNumber (E : ZEX) (d mc ms : Nat) : List (Nat × ZStep) := [(0, s_aload 0 1), (1, s_aload 1 2), (2, s_iload 2 3), (3, s_callV E d mc ms 14 MX15_number 2 6), (6, s_istore 3 7), (7, s_aload 1 8), (8, s_getf 12 3 11), (11, s_iload 2 12), (12, s_iload 3 13), (13, s_iastore E 14), (14, s_aload 1 15), (15, s_getf 12 0 18), (18, s_iload 2 19), (19, s_const (.int (1)) 20), (20, s_isub 21), (21, s_iaload E 22), (22, s_tsw 1 [76, 96, 157, 157, 157, 157, 157, 116, 157, 144] 157), (76, s_aload 1 77), (77, s_getf 12 7 80), (80, s_aload 1 81), (81, s_getf 12 5 84), (84, s_const (.int (1)) 85), (85, s_isub 86), (86, s_iload 3 87), (87, s_iastore E 88), (88, s_iload 3 89), (89, s_const (.int (0)) 90), (90, s_const (.int (99)) 92), (92, s_callS E d mc ms MX15_errorOfRange 3 95), (95, s_ireturn), (96, s_aload 1 97), (97, s_getf 12 8 100), (100, s_aload 1 101), (101, s_getf 12 5 104), (104, s_const (.int (1)) 105), (105, s_isub 106), (106, s_iload 3 107), (107, s_iastore E 108), (108, s_iload 3 109), (109, s_const (.int (0)) 110), (110, s_const (.int (99)) 112), (112, s_callS E d mc ms MX15_errorOfRange 3 115), (115, s_ireturn), (116, s_aload 1 117), (117, s_iload 3 118), (118, s_putf 12 20 0 121), (121, s_aload 1 122), (122, s_getf 12 14 125), (125, s_iload 3 126), (126, s_iadd 127), (127, s_const (.int (20)) 129), (129, s_icmp_le 136 132), (132, s_const (.int (4)) 133), (133, s_goto 143), (136, s_iload 3 137), (137, s_const (.int (1)) 138), (138, s_const (.int (20)) 140), (140, s_callS E d mc ms MX15_errorOfRange 3 143), (143, s_ireturn), (144, s_aload 1 145), (145, s_iload 3 146), (146, s_putf 12 20 0 149), (149, s_iload 3 150), (150, s_const (.int (0)) 151), (151, s_const (.int (30)) 153), (153, s_callS E d mc ms MX15_errorOfRange 3 156), (156, s_ireturn), (157, s_const (.int (0)) 158), (158, s_ireturn)]
set_option maxRecDepth 20000 in
theorem ok_X15_errorOfNumber {E : ZEX} {X : ZMX} {d mc ms : Nat} {P : ZPT} {T : ZTT} (h : ZCX E X MX15_errorOfNumber d mc ms P T) : ∀ pc, ZRow E X MX15_errorOfNumber mc ms P T pc (ztb (tb_X15_errorOfNumber E d mc ms) pc) := ztb_ok (by
  unfold tb_X15_errorOfNumber
  refine zfmc (r_aload_n h (pc := 0) (kf := 0) 0 (by decide +kernel) rfl) ?_
  refine zfmc (r_aload_n h (pc := 1) (kf := 1) 1 (by decide +kernel) rfl) ?_
  refine zfmc (r_iload_n h (pc := 2) (kf := 2) 2 (by decide +kernel) rfl) ?_
  refine zfmc (r_callV h (pc := 3) (ix := 210) (by decide +kernel) ckX15 2 mcX15_number wk_2a8842aabb wk_c67f951c6b wk_f3215bf2b9 rfl) ?_
  refine zfmc (r_istore_n h (pc := 6) (kf := 3) 3 (by decide +kernel) rfl (by decide +kernel)) ?_
  refine zfmc (r_aload_n h (pc := 7) (kf := 1) 1 (by decide +kernel) rfl) ?_
  refine zfmc (r_getfN h (pc := 8) (ix := 175) (by decide +kernel) ckX13 3 (by decide) wk_083eb24f0a) ?_
  refine zfmc (r_iload_n h (pc := 11) (kf := 2) 2 (by decide +kernel) rfl) ?_
  refine zfmc (r_iload_n h (pc := 12) (kf := 3) 3 (by decide +kernel) rfl) ?_
  refine zfmc (r_iastore h (pc := 13) (by decide +kernel)) ?_
  refine zfmc (r_aload_n h (pc := 14) (kf := 1) 1 (by decide +kernel) rfl) ?_
  refine zfmc (r_getfN h (pc := 15) (ix := 105) (by decide +kernel) ckX13 0 (by decide) wk_7b5b465128) ?_
  refine zfmc (r_iload_n h (pc := 18) (kf := 2) 2 (by decide +kernel) rfl) ?_
  refine zfmc (r_iconst h (pc := 19) (z := 1) (by decide +kernel) (1) (by decide +kernel)) ?_
  refine zfmc (r_isub h (pc := 20) (by decide +kernel)) ?_
  refine zfmc (r_iaload h (pc := 21) (by decide +kernel)) ?_
  refine zfmc (r_tsw h (pc := 22) (dflt := 135) (lo := 1) (hi := 10) (offs := #[54, 74, 135, 135, 135, 135, 135, 94, 135, 122]) (len := 54) (by decide +kernel) [76, 96, 157, 157, 157, 157, 157, 116, 157, 144] 157 (by decide +kernel) (by decide +kernel) (by decide +kernel)) ?_
  refine zfmc (r_aload_n h (pc := 76) (kf := 1) 1 (by decide +kernel) rfl) ?_
  refine zfmc (r_getfN h (pc := 77) (ix := 212) (by decide +kernel) ckX13 7 (by decide) wk_82d99483c8) ?_
  refine zfmc (r_aload_n h (pc := 80) (kf := 1) 1 (by decide +kernel) rfl) ?_
  refine zfmc (r_getfN h (pc := 81) (ix := 49) (by decide +kernel) ckX13 5 (by decide) wk_e01ba970e0) ?_
  refine zfmc (r_iconst h (pc := 84) (z := 1) (by decide +kernel) (1) (by decide +kernel)) ?_
  refine zfmc (r_isub h (pc := 85) (by decide +kernel)) ?_
  refine zfmc (r_iload_n h (pc := 86) (kf := 3) 3 (by decide +kernel) rfl) ?_
  refine zfmc (r_iastore h (pc := 87) (by decide +kernel)) ?_
  refine zfmc (r_iload_n h (pc := 88) (kf := 3) 3 (by decide +kernel) rfl) ?_
  refine zfmc (r_iconst h (pc := 89) (z := 0) (by decide +kernel) (0) (by decide +kernel)) ?_
  refine zfmc (r_bipush h (pc := 90) (z := 99) (by decide +kernel) (99) (by decide +kernel)) ?_
  refine zfmc (r_callS h (pc := 92) (ix := 215) (by decide +kernel) 3 mcX15_errorOfRange wk_47a33e97e2 wk_5264d76313) ?_
  refine zfmc (r_ireturn h (pc := 95) (by decide +kernel) rfl) ?_
  refine zfmc (r_aload_n h (pc := 96) (kf := 1) 1 (by decide +kernel) rfl) ?_
  refine zfmc (r_getfN h (pc := 97) (ix := 219) (by decide +kernel) ckX13 8 (by decide) wk_6a7a13c022) ?_
  refine zfmc (r_aload_n h (pc := 100) (kf := 1) 1 (by decide +kernel) rfl) ?_
  refine zfmc (r_getfN h (pc := 101) (ix := 49) (by decide +kernel) ckX13 5 (by decide) wk_e01ba970e0) ?_
  refine zfmc (r_iconst h (pc := 104) (z := 1) (by decide +kernel) (1) (by decide +kernel)) ?_
  refine zfmc (r_isub h (pc := 105) (by decide +kernel)) ?_
  refine zfmc (r_iload_n h (pc := 106) (kf := 3) 3 (by decide +kernel) rfl) ?_
  refine zfmc (r_iastore h (pc := 107) (by decide +kernel)) ?_
  refine zfmc (r_iload_n h (pc := 108) (kf := 3) 3 (by decide +kernel) rfl) ?_
  refine zfmc (r_iconst h (pc := 109) (z := 0) (by decide +kernel) (0) (by decide +kernel)) ?_
  refine zfmc (r_bipush h (pc := 110) (z := 99) (by decide +kernel) (99) (by decide +kernel)) ?_
  refine zfmc (r_callS h (pc := 112) (ix := 215) (by decide +kernel) 3 mcX15_errorOfRange wk_47a33e97e2 wk_5264d76313) ?_
  refine zfmc (r_ireturn h (pc := 115) (by decide +kernel) rfl) ?_
  refine zfmc (r_aload_n h (pc := 116) (kf := 1) 1 (by decide +kernel) rfl) ?_
  refine zfmc (r_iload_n h (pc := 117) (kf := 3) 3 (by decide +kernel) rfl) ?_
  refine zfmc (r_putfN h (pc := 118) (ix := 181) (by decide +kernel) ckX13 20 (by decide) 0 (fty := tyX13 20) (tyX13_ok 20 (by decide)) rfl rfl wk_3e37b6f8f3) ?_
  refine zfmc (r_aload_n h (pc := 121) (kf := 1) 1 (by decide +kernel) rfl) ?_
  refine zfmc (r_getfN h (pc := 122) (ix := 187) (by decide +kernel) ckX13 14 (by decide) wk_296b415e6e) ?_
  refine zfmc (r_iload_n h (pc := 125) (kf := 3) 3 (by decide +kernel) rfl) ?_
  refine zfmc (r_iadd h (pc := 126) (by decide +kernel)) ?_
  refine zfmc (r_bipush h (pc := 127) (z := 20) (by decide +kernel) (20) (by decide +kernel)) ?_
  refine zfmc (r_icmp_le h (pc := 129) (off := 7) (by decide +kernel) 136 (by decide +kernel)) ?_
  refine zfmc (r_iconst h (pc := 132) (z := 4) (by decide +kernel) (4) (by decide +kernel)) ?_
  refine zfmc (r_goto h (pc := 133) (off := 10) (by decide +kernel) 143 (by decide +kernel)) ?_
  refine zfmc (r_iload_n h (pc := 136) (kf := 3) 3 (by decide +kernel) rfl) ?_
  refine zfmc (r_iconst h (pc := 137) (z := 1) (by decide +kernel) (1) (by decide +kernel)) ?_
  refine zfmc (r_bipush h (pc := 138) (z := 20) (by decide +kernel) (20) (by decide +kernel)) ?_
  refine zfmc (r_callS h (pc := 140) (ix := 215) (by decide +kernel) 3 mcX15_errorOfRange wk_47a33e97e2 wk_5264d76313) ?_
  refine zfmc (r_ireturn h (pc := 143) (by decide +kernel) rfl) ?_
  refine zfmc (r_aload_n h (pc := 144) (kf := 1) 1 (by decide +kernel) rfl) ?_
  refine zfmc (r_iload_n h (pc := 145) (kf := 3) 3 (by decide +kernel) rfl) ?_
  refine zfmc (r_putfN h (pc := 146) (ix := 181) (by decide +kernel) ckX13 20 (by decide) 0 (fty := tyX13 20) (tyX13_ok 20 (by decide)) rfl rfl wk_3e37b6f8f3) ?_
  refine zfmc (r_iload_n h (pc := 149) (kf := 3) 3 (by decide +kernel) rfl) ?_
  refine zfmc (r_iconst h (pc := 150) (z := 0) (by decide +kernel) (0) (by decide +kernel)) ?_
  refine zfmc (r_bipush h (pc := 151) (z := 30) (by decide +kernel) (30) (by decide +kernel)) ?_
  refine zfmc (r_callS h (pc := 153) (ix := 215) (by decide +kernel) 3 mcX15_errorOfRange wk_47a33e97e2 wk_5264d76313) ?_
  refine zfmc (r_ireturn h (pc := 156) (by decide +kernel) rfl) ?_
  refine zfmc (r_iconst h (pc := 157) (z := 0) (by decide +kernel) (0) (by decide +kernel)) ?_
  refine zfmc (r_ireturn h (pc := 158) (by decide +kernel) rfl) ?_
  exact zfm0)
def tb_X15_errorOfDeed (E : ZEX) (d mc ms : Nat) : List (Nat × ZStep) := [(0, s_aload 1 1), (1, s_getf 12 5 4), (4, s_const (.int (1)) 5), (5, s_isub 6), (6, s_istore 3 7), (7, s_aload 1 8), (8, s_getf 12 10 11), (11, s_iload 3 12), (12, s_iaload E 13), (13, s_const (.int (4)) 14), (14, s_icmp_ne 19 17), (17, s_const (.int (4)) 18), (18, s_ireturn), (19, s_aload 1 20), (20, s_getf 12 11 23), (23, s_const (.int (4)) 24), (24, s_iload 3 25), (25, s_imul 26), (26, s_aload 1 27), (27, s_getf 12 10 30), (30, s_iload 3 31), (31, s_iaload E 32), (32, s_iadd 33), (33, s_iload 2 34), (34, s_iastore E 35), (35, s_aload 1 36), (36, s_getf 12 10 39), (39, s_iload 3 40), (40, s_dup2 41), (41, s_iaload E 42), (42, s_const (.int (1)) 43), (43, s_iadd 44), (44, s_iastore E 45), (45, s_const (.int (0)) 46), (46, s_ireturn)]
set_option maxRecDepth 20000 in
theorem ok_X15_errorOfDeed {E : ZEX} {X : ZMX} {d mc ms : Nat} {P : ZPT} {T : ZTT} (h : ZCX E X MX15_errorOfDeed d mc ms P T) : ∀ pc, ZRow E X MX15_errorOfDeed mc ms P T pc (ztb (tb_X15_errorOfDeed E d mc ms) pc) := ztb_ok (by
  unfold tb_X15_errorOfDeed
  refine zfmc (r_aload_n h (pc := 0) (kf := 1) 1 (by decide +kernel) rfl) ?_
  refine zfmc (r_getfN h (pc := 1) (ix := 49) (by decide +kernel) ckX13 5 (by decide) wk_e01ba970e0) ?_
  refine zfmc (r_iconst h (pc := 4) (z := 1) (by decide +kernel) (1) (by decide +kernel)) ?_
  refine zfmc (r_isub h (pc := 5) (by decide +kernel)) ?_
  refine zfmc (r_istore_n h (pc := 6) (kf := 3) 3 (by decide +kernel) rfl (by decide +kernel)) ?_
  refine zfmc (r_aload_n h (pc := 7) (kf := 1) 1 (by decide +kernel) rfl) ?_
  refine zfmc (r_getfN h (pc := 8) (ix := 222) (by decide +kernel) ckX13 10 (by decide) wk_28960faeb1) ?_
  refine zfmc (r_iload_n h (pc := 11) (kf := 3) 3 (by decide +kernel) rfl) ?_
  refine zfmc (r_iaload h (pc := 12) (by decide +kernel)) ?_
  refine zfmc (r_iconst h (pc := 13) (z := 4) (by decide +kernel) (4) (by decide +kernel)) ?_
  refine zfmc (r_icmp_ne h (pc := 14) (off := 5) (by decide +kernel) 19 (by decide +kernel)) ?_
  refine zfmc (r_iconst h (pc := 17) (z := 4) (by decide +kernel) (4) (by decide +kernel)) ?_
  refine zfmc (r_ireturn h (pc := 18) (by decide +kernel) rfl) ?_
  refine zfmc (r_aload_n h (pc := 19) (kf := 1) 1 (by decide +kernel) rfl) ?_
  refine zfmc (r_getfN h (pc := 20) (ix := 225) (by decide +kernel) ckX13 11 (by decide) wk_07bb0eca4f) ?_
  refine zfmc (r_iconst h (pc := 23) (z := 4) (by decide +kernel) (4) (by decide +kernel)) ?_
  refine zfmc (r_iload_n h (pc := 24) (kf := 3) 3 (by decide +kernel) rfl) ?_
  refine zfmc (r_imul h (pc := 25) (by decide +kernel)) ?_
  refine zfmc (r_aload_n h (pc := 26) (kf := 1) 1 (by decide +kernel) rfl) ?_
  refine zfmc (r_getfN h (pc := 27) (ix := 222) (by decide +kernel) ckX13 10 (by decide) wk_28960faeb1) ?_
  refine zfmc (r_iload_n h (pc := 30) (kf := 3) 3 (by decide +kernel) rfl) ?_
  refine zfmc (r_iaload h (pc := 31) (by decide +kernel)) ?_
  refine zfmc (r_iadd h (pc := 32) (by decide +kernel)) ?_
  refine zfmc (r_iload_n h (pc := 33) (kf := 2) 2 (by decide +kernel) rfl) ?_
  refine zfmc (r_iastore h (pc := 34) (by decide +kernel)) ?_
  refine zfmc (r_aload_n h (pc := 35) (kf := 1) 1 (by decide +kernel) rfl) ?_
  refine zfmc (r_getfN h (pc := 36) (ix := 222) (by decide +kernel) ckX13 10 (by decide) wk_28960faeb1) ?_
  refine zfmc (r_iload_n h (pc := 39) (kf := 3) 3 (by decide +kernel) rfl) ?_
  refine zfmc (r_dup2 h (pc := 40) (by decide +kernel)) ?_
  refine zfmc (r_iaload h (pc := 41) (by decide +kernel)) ?_
  refine zfmc (r_iconst h (pc := 42) (z := 1) (by decide +kernel) (1) (by decide +kernel)) ?_
  refine zfmc (r_iadd h (pc := 43) (by decide +kernel)) ?_
  refine zfmc (r_iastore h (pc := 44) (by decide +kernel)) ?_
  refine zfmc (r_iconst h (pc := 45) (z := 0) (by decide +kernel) (0) (by decide +kernel)) ?_
  refine zfmc (r_ireturn h (pc := 46) (by decide +kernel) rfl) ?_
  exact zfm0)
def tb_X15_errorOfOrder (E : ZEX) (d mc ms : Nat) : List (Nat × ZStep) := [(0, s_aload 1 1), (1, s_getf 12 16 4), (4, s_const (.int (16)) 6), (6, s_icmp_ne 11 9), (9, s_const (.int (4)) 10), (10, s_ireturn), (11, s_aload 1 12), (12, s_getf 12 19 15), (15, s_aload 1 16), (16, s_getf 12 16 19), (19, s_const (.int (-1)) 20), (20, s_iastore E 21), (21, s_aload 1 22), (22, s_dup 23), (23, s_getf 12 16 26), (26, s_const (.int (1)) 27), (27, s_iadd 28), (28, s_putf 12 16 0 31), (31, s_const (.int (0)) 32), (32, s_ireturn)]
set_option maxRecDepth 20000 in
theorem ok_X15_errorOfOrder {E : ZEX} {X : ZMX} {d mc ms : Nat} {P : ZPT} {T : ZTT} (h : ZCX E X MX15_errorOfOrder d mc ms P T) : ∀ pc, ZRow E X MX15_errorOfOrder mc ms P T pc (ztb (tb_X15_errorOfOrder E d mc ms) pc) := ztb_ok (by
  unfold tb_X15_errorOfOrder
  refine zfmc (r_aload_n h (pc := 0) (kf := 1) 1 (by decide +kernel) rfl) ?_
  refine zfmc (r_getfN h (pc := 1) (ix := 204) (by decide +kernel) ckX13 16 (by decide) wk_194e060314) ?_
  refine zfmc (r_bipush h (pc := 4) (z := 16) (by decide +kernel) (16) (by decide +kernel)) ?_
  refine zfmc (r_icmp_ne h (pc := 6) (off := 5) (by decide +kernel) 11 (by decide +kernel)) ?_
  refine zfmc (r_iconst h (pc := 9) (z := 4) (by decide +kernel) (4) (by decide +kernel)) ?_
  refine zfmc (r_ireturn h (pc := 10) (by decide +kernel) rfl) ?_
  refine zfmc (r_aload_n h (pc := 11) (kf := 1) 1 (by decide +kernel) rfl) ?_
  refine zfmc (r_getfN h (pc := 12) (ix := 228) (by decide +kernel) ckX13 19 (by decide) wk_ea53deddcd) ?_
  refine zfmc (r_aload_n h (pc := 15) (kf := 1) 1 (by decide +kernel) rfl) ?_
  refine zfmc (r_getfN h (pc := 16) (ix := 204) (by decide +kernel) ckX13 16 (by decide) wk_194e060314) ?_
  refine zfmc (r_iconst h (pc := 19) (z := -1) (by decide +kernel) (-1) (by decide +kernel)) ?_
  refine zfmc (r_iastore h (pc := 20) (by decide +kernel)) ?_
  refine zfmc (r_aload_n h (pc := 21) (kf := 1) 1 (by decide +kernel) rfl) ?_
  refine zfmc (r_dup h (pc := 22) (by decide +kernel)) ?_
  refine zfmc (r_getfN h (pc := 23) (ix := 204) (by decide +kernel) ckX13 16 (by decide) wk_194e060314) ?_
  refine zfmc (r_iconst h (pc := 26) (z := 1) (by decide +kernel) (1) (by decide +kernel)) ?_
  refine zfmc (r_iadd h (pc := 27) (by decide +kernel)) ?_
  refine zfmc (r_putfN h (pc := 28) (ix := 204) (by decide +kernel) ckX13 16 (by decide) 0 (fty := tyX13 16) (tyX13_ok 16 (by decide)) rfl rfl wk_194e060314) ?_
  refine zfmc (r_iconst h (pc := 31) (z := 0) (by decide +kernel) (0) (by decide +kernel)) ?_
  refine zfmc (r_ireturn h (pc := 32) (by decide +kernel) rfl) ?_
  exact zfm0)
def tb_X15_errorOf (E : ZEX) (d mc ms : Nat) : List (Nat × ZStep) := [(0, s_aload 1 1), (1, s_getf 12 4 4), (4, s_iload 2 5), (5, s_iaload E 6), (6, s_const (.int (1)) 7), (7, s_icmp_ne 17 10), (10, s_aload 0 11), (11, s_aload 1 12), (12, s_iload 2 13), (13, s_callV E d mc ms 14 MX15_errorOfDeed 2 16), (16, s_ireturn), (17, s_aload 1 18), (18, s_getf 12 0 21), (21, s_iload 2 22), (22, s_iaload E 23), (23, s_lsw [(12, 78), (14, 84), (30, 64), (31, 71)] 100), (64, s_aload 0 65), (65, s_aload 1 66), (66, s_iload 2 67), (67, s_callV E d mc ms 14 MX15_errorOfName 2 70), (70, s_ireturn), (71, s_aload 0 72), (72, s_aload 1 73), (73, s_iload 2 74), (74, s_callV E d mc ms 14 MX15_errorOfNumber 2 77), (77, s_ireturn), (78, s_aload 0 79), (79, s_aload 1 80), (80, s_callV E d mc ms 14 MX15_errorOfOrder 1 83), (83, s_ireturn), (84, s_aload 1 85), (85, s_getf 12 19 88), (88, s_aload 1 89), (89, s_getf 12 16 92), (92, s_const (.int (1)) 93), (93, s_isub 94), (94, s_iload 2 95), (95, s_const (.int (1)) 96), (96, s_iadd 97), (97, s_iastore E 98), (98, s_const (.int (0)) 99), (99, s_ireturn), (100, s_const (.int (0)) 101), (101, s_ireturn)]
set_option maxRecDepth 20000 in
theorem ok_X15_errorOf {E : ZEX} {X : ZMX} {d mc ms : Nat} {P : ZPT} {T : ZTT} (h : ZCX E X MX15_errorOf d mc ms P T) : ∀ pc, ZRow E X MX15_errorOf mc ms P T pc (ztb (tb_X15_errorOf E d mc ms) pc) := ztb_ok (by
  unfold tb_X15_errorOf
  refine zfmc (r_aload_n h (pc := 0) (kf := 1) 1 (by decide +kernel) rfl) ?_
  refine zfmc (r_getfN h (pc := 1) (ix := 137) (by decide +kernel) ckX13 4 (by decide) wk_b2b65bd087) ?_
  refine zfmc (r_iload_n h (pc := 4) (kf := 2) 2 (by decide +kernel) rfl) ?_
  refine zfmc (r_iaload h (pc := 5) (by decide +kernel)) ?_
  refine zfmc (r_iconst h (pc := 6) (z := 1) (by decide +kernel) (1) (by decide +kernel)) ?_
  refine zfmc (r_icmp_ne h (pc := 7) (off := 10) (by decide +kernel) 17 (by decide +kernel)) ?_
  refine zfmc (r_aload_n h (pc := 10) (kf := 0) 0 (by decide +kernel) rfl) ?_
  refine zfmc (r_aload_n h (pc := 11) (kf := 1) 1 (by decide +kernel) rfl) ?_
  refine zfmc (r_iload_n h (pc := 12) (kf := 2) 2 (by decide +kernel) rfl) ?_
  refine zfmc (r_callV h (pc := 13) (ix := 231) (by decide +kernel) ckX15 2 mcX15_errorOfDeed wk_ba9ce11edb wk_a13a0e8235 wk_9dd9f7ff86 rfl) ?_
  refine zfmc (r_ireturn h (pc := 16) (by decide +kernel) rfl) ?_
  refine zfmc (r_aload_n h (pc := 17) (kf := 1) 1 (by decide +kernel) rfl) ?_
  refine zfmc (r_getfN h (pc := 18) (ix := 105) (by decide +kernel) ckX13 0 (by decide) wk_7b5b465128) ?_
  refine zfmc (r_iload_n h (pc := 21) (kf := 2) 2 (by decide +kernel) rfl) ?_
  refine zfmc (r_iaload h (pc := 22) (by decide +kernel)) ?_
  refine zfmc (r_lsw h (pc := 23) (dflt := 77) (qs := #[(12, 55), (14, 61), (30, 41), (31, 48)]) (len := 41) (by decide +kernel) [(12, 78), (14, 84), (30, 64), (31, 71)] 100 (by decide +kernel) (by decide +kernel) (by decide +kernel)) ?_
  refine zfmc (r_aload_n h (pc := 64) (kf := 0) 0 (by decide +kernel) rfl) ?_
  refine zfmc (r_aload_n h (pc := 65) (kf := 1) 1 (by decide +kernel) rfl) ?_
  refine zfmc (r_iload_n h (pc := 66) (kf := 2) 2 (by decide +kernel) rfl) ?_
  refine zfmc (r_callV h (pc := 67) (ix := 234) (by decide +kernel) ckX15 2 mcX15_errorOfName wk_692b60ae14 wk_bfda7d19fd wk_3d938e9b41 rfl) ?_
  refine zfmc (r_ireturn h (pc := 70) (by decide +kernel) rfl) ?_
  refine zfmc (r_aload_n h (pc := 71) (kf := 0) 0 (by decide +kernel) rfl) ?_
  refine zfmc (r_aload_n h (pc := 72) (kf := 1) 1 (by decide +kernel) rfl) ?_
  refine zfmc (r_iload_n h (pc := 73) (kf := 2) 2 (by decide +kernel) rfl) ?_
  refine zfmc (r_callV h (pc := 74) (ix := 237) (by decide +kernel) ckX15 2 mcX15_errorOfNumber wk_ea5be6aaf0 wk_68bcceecdf wk_a4747199f5 rfl) ?_
  refine zfmc (r_ireturn h (pc := 77) (by decide +kernel) rfl) ?_
  refine zfmc (r_aload_n h (pc := 78) (kf := 0) 0 (by decide +kernel) rfl) ?_
  refine zfmc (r_aload_n h (pc := 79) (kf := 1) 1 (by decide +kernel) rfl) ?_
  refine zfmc (r_callV h (pc := 80) (ix := 240) (by decide +kernel) ckX15 1 mcX15_errorOfOrder wk_9b84504be6 wk_c14da9fcad wk_ee11650dd2 rfl) ?_
  refine zfmc (r_ireturn h (pc := 83) (by decide +kernel) rfl) ?_
  refine zfmc (r_aload_n h (pc := 84) (kf := 1) 1 (by decide +kernel) rfl) ?_
  refine zfmc (r_getfN h (pc := 85) (ix := 228) (by decide +kernel) ckX13 19 (by decide) wk_ea53deddcd) ?_
  refine zfmc (r_aload_n h (pc := 88) (kf := 1) 1 (by decide +kernel) rfl) ?_
  refine zfmc (r_getfN h (pc := 89) (ix := 204) (by decide +kernel) ckX13 16 (by decide) wk_194e060314) ?_
  refine zfmc (r_iconst h (pc := 92) (z := 1) (by decide +kernel) (1) (by decide +kernel)) ?_
  refine zfmc (r_isub h (pc := 93) (by decide +kernel)) ?_
  refine zfmc (r_iload_n h (pc := 94) (kf := 2) 2 (by decide +kernel) rfl) ?_
  refine zfmc (r_iconst h (pc := 95) (z := 1) (by decide +kernel) (1) (by decide +kernel)) ?_
  refine zfmc (r_iadd h (pc := 96) (by decide +kernel)) ?_
  refine zfmc (r_iastore h (pc := 97) (by decide +kernel)) ?_
  refine zfmc (r_iconst h (pc := 98) (z := 0) (by decide +kernel) (0) (by decide +kernel)) ?_
  refine zfmc (r_ireturn h (pc := 99) (by decide +kernel) rfl) ?_
  refine zfmc (r_iconst h (pc := 100) (z := 0) (by decide +kernel) (0) (by decide +kernel)) ?_
  refine zfmc (r_ireturn h (pc := 101) (by decide +kernel) rfl) ?_
  exact zfm0)
def tb_X15_read (E : ZEX) (d mc ms : Nat) : List (Nat × ZStep) := [(0, s_aload 0 1), (1, s_aload 1 2), (2, s_callV E d mc ms 14 MX15_cut 1 5), (5, s_aload 0 6), (6, s_const (.int (0)) 7), (7, s_putf 14 4 0 10), (10, s_aload 0 11), (11, s_const (.int (0)) 12), (12, s_putf 14 5 0 15), (15, s_aload 0 16), (16, s_aload 1 17), (17, s_callV E d mc ms 14 MX15_isList 1 20), (20, s_if_ne 38 23), (23, s_aload 0 24), (24, s_aload 1 25), (25, s_getf 12 1 28), (28, s_aload 0 29), (29, s_getf 14 4 32), (32, s_iaload E 33), (33, s_putf 14 3 0 36), (36, s_const (.int (1)) 37), (37, s_ireturn), (38, s_const (.int (0)) 39), (39, s_istore 2 40), (40, s_iload 2 41), (41, s_aload 0 42), (42, s_getf 14 4 45), (45, s_icmp_ge 80 48), (48, s_aload 0 49), (49, s_aload 1 50), (50, s_iload 2 51), (51, s_callV E d mc ms 14 MX15_errorOf 2 54), (54, s_istore 3 55), (55, s_iload 3 56), (56, s_if_ne 62 59), (59, s_goto 74), (62, s_aload 0 63), (63, s_aload 1 64), (64, s_getf 12 1 67), (67, s_iload 2 68), (68, s_iaload E 69), (69, s_putf 14 3 0 72), (72, s_iload 3 73), (73, s_ireturn), (74, s_iinc 2 (1) 77), (77, s_goto 40), (80, s_const (.int (0)) 81), (81, s_ireturn)]
set_option maxRecDepth 20000 in
theorem ok_X15_read {E : ZEX} {X : ZMX} {d mc ms : Nat} {P : ZPT} {T : ZTT} (h : ZCX E X MX15_read d mc ms P T) : ∀ pc, ZRow E X MX15_read mc ms P T pc (ztb (tb_X15_read E d mc ms) pc) := ztb_ok (by
  unfold tb_X15_read
  refine zfmc (r_aload_n h (pc := 0) (kf := 0) 0 (by decide +kernel) rfl) ?_
  refine zfmc (r_aload_n h (pc := 1) (kf := 1) 1 (by decide +kernel) rfl) ?_
  refine zfmc (r_callV h (pc := 2) (ix := 244) (by decide +kernel) ckX15 1 mcX15_cut wk_f3f8f7a8c0 wk_4d313fd09d wk_62bbf7c82b rfl) ?_
  refine zfmc (r_aload_n h (pc := 5) (kf := 0) 0 (by decide +kernel) rfl) ?_
  refine zfmc (r_iconst h (pc := 6) (z := 0) (by decide +kernel) (0) (by decide +kernel)) ?_
  refine zfmc (r_putf h (pc := 7) (ix := 111) (by decide +kernel) ckX15 4 (by decide) 0 (fty := tyX15 4) (tyX15_ok 4 (by decide)) rfl rfl wk_1ffd16151b) ?_
  refine zfmc (r_aload_n h (pc := 10) (kf := 0) 0 (by decide +kernel) rfl) ?_
  refine zfmc (r_iconst h (pc := 11) (z := 0) (by decide +kernel) (0) (by decide +kernel)) ?_
  refine zfmc (r_putf h (pc := 12) (ix := 114) (by decide +kernel) ckX15 5 (by decide) 0 (fty := tyX15 5) (tyX15_ok 5 (by decide)) rfl rfl wk_af527be352) ?_
  refine zfmc (r_aload_n h (pc := 15) (kf := 0) 0 (by decide +kernel) rfl) ?_
  refine zfmc (r_aload_n h (pc := 16) (kf := 1) 1 (by decide +kernel) rfl) ?_
  refine zfmc (r_callV h (pc := 17) (ix := 248) (by decide +kernel) ckX15 1 mcX15_isList wk_779e621747 wk_9f221e7ebb wk_f9bf2966db rfl) ?_
  refine zfmc (r_if_ne h (pc := 20) (off := 18) (by decide +kernel) 38 (by decide +kernel)) ?_
  refine zfmc (r_aload_n h (pc := 23) (kf := 0) 0 (by decide +kernel) rfl) ?_
  refine zfmc (r_aload_n h (pc := 24) (kf := 1) 1 (by decide +kernel) rfl) ?_
  refine zfmc (r_getfN h (pc := 25) (ix := 96) (by decide +kernel) ckX13 1 (by decide) wk_6e7ced0cb5) ?_
  refine zfmc (r_aload_n h (pc := 28) (kf := 0) 0 (by decide +kernel) rfl) ?_
  refine zfmc (r_getf h (pc := 29) (ix := 111) (by decide +kernel) ckX15 4 (by decide) wk_1ffd16151b) ?_
  refine zfmc (r_iaload h (pc := 32) (by decide +kernel)) ?_
  refine zfmc (r_putf h (pc := 33) (ix := 13) (by decide +kernel) ckX15 3 (by decide) 0 (fty := tyX15 3) (tyX15_ok 3 (by decide)) rfl rfl wk_09b9507526) ?_
  refine zfmc (r_iconst h (pc := 36) (z := 1) (by decide +kernel) (1) (by decide +kernel)) ?_
  refine zfmc (r_ireturn h (pc := 37) (by decide +kernel) rfl) ?_
  refine zfmc (r_iconst h (pc := 38) (z := 0) (by decide +kernel) (0) (by decide +kernel)) ?_
  refine zfmc (r_istore_n h (pc := 39) (kf := 2) 2 (by decide +kernel) rfl (by decide +kernel)) ?_
  refine zfmc (r_iload_n h (pc := 40) (kf := 2) 2 (by decide +kernel) rfl) ?_
  refine zfmc (r_aload_n h (pc := 41) (kf := 0) 0 (by decide +kernel) rfl) ?_
  refine zfmc (r_getf h (pc := 42) (ix := 111) (by decide +kernel) ckX15 4 (by decide) wk_1ffd16151b) ?_
  refine zfmc (r_icmp_ge h (pc := 45) (off := 35) (by decide +kernel) 80 (by decide +kernel)) ?_
  refine zfmc (r_aload_n h (pc := 48) (kf := 0) 0 (by decide +kernel) rfl) ?_
  refine zfmc (r_aload_n h (pc := 49) (kf := 1) 1 (by decide +kernel) rfl) ?_
  refine zfmc (r_iload_n h (pc := 50) (kf := 2) 2 (by decide +kernel) rfl) ?_
  refine zfmc (r_callV h (pc := 51) (ix := 251) (by decide +kernel) ckX15 2 mcX15_errorOf wk_a90a1ec471 wk_8975c9c6b5 wk_62a8344fda rfl) ?_
  refine zfmc (r_istore_n h (pc := 54) (kf := 3) 3 (by decide +kernel) rfl (by decide +kernel)) ?_
  refine zfmc (r_iload_n h (pc := 55) (kf := 3) 3 (by decide +kernel) rfl) ?_
  refine zfmc (r_if_ne h (pc := 56) (off := 6) (by decide +kernel) 62 (by decide +kernel)) ?_
  refine zfmc (r_goto h (pc := 59) (off := 15) (by decide +kernel) 74 (by decide +kernel)) ?_
  refine zfmc (r_aload_n h (pc := 62) (kf := 0) 0 (by decide +kernel) rfl) ?_
  refine zfmc (r_aload_n h (pc := 63) (kf := 1) 1 (by decide +kernel) rfl) ?_
  refine zfmc (r_getfN h (pc := 64) (ix := 96) (by decide +kernel) ckX13 1 (by decide) wk_6e7ced0cb5) ?_
  refine zfmc (r_iload_n h (pc := 67) (kf := 2) 2 (by decide +kernel) rfl) ?_
  refine zfmc (r_iaload h (pc := 68) (by decide +kernel)) ?_
  refine zfmc (r_putf h (pc := 69) (ix := 13) (by decide +kernel) ckX15 3 (by decide) 0 (fty := tyX15 3) (tyX15_ok 3 (by decide)) rfl rfl wk_09b9507526) ?_
  refine zfmc (r_iload_n h (pc := 72) (kf := 3) 3 (by decide +kernel) rfl) ?_
  refine zfmc (r_ireturn h (pc := 73) (by decide +kernel) rfl) ?_
  refine zfmc (r_iinc h (pc := 74) 2 (z := 1) (by decide +kernel) (1) (by decide +kernel) (by decide +kernel)) ?_
  refine zfmc (r_goto h (pc := 77) (off := -37) (by decide +kernel) 40 (by decide +kernel)) ?_
  refine zfmc (r_iconst h (pc := 80) (z := 0) (by decide +kernel) (0) (by decide +kernel)) ?_
  refine zfmc (r_ireturn h (pc := 81) (by decide +kernel) rfl) ?_
  exact zfm0)
def tb_X15_goesBy (E : ZEX) (d mc ms : Nat) : List (Nat × ZStep) := [(0, s_aload 0 1), (1, s_getf 14 6 4), (4, s_getf 12 0 7), (7, s_aload 0 8), (8, s_getf 14 9 11), (11, s_iaload E 12), (12, s_iload 1 13), (13, s_icmp_eq 18 16), (16, s_const (.int (0)) 17), (17, s_zreturn), (18, s_aload 0 19), (19, s_dup 20), (20, s_getf 14 9 23), (23, s_const (.int (1)) 24), (24, s_iadd 25), (25, s_putf 14 9 0 28), (28, s_const (.int (1)) 29), (29, s_zreturn)]
set_option maxRecDepth 20000 in
theorem ok_X15_goesBy {E : ZEX} {X : ZMX} {d mc ms : Nat} {P : ZPT} {T : ZTT} (h : ZCX E X MX15_goesBy d mc ms P T) : ∀ pc, ZRow E X MX15_goesBy mc ms P T pc (ztb (tb_X15_goesBy E d mc ms) pc) := ztb_ok (by
  unfold tb_X15_goesBy
  refine zfmc (r_aload_n h (pc := 0) (kf := 0) 0 (by decide +kernel) rfl) ?_
  refine zfmc (r_getf h (pc := 1) (ix := 20) (by decide +kernel) ckX15 6 (by decide) wk_bda7210969) ?_
  refine zfmc (r_getfN h (pc := 4) (ix := 105) (by decide +kernel) ckX13 0 (by decide) wk_7b5b465128) ?_
  refine zfmc (r_aload_n h (pc := 7) (kf := 0) 0 (by decide +kernel) rfl) ?_
  refine zfmc (r_getf h (pc := 8) (ix := 254) (by decide +kernel) ckX15 9 (by decide) wk_76716ac291) ?_
  refine zfmc (r_iaload h (pc := 11) (by decide +kernel)) ?_
  refine zfmc (r_iload_n h (pc := 12) (kf := 1) 1 (by decide +kernel) rfl) ?_
  refine zfmc (r_icmp_eq h (pc := 13) (off := 5) (by decide +kernel) 18 (by decide +kernel)) ?_
  refine zfmc (r_iconst h (pc := 16) (z := 0) (by decide +kernel) (0) (by decide +kernel)) ?_
  refine zfmc (r_zreturn h (pc := 17) (by decide +kernel) rfl) ?_
  refine zfmc (r_aload_n h (pc := 18) (kf := 0) 0 (by decide +kernel) rfl) ?_
  refine zfmc (r_dup h (pc := 19) (by decide +kernel)) ?_
  refine zfmc (r_getf h (pc := 20) (ix := 254) (by decide +kernel) ckX15 9 (by decide) wk_76716ac291) ?_
  refine zfmc (r_iconst h (pc := 23) (z := 1) (by decide +kernel) (1) (by decide +kernel)) ?_
  refine zfmc (r_iadd h (pc := 24) (by decide +kernel)) ?_
  refine zfmc (r_putf h (pc := 25) (ix := 254) (by decide +kernel) ckX15 9 (by decide) 0 (fty := tyX15 9) (tyX15_ok 9 (by decide)) rfl rfl wk_76716ac291) ?_
  refine zfmc (r_iconst h (pc := 28) (z := 1) (by decide +kernel) (1) (by decide +kernel)) ?_
  refine zfmc (r_zreturn h (pc := 29) (by decide +kernel) rfl) ?_
  exact zfm0)
section
variable {E : ZEX} {d mc ms : Nat} {cut : Nat → Bool} {G : ZCont} {R : ZRtn} {T : ZTT} {Z : Nat → ZCont}
theorem f_X15_isSum_0 (hZ : ZRN (ztb (tb_X15_isSum E d mc ms)) cut G R T Z) (f : Nat) (L : ZLV) (st : List Value) (σ : ZHp) (n k w : Nat) : Z (f + 1) 0 L st σ n k w = s_aload 0 1 L st σ n k w (zk1 cut G (Z f)) G R T := zrs hZ rfl f L st σ n k w
theorem f_X15_isSum_1 (hZ : ZRN (ztb (tb_X15_isSum E d mc ms)) cut G R T Z) (f : Nat) (L : ZLV) (st : List Value) (σ : ZHp) (n k w : Nat) : Z (f + 1) 1 L st σ n k w = s_aload 1 2 L st σ n k w (zk1 cut G (Z f)) G R T := zrs hZ rfl f L st σ n k w
theorem f_X15_isSum_2 (hZ : ZRN (ztb (tb_X15_isSum E d mc ms)) cut G R T Z) (f : Nat) (L : ZLV) (st : List Value) (σ : ZHp) (n k w : Nat) : Z (f + 1) 2 L st σ n k w = s_callV E d mc ms 14 MX15_isProduct 1 5 L st σ n k w (zk1 cut G (Z f)) G R T := zrs hZ rfl f L st σ n k w
theorem f_X15_isSum_5 (hZ : ZRN (ztb (tb_X15_isSum E d mc ms)) cut G R T Z) (f : Nat) (L : ZLV) (st : List Value) (σ : ZHp) (n k w : Nat) : Z (f + 1) 5 L st σ n k w = s_if_ne 10 8 L st σ n k w (zk1 cut G (Z f)) G R T := zrs hZ rfl f L st σ n k w
theorem f_X15_isSum_8 (hZ : ZRN (ztb (tb_X15_isSum E d mc ms)) cut G R T Z) (f : Nat) (L : ZLV) (st : List Value) (σ : ZHp) (n k w : Nat) : Z (f + 1) 8 L st σ n k w = s_const (.int (0)) 9 L st σ n k w (zk1 cut G (Z f)) G R T := zrs hZ rfl f L st σ n k w
theorem f_X15_isSum_9 (hZ : ZRN (ztb (tb_X15_isSum E d mc ms)) cut G R T Z) (f : Nat) (L : ZLV) (st : List Value) (σ : ZHp) (n k w : Nat) : Z (f + 1) 9 L st σ n k w = s_zreturn L st σ n k w (zk1 cut G (Z f)) G R T := zrs hZ rfl f L st σ n k w
theorem f_X15_isSum_10 (hZ : ZRN (ztb (tb_X15_isSum E d mc ms)) cut G R T Z) (f : Nat) (L : ZLV) (st : List Value) (σ : ZHp) (n k w : Nat) : Z (f + 1) 10 L st σ n k w = s_aload 0 11 L st σ n k w (zk1 cut G (Z f)) G R T := zrs hZ rfl f L st σ n k w
theorem f_X15_isSum_11 (hZ : ZRN (ztb (tb_X15_isSum E d mc ms)) cut G R T Z) (f : Nat) (L : ZLV) (st : List Value) (σ : ZHp) (n k w : Nat) : Z (f + 1) 11 L st σ n k w = s_aload 1 12 L st σ n k w (zk1 cut G (Z f)) G R T := zrs hZ rfl f L st σ n k w
theorem f_X15_isSum_12 (hZ : ZRN (ztb (tb_X15_isSum E d mc ms)) cut G R T Z) (f : Nat) (L : ZLV) (st : List Value) (σ : ZHp) (n k w : Nat) : Z (f + 1) 12 L st σ n k w = s_const (.int (46)) 14 L st σ n k w (zk1 cut G (Z f)) G R T := zrs hZ rfl f L st σ n k w
theorem f_X15_isSum_14 (hZ : ZRN (ztb (tb_X15_isSum E d mc ms)) cut G R T Z) (f : Nat) (L : ZLV) (st : List Value) (σ : ZHp) (n k w : Nat) : Z (f + 1) 14 L st σ n k w = s_const (.int (47)) 16 L st σ n k w (zk1 cut G (Z f)) G R T := zrs hZ rfl f L st σ n k w
theorem f_X15_isSum_16 (hZ : ZRN (ztb (tb_X15_isSum E d mc ms)) cut G R T Z) (f : Nat) (L : ZLV) (st : List Value) (σ : ZHp) (n k w : Nat) : Z (f + 1) 16 L st σ n k w = s_callV E d mc ms 14 MX15_eatIn 3 19 L st σ n k w (zk1 cut G (Z f)) G R T := zrs hZ rfl f L st σ n k w
theorem f_X15_isSum_19 (hZ : ZRN (ztb (tb_X15_isSum E d mc ms)) cut G R T Z) (f : Nat) (L : ZLV) (st : List Value) (σ : ZHp) (n k w : Nat) : Z (f + 1) 19 L st σ n k w = s_if_ne 0 22 L st σ n k w (zk1 cut G (Z f)) G R T := zrs hZ rfl f L st σ n k w
theorem f_X15_isSum_22 (hZ : ZRN (ztb (tb_X15_isSum E d mc ms)) cut G R T Z) (f : Nat) (L : ZLV) (st : List Value) (σ : ZHp) (n k w : Nat) : Z (f + 1) 22 L st σ n k w = s_const (.int (1)) 23 L st σ n k w (zk1 cut G (Z f)) G R T := zrs hZ rfl f L st σ n k w
theorem f_X15_isSum_23 (hZ : ZRN (ztb (tb_X15_isSum E d mc ms)) cut G R T Z) (f : Nat) (L : ZLV) (st : List Value) (σ : ZHp) (n k w : Nat) : Z (f + 1) 23 L st σ n k w = s_zreturn L st σ n k w (zk1 cut G (Z f)) G R T := zrs hZ rfl f L st σ n k w
theorem f_X15_isProduct_0 (hZ : ZRN (ztb (tb_X15_isProduct E d mc ms)) cut G R T Z) (f : Nat) (L : ZLV) (st : List Value) (σ : ZHp) (n k w : Nat) : Z (f + 1) 0 L st σ n k w = s_aload 0 1 L st σ n k w (zk1 cut G (Z f)) G R T := zrs hZ rfl f L st σ n k w
theorem f_X15_isProduct_1 (hZ : ZRN (ztb (tb_X15_isProduct E d mc ms)) cut G R T Z) (f : Nat) (L : ZLV) (st : List Value) (σ : ZHp) (n k w : Nat) : Z (f + 1) 1 L st σ n k w = s_aload 1 2 L st σ n k w (zk1 cut G (Z f)) G R T := zrs hZ rfl f L st σ n k w
theorem f_X15_isProduct_2 (hZ : ZRN (ztb (tb_X15_isProduct E d mc ms)) cut G R T Z) (f : Nat) (L : ZLV) (st : List Value) (σ : ZHp) (n k w : Nat) : Z (f + 1) 2 L st σ n k w = s_callV E d mc ms 14 MX15_isValue 1 5 L st σ n k w (zk1 cut G (Z f)) G R T := zrs hZ rfl f L st σ n k w
theorem f_X15_isProduct_5 (hZ : ZRN (ztb (tb_X15_isProduct E d mc ms)) cut G R T Z) (f : Nat) (L : ZLV) (st : List Value) (σ : ZHp) (n k w : Nat) : Z (f + 1) 5 L st σ n k w = s_if_ne 10 8 L st σ n k w (zk1 cut G (Z f)) G R T := zrs hZ rfl f L st σ n k w
theorem f_X15_isProduct_8 (hZ : ZRN (ztb (tb_X15_isProduct E d mc ms)) cut G R T Z) (f : Nat) (L : ZLV) (st : List Value) (σ : ZHp) (n k w : Nat) : Z (f + 1) 8 L st σ n k w = s_const (.int (0)) 9 L st σ n k w (zk1 cut G (Z f)) G R T := zrs hZ rfl f L st σ n k w
theorem f_X15_isProduct_9 (hZ : ZRN (ztb (tb_X15_isProduct E d mc ms)) cut G R T Z) (f : Nat) (L : ZLV) (st : List Value) (σ : ZHp) (n k w : Nat) : Z (f + 1) 9 L st σ n k w = s_zreturn L st σ n k w (zk1 cut G (Z f)) G R T := zrs hZ rfl f L st σ n k w
theorem f_X15_isProduct_10 (hZ : ZRN (ztb (tb_X15_isProduct E d mc ms)) cut G R T Z) (f : Nat) (L : ZLV) (st : List Value) (σ : ZHp) (n k w : Nat) : Z (f + 1) 10 L st σ n k w = s_aload 0 11 L st σ n k w (zk1 cut G (Z f)) G R T := zrs hZ rfl f L st σ n k w
theorem f_X15_isProduct_11 (hZ : ZRN (ztb (tb_X15_isProduct E d mc ms)) cut G R T Z) (f : Nat) (L : ZLV) (st : List Value) (σ : ZHp) (n k w : Nat) : Z (f + 1) 11 L st σ n k w = s_aload 1 12 L st σ n k w (zk1 cut G (Z f)) G R T := zrs hZ rfl f L st σ n k w
theorem f_X15_isProduct_12 (hZ : ZRN (ztb (tb_X15_isProduct E d mc ms)) cut G R T Z) (f : Nat) (L : ZLV) (st : List Value) (σ : ZHp) (n k w : Nat) : Z (f + 1) 12 L st σ n k w = s_const (.int (48)) 14 L st σ n k w (zk1 cut G (Z f)) G R T := zrs hZ rfl f L st σ n k w
theorem f_X15_isProduct_14 (hZ : ZRN (ztb (tb_X15_isProduct E d mc ms)) cut G R T Z) (f : Nat) (L : ZLV) (st : List Value) (σ : ZHp) (n k w : Nat) : Z (f + 1) 14 L st σ n k w = s_const (.int (49)) 16 L st σ n k w (zk1 cut G (Z f)) G R T := zrs hZ rfl f L st σ n k w
theorem f_X15_isProduct_16 (hZ : ZRN (ztb (tb_X15_isProduct E d mc ms)) cut G R T Z) (f : Nat) (L : ZLV) (st : List Value) (σ : ZHp) (n k w : Nat) : Z (f + 1) 16 L st σ n k w = s_callV E d mc ms 14 MX15_eatIn 3 19 L st σ n k w (zk1 cut G (Z f)) G R T := zrs hZ rfl f L st σ n k w
theorem f_X15_isProduct_19 (hZ : ZRN (ztb (tb_X15_isProduct E d mc ms)) cut G R T Z) (f : Nat) (L : ZLV) (st : List Value) (σ : ZHp) (n k w : Nat) : Z (f + 1) 19 L st σ n k w = s_if_ne 0 22 L st σ n k w (zk1 cut G (Z f)) G R T := zrs hZ rfl f L st σ n k w
theorem f_X15_isProduct_22 (hZ : ZRN (ztb (tb_X15_isProduct E d mc ms)) cut G R T Z) (f : Nat) (L : ZLV) (st : List Value) (σ : ZHp) (n k w : Nat) : Z (f + 1) 22 L st σ n k w = s_const (.int (1)) 23 L st σ n k w (zk1 cut G (Z f)) G R T := zrs hZ rfl f L st σ n k w
theorem f_X15_isProduct_23 (hZ : ZRN (ztb (tb_X15_isProduct E d mc ms)) cut G R T Z) (f : Nat) (L : ZLV) (st : List Value) (σ : ZHp) (n k w : Nat) : Z (f + 1) 23 L st σ n k w = s_zreturn L st σ n k w (zk1 cut G (Z f)) G R T := zrs hZ rfl f L st σ n k w
theorem f_X15_isValue_0 (hZ : ZRN (ztb (tb_X15_isValue E d mc ms)) cut G R T Z) (f : Nat) (L : ZLV) (st : List Value) (σ : ZHp) (n k w : Nat) : Z (f + 1) 0 L st σ n k w = s_aload 1 1 L st σ n k w (zk1 cut G (Z f)) G R T := zrs hZ rfl f L st σ n k w
theorem f_X15_isValue_1 (hZ : ZRN (ztb (tb_X15_isValue E d mc ms)) cut G R T Z) (f : Nat) (L : ZLV) (st : List Value) (σ : ZHp) (n k w : Nat) : Z (f + 1) 1 L st σ n k w = s_getf 12 0 4 L st σ n k w (zk1 cut G (Z f)) G R T := zrs hZ rfl f L st σ n k w
theorem f_X15_isValue_4 (hZ : ZRN (ztb (tb_X15_isValue E d mc ms)) cut G R T Z) (f : Nat) (L : ZLV) (st : List Value) (σ : ZHp) (n k w : Nat) : Z (f + 1) 4 L st σ n k w = s_aload 0 5 L st σ n k w (zk1 cut G (Z f)) G R T := zrs hZ rfl f L st σ n k w
theorem f_X15_isValue_5 (hZ : ZRN (ztb (tb_X15_isValue E d mc ms)) cut G R T Z) (f : Nat) (L : ZLV) (st : List Value) (σ : ZHp) (n k w : Nat) : Z (f + 1) 5 L st σ n k w = s_getf 14 4 8 L st σ n k w (zk1 cut G (Z f)) G R T := zrs hZ rfl f L st σ n k w
theorem f_X15_isValue_8 (hZ : ZRN (ztb (tb_X15_isValue E d mc ms)) cut G R T Z) (f : Nat) (L : ZLV) (st : List Value) (σ : ZHp) (n k w : Nat) : Z (f + 1) 8 L st σ n k w = s_iaload E 9 L st σ n k w (zk1 cut G (Z f)) G R T := zrs hZ rfl f L st σ n k w
theorem f_X15_isValue_9 (hZ : ZRN (ztb (tb_X15_isValue E d mc ms)) cut G R T Z) (f : Nat) (L : ZLV) (st : List Value) (σ : ZHp) (n k w : Nat) : Z (f + 1) 9 L st σ n k w = s_const (.int (47)) 11 L st σ n k w (zk1 cut G (Z f)) G R T := zrs hZ rfl f L st σ n k w
theorem f_X15_isValue_11 (hZ : ZRN (ztb (tb_X15_isValue E d mc ms)) cut G R T Z) (f : Nat) (L : ZLV) (st : List Value) (σ : ZHp) (n k w : Nat) : Z (f + 1) 11 L st σ n k w = s_icmp_ne 46 14 L st σ n k w (zk1 cut G (Z f)) G R T := zrs hZ rfl f L st σ n k w
theorem f_X15_isValue_14 (hZ : ZRN (ztb (tb_X15_isValue E d mc ms)) cut G R T Z) (f : Nat) (L : ZLV) (st : List Value) (σ : ZHp) (n k w : Nat) : Z (f + 1) 14 L st σ n k w = s_aload 0 15 L st σ n k w (zk1 cut G (Z f)) G R T := zrs hZ rfl f L st σ n k w
theorem f_X15_isValue_15 (hZ : ZRN (ztb (tb_X15_isValue E d mc ms)) cut G R T Z) (f : Nat) (L : ZLV) (st : List Value) (σ : ZHp) (n k w : Nat) : Z (f + 1) 15 L st σ n k w = s_aload 1 16 L st σ n k w (zk1 cut G (Z f)) G R T := zrs hZ rfl f L st σ n k w
theorem f_X15_isValue_16 (hZ : ZRN (ztb (tb_X15_isValue E d mc ms)) cut G R T Z) (f : Nat) (L : ZLV) (st : List Value) (σ : ZHp) (n k w : Nat) : Z (f + 1) 16 L st σ n k w = s_const (.int (47)) 18 L st σ n k w (zk1 cut G (Z f)) G R T := zrs hZ rfl f L st σ n k w
theorem f_X15_isValue_18 (hZ : ZRN (ztb (tb_X15_isValue E d mc ms)) cut G R T Z) (f : Nat) (L : ZLV) (st : List Value) (σ : ZHp) (n k w : Nat) : Z (f + 1) 18 L st σ n k w = s_callV E d mc ms 14 MX15_goDown 2 21 L st σ n k w (zk1 cut G (Z f)) G R T := zrs hZ rfl f L st σ n k w
theorem f_X15_isValue_21 (hZ : ZRN (ztb (tb_X15_isValue E d mc ms)) cut G R T Z) (f : Nat) (L : ZLV) (st : List Value) (σ : ZHp) (n k w : Nat) : Z (f + 1) 21 L st σ n k w = s_if_eq 32 24 L st σ n k w (zk1 cut G (Z f)) G R T := zrs hZ rfl f L st σ n k w
theorem f_X15_isValue_24 (hZ : ZRN (ztb (tb_X15_isValue E d mc ms)) cut G R T Z) (f : Nat) (L : ZLV) (st : List Value) (σ : ZHp) (n k w : Nat) : Z (f + 1) 24 L st σ n k w = s_aload 0 25 L st σ n k w (zk1 cut G (Z f)) G R T := zrs hZ rfl f L st σ n k w
theorem f_X15_isValue_25 (hZ : ZRN (ztb (tb_X15_isValue E d mc ms)) cut G R T Z) (f : Nat) (L : ZLV) (st : List Value) (σ : ZHp) (n k w : Nat) : Z (f + 1) 25 L st σ n k w = s_aload 1 26 L st σ n k w (zk1 cut G (Z f)) G R T := zrs hZ rfl f L st σ n k w
theorem f_X15_isValue_26 (hZ : ZRN (ztb (tb_X15_isValue E d mc ms)) cut G R T Z) (f : Nat) (L : ZLV) (st : List Value) (σ : ZHp) (n k w : Nat) : Z (f + 1) 26 L st σ n k w = s_callV E d mc ms 14 MX15_isValue 1 29 L st σ n k w (zk1 cut G (Z f)) G R T := zrs hZ rfl f L st σ n k w
theorem f_X15_isValue_29 (hZ : ZRN (ztb (tb_X15_isValue E d mc ms)) cut G R T Z) (f : Nat) (L : ZLV) (st : List Value) (σ : ZHp) (n k w : Nat) : Z (f + 1) 29 L st σ n k w = s_if_ne 34 32 L st σ n k w (zk1 cut G (Z f)) G R T := zrs hZ rfl f L st σ n k w
theorem f_X15_isValue_32 (hZ : ZRN (ztb (tb_X15_isValue E d mc ms)) cut G R T Z) (f : Nat) (L : ZLV) (st : List Value) (σ : ZHp) (n k w : Nat) : Z (f + 1) 32 L st σ n k w = s_const (.int (0)) 33 L st σ n k w (zk1 cut G (Z f)) G R T := zrs hZ rfl f L st σ n k w
theorem f_X15_isValue_33 (hZ : ZRN (ztb (tb_X15_isValue E d mc ms)) cut G R T Z) (f : Nat) (L : ZLV) (st : List Value) (σ : ZHp) (n k w : Nat) : Z (f + 1) 33 L st σ n k w = s_zreturn L st σ n k w (zk1 cut G (Z f)) G R T := zrs hZ rfl f L st σ n k w
theorem f_X15_isValue_34 (hZ : ZRN (ztb (tb_X15_isValue E d mc ms)) cut G R T Z) (f : Nat) (L : ZLV) (st : List Value) (σ : ZHp) (n k w : Nat) : Z (f + 1) 34 L st σ n k w = s_aload 0 35 L st σ n k w (zk1 cut G (Z f)) G R T := zrs hZ rfl f L st σ n k w
theorem f_X15_isValue_35 (hZ : ZRN (ztb (tb_X15_isValue E d mc ms)) cut G R T Z) (f : Nat) (L : ZLV) (st : List Value) (σ : ZHp) (n k w : Nat) : Z (f + 1) 35 L st σ n k w = s_dup 36 L st σ n k w (zk1 cut G (Z f)) G R T := zrs hZ rfl f L st σ n k w
theorem f_X15_isValue_36 (hZ : ZRN (ztb (tb_X15_isValue E d mc ms)) cut G R T Z) (f : Nat) (L : ZLV) (st : List Value) (σ : ZHp) (n k w : Nat) : Z (f + 1) 36 L st σ n k w = s_getf 14 5 39 L st σ n k w (zk1 cut G (Z f)) G R T := zrs hZ rfl f L st σ n k w
theorem f_X15_isValue_39 (hZ : ZRN (ztb (tb_X15_isValue E d mc ms)) cut G R T Z) (f : Nat) (L : ZLV) (st : List Value) (σ : ZHp) (n k w : Nat) : Z (f + 1) 39 L st σ n k w = s_const (.int (1)) 40 L st σ n k w (zk1 cut G (Z f)) G R T := zrs hZ rfl f L st σ n k w
theorem f_X15_isValue_40 (hZ : ZRN (ztb (tb_X15_isValue E d mc ms)) cut G R T Z) (f : Nat) (L : ZLV) (st : List Value) (σ : ZHp) (n k w : Nat) : Z (f + 1) 40 L st σ n k w = s_isub 41 L st σ n k w (zk1 cut G (Z f)) G R T := zrs hZ rfl f L st σ n k w
theorem f_X15_isValue_41 (hZ : ZRN (ztb (tb_X15_isValue E d mc ms)) cut G R T Z) (f : Nat) (L : ZLV) (st : List Value) (σ : ZHp) (n k w : Nat) : Z (f + 1) 41 L st σ n k w = s_putf 14 5 0 44 L st σ n k w (zk1 cut G (Z f)) G R T := zrs hZ rfl f L st σ n k w
theorem f_X15_isValue_44 (hZ : ZRN (ztb (tb_X15_isValue E d mc ms)) cut G R T Z) (f : Nat) (L : ZLV) (st : List Value) (σ : ZHp) (n k w : Nat) : Z (f + 1) 44 L st σ n k w = s_const (.int (1)) 45 L st σ n k w (zk1 cut G (Z f)) G R T := zrs hZ rfl f L st σ n k w
theorem f_X15_isValue_45 (hZ : ZRN (ztb (tb_X15_isValue E d mc ms)) cut G R T Z) (f : Nat) (L : ZLV) (st : List Value) (σ : ZHp) (n k w : Nat) : Z (f + 1) 45 L st σ n k w = s_zreturn L st σ n k w (zk1 cut G (Z f)) G R T := zrs hZ rfl f L st σ n k w
theorem f_X15_isValue_46 (hZ : ZRN (ztb (tb_X15_isValue E d mc ms)) cut G R T Z) (f : Nat) (L : ZLV) (st : List Value) (σ : ZHp) (n k w : Nat) : Z (f + 1) 46 L st σ n k w = s_aload 0 47 L st σ n k w (zk1 cut G (Z f)) G R T := zrs hZ rfl f L st σ n k w
theorem f_X15_isValue_47 (hZ : ZRN (ztb (tb_X15_isValue E d mc ms)) cut G R T Z) (f : Nat) (L : ZLV) (st : List Value) (σ : ZHp) (n k w : Nat) : Z (f + 1) 47 L st σ n k w = s_aload 1 48 L st σ n k w (zk1 cut G (Z f)) G R T := zrs hZ rfl f L st σ n k w
theorem f_X15_isValue_48 (hZ : ZRN (ztb (tb_X15_isValue E d mc ms)) cut G R T Z) (f : Nat) (L : ZLV) (st : List Value) (σ : ZHp) (n k w : Nat) : Z (f + 1) 48 L st σ n k w = s_const (.int (31)) 50 L st σ n k w (zk1 cut G (Z f)) G R T := zrs hZ rfl f L st σ n k w
theorem f_X15_isValue_50 (hZ : ZRN (ztb (tb_X15_isValue E d mc ms)) cut G R T Z) (f : Nat) (L : ZLV) (st : List Value) (σ : ZHp) (n k w : Nat) : Z (f + 1) 50 L st σ n k w = s_callV E d mc ms 14 MX15_eat 2 53 L st σ n k w (zk1 cut G (Z f)) G R T := zrs hZ rfl f L st σ n k w
theorem f_X15_isValue_53 (hZ : ZRN (ztb (tb_X15_isValue E d mc ms)) cut G R T Z) (f : Nat) (L : ZLV) (st : List Value) (σ : ZHp) (n k w : Nat) : Z (f + 1) 53 L st σ n k w = s_if_ne 96 56 L st σ n k w (zk1 cut G (Z f)) G R T := zrs hZ rfl f L st σ n k w
theorem f_X15_isValue_56 (hZ : ZRN (ztb (tb_X15_isValue E d mc ms)) cut G R T Z) (f : Nat) (L : ZLV) (st : List Value) (σ : ZHp) (n k w : Nat) : Z (f + 1) 56 L st σ n k w = s_aload 0 57 L st σ n k w (zk1 cut G (Z f)) G R T := zrs hZ rfl f L st σ n k w
theorem f_X15_isValue_57 (hZ : ZRN (ztb (tb_X15_isValue E d mc ms)) cut G R T Z) (f : Nat) (L : ZLV) (st : List Value) (σ : ZHp) (n k w : Nat) : Z (f + 1) 57 L st σ n k w = s_aload 1 58 L st σ n k w (zk1 cut G (Z f)) G R T := zrs hZ rfl f L st σ n k w
theorem f_X15_isValue_58 (hZ : ZRN (ztb (tb_X15_isValue E d mc ms)) cut G R T Z) (f : Nat) (L : ZLV) (st : List Value) (σ : ZHp) (n k w : Nat) : Z (f + 1) 58 L st σ n k w = s_const (.int (15)) 60 L st σ n k w (zk1 cut G (Z f)) G R T := zrs hZ rfl f L st σ n k w
theorem f_X15_isValue_60 (hZ : ZRN (ztb (tb_X15_isValue E d mc ms)) cut G R T Z) (f : Nat) (L : ZLV) (st : List Value) (σ : ZHp) (n k w : Nat) : Z (f + 1) 60 L st σ n k w = s_const (.int (16)) 62 L st σ n k w (zk1 cut G (Z f)) G R T := zrs hZ rfl f L st σ n k w
theorem f_X15_isValue_62 (hZ : ZRN (ztb (tb_X15_isValue E d mc ms)) cut G R T Z) (f : Nat) (L : ZLV) (st : List Value) (σ : ZHp) (n k w : Nat) : Z (f + 1) 62 L st σ n k w = s_callV E d mc ms 14 MX15_eatIn 3 65 L st σ n k w (zk1 cut G (Z f)) G R T := zrs hZ rfl f L st σ n k w
theorem f_X15_isValue_65 (hZ : ZRN (ztb (tb_X15_isValue E d mc ms)) cut G R T Z) (f : Nat) (L : ZLV) (st : List Value) (σ : ZHp) (n k w : Nat) : Z (f + 1) 65 L st σ n k w = s_if_ne 96 68 L st σ n k w (zk1 cut G (Z f)) G R T := zrs hZ rfl f L st σ n k w
theorem f_X15_isValue_68 (hZ : ZRN (ztb (tb_X15_isValue E d mc ms)) cut G R T Z) (f : Nat) (L : ZLV) (st : List Value) (σ : ZHp) (n k w : Nat) : Z (f + 1) 68 L st σ n k w = s_aload 0 69 L st σ n k w (zk1 cut G (Z f)) G R T := zrs hZ rfl f L st σ n k w
theorem f_X15_isValue_69 (hZ : ZRN (ztb (tb_X15_isValue E d mc ms)) cut G R T Z) (f : Nat) (L : ZLV) (st : List Value) (σ : ZHp) (n k w : Nat) : Z (f + 1) 69 L st σ n k w = s_aload 1 70 L st σ n k w (zk1 cut G (Z f)) G R T := zrs hZ rfl f L st σ n k w
theorem f_X15_isValue_70 (hZ : ZRN (ztb (tb_X15_isValue E d mc ms)) cut G R T Z) (f : Nat) (L : ZLV) (st : List Value) (σ : ZHp) (n k w : Nat) : Z (f + 1) 70 L st σ n k w = s_const (.int (3)) 71 L st σ n k w (zk1 cut G (Z f)) G R T := zrs hZ rfl f L st σ n k w
theorem f_X15_isValue_71 (hZ : ZRN (ztb (tb_X15_isValue E d mc ms)) cut G R T Z) (f : Nat) (L : ZLV) (st : List Value) (σ : ZHp) (n k w : Nat) : Z (f + 1) 71 L st σ n k w = s_callV E d mc ms 14 MX15_eat 2 74 L st σ n k w (zk1 cut G (Z f)) G R T := zrs hZ rfl f L st σ n k w
theorem f_X15_isValue_74 (hZ : ZRN (ztb (tb_X15_isValue E d mc ms)) cut G R T Z) (f : Nat) (L : ZLV) (st : List Value) (σ : ZHp) (n k w : Nat) : Z (f + 1) 74 L st σ n k w = s_if_ne 96 77 L st σ n k w (zk1 cut G (Z f)) G R T := zrs hZ rfl f L st σ n k w
theorem f_X15_isValue_77 (hZ : ZRN (ztb (tb_X15_isValue E d mc ms)) cut G R T Z) (f : Nat) (L : ZLV) (st : List Value) (σ : ZHp) (n k w : Nat) : Z (f + 1) 77 L st σ n k w = s_aload 0 78 L st σ n k w (zk1 cut G (Z f)) G R T := zrs hZ rfl f L st σ n k w
theorem f_X15_isValue_78 (hZ : ZRN (ztb (tb_X15_isValue E d mc ms)) cut G R T Z) (f : Nat) (L : ZLV) (st : List Value) (σ : ZHp) (n k w : Nat) : Z (f + 1) 78 L st σ n k w = s_aload 1 79 L st σ n k w (zk1 cut G (Z f)) G R T := zrs hZ rfl f L st σ n k w
theorem f_X15_isValue_79 (hZ : ZRN (ztb (tb_X15_isValue E d mc ms)) cut G R T Z) (f : Nat) (L : ZLV) (st : List Value) (σ : ZHp) (n k w : Nat) : Z (f + 1) 79 L st σ n k w = s_const (.int (5)) 80 L st σ n k w (zk1 cut G (Z f)) G R T := zrs hZ rfl f L st σ n k w
theorem f_X15_isValue_80 (hZ : ZRN (ztb (tb_X15_isValue E d mc ms)) cut G R T Z) (f : Nat) (L : ZLV) (st : List Value) (σ : ZHp) (n k w : Nat) : Z (f + 1) 80 L st σ n k w = s_callV E d mc ms 14 MX15_eat 2 83 L st σ n k w (zk1 cut G (Z f)) G R T := zrs hZ rfl f L st σ n k w
theorem f_X15_isValue_83 (hZ : ZRN (ztb (tb_X15_isValue E d mc ms)) cut G R T Z) (f : Nat) (L : ZLV) (st : List Value) (σ : ZHp) (n k w : Nat) : Z (f + 1) 83 L st σ n k w = s_if_ne 96 86 L st σ n k w (zk1 cut G (Z f)) G R T := zrs hZ rfl f L st σ n k w
theorem f_X15_isValue_86 (hZ : ZRN (ztb (tb_X15_isValue E d mc ms)) cut G R T Z) (f : Nat) (L : ZLV) (st : List Value) (σ : ZHp) (n k w : Nat) : Z (f + 1) 86 L st σ n k w = s_aload 0 87 L st σ n k w (zk1 cut G (Z f)) G R T := zrs hZ rfl f L st σ n k w
theorem f_X15_isValue_87 (hZ : ZRN (ztb (tb_X15_isValue E d mc ms)) cut G R T Z) (f : Nat) (L : ZLV) (st : List Value) (σ : ZHp) (n k w : Nat) : Z (f + 1) 87 L st σ n k w = s_aload 1 88 L st σ n k w (zk1 cut G (Z f)) G R T := zrs hZ rfl f L st σ n k w
theorem f_X15_isValue_88 (hZ : ZRN (ztb (tb_X15_isValue E d mc ms)) cut G R T Z) (f : Nat) (L : ZLV) (st : List Value) (σ : ZHp) (n k w : Nat) : Z (f + 1) 88 L st σ n k w = s_const (.int (20)) 90 L st σ n k w (zk1 cut G (Z f)) G R T := zrs hZ rfl f L st σ n k w
theorem f_X15_isValue_90 (hZ : ZRN (ztb (tb_X15_isValue E d mc ms)) cut G R T Z) (f : Nat) (L : ZLV) (st : List Value) (σ : ZHp) (n k w : Nat) : Z (f + 1) 90 L st σ n k w = s_callV E d mc ms 14 MX15_eat 2 93 L st σ n k w (zk1 cut G (Z f)) G R T := zrs hZ rfl f L st σ n k w
theorem f_X15_isValue_93 (hZ : ZRN (ztb (tb_X15_isValue E d mc ms)) cut G R T Z) (f : Nat) (L : ZLV) (st : List Value) (σ : ZHp) (n k w : Nat) : Z (f + 1) 93 L st σ n k w = s_if_eq 98 96 L st σ n k w (zk1 cut G (Z f)) G R T := zrs hZ rfl f L st σ n k w
theorem f_X15_isValue_96 (hZ : ZRN (ztb (tb_X15_isValue E d mc ms)) cut G R T Z) (f : Nat) (L : ZLV) (st : List Value) (σ : ZHp) (n k w : Nat) : Z (f + 1) 96 L st σ n k w = s_const (.int (1)) 97 L st σ n k w (zk1 cut G (Z f)) G R T := zrs hZ rfl f L st σ n k w
theorem f_X15_isValue_97 (hZ : ZRN (ztb (tb_X15_isValue E d mc ms)) cut G R T Z) (f : Nat) (L : ZLV) (st : List Value) (σ : ZHp) (n k w : Nat) : Z (f + 1) 97 L st σ n k w = s_zreturn L st σ n k w (zk1 cut G (Z f)) G R T := zrs hZ rfl f L st σ n k w
theorem f_X15_isValue_98 (hZ : ZRN (ztb (tb_X15_isValue E d mc ms)) cut G R T Z) (f : Nat) (L : ZLV) (st : List Value) (σ : ZHp) (n k w : Nat) : Z (f + 1) 98 L st σ n k w = s_aload 0 99 L st σ n k w (zk1 cut G (Z f)) G R T := zrs hZ rfl f L st σ n k w
theorem f_X15_isValue_99 (hZ : ZRN (ztb (tb_X15_isValue E d mc ms)) cut G R T Z) (f : Nat) (L : ZLV) (st : List Value) (σ : ZHp) (n k w : Nat) : Z (f + 1) 99 L st σ n k w = s_aload 1 100 L st σ n k w (zk1 cut G (Z f)) G R T := zrs hZ rfl f L st σ n k w
theorem f_X15_isValue_100 (hZ : ZRN (ztb (tb_X15_isValue E d mc ms)) cut G R T Z) (f : Nat) (L : ZLV) (st : List Value) (σ : ZHp) (n k w : Nat) : Z (f + 1) 100 L st σ n k w = s_const (.int (17)) 102 L st σ n k w (zk1 cut G (Z f)) G R T := zrs hZ rfl f L st σ n k w
theorem f_X15_isValue_102 (hZ : ZRN (ztb (tb_X15_isValue E d mc ms)) cut G R T Z) (f : Nat) (L : ZLV) (st : List Value) (σ : ZHp) (n k w : Nat) : Z (f + 1) 102 L st σ n k w = s_const (.int (19)) 104 L st σ n k w (zk1 cut G (Z f)) G R T := zrs hZ rfl f L st σ n k w
theorem f_X15_isValue_104 (hZ : ZRN (ztb (tb_X15_isValue E d mc ms)) cut G R T Z) (f : Nat) (L : ZLV) (st : List Value) (σ : ZHp) (n k w : Nat) : Z (f + 1) 104 L st σ n k w = s_callV E d mc ms 14 MX15_eatIn 3 107 L st σ n k w (zk1 cut G (Z f)) G R T := zrs hZ rfl f L st σ n k w
theorem f_X15_isValue_107 (hZ : ZRN (ztb (tb_X15_isValue E d mc ms)) cut G R T Z) (f : Nat) (L : ZLV) (st : List Value) (σ : ZHp) (n k w : Nat) : Z (f + 1) 107 L st σ n k w = s_if_eq 118 110 L st σ n k w (zk1 cut G (Z f)) G R T := zrs hZ rfl f L st σ n k w
theorem f_X15_isValue_110 (hZ : ZRN (ztb (tb_X15_isValue E d mc ms)) cut G R T Z) (f : Nat) (L : ZLV) (st : List Value) (σ : ZHp) (n k w : Nat) : Z (f + 1) 110 L st σ n k w = s_aload 0 111 L st σ n k w (zk1 cut G (Z f)) G R T := zrs hZ rfl f L st σ n k w
theorem f_X15_isValue_111 (hZ : ZRN (ztb (tb_X15_isValue E d mc ms)) cut G R T Z) (f : Nat) (L : ZLV) (st : List Value) (σ : ZHp) (n k w : Nat) : Z (f + 1) 111 L st σ n k w = s_aload 1 112 L st σ n k w (zk1 cut G (Z f)) G R T := zrs hZ rfl f L st σ n k w
theorem f_X15_isValue_112 (hZ : ZRN (ztb (tb_X15_isValue E d mc ms)) cut G R T Z) (f : Nat) (L : ZLV) (st : List Value) (σ : ZHp) (n k w : Nat) : Z (f + 1) 112 L st σ n k w = s_const (.int (30)) 114 L st σ n k w (zk1 cut G (Z f)) G R T := zrs hZ rfl f L st σ n k w
theorem f_X15_isValue_114 (hZ : ZRN (ztb (tb_X15_isValue E d mc ms)) cut G R T Z) (f : Nat) (L : ZLV) (st : List Value) (σ : ZHp) (n k w : Nat) : Z (f + 1) 114 L st σ n k w = s_callV E d mc ms 14 MX15_eat 2 117 L st σ n k w (zk1 cut G (Z f)) G R T := zrs hZ rfl f L st σ n k w
theorem f_X15_isValue_117 (hZ : ZRN (ztb (tb_X15_isValue E d mc ms)) cut G R T Z) (f : Nat) (L : ZLV) (st : List Value) (σ : ZHp) (n k w : Nat) : Z (f + 1) 117 L st σ n k w = s_zreturn L st σ n k w (zk1 cut G (Z f)) G R T := zrs hZ rfl f L st σ n k w
theorem f_X15_isValue_118 (hZ : ZRN (ztb (tb_X15_isValue E d mc ms)) cut G R T Z) (f : Nat) (L : ZLV) (st : List Value) (σ : ZHp) (n k w : Nat) : Z (f + 1) 118 L st σ n k w = s_aload 0 119 L st σ n k w (zk1 cut G (Z f)) G R T := zrs hZ rfl f L st σ n k w
theorem f_X15_isValue_119 (hZ : ZRN (ztb (tb_X15_isValue E d mc ms)) cut G R T Z) (f : Nat) (L : ZLV) (st : List Value) (σ : ZHp) (n k w : Nat) : Z (f + 1) 119 L st σ n k w = s_aload 1 120 L st σ n k w (zk1 cut G (Z f)) G R T := zrs hZ rfl f L st σ n k w
theorem f_X15_isValue_120 (hZ : ZRN (ztb (tb_X15_isValue E d mc ms)) cut G R T Z) (f : Nat) (L : ZLV) (st : List Value) (σ : ZHp) (n k w : Nat) : Z (f + 1) 120 L st σ n k w = s_const (.int (24)) 122 L st σ n k w (zk1 cut G (Z f)) G R T := zrs hZ rfl f L st σ n k w
theorem f_X15_isValue_122 (hZ : ZRN (ztb (tb_X15_isValue E d mc ms)) cut G R T Z) (f : Nat) (L : ZLV) (st : List Value) (σ : ZHp) (n k w : Nat) : Z (f + 1) 122 L st σ n k w = s_const (.int (25)) 124 L st σ n k w (zk1 cut G (Z f)) G R T := zrs hZ rfl f L st σ n k w
theorem f_X15_isValue_124 (hZ : ZRN (ztb (tb_X15_isValue E d mc ms)) cut G R T Z) (f : Nat) (L : ZLV) (st : List Value) (σ : ZHp) (n k w : Nat) : Z (f + 1) 124 L st σ n k w = s_callV E d mc ms 14 MX15_eatIn 3 127 L st σ n k w (zk1 cut G (Z f)) G R T := zrs hZ rfl f L st σ n k w
theorem f_X15_isValue_127 (hZ : ZRN (ztb (tb_X15_isValue E d mc ms)) cut G R T Z) (f : Nat) (L : ZLV) (st : List Value) (σ : ZHp) (n k w : Nat) : Z (f + 1) 127 L st σ n k w = s_istore 2 128 L st σ n k w (zk1 cut G (Z f)) G R T := zrs hZ rfl f L st σ n k w
theorem f_X15_isValue_128 (hZ : ZRN (ztb (tb_X15_isValue E d mc ms)) cut G R T Z) (f : Nat) (L : ZLV) (st : List Value) (σ : ZHp) (n k w : Nat) : Z (f + 1) 128 L st σ n k w = s_aload 0 129 L st σ n k w (zk1 cut G (Z f)) G R T := zrs hZ rfl f L st σ n k w
theorem f_X15_isValue_129 (hZ : ZRN (ztb (tb_X15_isValue E d mc ms)) cut G R T Z) (f : Nat) (L : ZLV) (st : List Value) (σ : ZHp) (n k w : Nat) : Z (f + 1) 129 L st σ n k w = s_aload 1 130 L st σ n k w (zk1 cut G (Z f)) G R T := zrs hZ rfl f L st σ n k w
theorem f_X15_isValue_130 (hZ : ZRN (ztb (tb_X15_isValue E d mc ms)) cut G R T Z) (f : Nat) (L : ZLV) (st : List Value) (σ : ZHp) (n k w : Nat) : Z (f + 1) 130 L st σ n k w = s_const (.int (40)) 132 L st σ n k w (zk1 cut G (Z f)) G R T := zrs hZ rfl f L st σ n k w
theorem f_X15_isValue_132 (hZ : ZRN (ztb (tb_X15_isValue E d mc ms)) cut G R T Z) (f : Nat) (L : ZLV) (st : List Value) (σ : ZHp) (n k w : Nat) : Z (f + 1) 132 L st σ n k w = s_callV E d mc ms 14 MX15_goDown 2 135 L st σ n k w (zk1 cut G (Z f)) G R T := zrs hZ rfl f L st σ n k w
theorem f_X15_isValue_135 (hZ : ZRN (ztb (tb_X15_isValue E d mc ms)) cut G R T Z) (f : Nat) (L : ZLV) (st : List Value) (σ : ZHp) (n k w : Nat) : Z (f + 1) 135 L st σ n k w = s_if_eq 178 138 L st σ n k w (zk1 cut G (Z f)) G R T := zrs hZ rfl f L st σ n k w
theorem f_X15_isValue_138 (hZ : ZRN (ztb (tb_X15_isValue E d mc ms)) cut G R T Z) (f : Nat) (L : ZLV) (st : List Value) (σ : ZHp) (n k w : Nat) : Z (f + 1) 138 L st σ n k w = s_aload 0 139 L st σ n k w (zk1 cut G (Z f)) G R T := zrs hZ rfl f L st σ n k w
theorem f_X15_isValue_139 (hZ : ZRN (ztb (tb_X15_isValue E d mc ms)) cut G R T Z) (f : Nat) (L : ZLV) (st : List Value) (σ : ZHp) (n k w : Nat) : Z (f + 1) 139 L st σ n k w = s_aload 1 140 L st σ n k w (zk1 cut G (Z f)) G R T := zrs hZ rfl f L st σ n k w
theorem f_X15_isValue_140 (hZ : ZRN (ztb (tb_X15_isValue E d mc ms)) cut G R T Z) (f : Nat) (L : ZLV) (st : List Value) (σ : ZHp) (n k w : Nat) : Z (f + 1) 140 L st σ n k w = s_callV E d mc ms 14 MX15_isSum 1 143 L st σ n k w (zk1 cut G (Z f)) G R T := zrs hZ rfl f L st σ n k w
theorem f_X15_isValue_143 (hZ : ZRN (ztb (tb_X15_isValue E d mc ms)) cut G R T Z) (f : Nat) (L : ZLV) (st : List Value) (σ : ZHp) (n k w : Nat) : Z (f + 1) 143 L st σ n k w = s_if_eq 178 146 L st σ n k w (zk1 cut G (Z f)) G R T := zrs hZ rfl f L st σ n k w
theorem f_X15_isValue_146 (hZ : ZRN (ztb (tb_X15_isValue E d mc ms)) cut G R T Z) (f : Nat) (L : ZLV) (st : List Value) (σ : ZHp) (n k w : Nat) : Z (f + 1) 146 L st σ n k w = s_iload 2 147 L st σ n k w (zk1 cut G (Z f)) G R T := zrs hZ rfl f L st σ n k w
theorem f_X15_isValue_147 (hZ : ZRN (ztb (tb_X15_isValue E d mc ms)) cut G R T Z) (f : Nat) (L : ZLV) (st : List Value) (σ : ZHp) (n k w : Nat) : Z (f + 1) 147 L st σ n k w = s_if_eq 168 150 L st σ n k w (zk1 cut G (Z f)) G R T := zrs hZ rfl f L st σ n k w
theorem f_X15_isValue_150 (hZ : ZRN (ztb (tb_X15_isValue E d mc ms)) cut G R T Z) (f : Nat) (L : ZLV) (st : List Value) (σ : ZHp) (n k w : Nat) : Z (f + 1) 150 L st σ n k w = s_aload 0 151 L st σ n k w (zk1 cut G (Z f)) G R T := zrs hZ rfl f L st σ n k w
theorem f_X15_isValue_151 (hZ : ZRN (ztb (tb_X15_isValue E d mc ms)) cut G R T Z) (f : Nat) (L : ZLV) (st : List Value) (σ : ZHp) (n k w : Nat) : Z (f + 1) 151 L st σ n k w = s_aload 1 152 L st σ n k w (zk1 cut G (Z f)) G R T := zrs hZ rfl f L st σ n k w
theorem f_X15_isValue_152 (hZ : ZRN (ztb (tb_X15_isValue E d mc ms)) cut G R T Z) (f : Nat) (L : ZLV) (st : List Value) (σ : ZHp) (n k w : Nat) : Z (f + 1) 152 L st σ n k w = s_const (.int (45)) 154 L st σ n k w (zk1 cut G (Z f)) G R T := zrs hZ rfl f L st σ n k w
theorem f_X15_isValue_154 (hZ : ZRN (ztb (tb_X15_isValue E d mc ms)) cut G R T Z) (f : Nat) (L : ZLV) (st : List Value) (σ : ZHp) (n k w : Nat) : Z (f + 1) 154 L st σ n k w = s_callV E d mc ms 14 MX15_eat 2 157 L st σ n k w (zk1 cut G (Z f)) G R T := zrs hZ rfl f L st σ n k w
theorem f_X15_isValue_157 (hZ : ZRN (ztb (tb_X15_isValue E d mc ms)) cut G R T Z) (f : Nat) (L : ZLV) (st : List Value) (σ : ZHp) (n k w : Nat) : Z (f + 1) 157 L st σ n k w = s_if_eq 178 160 L st σ n k w (zk1 cut G (Z f)) G R T := zrs hZ rfl f L st σ n k w
theorem f_X15_isValue_160 (hZ : ZRN (ztb (tb_X15_isValue E d mc ms)) cut G R T Z) (f : Nat) (L : ZLV) (st : List Value) (σ : ZHp) (n k w : Nat) : Z (f + 1) 160 L st σ n k w = s_aload 0 161 L st σ n k w (zk1 cut G (Z f)) G R T := zrs hZ rfl f L st σ n k w
theorem f_X15_isValue_161 (hZ : ZRN (ztb (tb_X15_isValue E d mc ms)) cut G R T Z) (f : Nat) (L : ZLV) (st : List Value) (σ : ZHp) (n k w : Nat) : Z (f + 1) 161 L st σ n k w = s_aload 1 162 L st σ n k w (zk1 cut G (Z f)) G R T := zrs hZ rfl f L st σ n k w
theorem f_X15_isValue_162 (hZ : ZRN (ztb (tb_X15_isValue E d mc ms)) cut G R T Z) (f : Nat) (L : ZLV) (st : List Value) (σ : ZHp) (n k w : Nat) : Z (f + 1) 162 L st σ n k w = s_callV E d mc ms 14 MX15_isSum 1 165 L st σ n k w (zk1 cut G (Z f)) G R T := zrs hZ rfl f L st σ n k w
theorem f_X15_isValue_165 (hZ : ZRN (ztb (tb_X15_isValue E d mc ms)) cut G R T Z) (f : Nat) (L : ZLV) (st : List Value) (σ : ZHp) (n k w : Nat) : Z (f + 1) 165 L st σ n k w = s_if_eq 178 168 L st σ n k w (zk1 cut G (Z f)) G R T := zrs hZ rfl f L st σ n k w
theorem f_X15_isValue_168 (hZ : ZRN (ztb (tb_X15_isValue E d mc ms)) cut G R T Z) (f : Nat) (L : ZLV) (st : List Value) (σ : ZHp) (n k w : Nat) : Z (f + 1) 168 L st σ n k w = s_aload 0 169 L st σ n k w (zk1 cut G (Z f)) G R T := zrs hZ rfl f L st σ n k w
theorem f_X15_isValue_169 (hZ : ZRN (ztb (tb_X15_isValue E d mc ms)) cut G R T Z) (f : Nat) (L : ZLV) (st : List Value) (σ : ZHp) (n k w : Nat) : Z (f + 1) 169 L st σ n k w = s_aload 1 170 L st σ n k w (zk1 cut G (Z f)) G R T := zrs hZ rfl f L st σ n k w
theorem f_X15_isValue_170 (hZ : ZRN (ztb (tb_X15_isValue E d mc ms)) cut G R T Z) (f : Nat) (L : ZLV) (st : List Value) (σ : ZHp) (n k w : Nat) : Z (f + 1) 170 L st σ n k w = s_const (.int (41)) 172 L st σ n k w (zk1 cut G (Z f)) G R T := zrs hZ rfl f L st σ n k w
theorem f_X15_isValue_172 (hZ : ZRN (ztb (tb_X15_isValue E d mc ms)) cut G R T Z) (f : Nat) (L : ZLV) (st : List Value) (σ : ZHp) (n k w : Nat) : Z (f + 1) 172 L st σ n k w = s_callV E d mc ms 14 MX15_eat 2 175 L st σ n k w (zk1 cut G (Z f)) G R T := zrs hZ rfl f L st σ n k w
theorem f_X15_isValue_175 (hZ : ZRN (ztb (tb_X15_isValue E d mc ms)) cut G R T Z) (f : Nat) (L : ZLV) (st : List Value) (σ : ZHp) (n k w : Nat) : Z (f + 1) 175 L st σ n k w = s_if_ne 180 178 L st σ n k w (zk1 cut G (Z f)) G R T := zrs hZ rfl f L st σ n k w
theorem f_X15_isValue_178 (hZ : ZRN (ztb (tb_X15_isValue E d mc ms)) cut G R T Z) (f : Nat) (L : ZLV) (st : List Value) (σ : ZHp) (n k w : Nat) : Z (f + 1) 178 L st σ n k w = s_const (.int (0)) 179 L st σ n k w (zk1 cut G (Z f)) G R T := zrs hZ rfl f L st σ n k w
theorem f_X15_isValue_179 (hZ : ZRN (ztb (tb_X15_isValue E d mc ms)) cut G R T Z) (f : Nat) (L : ZLV) (st : List Value) (σ : ZHp) (n k w : Nat) : Z (f + 1) 179 L st σ n k w = s_zreturn L st σ n k w (zk1 cut G (Z f)) G R T := zrs hZ rfl f L st σ n k w
theorem f_X15_isValue_180 (hZ : ZRN (ztb (tb_X15_isValue E d mc ms)) cut G R T Z) (f : Nat) (L : ZLV) (st : List Value) (σ : ZHp) (n k w : Nat) : Z (f + 1) 180 L st σ n k w = s_aload 0 181 L st σ n k w (zk1 cut G (Z f)) G R T := zrs hZ rfl f L st σ n k w
theorem f_X15_isValue_181 (hZ : ZRN (ztb (tb_X15_isValue E d mc ms)) cut G R T Z) (f : Nat) (L : ZLV) (st : List Value) (σ : ZHp) (n k w : Nat) : Z (f + 1) 181 L st σ n k w = s_dup 182 L st σ n k w (zk1 cut G (Z f)) G R T := zrs hZ rfl f L st σ n k w
theorem f_X15_isValue_182 (hZ : ZRN (ztb (tb_X15_isValue E d mc ms)) cut G R T Z) (f : Nat) (L : ZLV) (st : List Value) (σ : ZHp) (n k w : Nat) : Z (f + 1) 182 L st σ n k w = s_getf 14 5 185 L st σ n k w (zk1 cut G (Z f)) G R T := zrs hZ rfl f L st σ n k w
theorem f_X15_isValue_185 (hZ : ZRN (ztb (tb_X15_isValue E d mc ms)) cut G R T Z) (f : Nat) (L : ZLV) (st : List Value) (σ : ZHp) (n k w : Nat) : Z (f + 1) 185 L st σ n k w = s_const (.int (1)) 186 L st σ n k w (zk1 cut G (Z f)) G R T := zrs hZ rfl f L st σ n k w
theorem f_X15_isValue_186 (hZ : ZRN (ztb (tb_X15_isValue E d mc ms)) cut G R T Z) (f : Nat) (L : ZLV) (st : List Value) (σ : ZHp) (n k w : Nat) : Z (f + 1) 186 L st σ n k w = s_isub 187 L st σ n k w (zk1 cut G (Z f)) G R T := zrs hZ rfl f L st σ n k w
theorem f_X15_isValue_187 (hZ : ZRN (ztb (tb_X15_isValue E d mc ms)) cut G R T Z) (f : Nat) (L : ZLV) (st : List Value) (σ : ZHp) (n k w : Nat) : Z (f + 1) 187 L st σ n k w = s_putf 14 5 0 190 L st σ n k w (zk1 cut G (Z f)) G R T := zrs hZ rfl f L st σ n k w
theorem f_X15_isValue_190 (hZ : ZRN (ztb (tb_X15_isValue E d mc ms)) cut G R T Z) (f : Nat) (L : ZLV) (st : List Value) (σ : ZHp) (n k w : Nat) : Z (f + 1) 190 L st σ n k w = s_const (.int (1)) 191 L st σ n k w (zk1 cut G (Z f)) G R T := zrs hZ rfl f L st σ n k w
theorem f_X15_isValue_191 (hZ : ZRN (ztb (tb_X15_isValue E d mc ms)) cut G R T Z) (f : Nat) (L : ZLV) (st : List Value) (σ : ZHp) (n k w : Nat) : Z (f + 1) 191 L st σ n k w = s_zreturn L st σ n k w (zk1 cut G (Z f)) G R T := zrs hZ rfl f L st σ n k w
theorem f_X15_number_0 (hZ : ZRN (ztb (tb_X15_number E d mc ms)) cut G R T Z) (f : Nat) (L : ZLV) (st : List Value) (σ : ZHp) (n k w : Nat) : Z (f + 1) 0 L st σ n k w = s_const (.int (0)) 1 L st σ n k w (zk1 cut G (Z f)) G R T := zrs hZ rfl f L st σ n k w
theorem f_X15_number_1 (hZ : ZRN (ztb (tb_X15_number E d mc ms)) cut G R T Z) (f : Nat) (L : ZLV) (st : List Value) (σ : ZHp) (n k w : Nat) : Z (f + 1) 1 L st σ n k w = s_istore 3 2 L st σ n k w (zk1 cut G (Z f)) G R T := zrs hZ rfl f L st σ n k w
theorem f_X15_number_2 (hZ : ZRN (ztb (tb_X15_number E d mc ms)) cut G R T Z) (f : Nat) (L : ZLV) (st : List Value) (σ : ZHp) (n k w : Nat) : Z (f + 1) 2 L st σ n k w = s_const (.int (0)) 3 L st σ n k w (zk1 cut G (Z f)) G R T := zrs hZ rfl f L st σ n k w
theorem f_X15_number_3 (hZ : ZRN (ztb (tb_X15_number E d mc ms)) cut G R T Z) (f : Nat) (L : ZLV) (st : List Value) (σ : ZHp) (n k w : Nat) : Z (f + 1) 3 L st σ n k w = s_istore 4 5 L st σ n k w (zk1 cut G (Z f)) G R T := zrs hZ rfl f L st σ n k w
theorem f_X15_number_5 (hZ : ZRN (ztb (tb_X15_number E d mc ms)) cut G R T Z) (f : Nat) (L : ZLV) (st : List Value) (σ : ZHp) (n k w : Nat) : Z (f + 1) 5 L st σ n k w = s_iload 4 7 L st σ n k w (zk1 cut G (Z f)) G R T := zrs hZ rfl f L st σ n k w
theorem f_X15_number_7 (hZ : ZRN (ztb (tb_X15_number E d mc ms)) cut G R T Z) (f : Nat) (L : ZLV) (st : List Value) (σ : ZHp) (n k w : Nat) : Z (f + 1) 7 L st σ n k w = s_aload 1 8 L st σ n k w (zk1 cut G (Z f)) G R T := zrs hZ rfl f L st σ n k w
theorem f_X15_number_8 (hZ : ZRN (ztb (tb_X15_number E d mc ms)) cut G R T Z) (f : Nat) (L : ZLV) (st : List Value) (σ : ZHp) (n k w : Nat) : Z (f + 1) 8 L st σ n k w = s_getf 12 2 11 L st σ n k w (zk1 cut G (Z f)) G R T := zrs hZ rfl f L st σ n k w
theorem f_X15_number_11 (hZ : ZRN (ztb (tb_X15_number E d mc ms)) cut G R T Z) (f : Nat) (L : ZLV) (st : List Value) (σ : ZHp) (n k w : Nat) : Z (f + 1) 11 L st σ n k w = s_iload 2 12 L st σ n k w (zk1 cut G (Z f)) G R T := zrs hZ rfl f L st σ n k w
theorem f_X15_number_12 (hZ : ZRN (ztb (tb_X15_number E d mc ms)) cut G R T Z) (f : Nat) (L : ZLV) (st : List Value) (σ : ZHp) (n k w : Nat) : Z (f + 1) 12 L st σ n k w = s_iaload E 13 L st σ n k w (zk1 cut G (Z f)) G R T := zrs hZ rfl f L st σ n k w
theorem f_X15_number_13 (hZ : ZRN (ztb (tb_X15_number E d mc ms)) cut G R T Z) (f : Nat) (L : ZLV) (st : List Value) (σ : ZHp) (n k w : Nat) : Z (f + 1) 13 L st σ n k w = s_icmp_ge 45 16 L st σ n k w (zk1 cut G (Z f)) G R T := zrs hZ rfl f L st σ n k w
theorem f_X15_number_16 (hZ : ZRN (ztb (tb_X15_number E d mc ms)) cut G R T Z) (f : Nat) (L : ZLV) (st : List Value) (σ : ZHp) (n k w : Nat) : Z (f + 1) 16 L st σ n k w = s_const (.int (10)) 18 L st σ n k w (zk1 cut G (Z f)) G R T := zrs hZ rfl f L st σ n k w
theorem f_X15_number_18 (hZ : ZRN (ztb (tb_X15_number E d mc ms)) cut G R T Z) (f : Nat) (L : ZLV) (st : List Value) (σ : ZHp) (n k w : Nat) : Z (f + 1) 18 L st σ n k w = s_iload 3 19 L st σ n k w (zk1 cut G (Z f)) G R T := zrs hZ rfl f L st σ n k w
theorem f_X15_number_19 (hZ : ZRN (ztb (tb_X15_number E d mc ms)) cut G R T Z) (f : Nat) (L : ZLV) (st : List Value) (σ : ZHp) (n k w : Nat) : Z (f + 1) 19 L st σ n k w = s_imul 20 L st σ n k w (zk1 cut G (Z f)) G R T := zrs hZ rfl f L st σ n k w
theorem f_X15_number_20 (hZ : ZRN (ztb (tb_X15_number E d mc ms)) cut G R T Z) (f : Nat) (L : ZLV) (st : List Value) (σ : ZHp) (n k w : Nat) : Z (f + 1) 20 L st σ n k w = s_aload 0 21 L st σ n k w (zk1 cut G (Z f)) G R T := zrs hZ rfl f L st σ n k w
theorem f_X15_number_21 (hZ : ZRN (ztb (tb_X15_number E d mc ms)) cut G R T Z) (f : Nat) (L : ZLV) (st : List Value) (σ : ZHp) (n k w : Nat) : Z (f + 1) 21 L st σ n k w = s_getf 14 1 24 L st σ n k w (zk1 cut G (Z f)) G R T := zrs hZ rfl f L st σ n k w
theorem f_X15_number_24 (hZ : ZRN (ztb (tb_X15_number E d mc ms)) cut G R T Z) (f : Nat) (L : ZLV) (st : List Value) (σ : ZHp) (n k w : Nat) : Z (f + 1) 24 L st σ n k w = s_aload 1 25 L st σ n k w (zk1 cut G (Z f)) G R T := zrs hZ rfl f L st σ n k w
theorem f_X15_number_25 (hZ : ZRN (ztb (tb_X15_number E d mc ms)) cut G R T Z) (f : Nat) (L : ZLV) (st : List Value) (σ : ZHp) (n k w : Nat) : Z (f + 1) 25 L st σ n k w = s_getf 12 1 28 L st σ n k w (zk1 cut G (Z f)) G R T := zrs hZ rfl f L st σ n k w
theorem f_X15_number_28 (hZ : ZRN (ztb (tb_X15_number E d mc ms)) cut G R T Z) (f : Nat) (L : ZLV) (st : List Value) (σ : ZHp) (n k w : Nat) : Z (f + 1) 28 L st σ n k w = s_iload 2 29 L st σ n k w (zk1 cut G (Z f)) G R T := zrs hZ rfl f L st σ n k w
theorem f_X15_number_29 (hZ : ZRN (ztb (tb_X15_number E d mc ms)) cut G R T Z) (f : Nat) (L : ZLV) (st : List Value) (σ : ZHp) (n k w : Nat) : Z (f + 1) 29 L st σ n k w = s_iaload E 30 L st σ n k w (zk1 cut G (Z f)) G R T := zrs hZ rfl f L st σ n k w
theorem f_X15_number_30 (hZ : ZRN (ztb (tb_X15_number E d mc ms)) cut G R T Z) (f : Nat) (L : ZLV) (st : List Value) (σ : ZHp) (n k w : Nat) : Z (f + 1) 30 L st σ n k w = s_iload 4 32 L st σ n k w (zk1 cut G (Z f)) G R T := zrs hZ rfl f L st σ n k w
theorem f_X15_number_32 (hZ : ZRN (ztb (tb_X15_number E d mc ms)) cut G R T Z) (f : Nat) (L : ZLV) (st : List Value) (σ : ZHp) (n k w : Nat) : Z (f + 1) 32 L st σ n k w = s_iadd 33 L st σ n k w (zk1 cut G (Z f)) G R T := zrs hZ rfl f L st σ n k w
theorem f_X15_number_33 (hZ : ZRN (ztb (tb_X15_number E d mc ms)) cut G R T Z) (f : Nat) (L : ZLV) (st : List Value) (σ : ZHp) (n k w : Nat) : Z (f + 1) 33 L st σ n k w = s_iaload E 34 L st σ n k w (zk1 cut G (Z f)) G R T := zrs hZ rfl f L st σ n k w
theorem f_X15_number_34 (hZ : ZRN (ztb (tb_X15_number E d mc ms)) cut G R T Z) (f : Nat) (L : ZLV) (st : List Value) (σ : ZHp) (n k w : Nat) : Z (f + 1) 34 L st σ n k w = s_iadd 35 L st σ n k w (zk1 cut G (Z f)) G R T := zrs hZ rfl f L st σ n k w
theorem f_X15_number_35 (hZ : ZRN (ztb (tb_X15_number E d mc ms)) cut G R T Z) (f : Nat) (L : ZLV) (st : List Value) (σ : ZHp) (n k w : Nat) : Z (f + 1) 35 L st σ n k w = s_const (.int (48)) 37 L st σ n k w (zk1 cut G (Z f)) G R T := zrs hZ rfl f L st σ n k w
theorem f_X15_number_37 (hZ : ZRN (ztb (tb_X15_number E d mc ms)) cut G R T Z) (f : Nat) (L : ZLV) (st : List Value) (σ : ZHp) (n k w : Nat) : Z (f + 1) 37 L st σ n k w = s_isub 38 L st σ n k w (zk1 cut G (Z f)) G R T := zrs hZ rfl f L st σ n k w
theorem f_X15_number_38 (hZ : ZRN (ztb (tb_X15_number E d mc ms)) cut G R T Z) (f : Nat) (L : ZLV) (st : List Value) (σ : ZHp) (n k w : Nat) : Z (f + 1) 38 L st σ n k w = s_istore 3 39 L st σ n k w (zk1 cut G (Z f)) G R T := zrs hZ rfl f L st σ n k w
theorem f_X15_number_39 (hZ : ZRN (ztb (tb_X15_number E d mc ms)) cut G R T Z) (f : Nat) (L : ZLV) (st : List Value) (σ : ZHp) (n k w : Nat) : Z (f + 1) 39 L st σ n k w = s_iinc 4 (1) 42 L st σ n k w (zk1 cut G (Z f)) G R T := zrs hZ rfl f L st σ n k w
theorem f_X15_number_42 (hZ : ZRN (ztb (tb_X15_number E d mc ms)) cut G R T Z) (f : Nat) (L : ZLV) (st : List Value) (σ : ZHp) (n k w : Nat) : Z (f + 1) 42 L st σ n k w = s_goto 5 L st σ n k w (zk1 cut G (Z f)) G R T := zrs hZ rfl f L st σ n k w
theorem f_X15_number_45 (hZ : ZRN (ztb (tb_X15_number E d mc ms)) cut G R T Z) (f : Nat) (L : ZLV) (st : List Value) (σ : ZHp) (n k w : Nat) : Z (f + 1) 45 L st σ n k w = s_iload 3 46 L st σ n k w (zk1 cut G (Z f)) G R T := zrs hZ rfl f L st σ n k w
theorem f_X15_number_46 (hZ : ZRN (ztb (tb_X15_number E d mc ms)) cut G R T Z) (f : Nat) (L : ZLV) (st : List Value) (σ : ZHp) (n k w : Nat) : Z (f + 1) 46 L st σ n k w = s_ireturn L st σ n k w (zk1 cut G (Z f)) G R T := zrs hZ rfl f L st σ n k w
theorem f_X15_areSame_0 (hZ : ZRN (ztb (tb_X15_areSame E d mc ms)) cut G R T Z) (f : Nat) (L : ZLV) (st : List Value) (σ : ZHp) (n k w : Nat) : Z (f + 1) 0 L st σ n k w = s_aload 1 1 L st σ n k w (zk1 cut G (Z f)) G R T := zrs hZ rfl f L st σ n k w
theorem f_X15_areSame_1 (hZ : ZRN (ztb (tb_X15_areSame E d mc ms)) cut G R T Z) (f : Nat) (L : ZLV) (st : List Value) (σ : ZHp) (n k w : Nat) : Z (f + 1) 1 L st σ n k w = s_getf 12 2 4 L st σ n k w (zk1 cut G (Z f)) G R T := zrs hZ rfl f L st σ n k w
theorem f_X15_areSame_4 (hZ : ZRN (ztb (tb_X15_areSame E d mc ms)) cut G R T Z) (f : Nat) (L : ZLV) (st : List Value) (σ : ZHp) (n k w : Nat) : Z (f + 1) 4 L st σ n k w = s_iload 2 5 L st σ n k w (zk1 cut G (Z f)) G R T := zrs hZ rfl f L st σ n k w
theorem f_X15_areSame_5 (hZ : ZRN (ztb (tb_X15_areSame E d mc ms)) cut G R T Z) (f : Nat) (L : ZLV) (st : List Value) (σ : ZHp) (n k w : Nat) : Z (f + 1) 5 L st σ n k w = s_iaload E 6 L st σ n k w (zk1 cut G (Z f)) G R T := zrs hZ rfl f L st σ n k w
theorem f_X15_areSame_6 (hZ : ZRN (ztb (tb_X15_areSame E d mc ms)) cut G R T Z) (f : Nat) (L : ZLV) (st : List Value) (σ : ZHp) (n k w : Nat) : Z (f + 1) 6 L st σ n k w = s_aload 1 7 L st σ n k w (zk1 cut G (Z f)) G R T := zrs hZ rfl f L st σ n k w
theorem f_X15_areSame_7 (hZ : ZRN (ztb (tb_X15_areSame E d mc ms)) cut G R T Z) (f : Nat) (L : ZLV) (st : List Value) (σ : ZHp) (n k w : Nat) : Z (f + 1) 7 L st σ n k w = s_getf 12 2 10 L st σ n k w (zk1 cut G (Z f)) G R T := zrs hZ rfl f L st σ n k w
theorem f_X15_areSame_10 (hZ : ZRN (ztb (tb_X15_areSame E d mc ms)) cut G R T Z) (f : Nat) (L : ZLV) (st : List Value) (σ : ZHp) (n k w : Nat) : Z (f + 1) 10 L st σ n k w = s_iload 3 11 L st σ n k w (zk1 cut G (Z f)) G R T := zrs hZ rfl f L st σ n k w
theorem f_X15_areSame_11 (hZ : ZRN (ztb (tb_X15_areSame E d mc ms)) cut G R T Z) (f : Nat) (L : ZLV) (st : List Value) (σ : ZHp) (n k w : Nat) : Z (f + 1) 11 L st σ n k w = s_iaload E 12 L st σ n k w (zk1 cut G (Z f)) G R T := zrs hZ rfl f L st σ n k w
theorem f_X15_areSame_12 (hZ : ZRN (ztb (tb_X15_areSame E d mc ms)) cut G R T Z) (f : Nat) (L : ZLV) (st : List Value) (σ : ZHp) (n k w : Nat) : Z (f + 1) 12 L st σ n k w = s_icmp_ne 19 15 L st σ n k w (zk1 cut G (Z f)) G R T := zrs hZ rfl f L st σ n k w
theorem f_X15_areSame_15 (hZ : ZRN (ztb (tb_X15_areSame E d mc ms)) cut G R T Z) (f : Nat) (L : ZLV) (st : List Value) (σ : ZHp) (n k w : Nat) : Z (f + 1) 15 L st σ n k w = s_const (.int (1)) 16 L st σ n k w (zk1 cut G (Z f)) G R T := zrs hZ rfl f L st σ n k w
theorem f_X15_areSame_16 (hZ : ZRN (ztb (tb_X15_areSame E d mc ms)) cut G R T Z) (f : Nat) (L : ZLV) (st : List Value) (σ : ZHp) (n k w : Nat) : Z (f + 1) 16 L st σ n k w = s_goto 20 L st σ n k w (zk1 cut G (Z f)) G R T := zrs hZ rfl f L st σ n k w
theorem f_X15_areSame_19 (hZ : ZRN (ztb (tb_X15_areSame E d mc ms)) cut G R T Z) (f : Nat) (L : ZLV) (st : List Value) (σ : ZHp) (n k w : Nat) : Z (f + 1) 19 L st σ n k w = s_const (.int (0)) 20 L st σ n k w (zk1 cut G (Z f)) G R T := zrs hZ rfl f L st σ n k w
theorem f_X15_areSame_20 (hZ : ZRN (ztb (tb_X15_areSame E d mc ms)) cut G R T Z) (f : Nat) (L : ZLV) (st : List Value) (σ : ZHp) (n k w : Nat) : Z (f + 1) 20 L st σ n k w = s_istore 4 22 L st σ n k w (zk1 cut G (Z f)) G R T := zrs hZ rfl f L st σ n k w
theorem f_X15_areSame_22 (hZ : ZRN (ztb (tb_X15_areSame E d mc ms)) cut G R T Z) (f : Nat) (L : ZLV) (st : List Value) (σ : ZHp) (n k w : Nat) : Z (f + 1) 22 L st σ n k w = s_const (.int (0)) 23 L st σ n k w (zk1 cut G (Z f)) G R T := zrs hZ rfl f L st σ n k w
theorem f_X15_areSame_23 (hZ : ZRN (ztb (tb_X15_areSame E d mc ms)) cut G R T Z) (f : Nat) (L : ZLV) (st : List Value) (σ : ZHp) (n k w : Nat) : Z (f + 1) 23 L st σ n k w = s_istore 5 25 L st σ n k w (zk1 cut G (Z f)) G R T := zrs hZ rfl f L st σ n k w
theorem f_X15_areSame_25 (hZ : ZRN (ztb (tb_X15_areSame E d mc ms)) cut G R T Z) (f : Nat) (L : ZLV) (st : List Value) (σ : ZHp) (n k w : Nat) : Z (f + 1) 25 L st σ n k w = s_iload 4 27 L st σ n k w (zk1 cut G (Z f)) G R T := zrs hZ rfl f L st σ n k w
theorem f_X15_areSame_27 (hZ : ZRN (ztb (tb_X15_areSame E d mc ms)) cut G R T Z) (f : Nat) (L : ZLV) (st : List Value) (σ : ZHp) (n k w : Nat) : Z (f + 1) 27 L st σ n k w = s_if_eq 85 30 L st σ n k w (zk1 cut G (Z f)) G R T := zrs hZ rfl f L st σ n k w
theorem f_X15_areSame_30 (hZ : ZRN (ztb (tb_X15_areSame E d mc ms)) cut G R T Z) (f : Nat) (L : ZLV) (st : List Value) (σ : ZHp) (n k w : Nat) : Z (f + 1) 30 L st σ n k w = s_iload 5 32 L st σ n k w (zk1 cut G (Z f)) G R T := zrs hZ rfl f L st σ n k w
theorem f_X15_areSame_32 (hZ : ZRN (ztb (tb_X15_areSame E d mc ms)) cut G R T Z) (f : Nat) (L : ZLV) (st : List Value) (σ : ZHp) (n k w : Nat) : Z (f + 1) 32 L st σ n k w = s_aload 1 33 L st σ n k w (zk1 cut G (Z f)) G R T := zrs hZ rfl f L st σ n k w
theorem f_X15_areSame_33 (hZ : ZRN (ztb (tb_X15_areSame E d mc ms)) cut G R T Z) (f : Nat) (L : ZLV) (st : List Value) (σ : ZHp) (n k w : Nat) : Z (f + 1) 33 L st σ n k w = s_getf 12 2 36 L st σ n k w (zk1 cut G (Z f)) G R T := zrs hZ rfl f L st σ n k w
theorem f_X15_areSame_36 (hZ : ZRN (ztb (tb_X15_areSame E d mc ms)) cut G R T Z) (f : Nat) (L : ZLV) (st : List Value) (σ : ZHp) (n k w : Nat) : Z (f + 1) 36 L st σ n k w = s_iload 2 37 L st σ n k w (zk1 cut G (Z f)) G R T := zrs hZ rfl f L st σ n k w
theorem f_X15_areSame_37 (hZ : ZRN (ztb (tb_X15_areSame E d mc ms)) cut G R T Z) (f : Nat) (L : ZLV) (st : List Value) (σ : ZHp) (n k w : Nat) : Z (f + 1) 37 L st σ n k w = s_iaload E 38 L st σ n k w (zk1 cut G (Z f)) G R T := zrs hZ rfl f L st σ n k w
theorem f_X15_areSame_38 (hZ : ZRN (ztb (tb_X15_areSame E d mc ms)) cut G R T Z) (f : Nat) (L : ZLV) (st : List Value) (σ : ZHp) (n k w : Nat) : Z (f + 1) 38 L st σ n k w = s_icmp_ge 85 41 L st σ n k w (zk1 cut G (Z f)) G R T := zrs hZ rfl f L st σ n k w
theorem f_X15_areSame_41 (hZ : ZRN (ztb (tb_X15_areSame E d mc ms)) cut G R T Z) (f : Nat) (L : ZLV) (st : List Value) (σ : ZHp) (n k w : Nat) : Z (f + 1) 41 L st σ n k w = s_aload 0 42 L st σ n k w (zk1 cut G (Z f)) G R T := zrs hZ rfl f L st σ n k w
theorem f_X15_areSame_42 (hZ : ZRN (ztb (tb_X15_areSame E d mc ms)) cut G R T Z) (f : Nat) (L : ZLV) (st : List Value) (σ : ZHp) (n k w : Nat) : Z (f + 1) 42 L st σ n k w = s_getf 14 1 45 L st σ n k w (zk1 cut G (Z f)) G R T := zrs hZ rfl f L st σ n k w
theorem f_X15_areSame_45 (hZ : ZRN (ztb (tb_X15_areSame E d mc ms)) cut G R T Z) (f : Nat) (L : ZLV) (st : List Value) (σ : ZHp) (n k w : Nat) : Z (f + 1) 45 L st σ n k w = s_aload 1 46 L st σ n k w (zk1 cut G (Z f)) G R T := zrs hZ rfl f L st σ n k w
theorem f_X15_areSame_46 (hZ : ZRN (ztb (tb_X15_areSame E d mc ms)) cut G R T Z) (f : Nat) (L : ZLV) (st : List Value) (σ : ZHp) (n k w : Nat) : Z (f + 1) 46 L st σ n k w = s_getf 12 1 49 L st σ n k w (zk1 cut G (Z f)) G R T := zrs hZ rfl f L st σ n k w
theorem f_X15_areSame_49 (hZ : ZRN (ztb (tb_X15_areSame E d mc ms)) cut G R T Z) (f : Nat) (L : ZLV) (st : List Value) (σ : ZHp) (n k w : Nat) : Z (f + 1) 49 L st σ n k w = s_iload 2 50 L st σ n k w (zk1 cut G (Z f)) G R T := zrs hZ rfl f L st σ n k w
theorem f_X15_areSame_50 (hZ : ZRN (ztb (tb_X15_areSame E d mc ms)) cut G R T Z) (f : Nat) (L : ZLV) (st : List Value) (σ : ZHp) (n k w : Nat) : Z (f + 1) 50 L st σ n k w = s_iaload E 51 L st σ n k w (zk1 cut G (Z f)) G R T := zrs hZ rfl f L st σ n k w
theorem f_X15_areSame_51 (hZ : ZRN (ztb (tb_X15_areSame E d mc ms)) cut G R T Z) (f : Nat) (L : ZLV) (st : List Value) (σ : ZHp) (n k w : Nat) : Z (f + 1) 51 L st σ n k w = s_iload 5 53 L st σ n k w (zk1 cut G (Z f)) G R T := zrs hZ rfl f L st σ n k w
theorem f_X15_areSame_53 (hZ : ZRN (ztb (tb_X15_areSame E d mc ms)) cut G R T Z) (f : Nat) (L : ZLV) (st : List Value) (σ : ZHp) (n k w : Nat) : Z (f + 1) 53 L st σ n k w = s_iadd 54 L st σ n k w (zk1 cut G (Z f)) G R T := zrs hZ rfl f L st σ n k w
theorem f_X15_areSame_54 (hZ : ZRN (ztb (tb_X15_areSame E d mc ms)) cut G R T Z) (f : Nat) (L : ZLV) (st : List Value) (σ : ZHp) (n k w : Nat) : Z (f + 1) 54 L st σ n k w = s_iaload E 55 L st σ n k w (zk1 cut G (Z f)) G R T := zrs hZ rfl f L st σ n k w
theorem f_X15_areSame_55 (hZ : ZRN (ztb (tb_X15_areSame E d mc ms)) cut G R T Z) (f : Nat) (L : ZLV) (st : List Value) (σ : ZHp) (n k w : Nat) : Z (f + 1) 55 L st σ n k w = s_aload 0 56 L st σ n k w (zk1 cut G (Z f)) G R T := zrs hZ rfl f L st σ n k w
theorem f_X15_areSame_56 (hZ : ZRN (ztb (tb_X15_areSame E d mc ms)) cut G R T Z) (f : Nat) (L : ZLV) (st : List Value) (σ : ZHp) (n k w : Nat) : Z (f + 1) 56 L st σ n k w = s_getf 14 1 59 L st σ n k w (zk1 cut G (Z f)) G R T := zrs hZ rfl f L st σ n k w
theorem f_X15_areSame_59 (hZ : ZRN (ztb (tb_X15_areSame E d mc ms)) cut G R T Z) (f : Nat) (L : ZLV) (st : List Value) (σ : ZHp) (n k w : Nat) : Z (f + 1) 59 L st σ n k w = s_aload 1 60 L st σ n k w (zk1 cut G (Z f)) G R T := zrs hZ rfl f L st σ n k w
theorem f_X15_areSame_60 (hZ : ZRN (ztb (tb_X15_areSame E d mc ms)) cut G R T Z) (f : Nat) (L : ZLV) (st : List Value) (σ : ZHp) (n k w : Nat) : Z (f + 1) 60 L st σ n k w = s_getf 12 1 63 L st σ n k w (zk1 cut G (Z f)) G R T := zrs hZ rfl f L st σ n k w
theorem f_X15_areSame_63 (hZ : ZRN (ztb (tb_X15_areSame E d mc ms)) cut G R T Z) (f : Nat) (L : ZLV) (st : List Value) (σ : ZHp) (n k w : Nat) : Z (f + 1) 63 L st σ n k w = s_iload 3 64 L st σ n k w (zk1 cut G (Z f)) G R T := zrs hZ rfl f L st σ n k w
theorem f_X15_areSame_64 (hZ : ZRN (ztb (tb_X15_areSame E d mc ms)) cut G R T Z) (f : Nat) (L : ZLV) (st : List Value) (σ : ZHp) (n k w : Nat) : Z (f + 1) 64 L st σ n k w = s_iaload E 65 L st σ n k w (zk1 cut G (Z f)) G R T := zrs hZ rfl f L st σ n k w
theorem f_X15_areSame_65 (hZ : ZRN (ztb (tb_X15_areSame E d mc ms)) cut G R T Z) (f : Nat) (L : ZLV) (st : List Value) (σ : ZHp) (n k w : Nat) : Z (f + 1) 65 L st σ n k w = s_iload 5 67 L st σ n k w (zk1 cut G (Z f)) G R T := zrs hZ rfl f L st σ n k w
theorem f_X15_areSame_67 (hZ : ZRN (ztb (tb_X15_areSame E d mc ms)) cut G R T Z) (f : Nat) (L : ZLV) (st : List Value) (σ : ZHp) (n k w : Nat) : Z (f + 1) 67 L st σ n k w = s_iadd 68 L st σ n k w (zk1 cut G (Z f)) G R T := zrs hZ rfl f L st σ n k w
theorem f_X15_areSame_68 (hZ : ZRN (ztb (tb_X15_areSame E d mc ms)) cut G R T Z) (f : Nat) (L : ZLV) (st : List Value) (σ : ZHp) (n k w : Nat) : Z (f + 1) 68 L st σ n k w = s_iaload E 69 L st σ n k w (zk1 cut G (Z f)) G R T := zrs hZ rfl f L st σ n k w
theorem f_X15_areSame_69 (hZ : ZRN (ztb (tb_X15_areSame E d mc ms)) cut G R T Z) (f : Nat) (L : ZLV) (st : List Value) (σ : ZHp) (n k w : Nat) : Z (f + 1) 69 L st σ n k w = s_icmp_ne 76 72 L st σ n k w (zk1 cut G (Z f)) G R T := zrs hZ rfl f L st σ n k w
theorem f_X15_areSame_72 (hZ : ZRN (ztb (tb_X15_areSame E d mc ms)) cut G R T Z) (f : Nat) (L : ZLV) (st : List Value) (σ : ZHp) (n k w : Nat) : Z (f + 1) 72 L st σ n k w = s_const (.int (1)) 73 L st σ n k w (zk1 cut G (Z f)) G R T := zrs hZ rfl f L st σ n k w
theorem f_X15_areSame_73 (hZ : ZRN (ztb (tb_X15_areSame E d mc ms)) cut G R T Z) (f : Nat) (L : ZLV) (st : List Value) (σ : ZHp) (n k w : Nat) : Z (f + 1) 73 L st σ n k w = s_goto 77 L st σ n k w (zk1 cut G (Z f)) G R T := zrs hZ rfl f L st σ n k w
theorem f_X15_areSame_76 (hZ : ZRN (ztb (tb_X15_areSame E d mc ms)) cut G R T Z) (f : Nat) (L : ZLV) (st : List Value) (σ : ZHp) (n k w : Nat) : Z (f + 1) 76 L st σ n k w = s_const (.int (0)) 77 L st σ n k w (zk1 cut G (Z f)) G R T := zrs hZ rfl f L st σ n k w
theorem f_X15_areSame_77 (hZ : ZRN (ztb (tb_X15_areSame E d mc ms)) cut G R T Z) (f : Nat) (L : ZLV) (st : List Value) (σ : ZHp) (n k w : Nat) : Z (f + 1) 77 L st σ n k w = s_istore 4 79 L st σ n k w (zk1 cut G (Z f)) G R T := zrs hZ rfl f L st σ n k w
theorem f_X15_areSame_79 (hZ : ZRN (ztb (tb_X15_areSame E d mc ms)) cut G R T Z) (f : Nat) (L : ZLV) (st : List Value) (σ : ZHp) (n k w : Nat) : Z (f + 1) 79 L st σ n k w = s_iinc 5 (1) 82 L st σ n k w (zk1 cut G (Z f)) G R T := zrs hZ rfl f L st σ n k w
theorem f_X15_areSame_82 (hZ : ZRN (ztb (tb_X15_areSame E d mc ms)) cut G R T Z) (f : Nat) (L : ZLV) (st : List Value) (σ : ZHp) (n k w : Nat) : Z (f + 1) 82 L st σ n k w = s_goto 25 L st σ n k w (zk1 cut G (Z f)) G R T := zrs hZ rfl f L st σ n k w
theorem f_X15_areSame_85 (hZ : ZRN (ztb (tb_X15_areSame E d mc ms)) cut G R T Z) (f : Nat) (L : ZLV) (st : List Value) (σ : ZHp) (n k w : Nat) : Z (f + 1) 85 L st σ n k w = s_iload 4 87 L st σ n k w (zk1 cut G (Z f)) G R T := zrs hZ rfl f L st σ n k w
theorem f_X15_areSame_87 (hZ : ZRN (ztb (tb_X15_areSame E d mc ms)) cut G R T Z) (f : Nat) (L : ZLV) (st : List Value) (σ : ZHp) (n k w : Nat) : Z (f + 1) 87 L st σ n k w = s_zreturn L st σ n k w (zk1 cut G (Z f)) G R T := zrs hZ rfl f L st σ n k w
theorem f_X15_find_0 (hZ : ZRN (ztb (tb_X15_find E d mc ms)) cut G R T Z) (f : Nat) (L : ZLV) (st : List Value) (σ : ZHp) (n k w : Nat) : Z (f + 1) 0 L st σ n k w = s_const (.int (0)) 1 L st σ n k w (zk1 cut G (Z f)) G R T := zrs hZ rfl f L st σ n k w
theorem f_X15_find_1 (hZ : ZRN (ztb (tb_X15_find E d mc ms)) cut G R T Z) (f : Nat) (L : ZLV) (st : List Value) (σ : ZHp) (n k w : Nat) : Z (f + 1) 1 L st σ n k w = s_istore 5 3 L st σ n k w (zk1 cut G (Z f)) G R T := zrs hZ rfl f L st σ n k w
theorem f_X15_find_3 (hZ : ZRN (ztb (tb_X15_find E d mc ms)) cut G R T Z) (f : Nat) (L : ZLV) (st : List Value) (σ : ZHp) (n k w : Nat) : Z (f + 1) 3 L st σ n k w = s_iload 5 5 L st σ n k w (zk1 cut G (Z f)) G R T := zrs hZ rfl f L st σ n k w
theorem f_X15_find_5 (hZ : ZRN (ztb (tb_X15_find E d mc ms)) cut G R T Z) (f : Nat) (L : ZLV) (st : List Value) (σ : ZHp) (n k w : Nat) : Z (f + 1) 5 L st σ n k w = s_iload 3 6 L st σ n k w (zk1 cut G (Z f)) G R T := zrs hZ rfl f L st σ n k w
theorem f_X15_find_6 (hZ : ZRN (ztb (tb_X15_find E d mc ms)) cut G R T Z) (f : Nat) (L : ZLV) (st : List Value) (σ : ZHp) (n k w : Nat) : Z (f + 1) 6 L st σ n k w = s_icmp_ge 32 9 L st σ n k w (zk1 cut G (Z f)) G R T := zrs hZ rfl f L st σ n k w
theorem f_X15_find_9 (hZ : ZRN (ztb (tb_X15_find E d mc ms)) cut G R T Z) (f : Nat) (L : ZLV) (st : List Value) (σ : ZHp) (n k w : Nat) : Z (f + 1) 9 L st σ n k w = s_aload 0 10 L st σ n k w (zk1 cut G (Z f)) G R T := zrs hZ rfl f L st σ n k w
theorem f_X15_find_10 (hZ : ZRN (ztb (tb_X15_find E d mc ms)) cut G R T Z) (f : Nat) (L : ZLV) (st : List Value) (σ : ZHp) (n k w : Nat) : Z (f + 1) 10 L st σ n k w = s_aload 1 11 L st σ n k w (zk1 cut G (Z f)) G R T := zrs hZ rfl f L st σ n k w
theorem f_X15_find_11 (hZ : ZRN (ztb (tb_X15_find E d mc ms)) cut G R T Z) (f : Nat) (L : ZLV) (st : List Value) (σ : ZHp) (n k w : Nat) : Z (f + 1) 11 L st σ n k w = s_aload 2 12 L st σ n k w (zk1 cut G (Z f)) G R T := zrs hZ rfl f L st σ n k w
theorem f_X15_find_12 (hZ : ZRN (ztb (tb_X15_find E d mc ms)) cut G R T Z) (f : Nat) (L : ZLV) (st : List Value) (σ : ZHp) (n k w : Nat) : Z (f + 1) 12 L st σ n k w = s_iload 5 14 L st σ n k w (zk1 cut G (Z f)) G R T := zrs hZ rfl f L st σ n k w
theorem f_X15_find_14 (hZ : ZRN (ztb (tb_X15_find E d mc ms)) cut G R T Z) (f : Nat) (L : ZLV) (st : List Value) (σ : ZHp) (n k w : Nat) : Z (f + 1) 14 L st σ n k w = s_iaload E 15 L st σ n k w (zk1 cut G (Z f)) G R T := zrs hZ rfl f L st σ n k w
theorem f_X15_find_15 (hZ : ZRN (ztb (tb_X15_find E d mc ms)) cut G R T Z) (f : Nat) (L : ZLV) (st : List Value) (σ : ZHp) (n k w : Nat) : Z (f + 1) 15 L st σ n k w = s_iload 4 17 L st σ n k w (zk1 cut G (Z f)) G R T := zrs hZ rfl f L st σ n k w
theorem f_X15_find_17 (hZ : ZRN (ztb (tb_X15_find E d mc ms)) cut G R T Z) (f : Nat) (L : ZLV) (st : List Value) (σ : ZHp) (n k w : Nat) : Z (f + 1) 17 L st σ n k w = s_callV E d mc ms 14 MX15_areSame 3 20 L st σ n k w (zk1 cut G (Z f)) G R T := zrs hZ rfl f L st σ n k w
theorem f_X15_find_20 (hZ : ZRN (ztb (tb_X15_find E d mc ms)) cut G R T Z) (f : Nat) (L : ZLV) (st : List Value) (σ : ZHp) (n k w : Nat) : Z (f + 1) 20 L st σ n k w = s_if_eq 26 23 L st σ n k w (zk1 cut G (Z f)) G R T := zrs hZ rfl f L st σ n k w
theorem f_X15_find_23 (hZ : ZRN (ztb (tb_X15_find E d mc ms)) cut G R T Z) (f : Nat) (L : ZLV) (st : List Value) (σ : ZHp) (n k w : Nat) : Z (f + 1) 23 L st σ n k w = s_iload 5 25 L st σ n k w (zk1 cut G (Z f)) G R T := zrs hZ rfl f L st σ n k w
theorem f_X15_find_25 (hZ : ZRN (ztb (tb_X15_find E d mc ms)) cut G R T Z) (f : Nat) (L : ZLV) (st : List Value) (σ : ZHp) (n k w : Nat) : Z (f + 1) 25 L st σ n k w = s_ireturn L st σ n k w (zk1 cut G (Z f)) G R T := zrs hZ rfl f L st σ n k w
theorem f_X15_find_26 (hZ : ZRN (ztb (tb_X15_find E d mc ms)) cut G R T Z) (f : Nat) (L : ZLV) (st : List Value) (σ : ZHp) (n k w : Nat) : Z (f + 1) 26 L st σ n k w = s_iinc 5 (1) 29 L st σ n k w (zk1 cut G (Z f)) G R T := zrs hZ rfl f L st σ n k w
theorem f_X15_find_29 (hZ : ZRN (ztb (tb_X15_find E d mc ms)) cut G R T Z) (f : Nat) (L : ZLV) (st : List Value) (σ : ZHp) (n k w : Nat) : Z (f + 1) 29 L st σ n k w = s_goto 3 L st σ n k w (zk1 cut G (Z f)) G R T := zrs hZ rfl f L st σ n k w
theorem f_X15_find_32 (hZ : ZRN (ztb (tb_X15_find E d mc ms)) cut G R T Z) (f : Nat) (L : ZLV) (st : List Value) (σ : ZHp) (n k w : Nat) : Z (f + 1) 32 L st σ n k w = s_const (.int (-1)) 33 L st σ n k w (zk1 cut G (Z f)) G R T := zrs hZ rfl f L st σ n k w
theorem f_X15_find_33 (hZ : ZRN (ztb (tb_X15_find E d mc ms)) cut G R T Z) (f : Nat) (L : ZLV) (st : List Value) (σ : ZHp) (n k w : Nat) : Z (f + 1) 33 L st σ n k w = s_ireturn L st σ n k w (zk1 cut G (Z f)) G R T := zrs hZ rfl f L st σ n k w
theorem f_X15_errorOfCard_0 (hZ : ZRN (ztb (tb_X15_errorOfCard E d mc ms)) cut G R T Z) (f : Nat) (L : ZLV) (st : List Value) (σ : ZHp) (n k w : Nat) : Z (f + 1) 0 L st σ n k w = s_aload 0 1 L st σ n k w (zk1 cut G (Z f)) G R T := zrs hZ rfl f L st σ n k w
theorem f_X15_errorOfCard_1 (hZ : ZRN (ztb (tb_X15_errorOfCard E d mc ms)) cut G R T Z) (f : Nat) (L : ZLV) (st : List Value) (σ : ZHp) (n k w : Nat) : Z (f + 1) 1 L st σ n k w = s_aload 1 2 L st σ n k w (zk1 cut G (Z f)) G R T := zrs hZ rfl f L st σ n k w
theorem f_X15_errorOfCard_2 (hZ : ZRN (ztb (tb_X15_errorOfCard E d mc ms)) cut G R T Z) (f : Nat) (L : ZLV) (st : List Value) (σ : ZHp) (n k w : Nat) : Z (f + 1) 2 L st σ n k w = s_aload 1 3 L st σ n k w (zk1 cut G (Z f)) G R T := zrs hZ rfl f L st σ n k w
theorem f_X15_errorOfCard_3 (hZ : ZRN (ztb (tb_X15_errorOfCard E d mc ms)) cut G R T Z) (f : Nat) (L : ZLV) (st : List Value) (σ : ZHp) (n k w : Nat) : Z (f + 1) 3 L st σ n k w = s_getf 12 6 6 L st σ n k w (zk1 cut G (Z f)) G R T := zrs hZ rfl f L st σ n k w
theorem f_X15_errorOfCard_6 (hZ : ZRN (ztb (tb_X15_errorOfCard E d mc ms)) cut G R T Z) (f : Nat) (L : ZLV) (st : List Value) (σ : ZHp) (n k w : Nat) : Z (f + 1) 6 L st σ n k w = s_aload 1 7 L st σ n k w (zk1 cut G (Z f)) G R T := zrs hZ rfl f L st σ n k w
theorem f_X15_errorOfCard_7 (hZ : ZRN (ztb (tb_X15_errorOfCard E d mc ms)) cut G R T Z) (f : Nat) (L : ZLV) (st : List Value) (σ : ZHp) (n k w : Nat) : Z (f + 1) 7 L st σ n k w = s_getf 12 5 10 L st σ n k w (zk1 cut G (Z f)) G R T := zrs hZ rfl f L st σ n k w
theorem f_X15_errorOfCard_10 (hZ : ZRN (ztb (tb_X15_errorOfCard E d mc ms)) cut G R T Z) (f : Nat) (L : ZLV) (st : List Value) (σ : ZHp) (n k w : Nat) : Z (f + 1) 10 L st σ n k w = s_iload 2 11 L st σ n k w (zk1 cut G (Z f)) G R T := zrs hZ rfl f L st σ n k w
theorem f_X15_errorOfCard_11 (hZ : ZRN (ztb (tb_X15_errorOfCard E d mc ms)) cut G R T Z) (f : Nat) (L : ZLV) (st : List Value) (σ : ZHp) (n k w : Nat) : Z (f + 1) 11 L st σ n k w = s_callV E d mc ms 14 MX15_find 4 14 L st σ n k w (zk1 cut G (Z f)) G R T := zrs hZ rfl f L st σ n k w
theorem f_X15_errorOfCard_14 (hZ : ZRN (ztb (tb_X15_errorOfCard E d mc ms)) cut G R T Z) (f : Nat) (L : ZLV) (st : List Value) (σ : ZHp) (n k w : Nat) : Z (f + 1) 14 L st σ n k w = s_const (.int (-1)) 15 L st σ n k w (zk1 cut G (Z f)) G R T := zrs hZ rfl f L st σ n k w
theorem f_X15_errorOfCard_15 (hZ : ZRN (ztb (tb_X15_errorOfCard E d mc ms)) cut G R T Z) (f : Nat) (L : ZLV) (st : List Value) (σ : ZHp) (n k w : Nat) : Z (f + 1) 15 L st σ n k w = s_icmp_eq 20 18 L st σ n k w (zk1 cut G (Z f)) G R T := zrs hZ rfl f L st σ n k w
theorem f_X15_errorOfCard_18 (hZ : ZRN (ztb (tb_X15_errorOfCard E d mc ms)) cut G R T Z) (f : Nat) (L : ZLV) (st : List Value) (σ : ZHp) (n k w : Nat) : Z (f + 1) 18 L st σ n k w = s_const (.int (2)) 19 L st σ n k w (zk1 cut G (Z f)) G R T := zrs hZ rfl f L st σ n k w
theorem f_X15_errorOfCard_19 (hZ : ZRN (ztb (tb_X15_errorOfCard E d mc ms)) cut G R T Z) (f : Nat) (L : ZLV) (st : List Value) (σ : ZHp) (n k w : Nat) : Z (f + 1) 19 L st σ n k w = s_ireturn L st σ n k w (zk1 cut G (Z f)) G R T := zrs hZ rfl f L st σ n k w
theorem f_X15_errorOfCard_20 (hZ : ZRN (ztb (tb_X15_errorOfCard E d mc ms)) cut G R T Z) (f : Nat) (L : ZLV) (st : List Value) (σ : ZHp) (n k w : Nat) : Z (f + 1) 20 L st σ n k w = s_aload 1 21 L st σ n k w (zk1 cut G (Z f)) G R T := zrs hZ rfl f L st σ n k w
theorem f_X15_errorOfCard_21 (hZ : ZRN (ztb (tb_X15_errorOfCard E d mc ms)) cut G R T Z) (f : Nat) (L : ZLV) (st : List Value) (σ : ZHp) (n k w : Nat) : Z (f + 1) 21 L st σ n k w = s_getf 12 5 24 L st σ n k w (zk1 cut G (Z f)) G R T := zrs hZ rfl f L st σ n k w
theorem f_X15_errorOfCard_24 (hZ : ZRN (ztb (tb_X15_errorOfCard E d mc ms)) cut G R T Z) (f : Nat) (L : ZLV) (st : List Value) (σ : ZHp) (n k w : Nat) : Z (f + 1) 24 L st σ n k w = s_const (.int (10)) 26 L st σ n k w (zk1 cut G (Z f)) G R T := zrs hZ rfl f L st σ n k w
theorem f_X15_errorOfCard_26 (hZ : ZRN (ztb (tb_X15_errorOfCard E d mc ms)) cut G R T Z) (f : Nat) (L : ZLV) (st : List Value) (σ : ZHp) (n k w : Nat) : Z (f + 1) 26 L st σ n k w = s_icmp_ne 31 29 L st σ n k w (zk1 cut G (Z f)) G R T := zrs hZ rfl f L st σ n k w
theorem f_X15_errorOfCard_29 (hZ : ZRN (ztb (tb_X15_errorOfCard E d mc ms)) cut G R T Z) (f : Nat) (L : ZLV) (st : List Value) (σ : ZHp) (n k w : Nat) : Z (f + 1) 29 L st σ n k w = s_const (.int (4)) 30 L st σ n k w (zk1 cut G (Z f)) G R T := zrs hZ rfl f L st σ n k w
theorem f_X15_errorOfCard_30 (hZ : ZRN (ztb (tb_X15_errorOfCard E d mc ms)) cut G R T Z) (f : Nat) (L : ZLV) (st : List Value) (σ : ZHp) (n k w : Nat) : Z (f + 1) 30 L st σ n k w = s_ireturn L st σ n k w (zk1 cut G (Z f)) G R T := zrs hZ rfl f L st σ n k w
theorem f_X15_errorOfCard_31 (hZ : ZRN (ztb (tb_X15_errorOfCard E d mc ms)) cut G R T Z) (f : Nat) (L : ZLV) (st : List Value) (σ : ZHp) (n k w : Nat) : Z (f + 1) 31 L st σ n k w = s_aload 1 32 L st σ n k w (zk1 cut G (Z f)) G R T := zrs hZ rfl f L st σ n k w
theorem f_X15_errorOfCard_32 (hZ : ZRN (ztb (tb_X15_errorOfCard E d mc ms)) cut G R T Z) (f : Nat) (L : ZLV) (st : List Value) (σ : ZHp) (n k w : Nat) : Z (f + 1) 32 L st σ n k w = s_getf 12 6 35 L st σ n k w (zk1 cut G (Z f)) G R T := zrs hZ rfl f L st σ n k w
theorem f_X15_errorOfCard_35 (hZ : ZRN (ztb (tb_X15_errorOfCard E d mc ms)) cut G R T Z) (f : Nat) (L : ZLV) (st : List Value) (σ : ZHp) (n k w : Nat) : Z (f + 1) 35 L st σ n k w = s_aload 1 36 L st σ n k w (zk1 cut G (Z f)) G R T := zrs hZ rfl f L st σ n k w
theorem f_X15_errorOfCard_36 (hZ : ZRN (ztb (tb_X15_errorOfCard E d mc ms)) cut G R T Z) (f : Nat) (L : ZLV) (st : List Value) (σ : ZHp) (n k w : Nat) : Z (f + 1) 36 L st σ n k w = s_getf 12 5 39 L st σ n k w (zk1 cut G (Z f)) G R T := zrs hZ rfl f L st σ n k w
theorem f_X15_errorOfCard_39 (hZ : ZRN (ztb (tb_X15_errorOfCard E d mc ms)) cut G R T Z) (f : Nat) (L : ZLV) (st : List Value) (σ : ZHp) (n k w : Nat) : Z (f + 1) 39 L st σ n k w = s_iload 2 40 L st σ n k w (zk1 cut G (Z f)) G R T := zrs hZ rfl f L st σ n k w
theorem f_X15_errorOfCard_40 (hZ : ZRN (ztb (tb_X15_errorOfCard E d mc ms)) cut G R T Z) (f : Nat) (L : ZLV) (st : List Value) (σ : ZHp) (n k w : Nat) : Z (f + 1) 40 L st σ n k w = s_iastore E 41 L st σ n k w (zk1 cut G (Z f)) G R T := zrs hZ rfl f L st σ n k w
theorem f_X15_errorOfCard_41 (hZ : ZRN (ztb (tb_X15_errorOfCard E d mc ms)) cut G R T Z) (f : Nat) (L : ZLV) (st : List Value) (σ : ZHp) (n k w : Nat) : Z (f + 1) 41 L st σ n k w = s_aload 1 42 L st σ n k w (zk1 cut G (Z f)) G R T := zrs hZ rfl f L st σ n k w
theorem f_X15_errorOfCard_42 (hZ : ZRN (ztb (tb_X15_errorOfCard E d mc ms)) cut G R T Z) (f : Nat) (L : ZLV) (st : List Value) (σ : ZHp) (n k w : Nat) : Z (f + 1) 42 L st σ n k w = s_dup 43 L st σ n k w (zk1 cut G (Z f)) G R T := zrs hZ rfl f L st σ n k w
theorem f_X15_errorOfCard_43 (hZ : ZRN (ztb (tb_X15_errorOfCard E d mc ms)) cut G R T Z) (f : Nat) (L : ZLV) (st : List Value) (σ : ZHp) (n k w : Nat) : Z (f + 1) 43 L st σ n k w = s_getf 12 5 46 L st σ n k w (zk1 cut G (Z f)) G R T := zrs hZ rfl f L st σ n k w
theorem f_X15_errorOfCard_46 (hZ : ZRN (ztb (tb_X15_errorOfCard E d mc ms)) cut G R T Z) (f : Nat) (L : ZLV) (st : List Value) (σ : ZHp) (n k w : Nat) : Z (f + 1) 46 L st σ n k w = s_const (.int (1)) 47 L st σ n k w (zk1 cut G (Z f)) G R T := zrs hZ rfl f L st σ n k w
theorem f_X15_errorOfCard_47 (hZ : ZRN (ztb (tb_X15_errorOfCard E d mc ms)) cut G R T Z) (f : Nat) (L : ZLV) (st : List Value) (σ : ZHp) (n k w : Nat) : Z (f + 1) 47 L st σ n k w = s_iadd 48 L st σ n k w (zk1 cut G (Z f)) G R T := zrs hZ rfl f L st σ n k w
theorem f_X15_errorOfCard_48 (hZ : ZRN (ztb (tb_X15_errorOfCard E d mc ms)) cut G R T Z) (f : Nat) (L : ZLV) (st : List Value) (σ : ZHp) (n k w : Nat) : Z (f + 1) 48 L st σ n k w = s_putf 12 5 0 51 L st σ n k w (zk1 cut G (Z f)) G R T := zrs hZ rfl f L st σ n k w
theorem f_X15_errorOfCard_51 (hZ : ZRN (ztb (tb_X15_errorOfCard E d mc ms)) cut G R T Z) (f : Nat) (L : ZLV) (st : List Value) (σ : ZHp) (n k w : Nat) : Z (f + 1) 51 L st σ n k w = s_const (.int (0)) 52 L st σ n k w (zk1 cut G (Z f)) G R T := zrs hZ rfl f L st σ n k w
theorem f_X15_errorOfCard_52 (hZ : ZRN (ztb (tb_X15_errorOfCard E d mc ms)) cut G R T Z) (f : Nat) (L : ZLV) (st : List Value) (σ : ZHp) (n k w : Nat) : Z (f + 1) 52 L st σ n k w = s_ireturn L st σ n k w (zk1 cut G (Z f)) G R T := zrs hZ rfl f L st σ n k w
theorem f_X15_errorOfMerchant_0 (hZ : ZRN (ztb (tb_X15_errorOfMerchant E d mc ms)) cut G R T Z) (f : Nat) (L : ZLV) (st : List Value) (σ : ZHp) (n k w : Nat) : Z (f + 1) 0 L st σ n k w = s_aload 0 1 L st σ n k w (zk1 cut G (Z f)) G R T := zrs hZ rfl f L st σ n k w
theorem f_X15_errorOfMerchant_1 (hZ : ZRN (ztb (tb_X15_errorOfMerchant E d mc ms)) cut G R T Z) (f : Nat) (L : ZLV) (st : List Value) (σ : ZHp) (n k w : Nat) : Z (f + 1) 1 L st σ n k w = s_aload 1 2 L st σ n k w (zk1 cut G (Z f)) G R T := zrs hZ rfl f L st σ n k w
theorem f_X15_errorOfMerchant_2 (hZ : ZRN (ztb (tb_X15_errorOfMerchant E d mc ms)) cut G R T Z) (f : Nat) (L : ZLV) (st : List Value) (σ : ZHp) (n k w : Nat) : Z (f + 1) 2 L st σ n k w = s_aload 1 3 L st σ n k w (zk1 cut G (Z f)) G R T := zrs hZ rfl f L st σ n k w
theorem f_X15_errorOfMerchant_3 (hZ : ZRN (ztb (tb_X15_errorOfMerchant E d mc ms)) cut G R T Z) (f : Nat) (L : ZLV) (st : List Value) (σ : ZHp) (n k w : Nat) : Z (f + 1) 3 L st σ n k w = s_getf 12 13 6 L st σ n k w (zk1 cut G (Z f)) G R T := zrs hZ rfl f L st σ n k w
theorem f_X15_errorOfMerchant_6 (hZ : ZRN (ztb (tb_X15_errorOfMerchant E d mc ms)) cut G R T Z) (f : Nat) (L : ZLV) (st : List Value) (σ : ZHp) (n k w : Nat) : Z (f + 1) 6 L st σ n k w = s_aload 1 7 L st σ n k w (zk1 cut G (Z f)) G R T := zrs hZ rfl f L st σ n k w
theorem f_X15_errorOfMerchant_7 (hZ : ZRN (ztb (tb_X15_errorOfMerchant E d mc ms)) cut G R T Z) (f : Nat) (L : ZLV) (st : List Value) (σ : ZHp) (n k w : Nat) : Z (f + 1) 7 L st σ n k w = s_getf 12 12 10 L st σ n k w (zk1 cut G (Z f)) G R T := zrs hZ rfl f L st σ n k w
theorem f_X15_errorOfMerchant_10 (hZ : ZRN (ztb (tb_X15_errorOfMerchant E d mc ms)) cut G R T Z) (f : Nat) (L : ZLV) (st : List Value) (σ : ZHp) (n k w : Nat) : Z (f + 1) 10 L st σ n k w = s_iload 2 11 L st σ n k w (zk1 cut G (Z f)) G R T := zrs hZ rfl f L st σ n k w
theorem f_X15_errorOfMerchant_11 (hZ : ZRN (ztb (tb_X15_errorOfMerchant E d mc ms)) cut G R T Z) (f : Nat) (L : ZLV) (st : List Value) (σ : ZHp) (n k w : Nat) : Z (f + 1) 11 L st σ n k w = s_callV E d mc ms 14 MX15_find 4 14 L st σ n k w (zk1 cut G (Z f)) G R T := zrs hZ rfl f L st σ n k w
theorem f_X15_errorOfMerchant_14 (hZ : ZRN (ztb (tb_X15_errorOfMerchant E d mc ms)) cut G R T Z) (f : Nat) (L : ZLV) (st : List Value) (σ : ZHp) (n k w : Nat) : Z (f + 1) 14 L st σ n k w = s_const (.int (-1)) 15 L st σ n k w (zk1 cut G (Z f)) G R T := zrs hZ rfl f L st σ n k w
theorem f_X15_errorOfMerchant_15 (hZ : ZRN (ztb (tb_X15_errorOfMerchant E d mc ms)) cut G R T Z) (f : Nat) (L : ZLV) (st : List Value) (σ : ZHp) (n k w : Nat) : Z (f + 1) 15 L st σ n k w = s_icmp_eq 20 18 L st σ n k w (zk1 cut G (Z f)) G R T := zrs hZ rfl f L st σ n k w
theorem f_X15_errorOfMerchant_18 (hZ : ZRN (ztb (tb_X15_errorOfMerchant E d mc ms)) cut G R T Z) (f : Nat) (L : ZLV) (st : List Value) (σ : ZHp) (n k w : Nat) : Z (f + 1) 18 L st σ n k w = s_const (.int (2)) 19 L st σ n k w (zk1 cut G (Z f)) G R T := zrs hZ rfl f L st σ n k w
theorem f_X15_errorOfMerchant_19 (hZ : ZRN (ztb (tb_X15_errorOfMerchant E d mc ms)) cut G R T Z) (f : Nat) (L : ZLV) (st : List Value) (σ : ZHp) (n k w : Nat) : Z (f + 1) 19 L st σ n k w = s_ireturn L st σ n k w (zk1 cut G (Z f)) G R T := zrs hZ rfl f L st σ n k w
theorem f_X15_errorOfMerchant_20 (hZ : ZRN (ztb (tb_X15_errorOfMerchant E d mc ms)) cut G R T Z) (f : Nat) (L : ZLV) (st : List Value) (σ : ZHp) (n k w : Nat) : Z (f + 1) 20 L st σ n k w = s_aload 1 21 L st σ n k w (zk1 cut G (Z f)) G R T := zrs hZ rfl f L st σ n k w
theorem f_X15_errorOfMerchant_21 (hZ : ZRN (ztb (tb_X15_errorOfMerchant E d mc ms)) cut G R T Z) (f : Nat) (L : ZLV) (st : List Value) (σ : ZHp) (n k w : Nat) : Z (f + 1) 21 L st σ n k w = s_getf 12 12 24 L st σ n k w (zk1 cut G (Z f)) G R T := zrs hZ rfl f L st σ n k w
theorem f_X15_errorOfMerchant_24 (hZ : ZRN (ztb (tb_X15_errorOfMerchant E d mc ms)) cut G R T Z) (f : Nat) (L : ZLV) (st : List Value) (σ : ZHp) (n k w : Nat) : Z (f + 1) 24 L st σ n k w = s_const (.int (4)) 25 L st σ n k w (zk1 cut G (Z f)) G R T := zrs hZ rfl f L st σ n k w
theorem f_X15_errorOfMerchant_25 (hZ : ZRN (ztb (tb_X15_errorOfMerchant E d mc ms)) cut G R T Z) (f : Nat) (L : ZLV) (st : List Value) (σ : ZHp) (n k w : Nat) : Z (f + 1) 25 L st σ n k w = s_icmp_ne 30 28 L st σ n k w (zk1 cut G (Z f)) G R T := zrs hZ rfl f L st σ n k w
theorem f_X15_errorOfMerchant_28 (hZ : ZRN (ztb (tb_X15_errorOfMerchant E d mc ms)) cut G R T Z) (f : Nat) (L : ZLV) (st : List Value) (σ : ZHp) (n k w : Nat) : Z (f + 1) 28 L st σ n k w = s_const (.int (4)) 29 L st σ n k w (zk1 cut G (Z f)) G R T := zrs hZ rfl f L st σ n k w
theorem f_X15_errorOfMerchant_29 (hZ : ZRN (ztb (tb_X15_errorOfMerchant E d mc ms)) cut G R T Z) (f : Nat) (L : ZLV) (st : List Value) (σ : ZHp) (n k w : Nat) : Z (f + 1) 29 L st σ n k w = s_ireturn L st σ n k w (zk1 cut G (Z f)) G R T := zrs hZ rfl f L st σ n k w
theorem f_X15_errorOfMerchant_30 (hZ : ZRN (ztb (tb_X15_errorOfMerchant E d mc ms)) cut G R T Z) (f : Nat) (L : ZLV) (st : List Value) (σ : ZHp) (n k w : Nat) : Z (f + 1) 30 L st σ n k w = s_aload 1 31 L st σ n k w (zk1 cut G (Z f)) G R T := zrs hZ rfl f L st σ n k w
theorem f_X15_errorOfMerchant_31 (hZ : ZRN (ztb (tb_X15_errorOfMerchant E d mc ms)) cut G R T Z) (f : Nat) (L : ZLV) (st : List Value) (σ : ZHp) (n k w : Nat) : Z (f + 1) 31 L st σ n k w = s_getf 12 13 34 L st σ n k w (zk1 cut G (Z f)) G R T := zrs hZ rfl f L st σ n k w
theorem f_X15_errorOfMerchant_34 (hZ : ZRN (ztb (tb_X15_errorOfMerchant E d mc ms)) cut G R T Z) (f : Nat) (L : ZLV) (st : List Value) (σ : ZHp) (n k w : Nat) : Z (f + 1) 34 L st σ n k w = s_aload 1 35 L st σ n k w (zk1 cut G (Z f)) G R T := zrs hZ rfl f L st σ n k w
theorem f_X15_errorOfMerchant_35 (hZ : ZRN (ztb (tb_X15_errorOfMerchant E d mc ms)) cut G R T Z) (f : Nat) (L : ZLV) (st : List Value) (σ : ZHp) (n k w : Nat) : Z (f + 1) 35 L st σ n k w = s_getf 12 12 38 L st σ n k w (zk1 cut G (Z f)) G R T := zrs hZ rfl f L st σ n k w
theorem f_X15_errorOfMerchant_38 (hZ : ZRN (ztb (tb_X15_errorOfMerchant E d mc ms)) cut G R T Z) (f : Nat) (L : ZLV) (st : List Value) (σ : ZHp) (n k w : Nat) : Z (f + 1) 38 L st σ n k w = s_iload 2 39 L st σ n k w (zk1 cut G (Z f)) G R T := zrs hZ rfl f L st σ n k w
theorem f_X15_errorOfMerchant_39 (hZ : ZRN (ztb (tb_X15_errorOfMerchant E d mc ms)) cut G R T Z) (f : Nat) (L : ZLV) (st : List Value) (σ : ZHp) (n k w : Nat) : Z (f + 1) 39 L st σ n k w = s_iastore E 40 L st σ n k w (zk1 cut G (Z f)) G R T := zrs hZ rfl f L st σ n k w
theorem f_X15_errorOfMerchant_40 (hZ : ZRN (ztb (tb_X15_errorOfMerchant E d mc ms)) cut G R T Z) (f : Nat) (L : ZLV) (st : List Value) (σ : ZHp) (n k w : Nat) : Z (f + 1) 40 L st σ n k w = s_aload 1 41 L st σ n k w (zk1 cut G (Z f)) G R T := zrs hZ rfl f L st σ n k w
theorem f_X15_errorOfMerchant_41 (hZ : ZRN (ztb (tb_X15_errorOfMerchant E d mc ms)) cut G R T Z) (f : Nat) (L : ZLV) (st : List Value) (σ : ZHp) (n k w : Nat) : Z (f + 1) 41 L st σ n k w = s_dup 42 L st σ n k w (zk1 cut G (Z f)) G R T := zrs hZ rfl f L st σ n k w
theorem f_X15_errorOfMerchant_42 (hZ : ZRN (ztb (tb_X15_errorOfMerchant E d mc ms)) cut G R T Z) (f : Nat) (L : ZLV) (st : List Value) (σ : ZHp) (n k w : Nat) : Z (f + 1) 42 L st σ n k w = s_getf 12 12 45 L st σ n k w (zk1 cut G (Z f)) G R T := zrs hZ rfl f L st σ n k w
theorem f_X15_errorOfMerchant_45 (hZ : ZRN (ztb (tb_X15_errorOfMerchant E d mc ms)) cut G R T Z) (f : Nat) (L : ZLV) (st : List Value) (σ : ZHp) (n k w : Nat) : Z (f + 1) 45 L st σ n k w = s_const (.int (1)) 46 L st σ n k w (zk1 cut G (Z f)) G R T := zrs hZ rfl f L st σ n k w
theorem f_X15_errorOfMerchant_46 (hZ : ZRN (ztb (tb_X15_errorOfMerchant E d mc ms)) cut G R T Z) (f : Nat) (L : ZLV) (st : List Value) (σ : ZHp) (n k w : Nat) : Z (f + 1) 46 L st σ n k w = s_iadd 47 L st σ n k w (zk1 cut G (Z f)) G R T := zrs hZ rfl f L st σ n k w
theorem f_X15_errorOfMerchant_47 (hZ : ZRN (ztb (tb_X15_errorOfMerchant E d mc ms)) cut G R T Z) (f : Nat) (L : ZLV) (st : List Value) (σ : ZHp) (n k w : Nat) : Z (f + 1) 47 L st σ n k w = s_putf 12 12 0 50 L st σ n k w (zk1 cut G (Z f)) G R T := zrs hZ rfl f L st σ n k w
theorem f_X15_errorOfMerchant_50 (hZ : ZRN (ztb (tb_X15_errorOfMerchant E d mc ms)) cut G R T Z) (f : Nat) (L : ZLV) (st : List Value) (σ : ZHp) (n k w : Nat) : Z (f + 1) 50 L st σ n k w = s_const (.int (0)) 51 L st σ n k w (zk1 cut G (Z f)) G R T := zrs hZ rfl f L st σ n k w
theorem f_X15_errorOfMerchant_51 (hZ : ZRN (ztb (tb_X15_errorOfMerchant E d mc ms)) cut G R T Z) (f : Nat) (L : ZLV) (st : List Value) (σ : ZHp) (n k w : Nat) : Z (f + 1) 51 L st σ n k w = s_ireturn L st σ n k w (zk1 cut G (Z f)) G R T := zrs hZ rfl f L st σ n k w
theorem f_X15_endStock_0 (hZ : ZRN (ztb (tb_X15_endStock E d mc ms)) cut G R T Z) (f : Nat) (L : ZLV) (st : List Value) (σ : ZHp) (n k w : Nat) : Z (f + 1) 0 L st σ n k w = s_aload 1 1 L st σ n k w (zk1 cut G (Z f)) G R T := zrs hZ rfl f L st σ n k w
theorem f_X15_endStock_1 (hZ : ZRN (ztb (tb_X15_endStock E d mc ms)) cut G R T Z) (f : Nat) (L : ZLV) (st : List Value) (σ : ZHp) (n k w : Nat) : Z (f + 1) 1 L st σ n k w = s_getf 12 3 4 L st σ n k w (zk1 cut G (Z f)) G R T := zrs hZ rfl f L st σ n k w
theorem f_X15_endStock_4 (hZ : ZRN (ztb (tb_X15_endStock E d mc ms)) cut G R T Z) (f : Nat) (L : ZLV) (st : List Value) (σ : ZHp) (n k w : Nat) : Z (f + 1) 4 L st σ n k w = s_iload 2 5 L st σ n k w (zk1 cut G (Z f)) G R T := zrs hZ rfl f L st σ n k w
theorem f_X15_endStock_5 (hZ : ZRN (ztb (tb_X15_endStock E d mc ms)) cut G R T Z) (f : Nat) (L : ZLV) (st : List Value) (σ : ZHp) (n k w : Nat) : Z (f + 1) 5 L st σ n k w = s_iaload E 6 L st σ n k w (zk1 cut G (Z f)) G R T := zrs hZ rfl f L st σ n k w
theorem f_X15_endStock_6 (hZ : ZRN (ztb (tb_X15_endStock E d mc ms)) cut G R T Z) (f : Nat) (L : ZLV) (st : List Value) (σ : ZHp) (n k w : Nat) : Z (f + 1) 6 L st σ n k w = s_istore 3 7 L st σ n k w (zk1 cut G (Z f)) G R T := zrs hZ rfl f L st σ n k w
theorem f_X15_endStock_7 (hZ : ZRN (ztb (tb_X15_endStock E d mc ms)) cut G R T Z) (f : Nat) (L : ZLV) (st : List Value) (σ : ZHp) (n k w : Nat) : Z (f + 1) 7 L st σ n k w = s_aload 1 8 L st σ n k w (zk1 cut G (Z f)) G R T := zrs hZ rfl f L st σ n k w
theorem f_X15_endStock_8 (hZ : ZRN (ztb (tb_X15_endStock E d mc ms)) cut G R T Z) (f : Nat) (L : ZLV) (st : List Value) (σ : ZHp) (n k w : Nat) : Z (f + 1) 8 L st σ n k w = s_getf 12 0 11 L st σ n k w (zk1 cut G (Z f)) G R T := zrs hZ rfl f L st σ n k w
theorem f_X15_endStock_11 (hZ : ZRN (ztb (tb_X15_endStock E d mc ms)) cut G R T Z) (f : Nat) (L : ZLV) (st : List Value) (σ : ZHp) (n k w : Nat) : Z (f + 1) 11 L st σ n k w = s_iload 2 12 L st σ n k w (zk1 cut G (Z f)) G R T := zrs hZ rfl f L st σ n k w
theorem f_X15_endStock_12 (hZ : ZRN (ztb (tb_X15_endStock E d mc ms)) cut G R T Z) (f : Nat) (L : ZLV) (st : List Value) (σ : ZHp) (n k w : Nat) : Z (f + 1) 12 L st σ n k w = s_const (.int (3)) 13 L st σ n k w (zk1 cut G (Z f)) G R T := zrs hZ rfl f L st σ n k w
theorem f_X15_endStock_13 (hZ : ZRN (ztb (tb_X15_endStock E d mc ms)) cut G R T Z) (f : Nat) (L : ZLV) (st : List Value) (σ : ZHp) (n k w : Nat) : Z (f + 1) 13 L st σ n k w = s_isub 14 L st σ n k w (zk1 cut G (Z f)) G R T := zrs hZ rfl f L st σ n k w
theorem f_X15_endStock_14 (hZ : ZRN (ztb (tb_X15_endStock E d mc ms)) cut G R T Z) (f : Nat) (L : ZLV) (st : List Value) (σ : ZHp) (n k w : Nat) : Z (f + 1) 14 L st σ n k w = s_iaload E 15 L st σ n k w (zk1 cut G (Z f)) G R T := zrs hZ rfl f L st σ n k w
theorem f_X15_endStock_15 (hZ : ZRN (ztb (tb_X15_endStock E d mc ms)) cut G R T Z) (f : Nat) (L : ZLV) (st : List Value) (σ : ZHp) (n k w : Nat) : Z (f + 1) 15 L st σ n k w = s_const (.int (10)) 17 L st σ n k w (zk1 cut G (Z f)) G R T := zrs hZ rfl f L st σ n k w
theorem f_X15_endStock_17 (hZ : ZRN (ztb (tb_X15_endStock E d mc ms)) cut G R T Z) (f : Nat) (L : ZLV) (st : List Value) (σ : ZHp) (n k w : Nat) : Z (f + 1) 17 L st σ n k w = s_icmp_ne 31 20 L st σ n k w (zk1 cut G (Z f)) G R T := zrs hZ rfl f L st σ n k w
theorem f_X15_endStock_20 (hZ : ZRN (ztb (tb_X15_endStock E d mc ms)) cut G R T Z) (f : Nat) (L : ZLV) (st : List Value) (σ : ZHp) (n k w : Nat) : Z (f + 1) 20 L st σ n k w = s_aload 1 21 L st σ n k w (zk1 cut G (Z f)) G R T := zrs hZ rfl f L st σ n k w
theorem f_X15_endStock_21 (hZ : ZRN (ztb (tb_X15_endStock E d mc ms)) cut G R T Z) (f : Nat) (L : ZLV) (st : List Value) (σ : ZHp) (n k w : Nat) : Z (f + 1) 21 L st σ n k w = s_getf 12 9 24 L st σ n k w (zk1 cut G (Z f)) G R T := zrs hZ rfl f L st σ n k w
theorem f_X15_endStock_24 (hZ : ZRN (ztb (tb_X15_endStock E d mc ms)) cut G R T Z) (f : Nat) (L : ZLV) (st : List Value) (σ : ZHp) (n k w : Nat) : Z (f + 1) 24 L st σ n k w = s_iload 3 25 L st σ n k w (zk1 cut G (Z f)) G R T := zrs hZ rfl f L st σ n k w
theorem f_X15_endStock_25 (hZ : ZRN (ztb (tb_X15_endStock E d mc ms)) cut G R T Z) (f : Nat) (L : ZLV) (st : List Value) (σ : ZHp) (n k w : Nat) : Z (f + 1) 25 L st σ n k w = s_aload 1 26 L st σ n k w (zk1 cut G (Z f)) G R T := zrs hZ rfl f L st σ n k w
theorem f_X15_endStock_26 (hZ : ZRN (ztb (tb_X15_endStock E d mc ms)) cut G R T Z) (f : Nat) (L : ZLV) (st : List Value) (σ : ZHp) (n k w : Nat) : Z (f + 1) 26 L st σ n k w = s_getf 12 20 29 L st σ n k w (zk1 cut G (Z f)) G R T := zrs hZ rfl f L st σ n k w
theorem f_X15_endStock_29 (hZ : ZRN (ztb (tb_X15_endStock E d mc ms)) cut G R T Z) (f : Nat) (L : ZLV) (st : List Value) (σ : ZHp) (n k w : Nat) : Z (f + 1) 29 L st σ n k w = s_iastore E 30 L st σ n k w (zk1 cut G (Z f)) G R T := zrs hZ rfl f L st σ n k w
theorem f_X15_endStock_30 (hZ : ZRN (ztb (tb_X15_endStock E d mc ms)) cut G R T Z) (f : Nat) (L : ZLV) (st : List Value) (σ : ZHp) (n k w : Nat) : Z (f + 1) 30 L st σ n k w = s_return L st σ n k w (zk1 cut G (Z f)) G R T := zrs hZ rfl f L st σ n k w
theorem f_X15_endStock_31 (hZ : ZRN (ztb (tb_X15_endStock E d mc ms)) cut G R T Z) (f : Nat) (L : ZLV) (st : List Value) (σ : ZHp) (n k w : Nat) : Z (f + 1) 31 L st σ n k w = s_const (.int (0)) 32 L st σ n k w (zk1 cut G (Z f)) G R T := zrs hZ rfl f L st σ n k w
theorem f_X15_endStock_32 (hZ : ZRN (ztb (tb_X15_endStock E d mc ms)) cut G R T Z) (f : Nat) (L : ZLV) (st : List Value) (σ : ZHp) (n k w : Nat) : Z (f + 1) 32 L st σ n k w = s_istore 4 34 L st σ n k w (zk1 cut G (Z f)) G R T := zrs hZ rfl f L st σ n k w
theorem f_X15_endStock_34 (hZ : ZRN (ztb (tb_X15_endStock E d mc ms)) cut G R T Z) (f : Nat) (L : ZLV) (st : List Value) (σ : ZHp) (n k w : Nat) : Z (f + 1) 34 L st σ n k w = s_iload 4 36 L st σ n k w (zk1 cut G (Z f)) G R T := zrs hZ rfl f L st σ n k w
theorem f_X15_endStock_36 (hZ : ZRN (ztb (tb_X15_endStock E d mc ms)) cut G R T Z) (f : Nat) (L : ZLV) (st : List Value) (σ : ZHp) (n k w : Nat) : Z (f + 1) 36 L st σ n k w = s_aload 1 37 L st σ n k w (zk1 cut G (Z f)) G R T := zrs hZ rfl f L st σ n k w
theorem f_X15_endStock_37 (hZ : ZRN (ztb (tb_X15_endStock E d mc ms)) cut G R T Z) (f : Nat) (L : ZLV) (st : List Value) (σ : ZHp) (n k w : Nat) : Z (f + 1) 37 L st σ n k w = s_getf 12 20 40 L st σ n k w (zk1 cut G (Z f)) G R T := zrs hZ rfl f L st σ n k w
theorem f_X15_endStock_40 (hZ : ZRN (ztb (tb_X15_endStock E d mc ms)) cut G R T Z) (f : Nat) (L : ZLV) (st : List Value) (σ : ZHp) (n k w : Nat) : Z (f + 1) 40 L st σ n k w = s_icmp_ge 69 43 L st σ n k w (zk1 cut G (Z f)) G R T := zrs hZ rfl f L st σ n k w
theorem f_X15_endStock_43 (hZ : ZRN (ztb (tb_X15_endStock E d mc ms)) cut G R T Z) (f : Nat) (L : ZLV) (st : List Value) (σ : ZHp) (n k w : Nat) : Z (f + 1) 43 L st σ n k w = s_aload 1 44 L st σ n k w (zk1 cut G (Z f)) G R T := zrs hZ rfl f L st σ n k w
theorem f_X15_endStock_44 (hZ : ZRN (ztb (tb_X15_endStock E d mc ms)) cut G R T Z) (f : Nat) (L : ZLV) (st : List Value) (σ : ZHp) (n k w : Nat) : Z (f + 1) 44 L st σ n k w = s_getf 12 15 47 L st σ n k w (zk1 cut G (Z f)) G R T := zrs hZ rfl f L st σ n k w
theorem f_X15_endStock_47 (hZ : ZRN (ztb (tb_X15_endStock E d mc ms)) cut G R T Z) (f : Nat) (L : ZLV) (st : List Value) (σ : ZHp) (n k w : Nat) : Z (f + 1) 47 L st σ n k w = s_aload 1 48 L st σ n k w (zk1 cut G (Z f)) G R T := zrs hZ rfl f L st σ n k w
theorem f_X15_endStock_48 (hZ : ZRN (ztb (tb_X15_endStock E d mc ms)) cut G R T Z) (f : Nat) (L : ZLV) (st : List Value) (σ : ZHp) (n k w : Nat) : Z (f + 1) 48 L st σ n k w = s_getf 12 14 51 L st σ n k w (zk1 cut G (Z f)) G R T := zrs hZ rfl f L st σ n k w
theorem f_X15_endStock_51 (hZ : ZRN (ztb (tb_X15_endStock E d mc ms)) cut G R T Z) (f : Nat) (L : ZLV) (st : List Value) (σ : ZHp) (n k w : Nat) : Z (f + 1) 51 L st σ n k w = s_iload 3 52 L st σ n k w (zk1 cut G (Z f)) G R T := zrs hZ rfl f L st σ n k w
theorem f_X15_endStock_52 (hZ : ZRN (ztb (tb_X15_endStock E d mc ms)) cut G R T Z) (f : Nat) (L : ZLV) (st : List Value) (σ : ZHp) (n k w : Nat) : Z (f + 1) 52 L st σ n k w = s_iastore E 53 L st σ n k w (zk1 cut G (Z f)) G R T := zrs hZ rfl f L st σ n k w
theorem f_X15_endStock_53 (hZ : ZRN (ztb (tb_X15_endStock E d mc ms)) cut G R T Z) (f : Nat) (L : ZLV) (st : List Value) (σ : ZHp) (n k w : Nat) : Z (f + 1) 53 L st σ n k w = s_aload 1 54 L st σ n k w (zk1 cut G (Z f)) G R T := zrs hZ rfl f L st σ n k w
theorem f_X15_endStock_54 (hZ : ZRN (ztb (tb_X15_endStock E d mc ms)) cut G R T Z) (f : Nat) (L : ZLV) (st : List Value) (σ : ZHp) (n k w : Nat) : Z (f + 1) 54 L st σ n k w = s_dup 55 L st σ n k w (zk1 cut G (Z f)) G R T := zrs hZ rfl f L st σ n k w
theorem f_X15_endStock_55 (hZ : ZRN (ztb (tb_X15_endStock E d mc ms)) cut G R T Z) (f : Nat) (L : ZLV) (st : List Value) (σ : ZHp) (n k w : Nat) : Z (f + 1) 55 L st σ n k w = s_getf 12 14 58 L st σ n k w (zk1 cut G (Z f)) G R T := zrs hZ rfl f L st σ n k w
theorem f_X15_endStock_58 (hZ : ZRN (ztb (tb_X15_endStock E d mc ms)) cut G R T Z) (f : Nat) (L : ZLV) (st : List Value) (σ : ZHp) (n k w : Nat) : Z (f + 1) 58 L st σ n k w = s_const (.int (1)) 59 L st σ n k w (zk1 cut G (Z f)) G R T := zrs hZ rfl f L st σ n k w
theorem f_X15_endStock_59 (hZ : ZRN (ztb (tb_X15_endStock E d mc ms)) cut G R T Z) (f : Nat) (L : ZLV) (st : List Value) (σ : ZHp) (n k w : Nat) : Z (f + 1) 59 L st σ n k w = s_iadd 60 L st σ n k w (zk1 cut G (Z f)) G R T := zrs hZ rfl f L st σ n k w
theorem f_X15_endStock_60 (hZ : ZRN (ztb (tb_X15_endStock E d mc ms)) cut G R T Z) (f : Nat) (L : ZLV) (st : List Value) (σ : ZHp) (n k w : Nat) : Z (f + 1) 60 L st σ n k w = s_putf 12 14 0 63 L st σ n k w (zk1 cut G (Z f)) G R T := zrs hZ rfl f L st σ n k w
theorem f_X15_endStock_63 (hZ : ZRN (ztb (tb_X15_endStock E d mc ms)) cut G R T Z) (f : Nat) (L : ZLV) (st : List Value) (σ : ZHp) (n k w : Nat) : Z (f + 1) 63 L st σ n k w = s_iinc 4 (1) 66 L st σ n k w (zk1 cut G (Z f)) G R T := zrs hZ rfl f L st σ n k w
theorem f_X15_endStock_66 (hZ : ZRN (ztb (tb_X15_endStock E d mc ms)) cut G R T Z) (f : Nat) (L : ZLV) (st : List Value) (σ : ZHp) (n k w : Nat) : Z (f + 1) 66 L st σ n k w = s_goto 34 L st σ n k w (zk1 cut G (Z f)) G R T := zrs hZ rfl f L st σ n k w
theorem f_X15_endStock_69 (hZ : ZRN (ztb (tb_X15_endStock E d mc ms)) cut G R T Z) (f : Nat) (L : ZLV) (st : List Value) (σ : ZHp) (n k w : Nat) : Z (f + 1) 69 L st σ n k w = s_return L st σ n k w (zk1 cut G (Z f)) G R T := zrs hZ rfl f L st σ n k w
theorem f_X15_errorOfName_0 (hZ : ZRN (ztb (tb_X15_errorOfName E d mc ms)) cut G R T Z) (f : Nat) (L : ZLV) (st : List Value) (σ : ZHp) (n k w : Nat) : Z (f + 1) 0 L st σ n k w = s_aload 1 1 L st σ n k w (zk1 cut G (Z f)) G R T := zrs hZ rfl f L st σ n k w
theorem f_X15_errorOfName_1 (hZ : ZRN (ztb (tb_X15_errorOfName E d mc ms)) cut G R T Z) (f : Nat) (L : ZLV) (st : List Value) (σ : ZHp) (n k w : Nat) : Z (f + 1) 1 L st σ n k w = s_getf 12 0 4 L st σ n k w (zk1 cut G (Z f)) G R T := zrs hZ rfl f L st σ n k w
theorem f_X15_errorOfName_4 (hZ : ZRN (ztb (tb_X15_errorOfName E d mc ms)) cut G R T Z) (f : Nat) (L : ZLV) (st : List Value) (σ : ZHp) (n k w : Nat) : Z (f + 1) 4 L st σ n k w = s_iload 2 5 L st σ n k w (zk1 cut G (Z f)) G R T := zrs hZ rfl f L st σ n k w
theorem f_X15_errorOfName_5 (hZ : ZRN (ztb (tb_X15_errorOfName E d mc ms)) cut G R T Z) (f : Nat) (L : ZLV) (st : List Value) (σ : ZHp) (n k w : Nat) : Z (f + 1) 5 L st σ n k w = s_const (.int (1)) 6 L st σ n k w (zk1 cut G (Z f)) G R T := zrs hZ rfl f L st σ n k w
theorem f_X15_errorOfName_6 (hZ : ZRN (ztb (tb_X15_errorOfName E d mc ms)) cut G R T Z) (f : Nat) (L : ZLV) (st : List Value) (σ : ZHp) (n k w : Nat) : Z (f + 1) 6 L st σ n k w = s_isub 7 L st σ n k w (zk1 cut G (Z f)) G R T := zrs hZ rfl f L st σ n k w
theorem f_X15_errorOfName_7 (hZ : ZRN (ztb (tb_X15_errorOfName E d mc ms)) cut G R T Z) (f : Nat) (L : ZLV) (st : List Value) (σ : ZHp) (n k w : Nat) : Z (f + 1) 7 L st σ n k w = s_iaload E 8 L st σ n k w (zk1 cut G (Z f)) G R T := zrs hZ rfl f L st σ n k w
theorem f_X15_errorOfName_8 (hZ : ZRN (ztb (tb_X15_errorOfName E d mc ms)) cut G R T Z) (f : Nat) (L : ZLV) (st : List Value) (σ : ZHp) (n k w : Nat) : Z (f + 1) 8 L st σ n k w = s_istore 3 9 L st σ n k w (zk1 cut G (Z f)) G R T := zrs hZ rfl f L st σ n k w
theorem f_X15_errorOfName_9 (hZ : ZRN (ztb (tb_X15_errorOfName E d mc ms)) cut G R T Z) (f : Nat) (L : ZLV) (st : List Value) (σ : ZHp) (n k w : Nat) : Z (f + 1) 9 L st σ n k w = s_iload 3 10 L st σ n k w (zk1 cut G (Z f)) G R T := zrs hZ rfl f L st σ n k w
theorem f_X15_errorOfName_10 (hZ : ZRN (ztb (tb_X15_errorOfName E d mc ms)) cut G R T Z) (f : Nat) (L : ZLV) (st : List Value) (σ : ZHp) (n k w : Nat) : Z (f + 1) 10 L st σ n k w = s_if_ne 20 13 L st σ n k w (zk1 cut G (Z f)) G R T := zrs hZ rfl f L st σ n k w
theorem f_X15_errorOfName_13 (hZ : ZRN (ztb (tb_X15_errorOfName E d mc ms)) cut G R T Z) (f : Nat) (L : ZLV) (st : List Value) (σ : ZHp) (n k w : Nat) : Z (f + 1) 13 L st σ n k w = s_aload 0 14 L st σ n k w (zk1 cut G (Z f)) G R T := zrs hZ rfl f L st σ n k w
theorem f_X15_errorOfName_14 (hZ : ZRN (ztb (tb_X15_errorOfName E d mc ms)) cut G R T Z) (f : Nat) (L : ZLV) (st : List Value) (σ : ZHp) (n k w : Nat) : Z (f + 1) 14 L st σ n k w = s_aload 1 15 L st σ n k w (zk1 cut G (Z f)) G R T := zrs hZ rfl f L st σ n k w
theorem f_X15_errorOfName_15 (hZ : ZRN (ztb (tb_X15_errorOfName E d mc ms)) cut G R T Z) (f : Nat) (L : ZLV) (st : List Value) (σ : ZHp) (n k w : Nat) : Z (f + 1) 15 L st σ n k w = s_iload 2 16 L st σ n k w (zk1 cut G (Z f)) G R T := zrs hZ rfl f L st σ n k w
theorem f_X15_errorOfName_16 (hZ : ZRN (ztb (tb_X15_errorOfName E d mc ms)) cut G R T Z) (f : Nat) (L : ZLV) (st : List Value) (σ : ZHp) (n k w : Nat) : Z (f + 1) 16 L st σ n k w = s_callV E d mc ms 14 MX15_errorOfCard 2 19 L st σ n k w (zk1 cut G (Z f)) G R T := zrs hZ rfl f L st σ n k w
theorem f_X15_errorOfName_19 (hZ : ZRN (ztb (tb_X15_errorOfName E d mc ms)) cut G R T Z) (f : Nat) (L : ZLV) (st : List Value) (σ : ZHp) (n k w : Nat) : Z (f + 1) 19 L st σ n k w = s_ireturn L st σ n k w (zk1 cut G (Z f)) G R T := zrs hZ rfl f L st σ n k w
theorem f_X15_errorOfName_20 (hZ : ZRN (ztb (tb_X15_errorOfName E d mc ms)) cut G R T Z) (f : Nat) (L : ZLV) (st : List Value) (σ : ZHp) (n k w : Nat) : Z (f + 1) 20 L st σ n k w = s_iload 3 21 L st σ n k w (zk1 cut G (Z f)) G R T := zrs hZ rfl f L st σ n k w
theorem f_X15_errorOfName_21 (hZ : ZRN (ztb (tb_X15_errorOfName E d mc ms)) cut G R T Z) (f : Nat) (L : ZLV) (st : List Value) (σ : ZHp) (n k w : Nat) : Z (f + 1) 21 L st σ n k w = s_const (.int (11)) 23 L st σ n k w (zk1 cut G (Z f)) G R T := zrs hZ rfl f L st σ n k w
theorem f_X15_errorOfName_23 (hZ : ZRN (ztb (tb_X15_errorOfName E d mc ms)) cut G R T Z) (f : Nat) (L : ZLV) (st : List Value) (σ : ZHp) (n k w : Nat) : Z (f + 1) 23 L st σ n k w = s_icmp_ne 33 26 L st σ n k w (zk1 cut G (Z f)) G R T := zrs hZ rfl f L st σ n k w
theorem f_X15_errorOfName_26 (hZ : ZRN (ztb (tb_X15_errorOfName E d mc ms)) cut G R T Z) (f : Nat) (L : ZLV) (st : List Value) (σ : ZHp) (n k w : Nat) : Z (f + 1) 26 L st σ n k w = s_aload 0 27 L st σ n k w (zk1 cut G (Z f)) G R T := zrs hZ rfl f L st σ n k w
theorem f_X15_errorOfName_27 (hZ : ZRN (ztb (tb_X15_errorOfName E d mc ms)) cut G R T Z) (f : Nat) (L : ZLV) (st : List Value) (σ : ZHp) (n k w : Nat) : Z (f + 1) 27 L st σ n k w = s_aload 1 28 L st σ n k w (zk1 cut G (Z f)) G R T := zrs hZ rfl f L st σ n k w
theorem f_X15_errorOfName_28 (hZ : ZRN (ztb (tb_X15_errorOfName E d mc ms)) cut G R T Z) (f : Nat) (L : ZLV) (st : List Value) (σ : ZHp) (n k w : Nat) : Z (f + 1) 28 L st σ n k w = s_iload 2 29 L st σ n k w (zk1 cut G (Z f)) G R T := zrs hZ rfl f L st σ n k w
theorem f_X15_errorOfName_29 (hZ : ZRN (ztb (tb_X15_errorOfName E d mc ms)) cut G R T Z) (f : Nat) (L : ZLV) (st : List Value) (σ : ZHp) (n k w : Nat) : Z (f + 1) 29 L st σ n k w = s_callV E d mc ms 14 MX15_errorOfMerchant 2 32 L st σ n k w (zk1 cut G (Z f)) G R T := zrs hZ rfl f L st σ n k w
theorem f_X15_errorOfName_32 (hZ : ZRN (ztb (tb_X15_errorOfName E d mc ms)) cut G R T Z) (f : Nat) (L : ZLV) (st : List Value) (σ : ZHp) (n k w : Nat) : Z (f + 1) 32 L st σ n k w = s_ireturn L st σ n k w (zk1 cut G (Z f)) G R T := zrs hZ rfl f L st σ n k w
theorem f_X15_errorOfName_33 (hZ : ZRN (ztb (tb_X15_errorOfName E d mc ms)) cut G R T Z) (f : Nat) (L : ZLV) (st : List Value) (σ : ZHp) (n k w : Nat) : Z (f + 1) 33 L st σ n k w = s_aload 1 34 L st σ n k w (zk1 cut G (Z f)) G R T := zrs hZ rfl f L st σ n k w
theorem f_X15_errorOfName_34 (hZ : ZRN (ztb (tb_X15_errorOfName E d mc ms)) cut G R T Z) (f : Nat) (L : ZLV) (st : List Value) (σ : ZHp) (n k w : Nat) : Z (f + 1) 34 L st σ n k w = s_getf 12 3 37 L st σ n k w (zk1 cut G (Z f)) G R T := zrs hZ rfl f L st σ n k w
theorem f_X15_errorOfName_37 (hZ : ZRN (ztb (tb_X15_errorOfName E d mc ms)) cut G R T Z) (f : Nat) (L : ZLV) (st : List Value) (σ : ZHp) (n k w : Nat) : Z (f + 1) 37 L st σ n k w = s_iload 2 38 L st σ n k w (zk1 cut G (Z f)) G R T := zrs hZ rfl f L st σ n k w
theorem f_X15_errorOfName_38 (hZ : ZRN (ztb (tb_X15_errorOfName E d mc ms)) cut G R T Z) (f : Nat) (L : ZLV) (st : List Value) (σ : ZHp) (n k w : Nat) : Z (f + 1) 38 L st σ n k w = s_iload 3 39 L st σ n k w (zk1 cut G (Z f)) G R T := zrs hZ rfl f L st σ n k w
theorem f_X15_errorOfName_39 (hZ : ZRN (ztb (tb_X15_errorOfName E d mc ms)) cut G R T Z) (f : Nat) (L : ZLV) (st : List Value) (σ : ZHp) (n k w : Nat) : Z (f + 1) 39 L st σ n k w = s_const (.int (13)) 41 L st σ n k w (zk1 cut G (Z f)) G R T := zrs hZ rfl f L st σ n k w
theorem f_X15_errorOfName_41 (hZ : ZRN (ztb (tb_X15_errorOfName E d mc ms)) cut G R T Z) (f : Nat) (L : ZLV) (st : List Value) (σ : ZHp) (n k w : Nat) : Z (f + 1) 41 L st σ n k w = s_icmp_ne 61 44 L st σ n k w (zk1 cut G (Z f)) G R T := zrs hZ rfl f L st σ n k w
theorem f_X15_errorOfName_44 (hZ : ZRN (ztb (tb_X15_errorOfName E d mc ms)) cut G R T Z) (f : Nat) (L : ZLV) (st : List Value) (σ : ZHp) (n k w : Nat) : Z (f + 1) 44 L st σ n k w = s_aload 0 45 L st σ n k w (zk1 cut G (Z f)) G R T := zrs hZ rfl f L st σ n k w
theorem f_X15_errorOfName_45 (hZ : ZRN (ztb (tb_X15_errorOfName E d mc ms)) cut G R T Z) (f : Nat) (L : ZLV) (st : List Value) (σ : ZHp) (n k w : Nat) : Z (f + 1) 45 L st σ n k w = s_aload 1 46 L st σ n k w (zk1 cut G (Z f)) G R T := zrs hZ rfl f L st σ n k w
theorem f_X15_errorOfName_46 (hZ : ZRN (ztb (tb_X15_errorOfName E d mc ms)) cut G R T Z) (f : Nat) (L : ZLV) (st : List Value) (σ : ZHp) (n k w : Nat) : Z (f + 1) 46 L st σ n k w = s_aload 1 47 L st σ n k w (zk1 cut G (Z f)) G R T := zrs hZ rfl f L st σ n k w
theorem f_X15_errorOfName_47 (hZ : ZRN (ztb (tb_X15_errorOfName E d mc ms)) cut G R T Z) (f : Nat) (L : ZLV) (st : List Value) (σ : ZHp) (n k w : Nat) : Z (f + 1) 47 L st σ n k w = s_getf 12 13 50 L st σ n k w (zk1 cut G (Z f)) G R T := zrs hZ rfl f L st σ n k w
theorem f_X15_errorOfName_50 (hZ : ZRN (ztb (tb_X15_errorOfName E d mc ms)) cut G R T Z) (f : Nat) (L : ZLV) (st : List Value) (σ : ZHp) (n k w : Nat) : Z (f + 1) 50 L st σ n k w = s_aload 1 51 L st σ n k w (zk1 cut G (Z f)) G R T := zrs hZ rfl f L st σ n k w
theorem f_X15_errorOfName_51 (hZ : ZRN (ztb (tb_X15_errorOfName E d mc ms)) cut G R T Z) (f : Nat) (L : ZLV) (st : List Value) (σ : ZHp) (n k w : Nat) : Z (f + 1) 51 L st σ n k w = s_getf 12 12 54 L st σ n k w (zk1 cut G (Z f)) G R T := zrs hZ rfl f L st σ n k w
theorem f_X15_errorOfName_54 (hZ : ZRN (ztb (tb_X15_errorOfName E d mc ms)) cut G R T Z) (f : Nat) (L : ZLV) (st : List Value) (σ : ZHp) (n k w : Nat) : Z (f + 1) 54 L st σ n k w = s_iload 2 55 L st σ n k w (zk1 cut G (Z f)) G R T := zrs hZ rfl f L st σ n k w
theorem f_X15_errorOfName_55 (hZ : ZRN (ztb (tb_X15_errorOfName E d mc ms)) cut G R T Z) (f : Nat) (L : ZLV) (st : List Value) (σ : ZHp) (n k w : Nat) : Z (f + 1) 55 L st σ n k w = s_callV E d mc ms 14 MX15_find 4 58 L st σ n k w (zk1 cut G (Z f)) G R T := zrs hZ rfl f L st σ n k w
theorem f_X15_errorOfName_58 (hZ : ZRN (ztb (tb_X15_errorOfName E d mc ms)) cut G R T Z) (f : Nat) (L : ZLV) (st : List Value) (σ : ZHp) (n k w : Nat) : Z (f + 1) 58 L st σ n k w = s_goto 75 L st σ n k w (zk1 cut G (Z f)) G R T := zrs hZ rfl f L st σ n k w
theorem f_X15_errorOfName_61 (hZ : ZRN (ztb (tb_X15_errorOfName E d mc ms)) cut G R T Z) (f : Nat) (L : ZLV) (st : List Value) (σ : ZHp) (n k w : Nat) : Z (f + 1) 61 L st σ n k w = s_aload 0 62 L st σ n k w (zk1 cut G (Z f)) G R T := zrs hZ rfl f L st σ n k w
theorem f_X15_errorOfName_62 (hZ : ZRN (ztb (tb_X15_errorOfName E d mc ms)) cut G R T Z) (f : Nat) (L : ZLV) (st : List Value) (σ : ZHp) (n k w : Nat) : Z (f + 1) 62 L st σ n k w = s_aload 1 63 L st σ n k w (zk1 cut G (Z f)) G R T := zrs hZ rfl f L st σ n k w
theorem f_X15_errorOfName_63 (hZ : ZRN (ztb (tb_X15_errorOfName E d mc ms)) cut G R T Z) (f : Nat) (L : ZLV) (st : List Value) (σ : ZHp) (n k w : Nat) : Z (f + 1) 63 L st σ n k w = s_aload 1 64 L st σ n k w (zk1 cut G (Z f)) G R T := zrs hZ rfl f L st σ n k w
theorem f_X15_errorOfName_64 (hZ : ZRN (ztb (tb_X15_errorOfName E d mc ms)) cut G R T Z) (f : Nat) (L : ZLV) (st : List Value) (σ : ZHp) (n k w : Nat) : Z (f + 1) 64 L st σ n k w = s_getf 12 6 67 L st σ n k w (zk1 cut G (Z f)) G R T := zrs hZ rfl f L st σ n k w
theorem f_X15_errorOfName_67 (hZ : ZRN (ztb (tb_X15_errorOfName E d mc ms)) cut G R T Z) (f : Nat) (L : ZLV) (st : List Value) (σ : ZHp) (n k w : Nat) : Z (f + 1) 67 L st σ n k w = s_aload 1 68 L st σ n k w (zk1 cut G (Z f)) G R T := zrs hZ rfl f L st σ n k w
theorem f_X15_errorOfName_68 (hZ : ZRN (ztb (tb_X15_errorOfName E d mc ms)) cut G R T Z) (f : Nat) (L : ZLV) (st : List Value) (σ : ZHp) (n k w : Nat) : Z (f + 1) 68 L st σ n k w = s_getf 12 5 71 L st σ n k w (zk1 cut G (Z f)) G R T := zrs hZ rfl f L st σ n k w
theorem f_X15_errorOfName_71 (hZ : ZRN (ztb (tb_X15_errorOfName E d mc ms)) cut G R T Z) (f : Nat) (L : ZLV) (st : List Value) (σ : ZHp) (n k w : Nat) : Z (f + 1) 71 L st σ n k w = s_iload 2 72 L st σ n k w (zk1 cut G (Z f)) G R T := zrs hZ rfl f L st σ n k w
theorem f_X15_errorOfName_72 (hZ : ZRN (ztb (tb_X15_errorOfName E d mc ms)) cut G R T Z) (f : Nat) (L : ZLV) (st : List Value) (σ : ZHp) (n k w : Nat) : Z (f + 1) 72 L st σ n k w = s_callV E d mc ms 14 MX15_find 4 75 L st σ n k w (zk1 cut G (Z f)) G R T := zrs hZ rfl f L st σ n k w
theorem f_X15_errorOfName_75 (hZ : ZRN (ztb (tb_X15_errorOfName E d mc ms)) cut G R T Z) (f : Nat) (L : ZLV) (st : List Value) (σ : ZHp) (n k w : Nat) : Z (f + 1) 75 L st σ n k w = s_iastore E 76 L st σ n k w (zk1 cut G (Z f)) G R T := zrs hZ rfl f L st σ n k w
theorem f_X15_errorOfName_76 (hZ : ZRN (ztb (tb_X15_errorOfName E d mc ms)) cut G R T Z) (f : Nat) (L : ZLV) (st : List Value) (σ : ZHp) (n k w : Nat) : Z (f + 1) 76 L st σ n k w = s_aload 1 77 L st σ n k w (zk1 cut G (Z f)) G R T := zrs hZ rfl f L st σ n k w
theorem f_X15_errorOfName_77 (hZ : ZRN (ztb (tb_X15_errorOfName E d mc ms)) cut G R T Z) (f : Nat) (L : ZLV) (st : List Value) (σ : ZHp) (n k w : Nat) : Z (f + 1) 77 L st σ n k w = s_getf 12 3 80 L st σ n k w (zk1 cut G (Z f)) G R T := zrs hZ rfl f L st σ n k w
theorem f_X15_errorOfName_80 (hZ : ZRN (ztb (tb_X15_errorOfName E d mc ms)) cut G R T Z) (f : Nat) (L : ZLV) (st : List Value) (σ : ZHp) (n k w : Nat) : Z (f + 1) 80 L st σ n k w = s_iload 2 81 L st σ n k w (zk1 cut G (Z f)) G R T := zrs hZ rfl f L st σ n k w
theorem f_X15_errorOfName_81 (hZ : ZRN (ztb (tb_X15_errorOfName E d mc ms)) cut G R T Z) (f : Nat) (L : ZLV) (st : List Value) (σ : ZHp) (n k w : Nat) : Z (f + 1) 81 L st σ n k w = s_iaload E 82 L st σ n k w (zk1 cut G (Z f)) G R T := zrs hZ rfl f L st σ n k w
theorem f_X15_errorOfName_82 (hZ : ZRN (ztb (tb_X15_errorOfName E d mc ms)) cut G R T Z) (f : Nat) (L : ZLV) (st : List Value) (σ : ZHp) (n k w : Nat) : Z (f + 1) 82 L st σ n k w = s_const (.int (-1)) 83 L st σ n k w (zk1 cut G (Z f)) G R T := zrs hZ rfl f L st σ n k w
theorem f_X15_errorOfName_83 (hZ : ZRN (ztb (tb_X15_errorOfName E d mc ms)) cut G R T Z) (f : Nat) (L : ZLV) (st : List Value) (σ : ZHp) (n k w : Nat) : Z (f + 1) 83 L st σ n k w = s_icmp_ne 88 86 L st σ n k w (zk1 cut G (Z f)) G R T := zrs hZ rfl f L st σ n k w
theorem f_X15_errorOfName_86 (hZ : ZRN (ztb (tb_X15_errorOfName E d mc ms)) cut G R T Z) (f : Nat) (L : ZLV) (st : List Value) (σ : ZHp) (n k w : Nat) : Z (f + 1) 86 L st σ n k w = s_const (.int (3)) 87 L st σ n k w (zk1 cut G (Z f)) G R T := zrs hZ rfl f L st σ n k w
theorem f_X15_errorOfName_87 (hZ : ZRN (ztb (tb_X15_errorOfName E d mc ms)) cut G R T Z) (f : Nat) (L : ZLV) (st : List Value) (σ : ZHp) (n k w : Nat) : Z (f + 1) 87 L st σ n k w = s_ireturn L st σ n k w (zk1 cut G (Z f)) G R T := zrs hZ rfl f L st σ n k w
theorem f_X15_errorOfName_88 (hZ : ZRN (ztb (tb_X15_errorOfName E d mc ms)) cut G R T Z) (f : Nat) (L : ZLV) (st : List Value) (σ : ZHp) (n k w : Nat) : Z (f + 1) 88 L st σ n k w = s_iload 3 89 L st σ n k w (zk1 cut G (Z f)) G R T := zrs hZ rfl f L st σ n k w
theorem f_X15_errorOfName_89 (hZ : ZRN (ztb (tb_X15_errorOfName E d mc ms)) cut G R T Z) (f : Nat) (L : ZLV) (st : List Value) (σ : ZHp) (n k w : Nat) : Z (f + 1) 89 L st σ n k w = s_const (.int (9)) 91 L st σ n k w (zk1 cut G (Z f)) G R T := zrs hZ rfl f L st σ n k w
theorem f_X15_errorOfName_91 (hZ : ZRN (ztb (tb_X15_errorOfName E d mc ms)) cut G R T Z) (f : Nat) (L : ZLV) (st : List Value) (σ : ZHp) (n k w : Nat) : Z (f + 1) 91 L st σ n k w = s_icmp_ne 100 94 L st σ n k w (zk1 cut G (Z f)) G R T := zrs hZ rfl f L st σ n k w
theorem f_X15_errorOfName_94 (hZ : ZRN (ztb (tb_X15_errorOfName E d mc ms)) cut G R T Z) (f : Nat) (L : ZLV) (st : List Value) (σ : ZHp) (n k w : Nat) : Z (f + 1) 94 L st σ n k w = s_aload 0 95 L st σ n k w (zk1 cut G (Z f)) G R T := zrs hZ rfl f L st σ n k w
theorem f_X15_errorOfName_95 (hZ : ZRN (ztb (tb_X15_errorOfName E d mc ms)) cut G R T Z) (f : Nat) (L : ZLV) (st : List Value) (σ : ZHp) (n k w : Nat) : Z (f + 1) 95 L st σ n k w = s_aload 1 96 L st σ n k w (zk1 cut G (Z f)) G R T := zrs hZ rfl f L st σ n k w
theorem f_X15_errorOfName_96 (hZ : ZRN (ztb (tb_X15_errorOfName E d mc ms)) cut G R T Z) (f : Nat) (L : ZLV) (st : List Value) (σ : ZHp) (n k w : Nat) : Z (f + 1) 96 L st σ n k w = s_iload 2 97 L st σ n k w (zk1 cut G (Z f)) G R T := zrs hZ rfl f L st σ n k w
theorem f_X15_errorOfName_97 (hZ : ZRN (ztb (tb_X15_errorOfName E d mc ms)) cut G R T Z) (f : Nat) (L : ZLV) (st : List Value) (σ : ZHp) (n k w : Nat) : Z (f + 1) 97 L st σ n k w = s_callV E d mc ms 14 MX15_endStock 2 100 L st σ n k w (zk1 cut G (Z f)) G R T := zrs hZ rfl f L st σ n k w
theorem f_X15_errorOfName_100 (hZ : ZRN (ztb (tb_X15_errorOfName E d mc ms)) cut G R T Z) (f : Nat) (L : ZLV) (st : List Value) (σ : ZHp) (n k w : Nat) : Z (f + 1) 100 L st σ n k w = s_iload 3 101 L st σ n k w (zk1 cut G (Z f)) G R T := zrs hZ rfl f L st σ n k w
theorem f_X15_errorOfName_101 (hZ : ZRN (ztb (tb_X15_errorOfName E d mc ms)) cut G R T Z) (f : Nat) (L : ZLV) (st : List Value) (σ : ZHp) (n k w : Nat) : Z (f + 1) 101 L st σ n k w = s_const (.int (12)) 103 L st σ n k w (zk1 cut G (Z f)) G R T := zrs hZ rfl f L st σ n k w
theorem f_X15_errorOfName_103 (hZ : ZRN (ztb (tb_X15_errorOfName E d mc ms)) cut G R T Z) (f : Nat) (L : ZLV) (st : List Value) (σ : ZHp) (n k w : Nat) : Z (f + 1) 103 L st σ n k w = s_icmp_ne 123 106 L st σ n k w (zk1 cut G (Z f)) G R T := zrs hZ rfl f L st σ n k w
theorem f_X15_errorOfName_106 (hZ : ZRN (ztb (tb_X15_errorOfName E d mc ms)) cut G R T Z) (f : Nat) (L : ZLV) (st : List Value) (σ : ZHp) (n k w : Nat) : Z (f + 1) 106 L st σ n k w = s_aload 1 107 L st σ n k w (zk1 cut G (Z f)) G R T := zrs hZ rfl f L st σ n k w
theorem f_X15_errorOfName_107 (hZ : ZRN (ztb (tb_X15_errorOfName E d mc ms)) cut G R T Z) (f : Nat) (L : ZLV) (st : List Value) (σ : ZHp) (n k w : Nat) : Z (f + 1) 107 L st σ n k w = s_getf 12 17 110 L st σ n k w (zk1 cut G (Z f)) G R T := zrs hZ rfl f L st σ n k w
theorem f_X15_errorOfName_110 (hZ : ZRN (ztb (tb_X15_errorOfName E d mc ms)) cut G R T Z) (f : Nat) (L : ZLV) (st : List Value) (σ : ZHp) (n k w : Nat) : Z (f + 1) 110 L st σ n k w = s_aload 1 111 L st σ n k w (zk1 cut G (Z f)) G R T := zrs hZ rfl f L st σ n k w
theorem f_X15_errorOfName_111 (hZ : ZRN (ztb (tb_X15_errorOfName E d mc ms)) cut G R T Z) (f : Nat) (L : ZLV) (st : List Value) (σ : ZHp) (n k w : Nat) : Z (f + 1) 111 L st σ n k w = s_getf 12 16 114 L st σ n k w (zk1 cut G (Z f)) G R T := zrs hZ rfl f L st σ n k w
theorem f_X15_errorOfName_114 (hZ : ZRN (ztb (tb_X15_errorOfName E d mc ms)) cut G R T Z) (f : Nat) (L : ZLV) (st : List Value) (σ : ZHp) (n k w : Nat) : Z (f + 1) 114 L st σ n k w = s_const (.int (1)) 115 L st σ n k w (zk1 cut G (Z f)) G R T := zrs hZ rfl f L st σ n k w
theorem f_X15_errorOfName_115 (hZ : ZRN (ztb (tb_X15_errorOfName E d mc ms)) cut G R T Z) (f : Nat) (L : ZLV) (st : List Value) (σ : ZHp) (n k w : Nat) : Z (f + 1) 115 L st σ n k w = s_isub 116 L st σ n k w (zk1 cut G (Z f)) G R T := zrs hZ rfl f L st σ n k w
theorem f_X15_errorOfName_116 (hZ : ZRN (ztb (tb_X15_errorOfName E d mc ms)) cut G R T Z) (f : Nat) (L : ZLV) (st : List Value) (σ : ZHp) (n k w : Nat) : Z (f + 1) 116 L st σ n k w = s_aload 1 117 L st σ n k w (zk1 cut G (Z f)) G R T := zrs hZ rfl f L st σ n k w
theorem f_X15_errorOfName_117 (hZ : ZRN (ztb (tb_X15_errorOfName E d mc ms)) cut G R T Z) (f : Nat) (L : ZLV) (st : List Value) (σ : ZHp) (n k w : Nat) : Z (f + 1) 117 L st σ n k w = s_getf 12 3 120 L st σ n k w (zk1 cut G (Z f)) G R T := zrs hZ rfl f L st σ n k w
theorem f_X15_errorOfName_120 (hZ : ZRN (ztb (tb_X15_errorOfName E d mc ms)) cut G R T Z) (f : Nat) (L : ZLV) (st : List Value) (σ : ZHp) (n k w : Nat) : Z (f + 1) 120 L st σ n k w = s_iload 2 121 L st σ n k w (zk1 cut G (Z f)) G R T := zrs hZ rfl f L st σ n k w
theorem f_X15_errorOfName_121 (hZ : ZRN (ztb (tb_X15_errorOfName E d mc ms)) cut G R T Z) (f : Nat) (L : ZLV) (st : List Value) (σ : ZHp) (n k w : Nat) : Z (f + 1) 121 L st σ n k w = s_iaload E 122 L st σ n k w (zk1 cut G (Z f)) G R T := zrs hZ rfl f L st σ n k w
theorem f_X15_errorOfName_122 (hZ : ZRN (ztb (tb_X15_errorOfName E d mc ms)) cut G R T Z) (f : Nat) (L : ZLV) (st : List Value) (σ : ZHp) (n k w : Nat) : Z (f + 1) 122 L st σ n k w = s_iastore E 123 L st σ n k w (zk1 cut G (Z f)) G R T := zrs hZ rfl f L st σ n k w
theorem f_X15_errorOfName_123 (hZ : ZRN (ztb (tb_X15_errorOfName E d mc ms)) cut G R T Z) (f : Nat) (L : ZLV) (st : List Value) (σ : ZHp) (n k w : Nat) : Z (f + 1) 123 L st σ n k w = s_iload 3 124 L st σ n k w (zk1 cut G (Z f)) G R T := zrs hZ rfl f L st σ n k w
theorem f_X15_errorOfName_124 (hZ : ZRN (ztb (tb_X15_errorOfName E d mc ms)) cut G R T Z) (f : Nat) (L : ZLV) (st : List Value) (σ : ZHp) (n k w : Nat) : Z (f + 1) 124 L st σ n k w = s_const (.int (13)) 126 L st σ n k w (zk1 cut G (Z f)) G R T := zrs hZ rfl f L st σ n k w
theorem f_X15_errorOfName_126 (hZ : ZRN (ztb (tb_X15_errorOfName E d mc ms)) cut G R T Z) (f : Nat) (L : ZLV) (st : List Value) (σ : ZHp) (n k w : Nat) : Z (f + 1) 126 L st σ n k w = s_icmp_ne 146 129 L st σ n k w (zk1 cut G (Z f)) G R T := zrs hZ rfl f L st σ n k w
theorem f_X15_errorOfName_129 (hZ : ZRN (ztb (tb_X15_errorOfName E d mc ms)) cut G R T Z) (f : Nat) (L : ZLV) (st : List Value) (σ : ZHp) (n k w : Nat) : Z (f + 1) 129 L st σ n k w = s_aload 1 130 L st σ n k w (zk1 cut G (Z f)) G R T := zrs hZ rfl f L st σ n k w
theorem f_X15_errorOfName_130 (hZ : ZRN (ztb (tb_X15_errorOfName E d mc ms)) cut G R T Z) (f : Nat) (L : ZLV) (st : List Value) (σ : ZHp) (n k w : Nat) : Z (f + 1) 130 L st σ n k w = s_getf 12 18 133 L st σ n k w (zk1 cut G (Z f)) G R T := zrs hZ rfl f L st σ n k w
theorem f_X15_errorOfName_133 (hZ : ZRN (ztb (tb_X15_errorOfName E d mc ms)) cut G R T Z) (f : Nat) (L : ZLV) (st : List Value) (σ : ZHp) (n k w : Nat) : Z (f + 1) 133 L st σ n k w = s_aload 1 134 L st σ n k w (zk1 cut G (Z f)) G R T := zrs hZ rfl f L st σ n k w
theorem f_X15_errorOfName_134 (hZ : ZRN (ztb (tb_X15_errorOfName E d mc ms)) cut G R T Z) (f : Nat) (L : ZLV) (st : List Value) (σ : ZHp) (n k w : Nat) : Z (f + 1) 134 L st σ n k w = s_getf 12 16 137 L st σ n k w (zk1 cut G (Z f)) G R T := zrs hZ rfl f L st σ n k w
theorem f_X15_errorOfName_137 (hZ : ZRN (ztb (tb_X15_errorOfName E d mc ms)) cut G R T Z) (f : Nat) (L : ZLV) (st : List Value) (σ : ZHp) (n k w : Nat) : Z (f + 1) 137 L st σ n k w = s_const (.int (1)) 138 L st σ n k w (zk1 cut G (Z f)) G R T := zrs hZ rfl f L st σ n k w
theorem f_X15_errorOfName_138 (hZ : ZRN (ztb (tb_X15_errorOfName E d mc ms)) cut G R T Z) (f : Nat) (L : ZLV) (st : List Value) (σ : ZHp) (n k w : Nat) : Z (f + 1) 138 L st σ n k w = s_isub 139 L st σ n k w (zk1 cut G (Z f)) G R T := zrs hZ rfl f L st σ n k w
theorem f_X15_errorOfName_139 (hZ : ZRN (ztb (tb_X15_errorOfName E d mc ms)) cut G R T Z) (f : Nat) (L : ZLV) (st : List Value) (σ : ZHp) (n k w : Nat) : Z (f + 1) 139 L st σ n k w = s_aload 1 140 L st σ n k w (zk1 cut G (Z f)) G R T := zrs hZ rfl f L st σ n k w
theorem f_X15_errorOfName_140 (hZ : ZRN (ztb (tb_X15_errorOfName E d mc ms)) cut G R T Z) (f : Nat) (L : ZLV) (st : List Value) (σ : ZHp) (n k w : Nat) : Z (f + 1) 140 L st σ n k w = s_getf 12 3 143 L st σ n k w (zk1 cut G (Z f)) G R T := zrs hZ rfl f L st σ n k w
theorem f_X15_errorOfName_143 (hZ : ZRN (ztb (tb_X15_errorOfName E d mc ms)) cut G R T Z) (f : Nat) (L : ZLV) (st : List Value) (σ : ZHp) (n k w : Nat) : Z (f + 1) 143 L st σ n k w = s_iload 2 144 L st σ n k w (zk1 cut G (Z f)) G R T := zrs hZ rfl f L st σ n k w
theorem f_X15_errorOfName_144 (hZ : ZRN (ztb (tb_X15_errorOfName E d mc ms)) cut G R T Z) (f : Nat) (L : ZLV) (st : List Value) (σ : ZHp) (n k w : Nat) : Z (f + 1) 144 L st σ n k w = s_iaload E 145 L st σ n k w (zk1 cut G (Z f)) G R T := zrs hZ rfl f L st σ n k w
theorem f_X15_errorOfName_145 (hZ : ZRN (ztb (tb_X15_errorOfName E d mc ms)) cut G R T Z) (f : Nat) (L : ZLV) (st : List Value) (σ : ZHp) (n k w : Nat) : Z (f + 1) 145 L st σ n k w = s_iastore E 146 L st σ n k w (zk1 cut G (Z f)) G R T := zrs hZ rfl f L st σ n k w
theorem f_X15_errorOfName_146 (hZ : ZRN (ztb (tb_X15_errorOfName E d mc ms)) cut G R T Z) (f : Nat) (L : ZLV) (st : List Value) (σ : ZHp) (n k w : Nat) : Z (f + 1) 146 L st σ n k w = s_const (.int (0)) 147 L st σ n k w (zk1 cut G (Z f)) G R T := zrs hZ rfl f L st σ n k w
theorem f_X15_errorOfName_147 (hZ : ZRN (ztb (tb_X15_errorOfName E d mc ms)) cut G R T Z) (f : Nat) (L : ZLV) (st : List Value) (σ : ZHp) (n k w : Nat) : Z (f + 1) 147 L st σ n k w = s_ireturn L st σ n k w (zk1 cut G (Z f)) G R T := zrs hZ rfl f L st σ n k w
theorem f_X15_errorOfRange_0 (hZ : ZRN (ztb (tb_X15_errorOfRange E d mc ms)) cut G R T Z) (f : Nat) (L : ZLV) (st : List Value) (σ : ZHp) (n k w : Nat) : Z (f + 1) 0 L st σ n k w = s_iload 0 1 L st σ n k w (zk1 cut G (Z f)) G R T := zrs hZ rfl f L st σ n k w
theorem f_X15_errorOfRange_1 (hZ : ZRN (ztb (tb_X15_errorOfRange E d mc ms)) cut G R T Z) (f : Nat) (L : ZLV) (st : List Value) (σ : ZHp) (n k w : Nat) : Z (f + 1) 1 L st σ n k w = s_iload 1 2 L st σ n k w (zk1 cut G (Z f)) G R T := zrs hZ rfl f L st σ n k w
theorem f_X15_errorOfRange_2 (hZ : ZRN (ztb (tb_X15_errorOfRange E d mc ms)) cut G R T Z) (f : Nat) (L : ZLV) (st : List Value) (σ : ZHp) (n k w : Nat) : Z (f + 1) 2 L st σ n k w = s_iload 2 3 L st σ n k w (zk1 cut G (Z f)) G R T := zrs hZ rfl f L st σ n k w
theorem f_X15_errorOfRange_3 (hZ : ZRN (ztb (tb_X15_errorOfRange E d mc ms)) cut G R T Z) (f : Nat) (L : ZLV) (st : List Value) (σ : ZHp) (n k w : Nat) : Z (f + 1) 3 L st σ n k w = s_callS E d mc ms MX15_isIn 3 6 L st σ n k w (zk1 cut G (Z f)) G R T := zrs hZ rfl f L st σ n k w
theorem f_X15_errorOfRange_6 (hZ : ZRN (ztb (tb_X15_errorOfRange E d mc ms)) cut G R T Z) (f : Nat) (L : ZLV) (st : List Value) (σ : ZHp) (n k w : Nat) : Z (f + 1) 6 L st σ n k w = s_if_eq 13 9 L st σ n k w (zk1 cut G (Z f)) G R T := zrs hZ rfl f L st σ n k w
theorem f_X15_errorOfRange_9 (hZ : ZRN (ztb (tb_X15_errorOfRange E d mc ms)) cut G R T Z) (f : Nat) (L : ZLV) (st : List Value) (σ : ZHp) (n k w : Nat) : Z (f + 1) 9 L st σ n k w = s_const (.int (0)) 10 L st σ n k w (zk1 cut G (Z f)) G R T := zrs hZ rfl f L st σ n k w
theorem f_X15_errorOfRange_10 (hZ : ZRN (ztb (tb_X15_errorOfRange E d mc ms)) cut G R T Z) (f : Nat) (L : ZLV) (st : List Value) (σ : ZHp) (n k w : Nat) : Z (f + 1) 10 L st σ n k w = s_goto 14 L st σ n k w (zk1 cut G (Z f)) G R T := zrs hZ rfl f L st σ n k w
theorem f_X15_errorOfRange_13 (hZ : ZRN (ztb (tb_X15_errorOfRange E d mc ms)) cut G R T Z) (f : Nat) (L : ZLV) (st : List Value) (σ : ZHp) (n k w : Nat) : Z (f + 1) 13 L st σ n k w = s_const (.int (5)) 14 L st σ n k w (zk1 cut G (Z f)) G R T := zrs hZ rfl f L st σ n k w
theorem f_X15_errorOfRange_14 (hZ : ZRN (ztb (tb_X15_errorOfRange E d mc ms)) cut G R T Z) (f : Nat) (L : ZLV) (st : List Value) (σ : ZHp) (n k w : Nat) : Z (f + 1) 14 L st σ n k w = s_ireturn L st σ n k w (zk1 cut G (Z f)) G R T := zrs hZ rfl f L st σ n k w
theorem f_X15_errorOfNumber_0 (hZ : ZRN (ztb (tb_X15_errorOfNumber E d mc ms)) cut G R T Z) (f : Nat) (L : ZLV) (st : List Value) (σ : ZHp) (n k w : Nat) : Z (f + 1) 0 L st σ n k w = s_aload 0 1 L st σ n k w (zk1 cut G (Z f)) G R T := zrs hZ rfl f L st σ n k w
theorem f_X15_errorOfNumber_1 (hZ : ZRN (ztb (tb_X15_errorOfNumber E d mc ms)) cut G R T Z) (f : Nat) (L : ZLV) (st : List Value) (σ : ZHp) (n k w : Nat) : Z (f + 1) 1 L st σ n k w = s_aload 1 2 L st σ n k w (zk1 cut G (Z f)) G R T := zrs hZ rfl f L st σ n k w
theorem f_X15_errorOfNumber_2 (hZ : ZRN (ztb (tb_X15_errorOfNumber E d mc ms)) cut G R T Z) (f : Nat) (L : ZLV) (st : List Value) (σ : ZHp) (n k w : Nat) : Z (f + 1) 2 L st σ n k w = s_iload 2 3 L st σ n k w (zk1 cut G (Z f)) G R T := zrs hZ rfl f L st σ n k w
theorem f_X15_errorOfNumber_3 (hZ : ZRN (ztb (tb_X15_errorOfNumber E d mc ms)) cut G R T Z) (f : Nat) (L : ZLV) (st : List Value) (σ : ZHp) (n k w : Nat) : Z (f + 1) 3 L st σ n k w = s_callV E d mc ms 14 MX15_number 2 6 L st σ n k w (zk1 cut G (Z f)) G R T := zrs hZ rfl f L st σ n k w
theorem f_X15_errorOfNumber_6 (hZ : ZRN (ztb (tb_X15_errorOfNumber E d mc ms)) cut G R T Z) (f : Nat) (L : ZLV) (st : List Value) (σ : ZHp) (n k w : Nat) : Z (f + 1) 6 L st σ n k w = s_istore 3 7 L st σ n k w (zk1 cut G (Z f)) G R T := zrs hZ rfl f L st σ n k w
theorem f_X15_errorOfNumber_7 (hZ : ZRN (ztb (tb_X15_errorOfNumber E d mc ms)) cut G R T Z) (f : Nat) (L : ZLV) (st : List Value) (σ : ZHp) (n k w : Nat) : Z (f + 1) 7 L st σ n k w = s_aload 1 8 L st σ n k w (zk1 cut G (Z f)) G R T := zrs hZ rfl f L st σ n k w
theorem f_X15_errorOfNumber_8 (hZ : ZRN (ztb (tb_X15_errorOfNumber E d mc ms)) cut G R T Z) (f : Nat) (L : ZLV) (st : List Value) (σ : ZHp) (n k w : Nat) : Z (f + 1) 8 L st σ n k w = s_getf 12 3 11 L st σ n k w (zk1 cut G (Z f)) G R T := zrs hZ rfl f L st σ n k w
theorem f_X15_errorOfNumber_11 (hZ : ZRN (ztb (tb_X15_errorOfNumber E d mc ms)) cut G R T Z) (f : Nat) (L : ZLV) (st : List Value) (σ : ZHp) (n k w : Nat) : Z (f + 1) 11 L st σ n k w = s_iload 2 12 L st σ n k w (zk1 cut G (Z f)) G R T := zrs hZ rfl f L st σ n k w
theorem f_X15_errorOfNumber_12 (hZ : ZRN (ztb (tb_X15_errorOfNumber E d mc ms)) cut G R T Z) (f : Nat) (L : ZLV) (st : List Value) (σ : ZHp) (n k w : Nat) : Z (f + 1) 12 L st σ n k w = s_iload 3 13 L st σ n k w (zk1 cut G (Z f)) G R T := zrs hZ rfl f L st σ n k w
theorem f_X15_errorOfNumber_13 (hZ : ZRN (ztb (tb_X15_errorOfNumber E d mc ms)) cut G R T Z) (f : Nat) (L : ZLV) (st : List Value) (σ : ZHp) (n k w : Nat) : Z (f + 1) 13 L st σ n k w = s_iastore E 14 L st σ n k w (zk1 cut G (Z f)) G R T := zrs hZ rfl f L st σ n k w
theorem f_X15_errorOfNumber_14 (hZ : ZRN (ztb (tb_X15_errorOfNumber E d mc ms)) cut G R T Z) (f : Nat) (L : ZLV) (st : List Value) (σ : ZHp) (n k w : Nat) : Z (f + 1) 14 L st σ n k w = s_aload 1 15 L st σ n k w (zk1 cut G (Z f)) G R T := zrs hZ rfl f L st σ n k w
theorem f_X15_errorOfNumber_15 (hZ : ZRN (ztb (tb_X15_errorOfNumber E d mc ms)) cut G R T Z) (f : Nat) (L : ZLV) (st : List Value) (σ : ZHp) (n k w : Nat) : Z (f + 1) 15 L st σ n k w = s_getf 12 0 18 L st σ n k w (zk1 cut G (Z f)) G R T := zrs hZ rfl f L st σ n k w
theorem f_X15_errorOfNumber_18 (hZ : ZRN (ztb (tb_X15_errorOfNumber E d mc ms)) cut G R T Z) (f : Nat) (L : ZLV) (st : List Value) (σ : ZHp) (n k w : Nat) : Z (f + 1) 18 L st σ n k w = s_iload 2 19 L st σ n k w (zk1 cut G (Z f)) G R T := zrs hZ rfl f L st σ n k w
theorem f_X15_errorOfNumber_19 (hZ : ZRN (ztb (tb_X15_errorOfNumber E d mc ms)) cut G R T Z) (f : Nat) (L : ZLV) (st : List Value) (σ : ZHp) (n k w : Nat) : Z (f + 1) 19 L st σ n k w = s_const (.int (1)) 20 L st σ n k w (zk1 cut G (Z f)) G R T := zrs hZ rfl f L st σ n k w
theorem f_X15_errorOfNumber_20 (hZ : ZRN (ztb (tb_X15_errorOfNumber E d mc ms)) cut G R T Z) (f : Nat) (L : ZLV) (st : List Value) (σ : ZHp) (n k w : Nat) : Z (f + 1) 20 L st σ n k w = s_isub 21 L st σ n k w (zk1 cut G (Z f)) G R T := zrs hZ rfl f L st σ n k w
theorem f_X15_errorOfNumber_21 (hZ : ZRN (ztb (tb_X15_errorOfNumber E d mc ms)) cut G R T Z) (f : Nat) (L : ZLV) (st : List Value) (σ : ZHp) (n k w : Nat) : Z (f + 1) 21 L st σ n k w = s_iaload E 22 L st σ n k w (zk1 cut G (Z f)) G R T := zrs hZ rfl f L st σ n k w
theorem f_X15_errorOfNumber_22 (hZ : ZRN (ztb (tb_X15_errorOfNumber E d mc ms)) cut G R T Z) (f : Nat) (L : ZLV) (st : List Value) (σ : ZHp) (n k w : Nat) : Z (f + 1) 22 L st σ n k w = s_tsw 1 [76, 96, 157, 157, 157, 157, 157, 116, 157, 144] 157 L st σ n k w (zk1 cut G (Z f)) G R T := zrs hZ rfl f L st σ n k w
theorem f_X15_errorOfNumber_76 (hZ : ZRN (ztb (tb_X15_errorOfNumber E d mc ms)) cut G R T Z) (f : Nat) (L : ZLV) (st : List Value) (σ : ZHp) (n k w : Nat) : Z (f + 1) 76 L st σ n k w = s_aload 1 77 L st σ n k w (zk1 cut G (Z f)) G R T := zrs hZ rfl f L st σ n k w
theorem f_X15_errorOfNumber_77 (hZ : ZRN (ztb (tb_X15_errorOfNumber E d mc ms)) cut G R T Z) (f : Nat) (L : ZLV) (st : List Value) (σ : ZHp) (n k w : Nat) : Z (f + 1) 77 L st σ n k w = s_getf 12 7 80 L st σ n k w (zk1 cut G (Z f)) G R T := zrs hZ rfl f L st σ n k w
theorem f_X15_errorOfNumber_80 (hZ : ZRN (ztb (tb_X15_errorOfNumber E d mc ms)) cut G R T Z) (f : Nat) (L : ZLV) (st : List Value) (σ : ZHp) (n k w : Nat) : Z (f + 1) 80 L st σ n k w = s_aload 1 81 L st σ n k w (zk1 cut G (Z f)) G R T := zrs hZ rfl f L st σ n k w
theorem f_X15_errorOfNumber_81 (hZ : ZRN (ztb (tb_X15_errorOfNumber E d mc ms)) cut G R T Z) (f : Nat) (L : ZLV) (st : List Value) (σ : ZHp) (n k w : Nat) : Z (f + 1) 81 L st σ n k w = s_getf 12 5 84 L st σ n k w (zk1 cut G (Z f)) G R T := zrs hZ rfl f L st σ n k w
theorem f_X15_errorOfNumber_84 (hZ : ZRN (ztb (tb_X15_errorOfNumber E d mc ms)) cut G R T Z) (f : Nat) (L : ZLV) (st : List Value) (σ : ZHp) (n k w : Nat) : Z (f + 1) 84 L st σ n k w = s_const (.int (1)) 85 L st σ n k w (zk1 cut G (Z f)) G R T := zrs hZ rfl f L st σ n k w
theorem f_X15_errorOfNumber_85 (hZ : ZRN (ztb (tb_X15_errorOfNumber E d mc ms)) cut G R T Z) (f : Nat) (L : ZLV) (st : List Value) (σ : ZHp) (n k w : Nat) : Z (f + 1) 85 L st σ n k w = s_isub 86 L st σ n k w (zk1 cut G (Z f)) G R T := zrs hZ rfl f L st σ n k w
theorem f_X15_errorOfNumber_86 (hZ : ZRN (ztb (tb_X15_errorOfNumber E d mc ms)) cut G R T Z) (f : Nat) (L : ZLV) (st : List Value) (σ : ZHp) (n k w : Nat) : Z (f + 1) 86 L st σ n k w = s_iload 3 87 L st σ n k w (zk1 cut G (Z f)) G R T := zrs hZ rfl f L st σ n k w
theorem f_X15_errorOfNumber_87 (hZ : ZRN (ztb (tb_X15_errorOfNumber E d mc ms)) cut G R T Z) (f : Nat) (L : ZLV) (st : List Value) (σ : ZHp) (n k w : Nat) : Z (f + 1) 87 L st σ n k w = s_iastore E 88 L st σ n k w (zk1 cut G (Z f)) G R T := zrs hZ rfl f L st σ n k w
theorem f_X15_errorOfNumber_88 (hZ : ZRN (ztb (tb_X15_errorOfNumber E d mc ms)) cut G R T Z) (f : Nat) (L : ZLV) (st : List Value) (σ : ZHp) (n k w : Nat) : Z (f + 1) 88 L st σ n k w = s_iload 3 89 L st σ n k w (zk1 cut G (Z f)) G R T := zrs hZ rfl f L st σ n k w
theorem f_X15_errorOfNumber_89 (hZ : ZRN (ztb (tb_X15_errorOfNumber E d mc ms)) cut G R T Z) (f : Nat) (L : ZLV) (st : List Value) (σ : ZHp) (n k w : Nat) : Z (f + 1) 89 L st σ n k w = s_const (.int (0)) 90 L st σ n k w (zk1 cut G (Z f)) G R T := zrs hZ rfl f L st σ n k w
theorem f_X15_errorOfNumber_90 (hZ : ZRN (ztb (tb_X15_errorOfNumber E d mc ms)) cut G R T Z) (f : Nat) (L : ZLV) (st : List Value) (σ : ZHp) (n k w : Nat) : Z (f + 1) 90 L st σ n k w = s_const (.int (99)) 92 L st σ n k w (zk1 cut G (Z f)) G R T := zrs hZ rfl f L st σ n k w
theorem f_X15_errorOfNumber_92 (hZ : ZRN (ztb (tb_X15_errorOfNumber E d mc ms)) cut G R T Z) (f : Nat) (L : ZLV) (st : List Value) (σ : ZHp) (n k w : Nat) : Z (f + 1) 92 L st σ n k w = s_callS E d mc ms MX15_errorOfRange 3 95 L st σ n k w (zk1 cut G (Z f)) G R T := zrs hZ rfl f L st σ n k w
theorem f_X15_errorOfNumber_95 (hZ : ZRN (ztb (tb_X15_errorOfNumber E d mc ms)) cut G R T Z) (f : Nat) (L : ZLV) (st : List Value) (σ : ZHp) (n k w : Nat) : Z (f + 1) 95 L st σ n k w = s_ireturn L st σ n k w (zk1 cut G (Z f)) G R T := zrs hZ rfl f L st σ n k w
theorem f_X15_errorOfNumber_96 (hZ : ZRN (ztb (tb_X15_errorOfNumber E d mc ms)) cut G R T Z) (f : Nat) (L : ZLV) (st : List Value) (σ : ZHp) (n k w : Nat) : Z (f + 1) 96 L st σ n k w = s_aload 1 97 L st σ n k w (zk1 cut G (Z f)) G R T := zrs hZ rfl f L st σ n k w
theorem f_X15_errorOfNumber_97 (hZ : ZRN (ztb (tb_X15_errorOfNumber E d mc ms)) cut G R T Z) (f : Nat) (L : ZLV) (st : List Value) (σ : ZHp) (n k w : Nat) : Z (f + 1) 97 L st σ n k w = s_getf 12 8 100 L st σ n k w (zk1 cut G (Z f)) G R T := zrs hZ rfl f L st σ n k w
theorem f_X15_errorOfNumber_100 (hZ : ZRN (ztb (tb_X15_errorOfNumber E d mc ms)) cut G R T Z) (f : Nat) (L : ZLV) (st : List Value) (σ : ZHp) (n k w : Nat) : Z (f + 1) 100 L st σ n k w = s_aload 1 101 L st σ n k w (zk1 cut G (Z f)) G R T := zrs hZ rfl f L st σ n k w
theorem f_X15_errorOfNumber_101 (hZ : ZRN (ztb (tb_X15_errorOfNumber E d mc ms)) cut G R T Z) (f : Nat) (L : ZLV) (st : List Value) (σ : ZHp) (n k w : Nat) : Z (f + 1) 101 L st σ n k w = s_getf 12 5 104 L st σ n k w (zk1 cut G (Z f)) G R T := zrs hZ rfl f L st σ n k w
theorem f_X15_errorOfNumber_104 (hZ : ZRN (ztb (tb_X15_errorOfNumber E d mc ms)) cut G R T Z) (f : Nat) (L : ZLV) (st : List Value) (σ : ZHp) (n k w : Nat) : Z (f + 1) 104 L st σ n k w = s_const (.int (1)) 105 L st σ n k w (zk1 cut G (Z f)) G R T := zrs hZ rfl f L st σ n k w
theorem f_X15_errorOfNumber_105 (hZ : ZRN (ztb (tb_X15_errorOfNumber E d mc ms)) cut G R T Z) (f : Nat) (L : ZLV) (st : List Value) (σ : ZHp) (n k w : Nat) : Z (f + 1) 105 L st σ n k w = s_isub 106 L st σ n k w (zk1 cut G (Z f)) G R T := zrs hZ rfl f L st σ n k w
theorem f_X15_errorOfNumber_106 (hZ : ZRN (ztb (tb_X15_errorOfNumber E d mc ms)) cut G R T Z) (f : Nat) (L : ZLV) (st : List Value) (σ : ZHp) (n k w : Nat) : Z (f + 1) 106 L st σ n k w = s_iload 3 107 L st σ n k w (zk1 cut G (Z f)) G R T := zrs hZ rfl f L st σ n k w
theorem f_X15_errorOfNumber_107 (hZ : ZRN (ztb (tb_X15_errorOfNumber E d mc ms)) cut G R T Z) (f : Nat) (L : ZLV) (st : List Value) (σ : ZHp) (n k w : Nat) : Z (f + 1) 107 L st σ n k w = s_iastore E 108 L st σ n k w (zk1 cut G (Z f)) G R T := zrs hZ rfl f L st σ n k w
theorem f_X15_errorOfNumber_108 (hZ : ZRN (ztb (tb_X15_errorOfNumber E d mc ms)) cut G R T Z) (f : Nat) (L : ZLV) (st : List Value) (σ : ZHp) (n k w : Nat) : Z (f + 1) 108 L st σ n k w = s_iload 3 109 L st σ n k w (zk1 cut G (Z f)) G R T := zrs hZ rfl f L st σ n k w
theorem f_X15_errorOfNumber_109 (hZ : ZRN (ztb (tb_X15_errorOfNumber E d mc ms)) cut G R T Z) (f : Nat) (L : ZLV) (st : List Value) (σ : ZHp) (n k w : Nat) : Z (f + 1) 109 L st σ n k w = s_const (.int (0)) 110 L st σ n k w (zk1 cut G (Z f)) G R T := zrs hZ rfl f L st σ n k w
theorem f_X15_errorOfNumber_110 (hZ : ZRN (ztb (tb_X15_errorOfNumber E d mc ms)) cut G R T Z) (f : Nat) (L : ZLV) (st : List Value) (σ : ZHp) (n k w : Nat) : Z (f + 1) 110 L st σ n k w = s_const (.int (99)) 112 L st σ n k w (zk1 cut G (Z f)) G R T := zrs hZ rfl f L st σ n k w
theorem f_X15_errorOfNumber_112 (hZ : ZRN (ztb (tb_X15_errorOfNumber E d mc ms)) cut G R T Z) (f : Nat) (L : ZLV) (st : List Value) (σ : ZHp) (n k w : Nat) : Z (f + 1) 112 L st σ n k w = s_callS E d mc ms MX15_errorOfRange 3 115 L st σ n k w (zk1 cut G (Z f)) G R T := zrs hZ rfl f L st σ n k w
theorem f_X15_errorOfNumber_115 (hZ : ZRN (ztb (tb_X15_errorOfNumber E d mc ms)) cut G R T Z) (f : Nat) (L : ZLV) (st : List Value) (σ : ZHp) (n k w : Nat) : Z (f + 1) 115 L st σ n k w = s_ireturn L st σ n k w (zk1 cut G (Z f)) G R T := zrs hZ rfl f L st σ n k w
theorem f_X15_errorOfNumber_116 (hZ : ZRN (ztb (tb_X15_errorOfNumber E d mc ms)) cut G R T Z) (f : Nat) (L : ZLV) (st : List Value) (σ : ZHp) (n k w : Nat) : Z (f + 1) 116 L st σ n k w = s_aload 1 117 L st σ n k w (zk1 cut G (Z f)) G R T := zrs hZ rfl f L st σ n k w
theorem f_X15_errorOfNumber_117 (hZ : ZRN (ztb (tb_X15_errorOfNumber E d mc ms)) cut G R T Z) (f : Nat) (L : ZLV) (st : List Value) (σ : ZHp) (n k w : Nat) : Z (f + 1) 117 L st σ n k w = s_iload 3 118 L st σ n k w (zk1 cut G (Z f)) G R T := zrs hZ rfl f L st σ n k w
theorem f_X15_errorOfNumber_118 (hZ : ZRN (ztb (tb_X15_errorOfNumber E d mc ms)) cut G R T Z) (f : Nat) (L : ZLV) (st : List Value) (σ : ZHp) (n k w : Nat) : Z (f + 1) 118 L st σ n k w = s_putf 12 20 0 121 L st σ n k w (zk1 cut G (Z f)) G R T := zrs hZ rfl f L st σ n k w
theorem f_X15_errorOfNumber_121 (hZ : ZRN (ztb (tb_X15_errorOfNumber E d mc ms)) cut G R T Z) (f : Nat) (L : ZLV) (st : List Value) (σ : ZHp) (n k w : Nat) : Z (f + 1) 121 L st σ n k w = s_aload 1 122 L st σ n k w (zk1 cut G (Z f)) G R T := zrs hZ rfl f L st σ n k w
theorem f_X15_errorOfNumber_122 (hZ : ZRN (ztb (tb_X15_errorOfNumber E d mc ms)) cut G R T Z) (f : Nat) (L : ZLV) (st : List Value) (σ : ZHp) (n k w : Nat) : Z (f + 1) 122 L st σ n k w = s_getf 12 14 125 L st σ n k w (zk1 cut G (Z f)) G R T := zrs hZ rfl f L st σ n k w
theorem f_X15_errorOfNumber_125 (hZ : ZRN (ztb (tb_X15_errorOfNumber E d mc ms)) cut G R T Z) (f : Nat) (L : ZLV) (st : List Value) (σ : ZHp) (n k w : Nat) : Z (f + 1) 125 L st σ n k w = s_iload 3 126 L st σ n k w (zk1 cut G (Z f)) G R T := zrs hZ rfl f L st σ n k w
theorem f_X15_errorOfNumber_126 (hZ : ZRN (ztb (tb_X15_errorOfNumber E d mc ms)) cut G R T Z) (f : Nat) (L : ZLV) (st : List Value) (σ : ZHp) (n k w : Nat) : Z (f + 1) 126 L st σ n k w = s_iadd 127 L st σ n k w (zk1 cut G (Z f)) G R T := zrs hZ rfl f L st σ n k w
theorem f_X15_errorOfNumber_127 (hZ : ZRN (ztb (tb_X15_errorOfNumber E d mc ms)) cut G R T Z) (f : Nat) (L : ZLV) (st : List Value) (σ : ZHp) (n k w : Nat) : Z (f + 1) 127 L st σ n k w = s_const (.int (20)) 129 L st σ n k w (zk1 cut G (Z f)) G R T := zrs hZ rfl f L st σ n k w
theorem f_X15_errorOfNumber_129 (hZ : ZRN (ztb (tb_X15_errorOfNumber E d mc ms)) cut G R T Z) (f : Nat) (L : ZLV) (st : List Value) (σ : ZHp) (n k w : Nat) : Z (f + 1) 129 L st σ n k w = s_icmp_le 136 132 L st σ n k w (zk1 cut G (Z f)) G R T := zrs hZ rfl f L st σ n k w
theorem f_X15_errorOfNumber_132 (hZ : ZRN (ztb (tb_X15_errorOfNumber E d mc ms)) cut G R T Z) (f : Nat) (L : ZLV) (st : List Value) (σ : ZHp) (n k w : Nat) : Z (f + 1) 132 L st σ n k w = s_const (.int (4)) 133 L st σ n k w (zk1 cut G (Z f)) G R T := zrs hZ rfl f L st σ n k w
theorem f_X15_errorOfNumber_133 (hZ : ZRN (ztb (tb_X15_errorOfNumber E d mc ms)) cut G R T Z) (f : Nat) (L : ZLV) (st : List Value) (σ : ZHp) (n k w : Nat) : Z (f + 1) 133 L st σ n k w = s_goto 143 L st σ n k w (zk1 cut G (Z f)) G R T := zrs hZ rfl f L st σ n k w
theorem f_X15_errorOfNumber_136 (hZ : ZRN (ztb (tb_X15_errorOfNumber E d mc ms)) cut G R T Z) (f : Nat) (L : ZLV) (st : List Value) (σ : ZHp) (n k w : Nat) : Z (f + 1) 136 L st σ n k w = s_iload 3 137 L st σ n k w (zk1 cut G (Z f)) G R T := zrs hZ rfl f L st σ n k w
theorem f_X15_errorOfNumber_137 (hZ : ZRN (ztb (tb_X15_errorOfNumber E d mc ms)) cut G R T Z) (f : Nat) (L : ZLV) (st : List Value) (σ : ZHp) (n k w : Nat) : Z (f + 1) 137 L st σ n k w = s_const (.int (1)) 138 L st σ n k w (zk1 cut G (Z f)) G R T := zrs hZ rfl f L st σ n k w
theorem f_X15_errorOfNumber_138 (hZ : ZRN (ztb (tb_X15_errorOfNumber E d mc ms)) cut G R T Z) (f : Nat) (L : ZLV) (st : List Value) (σ : ZHp) (n k w : Nat) : Z (f + 1) 138 L st σ n k w = s_const (.int (20)) 140 L st σ n k w (zk1 cut G (Z f)) G R T := zrs hZ rfl f L st σ n k w
theorem f_X15_errorOfNumber_140 (hZ : ZRN (ztb (tb_X15_errorOfNumber E d mc ms)) cut G R T Z) (f : Nat) (L : ZLV) (st : List Value) (σ : ZHp) (n k w : Nat) : Z (f + 1) 140 L st σ n k w = s_callS E d mc ms MX15_errorOfRange 3 143 L st σ n k w (zk1 cut G (Z f)) G R T := zrs hZ rfl f L st σ n k w
theorem f_X15_errorOfNumber_143 (hZ : ZRN (ztb (tb_X15_errorOfNumber E d mc ms)) cut G R T Z) (f : Nat) (L : ZLV) (st : List Value) (σ : ZHp) (n k w : Nat) : Z (f + 1) 143 L st σ n k w = s_ireturn L st σ n k w (zk1 cut G (Z f)) G R T := zrs hZ rfl f L st σ n k w
theorem f_X15_errorOfNumber_144 (hZ : ZRN (ztb (tb_X15_errorOfNumber E d mc ms)) cut G R T Z) (f : Nat) (L : ZLV) (st : List Value) (σ : ZHp) (n k w : Nat) : Z (f + 1) 144 L st σ n k w = s_aload 1 145 L st σ n k w (zk1 cut G (Z f)) G R T := zrs hZ rfl f L st σ n k w
theorem f_X15_errorOfNumber_145 (hZ : ZRN (ztb (tb_X15_errorOfNumber E d mc ms)) cut G R T Z) (f : Nat) (L : ZLV) (st : List Value) (σ : ZHp) (n k w : Nat) : Z (f + 1) 145 L st σ n k w = s_iload 3 146 L st σ n k w (zk1 cut G (Z f)) G R T := zrs hZ rfl f L st σ n k w
theorem f_X15_errorOfNumber_146 (hZ : ZRN (ztb (tb_X15_errorOfNumber E d mc ms)) cut G R T Z) (f : Nat) (L : ZLV) (st : List Value) (σ : ZHp) (n k w : Nat) : Z (f + 1) 146 L st σ n k w = s_putf 12 20 0 149 L st σ n k w (zk1 cut G (Z f)) G R T := zrs hZ rfl f L st σ n k w
theorem f_X15_errorOfNumber_149 (hZ : ZRN (ztb (tb_X15_errorOfNumber E d mc ms)) cut G R T Z) (f : Nat) (L : ZLV) (st : List Value) (σ : ZHp) (n k w : Nat) : Z (f + 1) 149 L st σ n k w = s_iload 3 150 L st σ n k w (zk1 cut G (Z f)) G R T := zrs hZ rfl f L st σ n k w
theorem f_X15_errorOfNumber_150 (hZ : ZRN (ztb (tb_X15_errorOfNumber E d mc ms)) cut G R T Z) (f : Nat) (L : ZLV) (st : List Value) (σ : ZHp) (n k w : Nat) : Z (f + 1) 150 L st σ n k w = s_const (.int (0)) 151 L st σ n k w (zk1 cut G (Z f)) G R T := zrs hZ rfl f L st σ n k w
theorem f_X15_errorOfNumber_151 (hZ : ZRN (ztb (tb_X15_errorOfNumber E d mc ms)) cut G R T Z) (f : Nat) (L : ZLV) (st : List Value) (σ : ZHp) (n k w : Nat) : Z (f + 1) 151 L st σ n k w = s_const (.int (30)) 153 L st σ n k w (zk1 cut G (Z f)) G R T := zrs hZ rfl f L st σ n k w
theorem f_X15_errorOfNumber_153 (hZ : ZRN (ztb (tb_X15_errorOfNumber E d mc ms)) cut G R T Z) (f : Nat) (L : ZLV) (st : List Value) (σ : ZHp) (n k w : Nat) : Z (f + 1) 153 L st σ n k w = s_callS E d mc ms MX15_errorOfRange 3 156 L st σ n k w (zk1 cut G (Z f)) G R T := zrs hZ rfl f L st σ n k w
theorem f_X15_errorOfNumber_156 (hZ : ZRN (ztb (tb_X15_errorOfNumber E d mc ms)) cut G R T Z) (f : Nat) (L : ZLV) (st : List Value) (σ : ZHp) (n k w : Nat) : Z (f + 1) 156 L st σ n k w = s_ireturn L st σ n k w (zk1 cut G (Z f)) G R T := zrs hZ rfl f L st σ n k w
theorem f_X15_errorOfNumber_157 (hZ : ZRN (ztb (tb_X15_errorOfNumber E d mc ms)) cut G R T Z) (f : Nat) (L : ZLV) (st : List Value) (σ : ZHp) (n k w : Nat) : Z (f + 1) 157 L st σ n k w = s_const (.int (0)) 158 L st σ n k w (zk1 cut G (Z f)) G R T := zrs hZ rfl f L st σ n k w
theorem f_X15_errorOfNumber_158 (hZ : ZRN (ztb (tb_X15_errorOfNumber E d mc ms)) cut G R T Z) (f : Nat) (L : ZLV) (st : List Value) (σ : ZHp) (n k w : Nat) : Z (f + 1) 158 L st σ n k w = s_ireturn L st σ n k w (zk1 cut G (Z f)) G R T := zrs hZ rfl f L st σ n k w
theorem f_X15_errorOfDeed_0 (hZ : ZRN (ztb (tb_X15_errorOfDeed E d mc ms)) cut G R T Z) (f : Nat) (L : ZLV) (st : List Value) (σ : ZHp) (n k w : Nat) : Z (f + 1) 0 L st σ n k w = s_aload 1 1 L st σ n k w (zk1 cut G (Z f)) G R T := zrs hZ rfl f L st σ n k w
theorem f_X15_errorOfDeed_1 (hZ : ZRN (ztb (tb_X15_errorOfDeed E d mc ms)) cut G R T Z) (f : Nat) (L : ZLV) (st : List Value) (σ : ZHp) (n k w : Nat) : Z (f + 1) 1 L st σ n k w = s_getf 12 5 4 L st σ n k w (zk1 cut G (Z f)) G R T := zrs hZ rfl f L st σ n k w
theorem f_X15_errorOfDeed_4 (hZ : ZRN (ztb (tb_X15_errorOfDeed E d mc ms)) cut G R T Z) (f : Nat) (L : ZLV) (st : List Value) (σ : ZHp) (n k w : Nat) : Z (f + 1) 4 L st σ n k w = s_const (.int (1)) 5 L st σ n k w (zk1 cut G (Z f)) G R T := zrs hZ rfl f L st σ n k w
theorem f_X15_errorOfDeed_5 (hZ : ZRN (ztb (tb_X15_errorOfDeed E d mc ms)) cut G R T Z) (f : Nat) (L : ZLV) (st : List Value) (σ : ZHp) (n k w : Nat) : Z (f + 1) 5 L st σ n k w = s_isub 6 L st σ n k w (zk1 cut G (Z f)) G R T := zrs hZ rfl f L st σ n k w
theorem f_X15_errorOfDeed_6 (hZ : ZRN (ztb (tb_X15_errorOfDeed E d mc ms)) cut G R T Z) (f : Nat) (L : ZLV) (st : List Value) (σ : ZHp) (n k w : Nat) : Z (f + 1) 6 L st σ n k w = s_istore 3 7 L st σ n k w (zk1 cut G (Z f)) G R T := zrs hZ rfl f L st σ n k w
theorem f_X15_errorOfDeed_7 (hZ : ZRN (ztb (tb_X15_errorOfDeed E d mc ms)) cut G R T Z) (f : Nat) (L : ZLV) (st : List Value) (σ : ZHp) (n k w : Nat) : Z (f + 1) 7 L st σ n k w = s_aload 1 8 L st σ n k w (zk1 cut G (Z f)) G R T := zrs hZ rfl f L st σ n k w
theorem f_X15_errorOfDeed_8 (hZ : ZRN (ztb (tb_X15_errorOfDeed E d mc ms)) cut G R T Z) (f : Nat) (L : ZLV) (st : List Value) (σ : ZHp) (n k w : Nat) : Z (f + 1) 8 L st σ n k w = s_getf 12 10 11 L st σ n k w (zk1 cut G (Z f)) G R T := zrs hZ rfl f L st σ n k w
theorem f_X15_errorOfDeed_11 (hZ : ZRN (ztb (tb_X15_errorOfDeed E d mc ms)) cut G R T Z) (f : Nat) (L : ZLV) (st : List Value) (σ : ZHp) (n k w : Nat) : Z (f + 1) 11 L st σ n k w = s_iload 3 12 L st σ n k w (zk1 cut G (Z f)) G R T := zrs hZ rfl f L st σ n k w
theorem f_X15_errorOfDeed_12 (hZ : ZRN (ztb (tb_X15_errorOfDeed E d mc ms)) cut G R T Z) (f : Nat) (L : ZLV) (st : List Value) (σ : ZHp) (n k w : Nat) : Z (f + 1) 12 L st σ n k w = s_iaload E 13 L st σ n k w (zk1 cut G (Z f)) G R T := zrs hZ rfl f L st σ n k w
theorem f_X15_errorOfDeed_13 (hZ : ZRN (ztb (tb_X15_errorOfDeed E d mc ms)) cut G R T Z) (f : Nat) (L : ZLV) (st : List Value) (σ : ZHp) (n k w : Nat) : Z (f + 1) 13 L st σ n k w = s_const (.int (4)) 14 L st σ n k w (zk1 cut G (Z f)) G R T := zrs hZ rfl f L st σ n k w
theorem f_X15_errorOfDeed_14 (hZ : ZRN (ztb (tb_X15_errorOfDeed E d mc ms)) cut G R T Z) (f : Nat) (L : ZLV) (st : List Value) (σ : ZHp) (n k w : Nat) : Z (f + 1) 14 L st σ n k w = s_icmp_ne 19 17 L st σ n k w (zk1 cut G (Z f)) G R T := zrs hZ rfl f L st σ n k w
theorem f_X15_errorOfDeed_17 (hZ : ZRN (ztb (tb_X15_errorOfDeed E d mc ms)) cut G R T Z) (f : Nat) (L : ZLV) (st : List Value) (σ : ZHp) (n k w : Nat) : Z (f + 1) 17 L st σ n k w = s_const (.int (4)) 18 L st σ n k w (zk1 cut G (Z f)) G R T := zrs hZ rfl f L st σ n k w
theorem f_X15_errorOfDeed_18 (hZ : ZRN (ztb (tb_X15_errorOfDeed E d mc ms)) cut G R T Z) (f : Nat) (L : ZLV) (st : List Value) (σ : ZHp) (n k w : Nat) : Z (f + 1) 18 L st σ n k w = s_ireturn L st σ n k w (zk1 cut G (Z f)) G R T := zrs hZ rfl f L st σ n k w
theorem f_X15_errorOfDeed_19 (hZ : ZRN (ztb (tb_X15_errorOfDeed E d mc ms)) cut G R T Z) (f : Nat) (L : ZLV) (st : List Value) (σ : ZHp) (n k w : Nat) : Z (f + 1) 19 L st σ n k w = s_aload 1 20 L st σ n k w (zk1 cut G (Z f)) G R T := zrs hZ rfl f L st σ n k w
theorem f_X15_errorOfDeed_20 (hZ : ZRN (ztb (tb_X15_errorOfDeed E d mc ms)) cut G R T Z) (f : Nat) (L : ZLV) (st : List Value) (σ : ZHp) (n k w : Nat) : Z (f + 1) 20 L st σ n k w = s_getf 12 11 23 L st σ n k w (zk1 cut G (Z f)) G R T := zrs hZ rfl f L st σ n k w
theorem f_X15_errorOfDeed_23 (hZ : ZRN (ztb (tb_X15_errorOfDeed E d mc ms)) cut G R T Z) (f : Nat) (L : ZLV) (st : List Value) (σ : ZHp) (n k w : Nat) : Z (f + 1) 23 L st σ n k w = s_const (.int (4)) 24 L st σ n k w (zk1 cut G (Z f)) G R T := zrs hZ rfl f L st σ n k w
theorem f_X15_errorOfDeed_24 (hZ : ZRN (ztb (tb_X15_errorOfDeed E d mc ms)) cut G R T Z) (f : Nat) (L : ZLV) (st : List Value) (σ : ZHp) (n k w : Nat) : Z (f + 1) 24 L st σ n k w = s_iload 3 25 L st σ n k w (zk1 cut G (Z f)) G R T := zrs hZ rfl f L st σ n k w
theorem f_X15_errorOfDeed_25 (hZ : ZRN (ztb (tb_X15_errorOfDeed E d mc ms)) cut G R T Z) (f : Nat) (L : ZLV) (st : List Value) (σ : ZHp) (n k w : Nat) : Z (f + 1) 25 L st σ n k w = s_imul 26 L st σ n k w (zk1 cut G (Z f)) G R T := zrs hZ rfl f L st σ n k w
theorem f_X15_errorOfDeed_26 (hZ : ZRN (ztb (tb_X15_errorOfDeed E d mc ms)) cut G R T Z) (f : Nat) (L : ZLV) (st : List Value) (σ : ZHp) (n k w : Nat) : Z (f + 1) 26 L st σ n k w = s_aload 1 27 L st σ n k w (zk1 cut G (Z f)) G R T := zrs hZ rfl f L st σ n k w
theorem f_X15_errorOfDeed_27 (hZ : ZRN (ztb (tb_X15_errorOfDeed E d mc ms)) cut G R T Z) (f : Nat) (L : ZLV) (st : List Value) (σ : ZHp) (n k w : Nat) : Z (f + 1) 27 L st σ n k w = s_getf 12 10 30 L st σ n k w (zk1 cut G (Z f)) G R T := zrs hZ rfl f L st σ n k w
theorem f_X15_errorOfDeed_30 (hZ : ZRN (ztb (tb_X15_errorOfDeed E d mc ms)) cut G R T Z) (f : Nat) (L : ZLV) (st : List Value) (σ : ZHp) (n k w : Nat) : Z (f + 1) 30 L st σ n k w = s_iload 3 31 L st σ n k w (zk1 cut G (Z f)) G R T := zrs hZ rfl f L st σ n k w
theorem f_X15_errorOfDeed_31 (hZ : ZRN (ztb (tb_X15_errorOfDeed E d mc ms)) cut G R T Z) (f : Nat) (L : ZLV) (st : List Value) (σ : ZHp) (n k w : Nat) : Z (f + 1) 31 L st σ n k w = s_iaload E 32 L st σ n k w (zk1 cut G (Z f)) G R T := zrs hZ rfl f L st σ n k w
theorem f_X15_errorOfDeed_32 (hZ : ZRN (ztb (tb_X15_errorOfDeed E d mc ms)) cut G R T Z) (f : Nat) (L : ZLV) (st : List Value) (σ : ZHp) (n k w : Nat) : Z (f + 1) 32 L st σ n k w = s_iadd 33 L st σ n k w (zk1 cut G (Z f)) G R T := zrs hZ rfl f L st σ n k w
theorem f_X15_errorOfDeed_33 (hZ : ZRN (ztb (tb_X15_errorOfDeed E d mc ms)) cut G R T Z) (f : Nat) (L : ZLV) (st : List Value) (σ : ZHp) (n k w : Nat) : Z (f + 1) 33 L st σ n k w = s_iload 2 34 L st σ n k w (zk1 cut G (Z f)) G R T := zrs hZ rfl f L st σ n k w
theorem f_X15_errorOfDeed_34 (hZ : ZRN (ztb (tb_X15_errorOfDeed E d mc ms)) cut G R T Z) (f : Nat) (L : ZLV) (st : List Value) (σ : ZHp) (n k w : Nat) : Z (f + 1) 34 L st σ n k w = s_iastore E 35 L st σ n k w (zk1 cut G (Z f)) G R T := zrs hZ rfl f L st σ n k w
theorem f_X15_errorOfDeed_35 (hZ : ZRN (ztb (tb_X15_errorOfDeed E d mc ms)) cut G R T Z) (f : Nat) (L : ZLV) (st : List Value) (σ : ZHp) (n k w : Nat) : Z (f + 1) 35 L st σ n k w = s_aload 1 36 L st σ n k w (zk1 cut G (Z f)) G R T := zrs hZ rfl f L st σ n k w
theorem f_X15_errorOfDeed_36 (hZ : ZRN (ztb (tb_X15_errorOfDeed E d mc ms)) cut G R T Z) (f : Nat) (L : ZLV) (st : List Value) (σ : ZHp) (n k w : Nat) : Z (f + 1) 36 L st σ n k w = s_getf 12 10 39 L st σ n k w (zk1 cut G (Z f)) G R T := zrs hZ rfl f L st σ n k w
theorem f_X15_errorOfDeed_39 (hZ : ZRN (ztb (tb_X15_errorOfDeed E d mc ms)) cut G R T Z) (f : Nat) (L : ZLV) (st : List Value) (σ : ZHp) (n k w : Nat) : Z (f + 1) 39 L st σ n k w = s_iload 3 40 L st σ n k w (zk1 cut G (Z f)) G R T := zrs hZ rfl f L st σ n k w
theorem f_X15_errorOfDeed_40 (hZ : ZRN (ztb (tb_X15_errorOfDeed E d mc ms)) cut G R T Z) (f : Nat) (L : ZLV) (st : List Value) (σ : ZHp) (n k w : Nat) : Z (f + 1) 40 L st σ n k w = s_dup2 41 L st σ n k w (zk1 cut G (Z f)) G R T := zrs hZ rfl f L st σ n k w
theorem f_X15_errorOfDeed_41 (hZ : ZRN (ztb (tb_X15_errorOfDeed E d mc ms)) cut G R T Z) (f : Nat) (L : ZLV) (st : List Value) (σ : ZHp) (n k w : Nat) : Z (f + 1) 41 L st σ n k w = s_iaload E 42 L st σ n k w (zk1 cut G (Z f)) G R T := zrs hZ rfl f L st σ n k w
theorem f_X15_errorOfDeed_42 (hZ : ZRN (ztb (tb_X15_errorOfDeed E d mc ms)) cut G R T Z) (f : Nat) (L : ZLV) (st : List Value) (σ : ZHp) (n k w : Nat) : Z (f + 1) 42 L st σ n k w = s_const (.int (1)) 43 L st σ n k w (zk1 cut G (Z f)) G R T := zrs hZ rfl f L st σ n k w
theorem f_X15_errorOfDeed_43 (hZ : ZRN (ztb (tb_X15_errorOfDeed E d mc ms)) cut G R T Z) (f : Nat) (L : ZLV) (st : List Value) (σ : ZHp) (n k w : Nat) : Z (f + 1) 43 L st σ n k w = s_iadd 44 L st σ n k w (zk1 cut G (Z f)) G R T := zrs hZ rfl f L st σ n k w
theorem f_X15_errorOfDeed_44 (hZ : ZRN (ztb (tb_X15_errorOfDeed E d mc ms)) cut G R T Z) (f : Nat) (L : ZLV) (st : List Value) (σ : ZHp) (n k w : Nat) : Z (f + 1) 44 L st σ n k w = s_iastore E 45 L st σ n k w (zk1 cut G (Z f)) G R T := zrs hZ rfl f L st σ n k w
theorem f_X15_errorOfDeed_45 (hZ : ZRN (ztb (tb_X15_errorOfDeed E d mc ms)) cut G R T Z) (f : Nat) (L : ZLV) (st : List Value) (σ : ZHp) (n k w : Nat) : Z (f + 1) 45 L st σ n k w = s_const (.int (0)) 46 L st σ n k w (zk1 cut G (Z f)) G R T := zrs hZ rfl f L st σ n k w
theorem f_X15_errorOfDeed_46 (hZ : ZRN (ztb (tb_X15_errorOfDeed E d mc ms)) cut G R T Z) (f : Nat) (L : ZLV) (st : List Value) (σ : ZHp) (n k w : Nat) : Z (f + 1) 46 L st σ n k w = s_ireturn L st σ n k w (zk1 cut G (Z f)) G R T := zrs hZ rfl f L st σ n k w
theorem f_X15_errorOfOrder_0 (hZ : ZRN (ztb (tb_X15_errorOfOrder E d mc ms)) cut G R T Z) (f : Nat) (L : ZLV) (st : List Value) (σ : ZHp) (n k w : Nat) : Z (f + 1) 0 L st σ n k w = s_aload 1 1 L st σ n k w (zk1 cut G (Z f)) G R T := zrs hZ rfl f L st σ n k w
theorem f_X15_errorOfOrder_1 (hZ : ZRN (ztb (tb_X15_errorOfOrder E d mc ms)) cut G R T Z) (f : Nat) (L : ZLV) (st : List Value) (σ : ZHp) (n k w : Nat) : Z (f + 1) 1 L st σ n k w = s_getf 12 16 4 L st σ n k w (zk1 cut G (Z f)) G R T := zrs hZ rfl f L st σ n k w
theorem f_X15_errorOfOrder_4 (hZ : ZRN (ztb (tb_X15_errorOfOrder E d mc ms)) cut G R T Z) (f : Nat) (L : ZLV) (st : List Value) (σ : ZHp) (n k w : Nat) : Z (f + 1) 4 L st σ n k w = s_const (.int (16)) 6 L st σ n k w (zk1 cut G (Z f)) G R T := zrs hZ rfl f L st σ n k w
theorem f_X15_errorOfOrder_6 (hZ : ZRN (ztb (tb_X15_errorOfOrder E d mc ms)) cut G R T Z) (f : Nat) (L : ZLV) (st : List Value) (σ : ZHp) (n k w : Nat) : Z (f + 1) 6 L st σ n k w = s_icmp_ne 11 9 L st σ n k w (zk1 cut G (Z f)) G R T := zrs hZ rfl f L st σ n k w
theorem f_X15_errorOfOrder_9 (hZ : ZRN (ztb (tb_X15_errorOfOrder E d mc ms)) cut G R T Z) (f : Nat) (L : ZLV) (st : List Value) (σ : ZHp) (n k w : Nat) : Z (f + 1) 9 L st σ n k w = s_const (.int (4)) 10 L st σ n k w (zk1 cut G (Z f)) G R T := zrs hZ rfl f L st σ n k w
theorem f_X15_errorOfOrder_10 (hZ : ZRN (ztb (tb_X15_errorOfOrder E d mc ms)) cut G R T Z) (f : Nat) (L : ZLV) (st : List Value) (σ : ZHp) (n k w : Nat) : Z (f + 1) 10 L st σ n k w = s_ireturn L st σ n k w (zk1 cut G (Z f)) G R T := zrs hZ rfl f L st σ n k w
theorem f_X15_errorOfOrder_11 (hZ : ZRN (ztb (tb_X15_errorOfOrder E d mc ms)) cut G R T Z) (f : Nat) (L : ZLV) (st : List Value) (σ : ZHp) (n k w : Nat) : Z (f + 1) 11 L st σ n k w = s_aload 1 12 L st σ n k w (zk1 cut G (Z f)) G R T := zrs hZ rfl f L st σ n k w
theorem f_X15_errorOfOrder_12 (hZ : ZRN (ztb (tb_X15_errorOfOrder E d mc ms)) cut G R T Z) (f : Nat) (L : ZLV) (st : List Value) (σ : ZHp) (n k w : Nat) : Z (f + 1) 12 L st σ n k w = s_getf 12 19 15 L st σ n k w (zk1 cut G (Z f)) G R T := zrs hZ rfl f L st σ n k w
theorem f_X15_errorOfOrder_15 (hZ : ZRN (ztb (tb_X15_errorOfOrder E d mc ms)) cut G R T Z) (f : Nat) (L : ZLV) (st : List Value) (σ : ZHp) (n k w : Nat) : Z (f + 1) 15 L st σ n k w = s_aload 1 16 L st σ n k w (zk1 cut G (Z f)) G R T := zrs hZ rfl f L st σ n k w
theorem f_X15_errorOfOrder_16 (hZ : ZRN (ztb (tb_X15_errorOfOrder E d mc ms)) cut G R T Z) (f : Nat) (L : ZLV) (st : List Value) (σ : ZHp) (n k w : Nat) : Z (f + 1) 16 L st σ n k w = s_getf 12 16 19 L st σ n k w (zk1 cut G (Z f)) G R T := zrs hZ rfl f L st σ n k w
theorem f_X15_errorOfOrder_19 (hZ : ZRN (ztb (tb_X15_errorOfOrder E d mc ms)) cut G R T Z) (f : Nat) (L : ZLV) (st : List Value) (σ : ZHp) (n k w : Nat) : Z (f + 1) 19 L st σ n k w = s_const (.int (-1)) 20 L st σ n k w (zk1 cut G (Z f)) G R T := zrs hZ rfl f L st σ n k w
theorem f_X15_errorOfOrder_20 (hZ : ZRN (ztb (tb_X15_errorOfOrder E d mc ms)) cut G R T Z) (f : Nat) (L : ZLV) (st : List Value) (σ : ZHp) (n k w : Nat) : Z (f + 1) 20 L st σ n k w = s_iastore E 21 L st σ n k w (zk1 cut G (Z f)) G R T := zrs hZ rfl f L st σ n k w
theorem f_X15_errorOfOrder_21 (hZ : ZRN (ztb (tb_X15_errorOfOrder E d mc ms)) cut G R T Z) (f : Nat) (L : ZLV) (st : List Value) (σ : ZHp) (n k w : Nat) : Z (f + 1) 21 L st σ n k w = s_aload 1 22 L st σ n k w (zk1 cut G (Z f)) G R T := zrs hZ rfl f L st σ n k w
theorem f_X15_errorOfOrder_22 (hZ : ZRN (ztb (tb_X15_errorOfOrder E d mc ms)) cut G R T Z) (f : Nat) (L : ZLV) (st : List Value) (σ : ZHp) (n k w : Nat) : Z (f + 1) 22 L st σ n k w = s_dup 23 L st σ n k w (zk1 cut G (Z f)) G R T := zrs hZ rfl f L st σ n k w
theorem f_X15_errorOfOrder_23 (hZ : ZRN (ztb (tb_X15_errorOfOrder E d mc ms)) cut G R T Z) (f : Nat) (L : ZLV) (st : List Value) (σ : ZHp) (n k w : Nat) : Z (f + 1) 23 L st σ n k w = s_getf 12 16 26 L st σ n k w (zk1 cut G (Z f)) G R T := zrs hZ rfl f L st σ n k w
theorem f_X15_errorOfOrder_26 (hZ : ZRN (ztb (tb_X15_errorOfOrder E d mc ms)) cut G R T Z) (f : Nat) (L : ZLV) (st : List Value) (σ : ZHp) (n k w : Nat) : Z (f + 1) 26 L st σ n k w = s_const (.int (1)) 27 L st σ n k w (zk1 cut G (Z f)) G R T := zrs hZ rfl f L st σ n k w
theorem f_X15_errorOfOrder_27 (hZ : ZRN (ztb (tb_X15_errorOfOrder E d mc ms)) cut G R T Z) (f : Nat) (L : ZLV) (st : List Value) (σ : ZHp) (n k w : Nat) : Z (f + 1) 27 L st σ n k w = s_iadd 28 L st σ n k w (zk1 cut G (Z f)) G R T := zrs hZ rfl f L st σ n k w
theorem f_X15_errorOfOrder_28 (hZ : ZRN (ztb (tb_X15_errorOfOrder E d mc ms)) cut G R T Z) (f : Nat) (L : ZLV) (st : List Value) (σ : ZHp) (n k w : Nat) : Z (f + 1) 28 L st σ n k w = s_putf 12 16 0 31 L st σ n k w (zk1 cut G (Z f)) G R T := zrs hZ rfl f L st σ n k w
theorem f_X15_errorOfOrder_31 (hZ : ZRN (ztb (tb_X15_errorOfOrder E d mc ms)) cut G R T Z) (f : Nat) (L : ZLV) (st : List Value) (σ : ZHp) (n k w : Nat) : Z (f + 1) 31 L st σ n k w = s_const (.int (0)) 32 L st σ n k w (zk1 cut G (Z f)) G R T := zrs hZ rfl f L st σ n k w
theorem f_X15_errorOfOrder_32 (hZ : ZRN (ztb (tb_X15_errorOfOrder E d mc ms)) cut G R T Z) (f : Nat) (L : ZLV) (st : List Value) (σ : ZHp) (n k w : Nat) : Z (f + 1) 32 L st σ n k w = s_ireturn L st σ n k w (zk1 cut G (Z f)) G R T := zrs hZ rfl f L st σ n k w
theorem f_X15_errorOf_0 (hZ : ZRN (ztb (tb_X15_errorOf E d mc ms)) cut G R T Z) (f : Nat) (L : ZLV) (st : List Value) (σ : ZHp) (n k w : Nat) : Z (f + 1) 0 L st σ n k w = s_aload 1 1 L st σ n k w (zk1 cut G (Z f)) G R T := zrs hZ rfl f L st σ n k w
theorem f_X15_errorOf_1 (hZ : ZRN (ztb (tb_X15_errorOf E d mc ms)) cut G R T Z) (f : Nat) (L : ZLV) (st : List Value) (σ : ZHp) (n k w : Nat) : Z (f + 1) 1 L st σ n k w = s_getf 12 4 4 L st σ n k w (zk1 cut G (Z f)) G R T := zrs hZ rfl f L st σ n k w
theorem f_X15_errorOf_4 (hZ : ZRN (ztb (tb_X15_errorOf E d mc ms)) cut G R T Z) (f : Nat) (L : ZLV) (st : List Value) (σ : ZHp) (n k w : Nat) : Z (f + 1) 4 L st σ n k w = s_iload 2 5 L st σ n k w (zk1 cut G (Z f)) G R T := zrs hZ rfl f L st σ n k w
theorem f_X15_errorOf_5 (hZ : ZRN (ztb (tb_X15_errorOf E d mc ms)) cut G R T Z) (f : Nat) (L : ZLV) (st : List Value) (σ : ZHp) (n k w : Nat) : Z (f + 1) 5 L st σ n k w = s_iaload E 6 L st σ n k w (zk1 cut G (Z f)) G R T := zrs hZ rfl f L st σ n k w
theorem f_X15_errorOf_6 (hZ : ZRN (ztb (tb_X15_errorOf E d mc ms)) cut G R T Z) (f : Nat) (L : ZLV) (st : List Value) (σ : ZHp) (n k w : Nat) : Z (f + 1) 6 L st σ n k w = s_const (.int (1)) 7 L st σ n k w (zk1 cut G (Z f)) G R T := zrs hZ rfl f L st σ n k w
theorem f_X15_errorOf_7 (hZ : ZRN (ztb (tb_X15_errorOf E d mc ms)) cut G R T Z) (f : Nat) (L : ZLV) (st : List Value) (σ : ZHp) (n k w : Nat) : Z (f + 1) 7 L st σ n k w = s_icmp_ne 17 10 L st σ n k w (zk1 cut G (Z f)) G R T := zrs hZ rfl f L st σ n k w
theorem f_X15_errorOf_10 (hZ : ZRN (ztb (tb_X15_errorOf E d mc ms)) cut G R T Z) (f : Nat) (L : ZLV) (st : List Value) (σ : ZHp) (n k w : Nat) : Z (f + 1) 10 L st σ n k w = s_aload 0 11 L st σ n k w (zk1 cut G (Z f)) G R T := zrs hZ rfl f L st σ n k w
theorem f_X15_errorOf_11 (hZ : ZRN (ztb (tb_X15_errorOf E d mc ms)) cut G R T Z) (f : Nat) (L : ZLV) (st : List Value) (σ : ZHp) (n k w : Nat) : Z (f + 1) 11 L st σ n k w = s_aload 1 12 L st σ n k w (zk1 cut G (Z f)) G R T := zrs hZ rfl f L st σ n k w
theorem f_X15_errorOf_12 (hZ : ZRN (ztb (tb_X15_errorOf E d mc ms)) cut G R T Z) (f : Nat) (L : ZLV) (st : List Value) (σ : ZHp) (n k w : Nat) : Z (f + 1) 12 L st σ n k w = s_iload 2 13 L st σ n k w (zk1 cut G (Z f)) G R T := zrs hZ rfl f L st σ n k w
theorem f_X15_errorOf_13 (hZ : ZRN (ztb (tb_X15_errorOf E d mc ms)) cut G R T Z) (f : Nat) (L : ZLV) (st : List Value) (σ : ZHp) (n k w : Nat) : Z (f + 1) 13 L st σ n k w = s_callV E d mc ms 14 MX15_errorOfDeed 2 16 L st σ n k w (zk1 cut G (Z f)) G R T := zrs hZ rfl f L st σ n k w
theorem f_X15_errorOf_16 (hZ : ZRN (ztb (tb_X15_errorOf E d mc ms)) cut G R T Z) (f : Nat) (L : ZLV) (st : List Value) (σ : ZHp) (n k w : Nat) : Z (f + 1) 16 L st σ n k w = s_ireturn L st σ n k w (zk1 cut G (Z f)) G R T := zrs hZ rfl f L st σ n k w
theorem f_X15_errorOf_17 (hZ : ZRN (ztb (tb_X15_errorOf E d mc ms)) cut G R T Z) (f : Nat) (L : ZLV) (st : List Value) (σ : ZHp) (n k w : Nat) : Z (f + 1) 17 L st σ n k w = s_aload 1 18 L st σ n k w (zk1 cut G (Z f)) G R T := zrs hZ rfl f L st σ n k w
theorem f_X15_errorOf_18 (hZ : ZRN (ztb (tb_X15_errorOf E d mc ms)) cut G R T Z) (f : Nat) (L : ZLV) (st : List Value) (σ : ZHp) (n k w : Nat) : Z (f + 1) 18 L st σ n k w = s_getf 12 0 21 L st σ n k w (zk1 cut G (Z f)) G R T := zrs hZ rfl f L st σ n k w
theorem f_X15_errorOf_21 (hZ : ZRN (ztb (tb_X15_errorOf E d mc ms)) cut G R T Z) (f : Nat) (L : ZLV) (st : List Value) (σ : ZHp) (n k w : Nat) : Z (f + 1) 21 L st σ n k w = s_iload 2 22 L st σ n k w (zk1 cut G (Z f)) G R T := zrs hZ rfl f L st σ n k w
theorem f_X15_errorOf_22 (hZ : ZRN (ztb (tb_X15_errorOf E d mc ms)) cut G R T Z) (f : Nat) (L : ZLV) (st : List Value) (σ : ZHp) (n k w : Nat) : Z (f + 1) 22 L st σ n k w = s_iaload E 23 L st σ n k w (zk1 cut G (Z f)) G R T := zrs hZ rfl f L st σ n k w
theorem f_X15_errorOf_23 (hZ : ZRN (ztb (tb_X15_errorOf E d mc ms)) cut G R T Z) (f : Nat) (L : ZLV) (st : List Value) (σ : ZHp) (n k w : Nat) : Z (f + 1) 23 L st σ n k w = s_lsw [(12, 78), (14, 84), (30, 64), (31, 71)] 100 L st σ n k w (zk1 cut G (Z f)) G R T := zrs hZ rfl f L st σ n k w
theorem f_X15_errorOf_64 (hZ : ZRN (ztb (tb_X15_errorOf E d mc ms)) cut G R T Z) (f : Nat) (L : ZLV) (st : List Value) (σ : ZHp) (n k w : Nat) : Z (f + 1) 64 L st σ n k w = s_aload 0 65 L st σ n k w (zk1 cut G (Z f)) G R T := zrs hZ rfl f L st σ n k w
theorem f_X15_errorOf_65 (hZ : ZRN (ztb (tb_X15_errorOf E d mc ms)) cut G R T Z) (f : Nat) (L : ZLV) (st : List Value) (σ : ZHp) (n k w : Nat) : Z (f + 1) 65 L st σ n k w = s_aload 1 66 L st σ n k w (zk1 cut G (Z f)) G R T := zrs hZ rfl f L st σ n k w
theorem f_X15_errorOf_66 (hZ : ZRN (ztb (tb_X15_errorOf E d mc ms)) cut G R T Z) (f : Nat) (L : ZLV) (st : List Value) (σ : ZHp) (n k w : Nat) : Z (f + 1) 66 L st σ n k w = s_iload 2 67 L st σ n k w (zk1 cut G (Z f)) G R T := zrs hZ rfl f L st σ n k w
theorem f_X15_errorOf_67 (hZ : ZRN (ztb (tb_X15_errorOf E d mc ms)) cut G R T Z) (f : Nat) (L : ZLV) (st : List Value) (σ : ZHp) (n k w : Nat) : Z (f + 1) 67 L st σ n k w = s_callV E d mc ms 14 MX15_errorOfName 2 70 L st σ n k w (zk1 cut G (Z f)) G R T := zrs hZ rfl f L st σ n k w
theorem f_X15_errorOf_70 (hZ : ZRN (ztb (tb_X15_errorOf E d mc ms)) cut G R T Z) (f : Nat) (L : ZLV) (st : List Value) (σ : ZHp) (n k w : Nat) : Z (f + 1) 70 L st σ n k w = s_ireturn L st σ n k w (zk1 cut G (Z f)) G R T := zrs hZ rfl f L st σ n k w
theorem f_X15_errorOf_71 (hZ : ZRN (ztb (tb_X15_errorOf E d mc ms)) cut G R T Z) (f : Nat) (L : ZLV) (st : List Value) (σ : ZHp) (n k w : Nat) : Z (f + 1) 71 L st σ n k w = s_aload 0 72 L st σ n k w (zk1 cut G (Z f)) G R T := zrs hZ rfl f L st σ n k w
theorem f_X15_errorOf_72 (hZ : ZRN (ztb (tb_X15_errorOf E d mc ms)) cut G R T Z) (f : Nat) (L : ZLV) (st : List Value) (σ : ZHp) (n k w : Nat) : Z (f + 1) 72 L st σ n k w = s_aload 1 73 L st σ n k w (zk1 cut G (Z f)) G R T := zrs hZ rfl f L st σ n k w
theorem f_X15_errorOf_73 (hZ : ZRN (ztb (tb_X15_errorOf E d mc ms)) cut G R T Z) (f : Nat) (L : ZLV) (st : List Value) (σ : ZHp) (n k w : Nat) : Z (f + 1) 73 L st σ n k w = s_iload 2 74 L st σ n k w (zk1 cut G (Z f)) G R T := zrs hZ rfl f L st σ n k w
theorem f_X15_errorOf_74 (hZ : ZRN (ztb (tb_X15_errorOf E d mc ms)) cut G R T Z) (f : Nat) (L : ZLV) (st : List Value) (σ : ZHp) (n k w : Nat) : Z (f + 1) 74 L st σ n k w = s_callV E d mc ms 14 MX15_errorOfNumber 2 77 L st σ n k w (zk1 cut G (Z f)) G R T := zrs hZ rfl f L st σ n k w
theorem f_X15_errorOf_77 (hZ : ZRN (ztb (tb_X15_errorOf E d mc ms)) cut G R T Z) (f : Nat) (L : ZLV) (st : List Value) (σ : ZHp) (n k w : Nat) : Z (f + 1) 77 L st σ n k w = s_ireturn L st σ n k w (zk1 cut G (Z f)) G R T := zrs hZ rfl f L st σ n k w
theorem f_X15_errorOf_78 (hZ : ZRN (ztb (tb_X15_errorOf E d mc ms)) cut G R T Z) (f : Nat) (L : ZLV) (st : List Value) (σ : ZHp) (n k w : Nat) : Z (f + 1) 78 L st σ n k w = s_aload 0 79 L st σ n k w (zk1 cut G (Z f)) G R T := zrs hZ rfl f L st σ n k w
theorem f_X15_errorOf_79 (hZ : ZRN (ztb (tb_X15_errorOf E d mc ms)) cut G R T Z) (f : Nat) (L : ZLV) (st : List Value) (σ : ZHp) (n k w : Nat) : Z (f + 1) 79 L st σ n k w = s_aload 1 80 L st σ n k w (zk1 cut G (Z f)) G R T := zrs hZ rfl f L st σ n k w
theorem f_X15_errorOf_80 (hZ : ZRN (ztb (tb_X15_errorOf E d mc ms)) cut G R T Z) (f : Nat) (L : ZLV) (st : List Value) (σ : ZHp) (n k w : Nat) : Z (f + 1) 80 L st σ n k w = s_callV E d mc ms 14 MX15_errorOfOrder 1 83 L st σ n k w (zk1 cut G (Z f)) G R T := zrs hZ rfl f L st σ n k w
theorem f_X15_errorOf_83 (hZ : ZRN (ztb (tb_X15_errorOf E d mc ms)) cut G R T Z) (f : Nat) (L : ZLV) (st : List Value) (σ : ZHp) (n k w : Nat) : Z (f + 1) 83 L st σ n k w = s_ireturn L st σ n k w (zk1 cut G (Z f)) G R T := zrs hZ rfl f L st σ n k w
theorem f_X15_errorOf_84 (hZ : ZRN (ztb (tb_X15_errorOf E d mc ms)) cut G R T Z) (f : Nat) (L : ZLV) (st : List Value) (σ : ZHp) (n k w : Nat) : Z (f + 1) 84 L st σ n k w = s_aload 1 85 L st σ n k w (zk1 cut G (Z f)) G R T := zrs hZ rfl f L st σ n k w
theorem f_X15_errorOf_85 (hZ : ZRN (ztb (tb_X15_errorOf E d mc ms)) cut G R T Z) (f : Nat) (L : ZLV) (st : List Value) (σ : ZHp) (n k w : Nat) : Z (f + 1) 85 L st σ n k w = s_getf 12 19 88 L st σ n k w (zk1 cut G (Z f)) G R T := zrs hZ rfl f L st σ n k w
theorem f_X15_errorOf_88 (hZ : ZRN (ztb (tb_X15_errorOf E d mc ms)) cut G R T Z) (f : Nat) (L : ZLV) (st : List Value) (σ : ZHp) (n k w : Nat) : Z (f + 1) 88 L st σ n k w = s_aload 1 89 L st σ n k w (zk1 cut G (Z f)) G R T := zrs hZ rfl f L st σ n k w
theorem f_X15_errorOf_89 (hZ : ZRN (ztb (tb_X15_errorOf E d mc ms)) cut G R T Z) (f : Nat) (L : ZLV) (st : List Value) (σ : ZHp) (n k w : Nat) : Z (f + 1) 89 L st σ n k w = s_getf 12 16 92 L st σ n k w (zk1 cut G (Z f)) G R T := zrs hZ rfl f L st σ n k w
theorem f_X15_errorOf_92 (hZ : ZRN (ztb (tb_X15_errorOf E d mc ms)) cut G R T Z) (f : Nat) (L : ZLV) (st : List Value) (σ : ZHp) (n k w : Nat) : Z (f + 1) 92 L st σ n k w = s_const (.int (1)) 93 L st σ n k w (zk1 cut G (Z f)) G R T := zrs hZ rfl f L st σ n k w
theorem f_X15_errorOf_93 (hZ : ZRN (ztb (tb_X15_errorOf E d mc ms)) cut G R T Z) (f : Nat) (L : ZLV) (st : List Value) (σ : ZHp) (n k w : Nat) : Z (f + 1) 93 L st σ n k w = s_isub 94 L st σ n k w (zk1 cut G (Z f)) G R T := zrs hZ rfl f L st σ n k w
theorem f_X15_errorOf_94 (hZ : ZRN (ztb (tb_X15_errorOf E d mc ms)) cut G R T Z) (f : Nat) (L : ZLV) (st : List Value) (σ : ZHp) (n k w : Nat) : Z (f + 1) 94 L st σ n k w = s_iload 2 95 L st σ n k w (zk1 cut G (Z f)) G R T := zrs hZ rfl f L st σ n k w
theorem f_X15_errorOf_95 (hZ : ZRN (ztb (tb_X15_errorOf E d mc ms)) cut G R T Z) (f : Nat) (L : ZLV) (st : List Value) (σ : ZHp) (n k w : Nat) : Z (f + 1) 95 L st σ n k w = s_const (.int (1)) 96 L st σ n k w (zk1 cut G (Z f)) G R T := zrs hZ rfl f L st σ n k w
theorem f_X15_errorOf_96 (hZ : ZRN (ztb (tb_X15_errorOf E d mc ms)) cut G R T Z) (f : Nat) (L : ZLV) (st : List Value) (σ : ZHp) (n k w : Nat) : Z (f + 1) 96 L st σ n k w = s_iadd 97 L st σ n k w (zk1 cut G (Z f)) G R T := zrs hZ rfl f L st σ n k w
theorem f_X15_errorOf_97 (hZ : ZRN (ztb (tb_X15_errorOf E d mc ms)) cut G R T Z) (f : Nat) (L : ZLV) (st : List Value) (σ : ZHp) (n k w : Nat) : Z (f + 1) 97 L st σ n k w = s_iastore E 98 L st σ n k w (zk1 cut G (Z f)) G R T := zrs hZ rfl f L st σ n k w
theorem f_X15_errorOf_98 (hZ : ZRN (ztb (tb_X15_errorOf E d mc ms)) cut G R T Z) (f : Nat) (L : ZLV) (st : List Value) (σ : ZHp) (n k w : Nat) : Z (f + 1) 98 L st σ n k w = s_const (.int (0)) 99 L st σ n k w (zk1 cut G (Z f)) G R T := zrs hZ rfl f L st σ n k w
theorem f_X15_errorOf_99 (hZ : ZRN (ztb (tb_X15_errorOf E d mc ms)) cut G R T Z) (f : Nat) (L : ZLV) (st : List Value) (σ : ZHp) (n k w : Nat) : Z (f + 1) 99 L st σ n k w = s_ireturn L st σ n k w (zk1 cut G (Z f)) G R T := zrs hZ rfl f L st σ n k w
theorem f_X15_errorOf_100 (hZ : ZRN (ztb (tb_X15_errorOf E d mc ms)) cut G R T Z) (f : Nat) (L : ZLV) (st : List Value) (σ : ZHp) (n k w : Nat) : Z (f + 1) 100 L st σ n k w = s_const (.int (0)) 101 L st σ n k w (zk1 cut G (Z f)) G R T := zrs hZ rfl f L st σ n k w
theorem f_X15_errorOf_101 (hZ : ZRN (ztb (tb_X15_errorOf E d mc ms)) cut G R T Z) (f : Nat) (L : ZLV) (st : List Value) (σ : ZHp) (n k w : Nat) : Z (f + 1) 101 L st σ n k w = s_ireturn L st σ n k w (zk1 cut G (Z f)) G R T := zrs hZ rfl f L st σ n k w
theorem f_X15_read_0 (hZ : ZRN (ztb (tb_X15_read E d mc ms)) cut G R T Z) (f : Nat) (L : ZLV) (st : List Value) (σ : ZHp) (n k w : Nat) : Z (f + 1) 0 L st σ n k w = s_aload 0 1 L st σ n k w (zk1 cut G (Z f)) G R T := zrs hZ rfl f L st σ n k w
theorem f_X15_read_1 (hZ : ZRN (ztb (tb_X15_read E d mc ms)) cut G R T Z) (f : Nat) (L : ZLV) (st : List Value) (σ : ZHp) (n k w : Nat) : Z (f + 1) 1 L st σ n k w = s_aload 1 2 L st σ n k w (zk1 cut G (Z f)) G R T := zrs hZ rfl f L st σ n k w
theorem f_X15_read_2 (hZ : ZRN (ztb (tb_X15_read E d mc ms)) cut G R T Z) (f : Nat) (L : ZLV) (st : List Value) (σ : ZHp) (n k w : Nat) : Z (f + 1) 2 L st σ n k w = s_callV E d mc ms 14 MX15_cut 1 5 L st σ n k w (zk1 cut G (Z f)) G R T := zrs hZ rfl f L st σ n k w
theorem f_X15_read_5 (hZ : ZRN (ztb (tb_X15_read E d mc ms)) cut G R T Z) (f : Nat) (L : ZLV) (st : List Value) (σ : ZHp) (n k w : Nat) : Z (f + 1) 5 L st σ n k w = s_aload 0 6 L st σ n k w (zk1 cut G (Z f)) G R T := zrs hZ rfl f L st σ n k w
theorem f_X15_read_6 (hZ : ZRN (ztb (tb_X15_read E d mc ms)) cut G R T Z) (f : Nat) (L : ZLV) (st : List Value) (σ : ZHp) (n k w : Nat) : Z (f + 1) 6 L st σ n k w = s_const (.int (0)) 7 L st σ n k w (zk1 cut G (Z f)) G R T := zrs hZ rfl f L st σ n k w
theorem f_X15_read_7 (hZ : ZRN (ztb (tb_X15_read E d mc ms)) cut G R T Z) (f : Nat) (L : ZLV) (st : List Value) (σ : ZHp) (n k w : Nat) : Z (f + 1) 7 L st σ n k w = s_putf 14 4 0 10 L st σ n k w (zk1 cut G (Z f)) G R T := zrs hZ rfl f L st σ n k w
theorem f_X15_read_10 (hZ : ZRN (ztb (tb_X15_read E d mc ms)) cut G R T Z) (f : Nat) (L : ZLV) (st : List Value) (σ : ZHp) (n k w : Nat) : Z (f + 1) 10 L st σ n k w = s_aload 0 11 L st σ n k w (zk1 cut G (Z f)) G R T := zrs hZ rfl f L st σ n k w
theorem f_X15_read_11 (hZ : ZRN (ztb (tb_X15_read E d mc ms)) cut G R T Z) (f : Nat) (L : ZLV) (st : List Value) (σ : ZHp) (n k w : Nat) : Z (f + 1) 11 L st σ n k w = s_const (.int (0)) 12 L st σ n k w (zk1 cut G (Z f)) G R T := zrs hZ rfl f L st σ n k w
theorem f_X15_read_12 (hZ : ZRN (ztb (tb_X15_read E d mc ms)) cut G R T Z) (f : Nat) (L : ZLV) (st : List Value) (σ : ZHp) (n k w : Nat) : Z (f + 1) 12 L st σ n k w = s_putf 14 5 0 15 L st σ n k w (zk1 cut G (Z f)) G R T := zrs hZ rfl f L st σ n k w
theorem f_X15_read_15 (hZ : ZRN (ztb (tb_X15_read E d mc ms)) cut G R T Z) (f : Nat) (L : ZLV) (st : List Value) (σ : ZHp) (n k w : Nat) : Z (f + 1) 15 L st σ n k w = s_aload 0 16 L st σ n k w (zk1 cut G (Z f)) G R T := zrs hZ rfl f L st σ n k w
theorem f_X15_read_16 (hZ : ZRN (ztb (tb_X15_read E d mc ms)) cut G R T Z) (f : Nat) (L : ZLV) (st : List Value) (σ : ZHp) (n k w : Nat) : Z (f + 1) 16 L st σ n k w = s_aload 1 17 L st σ n k w (zk1 cut G (Z f)) G R T := zrs hZ rfl f L st σ n k w
theorem f_X15_read_17 (hZ : ZRN (ztb (tb_X15_read E d mc ms)) cut G R T Z) (f : Nat) (L : ZLV) (st : List Value) (σ : ZHp) (n k w : Nat) : Z (f + 1) 17 L st σ n k w = s_callV E d mc ms 14 MX15_isList 1 20 L st σ n k w (zk1 cut G (Z f)) G R T := zrs hZ rfl f L st σ n k w
theorem f_X15_read_20 (hZ : ZRN (ztb (tb_X15_read E d mc ms)) cut G R T Z) (f : Nat) (L : ZLV) (st : List Value) (σ : ZHp) (n k w : Nat) : Z (f + 1) 20 L st σ n k w = s_if_ne 38 23 L st σ n k w (zk1 cut G (Z f)) G R T := zrs hZ rfl f L st σ n k w
theorem f_X15_read_23 (hZ : ZRN (ztb (tb_X15_read E d mc ms)) cut G R T Z) (f : Nat) (L : ZLV) (st : List Value) (σ : ZHp) (n k w : Nat) : Z (f + 1) 23 L st σ n k w = s_aload 0 24 L st σ n k w (zk1 cut G (Z f)) G R T := zrs hZ rfl f L st σ n k w
theorem f_X15_read_24 (hZ : ZRN (ztb (tb_X15_read E d mc ms)) cut G R T Z) (f : Nat) (L : ZLV) (st : List Value) (σ : ZHp) (n k w : Nat) : Z (f + 1) 24 L st σ n k w = s_aload 1 25 L st σ n k w (zk1 cut G (Z f)) G R T := zrs hZ rfl f L st σ n k w
theorem f_X15_read_25 (hZ : ZRN (ztb (tb_X15_read E d mc ms)) cut G R T Z) (f : Nat) (L : ZLV) (st : List Value) (σ : ZHp) (n k w : Nat) : Z (f + 1) 25 L st σ n k w = s_getf 12 1 28 L st σ n k w (zk1 cut G (Z f)) G R T := zrs hZ rfl f L st σ n k w
theorem f_X15_read_28 (hZ : ZRN (ztb (tb_X15_read E d mc ms)) cut G R T Z) (f : Nat) (L : ZLV) (st : List Value) (σ : ZHp) (n k w : Nat) : Z (f + 1) 28 L st σ n k w = s_aload 0 29 L st σ n k w (zk1 cut G (Z f)) G R T := zrs hZ rfl f L st σ n k w
theorem f_X15_read_29 (hZ : ZRN (ztb (tb_X15_read E d mc ms)) cut G R T Z) (f : Nat) (L : ZLV) (st : List Value) (σ : ZHp) (n k w : Nat) : Z (f + 1) 29 L st σ n k w = s_getf 14 4 32 L st σ n k w (zk1 cut G (Z f)) G R T := zrs hZ rfl f L st σ n k w
theorem f_X15_read_32 (hZ : ZRN (ztb (tb_X15_read E d mc ms)) cut G R T Z) (f : Nat) (L : ZLV) (st : List Value) (σ : ZHp) (n k w : Nat) : Z (f + 1) 32 L st σ n k w = s_iaload E 33 L st σ n k w (zk1 cut G (Z f)) G R T := zrs hZ rfl f L st σ n k w
theorem f_X15_read_33 (hZ : ZRN (ztb (tb_X15_read E d mc ms)) cut G R T Z) (f : Nat) (L : ZLV) (st : List Value) (σ : ZHp) (n k w : Nat) : Z (f + 1) 33 L st σ n k w = s_putf 14 3 0 36 L st σ n k w (zk1 cut G (Z f)) G R T := zrs hZ rfl f L st σ n k w
theorem f_X15_read_36 (hZ : ZRN (ztb (tb_X15_read E d mc ms)) cut G R T Z) (f : Nat) (L : ZLV) (st : List Value) (σ : ZHp) (n k w : Nat) : Z (f + 1) 36 L st σ n k w = s_const (.int (1)) 37 L st σ n k w (zk1 cut G (Z f)) G R T := zrs hZ rfl f L st σ n k w
theorem f_X15_read_37 (hZ : ZRN (ztb (tb_X15_read E d mc ms)) cut G R T Z) (f : Nat) (L : ZLV) (st : List Value) (σ : ZHp) (n k w : Nat) : Z (f + 1) 37 L st σ n k w = s_ireturn L st σ n k w (zk1 cut G (Z f)) G R T := zrs hZ rfl f L st σ n k w
theorem f_X15_read_38 (hZ : ZRN (ztb (tb_X15_read E d mc ms)) cut G R T Z) (f : Nat) (L : ZLV) (st : List Value) (σ : ZHp) (n k w : Nat) : Z (f + 1) 38 L st σ n k w = s_const (.int (0)) 39 L st σ n k w (zk1 cut G (Z f)) G R T := zrs hZ rfl f L st σ n k w
theorem f_X15_read_39 (hZ : ZRN (ztb (tb_X15_read E d mc ms)) cut G R T Z) (f : Nat) (L : ZLV) (st : List Value) (σ : ZHp) (n k w : Nat) : Z (f + 1) 39 L st σ n k w = s_istore 2 40 L st σ n k w (zk1 cut G (Z f)) G R T := zrs hZ rfl f L st σ n k w
theorem f_X15_read_40 (hZ : ZRN (ztb (tb_X15_read E d mc ms)) cut G R T Z) (f : Nat) (L : ZLV) (st : List Value) (σ : ZHp) (n k w : Nat) : Z (f + 1) 40 L st σ n k w = s_iload 2 41 L st σ n k w (zk1 cut G (Z f)) G R T := zrs hZ rfl f L st σ n k w
theorem f_X15_read_41 (hZ : ZRN (ztb (tb_X15_read E d mc ms)) cut G R T Z) (f : Nat) (L : ZLV) (st : List Value) (σ : ZHp) (n k w : Nat) : Z (f + 1) 41 L st σ n k w = s_aload 0 42 L st σ n k w (zk1 cut G (Z f)) G R T := zrs hZ rfl f L st σ n k w
theorem f_X15_read_42 (hZ : ZRN (ztb (tb_X15_read E d mc ms)) cut G R T Z) (f : Nat) (L : ZLV) (st : List Value) (σ : ZHp) (n k w : Nat) : Z (f + 1) 42 L st σ n k w = s_getf 14 4 45 L st σ n k w (zk1 cut G (Z f)) G R T := zrs hZ rfl f L st σ n k w
theorem f_X15_read_45 (hZ : ZRN (ztb (tb_X15_read E d mc ms)) cut G R T Z) (f : Nat) (L : ZLV) (st : List Value) (σ : ZHp) (n k w : Nat) : Z (f + 1) 45 L st σ n k w = s_icmp_ge 80 48 L st σ n k w (zk1 cut G (Z f)) G R T := zrs hZ rfl f L st σ n k w
theorem f_X15_read_48 (hZ : ZRN (ztb (tb_X15_read E d mc ms)) cut G R T Z) (f : Nat) (L : ZLV) (st : List Value) (σ : ZHp) (n k w : Nat) : Z (f + 1) 48 L st σ n k w = s_aload 0 49 L st σ n k w (zk1 cut G (Z f)) G R T := zrs hZ rfl f L st σ n k w
theorem f_X15_read_49 (hZ : ZRN (ztb (tb_X15_read E d mc ms)) cut G R T Z) (f : Nat) (L : ZLV) (st : List Value) (σ : ZHp) (n k w : Nat) : Z (f + 1) 49 L st σ n k w = s_aload 1 50 L st σ n k w (zk1 cut G (Z f)) G R T := zrs hZ rfl f L st σ n k w
theorem f_X15_read_50 (hZ : ZRN (ztb (tb_X15_read E d mc ms)) cut G R T Z) (f : Nat) (L : ZLV) (st : List Value) (σ : ZHp) (n k w : Nat) : Z (f + 1) 50 L st σ n k w = s_iload 2 51 L st σ n k w (zk1 cut G (Z f)) G R T := zrs hZ rfl f L st σ n k w
theorem f_X15_read_51 (hZ : ZRN (ztb (tb_X15_read E d mc ms)) cut G R T Z) (f : Nat) (L : ZLV) (st : List Value) (σ : ZHp) (n k w : Nat) : Z (f + 1) 51 L st σ n k w = s_callV E d mc ms 14 MX15_errorOf 2 54 L st σ n k w (zk1 cut G (Z f)) G R T := zrs hZ rfl f L st σ n k w
theorem f_X15_read_54 (hZ : ZRN (ztb (tb_X15_read E d mc ms)) cut G R T Z) (f : Nat) (L : ZLV) (st : List Value) (σ : ZHp) (n k w : Nat) : Z (f + 1) 54 L st σ n k w = s_istore 3 55 L st σ n k w (zk1 cut G (Z f)) G R T := zrs hZ rfl f L st σ n k w
theorem f_X15_read_55 (hZ : ZRN (ztb (tb_X15_read E d mc ms)) cut G R T Z) (f : Nat) (L : ZLV) (st : List Value) (σ : ZHp) (n k w : Nat) : Z (f + 1) 55 L st σ n k w = s_iload 3 56 L st σ n k w (zk1 cut G (Z f)) G R T := zrs hZ rfl f L st σ n k w
theorem f_X15_read_56 (hZ : ZRN (ztb (tb_X15_read E d mc ms)) cut G R T Z) (f : Nat) (L : ZLV) (st : List Value) (σ : ZHp) (n k w : Nat) : Z (f + 1) 56 L st σ n k w = s_if_ne 62 59 L st σ n k w (zk1 cut G (Z f)) G R T := zrs hZ rfl f L st σ n k w
theorem f_X15_read_59 (hZ : ZRN (ztb (tb_X15_read E d mc ms)) cut G R T Z) (f : Nat) (L : ZLV) (st : List Value) (σ : ZHp) (n k w : Nat) : Z (f + 1) 59 L st σ n k w = s_goto 74 L st σ n k w (zk1 cut G (Z f)) G R T := zrs hZ rfl f L st σ n k w
theorem f_X15_read_62 (hZ : ZRN (ztb (tb_X15_read E d mc ms)) cut G R T Z) (f : Nat) (L : ZLV) (st : List Value) (σ : ZHp) (n k w : Nat) : Z (f + 1) 62 L st σ n k w = s_aload 0 63 L st σ n k w (zk1 cut G (Z f)) G R T := zrs hZ rfl f L st σ n k w
theorem f_X15_read_63 (hZ : ZRN (ztb (tb_X15_read E d mc ms)) cut G R T Z) (f : Nat) (L : ZLV) (st : List Value) (σ : ZHp) (n k w : Nat) : Z (f + 1) 63 L st σ n k w = s_aload 1 64 L st σ n k w (zk1 cut G (Z f)) G R T := zrs hZ rfl f L st σ n k w
theorem f_X15_read_64 (hZ : ZRN (ztb (tb_X15_read E d mc ms)) cut G R T Z) (f : Nat) (L : ZLV) (st : List Value) (σ : ZHp) (n k w : Nat) : Z (f + 1) 64 L st σ n k w = s_getf 12 1 67 L st σ n k w (zk1 cut G (Z f)) G R T := zrs hZ rfl f L st σ n k w
theorem f_X15_read_67 (hZ : ZRN (ztb (tb_X15_read E d mc ms)) cut G R T Z) (f : Nat) (L : ZLV) (st : List Value) (σ : ZHp) (n k w : Nat) : Z (f + 1) 67 L st σ n k w = s_iload 2 68 L st σ n k w (zk1 cut G (Z f)) G R T := zrs hZ rfl f L st σ n k w
theorem f_X15_read_68 (hZ : ZRN (ztb (tb_X15_read E d mc ms)) cut G R T Z) (f : Nat) (L : ZLV) (st : List Value) (σ : ZHp) (n k w : Nat) : Z (f + 1) 68 L st σ n k w = s_iaload E 69 L st σ n k w (zk1 cut G (Z f)) G R T := zrs hZ rfl f L st σ n k w
theorem f_X15_read_69 (hZ : ZRN (ztb (tb_X15_read E d mc ms)) cut G R T Z) (f : Nat) (L : ZLV) (st : List Value) (σ : ZHp) (n k w : Nat) : Z (f + 1) 69 L st σ n k w = s_putf 14 3 0 72 L st σ n k w (zk1 cut G (Z f)) G R T := zrs hZ rfl f L st σ n k w
theorem f_X15_read_72 (hZ : ZRN (ztb (tb_X15_read E d mc ms)) cut G R T Z) (f : Nat) (L : ZLV) (st : List Value) (σ : ZHp) (n k w : Nat) : Z (f + 1) 72 L st σ n k w = s_iload 3 73 L st σ n k w (zk1 cut G (Z f)) G R T := zrs hZ rfl f L st σ n k w
theorem f_X15_read_73 (hZ : ZRN (ztb (tb_X15_read E d mc ms)) cut G R T Z) (f : Nat) (L : ZLV) (st : List Value) (σ : ZHp) (n k w : Nat) : Z (f + 1) 73 L st σ n k w = s_ireturn L st σ n k w (zk1 cut G (Z f)) G R T := zrs hZ rfl f L st σ n k w
theorem f_X15_read_74 (hZ : ZRN (ztb (tb_X15_read E d mc ms)) cut G R T Z) (f : Nat) (L : ZLV) (st : List Value) (σ : ZHp) (n k w : Nat) : Z (f + 1) 74 L st σ n k w = s_iinc 2 (1) 77 L st σ n k w (zk1 cut G (Z f)) G R T := zrs hZ rfl f L st σ n k w
theorem f_X15_read_77 (hZ : ZRN (ztb (tb_X15_read E d mc ms)) cut G R T Z) (f : Nat) (L : ZLV) (st : List Value) (σ : ZHp) (n k w : Nat) : Z (f + 1) 77 L st σ n k w = s_goto 40 L st σ n k w (zk1 cut G (Z f)) G R T := zrs hZ rfl f L st σ n k w
theorem f_X15_read_80 (hZ : ZRN (ztb (tb_X15_read E d mc ms)) cut G R T Z) (f : Nat) (L : ZLV) (st : List Value) (σ : ZHp) (n k w : Nat) : Z (f + 1) 80 L st σ n k w = s_const (.int (0)) 81 L st σ n k w (zk1 cut G (Z f)) G R T := zrs hZ rfl f L st σ n k w
theorem f_X15_read_81 (hZ : ZRN (ztb (tb_X15_read E d mc ms)) cut G R T Z) (f : Nat) (L : ZLV) (st : List Value) (σ : ZHp) (n k w : Nat) : Z (f + 1) 81 L st σ n k w = s_ireturn L st σ n k w (zk1 cut G (Z f)) G R T := zrs hZ rfl f L st σ n k w
theorem f_X15_goesBy_0 (hZ : ZRN (ztb (tb_X15_goesBy E d mc ms)) cut G R T Z) (f : Nat) (L : ZLV) (st : List Value) (σ : ZHp) (n k w : Nat) : Z (f + 1) 0 L st σ n k w = s_aload 0 1 L st σ n k w (zk1 cut G (Z f)) G R T := zrs hZ rfl f L st σ n k w
theorem f_X15_goesBy_1 (hZ : ZRN (ztb (tb_X15_goesBy E d mc ms)) cut G R T Z) (f : Nat) (L : ZLV) (st : List Value) (σ : ZHp) (n k w : Nat) : Z (f + 1) 1 L st σ n k w = s_getf 14 6 4 L st σ n k w (zk1 cut G (Z f)) G R T := zrs hZ rfl f L st σ n k w
theorem f_X15_goesBy_4 (hZ : ZRN (ztb (tb_X15_goesBy E d mc ms)) cut G R T Z) (f : Nat) (L : ZLV) (st : List Value) (σ : ZHp) (n k w : Nat) : Z (f + 1) 4 L st σ n k w = s_getf 12 0 7 L st σ n k w (zk1 cut G (Z f)) G R T := zrs hZ rfl f L st σ n k w
theorem f_X15_goesBy_7 (hZ : ZRN (ztb (tb_X15_goesBy E d mc ms)) cut G R T Z) (f : Nat) (L : ZLV) (st : List Value) (σ : ZHp) (n k w : Nat) : Z (f + 1) 7 L st σ n k w = s_aload 0 8 L st σ n k w (zk1 cut G (Z f)) G R T := zrs hZ rfl f L st σ n k w
theorem f_X15_goesBy_8 (hZ : ZRN (ztb (tb_X15_goesBy E d mc ms)) cut G R T Z) (f : Nat) (L : ZLV) (st : List Value) (σ : ZHp) (n k w : Nat) : Z (f + 1) 8 L st σ n k w = s_getf 14 9 11 L st σ n k w (zk1 cut G (Z f)) G R T := zrs hZ rfl f L st σ n k w
theorem f_X15_goesBy_11 (hZ : ZRN (ztb (tb_X15_goesBy E d mc ms)) cut G R T Z) (f : Nat) (L : ZLV) (st : List Value) (σ : ZHp) (n k w : Nat) : Z (f + 1) 11 L st σ n k w = s_iaload E 12 L st σ n k w (zk1 cut G (Z f)) G R T := zrs hZ rfl f L st σ n k w
theorem f_X15_goesBy_12 (hZ : ZRN (ztb (tb_X15_goesBy E d mc ms)) cut G R T Z) (f : Nat) (L : ZLV) (st : List Value) (σ : ZHp) (n k w : Nat) : Z (f + 1) 12 L st σ n k w = s_iload 1 13 L st σ n k w (zk1 cut G (Z f)) G R T := zrs hZ rfl f L st σ n k w
theorem f_X15_goesBy_13 (hZ : ZRN (ztb (tb_X15_goesBy E d mc ms)) cut G R T Z) (f : Nat) (L : ZLV) (st : List Value) (σ : ZHp) (n k w : Nat) : Z (f + 1) 13 L st σ n k w = s_icmp_eq 18 16 L st σ n k w (zk1 cut G (Z f)) G R T := zrs hZ rfl f L st σ n k w
theorem f_X15_goesBy_16 (hZ : ZRN (ztb (tb_X15_goesBy E d mc ms)) cut G R T Z) (f : Nat) (L : ZLV) (st : List Value) (σ : ZHp) (n k w : Nat) : Z (f + 1) 16 L st σ n k w = s_const (.int (0)) 17 L st σ n k w (zk1 cut G (Z f)) G R T := zrs hZ rfl f L st σ n k w
theorem f_X15_goesBy_17 (hZ : ZRN (ztb (tb_X15_goesBy E d mc ms)) cut G R T Z) (f : Nat) (L : ZLV) (st : List Value) (σ : ZHp) (n k w : Nat) : Z (f + 1) 17 L st σ n k w = s_zreturn L st σ n k w (zk1 cut G (Z f)) G R T := zrs hZ rfl f L st σ n k w
theorem f_X15_goesBy_18 (hZ : ZRN (ztb (tb_X15_goesBy E d mc ms)) cut G R T Z) (f : Nat) (L : ZLV) (st : List Value) (σ : ZHp) (n k w : Nat) : Z (f + 1) 18 L st σ n k w = s_aload 0 19 L st σ n k w (zk1 cut G (Z f)) G R T := zrs hZ rfl f L st σ n k w
theorem f_X15_goesBy_19 (hZ : ZRN (ztb (tb_X15_goesBy E d mc ms)) cut G R T Z) (f : Nat) (L : ZLV) (st : List Value) (σ : ZHp) (n k w : Nat) : Z (f + 1) 19 L st σ n k w = s_dup 20 L st σ n k w (zk1 cut G (Z f)) G R T := zrs hZ rfl f L st σ n k w
theorem f_X15_goesBy_20 (hZ : ZRN (ztb (tb_X15_goesBy E d mc ms)) cut G R T Z) (f : Nat) (L : ZLV) (st : List Value) (σ : ZHp) (n k w : Nat) : Z (f + 1) 20 L st σ n k w = s_getf 14 9 23 L st σ n k w (zk1 cut G (Z f)) G R T := zrs hZ rfl f L st σ n k w
theorem f_X15_goesBy_23 (hZ : ZRN (ztb (tb_X15_goesBy E d mc ms)) cut G R T Z) (f : Nat) (L : ZLV) (st : List Value) (σ : ZHp) (n k w : Nat) : Z (f + 1) 23 L st σ n k w = s_const (.int (1)) 24 L st σ n k w (zk1 cut G (Z f)) G R T := zrs hZ rfl f L st σ n k w
theorem f_X15_goesBy_24 (hZ : ZRN (ztb (tb_X15_goesBy E d mc ms)) cut G R T Z) (f : Nat) (L : ZLV) (st : List Value) (σ : ZHp) (n k w : Nat) : Z (f + 1) 24 L st σ n k w = s_iadd 25 L st σ n k w (zk1 cut G (Z f)) G R T := zrs hZ rfl f L st σ n k w
theorem f_X15_goesBy_25 (hZ : ZRN (ztb (tb_X15_goesBy E d mc ms)) cut G R T Z) (f : Nat) (L : ZLV) (st : List Value) (σ : ZHp) (n k w : Nat) : Z (f + 1) 25 L st σ n k w = s_putf 14 9 0 28 L st σ n k w (zk1 cut G (Z f)) G R T := zrs hZ rfl f L st σ n k w
theorem f_X15_goesBy_28 (hZ : ZRN (ztb (tb_X15_goesBy E d mc ms)) cut G R T Z) (f : Nat) (L : ZLV) (st : List Value) (σ : ZHp) (n k w : Nat) : Z (f + 1) 28 L st σ n k w = s_const (.int (1)) 29 L st σ n k w (zk1 cut G (Z f)) G R T := zrs hZ rfl f L st σ n k w
theorem f_X15_goesBy_29 (hZ : ZRN (ztb (tb_X15_goesBy E d mc ms)) cut G R T Z) (f : Nat) (L : ZLV) (st : List Value) (σ : ZHp) (n k w : Nat) : Z (f + 1) 29 L st σ n k w = s_zreturn L st σ n k w (zk1 cut G (Z f)) G R T := zrs hZ rfl f L st σ n k w
end
