/-! TABLES: what each instruction does, that it does so, and each one by its place (printed by wip/whole/gen/gentab.py) -/
def tb_X1_init (E : ZEX) (d mc ms : Nat) : List (Nat × ZStep) := [(0, s_aload 0 1), (1, s_objinit d 4), (4, s_aload 0 5), (5, s_const (.int (400)) 8), (8, s_anewS E mc ms 11), (11, s_putf 0 0 3 14), (14, s_aload 0 15), (15, s_new 4 2 fsX5 mc ms 18), (18, s_dup 19), (19, s_const (.int (400)) 22), (22, s_callI E d mc ms MX5_init 1 25), (25, s_putf 0 1 3 28), (28, s_return)]
set_option maxRecDepth 20000 in
theorem ok_X1_init {E : ZEX} {X : ZMX} {d mc ms : Nat} {P : ZPT} {T : ZTT} (h : ZCX E X MX1_init d mc ms P T) : ∀ pc, ZRow E X MX1_init mc ms P T pc (ztb (tb_X1_init E d mc ms) pc) := ztb_ok (by
  unfold tb_X1_init
  refine zfmc (r_aload_n h (pc := 0) (kf := 0) 0 (by decide +kernel) rfl) ?_
  refine zfmc (r_objinit h (pc := 1) (ix := 3) (by decide +kernel) wk_aa9d6b55fd wk_ee0d472f0f wk_13171937f3) ?_
  refine zfmc (r_aload_n h (pc := 4) (kf := 0) 0 (by decide +kernel) rfl) ?_
  refine zfmc (r_sipush h (pc := 5) (z := 400) (by decide +kernel) (400) (by decide +kernel)) ?_
  refine zfmc (r_anewS h (pc := 8) (ix := 9) (by decide +kernel) wk_3e9d72d2c3 (zx_aoS h.ok)) ?_
  refine zfmc (r_putfF h (pc := 11) (ix := 11) (by decide +kernel) ckX1 0 (by decide) 3 (fty := tyX1 0) (tyX1_ok 0 (by decide)) rfl rfl rfl rfl wk_d793dd3b6e) ?_
  refine zfmc (r_aload_n h (pc := 14) (kf := 0) 0 (by decide +kernel) rfl) ?_
  refine zfmc (r_new h (pc := 15) (ix := 17) (by decide +kernel) ckX5 fsX5 tyX5 tyX5_ok fsX5_ok wk_0c99b06a2e wk_17139636bc wk_1cd044b3d8) ?_
  refine zfmc (r_dup h (pc := 18) (by decide +kernel)) ?_
  refine zfmc (r_sipush h (pc := 19) (z := 400) (by decide +kernel) (400) (by decide +kernel)) ?_
  refine zfmc (r_callI h (pc := 22) (ix := 19) (by decide +kernel) 1 mcX5_init wk_ed7131bba4 rfl rfl wk_7ca493ced8) ?_
  refine zfmc (r_putfF h (pc := 25) (ix := 22) (by decide +kernel) ckX1 1 (by decide) 3 (fty := tyX1 1) (tyX1_ok 1 (by decide)) rfl rfl rfl rfl wk_ad250ab26c) ?_
  refine zfmc (r_return h (pc := 28) (by decide +kernel) rfl) ?_
  exact zfm0)
def tb_X1_size (E : ZEX) (d mc ms : Nat) : List (Nat × ZStep) := [(0, s_aload 0 1), (1, s_getf 0 1 4), (4, s_callV E d mc ms 4 MX5_size 0 7), (7, s_ireturn)]
set_option maxRecDepth 20000 in
theorem ok_X1_size {E : ZEX} {X : ZMX} {d mc ms : Nat} {P : ZPT} {T : ZTT} (h : ZCX E X MX1_size d mc ms P T) : ∀ pc, ZRow E X MX1_size mc ms P T pc (ztb (tb_X1_size E d mc ms) pc) := ztb_ok (by
  unfold tb_X1_size
  refine zfmc (r_aload_n h (pc := 0) (kf := 0) 0 (by decide +kernel) rfl) ?_
  refine zfmc (r_getf h (pc := 1) (ix := 22) (by decide +kernel) ckX1 1 (by decide) wk_ad250ab26c) ?_
  refine zfmc (r_callV h (pc := 4) (ix := 26) (by decide +kernel) ckX5 0 mcX5_size wk_2a1282b961 wk_5e835499dc wk_5abe0e2775 rfl) ?_
  refine zfmc (r_ireturn h (pc := 7) (by decide +kernel) rfl) ?_
  exact zfm0)
def tb_X1_clear (E : ZEX) (d mc ms : Nat) : List (Nat × ZStep) := [(0, s_aload 0 1), (1, s_getf 0 1 4), (4, s_callV E d mc ms 4 MX5_clear 0 7), (7, s_return)]
set_option maxRecDepth 20000 in
theorem ok_X1_clear {E : ZEX} {X : ZMX} {d mc ms : Nat} {P : ZPT} {T : ZTT} (h : ZCX E X MX1_clear d mc ms P T) : ∀ pc, ZRow E X MX1_clear mc ms P T pc (ztb (tb_X1_clear E d mc ms) pc) := ztb_ok (by
  unfold tb_X1_clear
  refine zfmc (r_aload_n h (pc := 0) (kf := 0) 0 (by decide +kernel) rfl) ?_
  refine zfmc (r_getf h (pc := 1) (ix := 22) (by decide +kernel) ckX1 1 (by decide) wk_ad250ab26c) ?_
  refine zfmc (r_callV h (pc := 4) (ix := 30) (by decide +kernel) ckX5 0 mcX5_clear wk_02cca295a9 wk_02a2cdcaca wk_6ba25339bd rfl) ?_
  refine zfmc (r_return h (pc := 7) (by decide +kernel) rfl) ?_
  exact zfm0)
def tb_X1_add (E : ZEX) (d mc ms : Nat) : List (Nat × ZStep) := [(0, s_aload 0 1), (1, s_getf 0 1 4), (4, s_callV E d mc ms 4 MX5_size 0 7), (7, s_istore 3 8), (8, s_iload 3 9), (9, s_if_lt 36 12), (12, s_iload 3 13), (13, s_aload 0 14), (14, s_getf 0 0 17), (17, s_alen E 18), (18, s_icmp_ge 36 21), (21, s_aload 0 22), (22, s_getf 0 0 25), (25, s_iload 3 26), (26, s_aload 1 27), (27, s_aastoreS E 28), (28, s_aload 0 29), (29, s_getf 0 1 32), (32, s_iload 2 33), (33, s_callV E d mc ms 4 MX5_add 1 36), (36, s_return)]
set_option maxRecDepth 20000 in
theorem ok_X1_add {E : ZEX} {X : ZMX} {d mc ms : Nat} {P : ZPT} {T : ZTT} (h : ZCX E X MX1_add d mc ms P T) : ∀ pc, ZRow E X MX1_add mc ms P T pc (ztb (tb_X1_add E d mc ms) pc) := ztb_ok (by
  unfold tb_X1_add
  refine zfmc (r_aload_n h (pc := 0) (kf := 0) 0 (by decide +kernel) rfl) ?_
  refine zfmc (r_getf h (pc := 1) (ix := 22) (by decide +kernel) ckX1 1 (by decide) wk_ad250ab26c) ?_
  refine zfmc (r_callV h (pc := 4) (ix := 26) (by decide +kernel) ckX5 0 mcX5_size wk_2a1282b961 wk_5e835499dc wk_5abe0e2775 rfl) ?_
  refine zfmc (r_istore_n h (pc := 7) (kf := 3) 3 (by decide +kernel) rfl (by decide +kernel)) ?_
  refine zfmc (r_iload_n h (pc := 8) (kf := 3) 3 (by decide +kernel) rfl) ?_
  refine zfmc (r_if_lt h (pc := 9) (off := 27) (by decide +kernel) 36 (by decide +kernel)) ?_
  refine zfmc (r_iload_n h (pc := 12) (kf := 3) 3 (by decide +kernel) rfl) ?_
  refine zfmc (r_aload_n h (pc := 13) (kf := 0) 0 (by decide +kernel) rfl) ?_
  refine zfmc (r_getf h (pc := 14) (ix := 11) (by decide +kernel) ckX1 0 (by decide) wk_d793dd3b6e) ?_
  refine zfmc (r_alen h (pc := 17) (by decide +kernel)) ?_
  refine zfmc (r_icmp_ge h (pc := 18) (off := 18) (by decide +kernel) 36 (by decide +kernel)) ?_
  refine zfmc (r_aload_n h (pc := 21) (kf := 0) 0 (by decide +kernel) rfl) ?_
  refine zfmc (r_getf h (pc := 22) (ix := 11) (by decide +kernel) ckX1 0 (by decide) wk_d793dd3b6e) ?_
  refine zfmc (r_iload_n h (pc := 25) (kf := 3) 3 (by decide +kernel) rfl) ?_
  refine zfmc (r_aload_n h (pc := 26) (kf := 1) 1 (by decide +kernel) rfl) ?_
  refine zfmc (r_aastoreS h (pc := 27) (by decide +kernel) (zx_sgO h.ok)) ?_
  refine zfmc (r_aload_n h (pc := 28) (kf := 0) 0 (by decide +kernel) rfl) ?_
  refine zfmc (r_getf h (pc := 29) (ix := 22) (by decide +kernel) ckX1 1 (by decide) wk_ad250ab26c) ?_
  refine zfmc (r_iload_n h (pc := 32) (kf := 2) 2 (by decide +kernel) rfl) ?_
  refine zfmc (r_callV h (pc := 33) (ix := 33) (by decide +kernel) ckX5 1 mcX5_add wk_e34e9f52c3 wk_99aa7c6f52 wk_45d5950202 rfl) ?_
  refine zfmc (r_return h (pc := 36) (by decide +kernel) rfl) ?_
  exact zfm0)
def tb_X1_operation (E : ZEX) (d mc ms : Nat) : List (Nat × ZStep) := [(0, s_iload 1 1), (1, s_if_lt 22 4), (4, s_iload 1 5), (5, s_aload 0 6), (6, s_getf 0 0 9), (9, s_alen E 10), (10, s_icmp_ge 22 13), (13, s_aload 0 14), (14, s_getf 0 0 17), (17, s_iload 1 18), (18, s_aaload E 19), (19, s_goto 25), (22, s_const (.ref (zeK E 1)) 25), (25, s_astore 2 26), (26, s_aload 2 27), (27, s_ifnonnull 36 30), (30, s_const (.ref (zeK E 1)) 33), (33, s_goto 37), (36, s_aload 2 37), (37, s_areturn)]
set_option maxRecDepth 20000 in
theorem ok_X1_operation {E : ZEX} {X : ZMX} {d mc ms : Nat} {P : ZPT} {T : ZTT} (h : ZCX E X MX1_operation d mc ms P T) : ∀ pc, ZRow E X MX1_operation mc ms P T pc (ztb (tb_X1_operation E d mc ms) pc) := ztb_ok (by
  unfold tb_X1_operation
  refine zfmc (r_iload_n h (pc := 0) (kf := 1) 1 (by decide +kernel) rfl) ?_
  refine zfmc (r_if_lt h (pc := 1) (off := 21) (by decide +kernel) 22 (by decide +kernel)) ?_
  refine zfmc (r_iload_n h (pc := 4) (kf := 1) 1 (by decide +kernel) rfl) ?_
  refine zfmc (r_aload_n h (pc := 5) (kf := 0) 0 (by decide +kernel) rfl) ?_
  refine zfmc (r_getf h (pc := 6) (ix := 11) (by decide +kernel) ckX1 0 (by decide) wk_d793dd3b6e) ?_
  refine zfmc (r_alen h (pc := 9) (by decide +kernel)) ?_
  refine zfmc (r_icmp_ge h (pc := 10) (off := 12) (by decide +kernel) 22 (by decide +kernel)) ?_
  refine zfmc (r_aload_n h (pc := 13) (kf := 0) 0 (by decide +kernel) rfl) ?_
  refine zfmc (r_getf h (pc := 14) (ix := 11) (by decide +kernel) ckX1 0 (by decide) wk_d793dd3b6e) ?_
  refine zfmc (r_iload_n h (pc := 17) (kf := 1) 1 (by decide +kernel) rfl) ?_
  refine zfmc (r_aaload h (pc := 18) (by decide +kernel)) ?_
  refine zfmc (r_goto h (pc := 19) (off := 6) (by decide +kernel) 25 (by decide +kernel)) ?_
  refine zfmc (r_getstatic h (pc := 22) (ix := 36) (by decide +kernel) (.ref (zeK E 1)) (zx_sg h.ok 1 (by decide)) wk_a6b58d1d0f) ?_
  refine zfmc (r_astore_n h (pc := 25) (kf := 2) 2 (by decide +kernel) rfl (by decide +kernel)) ?_
  refine zfmc (r_aload_n h (pc := 26) (kf := 2) 2 (by decide +kernel) rfl) ?_
  refine zfmc (r_ifnonnull h (pc := 27) (off := 9) (by decide +kernel) 36 (by decide +kernel)) ?_
  refine zfmc (r_getstatic h (pc := 30) (ix := 36) (by decide +kernel) (.ref (zeK E 1)) (zx_sg h.ok 1 (by decide)) wk_a6b58d1d0f) ?_
  refine zfmc (r_goto h (pc := 33) (off := 4) (by decide +kernel) 37 (by decide +kernel)) ?_
  refine zfmc (r_aload_n h (pc := 36) (kf := 2) 2 (by decide +kernel) rfl) ?_
  refine zfmc (r_areturn h (pc := 37) (by decide +kernel) rfl) ?_
  exact zfm0)
def tb_X1_operand (E : ZEX) (d mc ms : Nat) : List (Nat × ZStep) := [(0, s_aload 0 1), (1, s_getf 0 1 4), (4, s_iload 1 5), (5, s_callV E d mc ms 4 MX5_get 1 8), (8, s_ireturn)]
set_option maxRecDepth 20000 in
theorem ok_X1_operand {E : ZEX} {X : ZMX} {d mc ms : Nat} {P : ZPT} {T : ZTT} (h : ZCX E X MX1_operand d mc ms P T) : ∀ pc, ZRow E X MX1_operand mc ms P T pc (ztb (tb_X1_operand E d mc ms) pc) := ztb_ok (by
  unfold tb_X1_operand
  refine zfmc (r_aload_n h (pc := 0) (kf := 0) 0 (by decide +kernel) rfl) ?_
  refine zfmc (r_getf h (pc := 1) (ix := 22) (by decide +kernel) ckX1 1 (by decide) wk_ad250ab26c) ?_
  refine zfmc (r_iload_n h (pc := 4) (kf := 1) 1 (by decide +kernel) rfl) ?_
  refine zfmc (r_callV h (pc := 5) (ix := 40) (by decide +kernel) ckX5 1 mcX5_get wk_d096485f84 wk_99ff406611 wk_1db6b0b94a rfl) ?_
  refine zfmc (r_ireturn h (pc := 8) (by decide +kernel) rfl) ?_
  exact zfm0)
def tb_X5_init (E : ZEX) (d mc ms : Nat) : List (Nat × ZStep) := [(0, s_aload 0 1), (1, s_objinit d 4), (4, s_aload 0 5), (5, s_const (.int (0)) 6), (6, s_putf 4 1 0 9), (9, s_aload 0 10), (10, s_iload 1 11), (11, s_if_le 18 14), (14, s_iload 1 15), (15, s_goto 19), (18, s_const (.int (0)) 19), (19, s_newI E mc ms 21), (21, s_putf 4 0 3 24), (24, s_return)]
set_option maxRecDepth 20000 in
theorem ok_X5_init {E : ZEX} {X : ZMX} {d mc ms : Nat} {P : ZPT} {T : ZTT} (h : ZCX E X MX5_init d mc ms P T) : ∀ pc, ZRow E X MX5_init mc ms P T pc (ztb (tb_X5_init E d mc ms) pc) := ztb_ok (by
  unfold tb_X5_init
  refine zfmc (r_aload_n h (pc := 0) (kf := 0) 0 (by decide +kernel) rfl) ?_
  refine zfmc (r_objinit h (pc := 1) (ix := 3) (by decide +kernel) wk_6c240da1ec wk_ee0d472f0f wk_13171937f3) ?_
  refine zfmc (r_aload_n h (pc := 4) (kf := 0) 0 (by decide +kernel) rfl) ?_
  refine zfmc (r_iconst h (pc := 5) (z := 0) (by decide +kernel) (0) (by decide +kernel)) ?_
  refine zfmc (r_putf h (pc := 6) (ix := 9) (by decide +kernel) ckX5 1 (by decide) 0 (fty := tyX5 1) (tyX5_ok 1 (by decide)) rfl rfl wk_b2a5557a1f) ?_
  refine zfmc (r_aload_n h (pc := 9) (kf := 0) 0 (by decide +kernel) rfl) ?_
  refine zfmc (r_iload_n h (pc := 10) (kf := 1) 1 (by decide +kernel) rfl) ?_
  refine zfmc (r_if_le h (pc := 11) (off := 7) (by decide +kernel) 18 (by decide +kernel)) ?_
  refine zfmc (r_iload_n h (pc := 14) (kf := 1) 1 (by decide +kernel) rfl) ?_
  refine zfmc (r_goto h (pc := 15) (off := 4) (by decide +kernel) 19 (by decide +kernel)) ?_
  refine zfmc (r_iconst h (pc := 18) (z := 0) (by decide +kernel) (0) (by decide +kernel)) ?_
  refine zfmc (r_newI h (pc := 19) (by decide +kernel) wk_bfa9f9c18d) ?_
  refine zfmc (r_putfF h (pc := 21) (ix := 15) (by decide +kernel) ckX5 0 (by decide) 3 (fty := tyX5 0) (tyX5_ok 0 (by decide)) rfl rfl rfl rfl wk_1ad293a04b) ?_
  refine zfmc (r_return h (pc := 24) (by decide +kernel) rfl) ?_
  exact zfm0)
def tb_X5_size (E : ZEX) (d mc ms : Nat) : List (Nat × ZStep) := [(0, s_aload 0 1), (1, s_getf 4 1 4), (4, s_ireturn)]
set_option maxRecDepth 20000 in
theorem ok_X5_size {E : ZEX} {X : ZMX} {d mc ms : Nat} {P : ZPT} {T : ZTT} (h : ZCX E X MX5_size d mc ms P T) : ∀ pc, ZRow E X MX5_size mc ms P T pc (ztb (tb_X5_size E d mc ms) pc) := ztb_ok (by
  unfold tb_X5_size
  refine zfmc (r_aload_n h (pc := 0) (kf := 0) 0 (by decide +kernel) rfl) ?_
  refine zfmc (r_getf h (pc := 1) (ix := 9) (by decide +kernel) ckX5 1 (by decide) wk_b2a5557a1f) ?_
  refine zfmc (r_ireturn h (pc := 4) (by decide +kernel) rfl) ?_
  exact zfm0)
def tb_X5_get (E : ZEX) (d mc ms : Nat) : List (Nat × ZStep) := [(0, s_iload 1 1), (1, s_if_lt 22 4), (4, s_iload 1 5), (5, s_aload 0 6), (6, s_getf 4 0 9), (9, s_alen E 10), (10, s_icmp_ge 22 13), (13, s_aload 0 14), (14, s_getf 4 0 17), (17, s_iload 1 18), (18, s_iaload E 19), (19, s_goto 23), (22, s_const (.int (0)) 23), (23, s_ireturn)]
set_option maxRecDepth 20000 in
theorem ok_X5_get {E : ZEX} {X : ZMX} {d mc ms : Nat} {P : ZPT} {T : ZTT} (h : ZCX E X MX5_get d mc ms P T) : ∀ pc, ZRow E X MX5_get mc ms P T pc (ztb (tb_X5_get E d mc ms) pc) := ztb_ok (by
  unfold tb_X5_get
  refine zfmc (r_iload_n h (pc := 0) (kf := 1) 1 (by decide +kernel) rfl) ?_
  refine zfmc (r_if_lt h (pc := 1) (off := 21) (by decide +kernel) 22 (by decide +kernel)) ?_
  refine zfmc (r_iload_n h (pc := 4) (kf := 1) 1 (by decide +kernel) rfl) ?_
  refine zfmc (r_aload_n h (pc := 5) (kf := 0) 0 (by decide +kernel) rfl) ?_
  refine zfmc (r_getf h (pc := 6) (ix := 15) (by decide +kernel) ckX5 0 (by decide) wk_1ad293a04b) ?_
  refine zfmc (r_alen h (pc := 9) (by decide +kernel)) ?_
  refine zfmc (r_icmp_ge h (pc := 10) (off := 12) (by decide +kernel) 22 (by decide +kernel)) ?_
  refine zfmc (r_aload_n h (pc := 13) (kf := 0) 0 (by decide +kernel) rfl) ?_
  refine zfmc (r_getf h (pc := 14) (ix := 15) (by decide +kernel) ckX5 0 (by decide) wk_1ad293a04b) ?_
  refine zfmc (r_iload_n h (pc := 17) (kf := 1) 1 (by decide +kernel) rfl) ?_
  refine zfmc (r_iaload h (pc := 18) (by decide +kernel)) ?_
  refine zfmc (r_goto h (pc := 19) (off := 4) (by decide +kernel) 23 (by decide +kernel)) ?_
  refine zfmc (r_iconst h (pc := 22) (z := 0) (by decide +kernel) (0) (by decide +kernel)) ?_
  refine zfmc (r_ireturn h (pc := 23) (by decide +kernel) rfl) ?_
  exact zfm0)
def tb_X5_set (E : ZEX) (d mc ms : Nat) : List (Nat × ZStep) := [(0, s_iload 1 1), (1, s_if_lt 20 4), (4, s_iload 1 5), (5, s_aload 0 6), (6, s_getf 4 0 9), (9, s_alen E 10), (10, s_icmp_ge 20 13), (13, s_aload 0 14), (14, s_getf 4 0 17), (17, s_iload 1 18), (18, s_iload 2 19), (19, s_iastore E 20), (20, s_return)]
set_option maxRecDepth 20000 in
theorem ok_X5_set {E : ZEX} {X : ZMX} {d mc ms : Nat} {P : ZPT} {T : ZTT} (h : ZCX E X MX5_set d mc ms P T) : ∀ pc, ZRow E X MX5_set mc ms P T pc (ztb (tb_X5_set E d mc ms) pc) := ztb_ok (by
  unfold tb_X5_set
  refine zfmc (r_iload_n h (pc := 0) (kf := 1) 1 (by decide +kernel) rfl) ?_
  refine zfmc (r_if_lt h (pc := 1) (off := 19) (by decide +kernel) 20 (by decide +kernel)) ?_
  refine zfmc (r_iload_n h (pc := 4) (kf := 1) 1 (by decide +kernel) rfl) ?_
  refine zfmc (r_aload_n h (pc := 5) (kf := 0) 0 (by decide +kernel) rfl) ?_
  refine zfmc (r_getf h (pc := 6) (ix := 15) (by decide +kernel) ckX5 0 (by decide) wk_1ad293a04b) ?_
  refine zfmc (r_alen h (pc := 9) (by decide +kernel)) ?_
  refine zfmc (r_icmp_ge h (pc := 10) (off := 10) (by decide +kernel) 20 (by decide +kernel)) ?_
  refine zfmc (r_aload_n h (pc := 13) (kf := 0) 0 (by decide +kernel) rfl) ?_
  refine zfmc (r_getf h (pc := 14) (ix := 15) (by decide +kernel) ckX5 0 (by decide) wk_1ad293a04b) ?_
  refine zfmc (r_iload_n h (pc := 17) (kf := 1) 1 (by decide +kernel) rfl) ?_
  refine zfmc (r_iload_n h (pc := 18) (kf := 2) 2 (by decide +kernel) rfl) ?_
  refine zfmc (r_iastore h (pc := 19) (by decide +kernel)) ?_
  refine zfmc (r_return h (pc := 20) (by decide +kernel) rfl) ?_
  exact zfm0)
def tb_X5_raise (E : ZEX) (d mc ms : Nat) : List (Nat × ZStep) := [(0, s_iload 1 1), (1, s_if_lt 23 4), (4, s_iload 1 5), (5, s_aload 0 6), (6, s_getf 4 0 9), (9, s_alen E 10), (10, s_icmp_ge 23 13), (13, s_aload 0 14), (14, s_getf 4 0 17), (17, s_iload 1 18), (18, s_dup2 19), (19, s_iaload E 20), (20, s_iload 2 21), (21, s_iadd 22), (22, s_iastore E 23), (23, s_return)]
set_option maxRecDepth 20000 in
theorem ok_X5_raise {E : ZEX} {X : ZMX} {d mc ms : Nat} {P : ZPT} {T : ZTT} (h : ZCX E X MX5_raise d mc ms P T) : ∀ pc, ZRow E X MX5_raise mc ms P T pc (ztb (tb_X5_raise E d mc ms) pc) := ztb_ok (by
  unfold tb_X5_raise
  refine zfmc (r_iload_n h (pc := 0) (kf := 1) 1 (by decide +kernel) rfl) ?_
  refine zfmc (r_if_lt h (pc := 1) (off := 22) (by decide +kernel) 23 (by decide +kernel)) ?_
  refine zfmc (r_iload_n h (pc := 4) (kf := 1) 1 (by decide +kernel) rfl) ?_
  refine zfmc (r_aload_n h (pc := 5) (kf := 0) 0 (by decide +kernel) rfl) ?_
  refine zfmc (r_getf h (pc := 6) (ix := 15) (by decide +kernel) ckX5 0 (by decide) wk_1ad293a04b) ?_
  refine zfmc (r_alen h (pc := 9) (by decide +kernel)) ?_
  refine zfmc (r_icmp_ge h (pc := 10) (off := 13) (by decide +kernel) 23 (by decide +kernel)) ?_
  refine zfmc (r_aload_n h (pc := 13) (kf := 0) 0 (by decide +kernel) rfl) ?_
  refine zfmc (r_getf h (pc := 14) (ix := 15) (by decide +kernel) ckX5 0 (by decide) wk_1ad293a04b) ?_
  refine zfmc (r_iload_n h (pc := 17) (kf := 1) 1 (by decide +kernel) rfl) ?_
  refine zfmc (r_dup2 h (pc := 18) (by decide +kernel)) ?_
  refine zfmc (r_iaload h (pc := 19) (by decide +kernel)) ?_
  refine zfmc (r_iload_n h (pc := 20) (kf := 2) 2 (by decide +kernel) rfl) ?_
  refine zfmc (r_iadd h (pc := 21) (by decide +kernel)) ?_
  refine zfmc (r_iastore h (pc := 22) (by decide +kernel)) ?_
  refine zfmc (r_return h (pc := 23) (by decide +kernel) rfl) ?_
  exact zfm0)
def tb_X5_exchange (E : ZEX) (d mc ms : Nat) : List (Nat × ZStep) := [(0, s_iload 1 1), (1, s_if_lt 52 4), (4, s_iload 1 5), (5, s_aload 0 6), (6, s_getf 4 0 9), (9, s_alen E 10), (10, s_icmp_ge 52 13), (13, s_iload 2 14), (14, s_if_lt 52 17), (17, s_iload 2 18), (18, s_aload 0 19), (19, s_getf 4 0 22), (22, s_alen E 23), (23, s_icmp_ge 52 26), (26, s_aload 0 27), (27, s_getf 4 0 30), (30, s_iload 1 31), (31, s_iaload E 32), (32, s_istore 3 33), (33, s_aload 0 34), (34, s_getf 4 0 37), (37, s_iload 1 38), (38, s_aload 0 39), (39, s_getf 4 0 42), (42, s_iload 2 43), (43, s_iaload E 44), (44, s_iastore E 45), (45, s_aload 0 46), (46, s_getf 4 0 49), (49, s_iload 2 50), (50, s_iload 3 51), (51, s_iastore E 52), (52, s_return)]
set_option maxRecDepth 20000 in
theorem ok_X5_exchange {E : ZEX} {X : ZMX} {d mc ms : Nat} {P : ZPT} {T : ZTT} (h : ZCX E X MX5_exchange d mc ms P T) : ∀ pc, ZRow E X MX5_exchange mc ms P T pc (ztb (tb_X5_exchange E d mc ms) pc) := ztb_ok (by
  unfold tb_X5_exchange
  refine zfmc (r_iload_n h (pc := 0) (kf := 1) 1 (by decide +kernel) rfl) ?_
  refine zfmc (r_if_lt h (pc := 1) (off := 51) (by decide +kernel) 52 (by decide +kernel)) ?_
  refine zfmc (r_iload_n h (pc := 4) (kf := 1) 1 (by decide +kernel) rfl) ?_
  refine zfmc (r_aload_n h (pc := 5) (kf := 0) 0 (by decide +kernel) rfl) ?_
  refine zfmc (r_getf h (pc := 6) (ix := 15) (by decide +kernel) ckX5 0 (by decide) wk_1ad293a04b) ?_
  refine zfmc (r_alen h (pc := 9) (by decide +kernel)) ?_
  refine zfmc (r_icmp_ge h (pc := 10) (off := 42) (by decide +kernel) 52 (by decide +kernel)) ?_
  refine zfmc (r_iload_n h (pc := 13) (kf := 2) 2 (by decide +kernel) rfl) ?_
  refine zfmc (r_if_lt h (pc := 14) (off := 38) (by decide +kernel) 52 (by decide +kernel)) ?_
  refine zfmc (r_iload_n h (pc := 17) (kf := 2) 2 (by decide +kernel) rfl) ?_
  refine zfmc (r_aload_n h (pc := 18) (kf := 0) 0 (by decide +kernel) rfl) ?_
  refine zfmc (r_getf h (pc := 19) (ix := 15) (by decide +kernel) ckX5 0 (by decide) wk_1ad293a04b) ?_
  refine zfmc (r_alen h (pc := 22) (by decide +kernel)) ?_
  refine zfmc (r_icmp_ge h (pc := 23) (off := 29) (by decide +kernel) 52 (by decide +kernel)) ?_
  refine zfmc (r_aload_n h (pc := 26) (kf := 0) 0 (by decide +kernel) rfl) ?_
  refine zfmc (r_getf h (pc := 27) (ix := 15) (by decide +kernel) ckX5 0 (by decide) wk_1ad293a04b) ?_
  refine zfmc (r_iload_n h (pc := 30) (kf := 1) 1 (by decide +kernel) rfl) ?_
  refine zfmc (r_iaload h (pc := 31) (by decide +kernel)) ?_
  refine zfmc (r_istore_n h (pc := 32) (kf := 3) 3 (by decide +kernel) rfl (by decide +kernel)) ?_
  refine zfmc (r_aload_n h (pc := 33) (kf := 0) 0 (by decide +kernel) rfl) ?_
  refine zfmc (r_getf h (pc := 34) (ix := 15) (by decide +kernel) ckX5 0 (by decide) wk_1ad293a04b) ?_
  refine zfmc (r_iload_n h (pc := 37) (kf := 1) 1 (by decide +kernel) rfl) ?_
  refine zfmc (r_aload_n h (pc := 38) (kf := 0) 0 (by decide +kernel) rfl) ?_
  refine zfmc (r_getf h (pc := 39) (ix := 15) (by decide +kernel) ckX5 0 (by decide) wk_1ad293a04b) ?_
  refine zfmc (r_iload_n h (pc := 42) (kf := 2) 2 (by decide +kernel) rfl) ?_
  refine zfmc (r_iaload h (pc := 43) (by decide +kernel)) ?_
  refine zfmc (r_iastore h (pc := 44) (by decide +kernel)) ?_
  refine zfmc (r_aload_n h (pc := 45) (kf := 0) 0 (by decide +kernel) rfl) ?_
  refine zfmc (r_getf h (pc := 46) (ix := 15) (by decide +kernel) ckX5 0 (by decide) wk_1ad293a04b) ?_
  refine zfmc (r_iload_n h (pc := 49) (kf := 2) 2 (by decide +kernel) rfl) ?_
  refine zfmc (r_iload_n h (pc := 50) (kf := 3) 3 (by decide +kernel) rfl) ?_
  refine zfmc (r_iastore h (pc := 51) (by decide +kernel)) ?_
  refine zfmc (r_return h (pc := 52) (by decide +kernel) rfl) ?_
  exact zfm0)
def tb_X5_add (E : ZEX) (d mc ms : Nat) : List (Nat × ZStep) := [(0, s_aload 0 1), (1, s_getf 4 1 4), (4, s_if_lt 39 7), (7, s_aload 0 8), (8, s_getf 4 1 11), (11, s_aload 0 12), (12, s_getf 4 0 15), (15, s_alen E 16), (16, s_icmp_ge 39 19), (19, s_aload 0 20), (20, s_getf 4 0 23), (23, s_aload 0 24), (24, s_getf 4 1 27), (27, s_iload 1 28), (28, s_iastore E 29), (29, s_aload 0 30), (30, s_dup 31), (31, s_getf 4 1 34), (34, s_const (.int (1)) 35), (35, s_iadd 36), (36, s_putf 4 1 0 39), (39, s_return)]
set_option maxRecDepth 20000 in
theorem ok_X5_add {E : ZEX} {X : ZMX} {d mc ms : Nat} {P : ZPT} {T : ZTT} (h : ZCX E X MX5_add d mc ms P T) : ∀ pc, ZRow E X MX5_add mc ms P T pc (ztb (tb_X5_add E d mc ms) pc) := ztb_ok (by
  unfold tb_X5_add
  refine zfmc (r_aload_n h (pc := 0) (kf := 0) 0 (by decide +kernel) rfl) ?_
  refine zfmc (r_getf h (pc := 1) (ix := 9) (by decide +kernel) ckX5 1 (by decide) wk_b2a5557a1f) ?_
  refine zfmc (r_if_lt h (pc := 4) (off := 35) (by decide +kernel) 39 (by decide +kernel)) ?_
  refine zfmc (r_aload_n h (pc := 7) (kf := 0) 0 (by decide +kernel) rfl) ?_
  refine zfmc (r_getf h (pc := 8) (ix := 9) (by decide +kernel) ckX5 1 (by decide) wk_b2a5557a1f) ?_
  refine zfmc (r_aload_n h (pc := 11) (kf := 0) 0 (by decide +kernel) rfl) ?_
  refine zfmc (r_getf h (pc := 12) (ix := 15) (by decide +kernel) ckX5 0 (by decide) wk_1ad293a04b) ?_
  refine zfmc (r_alen h (pc := 15) (by decide +kernel)) ?_
  refine zfmc (r_icmp_ge h (pc := 16) (off := 23) (by decide +kernel) 39 (by decide +kernel)) ?_
  refine zfmc (r_aload_n h (pc := 19) (kf := 0) 0 (by decide +kernel) rfl) ?_
  refine zfmc (r_getf h (pc := 20) (ix := 15) (by decide +kernel) ckX5 0 (by decide) wk_1ad293a04b) ?_
  refine zfmc (r_aload_n h (pc := 23) (kf := 0) 0 (by decide +kernel) rfl) ?_
  refine zfmc (r_getf h (pc := 24) (ix := 9) (by decide +kernel) ckX5 1 (by decide) wk_b2a5557a1f) ?_
  refine zfmc (r_iload_n h (pc := 27) (kf := 1) 1 (by decide +kernel) rfl) ?_
  refine zfmc (r_iastore h (pc := 28) (by decide +kernel)) ?_
  refine zfmc (r_aload_n h (pc := 29) (kf := 0) 0 (by decide +kernel) rfl) ?_
  refine zfmc (r_dup h (pc := 30) (by decide +kernel)) ?_
  refine zfmc (r_getf h (pc := 31) (ix := 9) (by decide +kernel) ckX5 1 (by decide) wk_b2a5557a1f) ?_
  refine zfmc (r_iconst h (pc := 34) (z := 1) (by decide +kernel) (1) (by decide +kernel)) ?_
  refine zfmc (r_iadd h (pc := 35) (by decide +kernel)) ?_
  refine zfmc (r_putf h (pc := 36) (ix := 9) (by decide +kernel) ckX5 1 (by decide) 0 (fty := tyX5 1) (tyX5_ok 1 (by decide)) rfl rfl wk_b2a5557a1f) ?_
  refine zfmc (r_return h (pc := 39) (by decide +kernel) rfl) ?_
  exact zfm0)
def tb_X5_addAll (E : ZEX) (d mc ms : Nat) : List (Nat × ZStep) := [(0, s_const (.int (0)) 1), (1, s_istore 2 2), (2, s_iload 2 3), (3, s_aload 1 4), (4, s_getf 4 1 7), (7, s_icmp_ge 25 10), (10, s_aload 0 11), (11, s_aload 1 12), (12, s_iload 2 13), (13, s_callV E d mc ms 4 MX5_get 1 16), (16, s_callV E d mc ms 4 MX5_add 1 19), (19, s_iinc 2 (1) 22), (22, s_goto 2), (25, s_return)]
set_option maxRecDepth 20000 in
theorem ok_X5_addAll {E : ZEX} {X : ZMX} {d mc ms : Nat} {P : ZPT} {T : ZTT} (h : ZCX E X MX5_addAll d mc ms P T) : ∀ pc, ZRow E X MX5_addAll mc ms P T pc (ztb (tb_X5_addAll E d mc ms) pc) := ztb_ok (by
  unfold tb_X5_addAll
  refine zfmc (r_iconst h (pc := 0) (z := 0) (by decide +kernel) (0) (by decide +kernel)) ?_
  refine zfmc (r_istore_n h (pc := 1) (kf := 2) 2 (by decide +kernel) rfl (by decide +kernel)) ?_
  refine zfmc (r_iload_n h (pc := 2) (kf := 2) 2 (by decide +kernel) rfl) ?_
  refine zfmc (r_aload_n h (pc := 3) (kf := 1) 1 (by decide +kernel) rfl) ?_
  refine zfmc (r_getf h (pc := 4) (ix := 9) (by decide +kernel) ckX5 1 (by decide) wk_b2a5557a1f) ?_
  refine zfmc (r_icmp_ge h (pc := 7) (off := 18) (by decide +kernel) 25 (by decide +kernel)) ?_
  refine zfmc (r_aload_n h (pc := 10) (kf := 0) 0 (by decide +kernel) rfl) ?_
  refine zfmc (r_aload_n h (pc := 11) (kf := 1) 1 (by decide +kernel) rfl) ?_
  refine zfmc (r_iload_n h (pc := 12) (kf := 2) 2 (by decide +kernel) rfl) ?_
  refine zfmc (r_callV h (pc := 13) (ix := 19) (by decide +kernel) ckX5 1 mcX5_get wk_d096485f84 wk_2fc5911f3e wk_1db6b0b94a rfl) ?_
  refine zfmc (r_callV h (pc := 16) (ix := 23) (by decide +kernel) ckX5 1 mcX5_add wk_e34e9f52c3 wk_d0764159d0 wk_45d5950202 rfl) ?_
  refine zfmc (r_iinc h (pc := 19) 2 (z := 1) (by decide +kernel) (1) (by decide +kernel) (by decide +kernel)) ?_
  refine zfmc (r_goto h (pc := 22) (off := -20) (by decide +kernel) 2 (by decide +kernel)) ?_
  refine zfmc (r_return h (pc := 25) (by decide +kernel) rfl) ?_
  exact zfm0)
def tb_X5_takeLast (E : ZEX) (d mc ms : Nat) : List (Nat × ZStep) := [(0, s_aload 0 1), (1, s_getf 4 1 4), (4, s_const (.int (1)) 5), (5, s_icmp_lt 20 8), (8, s_aload 0 9), (9, s_getf 4 1 12), (12, s_aload 0 13), (13, s_getf 4 0 16), (16, s_alen E 17), (17, s_icmp_le 22 20), (20, s_const (.int (0)) 21), (21, s_ireturn), (22, s_aload 0 23), (23, s_dup 24), (24, s_getf 4 1 27), (27, s_const (.int (1)) 28), (28, s_isub 29), (29, s_putf 4 1 0 32), (32, s_aload 0 33), (33, s_getf 4 0 36), (36, s_aload 0 37), (37, s_getf 4 1 40), (40, s_iaload E 41), (41, s_ireturn)]
set_option maxRecDepth 20000 in
theorem ok_X5_takeLast {E : ZEX} {X : ZMX} {d mc ms : Nat} {P : ZPT} {T : ZTT} (h : ZCX E X MX5_takeLast d mc ms P T) : ∀ pc, ZRow E X MX5_takeLast mc ms P T pc (ztb (tb_X5_takeLast E d mc ms) pc) := ztb_ok (by
  unfold tb_X5_takeLast
  refine zfmc (r_aload_n h (pc := 0) (kf := 0) 0 (by decide +kernel) rfl) ?_
  refine zfmc (r_getf h (pc := 1) (ix := 9) (by decide +kernel) ckX5 1 (by decide) wk_b2a5557a1f) ?_
  refine zfmc (r_iconst h (pc := 4) (z := 1) (by decide +kernel) (1) (by decide +kernel)) ?_
  refine zfmc (r_icmp_lt h (pc := 5) (off := 15) (by decide +kernel) 20 (by decide +kernel)) ?_
  refine zfmc (r_aload_n h (pc := 8) (kf := 0) 0 (by decide +kernel) rfl) ?_
  refine zfmc (r_getf h (pc := 9) (ix := 9) (by decide +kernel) ckX5 1 (by decide) wk_b2a5557a1f) ?_
  refine zfmc (r_aload_n h (pc := 12) (kf := 0) 0 (by decide +kernel) rfl) ?_
  refine zfmc (r_getf h (pc := 13) (ix := 15) (by decide +kernel) ckX5 0 (by decide) wk_1ad293a04b) ?_
  refine zfmc (r_alen h (pc := 16) (by decide +kernel)) ?_
  refine zfmc (r_icmp_le h (pc := 17) (off := 5) (by decide +kernel) 22 (by decide +kernel)) ?_
  refine zfmc (r_iconst h (pc := 20) (z := 0) (by decide +kernel) (0) (by decide +kernel)) ?_
  refine zfmc (r_ireturn h (pc := 21) (by decide +kernel) rfl) ?_
  refine zfmc (r_aload_n h (pc := 22) (kf := 0) 0 (by decide +kernel) rfl) ?_
  refine zfmc (r_dup h (pc := 23) (by decide +kernel)) ?_
  refine zfmc (r_getf h (pc := 24) (ix := 9) (by decide +kernel) ckX5 1 (by decide) wk_b2a5557a1f) ?_
  refine zfmc (r_iconst h (pc := 27) (z := 1) (by decide +kernel) (1) (by decide +kernel)) ?_
  refine zfmc (r_isub h (pc := 28) (by decide +kernel)) ?_
  refine zfmc (r_putf h (pc := 29) (ix := 9) (by decide +kernel) ckX5 1 (by decide) 0 (fty := tyX5 1) (tyX5_ok 1 (by decide)) rfl rfl wk_b2a5557a1f) ?_
  refine zfmc (r_aload_n h (pc := 32) (kf := 0) 0 (by decide +kernel) rfl) ?_
  refine zfmc (r_getf h (pc := 33) (ix := 15) (by decide +kernel) ckX5 0 (by decide) wk_1ad293a04b) ?_
  refine zfmc (r_aload_n h (pc := 36) (kf := 0) 0 (by decide +kernel) rfl) ?_
  refine zfmc (r_getf h (pc := 37) (ix := 9) (by decide +kernel) ckX5 1 (by decide) wk_b2a5557a1f) ?_
  refine zfmc (r_iaload h (pc := 40) (by decide +kernel)) ?_
  refine zfmc (r_ireturn h (pc := 41) (by decide +kernel) rfl) ?_
  exact zfm0)
def tb_X5_cut (E : ZEX) (d mc ms : Nat) : List (Nat × ZStep) := [(0, s_iload 1 1), (1, s_if_lt 63 4), (4, s_iload 2 5), (5, s_if_lt 63 8), (8, s_iload 2 9), (9, s_aload 0 10), (10, s_getf 4 1 13), (13, s_iload 1 14), (14, s_isub 15), (15, s_icmp_gt 63 18), (18, s_aload 0 19), (19, s_getf 4 1 22), (22, s_aload 0 23), (23, s_getf 4 0 26), (26, s_alen E 27), (27, s_icmp_gt 63 30), (30, s_aload 0 31), (31, s_getf 4 0 34), (34, s_iload 1 35), (35, s_iload 2 36), (36, s_iadd 37), (37, s_aload 0 38), (38, s_getf 4 0 41), (41, s_iload 1 42), (42, s_aload 0 43), (43, s_getf 4 1 46), (46, s_iload 1 47), (47, s_isub 48), (48, s_iload 2 49), (49, s_isub 50), (50, s_acopy E d 53), (53, s_aload 0 54), (54, s_dup 55), (55, s_getf 4 1 58), (58, s_iload 2 59), (59, s_isub 60), (60, s_putf 4 1 0 63), (63, s_return)]
set_option maxRecDepth 20000 in
theorem ok_X5_cut {E : ZEX} {X : ZMX} {d mc ms : Nat} {P : ZPT} {T : ZTT} (h : ZCX E X MX5_cut d mc ms P T) : ∀ pc, ZRow E X MX5_cut mc ms P T pc (ztb (tb_X5_cut E d mc ms) pc) := ztb_ok (by
  unfold tb_X5_cut
  refine zfmc (r_iload_n h (pc := 0) (kf := 1) 1 (by decide +kernel) rfl) ?_
  refine zfmc (r_if_lt h (pc := 1) (off := 62) (by decide +kernel) 63 (by decide +kernel)) ?_
  refine zfmc (r_iload_n h (pc := 4) (kf := 2) 2 (by decide +kernel) rfl) ?_
  refine zfmc (r_if_lt h (pc := 5) (off := 58) (by decide +kernel) 63 (by decide +kernel)) ?_
  refine zfmc (r_iload_n h (pc := 8) (kf := 2) 2 (by decide +kernel) rfl) ?_
  refine zfmc (r_aload_n h (pc := 9) (kf := 0) 0 (by decide +kernel) rfl) ?_
  refine zfmc (r_getf h (pc := 10) (ix := 9) (by decide +kernel) ckX5 1 (by decide) wk_b2a5557a1f) ?_
  refine zfmc (r_iload_n h (pc := 13) (kf := 1) 1 (by decide +kernel) rfl) ?_
  refine zfmc (r_isub h (pc := 14) (by decide +kernel)) ?_
  refine zfmc (r_icmp_gt h (pc := 15) (off := 48) (by decide +kernel) 63 (by decide +kernel)) ?_
  refine zfmc (r_aload_n h (pc := 18) (kf := 0) 0 (by decide +kernel) rfl) ?_
  refine zfmc (r_getf h (pc := 19) (ix := 9) (by decide +kernel) ckX5 1 (by decide) wk_b2a5557a1f) ?_
  refine zfmc (r_aload_n h (pc := 22) (kf := 0) 0 (by decide +kernel) rfl) ?_
  refine zfmc (r_getf h (pc := 23) (ix := 15) (by decide +kernel) ckX5 0 (by decide) wk_1ad293a04b) ?_
  refine zfmc (r_alen h (pc := 26) (by decide +kernel)) ?_
  refine zfmc (r_icmp_gt h (pc := 27) (off := 36) (by decide +kernel) 63 (by decide +kernel)) ?_
  refine zfmc (r_aload_n h (pc := 30) (kf := 0) 0 (by decide +kernel) rfl) ?_
  refine zfmc (r_getf h (pc := 31) (ix := 15) (by decide +kernel) ckX5 0 (by decide) wk_1ad293a04b) ?_
  refine zfmc (r_iload_n h (pc := 34) (kf := 1) 1 (by decide +kernel) rfl) ?_
  refine zfmc (r_iload_n h (pc := 35) (kf := 2) 2 (by decide +kernel) rfl) ?_
  refine zfmc (r_iadd h (pc := 36) (by decide +kernel)) ?_
  refine zfmc (r_aload_n h (pc := 37) (kf := 0) 0 (by decide +kernel) rfl) ?_
  refine zfmc (r_getf h (pc := 38) (ix := 15) (by decide +kernel) ckX5 0 (by decide) wk_1ad293a04b) ?_
  refine zfmc (r_iload_n h (pc := 41) (kf := 1) 1 (by decide +kernel) rfl) ?_
  refine zfmc (r_aload_n h (pc := 42) (kf := 0) 0 (by decide +kernel) rfl) ?_
  refine zfmc (r_getf h (pc := 43) (ix := 9) (by decide +kernel) ckX5 1 (by decide) wk_b2a5557a1f) ?_
  refine zfmc (r_iload_n h (pc := 46) (kf := 1) 1 (by decide +kernel) rfl) ?_
  refine zfmc (r_isub h (pc := 47) (by decide +kernel)) ?_
  refine zfmc (r_iload_n h (pc := 48) (kf := 2) 2 (by decide +kernel) rfl) ?_
  refine zfmc (r_isub h (pc := 49) (by decide +kernel)) ?_
  refine zfmc (r_acopy h (pc := 50) (ix := 27) (by decide +kernel) wk_5f7d545647 wk_14aeafd7f0 wk_410e289dfd wk_c7b251dcc4) ?_
  refine zfmc (r_aload_n h (pc := 53) (kf := 0) 0 (by decide +kernel) rfl) ?_
  refine zfmc (r_dup h (pc := 54) (by decide +kernel)) ?_
  refine zfmc (r_getf h (pc := 55) (ix := 9) (by decide +kernel) ckX5 1 (by decide) wk_b2a5557a1f) ?_
  refine zfmc (r_iload_n h (pc := 58) (kf := 2) 2 (by decide +kernel) rfl) ?_
  refine zfmc (r_isub h (pc := 59) (by decide +kernel)) ?_
  refine zfmc (r_putf h (pc := 60) (ix := 9) (by decide +kernel) ckX5 1 (by decide) 0 (fty := tyX5 1) (tyX5_ok 1 (by decide)) rfl rfl wk_b2a5557a1f) ?_
  refine zfmc (r_return h (pc := 63) (by decide +kernel) rfl) ?_
  exact zfm0)
def tb_X5_find (E : ZEX) (d mc ms : Nat) : List (Nat × ZStep) := [(0, s_iload 2 1), (1, s_istore 3 2), (2, s_iload 3 3), (3, s_aload 0 4), (4, s_getf 4 1 7), (7, s_icmp_ge 27 10), (10, s_aload 0 11), (11, s_iload 3 12), (12, s_callV E d mc ms 4 MX5_get 1 15), (15, s_iload 1 16), (16, s_icmp_ne 21 19), (19, s_iload 3 20), (20, s_ireturn), (21, s_iinc 3 (1) 24), (24, s_goto 2), (27, s_const (.int (-1)) 28), (28, s_ireturn)]
set_option maxRecDepth 20000 in
theorem ok_X5_find {E : ZEX} {X : ZMX} {d mc ms : Nat} {P : ZPT} {T : ZTT} (h : ZCX E X MX5_find d mc ms P T) : ∀ pc, ZRow E X MX5_find mc ms P T pc (ztb (tb_X5_find E d mc ms) pc) := ztb_ok (by
  unfold tb_X5_find
  refine zfmc (r_iload_n h (pc := 0) (kf := 2) 2 (by decide +kernel) rfl) ?_
  refine zfmc (r_istore_n h (pc := 1) (kf := 3) 3 (by decide +kernel) rfl (by decide +kernel)) ?_
  refine zfmc (r_iload_n h (pc := 2) (kf := 3) 3 (by decide +kernel) rfl) ?_
  refine zfmc (r_aload_n h (pc := 3) (kf := 0) 0 (by decide +kernel) rfl) ?_
  refine zfmc (r_getf h (pc := 4) (ix := 9) (by decide +kernel) ckX5 1 (by decide) wk_b2a5557a1f) ?_
  refine zfmc (r_icmp_ge h (pc := 7) (off := 20) (by decide +kernel) 27 (by decide +kernel)) ?_
  refine zfmc (r_aload_n h (pc := 10) (kf := 0) 0 (by decide +kernel) rfl) ?_
  refine zfmc (r_iload_n h (pc := 11) (kf := 3) 3 (by decide +kernel) rfl) ?_
  refine zfmc (r_callV h (pc := 12) (ix := 19) (by decide +kernel) ckX5 1 mcX5_get wk_d096485f84 wk_2fc5911f3e wk_1db6b0b94a rfl) ?_
  refine zfmc (r_iload_n h (pc := 15) (kf := 1) 1 (by decide +kernel) rfl) ?_
  refine zfmc (r_icmp_ne h (pc := 16) (off := 5) (by decide +kernel) 21 (by decide +kernel)) ?_
  refine zfmc (r_iload_n h (pc := 19) (kf := 3) 3 (by decide +kernel) rfl) ?_
  refine zfmc (r_ireturn h (pc := 20) (by decide +kernel) rfl) ?_
  refine zfmc (r_iinc h (pc := 21) 3 (z := 1) (by decide +kernel) (1) (by decide +kernel) (by decide +kernel)) ?_
  refine zfmc (r_goto h (pc := 24) (off := -22) (by decide +kernel) 2 (by decide +kernel)) ?_
  refine zfmc (r_iconst h (pc := 27) (z := -1) (by decide +kernel) (-1) (by decide +kernel)) ?_
  refine zfmc (r_ireturn h (pc := 28) (by decide +kernel) rfl) ?_
  exact zfm0)
def tb_X5_sum (E : ZEX) (d mc ms : Nat) : List (Nat × ZStep) := [(0, s_const (.int (0)) 1), (1, s_istore 1 2), (2, s_aload 0 3), (3, s_getf 4 0 6), (6, s_astore 2 7), (7, s_aload 2 8), (8, s_alen E 9), (9, s_istore 3 10), (10, s_const (.int (0)) 11), (11, s_istore 4 13), (13, s_iload 4 15), (15, s_iload 3 16), (16, s_icmp_ge 36 19), (19, s_aload 2 20), (20, s_iload 4 22), (22, s_iaload E 23), (23, s_istore 5 25), (25, s_iload 1 26), (26, s_iload 5 28), (28, s_iadd 29), (29, s_istore 1 30), (30, s_iinc 4 (1) 33), (33, s_goto 13), (36, s_iload 1 37), (37, s_ireturn)]
set_option maxRecDepth 20000 in
theorem ok_X5_sum {E : ZEX} {X : ZMX} {d mc ms : Nat} {P : ZPT} {T : ZTT} (h : ZCX E X MX5_sum d mc ms P T) : ∀ pc, ZRow E X MX5_sum mc ms P T pc (ztb (tb_X5_sum E d mc ms) pc) := ztb_ok (by
  unfold tb_X5_sum
  refine zfmc (r_iconst h (pc := 0) (z := 0) (by decide +kernel) (0) (by decide +kernel)) ?_
  refine zfmc (r_istore_n h (pc := 1) (kf := 1) 1 (by decide +kernel) rfl (by decide +kernel)) ?_
  refine zfmc (r_aload_n h (pc := 2) (kf := 0) 0 (by decide +kernel) rfl) ?_
  refine zfmc (r_getf h (pc := 3) (ix := 15) (by decide +kernel) ckX5 0 (by decide) wk_1ad293a04b) ?_
  refine zfmc (r_astore_n h (pc := 6) (kf := 2) 2 (by decide +kernel) rfl (by decide +kernel)) ?_
  refine zfmc (r_aload_n h (pc := 7) (kf := 2) 2 (by decide +kernel) rfl) ?_
  refine zfmc (r_alen h (pc := 8) (by decide +kernel)) ?_
  refine zfmc (r_istore_n h (pc := 9) (kf := 3) 3 (by decide +kernel) rfl (by decide +kernel)) ?_
  refine zfmc (r_iconst h (pc := 10) (z := 0) (by decide +kernel) (0) (by decide +kernel)) ?_
  refine zfmc (r_istore h (pc := 11) 4 (by decide +kernel) (by decide +kernel)) ?_
  refine zfmc (r_iload h (pc := 13) 4 (by decide +kernel)) ?_
  refine zfmc (r_iload_n h (pc := 15) (kf := 3) 3 (by decide +kernel) rfl) ?_
  refine zfmc (r_icmp_ge h (pc := 16) (off := 20) (by decide +kernel) 36 (by decide +kernel)) ?_
  refine zfmc (r_aload_n h (pc := 19) (kf := 2) 2 (by decide +kernel) rfl) ?_
  refine zfmc (r_iload h (pc := 20) 4 (by decide +kernel)) ?_
  refine zfmc (r_iaload h (pc := 22) (by decide +kernel)) ?_
  refine zfmc (r_istore h (pc := 23) 5 (by decide +kernel) (by decide +kernel)) ?_
  refine zfmc (r_iload_n h (pc := 25) (kf := 1) 1 (by decide +kernel) rfl) ?_
  refine zfmc (r_iload h (pc := 26) 5 (by decide +kernel)) ?_
  refine zfmc (r_iadd h (pc := 28) (by decide +kernel)) ?_
  refine zfmc (r_istore_n h (pc := 29) (kf := 1) 1 (by decide +kernel) rfl (by decide +kernel)) ?_
  refine zfmc (r_iinc h (pc := 30) 4 (z := 1) (by decide +kernel) (1) (by decide +kernel) (by decide +kernel)) ?_
  refine zfmc (r_goto h (pc := 33) (off := -20) (by decide +kernel) 13 (by decide +kernel)) ?_
  refine zfmc (r_iload_n h (pc := 36) (kf := 1) 1 (by decide +kernel) rfl) ?_
  refine zfmc (r_ireturn h (pc := 37) (by decide +kernel) rfl) ?_
  exact zfm0)
def tb_X5_clear (E : ZEX) (d mc ms : Nat) : List (Nat × ZStep) := [(0, s_aload 0 1), (1, s_getf 4 0 4), (4, s_const (.int (0)) 5), (5, s_callS E d mc ms MJ7_fill_53178 2 8), (8, s_aload 0 9), (9, s_const (.int (0)) 10), (10, s_putf 4 1 0 13), (13, s_return)]
set_option maxRecDepth 20000 in
theorem ok_X5_clear {E : ZEX} {X : ZMX} {d mc ms : Nat} {P : ZPT} {T : ZTT} (h : ZCX E X MX5_clear d mc ms P T) : ∀ pc, ZRow E X MX5_clear mc ms P T pc (ztb (tb_X5_clear E d mc ms) pc) := ztb_ok (by
  unfold tb_X5_clear
  refine zfmc (r_aload_n h (pc := 0) (kf := 0) 0 (by decide +kernel) rfl) ?_
  refine zfmc (r_getf h (pc := 1) (ix := 15) (by decide +kernel) ckX5 0 (by decide) wk_1ad293a04b) ?_
  refine zfmc (r_iconst h (pc := 4) (z := 0) (by decide +kernel) (0) (by decide +kernel)) ?_
  refine zfmc (r_callS h (pc := 5) (ix := 33) (by decide +kernel) 2 mcJ7_fill_53178 wk_97748cb2ff wk_88adf0563c) ?_
  refine zfmc (r_aload_n h (pc := 8) (kf := 0) 0 (by decide +kernel) rfl) ?_
  refine zfmc (r_iconst h (pc := 9) (z := 0) (by decide +kernel) (0) (by decide +kernel)) ?_
  refine zfmc (r_putf h (pc := 10) (ix := 9) (by decide +kernel) ckX5 1 (by decide) 0 (fty := tyX5 1) (tyX5_ok 1 (by decide)) rfl rfl wk_b2a5557a1f) ?_
  refine zfmc (r_return h (pc := 13) (by decide +kernel) rfl) ?_
  exact zfm0)
def tb_X5_copy (E : ZEX) (d mc ms : Nat) : List (Nat × ZStep) := [(0, s_aload 1 1), (1, s_getf 4 0 4), (4, s_alen E 5), (5, s_aload 0 6), (6, s_getf 4 0 9), (9, s_alen E 10), (10, s_icmp_ne 39 13), (13, s_aload 1 14), (14, s_getf 4 0 17), (17, s_const (.int (0)) 18), (18, s_aload 0 19), (19, s_getf 4 0 22), (22, s_const (.int (0)) 23), (23, s_aload 0 24), (24, s_getf 4 0 27), (27, s_alen E 28), (28, s_acopy E d 31), (31, s_aload 0 32), (32, s_aload 1 33), (33, s_getf 4 1 36), (36, s_putf 4 1 0 39), (39, s_return)]
set_option maxRecDepth 20000 in
theorem ok_X5_copy {E : ZEX} {X : ZMX} {d mc ms : Nat} {P : ZPT} {T : ZTT} (h : ZCX E X MX5_copy d mc ms P T) : ∀ pc, ZRow E X MX5_copy mc ms P T pc (ztb (tb_X5_copy E d mc ms) pc) := ztb_ok (by
  unfold tb_X5_copy
  refine zfmc (r_aload_n h (pc := 0) (kf := 1) 1 (by decide +kernel) rfl) ?_
  refine zfmc (r_getf h (pc := 1) (ix := 15) (by decide +kernel) ckX5 0 (by decide) wk_1ad293a04b) ?_
  refine zfmc (r_alen h (pc := 4) (by decide +kernel)) ?_
  refine zfmc (r_aload_n h (pc := 5) (kf := 0) 0 (by decide +kernel) rfl) ?_
  refine zfmc (r_getf h (pc := 6) (ix := 15) (by decide +kernel) ckX5 0 (by decide) wk_1ad293a04b) ?_
  refine zfmc (r_alen h (pc := 9) (by decide +kernel)) ?_
  refine zfmc (r_icmp_ne h (pc := 10) (off := 29) (by decide +kernel) 39 (by decide +kernel)) ?_
  refine zfmc (r_aload_n h (pc := 13) (kf := 1) 1 (by decide +kernel) rfl) ?_
  refine zfmc (r_getf h (pc := 14) (ix := 15) (by decide +kernel) ckX5 0 (by decide) wk_1ad293a04b) ?_
  refine zfmc (r_iconst h (pc := 17) (z := 0) (by decide +kernel) (0) (by decide +kernel)) ?_
  refine zfmc (r_aload_n h (pc := 18) (kf := 0) 0 (by decide +kernel) rfl) ?_
  refine zfmc (r_getf h (pc := 19) (ix := 15) (by decide +kernel) ckX5 0 (by decide) wk_1ad293a04b) ?_
  refine zfmc (r_iconst h (pc := 22) (z := 0) (by decide +kernel) (0) (by decide +kernel)) ?_
  refine zfmc (r_aload_n h (pc := 23) (kf := 0) 0 (by decide +kernel) rfl) ?_
  refine zfmc (r_getf h (pc := 24) (ix := 15) (by decide +kernel) ckX5 0 (by decide) wk_1ad293a04b) ?_
  refine zfmc (r_alen h (pc := 27) (by decide +kernel)) ?_
  refine zfmc (r_acopy h (pc := 28) (ix := 27) (by decide +kernel) wk_5f7d545647 wk_14aeafd7f0 wk_410e289dfd wk_c7b251dcc4) ?_
  refine zfmc (r_aload_n h (pc := 31) (kf := 0) 0 (by decide +kernel) rfl) ?_
  refine zfmc (r_aload_n h (pc := 32) (kf := 1) 1 (by decide +kernel) rfl) ?_
  refine zfmc (r_getf h (pc := 33) (ix := 9) (by decide +kernel) ckX5 1 (by decide) wk_b2a5557a1f) ?_
  refine zfmc (r_putf h (pc := 36) (ix := 9) (by decide +kernel) ckX5 1 (by decide) 0 (fty := tyX5 1) (tyX5_ok 1 (by decide)) rfl rfl wk_b2a5557a1f) ?_
  refine zfmc (r_return h (pc := 39) (by decide +kernel) rfl) ?_
  exact zfm0)
def tb_X9_init (E : ZEX) (d mc ms : Nat) : List (Nat × ZStep) := [(0, s_aload 0 1), (1, s_objinit d 4), (4, s_aload 0 5), (5, s_const (.int (2000)) 8), (8, s_newB E mc ms 10), (10, s_putf 8 0 3 13), (13, s_aload 0 14), (14, s_const (.int (0)) 15), (15, s_putf 8 1 0 18), (18, s_return)]
set_option maxRecDepth 20000 in
theorem ok_X9_init {E : ZEX} {X : ZMX} {d mc ms : Nat} {P : ZPT} {T : ZTT} (h : ZCX E X MX9_init d mc ms P T) : ∀ pc, ZRow E X MX9_init mc ms P T pc (ztb (tb_X9_init E d mc ms) pc) := ztb_ok (by
  unfold tb_X9_init
  refine zfmc (r_aload_n h (pc := 0) (kf := 0) 0 (by decide +kernel) rfl) ?_
  refine zfmc (r_objinit h (pc := 1) (ix := 3) (by decide +kernel) wk_8e559e9e65 wk_ee0d472f0f wk_13171937f3) ?_
  refine zfmc (r_aload_n h (pc := 4) (kf := 0) 0 (by decide +kernel) rfl) ?_
  refine zfmc (r_sipush h (pc := 5) (z := 2000) (by decide +kernel) (2000) (by decide +kernel)) ?_
  refine zfmc (r_newB h (pc := 8) (by decide +kernel) wk_8fa79b4ac1) ?_
  refine zfmc (r_putfF h (pc := 10) (ix := 9) (by decide +kernel) ckX9 0 (by decide) 3 (fty := tyX9 0) (tyX9_ok 0 (by decide)) rfl rfl rfl rfl wk_3be24ad038) ?_
  refine zfmc (r_aload_n h (pc := 13) (kf := 0) 0 (by decide +kernel) rfl) ?_
  refine zfmc (r_iconst h (pc := 14) (z := 0) (by decide +kernel) (0) (by decide +kernel)) ?_
  refine zfmc (r_putf h (pc := 15) (ix := 15) (by decide +kernel) ckX9 1 (by decide) 0 (fty := tyX9 1) (tyX9_ok 1 (by decide)) rfl rfl wk_e25ac94302) ?_
  refine zfmc (r_return h (pc := 18) (by decide +kernel) rfl) ?_
  exact zfm0)
def tb_X9_length (E : ZEX) (d mc ms : Nat) : List (Nat × ZStep) := [(0, s_aload 0 1), (1, s_getf 8 1 4), (4, s_ireturn)]
set_option maxRecDepth 20000 in
theorem ok_X9_length {E : ZEX} {X : ZMX} {d mc ms : Nat} {P : ZPT} {T : ZTT} (h : ZCX E X MX9_length d mc ms P T) : ∀ pc, ZRow E X MX9_length mc ms P T pc (ztb (tb_X9_length E d mc ms) pc) := ztb_ok (by
  unfold tb_X9_length
  refine zfmc (r_aload_n h (pc := 0) (kf := 0) 0 (by decide +kernel) rfl) ?_
  refine zfmc (r_getf h (pc := 1) (ix := 15) (by decide +kernel) ckX9 1 (by decide) wk_e25ac94302) ?_
  refine zfmc (r_ireturn h (pc := 4) (by decide +kernel) rfl) ?_
  exact zfm0)
def tb_X9_at (E : ZEX) (d mc ms : Nat) : List (Nat × ZStep) := [(0, s_iload 1 1), (1, s_if_lt 30 4), (4, s_iload 1 5), (5, s_aload 0 6), (6, s_getf 8 1 9), (9, s_icmp_ge 30 12), (12, s_iload 1 13), (13, s_aload 0 14), (14, s_getf 8 0 17), (17, s_alen E 18), (18, s_icmp_ge 30 21), (21, s_aload 0 22), (22, s_getf 8 0 25), (25, s_iload 1 26), (26, s_baload E 27), (27, s_goto 31), (30, s_const (.int (0)) 31), (31, s_ireturn)]
set_option maxRecDepth 20000 in
theorem ok_X9_at {E : ZEX} {X : ZMX} {d mc ms : Nat} {P : ZPT} {T : ZTT} (h : ZCX E X MX9_at d mc ms P T) : ∀ pc, ZRow E X MX9_at mc ms P T pc (ztb (tb_X9_at E d mc ms) pc) := ztb_ok (by
  unfold tb_X9_at
  refine zfmc (r_iload_n h (pc := 0) (kf := 1) 1 (by decide +kernel) rfl) ?_
  refine zfmc (r_if_lt h (pc := 1) (off := 29) (by decide +kernel) 30 (by decide +kernel)) ?_
  refine zfmc (r_iload_n h (pc := 4) (kf := 1) 1 (by decide +kernel) rfl) ?_
  refine zfmc (r_aload_n h (pc := 5) (kf := 0) 0 (by decide +kernel) rfl) ?_
  refine zfmc (r_getf h (pc := 6) (ix := 15) (by decide +kernel) ckX9 1 (by decide) wk_e25ac94302) ?_
  refine zfmc (r_icmp_ge h (pc := 9) (off := 21) (by decide +kernel) 30 (by decide +kernel)) ?_
  refine zfmc (r_iload_n h (pc := 12) (kf := 1) 1 (by decide +kernel) rfl) ?_
  refine zfmc (r_aload_n h (pc := 13) (kf := 0) 0 (by decide +kernel) rfl) ?_
  refine zfmc (r_getf h (pc := 14) (ix := 9) (by decide +kernel) ckX9 0 (by decide) wk_3be24ad038) ?_
  refine zfmc (r_alen h (pc := 17) (by decide +kernel)) ?_
  refine zfmc (r_icmp_ge h (pc := 18) (off := 12) (by decide +kernel) 30 (by decide +kernel)) ?_
  refine zfmc (r_aload_n h (pc := 21) (kf := 0) 0 (by decide +kernel) rfl) ?_
  refine zfmc (r_getf h (pc := 22) (ix := 9) (by decide +kernel) ckX9 0 (by decide) wk_3be24ad038) ?_
  refine zfmc (r_iload_n h (pc := 25) (kf := 1) 1 (by decide +kernel) rfl) ?_
  refine zfmc (r_baload h (pc := 26) (by decide +kernel)) ?_
  refine zfmc (r_goto h (pc := 27) (off := 4) (by decide +kernel) 31 (by decide +kernel)) ?_
  refine zfmc (r_iconst h (pc := 30) (z := 0) (by decide +kernel) (0) (by decide +kernel)) ?_
  refine zfmc (r_ireturn h (pc := 31) (by decide +kernel) rfl) ?_
  exact zfm0)
def tb_X9_append (E : ZEX) (d mc ms : Nat) : List (Nat × ZStep) := [(0, s_const (.int (24)) 2), (2, s_istore 2 3), (3, s_iload 2 4), (4, s_if_lt 55 7), (7, s_aload 0 8), (8, s_getf 8 1 11), (11, s_if_lt 49 14), (14, s_aload 0 15), (15, s_getf 8 1 18), (18, s_aload 0 19), (19, s_getf 8 0 22), (22, s_alen E 23), (23, s_icmp_ge 49 26), (26, s_aload 0 27), (27, s_getf 8 0 30), (30, s_aload 0 31), (31, s_getf 8 1 34), (34, s_iload 1 35), (35, s_iload 2 36), (36, s_ishr 37), (37, s_i2b 38), (38, s_bastore E 39), (39, s_aload 0 40), (40, s_dup 41), (41, s_getf 8 1 44), (44, s_const (.int (1)) 45), (45, s_iadd 46), (46, s_putf 8 1 0 49), (49, s_iinc 2 (-8) 52), (52, s_goto 3), (55, s_return)]
set_option maxRecDepth 20000 in
theorem ok_X9_append {E : ZEX} {X : ZMX} {d mc ms : Nat} {P : ZPT} {T : ZTT} (h : ZCX E X MX9_append d mc ms P T) : ∀ pc, ZRow E X MX9_append mc ms P T pc (ztb (tb_X9_append E d mc ms) pc) := ztb_ok (by
  unfold tb_X9_append
  refine zfmc (r_bipush h (pc := 0) (z := 24) (by decide +kernel) (24) (by decide +kernel)) ?_
  refine zfmc (r_istore_n h (pc := 2) (kf := 2) 2 (by decide +kernel) rfl (by decide +kernel)) ?_
  refine zfmc (r_iload_n h (pc := 3) (kf := 2) 2 (by decide +kernel) rfl) ?_
  refine zfmc (r_if_lt h (pc := 4) (off := 51) (by decide +kernel) 55 (by decide +kernel)) ?_
  refine zfmc (r_aload_n h (pc := 7) (kf := 0) 0 (by decide +kernel) rfl) ?_
  refine zfmc (r_getf h (pc := 8) (ix := 15) (by decide +kernel) ckX9 1 (by decide) wk_e25ac94302) ?_
  refine zfmc (r_if_lt h (pc := 11) (off := 38) (by decide +kernel) 49 (by decide +kernel)) ?_
  refine zfmc (r_aload_n h (pc := 14) (kf := 0) 0 (by decide +kernel) rfl) ?_
  refine zfmc (r_getf h (pc := 15) (ix := 15) (by decide +kernel) ckX9 1 (by decide) wk_e25ac94302) ?_
  refine zfmc (r_aload_n h (pc := 18) (kf := 0) 0 (by decide +kernel) rfl) ?_
  refine zfmc (r_getf h (pc := 19) (ix := 9) (by decide +kernel) ckX9 0 (by decide) wk_3be24ad038) ?_
  refine zfmc (r_alen h (pc := 22) (by decide +kernel)) ?_
  refine zfmc (r_icmp_ge h (pc := 23) (off := 26) (by decide +kernel) 49 (by decide +kernel)) ?_
  refine zfmc (r_aload_n h (pc := 26) (kf := 0) 0 (by decide +kernel) rfl) ?_
  refine zfmc (r_getf h (pc := 27) (ix := 9) (by decide +kernel) ckX9 0 (by decide) wk_3be24ad038) ?_
  refine zfmc (r_aload_n h (pc := 30) (kf := 0) 0 (by decide +kernel) rfl) ?_
  refine zfmc (r_getf h (pc := 31) (ix := 15) (by decide +kernel) ckX9 1 (by decide) wk_e25ac94302) ?_
  refine zfmc (r_iload_n h (pc := 34) (kf := 1) 1 (by decide +kernel) rfl) ?_
  refine zfmc (r_iload_n h (pc := 35) (kf := 2) 2 (by decide +kernel) rfl) ?_
  refine zfmc (r_ishr h (pc := 36) (by decide +kernel)) ?_
  refine zfmc (r_i2b h (pc := 37) (by decide +kernel)) ?_
  refine zfmc (r_bastore h (pc := 38) (by decide +kernel)) ?_
  refine zfmc (r_aload_n h (pc := 39) (kf := 0) 0 (by decide +kernel) rfl) ?_
  refine zfmc (r_dup h (pc := 40) (by decide +kernel)) ?_
  refine zfmc (r_getf h (pc := 41) (ix := 15) (by decide +kernel) ckX9 1 (by decide) wk_e25ac94302) ?_
  refine zfmc (r_iconst h (pc := 44) (z := 1) (by decide +kernel) (1) (by decide +kernel)) ?_
  refine zfmc (r_iadd h (pc := 45) (by decide +kernel)) ?_
  refine zfmc (r_putf h (pc := 46) (ix := 15) (by decide +kernel) ckX9 1 (by decide) 0 (fty := tyX9 1) (tyX9_ok 1 (by decide)) rfl rfl wk_e25ac94302) ?_
  refine zfmc (r_iinc h (pc := 49) 2 (z := -8) (by decide +kernel) (-8) (by decide +kernel) (by decide +kernel)) ?_
  refine zfmc (r_goto h (pc := 52) (off := -49) (by decide +kernel) 3 (by decide +kernel)) ?_
  refine zfmc (r_return h (pc := 55) (by decide +kernel) rfl) ?_
  exact zfm0)
def tb_X9_shorten (E : ZEX) (d mc ms : Nat) : List (Nat × ZStep) := [(0, s_iload 1 1), (1, s_if_lt 17 4), (4, s_iload 1 5), (5, s_aload 0 6), (6, s_getf 8 1 9), (9, s_icmp_ge 17 12), (12, s_aload 0 13), (13, s_iload 1 14), (14, s_putf 8 1 0 17), (17, s_return)]
set_option maxRecDepth 20000 in
theorem ok_X9_shorten {E : ZEX} {X : ZMX} {d mc ms : Nat} {P : ZPT} {T : ZTT} (h : ZCX E X MX9_shorten d mc ms P T) : ∀ pc, ZRow E X MX9_shorten mc ms P T pc (ztb (tb_X9_shorten E d mc ms) pc) := ztb_ok (by
  unfold tb_X9_shorten
  refine zfmc (r_iload_n h (pc := 0) (kf := 1) 1 (by decide +kernel) rfl) ?_
  refine zfmc (r_if_lt h (pc := 1) (off := 16) (by decide +kernel) 17 (by decide +kernel)) ?_
  refine zfmc (r_iload_n h (pc := 4) (kf := 1) 1 (by decide +kernel) rfl) ?_
  refine zfmc (r_aload_n h (pc := 5) (kf := 0) 0 (by decide +kernel) rfl) ?_
  refine zfmc (r_getf h (pc := 6) (ix := 15) (by decide +kernel) ckX9 1 (by decide) wk_e25ac94302) ?_
  refine zfmc (r_icmp_ge h (pc := 9) (off := 8) (by decide +kernel) 17 (by decide +kernel)) ?_
  refine zfmc (r_aload_n h (pc := 12) (kf := 0) 0 (by decide +kernel) rfl) ?_
  refine zfmc (r_iload_n h (pc := 13) (kf := 1) 1 (by decide +kernel) rfl) ?_
  refine zfmc (r_putf h (pc := 14) (ix := 15) (by decide +kernel) ckX9 1 (by decide) 0 (fty := tyX9 1) (tyX9_ok 1 (by decide)) rfl rfl wk_e25ac94302) ?_
  refine zfmc (r_return h (pc := 17) (by decide +kernel) rfl) ?_
  exact zfm0)
def tb_X11_init (E : ZEX) (d mc ms : Nat) : List (Nat × ZStep) := [(0, s_aload 0 1), (1, s_objinit d 4), (4, s_aload 0 5), (5, s_new 4 2 fsX5 mc ms 8), (8, s_dup 9), (9, s_const (.int (60)) 11), (11, s_callI E d mc ms MX5_init 1 14), (14, s_putf 10 0 3 17), (17, s_aload 0 18), (18, s_new 4 2 fsX5 mc ms 21), (21, s_dup 22), (22, s_const (.int (60)) 24), (24, s_callI E d mc ms MX5_init 1 27), (27, s_putf 10 1 3 30), (30, s_aload 0 31), (31, s_new 4 2 fsX5 mc ms 34), (34, s_dup 35), (35, s_const (.int (10)) 37), (37, s_callI E d mc ms MX5_init 1 40), (40, s_putf 10 2 3 43), (43, s_aload 0 44), (44, s_const (.int (0)) 45), (45, s_putf 10 3 0 48), (48, s_aload 0 49), (49, s_const (.int (0)) 50), (50, s_putf 10 4 0 53), (53, s_aload 0 54), (54, s_const (.int (1)) 55), (55, s_putf 10 5 0 58), (58, s_aload 0 59), (59, s_const (.int (0)) 60), (60, s_putf 10 6 0 63), (63, s_aload 0 64), (64, s_const (.int (0)) 65), (65, s_putf 10 7 0 68), (68, s_aload 0 69), (69, s_const (.int (0)) 70), (70, s_putf 10 8 0 73), (73, s_aload 0 74), (74, s_const (.int (0)) 75), (75, s_putf 10 9 0 78), (78, s_return)]
set_option maxRecDepth 20000 in
theorem ok_X11_init {E : ZEX} {X : ZMX} {d mc ms : Nat} {P : ZPT} {T : ZTT} (h : ZCX E X MX11_init d mc ms P T) : ∀ pc, ZRow E X MX11_init mc ms P T pc (ztb (tb_X11_init E d mc ms) pc) := ztb_ok (by
  unfold tb_X11_init
  refine zfmc (r_aload_n h (pc := 0) (kf := 0) 0 (by decide +kernel) rfl) ?_
  refine zfmc (r_objinit h (pc := 1) (ix := 3) (by decide +kernel) wk_ec6daf1330 wk_ee0d472f0f wk_13171937f3) ?_
  refine zfmc (r_aload_n h (pc := 4) (kf := 0) 0 (by decide +kernel) rfl) ?_
  refine zfmc (r_new h (pc := 5) (ix := 9) (by decide +kernel) ckX5 fsX5 tyX5 tyX5_ok fsX5_ok wk_95f64b5820 wk_17139636bc wk_1cd044b3d8) ?_
  refine zfmc (r_dup h (pc := 8) (by decide +kernel)) ?_
  refine zfmc (r_bipush h (pc := 9) (z := 60) (by decide +kernel) (60) (by decide +kernel)) ?_
  refine zfmc (r_callI h (pc := 11) (ix := 11) (by decide +kernel) 1 mcX5_init wk_ed7131bba4 rfl rfl wk_535b76d462) ?_
  refine zfmc (r_putfF h (pc := 14) (ix := 14) (by decide +kernel) ckX11 0 (by decide) 3 (fty := tyX11 0) (tyX11_ok 0 (by decide)) rfl rfl rfl rfl wk_4fce5a72e8) ?_
  refine zfmc (r_aload_n h (pc := 17) (kf := 0) 0 (by decide +kernel) rfl) ?_
  refine zfmc (r_new h (pc := 18) (ix := 9) (by decide +kernel) ckX5 fsX5 tyX5 tyX5_ok fsX5_ok wk_95f64b5820 wk_17139636bc wk_1cd044b3d8) ?_
  refine zfmc (r_dup h (pc := 21) (by decide +kernel)) ?_
  refine zfmc (r_bipush h (pc := 22) (z := 60) (by decide +kernel) (60) (by decide +kernel)) ?_
  refine zfmc (r_callI h (pc := 24) (ix := 11) (by decide +kernel) 1 mcX5_init wk_ed7131bba4 rfl rfl wk_535b76d462) ?_
  refine zfmc (r_putfF h (pc := 27) (ix := 20) (by decide +kernel) ckX11 1 (by decide) 3 (fty := tyX11 1) (tyX11_ok 1 (by decide)) rfl rfl rfl rfl wk_b2d824206a) ?_
  refine zfmc (r_aload_n h (pc := 30) (kf := 0) 0 (by decide +kernel) rfl) ?_
  refine zfmc (r_new h (pc := 31) (ix := 9) (by decide +kernel) ckX5 fsX5 tyX5 tyX5_ok fsX5_ok wk_95f64b5820 wk_17139636bc wk_1cd044b3d8) ?_
  refine zfmc (r_dup h (pc := 34) (by decide +kernel)) ?_
  refine zfmc (r_bipush h (pc := 35) (z := 10) (by decide +kernel) (10) (by decide +kernel)) ?_
  refine zfmc (r_callI h (pc := 37) (ix := 11) (by decide +kernel) 1 mcX5_init wk_ed7131bba4 rfl rfl wk_535b76d462) ?_
  refine zfmc (r_putfF h (pc := 40) (ix := 23) (by decide +kernel) ckX11 2 (by decide) 3 (fty := tyX11 2) (tyX11_ok 2 (by decide)) rfl rfl rfl rfl wk_606d9ca1e5) ?_
  refine zfmc (r_aload_n h (pc := 43) (kf := 0) 0 (by decide +kernel) rfl) ?_
  refine zfmc (r_iconst h (pc := 44) (z := 0) (by decide +kernel) (0) (by decide +kernel)) ?_
  refine zfmc (r_putf h (pc := 45) (ix := 26) (by decide +kernel) ckX11 3 (by decide) 0 (fty := tyX11 3) (tyX11_ok 3 (by decide)) rfl rfl wk_023762ff95) ?_
  refine zfmc (r_aload_n h (pc := 48) (kf := 0) 0 (by decide +kernel) rfl) ?_
  refine zfmc (r_iconst h (pc := 49) (z := 0) (by decide +kernel) (0) (by decide +kernel)) ?_
  refine zfmc (r_putf h (pc := 50) (ix := 30) (by decide +kernel) ckX11 4 (by decide) 0 (fty := tyX11 4) (tyX11_ok 4 (by decide)) rfl rfl wk_429c8e56b1) ?_
  refine zfmc (r_aload_n h (pc := 53) (kf := 0) 0 (by decide +kernel) rfl) ?_
  refine zfmc (r_iconst h (pc := 54) (z := 1) (by decide +kernel) (1) (by decide +kernel)) ?_
  refine zfmc (r_putf h (pc := 55) (ix := 33) (by decide +kernel) ckX11 5 (by decide) 0 (fty := tyX11 5) (tyX11_ok 5 (by decide)) rfl rfl wk_0fb1ac07f7) ?_
  refine zfmc (r_aload_n h (pc := 58) (kf := 0) 0 (by decide +kernel) rfl) ?_
  refine zfmc (r_iconst h (pc := 59) (z := 0) (by decide +kernel) (0) (by decide +kernel)) ?_
  refine zfmc (r_putf h (pc := 60) (ix := 36) (by decide +kernel) ckX11 6 (by decide) 0 (fty := tyX11 6) (tyX11_ok 6 (by decide)) rfl rfl wk_dcd2c63c5b) ?_
  refine zfmc (r_aload_n h (pc := 63) (kf := 0) 0 (by decide +kernel) rfl) ?_
  refine zfmc (r_iconst h (pc := 64) (z := 0) (by decide +kernel) (0) (by decide +kernel)) ?_
  refine zfmc (r_putf h (pc := 65) (ix := 39) (by decide +kernel) ckX11 7 (by decide) 0 (fty := tyX11 7) (tyX11_ok 7 (by decide)) rfl rfl wk_a2a9cee8ef) ?_
  refine zfmc (r_aload_n h (pc := 68) (kf := 0) 0 (by decide +kernel) rfl) ?_
  refine zfmc (r_iconst h (pc := 69) (z := 0) (by decide +kernel) (0) (by decide +kernel)) ?_
  refine zfmc (r_putf h (pc := 70) (ix := 42) (by decide +kernel) ckX11 8 (by decide) 0 (fty := tyX11 8) (tyX11_ok 8 (by decide)) rfl rfl wk_4666a62fb8) ?_
  refine zfmc (r_aload_n h (pc := 73) (kf := 0) 0 (by decide +kernel) rfl) ?_
  refine zfmc (r_iconst h (pc := 74) (z := 0) (by decide +kernel) (0) (by decide +kernel)) ?_
  refine zfmc (r_putf h (pc := 75) (ix := 45) (by decide +kernel) ckX11 9 (by decide) 0 (fty := tyX11 9) (tyX11_ok 9 (by decide)) rfl rfl wk_7a2c654403) ?_
  refine zfmc (r_return h (pc := 78) (by decide +kernel) rfl) ?_
  exact zfm0)
def tb_X11_begin (E : ZEX) (d mc ms : Nat) : List (Nat × ZStep) := [(0, s_aload 0 1), (1, s_getf 10 0 4), (4, s_callV E d mc ms 4 MX5_clear 0 7), (7, s_aload 0 8), (8, s_getf 10 1 11), (11, s_callV E d mc ms 4 MX5_clear 0 14), (14, s_aload 0 15), (15, s_getf 10 2 18), (18, s_callV E d mc ms 4 MX5_clear 0 21), (21, s_aload 0 22), (22, s_const (.int (0)) 23), (23, s_putf 10 3 0 26), (26, s_aload 0 27), (27, s_const (.int (0)) 28), (28, s_putf 10 4 0 31), (31, s_aload 0 32), (32, s_const (.int (7)) 34), (34, s_iload 1 35), (35, s_imul 36), (36, s_const (.int (1)) 37), (37, s_iadd 38), (38, s_putf 10 5 0 41), (41, s_aload 0 42), (42, s_const (.int (0)) 43), (43, s_putf 10 6 0 46), (46, s_aload 0 47), (47, s_const (.int (0)) 48), (48, s_putf 10 7 0 51), (51, s_aload 0 52), (52, s_const (.int (0)) 53), (53, s_putf 10 8 0 56), (56, s_aload 0 57), (57, s_const (.int (0)) 58), (58, s_putf 10 9 0 61), (61, s_const (.int (0)) 62), (62, s_istore 3 63), (63, s_iload 3 64), (64, s_aload 2 65), (65, s_callV E d mc ms 4 MX5_size 0 68), (68, s_icmp_ge 86 71), (71, s_aload 0 72), (72, s_aload 2 73), (73, s_iload 3 74), (74, s_callV E d mc ms 4 MX5_get 1 77), (77, s_callV E d mc ms 10 MX11_gain 1 80), (80, s_iinc 3 (1) 83), (83, s_goto 63), (86, s_return)]
set_option maxRecDepth 20000 in
theorem ok_X11_begin {E : ZEX} {X : ZMX} {d mc ms : Nat} {P : ZPT} {T : ZTT} (h : ZCX E X MX11_begin d mc ms P T) : ∀ pc, ZRow E X MX11_begin mc ms P T pc (ztb (tb_X11_begin E d mc ms) pc) := ztb_ok (by
  unfold tb_X11_begin
  refine zfmc (r_aload_n h (pc := 0) (kf := 0) 0 (by decide +kernel) rfl) ?_
  refine zfmc (r_getf h (pc := 1) (ix := 14) (by decide +kernel) ckX11 0 (by decide) wk_4fce5a72e8) ?_
  refine zfmc (r_callV h (pc := 4) (ix := 48) (by decide +kernel) ckX5 0 mcX5_clear wk_02cca295a9 wk_fbbe79ca1e wk_6ba25339bd rfl) ?_
  refine zfmc (r_aload_n h (pc := 7) (kf := 0) 0 (by decide +kernel) rfl) ?_
  refine zfmc (r_getf h (pc := 8) (ix := 20) (by decide +kernel) ckX11 1 (by decide) wk_b2d824206a) ?_
  refine zfmc (r_callV h (pc := 11) (ix := 48) (by decide +kernel) ckX5 0 mcX5_clear wk_02cca295a9 wk_fbbe79ca1e wk_6ba25339bd rfl) ?_
  refine zfmc (r_aload_n h (pc := 14) (kf := 0) 0 (by decide +kernel) rfl) ?_
  refine zfmc (r_getf h (pc := 15) (ix := 23) (by decide +kernel) ckX11 2 (by decide) wk_606d9ca1e5) ?_
  refine zfmc (r_callV h (pc := 18) (ix := 48) (by decide +kernel) ckX5 0 mcX5_clear wk_02cca295a9 wk_fbbe79ca1e wk_6ba25339bd rfl) ?_
  refine zfmc (r_aload_n h (pc := 21) (kf := 0) 0 (by decide +kernel) rfl) ?_
  refine zfmc (r_iconst h (pc := 22) (z := 0) (by decide +kernel) (0) (by decide +kernel)) ?_
  refine zfmc (r_putf h (pc := 23) (ix := 26) (by decide +kernel) ckX11 3 (by decide) 0 (fty := tyX11 3) (tyX11_ok 3 (by decide)) rfl rfl wk_023762ff95) ?_
  refine zfmc (r_aload_n h (pc := 26) (kf := 0) 0 (by decide +kernel) rfl) ?_
  refine zfmc (r_iconst h (pc := 27) (z := 0) (by decide +kernel) (0) (by decide +kernel)) ?_
  refine zfmc (r_putf h (pc := 28) (ix := 30) (by decide +kernel) ckX11 4 (by decide) 0 (fty := tyX11 4) (tyX11_ok 4 (by decide)) rfl rfl wk_429c8e56b1) ?_
  refine zfmc (r_aload_n h (pc := 31) (kf := 0) 0 (by decide +kernel) rfl) ?_
  refine zfmc (r_bipush h (pc := 32) (z := 7) (by decide +kernel) (7) (by decide +kernel)) ?_
  refine zfmc (r_iload_n h (pc := 34) (kf := 1) 1 (by decide +kernel) rfl) ?_
  refine zfmc (r_imul h (pc := 35) (by decide +kernel)) ?_
  refine zfmc (r_iconst h (pc := 36) (z := 1) (by decide +kernel) (1) (by decide +kernel)) ?_
  refine zfmc (r_iadd h (pc := 37) (by decide +kernel)) ?_
  refine zfmc (r_putf h (pc := 38) (ix := 33) (by decide +kernel) ckX11 5 (by decide) 0 (fty := tyX11 5) (tyX11_ok 5 (by decide)) rfl rfl wk_0fb1ac07f7) ?_
  refine zfmc (r_aload_n h (pc := 41) (kf := 0) 0 (by decide +kernel) rfl) ?_
  refine zfmc (r_iconst h (pc := 42) (z := 0) (by decide +kernel) (0) (by decide +kernel)) ?_
  refine zfmc (r_putf h (pc := 43) (ix := 36) (by decide +kernel) ckX11 6 (by decide) 0 (fty := tyX11 6) (tyX11_ok 6 (by decide)) rfl rfl wk_dcd2c63c5b) ?_
  refine zfmc (r_aload_n h (pc := 46) (kf := 0) 0 (by decide +kernel) rfl) ?_
  refine zfmc (r_iconst h (pc := 47) (z := 0) (by decide +kernel) (0) (by decide +kernel)) ?_
  refine zfmc (r_putf h (pc := 48) (ix := 39) (by decide +kernel) ckX11 7 (by decide) 0 (fty := tyX11 7) (tyX11_ok 7 (by decide)) rfl rfl wk_a2a9cee8ef) ?_
  refine zfmc (r_aload_n h (pc := 51) (kf := 0) 0 (by decide +kernel) rfl) ?_
  refine zfmc (r_iconst h (pc := 52) (z := 0) (by decide +kernel) (0) (by decide +kernel)) ?_
  refine zfmc (r_putf h (pc := 53) (ix := 42) (by decide +kernel) ckX11 8 (by decide) 0 (fty := tyX11 8) (tyX11_ok 8 (by decide)) rfl rfl wk_4666a62fb8) ?_
  refine zfmc (r_aload_n h (pc := 56) (kf := 0) 0 (by decide +kernel) rfl) ?_
  refine zfmc (r_iconst h (pc := 57) (z := 0) (by decide +kernel) (0) (by decide +kernel)) ?_
  refine zfmc (r_putf h (pc := 58) (ix := 45) (by decide +kernel) ckX11 9 (by decide) 0 (fty := tyX11 9) (tyX11_ok 9 (by decide)) rfl rfl wk_7a2c654403) ?_
  refine zfmc (r_iconst h (pc := 61) (z := 0) (by decide +kernel) (0) (by decide +kernel)) ?_
  refine zfmc (r_istore_n h (pc := 62) (kf := 3) 3 (by decide +kernel) rfl (by decide +kernel)) ?_
  refine zfmc (r_iload_n h (pc := 63) (kf := 3) 3 (by decide +kernel) rfl) ?_
  refine zfmc (r_aload_n h (pc := 64) (kf := 2) 2 (by decide +kernel) rfl) ?_
  refine zfmc (r_callV h (pc := 65) (ix := 51) (by decide +kernel) ckX5 0 mcX5_size wk_2a1282b961 wk_5f3704ee49 wk_5abe0e2775 rfl) ?_
  refine zfmc (r_icmp_ge h (pc := 68) (off := 18) (by decide +kernel) 86 (by decide +kernel)) ?_
  refine zfmc (r_aload_n h (pc := 71) (kf := 0) 0 (by decide +kernel) rfl) ?_
  refine zfmc (r_aload_n h (pc := 72) (kf := 2) 2 (by decide +kernel) rfl) ?_
  refine zfmc (r_iload_n h (pc := 73) (kf := 3) 3 (by decide +kernel) rfl) ?_
  refine zfmc (r_callV h (pc := 74) (ix := 55) (by decide +kernel) ckX5 1 mcX5_get wk_d096485f84 wk_95f04e9090 wk_1db6b0b94a rfl) ?_
  refine zfmc (r_callV h (pc := 77) (ix := 59) (by decide +kernel) ckX11 1 mcX11_gain wk_fecf2be63f wk_bc13a5f060 wk_63bdb3e140 rfl) ?_
  refine zfmc (r_iinc h (pc := 80) 3 (z := 1) (by decide +kernel) (1) (by decide +kernel) (by decide +kernel)) ?_
  refine zfmc (r_goto h (pc := 83) (off := -20) (by decide +kernel) 63 (by decide +kernel)) ?_
  refine zfmc (r_return h (pc := 86) (by decide +kernel) rfl) ?_
  exact zfm0)
def tb_X11_copy (E : ZEX) (d mc ms : Nat) : List (Nat × ZStep) := [(0, s_aload 0 1), (1, s_getf 10 0 4), (4, s_aload 1 5), (5, s_getf 10 0 8), (8, s_callV E d mc ms 4 MX5_copy 1 11), (11, s_aload 0 12), (12, s_getf 10 1 15), (15, s_aload 1 16), (16, s_getf 10 1 19), (19, s_callV E d mc ms 4 MX5_copy 1 22), (22, s_aload 0 23), (23, s_getf 10 2 26), (26, s_aload 1 27), (27, s_getf 10 2 30), (30, s_callV E d mc ms 4 MX5_copy 1 33), (33, s_aload 0 34), (34, s_aload 1 35), (35, s_getf 10 3 38), (38, s_putf 10 3 0 41), (41, s_aload 0 42), (42, s_aload 1 43), (43, s_getf 10 4 46), (46, s_putf 10 4 0 49), (49, s_aload 0 50), (50, s_aload 1 51), (51, s_getf 10 5 54), (54, s_putf 10 5 0 57), (57, s_aload 0 58), (58, s_aload 1 59), (59, s_getf 10 6 62), (62, s_putf 10 6 0 65), (65, s_aload 0 66), (66, s_aload 1 67), (67, s_getf 10 7 70), (70, s_putf 10 7 0 73), (73, s_aload 0 74), (74, s_aload 1 75), (75, s_getf 10 8 78), (78, s_putf 10 8 0 81), (81, s_aload 0 82), (82, s_aload 1 83), (83, s_getf 10 9 86), (86, s_putf 10 9 0 89), (89, s_return)]
set_option maxRecDepth 20000 in
theorem ok_X11_copy {E : ZEX} {X : ZMX} {d mc ms : Nat} {P : ZPT} {T : ZTT} (h : ZCX E X MX11_copy d mc ms P T) : ∀ pc, ZRow E X MX11_copy mc ms P T pc (ztb (tb_X11_copy E d mc ms) pc) := ztb_ok (by
  unfold tb_X11_copy
  refine zfmc (r_aload_n h (pc := 0) (kf := 0) 0 (by decide +kernel) rfl) ?_
  refine zfmc (r_getf h (pc := 1) (ix := 14) (by decide +kernel) ckX11 0 (by decide) wk_4fce5a72e8) ?_
  refine zfmc (r_aload_n h (pc := 4) (kf := 1) 1 (by decide +kernel) rfl) ?_
  refine zfmc (r_getf h (pc := 5) (ix := 14) (by decide +kernel) ckX11 0 (by decide) wk_4fce5a72e8) ?_
  refine zfmc (r_callV h (pc := 8) (ix := 62) (by decide +kernel) ckX5 1 mcX5_copy wk_4b1c1692f4 wk_ed8478f8f3 wk_c5fab07008 rfl) ?_
  refine zfmc (r_aload_n h (pc := 11) (kf := 0) 0 (by decide +kernel) rfl) ?_
  refine zfmc (r_getf h (pc := 12) (ix := 20) (by decide +kernel) ckX11 1 (by decide) wk_b2d824206a) ?_
  refine zfmc (r_aload_n h (pc := 15) (kf := 1) 1 (by decide +kernel) rfl) ?_
  refine zfmc (r_getf h (pc := 16) (ix := 20) (by decide +kernel) ckX11 1 (by decide) wk_b2d824206a) ?_
  refine zfmc (r_callV h (pc := 19) (ix := 62) (by decide +kernel) ckX5 1 mcX5_copy wk_4b1c1692f4 wk_ed8478f8f3 wk_c5fab07008 rfl) ?_
  refine zfmc (r_aload_n h (pc := 22) (kf := 0) 0 (by decide +kernel) rfl) ?_
  refine zfmc (r_getf h (pc := 23) (ix := 23) (by decide +kernel) ckX11 2 (by decide) wk_606d9ca1e5) ?_
  refine zfmc (r_aload_n h (pc := 26) (kf := 1) 1 (by decide +kernel) rfl) ?_
  refine zfmc (r_getf h (pc := 27) (ix := 23) (by decide +kernel) ckX11 2 (by decide) wk_606d9ca1e5) ?_
  refine zfmc (r_callV h (pc := 30) (ix := 62) (by decide +kernel) ckX5 1 mcX5_copy wk_4b1c1692f4 wk_ed8478f8f3 wk_c5fab07008 rfl) ?_
  refine zfmc (r_aload_n h (pc := 33) (kf := 0) 0 (by decide +kernel) rfl) ?_
  refine zfmc (r_aload_n h (pc := 34) (kf := 1) 1 (by decide +kernel) rfl) ?_
  refine zfmc (r_getf h (pc := 35) (ix := 26) (by decide +kernel) ckX11 3 (by decide) wk_023762ff95) ?_
  refine zfmc (r_putf h (pc := 38) (ix := 26) (by decide +kernel) ckX11 3 (by decide) 0 (fty := tyX11 3) (tyX11_ok 3 (by decide)) rfl rfl wk_023762ff95) ?_
  refine zfmc (r_aload_n h (pc := 41) (kf := 0) 0 (by decide +kernel) rfl) ?_
  refine zfmc (r_aload_n h (pc := 42) (kf := 1) 1 (by decide +kernel) rfl) ?_
  refine zfmc (r_getf h (pc := 43) (ix := 30) (by decide +kernel) ckX11 4 (by decide) wk_429c8e56b1) ?_
  refine zfmc (r_putf h (pc := 46) (ix := 30) (by decide +kernel) ckX11 4 (by decide) 0 (fty := tyX11 4) (tyX11_ok 4 (by decide)) rfl rfl wk_429c8e56b1) ?_
  refine zfmc (r_aload_n h (pc := 49) (kf := 0) 0 (by decide +kernel) rfl) ?_
  refine zfmc (r_aload_n h (pc := 50) (kf := 1) 1 (by decide +kernel) rfl) ?_
  refine zfmc (r_getf h (pc := 51) (ix := 33) (by decide +kernel) ckX11 5 (by decide) wk_0fb1ac07f7) ?_
  refine zfmc (r_putf h (pc := 54) (ix := 33) (by decide +kernel) ckX11 5 (by decide) 0 (fty := tyX11 5) (tyX11_ok 5 (by decide)) rfl rfl wk_0fb1ac07f7) ?_
  refine zfmc (r_aload_n h (pc := 57) (kf := 0) 0 (by decide +kernel) rfl) ?_
  refine zfmc (r_aload_n h (pc := 58) (kf := 1) 1 (by decide +kernel) rfl) ?_
  refine zfmc (r_getf h (pc := 59) (ix := 36) (by decide +kernel) ckX11 6 (by decide) wk_dcd2c63c5b) ?_
  refine zfmc (r_putf h (pc := 62) (ix := 36) (by decide +kernel) ckX11 6 (by decide) 0 (fty := tyX11 6) (tyX11_ok 6 (by decide)) rfl rfl wk_dcd2c63c5b) ?_
  refine zfmc (r_aload_n h (pc := 65) (kf := 0) 0 (by decide +kernel) rfl) ?_
  refine zfmc (r_aload_n h (pc := 66) (kf := 1) 1 (by decide +kernel) rfl) ?_
  refine zfmc (r_getf h (pc := 67) (ix := 39) (by decide +kernel) ckX11 7 (by decide) wk_a2a9cee8ef) ?_
  refine zfmc (r_putf h (pc := 70) (ix := 39) (by decide +kernel) ckX11 7 (by decide) 0 (fty := tyX11 7) (tyX11_ok 7 (by decide)) rfl rfl wk_a2a9cee8ef) ?_
  refine zfmc (r_aload_n h (pc := 73) (kf := 0) 0 (by decide +kernel) rfl) ?_
  refine zfmc (r_aload_n h (pc := 74) (kf := 1) 1 (by decide +kernel) rfl) ?_
  refine zfmc (r_getf h (pc := 75) (ix := 42) (by decide +kernel) ckX11 8 (by decide) wk_4666a62fb8) ?_
  refine zfmc (r_putf h (pc := 78) (ix := 42) (by decide +kernel) ckX11 8 (by decide) 0 (fty := tyX11 8) (tyX11_ok 8 (by decide)) rfl rfl wk_4666a62fb8) ?_
  refine zfmc (r_aload_n h (pc := 81) (kf := 0) 0 (by decide +kernel) rfl) ?_
  refine zfmc (r_aload_n h (pc := 82) (kf := 1) 1 (by decide +kernel) rfl) ?_
  refine zfmc (r_getf h (pc := 83) (ix := 45) (by decide +kernel) ckX11 9 (by decide) wk_7a2c654403) ?_
  refine zfmc (r_putf h (pc := 86) (ix := 45) (by decide +kernel) ckX11 9 (by decide) 0 (fty := tyX11 9) (tyX11_ok 9 (by decide)) rfl rfl wk_7a2c654403) ?_
  refine zfmc (r_return h (pc := 89) (by decide +kernel) rfl) ?_
  exact zfm0)
def tb_X11_number (E : ZEX) (d mc ms : Nat) : List (Nat × ZStep) := [(0, s_iload 1 1), (1, s_tsw 0 [48, 53, 61, 86, 66, 71, 76, 81] 86), (48, s_aload 0 49), (49, s_callV E d mc ms 10 MX11_deckSize 0 52), (52, s_ireturn), (53, s_aload 0 54), (54, s_getf 10 1 57), (57, s_callV E d mc ms 4 MX5_size 0 60), (60, s_ireturn), (61, s_aload 0 62), (62, s_getf 10 5 65), (65, s_ireturn), (66, s_aload 0 67), (67, s_getf 10 6 70), (70, s_ireturn), (71, s_aload 0 72), (72, s_getf 10 7 75), (75, s_ireturn), (76, s_aload 0 77), (77, s_getf 10 8 80), (80, s_ireturn), (81, s_aload 0 82), (82, s_getf 10 9 85), (85, s_ireturn), (86, s_const (.int (0)) 87), (87, s_ireturn)]
set_option maxRecDepth 20000 in
theorem ok_X11_number {E : ZEX} {X : ZMX} {d mc ms : Nat} {P : ZPT} {T : ZTT} (h : ZCX E X MX11_number d mc ms P T) : ∀ pc, ZRow E X MX11_number mc ms P T pc (ztb (tb_X11_number E d mc ms) pc) := ztb_ok (by
  unfold tb_X11_number
  refine zfmc (r_iload_n h (pc := 0) (kf := 1) 1 (by decide +kernel) rfl) ?_
  refine zfmc (r_tsw h (pc := 1) (dflt := 85) (lo := 0) (hi := 7) (offs := #[47, 52, 60, 85, 65, 70, 75, 80]) (len := 47) (by decide +kernel) [48, 53, 61, 86, 66, 71, 76, 81] 86 (by decide +kernel) (by decide +kernel) (by decide +kernel)) ?_
  refine zfmc (r_aload_n h (pc := 48) (kf := 0) 0 (by decide +kernel) rfl) ?_
  refine zfmc (r_callV h (pc := 49) (ix := 66) (by decide +kernel) ckX11 0 mcX11_deckSize wk_e9d0ddb9cc wk_0e0ac0c838 wk_2c6efe0eda rfl) ?_
  refine zfmc (r_ireturn h (pc := 52) (by decide +kernel) rfl) ?_
  refine zfmc (r_aload_n h (pc := 53) (kf := 0) 0 (by decide +kernel) rfl) ?_
  refine zfmc (r_getf h (pc := 54) (ix := 20) (by decide +kernel) ckX11 1 (by decide) wk_b2d824206a) ?_
  refine zfmc (r_callV h (pc := 57) (ix := 51) (by decide +kernel) ckX5 0 mcX5_size wk_2a1282b961 wk_5f3704ee49 wk_5abe0e2775 rfl) ?_
  refine zfmc (r_ireturn h (pc := 60) (by decide +kernel) rfl) ?_
  refine zfmc (r_aload_n h (pc := 61) (kf := 0) 0 (by decide +kernel) rfl) ?_
  refine zfmc (r_getf h (pc := 62) (ix := 33) (by decide +kernel) ckX11 5 (by decide) wk_0fb1ac07f7) ?_
  refine zfmc (r_ireturn h (pc := 65) (by decide +kernel) rfl) ?_
  refine zfmc (r_aload_n h (pc := 66) (kf := 0) 0 (by decide +kernel) rfl) ?_
  refine zfmc (r_getf h (pc := 67) (ix := 36) (by decide +kernel) ckX11 6 (by decide) wk_dcd2c63c5b) ?_
  refine zfmc (r_ireturn h (pc := 70) (by decide +kernel) rfl) ?_
  refine zfmc (r_aload_n h (pc := 71) (kf := 0) 0 (by decide +kernel) rfl) ?_
  refine zfmc (r_getf h (pc := 72) (ix := 39) (by decide +kernel) ckX11 7 (by decide) wk_a2a9cee8ef) ?_
  refine zfmc (r_ireturn h (pc := 75) (by decide +kernel) rfl) ?_
  refine zfmc (r_aload_n h (pc := 76) (kf := 0) 0 (by decide +kernel) rfl) ?_
  refine zfmc (r_getf h (pc := 77) (ix := 42) (by decide +kernel) ckX11 8 (by decide) wk_4666a62fb8) ?_
  refine zfmc (r_ireturn h (pc := 80) (by decide +kernel) rfl) ?_
  refine zfmc (r_aload_n h (pc := 81) (kf := 0) 0 (by decide +kernel) rfl) ?_
  refine zfmc (r_getf h (pc := 82) (ix := 45) (by decide +kernel) ckX11 9 (by decide) wk_7a2c654403) ?_
  refine zfmc (r_ireturn h (pc := 85) (by decide +kernel) rfl) ?_
  refine zfmc (r_iconst h (pc := 86) (z := 0) (by decide +kernel) (0) (by decide +kernel)) ?_
  refine zfmc (r_ireturn h (pc := 87) (by decide +kernel) rfl) ?_
  exact zfm0)
def tb_X11_deckSize (E : ZEX) (d mc ms : Nat) : List (Nat × ZStep) := [(0, s_aload 0 1), (1, s_getf 10 0 4), (4, s_callV E d mc ms 4 MX5_size 0 7), (7, s_aload 0 8), (8, s_getf 10 3 11), (11, s_isub 12), (12, s_ireturn)]
set_option maxRecDepth 20000 in
theorem ok_X11_deckSize {E : ZEX} {X : ZMX} {d mc ms : Nat} {P : ZPT} {T : ZTT} (h : ZCX E X MX11_deckSize d mc ms P T) : ∀ pc, ZRow E X MX11_deckSize mc ms P T pc (ztb (tb_X11_deckSize E d mc ms) pc) := ztb_ok (by
  unfold tb_X11_deckSize
  refine zfmc (r_aload_n h (pc := 0) (kf := 0) 0 (by decide +kernel) rfl) ?_
  refine zfmc (r_getf h (pc := 1) (ix := 14) (by decide +kernel) ckX11 0 (by decide) wk_4fce5a72e8) ?_
  refine zfmc (r_callV h (pc := 4) (ix := 51) (by decide +kernel) ckX5 0 mcX5_size wk_2a1282b961 wk_5f3704ee49 wk_5abe0e2775 rfl) ?_
  refine zfmc (r_aload_n h (pc := 7) (kf := 0) 0 (by decide +kernel) rfl) ?_
  refine zfmc (r_getf h (pc := 8) (ix := 26) (by decide +kernel) ckX11 3 (by decide) wk_023762ff95) ?_
  refine zfmc (r_isub h (pc := 11) (by decide +kernel)) ?_
  refine zfmc (r_ireturn h (pc := 12) (by decide +kernel) rfl) ?_
  exact zfm0)
def tb_X11_deckCard (E : ZEX) (d mc ms : Nat) : List (Nat × ZStep) := [(0, s_aload 0 1), (1, s_getf 10 0 4), (4, s_aload 0 5), (5, s_getf 10 3 8), (8, s_iload 1 9), (9, s_iadd 10), (10, s_callV E d mc ms 4 MX5_get 1 13), (13, s_ireturn)]
set_option maxRecDepth 20000 in
theorem ok_X11_deckCard {E : ZEX} {X : ZMX} {d mc ms : Nat} {P : ZPT} {T : ZTT} (h : ZCX E X MX11_deckCard d mc ms P T) : ∀ pc, ZRow E X MX11_deckCard mc ms P T pc (ztb (tb_X11_deckCard E d mc ms) pc) := ztb_ok (by
  unfold tb_X11_deckCard
  refine zfmc (r_aload_n h (pc := 0) (kf := 0) 0 (by decide +kernel) rfl) ?_
  refine zfmc (r_getf h (pc := 1) (ix := 14) (by decide +kernel) ckX11 0 (by decide) wk_4fce5a72e8) ?_
  refine zfmc (r_aload_n h (pc := 4) (kf := 0) 0 (by decide +kernel) rfl) ?_
  refine zfmc (r_getf h (pc := 5) (ix := 26) (by decide +kernel) ckX11 3 (by decide) wk_023762ff95) ?_
  refine zfmc (r_iload_n h (pc := 8) (kf := 1) 1 (by decide +kernel) rfl) ?_
  refine zfmc (r_iadd h (pc := 9) (by decide +kernel)) ?_
  refine zfmc (r_callV h (pc := 10) (ix := 55) (by decide +kernel) ckX5 1 mcX5_get wk_d096485f84 wk_95f04e9090 wk_1db6b0b94a rfl) ?_
  refine zfmc (r_ireturn h (pc := 13) (by decide +kernel) rfl) ?_
  exact zfm0)
def tb_X11_drawTop (E : ZEX) (d mc ms : Nat) : List (Nat × ZStep) := [(0, s_aload 0 1), (1, s_dup 2), (2, s_getf 10 3 5), (5, s_const (.int (1)) 6), (6, s_iadd 7), (7, s_putf 10 3 0 10), (10, s_aload 0 11), (11, s_getf 10 0 14), (14, s_aload 0 15), (15, s_getf 10 3 18), (18, s_const (.int (1)) 19), (19, s_isub 20), (20, s_callV E d mc ms 4 MX5_get 1 23), (23, s_ireturn)]
set_option maxRecDepth 20000 in
theorem ok_X11_drawTop {E : ZEX} {X : ZMX} {d mc ms : Nat} {P : ZPT} {T : ZTT} (h : ZCX E X MX11_drawTop d mc ms P T) : ∀ pc, ZRow E X MX11_drawTop mc ms P T pc (ztb (tb_X11_drawTop E d mc ms) pc) := ztb_ok (by
  unfold tb_X11_drawTop
  refine zfmc (r_aload_n h (pc := 0) (kf := 0) 0 (by decide +kernel) rfl) ?_
  refine zfmc (r_dup h (pc := 1) (by decide +kernel)) ?_
  refine zfmc (r_getf h (pc := 2) (ix := 26) (by decide +kernel) ckX11 3 (by decide) wk_023762ff95) ?_
  refine zfmc (r_iconst h (pc := 5) (z := 1) (by decide +kernel) (1) (by decide +kernel)) ?_
  refine zfmc (r_iadd h (pc := 6) (by decide +kernel)) ?_
  refine zfmc (r_putf h (pc := 7) (ix := 26) (by decide +kernel) ckX11 3 (by decide) 0 (fty := tyX11 3) (tyX11_ok 3 (by decide)) rfl rfl wk_023762ff95) ?_
  refine zfmc (r_aload_n h (pc := 10) (kf := 0) 0 (by decide +kernel) rfl) ?_
  refine zfmc (r_getf h (pc := 11) (ix := 14) (by decide +kernel) ckX11 0 (by decide) wk_4fce5a72e8) ?_
  refine zfmc (r_aload_n h (pc := 14) (kf := 0) 0 (by decide +kernel) rfl) ?_
  refine zfmc (r_getf h (pc := 15) (ix := 26) (by decide +kernel) ckX11 3 (by decide) wk_023762ff95) ?_
  refine zfmc (r_iconst h (pc := 18) (z := 1) (by decide +kernel) (1) (by decide +kernel)) ?_
  refine zfmc (r_isub h (pc := 19) (by decide +kernel)) ?_
  refine zfmc (r_callV h (pc := 20) (ix := 55) (by decide +kernel) ckX5 1 mcX5_get wk_d096485f84 wk_95f04e9090 wk_1db6b0b94a rfl) ?_
  refine zfmc (r_ireturn h (pc := 23) (by decide +kernel) rfl) ?_
  exact zfm0)
def tb_X11_gain (E : ZEX) (d mc ms : Nat) : List (Nat × ZStep) := [(0, s_aload 0 1), (1, s_getf 10 1 4), (4, s_iload 1 5), (5, s_callV E d mc ms 4 MX5_add 1 8), (8, s_aload 0 9), (9, s_getf 10 2 12), (12, s_iload 1 13), (13, s_const (.int (1)) 14), (14, s_callV E d mc ms 4 MX5_raise 2 17), (17, s_aload 0 18), (18, s_dup 19), (19, s_getf 10 4 22), (22, s_const (.int (1)) 23), (23, s_iadd 24), (24, s_putf 10 4 0 27), (27, s_return)]
set_option maxRecDepth 20000 in
theorem ok_X11_gain {E : ZEX} {X : ZMX} {d mc ms : Nat} {P : ZPT} {T : ZTT} (h : ZCX E X MX11_gain d mc ms P T) : ∀ pc, ZRow E X MX11_gain mc ms P T pc (ztb (tb_X11_gain E d mc ms) pc) := ztb_ok (by
  unfold tb_X11_gain
  refine zfmc (r_aload_n h (pc := 0) (kf := 0) 0 (by decide +kernel) rfl) ?_
  refine zfmc (r_getf h (pc := 1) (ix := 20) (by decide +kernel) ckX11 1 (by decide) wk_b2d824206a) ?_
  refine zfmc (r_iload_n h (pc := 4) (kf := 1) 1 (by decide +kernel) rfl) ?_
  refine zfmc (r_callV h (pc := 5) (ix := 69) (by decide +kernel) ckX5 1 mcX5_add wk_e34e9f52c3 wk_0dcd4c755c wk_45d5950202 rfl) ?_
  refine zfmc (r_aload_n h (pc := 8) (kf := 0) 0 (by decide +kernel) rfl) ?_
  refine zfmc (r_getf h (pc := 9) (ix := 23) (by decide +kernel) ckX11 2 (by decide) wk_606d9ca1e5) ?_
  refine zfmc (r_iload_n h (pc := 12) (kf := 1) 1 (by decide +kernel) rfl) ?_
  refine zfmc (r_iconst h (pc := 13) (z := 1) (by decide +kernel) (1) (by decide +kernel)) ?_
  refine zfmc (r_callV h (pc := 14) (ix := 72) (by decide +kernel) ckX5 2 mcX5_raise wk_0355c8e134 wk_f920d3111a wk_5f3d568753 rfl) ?_
  refine zfmc (r_aload_n h (pc := 17) (kf := 0) 0 (by decide +kernel) rfl) ?_
  refine zfmc (r_dup h (pc := 18) (by decide +kernel)) ?_
  refine zfmc (r_getf h (pc := 19) (ix := 30) (by decide +kernel) ckX11 4 (by decide) wk_429c8e56b1) ?_
  refine zfmc (r_iconst h (pc := 22) (z := 1) (by decide +kernel) (1) (by decide +kernel)) ?_
  refine zfmc (r_iadd h (pc := 23) (by decide +kernel)) ?_
  refine zfmc (r_putf h (pc := 24) (ix := 30) (by decide +kernel) ckX11 4 (by decide) 0 (fty := tyX11 4) (tyX11_ok 4 (by decide)) rfl rfl wk_429c8e56b1) ?_
  refine zfmc (r_return h (pc := 27) (by decide +kernel) rfl) ?_
  exact zfm0)
def tb_X11_lose (E : ZEX) (d mc ms : Nat) : List (Nat × ZStep) := [(0, s_aload 0 1), (1, s_getf 10 2 4), (4, s_iload 1 5), (5, s_const (.int (-1)) 6), (6, s_callV E d mc ms 4 MX5_raise 2 9), (9, s_aload 0 10), (10, s_dup 11), (11, s_getf 10 4 14), (14, s_const (.int (1)) 15), (15, s_isub 16), (16, s_putf 10 4 0 19), (19, s_aload 0 20), (20, s_dup 21), (21, s_getf 10 6 24), (24, s_const (.int (1)) 25), (25, s_iadd 26), (26, s_putf 10 6 0 29), (29, s_return)]
set_option maxRecDepth 20000 in
theorem ok_X11_lose {E : ZEX} {X : ZMX} {d mc ms : Nat} {P : ZPT} {T : ZTT} (h : ZCX E X MX11_lose d mc ms P T) : ∀ pc, ZRow E X MX11_lose mc ms P T pc (ztb (tb_X11_lose E d mc ms) pc) := ztb_ok (by
  unfold tb_X11_lose
  refine zfmc (r_aload_n h (pc := 0) (kf := 0) 0 (by decide +kernel) rfl) ?_
  refine zfmc (r_getf h (pc := 1) (ix := 23) (by decide +kernel) ckX11 2 (by decide) wk_606d9ca1e5) ?_
  refine zfmc (r_iload_n h (pc := 4) (kf := 1) 1 (by decide +kernel) rfl) ?_
  refine zfmc (r_iconst h (pc := 5) (z := -1) (by decide +kernel) (-1) (by decide +kernel)) ?_
  refine zfmc (r_callV h (pc := 6) (ix := 72) (by decide +kernel) ckX5 2 mcX5_raise wk_0355c8e134 wk_f920d3111a wk_5f3d568753 rfl) ?_
  refine zfmc (r_aload_n h (pc := 9) (kf := 0) 0 (by decide +kernel) rfl) ?_
  refine zfmc (r_dup h (pc := 10) (by decide +kernel)) ?_
  refine zfmc (r_getf h (pc := 11) (ix := 30) (by decide +kernel) ckX11 4 (by decide) wk_429c8e56b1) ?_
  refine zfmc (r_iconst h (pc := 14) (z := 1) (by decide +kernel) (1) (by decide +kernel)) ?_
  refine zfmc (r_isub h (pc := 15) (by decide +kernel)) ?_
  refine zfmc (r_putf h (pc := 16) (ix := 30) (by decide +kernel) ckX11 4 (by decide) 0 (fty := tyX11 4) (tyX11_ok 4 (by decide)) rfl rfl wk_429c8e56b1) ?_
  refine zfmc (r_aload_n h (pc := 19) (kf := 0) 0 (by decide +kernel) rfl) ?_
  refine zfmc (r_dup h (pc := 20) (by decide +kernel)) ?_
  refine zfmc (r_getf h (pc := 21) (ix := 36) (by decide +kernel) ckX11 6 (by decide) wk_dcd2c63c5b) ?_
  refine zfmc (r_iconst h (pc := 24) (z := 1) (by decide +kernel) (1) (by decide +kernel)) ?_
  refine zfmc (r_iadd h (pc := 25) (by decide +kernel)) ?_
  refine zfmc (r_putf h (pc := 26) (ix := 36) (by decide +kernel) ckX11 6 (by decide) 0 (fty := tyX11 6) (tyX11_ok 6 (by decide)) rfl rfl wk_dcd2c63c5b) ?_
  refine zfmc (r_return h (pc := 29) (by decide +kernel) rfl) ?_
  exact zfm0)
def tb_X11_mixDiscards (E : ZEX) (d mc ms : Nat) : List (Nat × ZStep) := [(0, s_aload 0 1), (1, s_getf 10 1 4), (4, s_callV E d mc ms 4 MX5_size 0 7), (7, s_if_ne 11 10), (10, s_return), (11, s_aload 0 12), (12, s_getf 10 1 15), (15, s_callV E d mc ms 4 MX5_size 0 18), (18, s_const (.int (1)) 19), (19, s_isub 20), (20, s_istore 1 21), (21, s_iload 1 22), (22, s_if_le 66 25), (25, s_aload 0 26), (26, s_aload 0 27), (27, s_getf 10 5 30), (30, s_const (.int (193)) 33), (33, s_imul 34), (34, s_const (.int (71)) 36), (36, s_iadd 37), (37, s_const (.int (1021)) 40), (40, s_irem 41), (41, s_putf 10 5 0 44), (44, s_aload 0 45), (45, s_getf 10 1 48), (48, s_iload 1 49), (49, s_aload 0 50), (50, s_getf 10 5 53), (53, s_iload 1 54), (54, s_const (.int (1)) 55), (55, s_iadd 56), (56, s_irem 57), (57, s_callV E d mc ms 4 MX5_exchange 2 60), (60, s_iinc 1 (-1) 63), (63, s_goto 21), (66, s_aload 0 67), (67, s_getf 10 0 70), (70, s_const (.int (0)) 71), (71, s_aload 0 72), (72, s_getf 10 3 75), (75, s_callV E d mc ms 4 MX5_cut 2 78), (78, s_aload 0 79), (79, s_const (.int (0)) 80), (80, s_putf 10 3 0 83), (83, s_const (.int (0)) 84), (84, s_istore 1 85), (85, s_iload 1 86), (86, s_aload 0 87), (87, s_getf 10 1 90), (90, s_callV E d mc ms 4 MX5_size 0 93), (93, s_icmp_ge 117 96), (96, s_aload 0 97), (97, s_getf 10 0 100), (100, s_aload 0 101), (101, s_getf 10 1 104), (104, s_iload 1 105), (105, s_callV E d mc ms 4 MX5_get 1 108), (108, s_callV E d mc ms 4 MX5_add 1 111), (111, s_iinc 1 (1) 114), (114, s_goto 85), (117, s_aload 0 118), (118, s_getf 10 1 121), (121, s_callV E d mc ms 4 MX5_clear 0 124), (124, s_aload 0 125), (125, s_dup 126), (126, s_getf 10 9 129), (129, s_const (.int (1)) 130), (130, s_iadd 131), (131, s_putf 10 9 0 134), (134, s_return)]
set_option maxRecDepth 20000 in
theorem ok_X11_mixDiscards {E : ZEX} {X : ZMX} {d mc ms : Nat} {P : ZPT} {T : ZTT} (h : ZCX E X MX11_mixDiscards d mc ms P T) : ∀ pc, ZRow E X MX11_mixDiscards mc ms P T pc (ztb (tb_X11_mixDiscards E d mc ms) pc) := ztb_ok (by
  unfold tb_X11_mixDiscards
  refine zfmc (r_aload_n h (pc := 0) (kf := 0) 0 (by decide +kernel) rfl) ?_
  refine zfmc (r_getf h (pc := 1) (ix := 20) (by decide +kernel) ckX11 1 (by decide) wk_b2d824206a) ?_
  refine zfmc (r_callV h (pc := 4) (ix := 51) (by decide +kernel) ckX5 0 mcX5_size wk_2a1282b961 wk_5f3704ee49 wk_5abe0e2775 rfl) ?_
  refine zfmc (r_if_ne h (pc := 7) (off := 4) (by decide +kernel) 11 (by decide +kernel)) ?_
  refine zfmc (r_return h (pc := 10) (by decide +kernel) rfl) ?_
  refine zfmc (r_aload_n h (pc := 11) (kf := 0) 0 (by decide +kernel) rfl) ?_
  refine zfmc (r_getf h (pc := 12) (ix := 20) (by decide +kernel) ckX11 1 (by decide) wk_b2d824206a) ?_
  refine zfmc (r_callV h (pc := 15) (ix := 51) (by decide +kernel) ckX5 0 mcX5_size wk_2a1282b961 wk_5f3704ee49 wk_5abe0e2775 rfl) ?_
  refine zfmc (r_iconst h (pc := 18) (z := 1) (by decide +kernel) (1) (by decide +kernel)) ?_
  refine zfmc (r_isub h (pc := 19) (by decide +kernel)) ?_
  refine zfmc (r_istore_n h (pc := 20) (kf := 1) 1 (by decide +kernel) rfl (by decide +kernel)) ?_
  refine zfmc (r_iload_n h (pc := 21) (kf := 1) 1 (by decide +kernel) rfl) ?_
  refine zfmc (r_if_le h (pc := 22) (off := 44) (by decide +kernel) 66 (by decide +kernel)) ?_
  refine zfmc (r_aload_n h (pc := 25) (kf := 0) 0 (by decide +kernel) rfl) ?_
  refine zfmc (r_aload_n h (pc := 26) (kf := 0) 0 (by decide +kernel) rfl) ?_
  refine zfmc (r_getf h (pc := 27) (ix := 33) (by decide +kernel) ckX11 5 (by decide) wk_0fb1ac07f7) ?_
  refine zfmc (r_sipush h (pc := 30) (z := 193) (by decide +kernel) (193) (by decide +kernel)) ?_
  refine zfmc (r_imul h (pc := 33) (by decide +kernel)) ?_
  refine zfmc (r_bipush h (pc := 34) (z := 71) (by decide +kernel) (71) (by decide +kernel)) ?_
  refine zfmc (r_iadd h (pc := 36) (by decide +kernel)) ?_
  refine zfmc (r_sipush h (pc := 37) (z := 1021) (by decide +kernel) (1021) (by decide +kernel)) ?_
  refine zfmc (r_irem h (pc := 40) (by decide +kernel)) ?_
  refine zfmc (r_putf h (pc := 41) (ix := 33) (by decide +kernel) ckX11 5 (by decide) 0 (fty := tyX11 5) (tyX11_ok 5 (by decide)) rfl rfl wk_0fb1ac07f7) ?_
  refine zfmc (r_aload_n h (pc := 44) (kf := 0) 0 (by decide +kernel) rfl) ?_
  refine zfmc (r_getf h (pc := 45) (ix := 20) (by decide +kernel) ckX11 1 (by decide) wk_b2d824206a) ?_
  refine zfmc (r_iload_n h (pc := 48) (kf := 1) 1 (by decide +kernel) rfl) ?_
  refine zfmc (r_aload_n h (pc := 49) (kf := 0) 0 (by decide +kernel) rfl) ?_
  refine zfmc (r_getf h (pc := 50) (ix := 33) (by decide +kernel) ckX11 5 (by decide) wk_0fb1ac07f7) ?_
  refine zfmc (r_iload_n h (pc := 53) (kf := 1) 1 (by decide +kernel) rfl) ?_
  refine zfmc (r_iconst h (pc := 54) (z := 1) (by decide +kernel) (1) (by decide +kernel)) ?_
  refine zfmc (r_iadd h (pc := 55) (by decide +kernel)) ?_
  refine zfmc (r_irem h (pc := 56) (by decide +kernel)) ?_
  refine zfmc (r_callV h (pc := 57) (ix := 76) (by decide +kernel) ckX5 2 mcX5_exchange wk_bc855df969 wk_35088c2c5b wk_14c63e4751 rfl) ?_
  refine zfmc (r_iinc h (pc := 60) 1 (z := -1) (by decide +kernel) (-1) (by decide +kernel) (by decide +kernel)) ?_
  refine zfmc (r_goto h (pc := 63) (off := -42) (by decide +kernel) 21 (by decide +kernel)) ?_
  refine zfmc (r_aload_n h (pc := 66) (kf := 0) 0 (by decide +kernel) rfl) ?_
  refine zfmc (r_getf h (pc := 67) (ix := 14) (by decide +kernel) ckX11 0 (by decide) wk_4fce5a72e8) ?_
  refine zfmc (r_iconst h (pc := 70) (z := 0) (by decide +kernel) (0) (by decide +kernel)) ?_
  refine zfmc (r_aload_n h (pc := 71) (kf := 0) 0 (by decide +kernel) rfl) ?_
  refine zfmc (r_getf h (pc := 72) (ix := 26) (by decide +kernel) ckX11 3 (by decide) wk_023762ff95) ?_
  refine zfmc (r_callV h (pc := 75) (ix := 79) (by decide +kernel) ckX5 2 mcX5_cut wk_626fd87c2d wk_885c271264 wk_854227e5ee rfl) ?_
  refine zfmc (r_aload_n h (pc := 78) (kf := 0) 0 (by decide +kernel) rfl) ?_
  refine zfmc (r_iconst h (pc := 79) (z := 0) (by decide +kernel) (0) (by decide +kernel)) ?_
  refine zfmc (r_putf h (pc := 80) (ix := 26) (by decide +kernel) ckX11 3 (by decide) 0 (fty := tyX11 3) (tyX11_ok 3 (by decide)) rfl rfl wk_023762ff95) ?_
  refine zfmc (r_iconst h (pc := 83) (z := 0) (by decide +kernel) (0) (by decide +kernel)) ?_
  refine zfmc (r_istore_n h (pc := 84) (kf := 1) 1 (by decide +kernel) rfl (by decide +kernel)) ?_
  refine zfmc (r_iload_n h (pc := 85) (kf := 1) 1 (by decide +kernel) rfl) ?_
  refine zfmc (r_aload_n h (pc := 86) (kf := 0) 0 (by decide +kernel) rfl) ?_
  refine zfmc (r_getf h (pc := 87) (ix := 20) (by decide +kernel) ckX11 1 (by decide) wk_b2d824206a) ?_
  refine zfmc (r_callV h (pc := 90) (ix := 51) (by decide +kernel) ckX5 0 mcX5_size wk_2a1282b961 wk_5f3704ee49 wk_5abe0e2775 rfl) ?_
  refine zfmc (r_icmp_ge h (pc := 93) (off := 24) (by decide +kernel) 117 (by decide +kernel)) ?_
  refine zfmc (r_aload_n h (pc := 96) (kf := 0) 0 (by decide +kernel) rfl) ?_
  refine zfmc (r_getf h (pc := 97) (ix := 14) (by decide +kernel) ckX11 0 (by decide) wk_4fce5a72e8) ?_
  refine zfmc (r_aload_n h (pc := 100) (kf := 0) 0 (by decide +kernel) rfl) ?_
  refine zfmc (r_getf h (pc := 101) (ix := 20) (by decide +kernel) ckX11 1 (by decide) wk_b2d824206a) ?_
  refine zfmc (r_iload_n h (pc := 104) (kf := 1) 1 (by decide +kernel) rfl) ?_
  refine zfmc (r_callV h (pc := 105) (ix := 55) (by decide +kernel) ckX5 1 mcX5_get wk_d096485f84 wk_95f04e9090 wk_1db6b0b94a rfl) ?_
  refine zfmc (r_callV h (pc := 108) (ix := 69) (by decide +kernel) ckX5 1 mcX5_add wk_e34e9f52c3 wk_0dcd4c755c wk_45d5950202 rfl) ?_
  refine zfmc (r_iinc h (pc := 111) 1 (z := 1) (by decide +kernel) (1) (by decide +kernel) (by decide +kernel)) ?_
  refine zfmc (r_goto h (pc := 114) (off := -29) (by decide +kernel) 85 (by decide +kernel)) ?_
  refine zfmc (r_aload_n h (pc := 117) (kf := 0) 0 (by decide +kernel) rfl) ?_
  refine zfmc (r_getf h (pc := 118) (ix := 20) (by decide +kernel) ckX11 1 (by decide) wk_b2d824206a) ?_
  refine zfmc (r_callV h (pc := 121) (ix := 48) (by decide +kernel) ckX5 0 mcX5_clear wk_02cca295a9 wk_fbbe79ca1e wk_6ba25339bd rfl) ?_
  refine zfmc (r_aload_n h (pc := 124) (kf := 0) 0 (by decide +kernel) rfl) ?_
  refine zfmc (r_dup h (pc := 125) (by decide +kernel)) ?_
  refine zfmc (r_getf h (pc := 126) (ix := 45) (by decide +kernel) ckX11 9 (by decide) wk_7a2c654403) ?_
  refine zfmc (r_iconst h (pc := 129) (z := 1) (by decide +kernel) (1) (by decide +kernel)) ?_
  refine zfmc (r_iadd h (pc := 130) (by decide +kernel)) ?_
  refine zfmc (r_putf h (pc := 131) (ix := 45) (by decide +kernel) ckX11 9 (by decide) 0 (fty := tyX11 9) (tyX11_ok 9 (by decide)) rfl rfl wk_7a2c654403) ?_
  refine zfmc (r_return h (pc := 134) (by decide +kernel) rfl) ?_
  exact zfm0)
def tb_J7_fill_53178 (E : ZEX) (d mc ms : Nat) : List (Nat × ZStep) := [(0, s_const (.int (0)) 1), (1, s_istore 2 2), (2, s_aload 0 3), (3, s_alen E 4), (4, s_istore 3 5), (5, s_iload 2 6), (6, s_iload 3 7), (7, s_icmp_ge 20 10), (10, s_aload 0 11), (11, s_iload 2 12), (12, s_iload 1 13), (13, s_iastore E 14), (14, s_iinc 2 (1) 17), (17, s_goto 5), (20, s_return)]
set_option maxRecDepth 20000 in
theorem ok_J7_fill_53178 {E : ZEX} {X : ZMX} {d mc ms : Nat} {P : ZPT} {T : ZTT} (h : ZCX E X MJ7_fill_53178 d mc ms P T) : ∀ pc, ZRow E X MJ7_fill_53178 mc ms P T pc (ztb (tb_J7_fill_53178 E d mc ms) pc) := ztb_ok (by
  unfold tb_J7_fill_53178
  refine zfmc (r_iconst h (pc := 0) (z := 0) (by decide +kernel) (0) (by decide +kernel)) ?_
  refine zfmc (r_istore_n h (pc := 1) (kf := 2) 2 (by decide +kernel) rfl (by decide +kernel)) ?_
  refine zfmc (r_aload_n h (pc := 2) (kf := 0) 0 (by decide +kernel) rfl) ?_
  refine zfmc (r_alen h (pc := 3) (by decide +kernel)) ?_
  refine zfmc (r_istore_n h (pc := 4) (kf := 3) 3 (by decide +kernel) rfl (by decide +kernel)) ?_
  refine zfmc (r_iload_n h (pc := 5) (kf := 2) 2 (by decide +kernel) rfl) ?_
  refine zfmc (r_iload_n h (pc := 6) (kf := 3) 3 (by decide +kernel) rfl) ?_
  refine zfmc (r_icmp_ge h (pc := 7) (off := 13) (by decide +kernel) 20 (by decide +kernel)) ?_
  refine zfmc (r_aload_n h (pc := 10) (kf := 0) 0 (by decide +kernel) rfl) ?_
  refine zfmc (r_iload_n h (pc := 11) (kf := 2) 2 (by decide +kernel) rfl) ?_
  refine zfmc (r_iload_n h (pc := 12) (kf := 1) 1 (by decide +kernel) rfl) ?_
  refine zfmc (r_iastore h (pc := 13) (by decide +kernel)) ?_
  refine zfmc (r_iinc h (pc := 14) 2 (z := 1) (by decide +kernel) (1) (by decide +kernel) (by decide +kernel)) ?_
  refine zfmc (r_goto h (pc := 17) (off := -12) (by decide +kernel) 5 (by decide +kernel)) ?_
  refine zfmc (r_return h (pc := 20) (by decide +kernel) rfl) ?_
  exact zfm0)
def tb_Jx29ce0_ordinal_8abf5 (E : ZEX) (d mc ms : Nat) : List (Nat × ZStep) := [(0, s_aload 0 1), (1, s_getfK E 0 46 (fun j => .int (nI j)) 4), (4, s_ireturn)]
set_option maxRecDepth 20000 in
theorem ok_Jx29ce0_ordinal_8abf5 {E : ZEX} {X : ZMX} {d mc ms : Nat} {P : ZPT} {T : ZTT} (h : ZCX E X MJx29ce0_ordinal_8abf5 d mc ms P T) : ∀ pc, ZRow E X MJx29ce0_ordinal_8abf5 mc ms P T pc (ztb (tb_Jx29ce0_ordinal_8abf5 E d mc ms) pc) := ztb_ok (by
  unfold tb_Jx29ce0_ordinal_8abf5
  refine zfmc (r_aload_n h (pc := 0) (kf := 0) 0 (by decide +kernel) rfl) ?_
  refine zfmc (r_getfK h (pc := 1) (ix := 7) (by decide +kernel) (fun j _ hj => zx_ord h.ok j hj) wk_38fd775c1f) ?_
  refine zfmc (r_ireturn h (pc := 4) (by decide +kernel) rfl) ?_
  exact zfm0)
section
variable {E : ZEX} {d mc ms : Nat} {cut : Nat → Bool} {G : ZCont} {R : ZRtn} {T : ZTT} {Z : Nat → ZCont}
theorem f_X1_init_0 (hZ : ZRN (ztb (tb_X1_init E d mc ms)) cut G R T Z) (f : Nat) (L : ZLV) (st : List Value) (σ : ZHp) (n k w : Nat) : Z (f + 1) 0 L st σ n k w = s_aload 0 1 L st σ n k w (zk1 cut G (Z f)) G R T := zrs hZ rfl f L st σ n k w
theorem f_X1_init_1 (hZ : ZRN (ztb (tb_X1_init E d mc ms)) cut G R T Z) (f : Nat) (L : ZLV) (st : List Value) (σ : ZHp) (n k w : Nat) : Z (f + 1) 1 L st σ n k w = s_objinit d 4 L st σ n k w (zk1 cut G (Z f)) G R T := zrs hZ rfl f L st σ n k w
theorem f_X1_init_4 (hZ : ZRN (ztb (tb_X1_init E d mc ms)) cut G R T Z) (f : Nat) (L : ZLV) (st : List Value) (σ : ZHp) (n k w : Nat) : Z (f + 1) 4 L st σ n k w = s_aload 0 5 L st σ n k w (zk1 cut G (Z f)) G R T := zrs hZ rfl f L st σ n k w
theorem f_X1_init_5 (hZ : ZRN (ztb (tb_X1_init E d mc ms)) cut G R T Z) (f : Nat) (L : ZLV) (st : List Value) (σ : ZHp) (n k w : Nat) : Z (f + 1) 5 L st σ n k w = s_const (.int (400)) 8 L st σ n k w (zk1 cut G (Z f)) G R T := zrs hZ rfl f L st σ n k w
theorem f_X1_init_8 (hZ : ZRN (ztb (tb_X1_init E d mc ms)) cut G R T Z) (f : Nat) (L : ZLV) (st : List Value) (σ : ZHp) (n k w : Nat) : Z (f + 1) 8 L st σ n k w = s_anewS E mc ms 11 L st σ n k w (zk1 cut G (Z f)) G R T := zrs hZ rfl f L st σ n k w
theorem f_X1_init_11 (hZ : ZRN (ztb (tb_X1_init E d mc ms)) cut G R T Z) (f : Nat) (L : ZLV) (st : List Value) (σ : ZHp) (n k w : Nat) : Z (f + 1) 11 L st σ n k w = s_putf 0 0 3 14 L st σ n k w (zk1 cut G (Z f)) G R T := zrs hZ rfl f L st σ n k w
theorem f_X1_init_14 (hZ : ZRN (ztb (tb_X1_init E d mc ms)) cut G R T Z) (f : Nat) (L : ZLV) (st : List Value) (σ : ZHp) (n k w : Nat) : Z (f + 1) 14 L st σ n k w = s_aload 0 15 L st σ n k w (zk1 cut G (Z f)) G R T := zrs hZ rfl f L st σ n k w
theorem f_X1_init_15 (hZ : ZRN (ztb (tb_X1_init E d mc ms)) cut G R T Z) (f : Nat) (L : ZLV) (st : List Value) (σ : ZHp) (n k w : Nat) : Z (f + 1) 15 L st σ n k w = s_new 4 2 fsX5 mc ms 18 L st σ n k w (zk1 cut G (Z f)) G R T := zrs hZ rfl f L st σ n k w
theorem f_X1_init_18 (hZ : ZRN (ztb (tb_X1_init E d mc ms)) cut G R T Z) (f : Nat) (L : ZLV) (st : List Value) (σ : ZHp) (n k w : Nat) : Z (f + 1) 18 L st σ n k w = s_dup 19 L st σ n k w (zk1 cut G (Z f)) G R T := zrs hZ rfl f L st σ n k w
theorem f_X1_init_19 (hZ : ZRN (ztb (tb_X1_init E d mc ms)) cut G R T Z) (f : Nat) (L : ZLV) (st : List Value) (σ : ZHp) (n k w : Nat) : Z (f + 1) 19 L st σ n k w = s_const (.int (400)) 22 L st σ n k w (zk1 cut G (Z f)) G R T := zrs hZ rfl f L st σ n k w
theorem f_X1_init_22 (hZ : ZRN (ztb (tb_X1_init E d mc ms)) cut G R T Z) (f : Nat) (L : ZLV) (st : List Value) (σ : ZHp) (n k w : Nat) : Z (f + 1) 22 L st σ n k w = s_callI E d mc ms MX5_init 1 25 L st σ n k w (zk1 cut G (Z f)) G R T := zrs hZ rfl f L st σ n k w
theorem f_X1_init_25 (hZ : ZRN (ztb (tb_X1_init E d mc ms)) cut G R T Z) (f : Nat) (L : ZLV) (st : List Value) (σ : ZHp) (n k w : Nat) : Z (f + 1) 25 L st σ n k w = s_putf 0 1 3 28 L st σ n k w (zk1 cut G (Z f)) G R T := zrs hZ rfl f L st σ n k w
theorem f_X1_init_28 (hZ : ZRN (ztb (tb_X1_init E d mc ms)) cut G R T Z) (f : Nat) (L : ZLV) (st : List Value) (σ : ZHp) (n k w : Nat) : Z (f + 1) 28 L st σ n k w = s_return L st σ n k w (zk1 cut G (Z f)) G R T := zrs hZ rfl f L st σ n k w
theorem f_X1_size_0 (hZ : ZRN (ztb (tb_X1_size E d mc ms)) cut G R T Z) (f : Nat) (L : ZLV) (st : List Value) (σ : ZHp) (n k w : Nat) : Z (f + 1) 0 L st σ n k w = s_aload 0 1 L st σ n k w (zk1 cut G (Z f)) G R T := zrs hZ rfl f L st σ n k w
theorem f_X1_size_1 (hZ : ZRN (ztb (tb_X1_size E d mc ms)) cut G R T Z) (f : Nat) (L : ZLV) (st : List Value) (σ : ZHp) (n k w : Nat) : Z (f + 1) 1 L st σ n k w = s_getf 0 1 4 L st σ n k w (zk1 cut G (Z f)) G R T := zrs hZ rfl f L st σ n k w
theorem f_X1_size_4 (hZ : ZRN (ztb (tb_X1_size E d mc ms)) cut G R T Z) (f : Nat) (L : ZLV) (st : List Value) (σ : ZHp) (n k w : Nat) : Z (f + 1) 4 L st σ n k w = s_callV E d mc ms 4 MX5_size 0 7 L st σ n k w (zk1 cut G (Z f)) G R T := zrs hZ rfl f L st σ n k w
theorem f_X1_size_7 (hZ : ZRN (ztb (tb_X1_size E d mc ms)) cut G R T Z) (f : Nat) (L : ZLV) (st : List Value) (σ : ZHp) (n k w : Nat) : Z (f + 1) 7 L st σ n k w = s_ireturn L st σ n k w (zk1 cut G (Z f)) G R T := zrs hZ rfl f L st σ n k w
theorem f_X1_clear_0 (hZ : ZRN (ztb (tb_X1_clear E d mc ms)) cut G R T Z) (f : Nat) (L : ZLV) (st : List Value) (σ : ZHp) (n k w : Nat) : Z (f + 1) 0 L st σ n k w = s_aload 0 1 L st σ n k w (zk1 cut G (Z f)) G R T := zrs hZ rfl f L st σ n k w
theorem f_X1_clear_1 (hZ : ZRN (ztb (tb_X1_clear E d mc ms)) cut G R T Z) (f : Nat) (L : ZLV) (st : List Value) (σ : ZHp) (n k w : Nat) : Z (f + 1) 1 L st σ n k w = s_getf 0 1 4 L st σ n k w (zk1 cut G (Z f)) G R T := zrs hZ rfl f L st σ n k w
theorem f_X1_clear_4 (hZ : ZRN (ztb (tb_X1_clear E d mc ms)) cut G R T Z) (f : Nat) (L : ZLV) (st : List Value) (σ : ZHp) (n k w : Nat) : Z (f + 1) 4 L st σ n k w = s_callV E d mc ms 4 MX5_clear 0 7 L st σ n k w (zk1 cut G (Z f)) G R T := zrs hZ rfl f L st σ n k w
theorem f_X1_clear_7 (hZ : ZRN (ztb (tb_X1_clear E d mc ms)) cut G R T Z) (f : Nat) (L : ZLV) (st : List Value) (σ : ZHp) (n k w : Nat) : Z (f + 1) 7 L st σ n k w = s_return L st σ n k w (zk1 cut G (Z f)) G R T := zrs hZ rfl f L st σ n k w
theorem f_X1_add_0 (hZ : ZRN (ztb (tb_X1_add E d mc ms)) cut G R T Z) (f : Nat) (L : ZLV) (st : List Value) (σ : ZHp) (n k w : Nat) : Z (f + 1) 0 L st σ n k w = s_aload 0 1 L st σ n k w (zk1 cut G (Z f)) G R T := zrs hZ rfl f L st σ n k w
theorem f_X1_add_1 (hZ : ZRN (ztb (tb_X1_add E d mc ms)) cut G R T Z) (f : Nat) (L : ZLV) (st : List Value) (σ : ZHp) (n k w : Nat) : Z (f + 1) 1 L st σ n k w = s_getf 0 1 4 L st σ n k w (zk1 cut G (Z f)) G R T := zrs hZ rfl f L st σ n k w
theorem f_X1_add_4 (hZ : ZRN (ztb (tb_X1_add E d mc ms)) cut G R T Z) (f : Nat) (L : ZLV) (st : List Value) (σ : ZHp) (n k w : Nat) : Z (f + 1) 4 L st σ n k w = s_callV E d mc ms 4 MX5_size 0 7 L st σ n k w (zk1 cut G (Z f)) G R T := zrs hZ rfl f L st σ n k w
theorem f_X1_add_7 (hZ : ZRN (ztb (tb_X1_add E d mc ms)) cut G R T Z) (f : Nat) (L : ZLV) (st : List Value) (σ : ZHp) (n k w : Nat) : Z (f + 1) 7 L st σ n k w = s_istore 3 8 L st σ n k w (zk1 cut G (Z f)) G R T := zrs hZ rfl f L st σ n k w
theorem f_X1_add_8 (hZ : ZRN (ztb (tb_X1_add E d mc ms)) cut G R T Z) (f : Nat) (L : ZLV) (st : List Value) (σ : ZHp) (n k w : Nat) : Z (f + 1) 8 L st σ n k w = s_iload 3 9 L st σ n k w (zk1 cut G (Z f)) G R T := zrs hZ rfl f L st σ n k w
theorem f_X1_add_9 (hZ : ZRN (ztb (tb_X1_add E d mc ms)) cut G R T Z) (f : Nat) (L : ZLV) (st : List Value) (σ : ZHp) (n k w : Nat) : Z (f + 1) 9 L st σ n k w = s_if_lt 36 12 L st σ n k w (zk1 cut G (Z f)) G R T := zrs hZ rfl f L st σ n k w
theorem f_X1_add_12 (hZ : ZRN (ztb (tb_X1_add E d mc ms)) cut G R T Z) (f : Nat) (L : ZLV) (st : List Value) (σ : ZHp) (n k w : Nat) : Z (f + 1) 12 L st σ n k w = s_iload 3 13 L st σ n k w (zk1 cut G (Z f)) G R T := zrs hZ rfl f L st σ n k w
theorem f_X1_add_13 (hZ : ZRN (ztb (tb_X1_add E d mc ms)) cut G R T Z) (f : Nat) (L : ZLV) (st : List Value) (σ : ZHp) (n k w : Nat) : Z (f + 1) 13 L st σ n k w = s_aload 0 14 L st σ n k w (zk1 cut G (Z f)) G R T := zrs hZ rfl f L st σ n k w
theorem f_X1_add_14 (hZ : ZRN (ztb (tb_X1_add E d mc ms)) cut G R T Z) (f : Nat) (L : ZLV) (st : List Value) (σ : ZHp) (n k w : Nat) : Z (f + 1) 14 L st σ n k w = s_getf 0 0 17 L st σ n k w (zk1 cut G (Z f)) G R T := zrs hZ rfl f L st σ n k w
theorem f_X1_add_17 (hZ : ZRN (ztb (tb_X1_add E d mc ms)) cut G R T Z) (f : Nat) (L : ZLV) (st : List Value) (σ : ZHp) (n k w : Nat) : Z (f + 1) 17 L st σ n k w = s_alen E 18 L st σ n k w (zk1 cut G (Z f)) G R T := zrs hZ rfl f L st σ n k w
theorem f_X1_add_18 (hZ : ZRN (ztb (tb_X1_add E d mc ms)) cut G R T Z) (f : Nat) (L : ZLV) (st : List Value) (σ : ZHp) (n k w : Nat) : Z (f + 1) 18 L st σ n k w = s_icmp_ge 36 21 L st σ n k w (zk1 cut G (Z f)) G R T := zrs hZ rfl f L st σ n k w
theorem f_X1_add_21 (hZ : ZRN (ztb (tb_X1_add E d mc ms)) cut G R T Z) (f : Nat) (L : ZLV) (st : List Value) (σ : ZHp) (n k w : Nat) : Z (f + 1) 21 L st σ n k w = s_aload 0 22 L st σ n k w (zk1 cut G (Z f)) G R T := zrs hZ rfl f L st σ n k w
theorem f_X1_add_22 (hZ : ZRN (ztb (tb_X1_add E d mc ms)) cut G R T Z) (f : Nat) (L : ZLV) (st : List Value) (σ : ZHp) (n k w : Nat) : Z (f + 1) 22 L st σ n k w = s_getf 0 0 25 L st σ n k w (zk1 cut G (Z f)) G R T := zrs hZ rfl f L st σ n k w
theorem f_X1_add_25 (hZ : ZRN (ztb (tb_X1_add E d mc ms)) cut G R T Z) (f : Nat) (L : ZLV) (st : List Value) (σ : ZHp) (n k w : Nat) : Z (f + 1) 25 L st σ n k w = s_iload 3 26 L st σ n k w (zk1 cut G (Z f)) G R T := zrs hZ rfl f L st σ n k w
theorem f_X1_add_26 (hZ : ZRN (ztb (tb_X1_add E d mc ms)) cut G R T Z) (f : Nat) (L : ZLV) (st : List Value) (σ : ZHp) (n k w : Nat) : Z (f + 1) 26 L st σ n k w = s_aload 1 27 L st σ n k w (zk1 cut G (Z f)) G R T := zrs hZ rfl f L st σ n k w
theorem f_X1_add_27 (hZ : ZRN (ztb (tb_X1_add E d mc ms)) cut G R T Z) (f : Nat) (L : ZLV) (st : List Value) (σ : ZHp) (n k w : Nat) : Z (f + 1) 27 L st σ n k w = s_aastoreS E 28 L st σ n k w (zk1 cut G (Z f)) G R T := zrs hZ rfl f L st σ n k w
theorem f_X1_add_28 (hZ : ZRN (ztb (tb_X1_add E d mc ms)) cut G R T Z) (f : Nat) (L : ZLV) (st : List Value) (σ : ZHp) (n k w : Nat) : Z (f + 1) 28 L st σ n k w = s_aload 0 29 L st σ n k w (zk1 cut G (Z f)) G R T := zrs hZ rfl f L st σ n k w
theorem f_X1_add_29 (hZ : ZRN (ztb (tb_X1_add E d mc ms)) cut G R T Z) (f : Nat) (L : ZLV) (st : List Value) (σ : ZHp) (n k w : Nat) : Z (f + 1) 29 L st σ n k w = s_getf 0 1 32 L st σ n k w (zk1 cut G (Z f)) G R T := zrs hZ rfl f L st σ n k w
theorem f_X1_add_32 (hZ : ZRN (ztb (tb_X1_add E d mc ms)) cut G R T Z) (f : Nat) (L : ZLV) (st : List Value) (σ : ZHp) (n k w : Nat) : Z (f + 1) 32 L st σ n k w = s_iload 2 33 L st σ n k w (zk1 cut G (Z f)) G R T := zrs hZ rfl f L st σ n k w
theorem f_X1_add_33 (hZ : ZRN (ztb (tb_X1_add E d mc ms)) cut G R T Z) (f : Nat) (L : ZLV) (st : List Value) (σ : ZHp) (n k w : Nat) : Z (f + 1) 33 L st σ n k w = s_callV E d mc ms 4 MX5_add 1 36 L st σ n k w (zk1 cut G (Z f)) G R T := zrs hZ rfl f L st σ n k w
theorem f_X1_add_36 (hZ : ZRN (ztb (tb_X1_add E d mc ms)) cut G R T Z) (f : Nat) (L : ZLV) (st : List Value) (σ : ZHp) (n k w : Nat) : Z (f + 1) 36 L st σ n k w = s_return L st σ n k w (zk1 cut G (Z f)) G R T := zrs hZ rfl f L st σ n k w
theorem f_X1_operation_0 (hZ : ZRN (ztb (tb_X1_operation E d mc ms)) cut G R T Z) (f : Nat) (L : ZLV) (st : List Value) (σ : ZHp) (n k w : Nat) : Z (f + 1) 0 L st σ n k w = s_iload 1 1 L st σ n k w (zk1 cut G (Z f)) G R T := zrs hZ rfl f L st σ n k w
theorem f_X1_operation_1 (hZ : ZRN (ztb (tb_X1_operation E d mc ms)) cut G R T Z) (f : Nat) (L : ZLV) (st : List Value) (σ : ZHp) (n k w : Nat) : Z (f + 1) 1 L st σ n k w = s_if_lt 22 4 L st σ n k w (zk1 cut G (Z f)) G R T := zrs hZ rfl f L st σ n k w
theorem f_X1_operation_4 (hZ : ZRN (ztb (tb_X1_operation E d mc ms)) cut G R T Z) (f : Nat) (L : ZLV) (st : List Value) (σ : ZHp) (n k w : Nat) : Z (f + 1) 4 L st σ n k w = s_iload 1 5 L st σ n k w (zk1 cut G (Z f)) G R T := zrs hZ rfl f L st σ n k w
theorem f_X1_operation_5 (hZ : ZRN (ztb (tb_X1_operation E d mc ms)) cut G R T Z) (f : Nat) (L : ZLV) (st : List Value) (σ : ZHp) (n k w : Nat) : Z (f + 1) 5 L st σ n k w = s_aload 0 6 L st σ n k w (zk1 cut G (Z f)) G R T := zrs hZ rfl f L st σ n k w
theorem f_X1_operation_6 (hZ : ZRN (ztb (tb_X1_operation E d mc ms)) cut G R T Z) (f : Nat) (L : ZLV) (st : List Value) (σ : ZHp) (n k w : Nat) : Z (f + 1) 6 L st σ n k w = s_getf 0 0 9 L st σ n k w (zk1 cut G (Z f)) G R T := zrs hZ rfl f L st σ n k w
theorem f_X1_operation_9 (hZ : ZRN (ztb (tb_X1_operation E d mc ms)) cut G R T Z) (f : Nat) (L : ZLV) (st : List Value) (σ : ZHp) (n k w : Nat) : Z (f + 1) 9 L st σ n k w = s_alen E 10 L st σ n k w (zk1 cut G (Z f)) G R T := zrs hZ rfl f L st σ n k w
theorem f_X1_operation_10 (hZ : ZRN (ztb (tb_X1_operation E d mc ms)) cut G R T Z) (f : Nat) (L : ZLV) (st : List Value) (σ : ZHp) (n k w : Nat) : Z (f + 1) 10 L st σ n k w = s_icmp_ge 22 13 L st σ n k w (zk1 cut G (Z f)) G R T := zrs hZ rfl f L st σ n k w
theorem f_X1_operation_13 (hZ : ZRN (ztb (tb_X1_operation E d mc ms)) cut G R T Z) (f : Nat) (L : ZLV) (st : List Value) (σ : ZHp) (n k w : Nat) : Z (f + 1) 13 L st σ n k w = s_aload 0 14 L st σ n k w (zk1 cut G (Z f)) G R T := zrs hZ rfl f L st σ n k w
theorem f_X1_operation_14 (hZ : ZRN (ztb (tb_X1_operation E d mc ms)) cut G R T Z) (f : Nat) (L : ZLV) (st : List Value) (σ : ZHp) (n k w : Nat) : Z (f + 1) 14 L st σ n k w = s_getf 0 0 17 L st σ n k w (zk1 cut G (Z f)) G R T := zrs hZ rfl f L st σ n k w
theorem f_X1_operation_17 (hZ : ZRN (ztb (tb_X1_operation E d mc ms)) cut G R T Z) (f : Nat) (L : ZLV) (st : List Value) (σ : ZHp) (n k w : Nat) : Z (f + 1) 17 L st σ n k w = s_iload 1 18 L st σ n k w (zk1 cut G (Z f)) G R T := zrs hZ rfl f L st σ n k w
theorem f_X1_operation_18 (hZ : ZRN (ztb (tb_X1_operation E d mc ms)) cut G R T Z) (f : Nat) (L : ZLV) (st : List Value) (σ : ZHp) (n k w : Nat) : Z (f + 1) 18 L st σ n k w = s_aaload E 19 L st σ n k w (zk1 cut G (Z f)) G R T := zrs hZ rfl f L st σ n k w
theorem f_X1_operation_19 (hZ : ZRN (ztb (tb_X1_operation E d mc ms)) cut G R T Z) (f : Nat) (L : ZLV) (st : List Value) (σ : ZHp) (n k w : Nat) : Z (f + 1) 19 L st σ n k w = s_goto 25 L st σ n k w (zk1 cut G (Z f)) G R T := zrs hZ rfl f L st σ n k w
theorem f_X1_operation_22 (hZ : ZRN (ztb (tb_X1_operation E d mc ms)) cut G R T Z) (f : Nat) (L : ZLV) (st : List Value) (σ : ZHp) (n k w : Nat) : Z (f + 1) 22 L st σ n k w = s_const (.ref (zeK E 1)) 25 L st σ n k w (zk1 cut G (Z f)) G R T := zrs hZ rfl f L st σ n k w
theorem f_X1_operation_25 (hZ : ZRN (ztb (tb_X1_operation E d mc ms)) cut G R T Z) (f : Nat) (L : ZLV) (st : List Value) (σ : ZHp) (n k w : Nat) : Z (f + 1) 25 L st σ n k w = s_astore 2 26 L st σ n k w (zk1 cut G (Z f)) G R T := zrs hZ rfl f L st σ n k w
theorem f_X1_operation_26 (hZ : ZRN (ztb (tb_X1_operation E d mc ms)) cut G R T Z) (f : Nat) (L : ZLV) (st : List Value) (σ : ZHp) (n k w : Nat) : Z (f + 1) 26 L st σ n k w = s_aload 2 27 L st σ n k w (zk1 cut G (Z f)) G R T := zrs hZ rfl f L st σ n k w
theorem f_X1_operation_27 (hZ : ZRN (ztb (tb_X1_operation E d mc ms)) cut G R T Z) (f : Nat) (L : ZLV) (st : List Value) (σ : ZHp) (n k w : Nat) : Z (f + 1) 27 L st σ n k w = s_ifnonnull 36 30 L st σ n k w (zk1 cut G (Z f)) G R T := zrs hZ rfl f L st σ n k w
theorem f_X1_operation_30 (hZ : ZRN (ztb (tb_X1_operation E d mc ms)) cut G R T Z) (f : Nat) (L : ZLV) (st : List Value) (σ : ZHp) (n k w : Nat) : Z (f + 1) 30 L st σ n k w = s_const (.ref (zeK E 1)) 33 L st σ n k w (zk1 cut G (Z f)) G R T := zrs hZ rfl f L st σ n k w
theorem f_X1_operation_33 (hZ : ZRN (ztb (tb_X1_operation E d mc ms)) cut G R T Z) (f : Nat) (L : ZLV) (st : List Value) (σ : ZHp) (n k w : Nat) : Z (f + 1) 33 L st σ n k w = s_goto 37 L st σ n k w (zk1 cut G (Z f)) G R T := zrs hZ rfl f L st σ n k w
theorem f_X1_operation_36 (hZ : ZRN (ztb (tb_X1_operation E d mc ms)) cut G R T Z) (f : Nat) (L : ZLV) (st : List Value) (σ : ZHp) (n k w : Nat) : Z (f + 1) 36 L st σ n k w = s_aload 2 37 L st σ n k w (zk1 cut G (Z f)) G R T := zrs hZ rfl f L st σ n k w
theorem f_X1_operation_37 (hZ : ZRN (ztb (tb_X1_operation E d mc ms)) cut G R T Z) (f : Nat) (L : ZLV) (st : List Value) (σ : ZHp) (n k w : Nat) : Z (f + 1) 37 L st σ n k w = s_areturn L st σ n k w (zk1 cut G (Z f)) G R T := zrs hZ rfl f L st σ n k w
theorem f_X1_operand_0 (hZ : ZRN (ztb (tb_X1_operand E d mc ms)) cut G R T Z) (f : Nat) (L : ZLV) (st : List Value) (σ : ZHp) (n k w : Nat) : Z (f + 1) 0 L st σ n k w = s_aload 0 1 L st σ n k w (zk1 cut G (Z f)) G R T := zrs hZ rfl f L st σ n k w
theorem f_X1_operand_1 (hZ : ZRN (ztb (tb_X1_operand E d mc ms)) cut G R T Z) (f : Nat) (L : ZLV) (st : List Value) (σ : ZHp) (n k w : Nat) : Z (f + 1) 1 L st σ n k w = s_getf 0 1 4 L st σ n k w (zk1 cut G (Z f)) G R T := zrs hZ rfl f L st σ n k w
theorem f_X1_operand_4 (hZ : ZRN (ztb (tb_X1_operand E d mc ms)) cut G R T Z) (f : Nat) (L : ZLV) (st : List Value) (σ : ZHp) (n k w : Nat) : Z (f + 1) 4 L st σ n k w = s_iload 1 5 L st σ n k w (zk1 cut G (Z f)) G R T := zrs hZ rfl f L st σ n k w
theorem f_X1_operand_5 (hZ : ZRN (ztb (tb_X1_operand E d mc ms)) cut G R T Z) (f : Nat) (L : ZLV) (st : List Value) (σ : ZHp) (n k w : Nat) : Z (f + 1) 5 L st σ n k w = s_callV E d mc ms 4 MX5_get 1 8 L st σ n k w (zk1 cut G (Z f)) G R T := zrs hZ rfl f L st σ n k w
theorem f_X1_operand_8 (hZ : ZRN (ztb (tb_X1_operand E d mc ms)) cut G R T Z) (f : Nat) (L : ZLV) (st : List Value) (σ : ZHp) (n k w : Nat) : Z (f + 1) 8 L st σ n k w = s_ireturn L st σ n k w (zk1 cut G (Z f)) G R T := zrs hZ rfl f L st σ n k w
theorem f_X5_init_0 (hZ : ZRN (ztb (tb_X5_init E d mc ms)) cut G R T Z) (f : Nat) (L : ZLV) (st : List Value) (σ : ZHp) (n k w : Nat) : Z (f + 1) 0 L st σ n k w = s_aload 0 1 L st σ n k w (zk1 cut G (Z f)) G R T := zrs hZ rfl f L st σ n k w
theorem f_X5_init_1 (hZ : ZRN (ztb (tb_X5_init E d mc ms)) cut G R T Z) (f : Nat) (L : ZLV) (st : List Value) (σ : ZHp) (n k w : Nat) : Z (f + 1) 1 L st σ n k w = s_objinit d 4 L st σ n k w (zk1 cut G (Z f)) G R T := zrs hZ rfl f L st σ n k w
theorem f_X5_init_4 (hZ : ZRN (ztb (tb_X5_init E d mc ms)) cut G R T Z) (f : Nat) (L : ZLV) (st : List Value) (σ : ZHp) (n k w : Nat) : Z (f + 1) 4 L st σ n k w = s_aload 0 5 L st σ n k w (zk1 cut G (Z f)) G R T := zrs hZ rfl f L st σ n k w
theorem f_X5_init_5 (hZ : ZRN (ztb (tb_X5_init E d mc ms)) cut G R T Z) (f : Nat) (L : ZLV) (st : List Value) (σ : ZHp) (n k w : Nat) : Z (f + 1) 5 L st σ n k w = s_const (.int (0)) 6 L st σ n k w (zk1 cut G (Z f)) G R T := zrs hZ rfl f L st σ n k w
theorem f_X5_init_6 (hZ : ZRN (ztb (tb_X5_init E d mc ms)) cut G R T Z) (f : Nat) (L : ZLV) (st : List Value) (σ : ZHp) (n k w : Nat) : Z (f + 1) 6 L st σ n k w = s_putf 4 1 0 9 L st σ n k w (zk1 cut G (Z f)) G R T := zrs hZ rfl f L st σ n k w
theorem f_X5_init_9 (hZ : ZRN (ztb (tb_X5_init E d mc ms)) cut G R T Z) (f : Nat) (L : ZLV) (st : List Value) (σ : ZHp) (n k w : Nat) : Z (f + 1) 9 L st σ n k w = s_aload 0 10 L st σ n k w (zk1 cut G (Z f)) G R T := zrs hZ rfl f L st σ n k w
theorem f_X5_init_10 (hZ : ZRN (ztb (tb_X5_init E d mc ms)) cut G R T Z) (f : Nat) (L : ZLV) (st : List Value) (σ : ZHp) (n k w : Nat) : Z (f + 1) 10 L st σ n k w = s_iload 1 11 L st σ n k w (zk1 cut G (Z f)) G R T := zrs hZ rfl f L st σ n k w
theorem f_X5_init_11 (hZ : ZRN (ztb (tb_X5_init E d mc ms)) cut G R T Z) (f : Nat) (L : ZLV) (st : List Value) (σ : ZHp) (n k w : Nat) : Z (f + 1) 11 L st σ n k w = s_if_le 18 14 L st σ n k w (zk1 cut G (Z f)) G R T := zrs hZ rfl f L st σ n k w
theorem f_X5_init_14 (hZ : ZRN (ztb (tb_X5_init E d mc ms)) cut G R T Z) (f : Nat) (L : ZLV) (st : List Value) (σ : ZHp) (n k w : Nat) : Z (f + 1) 14 L st σ n k w = s_iload 1 15 L st σ n k w (zk1 cut G (Z f)) G R T := zrs hZ rfl f L st σ n k w
theorem f_X5_init_15 (hZ : ZRN (ztb (tb_X5_init E d mc ms)) cut G R T Z) (f : Nat) (L : ZLV) (st : List Value) (σ : ZHp) (n k w : Nat) : Z (f + 1) 15 L st σ n k w = s_goto 19 L st σ n k w (zk1 cut G (Z f)) G R T := zrs hZ rfl f L st σ n k w
theorem f_X5_init_18 (hZ : ZRN (ztb (tb_X5_init E d mc ms)) cut G R T Z) (f : Nat) (L : ZLV) (st : List Value) (σ : ZHp) (n k w : Nat) : Z (f + 1) 18 L st σ n k w = s_const (.int (0)) 19 L st σ n k w (zk1 cut G (Z f)) G R T := zrs hZ rfl f L st σ n k w
theorem f_X5_init_19 (hZ : ZRN (ztb (tb_X5_init E d mc ms)) cut G R T Z) (f : Nat) (L : ZLV) (st : List Value) (σ : ZHp) (n k w : Nat) : Z (f + 1) 19 L st σ n k w = s_newI E mc ms 21 L st σ n k w (zk1 cut G (Z f)) G R T := zrs hZ rfl f L st σ n k w
theorem f_X5_init_21 (hZ : ZRN (ztb (tb_X5_init E d mc ms)) cut G R T Z) (f : Nat) (L : ZLV) (st : List Value) (σ : ZHp) (n k w : Nat) : Z (f + 1) 21 L st σ n k w = s_putf 4 0 3 24 L st σ n k w (zk1 cut G (Z f)) G R T := zrs hZ rfl f L st σ n k w
theorem f_X5_init_24 (hZ : ZRN (ztb (tb_X5_init E d mc ms)) cut G R T Z) (f : Nat) (L : ZLV) (st : List Value) (σ : ZHp) (n k w : Nat) : Z (f + 1) 24 L st σ n k w = s_return L st σ n k w (zk1 cut G (Z f)) G R T := zrs hZ rfl f L st σ n k w
theorem f_X5_size_0 (hZ : ZRN (ztb (tb_X5_size E d mc ms)) cut G R T Z) (f : Nat) (L : ZLV) (st : List Value) (σ : ZHp) (n k w : Nat) : Z (f + 1) 0 L st σ n k w = s_aload 0 1 L st σ n k w (zk1 cut G (Z f)) G R T := zrs hZ rfl f L st σ n k w
theorem f_X5_size_1 (hZ : ZRN (ztb (tb_X5_size E d mc ms)) cut G R T Z) (f : Nat) (L : ZLV) (st : List Value) (σ : ZHp) (n k w : Nat) : Z (f + 1) 1 L st σ n k w = s_getf 4 1 4 L st σ n k w (zk1 cut G (Z f)) G R T := zrs hZ rfl f L st σ n k w
theorem f_X5_size_4 (hZ : ZRN (ztb (tb_X5_size E d mc ms)) cut G R T Z) (f : Nat) (L : ZLV) (st : List Value) (σ : ZHp) (n k w : Nat) : Z (f + 1) 4 L st σ n k w = s_ireturn L st σ n k w (zk1 cut G (Z f)) G R T := zrs hZ rfl f L st σ n k w
theorem f_X5_get_0 (hZ : ZRN (ztb (tb_X5_get E d mc ms)) cut G R T Z) (f : Nat) (L : ZLV) (st : List Value) (σ : ZHp) (n k w : Nat) : Z (f + 1) 0 L st σ n k w = s_iload 1 1 L st σ n k w (zk1 cut G (Z f)) G R T := zrs hZ rfl f L st σ n k w
theorem f_X5_get_1 (hZ : ZRN (ztb (tb_X5_get E d mc ms)) cut G R T Z) (f : Nat) (L : ZLV) (st : List Value) (σ : ZHp) (n k w : Nat) : Z (f + 1) 1 L st σ n k w = s_if_lt 22 4 L st σ n k w (zk1 cut G (Z f)) G R T := zrs hZ rfl f L st σ n k w
theorem f_X5_get_4 (hZ : ZRN (ztb (tb_X5_get E d mc ms)) cut G R T Z) (f : Nat) (L : ZLV) (st : List Value) (σ : ZHp) (n k w : Nat) : Z (f + 1) 4 L st σ n k w = s_iload 1 5 L st σ n k w (zk1 cut G (Z f)) G R T := zrs hZ rfl f L st σ n k w
theorem f_X5_get_5 (hZ : ZRN (ztb (tb_X5_get E d mc ms)) cut G R T Z) (f : Nat) (L : ZLV) (st : List Value) (σ : ZHp) (n k w : Nat) : Z (f + 1) 5 L st σ n k w = s_aload 0 6 L st σ n k w (zk1 cut G (Z f)) G R T := zrs hZ rfl f L st σ n k w
theorem f_X5_get_6 (hZ : ZRN (ztb (tb_X5_get E d mc ms)) cut G R T Z) (f : Nat) (L : ZLV) (st : List Value) (σ : ZHp) (n k w : Nat) : Z (f + 1) 6 L st σ n k w = s_getf 4 0 9 L st σ n k w (zk1 cut G (Z f)) G R T := zrs hZ rfl f L st σ n k w
theorem f_X5_get_9 (hZ : ZRN (ztb (tb_X5_get E d mc ms)) cut G R T Z) (f : Nat) (L : ZLV) (st : List Value) (σ : ZHp) (n k w : Nat) : Z (f + 1) 9 L st σ n k w = s_alen E 10 L st σ n k w (zk1 cut G (Z f)) G R T := zrs hZ rfl f L st σ n k w
theorem f_X5_get_10 (hZ : ZRN (ztb (tb_X5_get E d mc ms)) cut G R T Z) (f : Nat) (L : ZLV) (st : List Value) (σ : ZHp) (n k w : Nat) : Z (f + 1) 10 L st σ n k w = s_icmp_ge 22 13 L st σ n k w (zk1 cut G (Z f)) G R T := zrs hZ rfl f L st σ n k w
theorem f_X5_get_13 (hZ : ZRN (ztb (tb_X5_get E d mc ms)) cut G R T Z) (f : Nat) (L : ZLV) (st : List Value) (σ : ZHp) (n k w : Nat) : Z (f + 1) 13 L st σ n k w = s_aload 0 14 L st σ n k w (zk1 cut G (Z f)) G R T := zrs hZ rfl f L st σ n k w
theorem f_X5_get_14 (hZ : ZRN (ztb (tb_X5_get E d mc ms)) cut G R T Z) (f : Nat) (L : ZLV) (st : List Value) (σ : ZHp) (n k w : Nat) : Z (f + 1) 14 L st σ n k w = s_getf 4 0 17 L st σ n k w (zk1 cut G (Z f)) G R T := zrs hZ rfl f L st σ n k w
theorem f_X5_get_17 (hZ : ZRN (ztb (tb_X5_get E d mc ms)) cut G R T Z) (f : Nat) (L : ZLV) (st : List Value) (σ : ZHp) (n k w : Nat) : Z (f + 1) 17 L st σ n k w = s_iload 1 18 L st σ n k w (zk1 cut G (Z f)) G R T := zrs hZ rfl f L st σ n k w
theorem f_X5_get_18 (hZ : ZRN (ztb (tb_X5_get E d mc ms)) cut G R T Z) (f : Nat) (L : ZLV) (st : List Value) (σ : ZHp) (n k w : Nat) : Z (f + 1) 18 L st σ n k w = s_iaload E 19 L st σ n k w (zk1 cut G (Z f)) G R T := zrs hZ rfl f L st σ n k w
theorem f_X5_get_19 (hZ : ZRN (ztb (tb_X5_get E d mc ms)) cut G R T Z) (f : Nat) (L : ZLV) (st : List Value) (σ : ZHp) (n k w : Nat) : Z (f + 1) 19 L st σ n k w = s_goto 23 L st σ n k w (zk1 cut G (Z f)) G R T := zrs hZ rfl f L st σ n k w
theorem f_X5_get_22 (hZ : ZRN (ztb (tb_X5_get E d mc ms)) cut G R T Z) (f : Nat) (L : ZLV) (st : List Value) (σ : ZHp) (n k w : Nat) : Z (f + 1) 22 L st σ n k w = s_const (.int (0)) 23 L st σ n k w (zk1 cut G (Z f)) G R T := zrs hZ rfl f L st σ n k w
theorem f_X5_get_23 (hZ : ZRN (ztb (tb_X5_get E d mc ms)) cut G R T Z) (f : Nat) (L : ZLV) (st : List Value) (σ : ZHp) (n k w : Nat) : Z (f + 1) 23 L st σ n k w = s_ireturn L st σ n k w (zk1 cut G (Z f)) G R T := zrs hZ rfl f L st σ n k w
theorem f_X5_set_0 (hZ : ZRN (ztb (tb_X5_set E d mc ms)) cut G R T Z) (f : Nat) (L : ZLV) (st : List Value) (σ : ZHp) (n k w : Nat) : Z (f + 1) 0 L st σ n k w = s_iload 1 1 L st σ n k w (zk1 cut G (Z f)) G R T := zrs hZ rfl f L st σ n k w
theorem f_X5_set_1 (hZ : ZRN (ztb (tb_X5_set E d mc ms)) cut G R T Z) (f : Nat) (L : ZLV) (st : List Value) (σ : ZHp) (n k w : Nat) : Z (f + 1) 1 L st σ n k w = s_if_lt 20 4 L st σ n k w (zk1 cut G (Z f)) G R T := zrs hZ rfl f L st σ n k w
theorem f_X5_set_4 (hZ : ZRN (ztb (tb_X5_set E d mc ms)) cut G R T Z) (f : Nat) (L : ZLV) (st : List Value) (σ : ZHp) (n k w : Nat) : Z (f + 1) 4 L st σ n k w = s_iload 1 5 L st σ n k w (zk1 cut G (Z f)) G R T := zrs hZ rfl f L st σ n k w
theorem f_X5_set_5 (hZ : ZRN (ztb (tb_X5_set E d mc ms)) cut G R T Z) (f : Nat) (L : ZLV) (st : List Value) (σ : ZHp) (n k w : Nat) : Z (f + 1) 5 L st σ n k w = s_aload 0 6 L st σ n k w (zk1 cut G (Z f)) G R T := zrs hZ rfl f L st σ n k w
theorem f_X5_set_6 (hZ : ZRN (ztb (tb_X5_set E d mc ms)) cut G R T Z) (f : Nat) (L : ZLV) (st : List Value) (σ : ZHp) (n k w : Nat) : Z (f + 1) 6 L st σ n k w = s_getf 4 0 9 L st σ n k w (zk1 cut G (Z f)) G R T := zrs hZ rfl f L st σ n k w
theorem f_X5_set_9 (hZ : ZRN (ztb (tb_X5_set E d mc ms)) cut G R T Z) (f : Nat) (L : ZLV) (st : List Value) (σ : ZHp) (n k w : Nat) : Z (f + 1) 9 L st σ n k w = s_alen E 10 L st σ n k w (zk1 cut G (Z f)) G R T := zrs hZ rfl f L st σ n k w
theorem f_X5_set_10 (hZ : ZRN (ztb (tb_X5_set E d mc ms)) cut G R T Z) (f : Nat) (L : ZLV) (st : List Value) (σ : ZHp) (n k w : Nat) : Z (f + 1) 10 L st σ n k w = s_icmp_ge 20 13 L st σ n k w (zk1 cut G (Z f)) G R T := zrs hZ rfl f L st σ n k w
theorem f_X5_set_13 (hZ : ZRN (ztb (tb_X5_set E d mc ms)) cut G R T Z) (f : Nat) (L : ZLV) (st : List Value) (σ : ZHp) (n k w : Nat) : Z (f + 1) 13 L st σ n k w = s_aload 0 14 L st σ n k w (zk1 cut G (Z f)) G R T := zrs hZ rfl f L st σ n k w
theorem f_X5_set_14 (hZ : ZRN (ztb (tb_X5_set E d mc ms)) cut G R T Z) (f : Nat) (L : ZLV) (st : List Value) (σ : ZHp) (n k w : Nat) : Z (f + 1) 14 L st σ n k w = s_getf 4 0 17 L st σ n k w (zk1 cut G (Z f)) G R T := zrs hZ rfl f L st σ n k w
theorem f_X5_set_17 (hZ : ZRN (ztb (tb_X5_set E d mc ms)) cut G R T Z) (f : Nat) (L : ZLV) (st : List Value) (σ : ZHp) (n k w : Nat) : Z (f + 1) 17 L st σ n k w = s_iload 1 18 L st σ n k w (zk1 cut G (Z f)) G R T := zrs hZ rfl f L st σ n k w
theorem f_X5_set_18 (hZ : ZRN (ztb (tb_X5_set E d mc ms)) cut G R T Z) (f : Nat) (L : ZLV) (st : List Value) (σ : ZHp) (n k w : Nat) : Z (f + 1) 18 L st σ n k w = s_iload 2 19 L st σ n k w (zk1 cut G (Z f)) G R T := zrs hZ rfl f L st σ n k w
theorem f_X5_set_19 (hZ : ZRN (ztb (tb_X5_set E d mc ms)) cut G R T Z) (f : Nat) (L : ZLV) (st : List Value) (σ : ZHp) (n k w : Nat) : Z (f + 1) 19 L st σ n k w = s_iastore E 20 L st σ n k w (zk1 cut G (Z f)) G R T := zrs hZ rfl f L st σ n k w
theorem f_X5_set_20 (hZ : ZRN (ztb (tb_X5_set E d mc ms)) cut G R T Z) (f : Nat) (L : ZLV) (st : List Value) (σ : ZHp) (n k w : Nat) : Z (f + 1) 20 L st σ n k w = s_return L st σ n k w (zk1 cut G (Z f)) G R T := zrs hZ rfl f L st σ n k w
theorem f_X5_raise_0 (hZ : ZRN (ztb (tb_X5_raise E d mc ms)) cut G R T Z) (f : Nat) (L : ZLV) (st : List Value) (σ : ZHp) (n k w : Nat) : Z (f + 1) 0 L st σ n k w = s_iload 1 1 L st σ n k w (zk1 cut G (Z f)) G R T := zrs hZ rfl f L st σ n k w
theorem f_X5_raise_1 (hZ : ZRN (ztb (tb_X5_raise E d mc ms)) cut G R T Z) (f : Nat) (L : ZLV) (st : List Value) (σ : ZHp) (n k w : Nat) : Z (f + 1) 1 L st σ n k w = s_if_lt 23 4 L st σ n k w (zk1 cut G (Z f)) G R T := zrs hZ rfl f L st σ n k w
theorem f_X5_raise_4 (hZ : ZRN (ztb (tb_X5_raise E d mc ms)) cut G R T Z) (f : Nat) (L : ZLV) (st : List Value) (σ : ZHp) (n k w : Nat) : Z (f + 1) 4 L st σ n k w = s_iload 1 5 L st σ n k w (zk1 cut G (Z f)) G R T := zrs hZ rfl f L st σ n k w
theorem f_X5_raise_5 (hZ : ZRN (ztb (tb_X5_raise E d mc ms)) cut G R T Z) (f : Nat) (L : ZLV) (st : List Value) (σ : ZHp) (n k w : Nat) : Z (f + 1) 5 L st σ n k w = s_aload 0 6 L st σ n k w (zk1 cut G (Z f)) G R T := zrs hZ rfl f L st σ n k w
theorem f_X5_raise_6 (hZ : ZRN (ztb (tb_X5_raise E d mc ms)) cut G R T Z) (f : Nat) (L : ZLV) (st : List Value) (σ : ZHp) (n k w : Nat) : Z (f + 1) 6 L st σ n k w = s_getf 4 0 9 L st σ n k w (zk1 cut G (Z f)) G R T := zrs hZ rfl f L st σ n k w
theorem f_X5_raise_9 (hZ : ZRN (ztb (tb_X5_raise E d mc ms)) cut G R T Z) (f : Nat) (L : ZLV) (st : List Value) (σ : ZHp) (n k w : Nat) : Z (f + 1) 9 L st σ n k w = s_alen E 10 L st σ n k w (zk1 cut G (Z f)) G R T := zrs hZ rfl f L st σ n k w
theorem f_X5_raise_10 (hZ : ZRN (ztb (tb_X5_raise E d mc ms)) cut G R T Z) (f : Nat) (L : ZLV) (st : List Value) (σ : ZHp) (n k w : Nat) : Z (f + 1) 10 L st σ n k w = s_icmp_ge 23 13 L st σ n k w (zk1 cut G (Z f)) G R T := zrs hZ rfl f L st σ n k w
theorem f_X5_raise_13 (hZ : ZRN (ztb (tb_X5_raise E d mc ms)) cut G R T Z) (f : Nat) (L : ZLV) (st : List Value) (σ : ZHp) (n k w : Nat) : Z (f + 1) 13 L st σ n k w = s_aload 0 14 L st σ n k w (zk1 cut G (Z f)) G R T := zrs hZ rfl f L st σ n k w
theorem f_X5_raise_14 (hZ : ZRN (ztb (tb_X5_raise E d mc ms)) cut G R T Z) (f : Nat) (L : ZLV) (st : List Value) (σ : ZHp) (n k w : Nat) : Z (f + 1) 14 L st σ n k w = s_getf 4 0 17 L st σ n k w (zk1 cut G (Z f)) G R T := zrs hZ rfl f L st σ n k w
theorem f_X5_raise_17 (hZ : ZRN (ztb (tb_X5_raise E d mc ms)) cut G R T Z) (f : Nat) (L : ZLV) (st : List Value) (σ : ZHp) (n k w : Nat) : Z (f + 1) 17 L st σ n k w = s_iload 1 18 L st σ n k w (zk1 cut G (Z f)) G R T := zrs hZ rfl f L st σ n k w
theorem f_X5_raise_18 (hZ : ZRN (ztb (tb_X5_raise E d mc ms)) cut G R T Z) (f : Nat) (L : ZLV) (st : List Value) (σ : ZHp) (n k w : Nat) : Z (f + 1) 18 L st σ n k w = s_dup2 19 L st σ n k w (zk1 cut G (Z f)) G R T := zrs hZ rfl f L st σ n k w
theorem f_X5_raise_19 (hZ : ZRN (ztb (tb_X5_raise E d mc ms)) cut G R T Z) (f : Nat) (L : ZLV) (st : List Value) (σ : ZHp) (n k w : Nat) : Z (f + 1) 19 L st σ n k w = s_iaload E 20 L st σ n k w (zk1 cut G (Z f)) G R T := zrs hZ rfl f L st σ n k w
theorem f_X5_raise_20 (hZ : ZRN (ztb (tb_X5_raise E d mc ms)) cut G R T Z) (f : Nat) (L : ZLV) (st : List Value) (σ : ZHp) (n k w : Nat) : Z (f + 1) 20 L st σ n k w = s_iload 2 21 L st σ n k w (zk1 cut G (Z f)) G R T := zrs hZ rfl f L st σ n k w
theorem f_X5_raise_21 (hZ : ZRN (ztb (tb_X5_raise E d mc ms)) cut G R T Z) (f : Nat) (L : ZLV) (st : List Value) (σ : ZHp) (n k w : Nat) : Z (f + 1) 21 L st σ n k w = s_iadd 22 L st σ n k w (zk1 cut G (Z f)) G R T := zrs hZ rfl f L st σ n k w
theorem f_X5_raise_22 (hZ : ZRN (ztb (tb_X5_raise E d mc ms)) cut G R T Z) (f : Nat) (L : ZLV) (st : List Value) (σ : ZHp) (n k w : Nat) : Z (f + 1) 22 L st σ n k w = s_iastore E 23 L st σ n k w (zk1 cut G (Z f)) G R T := zrs hZ rfl f L st σ n k w
theorem f_X5_raise_23 (hZ : ZRN (ztb (tb_X5_raise E d mc ms)) cut G R T Z) (f : Nat) (L : ZLV) (st : List Value) (σ : ZHp) (n k w : Nat) : Z (f + 1) 23 L st σ n k w = s_return L st σ n k w (zk1 cut G (Z f)) G R T := zrs hZ rfl f L st σ n k w
theorem f_X5_exchange_0 (hZ : ZRN (ztb (tb_X5_exchange E d mc ms)) cut G R T Z) (f : Nat) (L : ZLV) (st : List Value) (σ : ZHp) (n k w : Nat) : Z (f + 1) 0 L st σ n k w = s_iload 1 1 L st σ n k w (zk1 cut G (Z f)) G R T := zrs hZ rfl f L st σ n k w
theorem f_X5_exchange_1 (hZ : ZRN (ztb (tb_X5_exchange E d mc ms)) cut G R T Z) (f : Nat) (L : ZLV) (st : List Value) (σ : ZHp) (n k w : Nat) : Z (f + 1) 1 L st σ n k w = s_if_lt 52 4 L st σ n k w (zk1 cut G (Z f)) G R T := zrs hZ rfl f L st σ n k w
theorem f_X5_exchange_4 (hZ : ZRN (ztb (tb_X5_exchange E d mc ms)) cut G R T Z) (f : Nat) (L : ZLV) (st : List Value) (σ : ZHp) (n k w : Nat) : Z (f + 1) 4 L st σ n k w = s_iload 1 5 L st σ n k w (zk1 cut G (Z f)) G R T := zrs hZ rfl f L st σ n k w
theorem f_X5_exchange_5 (hZ : ZRN (ztb (tb_X5_exchange E d mc ms)) cut G R T Z) (f : Nat) (L : ZLV) (st : List Value) (σ : ZHp) (n k w : Nat) : Z (f + 1) 5 L st σ n k w = s_aload 0 6 L st σ n k w (zk1 cut G (Z f)) G R T := zrs hZ rfl f L st σ n k w
theorem f_X5_exchange_6 (hZ : ZRN (ztb (tb_X5_exchange E d mc ms)) cut G R T Z) (f : Nat) (L : ZLV) (st : List Value) (σ : ZHp) (n k w : Nat) : Z (f + 1) 6 L st σ n k w = s_getf 4 0 9 L st σ n k w (zk1 cut G (Z f)) G R T := zrs hZ rfl f L st σ n k w
theorem f_X5_exchange_9 (hZ : ZRN (ztb (tb_X5_exchange E d mc ms)) cut G R T Z) (f : Nat) (L : ZLV) (st : List Value) (σ : ZHp) (n k w : Nat) : Z (f + 1) 9 L st σ n k w = s_alen E 10 L st σ n k w (zk1 cut G (Z f)) G R T := zrs hZ rfl f L st σ n k w
theorem f_X5_exchange_10 (hZ : ZRN (ztb (tb_X5_exchange E d mc ms)) cut G R T Z) (f : Nat) (L : ZLV) (st : List Value) (σ : ZHp) (n k w : Nat) : Z (f + 1) 10 L st σ n k w = s_icmp_ge 52 13 L st σ n k w (zk1 cut G (Z f)) G R T := zrs hZ rfl f L st σ n k w
theorem f_X5_exchange_13 (hZ : ZRN (ztb (tb_X5_exchange E d mc ms)) cut G R T Z) (f : Nat) (L : ZLV) (st : List Value) (σ : ZHp) (n k w : Nat) : Z (f + 1) 13 L st σ n k w = s_iload 2 14 L st σ n k w (zk1 cut G (Z f)) G R T := zrs hZ rfl f L st σ n k w
theorem f_X5_exchange_14 (hZ : ZRN (ztb (tb_X5_exchange E d mc ms)) cut G R T Z) (f : Nat) (L : ZLV) (st : List Value) (σ : ZHp) (n k w : Nat) : Z (f + 1) 14 L st σ n k w = s_if_lt 52 17 L st σ n k w (zk1 cut G (Z f)) G R T := zrs hZ rfl f L st σ n k w
theorem f_X5_exchange_17 (hZ : ZRN (ztb (tb_X5_exchange E d mc ms)) cut G R T Z) (f : Nat) (L : ZLV) (st : List Value) (σ : ZHp) (n k w : Nat) : Z (f + 1) 17 L st σ n k w = s_iload 2 18 L st σ n k w (zk1 cut G (Z f)) G R T := zrs hZ rfl f L st σ n k w
theorem f_X5_exchange_18 (hZ : ZRN (ztb (tb_X5_exchange E d mc ms)) cut G R T Z) (f : Nat) (L : ZLV) (st : List Value) (σ : ZHp) (n k w : Nat) : Z (f + 1) 18 L st σ n k w = s_aload 0 19 L st σ n k w (zk1 cut G (Z f)) G R T := zrs hZ rfl f L st σ n k w
theorem f_X5_exchange_19 (hZ : ZRN (ztb (tb_X5_exchange E d mc ms)) cut G R T Z) (f : Nat) (L : ZLV) (st : List Value) (σ : ZHp) (n k w : Nat) : Z (f + 1) 19 L st σ n k w = s_getf 4 0 22 L st σ n k w (zk1 cut G (Z f)) G R T := zrs hZ rfl f L st σ n k w
theorem f_X5_exchange_22 (hZ : ZRN (ztb (tb_X5_exchange E d mc ms)) cut G R T Z) (f : Nat) (L : ZLV) (st : List Value) (σ : ZHp) (n k w : Nat) : Z (f + 1) 22 L st σ n k w = s_alen E 23 L st σ n k w (zk1 cut G (Z f)) G R T := zrs hZ rfl f L st σ n k w
theorem f_X5_exchange_23 (hZ : ZRN (ztb (tb_X5_exchange E d mc ms)) cut G R T Z) (f : Nat) (L : ZLV) (st : List Value) (σ : ZHp) (n k w : Nat) : Z (f + 1) 23 L st σ n k w = s_icmp_ge 52 26 L st σ n k w (zk1 cut G (Z f)) G R T := zrs hZ rfl f L st σ n k w
theorem f_X5_exchange_26 (hZ : ZRN (ztb (tb_X5_exchange E d mc ms)) cut G R T Z) (f : Nat) (L : ZLV) (st : List Value) (σ : ZHp) (n k w : Nat) : Z (f + 1) 26 L st σ n k w = s_aload 0 27 L st σ n k w (zk1 cut G (Z f)) G R T := zrs hZ rfl f L st σ n k w
theorem f_X5_exchange_27 (hZ : ZRN (ztb (tb_X5_exchange E d mc ms)) cut G R T Z) (f : Nat) (L : ZLV) (st : List Value) (σ : ZHp) (n k w : Nat) : Z (f + 1) 27 L st σ n k w = s_getf 4 0 30 L st σ n k w (zk1 cut G (Z f)) G R T := zrs hZ rfl f L st σ n k w
theorem f_X5_exchange_30 (hZ : ZRN (ztb (tb_X5_exchange E d mc ms)) cut G R T Z) (f : Nat) (L : ZLV) (st : List Value) (σ : ZHp) (n k w : Nat) : Z (f + 1) 30 L st σ n k w = s_iload 1 31 L st σ n k w (zk1 cut G (Z f)) G R T := zrs hZ rfl f L st σ n k w
theorem f_X5_exchange_31 (hZ : ZRN (ztb (tb_X5_exchange E d mc ms)) cut G R T Z) (f : Nat) (L : ZLV) (st : List Value) (σ : ZHp) (n k w : Nat) : Z (f + 1) 31 L st σ n k w = s_iaload E 32 L st σ n k w (zk1 cut G (Z f)) G R T := zrs hZ rfl f L st σ n k w
theorem f_X5_exchange_32 (hZ : ZRN (ztb (tb_X5_exchange E d mc ms)) cut G R T Z) (f : Nat) (L : ZLV) (st : List Value) (σ : ZHp) (n k w : Nat) : Z (f + 1) 32 L st σ n k w = s_istore 3 33 L st σ n k w (zk1 cut G (Z f)) G R T := zrs hZ rfl f L st σ n k w
theorem f_X5_exchange_33 (hZ : ZRN (ztb (tb_X5_exchange E d mc ms)) cut G R T Z) (f : Nat) (L : ZLV) (st : List Value) (σ : ZHp) (n k w : Nat) : Z (f + 1) 33 L st σ n k w = s_aload 0 34 L st σ n k w (zk1 cut G (Z f)) G R T := zrs hZ rfl f L st σ n k w
theorem f_X5_exchange_34 (hZ : ZRN (ztb (tb_X5_exchange E d mc ms)) cut G R T Z) (f : Nat) (L : ZLV) (st : List Value) (σ : ZHp) (n k w : Nat) : Z (f + 1) 34 L st σ n k w = s_getf 4 0 37 L st σ n k w (zk1 cut G (Z f)) G R T := zrs hZ rfl f L st σ n k w
theorem f_X5_exchange_37 (hZ : ZRN (ztb (tb_X5_exchange E d mc ms)) cut G R T Z) (f : Nat) (L : ZLV) (st : List Value) (σ : ZHp) (n k w : Nat) : Z (f + 1) 37 L st σ n k w = s_iload 1 38 L st σ n k w (zk1 cut G (Z f)) G R T := zrs hZ rfl f L st σ n k w
theorem f_X5_exchange_38 (hZ : ZRN (ztb (tb_X5_exchange E d mc ms)) cut G R T Z) (f : Nat) (L : ZLV) (st : List Value) (σ : ZHp) (n k w : Nat) : Z (f + 1) 38 L st σ n k w = s_aload 0 39 L st σ n k w (zk1 cut G (Z f)) G R T := zrs hZ rfl f L st σ n k w
theorem f_X5_exchange_39 (hZ : ZRN (ztb (tb_X5_exchange E d mc ms)) cut G R T Z) (f : Nat) (L : ZLV) (st : List Value) (σ : ZHp) (n k w : Nat) : Z (f + 1) 39 L st σ n k w = s_getf 4 0 42 L st σ n k w (zk1 cut G (Z f)) G R T := zrs hZ rfl f L st σ n k w
theorem f_X5_exchange_42 (hZ : ZRN (ztb (tb_X5_exchange E d mc ms)) cut G R T Z) (f : Nat) (L : ZLV) (st : List Value) (σ : ZHp) (n k w : Nat) : Z (f + 1) 42 L st σ n k w = s_iload 2 43 L st σ n k w (zk1 cut G (Z f)) G R T := zrs hZ rfl f L st σ n k w
theorem f_X5_exchange_43 (hZ : ZRN (ztb (tb_X5_exchange E d mc ms)) cut G R T Z) (f : Nat) (L : ZLV) (st : List Value) (σ : ZHp) (n k w : Nat) : Z (f + 1) 43 L st σ n k w = s_iaload E 44 L st σ n k w (zk1 cut G (Z f)) G R T := zrs hZ rfl f L st σ n k w
theorem f_X5_exchange_44 (hZ : ZRN (ztb (tb_X5_exchange E d mc ms)) cut G R T Z) (f : Nat) (L : ZLV) (st : List Value) (σ : ZHp) (n k w : Nat) : Z (f + 1) 44 L st σ n k w = s_iastore E 45 L st σ n k w (zk1 cut G (Z f)) G R T := zrs hZ rfl f L st σ n k w
theorem f_X5_exchange_45 (hZ : ZRN (ztb (tb_X5_exchange E d mc ms)) cut G R T Z) (f : Nat) (L : ZLV) (st : List Value) (σ : ZHp) (n k w : Nat) : Z (f + 1) 45 L st σ n k w = s_aload 0 46 L st σ n k w (zk1 cut G (Z f)) G R T := zrs hZ rfl f L st σ n k w
theorem f_X5_exchange_46 (hZ : ZRN (ztb (tb_X5_exchange E d mc ms)) cut G R T Z) (f : Nat) (L : ZLV) (st : List Value) (σ : ZHp) (n k w : Nat) : Z (f + 1) 46 L st σ n k w = s_getf 4 0 49 L st σ n k w (zk1 cut G (Z f)) G R T := zrs hZ rfl f L st σ n k w
theorem f_X5_exchange_49 (hZ : ZRN (ztb (tb_X5_exchange E d mc ms)) cut G R T Z) (f : Nat) (L : ZLV) (st : List Value) (σ : ZHp) (n k w : Nat) : Z (f + 1) 49 L st σ n k w = s_iload 2 50 L st σ n k w (zk1 cut G (Z f)) G R T := zrs hZ rfl f L st σ n k w
theorem f_X5_exchange_50 (hZ : ZRN (ztb (tb_X5_exchange E d mc ms)) cut G R T Z) (f : Nat) (L : ZLV) (st : List Value) (σ : ZHp) (n k w : Nat) : Z (f + 1) 50 L st σ n k w = s_iload 3 51 L st σ n k w (zk1 cut G (Z f)) G R T := zrs hZ rfl f L st σ n k w
theorem f_X5_exchange_51 (hZ : ZRN (ztb (tb_X5_exchange E d mc ms)) cut G R T Z) (f : Nat) (L : ZLV) (st : List Value) (σ : ZHp) (n k w : Nat) : Z (f + 1) 51 L st σ n k w = s_iastore E 52 L st σ n k w (zk1 cut G (Z f)) G R T := zrs hZ rfl f L st σ n k w
theorem f_X5_exchange_52 (hZ : ZRN (ztb (tb_X5_exchange E d mc ms)) cut G R T Z) (f : Nat) (L : ZLV) (st : List Value) (σ : ZHp) (n k w : Nat) : Z (f + 1) 52 L st σ n k w = s_return L st σ n k w (zk1 cut G (Z f)) G R T := zrs hZ rfl f L st σ n k w
theorem f_X5_add_0 (hZ : ZRN (ztb (tb_X5_add E d mc ms)) cut G R T Z) (f : Nat) (L : ZLV) (st : List Value) (σ : ZHp) (n k w : Nat) : Z (f + 1) 0 L st σ n k w = s_aload 0 1 L st σ n k w (zk1 cut G (Z f)) G R T := zrs hZ rfl f L st σ n k w
theorem f_X5_add_1 (hZ : ZRN (ztb (tb_X5_add E d mc ms)) cut G R T Z) (f : Nat) (L : ZLV) (st : List Value) (σ : ZHp) (n k w : Nat) : Z (f + 1) 1 L st σ n k w = s_getf 4 1 4 L st σ n k w (zk1 cut G (Z f)) G R T := zrs hZ rfl f L st σ n k w
theorem f_X5_add_4 (hZ : ZRN (ztb (tb_X5_add E d mc ms)) cut G R T Z) (f : Nat) (L : ZLV) (st : List Value) (σ : ZHp) (n k w : Nat) : Z (f + 1) 4 L st σ n k w = s_if_lt 39 7 L st σ n k w (zk1 cut G (Z f)) G R T := zrs hZ rfl f L st σ n k w
theorem f_X5_add_7 (hZ : ZRN (ztb (tb_X5_add E d mc ms)) cut G R T Z) (f : Nat) (L : ZLV) (st : List Value) (σ : ZHp) (n k w : Nat) : Z (f + 1) 7 L st σ n k w = s_aload 0 8 L st σ n k w (zk1 cut G (Z f)) G R T := zrs hZ rfl f L st σ n k w
theorem f_X5_add_8 (hZ : ZRN (ztb (tb_X5_add E d mc ms)) cut G R T Z) (f : Nat) (L : ZLV) (st : List Value) (σ : ZHp) (n k w : Nat) : Z (f + 1) 8 L st σ n k w = s_getf 4 1 11 L st σ n k w (zk1 cut G (Z f)) G R T := zrs hZ rfl f L st σ n k w
theorem f_X5_add_11 (hZ : ZRN (ztb (tb_X5_add E d mc ms)) cut G R T Z) (f : Nat) (L : ZLV) (st : List Value) (σ : ZHp) (n k w : Nat) : Z (f + 1) 11 L st σ n k w = s_aload 0 12 L st σ n k w (zk1 cut G (Z f)) G R T := zrs hZ rfl f L st σ n k w
theorem f_X5_add_12 (hZ : ZRN (ztb (tb_X5_add E d mc ms)) cut G R T Z) (f : Nat) (L : ZLV) (st : List Value) (σ : ZHp) (n k w : Nat) : Z (f + 1) 12 L st σ n k w = s_getf 4 0 15 L st σ n k w (zk1 cut G (Z f)) G R T := zrs hZ rfl f L st σ n k w
theorem f_X5_add_15 (hZ : ZRN (ztb (tb_X5_add E d mc ms)) cut G R T Z) (f : Nat) (L : ZLV) (st : List Value) (σ : ZHp) (n k w : Nat) : Z (f + 1) 15 L st σ n k w = s_alen E 16 L st σ n k w (zk1 cut G (Z f)) G R T := zrs hZ rfl f L st σ n k w
theorem f_X5_add_16 (hZ : ZRN (ztb (tb_X5_add E d mc ms)) cut G R T Z) (f : Nat) (L : ZLV) (st : List Value) (σ : ZHp) (n k w : Nat) : Z (f + 1) 16 L st σ n k w = s_icmp_ge 39 19 L st σ n k w (zk1 cut G (Z f)) G R T := zrs hZ rfl f L st σ n k w
theorem f_X5_add_19 (hZ : ZRN (ztb (tb_X5_add E d mc ms)) cut G R T Z) (f : Nat) (L : ZLV) (st : List Value) (σ : ZHp) (n k w : Nat) : Z (f + 1) 19 L st σ n k w = s_aload 0 20 L st σ n k w (zk1 cut G (Z f)) G R T := zrs hZ rfl f L st σ n k w
theorem f_X5_add_20 (hZ : ZRN (ztb (tb_X5_add E d mc ms)) cut G R T Z) (f : Nat) (L : ZLV) (st : List Value) (σ : ZHp) (n k w : Nat) : Z (f + 1) 20 L st σ n k w = s_getf 4 0 23 L st σ n k w (zk1 cut G (Z f)) G R T := zrs hZ rfl f L st σ n k w
theorem f_X5_add_23 (hZ : ZRN (ztb (tb_X5_add E d mc ms)) cut G R T Z) (f : Nat) (L : ZLV) (st : List Value) (σ : ZHp) (n k w : Nat) : Z (f + 1) 23 L st σ n k w = s_aload 0 24 L st σ n k w (zk1 cut G (Z f)) G R T := zrs hZ rfl f L st σ n k w
theorem f_X5_add_24 (hZ : ZRN (ztb (tb_X5_add E d mc ms)) cut G R T Z) (f : Nat) (L : ZLV) (st : List Value) (σ : ZHp) (n k w : Nat) : Z (f + 1) 24 L st σ n k w = s_getf 4 1 27 L st σ n k w (zk1 cut G (Z f)) G R T := zrs hZ rfl f L st σ n k w
theorem f_X5_add_27 (hZ : ZRN (ztb (tb_X5_add E d mc ms)) cut G R T Z) (f : Nat) (L : ZLV) (st : List Value) (σ : ZHp) (n k w : Nat) : Z (f + 1) 27 L st σ n k w = s_iload 1 28 L st σ n k w (zk1 cut G (Z f)) G R T := zrs hZ rfl f L st σ n k w
theorem f_X5_add_28 (hZ : ZRN (ztb (tb_X5_add E d mc ms)) cut G R T Z) (f : Nat) (L : ZLV) (st : List Value) (σ : ZHp) (n k w : Nat) : Z (f + 1) 28 L st σ n k w = s_iastore E 29 L st σ n k w (zk1 cut G (Z f)) G R T := zrs hZ rfl f L st σ n k w
theorem f_X5_add_29 (hZ : ZRN (ztb (tb_X5_add E d mc ms)) cut G R T Z) (f : Nat) (L : ZLV) (st : List Value) (σ : ZHp) (n k w : Nat) : Z (f + 1) 29 L st σ n k w = s_aload 0 30 L st σ n k w (zk1 cut G (Z f)) G R T := zrs hZ rfl f L st σ n k w
theorem f_X5_add_30 (hZ : ZRN (ztb (tb_X5_add E d mc ms)) cut G R T Z) (f : Nat) (L : ZLV) (st : List Value) (σ : ZHp) (n k w : Nat) : Z (f + 1) 30 L st σ n k w = s_dup 31 L st σ n k w (zk1 cut G (Z f)) G R T := zrs hZ rfl f L st σ n k w
theorem f_X5_add_31 (hZ : ZRN (ztb (tb_X5_add E d mc ms)) cut G R T Z) (f : Nat) (L : ZLV) (st : List Value) (σ : ZHp) (n k w : Nat) : Z (f + 1) 31 L st σ n k w = s_getf 4 1 34 L st σ n k w (zk1 cut G (Z f)) G R T := zrs hZ rfl f L st σ n k w
theorem f_X5_add_34 (hZ : ZRN (ztb (tb_X5_add E d mc ms)) cut G R T Z) (f : Nat) (L : ZLV) (st : List Value) (σ : ZHp) (n k w : Nat) : Z (f + 1) 34 L st σ n k w = s_const (.int (1)) 35 L st σ n k w (zk1 cut G (Z f)) G R T := zrs hZ rfl f L st σ n k w
theorem f_X5_add_35 (hZ : ZRN (ztb (tb_X5_add E d mc ms)) cut G R T Z) (f : Nat) (L : ZLV) (st : List Value) (σ : ZHp) (n k w : Nat) : Z (f + 1) 35 L st σ n k w = s_iadd 36 L st σ n k w (zk1 cut G (Z f)) G R T := zrs hZ rfl f L st σ n k w
theorem f_X5_add_36 (hZ : ZRN (ztb (tb_X5_add E d mc ms)) cut G R T Z) (f : Nat) (L : ZLV) (st : List Value) (σ : ZHp) (n k w : Nat) : Z (f + 1) 36 L st σ n k w = s_putf 4 1 0 39 L st σ n k w (zk1 cut G (Z f)) G R T := zrs hZ rfl f L st σ n k w
theorem f_X5_add_39 (hZ : ZRN (ztb (tb_X5_add E d mc ms)) cut G R T Z) (f : Nat) (L : ZLV) (st : List Value) (σ : ZHp) (n k w : Nat) : Z (f + 1) 39 L st σ n k w = s_return L st σ n k w (zk1 cut G (Z f)) G R T := zrs hZ rfl f L st σ n k w
theorem f_X5_addAll_0 (hZ : ZRN (ztb (tb_X5_addAll E d mc ms)) cut G R T Z) (f : Nat) (L : ZLV) (st : List Value) (σ : ZHp) (n k w : Nat) : Z (f + 1) 0 L st σ n k w = s_const (.int (0)) 1 L st σ n k w (zk1 cut G (Z f)) G R T := zrs hZ rfl f L st σ n k w
theorem f_X5_addAll_1 (hZ : ZRN (ztb (tb_X5_addAll E d mc ms)) cut G R T Z) (f : Nat) (L : ZLV) (st : List Value) (σ : ZHp) (n k w : Nat) : Z (f + 1) 1 L st σ n k w = s_istore 2 2 L st σ n k w (zk1 cut G (Z f)) G R T := zrs hZ rfl f L st σ n k w
theorem f_X5_addAll_2 (hZ : ZRN (ztb (tb_X5_addAll E d mc ms)) cut G R T Z) (f : Nat) (L : ZLV) (st : List Value) (σ : ZHp) (n k w : Nat) : Z (f + 1) 2 L st σ n k w = s_iload 2 3 L st σ n k w (zk1 cut G (Z f)) G R T := zrs hZ rfl f L st σ n k w
theorem f_X5_addAll_3 (hZ : ZRN (ztb (tb_X5_addAll E d mc ms)) cut G R T Z) (f : Nat) (L : ZLV) (st : List Value) (σ : ZHp) (n k w : Nat) : Z (f + 1) 3 L st σ n k w = s_aload 1 4 L st σ n k w (zk1 cut G (Z f)) G R T := zrs hZ rfl f L st σ n k w
theorem f_X5_addAll_4 (hZ : ZRN (ztb (tb_X5_addAll E d mc ms)) cut G R T Z) (f : Nat) (L : ZLV) (st : List Value) (σ : ZHp) (n k w : Nat) : Z (f + 1) 4 L st σ n k w = s_getf 4 1 7 L st σ n k w (zk1 cut G (Z f)) G R T := zrs hZ rfl f L st σ n k w
theorem f_X5_addAll_7 (hZ : ZRN (ztb (tb_X5_addAll E d mc ms)) cut G R T Z) (f : Nat) (L : ZLV) (st : List Value) (σ : ZHp) (n k w : Nat) : Z (f + 1) 7 L st σ n k w = s_icmp_ge 25 10 L st σ n k w (zk1 cut G (Z f)) G R T := zrs hZ rfl f L st σ n k w
theorem f_X5_addAll_10 (hZ : ZRN (ztb (tb_X5_addAll E d mc ms)) cut G R T Z) (f : Nat) (L : ZLV) (st : List Value) (σ : ZHp) (n k w : Nat) : Z (f + 1) 10 L st σ n k w = s_aload 0 11 L st σ n k w (zk1 cut G (Z f)) G R T := zrs hZ rfl f L st σ n k w
theorem f_X5_addAll_11 (hZ : ZRN (ztb (tb_X5_addAll E d mc ms)) cut G R T Z) (f : Nat) (L : ZLV) (st : List Value) (σ : ZHp) (n k w : Nat) : Z (f + 1) 11 L st σ n k w = s_aload 1 12 L st σ n k w (zk1 cut G (Z f)) G R T := zrs hZ rfl f L st σ n k w
theorem f_X5_addAll_12 (hZ : ZRN (ztb (tb_X5_addAll E d mc ms)) cut G R T Z) (f : Nat) (L : ZLV) (st : List Value) (σ : ZHp) (n k w : Nat) : Z (f + 1) 12 L st σ n k w = s_iload 2 13 L st σ n k w (zk1 cut G (Z f)) G R T := zrs hZ rfl f L st σ n k w
theorem f_X5_addAll_13 (hZ : ZRN (ztb (tb_X5_addAll E d mc ms)) cut G R T Z) (f : Nat) (L : ZLV) (st : List Value) (σ : ZHp) (n k w : Nat) : Z (f + 1) 13 L st σ n k w = s_callV E d mc ms 4 MX5_get 1 16 L st σ n k w (zk1 cut G (Z f)) G R T := zrs hZ rfl f L st σ n k w
theorem f_X5_addAll_16 (hZ : ZRN (ztb (tb_X5_addAll E d mc ms)) cut G R T Z) (f : Nat) (L : ZLV) (st : List Value) (σ : ZHp) (n k w : Nat) : Z (f + 1) 16 L st σ n k w = s_callV E d mc ms 4 MX5_add 1 19 L st σ n k w (zk1 cut G (Z f)) G R T := zrs hZ rfl f L st σ n k w
theorem f_X5_addAll_19 (hZ : ZRN (ztb (tb_X5_addAll E d mc ms)) cut G R T Z) (f : Nat) (L : ZLV) (st : List Value) (σ : ZHp) (n k w : Nat) : Z (f + 1) 19 L st σ n k w = s_iinc 2 (1) 22 L st σ n k w (zk1 cut G (Z f)) G R T := zrs hZ rfl f L st σ n k w
theorem f_X5_addAll_22 (hZ : ZRN (ztb (tb_X5_addAll E d mc ms)) cut G R T Z) (f : Nat) (L : ZLV) (st : List Value) (σ : ZHp) (n k w : Nat) : Z (f + 1) 22 L st σ n k w = s_goto 2 L st σ n k w (zk1 cut G (Z f)) G R T := zrs hZ rfl f L st σ n k w
theorem f_X5_addAll_25 (hZ : ZRN (ztb (tb_X5_addAll E d mc ms)) cut G R T Z) (f : Nat) (L : ZLV) (st : List Value) (σ : ZHp) (n k w : Nat) : Z (f + 1) 25 L st σ n k w = s_return L st σ n k w (zk1 cut G (Z f)) G R T := zrs hZ rfl f L st σ n k w
theorem f_X5_takeLast_0 (hZ : ZRN (ztb (tb_X5_takeLast E d mc ms)) cut G R T Z) (f : Nat) (L : ZLV) (st : List Value) (σ : ZHp) (n k w : Nat) : Z (f + 1) 0 L st σ n k w = s_aload 0 1 L st σ n k w (zk1 cut G (Z f)) G R T := zrs hZ rfl f L st σ n k w
theorem f_X5_takeLast_1 (hZ : ZRN (ztb (tb_X5_takeLast E d mc ms)) cut G R T Z) (f : Nat) (L : ZLV) (st : List Value) (σ : ZHp) (n k w : Nat) : Z (f + 1) 1 L st σ n k w = s_getf 4 1 4 L st σ n k w (zk1 cut G (Z f)) G R T := zrs hZ rfl f L st σ n k w
theorem f_X5_takeLast_4 (hZ : ZRN (ztb (tb_X5_takeLast E d mc ms)) cut G R T Z) (f : Nat) (L : ZLV) (st : List Value) (σ : ZHp) (n k w : Nat) : Z (f + 1) 4 L st σ n k w = s_const (.int (1)) 5 L st σ n k w (zk1 cut G (Z f)) G R T := zrs hZ rfl f L st σ n k w
theorem f_X5_takeLast_5 (hZ : ZRN (ztb (tb_X5_takeLast E d mc ms)) cut G R T Z) (f : Nat) (L : ZLV) (st : List Value) (σ : ZHp) (n k w : Nat) : Z (f + 1) 5 L st σ n k w = s_icmp_lt 20 8 L st σ n k w (zk1 cut G (Z f)) G R T := zrs hZ rfl f L st σ n k w
theorem f_X5_takeLast_8 (hZ : ZRN (ztb (tb_X5_takeLast E d mc ms)) cut G R T Z) (f : Nat) (L : ZLV) (st : List Value) (σ : ZHp) (n k w : Nat) : Z (f + 1) 8 L st σ n k w = s_aload 0 9 L st σ n k w (zk1 cut G (Z f)) G R T := zrs hZ rfl f L st σ n k w
theorem f_X5_takeLast_9 (hZ : ZRN (ztb (tb_X5_takeLast E d mc ms)) cut G R T Z) (f : Nat) (L : ZLV) (st : List Value) (σ : ZHp) (n k w : Nat) : Z (f + 1) 9 L st σ n k w = s_getf 4 1 12 L st σ n k w (zk1 cut G (Z f)) G R T := zrs hZ rfl f L st σ n k w
theorem f_X5_takeLast_12 (hZ : ZRN (ztb (tb_X5_takeLast E d mc ms)) cut G R T Z) (f : Nat) (L : ZLV) (st : List Value) (σ : ZHp) (n k w : Nat) : Z (f + 1) 12 L st σ n k w = s_aload 0 13 L st σ n k w (zk1 cut G (Z f)) G R T := zrs hZ rfl f L st σ n k w
theorem f_X5_takeLast_13 (hZ : ZRN (ztb (tb_X5_takeLast E d mc ms)) cut G R T Z) (f : Nat) (L : ZLV) (st : List Value) (σ : ZHp) (n k w : Nat) : Z (f + 1) 13 L st σ n k w = s_getf 4 0 16 L st σ n k w (zk1 cut G (Z f)) G R T := zrs hZ rfl f L st σ n k w
theorem f_X5_takeLast_16 (hZ : ZRN (ztb (tb_X5_takeLast E d mc ms)) cut G R T Z) (f : Nat) (L : ZLV) (st : List Value) (σ : ZHp) (n k w : Nat) : Z (f + 1) 16 L st σ n k w = s_alen E 17 L st σ n k w (zk1 cut G (Z f)) G R T := zrs hZ rfl f L st σ n k w
theorem f_X5_takeLast_17 (hZ : ZRN (ztb (tb_X5_takeLast E d mc ms)) cut G R T Z) (f : Nat) (L : ZLV) (st : List Value) (σ : ZHp) (n k w : Nat) : Z (f + 1) 17 L st σ n k w = s_icmp_le 22 20 L st σ n k w (zk1 cut G (Z f)) G R T := zrs hZ rfl f L st σ n k w
theorem f_X5_takeLast_20 (hZ : ZRN (ztb (tb_X5_takeLast E d mc ms)) cut G R T Z) (f : Nat) (L : ZLV) (st : List Value) (σ : ZHp) (n k w : Nat) : Z (f + 1) 20 L st σ n k w = s_const (.int (0)) 21 L st σ n k w (zk1 cut G (Z f)) G R T := zrs hZ rfl f L st σ n k w
theorem f_X5_takeLast_21 (hZ : ZRN (ztb (tb_X5_takeLast E d mc ms)) cut G R T Z) (f : Nat) (L : ZLV) (st : List Value) (σ : ZHp) (n k w : Nat) : Z (f + 1) 21 L st σ n k w = s_ireturn L st σ n k w (zk1 cut G (Z f)) G R T := zrs hZ rfl f L st σ n k w
theorem f_X5_takeLast_22 (hZ : ZRN (ztb (tb_X5_takeLast E d mc ms)) cut G R T Z) (f : Nat) (L : ZLV) (st : List Value) (σ : ZHp) (n k w : Nat) : Z (f + 1) 22 L st σ n k w = s_aload 0 23 L st σ n k w (zk1 cut G (Z f)) G R T := zrs hZ rfl f L st σ n k w
theorem f_X5_takeLast_23 (hZ : ZRN (ztb (tb_X5_takeLast E d mc ms)) cut G R T Z) (f : Nat) (L : ZLV) (st : List Value) (σ : ZHp) (n k w : Nat) : Z (f + 1) 23 L st σ n k w = s_dup 24 L st σ n k w (zk1 cut G (Z f)) G R T := zrs hZ rfl f L st σ n k w
theorem f_X5_takeLast_24 (hZ : ZRN (ztb (tb_X5_takeLast E d mc ms)) cut G R T Z) (f : Nat) (L : ZLV) (st : List Value) (σ : ZHp) (n k w : Nat) : Z (f + 1) 24 L st σ n k w = s_getf 4 1 27 L st σ n k w (zk1 cut G (Z f)) G R T := zrs hZ rfl f L st σ n k w
theorem f_X5_takeLast_27 (hZ : ZRN (ztb (tb_X5_takeLast E d mc ms)) cut G R T Z) (f : Nat) (L : ZLV) (st : List Value) (σ : ZHp) (n k w : Nat) : Z (f + 1) 27 L st σ n k w = s_const (.int (1)) 28 L st σ n k w (zk1 cut G (Z f)) G R T := zrs hZ rfl f L st σ n k w
theorem f_X5_takeLast_28 (hZ : ZRN (ztb (tb_X5_takeLast E d mc ms)) cut G R T Z) (f : Nat) (L : ZLV) (st : List Value) (σ : ZHp) (n k w : Nat) : Z (f + 1) 28 L st σ n k w = s_isub 29 L st σ n k w (zk1 cut G (Z f)) G R T := zrs hZ rfl f L st σ n k w
theorem f_X5_takeLast_29 (hZ : ZRN (ztb (tb_X5_takeLast E d mc ms)) cut G R T Z) (f : Nat) (L : ZLV) (st : List Value) (σ : ZHp) (n k w : Nat) : Z (f + 1) 29 L st σ n k w = s_putf 4 1 0 32 L st σ n k w (zk1 cut G (Z f)) G R T := zrs hZ rfl f L st σ n k w
theorem f_X5_takeLast_32 (hZ : ZRN (ztb (tb_X5_takeLast E d mc ms)) cut G R T Z) (f : Nat) (L : ZLV) (st : List Value) (σ : ZHp) (n k w : Nat) : Z (f + 1) 32 L st σ n k w = s_aload 0 33 L st σ n k w (zk1 cut G (Z f)) G R T := zrs hZ rfl f L st σ n k w
theorem f_X5_takeLast_33 (hZ : ZRN (ztb (tb_X5_takeLast E d mc ms)) cut G R T Z) (f : Nat) (L : ZLV) (st : List Value) (σ : ZHp) (n k w : Nat) : Z (f + 1) 33 L st σ n k w = s_getf 4 0 36 L st σ n k w (zk1 cut G (Z f)) G R T := zrs hZ rfl f L st σ n k w
theorem f_X5_takeLast_36 (hZ : ZRN (ztb (tb_X5_takeLast E d mc ms)) cut G R T Z) (f : Nat) (L : ZLV) (st : List Value) (σ : ZHp) (n k w : Nat) : Z (f + 1) 36 L st σ n k w = s_aload 0 37 L st σ n k w (zk1 cut G (Z f)) G R T := zrs hZ rfl f L st σ n k w
theorem f_X5_takeLast_37 (hZ : ZRN (ztb (tb_X5_takeLast E d mc ms)) cut G R T Z) (f : Nat) (L : ZLV) (st : List Value) (σ : ZHp) (n k w : Nat) : Z (f + 1) 37 L st σ n k w = s_getf 4 1 40 L st σ n k w (zk1 cut G (Z f)) G R T := zrs hZ rfl f L st σ n k w
theorem f_X5_takeLast_40 (hZ : ZRN (ztb (tb_X5_takeLast E d mc ms)) cut G R T Z) (f : Nat) (L : ZLV) (st : List Value) (σ : ZHp) (n k w : Nat) : Z (f + 1) 40 L st σ n k w = s_iaload E 41 L st σ n k w (zk1 cut G (Z f)) G R T := zrs hZ rfl f L st σ n k w
theorem f_X5_takeLast_41 (hZ : ZRN (ztb (tb_X5_takeLast E d mc ms)) cut G R T Z) (f : Nat) (L : ZLV) (st : List Value) (σ : ZHp) (n k w : Nat) : Z (f + 1) 41 L st σ n k w = s_ireturn L st σ n k w (zk1 cut G (Z f)) G R T := zrs hZ rfl f L st σ n k w
theorem f_X5_cut_0 (hZ : ZRN (ztb (tb_X5_cut E d mc ms)) cut G R T Z) (f : Nat) (L : ZLV) (st : List Value) (σ : ZHp) (n k w : Nat) : Z (f + 1) 0 L st σ n k w = s_iload 1 1 L st σ n k w (zk1 cut G (Z f)) G R T := zrs hZ rfl f L st σ n k w
theorem f_X5_cut_1 (hZ : ZRN (ztb (tb_X5_cut E d mc ms)) cut G R T Z) (f : Nat) (L : ZLV) (st : List Value) (σ : ZHp) (n k w : Nat) : Z (f + 1) 1 L st σ n k w = s_if_lt 63 4 L st σ n k w (zk1 cut G (Z f)) G R T := zrs hZ rfl f L st σ n k w
theorem f_X5_cut_4 (hZ : ZRN (ztb (tb_X5_cut E d mc ms)) cut G R T Z) (f : Nat) (L : ZLV) (st : List Value) (σ : ZHp) (n k w : Nat) : Z (f + 1) 4 L st σ n k w = s_iload 2 5 L st σ n k w (zk1 cut G (Z f)) G R T := zrs hZ rfl f L st σ n k w
theorem f_X5_cut_5 (hZ : ZRN (ztb (tb_X5_cut E d mc ms)) cut G R T Z) (f : Nat) (L : ZLV) (st : List Value) (σ : ZHp) (n k w : Nat) : Z (f + 1) 5 L st σ n k w = s_if_lt 63 8 L st σ n k w (zk1 cut G (Z f)) G R T := zrs hZ rfl f L st σ n k w
theorem f_X5_cut_8 (hZ : ZRN (ztb (tb_X5_cut E d mc ms)) cut G R T Z) (f : Nat) (L : ZLV) (st : List Value) (σ : ZHp) (n k w : Nat) : Z (f + 1) 8 L st σ n k w = s_iload 2 9 L st σ n k w (zk1 cut G (Z f)) G R T := zrs hZ rfl f L st σ n k w
theorem f_X5_cut_9 (hZ : ZRN (ztb (tb_X5_cut E d mc ms)) cut G R T Z) (f : Nat) (L : ZLV) (st : List Value) (σ : ZHp) (n k w : Nat) : Z (f + 1) 9 L st σ n k w = s_aload 0 10 L st σ n k w (zk1 cut G (Z f)) G R T := zrs hZ rfl f L st σ n k w
theorem f_X5_cut_10 (hZ : ZRN (ztb (tb_X5_cut E d mc ms)) cut G R T Z) (f : Nat) (L : ZLV) (st : List Value) (σ : ZHp) (n k w : Nat) : Z (f + 1) 10 L st σ n k w = s_getf 4 1 13 L st σ n k w (zk1 cut G (Z f)) G R T := zrs hZ rfl f L st σ n k w
theorem f_X5_cut_13 (hZ : ZRN (ztb (tb_X5_cut E d mc ms)) cut G R T Z) (f : Nat) (L : ZLV) (st : List Value) (σ : ZHp) (n k w : Nat) : Z (f + 1) 13 L st σ n k w = s_iload 1 14 L st σ n k w (zk1 cut G (Z f)) G R T := zrs hZ rfl f L st σ n k w
theorem f_X5_cut_14 (hZ : ZRN (ztb (tb_X5_cut E d mc ms)) cut G R T Z) (f : Nat) (L : ZLV) (st : List Value) (σ : ZHp) (n k w : Nat) : Z (f + 1) 14 L st σ n k w = s_isub 15 L st σ n k w (zk1 cut G (Z f)) G R T := zrs hZ rfl f L st σ n k w
theorem f_X5_cut_15 (hZ : ZRN (ztb (tb_X5_cut E d mc ms)) cut G R T Z) (f : Nat) (L : ZLV) (st : List Value) (σ : ZHp) (n k w : Nat) : Z (f + 1) 15 L st σ n k w = s_icmp_gt 63 18 L st σ n k w (zk1 cut G (Z f)) G R T := zrs hZ rfl f L st σ n k w
theorem f_X5_cut_18 (hZ : ZRN (ztb (tb_X5_cut E d mc ms)) cut G R T Z) (f : Nat) (L : ZLV) (st : List Value) (σ : ZHp) (n k w : Nat) : Z (f + 1) 18 L st σ n k w = s_aload 0 19 L st σ n k w (zk1 cut G (Z f)) G R T := zrs hZ rfl f L st σ n k w
theorem f_X5_cut_19 (hZ : ZRN (ztb (tb_X5_cut E d mc ms)) cut G R T Z) (f : Nat) (L : ZLV) (st : List Value) (σ : ZHp) (n k w : Nat) : Z (f + 1) 19 L st σ n k w = s_getf 4 1 22 L st σ n k w (zk1 cut G (Z f)) G R T := zrs hZ rfl f L st σ n k w
theorem f_X5_cut_22 (hZ : ZRN (ztb (tb_X5_cut E d mc ms)) cut G R T Z) (f : Nat) (L : ZLV) (st : List Value) (σ : ZHp) (n k w : Nat) : Z (f + 1) 22 L st σ n k w = s_aload 0 23 L st σ n k w (zk1 cut G (Z f)) G R T := zrs hZ rfl f L st σ n k w
theorem f_X5_cut_23 (hZ : ZRN (ztb (tb_X5_cut E d mc ms)) cut G R T Z) (f : Nat) (L : ZLV) (st : List Value) (σ : ZHp) (n k w : Nat) : Z (f + 1) 23 L st σ n k w = s_getf 4 0 26 L st σ n k w (zk1 cut G (Z f)) G R T := zrs hZ rfl f L st σ n k w
theorem f_X5_cut_26 (hZ : ZRN (ztb (tb_X5_cut E d mc ms)) cut G R T Z) (f : Nat) (L : ZLV) (st : List Value) (σ : ZHp) (n k w : Nat) : Z (f + 1) 26 L st σ n k w = s_alen E 27 L st σ n k w (zk1 cut G (Z f)) G R T := zrs hZ rfl f L st σ n k w
theorem f_X5_cut_27 (hZ : ZRN (ztb (tb_X5_cut E d mc ms)) cut G R T Z) (f : Nat) (L : ZLV) (st : List Value) (σ : ZHp) (n k w : Nat) : Z (f + 1) 27 L st σ n k w = s_icmp_gt 63 30 L st σ n k w (zk1 cut G (Z f)) G R T := zrs hZ rfl f L st σ n k w
theorem f_X5_cut_30 (hZ : ZRN (ztb (tb_X5_cut E d mc ms)) cut G R T Z) (f : Nat) (L : ZLV) (st : List Value) (σ : ZHp) (n k w : Nat) : Z (f + 1) 30 L st σ n k w = s_aload 0 31 L st σ n k w (zk1 cut G (Z f)) G R T := zrs hZ rfl f L st σ n k w
theorem f_X5_cut_31 (hZ : ZRN (ztb (tb_X5_cut E d mc ms)) cut G R T Z) (f : Nat) (L : ZLV) (st : List Value) (σ : ZHp) (n k w : Nat) : Z (f + 1) 31 L st σ n k w = s_getf 4 0 34 L st σ n k w (zk1 cut G (Z f)) G R T := zrs hZ rfl f L st σ n k w
theorem f_X5_cut_34 (hZ : ZRN (ztb (tb_X5_cut E d mc ms)) cut G R T Z) (f : Nat) (L : ZLV) (st : List Value) (σ : ZHp) (n k w : Nat) : Z (f + 1) 34 L st σ n k w = s_iload 1 35 L st σ n k w (zk1 cut G (Z f)) G R T := zrs hZ rfl f L st σ n k w
theorem f_X5_cut_35 (hZ : ZRN (ztb (tb_X5_cut E d mc ms)) cut G R T Z) (f : Nat) (L : ZLV) (st : List Value) (σ : ZHp) (n k w : Nat) : Z (f + 1) 35 L st σ n k w = s_iload 2 36 L st σ n k w (zk1 cut G (Z f)) G R T := zrs hZ rfl f L st σ n k w
theorem f_X5_cut_36 (hZ : ZRN (ztb (tb_X5_cut E d mc ms)) cut G R T Z) (f : Nat) (L : ZLV) (st : List Value) (σ : ZHp) (n k w : Nat) : Z (f + 1) 36 L st σ n k w = s_iadd 37 L st σ n k w (zk1 cut G (Z f)) G R T := zrs hZ rfl f L st σ n k w
theorem f_X5_cut_37 (hZ : ZRN (ztb (tb_X5_cut E d mc ms)) cut G R T Z) (f : Nat) (L : ZLV) (st : List Value) (σ : ZHp) (n k w : Nat) : Z (f + 1) 37 L st σ n k w = s_aload 0 38 L st σ n k w (zk1 cut G (Z f)) G R T := zrs hZ rfl f L st σ n k w
theorem f_X5_cut_38 (hZ : ZRN (ztb (tb_X5_cut E d mc ms)) cut G R T Z) (f : Nat) (L : ZLV) (st : List Value) (σ : ZHp) (n k w : Nat) : Z (f + 1) 38 L st σ n k w = s_getf 4 0 41 L st σ n k w (zk1 cut G (Z f)) G R T := zrs hZ rfl f L st σ n k w
theorem f_X5_cut_41 (hZ : ZRN (ztb (tb_X5_cut E d mc ms)) cut G R T Z) (f : Nat) (L : ZLV) (st : List Value) (σ : ZHp) (n k w : Nat) : Z (f + 1) 41 L st σ n k w = s_iload 1 42 L st σ n k w (zk1 cut G (Z f)) G R T := zrs hZ rfl f L st σ n k w
theorem f_X5_cut_42 (hZ : ZRN (ztb (tb_X5_cut E d mc ms)) cut G R T Z) (f : Nat) (L : ZLV) (st : List Value) (σ : ZHp) (n k w : Nat) : Z (f + 1) 42 L st σ n k w = s_aload 0 43 L st σ n k w (zk1 cut G (Z f)) G R T := zrs hZ rfl f L st σ n k w
theorem f_X5_cut_43 (hZ : ZRN (ztb (tb_X5_cut E d mc ms)) cut G R T Z) (f : Nat) (L : ZLV) (st : List Value) (σ : ZHp) (n k w : Nat) : Z (f + 1) 43 L st σ n k w = s_getf 4 1 46 L st σ n k w (zk1 cut G (Z f)) G R T := zrs hZ rfl f L st σ n k w
theorem f_X5_cut_46 (hZ : ZRN (ztb (tb_X5_cut E d mc ms)) cut G R T Z) (f : Nat) (L : ZLV) (st : List Value) (σ : ZHp) (n k w : Nat) : Z (f + 1) 46 L st σ n k w = s_iload 1 47 L st σ n k w (zk1 cut G (Z f)) G R T := zrs hZ rfl f L st σ n k w
theorem f_X5_cut_47 (hZ : ZRN (ztb (tb_X5_cut E d mc ms)) cut G R T Z) (f : Nat) (L : ZLV) (st : List Value) (σ : ZHp) (n k w : Nat) : Z (f + 1) 47 L st σ n k w = s_isub 48 L st σ n k w (zk1 cut G (Z f)) G R T := zrs hZ rfl f L st σ n k w
theorem f_X5_cut_48 (hZ : ZRN (ztb (tb_X5_cut E d mc ms)) cut G R T Z) (f : Nat) (L : ZLV) (st : List Value) (σ : ZHp) (n k w : Nat) : Z (f + 1) 48 L st σ n k w = s_iload 2 49 L st σ n k w (zk1 cut G (Z f)) G R T := zrs hZ rfl f L st σ n k w
theorem f_X5_cut_49 (hZ : ZRN (ztb (tb_X5_cut E d mc ms)) cut G R T Z) (f : Nat) (L : ZLV) (st : List Value) (σ : ZHp) (n k w : Nat) : Z (f + 1) 49 L st σ n k w = s_isub 50 L st σ n k w (zk1 cut G (Z f)) G R T := zrs hZ rfl f L st σ n k w
theorem f_X5_cut_50 (hZ : ZRN (ztb (tb_X5_cut E d mc ms)) cut G R T Z) (f : Nat) (L : ZLV) (st : List Value) (σ : ZHp) (n k w : Nat) : Z (f + 1) 50 L st σ n k w = s_acopy E d 53 L st σ n k w (zk1 cut G (Z f)) G R T := zrs hZ rfl f L st σ n k w
theorem f_X5_cut_53 (hZ : ZRN (ztb (tb_X5_cut E d mc ms)) cut G R T Z) (f : Nat) (L : ZLV) (st : List Value) (σ : ZHp) (n k w : Nat) : Z (f + 1) 53 L st σ n k w = s_aload 0 54 L st σ n k w (zk1 cut G (Z f)) G R T := zrs hZ rfl f L st σ n k w
theorem f_X5_cut_54 (hZ : ZRN (ztb (tb_X5_cut E d mc ms)) cut G R T Z) (f : Nat) (L : ZLV) (st : List Value) (σ : ZHp) (n k w : Nat) : Z (f + 1) 54 L st σ n k w = s_dup 55 L st σ n k w (zk1 cut G (Z f)) G R T := zrs hZ rfl f L st σ n k w
theorem f_X5_cut_55 (hZ : ZRN (ztb (tb_X5_cut E d mc ms)) cut G R T Z) (f : Nat) (L : ZLV) (st : List Value) (σ : ZHp) (n k w : Nat) : Z (f + 1) 55 L st σ n k w = s_getf 4 1 58 L st σ n k w (zk1 cut G (Z f)) G R T := zrs hZ rfl f L st σ n k w
theorem f_X5_cut_58 (hZ : ZRN (ztb (tb_X5_cut E d mc ms)) cut G R T Z) (f : Nat) (L : ZLV) (st : List Value) (σ : ZHp) (n k w : Nat) : Z (f + 1) 58 L st σ n k w = s_iload 2 59 L st σ n k w (zk1 cut G (Z f)) G R T := zrs hZ rfl f L st σ n k w
theorem f_X5_cut_59 (hZ : ZRN (ztb (tb_X5_cut E d mc ms)) cut G R T Z) (f : Nat) (L : ZLV) (st : List Value) (σ : ZHp) (n k w : Nat) : Z (f + 1) 59 L st σ n k w = s_isub 60 L st σ n k w (zk1 cut G (Z f)) G R T := zrs hZ rfl f L st σ n k w
theorem f_X5_cut_60 (hZ : ZRN (ztb (tb_X5_cut E d mc ms)) cut G R T Z) (f : Nat) (L : ZLV) (st : List Value) (σ : ZHp) (n k w : Nat) : Z (f + 1) 60 L st σ n k w = s_putf 4 1 0 63 L st σ n k w (zk1 cut G (Z f)) G R T := zrs hZ rfl f L st σ n k w
theorem f_X5_cut_63 (hZ : ZRN (ztb (tb_X5_cut E d mc ms)) cut G R T Z) (f : Nat) (L : ZLV) (st : List Value) (σ : ZHp) (n k w : Nat) : Z (f + 1) 63 L st σ n k w = s_return L st σ n k w (zk1 cut G (Z f)) G R T := zrs hZ rfl f L st σ n k w
theorem f_X5_find_0 (hZ : ZRN (ztb (tb_X5_find E d mc ms)) cut G R T Z) (f : Nat) (L : ZLV) (st : List Value) (σ : ZHp) (n k w : Nat) : Z (f + 1) 0 L st σ n k w = s_iload 2 1 L st σ n k w (zk1 cut G (Z f)) G R T := zrs hZ rfl f L st σ n k w
theorem f_X5_find_1 (hZ : ZRN (ztb (tb_X5_find E d mc ms)) cut G R T Z) (f : Nat) (L : ZLV) (st : List Value) (σ : ZHp) (n k w : Nat) : Z (f + 1) 1 L st σ n k w = s_istore 3 2 L st σ n k w (zk1 cut G (Z f)) G R T := zrs hZ rfl f L st σ n k w
theorem f_X5_find_2 (hZ : ZRN (ztb (tb_X5_find E d mc ms)) cut G R T Z) (f : Nat) (L : ZLV) (st : List Value) (σ : ZHp) (n k w : Nat) : Z (f + 1) 2 L st σ n k w = s_iload 3 3 L st σ n k w (zk1 cut G (Z f)) G R T := zrs hZ rfl f L st σ n k w
theorem f_X5_find_3 (hZ : ZRN (ztb (tb_X5_find E d mc ms)) cut G R T Z) (f : Nat) (L : ZLV) (st : List Value) (σ : ZHp) (n k w : Nat) : Z (f + 1) 3 L st σ n k w = s_aload 0 4 L st σ n k w (zk1 cut G (Z f)) G R T := zrs hZ rfl f L st σ n k w
theorem f_X5_find_4 (hZ : ZRN (ztb (tb_X5_find E d mc ms)) cut G R T Z) (f : Nat) (L : ZLV) (st : List Value) (σ : ZHp) (n k w : Nat) : Z (f + 1) 4 L st σ n k w = s_getf 4 1 7 L st σ n k w (zk1 cut G (Z f)) G R T := zrs hZ rfl f L st σ n k w
theorem f_X5_find_7 (hZ : ZRN (ztb (tb_X5_find E d mc ms)) cut G R T Z) (f : Nat) (L : ZLV) (st : List Value) (σ : ZHp) (n k w : Nat) : Z (f + 1) 7 L st σ n k w = s_icmp_ge 27 10 L st σ n k w (zk1 cut G (Z f)) G R T := zrs hZ rfl f L st σ n k w
theorem f_X5_find_10 (hZ : ZRN (ztb (tb_X5_find E d mc ms)) cut G R T Z) (f : Nat) (L : ZLV) (st : List Value) (σ : ZHp) (n k w : Nat) : Z (f + 1) 10 L st σ n k w = s_aload 0 11 L st σ n k w (zk1 cut G (Z f)) G R T := zrs hZ rfl f L st σ n k w
theorem f_X5_find_11 (hZ : ZRN (ztb (tb_X5_find E d mc ms)) cut G R T Z) (f : Nat) (L : ZLV) (st : List Value) (σ : ZHp) (n k w : Nat) : Z (f + 1) 11 L st σ n k w = s_iload 3 12 L st σ n k w (zk1 cut G (Z f)) G R T := zrs hZ rfl f L st σ n k w
theorem f_X5_find_12 (hZ : ZRN (ztb (tb_X5_find E d mc ms)) cut G R T Z) (f : Nat) (L : ZLV) (st : List Value) (σ : ZHp) (n k w : Nat) : Z (f + 1) 12 L st σ n k w = s_callV E d mc ms 4 MX5_get 1 15 L st σ n k w (zk1 cut G (Z f)) G R T := zrs hZ rfl f L st σ n k w
theorem f_X5_find_15 (hZ : ZRN (ztb (tb_X5_find E d mc ms)) cut G R T Z) (f : Nat) (L : ZLV) (st : List Value) (σ : ZHp) (n k w : Nat) : Z (f + 1) 15 L st σ n k w = s_iload 1 16 L st σ n k w (zk1 cut G (Z f)) G R T := zrs hZ rfl f L st σ n k w
theorem f_X5_find_16 (hZ : ZRN (ztb (tb_X5_find E d mc ms)) cut G R T Z) (f : Nat) (L : ZLV) (st : List Value) (σ : ZHp) (n k w : Nat) : Z (f + 1) 16 L st σ n k w = s_icmp_ne 21 19 L st σ n k w (zk1 cut G (Z f)) G R T := zrs hZ rfl f L st σ n k w
theorem f_X5_find_19 (hZ : ZRN (ztb (tb_X5_find E d mc ms)) cut G R T Z) (f : Nat) (L : ZLV) (st : List Value) (σ : ZHp) (n k w : Nat) : Z (f + 1) 19 L st σ n k w = s_iload 3 20 L st σ n k w (zk1 cut G (Z f)) G R T := zrs hZ rfl f L st σ n k w
theorem f_X5_find_20 (hZ : ZRN (ztb (tb_X5_find E d mc ms)) cut G R T Z) (f : Nat) (L : ZLV) (st : List Value) (σ : ZHp) (n k w : Nat) : Z (f + 1) 20 L st σ n k w = s_ireturn L st σ n k w (zk1 cut G (Z f)) G R T := zrs hZ rfl f L st σ n k w
theorem f_X5_find_21 (hZ : ZRN (ztb (tb_X5_find E d mc ms)) cut G R T Z) (f : Nat) (L : ZLV) (st : List Value) (σ : ZHp) (n k w : Nat) : Z (f + 1) 21 L st σ n k w = s_iinc 3 (1) 24 L st σ n k w (zk1 cut G (Z f)) G R T := zrs hZ rfl f L st σ n k w
theorem f_X5_find_24 (hZ : ZRN (ztb (tb_X5_find E d mc ms)) cut G R T Z) (f : Nat) (L : ZLV) (st : List Value) (σ : ZHp) (n k w : Nat) : Z (f + 1) 24 L st σ n k w = s_goto 2 L st σ n k w (zk1 cut G (Z f)) G R T := zrs hZ rfl f L st σ n k w
theorem f_X5_find_27 (hZ : ZRN (ztb (tb_X5_find E d mc ms)) cut G R T Z) (f : Nat) (L : ZLV) (st : List Value) (σ : ZHp) (n k w : Nat) : Z (f + 1) 27 L st σ n k w = s_const (.int (-1)) 28 L st σ n k w (zk1 cut G (Z f)) G R T := zrs hZ rfl f L st σ n k w
theorem f_X5_find_28 (hZ : ZRN (ztb (tb_X5_find E d mc ms)) cut G R T Z) (f : Nat) (L : ZLV) (st : List Value) (σ : ZHp) (n k w : Nat) : Z (f + 1) 28 L st σ n k w = s_ireturn L st σ n k w (zk1 cut G (Z f)) G R T := zrs hZ rfl f L st σ n k w
theorem f_X5_sum_0 (hZ : ZRN (ztb (tb_X5_sum E d mc ms)) cut G R T Z) (f : Nat) (L : ZLV) (st : List Value) (σ : ZHp) (n k w : Nat) : Z (f + 1) 0 L st σ n k w = s_const (.int (0)) 1 L st σ n k w (zk1 cut G (Z f)) G R T := zrs hZ rfl f L st σ n k w
theorem f_X5_sum_1 (hZ : ZRN (ztb (tb_X5_sum E d mc ms)) cut G R T Z) (f : Nat) (L : ZLV) (st : List Value) (σ : ZHp) (n k w : Nat) : Z (f + 1) 1 L st σ n k w = s_istore 1 2 L st σ n k w (zk1 cut G (Z f)) G R T := zrs hZ rfl f L st σ n k w
theorem f_X5_sum_2 (hZ : ZRN (ztb (tb_X5_sum E d mc ms)) cut G R T Z) (f : Nat) (L : ZLV) (st : List Value) (σ : ZHp) (n k w : Nat) : Z (f + 1) 2 L st σ n k w = s_aload 0 3 L st σ n k w (zk1 cut G (Z f)) G R T := zrs hZ rfl f L st σ n k w
theorem f_X5_sum_3 (hZ : ZRN (ztb (tb_X5_sum E d mc ms)) cut G R T Z) (f : Nat) (L : ZLV) (st : List Value) (σ : ZHp) (n k w : Nat) : Z (f + 1) 3 L st σ n k w = s_getf 4 0 6 L st σ n k w (zk1 cut G (Z f)) G R T := zrs hZ rfl f L st σ n k w
theorem f_X5_sum_6 (hZ : ZRN (ztb (tb_X5_sum E d mc ms)) cut G R T Z) (f : Nat) (L : ZLV) (st : List Value) (σ : ZHp) (n k w : Nat) : Z (f + 1) 6 L st σ n k w = s_astore 2 7 L st σ n k w (zk1 cut G (Z f)) G R T := zrs hZ rfl f L st σ n k w
theorem f_X5_sum_7 (hZ : ZRN (ztb (tb_X5_sum E d mc ms)) cut G R T Z) (f : Nat) (L : ZLV) (st : List Value) (σ : ZHp) (n k w : Nat) : Z (f + 1) 7 L st σ n k w = s_aload 2 8 L st σ n k w (zk1 cut G (Z f)) G R T := zrs hZ rfl f L st σ n k w
theorem f_X5_sum_8 (hZ : ZRN (ztb (tb_X5_sum E d mc ms)) cut G R T Z) (f : Nat) (L : ZLV) (st : List Value) (σ : ZHp) (n k w : Nat) : Z (f + 1) 8 L st σ n k w = s_alen E 9 L st σ n k w (zk1 cut G (Z f)) G R T := zrs hZ rfl f L st σ n k w
theorem f_X5_sum_9 (hZ : ZRN (ztb (tb_X5_sum E d mc ms)) cut G R T Z) (f : Nat) (L : ZLV) (st : List Value) (σ : ZHp) (n k w : Nat) : Z (f + 1) 9 L st σ n k w = s_istore 3 10 L st σ n k w (zk1 cut G (Z f)) G R T := zrs hZ rfl f L st σ n k w
theorem f_X5_sum_10 (hZ : ZRN (ztb (tb_X5_sum E d mc ms)) cut G R T Z) (f : Nat) (L : ZLV) (st : List Value) (σ : ZHp) (n k w : Nat) : Z (f + 1) 10 L st σ n k w = s_const (.int (0)) 11 L st σ n k w (zk1 cut G (Z f)) G R T := zrs hZ rfl f L st σ n k w
theorem f_X5_sum_11 (hZ : ZRN (ztb (tb_X5_sum E d mc ms)) cut G R T Z) (f : Nat) (L : ZLV) (st : List Value) (σ : ZHp) (n k w : Nat) : Z (f + 1) 11 L st σ n k w = s_istore 4 13 L st σ n k w (zk1 cut G (Z f)) G R T := zrs hZ rfl f L st σ n k w
theorem f_X5_sum_13 (hZ : ZRN (ztb (tb_X5_sum E d mc ms)) cut G R T Z) (f : Nat) (L : ZLV) (st : List Value) (σ : ZHp) (n k w : Nat) : Z (f + 1) 13 L st σ n k w = s_iload 4 15 L st σ n k w (zk1 cut G (Z f)) G R T := zrs hZ rfl f L st σ n k w
theorem f_X5_sum_15 (hZ : ZRN (ztb (tb_X5_sum E d mc ms)) cut G R T Z) (f : Nat) (L : ZLV) (st : List Value) (σ : ZHp) (n k w : Nat) : Z (f + 1) 15 L st σ n k w = s_iload 3 16 L st σ n k w (zk1 cut G (Z f)) G R T := zrs hZ rfl f L st σ n k w
theorem f_X5_sum_16 (hZ : ZRN (ztb (tb_X5_sum E d mc ms)) cut G R T Z) (f : Nat) (L : ZLV) (st : List Value) (σ : ZHp) (n k w : Nat) : Z (f + 1) 16 L st σ n k w = s_icmp_ge 36 19 L st σ n k w (zk1 cut G (Z f)) G R T := zrs hZ rfl f L st σ n k w
theorem f_X5_sum_19 (hZ : ZRN (ztb (tb_X5_sum E d mc ms)) cut G R T Z) (f : Nat) (L : ZLV) (st : List Value) (σ : ZHp) (n k w : Nat) : Z (f + 1) 19 L st σ n k w = s_aload 2 20 L st σ n k w (zk1 cut G (Z f)) G R T := zrs hZ rfl f L st σ n k w
theorem f_X5_sum_20 (hZ : ZRN (ztb (tb_X5_sum E d mc ms)) cut G R T Z) (f : Nat) (L : ZLV) (st : List Value) (σ : ZHp) (n k w : Nat) : Z (f + 1) 20 L st σ n k w = s_iload 4 22 L st σ n k w (zk1 cut G (Z f)) G R T := zrs hZ rfl f L st σ n k w
theorem f_X5_sum_22 (hZ : ZRN (ztb (tb_X5_sum E d mc ms)) cut G R T Z) (f : Nat) (L : ZLV) (st : List Value) (σ : ZHp) (n k w : Nat) : Z (f + 1) 22 L st σ n k w = s_iaload E 23 L st σ n k w (zk1 cut G (Z f)) G R T := zrs hZ rfl f L st σ n k w
theorem f_X5_sum_23 (hZ : ZRN (ztb (tb_X5_sum E d mc ms)) cut G R T Z) (f : Nat) (L : ZLV) (st : List Value) (σ : ZHp) (n k w : Nat) : Z (f + 1) 23 L st σ n k w = s_istore 5 25 L st σ n k w (zk1 cut G (Z f)) G R T := zrs hZ rfl f L st σ n k w
theorem f_X5_sum_25 (hZ : ZRN (ztb (tb_X5_sum E d mc ms)) cut G R T Z) (f : Nat) (L : ZLV) (st : List Value) (σ : ZHp) (n k w : Nat) : Z (f + 1) 25 L st σ n k w = s_iload 1 26 L st σ n k w (zk1 cut G (Z f)) G R T := zrs hZ rfl f L st σ n k w
theorem f_X5_sum_26 (hZ : ZRN (ztb (tb_X5_sum E d mc ms)) cut G R T Z) (f : Nat) (L : ZLV) (st : List Value) (σ : ZHp) (n k w : Nat) : Z (f + 1) 26 L st σ n k w = s_iload 5 28 L st σ n k w (zk1 cut G (Z f)) G R T := zrs hZ rfl f L st σ n k w
theorem f_X5_sum_28 (hZ : ZRN (ztb (tb_X5_sum E d mc ms)) cut G R T Z) (f : Nat) (L : ZLV) (st : List Value) (σ : ZHp) (n k w : Nat) : Z (f + 1) 28 L st σ n k w = s_iadd 29 L st σ n k w (zk1 cut G (Z f)) G R T := zrs hZ rfl f L st σ n k w
theorem f_X5_sum_29 (hZ : ZRN (ztb (tb_X5_sum E d mc ms)) cut G R T Z) (f : Nat) (L : ZLV) (st : List Value) (σ : ZHp) (n k w : Nat) : Z (f + 1) 29 L st σ n k w = s_istore 1 30 L st σ n k w (zk1 cut G (Z f)) G R T := zrs hZ rfl f L st σ n k w
theorem f_X5_sum_30 (hZ : ZRN (ztb (tb_X5_sum E d mc ms)) cut G R T Z) (f : Nat) (L : ZLV) (st : List Value) (σ : ZHp) (n k w : Nat) : Z (f + 1) 30 L st σ n k w = s_iinc 4 (1) 33 L st σ n k w (zk1 cut G (Z f)) G R T := zrs hZ rfl f L st σ n k w
theorem f_X5_sum_33 (hZ : ZRN (ztb (tb_X5_sum E d mc ms)) cut G R T Z) (f : Nat) (L : ZLV) (st : List Value) (σ : ZHp) (n k w : Nat) : Z (f + 1) 33 L st σ n k w = s_goto 13 L st σ n k w (zk1 cut G (Z f)) G R T := zrs hZ rfl f L st σ n k w
theorem f_X5_sum_36 (hZ : ZRN (ztb (tb_X5_sum E d mc ms)) cut G R T Z) (f : Nat) (L : ZLV) (st : List Value) (σ : ZHp) (n k w : Nat) : Z (f + 1) 36 L st σ n k w = s_iload 1 37 L st σ n k w (zk1 cut G (Z f)) G R T := zrs hZ rfl f L st σ n k w
theorem f_X5_sum_37 (hZ : ZRN (ztb (tb_X5_sum E d mc ms)) cut G R T Z) (f : Nat) (L : ZLV) (st : List Value) (σ : ZHp) (n k w : Nat) : Z (f + 1) 37 L st σ n k w = s_ireturn L st σ n k w (zk1 cut G (Z f)) G R T := zrs hZ rfl f L st σ n k w
theorem f_X5_clear_0 (hZ : ZRN (ztb (tb_X5_clear E d mc ms)) cut G R T Z) (f : Nat) (L : ZLV) (st : List Value) (σ : ZHp) (n k w : Nat) : Z (f + 1) 0 L st σ n k w = s_aload 0 1 L st σ n k w (zk1 cut G (Z f)) G R T := zrs hZ rfl f L st σ n k w
theorem f_X5_clear_1 (hZ : ZRN (ztb (tb_X5_clear E d mc ms)) cut G R T Z) (f : Nat) (L : ZLV) (st : List Value) (σ : ZHp) (n k w : Nat) : Z (f + 1) 1 L st σ n k w = s_getf 4 0 4 L st σ n k w (zk1 cut G (Z f)) G R T := zrs hZ rfl f L st σ n k w
theorem f_X5_clear_4 (hZ : ZRN (ztb (tb_X5_clear E d mc ms)) cut G R T Z) (f : Nat) (L : ZLV) (st : List Value) (σ : ZHp) (n k w : Nat) : Z (f + 1) 4 L st σ n k w = s_const (.int (0)) 5 L st σ n k w (zk1 cut G (Z f)) G R T := zrs hZ rfl f L st σ n k w
theorem f_X5_clear_5 (hZ : ZRN (ztb (tb_X5_clear E d mc ms)) cut G R T Z) (f : Nat) (L : ZLV) (st : List Value) (σ : ZHp) (n k w : Nat) : Z (f + 1) 5 L st σ n k w = s_callS E d mc ms MJ7_fill_53178 2 8 L st σ n k w (zk1 cut G (Z f)) G R T := zrs hZ rfl f L st σ n k w
theorem f_X5_clear_8 (hZ : ZRN (ztb (tb_X5_clear E d mc ms)) cut G R T Z) (f : Nat) (L : ZLV) (st : List Value) (σ : ZHp) (n k w : Nat) : Z (f + 1) 8 L st σ n k w = s_aload 0 9 L st σ n k w (zk1 cut G (Z f)) G R T := zrs hZ rfl f L st σ n k w
theorem f_X5_clear_9 (hZ : ZRN (ztb (tb_X5_clear E d mc ms)) cut G R T Z) (f : Nat) (L : ZLV) (st : List Value) (σ : ZHp) (n k w : Nat) : Z (f + 1) 9 L st σ n k w = s_const (.int (0)) 10 L st σ n k w (zk1 cut G (Z f)) G R T := zrs hZ rfl f L st σ n k w
theorem f_X5_clear_10 (hZ : ZRN (ztb (tb_X5_clear E d mc ms)) cut G R T Z) (f : Nat) (L : ZLV) (st : List Value) (σ : ZHp) (n k w : Nat) : Z (f + 1) 10 L st σ n k w = s_putf 4 1 0 13 L st σ n k w (zk1 cut G (Z f)) G R T := zrs hZ rfl f L st σ n k w
theorem f_X5_clear_13 (hZ : ZRN (ztb (tb_X5_clear E d mc ms)) cut G R T Z) (f : Nat) (L : ZLV) (st : List Value) (σ : ZHp) (n k w : Nat) : Z (f + 1) 13 L st σ n k w = s_return L st σ n k w (zk1 cut G (Z f)) G R T := zrs hZ rfl f L st σ n k w
theorem f_X5_copy_0 (hZ : ZRN (ztb (tb_X5_copy E d mc ms)) cut G R T Z) (f : Nat) (L : ZLV) (st : List Value) (σ : ZHp) (n k w : Nat) : Z (f + 1) 0 L st σ n k w = s_aload 1 1 L st σ n k w (zk1 cut G (Z f)) G R T := zrs hZ rfl f L st σ n k w
theorem f_X5_copy_1 (hZ : ZRN (ztb (tb_X5_copy E d mc ms)) cut G R T Z) (f : Nat) (L : ZLV) (st : List Value) (σ : ZHp) (n k w : Nat) : Z (f + 1) 1 L st σ n k w = s_getf 4 0 4 L st σ n k w (zk1 cut G (Z f)) G R T := zrs hZ rfl f L st σ n k w
theorem f_X5_copy_4 (hZ : ZRN (ztb (tb_X5_copy E d mc ms)) cut G R T Z) (f : Nat) (L : ZLV) (st : List Value) (σ : ZHp) (n k w : Nat) : Z (f + 1) 4 L st σ n k w = s_alen E 5 L st σ n k w (zk1 cut G (Z f)) G R T := zrs hZ rfl f L st σ n k w
theorem f_X5_copy_5 (hZ : ZRN (ztb (tb_X5_copy E d mc ms)) cut G R T Z) (f : Nat) (L : ZLV) (st : List Value) (σ : ZHp) (n k w : Nat) : Z (f + 1) 5 L st σ n k w = s_aload 0 6 L st σ n k w (zk1 cut G (Z f)) G R T := zrs hZ rfl f L st σ n k w
theorem f_X5_copy_6 (hZ : ZRN (ztb (tb_X5_copy E d mc ms)) cut G R T Z) (f : Nat) (L : ZLV) (st : List Value) (σ : ZHp) (n k w : Nat) : Z (f + 1) 6 L st σ n k w = s_getf 4 0 9 L st σ n k w (zk1 cut G (Z f)) G R T := zrs hZ rfl f L st σ n k w
theorem f_X5_copy_9 (hZ : ZRN (ztb (tb_X5_copy E d mc ms)) cut G R T Z) (f : Nat) (L : ZLV) (st : List Value) (σ : ZHp) (n k w : Nat) : Z (f + 1) 9 L st σ n k w = s_alen E 10 L st σ n k w (zk1 cut G (Z f)) G R T := zrs hZ rfl f L st σ n k w
theorem f_X5_copy_10 (hZ : ZRN (ztb (tb_X5_copy E d mc ms)) cut G R T Z) (f : Nat) (L : ZLV) (st : List Value) (σ : ZHp) (n k w : Nat) : Z (f + 1) 10 L st σ n k w = s_icmp_ne 39 13 L st σ n k w (zk1 cut G (Z f)) G R T := zrs hZ rfl f L st σ n k w
theorem f_X5_copy_13 (hZ : ZRN (ztb (tb_X5_copy E d mc ms)) cut G R T Z) (f : Nat) (L : ZLV) (st : List Value) (σ : ZHp) (n k w : Nat) : Z (f + 1) 13 L st σ n k w = s_aload 1 14 L st σ n k w (zk1 cut G (Z f)) G R T := zrs hZ rfl f L st σ n k w
theorem f_X5_copy_14 (hZ : ZRN (ztb (tb_X5_copy E d mc ms)) cut G R T Z) (f : Nat) (L : ZLV) (st : List Value) (σ : ZHp) (n k w : Nat) : Z (f + 1) 14 L st σ n k w = s_getf 4 0 17 L st σ n k w (zk1 cut G (Z f)) G R T := zrs hZ rfl f L st σ n k w
theorem f_X5_copy_17 (hZ : ZRN (ztb (tb_X5_copy E d mc ms)) cut G R T Z) (f : Nat) (L : ZLV) (st : List Value) (σ : ZHp) (n k w : Nat) : Z (f + 1) 17 L st σ n k w = s_const (.int (0)) 18 L st σ n k w (zk1 cut G (Z f)) G R T := zrs hZ rfl f L st σ n k w
theorem f_X5_copy_18 (hZ : ZRN (ztb (tb_X5_copy E d mc ms)) cut G R T Z) (f : Nat) (L : ZLV) (st : List Value) (σ : ZHp) (n k w : Nat) : Z (f + 1) 18 L st σ n k w = s_aload 0 19 L st σ n k w (zk1 cut G (Z f)) G R T := zrs hZ rfl f L st σ n k w
theorem f_X5_copy_19 (hZ : ZRN (ztb (tb_X5_copy E d mc ms)) cut G R T Z) (f : Nat) (L : ZLV) (st : List Value) (σ : ZHp) (n k w : Nat) : Z (f + 1) 19 L st σ n k w = s_getf 4 0 22 L st σ n k w (zk1 cut G (Z f)) G R T := zrs hZ rfl f L st σ n k w
theorem f_X5_copy_22 (hZ : ZRN (ztb (tb_X5_copy E d mc ms)) cut G R T Z) (f : Nat) (L : ZLV) (st : List Value) (σ : ZHp) (n k w : Nat) : Z (f + 1) 22 L st σ n k w = s_const (.int (0)) 23 L st σ n k w (zk1 cut G (Z f)) G R T := zrs hZ rfl f L st σ n k w
theorem f_X5_copy_23 (hZ : ZRN (ztb (tb_X5_copy E d mc ms)) cut G R T Z) (f : Nat) (L : ZLV) (st : List Value) (σ : ZHp) (n k w : Nat) : Z (f + 1) 23 L st σ n k w = s_aload 0 24 L st σ n k w (zk1 cut G (Z f)) G R T := zrs hZ rfl f L st σ n k w
theorem f_X5_copy_24 (hZ : ZRN (ztb (tb_X5_copy E d mc ms)) cut G R T Z) (f : Nat) (L : ZLV) (st : List Value) (σ : ZHp) (n k w : Nat) : Z (f + 1) 24 L st σ n k w = s_getf 4 0 27 L st σ n k w (zk1 cut G (Z f)) G R T := zrs hZ rfl f L st σ n k w
theorem f_X5_copy_27 (hZ : ZRN (ztb (tb_X5_copy E d mc ms)) cut G R T Z) (f : Nat) (L : ZLV) (st : List Value) (σ : ZHp) (n k w : Nat) : Z (f + 1) 27 L st σ n k w = s_alen E 28 L st σ n k w (zk1 cut G (Z f)) G R T := zrs hZ rfl f L st σ n k w
theorem f_X5_copy_28 (hZ : ZRN (ztb (tb_X5_copy E d mc ms)) cut G R T Z) (f : Nat) (L : ZLV) (st : List Value) (σ : ZHp) (n k w : Nat) : Z (f + 1) 28 L st σ n k w = s_acopy E d 31 L st σ n k w (zk1 cut G (Z f)) G R T := zrs hZ rfl f L st σ n k w
theorem f_X5_copy_31 (hZ : ZRN (ztb (tb_X5_copy E d mc ms)) cut G R T Z) (f : Nat) (L : ZLV) (st : List Value) (σ : ZHp) (n k w : Nat) : Z (f + 1) 31 L st σ n k w = s_aload 0 32 L st σ n k w (zk1 cut G (Z f)) G R T := zrs hZ rfl f L st σ n k w
theorem f_X5_copy_32 (hZ : ZRN (ztb (tb_X5_copy E d mc ms)) cut G R T Z) (f : Nat) (L : ZLV) (st : List Value) (σ : ZHp) (n k w : Nat) : Z (f + 1) 32 L st σ n k w = s_aload 1 33 L st σ n k w (zk1 cut G (Z f)) G R T := zrs hZ rfl f L st σ n k w
theorem f_X5_copy_33 (hZ : ZRN (ztb (tb_X5_copy E d mc ms)) cut G R T Z) (f : Nat) (L : ZLV) (st : List Value) (σ : ZHp) (n k w : Nat) : Z (f + 1) 33 L st σ n k w = s_getf 4 1 36 L st σ n k w (zk1 cut G (Z f)) G R T := zrs hZ rfl f L st σ n k w
theorem f_X5_copy_36 (hZ : ZRN (ztb (tb_X5_copy E d mc ms)) cut G R T Z) (f : Nat) (L : ZLV) (st : List Value) (σ : ZHp) (n k w : Nat) : Z (f + 1) 36 L st σ n k w = s_putf 4 1 0 39 L st σ n k w (zk1 cut G (Z f)) G R T := zrs hZ rfl f L st σ n k w
theorem f_X5_copy_39 (hZ : ZRN (ztb (tb_X5_copy E d mc ms)) cut G R T Z) (f : Nat) (L : ZLV) (st : List Value) (σ : ZHp) (n k w : Nat) : Z (f + 1) 39 L st σ n k w = s_return L st σ n k w (zk1 cut G (Z f)) G R T := zrs hZ rfl f L st σ n k w
theorem f_X9_init_0 (hZ : ZRN (ztb (tb_X9_init E d mc ms)) cut G R T Z) (f : Nat) (L : ZLV) (st : List Value) (σ : ZHp) (n k w : Nat) : Z (f + 1) 0 L st σ n k w = s_aload 0 1 L st σ n k w (zk1 cut G (Z f)) G R T := zrs hZ rfl f L st σ n k w
theorem f_X9_init_1 (hZ : ZRN (ztb (tb_X9_init E d mc ms)) cut G R T Z) (f : Nat) (L : ZLV) (st : List Value) (σ : ZHp) (n k w : Nat) : Z (f + 1) 1 L st σ n k w = s_objinit d 4 L st σ n k w (zk1 cut G (Z f)) G R T := zrs hZ rfl f L st σ n k w
theorem f_X9_init_4 (hZ : ZRN (ztb (tb_X9_init E d mc ms)) cut G R T Z) (f : Nat) (L : ZLV) (st : List Value) (σ : ZHp) (n k w : Nat) : Z (f + 1) 4 L st σ n k w = s_aload 0 5 L st σ n k w (zk1 cut G (Z f)) G R T := zrs hZ rfl f L st σ n k w
theorem f_X9_init_5 (hZ : ZRN (ztb (tb_X9_init E d mc ms)) cut G R T Z) (f : Nat) (L : ZLV) (st : List Value) (σ : ZHp) (n k w : Nat) : Z (f + 1) 5 L st σ n k w = s_const (.int (2000)) 8 L st σ n k w (zk1 cut G (Z f)) G R T := zrs hZ rfl f L st σ n k w
theorem f_X9_init_8 (hZ : ZRN (ztb (tb_X9_init E d mc ms)) cut G R T Z) (f : Nat) (L : ZLV) (st : List Value) (σ : ZHp) (n k w : Nat) : Z (f + 1) 8 L st σ n k w = s_newB E mc ms 10 L st σ n k w (zk1 cut G (Z f)) G R T := zrs hZ rfl f L st σ n k w
theorem f_X9_init_10 (hZ : ZRN (ztb (tb_X9_init E d mc ms)) cut G R T Z) (f : Nat) (L : ZLV) (st : List Value) (σ : ZHp) (n k w : Nat) : Z (f + 1) 10 L st σ n k w = s_putf 8 0 3 13 L st σ n k w (zk1 cut G (Z f)) G R T := zrs hZ rfl f L st σ n k w
theorem f_X9_init_13 (hZ : ZRN (ztb (tb_X9_init E d mc ms)) cut G R T Z) (f : Nat) (L : ZLV) (st : List Value) (σ : ZHp) (n k w : Nat) : Z (f + 1) 13 L st σ n k w = s_aload 0 14 L st σ n k w (zk1 cut G (Z f)) G R T := zrs hZ rfl f L st σ n k w
theorem f_X9_init_14 (hZ : ZRN (ztb (tb_X9_init E d mc ms)) cut G R T Z) (f : Nat) (L : ZLV) (st : List Value) (σ : ZHp) (n k w : Nat) : Z (f + 1) 14 L st σ n k w = s_const (.int (0)) 15 L st σ n k w (zk1 cut G (Z f)) G R T := zrs hZ rfl f L st σ n k w
theorem f_X9_init_15 (hZ : ZRN (ztb (tb_X9_init E d mc ms)) cut G R T Z) (f : Nat) (L : ZLV) (st : List Value) (σ : ZHp) (n k w : Nat) : Z (f + 1) 15 L st σ n k w = s_putf 8 1 0 18 L st σ n k w (zk1 cut G (Z f)) G R T := zrs hZ rfl f L st σ n k w
theorem f_X9_init_18 (hZ : ZRN (ztb (tb_X9_init E d mc ms)) cut G R T Z) (f : Nat) (L : ZLV) (st : List Value) (σ : ZHp) (n k w : Nat) : Z (f + 1) 18 L st σ n k w = s_return L st σ n k w (zk1 cut G (Z f)) G R T := zrs hZ rfl f L st σ n k w
theorem f_X9_length_0 (hZ : ZRN (ztb (tb_X9_length E d mc ms)) cut G R T Z) (f : Nat) (L : ZLV) (st : List Value) (σ : ZHp) (n k w : Nat) : Z (f + 1) 0 L st σ n k w = s_aload 0 1 L st σ n k w (zk1 cut G (Z f)) G R T := zrs hZ rfl f L st σ n k w
theorem f_X9_length_1 (hZ : ZRN (ztb (tb_X9_length E d mc ms)) cut G R T Z) (f : Nat) (L : ZLV) (st : List Value) (σ : ZHp) (n k w : Nat) : Z (f + 1) 1 L st σ n k w = s_getf 8 1 4 L st σ n k w (zk1 cut G (Z f)) G R T := zrs hZ rfl f L st σ n k w
theorem f_X9_length_4 (hZ : ZRN (ztb (tb_X9_length E d mc ms)) cut G R T Z) (f : Nat) (L : ZLV) (st : List Value) (σ : ZHp) (n k w : Nat) : Z (f + 1) 4 L st σ n k w = s_ireturn L st σ n k w (zk1 cut G (Z f)) G R T := zrs hZ rfl f L st σ n k w
theorem f_X9_at_0 (hZ : ZRN (ztb (tb_X9_at E d mc ms)) cut G R T Z) (f : Nat) (L : ZLV) (st : List Value) (σ : ZHp) (n k w : Nat) : Z (f + 1) 0 L st σ n k w = s_iload 1 1 L st σ n k w (zk1 cut G (Z f)) G R T := zrs hZ rfl f L st σ n k w
theorem f_X9_at_1 (hZ : ZRN (ztb (tb_X9_at E d mc ms)) cut G R T Z) (f : Nat) (L : ZLV) (st : List Value) (σ : ZHp) (n k w : Nat) : Z (f + 1) 1 L st σ n k w = s_if_lt 30 4 L st σ n k w (zk1 cut G (Z f)) G R T := zrs hZ rfl f L st σ n k w
theorem f_X9_at_4 (hZ : ZRN (ztb (tb_X9_at E d mc ms)) cut G R T Z) (f : Nat) (L : ZLV) (st : List Value) (σ : ZHp) (n k w : Nat) : Z (f + 1) 4 L st σ n k w = s_iload 1 5 L st σ n k w (zk1 cut G (Z f)) G R T := zrs hZ rfl f L st σ n k w
theorem f_X9_at_5 (hZ : ZRN (ztb (tb_X9_at E d mc ms)) cut G R T Z) (f : Nat) (L : ZLV) (st : List Value) (σ : ZHp) (n k w : Nat) : Z (f + 1) 5 L st σ n k w = s_aload 0 6 L st σ n k w (zk1 cut G (Z f)) G R T := zrs hZ rfl f L st σ n k w
theorem f_X9_at_6 (hZ : ZRN (ztb (tb_X9_at E d mc ms)) cut G R T Z) (f : Nat) (L : ZLV) (st : List Value) (σ : ZHp) (n k w : Nat) : Z (f + 1) 6 L st σ n k w = s_getf 8 1 9 L st σ n k w (zk1 cut G (Z f)) G R T := zrs hZ rfl f L st σ n k w
theorem f_X9_at_9 (hZ : ZRN (ztb (tb_X9_at E d mc ms)) cut G R T Z) (f : Nat) (L : ZLV) (st : List Value) (σ : ZHp) (n k w : Nat) : Z (f + 1) 9 L st σ n k w = s_icmp_ge 30 12 L st σ n k w (zk1 cut G (Z f)) G R T := zrs hZ rfl f L st σ n k w
theorem f_X9_at_12 (hZ : ZRN (ztb (tb_X9_at E d mc ms)) cut G R T Z) (f : Nat) (L : ZLV) (st : List Value) (σ : ZHp) (n k w : Nat) : Z (f + 1) 12 L st σ n k w = s_iload 1 13 L st σ n k w (zk1 cut G (Z f)) G R T := zrs hZ rfl f L st σ n k w
theorem f_X9_at_13 (hZ : ZRN (ztb (tb_X9_at E d mc ms)) cut G R T Z) (f : Nat) (L : ZLV) (st : List Value) (σ : ZHp) (n k w : Nat) : Z (f + 1) 13 L st σ n k w = s_aload 0 14 L st σ n k w (zk1 cut G (Z f)) G R T := zrs hZ rfl f L st σ n k w
theorem f_X9_at_14 (hZ : ZRN (ztb (tb_X9_at E d mc ms)) cut G R T Z) (f : Nat) (L : ZLV) (st : List Value) (σ : ZHp) (n k w : Nat) : Z (f + 1) 14 L st σ n k w = s_getf 8 0 17 L st σ n k w (zk1 cut G (Z f)) G R T := zrs hZ rfl f L st σ n k w
theorem f_X9_at_17 (hZ : ZRN (ztb (tb_X9_at E d mc ms)) cut G R T Z) (f : Nat) (L : ZLV) (st : List Value) (σ : ZHp) (n k w : Nat) : Z (f + 1) 17 L st σ n k w = s_alen E 18 L st σ n k w (zk1 cut G (Z f)) G R T := zrs hZ rfl f L st σ n k w
theorem f_X9_at_18 (hZ : ZRN (ztb (tb_X9_at E d mc ms)) cut G R T Z) (f : Nat) (L : ZLV) (st : List Value) (σ : ZHp) (n k w : Nat) : Z (f + 1) 18 L st σ n k w = s_icmp_ge 30 21 L st σ n k w (zk1 cut G (Z f)) G R T := zrs hZ rfl f L st σ n k w
theorem f_X9_at_21 (hZ : ZRN (ztb (tb_X9_at E d mc ms)) cut G R T Z) (f : Nat) (L : ZLV) (st : List Value) (σ : ZHp) (n k w : Nat) : Z (f + 1) 21 L st σ n k w = s_aload 0 22 L st σ n k w (zk1 cut G (Z f)) G R T := zrs hZ rfl f L st σ n k w
theorem f_X9_at_22 (hZ : ZRN (ztb (tb_X9_at E d mc ms)) cut G R T Z) (f : Nat) (L : ZLV) (st : List Value) (σ : ZHp) (n k w : Nat) : Z (f + 1) 22 L st σ n k w = s_getf 8 0 25 L st σ n k w (zk1 cut G (Z f)) G R T := zrs hZ rfl f L st σ n k w
theorem f_X9_at_25 (hZ : ZRN (ztb (tb_X9_at E d mc ms)) cut G R T Z) (f : Nat) (L : ZLV) (st : List Value) (σ : ZHp) (n k w : Nat) : Z (f + 1) 25 L st σ n k w = s_iload 1 26 L st σ n k w (zk1 cut G (Z f)) G R T := zrs hZ rfl f L st σ n k w
theorem f_X9_at_26 (hZ : ZRN (ztb (tb_X9_at E d mc ms)) cut G R T Z) (f : Nat) (L : ZLV) (st : List Value) (σ : ZHp) (n k w : Nat) : Z (f + 1) 26 L st σ n k w = s_baload E 27 L st σ n k w (zk1 cut G (Z f)) G R T := zrs hZ rfl f L st σ n k w
theorem f_X9_at_27 (hZ : ZRN (ztb (tb_X9_at E d mc ms)) cut G R T Z) (f : Nat) (L : ZLV) (st : List Value) (σ : ZHp) (n k w : Nat) : Z (f + 1) 27 L st σ n k w = s_goto 31 L st σ n k w (zk1 cut G (Z f)) G R T := zrs hZ rfl f L st σ n k w
theorem f_X9_at_30 (hZ : ZRN (ztb (tb_X9_at E d mc ms)) cut G R T Z) (f : Nat) (L : ZLV) (st : List Value) (σ : ZHp) (n k w : Nat) : Z (f + 1) 30 L st σ n k w = s_const (.int (0)) 31 L st σ n k w (zk1 cut G (Z f)) G R T := zrs hZ rfl f L st σ n k w
theorem f_X9_at_31 (hZ : ZRN (ztb (tb_X9_at E d mc ms)) cut G R T Z) (f : Nat) (L : ZLV) (st : List Value) (σ : ZHp) (n k w : Nat) : Z (f + 1) 31 L st σ n k w = s_ireturn L st σ n k w (zk1 cut G (Z f)) G R T := zrs hZ rfl f L st σ n k w
theorem f_X9_append_0 (hZ : ZRN (ztb (tb_X9_append E d mc ms)) cut G R T Z) (f : Nat) (L : ZLV) (st : List Value) (σ : ZHp) (n k w : Nat) : Z (f + 1) 0 L st σ n k w = s_const (.int (24)) 2 L st σ n k w (zk1 cut G (Z f)) G R T := zrs hZ rfl f L st σ n k w
theorem f_X9_append_2 (hZ : ZRN (ztb (tb_X9_append E d mc ms)) cut G R T Z) (f : Nat) (L : ZLV) (st : List Value) (σ : ZHp) (n k w : Nat) : Z (f + 1) 2 L st σ n k w = s_istore 2 3 L st σ n k w (zk1 cut G (Z f)) G R T := zrs hZ rfl f L st σ n k w
theorem f_X9_append_3 (hZ : ZRN (ztb (tb_X9_append E d mc ms)) cut G R T Z) (f : Nat) (L : ZLV) (st : List Value) (σ : ZHp) (n k w : Nat) : Z (f + 1) 3 L st σ n k w = s_iload 2 4 L st σ n k w (zk1 cut G (Z f)) G R T := zrs hZ rfl f L st σ n k w
theorem f_X9_append_4 (hZ : ZRN (ztb (tb_X9_append E d mc ms)) cut G R T Z) (f : Nat) (L : ZLV) (st : List Value) (σ : ZHp) (n k w : Nat) : Z (f + 1) 4 L st σ n k w = s_if_lt 55 7 L st σ n k w (zk1 cut G (Z f)) G R T := zrs hZ rfl f L st σ n k w
theorem f_X9_append_7 (hZ : ZRN (ztb (tb_X9_append E d mc ms)) cut G R T Z) (f : Nat) (L : ZLV) (st : List Value) (σ : ZHp) (n k w : Nat) : Z (f + 1) 7 L st σ n k w = s_aload 0 8 L st σ n k w (zk1 cut G (Z f)) G R T := zrs hZ rfl f L st σ n k w
theorem f_X9_append_8 (hZ : ZRN (ztb (tb_X9_append E d mc ms)) cut G R T Z) (f : Nat) (L : ZLV) (st : List Value) (σ : ZHp) (n k w : Nat) : Z (f + 1) 8 L st σ n k w = s_getf 8 1 11 L st σ n k w (zk1 cut G (Z f)) G R T := zrs hZ rfl f L st σ n k w
theorem f_X9_append_11 (hZ : ZRN (ztb (tb_X9_append E d mc ms)) cut G R T Z) (f : Nat) (L : ZLV) (st : List Value) (σ : ZHp) (n k w : Nat) : Z (f + 1) 11 L st σ n k w = s_if_lt 49 14 L st σ n k w (zk1 cut G (Z f)) G R T := zrs hZ rfl f L st σ n k w
theorem f_X9_append_14 (hZ : ZRN (ztb (tb_X9_append E d mc ms)) cut G R T Z) (f : Nat) (L : ZLV) (st : List Value) (σ : ZHp) (n k w : Nat) : Z (f + 1) 14 L st σ n k w = s_aload 0 15 L st σ n k w (zk1 cut G (Z f)) G R T := zrs hZ rfl f L st σ n k w
theorem f_X9_append_15 (hZ : ZRN (ztb (tb_X9_append E d mc ms)) cut G R T Z) (f : Nat) (L : ZLV) (st : List Value) (σ : ZHp) (n k w : Nat) : Z (f + 1) 15 L st σ n k w = s_getf 8 1 18 L st σ n k w (zk1 cut G (Z f)) G R T := zrs hZ rfl f L st σ n k w
theorem f_X9_append_18 (hZ : ZRN (ztb (tb_X9_append E d mc ms)) cut G R T Z) (f : Nat) (L : ZLV) (st : List Value) (σ : ZHp) (n k w : Nat) : Z (f + 1) 18 L st σ n k w = s_aload 0 19 L st σ n k w (zk1 cut G (Z f)) G R T := zrs hZ rfl f L st σ n k w
theorem f_X9_append_19 (hZ : ZRN (ztb (tb_X9_append E d mc ms)) cut G R T Z) (f : Nat) (L : ZLV) (st : List Value) (σ : ZHp) (n k w : Nat) : Z (f + 1) 19 L st σ n k w = s_getf 8 0 22 L st σ n k w (zk1 cut G (Z f)) G R T := zrs hZ rfl f L st σ n k w
theorem f_X9_append_22 (hZ : ZRN (ztb (tb_X9_append E d mc ms)) cut G R T Z) (f : Nat) (L : ZLV) (st : List Value) (σ : ZHp) (n k w : Nat) : Z (f + 1) 22 L st σ n k w = s_alen E 23 L st σ n k w (zk1 cut G (Z f)) G R T := zrs hZ rfl f L st σ n k w
theorem f_X9_append_23 (hZ : ZRN (ztb (tb_X9_append E d mc ms)) cut G R T Z) (f : Nat) (L : ZLV) (st : List Value) (σ : ZHp) (n k w : Nat) : Z (f + 1) 23 L st σ n k w = s_icmp_ge 49 26 L st σ n k w (zk1 cut G (Z f)) G R T := zrs hZ rfl f L st σ n k w
theorem f_X9_append_26 (hZ : ZRN (ztb (tb_X9_append E d mc ms)) cut G R T Z) (f : Nat) (L : ZLV) (st : List Value) (σ : ZHp) (n k w : Nat) : Z (f + 1) 26 L st σ n k w = s_aload 0 27 L st σ n k w (zk1 cut G (Z f)) G R T := zrs hZ rfl f L st σ n k w
theorem f_X9_append_27 (hZ : ZRN (ztb (tb_X9_append E d mc ms)) cut G R T Z) (f : Nat) (L : ZLV) (st : List Value) (σ : ZHp) (n k w : Nat) : Z (f + 1) 27 L st σ n k w = s_getf 8 0 30 L st σ n k w (zk1 cut G (Z f)) G R T := zrs hZ rfl f L st σ n k w
theorem f_X9_append_30 (hZ : ZRN (ztb (tb_X9_append E d mc ms)) cut G R T Z) (f : Nat) (L : ZLV) (st : List Value) (σ : ZHp) (n k w : Nat) : Z (f + 1) 30 L st σ n k w = s_aload 0 31 L st σ n k w (zk1 cut G (Z f)) G R T := zrs hZ rfl f L st σ n k w
theorem f_X9_append_31 (hZ : ZRN (ztb (tb_X9_append E d mc ms)) cut G R T Z) (f : Nat) (L : ZLV) (st : List Value) (σ : ZHp) (n k w : Nat) : Z (f + 1) 31 L st σ n k w = s_getf 8 1 34 L st σ n k w (zk1 cut G (Z f)) G R T := zrs hZ rfl f L st σ n k w
theorem f_X9_append_34 (hZ : ZRN (ztb (tb_X9_append E d mc ms)) cut G R T Z) (f : Nat) (L : ZLV) (st : List Value) (σ : ZHp) (n k w : Nat) : Z (f + 1) 34 L st σ n k w = s_iload 1 35 L st σ n k w (zk1 cut G (Z f)) G R T := zrs hZ rfl f L st σ n k w
theorem f_X9_append_35 (hZ : ZRN (ztb (tb_X9_append E d mc ms)) cut G R T Z) (f : Nat) (L : ZLV) (st : List Value) (σ : ZHp) (n k w : Nat) : Z (f + 1) 35 L st σ n k w = s_iload 2 36 L st σ n k w (zk1 cut G (Z f)) G R T := zrs hZ rfl f L st σ n k w
theorem f_X9_append_36 (hZ : ZRN (ztb (tb_X9_append E d mc ms)) cut G R T Z) (f : Nat) (L : ZLV) (st : List Value) (σ : ZHp) (n k w : Nat) : Z (f + 1) 36 L st σ n k w = s_ishr 37 L st σ n k w (zk1 cut G (Z f)) G R T := zrs hZ rfl f L st σ n k w
theorem f_X9_append_37 (hZ : ZRN (ztb (tb_X9_append E d mc ms)) cut G R T Z) (f : Nat) (L : ZLV) (st : List Value) (σ : ZHp) (n k w : Nat) : Z (f + 1) 37 L st σ n k w = s_i2b 38 L st σ n k w (zk1 cut G (Z f)) G R T := zrs hZ rfl f L st σ n k w
theorem f_X9_append_38 (hZ : ZRN (ztb (tb_X9_append E d mc ms)) cut G R T Z) (f : Nat) (L : ZLV) (st : List Value) (σ : ZHp) (n k w : Nat) : Z (f + 1) 38 L st σ n k w = s_bastore E 39 L st σ n k w (zk1 cut G (Z f)) G R T := zrs hZ rfl f L st σ n k w
theorem f_X9_append_39 (hZ : ZRN (ztb (tb_X9_append E d mc ms)) cut G R T Z) (f : Nat) (L : ZLV) (st : List Value) (σ : ZHp) (n k w : Nat) : Z (f + 1) 39 L st σ n k w = s_aload 0 40 L st σ n k w (zk1 cut G (Z f)) G R T := zrs hZ rfl f L st σ n k w
theorem f_X9_append_40 (hZ : ZRN (ztb (tb_X9_append E d mc ms)) cut G R T Z) (f : Nat) (L : ZLV) (st : List Value) (σ : ZHp) (n k w : Nat) : Z (f + 1) 40 L st σ n k w = s_dup 41 L st σ n k w (zk1 cut G (Z f)) G R T := zrs hZ rfl f L st σ n k w
theorem f_X9_append_41 (hZ : ZRN (ztb (tb_X9_append E d mc ms)) cut G R T Z) (f : Nat) (L : ZLV) (st : List Value) (σ : ZHp) (n k w : Nat) : Z (f + 1) 41 L st σ n k w = s_getf 8 1 44 L st σ n k w (zk1 cut G (Z f)) G R T := zrs hZ rfl f L st σ n k w
theorem f_X9_append_44 (hZ : ZRN (ztb (tb_X9_append E d mc ms)) cut G R T Z) (f : Nat) (L : ZLV) (st : List Value) (σ : ZHp) (n k w : Nat) : Z (f + 1) 44 L st σ n k w = s_const (.int (1)) 45 L st σ n k w (zk1 cut G (Z f)) G R T := zrs hZ rfl f L st σ n k w
theorem f_X9_append_45 (hZ : ZRN (ztb (tb_X9_append E d mc ms)) cut G R T Z) (f : Nat) (L : ZLV) (st : List Value) (σ : ZHp) (n k w : Nat) : Z (f + 1) 45 L st σ n k w = s_iadd 46 L st σ n k w (zk1 cut G (Z f)) G R T := zrs hZ rfl f L st σ n k w
theorem f_X9_append_46 (hZ : ZRN (ztb (tb_X9_append E d mc ms)) cut G R T Z) (f : Nat) (L : ZLV) (st : List Value) (σ : ZHp) (n k w : Nat) : Z (f + 1) 46 L st σ n k w = s_putf 8 1 0 49 L st σ n k w (zk1 cut G (Z f)) G R T := zrs hZ rfl f L st σ n k w
theorem f_X9_append_49 (hZ : ZRN (ztb (tb_X9_append E d mc ms)) cut G R T Z) (f : Nat) (L : ZLV) (st : List Value) (σ : ZHp) (n k w : Nat) : Z (f + 1) 49 L st σ n k w = s_iinc 2 (-8) 52 L st σ n k w (zk1 cut G (Z f)) G R T := zrs hZ rfl f L st σ n k w
theorem f_X9_append_52 (hZ : ZRN (ztb (tb_X9_append E d mc ms)) cut G R T Z) (f : Nat) (L : ZLV) (st : List Value) (σ : ZHp) (n k w : Nat) : Z (f + 1) 52 L st σ n k w = s_goto 3 L st σ n k w (zk1 cut G (Z f)) G R T := zrs hZ rfl f L st σ n k w
theorem f_X9_append_55 (hZ : ZRN (ztb (tb_X9_append E d mc ms)) cut G R T Z) (f : Nat) (L : ZLV) (st : List Value) (σ : ZHp) (n k w : Nat) : Z (f + 1) 55 L st σ n k w = s_return L st σ n k w (zk1 cut G (Z f)) G R T := zrs hZ rfl f L st σ n k w
theorem f_X9_shorten_0 (hZ : ZRN (ztb (tb_X9_shorten E d mc ms)) cut G R T Z) (f : Nat) (L : ZLV) (st : List Value) (σ : ZHp) (n k w : Nat) : Z (f + 1) 0 L st σ n k w = s_iload 1 1 L st σ n k w (zk1 cut G (Z f)) G R T := zrs hZ rfl f L st σ n k w
theorem f_X9_shorten_1 (hZ : ZRN (ztb (tb_X9_shorten E d mc ms)) cut G R T Z) (f : Nat) (L : ZLV) (st : List Value) (σ : ZHp) (n k w : Nat) : Z (f + 1) 1 L st σ n k w = s_if_lt 17 4 L st σ n k w (zk1 cut G (Z f)) G R T := zrs hZ rfl f L st σ n k w
theorem f_X9_shorten_4 (hZ : ZRN (ztb (tb_X9_shorten E d mc ms)) cut G R T Z) (f : Nat) (L : ZLV) (st : List Value) (σ : ZHp) (n k w : Nat) : Z (f + 1) 4 L st σ n k w = s_iload 1 5 L st σ n k w (zk1 cut G (Z f)) G R T := zrs hZ rfl f L st σ n k w
theorem f_X9_shorten_5 (hZ : ZRN (ztb (tb_X9_shorten E d mc ms)) cut G R T Z) (f : Nat) (L : ZLV) (st : List Value) (σ : ZHp) (n k w : Nat) : Z (f + 1) 5 L st σ n k w = s_aload 0 6 L st σ n k w (zk1 cut G (Z f)) G R T := zrs hZ rfl f L st σ n k w
theorem f_X9_shorten_6 (hZ : ZRN (ztb (tb_X9_shorten E d mc ms)) cut G R T Z) (f : Nat) (L : ZLV) (st : List Value) (σ : ZHp) (n k w : Nat) : Z (f + 1) 6 L st σ n k w = s_getf 8 1 9 L st σ n k w (zk1 cut G (Z f)) G R T := zrs hZ rfl f L st σ n k w
theorem f_X9_shorten_9 (hZ : ZRN (ztb (tb_X9_shorten E d mc ms)) cut G R T Z) (f : Nat) (L : ZLV) (st : List Value) (σ : ZHp) (n k w : Nat) : Z (f + 1) 9 L st σ n k w = s_icmp_ge 17 12 L st σ n k w (zk1 cut G (Z f)) G R T := zrs hZ rfl f L st σ n k w
theorem f_X9_shorten_12 (hZ : ZRN (ztb (tb_X9_shorten E d mc ms)) cut G R T Z) (f : Nat) (L : ZLV) (st : List Value) (σ : ZHp) (n k w : Nat) : Z (f + 1) 12 L st σ n k w = s_aload 0 13 L st σ n k w (zk1 cut G (Z f)) G R T := zrs hZ rfl f L st σ n k w
theorem f_X9_shorten_13 (hZ : ZRN (ztb (tb_X9_shorten E d mc ms)) cut G R T Z) (f : Nat) (L : ZLV) (st : List Value) (σ : ZHp) (n k w : Nat) : Z (f + 1) 13 L st σ n k w = s_iload 1 14 L st σ n k w (zk1 cut G (Z f)) G R T := zrs hZ rfl f L st σ n k w
theorem f_X9_shorten_14 (hZ : ZRN (ztb (tb_X9_shorten E d mc ms)) cut G R T Z) (f : Nat) (L : ZLV) (st : List Value) (σ : ZHp) (n k w : Nat) : Z (f + 1) 14 L st σ n k w = s_putf 8 1 0 17 L st σ n k w (zk1 cut G (Z f)) G R T := zrs hZ rfl f L st σ n k w
theorem f_X9_shorten_17 (hZ : ZRN (ztb (tb_X9_shorten E d mc ms)) cut G R T Z) (f : Nat) (L : ZLV) (st : List Value) (σ : ZHp) (n k w : Nat) : Z (f + 1) 17 L st σ n k w = s_return L st σ n k w (zk1 cut G (Z f)) G R T := zrs hZ rfl f L st σ n k w
theorem f_X11_init_0 (hZ : ZRN (ztb (tb_X11_init E d mc ms)) cut G R T Z) (f : Nat) (L : ZLV) (st : List Value) (σ : ZHp) (n k w : Nat) : Z (f + 1) 0 L st σ n k w = s_aload 0 1 L st σ n k w (zk1 cut G (Z f)) G R T := zrs hZ rfl f L st σ n k w
theorem f_X11_init_1 (hZ : ZRN (ztb (tb_X11_init E d mc ms)) cut G R T Z) (f : Nat) (L : ZLV) (st : List Value) (σ : ZHp) (n k w : Nat) : Z (f + 1) 1 L st σ n k w = s_objinit d 4 L st σ n k w (zk1 cut G (Z f)) G R T := zrs hZ rfl f L st σ n k w
theorem f_X11_init_4 (hZ : ZRN (ztb (tb_X11_init E d mc ms)) cut G R T Z) (f : Nat) (L : ZLV) (st : List Value) (σ : ZHp) (n k w : Nat) : Z (f + 1) 4 L st σ n k w = s_aload 0 5 L st σ n k w (zk1 cut G (Z f)) G R T := zrs hZ rfl f L st σ n k w
theorem f_X11_init_5 (hZ : ZRN (ztb (tb_X11_init E d mc ms)) cut G R T Z) (f : Nat) (L : ZLV) (st : List Value) (σ : ZHp) (n k w : Nat) : Z (f + 1) 5 L st σ n k w = s_new 4 2 fsX5 mc ms 8 L st σ n k w (zk1 cut G (Z f)) G R T := zrs hZ rfl f L st σ n k w
theorem f_X11_init_8 (hZ : ZRN (ztb (tb_X11_init E d mc ms)) cut G R T Z) (f : Nat) (L : ZLV) (st : List Value) (σ : ZHp) (n k w : Nat) : Z (f + 1) 8 L st σ n k w = s_dup 9 L st σ n k w (zk1 cut G (Z f)) G R T := zrs hZ rfl f L st σ n k w
theorem f_X11_init_9 (hZ : ZRN (ztb (tb_X11_init E d mc ms)) cut G R T Z) (f : Nat) (L : ZLV) (st : List Value) (σ : ZHp) (n k w : Nat) : Z (f + 1) 9 L st σ n k w = s_const (.int (60)) 11 L st σ n k w (zk1 cut G (Z f)) G R T := zrs hZ rfl f L st σ n k w
theorem f_X11_init_11 (hZ : ZRN (ztb (tb_X11_init E d mc ms)) cut G R T Z) (f : Nat) (L : ZLV) (st : List Value) (σ : ZHp) (n k w : Nat) : Z (f + 1) 11 L st σ n k w = s_callI E d mc ms MX5_init 1 14 L st σ n k w (zk1 cut G (Z f)) G R T := zrs hZ rfl f L st σ n k w
theorem f_X11_init_14 (hZ : ZRN (ztb (tb_X11_init E d mc ms)) cut G R T Z) (f : Nat) (L : ZLV) (st : List Value) (σ : ZHp) (n k w : Nat) : Z (f + 1) 14 L st σ n k w = s_putf 10 0 3 17 L st σ n k w (zk1 cut G (Z f)) G R T := zrs hZ rfl f L st σ n k w
theorem f_X11_init_17 (hZ : ZRN (ztb (tb_X11_init E d mc ms)) cut G R T Z) (f : Nat) (L : ZLV) (st : List Value) (σ : ZHp) (n k w : Nat) : Z (f + 1) 17 L st σ n k w = s_aload 0 18 L st σ n k w (zk1 cut G (Z f)) G R T := zrs hZ rfl f L st σ n k w
theorem f_X11_init_18 (hZ : ZRN (ztb (tb_X11_init E d mc ms)) cut G R T Z) (f : Nat) (L : ZLV) (st : List Value) (σ : ZHp) (n k w : Nat) : Z (f + 1) 18 L st σ n k w = s_new 4 2 fsX5 mc ms 21 L st σ n k w (zk1 cut G (Z f)) G R T := zrs hZ rfl f L st σ n k w
theorem f_X11_init_21 (hZ : ZRN (ztb (tb_X11_init E d mc ms)) cut G R T Z) (f : Nat) (L : ZLV) (st : List Value) (σ : ZHp) (n k w : Nat) : Z (f + 1) 21 L st σ n k w = s_dup 22 L st σ n k w (zk1 cut G (Z f)) G R T := zrs hZ rfl f L st σ n k w
theorem f_X11_init_22 (hZ : ZRN (ztb (tb_X11_init E d mc ms)) cut G R T Z) (f : Nat) (L : ZLV) (st : List Value) (σ : ZHp) (n k w : Nat) : Z (f + 1) 22 L st σ n k w = s_const (.int (60)) 24 L st σ n k w (zk1 cut G (Z f)) G R T := zrs hZ rfl f L st σ n k w
theorem f_X11_init_24 (hZ : ZRN (ztb (tb_X11_init E d mc ms)) cut G R T Z) (f : Nat) (L : ZLV) (st : List Value) (σ : ZHp) (n k w : Nat) : Z (f + 1) 24 L st σ n k w = s_callI E d mc ms MX5_init 1 27 L st σ n k w (zk1 cut G (Z f)) G R T := zrs hZ rfl f L st σ n k w
theorem f_X11_init_27 (hZ : ZRN (ztb (tb_X11_init E d mc ms)) cut G R T Z) (f : Nat) (L : ZLV) (st : List Value) (σ : ZHp) (n k w : Nat) : Z (f + 1) 27 L st σ n k w = s_putf 10 1 3 30 L st σ n k w (zk1 cut G (Z f)) G R T := zrs hZ rfl f L st σ n k w
theorem f_X11_init_30 (hZ : ZRN (ztb (tb_X11_init E d mc ms)) cut G R T Z) (f : Nat) (L : ZLV) (st : List Value) (σ : ZHp) (n k w : Nat) : Z (f + 1) 30 L st σ n k w = s_aload 0 31 L st σ n k w (zk1 cut G (Z f)) G R T := zrs hZ rfl f L st σ n k w
theorem f_X11_init_31 (hZ : ZRN (ztb (tb_X11_init E d mc ms)) cut G R T Z) (f : Nat) (L : ZLV) (st : List Value) (σ : ZHp) (n k w : Nat) : Z (f + 1) 31 L st σ n k w = s_new 4 2 fsX5 mc ms 34 L st σ n k w (zk1 cut G (Z f)) G R T := zrs hZ rfl f L st σ n k w
theorem f_X11_init_34 (hZ : ZRN (ztb (tb_X11_init E d mc ms)) cut G R T Z) (f : Nat) (L : ZLV) (st : List Value) (σ : ZHp) (n k w : Nat) : Z (f + 1) 34 L st σ n k w = s_dup 35 L st σ n k w (zk1 cut G (Z f)) G R T := zrs hZ rfl f L st σ n k w
theorem f_X11_init_35 (hZ : ZRN (ztb (tb_X11_init E d mc ms)) cut G R T Z) (f : Nat) (L : ZLV) (st : List Value) (σ : ZHp) (n k w : Nat) : Z (f + 1) 35 L st σ n k w = s_const (.int (10)) 37 L st σ n k w (zk1 cut G (Z f)) G R T := zrs hZ rfl f L st σ n k w
theorem f_X11_init_37 (hZ : ZRN (ztb (tb_X11_init E d mc ms)) cut G R T Z) (f : Nat) (L : ZLV) (st : List Value) (σ : ZHp) (n k w : Nat) : Z (f + 1) 37 L st σ n k w = s_callI E d mc ms MX5_init 1 40 L st σ n k w (zk1 cut G (Z f)) G R T := zrs hZ rfl f L st σ n k w
theorem f_X11_init_40 (hZ : ZRN (ztb (tb_X11_init E d mc ms)) cut G R T Z) (f : Nat) (L : ZLV) (st : List Value) (σ : ZHp) (n k w : Nat) : Z (f + 1) 40 L st σ n k w = s_putf 10 2 3 43 L st σ n k w (zk1 cut G (Z f)) G R T := zrs hZ rfl f L st σ n k w
theorem f_X11_init_43 (hZ : ZRN (ztb (tb_X11_init E d mc ms)) cut G R T Z) (f : Nat) (L : ZLV) (st : List Value) (σ : ZHp) (n k w : Nat) : Z (f + 1) 43 L st σ n k w = s_aload 0 44 L st σ n k w (zk1 cut G (Z f)) G R T := zrs hZ rfl f L st σ n k w
theorem f_X11_init_44 (hZ : ZRN (ztb (tb_X11_init E d mc ms)) cut G R T Z) (f : Nat) (L : ZLV) (st : List Value) (σ : ZHp) (n k w : Nat) : Z (f + 1) 44 L st σ n k w = s_const (.int (0)) 45 L st σ n k w (zk1 cut G (Z f)) G R T := zrs hZ rfl f L st σ n k w
theorem f_X11_init_45 (hZ : ZRN (ztb (tb_X11_init E d mc ms)) cut G R T Z) (f : Nat) (L : ZLV) (st : List Value) (σ : ZHp) (n k w : Nat) : Z (f + 1) 45 L st σ n k w = s_putf 10 3 0 48 L st σ n k w (zk1 cut G (Z f)) G R T := zrs hZ rfl f L st σ n k w
theorem f_X11_init_48 (hZ : ZRN (ztb (tb_X11_init E d mc ms)) cut G R T Z) (f : Nat) (L : ZLV) (st : List Value) (σ : ZHp) (n k w : Nat) : Z (f + 1) 48 L st σ n k w = s_aload 0 49 L st σ n k w (zk1 cut G (Z f)) G R T := zrs hZ rfl f L st σ n k w
theorem f_X11_init_49 (hZ : ZRN (ztb (tb_X11_init E d mc ms)) cut G R T Z) (f : Nat) (L : ZLV) (st : List Value) (σ : ZHp) (n k w : Nat) : Z (f + 1) 49 L st σ n k w = s_const (.int (0)) 50 L st σ n k w (zk1 cut G (Z f)) G R T := zrs hZ rfl f L st σ n k w
theorem f_X11_init_50 (hZ : ZRN (ztb (tb_X11_init E d mc ms)) cut G R T Z) (f : Nat) (L : ZLV) (st : List Value) (σ : ZHp) (n k w : Nat) : Z (f + 1) 50 L st σ n k w = s_putf 10 4 0 53 L st σ n k w (zk1 cut G (Z f)) G R T := zrs hZ rfl f L st σ n k w
theorem f_X11_init_53 (hZ : ZRN (ztb (tb_X11_init E d mc ms)) cut G R T Z) (f : Nat) (L : ZLV) (st : List Value) (σ : ZHp) (n k w : Nat) : Z (f + 1) 53 L st σ n k w = s_aload 0 54 L st σ n k w (zk1 cut G (Z f)) G R T := zrs hZ rfl f L st σ n k w
theorem f_X11_init_54 (hZ : ZRN (ztb (tb_X11_init E d mc ms)) cut G R T Z) (f : Nat) (L : ZLV) (st : List Value) (σ : ZHp) (n k w : Nat) : Z (f + 1) 54 L st σ n k w = s_const (.int (1)) 55 L st σ n k w (zk1 cut G (Z f)) G R T := zrs hZ rfl f L st σ n k w
theorem f_X11_init_55 (hZ : ZRN (ztb (tb_X11_init E d mc ms)) cut G R T Z) (f : Nat) (L : ZLV) (st : List Value) (σ : ZHp) (n k w : Nat) : Z (f + 1) 55 L st σ n k w = s_putf 10 5 0 58 L st σ n k w (zk1 cut G (Z f)) G R T := zrs hZ rfl f L st σ n k w
theorem f_X11_init_58 (hZ : ZRN (ztb (tb_X11_init E d mc ms)) cut G R T Z) (f : Nat) (L : ZLV) (st : List Value) (σ : ZHp) (n k w : Nat) : Z (f + 1) 58 L st σ n k w = s_aload 0 59 L st σ n k w (zk1 cut G (Z f)) G R T := zrs hZ rfl f L st σ n k w
theorem f_X11_init_59 (hZ : ZRN (ztb (tb_X11_init E d mc ms)) cut G R T Z) (f : Nat) (L : ZLV) (st : List Value) (σ : ZHp) (n k w : Nat) : Z (f + 1) 59 L st σ n k w = s_const (.int (0)) 60 L st σ n k w (zk1 cut G (Z f)) G R T := zrs hZ rfl f L st σ n k w
theorem f_X11_init_60 (hZ : ZRN (ztb (tb_X11_init E d mc ms)) cut G R T Z) (f : Nat) (L : ZLV) (st : List Value) (σ : ZHp) (n k w : Nat) : Z (f + 1) 60 L st σ n k w = s_putf 10 6 0 63 L st σ n k w (zk1 cut G (Z f)) G R T := zrs hZ rfl f L st σ n k w
theorem f_X11_init_63 (hZ : ZRN (ztb (tb_X11_init E d mc ms)) cut G R T Z) (f : Nat) (L : ZLV) (st : List Value) (σ : ZHp) (n k w : Nat) : Z (f + 1) 63 L st σ n k w = s_aload 0 64 L st σ n k w (zk1 cut G (Z f)) G R T := zrs hZ rfl f L st σ n k w
theorem f_X11_init_64 (hZ : ZRN (ztb (tb_X11_init E d mc ms)) cut G R T Z) (f : Nat) (L : ZLV) (st : List Value) (σ : ZHp) (n k w : Nat) : Z (f + 1) 64 L st σ n k w = s_const (.int (0)) 65 L st σ n k w (zk1 cut G (Z f)) G R T := zrs hZ rfl f L st σ n k w
theorem f_X11_init_65 (hZ : ZRN (ztb (tb_X11_init E d mc ms)) cut G R T Z) (f : Nat) (L : ZLV) (st : List Value) (σ : ZHp) (n k w : Nat) : Z (f + 1) 65 L st σ n k w = s_putf 10 7 0 68 L st σ n k w (zk1 cut G (Z f)) G R T := zrs hZ rfl f L st σ n k w
theorem f_X11_init_68 (hZ : ZRN (ztb (tb_X11_init E d mc ms)) cut G R T Z) (f : Nat) (L : ZLV) (st : List Value) (σ : ZHp) (n k w : Nat) : Z (f + 1) 68 L st σ n k w = s_aload 0 69 L st σ n k w (zk1 cut G (Z f)) G R T := zrs hZ rfl f L st σ n k w
theorem f_X11_init_69 (hZ : ZRN (ztb (tb_X11_init E d mc ms)) cut G R T Z) (f : Nat) (L : ZLV) (st : List Value) (σ : ZHp) (n k w : Nat) : Z (f + 1) 69 L st σ n k w = s_const (.int (0)) 70 L st σ n k w (zk1 cut G (Z f)) G R T := zrs hZ rfl f L st σ n k w
theorem f_X11_init_70 (hZ : ZRN (ztb (tb_X11_init E d mc ms)) cut G R T Z) (f : Nat) (L : ZLV) (st : List Value) (σ : ZHp) (n k w : Nat) : Z (f + 1) 70 L st σ n k w = s_putf 10 8 0 73 L st σ n k w (zk1 cut G (Z f)) G R T := zrs hZ rfl f L st σ n k w
theorem f_X11_init_73 (hZ : ZRN (ztb (tb_X11_init E d mc ms)) cut G R T Z) (f : Nat) (L : ZLV) (st : List Value) (σ : ZHp) (n k w : Nat) : Z (f + 1) 73 L st σ n k w = s_aload 0 74 L st σ n k w (zk1 cut G (Z f)) G R T := zrs hZ rfl f L st σ n k w
theorem f_X11_init_74 (hZ : ZRN (ztb (tb_X11_init E d mc ms)) cut G R T Z) (f : Nat) (L : ZLV) (st : List Value) (σ : ZHp) (n k w : Nat) : Z (f + 1) 74 L st σ n k w = s_const (.int (0)) 75 L st σ n k w (zk1 cut G (Z f)) G R T := zrs hZ rfl f L st σ n k w
theorem f_X11_init_75 (hZ : ZRN (ztb (tb_X11_init E d mc ms)) cut G R T Z) (f : Nat) (L : ZLV) (st : List Value) (σ : ZHp) (n k w : Nat) : Z (f + 1) 75 L st σ n k w = s_putf 10 9 0 78 L st σ n k w (zk1 cut G (Z f)) G R T := zrs hZ rfl f L st σ n k w
theorem f_X11_init_78 (hZ : ZRN (ztb (tb_X11_init E d mc ms)) cut G R T Z) (f : Nat) (L : ZLV) (st : List Value) (σ : ZHp) (n k w : Nat) : Z (f + 1) 78 L st σ n k w = s_return L st σ n k w (zk1 cut G (Z f)) G R T := zrs hZ rfl f L st σ n k w
theorem f_X11_begin_0 (hZ : ZRN (ztb (tb_X11_begin E d mc ms)) cut G R T Z) (f : Nat) (L : ZLV) (st : List Value) (σ : ZHp) (n k w : Nat) : Z (f + 1) 0 L st σ n k w = s_aload 0 1 L st σ n k w (zk1 cut G (Z f)) G R T := zrs hZ rfl f L st σ n k w
theorem f_X11_begin_1 (hZ : ZRN (ztb (tb_X11_begin E d mc ms)) cut G R T Z) (f : Nat) (L : ZLV) (st : List Value) (σ : ZHp) (n k w : Nat) : Z (f + 1) 1 L st σ n k w = s_getf 10 0 4 L st σ n k w (zk1 cut G (Z f)) G R T := zrs hZ rfl f L st σ n k w
theorem f_X11_begin_4 (hZ : ZRN (ztb (tb_X11_begin E d mc ms)) cut G R T Z) (f : Nat) (L : ZLV) (st : List Value) (σ : ZHp) (n k w : Nat) : Z (f + 1) 4 L st σ n k w = s_callV E d mc ms 4 MX5_clear 0 7 L st σ n k w (zk1 cut G (Z f)) G R T := zrs hZ rfl f L st σ n k w
theorem f_X11_begin_7 (hZ : ZRN (ztb (tb_X11_begin E d mc ms)) cut G R T Z) (f : Nat) (L : ZLV) (st : List Value) (σ : ZHp) (n k w : Nat) : Z (f + 1) 7 L st σ n k w = s_aload 0 8 L st σ n k w (zk1 cut G (Z f)) G R T := zrs hZ rfl f L st σ n k w
theorem f_X11_begin_8 (hZ : ZRN (ztb (tb_X11_begin E d mc ms)) cut G R T Z) (f : Nat) (L : ZLV) (st : List Value) (σ : ZHp) (n k w : Nat) : Z (f + 1) 8 L st σ n k w = s_getf 10 1 11 L st σ n k w (zk1 cut G (Z f)) G R T := zrs hZ rfl f L st σ n k w
theorem f_X11_begin_11 (hZ : ZRN (ztb (tb_X11_begin E d mc ms)) cut G R T Z) (f : Nat) (L : ZLV) (st : List Value) (σ : ZHp) (n k w : Nat) : Z (f + 1) 11 L st σ n k w = s_callV E d mc ms 4 MX5_clear 0 14 L st σ n k w (zk1 cut G (Z f)) G R T := zrs hZ rfl f L st σ n k w
theorem f_X11_begin_14 (hZ : ZRN (ztb (tb_X11_begin E d mc ms)) cut G R T Z) (f : Nat) (L : ZLV) (st : List Value) (σ : ZHp) (n k w : Nat) : Z (f + 1) 14 L st σ n k w = s_aload 0 15 L st σ n k w (zk1 cut G (Z f)) G R T := zrs hZ rfl f L st σ n k w
theorem f_X11_begin_15 (hZ : ZRN (ztb (tb_X11_begin E d mc ms)) cut G R T Z) (f : Nat) (L : ZLV) (st : List Value) (σ : ZHp) (n k w : Nat) : Z (f + 1) 15 L st σ n k w = s_getf 10 2 18 L st σ n k w (zk1 cut G (Z f)) G R T := zrs hZ rfl f L st σ n k w
theorem f_X11_begin_18 (hZ : ZRN (ztb (tb_X11_begin E d mc ms)) cut G R T Z) (f : Nat) (L : ZLV) (st : List Value) (σ : ZHp) (n k w : Nat) : Z (f + 1) 18 L st σ n k w = s_callV E d mc ms 4 MX5_clear 0 21 L st σ n k w (zk1 cut G (Z f)) G R T := zrs hZ rfl f L st σ n k w
theorem f_X11_begin_21 (hZ : ZRN (ztb (tb_X11_begin E d mc ms)) cut G R T Z) (f : Nat) (L : ZLV) (st : List Value) (σ : ZHp) (n k w : Nat) : Z (f + 1) 21 L st σ n k w = s_aload 0 22 L st σ n k w (zk1 cut G (Z f)) G R T := zrs hZ rfl f L st σ n k w
theorem f_X11_begin_22 (hZ : ZRN (ztb (tb_X11_begin E d mc ms)) cut G R T Z) (f : Nat) (L : ZLV) (st : List Value) (σ : ZHp) (n k w : Nat) : Z (f + 1) 22 L st σ n k w = s_const (.int (0)) 23 L st σ n k w (zk1 cut G (Z f)) G R T := zrs hZ rfl f L st σ n k w
theorem f_X11_begin_23 (hZ : ZRN (ztb (tb_X11_begin E d mc ms)) cut G R T Z) (f : Nat) (L : ZLV) (st : List Value) (σ : ZHp) (n k w : Nat) : Z (f + 1) 23 L st σ n k w = s_putf 10 3 0 26 L st σ n k w (zk1 cut G (Z f)) G R T := zrs hZ rfl f L st σ n k w
theorem f_X11_begin_26 (hZ : ZRN (ztb (tb_X11_begin E d mc ms)) cut G R T Z) (f : Nat) (L : ZLV) (st : List Value) (σ : ZHp) (n k w : Nat) : Z (f + 1) 26 L st σ n k w = s_aload 0 27 L st σ n k w (zk1 cut G (Z f)) G R T := zrs hZ rfl f L st σ n k w
theorem f_X11_begin_27 (hZ : ZRN (ztb (tb_X11_begin E d mc ms)) cut G R T Z) (f : Nat) (L : ZLV) (st : List Value) (σ : ZHp) (n k w : Nat) : Z (f + 1) 27 L st σ n k w = s_const (.int (0)) 28 L st σ n k w (zk1 cut G (Z f)) G R T := zrs hZ rfl f L st σ n k w
theorem f_X11_begin_28 (hZ : ZRN (ztb (tb_X11_begin E d mc ms)) cut G R T Z) (f : Nat) (L : ZLV) (st : List Value) (σ : ZHp) (n k w : Nat) : Z (f + 1) 28 L st σ n k w = s_putf 10 4 0 31 L st σ n k w (zk1 cut G (Z f)) G R T := zrs hZ rfl f L st σ n k w
theorem f_X11_begin_31 (hZ : ZRN (ztb (tb_X11_begin E d mc ms)) cut G R T Z) (f : Nat) (L : ZLV) (st : List Value) (σ : ZHp) (n k w : Nat) : Z (f + 1) 31 L st σ n k w = s_aload 0 32 L st σ n k w (zk1 cut G (Z f)) G R T := zrs hZ rfl f L st σ n k w
theorem f_X11_begin_32 (hZ : ZRN (ztb (tb_X11_begin E d mc ms)) cut G R T Z) (f : Nat) (L : ZLV) (st : List Value) (σ : ZHp) (n k w : Nat) : Z (f + 1) 32 L st σ n k w = s_const (.int (7)) 34 L st σ n k w (zk1 cut G (Z f)) G R T := zrs hZ rfl f L st σ n k w
theorem f_X11_begin_34 (hZ : ZRN (ztb (tb_X11_begin E d mc ms)) cut G R T Z) (f : Nat) (L : ZLV) (st : List Value) (σ : ZHp) (n k w : Nat) : Z (f + 1) 34 L st σ n k w = s_iload 1 35 L st σ n k w (zk1 cut G (Z f)) G R T := zrs hZ rfl f L st σ n k w
theorem f_X11_begin_35 (hZ : ZRN (ztb (tb_X11_begin E d mc ms)) cut G R T Z) (f : Nat) (L : ZLV) (st : List Value) (σ : ZHp) (n k w : Nat) : Z (f + 1) 35 L st σ n k w = s_imul 36 L st σ n k w (zk1 cut G (Z f)) G R T := zrs hZ rfl f L st σ n k w
theorem f_X11_begin_36 (hZ : ZRN (ztb (tb_X11_begin E d mc ms)) cut G R T Z) (f : Nat) (L : ZLV) (st : List Value) (σ : ZHp) (n k w : Nat) : Z (f + 1) 36 L st σ n k w = s_const (.int (1)) 37 L st σ n k w (zk1 cut G (Z f)) G R T := zrs hZ rfl f L st σ n k w
theorem f_X11_begin_37 (hZ : ZRN (ztb (tb_X11_begin E d mc ms)) cut G R T Z) (f : Nat) (L : ZLV) (st : List Value) (σ : ZHp) (n k w : Nat) : Z (f + 1) 37 L st σ n k w = s_iadd 38 L st σ n k w (zk1 cut G (Z f)) G R T := zrs hZ rfl f L st σ n k w
theorem f_X11_begin_38 (hZ : ZRN (ztb (tb_X11_begin E d mc ms)) cut G R T Z) (f : Nat) (L : ZLV) (st : List Value) (σ : ZHp) (n k w : Nat) : Z (f + 1) 38 L st σ n k w = s_putf 10 5 0 41 L st σ n k w (zk1 cut G (Z f)) G R T := zrs hZ rfl f L st σ n k w
theorem f_X11_begin_41 (hZ : ZRN (ztb (tb_X11_begin E d mc ms)) cut G R T Z) (f : Nat) (L : ZLV) (st : List Value) (σ : ZHp) (n k w : Nat) : Z (f + 1) 41 L st σ n k w = s_aload 0 42 L st σ n k w (zk1 cut G (Z f)) G R T := zrs hZ rfl f L st σ n k w
theorem f_X11_begin_42 (hZ : ZRN (ztb (tb_X11_begin E d mc ms)) cut G R T Z) (f : Nat) (L : ZLV) (st : List Value) (σ : ZHp) (n k w : Nat) : Z (f + 1) 42 L st σ n k w = s_const (.int (0)) 43 L st σ n k w (zk1 cut G (Z f)) G R T := zrs hZ rfl f L st σ n k w
theorem f_X11_begin_43 (hZ : ZRN (ztb (tb_X11_begin E d mc ms)) cut G R T Z) (f : Nat) (L : ZLV) (st : List Value) (σ : ZHp) (n k w : Nat) : Z (f + 1) 43 L st σ n k w = s_putf 10 6 0 46 L st σ n k w (zk1 cut G (Z f)) G R T := zrs hZ rfl f L st σ n k w
theorem f_X11_begin_46 (hZ : ZRN (ztb (tb_X11_begin E d mc ms)) cut G R T Z) (f : Nat) (L : ZLV) (st : List Value) (σ : ZHp) (n k w : Nat) : Z (f + 1) 46 L st σ n k w = s_aload 0 47 L st σ n k w (zk1 cut G (Z f)) G R T := zrs hZ rfl f L st σ n k w
theorem f_X11_begin_47 (hZ : ZRN (ztb (tb_X11_begin E d mc ms)) cut G R T Z) (f : Nat) (L : ZLV) (st : List Value) (σ : ZHp) (n k w : Nat) : Z (f + 1) 47 L st σ n k w = s_const (.int (0)) 48 L st σ n k w (zk1 cut G (Z f)) G R T := zrs hZ rfl f L st σ n k w
theorem f_X11_begin_48 (hZ : ZRN (ztb (tb_X11_begin E d mc ms)) cut G R T Z) (f : Nat) (L : ZLV) (st : List Value) (σ : ZHp) (n k w : Nat) : Z (f + 1) 48 L st σ n k w = s_putf 10 7 0 51 L st σ n k w (zk1 cut G (Z f)) G R T := zrs hZ rfl f L st σ n k w
theorem f_X11_begin_51 (hZ : ZRN (ztb (tb_X11_begin E d mc ms)) cut G R T Z) (f : Nat) (L : ZLV) (st : List Value) (σ : ZHp) (n k w : Nat) : Z (f + 1) 51 L st σ n k w = s_aload 0 52 L st σ n k w (zk1 cut G (Z f)) G R T := zrs hZ rfl f L st σ n k w
theorem f_X11_begin_52 (hZ : ZRN (ztb (tb_X11_begin E d mc ms)) cut G R T Z) (f : Nat) (L : ZLV) (st : List Value) (σ : ZHp) (n k w : Nat) : Z (f + 1) 52 L st σ n k w = s_const (.int (0)) 53 L st σ n k w (zk1 cut G (Z f)) G R T := zrs hZ rfl f L st σ n k w
theorem f_X11_begin_53 (hZ : ZRN (ztb (tb_X11_begin E d mc ms)) cut G R T Z) (f : Nat) (L : ZLV) (st : List Value) (σ : ZHp) (n k w : Nat) : Z (f + 1) 53 L st σ n k w = s_putf 10 8 0 56 L st σ n k w (zk1 cut G (Z f)) G R T := zrs hZ rfl f L st σ n k w
theorem f_X11_begin_56 (hZ : ZRN (ztb (tb_X11_begin E d mc ms)) cut G R T Z) (f : Nat) (L : ZLV) (st : List Value) (σ : ZHp) (n k w : Nat) : Z (f + 1) 56 L st σ n k w = s_aload 0 57 L st σ n k w (zk1 cut G (Z f)) G R T := zrs hZ rfl f L st σ n k w
theorem f_X11_begin_57 (hZ : ZRN (ztb (tb_X11_begin E d mc ms)) cut G R T Z) (f : Nat) (L : ZLV) (st : List Value) (σ : ZHp) (n k w : Nat) : Z (f + 1) 57 L st σ n k w = s_const (.int (0)) 58 L st σ n k w (zk1 cut G (Z f)) G R T := zrs hZ rfl f L st σ n k w
theorem f_X11_begin_58 (hZ : ZRN (ztb (tb_X11_begin E d mc ms)) cut G R T Z) (f : Nat) (L : ZLV) (st : List Value) (σ : ZHp) (n k w : Nat) : Z (f + 1) 58 L st σ n k w = s_putf 10 9 0 61 L st σ n k w (zk1 cut G (Z f)) G R T := zrs hZ rfl f L st σ n k w
theorem f_X11_begin_61 (hZ : ZRN (ztb (tb_X11_begin E d mc ms)) cut G R T Z) (f : Nat) (L : ZLV) (st : List Value) (σ : ZHp) (n k w : Nat) : Z (f + 1) 61 L st σ n k w = s_const (.int (0)) 62 L st σ n k w (zk1 cut G (Z f)) G R T := zrs hZ rfl f L st σ n k w
theorem f_X11_begin_62 (hZ : ZRN (ztb (tb_X11_begin E d mc ms)) cut G R T Z) (f : Nat) (L : ZLV) (st : List Value) (σ : ZHp) (n k w : Nat) : Z (f + 1) 62 L st σ n k w = s_istore 3 63 L st σ n k w (zk1 cut G (Z f)) G R T := zrs hZ rfl f L st σ n k w
theorem f_X11_begin_63 (hZ : ZRN (ztb (tb_X11_begin E d mc ms)) cut G R T Z) (f : Nat) (L : ZLV) (st : List Value) (σ : ZHp) (n k w : Nat) : Z (f + 1) 63 L st σ n k w = s_iload 3 64 L st σ n k w (zk1 cut G (Z f)) G R T := zrs hZ rfl f L st σ n k w
theorem f_X11_begin_64 (hZ : ZRN (ztb (tb_X11_begin E d mc ms)) cut G R T Z) (f : Nat) (L : ZLV) (st : List Value) (σ : ZHp) (n k w : Nat) : Z (f + 1) 64 L st σ n k w = s_aload 2 65 L st σ n k w (zk1 cut G (Z f)) G R T := zrs hZ rfl f L st σ n k w
theorem f_X11_begin_65 (hZ : ZRN (ztb (tb_X11_begin E d mc ms)) cut G R T Z) (f : Nat) (L : ZLV) (st : List Value) (σ : ZHp) (n k w : Nat) : Z (f + 1) 65 L st σ n k w = s_callV E d mc ms 4 MX5_size 0 68 L st σ n k w (zk1 cut G (Z f)) G R T := zrs hZ rfl f L st σ n k w
theorem f_X11_begin_68 (hZ : ZRN (ztb (tb_X11_begin E d mc ms)) cut G R T Z) (f : Nat) (L : ZLV) (st : List Value) (σ : ZHp) (n k w : Nat) : Z (f + 1) 68 L st σ n k w = s_icmp_ge 86 71 L st σ n k w (zk1 cut G (Z f)) G R T := zrs hZ rfl f L st σ n k w
theorem f_X11_begin_71 (hZ : ZRN (ztb (tb_X11_begin E d mc ms)) cut G R T Z) (f : Nat) (L : ZLV) (st : List Value) (σ : ZHp) (n k w : Nat) : Z (f + 1) 71 L st σ n k w = s_aload 0 72 L st σ n k w (zk1 cut G (Z f)) G R T := zrs hZ rfl f L st σ n k w
theorem f_X11_begin_72 (hZ : ZRN (ztb (tb_X11_begin E d mc ms)) cut G R T Z) (f : Nat) (L : ZLV) (st : List Value) (σ : ZHp) (n k w : Nat) : Z (f + 1) 72 L st σ n k w = s_aload 2 73 L st σ n k w (zk1 cut G (Z f)) G R T := zrs hZ rfl f L st σ n k w
theorem f_X11_begin_73 (hZ : ZRN (ztb (tb_X11_begin E d mc ms)) cut G R T Z) (f : Nat) (L : ZLV) (st : List Value) (σ : ZHp) (n k w : Nat) : Z (f + 1) 73 L st σ n k w = s_iload 3 74 L st σ n k w (zk1 cut G (Z f)) G R T := zrs hZ rfl f L st σ n k w
theorem f_X11_begin_74 (hZ : ZRN (ztb (tb_X11_begin E d mc ms)) cut G R T Z) (f : Nat) (L : ZLV) (st : List Value) (σ : ZHp) (n k w : Nat) : Z (f + 1) 74 L st σ n k w = s_callV E d mc ms 4 MX5_get 1 77 L st σ n k w (zk1 cut G (Z f)) G R T := zrs hZ rfl f L st σ n k w
theorem f_X11_begin_77 (hZ : ZRN (ztb (tb_X11_begin E d mc ms)) cut G R T Z) (f : Nat) (L : ZLV) (st : List Value) (σ : ZHp) (n k w : Nat) : Z (f + 1) 77 L st σ n k w = s_callV E d mc ms 10 MX11_gain 1 80 L st σ n k w (zk1 cut G (Z f)) G R T := zrs hZ rfl f L st σ n k w
theorem f_X11_begin_80 (hZ : ZRN (ztb (tb_X11_begin E d mc ms)) cut G R T Z) (f : Nat) (L : ZLV) (st : List Value) (σ : ZHp) (n k w : Nat) : Z (f + 1) 80 L st σ n k w = s_iinc 3 (1) 83 L st σ n k w (zk1 cut G (Z f)) G R T := zrs hZ rfl f L st σ n k w
theorem f_X11_begin_83 (hZ : ZRN (ztb (tb_X11_begin E d mc ms)) cut G R T Z) (f : Nat) (L : ZLV) (st : List Value) (σ : ZHp) (n k w : Nat) : Z (f + 1) 83 L st σ n k w = s_goto 63 L st σ n k w (zk1 cut G (Z f)) G R T := zrs hZ rfl f L st σ n k w
theorem f_X11_begin_86 (hZ : ZRN (ztb (tb_X11_begin E d mc ms)) cut G R T Z) (f : Nat) (L : ZLV) (st : List Value) (σ : ZHp) (n k w : Nat) : Z (f + 1) 86 L st σ n k w = s_return L st σ n k w (zk1 cut G (Z f)) G R T := zrs hZ rfl f L st σ n k w
theorem f_X11_copy_0 (hZ : ZRN (ztb (tb_X11_copy E d mc ms)) cut G R T Z) (f : Nat) (L : ZLV) (st : List Value) (σ : ZHp) (n k w : Nat) : Z (f + 1) 0 L st σ n k w = s_aload 0 1 L st σ n k w (zk1 cut G (Z f)) G R T := zrs hZ rfl f L st σ n k w
theorem f_X11_copy_1 (hZ : ZRN (ztb (tb_X11_copy E d mc ms)) cut G R T Z) (f : Nat) (L : ZLV) (st : List Value) (σ : ZHp) (n k w : Nat) : Z (f + 1) 1 L st σ n k w = s_getf 10 0 4 L st σ n k w (zk1 cut G (Z f)) G R T := zrs hZ rfl f L st σ n k w
theorem f_X11_copy_4 (hZ : ZRN (ztb (tb_X11_copy E d mc ms)) cut G R T Z) (f : Nat) (L : ZLV) (st : List Value) (σ : ZHp) (n k w : Nat) : Z (f + 1) 4 L st σ n k w = s_aload 1 5 L st σ n k w (zk1 cut G (Z f)) G R T := zrs hZ rfl f L st σ n k w
theorem f_X11_copy_5 (hZ : ZRN (ztb (tb_X11_copy E d mc ms)) cut G R T Z) (f : Nat) (L : ZLV) (st : List Value) (σ : ZHp) (n k w : Nat) : Z (f + 1) 5 L st σ n k w = s_getf 10 0 8 L st σ n k w (zk1 cut G (Z f)) G R T := zrs hZ rfl f L st σ n k w
theorem f_X11_copy_8 (hZ : ZRN (ztb (tb_X11_copy E d mc ms)) cut G R T Z) (f : Nat) (L : ZLV) (st : List Value) (σ : ZHp) (n k w : Nat) : Z (f + 1) 8 L st σ n k w = s_callV E d mc ms 4 MX5_copy 1 11 L st σ n k w (zk1 cut G (Z f)) G R T := zrs hZ rfl f L st σ n k w
theorem f_X11_copy_11 (hZ : ZRN (ztb (tb_X11_copy E d mc ms)) cut G R T Z) (f : Nat) (L : ZLV) (st : List Value) (σ : ZHp) (n k w : Nat) : Z (f + 1) 11 L st σ n k w = s_aload 0 12 L st σ n k w (zk1 cut G (Z f)) G R T := zrs hZ rfl f L st σ n k w
theorem f_X11_copy_12 (hZ : ZRN (ztb (tb_X11_copy E d mc ms)) cut G R T Z) (f : Nat) (L : ZLV) (st : List Value) (σ : ZHp) (n k w : Nat) : Z (f + 1) 12 L st σ n k w = s_getf 10 1 15 L st σ n k w (zk1 cut G (Z f)) G R T := zrs hZ rfl f L st σ n k w
theorem f_X11_copy_15 (hZ : ZRN (ztb (tb_X11_copy E d mc ms)) cut G R T Z) (f : Nat) (L : ZLV) (st : List Value) (σ : ZHp) (n k w : Nat) : Z (f + 1) 15 L st σ n k w = s_aload 1 16 L st σ n k w (zk1 cut G (Z f)) G R T := zrs hZ rfl f L st σ n k w
theorem f_X11_copy_16 (hZ : ZRN (ztb (tb_X11_copy E d mc ms)) cut G R T Z) (f : Nat) (L : ZLV) (st : List Value) (σ : ZHp) (n k w : Nat) : Z (f + 1) 16 L st σ n k w = s_getf 10 1 19 L st σ n k w (zk1 cut G (Z f)) G R T := zrs hZ rfl f L st σ n k w
theorem f_X11_copy_19 (hZ : ZRN (ztb (tb_X11_copy E d mc ms)) cut G R T Z) (f : Nat) (L : ZLV) (st : List Value) (σ : ZHp) (n k w : Nat) : Z (f + 1) 19 L st σ n k w = s_callV E d mc ms 4 MX5_copy 1 22 L st σ n k w (zk1 cut G (Z f)) G R T := zrs hZ rfl f L st σ n k w
theorem f_X11_copy_22 (hZ : ZRN (ztb (tb_X11_copy E d mc ms)) cut G R T Z) (f : Nat) (L : ZLV) (st : List Value) (σ : ZHp) (n k w : Nat) : Z (f + 1) 22 L st σ n k w = s_aload 0 23 L st σ n k w (zk1 cut G (Z f)) G R T := zrs hZ rfl f L st σ n k w
theorem f_X11_copy_23 (hZ : ZRN (ztb (tb_X11_copy E d mc ms)) cut G R T Z) (f : Nat) (L : ZLV) (st : List Value) (σ : ZHp) (n k w : Nat) : Z (f + 1) 23 L st σ n k w = s_getf 10 2 26 L st σ n k w (zk1 cut G (Z f)) G R T := zrs hZ rfl f L st σ n k w
theorem f_X11_copy_26 (hZ : ZRN (ztb (tb_X11_copy E d mc ms)) cut G R T Z) (f : Nat) (L : ZLV) (st : List Value) (σ : ZHp) (n k w : Nat) : Z (f + 1) 26 L st σ n k w = s_aload 1 27 L st σ n k w (zk1 cut G (Z f)) G R T := zrs hZ rfl f L st σ n k w
theorem f_X11_copy_27 (hZ : ZRN (ztb (tb_X11_copy E d mc ms)) cut G R T Z) (f : Nat) (L : ZLV) (st : List Value) (σ : ZHp) (n k w : Nat) : Z (f + 1) 27 L st σ n k w = s_getf 10 2 30 L st σ n k w (zk1 cut G (Z f)) G R T := zrs hZ rfl f L st σ n k w
theorem f_X11_copy_30 (hZ : ZRN (ztb (tb_X11_copy E d mc ms)) cut G R T Z) (f : Nat) (L : ZLV) (st : List Value) (σ : ZHp) (n k w : Nat) : Z (f + 1) 30 L st σ n k w = s_callV E d mc ms 4 MX5_copy 1 33 L st σ n k w (zk1 cut G (Z f)) G R T := zrs hZ rfl f L st σ n k w
theorem f_X11_copy_33 (hZ : ZRN (ztb (tb_X11_copy E d mc ms)) cut G R T Z) (f : Nat) (L : ZLV) (st : List Value) (σ : ZHp) (n k w : Nat) : Z (f + 1) 33 L st σ n k w = s_aload 0 34 L st σ n k w (zk1 cut G (Z f)) G R T := zrs hZ rfl f L st σ n k w
theorem f_X11_copy_34 (hZ : ZRN (ztb (tb_X11_copy E d mc ms)) cut G R T Z) (f : Nat) (L : ZLV) (st : List Value) (σ : ZHp) (n k w : Nat) : Z (f + 1) 34 L st σ n k w = s_aload 1 35 L st σ n k w (zk1 cut G (Z f)) G R T := zrs hZ rfl f L st σ n k w
theorem f_X11_copy_35 (hZ : ZRN (ztb (tb_X11_copy E d mc ms)) cut G R T Z) (f : Nat) (L : ZLV) (st : List Value) (σ : ZHp) (n k w : Nat) : Z (f + 1) 35 L st σ n k w = s_getf 10 3 38 L st σ n k w (zk1 cut G (Z f)) G R T := zrs hZ rfl f L st σ n k w
theorem f_X11_copy_38 (hZ : ZRN (ztb (tb_X11_copy E d mc ms)) cut G R T Z) (f : Nat) (L : ZLV) (st : List Value) (σ : ZHp) (n k w : Nat) : Z (f + 1) 38 L st σ n k w = s_putf 10 3 0 41 L st σ n k w (zk1 cut G (Z f)) G R T := zrs hZ rfl f L st σ n k w
theorem f_X11_copy_41 (hZ : ZRN (ztb (tb_X11_copy E d mc ms)) cut G R T Z) (f : Nat) (L : ZLV) (st : List Value) (σ : ZHp) (n k w : Nat) : Z (f + 1) 41 L st σ n k w = s_aload 0 42 L st σ n k w (zk1 cut G (Z f)) G R T := zrs hZ rfl f L st σ n k w
theorem f_X11_copy_42 (hZ : ZRN (ztb (tb_X11_copy E d mc ms)) cut G R T Z) (f : Nat) (L : ZLV) (st : List Value) (σ : ZHp) (n k w : Nat) : Z (f + 1) 42 L st σ n k w = s_aload 1 43 L st σ n k w (zk1 cut G (Z f)) G R T := zrs hZ rfl f L st σ n k w
theorem f_X11_copy_43 (hZ : ZRN (ztb (tb_X11_copy E d mc ms)) cut G R T Z) (f : Nat) (L : ZLV) (st : List Value) (σ : ZHp) (n k w : Nat) : Z (f + 1) 43 L st σ n k w = s_getf 10 4 46 L st σ n k w (zk1 cut G (Z f)) G R T := zrs hZ rfl f L st σ n k w
theorem f_X11_copy_46 (hZ : ZRN (ztb (tb_X11_copy E d mc ms)) cut G R T Z) (f : Nat) (L : ZLV) (st : List Value) (σ : ZHp) (n k w : Nat) : Z (f + 1) 46 L st σ n k w = s_putf 10 4 0 49 L st σ n k w (zk1 cut G (Z f)) G R T := zrs hZ rfl f L st σ n k w
theorem f_X11_copy_49 (hZ : ZRN (ztb (tb_X11_copy E d mc ms)) cut G R T Z) (f : Nat) (L : ZLV) (st : List Value) (σ : ZHp) (n k w : Nat) : Z (f + 1) 49 L st σ n k w = s_aload 0 50 L st σ n k w (zk1 cut G (Z f)) G R T := zrs hZ rfl f L st σ n k w
theorem f_X11_copy_50 (hZ : ZRN (ztb (tb_X11_copy E d mc ms)) cut G R T Z) (f : Nat) (L : ZLV) (st : List Value) (σ : ZHp) (n k w : Nat) : Z (f + 1) 50 L st σ n k w = s_aload 1 51 L st σ n k w (zk1 cut G (Z f)) G R T := zrs hZ rfl f L st σ n k w
theorem f_X11_copy_51 (hZ : ZRN (ztb (tb_X11_copy E d mc ms)) cut G R T Z) (f : Nat) (L : ZLV) (st : List Value) (σ : ZHp) (n k w : Nat) : Z (f + 1) 51 L st σ n k w = s_getf 10 5 54 L st σ n k w (zk1 cut G (Z f)) G R T := zrs hZ rfl f L st σ n k w
theorem f_X11_copy_54 (hZ : ZRN (ztb (tb_X11_copy E d mc ms)) cut G R T Z) (f : Nat) (L : ZLV) (st : List Value) (σ : ZHp) (n k w : Nat) : Z (f + 1) 54 L st σ n k w = s_putf 10 5 0 57 L st σ n k w (zk1 cut G (Z f)) G R T := zrs hZ rfl f L st σ n k w
theorem f_X11_copy_57 (hZ : ZRN (ztb (tb_X11_copy E d mc ms)) cut G R T Z) (f : Nat) (L : ZLV) (st : List Value) (σ : ZHp) (n k w : Nat) : Z (f + 1) 57 L st σ n k w = s_aload 0 58 L st σ n k w (zk1 cut G (Z f)) G R T := zrs hZ rfl f L st σ n k w
theorem f_X11_copy_58 (hZ : ZRN (ztb (tb_X11_copy E d mc ms)) cut G R T Z) (f : Nat) (L : ZLV) (st : List Value) (σ : ZHp) (n k w : Nat) : Z (f + 1) 58 L st σ n k w = s_aload 1 59 L st σ n k w (zk1 cut G (Z f)) G R T := zrs hZ rfl f L st σ n k w
theorem f_X11_copy_59 (hZ : ZRN (ztb (tb_X11_copy E d mc ms)) cut G R T Z) (f : Nat) (L : ZLV) (st : List Value) (σ : ZHp) (n k w : Nat) : Z (f + 1) 59 L st σ n k w = s_getf 10 6 62 L st σ n k w (zk1 cut G (Z f)) G R T := zrs hZ rfl f L st σ n k w
theorem f_X11_copy_62 (hZ : ZRN (ztb (tb_X11_copy E d mc ms)) cut G R T Z) (f : Nat) (L : ZLV) (st : List Value) (σ : ZHp) (n k w : Nat) : Z (f + 1) 62 L st σ n k w = s_putf 10 6 0 65 L st σ n k w (zk1 cut G (Z f)) G R T := zrs hZ rfl f L st σ n k w
theorem f_X11_copy_65 (hZ : ZRN (ztb (tb_X11_copy E d mc ms)) cut G R T Z) (f : Nat) (L : ZLV) (st : List Value) (σ : ZHp) (n k w : Nat) : Z (f + 1) 65 L st σ n k w = s_aload 0 66 L st σ n k w (zk1 cut G (Z f)) G R T := zrs hZ rfl f L st σ n k w
theorem f_X11_copy_66 (hZ : ZRN (ztb (tb_X11_copy E d mc ms)) cut G R T Z) (f : Nat) (L : ZLV) (st : List Value) (σ : ZHp) (n k w : Nat) : Z (f + 1) 66 L st σ n k w = s_aload 1 67 L st σ n k w (zk1 cut G (Z f)) G R T := zrs hZ rfl f L st σ n k w
theorem f_X11_copy_67 (hZ : ZRN (ztb (tb_X11_copy E d mc ms)) cut G R T Z) (f : Nat) (L : ZLV) (st : List Value) (σ : ZHp) (n k w : Nat) : Z (f + 1) 67 L st σ n k w = s_getf 10 7 70 L st σ n k w (zk1 cut G (Z f)) G R T := zrs hZ rfl f L st σ n k w
theorem f_X11_copy_70 (hZ : ZRN (ztb (tb_X11_copy E d mc ms)) cut G R T Z) (f : Nat) (L : ZLV) (st : List Value) (σ : ZHp) (n k w : Nat) : Z (f + 1) 70 L st σ n k w = s_putf 10 7 0 73 L st σ n k w (zk1 cut G (Z f)) G R T := zrs hZ rfl f L st σ n k w
theorem f_X11_copy_73 (hZ : ZRN (ztb (tb_X11_copy E d mc ms)) cut G R T Z) (f : Nat) (L : ZLV) (st : List Value) (σ : ZHp) (n k w : Nat) : Z (f + 1) 73 L st σ n k w = s_aload 0 74 L st σ n k w (zk1 cut G (Z f)) G R T := zrs hZ rfl f L st σ n k w
theorem f_X11_copy_74 (hZ : ZRN (ztb (tb_X11_copy E d mc ms)) cut G R T Z) (f : Nat) (L : ZLV) (st : List Value) (σ : ZHp) (n k w : Nat) : Z (f + 1) 74 L st σ n k w = s_aload 1 75 L st σ n k w (zk1 cut G (Z f)) G R T := zrs hZ rfl f L st σ n k w
theorem f_X11_copy_75 (hZ : ZRN (ztb (tb_X11_copy E d mc ms)) cut G R T Z) (f : Nat) (L : ZLV) (st : List Value) (σ : ZHp) (n k w : Nat) : Z (f + 1) 75 L st σ n k w = s_getf 10 8 78 L st σ n k w (zk1 cut G (Z f)) G R T := zrs hZ rfl f L st σ n k w
theorem f_X11_copy_78 (hZ : ZRN (ztb (tb_X11_copy E d mc ms)) cut G R T Z) (f : Nat) (L : ZLV) (st : List Value) (σ : ZHp) (n k w : Nat) : Z (f + 1) 78 L st σ n k w = s_putf 10 8 0 81 L st σ n k w (zk1 cut G (Z f)) G R T := zrs hZ rfl f L st σ n k w
theorem f_X11_copy_81 (hZ : ZRN (ztb (tb_X11_copy E d mc ms)) cut G R T Z) (f : Nat) (L : ZLV) (st : List Value) (σ : ZHp) (n k w : Nat) : Z (f + 1) 81 L st σ n k w = s_aload 0 82 L st σ n k w (zk1 cut G (Z f)) G R T := zrs hZ rfl f L st σ n k w
theorem f_X11_copy_82 (hZ : ZRN (ztb (tb_X11_copy E d mc ms)) cut G R T Z) (f : Nat) (L : ZLV) (st : List Value) (σ : ZHp) (n k w : Nat) : Z (f + 1) 82 L st σ n k w = s_aload 1 83 L st σ n k w (zk1 cut G (Z f)) G R T := zrs hZ rfl f L st σ n k w
theorem f_X11_copy_83 (hZ : ZRN (ztb (tb_X11_copy E d mc ms)) cut G R T Z) (f : Nat) (L : ZLV) (st : List Value) (σ : ZHp) (n k w : Nat) : Z (f + 1) 83 L st σ n k w = s_getf 10 9 86 L st σ n k w (zk1 cut G (Z f)) G R T := zrs hZ rfl f L st σ n k w
theorem f_X11_copy_86 (hZ : ZRN (ztb (tb_X11_copy E d mc ms)) cut G R T Z) (f : Nat) (L : ZLV) (st : List Value) (σ : ZHp) (n k w : Nat) : Z (f + 1) 86 L st σ n k w = s_putf 10 9 0 89 L st σ n k w (zk1 cut G (Z f)) G R T := zrs hZ rfl f L st σ n k w
theorem f_X11_copy_89 (hZ : ZRN (ztb (tb_X11_copy E d mc ms)) cut G R T Z) (f : Nat) (L : ZLV) (st : List Value) (σ : ZHp) (n k w : Nat) : Z (f + 1) 89 L st σ n k w = s_return L st σ n k w (zk1 cut G (Z f)) G R T := zrs hZ rfl f L st σ n k w
theorem f_X11_number_0 (hZ : ZRN (ztb (tb_X11_number E d mc ms)) cut G R T Z) (f : Nat) (L : ZLV) (st : List Value) (σ : ZHp) (n k w : Nat) : Z (f + 1) 0 L st σ n k w = s_iload 1 1 L st σ n k w (zk1 cut G (Z f)) G R T := zrs hZ rfl f L st σ n k w
theorem f_X11_number_1 (hZ : ZRN (ztb (tb_X11_number E d mc ms)) cut G R T Z) (f : Nat) (L : ZLV) (st : List Value) (σ : ZHp) (n k w : Nat) : Z (f + 1) 1 L st σ n k w = s_tsw 0 [48, 53, 61, 86, 66, 71, 76, 81] 86 L st σ n k w (zk1 cut G (Z f)) G R T := zrs hZ rfl f L st σ n k w
theorem f_X11_number_48 (hZ : ZRN (ztb (tb_X11_number E d mc ms)) cut G R T Z) (f : Nat) (L : ZLV) (st : List Value) (σ : ZHp) (n k w : Nat) : Z (f + 1) 48 L st σ n k w = s_aload 0 49 L st σ n k w (zk1 cut G (Z f)) G R T := zrs hZ rfl f L st σ n k w
theorem f_X11_number_49 (hZ : ZRN (ztb (tb_X11_number E d mc ms)) cut G R T Z) (f : Nat) (L : ZLV) (st : List Value) (σ : ZHp) (n k w : Nat) : Z (f + 1) 49 L st σ n k w = s_callV E d mc ms 10 MX11_deckSize 0 52 L st σ n k w (zk1 cut G (Z f)) G R T := zrs hZ rfl f L st σ n k w
theorem f_X11_number_52 (hZ : ZRN (ztb (tb_X11_number E d mc ms)) cut G R T Z) (f : Nat) (L : ZLV) (st : List Value) (σ : ZHp) (n k w : Nat) : Z (f + 1) 52 L st σ n k w = s_ireturn L st σ n k w (zk1 cut G (Z f)) G R T := zrs hZ rfl f L st σ n k w
theorem f_X11_number_53 (hZ : ZRN (ztb (tb_X11_number E d mc ms)) cut G R T Z) (f : Nat) (L : ZLV) (st : List Value) (σ : ZHp) (n k w : Nat) : Z (f + 1) 53 L st σ n k w = s_aload 0 54 L st σ n k w (zk1 cut G (Z f)) G R T := zrs hZ rfl f L st σ n k w
theorem f_X11_number_54 (hZ : ZRN (ztb (tb_X11_number E d mc ms)) cut G R T Z) (f : Nat) (L : ZLV) (st : List Value) (σ : ZHp) (n k w : Nat) : Z (f + 1) 54 L st σ n k w = s_getf 10 1 57 L st σ n k w (zk1 cut G (Z f)) G R T := zrs hZ rfl f L st σ n k w
theorem f_X11_number_57 (hZ : ZRN (ztb (tb_X11_number E d mc ms)) cut G R T Z) (f : Nat) (L : ZLV) (st : List Value) (σ : ZHp) (n k w : Nat) : Z (f + 1) 57 L st σ n k w = s_callV E d mc ms 4 MX5_size 0 60 L st σ n k w (zk1 cut G (Z f)) G R T := zrs hZ rfl f L st σ n k w
theorem f_X11_number_60 (hZ : ZRN (ztb (tb_X11_number E d mc ms)) cut G R T Z) (f : Nat) (L : ZLV) (st : List Value) (σ : ZHp) (n k w : Nat) : Z (f + 1) 60 L st σ n k w = s_ireturn L st σ n k w (zk1 cut G (Z f)) G R T := zrs hZ rfl f L st σ n k w
theorem f_X11_number_61 (hZ : ZRN (ztb (tb_X11_number E d mc ms)) cut G R T Z) (f : Nat) (L : ZLV) (st : List Value) (σ : ZHp) (n k w : Nat) : Z (f + 1) 61 L st σ n k w = s_aload 0 62 L st σ n k w (zk1 cut G (Z f)) G R T := zrs hZ rfl f L st σ n k w
theorem f_X11_number_62 (hZ : ZRN (ztb (tb_X11_number E d mc ms)) cut G R T Z) (f : Nat) (L : ZLV) (st : List Value) (σ : ZHp) (n k w : Nat) : Z (f + 1) 62 L st σ n k w = s_getf 10 5 65 L st σ n k w (zk1 cut G (Z f)) G R T := zrs hZ rfl f L st σ n k w
theorem f_X11_number_65 (hZ : ZRN (ztb (tb_X11_number E d mc ms)) cut G R T Z) (f : Nat) (L : ZLV) (st : List Value) (σ : ZHp) (n k w : Nat) : Z (f + 1) 65 L st σ n k w = s_ireturn L st σ n k w (zk1 cut G (Z f)) G R T := zrs hZ rfl f L st σ n k w
theorem f_X11_number_66 (hZ : ZRN (ztb (tb_X11_number E d mc ms)) cut G R T Z) (f : Nat) (L : ZLV) (st : List Value) (σ : ZHp) (n k w : Nat) : Z (f + 1) 66 L st σ n k w = s_aload 0 67 L st σ n k w (zk1 cut G (Z f)) G R T := zrs hZ rfl f L st σ n k w
theorem f_X11_number_67 (hZ : ZRN (ztb (tb_X11_number E d mc ms)) cut G R T Z) (f : Nat) (L : ZLV) (st : List Value) (σ : ZHp) (n k w : Nat) : Z (f + 1) 67 L st σ n k w = s_getf 10 6 70 L st σ n k w (zk1 cut G (Z f)) G R T := zrs hZ rfl f L st σ n k w
theorem f_X11_number_70 (hZ : ZRN (ztb (tb_X11_number E d mc ms)) cut G R T Z) (f : Nat) (L : ZLV) (st : List Value) (σ : ZHp) (n k w : Nat) : Z (f + 1) 70 L st σ n k w = s_ireturn L st σ n k w (zk1 cut G (Z f)) G R T := zrs hZ rfl f L st σ n k w
theorem f_X11_number_71 (hZ : ZRN (ztb (tb_X11_number E d mc ms)) cut G R T Z) (f : Nat) (L : ZLV) (st : List Value) (σ : ZHp) (n k w : Nat) : Z (f + 1) 71 L st σ n k w = s_aload 0 72 L st σ n k w (zk1 cut G (Z f)) G R T := zrs hZ rfl f L st σ n k w
theorem f_X11_number_72 (hZ : ZRN (ztb (tb_X11_number E d mc ms)) cut G R T Z) (f : Nat) (L : ZLV) (st : List Value) (σ : ZHp) (n k w : Nat) : Z (f + 1) 72 L st σ n k w = s_getf 10 7 75 L st σ n k w (zk1 cut G (Z f)) G R T := zrs hZ rfl f L st σ n k w
theorem f_X11_number_75 (hZ : ZRN (ztb (tb_X11_number E d mc ms)) cut G R T Z) (f : Nat) (L : ZLV) (st : List Value) (σ : ZHp) (n k w : Nat) : Z (f + 1) 75 L st σ n k w = s_ireturn L st σ n k w (zk1 cut G (Z f)) G R T := zrs hZ rfl f L st σ n k w
theorem f_X11_number_76 (hZ : ZRN (ztb (tb_X11_number E d mc ms)) cut G R T Z) (f : Nat) (L : ZLV) (st : List Value) (σ : ZHp) (n k w : Nat) : Z (f + 1) 76 L st σ n k w = s_aload 0 77 L st σ n k w (zk1 cut G (Z f)) G R T := zrs hZ rfl f L st σ n k w
theorem f_X11_number_77 (hZ : ZRN (ztb (tb_X11_number E d mc ms)) cut G R T Z) (f : Nat) (L : ZLV) (st : List Value) (σ : ZHp) (n k w : Nat) : Z (f + 1) 77 L st σ n k w = s_getf 10 8 80 L st σ n k w (zk1 cut G (Z f)) G R T := zrs hZ rfl f L st σ n k w
theorem f_X11_number_80 (hZ : ZRN (ztb (tb_X11_number E d mc ms)) cut G R T Z) (f : Nat) (L : ZLV) (st : List Value) (σ : ZHp) (n k w : Nat) : Z (f + 1) 80 L st σ n k w = s_ireturn L st σ n k w (zk1 cut G (Z f)) G R T := zrs hZ rfl f L st σ n k w
theorem f_X11_number_81 (hZ : ZRN (ztb (tb_X11_number E d mc ms)) cut G R T Z) (f : Nat) (L : ZLV) (st : List Value) (σ : ZHp) (n k w : Nat) : Z (f + 1) 81 L st σ n k w = s_aload 0 82 L st σ n k w (zk1 cut G (Z f)) G R T := zrs hZ rfl f L st σ n k w
theorem f_X11_number_82 (hZ : ZRN (ztb (tb_X11_number E d mc ms)) cut G R T Z) (f : Nat) (L : ZLV) (st : List Value) (σ : ZHp) (n k w : Nat) : Z (f + 1) 82 L st σ n k w = s_getf 10 9 85 L st σ n k w (zk1 cut G (Z f)) G R T := zrs hZ rfl f L st σ n k w
theorem f_X11_number_85 (hZ : ZRN (ztb (tb_X11_number E d mc ms)) cut G R T Z) (f : Nat) (L : ZLV) (st : List Value) (σ : ZHp) (n k w : Nat) : Z (f + 1) 85 L st σ n k w = s_ireturn L st σ n k w (zk1 cut G (Z f)) G R T := zrs hZ rfl f L st σ n k w
theorem f_X11_number_86 (hZ : ZRN (ztb (tb_X11_number E d mc ms)) cut G R T Z) (f : Nat) (L : ZLV) (st : List Value) (σ : ZHp) (n k w : Nat) : Z (f + 1) 86 L st σ n k w = s_const (.int (0)) 87 L st σ n k w (zk1 cut G (Z f)) G R T := zrs hZ rfl f L st σ n k w
theorem f_X11_number_87 (hZ : ZRN (ztb (tb_X11_number E d mc ms)) cut G R T Z) (f : Nat) (L : ZLV) (st : List Value) (σ : ZHp) (n k w : Nat) : Z (f + 1) 87 L st σ n k w = s_ireturn L st σ n k w (zk1 cut G (Z f)) G R T := zrs hZ rfl f L st σ n k w
theorem f_X11_deckSize_0 (hZ : ZRN (ztb (tb_X11_deckSize E d mc ms)) cut G R T Z) (f : Nat) (L : ZLV) (st : List Value) (σ : ZHp) (n k w : Nat) : Z (f + 1) 0 L st σ n k w = s_aload 0 1 L st σ n k w (zk1 cut G (Z f)) G R T := zrs hZ rfl f L st σ n k w
theorem f_X11_deckSize_1 (hZ : ZRN (ztb (tb_X11_deckSize E d mc ms)) cut G R T Z) (f : Nat) (L : ZLV) (st : List Value) (σ : ZHp) (n k w : Nat) : Z (f + 1) 1 L st σ n k w = s_getf 10 0 4 L st σ n k w (zk1 cut G (Z f)) G R T := zrs hZ rfl f L st σ n k w
theorem f_X11_deckSize_4 (hZ : ZRN (ztb (tb_X11_deckSize E d mc ms)) cut G R T Z) (f : Nat) (L : ZLV) (st : List Value) (σ : ZHp) (n k w : Nat) : Z (f + 1) 4 L st σ n k w = s_callV E d mc ms 4 MX5_size 0 7 L st σ n k w (zk1 cut G (Z f)) G R T := zrs hZ rfl f L st σ n k w
theorem f_X11_deckSize_7 (hZ : ZRN (ztb (tb_X11_deckSize E d mc ms)) cut G R T Z) (f : Nat) (L : ZLV) (st : List Value) (σ : ZHp) (n k w : Nat) : Z (f + 1) 7 L st σ n k w = s_aload 0 8 L st σ n k w (zk1 cut G (Z f)) G R T := zrs hZ rfl f L st σ n k w
theorem f_X11_deckSize_8 (hZ : ZRN (ztb (tb_X11_deckSize E d mc ms)) cut G R T Z) (f : Nat) (L : ZLV) (st : List Value) (σ : ZHp) (n k w : Nat) : Z (f + 1) 8 L st σ n k w = s_getf 10 3 11 L st σ n k w (zk1 cut G (Z f)) G R T := zrs hZ rfl f L st σ n k w
theorem f_X11_deckSize_11 (hZ : ZRN (ztb (tb_X11_deckSize E d mc ms)) cut G R T Z) (f : Nat) (L : ZLV) (st : List Value) (σ : ZHp) (n k w : Nat) : Z (f + 1) 11 L st σ n k w = s_isub 12 L st σ n k w (zk1 cut G (Z f)) G R T := zrs hZ rfl f L st σ n k w
theorem f_X11_deckSize_12 (hZ : ZRN (ztb (tb_X11_deckSize E d mc ms)) cut G R T Z) (f : Nat) (L : ZLV) (st : List Value) (σ : ZHp) (n k w : Nat) : Z (f + 1) 12 L st σ n k w = s_ireturn L st σ n k w (zk1 cut G (Z f)) G R T := zrs hZ rfl f L st σ n k w
theorem f_X11_deckCard_0 (hZ : ZRN (ztb (tb_X11_deckCard E d mc ms)) cut G R T Z) (f : Nat) (L : ZLV) (st : List Value) (σ : ZHp) (n k w : Nat) : Z (f + 1) 0 L st σ n k w = s_aload 0 1 L st σ n k w (zk1 cut G (Z f)) G R T := zrs hZ rfl f L st σ n k w
theorem f_X11_deckCard_1 (hZ : ZRN (ztb (tb_X11_deckCard E d mc ms)) cut G R T Z) (f : Nat) (L : ZLV) (st : List Value) (σ : ZHp) (n k w : Nat) : Z (f + 1) 1 L st σ n k w = s_getf 10 0 4 L st σ n k w (zk1 cut G (Z f)) G R T := zrs hZ rfl f L st σ n k w
theorem f_X11_deckCard_4 (hZ : ZRN (ztb (tb_X11_deckCard E d mc ms)) cut G R T Z) (f : Nat) (L : ZLV) (st : List Value) (σ : ZHp) (n k w : Nat) : Z (f + 1) 4 L st σ n k w = s_aload 0 5 L st σ n k w (zk1 cut G (Z f)) G R T := zrs hZ rfl f L st σ n k w
theorem f_X11_deckCard_5 (hZ : ZRN (ztb (tb_X11_deckCard E d mc ms)) cut G R T Z) (f : Nat) (L : ZLV) (st : List Value) (σ : ZHp) (n k w : Nat) : Z (f + 1) 5 L st σ n k w = s_getf 10 3 8 L st σ n k w (zk1 cut G (Z f)) G R T := zrs hZ rfl f L st σ n k w
theorem f_X11_deckCard_8 (hZ : ZRN (ztb (tb_X11_deckCard E d mc ms)) cut G R T Z) (f : Nat) (L : ZLV) (st : List Value) (σ : ZHp) (n k w : Nat) : Z (f + 1) 8 L st σ n k w = s_iload 1 9 L st σ n k w (zk1 cut G (Z f)) G R T := zrs hZ rfl f L st σ n k w
theorem f_X11_deckCard_9 (hZ : ZRN (ztb (tb_X11_deckCard E d mc ms)) cut G R T Z) (f : Nat) (L : ZLV) (st : List Value) (σ : ZHp) (n k w : Nat) : Z (f + 1) 9 L st σ n k w = s_iadd 10 L st σ n k w (zk1 cut G (Z f)) G R T := zrs hZ rfl f L st σ n k w
theorem f_X11_deckCard_10 (hZ : ZRN (ztb (tb_X11_deckCard E d mc ms)) cut G R T Z) (f : Nat) (L : ZLV) (st : List Value) (σ : ZHp) (n k w : Nat) : Z (f + 1) 10 L st σ n k w = s_callV E d mc ms 4 MX5_get 1 13 L st σ n k w (zk1 cut G (Z f)) G R T := zrs hZ rfl f L st σ n k w
theorem f_X11_deckCard_13 (hZ : ZRN (ztb (tb_X11_deckCard E d mc ms)) cut G R T Z) (f : Nat) (L : ZLV) (st : List Value) (σ : ZHp) (n k w : Nat) : Z (f + 1) 13 L st σ n k w = s_ireturn L st σ n k w (zk1 cut G (Z f)) G R T := zrs hZ rfl f L st σ n k w
theorem f_X11_drawTop_0 (hZ : ZRN (ztb (tb_X11_drawTop E d mc ms)) cut G R T Z) (f : Nat) (L : ZLV) (st : List Value) (σ : ZHp) (n k w : Nat) : Z (f + 1) 0 L st σ n k w = s_aload 0 1 L st σ n k w (zk1 cut G (Z f)) G R T := zrs hZ rfl f L st σ n k w
theorem f_X11_drawTop_1 (hZ : ZRN (ztb (tb_X11_drawTop E d mc ms)) cut G R T Z) (f : Nat) (L : ZLV) (st : List Value) (σ : ZHp) (n k w : Nat) : Z (f + 1) 1 L st σ n k w = s_dup 2 L st σ n k w (zk1 cut G (Z f)) G R T := zrs hZ rfl f L st σ n k w
theorem f_X11_drawTop_2 (hZ : ZRN (ztb (tb_X11_drawTop E d mc ms)) cut G R T Z) (f : Nat) (L : ZLV) (st : List Value) (σ : ZHp) (n k w : Nat) : Z (f + 1) 2 L st σ n k w = s_getf 10 3 5 L st σ n k w (zk1 cut G (Z f)) G R T := zrs hZ rfl f L st σ n k w
theorem f_X11_drawTop_5 (hZ : ZRN (ztb (tb_X11_drawTop E d mc ms)) cut G R T Z) (f : Nat) (L : ZLV) (st : List Value) (σ : ZHp) (n k w : Nat) : Z (f + 1) 5 L st σ n k w = s_const (.int (1)) 6 L st σ n k w (zk1 cut G (Z f)) G R T := zrs hZ rfl f L st σ n k w
theorem f_X11_drawTop_6 (hZ : ZRN (ztb (tb_X11_drawTop E d mc ms)) cut G R T Z) (f : Nat) (L : ZLV) (st : List Value) (σ : ZHp) (n k w : Nat) : Z (f + 1) 6 L st σ n k w = s_iadd 7 L st σ n k w (zk1 cut G (Z f)) G R T := zrs hZ rfl f L st σ n k w
theorem f_X11_drawTop_7 (hZ : ZRN (ztb (tb_X11_drawTop E d mc ms)) cut G R T Z) (f : Nat) (L : ZLV) (st : List Value) (σ : ZHp) (n k w : Nat) : Z (f + 1) 7 L st σ n k w = s_putf 10 3 0 10 L st σ n k w (zk1 cut G (Z f)) G R T := zrs hZ rfl f L st σ n k w
theorem f_X11_drawTop_10 (hZ : ZRN (ztb (tb_X11_drawTop E d mc ms)) cut G R T Z) (f : Nat) (L : ZLV) (st : List Value) (σ : ZHp) (n k w : Nat) : Z (f + 1) 10 L st σ n k w = s_aload 0 11 L st σ n k w (zk1 cut G (Z f)) G R T := zrs hZ rfl f L st σ n k w
theorem f_X11_drawTop_11 (hZ : ZRN (ztb (tb_X11_drawTop E d mc ms)) cut G R T Z) (f : Nat) (L : ZLV) (st : List Value) (σ : ZHp) (n k w : Nat) : Z (f + 1) 11 L st σ n k w = s_getf 10 0 14 L st σ n k w (zk1 cut G (Z f)) G R T := zrs hZ rfl f L st σ n k w
theorem f_X11_drawTop_14 (hZ : ZRN (ztb (tb_X11_drawTop E d mc ms)) cut G R T Z) (f : Nat) (L : ZLV) (st : List Value) (σ : ZHp) (n k w : Nat) : Z (f + 1) 14 L st σ n k w = s_aload 0 15 L st σ n k w (zk1 cut G (Z f)) G R T := zrs hZ rfl f L st σ n k w
theorem f_X11_drawTop_15 (hZ : ZRN (ztb (tb_X11_drawTop E d mc ms)) cut G R T Z) (f : Nat) (L : ZLV) (st : List Value) (σ : ZHp) (n k w : Nat) : Z (f + 1) 15 L st σ n k w = s_getf 10 3 18 L st σ n k w (zk1 cut G (Z f)) G R T := zrs hZ rfl f L st σ n k w
theorem f_X11_drawTop_18 (hZ : ZRN (ztb (tb_X11_drawTop E d mc ms)) cut G R T Z) (f : Nat) (L : ZLV) (st : List Value) (σ : ZHp) (n k w : Nat) : Z (f + 1) 18 L st σ n k w = s_const (.int (1)) 19 L st σ n k w (zk1 cut G (Z f)) G R T := zrs hZ rfl f L st σ n k w
theorem f_X11_drawTop_19 (hZ : ZRN (ztb (tb_X11_drawTop E d mc ms)) cut G R T Z) (f : Nat) (L : ZLV) (st : List Value) (σ : ZHp) (n k w : Nat) : Z (f + 1) 19 L st σ n k w = s_isub 20 L st σ n k w (zk1 cut G (Z f)) G R T := zrs hZ rfl f L st σ n k w
theorem f_X11_drawTop_20 (hZ : ZRN (ztb (tb_X11_drawTop E d mc ms)) cut G R T Z) (f : Nat) (L : ZLV) (st : List Value) (σ : ZHp) (n k w : Nat) : Z (f + 1) 20 L st σ n k w = s_callV E d mc ms 4 MX5_get 1 23 L st σ n k w (zk1 cut G (Z f)) G R T := zrs hZ rfl f L st σ n k w
theorem f_X11_drawTop_23 (hZ : ZRN (ztb (tb_X11_drawTop E d mc ms)) cut G R T Z) (f : Nat) (L : ZLV) (st : List Value) (σ : ZHp) (n k w : Nat) : Z (f + 1) 23 L st σ n k w = s_ireturn L st σ n k w (zk1 cut G (Z f)) G R T := zrs hZ rfl f L st σ n k w
theorem f_X11_gain_0 (hZ : ZRN (ztb (tb_X11_gain E d mc ms)) cut G R T Z) (f : Nat) (L : ZLV) (st : List Value) (σ : ZHp) (n k w : Nat) : Z (f + 1) 0 L st σ n k w = s_aload 0 1 L st σ n k w (zk1 cut G (Z f)) G R T := zrs hZ rfl f L st σ n k w
theorem f_X11_gain_1 (hZ : ZRN (ztb (tb_X11_gain E d mc ms)) cut G R T Z) (f : Nat) (L : ZLV) (st : List Value) (σ : ZHp) (n k w : Nat) : Z (f + 1) 1 L st σ n k w = s_getf 10 1 4 L st σ n k w (zk1 cut G (Z f)) G R T := zrs hZ rfl f L st σ n k w
theorem f_X11_gain_4 (hZ : ZRN (ztb (tb_X11_gain E d mc ms)) cut G R T Z) (f : Nat) (L : ZLV) (st : List Value) (σ : ZHp) (n k w : Nat) : Z (f + 1) 4 L st σ n k w = s_iload 1 5 L st σ n k w (zk1 cut G (Z f)) G R T := zrs hZ rfl f L st σ n k w
theorem f_X11_gain_5 (hZ : ZRN (ztb (tb_X11_gain E d mc ms)) cut G R T Z) (f : Nat) (L : ZLV) (st : List Value) (σ : ZHp) (n k w : Nat) : Z (f + 1) 5 L st σ n k w = s_callV E d mc ms 4 MX5_add 1 8 L st σ n k w (zk1 cut G (Z f)) G R T := zrs hZ rfl f L st σ n k w
theorem f_X11_gain_8 (hZ : ZRN (ztb (tb_X11_gain E d mc ms)) cut G R T Z) (f : Nat) (L : ZLV) (st : List Value) (σ : ZHp) (n k w : Nat) : Z (f + 1) 8 L st σ n k w = s_aload 0 9 L st σ n k w (zk1 cut G (Z f)) G R T := zrs hZ rfl f L st σ n k w
theorem f_X11_gain_9 (hZ : ZRN (ztb (tb_X11_gain E d mc ms)) cut G R T Z) (f : Nat) (L : ZLV) (st : List Value) (σ : ZHp) (n k w : Nat) : Z (f + 1) 9 L st σ n k w = s_getf 10 2 12 L st σ n k w (zk1 cut G (Z f)) G R T := zrs hZ rfl f L st σ n k w
theorem f_X11_gain_12 (hZ : ZRN (ztb (tb_X11_gain E d mc ms)) cut G R T Z) (f : Nat) (L : ZLV) (st : List Value) (σ : ZHp) (n k w : Nat) : Z (f + 1) 12 L st σ n k w = s_iload 1 13 L st σ n k w (zk1 cut G (Z f)) G R T := zrs hZ rfl f L st σ n k w
theorem f_X11_gain_13 (hZ : ZRN (ztb (tb_X11_gain E d mc ms)) cut G R T Z) (f : Nat) (L : ZLV) (st : List Value) (σ : ZHp) (n k w : Nat) : Z (f + 1) 13 L st σ n k w = s_const (.int (1)) 14 L st σ n k w (zk1 cut G (Z f)) G R T := zrs hZ rfl f L st σ n k w
theorem f_X11_gain_14 (hZ : ZRN (ztb (tb_X11_gain E d mc ms)) cut G R T Z) (f : Nat) (L : ZLV) (st : List Value) (σ : ZHp) (n k w : Nat) : Z (f + 1) 14 L st σ n k w = s_callV E d mc ms 4 MX5_raise 2 17 L st σ n k w (zk1 cut G (Z f)) G R T := zrs hZ rfl f L st σ n k w
theorem f_X11_gain_17 (hZ : ZRN (ztb (tb_X11_gain E d mc ms)) cut G R T Z) (f : Nat) (L : ZLV) (st : List Value) (σ : ZHp) (n k w : Nat) : Z (f + 1) 17 L st σ n k w = s_aload 0 18 L st σ n k w (zk1 cut G (Z f)) G R T := zrs hZ rfl f L st σ n k w
theorem f_X11_gain_18 (hZ : ZRN (ztb (tb_X11_gain E d mc ms)) cut G R T Z) (f : Nat) (L : ZLV) (st : List Value) (σ : ZHp) (n k w : Nat) : Z (f + 1) 18 L st σ n k w = s_dup 19 L st σ n k w (zk1 cut G (Z f)) G R T := zrs hZ rfl f L st σ n k w
theorem f_X11_gain_19 (hZ : ZRN (ztb (tb_X11_gain E d mc ms)) cut G R T Z) (f : Nat) (L : ZLV) (st : List Value) (σ : ZHp) (n k w : Nat) : Z (f + 1) 19 L st σ n k w = s_getf 10 4 22 L st σ n k w (zk1 cut G (Z f)) G R T := zrs hZ rfl f L st σ n k w
theorem f_X11_gain_22 (hZ : ZRN (ztb (tb_X11_gain E d mc ms)) cut G R T Z) (f : Nat) (L : ZLV) (st : List Value) (σ : ZHp) (n k w : Nat) : Z (f + 1) 22 L st σ n k w = s_const (.int (1)) 23 L st σ n k w (zk1 cut G (Z f)) G R T := zrs hZ rfl f L st σ n k w
theorem f_X11_gain_23 (hZ : ZRN (ztb (tb_X11_gain E d mc ms)) cut G R T Z) (f : Nat) (L : ZLV) (st : List Value) (σ : ZHp) (n k w : Nat) : Z (f + 1) 23 L st σ n k w = s_iadd 24 L st σ n k w (zk1 cut G (Z f)) G R T := zrs hZ rfl f L st σ n k w
theorem f_X11_gain_24 (hZ : ZRN (ztb (tb_X11_gain E d mc ms)) cut G R T Z) (f : Nat) (L : ZLV) (st : List Value) (σ : ZHp) (n k w : Nat) : Z (f + 1) 24 L st σ n k w = s_putf 10 4 0 27 L st σ n k w (zk1 cut G (Z f)) G R T := zrs hZ rfl f L st σ n k w
theorem f_X11_gain_27 (hZ : ZRN (ztb (tb_X11_gain E d mc ms)) cut G R T Z) (f : Nat) (L : ZLV) (st : List Value) (σ : ZHp) (n k w : Nat) : Z (f + 1) 27 L st σ n k w = s_return L st σ n k w (zk1 cut G (Z f)) G R T := zrs hZ rfl f L st σ n k w
theorem f_X11_lose_0 (hZ : ZRN (ztb (tb_X11_lose E d mc ms)) cut G R T Z) (f : Nat) (L : ZLV) (st : List Value) (σ : ZHp) (n k w : Nat) : Z (f + 1) 0 L st σ n k w = s_aload 0 1 L st σ n k w (zk1 cut G (Z f)) G R T := zrs hZ rfl f L st σ n k w
theorem f_X11_lose_1 (hZ : ZRN (ztb (tb_X11_lose E d mc ms)) cut G R T Z) (f : Nat) (L : ZLV) (st : List Value) (σ : ZHp) (n k w : Nat) : Z (f + 1) 1 L st σ n k w = s_getf 10 2 4 L st σ n k w (zk1 cut G (Z f)) G R T := zrs hZ rfl f L st σ n k w
theorem f_X11_lose_4 (hZ : ZRN (ztb (tb_X11_lose E d mc ms)) cut G R T Z) (f : Nat) (L : ZLV) (st : List Value) (σ : ZHp) (n k w : Nat) : Z (f + 1) 4 L st σ n k w = s_iload 1 5 L st σ n k w (zk1 cut G (Z f)) G R T := zrs hZ rfl f L st σ n k w
theorem f_X11_lose_5 (hZ : ZRN (ztb (tb_X11_lose E d mc ms)) cut G R T Z) (f : Nat) (L : ZLV) (st : List Value) (σ : ZHp) (n k w : Nat) : Z (f + 1) 5 L st σ n k w = s_const (.int (-1)) 6 L st σ n k w (zk1 cut G (Z f)) G R T := zrs hZ rfl f L st σ n k w
theorem f_X11_lose_6 (hZ : ZRN (ztb (tb_X11_lose E d mc ms)) cut G R T Z) (f : Nat) (L : ZLV) (st : List Value) (σ : ZHp) (n k w : Nat) : Z (f + 1) 6 L st σ n k w = s_callV E d mc ms 4 MX5_raise 2 9 L st σ n k w (zk1 cut G (Z f)) G R T := zrs hZ rfl f L st σ n k w
theorem f_X11_lose_9 (hZ : ZRN (ztb (tb_X11_lose E d mc ms)) cut G R T Z) (f : Nat) (L : ZLV) (st : List Value) (σ : ZHp) (n k w : Nat) : Z (f + 1) 9 L st σ n k w = s_aload 0 10 L st σ n k w (zk1 cut G (Z f)) G R T := zrs hZ rfl f L st σ n k w
theorem f_X11_lose_10 (hZ : ZRN (ztb (tb_X11_lose E d mc ms)) cut G R T Z) (f : Nat) (L : ZLV) (st : List Value) (σ : ZHp) (n k w : Nat) : Z (f + 1) 10 L st σ n k w = s_dup 11 L st σ n k w (zk1 cut G (Z f)) G R T := zrs hZ rfl f L st σ n k w
theorem f_X11_lose_11 (hZ : ZRN (ztb (tb_X11_lose E d mc ms)) cut G R T Z) (f : Nat) (L : ZLV) (st : List Value) (σ : ZHp) (n k w : Nat) : Z (f + 1) 11 L st σ n k w = s_getf 10 4 14 L st σ n k w (zk1 cut G (Z f)) G R T := zrs hZ rfl f L st σ n k w
theorem f_X11_lose_14 (hZ : ZRN (ztb (tb_X11_lose E d mc ms)) cut G R T Z) (f : Nat) (L : ZLV) (st : List Value) (σ : ZHp) (n k w : Nat) : Z (f + 1) 14 L st σ n k w = s_const (.int (1)) 15 L st σ n k w (zk1 cut G (Z f)) G R T := zrs hZ rfl f L st σ n k w
theorem f_X11_lose_15 (hZ : ZRN (ztb (tb_X11_lose E d mc ms)) cut G R T Z) (f : Nat) (L : ZLV) (st : List Value) (σ : ZHp) (n k w : Nat) : Z (f + 1) 15 L st σ n k w = s_isub 16 L st σ n k w (zk1 cut G (Z f)) G R T := zrs hZ rfl f L st σ n k w
theorem f_X11_lose_16 (hZ : ZRN (ztb (tb_X11_lose E d mc ms)) cut G R T Z) (f : Nat) (L : ZLV) (st : List Value) (σ : ZHp) (n k w : Nat) : Z (f + 1) 16 L st σ n k w = s_putf 10 4 0 19 L st σ n k w (zk1 cut G (Z f)) G R T := zrs hZ rfl f L st σ n k w
theorem f_X11_lose_19 (hZ : ZRN (ztb (tb_X11_lose E d mc ms)) cut G R T Z) (f : Nat) (L : ZLV) (st : List Value) (σ : ZHp) (n k w : Nat) : Z (f + 1) 19 L st σ n k w = s_aload 0 20 L st σ n k w (zk1 cut G (Z f)) G R T := zrs hZ rfl f L st σ n k w
theorem f_X11_lose_20 (hZ : ZRN (ztb (tb_X11_lose E d mc ms)) cut G R T Z) (f : Nat) (L : ZLV) (st : List Value) (σ : ZHp) (n k w : Nat) : Z (f + 1) 20 L st σ n k w = s_dup 21 L st σ n k w (zk1 cut G (Z f)) G R T := zrs hZ rfl f L st σ n k w
theorem f_X11_lose_21 (hZ : ZRN (ztb (tb_X11_lose E d mc ms)) cut G R T Z) (f : Nat) (L : ZLV) (st : List Value) (σ : ZHp) (n k w : Nat) : Z (f + 1) 21 L st σ n k w = s_getf 10 6 24 L st σ n k w (zk1 cut G (Z f)) G R T := zrs hZ rfl f L st σ n k w
theorem f_X11_lose_24 (hZ : ZRN (ztb (tb_X11_lose E d mc ms)) cut G R T Z) (f : Nat) (L : ZLV) (st : List Value) (σ : ZHp) (n k w : Nat) : Z (f + 1) 24 L st σ n k w = s_const (.int (1)) 25 L st σ n k w (zk1 cut G (Z f)) G R T := zrs hZ rfl f L st σ n k w
theorem f_X11_lose_25 (hZ : ZRN (ztb (tb_X11_lose E d mc ms)) cut G R T Z) (f : Nat) (L : ZLV) (st : List Value) (σ : ZHp) (n k w : Nat) : Z (f + 1) 25 L st σ n k w = s_iadd 26 L st σ n k w (zk1 cut G (Z f)) G R T := zrs hZ rfl f L st σ n k w
theorem f_X11_lose_26 (hZ : ZRN (ztb (tb_X11_lose E d mc ms)) cut G R T Z) (f : Nat) (L : ZLV) (st : List Value) (σ : ZHp) (n k w : Nat) : Z (f + 1) 26 L st σ n k w = s_putf 10 6 0 29 L st σ n k w (zk1 cut G (Z f)) G R T := zrs hZ rfl f L st σ n k w
theorem f_X11_lose_29 (hZ : ZRN (ztb (tb_X11_lose E d mc ms)) cut G R T Z) (f : Nat) (L : ZLV) (st : List Value) (σ : ZHp) (n k w : Nat) : Z (f + 1) 29 L st σ n k w = s_return L st σ n k w (zk1 cut G (Z f)) G R T := zrs hZ rfl f L st σ n k w
theorem f_X11_mixDiscards_0 (hZ : ZRN (ztb (tb_X11_mixDiscards E d mc ms)) cut G R T Z) (f : Nat) (L : ZLV) (st : List Value) (σ : ZHp) (n k w : Nat) : Z (f + 1) 0 L st σ n k w = s_aload 0 1 L st σ n k w (zk1 cut G (Z f)) G R T := zrs hZ rfl f L st σ n k w
theorem f_X11_mixDiscards_1 (hZ : ZRN (ztb (tb_X11_mixDiscards E d mc ms)) cut G R T Z) (f : Nat) (L : ZLV) (st : List Value) (σ : ZHp) (n k w : Nat) : Z (f + 1) 1 L st σ n k w = s_getf 10 1 4 L st σ n k w (zk1 cut G (Z f)) G R T := zrs hZ rfl f L st σ n k w
theorem f_X11_mixDiscards_4 (hZ : ZRN (ztb (tb_X11_mixDiscards E d mc ms)) cut G R T Z) (f : Nat) (L : ZLV) (st : List Value) (σ : ZHp) (n k w : Nat) : Z (f + 1) 4 L st σ n k w = s_callV E d mc ms 4 MX5_size 0 7 L st σ n k w (zk1 cut G (Z f)) G R T := zrs hZ rfl f L st σ n k w
theorem f_X11_mixDiscards_7 (hZ : ZRN (ztb (tb_X11_mixDiscards E d mc ms)) cut G R T Z) (f : Nat) (L : ZLV) (st : List Value) (σ : ZHp) (n k w : Nat) : Z (f + 1) 7 L st σ n k w = s_if_ne 11 10 L st σ n k w (zk1 cut G (Z f)) G R T := zrs hZ rfl f L st σ n k w
theorem f_X11_mixDiscards_10 (hZ : ZRN (ztb (tb_X11_mixDiscards E d mc ms)) cut G R T Z) (f : Nat) (L : ZLV) (st : List Value) (σ : ZHp) (n k w : Nat) : Z (f + 1) 10 L st σ n k w = s_return L st σ n k w (zk1 cut G (Z f)) G R T := zrs hZ rfl f L st σ n k w
theorem f_X11_mixDiscards_11 (hZ : ZRN (ztb (tb_X11_mixDiscards E d mc ms)) cut G R T Z) (f : Nat) (L : ZLV) (st : List Value) (σ : ZHp) (n k w : Nat) : Z (f + 1) 11 L st σ n k w = s_aload 0 12 L st σ n k w (zk1 cut G (Z f)) G R T := zrs hZ rfl f L st σ n k w
theorem f_X11_mixDiscards_12 (hZ : ZRN (ztb (tb_X11_mixDiscards E d mc ms)) cut G R T Z) (f : Nat) (L : ZLV) (st : List Value) (σ : ZHp) (n k w : Nat) : Z (f + 1) 12 L st σ n k w = s_getf 10 1 15 L st σ n k w (zk1 cut G (Z f)) G R T := zrs hZ rfl f L st σ n k w
theorem f_X11_mixDiscards_15 (hZ : ZRN (ztb (tb_X11_mixDiscards E d mc ms)) cut G R T Z) (f : Nat) (L : ZLV) (st : List Value) (σ : ZHp) (n k w : Nat) : Z (f + 1) 15 L st σ n k w = s_callV E d mc ms 4 MX5_size 0 18 L st σ n k w (zk1 cut G (Z f)) G R T := zrs hZ rfl f L st σ n k w
theorem f_X11_mixDiscards_18 (hZ : ZRN (ztb (tb_X11_mixDiscards E d mc ms)) cut G R T Z) (f : Nat) (L : ZLV) (st : List Value) (σ : ZHp) (n k w : Nat) : Z (f + 1) 18 L st σ n k w = s_const (.int (1)) 19 L st σ n k w (zk1 cut G (Z f)) G R T := zrs hZ rfl f L st σ n k w
theorem f_X11_mixDiscards_19 (hZ : ZRN (ztb (tb_X11_mixDiscards E d mc ms)) cut G R T Z) (f : Nat) (L : ZLV) (st : List Value) (σ : ZHp) (n k w : Nat) : Z (f + 1) 19 L st σ n k w = s_isub 20 L st σ n k w (zk1 cut G (Z f)) G R T := zrs hZ rfl f L st σ n k w
theorem f_X11_mixDiscards_20 (hZ : ZRN (ztb (tb_X11_mixDiscards E d mc ms)) cut G R T Z) (f : Nat) (L : ZLV) (st : List Value) (σ : ZHp) (n k w : Nat) : Z (f + 1) 20 L st σ n k w = s_istore 1 21 L st σ n k w (zk1 cut G (Z f)) G R T := zrs hZ rfl f L st σ n k w
theorem f_X11_mixDiscards_21 (hZ : ZRN (ztb (tb_X11_mixDiscards E d mc ms)) cut G R T Z) (f : Nat) (L : ZLV) (st : List Value) (σ : ZHp) (n k w : Nat) : Z (f + 1) 21 L st σ n k w = s_iload 1 22 L st σ n k w (zk1 cut G (Z f)) G R T := zrs hZ rfl f L st σ n k w
theorem f_X11_mixDiscards_22 (hZ : ZRN (ztb (tb_X11_mixDiscards E d mc ms)) cut G R T Z) (f : Nat) (L : ZLV) (st : List Value) (σ : ZHp) (n k w : Nat) : Z (f + 1) 22 L st σ n k w = s_if_le 66 25 L st σ n k w (zk1 cut G (Z f)) G R T := zrs hZ rfl f L st σ n k w
theorem f_X11_mixDiscards_25 (hZ : ZRN (ztb (tb_X11_mixDiscards E d mc ms)) cut G R T Z) (f : Nat) (L : ZLV) (st : List Value) (σ : ZHp) (n k w : Nat) : Z (f + 1) 25 L st σ n k w = s_aload 0 26 L st σ n k w (zk1 cut G (Z f)) G R T := zrs hZ rfl f L st σ n k w
theorem f_X11_mixDiscards_26 (hZ : ZRN (ztb (tb_X11_mixDiscards E d mc ms)) cut G R T Z) (f : Nat) (L : ZLV) (st : List Value) (σ : ZHp) (n k w : Nat) : Z (f + 1) 26 L st σ n k w = s_aload 0 27 L st σ n k w (zk1 cut G (Z f)) G R T := zrs hZ rfl f L st σ n k w
theorem f_X11_mixDiscards_27 (hZ : ZRN (ztb (tb_X11_mixDiscards E d mc ms)) cut G R T Z) (f : Nat) (L : ZLV) (st : List Value) (σ : ZHp) (n k w : Nat) : Z (f + 1) 27 L st σ n k w = s_getf 10 5 30 L st σ n k w (zk1 cut G (Z f)) G R T := zrs hZ rfl f L st σ n k w
theorem f_X11_mixDiscards_30 (hZ : ZRN (ztb (tb_X11_mixDiscards E d mc ms)) cut G R T Z) (f : Nat) (L : ZLV) (st : List Value) (σ : ZHp) (n k w : Nat) : Z (f + 1) 30 L st σ n k w = s_const (.int (193)) 33 L st σ n k w (zk1 cut G (Z f)) G R T := zrs hZ rfl f L st σ n k w
theorem f_X11_mixDiscards_33 (hZ : ZRN (ztb (tb_X11_mixDiscards E d mc ms)) cut G R T Z) (f : Nat) (L : ZLV) (st : List Value) (σ : ZHp) (n k w : Nat) : Z (f + 1) 33 L st σ n k w = s_imul 34 L st σ n k w (zk1 cut G (Z f)) G R T := zrs hZ rfl f L st σ n k w
theorem f_X11_mixDiscards_34 (hZ : ZRN (ztb (tb_X11_mixDiscards E d mc ms)) cut G R T Z) (f : Nat) (L : ZLV) (st : List Value) (σ : ZHp) (n k w : Nat) : Z (f + 1) 34 L st σ n k w = s_const (.int (71)) 36 L st σ n k w (zk1 cut G (Z f)) G R T := zrs hZ rfl f L st σ n k w
theorem f_X11_mixDiscards_36 (hZ : ZRN (ztb (tb_X11_mixDiscards E d mc ms)) cut G R T Z) (f : Nat) (L : ZLV) (st : List Value) (σ : ZHp) (n k w : Nat) : Z (f + 1) 36 L st σ n k w = s_iadd 37 L st σ n k w (zk1 cut G (Z f)) G R T := zrs hZ rfl f L st σ n k w
theorem f_X11_mixDiscards_37 (hZ : ZRN (ztb (tb_X11_mixDiscards E d mc ms)) cut G R T Z) (f : Nat) (L : ZLV) (st : List Value) (σ : ZHp) (n k w : Nat) : Z (f + 1) 37 L st σ n k w = s_const (.int (1021)) 40 L st σ n k w (zk1 cut G (Z f)) G R T := zrs hZ rfl f L st σ n k w
theorem f_X11_mixDiscards_40 (hZ : ZRN (ztb (tb_X11_mixDiscards E d mc ms)) cut G R T Z) (f : Nat) (L : ZLV) (st : List Value) (σ : ZHp) (n k w : Nat) : Z (f + 1) 40 L st σ n k w = s_irem 41 L st σ n k w (zk1 cut G (Z f)) G R T := zrs hZ rfl f L st σ n k w
theorem f_X11_mixDiscards_41 (hZ : ZRN (ztb (tb_X11_mixDiscards E d mc ms)) cut G R T Z) (f : Nat) (L : ZLV) (st : List Value) (σ : ZHp) (n k w : Nat) : Z (f + 1) 41 L st σ n k w = s_putf 10 5 0 44 L st σ n k w (zk1 cut G (Z f)) G R T := zrs hZ rfl f L st σ n k w
theorem f_X11_mixDiscards_44 (hZ : ZRN (ztb (tb_X11_mixDiscards E d mc ms)) cut G R T Z) (f : Nat) (L : ZLV) (st : List Value) (σ : ZHp) (n k w : Nat) : Z (f + 1) 44 L st σ n k w = s_aload 0 45 L st σ n k w (zk1 cut G (Z f)) G R T := zrs hZ rfl f L st σ n k w
theorem f_X11_mixDiscards_45 (hZ : ZRN (ztb (tb_X11_mixDiscards E d mc ms)) cut G R T Z) (f : Nat) (L : ZLV) (st : List Value) (σ : ZHp) (n k w : Nat) : Z (f + 1) 45 L st σ n k w = s_getf 10 1 48 L st σ n k w (zk1 cut G (Z f)) G R T := zrs hZ rfl f L st σ n k w
theorem f_X11_mixDiscards_48 (hZ : ZRN (ztb (tb_X11_mixDiscards E d mc ms)) cut G R T Z) (f : Nat) (L : ZLV) (st : List Value) (σ : ZHp) (n k w : Nat) : Z (f + 1) 48 L st σ n k w = s_iload 1 49 L st σ n k w (zk1 cut G (Z f)) G R T := zrs hZ rfl f L st σ n k w
theorem f_X11_mixDiscards_49 (hZ : ZRN (ztb (tb_X11_mixDiscards E d mc ms)) cut G R T Z) (f : Nat) (L : ZLV) (st : List Value) (σ : ZHp) (n k w : Nat) : Z (f + 1) 49 L st σ n k w = s_aload 0 50 L st σ n k w (zk1 cut G (Z f)) G R T := zrs hZ rfl f L st σ n k w
theorem f_X11_mixDiscards_50 (hZ : ZRN (ztb (tb_X11_mixDiscards E d mc ms)) cut G R T Z) (f : Nat) (L : ZLV) (st : List Value) (σ : ZHp) (n k w : Nat) : Z (f + 1) 50 L st σ n k w = s_getf 10 5 53 L st σ n k w (zk1 cut G (Z f)) G R T := zrs hZ rfl f L st σ n k w
theorem f_X11_mixDiscards_53 (hZ : ZRN (ztb (tb_X11_mixDiscards E d mc ms)) cut G R T Z) (f : Nat) (L : ZLV) (st : List Value) (σ : ZHp) (n k w : Nat) : Z (f + 1) 53 L st σ n k w = s_iload 1 54 L st σ n k w (zk1 cut G (Z f)) G R T := zrs hZ rfl f L st σ n k w
theorem f_X11_mixDiscards_54 (hZ : ZRN (ztb (tb_X11_mixDiscards E d mc ms)) cut G R T Z) (f : Nat) (L : ZLV) (st : List Value) (σ : ZHp) (n k w : Nat) : Z (f + 1) 54 L st σ n k w = s_const (.int (1)) 55 L st σ n k w (zk1 cut G (Z f)) G R T := zrs hZ rfl f L st σ n k w
theorem f_X11_mixDiscards_55 (hZ : ZRN (ztb (tb_X11_mixDiscards E d mc ms)) cut G R T Z) (f : Nat) (L : ZLV) (st : List Value) (σ : ZHp) (n k w : Nat) : Z (f + 1) 55 L st σ n k w = s_iadd 56 L st σ n k w (zk1 cut G (Z f)) G R T := zrs hZ rfl f L st σ n k w
theorem f_X11_mixDiscards_56 (hZ : ZRN (ztb (tb_X11_mixDiscards E d mc ms)) cut G R T Z) (f : Nat) (L : ZLV) (st : List Value) (σ : ZHp) (n k w : Nat) : Z (f + 1) 56 L st σ n k w = s_irem 57 L st σ n k w (zk1 cut G (Z f)) G R T := zrs hZ rfl f L st σ n k w
theorem f_X11_mixDiscards_57 (hZ : ZRN (ztb (tb_X11_mixDiscards E d mc ms)) cut G R T Z) (f : Nat) (L : ZLV) (st : List Value) (σ : ZHp) (n k w : Nat) : Z (f + 1) 57 L st σ n k w = s_callV E d mc ms 4 MX5_exchange 2 60 L st σ n k w (zk1 cut G (Z f)) G R T := zrs hZ rfl f L st σ n k w
theorem f_X11_mixDiscards_60 (hZ : ZRN (ztb (tb_X11_mixDiscards E d mc ms)) cut G R T Z) (f : Nat) (L : ZLV) (st : List Value) (σ : ZHp) (n k w : Nat) : Z (f + 1) 60 L st σ n k w = s_iinc 1 (-1) 63 L st σ n k w (zk1 cut G (Z f)) G R T := zrs hZ rfl f L st σ n k w
theorem f_X11_mixDiscards_63 (hZ : ZRN (ztb (tb_X11_mixDiscards E d mc ms)) cut G R T Z) (f : Nat) (L : ZLV) (st : List Value) (σ : ZHp) (n k w : Nat) : Z (f + 1) 63 L st σ n k w = s_goto 21 L st σ n k w (zk1 cut G (Z f)) G R T := zrs hZ rfl f L st σ n k w
theorem f_X11_mixDiscards_66 (hZ : ZRN (ztb (tb_X11_mixDiscards E d mc ms)) cut G R T Z) (f : Nat) (L : ZLV) (st : List Value) (σ : ZHp) (n k w : Nat) : Z (f + 1) 66 L st σ n k w = s_aload 0 67 L st σ n k w (zk1 cut G (Z f)) G R T := zrs hZ rfl f L st σ n k w
theorem f_X11_mixDiscards_67 (hZ : ZRN (ztb (tb_X11_mixDiscards E d mc ms)) cut G R T Z) (f : Nat) (L : ZLV) (st : List Value) (σ : ZHp) (n k w : Nat) : Z (f + 1) 67 L st σ n k w = s_getf 10 0 70 L st σ n k w (zk1 cut G (Z f)) G R T := zrs hZ rfl f L st σ n k w
theorem f_X11_mixDiscards_70 (hZ : ZRN (ztb (tb_X11_mixDiscards E d mc ms)) cut G R T Z) (f : Nat) (L : ZLV) (st : List Value) (σ : ZHp) (n k w : Nat) : Z (f + 1) 70 L st σ n k w = s_const (.int (0)) 71 L st σ n k w (zk1 cut G (Z f)) G R T := zrs hZ rfl f L st σ n k w
theorem f_X11_mixDiscards_71 (hZ : ZRN (ztb (tb_X11_mixDiscards E d mc ms)) cut G R T Z) (f : Nat) (L : ZLV) (st : List Value) (σ : ZHp) (n k w : Nat) : Z (f + 1) 71 L st σ n k w = s_aload 0 72 L st σ n k w (zk1 cut G (Z f)) G R T := zrs hZ rfl f L st σ n k w
theorem f_X11_mixDiscards_72 (hZ : ZRN (ztb (tb_X11_mixDiscards E d mc ms)) cut G R T Z) (f : Nat) (L : ZLV) (st : List Value) (σ : ZHp) (n k w : Nat) : Z (f + 1) 72 L st σ n k w = s_getf 10 3 75 L st σ n k w (zk1 cut G (Z f)) G R T := zrs hZ rfl f L st σ n k w
theorem f_X11_mixDiscards_75 (hZ : ZRN (ztb (tb_X11_mixDiscards E d mc ms)) cut G R T Z) (f : Nat) (L : ZLV) (st : List Value) (σ : ZHp) (n k w : Nat) : Z (f + 1) 75 L st σ n k w = s_callV E d mc ms 4 MX5_cut 2 78 L st σ n k w (zk1 cut G (Z f)) G R T := zrs hZ rfl f L st σ n k w
theorem f_X11_mixDiscards_78 (hZ : ZRN (ztb (tb_X11_mixDiscards E d mc ms)) cut G R T Z) (f : Nat) (L : ZLV) (st : List Value) (σ : ZHp) (n k w : Nat) : Z (f + 1) 78 L st σ n k w = s_aload 0 79 L st σ n k w (zk1 cut G (Z f)) G R T := zrs hZ rfl f L st σ n k w
theorem f_X11_mixDiscards_79 (hZ : ZRN (ztb (tb_X11_mixDiscards E d mc ms)) cut G R T Z) (f : Nat) (L : ZLV) (st : List Value) (σ : ZHp) (n k w : Nat) : Z (f + 1) 79 L st σ n k w = s_const (.int (0)) 80 L st σ n k w (zk1 cut G (Z f)) G R T := zrs hZ rfl f L st σ n k w
theorem f_X11_mixDiscards_80 (hZ : ZRN (ztb (tb_X11_mixDiscards E d mc ms)) cut G R T Z) (f : Nat) (L : ZLV) (st : List Value) (σ : ZHp) (n k w : Nat) : Z (f + 1) 80 L st σ n k w = s_putf 10 3 0 83 L st σ n k w (zk1 cut G (Z f)) G R T := zrs hZ rfl f L st σ n k w
theorem f_X11_mixDiscards_83 (hZ : ZRN (ztb (tb_X11_mixDiscards E d mc ms)) cut G R T Z) (f : Nat) (L : ZLV) (st : List Value) (σ : ZHp) (n k w : Nat) : Z (f + 1) 83 L st σ n k w = s_const (.int (0)) 84 L st σ n k w (zk1 cut G (Z f)) G R T := zrs hZ rfl f L st σ n k w
theorem f_X11_mixDiscards_84 (hZ : ZRN (ztb (tb_X11_mixDiscards E d mc ms)) cut G R T Z) (f : Nat) (L : ZLV) (st : List Value) (σ : ZHp) (n k w : Nat) : Z (f + 1) 84 L st σ n k w = s_istore 1 85 L st σ n k w (zk1 cut G (Z f)) G R T := zrs hZ rfl f L st σ n k w
theorem f_X11_mixDiscards_85 (hZ : ZRN (ztb (tb_X11_mixDiscards E d mc ms)) cut G R T Z) (f : Nat) (L : ZLV) (st : List Value) (σ : ZHp) (n k w : Nat) : Z (f + 1) 85 L st σ n k w = s_iload 1 86 L st σ n k w (zk1 cut G (Z f)) G R T := zrs hZ rfl f L st σ n k w
theorem f_X11_mixDiscards_86 (hZ : ZRN (ztb (tb_X11_mixDiscards E d mc ms)) cut G R T Z) (f : Nat) (L : ZLV) (st : List Value) (σ : ZHp) (n k w : Nat) : Z (f + 1) 86 L st σ n k w = s_aload 0 87 L st σ n k w (zk1 cut G (Z f)) G R T := zrs hZ rfl f L st σ n k w
theorem f_X11_mixDiscards_87 (hZ : ZRN (ztb (tb_X11_mixDiscards E d mc ms)) cut G R T Z) (f : Nat) (L : ZLV) (st : List Value) (σ : ZHp) (n k w : Nat) : Z (f + 1) 87 L st σ n k w = s_getf 10 1 90 L st σ n k w (zk1 cut G (Z f)) G R T := zrs hZ rfl f L st σ n k w
theorem f_X11_mixDiscards_90 (hZ : ZRN (ztb (tb_X11_mixDiscards E d mc ms)) cut G R T Z) (f : Nat) (L : ZLV) (st : List Value) (σ : ZHp) (n k w : Nat) : Z (f + 1) 90 L st σ n k w = s_callV E d mc ms 4 MX5_size 0 93 L st σ n k w (zk1 cut G (Z f)) G R T := zrs hZ rfl f L st σ n k w
theorem f_X11_mixDiscards_93 (hZ : ZRN (ztb (tb_X11_mixDiscards E d mc ms)) cut G R T Z) (f : Nat) (L : ZLV) (st : List Value) (σ : ZHp) (n k w : Nat) : Z (f + 1) 93 L st σ n k w = s_icmp_ge 117 96 L st σ n k w (zk1 cut G (Z f)) G R T := zrs hZ rfl f L st σ n k w
theorem f_X11_mixDiscards_96 (hZ : ZRN (ztb (tb_X11_mixDiscards E d mc ms)) cut G R T Z) (f : Nat) (L : ZLV) (st : List Value) (σ : ZHp) (n k w : Nat) : Z (f + 1) 96 L st σ n k w = s_aload 0 97 L st σ n k w (zk1 cut G (Z f)) G R T := zrs hZ rfl f L st σ n k w
theorem f_X11_mixDiscards_97 (hZ : ZRN (ztb (tb_X11_mixDiscards E d mc ms)) cut G R T Z) (f : Nat) (L : ZLV) (st : List Value) (σ : ZHp) (n k w : Nat) : Z (f + 1) 97 L st σ n k w = s_getf 10 0 100 L st σ n k w (zk1 cut G (Z f)) G R T := zrs hZ rfl f L st σ n k w
theorem f_X11_mixDiscards_100 (hZ : ZRN (ztb (tb_X11_mixDiscards E d mc ms)) cut G R T Z) (f : Nat) (L : ZLV) (st : List Value) (σ : ZHp) (n k w : Nat) : Z (f + 1) 100 L st σ n k w = s_aload 0 101 L st σ n k w (zk1 cut G (Z f)) G R T := zrs hZ rfl f L st σ n k w
theorem f_X11_mixDiscards_101 (hZ : ZRN (ztb (tb_X11_mixDiscards E d mc ms)) cut G R T Z) (f : Nat) (L : ZLV) (st : List Value) (σ : ZHp) (n k w : Nat) : Z (f + 1) 101 L st σ n k w = s_getf 10 1 104 L st σ n k w (zk1 cut G (Z f)) G R T := zrs hZ rfl f L st σ n k w
theorem f_X11_mixDiscards_104 (hZ : ZRN (ztb (tb_X11_mixDiscards E d mc ms)) cut G R T Z) (f : Nat) (L : ZLV) (st : List Value) (σ : ZHp) (n k w : Nat) : Z (f + 1) 104 L st σ n k w = s_iload 1 105 L st σ n k w (zk1 cut G (Z f)) G R T := zrs hZ rfl f L st σ n k w
theorem f_X11_mixDiscards_105 (hZ : ZRN (ztb (tb_X11_mixDiscards E d mc ms)) cut G R T Z) (f : Nat) (L : ZLV) (st : List Value) (σ : ZHp) (n k w : Nat) : Z (f + 1) 105 L st σ n k w = s_callV E d mc ms 4 MX5_get 1 108 L st σ n k w (zk1 cut G (Z f)) G R T := zrs hZ rfl f L st σ n k w
theorem f_X11_mixDiscards_108 (hZ : ZRN (ztb (tb_X11_mixDiscards E d mc ms)) cut G R T Z) (f : Nat) (L : ZLV) (st : List Value) (σ : ZHp) (n k w : Nat) : Z (f + 1) 108 L st σ n k w = s_callV E d mc ms 4 MX5_add 1 111 L st σ n k w (zk1 cut G (Z f)) G R T := zrs hZ rfl f L st σ n k w
theorem f_X11_mixDiscards_111 (hZ : ZRN (ztb (tb_X11_mixDiscards E d mc ms)) cut G R T Z) (f : Nat) (L : ZLV) (st : List Value) (σ : ZHp) (n k w : Nat) : Z (f + 1) 111 L st σ n k w = s_iinc 1 (1) 114 L st σ n k w (zk1 cut G (Z f)) G R T := zrs hZ rfl f L st σ n k w
theorem f_X11_mixDiscards_114 (hZ : ZRN (ztb (tb_X11_mixDiscards E d mc ms)) cut G R T Z) (f : Nat) (L : ZLV) (st : List Value) (σ : ZHp) (n k w : Nat) : Z (f + 1) 114 L st σ n k w = s_goto 85 L st σ n k w (zk1 cut G (Z f)) G R T := zrs hZ rfl f L st σ n k w
theorem f_X11_mixDiscards_117 (hZ : ZRN (ztb (tb_X11_mixDiscards E d mc ms)) cut G R T Z) (f : Nat) (L : ZLV) (st : List Value) (σ : ZHp) (n k w : Nat) : Z (f + 1) 117 L st σ n k w = s_aload 0 118 L st σ n k w (zk1 cut G (Z f)) G R T := zrs hZ rfl f L st σ n k w
theorem f_X11_mixDiscards_118 (hZ : ZRN (ztb (tb_X11_mixDiscards E d mc ms)) cut G R T Z) (f : Nat) (L : ZLV) (st : List Value) (σ : ZHp) (n k w : Nat) : Z (f + 1) 118 L st σ n k w = s_getf 10 1 121 L st σ n k w (zk1 cut G (Z f)) G R T := zrs hZ rfl f L st σ n k w
theorem f_X11_mixDiscards_121 (hZ : ZRN (ztb (tb_X11_mixDiscards E d mc ms)) cut G R T Z) (f : Nat) (L : ZLV) (st : List Value) (σ : ZHp) (n k w : Nat) : Z (f + 1) 121 L st σ n k w = s_callV E d mc ms 4 MX5_clear 0 124 L st σ n k w (zk1 cut G (Z f)) G R T := zrs hZ rfl f L st σ n k w
theorem f_X11_mixDiscards_124 (hZ : ZRN (ztb (tb_X11_mixDiscards E d mc ms)) cut G R T Z) (f : Nat) (L : ZLV) (st : List Value) (σ : ZHp) (n k w : Nat) : Z (f + 1) 124 L st σ n k w = s_aload 0 125 L st σ n k w (zk1 cut G (Z f)) G R T := zrs hZ rfl f L st σ n k w
theorem f_X11_mixDiscards_125 (hZ : ZRN (ztb (tb_X11_mixDiscards E d mc ms)) cut G R T Z) (f : Nat) (L : ZLV) (st : List Value) (σ : ZHp) (n k w : Nat) : Z (f + 1) 125 L st σ n k w = s_dup 126 L st σ n k w (zk1 cut G (Z f)) G R T := zrs hZ rfl f L st σ n k w
theorem f_X11_mixDiscards_126 (hZ : ZRN (ztb (tb_X11_mixDiscards E d mc ms)) cut G R T Z) (f : Nat) (L : ZLV) (st : List Value) (σ : ZHp) (n k w : Nat) : Z (f + 1) 126 L st σ n k w = s_getf 10 9 129 L st σ n k w (zk1 cut G (Z f)) G R T := zrs hZ rfl f L st σ n k w
theorem f_X11_mixDiscards_129 (hZ : ZRN (ztb (tb_X11_mixDiscards E d mc ms)) cut G R T Z) (f : Nat) (L : ZLV) (st : List Value) (σ : ZHp) (n k w : Nat) : Z (f + 1) 129 L st σ n k w = s_const (.int (1)) 130 L st σ n k w (zk1 cut G (Z f)) G R T := zrs hZ rfl f L st σ n k w
theorem f_X11_mixDiscards_130 (hZ : ZRN (ztb (tb_X11_mixDiscards E d mc ms)) cut G R T Z) (f : Nat) (L : ZLV) (st : List Value) (σ : ZHp) (n k w : Nat) : Z (f + 1) 130 L st σ n k w = s_iadd 131 L st σ n k w (zk1 cut G (Z f)) G R T := zrs hZ rfl f L st σ n k w
theorem f_X11_mixDiscards_131 (hZ : ZRN (ztb (tb_X11_mixDiscards E d mc ms)) cut G R T Z) (f : Nat) (L : ZLV) (st : List Value) (σ : ZHp) (n k w : Nat) : Z (f + 1) 131 L st σ n k w = s_putf 10 9 0 134 L st σ n k w (zk1 cut G (Z f)) G R T := zrs hZ rfl f L st σ n k w
theorem f_X11_mixDiscards_134 (hZ : ZRN (ztb (tb_X11_mixDiscards E d mc ms)) cut G R T Z) (f : Nat) (L : ZLV) (st : List Value) (σ : ZHp) (n k w : Nat) : Z (f + 1) 134 L st σ n k w = s_return L st σ n k w (zk1 cut G (Z f)) G R T := zrs hZ rfl f L st σ n k w
theorem f_J7_fill_53178_0 (hZ : ZRN (ztb (tb_J7_fill_53178 E d mc ms)) cut G R T Z) (f : Nat) (L : ZLV) (st : List Value) (σ : ZHp) (n k w : Nat) : Z (f + 1) 0 L st σ n k w = s_const (.int (0)) 1 L st σ n k w (zk1 cut G (Z f)) G R T := zrs hZ rfl f L st σ n k w
theorem f_J7_fill_53178_1 (hZ : ZRN (ztb (tb_J7_fill_53178 E d mc ms)) cut G R T Z) (f : Nat) (L : ZLV) (st : List Value) (σ : ZHp) (n k w : Nat) : Z (f + 1) 1 L st σ n k w = s_istore 2 2 L st σ n k w (zk1 cut G (Z f)) G R T := zrs hZ rfl f L st σ n k w
theorem f_J7_fill_53178_2 (hZ : ZRN (ztb (tb_J7_fill_53178 E d mc ms)) cut G R T Z) (f : Nat) (L : ZLV) (st : List Value) (σ : ZHp) (n k w : Nat) : Z (f + 1) 2 L st σ n k w = s_aload 0 3 L st σ n k w (zk1 cut G (Z f)) G R T := zrs hZ rfl f L st σ n k w
theorem f_J7_fill_53178_3 (hZ : ZRN (ztb (tb_J7_fill_53178 E d mc ms)) cut G R T Z) (f : Nat) (L : ZLV) (st : List Value) (σ : ZHp) (n k w : Nat) : Z (f + 1) 3 L st σ n k w = s_alen E 4 L st σ n k w (zk1 cut G (Z f)) G R T := zrs hZ rfl f L st σ n k w
theorem f_J7_fill_53178_4 (hZ : ZRN (ztb (tb_J7_fill_53178 E d mc ms)) cut G R T Z) (f : Nat) (L : ZLV) (st : List Value) (σ : ZHp) (n k w : Nat) : Z (f + 1) 4 L st σ n k w = s_istore 3 5 L st σ n k w (zk1 cut G (Z f)) G R T := zrs hZ rfl f L st σ n k w
theorem f_J7_fill_53178_5 (hZ : ZRN (ztb (tb_J7_fill_53178 E d mc ms)) cut G R T Z) (f : Nat) (L : ZLV) (st : List Value) (σ : ZHp) (n k w : Nat) : Z (f + 1) 5 L st σ n k w = s_iload 2 6 L st σ n k w (zk1 cut G (Z f)) G R T := zrs hZ rfl f L st σ n k w
theorem f_J7_fill_53178_6 (hZ : ZRN (ztb (tb_J7_fill_53178 E d mc ms)) cut G R T Z) (f : Nat) (L : ZLV) (st : List Value) (σ : ZHp) (n k w : Nat) : Z (f + 1) 6 L st σ n k w = s_iload 3 7 L st σ n k w (zk1 cut G (Z f)) G R T := zrs hZ rfl f L st σ n k w
theorem f_J7_fill_53178_7 (hZ : ZRN (ztb (tb_J7_fill_53178 E d mc ms)) cut G R T Z) (f : Nat) (L : ZLV) (st : List Value) (σ : ZHp) (n k w : Nat) : Z (f + 1) 7 L st σ n k w = s_icmp_ge 20 10 L st σ n k w (zk1 cut G (Z f)) G R T := zrs hZ rfl f L st σ n k w
theorem f_J7_fill_53178_10 (hZ : ZRN (ztb (tb_J7_fill_53178 E d mc ms)) cut G R T Z) (f : Nat) (L : ZLV) (st : List Value) (σ : ZHp) (n k w : Nat) : Z (f + 1) 10 L st σ n k w = s_aload 0 11 L st σ n k w (zk1 cut G (Z f)) G R T := zrs hZ rfl f L st σ n k w
theorem f_J7_fill_53178_11 (hZ : ZRN (ztb (tb_J7_fill_53178 E d mc ms)) cut G R T Z) (f : Nat) (L : ZLV) (st : List Value) (σ : ZHp) (n k w : Nat) : Z (f + 1) 11 L st σ n k w = s_iload 2 12 L st σ n k w (zk1 cut G (Z f)) G R T := zrs hZ rfl f L st σ n k w
theorem f_J7_fill_53178_12 (hZ : ZRN (ztb (tb_J7_fill_53178 E d mc ms)) cut G R T Z) (f : Nat) (L : ZLV) (st : List Value) (σ : ZHp) (n k w : Nat) : Z (f + 1) 12 L st σ n k w = s_iload 1 13 L st σ n k w (zk1 cut G (Z f)) G R T := zrs hZ rfl f L st σ n k w
theorem f_J7_fill_53178_13 (hZ : ZRN (ztb (tb_J7_fill_53178 E d mc ms)) cut G R T Z) (f : Nat) (L : ZLV) (st : List Value) (σ : ZHp) (n k w : Nat) : Z (f + 1) 13 L st σ n k w = s_iastore E 14 L st σ n k w (zk1 cut G (Z f)) G R T := zrs hZ rfl f L st σ n k w
theorem f_J7_fill_53178_14 (hZ : ZRN (ztb (tb_J7_fill_53178 E d mc ms)) cut G R T Z) (f : Nat) (L : ZLV) (st : List Value) (σ : ZHp) (n k w : Nat) : Z (f + 1) 14 L st σ n k w = s_iinc 2 (1) 17 L st σ n k w (zk1 cut G (Z f)) G R T := zrs hZ rfl f L st σ n k w
theorem f_J7_fill_53178_17 (hZ : ZRN (ztb (tb_J7_fill_53178 E d mc ms)) cut G R T Z) (f : Nat) (L : ZLV) (st : List Value) (σ : ZHp) (n k w : Nat) : Z (f + 1) 17 L st σ n k w = s_goto 5 L st σ n k w (zk1 cut G (Z f)) G R T := zrs hZ rfl f L st σ n k w
theorem f_J7_fill_53178_20 (hZ : ZRN (ztb (tb_J7_fill_53178 E d mc ms)) cut G R T Z) (f : Nat) (L : ZLV) (st : List Value) (σ : ZHp) (n k w : Nat) : Z (f + 1) 20 L st σ n k w = s_return L st σ n k w (zk1 cut G (Z f)) G R T := zrs hZ rfl f L st σ n k w
theorem f_Jx29ce0_ordinal_8abf5_0 (hZ : ZRN (ztb (tb_Jx29ce0_ordinal_8abf5 E d mc ms)) cut G R T Z) (f : Nat) (L : ZLV) (st : List Value) (σ : ZHp) (n k w : Nat) : Z (f + 1) 0 L st σ n k w = s_aload 0 1 L st σ n k w (zk1 cut G (Z f)) G R T := zrs hZ rfl f L st σ n k w
theorem f_Jx29ce0_ordinal_8abf5_1 (hZ : ZRN (ztb (tb_Jx29ce0_ordinal_8abf5 E d mc ms)) cut G R T Z) (f : Nat) (L : ZLV) (st : List Value) (σ : ZHp) (n k w : Nat) : Z (f + 1) 1 L st σ n k w = s_getfK E 0 46 (fun j => .int (nI j)) 4 L st σ n k w (zk1 cut G (Z f)) G R T := zrs hZ rfl f L st σ n k w
theorem f_Jx29ce0_ordinal_8abf5_4 (hZ : ZRN (ztb (tb_Jx29ce0_ordinal_8abf5 E d mc ms)) cut G R T Z) (f : Nat) (L : ZLV) (st : List Value) (σ : ZHp) (n k w : Nat) : Z (f + 1) 4 L st σ n k w = s_ireturn L st σ n k w (zk1 cut G (Z f)) G R T := zrs hZ rfl f L st σ n k w
end
