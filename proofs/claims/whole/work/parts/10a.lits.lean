/-! numbers of the code beside those that are counted -/
theorem zk_gt_0 {n : Nat} (h : n < 2 ^ 31) : (0 < nI n) ↔ 0 < n := nI_ltI (a := 0) (by omega) h
theorem zk_le_0 {n : Nat} (h : n < 2 ^ 31) : (nI n ≤ 0) ↔ n ≤ 0 := nI_leI (b := 0) h (by omega)
theorem zk_eq_0 {n : Nat} (h : n < 2 ^ 31) : (nI n = 0) ↔ n = 0 := nI_eq (b := 0) h (by omega)
theorem zk_qe_0 {n : Nat} (h : n < 2 ^ 31) : (0 = nI n) ↔ 0 = n := nI_eq (a := 0) (by omega) h
theorem zk_lt_0 {n : Nat} (h : n < 2 ^ 31) : (nI n < 0) ↔ False := iff_of_false (nI_pos h) id
theorem zk_ge_0 {n : Nat} (h : n < 2 ^ 31) : (0 ≤ nI n) ↔ True := iff_of_true (nI_pos' h) trivial
theorem zk_lt_1 {n : Nat} (h : n < 2 ^ 31) : (nI n < 1) ↔ n < 1 := nI_ltI (b := 1) h (by omega)
theorem zk_le_1 {n : Nat} (h : n < 2 ^ 31) : (nI n ≤ 1) ↔ n ≤ 1 := nI_leI (b := 1) h (by omega)
theorem zk_gt_1 {n : Nat} (h : n < 2 ^ 31) : (1 < nI n) ↔ 1 < n := nI_ltI (a := 1) (by omega) h
theorem zk_ge_1 {n : Nat} (h : n < 2 ^ 31) : (1 ≤ nI n) ↔ 1 ≤ n := nI_leI (a := 1) (by omega) h
theorem zk_eq_1 {n : Nat} (h : n < 2 ^ 31) : (nI n = 1) ↔ n = 1 := nI_eq (b := 1) h (by omega)
theorem zk_qe_1 {n : Nat} (h : n < 2 ^ 31) : (1 = nI n) ↔ 1 = n := nI_eq (a := 1) (by omega) h
theorem zk_ad_1 {n : Nat} : nI n + 1 = nI (n + 1) := nI_add n 1
theorem zk_da_1 {n : Nat} : 1 + nI n = nI (1 + n) := nI_add 1 n
theorem zk_sb_1 {n : Nat} (h : 1 ≤ n) : nI n - 1 = nI (n - 1) := pk_sub (b := 1) h
theorem zk_mu_1 {n : Nat} : nI n * 1 = nI (n * 1) := pk_mul n 1
theorem zk_um_1 {n : Nat} : 1 * nI n = nI (1 * n) := pk_mul 1 n
theorem zk_lt_2 {n : Nat} (h : n < 2 ^ 31) : (nI n < 2) ↔ n < 2 := nI_ltI (b := 2) h (by omega)
theorem zk_le_2 {n : Nat} (h : n < 2 ^ 31) : (nI n ≤ 2) ↔ n ≤ 2 := nI_leI (b := 2) h (by omega)
theorem zk_gt_2 {n : Nat} (h : n < 2 ^ 31) : (2 < nI n) ↔ 2 < n := nI_ltI (a := 2) (by omega) h
theorem zk_ge_2 {n : Nat} (h : n < 2 ^ 31) : (2 ≤ nI n) ↔ 2 ≤ n := nI_leI (a := 2) (by omega) h
theorem zk_eq_2 {n : Nat} (h : n < 2 ^ 31) : (nI n = 2) ↔ n = 2 := nI_eq (b := 2) h (by omega)
theorem zk_qe_2 {n : Nat} (h : n < 2 ^ 31) : (2 = nI n) ↔ 2 = n := nI_eq (a := 2) (by omega) h
theorem zk_ad_2 {n : Nat} : nI n + 2 = nI (n + 2) := nI_add n 2
theorem zk_da_2 {n : Nat} : 2 + nI n = nI (2 + n) := nI_add 2 n
theorem zk_sb_2 {n : Nat} (h : 2 ≤ n) : nI n - 2 = nI (n - 2) := pk_sub (b := 2) h
theorem zk_mu_2 {n : Nat} : nI n * 2 = nI (n * 2) := pk_mul n 2
theorem zk_um_2 {n : Nat} : 2 * nI n = nI (2 * n) := pk_mul 2 n
theorem zk_lt_3 {n : Nat} (h : n < 2 ^ 31) : (nI n < 3) ↔ n < 3 := nI_ltI (b := 3) h (by omega)
theorem zk_le_3 {n : Nat} (h : n < 2 ^ 31) : (nI n ≤ 3) ↔ n ≤ 3 := nI_leI (b := 3) h (by omega)
theorem zk_gt_3 {n : Nat} (h : n < 2 ^ 31) : (3 < nI n) ↔ 3 < n := nI_ltI (a := 3) (by omega) h
theorem zk_ge_3 {n : Nat} (h : n < 2 ^ 31) : (3 ≤ nI n) ↔ 3 ≤ n := nI_leI (a := 3) (by omega) h
theorem zk_eq_3 {n : Nat} (h : n < 2 ^ 31) : (nI n = 3) ↔ n = 3 := nI_eq (b := 3) h (by omega)
theorem zk_qe_3 {n : Nat} (h : n < 2 ^ 31) : (3 = nI n) ↔ 3 = n := nI_eq (a := 3) (by omega) h
theorem zk_ad_3 {n : Nat} : nI n + 3 = nI (n + 3) := nI_add n 3
theorem zk_da_3 {n : Nat} : 3 + nI n = nI (3 + n) := nI_add 3 n
theorem zk_sb_3 {n : Nat} (h : 3 ≤ n) : nI n - 3 = nI (n - 3) := pk_sub (b := 3) h
theorem zk_mu_3 {n : Nat} : nI n * 3 = nI (n * 3) := pk_mul n 3
theorem zk_um_3 {n : Nat} : 3 * nI n = nI (3 * n) := pk_mul 3 n
theorem zk_lt_4 {n : Nat} (h : n < 2 ^ 31) : (nI n < 4) ↔ n < 4 := nI_ltI (b := 4) h (by omega)
theorem zk_le_4 {n : Nat} (h : n < 2 ^ 31) : (nI n ≤ 4) ↔ n ≤ 4 := nI_leI (b := 4) h (by omega)
theorem zk_gt_4 {n : Nat} (h : n < 2 ^ 31) : (4 < nI n) ↔ 4 < n := nI_ltI (a := 4) (by omega) h
theorem zk_ge_4 {n : Nat} (h : n < 2 ^ 31) : (4 ≤ nI n) ↔ 4 ≤ n := nI_leI (a := 4) (by omega) h
theorem zk_eq_4 {n : Nat} (h : n < 2 ^ 31) : (nI n = 4) ↔ n = 4 := nI_eq (b := 4) h (by omega)
theorem zk_qe_4 {n : Nat} (h : n < 2 ^ 31) : (4 = nI n) ↔ 4 = n := nI_eq (a := 4) (by omega) h
theorem zk_ad_4 {n : Nat} : nI n + 4 = nI (n + 4) := nI_add n 4
theorem zk_da_4 {n : Nat} : 4 + nI n = nI (4 + n) := nI_add 4 n
theorem zk_sb_4 {n : Nat} (h : 4 ≤ n) : nI n - 4 = nI (n - 4) := pk_sub (b := 4) h
theorem zk_mu_4 {n : Nat} : nI n * 4 = nI (n * 4) := pk_mul n 4
theorem zk_um_4 {n : Nat} : 4 * nI n = nI (4 * n) := pk_mul 4 n
theorem zk_lt_5 {n : Nat} (h : n < 2 ^ 31) : (nI n < 5) ↔ n < 5 := nI_ltI (b := 5) h (by omega)
theorem zk_le_5 {n : Nat} (h : n < 2 ^ 31) : (nI n ≤ 5) ↔ n ≤ 5 := nI_leI (b := 5) h (by omega)
theorem zk_gt_5 {n : Nat} (h : n < 2 ^ 31) : (5 < nI n) ↔ 5 < n := nI_ltI (a := 5) (by omega) h
theorem zk_ge_5 {n : Nat} (h : n < 2 ^ 31) : (5 ≤ nI n) ↔ 5 ≤ n := nI_leI (a := 5) (by omega) h
theorem zk_eq_5 {n : Nat} (h : n < 2 ^ 31) : (nI n = 5) ↔ n = 5 := nI_eq (b := 5) h (by omega)
theorem zk_qe_5 {n : Nat} (h : n < 2 ^ 31) : (5 = nI n) ↔ 5 = n := nI_eq (a := 5) (by omega) h
theorem zk_ad_5 {n : Nat} : nI n + 5 = nI (n + 5) := nI_add n 5
theorem zk_da_5 {n : Nat} : 5 + nI n = nI (5 + n) := nI_add 5 n
theorem zk_sb_5 {n : Nat} (h : 5 ≤ n) : nI n - 5 = nI (n - 5) := pk_sub (b := 5) h
theorem zk_mu_5 {n : Nat} : nI n * 5 = nI (n * 5) := pk_mul n 5
theorem zk_um_5 {n : Nat} : 5 * nI n = nI (5 * n) := pk_mul 5 n
theorem zk_lt_6 {n : Nat} (h : n < 2 ^ 31) : (nI n < 6) ↔ n < 6 := nI_ltI (b := 6) h (by omega)
theorem zk_le_6 {n : Nat} (h : n < 2 ^ 31) : (nI n ≤ 6) ↔ n ≤ 6 := nI_leI (b := 6) h (by omega)
theorem zk_gt_6 {n : Nat} (h : n < 2 ^ 31) : (6 < nI n) ↔ 6 < n := nI_ltI (a := 6) (by omega) h
theorem zk_ge_6 {n : Nat} (h : n < 2 ^ 31) : (6 ≤ nI n) ↔ 6 ≤ n := nI_leI (a := 6) (by omega) h
theorem zk_eq_6 {n : Nat} (h : n < 2 ^ 31) : (nI n = 6) ↔ n = 6 := nI_eq (b := 6) h (by omega)
theorem zk_qe_6 {n : Nat} (h : n < 2 ^ 31) : (6 = nI n) ↔ 6 = n := nI_eq (a := 6) (by omega) h
theorem zk_ad_6 {n : Nat} : nI n + 6 = nI (n + 6) := nI_add n 6
theorem zk_da_6 {n : Nat} : 6 + nI n = nI (6 + n) := nI_add 6 n
theorem zk_sb_6 {n : Nat} (h : 6 ≤ n) : nI n - 6 = nI (n - 6) := pk_sub (b := 6) h
theorem zk_mu_6 {n : Nat} : nI n * 6 = nI (n * 6) := pk_mul n 6
theorem zk_um_6 {n : Nat} : 6 * nI n = nI (6 * n) := pk_mul 6 n
theorem zk_lt_7 {n : Nat} (h : n < 2 ^ 31) : (nI n < 7) ↔ n < 7 := nI_ltI (b := 7) h (by omega)
theorem zk_le_7 {n : Nat} (h : n < 2 ^ 31) : (nI n ≤ 7) ↔ n ≤ 7 := nI_leI (b := 7) h (by omega)
theorem zk_gt_7 {n : Nat} (h : n < 2 ^ 31) : (7 < nI n) ↔ 7 < n := nI_ltI (a := 7) (by omega) h
theorem zk_ge_7 {n : Nat} (h : n < 2 ^ 31) : (7 ≤ nI n) ↔ 7 ≤ n := nI_leI (a := 7) (by omega) h
theorem zk_eq_7 {n : Nat} (h : n < 2 ^ 31) : (nI n = 7) ↔ n = 7 := nI_eq (b := 7) h (by omega)
theorem zk_qe_7 {n : Nat} (h : n < 2 ^ 31) : (7 = nI n) ↔ 7 = n := nI_eq (a := 7) (by omega) h
theorem zk_ad_7 {n : Nat} : nI n + 7 = nI (n + 7) := nI_add n 7
theorem zk_da_7 {n : Nat} : 7 + nI n = nI (7 + n) := nI_add 7 n
theorem zk_sb_7 {n : Nat} (h : 7 ≤ n) : nI n - 7 = nI (n - 7) := pk_sub (b := 7) h
theorem zk_mu_7 {n : Nat} : nI n * 7 = nI (n * 7) := pk_mul n 7
theorem zk_um_7 {n : Nat} : 7 * nI n = nI (7 * n) := pk_mul 7 n
theorem zk_lt_8 {n : Nat} (h : n < 2 ^ 31) : (nI n < 8) ↔ n < 8 := nI_ltI (b := 8) h (by omega)
theorem zk_le_8 {n : Nat} (h : n < 2 ^ 31) : (nI n ≤ 8) ↔ n ≤ 8 := nI_leI (b := 8) h (by omega)
theorem zk_gt_8 {n : Nat} (h : n < 2 ^ 31) : (8 < nI n) ↔ 8 < n := nI_ltI (a := 8) (by omega) h
theorem zk_ge_8 {n : Nat} (h : n < 2 ^ 31) : (8 ≤ nI n) ↔ 8 ≤ n := nI_leI (a := 8) (by omega) h
theorem zk_eq_8 {n : Nat} (h : n < 2 ^ 31) : (nI n = 8) ↔ n = 8 := nI_eq (b := 8) h (by omega)
theorem zk_qe_8 {n : Nat} (h : n < 2 ^ 31) : (8 = nI n) ↔ 8 = n := nI_eq (a := 8) (by omega) h
theorem zk_ad_8 {n : Nat} : nI n + 8 = nI (n + 8) := nI_add n 8
theorem zk_da_8 {n : Nat} : 8 + nI n = nI (8 + n) := nI_add 8 n
theorem zk_sb_8 {n : Nat} (h : 8 ≤ n) : nI n - 8 = nI (n - 8) := pk_sub (b := 8) h
theorem zk_mu_8 {n : Nat} : nI n * 8 = nI (n * 8) := pk_mul n 8
theorem zk_um_8 {n : Nat} : 8 * nI n = nI (8 * n) := pk_mul 8 n
theorem zk_lt_9 {n : Nat} (h : n < 2 ^ 31) : (nI n < 9) ↔ n < 9 := nI_ltI (b := 9) h (by omega)
theorem zk_le_9 {n : Nat} (h : n < 2 ^ 31) : (nI n ≤ 9) ↔ n ≤ 9 := nI_leI (b := 9) h (by omega)
theorem zk_gt_9 {n : Nat} (h : n < 2 ^ 31) : (9 < nI n) ↔ 9 < n := nI_ltI (a := 9) (by omega) h
theorem zk_ge_9 {n : Nat} (h : n < 2 ^ 31) : (9 ≤ nI n) ↔ 9 ≤ n := nI_leI (a := 9) (by omega) h
theorem zk_eq_9 {n : Nat} (h : n < 2 ^ 31) : (nI n = 9) ↔ n = 9 := nI_eq (b := 9) h (by omega)
theorem zk_qe_9 {n : Nat} (h : n < 2 ^ 31) : (9 = nI n) ↔ 9 = n := nI_eq (a := 9) (by omega) h
theorem zk_ad_9 {n : Nat} : nI n + 9 = nI (n + 9) := nI_add n 9
theorem zk_da_9 {n : Nat} : 9 + nI n = nI (9 + n) := nI_add 9 n
theorem zk_sb_9 {n : Nat} (h : 9 ≤ n) : nI n - 9 = nI (n - 9) := pk_sub (b := 9) h
theorem zk_mu_9 {n : Nat} : nI n * 9 = nI (n * 9) := pk_mul n 9
theorem zk_um_9 {n : Nat} : 9 * nI n = nI (9 * n) := pk_mul 9 n
theorem zk_lt_10 {n : Nat} (h : n < 2 ^ 31) : (nI n < 10) ↔ n < 10 := nI_ltI (b := 10) h (by omega)
theorem zk_le_10 {n : Nat} (h : n < 2 ^ 31) : (nI n ≤ 10) ↔ n ≤ 10 := nI_leI (b := 10) h (by omega)
theorem zk_gt_10 {n : Nat} (h : n < 2 ^ 31) : (10 < nI n) ↔ 10 < n := nI_ltI (a := 10) (by omega) h
theorem zk_ge_10 {n : Nat} (h : n < 2 ^ 31) : (10 ≤ nI n) ↔ 10 ≤ n := nI_leI (a := 10) (by omega) h
theorem zk_eq_10 {n : Nat} (h : n < 2 ^ 31) : (nI n = 10) ↔ n = 10 := nI_eq (b := 10) h (by omega)
theorem zk_qe_10 {n : Nat} (h : n < 2 ^ 31) : (10 = nI n) ↔ 10 = n := nI_eq (a := 10) (by omega) h
theorem zk_ad_10 {n : Nat} : nI n + 10 = nI (n + 10) := nI_add n 10
theorem zk_da_10 {n : Nat} : 10 + nI n = nI (10 + n) := nI_add 10 n
theorem zk_sb_10 {n : Nat} (h : 10 ≤ n) : nI n - 10 = nI (n - 10) := pk_sub (b := 10) h
theorem zk_mu_10 {n : Nat} : nI n * 10 = nI (n * 10) := pk_mul n 10
theorem zk_um_10 {n : Nat} : 10 * nI n = nI (10 * n) := pk_mul 10 n
theorem zk_lt_16 {n : Nat} (h : n < 2 ^ 31) : (nI n < 16) ↔ n < 16 := nI_ltI (b := 16) h (by omega)
theorem zk_le_16 {n : Nat} (h : n < 2 ^ 31) : (nI n ≤ 16) ↔ n ≤ 16 := nI_leI (b := 16) h (by omega)
theorem zk_gt_16 {n : Nat} (h : n < 2 ^ 31) : (16 < nI n) ↔ 16 < n := nI_ltI (a := 16) (by omega) h
theorem zk_ge_16 {n : Nat} (h : n < 2 ^ 31) : (16 ≤ nI n) ↔ 16 ≤ n := nI_leI (a := 16) (by omega) h
theorem zk_eq_16 {n : Nat} (h : n < 2 ^ 31) : (nI n = 16) ↔ n = 16 := nI_eq (b := 16) h (by omega)
theorem zk_qe_16 {n : Nat} (h : n < 2 ^ 31) : (16 = nI n) ↔ 16 = n := nI_eq (a := 16) (by omega) h
theorem zk_ad_16 {n : Nat} : nI n + 16 = nI (n + 16) := nI_add n 16
theorem zk_da_16 {n : Nat} : 16 + nI n = nI (16 + n) := nI_add 16 n
theorem zk_sb_16 {n : Nat} (h : 16 ≤ n) : nI n - 16 = nI (n - 16) := pk_sub (b := 16) h
theorem zk_mu_16 {n : Nat} : nI n * 16 = nI (n * 16) := pk_mul n 16
theorem zk_um_16 {n : Nat} : 16 * nI n = nI (16 * n) := pk_mul 16 n
theorem zk_lt_20 {n : Nat} (h : n < 2 ^ 31) : (nI n < 20) ↔ n < 20 := nI_ltI (b := 20) h (by omega)
theorem zk_le_20 {n : Nat} (h : n < 2 ^ 31) : (nI n ≤ 20) ↔ n ≤ 20 := nI_leI (b := 20) h (by omega)
theorem zk_gt_20 {n : Nat} (h : n < 2 ^ 31) : (20 < nI n) ↔ 20 < n := nI_ltI (a := 20) (by omega) h
theorem zk_ge_20 {n : Nat} (h : n < 2 ^ 31) : (20 ≤ nI n) ↔ 20 ≤ n := nI_leI (a := 20) (by omega) h
theorem zk_eq_20 {n : Nat} (h : n < 2 ^ 31) : (nI n = 20) ↔ n = 20 := nI_eq (b := 20) h (by omega)
theorem zk_qe_20 {n : Nat} (h : n < 2 ^ 31) : (20 = nI n) ↔ 20 = n := nI_eq (a := 20) (by omega) h
theorem zk_ad_20 {n : Nat} : nI n + 20 = nI (n + 20) := nI_add n 20
theorem zk_da_20 {n : Nat} : 20 + nI n = nI (20 + n) := nI_add 20 n
theorem zk_sb_20 {n : Nat} (h : 20 ≤ n) : nI n - 20 = nI (n - 20) := pk_sub (b := 20) h
theorem zk_mu_20 {n : Nat} : nI n * 20 = nI (n * 20) := pk_mul n 20
theorem zk_um_20 {n : Nat} : 20 * nI n = nI (20 * n) := pk_mul 20 n
theorem zk_lt_24 {n : Nat} (h : n < 2 ^ 31) : (nI n < 24) ↔ n < 24 := nI_ltI (b := 24) h (by omega)
theorem zk_le_24 {n : Nat} (h : n < 2 ^ 31) : (nI n ≤ 24) ↔ n ≤ 24 := nI_leI (b := 24) h (by omega)
theorem zk_gt_24 {n : Nat} (h : n < 2 ^ 31) : (24 < nI n) ↔ 24 < n := nI_ltI (a := 24) (by omega) h
theorem zk_ge_24 {n : Nat} (h : n < 2 ^ 31) : (24 ≤ nI n) ↔ 24 ≤ n := nI_leI (a := 24) (by omega) h
theorem zk_eq_24 {n : Nat} (h : n < 2 ^ 31) : (nI n = 24) ↔ n = 24 := nI_eq (b := 24) h (by omega)
theorem zk_qe_24 {n : Nat} (h : n < 2 ^ 31) : (24 = nI n) ↔ 24 = n := nI_eq (a := 24) (by omega) h
theorem zk_ad_24 {n : Nat} : nI n + 24 = nI (n + 24) := nI_add n 24
theorem zk_da_24 {n : Nat} : 24 + nI n = nI (24 + n) := nI_add 24 n
theorem zk_sb_24 {n : Nat} (h : 24 ≤ n) : nI n - 24 = nI (n - 24) := pk_sub (b := 24) h
theorem zk_mu_24 {n : Nat} : nI n * 24 = nI (n * 24) := pk_mul n 24
theorem zk_um_24 {n : Nat} : 24 * nI n = nI (24 * n) := pk_mul 24 n
theorem zk_lt_30 {n : Nat} (h : n < 2 ^ 31) : (nI n < 30) ↔ n < 30 := nI_ltI (b := 30) h (by omega)
theorem zk_le_30 {n : Nat} (h : n < 2 ^ 31) : (nI n ≤ 30) ↔ n ≤ 30 := nI_leI (b := 30) h (by omega)
theorem zk_gt_30 {n : Nat} (h : n < 2 ^ 31) : (30 < nI n) ↔ 30 < n := nI_ltI (a := 30) (by omega) h
theorem zk_ge_30 {n : Nat} (h : n < 2 ^ 31) : (30 ≤ nI n) ↔ 30 ≤ n := nI_leI (a := 30) (by omega) h
theorem zk_eq_30 {n : Nat} (h : n < 2 ^ 31) : (nI n = 30) ↔ n = 30 := nI_eq (b := 30) h (by omega)
theorem zk_qe_30 {n : Nat} (h : n < 2 ^ 31) : (30 = nI n) ↔ 30 = n := nI_eq (a := 30) (by omega) h
theorem zk_ad_30 {n : Nat} : nI n + 30 = nI (n + 30) := nI_add n 30
theorem zk_da_30 {n : Nat} : 30 + nI n = nI (30 + n) := nI_add 30 n
theorem zk_sb_30 {n : Nat} (h : 30 ≤ n) : nI n - 30 = nI (n - 30) := pk_sub (b := 30) h
theorem zk_mu_30 {n : Nat} : nI n * 30 = nI (n * 30) := pk_mul n 30
theorem zk_um_30 {n : Nat} : 30 * nI n = nI (30 * n) := pk_mul 30 n
theorem zk_lt_31 {n : Nat} (h : n < 2 ^ 31) : (nI n < 31) ↔ n < 31 := nI_ltI (b := 31) h (by omega)
theorem zk_le_31 {n : Nat} (h : n < 2 ^ 31) : (nI n ≤ 31) ↔ n ≤ 31 := nI_leI (b := 31) h (by omega)
theorem zk_gt_31 {n : Nat} (h : n < 2 ^ 31) : (31 < nI n) ↔ 31 < n := nI_ltI (a := 31) (by omega) h
theorem zk_ge_31 {n : Nat} (h : n < 2 ^ 31) : (31 ≤ nI n) ↔ 31 ≤ n := nI_leI (a := 31) (by omega) h
theorem zk_eq_31 {n : Nat} (h : n < 2 ^ 31) : (nI n = 31) ↔ n = 31 := nI_eq (b := 31) h (by omega)
theorem zk_qe_31 {n : Nat} (h : n < 2 ^ 31) : (31 = nI n) ↔ 31 = n := nI_eq (a := 31) (by omega) h
theorem zk_ad_31 {n : Nat} : nI n + 31 = nI (n + 31) := nI_add n 31
theorem zk_da_31 {n : Nat} : 31 + nI n = nI (31 + n) := nI_add 31 n
theorem zk_sb_31 {n : Nat} (h : 31 ≤ n) : nI n - 31 = nI (n - 31) := pk_sub (b := 31) h
theorem zk_mu_31 {n : Nat} : nI n * 31 = nI (n * 31) := pk_mul n 31
theorem zk_um_31 {n : Nat} : 31 * nI n = nI (31 * n) := pk_mul 31 n
theorem zk_lt_40 {n : Nat} (h : n < 2 ^ 31) : (nI n < 40) ↔ n < 40 := nI_ltI (b := 40) h (by omega)
theorem zk_le_40 {n : Nat} (h : n < 2 ^ 31) : (nI n ≤ 40) ↔ n ≤ 40 := nI_leI (b := 40) h (by omega)
theorem zk_gt_40 {n : Nat} (h : n < 2 ^ 31) : (40 < nI n) ↔ 40 < n := nI_ltI (a := 40) (by omega) h
theorem zk_ge_40 {n : Nat} (h : n < 2 ^ 31) : (40 ≤ nI n) ↔ 40 ≤ n := nI_leI (a := 40) (by omega) h
theorem zk_eq_40 {n : Nat} (h : n < 2 ^ 31) : (nI n = 40) ↔ n = 40 := nI_eq (b := 40) h (by omega)
theorem zk_qe_40 {n : Nat} (h : n < 2 ^ 31) : (40 = nI n) ↔ 40 = n := nI_eq (a := 40) (by omega) h
theorem zk_ad_40 {n : Nat} : nI n + 40 = nI (n + 40) := nI_add n 40
theorem zk_da_40 {n : Nat} : 40 + nI n = nI (40 + n) := nI_add 40 n
theorem zk_sb_40 {n : Nat} (h : 40 ≤ n) : nI n - 40 = nI (n - 40) := pk_sub (b := 40) h
theorem zk_mu_40 {n : Nat} : nI n * 40 = nI (n * 40) := pk_mul n 40
theorem zk_um_40 {n : Nat} : 40 * nI n = nI (40 * n) := pk_mul 40 n
theorem zk_lt_41 {n : Nat} (h : n < 2 ^ 31) : (nI n < 41) ↔ n < 41 := nI_ltI (b := 41) h (by omega)
theorem zk_le_41 {n : Nat} (h : n < 2 ^ 31) : (nI n ≤ 41) ↔ n ≤ 41 := nI_leI (b := 41) h (by omega)
theorem zk_gt_41 {n : Nat} (h : n < 2 ^ 31) : (41 < nI n) ↔ 41 < n := nI_ltI (a := 41) (by omega) h
theorem zk_ge_41 {n : Nat} (h : n < 2 ^ 31) : (41 ≤ nI n) ↔ 41 ≤ n := nI_leI (a := 41) (by omega) h
theorem zk_eq_41 {n : Nat} (h : n < 2 ^ 31) : (nI n = 41) ↔ n = 41 := nI_eq (b := 41) h (by omega)
theorem zk_qe_41 {n : Nat} (h : n < 2 ^ 31) : (41 = nI n) ↔ 41 = n := nI_eq (a := 41) (by omega) h
theorem zk_ad_41 {n : Nat} : nI n + 41 = nI (n + 41) := nI_add n 41
theorem zk_da_41 {n : Nat} : 41 + nI n = nI (41 + n) := nI_add 41 n
theorem zk_sb_41 {n : Nat} (h : 41 ≤ n) : nI n - 41 = nI (n - 41) := pk_sub (b := 41) h
theorem zk_mu_41 {n : Nat} : nI n * 41 = nI (n * 41) := pk_mul n 41
theorem zk_um_41 {n : Nat} : 41 * nI n = nI (41 * n) := pk_mul 41 n
theorem zk_lt_44 {n : Nat} (h : n < 2 ^ 31) : (nI n < 44) ↔ n < 44 := nI_ltI (b := 44) h (by omega)
theorem zk_le_44 {n : Nat} (h : n < 2 ^ 31) : (nI n ≤ 44) ↔ n ≤ 44 := nI_leI (b := 44) h (by omega)
theorem zk_gt_44 {n : Nat} (h : n < 2 ^ 31) : (44 < nI n) ↔ 44 < n := nI_ltI (a := 44) (by omega) h
theorem zk_ge_44 {n : Nat} (h : n < 2 ^ 31) : (44 ≤ nI n) ↔ 44 ≤ n := nI_leI (a := 44) (by omega) h
theorem zk_eq_44 {n : Nat} (h : n < 2 ^ 31) : (nI n = 44) ↔ n = 44 := nI_eq (b := 44) h (by omega)
theorem zk_qe_44 {n : Nat} (h : n < 2 ^ 31) : (44 = nI n) ↔ 44 = n := nI_eq (a := 44) (by omega) h
theorem zk_ad_44 {n : Nat} : nI n + 44 = nI (n + 44) := nI_add n 44
theorem zk_da_44 {n : Nat} : 44 + nI n = nI (44 + n) := nI_add 44 n
theorem zk_sb_44 {n : Nat} (h : 44 ≤ n) : nI n - 44 = nI (n - 44) := pk_sub (b := 44) h
theorem zk_mu_44 {n : Nat} : nI n * 44 = nI (n * 44) := pk_mul n 44
theorem zk_um_44 {n : Nat} : 44 * nI n = nI (44 * n) := pk_mul 44 n
theorem zk_lt_48 {n : Nat} (h : n < 2 ^ 31) : (nI n < 48) ↔ n < 48 := nI_ltI (b := 48) h (by omega)
theorem zk_le_48 {n : Nat} (h : n < 2 ^ 31) : (nI n ≤ 48) ↔ n ≤ 48 := nI_leI (b := 48) h (by omega)
theorem zk_gt_48 {n : Nat} (h : n < 2 ^ 31) : (48 < nI n) ↔ 48 < n := nI_ltI (a := 48) (by omega) h
theorem zk_ge_48 {n : Nat} (h : n < 2 ^ 31) : (48 ≤ nI n) ↔ 48 ≤ n := nI_leI (a := 48) (by omega) h
theorem zk_eq_48 {n : Nat} (h : n < 2 ^ 31) : (nI n = 48) ↔ n = 48 := nI_eq (b := 48) h (by omega)
theorem zk_qe_48 {n : Nat} (h : n < 2 ^ 31) : (48 = nI n) ↔ 48 = n := nI_eq (a := 48) (by omega) h
theorem zk_ad_48 {n : Nat} : nI n + 48 = nI (n + 48) := nI_add n 48
theorem zk_da_48 {n : Nat} : 48 + nI n = nI (48 + n) := nI_add 48 n
theorem zk_sb_48 {n : Nat} (h : 48 ≤ n) : nI n - 48 = nI (n - 48) := pk_sub (b := 48) h
theorem zk_mu_48 {n : Nat} : nI n * 48 = nI (n * 48) := pk_mul n 48
theorem zk_um_48 {n : Nat} : 48 * nI n = nI (48 * n) := pk_mul 48 n
theorem zk_lt_52 {n : Nat} (h : n < 2 ^ 31) : (nI n < 52) ↔ n < 52 := nI_ltI (b := 52) h (by omega)
theorem zk_le_52 {n : Nat} (h : n < 2 ^ 31) : (nI n ≤ 52) ↔ n ≤ 52 := nI_leI (b := 52) h (by omega)
theorem zk_gt_52 {n : Nat} (h : n < 2 ^ 31) : (52 < nI n) ↔ 52 < n := nI_ltI (a := 52) (by omega) h
theorem zk_ge_52 {n : Nat} (h : n < 2 ^ 31) : (52 ≤ nI n) ↔ 52 ≤ n := nI_leI (a := 52) (by omega) h
theorem zk_eq_52 {n : Nat} (h : n < 2 ^ 31) : (nI n = 52) ↔ n = 52 := nI_eq (b := 52) h (by omega)
theorem zk_qe_52 {n : Nat} (h : n < 2 ^ 31) : (52 = nI n) ↔ 52 = n := nI_eq (a := 52) (by omega) h
theorem zk_ad_52 {n : Nat} : nI n + 52 = nI (n + 52) := nI_add n 52
theorem zk_da_52 {n : Nat} : 52 + nI n = nI (52 + n) := nI_add 52 n
theorem zk_sb_52 {n : Nat} (h : 52 ≤ n) : nI n - 52 = nI (n - 52) := pk_sub (b := 52) h
theorem zk_mu_52 {n : Nat} : nI n * 52 = nI (n * 52) := pk_mul n 52
theorem zk_um_52 {n : Nat} : 52 * nI n = nI (52 * n) := pk_mul 52 n
theorem zk_lt_55 {n : Nat} (h : n < 2 ^ 31) : (nI n < 55) ↔ n < 55 := nI_ltI (b := 55) h (by omega)
theorem zk_le_55 {n : Nat} (h : n < 2 ^ 31) : (nI n ≤ 55) ↔ n ≤ 55 := nI_leI (b := 55) h (by omega)
theorem zk_gt_55 {n : Nat} (h : n < 2 ^ 31) : (55 < nI n) ↔ 55 < n := nI_ltI (a := 55) (by omega) h
theorem zk_ge_55 {n : Nat} (h : n < 2 ^ 31) : (55 ≤ nI n) ↔ 55 ≤ n := nI_leI (a := 55) (by omega) h
theorem zk_eq_55 {n : Nat} (h : n < 2 ^ 31) : (nI n = 55) ↔ n = 55 := nI_eq (b := 55) h (by omega)
theorem zk_qe_55 {n : Nat} (h : n < 2 ^ 31) : (55 = nI n) ↔ 55 = n := nI_eq (a := 55) (by omega) h
theorem zk_ad_55 {n : Nat} : nI n + 55 = nI (n + 55) := nI_add n 55
theorem zk_da_55 {n : Nat} : 55 + nI n = nI (55 + n) := nI_add 55 n
theorem zk_sb_55 {n : Nat} (h : 55 ≤ n) : nI n - 55 = nI (n - 55) := pk_sub (b := 55) h
theorem zk_mu_55 {n : Nat} : nI n * 55 = nI (n * 55) := pk_mul n 55
theorem zk_um_55 {n : Nat} : 55 * nI n = nI (55 * n) := pk_mul 55 n
theorem zk_lt_60 {n : Nat} (h : n < 2 ^ 31) : (nI n < 60) ↔ n < 60 := nI_ltI (b := 60) h (by omega)
theorem zk_le_60 {n : Nat} (h : n < 2 ^ 31) : (nI n ≤ 60) ↔ n ≤ 60 := nI_leI (b := 60) h (by omega)
theorem zk_gt_60 {n : Nat} (h : n < 2 ^ 31) : (60 < nI n) ↔ 60 < n := nI_ltI (a := 60) (by omega) h
theorem zk_ge_60 {n : Nat} (h : n < 2 ^ 31) : (60 ≤ nI n) ↔ 60 ≤ n := nI_leI (a := 60) (by omega) h
theorem zk_eq_60 {n : Nat} (h : n < 2 ^ 31) : (nI n = 60) ↔ n = 60 := nI_eq (b := 60) h (by omega)
theorem zk_qe_60 {n : Nat} (h : n < 2 ^ 31) : (60 = nI n) ↔ 60 = n := nI_eq (a := 60) (by omega) h
theorem zk_ad_60 {n : Nat} : nI n + 60 = nI (n + 60) := nI_add n 60
theorem zk_da_60 {n : Nat} : 60 + nI n = nI (60 + n) := nI_add 60 n
theorem zk_sb_60 {n : Nat} (h : 60 ≤ n) : nI n - 60 = nI (n - 60) := pk_sub (b := 60) h
theorem zk_mu_60 {n : Nat} : nI n * 60 = nI (n * 60) := pk_mul n 60
theorem zk_um_60 {n : Nat} : 60 * nI n = nI (60 * n) := pk_mul 60 n
theorem zk_lt_70 {n : Nat} (h : n < 2 ^ 31) : (nI n < 70) ↔ n < 70 := nI_ltI (b := 70) h (by omega)
theorem zk_le_70 {n : Nat} (h : n < 2 ^ 31) : (nI n ≤ 70) ↔ n ≤ 70 := nI_leI (b := 70) h (by omega)
theorem zk_gt_70 {n : Nat} (h : n < 2 ^ 31) : (70 < nI n) ↔ 70 < n := nI_ltI (a := 70) (by omega) h
theorem zk_ge_70 {n : Nat} (h : n < 2 ^ 31) : (70 ≤ nI n) ↔ 70 ≤ n := nI_leI (a := 70) (by omega) h
theorem zk_eq_70 {n : Nat} (h : n < 2 ^ 31) : (nI n = 70) ↔ n = 70 := nI_eq (b := 70) h (by omega)
theorem zk_qe_70 {n : Nat} (h : n < 2 ^ 31) : (70 = nI n) ↔ 70 = n := nI_eq (a := 70) (by omega) h
theorem zk_ad_70 {n : Nat} : nI n + 70 = nI (n + 70) := nI_add n 70
theorem zk_da_70 {n : Nat} : 70 + nI n = nI (70 + n) := nI_add 70 n
theorem zk_sb_70 {n : Nat} (h : 70 ≤ n) : nI n - 70 = nI (n - 70) := pk_sub (b := 70) h
theorem zk_mu_70 {n : Nat} : nI n * 70 = nI (n * 70) := pk_mul n 70
theorem zk_um_70 {n : Nat} : 70 * nI n = nI (70 * n) := pk_mul 70 n
theorem zk_lt_71 {n : Nat} (h : n < 2 ^ 31) : (nI n < 71) ↔ n < 71 := nI_ltI (b := 71) h (by omega)
theorem zk_le_71 {n : Nat} (h : n < 2 ^ 31) : (nI n ≤ 71) ↔ n ≤ 71 := nI_leI (b := 71) h (by omega)
theorem zk_gt_71 {n : Nat} (h : n < 2 ^ 31) : (71 < nI n) ↔ 71 < n := nI_ltI (a := 71) (by omega) h
theorem zk_ge_71 {n : Nat} (h : n < 2 ^ 31) : (71 ≤ nI n) ↔ 71 ≤ n := nI_leI (a := 71) (by omega) h
theorem zk_eq_71 {n : Nat} (h : n < 2 ^ 31) : (nI n = 71) ↔ n = 71 := nI_eq (b := 71) h (by omega)
theorem zk_qe_71 {n : Nat} (h : n < 2 ^ 31) : (71 = nI n) ↔ 71 = n := nI_eq (a := 71) (by omega) h
theorem zk_ad_71 {n : Nat} : nI n + 71 = nI (n + 71) := nI_add n 71
theorem zk_da_71 {n : Nat} : 71 + nI n = nI (71 + n) := nI_add 71 n
theorem zk_sb_71 {n : Nat} (h : 71 ≤ n) : nI n - 71 = nI (n - 71) := pk_sub (b := 71) h
theorem zk_mu_71 {n : Nat} : nI n * 71 = nI (n * 71) := pk_mul n 71
theorem zk_um_71 {n : Nat} : 71 * nI n = nI (71 * n) := pk_mul 71 n
theorem zk_lt_99 {n : Nat} (h : n < 2 ^ 31) : (nI n < 99) ↔ n < 99 := nI_ltI (b := 99) h (by omega)
theorem zk_le_99 {n : Nat} (h : n < 2 ^ 31) : (nI n ≤ 99) ↔ n ≤ 99 := nI_leI (b := 99) h (by omega)
theorem zk_gt_99 {n : Nat} (h : n < 2 ^ 31) : (99 < nI n) ↔ 99 < n := nI_ltI (a := 99) (by omega) h
theorem zk_ge_99 {n : Nat} (h : n < 2 ^ 31) : (99 ≤ nI n) ↔ 99 ≤ n := nI_leI (a := 99) (by omega) h
theorem zk_eq_99 {n : Nat} (h : n < 2 ^ 31) : (nI n = 99) ↔ n = 99 := nI_eq (b := 99) h (by omega)
theorem zk_qe_99 {n : Nat} (h : n < 2 ^ 31) : (99 = nI n) ↔ 99 = n := nI_eq (a := 99) (by omega) h
theorem zk_ad_99 {n : Nat} : nI n + 99 = nI (n + 99) := nI_add n 99
theorem zk_da_99 {n : Nat} : 99 + nI n = nI (99 + n) := nI_add 99 n
theorem zk_sb_99 {n : Nat} (h : 99 ≤ n) : nI n - 99 = nI (n - 99) := pk_sub (b := 99) h
theorem zk_mu_99 {n : Nat} : nI n * 99 = nI (n * 99) := pk_mul n 99
theorem zk_um_99 {n : Nat} : 99 * nI n = nI (99 * n) := pk_mul 99 n
theorem zk_lt_193 {n : Nat} (h : n < 2 ^ 31) : (nI n < 193) ↔ n < 193 := nI_ltI (b := 193) h (by omega)
theorem zk_le_193 {n : Nat} (h : n < 2 ^ 31) : (nI n ≤ 193) ↔ n ≤ 193 := nI_leI (b := 193) h (by omega)
theorem zk_gt_193 {n : Nat} (h : n < 2 ^ 31) : (193 < nI n) ↔ 193 < n := nI_ltI (a := 193) (by omega) h
theorem zk_ge_193 {n : Nat} (h : n < 2 ^ 31) : (193 ≤ nI n) ↔ 193 ≤ n := nI_leI (a := 193) (by omega) h
theorem zk_eq_193 {n : Nat} (h : n < 2 ^ 31) : (nI n = 193) ↔ n = 193 := nI_eq (b := 193) h (by omega)
theorem zk_qe_193 {n : Nat} (h : n < 2 ^ 31) : (193 = nI n) ↔ 193 = n := nI_eq (a := 193) (by omega) h
theorem zk_ad_193 {n : Nat} : nI n + 193 = nI (n + 193) := nI_add n 193
theorem zk_da_193 {n : Nat} : 193 + nI n = nI (193 + n) := nI_add 193 n
theorem zk_sb_193 {n : Nat} (h : 193 ≤ n) : nI n - 193 = nI (n - 193) := pk_sub (b := 193) h
theorem zk_mu_193 {n : Nat} : nI n * 193 = nI (n * 193) := pk_mul n 193
theorem zk_um_193 {n : Nat} : 193 * nI n = nI (193 * n) := pk_mul 193 n
theorem zk_lt_240 {n : Nat} (h : n < 2 ^ 31) : (nI n < 240) ↔ n < 240 := nI_ltI (b := 240) h (by omega)
theorem zk_le_240 {n : Nat} (h : n < 2 ^ 31) : (nI n ≤ 240) ↔ n ≤ 240 := nI_leI (b := 240) h (by omega)
theorem zk_gt_240 {n : Nat} (h : n < 2 ^ 31) : (240 < nI n) ↔ 240 < n := nI_ltI (a := 240) (by omega) h
theorem zk_ge_240 {n : Nat} (h : n < 2 ^ 31) : (240 ≤ nI n) ↔ 240 ≤ n := nI_leI (a := 240) (by omega) h
theorem zk_eq_240 {n : Nat} (h : n < 2 ^ 31) : (nI n = 240) ↔ n = 240 := nI_eq (b := 240) h (by omega)
theorem zk_qe_240 {n : Nat} (h : n < 2 ^ 31) : (240 = nI n) ↔ 240 = n := nI_eq (a := 240) (by omega) h
theorem zk_ad_240 {n : Nat} : nI n + 240 = nI (n + 240) := nI_add n 240
theorem zk_da_240 {n : Nat} : 240 + nI n = nI (240 + n) := nI_add 240 n
theorem zk_sb_240 {n : Nat} (h : 240 ≤ n) : nI n - 240 = nI (n - 240) := pk_sub (b := 240) h
theorem zk_mu_240 {n : Nat} : nI n * 240 = nI (n * 240) := pk_mul n 240
theorem zk_um_240 {n : Nat} : 240 * nI n = nI (240 * n) := pk_mul 240 n
theorem zk_lt_399 {n : Nat} (h : n < 2 ^ 31) : (nI n < 399) ↔ n < 399 := nI_ltI (b := 399) h (by omega)
theorem zk_le_399 {n : Nat} (h : n < 2 ^ 31) : (nI n ≤ 399) ↔ n ≤ 399 := nI_leI (b := 399) h (by omega)
theorem zk_gt_399 {n : Nat} (h : n < 2 ^ 31) : (399 < nI n) ↔ 399 < n := nI_ltI (a := 399) (by omega) h
theorem zk_ge_399 {n : Nat} (h : n < 2 ^ 31) : (399 ≤ nI n) ↔ 399 ≤ n := nI_leI (a := 399) (by omega) h
theorem zk_eq_399 {n : Nat} (h : n < 2 ^ 31) : (nI n = 399) ↔ n = 399 := nI_eq (b := 399) h (by omega)
theorem zk_qe_399 {n : Nat} (h : n < 2 ^ 31) : (399 = nI n) ↔ 399 = n := nI_eq (a := 399) (by omega) h
theorem zk_ad_399 {n : Nat} : nI n + 399 = nI (n + 399) := nI_add n 399
theorem zk_da_399 {n : Nat} : 399 + nI n = nI (399 + n) := nI_add 399 n
theorem zk_sb_399 {n : Nat} (h : 399 ≤ n) : nI n - 399 = nI (n - 399) := pk_sub (b := 399) h
theorem zk_mu_399 {n : Nat} : nI n * 399 = nI (n * 399) := pk_mul n 399
theorem zk_um_399 {n : Nat} : 399 * nI n = nI (399 * n) := pk_mul 399 n
theorem zk_lt_400 {n : Nat} (h : n < 2 ^ 31) : (nI n < 400) ↔ n < 400 := nI_ltI (b := 400) h (by omega)
theorem zk_le_400 {n : Nat} (h : n < 2 ^ 31) : (nI n ≤ 400) ↔ n ≤ 400 := nI_leI (b := 400) h (by omega)
theorem zk_gt_400 {n : Nat} (h : n < 2 ^ 31) : (400 < nI n) ↔ 400 < n := nI_ltI (a := 400) (by omega) h
theorem zk_ge_400 {n : Nat} (h : n < 2 ^ 31) : (400 ≤ nI n) ↔ 400 ≤ n := nI_leI (a := 400) (by omega) h
theorem zk_eq_400 {n : Nat} (h : n < 2 ^ 31) : (nI n = 400) ↔ n = 400 := nI_eq (b := 400) h (by omega)
theorem zk_qe_400 {n : Nat} (h : n < 2 ^ 31) : (400 = nI n) ↔ 400 = n := nI_eq (a := 400) (by omega) h
theorem zk_ad_400 {n : Nat} : nI n + 400 = nI (n + 400) := nI_add n 400
theorem zk_da_400 {n : Nat} : 400 + nI n = nI (400 + n) := nI_add 400 n
theorem zk_sb_400 {n : Nat} (h : 400 ≤ n) : nI n - 400 = nI (n - 400) := pk_sub (b := 400) h
theorem zk_mu_400 {n : Nat} : nI n * 400 = nI (n * 400) := pk_mul n 400
theorem zk_um_400 {n : Nat} : 400 * nI n = nI (400 * n) := pk_mul 400 n
theorem zk_lt_401 {n : Nat} (h : n < 2 ^ 31) : (nI n < 401) ↔ n < 401 := nI_ltI (b := 401) h (by omega)
theorem zk_le_401 {n : Nat} (h : n < 2 ^ 31) : (nI n ≤ 401) ↔ n ≤ 401 := nI_leI (b := 401) h (by omega)
theorem zk_gt_401 {n : Nat} (h : n < 2 ^ 31) : (401 < nI n) ↔ 401 < n := nI_ltI (a := 401) (by omega) h
theorem zk_ge_401 {n : Nat} (h : n < 2 ^ 31) : (401 ≤ nI n) ↔ 401 ≤ n := nI_leI (a := 401) (by omega) h
theorem zk_eq_401 {n : Nat} (h : n < 2 ^ 31) : (nI n = 401) ↔ n = 401 := nI_eq (b := 401) h (by omega)
theorem zk_qe_401 {n : Nat} (h : n < 2 ^ 31) : (401 = nI n) ↔ 401 = n := nI_eq (a := 401) (by omega) h
theorem zk_ad_401 {n : Nat} : nI n + 401 = nI (n + 401) := nI_add n 401
theorem zk_da_401 {n : Nat} : 401 + nI n = nI (401 + n) := nI_add 401 n
theorem zk_sb_401 {n : Nat} (h : 401 ≤ n) : nI n - 401 = nI (n - 401) := pk_sub (b := 401) h
theorem zk_mu_401 {n : Nat} : nI n * 401 = nI (n * 401) := pk_mul n 401
theorem zk_um_401 {n : Nat} : 401 * nI n = nI (401 * n) := pk_mul 401 n
theorem zk_lt_999 {n : Nat} (h : n < 2 ^ 31) : (nI n < 999) ↔ n < 999 := nI_ltI (b := 999) h (by omega)
theorem zk_le_999 {n : Nat} (h : n < 2 ^ 31) : (nI n ≤ 999) ↔ n ≤ 999 := nI_leI (b := 999) h (by omega)
theorem zk_gt_999 {n : Nat} (h : n < 2 ^ 31) : (999 < nI n) ↔ 999 < n := nI_ltI (a := 999) (by omega) h
theorem zk_ge_999 {n : Nat} (h : n < 2 ^ 31) : (999 ≤ nI n) ↔ 999 ≤ n := nI_leI (a := 999) (by omega) h
theorem zk_eq_999 {n : Nat} (h : n < 2 ^ 31) : (nI n = 999) ↔ n = 999 := nI_eq (b := 999) h (by omega)
theorem zk_qe_999 {n : Nat} (h : n < 2 ^ 31) : (999 = nI n) ↔ 999 = n := nI_eq (a := 999) (by omega) h
theorem zk_ad_999 {n : Nat} : nI n + 999 = nI (n + 999) := nI_add n 999
theorem zk_da_999 {n : Nat} : 999 + nI n = nI (999 + n) := nI_add 999 n
theorem zk_sb_999 {n : Nat} (h : 999 ≤ n) : nI n - 999 = nI (n - 999) := pk_sub (b := 999) h
theorem zk_mu_999 {n : Nat} : nI n * 999 = nI (n * 999) := pk_mul n 999
theorem zk_um_999 {n : Nat} : 999 * nI n = nI (999 * n) := pk_mul 999 n
theorem zk_lt_1021 {n : Nat} (h : n < 2 ^ 31) : (nI n < 1021) ↔ n < 1021 := nI_ltI (b := 1021) h (by omega)
theorem zk_le_1021 {n : Nat} (h : n < 2 ^ 31) : (nI n ≤ 1021) ↔ n ≤ 1021 := nI_leI (b := 1021) h (by omega)
theorem zk_gt_1021 {n : Nat} (h : n < 2 ^ 31) : (1021 < nI n) ↔ 1021 < n := nI_ltI (a := 1021) (by omega) h
theorem zk_ge_1021 {n : Nat} (h : n < 2 ^ 31) : (1021 ≤ nI n) ↔ 1021 ≤ n := nI_leI (a := 1021) (by omega) h
theorem zk_eq_1021 {n : Nat} (h : n < 2 ^ 31) : (nI n = 1021) ↔ n = 1021 := nI_eq (b := 1021) h (by omega)
theorem zk_qe_1021 {n : Nat} (h : n < 2 ^ 31) : (1021 = nI n) ↔ 1021 = n := nI_eq (a := 1021) (by omega) h
theorem zk_ad_1021 {n : Nat} : nI n + 1021 = nI (n + 1021) := nI_add n 1021
theorem zk_da_1021 {n : Nat} : 1021 + nI n = nI (1021 + n) := nI_add 1021 n
theorem zk_sb_1021 {n : Nat} (h : 1021 ≤ n) : nI n - 1021 = nI (n - 1021) := pk_sub (b := 1021) h
theorem zk_mu_1021 {n : Nat} : nI n * 1021 = nI (n * 1021) := pk_mul n 1021
theorem zk_um_1021 {n : Nat} : 1021 * nI n = nI (1021 * n) := pk_mul 1021 n
theorem zk_lt_1980 {n : Nat} (h : n < 2 ^ 31) : (nI n < 1980) ↔ n < 1980 := nI_ltI (b := 1980) h (by omega)
theorem zk_le_1980 {n : Nat} (h : n < 2 ^ 31) : (nI n ≤ 1980) ↔ n ≤ 1980 := nI_leI (b := 1980) h (by omega)
theorem zk_gt_1980 {n : Nat} (h : n < 2 ^ 31) : (1980 < nI n) ↔ 1980 < n := nI_ltI (a := 1980) (by omega) h
theorem zk_ge_1980 {n : Nat} (h : n < 2 ^ 31) : (1980 ≤ nI n) ↔ 1980 ≤ n := nI_leI (a := 1980) (by omega) h
theorem zk_eq_1980 {n : Nat} (h : n < 2 ^ 31) : (nI n = 1980) ↔ n = 1980 := nI_eq (b := 1980) h (by omega)
theorem zk_qe_1980 {n : Nat} (h : n < 2 ^ 31) : (1980 = nI n) ↔ 1980 = n := nI_eq (a := 1980) (by omega) h
theorem zk_ad_1980 {n : Nat} : nI n + 1980 = nI (n + 1980) := nI_add n 1980
theorem zk_da_1980 {n : Nat} : 1980 + nI n = nI (1980 + n) := nI_add 1980 n
theorem zk_sb_1980 {n : Nat} (h : 1980 ≤ n) : nI n - 1980 = nI (n - 1980) := pk_sub (b := 1980) h
theorem zk_mu_1980 {n : Nat} : nI n * 1980 = nI (n * 1980) := pk_mul n 1980
theorem zk_um_1980 {n : Nat} : 1980 * nI n = nI (1980 * n) := pk_mul 1980 n
theorem zk_lt_2000 {n : Nat} (h : n < 2 ^ 31) : (nI n < 2000) ↔ n < 2000 := nI_ltI (b := 2000) h (by omega)
theorem zk_le_2000 {n : Nat} (h : n < 2 ^ 31) : (nI n ≤ 2000) ↔ n ≤ 2000 := nI_leI (b := 2000) h (by omega)
theorem zk_gt_2000 {n : Nat} (h : n < 2 ^ 31) : (2000 < nI n) ↔ 2000 < n := nI_ltI (a := 2000) (by omega) h
theorem zk_ge_2000 {n : Nat} (h : n < 2 ^ 31) : (2000 ≤ nI n) ↔ 2000 ≤ n := nI_leI (a := 2000) (by omega) h
theorem zk_eq_2000 {n : Nat} (h : n < 2 ^ 31) : (nI n = 2000) ↔ n = 2000 := nI_eq (b := 2000) h (by omega)
theorem zk_qe_2000 {n : Nat} (h : n < 2 ^ 31) : (2000 = nI n) ↔ 2000 = n := nI_eq (a := 2000) (by omega) h
theorem zk_ad_2000 {n : Nat} : nI n + 2000 = nI (n + 2000) := nI_add n 2000
theorem zk_da_2000 {n : Nat} : 2000 + nI n = nI (2000 + n) := nI_add 2000 n
theorem zk_sb_2000 {n : Nat} (h : 2000 ≤ n) : nI n - 2000 = nI (n - 2000) := pk_sub (b := 2000) h
theorem zk_mu_2000 {n : Nat} : nI n * 2000 = nI (n * 2000) := pk_mul n 2000
theorem zk_um_2000 {n : Nat} : 2000 * nI n = nI (2000 * n) := pk_mul 2000 n
theorem zk_m1 {n : Nat} (h : n < 2 ^ 31) : (nI n = -1) ↔ False := iff_of_false (fun e => nI_pos h (by rw [e]; decide)) id
theorem zk_1m {n : Nat} (h : n < 2 ^ 31) : (-1 = nI n) ↔ False := iff_of_false (fun e => nI_pos h (by rw [← e]; decide)) id
