/-! numbers -/
theorem q_clamp {n : Nat} (h : n < 2147483648) : Int32.toNatClampNeg (nI n) = n := nI_clamp h
theorem q_in {n N : Nat} (h : n < N) (hN : N < 2147483648) : vp_in (nI n) N = True := eq_true (vp_in_nI h hN)
theorem q_pred {p : Nat} (h : 0 < p) : nI p + (-1) = nI (p - 1) := sb_m1 h
theorem q_sub {a b : Nat} (h : b ≤ a) : nI a - nI b = nI (a - b) := pk_sub h
theorem qm_3 (k : Nat) : (3 : Int32) * nI k = nI (3 * k) := pk_mul 3 k
theorem qm_4 (k : Nat) : (4 : Int32) * nI k = nI (4 * k) := pk_mul 4 k
theorem qm_16 (k : Nat) : (16 : Int32) * nI k = nI (16 * k) := pk_mul 16 k
theorem qm_600 (k : Nat) : (600 : Int32) * nI k = nI (600 * k) := pk_mul 600 k
theorem qm_200 (k : Nat) : (200 : Int32) * nI k = nI (200 * k) := pk_mul 200 k
theorem qm_8 (k : Nat) : (8 : Int32) * nI k = nI (8 * k) := pk_mul 8 k
theorem qn_210 (k : Nat) : nI k * (210 : Int32) = nI (k * 210) := pk_mul k 210
theorem qn_3 (k : Nat) : nI k * (3 : Int32) = nI (k * 3) := pk_mul k 3
theorem qa_0 (k : Nat) : nI k + (0 : Int32) = nI (k + 0) := nI_add k 0
theorem qb_0 (k : Nat) : (0 : Int32) + nI k = nI (0 + k) := nI_add 0 k
theorem qa_1 (k : Nat) : nI k + (1 : Int32) = nI (k + 1) := nI_add k 1
theorem qb_1 (k : Nat) : (1 : Int32) + nI k = nI (1 + k) := nI_add 1 k
theorem qa_2 (k : Nat) : nI k + (2 : Int32) = nI (k + 2) := nI_add k 2
theorem qb_2 (k : Nat) : (2 : Int32) + nI k = nI (2 + k) := nI_add 2 k
theorem qa_3 (k : Nat) : nI k + (3 : Int32) = nI (k + 3) := nI_add k 3
theorem qb_3 (k : Nat) : (3 : Int32) + nI k = nI (3 + k) := nI_add 3 k
theorem qa_4 (k : Nat) : nI k + (4 : Int32) = nI (k + 4) := nI_add k 4
theorem qb_4 (k : Nat) : (4 : Int32) + nI k = nI (4 + k) := nI_add 4 k
theorem qa_16 (k : Nat) : nI k + (16 : Int32) = nI (k + 16) := nI_add k 16
theorem qb_16 (k : Nat) : (16 : Int32) + nI k = nI (16 + k) := nI_add 16 k
theorem qa_180 (k : Nat) : nI k + (180 : Int32) = nI (k + 180) := nI_add k 180
theorem qb_180 (k : Nat) : (180 : Int32) + nI k = nI (180 + k) := nI_add 180 k
theorem qs_1 {k : Nat} (h : 1 ≤ k) : nI k - (1 : Int32) = nI (k - 1) := pk_sub (b := 1) h
theorem qs_2 {k : Nat} (h : 2 ≤ k) : nI k - (2 : Int32) = nI (k - 2) := pk_sub (b := 2) h
theorem qs_3 {k : Nat} (h : 3 ≤ k) : nI k - (3 : Int32) = nI (k - 3) := pk_sub (b := 3) h
theorem qs_4 {k : Nat} (h : 4 ≤ k) : nI k - (4 : Int32) = nI (k - 4) := pk_sub (b := 4) h
theorem qs_6 {k : Nat} (h : 6 ≤ k) : nI k - (6 : Int32) = nI (k - 6) := pk_sub (b := 6) h
theorem qs_24 {k : Nat} (h : 24 ≤ k) : nI k - (24 : Int32) = nI (k - 24) := pk_sub (b := 24) h
theorem ql_0 {n : Nat} (h : n < 2147483648) : (nI n ≤ (0 : Int32)) = (n ≤ 0) := propext (nI_leI (b := 0) h (by decide))
theorem qL_0 {n : Nat} (h : n < 2147483648) : ((0 : Int32) ≤ nI n) = (0 ≤ n) := propext (nI_leI (a := 0) (by decide) h)
theorem qt_0 {n : Nat} (h : n < 2147483648) : (nI n < (0 : Int32)) = (n < 0) := propext (nI_ltI (b := 0) h (by decide))
theorem qT_0 {n : Nat} (h : n < 2147483648) : ((0 : Int32) < nI n) = (0 < n) := propext (nI_ltI (a := 0) (by decide) h)
theorem qe_0 {n : Nat} (h : n < 2147483648) : (nI n = (0 : Int32)) = (n = 0) := propext (nI_eq (b := 0) h (by decide))
theorem qc_0 : Int32.toNatClampNeg (0 : Int32) = 0 := nI_clamp (n := 0) (by decide)
theorem qi_0 {N : Nat} (h : 0 < N) (hN : N < 2147483648) : vp_in (0 : Int32) N = True := eq_true (vp_in_nI (n := 0) h hN)
theorem ql_1 {n : Nat} (h : n < 2147483648) : (nI n ≤ (1 : Int32)) = (n ≤ 1) := propext (nI_leI (b := 1) h (by decide))
theorem qL_1 {n : Nat} (h : n < 2147483648) : ((1 : Int32) ≤ nI n) = (1 ≤ n) := propext (nI_leI (a := 1) (by decide) h)
theorem qt_1 {n : Nat} (h : n < 2147483648) : (nI n < (1 : Int32)) = (n < 1) := propext (nI_ltI (b := 1) h (by decide))
theorem qT_1 {n : Nat} (h : n < 2147483648) : ((1 : Int32) < nI n) = (1 < n) := propext (nI_ltI (a := 1) (by decide) h)
theorem qe_1 {n : Nat} (h : n < 2147483648) : (nI n = (1 : Int32)) = (n = 1) := propext (nI_eq (b := 1) h (by decide))
theorem qc_1 : Int32.toNatClampNeg (1 : Int32) = 1 := nI_clamp (n := 1) (by decide)
theorem qi_1 {N : Nat} (h : 1 < N) (hN : N < 2147483648) : vp_in (1 : Int32) N = True := eq_true (vp_in_nI (n := 1) h hN)
theorem ql_2 {n : Nat} (h : n < 2147483648) : (nI n ≤ (2 : Int32)) = (n ≤ 2) := propext (nI_leI (b := 2) h (by decide))
theorem qL_2 {n : Nat} (h : n < 2147483648) : ((2 : Int32) ≤ nI n) = (2 ≤ n) := propext (nI_leI (a := 2) (by decide) h)
theorem qt_2 {n : Nat} (h : n < 2147483648) : (nI n < (2 : Int32)) = (n < 2) := propext (nI_ltI (b := 2) h (by decide))
theorem qT_2 {n : Nat} (h : n < 2147483648) : ((2 : Int32) < nI n) = (2 < n) := propext (nI_ltI (a := 2) (by decide) h)
theorem qe_2 {n : Nat} (h : n < 2147483648) : (nI n = (2 : Int32)) = (n = 2) := propext (nI_eq (b := 2) h (by decide))
theorem qc_2 : Int32.toNatClampNeg (2 : Int32) = 2 := nI_clamp (n := 2) (by decide)
theorem qi_2 {N : Nat} (h : 2 < N) (hN : N < 2147483648) : vp_in (2 : Int32) N = True := eq_true (vp_in_nI (n := 2) h hN)
theorem ql_3 {n : Nat} (h : n < 2147483648) : (nI n ≤ (3 : Int32)) = (n ≤ 3) := propext (nI_leI (b := 3) h (by decide))
theorem qL_3 {n : Nat} (h : n < 2147483648) : ((3 : Int32) ≤ nI n) = (3 ≤ n) := propext (nI_leI (a := 3) (by decide) h)
theorem qt_3 {n : Nat} (h : n < 2147483648) : (nI n < (3 : Int32)) = (n < 3) := propext (nI_ltI (b := 3) h (by decide))
theorem qT_3 {n : Nat} (h : n < 2147483648) : ((3 : Int32) < nI n) = (3 < n) := propext (nI_ltI (a := 3) (by decide) h)
theorem qe_3 {n : Nat} (h : n < 2147483648) : (nI n = (3 : Int32)) = (n = 3) := propext (nI_eq (b := 3) h (by decide))
theorem qc_3 : Int32.toNatClampNeg (3 : Int32) = 3 := nI_clamp (n := 3) (by decide)
theorem qi_3 {N : Nat} (h : 3 < N) (hN : N < 2147483648) : vp_in (3 : Int32) N = True := eq_true (vp_in_nI (n := 3) h hN)
theorem ql_4 {n : Nat} (h : n < 2147483648) : (nI n ≤ (4 : Int32)) = (n ≤ 4) := propext (nI_leI (b := 4) h (by decide))
theorem qL_4 {n : Nat} (h : n < 2147483648) : ((4 : Int32) ≤ nI n) = (4 ≤ n) := propext (nI_leI (a := 4) (by decide) h)
theorem qt_4 {n : Nat} (h : n < 2147483648) : (nI n < (4 : Int32)) = (n < 4) := propext (nI_ltI (b := 4) h (by decide))
theorem qT_4 {n : Nat} (h : n < 2147483648) : ((4 : Int32) < nI n) = (4 < n) := propext (nI_ltI (a := 4) (by decide) h)
theorem qe_4 {n : Nat} (h : n < 2147483648) : (nI n = (4 : Int32)) = (n = 4) := propext (nI_eq (b := 4) h (by decide))
theorem qc_4 : Int32.toNatClampNeg (4 : Int32) = 4 := nI_clamp (n := 4) (by decide)
theorem qi_4 {N : Nat} (h : 4 < N) (hN : N < 2147483648) : vp_in (4 : Int32) N = True := eq_true (vp_in_nI (n := 4) h hN)
theorem ql_6 {n : Nat} (h : n < 2147483648) : (nI n ≤ (6 : Int32)) = (n ≤ 6) := propext (nI_leI (b := 6) h (by decide))
theorem qL_6 {n : Nat} (h : n < 2147483648) : ((6 : Int32) ≤ nI n) = (6 ≤ n) := propext (nI_leI (a := 6) (by decide) h)
theorem qt_6 {n : Nat} (h : n < 2147483648) : (nI n < (6 : Int32)) = (n < 6) := propext (nI_ltI (b := 6) h (by decide))
theorem qT_6 {n : Nat} (h : n < 2147483648) : ((6 : Int32) < nI n) = (6 < n) := propext (nI_ltI (a := 6) (by decide) h)
theorem qe_6 {n : Nat} (h : n < 2147483648) : (nI n = (6 : Int32)) = (n = 6) := propext (nI_eq (b := 6) h (by decide))
theorem qc_6 : Int32.toNatClampNeg (6 : Int32) = 6 := nI_clamp (n := 6) (by decide)
theorem qi_6 {N : Nat} (h : 6 < N) (hN : N < 2147483648) : vp_in (6 : Int32) N = True := eq_true (vp_in_nI (n := 6) h hN)
theorem ql_8 {n : Nat} (h : n < 2147483648) : (nI n ≤ (8 : Int32)) = (n ≤ 8) := propext (nI_leI (b := 8) h (by decide))
theorem qL_8 {n : Nat} (h : n < 2147483648) : ((8 : Int32) ≤ nI n) = (8 ≤ n) := propext (nI_leI (a := 8) (by decide) h)
theorem qt_8 {n : Nat} (h : n < 2147483648) : (nI n < (8 : Int32)) = (n < 8) := propext (nI_ltI (b := 8) h (by decide))
theorem qT_8 {n : Nat} (h : n < 2147483648) : ((8 : Int32) < nI n) = (8 < n) := propext (nI_ltI (a := 8) (by decide) h)
theorem qe_8 {n : Nat} (h : n < 2147483648) : (nI n = (8 : Int32)) = (n = 8) := propext (nI_eq (b := 8) h (by decide))
theorem qc_8 : Int32.toNatClampNeg (8 : Int32) = 8 := nI_clamp (n := 8) (by decide)
theorem qi_8 {N : Nat} (h : 8 < N) (hN : N < 2147483648) : vp_in (8 : Int32) N = True := eq_true (vp_in_nI (n := 8) h hN)
theorem ql_10 {n : Nat} (h : n < 2147483648) : (nI n ≤ (10 : Int32)) = (n ≤ 10) := propext (nI_leI (b := 10) h (by decide))
theorem qL_10 {n : Nat} (h : n < 2147483648) : ((10 : Int32) ≤ nI n) = (10 ≤ n) := propext (nI_leI (a := 10) (by decide) h)
theorem qt_10 {n : Nat} (h : n < 2147483648) : (nI n < (10 : Int32)) = (n < 10) := propext (nI_ltI (b := 10) h (by decide))
theorem qT_10 {n : Nat} (h : n < 2147483648) : ((10 : Int32) < nI n) = (10 < n) := propext (nI_ltI (a := 10) (by decide) h)
theorem qe_10 {n : Nat} (h : n < 2147483648) : (nI n = (10 : Int32)) = (n = 10) := propext (nI_eq (b := 10) h (by decide))
theorem qc_10 : Int32.toNatClampNeg (10 : Int32) = 10 := nI_clamp (n := 10) (by decide)
theorem qi_10 {N : Nat} (h : 10 < N) (hN : N < 2147483648) : vp_in (10 : Int32) N = True := eq_true (vp_in_nI (n := 10) h hN)
theorem ql_24 {n : Nat} (h : n < 2147483648) : (nI n ≤ (24 : Int32)) = (n ≤ 24) := propext (nI_leI (b := 24) h (by decide))
theorem qL_24 {n : Nat} (h : n < 2147483648) : ((24 : Int32) ≤ nI n) = (24 ≤ n) := propext (nI_leI (a := 24) (by decide) h)
theorem qt_24 {n : Nat} (h : n < 2147483648) : (nI n < (24 : Int32)) = (n < 24) := propext (nI_ltI (b := 24) h (by decide))
theorem qT_24 {n : Nat} (h : n < 2147483648) : ((24 : Int32) < nI n) = (24 < n) := propext (nI_ltI (a := 24) (by decide) h)
theorem qe_24 {n : Nat} (h : n < 2147483648) : (nI n = (24 : Int32)) = (n = 24) := propext (nI_eq (b := 24) h (by decide))
theorem qc_24 : Int32.toNatClampNeg (24 : Int32) = 24 := nI_clamp (n := 24) (by decide)
theorem qi_24 {N : Nat} (h : 24 < N) (hN : N < 2147483648) : vp_in (24 : Int32) N = True := eq_true (vp_in_nI (n := 24) h hN)
theorem ql_60 {n : Nat} (h : n < 2147483648) : (nI n ≤ (60 : Int32)) = (n ≤ 60) := propext (nI_leI (b := 60) h (by decide))
theorem qL_60 {n : Nat} (h : n < 2147483648) : ((60 : Int32) ≤ nI n) = (60 ≤ n) := propext (nI_leI (a := 60) (by decide) h)
theorem qt_60 {n : Nat} (h : n < 2147483648) : (nI n < (60 : Int32)) = (n < 60) := propext (nI_ltI (b := 60) h (by decide))
theorem qT_60 {n : Nat} (h : n < 2147483648) : ((60 : Int32) < nI n) = (60 < n) := propext (nI_ltI (a := 60) (by decide) h)
theorem qe_60 {n : Nat} (h : n < 2147483648) : (nI n = (60 : Int32)) = (n = 60) := propext (nI_eq (b := 60) h (by decide))
theorem qc_60 : Int32.toNatClampNeg (60 : Int32) = 60 := nI_clamp (n := 60) (by decide)
theorem qi_60 {N : Nat} (h : 60 < N) (hN : N < 2147483648) : vp_in (60 : Int32) N = True := eq_true (vp_in_nI (n := 60) h hN)
theorem ql_100 {n : Nat} (h : n < 2147483648) : (nI n ≤ (100 : Int32)) = (n ≤ 100) := propext (nI_leI (b := 100) h (by decide))
theorem qL_100 {n : Nat} (h : n < 2147483648) : ((100 : Int32) ≤ nI n) = (100 ≤ n) := propext (nI_leI (a := 100) (by decide) h)
theorem qt_100 {n : Nat} (h : n < 2147483648) : (nI n < (100 : Int32)) = (n < 100) := propext (nI_ltI (b := 100) h (by decide))
theorem qT_100 {n : Nat} (h : n < 2147483648) : ((100 : Int32) < nI n) = (100 < n) := propext (nI_ltI (a := 100) (by decide) h)
theorem qe_100 {n : Nat} (h : n < 2147483648) : (nI n = (100 : Int32)) = (n = 100) := propext (nI_eq (b := 100) h (by decide))
theorem qc_100 : Int32.toNatClampNeg (100 : Int32) = 100 := nI_clamp (n := 100) (by decide)
theorem qi_100 {N : Nat} (h : 100 < N) (hN : N < 2147483648) : vp_in (100 : Int32) N = True := eq_true (vp_in_nI (n := 100) h hN)
theorem ql_200 {n : Nat} (h : n < 2147483648) : (nI n ≤ (200 : Int32)) = (n ≤ 200) := propext (nI_leI (b := 200) h (by decide))
theorem qL_200 {n : Nat} (h : n < 2147483648) : ((200 : Int32) ≤ nI n) = (200 ≤ n) := propext (nI_leI (a := 200) (by decide) h)
theorem qt_200 {n : Nat} (h : n < 2147483648) : (nI n < (200 : Int32)) = (n < 200) := propext (nI_ltI (b := 200) h (by decide))
theorem qT_200 {n : Nat} (h : n < 2147483648) : ((200 : Int32) < nI n) = (200 < n) := propext (nI_ltI (a := 200) (by decide) h)
theorem qe_200 {n : Nat} (h : n < 2147483648) : (nI n = (200 : Int32)) = (n = 200) := propext (nI_eq (b := 200) h (by decide))
theorem qc_200 : Int32.toNatClampNeg (200 : Int32) = 200 := nI_clamp (n := 200) (by decide)
theorem qi_200 {N : Nat} (h : 200 < N) (hN : N < 2147483648) : vp_in (200 : Int32) N = True := eq_true (vp_in_nI (n := 200) h hN)
theorem ql_400 {n : Nat} (h : n < 2147483648) : (nI n ≤ (400 : Int32)) = (n ≤ 400) := propext (nI_leI (b := 400) h (by decide))
theorem qL_400 {n : Nat} (h : n < 2147483648) : ((400 : Int32) ≤ nI n) = (400 ≤ n) := propext (nI_leI (a := 400) (by decide) h)
theorem qt_400 {n : Nat} (h : n < 2147483648) : (nI n < (400 : Int32)) = (n < 400) := propext (nI_ltI (b := 400) h (by decide))
theorem qT_400 {n : Nat} (h : n < 2147483648) : ((400 : Int32) < nI n) = (400 < n) := propext (nI_ltI (a := 400) (by decide) h)
theorem qe_400 {n : Nat} (h : n < 2147483648) : (nI n = (400 : Int32)) = (n = 400) := propext (nI_eq (b := 400) h (by decide))
theorem qc_400 : Int32.toNatClampNeg (400 : Int32) = 400 := nI_clamp (n := 400) (by decide)
theorem qi_400 {N : Nat} (h : 400 < N) (hN : N < 2147483648) : vp_in (400 : Int32) N = True := eq_true (vp_in_nI (n := 400) h hN)
theorem ql_600 {n : Nat} (h : n < 2147483648) : (nI n ≤ (600 : Int32)) = (n ≤ 600) := propext (nI_leI (b := 600) h (by decide))
theorem qL_600 {n : Nat} (h : n < 2147483648) : ((600 : Int32) ≤ nI n) = (600 ≤ n) := propext (nI_leI (a := 600) (by decide) h)
theorem qt_600 {n : Nat} (h : n < 2147483648) : (nI n < (600 : Int32)) = (n < 600) := propext (nI_ltI (b := 600) h (by decide))
theorem qT_600 {n : Nat} (h : n < 2147483648) : ((600 : Int32) < nI n) = (600 < n) := propext (nI_ltI (a := 600) (by decide) h)
theorem qe_600 {n : Nat} (h : n < 2147483648) : (nI n = (600 : Int32)) = (n = 600) := propext (nI_eq (b := 600) h (by decide))
theorem qc_600 : Int32.toNatClampNeg (600 : Int32) = 600 := nI_clamp (n := 600) (by decide)
theorem qi_600 {N : Nat} (h : 600 < N) (hN : N < 2147483648) : vp_in (600 : Int32) N = True := eq_true (vp_in_nI (n := 600) h hN)
theorem ql_900 {n : Nat} (h : n < 2147483648) : (nI n ≤ (900 : Int32)) = (n ≤ 900) := propext (nI_leI (b := 900) h (by decide))
theorem qL_900 {n : Nat} (h : n < 2147483648) : ((900 : Int32) ≤ nI n) = (900 ≤ n) := propext (nI_leI (a := 900) (by decide) h)
theorem qt_900 {n : Nat} (h : n < 2147483648) : (nI n < (900 : Int32)) = (n < 900) := propext (nI_ltI (b := 900) h (by decide))
theorem qT_900 {n : Nat} (h : n < 2147483648) : ((900 : Int32) < nI n) = (900 < n) := propext (nI_ltI (a := 900) (by decide) h)
theorem qe_900 {n : Nat} (h : n < 2147483648) : (nI n = (900 : Int32)) = (n = 900) := propext (nI_eq (b := 900) h (by decide))
theorem qc_900 : Int32.toNatClampNeg (900 : Int32) = 900 := nI_clamp (n := 900) (by decide)
theorem qi_900 {N : Nat} (h : 900 < N) (hN : N < 2147483648) : vp_in (900 : Int32) N = True := eq_true (vp_in_nI (n := 900) h hN)
theorem ql_1200 {n : Nat} (h : n < 2147483648) : (nI n ≤ (1200 : Int32)) = (n ≤ 1200) := propext (nI_leI (b := 1200) h (by decide))
theorem qL_1200 {n : Nat} (h : n < 2147483648) : ((1200 : Int32) ≤ nI n) = (1200 ≤ n) := propext (nI_leI (a := 1200) (by decide) h)
theorem qt_1200 {n : Nat} (h : n < 2147483648) : (nI n < (1200 : Int32)) = (n < 1200) := propext (nI_ltI (b := 1200) h (by decide))
theorem qT_1200 {n : Nat} (h : n < 2147483648) : ((1200 : Int32) < nI n) = (1200 < n) := propext (nI_ltI (a := 1200) (by decide) h)
theorem qe_1200 {n : Nat} (h : n < 2147483648) : (nI n = (1200 : Int32)) = (n = 1200) := propext (nI_eq (b := 1200) h (by decide))
theorem qc_1200 : Int32.toNatClampNeg (1200 : Int32) = 1200 := nI_clamp (n := 1200) (by decide)
theorem qi_1200 {N : Nat} (h : 1200 < N) (hN : N < 2147483648) : vp_in (1200 : Int32) N = True := eq_true (vp_in_nI (n := 1200) h hN)
theorem ql_65536 {n : Nat} (h : n < 2147483648) : (nI n ≤ (65536 : Int32)) = (n ≤ 65536) := propext (nI_leI (b := 65536) h (by decide))
theorem qL_65536 {n : Nat} (h : n < 2147483648) : ((65536 : Int32) ≤ nI n) = (65536 ≤ n) := propext (nI_leI (a := 65536) (by decide) h)
theorem qt_65536 {n : Nat} (h : n < 2147483648) : (nI n < (65536 : Int32)) = (n < 65536) := propext (nI_ltI (b := 65536) h (by decide))
theorem qT_65536 {n : Nat} (h : n < 2147483648) : ((65536 : Int32) < nI n) = (65536 < n) := propext (nI_ltI (a := 65536) (by decide) h)
theorem qe_65536 {n : Nat} (h : n < 2147483648) : (nI n = (65536 : Int32)) = (n = 65536) := propext (nI_eq (b := 65536) h (by decide))
theorem qc_65536 : Int32.toNatClampNeg (65536 : Int32) = 65536 := nI_clamp (n := 65536) (by decide)
theorem qi_65536 {N : Nat} (h : 65536 < N) (hN : N < 2147483648) : vp_in (65536 : Int32) N = True := eq_true (vp_in_nI (n := 65536) h hN)
/-! where nothing changes but at some cells -/
def jj_fr (P : Nat → Prop) (h h' : jj_H) : Prop := h'.2.2 = h.2.2 ∧ (∀ t a i, ¬ P a → jI h' t a i = jI h t a i) ∧ (∀ t a i, ¬ P a → jL h' t a i = jL h t a i)
theorem jj_fr.rf {P : Nat → Prop} {h : jj_H} : jj_fr P h h := ⟨rfl, fun _ _ _ _ => rfl, fun _ _ _ _ => rfl⟩
theorem jj_fr.trans {P : Nat → Prop} {h h1 h2 : jj_H} (a : jj_fr P h h1) (b : jj_fr P h1 h2) : jj_fr P h h2 := ⟨b.1.trans a.1, fun t x i hp => (b.2.1 t x i hp).trans (a.2.1 t x i hp), fun t x i hp => (b.2.2 t x i hp).trans (a.2.2 t x i hp)⟩
theorem jj_fr.mono {P P' : Nat → Prop} {h h1 : jj_H} (a : jj_fr P h h1) (hp : ∀ x, P x → P' x) : jj_fr P' h h1 := ⟨a.1, fun t x i q => a.2.1 t x i (fun z => q (hp x z)), fun t x i q => a.2.2 t x i (fun z => q (hp x z))⟩
theorem jj_fr.wI {P : Nat → Prop} {h : jj_H} {t a i : Nat} {v : Int32} (ha : P a) : jj_fr P h (wI h t a i v) := ⟨rfl, fun t' x i' hp => by rw [jI_wI, if_neg (show ¬ (t' = t ∧ x = a ∧ i' = i) from fun q => hp (by rw [q.2.1]; exact ha))], fun _ _ _ _ => rfl⟩
theorem jj_fr.wL {P : Nat → Prop} {h : jj_H} {t a i : Nat} {v : Int64} (ha : P a) : jj_fr P h (wL h t a i v) := ⟨rfl, fun _ _ _ _ => rfl, fun t' x i' hp => by rw [jL_wL, if_neg (show ¬ (t' = t ∧ x = a ∧ i' = i) from fun q => hp (by rw [q.2.1]; exact ha))]⟩
def rT : List (Nat × Nat × Nat × Nat) := [(501, 1, 21, 37200), (502, 2, 21, 111600), (503, 3, 21, 186), (504, 4, 21, 183), (505, 5, 21, 183), (506, 6, 21, 38430), (507, 7, 21, 38430), (508, 8, 21, 38430), (509, 9, 21, 38430), (510, 10, 22, 38430), (511, 11, 21, 3360), (512, 12, 21, 1), (515, 13, 21, 60), (516, 14, 21, 60), (517, 15, 22, 60), (518, 16, 21, 6), (524, 17, 21, 1200), (525, 18, 21, 1200), (526, 19, 23, 1200), (528, 20, 21, 400), (529, 21, 21, 400), (531, 22, 21, 6), (532, 23, 21, 65536), (533, 24, 21, 3)]
/-- the reference at m: its arrays lie behind it, in order -/
def rM (h : jj_H) (m : Nat) : Prop := jK h m = 11 ∧ ∀ q ∈ rT, jR h q.1 m 0 = m + q.2.1 ∧ jK h (m + q.2.1) = q.2.2.1 ∧ jN h (m + q.2.1) = q.2.2.2
theorem rM_k {h : jj_H} {m : Nat} (M : rM h m) : jK h m = 11 := M.1
theorem rM_r501 {h : jj_H} {m : Nat} (M : rM h m) : jR h 501 m 0 = m + 1 := (M.2 (501, 1, 21, 37200) (by decide)).1
theorem rM_k1 {h : jj_H} {m : Nat} (M : rM h m) : jK h (m + 1) = 21 := (M.2 (501, 1, 21, 37200) (by decide)).2.1
theorem rM_n1 {h : jj_H} {m : Nat} (M : rM h m) : jN h (m + 1) = 37200 := (M.2 (501, 1, 21, 37200) (by decide)).2.2
theorem rM_r502 {h : jj_H} {m : Nat} (M : rM h m) : jR h 502 m 0 = m + 2 := (M.2 (502, 2, 21, 111600) (by decide)).1
theorem rM_k2 {h : jj_H} {m : Nat} (M : rM h m) : jK h (m + 2) = 21 := (M.2 (502, 2, 21, 111600) (by decide)).2.1
theorem rM_n2 {h : jj_H} {m : Nat} (M : rM h m) : jN h (m + 2) = 111600 := (M.2 (502, 2, 21, 111600) (by decide)).2.2
theorem rM_r503 {h : jj_H} {m : Nat} (M : rM h m) : jR h 503 m 0 = m + 3 := (M.2 (503, 3, 21, 186) (by decide)).1
theorem rM_k3 {h : jj_H} {m : Nat} (M : rM h m) : jK h (m + 3) = 21 := (M.2 (503, 3, 21, 186) (by decide)).2.1
theorem rM_n3 {h : jj_H} {m : Nat} (M : rM h m) : jN h (m + 3) = 186 := (M.2 (503, 3, 21, 186) (by decide)).2.2
theorem rM_r504 {h : jj_H} {m : Nat} (M : rM h m) : jR h 504 m 0 = m + 4 := (M.2 (504, 4, 21, 183) (by decide)).1
theorem rM_k4 {h : jj_H} {m : Nat} (M : rM h m) : jK h (m + 4) = 21 := (M.2 (504, 4, 21, 183) (by decide)).2.1
theorem rM_n4 {h : jj_H} {m : Nat} (M : rM h m) : jN h (m + 4) = 183 := (M.2 (504, 4, 21, 183) (by decide)).2.2
theorem rM_r505 {h : jj_H} {m : Nat} (M : rM h m) : jR h 505 m 0 = m + 5 := (M.2 (505, 5, 21, 183) (by decide)).1
theorem rM_k5 {h : jj_H} {m : Nat} (M : rM h m) : jK h (m + 5) = 21 := (M.2 (505, 5, 21, 183) (by decide)).2.1
theorem rM_n5 {h : jj_H} {m : Nat} (M : rM h m) : jN h (m + 5) = 183 := (M.2 (505, 5, 21, 183) (by decide)).2.2
theorem rM_r506 {h : jj_H} {m : Nat} (M : rM h m) : jR h 506 m 0 = m + 6 := (M.2 (506, 6, 21, 38430) (by decide)).1
theorem rM_k6 {h : jj_H} {m : Nat} (M : rM h m) : jK h (m + 6) = 21 := (M.2 (506, 6, 21, 38430) (by decide)).2.1
theorem rM_n6 {h : jj_H} {m : Nat} (M : rM h m) : jN h (m + 6) = 38430 := (M.2 (506, 6, 21, 38430) (by decide)).2.2
theorem rM_r507 {h : jj_H} {m : Nat} (M : rM h m) : jR h 507 m 0 = m + 7 := (M.2 (507, 7, 21, 38430) (by decide)).1
theorem rM_k7 {h : jj_H} {m : Nat} (M : rM h m) : jK h (m + 7) = 21 := (M.2 (507, 7, 21, 38430) (by decide)).2.1
theorem rM_n7 {h : jj_H} {m : Nat} (M : rM h m) : jN h (m + 7) = 38430 := (M.2 (507, 7, 21, 38430) (by decide)).2.2
theorem rM_r508 {h : jj_H} {m : Nat} (M : rM h m) : jR h 508 m 0 = m + 8 := (M.2 (508, 8, 21, 38430) (by decide)).1
theorem rM_k8 {h : jj_H} {m : Nat} (M : rM h m) : jK h (m + 8) = 21 := (M.2 (508, 8, 21, 38430) (by decide)).2.1
theorem rM_n8 {h : jj_H} {m : Nat} (M : rM h m) : jN h (m + 8) = 38430 := (M.2 (508, 8, 21, 38430) (by decide)).2.2
theorem rM_r509 {h : jj_H} {m : Nat} (M : rM h m) : jR h 509 m 0 = m + 9 := (M.2 (509, 9, 21, 38430) (by decide)).1
theorem rM_k9 {h : jj_H} {m : Nat} (M : rM h m) : jK h (m + 9) = 21 := (M.2 (509, 9, 21, 38430) (by decide)).2.1
theorem rM_n9 {h : jj_H} {m : Nat} (M : rM h m) : jN h (m + 9) = 38430 := (M.2 (509, 9, 21, 38430) (by decide)).2.2
theorem rM_r510 {h : jj_H} {m : Nat} (M : rM h m) : jR h 510 m 0 = m + 10 := (M.2 (510, 10, 22, 38430) (by decide)).1
theorem rM_k10 {h : jj_H} {m : Nat} (M : rM h m) : jK h (m + 10) = 22 := (M.2 (510, 10, 22, 38430) (by decide)).2.1
theorem rM_n10 {h : jj_H} {m : Nat} (M : rM h m) : jN h (m + 10) = 38430 := (M.2 (510, 10, 22, 38430) (by decide)).2.2
theorem rM_r511 {h : jj_H} {m : Nat} (M : rM h m) : jR h 511 m 0 = m + 11 := (M.2 (511, 11, 21, 3360) (by decide)).1
theorem rM_k11 {h : jj_H} {m : Nat} (M : rM h m) : jK h (m + 11) = 21 := (M.2 (511, 11, 21, 3360) (by decide)).2.1
theorem rM_n11 {h : jj_H} {m : Nat} (M : rM h m) : jN h (m + 11) = 3360 := (M.2 (511, 11, 21, 3360) (by decide)).2.2
theorem rM_r512 {h : jj_H} {m : Nat} (M : rM h m) : jR h 512 m 0 = m + 12 := (M.2 (512, 12, 21, 1) (by decide)).1
theorem rM_k12 {h : jj_H} {m : Nat} (M : rM h m) : jK h (m + 12) = 21 := (M.2 (512, 12, 21, 1) (by decide)).2.1
theorem rM_n12 {h : jj_H} {m : Nat} (M : rM h m) : jN h (m + 12) = 1 := (M.2 (512, 12, 21, 1) (by decide)).2.2
theorem rM_r515 {h : jj_H} {m : Nat} (M : rM h m) : jR h 515 m 0 = m + 13 := (M.2 (515, 13, 21, 60) (by decide)).1
theorem rM_k13 {h : jj_H} {m : Nat} (M : rM h m) : jK h (m + 13) = 21 := (M.2 (515, 13, 21, 60) (by decide)).2.1
theorem rM_n13 {h : jj_H} {m : Nat} (M : rM h m) : jN h (m + 13) = 60 := (M.2 (515, 13, 21, 60) (by decide)).2.2
theorem rM_r516 {h : jj_H} {m : Nat} (M : rM h m) : jR h 516 m 0 = m + 14 := (M.2 (516, 14, 21, 60) (by decide)).1
theorem rM_k14 {h : jj_H} {m : Nat} (M : rM h m) : jK h (m + 14) = 21 := (M.2 (516, 14, 21, 60) (by decide)).2.1
theorem rM_n14 {h : jj_H} {m : Nat} (M : rM h m) : jN h (m + 14) = 60 := (M.2 (516, 14, 21, 60) (by decide)).2.2
theorem rM_r517 {h : jj_H} {m : Nat} (M : rM h m) : jR h 517 m 0 = m + 15 := (M.2 (517, 15, 22, 60) (by decide)).1
theorem rM_k15 {h : jj_H} {m : Nat} (M : rM h m) : jK h (m + 15) = 22 := (M.2 (517, 15, 22, 60) (by decide)).2.1
theorem rM_n15 {h : jj_H} {m : Nat} (M : rM h m) : jN h (m + 15) = 60 := (M.2 (517, 15, 22, 60) (by decide)).2.2
theorem rM_r518 {h : jj_H} {m : Nat} (M : rM h m) : jR h 518 m 0 = m + 16 := (M.2 (518, 16, 21, 6) (by decide)).1
theorem rM_k16 {h : jj_H} {m : Nat} (M : rM h m) : jK h (m + 16) = 21 := (M.2 (518, 16, 21, 6) (by decide)).2.1
theorem rM_n16 {h : jj_H} {m : Nat} (M : rM h m) : jN h (m + 16) = 6 := (M.2 (518, 16, 21, 6) (by decide)).2.2
theorem rM_r524 {h : jj_H} {m : Nat} (M : rM h m) : jR h 524 m 0 = m + 17 := (M.2 (524, 17, 21, 1200) (by decide)).1
theorem rM_k17 {h : jj_H} {m : Nat} (M : rM h m) : jK h (m + 17) = 21 := (M.2 (524, 17, 21, 1200) (by decide)).2.1
theorem rM_n17 {h : jj_H} {m : Nat} (M : rM h m) : jN h (m + 17) = 1200 := (M.2 (524, 17, 21, 1200) (by decide)).2.2
theorem rM_r525 {h : jj_H} {m : Nat} (M : rM h m) : jR h 525 m 0 = m + 18 := (M.2 (525, 18, 21, 1200) (by decide)).1
theorem rM_k18 {h : jj_H} {m : Nat} (M : rM h m) : jK h (m + 18) = 21 := (M.2 (525, 18, 21, 1200) (by decide)).2.1
theorem rM_n18 {h : jj_H} {m : Nat} (M : rM h m) : jN h (m + 18) = 1200 := (M.2 (525, 18, 21, 1200) (by decide)).2.2
theorem rM_r526 {h : jj_H} {m : Nat} (M : rM h m) : jR h 526 m 0 = m + 19 := (M.2 (526, 19, 23, 1200) (by decide)).1
theorem rM_k19 {h : jj_H} {m : Nat} (M : rM h m) : jK h (m + 19) = 23 := (M.2 (526, 19, 23, 1200) (by decide)).2.1
theorem rM_n19 {h : jj_H} {m : Nat} (M : rM h m) : jN h (m + 19) = 1200 := (M.2 (526, 19, 23, 1200) (by decide)).2.2
theorem rM_r528 {h : jj_H} {m : Nat} (M : rM h m) : jR h 528 m 0 = m + 20 := (M.2 (528, 20, 21, 400) (by decide)).1
theorem rM_k20 {h : jj_H} {m : Nat} (M : rM h m) : jK h (m + 20) = 21 := (M.2 (528, 20, 21, 400) (by decide)).2.1
theorem rM_n20 {h : jj_H} {m : Nat} (M : rM h m) : jN h (m + 20) = 400 := (M.2 (528, 20, 21, 400) (by decide)).2.2
theorem rM_r529 {h : jj_H} {m : Nat} (M : rM h m) : jR h 529 m 0 = m + 21 := (M.2 (529, 21, 21, 400) (by decide)).1
theorem rM_k21 {h : jj_H} {m : Nat} (M : rM h m) : jK h (m + 21) = 21 := (M.2 (529, 21, 21, 400) (by decide)).2.1
theorem rM_n21 {h : jj_H} {m : Nat} (M : rM h m) : jN h (m + 21) = 400 := (M.2 (529, 21, 21, 400) (by decide)).2.2
theorem rM_r531 {h : jj_H} {m : Nat} (M : rM h m) : jR h 531 m 0 = m + 22 := (M.2 (531, 22, 21, 6) (by decide)).1
theorem rM_k22 {h : jj_H} {m : Nat} (M : rM h m) : jK h (m + 22) = 21 := (M.2 (531, 22, 21, 6) (by decide)).2.1
theorem rM_n22 {h : jj_H} {m : Nat} (M : rM h m) : jN h (m + 22) = 6 := (M.2 (531, 22, 21, 6) (by decide)).2.2
theorem rM_r532 {h : jj_H} {m : Nat} (M : rM h m) : jR h 532 m 0 = m + 23 := (M.2 (532, 23, 21, 65536) (by decide)).1
theorem rM_k23 {h : jj_H} {m : Nat} (M : rM h m) : jK h (m + 23) = 21 := (M.2 (532, 23, 21, 65536) (by decide)).2.1
theorem rM_n23 {h : jj_H} {m : Nat} (M : rM h m) : jN h (m + 23) = 65536 := (M.2 (532, 23, 21, 65536) (by decide)).2.2
theorem rM_r533 {h : jj_H} {m : Nat} (M : rM h m) : jR h 533 m 0 = m + 24 := (M.2 (533, 24, 21, 3) (by decide)).1
theorem rM_k24 {h : jj_H} {m : Nat} (M : rM h m) : jK h (m + 24) = 21 := (M.2 (533, 24, 21, 3) (by decide)).2.1
theorem rM_n24 {h : jj_H} {m : Nat} (M : rM h m) : jN h (m + 24) = 3 := (M.2 (533, 24, 21, 3) (by decide)).2.2
theorem rM.of {h h' : jj_H} {m : Nat} (M : rM h m) (F : h'.2.2 = h.2.2) : rM h' m := by
  unfold rM jK jR jN at *
  rw [F]
  exact M
