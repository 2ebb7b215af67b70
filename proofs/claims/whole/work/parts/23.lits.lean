/-! small numbers, guards, frames -/
theorem nI_ltL {a b : Nat} (ha : a < 2147483648) (hb : b < 2147483648) : (nI a < nI b) = (a < b) := propext (nI_ltI ha hb)
theorem nI_leL {a b : Nat} (ha : a < 2147483648) (hb : b < 2147483648) : (nI a ≤ nI b) = (a ≤ b) := propext (nI_leI ha hb)
theorem nI_eqL {a b : Nat} (ha : a < 2147483648) (hb : b < 2147483648) : (nI a = nI b) = (a = b) := propext (nI_eq ha hb)
theorem nl_0 {n : Nat} (hn : n < 2147483648) : (nI n < 0) = (n < 0) := nI_ltL (b := 0) hn (by decide)
theorem nr_0 {n : Nat} (hn : n < 2147483648) : ((0 : Int32) < nI n) = (0 < n) := nI_ltL (a := 0) (by decide) hn
theorem nle_0 {n : Nat} (hn : n < 2147483648) : (nI n ≤ 0) = (n ≤ 0) := nI_leL (b := 0) hn (by decide)
theorem nre_0 {n : Nat} (hn : n < 2147483648) : ((0 : Int32) ≤ nI n) = (0 ≤ n) := nI_leL (a := 0) (by decide) hn
theorem nq_0 {n : Nat} (hn : n < 2147483648) : (nI n = 0) = (n = 0) := nI_eqL (b := 0) hn (by decide)
theorem nl_1 {n : Nat} (hn : n < 2147483648) : (nI n < 1) = (n < 1) := nI_ltL (b := 1) hn (by decide)
theorem nr_1 {n : Nat} (hn : n < 2147483648) : ((1 : Int32) < nI n) = (1 < n) := nI_ltL (a := 1) (by decide) hn
theorem nle_1 {n : Nat} (hn : n < 2147483648) : (nI n ≤ 1) = (n ≤ 1) := nI_leL (b := 1) hn (by decide)
theorem nre_1 {n : Nat} (hn : n < 2147483648) : ((1 : Int32) ≤ nI n) = (1 ≤ n) := nI_leL (a := 1) (by decide) hn
theorem nq_1 {n : Nat} (hn : n < 2147483648) : (nI n = 1) = (n = 1) := nI_eqL (b := 1) hn (by decide)
theorem nl_2 {n : Nat} (hn : n < 2147483648) : (nI n < 2) = (n < 2) := nI_ltL (b := 2) hn (by decide)
theorem nr_2 {n : Nat} (hn : n < 2147483648) : ((2 : Int32) < nI n) = (2 < n) := nI_ltL (a := 2) (by decide) hn
theorem nle_2 {n : Nat} (hn : n < 2147483648) : (nI n ≤ 2) = (n ≤ 2) := nI_leL (b := 2) hn (by decide)
theorem nre_2 {n : Nat} (hn : n < 2147483648) : ((2 : Int32) ≤ nI n) = (2 ≤ n) := nI_leL (a := 2) (by decide) hn
theorem nq_2 {n : Nat} (hn : n < 2147483648) : (nI n = 2) = (n = 2) := nI_eqL (b := 2) hn (by decide)
theorem nl_3 {n : Nat} (hn : n < 2147483648) : (nI n < 3) = (n < 3) := nI_ltL (b := 3) hn (by decide)
theorem nr_3 {n : Nat} (hn : n < 2147483648) : ((3 : Int32) < nI n) = (3 < n) := nI_ltL (a := 3) (by decide) hn
theorem nle_3 {n : Nat} (hn : n < 2147483648) : (nI n ≤ 3) = (n ≤ 3) := nI_leL (b := 3) hn (by decide)
theorem nre_3 {n : Nat} (hn : n < 2147483648) : ((3 : Int32) ≤ nI n) = (3 ≤ n) := nI_leL (a := 3) (by decide) hn
theorem nq_3 {n : Nat} (hn : n < 2147483648) : (nI n = 3) = (n = 3) := nI_eqL (b := 3) hn (by decide)
theorem nl_4 {n : Nat} (hn : n < 2147483648) : (nI n < 4) = (n < 4) := nI_ltL (b := 4) hn (by decide)
theorem nr_4 {n : Nat} (hn : n < 2147483648) : ((4 : Int32) < nI n) = (4 < n) := nI_ltL (a := 4) (by decide) hn
theorem nle_4 {n : Nat} (hn : n < 2147483648) : (nI n ≤ 4) = (n ≤ 4) := nI_leL (b := 4) hn (by decide)
theorem nre_4 {n : Nat} (hn : n < 2147483648) : ((4 : Int32) ≤ nI n) = (4 ≤ n) := nI_leL (a := 4) (by decide) hn
theorem nq_4 {n : Nat} (hn : n < 2147483648) : (nI n = 4) = (n = 4) := nI_eqL (b := 4) hn (by decide)
theorem nl_5 {n : Nat} (hn : n < 2147483648) : (nI n < 5) = (n < 5) := nI_ltL (b := 5) hn (by decide)
theorem nr_5 {n : Nat} (hn : n < 2147483648) : ((5 : Int32) < nI n) = (5 < n) := nI_ltL (a := 5) (by decide) hn
theorem nle_5 {n : Nat} (hn : n < 2147483648) : (nI n ≤ 5) = (n ≤ 5) := nI_leL (b := 5) hn (by decide)
theorem nre_5 {n : Nat} (hn : n < 2147483648) : ((5 : Int32) ≤ nI n) = (5 ≤ n) := nI_leL (a := 5) (by decide) hn
theorem nq_5 {n : Nat} (hn : n < 2147483648) : (nI n = 5) = (n = 5) := nI_eqL (b := 5) hn (by decide)
theorem nl_6 {n : Nat} (hn : n < 2147483648) : (nI n < 6) = (n < 6) := nI_ltL (b := 6) hn (by decide)
theorem nr_6 {n : Nat} (hn : n < 2147483648) : ((6 : Int32) < nI n) = (6 < n) := nI_ltL (a := 6) (by decide) hn
theorem nle_6 {n : Nat} (hn : n < 2147483648) : (nI n ≤ 6) = (n ≤ 6) := nI_leL (b := 6) hn (by decide)
theorem nre_6 {n : Nat} (hn : n < 2147483648) : ((6 : Int32) ≤ nI n) = (6 ≤ n) := nI_leL (a := 6) (by decide) hn
theorem nq_6 {n : Nat} (hn : n < 2147483648) : (nI n = 6) = (n = 6) := nI_eqL (b := 6) hn (by decide)
theorem nl_7 {n : Nat} (hn : n < 2147483648) : (nI n < 7) = (n < 7) := nI_ltL (b := 7) hn (by decide)
theorem nr_7 {n : Nat} (hn : n < 2147483648) : ((7 : Int32) < nI n) = (7 < n) := nI_ltL (a := 7) (by decide) hn
theorem nle_7 {n : Nat} (hn : n < 2147483648) : (nI n ≤ 7) = (n ≤ 7) := nI_leL (b := 7) hn (by decide)
theorem nre_7 {n : Nat} (hn : n < 2147483648) : ((7 : Int32) ≤ nI n) = (7 ≤ n) := nI_leL (a := 7) (by decide) hn
theorem nq_7 {n : Nat} (hn : n < 2147483648) : (nI n = 7) = (n = 7) := nI_eqL (b := 7) hn (by decide)
theorem nl_8 {n : Nat} (hn : n < 2147483648) : (nI n < 8) = (n < 8) := nI_ltL (b := 8) hn (by decide)
theorem nr_8 {n : Nat} (hn : n < 2147483648) : ((8 : Int32) < nI n) = (8 < n) := nI_ltL (a := 8) (by decide) hn
theorem nle_8 {n : Nat} (hn : n < 2147483648) : (nI n ≤ 8) = (n ≤ 8) := nI_leL (b := 8) hn (by decide)
theorem nre_8 {n : Nat} (hn : n < 2147483648) : ((8 : Int32) ≤ nI n) = (8 ≤ n) := nI_leL (a := 8) (by decide) hn
theorem nq_8 {n : Nat} (hn : n < 2147483648) : (nI n = 8) = (n = 8) := nI_eqL (b := 8) hn (by decide)
theorem nl_10 {n : Nat} (hn : n < 2147483648) : (nI n < 10) = (n < 10) := nI_ltL (b := 10) hn (by decide)
theorem nr_10 {n : Nat} (hn : n < 2147483648) : ((10 : Int32) < nI n) = (10 < n) := nI_ltL (a := 10) (by decide) hn
theorem nle_10 {n : Nat} (hn : n < 2147483648) : (nI n ≤ 10) = (n ≤ 10) := nI_leL (b := 10) hn (by decide)
theorem nre_10 {n : Nat} (hn : n < 2147483648) : ((10 : Int32) ≤ nI n) = (10 ≤ n) := nI_leL (a := 10) (by decide) hn
theorem nq_10 {n : Nat} (hn : n < 2147483648) : (nI n = 10) = (n = 10) := nI_eqL (b := 10) hn (by decide)
theorem nl_11 {n : Nat} (hn : n < 2147483648) : (nI n < 11) = (n < 11) := nI_ltL (b := 11) hn (by decide)
theorem nr_11 {n : Nat} (hn : n < 2147483648) : ((11 : Int32) < nI n) = (11 < n) := nI_ltL (a := 11) (by decide) hn
theorem nle_11 {n : Nat} (hn : n < 2147483648) : (nI n ≤ 11) = (n ≤ 11) := nI_leL (b := 11) hn (by decide)
theorem nre_11 {n : Nat} (hn : n < 2147483648) : ((11 : Int32) ≤ nI n) = (11 ≤ n) := nI_leL (a := 11) (by decide) hn
theorem nq_11 {n : Nat} (hn : n < 2147483648) : (nI n = 11) = (n = 11) := nI_eqL (b := 11) hn (by decide)
theorem nl_12 {n : Nat} (hn : n < 2147483648) : (nI n < 12) = (n < 12) := nI_ltL (b := 12) hn (by decide)
theorem nr_12 {n : Nat} (hn : n < 2147483648) : ((12 : Int32) < nI n) = (12 < n) := nI_ltL (a := 12) (by decide) hn
theorem nle_12 {n : Nat} (hn : n < 2147483648) : (nI n ≤ 12) = (n ≤ 12) := nI_leL (b := 12) hn (by decide)
theorem nre_12 {n : Nat} (hn : n < 2147483648) : ((12 : Int32) ≤ nI n) = (12 ≤ n) := nI_leL (a := 12) (by decide) hn
theorem nq_12 {n : Nat} (hn : n < 2147483648) : (nI n = 12) = (n = 12) := nI_eqL (b := 12) hn (by decide)
theorem nl_20 {n : Nat} (hn : n < 2147483648) : (nI n < 20) = (n < 20) := nI_ltL (b := 20) hn (by decide)
theorem nr_20 {n : Nat} (hn : n < 2147483648) : ((20 : Int32) < nI n) = (20 < n) := nI_ltL (a := 20) (by decide) hn
theorem nle_20 {n : Nat} (hn : n < 2147483648) : (nI n ≤ 20) = (n ≤ 20) := nI_leL (b := 20) hn (by decide)
theorem nre_20 {n : Nat} (hn : n < 2147483648) : ((20 : Int32) ≤ nI n) = (20 ≤ n) := nI_leL (a := 20) (by decide) hn
theorem nq_20 {n : Nat} (hn : n < 2147483648) : (nI n = 20) = (n = 20) := nI_eqL (b := 20) hn (by decide)
theorem nl_21 {n : Nat} (hn : n < 2147483648) : (nI n < 21) = (n < 21) := nI_ltL (b := 21) hn (by decide)
theorem nr_21 {n : Nat} (hn : n < 2147483648) : ((21 : Int32) < nI n) = (21 < n) := nI_ltL (a := 21) (by decide) hn
theorem nle_21 {n : Nat} (hn : n < 2147483648) : (nI n ≤ 21) = (n ≤ 21) := nI_leL (b := 21) hn (by decide)
theorem nre_21 {n : Nat} (hn : n < 2147483648) : ((21 : Int32) ≤ nI n) = (21 ≤ n) := nI_leL (a := 21) (by decide) hn
theorem nq_21 {n : Nat} (hn : n < 2147483648) : (nI n = 21) = (n = 21) := nI_eqL (b := 21) hn (by decide)
theorem nl_41 {n : Nat} (hn : n < 2147483648) : (nI n < 41) = (n < 41) := nI_ltL (b := 41) hn (by decide)
theorem nr_41 {n : Nat} (hn : n < 2147483648) : ((41 : Int32) < nI n) = (41 < n) := nI_ltL (a := 41) (by decide) hn
theorem nle_41 {n : Nat} (hn : n < 2147483648) : (nI n ≤ 41) = (n ≤ 41) := nI_leL (b := 41) hn (by decide)
theorem nre_41 {n : Nat} (hn : n < 2147483648) : ((41 : Int32) ≤ nI n) = (41 ≤ n) := nI_leL (a := 41) (by decide) hn
theorem nq_41 {n : Nat} (hn : n < 2147483648) : (nI n = 41) = (n = 41) := nI_eqL (b := 41) hn (by decide)
theorem nl_200 {n : Nat} (hn : n < 2147483648) : (nI n < 200) = (n < 200) := nI_ltL (b := 200) hn (by decide)
theorem nr_200 {n : Nat} (hn : n < 2147483648) : ((200 : Int32) < nI n) = (200 < n) := nI_ltL (a := 200) (by decide) hn
theorem nle_200 {n : Nat} (hn : n < 2147483648) : (nI n ≤ 200) = (n ≤ 200) := nI_leL (b := 200) hn (by decide)
theorem nre_200 {n : Nat} (hn : n < 2147483648) : ((200 : Int32) ≤ nI n) = (200 ≤ n) := nI_leL (a := 200) (by decide) hn
theorem nq_200 {n : Nat} (hn : n < 2147483648) : (nI n = 200) = (n = 200) := nI_eqL (b := 200) hn (by decide)
theorem nl_201 {n : Nat} (hn : n < 2147483648) : (nI n < 201) = (n < 201) := nI_ltL (b := 201) hn (by decide)
theorem nr_201 {n : Nat} (hn : n < 2147483648) : ((201 : Int32) < nI n) = (201 < n) := nI_ltL (a := 201) (by decide) hn
theorem nle_201 {n : Nat} (hn : n < 2147483648) : (nI n ≤ 201) = (n ≤ 201) := nI_leL (b := 201) hn (by decide)
theorem nre_201 {n : Nat} (hn : n < 2147483648) : ((201 : Int32) ≤ nI n) = (201 ≤ n) := nI_leL (a := 201) (by decide) hn
theorem nq_201 {n : Nat} (hn : n < 2147483648) : (nI n = 201) = (n = 201) := nI_eqL (b := 201) hn (by decide)
theorem nl_480 {n : Nat} (hn : n < 2147483648) : (nI n < 480) = (n < 480) := nI_ltL (b := 480) hn (by decide)
theorem nr_480 {n : Nat} (hn : n < 2147483648) : ((480 : Int32) < nI n) = (480 < n) := nI_ltL (a := 480) (by decide) hn
theorem nle_480 {n : Nat} (hn : n < 2147483648) : (nI n ≤ 480) = (n ≤ 480) := nI_leL (b := 480) hn (by decide)
theorem nre_480 {n : Nat} (hn : n < 2147483648) : ((480 : Int32) ≤ nI n) = (480 ≤ n) := nI_leL (a := 480) (by decide) hn
theorem nq_480 {n : Nat} (hn : n < 2147483648) : (nI n = 480) = (n = 480) := nI_eqL (b := 480) hn (by decide)
theorem nl_500 {n : Nat} (hn : n < 2147483648) : (nI n < 500) = (n < 500) := nI_ltL (b := 500) hn (by decide)
theorem nr_500 {n : Nat} (hn : n < 2147483648) : ((500 : Int32) < nI n) = (500 < n) := nI_ltL (a := 500) (by decide) hn
theorem nle_500 {n : Nat} (hn : n < 2147483648) : (nI n ≤ 500) = (n ≤ 500) := nI_leL (b := 500) hn (by decide)
theorem nre_500 {n : Nat} (hn : n < 2147483648) : ((500 : Int32) ≤ nI n) = (500 ≤ n) := nI_leL (a := 500) (by decide) hn
theorem nq_500 {n : Nat} (hn : n < 2147483648) : (nI n = 500) = (n = 500) := nI_eqL (b := 500) hn (by decide)
theorem nl_720 {n : Nat} (hn : n < 2147483648) : (nI n < 720) = (n < 720) := nI_ltL (b := 720) hn (by decide)
theorem nr_720 {n : Nat} (hn : n < 2147483648) : ((720 : Int32) < nI n) = (720 < n) := nI_ltL (a := 720) (by decide) hn
theorem nle_720 {n : Nat} (hn : n < 2147483648) : (nI n ≤ 720) = (n ≤ 720) := nI_leL (b := 720) hn (by decide)
theorem nre_720 {n : Nat} (hn : n < 2147483648) : ((720 : Int32) ≤ nI n) = (720 ≤ n) := nI_leL (a := 720) (by decide) hn
theorem nq_720 {n : Nat} (hn : n < 2147483648) : (nI n = 720) = (n = 720) := nI_eqL (b := 720) hn (by decide)
theorem nl_861 {n : Nat} (hn : n < 2147483648) : (nI n < 861) = (n < 861) := nI_ltL (b := 861) hn (by decide)
theorem nr_861 {n : Nat} (hn : n < 2147483648) : ((861 : Int32) < nI n) = (861 < n) := nI_ltL (a := 861) (by decide) hn
theorem nle_861 {n : Nat} (hn : n < 2147483648) : (nI n ≤ 861) = (n ≤ 861) := nI_leL (b := 861) hn (by decide)
theorem nre_861 {n : Nat} (hn : n < 2147483648) : ((861 : Int32) ≤ nI n) = (861 ≤ n) := nI_leL (a := 861) (by decide) hn
theorem nq_861 {n : Nat} (hn : n < 2147483648) : (nI n = 861) = (n = 861) := nI_eqL (b := 861) hn (by decide)
theorem nl_1000000 {n : Nat} (hn : n < 2147483648) : (nI n < 1000000) = (n < 1000000) := nI_ltL (b := 1000000) hn (by decide)
theorem nr_1000000 {n : Nat} (hn : n < 2147483648) : ((1000000 : Int32) < nI n) = (1000000 < n) := nI_ltL (a := 1000000) (by decide) hn
theorem nle_1000000 {n : Nat} (hn : n < 2147483648) : (nI n ≤ 1000000) = (n ≤ 1000000) := nI_leL (b := 1000000) hn (by decide)
theorem nre_1000000 {n : Nat} (hn : n < 2147483648) : ((1000000 : Int32) ≤ nI n) = (1000000 ≤ n) := nI_leL (a := 1000000) (by decide) hn
theorem nq_1000000 {n : Nat} (hn : n < 2147483648) : (nI n = 1000000) = (n = 1000000) := nI_eqL (b := 1000000) hn (by decide)
theorem ml_1 (n : Nat) : (1 : Int32) * nI n = nI (1 * n) := pk_mul 1 n
theorem mr_1 (n : Nat) : nI n * (1 : Int32) = nI (n * 1) := pk_mul n 1
theorem al_1 (n : Nat) : nI n + (1 : Int32) = nI (n + 1) := nI_add n 1
theorem ar_1 (n : Nat) : (1 : Int32) + nI n = nI (1 + n) := nI_add 1 n
theorem ml_2 (n : Nat) : (2 : Int32) * nI n = nI (2 * n) := pk_mul 2 n
theorem mr_2 (n : Nat) : nI n * (2 : Int32) = nI (n * 2) := pk_mul n 2
theorem al_2 (n : Nat) : nI n + (2 : Int32) = nI (n + 2) := nI_add n 2
theorem ar_2 (n : Nat) : (2 : Int32) + nI n = nI (2 + n) := nI_add 2 n
theorem ml_3 (n : Nat) : (3 : Int32) * nI n = nI (3 * n) := pk_mul 3 n
theorem mr_3 (n : Nat) : nI n * (3 : Int32) = nI (n * 3) := pk_mul n 3
theorem al_3 (n : Nat) : nI n + (3 : Int32) = nI (n + 3) := nI_add n 3
theorem ar_3 (n : Nat) : (3 : Int32) + nI n = nI (3 + n) := nI_add 3 n
theorem ml_4 (n : Nat) : (4 : Int32) * nI n = nI (4 * n) := pk_mul 4 n
theorem mr_4 (n : Nat) : nI n * (4 : Int32) = nI (n * 4) := pk_mul n 4
theorem al_4 (n : Nat) : nI n + (4 : Int32) = nI (n + 4) := nI_add n 4
theorem ar_4 (n : Nat) : (4 : Int32) + nI n = nI (4 + n) := nI_add 4 n
theorem ml_5 (n : Nat) : (5 : Int32) * nI n = nI (5 * n) := pk_mul 5 n
theorem mr_5 (n : Nat) : nI n * (5 : Int32) = nI (n * 5) := pk_mul n 5
theorem al_5 (n : Nat) : nI n + (5 : Int32) = nI (n + 5) := nI_add n 5
theorem ar_5 (n : Nat) : (5 : Int32) + nI n = nI (5 + n) := nI_add 5 n
theorem ml_6 (n : Nat) : (6 : Int32) * nI n = nI (6 * n) := pk_mul 6 n
theorem mr_6 (n : Nat) : nI n * (6 : Int32) = nI (n * 6) := pk_mul n 6
theorem al_6 (n : Nat) : nI n + (6 : Int32) = nI (n + 6) := nI_add n 6
theorem ar_6 (n : Nat) : (6 : Int32) + nI n = nI (6 + n) := nI_add 6 n
theorem ml_7 (n : Nat) : (7 : Int32) * nI n = nI (7 * n) := pk_mul 7 n
theorem mr_7 (n : Nat) : nI n * (7 : Int32) = nI (n * 7) := pk_mul n 7
theorem al_7 (n : Nat) : nI n + (7 : Int32) = nI (n + 7) := nI_add n 7
theorem ar_7 (n : Nat) : (7 : Int32) + nI n = nI (7 + n) := nI_add 7 n
theorem ml_8 (n : Nat) : (8 : Int32) * nI n = nI (8 * n) := pk_mul 8 n
theorem mr_8 (n : Nat) : nI n * (8 : Int32) = nI (n * 8) := pk_mul n 8
theorem al_8 (n : Nat) : nI n + (8 : Int32) = nI (n + 8) := nI_add n 8
theorem ar_8 (n : Nat) : (8 : Int32) + nI n = nI (8 + n) := nI_add 8 n
theorem ml_9 (n : Nat) : (9 : Int32) * nI n = nI (9 * n) := pk_mul 9 n
theorem mr_9 (n : Nat) : nI n * (9 : Int32) = nI (n * 9) := pk_mul n 9
theorem al_9 (n : Nat) : nI n + (9 : Int32) = nI (n + 9) := nI_add n 9
theorem ar_9 (n : Nat) : (9 : Int32) + nI n = nI (9 + n) := nI_add 9 n
theorem ml_10 (n : Nat) : (10 : Int32) * nI n = nI (10 * n) := pk_mul 10 n
theorem mr_10 (n : Nat) : nI n * (10 : Int32) = nI (n * 10) := pk_mul n 10
theorem al_10 (n : Nat) : nI n + (10 : Int32) = nI (n + 10) := nI_add n 10
theorem ar_10 (n : Nat) : (10 : Int32) + nI n = nI (10 + n) := nI_add 10 n
theorem ml_11 (n : Nat) : (11 : Int32) * nI n = nI (11 * n) := pk_mul 11 n
theorem mr_11 (n : Nat) : nI n * (11 : Int32) = nI (n * 11) := pk_mul n 11
theorem al_11 (n : Nat) : nI n + (11 : Int32) = nI (n + 11) := nI_add n 11
theorem ar_11 (n : Nat) : (11 : Int32) + nI n = nI (11 + n) := nI_add 11 n
theorem ml_12 (n : Nat) : (12 : Int32) * nI n = nI (12 * n) := pk_mul 12 n
theorem mr_12 (n : Nat) : nI n * (12 : Int32) = nI (n * 12) := pk_mul n 12
theorem al_12 (n : Nat) : nI n + (12 : Int32) = nI (n + 12) := nI_add n 12
theorem ar_12 (n : Nat) : (12 : Int32) + nI n = nI (12 + n) := nI_add 12 n
theorem ml_14 (n : Nat) : (14 : Int32) * nI n = nI (14 * n) := pk_mul 14 n
theorem mr_14 (n : Nat) : nI n * (14 : Int32) = nI (n * 14) := pk_mul n 14
theorem al_14 (n : Nat) : nI n + (14 : Int32) = nI (n + 14) := nI_add n 14
theorem ar_14 (n : Nat) : (14 : Int32) + nI n = nI (14 + n) := nI_add 14 n
theorem ml_15 (n : Nat) : (15 : Int32) * nI n = nI (15 * n) := pk_mul 15 n
theorem mr_15 (n : Nat) : nI n * (15 : Int32) = nI (n * 15) := pk_mul n 15
theorem al_15 (n : Nat) : nI n + (15 : Int32) = nI (n + 15) := nI_add n 15
theorem ar_15 (n : Nat) : (15 : Int32) + nI n = nI (15 + n) := nI_add 15 n
theorem ml_16 (n : Nat) : (16 : Int32) * nI n = nI (16 * n) := pk_mul 16 n
theorem mr_16 (n : Nat) : nI n * (16 : Int32) = nI (n * 16) := pk_mul n 16
theorem al_16 (n : Nat) : nI n + (16 : Int32) = nI (n + 16) := nI_add n 16
theorem ar_16 (n : Nat) : (16 : Int32) + nI n = nI (16 + n) := nI_add 16 n
theorem ml_20 (n : Nat) : (20 : Int32) * nI n = nI (20 * n) := pk_mul 20 n
theorem mr_20 (n : Nat) : nI n * (20 : Int32) = nI (n * 20) := pk_mul n 20
theorem al_20 (n : Nat) : nI n + (20 : Int32) = nI (n + 20) := nI_add n 20
theorem ar_20 (n : Nat) : (20 : Int32) + nI n = nI (20 + n) := nI_add 20 n
theorem ml_24 (n : Nat) : (24 : Int32) * nI n = nI (24 * n) := pk_mul 24 n
theorem mr_24 (n : Nat) : nI n * (24 : Int32) = nI (n * 24) := pk_mul n 24
theorem al_24 (n : Nat) : nI n + (24 : Int32) = nI (n + 24) := nI_add n 24
theorem ar_24 (n : Nat) : (24 : Int32) + nI n = nI (24 + n) := nI_add 24 n
theorem ml_36 (n : Nat) : (36 : Int32) * nI n = nI (36 * n) := pk_mul 36 n
theorem mr_36 (n : Nat) : nI n * (36 : Int32) = nI (n * 36) := pk_mul n 36
theorem al_36 (n : Nat) : nI n + (36 : Int32) = nI (n + 36) := nI_add n 36
theorem ar_36 (n : Nat) : (36 : Int32) + nI n = nI (36 + n) := nI_add 36 n
theorem ml_42 (n : Nat) : (42 : Int32) * nI n = nI (42 * n) := pk_mul 42 n
theorem mr_42 (n : Nat) : nI n * (42 : Int32) = nI (n * 42) := pk_mul n 42
theorem al_42 (n : Nat) : nI n + (42 : Int32) = nI (n + 42) := nI_add n 42
theorem ar_42 (n : Nat) : (42 : Int32) + nI n = nI (42 + n) := nI_add 42 n
theorem ml_51 (n : Nat) : (51 : Int32) * nI n = nI (51 * n) := pk_mul 51 n
theorem mr_51 (n : Nat) : nI n * (51 : Int32) = nI (n * 51) := pk_mul n 51
theorem al_51 (n : Nat) : nI n + (51 : Int32) = nI (n + 51) := nI_add n 51
theorem ar_51 (n : Nat) : (51 : Int32) + nI n = nI (51 + n) := nI_add 51 n
theorem ml_59 (n : Nat) : (59 : Int32) * nI n = nI (59 * n) := pk_mul 59 n
theorem mr_59 (n : Nat) : nI n * (59 : Int32) = nI (n * 59) := pk_mul n 59
theorem al_59 (n : Nat) : nI n + (59 : Int32) = nI (n + 59) := nI_add n 59
theorem ar_59 (n : Nat) : (59 : Int32) + nI n = nI (59 + n) := nI_add 59 n
theorem ml_100 (n : Nat) : (100 : Int32) * nI n = nI (100 * n) := pk_mul 100 n
theorem mr_100 (n : Nat) : nI n * (100 : Int32) = nI (n * 100) := pk_mul n 100
theorem al_100 (n : Nat) : nI n + (100 : Int32) = nI (n + 100) := nI_add n 100
theorem ar_100 (n : Nat) : (100 : Int32) + nI n = nI (100 + n) := nI_add 100 n
theorem ml_200 (n : Nat) : (200 : Int32) * nI n = nI (200 * n) := pk_mul 200 n
theorem mr_200 (n : Nat) : nI n * (200 : Int32) = nI (n * 200) := pk_mul n 200
theorem al_200 (n : Nat) : nI n + (200 : Int32) = nI (n + 200) := nI_add n 200
theorem ar_200 (n : Nat) : (200 : Int32) + nI n = nI (200 + n) := nI_add 200 n
theorem ml_500 (n : Nat) : (500 : Int32) * nI n = nI (500 * n) := pk_mul 500 n
theorem mr_500 (n : Nat) : nI n * (500 : Int32) = nI (n * 500) := pk_mul n 500
theorem al_500 (n : Nat) : nI n + (500 : Int32) = nI (n + 500) := nI_add n 500
theorem ar_500 (n : Nat) : (500 : Int32) + nI n = nI (500 + n) := nI_add 500 n
theorem ml_1000 (n : Nat) : (1000 : Int32) * nI n = nI (1000 * n) := pk_mul 1000 n
theorem mr_1000 (n : Nat) : nI n * (1000 : Int32) = nI (n * 1000) := pk_mul n 1000
theorem al_1000 (n : Nat) : nI n + (1000 : Int32) = nI (n + 1000) := nI_add n 1000
theorem ar_1000 (n : Nat) : (1000 : Int32) + nI n = nI (1000 + n) := nI_add 1000 n
theorem cl_s {m : Nat} (h : m < 100000) : (nI m).toNatClampNeg = m := nI_cl m (by omega)
theorem pos_s {m : Nat} (h : m < 100000) : (0 ≤ nI m) = True := eq_true (nI_pos' (by omega))
theorem nz_0 {n : Nat} (hn : n < 2147483648) : (nI n = 0) = ¬ 0 < n := by rw [nq_0 hn]; exact propext ⟨fun h => by omega, fun h => by omega⟩
theorem bd_of {x a b : Int32} (h : a ≤ x ∧ x ≤ b) : bd x a.toInt b.toInt := ⟨Int32.le_iff_toInt_le.mp h.1, Int32.le_iff_toInt_le.mp h.2⟩
theorem guard1 {α : Type} {p q : Prop} [Decidable p] [Decidable q] {X A : α} : (if p then (if q then X else A) else A) = if p ∧ q then X else A := by
  by_cases h1 : p <;> by_cases h2 : q <;> simp [h1, h2]
theorem xb_n {p : Prop} [Decidable p] : (¬ xb p = 0) = p := by unfold xb; split <;> simp_all
theorem qif {c : Prop} [Decidable c] {Q : Int32 → xM → Prop} {a b : Int32} {σ : xM} : (if c then Q a σ else Q b σ) = Q (if c then a else b) σ := by split <;> rfl
theorem rd1 {σ : xM} {k j : Nat} {v : Int32} : (xe_si σ k j v).1 k j = v := if_pos ⟨rfl, rfl⟩
def sameP (σ σ' : xM) : Prop := σ'.2.2 = σ.2.2 ∧ σ'.1 5 = σ.1 5 ∧ σ'.1 6 = σ.1 6 ∧ σ'.1 8 = σ.1 8 ∧ σ'.1 9 = σ.1 9 ∧ σ'.1 92 = σ.1 92 ∧ σ'.1 93 = σ.1 93 ∧ σ'.1 94 = σ.1 94 ∧ σ'.1 95 = σ.1 95 ∧ σ'.1 96 = σ.1 96 ∧ σ'.1 97 = σ.1 97 ∧ σ'.1 84 17 = σ.1 84 17 ∧ σ'.1 84 19 = σ.1 84 19 ∧ σ'.1 84 21 = σ.1 84 21 ∧ σ'.1 84 23 = σ.1 84 23 ∧ σ'.1 84 25 = σ.1 84 25
theorem sameP.row {σ σ' : xM} (h : sameP σ σ') (hp : gP σ) : σ'.1 (σ'.2.2 1 + 1) = σ.1 (σ.2.2 1 + 1) ∧ σ'.1 (σ'.2.2 1 + 2) = σ.1 (σ.2.2 1 + 2) := by
  obtain ⟨h1, h2, h3, h4, h5, -⟩ := h
  rw [h1]
  rcases hp.1 with ⟨q, -⟩ | ⟨q, -⟩ <;> rw [q]
  · exact ⟨h2, h3⟩
  · exact ⟨h4, h5⟩
theorem gP.fr {σ σ' : xM} (hp : gP σ) (h : sameP σ σ') : gP σ' := by
  obtain ⟨e1, e2⟩ := h.row hp
  obtain ⟨h1, h2, h3, h4, h5, r1, r2, r3, r4, r5, r6, m1, m2, m3, m4, m5⟩ := h
  refine ⟨by rw [h1]; exact hp.1, ?_⟩
  rw [e1, e2, r1, r2, r3, r4, r5, r6]
  have h := hp.2
  unfold gPV at h ⊢
  rw [m1, m2, m3, m4, m5]
  exact h
theorem gB.fr {σ σ' : xM} (hb : gB σ) (hp : gP σ) (h : sameP σ σ') (b : σ'.1 63 0 = σ.1 63 0 ∧ σ'.1 84 43 = σ.1 84 43 ∧ σ'.1 107 = σ.1 107 ∧ σ'.1 108 = σ.1 108 ∧ σ'.1 109 = σ.1 109 ∧ σ'.1 64 = σ.1 64 ∧ σ'.1 65 = σ.1 65 ∧ σ'.1 66 = σ.1 66 ∧ σ'.1 67 = σ.1 67 ∧ σ'.1 68 = σ.1 68 ∧ σ'.1 69 = σ.1 69 ∧ σ'.1 72 = σ.1 72) : gB σ' := by
  obtain ⟨e1, e2⟩ := h.row hp
  obtain ⟨b1, b2, b3, b4, b5, b6, b7, b8, b9, b10, b11, b12⟩ := b
  have m3 := h.2.2.2.2.2.2.2.2.2.2.2.2.2.1
  unfold gB at hb ⊢
  rw [b1, b2, b3, b4, b5, b6, b7, b8, b9, b10, b11, b12, m3, e1]
  exact hb
theorem nl_30 {n : Nat} (hn : n < 2147483648) : (nI n < 30) = (n < 30) := nI_ltL (b := 30) hn (by decide)
theorem nr_30 {n : Nat} (hn : n < 2147483648) : ((30 : Int32) < nI n) = (30 < n) := nI_ltL (a := 30) (by decide) hn
theorem nle_30 {n : Nat} (hn : n < 2147483648) : (nI n ≤ 30) = (n ≤ 30) := nI_leL (b := 30) hn (by decide)
theorem nl_80 {n : Nat} (hn : n < 2147483648) : (nI n < 80) = (n < 80) := nI_ltL (b := 80) hn (by decide)
theorem nr_80 {n : Nat} (hn : n < 2147483648) : ((80 : Int32) < nI n) = (80 < n) := nI_ltL (a := 80) (by decide) hn
theorem nle_80 {n : Nat} (hn : n < 2147483648) : (nI n ≤ 80) = (n ≤ 80) := nI_leL (b := 80) hn (by decide)
theorem nl_99 {n : Nat} (hn : n < 2147483648) : (nI n < 99) = (n < 99) := nI_ltL (b := 99) hn (by decide)
theorem nr_99 {n : Nat} (hn : n < 2147483648) : ((99 : Int32) < nI n) = (99 < n) := nI_ltL (a := 99) (by decide) hn
theorem nle_99 {n : Nat} (hn : n < 2147483648) : (nI n ≤ 99) = (n ≤ 99) := nI_leL (b := 99) hn (by decide)
theorem nl_199 {n : Nat} (hn : n < 2147483648) : (nI n < 199) = (n < 199) := nI_ltL (b := 199) hn (by decide)
theorem nr_199 {n : Nat} (hn : n < 2147483648) : ((199 : Int32) < nI n) = (199 < n) := nI_ltL (a := 199) (by decide) hn
theorem nle_199 {n : Nat} (hn : n < 2147483648) : (nI n ≤ 199) = (n ≤ 199) := nI_leL (b := 199) hn (by decide)
theorem nl_999 {n : Nat} (hn : n < 2147483648) : (nI n < 999) = (n < 999) := nI_ltL (b := 999) hn (by decide)
theorem nr_999 {n : Nat} (hn : n < 2147483648) : ((999 : Int32) < nI n) = (999 < n) := nI_ltL (a := 999) (by decide) hn
theorem nle_999 {n : Nat} (hn : n < 2147483648) : (nI n ≤ 999) = (n ≤ 999) := nI_leL (b := 999) hn (by decide)
theorem nl_2009 {n : Nat} (hn : n < 2147483648) : (nI n < 2009) = (n < 2009) := nI_ltL (b := 2009) hn (by decide)
theorem nr_2009 {n : Nat} (hn : n < 2147483648) : ((2009 : Int32) < nI n) = (2009 < n) := nI_ltL (a := 2009) (by decide) hn
theorem nle_2009 {n : Nat} (hn : n < 2147483648) : (nI n ≤ 2009) = (n ≤ 2009) := nI_leL (b := 2009) hn (by decide)
theorem shl1 {n : Nat} (h : n ≤ 12) : (1 : Int32) <<< (nI n &&& 31) = nI (2 ^ n) := by
  have hall : ∀ n : Nat, n < 13 → (1 : Int32) <<< (nI n &&& 31) = nI (2 ^ n) := by decide +kernel
  exact hall n (by omega)
theorem bit16 {h g : Nat} (hh : h < 16) (hg : g < 4) : (nI h >>> (nI g &&& 31) &&& 1 = 1) = (h.testBit g = true) := by
  have hall : ∀ h : Nat, h < 16 → ∀ g : Nat, g < 4 → (decide (nI h >>> (nI g &&& 31) &&& 1 = 1) = h.testBit g) := by decide +kernel
  have := hall h hh g hg
  rw [← this, decide_eq_true_eq]
theorem and01 (x : Int32) : (x &&& 1 = 0) = ¬ (x &&& 1 = 1) := by
  obtain ⟨j, hj, e⟩ := pk_andE x (m := 1) 1 (by decide)
  rw [e]
  have : j = 0 ∨ j = 1 := by omega
  rcases this with rfl | rfl <;> decide
theorem pw4 {n : Nat} (h : n ≤ 4) : 2 ^ n ≤ 16 := by
  have : 2 ^ n ≤ 2 ^ 4 := Nat.pow_le_pow_right (by decide) h
  omega
theorem guardN {α : Type} {p q : Prop} [Decidable p] [Decidable q] {X A : α} : (if p then (if q then A else X) else A) = if p ∧ ¬ q then X else A := by
  by_cases h1 : p <;> by_cases h2 : q <;> simp [h1, h2]
theorem guardO {α : Type} {p q : Prop} [Decidable p] [Decidable q] {X A : α} : (if q then A else (if p then X else A)) = if ¬ q ∧ p then X else A := by
  by_cases h1 : p <;> by_cases h2 : q <;> simp [h1, h2]
theorem guardQ {α : Type} {p q : Prop} [Decidable p] [Decidable q] {X A : α} : (if q then A else (if p then A else X)) = if ¬ q ∧ ¬ p then X else A := by
  by_cases h1 : p <;> by_cases h2 : q <;> simp [h1, h2]
theorem guardF {α : Type} (q : Prop) [Decidable q] {X A : α} : (if q then A else X) = if ¬ q then X else A := by
  by_cases h2 : q <;> simp [h2]
theorem lt_of_ne6 {n k : Nat} (h : n ≤ k) : (¬ n = k) = (n < k) := propext ⟨fun q => by omega, fun q => by omega⟩
