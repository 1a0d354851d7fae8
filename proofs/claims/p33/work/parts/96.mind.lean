/-! what is told: the law, the class and the mind alike -/
theorem rm9 {n : Nat} (h : n < 2 ^ 31) : nI n - nI n / 9 * 9 = nI (n % 9) := rd1 (b := 9) (by omega) h
theorem rm4 {n : Nat} (h : n < 2 ^ 31) : nI n - nI n / 4 * 4 = nI (n % 4) := rd1 (b := 4) (by omega) h
theorem rm100002 {n : Nat} (h : n < 2 ^ 31) : nI n - nI n / 100002 * 100002 = nI (n % 100002) := rd1 (b := 100002) (by omega) h
theorem rm2 {n : Nat} (h : n < 2 ^ 31) : nI n - nI n / 2 * 2 = nI (n % 2) := rd1 (b := 2) (by omega) h
theorem rm5 {n : Nat} (h : n < 2 ^ 31) : nI n - nI n / 5 * 5 = nI (n % 5) := rd1 (b := 5) (by omega) h
theorem rm10002 {n : Nat} (h : n < 2 ^ 31) : nI n - nI n / 10002 * 10002 = nI (n % 10002) := rd1 (b := 10002) (by omega) h
theorem rm200 {n : Nat} (h : n < 2 ^ 31) : nI n - nI n / 200 * 200 = nI (n % 200) := rd1 (b := 200) (by omega) h
theorem rm502 {n : Nat} (h : n < 2 ^ 31) : nI n - nI n / 502 * 502 = nI (n % 502) := rd1 (b := 502) (by omega) h
theorem rm20 {n : Nat} (h : n < 2 ^ 31) : nI n - nI n / 20 * 20 = nI (n % 20) := rd1 (b := 20) (by omega) h
theorem rm30000 {n : Nat} (h : n < 2 ^ 31) : nI n - nI n / 30000 * 30000 = nI (n % 30000) := rd1 (b := 30000) (by omega) h
theorem rm3 {n : Nat} (h : n < 2 ^ 31) : nI n - nI n / 3 * 3 = nI (n % 3) := rd1 (b := 3) (by omega) h
theorem rm4000 {n : Nat} (h : n < 2 ^ 31) : nI n - nI n / 4000 * 4000 = nI (n % 4000) := rd1 (b := 4000) (by omega) h
theorem rm3000 {n : Nat} (h : n < 2 ^ 31) : nI n - nI n / 3000 * 3000 = nI (n % 3000) := rd1 (b := 3000) (by omega) h
theorem rm11 {n : Nat} (h : n < 2 ^ 31) : nI n - nI n / 11 * 11 = nI (n % 11) := rd1 (b := 11) (by omega) h
theorem rm13 {n : Nat} (h : n < 2 ^ 31) : nI n - nI n / 13 * 13 = nI (n % 13) := rd1 (b := 13) (by omega) h
theorem rm40 {n : Nat} (h : n < 2 ^ 31) : nI n - nI n / 40 * 40 = nI (n % 40) := rd1 (b := 40) (by omega) h
theorem rm6 {n : Nat} (h : n < 2 ^ 31) : nI n - nI n / 6 * 6 = nI (n % 6) := rd1 (b := 6) (by omega) h
theorem rq4_3 {n : Nat} (h : n < 2 ^ 31) : nI n / 4 - nI n / 4 / 3 * 3 = nI (n / 4 % 3) := rd (a := 4) (b := 3) (by omega) (by omega) h
theorem rq4_120 {n : Nat} (h : n < 2 ^ 31) : nI n / 4 - nI n / 4 / 120 * 120 = nI (n / 4 % 120) := rd (a := 4) (b := 120) (by omega) (by omega) h
theorem rq2_3 {n : Nat} (h : n < 2 ^ 31) : nI n / 2 - nI n / 2 / 3 * 3 = nI (n / 2 % 3) := rd (a := 2) (b := 3) (by omega) (by omega) h
theorem rq2_90 {n : Nat} (h : n < 2 ^ 31) : nI n / 2 - nI n / 2 / 90 * 90 = nI (n / 2 % 90) := rd (a := 2) (b := 90) (by omega) (by omega) h
theorem rq7_5 {n : Nat} (h : n < 2 ^ 31) : nI n / 7 - nI n / 7 / 5 * 5 = nI (n / 7 % 5) := rd (a := 7) (b := 5) (by omega) (by omega) h
theorem rq7_10002 {n : Nat} (h : n < 2 ^ 31) : nI n / 7 - nI n / 7 / 10002 * 10002 = nI (n / 7 % 10002) := rd (a := 7) (b := 10002) (by omega) (by omega) h
theorem rq7_60 {n : Nat} (h : n < 2 ^ 31) : nI n / 7 - nI n / 7 / 60 * 60 = nI (n / 7 % 60) := rd (a := 7) (b := 60) (by omega) (by omega) h
theorem rq5_4 {n : Nat} (h : n < 2 ^ 31) : nI n / 5 - nI n / 5 / 4 * 4 = nI (n / 5 % 4) := rd (a := 5) (b := 4) (by omega) (by omega) h
theorem rq9_5 {n : Nat} (h : n < 2 ^ 31) : nI n / 9 - nI n / 9 / 5 * 5 = nI (n / 9 % 5) := rd (a := 9) (b := 5) (by omega) (by omega) h
theorem rq45_11 {n : Nat} (h : n < 2 ^ 31) : nI n / 45 - nI n / 45 / 11 * 11 = nI (n / 45 % 11) := rd (a := 45) (b := 11) (by omega) (by omega) h
theorem rq45_3 {n : Nat} (h : n < 2 ^ 31) : nI n / 45 - nI n / 45 / 3 * 3 = nI (n / 45 % 3) := rd (a := 45) (b := 3) (by omega) (by omega) h
theorem rq9_102 {n : Nat} (h : n < 2 ^ 31) : nI n / 9 - nI n / 9 / 102 * 102 = nI (n / 9 % 102) := rd (a := 9) (b := 102) (by omega) (by omega) h
theorem rq4_9 {n : Nat} (h : n < 2 ^ 31) : nI n / 4 - nI n / 4 / 9 * 9 = nI (n / 4 % 9) := rd (a := 4) (b := 9) (by omega) (by omega) h
theorem rq36_10 {n : Nat} (h : n < 2 ^ 31) : nI n / 36 - nI n / 36 / 10 * 10 = nI (n / 36 % 10) := rd (a := 36) (b := 10) (by omega) (by omega) h
theorem rq36_3 {n : Nat} (h : n < 2 ^ 31) : nI n / 36 - nI n / 36 / 3 * 3 = nI (n / 36 % 3) := rd (a := 36) (b := 3) (by omega) (by omega) h
theorem rq11_12 {n : Nat} (h : n < 2 ^ 31) : nI n / 11 - nI n / 11 / 12 * 12 = nI (n / 11 % 12) := rd (a := 11) (b := 12) (by omega) (by omega) h
theorem rq132_102 {n : Nat} (h : n < 2 ^ 31) : nI n / 132 - nI n / 132 / 102 * 102 = nI (n / 132 % 102) := rd (a := 132) (b := 102) (by omega) (by omega) h
theorem rq11_30 {n : Nat} (h : n < 2 ^ 31) : nI n / 11 - nI n / 11 / 30 * 30 = nI (n / 11 % 30) := rd (a := 11) (b := 30) (by omega) (by omega) h
theorem rq396_3 {n : Nat} (h : n < 2 ^ 31) : nI n / 396 - nI n / 396 / 3 * 3 = nI (n / 396 % 3) := rd (a := 396) (b := 3) (by omega) (by omega) h
theorem rq40_9 {n : Nat} (h : n < 2 ^ 31) : nI n / 40 - nI n / 40 / 9 * 9 = nI (n / 40 % 9) := rd (a := 40) (b := 9) (by omega) (by omega) h
theorem rq40_6 {n : Nat} (h : n < 2 ^ 31) : nI n / 40 - nI n / 40 / 6 * 6 = nI (n / 40 % 6) := rd (a := 40) (b := 6) (by omega) (by omega) h
theorem mu2 {n : Nat} : nI n * 2 = nI (n * 2) := nI_mul n 2
theorem mu1700 {n : Nat} : nI n * 1700 = nI (n * 1700) := nI_mul n 1700
theorem mu1701 {n : Nat} : nI n * 1701 = nI (n * 1701) := nI_mul n 1701
theorem mu167 {n : Nat} : nI n * 167 = nI (n * 167) := nI_mul n 167
theorem mv10 {n : Nat} : (10 : Int32) * nI n = nI (10 * n) := nI_mul 10 n
theorem mv51 {n : Nat} : (51 : Int32) * nI n = nI (51 * n) := nI_mul 51 n
theorem mv4 {n : Nat} : (4 : Int32) * nI n = nI (4 * n) := nI_mul 4 n
theorem mv8 {n : Nat} : (8 : Int32) * nI n = nI (8 * n) := nI_mul 8 n
theorem mv32 {n : Nat} : (32 : Int32) * nI n = nI (32 * n) := nI_mul 32 n
theorem mv128 {n : Nat} : (128 : Int32) * nI n = nI (128 * n) := nI_mul 128 n
theorem ad1 {n : Nat} : (1 : Int32) + nI n = nI (1 + n) := nI_add 1 n
theorem ad100 {n : Nat} : (100 : Int32) + nI n = nI (100 + n) := nI_add 100 n
theorem ad60 {n : Nat} : (60 : Int32) + nI n = nI (60 + n) := nI_add 60 n
theorem ad5 {n : Nat} : (5 : Int32) + nI n = nI (5 + n) := nI_add 5 n
theorem ad8 {n : Nat} : (8 : Int32) + nI n = nI (8 + n) := nI_add 8 n
theorem ad12 {n : Nat} : (12 : Int32) + nI n = nI (12 + n) := nI_add 12 n
theorem ad16 {n : Nat} : (16 : Int32) + nI n = nI (16 + n) := nI_add 16 n
theorem ad24 {n : Nat} : (24 : Int32) + nI n = nI (24 + n) := nI_add 24 n
theorem ad32 {n : Nat} : (32 : Int32) + nI n = nI (32 + n) := nI_add 32 n
theorem ad40 {n : Nat} : (40 : Int32) + nI n = nI (40 + n) := nI_add 40 n
theorem ad48 {n : Nat} : (48 : Int32) + nI n = nI (48 + n) := nI_add 48 n
theorem ap2 {n : Nat} : nI n + 2 = nI (n + 2) := nI_add n 2
theorem ap3 {n : Nat} : nI n + 3 = nI (n + 3) := nI_add n 3
theorem ap4 {n : Nat} : nI n + 4 = nI (n + 4) := nI_add n 4
theorem ap5 {n : Nat} : nI n + 5 = nI (n + 5) := nI_add n 5
theorem ap6 {n : Nat} : nI n + 6 = nI (n + 6) := nI_add n 6
theorem iL8t {β : Type} {n : Nat} {x y : β} {_ : Decidable ((8 : Int32) ≤ nI n)} (h : 8 ≤ n) (hn : n < 2 ^ 31) : (if (8 : Int32) ≤ nI n then x else y) = x := if_pos ((nI_leI (a := 8) (by omega) hn).mpr h)
theorem iL8f {β : Type} {n : Nat} {x y : β} {_ : Decidable ((8 : Int32) ≤ nI n)} (h : n < 8) : (if (8 : Int32) ≤ nI n then x else y) = y := if_neg (fun z => by have := (nI_leI (a := 8) (by omega) (by omega)).mp z; omega)
theorem iL4t {β : Type} {n : Nat} {x y : β} {_ : Decidable ((4 : Int32) ≤ nI n)} (h : 4 ≤ n) (hn : n < 2 ^ 31) : (if (4 : Int32) ≤ nI n then x else y) = x := if_pos ((nI_leI (a := 4) (by omega) hn).mpr h)
theorem iL4f {β : Type} {n : Nat} {x y : β} {_ : Decidable ((4 : Int32) ≤ nI n)} (h : n < 4) : (if (4 : Int32) ≤ nI n then x else y) = y := if_neg (fun z => by have := (nI_leI (a := 4) (by omega) (by omega)).mp z; omega)
theorem iL3t {β : Type} {n : Nat} {x y : β} {_ : Decidable ((3 : Int32) ≤ nI n)} (h : 3 ≤ n) (hn : n < 2 ^ 31) : (if (3 : Int32) ≤ nI n then x else y) = x := if_pos ((nI_leI (a := 3) (by omega) hn).mpr h)
theorem iL3f {β : Type} {n : Nat} {x y : β} {_ : Decidable ((3 : Int32) ≤ nI n)} (h : n < 3) : (if (3 : Int32) ≤ nI n then x else y) = y := if_neg (fun z => by have := (nI_leI (a := 3) (by omega) (by omega)).mp z; omega)
theorem iL100001t {β : Type} {n : Nat} {x y : β} {_ : Decidable ((100001 : Int32) ≤ nI n)} (h : 100001 ≤ n) (hn : n < 2 ^ 31) : (if (100001 : Int32) ≤ nI n then x else y) = x := if_pos ((nI_leI (a := 100001) (by omega) hn).mpr h)
theorem iL100001f {β : Type} {n : Nat} {x y : β} {_ : Decidable ((100001 : Int32) ≤ nI n)} (h : n < 100001) : (if (100001 : Int32) ≤ nI n then x else y) = y := if_neg (fun z => by have := (nI_leI (a := 100001) (by omega) (by omega)).mp z; omega)
theorem iL10001t {β : Type} {n : Nat} {x y : β} {_ : Decidable ((10001 : Int32) ≤ nI n)} (h : 10001 ≤ n) (hn : n < 2 ^ 31) : (if (10001 : Int32) ≤ nI n then x else y) = x := if_pos ((nI_leI (a := 10001) (by omega) hn).mpr h)
theorem iL10001f {β : Type} {n : Nat} {x y : β} {_ : Decidable ((10001 : Int32) ≤ nI n)} (h : n < 10001) : (if (10001 : Int32) ≤ nI n then x else y) = y := if_neg (fun z => by have := (nI_leI (a := 10001) (by omega) (by omega)).mp z; omega)
theorem iL501t {β : Type} {n : Nat} {x y : β} {_ : Decidable ((501 : Int32) ≤ nI n)} (h : 501 ≤ n) (hn : n < 2 ^ 31) : (if (501 : Int32) ≤ nI n then x else y) = x := if_pos ((nI_leI (a := 501) (by omega) hn).mpr h)
theorem iL501f {β : Type} {n : Nat} {x y : β} {_ : Decidable ((501 : Int32) ≤ nI n)} (h : n < 501) : (if (501 : Int32) ≤ nI n then x else y) = y := if_neg (fun z => by have := (nI_leI (a := 501) (by omega) (by omega)).mp z; omega)
theorem iL100000001t {β : Type} {n : Nat} {x y : β} {_ : Decidable ((100000001 : Int32) ≤ nI n)} (h : 100000001 ≤ n) (hn : n < 2 ^ 31) : (if (100000001 : Int32) ≤ nI n then x else y) = x := if_pos ((nI_leI (a := 100000001) (by omega) hn).mpr h)
theorem iL100000001f {β : Type} {n : Nat} {x y : β} {_ : Decidable ((100000001 : Int32) ≤ nI n)} (h : n < 100000001) : (if (100000001 : Int32) ≤ nI n then x else y) = y := if_neg (fun z => by have := (nI_leI (a := 100000001) (by omega) (by omega)).mp z; omega)
theorem iL10t {β : Type} {n : Nat} {x y : β} {_ : Decidable ((10 : Int32) ≤ nI n)} (h : 10 ≤ n) (hn : n < 2 ^ 31) : (if (10 : Int32) ≤ nI n then x else y) = x := if_pos ((nI_leI (a := 10) (by omega) hn).mpr h)
theorem iL10f {β : Type} {n : Nat} {x y : β} {_ : Decidable ((10 : Int32) ≤ nI n)} (h : n < 10) : (if (10 : Int32) ≤ nI n then x else y) = y := if_neg (fun z => by have := (nI_leI (a := 10) (by omega) (by omega)).mp z; omega)
theorem iL10000001t {β : Type} {n : Nat} {x y : β} {_ : Decidable ((10000001 : Int32) ≤ nI n)} (h : 10000001 ≤ n) (hn : n < 2 ^ 31) : (if (10000001 : Int32) ≤ nI n then x else y) = x := if_pos ((nI_leI (a := 10000001) (by omega) hn).mpr h)
theorem iL10000001f {β : Type} {n : Nat} {x y : β} {_ : Decidable ((10000001 : Int32) ≤ nI n)} (h : n < 10000001) : (if (10000001 : Int32) ≤ nI n then x else y) = y := if_neg (fun z => by have := (nI_leI (a := 10000001) (by omega) (by omega)).mp z; omega)
theorem iL101t {β : Type} {n : Nat} {x y : β} {_ : Decidable ((101 : Int32) ≤ nI n)} (h : 101 ≤ n) (hn : n < 2 ^ 31) : (if (101 : Int32) ≤ nI n then x else y) = x := if_pos ((nI_leI (a := 101) (by omega) hn).mpr h)
theorem iL101f {β : Type} {n : Nat} {x y : β} {_ : Decidable ((101 : Int32) ≤ nI n)} (h : n < 101) : (if (101 : Int32) ≤ nI n then x else y) = y := if_neg (fun z => by have := (nI_leI (a := 101) (by omega) (by omega)).mp z; omega)
theorem iL100t {β : Type} {n : Nat} {x y : β} {_ : Decidable ((100 : Int32) ≤ nI n)} (h : 100 ≤ n) (hn : n < 2 ^ 31) : (if (100 : Int32) ≤ nI n then x else y) = x := if_pos ((nI_leI (a := 100) (by omega) hn).mpr h)
theorem iL100f {β : Type} {n : Nat} {x y : β} {_ : Decidable ((100 : Int32) ≤ nI n)} (h : n < 100) : (if (100 : Int32) ≤ nI n then x else y) = y := if_neg (fun z => by have := (nI_leI (a := 100) (by omega) (by omega)).mp z; omega)
theorem iL51t {β : Type} {n : Nat} {x y : β} {_ : Decidable ((51 : Int32) ≤ nI n)} (h : 51 ≤ n) (hn : n < 2 ^ 31) : (if (51 : Int32) ≤ nI n then x else y) = x := if_pos ((nI_leI (a := 51) (by omega) hn).mpr h)
theorem iL51f {β : Type} {n : Nat} {x y : β} {_ : Decidable ((51 : Int32) ≤ nI n)} (h : n < 51) : (if (51 : Int32) ≤ nI n then x else y) = y := if_neg (fun z => by have := (nI_leI (a := 51) (by omega) (by omega)).mp z; omega)
theorem iL9t {β : Type} {n : Nat} {x y : β} {_ : Decidable ((9 : Int32) ≤ nI n)} (h : 9 ≤ n) (hn : n < 2 ^ 31) : (if (9 : Int32) ≤ nI n then x else y) = x := if_pos ((nI_leI (a := 9) (by omega) hn).mpr h)
theorem iL9f {β : Type} {n : Nat} {x y : β} {_ : Decidable ((9 : Int32) ≤ nI n)} (h : n < 9) : (if (9 : Int32) ≤ nI n then x else y) = y := if_neg (fun z => by have := (nI_leI (a := 9) (by omega) (by omega)).mp z; omega)
theorem iL1t {β : Type} {n : Nat} {x y : β} {_ : Decidable ((1 : Int32) ≤ nI n)} (h : 1 ≤ n) (hn : n < 2 ^ 31) : (if (1 : Int32) ≤ nI n then x else y) = x := if_pos ((nI_leI (a := 1) (by omega) hn).mpr h)
theorem iL1f {β : Type} {n : Nat} {x y : β} {_ : Decidable ((1 : Int32) ≤ nI n)} (h : n < 1) : (if (1 : Int32) ≤ nI n then x else y) = y := if_neg (fun z => by have := (nI_leI (a := 1) (by omega) (by omega)).mp z; omega)
theorem iL2t {β : Type} {n : Nat} {x y : β} {_ : Decidable ((2 : Int32) ≤ nI n)} (h : 2 ≤ n) (hn : n < 2 ^ 31) : (if (2 : Int32) ≤ nI n then x else y) = x := if_pos ((nI_leI (a := 2) (by omega) hn).mpr h)
theorem iL2f {β : Type} {n : Nat} {x y : β} {_ : Decidable ((2 : Int32) ≤ nI n)} (h : n < 2) : (if (2 : Int32) ≤ nI n then x else y) = y := if_neg (fun z => by have := (nI_leI (a := 2) (by omega) (by omega)).mp z; omega)
theorem iL7t {β : Type} {n : Nat} {x y : β} {_ : Decidable ((7 : Int32) ≤ nI n)} (h : 7 ≤ n) (hn : n < 2 ^ 31) : (if (7 : Int32) ≤ nI n then x else y) = x := if_pos ((nI_leI (a := 7) (by omega) hn).mpr h)
theorem iL7f {β : Type} {n : Nat} {x y : β} {_ : Decidable ((7 : Int32) ≤ nI n)} (h : n < 7) : (if (7 : Int32) ≤ nI n then x else y) = y := if_neg (fun z => by have := (nI_leI (a := 7) (by omega) (by omega)).mp z; omega)
theorem iL29t {β : Type} {n : Nat} {x y : β} {_ : Decidable ((29 : Int32) ≤ nI n)} (h : 29 ≤ n) (hn : n < 2 ^ 31) : (if (29 : Int32) ≤ nI n then x else y) = x := if_pos ((nI_leI (a := 29) (by omega) hn).mpr h)
theorem iL29f {β : Type} {n : Nat} {x y : β} {_ : Decidable ((29 : Int32) ≤ nI n)} (h : n < 29) : (if (29 : Int32) ≤ nI n then x else y) = y := if_neg (fun z => by have := (nI_leI (a := 29) (by omega) (by omega)).mp z; omega)
theorem iR0t {β : Type} {n : Nat} {x y : β} {_ : Decidable (nI n ≤ (0 : Int32))} (h : n ≤ 0) : (if nI n ≤ (0 : Int32) then x else y) = x := if_pos ((nI_leI (b := 0) (by omega) (by omega)).mpr h)
theorem iR0f {β : Type} {n : Nat} {x y : β} {_ : Decidable (nI n ≤ (0 : Int32))} (h : 0 < n) (hn : n < 2 ^ 31) : (if nI n ≤ (0 : Int32) then x else y) = y := if_neg (fun z => by have := (nI_leI (b := 0) (by omega) (by omega)).mp z; omega)
theorem iR100t {β : Type} {n : Nat} {x y : β} {_ : Decidable (nI n ≤ (100 : Int32))} (h : n ≤ 100) : (if nI n ≤ (100 : Int32) then x else y) = x := if_pos ((nI_leI (b := 100) (by omega) (by omega)).mpr h)
theorem iR100f {β : Type} {n : Nat} {x y : β} {_ : Decidable (nI n ≤ (100 : Int32))} (h : 100 < n) (hn : n < 2 ^ 31) : (if nI n ≤ (100 : Int32) then x else y) = y := if_neg (fun z => by have := (nI_leI (b := 100) (by omega) (by omega)).mp z; omega)
theorem iR10t {β : Type} {n : Nat} {x y : β} {_ : Decidable (nI n ≤ (10 : Int32))} (h : n ≤ 10) : (if nI n ≤ (10 : Int32) then x else y) = x := if_pos ((nI_leI (b := 10) (by omega) (by omega)).mpr h)
theorem iR10f {β : Type} {n : Nat} {x y : β} {_ : Decidable (nI n ≤ (10 : Int32))} (h : 10 < n) (hn : n < 2 ^ 31) : (if nI n ≤ (10 : Int32) then x else y) = y := if_neg (fun z => by have := (nI_leI (b := 10) (by omega) (by omega)).mp z; omega)
theorem iE0t {β : Type} {n : Nat} {x y : β} {_ : Decidable (nI n = (0 : Int32))} (h : n = 0) : (if nI n = (0 : Int32) then x else y) = x := if_pos (by rw [h]; rfl)
theorem iE0f {β : Type} {n : Nat} {x y : β} {_ : Decidable (nI n = (0 : Int32))} (h : ¬ n = 0) (hn : n < 2 ^ 31) : (if nI n = (0 : Int32) then x else y) = y := if_neg (fun z => h ((nI_j (b := 0) hn (by omega)).mp z))
theorem iE1t {β : Type} {n : Nat} {x y : β} {_ : Decidable (nI n = (1 : Int32))} (h : n = 1) : (if nI n = (1 : Int32) then x else y) = x := if_pos (by rw [h]; rfl)
theorem iE1f {β : Type} {n : Nat} {x y : β} {_ : Decidable (nI n = (1 : Int32))} (h : ¬ n = 1) (hn : n < 2 ^ 31) : (if nI n = (1 : Int32) then x else y) = y := if_neg (fun z => h ((nI_j (b := 1) hn (by omega)).mp z))
theorem iE2t {β : Type} {n : Nat} {x y : β} {_ : Decidable (nI n = (2 : Int32))} (h : n = 2) : (if nI n = (2 : Int32) then x else y) = x := if_pos (by rw [h]; rfl)
theorem iE2f {β : Type} {n : Nat} {x y : β} {_ : Decidable (nI n = (2 : Int32))} (h : ¬ n = 2) (hn : n < 2 ^ 31) : (if nI n = (2 : Int32) then x else y) = y := if_neg (fun z => h ((nI_j (b := 2) hn (by omega)).mp z))
theorem iE3t {β : Type} {n : Nat} {x y : β} {_ : Decidable (nI n = (3 : Int32))} (h : n = 3) : (if nI n = (3 : Int32) then x else y) = x := if_pos (by rw [h]; rfl)
theorem iE3f {β : Type} {n : Nat} {x y : β} {_ : Decidable (nI n = (3 : Int32))} (h : ¬ n = 3) (hn : n < 2 ^ 31) : (if nI n = (3 : Int32) then x else y) = y := if_neg (fun z => h ((nI_j (b := 3) hn (by omega)).mp z))
theorem iE4t {β : Type} {n : Nat} {x y : β} {_ : Decidable (nI n = (4 : Int32))} (h : n = 4) : (if nI n = (4 : Int32) then x else y) = x := if_pos (by rw [h]; rfl)
theorem iE4f {β : Type} {n : Nat} {x y : β} {_ : Decidable (nI n = (4 : Int32))} (h : ¬ n = 4) (hn : n < 2 ^ 31) : (if nI n = (4 : Int32) then x else y) = y := if_neg (fun z => h ((nI_j (b := 4) hn (by omega)).mp z))
theorem iE5t {β : Type} {n : Nat} {x y : β} {_ : Decidable (nI n = (5 : Int32))} (h : n = 5) : (if nI n = (5 : Int32) then x else y) = x := if_pos (by rw [h]; rfl)
theorem iE5f {β : Type} {n : Nat} {x y : β} {_ : Decidable (nI n = (5 : Int32))} (h : ¬ n = 5) (hn : n < 2 ^ 31) : (if nI n = (5 : Int32) then x else y) = y := if_neg (fun z => h ((nI_j (b := 5) hn (by omega)).mp z))
theorem iE6t {β : Type} {n : Nat} {x y : β} {_ : Decidable (nI n = (6 : Int32))} (h : n = 6) : (if nI n = (6 : Int32) then x else y) = x := if_pos (by rw [h]; rfl)
theorem iE6f {β : Type} {n : Nat} {x y : β} {_ : Decidable (nI n = (6 : Int32))} (h : ¬ n = 6) (hn : n < 2 ^ 31) : (if nI n = (6 : Int32) then x else y) = y := if_neg (fun z => h ((nI_j (b := 6) hn (by omega)).mp z))
theorem iE7t {β : Type} {n : Nat} {x y : β} {_ : Decidable (nI n = (7 : Int32))} (h : n = 7) : (if nI n = (7 : Int32) then x else y) = x := if_pos (by rw [h]; rfl)
theorem iE7f {β : Type} {n : Nat} {x y : β} {_ : Decidable (nI n = (7 : Int32))} (h : ¬ n = 7) (hn : n < 2 ^ 31) : (if nI n = (7 : Int32) then x else y) = y := if_neg (fun z => h ((nI_j (b := 7) hn (by omega)).mp z))
theorem iE8t {β : Type} {n : Nat} {x y : β} {_ : Decidable (nI n = (8 : Int32))} (h : n = 8) : (if nI n = (8 : Int32) then x else y) = x := if_pos (by rw [h]; rfl)
theorem iE8f {β : Type} {n : Nat} {x y : β} {_ : Decidable (nI n = (8 : Int32))} (h : ¬ n = 8) (hn : n < 2 ^ 31) : (if nI n = (8 : Int32) then x else y) = y := if_neg (fun z => h ((nI_j (b := 8) hn (by omega)).mp z))
theorem iE9t {β : Type} {n : Nat} {x y : β} {_ : Decidable (nI n = (9 : Int32))} (h : n = 9) : (if nI n = (9 : Int32) then x else y) = x := if_pos (by rw [h]; rfl)
theorem iE9f {β : Type} {n : Nat} {x y : β} {_ : Decidable (nI n = (9 : Int32))} (h : ¬ n = 9) (hn : n < 2 ^ 31) : (if nI n = (9 : Int32) then x else y) = y := if_neg (fun z => h ((nI_j (b := 9) hn (by omega)).mp z))
theorem iE10t {β : Type} {n : Nat} {x y : β} {_ : Decidable (nI n = (10 : Int32))} (h : n = 10) : (if nI n = (10 : Int32) then x else y) = x := if_pos (by rw [h]; rfl)
theorem iE10f {β : Type} {n : Nat} {x y : β} {_ : Decidable (nI n = (10 : Int32))} (h : ¬ n = 10) (hn : n < 2 ^ 31) : (if nI n = (10 : Int32) then x else y) = y := if_neg (fun z => h ((nI_j (b := 10) hn (by omega)).mp z))
theorem iE11t {β : Type} {n : Nat} {x y : β} {_ : Decidable (nI n = (11 : Int32))} (h : n = 11) : (if nI n = (11 : Int32) then x else y) = x := if_pos (by rw [h]; rfl)
theorem iE11f {β : Type} {n : Nat} {x y : β} {_ : Decidable (nI n = (11 : Int32))} (h : ¬ n = 11) (hn : n < 2 ^ 31) : (if nI n = (11 : Int32) then x else y) = y := if_neg (fun z => h ((nI_j (b := 11) hn (by omega)).mp z))
theorem iE12t {β : Type} {n : Nat} {x y : β} {_ : Decidable (nI n = (12 : Int32))} (h : n = 12) : (if nI n = (12 : Int32) then x else y) = x := if_pos (by rw [h]; rfl)
theorem iE12f {β : Type} {n : Nat} {x y : β} {_ : Decidable (nI n = (12 : Int32))} (h : ¬ n = 12) (hn : n < 2 ^ 31) : (if nI n = (12 : Int32) then x else y) = y := if_neg (fun z => h ((nI_j (b := 12) hn (by omega)).mp z))
theorem iE13t {β : Type} {n : Nat} {x y : β} {_ : Decidable (nI n = (13 : Int32))} (h : n = 13) : (if nI n = (13 : Int32) then x else y) = x := if_pos (by rw [h]; rfl)
theorem iE13f {β : Type} {n : Nat} {x y : β} {_ : Decidable (nI n = (13 : Int32))} (h : ¬ n = 13) (hn : n < 2 ^ 31) : (if nI n = (13 : Int32) then x else y) = y := if_neg (fun z => h ((nI_j (b := 13) hn (by omega)).mp z))
theorem iBt {β : Type} {p : Prop} [Decidable p] {x y : β} {_ : Decidable (bI p = 0)} (h : p) : (if bI p = 0 then x else y) = y := if_neg (fun z => bI_z.mp z h)
theorem iBf {β : Type} {p : Prop} [Decidable p] {x y : β} {_ : Decidable (bI p = 0)} (h : ¬ p) : (if bI p = 0 then x else y) = x := if_pos (bI_z.mpr h)
theorem iLt {β : Type} {a n : Nat} {x y : β} {_ : Decidable (nI a ≤ nI n)} (h : a ≤ n) (hn : n < 2 ^ 31) : (if nI a ≤ nI n then x else y) = x := if_pos ((nI_leI (by omega) hn).mpr h)
theorem iLf {β : Type} {a n : Nat} {x y : β} {_ : Decidable (nI a ≤ nI n)} (h : n < a) (hn : a < 2 ^ 31) : (if nI a ≤ nI n then x else y) = y := if_neg (fun z => by have := (nI_leI (a := a) (by omega) (by omega)).mp z; omega)
theorem iEt {β : Type} {a n : Nat} {x y : β} {_ : Decidable (nI a = nI n)} (h : a = n) : (if nI a = nI n then x else y) = x := if_pos (by rw [h])
theorem iEf {β : Type} {a n : Nat} {x y : β} {_ : Decidable (nI a = nI n)} (h : ¬ a = n) (hn : n < 2 ^ 31) (ha : a < 2 ^ 31) : (if nI a = nI n then x else y) = y := if_neg (fun z => h ((nI_j ha hn).mp z))
theorem i1_0 {β : Type} {x y : β} {_ : Decidable ((1 : Int32) = 0)} : (if (1 : Int32) = 0 then x else y) = y := if_neg (fun z => cast f10 z)
theorem i0_0 {β : Type} {x y : β} {_ : Decidable ((0 : Int32) = 0)} : (if (0 : Int32) = 0 then x else y) = x := if_pos rfl
theorem i0_1 {β : Type} {x y : β} {_ : Decidable ((0 : Int32) = 1)} : (if (0 : Int32) = 1 then x else y) = y := if_neg (fun z => cast f01b z)
theorem iSt {β : Type} {a : Int32} {x y : β} {_ : Decidable (a = a)} : (if a = a then x else y) = x := if_pos rfl
theorem vpY {i n : Nat} (h : i < n) (hn : n < 2 ^ 31) : vp_in (nI i) n := vp_in_nI h hn
theorem vpN {i n : Nat} (h : ¬ i < n) (hi : i < 2 ^ 31) (hn : n < 2 ^ 31) : ¬ vp_in (nI i) n := fun z => by
  obtain ⟨j, hj, e⟩ := vp_in_of z hn
  have := (nI_j hi (by omega)).mp e
  omega
theorem ibt {a b k : Nat} (h : a ≤ k ∧ k ≤ b) (hb : b < 2 ^ 31) : nI a ≤ nI k ∧ nI k ≤ nI b := ⟨(nI_leI (by omega) (by omega)).mpr h.1, (nI_leI (by omega) hb).mpr h.2⟩
theorem ibf {a b k : Nat} (h : ¬ (a ≤ k ∧ k ≤ b)) (hk : k < 2 ^ 31) (ha : a < 2 ^ 31) (hb : b < 2 ^ 31) : ¬ (nI a ≤ nI k ∧ nI k ≤ nI b) := fun z => h ⟨(nI_leI ha hk).mp z.1, (nI_leI hk hb).mp z.2⟩
theorem up_eq2 {M R : gq_M} {k k2 a b j j2 : Nat} {v : Int32} (h : M k j = R k2 j2) (hj : j = a ↔ j2 = b) : gq_up M k a v k j = gq_up R k2 b v k2 j2 := by
  by_cases e : j = a
  · rw [e, hj.mp e, up_same, up_same]
  · rw [up_no (by omega), up_no (by rw [← hj]; omega)]; exact h
theorem g_bv {β : Type} {v : Int32} {a : Option β} (h : bit v) : gq_g (gq_bb v) a = a := by
  rcases h with rfl | rfl
  · rfl
  · rfl
section
variable {N nb nl nr tn dn : Nat} {M R : gq_M}
theorem e_quota {bo ki k : Nat} (hbo : bo < 2 ^ 31) (hki : ki < 2 ^ 31) (hk : k < 2 ^ 31) : f_X10_quota N (nI bo) (nI ki) (nI k) R = if bo < 8 ∧ ki < 4 then (if (0 ≤ k ∧ k ≤ 100000) then some (R 1 (4 * bo + ki), gq_up (thr R 0) 1 (4 * bo + ki) (nI k)) else some (0, thr R 2)) else some (0, thr R 1) := by
  by_cases c1 : bo < 8
  · have kc1 : vp_in (nI bo) 8 := vpY c1 (by omega)
    by_cases c2 : ki < 4
    · have kc2 : vp_in (nI ki) 4 := vpY c2 (by omega)
      by_cases c3 : (0 ≤ k ∧ k ≤ 100000)
      · have kc3 : (0 : Int32) ≤ nI k ∧ nI k ≤ (100000 : Int32) := ibt (a := 0) (b := 100000) c3 (by omega)
        rw [if_pos ⟨c1, c2⟩, if_pos c3]; simp (disch := omega) only [f_X10_quota_46, f_X10_quota_19, f_X10_quota_18, f_X10_quota, r_isEight, r_isKind, r_isHall, r_areCents, r_isBox, r_isIn, r_fails, gq_b_s, gq_l_e, bI_z, Classical.not_not, reduceIte, not_true_eq_false, not_false_eq_true, f01, f02, f03, f00, f10, f01b, ite_not, ite_self, and_self, e8a, e8b, e4a, e4b, e3a, e3b, g_inN, g_bb0, g_bb1, g_bbI, nI_clamp, pl4, pl4b, pl8, pl8b, thr_r, thr_s, kc1, kc2, kc3]
      · have kc3 : ¬ ((0 : Int32) ≤ nI k ∧ nI k ≤ (100000 : Int32)) := ibf (a := 0) (b := 100000) c3 (by omega) (by omega) (by omega)
        rw [if_pos ⟨c1, c2⟩, if_neg (fun z => by omega)]; simp (disch := omega) only [f_X10_quota_46, f_X10_quota_19, f_X10_quota_18, f_X10_quota, r_isEight, r_isKind, r_isHall, r_areCents, r_isBox, r_isIn, r_fails, gq_b_s, gq_l_e, bI_z, Classical.not_not, reduceIte, not_true_eq_false, not_false_eq_true, f01, f02, f03, f00, f10, f01b, ite_not, ite_self, and_self, e8a, e8b, e4a, e4b, e3a, e3b, g_inN, g_bb0, g_bb1, g_bbI, nI_clamp, pl4, pl4b, pl8, pl8b, thr_r, thr_s, kc1, kc2, kc3]
    · have kc2 : ¬ vp_in (nI ki) 4 := vpN c2 (by omega) (by omega)
      rw [if_neg (fun z => by omega)]; simp (disch := omega) only [f_X10_quota_46, f_X10_quota_19, f_X10_quota_18, f_X10_quota, r_isEight, r_isKind, r_isHall, r_areCents, r_isBox, r_isIn, r_fails, gq_b_s, gq_l_e, bI_z, Classical.not_not, reduceIte, not_true_eq_false, not_false_eq_true, f01, f02, f03, f00, f10, f01b, ite_not, ite_self, and_self, e8a, e8b, e4a, e4b, e3a, e3b, g_inN, g_bb0, g_bb1, g_bbI, nI_clamp, pl4, pl4b, pl8, pl8b, thr_r, thr_s, kc1, kc2]
  · have kc1 : ¬ vp_in (nI bo) 8 := vpN c1 (by omega) (by omega)
    rw [if_neg (fun z => by omega)]; simp (disch := omega) only [f_X10_quota_46, f_X10_quota_19, f_X10_quota_18, f_X10_quota, r_isEight, r_isKind, r_isHall, r_areCents, r_isBox, r_isIn, r_fails, gq_b_s, gq_l_e, bI_z, Classical.not_not, reduceIte, not_true_eq_false, not_false_eq_true, f01, f02, f03, f00, f10, f01b, ite_not, ite_self, and_self, e8a, e8b, e4a, e4b, e3a, e3b, g_inN, g_bb0, g_bb1, g_bbI, nI_clamp, pl4, pl4b, pl8, pl8b, thr_r, thr_s, kc1]

theorem e_aid {bo k : Nat} {s : Int32} (hbo : bo < 2 ^ 31) (hk : k < 2 ^ 31) (hs : bit s) : f_X10_aid N (nI bo) (nI k) s R = if bo < 8 then (if (0 ≤ k ∧ k ≤ 100000) then some (R 3 bo, gq_up (gq_up (thr R 0) 3 bo (nI k)) 4 bo s) else some (0, thr R 2)) else some (0, thr R 1) := by
  by_cases c1 : bo < 8
  · have kc1 : vp_in (nI bo) 8 := vpY c1 (by omega)
    by_cases c2 : (0 ≤ k ∧ k ≤ 100000)
    · have kc2 : (0 : Int32) ≤ nI k ∧ nI k ≤ (100000 : Int32) := ibt (a := 0) (b := 100000) c2 (by omega)
      rw [if_pos c1, if_pos c2]; simp (disch := omega) only [f_X10_aid_27, f_X10_aid, r_isEight, r_isKind, r_isHall, r_areCents, r_isBox, r_isIn, r_fails, gq_b_s, gq_l_e, bI_z, Classical.not_not, reduceIte, not_true_eq_false, not_false_eq_true, f01, f02, f03, f00, f10, f01b, ite_not, ite_self, and_self, e8a, e8b, e4a, e4b, e3a, e3b, g_inN, g_bb0, g_bb1, g_bbI, nI_clamp, pl4, pl4b, pl8, pl8b, thr_r, thr_s, kc1, kc2, g_bv hs]
    · have kc2 : ¬ ((0 : Int32) ≤ nI k ∧ nI k ≤ (100000 : Int32)) := ibf (a := 0) (b := 100000) c2 (by omega) (by omega) (by omega)
      rw [if_pos c1, if_neg (fun z => by omega)]; simp (disch := omega) only [f_X10_aid_27, f_X10_aid, r_isEight, r_isKind, r_isHall, r_areCents, r_isBox, r_isIn, r_fails, gq_b_s, gq_l_e, bI_z, Classical.not_not, reduceIte, not_true_eq_false, not_false_eq_true, f01, f02, f03, f00, f10, f01b, ite_not, ite_self, and_self, e8a, e8b, e4a, e4b, e3a, e3b, g_inN, g_bb0, g_bb1, g_bbI, nI_clamp, pl4, pl4b, pl8, pl8b, thr_r, thr_s, kc1, kc2, g_bv hs]
  · have kc1 : ¬ vp_in (nI bo) 8 := vpN c1 (by omega) (by omega)
    rw [if_neg (fun z => by omega)]; simp (disch := omega) only [f_X10_aid_27, f_X10_aid, r_isEight, r_isKind, r_isHall, r_areCents, r_isBox, r_isIn, r_fails, gq_b_s, gq_l_e, bI_z, Classical.not_not, reduceIte, not_true_eq_false, not_false_eq_true, f01, f02, f03, f00, f10, f01b, ite_not, ite_self, and_self, e8a, e8b, e4a, e4b, e3a, e3b, g_inN, g_bb0, g_bb1, g_bbI, nI_clamp, pl4, pl4b, pl8, pl8b, thr_r, thr_s, kc1, g_bv hs]

theorem e_kind {ki st le ha : Nat} (hki : ki < 2 ^ 31) (hst : st < 2 ^ 31) (hle : le < 2 ^ 31) (hha : ha < 2 ^ 31) : f_X10_kind N (nI ki) (nI st) (nI le) (nI ha) R = if ki < 4 ∧ ha < 3 then (if (1 ≤ st ∧ st ≤ 10000) ∧ (1 ≤ le ∧ le ≤ 10000) then some (0, gq_up (gq_up (gq_up (thr R 0) 6 ki (nI st)) 7 ki (nI le)) 8 ki (nI ha)) else some (0, thr R 2)) else some (0, thr R 1) := by
  by_cases c1 : ki < 4
  · have kc1 : vp_in (nI ki) 4 := vpY c1 (by omega)
    by_cases c2 : ha < 3
    · have kc2 : vp_in (nI ha) 3 := vpY c2 (by omega)
      by_cases c3 : (1 ≤ st ∧ st ≤ 10000)
      · have kc3 : (1 : Int32) ≤ nI st ∧ nI st ≤ (10000 : Int32) := ibt (a := 1) (b := 10000) c3 (by omega)
        by_cases c4 : (1 ≤ le ∧ le ≤ 10000)
        · have kc4 : (1 : Int32) ≤ nI le ∧ nI le ≤ (10000 : Int32) := ibt (a := 1) (b := 10000) c4 (by omega)
          rw [if_pos ⟨c1, c2⟩, if_pos ⟨c3, c4⟩]; simp (disch := omega) only [f_X10_kind_71, f_X10_kind_49, f_X10_kind_48, f_X10_kind_20, f_X10_kind_19, f_X10_kind, r_isEight, r_isKind, r_isHall, r_areCents, r_isBox, r_isIn, r_fails, gq_b_s, gq_l_e, bI_z, Classical.not_not, reduceIte, not_true_eq_false, not_false_eq_true, f01, f02, f03, f00, f10, f01b, ite_not, ite_self, and_self, e8a, e8b, e4a, e4b, e3a, e3b, g_inN, g_bb0, g_bb1, g_bbI, nI_clamp, pl4, pl4b, pl8, pl8b, thr_r, thr_s, kc1, kc2, kc3, kc4]
        · have kc4 : ¬ ((1 : Int32) ≤ nI le ∧ nI le ≤ (10000 : Int32)) := ibf (a := 1) (b := 10000) c4 (by omega) (by omega) (by omega)
          rw [if_pos ⟨c1, c2⟩, if_neg (fun z => by omega)]; simp (disch := omega) only [f_X10_kind_71, f_X10_kind_49, f_X10_kind_48, f_X10_kind_20, f_X10_kind_19, f_X10_kind, r_isEight, r_isKind, r_isHall, r_areCents, r_isBox, r_isIn, r_fails, gq_b_s, gq_l_e, bI_z, Classical.not_not, reduceIte, not_true_eq_false, not_false_eq_true, f01, f02, f03, f00, f10, f01b, ite_not, ite_self, and_self, e8a, e8b, e4a, e4b, e3a, e3b, g_inN, g_bb0, g_bb1, g_bbI, nI_clamp, pl4, pl4b, pl8, pl8b, thr_r, thr_s, kc1, kc2, kc3, kc4]
      · have kc3 : ¬ ((1 : Int32) ≤ nI st ∧ nI st ≤ (10000 : Int32)) := ibf (a := 1) (b := 10000) c3 (by omega) (by omega) (by omega)
        rw [if_pos ⟨c1, c2⟩, if_neg (fun z => by omega)]; simp (disch := omega) only [f_X10_kind_71, f_X10_kind_49, f_X10_kind_48, f_X10_kind_20, f_X10_kind_19, f_X10_kind, r_isEight, r_isKind, r_isHall, r_areCents, r_isBox, r_isIn, r_fails, gq_b_s, gq_l_e, bI_z, Classical.not_not, reduceIte, not_true_eq_false, not_false_eq_true, f01, f02, f03, f00, f10, f01b, ite_not, ite_self, and_self, e8a, e8b, e4a, e4b, e3a, e3b, g_inN, g_bb0, g_bb1, g_bbI, nI_clamp, pl4, pl4b, pl8, pl8b, thr_r, thr_s, kc1, kc2, kc3]
    · have kc2 : ¬ vp_in (nI ha) 3 := vpN c2 (by omega) (by omega)
      rw [if_neg (fun z => by omega)]; simp (disch := omega) only [f_X10_kind_71, f_X10_kind_49, f_X10_kind_48, f_X10_kind_20, f_X10_kind_19, f_X10_kind, r_isEight, r_isKind, r_isHall, r_areCents, r_isBox, r_isIn, r_fails, gq_b_s, gq_l_e, bI_z, Classical.not_not, reduceIte, not_true_eq_false, not_false_eq_true, f01, f02, f03, f00, f10, f01b, ite_not, ite_self, and_self, e8a, e8b, e4a, e4b, e3a, e3b, g_inN, g_bb0, g_bb1, g_bbI, nI_clamp, pl4, pl4b, pl8, pl8b, thr_r, thr_s, kc1, kc2]
  · have kc1 : ¬ vp_in (nI ki) 4 := vpN c1 (by omega) (by omega)
    rw [if_neg (fun z => by omega)]; simp (disch := omega) only [f_X10_kind_71, f_X10_kind_49, f_X10_kind_48, f_X10_kind_20, f_X10_kind_19, f_X10_kind, r_isEight, r_isKind, r_isHall, r_areCents, r_isBox, r_isIn, r_fails, gq_b_s, gq_l_e, bI_z, Classical.not_not, reduceIte, not_true_eq_false, not_false_eq_true, f01, f02, f03, f00, f10, f01b, ite_not, ite_self, and_self, e8a, e8b, e4a, e4b, e3a, e3b, g_inN, g_bb0, g_bb1, g_bbI, nI_clamp, pl4, pl4b, pl8, pl8b, thr_r, thr_s, kc1]

theorem e_step {ha ce : Nat} (hha : ha < 2 ^ 31) (hce : ce < 2 ^ 31) : f_X10_step N (nI ha) (nI ce) R = if ha < 3 then (if (1 ≤ ce ∧ ce ≤ 500) then some (R 33 ha, gq_up (thr R 0) 33 ha (nI ce)) else some (0, thr R 2)) else some (0, thr R 1) := by
  by_cases c1 : ha < 3
  · have kc1 : vp_in (nI ha) 3 := vpY c1 (by omega)
    by_cases c2 : (1 ≤ ce ∧ ce ≤ 500)
    · have kc2 : (1 : Int32) ≤ nI ce ∧ nI ce ≤ (500 : Int32) := ibt (a := 1) (b := 500) c2 (by omega)
      rw [if_pos c1, if_pos c2]; simp (disch := omega) only [f_X10_step_28, f_X10_step, r_isEight, r_isKind, r_isHall, r_areCents, r_isBox, r_isIn, r_fails, gq_b_s, gq_l_e, bI_z, Classical.not_not, reduceIte, not_true_eq_false, not_false_eq_true, f01, f02, f03, f00, f10, f01b, ite_not, ite_self, and_self, e8a, e8b, e4a, e4b, e3a, e3b, g_inN, g_bb0, g_bb1, g_bbI, nI_clamp, pl4, pl4b, pl8, pl8b, thr_r, thr_s, kc1, kc2]
    · have kc2 : ¬ ((1 : Int32) ≤ nI ce ∧ nI ce ≤ (500 : Int32)) := ibf (a := 1) (b := 500) c2 (by omega) (by omega) (by omega)
      rw [if_pos c1, if_neg (fun z => by omega)]; simp (disch := omega) only [f_X10_step_28, f_X10_step, r_isEight, r_isKind, r_isHall, r_areCents, r_isBox, r_isIn, r_fails, gq_b_s, gq_l_e, bI_z, Classical.not_not, reduceIte, not_true_eq_false, not_false_eq_true, f01, f02, f03, f00, f10, f01b, ite_not, ite_self, and_self, e8a, e8b, e4a, e4b, e3a, e3b, g_inN, g_bb0, g_bb1, g_bbI, nI_clamp, pl4, pl4b, pl8, pl8b, thr_r, thr_s, kc1, kc2]
  · have kc1 : ¬ vp_in (nI ha) 3 := vpN c1 (by omega) (by omega)
    rw [if_neg (fun z => by omega)]; simp (disch := omega) only [f_X10_step_28, f_X10_step, r_isEight, r_isKind, r_isHall, r_areCents, r_isBox, r_isIn, r_fails, gq_b_s, gq_l_e, bI_z, Classical.not_not, reduceIte, not_true_eq_false, not_false_eq_true, f01, f02, f03, f00, f10, f01b, ite_not, ite_self, and_self, e8a, e8b, e4a, e4b, e3a, e3b, g_inN, g_bb0, g_bb1, g_bbI, nI_clamp, pl4, pl4b, pl8, pl8b, thr_r, thr_s, kc1]

theorem e_buyer {bo gu de : Nat} (hbo : bo < 2 ^ 31) (hgu : gu < 2 ^ 31) (hde : de < 2 ^ 31) : f_X10_buyer N (nI bo) (nI gu) (nI de) R = if bo < 8 then (if (0 ≤ gu ∧ gu ≤ 100000000) ∧ (1 ≤ de ∧ de ≤ 9) then some (R 9 bo, gq_up (gq_up (thr R 0) 9 bo (nI gu)) 10 bo (nI de)) else some (0, thr R 2)) else some (0, thr R 1) := by
  by_cases c1 : bo < 8
  · have kc1 : vp_in (nI bo) 8 := vpY c1 (by omega)
    by_cases c2 : (0 ≤ gu ∧ gu ≤ 100000000)
    · have kc2 : (0 : Int32) ≤ nI gu ∧ nI gu ≤ (100000000 : Int32) := ibt (a := 0) (b := 100000000) c2 (by omega)
      by_cases c3 : (1 ≤ de ∧ de ≤ 9)
      · have kc3 : (1 : Int32) ≤ nI de ∧ nI de ≤ (9 : Int32) := ibt (a := 1) (b := 9) c3 (by omega)
        rw [if_pos c1, if_pos ⟨c2, c3⟩]; simp (disch := omega) only [f_X10_buyer_49, f_X10_buyer_25, f_X10_buyer_24, f_X10_buyer, r_isEight, r_isKind, r_isHall, r_areCents, r_isBox, r_isIn, r_fails, gq_b_s, gq_l_e, bI_z, Classical.not_not, reduceIte, not_true_eq_false, not_false_eq_true, f01, f02, f03, f00, f10, f01b, ite_not, ite_self, and_self, e8a, e8b, e4a, e4b, e3a, e3b, g_inN, g_bb0, g_bb1, g_bbI, nI_clamp, pl4, pl4b, pl8, pl8b, thr_r, thr_s, kc1, kc2, kc3]
      · have kc3 : ¬ ((1 : Int32) ≤ nI de ∧ nI de ≤ (9 : Int32)) := ibf (a := 1) (b := 9) c3 (by omega) (by omega) (by omega)
        rw [if_pos c1, if_neg (fun z => by omega)]; simp (disch := omega) only [f_X10_buyer_49, f_X10_buyer_25, f_X10_buyer_24, f_X10_buyer, r_isEight, r_isKind, r_isHall, r_areCents, r_isBox, r_isIn, r_fails, gq_b_s, gq_l_e, bI_z, Classical.not_not, reduceIte, not_true_eq_false, not_false_eq_true, f01, f02, f03, f00, f10, f01b, ite_not, ite_self, and_self, e8a, e8b, e4a, e4b, e3a, e3b, g_inN, g_bb0, g_bb1, g_bbI, nI_clamp, pl4, pl4b, pl8, pl8b, thr_r, thr_s, kc1, kc2, kc3]
    · have kc2 : ¬ ((0 : Int32) ≤ nI gu ∧ nI gu ≤ (100000000 : Int32)) := ibf (a := 0) (b := 100000000) c2 (by omega) (by omega) (by omega)
      rw [if_pos c1, if_neg (fun z => by omega)]; simp (disch := omega) only [f_X10_buyer_49, f_X10_buyer_25, f_X10_buyer_24, f_X10_buyer, r_isEight, r_isKind, r_isHall, r_areCents, r_isBox, r_isIn, r_fails, gq_b_s, gq_l_e, bI_z, Classical.not_not, reduceIte, not_true_eq_false, not_false_eq_true, f01, f02, f03, f00, f10, f01b, ite_not, ite_self, and_self, e8a, e8b, e4a, e4b, e3a, e3b, g_inN, g_bb0, g_bb1, g_bbI, nI_clamp, pl4, pl4b, pl8, pl8b, thr_r, thr_s, kc1, kc2]
  · have kc1 : ¬ vp_in (nI bo) 8 := vpN c1 (by omega) (by omega)
    rw [if_neg (fun z => by omega)]; simp (disch := omega) only [f_X10_buyer_49, f_X10_buyer_25, f_X10_buyer_24, f_X10_buyer, r_isEight, r_isKind, r_isHall, r_areCents, r_isBox, r_isIn, r_fails, gq_b_s, gq_l_e, bI_z, Classical.not_not, reduceIte, not_true_eq_false, not_false_eq_true, f01, f02, f03, f00, f10, f01b, ite_not, ite_self, and_self, e8a, e8b, e4a, e4b, e3a, e3b, g_inN, g_bb0, g_bb1, g_bbI, nI_clamp, pl4, pl4b, pl8, pl8b, thr_r, thr_s, kc1]

theorem e_power {ha : Nat} {s : Int32} (hha : ha < 2 ^ 31) (hs : bit s) (hb : ∀ j, j < 3 → bit (R 34 j)) : f_X10_power N (nI ha) s R = if ha < 3 then some (R 34 ha, gq_up (thr R 0) 34 ha s) else some (0, thr R 1) := by
  by_cases c1 : ha < 3
  · have kc1 : vp_in (nI ha) 3 := vpY c1 (by omega)
    rw [if_pos c1]; simp (disch := omega) only [f_X10_power_13, f_X10_power, r_isEight, r_isKind, r_isHall, r_areCents, r_isBox, r_isIn, r_fails, gq_b_s, gq_l_e, bI_z, Classical.not_not, reduceIte, not_true_eq_false, not_false_eq_true, f01, f02, f03, f00, f10, f01b, ite_not, ite_self, and_self, e8a, e8b, e4a, e4b, e3a, e3b, g_inN, g_bb0, g_bb1, g_bbI, nI_clamp, pl4, pl4b, pl8, pl8b, thr_r, thr_s, kc1, g_bv hs, g_bv (hb ha c1)]
  · have kc1 : ¬ vp_in (nI ha) 3 := vpN c1 (by omega) (by omega)
    rw [if_neg (fun z => by omega)]; simp (disch := omega) only [f_X10_power_13, f_X10_power, r_isEight, r_isKind, r_isHall, r_areCents, r_isBox, r_isIn, r_fails, gq_b_s, gq_l_e, bI_z, Classical.not_not, reduceIte, not_true_eq_false, not_false_eq_true, f01, f02, f03, f00, f10, f01b, ite_not, ite_self, and_self, e8a, e8b, e4a, e4b, e3a, e3b, g_inN, g_bb0, g_bb1, g_bbI, nI_clamp, pl4, pl4b, pl8, pl8b, thr_r, thr_s, kc1, g_bv hs]

theorem e_line {bo : Nat} {s : Int32} (hbo : bo < 2 ^ 31) (hs : bit s) (hb : ∀ j, j < 8 → bit (R 12 j)) : f_X10_line N (nI bo) s R = if bo < 8 then some (R 12 bo, gq_up (thr R 0) 12 bo s) else some (0, thr R 1) := by
  by_cases c1 : bo < 8
  · have kc1 : vp_in (nI bo) 8 := vpY c1 (by omega)
    rw [if_pos c1]; simp (disch := omega) only [f_X10_line_13, f_X10_line, r_isEight, r_isKind, r_isHall, r_areCents, r_isBox, r_isIn, r_fails, gq_b_s, gq_l_e, bI_z, Classical.not_not, reduceIte, not_true_eq_false, not_false_eq_true, f01, f02, f03, f00, f10, f01b, ite_not, ite_self, and_self, e8a, e8b, e4a, e4b, e3a, e3b, g_inN, g_bb0, g_bb1, g_bbI, nI_clamp, pl4, pl4b, pl8, pl8b, thr_r, thr_s, kc1, g_bv hs, g_bv (hb bo c1)]
  · have kc1 : ¬ vp_in (nI bo) 8 := vpN c1 (by omega) (by omega)
    rw [if_neg (fun z => by omega)]; simp (disch := omega) only [f_X10_line_13, f_X10_line, r_isEight, r_isKind, r_isHall, r_areCents, r_isBox, r_isIn, r_fails, gq_b_s, gq_l_e, bI_z, Classical.not_not, reduceIte, not_true_eq_false, not_false_eq_true, f01, f02, f03, f00, f10, f01b, ite_not, ite_self, and_self, e8a, e8b, e4a, e4b, e3a, e3b, g_inN, g_bb0, g_bb1, g_bbI, nI_clamp, pl4, pl4b, pl8, pl8b, thr_r, thr_s, kc1, g_bv hs]

end

