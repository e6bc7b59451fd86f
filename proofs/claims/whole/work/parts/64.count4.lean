def sumB (x : Int32) : Nat := ((List.range 24).map (fun k => (bt x k).toNat)).foldr (· + ·) 0
def bs (a : Nat) : Nat := (a.testBit 0).toNat + (a.testBit 1).toNat + (a.testBit 2).toNat + (a.testBit 3).toNat + (a.testBit 4).toNat + (a.testBit 5).toNat + (a.testBit 6).toNat + (a.testBit 7).toNat
theorem cn_g : ∀ a, a < 256 → bs a = cn3 a := by decide +kernel
theorem tb0 (X : Nat) {r : Nat} (hr : r < 8) : (X % 256).testBit r = X.testBit r := by
  rw [show 256 = 2 ^ 8 from rfl, Nat.testBit_mod_two_pow, decide_eq_true hr, Bool.true_and]
theorem tb1 (X : Nat) {r : Nat} (hr : r < 8) : (X / 256 % 256).testBit r = X.testBit (r + 8) := by
  rw [tb0 _ hr, show 256 = 2 ^ 8 from rfl, Nat.testBit_div_two_pow]
theorem tb2 (X : Nat) {r : Nat} : (X / 65536).testBit r = X.testBit (r + 16) := by
  rw [show 65536 = 2 ^ 16 from rfl, Nat.testBit_div_two_pow]
theorem sumB_nI (X : Nat) : sumB (nI X) = (X.testBit 0).toNat + ((X.testBit 1).toNat + ((X.testBit 2).toNat + ((X.testBit 3).toNat + ((X.testBit 4).toNat + ((X.testBit 5).toNat + ((X.testBit 6).toNat + ((X.testBit 7).toNat + ((X.testBit 8).toNat + ((X.testBit 9).toNat + ((X.testBit 10).toNat + ((X.testBit 11).toNat + ((X.testBit 12).toNat + ((X.testBit 13).toNat + ((X.testBit 14).toNat + ((X.testBit 15).toNat + ((X.testBit 16).toNat + ((X.testBit 17).toNat + ((X.testBit 18).toNat + ((X.testBit 19).toNat + ((X.testBit 20).toNat + ((X.testBit 21).toNat + ((X.testBit 22).toNat + ((X.testBit 23).toNat + 0))))))))))))))))))))))) := by
  have h : sumB (nI X) = (bt (nI X) 0).toNat + ((bt (nI X) 1).toNat + ((bt (nI X) 2).toNat + ((bt (nI X) 3).toNat + ((bt (nI X) 4).toNat + ((bt (nI X) 5).toNat + ((bt (nI X) 6).toNat + ((bt (nI X) 7).toNat + ((bt (nI X) 8).toNat + ((bt (nI X) 9).toNat + ((bt (nI X) 10).toNat + ((bt (nI X) 11).toNat + ((bt (nI X) 12).toNat + ((bt (nI X) 13).toNat + ((bt (nI X) 14).toNat + ((bt (nI X) 15).toNat + ((bt (nI X) 16).toNat + ((bt (nI X) 17).toNat + ((bt (nI X) 18).toNat + ((bt (nI X) 19).toNat + ((bt (nI X) 20).toNat + ((bt (nI X) 21).toNat + ((bt (nI X) 22).toNat + ((bt (nI X) 23).toNat + 0))))))))))))))))))))))) := rfl
  rw [h, bt_nI X (show 0 < 32 by omega), bt_nI X (show 1 < 32 by omega), bt_nI X (show 2 < 32 by omega), bt_nI X (show 3 < 32 by omega), bt_nI X (show 4 < 32 by omega), bt_nI X (show 5 < 32 by omega), bt_nI X (show 6 < 32 by omega), bt_nI X (show 7 < 32 by omega), bt_nI X (show 8 < 32 by omega), bt_nI X (show 9 < 32 by omega), bt_nI X (show 10 < 32 by omega), bt_nI X (show 11 < 32 by omega), bt_nI X (show 12 < 32 by omega), bt_nI X (show 13 < 32 by omega), bt_nI X (show 14 < 32 by omega), bt_nI X (show 15 < 32 by omega), bt_nI X (show 16 < 32 by omega), bt_nI X (show 17 < 32 by omega), bt_nI X (show 18 < 32 by omega), bt_nI X (show 19 < 32 by omega), bt_nI X (show 20 < 32 by omega), bt_nI X (show 21 < 32 by omega), bt_nI X (show 22 < 32 by omega), bt_nI X (show 23 < 32 by omega)]
theorem cnt_sum {X : Nat} (hX : X < 2 ^ 24) : sumB (nI X) = cnt X := by
  rw [sumB_nI]
  unfold cnt
  rw [← cn_g (X % 256) (by omega), ← cn_g (X / 256 % 256) (by omega), ← cn_g (X / 65536) (by omega)]
  unfold bs
  rw [tb0 X (show 0 < 8 by omega), tb0 X (show 1 < 8 by omega), tb0 X (show 2 < 8 by omega), tb0 X (show 3 < 8 by omega), tb0 X (show 4 < 8 by omega), tb0 X (show 5 < 8 by omega), tb0 X (show 6 < 8 by omega), tb0 X (show 7 < 8 by omega), tb1 X (show 0 < 8 by omega), tb1 X (show 1 < 8 by omega), tb1 X (show 2 < 8 by omega), tb1 X (show 3 < 8 by omega), tb1 X (show 4 < 8 by omega), tb1 X (show 5 < 8 by omega), tb1 X (show 6 < 8 by omega), tb1 X (show 7 < 8 by omega), tb2 X (r := 0), tb2 X (r := 1), tb2 X (r := 2), tb2 X (r := 3), tb2 X (r := 4), tb2 X (r := 5), tb2 X (r := 6), tb2 X (r := 7)]
  generalize (X.testBit 0).toNat = t0
  generalize (X.testBit 1).toNat = t1
  generalize (X.testBit 2).toNat = t2
  generalize (X.testBit 3).toNat = t3
  generalize (X.testBit 4).toNat = t4
  generalize (X.testBit 5).toNat = t5
  generalize (X.testBit 6).toNat = t6
  generalize (X.testBit 7).toNat = t7
  generalize (X.testBit (0 + 8)).toNat = t8
  generalize (X.testBit (1 + 8)).toNat = t9
  generalize (X.testBit (2 + 8)).toNat = t10
  generalize (X.testBit (3 + 8)).toNat = t11
  generalize (X.testBit (4 + 8)).toNat = t12
  generalize (X.testBit (5 + 8)).toNat = t13
  generalize (X.testBit (6 + 8)).toNat = t14
  generalize (X.testBit (7 + 8)).toNat = t15
  generalize (X.testBit (0 + 16)).toNat = t16
  generalize (X.testBit (1 + 16)).toNat = t17
  generalize (X.testBit (2 + 16)).toNat = t18
  generalize (X.testBit (3 + 16)).toNat = t19
  generalize (X.testBit (4 + 16)).toNat = t20
  generalize (X.testBit (5 + 16)).toNat = t21
  generalize (X.testBit (6 + 16)).toNat = t22
  generalize (X.testBit (7 + 16)).toNat = t23
  omega
