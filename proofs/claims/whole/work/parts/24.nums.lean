/-! numbers as the machine makes them: digits, weights, turns, places, noise. My own. -/
theorem tn_of (n : Nat) : Int32.ofInt (n : Int) = nI n := Int32.ofInt_eq_ofNat
theorem tn_dg {a : Int32} {w : Nat} (hw : w < 2) : (((a + (-2145384448 : Int32)).toUInt32 >>> ((nI 22 - (nI 10 * nI w)).toUInt32 &&& Int32.toUInt32 31)).toInt32 &&& nI 1023) - nI 512 = tp_dg w a := by
  have hy := tp_y_lt a
  rcases (show w = 0 ∨ w = 1 by omega) with rfl | rfl
  · rw [pk_and _ (m := nI 1023) 10 (by decide), pk_ushr _ _ 22 (by decide)]
    show nI (tp_y a / 2 ^ 22 % 2 ^ 10) - nI 512 = Int32.ofInt ((tp_y a / 4194304 : Nat) : Int) - 512
    rw [tn_of, show tp_y a / 2 ^ 22 % 2 ^ 10 = tp_y a / 4194304 by omega]
    rfl
  · rw [pk_and _ (m := nI 1023) 10 (by decide), pk_ushr _ _ 12 (by decide)]
    show nI (tp_y a / 2 ^ 12 % 2 ^ 10) - nI 512 = Int32.ofInt ((tp_y a / 4096 % 1024 : Nat) : Int) - 512
    rw [tn_of]
    rfl
theorem tn_w {w : Nat} (hw : w < 2) : nI 1 <<< ((nI 22 - (nI 10 * nI w)) &&& 31) = tp_W w := by
  rcases (show w = 0 ∨ w = 1 by omega) with rfl | rfl <;> decide
theorem tn_turn {i T : Nat} (hi : i < 64) (hT : T < 64) : (nI i - nI T) &&& nI 63 = nI ((i + 64 - T) % 64) := by
  rw [pk_and _ (m := nI 63) 6 (by decide)]
  congr 1
  have h : (nI i - nI T).toBitVec.toNat = (2 ^ 32 - T + i) % 2 ^ 32 := by
    rw [Int32.toBitVec_sub, BitVec.toNat_sub, pk_tn (by omega), pk_tn (by omega)]
  rw [h]
  omega
theorem tn_rd (a : Int32) : ((a + (33554432 : Int32)).toUInt32 >>> ((nI 26).toUInt32 &&& Int32.toUInt32 31)).toInt32 = nI (tp_rd a) := by
  have h := pk_ushr (a + (33554432 : Int32)) (nI 26) 26 (by decide)
  have e : ∀ x y : Int32, x.toBitVec.toNat = y.toBitVec.toNat → x = y := fun x y q => Int32.toBitVec.inj (BitVec.eq_of_toNat_eq q)
  apply e
  rw [h, pk_tn (by have := tp_rd_lt a; omega)]
  rfl
theorem tn_noise (r : Int32) {b k n : Nat} (hs : (((nI 32 - nI b).toUInt32 &&& Int32.toUInt32 31).toBitVec % 32).toNat = k) (h1 : nI 1 <<< ((nI b - nI 1) &&& 31) = nI n) (hk : 2 ^ 32 / 2 ^ k ≤ 2 * n) (hk2 : 2 ^ k * (2 ^ 32 / 2 ^ k) = 2 ^ 32) (hn : n < 2 ^ 30) : tp_sm n ((r.toUInt32 >>> ((nI 32 - nI b).toUInt32 &&& Int32.toUInt32 31)).toInt32 - (nI 1 <<< ((nI b - nI 1) &&& 31))) := by
  have h := pk_ushr r (nI 32 - nI b) k hs
  have hlt : r.toBitVec.toNat / 2 ^ k < 2 ^ 32 / 2 ^ k := Nat.div_lt_of_lt_mul (by rw [hk2]; exact r.toBitVec.isLt)
  have e : ∀ x y : Int32, x.toBitVec.toNat = y.toBitVec.toNat → x = y := fun x y q => Int32.toBitVec.inj (BitVec.eq_of_toNat_eq q)
  have h2 : (r.toUInt32 >>> ((nI 32 - nI b).toUInt32 &&& Int32.toUInt32 31)).toInt32 = nI (r.toBitVec.toNat / 2 ^ k) := by
    apply e
    rw [h, pk_tn (by omega)]
  rw [h2, h1]
  generalize r.toBitVec.toNat / 2 ^ k = q at hlt
  refine ⟨(q : Int) - n, by omega, ?_⟩
  rw [Int32.ofInt_sub, tn_of, tn_of]
theorem tn_noise5 (r : Int32) : tp_sm 16 ((r.toUInt32 >>> ((nI 32 - nI 5).toUInt32 &&& Int32.toUInt32 31)).toInt32 - (nI 1 <<< ((nI 5 - nI 1) &&& 31))) := tn_noise r (b := 5) (k := 27) (n := 16) (by decide) (by decide) (by decide) (by decide) (by decide)
theorem tn_noise3 (r : Int32) : tp_sm 4 ((r.toUInt32 >>> ((nI 32 - nI 3).toUInt32 &&& Int32.toUInt32 31)).toInt32 - (nI 1 <<< ((nI 3 - nI 1) &&& 31))) := tn_noise r (b := 3) (k := 29) (n := 4) (by decide) (by decide) (by decide) (by decide) (by decide)
/-- a bit: the top one -/
theorem tn_bit (r : Int32) : tp_bit (r.toUInt32 >>> ((nI 31).toUInt32 &&& Int32.toUInt32 31)).toInt32 := by
  have h := pk_ushr r (nI 31) 31 (by decide)
  have hlt := r.toBitVec.isLt
  have e : ∀ x y : Int32, x.toBitVec.toNat = y.toBitVec.toNat → x = y := fun x y q => Int32.toBitVec.inj (BitVec.eq_of_toNat_eq q)
  rcases (show r.toBitVec.toNat / 2 ^ 31 = 0 ∨ r.toBitVec.toNat / 2 ^ 31 = 1 by omega) with q | q
  · exact Or.inl (e _ _ (by rw [h, q]; rfl))
  · exact Or.inr (e _ _ (by rw [h, q]; rfl))
