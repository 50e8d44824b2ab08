def tc (s : Int32) : Nat → Nat
  | 0 => 0
  | k + 1 => tc s k + (Tb s k).toNat
theorem tb_N {s : Int32} {i : Nat} (hi : i < 32) : Tb s i = s.toBitVec.toNat.testBit i := by
  rw [tb_bt hi]
  rfl
theorem su_hi {s : Int32} (h : sub27 s) {i : Nat} (h1 : 27 ≤ i) (h2 : i < 32) : s.toBitVec.toNat.testBit i = false := by
  have e : bt (s &&& 134217727) i = bt s i := by rw [h]
  rw [b_and, bt_al i h2, decide_eq_false (by omega), Bool.and_false] at e
  exact e.symm
theorem by_0 {N k : Nat} (hk : k < 8) : (N % 256).testBit k = N.testBit k := by
  rw [show (256 : Nat) = 2 ^ 8 from rfl, Nat.testBit_mod_two_pow, decide_eq_true hk, Bool.true_and]
theorem by_1 {N m k : Nat} (hk : k < 8) : (N / 2 ^ m % 256).testBit k = N.testBit (k + m) := by
  rw [by_0 hk, Nat.testBit_div_two_pow]
theorem l_tc {s : Int32} (h : sub27 s) : F_JI_bitCount s = some (Int32.ofNat (tc s 27)) := by
  have hN : s.toBitVec.toNat < 4294967296 := s.toBitVec.isLt
  have es : s = Int32.ofNat s.toBitVec.toNat := Int32.toBitVec_inj.mp (by show _ = BitVec.ofNat 32 _; simp)
  have e0 : ∀ i, i < 32 → Tb s i = s.toBitVec.toNat.testBit i := fun i hi => tb_N hi
  have z : ∀ i, 27 ≤ i → i < 32 → s.toBitVec.toNat.testBit i = false := fun i h1 h2 => su_hi h h1 h2
  generalize hg : s.toBitVec.toNat = N at *
  have eb : N = N % 256 + 256 * (N / 2 ^ 8 % 256 + 256 * (N / 2 ^ 16 % 256 + 256 * (N / 2 ^ 24 % 256))) := by omega
  have l := l_bc (n0 := N % 256) (n1 := N / 2 ^ 8 % 256) (n2 := N / 2 ^ 16 % 256) (n3 := N / 2 ^ 24 % 256) (by omega) (by omega) (by omega) (by omega)
  rw [← eb, ← es] at l
  rw [l, pf_2 _ (by omega), pf_2 _ (by omega), pf_2 _ (by omega), pf_2 _ (by omega)]
  congr 2
  unfold bsum
  rw [by_0 (by decide), by_0 (by decide), by_0 (by decide), by_0 (by decide), by_0 (by decide), by_0 (by decide), by_0 (by decide), by_0 (by decide)]
  rw [by_1 (k := 0) (by decide), by_1 (k := 1) (by decide), by_1 (k := 2) (by decide), by_1 (k := 3) (by decide), by_1 (k := 4) (by decide), by_1 (k := 5) (by decide), by_1 (k := 6) (by decide), by_1 (k := 7) (by decide)]
  rw [by_1 (k := 0) (by decide), by_1 (k := 1) (by decide), by_1 (k := 2) (by decide), by_1 (k := 3) (by decide), by_1 (k := 4) (by decide), by_1 (k := 5) (by decide), by_1 (k := 6) (by decide), by_1 (k := 7) (by decide)]
  rw [by_1 (k := 0) (by decide), by_1 (k := 1) (by decide), by_1 (k := 2) (by decide), by_1 (k := 3) (by decide), by_1 (k := 4) (by decide), by_1 (k := 5) (by decide), by_1 (k := 6) (by decide), by_1 (k := 7) (by decide)]
  have z27 := z 27 (by decide) (by decide)
  have z28 := z 28 (by decide) (by decide)
  have z29 := z 29 (by decide) (by decide)
  have z30 := z 30 (by decide) (by decide)
  have z31 := z 31 (by decide) (by decide)
  simp only [tc]
  rw [e0 0 (by decide), e0 1 (by decide), e0 2 (by decide), e0 3 (by decide), e0 4 (by decide), e0 5 (by decide), e0 6 (by decide), e0 7 (by decide), e0 8 (by decide), e0 9 (by decide), e0 10 (by decide), e0 11 (by decide), e0 12 (by decide), e0 13 (by decide), e0 14 (by decide), e0 15 (by decide), e0 16 (by decide), e0 17 (by decide), e0 18 (by decide), e0 19 (by decide), e0 20 (by decide), e0 21 (by decide), e0 22 (by decide), e0 23 (by decide), e0 24 (by decide), e0 25 (by decide), e0 26 (by decide)]
  simp only [Nat.zero_add, Nat.reduceAdd, z27, z28, z29, z30, z31, Bool.toNat_false, Nat.add_zero]
  omega
theorem tc_le (s : Int32) : ∀ k, tc s k ≤ k
  | 0 => Nat.le_refl _
  | k + 1 => by
    have := tc_le s k
    have : (Tb s k).toNat ≤ 1 := by cases Tb s k <;> decide
    show tc s k + (Tb s k).toNat ≤ k + 1
    omega
theorem ne_ar : ∀ o < 27, ∀ t < 27, F_S_areNeighbours (Int32.ofNat o) (Int32.ofNat t) = F_Z_areNear (Int32.ofNat o) (Int32.ofNat t) ∧ (F_Z_areNear (Int32.ofNat o) (Int32.ofNat t) = some 0 ∨ F_Z_areNear (Int32.ofNat o) (Int32.ofNat t) = some 1) := by decide +kernel
theorem mx_d {a b : Int32} : F_JM_max a b = some (if a < b then b else a) := by
  unfold F_JM_max
  by_cases h : a < b <;> simp [h]
theorem dv_t (a : Int32) : (a / 27).toInt = a.toInt.tdiv 27 := by
  have h := Int32.toInt_div_of_ne_right a 27 (by decide)
  exact h
theorem mx_27 {a b : Int32} : (if a < b then b else a) / 27 = if b / 27 ≤ a / 27 then a / 27 else b / 27 := by
  by_cases h : a < b
  · rw [if_pos h]
    by_cases h2 : b / 27 ≤ a / 27
    · rw [if_pos h2]
      apply Int32.toInt_inj.mp
      rw [Int32.le_iff_toInt_le] at h2
      rw [Int32.lt_iff_toInt_lt] at h
      rw [dv_t, dv_t] at h2 ⊢
      have h3 : a.toInt.tdiv 27 ≤ b.toInt.tdiv 27 := Int.tdiv_le_tdiv (by decide) (by omega)
      omega
    · rw [if_neg h2]
  · rw [if_neg h]
    by_cases h2 : b / 27 ≤ a / 27
    · rw [if_pos h2]
    · exfalso
      apply h2
      rw [Int32.le_iff_toInt_le, dv_t, dv_t]
      rw [Int32.lt_iff_toInt_lt] at h
      exact Int.tdiv_le_tdiv (by decide) (by omega)
