theorem pa_nn {n : Nat} (h : n < 2147483648) : (0 : Int32) ≤ Int32.ofNat n := (i32_le (a := 0) (by decide) h).mpr (Nat.zero_le _)
theorem pa_ix {n N : Nat} (h : n < N) (hN : N ≤ 2147483648) : (0 : Int32) ≤ Int32.ofNat n ∧ (Int32.ofNat n).toNatClampNeg < N := ⟨pa_nn (by omega), by rw [i32_nat (by omega)]; exact h⟩
theorem pa_eq {a b : Nat} (ha : a < 2147483648) (hb : b < 2147483648) : Int32.ofNat a = Int32.ofNat b ↔ a = b := ⟨fun h => by rw [← i32_nat ha, h, i32_nat hb], fun h => by rw [h]⟩
theorem pa_of {a : Int32} (h : 0 ≤ a) : a = Int32.ofNat a.toNatClampNeg ∧ a.toNatClampNeg < 2147483648 := by
  have h1 : 0 ≤ a.toInt := by rw [Int32.le_iff_toInt_le] at h; exact h
  have h2 : a.toInt < 2147483648 := Int32.toInt_lt a
  have h3 : a.toNatClampNeg = a.toInt.toNat := rfl
  have h4 : a.toNatClampNeg < 2147483648 := by rw [h3]; omega
  refine ⟨?_, h4⟩
  apply Int32.toInt_inj.mp
  rw [Int32.toInt_ofNat_of_lt h4, h3]
  omega
theorem pa_lt {a : Int32} {N : Nat} (hN : N < 2147483648) (h0 : ¬ a < 0) (h1 : ¬ Int32.ofNat N ≤ a) : ∃ n, n < N ∧ a = Int32.ofNat n := by
  obtain ⟨e, h⟩ := pa_of (Int32.not_lt.mp h0)
  refine ⟨a.toNatClampNeg, ?_, e⟩
  rw [e] at h1
  exact Nat.lt_of_not_le (fun h2 => h1 ((i32_le hN h).mpr h2))
theorem is_o (a : Int32) : (∃ n, n < 27 ∧ a = Int32.ofNat n ∧ F_H_isOffice a = some 1 ∧ F_Z_isOffice a = some 1) ∨ (F_H_isOffice a = some 0 ∧ F_Z_isOffice a = some 0) := by
  unfold F_H_isOffice F_Z_isOffice
  by_cases h0 : a < 0
  · exact Or.inr ⟨if_pos h0, if_pos h0⟩
  · by_cases h1 : 27 ≤ a
    · exact Or.inr ⟨by rw [if_neg h0, if_pos h1], by rw [if_neg h0, if_pos h1]⟩
    · obtain ⟨n, hn, e⟩ := pa_lt (N := 27) (by decide) h0 h1
      exact Or.inl ⟨n, hn, e, by rw [if_neg h0, if_neg h1], by rw [if_neg h0, if_neg h1]⟩
theorem is_n (a : Int32) : (∃ n, n < 6 ∧ a = Int32.ofNat n ∧ F_H_isNumber a = some 1 ∧ F_Z_isNumber a = some 1) ∨ (F_H_isNumber a = some 0 ∧ F_Z_isNumber a = some 0) := by
  unfold F_H_isNumber F_Z_isNumber
  by_cases h0 : a < 0
  · exact Or.inr ⟨if_pos h0, if_pos h0⟩
  · by_cases h1 : 6 ≤ a
    · exact Or.inr ⟨by rw [if_neg h0, if_pos h1], by rw [if_neg h0, if_pos h1]⟩
    · obtain ⟨n, hn, e⟩ := pa_lt (N := 6) (by decide) h0 h1
      exact Or.inl ⟨n, hn, e, by rw [if_neg h0, if_neg h1], by rw [if_neg h0, if_neg h1]⟩
def bi (s : Int32) (c : Nat) : Int32 := (s >>> (Int32.ofNat c &&& 31)) &&& 1
theorem an_1 (x : Int32) : x &&& 1 = 0 ∨ x &&& 1 = 1 := by
  have h : x.toBitVec &&& 1#32 = 0#32 ∨ x.toBitVec &&& 1#32 = 1#32 := by
    by_cases hb : x.toBitVec.getLsbD 0 = true
    · right
      apply BitVec.eq_of_getLsbD_eq
      intro i hi
      rw [BitVec.getLsbD_and]
      by_cases h0 : i = 0
      · subst h0; simp [hb]
      · simp [BitVec.getLsbD_one, h0]
    · left
      apply BitVec.eq_of_getLsbD_eq
      intro i hi
      rw [BitVec.getLsbD_and]
      by_cases h0 : i = 0
      · subst h0; simp; simpa using hb
      · simp [BitVec.getLsbD_one, h0]
  rcases h with h | h
  · exact Or.inl (Int32.toBitVec_inj.mp h)
  · exact Or.inr (Int32.toBitVec_inj.mp h)
theorem bi_01 (s : Int32) (c : Nat) : bi s c = 0 ∨ bi s c = 1 := an_1 _
theorem sh_0 : ∀ d < 9, ∀ o < 27, (3 * Int32.ofNat d) + ((Int32.ofNat o + 0) - (Int32.ofNat o + 0) / 3 * 3) = Int32.ofNat (3 * d + o % 3) := by decide +kernel
theorem sh_1 : ∀ d < 9, ∀ o < 27, (3 * Int32.ofNat d) + ((Int32.ofNat o + (0 + 1)) - (Int32.ofNat o + (0 + 1)) / 3 * 3) = Int32.ofNat (3 * d + (o + 1) % 3) := by decide +kernel
theorem sh_2 : ∀ d < 9, ∀ o < 27, (3 * Int32.ofNat d) + ((Int32.ofNat o + (0 + 1 + 1)) - (Int32.ofNat o + (0 + 1 + 1)) / 3 * 3) = Int32.ofNat (3 * d + (o + 2) % 3) := by decide +kernel
theorem sh_d : ∀ d < 9, 3 * Int32.ofNat d = Int32.ofNat (3 * d) ∧ 3 * Int32.ofNat d + 1 = Int32.ofNat (3 * d + 1) ∧ 3 * Int32.ofNat d + 2 = Int32.ofNat (3 * d + 2) := by decide +kernel
theorem q3_0 : ¬ (3 : Int32) ≤ 0 := by decide
theorem q3_1 : ¬ (3 : Int32) ≤ (0 + 1) := by decide
theorem q3_2 : ¬ (3 : Int32) ≤ (0 + 1 + 1) := by decide
theorem q3_3 : (3 : Int32) ≤ (0 + 1 + 1 + 1) := by decide
theorem q2_0 : ¬ (2 : Int32) ≤ 0 := by decide
theorem q2_1 : ¬ (2 : Int32) ≤ (0 + 1) := by decide
theorem q2_2 : (2 : Int32) ≤ (0 + 1 + 1) := by decide
theorem q2_3 : (2 : Int32) ≤ (0 + 1 + 1 + 1) := by decide
theorem qe_0 : ¬ (0 : Int32) = 2 := by decide
theorem qe_1 : ¬ ((0 + 1) : Int32) = 2 := by decide
theorem qe_3 : ¬ ((0 + 1 + 1 + 1) : Int32) = 2 := by decide
theorem qe_2 : ((0 + 1 + 1) : Int32) = 2 := by decide
theorem q1_0 : (0 : Int32) ≤ 1 := by decide
theorem q1_1 : ((0 + 1) : Int32) ≤ 1 := by decide
theorem q1_2 : ¬ ((0 + 1 + 1) : Int32) ≤ 1 := by decide
theorem q1_3 : ¬ ((0 + 1 + 1 + 1) : Int32) ≤ 1 := by decide
theorem bs_s {α γ : Type} {a : α} {f : α → Option γ} : bs_ (some a) f = f a := rfl
theorem bd_s {α β γ : Type} {a : α} {b : β} {f : α → β → Option γ} : bd_ (some (a, b)) f = f a b := rfl
theorem nm_s {α β : Type} {a : α} {f : α → β} : nm_ a f = f a := rfl
def c3 (t0 t1 t2 : Bool) (v0 v1 v2 : Int32) : Int32 := if t0 then (if t1 then 0 ||| v0 ||| v1 else if t2 then 0 ||| v0 ||| v2 else 0) else (if t1 then (if t2 then 0 ||| v1 ||| v2 else 0) else 0)
def d3 (t0 t1 t2 : Bool) (v0 v1 v2 : Int32) : Int32 := if t0 then (if t1 then 0 ||| v0 ||| v1 else if t2 then 0 ||| v0 ||| v2 else 0 ||| v0) else (if t1 then (if t2 then 0 ||| v1 ||| v2 else 0 ||| v1) else if t2 then 0 ||| v2 else 0)
def n3 (t0 t1 t2 : Bool) : Nat := (if t0 then 1 else 0) + (if t1 then 1 else 0) + (if t2 then 1 else 0)
theorem un_pd {s : Int32} {d o : Nat} (hd : d < 9) (ho : o < 27) : F_S_pickInDistrict s (Int32.ofNat d) (Int32.ofNat o) = some (c3 (decide ¬ (s >>> (Int32.ofNat (3 * d + o % 3) &&& 31) &&& 1 = 0)) (decide ¬ (s >>> (Int32.ofNat (3 * d + (o + 1) % 3) &&& 31) &&& 1 = 0)) (decide ¬ (s >>> (Int32.ofNat (3 * d + (o + 2) % 3) &&& 31) &&& 1 = 0)) ((1 : Int32) <<< (Int32.ofNat (3 * d + o % 3) &&& 31)) ((1 : Int32) <<< (Int32.ofNat (3 * d + (o + 1) % 3) &&& 31)) ((1 : Int32) <<< (Int32.ofNat (3 * d + (o + 2) % 3) &&& 31))) := by
  unfold F_S_pickInDistrict
  by_cases h0 : s >>> (Int32.ofNat (3 * d + o % 3) &&& 31) &&& 1 = 0
  · by_cases h1 : s >>> (Int32.ofNat (3 * d + (o + 1) % 3) &&& 31) &&& 1 = 0
    · by_cases h2 : s >>> (Int32.ofNat (3 * d + (o + 2) % 3) &&& 31) &&& 1 = 0
      · rw [Fl_S_pickInDistrict_8, if_neg q3_0, if_neg q2_0, sh_0 d hd o ho, nm_s, if_pos h0]
        rw [Fl_S_pickInDistrict_8, if_neg q3_1, if_neg q2_0, sh_1 d hd o ho, nm_s, if_pos h1]
        rw [Fl_S_pickInDistrict_8, if_neg q3_2, if_neg q2_0, sh_2 d hd o ho, nm_s, if_pos h2]
        rw [Fl_S_pickInDistrict_8, if_pos q3_3, Fj_S_pickInDistrict_57, if_neg qe_0]
        simp only [c3, h0, h1, h2, not_true_eq_false, not_false_eq_true, decide_true, decide_false, Bool.false_eq_true, ↓reduceIte]
      · rw [Fl_S_pickInDistrict_8, if_neg q3_0, if_neg q2_0, sh_0 d hd o ho, nm_s, if_pos h0]
        rw [Fl_S_pickInDistrict_8, if_neg q3_1, if_neg q2_0, sh_1 d hd o ho, nm_s, if_pos h1]
        rw [Fl_S_pickInDistrict_8, if_neg q3_2, if_neg q2_0, sh_2 d hd o ho, nm_s, if_neg h2]
        rw [Fl_S_pickInDistrict_8, if_pos q3_3, Fj_S_pickInDistrict_57, if_neg qe_1]
        simp only [c3, h0, h1, h2, not_true_eq_false, not_false_eq_true, decide_true, decide_false, Bool.false_eq_true, ↓reduceIte]
    · by_cases h2 : s >>> (Int32.ofNat (3 * d + (o + 2) % 3) &&& 31) &&& 1 = 0
      · rw [Fl_S_pickInDistrict_8, if_neg q3_0, if_neg q2_0, sh_0 d hd o ho, nm_s, if_pos h0]
        rw [Fl_S_pickInDistrict_8, if_neg q3_1, if_neg q2_0, sh_1 d hd o ho, nm_s, if_neg h1]
        rw [Fl_S_pickInDistrict_8, if_neg q3_2, if_neg q2_1, sh_2 d hd o ho, nm_s, if_pos h2]
        rw [Fl_S_pickInDistrict_8, if_pos q3_3, Fj_S_pickInDistrict_57, if_neg qe_1]
        simp only [c3, h0, h1, h2, not_true_eq_false, not_false_eq_true, decide_true, decide_false, Bool.false_eq_true, ↓reduceIte]
      · rw [Fl_S_pickInDistrict_8, if_neg q3_0, if_neg q2_0, sh_0 d hd o ho, nm_s, if_pos h0]
        rw [Fl_S_pickInDistrict_8, if_neg q3_1, if_neg q2_0, sh_1 d hd o ho, nm_s, if_neg h1]
        rw [Fl_S_pickInDistrict_8, if_neg q3_2, if_neg q2_1, sh_2 d hd o ho, nm_s, if_neg h2]
        rw [Fl_S_pickInDistrict_8, if_pos q3_3, Fj_S_pickInDistrict_57, if_pos qe_2]
        simp only [c3, h0, h1, h2, not_true_eq_false, not_false_eq_true, decide_true, decide_false, Bool.false_eq_true, ↓reduceIte]
  · by_cases h1 : s >>> (Int32.ofNat (3 * d + (o + 1) % 3) &&& 31) &&& 1 = 0
    · by_cases h2 : s >>> (Int32.ofNat (3 * d + (o + 2) % 3) &&& 31) &&& 1 = 0
      · rw [Fl_S_pickInDistrict_8, if_neg q3_0, if_neg q2_0, sh_0 d hd o ho, nm_s, if_neg h0]
        rw [Fl_S_pickInDistrict_8, if_neg q3_1, if_neg q2_1, sh_1 d hd o ho, nm_s, if_pos h1]
        rw [Fl_S_pickInDistrict_8, if_neg q3_2, if_neg q2_1, sh_2 d hd o ho, nm_s, if_pos h2]
        rw [Fl_S_pickInDistrict_8, if_pos q3_3, Fj_S_pickInDistrict_57, if_neg qe_1]
        simp only [c3, h0, h1, h2, not_true_eq_false, not_false_eq_true, decide_true, decide_false, Bool.false_eq_true, ↓reduceIte]
      · rw [Fl_S_pickInDistrict_8, if_neg q3_0, if_neg q2_0, sh_0 d hd o ho, nm_s, if_neg h0]
        rw [Fl_S_pickInDistrict_8, if_neg q3_1, if_neg q2_1, sh_1 d hd o ho, nm_s, if_pos h1]
        rw [Fl_S_pickInDistrict_8, if_neg q3_2, if_neg q2_1, sh_2 d hd o ho, nm_s, if_neg h2]
        rw [Fl_S_pickInDistrict_8, if_pos q3_3, Fj_S_pickInDistrict_57, if_pos qe_2]
        simp only [c3, h0, h1, h2, not_true_eq_false, not_false_eq_true, decide_true, decide_false, Bool.false_eq_true, ↓reduceIte]
    · by_cases h2 : s >>> (Int32.ofNat (3 * d + (o + 2) % 3) &&& 31) &&& 1 = 0
      · rw [Fl_S_pickInDistrict_8, if_neg q3_0, if_neg q2_0, sh_0 d hd o ho, nm_s, if_neg h0]
        rw [Fl_S_pickInDistrict_8, if_neg q3_1, if_neg q2_1, sh_1 d hd o ho, nm_s, if_neg h1]
        rw [Fl_S_pickInDistrict_8, if_neg q3_2, if_pos q2_2, Fj_S_pickInDistrict_57, if_pos qe_2]
        simp only [c3, h0, h1, h2, not_true_eq_false, not_false_eq_true, decide_true, decide_false, Bool.false_eq_true, ↓reduceIte]
      · rw [Fl_S_pickInDistrict_8, if_neg q3_0, if_neg q2_0, sh_0 d hd o ho, nm_s, if_neg h0]
        rw [Fl_S_pickInDistrict_8, if_neg q3_1, if_neg q2_1, sh_1 d hd o ho, nm_s, if_neg h1]
        rw [Fl_S_pickInDistrict_8, if_neg q3_2, if_pos q2_2, Fj_S_pickInDistrict_57, if_pos qe_2]
        simp only [c3, h0, h1, h2, not_true_eq_false, not_false_eq_true, decide_true, decide_false, Bool.false_eq_true, ↓reduceIte]
theorem un_pr {s x o r0 r1 r2 : Int32} (e0 : F_S_pickInDistrict s ((3 * x) + (((o / 3) + 0) - ((o / 3) + 0) / 3 * 3)) o = some r0) (e1 : F_S_pickInDistrict s ((3 * x) + (((o / 3) + (0 + 1)) - ((o / 3) + (0 + 1)) / 3 * 3)) o = some r1) (e2 : F_S_pickInDistrict s ((3 * x) + (((o / 3) + (0 + 1 + 1)) - ((o / 3) + (0 + 1 + 1)) / 3 * 3)) o = some r2) : F_S_pickInRegion s x o = some (c3 (decide ¬ (r0 = 0)) (decide ¬ (r1 = 0)) (decide ¬ (r2 = 0)) r0 r1 r2) := by
  unfold F_S_pickInRegion
  by_cases h0 : r0 = 0
  · by_cases h1 : r1 = 0
    · by_cases h2 : r2 = 0
      · rw [Fl_S_pickInRegion_8, if_neg q3_0, if_neg q2_0, e0, bs_s, if_pos h0]
        rw [Fl_S_pickInRegion_8, if_neg q3_1, if_neg q2_0, e1, bs_s, if_pos h1]
        rw [Fl_S_pickInRegion_8, if_neg q3_2, if_neg q2_0, e2, bs_s, if_pos h2]
        rw [Fl_S_pickInRegion_8, if_pos q3_3, Fj_S_pickInRegion_58, if_neg qe_0]
        simp only [c3, h0, h1, h2, not_true_eq_false, not_false_eq_true, decide_true, decide_false, Bool.false_eq_true, ↓reduceIte]
      · rw [Fl_S_pickInRegion_8, if_neg q3_0, if_neg q2_0, e0, bs_s, if_pos h0]
        rw [Fl_S_pickInRegion_8, if_neg q3_1, if_neg q2_0, e1, bs_s, if_pos h1]
        rw [Fl_S_pickInRegion_8, if_neg q3_2, if_neg q2_0, e2, bs_s, if_neg h2]
        rw [Fl_S_pickInRegion_8, if_pos q3_3, Fj_S_pickInRegion_58, if_neg qe_1]
        simp only [c3, h0, h1, h2, not_true_eq_false, not_false_eq_true, decide_true, decide_false, Bool.false_eq_true, ↓reduceIte]
    · by_cases h2 : r2 = 0
      · rw [Fl_S_pickInRegion_8, if_neg q3_0, if_neg q2_0, e0, bs_s, if_pos h0]
        rw [Fl_S_pickInRegion_8, if_neg q3_1, if_neg q2_0, e1, bs_s, if_neg h1]
        rw [Fl_S_pickInRegion_8, if_neg q3_2, if_neg q2_1, e2, bs_s, if_pos h2]
        rw [Fl_S_pickInRegion_8, if_pos q3_3, Fj_S_pickInRegion_58, if_neg qe_1]
        simp only [c3, h0, h1, h2, not_true_eq_false, not_false_eq_true, decide_true, decide_false, Bool.false_eq_true, ↓reduceIte]
      · rw [Fl_S_pickInRegion_8, if_neg q3_0, if_neg q2_0, e0, bs_s, if_pos h0]
        rw [Fl_S_pickInRegion_8, if_neg q3_1, if_neg q2_0, e1, bs_s, if_neg h1]
        rw [Fl_S_pickInRegion_8, if_neg q3_2, if_neg q2_1, e2, bs_s, if_neg h2]
        rw [Fl_S_pickInRegion_8, if_pos q3_3, Fj_S_pickInRegion_58, if_pos qe_2]
        simp only [c3, h0, h1, h2, not_true_eq_false, not_false_eq_true, decide_true, decide_false, Bool.false_eq_true, ↓reduceIte]
  · by_cases h1 : r1 = 0
    · by_cases h2 : r2 = 0
      · rw [Fl_S_pickInRegion_8, if_neg q3_0, if_neg q2_0, e0, bs_s, if_neg h0]
        rw [Fl_S_pickInRegion_8, if_neg q3_1, if_neg q2_1, e1, bs_s, if_pos h1]
        rw [Fl_S_pickInRegion_8, if_neg q3_2, if_neg q2_1, e2, bs_s, if_pos h2]
        rw [Fl_S_pickInRegion_8, if_pos q3_3, Fj_S_pickInRegion_58, if_neg qe_1]
        simp only [c3, h0, h1, h2, not_true_eq_false, not_false_eq_true, decide_true, decide_false, Bool.false_eq_true, ↓reduceIte]
      · rw [Fl_S_pickInRegion_8, if_neg q3_0, if_neg q2_0, e0, bs_s, if_neg h0]
        rw [Fl_S_pickInRegion_8, if_neg q3_1, if_neg q2_1, e1, bs_s, if_pos h1]
        rw [Fl_S_pickInRegion_8, if_neg q3_2, if_neg q2_1, e2, bs_s, if_neg h2]
        rw [Fl_S_pickInRegion_8, if_pos q3_3, Fj_S_pickInRegion_58, if_pos qe_2]
        simp only [c3, h0, h1, h2, not_true_eq_false, not_false_eq_true, decide_true, decide_false, Bool.false_eq_true, ↓reduceIte]
    · by_cases h2 : r2 = 0
      · rw [Fl_S_pickInRegion_8, if_neg q3_0, if_neg q2_0, e0, bs_s, if_neg h0]
        rw [Fl_S_pickInRegion_8, if_neg q3_1, if_neg q2_1, e1, bs_s, if_neg h1]
        rw [Fl_S_pickInRegion_8, if_neg q3_2, if_pos q2_2, Fj_S_pickInRegion_58, if_pos qe_2]
        simp only [c3, h0, h1, h2, not_true_eq_false, not_false_eq_true, decide_true, decide_false, Bool.false_eq_true, ↓reduceIte]
      · rw [Fl_S_pickInRegion_8, if_neg q3_0, if_neg q2_0, e0, bs_s, if_neg h0]
        rw [Fl_S_pickInRegion_8, if_neg q3_1, if_neg q2_1, e1, bs_s, if_neg h1]
        rw [Fl_S_pickInRegion_8, if_neg q3_2, if_pos q2_2, Fj_S_pickInRegion_58, if_pos qe_2]
        simp only [c3, h0, h1, h2, not_true_eq_false, not_false_eq_true, decide_true, decide_false, Bool.false_eq_true, ↓reduceIte]
theorem un_pk {s o r0 r1 r2 : Int32} (e0 : F_S_pickInRegion s (((o / 9) + 0) - ((o / 9) + 0) / 3 * 3) o = some r0) (e1 : F_S_pickInRegion s (((o / 9) + (0 + 1)) - ((o / 9) + (0 + 1)) / 3 * 3) o = some r1) (e2 : F_S_pickInRegion s (((o / 9) + (0 + 1 + 1)) - ((o / 9) + (0 + 1 + 1)) / 3 * 3) o = some r2) : F_S_pick s o = some (c3 (decide ¬ (r0 = 0)) (decide ¬ (r1 = 0)) (decide ¬ (r2 = 0)) r0 r1 r2) := by
  unfold F_S_pick
  by_cases h0 : r0 = 0
  · by_cases h1 : r1 = 0
    · by_cases h2 : r2 = 0
      · rw [Fl_S_pick_7, if_neg q3_0, if_neg q2_0, e0, bs_s, if_pos h0]
        rw [Fl_S_pick_7, if_neg q3_1, if_neg q2_0, e1, bs_s, if_pos h1]
        rw [Fl_S_pick_7, if_neg q3_2, if_neg q2_0, e2, bs_s, if_pos h2]
        rw [Fl_S_pick_7, if_pos q3_3, Fj_S_pick_53, if_neg qe_0]
        simp only [c3, h0, h1, h2, not_true_eq_false, not_false_eq_true, decide_true, decide_false, Bool.false_eq_true, ↓reduceIte]
      · rw [Fl_S_pick_7, if_neg q3_0, if_neg q2_0, e0, bs_s, if_pos h0]
        rw [Fl_S_pick_7, if_neg q3_1, if_neg q2_0, e1, bs_s, if_pos h1]
        rw [Fl_S_pick_7, if_neg q3_2, if_neg q2_0, e2, bs_s, if_neg h2]
        rw [Fl_S_pick_7, if_pos q3_3, Fj_S_pick_53, if_neg qe_1]
        simp only [c3, h0, h1, h2, not_true_eq_false, not_false_eq_true, decide_true, decide_false, Bool.false_eq_true, ↓reduceIte]
    · by_cases h2 : r2 = 0
      · rw [Fl_S_pick_7, if_neg q3_0, if_neg q2_0, e0, bs_s, if_pos h0]
        rw [Fl_S_pick_7, if_neg q3_1, if_neg q2_0, e1, bs_s, if_neg h1]
        rw [Fl_S_pick_7, if_neg q3_2, if_neg q2_1, e2, bs_s, if_pos h2]
        rw [Fl_S_pick_7, if_pos q3_3, Fj_S_pick_53, if_neg qe_1]
        simp only [c3, h0, h1, h2, not_true_eq_false, not_false_eq_true, decide_true, decide_false, Bool.false_eq_true, ↓reduceIte]
      · rw [Fl_S_pick_7, if_neg q3_0, if_neg q2_0, e0, bs_s, if_pos h0]
        rw [Fl_S_pick_7, if_neg q3_1, if_neg q2_0, e1, bs_s, if_neg h1]
        rw [Fl_S_pick_7, if_neg q3_2, if_neg q2_1, e2, bs_s, if_neg h2]
        rw [Fl_S_pick_7, if_pos q3_3, Fj_S_pick_53, if_pos qe_2]
        simp only [c3, h0, h1, h2, not_true_eq_false, not_false_eq_true, decide_true, decide_false, Bool.false_eq_true, ↓reduceIte]
  · by_cases h1 : r1 = 0
    · by_cases h2 : r2 = 0
      · rw [Fl_S_pick_7, if_neg q3_0, if_neg q2_0, e0, bs_s, if_neg h0]
        rw [Fl_S_pick_7, if_neg q3_1, if_neg q2_1, e1, bs_s, if_pos h1]
        rw [Fl_S_pick_7, if_neg q3_2, if_neg q2_1, e2, bs_s, if_pos h2]
        rw [Fl_S_pick_7, if_pos q3_3, Fj_S_pick_53, if_neg qe_1]
        simp only [c3, h0, h1, h2, not_true_eq_false, not_false_eq_true, decide_true, decide_false, Bool.false_eq_true, ↓reduceIte]
      · rw [Fl_S_pick_7, if_neg q3_0, if_neg q2_0, e0, bs_s, if_neg h0]
        rw [Fl_S_pick_7, if_neg q3_1, if_neg q2_1, e1, bs_s, if_pos h1]
        rw [Fl_S_pick_7, if_neg q3_2, if_neg q2_1, e2, bs_s, if_neg h2]
        rw [Fl_S_pick_7, if_pos q3_3, Fj_S_pick_53, if_pos qe_2]
        simp only [c3, h0, h1, h2, not_true_eq_false, not_false_eq_true, decide_true, decide_false, Bool.false_eq_true, ↓reduceIte]
    · by_cases h2 : r2 = 0
      · rw [Fl_S_pick_7, if_neg q3_0, if_neg q2_0, e0, bs_s, if_neg h0]
        rw [Fl_S_pick_7, if_neg q3_1, if_neg q2_1, e1, bs_s, if_neg h1]
        rw [Fl_S_pick_7, if_neg q3_2, if_pos q2_2, Fj_S_pick_53, if_pos qe_2]
        simp only [c3, h0, h1, h2, not_true_eq_false, not_false_eq_true, decide_true, decide_false, Bool.false_eq_true, ↓reduceIte]
      · rw [Fl_S_pick_7, if_neg q3_0, if_neg q2_0, e0, bs_s, if_neg h0]
        rw [Fl_S_pick_7, if_neg q3_1, if_neg q2_1, e1, bs_s, if_neg h1]
        rw [Fl_S_pick_7, if_neg q3_2, if_pos q2_2, Fj_S_pick_53, if_pos qe_2]
        simp only [c3, h0, h1, h2, not_true_eq_false, not_false_eq_true, decide_true, decide_false, Bool.false_eq_true, ↓reduceIte]
def k3 (t0 t1 t2 : Bool) : Int32 := if t0 then (if t1 then (if t2 then 0 + 1 + 1 + 1 else 0 + 1 + 1) else if t2 then 0 + 1 + 1 else 0 + 1) else (if t1 then (if t2 then 0 + 1 + 1 else 0 + 1) else if t2 then 0 + 1 else 0)
theorem un_to {s : Int32} {d o : Nat} (hd : d < 9) (ho : o < 27) : F_Z_twoOffices s (Int32.ofNat d) (Int32.ofNat o) = some (d3 (decide (s >>> (Int32.ofNat (3 * d + o % 3) &&& 31) &&& 1 = 1)) (decide (s >>> (Int32.ofNat (3 * d + (o + 1) % 3) &&& 31) &&& 1 = 1)) (decide (s >>> (Int32.ofNat (3 * d + (o + 2) % 3) &&& 31) &&& 1 = 1)) ((1 : Int32) <<< (Int32.ofNat (3 * d + o % 3) &&& 31)) ((1 : Int32) <<< (Int32.ofNat (3 * d + (o + 1) % 3) &&& 31)) ((1 : Int32) <<< (Int32.ofNat (3 * d + (o + 2) % 3) &&& 31))) := by
  unfold F_Z_twoOffices
  by_cases h0 : s >>> (Int32.ofNat (3 * d + o % 3) &&& 31) &&& 1 = 1
  · by_cases h1 : s >>> (Int32.ofNat (3 * d + (o + 1) % 3) &&& 31) &&& 1 = 1
    · by_cases h2 : s >>> (Int32.ofNat (3 * d + (o + 2) % 3) &&& 31) &&& 1 = 1
      · rw [Fl_Z_twoOffices_8, if_neg q3_0, sh_0 d hd o ho, nm_s, if_pos h0, if_neg q2_0]
        rw [Fl_Z_twoOffices_8, if_neg q3_1, sh_1 d hd o ho, nm_s, if_pos h1, if_neg q2_1]
        rw [Fl_Z_twoOffices_8, if_neg q3_2, sh_2 d hd o ho, nm_s, if_pos h2, if_pos q2_2]
        rw [Fl_Z_twoOffices_8, if_pos q3_3]
        simp only [d3, h0, h1, h2, not_true_eq_false, not_false_eq_true, decide_true, decide_false, Bool.false_eq_true, ↓reduceIte]
      · rw [Fl_Z_twoOffices_8, if_neg q3_0, sh_0 d hd o ho, nm_s, if_pos h0, if_neg q2_0]
        rw [Fl_Z_twoOffices_8, if_neg q3_1, sh_1 d hd o ho, nm_s, if_pos h1, if_neg q2_1]
        rw [Fl_Z_twoOffices_8, if_neg q3_2, sh_2 d hd o ho, nm_s, if_neg h2]
        rw [Fl_Z_twoOffices_8, if_pos q3_3]
        simp only [d3, h0, h1, h2, not_true_eq_false, not_false_eq_true, decide_true, decide_false, Bool.false_eq_true, ↓reduceIte]
    · by_cases h2 : s >>> (Int32.ofNat (3 * d + (o + 2) % 3) &&& 31) &&& 1 = 1
      · rw [Fl_Z_twoOffices_8, if_neg q3_0, sh_0 d hd o ho, nm_s, if_pos h0, if_neg q2_0]
        rw [Fl_Z_twoOffices_8, if_neg q3_1, sh_1 d hd o ho, nm_s, if_neg h1]
        rw [Fl_Z_twoOffices_8, if_neg q3_2, sh_2 d hd o ho, nm_s, if_pos h2, if_neg q2_1]
        rw [Fl_Z_twoOffices_8, if_pos q3_3]
        simp only [d3, h0, h1, h2, not_true_eq_false, not_false_eq_true, decide_true, decide_false, Bool.false_eq_true, ↓reduceIte]
      · rw [Fl_Z_twoOffices_8, if_neg q3_0, sh_0 d hd o ho, nm_s, if_pos h0, if_neg q2_0]
        rw [Fl_Z_twoOffices_8, if_neg q3_1, sh_1 d hd o ho, nm_s, if_neg h1]
        rw [Fl_Z_twoOffices_8, if_neg q3_2, sh_2 d hd o ho, nm_s, if_neg h2]
        rw [Fl_Z_twoOffices_8, if_pos q3_3]
        simp only [d3, h0, h1, h2, not_true_eq_false, not_false_eq_true, decide_true, decide_false, Bool.false_eq_true, ↓reduceIte]
  · by_cases h1 : s >>> (Int32.ofNat (3 * d + (o + 1) % 3) &&& 31) &&& 1 = 1
    · by_cases h2 : s >>> (Int32.ofNat (3 * d + (o + 2) % 3) &&& 31) &&& 1 = 1
      · rw [Fl_Z_twoOffices_8, if_neg q3_0, sh_0 d hd o ho, nm_s, if_neg h0]
        rw [Fl_Z_twoOffices_8, if_neg q3_1, sh_1 d hd o ho, nm_s, if_pos h1, if_neg q2_0]
        rw [Fl_Z_twoOffices_8, if_neg q3_2, sh_2 d hd o ho, nm_s, if_pos h2, if_neg q2_1]
        rw [Fl_Z_twoOffices_8, if_pos q3_3]
        simp only [d3, h0, h1, h2, not_true_eq_false, not_false_eq_true, decide_true, decide_false, Bool.false_eq_true, ↓reduceIte]
      · rw [Fl_Z_twoOffices_8, if_neg q3_0, sh_0 d hd o ho, nm_s, if_neg h0]
        rw [Fl_Z_twoOffices_8, if_neg q3_1, sh_1 d hd o ho, nm_s, if_pos h1, if_neg q2_0]
        rw [Fl_Z_twoOffices_8, if_neg q3_2, sh_2 d hd o ho, nm_s, if_neg h2]
        rw [Fl_Z_twoOffices_8, if_pos q3_3]
        simp only [d3, h0, h1, h2, not_true_eq_false, not_false_eq_true, decide_true, decide_false, Bool.false_eq_true, ↓reduceIte]
    · by_cases h2 : s >>> (Int32.ofNat (3 * d + (o + 2) % 3) &&& 31) &&& 1 = 1
      · rw [Fl_Z_twoOffices_8, if_neg q3_0, sh_0 d hd o ho, nm_s, if_neg h0]
        rw [Fl_Z_twoOffices_8, if_neg q3_1, sh_1 d hd o ho, nm_s, if_neg h1]
        rw [Fl_Z_twoOffices_8, if_neg q3_2, sh_2 d hd o ho, nm_s, if_pos h2, if_neg q2_0]
        rw [Fl_Z_twoOffices_8, if_pos q3_3]
        simp only [d3, h0, h1, h2, not_true_eq_false, not_false_eq_true, decide_true, decide_false, Bool.false_eq_true, ↓reduceIte]
      · rw [Fl_Z_twoOffices_8, if_neg q3_0, sh_0 d hd o ho, nm_s, if_neg h0]
        rw [Fl_Z_twoOffices_8, if_neg q3_1, sh_1 d hd o ho, nm_s, if_neg h1]
        rw [Fl_Z_twoOffices_8, if_neg q3_2, sh_2 d hd o ho, nm_s, if_neg h2]
        rw [Fl_Z_twoOffices_8, if_pos q3_3]
        simp only [d3, h0, h1, h2, not_true_eq_false, not_false_eq_true, decide_true, decide_false, Bool.false_eq_true, ↓reduceIte]
theorem un_td {s x y p v0 v1 v2 w0 w1 w2 : Int32} (i0 : F_Z_inDistrict s ((3 * x) + ((y + 0) - (y + 0) / 3 * 3)) = some v0) (o0 : F_Z_twoOffices s ((3 * x) + ((y + 0) - (y + 0) / 3 * 3)) p = some w0) (i1 : F_Z_inDistrict s ((3 * x) + ((y + (0 + 1)) - (y + (0 + 1)) / 3 * 3)) = some v1) (o1 : F_Z_twoOffices s ((3 * x) + ((y + (0 + 1)) - (y + (0 + 1)) / 3 * 3)) p = some w1) (i2 : F_Z_inDistrict s ((3 * x) + ((y + (0 + 1 + 1)) - (y + (0 + 1 + 1)) / 3 * 3)) = some v2) (o2 : F_Z_twoOffices s ((3 * x) + ((y + (0 + 1 + 1)) - (y + (0 + 1 + 1)) / 3 * 3)) p = some w2) : F_Z_twoDistricts s x y p = some (d3 (decide ¬ (v0 ≤ 1)) (decide ¬ (v1 ≤ 1)) (decide ¬ (v2 ≤ 1)) w0 w1 w2) := by
  unfold F_Z_twoDistricts
  by_cases h0 : v0 ≤ 1
  · by_cases h1 : v1 ≤ 1
    · by_cases h2 : v2 ≤ 1
      · rw [Fl_Z_twoDistricts_9, if_neg q3_0, nm_s, i0, bs_s, if_pos h0]
        rw [Fl_Z_twoDistricts_9, if_neg q3_1, nm_s, i1, bs_s, if_pos h1]
        rw [Fl_Z_twoDistricts_9, if_neg q3_2, nm_s, i2, bs_s, if_pos h2]
        rw [Fl_Z_twoDistricts_9, if_pos q3_3]
        simp only [d3, h0, h1, h2, not_true_eq_false, not_false_eq_true, decide_true, decide_false, Bool.false_eq_true, ↓reduceIte]
      · rw [Fl_Z_twoDistricts_9, if_neg q3_0, nm_s, i0, bs_s, if_pos h0]
        rw [Fl_Z_twoDistricts_9, if_neg q3_1, nm_s, i1, bs_s, if_pos h1]
        rw [Fl_Z_twoDistricts_9, if_neg q3_2, nm_s, i2, bs_s, if_neg h2, if_neg q2_0, o2, bs_s]
        rw [Fl_Z_twoDistricts_9, if_pos q3_3]
        simp only [d3, h0, h1, h2, not_true_eq_false, not_false_eq_true, decide_true, decide_false, Bool.false_eq_true, ↓reduceIte]
    · by_cases h2 : v2 ≤ 1
      · rw [Fl_Z_twoDistricts_9, if_neg q3_0, nm_s, i0, bs_s, if_pos h0]
        rw [Fl_Z_twoDistricts_9, if_neg q3_1, nm_s, i1, bs_s, if_neg h1, if_neg q2_0, o1, bs_s]
        rw [Fl_Z_twoDistricts_9, if_neg q3_2, nm_s, i2, bs_s, if_pos h2]
        rw [Fl_Z_twoDistricts_9, if_pos q3_3]
        simp only [d3, h0, h1, h2, not_true_eq_false, not_false_eq_true, decide_true, decide_false, Bool.false_eq_true, ↓reduceIte]
      · rw [Fl_Z_twoDistricts_9, if_neg q3_0, nm_s, i0, bs_s, if_pos h0]
        rw [Fl_Z_twoDistricts_9, if_neg q3_1, nm_s, i1, bs_s, if_neg h1, if_neg q2_0, o1, bs_s]
        rw [Fl_Z_twoDistricts_9, if_neg q3_2, nm_s, i2, bs_s, if_neg h2, if_neg q2_1, o2, bs_s]
        rw [Fl_Z_twoDistricts_9, if_pos q3_3]
        simp only [d3, h0, h1, h2, not_true_eq_false, not_false_eq_true, decide_true, decide_false, Bool.false_eq_true, ↓reduceIte]
  · by_cases h1 : v1 ≤ 1
    · by_cases h2 : v2 ≤ 1
      · rw [Fl_Z_twoDistricts_9, if_neg q3_0, nm_s, i0, bs_s, if_neg h0, if_neg q2_0, o0, bs_s]
        rw [Fl_Z_twoDistricts_9, if_neg q3_1, nm_s, i1, bs_s, if_pos h1]
        rw [Fl_Z_twoDistricts_9, if_neg q3_2, nm_s, i2, bs_s, if_pos h2]
        rw [Fl_Z_twoDistricts_9, if_pos q3_3]
        simp only [d3, h0, h1, h2, not_true_eq_false, not_false_eq_true, decide_true, decide_false, Bool.false_eq_true, ↓reduceIte]
      · rw [Fl_Z_twoDistricts_9, if_neg q3_0, nm_s, i0, bs_s, if_neg h0, if_neg q2_0, o0, bs_s]
        rw [Fl_Z_twoDistricts_9, if_neg q3_1, nm_s, i1, bs_s, if_pos h1]
        rw [Fl_Z_twoDistricts_9, if_neg q3_2, nm_s, i2, bs_s, if_neg h2, if_neg q2_1, o2, bs_s]
        rw [Fl_Z_twoDistricts_9, if_pos q3_3]
        simp only [d3, h0, h1, h2, not_true_eq_false, not_false_eq_true, decide_true, decide_false, Bool.false_eq_true, ↓reduceIte]
    · by_cases h2 : v2 ≤ 1
      · rw [Fl_Z_twoDistricts_9, if_neg q3_0, nm_s, i0, bs_s, if_neg h0, if_neg q2_0, o0, bs_s]
        rw [Fl_Z_twoDistricts_9, if_neg q3_1, nm_s, i1, bs_s, if_neg h1, if_neg q2_1, o1, bs_s]
        rw [Fl_Z_twoDistricts_9, if_neg q3_2, nm_s, i2, bs_s, if_pos h2]
        rw [Fl_Z_twoDistricts_9, if_pos q3_3]
        simp only [d3, h0, h1, h2, not_true_eq_false, not_false_eq_true, decide_true, decide_false, Bool.false_eq_true, ↓reduceIte]
      · rw [Fl_Z_twoDistricts_9, if_neg q3_0, nm_s, i0, bs_s, if_neg h0, if_neg q2_0, o0, bs_s]
        rw [Fl_Z_twoDistricts_9, if_neg q3_1, nm_s, i1, bs_s, if_neg h1, if_neg q2_1, o1, bs_s]
        rw [Fl_Z_twoDistricts_9, if_neg q3_2, nm_s, i2, bs_s, if_neg h2, if_pos q2_2]
        rw [Fl_Z_twoDistricts_9, if_pos q3_3]
        simp only [d3, h0, h1, h2, not_true_eq_false, not_false_eq_true, decide_true, decide_false, Bool.false_eq_true, ↓reduceIte]
theorem un_8 {s x y p v0 v1 v2 w0 w1 w2 : Int32} (i0 : F_Z_inRegion s ((x + 0) - (x + 0) / 3 * 3) = some v0) (o0 : F_Z_twoDistricts s ((x + 0) - (x + 0) / 3 * 3) y p = some w0) (i1 : F_Z_inRegion s ((x + (0 + 1)) - (x + (0 + 1)) / 3 * 3) = some v1) (o1 : F_Z_twoDistricts s ((x + (0 + 1)) - (x + (0 + 1)) / 3 * 3) y p = some w1) (i2 : F_Z_inRegion s ((x + (0 + 1 + 1)) - (x + (0 + 1 + 1)) / 3 * 3) = some v2) (o2 : F_Z_twoDistricts s ((x + (0 + 1 + 1)) - (x + (0 + 1 + 1)) / 3 * 3) y p = some w2) : F_Z_eight s x y p = some (c3 (decide ¬ (v0 ≤ 1)) (decide ¬ (v1 ≤ 1)) (decide ¬ (v2 ≤ 1)) w0 w1 w2) := by
  unfold F_Z_eight
  by_cases h0 : v0 ≤ 1
  · by_cases h1 : v1 ≤ 1
    · by_cases h2 : v2 ≤ 1
      · rw [Fl_Z_eight_9, if_neg q3_0, i0, bs_s, if_pos h0]
        rw [Fl_Z_eight_9, if_neg q3_1, i1, bs_s, if_pos h1]
        rw [Fl_Z_eight_9, if_neg q3_2, i2, bs_s, if_pos h2]
        rw [Fl_Z_eight_9, if_pos q3_3, Fj_Z_eight_64, if_neg q2_0]
        simp only [c3, h0, h1, h2, not_true_eq_false, not_false_eq_true, decide_true, decide_false, Bool.false_eq_true, ↓reduceIte]
      · rw [Fl_Z_eight_9, if_neg q3_0, i0, bs_s, if_pos h0]
        rw [Fl_Z_eight_9, if_neg q3_1, i1, bs_s, if_pos h1]
        rw [Fl_Z_eight_9, if_neg q3_2, i2, bs_s, if_neg h2, if_neg q2_0, o2, bs_s]
        rw [Fl_Z_eight_9, if_pos q3_3, Fj_Z_eight_64, if_neg q2_1]
        simp only [c3, h0, h1, h2, not_true_eq_false, not_false_eq_true, decide_true, decide_false, Bool.false_eq_true, ↓reduceIte]
    · by_cases h2 : v2 ≤ 1
      · rw [Fl_Z_eight_9, if_neg q3_0, i0, bs_s, if_pos h0]
        rw [Fl_Z_eight_9, if_neg q3_1, i1, bs_s, if_neg h1, if_neg q2_0, o1, bs_s]
        rw [Fl_Z_eight_9, if_neg q3_2, i2, bs_s, if_pos h2]
        rw [Fl_Z_eight_9, if_pos q3_3, Fj_Z_eight_64, if_neg q2_1]
        simp only [c3, h0, h1, h2, not_true_eq_false, not_false_eq_true, decide_true, decide_false, Bool.false_eq_true, ↓reduceIte]
      · rw [Fl_Z_eight_9, if_neg q3_0, i0, bs_s, if_pos h0]
        rw [Fl_Z_eight_9, if_neg q3_1, i1, bs_s, if_neg h1, if_neg q2_0, o1, bs_s]
        rw [Fl_Z_eight_9, if_neg q3_2, i2, bs_s, if_neg h2, if_neg q2_1, o2, bs_s]
        rw [Fl_Z_eight_9, if_pos q3_3, Fj_Z_eight_64, if_pos q2_2]
        simp only [c3, h0, h1, h2, not_true_eq_false, not_false_eq_true, decide_true, decide_false, Bool.false_eq_true, ↓reduceIte]
  · by_cases h1 : v1 ≤ 1
    · by_cases h2 : v2 ≤ 1
      · rw [Fl_Z_eight_9, if_neg q3_0, i0, bs_s, if_neg h0, if_neg q2_0, o0, bs_s]
        rw [Fl_Z_eight_9, if_neg q3_1, i1, bs_s, if_pos h1]
        rw [Fl_Z_eight_9, if_neg q3_2, i2, bs_s, if_pos h2]
        rw [Fl_Z_eight_9, if_pos q3_3, Fj_Z_eight_64, if_neg q2_1]
        simp only [c3, h0, h1, h2, not_true_eq_false, not_false_eq_true, decide_true, decide_false, Bool.false_eq_true, ↓reduceIte]
      · rw [Fl_Z_eight_9, if_neg q3_0, i0, bs_s, if_neg h0, if_neg q2_0, o0, bs_s]
        rw [Fl_Z_eight_9, if_neg q3_1, i1, bs_s, if_pos h1]
        rw [Fl_Z_eight_9, if_neg q3_2, i2, bs_s, if_neg h2, if_neg q2_1, o2, bs_s]
        rw [Fl_Z_eight_9, if_pos q3_3, Fj_Z_eight_64, if_pos q2_2]
        simp only [c3, h0, h1, h2, not_true_eq_false, not_false_eq_true, decide_true, decide_false, Bool.false_eq_true, ↓reduceIte]
    · by_cases h2 : v2 ≤ 1
      · rw [Fl_Z_eight_9, if_neg q3_0, i0, bs_s, if_neg h0, if_neg q2_0, o0, bs_s]
        rw [Fl_Z_eight_9, if_neg q3_1, i1, bs_s, if_neg h1, if_neg q2_1, o1, bs_s]
        rw [Fl_Z_eight_9, if_neg q3_2, i2, bs_s, if_pos h2]
        rw [Fl_Z_eight_9, if_pos q3_3, Fj_Z_eight_64, if_pos q2_2]
        simp only [c3, h0, h1, h2, not_true_eq_false, not_false_eq_true, decide_true, decide_false, Bool.false_eq_true, ↓reduceIte]
      · rw [Fl_Z_eight_9, if_neg q3_0, i0, bs_s, if_neg h0, if_neg q2_0, o0, bs_s]
        rw [Fl_Z_eight_9, if_neg q3_1, i1, bs_s, if_neg h1, if_neg q2_1, o1, bs_s]
        rw [Fl_Z_eight_9, if_neg q3_2, i2, bs_s, if_neg h2, if_pos q2_2]
        rw [Fl_Z_eight_9, if_pos q3_3, Fj_Z_eight_64, if_pos q2_2]
        simp only [c3, h0, h1, h2, not_true_eq_false, not_false_eq_true, decide_true, decide_false, Bool.false_eq_true, ↓reduceIte]
theorem qr_0 : ∀ r < 3, ¬ 3 * Int32.ofNat r + 3 ≤ (3 * Int32.ofNat r) := by decide +kernel
theorem qr_1 : ∀ r < 3, ¬ 3 * Int32.ofNat r + 3 ≤ (3 * Int32.ofNat r + 1) := by decide +kernel
theorem qr_2 : ∀ r < 3, ¬ 3 * Int32.ofNat r + 3 ≤ (3 * Int32.ofNat r + 1 + 1) := by decide +kernel
theorem qr_3 : ∀ r < 3, 3 * Int32.ofNat r + 3 ≤ (3 * Int32.ofNat r + 1 + 1 + 1) := by decide +kernel
theorem un_ir {s v0 v1 v2 : Int32} {r : Nat} (hr : r < 3) (i0 : F_Z_inDistrict s (3 * Int32.ofNat r) = some v0) (i1 : F_Z_inDistrict s (3 * Int32.ofNat r + 1) = some v1) (i2 : F_Z_inDistrict s (3 * Int32.ofNat r + 1 + 1) = some v2) : F_Z_inRegion s (Int32.ofNat r) = some (k3 (decide ¬ (v0 ≤ 1)) (decide ¬ (v1 ≤ 1)) (decide ¬ (v2 ≤ 1))) := by
  unfold F_Z_inRegion
  by_cases h0 : v0 ≤ 1
  · by_cases h1 : v1 ≤ 1
    · by_cases h2 : v2 ≤ 1
      · rw [Fl_Z_inRegion_6, if_neg (qr_0 r hr), i0, bs_s, if_pos h0]
        rw [Fl_Z_inRegion_6, if_neg (qr_1 r hr), i1, bs_s, if_pos h1]
        rw [Fl_Z_inRegion_6, if_neg (qr_2 r hr), i2, bs_s, if_pos h2]
        rw [Fl_Z_inRegion_6, if_pos (qr_3 r hr)]
        simp only [k3, h0, h1, h2, not_true_eq_false, not_false_eq_true, decide_true, decide_false, Bool.false_eq_true, ↓reduceIte]
      · rw [Fl_Z_inRegion_6, if_neg (qr_0 r hr), i0, bs_s, if_pos h0]
        rw [Fl_Z_inRegion_6, if_neg (qr_1 r hr), i1, bs_s, if_pos h1]
        rw [Fl_Z_inRegion_6, if_neg (qr_2 r hr), i2, bs_s, if_neg h2]
        rw [Fl_Z_inRegion_6, if_pos (qr_3 r hr)]
        simp only [k3, h0, h1, h2, not_true_eq_false, not_false_eq_true, decide_true, decide_false, Bool.false_eq_true, ↓reduceIte]
    · by_cases h2 : v2 ≤ 1
      · rw [Fl_Z_inRegion_6, if_neg (qr_0 r hr), i0, bs_s, if_pos h0]
        rw [Fl_Z_inRegion_6, if_neg (qr_1 r hr), i1, bs_s, if_neg h1]
        rw [Fl_Z_inRegion_6, if_neg (qr_2 r hr), i2, bs_s, if_pos h2]
        rw [Fl_Z_inRegion_6, if_pos (qr_3 r hr)]
        simp only [k3, h0, h1, h2, not_true_eq_false, not_false_eq_true, decide_true, decide_false, Bool.false_eq_true, ↓reduceIte]
      · rw [Fl_Z_inRegion_6, if_neg (qr_0 r hr), i0, bs_s, if_pos h0]
        rw [Fl_Z_inRegion_6, if_neg (qr_1 r hr), i1, bs_s, if_neg h1]
        rw [Fl_Z_inRegion_6, if_neg (qr_2 r hr), i2, bs_s, if_neg h2]
        rw [Fl_Z_inRegion_6, if_pos (qr_3 r hr)]
        simp only [k3, h0, h1, h2, not_true_eq_false, not_false_eq_true, decide_true, decide_false, Bool.false_eq_true, ↓reduceIte]
  · by_cases h1 : v1 ≤ 1
    · by_cases h2 : v2 ≤ 1
      · rw [Fl_Z_inRegion_6, if_neg (qr_0 r hr), i0, bs_s, if_neg h0]
        rw [Fl_Z_inRegion_6, if_neg (qr_1 r hr), i1, bs_s, if_pos h1]
        rw [Fl_Z_inRegion_6, if_neg (qr_2 r hr), i2, bs_s, if_pos h2]
        rw [Fl_Z_inRegion_6, if_pos (qr_3 r hr)]
        simp only [k3, h0, h1, h2, not_true_eq_false, not_false_eq_true, decide_true, decide_false, Bool.false_eq_true, ↓reduceIte]
      · rw [Fl_Z_inRegion_6, if_neg (qr_0 r hr), i0, bs_s, if_neg h0]
        rw [Fl_Z_inRegion_6, if_neg (qr_1 r hr), i1, bs_s, if_pos h1]
        rw [Fl_Z_inRegion_6, if_neg (qr_2 r hr), i2, bs_s, if_neg h2]
        rw [Fl_Z_inRegion_6, if_pos (qr_3 r hr)]
        simp only [k3, h0, h1, h2, not_true_eq_false, not_false_eq_true, decide_true, decide_false, Bool.false_eq_true, ↓reduceIte]
    · by_cases h2 : v2 ≤ 1
      · rw [Fl_Z_inRegion_6, if_neg (qr_0 r hr), i0, bs_s, if_neg h0]
        rw [Fl_Z_inRegion_6, if_neg (qr_1 r hr), i1, bs_s, if_neg h1]
        rw [Fl_Z_inRegion_6, if_neg (qr_2 r hr), i2, bs_s, if_pos h2]
        rw [Fl_Z_inRegion_6, if_pos (qr_3 r hr)]
        simp only [k3, h0, h1, h2, not_true_eq_false, not_false_eq_true, decide_true, decide_false, Bool.false_eq_true, ↓reduceIte]
      · rw [Fl_Z_inRegion_6, if_neg (qr_0 r hr), i0, bs_s, if_neg h0]
        rw [Fl_Z_inRegion_6, if_neg (qr_1 r hr), i1, bs_s, if_neg h1]
        rw [Fl_Z_inRegion_6, if_neg (qr_2 r hr), i2, bs_s, if_neg h2]
        rw [Fl_Z_inRegion_6, if_pos (qr_3 r hr)]
        simp only [k3, h0, h1, h2, not_true_eq_false, not_false_eq_true, decide_true, decide_false, Bool.false_eq_true, ↓reduceIte]
theorem un_iq {s v0 v1 v2 : Int32} (i0 : F_Z_inRegion s 0 = some v0) (i1 : F_Z_inRegion s (0 + 1) = some v1) (i2 : F_Z_inRegion s (0 + 1 + 1) = some v2) : F_Z_isQuorum s = some (if k3 (decide ¬ (v0 ≤ 1)) (decide ¬ (v1 ≤ 1)) (decide ¬ (v2 ≤ 1)) ≤ 1 then 0 else 1) := by
  unfold F_Z_isQuorum
  by_cases h0 : v0 ≤ 1
  · by_cases h1 : v1 ≤ 1
    · by_cases h2 : v2 ≤ 1
      · rw [Fl_Z_isQuorum_4, if_neg q3_0, i0, bs_s, if_pos h0]
        rw [Fl_Z_isQuorum_4, if_neg q3_1, i1, bs_s, if_pos h1]
        rw [Fl_Z_isQuorum_4, if_neg q3_2, i2, bs_s, if_pos h2]
        rw [Fl_Z_isQuorum_4, if_pos q3_3, Fj_Z_isQuorum_32, if_pos q1_0]
        simp only [k3, q1_0, q1_1, q1_2, q1_3, h0, h1, h2, not_true_eq_false, not_false_eq_true, decide_true, decide_false, Bool.false_eq_true, ↓reduceIte]
      · rw [Fl_Z_isQuorum_4, if_neg q3_0, i0, bs_s, if_pos h0]
        rw [Fl_Z_isQuorum_4, if_neg q3_1, i1, bs_s, if_pos h1]
        rw [Fl_Z_isQuorum_4, if_neg q3_2, i2, bs_s, if_neg h2]
        rw [Fl_Z_isQuorum_4, if_pos q3_3, Fj_Z_isQuorum_32, if_pos q1_1]
        simp only [k3, q1_0, q1_1, q1_2, q1_3, h0, h1, h2, not_true_eq_false, not_false_eq_true, decide_true, decide_false, Bool.false_eq_true, ↓reduceIte]
    · by_cases h2 : v2 ≤ 1
      · rw [Fl_Z_isQuorum_4, if_neg q3_0, i0, bs_s, if_pos h0]
        rw [Fl_Z_isQuorum_4, if_neg q3_1, i1, bs_s, if_neg h1]
        rw [Fl_Z_isQuorum_4, if_neg q3_2, i2, bs_s, if_pos h2]
        rw [Fl_Z_isQuorum_4, if_pos q3_3, Fj_Z_isQuorum_32, if_pos q1_1]
        simp only [k3, q1_0, q1_1, q1_2, q1_3, h0, h1, h2, not_true_eq_false, not_false_eq_true, decide_true, decide_false, Bool.false_eq_true, ↓reduceIte]
      · rw [Fl_Z_isQuorum_4, if_neg q3_0, i0, bs_s, if_pos h0]
        rw [Fl_Z_isQuorum_4, if_neg q3_1, i1, bs_s, if_neg h1]
        rw [Fl_Z_isQuorum_4, if_neg q3_2, i2, bs_s, if_neg h2]
        rw [Fl_Z_isQuorum_4, if_pos q3_3, Fj_Z_isQuorum_32, if_neg q1_2]
        simp only [k3, q1_0, q1_1, q1_2, q1_3, h0, h1, h2, not_true_eq_false, not_false_eq_true, decide_true, decide_false, Bool.false_eq_true, ↓reduceIte]
  · by_cases h1 : v1 ≤ 1
    · by_cases h2 : v2 ≤ 1
      · rw [Fl_Z_isQuorum_4, if_neg q3_0, i0, bs_s, if_neg h0]
        rw [Fl_Z_isQuorum_4, if_neg q3_1, i1, bs_s, if_pos h1]
        rw [Fl_Z_isQuorum_4, if_neg q3_2, i2, bs_s, if_pos h2]
        rw [Fl_Z_isQuorum_4, if_pos q3_3, Fj_Z_isQuorum_32, if_pos q1_1]
        simp only [k3, q1_0, q1_1, q1_2, q1_3, h0, h1, h2, not_true_eq_false, not_false_eq_true, decide_true, decide_false, Bool.false_eq_true, ↓reduceIte]
      · rw [Fl_Z_isQuorum_4, if_neg q3_0, i0, bs_s, if_neg h0]
        rw [Fl_Z_isQuorum_4, if_neg q3_1, i1, bs_s, if_pos h1]
        rw [Fl_Z_isQuorum_4, if_neg q3_2, i2, bs_s, if_neg h2]
        rw [Fl_Z_isQuorum_4, if_pos q3_3, Fj_Z_isQuorum_32, if_neg q1_2]
        simp only [k3, q1_0, q1_1, q1_2, q1_3, h0, h1, h2, not_true_eq_false, not_false_eq_true, decide_true, decide_false, Bool.false_eq_true, ↓reduceIte]
    · by_cases h2 : v2 ≤ 1
      · rw [Fl_Z_isQuorum_4, if_neg q3_0, i0, bs_s, if_neg h0]
        rw [Fl_Z_isQuorum_4, if_neg q3_1, i1, bs_s, if_neg h1]
        rw [Fl_Z_isQuorum_4, if_neg q3_2, i2, bs_s, if_pos h2]
        rw [Fl_Z_isQuorum_4, if_pos q3_3, Fj_Z_isQuorum_32, if_neg q1_2]
        simp only [k3, q1_0, q1_1, q1_2, q1_3, h0, h1, h2, not_true_eq_false, not_false_eq_true, decide_true, decide_false, Bool.false_eq_true, ↓reduceIte]
      · rw [Fl_Z_isQuorum_4, if_neg q3_0, i0, bs_s, if_neg h0]
        rw [Fl_Z_isQuorum_4, if_neg q3_1, i1, bs_s, if_neg h1]
        rw [Fl_Z_isQuorum_4, if_neg q3_2, i2, bs_s, if_neg h2]
        rw [Fl_Z_isQuorum_4, if_pos q3_3, Fj_Z_isQuorum_32, if_neg q1_3]
        simp only [k3, q1_0, q1_1, q1_2, q1_3, h0, h1, h2, not_true_eq_false, not_false_eq_true, decide_true, decide_false, Bool.false_eq_true, ↓reduceIte]
