def OA_ (o : Nat) (a0 a1 a5 a6 q5 q6 q7 : Int32) : Prop := a0 = Int32.ofNat o ∧ a1 = q7 ∧ a5 = q5 ∧ (q5 = 0 ∨ q5 = 1) ∧ ∃ n, n ≤ 40 ∧ q6 = Int32.ofNat n ∧ a6 = Int32.ofNat n - 1
def OR_ (r0 r1 r2 r3 r4 r5 r6 r7 r8 q11 q12 q13 q14 q15 q16 q17 q18 q19 q20 : Int32) : Prop := r0 = q11 ∧ (q11 = 0 ∨ q11 = 1 ∨ q11 = 2) ∧ r2 = q14 ∧ r4 = q15 ∧ sub27 q15 ∧ r5 = q16 ∧ r6 = q17 ∧ (q11 ≠ 0 → r1 = q13 ∧ (∃ n, n < 6 ∧ q13 = Int32.ofNat n) ∧ r3 = q12 ∧ dr q12) ∧ (q11 = 1 → r8 = q19 ∧ 0 ≤ q19 ∧ (0 < q19 → r7 = q20 ∧ dr q20) ∧ (¬ 0 < q19 → r7 = q12)) ∧ (q11 = 2 → r7 = q18 ∧ dr q18)
def KN (b d : Int32) : Prop := ∃ n, n ≤ 40 ∧ d = Int32.ofNat n ∧ b = Int32.ofNat n - 1
def TK (b8 b9 d8 d9 : Int32) : Prop := b8 = d8 ∧ (0 < d8 → b9 = d9 ∧ dr d9)
def RA (u : XC) (z : ZW) (o : Nat) : Prop := OA_ o (u.1 4 o 0) (u.1 4 o 1) (u.1 4 o 5) (u.1 4 o 6) (z.1 5 o) (z.1 6 o) (z.1 7 o)
def RR (u : XC) (z : ZW) (o : Nat) : Prop := OR_ (u.1 11 o 0) (u.1 11 o 1) (u.1 11 o 2) (u.1 11 o 3) (u.1 11 o 4) (u.1 11 o 5) (u.1 11 o 6) (u.1 11 o 7) (u.1 11 o 8) (z.1 11 o) (z.1 12 o) (z.1 13 o) (z.1 14 o) (z.1 15 o) (z.1 16 o) (z.1 17 o) (z.1 18 o) (z.1 19 o) (z.1 20 o)
def RK (u : XC) (z : ZW) (o : Nat) : Prop := ∀ n, n < 6 → KN (u.1 10 o n) (z.1 10 (6 * o + n))
def RT (u : XC) (z : ZW) (o : Nat) : Prop := ∀ n, n < 6 → TK (u.1 8 o n) (u.1 9 o n) (z.1 8 (6 * o + n)) (z.1 9 (6 * o + n))
def RelO (u : XC) (z : ZW) : Prop := ∀ o, o < 27 → RA u z o ∧ RR u z o ∧ RK u z o ∧ RT u z o
def RelD (u : XC) (z : ZW) : Prop := ∃ d, d ≤ 40 ∧ u.1 0 0 3 = Int32.ofNat d ∧ z.1 0 1 = Int32.ofNat d ∧ ∀ i, i < 40 → (∃ n, n ≤ 4 ∧ u.1 5 i 1 = Int32.ofNat n ∧ z.1 2 i = Int32.ofNat n ∧ (d ≤ i → n = 0) ∧ ∀ k l, k < l → l < n → u.1 12 i k ≠ u.1 12 i l) ∧ u.1 5 i 0 = z.1 1 i ∧ ∀ k, k < 4 → u.1 12 i k = z.1 3 (4 * i + k) ∧ u.1 13 i k = z.1 4 (4 * i + k)
def RB (z : ZW) : Prop := ∀ o, o < 27 → ∃ n q, n ≤ q ∧ q ≤ 40 ∧ z.1 6 o = Int32.ofNat n ∧ z.1 0 1 = Int32.ofNat q
theorem rb_f {z z' : ZW} (h : RB z) (h6 : z'.1 6 = z.1 6) (h1 : z'.1 0 1 = z.1 0 1) : RB z' := by
  unfold RB
  rw [h6, h1]
  exact h
def Rel (u : XC) (z : ZW) : Prop := RelD u z ∧ RelO u z ∧ (∃ w, RelL u z w) ∧ RB z
theorem ro_f {u u' : XC} {z z' : ZW} (h : RelO u z) (hU : FU u u') (hZ : FZ z z') : RelO u' z' := by
  unfold RelO RA RR RK RT
  rw [hU.2 4 (by decide) (by decide), hU.2 8 (by decide) (by decide), hU.2 9 (by decide) (by decide), hU.2 10 (by decide) (by decide), hU.2 11 (by decide) (by decide), hZ.2.1 5 (by decide) (by decide), hZ.2.1 6 (by decide) (by decide), hZ.2.1 7 (by decide) (by decide), hZ.2.1 8 (by decide) (by decide), hZ.2.1 9 (by decide) (by decide), hZ.2.1 10 (by decide) (by decide), hZ.2.1 11 (by decide) (by decide), hZ.2.1 12 (by decide) (by decide), hZ.2.1 13 (by decide) (by decide), hZ.2.1 14 (by decide) (by decide), hZ.2.1 15 (by decide) (by decide), hZ.2.1 16 (by decide) (by decide), hZ.2.1 17 (by decide) (by decide), hZ.2.1 18 (by decide) (by decide), hZ.2.1 19 (by decide) (by decide), hZ.2.1 20 (by decide) (by decide)]
  exact h
theorem rd_f {u u' : XC} {z z' : ZW} (h : RelD u z) (hU : FU u u') (hZ : FZ z z') : RelD u' z' := by
  unfold RelD
  rw [hU.2 0 (by decide) (by decide), hU.2 5 (by decide) (by decide), hU.2 12 (by decide) (by decide), hU.2 13 (by decide) (by decide), hZ.2.1 1 (by decide) (by decide), hZ.2.1 2 (by decide) (by decide), hZ.2.1 3 (by decide) (by decide), hZ.2.1 4 (by decide) (by decide), hZ.2.2.1]
  exact h
theorem rl_c {u : XC} {z : ZW} {s : Nat} {v : Int32} (h1 : s ≠ 1) (h2 : s ≠ 22) (h : Rel u z) : Rel u (pz z 0 s v) := by
  obtain ⟨hD, hO, ⟨w, hL⟩, hB⟩ := h
  refine ⟨?_, ?_, ⟨w, ?_⟩, rb_f hB (pz_k (by decide)) (by rw [pz_s, ud_n (Ne.symm h1)])⟩
  · unfold RelD
    rw [pz_s, ud_n (Ne.symm h1), pz_k (by decide), pz_k (by decide), pz_k (by decide), pz_k (by decide)]
    exact hD
  · unfold RelO RA RR RK RT
    rw [pz_k (k := 0) (k' := 5) (by decide), pz_k (k := 0) (k' := 6) (by decide), pz_k (k := 0) (k' := 7) (by decide), pz_k (k := 0) (k' := 8) (by decide), pz_k (k := 0) (k' := 9) (by decide), pz_k (k := 0) (k' := 10) (by decide), pz_k (k := 0) (k' := 11) (by decide), pz_k (k := 0) (k' := 12) (by decide), pz_k (k := 0) (k' := 13) (by decide), pz_k (k := 0) (k' := 14) (by decide), pz_k (k := 0) (k' := 15) (by decide), pz_k (k := 0) (k' := 16) (by decide), pz_k (k := 0) (k' := 17) (by decide), pz_k (k := 0) (k' := 18) (by decide), pz_k (k := 0) (k' := 19) (by decide), pz_k (k := 0) (k' := 20) (by decide)]
    exact hO
  · obtain ⟨a, b, c, d, e⟩ := hL
    refine ⟨a, b, by rw [pz_s, ud_n (Ne.symm h2)]; exact c, d, fun i hi => ?_⟩
    have e1 : lz (pz z 0 s v) i = lz z i := by
      funext t
      unfold lz
      rw [pz_k (by omega)]
    rw [e1]
    exact e i hi
theorem ix_6 : ∀ o < 27, ∀ k < 6, (6 * Int32.ofNat o) + Int32.ofNat k = Int32.ofNat (6 * o + k) := by decide +kernel
theorem kn_0 : ∀ n < 41, (Int32.ofNat n - 1 = -1 ↔ n = 0) ∧ (Int32.ofNat n ≤ 0 ↔ n = 0) := by decide +kernel
theorem fu_l {u : XC} {z : ZW} {o : Nat} (ho : o < 27) (hk : RK u z o) : ∀ (f t : Nat), t ≤ 6 → 7 ≤ f + t → (∀ k, k < t → ∃ d, 1 ≤ d ∧ d ≤ 40 ∧ z.1 10 (6 * o + k) = Int32.ofNat d ∧ u.1 10 o k = Int32.ofNat d - 1) →
    ∃ n, n ≤ 6 ∧ Fl_O_firstUnknown_2 f u o (Int32.ofNat t) = some (Int32.ofNat n) ∧ Fl_Z_open_2 f z (Int32.ofNat o) (Int32.ofNat t) = some (Int32.ofNat n) ∧ (∀ k, k < n → ∃ d, 1 ≤ d ∧ d ≤ 40 ∧ z.1 10 (6 * o + k) = Int32.ofNat d ∧ u.1 10 o k = Int32.ofNat d - 1) ∧ (n < 6 → z.1 10 (6 * o + n) = 0) := by
  intro f
  induction f with
  | zero => intro t h1 h2; omega
  | succ f ih =>
    intro t h1 h2 hp
    rw [Fl_O_firstUnknown_2, Fl_Z_open_2]
    by_cases h6 : t = 6
    · subst h6
      rw [if_pos (by decide), if_pos (by decide)]
      exact ⟨6, Nat.le_refl _, rfl, rfl, hp, fun h => absurd h (by decide)⟩
    · have ht : t < 6 := by omega
      have n1 : ¬ (6 : Int32) ≤ Int32.ofNat t := fun e => absurd ((i32_le (a := 6) (by decide) (by omega)).mp e) (by omega)
      obtain ⟨n, hn, e1, e2⟩ := hk t ht
      rw [if_neg n1, if_neg n1, ix_6 o ho t ht, if_pos (pa_ix ht (by decide)), if_pos (pa_ix (n := 6 * o + t) (N := 162) (by omega) (by decide)), i32_nat (by omega), i32_nat (by omega), e1, e2]
      obtain ⟨k1, k2⟩ := kn_0 n (by omega)
      by_cases h0 : n = 0
      · rw [if_pos (k1.mpr h0), if_pos (k2.mpr h0)]
        refine ⟨t, h1, rfl, rfl, hp, fun _ => ?_⟩
        rw [e1, h0]
        rfl
      · rw [if_neg (fun e => h0 (k1.mp e)), if_neg (fun e => h0 (k2.mp e))]
        have et : Int32.ofNat t + 1 = Int32.ofNat (t + 1) := by rw [Int32.ofNat_add]; rfl
        rw [et]
        refine ih (t + 1) (by omega) (by omega) (fun k hk1 => ?_)
        by_cases hkt : k = t
        · subst hkt
          exact ⟨n, by omega, hn, e1, e2⟩
        · exact hp k (by omega)
theorem fu_s {u : XC} {z : ZW} {o : Nat} (ho : o < 27) (hk : RK u z o) : ∃ n, n ≤ 6 ∧ F_O_firstUnknown u o = some (Int32.ofNat n) ∧ F_Z_open z (Int32.ofNat o) = some (Int32.ofNat n) ∧ (∀ k, k < n → ∃ d, 1 ≤ d ∧ d ≤ 40 ∧ z.1 10 (6 * o + k) = Int32.ofNat d ∧ u.1 10 o k = Int32.ofNat d - 1) ∧ (n < 6 → z.1 10 (6 * o + n) = 0) :=
  fu_l ho hk 200 0 (by decide) (by decide) (fun k h => absurd h (by omega))
