theorem ra_0 {K : ZW → Int32 → Int32 → Int32 → Int32 → Int32 → Int32 → Int32 → Option (Int32 × ZW)} {z : ZW} {d m : Nat} {c x1 x3 x4 x5 x6 x7 : Int32} (hd : d < 40) (hm : m ≤ 4) (hl : z.1 2 d = Int32.ofNat m) : ∀ (f t : Nat), t ≤ m → 5 ≤ f + t → (∀ k, t ≤ k → k < m → z.1 3 (4 * d + k) ≠ c) → Fl_Z_rate_85 K f z x1 c x3 x4 x5 x6 x7 (Int32.ofNat d) (Int32.ofNat t) = K z x1 c x3 x4 x5 x6 (x7 + 1) := by
  intro f
  induction f with
  | zero => intro t h1 h2; omega
  | succ f ih =>
    intro t h1 h2 hk
    rw [Fl_Z_rate_85, if_pos (pa_ix (n := d) (N := 40) hd (by decide)), i32_nat (by omega), hl]
    by_cases e : t = m
    · subst e
      rw [if_pos (Int32.le_refl _)]
    · have n1 : ¬ Int32.ofNat m ≤ Int32.ofNat t := fun g => absurd ((i32_le (by omega) (by omega)).mp g) (by omega)
      rw [if_neg n1, ix_4 d hd t (by omega), if_pos (pa_ix (n := 4 * d + t) (N := 160) (by omega) (by decide)), i32_nat (by omega), if_neg (hk t (Nat.le_refl _) (by omega)), show Int32.ofNat t + 1 = Int32.ofNat (t + 1) by rw [Int32.ofNat_add]; rfl]
      exact ih (t + 1) (by omega) (by omega) (fun k a b => hk k (by omega) b)
theorem ra_1 {K : ZW → Int32 → Int32 → Int32 → Int32 → Int32 → Int32 → Int32 → Option (Int32 × ZW)} {z : ZW} {d m q : Nat} {c x1 x3 x4 x5 x6 x7 : Int32} (hd : d < 40) (hm : m ≤ 4) (hl : z.1 2 d = Int32.ofNat m) (hq : q < m) (hc : z.1 3 (4 * d + q) = c) (hn : ∀ k, k < m → k ≠ q → z.1 3 (4 * d + k) ≠ c) : ∀ (f t : Nat), t ≤ q → 6 ≤ f + t → Fl_Z_rate_85 K f z x1 c x3 x4 x5 x6 x7 (Int32.ofNat d) (Int32.ofNat t) = if x3 < z.1 1 d then K z x1 c x3 x4 x5 x6 (x7 + 1) else if z.1 1 d < x5 then K z x1 c x3 x4 x5 x6 (x7 + 1) else K z x1 c x3 x4 (z.1 1 d) (z.1 4 (4 * d + q)) (x7 + 1) := by
  intro f
  induction f with
  | zero => intro t h1 h2; omega
  | succ f ih =>
    intro t h1 h2
    have id := pa_ix (n := d) (N := 40) hd (by decide)
    have id2 : (0 : Int32) ≤ Int32.ofNat d ∧ d < 40 := ⟨id.1, hd⟩
    have n1 : ¬ Int32.ofNat m ≤ Int32.ofNat t := fun g => absurd ((i32_le (by omega) (by omega)).mp g) (by omega)
    have ip := pa_ix (n := 4 * d + t) (N := 160) (by omega) (by decide)
    have tp := i32_nat (a := 4 * d + t) (by omega)
    rw [Fl_Z_rate_85, if_pos id, i32_nat (by omega), hl, if_neg n1, ix_4 d hd t (by omega), if_pos ip, tp, show Int32.ofNat t + 1 = Int32.ofNat (t + 1) by rw [Int32.ofNat_add]; rfl]
    by_cases e : t = q
    · subst e
      rw [if_pos hc, if_pos id2, if_pos id2, if_pos id2, if_pos (show (0 : Int32) ≤ Int32.ofNat (4 * d + t) ∧ 4 * d + t < 160 from ⟨ip.1, by omega⟩)]
      have r : ∀ y5 y6, Fl_Z_rate_85 K f z x1 c x3 x4 y5 y6 x7 (Int32.ofNat d) (Int32.ofNat (t + 1)) = K z x1 c x3 x4 y5 y6 (x7 + 1) := fun y5 y6 => ra_0 hd hm hl f (t + 1) (by omega) (by omega) (fun k a b => hn k b (by omega))
      rw [r, r]
    · rw [if_neg (hn t (by omega) e)]
      exact ih (t + 1) (by omega) (by omega)
theorem ra_o {u : XC} {z : ZW} {o n q : Nat} {c x3 : Int32} (hD : RelD u z) (ho : o < 27) (hn : n ≤ 6) (hq : q ≤ n) (hk : ∀ k, k < n → ∃ d, 1 ≤ d ∧ d ≤ 40 ∧ z.1 10 (6 * o + k) = Int32.ofNat d ∧ u.1 10 o k = Int32.ofNat d - 1) : ∀ (f t : Nat) (x5 x6 : Int32), t ≤ q → 7 ≤ f + t →
    ∃ v, Fl_H_rate_51 f u (Int32.ofNat o) c x3 (Int32.ofNat q) x5 x6 (Int32.ofNat t) = some v ∧ Fl_Z_rate_59 f z (Int32.ofNat o) c x3 (Int32.ofNat q) x6 x5 (Int32.ofNat t) = some (v, z) := by
  intro f
  induction f with
  | zero => intro t x5 x6 h1 h2; omega
  | succ f ih =>
    intro t x5 x6 h1 h2
    rw [Fl_H_rate_51, Fl_Z_rate_59]
    by_cases e : t = q
    · subst e
      rw [if_pos (Int32.le_refl _), if_pos (Int32.le_refl _)]
      exact ⟨_, rfl, rfl⟩
    · have n1 : ¬ Int32.ofNat q ≤ Int32.ofNat t := fun g => absurd ((i32_le (by omega) (by omega)).mp g) (by omega)
      have et : Int32.ofNat t + 1 = Int32.ofNat (t + 1) := by rw [Int32.ofNat_add]; rfl
      obtain ⟨d1, p1, p2, p3, p4⟩ := hk t (by omega)
      obtain ⟨d, rfl⟩ : ∃ d, d1 = d + 1 := ⟨d1 - 1, by omega⟩
      have es : Int32.ofNat (d + 1) - 1 = Int32.ofNat d := pc_sub (a := d + 1) (b := 1) (by omega)
      have hd : d < 40 := by omega
      have id := pa_ix (n := d) (N := 40) hd (by decide)
      rw [if_neg n1, if_neg n1, ix_6 o ho t (by omega), if_pos (pa_ix (n := 6 * o + t) (N := 162) (by omega) (by decide)), i32_nat (a := 6 * o + t) (by omega), p3, es, nm_s (a := Int32.ofNat d), if_pos (pa_ix (n := o) (N := 27) ho (by decide)), if_pos (pa_ix (n := t) (N := 6) (by omega) (by decide)), i32_nat (a := o) (by omega), i32_nat (a := t) (by omega), p4, es, if_pos id, i32_nat (a := d) (by omega)]
      obtain ⟨w, w1, w2, w3, w4⟩ := hD
      obtain ⟨⟨m, m1, m2, m3, m4, m5⟩, m6, m7⟩ := w4 d hd
      rcases lo_l (c := c) m1 m2 200 0 (Nat.zero_le _) (by omega) (fun k hk => absurd hk (by omega)) with ⟨k, g1, g2, g3⟩ | ⟨g1, g3⟩
      · have e4 : F_T_lineOf u d c = some (Int32.ofNat k) := g3
        have nk : ¬ Int32.ofNat k = -1 := fun e => absurd (pa_nn (n := k) (by omega)) (by rw [e]; decide)
        have hne : ∀ k', k' < m → k' ≠ k → z.1 3 (4 * d + k') ≠ c := by
          intro k' a b
          rw [← (m7 k' (by omega)).1, ← g2]
          rcases Nat.lt_or_gt_of_ne b with h | h
          · exact m5 k' k h g1
          · exact fun e => m5 k k' h a e.symm
        have r : Fl_Z_rate_85 (Fl_Z_rate_59 f) 200 z (Int32.ofNat o) c x3 (Int32.ofNat q) x6 x5 (Int32.ofNat t) (Int32.ofNat d) 0 = _ := ra_1 (K := Fl_Z_rate_59 f) (x1 := Int32.ofNat o) (x3 := x3) (x4 := Int32.ofNat q) (x5 := x6) (x6 := x5) (x7 := Int32.ofNat t) hd m1 m3 g1 ((m7 k (by omega)).1.symm.trans g2) hne 200 0 (Nat.zero_le _) (by omega)
        rw [r, e4, bs_s, if_neg nk, m6]
        by_cases h3 : x3 < z.1 1 d
        · rw [if_pos h3, if_pos h3, et]
          exact ih (t + 1) x5 x6 (by omega) (by omega)
        · rw [if_neg h3, if_neg h3]
          by_cases h4 : z.1 1 d < x6
          · rw [if_pos h4, if_pos h4, et]
            exact ih (t + 1) x5 x6 (by omega) (by omega)
          · rw [if_neg h4, if_neg h4, nm_s, if_pos (pa_ix (n := k) (N := 4) (by omega) (by decide)), nm_s, i32_nat (by omega), (m7 k (by omega)).2, et]
            exact ih (t + 1) _ _ (by omega) (by omega)
      · have e4 : F_T_lineOf u d c = some (-1) := g3
        have r : Fl_Z_rate_85 (Fl_Z_rate_59 f) 200 z (Int32.ofNat o) c x3 (Int32.ofNat q) x6 x5 (Int32.ofNat t) (Int32.ofNat d) 0 = _ := ra_0 (K := Fl_Z_rate_59 f) (c := c) (x1 := Int32.ofNat o) (x3 := x3) (x4 := Int32.ofNat q) (x5 := x6) (x6 := x5) (x7 := Int32.ofNat t) hd m1 m3 200 0 (Nat.zero_le _) (by omega) (fun k _ b => by rw [← (m7 k (by omega)).1]; exact g1 k b)
        rw [r, e4, bs_s, if_pos rfl, et]
        exact ih (t + 1) x5 x6 (by omega) (by omega)
theorem op_rate {u : XC} {z : ZW} (h : Rel u z) (a b c d : Int32) : Rd (F_H_rate u a b c d) (F_Z_rate z a b c d) u := by
  have h1 := rl_c (s := 0) (v := 0) (by decide) (by decide) h
  unfold F_H_rate F_Z_rate
  rw [nm_s (a := pz z 0 0 0)]
  generalize pz z 0 0 0 = z1 at h1 ⊢
  have no : ∃ v z', some (-1) = some v ∧ some ((-1 : Int32), z1) = some (v, z') ∧ Rel u z' := ⟨_, z1, rfl, rfl, h1⟩
  rcases is_o a with ⟨n, hn, rfl, e1, e2⟩ | ⟨e1, e2⟩
  · have ix := pa_ix (n := n) (N := 27) hn (by decide)
    rw [e1, e2, bs_s, bs_s, if_neg n10, if_neg n10]
    unfold F_H_isCode F_H_isDay
    by_cases hb : b < 0
    · rw [if_pos hb, if_pos hb, bs_s, if_pos rfl]
      exact no
    · rw [if_neg hb, if_neg hb]
      by_cases hb9 : (9 : Int32) < b
      · have hb1 : (10 : Int32) ≤ b := (le_lt (n := 9) (by decide)).mpr hb9
        rw [if_pos hb9, if_pos hb1, bs_s, if_pos rfl]
        exact no
      · have hb1 : ¬ (10 : Int32) ≤ b := fun e => hb9 ((le_lt (n := 9) (by decide)).mp e)
        rw [if_neg hb9, if_neg hb1, bs_s, if_neg n10]
        by_cases hc : c < 0
        · rw [if_pos hc, if_pos hc, bs_s, if_pos rfl]
          exact no
        · rw [if_neg hc, if_neg hc]
          by_cases hc9 : (999 : Int32) < c
          · have hc1 : (1000 : Int32) ≤ c := (le_lt (n := 999) (by decide)).mpr hc9
            rw [if_pos hc9, if_pos hc1, bs_s, if_pos rfl]
            exact no
          · have hc1 : ¬ (1000 : Int32) ≤ c := fun e => hc9 ((le_lt (n := 999) (by decide)).mp e)
            rw [if_neg hc9, if_neg hc1, bs_s, if_neg n10]
            by_cases hd : d < 0
            · rw [if_pos hd, if_pos hd]
              exact no
            · obtain ⟨m, hm, f1, f2, f3, f4⟩ := fu_s hn (h1.2.1 n hn).2.2.1
              rw [if_neg hd, if_neg hd, if_pos ix, i32_nat (by omega), f1, f2, bs_s, bs_s]
              by_cases hq : d ≤ Int32.ofNat m
              · rw [if_pos hq, if_pos hq]
                obtain ⟨q, q1, rfl⟩ := pa_lt (a := d) (N := 7) (by decide) hd (fun e => absurd (Int32.le_trans e hq) (fun g => absurd ((i32_le (a := 7) (by decide) (by omega)).mp g) (by omega)))
                have hqm : q ≤ m := (i32_le (by omega) (by omega)).mp hq
                obtain ⟨v, v1, v2⟩ := ra_o (c := b) (x3 := c) h1.1 hn hm hqm f3 200 0 (-1) (-1) (Nat.zero_le _) (by omega)
                exact ⟨v, z1, v1, v2, h1⟩
              · rw [if_neg hq, if_neg hq]
                exact no
  · rw [e1, e2, bs_s, bs_s, if_pos rfl, if_pos rfl]
    exact no
