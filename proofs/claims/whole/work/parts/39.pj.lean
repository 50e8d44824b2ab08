theorem le_lt {a : Int32} {n : Nat} (h : n + 1 < 2147483648) : (Int32.ofNat (n + 1) ≤ a) ↔ (Int32.ofNat n < a) := by
  rw [Int32.le_iff_toInt_le, Int32.lt_iff_toInt_lt, Int32.toInt_ofNat_of_lt h, Int32.toInt_ofNat_of_lt (by omega)]
  omega
theorem op_draft {u : XC} {z : ZW} (h : Rel u z) (a b : Int32) : Wr (F_H_draft u a b) (F_Z_draft z a b) := by
  have h1 := rl_c (s := 0) (v := 0) (by decide) (by decide) h
  unfold F_H_draft F_Z_draft
  rw [nm_s (a := pz z 0 0 0)]
  generalize pz z 0 0 0 = z1 at h1 ⊢
  rcases is_o a with ⟨n, hn, rfl, e1, e2⟩ | ⟨e1, e2⟩
  · have ix := pa_ix (n := n) (N := 27) hn (by decide)
    have tn := i32_nat (a := n) (by omega)
    have ix2 : (0 : Int32) ≤ Int32.ofNat n ∧ n < 27 := ⟨ix.1, hn⟩
    obtain ⟨hA, hR, hK, hT⟩ := h1.2.1 n hn
    obtain ⟨a1, a2, a3, a4, a5⟩ := hA
    rw [e1, e2, bs_s, bs_s, if_neg n10, if_neg n10]
    unfold F_H_isDay
    by_cases hb : b < 0
    · rw [if_pos hb, if_pos hb, bs_s, if_pos rfl]
      exact ⟨_, u, z1, rfl, rfl, h1⟩
    · rw [if_neg hb, if_neg hb]
      by_cases hc : (999 : Int32) < b
      · have hc1 : (1000 : Int32) ≤ b := (le_lt (n := 999) (by decide)).mpr hc
        rw [if_pos hc, if_pos hc1, bs_s, if_pos rfl]
        exact ⟨_, u, z1, rfl, rfl, h1⟩
      · have hc1 : ¬ (1000 : Int32) ≤ b := fun e => hc ((le_lt (n := 999) (by decide)).mp e)
        rw [if_neg hc, if_neg hc1, bs_s, if_neg n10]
        simp only [tn, if_pos ix2, a3]
        by_cases hf : z1.1 5 n = 0
        · rw [if_pos hf, if_pos hf]
          obtain ⟨d, hd, d1, d2, d3⟩ := h1.1
          rw [d1, d2]
          by_cases h40 : d = 40
          · subst h40
            rw [if_pos (by decide), if_pos (by decide)]
            exact ⟨_, u, z1, rfl, rfl, h1⟩
          · have hd4 : d < 40 := by omega
            have nd : ¬ Int32.ofNat d = 40 := fun e => h40 ((pa_eq (b := 40) (by omega) (by decide)).mp e)
            have id := pa_ix (n := d) (N := 40) hd4 (by decide)
            have td := i32_nat (a := d) (by omega)
            rw [if_neg nd, if_neg nd, if_pos id, if_pos id, td]
            simp only [nm_s]
            rw [show (pu u 5 d 0 b).1 0 0 3 = Int32.ofNat d by rw [pu_k (by decide)]; exact d1, show (pz z1 1 d b).1 0 1 = Int32.ofNat d by rw [pz_k (by decide)]; exact d2, if_pos id, td]
            rw [show (pu (pu u 5 d 0 b) 4 n 6 (Int32.ofNat d)).1 0 0 3 = Int32.ofNat d by rw [pu_k (by decide), pu_k (by decide)]; exact d1, show (pz (pz z1 1 d b) 2 d 0).1 0 1 = Int32.ofNat d by rw [pz_k (by decide), pz_k (by decide)]; exact d2]
            have ed : Int32.ofNat d + 1 = Int32.ofNat (d + 1) := by rw [Int32.ofNat_add]; rfl
            have es : Int32.ofNat (d + 1) - 1 = Int32.ofNat d := pc_sub (a := d + 1) (b := 1) (by omega)
            rw [ed]
            rw [show (pz (pz (pz z1 1 d b) 2 d 0) 0 1 (Int32.ofNat (d + 1))).1 0 1 = Int32.ofNat (d + 1) by rw [pz_s, ud_s]]
            rw [show (pu (pu (pu u 5 d 0 b) 4 n 6 (Int32.ofNat d)) 0 0 3 (Int32.ofNat (d + 1))).1 4 n 6 = Int32.ofNat d by rw [pu_k (by decide), pu_s, ud_s], show (pz (pz (pz (pz z1 1 d b) 2 d 0) 0 1 (Int32.ofNat (d + 1))) 6 n (Int32.ofNat (d + 1))).1 0 1 = Int32.ofNat (d + 1) by rw [pz_k (by decide), pz_s, ud_s], es]
            refine ⟨Int32.ofNat d, _, _, rfl, rfl, ?_, ?_, ?_, ?_⟩
            · refine ⟨d + 1, by omega, ?_, ?_, fun i hi => ?_⟩
              · rw [pu_s, ud_s]
              · rw [pz_k (by decide), pz_s, ud_s]
              · obtain ⟨⟨m, m1, m2, m3, m4, m5⟩, m6, m7⟩ := d3 i hi
                refine ⟨⟨m, m1, ?_, ?_, fun h => m4 (by omega), ?_⟩, ?_, fun k hk => ?_⟩
                · rw [pu_k (by decide), pu_k (by decide), ← m2]
                  by_cases ei : i = d
                  · subst ei; rw [pu_s, ud_n (by decide)]
                  · rw [pu_i ei]
                · rw [pz_k (by decide), pz_k (by decide), pz_s]
                  by_cases ei : i = d
                  · subst ei; rw [ud_s, m4 (Nat.le_refl _)]; rfl
                  · rw [ud_n ei, pz_k (by decide), m3]
                · rw [pu_k (by decide), pu_k (by decide), pu_k (by decide)]; exact m5
                · rw [pu_k (by decide), pu_k (by decide), pz_k (by decide), pz_k (by decide), pz_k (by decide), pz_s]
                  by_cases ei : i = d
                  · subst ei; rw [pu_s, ud_s, ud_s]
                  · rw [pu_i ei, ud_n ei, m6]
                · simp [pu_k, pz_k]
                  exact m7 k hk
            · refine ro_1 (o := n) h1.2.1 (fun o' h => ?_) (fun o' h => ?_) (fun o' h => ?_) (fun o' h => ?_) (fun o' h => ?_) (fun k o' h _ _ _ => ?_) (fun k o' m h _ h1 h2 => ?_) (fun _ => ⟨?_, ?_, ?_, ?_⟩)
              · simp [pu_k, pu_i h]
              · simp [pu_k]
              · simp [pu_k]
              · simp [pu_k]
              · simp [pu_k]
              · rw [pz_i h, pz_k (by omega), pz_k (by omega), pz_k (by omega)]
              · rw [pz_k (by omega), pz_k (by omega), pz_k (by omega), pz_k (by omega)]
              · unfold RA OA_
                simp [pu_s, pu_k, pz_s, pz_k, upd, a1, a2, a3, a4]
                exact ⟨d + 1, by omega, ed, es.symm⟩
              · unfold RR
                simp [pu_k, pz_k]
                exact hR
              · unfold RK
                simp [pu_k, pz_k]
                exact hK
              · unfold RT
                simp [pu_k, pz_k]
                exact hT
            · obtain ⟨w, hL⟩ := h1.2.2.1
              refine ⟨w, rl_f hL rfl ?_ ?_ ?_ (fun k h => ?_)⟩
              · simp [pu_k]
              · simp [pu_k]
              · rw [pz_k (by decide), pz_s, ud_n (by decide), pz_k (by decide), pz_k (by decide)]
              · rw [pz_k (by omega), pz_k (by omega), pz_k (by omega), pz_k (by omega)]
            · intro o' ho'
              obtain ⟨m, q, m1, m2, m3, m4⟩ := h1.2.2.2 o' ho'
              have eq : q = d := (pa_eq (by omega) (by omega)).mp (m4.symm.trans d2)
              subst eq
              rw [pz_s, pz_k (by decide), pz_k (by decide), pz_k (by decide), pz_k (k := 6) (k' := 0) (by decide), pz_s, ud_s]
              by_cases e : o' = n
              · subst e
                exact ⟨q + 1, q + 1, Nat.le_refl _, by omega, by rw [ud_s], rfl⟩
              · exact ⟨m, q + 1, by omega, by omega, by rw [ud_n e]; exact m3, rfl⟩
        · rw [if_neg hf, if_neg hf]
          exact ⟨_, u, z1, rfl, rfl, h1⟩
  · rw [e1, e2, bs_s, bs_s, if_pos rfl, if_pos rfl]
    exact ⟨_, u, z1, rfl, rfl, h1⟩
theorem lo_l {u : XC} {d m : Nat} {c : Int32} (hm : m ≤ 4) (hl : u.1 5 d 1 = Int32.ofNat m) : ∀ (f t : Nat), t ≤ m → 5 ≤ f + t → (∀ k, k < t → u.1 12 d k ≠ c) →
    (∃ k, k < m ∧ u.1 12 d k = c ∧ Fl_T_lineOf_2 f u d c (Int32.ofNat t) = some (Int32.ofNat k)) ∨ ((∀ k, k < m → u.1 12 d k ≠ c) ∧ Fl_T_lineOf_2 f u d c (Int32.ofNat t) = some (-1)) := by
  intro f
  induction f with
  | zero => intro t h1 h2; omega
  | succ f ih =>
    intro t h1 h2 hp
    rw [Fl_T_lineOf_2, hl]
    by_cases e : t = m
    · subst e
      rw [if_pos (Int32.le_refl _)]
      exact Or.inr ⟨hp, rfl⟩
    · have n1 : ¬ Int32.ofNat m ≤ Int32.ofNat t := fun g => absurd ((i32_le (by omega) (by omega)).mp g) (by omega)
      rw [if_neg n1, if_pos (pa_ix (n := t) (N := 4) (by omega) (by decide)), i32_nat (by omega)]
      by_cases hc : u.1 12 d t = c
      · rw [if_pos hc]
        exact Or.inl ⟨t, by omega, hc, rfl⟩
      · rw [if_neg hc, show Int32.ofNat t + 1 = Int32.ofNat (t + 1) by rw [Int32.ofNat_add]; rfl]
        refine ih (t + 1) (by omega) (by omega) (fun k hk => ?_)
        by_cases ek : k = t
        · subst ek; exact hc
        · exact hp k (by omega)
theorem ix_4 : ∀ i < 40, ∀ k < 4, (4 * Int32.ofNat i) + Int32.ofNat k = Int32.ofNat (4 * i + k) := by decide +kernel
theorem ln_1 {z : ZW} {d m : Nat} {c x : Int32} (hd : d < 40) (hm : m ≤ 4) (hl : z.1 2 d = Int32.ofNat m) : ∀ (f t : Nat), t ≤ m → 5 ≤ f + t → Fl_Z_line_60 f z c x (Int32.ofNat d) 1 (Int32.ofNat t) = Fj_Z_line_106 z c x (Int32.ofNat d) 1 := by
  intro f
  induction f with
  | zero => intro t h1 h2; omega
  | succ f ih =>
    intro t h1 h2
    rw [Fl_Z_line_60, if_pos (pa_ix (n := d) (N := 40) hd (by decide)), i32_nat (by omega), hl]
    by_cases e : t = m
    · subst e
      rw [if_pos (Int32.le_refl _)]
    · have n1 : ¬ Int32.ofNat m ≤ Int32.ofNat t := fun g => absurd ((i32_le (by omega) (by omega)).mp g) (by omega)
      rw [if_neg n1, if_neg n10, show Int32.ofNat t + 1 = Int32.ofNat (t + 1) by rw [Int32.ofNat_add]; rfl]
      exact ih (t + 1) (by omega) (by omega)
theorem ln_0 {z : ZW} {d m : Nat} {c x : Int32} (hd : d < 40) (hm : m ≤ 4) (hl : z.1 2 d = Int32.ofNat m) : ∀ (f t : Nat), t ≤ m → 5 ≤ f + t →
    ((∃ k, t ≤ k ∧ k < m ∧ z.1 3 (4 * d + k) = c) → Fl_Z_line_60 f z c x (Int32.ofNat d) 0 (Int32.ofNat t) = Fj_Z_line_106 z c x (Int32.ofNat d) 1) ∧ ((∀ k, t ≤ k → k < m → z.1 3 (4 * d + k) ≠ c) → Fl_Z_line_60 f z c x (Int32.ofNat d) 0 (Int32.ofNat t) = Fj_Z_line_106 z c x (Int32.ofNat d) 0) := by
  intro f
  induction f with
  | zero => intro t h1 h2; omega
  | succ f ih =>
    intro t h1 h2
    rw [Fl_Z_line_60, if_pos (pa_ix (n := d) (N := 40) hd (by decide)), i32_nat (by omega), hl]
    by_cases e : t = m
    · subst e
      rw [if_pos (Int32.le_refl _)]
      exact ⟨fun ⟨k, a, b, _⟩ => absurd a (by omega), fun _ => rfl⟩
    · have n1 : ¬ Int32.ofNat m ≤ Int32.ofNat t := fun g => absurd ((i32_le (by omega) (by omega)).mp g) (by omega)
      rw [if_neg n1, if_pos rfl, ix_4 d hd t (by omega), if_pos (pa_ix (n := 4 * d + t) (N := 160) (by omega) (by decide)), i32_nat (by omega), show Int32.ofNat t + 1 = Int32.ofNat (t + 1) by rw [Int32.ofNat_add]; rfl]
      by_cases hc : z.1 3 (4 * d + t) = c
      · rw [if_pos hc, ln_1 hd hm hl f (t + 1) (by omega) (by omega)]
        exact ⟨fun _ => rfl, fun g => absurd hc (g t (Nat.le_refl _) (by omega))⟩
      · rw [if_neg hc]
        obtain ⟨i1, i2⟩ := ih (t + 1) (by omega) (by omega)
        refine ⟨fun ⟨k, a, b, g⟩ => i1 ⟨k, ?_, b, g⟩, fun g => i2 (fun k a b => g k (by omega) b)⟩
        by_cases ek : k = t
        · subst ek; exact absurd g hc
        · omega
theorem op_line {u : XC} {z : ZW} (h : Rel u z) (a c x : Int32) : Wr (F_H_line u a c x) (F_Z_line z a c x) := by
  have h1 := rl_c (s := 0) (v := 0) (by decide) (by decide) h
  unfold F_H_line F_Z_line
  rw [nm_s (a := pz z 0 0 0)]
  generalize pz z 0 0 0 = z1 at h1 ⊢
  rcases is_o a with ⟨n, hn, rfl, e1, e2⟩ | ⟨e1, e2⟩
  · have ix := pa_ix (n := n) (N := 27) hn (by decide)
    have tn := i32_nat (a := n) (by omega)
    have ix2 : (0 : Int32) ≤ Int32.ofNat n ∧ n < 27 := ⟨ix.1, hn⟩
    obtain ⟨hA, hR, hK, hT⟩ := h1.2.1 n hn
    obtain ⟨a1, a2, a3, a4, b, b1, b2, b3⟩ := hA
    rw [e1, e2, bs_s, bs_s, if_neg n10, if_neg n10]
    simp only [tn, if_pos ix2, b2, b3]
    obtain ⟨k1, k2⟩ := kn_0 b (by omega)
    by_cases hb : b = 0
    · rw [if_pos (k1.mpr hb), if_pos (by rw [hb]; rfl)]
      exact ⟨_, u, z1, rfl, rfl, h1⟩
    · have hb' : ¬ Int32.ofNat b = 0 := fun e => hb ((pa_eq (b := 0) (by omega) (by decide)).mp e)
      rw [if_neg (fun e => hb (k1.mp e)), if_neg hb']
      unfold F_H_isCode
      by_cases hc : c < 0
      · rw [if_pos hc, if_pos hc, bs_s, if_pos rfl]
        exact ⟨_, u, z1, rfl, rfl, h1⟩
      · rw [if_neg hc, if_neg hc]
        by_cases hc9 : (9 : Int32) < c
        · have hc1 : (10 : Int32) ≤ c := (le_lt (n := 9) (by decide)).mpr hc9
          rw [if_pos hc9, if_pos hc1, bs_s, if_pos rfl]
          exact ⟨_, u, z1, rfl, rfl, h1⟩
        · have hc1 : ¬ (10 : Int32) ≤ c := fun e => hc9 ((le_lt (n := 9) (by decide)).mp e)
          rw [if_neg hc9, if_neg hc1, bs_s, if_neg n10]
          by_cases hx : x < 0
          · rw [if_pos hx, if_pos hx]
            exact ⟨_, u, z1, rfl, rfl, h1⟩
          · rw [if_neg hx, if_neg hx]
            by_cases hx1 : x < 10000
            · have hx2 : x ≤ 9999 := Int32.not_lt.mp (fun e => absurd ((le_lt (n := 9999) (by decide)).mpr e) (Int32.not_le.mpr hx1))
              rw [if_pos hx1, if_pos hx2]
              obtain ⟨d, rfl⟩ : ∃ d, b = d + 1 := ⟨b - 1, by omega⟩
              have es : Int32.ofNat (d + 1) - 1 = Int32.ofNat d := pc_sub (a := d + 1) (b := 1) (by omega)
              have hd : d < 40 := by omega
              have td := i32_nat (a := d) (by omega)
              rw [es, if_pos (pa_ix (n := d) (N := 40) hd (by decide)), td]
              obtain ⟨q, q1, q2, q3, q4⟩ := h1.1
              obtain ⟨⟨m, m1, m2, m3, m4, m5⟩, m6, m7⟩ := q4 d hd
              obtain ⟨l1, l2⟩ := ln_0 (c := c) (x := x) hd m1 m3 200 0 (Nat.zero_le _) (by omega)
              unfold F_T_write
              rw [m2]
              rcases lo_l (c := c) m1 m2 200 0 (Nat.zero_le _) (by omega) (fun k hk => absurd hk (by omega)) with ⟨k, g1, g2, g3⟩ | ⟨g1, g3⟩
              · have e3 : Fl_Z_line_60 200 z1 c x (Int32.ofNat d) 0 0 = Fj_Z_line_106 z1 c x (Int32.ofNat d) 1 := l1 ⟨k, Nat.zero_le _, g1, by rw [← (m7 k (by omega)).1]; exact g2⟩
                have e4 : F_T_lineOf u d c = some (Int32.ofNat k) := g3
                have nk : ¬ Int32.ofNat k = -1 := fun e => absurd (pa_nn (n := k) (by omega)) (by rw [e]; decide)
                rw [e3, e4, bs_s, if_neg nk]
                unfold Fj_Z_line_106
                rw [if_neg n10]
                by_cases hm4 : Int32.ofNat m = 4
                · rw [if_pos hm4, bd_s, if_pos (Or.inl rfl)]
                  exact ⟨_, u, z1, rfl, rfl, h1⟩
                · rw [if_neg hm4, bd_s, if_pos (Or.inl rfl)]
                  exact ⟨_, u, z1, rfl, rfl, h1⟩
              · have e3 : Fl_Z_line_60 200 z1 c x (Int32.ofNat d) 0 0 = Fj_Z_line_106 z1 c x (Int32.ofNat d) 0 := l2 (fun k _ hk => by rw [← (m7 k (by omega)).1]; exact g1 k hk)
                have e4 : F_T_lineOf u d c = some (-1) := g3
                rw [e3, e4, bs_s, if_pos rfl]
                unfold Fj_Z_line_106
                have id := pa_ix (n := d) (N := 40) hd (by decide)
                rw [if_pos rfl, if_pos id, td, m3]
                by_cases hm4 : m = 4
                · subst hm4
                  rw [if_pos (by decide), if_pos (by decide), bd_s, if_pos (Or.inl rfl)]
                  exact ⟨_, u, z1, rfl, rfl, h1⟩
                · have hm4' : ¬ Int32.ofNat m = 4 := fun e => hm4 ((pa_eq (b := 4) (by omega) (by decide)).mp e)
                  have hmd : d < q := by
                    obtain ⟨m', q', w1, w2, w3, w4⟩ := h1.2.2.2 n hn
                    have v1 : m' = d + 1 := (pa_eq (by omega) (by omega)).mp (w3.symm.trans b2)
                    have v2 : q' = q := (pa_eq (by omega) (by omega)).mp (w4.symm.trans q3)
                    omega
                  have im := pa_ix (n := m) (N := 4) (by omega) (by decide)
                  have tm := i32_nat (a := m) (by omega)
                  have i4 := ix_4 d hd m (by omega)
                  have ip := pa_ix (n := 4 * d + m) (N := 160) (by omega) (by decide)
                  have tp := i32_nat (a := 4 * d + m) (by omega)
                  have id2 : (0 : Int32) ≤ Int32.ofNat d ∧ d < 40 := ⟨id.1, hd⟩
                  rw [if_neg hm4', if_neg hm4', if_pos im, tm]
                  simp only [nm_s, i4, if_pos id2]
                  rw [if_pos ip, tp]
                  rw [show (pu u 12 d m c).1 5 d 1 = Int32.ofNat m by rw [pu_k (by decide)]; exact m2, if_pos im, tm, show (pz z1 3 (4 * d + m) c).1 2 d = Int32.ofNat m by rw [pz_k (by decide)]; exact m3, i4, if_pos ip, tp]
                  rw [show (pu (pu u 12 d m c) 13 d m x).1 5 d 1 = Int32.ofNat m by rw [pu_k (by decide), pu_k (by decide)]; exact m2, show (pz (pz z1 3 (4 * d + m) c) 4 (4 * d + m) x).1 2 d = Int32.ofNat m by rw [pz_k (by decide), pz_k (by decide)]; exact m3, bd_s, if_pos (Or.inr rfl)]
                  have em : Int32.ofNat m + 1 = Int32.ofNat (m + 1) := by rw [Int32.ofNat_add]; rfl
                  rw [em]
                  refine ⟨1, _, _, rfl, rfl, ⟨q, q1, ?_, ?_, fun i hi => ?_⟩, ?_, ?_, ?_⟩
                  · rw [pu_k (by decide), pu_k (by decide), pu_k (by decide)]; exact q2
                  · rw [pz_k (by decide), pz_k (by decide), pz_k (by decide)]; exact q3
                  · obtain ⟨⟨t, t1, t2, t3, t4, t5⟩, t6, t7⟩ := q4 i hi
                    by_cases ei : i = d
                    · subst ei
                      refine ⟨⟨m + 1, by omega, ?_, ?_, fun g => absurd g (by omega), fun k l hk hl => ?_⟩, ?_, fun k hk => ⟨?_, ?_⟩⟩
                      · rw [pu_s, ud_s]
                      · rw [pz_s, ud_s]
                      · rw [pu_k (by decide), pu_k (by decide), pu_s]
                        by_cases el : l = m
                        · subst el
                          rw [ud_s, ud_n (by omega)]
                          exact g1 k (by omega)
                        · rw [ud_n el, ud_n (by omega)]
                          exact m5 k l hk (by omega)
                      · rw [pu_s, ud_n (by decide), pu_k (by decide), pu_k (by decide), pz_k (by decide), pz_k (by decide), pz_k (by decide)]
                        exact t6
                      · rw [pu_k (by decide), pu_k (by decide), pu_s, pz_k (by decide), pz_k (by decide), pz_s]
                        by_cases ek : k = m
                        · subst ek; rw [ud_s, ud_s]
                        · rw [ud_n ek, ud_n (by omega)]; exact (t7 k hk).1
                      · rw [pu_k (by decide), pu_s, pu_k (by decide), pz_k (by decide), pz_s, pz_k (by decide)]
                        by_cases ek : k = m
                        · subst ek; rw [ud_s, ud_s]
                        · rw [ud_n ek, ud_n (by omega)]; exact (t7 k hk).2
                    · refine ⟨⟨t, t1, ?_, ?_, t4, fun k l hk hl => ?_⟩, ?_, fun k hk => ⟨?_, ?_⟩⟩
                      · rw [pu_i ei, pu_k (by decide), pu_k (by decide)]; exact t2
                      · rw [pz_s, ud_n ei, pz_k (by decide), pz_k (by decide)]; exact t3
                      · rw [pu_k (by decide), pu_k (by decide), pu_i ei]; exact t5 k l hk hl
                      · rw [pu_i ei, pu_k (by decide), pu_k (by decide), pz_k (by decide), pz_k (by decide), pz_k (by decide)]; exact t6
                      · rw [pu_k (by decide), pu_k (by decide), pu_i ei, pz_k (by decide), pz_k (by decide), pz_s, ud_n (by omega)]; exact (t7 k hk).1
                      · rw [pu_k (by decide), pu_i ei, pu_k (by decide), pz_k (by decide), pz_s, ud_n (by omega), pz_k (by decide)]; exact (t7 k hk).2
                  · intro o' ho'
                    obtain ⟨hA, hR, hK, hT⟩ := h1.2.1 o' ho'
                    unfold RA RR RK RT
                    simp [pu_k, pz_k]
                    exact ⟨hA, hR, hK, hT⟩
                  · obtain ⟨w, hL⟩ := h1.2.2.1
                    refine ⟨w, rl_f hL rfl ?_ ?_ ?_ (fun k h => ?_)⟩
                    · simp [pu_k]
                    · simp [pu_k]
                    · simp [pz_k]
                    · rw [pz_k (by omega), pz_k (by omega), pz_k (by omega)]
                  · exact rb_f h1.2.2.2 (by rw [pz_k (by decide), pz_k (by decide), pz_k (by decide)]) (by rw [pz_k (by decide), pz_k (by decide), pz_k (by decide)])
            · have hx2 : ¬ x ≤ 9999 := fun e => hx1 (Int32.not_le.mp (fun g => absurd ((le_lt (n := 9999) (by decide)).mp g) (Int32.not_lt.mpr e)))
              rw [if_neg hx1, if_neg hx2]
              exact ⟨_, u, z1, rfl, rfl, h1⟩
  · rw [e1, e2, bs_s, bs_s, if_pos rfl, if_pos rfl]
    exact ⟨_, u, z1, rfl, rfl, h1⟩
