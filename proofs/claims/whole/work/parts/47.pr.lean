theorem th_h {u : XC} {z z1 : ZW} {r : Option (Int32 × XC)} {q : Option ZW} (h : HR z1 r q) (h2 : z1.2 = z.2) (h0 : z1.1 0 0 = 0) (h31 : z1.1 0 31 = 0) : Th3 (bd_ r fun r1 u1 => some (0, r1, u1)) (bs_ q fun z2 => some (z2.1 0 31, z2)) u z := by
  obtain ⟨v, u', z', e1, e2, e3, e4, e5, e6⟩ := h
  rw [e1, e2]
  exact ⟨0, v, v, u', z', rfl, by rw [bs_s, e6, h31, Int32.zero_add], e4.trans h2, Or.inl ⟨rfl, e5.trans h0, rfl, e3⟩⟩
theorem op_deliver {u : XC} {z : ZW} (h : Rel u z) (a : Int32) : Th3 (F_H_deliver u a) (F_Z_deliver z a) u z := by
  unfold F_H_deliver F_Z_deliver
  obtain ⟨w, hL⟩ := h.2.2.1
  rcases is_l hL a with ⟨i, hi, rfl, e1, e2⟩ | ⟨e1, e2⟩
  · rw [e1, e2, bs_s, bs_s, if_neg n10, if_neg n10]
    unfold Fj_Z_deliver_14
    rw [nm_s (a := pz z 0 0 0), show (pz z 0 0 0).1 0 0 = 0 by rw [pz_s, ud_s], if_pos (show (0 : Int32) ≤ 0 by decide)]
    have hz : Rel u (pz z 0 0 0) := rl_c (by decide) (by decide) h
    have y0 : (pz z 0 0 0).1 0 0 = 0 := by rw [pz_s, ud_s]
    have y2 : (pz z 0 0 0).2 = z.2 := rfl
    have yL : RelL u (pz z 0 0 0) w := by
      obtain ⟨w', h'⟩ := hz.2.2.1
      have : w' = w := (pa_eq (by have := h'.1; omega) (by have := hL.1; omega)).mp (h'.2.1.symm.trans hL.2.1)
      rw [← this]; exact h'
    generalize pz z 0 0 0 = z1 at hz y0 y2 yL ⊢
    have hw := hL.1
    obtain ⟨z2, c1, c2, c3, c4, c5⟩ := cl_s z1 (i := i) (j := 150) (by omega) (by decide)
    have L2 : RelL u z2 w := by
      obtain ⟨a1, a2, a3, a4, a5⟩ := yL
      exact ⟨a1, a2, by rw [c3]; exact a3, a4, fun j hj => by rw [c5 j (by omega)]; exact a5 j hj⟩
    obtain ⟨l, u1, z3, b1, b2, b3, b4, b5, b6, b7, b8, b9, b10, b11⟩ := tt_s L2 hi
    have c1' : F_Z_copyLetter z1 (Int32.ofNat i) 150 = some z2 := c1
    rw [b1, bd_s, if_pos b3, c1', bs_s, b2, bs_s, nm_s (a := pz z3 0 31 0)]
    have hv : LV (u1.1 7 l) (lz z3 150) := by
      rw [b11, b7 7 (by decide), b6]
      exact lv_c c4 (yL.2.2.2.2 i hi)
    have h3 : Rel u1 z3 := by
      refine ⟨rd_d (rd_f hz.1 FU.rf c2) ⟨b7 0 (by decide), b7 5 (by decide), b7 12 (by decide), b7 13 (by decide)⟩ b8.d, ?_, ⟨_, b10⟩, rb_f (rb_f hz.2.2.2 (c2.2.1 6 (by decide) (by decide)) c2.2.2.1) (b8.2.1 6 (by decide) (by decide)) b8.2.2.1⟩
      exact ro_f (u' := (u1.1, u.2)) hz.2.1 ⟨rfl, fun k _ h3 => b7 k h3⟩ (c2.tr b8)
    have h4 : Rel u1 (pz z3 0 31 0) := rl_c (by decide) (by decide) h3
    have q0 : (pz z3 0 31 0).1 0 0 = 0 := by rw [pz_s, ud_n (by decide), (c2.tr b8).2.2.2, y0]
    have q2 : (pz z3 0 31 0).2 = z.2 := (c2.tr b8).1.trans y2
    have q31 : (pz z3 0 31 0).1 0 31 = 0 := by rw [pz_s, ud_s]
    have hv4 : LV (u1.1 7 l) (lz (pz z3 0 31 0) 150) := by
      have e : lz (pz z3 0 31 0) 150 = lz z3 150 := by
        funext s
        unfold lz
        rw [pz_k (by omega)]
      rw [e]; exact hv
    generalize pz z3 0 31 0 = z4 at h4 q0 q2 q31 hv4 ⊢
    have t150 : (150 : Int32).toNatClampNeg = 150 := by decide
    have i150 : (0 : Int32) ≤ 150 ∧ 150 < 151 := by decide
    obtain ⟨v1, v2, ⟨p, hp, v3⟩, ⟨o, ho, v4⟩, v5, v6⟩ := hv4
    have w0 : u1.1 7 l 0 = z4.1 21 150 := v1 0 (by decide)
    have w1 : u1.1 7 l 1 = z4.1 22 150 := v1 1 (by decide)
    have w2 : u1.1 7 l 2 = z4.1 23 150 := v1 2 (by decide)
    have w3 : u1.1 7 l 3 = z4.1 24 150 := v1 3 (by decide)
    have w4 : u1.1 7 l 4 = z4.1 25 150 := v1 4 (by decide)
    have w5 : u1.1 7 l 5 = z4.1 26 150 := v1 5 (by decide)
    have w6 : u1.1 7 l 6 = z4.1 27 150 := v1 6 (by decide)
    have v3' : z4.1 22 150 = Int32.ofNat p := v3
    have v4' : z4.1 23 150 = Int32.ofNat o := v4
    have v2' : 0 < z4.1 27 150 → u1.1 7 l 7 = z4.1 28 150 ∧ dr (z4.1 28 150) := v2
    have v5' : z4.1 21 150 = 2 ∨ ∃ n, n < 6 ∧ z4.1 25 150 = Int32.ofNat n := v5
    have v6' : z4.1 21 150 = 0 ∨ z4.1 21 150 = 1 ∨ z4.1 21 150 = 2 ∨ z4.1 21 150 = 4 ∨ dr (z4.1 26 150) := v6
    have ix2 : (0 : Int32) ≤ Int32.ofNat o ∧ o < 27 := ⟨pa_nn (by omega), ho⟩
    have tn := i32_nat (a := o) (by omega)
    rw [v3'] at w1
    simp only [t150, if_pos i150, w0, w2, v3', v4', tn, if_pos ix2, (h4.2.1 o ho).1.2.2.1]
    by_cases hf : z4.1 5 o = 0
    · rw [if_pos hf, if_pos hf]
      by_cases k0 : z4.1 21 150 = 0
      · rw [if_pos k0, if_pos k0]
        rcases v5' with e | ⟨n, hn, e⟩
        · rw [k0] at e; exact absurd e (by decide)
        · rw [e]
          exact th_h (h_ask h4 ho hp hn b5.symm w1 w3 (w4.trans e)) q2 q0 q31
      · rw [if_neg k0, if_neg k0]
        by_cases k1 : z4.1 21 150 = 1
        · rw [if_pos k1, if_pos k1]
          exact th_h (h_giv h4 ho w1 w3 w6 v2') q2 q0 q31
        · rw [if_neg k1, if_neg k1]
          by_cases k2 : z4.1 21 150 = 2
          · rw [if_pos k2, if_pos k2]
            have hh := th_h (u := u) (h_no (o := o) h4 ho w3 w5) q2 q0 q31
            by_cases g1 : z4.1 11 o ≤ 0
            · rw [if_pos g1] at hh ⊢
              exact hh
            · rw [if_neg g1] at hh ⊢
              by_cases g2 : z4.1 14 o = z4.1 24 150
              · rw [if_pos g2] at hh ⊢
                exact hh
              · rw [if_neg g2] at hh ⊢
                exact hh
          · have hn5 : ∃ n, n < 6 ∧ z4.1 25 150 = Int32.ofNat n := v5'.resolve_left k2
            obtain ⟨n, hn, e⟩ := hn5
            rw [if_neg k2, if_neg k2]
            by_cases k3 : z4.1 21 150 = 3
            · rw [if_pos k3, if_pos k3]
              obtain ⟨d, hd, ed⟩ : dr (z4.1 26 150) := by
                rcases v6' with g | g | g | g | g
                · exact absurd g k0
                · exact absurd g k1
                · exact absurd g k2
                · rw [k3] at g; exact absurd g (by decide)
                · exact g
              rw [e, ed]
              exact th_h (h_set h4 ho hp hn hd b5.symm w1 w3 (w4.trans e) (w5.trans ed)) q2 q0 q31
            · rw [if_neg k3, if_neg k3]
              by_cases k4 : z4.1 21 150 = 4
              · rw [if_pos k4, if_pos k4]
                exact th_h (h_tak h4 ho w1 w3) q2 q0 q31
              · rw [if_neg k4, if_neg k4]
                obtain ⟨d, hd, ed⟩ : dr (z4.1 26 150) := by
                  rcases v6' with g | g | g | g | g
                  · exact absurd g k0
                  · exact absurd g k1
                  · exact absurd g k2
                  · exact absurd g k4
                  · exact g
                rw [w4, w5, e, ed]
                exact th_h (h_learn h4 ho hn hd) q2 q0 q31
    · rw [if_neg hf, if_neg hf]
      exact ⟨0, 0, 0, u1, z4, rfl, rfl, q2, Or.inl ⟨rfl, q0, rfl, h4⟩⟩
  · rw [e1, e2, bs_s, bs_s, if_pos rfl, if_pos rfl]
    unfold Fj_Z_deliver_14
    rw [nm_s (a := pz z 0 0 1), show (pz z 0 0 1).1 0 0 = 1 by rw [pz_s, ud_s], if_neg (show ¬ (1 : Int32) ≤ 0 by decide)]
    exact ⟨3, 0, 0, u, _, rfl, rfl, rfl, Or.inr ⟨by decide, by rw [pz_s, ud_s]; rfl, rl_c (by decide) (by decide) h⟩⟩
