theorem lv_cf {f f' h : Nat → Int32} (e : ∀ s, s < 8 → f' s = f s) (g : LV f h) : LV f' h :=
  ⟨fun s hs => (e s (by omega)).trans (g.1 s hs), fun h0 => ⟨(e 7 (by decide)).trans (g.2.1 h0).1, (g.2.1 h0).2⟩, g.2.2⟩
theorem op_twin {u : XC} {z : ZW} (h : Rel u z) (a : Int32) : Wr (F_H_twin u a) (F_Z_twin z a) := by
  have h1 := rl_c (s := 0) (v := 0) (by decide) (by decide) h
  unfold F_H_twin F_Z_twin
  rw [nm_s (a := pz z 0 0 0)]
  generalize pz z 0 0 0 = z1 at h1 ⊢
  obtain ⟨w, hL⟩ := h1.2.2.1
  rcases is_l hL a with ⟨i, hi, rfl, e1, e2⟩ | ⟨e1, e2⟩
  · rw [e1, e2, bs_s, bs_s, if_neg n10, if_neg n10, hL.2.1, hL.2.2.1]
    have hw := hL.1
    by_cases h150 : w = 150
    · subst h150
      rw [if_pos (by decide), if_pos (by decide)]
      exact ⟨_, u, z1, rfl, rfl, h1⟩
    · have hn : ¬ Int32.ofNat w = 150 := fun e => h150 ((pa_eq (b := 150) (by omega) (by decide)).mp e)
      have hlt : w < 150 := by omega
      rw [if_neg hn, if_neg hn]
      obtain ⟨z2, c1, c2, c3, c4, c5⟩ := cl_s z1 (i := i) (j := w) (by omega) (by omega)
      obtain ⟨hq, q1, q2, pm, hl⟩ := id hL
      unfold F_M_copyToEnd
      rw [if_pos (pa_ix (n := i) (N := 150) (by omega) (by decide)), i32_nat (by omega), if_pos (pm.1 i (by omega)).1]
      generalize hj : u.2.1 i = j
      obtain ⟨l, u1, e, hLU, d0, d1, d2, d3⟩ := po_s hL (u.1 7 j 0) (u.1 7 j 1) (u.1 7 j 2)
      have el : l = u.2.1 w := hLU.2.2.1 hlt
      have hjl : j ≠ l := by
        rw [el, ← hj]
        exact fun e => absurd (pm.2.1 i w (by omega) hlt e) (by omega)
      have kj : u1.1 7 j = u.1 7 j := hLU.2.2.2.2.2 j hjl
      rw [e, bd_s, if_pos hLU.2.1, c1, bs_s]
      simp only [nm_s, pu_i hjl, kj]
      rw [c3, hL.2.2.1]
      have hLU5 := lu_put (s := 7) (v := u.1 7 j 7) (lu_put (s := 6) (v := u.1 7 j 6) (lu_put (s := 5) (v := u.1 7 j 5) (lu_put (s := 4) (v := u.1 7 j 4) (lu_put (s := 3) (v := u.1 7 j 3) hLU))))
      have hZ : LZ z1 (pz z2 0 22 (Int32.ofNat w + 1)) w := by
        refine ⟨⟨c2.1, fun k g1 g2 => by rw [pz_k (by omega)]; exact c2.2.1 k g1 g2, by rw [pz_s, ud_n (by decide)]; exact c2.2.2.1, by rw [pz_s, ud_n (by decide)]; exact c2.2.2.2⟩, ?_, fun k hk => ?_⟩
        · rw [pz_s, ud_s]
          unfold nx
          rw [if_pos hlt, Int32.ofNat_add]
          rfl
        · have e1 : lz (pz z2 0 22 (Int32.ofNat w + 1)) k = lz z2 k := by
            funext s
            unfold lz
            rw [pz_k (by omega)]
          rw [e1]
          exact c5 k (hk hlt)
      refine ⟨1, _, _, rfl, rfl, rel_s h1 hLU5.1 hZ.1 (rl_push hL hLU5 hZ (fun _ => ?_))⟩
      have e1 : lz (pz z2 0 22 (Int32.ofNat w + 1)) w = lz z2 w := by
        funext s
        unfold lz
        rw [pz_k (by omega)]
      rw [e1]
      refine lv_c c4 (lv_cf (f := u.1 7 j) (fun s hs => ?_) (by rw [← hj]; exact hl i hi))
      rcases (show s = 0 ∨ s = 1 ∨ s = 2 ∨ s = 3 ∨ s = 4 ∨ s = 5 ∨ s = 6 ∨ s = 7 by omega) with rfl | rfl | rfl | rfl | rfl | rfl | rfl | rfl <;> simp [pu_s, upd, d0, d1, d2]
  · rw [e1, e2, bs_s, bs_s, if_pos rfl, if_pos rfl]
    exact ⟨_, u, z1, rfl, rfl, h1⟩
theorem le_1 {u : XC} {z : ZW} {a b w : Int32} (h : Rel u z) (hw : ¬ w ≤ 0) : ∃ z', Fj_Z_letter_23 z a b w = some (0, z') ∧ z'.2 = z.2 ∧ z'.1 0 0 = w ∧ Rel u z' := by
  unfold Fj_Z_letter_23
  rw [nm_s, pz_s, ud_s, if_neg hw]
  exact ⟨_, rfl, rfl, by rw [pz_s, ud_s], rl_c (by decide) (by decide) h⟩
theorem op_letter {u : XC} {z : ZW} (h : Rel u z) (a b : Int32) : Th3 (F_H_letter u a b) (F_Z_letter z a b) u z := by
  unfold F_H_letter F_Z_letter
  obtain ⟨w, hL⟩ := h.2.2.1
  obtain ⟨z1, g1, g2, g3, g4⟩ : ∃ z', Fj_Z_letter_22 z a b = some (0, z') ∧ z'.2 = z.2 ∧ z'.1 0 0 = 1 ∧ Rel u z' := le_1 h (by decide)
  rcases is_l hL a with ⟨i, hi, rfl, e1, e2⟩ | ⟨e1, e2⟩
  · rw [e1, e2, bs_s, bs_s, if_neg n10, if_neg n10]
    by_cases hb : b < 0
    · rw [if_pos hb, if_pos hb]
      exact ⟨3, 0, 0, u, z1, rfl, g1, g2, Or.inr ⟨by decide, g3, g4⟩⟩
    · rw [if_neg hb, if_neg hb]
      by_cases h5 : (5 : Int32) < b
      · rw [if_pos h5, if_neg (Int32.not_le.mpr h5)]
        exact ⟨3, 0, 0, u, z1, rfl, g1, g2, Or.inr ⟨by decide, g3, g4⟩⟩
      · rw [if_neg h5, if_pos (Int32.not_lt.mp h5)]
        obtain ⟨hw, q1, q2, pm, hl⟩ := hL
        have tn := i32_nat (a := i) (by omega)
        have i5 := pa_ix (n := i) (N := 150) (by omega) (by decide)
        have i6 : (0 : Int32) ≤ Int32.ofNat i ∧ i < 151 := ⟨i5.1, by omega⟩
        rw [if_pos i5, tn, if_pos (pm.1 i (by omega)).1]
        obtain ⟨l1, l2⟩ := hl i hi
        obtain ⟨m, hm, rfl⟩ := pa_lt (a := b) (N := 6) (by decide) hb (fun e => h5 ((le_lt (n := 5) (by decide)).mp e))
        unfold Fj_Z_letter_23
        simp only [nm_s, tn, if_pos i6]
        rw [show (pz z 0 0 0).1 0 0 = 0 by rw [pz_s, ud_s], if_pos (show (0 : Int32) ≤ 0 by decide)]
        have hz : Rel u (pz z 0 0 0) := rl_c (by decide) (by decide) h
        have q : ∀ s, s < 7 → (pz z 0 0 0).1 (21 + s) i = u.1 7 (u.2.1 i) s := fun s hs => by
          rw [pz_k (by omega)]
          exact (l1 s hs).symm
        have p0 := q 0 (by decide)
        have p1 := q 1 (by decide)
        have p2 := q 2 (by decide)
        have p3 := q 3 (by decide)
        have p4 := q 4 (by decide)
        have p5 := q 5 (by decide)
        have c0 : (pz z 0 0 0).1 0 0 = 0 := by rw [pz_s, ud_s]
        have c2 : (pz z 0 0 0).2 = z.2 := rfl
        generalize pz z 0 0 0 = z2 at *
        rcases (show m = 0 ∨ m = 1 ∨ m = 2 ∨ m = 3 ∨ m = 4 ∨ m = 5 by omega) with rfl | rfl | rfl | rfl | rfl | rfl
        · exact ⟨0, _, _, u, z2, rfl, rfl, c2, Or.inl ⟨rfl, c0, p0.symm, hz⟩⟩
        · exact ⟨0, _, _, u, z2, rfl, rfl, c2, Or.inl ⟨rfl, c0, p1.symm, hz⟩⟩
        · exact ⟨0, _, _, u, z2, rfl, rfl, c2, Or.inl ⟨rfl, c0, p2.symm, hz⟩⟩
        · exact ⟨0, _, _, u, z2, rfl, rfl, c2, Or.inl ⟨rfl, c0, p3.symm, hz⟩⟩
        · exact ⟨0, _, _, u, z2, rfl, rfl, c2, Or.inl ⟨rfl, c0, p4.symm, hz⟩⟩
        · exact ⟨0, _, _, u, z2, rfl, rfl, c2, Or.inl ⟨rfl, c0, p5.symm, hz⟩⟩
  · rw [e1, e2, bs_s, bs_s, if_pos rfl, if_pos rfl]
    exact ⟨3, 0, 0, u, z1, rfl, g1, g2, Or.inr ⟨by decide, g3, g4⟩⟩
theorem tn_0 {K : ZW → Int32 → Int32 → Option (Int32 × ZW)} {z : ZW} {o n : Nat} (ho : o < 27) (hn : n < 6) (hz : z.1 10 (6 * o + n) ≤ 0) : ∀ (f t : Nat), t ≤ 27 → 28 ≤ f + t → Fl_Z_spread_53 K f z (Int32.ofNat o) (Int32.ofNat n) (Int32.ofNat t) = K z (Int32.ofNat o) (Int32.ofNat n + 1) := by
  intro f
  induction f with
  | zero => intro t h1 h2; omega
  | succ f ih =>
    intro t h1 h2
    rw [Fl_Z_spread_53]
    by_cases h27 : t = 27
    · subst h27
      rw [if_pos (by decide)]
    · have n1 : ¬ (27 : Int32) ≤ Int32.ofNat t := fun e => absurd ((i32_le (a := 27) (by decide) (by omega)).mp e) (by omega)
      rw [if_neg n1, ix_6 o ho n hn, if_pos (pa_ix (n := 6 * o + n) (N := 162) (by omega) (by decide)), i32_nat (by omega), if_pos hz, show Int32.ofNat t + 1 = Int32.ofNat (t + 1) by rw [Int32.ofNat_add]; rfl]
      exact ih (t + 1) (by omega) (by omega)
theorem tn_l {K : ZW → Int32 → Int32 → Option (Int32 × ZW)} {o n d : Nat} (ho : o < 27) (hn : n < 6) (hd : d < 40) : ∀ (f t : Nat) (u : XC) (z : ZW) (w : Nat) (x : Int32), t ≤ 27 → 28 ≤ f + t → RelL u z w → u.1 4 o 0 = Int32.ofNat o → u.1 10 o n = Int32.ofNat d → z.1 10 (6 * o + n) = Int32.ofNat (d + 1) →
    ∃ x' u' z' w', Fl_H_tellNeighbours_5 f u o (Int32.ofNat n) x (Int32.ofNat t) = some (x', u') ∧ Fl_Z_spread_53 K f z (Int32.ofNat o) (Int32.ofNat n) (Int32.ofNat t) = K z' (Int32.ofNat o) (Int32.ofNat n + 1) ∧ RelL u' z' w' ∧ FU u u' ∧ FZ z z' ∧ ∀ y, z.1 0 31 = y + x → z'.1 0 31 = y + x' := by
  intro f
  induction f with
  | zero => intro t u z w x h1 h2; omega
  | succ f ih =>
    intro t u z w x h1 h2 hL hu hk hz
    rw [Fl_H_tellNeighbours_5, Fl_Z_spread_53]
    by_cases h27 : t = 27
    · subst h27
      rw [if_pos (by decide), if_pos (by decide)]
      exact ⟨x, u, z, w, rfl, rfl, hL, FU.rf, FZ.rf, fun y h => h⟩
    · have n1 : ¬ (27 : Int32) ≤ Int32.ofNat t := fun e => absurd ((i32_le (a := 27) (by decide) (by omega)).mp e) (by omega)
      have hz0 : ¬ Int32.ofNat (d + 1) ≤ 0 := fun e => absurd ((kn_0 (d + 1) (by omega)).2.mp e) (by omega)
      have ip := pa_ix (n := 6 * o + n) (N := 162) (by omega) (by decide)
      have tp := i32_nat (a := 6 * o + n) (by omega)
      have et : Int32.ofNat t + 1 = Int32.ofNat (t + 1) := by rw [Int32.ofNat_add]; rfl
      have es : Int32.ofNat (d + 1) - 1 = Int32.ofNat d := pc_sub (a := d + 1) (b := 1) (by omega)
      rw [if_neg n1, if_neg n1, ix_6 o ho n hn, if_pos ip, tp, hz, if_neg hz0, hu]
      obtain ⟨m1, m2⟩ := ne_ar o ho t (by omega)
      rw [m1]
      rcases m2 with m2 | m2
      · rw [m2, bs_s, bs_s, if_pos rfl, if_pos rfl, et]
        exact ih (t + 1) u z w x (by omega) (by omega) hL hu hk hz
      · rw [m2, bs_s, bs_s, if_neg n10, if_neg n10, if_pos ⟨ip.1, by omega⟩, es]
        obtain ⟨l, u1, e, hLU, c0, c1, c2, c3, c4, c5, c6, c7⟩ := po_s hL 5 (Int32.ofNat o) (Int32.ofNat t)
        obtain ⟨z1, f1, hLZ, fs, g⟩ := se_s hL.1 hL.2.2.1 5 (Int32.ofNat o) (Int32.ofNat t) 0 (Int32.ofNat n) (Int32.ofNat d)
        have k10 : (pu u1 7 l 4 (Int32.ofNat n)).1 10 = u.1 10 := by rw [pu_k (by decide)]; exact hLU.1.2 10 (by decide) (by decide)
        rw [e, bd_s, if_pos hLU.2.1, nm_s, if_pos (pa_ix hn (by decide)), nm_s, i32_nat (by omega), k10, hk, f1, bs_s, et]
        have hLU2 := lu_put (s := 5) (v := Int32.ofNat d) (lu_put (s := 4) (v := Int32.ofNat n) hLU)
        have hL2 : RelL (pu (pu u1 7 l 4 (Int32.ofNat n)) 7 l 5 (Int32.ofNat d)) z1 (nx w) := by
          refine rl_push hL hLU2 hLZ (fun hw => ?_)
          obtain ⟨g0, g1, g2, g3, g4, g5, g6, g7⟩ := g hw
          refine ⟨lv_7 ?_ ?_ ?_ ?_ ?_ ?_ ?_, fun h0 => ?_, ⟨o, ho, g1⟩, ⟨t, by omega, g2⟩, Or.inr ⟨n, hn, g4⟩, Or.inr (Or.inr (Or.inr (Or.inr ⟨d, hd, g5⟩)))⟩
          · simp [pu_s, upd, c0, g0]
          · simp [pu_s, upd, c1, g1]
          · simp [pu_s, upd, c2, g2]
          · simp [pu_s, upd, c3, g3]
          · simp [pu_s, upd, g4]
          · simp [pu_s, upd, g5]
          · simp [pu_s, upd, c6, g6]
          · rw [g6] at h0
            exact absurd h0 (by decide)
        obtain ⟨x', u', z', w', i1, i2, i3, i4, i5, i6⟩ := ih (t + 1) (pu (pu u1 7 l 4 (Int32.ofNat n)) 7 l 5 (Int32.ofNat d)) z1 (nx w) (x + 1) (by omega) (by omega) hL2 (by rw [hLU2.1.2 4 (by decide) (by decide)]; exact hu) (by rw [hLU2.1.2 10 (by decide) (by decide)]; exact hk) (by rw [hLZ.1.2.1 10 (by decide) (by decide)]; exact hz)
        refine ⟨x', u', z', w', i1, i2, i3, hLU2.1.tr i4, hLZ.1.tr i5, fun y hy => i6 y ?_⟩
        rw [fs, hy, Int32.add_assoc]
theorem sp_o {o : Nat} (ho : o < 27) : ∀ (f t : Nat) (u : XC) (z : ZW) (x : Int32), t ≤ 6 → 7 ≤ f + t → Rel u z → z.1 0 31 = x →
    ∃ x' u' z', Fl_H_spread_46 f u o x (Int32.ofNat t) = some (0, x', u') ∧ Fl_Z_spread_45 f z (Int32.ofNat o) (Int32.ofNat t) = some (x', z') ∧ Rel u' z' ∧ z'.2 = z.2 ∧ z'.1 0 0 = z.1 0 0 := by
  intro f
  induction f with
  | zero => intro t u z x h1 h2; omega
  | succ f ih =>
    intro t u z x h1 h2 h hx
    rw [Fl_H_spread_46, Fl_Z_spread_45]
    by_cases h6 : t = 6
    · subst h6
      rw [if_pos (by decide), if_pos (by decide), hx]
      exact ⟨x, u, z, rfl, rfl, h, rfl, rfl⟩
    · have n1 : ¬ (6 : Int32) ≤ Int32.ofNat t := fun e => absurd ((i32_le (a := 6) (by decide) (by omega)).mp e) (by omega)
      have et : Int32.ofNat t + 1 = Int32.ofNat (t + 1) := by rw [Int32.ofNat_add]; rfl
      rw [if_neg n1, if_neg n1, if_pos (pa_ix (n := t) (N := 6) (by omega) (by decide)), i32_nat (by omega)]
      obtain ⟨m, hm, e1, e2⟩ := (h.2.1 o ho).2.2.1 t (by omega)
      obtain ⟨k1, k2⟩ := kn_0 m (by omega)
      by_cases h0 : m = 0
      · rw [e2, if_pos (k1.mpr h0)]
        have q := tn_0 (K := Fl_Z_spread_45 f) ho (n := t) (by omega) (by rw [e1]; exact k2.mpr h0) 200 0 (by decide) (by decide)
        rw [show (0 : Int32) = Int32.ofNat 0 from rfl, q, et]
        exact ih (t + 1) u z x (by omega) (by omega) h hx
      · rw [e2, if_neg (fun e => h0 (k1.mp e))]
        obtain ⟨d, rfl⟩ : ∃ d, m = d + 1 := ⟨m - 1, by omega⟩
        have es : Int32.ofNat (d + 1) - 1 = Int32.ofNat d := pc_sub (a := d + 1) (b := 1) (by omega)
        obtain ⟨w, hL⟩ := h.2.2.1
        obtain ⟨x', u', z', w', i1, i2, i3, i4, i5, i6⟩ := tn_l (K := Fl_Z_spread_45 f) ho (n := t) (d := d) (by omega) (by omega) 200 0 u z w 0 (by decide) (by decide) hL (h.2.1 o ho).1.1 (e2.trans es) e1
        have i1' : F_H_tellNeighbours u o (Int32.ofNat t) = some (x', u') := i1
        rw [i1', bd_s, show (0 : Int32) = Int32.ofNat 0 from rfl, i2, et]
        obtain ⟨x2, u2, z2, j1, j2, j3, j4, j5⟩ := ih (t + 1) u' z' (x + x') (by omega) (by omega) (rel_s h i4 i5 i3) (i6 x (by rw [Int32.add_zero]; exact hx))
        exact ⟨x2, u2, z2, j1, j2, j3, j4.trans i5.1, j5.trans i5.2.2.2⟩
theorem op_spread {u : XC} {z : ZW} (h : Rel u z) (a : Int32) : Th (F_H_spread u a) (F_Z_spread z a) u z := by
  unfold F_H_spread F_Z_spread
  have sx : ∀ w : Int32, ¬ w ≤ 0 → ∃ z', Fj_Z_spread_26 z a w = some (0, z') ∧ z'.2 = z.2 ∧ z'.1 0 0 = w ∧ Rel u z' := by
    intro w hw
    unfold Fj_Z_spread_26
    rw [nm_s, pz_s, ud_s, if_neg hw]
    exact ⟨_, rfl, rfl, by rw [pz_s, ud_s], rl_c (by decide) (by decide) h⟩
  rcases is_o a with ⟨n, hn, rfl, e1, e2⟩ | ⟨e1, e2⟩
  · have ix := pa_ix (n := n) (N := 27) hn (by decide)
    have tn := i32_nat (a := n) (by omega)
    rw [e1, e2, bs_s, bs_s, if_neg n10, if_neg n10, if_pos ix, if_pos ix, tn, (h.2.1 n hn).1.2.2.1]
    by_cases hf : z.1 5 n = 0
    · rw [if_pos hf, if_pos hf]
      unfold Fj_Z_spread_26
      rw [nm_s, pz_s, ud_s, if_pos (by decide), nm_s]
      have h2 : Rel u (pz (pz z 0 0 0) 0 31 0) := rl_c (by decide) (by decide) (rl_c (by decide) (by decide) h)
      obtain ⟨x', u', z', i1, i2, i3, i4, i5⟩ := sp_o hn 200 0 u (pz (pz z 0 0 0) 0 31 0) 0 (by decide) (by decide) h2 (by rw [pz_s, ud_s])
      exact ⟨0, _, _, u', z', i1, i2, i4, Or.inl ⟨rfl, by rw [i5, pz_s, ud_n (by decide), pz_s, ud_s], rfl, i3⟩⟩
    · rw [if_neg hf, if_neg hf]
      obtain ⟨z', g1, g2, g3, g4⟩ := sx 2 (by decide)
      exact ⟨2, 0, 0, u, z', rfl, g1, g2, Or.inr ⟨by decide, g3, g4⟩⟩
  · rw [e1, e2, bs_s, bs_s, if_pos rfl, if_pos rfl]
    obtain ⟨z', g1, g2, g3, g4⟩ := sx 1 (by decide)
    exact ⟨1, 0, 0, u, z', rfl, g1, g2, Or.inr ⟨by decide, g3, g4⟩⟩
