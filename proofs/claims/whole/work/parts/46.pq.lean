theorem pz_id {z : ZW} {k s : Nat} : pz z k s (z.1 k s) = z := by
  refine Prod.ext (funext fun k' => funext fun i => ?_) rfl
  by_cases e : k' = k
  · subst e
    rw [pz_s]
    by_cases e2 : i = s
    · subst e2
      rw [ud_s]
    · rw [ud_n e2]
  · rw [pz_k e]
theorem gv_2 {u : XC} {y : ZW} {o : Nat} {w0 : Int32} (h : Rel u (pz y 19 o w0)) (ho : o < 27) (hp : y.1 11 o = 1) : HR y (Fj_H_hearGive_68 u o o) (Fj_Z_getGive_92 y (Int32.ofNat o) w0 (Int32.ofNat o)) := by
  have ix := pa_ix (n := o) (N := 27) ho (by decide)
  have tn := i32_nat (a := o) (by omega)
  have ix2 : (0 : Int32) ≤ Int32.ofNat o ∧ o < 27 := ⟨ix.1, ho⟩
  unfold Fj_H_hearGive_68 Fj_Z_getGive_92
  simp only [tn, if_pos ix2]
  rw [nm_s (a := pz y 19 o w0)]
  have y2 : (pz y 19 o w0).2 = y.2 := rfl
  have y0 : (pz y 19 o w0).1 0 = y.1 0 := pz_k (by decide)
  have y11 : (pz y 19 o w0).1 11 o = 1 := by rw [pz_k (by decide)]; exact hp
  generalize pz y 19 o w0 = z at h y2 y0 y11 ⊢
  obtain ⟨hA, hR, hK, hT⟩ := h.2.1 o ho
  obtain ⟨r0, r1, r2, r3, r4, r5, r6, r7, r8, r9⟩ := hR
  rw [r5, l_sq, l_zq, bs_s, bs_s]
  cases QQ (z.1 16 o) with
  | false => exact ⟨0, u, z, rfl, rfl, h, y2, by rw [y0], by rw [y0, Int32.add_zero]⟩
  | true =>
    have n1 : ¬ (if true = true then (1 : Int32) else 0) = 0 := by decide
    rw [if_neg n1, if_neg n1, nm_s, nm_s, nm_s]
    obtain ⟨k1, k2, k3, k4⟩ := r7 (by rw [y11]; decide)
    obtain ⟨b1, b2, b3, b4⟩ := r8 y11
    have hs : ∃ s, u.1 11 o 7 = s ∧ dr s ∧ (if (pz z 11 o 2).1 19 o ≤ 0 then Fj_Z_getGive_141 (pz z 11 o 2) (Int32.ofNat o) ((pz z 11 o 2).1 12 o) (Int32.ofNat o) else Fj_Z_getGive_141 (pz z 11 o 2) (Int32.ofNat o) ((pz z 11 o 2).1 20 o) (Int32.ofNat o)) = Fj_Z_getGive_141 (pz z 11 o 2) (Int32.ofNat o) s (Int32.ofNat o) := by
      rw [pz_k (k := 11) (k' := 19) (by decide), pz_k (k := 11) (k' := 12) (by decide), pz_k (k := 11) (k' := 20) (by decide)]
      by_cases hq : 0 < z.1 19 o
      · obtain ⟨c1, c2⟩ := b3 hq
        exact ⟨_, c1, c2, by rw [if_neg (Int32.not_le.mpr hq)]⟩
      · exact ⟨_, b4 hq, k4, by rw [if_pos (Int32.not_lt.mp hq)]⟩
    obtain ⟨s, s1, s2, s3⟩ := hs
    rw [s3]
    unfold Fj_Z_getGive_141
    simp only [tn, if_pos ix2]
    rw [nm_s, nm_s]
    rw [show (pu (pu u 11 o 0 2) 11 o 5 0).1 11 o 4 = z.1 15 o by simp [pu_s, upd, r3], show (pz (pz (pz z 11 o 2) 18 o s) 16 o 0).1 15 o = z.1 15 o by simp [pz_k]]
    have h2 : Rel (pu (pu u 11 o 0 2) 11 o 5 0) (pz (pz (pz z 11 o 2) 18 o s) 16 o 0) := by
      refine ⟨rd_d h.1 (fd_p (fd_p FD.rf (by decide)) (by decide)) (gd_p (gd_p (gd_p GD.rf (by decide)) (by decide)) (by decide)), ?_, ?_, rb_f h.2.2.2 (by rw [pz_k (by decide), pz_k (by decide), pz_k (by decide)]) (by rw [pz_k (by decide), pz_k (by decide), pz_k (by decide)])⟩
      · refine ro_1 (o := o) h.2.1 (fun o' h => ?_) (fun o' h => ?_) (fun o' h => ?_) (fun o' h => ?_) (fun o' h => ?_) (fun k o' h _ _ _ => ?_) (fun k o' m h _ h1 h2 => ?_) (fun _ => ⟨?_, ?_, ?_, ?_⟩)
        · simp [pu_k]
        · simp [pu_k]
        · simp [pu_k]
        · simp [pu_k]
        · simp [pu_i h]
        · rw [pz_i h, pz_i h, pz_i h]
        · rw [pz_k (by omega), pz_k (by omega), pz_k (by omega)]
        · unfold RA
          simp [pu_k, pz_k]
          exact hA
        · unfold RR OR_
          simp [pu_s, pz_s, pz_k, upd, r2, r3, r4, r6, k1, k2, k3, k4, s1, s2]
        · unfold RK
          simp [pu_k, pz_k]
          exact hK
        · unfold RT
          simp [pu_k, pz_k]
          exact hT
      · obtain ⟨w, hL⟩ := h.2.2.1
        exact ⟨w, rl_f hL rfl (by rw [pu_k (by decide), pu_k (by decide)]) (by rw [pu_k (by decide), pu_k (by decide)]) (by rw [pz_k (by decide), pz_k (by decide), pz_k (by decide)]) (fun k h => by rw [pz_k (by omega), pz_k (by omega), pz_k (by omega)])⟩
    have q2 : (pz (pz (pz z 11 o 2) 18 o s) 16 o 0).2 = z.2 := rfl
    have q0 : (pz (pz (pz z 11 o 2) 18 o s) 16 o 0).1 0 = z.1 0 := by rw [pz_k (by decide), pz_k (by decide), pz_k (by decide)]
    have q11 : (pz (pz (pz z 11 o 2) 18 o s) 16 o 0).1 11 o = 2 := by simp [pz_k, pz_s, upd]
    generalize pz (pz (pz z 11 o 2) 18 o s) 16 o 0 = z2 at h2 q2 q0 q11 ⊢
    generalize pu (pu u 11 o 0 2) 11 o 5 0 = u2 at h2 ⊢
    obtain ⟨w, hL⟩ := h2.2.2.1
    obtain ⟨hA2, hR2, _, _⟩ := h2.2.1 o ho
    obtain ⟨u', z', w', g1, g2, g3, g4, g5, g6⟩ := sp_s ho r4 hL (sp_of hA2 hR2 (by rw [q11]; decide))
    rw [g1, g2, bs_s, bd_s]
    exact ⟨_, u', z', rfl, rfl, rel_s h2 g4 g5 g3, g5.1.trans (q2.trans y2), g5.2.2.2.trans (by rw [q0, y0]), by rw [g6, q0, y0]⟩
theorem h_giv {u : XC} {z : ZW} {o p l : Nat} {B c d : Int32} (h : Rel u z) (ho : o < 27) (l1 : u.1 7 l 1 = Int32.ofNat p) (l3 : u.1 7 l 3 = B) (l6 : u.1 7 l 6 = c) (l7 : 0 < c → u.1 7 l 7 = d ∧ dr d) : HR z (F_H_hearGive u o l) (F_Z_getGive z (Int32.ofNat o) (Int32.ofNat p) B c d) := by
  have ix := pa_ix (n := o) (N := 27) ho (by decide)
  have tn := i32_nat (a := o) (by omega)
  have ix2 : (0 : Int32) ≤ Int32.ofNat o ∧ o < 27 := ⟨ix.1, ho⟩
  obtain ⟨hA, hR, hK, hT⟩ := h.2.1 o ho
  obtain ⟨r0, r1, r2, r3, r4, r5, r6, r7, r8, r9⟩ := hR
  unfold F_H_hearGive F_Z_getGive
  simp only [tn, if_pos ix2, r0, r2, r5, l1, l3]
  have no : HR z (some (0, u)) (some z) := ⟨0, u, z, rfl, rfl, h, rfl, rfl, by rw [Int32.add_zero]⟩
  by_cases hp : z.1 11 o = 1
  · rw [if_pos hp, if_pos hp]
    by_cases hb : z.1 14 o = B
    · rw [if_pos hb, if_pos hb, nm_s, nm_s]
      generalize z.1 16 o ||| 1 <<< (Int32.ofNat p &&& 31) = v
      have h1 := an_r (o := o) h v
      have y2 : (pz z 16 o v).2 = z.2 := rfl
      have y0 : (pz z 16 o v).1 0 = z.1 0 := pz_k (by decide)
      have y11 : (pz z 16 o v).1 11 o = 1 := by rw [pz_k (by decide)]; exact hp
      have x7 : (pu u 11 o 5 v).1 7 = u.1 7 := pu_k (by decide)
      generalize pu u 11 o 5 v = u1 at h1 x7 ⊢
      generalize pz z 16 o v = z1 at h1 y0 y2 y11 ⊢
      obtain ⟨hA1, hR1, hK1, hT1⟩ := h1.2.1 o ho
      obtain ⟨s0, s1, s2, s3, s4, s5, s6, s7, s8, s9⟩ := hR1
      obtain ⟨t1, t2, t3, t4⟩ := s8 y11
      have fin : ∀ {r : Option (Int32 × XC)} {q : Option ZW} {z2 : ZW}, HR z2 r q → z2.2 = z1.2 → z2.1 0 = z1.1 0 → HR z r q := by
        intro r q z2 hh e1 e2
        obtain ⟨x, u', z', b1, b2, b3, b4, b5, b6⟩ := hh
        exact ⟨x, u', z', b1, b2, b3, b4.trans (e1.trans y2), by rw [b5, e2, y0], by rw [b6, e2, y0]⟩
      unfold Fj_Z_getGive_64
      simp only [tn, if_pos ix2]
      rw [x7, l6, t1, nm_s (a := z1), nm_s (a := pz z1 20 o (z1.1 20 o)), nm_s (a := pz z1 20 o d), pz_id, pz_k (k := 20) (k' := 19) (by decide)]
      by_cases hc : c ≤ z1.1 19 o
      · rw [if_pos hc, if_pos hc, if_pos hc]
        refine fin (gv_2 (y := z1) (w0 := z1.1 19 o) (by rw [pz_id]; exact h1) ho y11) rfl rfl
      · rw [if_neg hc, if_neg hc, if_neg hc, nm_s, pu_k (k := 11) (k' := 7) (by decide), x7]
        have hc0 : 0 < c := by
          rw [Int32.lt_iff_toInt_lt]
          rw [Int32.le_iff_toInt_le] at t2 hc
          omega
        obtain ⟨d1, d2⟩ := l7 hc0
        rw [d1]
        refine fin (gv_2 (y := pz z1 20 o d) (w0 := c) ?_ ho (by rw [pz_k (by decide)]; exact y11)) rfl (pz_k (by decide))
        refine ⟨rd_d h1.1 (fd_p (fd_p FD.rf (by decide)) (by decide)) (gd_p (gd_p GD.rf (by decide)) (by decide)), ?_, ?_, rb_f h1.2.2.2 (by rw [pz_k (by decide), pz_k (by decide)]) (by rw [pz_k (by decide), pz_k (by decide)])⟩
        · refine ro_1 (o := o) h1.2.1 (fun o' h => ?_) (fun o' h => ?_) (fun o' h => ?_) (fun o' h => ?_) (fun o' h => ?_) (fun k o' h _ _ _ => ?_) (fun k o' m h _ h1 h2 => ?_) (fun _ => ⟨?_, ?_, ?_, ?_⟩)
          · simp [pu_k]
          · simp [pu_k]
          · simp [pu_k]
          · simp [pu_k]
          · simp [pu_i h]
          · rw [pz_i h, pz_i h]
          · rw [pz_k (by omega), pz_k (by omega)]
          · unfold RA
            simp [pu_k, pz_k]
            exact hA1
          · unfold RR OR_
            simp [pu_s, pz_s, pz_k, upd, s0, y11, s2, s3, s4, s5, s6]
            obtain ⟨k1, k2, k3, k4⟩ := s7 (by rw [y11]; decide)
            exact ⟨⟨k1, k2, k3, k4⟩, Int32.le_of_lt hc0, fun _ => d2, fun e => absurd hc0 (Int32.not_lt.mpr e)⟩
          · unfold RK
            simp [pu_k, pz_k]
            exact hK1
          · unfold RT
            simp [pu_k, pz_k]
            exact hT1
        · obtain ⟨w, hL⟩ := h1.2.2.1
          exact ⟨w, rl_f hL rfl (by rw [pu_k (by decide), pu_k (by decide)]) (by rw [pu_k (by decide), pu_k (by decide)]) (by rw [pz_k (by decide), pz_k (by decide)]) (fun k h => by rw [pz_k (by omega), pz_k (by omega)])⟩
    · rw [if_neg hb, if_neg hb]
      exact no
  · rw [if_neg hp, if_neg hp]
    exact no
