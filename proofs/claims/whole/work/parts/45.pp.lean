theorem h_beg {u : XC} {z : ZW} {o : Nat} (h : Rel u z) (ho : o < 27) (hp : z.1 11 o ≠ 0) (a : Int32) : HR z (F_H_begin u o a) (F_Z_begin z (Int32.ofNat o) a) := by
  obtain ⟨hA, hR, hK, hT⟩ := h.2.1 o ho
  obtain ⟨r0, r1, r2, r3, r4, r5, r6, r7, r8, r9⟩ := hR
  obtain ⟨k1, k2, k3, k4⟩ := r7 hp
  obtain ⟨w, hL⟩ := h.2.2.1
  obtain ⟨r, u', z', y1, y2, ⟨y3, y4, y5, y6, y7, y8⟩, y9⟩ := be_s ho h.2.1 hL a k3 k4
  exact ⟨r, u', z', y1, y2, ⟨rd_d h.1 y5 y6, y3, y4, rb_f h.2.2.2 y8 y6.2.2.1⟩, y6.1, y6.2.2.2, y7⟩
theorem id_r {u : XC} {z : ZW} {o : Nat} (h : Rel u z) : Rel (pu u 11 o 0 0) (pz z 11 o 0) := by
  refine ⟨rd_d h.1 (fd_p FD.rf (by decide)) (gd_p GD.rf (by decide)), ?_, ?_, rb_f h.2.2.2 (pz_k (by decide)) (by rw [pz_k (by decide)])⟩
  · refine ro_1 (o := o) h.2.1 (fun o' h => ?_) (fun o' h => ?_) (fun o' h => ?_) (fun o' h => ?_) (fun o' h => ?_) (fun k o' h _ _ _ => ?_) (fun k o' m h _ h1 h2 => ?_) (fun ho => ?_)
    · simp [pu_k]
    · simp [pu_k]
    · simp [pu_k]
    · simp [pu_k]
    · simp [pu_i h]
    · rw [pz_i h]
    · rw [pz_k (by omega)]
    · obtain ⟨hA, hR, hK, hT⟩ := h.2.1 o ho
      obtain ⟨r0, r1, r2, r3, r4, r5, r6, r7⟩ := hR
      refine ⟨?_, ?_, ?_, ?_⟩
      · unfold RA
        simp [pu_k, pz_k]
        exact hA
      · unfold RR OR_
        simp [pu_s, pz_s, pz_k, upd, r2, r3, r4, r5, r6]
      · unfold RK
        simp [pu_k, pz_k]
        exact hK
      · unfold RT
        simp [pu_k, pz_k]
        exact hT
  · obtain ⟨w, hL⟩ := h.2.2.1
    exact ⟨w, rl_f hL rfl (by rw [pu_k (by decide)]) (by rw [pu_k (by decide)]) (by rw [pz_k (by decide)]) (fun k h => by rw [pz_k (by omega)])⟩
theorem kn_r {u : XC} {z : ZW} {o n d : Nat} (h : Rel u z) (hd : d < 40) (hn : n < 6) : Rel (pu u 10 o n (Int32.ofNat d)) (pz z 10 (6 * o + n) (Int32.ofNat d + 1)) := by
  refine ⟨rd_d h.1 (fd_p FD.rf (by decide)) (gd_p GD.rf (by decide)), ?_, ?_, rb_f h.2.2.2 (pz_k (by decide)) (by rw [pz_k (by decide)])⟩
  · refine ro_1 (o := o) h.2.1 (fun o' h => ?_) (fun o' h => ?_) (fun o' h => ?_) (fun o' h => ?_) (fun o' h => ?_) (fun k o' h _ _ _ => ?_) (fun k o' m h _ h1 h2 => ?_) (fun ho => ?_)
    · simp [pu_k]
    · simp [pu_k]
    · simp [pu_k]
    · simp [pu_i h]
    · simp [pu_k]
    · rw [pz_k (by omega)]
    · rw [pz_i (by omega)]
    · obtain ⟨hA, hR, hK, hT⟩ := h.2.1 o ho
      refine ⟨?_, ?_, fun m hm => ?_, ?_⟩
      · unfold RA
        simp [pu_k, pz_k]
        exact hA
      · unfold RR
        simp [pu_k, pz_k]
        exact hR
      · rw [pu_s, pz_s]
        by_cases em : m = n
        · subst em
          rw [ud_s, ud_s]
          exact ⟨d + 1, by omega, by rw [Int32.ofNat_add]; rfl, (pc_sub (a := d + 1) (b := 1) (by omega)).symm⟩
        · rw [ud_n em, ud_n (by omega)]
          exact hK m hm
      · unfold RT
        simp [pu_k, pz_k]
        exact hT
  · obtain ⟨w, hL⟩ := h.2.2.1
    exact ⟨w, rl_f hL rfl (by rw [pu_k (by decide)]) (by rw [pu_k (by decide)]) (by rw [pz_k (by decide)]) (fun k h => by rw [pz_k (by omega)])⟩
theorem h_learn {u : XC} {z : ZW} {o n d : Nat} (h : Rel u z) (ho : o < 27) (hn : n < 6) (hd : d < 40) : HR z (F_H_learn u o (Int32.ofNat n) (Int32.ofNat d)) (F_Z_know z (Int32.ofNat o) (Int32.ofNat n) (Int32.ofNat d)) := by
  have ix := pa_ix (n := o) (N := 27) ho (by decide)
  have tn := i32_nat (a := o) (by omega)
  have ix2 : (0 : Int32) ≤ Int32.ofNat o ∧ o < 27 := ⟨ix.1, ho⟩
  have i6 : (0 : Int32) ≤ Int32.ofNat n ∧ n < 6 := ⟨pa_nn (by omega), hn⟩
  have ip : (0 : Int32) ≤ Int32.ofNat (6 * o + n) ∧ 6 * o + n < 162 := ⟨pa_nn (by omega), by omega⟩
  unfold F_H_learn F_Z_know
  simp only [nm_s, ix_6 o ho n hn, i32_nat (a := n) (by omega), tn, if_pos i6, if_pos ix2, i32_nat (a := 6 * o + n) (by omega), if_pos ip]
  obtain ⟨m, hm, e1, e2⟩ := (h.2.1 o ho).2.2.1 n hn
  obtain ⟨k1, k2⟩ := kn_0 m (by omega)
  rw [e1, e2]
  by_cases h0 : m = 0
  · rw [if_pos (k1.mpr h0), if_pos (k2.mpr h0)]
    have h1 := kn_r (o := o) h hd hn
    have y2 : (pz z 10 (6 * o + n) (Int32.ofNat d + 1)).2 = z.2 := rfl
    have y0 : (pz z 10 (6 * o + n) (Int32.ofNat d + 1)).1 0 = z.1 0 := pz_k (by decide)
    generalize pu u 10 o n (Int32.ofNat d) = u1 at h1 ⊢
    generalize pz z 10 (6 * o + n) (Int32.ofNat d + 1) = z1 at h1 y0 y2 ⊢
    obtain ⟨hA, hR, hK, hT⟩ := h1.2.1 o ho
    obtain ⟨r0, r1, r2, r3, r4, r5, r6, r7, r8, r9⟩ := hR
    rw [r0]
    have hle : (z1.1 11 o ≤ 0) ↔ z1.1 11 o = 0 := by
      rcases r1 with e | e | e <;> rw [e] <;> decide
    by_cases hp : z1.1 11 o = 0
    · rw [if_pos hp, if_pos (hle.mpr hp)]
      exact ⟨0, u1, z1, rfl, rfl, h1, y2, by rw [y0], by rw [y0, Int32.add_zero]⟩
    · rw [if_neg hp, if_neg (fun e => hp (hle.mp e))]
      obtain ⟨q1, q2, q3, q4⟩ := r7 hp
      rw [q1, q3]
      by_cases hx : z1.1 13 o = Int32.ofNat n
      · rw [if_pos hx, if_pos hx]
        by_cases hy : z1.1 12 o = Int32.ofNat d
        · rw [if_pos hy, if_pos hy.symm]
          exact ⟨0, _, _, rfl, rfl, id_r h1, y2, by rw [pz_k (by decide), y0], by rw [pz_k (by decide), y0, Int32.add_zero]⟩
        · rw [if_neg hy, if_neg (fun e => hy e.symm)]
          obtain ⟨v, u', z', b1, b2, b3, b4, b5, b6⟩ := hr_b (h_beg h1 ho hp 0)
          exact ⟨v, u', z', b1, b2, b3, b4.trans y2, by rw [b5, y0], by rw [b6, y0]⟩
      · rw [if_neg hx, if_neg hx]
        exact ⟨0, u1, z1, rfl, rfl, h1, y2, by rw [y0], by rw [y0, Int32.add_zero]⟩
  · rw [if_neg (fun e => h0 (k1.mp e)), if_neg (fun e => h0 (k2.mp e))]
    exact ⟨0, u, z, rfl, rfl, h, rfl, rfl, by rw [Int32.add_zero]⟩
theorem an_r {u : XC} {z : ZW} {o : Nat} (h : Rel u z) (v : Int32) : Rel (pu u 11 o 5 v) (pz z 16 o v) := by
  refine ⟨rd_d h.1 (fd_p FD.rf (by decide)) (gd_p GD.rf (by decide)), ?_, ?_, rb_f h.2.2.2 (pz_k (by decide)) (by rw [pz_k (by decide)])⟩
  · refine ro_1 (o := o) h.2.1 (fun o' h => ?_) (fun o' h => ?_) (fun o' h => ?_) (fun o' h => ?_) (fun o' h => ?_) (fun k o' h _ _ _ => ?_) (fun k o' m h _ h1 h2 => ?_) (fun ho => ?_)
    · simp [pu_k]
    · simp [pu_k]
    · simp [pu_k]
    · simp [pu_k]
    · simp [pu_i h]
    · rw [pz_i h]
    · rw [pz_k (by omega)]
    · obtain ⟨hA, hR, hK, hT⟩ := h.2.1 o ho
      obtain ⟨r0, r1, r2, r3, r4, r5, r6, r7, r8, r9⟩ := hR
      refine ⟨?_, ?_, ?_, ?_⟩
      · unfold RA
        simp [pu_k, pz_k]
        exact hA
      · unfold RR
        rw [pu_s, pz_s, ud_s, ud_s, ud_n (by decide), ud_n (by decide), ud_n (by decide), ud_n (by decide), ud_n (by decide), ud_n (by decide), ud_n (by decide), ud_n (by decide), pz_k (k := 16) (k' := 11) (by decide), pz_k (k := 16) (k' := 12) (by decide), pz_k (k := 16) (k' := 13) (by decide), pz_k (k := 16) (k' := 14) (by decide), pz_k (k := 16) (k' := 15) (by decide), pz_k (k := 16) (k' := 17) (by decide), pz_k (k := 16) (k' := 18) (by decide), pz_k (k := 16) (k' := 19) (by decide), pz_k (k := 16) (k' := 20) (by decide)]
        exact ⟨r0, r1, r2, r3, r4, rfl, r6, r7, r8, r9⟩
      · unfold RK
        simp [pu_k, pz_k]
        exact hK
      · unfold RT
        simp [pu_k, pz_k]
        exact hT
  · obtain ⟨w, hL⟩ := h.2.2.1
    exact ⟨w, rl_f hL rfl (by rw [pu_k (by decide)]) (by rw [pu_k (by decide)]) (by rw [pz_k (by decide)]) (fun k h => by rw [pz_k (by omega)])⟩
theorem h_tak {u : XC} {z : ZW} {o p l : Nat} {B : Int32} (h : Rel u z) (ho : o < 27) (l1 : u.1 7 l 1 = Int32.ofNat p) (l3 : u.1 7 l 3 = B) : HR z (F_H_hearTaken u o l) (F_Z_getTaken z (Int32.ofNat o) (Int32.ofNat p) B) := by
  have ix := pa_ix (n := o) (N := 27) ho (by decide)
  have tn := i32_nat (a := o) (by omega)
  have ix2 : (0 : Int32) ≤ Int32.ofNat o ∧ o < 27 := ⟨ix.1, ho⟩
  obtain ⟨hA, hR, hK, hT⟩ := h.2.1 o ho
  obtain ⟨r0, r1, r2, r3, r4, r5, r6, r7, r8, r9⟩ := hR
  unfold F_H_hearTaken F_Z_getTaken
  simp only [tn, if_pos ix2, r0, r2, r5, l1, l3]
  have no : HR z (some (0, u)) (some z) := ⟨0, u, z, rfl, rfl, h, rfl, rfl, by rw [Int32.add_zero]⟩
  by_cases hp : z.1 11 o = 2
  · rw [if_pos hp, if_pos hp]
    by_cases hb : z.1 14 o = B
    · rw [if_pos hb, if_pos hb, nm_s, nm_s]
      generalize z.1 16 o ||| 1 <<< (Int32.ofNat p &&& 31) = v
      have h1 := an_r (o := o) h v
      have y2 : (pz z 16 o v).2 = z.2 := rfl
      have y0 : (pz z 16 o v).1 0 = z.1 0 := pz_k (by decide)
      have y11 : (pz z 16 o v).1 11 = z.1 11 := pz_k (by decide)
      have y16 : (pz z 16 o v).1 16 o = v := by rw [pz_s, ud_s]
      have x5 : (pu u 11 o 5 v).1 11 o 5 = v := by rw [pu_s, ud_s]
      generalize pu u 11 o 5 v = u1 at h1 x5 ⊢
      generalize pz z 16 o v = z1 at h1 y0 y2 y11 y16 ⊢
      rw [x5, y16, l_sq, l_zq, bs_s, bs_s]
      cases QQ v with
      | false => exact ⟨0, u1, z1, rfl, rfl, h1, y2, by rw [y0], by rw [y0, Int32.add_zero]⟩
      | true =>
        have n1 : ¬ (if true = true then (1 : Int32) else 0) = 0 := by decide
        rw [if_neg n1, if_neg n1]
        obtain ⟨hA1, hR1, hK1, hT1⟩ := h1.2.1 o ho
        obtain ⟨s0, s1, s2, s3, s4, s5, s6, s7, s8, s9⟩ := hR1
        have p2 : z1.1 11 o = 2 := by rw [y11]; exact hp
        obtain ⟨q1, ⟨n, hn, q2⟩, q3, q4⟩ := s7 (by rw [p2]; decide)
        obtain ⟨t1, d, hd, t2⟩ := s9 p2
        rw [q1, t1, q2, t2]
        obtain ⟨x, u', z', b1, b2, b3, b4, b5, b6⟩ := hr_b (h_learn h1 ho hn hd)
        exact ⟨x, u', z', b1, b2, b3, b4.trans y2, by rw [b5, y0], by rw [b6, y0]⟩
    · rw [if_neg hb, if_neg hb]
      exact no
  · rw [if_neg hp, if_neg hp]
    exact no
theorem h_no {u : XC} {z : ZW} {o l : Nat} {B C : Int32} (h : Rel u z) (ho : o < 27) (l3 : u.1 7 l 3 = B) (l5 : u.1 7 l 5 = C) : HR z (F_H_hearNo u o l) (if z.1 11 o ≤ 0 then some z else (if z.1 14 o = B then F_Z_begin z (Int32.ofNat o) C else some z)) := by
  obtain ⟨hA, hR, hK, hT⟩ := h.2.1 o ho
  obtain ⟨r0, r1, r2, r3, r4, r5, r6, r7, r8, r9⟩ := hR
  unfold F_H_hearNo
  rw [r0, r2, l3, l5]
  have no : HR z (some (0, u)) (some z) := ⟨0, u, z, rfl, rfl, h, rfl, rfl, by rw [Int32.add_zero]⟩
  have hle : (z.1 11 o ≤ 0) ↔ z.1 11 o = 0 := by
    rcases r1 with e | e | e <;> rw [e] <;> decide
  by_cases hp : z.1 11 o = 0
  · rw [if_pos hp, if_pos (hle.mpr hp)]
    exact no
  · rw [if_neg hp, if_neg (fun e => hp (hle.mp e))]
    by_cases hb : z.1 14 o = B
    · rw [if_pos hb, if_pos hb]
      obtain ⟨v, u', z', b1, b2, b3⟩ := h_beg h ho hp C
      exact ⟨v, u', z', by rw [b1, bd_s], b2, b3⟩
    · rw [if_neg hb, if_neg hb]
      exact no
