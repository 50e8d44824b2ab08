def HR (z : ZW) (r : Option (Int32 × XC)) (q : Option ZW) : Prop := ∃ v u' z', r = some (v, u') ∧ q = some z' ∧ Rel u' z' ∧ z'.2 = z.2 ∧ z'.1 0 0 = z.1 0 0 ∧ z'.1 0 31 = z.1 0 31 + v
theorem lu_l {u u' : XC} {z : ZW} {w l : Nat} (h : RelL u z w) (hU : LU u u' w l) : u.2.2 ≠ l := by
  obtain ⟨hw, _, _, pm, _⟩ := h
  by_cases hlt : w < 150
  · rw [hU.2.2.1 hlt]
    exact fun e => pm.2.2.2.2 w hlt e.symm
  · rw [hU.2.2.2.1 (by omega)]
    exact pm.2.2.2.1
theorem pl_r {u : XC} {z : ZW} {o : Nat} (h : Rel u z) (B : Int32) : Rel (pu u 4 o 1 B) (pz z 7 o B) := by
  refine ⟨rd_d h.1 (fd_p FD.rf (by decide)) (gd_p GD.rf (by decide)), ?_, ?_, rb_f h.2.2.2 (pz_k (by decide)) (by rw [pz_k (by decide)])⟩
  · refine ro_1 (o := o) h.2.1 (fun o' h => ?_) (fun o' h => ?_) (fun o' h => ?_) (fun o' h => ?_) (fun o' h => ?_) (fun k o' h _ _ _ => ?_) (fun k o' m h _ h1 h2 => ?_) (fun ho => ?_)
    · simp [pu_i h]
    · simp [pu_k]
    · simp [pu_k]
    · simp [pu_k]
    · simp [pu_k]
    · rw [pz_i h]
    · rw [pz_k (by omega)]
    · obtain ⟨hA, hR, hK, hT⟩ := h.2.1 o ho
      obtain ⟨a1, a2, a3, a4, a5⟩ := hA
      refine ⟨?_, ?_, ?_, ?_⟩
      · unfold RA OA_
        simp [pu_s, pz_s, pz_k, upd, a1, a3, a4]
        exact a5
      · unfold RR
        simp [pu_k, pz_k]
        exact hR
      · unfold RK
        simp [pu_k, pz_k]
        exact hK
      · unfold RT
        simp [pu_k, pz_k]
        exact hT
  · obtain ⟨w, hL⟩ := h.2.2.1
    exact ⟨w, rl_f hL rfl (by rw [pu_k (by decide)]) (by rw [pu_k (by decide)]) (by rw [pz_k (by decide)]) (fun k h => by rw [pz_k (by omega)])⟩
theorem h_ref {u : XC} {z : ZW} {o p l : Nat} {B : Int32} (h : Rel u z) (ho : o < 27) (hp : p < 27) (hl : l = u.2.2) (l1 : u.1 7 l 1 = Int32.ofNat p) (l3 : u.1 7 l 3 = B) : HR z (F_H_refuse u o l) (F_Z_send z 2 (Int32.ofNat o) (Int32.ofNat p) B (-1) (z.1 7 o)) := by
  obtain ⟨w, hL⟩ := h.2.2.1
  obtain ⟨hA, hR, hK, hT⟩ := h.2.1 o ho
  unfold F_H_refuse
  rw [l1, hA.1]
  obtain ⟨l', u1, e, hLU, c0, c1, c2, c3, c4, c5, c6, c7⟩ := po_s hL 2 (Int32.ofNat o) (Int32.ofNat p)
  have hne : l ≠ l' := by rw [hl]; exact lu_l hL hLU
  have kl : u1.1 7 l = u.1 7 l := hLU.2.2.2.2.2 l hne
  have k4 : u1.1 4 = u.1 4 := hLU.1.2 4 (by decide) (by decide)
  obtain ⟨z1, f, hLZ, fs, g⟩ := se_s hL.1 hL.2.2.1 2 (Int32.ofNat o) (Int32.ofNat p) B (-1) (z.1 7 o)
  rw [e, bd_s, if_pos hLU.2.1, nm_s, nm_s, pu_k (k := 7) (k' := 4) (by decide), k4, hA.2.1, kl, l3, f]
  have hLU2 := lu_put (s := 5) (v := z.1 7 o) (lu_put (s := 3) (v := B) hLU)
  refine ⟨1, _, z1, rfl, rfl, rel_s h hLU2.1 hLZ.1 (rl_push hL hLU2 hLZ (fun hw => ?_)), hLZ.1.1, hLZ.1.2.2.2, fs⟩
  obtain ⟨g0, g1, g2, g3, g4, g5, g6, g7⟩ := g hw
  refine ⟨lv_7 ?_ ?_ ?_ ?_ ?_ ?_ ?_, fun h0 => ?_, ⟨o, ho, g1⟩, ⟨p, hp, g2⟩, Or.inl g0, Or.inr (Or.inr (Or.inl g0))⟩
  · simp [pu_s, upd, c0, g0]
  · simp [pu_s, upd, c1, g1]
  · simp [pu_s, upd, c2, g2]
  · simp [pu_s, upd, g3]
  · simp [pu_s, upd, c4, g4]
  · simp [pu_s, upd, g5]
  · simp [pu_s, upd, c6, g6]
  · rw [g6] at h0
    exact absurd h0 (by decide)
theorem hr_b {z : ZW} {r : Option (Int32 × XC)} {q : Option ZW} (h : HR z r q) : HR z (bd_ r fun r1 u1 => some (r1, u1)) (bs_ q fun z1 => some z1) := by
  obtain ⟨v, u', z', e1, e2, e3⟩ := h
  rw [e1, e2]
  exact ⟨v, u', z', rfl, rfl, e3⟩
theorem h_ask {u : XC} {z : ZW} {o p n l : Nat} {B : Int32} (h : Rel u z) (ho : o < 27) (hp : p < 27) (hn : n < 6) (hl : l = u.2.2) (l1 : u.1 7 l 1 = Int32.ofNat p) (l3 : u.1 7 l 3 = B) (l4 : u.1 7 l 4 = Int32.ofNat n) : HR z (F_H_hearAsk u o l) (F_Z_getAsk z (Int32.ofNat o) (Int32.ofNat p) B (Int32.ofNat n)) := by
  have ix := pa_ix (n := o) (N := 27) ho (by decide)
  have tn := i32_nat (a := o) (by omega)
  have ix2 : (0 : Int32) ≤ Int32.ofNat o ∧ o < 27 := ⟨ix.1, ho⟩
  unfold F_H_hearAsk F_Z_getAsk
  rw [if_pos ix, tn, l3, (h.2.1 o ho).1.2.1]
  by_cases hB : z.1 7 o ≤ B
  · rw [if_pos hB, if_pos hB, if_pos ix2, nm_s, nm_s]
    have h2 := pl_r (o := o) h B
    have e2 : (pu u 4 o 1 B).2 = u.2 := rfl
    have e7 : (pu u 4 o 1 B).1 7 = u.1 7 := pu_k (by decide)
    have y2 : (pz z 7 o B).2 = z.2 := rfl
    have y0 : (pz z 7 o B).1 0 = z.1 0 := pz_k (by decide)
    generalize pu u 4 o 1 B = u2 at h2 e2 e7 ⊢
    generalize pz z 7 o B = z2 at h2 y2 y0 ⊢
    obtain ⟨w, hL⟩ := h2.2.2.1
    obtain ⟨hA, hR, hK, hT⟩ := h2.2.1 o ho
    obtain ⟨t1, t2⟩ := hT n hn
    rw [e7, l1, hA.1]
    obtain ⟨l', u1, e, hLU, c0, c1, c2, c3, c4, c5, c6, c7⟩ := po_s hL 1 (Int32.ofNat o) (Int32.ofNat p)
    have hne : l ≠ l' := by rw [hl, ← e2]; exact lu_l hL hLU
    have kl : u1.1 7 l = u.1 7 l := (hLU.2.2.2.2.2 l hne).trans (by rw [e7])
    have k8 : u1.1 8 = u2.1 8 := hLU.1.2 8 (by decide) (by decide)
    have k9 : u1.1 9 = u2.1 9 := hLU.1.2 9 (by decide) (by decide)
    obtain ⟨z1, f, hLZ, fs, g⟩ := se_s hL.1 hL.2.2.1 1 (Int32.ofNat o) (Int32.ofNat p) B (Int32.ofNat n) (-1)
    have i6 : (0 : Int32) ≤ Int32.ofNat n ∧ n < 6 := ⟨pa_nn (by omega), hn⟩
    rw [e, bd_s, if_pos hLU.2.1, f, bs_s]
    simp only [nm_s, pu_i hne, kl, l3, l4, i32_nat (a := n) (by omega), if_pos i6, pu_k (k := 7) (k' := 8) (by decide), pu_k (k := 7) (k' := 9) (by decide), k8, k9, ix_6 o ho n hn, i32_nat (a := 6 * o + n) (by omega)]
    have hLU4 := lu_put (s := 7) (v := u2.1 9 o n) (lu_put (s := 6) (v := u2.1 8 o n) (lu_put (s := 4) (v := Int32.ofNat n) (lu_put (s := 3) (v := B) hLU)))
    rw [hL.2.2.1, hLZ.2.1]
    have hw := hL.1
    by_cases hlt : w < 150
    · have n1 : ¬ Int32.ofNat (nx w) ≤ Int32.ofNat w := by
        unfold nx
        rw [if_pos hlt]
        exact fun e => absurd ((i32_le (by omega) (by omega)).mp e) (by omega)
      have ip := pa_ix (n := 6 * o + n) (N := 162) (by omega) (by decide)
      have ip2 : (0 : Int32) ≤ Int32.ofNat (6 * o + n) ∧ 6 * o + n < 162 := ⟨ip.1, by omega⟩
      have iw : (0 : Int32) ≤ Int32.ofNat w ∧ w < 151 := ⟨pa_nn (by omega), by omega⟩
      simp only [i32_nat (a := w) (by omega), if_neg n1, if_pos ip2, if_pos iw, pz_k (k := 27) (k' := 9) (by decide), hLZ.1.2.1 8 (by decide) (by decide), hLZ.1.2.1 9 (by decide) (by decide)]
      have hLZ2 : LZ z2 (pz (pz z1 27 w (z2.1 8 (6 * o + n))) 28 w (z2.1 9 (6 * o + n))) w := by
        obtain ⟨⟨s1, s2, s3, s4⟩, s5, s6⟩ := hLZ
        refine ⟨⟨s1, fun k a b => ?_, ?_, ?_⟩, ?_, fun i hi => ?_⟩
        · rw [pz_k (by omega), pz_k (by omega)]; exact s2 k a b
        · rw [pz_k (by decide), pz_k (by decide)]; exact s3
        · rw [pz_k (by decide), pz_k (by decide)]; exact s4
        · rw [pz_k (by decide), pz_k (by decide)]; exact s5
        · rw [← s6 i hi]
          funext s
          unfold lz
          rw [pz_i (hi hlt), pz_i (hi hlt)]
      refine ⟨1, _, _, rfl, rfl, rel_s h2 hLU4.1 hLZ2.1 (rl_push hL hLU4 hLZ2 (fun _ => ?_)), hLZ2.1.1.trans y2, hLZ2.1.2.2.2.trans (by rw [y0]), ?_⟩
      · obtain ⟨g0, g1, g2, g3, g4, g5, g6, g7⟩ := g hlt
        have q : ∀ s, s < 6 → lz (pz (pz z1 27 w (z2.1 8 (6 * o + n))) 28 w (z2.1 9 (6 * o + n))) w s = lz z1 w s := fun s hs => by
          unfold lz
          rw [pz_k (by omega), pz_k (by omega)]
        have q6 : lz (pz (pz z1 27 w (z2.1 8 (6 * o + n))) 28 w (z2.1 9 (6 * o + n))) w 6 = z2.1 8 (6 * o + n) := by simp [lz, pz_k, pz_s, upd]
        have q7 : lz (pz (pz z1 27 w (z2.1 8 (6 * o + n))) 28 w (z2.1 9 (6 * o + n))) w 7 = z2.1 9 (6 * o + n) := by simp [lz, pz_s, upd]
        have q0 := (q 0 (by decide)).trans g0
        have q1 := (q 1 (by decide)).trans g1
        have q2 := (q 2 (by decide)).trans g2
        have q3 := (q 3 (by decide)).trans g3
        have q4 := (q 4 (by decide)).trans g4
        have q5 := (q 5 (by decide)).trans g5
        refine ⟨lv_7 ?_ ?_ ?_ ?_ ?_ ?_ ?_, fun h0 => ?_, ⟨o, ho, q1⟩, ⟨p, hp, q2⟩, Or.inr ⟨n, hn, q4⟩, Or.inr (Or.inl q0)⟩
        · rw [q0]; simp [pu_s, upd, c0]
        · rw [q1]; simp [pu_s, upd, c1]
        · rw [q2]; simp [pu_s, upd, c2]
        · rw [q3]; simp [pu_s, upd]
        · rw [q4]; simp [pu_s, upd]
        · rw [q5]; simp [pu_s, upd, c5]
        · rw [q6]; simp [pu_s, upd, t1]
        · rw [q6] at h0
          rw [q7, pu_s, ud_s]
          exact t2 h0
      · rw [pz_k (by decide), pz_k (by decide), fs, y0]
    · obtain rfl : w = 150 := by omega
      rw [if_pos (by decide)]
      exact ⟨1, _, z1, rfl, rfl, rel_s h2 hLU4.1 hLZ.1 (rl_push hL hLU4 hLZ (fun g => absurd g hlt)), hLZ.1.1.trans y2, hLZ.1.2.2.2.trans (by rw [y0]), by rw [fs, y0]⟩
  · rw [if_neg hB, if_neg hB, if_pos ix2]
    exact hr_b (h_ref h ho hp hl l1 l3)
theorem h_set {u : XC} {z : ZW} {o p n d l : Nat} {B : Int32} (h : Rel u z) (ho : o < 27) (hp : p < 27) (hn : n < 6) (hd : d < 40) (hl : l = u.2.2) (l1 : u.1 7 l 1 = Int32.ofNat p) (l3 : u.1 7 l 3 = B) (l4 : u.1 7 l 4 = Int32.ofNat n) (l5 : u.1 7 l 5 = Int32.ofNat d) : HR z (F_H_hearSettle u o l) (F_Z_getSettle z (Int32.ofNat o) (Int32.ofNat p) B (Int32.ofNat n) (Int32.ofNat d)) := by
  have ix := pa_ix (n := o) (N := 27) ho (by decide)
  have tn := i32_nat (a := o) (by omega)
  have ix2 : (0 : Int32) ≤ Int32.ofNat o ∧ o < 27 := ⟨ix.1, ho⟩
  have i6 : (0 : Int32) ≤ Int32.ofNat n ∧ n < 6 := ⟨pa_nn (by omega), hn⟩
  have ip : (0 : Int32) ≤ Int32.ofNat (6 * o + n) ∧ 6 * o + n < 162 := ⟨pa_nn (by omega), by omega⟩
  unfold F_H_hearSettle F_Z_getSettle
  rw [if_pos ix, tn, l3, (h.2.1 o ho).1.2.1]
  by_cases hB : z.1 7 o ≤ B
  · simp only [if_pos hB, if_pos ix2, nm_s, pu_k (k := 4) (k' := 7) (by decide), pu_k (k := 8) (k' := 7) (by decide), pu_k (k := 9) (k' := 7) (by decide), l1, l3, l4, l5, i32_nat (a := n) (by omega), if_pos i6, ix_6 o ho n hn, i32_nat (a := 6 * o + n) (by omega), if_pos ip]
    have h1 := pl_r (o := o) h B
    have h2 : Rel (pu (pu (pu u 4 o 1 B) 8 o n B) 9 o n (Int32.ofNat d)) (pz (pz (pz z 7 o B) 8 (6 * o + n) B) 9 (6 * o + n) (Int32.ofNat d)) := by
      generalize pu u 4 o 1 B = u2 at h1 ⊢
      generalize pz z 7 o B = z2 at h1 ⊢
      refine ⟨rd_d h1.1 (fd_p (fd_p FD.rf (by decide)) (by decide)) (gd_p (gd_p GD.rf (by decide)) (by decide)), ?_, ?_, rb_f h1.2.2.2 (by rw [pz_k (by decide), pz_k (by decide)]) (by rw [pz_k (by decide), pz_k (by decide)])⟩
      · obtain ⟨hA, hR, hK, hT⟩ := h1.2.1 o ho
        refine ro_1 (o := o) h1.2.1 (fun o' h => ?_) (fun o' h => ?_) (fun o' h => ?_) (fun o' h => ?_) (fun o' h => ?_) (fun k o' h _ _ _ => ?_) (fun k o' m h _ h1 h2 => ?_) (fun ho => ⟨?_, ?_, ?_, fun m hm => ?_⟩)
        · simp [pu_k]
        · simp [pu_k, pu_i h]
        · simp [pu_k, pu_i h]
        · simp [pu_k]
        · simp [pu_k]
        · rw [pz_k (by omega), pz_k (by omega)]
        · rw [pz_i (by omega), pz_i (by omega)]
        · unfold RA
          simp [pu_k, pz_k]
          exact hA
        · unfold RR
          simp [pu_k, pz_k]
          exact hR
        · unfold RK
          simp [pu_k, pz_k]
          exact hK
        · rw [pu_k (k := 9) (k' := 8) (by decide), pu_s, pu_s, pu_k (k := 8) (k' := 9) (by decide), pz_k (k := 9) (k' := 8) (by decide), pz_s, pz_s, pz_k (k := 8) (k' := 9) (by decide)]
          by_cases em : m = n
          · subst em
            rw [ud_s, ud_s, ud_s, ud_s]
            exact ⟨rfl, fun _ => ⟨rfl, d, hd, rfl⟩⟩
          · rw [ud_n em, ud_n em, ud_n (by omega), ud_n (by omega)]
            exact hT m hm
      · obtain ⟨w, hL⟩ := h1.2.2.1
        exact ⟨w, rl_f hL rfl (by rw [pu_k (by decide), pu_k (by decide)]) (by rw [pu_k (by decide), pu_k (by decide)]) (by rw [pz_k (by decide), pz_k (by decide)]) (fun k h => by rw [pz_k (by omega), pz_k (by omega)])⟩
    have e2 : (pu (pu (pu u 4 o 1 B) 8 o n B) 9 o n (Int32.ofNat d)).2 = u.2 := rfl
    have e7 : (pu (pu (pu u 4 o 1 B) 8 o n B) 9 o n (Int32.ofNat d)).1 7 = u.1 7 := by rw [pu_k (by decide), pu_k (by decide), pu_k (by decide)]
    have y2 : (pz (pz (pz z 7 o B) 8 (6 * o + n) B) 9 (6 * o + n) (Int32.ofNat d)).2 = z.2 := rfl
    have y0 : (pz (pz (pz z 7 o B) 8 (6 * o + n) B) 9 (6 * o + n) (Int32.ofNat d)).1 0 = z.1 0 := by rw [pz_k (by decide), pz_k (by decide), pz_k (by decide)]
    generalize pu (pu (pu u 4 o 1 B) 8 o n B) 9 o n (Int32.ofNat d) = u2 at h2 e2 e7 ⊢
    generalize pz (pz (pz z 7 o B) 8 (6 * o + n) B) 9 (6 * o + n) (Int32.ofNat d) = z2 at h2 y2 y0 ⊢
    obtain ⟨w, hL⟩ := h2.2.2.1
    obtain ⟨hA, hR, hK, hT⟩ := h2.2.1 o ho
    rw [hA.1]
    obtain ⟨l', u1, e, hLU, c0, c1, c2, c3, c4, c5, c6, c7⟩ := po_s hL 4 (Int32.ofNat o) (Int32.ofNat p)
    have hne : l ≠ l' := by rw [hl, ← e2]; exact lu_l hL hLU
    have kl : u1.1 7 l = u.1 7 l := (hLU.2.2.2.2.2 l hne).trans (by rw [e7])
    obtain ⟨z1, f, hLZ, fs, g⟩ := se_s hL.1 hL.2.2.1 4 (Int32.ofNat o) (Int32.ofNat p) B (Int32.ofNat n) (-1)
    rw [e, bd_s, if_pos hLU.2.1, f, bs_s, pu_i hne, kl, l3, l4]
    have hLU2 := lu_put (s := 4) (v := Int32.ofNat n) (lu_put (s := 3) (v := B) hLU)
    refine ⟨1, _, z1, rfl, rfl, rel_s h2 hLU2.1 hLZ.1 (rl_push hL hLU2 hLZ (fun hw => ?_)), hLZ.1.1.trans y2, hLZ.1.2.2.2.trans (by rw [y0]), by rw [fs, y0]⟩
    obtain ⟨g0, g1, g2, g3, g4, g5, g6, g7⟩ := g hw
    refine ⟨lv_7 ?_ ?_ ?_ ?_ ?_ ?_ ?_, fun h0 => ?_, ⟨o, ho, g1⟩, ⟨p, hp, g2⟩, Or.inr ⟨n, hn, g4⟩, Or.inr (Or.inr (Or.inr (Or.inl g0)))⟩
    · simp [pu_s, upd, c0, g0]
    · simp [pu_s, upd, c1, g1]
    · simp [pu_s, upd, c2, g2]
    · simp [pu_s, upd, g3]
    · simp [pu_s, upd, g4]
    · simp [pu_s, upd, c5, g5]
    · simp [pu_s, upd, c6, g6]
    · rw [g6] at h0
      exact absurd h0 (by decide)
  · rw [if_neg hB, if_neg hB, if_pos ix2]
    exact hr_b (h_ref h ho hp hl l1 l3)
