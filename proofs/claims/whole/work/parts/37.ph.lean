theorem rl_f {u u' : XC} {z z' : ZW} {w : Nat} (h : RelL u z w) (h2 : u'.2 = u.2) (h3 : u'.1 3 = u.1 3) (h7 : u'.1 7 = u.1 7) (z0 : z'.1 0 22 = z.1 0 22) (zk : ∀ k, 21 ≤ k → z'.1 k = z.1 k) : RelL u' z' w := by
  obtain ⟨a, b, c, d, e⟩ := h
  refine ⟨a, by rw [h3]; exact b, z0.trans c, ?_, fun i hi => ?_⟩
  · unfold PM
    rw [h2]
    exact d
  · have e1 : lz z' i = lz z i := by
      funext t
      unfold lz
      rw [zk _ (by omega)]
    rw [h2, h7, e1]
    exact e i hi
theorem ro_1 {u u' : XC} {z z' : ZW} {o : Nat} (h : RelO u z) (h4 : ∀ o', o' ≠ o → u'.1 4 o' = u.1 4 o') (h8 : ∀ o', o' ≠ o → u'.1 8 o' = u.1 8 o') (h9 : ∀ o', o' ≠ o → u'.1 9 o' = u.1 9 o') (h10 : ∀ o', o' ≠ o → u'.1 10 o' = u.1 10 o') (h11 : ∀ o', o' ≠ o → u'.1 11 o' = u.1 11 o')
    (hz : ∀ k o', o' ≠ o → 5 ≤ k → k ≤ 20 → (k < 8 ∨ 10 < k) → z'.1 k o' = z.1 k o') (hz2 : ∀ k o' n, o' ≠ o → n < 6 → 8 ≤ k → k ≤ 10 → z'.1 k (6 * o' + n) = z.1 k (6 * o' + n))
    (ho : o < 27 → RA u' z' o ∧ RR u' z' o ∧ RK u' z' o ∧ RT u' z' o) : RelO u' z' := by
  intro o' ho'
  by_cases e : o' = o
  · subst e
    exact ho ho'
  · obtain ⟨a, b, c, d⟩ := h o' ho'
    refine ⟨?_, ?_, fun n hn => ?_, fun n hn => ?_⟩
    · unfold RA
      rw [h4 o' e, hz 5 o' e (by decide) (by decide) (by decide), hz 6 o' e (by decide) (by decide) (by decide), hz 7 o' e (by decide) (by decide) (by decide)]
      exact a
    · unfold RR
      rw [h11 o' e, hz 11 o' e (by decide) (by decide) (by decide), hz 12 o' e (by decide) (by decide) (by decide), hz 13 o' e (by decide) (by decide) (by decide), hz 14 o' e (by decide) (by decide) (by decide), hz 15 o' e (by decide) (by decide) (by decide), hz 16 o' e (by decide) (by decide) (by decide), hz 17 o' e (by decide) (by decide) (by decide), hz 18 o' e (by decide) (by decide) (by decide), hz 19 o' e (by decide) (by decide) (by decide), hz 20 o' e (by decide) (by decide) (by decide)]
      exact b
    · rw [h10 o' e, hz2 10 o' n e hn (by decide) (by decide)]
      exact c n hn
    · rw [h8 o' e, h9 o' e, hz2 8 o' n e hn (by decide) (by decide), hz2 9 o' n e hn (by decide) (by decide)]
      exact d n hn
def FD (u u' : XC) : Prop := u'.1 0 = u.1 0 ∧ u'.1 5 = u.1 5 ∧ u'.1 12 = u.1 12 ∧ u'.1 13 = u.1 13
def GD (z z' : ZW) : Prop := z'.2 = z.2 ∧ (∀ k, 1 ≤ k → k ≤ 4 → z'.1 k = z.1 k) ∧ z'.1 0 1 = z.1 0 1 ∧ z'.1 0 0 = z.1 0 0
theorem FD.rf {u : XC} : FD u u := ⟨rfl, rfl, rfl, rfl⟩
theorem FD.tr {u u1 u2 : XC} (h : FD u u1) (g : FD u1 u2) : FD u u2 := ⟨g.1.trans h.1, g.2.1.trans h.2.1, g.2.2.1.trans h.2.2.1, g.2.2.2.trans h.2.2.2⟩
theorem GD.rf {z : ZW} : GD z z := ⟨rfl, fun _ _ _ => rfl, rfl, rfl⟩
theorem GD.tr {z z1 z2 : ZW} (h : GD z z1) (g : GD z1 z2) : GD z z2 := ⟨g.1.trans h.1, fun k h1 h2 => (g.2.1 k h1 h2).trans (h.2.1 k h1 h2), g.2.2.1.trans h.2.2.1, g.2.2.2.trans h.2.2.2⟩
theorem FU.d {u u' : XC} (h : FU u u') : FD u u' := ⟨h.2 0 (by decide) (by decide), h.2 5 (by decide) (by decide), h.2 12 (by decide) (by decide), h.2 13 (by decide) (by decide)⟩
theorem FZ.d {z z' : ZW} (h : FZ z z') : GD z z' := ⟨h.1, fun k h1 h2 => h.2.1 k h1 (by omega), h.2.2.1, h.2.2.2⟩
theorem rd_d {u u' : XC} {z z' : ZW} (h : RelD u z) (hU : FD u u') (hZ : GD z z') : RelD u' z' := by
  unfold RelD
  rw [hU.1, hU.2.1, hU.2.2.1, hU.2.2.2, hZ.2.1 1 (by decide) (by decide), hZ.2.1 2 (by decide) (by decide), hZ.2.1 3 (by decide) (by decide), hZ.2.1 4 (by decide) (by decide), hZ.2.2.1]
  exact h
theorem fd_p {u u' : XC} {k i s : Nat} {v : Int32} (h : FD u u') (hk : k = 3 ∨ k = 4 ∨ k = 7 ∨ k = 8 ∨ k = 9 ∨ k = 10 ∨ k = 11) : FD u (pu u' k i s v) := by
  obtain ⟨a, b, c, d⟩ := h
  refine ⟨by rw [pu_k (by omega)]; exact a, by rw [pu_k (by omega)]; exact b, by rw [pu_k (by omega)]; exact c, by rw [pu_k (by omega)]; exact d⟩
theorem gd_p {z z' : ZW} {k s : Nat} {v : Int32} (h : GD z z') (hk : 5 ≤ k) : GD z (pz z' k s v) := by
  obtain ⟨a, b, c, d⟩ := h
  refine ⟨a, fun k' h1 h2 => by rw [pz_k (by omega)]; exact b k' h1 h2, by rw [pz_k (by omega)]; exact c, by rw [pz_k (by omega)]; exact d⟩
def BR (u u' : XC) (z z' : ZW) (r : Int32) : Prop := RelO u' z' ∧ (∃ w, RelL u' z' w) ∧ FD u u' ∧ GD z z' ∧ z'.1 0 31 = z.1 0 31 + r ∧ z'.1 6 = z.1 6
theorem be_s {u : XC} {z : ZW} {w o : Nat} (ho : o < 27) (hO : RelO u z) (hL : RelL u z w) (a : Int32) (hw1 : u.1 11 o 3 = z.1 12 o) (hw2 : dr (z.1 12 o)) : ∃ r u' z', F_H_begin u o a = some (r, u') ∧ F_Z_begin z (Int32.ofNat o) a = some z' ∧ BR u u' z z' r ∧ (∀ m, F_Z_open z (Int32.ofNat o) = some m → m ≠ 6 → u'.1 11 o 1 = z'.1 13 o) := by
  obtain ⟨hA, hR, hK, hT⟩ := hO o ho
  obtain ⟨n, hn, f1, f2, f3, f4⟩ := fu_s ho hK
  have ix := pa_ix (n := o) (N := 27) ho (by decide)
  have tn := i32_nat (a := o) (by omega)
  obtain ⟨a1, a2, a3, a4, a5⟩ := hA
  obtain ⟨r0, r1, r2, r3, r4, r5, r6, r7, r8, r9⟩ := hR
  unfold F_H_begin F_Z_begin
  rw [f1, f2, bs_s, bs_s, nm_s, pu_s, ud_s]
  by_cases h6 : n = 6
  · subst h6
    rw [if_pos (by decide), if_pos (by decide), if_pos ix, nm_s, nm_s, tn]
    refine ⟨0, _, _, rfl, rfl, ⟨?_, ⟨w, ?_⟩, fd_p (fd_p FD.rf (by decide)) (by decide), gd_p GD.rf (by decide), ?_, pz_k (by decide)⟩, fun m h1 h2 => ?_⟩
    · refine ro_1 (o := o) hO (fun o' h => ?_) (fun o' h => ?_) (fun o' h => ?_) (fun o' h => ?_) (fun o' h => ?_) (fun k o' h _ _ _ => pz_i h) (fun k o' m h _ h1 h2 => by rw [pz_k (by omega)]) (fun _ => ⟨?_, ?_, ?_, ?_⟩)
      · rw [pu_k (by decide), pu_k (by decide)]
      · rw [pu_k (by decide), pu_k (by decide)]
      · rw [pu_k (by decide), pu_k (by decide)]
      · rw [pu_k (by decide), pu_k (by decide)]
      · rw [pu_i h, pu_i h]
      · unfold RA
        rw [pu_k (by decide), pu_k (by decide), pz_k (by decide), pz_k (by decide), pz_k (by decide)]
        exact ⟨a1, a2, a3, a4, a5⟩
      · unfold RR OR_
        simp [pu_s, pz_s, pz_k, upd, r2, r3, r4, r5, r6]
      · unfold RK
        rw [pu_k (by decide), pu_k (by decide), pz_k (by decide)]
        exact hK
      · unfold RT
        rw [pu_k (by decide), pu_k (by decide), pu_k (by decide), pu_k (by decide), pz_k (by decide), pz_k (by decide)]
        exact hT
    · refine rl_f hL rfl ?_ ?_ ?_ (fun k h => pz_k (by omega))
      · rw [pu_k (by decide), pu_k (by decide)]
      · rw [pu_k (by decide), pu_k (by decide)]
      · rw [pz_k (by decide)]
    · rw [pz_k (by decide), Int32.add_zero]
    · exact absurd (Option.some.inj h1).symm h2
  · have hn6 : n < 6 := by omega
    have n6 : ¬ Int32.ofNat n = 6 := fun e => h6 ((pa_eq (b := 6) (by omega) (by decide)).mp e)
    rw [if_neg n6, if_neg n6, if_pos ix, tn]
    have em : (if a / 27 ≤ z.1 7 o / 27 then Fj_Z_begin_49 z (Int32.ofNat o) (Int32.ofNat n) (z.1 7 o / 27) else Fj_Z_begin_49 z (Int32.ofNat o) (Int32.ofNat n) (a / 27)) = Fj_Z_begin_49 z (Int32.ofNat o) (Int32.ofNat n) ((if z.1 7 o < a then a else z.1 7 o) / 27) := by
      rw [mx_27]
      split <;> rfl
    rw [em, pu_k (u := u) (k := 11) (i := o) (s := 1) (k' := 4) (by decide), a1, a2, mx_d, bs_s]
    generalize hM : (if z.1 7 o < a then a else z.1 7 o) / 27 = M
    generalize hB : 27 * (M + 1) + Int32.ofNat o = B
    generalize y1 : pu u 11 o 1 (Int32.ofNat n) = U1
    rw [nm_s]
    generalize y2 : pu U1 11 o 2 B = U2
    rw [nm_s, show U2.1 11 o 2 = B by rw [← y2, pu_s, ud_s]]
    generalize y3 : pu U2 4 o 1 B = U3
    rw [nm_s]
    generalize y4 : pu U3 11 o 0 1 = U4
    rw [show U4.1 11 o 6 = z.1 17 o by simp [← y4, ← y3, ← y2, ← y1, pu_s, pu_k, upd, r6], show U4.1 4 o 0 = Int32.ofNat o by simp [← y4, ← y3, ← y2, ← y1, pu_s, pu_k, upd, a1], l_pk ho, bs_s]
    generalize hv : E2 (134217727 &&& (z.1 17 o ^^^ (-1))) (o / 9) (o / 3) o = v
    have hsv : sub27 v := by rw [← hv]; exact su_E2
    rw [nm_s, nm_s]
    generalize y5 : pu U4 11 o 4 v = U5
    generalize y6 : pu U5 11 o 5 0 = U6
    rw [nm_s, nm_s, show U6.1 11 o 3 = z.1 12 o by simp [← y6, ← y5, ← y4, ← y3, ← y2, ← y1, pu_s, pu_k, upd, hw1]]
    generalize y7 : pu U6 11 o 7 (z.1 12 o) = U7
    generalize y8 : pu U7 11 o 8 0 = U8
    rw [show U8.1 11 o 4 = v by simp [← y8, ← y7, ← y6, ← y5, pu_s, upd]]
    unfold Fj_Z_begin_49
    rw [if_pos ix, nm_s, if_pos ix, nm_s, if_pos ix, if_pos ix, nm_s, if_pos ix, nm_s, if_pos ix, tn, hB]
    generalize x1 : pz z 13 o (Int32.ofNat n) = Z1
    generalize x2 : pz Z1 14 o B = Z2
    rw [show Z2.1 14 o = B by rw [← x2, pz_s, ud_s]]
    generalize x3 : pz Z2 7 o B = Z3
    generalize x4 : pz Z3 11 o 1 = Z4
    rw [show Z4.1 17 o = z.1 17 o by simp [← x4, ← x3, ← x2, ← x1, pz_k]]
    have ch : F_Z_choice (Int32.ofNat o) (z.1 17 o) = some v := by
      unfold F_Z_choice
      rw [l_ch ho, bs_s, hv]
    have ix2 : (0 : Int32) ≤ Int32.ofNat o ∧ o < 27 := ⟨ix.1, ho⟩
    rw [ch, bs_s, if_pos ix2, nm_s, if_pos ix2, nm_s, if_pos ix2, nm_s, if_pos ix2]
    generalize x5 : pz Z4 15 o v = Z5
    generalize x6 : pz Z5 16 o 0 = Z6
    generalize x7 : pz Z6 19 o 0 = Z7
    rw [show Z7.1 15 o = v by simp [← x7, ← x6, ← x5, pz_s, pz_k, upd]]
    have e11 : Z7.1 11 o = 1 := by simp [← x7, ← x6, ← x5, ← x4, pz_s, pz_k, upd]
    have hSP : SP U8 Z7 o := by
      refine ⟨?_, ?_, ?_, ?_, ⟨n, hn6, ?_⟩, fun h => absurd e11 h⟩
      · simp [← y8, ← y7, ← y6, ← y5, ← y4, ← y3, ← y2, ← y1, pu_s, pu_k, upd, a1]
      · rw [e11]; simp [← y8, ← y7, ← y6, ← y5, ← y4, pu_s, upd]
      · simp [← y8, ← y7, ← y6, ← y5, ← y4, ← y3, ← y2, ← x7, ← x6, ← x5, ← x4, ← x3, ← x2, pu_s, pu_k, pz_s, pz_k, upd]
      · simp [← y8, ← y7, ← y6, ← y5, ← y4, ← y3, ← y2, ← y1, ← x7, ← x6, ← x5, ← x4, ← x3, ← x2, ← x1, pu_s, pu_k, pz_s, pz_k, upd]
      · simp [← x7, ← x6, ← x5, ← x4, ← x3, ← x2, ← x1, pz_s, pz_k, upd]
    have hRL : RelL U8 Z7 w := by
      subst y8 y7 y6 y5 y4 y3 y2 y1 x7 x6 x5 x4 x3 x2 x1
      refine rl_f hL rfl ?_ ?_ ?_ (fun k h => ?_)
      · simp [pu_k]
      · simp [pu_k]
      · simp [pz_k]
      · rw [pz_k (by omega), pz_k (by omega), pz_k (by omega), pz_k (by omega), pz_k (by omega), pz_k (by omega), pz_k (by omega)]
    have hRO : RelO U8 Z7 := by
      subst y8 y7 y6 y5 y4 y3 y2 y1 x7 x6 x5 x4 x3 x2 x1
      refine ro_1 (o := o) hO (fun o' h => ?_) (fun o' h => ?_) (fun o' h => ?_) (fun o' h => ?_) (fun o' h => ?_) (fun k o' h _ _ _ => ?_) (fun k o' m h _ h1 h2 => ?_) (fun _ => ⟨?_, ?_, ?_, ?_⟩)
      · simp [pu_k, pu_i h]
      · simp [pu_k]
      · simp [pu_k]
      · simp [pu_k]
      · simp [pu_k, pu_i h]
      · simp [pz_i h]
      · rw [pz_k (by omega), pz_k (by omega), pz_k (by omega), pz_k (by omega), pz_k (by omega), pz_k (by omega), pz_k (by omega)]
      · unfold RA OA_
        simp [pu_s, pu_k, pz_s, pz_k, upd, a1, a3, a4]
        exact a5
      · unfold RR OR_
        simp [pu_s, pu_k, pz_s, pz_k, upd, r6, hsv, hw1, hw2]
        exact ⟨n, hn6, rfl⟩
      · unfold RK
        simp [pu_k, pz_k]
        exact hK
      · unfold RT
        simp [pu_k, pz_k]
        exact hT
    obtain ⟨u', z', w', g1, g2, g3, g4, g5, g6⟩ := sp_s ho hsv hRL hSP
    rw [g1, g2, bs_s, bd_s]
    refine ⟨_, u', z', rfl, rfl, ⟨ro_f hRO g4 g5, ⟨w', g3⟩, FD.tr ?_ g4.d, GD.tr ?_ g5.d, ?_, (g5.2.1 6 (by decide) (by decide)).trans (by simp [← x7, ← x6, ← x5, ← x4, ← x3, ← x2, ← x1, pz_k])⟩, fun m h1 h2 => ?_⟩
    · subst y8 y7 y6 y5 y4 y3 y2 y1
      exact fd_p (fd_p (fd_p (fd_p (fd_p (fd_p (fd_p (fd_p FD.rf (by decide)) (by decide)) (by decide)) (by decide)) (by decide)) (by decide)) (by decide)) (by decide)
    · subst x7 x6 x5 x4 x3 x2 x1
      exact gd_p (gd_p (gd_p (gd_p (gd_p (gd_p (gd_p GD.rf (by decide)) (by decide)) (by decide)) (by decide)) (by decide)) (by decide)) (by decide)
    · rw [g6]
      congr 1
      simp [← x7, ← x6, ← x5, ← x4, ← x3, ← x2, ← x1, pz_k]
    · rw [g4.2 11 (by decide) (by decide), g5.2.1 13 (by decide) (by decide)]
      exact hSP.2.2.2.1
