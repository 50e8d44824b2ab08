def Rd (r : Option Int32) (q : Option (Int32 × ZW)) (u : XC) : Prop := ∃ v z', r = some v ∧ q = some (v, z') ∧ Rel u z'
def Wr (r : Option (Int32 × XC)) (q : Option (Int32 × ZW)) : Prop := ∃ v u' z', r = some (v, u') ∧ q = some (v, z') ∧ Rel u' z'
theorem n10 : ¬ (1 : Int32) = 0 := by decide
theorem op_letters {u : XC} {z : ZW} (h : Rel u z) : Rd (F_H_letters u) (F_Z_letters z) u := by
  have h1 := rl_c (s := 0) (v := 0) (by decide) (by decide) h
  obtain ⟨w, hL⟩ := h1.2.2.1
  unfold F_H_letters F_Z_letters
  rw [nm_s]
  exact ⟨_, _, rfl, by rw [hL.2.1, hL.2.2.1], h1⟩
theorem op_promised {u : XC} {z : ZW} (h : Rel u z) (a : Int32) : Rd (F_H_promised u a) (F_Z_promised z a) u := by
  have h1 := rl_c (s := 0) (v := 0) (by decide) (by decide) h
  unfold F_H_promised F_Z_promised
  rw [nm_s (a := pz z 0 0 0)]
  generalize pz z 0 0 0 = z1 at h1 ⊢
  rcases is_o a with ⟨n, hn, rfl, e1, e2⟩ | ⟨e1, e2⟩
  · have ix := pa_ix (n := n) (N := 27) hn (by decide)
    rw [e1, e2, bs_s, bs_s, if_neg n10, if_neg n10, if_pos ix, if_pos ix, i32_nat (by omega)]
    exact ⟨_, z1, rfl, by rw [(h1.2.1 n hn).1.2.1], h1⟩
  · rw [e1, e2, bs_s, bs_s, if_pos rfl, if_pos rfl]
    exact ⟨_, z1, rfl, rfl, h1⟩
theorem op_complete {u : XC} {z : ZW} (h : Rel u z) (a : Int32) : Rd (F_H_complete u a) (F_Z_complete z a) u := by
  have h1 := rl_c (s := 0) (v := 0) (by decide) (by decide) h
  unfold F_H_complete F_Z_complete
  rw [nm_s (a := pz z 0 0 0)]
  generalize pz z 0 0 0 = z1 at h1 ⊢
  rcases is_o a with ⟨n, hn, rfl, e1, e2⟩ | ⟨e1, e2⟩
  · have ix := pa_ix (n := n) (N := 27) hn (by decide)
    obtain ⟨m, _, f1, f2, _⟩ := fu_s hn (h1.2.1 n hn).2.2.1
    rw [e1, e2, bs_s, bs_s, if_neg n10, if_neg n10, if_pos ix, i32_nat (by omega), f1, f2, bs_s, bs_s]
    exact ⟨_, z1, rfl, rfl, h1⟩
  · rw [e1, e2, bs_s, bs_s, if_pos rfl, if_pos rfl]
    exact ⟨_, z1, rfl, rfl, h1⟩
theorem op_accepted {u : XC} {z : ZW} (h : Rel u z) (a b : Int32) : Rd (F_H_accepted u a b) (F_Z_accepted z a b) u := by
  have h1 := rl_c (s := 0) (v := 0) (by decide) (by decide) h
  unfold F_H_accepted F_Z_accepted
  rw [nm_s (a := pz z 0 0 0)]
  generalize pz z 0 0 0 = z1 at h1 ⊢
  rcases is_o a with ⟨n, hn, rfl, e1, e2⟩ | ⟨e1, e2⟩
  · have ix := pa_ix (n := n) (N := 27) hn (by decide)
    rw [e1, e2, bs_s, bs_s, if_neg n10, if_neg n10]
    rcases is_n b with ⟨m, hm, rfl, g1, g2⟩ | ⟨g1, g2⟩
    · rw [g1, g2, bs_s, bs_s, if_neg n10, if_neg n10, ix_6 n hn m hm, if_pos ix, if_pos (pa_ix hm (by decide)), if_pos (pa_ix (n := 6 * n + m) (N := 162) (by omega) (by decide)), i32_nat (by omega), i32_nat (by omega), i32_nat (by omega)]
      exact ⟨_, z1, rfl, by rw [((h1.2.1 n hn).2.2.2 m hm).1], h1⟩
    · rw [g1, g2, bs_s, bs_s, if_pos rfl, if_pos rfl]
      exact ⟨_, z1, rfl, rfl, h1⟩
  · rw [e1, e2, bs_s, bs_s, if_pos rfl, if_pos rfl]
    exact ⟨_, z1, rfl, rfl, h1⟩
theorem op_decided {u : XC} {z : ZW} (h : Rel u z) (a b : Int32) : Rd (F_H_decided u a b) (F_Z_decided z a b) u := by
  have h1 := rl_c (s := 0) (v := 0) (by decide) (by decide) h
  unfold F_H_decided F_Z_decided
  rw [nm_s (a := pz z 0 0 0)]
  generalize pz z 0 0 0 = z1 at h1 ⊢
  rcases is_o a with ⟨n, hn, rfl, e1, e2⟩ | ⟨e1, e2⟩
  · have ix := pa_ix (n := n) (N := 27) hn (by decide)
    rw [e1, e2, bs_s, bs_s, if_neg n10, if_neg n10]
    rcases is_n b with ⟨m, hm, rfl, g1, g2⟩ | ⟨g1, g2⟩
    · rw [g1, g2, bs_s, bs_s, if_neg n10, if_neg n10, ix_6 n hn m hm, if_pos ix, if_pos (pa_ix hm (by decide)), if_pos (pa_ix (n := 6 * n + m) (N := 162) (by omega) (by decide)), i32_nat (by omega), i32_nat (by omega), i32_nat (by omega)]
      obtain ⟨k, _, k1, k2⟩ := (h1.2.1 n hn).2.2.1 m hm
      exact ⟨_, z1, rfl, by rw [k1, k2], h1⟩
    · rw [g1, g2, bs_s, bs_s, if_pos rfl, if_pos rfl]
      exact ⟨_, z1, rfl, rfl, h1⟩
  · rw [e1, e2, bs_s, bs_s, if_pos rfl, if_pos rfl]
    exact ⟨_, z1, rfl, rfl, h1⟩
theorem op_asked {u : XC} {z : ZW} (h : Rel u z) (a b : Int32) : Rd (F_H_asked u a b) (F_Z_asked z a b) u := by
  have h1 := rl_c (s := 0) (v := 0) (by decide) (by decide) h
  unfold F_H_asked F_Z_asked
  rw [nm_s (a := pz z 0 0 0)]
  generalize pz z 0 0 0 = z1 at h1 ⊢
  rcases is_o a with ⟨n, hn, rfl, e1, e2⟩ | ⟨e1, e2⟩
  · have ix := pa_ix (n := n) (N := 27) hn (by decide)
    obtain ⟨r0, r1, r2, r3, r4, r5, r6, r7⟩ := (h1.2.1 n hn).2.1
    rw [e1, e2, bs_s, bs_s, if_neg n10, if_neg n10, if_pos ix, if_pos ix, if_pos ix, if_pos ix, i32_nat (by omega), r0, r3, r5]
    by_cases hp : z1.1 11 n = 0
    · rw [if_pos hp, if_pos hp]
      exact ⟨_, z1, rfl, rfl, h1⟩
    · rw [if_neg hp, if_neg hp]
      by_cases hb : b = 0
      · rw [if_pos hb, if_pos hb, if_pos ⟨ix.1, hn⟩]
        exact ⟨_, z1, rfl, rfl, h1⟩
      · rw [if_neg hb, if_neg hb, if_pos ⟨ix.1, hn⟩]
        exact ⟨_, z1, rfl, rfl, h1⟩
  · rw [e1, e2, bs_s, bs_s, if_pos rfl, if_pos rfl]
    exact ⟨_, z1, rfl, rfl, h1⟩
theorem op_run {u : XC} {z : ZW} (h : Rel u z) (a b : Int32) : Rd (F_H_run u a b) (F_Z_run z a b) u := by
  have h1 := rl_c (s := 0) (v := 0) (by decide) (by decide) h
  unfold F_H_run F_Z_run
  rw [nm_s (a := pz z 0 0 0)]
  generalize pz z 0 0 0 = z1 at h1 ⊢
  rcases is_o a with ⟨n, hn, rfl, e1, e2⟩ | ⟨e1, e2⟩
  · have ix := pa_ix (n := n) (N := 27) hn (by decide)
    obtain ⟨r0, r1, r2, r3, r4, r5, r6, r7, r8, r9⟩ := (h1.2.1 n hn).2.1
    rw [e1, e2, bs_s, bs_s, if_neg n10, if_neg n10, if_pos ix, i32_nat (by omega), r0, r2]
    have ix2 : (0 : Int32) ≤ Int32.ofNat n ∧ n < 27 := ⟨ix.1, hn⟩
    simp only [if_pos ix2]
    by_cases hb0 : b = 0
    · subst hb0
      rw [if_pos rfl, if_neg (by decide), if_pos (by decide), if_pos rfl]
      exact ⟨_, z1, rfl, rfl, h1⟩
    · rw [if_neg hb0, if_neg hb0]
      by_cases hp : z1.1 11 n = 0
      · rw [if_pos hp, if_pos hp]
        by_cases hb1 : b < 0
        · rw [if_pos hb1]
          exact ⟨_, z1, rfl, rfl, h1⟩
        · rw [if_neg hb1]
          by_cases hb2 : b ≤ 3
          · rw [if_pos hb2]
            exact ⟨_, z1, rfl, rfl, h1⟩
          · rw [if_neg hb2]
            exact ⟨_, z1, rfl, rfl, h1⟩
      · rw [if_neg hp, if_neg hp]
        obtain ⟨k1, k2, k3, k4⟩ := r7 hp
        rw [k1, k3]
        by_cases hb1 : b < 0
        · rw [if_pos hb1]
          have g1 : ¬ b = 1 := fun e => by rw [e] at hb1; exact absurd hb1 (by decide)
          have g2 : ¬ b = 2 := fun e => by rw [e] at hb1; exact absurd hb1 (by decide)
          have g3 : ¬ b = 3 := fun e => by rw [e] at hb1; exact absurd hb1 (by decide)
          rw [if_neg g1, if_neg g2, if_neg g3]
          exact ⟨_, z1, rfl, rfl, h1⟩
        · rw [if_neg hb1]
          by_cases hb2 : b ≤ 3
          · rw [if_pos hb2]
            obtain ⟨m, hm, rfl⟩ := pa_lt (a := b) (N := 4) (by decide) hb1 (fun e => absurd (Int32.le_trans e hb2) (by decide))
            rcases (show m = 0 ∨ m = 1 ∨ m = 2 ∨ m = 3 by omega) with rfl | rfl | rfl | rfl
            · exact absurd rfl hb0
            · exact ⟨_, z1, rfl, rfl, h1⟩
            · exact ⟨_, z1, rfl, rfl, h1⟩
            · exact ⟨_, z1, rfl, rfl, h1⟩
          · rw [if_neg hb2]
            have g1 : ¬ b = 1 := fun e => hb2 (by rw [e]; decide)
            have g2 : ¬ b = 2 := fun e => hb2 (by rw [e]; decide)
            have g3 : ¬ b = 3 := fun e => hb2 (by rw [e]; decide)
            rw [if_neg g1, if_neg g2, if_neg g3]
            exact ⟨_, z1, rfl, rfl, h1⟩
  · rw [e1, e2, bs_s, bs_s, if_pos rfl, if_pos rfl]
    exact ⟨_, z1, rfl, rfl, h1⟩
theorem op_quorum {u : XC} {z : ZW} (h : Rel u z) (a : Int32) : Rd (F_H_quorum u a) (F_Z_quorum z a) u := by
  have h1 := rl_c (s := 0) (v := 0) (by decide) (by decide) h
  unfold F_H_quorum F_Z_quorum
  rw [nm_s, l_sq, l_zq, bs_s, bs_s, qq_mk]
  cases QQ a <;> exact ⟨_, _, rfl, rfl, h1⟩
theorem op_least {u : XC} {z : ZW} (h : Rel u z) (a : Int32) : Rd (F_H_least u a) (F_Z_least z a) u := by
  have h1 := rl_c (s := 0) (v := 0) (by decide) (by decide) h
  have e1 : F_S_pick a 0 = some (E2 a 0 0 0) := l_pk (o := 0) (by decide)
  have e2 : F_Z_eight (a &&& 134217727) 0 0 0 = some (E2 (a &&& 134217727) 0 0 0) := l_8 (x := 0) (y := 0) (p := 0) (by decide) (by decide) (by decide)
  unfold F_H_least F_Z_least
  rw [nm_s, e1, e2, bs_s, bs_s, e2_mk]
  exact ⟨_, _, rfl, rfl, h1⟩
theorem op_crash {u : XC} {z : ZW} (h : Rel u z) (a : Int32) : Wr (F_H_crash u a) (F_Z_crash z a) := by
  have h1 := rl_c (s := 0) (v := 0) (by decide) (by decide) h
  unfold F_H_crash F_Z_crash
  rw [nm_s (a := pz z 0 0 0)]
  generalize pz z 0 0 0 = z1 at h1 ⊢
  rcases is_o a with ⟨n, hn, rfl, e1, e2⟩ | ⟨e1, e2⟩
  · have ix := pa_ix (n := n) (N := 27) hn (by decide)
    have tn := i32_nat (a := n) (by omega)
    obtain ⟨hA, hR, hK, hT⟩ := h1.2.1 n hn
    obtain ⟨a1, a2, a3, a4, a5⟩ := hA
    rw [e1, e2, bs_s, bs_s, if_neg n10, if_neg n10]
    have ix2 : (0 : Int32) ≤ Int32.ofNat n ∧ n < 27 := ⟨ix.1, hn⟩
    simp only [tn, if_pos ix2, a3]
    by_cases hf : z1.1 5 n = 0
    · rw [if_pos hf, if_pos hf, nm_s, nm_s, nm_s, nm_s, nm_s, nm_s]
      obtain ⟨r0, r1, r2, r3, r4, r5, r6, r7⟩ := hR
      refine ⟨1, _, _, rfl, rfl, ?_, ?_, ?_, ?_⟩
      · exact rd_d h1.1 (fd_p (fd_p (fd_p FD.rf (by decide)) (by decide)) (by decide)) (gd_p (gd_p (gd_p GD.rf (by decide)) (by decide)) (by decide))
      · refine ro_1 (o := n) h1.2.1 (fun o' h => ?_) (fun o' h => ?_) (fun o' h => ?_) (fun o' h => ?_) (fun o' h => ?_) (fun k o' h _ _ _ => ?_) (fun k o' m h _ h1 h2 => ?_) (fun _ => ⟨?_, ?_, ?_, ?_⟩)
        · simp [pu_k, pu_i h]
        · simp [pu_k]
        · simp [pu_k]
        · simp [pu_k]
        · simp [pu_k, pu_i h]
        · simp [pz_i h]
        · rw [pz_k (by omega), pz_k (by omega), pz_k (by omega)]
        · unfold RA OA_
          simp [pu_s, pu_k, pz_s, pz_k, upd, a1, a2]
          exact ⟨0, by decide, rfl, by decide⟩
        · unfold RR OR_
          simp [pu_s, pu_k, pz_s, pz_k, upd, r2, r3, r4, r5, r6]
        · unfold RK
          simp [pu_k, pz_k]
          exact hK
        · unfold RT
          simp [pu_k, pz_k]
          exact hT
      · obtain ⟨w, hL⟩ := h1.2.2.1
        refine ⟨w, rl_f hL rfl ?_ ?_ ?_ (fun k h => ?_)⟩
        · simp [pu_k]
        · simp [pu_k]
        · simp [pz_k]
        · rw [pz_k (by omega), pz_k (by omega), pz_k (by omega)]
      · intro o' ho'
        obtain ⟨m, q, m1, m2, m3, m4⟩ := h1.2.2.2 o' ho'
        rw [pz_s, pz_k (by decide), pz_k (by decide), pz_k (by decide), pz_k (by decide), pz_k (by decide)]
        by_cases e : o' = n
        · subst e
          exact ⟨0, q, Nat.zero_le _, m2, by rw [ud_s]; rfl, m4⟩
        · exact ⟨m, q, m1, m2, by rw [ud_n e]; exact m3, m4⟩
    · rw [if_neg hf, if_neg hf]
      exact ⟨_, u, z1, rfl, rfl, h1⟩
  · rw [e1, e2, bs_s, bs_s, if_pos rfl, if_pos rfl]
    exact ⟨_, u, z1, rfl, rfl, h1⟩
theorem op_restart {u : XC} {z : ZW} (h : Rel u z) (a : Int32) : Wr (F_H_restart u a) (F_Z_restart z a) := by
  have h1 := rl_c (s := 0) (v := 0) (by decide) (by decide) h
  unfold F_H_restart F_Z_restart
  rw [nm_s (a := pz z 0 0 0)]
  generalize pz z 0 0 0 = z1 at h1 ⊢
  rcases is_o a with ⟨n, hn, rfl, e1, e2⟩ | ⟨e1, e2⟩
  · have ix := pa_ix (n := n) (N := 27) hn (by decide)
    have tn := i32_nat (a := n) (by omega)
    obtain ⟨hA, hR, hK, hT⟩ := h1.2.1 n hn
    obtain ⟨a1, a2, a3, a4, a5⟩ := hA
    rw [e1, e2, bs_s, bs_s, if_neg n10, if_neg n10]
    have ix2 : (0 : Int32) ≤ Int32.ofNat n ∧ n < 27 := ⟨ix.1, hn⟩
    simp only [tn, if_pos ix2, a3]
    by_cases hf : z1.1 5 n = 0
    · rw [if_pos hf, if_pos hf]
      exact ⟨_, u, z1, rfl, rfl, h1⟩
    · rw [if_neg hf, if_neg hf, nm_s, nm_s]
      refine ⟨1, _, _, rfl, rfl, ?_, ?_, ?_, ?_⟩
      · exact rd_d h1.1 (fd_p FD.rf (by decide)) (gd_p GD.rf (by decide))
      · refine ro_1 (o := n) h1.2.1 (fun o' h => ?_) (fun o' h => ?_) (fun o' h => ?_) (fun o' h => ?_) (fun o' h => ?_) (fun k o' h _ _ _ => ?_) (fun k o' m h _ h1 h2 => ?_) (fun _ => ⟨?_, ?_, ?_, ?_⟩)
        · simp [pu_i h]
        · simp [pu_k]
        · simp [pu_k]
        · simp [pu_k]
        · simp [pu_k]
        · simp [pz_i h]
        · rw [pz_k (by omega)]
        · unfold RA OA_
          simp [pu_s, pz_s, pz_k, upd, a1, a2]
          exact a5
        · unfold RR
          simp [pu_k, pz_k]
          exact hR
        · unfold RK
          simp [pu_k, pz_k]
          exact hK
        · unfold RT
          simp [pu_k, pz_k]
          exact hT
      · obtain ⟨w, hL⟩ := h1.2.2.1
        refine ⟨w, rl_f hL rfl ?_ ?_ ?_ (fun k h => ?_)⟩
        · simp [pu_k]
        · simp [pu_k]
        · simp [pz_k]
        · rw [pz_k (by omega)]
      · exact rb_f h1.2.2.2 (pz_k (by decide)) (by rw [pz_k (by decide)])
  · rw [e1, e2, bs_s, bs_s, if_pos rfl, if_pos rfl]
    exact ⟨_, u, z1, rfl, rfl, h1⟩
