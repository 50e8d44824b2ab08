def cd (k : Nat) : Int32 := if k = 2 then 2 else 1
def Th (r : Option (Nat × Int32 × XC)) (q : Option (Int32 × ZW)) (u : XC) (z : ZW) : Prop := ∃ k v v' u' z', r = some (k, v, u') ∧ q = some (v', z') ∧ z'.2 = z.2 ∧ ((k = 0 ∧ z'.1 0 0 = 0 ∧ v = v' ∧ Rel u' z') ∨ ((k = 1 ∨ k = 2) ∧ z'.1 0 0 = cd k ∧ Rel u z'))
def Th3 (r : Option (Nat × Int32 × XC)) (q : Option (Int32 × ZW)) (u : XC) (z : ZW) : Prop := ∃ k v v' u' z', r = some (k, v, u') ∧ q = some (v', z') ∧ z'.2 = z.2 ∧ ((k = 0 ∧ z'.1 0 0 = 0 ∧ v = v' ∧ Rel u' z') ∨ (k = 3 ∧ z'.1 0 0 = cd k ∧ Rel u z'))
theorem rel_s {u u' : XC} {z z' : ZW} {w : Nat} (h : Rel u z) (hU : FU u u') (hZ : FZ z z') (hL : RelL u' z' w) : Rel u' z' := ⟨rd_f h.1 hU hZ, ro_f h.2.1 hU hZ, ⟨w, hL⟩, rb_f h.2.2.2 (hZ.2.1 6 (by decide) (by decide)) hZ.2.2.1⟩
theorem sp_of {u : XC} {z : ZW} {o : Nat} (hA : RA u z o) (hR : RR u z o) (hp : z.1 11 o ≠ 0) : SP u z o := by
  obtain ⟨r0, r1, r2, r3, r4, r5, r6, r7, r8, r9⟩ := hR
  obtain ⟨k1, k2, k3, k4⟩ := r7 hp
  refine ⟨hA.1, r0, r2, k1, k2, fun h1 => ?_⟩
  rcases r1 with h | h | h
  · exact absurd h hp
  · exact absurd h h1
  · exact r9 h
theorem re_0 {u : XC} {z : ZW} {a w : Int32} (h : Rel u z) (hw : ¬ w ≤ 0) : ∃ z', Fj_Z_resend_35 z a w = some (0, z') ∧ z'.2 = z.2 ∧ z'.1 0 0 = w ∧ Rel u z' := by
  unfold Fj_Z_resend_35
  rw [nm_s, pz_s, ud_s, if_neg hw]
  exact ⟨_, rfl, rfl, by rw [pz_s, ud_s], rl_c (by decide) (by decide) h⟩
theorem op_resend {u : XC} {z : ZW} (h : Rel u z) (a : Int32) : Th (F_H_resend u a) (F_Z_resend z a) u z := by
  unfold F_H_resend F_Z_resend
  rcases is_o a with ⟨n, hn, rfl, e1, e2⟩ | ⟨e1, e2⟩
  · have ix := pa_ix (n := n) (N := 27) hn (by decide)
    have tn := i32_nat (a := n) (by omega)
    have ix2 : (0 : Int32) ≤ Int32.ofNat n ∧ n < 27 := ⟨ix.1, hn⟩
    obtain ⟨hA, hR, hK, hT⟩ := h.2.1 n hn
    have hR0 := hR
    obtain ⟨r0, r1, r2, r3, r4, r5, r6, r7, r8, r9⟩ := hR
    rw [e1, e2, bs_s, bs_s, if_neg n10, if_neg n10]
    simp only [tn, if_pos ix2, hA.2.2.1, r0, r3, r5]
    by_cases hf : z.1 5 n = 0
    · rw [if_pos hf, if_pos hf]
      by_cases hp : z.1 11 n = 0
      · rw [if_pos hp, if_pos hp]
        obtain ⟨z', g1, g2, g3, g4⟩ := re_0 (a := Int32.ofNat n) (w := 2) h (by decide)
        exact ⟨2, 0, 0, u, z', rfl, g1, g2, Or.inr ⟨by decide, g3, g4⟩⟩
      · rw [if_neg hp, if_neg hp]
        unfold Fj_Z_resend_35
        rw [nm_s, pz_s, ud_s, if_pos (by decide), nm_s]
        have h2 : Rel u (pz (pz z 0 0 0) 0 31 0) := rl_c (by decide) (by decide) (rl_c (by decide) (by decide) h)
        have eq : (pz (pz z 0 0 0) 0 31 0).1 15 n = z.1 15 n ∧ (pz (pz z 0 0 0) 0 31 0).1 16 n = z.1 16 n ∧ (pz (pz z 0 0 0) 0 31 0).1 0 31 = 0 ∧ (pz (pz z 0 0 0) 0 31 0).1 0 0 = 0 ∧ (pz (pz z 0 0 0) 0 31 0).2 = z.2 ∧ (pz (pz z 0 0 0) 0 31 0).1 11 n = z.1 11 n := by
          refine ⟨?_, ?_, ?_, ?_, rfl, ?_⟩ <;> simp [pz_k, pz_s, upd]
        generalize pz (pz z 0 0 0) 0 31 0 = z2 at h2 eq ⊢
        obtain ⟨q1, q2, q3, q4, q5, q6⟩ := eq
        simp only [tn, if_pos ix2, q1, q2]
        obtain ⟨w, hL⟩ := h2.2.2.1
        obtain ⟨hA2, hR2, _, _⟩ := h2.2.1 n hn
        obtain ⟨u', z', w', g1, g2, g3, g4, g5, g6⟩ := sp_s hn (su_an (b := z.1 16 n ^^^ (-1)) r4) hL (sp_of hA2 hR2 (by rw [q6]; exact hp))
        rw [g1, g2, bs_s, bd_s]
        exact ⟨0, _, _, u', z', rfl, rfl, g5.1.trans q5, Or.inl ⟨rfl, g5.2.2.2.trans q4, by rw [g6, q3, Int32.zero_add], rel_s h2 g4 g5 g3⟩⟩
    · rw [if_neg hf, if_neg hf]
      obtain ⟨z', g1, g2, g3, g4⟩ := re_0 (a := Int32.ofNat n) (w := 2) h (by decide)
      exact ⟨2, 0, 0, u, z', rfl, g1, g2, Or.inr ⟨by decide, g3, g4⟩⟩
  · rw [e1, e2, bs_s, bs_s, if_pos rfl, if_pos rfl]
    obtain ⟨z', g1, g2, g3, g4⟩ := re_0 (a := a) (w := 1) h (by decide)
    exact ⟨1, 0, 0, u, z', rfl, g1, g2, Or.inr ⟨by decide, g3, g4⟩⟩
theorem si_0 {u : XC} {z : ZW} {a b w : Int32} (h : Rel u z) (hw : ¬ w ≤ 0) : ∃ z', Fj_Z_silent_73 z a b w = some (0, z') ∧ z'.2 = z.2 ∧ z'.1 0 0 = w ∧ Rel u z' := by
  unfold Fj_Z_silent_73
  rw [nm_s, pz_s, ud_s, if_neg hw]
  exact ⟨_, rfl, rfl, by rw [pz_s, ud_s], rl_c (by decide) (by decide) h⟩
theorem op_silent {u : XC} {z : ZW} (h : Rel u z) (a b : Int32) : Th (F_H_silent u a b) (F_Z_silent z a b) u z := by
  unfold F_H_silent F_Z_silent
  rcases is_o a with ⟨n, hn, rfl, e1, e2⟩ | ⟨e1, e2⟩
  · have ix := pa_ix (n := n) (N := 27) hn (by decide)
    have tn := i32_nat (a := n) (by omega)
    have ix2 : (0 : Int32) ≤ Int32.ofNat n ∧ n < 27 := ⟨ix.1, hn⟩
    obtain ⟨hA, hR, hK, hT⟩ := h.2.1 n hn
    have hR0 := hR
    obtain ⟨r0, r1, r2, r3, r4, r5, r6, r7, r8, r9⟩ := hR
    have s2 : ∃ z', Fj_Z_silent_68 z (Int32.ofNat n) b = some (0, z') ∧ z'.2 = z.2 ∧ z'.1 0 0 = 2 ∧ Rel u z' := si_0 h (by decide)
    obtain ⟨z', g1, g2, g3, g4⟩ := s2
    rw [e1, e2, bs_s, bs_s, if_neg n10, if_neg n10]
    rcases is_o b with ⟨p, hp, rfl, f1, f2⟩ | ⟨f1, f2⟩
    · rw [f1, f2, bs_s, bs_s, if_neg n10, if_neg n10]
      simp only [tn, if_pos ix2, hA.2.2.1, r0, r3, r6]
      by_cases hf : z.1 5 n = 0
      · rw [if_pos hf, if_pos hf]
        by_cases hq : z.1 11 n = 0
        · rw [if_pos hq, if_pos hq]
          exact ⟨2, 0, 0, u, z', rfl, g1, g2, Or.inr ⟨by decide, g3, g4⟩⟩
        · rw [if_neg hq, if_neg hq]
          cases hb : Tb (z.1 17 n) p with
          | true =>
            obtain ⟨b1, b2⟩ := bt_1.1 hb
            rw [b2, bs_s, if_neg n10, if_pos b1]
            exact ⟨2, 0, 0, u, z', rfl, g1, g2, Or.inr ⟨by decide, g3, g4⟩⟩
          | false =>
            obtain ⟨b1, b2⟩ := bt_1.2 hb
            rw [b2, bs_s, if_pos rfl, if_neg b1]
            generalize hS : z.1 17 n ||| 1 <<< (Int32.ofNat p &&& 31) = S
            have ch : F_Z_choice (Int32.ofNat n) S = some (E2 (134217727 &&& (S ^^^ (-1))) (n / 9) (n / 3) n) := by
              unfold F_Z_choice
              rw [l_ch hn, bs_s]
            rw [nm_s, l_pk hn, ch, bs_s, bs_s]
            generalize hv : E2 (134217727 &&& (S ^^^ (-1))) (n / 9) (n / 3) n = v at ch ⊢
            have hsv : sub27 v := by rw [← hv]; exact su_E2
            by_cases hv0 : v = 0
            · rw [if_pos hv0, if_pos hv0]
              exact ⟨2, 0, 0, u, z', rfl, g1, g2, Or.inr ⟨by decide, g3, g4⟩⟩
            · rw [if_neg hv0, if_neg hv0]
              unfold Fj_Z_silent_73
              simp only [nm_s, tn, if_pos ix2]
              rw [show (pz z 0 0 0).1 0 0 = 0 by rw [pz_s, ud_s], if_pos (by decide), show (pz z 0 0 0).1 17 n = z.1 17 n by rw [pz_k (by decide)], hS, show (pz (pz z 0 0 0) 17 n S).1 17 n = S by rw [pz_s, ud_s], ch, bs_s]
              rw [show (pz (pz (pz (pz z 0 0 0) 17 n S) 15 n v) 0 31 0).1 15 n = v by rw [pz_k (by decide), pz_s, ud_s], show (pz (pz z 0 0 0) 17 n S).1 15 n = z.1 15 n by rw [pz_k (by decide), pz_k (by decide)]]
              have hz : Rel u (pz z 0 0 0) := rl_c (by decide) (by decide) h
              have h2 : Rel (pu (pu u 11 n 6 S) 11 n 4 v) (pz (pz (pz z 0 0 0) 17 n S) 15 n v) := by
                obtain ⟨hA1, hR1, hK1, hT1⟩ := hz.2.1 n hn
                refine ⟨rd_d hz.1 (fd_p (fd_p FD.rf (by decide)) (by decide)) (gd_p (gd_p GD.rf (by decide)) (by decide)), ?_, ?_, rb_f hz.2.2.2 (by rw [pz_k (by decide), pz_k (by decide)]) (by rw [pz_k (by decide), pz_k (by decide)])⟩
                · refine ro_1 (o := n) hz.2.1 (fun o' h => ?_) (fun o' h => ?_) (fun o' h => ?_) (fun o' h => ?_) (fun o' h => ?_) (fun k o' h _ _ _ => ?_) (fun k o' m h _ h1 h2 => ?_) (fun _ => ⟨?_, ?_, ?_, ?_⟩)
                  · simp [pu_k]
                  · simp [pu_k]
                  · simp [pu_k]
                  · simp [pu_k]
                  · simp [pu_i h]
                  · rw [pz_i h, pz_i h]
                  · rw [pz_k (by omega), pz_k (by omega)]
                  · unfold RA
                    simp [pu_k, pz_k]
                    unfold RA at hA1
                    simpa [pz_k] using hA1
                  · unfold RR OR_
                    simp [pu_s, pz_s, pz_k, upd, r0, r2, r5, hsv]
                    exact ⟨r1, r7, fun h => ⟨(r8 h).1, (r8 h).2.1, (r8 h).2.2.1, fun g => (r8 h).2.2.2 (Int32.not_lt.mpr g)⟩, r9⟩
                  · unfold RK
                    simp [pu_k, pz_k]
                    exact hK
                  · unfold RT
                    simp [pu_k, pz_k]
                    exact hT
                · obtain ⟨w, hL⟩ := hz.2.2.1
                  refine ⟨w, rl_f hL rfl ?_ ?_ ?_ (fun k h => ?_)⟩
                  · simp [pu_k]
                  · simp [pu_k]
                  · rw [pz_k (by decide), pz_k (by decide)]
                  · rw [pz_k (by omega), pz_k (by omega)]
              have h3 := rl_c (s := 31) (v := 0) (by decide) (by decide) h2
              have q3 : (pz (pz (pz (pz z 0 0 0) 17 n S) 15 n v) 0 31 0).1 0 31 = 0 := by rw [pz_s, ud_s]
              have q4 : (pz (pz (pz (pz z 0 0 0) 17 n S) 15 n v) 0 31 0).1 0 0 = 0 := by simp [pz_k, pz_s, upd]
              have q6 : (pz (pz (pz (pz z 0 0 0) 17 n S) 15 n v) 0 31 0).1 11 n = z.1 11 n := by simp [pz_k]
              have q5 : (pz (pz (pz (pz z 0 0 0) 17 n S) 15 n v) 0 31 0).2 = z.2 := rfl
              generalize pz (pz (pz (pz z 0 0 0) 17 n S) 15 n v) 0 31 0 = z2 at h3 q3 q4 q5 q6 ⊢
              generalize pu (pu u 11 n 6 S) 11 n 4 v = u2 at h3 ⊢
              obtain ⟨w, hL⟩ := h3.2.2.1
              obtain ⟨hA2, hR2, _, _⟩ := h3.2.1 n hn
              obtain ⟨u', z3, w', t1, t2, t3, t4, t5, t6⟩ := sp_s hn (su_an (b := z.1 15 n ^^^ (-1)) hsv) hL (sp_of hA2 hR2 (by rw [q6]; exact hq))
              rw [t1, t2, bs_s, bd_s]
              exact ⟨0, _, _, u', z3, rfl, rfl, t5.1.trans q5, Or.inl ⟨rfl, t5.2.2.2.trans q4, by rw [t6, q3, Int32.zero_add], rel_s h3 t4 t5 t3⟩⟩
      · rw [if_neg hf, if_neg hf]
        exact ⟨2, 0, 0, u, z', rfl, g1, g2, Or.inr ⟨by decide, g3, g4⟩⟩
    · rw [f1, f2, bs_s, bs_s, if_pos rfl, if_pos rfl]
      obtain ⟨z', g1, g2, g3, g4⟩ := si_0 (a := Int32.ofNat n) (b := b) (w := 1) h (by decide)
      exact ⟨1, 0, 0, u, z', rfl, g1, g2, Or.inr ⟨by decide, g3, g4⟩⟩
  · rw [e1, e2, bs_s, bs_s, if_pos rfl, if_pos rfl]
    obtain ⟨z', g1, g2, g3, g4⟩ := si_0 (a := a) (b := b) (w := 1) h (by decide)
    exact ⟨1, 0, 0, u, z', rfl, g1, g2, Or.inr ⟨by decide, g3, g4⟩⟩
theorem pr_0 {u : XC} {z : ZW} {a w : Int32} (h : Rel u z) (hw : ¬ w ≤ 0) : ∃ z', Fj_Z_propose_70 z a w = some (0, z') ∧ z'.2 = z.2 ∧ z'.1 0 0 = w ∧ Rel u z' := by
  unfold Fj_Z_propose_70
  rw [nm_s, pz_s, ud_s, if_neg hw]
  exact ⟨_, rfl, rfl, by rw [pz_s, ud_s], rl_c (by decide) (by decide) h⟩
theorem ph_3 {x : Int32} (h : x = 0 ∨ x = 1 ∨ x = 2) : (0 < x) ↔ ¬ x = 0 := by
  rcases h with rfl | rfl | rfl <;> decide
theorem op_propose {u : XC} {z : ZW} (h : Rel u z) (a : Int32) : Th (F_H_propose u a) (F_Z_propose z a) u z := by
  unfold F_H_propose F_Z_propose
  rcases is_o a with ⟨n, hn, rfl, e1, e2⟩ | ⟨e1, e2⟩
  · have ix := pa_ix (n := n) (N := 27) hn (by decide)
    have tn := i32_nat (a := n) (by omega)
    have ix2 : (0 : Int32) ≤ Int32.ofNat n ∧ n < 27 := ⟨ix.1, hn⟩
    obtain ⟨hA, hR, hK, hT⟩ := h.2.1 n hn
    obtain ⟨r0, r1, r2, r3, r4, r5, r6, r7, r8, r9⟩ := hR
    obtain ⟨a1, a2, a3, a4, b, b1, b2, b3⟩ := hA
    obtain ⟨z1, g1, g2, g3, g4⟩ : ∃ z', Fj_Z_propose_33 z (Int32.ofNat n) = some (0, z') ∧ z'.2 = z.2 ∧ z'.1 0 0 = 1 ∧ Rel u z' := pr_0 h (by decide)
    obtain ⟨z2, f1, f2, f3, f4⟩ : ∃ z', Fj_Z_propose_65 z (Int32.ofNat n) = some (0, z') ∧ z'.2 = z.2 ∧ z'.1 0 0 = 2 ∧ Rel u z' := pr_0 h (by decide)
    rw [e1, e2, bs_s, bs_s, if_neg n10, if_neg n10]
    simp only [tn, if_pos ix2, a3, r0, b2, b3]
    unfold F_H_hasLines
    obtain ⟨k1, k2⟩ := kn_0 b (by omega)
    by_cases hb : b = 0
    · rw [if_pos (k1.mpr hb), bs_s, if_pos rfl, if_pos (by rw [hb]; rfl)]
      exact ⟨1, 0, 0, u, z1, rfl, g1, g2, Or.inr ⟨by decide, g3, g4⟩⟩
    · have hb' : ¬ Int32.ofNat b = 0 := fun e => hb ((pa_eq (b := 0) (by omega) (by decide)).mp e)
      rw [if_neg (fun e => hb (k1.mp e)), if_neg hb']
      obtain ⟨d, rfl⟩ : ∃ d, b = d + 1 := ⟨b - 1, by omega⟩
      have es : Int32.ofNat (d + 1) - 1 = Int32.ofNat d := pc_sub (a := d + 1) (b := 1) (by omega)
      have hd : d < 40 := by omega
      have td := i32_nat (a := d) (by omega)
      have id := pa_ix (n := d) (N := 40) hd (by decide)
      rw [es, if_pos id, if_pos id, td]
      obtain ⟨q, q1, q2, q3, q4⟩ := h.1
      obtain ⟨⟨m, m1, m2, m3, m4, m5⟩, m6, m7⟩ := q4 d hd
      rw [m2, m3]
      by_cases hm : m = 0
      · rw [if_pos (by rw [hm]; decide), bs_s, if_pos rfl, if_pos (by rw [hm]; rfl)]
        exact ⟨1, 0, 0, u, z1, rfl, g1, g2, Or.inr ⟨by decide, g3, g4⟩⟩
      · have hm1 : ¬ Int32.ofNat m ≤ 0 := fun e => hm ((kn_0 m (by omega)).2.mp e)
        have hm2 : ¬ Int32.ofNat m = 0 := fun e => hm ((pa_eq (b := 0) (by omega) (by decide)).mp e)
        rw [if_neg hm1, bs_s, if_neg n10, if_neg hm2]
        by_cases hf : z.1 5 n = 0
        · rw [if_pos hf, if_pos hf]
          by_cases hp : z.1 11 n = 0
          · rw [if_pos hp, if_neg (fun e => ((ph_3 r1).mp e) hp)]
            obtain ⟨t, ht, t1, t2, t3, t4⟩ := fu_s hn hK
            rw [t1, t2, bs_s, bs_s]
            by_cases h6 : Int32.ofNat t = 6
            · rw [if_pos h6, if_pos h6]
              exact ⟨2, 0, 0, u, z2, rfl, f1, f2, Or.inr ⟨by decide, f3, f4⟩⟩
            · rw [if_neg h6, if_neg h6]
              unfold Fj_Z_propose_70
              simp only [nm_s, tn, if_pos ix2]
              rw [show (pz z 0 0 0).1 0 0 = 0 by rw [pz_s, ud_s], if_pos (by decide), show (pz z 0 0 0).1 6 n = Int32.ofNat (d + 1) by rw [pz_k (by decide)]; exact b2, es]
              have hz : Rel u (pz z 0 0 0) := rl_c (by decide) (by decide) h
              have hB3 : RB (pz (pz (pz (pz z 0 0 0) 12 n (Int32.ofNat d)) 6 n 0) 17 n 0) := by
                intro o' ho'
                obtain ⟨x, y, x1, x2, x3, x4⟩ := hz.2.2.2 o' ho'
                rw [pz_k (k' := 6) (by decide), pz_s, pz_k (k' := 6) (by decide), pz_k (k' := 0) (by decide), pz_k (k' := 0) (by decide), pz_k (k := 12) (k' := 0) (by decide)]
                by_cases e : o' = n
                · subst e
                  exact ⟨0, y, Nat.zero_le _, x2, by rw [ud_s]; rfl, x4⟩
                · exact ⟨x, y, x1, x2, by rw [ud_n e]; exact x3, x4⟩
              have hO3 : RelO (pu (pu (pu u 11 n 3 (Int32.ofNat d)) 11 n 6 0) 4 n 6 (-1)) (pz (pz (pz (pz z 0 0 0) 12 n (Int32.ofNat d)) 6 n 0) 17 n 0) := by
                refine ro_1 (o := n) hz.2.1 (fun o' h => ?_) (fun o' h => ?_) (fun o' h => ?_) (fun o' h => ?_) (fun o' h => ?_) (fun k o' h _ _ _ => ?_) (fun k o' m h _ h1 h2 => ?_) (fun _ => ⟨?_, ?_, ?_, ?_⟩)
                · simp [pu_k, pu_i h]
                · simp [pu_k]
                · simp [pu_k]
                · simp [pu_k]
                · simp [pu_k, pu_i h]
                · rw [pz_i h, pz_i h, pz_i h]
                · rw [pz_k (by omega), pz_k (by omega), pz_k (by omega)]
                · unfold RA OA_
                  simp [pu_s, pu_k, pz_s, pz_k, upd, a1, a2, a3, a4]
                  exact ⟨0, by decide, rfl, by decide⟩
                · unfold RR OR_
                  simp [pu_s, pu_k, pz_s, pz_k, upd, r0, r2, r3, r4, r5, hp]
                · unfold RK
                  simp [pu_k, pz_k]
                  exact hK
                · unfold RT
                  simp [pu_k, pz_k]
                  exact hT
              have hw1 : (pu (pu (pu u 11 n 3 (Int32.ofNat d)) 11 n 6 0) 4 n 6 (-1)).1 11 n 3 = (pz (pz (pz (pz z 0 0 0) 12 n (Int32.ofNat d)) 6 n 0) 17 n 0).1 12 n := by simp [pu_s, pu_k, pz_s, pz_k, upd]
              have hw2 : dr ((pz (pz (pz (pz z 0 0 0) 12 n (Int32.ofNat d)) 6 n 0) 17 n 0).1 12 n) := ⟨d, hd, by simp [pz_s, pz_k, upd]⟩
              have hD3 : RelD (pu (pu (pu u 11 n 3 (Int32.ofNat d)) 11 n 6 0) 4 n 6 (-1)) (pz (pz (pz (pz z 0 0 0) 12 n (Int32.ofNat d)) 6 n 0) 17 n 0) := rd_d hz.1 (fd_p (fd_p (fd_p FD.rf (by decide)) (by decide)) (by decide)) (gd_p (gd_p (gd_p GD.rf (by decide)) (by decide)) (by decide))
              have hop : F_Z_open (pz (pz (pz (pz z 0 0 0) 12 n (Int32.ofNat d)) 6 n 0) 17 n 0) (Int32.ofNat n) = some (Int32.ofNat t) := by
                obtain ⟨t', _, y1, y2, _⟩ := fu_s hn (hO3 n hn).2.2.1
                have y3 : F_O_firstUnknown (pu (pu (pu u 11 n 3 (Int32.ofNat d)) 11 n 6 0) 4 n 6 (-1)) n = F_O_firstUnknown u n := by
                  have key : ∀ (f : Nat) (x : Int32), Fl_O_firstUnknown_2 f (pu (pu (pu u 11 n 3 (Int32.ofNat d)) 11 n 6 0) 4 n 6 (-1)) n x = Fl_O_firstUnknown_2 f u n x := by
                    intro f
                    induction f with
                    | zero => intro x; rfl
                    | succ f ih => intro x; rw [Fl_O_firstUnknown_2, Fl_O_firstUnknown_2, ih, pu_k (by decide), pu_k (by decide), pu_k (by decide)]
                  exact key 200 0
                rw [y2, ← y1, y3, t1]
              have c0 : (pz (pz (pz (pz z 0 0 0) 12 n (Int32.ofNat d)) 6 n 0) 17 n 0).1 0 0 = 0 := by simp [pz_k, pz_s, upd]
              have c2 : (pz (pz (pz (pz z 0 0 0) 12 n (Int32.ofNat d)) 6 n 0) 17 n 0).2 = z.2 := rfl
              obtain ⟨w, hL⟩ := hz.2.2.1
              have hL3 : RelL (pu (pu (pu u 11 n 3 (Int32.ofNat d)) 11 n 6 0) 4 n 6 (-1)) (pz (pz (pz (pz z 0 0 0) 12 n (Int32.ofNat d)) 6 n 0) 17 n 0) w := by
                refine rl_f hL rfl ?_ ?_ ?_ (fun k h => ?_)
                · simp [pu_k]
                · simp [pu_k]
                · rw [pz_k (by decide), pz_k (by decide), pz_k (by decide)]
                · rw [pz_k (by omega), pz_k (by omega), pz_k (by omega)]
              generalize pz (pz (pz (pz z 0 0 0) 12 n (Int32.ofNat d)) 6 n 0) 17 n 0 = z3 at *
              generalize pu (pu (pu u 11 n 3 (Int32.ofNat d)) 11 n 6 0) 4 n 6 (-1) = u3 at *
              obtain ⟨r, u', z', y1, y2, ⟨y3, y4, y5, y6, y7, y8⟩, y9⟩ := be_s hn hO3 hL3 0 hw1 hw2
              rw [y1, y2, bs_s, bd_s]
              exact ⟨0, _, _, u', z', rfl, rfl, y6.1.trans c2, Or.inl ⟨rfl, y6.2.2.2.trans c0, y9 _ hop h6, rd_d hD3 y5 y6, y3, y4, rb_f hB3 y8 y6.2.2.1⟩⟩
          · rw [if_neg hp, if_pos ((ph_3 r1).mpr hp)]
            exact ⟨2, 0, 0, u, z2, rfl, f1, f2, Or.inr ⟨by decide, f3, f4⟩⟩
        · rw [if_neg hf, if_neg hf]
          exact ⟨2, 0, 0, u, z2, rfl, f1, f2, Or.inr ⟨by decide, f3, f4⟩⟩
  · rw [e1, e2, bs_s, bs_s, if_pos rfl, if_pos rfl]
    obtain ⟨z1, g1, g2, g3, g4⟩ : ∃ z', Fj_Z_propose_33 z a = some (0, z') ∧ z'.2 = z.2 ∧ z'.1 0 0 = 1 ∧ Rel u z' := pr_0 h (by decide)
    exact ⟨1, 0, 0, u, z1, rfl, g1, g2, Or.inr ⟨by decide, g3, g4⟩⟩
