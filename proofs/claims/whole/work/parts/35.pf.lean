theorem ac_1 {a b : Int32} (h : a + 1 = b + 1) : a = b := by
  rw [← Int32.add_sub_cancel a 1, h, Int32.add_sub_cancel]
theorem lv_7 {f h : Nat → Int32} (h0 : f 0 = h 0) (h1 : f 1 = h 1) (h2 : f 2 = h 2) (h3 : f 3 = h 3) (h4 : f 4 = h 4) (h5 : f 5 = h 5) (h6 : f 6 = h 6) : ∀ s, s < 7 → f s = h s := by
  intro s hs
  rcases (show s = 0 ∨ s = 1 ∨ s = 2 ∨ s = 3 ∨ s = 4 ∨ s = 5 ∨ s = 6 by omega) with rfl | rfl | rfl | rfl | rfl | rfl | rfl <;> assumption
def SP (u : XC) (z : ZW) (o : Nat) : Prop := u.1 4 o 0 = Int32.ofNat o ∧ u.1 11 o 0 = z.1 11 o ∧ u.1 11 o 2 = z.1 14 o ∧ u.1 11 o 1 = z.1 13 o ∧ (∃ n, n < 6 ∧ z.1 13 o = Int32.ofNat n) ∧ (z.1 11 o ≠ 1 → u.1 11 o 7 = z.1 18 o ∧ dr (z.1 18 o))
theorem SP.mv {u u' : XC} {z z' : ZW} {o : Nat} (h : SP u z o) (hU : FU u u') (hZ : FZ z z') : SP u' z' o := by
  unfold SP
  rw [hU.2 4 (by decide) (by decide), hU.2 11 (by decide) (by decide), hZ.2.1 11 (by decide) (by decide), hZ.2.1 13 (by decide) (by decide), hZ.2.1 14 (by decide) (by decide), hZ.2.1 18 (by decide) (by decide)]
  exact h
theorem sp_1 {u : XC} {z : ZW} {w o t : Nat} (h : RelL u z w) (hs : SP u z o) (ho : o < 27) (ht : t < 27) (set : Int32) (K : XC → Nat → Int32 → Nat → Int32 → Option (Int32 × XC)) (K' : ZW → Int32 → Int32 → Int32 → Option ZW) :
    ∃ u1 z1, (if u.1 11 o 0 = 1 then Fj_H_sendPhase_37 K u o set o (Int32.ofNat t) 0 else Fj_H_sendPhase_37 K u o set o (Int32.ofNat t) 3) = K u1 o set o (Int32.ofNat t + 1) ∧ (if z.1 11 o = 1 then Fj_Z_sendAll_33 K' z (Int32.ofNat o) set (Int32.ofNat t) 0 else Fj_Z_sendAll_33 K' z (Int32.ofNat o) set (Int32.ofNat t) 3) = K' z1 (Int32.ofNat o) set (Int32.ofNat t + 1) ∧ RelL u1 z1 (nx w) ∧ FU u u1 ∧ FZ z z1 ∧ z1.1 0 31 = z.1 0 31 + 1 := by
  obtain ⟨s1, s2, s3, s4, s5, s6⟩ := hs
  have ix := pa_ix (n := o) (N := 27) ho (by decide)
  have tn := i32_nat (a := o) (by omega)
  by_cases hp : z.1 11 o = 1
  · rw [if_pos hp, if_pos (s2.trans hp)]
    obtain ⟨l, u1, e, hLU, c0, c1, c2, c3, c4, c5, c6, c7⟩ := po_s h 0 (u.1 4 o 0) (Int32.ofNat t)
    have k11 : u1.1 11 = u.1 11 := hLU.1.2 11 (by decide) (by decide)
    obtain ⟨z1, f, hLZ, fs, g⟩ := se_s h.1 h.2.2.1 0 (Int32.ofNat o) (Int32.ofNat t) (z.1 14 o) (z.1 13 o) (-1)
    refine ⟨pu (pu (pu u1 7 l 3 (u.1 11 o 2)) 7 l 4 (u.1 11 o 1)) 7 l 5 (-1), z1, ?_, ?_, ?_, (lu_put (lu_put (lu_put hLU))).1, hLZ.1, fs⟩
    · unfold Fj_H_sendPhase_37
      rw [e, bd_s, if_pos hLU.2.1, nm_s, nm_s, pu_k (k := 7) (k' := 11) (by decide), pu_k (k := 7) (k' := 11) (by decide), k11, if_pos (s2.trans hp), nm_s]
    · unfold Fj_Z_sendAll_33
      rw [if_pos ix, if_pos ix, if_pos ix, tn, if_pos hp, f, bs_s]
    · refine rl_push h (lu_put (lu_put (lu_put hLU))) hLZ (fun hw => ?_)
      obtain ⟨g0, g1, g2, g3, g4, g5, g6, g7⟩ := g hw
      refine ⟨lv_7 ?_ ?_ ?_ ?_ ?_ ?_ ?_, fun h0 => ?_, ⟨o, ho, g1⟩, ⟨t, ht, g2⟩, Or.inr (by rw [g4]; exact s5), Or.inl g0⟩
      · simp [pu_s, upd, c0, g0]
      · simp [pu_s, upd, c1, g1, s1]
      · simp [pu_s, upd, c2, g2]
      · simp [pu_s, upd, g3, s3]
      · simp [pu_s, upd, g4, s4]
      · simp [pu_s, upd, g5]
      · simp [pu_s, upd, c6, g6]
      · rw [g6] at h0
        exact absurd h0 (by decide)
  · have hp' : ¬ u.1 11 o 0 = 1 := fun e => hp (s2.symm.trans e)
    rw [if_neg hp, if_neg hp']
    obtain ⟨l, u1, e, hLU, c0, c1, c2, c3, c4, c5, c6, c7⟩ := po_s h 3 (u.1 4 o 0) (Int32.ofNat t)
    have k11 : u1.1 11 = u.1 11 := hLU.1.2 11 (by decide) (by decide)
    obtain ⟨z1, f, hLZ, fs, g⟩ := se_s h.1 h.2.2.1 3 (Int32.ofNat o) (Int32.ofNat t) (z.1 14 o) (z.1 13 o) (z.1 18 o)
    refine ⟨pu (pu (pu u1 7 l 3 (u.1 11 o 2)) 7 l 4 (u.1 11 o 1)) 7 l 5 (u.1 11 o 7), z1, ?_, ?_, ?_, (lu_put (lu_put (lu_put hLU))).1, hLZ.1, fs⟩
    · unfold Fj_H_sendPhase_37
      rw [e, bd_s, if_pos hLU.2.1, nm_s, nm_s, pu_k (k := 7) (k' := 11) (by decide), pu_k (k := 7) (k' := 11) (by decide), k11, if_neg hp', nm_s]
    · unfold Fj_Z_sendAll_33
      rw [if_pos ix, if_pos ix, if_pos ix, tn, if_neg hp, if_pos ⟨ix.1, ho⟩, f, bs_s]
    · refine rl_push h (lu_put (lu_put (lu_put hLU))) hLZ (fun hw => ?_)
      obtain ⟨g0, g1, g2, g3, g4, g5, g6, g7⟩ := g hw
      refine ⟨lv_7 ?_ ?_ ?_ ?_ ?_ ?_ ?_, fun h0 => ?_, ⟨o, ho, g1⟩, ⟨t, ht, g2⟩, Or.inr (by rw [g4]; exact s5), Or.inr (Or.inr (Or.inr (Or.inr (by rw [g5]; exact (s6 hp).2))))⟩
      · simp [pu_s, upd, c0, g0]
      · simp [pu_s, upd, c1, g1, s1]
      · simp [pu_s, upd, c2, g2]
      · simp [pu_s, upd, g3, s3]
      · simp [pu_s, upd, g4, s4]
      · simp [pu_s, upd, g5, (s6 hp).1]
      · simp [pu_s, upd, c6, g6]
      · rw [g6] at h0
        exact absurd h0 (by decide)
theorem bt_1 {set : Int32} {t : Nat} : (Tb set t = true → (set >>> (Int32.ofNat t &&& 31) &&& 1 = 1) ∧ F_S_has set (Int32.ofNat t) = some 1) ∧ (Tb set t = false → ¬ (set >>> (Int32.ofNat t &&& 31) &&& 1 = 1) ∧ F_S_has set (Int32.ofNat t) = some 0) := by
  unfold Tb F_S_has
  rcases an_1 (set >>> (Int32.ofNat t &&& 31)) with h | h <;> rw [h] <;> simp
theorem sp_l {o : Nat} (ho : o < 27) {set : Int32} (hset : sub27 set) : ∀ (n t : Nat) (u : XC) (z : ZW) (w : Nat), t ≤ 27 → 28 ≤ n + t → RelL u z w → SP u z o →
    ∃ u' z' w', Fl_H_sendPhase_8 n u o set o (Int32.ofNat t) = some (Int32.ofNat (tc set 27), u') ∧ Fl_Z_sendAll_2 n z (Int32.ofNat o) set (Int32.ofNat t) = some z' ∧ RelL u' z' w' ∧ FU u u' ∧ FZ z z' ∧ z'.1 0 31 + Int32.ofNat (tc set t) = z.1 0 31 + Int32.ofNat (tc set 27) := by
  intro n
  induction n with
  | zero => intro t u z w h1 h2; omega
  | succ n ih =>
    intro t u z w h1 h2 h hs
    rw [Fl_H_sendPhase_8, Fl_Z_sendAll_2]
    by_cases h27 : t = 27
    · subst h27
      rw [if_pos (by decide), if_pos (by decide), l_tc hset, bs_s]
      exact ⟨u, z, w, rfl, rfl, h, FU.rf, FZ.rf, rfl⟩
    · have hlt : t < 27 := by omega
      have n1 : ¬ (27 : Int32) ≤ Int32.ofNat t := fun e => absurd ((i32_le (a := 27) (by decide) (by omega)).mp e) (by omega)
      rw [if_neg n1, if_neg n1]
      have et : Int32.ofNat t + 1 = Int32.ofNat (t + 1) := by rw [Int32.ofNat_add]; rfl
      cases hb : Tb set t with
      | false =>
        obtain ⟨b1, b2⟩ := bt_1.2 hb
        rw [b2, bs_s, if_pos rfl, if_neg b1, et]
        obtain ⟨u', z', w', e1, e2, e3, e4, e5, e6⟩ := ih (t + 1) u z w (by omega) (by omega) h hs
        refine ⟨u', z', w', e1, e2, e3, e4, e5, ?_⟩
        have : tc set (t + 1) = tc set t := by show tc set t + (Tb set t).toNat = _; rw [hb]; rfl
        rw [this] at e6
        exact e6
      | true =>
        obtain ⟨b1, b2⟩ := bt_1.1 hb
        rw [b2, bs_s, if_neg (by decide), if_pos b1, if_pos (pa_ix (n := o) (N := 27) ho (by decide)), i32_nat (by omega)]
        obtain ⟨u1, z1, e1, e2, e3, e4, e5, e6⟩ := sp_1 h hs ho hlt set (Fl_H_sendPhase_8 n) (Fl_Z_sendAll_2 n)
        rw [e1, e2, et]
        obtain ⟨u', z', w', g1, g2, g3, g4, g5, g6⟩ := ih (t + 1) u1 z1 (nx w) (by omega) (by omega) e3 (hs.mv e4 e5)
        refine ⟨u', z', w', g1, g2, g3, e4.tr g4, e5.tr g5, ?_⟩
        have e9 : tc set (t + 1) = tc set t + 1 := by show tc set t + (Tb set t).toNat = _; rw [hb]; rfl
        rw [e9, e6, Int32.ofNat_add] at g6
        have e10 : Int32.ofNat 1 = 1 := rfl
        rw [e10] at g6
        have e11 : z'.1 0 31 + Int32.ofNat (tc set t) + 1 = z.1 0 31 + Int32.ofNat (tc set 27) + 1 := by
          rw [Int32.add_assoc, g6, Int32.add_assoc, Int32.add_assoc, Int32.add_comm 1]
        exact ac_1 e11
theorem sp_s {u : XC} {z : ZW} {w o : Nat} {set : Int32} (ho : o < 27) (hset : sub27 set) (h : RelL u z w) (hs : SP u z o) :
    ∃ u' z' w', F_H_sendPhase u o set = some (Int32.ofNat (tc set 27), u') ∧ F_Z_sendAll z (Int32.ofNat o) set = some z' ∧ RelL u' z' w' ∧ FU u u' ∧ FZ z z' ∧ z'.1 0 31 = z.1 0 31 + Int32.ofNat (tc set 27) := by
  obtain ⟨u', z', w', e1, e2, e3, e4, e5, e6⟩ := sp_l ho hset 200 0 u z w (by decide) (by decide) h hs
  refine ⟨u', z', w', e1, e2, e3, e4, e5, ?_⟩
  have e7 : Int32.ofNat (tc set 0) = 0 := rfl
  rw [e7, Int32.add_zero] at e6
  exact e6
