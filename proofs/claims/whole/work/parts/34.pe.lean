theorem pu_k {u : XC} {k i s k' : Nat} {v : Int32} (h : k' ≠ k) : (pu u k i s v).1 k' = u.1 k' := by
  funext i'
  exact up3_ne (fun e => h e.1)
theorem pu_i {u : XC} {k i s i' : Nat} {v : Int32} (h : i' ≠ i) : (pu u k i s v).1 k i' = u.1 k i' := up3_ne (fun e => h e.2)
theorem pu_s {u : XC} {k i s : Nat} {v : Int32} : (pu u k i s v).1 k i = upd (u.1 k i) s v := up3_eq
theorem pz_k {z : ZW} {k s k' : Nat} {v : Int32} (h : k' ≠ k) : (pz z k s v).1 k' = z.1 k' := up2_ne h
theorem pz_s {z : ZW} {k s : Nat} {v : Int32} : (pz z k s v).1 k = upd (z.1 k) s v := up2_eq
theorem pz_i {z : ZW} {k s k' i : Nat} {v : Int32} (h : i ≠ s) : (pz z k s v).1 k' i = z.1 k' i := by
  by_cases e : k' = k
  · subst e
    rw [pz_s]
    simp [upd, h]
  · rw [pz_k e]
theorem ud_s {f : Nat → Int32} {s : Nat} {v : Int32} : upd f s v s = v := by simp [upd]
theorem ud_n {f : Nat → Int32} {s s' : Nat} {v : Int32} (h : s' ≠ s) : upd f s v s' = f s' := by simp [upd, h]
def dr (v : Int32) : Prop := ∃ d, d < 40 ∧ v = Int32.ofNat d
def LV (f h : Nat → Int32) : Prop := (∀ s, s < 7 → f s = h s) ∧ (0 < h 6 → f 7 = h 7 ∧ dr (h 7)) ∧ (∃ n, n < 27 ∧ h 1 = Int32.ofNat n) ∧ (∃ n, n < 27 ∧ h 2 = Int32.ofNat n) ∧ (h 0 = 2 ∨ ∃ n, n < 6 ∧ h 4 = Int32.ofNat n) ∧ (h 0 = 0 ∨ h 0 = 1 ∨ h 0 = 2 ∨ h 0 = 4 ∨ dr (h 5))
def lz (z : ZW) (i : Nat) : Nat → Int32 := fun s => z.1 (21 + s) i
def PM (u : XC) : Prop := (∀ i, i < 150 → u.2.1 i < 152 ∧ u.2.1 i ≠ 150) ∧ (∀ i j, i < 150 → j < 150 → u.2.1 i = u.2.1 j → i = j) ∧ u.2.2 < 152 ∧ u.2.2 ≠ 150 ∧ ∀ i, i < 150 → u.2.1 i ≠ u.2.2
def RelL (u : XC) (z : ZW) (w : Nat) : Prop := w ≤ 150 ∧ u.1 3 0 3 = Int32.ofNat w ∧ z.1 0 22 = Int32.ofNat w ∧ PM u ∧ ∀ i, i < w → LV (u.1 7 (u.2.1 i)) (lz z i)
def nx (w : Nat) : Nat := if w < 150 then w + 1 else w
theorem nx_le {w : Nat} (h : w ≤ 150) : nx w ≤ 150 := by unfold nx; split <;> omega
def FU (u u' : XC) : Prop := u'.2 = u.2 ∧ ∀ k, k ≠ 7 → k ≠ 3 → u'.1 k = u.1 k
def FZ (z z' : ZW) : Prop := z'.2 = z.2 ∧ (∀ k, 1 ≤ k → k ≤ 20 → z'.1 k = z.1 k) ∧ z'.1 0 1 = z.1 0 1 ∧ z'.1 0 0 = z.1 0 0
theorem FU.rf {u : XC} : FU u u := ⟨rfl, fun _ _ _ => rfl⟩
theorem FU.tr {u u1 u2 : XC} (h : FU u u1) (g : FU u1 u2) : FU u u2 := ⟨g.1.trans h.1, fun k h1 h2 => (g.2 k h1 h2).trans (h.2 k h1 h2)⟩
theorem FZ.rf {z : ZW} : FZ z z := ⟨rfl, fun _ _ _ => rfl, rfl, rfl⟩
theorem FZ.tr {z z1 z2 : ZW} (h : FZ z z1) (g : FZ z1 z2) : FZ z z2 := ⟨g.1.trans h.1, fun k h1 h2 => (g.2.1 k h1 h2).trans (h.2.1 k h1 h2), g.2.2.1.trans h.2.2.1, g.2.2.2.trans h.2.2.2⟩
def LU (u u' : XC) (w l : Nat) : Prop := FU u u' ∧ l < 152 ∧ (w < 150 → l = u.2.1 w) ∧ (w = 150 → l = 150) ∧ u'.1 3 0 3 = Int32.ofNat (nx w) ∧ ∀ l', l' ≠ l → u'.1 7 l' = u.1 7 l'
theorem ad_s {u : XC} {i : Nat} {a b c : Int32} : ∃ u', F_L_address u i a b c = some u' ∧ u'.2 = u.2 ∧ (∀ k, k ≠ 7 → u'.1 k = u.1 k) ∧ (∀ l', l' ≠ i → u'.1 7 l' = u.1 7 l') ∧ u'.1 7 i 0 = a ∧ u'.1 7 i 1 = b ∧ u'.1 7 i 2 = c ∧ u'.1 7 i 3 = 0 ∧ u'.1 7 i 4 = -1 ∧ u'.1 7 i 5 = -1 ∧ u'.1 7 i 6 = 0 ∧ u'.1 7 i 7 = -1 := by
  refine ⟨_, rfl, rfl, fun k h => ?_, fun l' h => ?_, ?_, ?_, ?_, ?_, ?_, ?_, ?_, ?_⟩
  · rw [pu_k h, pu_k h, pu_k h, pu_k h, pu_k h, pu_k h, pu_k h, pu_k h]
  · rw [pu_i h, pu_i h, pu_i h, pu_i h, pu_i h, pu_i h, pu_i h, pu_i h]
  all_goals simp [pu_s, upd]
theorem po_s {u : XC} {z : ZW} {w : Nat} (h : RelL u z w) (a b c : Int32) : ∃ l u', F_M_post u a b c = some (l, u') ∧ LU u u' w l ∧ u'.1 7 l 0 = a ∧ u'.1 7 l 1 = b ∧ u'.1 7 l 2 = c ∧ u'.1 7 l 3 = 0 ∧ u'.1 7 l 4 = -1 ∧ u'.1 7 l 5 = -1 ∧ u'.1 7 l 6 = 0 ∧ u'.1 7 l 7 = -1 := by
  obtain ⟨hw, e1, e2, pm, hl⟩ := h
  unfold F_M_post
  rw [e1]
  by_cases h1 : w < 150
  · have n1 : ¬ (150 : Int32) ≤ Int32.ofNat w := fun h => absurd ((i32_le (a := 150) (by decide) (by omega)).mp h) (by omega)
    obtain ⟨u', f1, f2, f3, f4, f5⟩ := ad_s (u := pu u 3 0 3 (Int32.ofNat w + 1)) (i := u.2.1 w) (a := a) (b := b) (c := c)
    refine ⟨u.2.1 w, u', ?_, ⟨⟨f2, fun k g1 g2 => ?_⟩, (pm.1 w h1).1, fun _ => rfl, fun h => absurd h (by omega), ?_, fun l' g => ?_⟩, f5⟩
    · rw [if_neg n1, if_pos (pa_ix h1 (by decide)), i32_nat (by omega), if_pos (pm.1 w h1).1, nm_s, f1, bs_s]
    · rw [f3 k g1, pu_k g2]
    · rw [f3 3 (by decide), pu_s, ud_s]
      unfold nx
      rw [if_pos h1, Int32.ofNat_add]
      rfl
    · rw [f4 l' g, pu_k (by decide)]
  · obtain rfl : w = 150 := by omega
    obtain ⟨u', f1, f2, f3, f4, f5⟩ := ad_s (u := u) (i := 150) (a := a) (b := b) (c := c)
    refine ⟨150, u', ?_, ⟨⟨f2, fun k g1 _ => f3 k g1⟩, by decide, fun h => absurd h (by decide), fun _ => rfl, ?_, fun l' g => f4 l' g⟩, f5⟩
    · rw [if_pos (by decide), f1, bs_s]
    · rw [f3 3 (by decide), e1]
      rfl
def LZ (z z' : ZW) (w : Nat) : Prop := FZ z z' ∧ z'.1 0 22 = Int32.ofNat (nx w) ∧ ∀ i, (w < 150 → i ≠ w) → lz z' i = lz z i
theorem se_s {z : ZW} {w : Nat} (hw : w ≤ 150) (e : z.1 0 22 = Int32.ofNat w) (a b c d f g : Int32) : ∃ z', F_Z_send z a b c d f g = some z' ∧ LZ z z' w ∧ z'.1 0 31 = z.1 0 31 + 1 ∧ (w < 150 → lz z' w 0 = a ∧ lz z' w 1 = b ∧ lz z' w 2 = c ∧ lz z' w 3 = d ∧ lz z' w 4 = f ∧ lz z' w 5 = g ∧ lz z' w 6 = 0 ∧ lz z' w 7 = 0) := by
  unfold F_Z_send
  rw [nm_s]
  have e1 : (pz z 0 31 (z.1 0 31 + 1)).1 0 22 = Int32.ofNat w := by rw [pz_s, ud_n (by decide)]; exact e
  by_cases h1 : w < 150
  · have n1 : ¬ (150 : Int32) ≤ Int32.ofNat w := fun h => absurd ((i32_le (a := 150) (by decide) (by omega)).mp h) (by omega)
    have ix := pa_ix (n := w) (N := 151) (by omega) (by decide)
    have tn := i32_nat (a := w) (by omega)
    rw [e1, if_neg n1, if_pos ix, nm_s, tn]
    generalize y1 : pz (pz z 0 31 (z.1 0 31 + 1)) 21 w a = z1
    have e2 : z1.1 0 22 = Int32.ofNat w := by rw [← y1, pz_k (by decide)]; exact e1
    rw [e2, if_pos ix, nm_s, tn]
    generalize y2 : pz z1 22 w b = z2
    have e3 : z2.1 0 22 = Int32.ofNat w := by rw [← y2, pz_k (by decide)]; exact e2
    rw [e3, if_pos ix, nm_s, tn]
    generalize y3 : pz z2 23 w c = z3
    have e4 : z3.1 0 22 = Int32.ofNat w := by rw [← y3, pz_k (by decide)]; exact e3
    rw [e4, if_pos ix, nm_s, tn]
    generalize y4 : pz z3 24 w d = z4
    have e5 : z4.1 0 22 = Int32.ofNat w := by rw [← y4, pz_k (by decide)]; exact e4
    rw [e5, if_pos ix, nm_s, tn]
    generalize y5 : pz z4 25 w f = z5
    have e6 : z5.1 0 22 = Int32.ofNat w := by rw [← y5, pz_k (by decide)]; exact e5
    rw [e6, if_pos ix, nm_s, tn]
    generalize y6 : pz z5 26 w g = z6
    have e7 : z6.1 0 22 = Int32.ofNat w := by rw [← y6, pz_k (by decide)]; exact e6
    rw [e7, if_pos ix, nm_s, tn]
    generalize y7 : pz z6 27 w 0 = z7
    have e8 : z7.1 0 22 = Int32.ofNat w := by rw [← y7, pz_k (by decide)]; exact e7
    rw [e8, if_pos ix, nm_s, tn]
    generalize y8 : pz z7 28 w 0 = z8
    have e9 : z8.1 0 22 = Int32.ofNat w := by rw [← y8, pz_k (by decide)]; exact e8
    rw [e9, nm_s]
    subst y8 y7 y6 y5 y4 y3 y2 y1
    refine ⟨_, rfl, ⟨⟨rfl, fun k h1 h2 => ?_, ?_, ?_⟩, ?_, fun i hi => ?_⟩, ?_, fun _ => ?_⟩
    · have g : ∀ j, 20 < j → k ≠ j := fun j h => by omega
      rw [pz_k (by omega), pz_k (g _ (by decide)), pz_k (g _ (by decide)), pz_k (g _ (by decide)), pz_k (g _ (by decide)), pz_k (g _ (by decide)), pz_k (g _ (by decide)), pz_k (g _ (by decide)), pz_k (g _ (by decide)), pz_k (by omega)]
    · simp [pz, up2, upd]
    · simp [pz, up2, upd]
    · unfold nx
      rw [if_pos h1, pz_s, ud_s, Int32.ofNat_add]
      rfl
    · have hi := hi h1
      funext s
      unfold lz
      rw [pz_k (by omega), pz_i hi, pz_i hi, pz_i hi, pz_i hi, pz_i hi, pz_i hi, pz_i hi, pz_i hi, pz_k (by omega)]
    · simp [pz, up2, upd]
    · refine ⟨?_, ?_, ?_, ?_, ?_, ?_, ?_, ?_⟩ <;> simp [lz, pz, up2, upd]
  · obtain rfl : w = 150 := by omega
    rw [e1, if_pos (by decide)]
    refine ⟨_, rfl, ⟨⟨rfl, fun k h1 h2 => pz_k (by omega), ?_, ?_⟩, ?_, fun i _ => ?_⟩, ?_, fun h => absurd h (by decide)⟩
    · rw [pz_s, ud_n (by decide)]
    · rw [pz_s, ud_n (by decide)]
    · exact e1
    · funext s
      unfold lz
      rw [pz_k (by omega)]
    · rw [pz_s, ud_s]
theorem rl_push {u u' : XC} {z z' : ZW} {w l : Nat} (h : RelL u z w) (hU : LU u u' w l) (hZ : LZ z z' w) (hv : w < 150 → LV (u'.1 7 l) (lz z' w)) : RelL u' z' (nx w) := by
  obtain ⟨hw, e1, e2, pm, hl⟩ := h
  obtain ⟨⟨g1, g2⟩, g3, g4, g5, g6, g7⟩ := hU
  obtain ⟨f1, f2, f3⟩ := hZ
  refine ⟨nx_le hw, g6, f2, ?_, fun i hi => ?_⟩
  · unfold PM
    rw [g1]
    exact pm
  · rw [g1]
    by_cases h1 : w < 150
    · have hi2 : i < w + 1 := by unfold nx at hi; rw [if_pos h1] at hi; exact hi
      by_cases h2 : i = w
      · subst h2
        rw [← g4 h1]
        exact hv h1
      · have h3 : i < w := by omega
        rw [f3 i (fun _ => h2), g7 _ (by rw [g4 h1]; exact fun e => h2 (pm.2.1 i w (by omega) h1 e))]
        exact hl i h3
    · obtain rfl : w = 150 := by omega
      have hi2 : i < 150 := hi
      rw [f3 i (fun h => absurd h (by decide)), g7 _ (by rw [g5 rfl]; exact (pm.1 i hi2).2)]
      exact hl i hi2
theorem lu_put {u u' : XC} {w l s : Nat} {v : Int32} (h : LU u u' w l) : LU u (pu u' 7 l s v) w l := by
  obtain ⟨⟨g1, g2⟩, g3, g4, g5, g6, g7⟩ := h
  refine ⟨⟨g1, fun k h1 h2 => by rw [pu_k h1]; exact g2 k h1 h2⟩, g3, g4, g5, by rw [pu_k (by decide)]; exact g6, fun l' h => by rw [pu_i h]; exact g7 l' h⟩
