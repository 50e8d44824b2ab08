theorem rel_0 : Rel u0_ z0_ := by
  refine ⟨⟨0, by decide, rfl, rfl, fun i hi => ⟨⟨0, by decide, rfl, rfl, fun _ => rfl, fun k l _ h => absurd h (by omega)⟩, rfl, fun k hk => ⟨rfl, rfl⟩⟩⟩, fun o ho => ⟨?_, ?_, fun n hn => ?_, fun n hn => ⟨rfl, fun h => absurd h (by show ¬ (0 : Int32) < 0; decide)⟩⟩, ⟨0, by decide, rfl, rfl, ?_, fun i h => absurd h (by omega)⟩, fun o ho => ⟨0, 0, by decide, by decide, rfl, rfl⟩⟩
  · exact ⟨rfl, rfl, rfl, Or.inl rfl, 0, by decide, rfl, by show (-1 : Int32) = _; decide⟩
  · exact ⟨rfl, Or.inl rfl, rfl, rfl, by show sub27 (0 : Int32); unfold sub27; decide, rfl, rfl, fun h => absurd rfl h, fun h => absurd h (by show ¬ (0 : Int32) = 1; decide), fun h => absurd h (by show ¬ (0 : Int32) = 2; decide)⟩
  · refine ⟨0, by decide, rfl, ?_⟩
    show filled 6 (-1) (fun _ => 0) n = _
    rcases (show n = 0 ∨ n = 1 ∨ n = 2 ∨ n = 3 ∨ n = 4 ∨ n = 5 by omega) with rfl | rfl | rfl | rfl | rfl | rfl <;> decide
  · refine ⟨fun i hi => ⟨by show i < 152; omega, by show i ≠ 150; omega⟩, fun i j _ _ h => h, by show 151 < 152; decide, by show 151 ≠ 150; decide, fun i hi => by show i ≠ 151; omega⟩
theorem bt_s {α β γ δ : Type} {a : α} {b : β} {c : γ} {f : α → β → γ → Option δ} : bt_ (some (a, b, c)) f = f a b c := rfl
theorem lg_0 (v : Int64) : lg_cmp v v = 0 := by
  unfold lg_cmp
  rw [if_neg (by simp), if_pos rfl]
theorem st_w {r : Option (Int32 × XC)} {q : Option (Int32 × ZW)} {K : XC → ZW → Option Int32} (h : Wr r q) (hK : ∀ u z, Rel u z → K u z = some 1) : (bd_ r fun r6 u8 => (bd_ q fun r11 z13 => (if r6 = r11 then K u8 z13 else some 0))) = some 1 := by
  obtain ⟨v, u', z', e1, e2, e3⟩ := h
  rw [e1, e2, bd_s, bd_s, if_pos rfl]
  exact hK _ _ e3
theorem st_r {u : XC} {r : Option Int32} {q : Option (Int32 × ZW)} {K : ZW → Option Int32} (h : Rd r q u) (hK : ∀ z, Rel u z → K z = some 1) : (bs_ r fun r6 => (bd_ q fun r11 z13 => (if r6 = r11 then K z13 else some 0))) = some 1 := by
  obtain ⟨v, z', e1, e2, e3⟩ := h
  rw [e1, e2, bs_s, bd_s, if_pos rfl]
  exact hK _ e3
theorem rel_po {u : XC} {z : ZW} {v : Int64} (h : Rel u z) : Rel u (po z v) := h
theorem st_t {u : XC} {z : ZW} {H : Option (Nat × Int32 × XC)} {G : ZW → Option (Int32 × ZW)} {K : XC → ZW → Option Int32} (hop : ∀ z, Rel u z → Th H (G z) u z) (h : Rel u z) (hK : ∀ u z, Rel u z → K u z = some 1) :
    (bt_ (bt_ H fun k r u1 => (if k = 0 then some ((0 : Int32), u1, po z r.toInt64) else (if k = 1 then some (1, u, z) else (if k = 2 then some (2, u, z) else none)))) fun r u' z' => (bd_ (G z') fun r2 z2 => (bs_ (F_Z_thrown z2) fun r3 => (if r3 = r then (if r = 0 then (if (lg_cmp (z2.2 0) (r2.toInt64)) = 0 then K u' z2 else some 0) else K u' z2) else some 0)))) = some 1 := by
  obtain ⟨k, v, v', u', z', e1, e2, e3, e4⟩ := hop z h
  rw [e1, bt_s]
  rcases e4 with ⟨rfl, c1, c2, c3⟩ | ⟨c1, c2, c3⟩
  · obtain ⟨k2, v2, v2', u2, z2, d1, d2, d3, d4⟩ := hop (po z v.toInt64) (rel_po h)
    rw [e1] at d1
    obtain ⟨rfl, d1'⟩ := Prod.mk.inj (Option.some.inj d1)
    obtain ⟨rfl, rfl⟩ := Prod.mk.inj d1'
    rcases d4 with ⟨_, c1, c2, c3⟩ | ⟨c1, _⟩
    · rw [if_pos rfl, bt_s, d2, bd_s]
      unfold F_Z_thrown
      rw [bs_s, c1, if_pos rfl, if_pos rfl, d3, ← c2]
      have : (po z v.toInt64).2 0 = v.toInt64 := by simp [po, vp_updL]
      rw [this, lg_0, if_pos rfl]
      exact hK _ _ c3
    · rcases c1 with c1 | c1 <;> exact absurd c1 (by decide)
  · rcases c1 with rfl | rfl
    · rw [if_neg (by decide), if_pos rfl, bt_s, e2, bd_s]
      unfold F_Z_thrown
      have c2' : z'.1 0 0 = 1 := c2
      rw [bs_s, c2', if_pos rfl, if_neg (by decide)]
      exact hK _ _ c3
    · rw [if_neg (by decide), if_neg (by decide), if_pos rfl, bt_s, e2, bd_s]
      unfold F_Z_thrown
      have c2' : z'.1 0 0 = 2 := c2
      rw [bs_s, c2', if_pos rfl, if_neg (by decide)]
      exact hK _ _ c3
theorem st_io {u : XC} {z : ZW} {H : Option (Nat × Int32 × XC)} {G : ZW → Option (Int32 × ZW)} {K : XC → ZW → Option Int32} (hop : ∀ z, Rel u z → Th3 H (G z) u z) (h : Rel u z) (hK : ∀ u z, Rel u z → K u z = some 1) :
    (bt_ (bt_ H fun k r u1 => (if k = 0 then some ((0 : Int32), u1, po z r.toInt64) else (if k = 3 then some (1, u, z) else none))) fun r u' z' => (bd_ (G z') fun r2 z2 => (bs_ (F_Z_thrown z2) fun r3 => (if r3 = r then (if r = 0 then (if (lg_cmp (z2.2 0) (r2.toInt64)) = 0 then K u' z2 else some 0) else K u' z2) else some 0)))) = some 1 := by
  obtain ⟨k, v, v', u', z', e1, e2, e3, e4⟩ := hop z h
  rw [e1, bt_s]
  rcases e4 with ⟨rfl, c1, c2, c3⟩ | ⟨rfl, c2, c3⟩
  · obtain ⟨k2, v2, v2', u2, z2, d1, d2, d3, d4⟩ := hop (po z v.toInt64) (rel_po h)
    rw [e1] at d1
    obtain ⟨rfl, d1'⟩ := Prod.mk.inj (Option.some.inj d1)
    obtain ⟨rfl, rfl⟩ := Prod.mk.inj d1'
    rcases d4 with ⟨_, c1, c2, c3⟩ | ⟨c1, _⟩
    · rw [if_pos rfl, bt_s, d2, bd_s]
      unfold F_Z_thrown
      rw [bs_s, c1, if_pos rfl, if_pos rfl, d3, ← c2]
      have : (po z v.toInt64).2 0 = v.toInt64 := by simp [po, vp_updL]
      rw [this, lg_0, if_pos rfl]
      exact hK _ _ c3
    · exact absurd c1 (by decide)
  · rw [if_neg (by decide), if_pos rfl, bt_s, e2, bd_s]
    unfold F_Z_thrown
    have c2' : z'.1 0 0 = 1 := c2
    rw [bs_s, c2', if_pos rfl, if_neg (by decide)]
    exact hK _ _ c3
theorem st_a {L : Nat} {xs : Nat → Int32} {K : XC → ZW → Int32 → Option Int32} {u : XC} {z : ZW} {t : Nat} (ht : t + 5 ≤ L) (hL : L ≤ 2560) (h : Rel u z) (hK : ∀ u z, Rel u z → K u z (Int32.ofNat t + 5) = some 1) : (if (xs (t + 2)) = 0 then Fj_Y_law_770 L xs K u z (Int32.ofNat t) 0 (xs (t + 1)) else Fj_Y_law_770 L xs K u z (Int32.ofNat t) 1 (xs (t + 1))) = some 1 := by
  unfold Fj_Y_law_770
  have e1 : Int32.ofNat t + 1 = Int32.ofNat (t + 1) := by rw [Int32.ofNat_add]; rfl
  have e2 : Int32.ofNat t + 2 = Int32.ofNat (t + 2) := by rw [Int32.ofNat_add]; rfl
  have i1 : (0 : Int32) ≤ Int32.ofNat (t + 1) ∧ t + 1 < L := ⟨pa_nn (by omega), by omega⟩
  have i2 : (0 : Int32) ≤ Int32.ofNat (t + 2) ∧ t + 2 < L := ⟨pa_nn (by omega), by omega⟩
  simp only [e1, e2, i32_nat (a := t + 1) (by omega), i32_nat (a := t + 2) (by omega), if_pos i1, if_pos i2]
  by_cases hx : xs (t + 2) = 0
  · simp only [if_pos hx]
    exact st_r (op_asked h _ _) (fun z h => hK u z h)
  · simp only [if_neg hx]
    exact st_r (op_asked h _ _) (fun z h => hK u z h)
theorem law_l {L : Nat} {xs : Nat → Int32} (hL : L ≤ 2560) : ∀ (f t : Nat) (u : XC) (z : ZW), t ≤ L → L + 5 ≤ 5 * f + t → Rel u z → Fl_Y_law_23 L xs f u z (Int32.ofNat t) = some 1 := by
  intro f
  induction f with
  | zero => intro t u z h1 h2; omega
  | succ f ih =>
    intro t u z h1 h2 h
    rw [Fl_Y_law_23]
    by_cases hx : (Int32.ofNat L) - 5 < Int32.ofNat t
    · rw [if_pos hx]
    · rw [if_neg hx]
      have ht : t + 5 ≤ L := by
        by_cases h5 : 5 ≤ L
        · rw [show Int32.ofNat L - 5 = Int32.ofNat (L - 5) from pc_sub (a := L) (b := 5) h5] at hx
          have := (i32_le (a := t) (b := L - 5) (by omega) (by omega)).mp (Int32.not_lt.mp hx)
          omega
        · exfalso
          apply hx
          rw [Int32.lt_iff_toInt_lt, Int32.toInt_ofNat_of_lt (by omega)]
          have : ∀ l, l < 5 → (Int32.ofNat l - 5).toInt < 0 := by decide
          have := this L (by omega)
          omega
      have ih2 : ∀ u z, Rel u z → Fl_Y_law_23 L xs f u z (Int32.ofNat t + 5) = some 1 := by
        intro u z h
        rw [show Int32.ofNat t + 5 = Int32.ofNat (t + 5) by rw [Int32.ofNat_add]; rfl]
        exact ih (t + 5) u z ht (by omega) h
      have sa := st_a (xs := xs) (K := Fl_Y_law_23 L xs f) ht hL h ih2
      generalize Fl_Y_law_23 L xs f = K at ih2 sa ⊢
      have e1 : Int32.ofNat t + 1 = Int32.ofNat (t + 1) := by rw [Int32.ofNat_add]; rfl
      have e2 : Int32.ofNat t + 2 = Int32.ofNat (t + 2) := by rw [Int32.ofNat_add]; rfl
      have e3 : Int32.ofNat t + 3 = Int32.ofNat (t + 3) := by rw [Int32.ofNat_add]; rfl
      have e4 : Int32.ofNat t + 4 = Int32.ofNat (t + 4) := by rw [Int32.ofNat_add]; rfl
      have i0 : (0 : Int32) ≤ Int32.ofNat t ∧ t < L := ⟨pa_nn (by omega), by omega⟩
      have i1 : (0 : Int32) ≤ Int32.ofNat (t + 1) ∧ t + 1 < L := ⟨pa_nn (by omega), by omega⟩
      have i2 : (0 : Int32) ≤ Int32.ofNat (t + 2) ∧ t + 2 < L := ⟨pa_nn (by omega), by omega⟩
      have i3 : (0 : Int32) ≤ Int32.ofNat (t + 3) ∧ t + 3 < L := ⟨pa_nn (by omega), by omega⟩
      have i4 : (0 : Int32) ≤ Int32.ofNat (t + 4) ∧ t + 4 < L := ⟨pa_nn (by omega), by omega⟩
      simp only [e1, e2, e3, e4, i32_nat (a := t) (by omega), i32_nat (a := t + 1) (by omega), i32_nat (a := t + 2) (by omega), i32_nat (a := t + 3) (by omega), i32_nat (a := t + 4) (by omega), if_pos i0, if_pos i1, if_pos i2, if_pos i3, if_pos i4]
      generalize xs t &&& 31 = c
      generalize xs (t + 1) = x1 at sa ⊢
      generalize xs (t + 2) = x2 at sa ⊢
      generalize xs (t + 3) = x3
      generalize xs (t + 4) = x4
      by_cases c0 : c = 0
      · rw [if_pos c0]; exact st_w (op_draft h _ _) ih2
      rw [if_neg c0]; clear c0
      by_cases c0 : c = 1
      · rw [if_pos c0]; exact st_w (op_line h _ _ _) ih2
      rw [if_neg c0]; clear c0
      by_cases c0 : c = 2
      · rw [if_pos c0]; exact st_t (G := fun z => F_Z_propose z x1) (fun z h => op_propose h x1) h ih2
      rw [if_neg c0]; clear c0
      by_cases c0 : c = 3
      · rw [if_pos c0]; exact st_t (G := fun z => F_Z_silent z x1 x2) (fun z h => op_silent h x1 x2) h ih2
      rw [if_neg c0]; clear c0
      by_cases c0 : c = 4
      · rw [if_pos c0]; exact st_t (G := fun z => F_Z_resend z x1) (fun z h => op_resend h x1) h ih2
      rw [if_neg c0]; clear c0
      by_cases c0 : c = 5
      · rw [if_pos c0]; exact st_t (G := fun z => F_Z_spread z x1) (fun z h => op_spread h x1) h ih2
      rw [if_neg c0]; clear c0
      by_cases c0 : c = 6
      · rw [if_pos c0]; exact st_r (op_letters h) (fun z h => ih2 u z h)
      rw [if_neg c0]; clear c0
      by_cases c0 : c = 7
      · rw [if_pos c0]; exact st_io (G := fun z => F_Z_letter z x1 x2) (fun z h => op_letter h x1 x2) h ih2
      rw [if_neg c0]; clear c0
      by_cases c0 : c = 8
      · rw [if_pos c0]; exact st_io (G := fun z => F_Z_deliver z x1) (fun z h => op_deliver h x1) h ih2
      rw [if_neg c0]; clear c0
      by_cases c0 : c = 9
      · rw [if_pos c0]; exact st_w (op_lose h _) ih2
      rw [if_neg c0]; clear c0
      by_cases c0 : c = 10
      · rw [if_pos c0]; exact st_w (op_twin h _) ih2
      rw [if_neg c0]; clear c0
      by_cases c0 : c = 11
      · rw [if_pos c0]; exact st_w (op_crash h _) ih2
      rw [if_neg c0]; clear c0
      by_cases c0 : c = 12
      · rw [if_pos c0]; exact st_w (op_restart h _) ih2
      rw [if_neg c0]; clear c0
      by_cases c0 : c = 13
      · rw [if_pos c0]; exact st_r (op_quorum h _) (fun z h => ih2 u z h)
      rw [if_neg c0]; clear c0
      by_cases c0 : c = 14
      · rw [if_pos c0]; exact st_r (op_least h _) (fun z h => ih2 u z h)
      rw [if_neg c0]; clear c0
      by_cases c0 : c = 15
      · rw [if_pos c0]; exact sa
      rw [if_neg c0]; clear c0
      by_cases c0 : c = 16
      · rw [if_pos c0]; exact st_r (op_run h _ _) (fun z h => ih2 u z h)
      rw [if_neg c0]; clear c0
      by_cases c0 : c = 17
      · rw [if_pos c0]; exact st_r (op_promised h _) (fun z h => ih2 u z h)
      rw [if_neg c0]; clear c0
      by_cases c0 : c = 18
      · rw [if_pos c0]; exact st_r (op_accepted h _ _) (fun z h => ih2 u z h)
      rw [if_neg c0]; clear c0
      by_cases c0 : c = 19
      · rw [if_pos c0]; exact st_r (op_decided h _ _) (fun z h => ih2 u z h)
      rw [if_neg c0]; clear c0
      by_cases c0 : c = 20
      · rw [if_pos c0]; exact st_r (op_complete h _) (fun z h => ih2 u z h)
      rw [if_neg c0]; clear c0
      by_cases c0 : c = 21
      · rw [if_pos c0]; exact st_r (op_rate h _ _ _ _) (fun z h => ih2 u z h)
      rw [if_neg c0]
      exact ih2 u z h
theorem pure_law {L : Nat} {xs : Nat → Int32} (hL : L ≤ 2560) : Fl_Y_law_23 L xs 600 u0_ z0_ 0 = some 1 := law_l hL 600 0 u0_ z0_ (Nat.zero_le _) (by omega) rel_0
