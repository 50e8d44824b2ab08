theorem is_l {u : XC} {z : ZW} {w : Nat} (h : RelL u z w) (a : Int32) : (∃ i, i < w ∧ a = Int32.ofNat i ∧ F_M_holds u a = some 1 ∧ F_Z_isLetter z a = some 1) ∨ (F_M_holds u a = some 0 ∧ F_Z_isLetter z a = some 0) := by
  unfold F_M_holds F_Z_isLetter
  rw [h.2.1, h.2.2.1]
  have hw := h.1
  by_cases h0 : a < 0
  · exact Or.inr ⟨if_pos h0, if_pos h0⟩
  · by_cases h1 : Int32.ofNat w ≤ a
    · exact Or.inr ⟨by rw [if_neg h0, if_pos h1], by rw [if_neg h0, if_pos h1]⟩
    · obtain ⟨n, hn, e⟩ := pa_lt (N := w) (by omega) h0 h1
      exact Or.inl ⟨n, hn, e, by rw [if_neg h0, if_neg h1], by rw [if_neg h0, if_neg h1]⟩
theorem cl_s (z : ZW) {i j : Nat} (hi : i < 151) (hj : j < 151) : ∃ z', F_Z_copyLetter z (Int32.ofNat i) (Int32.ofNat j) = some z' ∧ FZ z z' ∧ z'.1 0 = z.1 0 ∧ (∀ s, s < 8 → lz z' j s = lz z i s) ∧ (∀ k, k ≠ j → lz z' k = lz z k) := by
  have ii := pa_ix (n := i) (N := 151) hi (by decide)
  have ij := pa_ix (n := j) (N := 151) hj (by decide)
  have i2 : (0 : Int32) ≤ Int32.ofNat i ∧ i < 151 := ⟨ii.1, hi⟩
  have j2 : (0 : Int32) ≤ Int32.ofNat j ∧ j < 151 := ⟨ij.1, hj⟩
  have ti := i32_nat (a := i) (by omega)
  have tj := i32_nat (a := j) (by omega)
  unfold F_Z_copyLetter
  simp only [nm_s, ti, tj, if_pos i2, if_pos j2]
  refine ⟨_, rfl, ⟨rfl, fun k h1 h2 => ?_, ?_, ?_⟩, ?_, fun s hs => ?_, fun k hk => ?_⟩
  · rw [pz_k (by omega), pz_k (by omega), pz_k (by omega), pz_k (by omega), pz_k (by omega), pz_k (by omega), pz_k (by omega), pz_k (by omega)]
  · simp [pz_k]
  · simp [pz_k]
  · simp [pz_k]
  · rcases (show s = 0 ∨ s = 1 ∨ s = 2 ∨ s = 3 ∨ s = 4 ∨ s = 5 ∨ s = 6 ∨ s = 7 by omega) with rfl | rfl | rfl | rfl | rfl | rfl | rfl | rfl <;> simp [lz, pz_k, pz_s, upd]
  · funext s
    unfold lz
    rw [pz_i hk, pz_i hk, pz_i hk, pz_i hk, pz_i hk, pz_i hk, pz_i hk, pz_i hk]
theorem to_l {c : Nat} (hc : c < 150) : ∀ (f k : Nat) (z : ZW), k ≤ c → c + 1 ≤ f + k → z.1 0 22 = Int32.ofNat (c + 1) → ∃ z', Fl_Z_takeOut_2 f z (Int32.ofNat k) = some z' ∧ FZ z z' ∧ z'.1 0 22 = Int32.ofNat c ∧ z'.1 0 31 = z.1 0 31 ∧ (∀ j, k ≤ j → j < c → ∀ s, s < 8 → lz z' j s = lz z (j + 1) s) ∧ (∀ j, j < k ∨ c ≤ j → lz z' j = lz z j) := by
  intro f
  induction f with
  | zero => intro k z h1 h2; omega
  | succ f ih =>
    intro k z h1 h2 hz
    have ek : Int32.ofNat k + 1 = Int32.ofNat (k + 1) := by rw [Int32.ofNat_add]; rfl
    rw [Fl_Z_takeOut_2, hz, ek]
    by_cases e : k = c
    · subst e
      rw [if_pos (Int32.le_refl _)]
      unfold Fj_Z_takeOut_26
      rw [nm_s, hz]
      have es : Int32.ofNat (k + 1) - 1 = Int32.ofNat k := pc_sub (a := k + 1) (b := 1) (by omega)
      refine ⟨_, rfl, ⟨rfl, fun k' a b => pz_k (by omega), ?_, ?_⟩, ?_, ?_, fun j a b => absurd a (by omega), fun j _ => ?_⟩
      · rw [pz_s, ud_n (by decide)]
      · rw [pz_s, ud_n (by decide)]
      · rw [pz_s, ud_s, es]
      · rw [pz_s, ud_n (by decide)]
      · funext s
        unfold lz
        rw [pz_k (by omega)]
    · have n1 : ¬ Int32.ofNat (c + 1) ≤ Int32.ofNat (k + 1) := fun g => absurd ((i32_le (by omega) (by omega)).mp g) (by omega)
      rw [if_neg n1]
      obtain ⟨z1, e1, e2, e3, e4, e5⟩ := cl_s z (i := k + 1) (j := k) (by omega) (by omega)
      rw [e1, bs_s]
      obtain ⟨z', g1, g2, g3, g4, g5, g6⟩ := ih (k + 1) z1 (by omega) (by omega) (by rw [e3]; exact hz)
      refine ⟨z', g1, e2.tr g2, g3, by rw [g4, e3], fun j a b s hs => ?_, fun j hj => ?_⟩
      · by_cases ej : j = k
        · subst ej
          rw [g6 j (Or.inl (by omega)), e4 s hs]
        · rw [g5 j (by omega) b s hs, e5 (j + 1) (by omega)]
      · rw [g6 j (by omega), e5 j (by omega)]
theorem tk_l {c y : Nat} (hc : c < 150) : ∀ (f k : Nat) (u : XC), k ≤ c → c + 1 ≤ f + k → u.1 3 0 3 = Int32.ofNat c → (∀ j, j < 150 → u.2.1 j < 152) → u.2.2 < 152 → ∃ u', Fl_M_take_19 f u y (Int32.ofNat k) = some (y, u') ∧ u'.1 = u.1 ∧ u'.2.2 = y ∧ u'.2.1 c = u.2.2 ∧ (∀ j, k ≤ j → j < c → u'.2.1 j = u.2.1 (j + 1)) ∧ (∀ j, j < k ∨ c < j → u'.2.1 j = u.2.1 j) := by
  intro f
  induction f with
  | zero => intro k u h1 h2; omega
  | succ f ih =>
    intro k u h1 h2 hu hb ht
    have ek : Int32.ofNat k + 1 = Int32.ofNat (k + 1) := by rw [Int32.ofNat_add]; rfl
    rw [Fl_M_take_19, hu]
    by_cases e : k = c
    · subst e
      rw [if_pos (Int32.le_refl _)]
      unfold Fj_M_take_47
      rw [if_pos ht, hu, if_pos (pa_ix (n := k) (N := 150) hc (by decide)), i32_nat (by omega), nm_s, nm_s]
      refine ⟨_, rfl, rfl, rfl, ?_, fun j a b => absurd a (by omega), fun j hj => ?_⟩
      · simp [pt, pr, va_up]
      · have : j ≠ k := by omega
        simp [pt, pr, va_up, this]
    · have n1 : ¬ Int32.ofNat c ≤ Int32.ofNat k := fun g => absurd ((i32_le (by omega) (by omega)).mp g) (by omega)
      rw [if_neg n1, ek, if_pos (pa_ix (n := k + 1) (N := 150) (by omega) (by decide)), i32_nat (by omega), if_pos (hb (k + 1) (by omega)), if_pos (pa_ix (n := k) (N := 150) (by omega) (by decide)), i32_nat (by omega), nm_s]
      have hb2 : ∀ j, j < 150 → (pr u k (u.2.1 (k + 1))).2.1 j < 152 := by
        intro j hj
        by_cases ej : j = k
        · subst ej; simp [pr, va_up]; exact hb (j + 1) (by omega)
        · simp [pr, va_up, ej]; exact hb j hj
      obtain ⟨u', g1, g2, g3, g4, g5, g6⟩ := ih (k + 1) (pr u k (u.2.1 (k + 1))) (by omega) (by omega) hu hb2 ht
      refine ⟨u', g1, g2, g3, g4, fun j a b => ?_, fun j hj => ?_⟩
      · by_cases ej : j = k
        · subst ej
          rw [g6 j (Or.inl (by omega))]
          simp [pr, va_up]
        · rw [g5 j (by omega) b]
          have : j + 1 ≠ k := by omega
          simp [pr, va_up, this]
      · rw [g6 j (by omega)]
        have : j ≠ k := by omega
        simp [pr, va_up, this]
theorem tk_s {u : XC} {z : ZW} {w i : Nat} (h : RelL u z w) (hi : i < w) : ∃ l u', F_M_take u (Int32.ofNat i) = some (l, u') ∧ l < 152 ∧ l ≠ 150 ∧ u'.2.2 = l ∧ (∀ k, k ≠ 3 → u'.1 k = u.1 k) ∧ u'.1 3 0 3 = Int32.ofNat (w - 1) ∧ PM u' ∧ l = u.2.1 i ∧
    (∀ j, j < w - 1 → (j < i → u'.2.1 j = u.2.1 j) ∧ (i ≤ j → u'.2.1 j = u.2.1 (j + 1))) := by
  obtain ⟨hw, e1, e2, pm, hl⟩ := h
  obtain ⟨p1, p2, p3, p4, p5⟩ := pm
  unfold F_M_take
  have es : Int32.ofNat w - 1 = Int32.ofNat (w - 1) := pc_sub (a := w) (b := 1) (by omega)
  rw [if_pos (pa_ix (n := i) (N := 150) (by omega) (by decide)), i32_nat (by omega), if_pos (p1 i (by omega)).1, e1, es, nm_s]
  obtain ⟨u', g1, g2, g3, g4, g5, g6⟩ := tk_l (c := w - 1) (y := u.2.1 i) (by omega) 200 i (pu u 3 0 3 (Int32.ofNat (w - 1))) (by omega) (by omega) (by rw [pu_s, ud_s]) (fun j hj => (p1 j hj).1) p3
  refine ⟨u.2.1 i, u', g1, (p1 i (by omega)).1, (p1 i (by omega)).2, g3, fun k hk => by rw [g2, pu_k hk], by rw [g2, pu_s, ud_s], ?_, rfl, fun j hj => ⟨fun a => g6 j (Or.inl a), fun a => g5 j a hj⟩⟩
  have G4 : u'.2.1 (w - 1) = u.2.2 := g4
  have G5 : ∀ j, i ≤ j → j < w - 1 → u'.2.1 j = u.2.1 (j + 1) := g5
  have G6 : ∀ j, j < i ∨ w - 1 < j → u'.2.1 j = u.2.1 j := g6
  have key : ∀ j, j < 150 → (j = w - 1 ∧ u'.2.1 j = u.2.2) ∨ (j ≠ w - 1 ∧ ∃ m, m < 150 ∧ m ≠ i ∧ u'.2.1 j = u.2.1 m ∧ ((i ≤ j ∧ j < w - 1 ∧ m = j + 1) ∨ ((j < i ∨ w - 1 < j) ∧ m = j))) := by
    intro j hj
    by_cases a : j = w - 1
    · exact Or.inl ⟨a, by rw [a]; exact G4⟩
    · by_cases b : i ≤ j ∧ j < w - 1
      · exact Or.inr ⟨a, j + 1, by omega, by omega, G5 j b.1 b.2, Or.inl ⟨b.1, b.2, rfl⟩⟩
      · exact Or.inr ⟨a, j, hj, by omega, G6 j (by omega), Or.inr ⟨by omega, rfl⟩⟩
  refine ⟨fun j hj => ?_, fun j k hj hk e => ?_, by rw [g3]; exact (p1 i (by omega)).1, by rw [g3]; exact (p1 i (by omega)).2, fun j hj => ?_⟩
  · rcases key j hj with ⟨_, a⟩ | ⟨_, m, m1, m2, m3, _⟩
    · rw [a]; exact ⟨p3, p4⟩
    · rw [m3]; exact p1 m m1
  · rcases key j hj with ⟨a1, a2⟩ | ⟨a1, m, m1, m2, m3, m4⟩
    · rcases key k hk with ⟨b1, b2⟩ | ⟨b1, n, n1, n2, n3, n4⟩
      · omega
      · rw [a2, n3] at e
        exact absurd e.symm (p5 n n1)
    · rcases key k hk with ⟨b1, b2⟩ | ⟨b1, n, n1, n2, n3, n4⟩
      · rw [m3, b2] at e
        exact absurd e (p5 m m1)
      · rw [m3, n3] at e
        have := p2 m n m1 n1 e
        omega
  · rw [g3]
    rcases key j hj with ⟨a1, a2⟩ | ⟨a1, m, m1, m2, m3, m4⟩
    · rw [a2]
      exact fun e => p5 i (by omega) e.symm
    · rw [m3]
      exact fun e => m2 (p2 m i m1 (by omega) e)
theorem lv_c {f h h' : Nat → Int32} (e : ∀ s, s < 8 → h' s = h s) (g : LV f h) : LV f h' := by
  unfold LV
  rw [e 0 (by decide), e 1 (by decide), e 2 (by decide), e 4 (by decide), e 5 (by decide), e 6 (by decide), e 7 (by decide)]
  exact ⟨fun s hs => (g.1 s hs).trans (e s (by omega)).symm, g.2⟩
theorem tt_s {u : XC} {z : ZW} {w i : Nat} (h : RelL u z w) (hi : i < w) : ∃ l u' z', F_M_take u (Int32.ofNat i) = some (l, u') ∧ F_Z_takeOut z (Int32.ofNat i) = some z' ∧ l < 152 ∧ l ≠ 150 ∧ u'.2.2 = l ∧ l = u.2.1 i ∧ (∀ k, k ≠ 3 → u'.1 k = u.1 k) ∧ FZ z z' ∧ z'.1 0 31 = z.1 0 31 ∧ RelL u' z' (w - 1) ∧ lz z' 150 = lz z 150 := by
  obtain ⟨l, u', a1, a2, a3, a4, a5, a6, a7, a8, a9⟩ := tk_s h hi
  obtain ⟨hw, e1, e2, pm, hl⟩ := h
  obtain ⟨z', b1, b2, b3, b4, b5, b6⟩ := to_l (c := w - 1) (by omega) 200 i z (by omega) (by omega) (by rw [Nat.sub_add_cancel (by omega)]; exact e2)
  refine ⟨l, u', z', a1, b1, a2, a3, a4, a8, a5, b2, b4, ⟨by omega, a6, b3, a7, fun j hj => ?_⟩, b6 150 (Or.inr (by omega))⟩
  rw [a5 7 (by decide)]
  by_cases c : j < i
  · rw [(a9 j hj).1 c, b6 j (Or.inl c)]
    exact hl j (by omega)
  · rw [(a9 j hj).2 (by omega)]
    exact lv_c (b5 j (by omega) hj) (hl (j + 1) (by omega))
theorem op_lose {u : XC} {z : ZW} (h : Rel u z) (a : Int32) : Wr (F_H_lose u a) (F_Z_lose z a) := by
  have h1 := rl_c (s := 0) (v := 0) (by decide) (by decide) h
  unfold F_H_lose F_Z_lose
  rw [nm_s (a := pz z 0 0 0)]
  generalize pz z 0 0 0 = z1 at h1 ⊢
  obtain ⟨w, hL⟩ := h1.2.2.1
  rcases is_l hL a with ⟨i, hi, rfl, e1, e2⟩ | ⟨e1, e2⟩
  · rw [e1, e2, bs_s, bs_s, if_neg n10, if_neg n10]
    obtain ⟨l, u', z', a1, a2, a3, a4, a5, a6, a7, a8, a9, b1, b2⟩ := tt_s hL hi
    rw [a1, a2, bd_s, bs_s, if_pos a3]
    refine ⟨1, u', z', rfl, rfl, ?_, ?_, ⟨_, b1⟩, rb_f h1.2.2.2 (a8.2.1 6 (by decide) (by decide)) a8.2.2.1⟩
    · exact rd_d h1.1 ⟨a7 0 (by decide), a7 5 (by decide), a7 12 (by decide), a7 13 (by decide)⟩ a8.d
    · have hU : FU u (u'.1, u.2) := ⟨rfl, fun k _ h3 => a7 k h3⟩
      exact ro_f (u' := (u'.1, u.2)) h1.2.1 hU a8
  · rw [e1, e2, bs_s, bs_s, if_pos rfl, if_pos rfl]
    exact ⟨_, u, z1, rfl, rfl, h1⟩
