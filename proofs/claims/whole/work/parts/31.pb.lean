def Tb (s : Int32) (c : Nat) : Bool := decide ¬ (s >>> (Int32.ofNat c &&& 31) &&& 1 = 0)
def sv (c : Nat) : Int32 := (1 : Int32) <<< (Int32.ofNat c &&& 31)
def two (a b c : Bool) : Bool := (a && b) || (a && c) || (b && c)
def DQ (s : Int32) (d : Nat) : Bool := two (Tb s (3 * d)) (Tb s (3 * d + 1)) (Tb s (3 * d + 2))
def D2 (s : Int32) (d p : Nat) : Int32 := d3 (Tb s (3 * d + p % 3)) (Tb s (3 * d + (p + 1) % 3)) (Tb s (3 * d + (p + 2) % 3)) (sv (3 * d + p % 3)) (sv (3 * d + (p + 1) % 3)) (sv (3 * d + (p + 2) % 3))
def RQ (s : Int32) (r : Nat) : Bool := two (DQ s (3 * r)) (DQ s (3 * r + 1)) (DQ s (3 * r + 2))
def R2 (s : Int32) (r y p : Nat) : Int32 := d3 (DQ s (3 * r + y % 3)) (DQ s (3 * r + (y + 1) % 3)) (DQ s (3 * r + (y + 2) % 3)) (D2 s (3 * r + y % 3) p) (D2 s (3 * r + (y + 1) % 3) p) (D2 s (3 * r + (y + 2) % 3) p)
def QQ (s : Int32) : Bool := two (RQ s 0) (RQ s 1) (RQ s 2)
def E2 (s : Int32) (x y p : Nat) : Int32 := c3 (RQ s (x % 3)) (RQ s ((x + 1) % 3)) (RQ s ((x + 2) % 3)) (R2 s (x % 3) y p) (R2 s ((x + 1) % 3) y p) (R2 s ((x + 2) % 3) y p)
theorem m3 (p : Nat) : p % 3 = 0 ∨ p % 3 = 1 ∨ p % 3 = 2 := by omega
theorem two_p {f : Nat → Bool} (p : Nat) : two (f (p % 3)) (f ((p + 1) % 3)) (f ((p + 2) % 3)) = two (f 0) (f 1) (f 2) := by
  rcases m3 p with h | h | h
  · rw [show (p + 1) % 3 = 1 by omega, show (p + 2) % 3 = 2 by omega, h]
  · rw [show (p + 1) % 3 = 2 by omega, show (p + 2) % 3 = 0 by omega, h]
    cases f 0 <;> cases f 1 <;> cases f 2 <;> rfl
  · rw [show (p + 1) % 3 = 0 by omega, show (p + 2) % 3 = 1 by omega, h]
    cases f 0 <;> cases f 1 <;> cases f 2 <;> rfl
theorem c3_d3 {a b c : Bool} {u v w : Int32} : c3 a b c u v w = if two a b c then d3 a b c u v w else 0 := by cases a <;> cases b <;> cases c <;> rfl
theorem c3_v {a b c : Bool} {u v w u' v' w' : Int32} (h1 : a = true → u = u') (h2 : b = true → v = v') (h3 : c = true → w = w') : c3 a b c u v w = c3 a b c u' v' w' := by
  cases a <;> cases b <;> cases c <;> simp [c3] <;> simp_all
theorem or_nz {a b : Int32} (h : a ≠ 0) : a ||| b ≠ 0 := by
  intro e
  apply h
  apply Int32.toBitVec_inj.mp
  have e1 : a.toBitVec ||| b.toBitVec = 0#32 := by rw [← Int32.toBitVec_or, e]; rfl
  apply BitVec.eq_of_getLsbD_eq
  intro i hi
  have e2 : (a.toBitVec ||| b.toBitVec).getLsbD i = (0#32).getLsbD i := by rw [e1]
  rw [BitVec.getLsbD_or] at e2
  simp at e2
  show a.toBitVec.getLsbD i = (0#32).getLsbD i
  simp [e2.1]
theorem zo {a : Int32} : 0 ||| a = a := by
  apply Int32.toBitVec_inj.mp
  rw [Int32.toBitVec_or]
  exact BitVec.zero_or
theorem c3_n {a b c : Bool} {u v w : Int32} (h1 : a = true → u ≠ 0) (h2 : b = true → v ≠ 0) : (decide ¬ (c3 a b c u v w = 0)) = two a b c := by
  cases a <;> cases b <;> cases c <;> simp [c3, two, zo]
  · exact Or.inl (h2 rfl)
  · exact Or.inl (h1 rfl)
  · exact Or.inl (h1 rfl)
  · exact Or.inl (h1 rfl)
theorem d3_n {a b c : Bool} {u v w : Int32} (h1 : a = true → u ≠ 0) (h2 : b = true → v ≠ 0) (h : two a b c = true) : d3 a b c u v w ≠ 0 := by
  have h3 := c3_n (w := w) (c := c) h1 h2
  rw [h, c3_d3, if_pos h] at h3
  simpa using h3
theorem k3_n {a b c : Bool} : (decide ¬ (k3 a b c ≤ 1)) = two a b c := by cases a <;> cases b <;> cases c <;> decide
theorem sv_n : ∀ c < 27, sv c ≠ 0 := by decide +kernel
theorem tb_1 (s : Int32) (c : Nat) : decide (s >>> (Int32.ofNat c &&& 31) &&& 1 = 1) = Tb s c := by
  unfold Tb
  rcases an_1 (s >>> (Int32.ofNat c &&& 31)) with h | h <;> rw [h] <;> decide
theorem l_pd {s : Int32} {d o : Nat} (hd : d < 9) (ho : o < 27) : F_S_pickInDistrict s (Int32.ofNat d) (Int32.ofNat o) = some (if DQ s d then D2 s d o else 0) := by
  rw [un_pd hd ho]
  show some (c3 (Tb s (3 * d + o % 3)) (Tb s (3 * d + (o + 1) % 3)) (Tb s (3 * d + (o + 2) % 3)) _ _ _) = _
  rw [c3_d3, two_p (f := fun k => Tb s (3 * d + k))]
  rfl
theorem l_to {s : Int32} {d o : Nat} (hd : d < 9) (ho : o < 27) : F_Z_twoOffices s (Int32.ofNat d) (Int32.ofNat o) = some (D2 s d o) := by
  rw [un_to hd ho, tb_1, tb_1, tb_1]
  rfl
theorem sm_n {a b c : Int32} (ha : a = 0 ∨ a = 1) (hb : b = 0 ∨ b = 1) (hc : c = 0 ∨ c = 1) : (decide ¬ (a + b + c ≤ 1)) = two (decide ¬ (a = 0)) (decide ¬ (b = 0)) (decide ¬ (c = 0)) := by
  rcases ha with rfl | rfl <;> rcases hb with rfl | rfl <;> rcases hc with rfl | rfl <;> decide
theorem l_in (s : Int32) {d : Nat} (hd : d < 9) : ∃ v, F_Z_inDistrict s (Int32.ofNat d) = some v ∧ (decide ¬ (v ≤ 1)) = DQ s d := by
  obtain ⟨e0, e1, e2⟩ := sh_d d hd
  refine ⟨_, rfl, ?_⟩
  rw [e1, e2, e0]
  exact sm_n (an_1 _) (an_1 _) (an_1 _)
theorem gw_0 : ∀ r < 3, ∀ o < 27, (3 * Int32.ofNat r) + (((Int32.ofNat o / 3) + 0) - ((Int32.ofNat o / 3) + 0) / 3 * 3) = Int32.ofNat (3 * r + o / 3 % 3) := by decide +kernel
theorem gw_1 : ∀ r < 3, ∀ o < 27, (3 * Int32.ofNat r) + (((Int32.ofNat o / 3) + (0 + 1)) - ((Int32.ofNat o / 3) + (0 + 1)) / 3 * 3) = Int32.ofNat (3 * r + (o / 3 + 1) % 3) := by decide +kernel
theorem gw_2 : ∀ r < 3, ∀ o < 27, (3 * Int32.ofNat r) + (((Int32.ofNat o / 3) + (0 + 1 + 1)) - ((Int32.ofNat o / 3) + (0 + 1 + 1)) / 3 * 3) = Int32.ofNat (3 * r + (o / 3 + 2) % 3) := by decide +kernel
theorem gq_0 : ∀ o < 27, ((Int32.ofNat o / 9) + 0) - ((Int32.ofNat o / 9) + 0) / 3 * 3 = Int32.ofNat (o / 9 % 3) := by decide +kernel
theorem gq_1 : ∀ o < 27, ((Int32.ofNat o / 9) + (0 + 1)) - ((Int32.ofNat o / 9) + (0 + 1)) / 3 * 3 = Int32.ofNat ((o / 9 + 1) % 3) := by decide +kernel
theorem gq_2 : ∀ o < 27, ((Int32.ofNat o / 9) + (0 + 1 + 1)) - ((Int32.ofNat o / 9) + (0 + 1 + 1)) / 3 * 3 = Int32.ofNat ((o / 9 + 2) % 3) := by decide +kernel
theorem gz_0 : ∀ x < 3, (Int32.ofNat x + 0) - (Int32.ofNat x + 0) / 3 * 3 = Int32.ofNat (x % 3) := by decide +kernel
theorem gz_1 : ∀ x < 3, (Int32.ofNat x + (0 + 1)) - (Int32.ofNat x + (0 + 1)) / 3 * 3 = Int32.ofNat ((x + 1) % 3) := by decide +kernel
theorem gz_2 : ∀ x < 3, (Int32.ofNat x + (0 + 1 + 1)) - (Int32.ofNat x + (0 + 1 + 1)) / 3 * 3 = Int32.ofNat ((x + 2) % 3) := by decide +kernel
theorem gs_0 : ∀ r < 3, 3 * Int32.ofNat r = Int32.ofNat (3 * r) := by decide +kernel
theorem gs_1 : ∀ r < 3, 3 * Int32.ofNat r + 1 = Int32.ofNat (3 * r + 1) := by decide +kernel
theorem gs_2 : ∀ r < 3, 3 * Int32.ofNat r + 1 + 1 = Int32.ofNat (3 * r + 2) := by decide +kernel
theorem d2_n {s : Int32} {d o : Nat} (hd : d < 9) (h : DQ s d = true) : D2 s d o ≠ 0 := by
  have e := two_p (f := fun k => Tb s (3 * d + k)) o
  exact d3_n (fun _ => sv_n _ (by omega)) (fun _ => sv_n _ (by omega)) (e.trans h)
theorem if_n {b : Bool} {v : Int32} (h : b = true → v ≠ 0) : (decide ¬ ((if b then v else 0) = 0)) = b := by
  cases b
  · rfl
  · simpa using h rfl
theorem r2_n {s : Int32} {r y o : Nat} (hr : r < 3) (h : RQ s r = true) : R2 s r y o ≠ 0 := by
  have e := two_p (f := fun k => DQ s (3 * r + k)) y
  exact d3_n (fun h => d2_n (by omega) h) (fun h => d2_n (by omega) h) (e.trans h)
theorem l_pr {s : Int32} {r o : Nat} (hr : r < 3) (ho : o < 27) : F_S_pickInRegion s (Int32.ofNat r) (Int32.ofNat o) = some (if RQ s r then R2 s r (o / 3) o else 0) := by
  have k0 := l_pd (s := s) (d := 3 * r + o / 3 % 3) (o := o) (by omega) ho
  have k1 := l_pd (s := s) (d := 3 * r + (o / 3 + 1) % 3) (o := o) (by omega) ho
  have k2 := l_pd (s := s) (d := 3 * r + (o / 3 + 2) % 3) (o := o) (by omega) ho
  rw [← gw_0 r hr o ho] at k0
  rw [← gw_1 r hr o ho] at k1
  rw [← gw_2 r hr o ho] at k2
  rw [un_pr k0 k1 k2, if_n (fun h => d2_n (by omega) h), if_n (fun h => d2_n (by omega) h), if_n (fun h => d2_n (by omega) h)]
  rw [c3_v (u' := D2 s (3 * r + o / 3 % 3) o) (v' := D2 s (3 * r + (o / 3 + 1) % 3) o) (w' := D2 s (3 * r + (o / 3 + 2) % 3) o) (fun h => if_pos h) (fun h => if_pos h) (fun h => if_pos h)]
  rw [c3_d3, two_p (f := fun k => DQ s (3 * r + k))]
  rfl
theorem l_pk {s : Int32} {o : Nat} (ho : o < 27) : F_S_pick s (Int32.ofNat o) = some (E2 s (o / 9) (o / 3) o) := by
  have k0 := l_pr (s := s) (r := o / 9 % 3) (o := o) (by omega) ho
  have k1 := l_pr (s := s) (r := (o / 9 + 1) % 3) (o := o) (by omega) ho
  have k2 := l_pr (s := s) (r := (o / 9 + 2) % 3) (o := o) (by omega) ho
  rw [← gq_0 o ho] at k0
  rw [← gq_1 o ho] at k1
  rw [← gq_2 o ho] at k2
  rw [un_pk k0 k1 k2, if_n (fun h => r2_n (by omega) h), if_n (fun h => r2_n (by omega) h), if_n (fun h => r2_n (by omega) h)]
  rw [c3_v (u' := R2 s (o / 9 % 3) (o / 3) o) (v' := R2 s ((o / 9 + 1) % 3) (o / 3) o) (w' := R2 s ((o / 9 + 2) % 3) (o / 3) o) (fun h => if_pos h) (fun h => if_pos h) (fun h => if_pos h)]
  rfl
theorem l_td {s : Int32} {r y p : Nat} (hr : r < 3) (hy : y < 3) (hp : p < 3) : F_Z_twoDistricts s (Int32.ofNat r) (Int32.ofNat y) (Int32.ofNat p) = some (R2 s r y p) := by
  obtain ⟨v0, i0, t0⟩ := l_in s (d := 3 * r + y % 3) (by omega)
  obtain ⟨v1, i1, t1⟩ := l_in s (d := 3 * r + (y + 1) % 3) (by omega)
  obtain ⟨v2, i2, t2⟩ := l_in s (d := 3 * r + (y + 2) % 3) (by omega)
  have o0 := l_to (s := s) (d := 3 * r + y % 3) (o := p) (by omega) (by omega)
  have o1 := l_to (s := s) (d := 3 * r + (y + 1) % 3) (o := p) (by omega) (by omega)
  have o2 := l_to (s := s) (d := 3 * r + (y + 2) % 3) (o := p) (by omega) (by omega)
  have g0 : 3 * Int32.ofNat r + ((Int32.ofNat y + 0) - (Int32.ofNat y + 0) / 3 * 3) = Int32.ofNat (3 * r + y % 3) := sh_0 r (by omega) y (by omega)
  have g1 : 3 * Int32.ofNat r + ((Int32.ofNat y + (0 + 1)) - (Int32.ofNat y + (0 + 1)) / 3 * 3) = Int32.ofNat (3 * r + (y + 1) % 3) := sh_1 r (by omega) y (by omega)
  have g2 : 3 * Int32.ofNat r + ((Int32.ofNat y + (0 + 1 + 1)) - (Int32.ofNat y + (0 + 1 + 1)) / 3 * 3) = Int32.ofNat (3 * r + (y + 2) % 3) := sh_2 r (by omega) y (by omega)
  rw [← g0] at i0 o0
  rw [← g1] at i1 o1
  rw [← g2] at i2 o2
  rw [un_td i0 o0 i1 o1 i2 o2, t0, t1, t2]
  rfl
theorem l_ir (s : Int32) {r : Nat} (hr : r < 3) : ∃ v, F_Z_inRegion s (Int32.ofNat r) = some v ∧ (decide ¬ (v ≤ 1)) = RQ s r := by
  obtain ⟨v0, i0, t0⟩ := l_in s (d := 3 * r) (by omega)
  obtain ⟨v1, i1, t1⟩ := l_in s (d := 3 * r + 1) (by omega)
  obtain ⟨v2, i2, t2⟩ := l_in s (d := 3 * r + 2) (by omega)
  rw [← gs_0 r hr] at i0
  rw [← gs_1 r hr] at i1
  rw [← gs_2 r hr] at i2
  exact ⟨_, un_ir hr i0 i1 i2, by rw [k3_n, t0, t1, t2]; rfl⟩
theorem l_8 {s : Int32} {x y p : Nat} (hx : x < 3) (hy : y < 3) (hp : p < 3) : F_Z_eight s (Int32.ofNat x) (Int32.ofNat y) (Int32.ofNat p) = some (E2 s x y p) := by
  obtain ⟨v0, i0, t0⟩ := l_ir s (r := x % 3) (by omega)
  obtain ⟨v1, i1, t1⟩ := l_ir s (r := (x + 1) % 3) (by omega)
  obtain ⟨v2, i2, t2⟩ := l_ir s (r := (x + 2) % 3) (by omega)
  have o0 := l_td (s := s) (r := x % 3) (y := y) (p := p) (by omega) hy hp
  have o1 := l_td (s := s) (r := (x + 1) % 3) (y := y) (p := p) (by omega) hy hp
  have o2 := l_td (s := s) (r := (x + 2) % 3) (y := y) (p := p) (by omega) hy hp
  rw [← gz_0 x hx] at i0 o0
  rw [← gz_1 x hx] at i1 o1
  rw [← gz_2 x hx] at i2 o2
  rw [un_8 i0 o0 i1 o1 i2 o2, t0, t1, t2]
  rfl
theorem e2_m {s : Int32} {x y p : Nat} : E2 s x y p = E2 s x (y % 3) (p % 3) := by
  unfold E2 R2 D2
  simp only [Nat.mod_mod, Nat.mod_add_mod]
theorem l_ch {s : Int32} {o : Nat} (ho : o < 27) : F_Z_eight s (Int32.ofNat o / 9) ((Int32.ofNat o / 3) - (Int32.ofNat o / 3) / 3 * 3) (Int32.ofNat o - Int32.ofNat o / 3 * 3) = some (E2 s (o / 9) (o / 3) o) := by
  have e1 : ∀ o < 27, Int32.ofNat o / 9 = Int32.ofNat (o / 9) := by decide +kernel
  have e2 : ∀ o < 27, (Int32.ofNat o / 3) - (Int32.ofNat o / 3) / 3 * 3 = Int32.ofNat (o / 3 % 3) := by decide +kernel
  have e3 : ∀ o < 27, Int32.ofNat o - Int32.ofNat o / 3 * 3 = Int32.ofNat (o % 3) := by decide +kernel
  rw [e1 o ho, e2 o ho, e3 o ho, l_8 (by omega) (by omega) (by omega), e2_m (y := o / 3)]
theorem e2_q {s : Int32} : (decide ¬ (E2 s 0 0 0 = 0)) = QQ s := c3_n (fun h => r2_n (by decide) h) (fun h => r2_n (by decide) h)
theorem l_sq {s : Int32} : F_S_isQuorum s = some (if QQ s then 1 else 0) := by
  have e : F_S_pick s 0 = some (E2 s 0 0 0) := l_pk (o := 0) (by decide)
  unfold F_S_isQuorum
  rw [e, bs_s, ← e2_q]
  by_cases h : E2 s 0 0 0 = 0 <;> simp [h]
theorem l_zq {s : Int32} : F_Z_isQuorum s = some (if QQ s then 1 else 0) := by
  obtain ⟨v0, i0, t0⟩ := l_ir s (r := 0) (by decide)
  obtain ⟨v1, i1, t1⟩ := l_ir s (r := 1) (by decide)
  obtain ⟨v2, i2, t2⟩ := l_ir s (r := 2) (by decide)
  have h := un_iq (s := s) (v0 := v0) (v1 := v1) (v2 := v2) i0 i1 i2
  rw [h, t0, t1, t2]
  have h2 := k3_n (a := RQ s 0) (b := RQ s 1) (c := RQ s 2)
  show some (if _ then _ else _) = some (if two (RQ s 0) (RQ s 1) (RQ s 2) then _ else _)
  rw [← h2]
  by_cases h3 : k3 (RQ s 0) (RQ s 1) (RQ s 2) ≤ 1 <;> simp [h3]
