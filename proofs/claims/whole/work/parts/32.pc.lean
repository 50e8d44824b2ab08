def bt (x : Int32) (i : Nat) : Bool := x.toBitVec.getLsbD i
theorem b_ext {x y : Int32} (h : ∀ i, i < 32 → bt x i = bt y i) : x = y := Int32.toBitVec_inj.mp (BitVec.eq_of_getLsbD_eq (fun i hi => h i hi))
theorem b_or (x y : Int32) (i : Nat) : bt (x ||| y) i = (bt x i || bt y i) := by unfold bt; rw [Int32.toBitVec_or, BitVec.getLsbD_or]
theorem b_and (x y : Int32) (i : Nat) : bt (x &&& y) i = (bt x i && bt y i) := by unfold bt; rw [Int32.toBitVec_and, BitVec.getLsbD_and]
theorem b_xor (x y : Int32) (i : Nat) : bt (x ^^^ y) i = (bt x i ^^ bt y i) := by unfold bt; rw [Int32.toBitVec_xor, BitVec.getLsbD_xor]
theorem b_big {x : Int32} {i : Nat} (h : 32 ≤ i) : bt x i = false := BitVec.getLsbD_of_ge _ _ h
theorem b_255 (i : Nat) : bt 255 i = decide (i < 8) := by
  rcases Nat.lt_or_ge i 32 with h | h
  · exact (by decide +kernel : ∀ i, i < 32 → bt 255 i = decide (i < 8)) i h
  · rw [b_big h, decide_eq_false (by omega)]
theorem b_65535 (i : Nat) : bt 65535 i = decide (i < 16) := by
  rcases Nat.lt_or_ge i 32 with h | h
  · exact (by decide +kernel : ∀ i, i < 32 → bt 65535 i = decide (i < 16)) i h
  · rw [b_big h, decide_eq_false (by omega)]
theorem b_m1 : ∀ i, i < 32 → bt (-1) i = true := by decide +kernel
theorem b_0 (i : Nat) : bt 0 i = false := BitVec.getLsbD_zero
theorem s_l : ∀ n, n < 32 → ((nI n &&& 31).toBitVec.smod 32).toNat = n := by decide +kernel
theorem s_u : ∀ n, n < 32 → (((nI n).toUInt32 &&& Int32.toUInt32 31).toBitVec % 32).toNat = n := by decide +kernel
theorem b_shl (n : Nat) (hn : n < 32) (x : Int32) {i : Nat} (hi : i < 32) : bt (x <<< (nI n &&& 31)) i = (decide (n ≤ i) && bt x (i - n)) := by
  unfold bt
  rw [Int32.toBitVec_shiftLeft]
  show (x.toBitVec <<< ((nI n &&& 31).toBitVec.smod 32).toNat).getLsbD i = _
  rw [s_l n hn, BitVec.getLsbD_shiftLeft]
  rcases Nat.lt_or_ge i n with h | h
  · simp [h, Nat.not_le.mpr h]
  · simp [hi, h, Nat.not_lt.mpr h]
theorem b_ushr (n : Nat) (hn : n < 32) (x : Int32) (i : Nat) : bt ((x.toUInt32 >>> ((nI n).toUInt32 &&& Int32.toUInt32 31)).toInt32) i = bt x (n + i) := by
  show (x.toUInt32 >>> ((nI n).toUInt32 &&& Int32.toUInt32 31)).toBitVec.getLsbD i = x.toUInt32.toBitVec.getLsbD (n + i)
  rw [UInt32.toBitVec_shiftRight]
  show (x.toUInt32.toBitVec >>> (((nI n).toUInt32 &&& Int32.toUInt32 31).toBitVec % 32).toNat).getLsbD i = _
  rw [s_u n hn, BitVec.getLsbD_ushiftRight]
theorem b_sshr (n : Nat) (hn : n < 32) (x : Int32) {i : Nat} (hi : i < 32) : bt (x >>> (nI n &&& 31)) i = if n + i < 32 then bt x (n + i) else bt x 31 := by
  unfold bt
  rw [Int32.toBitVec_shiftRight]
  show (x.toBitVec.sshiftRight ((nI n &&& 31).toBitVec.smod 32).toNat).getLsbD i = _
  rw [s_l n hn, BitVec.getLsbD_sshiftRight, BitVec.msb_eq_getLsbD_last]
  simp [hi]
theorem b_shl8 (x : Int32) {i : Nat} (hi : i < 32) : bt (x <<< ((8 : Int32) &&& 31)) i = (decide (8 ≤ i) && bt x (i - 8)) := b_shl 8 (by omega) x hi
theorem b_shl16 (x : Int32) {i : Nat} (hi : i < 32) : bt (x <<< ((16 : Int32) &&& 31)) i = (decide (16 ≤ i) && bt x (i - 16)) := b_shl 16 (by omega) x hi
theorem b_shl24 (x : Int32) {i : Nat} (hi : i < 32) : bt (x <<< ((24 : Int32) &&& 31)) i = (decide (24 ≤ i) && bt x (i - 24)) := b_shl 24 (by omega) x hi
theorem b_sshr8 (x : Int32) {i : Nat} (hi : i < 32) : bt (x >>> ((8 : Int32) &&& 31)) i = if 8 + i < 32 then bt x (8 + i) else bt x 31 := b_sshr 8 (by omega) x hi
theorem tb_bt {s : Int32} {c : Nat} (hc : c < 32) : Tb s c = bt s c := by
  have h0 : bt (s >>> (nI c &&& 31)) 0 = bt s c := by rw [b_sshr c hc s (by decide), if_pos (by omega)]; rfl
  unfold Tb
  rcases an_1 (s >>> (Int32.ofNat c &&& 31)) with h | h
  · have h1 : bt (s >>> (nI c &&& 31) &&& 1) 0 = false := by show bt (s >>> (Int32.ofNat c &&& 31) &&& 1) 0 = false; rw [h]; decide
    rw [b_and, h0] at h1
    have h2 : bt 1 0 = true := by decide
    rw [h2, Bool.and_true] at h1
    rw [h1, h]
    decide
  · have h1 : bt (s >>> (nI c &&& 31) &&& 1) 0 = true := by show bt (s >>> (Int32.ofNat c &&& 31) &&& 1) 0 = true; rw [h]; decide
    rw [b_and, h0] at h1
    have h2 : bt 1 0 = true := by decide
    rw [h2, Bool.and_true] at h1
    rw [h1, h]
    decide
theorem bt_al : ∀ c < 32, bt 134217727 c = decide (c < 27) := by decide +kernel
theorem tb_mk {s : Int32} {c : Nat} (hc : c < 27) : Tb (s &&& 134217727) c = Tb s c := by
  rw [tb_bt (by omega), tb_bt (by omega), b_and, bt_al c (by omega), decide_eq_true hc, Bool.and_true]
theorem dq_mk {s : Int32} {d : Nat} (hd : d < 9) : DQ (s &&& 134217727) d = DQ s d := by
  unfold DQ
  rw [tb_mk (by omega), tb_mk (by omega), tb_mk (by omega)]
theorem d2_mk {s : Int32} {d p : Nat} (hd : d < 9) : D2 (s &&& 134217727) d p = D2 s d p := by
  unfold D2
  rw [tb_mk (by omega), tb_mk (by omega), tb_mk (by omega)]
theorem rq_mk {s : Int32} {r : Nat} (hr : r < 3) : RQ (s &&& 134217727) r = RQ s r := by
  unfold RQ
  rw [dq_mk (by omega), dq_mk (by omega), dq_mk (by omega)]
theorem r2_mk {s : Int32} {r y p : Nat} (hr : r < 3) : R2 (s &&& 134217727) r y p = R2 s r y p := by
  unfold R2
  rw [dq_mk (by omega), dq_mk (by omega), dq_mk (by omega), d2_mk (by omega), d2_mk (by omega), d2_mk (by omega)]
theorem e2_mk {s : Int32} {x y p : Nat} : E2 (s &&& 134217727) x y p = E2 s x y p := by
  unfold E2
  rw [rq_mk (by omega), rq_mk (by omega), rq_mk (by omega), r2_mk (by omega), r2_mk (by omega), r2_mk (by omega)]
theorem qq_mk {s : Int32} : QQ (s &&& 134217727) = QQ s := by
  unfold QQ
  rw [rq_mk (by decide), rq_mk (by decide), rq_mk (by decide)]
def sub27 (s : Int32) : Prop := s &&& 134217727 = s
theorem su_0 : sub27 0 := by unfold sub27; decide
theorem su_or {a b : Int32} (ha : sub27 a) (hb : sub27 b) : sub27 (a ||| b) := by
  unfold sub27 at *
  apply b_ext
  intro i hi
  have h1 : bt (a &&& 134217727) i = bt a i := by rw [ha]
  have h2 : bt (b &&& 134217727) i = bt b i := by rw [hb]
  rw [b_and] at h1 h2 ⊢
  rw [b_or]
  cases h3 : bt 134217727 i <;> rw [h3] at h1 h2 <;> simp_all
theorem su_an {a b : Int32} (ha : sub27 a) : sub27 (a &&& b) := by
  unfold sub27 at *
  apply b_ext
  intro i hi
  have h1 : bt (a &&& 134217727) i = bt a i := by rw [ha]
  rw [b_and] at h1
  rw [b_and, b_and]
  cases h3 : bt 134217727 i <;> rw [h3] at h1 <;> simp_all
theorem su_sv : ∀ c < 27, sub27 (sv c) := by unfold sub27; decide +kernel
theorem su_c3 {a b c : Bool} {u v w : Int32} (h1 : sub27 u) (h2 : sub27 v) (h3 : sub27 w) : sub27 (c3 a b c u v w) := by
  cases a <;> cases b <;> cases c <;> simp only [c3, Bool.false_eq_true, ↓reduceIte] <;> first | exact su_0 | exact su_or (su_or su_0 h1) h2 | exact su_or (su_or su_0 h1) h3 | exact su_or (su_or su_0 h2) h3
theorem su_d3 {a b c : Bool} {u v w : Int32} (h1 : sub27 u) (h2 : sub27 v) (h3 : sub27 w) : sub27 (d3 a b c u v w) := by
  cases a <;> cases b <;> cases c <;> simp only [d3, Bool.false_eq_true, ↓reduceIte] <;> first | exact su_0 | exact su_or (su_or su_0 h1) h2 | exact su_or (su_or su_0 h1) h3 | exact su_or (su_or su_0 h2) h3 | exact su_or su_0 h1 | exact su_or su_0 h2 | exact su_or su_0 h3
theorem su_D2 {s : Int32} {d p : Nat} (hd : d < 9) : sub27 (D2 s d p) := su_d3 (su_sv _ (by omega)) (su_sv _ (by omega)) (su_sv _ (by omega))
theorem su_R2 {s : Int32} {r y p : Nat} (hr : r < 3) : sub27 (R2 s r y p) := su_d3 (su_D2 (by omega)) (su_D2 (by omega)) (su_D2 (by omega))
theorem su_E2 {s : Int32} {x y p : Nat} : sub27 (E2 s x y p) := su_c3 (su_R2 (by omega)) (su_R2 (by omega)) (su_R2 (by omega))
theorem pc_and (a b : Nat) : Int32.ofNat a &&& Int32.ofNat b = Int32.ofNat (a &&& b) := by
  apply Int32.toBitVec_inj.1
  show BitVec.ofNat 32 a &&& BitVec.ofNat 32 b = BitVec.ofNat 32 (a &&& b)
  apply BitVec.eq_of_getLsbD_eq
  intro i hi
  simp [hi]
theorem pc_ush {k j : Nat} (hk : k < 4294967296) (hj : j < 32) : ((Int32.ofNat k).toUInt32 >>> (UInt32.ofNat j &&& Int32.toUInt32 31)).toInt32 = Int32.ofNat (k >>> j) := by
  have hs : k >>> j ≤ k := by
    rw [Nat.shiftRight_eq_div_pow]
    exact Nat.div_le_self _ _
  have hc : ∀ j : Fin 32, (UInt32.ofNat j.val &&& Int32.toUInt32 31).toNat % 32 = j.val := by decide +kernel
  have e2 : UInt32.ofNat k >>> (UInt32.ofNat j &&& Int32.toUInt32 31) = UInt32.ofNat (k >>> j) := by
    apply UInt32.toNat_inj.1
    have h1 : (UInt32.ofNat k).toNat = k := Nat.mod_eq_of_lt (by omega)
    have h2 : (UInt32.ofNat (k >>> j)).toNat = k >>> j := Nat.mod_eq_of_lt (by omega)
    rw [UInt32.toNat_shiftRight, hc ⟨j, hj⟩, h1, h2]
  show (UInt32.ofNat k >>> (UInt32.ofNat j &&& Int32.toUInt32 31)).toInt32 = _
  rw [e2]
  rfl
theorem pc_sub {a b : Nat} (h : b ≤ a) : Int32.ofNat a - Int32.ofNat b = Int32.ofNat (a - b) := by
  have e : Int32.ofNat (a - b) + Int32.ofNat b = Int32.ofNat a := by rw [← Int32.ofNat_add, Nat.sub_add_cancel h]
  rw [← e, Int32.add_sub_cancel]
theorem ab_s {n m R M : Nat} (hn : n < 256) (hm : m < 256) : (n + 256 * R) &&& (m + 256 * M) = (n &&& m) + 256 * (R &&& M) := by
  have hb : n &&& m < 2 ^ 8 := Nat.lt_of_le_of_lt Nat.and_le_left hn
  apply Nat.eq_of_testBit_eq
  intro i
  rw [Nat.testBit_and, Nat.add_comm n, Nat.add_comm m, Nat.add_comm (n &&& m)]
  rw [show (256 : Nat) = 2 ^ 8 from rfl, Nat.testBit_two_pow_mul_add R hn, Nat.testBit_two_pow_mul_add M hm, Nat.testBit_two_pow_mul_add (R &&& M) hb]
  by_cases h : i < 8
  · simp only [h, ↓reduceIte, Nat.testBit_and]
  · simp only [h, ↓reduceIte, Nat.testBit_and]
theorem st_1 {n R M : Nat} (hn : n < 256) : ((n + 256 * R) >>> 1) &&& (85 + 256 * M) = ((n / 2) &&& 85) + 256 * ((R >>> 1) &&& M) := by
  have e : (n + 256 * R) >>> 1 = (n / 2 + 128 * (R % 2)) + 256 * (R >>> 1) := by
    rw [Nat.shiftRight_eq_div_pow, Nat.shiftRight_eq_div_pow]
    omega
  have h : ∀ n < 256, ∀ t < 2, (n / 2 + 128 * t) &&& 85 = (n / 2) &&& 85 := by decide +kernel
  rw [e, ab_s (by omega) (by decide), h n hn _ (by omega)]
theorem st_2 {n R M : Nat} (hn : n < 256) : ((n + 256 * R) >>> 2) &&& (51 + 256 * M) = ((n / 4) &&& 51) + 256 * ((R >>> 2) &&& M) := by
  have e : (n + 256 * R) >>> 2 = (n / 4 + 64 * (R % 4)) + 256 * (R >>> 2) := by
    rw [Nat.shiftRight_eq_div_pow, Nat.shiftRight_eq_div_pow]
    omega
  have h : ∀ n < 256, ∀ t < 4, (n / 4 + 64 * t) &&& 51 = (n / 4) &&& 51 := by decide +kernel
  rw [e, ab_s (by omega) (by decide), h n hn _ (by omega)]
theorem st_3 {n R M : Nat} (hn : n + n / 16 + 16 * (R % 16) < 256) : ((n + 256 * R) + (n + 256 * R) >>> 4) &&& (15 + 256 * M) = ((n + n / 16) &&& 15) + 256 * ((R + R >>> 4) &&& M) := by
  have e : (n + 256 * R) + (n + 256 * R) >>> 4 = (n + n / 16 + 16 * (R % 16)) + 256 * (R + R >>> 4) := by
    rw [Nat.shiftRight_eq_div_pow, Nat.shiftRight_eq_div_pow]
    omega
  rw [e, ab_s hn (by decide)]
  congr 1
  have h1 := Nat.and_two_pow_sub_one_eq_mod (n + n / 16 + 16 * (R % 16)) 4
  have h2 := Nat.and_two_pow_sub_one_eq_mod (n + n / 16) 4
  show (_ &&& (2 ^ 4 - 1)) = (_ &&& (2 ^ 4 - 1))
  rw [h1, h2]
  omega
def pa1 (n : Nat) : Nat := n - ((n / 2) &&& 85)
def pb1 (n : Nat) : Nat := (pa1 n &&& 51) + ((pa1 n / 4) &&& 51)
def pcb (n : Nat) : Nat := (pb1 n + pb1 n / 16) &&& 15
theorem pf_1 : ∀ n < 256, (n / 2) &&& 85 ≤ n ∧ pa1 n < 256 ∧ pb1 n ≤ 68 ∧ pb1 n % 16 ≤ 4 ∧ pcb n ≤ 8 := by decide +kernel
def bsum (n : Nat) : Nat := (n.testBit 0).toNat + (n.testBit 1).toNat + (n.testBit 2).toNat + (n.testBit 3).toNat + (n.testBit 4).toNat + (n.testBit 5).toNat + (n.testBit 6).toNat + (n.testBit 7).toNat
theorem pf_2 : ∀ n < 256, pcb n = bsum n := by decide +kernel
theorem pc_end {a b c d C : Nat} (ha : a ≤ 8) (hb : b ≤ 8) (hc : c ≤ 8) (hd : d ≤ 8) (hC : a + 256 * (b + 256 * (c + 256 * d)) = C) : (C + C / 256 + (C + C / 256) / 65536) % 64 = a + b + c + d := by
  have h1 : C / 256 = b + 256 * (c + 256 * d) := by omega
  have h2 : (C + C / 256) / 65536 = (c + d) + 256 * d := by omega
  omega
theorem l_bc {n0 n1 n2 n3 : Nat} (h0 : n0 < 256) (h1 : n1 < 256) (h2 : n2 < 256) (h3 : n3 < 256) : F_JI_bitCount (Int32.ofNat (n0 + 256 * (n1 + 256 * (n2 + 256 * n3)))) = some (Int32.ofNat (pcb n0 + pcb n1 + pcb n2 + pcb n3)) := by
  obtain ⟨a0, b0, c0, d0, e0⟩ := pf_1 n0 h0
  obtain ⟨a1, b1, c1, d1, e1⟩ := pf_1 n1 h1
  obtain ⟨a2, b2, c2, d2, e2⟩ := pf_1 n2 h2
  obtain ⟨a3, b3, c3, d3, e3⟩ := pf_1 n3 h3
  have z1 : ∀ n < 256, (n >>> 1) &&& 85 = (n / 2) &&& 85 := by decide +kernel
  have z2 : ∀ n < 256, (n >>> 2) &&& 51 = (n / 4) &&& 51 := by decide +kernel
  have z3 : ∀ n < 256, (n + n >>> 4) &&& 15 = (n + n / 16) &&& 15 := by decide +kernel
  have k1 : ((n0 + 256 * (n1 + 256 * (n2 + 256 * n3))) >>> 1) &&& 1431655765 = ((n0 / 2) &&& 85) + 256 * (((n1 / 2) &&& 85) + 256 * (((n2 / 2) &&& 85) + 256 * ((n3 / 2) &&& 85))) := by
    rw [show (1431655765 : Nat) = 85 + 256 * (85 + 256 * (85 + 256 * 85)) from rfl, st_1 h0, st_1 h1, st_1 h2, z1 n3 h3]
  have k2 : (n0 + 256 * (n1 + 256 * (n2 + 256 * n3))) - (((n0 / 2) &&& 85) + 256 * (((n1 / 2) &&& 85) + 256 * (((n2 / 2) &&& 85) + 256 * ((n3 / 2) &&& 85)))) = pa1 n0 + 256 * (pa1 n1 + 256 * (pa1 n2 + 256 * pa1 n3)) := by
    unfold pa1
    omega
  have k3 : (pa1 n0 + 256 * (pa1 n1 + 256 * (pa1 n2 + 256 * pa1 n3))) &&& 858993459 = (pa1 n0 &&& 51) + 256 * ((pa1 n1 &&& 51) + 256 * ((pa1 n2 &&& 51) + 256 * (pa1 n3 &&& 51))) := by
    rw [show (858993459 : Nat) = 51 + 256 * (51 + 256 * (51 + 256 * 51)) from rfl, ab_s b0 (by decide), ab_s b1 (by decide), ab_s b2 (by decide)]
  have k4 : ((pa1 n0 + 256 * (pa1 n1 + 256 * (pa1 n2 + 256 * pa1 n3))) >>> 2) &&& 858993459 = ((pa1 n0 / 4) &&& 51) + 256 * (((pa1 n1 / 4) &&& 51) + 256 * (((pa1 n2 / 4) &&& 51) + 256 * ((pa1 n3 / 4) &&& 51))) := by
    rw [show (858993459 : Nat) = 51 + 256 * (51 + 256 * (51 + 256 * 51)) from rfl, st_2 b0, st_2 b1, st_2 b2, z2 _ b3]
  have k5 : (pa1 n0 &&& 51) + 256 * ((pa1 n1 &&& 51) + 256 * ((pa1 n2 &&& 51) + 256 * (pa1 n3 &&& 51))) + (((pa1 n0 / 4) &&& 51) + 256 * (((pa1 n1 / 4) &&& 51) + 256 * (((pa1 n2 / 4) &&& 51) + 256 * ((pa1 n3 / 4) &&& 51)))) = pb1 n0 + 256 * (pb1 n1 + 256 * (pb1 n2 + 256 * pb1 n3)) := by
    unfold pb1
    omega
  have k6 : ((pb1 n0 + 256 * (pb1 n1 + 256 * (pb1 n2 + 256 * pb1 n3))) + (pb1 n0 + 256 * (pb1 n1 + 256 * (pb1 n2 + 256 * pb1 n3))) >>> 4) &&& 252645135 = pcb n0 + 256 * (pcb n1 + 256 * (pcb n2 + 256 * pcb n3)) := by
    rw [show (252645135 : Nat) = 15 + 256 * (15 + 256 * (15 + 256 * 15)) from rfl, st_3 (by omega), st_3 (by omega), st_3 (by omega), z3 _ (by omega)]
    rfl
  have q1 : n0 + 256 * (n1 + 256 * (n2 + 256 * n3)) < 4294967296 := by omega
  have q2 : pa1 n0 + 256 * (pa1 n1 + 256 * (pa1 n2 + 256 * pa1 n3)) < 4294967296 := by omega
  have q3 : pb1 n0 + 256 * (pb1 n1 + 256 * (pb1 n2 + 256 * pb1 n3)) < 4294967296 := by omega
  have q4 : pcb n0 + 256 * (pcb n1 + 256 * (pcb n2 + 256 * pcb n3)) < 4294967296 := by omega
  generalize hN : n0 + 256 * (n1 + 256 * (n2 + 256 * n3)) = N at *
  generalize hA : pa1 n0 + 256 * (pa1 n1 + 256 * (pa1 n2 + 256 * pa1 n3)) = A at *
  generalize hB : pb1 n0 + 256 * (pb1 n1 + 256 * (pb1 n2 + 256 * pb1 n3)) = B at *
  generalize hC : pcb n0 + 256 * (pcb n1 + 256 * (pcb n2 + 256 * pcb n3)) = C at *
  have w1 : Int32.ofNat N - ((((Int32.ofNat N).toUInt32 >>> ((1).toUInt32 &&& Int32.toUInt32 31)).toInt32) &&& 1431655765) = Int32.ofNat A := by
    have e : ((Int32.ofNat N).toUInt32 >>> ((1).toUInt32 &&& Int32.toUInt32 31)).toInt32 = Int32.ofNat (N >>> 1) := pc_ush q1 (by decide)
    rw [e, show (1431655765 : Int32) = Int32.ofNat 1431655765 from rfl, pc_and, pc_sub (by rw [k1]; omega), k1, k2]
  have w2 : (Int32.ofNat A &&& 858993459) + ((((Int32.ofNat A).toUInt32 >>> ((2).toUInt32 &&& Int32.toUInt32 31)).toInt32) &&& 858993459) = Int32.ofNat B := by
    have e : ((Int32.ofNat A).toUInt32 >>> ((2).toUInt32 &&& Int32.toUInt32 31)).toInt32 = Int32.ofNat (A >>> 2) := pc_ush q2 (by decide)
    rw [e, show (858993459 : Int32) = Int32.ofNat 858993459 from rfl, pc_and, pc_and, ← Int32.ofNat_add, k3, k4, k5]
  have w3 : (Int32.ofNat B + (((Int32.ofNat B).toUInt32 >>> ((4).toUInt32 &&& Int32.toUInt32 31)).toInt32)) &&& 252645135 = Int32.ofNat C := by
    have e : ((Int32.ofNat B).toUInt32 >>> ((4).toUInt32 &&& Int32.toUInt32 31)).toInt32 = Int32.ofNat (B >>> 4) := pc_ush q3 (by decide)
    rw [e, show (252645135 : Int32) = Int32.ofNat 252645135 from rfl, ← Int32.ofNat_add, pc_and, k6]
  have w4 : Int32.ofNat C + (((Int32.ofNat C).toUInt32 >>> ((8).toUInt32 &&& Int32.toUInt32 31)).toInt32) = Int32.ofNat (C + C / 256) := by
    have e : ((Int32.ofNat C).toUInt32 >>> ((8).toUInt32 &&& Int32.toUInt32 31)).toInt32 = Int32.ofNat (C >>> 8) := pc_ush q4 (by decide)
    rw [e, ← Int32.ofNat_add, Nat.shiftRight_eq_div_pow]
  have w5 : Int32.ofNat (C + C / 256) + (((Int32.ofNat (C + C / 256)).toUInt32 >>> ((16).toUInt32 &&& Int32.toUInt32 31)).toInt32) = Int32.ofNat ((C + C / 256) + (C + C / 256) / 65536) := by
    have e : ((Int32.ofNat (C + C / 256)).toUInt32 >>> ((16).toUInt32 &&& Int32.toUInt32 31)).toInt32 = Int32.ofNat ((C + C / 256) >>> 16) := pc_ush (by omega) (by decide)
    rw [e, ← Int32.ofNat_add, Nat.shiftRight_eq_div_pow]
  unfold F_JI_bitCount
  rw [w1, nm_s, w2, nm_s, w3, nm_s, w4, nm_s, w5, nm_s]
  rw [show (63 : Int32) = Int32.ofNat 63 from rfl, pc_and]
  have h := Nat.and_two_pow_sub_one_eq_mod (C + C / 256 + (C + C / 256) / 65536) 6
  rw [show (63 : Nat) = 2 ^ 6 - 1 from rfl, h, show (2 ^ 6 : Nat) = 64 from rfl, pc_end e0 e1 e2 e3 hC]
