def ws_Z_twin : List Cond := Cond.code y_Z_twin b_Z_twin 2 (some .boolean) :: ALL
theorem w_Z_twin {R : Room} {s : State} {args : Array Value} {own : String} {index : Nat} (hts : ∀ w ∈ ALL, w.before args s = true) (hlk : Cond.methodLink own index y_Z_twin ∈ ALL) (hR : (({ frames := 1, cells := 0, slots := 0, locals := 22 } : Room)).frames + 1 ≤ R.frames ∧ 8 + (2 + 11) + (({ frames := 1, cells := 0, slots := 0, locals := 22 } : Room)).locals ≤ R.locals) : CallW R s args own R_Z index y_Z_twin b_Z_twin 2 (some .boolean) ws_Z_twin ({ frames := 1, cells := 0, slots := 0, locals := 22 } : Room) 0 0 1 := ⟨callB_of 1 hts (good_c a_725) rfl rfl rfl (hts _ a_8) (hts _ hlk) (by decide +kernel) hR, hts _ a_723, hts _ a_724⟩
theorem d_Z_twin_0 : decode b_Z_twin 0 = .ok (.aload_n 0, 1) := by decide +kernel
theorem d_Z_twin_1 : decode b_Z_twin 1 = .ok (.iconst 0, 1) := by decide +kernel
theorem d_Z_twin_2 : decode b_Z_twin 2 = .ok (.putfield 95, 3) := by decide +kernel
theorem d_Z_twin_5 : decode b_Z_twin 5 = .ok (.aload_n 0, 1) := by decide +kernel
theorem d_Z_twin_6 : decode b_Z_twin 6 = .ok (.iload_n 1, 1) := by decide +kernel
theorem d_Z_twin_7 : decode b_Z_twin 7 = .ok (.invokevirtual 142, 3) := by decide +kernel
theorem d_Z_twin_10 : decode b_Z_twin 10 = .ok (.ifCond .eq 13, 3) := by decide +kernel
theorem d_Z_twin_13 : decode b_Z_twin 13 = .ok (.aload_n 0, 1) := by decide +kernel
theorem d_Z_twin_14 : decode b_Z_twin 14 = .ok (.getfield 131, 3) := by decide +kernel
theorem d_Z_twin_17 : decode b_Z_twin 17 = .ok (.sipush 150, 3) := by decide +kernel
theorem d_Z_twin_20 : decode b_Z_twin 20 = .ok (.if_icmp .ne 5, 3) := by decide +kernel
theorem d_Z_twin_23 : decode b_Z_twin 23 = .ok (.iconst 0, 1) := by decide +kernel
theorem d_Z_twin_24 : decode b_Z_twin 24 = .ok (.ireturn, 1) := by decide +kernel
theorem d_Z_twin_25 : decode b_Z_twin 25 = .ok (.aload_n 0, 1) := by decide +kernel
theorem d_Z_twin_26 : decode b_Z_twin 26 = .ok (.iload_n 1, 1) := by decide +kernel
theorem d_Z_twin_27 : decode b_Z_twin 27 = .ok (.aload_n 0, 1) := by decide +kernel
theorem d_Z_twin_28 : decode b_Z_twin 28 = .ok (.getfield 131, 3) := by decide +kernel
theorem d_Z_twin_31 : decode b_Z_twin 31 = .ok (.invokevirtual 138, 3) := by decide +kernel
theorem d_Z_twin_34 : decode b_Z_twin 34 = .ok (.aload_n 0, 1) := by decide +kernel
theorem d_Z_twin_35 : decode b_Z_twin 35 = .ok (.aload_n 0, 1) := by decide +kernel
theorem d_Z_twin_36 : decode b_Z_twin 36 = .ok (.getfield 131, 3) := by decide +kernel
theorem d_Z_twin_39 : decode b_Z_twin 39 = .ok (.iconst 1, 1) := by decide +kernel
theorem d_Z_twin_40 : decode b_Z_twin 40 = .ok (.iadd, 1) := by decide +kernel
theorem d_Z_twin_41 : decode b_Z_twin 41 = .ok (.putfield 131, 3) := by decide +kernel
theorem d_Z_twin_44 : decode b_Z_twin 44 = .ok (.iconst 1, 1) := by decide +kernel
theorem d_Z_twin_45 : decode b_Z_twin 45 = .ok (.ireturn, 1) := by decide +kernel
def F_Z_twin (z : ZW) (a1 : Int32) : Option (Int32 × ZW) := (nm_ (pz z 0 0 0) fun z1 => (bs_ (F_Z_isLetter z1 a1) fun r3 => (if r3 = 0 then some (0, z1) else (if (z1.1 0 22) = 150 then some (0, z1) else (bs_ (F_Z_copyLetter z1 a1 (z1.1 0 22)) fun z9 => (nm_ (pz z9 0 22 ((z9.1 0 22) + 1)) fun z10 => some (1, z10)))))))
set_option maxHeartbeats 4000000 in
set_option maxRecDepth 100000 in
theorem c_Z_twin (l : Launch) (D : va_G) (ad : Nat → Nat → Nat) (ca : Nat → ClassId) (hD0 : ∀ z u, va_D (AH ad) (wh ad ca z u)) {z : ZW} {u : XC} {a1 : Int32} {r0 : Int32} {z0 : ZW}  (hF : F_Z_twin z a1 = some (r0, z0)) : Met l y_Z_twin ws_Z_twin ({ frames := 1, cells := 0, slots := 0, locals := 22 } : Room) (va_Pc [.ref (ad 14 0), .int a1] (fun U => va_P D CLS (wh ad ca z u) U.heap ∧ va_K D CLS (TYH ca) U)) (va_Qi (fun (r : Int32) (_ : Unit) => r = r0) (fun _ t => va_P D CLS (wh ad ca z0 u) t.heap) (AH ad)) 0 0 (AH ad) := by
  refine Met.ofW (cc := b_Z_twin) (maxL := 2) (ret := (some .boolean)) (by decide +kernel) rfl ?_
  intro p e s m args below meth c s₁ B hml hv
  obtain ⟨rfl, hP, hK⟩ := hv
  have hx := B.exec
  have hb := B.bytes
  have hr := B.returns
  have hts : ∀ w ∈ ALL, w.before _ s = true := fun w h => atoms_spec (ws := ws_Z_twin) B.pre w (List.mem_cons_of_mem _ h)
  have hown : s.vm.findClass R_Z = some m.cls := findClass_of_methodNamed B.named
  have hlocks := B.notSynchronized
  have hD := hD0
  have hS : va_S (AH ad) s.heap s.heap [] := va_S.rf
  have hP : va_P D CLS (wh ad ca z u) s.heap := hP
  have hl := lv_entry ([.ref (ad 14 0), .int a1]) (n := 2) (Nat.le_of_ble_eq_true rfl)
  rw [lg_entry_eq]
  generalize (lg_sl ([.ref (ad 14 0), .int a1]) ++ List.replicate (2 - (lg_sl ([.ref (ad 14 0), .int a1])).length) Slot.unset).toArray = ls at hl ⊢
  have hl : lv_has ls 2 [(0, .ref (ad 14 0)), (1, .int a1)] := hl
  unfold F_Z_twin at hF
  refine lv_aload_n hx hb d_Z_twin_0 rfl (lv_at hl 0 rfl) ?_
  refine lv_iconst (v := 0) hx hb d_Z_twin_1 (by decide) ?_
  obtain ⟨z1, h2, hF⟩ := nm_u hF
  refine pf_Z_0 hx hb hts hown hK hP hD hS (by decide) h2 a_558 d_Z_twin_2 (fun H locs hP hS => ?_)
  refine lv_aload_n hx hb d_Z_twin_5 rfl (lv_at hl 0 rfl) ?_
  refine lv_iload_n hx hb d_Z_twin_6 rfl (lv_at hl 1 rfl) ?_
  obtain ⟨r3, h4, hF⟩ := bs_u hF
  refine k_vp (ad 14 0) [.int a1] [] ⟨hx, hb, hml, hown, hts⟩ (c_Z_isLetter l D ad ca hD0 (z := z1) (u := u)  h4) (w_Z_isLetter hts a_706 ⟨Nat.le_of_ble_eq_true rfl, Nat.le_of_ble_eq_true rfl⟩) (rv_Z hK hP (by decide)) hP hK rfl rfl hl.1 (Nat.le_of_ble_eq_true rfl) ⟨Nat.zero_le _, Nat.zero_le _⟩ d_Z_twin_7 ?_
  refine lv_if_eq (tgt := 23) hx hb d_Z_twin_10 (by decide) (fun h5 => ?_) (fun h5 => ?_)
  · have hF := it_t hF h5
    refine lv_iconst (v := 0) hx hb d_Z_twin_23 (by decide) ?_
    obtain ⟨rfl, rfl⟩ := rt2 hF
    exact W.zret (v := 0) hx hb hr rfl (fun t ht hW => ⟨⟨_, (), rfl, rfl, vp_at ht hP⟩, hS.F ht⟩) hS.2.2 d_Z_twin_24
  · have hF := it_f hF h5
    refine lv_aload_n hx hb d_Z_twin_13 rfl (lv_at hl 0 rfl) ?_
    refine gf_Z_22 hx hb hts hown hK hP (by decide) a_580 d_Z_twin_14 ?_
    refine lv_sipush (v := 150) hx hb d_Z_twin_17 (by decide) ?_
    refine lv_icmp_ne (tgt := 25) hx hb d_Z_twin_20 (by decide) (fun h6 => ?_) (fun h6 => ?_)
    · have hF := it_f hF h6
      refine lv_aload_n hx hb d_Z_twin_25 rfl (lv_at hl 0 rfl) ?_
      refine lv_iload_n hx hb d_Z_twin_26 rfl (lv_at hl 1 rfl) ?_
      refine lv_aload_n hx hb d_Z_twin_27 rfl (lv_at hl 0 rfl) ?_
      refine gf_Z_22 hx hb hts hown hK hP (by decide) a_580 d_Z_twin_28 ?_
      obtain ⟨z9, h8, hF⟩ := bs_u hF
      refine k_vv (ad 14 0) [.int a1, .int (z1.1 0 22)] [] ⟨hx, hb, hml, hown, hts⟩ (c_Z_copyLetter l D ad ca hD0 (z := z1) (u := u)  h8) (w_Z_copyLetter hts a_718 ⟨Nat.le_of_ble_eq_true rfl, Nat.le_of_ble_eq_true rfl⟩) (rv_Z hK hP (by decide)) hP hK hS (fun _ h => h) rfl rfl hl.1 (Nat.le_of_ble_eq_true rfl) ⟨Nat.zero_le _, Nat.zero_le _⟩ d_Z_twin_31 (fun H locs hP hS => ?_)
      refine lv_aload_n hx hb d_Z_twin_34 rfl (lv_at hl 0 rfl) ?_
      refine lv_aload_n hx hb d_Z_twin_35 rfl (lv_at hl 0 rfl) ?_
      refine gf_Z_22 hx hb hts hown hK hP (by decide) a_580 d_Z_twin_36 ?_
      refine lv_iconst (v := 1) hx hb d_Z_twin_39 (by decide) ?_
      refine lv_iadd hx hb d_Z_twin_40 ?_
      obtain ⟨z10, h11, hF⟩ := nm_u hF
      refine pf_Z_22 hx hb hts hown hK hP hD hS (by decide) h11 a_580 d_Z_twin_41 (fun H locs hP hS => ?_)
      refine lv_iconst (v := 1) hx hb d_Z_twin_44 (by decide) ?_
      obtain ⟨rfl, rfl⟩ := rt2 hF
      exact W.zret (v := 1) hx hb hr rfl (fun t ht hW => ⟨⟨_, (), rfl, rfl, vp_at ht hP⟩, hS.F ht⟩) hS.2.2 d_Z_twin_45
    · have hF := it_t hF h6
      refine lv_iconst (v := 0) hx hb d_Z_twin_23 (by decide) ?_
      obtain ⟨rfl, rfl⟩ := rt2 hF
      exact W.zret (v := 0) hx hb hr rfl (fun t ht hW => ⟨⟨_, (), rfl, rfl, vp_at ht hP⟩, hS.F ht⟩) hS.2.2 d_Z_twin_24
def ws_Z_open : List Cond := Cond.code y_Z_open b_Z_open 3 (some .int) :: ALL
theorem w_Z_open {R : Room} {s : State} {args : Array Value} {own : String} {index : Nat} (hts : ∀ w ∈ ALL, w.before args s = true) (hlk : Cond.methodLink own index y_Z_open ∈ ALL) (hR : (({ frames := 0, cells := 0, slots := 0, locals := 0 } : Room)).frames + 1 ≤ R.frames ∧ 8 + (3 + 11) + (({ frames := 0, cells := 0, slots := 0, locals := 0 } : Room)).locals ≤ R.locals) : CallW R s args own R_Z index y_Z_open b_Z_open 3 (some .int) ws_Z_open ({ frames := 0, cells := 0, slots := 0, locals := 0 } : Room) 0 0 1 := ⟨callB_of 1 hts (good_c a_733) rfl rfl rfl (hts _ a_8) (hts _ hlk) (by decide +kernel) hR, hts _ a_732, hts _ a_s15⟩
theorem d_Z_open_0 : decode b_Z_open 0 = .ok (.iconst 0, 1) := by decide +kernel
theorem d_Z_open_1 : decode b_Z_open 1 = .ok (.istore_n 2, 1) := by decide +kernel
theorem d_Z_open_2 : decode b_Z_open 2 = .ok (.iload_n 2, 1) := by decide +kernel
theorem d_Z_open_3 : decode b_Z_open 3 = .ok (.bipush 6, 2) := by decide +kernel
theorem d_Z_open_5 : decode b_Z_open 5 = .ok (.if_icmp .ge 24, 3) := by decide +kernel
theorem d_Z_open_8 : decode b_Z_open 8 = .ok (.aload_n 0, 1) := by decide +kernel
theorem d_Z_open_9 : decode b_Z_open 9 = .ok (.getfield 38, 3) := by decide +kernel
theorem d_Z_open_12 : decode b_Z_open 12 = .ok (.bipush 6, 2) := by decide +kernel
theorem d_Z_open_14 : decode b_Z_open 14 = .ok (.iload_n 1, 1) := by decide +kernel
theorem d_Z_open_15 : decode b_Z_open 15 = .ok (.imul, 1) := by decide +kernel
theorem d_Z_open_16 : decode b_Z_open 16 = .ok (.iload_n 2, 1) := by decide +kernel
theorem d_Z_open_17 : decode b_Z_open 17 = .ok (.iadd, 1) := by decide +kernel
theorem d_Z_open_18 : decode b_Z_open 18 = .ok (.iaload, 1) := by decide +kernel
theorem d_Z_open_19 : decode b_Z_open 19 = .ok (.ifCond .le 10, 3) := by decide +kernel
theorem d_Z_open_22 : decode b_Z_open 22 = .ok (.iload_n 2, 1) := by decide +kernel
theorem d_Z_open_23 : decode b_Z_open 23 = .ok (.iconst 1, 1) := by decide +kernel
theorem d_Z_open_24 : decode b_Z_open 24 = .ok (.iadd, 1) := by decide +kernel
theorem d_Z_open_25 : decode b_Z_open 25 = .ok (.istore_n 2, 1) := by decide +kernel
theorem d_Z_open_26 : decode b_Z_open 26 = .ok (.goto (-24), 3) := by decide +kernel
theorem d_Z_open_29 : decode b_Z_open 29 = .ok (.iload_n 2, 1) := by decide +kernel
theorem d_Z_open_30 : decode b_Z_open 30 = .ok (.ireturn, 1) := by decide +kernel
def Fl_Z_open_2  : Nat → ZW → Int32 → Int32 → Option (Int32)
  | 0, _, _, _ => none
  | n + 1, z, x1, x2 => (if 6 ≤ x2 then some x2 else (if 0 ≤ ((6 * x1) + x2) ∧ (((6 * x1) + x2)).toNatClampNeg < 162 then (if (z.1 10 (((6 * x1) + x2)).toNatClampNeg) ≤ 0 then some x2 else (Fl_Z_open_2 n) z x1 (x2 + 1)) else none))
def F_Z_open (z : ZW) (a1 : Int32) : Option (Int32) := Fl_Z_open_2  200 z a1 0
set_option maxHeartbeats 4000000 in
set_option maxRecDepth 100000 in
theorem lp_Z_open_2 {p : Program} {l : Launch} {e : Env} {s : State} {m : MethodId} {args : Array Value} {below : List Frame} {meth : Method} {c : Code} {D : va_G} {ad : Nat → Nat → Nat} {ca : Nat → ClassId} {u : XC} (hx : p.tables.exec = Jvm.exec) (hb : c.code = b_Z_open) (hr : meth.sig.returnType = (some .int)) (hts : ∀ w ∈ ALL, w.before args s = true) (hown : s.vm.findClass R_Z = some m.cls) (hlocks : meth.locks = false) (hml : c.maxLocals = 3) (hK : va_K D CLS (TYH ca) s) (hD0 : ∀ z u, va_D (AH ad) (wh ad ca z u)) (hD : ∀ z u, va_D (AH ad) (wh ad ca z u))  : ∀ (n : Nat), ∀ (z : ZW) (x1 : Int32) (x2 : Int32)  (r0 : Int32), Fl_Z_open_2  n z x1 x2 = some r0 → ∀ (H : Heap) (locs : List Loc) (ls : Array Slot), va_P D CLS (wh ad ca z u) H → va_S (fun _ => True) s.heap H locs → H = s.heap → (∀ q ∈ locs, (fun _ => False) q.base) → lv_has ls 3 [(0, .ref (ad 14 0)), (1, .int x1), (2, .int x2)] → W p l e ({ frames := 0, cells := 0, slots := 0, locals := 0 } : Room) s m args below meth c H locs 0 0 (MQ below (vp_Si (fun r => r = r0)) args s 0 0 (fun _ => False)) (F0 m 2 ls []) := by
  intro n
  induction n with
  | zero => intro z x1 x2 r0 hF; rw [Fl_Z_open_2] at hF; cases hF
  | succ n ih =>
    intro z x1 x2 r0 hF H locs ls hP hS hH hN hl
    rw [Fl_Z_open_2] at hF
    refine lv_iload_n hx hb d_Z_open_2 rfl (lv_at hl 2 rfl) ?_
    refine lv_bipush (v := 6) hx hb d_Z_open_3 (by decide) ?_
    refine lv_icmp_ge (tgt := 29) hx hb d_Z_open_5 (by decide) (fun h1 => ?_) (fun h1 => ?_)
    · have hF := it_t hF h1
      refine lv_iload_n hx hb d_Z_open_29 rfl (lv_at hl 2 rfl) ?_
      have hF := rt1 hF
      subst hF
      exact W.iret (v := x2) hx hb hr (fun t ht hW => ⟨_, rfl, rfl, ht.trans hH⟩) hN d_Z_open_30
    · have hF := it_f hF h1
      refine lv_aload_n hx hb d_Z_open_8 rfl (lv_at hl 0 rfl) ?_
      refine gf_Z_11 hx hb hts hown hK hP (by decide) a_569 d_Z_open_9 ?_
      refine lv_bipush (v := 6) hx hb d_Z_open_12 (by decide) ?_
      refine lv_iload_n hx hb d_Z_open_14 rfl (lv_at hl 1 rfl) ?_
      refine lv_imul hx hb d_Z_open_15 ?_
      refine lv_iload_n hx hb d_Z_open_16 rfl (lv_at hl 2 rfl) ?_
      refine lv_iadd hx hb d_Z_open_17 ?_
      obtain ⟨h2, hF⟩ := as_u hF
      refine l_zi hx hb hK hP 10 162 ⟨by decide, by decide, by decide⟩ rfl h2 d_Z_open_18 ?_
      refine lv_if_le (tgt := 29) hx hb d_Z_open_19 (by decide) (fun h3 => ?_) (fun h3 => ?_)
      · have hF := it_t hF h3
        refine lv_iload_n hx hb d_Z_open_29 rfl (lv_at hl 2 rfl) ?_
        have hF := rt1 hF
        subst hF
        exact W.iret (v := x2) hx hb hr (fun t ht hW => ⟨_, rfl, rfl, ht.trans hH⟩) hN d_Z_open_30
      · have hF := it_f hF h3
        refine lv_iload_n hx hb d_Z_open_22 rfl (lv_at hl 2 rfl) ?_
        refine lv_iconst (v := 1) hx hb d_Z_open_23 (by decide) ?_
        refine lv_iadd hx hb d_Z_open_24 ?_
        refine lv_istore_n (lv' := [(2, .int (x2 + 1)), (0, .ref (ad 14 0)), (1, .int x1)]) hx hb d_Z_open_25 rfl hl (by decide) rfl (fun ls hl => ?_)
        refine lv_goto (tgt := 2) hx hb d_Z_open_26 (by decide) ?_
        exact ih z x1 (x2 + 1)  r0 hF _ _ _ hP hS hH hN (lv_sub hl [1, 2, 0] rfl)
set_option maxHeartbeats 4000000 in
set_option maxRecDepth 100000 in
theorem c_Z_open (l : Launch) (D : va_G) (ad : Nat → Nat → Nat) (ca : Nat → ClassId) (hD0 : ∀ z u, va_D (AH ad) (wh ad ca z u)) {z : ZW} {u : XC} {a1 : Int32} {r0 : Int32}  (hF : F_Z_open z a1 = some r0) : Met l y_Z_open ws_Z_open ({ frames := 0, cells := 0, slots := 0, locals := 0 } : Room) (va_Pc [.ref (ad 14 0), .int a1] (fun U => va_P D CLS (wh ad ca z u) U.heap ∧ va_K D CLS (TYH ca) U)) (vp_Si (fun r => r = r0)) 0 0 (fun _ => False) := by
  refine Met.ofW (cc := b_Z_open) (maxL := 3) (ret := (some .int)) (by decide +kernel) rfl ?_
  intro p e s m args below meth c s₁ B hml hv
  obtain ⟨rfl, hP, hK⟩ := hv
  have hx := B.exec
  have hb := B.bytes
  have hr := B.returns
  have hts : ∀ w ∈ ALL, w.before _ s = true := fun w h => atoms_spec (ws := ws_Z_open) B.pre w (List.mem_cons_of_mem _ h)
  have hown : s.vm.findClass R_Z = some m.cls := findClass_of_methodNamed B.named
  have hlocks := B.notSynchronized
  have hD := hD0
  have hS : va_S (fun _ => True) s.heap s.heap [] := va_S.rf
  have hN : ∀ q ∈ ([] : List Loc), (fun _ => False) q.base := fun _ h => absurd h List.not_mem_nil
  have hP : va_P D CLS (wh ad ca z u) s.heap := hP
  have hl := lv_entry ([.ref (ad 14 0), .int a1]) (n := 3) (Nat.le_of_ble_eq_true rfl)
  rw [lg_entry_eq]
  generalize (lg_sl ([.ref (ad 14 0), .int a1]) ++ List.replicate (3 - (lg_sl ([.ref (ad 14 0), .int a1])).length) Slot.unset).toArray = ls at hl ⊢
  have hl : lv_has ls 3 [(0, .ref (ad 14 0)), (1, .int a1)] := hl
  have hH : s.heap = s.heap := rfl
  unfold F_Z_open at hF
  refine lv_iconst (v := 0) hx hb d_Z_open_0 (by decide) ?_
  refine lv_istore_n (lv' := [(2, .int 0), (0, .ref (ad 14 0)), (1, .int a1)]) hx hb d_Z_open_1 rfl hl (by decide) rfl (fun ls hl => ?_)
  exact lp_Z_open_2 hx hb hr hts hown hlocks hml hK hD0 hD  200 z a1 0  r0 hF _ _ _ hP hS hH hN (lv_sub hl [1, 2, 0] rfl)
def ws_Z_choice : List Cond := Cond.code y_Z_choice b_Z_choice 2 (some .int) :: ALL
theorem w_Z_choice {R : Room} {s : State} {args : Array Value} {own : String} {index : Nat} (hts : ∀ w ∈ ALL, w.before args s = true) (hlk : Cond.methodLink own index y_Z_choice ∈ ALL) (hR : (({ frames := 3, cells := 0, slots := 0, locals := 80 } : Room)).frames + 1 ≤ R.frames ∧ 8 + (2 + 11) + (({ frames := 3, cells := 0, slots := 0, locals := 80 } : Room)).locals ≤ R.locals) : CallB R s args own index y_Z_choice b_Z_choice 2 (some .int) ws_Z_choice ({ frames := 3, cells := 0, slots := 0, locals := 80 } : Room) 0 0 2 ∧ (Cond.static y_Z_choice).before args s = true := ⟨callB_of 2 hts (good_c a_740) rfl rfl rfl (hts _ a_8) (hts _ hlk) (by decide +kernel) hR, hts _ a_739⟩
theorem d_Z_choice_0 : decode b_Z_choice 0 = .ok (.ldc 114, 2) := by decide +kernel
theorem d_Z_choice_2 : decode b_Z_choice 2 = .ok (.iload_n 1, 1) := by decide +kernel
theorem d_Z_choice_3 : decode b_Z_choice 3 = .ok (.iconst (-1), 1) := by decide +kernel
theorem d_Z_choice_4 : decode b_Z_choice 4 = .ok (.ixor, 1) := by decide +kernel
theorem d_Z_choice_5 : decode b_Z_choice 5 = .ok (.iand, 1) := by decide +kernel
theorem d_Z_choice_6 : decode b_Z_choice 6 = .ok (.iload_n 0, 1) := by decide +kernel
theorem d_Z_choice_7 : decode b_Z_choice 7 = .ok (.bipush 9, 2) := by decide +kernel
theorem d_Z_choice_9 : decode b_Z_choice 9 = .ok (.idiv, 1) := by decide +kernel
theorem d_Z_choice_10 : decode b_Z_choice 10 = .ok (.iload_n 0, 1) := by decide +kernel
theorem d_Z_choice_11 : decode b_Z_choice 11 = .ok (.iconst 3, 1) := by decide +kernel
theorem d_Z_choice_12 : decode b_Z_choice 12 = .ok (.idiv, 1) := by decide +kernel
theorem d_Z_choice_13 : decode b_Z_choice 13 = .ok (.iconst 3, 1) := by decide +kernel
theorem d_Z_choice_14 : decode b_Z_choice 14 = .ok (.irem, 1) := by decide +kernel
theorem d_Z_choice_15 : decode b_Z_choice 15 = .ok (.iload_n 0, 1) := by decide +kernel
theorem d_Z_choice_16 : decode b_Z_choice 16 = .ok (.iconst 3, 1) := by decide +kernel
theorem d_Z_choice_17 : decode b_Z_choice 17 = .ok (.irem, 1) := by decide +kernel
theorem d_Z_choice_18 : decode b_Z_choice 18 = .ok (.invokestatic 115, 3) := by decide +kernel
theorem d_Z_choice_21 : decode b_Z_choice 21 = .ok (.ireturn, 1) := by decide +kernel
def F_Z_choice  (a1 : Int32) (a2 : Int32) : Option (Int32) := (bs_ (F_Z_eight (134217727 &&& (a2 ^^^ (-1))) (a1 / 9) ((a1 / 3) - (a1 / 3) / 3 * 3) (a1 - a1 / 3 * 3)) fun r1 => some r1)
set_option maxHeartbeats 4000000 in
set_option maxRecDepth 100000 in
theorem c_Z_choice (l : Launch) {a1 : Int32} {a2 : Int32} {r0 : Int32}  (hF : F_Z_choice  a1 a2 = some r0) : Met l y_Z_choice ws_Z_choice ({ frames := 3, cells := 0, slots := 0, locals := 80 } : Room) (va_Pc [.int a1, .int a2] (fun _ => True)) (vp_Si (fun r => r = r0)) 0 0 (fun _ => False) := by
  refine Met.ofW (cc := b_Z_choice) (maxL := 2) (ret := (some .int)) (by decide +kernel) rfl ?_
  intro p e s m args below meth c s₁ B hml hv
  obtain ⟨rfl, -⟩ := hv
  have hx := B.exec
  have hb := B.bytes
  have hr := B.returns
  have hts : ∀ w ∈ ALL, w.before _ s = true := fun w h => atoms_spec (ws := ws_Z_choice) B.pre w (List.mem_cons_of_mem _ h)
  have hown : s.vm.findClass R_Z = some m.cls := findClass_of_methodNamed B.named
  have hlocks := B.notSynchronized
  have hS : va_S (fun _ => True) s.heap s.heap [] := va_S.rf
  have hN : ∀ q ∈ ([] : List Loc), (fun _ => False) q.base := fun _ h => absurd h List.not_mem_nil
  have hl := lv_entry ([.int a1, .int a2]) (n := 2) (Nat.le_of_ble_eq_true rfl)
  rw [lg_entry_eq]
  generalize (lg_sl ([.int a1, .int a2]) ++ List.replicate (2 - (lg_sl ([.int a1, .int a2])).length) Slot.unset).toArray = ls at hl ⊢
  have hl : lv_has ls 2 [(0, .int a1), (1, .int a2)] := hl
  have hH : s.heap = s.heap := rfl
  unfold F_Z_choice at hF
  refine lv_ldc (v := 134217727) hx hb hown (hts _ a_664) d_Z_choice_0 ?_
  refine lv_iload_n hx hb d_Z_choice_2 rfl (lv_at hl 1 rfl) ?_
  refine lv_iconst (v := (-1)) hx hb d_Z_choice_3 (by decide) ?_
  refine lv_ixor hx hb d_Z_choice_4 ?_
  refine lv_iand hx hb d_Z_choice_5 ?_
  refine lv_iload_n hx hb d_Z_choice_6 rfl (lv_at hl 0 rfl) ?_
  refine lv_bipush (v := 9) hx hb d_Z_choice_7 (by decide) ?_
  refine lv_idiv hx hb d_Z_choice_9 (by decide) ?_
  refine lv_iload_n hx hb d_Z_choice_10 rfl (lv_at hl 0 rfl) ?_
  refine lv_iconst (v := 3) hx hb d_Z_choice_11 (by decide) ?_
  refine lv_idiv hx hb d_Z_choice_12 (by decide) ?_
  refine lv_iconst (v := 3) hx hb d_Z_choice_13 (by decide) ?_
  refine lv_irem hx hb d_Z_choice_14 (by decide) ?_
  refine lv_iload_n hx hb d_Z_choice_15 rfl (lv_at hl 0 rfl) ?_
  refine lv_iconst (v := 3) hx hb d_Z_choice_16 (by decide) ?_
  refine lv_irem hx hb d_Z_choice_17 (by decide) ?_
  obtain ⟨r1, h2, hF⟩ := bs_u hF
  refine k_sp [.int (134217727 &&& (a2 ^^^ (-1))), .int (a1 / 9), .int ((a1 / 3) - (a1 / 3) / 3 * 3), .int (a1 - a1 / 3 * 3)] [] ⟨hx, hb, hml, hown, hts⟩ (c_Z_eight l  h2) (w_Z_eight hts a_678 ⟨Nat.le_of_ble_eq_true rfl, Nat.le_of_ble_eq_true rfl⟩) rfl rfl hl.1 (Nat.le_of_ble_eq_true rfl) ⟨Nat.zero_le _, Nat.zero_le _⟩ d_Z_choice_18 ?_
  have hF := rt1 hF
  subst hF
  exact W.iret (v := r1) hx hb hr (fun t ht hW => ⟨_, rfl, rfl, ht.trans hH⟩) hN d_Z_choice_21
def ws_Z_send : List Cond := Cond.code y_Z_send b_Z_send 7 none :: ALL
theorem w_Z_send {R : Room} {s : State} {args : Array Value} {own : String} {index : Nat} (hts : ∀ w ∈ ALL, w.before args s = true) (hlk : Cond.methodLink own index y_Z_send ∈ ALL) (hR : (({ frames := 0, cells := 0, slots := 0, locals := 0 } : Room)).frames + 1 ≤ R.frames ∧ 8 + (7 + 11) + (({ frames := 0, cells := 0, slots := 0, locals := 0 } : Room)).locals ≤ R.locals) : CallW R s args own R_Z index y_Z_send b_Z_send 7 none ws_Z_send ({ frames := 0, cells := 0, slots := 0, locals := 0 } : Room) 0 0 6 := ⟨callB_of 6 hts (good_c a_748) rfl rfl rfl (hts _ a_8) (hts _ hlk) (by decide +kernel) hR, hts _ a_747, hts _ a_s18⟩
theorem d_Z_send_0 : decode b_Z_send 0 = .ok (.aload_n 0, 1) := by decide +kernel
theorem d_Z_send_1 : decode b_Z_send 1 = .ok (.aload_n 0, 1) := by decide +kernel
theorem d_Z_send_2 : decode b_Z_send 2 = .ok (.getfield 128, 3) := by decide +kernel
theorem d_Z_send_5 : decode b_Z_send 5 = .ok (.iconst 1, 1) := by decide +kernel
theorem d_Z_send_6 : decode b_Z_send 6 = .ok (.iadd, 1) := by decide +kernel
theorem d_Z_send_7 : decode b_Z_send 7 = .ok (.putfield 128, 3) := by decide +kernel
theorem d_Z_send_10 : decode b_Z_send 10 = .ok (.aload_n 0, 1) := by decide +kernel
theorem d_Z_send_11 : decode b_Z_send 11 = .ok (.getfield 131, 3) := by decide +kernel
theorem d_Z_send_14 : decode b_Z_send 14 = .ok (.sipush 150, 3) := by decide +kernel
theorem d_Z_send_17 : decode b_Z_send 17 = .ok (.if_icmp .ge 96, 3) := by decide +kernel
theorem d_Z_send_20 : decode b_Z_send 20 = .ok (.aload_n 0, 1) := by decide +kernel
theorem d_Z_send_21 : decode b_Z_send 21 = .ok (.getfield 71, 3) := by decide +kernel
theorem d_Z_send_24 : decode b_Z_send 24 = .ok (.aload_n 0, 1) := by decide +kernel
theorem d_Z_send_25 : decode b_Z_send 25 = .ok (.getfield 131, 3) := by decide +kernel
theorem d_Z_send_28 : decode b_Z_send 28 = .ok (.iload_n 1, 1) := by decide +kernel
theorem d_Z_send_29 : decode b_Z_send 29 = .ok (.iastore, 1) := by decide +kernel
theorem d_Z_send_30 : decode b_Z_send 30 = .ok (.aload_n 0, 1) := by decide +kernel
theorem d_Z_send_31 : decode b_Z_send 31 = .ok (.getfield 74, 3) := by decide +kernel
theorem d_Z_send_34 : decode b_Z_send 34 = .ok (.aload_n 0, 1) := by decide +kernel
theorem d_Z_send_35 : decode b_Z_send 35 = .ok (.getfield 131, 3) := by decide +kernel
theorem d_Z_send_38 : decode b_Z_send 38 = .ok (.iload_n 2, 1) := by decide +kernel
theorem d_Z_send_39 : decode b_Z_send 39 = .ok (.iastore, 1) := by decide +kernel
theorem d_Z_send_40 : decode b_Z_send 40 = .ok (.aload_n 0, 1) := by decide +kernel
theorem d_Z_send_41 : decode b_Z_send 41 = .ok (.getfield 77, 3) := by decide +kernel
theorem d_Z_send_44 : decode b_Z_send 44 = .ok (.aload_n 0, 1) := by decide +kernel
theorem d_Z_send_45 : decode b_Z_send 45 = .ok (.getfield 131, 3) := by decide +kernel
theorem d_Z_send_48 : decode b_Z_send 48 = .ok (.iload_n 3, 1) := by decide +kernel
theorem d_Z_send_49 : decode b_Z_send 49 = .ok (.iastore, 1) := by decide +kernel
theorem d_Z_send_50 : decode b_Z_send 50 = .ok (.aload_n 0, 1) := by decide +kernel
theorem d_Z_send_51 : decode b_Z_send 51 = .ok (.getfield 80, 3) := by decide +kernel
theorem d_Z_send_54 : decode b_Z_send 54 = .ok (.aload_n 0, 1) := by decide +kernel
theorem d_Z_send_55 : decode b_Z_send 55 = .ok (.getfield 131, 3) := by decide +kernel
theorem d_Z_send_58 : decode b_Z_send 58 = .ok (.iload 4, 2) := by decide +kernel
theorem d_Z_send_60 : decode b_Z_send 60 = .ok (.iastore, 1) := by decide +kernel
theorem d_Z_send_61 : decode b_Z_send 61 = .ok (.aload_n 0, 1) := by decide +kernel
theorem d_Z_send_62 : decode b_Z_send 62 = .ok (.getfield 83, 3) := by decide +kernel
theorem d_Z_send_65 : decode b_Z_send 65 = .ok (.aload_n 0, 1) := by decide +kernel
theorem d_Z_send_66 : decode b_Z_send 66 = .ok (.getfield 131, 3) := by decide +kernel
theorem d_Z_send_69 : decode b_Z_send 69 = .ok (.iload 5, 2) := by decide +kernel
theorem d_Z_send_71 : decode b_Z_send 71 = .ok (.iastore, 1) := by decide +kernel
theorem d_Z_send_72 : decode b_Z_send 72 = .ok (.aload_n 0, 1) := by decide +kernel
theorem d_Z_send_73 : decode b_Z_send 73 = .ok (.getfield 86, 3) := by decide +kernel
theorem d_Z_send_76 : decode b_Z_send 76 = .ok (.aload_n 0, 1) := by decide +kernel
theorem d_Z_send_77 : decode b_Z_send 77 = .ok (.getfield 131, 3) := by decide +kernel
theorem d_Z_send_80 : decode b_Z_send 80 = .ok (.iload 6, 2) := by decide +kernel
theorem d_Z_send_82 : decode b_Z_send 82 = .ok (.iastore, 1) := by decide +kernel
theorem d_Z_send_83 : decode b_Z_send 83 = .ok (.aload_n 0, 1) := by decide +kernel
theorem d_Z_send_84 : decode b_Z_send 84 = .ok (.getfield 89, 3) := by decide +kernel
theorem d_Z_send_87 : decode b_Z_send 87 = .ok (.aload_n 0, 1) := by decide +kernel
theorem d_Z_send_88 : decode b_Z_send 88 = .ok (.getfield 131, 3) := by decide +kernel
theorem d_Z_send_91 : decode b_Z_send 91 = .ok (.iconst 0, 1) := by decide +kernel
theorem d_Z_send_92 : decode b_Z_send 92 = .ok (.iastore, 1) := by decide +kernel
theorem d_Z_send_93 : decode b_Z_send 93 = .ok (.aload_n 0, 1) := by decide +kernel
theorem d_Z_send_94 : decode b_Z_send 94 = .ok (.getfield 92, 3) := by decide +kernel
theorem d_Z_send_97 : decode b_Z_send 97 = .ok (.aload_n 0, 1) := by decide +kernel
theorem d_Z_send_98 : decode b_Z_send 98 = .ok (.getfield 131, 3) := by decide +kernel
theorem d_Z_send_101 : decode b_Z_send 101 = .ok (.iconst 0, 1) := by decide +kernel
theorem d_Z_send_102 : decode b_Z_send 102 = .ok (.iastore, 1) := by decide +kernel
theorem d_Z_send_103 : decode b_Z_send 103 = .ok (.aload_n 0, 1) := by decide +kernel
theorem d_Z_send_104 : decode b_Z_send 104 = .ok (.aload_n 0, 1) := by decide +kernel
theorem d_Z_send_105 : decode b_Z_send 105 = .ok (.getfield 131, 3) := by decide +kernel
theorem d_Z_send_108 : decode b_Z_send 108 = .ok (.iconst 1, 1) := by decide +kernel
theorem d_Z_send_109 : decode b_Z_send 109 = .ok (.iadd, 1) := by decide +kernel
theorem d_Z_send_110 : decode b_Z_send 110 = .ok (.putfield 131, 3) := by decide +kernel
theorem d_Z_send_113 : decode b_Z_send 113 = .ok (.return_, 1) := by decide +kernel
def F_Z_send (z : ZW) (a1 : Int32) (a2 : Int32) (a3 : Int32) (a4 : Int32) (a5 : Int32) (a6 : Int32) : Option (ZW) := (nm_ (pz z 0 31 ((z.1 0 31) + 1)) fun z1 => (if 150 ≤ (z1.1 0 22) then some z1 else (if 0 ≤ (z1.1 0 22) ∧ ((z1.1 0 22)).toNatClampNeg < 151 then (nm_ (pz z1 21 ((z1.1 0 22)).toNatClampNeg a1) fun z5 => (if 0 ≤ (z5.1 0 22) ∧ ((z5.1 0 22)).toNatClampNeg < 151 then (nm_ (pz z5 22 ((z5.1 0 22)).toNatClampNeg a2) fun z8 => (if 0 ≤ (z8.1 0 22) ∧ ((z8.1 0 22)).toNatClampNeg < 151 then (nm_ (pz z8 23 ((z8.1 0 22)).toNatClampNeg a3) fun z11 => (if 0 ≤ (z11.1 0 22) ∧ ((z11.1 0 22)).toNatClampNeg < 151 then (nm_ (pz z11 24 ((z11.1 0 22)).toNatClampNeg a4) fun z14 => (if 0 ≤ (z14.1 0 22) ∧ ((z14.1 0 22)).toNatClampNeg < 151 then (nm_ (pz z14 25 ((z14.1 0 22)).toNatClampNeg a5) fun z17 => (if 0 ≤ (z17.1 0 22) ∧ ((z17.1 0 22)).toNatClampNeg < 151 then (nm_ (pz z17 26 ((z17.1 0 22)).toNatClampNeg a6) fun z20 => (if 0 ≤ (z20.1 0 22) ∧ ((z20.1 0 22)).toNatClampNeg < 151 then (nm_ (pz z20 27 ((z20.1 0 22)).toNatClampNeg 0) fun z23 => (if 0 ≤ (z23.1 0 22) ∧ ((z23.1 0 22)).toNatClampNeg < 151 then (nm_ (pz z23 28 ((z23.1 0 22)).toNatClampNeg 0) fun z26 => (nm_ (pz z26 0 22 ((z26.1 0 22) + 1)) fun z28 => some z28)) else none)) else none)) else none)) else none)) else none)) else none)) else none)) else none)))
set_option maxHeartbeats 4000000 in
set_option maxRecDepth 100000 in
theorem c_Z_send (l : Launch) (D : va_G) (ad : Nat → Nat → Nat) (ca : Nat → ClassId) (hD0 : ∀ z u, va_D (AH ad) (wh ad ca z u)) {z : ZW} {u : XC} {a1 : Int32} {a2 : Int32} {a3 : Int32} {a4 : Int32} {a5 : Int32} {a6 : Int32} {z0 : ZW}  (hF : F_Z_send z a1 a2 a3 a4 a5 a6 = some z0) : Met l y_Z_send ws_Z_send ({ frames := 0, cells := 0, slots := 0, locals := 0 } : Room) (va_Pc [.ref (ad 14 0), .int a1, .int a2, .int a3, .int a4, .int a5, .int a6] (fun U => va_P D CLS (wh ad ca z u) U.heap ∧ va_K D CLS (TYH ca) U)) (va_Qv (fun (_ : Unit) => True) (fun _ t => va_P D CLS (wh ad ca z0 u) t.heap) (AH ad)) 0 0 (AH ad) := by
  refine Met.ofW (cc := b_Z_send) (maxL := 7) (ret := none) (by decide +kernel) rfl ?_
  intro p e s m args below meth c s₁ B hml hv
  obtain ⟨rfl, hP, hK⟩ := hv
  have hx := B.exec
  have hb := B.bytes
  have hr := B.returns
  have hts : ∀ w ∈ ALL, w.before _ s = true := fun w h => atoms_spec (ws := ws_Z_send) B.pre w (List.mem_cons_of_mem _ h)
  have hown : s.vm.findClass R_Z = some m.cls := findClass_of_methodNamed B.named
  have hlocks := B.notSynchronized
  have hD := hD0
  have hS : va_S (AH ad) s.heap s.heap [] := va_S.rf
  have hP : va_P D CLS (wh ad ca z u) s.heap := hP
  have hl := lv_entry ([.ref (ad 14 0), .int a1, .int a2, .int a3, .int a4, .int a5, .int a6]) (n := 7) (Nat.le_of_ble_eq_true rfl)
  rw [lg_entry_eq]
  generalize (lg_sl ([.ref (ad 14 0), .int a1, .int a2, .int a3, .int a4, .int a5, .int a6]) ++ List.replicate (7 - (lg_sl ([.ref (ad 14 0), .int a1, .int a2, .int a3, .int a4, .int a5, .int a6])).length) Slot.unset).toArray = ls at hl ⊢
  have hl : lv_has ls 7 [(0, .ref (ad 14 0)), (1, .int a1), (2, .int a2), (3, .int a3), (4, .int a4), (5, .int a5), (6, .int a6)] := hl
  unfold F_Z_send at hF
  refine lv_aload_n hx hb d_Z_send_0 rfl (lv_at hl 0 rfl) ?_
  refine lv_aload_n hx hb d_Z_send_1 rfl (lv_at hl 0 rfl) ?_
  refine gf_Z_31 hx hb hts hown hK hP (by decide) a_589 d_Z_send_2 ?_
  refine lv_iconst (v := 1) hx hb d_Z_send_5 (by decide) ?_
  refine lv_iadd hx hb d_Z_send_6 ?_
  obtain ⟨z1, h2, hF⟩ := nm_u hF
  refine pf_Z_31 hx hb hts hown hK hP hD hS (by decide) h2 a_589 d_Z_send_7 (fun H locs hP hS => ?_)
  refine lv_aload_n hx hb d_Z_send_10 rfl (lv_at hl 0 rfl) ?_
  refine gf_Z_22 hx hb hts hown hK hP (by decide) a_580 d_Z_send_11 ?_
  refine lv_sipush (v := 150) hx hb d_Z_send_14 (by decide) ?_
  refine lv_icmp_ge (tgt := 113) hx hb d_Z_send_17 (by decide) (fun h3 => ?_) (fun h3 => ?_)
  · have hF := it_t hF h3
    have hF := rt1 hF
    subst hF
    exact W.vret hx hb hr (fun t ht hW => ⟨⟨(), rfl, trivial, vp_at ht hP⟩, hS.F ht⟩) hS.2.2 d_Z_send_113
  · have hF := it_f hF h3
    refine lv_aload_n hx hb d_Z_send_20 rfl (lv_at hl 0 rfl) ?_
    refine gf_Z_23 hx hb hts hown hK hP (by decide) a_581 d_Z_send_21 ?_
    refine lv_aload_n hx hb d_Z_send_24 rfl (lv_at hl 0 rfl) ?_
    refine gf_Z_22 hx hb hts hown hK hP (by decide) a_580 d_Z_send_25 ?_
    refine lv_iload_n hx hb d_Z_send_28 rfl (lv_at hl 1 rfl) ?_
    obtain ⟨h4, hF⟩ := as_u hF
    obtain ⟨z5, h6, hF⟩ := nm_u hF
    refine s_zi hx hb hK hP 21 151 hD hS ⟨by decide, by decide, by decide⟩ rfl h4 h6 d_Z_send_29 (fun H locs hP hS => ?_)
    refine lv_aload_n hx hb d_Z_send_30 rfl (lv_at hl 0 rfl) ?_
    refine gf_Z_24 hx hb hts hown hK hP (by decide) a_582 d_Z_send_31 ?_
    refine lv_aload_n hx hb d_Z_send_34 rfl (lv_at hl 0 rfl) ?_
    refine gf_Z_22 hx hb hts hown hK hP (by decide) a_580 d_Z_send_35 ?_
    refine lv_iload_n hx hb d_Z_send_38 rfl (lv_at hl 2 rfl) ?_
    obtain ⟨h7, hF⟩ := as_u hF
    obtain ⟨z8, h9, hF⟩ := nm_u hF
    refine s_zi hx hb hK hP 22 151 hD hS ⟨by decide, by decide, by decide⟩ rfl h7 h9 d_Z_send_39 (fun H locs hP hS => ?_)
    refine lv_aload_n hx hb d_Z_send_40 rfl (lv_at hl 0 rfl) ?_
    refine gf_Z_25 hx hb hts hown hK hP (by decide) a_583 d_Z_send_41 ?_
    refine lv_aload_n hx hb d_Z_send_44 rfl (lv_at hl 0 rfl) ?_
    refine gf_Z_22 hx hb hts hown hK hP (by decide) a_580 d_Z_send_45 ?_
    refine lv_iload_n hx hb d_Z_send_48 rfl (lv_at hl 3 rfl) ?_
    obtain ⟨h10, hF⟩ := as_u hF
    obtain ⟨z11, h12, hF⟩ := nm_u hF
    refine s_zi hx hb hK hP 23 151 hD hS ⟨by decide, by decide, by decide⟩ rfl h10 h12 d_Z_send_49 (fun H locs hP hS => ?_)
    refine lv_aload_n hx hb d_Z_send_50 rfl (lv_at hl 0 rfl) ?_
    refine gf_Z_26 hx hb hts hown hK hP (by decide) a_584 d_Z_send_51 ?_
    refine lv_aload_n hx hb d_Z_send_54 rfl (lv_at hl 0 rfl) ?_
    refine gf_Z_22 hx hb hts hown hK hP (by decide) a_580 d_Z_send_55 ?_
    refine lv_iload hx hb d_Z_send_58 (lv_at hl 4 rfl) ?_
    obtain ⟨h13, hF⟩ := as_u hF
    obtain ⟨z14, h15, hF⟩ := nm_u hF
    refine s_zi hx hb hK hP 24 151 hD hS ⟨by decide, by decide, by decide⟩ rfl h13 h15 d_Z_send_60 (fun H locs hP hS => ?_)
    refine lv_aload_n hx hb d_Z_send_61 rfl (lv_at hl 0 rfl) ?_
    refine gf_Z_27 hx hb hts hown hK hP (by decide) a_585 d_Z_send_62 ?_
    refine lv_aload_n hx hb d_Z_send_65 rfl (lv_at hl 0 rfl) ?_
    refine gf_Z_22 hx hb hts hown hK hP (by decide) a_580 d_Z_send_66 ?_
    refine lv_iload hx hb d_Z_send_69 (lv_at hl 5 rfl) ?_
    obtain ⟨h16, hF⟩ := as_u hF
    obtain ⟨z17, h18, hF⟩ := nm_u hF
    refine s_zi hx hb hK hP 25 151 hD hS ⟨by decide, by decide, by decide⟩ rfl h16 h18 d_Z_send_71 (fun H locs hP hS => ?_)
    refine lv_aload_n hx hb d_Z_send_72 rfl (lv_at hl 0 rfl) ?_
    refine gf_Z_28 hx hb hts hown hK hP (by decide) a_586 d_Z_send_73 ?_
    refine lv_aload_n hx hb d_Z_send_76 rfl (lv_at hl 0 rfl) ?_
    refine gf_Z_22 hx hb hts hown hK hP (by decide) a_580 d_Z_send_77 ?_
    refine lv_iload hx hb d_Z_send_80 (lv_at hl 6 rfl) ?_
    obtain ⟨h19, hF⟩ := as_u hF
    obtain ⟨z20, h21, hF⟩ := nm_u hF
    refine s_zi hx hb hK hP 26 151 hD hS ⟨by decide, by decide, by decide⟩ rfl h19 h21 d_Z_send_82 (fun H locs hP hS => ?_)
    refine lv_aload_n hx hb d_Z_send_83 rfl (lv_at hl 0 rfl) ?_
    refine gf_Z_29 hx hb hts hown hK hP (by decide) a_587 d_Z_send_84 ?_
    refine lv_aload_n hx hb d_Z_send_87 rfl (lv_at hl 0 rfl) ?_
    refine gf_Z_22 hx hb hts hown hK hP (by decide) a_580 d_Z_send_88 ?_
    refine lv_iconst (v := 0) hx hb d_Z_send_91 (by decide) ?_
    obtain ⟨h22, hF⟩ := as_u hF
    obtain ⟨z23, h24, hF⟩ := nm_u hF
    refine s_zi hx hb hK hP 27 151 hD hS ⟨by decide, by decide, by decide⟩ rfl h22 h24 d_Z_send_92 (fun H locs hP hS => ?_)
    refine lv_aload_n hx hb d_Z_send_93 rfl (lv_at hl 0 rfl) ?_
    refine gf_Z_30 hx hb hts hown hK hP (by decide) a_588 d_Z_send_94 ?_
    refine lv_aload_n hx hb d_Z_send_97 rfl (lv_at hl 0 rfl) ?_
    refine gf_Z_22 hx hb hts hown hK hP (by decide) a_580 d_Z_send_98 ?_
    refine lv_iconst (v := 0) hx hb d_Z_send_101 (by decide) ?_
    obtain ⟨h25, hF⟩ := as_u hF
    obtain ⟨z26, h27, hF⟩ := nm_u hF
    refine s_zi hx hb hK hP 28 151 hD hS ⟨by decide, by decide, by decide⟩ rfl h25 h27 d_Z_send_102 (fun H locs hP hS => ?_)
    refine lv_aload_n hx hb d_Z_send_103 rfl (lv_at hl 0 rfl) ?_
    refine lv_aload_n hx hb d_Z_send_104 rfl (lv_at hl 0 rfl) ?_
    refine gf_Z_22 hx hb hts hown hK hP (by decide) a_580 d_Z_send_105 ?_
    refine lv_iconst (v := 1) hx hb d_Z_send_108 (by decide) ?_
    refine lv_iadd hx hb d_Z_send_109 ?_
    obtain ⟨z28, h29, hF⟩ := nm_u hF
    refine pf_Z_22 hx hb hts hown hK hP hD hS (by decide) h29 a_580 d_Z_send_110 (fun H locs hP hS => ?_)
    have hF := rt1 hF
    subst hF
    exact W.vret hx hb hr (fun t ht hW => ⟨⟨(), rfl, trivial, vp_at ht hP⟩, hS.F ht⟩) hS.2.2 d_Z_send_113
def ws_Z_sendAll : List Cond := Cond.code y_Z_sendAll b_Z_sendAll 4 none :: ALL
theorem w_Z_sendAll {R : Room} {s : State} {args : Array Value} {own : String} {index : Nat} (hts : ∀ w ∈ ALL, w.before args s = true) (hlk : Cond.methodLink own index y_Z_sendAll ∈ ALL) (hR : (({ frames := 1, cells := 0, slots := 0, locals := 26 } : Room)).frames + 1 ≤ R.frames ∧ 8 + (4 + 11) + (({ frames := 1, cells := 0, slots := 0, locals := 26 } : Room)).locals ≤ R.locals) : CallW R s args own R_Z index y_Z_sendAll b_Z_sendAll 4 none ws_Z_sendAll ({ frames := 1, cells := 0, slots := 0, locals := 26 } : Room) 0 0 2 := ⟨callB_of 2 hts (good_c a_744) rfl rfl rfl (hts _ a_8) (hts _ hlk) (by decide +kernel) hR, hts _ a_743, hts _ a_s17⟩
theorem d_Z_sendAll_0 : decode b_Z_sendAll 0 = .ok (.iconst 0, 1) := by decide +kernel
theorem d_Z_sendAll_1 : decode b_Z_sendAll 1 = .ok (.istore_n 3, 1) := by decide +kernel
theorem d_Z_sendAll_2 : decode b_Z_sendAll 2 = .ok (.iload_n 3, 1) := by decide +kernel
theorem d_Z_sendAll_3 : decode b_Z_sendAll 3 = .ok (.bipush 27, 2) := by decide +kernel
theorem d_Z_sendAll_5 : decode b_Z_sendAll 5 = .ok (.if_icmp .ge 71, 3) := by decide +kernel
theorem d_Z_sendAll_8 : decode b_Z_sendAll 8 = .ok (.iload_n 2, 1) := by decide +kernel
theorem d_Z_sendAll_9 : decode b_Z_sendAll 9 = .ok (.iload_n 3, 1) := by decide +kernel
theorem d_Z_sendAll_10 : decode b_Z_sendAll 10 = .ok (.ishr, 1) := by decide +kernel
theorem d_Z_sendAll_11 : decode b_Z_sendAll 11 = .ok (.iconst 1, 1) := by decide +kernel
theorem d_Z_sendAll_12 : decode b_Z_sendAll 12 = .ok (.iand, 1) := by decide +kernel
theorem d_Z_sendAll_13 : decode b_Z_sendAll 13 = .ok (.iconst 1, 1) := by decide +kernel
theorem d_Z_sendAll_14 : decode b_Z_sendAll 14 = .ok (.if_icmp .ne 56, 3) := by decide +kernel
theorem d_Z_sendAll_17 : decode b_Z_sendAll 17 = .ok (.aload_n 0, 1) := by decide +kernel
theorem d_Z_sendAll_18 : decode b_Z_sendAll 18 = .ok (.aload_n 0, 1) := by decide +kernel
theorem d_Z_sendAll_19 : decode b_Z_sendAll 19 = .ok (.getfield 41, 3) := by decide +kernel
theorem d_Z_sendAll_22 : decode b_Z_sendAll 22 = .ok (.iload_n 1, 1) := by decide +kernel
theorem d_Z_sendAll_23 : decode b_Z_sendAll 23 = .ok (.iaload, 1) := by decide +kernel
theorem d_Z_sendAll_24 : decode b_Z_sendAll 24 = .ok (.iconst 1, 1) := by decide +kernel
theorem d_Z_sendAll_25 : decode b_Z_sendAll 25 = .ok (.if_icmp .ne 7, 3) := by decide +kernel
theorem d_Z_sendAll_28 : decode b_Z_sendAll 28 = .ok (.iconst 0, 1) := by decide +kernel
theorem d_Z_sendAll_29 : decode b_Z_sendAll 29 = .ok (.goto 4, 3) := by decide +kernel
theorem d_Z_sendAll_32 : decode b_Z_sendAll 32 = .ok (.iconst 3, 1) := by decide +kernel
theorem d_Z_sendAll_33 : decode b_Z_sendAll 33 = .ok (.iload_n 1, 1) := by decide +kernel
theorem d_Z_sendAll_34 : decode b_Z_sendAll 34 = .ok (.iload_n 3, 1) := by decide +kernel
theorem d_Z_sendAll_35 : decode b_Z_sendAll 35 = .ok (.aload_n 0, 1) := by decide +kernel
theorem d_Z_sendAll_36 : decode b_Z_sendAll 36 = .ok (.getfield 50, 3) := by decide +kernel
theorem d_Z_sendAll_39 : decode b_Z_sendAll 39 = .ok (.iload_n 1, 1) := by decide +kernel
theorem d_Z_sendAll_40 : decode b_Z_sendAll 40 = .ok (.iaload, 1) := by decide +kernel
theorem d_Z_sendAll_41 : decode b_Z_sendAll 41 = .ok (.aload_n 0, 1) := by decide +kernel
theorem d_Z_sendAll_42 : decode b_Z_sendAll 42 = .ok (.getfield 47, 3) := by decide +kernel
theorem d_Z_sendAll_45 : decode b_Z_sendAll 45 = .ok (.iload_n 1, 1) := by decide +kernel
theorem d_Z_sendAll_46 : decode b_Z_sendAll 46 = .ok (.iaload, 1) := by decide +kernel
theorem d_Z_sendAll_47 : decode b_Z_sendAll 47 = .ok (.aload_n 0, 1) := by decide +kernel
theorem d_Z_sendAll_48 : decode b_Z_sendAll 48 = .ok (.getfield 41, 3) := by decide +kernel
theorem d_Z_sendAll_51 : decode b_Z_sendAll 51 = .ok (.iload_n 1, 1) := by decide +kernel
theorem d_Z_sendAll_52 : decode b_Z_sendAll 52 = .ok (.iaload, 1) := by decide +kernel
theorem d_Z_sendAll_53 : decode b_Z_sendAll 53 = .ok (.iconst 1, 1) := by decide +kernel
theorem d_Z_sendAll_54 : decode b_Z_sendAll 54 = .ok (.if_icmp .ne 7, 3) := by decide +kernel
theorem d_Z_sendAll_57 : decode b_Z_sendAll 57 = .ok (.iconst (-1), 1) := by decide +kernel
theorem d_Z_sendAll_58 : decode b_Z_sendAll 58 = .ok (.goto 9, 3) := by decide +kernel
theorem d_Z_sendAll_61 : decode b_Z_sendAll 61 = .ok (.aload_n 0, 1) := by decide +kernel
theorem d_Z_sendAll_62 : decode b_Z_sendAll 62 = .ok (.getfield 62, 3) := by decide +kernel
theorem d_Z_sendAll_65 : decode b_Z_sendAll 65 = .ok (.iload_n 1, 1) := by decide +kernel
theorem d_Z_sendAll_66 : decode b_Z_sendAll 66 = .ok (.iaload, 1) := by decide +kernel
theorem d_Z_sendAll_67 : decode b_Z_sendAll 67 = .ok (.invokevirtual 134, 3) := by decide +kernel
theorem d_Z_sendAll_70 : decode b_Z_sendAll 70 = .ok (.iinc 3 1, 3) := by decide +kernel
theorem d_Z_sendAll_73 : decode b_Z_sendAll 73 = .ok (.goto (-71), 3) := by decide +kernel
theorem d_Z_sendAll_76 : decode b_Z_sendAll 76 = .ok (.return_, 1) := by decide +kernel
def Fj_Z_sendAll_33 (K2 : ZW → Int32 → Int32 → Int32 → Option (ZW)) (z : ZW) (x1 : Int32) (x2 : Int32) (x3 : Int32) (w0 : Int32) : Option (ZW) := (if 0 ≤ x1 ∧ (x1).toNatClampNeg < 27 then (if 0 ≤ x1 ∧ (x1).toNatClampNeg < 27 then (if 0 ≤ x1 ∧ (x1).toNatClampNeg < 27 then (if (z.1 11 (x1).toNatClampNeg) = 1 then (bs_ (F_Z_send z w0 x1 x3 (z.1 14 (x1).toNatClampNeg) (z.1 13 (x1).toNatClampNeg) (-1)) fun z15 => K2 z15 x1 x2 (x3 + 1)) else (if 0 ≤ x1 ∧ (x1).toNatClampNeg < 27 then (bs_ (F_Z_send z w0 x1 x3 (z.1 14 (x1).toNatClampNeg) (z.1 13 (x1).toNatClampNeg) (z.1 18 (x1).toNatClampNeg)) fun z12 => K2 z12 x1 x2 (x3 + 1)) else none)) else none) else none) else none)
def Fl_Z_sendAll_2  : Nat → ZW → Int32 → Int32 → Int32 → Option (ZW)
  | 0, _, _, _, _ => none
  | n + 1, z, x1, x2, x3 => (if 27 ≤ x3 then some z else (if ((x2 >>> (x3 &&& 31)) &&& 1) = 1 then (if 0 ≤ x1 ∧ (x1).toNatClampNeg < 27 then (if (z.1 11 (x1).toNatClampNeg) = 1 then Fj_Z_sendAll_33 (Fl_Z_sendAll_2 n) z x1 x2 x3 0 else Fj_Z_sendAll_33 (Fl_Z_sendAll_2 n) z x1 x2 x3 3) else none) else (Fl_Z_sendAll_2 n) z x1 x2 (x3 + 1)))
def F_Z_sendAll (z : ZW) (a1 : Int32) (a2 : Int32) : Option (ZW) := Fl_Z_sendAll_2  200 z a1 a2 0
set_option maxHeartbeats 4000000 in
set_option maxRecDepth 100000 in
theorem jn_Z_sendAll_33 {p : Program} {l : Launch} {e : Env} {s : State} {m : MethodId} {args : Array Value} {below : List Frame} {meth : Method} {c : Code} {D : va_G} {ad : Nat → Nat → Nat} {ca : Nat → ClassId} {u : XC} (hx : p.tables.exec = Jvm.exec) (hb : c.code = b_Z_sendAll) (hr : meth.sig.returnType = none) (hts : ∀ w ∈ ALL, w.before args s = true) (hown : s.vm.findClass R_Z = some m.cls) (hlocks : meth.locks = false) (hml : c.maxLocals = 4) (hK : va_K D CLS (TYH ca) s) (hD0 : ∀ z u, va_D (AH ad) (wh ad ca z u)) (hD : ∀ z u, va_D (AH ad) (wh ad ca z u)) {K2 : ZW → Int32 → Int32 → Int32 → Option (ZW)} (ihK2 : ∀ (z : ZW) (x1 : Int32) (x2 : Int32) (x3 : Int32)  (z0 : ZW), K2 z x1 x2 x3 = some z0 → ∀ (H : Heap) (locs : List Loc) (ls : Array Slot), va_P D CLS (wh ad ca z u) H → va_S (AH ad) s.heap H locs → lv_has ls 4 [(0, .ref (ad 14 0)), (1, .int x1), (2, .int x2), (3, .int x3)] → W p l e ({ frames := 1, cells := 0, slots := 0, locals := 26 } : Room) s m args below meth c H locs 0 0 (MQ below (va_Qv (fun (_ : Unit) => True) (fun _ t => va_P D CLS (wh ad ca z0 u) t.heap) (AH ad)) args s 0 0 (AH ad)) (F0 m 2 ls [])) : ∀ (z : ZW) (x1 : Int32) (x2 : Int32) (x3 : Int32) (w0 : Int32)  (z0 : ZW), Fj_Z_sendAll_33 K2 z x1 x2 x3 w0 = some z0 → ∀ (H : Heap) (locs : List Loc) (ls : Array Slot), va_P D CLS (wh ad ca z u) H → va_S (AH ad) s.heap H locs → lv_has ls 4 [(0, .ref (ad 14 0)), (1, .int x1), (2, .int x2), (3, .int x3)] → W p l e ({ frames := 1, cells := 0, slots := 0, locals := 26 } : Room) s m args below meth c H locs 0 0 (MQ below (va_Qv (fun (_ : Unit) => True) (fun _ t => va_P D CLS (wh ad ca z0 u) t.heap) (AH ad)) args s 0 0 (AH ad)) (F0 m 33 ls [.int w0, .ref (ad 14 0)]) := by
  intro z x1 x2 x3 w0 z0 hF H locs ls hP hS hl
  unfold Fj_Z_sendAll_33 at hF
  refine lv_iload_n hx hb d_Z_sendAll_33 rfl (lv_at hl 1 rfl) ?_
  refine lv_iload_n hx hb d_Z_sendAll_34 rfl (lv_at hl 3 rfl) ?_
  refine lv_aload_n hx hb d_Z_sendAll_35 rfl (lv_at hl 0 rfl) ?_
  refine gf_Z_15 hx hb hts hown hK hP (by decide) a_573 d_Z_sendAll_36 ?_
  refine lv_iload_n hx hb d_Z_sendAll_39 rfl (lv_at hl 1 rfl) ?_
  obtain ⟨h5, hF⟩ := as_u hF
  refine l_zi hx hb hK hP 14 27 ⟨by decide, by decide, by decide⟩ rfl h5 d_Z_sendAll_40 ?_
  refine lv_aload_n hx hb d_Z_sendAll_41 rfl (lv_at hl 0 rfl) ?_
  refine gf_Z_14 hx hb hts hown hK hP (by decide) a_572 d_Z_sendAll_42 ?_
  refine lv_iload_n hx hb d_Z_sendAll_45 rfl (lv_at hl 1 rfl) ?_
  obtain ⟨h6, hF⟩ := as_u hF
  refine l_zi hx hb hK hP 13 27 ⟨by decide, by decide, by decide⟩ rfl h6 d_Z_sendAll_46 ?_
  refine lv_aload_n hx hb d_Z_sendAll_47 rfl (lv_at hl 0 rfl) ?_
  refine gf_Z_12 hx hb hts hown hK hP (by decide) a_570 d_Z_sendAll_48 ?_
  refine lv_iload_n hx hb d_Z_sendAll_51 rfl (lv_at hl 1 rfl) ?_
  obtain ⟨h7, hF⟩ := as_u hF
  refine l_zi hx hb hK hP 11 27 ⟨by decide, by decide, by decide⟩ rfl h7 d_Z_sendAll_52 ?_
  refine lv_iconst (v := 1) hx hb d_Z_sendAll_53 (by decide) ?_
  refine lv_icmp_ne (tgt := 61) hx hb d_Z_sendAll_54 (by decide) (fun h8 => ?_) (fun h8 => ?_)
  · have hF := it_f hF h8
    refine lv_aload_n hx hb d_Z_sendAll_61 rfl (lv_at hl 0 rfl) ?_
    refine gf_Z_19 hx hb hts hown hK hP (by decide) a_577 d_Z_sendAll_62 ?_
    refine lv_iload_n hx hb d_Z_sendAll_65 rfl (lv_at hl 1 rfl) ?_
    obtain ⟨h9, hF⟩ := as_u hF
    refine l_zi hx hb hK hP 18 27 ⟨by decide, by decide, by decide⟩ rfl h9 d_Z_sendAll_66 ?_
    obtain ⟨z12, h11, hF⟩ := bs_u hF
    refine k_vv (ad 14 0) [.int w0, .int x1, .int x3, .int (z.1 14 (x1).toNatClampNeg), .int (z.1 13 (x1).toNatClampNeg), .int (z.1 18 (x1).toNatClampNeg)] [] ⟨hx, hb, hml, hown, hts⟩ (c_Z_send l D ad ca hD0 (z := z) (u := u)  h11) (w_Z_send hts a_745 ⟨Nat.le_of_ble_eq_true rfl, Nat.le_of_ble_eq_true rfl⟩) (rv_Z hK hP (by decide)) hP hK hS (fun _ h => h) rfl rfl hl.1 (Nat.le_of_ble_eq_true rfl) ⟨Nat.zero_le _, Nat.zero_le _⟩ d_Z_sendAll_67 (fun H locs hP hS => ?_)
    refine lv_iinc (k := 3) (v := (x3 + 1)) (lv' := [(3, .int (x3 + 1)), (0, .ref (ad 14 0)), (1, .int x1), (2, .int x2)]) hx hb d_Z_sendAll_70 hl rfl rfl (by decide) rfl (fun ls hl => ?_)
    refine lv_goto (tgt := 2) hx hb d_Z_sendAll_73 (by decide) ?_
    exact ihK2 z12 x1 x2 (x3 + 1)  z0 hF _ _ _ hP hS (lv_sub hl [1, 2, 3, 0] rfl)
  · have hF := it_t hF h8
    refine lv_iconst (v := (-1)) hx hb d_Z_sendAll_57 (by decide) ?_
    refine lv_goto (tgt := 67) hx hb d_Z_sendAll_58 (by decide) ?_
    obtain ⟨z15, h14, hF⟩ := bs_u hF
    refine k_vv (ad 14 0) [.int w0, .int x1, .int x3, .int (z.1 14 (x1).toNatClampNeg), .int (z.1 13 (x1).toNatClampNeg), .int (-1)] [] ⟨hx, hb, hml, hown, hts⟩ (c_Z_send l D ad ca hD0 (z := z) (u := u)  h14) (w_Z_send hts a_745 ⟨Nat.le_of_ble_eq_true rfl, Nat.le_of_ble_eq_true rfl⟩) (rv_Z hK hP (by decide)) hP hK hS (fun _ h => h) rfl rfl hl.1 (Nat.le_of_ble_eq_true rfl) ⟨Nat.zero_le _, Nat.zero_le _⟩ d_Z_sendAll_67 (fun H locs hP hS => ?_)
    refine lv_iinc (k := 3) (v := (x3 + 1)) (lv' := [(3, .int (x3 + 1)), (0, .ref (ad 14 0)), (1, .int x1), (2, .int x2)]) hx hb d_Z_sendAll_70 hl rfl rfl (by decide) rfl (fun ls hl => ?_)
    refine lv_goto (tgt := 2) hx hb d_Z_sendAll_73 (by decide) ?_
    exact ihK2 z15 x1 x2 (x3 + 1)  z0 hF _ _ _ hP hS (lv_sub hl [1, 2, 3, 0] rfl)
set_option maxHeartbeats 4000000 in
set_option maxRecDepth 100000 in
theorem lp_Z_sendAll_2 {p : Program} {l : Launch} {e : Env} {s : State} {m : MethodId} {args : Array Value} {below : List Frame} {meth : Method} {c : Code} {D : va_G} {ad : Nat → Nat → Nat} {ca : Nat → ClassId} {u : XC} (hx : p.tables.exec = Jvm.exec) (hb : c.code = b_Z_sendAll) (hr : meth.sig.returnType = none) (hts : ∀ w ∈ ALL, w.before args s = true) (hown : s.vm.findClass R_Z = some m.cls) (hlocks : meth.locks = false) (hml : c.maxLocals = 4) (hK : va_K D CLS (TYH ca) s) (hD0 : ∀ z u, va_D (AH ad) (wh ad ca z u)) (hD : ∀ z u, va_D (AH ad) (wh ad ca z u))  : ∀ (n : Nat), ∀ (z : ZW) (x1 : Int32) (x2 : Int32) (x3 : Int32)  (z0 : ZW), Fl_Z_sendAll_2  n z x1 x2 x3 = some z0 → ∀ (H : Heap) (locs : List Loc) (ls : Array Slot), va_P D CLS (wh ad ca z u) H → va_S (AH ad) s.heap H locs → lv_has ls 4 [(0, .ref (ad 14 0)), (1, .int x1), (2, .int x2), (3, .int x3)] → W p l e ({ frames := 1, cells := 0, slots := 0, locals := 26 } : Room) s m args below meth c H locs 0 0 (MQ below (va_Qv (fun (_ : Unit) => True) (fun _ t => va_P D CLS (wh ad ca z0 u) t.heap) (AH ad)) args s 0 0 (AH ad)) (F0 m 2 ls []) := by
  intro n
  induction n with
  | zero => intro z x1 x2 x3 z0 hF; rw [Fl_Z_sendAll_2] at hF; cases hF
  | succ n ih =>
    intro z x1 x2 x3 z0 hF H locs ls hP hS hl
    rw [Fl_Z_sendAll_2] at hF
    refine lv_iload_n hx hb d_Z_sendAll_2 rfl (lv_at hl 3 rfl) ?_
    refine lv_bipush (v := 27) hx hb d_Z_sendAll_3 (by decide) ?_
    refine lv_icmp_ge (tgt := 76) hx hb d_Z_sendAll_5 (by decide) (fun h1 => ?_) (fun h1 => ?_)
    · have hF := it_t hF h1
      have hF := rt1 hF
      subst hF
      exact W.vret hx hb hr (fun t ht hW => ⟨⟨(), rfl, trivial, vp_at ht hP⟩, hS.F ht⟩) hS.2.2 d_Z_sendAll_76
    · have hF := it_f hF h1
      refine lv_iload_n hx hb d_Z_sendAll_8 rfl (lv_at hl 2 rfl) ?_
      refine lv_iload_n hx hb d_Z_sendAll_9 rfl (lv_at hl 3 rfl) ?_
      refine lv_ishr hx hb d_Z_sendAll_10 ?_
      refine lv_iconst (v := 1) hx hb d_Z_sendAll_11 (by decide) ?_
      refine lv_iand hx hb d_Z_sendAll_12 ?_
      refine lv_iconst (v := 1) hx hb d_Z_sendAll_13 (by decide) ?_
      refine lv_icmp_ne (tgt := 70) hx hb d_Z_sendAll_14 (by decide) (fun h2 => ?_) (fun h2 => ?_)
      · have hF := it_f hF h2
        refine lv_iinc (k := 3) (v := (x3 + 1)) (lv' := [(3, .int (x3 + 1)), (0, .ref (ad 14 0)), (1, .int x1), (2, .int x2)]) hx hb d_Z_sendAll_70 hl rfl rfl (by decide) rfl (fun ls hl => ?_)
        refine lv_goto (tgt := 2) hx hb d_Z_sendAll_73 (by decide) ?_
        exact ih z x1 x2 (x3 + 1)  z0 hF _ _ _ hP hS (lv_sub hl [1, 2, 3, 0] rfl)
      · have hF := it_t hF h2
        refine lv_aload_n hx hb d_Z_sendAll_17 rfl (lv_at hl 0 rfl) ?_
        refine lv_aload_n hx hb d_Z_sendAll_18 rfl (lv_at hl 0 rfl) ?_
        refine gf_Z_12 hx hb hts hown hK hP (by decide) a_570 d_Z_sendAll_19 ?_
        refine lv_iload_n hx hb d_Z_sendAll_22 rfl (lv_at hl 1 rfl) ?_
        obtain ⟨h3, hF⟩ := as_u hF
        refine l_zi hx hb hK hP 11 27 ⟨by decide, by decide, by decide⟩ rfl h3 d_Z_sendAll_23 ?_
        refine lv_iconst (v := 1) hx hb d_Z_sendAll_24 (by decide) ?_
        refine lv_icmp_ne (tgt := 32) hx hb d_Z_sendAll_25 (by decide) (fun h4 => ?_) (fun h4 => ?_)
        · have hF := it_f hF h4
          refine lv_iconst (v := 3) hx hb d_Z_sendAll_32 (by decide) ?_
          exact jn_Z_sendAll_33 hx hb hr hts hown hlocks hml hK hD0 hD ih z x1 x2 x3 3  z0 hF _ _ _ hP hS (lv_sub hl [0, 1, 2, 3] rfl)
        · have hF := it_t hF h4
          refine lv_iconst (v := 0) hx hb d_Z_sendAll_28 (by decide) ?_
          refine lv_goto (tgt := 33) hx hb d_Z_sendAll_29 (by decide) ?_
          exact jn_Z_sendAll_33 hx hb hr hts hown hlocks hml hK hD0 hD ih z x1 x2 x3 0  z0 hF _ _ _ hP hS (lv_sub hl [0, 1, 2, 3] rfl)
set_option maxHeartbeats 4000000 in
set_option maxRecDepth 100000 in
theorem c_Z_sendAll (l : Launch) (D : va_G) (ad : Nat → Nat → Nat) (ca : Nat → ClassId) (hD0 : ∀ z u, va_D (AH ad) (wh ad ca z u)) {z : ZW} {u : XC} {a1 : Int32} {a2 : Int32} {z0 : ZW}  (hF : F_Z_sendAll z a1 a2 = some z0) : Met l y_Z_sendAll ws_Z_sendAll ({ frames := 1, cells := 0, slots := 0, locals := 26 } : Room) (va_Pc [.ref (ad 14 0), .int a1, .int a2] (fun U => va_P D CLS (wh ad ca z u) U.heap ∧ va_K D CLS (TYH ca) U)) (va_Qv (fun (_ : Unit) => True) (fun _ t => va_P D CLS (wh ad ca z0 u) t.heap) (AH ad)) 0 0 (AH ad) := by
  refine Met.ofW (cc := b_Z_sendAll) (maxL := 4) (ret := none) (by decide +kernel) rfl ?_
  intro p e s m args below meth c s₁ B hml hv
  obtain ⟨rfl, hP, hK⟩ := hv
  have hx := B.exec
  have hb := B.bytes
  have hr := B.returns
  have hts : ∀ w ∈ ALL, w.before _ s = true := fun w h => atoms_spec (ws := ws_Z_sendAll) B.pre w (List.mem_cons_of_mem _ h)
  have hown : s.vm.findClass R_Z = some m.cls := findClass_of_methodNamed B.named
  have hlocks := B.notSynchronized
  have hD := hD0
  have hS : va_S (AH ad) s.heap s.heap [] := va_S.rf
  have hP : va_P D CLS (wh ad ca z u) s.heap := hP
  have hl := lv_entry ([.ref (ad 14 0), .int a1, .int a2]) (n := 4) (Nat.le_of_ble_eq_true rfl)
  rw [lg_entry_eq]
  generalize (lg_sl ([.ref (ad 14 0), .int a1, .int a2]) ++ List.replicate (4 - (lg_sl ([.ref (ad 14 0), .int a1, .int a2])).length) Slot.unset).toArray = ls at hl ⊢
  have hl : lv_has ls 4 [(0, .ref (ad 14 0)), (1, .int a1), (2, .int a2)] := hl
  unfold F_Z_sendAll at hF
  refine lv_iconst (v := 0) hx hb d_Z_sendAll_0 (by decide) ?_
  refine lv_istore_n (lv' := [(3, .int 0), (0, .ref (ad 14 0)), (1, .int a1), (2, .int a2)]) hx hb d_Z_sendAll_1 rfl hl (by decide) rfl (fun ls hl => ?_)
  exact lp_Z_sendAll_2 hx hb hr hts hown hlocks hml hK hD0 hD  200 z a1 a2 0  z0 hF _ _ _ hP hS (lv_sub hl [1, 2, 3, 0] rfl)
def ws_Z_begin : List Cond := Cond.code y_Z_begin b_Z_begin 5 none :: ALL
theorem w_Z_begin {R : Room} {s : State} {args : Array Value} {own : String} {index : Nat} (hts : ∀ w ∈ ALL, w.before args s = true) (hlk : Cond.methodLink own index y_Z_begin ∈ ALL) (hR : (({ frames := 4, cells := 0, slots := 0, locals := 101 } : Room)).frames + 1 ≤ R.frames ∧ 8 + (5 + 11) + (({ frames := 4, cells := 0, slots := 0, locals := 101 } : Room)).locals ≤ R.locals) : CallW R s args own R_Z index y_Z_begin b_Z_begin 5 none ws_Z_begin ({ frames := 4, cells := 0, slots := 0, locals := 101 } : Room) 0 0 2 := ⟨callB_of 2 hts (good_c a_737) rfl rfl rfl (hts _ a_8) (hts _ hlk) (by decide +kernel) hR, hts _ a_736, hts _ a_s16⟩
theorem d_Z_begin_0 : decode b_Z_begin 0 = .ok (.aload_n 0, 1) := by decide +kernel
theorem d_Z_begin_1 : decode b_Z_begin 1 = .ok (.iload_n 1, 1) := by decide +kernel
theorem d_Z_begin_2 : decode b_Z_begin 2 = .ok (.invokevirtual 149, 3) := by decide +kernel
theorem d_Z_begin_5 : decode b_Z_begin 5 = .ok (.istore_n 3, 1) := by decide +kernel
theorem d_Z_begin_6 : decode b_Z_begin 6 = .ok (.iload_n 3, 1) := by decide +kernel
theorem d_Z_begin_7 : decode b_Z_begin 7 = .ok (.bipush 6, 2) := by decide +kernel
theorem d_Z_begin_9 : decode b_Z_begin 9 = .ok (.if_icmp .ne 11, 3) := by decide +kernel
theorem d_Z_begin_12 : decode b_Z_begin 12 = .ok (.aload_n 0, 1) := by decide +kernel
theorem d_Z_begin_13 : decode b_Z_begin 13 = .ok (.getfield 41, 3) := by decide +kernel
theorem d_Z_begin_16 : decode b_Z_begin 16 = .ok (.iload_n 1, 1) := by decide +kernel
theorem d_Z_begin_17 : decode b_Z_begin 17 = .ok (.iconst 0, 1) := by decide +kernel
theorem d_Z_begin_18 : decode b_Z_begin 18 = .ok (.iastore, 1) := by decide +kernel
theorem d_Z_begin_19 : decode b_Z_begin 19 = .ok (.return_, 1) := by decide +kernel
theorem d_Z_begin_20 : decode b_Z_begin 20 = .ok (.aload_n 0, 1) := by decide +kernel
theorem d_Z_begin_21 : decode b_Z_begin 21 = .ok (.getfield 29, 3) := by decide +kernel
theorem d_Z_begin_24 : decode b_Z_begin 24 = .ok (.iload_n 1, 1) := by decide +kernel
theorem d_Z_begin_25 : decode b_Z_begin 25 = .ok (.iaload, 1) := by decide +kernel
theorem d_Z_begin_26 : decode b_Z_begin 26 = .ok (.bipush 27, 2) := by decide +kernel
theorem d_Z_begin_28 : decode b_Z_begin 28 = .ok (.idiv, 1) := by decide +kernel
theorem d_Z_begin_29 : decode b_Z_begin 29 = .ok (.istore 4, 2) := by decide +kernel
theorem d_Z_begin_31 : decode b_Z_begin 31 = .ok (.iload_n 2, 1) := by decide +kernel
theorem d_Z_begin_32 : decode b_Z_begin 32 = .ok (.bipush 27, 2) := by decide +kernel
theorem d_Z_begin_34 : decode b_Z_begin 34 = .ok (.idiv, 1) := by decide +kernel
theorem d_Z_begin_35 : decode b_Z_begin 35 = .ok (.iload 4, 2) := by decide +kernel
theorem d_Z_begin_37 : decode b_Z_begin 37 = .ok (.if_icmp .le 10, 3) := by decide +kernel
theorem d_Z_begin_40 : decode b_Z_begin 40 = .ok (.iload_n 2, 1) := by decide +kernel
theorem d_Z_begin_41 : decode b_Z_begin 41 = .ok (.bipush 27, 2) := by decide +kernel
theorem d_Z_begin_43 : decode b_Z_begin 43 = .ok (.idiv, 1) := by decide +kernel
theorem d_Z_begin_44 : decode b_Z_begin 44 = .ok (.goto 5, 3) := by decide +kernel
theorem d_Z_begin_47 : decode b_Z_begin 47 = .ok (.iload 4, 2) := by decide +kernel
theorem d_Z_begin_49 : decode b_Z_begin 49 = .ok (.istore 4, 2) := by decide +kernel
theorem d_Z_begin_51 : decode b_Z_begin 51 = .ok (.aload_n 0, 1) := by decide +kernel
theorem d_Z_begin_52 : decode b_Z_begin 52 = .ok (.getfield 47, 3) := by decide +kernel
theorem d_Z_begin_55 : decode b_Z_begin 55 = .ok (.iload_n 1, 1) := by decide +kernel
theorem d_Z_begin_56 : decode b_Z_begin 56 = .ok (.iload_n 3, 1) := by decide +kernel
theorem d_Z_begin_57 : decode b_Z_begin 57 = .ok (.iastore, 1) := by decide +kernel
theorem d_Z_begin_58 : decode b_Z_begin 58 = .ok (.aload_n 0, 1) := by decide +kernel
theorem d_Z_begin_59 : decode b_Z_begin 59 = .ok (.getfield 50, 3) := by decide +kernel
theorem d_Z_begin_62 : decode b_Z_begin 62 = .ok (.iload_n 1, 1) := by decide +kernel
theorem d_Z_begin_63 : decode b_Z_begin 63 = .ok (.bipush 27, 2) := by decide +kernel
theorem d_Z_begin_65 : decode b_Z_begin 65 = .ok (.iload 4, 2) := by decide +kernel
theorem d_Z_begin_67 : decode b_Z_begin 67 = .ok (.iconst 1, 1) := by decide +kernel
theorem d_Z_begin_68 : decode b_Z_begin 68 = .ok (.iadd, 1) := by decide +kernel
theorem d_Z_begin_69 : decode b_Z_begin 69 = .ok (.imul, 1) := by decide +kernel
theorem d_Z_begin_70 : decode b_Z_begin 70 = .ok (.iload_n 1, 1) := by decide +kernel
theorem d_Z_begin_71 : decode b_Z_begin 71 = .ok (.iadd, 1) := by decide +kernel
theorem d_Z_begin_72 : decode b_Z_begin 72 = .ok (.iastore, 1) := by decide +kernel
theorem d_Z_begin_73 : decode b_Z_begin 73 = .ok (.aload_n 0, 1) := by decide +kernel
theorem d_Z_begin_74 : decode b_Z_begin 74 = .ok (.getfield 29, 3) := by decide +kernel
theorem d_Z_begin_77 : decode b_Z_begin 77 = .ok (.iload_n 1, 1) := by decide +kernel
theorem d_Z_begin_78 : decode b_Z_begin 78 = .ok (.aload_n 0, 1) := by decide +kernel
theorem d_Z_begin_79 : decode b_Z_begin 79 = .ok (.getfield 50, 3) := by decide +kernel
theorem d_Z_begin_82 : decode b_Z_begin 82 = .ok (.iload_n 1, 1) := by decide +kernel
theorem d_Z_begin_83 : decode b_Z_begin 83 = .ok (.iaload, 1) := by decide +kernel
theorem d_Z_begin_84 : decode b_Z_begin 84 = .ok (.iastore, 1) := by decide +kernel
theorem d_Z_begin_85 : decode b_Z_begin 85 = .ok (.aload_n 0, 1) := by decide +kernel
theorem d_Z_begin_86 : decode b_Z_begin 86 = .ok (.getfield 41, 3) := by decide +kernel
theorem d_Z_begin_89 : decode b_Z_begin 89 = .ok (.iload_n 1, 1) := by decide +kernel
theorem d_Z_begin_90 : decode b_Z_begin 90 = .ok (.iconst 1, 1) := by decide +kernel
theorem d_Z_begin_91 : decode b_Z_begin 91 = .ok (.iastore, 1) := by decide +kernel
theorem d_Z_begin_92 : decode b_Z_begin 92 = .ok (.aload_n 0, 1) := by decide +kernel
theorem d_Z_begin_93 : decode b_Z_begin 93 = .ok (.getfield 53, 3) := by decide +kernel
theorem d_Z_begin_96 : decode b_Z_begin 96 = .ok (.iload_n 1, 1) := by decide +kernel
theorem d_Z_begin_97 : decode b_Z_begin 97 = .ok (.iload_n 1, 1) := by decide +kernel
theorem d_Z_begin_98 : decode b_Z_begin 98 = .ok (.aload_n 0, 1) := by decide +kernel
theorem d_Z_begin_99 : decode b_Z_begin 99 = .ok (.getfield 59, 3) := by decide +kernel
theorem d_Z_begin_102 : decode b_Z_begin 102 = .ok (.iload_n 1, 1) := by decide +kernel
theorem d_Z_begin_103 : decode b_Z_begin 103 = .ok (.iaload, 1) := by decide +kernel
theorem d_Z_begin_104 : decode b_Z_begin 104 = .ok (.invokestatic 153, 3) := by decide +kernel
theorem d_Z_begin_107 : decode b_Z_begin 107 = .ok (.iastore, 1) := by decide +kernel
theorem d_Z_begin_108 : decode b_Z_begin 108 = .ok (.aload_n 0, 1) := by decide +kernel
theorem d_Z_begin_109 : decode b_Z_begin 109 = .ok (.getfield 56, 3) := by decide +kernel
theorem d_Z_begin_112 : decode b_Z_begin 112 = .ok (.iload_n 1, 1) := by decide +kernel
theorem d_Z_begin_113 : decode b_Z_begin 113 = .ok (.iconst 0, 1) := by decide +kernel
theorem d_Z_begin_114 : decode b_Z_begin 114 = .ok (.iastore, 1) := by decide +kernel
theorem d_Z_begin_115 : decode b_Z_begin 115 = .ok (.aload_n 0, 1) := by decide +kernel
theorem d_Z_begin_116 : decode b_Z_begin 116 = .ok (.getfield 65, 3) := by decide +kernel
theorem d_Z_begin_119 : decode b_Z_begin 119 = .ok (.iload_n 1, 1) := by decide +kernel
theorem d_Z_begin_120 : decode b_Z_begin 120 = .ok (.iconst 0, 1) := by decide +kernel
theorem d_Z_begin_121 : decode b_Z_begin 121 = .ok (.iastore, 1) := by decide +kernel
theorem d_Z_begin_122 : decode b_Z_begin 122 = .ok (.aload_n 0, 1) := by decide +kernel
theorem d_Z_begin_123 : decode b_Z_begin 123 = .ok (.iload_n 1, 1) := by decide +kernel
theorem d_Z_begin_124 : decode b_Z_begin 124 = .ok (.aload_n 0, 1) := by decide +kernel
theorem d_Z_begin_125 : decode b_Z_begin 125 = .ok (.getfield 53, 3) := by decide +kernel
theorem d_Z_begin_128 : decode b_Z_begin 128 = .ok (.iload_n 1, 1) := by decide +kernel
theorem d_Z_begin_129 : decode b_Z_begin 129 = .ok (.iaload, 1) := by decide +kernel
theorem d_Z_begin_130 : decode b_Z_begin 130 = .ok (.invokevirtual 156, 3) := by decide +kernel
theorem d_Z_begin_133 : decode b_Z_begin 133 = .ok (.return_, 1) := by decide +kernel
def Fj_Z_begin_49  (z : ZW) (x1 : Int32) (x3 : Int32) (w0 : Int32) : Option (ZW) := (if 0 ≤ x1 ∧ (x1).toNatClampNeg < 27 then (nm_ (pz z 13 (x1).toNatClampNeg x3) fun z7 => (if 0 ≤ x1 ∧ (x1).toNatClampNeg < 27 then (nm_ (pz z7 14 (x1).toNatClampNeg ((27 * (w0 + 1)) + x1)) fun z10 => (if 0 ≤ x1 ∧ (x1).toNatClampNeg < 27 then (if 0 ≤ x1 ∧ (x1).toNatClampNeg < 27 then (nm_ (pz z10 7 (x1).toNatClampNeg (z10.1 14 (x1).toNatClampNeg)) fun z14 => (if 0 ≤ x1 ∧ (x1).toNatClampNeg < 27 then (nm_ (pz z14 11 (x1).toNatClampNeg 1) fun z17 => (if 0 ≤ x1 ∧ (x1).toNatClampNeg < 27 then (bs_ (F_Z_choice x1 (z17.1 17 (x1).toNatClampNeg)) fun r20 => (if 0 ≤ x1 ∧ (x1).toNatClampNeg < 27 then (nm_ (pz z17 15 (x1).toNatClampNeg r20) fun z23 => (if 0 ≤ x1 ∧ (x1).toNatClampNeg < 27 then (nm_ (pz z23 16 (x1).toNatClampNeg 0) fun z26 => (if 0 ≤ x1 ∧ (x1).toNatClampNeg < 27 then (nm_ (pz z26 19 (x1).toNatClampNeg 0) fun z29 => (if 0 ≤ x1 ∧ (x1).toNatClampNeg < 27 then (bs_ (F_Z_sendAll z29 x1 (z29.1 15 (x1).toNatClampNeg)) fun z34 => some z34) else none)) else none)) else none)) else none)) else none)) else none)) else none) else none)) else none)) else none)
def F_Z_begin (z : ZW) (a1 : Int32) (a2 : Int32) : Option (ZW) := (bs_ (F_Z_open z a1) fun r1 => (if r1 = 6 then (if 0 ≤ a1 ∧ (a1).toNatClampNeg < 27 then (nm_ (pz z 11 (a1).toNatClampNeg 0) fun z36 => some z36) else none) else (if 0 ≤ a1 ∧ (a1).toNatClampNeg < 27 then (if (a2 / 27) ≤ ((z.1 7 (a1).toNatClampNeg) / 27) then Fj_Z_begin_49  z a1 r1 ((z.1 7 (a1).toNatClampNeg) / 27) else Fj_Z_begin_49  z a1 r1 (a2 / 27)) else none)))
set_option maxHeartbeats 4000000 in
set_option maxRecDepth 100000 in
theorem jn_Z_begin_49 {p : Program} {l : Launch} {e : Env} {s : State} {m : MethodId} {args : Array Value} {below : List Frame} {meth : Method} {c : Code} {D : va_G} {ad : Nat → Nat → Nat} {ca : Nat → ClassId} {u : XC} (hx : p.tables.exec = Jvm.exec) (hb : c.code = b_Z_begin) (hr : meth.sig.returnType = none) (hts : ∀ w ∈ ALL, w.before args s = true) (hown : s.vm.findClass R_Z = some m.cls) (hlocks : meth.locks = false) (hml : c.maxLocals = 5) (hK : va_K D CLS (TYH ca) s) (hD0 : ∀ z u, va_D (AH ad) (wh ad ca z u)) (hD : ∀ z u, va_D (AH ad) (wh ad ca z u))  : ∀ (z : ZW) (x1 : Int32) (x3 : Int32) (w0 : Int32)  (z0 : ZW), Fj_Z_begin_49  z x1 x3 w0 = some z0 → ∀ (H : Heap) (locs : List Loc) (ls : Array Slot), va_P D CLS (wh ad ca z u) H → va_S (AH ad) s.heap H locs → lv_has ls 5 [(0, .ref (ad 14 0)), (1, .int x1), (3, .int x3)] → W p l e ({ frames := 4, cells := 0, slots := 0, locals := 101 } : Room) s m args below meth c H locs 0 0 (MQ below (va_Qv (fun (_ : Unit) => True) (fun _ t => va_P D CLS (wh ad ca z0 u) t.heap) (AH ad)) args s 0 0 (AH ad)) (F0 m 49 ls [.int w0]) := by
  intro z x1 x3 w0 z0 hF H locs ls hP hS hl
  unfold Fj_Z_begin_49 at hF
  refine lv_istore (lv' := [(4, .int w0), (0, .ref (ad 14 0)), (1, .int x1), (3, .int x3)]) hx hb d_Z_begin_49 hl (by decide) rfl (fun ls hl => ?_)
  refine lv_aload_n hx hb d_Z_begin_51 rfl (lv_at hl 1 rfl) ?_
  refine gf_Z_14 hx hb hts hown hK hP (by decide) a_572 d_Z_begin_52 ?_
  refine lv_iload_n hx hb d_Z_begin_55 rfl (lv_at hl 2 rfl) ?_
  refine lv_iload_n hx hb d_Z_begin_56 rfl (lv_at hl 3 rfl) ?_
  obtain ⟨h6, hF⟩ := as_u hF
  obtain ⟨z7, h8, hF⟩ := nm_u hF
  refine s_zi hx hb hK hP 13 27 hD hS ⟨by decide, by decide, by decide⟩ rfl h6 h8 d_Z_begin_57 (fun H locs hP hS => ?_)
  refine lv_aload_n hx hb d_Z_begin_58 rfl (lv_at hl 1 rfl) ?_
  refine gf_Z_15 hx hb hts hown hK hP (by decide) a_573 d_Z_begin_59 ?_
  refine lv_iload_n hx hb d_Z_begin_62 rfl (lv_at hl 2 rfl) ?_
  refine lv_bipush (v := 27) hx hb d_Z_begin_63 (by decide) ?_
  refine lv_iload hx hb d_Z_begin_65 (lv_at hl 0 rfl) ?_
  refine lv_iconst (v := 1) hx hb d_Z_begin_67 (by decide) ?_
  refine lv_iadd hx hb d_Z_begin_68 ?_
  refine lv_imul hx hb d_Z_begin_69 ?_
  refine lv_iload_n hx hb d_Z_begin_70 rfl (lv_at hl 2 rfl) ?_
  refine lv_iadd hx hb d_Z_begin_71 ?_
  obtain ⟨h9, hF⟩ := as_u hF
  obtain ⟨z10, h11, hF⟩ := nm_u hF
  refine s_zi hx hb hK hP 14 27 hD hS ⟨by decide, by decide, by decide⟩ rfl h9 h11 d_Z_begin_72 (fun H locs hP hS => ?_)
  refine lv_aload_n hx hb d_Z_begin_73 rfl (lv_at hl 1 rfl) ?_
  refine gf_Z_8 hx hb hts hown hK hP (by decide) a_566 d_Z_begin_74 ?_
  refine lv_iload_n hx hb d_Z_begin_77 rfl (lv_at hl 2 rfl) ?_
  refine lv_aload_n hx hb d_Z_begin_78 rfl (lv_at hl 1 rfl) ?_
  refine gf_Z_15 hx hb hts hown hK hP (by decide) a_573 d_Z_begin_79 ?_
  refine lv_iload_n hx hb d_Z_begin_82 rfl (lv_at hl 2 rfl) ?_
  obtain ⟨h12, hF⟩ := as_u hF
  refine l_zi hx hb hK hP 14 27 ⟨by decide, by decide, by decide⟩ rfl h12 d_Z_begin_83 ?_
  obtain ⟨h13, hF⟩ := as_u hF
  obtain ⟨z14, h15, hF⟩ := nm_u hF
  refine s_zi hx hb hK hP 7 27 hD hS ⟨by decide, by decide, by decide⟩ rfl h13 h15 d_Z_begin_84 (fun H locs hP hS => ?_)
  refine lv_aload_n hx hb d_Z_begin_85 rfl (lv_at hl 1 rfl) ?_
  refine gf_Z_12 hx hb hts hown hK hP (by decide) a_570 d_Z_begin_86 ?_
  refine lv_iload_n hx hb d_Z_begin_89 rfl (lv_at hl 2 rfl) ?_
  refine lv_iconst (v := 1) hx hb d_Z_begin_90 (by decide) ?_
  obtain ⟨h16, hF⟩ := as_u hF
  obtain ⟨z17, h18, hF⟩ := nm_u hF
  refine s_zi hx hb hK hP 11 27 hD hS ⟨by decide, by decide, by decide⟩ rfl h16 h18 d_Z_begin_91 (fun H locs hP hS => ?_)
  refine lv_aload_n hx hb d_Z_begin_92 rfl (lv_at hl 1 rfl) ?_
  refine gf_Z_16 hx hb hts hown hK hP (by decide) a_574 d_Z_begin_93 ?_
  refine lv_iload_n hx hb d_Z_begin_96 rfl (lv_at hl 2 rfl) ?_
  refine lv_iload_n hx hb d_Z_begin_97 rfl (lv_at hl 2 rfl) ?_
  refine lv_aload_n hx hb d_Z_begin_98 rfl (lv_at hl 1 rfl) ?_
  refine gf_Z_18 hx hb hts hown hK hP (by decide) a_576 d_Z_begin_99 ?_
  refine lv_iload_n hx hb d_Z_begin_102 rfl (lv_at hl 2 rfl) ?_
  obtain ⟨h19, hF⟩ := as_u hF
  refine l_zi hx hb hK hP 17 27 ⟨by decide, by decide, by decide⟩ rfl h19 d_Z_begin_103 ?_
  obtain ⟨r20, h21, hF⟩ := bs_u hF
  refine k_sp [.int x1, .int (z17.1 17 (x1).toNatClampNeg)] [.int x1, .ref (ad 29 0)] ⟨hx, hb, hml, hown, hts⟩ (c_Z_choice l  h21) (w_Z_choice hts a_738 ⟨Nat.le_of_ble_eq_true rfl, Nat.le_of_ble_eq_true rfl⟩) rfl rfl hl.1 (Nat.le_of_ble_eq_true rfl) ⟨Nat.zero_le _, Nat.zero_le _⟩ d_Z_begin_104 ?_
  obtain ⟨h22, hF⟩ := as_u hF
  obtain ⟨z23, h24, hF⟩ := nm_u hF
  refine s_zi hx hb hK hP 15 27 hD hS ⟨by decide, by decide, by decide⟩ rfl h22 h24 d_Z_begin_107 (fun H locs hP hS => ?_)
  refine lv_aload_n hx hb d_Z_begin_108 rfl (lv_at hl 1 rfl) ?_
  refine gf_Z_17 hx hb hts hown hK hP (by decide) a_575 d_Z_begin_109 ?_
  refine lv_iload_n hx hb d_Z_begin_112 rfl (lv_at hl 2 rfl) ?_
  refine lv_iconst (v := 0) hx hb d_Z_begin_113 (by decide) ?_
  obtain ⟨h25, hF⟩ := as_u hF
  obtain ⟨z26, h27, hF⟩ := nm_u hF
  refine s_zi hx hb hK hP 16 27 hD hS ⟨by decide, by decide, by decide⟩ rfl h25 h27 d_Z_begin_114 (fun H locs hP hS => ?_)
  refine lv_aload_n hx hb d_Z_begin_115 rfl (lv_at hl 1 rfl) ?_
  refine gf_Z_20 hx hb hts hown hK hP (by decide) a_578 d_Z_begin_116 ?_
  refine lv_iload_n hx hb d_Z_begin_119 rfl (lv_at hl 2 rfl) ?_
  refine lv_iconst (v := 0) hx hb d_Z_begin_120 (by decide) ?_
  obtain ⟨h28, hF⟩ := as_u hF
  obtain ⟨z29, h30, hF⟩ := nm_u hF
  refine s_zi hx hb hK hP 19 27 hD hS ⟨by decide, by decide, by decide⟩ rfl h28 h30 d_Z_begin_121 (fun H locs hP hS => ?_)
  refine lv_aload_n hx hb d_Z_begin_122 rfl (lv_at hl 1 rfl) ?_
  refine lv_iload_n hx hb d_Z_begin_123 rfl (lv_at hl 2 rfl) ?_
  refine lv_aload_n hx hb d_Z_begin_124 rfl (lv_at hl 1 rfl) ?_
  refine gf_Z_16 hx hb hts hown hK hP (by decide) a_574 d_Z_begin_125 ?_
  refine lv_iload_n hx hb d_Z_begin_128 rfl (lv_at hl 2 rfl) ?_
  obtain ⟨h31, hF⟩ := as_u hF
  refine l_zi hx hb hK hP 15 27 ⟨by decide, by decide, by decide⟩ rfl h31 d_Z_begin_129 ?_
  obtain ⟨z34, h33, hF⟩ := bs_u hF
  refine k_vv (ad 14 0) [.int x1, .int (z29.1 15 (x1).toNatClampNeg)] [] ⟨hx, hb, hml, hown, hts⟩ (c_Z_sendAll l D ad ca hD0 (z := z29) (u := u)  h33) (w_Z_sendAll hts a_741 ⟨Nat.le_of_ble_eq_true rfl, Nat.le_of_ble_eq_true rfl⟩) (rv_Z hK hP (by decide)) hP hK hS (fun _ h => h) rfl rfl hl.1 (Nat.le_of_ble_eq_true rfl) ⟨Nat.zero_le _, Nat.zero_le _⟩ d_Z_begin_130 (fun H locs hP hS => ?_)
  have hF := rt1 hF
  subst hF
  exact W.vret hx hb hr (fun t ht hW => ⟨⟨(), rfl, trivial, vp_at ht hP⟩, hS.F ht⟩) hS.2.2 d_Z_begin_133
set_option maxHeartbeats 4000000 in
set_option maxRecDepth 100000 in
theorem c_Z_begin (l : Launch) (D : va_G) (ad : Nat → Nat → Nat) (ca : Nat → ClassId) (hD0 : ∀ z u, va_D (AH ad) (wh ad ca z u)) {z : ZW} {u : XC} {a1 : Int32} {a2 : Int32} {z0 : ZW}  (hF : F_Z_begin z a1 a2 = some z0) : Met l y_Z_begin ws_Z_begin ({ frames := 4, cells := 0, slots := 0, locals := 101 } : Room) (va_Pc [.ref (ad 14 0), .int a1, .int a2] (fun U => va_P D CLS (wh ad ca z u) U.heap ∧ va_K D CLS (TYH ca) U)) (va_Qv (fun (_ : Unit) => True) (fun _ t => va_P D CLS (wh ad ca z0 u) t.heap) (AH ad)) 0 0 (AH ad) := by
  refine Met.ofW (cc := b_Z_begin) (maxL := 5) (ret := none) (by decide +kernel) rfl ?_
  intro p e s m args below meth c s₁ B hml hv
  obtain ⟨rfl, hP, hK⟩ := hv
  have hx := B.exec
  have hb := B.bytes
  have hr := B.returns
  have hts : ∀ w ∈ ALL, w.before _ s = true := fun w h => atoms_spec (ws := ws_Z_begin) B.pre w (List.mem_cons_of_mem _ h)
  have hown : s.vm.findClass R_Z = some m.cls := findClass_of_methodNamed B.named
  have hlocks := B.notSynchronized
  have hD := hD0
  have hS : va_S (AH ad) s.heap s.heap [] := va_S.rf
  have hP : va_P D CLS (wh ad ca z u) s.heap := hP
  have hl := lv_entry ([.ref (ad 14 0), .int a1, .int a2]) (n := 5) (Nat.le_of_ble_eq_true rfl)
  rw [lg_entry_eq]
  generalize (lg_sl ([.ref (ad 14 0), .int a1, .int a2]) ++ List.replicate (5 - (lg_sl ([.ref (ad 14 0), .int a1, .int a2])).length) Slot.unset).toArray = ls at hl ⊢
  have hl : lv_has ls 5 [(0, .ref (ad 14 0)), (1, .int a1), (2, .int a2)] := hl
  unfold F_Z_begin at hF
  refine lv_aload_n hx hb d_Z_begin_0 rfl (lv_at hl 0 rfl) ?_
  refine lv_iload_n hx hb d_Z_begin_1 rfl (lv_at hl 1 rfl) ?_
  obtain ⟨r1, h2, hF⟩ := bs_u hF
  refine k_vp (ad 14 0) [.int a1] [] ⟨hx, hb, hml, hown, hts⟩ (c_Z_open l D ad ca hD0 (z := z) (u := u)  h2) (w_Z_open hts a_730 ⟨Nat.le_of_ble_eq_true rfl, Nat.le_of_ble_eq_true rfl⟩) (rv_Z hK hP (by decide)) hP hK rfl rfl hl.1 (Nat.le_of_ble_eq_true rfl) ⟨Nat.zero_le _, Nat.zero_le _⟩ d_Z_begin_2 ?_
  refine lv_istore_n (lv' := [(3, .int r1), (0, .ref (ad 14 0)), (1, .int a1), (2, .int a2)]) hx hb d_Z_begin_5 rfl hl (by decide) rfl (fun ls hl => ?_)
  refine lv_iload_n hx hb d_Z_begin_6 rfl (lv_at hl 0 rfl) ?_
  refine lv_bipush (v := 6) hx hb d_Z_begin_7 (by decide) ?_
  refine lv_icmp_ne (tgt := 20) hx hb d_Z_begin_9 (by decide) (fun h3 => ?_) (fun h3 => ?_)
  · have hF := it_f hF h3
    refine lv_aload_n hx hb d_Z_begin_20 rfl (lv_at hl 1 rfl) ?_
    refine gf_Z_8 hx hb hts hown hK hP (by decide) a_566 d_Z_begin_21 ?_
    refine lv_iload_n hx hb d_Z_begin_24 rfl (lv_at hl 2 rfl) ?_
    obtain ⟨h4, hF⟩ := as_u hF
    refine l_zi hx hb hK hP 7 27 ⟨by decide, by decide, by decide⟩ rfl h4 d_Z_begin_25 ?_
    refine lv_bipush (v := 27) hx hb d_Z_begin_26 (by decide) ?_
    refine lv_idiv hx hb d_Z_begin_28 (by decide) ?_
    refine lv_istore (lv' := [(4, .int ((z.1 7 (a1).toNatClampNeg) / 27)), (3, .int r1), (0, .ref (ad 14 0)), (1, .int a1), (2, .int a2)]) hx hb d_Z_begin_29 hl (by decide) rfl (fun ls hl => ?_)
    refine lv_iload_n hx hb d_Z_begin_31 rfl (lv_at hl 4 rfl) ?_
    refine lv_bipush (v := 27) hx hb d_Z_begin_32 (by decide) ?_
    refine lv_idiv hx hb d_Z_begin_34 (by decide) ?_
    refine lv_iload hx hb d_Z_begin_35 (lv_at hl 0 rfl) ?_
    refine lv_icmp_le (tgt := 47) hx hb d_Z_begin_37 (by decide) (fun h5 => ?_) (fun h5 => ?_)
    · have hF := it_t hF h5
      refine lv_iload hx hb d_Z_begin_47 (lv_at hl 0 rfl) ?_
      exact jn_Z_begin_49 hx hb hr hts hown hlocks hml hK hD0 hD  z a1 r1 ((z.1 7 (a1).toNatClampNeg) / 27)  z0 hF _ _ _ hP hS (lv_sub hl [2, 3, 1] rfl)
    · have hF := it_f hF h5
      refine lv_iload_n hx hb d_Z_begin_40 rfl (lv_at hl 4 rfl) ?_
      refine lv_bipush (v := 27) hx hb d_Z_begin_41 (by decide) ?_
      refine lv_idiv hx hb d_Z_begin_43 (by decide) ?_
      refine lv_goto (tgt := 49) hx hb d_Z_begin_44 (by decide) ?_
      exact jn_Z_begin_49 hx hb hr hts hown hlocks hml hK hD0 hD  z a1 r1 (a2 / 27)  z0 hF _ _ _ hP hS (lv_sub hl [2, 3, 1] rfl)
  · have hF := it_t hF h3
    refine lv_aload_n hx hb d_Z_begin_12 rfl (lv_at hl 1 rfl) ?_
    refine gf_Z_12 hx hb hts hown hK hP (by decide) a_570 d_Z_begin_13 ?_
    refine lv_iload_n hx hb d_Z_begin_16 rfl (lv_at hl 2 rfl) ?_
    refine lv_iconst (v := 0) hx hb d_Z_begin_17 (by decide) ?_
    obtain ⟨h35, hF⟩ := as_u hF
    obtain ⟨z36, h37, hF⟩ := nm_u hF
    refine s_zi hx hb hK hP 11 27 hD hS ⟨by decide, by decide, by decide⟩ rfl h35 h37 d_Z_begin_18 (fun H locs hP hS => ?_)
    have hF := rt1 hF
    subst hF
    exact W.vret hx hb hr (fun t ht hW => ⟨⟨(), rfl, trivial, vp_at ht hP⟩, hS.F ht⟩) hS.2.2 d_Z_begin_19
def ws_Z_propose : List Cond := Cond.code y_Z_propose b_Z_propose 2 (some .int) :: ALL
theorem w_Z_propose {R : Room} {s : State} {args : Array Value} {own : String} {index : Nat} (hts : ∀ w ∈ ALL, w.before args s = true) (hlk : Cond.methodLink own index y_Z_propose ∈ ALL) (hR : (({ frames := 5, cells := 0, slots := 0, locals := 125 } : Room)).frames + 1 ≤ R.frames ∧ 8 + (2 + 11) + (({ frames := 5, cells := 0, slots := 0, locals := 125 } : Room)).locals ≤ R.locals) : CallW R s args own R_Z index y_Z_propose b_Z_propose 2 (some .int) ws_Z_propose ({ frames := 5, cells := 0, slots := 0, locals := 125 } : Room) 0 0 1 := ⟨callB_of 1 hts (good_c a_729) rfl rfl rfl (hts _ a_8) (hts _ hlk) (by decide +kernel) hR, hts _ a_727, hts _ a_728⟩
theorem d_Z_propose_0 : decode b_Z_propose 0 = .ok (.aload_n 0, 1) := by decide +kernel
theorem d_Z_propose_1 : decode b_Z_propose 1 = .ok (.iload_n 1, 1) := by decide +kernel
theorem d_Z_propose_2 : decode b_Z_propose 2 = .ok (.invokestatic 122, 3) := by decide +kernel
theorem d_Z_propose_5 : decode b_Z_propose 5 = .ok (.ifCond .eq 28, 3) := by decide +kernel
theorem d_Z_propose_8 : decode b_Z_propose 8 = .ok (.aload_n 0, 1) := by decide +kernel
theorem d_Z_propose_9 : decode b_Z_propose 9 = .ok (.getfield 26, 3) := by decide +kernel
theorem d_Z_propose_12 : decode b_Z_propose 12 = .ok (.iload_n 1, 1) := by decide +kernel
theorem d_Z_propose_13 : decode b_Z_propose 13 = .ok (.iaload, 1) := by decide +kernel
theorem d_Z_propose_14 : decode b_Z_propose 14 = .ok (.ifCond .eq 19, 3) := by decide +kernel
theorem d_Z_propose_17 : decode b_Z_propose 17 = .ok (.aload_n 0, 1) := by decide +kernel
theorem d_Z_propose_18 : decode b_Z_propose 18 = .ok (.getfield 13, 3) := by decide +kernel
theorem d_Z_propose_21 : decode b_Z_propose 21 = .ok (.aload_n 0, 1) := by decide +kernel
theorem d_Z_propose_22 : decode b_Z_propose 22 = .ok (.getfield 26, 3) := by decide +kernel
theorem d_Z_propose_25 : decode b_Z_propose 25 = .ok (.iload_n 1, 1) := by decide +kernel
theorem d_Z_propose_26 : decode b_Z_propose 26 = .ok (.iaload, 1) := by decide +kernel
theorem d_Z_propose_27 : decode b_Z_propose 27 = .ok (.iconst 1, 1) := by decide +kernel
theorem d_Z_propose_28 : decode b_Z_propose 28 = .ok (.isub, 1) := by decide +kernel
theorem d_Z_propose_29 : decode b_Z_propose 29 = .ok (.iaload, 1) := by decide +kernel
theorem d_Z_propose_30 : decode b_Z_propose 30 = .ok (.ifCond .ne 7, 3) := by decide +kernel
theorem d_Z_propose_33 : decode b_Z_propose 33 = .ok (.iconst 1, 1) := by decide +kernel
theorem d_Z_propose_34 : decode b_Z_propose 34 = .ok (.goto 36, 3) := by decide +kernel
theorem d_Z_propose_37 : decode b_Z_propose 37 = .ok (.aload_n 0, 1) := by decide +kernel
theorem d_Z_propose_38 : decode b_Z_propose 38 = .ok (.getfield 22, 3) := by decide +kernel
theorem d_Z_propose_41 : decode b_Z_propose 41 = .ok (.iload_n 1, 1) := by decide +kernel
theorem d_Z_propose_42 : decode b_Z_propose 42 = .ok (.baload, 1) := by decide +kernel
theorem d_Z_propose_43 : decode b_Z_propose 43 = .ok (.ifCond .ne 22, 3) := by decide +kernel
theorem d_Z_propose_46 : decode b_Z_propose 46 = .ok (.aload_n 0, 1) := by decide +kernel
theorem d_Z_propose_47 : decode b_Z_propose 47 = .ok (.getfield 41, 3) := by decide +kernel
theorem d_Z_propose_50 : decode b_Z_propose 50 = .ok (.iload_n 1, 1) := by decide +kernel
theorem d_Z_propose_51 : decode b_Z_propose 51 = .ok (.iaload, 1) := by decide +kernel
theorem d_Z_propose_52 : decode b_Z_propose 52 = .ok (.ifCond .gt 13, 3) := by decide +kernel
theorem d_Z_propose_55 : decode b_Z_propose 55 = .ok (.aload_n 0, 1) := by decide +kernel
theorem d_Z_propose_56 : decode b_Z_propose 56 = .ok (.iload_n 1, 1) := by decide +kernel
theorem d_Z_propose_57 : decode b_Z_propose 57 = .ok (.invokevirtual 149, 3) := by decide +kernel
theorem d_Z_propose_60 : decode b_Z_propose 60 = .ok (.bipush 6, 2) := by decide +kernel
theorem d_Z_propose_62 : decode b_Z_propose 62 = .ok (.if_icmp .ne 7, 3) := by decide +kernel
theorem d_Z_propose_65 : decode b_Z_propose 65 = .ok (.iconst 2, 1) := by decide +kernel
theorem d_Z_propose_66 : decode b_Z_propose 66 = .ok (.goto 4, 3) := by decide +kernel
theorem d_Z_propose_69 : decode b_Z_propose 69 = .ok (.iconst 0, 1) := by decide +kernel
theorem d_Z_propose_70 : decode b_Z_propose 70 = .ok (.putfield 95, 3) := by decide +kernel
theorem d_Z_propose_73 : decode b_Z_propose 73 = .ok (.aload_n 0, 1) := by decide +kernel
theorem d_Z_propose_74 : decode b_Z_propose 74 = .ok (.getfield 95, 3) := by decide +kernel
theorem d_Z_propose_77 : decode b_Z_propose 77 = .ok (.ifCond .le 5, 3) := by decide +kernel
theorem d_Z_propose_80 : decode b_Z_propose 80 = .ok (.iconst 0, 1) := by decide +kernel
theorem d_Z_propose_81 : decode b_Z_propose 81 = .ok (.ireturn, 1) := by decide +kernel
theorem d_Z_propose_82 : decode b_Z_propose 82 = .ok (.aload_n 0, 1) := by decide +kernel
theorem d_Z_propose_83 : decode b_Z_propose 83 = .ok (.getfield 44, 3) := by decide +kernel
theorem d_Z_propose_86 : decode b_Z_propose 86 = .ok (.iload_n 1, 1) := by decide +kernel
theorem d_Z_propose_87 : decode b_Z_propose 87 = .ok (.aload_n 0, 1) := by decide +kernel
theorem d_Z_propose_88 : decode b_Z_propose 88 = .ok (.getfield 26, 3) := by decide +kernel
theorem d_Z_propose_91 : decode b_Z_propose 91 = .ok (.iload_n 1, 1) := by decide +kernel
theorem d_Z_propose_92 : decode b_Z_propose 92 = .ok (.iaload, 1) := by decide +kernel
theorem d_Z_propose_93 : decode b_Z_propose 93 = .ok (.iconst 1, 1) := by decide +kernel
theorem d_Z_propose_94 : decode b_Z_propose 94 = .ok (.isub, 1) := by decide +kernel
theorem d_Z_propose_95 : decode b_Z_propose 95 = .ok (.iastore, 1) := by decide +kernel
theorem d_Z_propose_96 : decode b_Z_propose 96 = .ok (.aload_n 0, 1) := by decide +kernel
theorem d_Z_propose_97 : decode b_Z_propose 97 = .ok (.getfield 26, 3) := by decide +kernel
theorem d_Z_propose_100 : decode b_Z_propose 100 = .ok (.iload_n 1, 1) := by decide +kernel
theorem d_Z_propose_101 : decode b_Z_propose 101 = .ok (.iconst 0, 1) := by decide +kernel
theorem d_Z_propose_102 : decode b_Z_propose 102 = .ok (.iastore, 1) := by decide +kernel
theorem d_Z_propose_103 : decode b_Z_propose 103 = .ok (.aload_n 0, 1) := by decide +kernel
theorem d_Z_propose_104 : decode b_Z_propose 104 = .ok (.getfield 59, 3) := by decide +kernel
theorem d_Z_propose_107 : decode b_Z_propose 107 = .ok (.iload_n 1, 1) := by decide +kernel
theorem d_Z_propose_108 : decode b_Z_propose 108 = .ok (.iconst 0, 1) := by decide +kernel
theorem d_Z_propose_109 : decode b_Z_propose 109 = .ok (.iastore, 1) := by decide +kernel
theorem d_Z_propose_110 : decode b_Z_propose 110 = .ok (.aload_n 0, 1) := by decide +kernel
theorem d_Z_propose_111 : decode b_Z_propose 111 = .ok (.iload_n 1, 1) := by decide +kernel
theorem d_Z_propose_112 : decode b_Z_propose 112 = .ok (.iconst 0, 1) := by decide +kernel
theorem d_Z_propose_113 : decode b_Z_propose 113 = .ok (.invokevirtual 159, 3) := by decide +kernel
theorem d_Z_propose_116 : decode b_Z_propose 116 = .ok (.aload_n 0, 1) := by decide +kernel
theorem d_Z_propose_117 : decode b_Z_propose 117 = .ok (.getfield 47, 3) := by decide +kernel
theorem d_Z_propose_120 : decode b_Z_propose 120 = .ok (.iload_n 1, 1) := by decide +kernel
theorem d_Z_propose_121 : decode b_Z_propose 121 = .ok (.iaload, 1) := by decide +kernel
theorem d_Z_propose_122 : decode b_Z_propose 122 = .ok (.ireturn, 1) := by decide +kernel
def Fj_Z_propose_70  (z : ZW) (x1 : Int32) (w0 : Int32) : Option (Int32 × ZW) := (nm_ (pz z 0 0 w0) fun z4 => (if (z4.1 0 0) ≤ 0 then (if 0 ≤ x1 ∧ (x1).toNatClampNeg < 27 then (if 0 ≤ x1 ∧ (x1).toNatClampNeg < 27 then (nm_ (pz z4 12 (x1).toNatClampNeg ((z4.1 6 (x1).toNatClampNeg) - 1)) fun z9 => (if 0 ≤ x1 ∧ (x1).toNatClampNeg < 27 then (nm_ (pz z9 6 (x1).toNatClampNeg 0) fun z12 => (if 0 ≤ x1 ∧ (x1).toNatClampNeg < 27 then (nm_ (pz z12 17 (x1).toNatClampNeg 0) fun z15 => (bs_ (F_Z_begin z15 x1 0) fun z19 => (if 0 ≤ x1 ∧ (x1).toNatClampNeg < 27 then some ((z19.1 13 (x1).toNatClampNeg), z19) else none))) else none)) else none)) else none) else none) else some (0, z4)))
def Fj_Z_propose_33  (z : ZW) (x1 : Int32) : Option (Int32 × ZW) := Fj_Z_propose_70  z x1 1
def Fj_Z_propose_65  (z : ZW) (x1 : Int32) : Option (Int32 × ZW) := Fj_Z_propose_70  z x1 2
def F_Z_propose (z : ZW) (a1 : Int32) : Option (Int32 × ZW) := (bs_ (F_Z_isOffice a1) fun r1 => (if r1 = 0 then Fj_Z_propose_33  z a1 else (if 0 ≤ a1 ∧ (a1).toNatClampNeg < 27 then (if (z.1 6 (a1).toNatClampNeg) = 0 then Fj_Z_propose_33  z a1 else (if 0 ≤ a1 ∧ (a1).toNatClampNeg < 27 then (if 0 ≤ ((z.1 6 (a1).toNatClampNeg) - 1) ∧ (((z.1 6 (a1).toNatClampNeg) - 1)).toNatClampNeg < 40 then (if (z.1 2 (((z.1 6 (a1).toNatClampNeg) - 1)).toNatClampNeg) = 0 then Fj_Z_propose_33  z a1 else (if 0 ≤ a1 ∧ (a1).toNatClampNeg < 27 then (if (z.1 5 (a1).toNatClampNeg) = 0 then (if 0 ≤ a1 ∧ (a1).toNatClampNeg < 27 then (if 0 < (z.1 11 (a1).toNatClampNeg) then Fj_Z_propose_65  z a1 else (bs_ (F_Z_open z a1) fun r30 => (if r30 = 6 then Fj_Z_propose_65  z a1 else Fj_Z_propose_70  z a1 0))) else none) else Fj_Z_propose_65  z a1) else none)) else none) else none)) else none)))
set_option maxHeartbeats 4000000 in
set_option maxRecDepth 100000 in
theorem jn_Z_propose_70 {p : Program} {l : Launch} {e : Env} {s : State} {m : MethodId} {args : Array Value} {below : List Frame} {meth : Method} {c : Code} {D : va_G} {ad : Nat → Nat → Nat} {ca : Nat → ClassId} {u : XC} (hx : p.tables.exec = Jvm.exec) (hb : c.code = b_Z_propose) (hr : meth.sig.returnType = (some .int)) (hts : ∀ w ∈ ALL, w.before args s = true) (hown : s.vm.findClass R_Z = some m.cls) (hlocks : meth.locks = false) (hml : c.maxLocals = 2) (hK : va_K D CLS (TYH ca) s) (hD0 : ∀ z u, va_D (AH ad) (wh ad ca z u)) (hD : ∀ z u, va_D (AH ad) (wh ad ca z u))  : ∀ (z : ZW) (x1 : Int32) (w0 : Int32)  (r0 : Int32) (z0 : ZW), Fj_Z_propose_70  z x1 w0 = some (r0, z0) → ∀ (H : Heap) (locs : List Loc) (ls : Array Slot), va_P D CLS (wh ad ca z u) H → va_S (AH ad) s.heap H locs → lv_has ls 2 [(0, .ref (ad 14 0)), (1, .int x1)] → W p l e ({ frames := 5, cells := 0, slots := 0, locals := 125 } : Room) s m args below meth c H locs 0 0 (MQ below (va_Qi (fun (r : Int32) (_ : Unit) => r = r0) (fun _ t => va_P D CLS (wh ad ca z0 u) t.heap) (AH ad)) args s 0 0 (AH ad)) (F0 m 70 ls [.int w0, .ref (ad 14 0)]) := by
  intro z x1 w0 r0 z0 hF H locs ls hP hS hl
  unfold Fj_Z_propose_70 at hF
  obtain ⟨z4, h5, hF⟩ := nm_u hF
  refine pf_Z_0 hx hb hts hown hK hP hD hS (by decide) h5 a_558 d_Z_propose_70 (fun H locs hP hS => ?_)
  refine lv_aload_n hx hb d_Z_propose_73 rfl (lv_at hl 0 rfl) ?_
  refine gf_Z_0 hx hb hts hown hK hP (by decide) a_558 d_Z_propose_74 ?_
  refine lv_if_le (tgt := 82) hx hb d_Z_propose_77 (by decide) (fun h6 => ?_) (fun h6 => ?_)
  · have hF := it_t hF h6
    refine lv_aload_n hx hb d_Z_propose_82 rfl (lv_at hl 0 rfl) ?_
    refine gf_Z_13 hx hb hts hown hK hP (by decide) a_571 d_Z_propose_83 ?_
    refine lv_iload_n hx hb d_Z_propose_86 rfl (lv_at hl 1 rfl) ?_
    refine lv_aload_n hx hb d_Z_propose_87 rfl (lv_at hl 0 rfl) ?_
    refine gf_Z_7 hx hb hts hown hK hP (by decide) a_565 d_Z_propose_88 ?_
    refine lv_iload_n hx hb d_Z_propose_91 rfl (lv_at hl 1 rfl) ?_
    obtain ⟨h7, hF⟩ := as_u hF
    refine l_zi hx hb hK hP 6 27 ⟨by decide, by decide, by decide⟩ rfl h7 d_Z_propose_92 ?_
    refine lv_iconst (v := 1) hx hb d_Z_propose_93 (by decide) ?_
    refine lv_isub hx hb d_Z_propose_94 ?_
    obtain ⟨h8, hF⟩ := as_u hF
    obtain ⟨z9, h10, hF⟩ := nm_u hF
    refine s_zi hx hb hK hP 12 27 hD hS ⟨by decide, by decide, by decide⟩ rfl h8 h10 d_Z_propose_95 (fun H locs hP hS => ?_)
    refine lv_aload_n hx hb d_Z_propose_96 rfl (lv_at hl 0 rfl) ?_
    refine gf_Z_7 hx hb hts hown hK hP (by decide) a_565 d_Z_propose_97 ?_
    refine lv_iload_n hx hb d_Z_propose_100 rfl (lv_at hl 1 rfl) ?_
    refine lv_iconst (v := 0) hx hb d_Z_propose_101 (by decide) ?_
    obtain ⟨h11, hF⟩ := as_u hF
    obtain ⟨z12, h13, hF⟩ := nm_u hF
    refine s_zi hx hb hK hP 6 27 hD hS ⟨by decide, by decide, by decide⟩ rfl h11 h13 d_Z_propose_102 (fun H locs hP hS => ?_)
    refine lv_aload_n hx hb d_Z_propose_103 rfl (lv_at hl 0 rfl) ?_
    refine gf_Z_18 hx hb hts hown hK hP (by decide) a_576 d_Z_propose_104 ?_
    refine lv_iload_n hx hb d_Z_propose_107 rfl (lv_at hl 1 rfl) ?_
    refine lv_iconst (v := 0) hx hb d_Z_propose_108 (by decide) ?_
    obtain ⟨h14, hF⟩ := as_u hF
    obtain ⟨z15, h16, hF⟩ := nm_u hF
    refine s_zi hx hb hK hP 17 27 hD hS ⟨by decide, by decide, by decide⟩ rfl h14 h16 d_Z_propose_109 (fun H locs hP hS => ?_)
    refine lv_aload_n hx hb d_Z_propose_110 rfl (lv_at hl 0 rfl) ?_
    refine lv_iload_n hx hb d_Z_propose_111 rfl (lv_at hl 1 rfl) ?_
    refine lv_iconst (v := 0) hx hb d_Z_propose_112 (by decide) ?_
    obtain ⟨z19, h18, hF⟩ := bs_u hF
    refine k_vv (ad 14 0) [.int x1, .int 0] [] ⟨hx, hb, hml, hown, hts⟩ (c_Z_begin l D ad ca hD0 (z := z15) (u := u)  h18) (w_Z_begin hts a_734 ⟨Nat.le_of_ble_eq_true rfl, Nat.le_of_ble_eq_true rfl⟩) (rv_Z hK hP (by decide)) hP hK hS (fun _ h => h) rfl rfl hl.1 (Nat.le_of_ble_eq_true rfl) ⟨Nat.zero_le _, Nat.zero_le _⟩ d_Z_propose_113 (fun H locs hP hS => ?_)
    refine lv_aload_n hx hb d_Z_propose_116 rfl (lv_at hl 0 rfl) ?_
    refine gf_Z_14 hx hb hts hown hK hP (by decide) a_572 d_Z_propose_117 ?_
    refine lv_iload_n hx hb d_Z_propose_120 rfl (lv_at hl 1 rfl) ?_
    obtain ⟨h20, hF⟩ := as_u hF
    refine l_zi hx hb hK hP 13 27 ⟨by decide, by decide, by decide⟩ rfl h20 d_Z_propose_121 ?_
    obtain ⟨rfl, rfl⟩ := rt2 hF
    exact W.iret (v := (z19.1 13 (x1).toNatClampNeg)) hx hb hr (fun t ht hW => ⟨⟨_, (), rfl, rfl, vp_at ht hP⟩, hS.F ht⟩) hS.2.2 d_Z_propose_122
  · have hF := it_f hF h6
    refine lv_iconst (v := 0) hx hb d_Z_propose_80 (by decide) ?_
    obtain ⟨rfl, rfl⟩ := rt2 hF
    exact W.iret (v := 0) hx hb hr (fun t ht hW => ⟨⟨_, (), rfl, rfl, vp_at ht hP⟩, hS.F ht⟩) hS.2.2 d_Z_propose_81
set_option maxHeartbeats 4000000 in
set_option maxRecDepth 100000 in
theorem jn_Z_propose_33 {p : Program} {l : Launch} {e : Env} {s : State} {m : MethodId} {args : Array Value} {below : List Frame} {meth : Method} {c : Code} {D : va_G} {ad : Nat → Nat → Nat} {ca : Nat → ClassId} {u : XC} (hx : p.tables.exec = Jvm.exec) (hb : c.code = b_Z_propose) (hr : meth.sig.returnType = (some .int)) (hts : ∀ w ∈ ALL, w.before args s = true) (hown : s.vm.findClass R_Z = some m.cls) (hlocks : meth.locks = false) (hml : c.maxLocals = 2) (hK : va_K D CLS (TYH ca) s) (hD0 : ∀ z u, va_D (AH ad) (wh ad ca z u)) (hD : ∀ z u, va_D (AH ad) (wh ad ca z u))  : ∀ (z : ZW) (x1 : Int32)  (r0 : Int32) (z0 : ZW), Fj_Z_propose_33  z x1 = some (r0, z0) → ∀ (H : Heap) (locs : List Loc) (ls : Array Slot), va_P D CLS (wh ad ca z u) H → va_S (AH ad) s.heap H locs → lv_has ls 2 [(0, .ref (ad 14 0)), (1, .int x1)] → W p l e ({ frames := 5, cells := 0, slots := 0, locals := 125 } : Room) s m args below meth c H locs 0 0 (MQ below (va_Qi (fun (r : Int32) (_ : Unit) => r = r0) (fun _ t => va_P D CLS (wh ad ca z0 u) t.heap) (AH ad)) args s 0 0 (AH ad)) (F0 m 33 ls [.ref (ad 14 0)]) := by
  intro z x1 r0 z0 hF H locs ls hP hS hl
  unfold Fj_Z_propose_33 at hF
  refine lv_iconst (v := 1) hx hb d_Z_propose_33 (by decide) ?_
  refine lv_goto (tgt := 70) hx hb d_Z_propose_34 (by decide) ?_
  exact jn_Z_propose_70 hx hb hr hts hown hlocks hml hK hD0 hD  z x1 1  r0 z0 hF _ _ _ hP hS (lv_sub hl [0, 1] rfl)
set_option maxHeartbeats 4000000 in
set_option maxRecDepth 100000 in
theorem jn_Z_propose_65 {p : Program} {l : Launch} {e : Env} {s : State} {m : MethodId} {args : Array Value} {below : List Frame} {meth : Method} {c : Code} {D : va_G} {ad : Nat → Nat → Nat} {ca : Nat → ClassId} {u : XC} (hx : p.tables.exec = Jvm.exec) (hb : c.code = b_Z_propose) (hr : meth.sig.returnType = (some .int)) (hts : ∀ w ∈ ALL, w.before args s = true) (hown : s.vm.findClass R_Z = some m.cls) (hlocks : meth.locks = false) (hml : c.maxLocals = 2) (hK : va_K D CLS (TYH ca) s) (hD0 : ∀ z u, va_D (AH ad) (wh ad ca z u)) (hD : ∀ z u, va_D (AH ad) (wh ad ca z u))  : ∀ (z : ZW) (x1 : Int32)  (r0 : Int32) (z0 : ZW), Fj_Z_propose_65  z x1 = some (r0, z0) → ∀ (H : Heap) (locs : List Loc) (ls : Array Slot), va_P D CLS (wh ad ca z u) H → va_S (AH ad) s.heap H locs → lv_has ls 2 [(0, .ref (ad 14 0)), (1, .int x1)] → W p l e ({ frames := 5, cells := 0, slots := 0, locals := 125 } : Room) s m args below meth c H locs 0 0 (MQ below (va_Qi (fun (r : Int32) (_ : Unit) => r = r0) (fun _ t => va_P D CLS (wh ad ca z0 u) t.heap) (AH ad)) args s 0 0 (AH ad)) (F0 m 65 ls [.ref (ad 14 0)]) := by
  intro z x1 r0 z0 hF H locs ls hP hS hl
  unfold Fj_Z_propose_65 at hF
  refine lv_iconst (v := 2) hx hb d_Z_propose_65 (by decide) ?_
  refine lv_goto (tgt := 70) hx hb d_Z_propose_66 (by decide) ?_
  exact jn_Z_propose_70 hx hb hr hts hown hlocks hml hK hD0 hD  z x1 2  r0 z0 hF _ _ _ hP hS (lv_sub hl [0, 1] rfl)
set_option maxHeartbeats 4000000 in
set_option maxRecDepth 100000 in
theorem c_Z_propose (l : Launch) (D : va_G) (ad : Nat → Nat → Nat) (ca : Nat → ClassId) (hD0 : ∀ z u, va_D (AH ad) (wh ad ca z u)) {z : ZW} {u : XC} {a1 : Int32} {r0 : Int32} {z0 : ZW}  (hF : F_Z_propose z a1 = some (r0, z0)) : Met l y_Z_propose ws_Z_propose ({ frames := 5, cells := 0, slots := 0, locals := 125 } : Room) (va_Pc [.ref (ad 14 0), .int a1] (fun U => va_P D CLS (wh ad ca z u) U.heap ∧ va_K D CLS (TYH ca) U)) (va_Qi (fun (r : Int32) (_ : Unit) => r = r0) (fun _ t => va_P D CLS (wh ad ca z0 u) t.heap) (AH ad)) 0 0 (AH ad) := by
  refine Met.ofW (cc := b_Z_propose) (maxL := 2) (ret := (some .int)) (by decide +kernel) rfl ?_
  intro p e s m args below meth c s₁ B hml hv
  obtain ⟨rfl, hP, hK⟩ := hv
  have hx := B.exec
  have hb := B.bytes
  have hr := B.returns
  have hts : ∀ w ∈ ALL, w.before _ s = true := fun w h => atoms_spec (ws := ws_Z_propose) B.pre w (List.mem_cons_of_mem _ h)
  have hown : s.vm.findClass R_Z = some m.cls := findClass_of_methodNamed B.named
  have hlocks := B.notSynchronized
  have hD := hD0
  have hS : va_S (AH ad) s.heap s.heap [] := va_S.rf
  have hP : va_P D CLS (wh ad ca z u) s.heap := hP
  have hl := lv_entry ([.ref (ad 14 0), .int a1]) (n := 2) (Nat.le_of_ble_eq_true rfl)
  rw [lg_entry_eq]
  generalize (lg_sl ([.ref (ad 14 0), .int a1]) ++ List.replicate (2 - (lg_sl ([.ref (ad 14 0), .int a1])).length) Slot.unset).toArray = ls at hl ⊢
  have hl : lv_has ls 2 [(0, .ref (ad 14 0)), (1, .int a1)] := hl
  unfold F_Z_propose at hF
  refine lv_aload_n hx hb d_Z_propose_0 rfl (lv_at hl 0 rfl) ?_
  refine lv_iload_n hx hb d_Z_propose_1 rfl (lv_at hl 1 rfl) ?_
  obtain ⟨r1, h2, hF⟩ := bs_u hF
  refine k_sp [.int a1] [.ref (ad 14 0)] ⟨hx, hb, hml, hown, hts⟩ (c_Z_isOffice l  h2) (w_Z_isOffice hts a_691 ⟨Nat.le_of_ble_eq_true rfl, Nat.le_of_ble_eq_true rfl⟩) rfl rfl hl.1 (Nat.le_of_ble_eq_true rfl) ⟨Nat.zero_le _, Nat.zero_le _⟩ d_Z_propose_2 ?_
  refine lv_if_eq (tgt := 33) hx hb d_Z_propose_5 (by decide) (fun h3 => ?_) (fun h3 => ?_)
  · have hF := it_t hF h3
    exact jn_Z_propose_33 hx hb hr hts hown hlocks hml hK hD0 hD  z a1  r0 z0 hF _ _ _ hP hS (lv_sub hl [0, 1] rfl)
  · have hF := it_f hF h3
    refine lv_aload_n hx hb d_Z_propose_8 rfl (lv_at hl 0 rfl) ?_
    refine gf_Z_7 hx hb hts hown hK hP (by decide) a_565 d_Z_propose_9 ?_
    refine lv_iload_n hx hb d_Z_propose_12 rfl (lv_at hl 1 rfl) ?_
    obtain ⟨h21, hF⟩ := as_u hF
    refine l_zi hx hb hK hP 6 27 ⟨by decide, by decide, by decide⟩ rfl h21 d_Z_propose_13 ?_
    refine lv_if_eq (tgt := 33) hx hb d_Z_propose_14 (by decide) (fun h22 => ?_) (fun h22 => ?_)
    · have hF := it_t hF h22
      exact jn_Z_propose_33 hx hb hr hts hown hlocks hml hK hD0 hD  z a1  r0 z0 hF _ _ _ hP hS (lv_sub hl [0, 1] rfl)
    · have hF := it_f hF h22
      refine lv_aload_n hx hb d_Z_propose_17 rfl (lv_at hl 0 rfl) ?_
      refine gf_Z_3 hx hb hts hown hK hP (by decide) a_561 d_Z_propose_18 ?_
      refine lv_aload_n hx hb d_Z_propose_21 rfl (lv_at hl 0 rfl) ?_
      refine gf_Z_7 hx hb hts hown hK hP (by decide) a_565 d_Z_propose_22 ?_
      refine lv_iload_n hx hb d_Z_propose_25 rfl (lv_at hl 1 rfl) ?_
      obtain ⟨h23, hF⟩ := as_u hF
      refine l_zi hx hb hK hP 6 27 ⟨by decide, by decide, by decide⟩ rfl h23 d_Z_propose_26 ?_
      refine lv_iconst (v := 1) hx hb d_Z_propose_27 (by decide) ?_
      refine lv_isub hx hb d_Z_propose_28 ?_
      obtain ⟨h24, hF⟩ := as_u hF
      refine l_zi hx hb hK hP 2 40 ⟨by decide, by decide, by decide⟩ rfl h24 d_Z_propose_29 ?_
      refine lv_if_ne (tgt := 37) hx hb d_Z_propose_30 (by decide) (fun h25 => ?_) (fun h25 => ?_)
      · have hF := it_f hF h25
        refine lv_aload_n hx hb d_Z_propose_37 rfl (lv_at hl 0 rfl) ?_
        refine gf_Z_6 hx hb hts hown hK hP (by decide) a_564 d_Z_propose_38 ?_
        refine lv_iload_n hx hb d_Z_propose_41 rfl (lv_at hl 1 rfl) ?_
        obtain ⟨h26, hF⟩ := as_u hF
        refine l_zb hx hb hK hP 5 27 rfl rfl h26 d_Z_propose_42 ?_
        refine lv_if_ne (tgt := 65) hx hb d_Z_propose_43 (by decide) (fun h27 => ?_) (fun h27 => ?_)
        · have hF := it_f hF h27
          exact jn_Z_propose_65 hx hb hr hts hown hlocks hml hK hD0 hD  z a1  r0 z0 hF _ _ _ hP hS (lv_sub hl [0, 1] rfl)
        · have hF := it_t hF h27
          refine lv_aload_n hx hb d_Z_propose_46 rfl (lv_at hl 0 rfl) ?_
          refine gf_Z_12 hx hb hts hown hK hP (by decide) a_570 d_Z_propose_47 ?_
          refine lv_iload_n hx hb d_Z_propose_50 rfl (lv_at hl 1 rfl) ?_
          obtain ⟨h28, hF⟩ := as_u hF
          refine l_zi hx hb hK hP 11 27 ⟨by decide, by decide, by decide⟩ rfl h28 d_Z_propose_51 ?_
          refine lv_if_gt (tgt := 65) hx hb d_Z_propose_52 (by decide) (fun h29 => ?_) (fun h29 => ?_)
          · have hF := it_t hF h29
            exact jn_Z_propose_65 hx hb hr hts hown hlocks hml hK hD0 hD  z a1  r0 z0 hF _ _ _ hP hS (lv_sub hl [0, 1] rfl)
          · have hF := it_f hF h29
            refine lv_aload_n hx hb d_Z_propose_55 rfl (lv_at hl 0 rfl) ?_
            refine lv_iload_n hx hb d_Z_propose_56 rfl (lv_at hl 1 rfl) ?_
            obtain ⟨r30, h31, hF⟩ := bs_u hF
            refine k_vp (ad 14 0) [.int a1] [.ref (ad 14 0)] ⟨hx, hb, hml, hown, hts⟩ (c_Z_open l D ad ca hD0 (z := z) (u := u)  h31) (w_Z_open hts a_730 ⟨Nat.le_of_ble_eq_true rfl, Nat.le_of_ble_eq_true rfl⟩) (rv_Z hK hP (by decide)) hP hK rfl rfl hl.1 (Nat.le_of_ble_eq_true rfl) ⟨Nat.zero_le _, Nat.zero_le _⟩ d_Z_propose_57 ?_
            refine lv_bipush (v := 6) hx hb d_Z_propose_60 (by decide) ?_
            refine lv_icmp_ne (tgt := 69) hx hb d_Z_propose_62 (by decide) (fun h32 => ?_) (fun h32 => ?_)
            · have hF := it_f hF h32
              refine lv_iconst (v := 0) hx hb d_Z_propose_69 (by decide) ?_
              exact jn_Z_propose_70 hx hb hr hts hown hlocks hml hK hD0 hD  z a1 0  r0 z0 hF _ _ _ hP hS (lv_sub hl [0, 1] rfl)
            · have hF := it_t hF h32
              exact jn_Z_propose_65 hx hb hr hts hown hlocks hml hK hD0 hD  z a1  r0 z0 hF _ _ _ hP hS (lv_sub hl [0, 1] rfl)
      · have hF := it_t hF h25
        exact jn_Z_propose_33 hx hb hr hts hown hlocks hml hK hD0 hD  z a1  r0 z0 hF _ _ _ hP hS (lv_sub hl [0, 1] rfl)
def ws_Z_silent : List Cond := Cond.code y_Z_silent b_Z_silent 4 (some .int) :: ALL
theorem w_Z_silent {R : Room} {s : State} {args : Array Value} {own : String} {index : Nat} (hts : ∀ w ∈ ALL, w.before args s = true) (hlk : Cond.methodLink own index y_Z_silent ∈ ALL) (hR : (({ frames := 4, cells := 0, slots := 0, locals := 101 } : Room)).frames + 1 ≤ R.frames ∧ 8 + (4 + 11) + (({ frames := 4, cells := 0, slots := 0, locals := 101 } : Room)).locals ≤ R.locals) : CallW R s args own R_Z index y_Z_silent b_Z_silent 4 (some .int) ws_Z_silent ({ frames := 4, cells := 0, slots := 0, locals := 101 } : Room) 0 0 2 := ⟨callB_of 2 hts (good_c a_752) rfl rfl rfl (hts _ a_8) (hts _ hlk) (by decide +kernel) hR, hts _ a_750, hts _ a_751⟩
theorem d_Z_silent_0 : decode b_Z_silent 0 = .ok (.aload_n 0, 1) := by decide +kernel
theorem d_Z_silent_1 : decode b_Z_silent 1 = .ok (.iload_n 1, 1) := by decide +kernel
theorem d_Z_silent_2 : decode b_Z_silent 2 = .ok (.invokestatic 122, 3) := by decide +kernel
theorem d_Z_silent_5 : decode b_Z_silent 5 = .ok (.ifCond .eq 10, 3) := by decide +kernel
theorem d_Z_silent_8 : decode b_Z_silent 8 = .ok (.iload_n 2, 1) := by decide +kernel
theorem d_Z_silent_9 : decode b_Z_silent 9 = .ok (.invokestatic 122, 3) := by decide +kernel
theorem d_Z_silent_12 : decode b_Z_silent 12 = .ok (.ifCond .ne 7, 3) := by decide +kernel
theorem d_Z_silent_15 : decode b_Z_silent 15 = .ok (.iconst 1, 1) := by decide +kernel
theorem d_Z_silent_16 : decode b_Z_silent 16 = .ok (.goto 57, 3) := by decide +kernel
theorem d_Z_silent_19 : decode b_Z_silent 19 = .ok (.aload_n 0, 1) := by decide +kernel
theorem d_Z_silent_20 : decode b_Z_silent 20 = .ok (.getfield 22, 3) := by decide +kernel
theorem d_Z_silent_23 : decode b_Z_silent 23 = .ok (.iload_n 1, 1) := by decide +kernel
theorem d_Z_silent_24 : decode b_Z_silent 24 = .ok (.baload, 1) := by decide +kernel
theorem d_Z_silent_25 : decode b_Z_silent 25 = .ok (.ifCond .ne 43, 3) := by decide +kernel
theorem d_Z_silent_28 : decode b_Z_silent 28 = .ok (.aload_n 0, 1) := by decide +kernel
theorem d_Z_silent_29 : decode b_Z_silent 29 = .ok (.getfield 41, 3) := by decide +kernel
theorem d_Z_silent_32 : decode b_Z_silent 32 = .ok (.iload_n 1, 1) := by decide +kernel
theorem d_Z_silent_33 : decode b_Z_silent 33 = .ok (.iaload, 1) := by decide +kernel
theorem d_Z_silent_34 : decode b_Z_silent 34 = .ok (.ifCond .eq 34, 3) := by decide +kernel
theorem d_Z_silent_37 : decode b_Z_silent 37 = .ok (.aload_n 0, 1) := by decide +kernel
theorem d_Z_silent_38 : decode b_Z_silent 38 = .ok (.getfield 59, 3) := by decide +kernel
theorem d_Z_silent_41 : decode b_Z_silent 41 = .ok (.iload_n 1, 1) := by decide +kernel
theorem d_Z_silent_42 : decode b_Z_silent 42 = .ok (.iaload, 1) := by decide +kernel
theorem d_Z_silent_43 : decode b_Z_silent 43 = .ok (.iload_n 2, 1) := by decide +kernel
theorem d_Z_silent_44 : decode b_Z_silent 44 = .ok (.ishr, 1) := by decide +kernel
theorem d_Z_silent_45 : decode b_Z_silent 45 = .ok (.iconst 1, 1) := by decide +kernel
theorem d_Z_silent_46 : decode b_Z_silent 46 = .ok (.iand, 1) := by decide +kernel
theorem d_Z_silent_47 : decode b_Z_silent 47 = .ok (.iconst 1, 1) := by decide +kernel
theorem d_Z_silent_48 : decode b_Z_silent 48 = .ok (.if_icmp .eq 20, 3) := by decide +kernel
theorem d_Z_silent_51 : decode b_Z_silent 51 = .ok (.iload_n 1, 1) := by decide +kernel
theorem d_Z_silent_52 : decode b_Z_silent 52 = .ok (.aload_n 0, 1) := by decide +kernel
theorem d_Z_silent_53 : decode b_Z_silent 53 = .ok (.getfield 59, 3) := by decide +kernel
theorem d_Z_silent_56 : decode b_Z_silent 56 = .ok (.iload_n 1, 1) := by decide +kernel
theorem d_Z_silent_57 : decode b_Z_silent 57 = .ok (.iaload, 1) := by decide +kernel
theorem d_Z_silent_58 : decode b_Z_silent 58 = .ok (.iconst 1, 1) := by decide +kernel
theorem d_Z_silent_59 : decode b_Z_silent 59 = .ok (.iload_n 2, 1) := by decide +kernel
theorem d_Z_silent_60 : decode b_Z_silent 60 = .ok (.ishl, 1) := by decide +kernel
theorem d_Z_silent_61 : decode b_Z_silent 61 = .ok (.ior, 1) := by decide +kernel
theorem d_Z_silent_62 : decode b_Z_silent 62 = .ok (.invokestatic 153, 3) := by decide +kernel
theorem d_Z_silent_65 : decode b_Z_silent 65 = .ok (.ifCond .ne 7, 3) := by decide +kernel
theorem d_Z_silent_68 : decode b_Z_silent 68 = .ok (.iconst 2, 1) := by decide +kernel
theorem d_Z_silent_69 : decode b_Z_silent 69 = .ok (.goto 4, 3) := by decide +kernel
theorem d_Z_silent_72 : decode b_Z_silent 72 = .ok (.iconst 0, 1) := by decide +kernel
theorem d_Z_silent_73 : decode b_Z_silent 73 = .ok (.putfield 95, 3) := by decide +kernel
theorem d_Z_silent_76 : decode b_Z_silent 76 = .ok (.aload_n 0, 1) := by decide +kernel
theorem d_Z_silent_77 : decode b_Z_silent 77 = .ok (.getfield 95, 3) := by decide +kernel
theorem d_Z_silent_80 : decode b_Z_silent 80 = .ok (.ifCond .le 5, 3) := by decide +kernel
theorem d_Z_silent_83 : decode b_Z_silent 83 = .ok (.iconst 0, 1) := by decide +kernel
theorem d_Z_silent_84 : decode b_Z_silent 84 = .ok (.ireturn, 1) := by decide +kernel
theorem d_Z_silent_85 : decode b_Z_silent 85 = .ok (.aload_n 0, 1) := by decide +kernel
theorem d_Z_silent_86 : decode b_Z_silent 86 = .ok (.getfield 59, 3) := by decide +kernel
theorem d_Z_silent_89 : decode b_Z_silent 89 = .ok (.iload_n 1, 1) := by decide +kernel
theorem d_Z_silent_90 : decode b_Z_silent 90 = .ok (.aload_n 0, 1) := by decide +kernel
theorem d_Z_silent_91 : decode b_Z_silent 91 = .ok (.getfield 59, 3) := by decide +kernel
theorem d_Z_silent_94 : decode b_Z_silent 94 = .ok (.iload_n 1, 1) := by decide +kernel
theorem d_Z_silent_95 : decode b_Z_silent 95 = .ok (.iaload, 1) := by decide +kernel
theorem d_Z_silent_96 : decode b_Z_silent 96 = .ok (.iconst 1, 1) := by decide +kernel
theorem d_Z_silent_97 : decode b_Z_silent 97 = .ok (.iload_n 2, 1) := by decide +kernel
theorem d_Z_silent_98 : decode b_Z_silent 98 = .ok (.ishl, 1) := by decide +kernel
theorem d_Z_silent_99 : decode b_Z_silent 99 = .ok (.ior, 1) := by decide +kernel
theorem d_Z_silent_100 : decode b_Z_silent 100 = .ok (.iastore, 1) := by decide +kernel
theorem d_Z_silent_101 : decode b_Z_silent 101 = .ok (.aload_n 0, 1) := by decide +kernel
theorem d_Z_silent_102 : decode b_Z_silent 102 = .ok (.getfield 53, 3) := by decide +kernel
theorem d_Z_silent_105 : decode b_Z_silent 105 = .ok (.iload_n 1, 1) := by decide +kernel
theorem d_Z_silent_106 : decode b_Z_silent 106 = .ok (.iaload, 1) := by decide +kernel
theorem d_Z_silent_107 : decode b_Z_silent 107 = .ok (.istore_n 3, 1) := by decide +kernel
theorem d_Z_silent_108 : decode b_Z_silent 108 = .ok (.aload_n 0, 1) := by decide +kernel
theorem d_Z_silent_109 : decode b_Z_silent 109 = .ok (.getfield 53, 3) := by decide +kernel
theorem d_Z_silent_112 : decode b_Z_silent 112 = .ok (.iload_n 1, 1) := by decide +kernel
theorem d_Z_silent_113 : decode b_Z_silent 113 = .ok (.iload_n 1, 1) := by decide +kernel
theorem d_Z_silent_114 : decode b_Z_silent 114 = .ok (.aload_n 0, 1) := by decide +kernel
theorem d_Z_silent_115 : decode b_Z_silent 115 = .ok (.getfield 59, 3) := by decide +kernel
theorem d_Z_silent_118 : decode b_Z_silent 118 = .ok (.iload_n 1, 1) := by decide +kernel
theorem d_Z_silent_119 : decode b_Z_silent 119 = .ok (.iaload, 1) := by decide +kernel
theorem d_Z_silent_120 : decode b_Z_silent 120 = .ok (.invokestatic 153, 3) := by decide +kernel
theorem d_Z_silent_123 : decode b_Z_silent 123 = .ok (.iastore, 1) := by decide +kernel
theorem d_Z_silent_124 : decode b_Z_silent 124 = .ok (.aload_n 0, 1) := by decide +kernel
theorem d_Z_silent_125 : decode b_Z_silent 125 = .ok (.iconst 0, 1) := by decide +kernel
theorem d_Z_silent_126 : decode b_Z_silent 126 = .ok (.putfield 128, 3) := by decide +kernel
theorem d_Z_silent_129 : decode b_Z_silent 129 = .ok (.aload_n 0, 1) := by decide +kernel
theorem d_Z_silent_130 : decode b_Z_silent 130 = .ok (.iload_n 1, 1) := by decide +kernel
theorem d_Z_silent_131 : decode b_Z_silent 131 = .ok (.aload_n 0, 1) := by decide +kernel
theorem d_Z_silent_132 : decode b_Z_silent 132 = .ok (.getfield 53, 3) := by decide +kernel
theorem d_Z_silent_135 : decode b_Z_silent 135 = .ok (.iload_n 1, 1) := by decide +kernel
theorem d_Z_silent_136 : decode b_Z_silent 136 = .ok (.iaload, 1) := by decide +kernel
theorem d_Z_silent_137 : decode b_Z_silent 137 = .ok (.iload_n 3, 1) := by decide +kernel
theorem d_Z_silent_138 : decode b_Z_silent 138 = .ok (.iconst (-1), 1) := by decide +kernel
theorem d_Z_silent_139 : decode b_Z_silent 139 = .ok (.ixor, 1) := by decide +kernel
theorem d_Z_silent_140 : decode b_Z_silent 140 = .ok (.iand, 1) := by decide +kernel
theorem d_Z_silent_141 : decode b_Z_silent 141 = .ok (.invokevirtual 156, 3) := by decide +kernel
theorem d_Z_silent_144 : decode b_Z_silent 144 = .ok (.aload_n 0, 1) := by decide +kernel
theorem d_Z_silent_145 : decode b_Z_silent 145 = .ok (.getfield 128, 3) := by decide +kernel
theorem d_Z_silent_148 : decode b_Z_silent 148 = .ok (.ireturn, 1) := by decide +kernel
def Fj_Z_silent_73  (z : ZW) (x1 : Int32) (x2 : Int32) (w0 : Int32) : Option (Int32 × ZW) := (nm_ (pz z 0 0 w0) fun z4 => (if (z4.1 0 0) ≤ 0 then (if 0 ≤ x1 ∧ (x1).toNatClampNeg < 27 then (if 0 ≤ x1 ∧ (x1).toNatClampNeg < 27 then (nm_ (pz z4 17 (x1).toNatClampNeg ((z4.1 17 (x1).toNatClampNeg) ||| (1 <<< (x2 &&& 31)))) fun z9 => (if 0 ≤ x1 ∧ (x1).toNatClampNeg < 27 then (if 0 ≤ x1 ∧ (x1).toNatClampNeg < 27 then (bs_ (F_Z_choice x1 (z9.1 17 (x1).toNatClampNeg)) fun r13 => (if 0 ≤ x1 ∧ (x1).toNatClampNeg < 27 then (nm_ (pz z9 15 (x1).toNatClampNeg r13) fun z16 => (nm_ (pz z16 0 31 0) fun z18 => (if 0 ≤ x1 ∧ (x1).toNatClampNeg < 27 then (bs_ (F_Z_sendAll z18 x1 ((z18.1 15 (x1).toNatClampNeg) &&& ((z9.1 15 (x1).toNatClampNeg) ^^^ (-1)))) fun z23 => some ((z23.1 0 31), z23)) else none))) else none)) else none) else none)) else none) else none) else some (0, z4)))
def Fj_Z_silent_15  (z : ZW) (x1 : Int32) (x2 : Int32) : Option (Int32 × ZW) := Fj_Z_silent_73  z x1 x2 1
def Fj_Z_silent_68  (z : ZW) (x1 : Int32) (x2 : Int32) : Option (Int32 × ZW) := Fj_Z_silent_73  z x1 x2 2
def F_Z_silent (z : ZW) (a1 : Int32) (a2 : Int32) : Option (Int32 × ZW) := (bs_ (F_Z_isOffice a1) fun r1 => (if r1 = 0 then Fj_Z_silent_15  z a1 a2 else (bs_ (F_Z_isOffice a2) fun r24 => (if r24 = 0 then Fj_Z_silent_15  z a1 a2 else (if 0 ≤ a1 ∧ (a1).toNatClampNeg < 27 then (if (z.1 5 (a1).toNatClampNeg) = 0 then (if 0 ≤ a1 ∧ (a1).toNatClampNeg < 27 then (if (z.1 11 (a1).toNatClampNeg) = 0 then Fj_Z_silent_68  z a1 a2 else (if 0 ≤ a1 ∧ (a1).toNatClampNeg < 27 then (if (((z.1 17 (a1).toNatClampNeg) >>> (a2 &&& 31)) &&& 1) = 1 then Fj_Z_silent_68  z a1 a2 else (if 0 ≤ a1 ∧ (a1).toNatClampNeg < 27 then (bs_ (F_Z_choice a1 ((z.1 17 (a1).toNatClampNeg) ||| (1 <<< (a2 &&& 31)))) fun r34 => (if r34 = 0 then Fj_Z_silent_68  z a1 a2 else Fj_Z_silent_73  z a1 a2 0)) else none)) else none)) else none) else Fj_Z_silent_68  z a1 a2) else none)))))
set_option maxHeartbeats 4000000 in
set_option maxRecDepth 100000 in
theorem jn_Z_silent_73 {p : Program} {l : Launch} {e : Env} {s : State} {m : MethodId} {args : Array Value} {below : List Frame} {meth : Method} {c : Code} {D : va_G} {ad : Nat → Nat → Nat} {ca : Nat → ClassId} {u : XC} (hx : p.tables.exec = Jvm.exec) (hb : c.code = b_Z_silent) (hr : meth.sig.returnType = (some .int)) (hts : ∀ w ∈ ALL, w.before args s = true) (hown : s.vm.findClass R_Z = some m.cls) (hlocks : meth.locks = false) (hml : c.maxLocals = 4) (hK : va_K D CLS (TYH ca) s) (hD0 : ∀ z u, va_D (AH ad) (wh ad ca z u)) (hD : ∀ z u, va_D (AH ad) (wh ad ca z u))  : ∀ (z : ZW) (x1 : Int32) (x2 : Int32) (w0 : Int32)  (r0 : Int32) (z0 : ZW), Fj_Z_silent_73  z x1 x2 w0 = some (r0, z0) → ∀ (H : Heap) (locs : List Loc) (ls : Array Slot), va_P D CLS (wh ad ca z u) H → va_S (AH ad) s.heap H locs → lv_has ls 4 [(0, .ref (ad 14 0)), (1, .int x1), (2, .int x2)] → W p l e ({ frames := 4, cells := 0, slots := 0, locals := 101 } : Room) s m args below meth c H locs 0 0 (MQ below (va_Qi (fun (r : Int32) (_ : Unit) => r = r0) (fun _ t => va_P D CLS (wh ad ca z0 u) t.heap) (AH ad)) args s 0 0 (AH ad)) (F0 m 73 ls [.int w0, .ref (ad 14 0)]) := by
  intro z x1 x2 w0 r0 z0 hF H locs ls hP hS hl
  unfold Fj_Z_silent_73 at hF
  obtain ⟨z4, h5, hF⟩ := nm_u hF
  refine pf_Z_0 hx hb hts hown hK hP hD hS (by decide) h5 a_558 d_Z_silent_73 (fun H locs hP hS => ?_)
  refine lv_aload_n hx hb d_Z_silent_76 rfl (lv_at hl 0 rfl) ?_
  refine gf_Z_0 hx hb hts hown hK hP (by decide) a_558 d_Z_silent_77 ?_
  refine lv_if_le (tgt := 85) hx hb d_Z_silent_80 (by decide) (fun h6 => ?_) (fun h6 => ?_)
  · have hF := it_t hF h6
    refine lv_aload_n hx hb d_Z_silent_85 rfl (lv_at hl 0 rfl) ?_
    refine gf_Z_18 hx hb hts hown hK hP (by decide) a_576 d_Z_silent_86 ?_
    refine lv_iload_n hx hb d_Z_silent_89 rfl (lv_at hl 1 rfl) ?_
    refine lv_aload_n hx hb d_Z_silent_90 rfl (lv_at hl 0 rfl) ?_
    refine gf_Z_18 hx hb hts hown hK hP (by decide) a_576 d_Z_silent_91 ?_
    refine lv_iload_n hx hb d_Z_silent_94 rfl (lv_at hl 1 rfl) ?_
    obtain ⟨h7, hF⟩ := as_u hF
    refine l_zi hx hb hK hP 17 27 ⟨by decide, by decide, by decide⟩ rfl h7 d_Z_silent_95 ?_
    refine lv_iconst (v := 1) hx hb d_Z_silent_96 (by decide) ?_
    refine lv_iload_n hx hb d_Z_silent_97 rfl (lv_at hl 2 rfl) ?_
    refine lv_ishl hx hb d_Z_silent_98 ?_
    refine lv_ior hx hb d_Z_silent_99 ?_
    obtain ⟨h8, hF⟩ := as_u hF
    obtain ⟨z9, h10, hF⟩ := nm_u hF
    refine s_zi hx hb hK hP 17 27 hD hS ⟨by decide, by decide, by decide⟩ rfl h8 h10 d_Z_silent_100 (fun H locs hP hS => ?_)
    refine lv_aload_n hx hb d_Z_silent_101 rfl (lv_at hl 0 rfl) ?_
    refine gf_Z_16 hx hb hts hown hK hP (by decide) a_574 d_Z_silent_102 ?_
    refine lv_iload_n hx hb d_Z_silent_105 rfl (lv_at hl 1 rfl) ?_
    obtain ⟨h11, hF⟩ := as_u hF
    refine l_zi hx hb hK hP 15 27 ⟨by decide, by decide, by decide⟩ rfl h11 d_Z_silent_106 ?_
    refine lv_istore_n (lv' := [(3, .int (z9.1 15 (x1).toNatClampNeg)), (0, .ref (ad 14 0)), (1, .int x1), (2, .int x2)]) hx hb d_Z_silent_107 rfl hl (by decide) rfl (fun ls hl => ?_)
    refine lv_aload_n hx hb d_Z_silent_108 rfl (lv_at hl 1 rfl) ?_
    refine gf_Z_16 hx hb hts hown hK hP (by decide) a_574 d_Z_silent_109 ?_
    refine lv_iload_n hx hb d_Z_silent_112 rfl (lv_at hl 2 rfl) ?_
    refine lv_iload_n hx hb d_Z_silent_113 rfl (lv_at hl 2 rfl) ?_
    refine lv_aload_n hx hb d_Z_silent_114 rfl (lv_at hl 1 rfl) ?_
    refine gf_Z_18 hx hb hts hown hK hP (by decide) a_576 d_Z_silent_115 ?_
    refine lv_iload_n hx hb d_Z_silent_118 rfl (lv_at hl 2 rfl) ?_
    obtain ⟨h12, hF⟩ := as_u hF
    refine l_zi hx hb hK hP 17 27 ⟨by decide, by decide, by decide⟩ rfl h12 d_Z_silent_119 ?_
    obtain ⟨r13, h14, hF⟩ := bs_u hF
    refine k_sp [.int x1, .int (z9.1 17 (x1).toNatClampNeg)] [.int x1, .ref (ad 29 0)] ⟨hx, hb, hml, hown, hts⟩ (c_Z_choice l  h14) (w_Z_choice hts a_738 ⟨Nat.le_of_ble_eq_true rfl, Nat.le_of_ble_eq_true rfl⟩) rfl rfl hl.1 (Nat.le_of_ble_eq_true rfl) ⟨Nat.zero_le _, Nat.zero_le _⟩ d_Z_silent_120 ?_
    obtain ⟨h15, hF⟩ := as_u hF
    obtain ⟨z16, h17, hF⟩ := nm_u hF
    refine s_zi hx hb hK hP 15 27 hD hS ⟨by decide, by decide, by decide⟩ rfl h15 h17 d_Z_silent_123 (fun H locs hP hS => ?_)
    refine lv_aload_n hx hb d_Z_silent_124 rfl (lv_at hl 1 rfl) ?_
    refine lv_iconst (v := 0) hx hb d_Z_silent_125 (by decide) ?_
    obtain ⟨z18, h19, hF⟩ := nm_u hF
    refine pf_Z_31 hx hb hts hown hK hP hD hS (by decide) h19 a_589 d_Z_silent_126 (fun H locs hP hS => ?_)
    refine lv_aload_n hx hb d_Z_silent_129 rfl (lv_at hl 1 rfl) ?_
    refine lv_iload_n hx hb d_Z_silent_130 rfl (lv_at hl 2 rfl) ?_
    refine lv_aload_n hx hb d_Z_silent_131 rfl (lv_at hl 1 rfl) ?_
    refine gf_Z_16 hx hb hts hown hK hP (by decide) a_574 d_Z_silent_132 ?_
    refine lv_iload_n hx hb d_Z_silent_135 rfl (lv_at hl 2 rfl) ?_
    obtain ⟨h20, hF⟩ := as_u hF
    refine l_zi hx hb hK hP 15 27 ⟨by decide, by decide, by decide⟩ rfl h20 d_Z_silent_136 ?_
    refine lv_iload_n hx hb d_Z_silent_137 rfl (lv_at hl 0 rfl) ?_
    refine lv_iconst (v := (-1)) hx hb d_Z_silent_138 (by decide) ?_
    refine lv_ixor hx hb d_Z_silent_139 ?_
    refine lv_iand hx hb d_Z_silent_140 ?_
    obtain ⟨z23, h22, hF⟩ := bs_u hF
    refine k_vv (ad 14 0) [.int x1, .int ((z18.1 15 (x1).toNatClampNeg) &&& ((z9.1 15 (x1).toNatClampNeg) ^^^ (-1)))] [] ⟨hx, hb, hml, hown, hts⟩ (c_Z_sendAll l D ad ca hD0 (z := z18) (u := u)  h22) (w_Z_sendAll hts a_741 ⟨Nat.le_of_ble_eq_true rfl, Nat.le_of_ble_eq_true rfl⟩) (rv_Z hK hP (by decide)) hP hK hS (fun _ h => h) rfl rfl hl.1 (Nat.le_of_ble_eq_true rfl) ⟨Nat.zero_le _, Nat.zero_le _⟩ d_Z_silent_141 (fun H locs hP hS => ?_)
    refine lv_aload_n hx hb d_Z_silent_144 rfl (lv_at hl 1 rfl) ?_
    refine gf_Z_31 hx hb hts hown hK hP (by decide) a_589 d_Z_silent_145 ?_
    obtain ⟨rfl, rfl⟩ := rt2 hF
    exact W.iret (v := (z23.1 0 31)) hx hb hr (fun t ht hW => ⟨⟨_, (), rfl, rfl, vp_at ht hP⟩, hS.F ht⟩) hS.2.2 d_Z_silent_148
  · have hF := it_f hF h6
    refine lv_iconst (v := 0) hx hb d_Z_silent_83 (by decide) ?_
    obtain ⟨rfl, rfl⟩ := rt2 hF
    exact W.iret (v := 0) hx hb hr (fun t ht hW => ⟨⟨_, (), rfl, rfl, vp_at ht hP⟩, hS.F ht⟩) hS.2.2 d_Z_silent_84
set_option maxHeartbeats 4000000 in
set_option maxRecDepth 100000 in
theorem jn_Z_silent_15 {p : Program} {l : Launch} {e : Env} {s : State} {m : MethodId} {args : Array Value} {below : List Frame} {meth : Method} {c : Code} {D : va_G} {ad : Nat → Nat → Nat} {ca : Nat → ClassId} {u : XC} (hx : p.tables.exec = Jvm.exec) (hb : c.code = b_Z_silent) (hr : meth.sig.returnType = (some .int)) (hts : ∀ w ∈ ALL, w.before args s = true) (hown : s.vm.findClass R_Z = some m.cls) (hlocks : meth.locks = false) (hml : c.maxLocals = 4) (hK : va_K D CLS (TYH ca) s) (hD0 : ∀ z u, va_D (AH ad) (wh ad ca z u)) (hD : ∀ z u, va_D (AH ad) (wh ad ca z u))  : ∀ (z : ZW) (x1 : Int32) (x2 : Int32)  (r0 : Int32) (z0 : ZW), Fj_Z_silent_15  z x1 x2 = some (r0, z0) → ∀ (H : Heap) (locs : List Loc) (ls : Array Slot), va_P D CLS (wh ad ca z u) H → va_S (AH ad) s.heap H locs → lv_has ls 4 [(0, .ref (ad 14 0)), (1, .int x1), (2, .int x2)] → W p l e ({ frames := 4, cells := 0, slots := 0, locals := 101 } : Room) s m args below meth c H locs 0 0 (MQ below (va_Qi (fun (r : Int32) (_ : Unit) => r = r0) (fun _ t => va_P D CLS (wh ad ca z0 u) t.heap) (AH ad)) args s 0 0 (AH ad)) (F0 m 15 ls [.ref (ad 14 0)]) := by
  intro z x1 x2 r0 z0 hF H locs ls hP hS hl
  unfold Fj_Z_silent_15 at hF
  refine lv_iconst (v := 1) hx hb d_Z_silent_15 (by decide) ?_
  refine lv_goto (tgt := 73) hx hb d_Z_silent_16 (by decide) ?_
  exact jn_Z_silent_73 hx hb hr hts hown hlocks hml hK hD0 hD  z x1 x2 1  r0 z0 hF _ _ _ hP hS (lv_sub hl [0, 1, 2] rfl)
set_option maxHeartbeats 4000000 in
set_option maxRecDepth 100000 in
theorem jn_Z_silent_68 {p : Program} {l : Launch} {e : Env} {s : State} {m : MethodId} {args : Array Value} {below : List Frame} {meth : Method} {c : Code} {D : va_G} {ad : Nat → Nat → Nat} {ca : Nat → ClassId} {u : XC} (hx : p.tables.exec = Jvm.exec) (hb : c.code = b_Z_silent) (hr : meth.sig.returnType = (some .int)) (hts : ∀ w ∈ ALL, w.before args s = true) (hown : s.vm.findClass R_Z = some m.cls) (hlocks : meth.locks = false) (hml : c.maxLocals = 4) (hK : va_K D CLS (TYH ca) s) (hD0 : ∀ z u, va_D (AH ad) (wh ad ca z u)) (hD : ∀ z u, va_D (AH ad) (wh ad ca z u))  : ∀ (z : ZW) (x1 : Int32) (x2 : Int32)  (r0 : Int32) (z0 : ZW), Fj_Z_silent_68  z x1 x2 = some (r0, z0) → ∀ (H : Heap) (locs : List Loc) (ls : Array Slot), va_P D CLS (wh ad ca z u) H → va_S (AH ad) s.heap H locs → lv_has ls 4 [(0, .ref (ad 14 0)), (1, .int x1), (2, .int x2)] → W p l e ({ frames := 4, cells := 0, slots := 0, locals := 101 } : Room) s m args below meth c H locs 0 0 (MQ below (va_Qi (fun (r : Int32) (_ : Unit) => r = r0) (fun _ t => va_P D CLS (wh ad ca z0 u) t.heap) (AH ad)) args s 0 0 (AH ad)) (F0 m 68 ls [.ref (ad 14 0)]) := by
  intro z x1 x2 r0 z0 hF H locs ls hP hS hl
  unfold Fj_Z_silent_68 at hF
  refine lv_iconst (v := 2) hx hb d_Z_silent_68 (by decide) ?_
  refine lv_goto (tgt := 73) hx hb d_Z_silent_69 (by decide) ?_
  exact jn_Z_silent_73 hx hb hr hts hown hlocks hml hK hD0 hD  z x1 x2 2  r0 z0 hF _ _ _ hP hS (lv_sub hl [0, 1, 2] rfl)
set_option maxHeartbeats 4000000 in
set_option maxRecDepth 100000 in
theorem c_Z_silent (l : Launch) (D : va_G) (ad : Nat → Nat → Nat) (ca : Nat → ClassId) (hD0 : ∀ z u, va_D (AH ad) (wh ad ca z u)) {z : ZW} {u : XC} {a1 : Int32} {a2 : Int32} {r0 : Int32} {z0 : ZW}  (hF : F_Z_silent z a1 a2 = some (r0, z0)) : Met l y_Z_silent ws_Z_silent ({ frames := 4, cells := 0, slots := 0, locals := 101 } : Room) (va_Pc [.ref (ad 14 0), .int a1, .int a2] (fun U => va_P D CLS (wh ad ca z u) U.heap ∧ va_K D CLS (TYH ca) U)) (va_Qi (fun (r : Int32) (_ : Unit) => r = r0) (fun _ t => va_P D CLS (wh ad ca z0 u) t.heap) (AH ad)) 0 0 (AH ad) := by
  refine Met.ofW (cc := b_Z_silent) (maxL := 4) (ret := (some .int)) (by decide +kernel) rfl ?_
  intro p e s m args below meth c s₁ B hml hv
  obtain ⟨rfl, hP, hK⟩ := hv
  have hx := B.exec
  have hb := B.bytes
  have hr := B.returns
  have hts : ∀ w ∈ ALL, w.before _ s = true := fun w h => atoms_spec (ws := ws_Z_silent) B.pre w (List.mem_cons_of_mem _ h)
  have hown : s.vm.findClass R_Z = some m.cls := findClass_of_methodNamed B.named
  have hlocks := B.notSynchronized
  have hD := hD0
  have hS : va_S (AH ad) s.heap s.heap [] := va_S.rf
  have hP : va_P D CLS (wh ad ca z u) s.heap := hP
  have hl := lv_entry ([.ref (ad 14 0), .int a1, .int a2]) (n := 4) (Nat.le_of_ble_eq_true rfl)
  rw [lg_entry_eq]
  generalize (lg_sl ([.ref (ad 14 0), .int a1, .int a2]) ++ List.replicate (4 - (lg_sl ([.ref (ad 14 0), .int a1, .int a2])).length) Slot.unset).toArray = ls at hl ⊢
  have hl : lv_has ls 4 [(0, .ref (ad 14 0)), (1, .int a1), (2, .int a2)] := hl
  unfold F_Z_silent at hF
  refine lv_aload_n hx hb d_Z_silent_0 rfl (lv_at hl 0 rfl) ?_
  refine lv_iload_n hx hb d_Z_silent_1 rfl (lv_at hl 1 rfl) ?_
  obtain ⟨r1, h2, hF⟩ := bs_u hF
  refine k_sp [.int a1] [.ref (ad 14 0)] ⟨hx, hb, hml, hown, hts⟩ (c_Z_isOffice l  h2) (w_Z_isOffice hts a_691 ⟨Nat.le_of_ble_eq_true rfl, Nat.le_of_ble_eq_true rfl⟩) rfl rfl hl.1 (Nat.le_of_ble_eq_true rfl) ⟨Nat.zero_le _, Nat.zero_le _⟩ d_Z_silent_2 ?_
  refine lv_if_eq (tgt := 15) hx hb d_Z_silent_5 (by decide) (fun h3 => ?_) (fun h3 => ?_)
  · have hF := it_t hF h3
    exact jn_Z_silent_15 hx hb hr hts hown hlocks hml hK hD0 hD  z a1 a2  r0 z0 hF _ _ _ hP hS (lv_sub hl [0, 1, 2] rfl)
  · have hF := it_f hF h3
    refine lv_iload_n hx hb d_Z_silent_8 rfl (lv_at hl 2 rfl) ?_
    obtain ⟨r24, h25, hF⟩ := bs_u hF
    refine k_sp [.int a2] [.ref (ad 14 0)] ⟨hx, hb, hml, hown, hts⟩ (c_Z_isOffice l  h25) (w_Z_isOffice hts a_691 ⟨Nat.le_of_ble_eq_true rfl, Nat.le_of_ble_eq_true rfl⟩) rfl rfl hl.1 (Nat.le_of_ble_eq_true rfl) ⟨Nat.zero_le _, Nat.zero_le _⟩ d_Z_silent_9 ?_
    refine lv_if_ne (tgt := 19) hx hb d_Z_silent_12 (by decide) (fun h26 => ?_) (fun h26 => ?_)
    · have hF := it_f hF h26
      refine lv_aload_n hx hb d_Z_silent_19 rfl (lv_at hl 0 rfl) ?_
      refine gf_Z_6 hx hb hts hown hK hP (by decide) a_564 d_Z_silent_20 ?_
      refine lv_iload_n hx hb d_Z_silent_23 rfl (lv_at hl 1 rfl) ?_
      obtain ⟨h27, hF⟩ := as_u hF
      refine l_zb hx hb hK hP 5 27 rfl rfl h27 d_Z_silent_24 ?_
      refine lv_if_ne (tgt := 68) hx hb d_Z_silent_25 (by decide) (fun h28 => ?_) (fun h28 => ?_)
      · have hF := it_f hF h28
        exact jn_Z_silent_68 hx hb hr hts hown hlocks hml hK hD0 hD  z a1 a2  r0 z0 hF _ _ _ hP hS (lv_sub hl [0, 1, 2] rfl)
      · have hF := it_t hF h28
        refine lv_aload_n hx hb d_Z_silent_28 rfl (lv_at hl 0 rfl) ?_
        refine gf_Z_12 hx hb hts hown hK hP (by decide) a_570 d_Z_silent_29 ?_
        refine lv_iload_n hx hb d_Z_silent_32 rfl (lv_at hl 1 rfl) ?_
        obtain ⟨h29, hF⟩ := as_u hF
        refine l_zi hx hb hK hP 11 27 ⟨by decide, by decide, by decide⟩ rfl h29 d_Z_silent_33 ?_
        refine lv_if_eq (tgt := 68) hx hb d_Z_silent_34 (by decide) (fun h30 => ?_) (fun h30 => ?_)
        · have hF := it_t hF h30
          exact jn_Z_silent_68 hx hb hr hts hown hlocks hml hK hD0 hD  z a1 a2  r0 z0 hF _ _ _ hP hS (lv_sub hl [0, 1, 2] rfl)
        · have hF := it_f hF h30
          refine lv_aload_n hx hb d_Z_silent_37 rfl (lv_at hl 0 rfl) ?_
          refine gf_Z_18 hx hb hts hown hK hP (by decide) a_576 d_Z_silent_38 ?_
          refine lv_iload_n hx hb d_Z_silent_41 rfl (lv_at hl 1 rfl) ?_
          obtain ⟨h31, hF⟩ := as_u hF
          refine l_zi hx hb hK hP 17 27 ⟨by decide, by decide, by decide⟩ rfl h31 d_Z_silent_42 ?_
          refine lv_iload_n hx hb d_Z_silent_43 rfl (lv_at hl 2 rfl) ?_
          refine lv_ishr hx hb d_Z_silent_44 ?_
          refine lv_iconst (v := 1) hx hb d_Z_silent_45 (by decide) ?_
          refine lv_iand hx hb d_Z_silent_46 ?_
          refine lv_iconst (v := 1) hx hb d_Z_silent_47 (by decide) ?_
          refine lv_icmp_eq (tgt := 68) hx hb d_Z_silent_48 (by decide) (fun h32 => ?_) (fun h32 => ?_)
          · have hF := it_t hF h32
            exact jn_Z_silent_68 hx hb hr hts hown hlocks hml hK hD0 hD  z a1 a2  r0 z0 hF _ _ _ hP hS (lv_sub hl [0, 1, 2] rfl)
          · have hF := it_f hF h32
            refine lv_iload_n hx hb d_Z_silent_51 rfl (lv_at hl 1 rfl) ?_
            refine lv_aload_n hx hb d_Z_silent_52 rfl (lv_at hl 0 rfl) ?_
            refine gf_Z_18 hx hb hts hown hK hP (by decide) a_576 d_Z_silent_53 ?_
            refine lv_iload_n hx hb d_Z_silent_56 rfl (lv_at hl 1 rfl) ?_
            obtain ⟨h33, hF⟩ := as_u hF
            refine l_zi hx hb hK hP 17 27 ⟨by decide, by decide, by decide⟩ rfl h33 d_Z_silent_57 ?_
            refine lv_iconst (v := 1) hx hb d_Z_silent_58 (by decide) ?_
            refine lv_iload_n hx hb d_Z_silent_59 rfl (lv_at hl 2 rfl) ?_
            refine lv_ishl hx hb d_Z_silent_60 ?_
            refine lv_ior hx hb d_Z_silent_61 ?_
            obtain ⟨r34, h35, hF⟩ := bs_u hF
            refine k_sp [.int a1, .int ((z.1 17 (a1).toNatClampNeg) ||| (1 <<< (a2 &&& 31)))] [.ref (ad 14 0)] ⟨hx, hb, hml, hown, hts⟩ (c_Z_choice l  h35) (w_Z_choice hts a_738 ⟨Nat.le_of_ble_eq_true rfl, Nat.le_of_ble_eq_true rfl⟩) rfl rfl hl.1 (Nat.le_of_ble_eq_true rfl) ⟨Nat.zero_le _, Nat.zero_le _⟩ d_Z_silent_62 ?_
            refine lv_if_ne (tgt := 72) hx hb d_Z_silent_65 (by decide) (fun h36 => ?_) (fun h36 => ?_)
            · have hF := it_f hF h36
              refine lv_iconst (v := 0) hx hb d_Z_silent_72 (by decide) ?_
              exact jn_Z_silent_73 hx hb hr hts hown hlocks hml hK hD0 hD  z a1 a2 0  r0 z0 hF _ _ _ hP hS (lv_sub hl [0, 1, 2] rfl)
            · have hF := it_t hF h36
              exact jn_Z_silent_68 hx hb hr hts hown hlocks hml hK hD0 hD  z a1 a2  r0 z0 hF _ _ _ hP hS (lv_sub hl [0, 1, 2] rfl)
    · have hF := it_t hF h26
      exact jn_Z_silent_15 hx hb hr hts hown hlocks hml hK hD0 hD  z a1 a2  r0 z0 hF _ _ _ hP hS (lv_sub hl [0, 1, 2] rfl)
def ws_Z_resend : List Cond := Cond.code y_Z_resend b_Z_resend 2 (some .int) :: ALL
theorem w_Z_resend {R : Room} {s : State} {args : Array Value} {own : String} {index : Nat} (hts : ∀ w ∈ ALL, w.before args s = true) (hlk : Cond.methodLink own index y_Z_resend ∈ ALL) (hR : (({ frames := 2, cells := 0, slots := 0, locals := 49 } : Room)).frames + 1 ≤ R.frames ∧ 8 + (2 + 11) + (({ frames := 2, cells := 0, slots := 0, locals := 49 } : Room)).locals ≤ R.locals) : CallW R s args own R_Z index y_Z_resend b_Z_resend 2 (some .int) ws_Z_resend ({ frames := 2, cells := 0, slots := 0, locals := 49 } : Room) 0 0 1 := ⟨callB_of 1 hts (good_c a_756) rfl rfl rfl (hts _ a_8) (hts _ hlk) (by decide +kernel) hR, hts _ a_754, hts _ a_755⟩
theorem d_Z_resend_0 : decode b_Z_resend 0 = .ok (.aload_n 0, 1) := by decide +kernel
theorem d_Z_resend_1 : decode b_Z_resend 1 = .ok (.iload_n 1, 1) := by decide +kernel
theorem d_Z_resend_2 : decode b_Z_resend 2 = .ok (.invokestatic 122, 3) := by decide +kernel
theorem d_Z_resend_5 : decode b_Z_resend 5 = .ok (.ifCond .ne 7, 3) := by decide +kernel
theorem d_Z_resend_8 : decode b_Z_resend 8 = .ok (.iconst 1, 1) := by decide +kernel
theorem d_Z_resend_9 : decode b_Z_resend 9 = .ok (.goto 26, 3) := by decide +kernel
theorem d_Z_resend_12 : decode b_Z_resend 12 = .ok (.aload_n 0, 1) := by decide +kernel
theorem d_Z_resend_13 : decode b_Z_resend 13 = .ok (.getfield 22, 3) := by decide +kernel
theorem d_Z_resend_16 : decode b_Z_resend 16 = .ok (.iload_n 1, 1) := by decide +kernel
theorem d_Z_resend_17 : decode b_Z_resend 17 = .ok (.baload, 1) := by decide +kernel
theorem d_Z_resend_18 : decode b_Z_resend 18 = .ok (.ifCond .ne 12, 3) := by decide +kernel
theorem d_Z_resend_21 : decode b_Z_resend 21 = .ok (.aload_n 0, 1) := by decide +kernel
theorem d_Z_resend_22 : decode b_Z_resend 22 = .ok (.getfield 41, 3) := by decide +kernel
theorem d_Z_resend_25 : decode b_Z_resend 25 = .ok (.iload_n 1, 1) := by decide +kernel
theorem d_Z_resend_26 : decode b_Z_resend 26 = .ok (.iaload, 1) := by decide +kernel
theorem d_Z_resend_27 : decode b_Z_resend 27 = .ok (.ifCond .ne 7, 3) := by decide +kernel
theorem d_Z_resend_30 : decode b_Z_resend 30 = .ok (.iconst 2, 1) := by decide +kernel
theorem d_Z_resend_31 : decode b_Z_resend 31 = .ok (.goto 4, 3) := by decide +kernel
theorem d_Z_resend_34 : decode b_Z_resend 34 = .ok (.iconst 0, 1) := by decide +kernel
theorem d_Z_resend_35 : decode b_Z_resend 35 = .ok (.putfield 95, 3) := by decide +kernel
theorem d_Z_resend_38 : decode b_Z_resend 38 = .ok (.aload_n 0, 1) := by decide +kernel
theorem d_Z_resend_39 : decode b_Z_resend 39 = .ok (.getfield 95, 3) := by decide +kernel
theorem d_Z_resend_42 : decode b_Z_resend 42 = .ok (.ifCond .le 5, 3) := by decide +kernel
theorem d_Z_resend_45 : decode b_Z_resend 45 = .ok (.iconst 0, 1) := by decide +kernel
theorem d_Z_resend_46 : decode b_Z_resend 46 = .ok (.ireturn, 1) := by decide +kernel
theorem d_Z_resend_47 : decode b_Z_resend 47 = .ok (.aload_n 0, 1) := by decide +kernel
theorem d_Z_resend_48 : decode b_Z_resend 48 = .ok (.iconst 0, 1) := by decide +kernel
theorem d_Z_resend_49 : decode b_Z_resend 49 = .ok (.putfield 128, 3) := by decide +kernel
theorem d_Z_resend_52 : decode b_Z_resend 52 = .ok (.aload_n 0, 1) := by decide +kernel
theorem d_Z_resend_53 : decode b_Z_resend 53 = .ok (.iload_n 1, 1) := by decide +kernel
theorem d_Z_resend_54 : decode b_Z_resend 54 = .ok (.aload_n 0, 1) := by decide +kernel
theorem d_Z_resend_55 : decode b_Z_resend 55 = .ok (.getfield 53, 3) := by decide +kernel
theorem d_Z_resend_58 : decode b_Z_resend 58 = .ok (.iload_n 1, 1) := by decide +kernel
theorem d_Z_resend_59 : decode b_Z_resend 59 = .ok (.iaload, 1) := by decide +kernel
theorem d_Z_resend_60 : decode b_Z_resend 60 = .ok (.aload_n 0, 1) := by decide +kernel
theorem d_Z_resend_61 : decode b_Z_resend 61 = .ok (.getfield 56, 3) := by decide +kernel
theorem d_Z_resend_64 : decode b_Z_resend 64 = .ok (.iload_n 1, 1) := by decide +kernel
theorem d_Z_resend_65 : decode b_Z_resend 65 = .ok (.iaload, 1) := by decide +kernel
theorem d_Z_resend_66 : decode b_Z_resend 66 = .ok (.iconst (-1), 1) := by decide +kernel
theorem d_Z_resend_67 : decode b_Z_resend 67 = .ok (.ixor, 1) := by decide +kernel
theorem d_Z_resend_68 : decode b_Z_resend 68 = .ok (.iand, 1) := by decide +kernel
theorem d_Z_resend_69 : decode b_Z_resend 69 = .ok (.invokevirtual 156, 3) := by decide +kernel
theorem d_Z_resend_72 : decode b_Z_resend 72 = .ok (.aload_n 0, 1) := by decide +kernel
theorem d_Z_resend_73 : decode b_Z_resend 73 = .ok (.getfield 128, 3) := by decide +kernel
theorem d_Z_resend_76 : decode b_Z_resend 76 = .ok (.ireturn, 1) := by decide +kernel
def Fj_Z_resend_35  (z : ZW) (x1 : Int32) (w0 : Int32) : Option (Int32 × ZW) := (nm_ (pz z 0 0 w0) fun z6 => (if (z6.1 0 0) ≤ 0 then (nm_ (pz z6 0 31 0) fun z9 => (if 0 ≤ x1 ∧ (x1).toNatClampNeg < 27 then (if 0 ≤ x1 ∧ (x1).toNatClampNeg < 27 then (bs_ (F_Z_sendAll z9 x1 ((z9.1 15 (x1).toNatClampNeg) &&& ((z9.1 16 (x1).toNatClampNeg) ^^^ (-1)))) fun z15 => some ((z15.1 0 31), z15)) else none) else none)) else some (0, z6)))
def Fj_Z_resend_30  (z : ZW) (x1 : Int32) : Option (Int32 × ZW) := Fj_Z_resend_35  z x1 2
def F_Z_resend (z : ZW) (a1 : Int32) : Option (Int32 × ZW) := (bs_ (F_Z_isOffice a1) fun r1 => (if r1 = 0 then Fj_Z_resend_35  z a1 1 else (if 0 ≤ a1 ∧ (a1).toNatClampNeg < 27 then (if (z.1 5 (a1).toNatClampNeg) = 0 then (if 0 ≤ a1 ∧ (a1).toNatClampNeg < 27 then (if (z.1 11 (a1).toNatClampNeg) = 0 then Fj_Z_resend_30  z a1 else Fj_Z_resend_35  z a1 0) else none) else Fj_Z_resend_30  z a1) else none)))
set_option maxHeartbeats 4000000 in
set_option maxRecDepth 100000 in
theorem jn_Z_resend_35 {p : Program} {l : Launch} {e : Env} {s : State} {m : MethodId} {args : Array Value} {below : List Frame} {meth : Method} {c : Code} {D : va_G} {ad : Nat → Nat → Nat} {ca : Nat → ClassId} {u : XC} (hx : p.tables.exec = Jvm.exec) (hb : c.code = b_Z_resend) (hr : meth.sig.returnType = (some .int)) (hts : ∀ w ∈ ALL, w.before args s = true) (hown : s.vm.findClass R_Z = some m.cls) (hlocks : meth.locks = false) (hml : c.maxLocals = 2) (hK : va_K D CLS (TYH ca) s) (hD0 : ∀ z u, va_D (AH ad) (wh ad ca z u)) (hD : ∀ z u, va_D (AH ad) (wh ad ca z u))  : ∀ (z : ZW) (x1 : Int32) (w0 : Int32)  (r0 : Int32) (z0 : ZW), Fj_Z_resend_35  z x1 w0 = some (r0, z0) → ∀ (H : Heap) (locs : List Loc) (ls : Array Slot), va_P D CLS (wh ad ca z u) H → va_S (AH ad) s.heap H locs → lv_has ls 2 [(0, .ref (ad 14 0)), (1, .int x1)] → W p l e ({ frames := 2, cells := 0, slots := 0, locals := 49 } : Room) s m args below meth c H locs 0 0 (MQ below (va_Qi (fun (r : Int32) (_ : Unit) => r = r0) (fun _ t => va_P D CLS (wh ad ca z0 u) t.heap) (AH ad)) args s 0 0 (AH ad)) (F0 m 35 ls [.int w0, .ref (ad 14 0)]) := by
  intro z x1 w0 r0 z0 hF H locs ls hP hS hl
  unfold Fj_Z_resend_35 at hF
  obtain ⟨z6, h7, hF⟩ := nm_u hF
  refine pf_Z_0 hx hb hts hown hK hP hD hS (by decide) h7 a_558 d_Z_resend_35 (fun H locs hP hS => ?_)
  refine lv_aload_n hx hb d_Z_resend_38 rfl (lv_at hl 0 rfl) ?_
  refine gf_Z_0 hx hb hts hown hK hP (by decide) a_558 d_Z_resend_39 ?_
  refine lv_if_le (tgt := 47) hx hb d_Z_resend_42 (by decide) (fun h8 => ?_) (fun h8 => ?_)
  · have hF := it_t hF h8
    refine lv_aload_n hx hb d_Z_resend_47 rfl (lv_at hl 0 rfl) ?_
    refine lv_iconst (v := 0) hx hb d_Z_resend_48 (by decide) ?_
    obtain ⟨z9, h10, hF⟩ := nm_u hF
    refine pf_Z_31 hx hb hts hown hK hP hD hS (by decide) h10 a_589 d_Z_resend_49 (fun H locs hP hS => ?_)
    refine lv_aload_n hx hb d_Z_resend_52 rfl (lv_at hl 0 rfl) ?_
    refine lv_iload_n hx hb d_Z_resend_53 rfl (lv_at hl 1 rfl) ?_
    refine lv_aload_n hx hb d_Z_resend_54 rfl (lv_at hl 0 rfl) ?_
    refine gf_Z_16 hx hb hts hown hK hP (by decide) a_574 d_Z_resend_55 ?_
    refine lv_iload_n hx hb d_Z_resend_58 rfl (lv_at hl 1 rfl) ?_
    obtain ⟨h11, hF⟩ := as_u hF
    refine l_zi hx hb hK hP 15 27 ⟨by decide, by decide, by decide⟩ rfl h11 d_Z_resend_59 ?_
    refine lv_aload_n hx hb d_Z_resend_60 rfl (lv_at hl 0 rfl) ?_
    refine gf_Z_17 hx hb hts hown hK hP (by decide) a_575 d_Z_resend_61 ?_
    refine lv_iload_n hx hb d_Z_resend_64 rfl (lv_at hl 1 rfl) ?_
    obtain ⟨h12, hF⟩ := as_u hF
    refine l_zi hx hb hK hP 16 27 ⟨by decide, by decide, by decide⟩ rfl h12 d_Z_resend_65 ?_
    refine lv_iconst (v := (-1)) hx hb d_Z_resend_66 (by decide) ?_
    refine lv_ixor hx hb d_Z_resend_67 ?_
    refine lv_iand hx hb d_Z_resend_68 ?_
    obtain ⟨z15, h14, hF⟩ := bs_u hF
    refine k_vv (ad 14 0) [.int x1, .int ((z9.1 15 (x1).toNatClampNeg) &&& ((z9.1 16 (x1).toNatClampNeg) ^^^ (-1)))] [] ⟨hx, hb, hml, hown, hts⟩ (c_Z_sendAll l D ad ca hD0 (z := z9) (u := u)  h14) (w_Z_sendAll hts a_741 ⟨Nat.le_of_ble_eq_true rfl, Nat.le_of_ble_eq_true rfl⟩) (rv_Z hK hP (by decide)) hP hK hS (fun _ h => h) rfl rfl hl.1 (Nat.le_of_ble_eq_true rfl) ⟨Nat.zero_le _, Nat.zero_le _⟩ d_Z_resend_69 (fun H locs hP hS => ?_)
    refine lv_aload_n hx hb d_Z_resend_72 rfl (lv_at hl 0 rfl) ?_
    refine gf_Z_31 hx hb hts hown hK hP (by decide) a_589 d_Z_resend_73 ?_
    obtain ⟨rfl, rfl⟩ := rt2 hF
    exact W.iret (v := (z15.1 0 31)) hx hb hr (fun t ht hW => ⟨⟨_, (), rfl, rfl, vp_at ht hP⟩, hS.F ht⟩) hS.2.2 d_Z_resend_76
  · have hF := it_f hF h8
    refine lv_iconst (v := 0) hx hb d_Z_resend_45 (by decide) ?_
    obtain ⟨rfl, rfl⟩ := rt2 hF
    exact W.iret (v := 0) hx hb hr (fun t ht hW => ⟨⟨_, (), rfl, rfl, vp_at ht hP⟩, hS.F ht⟩) hS.2.2 d_Z_resend_46
set_option maxHeartbeats 4000000 in
set_option maxRecDepth 100000 in
theorem jn_Z_resend_30 {p : Program} {l : Launch} {e : Env} {s : State} {m : MethodId} {args : Array Value} {below : List Frame} {meth : Method} {c : Code} {D : va_G} {ad : Nat → Nat → Nat} {ca : Nat → ClassId} {u : XC} (hx : p.tables.exec = Jvm.exec) (hb : c.code = b_Z_resend) (hr : meth.sig.returnType = (some .int)) (hts : ∀ w ∈ ALL, w.before args s = true) (hown : s.vm.findClass R_Z = some m.cls) (hlocks : meth.locks = false) (hml : c.maxLocals = 2) (hK : va_K D CLS (TYH ca) s) (hD0 : ∀ z u, va_D (AH ad) (wh ad ca z u)) (hD : ∀ z u, va_D (AH ad) (wh ad ca z u))  : ∀ (z : ZW) (x1 : Int32)  (r0 : Int32) (z0 : ZW), Fj_Z_resend_30  z x1 = some (r0, z0) → ∀ (H : Heap) (locs : List Loc) (ls : Array Slot), va_P D CLS (wh ad ca z u) H → va_S (AH ad) s.heap H locs → lv_has ls 2 [(0, .ref (ad 14 0)), (1, .int x1)] → W p l e ({ frames := 2, cells := 0, slots := 0, locals := 49 } : Room) s m args below meth c H locs 0 0 (MQ below (va_Qi (fun (r : Int32) (_ : Unit) => r = r0) (fun _ t => va_P D CLS (wh ad ca z0 u) t.heap) (AH ad)) args s 0 0 (AH ad)) (F0 m 30 ls [.ref (ad 14 0)]) := by
  intro z x1 r0 z0 hF H locs ls hP hS hl
  unfold Fj_Z_resend_30 at hF
  refine lv_iconst (v := 2) hx hb d_Z_resend_30 (by decide) ?_
  refine lv_goto (tgt := 35) hx hb d_Z_resend_31 (by decide) ?_
  exact jn_Z_resend_35 hx hb hr hts hown hlocks hml hK hD0 hD  z x1 2  r0 z0 hF _ _ _ hP hS (lv_sub hl [0, 1] rfl)
set_option maxHeartbeats 4000000 in
set_option maxRecDepth 100000 in
theorem c_Z_resend (l : Launch) (D : va_G) (ad : Nat → Nat → Nat) (ca : Nat → ClassId) (hD0 : ∀ z u, va_D (AH ad) (wh ad ca z u)) {z : ZW} {u : XC} {a1 : Int32} {r0 : Int32} {z0 : ZW}  (hF : F_Z_resend z a1 = some (r0, z0)) : Met l y_Z_resend ws_Z_resend ({ frames := 2, cells := 0, slots := 0, locals := 49 } : Room) (va_Pc [.ref (ad 14 0), .int a1] (fun U => va_P D CLS (wh ad ca z u) U.heap ∧ va_K D CLS (TYH ca) U)) (va_Qi (fun (r : Int32) (_ : Unit) => r = r0) (fun _ t => va_P D CLS (wh ad ca z0 u) t.heap) (AH ad)) 0 0 (AH ad) := by
  refine Met.ofW (cc := b_Z_resend) (maxL := 2) (ret := (some .int)) (by decide +kernel) rfl ?_
  intro p e s m args below meth c s₁ B hml hv
  obtain ⟨rfl, hP, hK⟩ := hv
  have hx := B.exec
  have hb := B.bytes
  have hr := B.returns
  have hts : ∀ w ∈ ALL, w.before _ s = true := fun w h => atoms_spec (ws := ws_Z_resend) B.pre w (List.mem_cons_of_mem _ h)
  have hown : s.vm.findClass R_Z = some m.cls := findClass_of_methodNamed B.named
  have hlocks := B.notSynchronized
  have hD := hD0
  have hS : va_S (AH ad) s.heap s.heap [] := va_S.rf
  have hP : va_P D CLS (wh ad ca z u) s.heap := hP
  have hl := lv_entry ([.ref (ad 14 0), .int a1]) (n := 2) (Nat.le_of_ble_eq_true rfl)
  rw [lg_entry_eq]
  generalize (lg_sl ([.ref (ad 14 0), .int a1]) ++ List.replicate (2 - (lg_sl ([.ref (ad 14 0), .int a1])).length) Slot.unset).toArray = ls at hl ⊢
  have hl : lv_has ls 2 [(0, .ref (ad 14 0)), (1, .int a1)] := hl
  unfold F_Z_resend at hF
  refine lv_aload_n hx hb d_Z_resend_0 rfl (lv_at hl 0 rfl) ?_
  refine lv_iload_n hx hb d_Z_resend_1 rfl (lv_at hl 1 rfl) ?_
  obtain ⟨r1, h2, hF⟩ := bs_u hF
  refine k_sp [.int a1] [.ref (ad 14 0)] ⟨hx, hb, hml, hown, hts⟩ (c_Z_isOffice l  h2) (w_Z_isOffice hts a_691 ⟨Nat.le_of_ble_eq_true rfl, Nat.le_of_ble_eq_true rfl⟩) rfl rfl hl.1 (Nat.le_of_ble_eq_true rfl) ⟨Nat.zero_le _, Nat.zero_le _⟩ d_Z_resend_2 ?_
  refine lv_if_ne (tgt := 12) hx hb d_Z_resend_5 (by decide) (fun h3 => ?_) (fun h3 => ?_)
  · have hF := it_f hF h3
    refine lv_aload_n hx hb d_Z_resend_12 rfl (lv_at hl 0 rfl) ?_
    refine gf_Z_6 hx hb hts hown hK hP (by decide) a_564 d_Z_resend_13 ?_
    refine lv_iload_n hx hb d_Z_resend_16 rfl (lv_at hl 1 rfl) ?_
    obtain ⟨h4, hF⟩ := as_u hF
    refine l_zb hx hb hK hP 5 27 rfl rfl h4 d_Z_resend_17 ?_
    refine lv_if_ne (tgt := 30) hx hb d_Z_resend_18 (by decide) (fun h5 => ?_) (fun h5 => ?_)
    · have hF := it_f hF h5
      exact jn_Z_resend_30 hx hb hr hts hown hlocks hml hK hD0 hD  z a1  r0 z0 hF _ _ _ hP hS (lv_sub hl [0, 1] rfl)
    · have hF := it_t hF h5
      refine lv_aload_n hx hb d_Z_resend_21 rfl (lv_at hl 0 rfl) ?_
      refine gf_Z_12 hx hb hts hown hK hP (by decide) a_570 d_Z_resend_22 ?_
      refine lv_iload_n hx hb d_Z_resend_25 rfl (lv_at hl 1 rfl) ?_
      obtain ⟨h16, hF⟩ := as_u hF
      refine l_zi hx hb hK hP 11 27 ⟨by decide, by decide, by decide⟩ rfl h16 d_Z_resend_26 ?_
      refine lv_if_ne (tgt := 34) hx hb d_Z_resend_27 (by decide) (fun h17 => ?_) (fun h17 => ?_)
      · have hF := it_f hF h17
        refine lv_iconst (v := 0) hx hb d_Z_resend_34 (by decide) ?_
        exact jn_Z_resend_35 hx hb hr hts hown hlocks hml hK hD0 hD  z a1 0  r0 z0 hF _ _ _ hP hS (lv_sub hl [0, 1] rfl)
      · have hF := it_t hF h17
        exact jn_Z_resend_30 hx hb hr hts hown hlocks hml hK hD0 hD  z a1  r0 z0 hF _ _ _ hP hS (lv_sub hl [0, 1] rfl)
  · have hF := it_t hF h3
    refine lv_iconst (v := 1) hx hb d_Z_resend_8 (by decide) ?_
    refine lv_goto (tgt := 35) hx hb d_Z_resend_9 (by decide) ?_
    exact jn_Z_resend_35 hx hb hr hts hown hlocks hml hK hD0 hD  z a1 1  r0 z0 hF _ _ _ hP hS (lv_sub hl [0, 1] rfl)
