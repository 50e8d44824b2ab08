def ws_T_lineOf : List Cond := Cond.code y_T_lineOf b_T_lineOf 3 (some .int) :: ALL
theorem w_T_lineOf {R : Room} {s : State} {args : Array Value} {own : String} {index : Nat} (hts : ∀ w ∈ ALL, w.before args s = true) (hlk : Cond.methodLink own index y_T_lineOf ∈ ALL) (hR : (({ frames := 0, cells := 0, slots := 0, locals := 0 } : Room)).frames + 1 ≤ R.frames ∧ 8 + (3 + 11) + (({ frames := 0, cells := 0, slots := 0, locals := 0 } : Room)).locals ≤ R.locals) : CallW R s args own R_T index y_T_lineOf b_T_lineOf 3 (some .int) ws_T_lineOf ({ frames := 0, cells := 0, slots := 0, locals := 0 } : Room) 0 0 1 := ⟨callB_of 1 hts (good_c a_242) rfl rfl rfl (hts _ a_7) (hts _ hlk) (by decide +kernel) hR, hts _ a_240, hts _ a_241⟩
theorem d_T_lineOf_0 : decode b_T_lineOf 0 = .ok (.iconst 0, 1) := by decide +kernel
theorem d_T_lineOf_1 : decode b_T_lineOf 1 = .ok (.istore_n 2, 1) := by decide +kernel
theorem d_T_lineOf_2 : decode b_T_lineOf 2 = .ok (.iload_n 2, 1) := by decide +kernel
theorem d_T_lineOf_3 : decode b_T_lineOf 3 = .ok (.aload_n 0, 1) := by decide +kernel
theorem d_T_lineOf_4 : decode b_T_lineOf 4 = .ok (.getfield 15, 3) := by decide +kernel
theorem d_T_lineOf_7 : decode b_T_lineOf 7 = .ok (.if_icmp .ge 21, 3) := by decide +kernel
theorem d_T_lineOf_10 : decode b_T_lineOf 10 = .ok (.aload_n 0, 1) := by decide +kernel
theorem d_T_lineOf_11 : decode b_T_lineOf 11 = .ok (.getfield 18, 3) := by decide +kernel
theorem d_T_lineOf_14 : decode b_T_lineOf 14 = .ok (.iload_n 2, 1) := by decide +kernel
theorem d_T_lineOf_15 : decode b_T_lineOf 15 = .ok (.iaload, 1) := by decide +kernel
theorem d_T_lineOf_16 : decode b_T_lineOf 16 = .ok (.iload_n 1, 1) := by decide +kernel
theorem d_T_lineOf_17 : decode b_T_lineOf 17 = .ok (.if_icmp .ne 5, 3) := by decide +kernel
theorem d_T_lineOf_20 : decode b_T_lineOf 20 = .ok (.iload_n 2, 1) := by decide +kernel
theorem d_T_lineOf_21 : decode b_T_lineOf 21 = .ok (.ireturn, 1) := by decide +kernel
theorem d_T_lineOf_22 : decode b_T_lineOf 22 = .ok (.iinc 2 1, 3) := by decide +kernel
theorem d_T_lineOf_25 : decode b_T_lineOf 25 = .ok (.goto (-23), 3) := by decide +kernel
theorem d_T_lineOf_28 : decode b_T_lineOf 28 = .ok (.iconst (-1), 1) := by decide +kernel
theorem d_T_lineOf_29 : decode b_T_lineOf 29 = .ok (.ireturn, 1) := by decide +kernel
def Fl_T_lineOf_2  : Nat → XC → Nat → Int32 → Int32 → Option (Int32)
  | 0, _, _, _, _ => none
  | n + 1, u, y0, x1, x2 => (if (u.1 5 y0 1) ≤ x2 then some (-1) else (if 0 ≤ x2 ∧ (x2).toNatClampNeg < 4 then (if (u.1 12 y0 (x2).toNatClampNeg) = x1 then some x2 else (Fl_T_lineOf_2 n) u y0 x1 (x2 + 1)) else none))
def F_T_lineOf (u : XC) (i0 : Nat) (a1 : Int32) : Option (Int32) := Fl_T_lineOf_2  200 u i0 a1 0
set_option maxHeartbeats 4000000 in
set_option maxRecDepth 100000 in
theorem lp_T_lineOf_2 {p : Program} {l : Launch} {e : Env} {s : State} {m : MethodId} {args : Array Value} {below : List Frame} {meth : Method} {c : Code} {D : va_G} {ad : Nat → Nat → Nat} {ca : Nat → ClassId} {z : ZW} (hx : p.tables.exec = Jvm.exec) (hb : c.code = b_T_lineOf) (hr : meth.sig.returnType = (some .int)) (hts : ∀ w ∈ ALL, w.before args s = true) (hown : s.vm.findClass R_T = some m.cls) (hlocks : meth.locks = false) (hml : c.maxLocals = 3) (hK : va_K D CLS (TYH ca) s) (hD0 : ∀ z u, va_D (AH ad) (wh ad ca z u)) (hD : ∀ z u, va_D (AH ad) (wh ad ca z u))  : ∀ (n : Nat), ∀ (u : XC) (y0 : Nat) (x1 : Int32) (x2 : Int32) (hy0 : y0 < 40) (r0 : Int32), Fl_T_lineOf_2  n u y0 x1 x2 = some r0 → ∀ (H : Heap) (locs : List Loc) (ls : Array Slot), va_P D CLS (wh ad ca z u) H → va_S (fun _ => True) s.heap H locs → H = s.heap → (∀ q ∈ locs, (fun _ => False) q.base) → lv_has ls 3 [(0, .ref (ad 5 y0)), (1, .int x1), (2, .int x2)] → W p l e ({ frames := 0, cells := 0, slots := 0, locals := 0 } : Room) s m args below meth c H locs 0 0 (MQ below (vp_Si (fun r => r = r0)) args s 0 0 (fun _ => False)) (F0 m 2 ls []) := by
  intro n
  induction n with
  | zero => intro u y0 x1 x2 hy0 r0 hF; rw [Fl_T_lineOf_2] at hF; cases hF
  | succ n ih =>
    intro u y0 x1 x2 hy0 r0 hF H locs ls hP hS hH hN hl
    rw [Fl_T_lineOf_2] at hF
    refine lv_iload_n hx hb d_T_lineOf_2 rfl (lv_at hl 2 rfl) ?_
    refine lv_aload_n hx hb d_T_lineOf_3 rfl (lv_at hl 0 rfl) ?_
    refine gf_T_1 hx hb hts hown hK hP hy0 a_191 d_T_lineOf_4 ?_
    refine lv_icmp_ge (tgt := 28) hx hb d_T_lineOf_7 (by decide) (fun h1 => ?_) (fun h1 => ?_)
    · have hF := it_t hF h1
      refine lv_iconst (v := (-1)) hx hb d_T_lineOf_28 (by decide) ?_
      have hF := rt1 hF
      subst hF
      exact W.iret (v := (-1)) hx hb hr (fun t ht hW => ⟨_, rfl, rfl, ht.trans hH⟩) hN d_T_lineOf_29
    · have hF := it_f hF h1
      refine lv_aload_n hx hb d_T_lineOf_10 rfl (lv_at hl 0 rfl) ?_
      refine gf_T_2 hx hb hts hown hK hP hy0 a_193 d_T_lineOf_11 ?_
      refine lv_iload_n hx hb d_T_lineOf_14 rfl (lv_at hl 2 rfl) ?_
      obtain ⟨h2, hF⟩ := as_u hF
      refine il_12 hx hb hK hP hy0 h2 d_T_lineOf_15 ?_
      refine lv_iload_n hx hb d_T_lineOf_16 rfl (lv_at hl 1 rfl) ?_
      refine lv_icmp_ne (tgt := 22) hx hb d_T_lineOf_17 (by decide) (fun h3 => ?_) (fun h3 => ?_)
      · have hF := it_f hF h3
        refine lv_iinc (k := 2) (v := (x2 + 1)) (lv' := [(2, .int (x2 + 1)), (0, .ref (ad 5 y0)), (1, .int x1)]) hx hb d_T_lineOf_22 hl rfl rfl (by decide) rfl (fun ls hl => ?_)
        refine lv_goto (tgt := 2) hx hb d_T_lineOf_25 (by decide) ?_
        exact ih u y0 x1 (x2 + 1) hy0 r0 hF _ _ _ hP hS hH hN (lv_sub hl [1, 2, 0] rfl)
      · have hF := it_t hF h3
        refine lv_iload_n hx hb d_T_lineOf_20 rfl (lv_at hl 2 rfl) ?_
        have hF := rt1 hF
        subst hF
        exact W.iret (v := x2) hx hb hr (fun t ht hW => ⟨_, rfl, rfl, ht.trans hH⟩) hN d_T_lineOf_21
set_option maxHeartbeats 4000000 in
set_option maxRecDepth 100000 in
theorem c_T_lineOf (l : Launch) (D : va_G) (ad : Nat → Nat → Nat) (ca : Nat → ClassId) (hD0 : ∀ z u, va_D (AH ad) (wh ad ca z u)) {z : ZW} {u : XC} {i0 : Nat} {a1 : Int32} {r0 : Int32} (hi0 : i0 < 40) (hF : F_T_lineOf u i0 a1 = some r0) : Met l y_T_lineOf ws_T_lineOf ({ frames := 0, cells := 0, slots := 0, locals := 0 } : Room) (va_Pc [.ref (ad 5 i0), .int a1] (fun U => va_P D CLS (wh ad ca z u) U.heap ∧ va_K D CLS (TYH ca) U)) (vp_Si (fun r => r = r0)) 0 0 (fun _ => False) := by
  refine Met.ofW (cc := b_T_lineOf) (maxL := 3) (ret := (some .int)) (by decide +kernel) rfl ?_
  intro p e s m args below meth c s₁ B hml hv
  obtain ⟨rfl, hP, hK⟩ := hv
  have hx := B.exec
  have hb := B.bytes
  have hr := B.returns
  have hts : ∀ w ∈ ALL, w.before _ s = true := fun w h => atoms_spec (ws := ws_T_lineOf) B.pre w (List.mem_cons_of_mem _ h)
  have hown : s.vm.findClass R_T = some m.cls := findClass_of_methodNamed B.named
  have hlocks := B.notSynchronized
  have hD := hD0
  have hS : va_S (fun _ => True) s.heap s.heap [] := va_S.rf
  have hN : ∀ q ∈ ([] : List Loc), (fun _ => False) q.base := fun _ h => absurd h List.not_mem_nil
  have hP : va_P D CLS (wh ad ca z u) s.heap := hP
  have hl := lv_entry ([.ref (ad 5 i0), .int a1]) (n := 3) (Nat.le_of_ble_eq_true rfl)
  rw [lg_entry_eq]
  generalize (lg_sl ([.ref (ad 5 i0), .int a1]) ++ List.replicate (3 - (lg_sl ([.ref (ad 5 i0), .int a1])).length) Slot.unset).toArray = ls at hl ⊢
  have hl : lv_has ls 3 [(0, .ref (ad 5 i0)), (1, .int a1)] := hl
  have hH : s.heap = s.heap := rfl
  unfold F_T_lineOf at hF
  refine lv_iconst (v := 0) hx hb d_T_lineOf_0 (by decide) ?_
  refine lv_istore_n (lv' := [(2, .int 0), (0, .ref (ad 5 i0)), (1, .int a1)]) hx hb d_T_lineOf_1 rfl hl (by decide) rfl (fun ls hl => ?_)
  exact lp_T_lineOf_2 hx hb hr hts hown hlocks hml hK hD0 hD  200 u i0 a1 0 hi0 r0 hF _ _ _ hP hS hH hN (lv_sub hl [1, 2, 0] rfl)
def ws_T_write : List Cond := Cond.code y_T_write b_T_write 3 (some .boolean) :: ALL
theorem w_T_write {R : Room} {s : State} {args : Array Value} {own : String} {index : Nat} (hts : ∀ w ∈ ALL, w.before args s = true) (hlk : Cond.methodLink own index y_T_write ∈ ALL) (hR : (({ frames := 1, cells := 0, slots := 0, locals := 22 } : Room)).frames + 1 ≤ R.frames ∧ 8 + (3 + 11) + (({ frames := 1, cells := 0, slots := 0, locals := 22 } : Room)).locals ≤ R.locals) : CallW R s args own R_T index y_T_write b_T_write 3 (some .boolean) ws_T_write ({ frames := 1, cells := 0, slots := 0, locals := 22 } : Room) 0 0 2 := ⟨callB_of 2 hts (good_c a_238) rfl rfl rfl (hts _ a_7) (hts _ hlk) (by decide +kernel) hR, hts _ a_236, hts _ a_237⟩
theorem d_T_write_0 : decode b_T_write 0 = .ok (.aload_n 0, 1) := by decide +kernel
theorem d_T_write_1 : decode b_T_write 1 = .ok (.getfield 15, 3) := by decide +kernel
theorem d_T_write_4 : decode b_T_write 4 = .ok (.iconst 4, 1) := by decide +kernel
theorem d_T_write_5 : decode b_T_write 5 = .ok (.if_icmp .eq 12, 3) := by decide +kernel
theorem d_T_write_8 : decode b_T_write 8 = .ok (.aload_n 0, 1) := by decide +kernel
theorem d_T_write_9 : decode b_T_write 9 = .ok (.iload_n 1, 1) := by decide +kernel
theorem d_T_write_10 : decode b_T_write 10 = .ok (.invokevirtual 25, 3) := by decide +kernel
theorem d_T_write_13 : decode b_T_write 13 = .ok (.iconst (-1), 1) := by decide +kernel
theorem d_T_write_14 : decode b_T_write 14 = .ok (.if_icmp .eq 5, 3) := by decide +kernel
theorem d_T_write_17 : decode b_T_write 17 = .ok (.iconst 0, 1) := by decide +kernel
theorem d_T_write_18 : decode b_T_write 18 = .ok (.ireturn, 1) := by decide +kernel
theorem d_T_write_19 : decode b_T_write 19 = .ok (.aload_n 0, 1) := by decide +kernel
theorem d_T_write_20 : decode b_T_write 20 = .ok (.getfield 18, 3) := by decide +kernel
theorem d_T_write_23 : decode b_T_write 23 = .ok (.aload_n 0, 1) := by decide +kernel
theorem d_T_write_24 : decode b_T_write 24 = .ok (.getfield 15, 3) := by decide +kernel
theorem d_T_write_27 : decode b_T_write 27 = .ok (.iload_n 1, 1) := by decide +kernel
theorem d_T_write_28 : decode b_T_write 28 = .ok (.iastore, 1) := by decide +kernel
theorem d_T_write_29 : decode b_T_write 29 = .ok (.aload_n 0, 1) := by decide +kernel
theorem d_T_write_30 : decode b_T_write 30 = .ok (.getfield 22, 3) := by decide +kernel
theorem d_T_write_33 : decode b_T_write 33 = .ok (.aload_n 0, 1) := by decide +kernel
theorem d_T_write_34 : decode b_T_write 34 = .ok (.getfield 15, 3) := by decide +kernel
theorem d_T_write_37 : decode b_T_write 37 = .ok (.iload_n 2, 1) := by decide +kernel
theorem d_T_write_38 : decode b_T_write 38 = .ok (.iastore, 1) := by decide +kernel
theorem d_T_write_39 : decode b_T_write 39 = .ok (.aload_n 0, 1) := by decide +kernel
theorem d_T_write_40 : decode b_T_write 40 = .ok (.dup, 1) := by decide +kernel
theorem d_T_write_41 : decode b_T_write 41 = .ok (.getfield 15, 3) := by decide +kernel
theorem d_T_write_44 : decode b_T_write 44 = .ok (.iconst 1, 1) := by decide +kernel
theorem d_T_write_45 : decode b_T_write 45 = .ok (.iadd, 1) := by decide +kernel
theorem d_T_write_46 : decode b_T_write 46 = .ok (.putfield 15, 3) := by decide +kernel
theorem d_T_write_49 : decode b_T_write 49 = .ok (.iconst 1, 1) := by decide +kernel
theorem d_T_write_50 : decode b_T_write 50 = .ok (.ireturn, 1) := by decide +kernel
def F_T_write (u : XC) (i0 : Nat) (a1 : Int32) (a2 : Int32) : Option (Int32 × XC) := (if (u.1 5 i0 1) = 4 then some (0, u) else (bs_ (F_T_lineOf u i0 a1) fun r2 => (if r2 = (-1) then (if 0 ≤ (u.1 5 i0 1) ∧ ((u.1 5 i0 1)).toNatClampNeg < 4 then (nm_ (pu u 12 i0 ((u.1 5 i0 1)).toNatClampNeg a1) fun u6 => (if 0 ≤ (u6.1 5 i0 1) ∧ ((u6.1 5 i0 1)).toNatClampNeg < 4 then (nm_ (pu u6 13 i0 ((u6.1 5 i0 1)).toNatClampNeg a2) fun u9 => (nm_ (pu u9 5 i0 1 ((u9.1 5 i0 1) + 1)) fun u11 => some (1, u11))) else none)) else none) else some (0, u))))
set_option maxHeartbeats 4000000 in
set_option maxRecDepth 100000 in
theorem c_T_write (l : Launch) (D : va_G) (ad : Nat → Nat → Nat) (ca : Nat → ClassId) (hD0 : ∀ z u, va_D (AH ad) (wh ad ca z u)) {z : ZW} {u : XC} {i0 : Nat} {a1 : Int32} {a2 : Int32} {r0 : Int32} {u0 : XC} (hi0 : i0 < 40) (hF : F_T_write u i0 a1 a2 = some (r0, u0)) : Met l y_T_write ws_T_write ({ frames := 1, cells := 0, slots := 0, locals := 22 } : Room) (va_Pc [.ref (ad 5 i0), .int a1, .int a2] (fun U => va_P D CLS (wh ad ca z u) U.heap ∧ va_K D CLS (TYH ca) U)) (va_Qi (fun (r : Int32) (_ : Unit) => r = r0) (fun _ t => va_P D CLS (wh ad ca z u0) t.heap) (AH ad)) 0 0 (AH ad) := by
  refine Met.ofW (cc := b_T_write) (maxL := 3) (ret := (some .boolean)) (by decide +kernel) rfl ?_
  intro p e s m args below meth c s₁ B hml hv
  obtain ⟨rfl, hP, hK⟩ := hv
  have hx := B.exec
  have hb := B.bytes
  have hr := B.returns
  have hts : ∀ w ∈ ALL, w.before _ s = true := fun w h => atoms_spec (ws := ws_T_write) B.pre w (List.mem_cons_of_mem _ h)
  have hown : s.vm.findClass R_T = some m.cls := findClass_of_methodNamed B.named
  have hlocks := B.notSynchronized
  have hD := hD0
  have hS : va_S (AH ad) s.heap s.heap [] := va_S.rf
  have hP : va_P D CLS (wh ad ca z u) s.heap := hP
  have hl := lv_entry ([.ref (ad 5 i0), .int a1, .int a2]) (n := 3) (Nat.le_of_ble_eq_true rfl)
  rw [lg_entry_eq]
  generalize (lg_sl ([.ref (ad 5 i0), .int a1, .int a2]) ++ List.replicate (3 - (lg_sl ([.ref (ad 5 i0), .int a1, .int a2])).length) Slot.unset).toArray = ls at hl ⊢
  have hl : lv_has ls 3 [(0, .ref (ad 5 i0)), (1, .int a1), (2, .int a2)] := hl
  unfold F_T_write at hF
  refine lv_aload_n hx hb d_T_write_0 rfl (lv_at hl 0 rfl) ?_
  refine gf_T_1 hx hb hts hown hK hP hi0 a_191 d_T_write_1 ?_
  refine lv_iconst (v := 4) hx hb d_T_write_4 (by decide) ?_
  refine lv_icmp_eq (tgt := 17) hx hb d_T_write_5 (by decide) (fun h1 => ?_) (fun h1 => ?_)
  · have hF := it_t hF h1
    refine lv_iconst (v := 0) hx hb d_T_write_17 (by decide) ?_
    obtain ⟨rfl, rfl⟩ := rt2 hF
    exact W.zret (v := 0) hx hb hr rfl (fun t ht hW => ⟨⟨_, (), rfl, rfl, vp_at ht hP⟩, hS.F ht⟩) hS.2.2 d_T_write_18
  · have hF := it_f hF h1
    refine lv_aload_n hx hb d_T_write_8 rfl (lv_at hl 0 rfl) ?_
    refine lv_iload_n hx hb d_T_write_9 rfl (lv_at hl 1 rfl) ?_
    obtain ⟨r2, h3, hF⟩ := bs_u hF
    refine k_vp (ad 5 i0) [.int a1] [] ⟨hx, hb, hml, hown, hts⟩ (c_T_lineOf l D ad ca hD0 (z := z) (u := u) hi0 h3) (w_T_lineOf hts a_239 ⟨Nat.le_of_ble_eq_true rfl, Nat.le_of_ble_eq_true rfl⟩) (rv_T hK hP hi0) hP hK rfl rfl hl.1 (Nat.le_of_ble_eq_true rfl) ⟨Nat.zero_le _, Nat.zero_le _⟩ d_T_write_10 ?_
    refine lv_iconst (v := (-1)) hx hb d_T_write_13 (by decide) ?_
    refine lv_icmp_eq (tgt := 19) hx hb d_T_write_14 (by decide) (fun h4 => ?_) (fun h4 => ?_)
    · have hF := it_t hF h4
      refine lv_aload_n hx hb d_T_write_19 rfl (lv_at hl 0 rfl) ?_
      refine gf_T_2 hx hb hts hown hK hP hi0 a_193 d_T_write_20 ?_
      refine lv_aload_n hx hb d_T_write_23 rfl (lv_at hl 0 rfl) ?_
      refine gf_T_1 hx hb hts hown hK hP hi0 a_191 d_T_write_24 ?_
      refine lv_iload_n hx hb d_T_write_27 rfl (lv_at hl 1 rfl) ?_
      obtain ⟨h5, hF⟩ := as_u hF
      obtain ⟨u6, h7, hF⟩ := nm_u hF
      refine is_12 hx hb hK hP hD hS hi0 h5 h7 d_T_write_28 (fun H locs hP hS => ?_)
      refine lv_aload_n hx hb d_T_write_29 rfl (lv_at hl 0 rfl) ?_
      refine gf_T_3 hx hb hts hown hK hP hi0 a_194 d_T_write_30 ?_
      refine lv_aload_n hx hb d_T_write_33 rfl (lv_at hl 0 rfl) ?_
      refine gf_T_1 hx hb hts hown hK hP hi0 a_191 d_T_write_34 ?_
      refine lv_iload_n hx hb d_T_write_37 rfl (lv_at hl 2 rfl) ?_
      obtain ⟨h8, hF⟩ := as_u hF
      obtain ⟨u9, h10, hF⟩ := nm_u hF
      refine is_13 hx hb hK hP hD hS hi0 h8 h10 d_T_write_38 (fun H locs hP hS => ?_)
      refine lv_aload_n hx hb d_T_write_39 rfl (lv_at hl 0 rfl) ?_
      refine lv_dup hx hb d_T_write_40 rfl ?_
      refine gf_T_1 hx hb hts hown hK hP hi0 a_191 d_T_write_41 ?_
      refine lv_iconst (v := 1) hx hb d_T_write_44 (by decide) ?_
      refine lv_iadd hx hb d_T_write_45 ?_
      obtain ⟨u11, h12, hF⟩ := nm_u hF
      refine pf_T_1 hx hb hts hown hK hP hD hS hi0 h12 a_191 d_T_write_46 (fun H locs hP hS => ?_)
      refine lv_iconst (v := 1) hx hb d_T_write_49 (by decide) ?_
      obtain ⟨rfl, rfl⟩ := rt2 hF
      exact W.zret (v := 1) hx hb hr rfl (fun t ht hW => ⟨⟨_, (), rfl, rfl, vp_at ht hP⟩, hS.F ht⟩) hS.2.2 d_T_write_50
    · have hF := it_f hF h4
      refine lv_iconst (v := 0) hx hb d_T_write_17 (by decide) ?_
      obtain ⟨rfl, rfl⟩ := rt2 hF
      exact W.zret (v := 0) hx hb hr rfl (fun t ht hW => ⟨⟨_, (), rfl, rfl, vp_at ht hP⟩, hS.F ht⟩) hS.2.2 d_T_write_18
def ws_L_address : List Cond := Cond.code y_L_address b_L_address 4 none :: ALL
theorem w_L_address {R : Room} {s : State} {args : Array Value} {own : String} {index : Nat} (hts : ∀ w ∈ ALL, w.before args s = true) (hlk : Cond.methodLink own index y_L_address ∈ ALL) (hR : (({ frames := 0, cells := 0, slots := 0, locals := 0 } : Room)).frames + 1 ≤ R.frames ∧ 8 + (4 + 11) + (({ frames := 0, cells := 0, slots := 0, locals := 0 } : Room)).locals ≤ R.locals) : CallW R s args own R_L index y_L_address b_L_address 4 none ws_L_address ({ frames := 0, cells := 0, slots := 0, locals := 0 } : Room) 0 0 3 := ⟨callB_of 3 hts (good_c a_274) rfl rfl rfl (hts _ a_3) (hts _ hlk) (by decide +kernel) hR, hts _ a_272, hts _ a_273⟩
theorem d_L_address_0 : decode b_L_address 0 = .ok (.aload_n 0, 1) := by decide +kernel
theorem d_L_address_1 : decode b_L_address 1 = .ok (.iload_n 1, 1) := by decide +kernel
theorem d_L_address_2 : decode b_L_address 2 = .ok (.putfield 9, 3) := by decide +kernel
theorem d_L_address_5 : decode b_L_address 5 = .ok (.aload_n 0, 1) := by decide +kernel
theorem d_L_address_6 : decode b_L_address 6 = .ok (.iload_n 2, 1) := by decide +kernel
theorem d_L_address_7 : decode b_L_address 7 = .ok (.putfield 15, 3) := by decide +kernel
theorem d_L_address_10 : decode b_L_address 10 = .ok (.aload_n 0, 1) := by decide +kernel
theorem d_L_address_11 : decode b_L_address 11 = .ok (.iload_n 3, 1) := by decide +kernel
theorem d_L_address_12 : decode b_L_address 12 = .ok (.putfield 18, 3) := by decide +kernel
theorem d_L_address_15 : decode b_L_address 15 = .ok (.aload_n 0, 1) := by decide +kernel
theorem d_L_address_16 : decode b_L_address 16 = .ok (.iconst 0, 1) := by decide +kernel
theorem d_L_address_17 : decode b_L_address 17 = .ok (.putfield 21, 3) := by decide +kernel
theorem d_L_address_20 : decode b_L_address 20 = .ok (.aload_n 0, 1) := by decide +kernel
theorem d_L_address_21 : decode b_L_address 21 = .ok (.iconst (-1), 1) := by decide +kernel
theorem d_L_address_22 : decode b_L_address 22 = .ok (.putfield 24, 3) := by decide +kernel
theorem d_L_address_25 : decode b_L_address 25 = .ok (.aload_n 0, 1) := by decide +kernel
theorem d_L_address_26 : decode b_L_address 26 = .ok (.iconst (-1), 1) := by decide +kernel
theorem d_L_address_27 : decode b_L_address 27 = .ok (.putfield 27, 3) := by decide +kernel
theorem d_L_address_30 : decode b_L_address 30 = .ok (.aload_n 0, 1) := by decide +kernel
theorem d_L_address_31 : decode b_L_address 31 = .ok (.iconst 0, 1) := by decide +kernel
theorem d_L_address_32 : decode b_L_address 32 = .ok (.putfield 30, 3) := by decide +kernel
theorem d_L_address_35 : decode b_L_address 35 = .ok (.aload_n 0, 1) := by decide +kernel
theorem d_L_address_36 : decode b_L_address 36 = .ok (.iconst (-1), 1) := by decide +kernel
theorem d_L_address_37 : decode b_L_address 37 = .ok (.putfield 33, 3) := by decide +kernel
theorem d_L_address_40 : decode b_L_address 40 = .ok (.return_, 1) := by decide +kernel
def F_L_address (u : XC) (i0 : Nat) (a1 : Int32) (a2 : Int32) (a3 : Int32) : Option (XC) := (nm_ (pu u 7 i0 0 a1) fun u1 => (nm_ (pu u1 7 i0 1 a2) fun u3 => (nm_ (pu u3 7 i0 2 a3) fun u5 => (nm_ (pu u5 7 i0 3 0) fun u7 => (nm_ (pu u7 7 i0 4 (-1)) fun u9 => (nm_ (pu u9 7 i0 5 (-1)) fun u11 => (nm_ (pu u11 7 i0 6 0) fun u13 => (nm_ (pu u13 7 i0 7 (-1)) fun u15 => some u15))))))))
set_option maxHeartbeats 4000000 in
set_option maxRecDepth 100000 in
theorem c_L_address (l : Launch) (D : va_G) (ad : Nat → Nat → Nat) (ca : Nat → ClassId) (hD0 : ∀ z u, va_D (AH ad) (wh ad ca z u)) {z : ZW} {u : XC} {i0 : Nat} {a1 : Int32} {a2 : Int32} {a3 : Int32} {u0 : XC} (hi0 : i0 < 152) (hF : F_L_address u i0 a1 a2 a3 = some u0) : Met l y_L_address ws_L_address ({ frames := 0, cells := 0, slots := 0, locals := 0 } : Room) (va_Pc [.ref (ad 7 i0), .int a1, .int a2, .int a3] (fun U => va_P D CLS (wh ad ca z u) U.heap ∧ va_K D CLS (TYH ca) U)) (va_Qv (fun (_ : Unit) => True) (fun _ t => va_P D CLS (wh ad ca z u0) t.heap) (AH ad)) 0 0 (AH ad) := by
  refine Met.ofW (cc := b_L_address) (maxL := 4) (ret := none) (by decide +kernel) rfl ?_
  intro p e s m args below meth c s₁ B hml hv
  obtain ⟨rfl, hP, hK⟩ := hv
  have hx := B.exec
  have hb := B.bytes
  have hr := B.returns
  have hts : ∀ w ∈ ALL, w.before _ s = true := fun w h => atoms_spec (ws := ws_L_address) B.pre w (List.mem_cons_of_mem _ h)
  have hown : s.vm.findClass R_L = some m.cls := findClass_of_methodNamed B.named
  have hlocks := B.notSynchronized
  have hD := hD0
  have hS : va_S (AH ad) s.heap s.heap [] := va_S.rf
  have hP : va_P D CLS (wh ad ca z u) s.heap := hP
  have hl := lv_entry ([.ref (ad 7 i0), .int a1, .int a2, .int a3]) (n := 4) (Nat.le_of_ble_eq_true rfl)
  rw [lg_entry_eq]
  generalize (lg_sl ([.ref (ad 7 i0), .int a1, .int a2, .int a3]) ++ List.replicate (4 - (lg_sl ([.ref (ad 7 i0), .int a1, .int a2, .int a3])).length) Slot.unset).toArray = ls at hl ⊢
  have hl : lv_has ls 4 [(0, .ref (ad 7 i0)), (1, .int a1), (2, .int a2), (3, .int a3)] := hl
  unfold F_L_address at hF
  refine lv_aload_n hx hb d_L_address_0 rfl (lv_at hl 0 rfl) ?_
  refine lv_iload_n hx hb d_L_address_1 rfl (lv_at hl 1 rfl) ?_
  obtain ⟨u1, h2, hF⟩ := nm_u hF
  refine pf_L_0 hx hb hts hown hK hP hD hS hi0 h2 a_43 d_L_address_2 (fun H locs hP hS => ?_)
  refine lv_aload_n hx hb d_L_address_5 rfl (lv_at hl 0 rfl) ?_
  refine lv_iload_n hx hb d_L_address_6 rfl (lv_at hl 2 rfl) ?_
  obtain ⟨u3, h4, hF⟩ := nm_u hF
  refine pf_L_1 hx hb hts hown hK hP hD hS hi0 h4 a_46 d_L_address_7 (fun H locs hP hS => ?_)
  refine lv_aload_n hx hb d_L_address_10 rfl (lv_at hl 0 rfl) ?_
  refine lv_iload_n hx hb d_L_address_11 rfl (lv_at hl 3 rfl) ?_
  obtain ⟨u5, h6, hF⟩ := nm_u hF
  refine pf_L_2 hx hb hts hown hK hP hD hS hi0 h6 a_49 d_L_address_12 (fun H locs hP hS => ?_)
  refine lv_aload_n hx hb d_L_address_15 rfl (lv_at hl 0 rfl) ?_
  refine lv_iconst (v := 0) hx hb d_L_address_16 (by decide) ?_
  obtain ⟨u7, h8, hF⟩ := nm_u hF
  refine pf_L_3 hx hb hts hown hK hP hD hS hi0 h8 a_52 d_L_address_17 (fun H locs hP hS => ?_)
  refine lv_aload_n hx hb d_L_address_20 rfl (lv_at hl 0 rfl) ?_
  refine lv_iconst (v := (-1)) hx hb d_L_address_21 (by decide) ?_
  obtain ⟨u9, h10, hF⟩ := nm_u hF
  refine pf_L_4 hx hb hts hown hK hP hD hS hi0 h10 a_55 d_L_address_22 (fun H locs hP hS => ?_)
  refine lv_aload_n hx hb d_L_address_25 rfl (lv_at hl 0 rfl) ?_
  refine lv_iconst (v := (-1)) hx hb d_L_address_26 (by decide) ?_
  obtain ⟨u11, h12, hF⟩ := nm_u hF
  refine pf_L_5 hx hb hts hown hK hP hD hS hi0 h12 a_58 d_L_address_27 (fun H locs hP hS => ?_)
  refine lv_aload_n hx hb d_L_address_30 rfl (lv_at hl 0 rfl) ?_
  refine lv_iconst (v := 0) hx hb d_L_address_31 (by decide) ?_
  obtain ⟨u13, h14, hF⟩ := nm_u hF
  refine pf_L_6 hx hb hts hown hK hP hD hS hi0 h14 a_61 d_L_address_32 (fun H locs hP hS => ?_)
  refine lv_aload_n hx hb d_L_address_35 rfl (lv_at hl 0 rfl) ?_
  refine lv_iconst (v := (-1)) hx hb d_L_address_36 (by decide) ?_
  obtain ⟨u15, h16, hF⟩ := nm_u hF
  refine pf_L_7 hx hb hts hown hK hP hD hS hi0 h16 a_64 d_L_address_37 (fun H locs hP hS => ?_)
  have hF := rt1 hF
  subst hF
  exact W.vret hx hb hr (fun t ht hW => ⟨⟨(), rfl, trivial, vp_at ht hP⟩, hS.F ht⟩) hS.2.2 d_L_address_40
def ws_O_firstUnknown : List Cond := Cond.code y_O_firstUnknown b_O_firstUnknown 2 (some .int) :: ALL
theorem w_O_firstUnknown {R : Room} {s : State} {args : Array Value} {own : String} {index : Nat} (hts : ∀ w ∈ ALL, w.before args s = true) (hlk : Cond.methodLink own index y_O_firstUnknown ∈ ALL) (hR : (({ frames := 0, cells := 0, slots := 0, locals := 0 } : Room)).frames + 1 ≤ R.frames ∧ 8 + (2 + 11) + (({ frames := 0, cells := 0, slots := 0, locals := 0 } : Room)).locals ≤ R.locals) : CallW R s args own R_O index y_O_firstUnknown b_O_firstUnknown 2 (some .int) ws_O_firstUnknown ({ frames := 0, cells := 0, slots := 0, locals := 0 } : Room) 0 0 0 := ⟨callB_of 0 hts (good_c a_334) rfl rfl rfl (hts _ a_4) (hts _ hlk) (by decide +kernel) hR, hts _ a_332, hts _ a_333⟩
theorem d_O_firstUnknown_0 : decode b_O_firstUnknown 0 = .ok (.iconst 0, 1) := by decide +kernel
theorem d_O_firstUnknown_1 : decode b_O_firstUnknown 1 = .ok (.istore_n 1, 1) := by decide +kernel
theorem d_O_firstUnknown_2 : decode b_O_firstUnknown 2 = .ok (.iload_n 1, 1) := by decide +kernel
theorem d_O_firstUnknown_3 : decode b_O_firstUnknown 3 = .ok (.bipush 6, 2) := by decide +kernel
theorem d_O_firstUnknown_5 : decode b_O_firstUnknown 5 = .ok (.if_icmp .ge 19, 3) := by decide +kernel
theorem d_O_firstUnknown_8 : decode b_O_firstUnknown 8 = .ok (.aload_n 0, 1) := by decide +kernel
theorem d_O_firstUnknown_9 : decode b_O_firstUnknown 9 = .ok (.getfield 22, 3) := by decide +kernel
theorem d_O_firstUnknown_12 : decode b_O_firstUnknown 12 = .ok (.iload_n 1, 1) := by decide +kernel
theorem d_O_firstUnknown_13 : decode b_O_firstUnknown 13 = .ok (.iaload, 1) := by decide +kernel
theorem d_O_firstUnknown_14 : decode b_O_firstUnknown 14 = .ok (.iconst (-1), 1) := by decide +kernel
theorem d_O_firstUnknown_15 : decode b_O_firstUnknown 15 = .ok (.if_icmp .eq 9, 3) := by decide +kernel
theorem d_O_firstUnknown_18 : decode b_O_firstUnknown 18 = .ok (.iinc 1 1, 3) := by decide +kernel
theorem d_O_firstUnknown_21 : decode b_O_firstUnknown 21 = .ok (.goto (-19), 3) := by decide +kernel
theorem d_O_firstUnknown_24 : decode b_O_firstUnknown 24 = .ok (.iload_n 1, 1) := by decide +kernel
theorem d_O_firstUnknown_25 : decode b_O_firstUnknown 25 = .ok (.ireturn, 1) := by decide +kernel
def Fl_O_firstUnknown_2  : Nat → XC → Nat → Int32 → Option (Int32)
  | 0, _, _, _ => none
  | n + 1, u, y0, x1 => (if 6 ≤ x1 then some x1 else (if 0 ≤ x1 ∧ (x1).toNatClampNeg < 6 then (if (u.1 10 y0 (x1).toNatClampNeg) = (-1) then some x1 else (Fl_O_firstUnknown_2 n) u y0 (x1 + 1)) else none))
def F_O_firstUnknown (u : XC) (i0 : Nat) : Option (Int32) := Fl_O_firstUnknown_2  200 u i0 0
set_option maxHeartbeats 4000000 in
set_option maxRecDepth 100000 in
theorem lp_O_firstUnknown_2 {p : Program} {l : Launch} {e : Env} {s : State} {m : MethodId} {args : Array Value} {below : List Frame} {meth : Method} {c : Code} {D : va_G} {ad : Nat → Nat → Nat} {ca : Nat → ClassId} {z : ZW} (hx : p.tables.exec = Jvm.exec) (hb : c.code = b_O_firstUnknown) (hr : meth.sig.returnType = (some .int)) (hts : ∀ w ∈ ALL, w.before args s = true) (hown : s.vm.findClass R_O = some m.cls) (hlocks : meth.locks = false) (hml : c.maxLocals = 2) (hK : va_K D CLS (TYH ca) s) (hD0 : ∀ z u, va_D (AH ad) (wh ad ca z u)) (hD : ∀ z u, va_D (AH ad) (wh ad ca z u))  : ∀ (n : Nat), ∀ (u : XC) (y0 : Nat) (x1 : Int32) (hy0 : y0 < 27) (r0 : Int32), Fl_O_firstUnknown_2  n u y0 x1 = some r0 → ∀ (H : Heap) (locs : List Loc) (ls : Array Slot), va_P D CLS (wh ad ca z u) H → va_S (fun _ => True) s.heap H locs → H = s.heap → (∀ q ∈ locs, (fun _ => False) q.base) → lv_has ls 2 [(0, .ref (ad 4 y0)), (1, .int x1)] → W p l e ({ frames := 0, cells := 0, slots := 0, locals := 0 } : Room) s m args below meth c H locs 0 0 (MQ below (vp_Si (fun r => r = r0)) args s 0 0 (fun _ => False)) (F0 m 2 ls []) := by
  intro n
  induction n with
  | zero => intro u y0 x1 hy0 r0 hF; rw [Fl_O_firstUnknown_2] at hF; cases hF
  | succ n ih =>
    intro u y0 x1 hy0 r0 hF H locs ls hP hS hH hN hl
    rw [Fl_O_firstUnknown_2] at hF
    refine lv_iload_n hx hb d_O_firstUnknown_2 rfl (lv_at hl 1 rfl) ?_
    refine lv_bipush (v := 6) hx hb d_O_firstUnknown_3 (by decide) ?_
    refine lv_icmp_ge (tgt := 24) hx hb d_O_firstUnknown_5 (by decide) (fun h1 => ?_) (fun h1 => ?_)
    · have hF := it_t hF h1
      refine lv_iload_n hx hb d_O_firstUnknown_24 rfl (lv_at hl 1 rfl) ?_
      have hF := rt1 hF
      subst hF
      exact W.iret (v := x1) hx hb hr (fun t ht hW => ⟨_, rfl, rfl, ht.trans hH⟩) hN d_O_firstUnknown_25
    · have hF := it_f hF h1
      refine lv_aload_n hx hb d_O_firstUnknown_8 rfl (lv_at hl 0 rfl) ?_
      refine gf_O_4 hx hb hts hown hK hP hy0 a_159 d_O_firstUnknown_9 ?_
      refine lv_iload_n hx hb d_O_firstUnknown_12 rfl (lv_at hl 1 rfl) ?_
      obtain ⟨h2, hF⟩ := as_u hF
      refine il_10 hx hb hK hP hy0 h2 d_O_firstUnknown_13 ?_
      refine lv_iconst (v := (-1)) hx hb d_O_firstUnknown_14 (by decide) ?_
      refine lv_icmp_eq (tgt := 24) hx hb d_O_firstUnknown_15 (by decide) (fun h3 => ?_) (fun h3 => ?_)
      · have hF := it_t hF h3
        refine lv_iload_n hx hb d_O_firstUnknown_24 rfl (lv_at hl 1 rfl) ?_
        have hF := rt1 hF
        subst hF
        exact W.iret (v := x1) hx hb hr (fun t ht hW => ⟨_, rfl, rfl, ht.trans hH⟩) hN d_O_firstUnknown_25
      · have hF := it_f hF h3
        refine lv_iinc (k := 1) (v := (x1 + 1)) (lv' := [(1, .int (x1 + 1)), (0, .ref (ad 4 y0))]) hx hb d_O_firstUnknown_18 hl rfl rfl (by decide) rfl (fun ls hl => ?_)
        refine lv_goto (tgt := 2) hx hb d_O_firstUnknown_21 (by decide) ?_
        exact ih u y0 (x1 + 1) hy0 r0 hF _ _ _ hP hS hH hN (lv_sub hl [1, 0] rfl)
set_option maxHeartbeats 4000000 in
set_option maxRecDepth 100000 in
theorem c_O_firstUnknown (l : Launch) (D : va_G) (ad : Nat → Nat → Nat) (ca : Nat → ClassId) (hD0 : ∀ z u, va_D (AH ad) (wh ad ca z u)) {z : ZW} {u : XC} {i0 : Nat} {r0 : Int32} (hi0 : i0 < 27) (hF : F_O_firstUnknown u i0 = some r0) : Met l y_O_firstUnknown ws_O_firstUnknown ({ frames := 0, cells := 0, slots := 0, locals := 0 } : Room) (va_Pc [.ref (ad 4 i0)] (fun U => va_P D CLS (wh ad ca z u) U.heap ∧ va_K D CLS (TYH ca) U)) (vp_Si (fun r => r = r0)) 0 0 (fun _ => False) := by
  refine Met.ofW (cc := b_O_firstUnknown) (maxL := 2) (ret := (some .int)) (by decide +kernel) rfl ?_
  intro p e s m args below meth c s₁ B hml hv
  obtain ⟨rfl, hP, hK⟩ := hv
  have hx := B.exec
  have hb := B.bytes
  have hr := B.returns
  have hts : ∀ w ∈ ALL, w.before _ s = true := fun w h => atoms_spec (ws := ws_O_firstUnknown) B.pre w (List.mem_cons_of_mem _ h)
  have hown : s.vm.findClass R_O = some m.cls := findClass_of_methodNamed B.named
  have hlocks := B.notSynchronized
  have hD := hD0
  have hS : va_S (fun _ => True) s.heap s.heap [] := va_S.rf
  have hN : ∀ q ∈ ([] : List Loc), (fun _ => False) q.base := fun _ h => absurd h List.not_mem_nil
  have hP : va_P D CLS (wh ad ca z u) s.heap := hP
  have hl := lv_entry ([.ref (ad 4 i0)]) (n := 2) (Nat.le_of_ble_eq_true rfl)
  rw [lg_entry_eq]
  generalize (lg_sl ([.ref (ad 4 i0)]) ++ List.replicate (2 - (lg_sl ([.ref (ad 4 i0)])).length) Slot.unset).toArray = ls at hl ⊢
  have hl : lv_has ls 2 [(0, .ref (ad 4 i0))] := hl
  have hH : s.heap = s.heap := rfl
  unfold F_O_firstUnknown at hF
  refine lv_iconst (v := 0) hx hb d_O_firstUnknown_0 (by decide) ?_
  refine lv_istore_n (lv' := [(1, .int 0), (0, .ref (ad 4 i0))]) hx hb d_O_firstUnknown_1 rfl hl (by decide) rfl (fun ls hl => ?_)
  exact lp_O_firstUnknown_2 hx hb hr hts hown hlocks hml hK hD0 hD  200 u i0 0 hi0 r0 hF _ _ _ hP hS hH hN (lv_sub hl [1, 0] rfl)
def ws_M_holds : List Cond := Cond.code y_M_holds b_M_holds 2 (some .boolean) :: ALL
theorem w_M_holds {R : Room} {s : State} {args : Array Value} {own : String} {index : Nat} (hts : ∀ w ∈ ALL, w.before args s = true) (hlk : Cond.methodLink own index y_M_holds ∈ ALL) (hR : (({ frames := 0, cells := 0, slots := 0, locals := 0 } : Room)).frames + 1 ≤ R.frames ∧ 8 + (2 + 11) + (({ frames := 0, cells := 0, slots := 0, locals := 0 } : Room)).locals ≤ R.locals) : CallW R s args own R_M index y_M_holds b_M_holds 2 (some .boolean) ws_M_holds ({ frames := 0, cells := 0, slots := 0, locals := 0 } : Room) 0 0 1 := ⟨callB_of 1 hts (good_c a_254) rfl rfl rfl (hts _ a_2) (hts _ hlk) (by decide +kernel) hR, hts _ a_252, hts _ a_253⟩
theorem d_M_holds_0 : decode b_M_holds 0 = .ok (.iload_n 1, 1) := by decide +kernel
theorem d_M_holds_1 : decode b_M_holds 1 = .ok (.ifCond .lt 15, 3) := by decide +kernel
theorem d_M_holds_4 : decode b_M_holds 4 = .ok (.iload_n 1, 1) := by decide +kernel
theorem d_M_holds_5 : decode b_M_holds 5 = .ok (.aload_n 0, 1) := by decide +kernel
theorem d_M_holds_6 : decode b_M_holds 6 = .ok (.getfield 25, 3) := by decide +kernel
theorem d_M_holds_9 : decode b_M_holds 9 = .ok (.if_icmp .ge 7, 3) := by decide +kernel
theorem d_M_holds_12 : decode b_M_holds 12 = .ok (.iconst 1, 1) := by decide +kernel
theorem d_M_holds_13 : decode b_M_holds 13 = .ok (.goto 4, 3) := by decide +kernel
theorem d_M_holds_16 : decode b_M_holds 16 = .ok (.iconst 0, 1) := by decide +kernel
theorem d_M_holds_17 : decode b_M_holds 17 = .ok (.ireturn, 1) := by decide +kernel
def F_M_holds (u : XC) (a1 : Int32) : Option (Int32) := (if a1 < 0 then some 0 else (if (u.1 3 0 3) ≤ a1 then some 0 else some 1))
set_option maxHeartbeats 4000000 in
set_option maxRecDepth 100000 in
theorem c_M_holds (l : Launch) (D : va_G) (ad : Nat → Nat → Nat) (ca : Nat → ClassId) (hD0 : ∀ z u, va_D (AH ad) (wh ad ca z u)) {z : ZW} {u : XC} {a1 : Int32} {r0 : Int32}  (hF : F_M_holds u a1 = some r0) : Met l y_M_holds ws_M_holds ({ frames := 0, cells := 0, slots := 0, locals := 0 } : Room) (va_Pc [.ref (ad 3 0), .int a1] (fun U => va_P D CLS (wh ad ca z u) U.heap ∧ va_K D CLS (TYH ca) U)) (vp_Si (fun r => r = r0)) 0 0 (fun _ => False) := by
  refine Met.ofW (cc := b_M_holds) (maxL := 2) (ret := (some .boolean)) (by decide +kernel) rfl ?_
  intro p e s m args below meth c s₁ B hml hv
  obtain ⟨rfl, hP, hK⟩ := hv
  have hx := B.exec
  have hb := B.bytes
  have hr := B.returns
  have hts : ∀ w ∈ ALL, w.before _ s = true := fun w h => atoms_spec (ws := ws_M_holds) B.pre w (List.mem_cons_of_mem _ h)
  have hown : s.vm.findClass R_M = some m.cls := findClass_of_methodNamed B.named
  have hlocks := B.notSynchronized
  have hD := hD0
  have hS : va_S (fun _ => True) s.heap s.heap [] := va_S.rf
  have hN : ∀ q ∈ ([] : List Loc), (fun _ => False) q.base := fun _ h => absurd h List.not_mem_nil
  have hP : va_P D CLS (wh ad ca z u) s.heap := hP
  have hl := lv_entry ([.ref (ad 3 0), .int a1]) (n := 2) (Nat.le_of_ble_eq_true rfl)
  rw [lg_entry_eq]
  generalize (lg_sl ([.ref (ad 3 0), .int a1]) ++ List.replicate (2 - (lg_sl ([.ref (ad 3 0), .int a1])).length) Slot.unset).toArray = ls at hl ⊢
  have hl : lv_has ls 2 [(0, .ref (ad 3 0)), (1, .int a1)] := hl
  have hH : s.heap = s.heap := rfl
  unfold F_M_holds at hF
  refine lv_iload_n hx hb d_M_holds_0 rfl (lv_at hl 1 rfl) ?_
  refine lv_if_lt (tgt := 16) hx hb d_M_holds_1 (by decide) (fun h1 => ?_) (fun h1 => ?_)
  · have hF := it_t hF h1
    refine lv_iconst (v := 0) hx hb d_M_holds_16 (by decide) ?_
    have hF := rt1 hF
    subst hF
    exact W.zret (v := 0) hx hb hr rfl (fun t ht hW => ⟨_, rfl, rfl, ht.trans hH⟩) hN d_M_holds_17
  · have hF := it_f hF h1
    refine lv_iload_n hx hb d_M_holds_4 rfl (lv_at hl 1 rfl) ?_
    refine lv_aload_n hx hb d_M_holds_5 rfl (lv_at hl 0 rfl) ?_
    refine gf_M_3 hx hb hts hown hK hP (by decide) a_88 d_M_holds_6 ?_
    refine lv_icmp_ge (tgt := 16) hx hb d_M_holds_9 (by decide) (fun h2 => ?_) (fun h2 => ?_)
    · have hF := it_t hF h2
      refine lv_iconst (v := 0) hx hb d_M_holds_16 (by decide) ?_
      have hF := rt1 hF
      subst hF
      exact W.zret (v := 0) hx hb hr rfl (fun t ht hW => ⟨_, rfl, rfl, ht.trans hH⟩) hN d_M_holds_17
    · have hF := it_f hF h2
      refine lv_iconst (v := 1) hx hb d_M_holds_12 (by decide) ?_
      refine lv_goto (tgt := 17) hx hb d_M_holds_13 (by decide) ?_
      have hF := rt1 hF
      subst hF
      exact W.zret (v := 1) hx hb hr rfl (fun t ht hW => ⟨_, rfl, rfl, ht.trans hH⟩) hN d_M_holds_17
def ws_M_post : List Cond := Cond.code y_M_post b_M_post 5 (some (.object "TripleHouse$Letter")) :: ALL
theorem w_M_post {R : Room} {s : State} {args : Array Value} {own : String} {index : Nat} (hts : ∀ w ∈ ALL, w.before args s = true) (hlk : Cond.methodLink own index y_M_post ∈ ALL) (hR : (({ frames := 1, cells := 0, slots := 0, locals := 23 } : Room)).frames + 1 ≤ R.frames ∧ 8 + (5 + 11) + (({ frames := 1, cells := 0, slots := 0, locals := 23 } : Room)).locals ≤ R.locals) : CallW R s args own R_M index y_M_post b_M_post 5 (some (.object "TripleHouse$Letter")) ws_M_post ({ frames := 1, cells := 0, slots := 0, locals := 23 } : Room) 0 0 3 := ⟨callB_of 3 hts (good_c a_270) rfl rfl rfl (hts _ a_2) (hts _ hlk) (by decide +kernel) hR, hts _ a_268, hts _ a_269⟩
theorem d_M_post_0 : decode b_M_post 0 = .ok (.aload_n 0, 1) := by decide +kernel
theorem d_M_post_1 : decode b_M_post 1 = .ok (.getfield 18, 3) := by decide +kernel
theorem d_M_post_4 : decode b_M_post 4 = .ok (.astore 4, 2) := by decide +kernel
theorem d_M_post_6 : decode b_M_post 6 = .ok (.aload_n 0, 1) := by decide +kernel
theorem d_M_post_7 : decode b_M_post 7 = .ok (.getfield 25, 3) := by decide +kernel
theorem d_M_post_10 : decode b_M_post 10 = .ok (.sipush 150, 3) := by decide +kernel
theorem d_M_post_13 : decode b_M_post 13 = .ok (.if_icmp .ge 24, 3) := by decide +kernel
theorem d_M_post_16 : decode b_M_post 16 = .ok (.aload_n 0, 1) := by decide +kernel
theorem d_M_post_17 : decode b_M_post 17 = .ok (.getfield 11, 3) := by decide +kernel
theorem d_M_post_20 : decode b_M_post 20 = .ok (.aload_n 0, 1) := by decide +kernel
theorem d_M_post_21 : decode b_M_post 21 = .ok (.getfield 25, 3) := by decide +kernel
theorem d_M_post_24 : decode b_M_post 24 = .ok (.aaload, 1) := by decide +kernel
theorem d_M_post_25 : decode b_M_post 25 = .ok (.astore 4, 2) := by decide +kernel
theorem d_M_post_27 : decode b_M_post 27 = .ok (.aload_n 0, 1) := by decide +kernel
theorem d_M_post_28 : decode b_M_post 28 = .ok (.dup, 1) := by decide +kernel
theorem d_M_post_29 : decode b_M_post 29 = .ok (.getfield 25, 3) := by decide +kernel
theorem d_M_post_32 : decode b_M_post 32 = .ok (.iconst 1, 1) := by decide +kernel
theorem d_M_post_33 : decode b_M_post 33 = .ok (.iadd, 1) := by decide +kernel
theorem d_M_post_34 : decode b_M_post 34 = .ok (.putfield 25, 3) := by decide +kernel
theorem d_M_post_37 : decode b_M_post 37 = .ok (.aload 4, 2) := by decide +kernel
theorem d_M_post_39 : decode b_M_post 39 = .ok (.iload_n 1, 1) := by decide +kernel
theorem d_M_post_40 : decode b_M_post 40 = .ok (.iload_n 2, 1) := by decide +kernel
theorem d_M_post_41 : decode b_M_post 41 = .ok (.iload_n 3, 1) := by decide +kernel
theorem d_M_post_42 : decode b_M_post 42 = .ok (.invokevirtual 29, 3) := by decide +kernel
theorem d_M_post_45 : decode b_M_post 45 = .ok (.aload 4, 2) := by decide +kernel
theorem d_M_post_47 : decode b_M_post 47 = .ok (.areturn, 1) := by decide +kernel
def F_M_post (u : XC) (a1 : Int32) (a2 : Int32) (a3 : Int32) : Option (Nat × XC) := (if 150 ≤ (u.1 3 0 3) then (bs_ (F_L_address u 150 a1 a2 a3) fun u4 => some (150, u4)) else (if 0 ≤ (u.1 3 0 3) ∧ ((u.1 3 0 3)).toNatClampNeg < 150 then (if (u.2.1 ((u.1 3 0 3)).toNatClampNeg) < 152 then (nm_ (pu u 3 0 3 ((u.1 3 0 3) + 1)) fun u7 => (bs_ (F_L_address u7 (u.2.1 ((u.1 3 0 3)).toNatClampNeg) a1 a2 a3) fun u11 => some ((u.2.1 ((u.1 3 0 3)).toNatClampNeg), u11))) else none) else none))
set_option maxHeartbeats 4000000 in
set_option maxRecDepth 100000 in
theorem c_M_post (l : Launch) (D : va_G) (ad : Nat → Nat → Nat) (ca : Nat → ClassId) (hD0 : ∀ z u, va_D (AH ad) (wh ad ca z u)) {z : ZW} {u : XC} {a1 : Int32} {a2 : Int32} {a3 : Int32} {r0 : Nat} {u0 : XC}  (hF : F_M_post u a1 a2 a3 = some (r0, u0)) : Met l y_M_post ws_M_post ({ frames := 1, cells := 0, slots := 0, locals := 23 } : Room) (va_Pc [.ref (ad 3 0), .int a1, .int a2, .int a3] (fun U => va_P D CLS (wh ad ca z u) U.heap ∧ va_K D CLS (TYH ca) U)) (va_Qr (fun (_ : Unit) => True) (fun _ a t => a = ad 7 r0 ∧ va_P D CLS (wh ad ca z u0) t.heap) (AH ad)) 0 0 (AH ad) := by
  refine Met.ofW (cc := b_M_post) (maxL := 5) (ret := (some (.object "TripleHouse$Letter"))) (by decide +kernel) rfl ?_
  intro p e s m args below meth c s₁ B hml hv
  obtain ⟨rfl, hP, hK⟩ := hv
  have hx := B.exec
  have hb := B.bytes
  have hr := B.returns
  have hts : ∀ w ∈ ALL, w.before _ s = true := fun w h => atoms_spec (ws := ws_M_post) B.pre w (List.mem_cons_of_mem _ h)
  have hown : s.vm.findClass R_M = some m.cls := findClass_of_methodNamed B.named
  have hlocks := B.notSynchronized
  have hD := hD0
  have hS : va_S (AH ad) s.heap s.heap [] := va_S.rf
  have hP : va_P D CLS (wh ad ca z u) s.heap := hP
  have hl := lv_entry ([.ref (ad 3 0), .int a1, .int a2, .int a3]) (n := 5) (Nat.le_of_ble_eq_true rfl)
  rw [lg_entry_eq]
  generalize (lg_sl ([.ref (ad 3 0), .int a1, .int a2, .int a3]) ++ List.replicate (5 - (lg_sl ([.ref (ad 3 0), .int a1, .int a2, .int a3])).length) Slot.unset).toArray = ls at hl ⊢
  have hl : lv_has ls 5 [(0, .ref (ad 3 0)), (1, .int a1), (2, .int a2), (3, .int a3)] := hl
  unfold F_M_post at hF
  refine lv_aload_n hx hb d_M_post_0 rfl (lv_at hl 0 rfl) ?_
  refine gf_M_1 hx hb hts hown hK hP (by decide) a_86 d_M_post_1 ?_
  refine lv_astore (lv' := [(4, .ref (ad 7 150)), (0, .ref (ad 3 0)), (1, .int a1), (2, .int a2), (3, .int a3)]) hx hb d_M_post_4 hl (by decide) rfl (fun ls hl => ?_)
  refine lv_aload_n hx hb d_M_post_6 rfl (lv_at hl 1 rfl) ?_
  refine gf_M_3 hx hb hts hown hK hP (by decide) a_88 d_M_post_7 ?_
  refine lv_sipush (v := 150) hx hb d_M_post_10 (by decide) ?_
  refine lv_icmp_ge (tgt := 37) hx hb d_M_post_13 (by decide) (fun h1 => ?_) (fun h1 => ?_)
  · have hF := it_t hF h1
    refine lv_aload hx hb d_M_post_37 (lv_at hl 0 rfl) ?_
    refine lv_iload_n hx hb d_M_post_39 rfl (lv_at hl 2 rfl) ?_
    refine lv_iload_n hx hb d_M_post_40 rfl (lv_at hl 3 rfl) ?_
    refine lv_iload_n hx hb d_M_post_41 rfl (lv_at hl 4 rfl) ?_
    obtain ⟨u4, h3, hF⟩ := bs_u hF
    refine k_vv (ad 7 150) [.int a1, .int a2, .int a3] [] ⟨hx, hb, hml, hown, hts⟩ (c_L_address l D ad ca hD0 (z := z) (u := u) (by decide) h3) (w_L_address hts a_271 ⟨Nat.le_of_ble_eq_true rfl, Nat.le_of_ble_eq_true rfl⟩) (rv_L hK hP (by decide)) hP hK hS (fun _ h => h) rfl rfl hl.1 (Nat.le_of_ble_eq_true rfl) ⟨Nat.zero_le _, Nat.zero_le _⟩ d_M_post_42 (fun H locs hP hS => ?_)
    refine lv_aload hx hb d_M_post_45 (lv_at hl 0 rfl) ?_
    obtain ⟨rfl, rfl⟩ := rt2 hF
    exact W.aret (v := .ref (ad 7 150)) hx hb hr (Or.inl ⟨_, rfl⟩) (Or.inr ⟨_, rfl⟩) (fun t ht hW => ⟨⟨(), _, rfl, trivial, rfl, vp_at ht hP⟩, hS.F ht⟩) hS.2.2 d_M_post_47
  · have hF := it_f hF h1
    refine lv_aload_n hx hb d_M_post_16 rfl (lv_at hl 1 rfl) ?_
    refine gf_M_0 hx hb hts hown hK hP (by decide) a_84 d_M_post_17 ?_
    refine lv_aload_n hx hb d_M_post_20 rfl (lv_at hl 1 rfl) ?_
    refine gf_M_3 hx hb hts hown hK hP (by decide) a_88 d_M_post_21 ?_
    obtain ⟨h5, hF⟩ := as_u hF
    refine al_6 hx hb hK hP h5 d_M_post_24 ?_
    obtain ⟨h6, hF⟩ := as_u hF
    refine lv_astore (lv' := [(4, .ref (ad 7 (u.2.1 ((u.1 3 0 3)).toNatClampNeg))), (0, .ref (ad 3 0)), (1, .int a1), (2, .int a2), (3, .int a3)]) hx hb d_M_post_25 hl (by decide) rfl (fun ls hl => ?_)
    refine lv_aload_n hx hb d_M_post_27 rfl (lv_at hl 1 rfl) ?_
    refine lv_dup hx hb d_M_post_28 rfl ?_
    refine gf_M_3 hx hb hts hown hK hP (by decide) a_88 d_M_post_29 ?_
    refine lv_iconst (v := 1) hx hb d_M_post_32 (by decide) ?_
    refine lv_iadd hx hb d_M_post_33 ?_
    obtain ⟨u7, h8, hF⟩ := nm_u hF
    refine pf_M_3 hx hb hts hown hK hP hD hS (by decide) h8 a_88 d_M_post_34 (fun H locs hP hS => ?_)
    refine lv_aload hx hb d_M_post_37 (lv_at hl 0 rfl) ?_
    refine lv_iload_n hx hb d_M_post_39 rfl (lv_at hl 2 rfl) ?_
    refine lv_iload_n hx hb d_M_post_40 rfl (lv_at hl 3 rfl) ?_
    refine lv_iload_n hx hb d_M_post_41 rfl (lv_at hl 4 rfl) ?_
    obtain ⟨u11, h10, hF⟩ := bs_u hF
    refine k_vv (ad 7 (u.2.1 ((u.1 3 0 3)).toNatClampNeg)) [.int a1, .int a2, .int a3] [] ⟨hx, hb, hml, hown, hts⟩ (c_L_address l D ad ca hD0 (z := z) (u := u7) h6 h10) (w_L_address hts a_271 ⟨Nat.le_of_ble_eq_true rfl, Nat.le_of_ble_eq_true rfl⟩) (rv_L hK hP h6) hP hK hS (fun _ h => h) rfl rfl hl.1 (Nat.le_of_ble_eq_true rfl) ⟨Nat.zero_le _, Nat.zero_le _⟩ d_M_post_42 (fun H locs hP hS => ?_)
    refine lv_aload hx hb d_M_post_45 (lv_at hl 0 rfl) ?_
    obtain ⟨rfl, rfl⟩ := rt2 hF
    exact W.aret (v := .ref (ad 7 (u.2.1 ((u.1 3 0 3)).toNatClampNeg))) hx hb hr (Or.inl ⟨_, rfl⟩) (Or.inr ⟨_, rfl⟩) (fun t ht hW => ⟨⟨(), _, rfl, trivial, rfl, vp_at ht hP⟩, hS.F ht⟩) hS.2.2 d_M_post_47
def ws_M_take : List Cond := Cond.code y_M_take b_M_take 4 (some (.object "TripleHouse$Letter")) :: ALL
theorem w_M_take {R : Room} {s : State} {args : Array Value} {own : String} {index : Nat} (hts : ∀ w ∈ ALL, w.before args s = true) (hlk : Cond.methodLink own index y_M_take ∈ ALL) (hR : (({ frames := 0, cells := 0, slots := 0, locals := 0 } : Room)).frames + 1 ≤ R.frames ∧ 8 + (4 + 11) + (({ frames := 0, cells := 0, slots := 0, locals := 0 } : Room)).locals ≤ R.locals) : CallW R s args own R_M index y_M_take b_M_take 4 (some (.object "TripleHouse$Letter")) ws_M_take ({ frames := 0, cells := 0, slots := 0, locals := 0 } : Room) 0 0 1 := ⟨callB_of 1 hts (good_c a_258) rfl rfl rfl (hts _ a_2) (hts _ hlk) (by decide +kernel) hR, hts _ a_256, hts _ a_257⟩
theorem d_M_take_0 : decode b_M_take 0 = .ok (.aload_n 0, 1) := by decide +kernel
theorem d_M_take_1 : decode b_M_take 1 = .ok (.getfield 11, 3) := by decide +kernel
theorem d_M_take_4 : decode b_M_take 4 = .ok (.iload_n 1, 1) := by decide +kernel
theorem d_M_take_5 : decode b_M_take 5 = .ok (.aaload, 1) := by decide +kernel
theorem d_M_take_6 : decode b_M_take 6 = .ok (.astore_n 2, 1) := by decide +kernel
theorem d_M_take_7 : decode b_M_take 7 = .ok (.aload_n 0, 1) := by decide +kernel
theorem d_M_take_8 : decode b_M_take 8 = .ok (.dup, 1) := by decide +kernel
theorem d_M_take_9 : decode b_M_take 9 = .ok (.getfield 25, 3) := by decide +kernel
theorem d_M_take_12 : decode b_M_take 12 = .ok (.iconst 1, 1) := by decide +kernel
theorem d_M_take_13 : decode b_M_take 13 = .ok (.isub, 1) := by decide +kernel
theorem d_M_take_14 : decode b_M_take 14 = .ok (.putfield 25, 3) := by decide +kernel
theorem d_M_take_17 : decode b_M_take 17 = .ok (.iload_n 1, 1) := by decide +kernel
theorem d_M_take_18 : decode b_M_take 18 = .ok (.istore_n 3, 1) := by decide +kernel
theorem d_M_take_19 : decode b_M_take 19 = .ok (.iload_n 3, 1) := by decide +kernel
theorem d_M_take_20 : decode b_M_take 20 = .ok (.aload_n 0, 1) := by decide +kernel
theorem d_M_take_21 : decode b_M_take 21 = .ok (.getfield 25, 3) := by decide +kernel
theorem d_M_take_24 : decode b_M_take 24 = .ok (.if_icmp .ge 23, 3) := by decide +kernel
theorem d_M_take_27 : decode b_M_take 27 = .ok (.aload_n 0, 1) := by decide +kernel
theorem d_M_take_28 : decode b_M_take 28 = .ok (.getfield 11, 3) := by decide +kernel
theorem d_M_take_31 : decode b_M_take 31 = .ok (.iload_n 3, 1) := by decide +kernel
theorem d_M_take_32 : decode b_M_take 32 = .ok (.aload_n 0, 1) := by decide +kernel
theorem d_M_take_33 : decode b_M_take 33 = .ok (.getfield 11, 3) := by decide +kernel
theorem d_M_take_36 : decode b_M_take 36 = .ok (.iload_n 3, 1) := by decide +kernel
theorem d_M_take_37 : decode b_M_take 37 = .ok (.iconst 1, 1) := by decide +kernel
theorem d_M_take_38 : decode b_M_take 38 = .ok (.iadd, 1) := by decide +kernel
theorem d_M_take_39 : decode b_M_take 39 = .ok (.aaload, 1) := by decide +kernel
theorem d_M_take_40 : decode b_M_take 40 = .ok (.aastore, 1) := by decide +kernel
theorem d_M_take_41 : decode b_M_take 41 = .ok (.iinc 3 1, 3) := by decide +kernel
theorem d_M_take_44 : decode b_M_take 44 = .ok (.goto (-25), 3) := by decide +kernel
theorem d_M_take_47 : decode b_M_take 47 = .ok (.aload_n 0, 1) := by decide +kernel
theorem d_M_take_48 : decode b_M_take 48 = .ok (.getfield 11, 3) := by decide +kernel
theorem d_M_take_51 : decode b_M_take 51 = .ok (.aload_n 0, 1) := by decide +kernel
theorem d_M_take_52 : decode b_M_take 52 = .ok (.getfield 25, 3) := by decide +kernel
theorem d_M_take_55 : decode b_M_take 55 = .ok (.aload_n 0, 1) := by decide +kernel
theorem d_M_take_56 : decode b_M_take 56 = .ok (.getfield 22, 3) := by decide +kernel
theorem d_M_take_59 : decode b_M_take 59 = .ok (.aastore, 1) := by decide +kernel
theorem d_M_take_60 : decode b_M_take 60 = .ok (.aload_n 0, 1) := by decide +kernel
theorem d_M_take_61 : decode b_M_take 61 = .ok (.aload_n 2, 1) := by decide +kernel
theorem d_M_take_62 : decode b_M_take 62 = .ok (.putfield 22, 3) := by decide +kernel
theorem d_M_take_65 : decode b_M_take 65 = .ok (.aload_n 2, 1) := by decide +kernel
theorem d_M_take_66 : decode b_M_take 66 = .ok (.areturn, 1) := by decide +kernel
def Fj_M_take_47  (u : XC) (y2 : Nat) : Option (Nat × XC) := (if u.2.2 < 152 then (if 0 ≤ (u.1 3 0 3) ∧ ((u.1 3 0 3)).toNatClampNeg < 150 then (nm_ (pr u ((u.1 3 0 3)).toNatClampNeg u.2.2) fun u8 => (nm_ (pt u8 y2) fun u10 => some (y2, u10))) else none) else none)
def Fl_M_take_19  : Nat → XC → Nat → Int32 → Option (Nat × XC)
  | 0, _, _, _ => none
  | n + 1, u, y2, x3 => (if (u.1 3 0 3) ≤ x3 then Fj_M_take_47  u y2 else (if 0 ≤ (x3 + 1) ∧ ((x3 + 1)).toNatClampNeg < 150 then (if (u.2.1 ((x3 + 1)).toNatClampNeg) < 152 then (if 0 ≤ x3 ∧ (x3).toNatClampNeg < 150 then (nm_ (pr u (x3).toNatClampNeg (u.2.1 ((x3 + 1)).toNatClampNeg)) fun u15 => (Fl_M_take_19 n) u15 y2 (x3 + 1)) else none) else none) else none))
def F_M_take (u : XC) (a1 : Int32) : Option (Nat × XC) := (if 0 ≤ a1 ∧ (a1).toNatClampNeg < 150 then (if (u.2.1 (a1).toNatClampNeg) < 152 then (nm_ (pu u 3 0 3 ((u.1 3 0 3) - 1)) fun u3 => Fl_M_take_19  200 u3 (u.2.1 (a1).toNatClampNeg) a1) else none) else none)
set_option maxHeartbeats 4000000 in
set_option maxRecDepth 100000 in
theorem jn_M_take_47 {p : Program} {l : Launch} {e : Env} {s : State} {m : MethodId} {args : Array Value} {below : List Frame} {meth : Method} {c : Code} {D : va_G} {ad : Nat → Nat → Nat} {ca : Nat → ClassId} {z : ZW} (hx : p.tables.exec = Jvm.exec) (hb : c.code = b_M_take) (hr : meth.sig.returnType = (some (.object "TripleHouse$Letter"))) (hts : ∀ w ∈ ALL, w.before args s = true) (hown : s.vm.findClass R_M = some m.cls) (hlocks : meth.locks = false) (hml : c.maxLocals = 4) (hK : va_K D CLS (TYH ca) s) (hD0 : ∀ z u, va_D (AH ad) (wh ad ca z u)) (hD : ∀ z u, va_D (AH ad) (wh ad ca z u))  : ∀ (u : XC) (y2 : Nat) (hy2 : y2 < 152) (r0 : Nat) (u0 : XC), Fj_M_take_47  u y2 = some (r0, u0) → ∀ (H : Heap) (locs : List Loc) (ls : Array Slot), va_P D CLS (wh ad ca z u) H → va_S (AH ad) s.heap H locs → lv_has ls 4 [(0, .ref (ad 3 0)), (2, .ref (ad 7 y2))] → W p l e ({ frames := 0, cells := 0, slots := 0, locals := 0 } : Room) s m args below meth c H locs 0 0 (MQ below (va_Qr (fun (_ : Unit) => True) (fun _ a t => a = ad 7 r0 ∧ va_P D CLS (wh ad ca z u0) t.heap) (AH ad)) args s 0 0 (AH ad)) (F0 m 47 ls []) := by
  intro u y2 hy2 r0 u0 hF H locs ls hP hS hl
  unfold Fj_M_take_47 at hF
  refine lv_aload_n hx hb d_M_take_47 rfl (lv_at hl 0 rfl) ?_
  refine gf_M_0 hx hb hts hown hK hP (by decide) a_84 d_M_take_48 ?_
  refine lv_aload_n hx hb d_M_take_51 rfl (lv_at hl 0 rfl) ?_
  refine gf_M_3 hx hb hts hown hK hP (by decide) a_88 d_M_take_52 ?_
  refine lv_aload_n hx hb d_M_take_55 rfl (lv_at hl 0 rfl) ?_
  refine gf_M_2 hx hb hts hown hK hP (by decide) a_87 d_M_take_56 ?_
  obtain ⟨h6, hF⟩ := as_u hF
  obtain ⟨h7, hF⟩ := as_u hF
  obtain ⟨u8, h9, hF⟩ := nm_u hF
  refine as_6 hx hb hK hP hD hS h6 h7 h9 d_M_take_59 (fun H locs hP hS => ?_)
  refine lv_aload_n hx hb d_M_take_60 rfl (lv_at hl 0 rfl) ?_
  refine lv_aload_n hx hb d_M_take_61 rfl (lv_at hl 1 rfl) ?_
  obtain ⟨u10, h11, hF⟩ := nm_u hF
  refine pf_M_2 hx hb hts hown hK hP hD hS (by decide) h11 a_87 d_M_take_62 (fun H locs hP hS => ?_)
  refine lv_aload_n hx hb d_M_take_65 rfl (lv_at hl 1 rfl) ?_
  obtain ⟨rfl, rfl⟩ := rt2 hF
  exact W.aret (v := .ref (ad 7 y2)) hx hb hr (Or.inl ⟨_, rfl⟩) (Or.inr ⟨_, rfl⟩) (fun t ht hW => ⟨⟨(), _, rfl, trivial, rfl, vp_at ht hP⟩, hS.F ht⟩) hS.2.2 d_M_take_66
set_option maxHeartbeats 4000000 in
set_option maxRecDepth 100000 in
theorem lp_M_take_19 {p : Program} {l : Launch} {e : Env} {s : State} {m : MethodId} {args : Array Value} {below : List Frame} {meth : Method} {c : Code} {D : va_G} {ad : Nat → Nat → Nat} {ca : Nat → ClassId} {z : ZW} (hx : p.tables.exec = Jvm.exec) (hb : c.code = b_M_take) (hr : meth.sig.returnType = (some (.object "TripleHouse$Letter"))) (hts : ∀ w ∈ ALL, w.before args s = true) (hown : s.vm.findClass R_M = some m.cls) (hlocks : meth.locks = false) (hml : c.maxLocals = 4) (hK : va_K D CLS (TYH ca) s) (hD0 : ∀ z u, va_D (AH ad) (wh ad ca z u)) (hD : ∀ z u, va_D (AH ad) (wh ad ca z u))  : ∀ (n : Nat), ∀ (u : XC) (y2 : Nat) (x3 : Int32) (hy2 : y2 < 152) (r0 : Nat) (u0 : XC), Fl_M_take_19  n u y2 x3 = some (r0, u0) → ∀ (H : Heap) (locs : List Loc) (ls : Array Slot), va_P D CLS (wh ad ca z u) H → va_S (AH ad) s.heap H locs → lv_has ls 4 [(0, .ref (ad 3 0)), (2, .ref (ad 7 y2)), (3, .int x3)] → W p l e ({ frames := 0, cells := 0, slots := 0, locals := 0 } : Room) s m args below meth c H locs 0 0 (MQ below (va_Qr (fun (_ : Unit) => True) (fun _ a t => a = ad 7 r0 ∧ va_P D CLS (wh ad ca z u0) t.heap) (AH ad)) args s 0 0 (AH ad)) (F0 m 19 ls []) := by
  intro n
  induction n with
  | zero => intro u y2 x3 hy2 r0 u0 hF; rw [Fl_M_take_19] at hF; cases hF
  | succ n ih =>
    intro u y2 x3 hy2 r0 u0 hF H locs ls hP hS hl
    rw [Fl_M_take_19] at hF
    refine lv_iload_n hx hb d_M_take_19 rfl (lv_at hl 2 rfl) ?_
    refine lv_aload_n hx hb d_M_take_20 rfl (lv_at hl 0 rfl) ?_
    refine gf_M_3 hx hb hts hown hK hP (by decide) a_88 d_M_take_21 ?_
    refine lv_icmp_ge (tgt := 47) hx hb d_M_take_24 (by decide) (fun h5 => ?_) (fun h5 => ?_)
    · have hF := it_t hF h5
      exact jn_M_take_47 hx hb hr hts hown hlocks hml hK hD0 hD  u y2 hy2 r0 u0 hF _ _ _ hP hS (lv_sub hl [0, 1] rfl)
    · have hF := it_f hF h5
      refine lv_aload_n hx hb d_M_take_27 rfl (lv_at hl 0 rfl) ?_
      refine gf_M_0 hx hb hts hown hK hP (by decide) a_84 d_M_take_28 ?_
      refine lv_iload_n hx hb d_M_take_31 rfl (lv_at hl 2 rfl) ?_
      refine lv_aload_n hx hb d_M_take_32 rfl (lv_at hl 0 rfl) ?_
      refine gf_M_0 hx hb hts hown hK hP (by decide) a_84 d_M_take_33 ?_
      refine lv_iload_n hx hb d_M_take_36 rfl (lv_at hl 2 rfl) ?_
      refine lv_iconst (v := 1) hx hb d_M_take_37 (by decide) ?_
      refine lv_iadd hx hb d_M_take_38 ?_
      obtain ⟨h12, hF⟩ := as_u hF
      refine al_6 hx hb hK hP h12 d_M_take_39 ?_
      obtain ⟨h13, hF⟩ := as_u hF
      obtain ⟨h14, hF⟩ := as_u hF
      obtain ⟨u15, h16, hF⟩ := nm_u hF
      refine as_6 hx hb hK hP hD hS h13 h14 h16 d_M_take_40 (fun H locs hP hS => ?_)
      refine lv_iinc (k := 2) (v := (x3 + 1)) (lv' := [(3, .int (x3 + 1)), (0, .ref (ad 3 0)), (2, .ref (ad 7 y2))]) hx hb d_M_take_41 hl rfl rfl (by decide) rfl (fun ls hl => ?_)
      refine lv_goto (tgt := 19) hx hb d_M_take_44 (by decide) ?_
      exact ih u15 y2 (x3 + 1) hy2 r0 u0 hF _ _ _ hP hS (lv_sub hl [1, 2, 0] rfl)
set_option maxHeartbeats 4000000 in
set_option maxRecDepth 100000 in
theorem c_M_take (l : Launch) (D : va_G) (ad : Nat → Nat → Nat) (ca : Nat → ClassId) (hD0 : ∀ z u, va_D (AH ad) (wh ad ca z u)) {z : ZW} {u : XC} {a1 : Int32} {r0 : Nat} {u0 : XC}  (hF : F_M_take u a1 = some (r0, u0)) : Met l y_M_take ws_M_take ({ frames := 0, cells := 0, slots := 0, locals := 0 } : Room) (va_Pc [.ref (ad 3 0), .int a1] (fun U => va_P D CLS (wh ad ca z u) U.heap ∧ va_K D CLS (TYH ca) U)) (va_Qr (fun (_ : Unit) => True) (fun _ a t => a = ad 7 r0 ∧ va_P D CLS (wh ad ca z u0) t.heap) (AH ad)) 0 0 (AH ad) := by
  refine Met.ofW (cc := b_M_take) (maxL := 4) (ret := (some (.object "TripleHouse$Letter"))) (by decide +kernel) rfl ?_
  intro p e s m args below meth c s₁ B hml hv
  obtain ⟨rfl, hP, hK⟩ := hv
  have hx := B.exec
  have hb := B.bytes
  have hr := B.returns
  have hts : ∀ w ∈ ALL, w.before _ s = true := fun w h => atoms_spec (ws := ws_M_take) B.pre w (List.mem_cons_of_mem _ h)
  have hown : s.vm.findClass R_M = some m.cls := findClass_of_methodNamed B.named
  have hlocks := B.notSynchronized
  have hD := hD0
  have hS : va_S (AH ad) s.heap s.heap [] := va_S.rf
  have hP : va_P D CLS (wh ad ca z u) s.heap := hP
  have hl := lv_entry ([.ref (ad 3 0), .int a1]) (n := 4) (Nat.le_of_ble_eq_true rfl)
  rw [lg_entry_eq]
  generalize (lg_sl ([.ref (ad 3 0), .int a1]) ++ List.replicate (4 - (lg_sl ([.ref (ad 3 0), .int a1])).length) Slot.unset).toArray = ls at hl ⊢
  have hl : lv_has ls 4 [(0, .ref (ad 3 0)), (1, .int a1)] := hl
  unfold F_M_take at hF
  refine lv_aload_n hx hb d_M_take_0 rfl (lv_at hl 0 rfl) ?_
  refine gf_M_0 hx hb hts hown hK hP (by decide) a_84 d_M_take_1 ?_
  refine lv_iload_n hx hb d_M_take_4 rfl (lv_at hl 1 rfl) ?_
  obtain ⟨h1, hF⟩ := as_u hF
  refine al_6 hx hb hK hP h1 d_M_take_5 ?_
  obtain ⟨h2, hF⟩ := as_u hF
  refine lv_astore_n (lv' := [(2, .ref (ad 7 (u.2.1 (a1).toNatClampNeg))), (0, .ref (ad 3 0)), (1, .int a1)]) hx hb d_M_take_6 rfl hl (by decide) rfl (fun ls hl => ?_)
  refine lv_aload_n hx hb d_M_take_7 rfl (lv_at hl 1 rfl) ?_
  refine lv_dup hx hb d_M_take_8 rfl ?_
  refine gf_M_3 hx hb hts hown hK hP (by decide) a_88 d_M_take_9 ?_
  refine lv_iconst (v := 1) hx hb d_M_take_12 (by decide) ?_
  refine lv_isub hx hb d_M_take_13 ?_
  obtain ⟨u3, h4, hF⟩ := nm_u hF
  refine pf_M_3 hx hb hts hown hK hP hD hS (by decide) h4 a_88 d_M_take_14 (fun H locs hP hS => ?_)
  refine lv_iload_n hx hb d_M_take_17 rfl (lv_at hl 2 rfl) ?_
  refine lv_istore_n (lv' := [(3, .int a1), (2, .ref (ad 7 (u.2.1 (a1).toNatClampNeg))), (0, .ref (ad 3 0)), (1, .int a1)]) hx hb d_M_take_18 rfl hl (by decide) rfl (fun ls hl => ?_)
  exact lp_M_take_19 hx hb hr hts hown hlocks hml hK hD0 hD  200 u3 (u.2.1 (a1).toNatClampNeg) a1 h2 r0 u0 hF _ _ _ hP hS (lv_sub hl [2, 1, 0] rfl)
def ws_M_copyToEnd : List Cond := Cond.code y_M_copyToEnd b_M_copyToEnd 4 none :: ALL
theorem w_M_copyToEnd {R : Room} {s : State} {args : Array Value} {own : String} {index : Nat} (hts : ∀ w ∈ ALL, w.before args s = true) (hlk : Cond.methodLink own index y_M_copyToEnd ∈ ALL) (hR : (({ frames := 2, cells := 0, slots := 0, locals := 47 } : Room)).frames + 1 ≤ R.frames ∧ 8 + (4 + 11) + (({ frames := 2, cells := 0, slots := 0, locals := 47 } : Room)).locals ≤ R.locals) : CallW R s args own R_M index y_M_copyToEnd b_M_copyToEnd 4 none ws_M_copyToEnd ({ frames := 2, cells := 0, slots := 0, locals := 47 } : Room) 0 0 1 := ⟨callB_of 1 hts (good_c a_266) rfl rfl rfl (hts _ a_2) (hts _ hlk) (by decide +kernel) hR, hts _ a_264, hts _ a_265⟩
theorem d_M_copyToEnd_0 : decode b_M_copyToEnd 0 = .ok (.aload_n 0, 1) := by decide +kernel
theorem d_M_copyToEnd_1 : decode b_M_copyToEnd 1 = .ok (.getfield 11, 3) := by decide +kernel
theorem d_M_copyToEnd_4 : decode b_M_copyToEnd 4 = .ok (.iload_n 1, 1) := by decide +kernel
theorem d_M_copyToEnd_5 : decode b_M_copyToEnd 5 = .ok (.aaload, 1) := by decide +kernel
theorem d_M_copyToEnd_6 : decode b_M_copyToEnd 6 = .ok (.astore_n 2, 1) := by decide +kernel
theorem d_M_copyToEnd_7 : decode b_M_copyToEnd 7 = .ok (.aload_n 0, 1) := by decide +kernel
theorem d_M_copyToEnd_8 : decode b_M_copyToEnd 8 = .ok (.aload_n 2, 1) := by decide +kernel
theorem d_M_copyToEnd_9 : decode b_M_copyToEnd 9 = .ok (.getfield 33, 3) := by decide +kernel
theorem d_M_copyToEnd_12 : decode b_M_copyToEnd 12 = .ok (.aload_n 2, 1) := by decide +kernel
theorem d_M_copyToEnd_13 : decode b_M_copyToEnd 13 = .ok (.getfield 36, 3) := by decide +kernel
theorem d_M_copyToEnd_16 : decode b_M_copyToEnd 16 = .ok (.aload_n 2, 1) := by decide +kernel
theorem d_M_copyToEnd_17 : decode b_M_copyToEnd 17 = .ok (.getfield 39, 3) := by decide +kernel
theorem d_M_copyToEnd_20 : decode b_M_copyToEnd 20 = .ok (.invokevirtual 42, 3) := by decide +kernel
theorem d_M_copyToEnd_23 : decode b_M_copyToEnd 23 = .ok (.astore_n 3, 1) := by decide +kernel
theorem d_M_copyToEnd_24 : decode b_M_copyToEnd 24 = .ok (.aload_n 3, 1) := by decide +kernel
theorem d_M_copyToEnd_25 : decode b_M_copyToEnd 25 = .ok (.aload_n 2, 1) := by decide +kernel
theorem d_M_copyToEnd_26 : decode b_M_copyToEnd 26 = .ok (.getfield 46, 3) := by decide +kernel
theorem d_M_copyToEnd_29 : decode b_M_copyToEnd 29 = .ok (.putfield 46, 3) := by decide +kernel
theorem d_M_copyToEnd_32 : decode b_M_copyToEnd 32 = .ok (.aload_n 3, 1) := by decide +kernel
theorem d_M_copyToEnd_33 : decode b_M_copyToEnd 33 = .ok (.aload_n 2, 1) := by decide +kernel
theorem d_M_copyToEnd_34 : decode b_M_copyToEnd 34 = .ok (.getfield 49, 3) := by decide +kernel
theorem d_M_copyToEnd_37 : decode b_M_copyToEnd 37 = .ok (.putfield 49, 3) := by decide +kernel
theorem d_M_copyToEnd_40 : decode b_M_copyToEnd 40 = .ok (.aload_n 3, 1) := by decide +kernel
theorem d_M_copyToEnd_41 : decode b_M_copyToEnd 41 = .ok (.aload_n 2, 1) := by decide +kernel
theorem d_M_copyToEnd_42 : decode b_M_copyToEnd 42 = .ok (.getfield 52, 3) := by decide +kernel
theorem d_M_copyToEnd_45 : decode b_M_copyToEnd 45 = .ok (.putfield 52, 3) := by decide +kernel
theorem d_M_copyToEnd_48 : decode b_M_copyToEnd 48 = .ok (.aload_n 3, 1) := by decide +kernel
theorem d_M_copyToEnd_49 : decode b_M_copyToEnd 49 = .ok (.aload_n 2, 1) := by decide +kernel
theorem d_M_copyToEnd_50 : decode b_M_copyToEnd 50 = .ok (.getfield 55, 3) := by decide +kernel
theorem d_M_copyToEnd_53 : decode b_M_copyToEnd 53 = .ok (.putfield 55, 3) := by decide +kernel
theorem d_M_copyToEnd_56 : decode b_M_copyToEnd 56 = .ok (.aload_n 3, 1) := by decide +kernel
theorem d_M_copyToEnd_57 : decode b_M_copyToEnd 57 = .ok (.aload_n 2, 1) := by decide +kernel
theorem d_M_copyToEnd_58 : decode b_M_copyToEnd 58 = .ok (.getfield 58, 3) := by decide +kernel
theorem d_M_copyToEnd_61 : decode b_M_copyToEnd 61 = .ok (.putfield 58, 3) := by decide +kernel
theorem d_M_copyToEnd_64 : decode b_M_copyToEnd 64 = .ok (.return_, 1) := by decide +kernel
def F_M_copyToEnd (u : XC) (a1 : Int32) : Option (XC) := (if 0 ≤ a1 ∧ (a1).toNatClampNeg < 150 then (if (u.2.1 (a1).toNatClampNeg) < 152 then (bd_ (F_M_post u (u.1 7 (u.2.1 (a1).toNatClampNeg) 0) (u.1 7 (u.2.1 (a1).toNatClampNeg) 1) (u.1 7 (u.2.1 (a1).toNatClampNeg) 2)) fun r3 u5 => (if r3 < 152 then (nm_ (pu u5 7 r3 3 (u5.1 7 (u.2.1 (a1).toNatClampNeg) 3)) fun u7 => (nm_ (pu u7 7 r3 4 (u7.1 7 (u.2.1 (a1).toNatClampNeg) 4)) fun u9 => (nm_ (pu u9 7 r3 5 (u9.1 7 (u.2.1 (a1).toNatClampNeg) 5)) fun u11 => (nm_ (pu u11 7 r3 6 (u11.1 7 (u.2.1 (a1).toNatClampNeg) 6)) fun u13 => (nm_ (pu u13 7 r3 7 (u13.1 7 (u.2.1 (a1).toNatClampNeg) 7)) fun u15 => some u15))))) else none)) else none) else none)
set_option maxHeartbeats 4000000 in
set_option maxRecDepth 100000 in
theorem c_M_copyToEnd (l : Launch) (D : va_G) (ad : Nat → Nat → Nat) (ca : Nat → ClassId) (hD0 : ∀ z u, va_D (AH ad) (wh ad ca z u)) {z : ZW} {u : XC} {a1 : Int32} {u0 : XC}  (hF : F_M_copyToEnd u a1 = some u0) : Met l y_M_copyToEnd ws_M_copyToEnd ({ frames := 2, cells := 0, slots := 0, locals := 47 } : Room) (va_Pc [.ref (ad 3 0), .int a1] (fun U => va_P D CLS (wh ad ca z u) U.heap ∧ va_K D CLS (TYH ca) U)) (va_Qv (fun (_ : Unit) => True) (fun _ t => va_P D CLS (wh ad ca z u0) t.heap) (AH ad)) 0 0 (AH ad) := by
  refine Met.ofW (cc := b_M_copyToEnd) (maxL := 4) (ret := none) (by decide +kernel) rfl ?_
  intro p e s m args below meth c s₁ B hml hv
  obtain ⟨rfl, hP, hK⟩ := hv
  have hx := B.exec
  have hb := B.bytes
  have hr := B.returns
  have hts : ∀ w ∈ ALL, w.before _ s = true := fun w h => atoms_spec (ws := ws_M_copyToEnd) B.pre w (List.mem_cons_of_mem _ h)
  have hown : s.vm.findClass R_M = some m.cls := findClass_of_methodNamed B.named
  have hlocks := B.notSynchronized
  have hD := hD0
  have hS : va_S (AH ad) s.heap s.heap [] := va_S.rf
  have hP : va_P D CLS (wh ad ca z u) s.heap := hP
  have hl := lv_entry ([.ref (ad 3 0), .int a1]) (n := 4) (Nat.le_of_ble_eq_true rfl)
  rw [lg_entry_eq]
  generalize (lg_sl ([.ref (ad 3 0), .int a1]) ++ List.replicate (4 - (lg_sl ([.ref (ad 3 0), .int a1])).length) Slot.unset).toArray = ls at hl ⊢
  have hl : lv_has ls 4 [(0, .ref (ad 3 0)), (1, .int a1)] := hl
  unfold F_M_copyToEnd at hF
  refine lv_aload_n hx hb d_M_copyToEnd_0 rfl (lv_at hl 0 rfl) ?_
  refine gf_M_0 hx hb hts hown hK hP (by decide) a_84 d_M_copyToEnd_1 ?_
  refine lv_iload_n hx hb d_M_copyToEnd_4 rfl (lv_at hl 1 rfl) ?_
  obtain ⟨h1, hF⟩ := as_u hF
  refine al_6 hx hb hK hP h1 d_M_copyToEnd_5 ?_
  obtain ⟨h2, hF⟩ := as_u hF
  refine lv_astore_n (lv' := [(2, .ref (ad 7 (u.2.1 (a1).toNatClampNeg))), (0, .ref (ad 3 0)), (1, .int a1)]) hx hb d_M_copyToEnd_6 rfl hl (by decide) rfl (fun ls hl => ?_)
  refine lv_aload_n hx hb d_M_copyToEnd_7 rfl (lv_at hl 1 rfl) ?_
  refine lv_aload_n hx hb d_M_copyToEnd_8 rfl (lv_at hl 0 rfl) ?_
  refine gf_L_0 hx hb hts hown hK hP h2 a_44 d_M_copyToEnd_9 ?_
  refine lv_aload_n hx hb d_M_copyToEnd_12 rfl (lv_at hl 0 rfl) ?_
  refine gf_L_1 hx hb hts hown hK hP h2 a_47 d_M_copyToEnd_13 ?_
  refine lv_aload_n hx hb d_M_copyToEnd_16 rfl (lv_at hl 0 rfl) ?_
  refine gf_L_2 hx hb hts hown hK hP h2 a_50 d_M_copyToEnd_17 ?_
  obtain ⟨r3, u5, h4, hF⟩ := bd_u hF
  refine k_vr (ad 3 0) [.int (u.1 7 (u.2.1 (a1).toNatClampNeg) 0), .int (u.1 7 (u.2.1 (a1).toNatClampNeg) 1), .int (u.1 7 (u.2.1 (a1).toNatClampNeg) 2)] [] ⟨hx, hb, hml, hown, hts⟩ (c_M_post l D ad ca hD0 (z := z) (u := u)  h4) (w_M_post hts a_267 ⟨Nat.le_of_ble_eq_true rfl, Nat.le_of_ble_eq_true rfl⟩) (rv_M hK hP (by decide)) hP hK hS (fun _ h => h) rfl rfl hl.1 (Nat.le_of_ble_eq_true rfl) ⟨Nat.zero_le _, Nat.zero_le _⟩ d_M_copyToEnd_20 (fun H locs hP hS => ?_)
  obtain ⟨h6, hF⟩ := as_u hF
  refine lv_astore_n (lv' := [(3, .ref (ad 7 r3)), (2, .ref (ad 7 (u.2.1 (a1).toNatClampNeg))), (0, .ref (ad 3 0)), (1, .int a1)]) hx hb d_M_copyToEnd_23 rfl hl (by decide) rfl (fun ls hl => ?_)
  refine lv_aload_n hx hb d_M_copyToEnd_24 rfl (lv_at hl 0 rfl) ?_
  refine lv_aload_n hx hb d_M_copyToEnd_25 rfl (lv_at hl 1 rfl) ?_
  refine gf_L_3 hx hb hts hown hK hP h2 a_53 d_M_copyToEnd_26 ?_
  obtain ⟨u7, h8, hF⟩ := nm_u hF
  refine pf_L_3 hx hb hts hown hK hP hD hS h6 h8 a_53 d_M_copyToEnd_29 (fun H locs hP hS => ?_)
  refine lv_aload_n hx hb d_M_copyToEnd_32 rfl (lv_at hl 0 rfl) ?_
  refine lv_aload_n hx hb d_M_copyToEnd_33 rfl (lv_at hl 1 rfl) ?_
  refine gf_L_4 hx hb hts hown hK hP h2 a_56 d_M_copyToEnd_34 ?_
  obtain ⟨u9, h10, hF⟩ := nm_u hF
  refine pf_L_4 hx hb hts hown hK hP hD hS h6 h10 a_56 d_M_copyToEnd_37 (fun H locs hP hS => ?_)
  refine lv_aload_n hx hb d_M_copyToEnd_40 rfl (lv_at hl 0 rfl) ?_
  refine lv_aload_n hx hb d_M_copyToEnd_41 rfl (lv_at hl 1 rfl) ?_
  refine gf_L_5 hx hb hts hown hK hP h2 a_59 d_M_copyToEnd_42 ?_
  obtain ⟨u11, h12, hF⟩ := nm_u hF
  refine pf_L_5 hx hb hts hown hK hP hD hS h6 h12 a_59 d_M_copyToEnd_45 (fun H locs hP hS => ?_)
  refine lv_aload_n hx hb d_M_copyToEnd_48 rfl (lv_at hl 0 rfl) ?_
  refine lv_aload_n hx hb d_M_copyToEnd_49 rfl (lv_at hl 1 rfl) ?_
  refine gf_L_6 hx hb hts hown hK hP h2 a_62 d_M_copyToEnd_50 ?_
  obtain ⟨u13, h14, hF⟩ := nm_u hF
  refine pf_L_6 hx hb hts hown hK hP hD hS h6 h14 a_62 d_M_copyToEnd_53 (fun H locs hP hS => ?_)
  refine lv_aload_n hx hb d_M_copyToEnd_56 rfl (lv_at hl 0 rfl) ?_
  refine lv_aload_n hx hb d_M_copyToEnd_57 rfl (lv_at hl 1 rfl) ?_
  refine gf_L_7 hx hb hts hown hK hP h2 a_65 d_M_copyToEnd_58 ?_
  obtain ⟨u15, h16, hF⟩ := nm_u hF
  refine pf_L_7 hx hb hts hown hK hP hD hS h6 h16 a_65 d_M_copyToEnd_61 (fun H locs hP hS => ?_)
  have hF := rt1 hF
  subst hF
  exact W.vret hx hb hr (fun t ht hW => ⟨⟨(), rfl, trivial, vp_at ht hP⟩, hS.F ht⟩) hS.2.2 d_M_copyToEnd_64
def ws_H_hasLines : List Cond := Cond.code y_H_hasLines b_H_hasLines 2 (some .boolean) :: ALL
theorem w_H_hasLines {R : Room} {s : State} {args : Array Value} {own : String} {index : Nat} (hts : ∀ w ∈ ALL, w.before args s = true) (hlk : Cond.methodLink own index y_H_hasLines ∈ ALL) (hR : (({ frames := 0, cells := 0, slots := 0, locals := 0 } : Room)).frames + 1 ≤ R.frames ∧ 8 + (2 + 11) + (({ frames := 0, cells := 0, slots := 0, locals := 0 } : Room)).locals ≤ R.locals) : CallW R s args own R_H index y_H_hasLines b_H_hasLines 2 (some .boolean) ws_H_hasLines ({ frames := 0, cells := 0, slots := 0, locals := 0 } : Room) 0 0 1 := ⟨callB_of 1 hts (good_c a_352) rfl rfl rfl (hts _ a_1) (hts _ hlk) (by decide +kernel) hR, hts _ a_351, hts _ a_s0⟩
theorem d_H_hasLines_0 : decode b_H_hasLines 0 = .ok (.iload_n 1, 1) := by decide +kernel
theorem d_H_hasLines_1 : decode b_H_hasLines 1 = .ok (.iconst (-1), 1) := by decide +kernel
theorem d_H_hasLines_2 : decode b_H_hasLines 2 = .ok (.if_icmp .eq 19, 3) := by decide +kernel
theorem d_H_hasLines_5 : decode b_H_hasLines 5 = .ok (.aload_n 0, 1) := by decide +kernel
theorem d_H_hasLines_6 : decode b_H_hasLines 6 = .ok (.getfield 17, 3) := by decide +kernel
theorem d_H_hasLines_9 : decode b_H_hasLines 9 = .ok (.iload_n 1, 1) := by decide +kernel
theorem d_H_hasLines_10 : decode b_H_hasLines 10 = .ok (.aaload, 1) := by decide +kernel
theorem d_H_hasLines_11 : decode b_H_hasLines 11 = .ok (.getfield 218, 3) := by decide +kernel
theorem d_H_hasLines_14 : decode b_H_hasLines 14 = .ok (.ifCond .le 7, 3) := by decide +kernel
theorem d_H_hasLines_17 : decode b_H_hasLines 17 = .ok (.iconst 1, 1) := by decide +kernel
theorem d_H_hasLines_18 : decode b_H_hasLines 18 = .ok (.goto 4, 3) := by decide +kernel
theorem d_H_hasLines_21 : decode b_H_hasLines 21 = .ok (.iconst 0, 1) := by decide +kernel
theorem d_H_hasLines_22 : decode b_H_hasLines 22 = .ok (.ireturn, 1) := by decide +kernel
def F_H_hasLines (u : XC) (a1 : Int32) : Option (Int32) := (if a1 = (-1) then some 0 else (if 0 ≤ a1 ∧ (a1).toNatClampNeg < 40 then (if (u.1 5 (a1).toNatClampNeg 1) ≤ 0 then some 0 else some 1) else none))
set_option maxHeartbeats 4000000 in
set_option maxRecDepth 100000 in
theorem c_H_hasLines (l : Launch) (D : va_G) (ad : Nat → Nat → Nat) (ca : Nat → ClassId) (hD0 : ∀ z u, va_D (AH ad) (wh ad ca z u)) {z : ZW} {u : XC} {a1 : Int32} {r0 : Int32}  (hF : F_H_hasLines u a1 = some r0) : Met l y_H_hasLines ws_H_hasLines ({ frames := 0, cells := 0, slots := 0, locals := 0 } : Room) (va_Pc [.ref (ad 0 0), .int a1] (fun U => va_P D CLS (wh ad ca z u) U.heap ∧ va_K D CLS (TYH ca) U)) (vp_Si (fun r => r = r0)) 0 0 (fun _ => False) := by
  refine Met.ofW (cc := b_H_hasLines) (maxL := 2) (ret := (some .boolean)) (by decide +kernel) rfl ?_
  intro p e s m args below meth c s₁ B hml hv
  obtain ⟨rfl, hP, hK⟩ := hv
  have hx := B.exec
  have hb := B.bytes
  have hr := B.returns
  have hts : ∀ w ∈ ALL, w.before _ s = true := fun w h => atoms_spec (ws := ws_H_hasLines) B.pre w (List.mem_cons_of_mem _ h)
  have hown : s.vm.findClass R_H = some m.cls := findClass_of_methodNamed B.named
  have hlocks := B.notSynchronized
  have hD := hD0
  have hS : va_S (fun _ => True) s.heap s.heap [] := va_S.rf
  have hN : ∀ q ∈ ([] : List Loc), (fun _ => False) q.base := fun _ h => absurd h List.not_mem_nil
  have hP : va_P D CLS (wh ad ca z u) s.heap := hP
  have hl := lv_entry ([.ref (ad 0 0), .int a1]) (n := 2) (Nat.le_of_ble_eq_true rfl)
  rw [lg_entry_eq]
  generalize (lg_sl ([.ref (ad 0 0), .int a1]) ++ List.replicate (2 - (lg_sl ([.ref (ad 0 0), .int a1])).length) Slot.unset).toArray = ls at hl ⊢
  have hl : lv_has ls 2 [(0, .ref (ad 0 0)), (1, .int a1)] := hl
  have hH : s.heap = s.heap := rfl
  unfold F_H_hasLines at hF
  refine lv_iload_n hx hb d_H_hasLines_0 rfl (lv_at hl 1 rfl) ?_
  refine lv_iconst (v := (-1)) hx hb d_H_hasLines_1 (by decide) ?_
  refine lv_icmp_eq (tgt := 21) hx hb d_H_hasLines_2 (by decide) (fun h1 => ?_) (fun h1 => ?_)
  · have hF := it_t hF h1
    refine lv_iconst (v := 0) hx hb d_H_hasLines_21 (by decide) ?_
    have hF := rt1 hF
    subst hF
    exact W.zret (v := 0) hx hb hr rfl (fun t ht hW => ⟨_, rfl, rfl, ht.trans hH⟩) hN d_H_hasLines_22
  · have hF := it_f hF h1
    refine lv_aload_n hx hb d_H_hasLines_5 rfl (lv_at hl 0 rfl) ?_
    refine gf_H_1 hx hb hts hown hK hP (by decide) a_206 d_H_hasLines_6 ?_
    refine lv_iload_n hx hb d_H_hasLines_9 rfl (lv_at hl 1 rfl) ?_
    obtain ⟨h2, hF⟩ := as_u hF
    refine al_2 hx hb hK hP h2 d_H_hasLines_10 ?_
    refine gf_T_1 hx hb hts hown hK hP h2.2 a_192 d_H_hasLines_11 ?_
    refine lv_if_le (tgt := 21) hx hb d_H_hasLines_14 (by decide) (fun h3 => ?_) (fun h3 => ?_)
    · have hF := it_t hF h3
      refine lv_iconst (v := 0) hx hb d_H_hasLines_21 (by decide) ?_
      have hF := rt1 hF
      subst hF
      exact W.zret (v := 0) hx hb hr rfl (fun t ht hW => ⟨_, rfl, rfl, ht.trans hH⟩) hN d_H_hasLines_22
    · have hF := it_f hF h3
      refine lv_iconst (v := 1) hx hb d_H_hasLines_17 (by decide) ?_
      refine lv_goto (tgt := 22) hx hb d_H_hasLines_18 (by decide) ?_
      have hF := rt1 hF
      subst hF
      exact W.zret (v := 1) hx hb hr rfl (fun t ht hW => ⟨_, rfl, rfl, ht.trans hH⟩) hN d_H_hasLines_22
