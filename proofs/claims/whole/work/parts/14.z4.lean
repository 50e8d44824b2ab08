def ws_Z_restart : List Cond := Cond.code y_Z_restart b_Z_restart 2 (some .boolean) :: ALL
theorem w_Z_restart {R : Room} {s : State} {args : Array Value} {own : String} {index : Nat} (hts : ∀ w ∈ ALL, w.before args s = true) (hlk : Cond.methodLink own index y_Z_restart ∈ ALL) (hR : (({ frames := 1, cells := 0, slots := 0, locals := 20 } : Room)).frames + 1 ≤ R.frames ∧ 8 + (2 + 11) + (({ frames := 1, cells := 0, slots := 0, locals := 20 } : Room)).locals ≤ R.locals) : CallW R s args own R_Z index y_Z_restart b_Z_restart 2 (some .boolean) ws_Z_restart ({ frames := 1, cells := 0, slots := 0, locals := 20 } : Room) 0 0 1 := ⟨callB_of 1 hts (good_c a_795) rfl rfl rfl (hts _ a_8) (hts _ hlk) (by decide +kernel) hR, hts _ a_793, hts _ a_794⟩
theorem d_Z_restart_0 : decode b_Z_restart 0 = .ok (.aload_n 0, 1) := by decide +kernel
theorem d_Z_restart_1 : decode b_Z_restart 1 = .ok (.iconst 0, 1) := by decide +kernel
theorem d_Z_restart_2 : decode b_Z_restart 2 = .ok (.putfield 95, 3) := by decide +kernel
theorem d_Z_restart_5 : decode b_Z_restart 5 = .ok (.iload_n 1, 1) := by decide +kernel
theorem d_Z_restart_6 : decode b_Z_restart 6 = .ok (.invokestatic 122, 3) := by decide +kernel
theorem d_Z_restart_9 : decode b_Z_restart 9 = .ok (.ifCond .eq 12, 3) := by decide +kernel
theorem d_Z_restart_12 : decode b_Z_restart 12 = .ok (.aload_n 0, 1) := by decide +kernel
theorem d_Z_restart_13 : decode b_Z_restart 13 = .ok (.getfield 22, 3) := by decide +kernel
theorem d_Z_restart_16 : decode b_Z_restart 16 = .ok (.iload_n 1, 1) := by decide +kernel
theorem d_Z_restart_17 : decode b_Z_restart 17 = .ok (.baload, 1) := by decide +kernel
theorem d_Z_restart_18 : decode b_Z_restart 18 = .ok (.ifCond .ne 5, 3) := by decide +kernel
theorem d_Z_restart_21 : decode b_Z_restart 21 = .ok (.iconst 0, 1) := by decide +kernel
theorem d_Z_restart_22 : decode b_Z_restart 22 = .ok (.ireturn, 1) := by decide +kernel
theorem d_Z_restart_23 : decode b_Z_restart 23 = .ok (.aload_n 0, 1) := by decide +kernel
theorem d_Z_restart_24 : decode b_Z_restart 24 = .ok (.getfield 22, 3) := by decide +kernel
theorem d_Z_restart_27 : decode b_Z_restart 27 = .ok (.iload_n 1, 1) := by decide +kernel
theorem d_Z_restart_28 : decode b_Z_restart 28 = .ok (.iconst 0, 1) := by decide +kernel
theorem d_Z_restart_29 : decode b_Z_restart 29 = .ok (.bastore, 1) := by decide +kernel
theorem d_Z_restart_30 : decode b_Z_restart 30 = .ok (.iconst 1, 1) := by decide +kernel
theorem d_Z_restart_31 : decode b_Z_restart 31 = .ok (.ireturn, 1) := by decide +kernel
def F_Z_restart (z : ZW) (a1 : Int32) : Option (Int32 × ZW) := (nm_ (pz z 0 0 0) fun z1 => (bs_ (F_Z_isOffice a1) fun r3 => (if r3 = 0 then some (0, z1) else (if 0 ≤ a1 ∧ (a1).toNatClampNeg < 27 then (if (z1.1 5 (a1).toNatClampNeg) = 0 then some (0, z1) else (if 0 ≤ a1 ∧ (a1).toNatClampNeg < 27 then (nm_ (pz z1 5 (a1).toNatClampNeg 0) fun z9 => some (1, z9)) else none)) else none))))
set_option maxHeartbeats 4000000 in
set_option maxRecDepth 100000 in
theorem c_Z_restart (l : Launch) (D : va_G) (ad : Nat → Nat → Nat) (ca : Nat → ClassId) (hD0 : ∀ z u, va_D (AH ad) (wh ad ca z u)) {z : ZW} {u : XC} {a1 : Int32} {r0 : Int32} {z0 : ZW}  (hF : F_Z_restart z a1 = some (r0, z0)) : Met l y_Z_restart ws_Z_restart ({ frames := 1, cells := 0, slots := 0, locals := 20 } : Room) (va_Pc [.ref (ad 14 0), .int a1] (fun U => va_P D CLS (wh ad ca z u) U.heap ∧ va_K D CLS (TYH ca) U)) (va_Qi (fun (r : Int32) (_ : Unit) => r = r0) (fun _ t => va_P D CLS (wh ad ca z0 u) t.heap) (AH ad)) 0 0 (AH ad) := by
  refine Met.ofW (cc := b_Z_restart) (maxL := 2) (ret := (some .boolean)) (by decide +kernel) rfl ?_
  intro p e s m args below meth c s₁ B hml hv
  obtain ⟨rfl, hP, hK⟩ := hv
  have hx := B.exec
  have hb := B.bytes
  have hr := B.returns
  have hts : ∀ w ∈ ALL, w.before _ s = true := fun w h => atoms_spec (ws := ws_Z_restart) B.pre w (List.mem_cons_of_mem _ h)
  have hown : s.vm.findClass R_Z = some m.cls := findClass_of_methodNamed B.named
  have hlocks := B.notSynchronized
  have hD := hD0
  have hS : va_S (AH ad) s.heap s.heap [] := va_S.rf
  have hP : va_P D CLS (wh ad ca z u) s.heap := hP
  have hl := lv_entry ([.ref (ad 14 0), .int a1]) (n := 2) (Nat.le_of_ble_eq_true rfl)
  rw [lg_entry_eq]
  generalize (lg_sl ([.ref (ad 14 0), .int a1]) ++ List.replicate (2 - (lg_sl ([.ref (ad 14 0), .int a1])).length) Slot.unset).toArray = ls at hl ⊢
  have hl : lv_has ls 2 [(0, .ref (ad 14 0)), (1, .int a1)] := hl
  unfold F_Z_restart at hF
  refine lv_aload_n hx hb d_Z_restart_0 rfl (lv_at hl 0 rfl) ?_
  refine lv_iconst (v := 0) hx hb d_Z_restart_1 (by decide) ?_
  obtain ⟨z1, h2, hF⟩ := nm_u hF
  refine pf_Z_0 hx hb hts hown hK hP hD hS (by decide) h2 a_558 d_Z_restart_2 (fun H locs hP hS => ?_)
  refine lv_iload_n hx hb d_Z_restart_5 rfl (lv_at hl 1 rfl) ?_
  obtain ⟨r3, h4, hF⟩ := bs_u hF
  refine k_sp [.int a1] [] ⟨hx, hb, hml, hown, hts⟩ (c_Z_isOffice l  h4) (w_Z_isOffice hts a_691 ⟨Nat.le_of_ble_eq_true rfl, Nat.le_of_ble_eq_true rfl⟩) rfl rfl hl.1 (Nat.le_of_ble_eq_true rfl) ⟨Nat.zero_le _, Nat.zero_le _⟩ d_Z_restart_6 ?_
  refine lv_if_eq (tgt := 21) hx hb d_Z_restart_9 (by decide) (fun h5 => ?_) (fun h5 => ?_)
  · have hF := it_t hF h5
    refine lv_iconst (v := 0) hx hb d_Z_restart_21 (by decide) ?_
    obtain ⟨rfl, rfl⟩ := rt2 hF
    exact W.zret (v := 0) hx hb hr rfl (fun t ht hW => ⟨⟨_, (), rfl, rfl, vp_at ht hP⟩, hS.F ht⟩) hS.2.2 d_Z_restart_22
  · have hF := it_f hF h5
    refine lv_aload_n hx hb d_Z_restart_12 rfl (lv_at hl 0 rfl) ?_
    refine gf_Z_6 hx hb hts hown hK hP (by decide) a_564 d_Z_restart_13 ?_
    refine lv_iload_n hx hb d_Z_restart_16 rfl (lv_at hl 1 rfl) ?_
    obtain ⟨h6, hF⟩ := as_u hF
    refine l_zb hx hb hK hP 5 27 rfl rfl h6 d_Z_restart_17 ?_
    refine lv_if_ne (tgt := 23) hx hb d_Z_restart_18 (by decide) (fun h7 => ?_) (fun h7 => ?_)
    · have hF := it_f hF h7
      refine lv_aload_n hx hb d_Z_restart_23 rfl (lv_at hl 0 rfl) ?_
      refine gf_Z_6 hx hb hts hown hK hP (by decide) a_564 d_Z_restart_24 ?_
      refine lv_iload_n hx hb d_Z_restart_27 rfl (lv_at hl 1 rfl) ?_
      refine lv_iconst (v := 0) hx hb d_Z_restart_28 (by decide) ?_
      obtain ⟨h8, hF⟩ := as_u hF
      obtain ⟨z9, h10, hF⟩ := nm_u hF
      refine s_zb hx hb hK hP 5 27 hD hS rfl rfl h8 rfl h10 d_Z_restart_29 (fun H locs hP hS => ?_)
      refine lv_iconst (v := 1) hx hb d_Z_restart_30 (by decide) ?_
      obtain ⟨rfl, rfl⟩ := rt2 hF
      exact W.zret (v := 1) hx hb hr rfl (fun t ht hW => ⟨⟨_, (), rfl, rfl, vp_at ht hP⟩, hS.F ht⟩) hS.2.2 d_Z_restart_31
    · have hF := it_t hF h7
      refine lv_iconst (v := 0) hx hb d_Z_restart_21 (by decide) ?_
      obtain ⟨rfl, rfl⟩ := rt2 hF
      exact W.zret (v := 0) hx hb hr rfl (fun t ht hW => ⟨⟨_, (), rfl, rfl, vp_at ht hP⟩, hS.F ht⟩) hS.2.2 d_Z_restart_22
def ws_Z_asked : List Cond := Cond.code y_Z_asked b_Z_asked 3 (some .int) :: ALL
theorem w_Z_asked {R : Room} {s : State} {args : Array Value} {own : String} {index : Nat} (hts : ∀ w ∈ ALL, w.before args s = true) (hlk : Cond.methodLink own index y_Z_asked ∈ ALL) (hR : (({ frames := 1, cells := 0, slots := 0, locals := 20 } : Room)).frames + 1 ≤ R.frames ∧ 8 + (3 + 11) + (({ frames := 1, cells := 0, slots := 0, locals := 20 } : Room)).locals ≤ R.locals) : CallW R s args own R_Z index y_Z_asked b_Z_asked 3 (some .int) ws_Z_asked ({ frames := 1, cells := 0, slots := 0, locals := 20 } : Room) 0 0 2 := ⟨callB_of 2 hts (good_c a_799) rfl rfl rfl (hts _ a_8) (hts _ hlk) (by decide +kernel) hR, hts _ a_797, hts _ a_798⟩
theorem d_Z_asked_0 : decode b_Z_asked 0 = .ok (.aload_n 0, 1) := by decide +kernel
theorem d_Z_asked_1 : decode b_Z_asked 1 = .ok (.iconst 0, 1) := by decide +kernel
theorem d_Z_asked_2 : decode b_Z_asked 2 = .ok (.putfield 95, 3) := by decide +kernel
theorem d_Z_asked_5 : decode b_Z_asked 5 = .ok (.iload_n 1, 1) := by decide +kernel
theorem d_Z_asked_6 : decode b_Z_asked 6 = .ok (.invokestatic 122, 3) := by decide +kernel
theorem d_Z_asked_9 : decode b_Z_asked 9 = .ok (.ifCond .eq 12, 3) := by decide +kernel
theorem d_Z_asked_12 : decode b_Z_asked 12 = .ok (.aload_n 0, 1) := by decide +kernel
theorem d_Z_asked_13 : decode b_Z_asked 13 = .ok (.getfield 41, 3) := by decide +kernel
theorem d_Z_asked_16 : decode b_Z_asked 16 = .ok (.iload_n 1, 1) := by decide +kernel
theorem d_Z_asked_17 : decode b_Z_asked 17 = .ok (.iaload, 1) := by decide +kernel
theorem d_Z_asked_18 : decode b_Z_asked 18 = .ok (.ifCond .ne 7, 3) := by decide +kernel
theorem d_Z_asked_21 : decode b_Z_asked 21 = .ok (.iconst 0, 1) := by decide +kernel
theorem d_Z_asked_22 : decode b_Z_asked 22 = .ok (.goto 22, 3) := by decide +kernel
theorem d_Z_asked_25 : decode b_Z_asked 25 = .ok (.iload_n 2, 1) := by decide +kernel
theorem d_Z_asked_26 : decode b_Z_asked 26 = .ok (.ifCond .eq 12, 3) := by decide +kernel
theorem d_Z_asked_29 : decode b_Z_asked 29 = .ok (.aload_n 0, 1) := by decide +kernel
theorem d_Z_asked_30 : decode b_Z_asked 30 = .ok (.getfield 53, 3) := by decide +kernel
theorem d_Z_asked_33 : decode b_Z_asked 33 = .ok (.iload_n 1, 1) := by decide +kernel
theorem d_Z_asked_34 : decode b_Z_asked 34 = .ok (.iaload, 1) := by decide +kernel
theorem d_Z_asked_35 : decode b_Z_asked 35 = .ok (.goto 9, 3) := by decide +kernel
theorem d_Z_asked_38 : decode b_Z_asked 38 = .ok (.aload_n 0, 1) := by decide +kernel
theorem d_Z_asked_39 : decode b_Z_asked 39 = .ok (.getfield 56, 3) := by decide +kernel
theorem d_Z_asked_42 : decode b_Z_asked 42 = .ok (.iload_n 1, 1) := by decide +kernel
theorem d_Z_asked_43 : decode b_Z_asked 43 = .ok (.iaload, 1) := by decide +kernel
theorem d_Z_asked_44 : decode b_Z_asked 44 = .ok (.ireturn, 1) := by decide +kernel
def F_Z_asked (z : ZW) (a1 : Int32) (a2 : Int32) : Option (Int32 × ZW) := (nm_ (pz z 0 0 0) fun z1 => (bs_ (F_Z_isOffice a1) fun r3 => (if r3 = 0 then some (0, z1) else (if 0 ≤ a1 ∧ (a1).toNatClampNeg < 27 then (if (z1.1 11 (a1).toNatClampNeg) = 0 then some (0, z1) else (if a2 = 0 then (if 0 ≤ a1 ∧ (a1).toNatClampNeg < 27 then some ((z1.1 16 (a1).toNatClampNeg), z1) else none) else (if 0 ≤ a1 ∧ (a1).toNatClampNeg < 27 then some ((z1.1 15 (a1).toNatClampNeg), z1) else none))) else none))))
set_option maxHeartbeats 4000000 in
set_option maxRecDepth 100000 in
theorem c_Z_asked (l : Launch) (D : va_G) (ad : Nat → Nat → Nat) (ca : Nat → ClassId) (hD0 : ∀ z u, va_D (AH ad) (wh ad ca z u)) {z : ZW} {u : XC} {a1 : Int32} {a2 : Int32} {r0 : Int32} {z0 : ZW}  (hF : F_Z_asked z a1 a2 = some (r0, z0)) : Met l y_Z_asked ws_Z_asked ({ frames := 1, cells := 0, slots := 0, locals := 20 } : Room) (va_Pc [.ref (ad 14 0), .int a1, .int a2] (fun U => va_P D CLS (wh ad ca z u) U.heap ∧ va_K D CLS (TYH ca) U)) (va_Qi (fun (r : Int32) (_ : Unit) => r = r0) (fun _ t => va_P D CLS (wh ad ca z0 u) t.heap) (AH ad)) 0 0 (AH ad) := by
  refine Met.ofW (cc := b_Z_asked) (maxL := 3) (ret := (some .int)) (by decide +kernel) rfl ?_
  intro p e s m args below meth c s₁ B hml hv
  obtain ⟨rfl, hP, hK⟩ := hv
  have hx := B.exec
  have hb := B.bytes
  have hr := B.returns
  have hts : ∀ w ∈ ALL, w.before _ s = true := fun w h => atoms_spec (ws := ws_Z_asked) B.pre w (List.mem_cons_of_mem _ h)
  have hown : s.vm.findClass R_Z = some m.cls := findClass_of_methodNamed B.named
  have hlocks := B.notSynchronized
  have hD := hD0
  have hS : va_S (AH ad) s.heap s.heap [] := va_S.rf
  have hP : va_P D CLS (wh ad ca z u) s.heap := hP
  have hl := lv_entry ([.ref (ad 14 0), .int a1, .int a2]) (n := 3) (Nat.le_of_ble_eq_true rfl)
  rw [lg_entry_eq]
  generalize (lg_sl ([.ref (ad 14 0), .int a1, .int a2]) ++ List.replicate (3 - (lg_sl ([.ref (ad 14 0), .int a1, .int a2])).length) Slot.unset).toArray = ls at hl ⊢
  have hl : lv_has ls 3 [(0, .ref (ad 14 0)), (1, .int a1), (2, .int a2)] := hl
  unfold F_Z_asked at hF
  refine lv_aload_n hx hb d_Z_asked_0 rfl (lv_at hl 0 rfl) ?_
  refine lv_iconst (v := 0) hx hb d_Z_asked_1 (by decide) ?_
  obtain ⟨z1, h2, hF⟩ := nm_u hF
  refine pf_Z_0 hx hb hts hown hK hP hD hS (by decide) h2 a_558 d_Z_asked_2 (fun H locs hP hS => ?_)
  refine lv_iload_n hx hb d_Z_asked_5 rfl (lv_at hl 1 rfl) ?_
  obtain ⟨r3, h4, hF⟩ := bs_u hF
  refine k_sp [.int a1] [] ⟨hx, hb, hml, hown, hts⟩ (c_Z_isOffice l  h4) (w_Z_isOffice hts a_691 ⟨Nat.le_of_ble_eq_true rfl, Nat.le_of_ble_eq_true rfl⟩) rfl rfl hl.1 (Nat.le_of_ble_eq_true rfl) ⟨Nat.zero_le _, Nat.zero_le _⟩ d_Z_asked_6 ?_
  refine lv_if_eq (tgt := 21) hx hb d_Z_asked_9 (by decide) (fun h5 => ?_) (fun h5 => ?_)
  · have hF := it_t hF h5
    refine lv_iconst (v := 0) hx hb d_Z_asked_21 (by decide) ?_
    refine lv_goto (tgt := 44) hx hb d_Z_asked_22 (by decide) ?_
    obtain ⟨rfl, rfl⟩ := rt2 hF
    exact W.iret (v := 0) hx hb hr (fun t ht hW => ⟨⟨_, (), rfl, rfl, vp_at ht hP⟩, hS.F ht⟩) hS.2.2 d_Z_asked_44
  · have hF := it_f hF h5
    refine lv_aload_n hx hb d_Z_asked_12 rfl (lv_at hl 0 rfl) ?_
    refine gf_Z_12 hx hb hts hown hK hP (by decide) a_570 d_Z_asked_13 ?_
    refine lv_iload_n hx hb d_Z_asked_16 rfl (lv_at hl 1 rfl) ?_
    obtain ⟨h6, hF⟩ := as_u hF
    refine l_zi hx hb hK hP 11 27 ⟨by decide, by decide, by decide⟩ rfl h6 d_Z_asked_17 ?_
    refine lv_if_ne (tgt := 25) hx hb d_Z_asked_18 (by decide) (fun h7 => ?_) (fun h7 => ?_)
    · have hF := it_f hF h7
      refine lv_iload_n hx hb d_Z_asked_25 rfl (lv_at hl 2 rfl) ?_
      refine lv_if_eq (tgt := 38) hx hb d_Z_asked_26 (by decide) (fun h8 => ?_) (fun h8 => ?_)
      · have hF := it_t hF h8
        refine lv_aload_n hx hb d_Z_asked_38 rfl (lv_at hl 0 rfl) ?_
        refine gf_Z_17 hx hb hts hown hK hP (by decide) a_575 d_Z_asked_39 ?_
        refine lv_iload_n hx hb d_Z_asked_42 rfl (lv_at hl 1 rfl) ?_
        obtain ⟨h9, hF⟩ := as_u hF
        refine l_zi hx hb hK hP 16 27 ⟨by decide, by decide, by decide⟩ rfl h9 d_Z_asked_43 ?_
        obtain ⟨rfl, rfl⟩ := rt2 hF
        exact W.iret (v := (z1.1 16 (a1).toNatClampNeg)) hx hb hr (fun t ht hW => ⟨⟨_, (), rfl, rfl, vp_at ht hP⟩, hS.F ht⟩) hS.2.2 d_Z_asked_44
      · have hF := it_f hF h8
        refine lv_aload_n hx hb d_Z_asked_29 rfl (lv_at hl 0 rfl) ?_
        refine gf_Z_16 hx hb hts hown hK hP (by decide) a_574 d_Z_asked_30 ?_
        refine lv_iload_n hx hb d_Z_asked_33 rfl (lv_at hl 1 rfl) ?_
        obtain ⟨h10, hF⟩ := as_u hF
        refine l_zi hx hb hK hP 15 27 ⟨by decide, by decide, by decide⟩ rfl h10 d_Z_asked_34 ?_
        refine lv_goto (tgt := 44) hx hb d_Z_asked_35 (by decide) ?_
        obtain ⟨rfl, rfl⟩ := rt2 hF
        exact W.iret (v := (z1.1 15 (a1).toNatClampNeg)) hx hb hr (fun t ht hW => ⟨⟨_, (), rfl, rfl, vp_at ht hP⟩, hS.F ht⟩) hS.2.2 d_Z_asked_44
    · have hF := it_t hF h7
      refine lv_iconst (v := 0) hx hb d_Z_asked_21 (by decide) ?_
      refine lv_goto (tgt := 44) hx hb d_Z_asked_22 (by decide) ?_
      obtain ⟨rfl, rfl⟩ := rt2 hF
      exact W.iret (v := 0) hx hb hr (fun t ht hW => ⟨⟨_, (), rfl, rfl, vp_at ht hP⟩, hS.F ht⟩) hS.2.2 d_Z_asked_44
def ws_Z_run : List Cond := Cond.code y_Z_run b_Z_run 3 (some .int) :: ALL
theorem w_Z_run {R : Room} {s : State} {args : Array Value} {own : String} {index : Nat} (hts : ∀ w ∈ ALL, w.before args s = true) (hlk : Cond.methodLink own index y_Z_run ∈ ALL) (hR : (({ frames := 1, cells := 0, slots := 0, locals := 20 } : Room)).frames + 1 ≤ R.frames ∧ 8 + (3 + 11) + (({ frames := 1, cells := 0, slots := 0, locals := 20 } : Room)).locals ≤ R.locals) : CallW R s args own R_Z index y_Z_run b_Z_run 3 (some .int) ws_Z_run ({ frames := 1, cells := 0, slots := 0, locals := 20 } : Room) 0 0 2 := ⟨callB_of 2 hts (good_c a_803) rfl rfl rfl (hts _ a_8) (hts _ hlk) (by decide +kernel) hR, hts _ a_801, hts _ a_802⟩
theorem d_Z_run_0 : decode b_Z_run 0 = .ok (.aload_n 0, 1) := by decide +kernel
theorem d_Z_run_1 : decode b_Z_run 1 = .ok (.iconst 0, 1) := by decide +kernel
theorem d_Z_run_2 : decode b_Z_run 2 = .ok (.putfield 95, 3) := by decide +kernel
theorem d_Z_run_5 : decode b_Z_run 5 = .ok (.iload_n 1, 1) := by decide +kernel
theorem d_Z_run_6 : decode b_Z_run 6 = .ok (.invokestatic 122, 3) := by decide +kernel
theorem d_Z_run_9 : decode b_Z_run 9 = .ok (.ifCond .eq 12, 3) := by decide +kernel
theorem d_Z_run_12 : decode b_Z_run 12 = .ok (.iload_n 2, 1) := by decide +kernel
theorem d_Z_run_13 : decode b_Z_run 13 = .ok (.ifCond .lt 8, 3) := by decide +kernel
theorem d_Z_run_16 : decode b_Z_run 16 = .ok (.iload_n 2, 1) := by decide +kernel
theorem d_Z_run_17 : decode b_Z_run 17 = .ok (.iconst 3, 1) := by decide +kernel
theorem d_Z_run_18 : decode b_Z_run 18 = .ok (.if_icmp .le 5, 3) := by decide +kernel
theorem d_Z_run_21 : decode b_Z_run 21 = .ok (.iconst (-1), 1) := by decide +kernel
theorem d_Z_run_22 : decode b_Z_run 22 = .ok (.ireturn, 1) := by decide +kernel
theorem d_Z_run_23 : decode b_Z_run 23 = .ok (.iload_n 2, 1) := by decide +kernel
theorem d_Z_run_24 : decode b_Z_run 24 = .ok (.ifCond .ne 10, 3) := by decide +kernel
theorem d_Z_run_27 : decode b_Z_run 27 = .ok (.aload_n 0, 1) := by decide +kernel
theorem d_Z_run_28 : decode b_Z_run 28 = .ok (.getfield 41, 3) := by decide +kernel
theorem d_Z_run_31 : decode b_Z_run 31 = .ok (.iload_n 1, 1) := by decide +kernel
theorem d_Z_run_32 : decode b_Z_run 32 = .ok (.iaload, 1) := by decide +kernel
theorem d_Z_run_33 : decode b_Z_run 33 = .ok (.ireturn, 1) := by decide +kernel
theorem d_Z_run_34 : decode b_Z_run 34 = .ok (.aload_n 0, 1) := by decide +kernel
theorem d_Z_run_35 : decode b_Z_run 35 = .ok (.getfield 41, 3) := by decide +kernel
theorem d_Z_run_38 : decode b_Z_run 38 = .ok (.iload_n 1, 1) := by decide +kernel
theorem d_Z_run_39 : decode b_Z_run 39 = .ok (.iaload, 1) := by decide +kernel
theorem d_Z_run_40 : decode b_Z_run 40 = .ok (.ifCond .ne 7, 3) := by decide +kernel
theorem d_Z_run_43 : decode b_Z_run 43 = .ok (.iconst (-1), 1) := by decide +kernel
theorem d_Z_run_44 : decode b_Z_run 44 = .ok (.goto 37, 3) := by decide +kernel
theorem d_Z_run_47 : decode b_Z_run 47 = .ok (.iload_n 2, 1) := by decide +kernel
theorem d_Z_run_48 : decode b_Z_run 48 = .ok (.iconst 1, 1) := by decide +kernel
theorem d_Z_run_49 : decode b_Z_run 49 = .ok (.if_icmp .ne 12, 3) := by decide +kernel
theorem d_Z_run_52 : decode b_Z_run 52 = .ok (.aload_n 0, 1) := by decide +kernel
theorem d_Z_run_53 : decode b_Z_run 53 = .ok (.getfield 47, 3) := by decide +kernel
theorem d_Z_run_56 : decode b_Z_run 56 = .ok (.iload_n 1, 1) := by decide +kernel
theorem d_Z_run_57 : decode b_Z_run 57 = .ok (.iaload, 1) := by decide +kernel
theorem d_Z_run_58 : decode b_Z_run 58 = .ok (.goto 23, 3) := by decide +kernel
theorem d_Z_run_61 : decode b_Z_run 61 = .ok (.iload_n 2, 1) := by decide +kernel
theorem d_Z_run_62 : decode b_Z_run 62 = .ok (.iconst 2, 1) := by decide +kernel
theorem d_Z_run_63 : decode b_Z_run 63 = .ok (.if_icmp .ne 12, 3) := by decide +kernel
theorem d_Z_run_66 : decode b_Z_run 66 = .ok (.aload_n 0, 1) := by decide +kernel
theorem d_Z_run_67 : decode b_Z_run 67 = .ok (.getfield 50, 3) := by decide +kernel
theorem d_Z_run_70 : decode b_Z_run 70 = .ok (.iload_n 1, 1) := by decide +kernel
theorem d_Z_run_71 : decode b_Z_run 71 = .ok (.iaload, 1) := by decide +kernel
theorem d_Z_run_72 : decode b_Z_run 72 = .ok (.goto 9, 3) := by decide +kernel
theorem d_Z_run_75 : decode b_Z_run 75 = .ok (.aload_n 0, 1) := by decide +kernel
theorem d_Z_run_76 : decode b_Z_run 76 = .ok (.getfield 44, 3) := by decide +kernel
theorem d_Z_run_79 : decode b_Z_run 79 = .ok (.iload_n 1, 1) := by decide +kernel
theorem d_Z_run_80 : decode b_Z_run 80 = .ok (.iaload, 1) := by decide +kernel
theorem d_Z_run_81 : decode b_Z_run 81 = .ok (.ireturn, 1) := by decide +kernel
def F_Z_run (z : ZW) (a1 : Int32) (a2 : Int32) : Option (Int32 × ZW) := (nm_ (pz z 0 0 0) fun z1 => (bs_ (F_Z_isOffice a1) fun r3 => (if r3 = 0 then some ((-1), z1) else (if a2 < 0 then some ((-1), z1) else (if a2 ≤ 3 then (if a2 = 0 then (if 0 ≤ a1 ∧ (a1).toNatClampNeg < 27 then some ((z1.1 11 (a1).toNatClampNeg), z1) else none) else (if 0 ≤ a1 ∧ (a1).toNatClampNeg < 27 then (if (z1.1 11 (a1).toNatClampNeg) = 0 then some ((-1), z1) else (if a2 = 1 then (if 0 ≤ a1 ∧ (a1).toNatClampNeg < 27 then some ((z1.1 13 (a1).toNatClampNeg), z1) else none) else (if a2 = 2 then (if 0 ≤ a1 ∧ (a1).toNatClampNeg < 27 then some ((z1.1 14 (a1).toNatClampNeg), z1) else none) else (if 0 ≤ a1 ∧ (a1).toNatClampNeg < 27 then some ((z1.1 12 (a1).toNatClampNeg), z1) else none)))) else none)) else some ((-1), z1))))))
set_option maxHeartbeats 4000000 in
set_option maxRecDepth 100000 in
theorem c_Z_run (l : Launch) (D : va_G) (ad : Nat → Nat → Nat) (ca : Nat → ClassId) (hD0 : ∀ z u, va_D (AH ad) (wh ad ca z u)) {z : ZW} {u : XC} {a1 : Int32} {a2 : Int32} {r0 : Int32} {z0 : ZW}  (hF : F_Z_run z a1 a2 = some (r0, z0)) : Met l y_Z_run ws_Z_run ({ frames := 1, cells := 0, slots := 0, locals := 20 } : Room) (va_Pc [.ref (ad 14 0), .int a1, .int a2] (fun U => va_P D CLS (wh ad ca z u) U.heap ∧ va_K D CLS (TYH ca) U)) (va_Qi (fun (r : Int32) (_ : Unit) => r = r0) (fun _ t => va_P D CLS (wh ad ca z0 u) t.heap) (AH ad)) 0 0 (AH ad) := by
  refine Met.ofW (cc := b_Z_run) (maxL := 3) (ret := (some .int)) (by decide +kernel) rfl ?_
  intro p e s m args below meth c s₁ B hml hv
  obtain ⟨rfl, hP, hK⟩ := hv
  have hx := B.exec
  have hb := B.bytes
  have hr := B.returns
  have hts : ∀ w ∈ ALL, w.before _ s = true := fun w h => atoms_spec (ws := ws_Z_run) B.pre w (List.mem_cons_of_mem _ h)
  have hown : s.vm.findClass R_Z = some m.cls := findClass_of_methodNamed B.named
  have hlocks := B.notSynchronized
  have hD := hD0
  have hS : va_S (AH ad) s.heap s.heap [] := va_S.rf
  have hP : va_P D CLS (wh ad ca z u) s.heap := hP
  have hl := lv_entry ([.ref (ad 14 0), .int a1, .int a2]) (n := 3) (Nat.le_of_ble_eq_true rfl)
  rw [lg_entry_eq]
  generalize (lg_sl ([.ref (ad 14 0), .int a1, .int a2]) ++ List.replicate (3 - (lg_sl ([.ref (ad 14 0), .int a1, .int a2])).length) Slot.unset).toArray = ls at hl ⊢
  have hl : lv_has ls 3 [(0, .ref (ad 14 0)), (1, .int a1), (2, .int a2)] := hl
  unfold F_Z_run at hF
  refine lv_aload_n hx hb d_Z_run_0 rfl (lv_at hl 0 rfl) ?_
  refine lv_iconst (v := 0) hx hb d_Z_run_1 (by decide) ?_
  obtain ⟨z1, h2, hF⟩ := nm_u hF
  refine pf_Z_0 hx hb hts hown hK hP hD hS (by decide) h2 a_558 d_Z_run_2 (fun H locs hP hS => ?_)
  refine lv_iload_n hx hb d_Z_run_5 rfl (lv_at hl 1 rfl) ?_
  obtain ⟨r3, h4, hF⟩ := bs_u hF
  refine k_sp [.int a1] [] ⟨hx, hb, hml, hown, hts⟩ (c_Z_isOffice l  h4) (w_Z_isOffice hts a_691 ⟨Nat.le_of_ble_eq_true rfl, Nat.le_of_ble_eq_true rfl⟩) rfl rfl hl.1 (Nat.le_of_ble_eq_true rfl) ⟨Nat.zero_le _, Nat.zero_le _⟩ d_Z_run_6 ?_
  refine lv_if_eq (tgt := 21) hx hb d_Z_run_9 (by decide) (fun h5 => ?_) (fun h5 => ?_)
  · have hF := it_t hF h5
    refine lv_iconst (v := (-1)) hx hb d_Z_run_21 (by decide) ?_
    obtain ⟨rfl, rfl⟩ := rt2 hF
    exact W.iret (v := (-1)) hx hb hr (fun t ht hW => ⟨⟨_, (), rfl, rfl, vp_at ht hP⟩, hS.F ht⟩) hS.2.2 d_Z_run_22
  · have hF := it_f hF h5
    refine lv_iload_n hx hb d_Z_run_12 rfl (lv_at hl 2 rfl) ?_
    refine lv_if_lt (tgt := 21) hx hb d_Z_run_13 (by decide) (fun h6 => ?_) (fun h6 => ?_)
    · have hF := it_t hF h6
      refine lv_iconst (v := (-1)) hx hb d_Z_run_21 (by decide) ?_
      obtain ⟨rfl, rfl⟩ := rt2 hF
      exact W.iret (v := (-1)) hx hb hr (fun t ht hW => ⟨⟨_, (), rfl, rfl, vp_at ht hP⟩, hS.F ht⟩) hS.2.2 d_Z_run_22
    · have hF := it_f hF h6
      refine lv_iload_n hx hb d_Z_run_16 rfl (lv_at hl 2 rfl) ?_
      refine lv_iconst (v := 3) hx hb d_Z_run_17 (by decide) ?_
      refine lv_icmp_le (tgt := 23) hx hb d_Z_run_18 (by decide) (fun h7 => ?_) (fun h7 => ?_)
      · have hF := it_t hF h7
        refine lv_iload_n hx hb d_Z_run_23 rfl (lv_at hl 2 rfl) ?_
        refine lv_if_ne (tgt := 34) hx hb d_Z_run_24 (by decide) (fun h8 => ?_) (fun h8 => ?_)
        · have hF := it_f hF h8
          refine lv_aload_n hx hb d_Z_run_34 rfl (lv_at hl 0 rfl) ?_
          refine gf_Z_12 hx hb hts hown hK hP (by decide) a_570 d_Z_run_35 ?_
          refine lv_iload_n hx hb d_Z_run_38 rfl (lv_at hl 1 rfl) ?_
          obtain ⟨h9, hF⟩ := as_u hF
          refine l_zi hx hb hK hP 11 27 ⟨by decide, by decide, by decide⟩ rfl h9 d_Z_run_39 ?_
          refine lv_if_ne (tgt := 47) hx hb d_Z_run_40 (by decide) (fun h10 => ?_) (fun h10 => ?_)
          · have hF := it_f hF h10
            refine lv_iload_n hx hb d_Z_run_47 rfl (lv_at hl 2 rfl) ?_
            refine lv_iconst (v := 1) hx hb d_Z_run_48 (by decide) ?_
            refine lv_icmp_ne (tgt := 61) hx hb d_Z_run_49 (by decide) (fun h11 => ?_) (fun h11 => ?_)
            · have hF := it_f hF h11
              refine lv_iload_n hx hb d_Z_run_61 rfl (lv_at hl 2 rfl) ?_
              refine lv_iconst (v := 2) hx hb d_Z_run_62 (by decide) ?_
              refine lv_icmp_ne (tgt := 75) hx hb d_Z_run_63 (by decide) (fun h12 => ?_) (fun h12 => ?_)
              · have hF := it_f hF h12
                refine lv_aload_n hx hb d_Z_run_75 rfl (lv_at hl 0 rfl) ?_
                refine gf_Z_13 hx hb hts hown hK hP (by decide) a_571 d_Z_run_76 ?_
                refine lv_iload_n hx hb d_Z_run_79 rfl (lv_at hl 1 rfl) ?_
                obtain ⟨h13, hF⟩ := as_u hF
                refine l_zi hx hb hK hP 12 27 ⟨by decide, by decide, by decide⟩ rfl h13 d_Z_run_80 ?_
                obtain ⟨rfl, rfl⟩ := rt2 hF
                exact W.iret (v := (z1.1 12 (a1).toNatClampNeg)) hx hb hr (fun t ht hW => ⟨⟨_, (), rfl, rfl, vp_at ht hP⟩, hS.F ht⟩) hS.2.2 d_Z_run_81
              · have hF := it_t hF h12
                refine lv_aload_n hx hb d_Z_run_66 rfl (lv_at hl 0 rfl) ?_
                refine gf_Z_15 hx hb hts hown hK hP (by decide) a_573 d_Z_run_67 ?_
                refine lv_iload_n hx hb d_Z_run_70 rfl (lv_at hl 1 rfl) ?_
                obtain ⟨h14, hF⟩ := as_u hF
                refine l_zi hx hb hK hP 14 27 ⟨by decide, by decide, by decide⟩ rfl h14 d_Z_run_71 ?_
                refine lv_goto (tgt := 81) hx hb d_Z_run_72 (by decide) ?_
                obtain ⟨rfl, rfl⟩ := rt2 hF
                exact W.iret (v := (z1.1 14 (a1).toNatClampNeg)) hx hb hr (fun t ht hW => ⟨⟨_, (), rfl, rfl, vp_at ht hP⟩, hS.F ht⟩) hS.2.2 d_Z_run_81
            · have hF := it_t hF h11
              refine lv_aload_n hx hb d_Z_run_52 rfl (lv_at hl 0 rfl) ?_
              refine gf_Z_14 hx hb hts hown hK hP (by decide) a_572 d_Z_run_53 ?_
              refine lv_iload_n hx hb d_Z_run_56 rfl (lv_at hl 1 rfl) ?_
              obtain ⟨h15, hF⟩ := as_u hF
              refine l_zi hx hb hK hP 13 27 ⟨by decide, by decide, by decide⟩ rfl h15 d_Z_run_57 ?_
              refine lv_goto (tgt := 81) hx hb d_Z_run_58 (by decide) ?_
              obtain ⟨rfl, rfl⟩ := rt2 hF
              exact W.iret (v := (z1.1 13 (a1).toNatClampNeg)) hx hb hr (fun t ht hW => ⟨⟨_, (), rfl, rfl, vp_at ht hP⟩, hS.F ht⟩) hS.2.2 d_Z_run_81
          · have hF := it_t hF h10
            refine lv_iconst (v := (-1)) hx hb d_Z_run_43 (by decide) ?_
            refine lv_goto (tgt := 81) hx hb d_Z_run_44 (by decide) ?_
            obtain ⟨rfl, rfl⟩ := rt2 hF
            exact W.iret (v := (-1)) hx hb hr (fun t ht hW => ⟨⟨_, (), rfl, rfl, vp_at ht hP⟩, hS.F ht⟩) hS.2.2 d_Z_run_81
        · have hF := it_t hF h8
          refine lv_aload_n hx hb d_Z_run_27 rfl (lv_at hl 0 rfl) ?_
          refine gf_Z_12 hx hb hts hown hK hP (by decide) a_570 d_Z_run_28 ?_
          refine lv_iload_n hx hb d_Z_run_31 rfl (lv_at hl 1 rfl) ?_
          obtain ⟨h16, hF⟩ := as_u hF
          refine l_zi hx hb hK hP 11 27 ⟨by decide, by decide, by decide⟩ rfl h16 d_Z_run_32 ?_
          obtain ⟨rfl, rfl⟩ := rt2 hF
          exact W.iret (v := (z1.1 11 (a1).toNatClampNeg)) hx hb hr (fun t ht hW => ⟨⟨_, (), rfl, rfl, vp_at ht hP⟩, hS.F ht⟩) hS.2.2 d_Z_run_33
      · have hF := it_f hF h7
        refine lv_iconst (v := (-1)) hx hb d_Z_run_21 (by decide) ?_
        obtain ⟨rfl, rfl⟩ := rt2 hF
        exact W.iret (v := (-1)) hx hb hr (fun t ht hW => ⟨⟨_, (), rfl, rfl, vp_at ht hP⟩, hS.F ht⟩) hS.2.2 d_Z_run_22
def ws_Z_promised : List Cond := Cond.code y_Z_promised b_Z_promised 2 (some .int) :: ALL
theorem w_Z_promised {R : Room} {s : State} {args : Array Value} {own : String} {index : Nat} (hts : ∀ w ∈ ALL, w.before args s = true) (hlk : Cond.methodLink own index y_Z_promised ∈ ALL) (hR : (({ frames := 1, cells := 0, slots := 0, locals := 20 } : Room)).frames + 1 ≤ R.frames ∧ 8 + (2 + 11) + (({ frames := 1, cells := 0, slots := 0, locals := 20 } : Room)).locals ≤ R.locals) : CallW R s args own R_Z index y_Z_promised b_Z_promised 2 (some .int) ws_Z_promised ({ frames := 1, cells := 0, slots := 0, locals := 20 } : Room) 0 0 1 := ⟨callB_of 1 hts (good_c a_807) rfl rfl rfl (hts _ a_8) (hts _ hlk) (by decide +kernel) hR, hts _ a_805, hts _ a_806⟩
theorem d_Z_promised_0 : decode b_Z_promised 0 = .ok (.aload_n 0, 1) := by decide +kernel
theorem d_Z_promised_1 : decode b_Z_promised 1 = .ok (.iconst 0, 1) := by decide +kernel
theorem d_Z_promised_2 : decode b_Z_promised 2 = .ok (.putfield 95, 3) := by decide +kernel
theorem d_Z_promised_5 : decode b_Z_promised 5 = .ok (.iload_n 1, 1) := by decide +kernel
theorem d_Z_promised_6 : decode b_Z_promised 6 = .ok (.invokestatic 122, 3) := by decide +kernel
theorem d_Z_promised_9 : decode b_Z_promised 9 = .ok (.ifCond .eq 12, 3) := by decide +kernel
theorem d_Z_promised_12 : decode b_Z_promised 12 = .ok (.aload_n 0, 1) := by decide +kernel
theorem d_Z_promised_13 : decode b_Z_promised 13 = .ok (.getfield 29, 3) := by decide +kernel
theorem d_Z_promised_16 : decode b_Z_promised 16 = .ok (.iload_n 1, 1) := by decide +kernel
theorem d_Z_promised_17 : decode b_Z_promised 17 = .ok (.iaload, 1) := by decide +kernel
theorem d_Z_promised_18 : decode b_Z_promised 18 = .ok (.goto 4, 3) := by decide +kernel
theorem d_Z_promised_21 : decode b_Z_promised 21 = .ok (.iconst (-1), 1) := by decide +kernel
theorem d_Z_promised_22 : decode b_Z_promised 22 = .ok (.ireturn, 1) := by decide +kernel
def F_Z_promised (z : ZW) (a1 : Int32) : Option (Int32 × ZW) := (nm_ (pz z 0 0 0) fun z1 => (bs_ (F_Z_isOffice a1) fun r3 => (if r3 = 0 then some ((-1), z1) else (if 0 ≤ a1 ∧ (a1).toNatClampNeg < 27 then some ((z1.1 7 (a1).toNatClampNeg), z1) else none))))
set_option maxHeartbeats 4000000 in
set_option maxRecDepth 100000 in
theorem c_Z_promised (l : Launch) (D : va_G) (ad : Nat → Nat → Nat) (ca : Nat → ClassId) (hD0 : ∀ z u, va_D (AH ad) (wh ad ca z u)) {z : ZW} {u : XC} {a1 : Int32} {r0 : Int32} {z0 : ZW}  (hF : F_Z_promised z a1 = some (r0, z0)) : Met l y_Z_promised ws_Z_promised ({ frames := 1, cells := 0, slots := 0, locals := 20 } : Room) (va_Pc [.ref (ad 14 0), .int a1] (fun U => va_P D CLS (wh ad ca z u) U.heap ∧ va_K D CLS (TYH ca) U)) (va_Qi (fun (r : Int32) (_ : Unit) => r = r0) (fun _ t => va_P D CLS (wh ad ca z0 u) t.heap) (AH ad)) 0 0 (AH ad) := by
  refine Met.ofW (cc := b_Z_promised) (maxL := 2) (ret := (some .int)) (by decide +kernel) rfl ?_
  intro p e s m args below meth c s₁ B hml hv
  obtain ⟨rfl, hP, hK⟩ := hv
  have hx := B.exec
  have hb := B.bytes
  have hr := B.returns
  have hts : ∀ w ∈ ALL, w.before _ s = true := fun w h => atoms_spec (ws := ws_Z_promised) B.pre w (List.mem_cons_of_mem _ h)
  have hown : s.vm.findClass R_Z = some m.cls := findClass_of_methodNamed B.named
  have hlocks := B.notSynchronized
  have hD := hD0
  have hS : va_S (AH ad) s.heap s.heap [] := va_S.rf
  have hP : va_P D CLS (wh ad ca z u) s.heap := hP
  have hl := lv_entry ([.ref (ad 14 0), .int a1]) (n := 2) (Nat.le_of_ble_eq_true rfl)
  rw [lg_entry_eq]
  generalize (lg_sl ([.ref (ad 14 0), .int a1]) ++ List.replicate (2 - (lg_sl ([.ref (ad 14 0), .int a1])).length) Slot.unset).toArray = ls at hl ⊢
  have hl : lv_has ls 2 [(0, .ref (ad 14 0)), (1, .int a1)] := hl
  unfold F_Z_promised at hF
  refine lv_aload_n hx hb d_Z_promised_0 rfl (lv_at hl 0 rfl) ?_
  refine lv_iconst (v := 0) hx hb d_Z_promised_1 (by decide) ?_
  obtain ⟨z1, h2, hF⟩ := nm_u hF
  refine pf_Z_0 hx hb hts hown hK hP hD hS (by decide) h2 a_558 d_Z_promised_2 (fun H locs hP hS => ?_)
  refine lv_iload_n hx hb d_Z_promised_5 rfl (lv_at hl 1 rfl) ?_
  obtain ⟨r3, h4, hF⟩ := bs_u hF
  refine k_sp [.int a1] [] ⟨hx, hb, hml, hown, hts⟩ (c_Z_isOffice l  h4) (w_Z_isOffice hts a_691 ⟨Nat.le_of_ble_eq_true rfl, Nat.le_of_ble_eq_true rfl⟩) rfl rfl hl.1 (Nat.le_of_ble_eq_true rfl) ⟨Nat.zero_le _, Nat.zero_le _⟩ d_Z_promised_6 ?_
  refine lv_if_eq (tgt := 21) hx hb d_Z_promised_9 (by decide) (fun h5 => ?_) (fun h5 => ?_)
  · have hF := it_t hF h5
    refine lv_iconst (v := (-1)) hx hb d_Z_promised_21 (by decide) ?_
    obtain ⟨rfl, rfl⟩ := rt2 hF
    exact W.iret (v := (-1)) hx hb hr (fun t ht hW => ⟨⟨_, (), rfl, rfl, vp_at ht hP⟩, hS.F ht⟩) hS.2.2 d_Z_promised_22
  · have hF := it_f hF h5
    refine lv_aload_n hx hb d_Z_promised_12 rfl (lv_at hl 0 rfl) ?_
    refine gf_Z_8 hx hb hts hown hK hP (by decide) a_566 d_Z_promised_13 ?_
    refine lv_iload_n hx hb d_Z_promised_16 rfl (lv_at hl 1 rfl) ?_
    obtain ⟨h6, hF⟩ := as_u hF
    refine l_zi hx hb hK hP 7 27 ⟨by decide, by decide, by decide⟩ rfl h6 d_Z_promised_17 ?_
    refine lv_goto (tgt := 22) hx hb d_Z_promised_18 (by decide) ?_
    obtain ⟨rfl, rfl⟩ := rt2 hF
    exact W.iret (v := (z1.1 7 (a1).toNatClampNeg)) hx hb hr (fun t ht hW => ⟨⟨_, (), rfl, rfl, vp_at ht hP⟩, hS.F ht⟩) hS.2.2 d_Z_promised_22
def ws_Z_isNumber : List Cond := Cond.code y_Z_isNumber b_Z_isNumber 1 (some .boolean) :: ALL
theorem w_Z_isNumber {R : Room} {s : State} {args : Array Value} {own : String} {index : Nat} (hts : ∀ w ∈ ALL, w.before args s = true) (hlk : Cond.methodLink own index y_Z_isNumber ∈ ALL) (hR : (({ frames := 0, cells := 0, slots := 0, locals := 0 } : Room)).frames + 1 ≤ R.frames ∧ 8 + (1 + 11) + (({ frames := 0, cells := 0, slots := 0, locals := 0 } : Room)).locals ≤ R.locals) : CallB R s args own index y_Z_isNumber b_Z_isNumber 1 (some .boolean) ws_Z_isNumber ({ frames := 0, cells := 0, slots := 0, locals := 0 } : Room) 0 0 1 ∧ (Cond.static y_Z_isNumber).before args s = true := ⟨callB_of 1 hts (good_c a_814) rfl rfl rfl (hts _ a_8) (hts _ hlk) (by decide +kernel) hR, hts _ a_813⟩
theorem d_Z_isNumber_0 : decode b_Z_isNumber 0 = .ok (.iload_n 0, 1) := by decide +kernel
theorem d_Z_isNumber_1 : decode b_Z_isNumber 1 = .ok (.ifCond .lt 13, 3) := by decide +kernel
theorem d_Z_isNumber_4 : decode b_Z_isNumber 4 = .ok (.iload_n 0, 1) := by decide +kernel
theorem d_Z_isNumber_5 : decode b_Z_isNumber 5 = .ok (.bipush 6, 2) := by decide +kernel
theorem d_Z_isNumber_7 : decode b_Z_isNumber 7 = .ok (.if_icmp .ge 7, 3) := by decide +kernel
theorem d_Z_isNumber_10 : decode b_Z_isNumber 10 = .ok (.iconst 1, 1) := by decide +kernel
theorem d_Z_isNumber_11 : decode b_Z_isNumber 11 = .ok (.goto 4, 3) := by decide +kernel
theorem d_Z_isNumber_14 : decode b_Z_isNumber 14 = .ok (.iconst 0, 1) := by decide +kernel
theorem d_Z_isNumber_15 : decode b_Z_isNumber 15 = .ok (.ireturn, 1) := by decide +kernel
def F_Z_isNumber  (a1 : Int32) : Option (Int32) := (if a1 < 0 then some 0 else (if 6 ≤ a1 then some 0 else some 1))
set_option maxHeartbeats 4000000 in
set_option maxRecDepth 100000 in
theorem c_Z_isNumber (l : Launch) {a1 : Int32} {r0 : Int32}  (hF : F_Z_isNumber  a1 = some r0) : Met l y_Z_isNumber ws_Z_isNumber ({ frames := 0, cells := 0, slots := 0, locals := 0 } : Room) (va_Pc [.int a1] (fun _ => True)) (vp_Si (fun r => r = r0)) 0 0 (fun _ => False) := by
  refine Met.ofW (cc := b_Z_isNumber) (maxL := 1) (ret := (some .boolean)) (by decide +kernel) rfl ?_
  intro p e s m args below meth c s₁ B hml hv
  obtain ⟨rfl, -⟩ := hv
  have hx := B.exec
  have hb := B.bytes
  have hr := B.returns
  have hts : ∀ w ∈ ALL, w.before _ s = true := fun w h => atoms_spec (ws := ws_Z_isNumber) B.pre w (List.mem_cons_of_mem _ h)
  have hown : s.vm.findClass R_Z = some m.cls := findClass_of_methodNamed B.named
  have hlocks := B.notSynchronized
  have hS : va_S (fun _ => True) s.heap s.heap [] := va_S.rf
  have hN : ∀ q ∈ ([] : List Loc), (fun _ => False) q.base := fun _ h => absurd h List.not_mem_nil
  have hl := lv_entry ([.int a1]) (n := 1) (Nat.le_of_ble_eq_true rfl)
  rw [lg_entry_eq]
  generalize (lg_sl ([.int a1]) ++ List.replicate (1 - (lg_sl ([.int a1])).length) Slot.unset).toArray = ls at hl ⊢
  have hl : lv_has ls 1 [(0, .int a1)] := hl
  have hH : s.heap = s.heap := rfl
  unfold F_Z_isNumber at hF
  refine lv_iload_n hx hb d_Z_isNumber_0 rfl (lv_at hl 0 rfl) ?_
  refine lv_if_lt (tgt := 14) hx hb d_Z_isNumber_1 (by decide) (fun h1 => ?_) (fun h1 => ?_)
  · have hF := it_t hF h1
    refine lv_iconst (v := 0) hx hb d_Z_isNumber_14 (by decide) ?_
    have hF := rt1 hF
    subst hF
    exact W.zret (v := 0) hx hb hr rfl (fun t ht hW => ⟨_, rfl, rfl, ht.trans hH⟩) hN d_Z_isNumber_15
  · have hF := it_f hF h1
    refine lv_iload_n hx hb d_Z_isNumber_4 rfl (lv_at hl 0 rfl) ?_
    refine lv_bipush (v := 6) hx hb d_Z_isNumber_5 (by decide) ?_
    refine lv_icmp_ge (tgt := 14) hx hb d_Z_isNumber_7 (by decide) (fun h2 => ?_) (fun h2 => ?_)
    · have hF := it_t hF h2
      refine lv_iconst (v := 0) hx hb d_Z_isNumber_14 (by decide) ?_
      have hF := rt1 hF
      subst hF
      exact W.zret (v := 0) hx hb hr rfl (fun t ht hW => ⟨_, rfl, rfl, ht.trans hH⟩) hN d_Z_isNumber_15
    · have hF := it_f hF h2
      refine lv_iconst (v := 1) hx hb d_Z_isNumber_10 (by decide) ?_
      refine lv_goto (tgt := 15) hx hb d_Z_isNumber_11 (by decide) ?_
      have hF := rt1 hF
      subst hF
      exact W.zret (v := 1) hx hb hr rfl (fun t ht hW => ⟨_, rfl, rfl, ht.trans hH⟩) hN d_Z_isNumber_15
def ws_Z_accepted : List Cond := Cond.code y_Z_accepted b_Z_accepted 3 (some .int) :: ALL
theorem w_Z_accepted {R : Room} {s : State} {args : Array Value} {own : String} {index : Nat} (hts : ∀ w ∈ ALL, w.before args s = true) (hlk : Cond.methodLink own index y_Z_accepted ∈ ALL) (hR : (({ frames := 1, cells := 0, slots := 0, locals := 20 } : Room)).frames + 1 ≤ R.frames ∧ 8 + (3 + 11) + (({ frames := 1, cells := 0, slots := 0, locals := 20 } : Room)).locals ≤ R.locals) : CallW R s args own R_Z index y_Z_accepted b_Z_accepted 3 (some .int) ws_Z_accepted ({ frames := 1, cells := 0, slots := 0, locals := 20 } : Room) 0 0 2 := ⟨callB_of 2 hts (good_c a_811) rfl rfl rfl (hts _ a_8) (hts _ hlk) (by decide +kernel) hR, hts _ a_809, hts _ a_810⟩
theorem d_Z_accepted_0 : decode b_Z_accepted 0 = .ok (.aload_n 0, 1) := by decide +kernel
theorem d_Z_accepted_1 : decode b_Z_accepted 1 = .ok (.iconst 0, 1) := by decide +kernel
theorem d_Z_accepted_2 : decode b_Z_accepted 2 = .ok (.putfield 95, 3) := by decide +kernel
theorem d_Z_accepted_5 : decode b_Z_accepted 5 = .ok (.iload_n 1, 1) := by decide +kernel
theorem d_Z_accepted_6 : decode b_Z_accepted 6 = .ok (.invokestatic 122, 3) := by decide +kernel
theorem d_Z_accepted_9 : decode b_Z_accepted 9 = .ok (.ifCond .eq 24, 3) := by decide +kernel
theorem d_Z_accepted_12 : decode b_Z_accepted 12 = .ok (.iload_n 2, 1) := by decide +kernel
theorem d_Z_accepted_13 : decode b_Z_accepted 13 = .ok (.invokestatic 184, 3) := by decide +kernel
theorem d_Z_accepted_16 : decode b_Z_accepted 16 = .ok (.ifCond .eq 17, 3) := by decide +kernel
theorem d_Z_accepted_19 : decode b_Z_accepted 19 = .ok (.aload_n 0, 1) := by decide +kernel
theorem d_Z_accepted_20 : decode b_Z_accepted 20 = .ok (.getfield 32, 3) := by decide +kernel
theorem d_Z_accepted_23 : decode b_Z_accepted 23 = .ok (.bipush 6, 2) := by decide +kernel
theorem d_Z_accepted_25 : decode b_Z_accepted 25 = .ok (.iload_n 1, 1) := by decide +kernel
theorem d_Z_accepted_26 : decode b_Z_accepted 26 = .ok (.imul, 1) := by decide +kernel
theorem d_Z_accepted_27 : decode b_Z_accepted 27 = .ok (.iload_n 2, 1) := by decide +kernel
theorem d_Z_accepted_28 : decode b_Z_accepted 28 = .ok (.iadd, 1) := by decide +kernel
theorem d_Z_accepted_29 : decode b_Z_accepted 29 = .ok (.iaload, 1) := by decide +kernel
theorem d_Z_accepted_30 : decode b_Z_accepted 30 = .ok (.goto 4, 3) := by decide +kernel
theorem d_Z_accepted_33 : decode b_Z_accepted 33 = .ok (.iconst (-1), 1) := by decide +kernel
theorem d_Z_accepted_34 : decode b_Z_accepted 34 = .ok (.ireturn, 1) := by decide +kernel
def F_Z_accepted (z : ZW) (a1 : Int32) (a2 : Int32) : Option (Int32 × ZW) := (nm_ (pz z 0 0 0) fun z1 => (bs_ (F_Z_isOffice a1) fun r3 => (if r3 = 0 then some ((-1), z1) else (bs_ (F_Z_isNumber a2) fun r6 => (if r6 = 0 then some ((-1), z1) else (if 0 ≤ ((6 * a1) + a2) ∧ (((6 * a1) + a2)).toNatClampNeg < 162 then some ((z1.1 8 (((6 * a1) + a2)).toNatClampNeg), z1) else none))))))
set_option maxHeartbeats 4000000 in
set_option maxRecDepth 100000 in
theorem c_Z_accepted (l : Launch) (D : va_G) (ad : Nat → Nat → Nat) (ca : Nat → ClassId) (hD0 : ∀ z u, va_D (AH ad) (wh ad ca z u)) {z : ZW} {u : XC} {a1 : Int32} {a2 : Int32} {r0 : Int32} {z0 : ZW}  (hF : F_Z_accepted z a1 a2 = some (r0, z0)) : Met l y_Z_accepted ws_Z_accepted ({ frames := 1, cells := 0, slots := 0, locals := 20 } : Room) (va_Pc [.ref (ad 14 0), .int a1, .int a2] (fun U => va_P D CLS (wh ad ca z u) U.heap ∧ va_K D CLS (TYH ca) U)) (va_Qi (fun (r : Int32) (_ : Unit) => r = r0) (fun _ t => va_P D CLS (wh ad ca z0 u) t.heap) (AH ad)) 0 0 (AH ad) := by
  refine Met.ofW (cc := b_Z_accepted) (maxL := 3) (ret := (some .int)) (by decide +kernel) rfl ?_
  intro p e s m args below meth c s₁ B hml hv
  obtain ⟨rfl, hP, hK⟩ := hv
  have hx := B.exec
  have hb := B.bytes
  have hr := B.returns
  have hts : ∀ w ∈ ALL, w.before _ s = true := fun w h => atoms_spec (ws := ws_Z_accepted) B.pre w (List.mem_cons_of_mem _ h)
  have hown : s.vm.findClass R_Z = some m.cls := findClass_of_methodNamed B.named
  have hlocks := B.notSynchronized
  have hD := hD0
  have hS : va_S (AH ad) s.heap s.heap [] := va_S.rf
  have hP : va_P D CLS (wh ad ca z u) s.heap := hP
  have hl := lv_entry ([.ref (ad 14 0), .int a1, .int a2]) (n := 3) (Nat.le_of_ble_eq_true rfl)
  rw [lg_entry_eq]
  generalize (lg_sl ([.ref (ad 14 0), .int a1, .int a2]) ++ List.replicate (3 - (lg_sl ([.ref (ad 14 0), .int a1, .int a2])).length) Slot.unset).toArray = ls at hl ⊢
  have hl : lv_has ls 3 [(0, .ref (ad 14 0)), (1, .int a1), (2, .int a2)] := hl
  unfold F_Z_accepted at hF
  refine lv_aload_n hx hb d_Z_accepted_0 rfl (lv_at hl 0 rfl) ?_
  refine lv_iconst (v := 0) hx hb d_Z_accepted_1 (by decide) ?_
  obtain ⟨z1, h2, hF⟩ := nm_u hF
  refine pf_Z_0 hx hb hts hown hK hP hD hS (by decide) h2 a_558 d_Z_accepted_2 (fun H locs hP hS => ?_)
  refine lv_iload_n hx hb d_Z_accepted_5 rfl (lv_at hl 1 rfl) ?_
  obtain ⟨r3, h4, hF⟩ := bs_u hF
  refine k_sp [.int a1] [] ⟨hx, hb, hml, hown, hts⟩ (c_Z_isOffice l  h4) (w_Z_isOffice hts a_691 ⟨Nat.le_of_ble_eq_true rfl, Nat.le_of_ble_eq_true rfl⟩) rfl rfl hl.1 (Nat.le_of_ble_eq_true rfl) ⟨Nat.zero_le _, Nat.zero_le _⟩ d_Z_accepted_6 ?_
  refine lv_if_eq (tgt := 33) hx hb d_Z_accepted_9 (by decide) (fun h5 => ?_) (fun h5 => ?_)
  · have hF := it_t hF h5
    refine lv_iconst (v := (-1)) hx hb d_Z_accepted_33 (by decide) ?_
    obtain ⟨rfl, rfl⟩ := rt2 hF
    exact W.iret (v := (-1)) hx hb hr (fun t ht hW => ⟨⟨_, (), rfl, rfl, vp_at ht hP⟩, hS.F ht⟩) hS.2.2 d_Z_accepted_34
  · have hF := it_f hF h5
    refine lv_iload_n hx hb d_Z_accepted_12 rfl (lv_at hl 2 rfl) ?_
    obtain ⟨r6, h7, hF⟩ := bs_u hF
    refine k_sp [.int a2] [] ⟨hx, hb, hml, hown, hts⟩ (c_Z_isNumber l  h7) (w_Z_isNumber hts a_812 ⟨Nat.le_of_ble_eq_true rfl, Nat.le_of_ble_eq_true rfl⟩) rfl rfl hl.1 (Nat.le_of_ble_eq_true rfl) ⟨Nat.zero_le _, Nat.zero_le _⟩ d_Z_accepted_13 ?_
    refine lv_if_eq (tgt := 33) hx hb d_Z_accepted_16 (by decide) (fun h8 => ?_) (fun h8 => ?_)
    · have hF := it_t hF h8
      refine lv_iconst (v := (-1)) hx hb d_Z_accepted_33 (by decide) ?_
      obtain ⟨rfl, rfl⟩ := rt2 hF
      exact W.iret (v := (-1)) hx hb hr (fun t ht hW => ⟨⟨_, (), rfl, rfl, vp_at ht hP⟩, hS.F ht⟩) hS.2.2 d_Z_accepted_34
    · have hF := it_f hF h8
      refine lv_aload_n hx hb d_Z_accepted_19 rfl (lv_at hl 0 rfl) ?_
      refine gf_Z_9 hx hb hts hown hK hP (by decide) a_567 d_Z_accepted_20 ?_
      refine lv_bipush (v := 6) hx hb d_Z_accepted_23 (by decide) ?_
      refine lv_iload_n hx hb d_Z_accepted_25 rfl (lv_at hl 1 rfl) ?_
      refine lv_imul hx hb d_Z_accepted_26 ?_
      refine lv_iload_n hx hb d_Z_accepted_27 rfl (lv_at hl 2 rfl) ?_
      refine lv_iadd hx hb d_Z_accepted_28 ?_
      obtain ⟨h9, hF⟩ := as_u hF
      refine l_zi hx hb hK hP 8 162 ⟨by decide, by decide, by decide⟩ rfl h9 d_Z_accepted_29 ?_
      refine lv_goto (tgt := 34) hx hb d_Z_accepted_30 (by decide) ?_
      obtain ⟨rfl, rfl⟩ := rt2 hF
      exact W.iret (v := (z1.1 8 (((6 * a1) + a2)).toNatClampNeg)) hx hb hr (fun t ht hW => ⟨⟨_, (), rfl, rfl, vp_at ht hP⟩, hS.F ht⟩) hS.2.2 d_Z_accepted_34
def ws_Z_decided : List Cond := Cond.code y_Z_decided b_Z_decided 3 (some .int) :: ALL
theorem w_Z_decided {R : Room} {s : State} {args : Array Value} {own : String} {index : Nat} (hts : ∀ w ∈ ALL, w.before args s = true) (hlk : Cond.methodLink own index y_Z_decided ∈ ALL) (hR : (({ frames := 1, cells := 0, slots := 0, locals := 20 } : Room)).frames + 1 ≤ R.frames ∧ 8 + (3 + 11) + (({ frames := 1, cells := 0, slots := 0, locals := 20 } : Room)).locals ≤ R.locals) : CallW R s args own R_Z index y_Z_decided b_Z_decided 3 (some .int) ws_Z_decided ({ frames := 1, cells := 0, slots := 0, locals := 20 } : Room) 0 0 2 := ⟨callB_of 2 hts (good_c a_818) rfl rfl rfl (hts _ a_8) (hts _ hlk) (by decide +kernel) hR, hts _ a_816, hts _ a_817⟩
theorem d_Z_decided_0 : decode b_Z_decided 0 = .ok (.aload_n 0, 1) := by decide +kernel
theorem d_Z_decided_1 : decode b_Z_decided 1 = .ok (.iconst 0, 1) := by decide +kernel
theorem d_Z_decided_2 : decode b_Z_decided 2 = .ok (.putfield 95, 3) := by decide +kernel
theorem d_Z_decided_5 : decode b_Z_decided 5 = .ok (.iload_n 1, 1) := by decide +kernel
theorem d_Z_decided_6 : decode b_Z_decided 6 = .ok (.invokestatic 122, 3) := by decide +kernel
theorem d_Z_decided_9 : decode b_Z_decided 9 = .ok (.ifCond .eq 26, 3) := by decide +kernel
theorem d_Z_decided_12 : decode b_Z_decided 12 = .ok (.iload_n 2, 1) := by decide +kernel
theorem d_Z_decided_13 : decode b_Z_decided 13 = .ok (.invokestatic 184, 3) := by decide +kernel
theorem d_Z_decided_16 : decode b_Z_decided 16 = .ok (.ifCond .eq 19, 3) := by decide +kernel
theorem d_Z_decided_19 : decode b_Z_decided 19 = .ok (.aload_n 0, 1) := by decide +kernel
theorem d_Z_decided_20 : decode b_Z_decided 20 = .ok (.getfield 38, 3) := by decide +kernel
theorem d_Z_decided_23 : decode b_Z_decided 23 = .ok (.bipush 6, 2) := by decide +kernel
theorem d_Z_decided_25 : decode b_Z_decided 25 = .ok (.iload_n 1, 1) := by decide +kernel
theorem d_Z_decided_26 : decode b_Z_decided 26 = .ok (.imul, 1) := by decide +kernel
theorem d_Z_decided_27 : decode b_Z_decided 27 = .ok (.iload_n 2, 1) := by decide +kernel
theorem d_Z_decided_28 : decode b_Z_decided 28 = .ok (.iadd, 1) := by decide +kernel
theorem d_Z_decided_29 : decode b_Z_decided 29 = .ok (.iaload, 1) := by decide +kernel
theorem d_Z_decided_30 : decode b_Z_decided 30 = .ok (.iconst 1, 1) := by decide +kernel
theorem d_Z_decided_31 : decode b_Z_decided 31 = .ok (.isub, 1) := by decide +kernel
theorem d_Z_decided_32 : decode b_Z_decided 32 = .ok (.goto 4, 3) := by decide +kernel
theorem d_Z_decided_35 : decode b_Z_decided 35 = .ok (.iconst (-1), 1) := by decide +kernel
theorem d_Z_decided_36 : decode b_Z_decided 36 = .ok (.ireturn, 1) := by decide +kernel
def F_Z_decided (z : ZW) (a1 : Int32) (a2 : Int32) : Option (Int32 × ZW) := (nm_ (pz z 0 0 0) fun z1 => (bs_ (F_Z_isOffice a1) fun r3 => (if r3 = 0 then some ((-1), z1) else (bs_ (F_Z_isNumber a2) fun r6 => (if r6 = 0 then some ((-1), z1) else (if 0 ≤ ((6 * a1) + a2) ∧ (((6 * a1) + a2)).toNatClampNeg < 162 then some (((z1.1 10 (((6 * a1) + a2)).toNatClampNeg) - 1), z1) else none))))))
set_option maxHeartbeats 4000000 in
set_option maxRecDepth 100000 in
theorem c_Z_decided (l : Launch) (D : va_G) (ad : Nat → Nat → Nat) (ca : Nat → ClassId) (hD0 : ∀ z u, va_D (AH ad) (wh ad ca z u)) {z : ZW} {u : XC} {a1 : Int32} {a2 : Int32} {r0 : Int32} {z0 : ZW}  (hF : F_Z_decided z a1 a2 = some (r0, z0)) : Met l y_Z_decided ws_Z_decided ({ frames := 1, cells := 0, slots := 0, locals := 20 } : Room) (va_Pc [.ref (ad 14 0), .int a1, .int a2] (fun U => va_P D CLS (wh ad ca z u) U.heap ∧ va_K D CLS (TYH ca) U)) (va_Qi (fun (r : Int32) (_ : Unit) => r = r0) (fun _ t => va_P D CLS (wh ad ca z0 u) t.heap) (AH ad)) 0 0 (AH ad) := by
  refine Met.ofW (cc := b_Z_decided) (maxL := 3) (ret := (some .int)) (by decide +kernel) rfl ?_
  intro p e s m args below meth c s₁ B hml hv
  obtain ⟨rfl, hP, hK⟩ := hv
  have hx := B.exec
  have hb := B.bytes
  have hr := B.returns
  have hts : ∀ w ∈ ALL, w.before _ s = true := fun w h => atoms_spec (ws := ws_Z_decided) B.pre w (List.mem_cons_of_mem _ h)
  have hown : s.vm.findClass R_Z = some m.cls := findClass_of_methodNamed B.named
  have hlocks := B.notSynchronized
  have hD := hD0
  have hS : va_S (AH ad) s.heap s.heap [] := va_S.rf
  have hP : va_P D CLS (wh ad ca z u) s.heap := hP
  have hl := lv_entry ([.ref (ad 14 0), .int a1, .int a2]) (n := 3) (Nat.le_of_ble_eq_true rfl)
  rw [lg_entry_eq]
  generalize (lg_sl ([.ref (ad 14 0), .int a1, .int a2]) ++ List.replicate (3 - (lg_sl ([.ref (ad 14 0), .int a1, .int a2])).length) Slot.unset).toArray = ls at hl ⊢
  have hl : lv_has ls 3 [(0, .ref (ad 14 0)), (1, .int a1), (2, .int a2)] := hl
  unfold F_Z_decided at hF
  refine lv_aload_n hx hb d_Z_decided_0 rfl (lv_at hl 0 rfl) ?_
  refine lv_iconst (v := 0) hx hb d_Z_decided_1 (by decide) ?_
  obtain ⟨z1, h2, hF⟩ := nm_u hF
  refine pf_Z_0 hx hb hts hown hK hP hD hS (by decide) h2 a_558 d_Z_decided_2 (fun H locs hP hS => ?_)
  refine lv_iload_n hx hb d_Z_decided_5 rfl (lv_at hl 1 rfl) ?_
  obtain ⟨r3, h4, hF⟩ := bs_u hF
  refine k_sp [.int a1] [] ⟨hx, hb, hml, hown, hts⟩ (c_Z_isOffice l  h4) (w_Z_isOffice hts a_691 ⟨Nat.le_of_ble_eq_true rfl, Nat.le_of_ble_eq_true rfl⟩) rfl rfl hl.1 (Nat.le_of_ble_eq_true rfl) ⟨Nat.zero_le _, Nat.zero_le _⟩ d_Z_decided_6 ?_
  refine lv_if_eq (tgt := 35) hx hb d_Z_decided_9 (by decide) (fun h5 => ?_) (fun h5 => ?_)
  · have hF := it_t hF h5
    refine lv_iconst (v := (-1)) hx hb d_Z_decided_35 (by decide) ?_
    obtain ⟨rfl, rfl⟩ := rt2 hF
    exact W.iret (v := (-1)) hx hb hr (fun t ht hW => ⟨⟨_, (), rfl, rfl, vp_at ht hP⟩, hS.F ht⟩) hS.2.2 d_Z_decided_36
  · have hF := it_f hF h5
    refine lv_iload_n hx hb d_Z_decided_12 rfl (lv_at hl 2 rfl) ?_
    obtain ⟨r6, h7, hF⟩ := bs_u hF
    refine k_sp [.int a2] [] ⟨hx, hb, hml, hown, hts⟩ (c_Z_isNumber l  h7) (w_Z_isNumber hts a_812 ⟨Nat.le_of_ble_eq_true rfl, Nat.le_of_ble_eq_true rfl⟩) rfl rfl hl.1 (Nat.le_of_ble_eq_true rfl) ⟨Nat.zero_le _, Nat.zero_le _⟩ d_Z_decided_13 ?_
    refine lv_if_eq (tgt := 35) hx hb d_Z_decided_16 (by decide) (fun h8 => ?_) (fun h8 => ?_)
    · have hF := it_t hF h8
      refine lv_iconst (v := (-1)) hx hb d_Z_decided_35 (by decide) ?_
      obtain ⟨rfl, rfl⟩ := rt2 hF
      exact W.iret (v := (-1)) hx hb hr (fun t ht hW => ⟨⟨_, (), rfl, rfl, vp_at ht hP⟩, hS.F ht⟩) hS.2.2 d_Z_decided_36
    · have hF := it_f hF h8
      refine lv_aload_n hx hb d_Z_decided_19 rfl (lv_at hl 0 rfl) ?_
      refine gf_Z_11 hx hb hts hown hK hP (by decide) a_569 d_Z_decided_20 ?_
      refine lv_bipush (v := 6) hx hb d_Z_decided_23 (by decide) ?_
      refine lv_iload_n hx hb d_Z_decided_25 rfl (lv_at hl 1 rfl) ?_
      refine lv_imul hx hb d_Z_decided_26 ?_
      refine lv_iload_n hx hb d_Z_decided_27 rfl (lv_at hl 2 rfl) ?_
      refine lv_iadd hx hb d_Z_decided_28 ?_
      obtain ⟨h9, hF⟩ := as_u hF
      refine l_zi hx hb hK hP 10 162 ⟨by decide, by decide, by decide⟩ rfl h9 d_Z_decided_29 ?_
      refine lv_iconst (v := 1) hx hb d_Z_decided_30 (by decide) ?_
      refine lv_isub hx hb d_Z_decided_31 ?_
      refine lv_goto (tgt := 36) hx hb d_Z_decided_32 (by decide) ?_
      obtain ⟨rfl, rfl⟩ := rt2 hF
      exact W.iret (v := ((z1.1 10 (((6 * a1) + a2)).toNatClampNeg) - 1)) hx hb hr (fun t ht hW => ⟨⟨_, (), rfl, rfl, vp_at ht hP⟩, hS.F ht⟩) hS.2.2 d_Z_decided_36
def ws_Z_complete : List Cond := Cond.code y_Z_complete b_Z_complete 2 (some .int) :: ALL
theorem w_Z_complete {R : Room} {s : State} {args : Array Value} {own : String} {index : Nat} (hts : ∀ w ∈ ALL, w.before args s = true) (hlk : Cond.methodLink own index y_Z_complete ∈ ALL) (hR : (({ frames := 1, cells := 0, slots := 0, locals := 22 } : Room)).frames + 1 ≤ R.frames ∧ 8 + (2 + 11) + (({ frames := 1, cells := 0, slots := 0, locals := 22 } : Room)).locals ≤ R.locals) : CallW R s args own R_Z index y_Z_complete b_Z_complete 2 (some .int) ws_Z_complete ({ frames := 1, cells := 0, slots := 0, locals := 22 } : Room) 0 0 1 := ⟨callB_of 1 hts (good_c a_822) rfl rfl rfl (hts _ a_8) (hts _ hlk) (by decide +kernel) hR, hts _ a_820, hts _ a_821⟩
theorem d_Z_complete_0 : decode b_Z_complete 0 = .ok (.aload_n 0, 1) := by decide +kernel
theorem d_Z_complete_1 : decode b_Z_complete 1 = .ok (.iconst 0, 1) := by decide +kernel
theorem d_Z_complete_2 : decode b_Z_complete 2 = .ok (.putfield 95, 3) := by decide +kernel
theorem d_Z_complete_5 : decode b_Z_complete 5 = .ok (.iload_n 1, 1) := by decide +kernel
theorem d_Z_complete_6 : decode b_Z_complete 6 = .ok (.invokestatic 122, 3) := by decide +kernel
theorem d_Z_complete_9 : decode b_Z_complete 9 = .ok (.ifCond .eq 11, 3) := by decide +kernel
theorem d_Z_complete_12 : decode b_Z_complete 12 = .ok (.aload_n 0, 1) := by decide +kernel
theorem d_Z_complete_13 : decode b_Z_complete 13 = .ok (.iload_n 1, 1) := by decide +kernel
theorem d_Z_complete_14 : decode b_Z_complete 14 = .ok (.invokevirtual 149, 3) := by decide +kernel
theorem d_Z_complete_17 : decode b_Z_complete 17 = .ok (.goto 4, 3) := by decide +kernel
theorem d_Z_complete_20 : decode b_Z_complete 20 = .ok (.iconst (-1), 1) := by decide +kernel
theorem d_Z_complete_21 : decode b_Z_complete 21 = .ok (.ireturn, 1) := by decide +kernel
def F_Z_complete (z : ZW) (a1 : Int32) : Option (Int32 × ZW) := (nm_ (pz z 0 0 0) fun z1 => (bs_ (F_Z_isOffice a1) fun r3 => (if r3 = 0 then some ((-1), z1) else (bs_ (F_Z_open z1 a1) fun r6 => some (r6, z1)))))
set_option maxHeartbeats 4000000 in
set_option maxRecDepth 100000 in
theorem c_Z_complete (l : Launch) (D : va_G) (ad : Nat → Nat → Nat) (ca : Nat → ClassId) (hD0 : ∀ z u, va_D (AH ad) (wh ad ca z u)) {z : ZW} {u : XC} {a1 : Int32} {r0 : Int32} {z0 : ZW}  (hF : F_Z_complete z a1 = some (r0, z0)) : Met l y_Z_complete ws_Z_complete ({ frames := 1, cells := 0, slots := 0, locals := 22 } : Room) (va_Pc [.ref (ad 14 0), .int a1] (fun U => va_P D CLS (wh ad ca z u) U.heap ∧ va_K D CLS (TYH ca) U)) (va_Qi (fun (r : Int32) (_ : Unit) => r = r0) (fun _ t => va_P D CLS (wh ad ca z0 u) t.heap) (AH ad)) 0 0 (AH ad) := by
  refine Met.ofW (cc := b_Z_complete) (maxL := 2) (ret := (some .int)) (by decide +kernel) rfl ?_
  intro p e s m args below meth c s₁ B hml hv
  obtain ⟨rfl, hP, hK⟩ := hv
  have hx := B.exec
  have hb := B.bytes
  have hr := B.returns
  have hts : ∀ w ∈ ALL, w.before _ s = true := fun w h => atoms_spec (ws := ws_Z_complete) B.pre w (List.mem_cons_of_mem _ h)
  have hown : s.vm.findClass R_Z = some m.cls := findClass_of_methodNamed B.named
  have hlocks := B.notSynchronized
  have hD := hD0
  have hS : va_S (AH ad) s.heap s.heap [] := va_S.rf
  have hP : va_P D CLS (wh ad ca z u) s.heap := hP
  have hl := lv_entry ([.ref (ad 14 0), .int a1]) (n := 2) (Nat.le_of_ble_eq_true rfl)
  rw [lg_entry_eq]
  generalize (lg_sl ([.ref (ad 14 0), .int a1]) ++ List.replicate (2 - (lg_sl ([.ref (ad 14 0), .int a1])).length) Slot.unset).toArray = ls at hl ⊢
  have hl : lv_has ls 2 [(0, .ref (ad 14 0)), (1, .int a1)] := hl
  unfold F_Z_complete at hF
  refine lv_aload_n hx hb d_Z_complete_0 rfl (lv_at hl 0 rfl) ?_
  refine lv_iconst (v := 0) hx hb d_Z_complete_1 (by decide) ?_
  obtain ⟨z1, h2, hF⟩ := nm_u hF
  refine pf_Z_0 hx hb hts hown hK hP hD hS (by decide) h2 a_558 d_Z_complete_2 (fun H locs hP hS => ?_)
  refine lv_iload_n hx hb d_Z_complete_5 rfl (lv_at hl 1 rfl) ?_
  obtain ⟨r3, h4, hF⟩ := bs_u hF
  refine k_sp [.int a1] [] ⟨hx, hb, hml, hown, hts⟩ (c_Z_isOffice l  h4) (w_Z_isOffice hts a_691 ⟨Nat.le_of_ble_eq_true rfl, Nat.le_of_ble_eq_true rfl⟩) rfl rfl hl.1 (Nat.le_of_ble_eq_true rfl) ⟨Nat.zero_le _, Nat.zero_le _⟩ d_Z_complete_6 ?_
  refine lv_if_eq (tgt := 20) hx hb d_Z_complete_9 (by decide) (fun h5 => ?_) (fun h5 => ?_)
  · have hF := it_t hF h5
    refine lv_iconst (v := (-1)) hx hb d_Z_complete_20 (by decide) ?_
    obtain ⟨rfl, rfl⟩ := rt2 hF
    exact W.iret (v := (-1)) hx hb hr (fun t ht hW => ⟨⟨_, (), rfl, rfl, vp_at ht hP⟩, hS.F ht⟩) hS.2.2 d_Z_complete_21
  · have hF := it_f hF h5
    refine lv_aload_n hx hb d_Z_complete_12 rfl (lv_at hl 0 rfl) ?_
    refine lv_iload_n hx hb d_Z_complete_13 rfl (lv_at hl 1 rfl) ?_
    obtain ⟨r6, h7, hF⟩ := bs_u hF
    refine k_vp (ad 14 0) [.int a1] [] ⟨hx, hb, hml, hown, hts⟩ (c_Z_open l D ad ca hD0 (z := z1) (u := u)  h7) (w_Z_open hts a_730 ⟨Nat.le_of_ble_eq_true rfl, Nat.le_of_ble_eq_true rfl⟩) (rv_Z hK hP (by decide)) hP hK rfl rfl hl.1 (Nat.le_of_ble_eq_true rfl) ⟨Nat.zero_le _, Nat.zero_le _⟩ d_Z_complete_14 ?_
    refine lv_goto (tgt := 21) hx hb d_Z_complete_17 (by decide) ?_
    obtain ⟨rfl, rfl⟩ := rt2 hF
    exact W.iret (v := r6) hx hb hr (fun t ht hW => ⟨⟨_, (), rfl, rfl, vp_at ht hP⟩, hS.F ht⟩) hS.2.2 d_Z_complete_21
def ws_Z_rate : List Cond := Cond.code y_Z_rate b_Z_rate 10 (some .int) :: ALL
theorem w_Z_rate {R : Room} {s : State} {args : Array Value} {own : String} {index : Nat} (hts : ∀ w ∈ ALL, w.before args s = true) (hlk : Cond.methodLink own index y_Z_rate ∈ ALL) (hR : (({ frames := 1, cells := 0, slots := 0, locals := 22 } : Room)).frames + 1 ≤ R.frames ∧ 8 + (10 + 11) + (({ frames := 1, cells := 0, slots := 0, locals := 22 } : Room)).locals ≤ R.locals) : CallW R s args own R_Z index y_Z_rate b_Z_rate 10 (some .int) ws_Z_rate ({ frames := 1, cells := 0, slots := 0, locals := 22 } : Room) 0 0 4 := ⟨callB_of 4 hts (good_c a_826) rfl rfl rfl (hts _ a_8) (hts _ hlk) (by decide +kernel) hR, hts _ a_824, hts _ a_825⟩
theorem d_Z_rate_0 : decode b_Z_rate 0 = .ok (.aload_n 0, 1) := by decide +kernel
theorem d_Z_rate_1 : decode b_Z_rate 1 = .ok (.iconst 0, 1) := by decide +kernel
theorem d_Z_rate_2 : decode b_Z_rate 2 = .ok (.putfield 95, 3) := by decide +kernel
theorem d_Z_rate_5 : decode b_Z_rate 5 = .ok (.iload_n 1, 1) := by decide +kernel
theorem d_Z_rate_6 : decode b_Z_rate 6 = .ok (.invokestatic 122, 3) := by decide +kernel
theorem d_Z_rate_9 : decode b_Z_rate 9 = .ok (.ifCond .eq 39, 3) := by decide +kernel
theorem d_Z_rate_12 : decode b_Z_rate 12 = .ok (.iload_n 2, 1) := by decide +kernel
theorem d_Z_rate_13 : decode b_Z_rate 13 = .ok (.ifCond .lt 35, 3) := by decide +kernel
theorem d_Z_rate_16 : decode b_Z_rate 16 = .ok (.iload_n 2, 1) := by decide +kernel
theorem d_Z_rate_17 : decode b_Z_rate 17 = .ok (.bipush 9, 2) := by decide +kernel
theorem d_Z_rate_19 : decode b_Z_rate 19 = .ok (.if_icmp .gt 29, 3) := by decide +kernel
theorem d_Z_rate_22 : decode b_Z_rate 22 = .ok (.iload_n 3, 1) := by decide +kernel
theorem d_Z_rate_23 : decode b_Z_rate 23 = .ok (.ifCond .lt 25, 3) := by decide +kernel
theorem d_Z_rate_26 : decode b_Z_rate 26 = .ok (.iload_n 3, 1) := by decide +kernel
theorem d_Z_rate_27 : decode b_Z_rate 27 = .ok (.sipush 999, 3) := by decide +kernel
theorem d_Z_rate_30 : decode b_Z_rate 30 = .ok (.if_icmp .gt 18, 3) := by decide +kernel
theorem d_Z_rate_33 : decode b_Z_rate 33 = .ok (.iload 4, 2) := by decide +kernel
theorem d_Z_rate_35 : decode b_Z_rate 35 = .ok (.ifCond .lt 13, 3) := by decide +kernel
theorem d_Z_rate_38 : decode b_Z_rate 38 = .ok (.iload 4, 2) := by decide +kernel
theorem d_Z_rate_40 : decode b_Z_rate 40 = .ok (.aload_n 0, 1) := by decide +kernel
theorem d_Z_rate_41 : decode b_Z_rate 41 = .ok (.iload_n 1, 1) := by decide +kernel
theorem d_Z_rate_42 : decode b_Z_rate 42 = .ok (.invokevirtual 149, 3) := by decide +kernel
theorem d_Z_rate_45 : decode b_Z_rate 45 = .ok (.if_icmp .le 5, 3) := by decide +kernel
theorem d_Z_rate_48 : decode b_Z_rate 48 = .ok (.iconst (-1), 1) := by decide +kernel
theorem d_Z_rate_49 : decode b_Z_rate 49 = .ok (.ireturn, 1) := by decide +kernel
theorem d_Z_rate_50 : decode b_Z_rate 50 = .ok (.iconst (-1), 1) := by decide +kernel
theorem d_Z_rate_51 : decode b_Z_rate 51 = .ok (.istore 5, 2) := by decide +kernel
theorem d_Z_rate_53 : decode b_Z_rate 53 = .ok (.iconst (-1), 1) := by decide +kernel
theorem d_Z_rate_54 : decode b_Z_rate 54 = .ok (.istore 6, 2) := by decide +kernel
theorem d_Z_rate_56 : decode b_Z_rate 56 = .ok (.iconst 0, 1) := by decide +kernel
theorem d_Z_rate_57 : decode b_Z_rate 57 = .ok (.istore 7, 2) := by decide +kernel
theorem d_Z_rate_59 : decode b_Z_rate 59 = .ok (.iload 7, 2) := by decide +kernel
theorem d_Z_rate_61 : decode b_Z_rate 61 = .ok (.iload 4, 2) := by decide +kernel
theorem d_Z_rate_63 : decode b_Z_rate 63 = .ok (.if_icmp .ge 108, 3) := by decide +kernel
theorem d_Z_rate_66 : decode b_Z_rate 66 = .ok (.aload_n 0, 1) := by decide +kernel
theorem d_Z_rate_67 : decode b_Z_rate 67 = .ok (.getfield 38, 3) := by decide +kernel
theorem d_Z_rate_70 : decode b_Z_rate 70 = .ok (.bipush 6, 2) := by decide +kernel
theorem d_Z_rate_72 : decode b_Z_rate 72 = .ok (.iload_n 1, 1) := by decide +kernel
theorem d_Z_rate_73 : decode b_Z_rate 73 = .ok (.imul, 1) := by decide +kernel
theorem d_Z_rate_74 : decode b_Z_rate 74 = .ok (.iload 7, 2) := by decide +kernel
theorem d_Z_rate_76 : decode b_Z_rate 76 = .ok (.iadd, 1) := by decide +kernel
theorem d_Z_rate_77 : decode b_Z_rate 77 = .ok (.iaload, 1) := by decide +kernel
theorem d_Z_rate_78 : decode b_Z_rate 78 = .ok (.iconst 1, 1) := by decide +kernel
theorem d_Z_rate_79 : decode b_Z_rate 79 = .ok (.isub, 1) := by decide +kernel
theorem d_Z_rate_80 : decode b_Z_rate 80 = .ok (.istore 8, 2) := by decide +kernel
theorem d_Z_rate_82 : decode b_Z_rate 82 = .ok (.iconst 0, 1) := by decide +kernel
theorem d_Z_rate_83 : decode b_Z_rate 83 = .ok (.istore 9, 2) := by decide +kernel
theorem d_Z_rate_85 : decode b_Z_rate 85 = .ok (.iload 9, 2) := by decide +kernel
theorem d_Z_rate_87 : decode b_Z_rate 87 = .ok (.aload_n 0, 1) := by decide +kernel
theorem d_Z_rate_88 : decode b_Z_rate 88 = .ok (.getfield 13, 3) := by decide +kernel
theorem d_Z_rate_91 : decode b_Z_rate 91 = .ok (.iload 8, 2) := by decide +kernel
theorem d_Z_rate_93 : decode b_Z_rate 93 = .ok (.iaload, 1) := by decide +kernel
theorem d_Z_rate_94 : decode b_Z_rate 94 = .ok (.if_icmp .ge 71, 3) := by decide +kernel
theorem d_Z_rate_97 : decode b_Z_rate 97 = .ok (.aload_n 0, 1) := by decide +kernel
theorem d_Z_rate_98 : decode b_Z_rate 98 = .ok (.getfield 16, 3) := by decide +kernel
theorem d_Z_rate_101 : decode b_Z_rate 101 = .ok (.iconst 4, 1) := by decide +kernel
theorem d_Z_rate_102 : decode b_Z_rate 102 = .ok (.iload 8, 2) := by decide +kernel
theorem d_Z_rate_104 : decode b_Z_rate 104 = .ok (.imul, 1) := by decide +kernel
theorem d_Z_rate_105 : decode b_Z_rate 105 = .ok (.iload 9, 2) := by decide +kernel
theorem d_Z_rate_107 : decode b_Z_rate 107 = .ok (.iadd, 1) := by decide +kernel
theorem d_Z_rate_108 : decode b_Z_rate 108 = .ok (.iaload, 1) := by decide +kernel
theorem d_Z_rate_109 : decode b_Z_rate 109 = .ok (.iload_n 2, 1) := by decide +kernel
theorem d_Z_rate_110 : decode b_Z_rate 110 = .ok (.if_icmp .ne 49, 3) := by decide +kernel
theorem d_Z_rate_113 : decode b_Z_rate 113 = .ok (.aload_n 0, 1) := by decide +kernel
theorem d_Z_rate_114 : decode b_Z_rate 114 = .ok (.getfield 7, 3) := by decide +kernel
theorem d_Z_rate_117 : decode b_Z_rate 117 = .ok (.iload 8, 2) := by decide +kernel
theorem d_Z_rate_119 : decode b_Z_rate 119 = .ok (.iaload, 1) := by decide +kernel
theorem d_Z_rate_120 : decode b_Z_rate 120 = .ok (.iload_n 3, 1) := by decide +kernel
theorem d_Z_rate_121 : decode b_Z_rate 121 = .ok (.if_icmp .gt 38, 3) := by decide +kernel
theorem d_Z_rate_124 : decode b_Z_rate 124 = .ok (.aload_n 0, 1) := by decide +kernel
theorem d_Z_rate_125 : decode b_Z_rate 125 = .ok (.getfield 7, 3) := by decide +kernel
theorem d_Z_rate_128 : decode b_Z_rate 128 = .ok (.iload 8, 2) := by decide +kernel
theorem d_Z_rate_130 : decode b_Z_rate 130 = .ok (.iaload, 1) := by decide +kernel
theorem d_Z_rate_131 : decode b_Z_rate 131 = .ok (.iload 5, 2) := by decide +kernel
theorem d_Z_rate_133 : decode b_Z_rate 133 = .ok (.if_icmp .lt 26, 3) := by decide +kernel
theorem d_Z_rate_136 : decode b_Z_rate 136 = .ok (.aload_n 0, 1) := by decide +kernel
theorem d_Z_rate_137 : decode b_Z_rate 137 = .ok (.getfield 7, 3) := by decide +kernel
theorem d_Z_rate_140 : decode b_Z_rate 140 = .ok (.iload 8, 2) := by decide +kernel
theorem d_Z_rate_142 : decode b_Z_rate 142 = .ok (.iaload, 1) := by decide +kernel
theorem d_Z_rate_143 : decode b_Z_rate 143 = .ok (.istore 5, 2) := by decide +kernel
theorem d_Z_rate_145 : decode b_Z_rate 145 = .ok (.aload_n 0, 1) := by decide +kernel
theorem d_Z_rate_146 : decode b_Z_rate 146 = .ok (.getfield 19, 3) := by decide +kernel
theorem d_Z_rate_149 : decode b_Z_rate 149 = .ok (.iconst 4, 1) := by decide +kernel
theorem d_Z_rate_150 : decode b_Z_rate 150 = .ok (.iload 8, 2) := by decide +kernel
theorem d_Z_rate_152 : decode b_Z_rate 152 = .ok (.imul, 1) := by decide +kernel
theorem d_Z_rate_153 : decode b_Z_rate 153 = .ok (.iload 9, 2) := by decide +kernel
theorem d_Z_rate_155 : decode b_Z_rate 155 = .ok (.iadd, 1) := by decide +kernel
theorem d_Z_rate_156 : decode b_Z_rate 156 = .ok (.iaload, 1) := by decide +kernel
theorem d_Z_rate_157 : decode b_Z_rate 157 = .ok (.istore 6, 2) := by decide +kernel
theorem d_Z_rate_159 : decode b_Z_rate 159 = .ok (.iinc 9 1, 3) := by decide +kernel
theorem d_Z_rate_162 : decode b_Z_rate 162 = .ok (.goto (-77), 3) := by decide +kernel
theorem d_Z_rate_165 : decode b_Z_rate 165 = .ok (.iinc 7 1, 3) := by decide +kernel
theorem d_Z_rate_168 : decode b_Z_rate 168 = .ok (.goto (-109), 3) := by decide +kernel
theorem d_Z_rate_171 : decode b_Z_rate 171 = .ok (.iload 6, 2) := by decide +kernel
theorem d_Z_rate_173 : decode b_Z_rate 173 = .ok (.ireturn, 1) := by decide +kernel
def Fl_Z_rate_85 (K59 : ZW → Int32 → Int32 → Int32 → Int32 → Int32 → Int32 → Int32 → Option (Int32 × ZW)) : Nat → ZW → Int32 → Int32 → Int32 → Int32 → Int32 → Int32 → Int32 → Int32 → Int32 → Option (Int32 × ZW)
  | 0, _, _, _, _, _, _, _, _, _, _ => none
  | n + 1, z, x1, x2, x3, x4, x5, x6, x7, x8, x9 => (if 0 ≤ x8 ∧ (x8).toNatClampNeg < 40 then (if (z.1 2 (x8).toNatClampNeg) ≤ x9 then K59 z x1 x2 x3 x4 x5 x6 (x7 + 1) else (if 0 ≤ ((4 * x8) + x9) ∧ (((4 * x8) + x9)).toNatClampNeg < 160 then (if (z.1 3 (((4 * x8) + x9)).toNatClampNeg) = x2 then (if 0 ≤ x8 ∧ (x8).toNatClampNeg < 40 then (if x3 < (z.1 1 (x8).toNatClampNeg) then (Fl_Z_rate_85 K59 n) z x1 x2 x3 x4 x5 x6 x7 x8 (x9 + 1) else (if 0 ≤ x8 ∧ (x8).toNatClampNeg < 40 then (if (z.1 1 (x8).toNatClampNeg) < x5 then (Fl_Z_rate_85 K59 n) z x1 x2 x3 x4 x5 x6 x7 x8 (x9 + 1) else (if 0 ≤ x8 ∧ (x8).toNatClampNeg < 40 then (if 0 ≤ ((4 * x8) + x9) ∧ (((4 * x8) + x9)).toNatClampNeg < 160 then (Fl_Z_rate_85 K59 n) z x1 x2 x3 x4 (z.1 1 (x8).toNatClampNeg) (z.1 4 (((4 * x8) + x9)).toNatClampNeg) x7 x8 (x9 + 1) else none) else none)) else none)) else none) else (Fl_Z_rate_85 K59 n) z x1 x2 x3 x4 x5 x6 x7 x8 (x9 + 1)) else none)) else none)
def Fl_Z_rate_59  : Nat → ZW → Int32 → Int32 → Int32 → Int32 → Int32 → Int32 → Int32 → Option (Int32 × ZW)
  | 0, _, _, _, _, _, _, _, _ => none
  | n + 1, z, x1, x2, x3, x4, x5, x6, x7 => (if x4 ≤ x7 then some (x6, z) else (if 0 ≤ ((6 * x1) + x7) ∧ (((6 * x1) + x7)).toNatClampNeg < 162 then (nm_ ((z.1 10 (((6 * x1) + x7)).toNatClampNeg) - 1) fun vv16 => Fl_Z_rate_85 (Fl_Z_rate_59 n) 200 z x1 x2 x3 x4 x5 x6 x7 vv16 0) else none))
def F_Z_rate (z : ZW) (a1 : Int32) (a2 : Int32) (a3 : Int32) (a4 : Int32) : Option (Int32 × ZW) := (nm_ (pz z 0 0 0) fun z1 => (bs_ (F_Z_isOffice a1) fun r3 => (if r3 = 0 then some ((-1), z1) else (if a2 < 0 then some ((-1), z1) else (if 9 < a2 then some ((-1), z1) else (if a3 < 0 then some ((-1), z1) else (if 999 < a3 then some ((-1), z1) else (if a4 < 0 then some ((-1), z1) else (bs_ (F_Z_open z1 a1) fun r11 => (if a4 ≤ r11 then Fl_Z_rate_59  200 z1 a1 a2 a3 a4 (-1) (-1) 0 else some ((-1), z1)))))))))))
set_option maxHeartbeats 4000000 in
set_option maxRecDepth 100000 in
theorem lp_Z_rate_85 {p : Program} {l : Launch} {e : Env} {s : State} {m : MethodId} {args : Array Value} {below : List Frame} {meth : Method} {c : Code} {D : va_G} {ad : Nat → Nat → Nat} {ca : Nat → ClassId} {u : XC} (hx : p.tables.exec = Jvm.exec) (hb : c.code = b_Z_rate) (hr : meth.sig.returnType = (some .int)) (hts : ∀ w ∈ ALL, w.before args s = true) (hown : s.vm.findClass R_Z = some m.cls) (hlocks : meth.locks = false) (hml : c.maxLocals = 10) (hK : va_K D CLS (TYH ca) s) (hD0 : ∀ z u, va_D (AH ad) (wh ad ca z u)) (hD : ∀ z u, va_D (AH ad) (wh ad ca z u)) {K59 : ZW → Int32 → Int32 → Int32 → Int32 → Int32 → Int32 → Int32 → Option (Int32 × ZW)} (ihK59 : ∀ (z : ZW) (x1 : Int32) (x2 : Int32) (x3 : Int32) (x4 : Int32) (x5 : Int32) (x6 : Int32) (x7 : Int32)  (r0 : Int32) (z0 : ZW), K59 z x1 x2 x3 x4 x5 x6 x7 = some (r0, z0) → ∀ (H : Heap) (locs : List Loc) (ls : Array Slot), va_P D CLS (wh ad ca z u) H → va_S (AH ad) s.heap H locs → lv_has ls 10 [(0, .ref (ad 14 0)), (1, .int x1), (2, .int x2), (3, .int x3), (4, .int x4), (5, .int x5), (6, .int x6), (7, .int x7)] → W p l e ({ frames := 1, cells := 0, slots := 0, locals := 22 } : Room) s m args below meth c H locs 0 0 (MQ below (va_Qi (fun (r : Int32) (_ : Unit) => r = r0) (fun _ t => va_P D CLS (wh ad ca z0 u) t.heap) (AH ad)) args s 0 0 (AH ad)) (F0 m 59 ls [])) : ∀ (n : Nat), ∀ (z : ZW) (x1 : Int32) (x2 : Int32) (x3 : Int32) (x4 : Int32) (x5 : Int32) (x6 : Int32) (x7 : Int32) (x8 : Int32) (x9 : Int32)  (r0 : Int32) (z0 : ZW), Fl_Z_rate_85 K59 n z x1 x2 x3 x4 x5 x6 x7 x8 x9 = some (r0, z0) → ∀ (H : Heap) (locs : List Loc) (ls : Array Slot), va_P D CLS (wh ad ca z u) H → va_S (AH ad) s.heap H locs → lv_has ls 10 [(0, .ref (ad 14 0)), (1, .int x1), (2, .int x2), (3, .int x3), (4, .int x4), (5, .int x5), (6, .int x6), (7, .int x7), (8, .int x8), (9, .int x9)] → W p l e ({ frames := 1, cells := 0, slots := 0, locals := 22 } : Room) s m args below meth c H locs 0 0 (MQ below (va_Qi (fun (r : Int32) (_ : Unit) => r = r0) (fun _ t => va_P D CLS (wh ad ca z0 u) t.heap) (AH ad)) args s 0 0 (AH ad)) (F0 m 85 ls []) := by
  intro n
  induction n with
  | zero => intro z x1 x2 x3 x4 x5 x6 x7 x8 x9 r0 z0 hF; rw [Fl_Z_rate_85] at hF; cases hF
  | succ n ih =>
    intro z x1 x2 x3 x4 x5 x6 x7 x8 x9 r0 z0 hF H locs ls hP hS hl
    rw [Fl_Z_rate_85] at hF
    refine lv_iload hx hb d_Z_rate_85 (lv_at hl 9 rfl) ?_
    refine lv_aload_n hx hb d_Z_rate_87 rfl (lv_at hl 0 rfl) ?_
    refine gf_Z_3 hx hb hts hown hK hP (by decide) a_561 d_Z_rate_88 ?_
    refine lv_iload hx hb d_Z_rate_91 (lv_at hl 8 rfl) ?_
    obtain ⟨h18, hF⟩ := as_u hF
    refine l_zi hx hb hK hP 2 40 ⟨by decide, by decide, by decide⟩ rfl h18 d_Z_rate_93 ?_
    refine lv_icmp_ge (tgt := 165) hx hb d_Z_rate_94 (by decide) (fun h19 => ?_) (fun h19 => ?_)
    · have hF := it_t hF h19
      refine lv_iinc (k := 7) (v := (x7 + 1)) (lv' := [(7, .int (x7 + 1)), (0, .ref (ad 14 0)), (1, .int x1), (2, .int x2), (3, .int x3), (4, .int x4), (5, .int x5), (6, .int x6), (8, .int x8), (9, .int x9)]) hx hb d_Z_rate_165 hl rfl rfl (by decide) rfl (fun ls hl => ?_)
      refine lv_goto (tgt := 59) hx hb d_Z_rate_168 (by decide) ?_
      exact ihK59 z x1 x2 x3 x4 x5 x6 (x7 + 1)  r0 z0 hF _ _ _ hP hS (lv_sub hl [1, 2, 3, 4, 5, 6, 7, 0] rfl)
    · have hF := it_f hF h19
      refine lv_aload_n hx hb d_Z_rate_97 rfl (lv_at hl 0 rfl) ?_
      refine gf_Z_4 hx hb hts hown hK hP (by decide) a_562 d_Z_rate_98 ?_
      refine lv_iconst (v := 4) hx hb d_Z_rate_101 (by decide) ?_
      refine lv_iload hx hb d_Z_rate_102 (lv_at hl 8 rfl) ?_
      refine lv_imul hx hb d_Z_rate_104 ?_
      refine lv_iload hx hb d_Z_rate_105 (lv_at hl 9 rfl) ?_
      refine lv_iadd hx hb d_Z_rate_107 ?_
      obtain ⟨h20, hF⟩ := as_u hF
      refine l_zi hx hb hK hP 3 160 ⟨by decide, by decide, by decide⟩ rfl h20 d_Z_rate_108 ?_
      refine lv_iload_n hx hb d_Z_rate_109 rfl (lv_at hl 2 rfl) ?_
      refine lv_icmp_ne (tgt := 159) hx hb d_Z_rate_110 (by decide) (fun h21 => ?_) (fun h21 => ?_)
      · have hF := it_f hF h21
        refine lv_iinc (k := 9) (v := (x9 + 1)) (lv' := [(9, .int (x9 + 1)), (0, .ref (ad 14 0)), (1, .int x1), (2, .int x2), (3, .int x3), (4, .int x4), (5, .int x5), (6, .int x6), (7, .int x7), (8, .int x8)]) hx hb d_Z_rate_159 hl rfl rfl (by decide) rfl (fun ls hl => ?_)
        refine lv_goto (tgt := 85) hx hb d_Z_rate_162 (by decide) ?_
        exact ih z x1 x2 x3 x4 x5 x6 x7 x8 (x9 + 1)  r0 z0 hF _ _ _ hP hS (lv_sub hl [1, 2, 3, 4, 5, 6, 7, 8, 9, 0] rfl)
      · have hF := it_t hF h21
        refine lv_aload_n hx hb d_Z_rate_113 rfl (lv_at hl 0 rfl) ?_
        refine gf_Z_2 hx hb hts hown hK hP (by decide) a_560 d_Z_rate_114 ?_
        refine lv_iload hx hb d_Z_rate_117 (lv_at hl 8 rfl) ?_
        obtain ⟨h22, hF⟩ := as_u hF
        refine l_zi hx hb hK hP 1 40 ⟨by decide, by decide, by decide⟩ rfl h22 d_Z_rate_119 ?_
        refine lv_iload_n hx hb d_Z_rate_120 rfl (lv_at hl 3 rfl) ?_
        refine lv_icmp_gt (tgt := 159) hx hb d_Z_rate_121 (by decide) (fun h23 => ?_) (fun h23 => ?_)
        · have hF := it_t hF h23
          refine lv_iinc (k := 9) (v := (x9 + 1)) (lv' := [(9, .int (x9 + 1)), (0, .ref (ad 14 0)), (1, .int x1), (2, .int x2), (3, .int x3), (4, .int x4), (5, .int x5), (6, .int x6), (7, .int x7), (8, .int x8)]) hx hb d_Z_rate_159 hl rfl rfl (by decide) rfl (fun ls hl => ?_)
          refine lv_goto (tgt := 85) hx hb d_Z_rate_162 (by decide) ?_
          exact ih z x1 x2 x3 x4 x5 x6 x7 x8 (x9 + 1)  r0 z0 hF _ _ _ hP hS (lv_sub hl [1, 2, 3, 4, 5, 6, 7, 8, 9, 0] rfl)
        · have hF := it_f hF h23
          refine lv_aload_n hx hb d_Z_rate_124 rfl (lv_at hl 0 rfl) ?_
          refine gf_Z_2 hx hb hts hown hK hP (by decide) a_560 d_Z_rate_125 ?_
          refine lv_iload hx hb d_Z_rate_128 (lv_at hl 8 rfl) ?_
          obtain ⟨h24, hF⟩ := as_u hF
          refine l_zi hx hb hK hP 1 40 ⟨by decide, by decide, by decide⟩ rfl h24 d_Z_rate_130 ?_
          refine lv_iload hx hb d_Z_rate_131 (lv_at hl 5 rfl) ?_
          refine lv_icmp_lt (tgt := 159) hx hb d_Z_rate_133 (by decide) (fun h25 => ?_) (fun h25 => ?_)
          · have hF := it_t hF h25
            refine lv_iinc (k := 9) (v := (x9 + 1)) (lv' := [(9, .int (x9 + 1)), (0, .ref (ad 14 0)), (1, .int x1), (2, .int x2), (3, .int x3), (4, .int x4), (5, .int x5), (6, .int x6), (7, .int x7), (8, .int x8)]) hx hb d_Z_rate_159 hl rfl rfl (by decide) rfl (fun ls hl => ?_)
            refine lv_goto (tgt := 85) hx hb d_Z_rate_162 (by decide) ?_
            exact ih z x1 x2 x3 x4 x5 x6 x7 x8 (x9 + 1)  r0 z0 hF _ _ _ hP hS (lv_sub hl [1, 2, 3, 4, 5, 6, 7, 8, 9, 0] rfl)
          · have hF := it_f hF h25
            refine lv_aload_n hx hb d_Z_rate_136 rfl (lv_at hl 0 rfl) ?_
            refine gf_Z_2 hx hb hts hown hK hP (by decide) a_560 d_Z_rate_137 ?_
            refine lv_iload hx hb d_Z_rate_140 (lv_at hl 8 rfl) ?_
            obtain ⟨h26, hF⟩ := as_u hF
            refine l_zi hx hb hK hP 1 40 ⟨by decide, by decide, by decide⟩ rfl h26 d_Z_rate_142 ?_
            refine lv_istore (lv' := [(5, .int (z.1 1 (x8).toNatClampNeg)), (0, .ref (ad 14 0)), (1, .int x1), (2, .int x2), (3, .int x3), (4, .int x4), (6, .int x6), (7, .int x7), (8, .int x8), (9, .int x9)]) hx hb d_Z_rate_143 hl (by decide) rfl (fun ls hl => ?_)
            refine lv_aload_n hx hb d_Z_rate_145 rfl (lv_at hl 1 rfl) ?_
            refine gf_Z_5 hx hb hts hown hK hP (by decide) a_563 d_Z_rate_146 ?_
            refine lv_iconst (v := 4) hx hb d_Z_rate_149 (by decide) ?_
            refine lv_iload hx hb d_Z_rate_150 (lv_at hl 8 rfl) ?_
            refine lv_imul hx hb d_Z_rate_152 ?_
            refine lv_iload hx hb d_Z_rate_153 (lv_at hl 9 rfl) ?_
            refine lv_iadd hx hb d_Z_rate_155 ?_
            obtain ⟨h27, hF⟩ := as_u hF
            refine l_zi hx hb hK hP 4 160 ⟨by decide, by decide, by decide⟩ rfl h27 d_Z_rate_156 ?_
            refine lv_istore (lv' := [(6, .int (z.1 4 (((4 * x8) + x9)).toNatClampNeg)), (5, .int (z.1 1 (x8).toNatClampNeg)), (0, .ref (ad 14 0)), (1, .int x1), (2, .int x2), (3, .int x3), (4, .int x4), (7, .int x7), (8, .int x8), (9, .int x9)]) hx hb d_Z_rate_157 hl (by decide) rfl (fun ls hl => ?_)
            refine lv_iinc (k := 9) (v := (x9 + 1)) (lv' := [(9, .int (x9 + 1)), (6, .int (z.1 4 (((4 * x8) + x9)).toNatClampNeg)), (5, .int (z.1 1 (x8).toNatClampNeg)), (0, .ref (ad 14 0)), (1, .int x1), (2, .int x2), (3, .int x3), (4, .int x4), (7, .int x7), (8, .int x8)]) hx hb d_Z_rate_159 hl rfl rfl (by decide) rfl (fun ls hl => ?_)
            refine lv_goto (tgt := 85) hx hb d_Z_rate_162 (by decide) ?_
            exact ih z x1 x2 x3 x4 (z.1 1 (x8).toNatClampNeg) (z.1 4 (((4 * x8) + x9)).toNatClampNeg) x7 x8 (x9 + 1)  r0 z0 hF _ _ _ hP hS (lv_sub hl [3, 4, 5, 6, 7, 2, 1, 8, 9, 0] rfl)
set_option maxHeartbeats 4000000 in
set_option maxRecDepth 100000 in
theorem lp_Z_rate_59 {p : Program} {l : Launch} {e : Env} {s : State} {m : MethodId} {args : Array Value} {below : List Frame} {meth : Method} {c : Code} {D : va_G} {ad : Nat → Nat → Nat} {ca : Nat → ClassId} {u : XC} (hx : p.tables.exec = Jvm.exec) (hb : c.code = b_Z_rate) (hr : meth.sig.returnType = (some .int)) (hts : ∀ w ∈ ALL, w.before args s = true) (hown : s.vm.findClass R_Z = some m.cls) (hlocks : meth.locks = false) (hml : c.maxLocals = 10) (hK : va_K D CLS (TYH ca) s) (hD0 : ∀ z u, va_D (AH ad) (wh ad ca z u)) (hD : ∀ z u, va_D (AH ad) (wh ad ca z u))  : ∀ (n : Nat), ∀ (z : ZW) (x1 : Int32) (x2 : Int32) (x3 : Int32) (x4 : Int32) (x5 : Int32) (x6 : Int32) (x7 : Int32)  (r0 : Int32) (z0 : ZW), Fl_Z_rate_59  n z x1 x2 x3 x4 x5 x6 x7 = some (r0, z0) → ∀ (H : Heap) (locs : List Loc) (ls : Array Slot), va_P D CLS (wh ad ca z u) H → va_S (AH ad) s.heap H locs → lv_has ls 10 [(0, .ref (ad 14 0)), (1, .int x1), (2, .int x2), (3, .int x3), (4, .int x4), (5, .int x5), (6, .int x6), (7, .int x7)] → W p l e ({ frames := 1, cells := 0, slots := 0, locals := 22 } : Room) s m args below meth c H locs 0 0 (MQ below (va_Qi (fun (r : Int32) (_ : Unit) => r = r0) (fun _ t => va_P D CLS (wh ad ca z0 u) t.heap) (AH ad)) args s 0 0 (AH ad)) (F0 m 59 ls []) := by
  intro n
  induction n with
  | zero => intro z x1 x2 x3 x4 x5 x6 x7 r0 z0 hF; rw [Fl_Z_rate_59] at hF; cases hF
  | succ n ih =>
    intro z x1 x2 x3 x4 x5 x6 x7 r0 z0 hF H locs ls hP hS hl
    rw [Fl_Z_rate_59] at hF
    refine lv_iload hx hb d_Z_rate_59 (lv_at hl 7 rfl) ?_
    refine lv_iload hx hb d_Z_rate_61 (lv_at hl 4 rfl) ?_
    refine lv_icmp_ge (tgt := 171) hx hb d_Z_rate_63 (by decide) (fun h14 => ?_) (fun h14 => ?_)
    · have hF := it_t hF h14
      refine lv_iload hx hb d_Z_rate_171 (lv_at hl 6 rfl) ?_
      obtain ⟨rfl, rfl⟩ := rt2 hF
      exact W.iret (v := x6) hx hb hr (fun t ht hW => ⟨⟨_, (), rfl, rfl, vp_at ht hP⟩, hS.F ht⟩) hS.2.2 d_Z_rate_173
    · have hF := it_f hF h14
      refine lv_aload_n hx hb d_Z_rate_66 rfl (lv_at hl 0 rfl) ?_
      refine gf_Z_11 hx hb hts hown hK hP (by decide) a_569 d_Z_rate_67 ?_
      refine lv_bipush (v := 6) hx hb d_Z_rate_70 (by decide) ?_
      refine lv_iload_n hx hb d_Z_rate_72 rfl (lv_at hl 1 rfl) ?_
      refine lv_imul hx hb d_Z_rate_73 ?_
      refine lv_iload hx hb d_Z_rate_74 (lv_at hl 7 rfl) ?_
      refine lv_iadd hx hb d_Z_rate_76 ?_
      obtain ⟨h15, hF⟩ := as_u hF
      refine l_zi hx hb hK hP 10 162 ⟨by decide, by decide, by decide⟩ rfl h15 d_Z_rate_77 ?_
      refine lv_iconst (v := 1) hx hb d_Z_rate_78 (by decide) ?_
      refine lv_isub hx hb d_Z_rate_79 ?_
      refine lv_topi (fun vv16 h17 => ?_)
      have hF := nm_q hF h17
      refine lv_istore (lv' := [(8, .int vv16), (0, .ref (ad 14 0)), (1, .int x1), (2, .int x2), (3, .int x3), (4, .int x4), (5, .int x5), (6, .int x6), (7, .int x7)]) hx hb d_Z_rate_80 hl (by decide) rfl (fun ls hl => ?_)
      refine lv_iconst (v := 0) hx hb d_Z_rate_82 (by decide) ?_
      refine lv_istore (lv' := [(9, .int 0), (8, .int vv16), (0, .ref (ad 14 0)), (1, .int x1), (2, .int x2), (3, .int x3), (4, .int x4), (5, .int x5), (6, .int x6), (7, .int x7)]) hx hb d_Z_rate_83 hl (by decide) rfl (fun ls hl => ?_)
      exact lp_Z_rate_85 hx hb hr hts hown hlocks hml hK hD0 hD ih 200 z x1 x2 x3 x4 x5 x6 x7 vv16 0  r0 z0 hF _ _ _ hP hS (lv_sub hl [2, 3, 4, 5, 6, 7, 8, 9, 1, 0] rfl)
set_option maxHeartbeats 4000000 in
set_option maxRecDepth 100000 in
theorem c_Z_rate (l : Launch) (D : va_G) (ad : Nat → Nat → Nat) (ca : Nat → ClassId) (hD0 : ∀ z u, va_D (AH ad) (wh ad ca z u)) {z : ZW} {u : XC} {a1 : Int32} {a2 : Int32} {a3 : Int32} {a4 : Int32} {r0 : Int32} {z0 : ZW}  (hF : F_Z_rate z a1 a2 a3 a4 = some (r0, z0)) : Met l y_Z_rate ws_Z_rate ({ frames := 1, cells := 0, slots := 0, locals := 22 } : Room) (va_Pc [.ref (ad 14 0), .int a1, .int a2, .int a3, .int a4] (fun U => va_P D CLS (wh ad ca z u) U.heap ∧ va_K D CLS (TYH ca) U)) (va_Qi (fun (r : Int32) (_ : Unit) => r = r0) (fun _ t => va_P D CLS (wh ad ca z0 u) t.heap) (AH ad)) 0 0 (AH ad) := by
  refine Met.ofW (cc := b_Z_rate) (maxL := 10) (ret := (some .int)) (by decide +kernel) rfl ?_
  intro p e s m args below meth c s₁ B hml hv
  obtain ⟨rfl, hP, hK⟩ := hv
  have hx := B.exec
  have hb := B.bytes
  have hr := B.returns
  have hts : ∀ w ∈ ALL, w.before _ s = true := fun w h => atoms_spec (ws := ws_Z_rate) B.pre w (List.mem_cons_of_mem _ h)
  have hown : s.vm.findClass R_Z = some m.cls := findClass_of_methodNamed B.named
  have hlocks := B.notSynchronized
  have hD := hD0
  have hS : va_S (AH ad) s.heap s.heap [] := va_S.rf
  have hP : va_P D CLS (wh ad ca z u) s.heap := hP
  have hl := lv_entry ([.ref (ad 14 0), .int a1, .int a2, .int a3, .int a4]) (n := 10) (Nat.le_of_ble_eq_true rfl)
  rw [lg_entry_eq]
  generalize (lg_sl ([.ref (ad 14 0), .int a1, .int a2, .int a3, .int a4]) ++ List.replicate (10 - (lg_sl ([.ref (ad 14 0), .int a1, .int a2, .int a3, .int a4])).length) Slot.unset).toArray = ls at hl ⊢
  have hl : lv_has ls 10 [(0, .ref (ad 14 0)), (1, .int a1), (2, .int a2), (3, .int a3), (4, .int a4)] := hl
  unfold F_Z_rate at hF
  refine lv_aload_n hx hb d_Z_rate_0 rfl (lv_at hl 0 rfl) ?_
  refine lv_iconst (v := 0) hx hb d_Z_rate_1 (by decide) ?_
  obtain ⟨z1, h2, hF⟩ := nm_u hF
  refine pf_Z_0 hx hb hts hown hK hP hD hS (by decide) h2 a_558 d_Z_rate_2 (fun H locs hP hS => ?_)
  refine lv_iload_n hx hb d_Z_rate_5 rfl (lv_at hl 1 rfl) ?_
  obtain ⟨r3, h4, hF⟩ := bs_u hF
  refine k_sp [.int a1] [] ⟨hx, hb, hml, hown, hts⟩ (c_Z_isOffice l  h4) (w_Z_isOffice hts a_691 ⟨Nat.le_of_ble_eq_true rfl, Nat.le_of_ble_eq_true rfl⟩) rfl rfl hl.1 (Nat.le_of_ble_eq_true rfl) ⟨Nat.zero_le _, Nat.zero_le _⟩ d_Z_rate_6 ?_
  refine lv_if_eq (tgt := 48) hx hb d_Z_rate_9 (by decide) (fun h5 => ?_) (fun h5 => ?_)
  · have hF := it_t hF h5
    refine lv_iconst (v := (-1)) hx hb d_Z_rate_48 (by decide) ?_
    obtain ⟨rfl, rfl⟩ := rt2 hF
    exact W.iret (v := (-1)) hx hb hr (fun t ht hW => ⟨⟨_, (), rfl, rfl, vp_at ht hP⟩, hS.F ht⟩) hS.2.2 d_Z_rate_49
  · have hF := it_f hF h5
    refine lv_iload_n hx hb d_Z_rate_12 rfl (lv_at hl 2 rfl) ?_
    refine lv_if_lt (tgt := 48) hx hb d_Z_rate_13 (by decide) (fun h6 => ?_) (fun h6 => ?_)
    · have hF := it_t hF h6
      refine lv_iconst (v := (-1)) hx hb d_Z_rate_48 (by decide) ?_
      obtain ⟨rfl, rfl⟩ := rt2 hF
      exact W.iret (v := (-1)) hx hb hr (fun t ht hW => ⟨⟨_, (), rfl, rfl, vp_at ht hP⟩, hS.F ht⟩) hS.2.2 d_Z_rate_49
    · have hF := it_f hF h6
      refine lv_iload_n hx hb d_Z_rate_16 rfl (lv_at hl 2 rfl) ?_
      refine lv_bipush (v := 9) hx hb d_Z_rate_17 (by decide) ?_
      refine lv_icmp_gt (tgt := 48) hx hb d_Z_rate_19 (by decide) (fun h7 => ?_) (fun h7 => ?_)
      · have hF := it_t hF h7
        refine lv_iconst (v := (-1)) hx hb d_Z_rate_48 (by decide) ?_
        obtain ⟨rfl, rfl⟩ := rt2 hF
        exact W.iret (v := (-1)) hx hb hr (fun t ht hW => ⟨⟨_, (), rfl, rfl, vp_at ht hP⟩, hS.F ht⟩) hS.2.2 d_Z_rate_49
      · have hF := it_f hF h7
        refine lv_iload_n hx hb d_Z_rate_22 rfl (lv_at hl 3 rfl) ?_
        refine lv_if_lt (tgt := 48) hx hb d_Z_rate_23 (by decide) (fun h8 => ?_) (fun h8 => ?_)
        · have hF := it_t hF h8
          refine lv_iconst (v := (-1)) hx hb d_Z_rate_48 (by decide) ?_
          obtain ⟨rfl, rfl⟩ := rt2 hF
          exact W.iret (v := (-1)) hx hb hr (fun t ht hW => ⟨⟨_, (), rfl, rfl, vp_at ht hP⟩, hS.F ht⟩) hS.2.2 d_Z_rate_49
        · have hF := it_f hF h8
          refine lv_iload_n hx hb d_Z_rate_26 rfl (lv_at hl 3 rfl) ?_
          refine lv_sipush (v := 999) hx hb d_Z_rate_27 (by decide) ?_
          refine lv_icmp_gt (tgt := 48) hx hb d_Z_rate_30 (by decide) (fun h9 => ?_) (fun h9 => ?_)
          · have hF := it_t hF h9
            refine lv_iconst (v := (-1)) hx hb d_Z_rate_48 (by decide) ?_
            obtain ⟨rfl, rfl⟩ := rt2 hF
            exact W.iret (v := (-1)) hx hb hr (fun t ht hW => ⟨⟨_, (), rfl, rfl, vp_at ht hP⟩, hS.F ht⟩) hS.2.2 d_Z_rate_49
          · have hF := it_f hF h9
            refine lv_iload hx hb d_Z_rate_33 (lv_at hl 4 rfl) ?_
            refine lv_if_lt (tgt := 48) hx hb d_Z_rate_35 (by decide) (fun h10 => ?_) (fun h10 => ?_)
            · have hF := it_t hF h10
              refine lv_iconst (v := (-1)) hx hb d_Z_rate_48 (by decide) ?_
              obtain ⟨rfl, rfl⟩ := rt2 hF
              exact W.iret (v := (-1)) hx hb hr (fun t ht hW => ⟨⟨_, (), rfl, rfl, vp_at ht hP⟩, hS.F ht⟩) hS.2.2 d_Z_rate_49
            · have hF := it_f hF h10
              refine lv_iload hx hb d_Z_rate_38 (lv_at hl 4 rfl) ?_
              refine lv_aload_n hx hb d_Z_rate_40 rfl (lv_at hl 0 rfl) ?_
              refine lv_iload_n hx hb d_Z_rate_41 rfl (lv_at hl 1 rfl) ?_
              obtain ⟨r11, h12, hF⟩ := bs_u hF
              refine k_vp (ad 14 0) [.int a1] [.int a4] ⟨hx, hb, hml, hown, hts⟩ (c_Z_open l D ad ca hD0 (z := z1) (u := u)  h12) (w_Z_open hts a_730 ⟨Nat.le_of_ble_eq_true rfl, Nat.le_of_ble_eq_true rfl⟩) (rv_Z hK hP (by decide)) hP hK rfl rfl hl.1 (Nat.le_of_ble_eq_true rfl) ⟨Nat.zero_le _, Nat.zero_le _⟩ d_Z_rate_42 ?_
              refine lv_icmp_le (tgt := 50) hx hb d_Z_rate_45 (by decide) (fun h13 => ?_) (fun h13 => ?_)
              · have hF := it_t hF h13
                refine lv_iconst (v := (-1)) hx hb d_Z_rate_50 (by decide) ?_
                refine lv_istore (lv' := [(5, .int (-1)), (0, .ref (ad 14 0)), (1, .int a1), (2, .int a2), (3, .int a3), (4, .int a4)]) hx hb d_Z_rate_51 hl (by decide) rfl (fun ls hl => ?_)
                refine lv_iconst (v := (-1)) hx hb d_Z_rate_53 (by decide) ?_
                refine lv_istore (lv' := [(6, .int (-1)), (5, .int (-1)), (0, .ref (ad 14 0)), (1, .int a1), (2, .int a2), (3, .int a3), (4, .int a4)]) hx hb d_Z_rate_54 hl (by decide) rfl (fun ls hl => ?_)
                refine lv_iconst (v := 0) hx hb d_Z_rate_56 (by decide) ?_
                refine lv_istore (lv' := [(7, .int 0), (6, .int (-1)), (5, .int (-1)), (0, .ref (ad 14 0)), (1, .int a1), (2, .int a2), (3, .int a3), (4, .int a4)]) hx hb d_Z_rate_57 hl (by decide) rfl (fun ls hl => ?_)
                exact lp_Z_rate_59 hx hb hr hts hown hlocks hml hK hD0 hD  200 z1 a1 a2 a3 a4 (-1) (-1) 0  r0 z0 hF _ _ _ hP hS (lv_sub hl [3, 4, 5, 6, 7, 2, 1, 0] rfl)
              · have hF := it_f hF h13
                refine lv_iconst (v := (-1)) hx hb d_Z_rate_48 (by decide) ?_
                obtain ⟨rfl, rfl⟩ := rt2 hF
                exact W.iret (v := (-1)) hx hb hr (fun t ht hW => ⟨⟨_, (), rfl, rfl, vp_at ht hP⟩, hS.F ht⟩) hS.2.2 d_Z_rate_49
