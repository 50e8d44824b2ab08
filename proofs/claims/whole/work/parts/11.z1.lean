def ws_Z_isOffice : List Cond := Cond.code y_Z_isOffice b_Z_isOffice 1 (some .boolean) :: ALL
theorem w_Z_isOffice {R : Room} {s : State} {args : Array Value} {own : String} {index : Nat} (hts : ∀ w ∈ ALL, w.before args s = true) (hlk : Cond.methodLink own index y_Z_isOffice ∈ ALL) (hR : (({ frames := 0, cells := 0, slots := 0, locals := 0 } : Room)).frames + 1 ≤ R.frames ∧ 8 + (1 + 11) + (({ frames := 0, cells := 0, slots := 0, locals := 0 } : Room)).locals ≤ R.locals) : CallB R s args own index y_Z_isOffice b_Z_isOffice 1 (some .boolean) ws_Z_isOffice ({ frames := 0, cells := 0, slots := 0, locals := 0 } : Room) 0 0 1 ∧ (Cond.static y_Z_isOffice).before args s = true := ⟨callB_of 1 hts (good_c a_693) rfl rfl rfl (hts _ a_8) (hts _ hlk) (by decide +kernel) hR, hts _ a_692⟩
theorem d_Z_isOffice_0 : decode b_Z_isOffice 0 = .ok (.iload_n 0, 1) := by decide +kernel
theorem d_Z_isOffice_1 : decode b_Z_isOffice 1 = .ok (.ifCond .lt 13, 3) := by decide +kernel
theorem d_Z_isOffice_4 : decode b_Z_isOffice 4 = .ok (.iload_n 0, 1) := by decide +kernel
theorem d_Z_isOffice_5 : decode b_Z_isOffice 5 = .ok (.bipush 27, 2) := by decide +kernel
theorem d_Z_isOffice_7 : decode b_Z_isOffice 7 = .ok (.if_icmp .ge 7, 3) := by decide +kernel
theorem d_Z_isOffice_10 : decode b_Z_isOffice 10 = .ok (.iconst 1, 1) := by decide +kernel
theorem d_Z_isOffice_11 : decode b_Z_isOffice 11 = .ok (.goto 4, 3) := by decide +kernel
theorem d_Z_isOffice_14 : decode b_Z_isOffice 14 = .ok (.iconst 0, 1) := by decide +kernel
theorem d_Z_isOffice_15 : decode b_Z_isOffice 15 = .ok (.ireturn, 1) := by decide +kernel
def F_Z_isOffice  (a1 : Int32) : Option (Int32) := (if a1 < 0 then some 0 else (if 27 ≤ a1 then some 0 else some 1))
set_option maxHeartbeats 4000000 in
set_option maxRecDepth 100000 in
theorem c_Z_isOffice (l : Launch) {a1 : Int32} {r0 : Int32}  (hF : F_Z_isOffice  a1 = some r0) : Met l y_Z_isOffice ws_Z_isOffice ({ frames := 0, cells := 0, slots := 0, locals := 0 } : Room) (va_Pc [.int a1] (fun _ => True)) (vp_Si (fun r => r = r0)) 0 0 (fun _ => False) := by
  refine Met.ofW (cc := b_Z_isOffice) (maxL := 1) (ret := (some .boolean)) (by decide +kernel) rfl ?_
  intro p e s m args below meth c s₁ B hml hv
  obtain ⟨rfl, -⟩ := hv
  have hx := B.exec
  have hb := B.bytes
  have hr := B.returns
  have hts : ∀ w ∈ ALL, w.before _ s = true := fun w h => atoms_spec (ws := ws_Z_isOffice) B.pre w (List.mem_cons_of_mem _ h)
  have hown : s.vm.findClass R_Z = some m.cls := findClass_of_methodNamed B.named
  have hlocks := B.notSynchronized
  have hS : va_S (fun _ => True) s.heap s.heap [] := va_S.rf
  have hN : ∀ q ∈ ([] : List Loc), (fun _ => False) q.base := fun _ h => absurd h List.not_mem_nil
  have hl := lv_entry ([.int a1]) (n := 1) (Nat.le_of_ble_eq_true rfl)
  rw [lg_entry_eq]
  generalize (lg_sl ([.int a1]) ++ List.replicate (1 - (lg_sl ([.int a1])).length) Slot.unset).toArray = ls at hl ⊢
  have hl : lv_has ls 1 [(0, .int a1)] := hl
  have hH : s.heap = s.heap := rfl
  unfold F_Z_isOffice at hF
  refine lv_iload_n hx hb d_Z_isOffice_0 rfl (lv_at hl 0 rfl) ?_
  refine lv_if_lt (tgt := 14) hx hb d_Z_isOffice_1 (by decide) (fun h1 => ?_) (fun h1 => ?_)
  · have hF := it_t hF h1
    refine lv_iconst (v := 0) hx hb d_Z_isOffice_14 (by decide) ?_
    have hF := rt1 hF
    subst hF
    exact W.zret (v := 0) hx hb hr rfl (fun t ht hW => ⟨_, rfl, rfl, ht.trans hH⟩) hN d_Z_isOffice_15
  · have hF := it_f hF h1
    refine lv_iload_n hx hb d_Z_isOffice_4 rfl (lv_at hl 0 rfl) ?_
    refine lv_bipush (v := 27) hx hb d_Z_isOffice_5 (by decide) ?_
    refine lv_icmp_ge (tgt := 14) hx hb d_Z_isOffice_7 (by decide) (fun h2 => ?_) (fun h2 => ?_)
    · have hF := it_t hF h2
      refine lv_iconst (v := 0) hx hb d_Z_isOffice_14 (by decide) ?_
      have hF := rt1 hF
      subst hF
      exact W.zret (v := 0) hx hb hr rfl (fun t ht hW => ⟨_, rfl, rfl, ht.trans hH⟩) hN d_Z_isOffice_15
    · have hF := it_f hF h2
      refine lv_iconst (v := 1) hx hb d_Z_isOffice_10 (by decide) ?_
      refine lv_goto (tgt := 15) hx hb d_Z_isOffice_11 (by decide) ?_
      have hF := rt1 hF
      subst hF
      exact W.zret (v := 1) hx hb hr rfl (fun t ht hW => ⟨_, rfl, rfl, ht.trans hH⟩) hN d_Z_isOffice_15
def ws_Z_draft : List Cond := Cond.code y_Z_draft b_Z_draft 3 (some .int) :: ALL
theorem w_Z_draft {R : Room} {s : State} {args : Array Value} {own : String} {index : Nat} (hts : ∀ w ∈ ALL, w.before args s = true) (hlk : Cond.methodLink own index y_Z_draft ∈ ALL) (hR : (({ frames := 1, cells := 0, slots := 0, locals := 20 } : Room)).frames + 1 ≤ R.frames ∧ 8 + (3 + 11) + (({ frames := 1, cells := 0, slots := 0, locals := 20 } : Room)).locals ≤ R.locals) : CallW R s args own R_Z index y_Z_draft b_Z_draft 3 (some .int) ws_Z_draft ({ frames := 1, cells := 0, slots := 0, locals := 20 } : Room) 0 0 2 := ⟨callB_of 2 hts (good_c a_690) rfl rfl rfl (hts _ a_8) (hts _ hlk) (by decide +kernel) hR, hts _ a_688, hts _ a_689⟩
theorem d_Z_draft_0 : decode b_Z_draft 0 = .ok (.aload_n 0, 1) := by decide +kernel
theorem d_Z_draft_1 : decode b_Z_draft 1 = .ok (.iconst 0, 1) := by decide +kernel
theorem d_Z_draft_2 : decode b_Z_draft 2 = .ok (.putfield 95, 3) := by decide +kernel
theorem d_Z_draft_5 : decode b_Z_draft 5 = .ok (.iload_n 1, 1) := by decide +kernel
theorem d_Z_draft_6 : decode b_Z_draft 6 = .ok (.invokestatic 122, 3) := by decide +kernel
theorem d_Z_draft_9 : decode b_Z_draft 9 = .ok (.ifCond .eq 32, 3) := by decide +kernel
theorem d_Z_draft_12 : decode b_Z_draft 12 = .ok (.iload_n 2, 1) := by decide +kernel
theorem d_Z_draft_13 : decode b_Z_draft 13 = .ok (.ifCond .lt 28, 3) := by decide +kernel
theorem d_Z_draft_16 : decode b_Z_draft 16 = .ok (.iload_n 2, 1) := by decide +kernel
theorem d_Z_draft_17 : decode b_Z_draft 17 = .ok (.sipush 999, 3) := by decide +kernel
theorem d_Z_draft_20 : decode b_Z_draft 20 = .ok (.if_icmp .gt 21, 3) := by decide +kernel
theorem d_Z_draft_23 : decode b_Z_draft 23 = .ok (.aload_n 0, 1) := by decide +kernel
theorem d_Z_draft_24 : decode b_Z_draft 24 = .ok (.getfield 22, 3) := by decide +kernel
theorem d_Z_draft_27 : decode b_Z_draft 27 = .ok (.iload_n 1, 1) := by decide +kernel
theorem d_Z_draft_28 : decode b_Z_draft 28 = .ok (.baload, 1) := by decide +kernel
theorem d_Z_draft_29 : decode b_Z_draft 29 = .ok (.ifCond .ne 12, 3) := by decide +kernel
theorem d_Z_draft_32 : decode b_Z_draft 32 = .ok (.aload_n 0, 1) := by decide +kernel
theorem d_Z_draft_33 : decode b_Z_draft 33 = .ok (.getfield 125, 3) := by decide +kernel
theorem d_Z_draft_36 : decode b_Z_draft 36 = .ok (.bipush 40, 2) := by decide +kernel
theorem d_Z_draft_38 : decode b_Z_draft 38 = .ok (.if_icmp .ne 5, 3) := by decide +kernel
theorem d_Z_draft_41 : decode b_Z_draft 41 = .ok (.iconst (-1), 1) := by decide +kernel
theorem d_Z_draft_42 : decode b_Z_draft 42 = .ok (.ireturn, 1) := by decide +kernel
theorem d_Z_draft_43 : decode b_Z_draft 43 = .ok (.aload_n 0, 1) := by decide +kernel
theorem d_Z_draft_44 : decode b_Z_draft 44 = .ok (.getfield 7, 3) := by decide +kernel
theorem d_Z_draft_47 : decode b_Z_draft 47 = .ok (.aload_n 0, 1) := by decide +kernel
theorem d_Z_draft_48 : decode b_Z_draft 48 = .ok (.getfield 125, 3) := by decide +kernel
theorem d_Z_draft_51 : decode b_Z_draft 51 = .ok (.iload_n 2, 1) := by decide +kernel
theorem d_Z_draft_52 : decode b_Z_draft 52 = .ok (.iastore, 1) := by decide +kernel
theorem d_Z_draft_53 : decode b_Z_draft 53 = .ok (.aload_n 0, 1) := by decide +kernel
theorem d_Z_draft_54 : decode b_Z_draft 54 = .ok (.getfield 13, 3) := by decide +kernel
theorem d_Z_draft_57 : decode b_Z_draft 57 = .ok (.aload_n 0, 1) := by decide +kernel
theorem d_Z_draft_58 : decode b_Z_draft 58 = .ok (.getfield 125, 3) := by decide +kernel
theorem d_Z_draft_61 : decode b_Z_draft 61 = .ok (.iconst 0, 1) := by decide +kernel
theorem d_Z_draft_62 : decode b_Z_draft 62 = .ok (.iastore, 1) := by decide +kernel
theorem d_Z_draft_63 : decode b_Z_draft 63 = .ok (.aload_n 0, 1) := by decide +kernel
theorem d_Z_draft_64 : decode b_Z_draft 64 = .ok (.aload_n 0, 1) := by decide +kernel
theorem d_Z_draft_65 : decode b_Z_draft 65 = .ok (.getfield 125, 3) := by decide +kernel
theorem d_Z_draft_68 : decode b_Z_draft 68 = .ok (.iconst 1, 1) := by decide +kernel
theorem d_Z_draft_69 : decode b_Z_draft 69 = .ok (.iadd, 1) := by decide +kernel
theorem d_Z_draft_70 : decode b_Z_draft 70 = .ok (.putfield 125, 3) := by decide +kernel
theorem d_Z_draft_73 : decode b_Z_draft 73 = .ok (.aload_n 0, 1) := by decide +kernel
theorem d_Z_draft_74 : decode b_Z_draft 74 = .ok (.getfield 26, 3) := by decide +kernel
theorem d_Z_draft_77 : decode b_Z_draft 77 = .ok (.iload_n 1, 1) := by decide +kernel
theorem d_Z_draft_78 : decode b_Z_draft 78 = .ok (.aload_n 0, 1) := by decide +kernel
theorem d_Z_draft_79 : decode b_Z_draft 79 = .ok (.getfield 125, 3) := by decide +kernel
theorem d_Z_draft_82 : decode b_Z_draft 82 = .ok (.iastore, 1) := by decide +kernel
theorem d_Z_draft_83 : decode b_Z_draft 83 = .ok (.aload_n 0, 1) := by decide +kernel
theorem d_Z_draft_84 : decode b_Z_draft 84 = .ok (.getfield 125, 3) := by decide +kernel
theorem d_Z_draft_87 : decode b_Z_draft 87 = .ok (.iconst 1, 1) := by decide +kernel
theorem d_Z_draft_88 : decode b_Z_draft 88 = .ok (.isub, 1) := by decide +kernel
theorem d_Z_draft_89 : decode b_Z_draft 89 = .ok (.ireturn, 1) := by decide +kernel
def F_Z_draft (z : ZW) (a1 : Int32) (a2 : Int32) : Option (Int32 × ZW) := (nm_ (pz z 0 0 0) fun z1 => (bs_ (F_Z_isOffice a1) fun r3 => (if r3 = 0 then some ((-1), z1) else (if a2 < 0 then some ((-1), z1) else (if 999 < a2 then some ((-1), z1) else (if 0 ≤ a1 ∧ (a1).toNatClampNeg < 27 then (if (z1.1 5 (a1).toNatClampNeg) = 0 then (if (z1.1 0 1) = 40 then some ((-1), z1) else (if 0 ≤ (z1.1 0 1) ∧ ((z1.1 0 1)).toNatClampNeg < 40 then (nm_ (pz z1 1 ((z1.1 0 1)).toNatClampNeg a2) fun z12 => (if 0 ≤ (z12.1 0 1) ∧ ((z12.1 0 1)).toNatClampNeg < 40 then (nm_ (pz z12 2 ((z12.1 0 1)).toNatClampNeg 0) fun z15 => (nm_ (pz z15 0 1 ((z15.1 0 1) + 1)) fun z17 => (if 0 ≤ a1 ∧ (a1).toNatClampNeg < 27 then (nm_ (pz z17 6 (a1).toNatClampNeg (z17.1 0 1)) fun z20 => some (((z20.1 0 1) - 1), z20)) else none))) else none)) else none)) else some ((-1), z1)) else none))))))
set_option maxHeartbeats 4000000 in
set_option maxRecDepth 100000 in
theorem c_Z_draft (l : Launch) (D : va_G) (ad : Nat → Nat → Nat) (ca : Nat → ClassId) (hD0 : ∀ z u, va_D (AH ad) (wh ad ca z u)) {z : ZW} {u : XC} {a1 : Int32} {a2 : Int32} {r0 : Int32} {z0 : ZW}  (hF : F_Z_draft z a1 a2 = some (r0, z0)) : Met l y_Z_draft ws_Z_draft ({ frames := 1, cells := 0, slots := 0, locals := 20 } : Room) (va_Pc [.ref (ad 14 0), .int a1, .int a2] (fun U => va_P D CLS (wh ad ca z u) U.heap ∧ va_K D CLS (TYH ca) U)) (va_Qi (fun (r : Int32) (_ : Unit) => r = r0) (fun _ t => va_P D CLS (wh ad ca z0 u) t.heap) (AH ad)) 0 0 (AH ad) := by
  refine Met.ofW (cc := b_Z_draft) (maxL := 3) (ret := (some .int)) (by decide +kernel) rfl ?_
  intro p e s m args below meth c s₁ B hml hv
  obtain ⟨rfl, hP, hK⟩ := hv
  have hx := B.exec
  have hb := B.bytes
  have hr := B.returns
  have hts : ∀ w ∈ ALL, w.before _ s = true := fun w h => atoms_spec (ws := ws_Z_draft) B.pre w (List.mem_cons_of_mem _ h)
  have hown : s.vm.findClass R_Z = some m.cls := findClass_of_methodNamed B.named
  have hlocks := B.notSynchronized
  have hD := hD0
  have hS : va_S (AH ad) s.heap s.heap [] := va_S.rf
  have hP : va_P D CLS (wh ad ca z u) s.heap := hP
  have hl := lv_entry ([.ref (ad 14 0), .int a1, .int a2]) (n := 3) (Nat.le_of_ble_eq_true rfl)
  rw [lg_entry_eq]
  generalize (lg_sl ([.ref (ad 14 0), .int a1, .int a2]) ++ List.replicate (3 - (lg_sl ([.ref (ad 14 0), .int a1, .int a2])).length) Slot.unset).toArray = ls at hl ⊢
  have hl : lv_has ls 3 [(0, .ref (ad 14 0)), (1, .int a1), (2, .int a2)] := hl
  unfold F_Z_draft at hF
  refine lv_aload_n hx hb d_Z_draft_0 rfl (lv_at hl 0 rfl) ?_
  refine lv_iconst (v := 0) hx hb d_Z_draft_1 (by decide) ?_
  obtain ⟨z1, h2, hF⟩ := nm_u hF
  refine pf_Z_0 hx hb hts hown hK hP hD hS (by decide) h2 a_558 d_Z_draft_2 (fun H locs hP hS => ?_)
  refine lv_iload_n hx hb d_Z_draft_5 rfl (lv_at hl 1 rfl) ?_
  obtain ⟨r3, h4, hF⟩ := bs_u hF
  refine k_sp [.int a1] [] ⟨hx, hb, hml, hown, hts⟩ (c_Z_isOffice l  h4) (w_Z_isOffice hts a_691 ⟨Nat.le_of_ble_eq_true rfl, Nat.le_of_ble_eq_true rfl⟩) rfl rfl hl.1 (Nat.le_of_ble_eq_true rfl) ⟨Nat.zero_le _, Nat.zero_le _⟩ d_Z_draft_6 ?_
  refine lv_if_eq (tgt := 41) hx hb d_Z_draft_9 (by decide) (fun h5 => ?_) (fun h5 => ?_)
  · have hF := it_t hF h5
    refine lv_iconst (v := (-1)) hx hb d_Z_draft_41 (by decide) ?_
    obtain ⟨rfl, rfl⟩ := rt2 hF
    exact W.iret (v := (-1)) hx hb hr (fun t ht hW => ⟨⟨_, (), rfl, rfl, vp_at ht hP⟩, hS.F ht⟩) hS.2.2 d_Z_draft_42
  · have hF := it_f hF h5
    refine lv_iload_n hx hb d_Z_draft_12 rfl (lv_at hl 2 rfl) ?_
    refine lv_if_lt (tgt := 41) hx hb d_Z_draft_13 (by decide) (fun h6 => ?_) (fun h6 => ?_)
    · have hF := it_t hF h6
      refine lv_iconst (v := (-1)) hx hb d_Z_draft_41 (by decide) ?_
      obtain ⟨rfl, rfl⟩ := rt2 hF
      exact W.iret (v := (-1)) hx hb hr (fun t ht hW => ⟨⟨_, (), rfl, rfl, vp_at ht hP⟩, hS.F ht⟩) hS.2.2 d_Z_draft_42
    · have hF := it_f hF h6
      refine lv_iload_n hx hb d_Z_draft_16 rfl (lv_at hl 2 rfl) ?_
      refine lv_sipush (v := 999) hx hb d_Z_draft_17 (by decide) ?_
      refine lv_icmp_gt (tgt := 41) hx hb d_Z_draft_20 (by decide) (fun h7 => ?_) (fun h7 => ?_)
      · have hF := it_t hF h7
        refine lv_iconst (v := (-1)) hx hb d_Z_draft_41 (by decide) ?_
        obtain ⟨rfl, rfl⟩ := rt2 hF
        exact W.iret (v := (-1)) hx hb hr (fun t ht hW => ⟨⟨_, (), rfl, rfl, vp_at ht hP⟩, hS.F ht⟩) hS.2.2 d_Z_draft_42
      · have hF := it_f hF h7
        refine lv_aload_n hx hb d_Z_draft_23 rfl (lv_at hl 0 rfl) ?_
        refine gf_Z_6 hx hb hts hown hK hP (by decide) a_564 d_Z_draft_24 ?_
        refine lv_iload_n hx hb d_Z_draft_27 rfl (lv_at hl 1 rfl) ?_
        obtain ⟨h8, hF⟩ := as_u hF
        refine l_zb hx hb hK hP 5 27 rfl rfl h8 d_Z_draft_28 ?_
        refine lv_if_ne (tgt := 41) hx hb d_Z_draft_29 (by decide) (fun h9 => ?_) (fun h9 => ?_)
        · have hF := it_f hF h9
          refine lv_iconst (v := (-1)) hx hb d_Z_draft_41 (by decide) ?_
          obtain ⟨rfl, rfl⟩ := rt2 hF
          exact W.iret (v := (-1)) hx hb hr (fun t ht hW => ⟨⟨_, (), rfl, rfl, vp_at ht hP⟩, hS.F ht⟩) hS.2.2 d_Z_draft_42
        · have hF := it_t hF h9
          refine lv_aload_n hx hb d_Z_draft_32 rfl (lv_at hl 0 rfl) ?_
          refine gf_Z_1 hx hb hts hown hK hP (by decide) a_559 d_Z_draft_33 ?_
          refine lv_bipush (v := 40) hx hb d_Z_draft_36 (by decide) ?_
          refine lv_icmp_ne (tgt := 43) hx hb d_Z_draft_38 (by decide) (fun h10 => ?_) (fun h10 => ?_)
          · have hF := it_f hF h10
            refine lv_aload_n hx hb d_Z_draft_43 rfl (lv_at hl 0 rfl) ?_
            refine gf_Z_2 hx hb hts hown hK hP (by decide) a_560 d_Z_draft_44 ?_
            refine lv_aload_n hx hb d_Z_draft_47 rfl (lv_at hl 0 rfl) ?_
            refine gf_Z_1 hx hb hts hown hK hP (by decide) a_559 d_Z_draft_48 ?_
            refine lv_iload_n hx hb d_Z_draft_51 rfl (lv_at hl 2 rfl) ?_
            obtain ⟨h11, hF⟩ := as_u hF
            obtain ⟨z12, h13, hF⟩ := nm_u hF
            refine s_zi hx hb hK hP 1 40 hD hS ⟨by decide, by decide, by decide⟩ rfl h11 h13 d_Z_draft_52 (fun H locs hP hS => ?_)
            refine lv_aload_n hx hb d_Z_draft_53 rfl (lv_at hl 0 rfl) ?_
            refine gf_Z_3 hx hb hts hown hK hP (by decide) a_561 d_Z_draft_54 ?_
            refine lv_aload_n hx hb d_Z_draft_57 rfl (lv_at hl 0 rfl) ?_
            refine gf_Z_1 hx hb hts hown hK hP (by decide) a_559 d_Z_draft_58 ?_
            refine lv_iconst (v := 0) hx hb d_Z_draft_61 (by decide) ?_
            obtain ⟨h14, hF⟩ := as_u hF
            obtain ⟨z15, h16, hF⟩ := nm_u hF
            refine s_zi hx hb hK hP 2 40 hD hS ⟨by decide, by decide, by decide⟩ rfl h14 h16 d_Z_draft_62 (fun H locs hP hS => ?_)
            refine lv_aload_n hx hb d_Z_draft_63 rfl (lv_at hl 0 rfl) ?_
            refine lv_aload_n hx hb d_Z_draft_64 rfl (lv_at hl 0 rfl) ?_
            refine gf_Z_1 hx hb hts hown hK hP (by decide) a_559 d_Z_draft_65 ?_
            refine lv_iconst (v := 1) hx hb d_Z_draft_68 (by decide) ?_
            refine lv_iadd hx hb d_Z_draft_69 ?_
            obtain ⟨z17, h18, hF⟩ := nm_u hF
            refine pf_Z_1 hx hb hts hown hK hP hD hS (by decide) h18 a_559 d_Z_draft_70 (fun H locs hP hS => ?_)
            refine lv_aload_n hx hb d_Z_draft_73 rfl (lv_at hl 0 rfl) ?_
            refine gf_Z_7 hx hb hts hown hK hP (by decide) a_565 d_Z_draft_74 ?_
            refine lv_iload_n hx hb d_Z_draft_77 rfl (lv_at hl 1 rfl) ?_
            refine lv_aload_n hx hb d_Z_draft_78 rfl (lv_at hl 0 rfl) ?_
            refine gf_Z_1 hx hb hts hown hK hP (by decide) a_559 d_Z_draft_79 ?_
            obtain ⟨h19, hF⟩ := as_u hF
            obtain ⟨z20, h21, hF⟩ := nm_u hF
            refine s_zi hx hb hK hP 6 27 hD hS ⟨by decide, by decide, by decide⟩ rfl h19 h21 d_Z_draft_82 (fun H locs hP hS => ?_)
            refine lv_aload_n hx hb d_Z_draft_83 rfl (lv_at hl 0 rfl) ?_
            refine gf_Z_1 hx hb hts hown hK hP (by decide) a_559 d_Z_draft_84 ?_
            refine lv_iconst (v := 1) hx hb d_Z_draft_87 (by decide) ?_
            refine lv_isub hx hb d_Z_draft_88 ?_
            obtain ⟨rfl, rfl⟩ := rt2 hF
            exact W.iret (v := ((z20.1 0 1) - 1)) hx hb hr (fun t ht hW => ⟨⟨_, (), rfl, rfl, vp_at ht hP⟩, hS.F ht⟩) hS.2.2 d_Z_draft_89
          · have hF := it_t hF h10
            refine lv_iconst (v := (-1)) hx hb d_Z_draft_41 (by decide) ?_
            obtain ⟨rfl, rfl⟩ := rt2 hF
            exact W.iret (v := (-1)) hx hb hr (fun t ht hW => ⟨⟨_, (), rfl, rfl, vp_at ht hP⟩, hS.F ht⟩) hS.2.2 d_Z_draft_42
def ws_Z_line : List Cond := Cond.code y_Z_line b_Z_line 7 (some .boolean) :: ALL
theorem w_Z_line {R : Room} {s : State} {args : Array Value} {own : String} {index : Nat} (hts : ∀ w ∈ ALL, w.before args s = true) (hlk : Cond.methodLink own index y_Z_line ∈ ALL) (hR : (({ frames := 1, cells := 0, slots := 0, locals := 20 } : Room)).frames + 1 ≤ R.frames ∧ 8 + (7 + 11) + (({ frames := 1, cells := 0, slots := 0, locals := 20 } : Room)).locals ≤ R.locals) : CallW R s args own R_Z index y_Z_line b_Z_line 7 (some .boolean) ws_Z_line ({ frames := 1, cells := 0, slots := 0, locals := 20 } : Room) 0 0 3 := ⟨callB_of 3 hts (good_c a_697) rfl rfl rfl (hts _ a_8) (hts _ hlk) (by decide +kernel) hR, hts _ a_695, hts _ a_696⟩
theorem d_Z_line_0 : decode b_Z_line 0 = .ok (.aload_n 0, 1) := by decide +kernel
theorem d_Z_line_1 : decode b_Z_line 1 = .ok (.iconst 0, 1) := by decide +kernel
theorem d_Z_line_2 : decode b_Z_line 2 = .ok (.putfield 95, 3) := by decide +kernel
theorem d_Z_line_5 : decode b_Z_line 5 = .ok (.iload_n 1, 1) := by decide +kernel
theorem d_Z_line_6 : decode b_Z_line 6 = .ok (.invokestatic 122, 3) := by decide +kernel
theorem d_Z_line_9 : decode b_Z_line 9 = .ok (.ifCond .eq 33, 3) := by decide +kernel
theorem d_Z_line_12 : decode b_Z_line 12 = .ok (.aload_n 0, 1) := by decide +kernel
theorem d_Z_line_13 : decode b_Z_line 13 = .ok (.getfield 26, 3) := by decide +kernel
theorem d_Z_line_16 : decode b_Z_line 16 = .ok (.iload_n 1, 1) := by decide +kernel
theorem d_Z_line_17 : decode b_Z_line 17 = .ok (.iaload, 1) := by decide +kernel
theorem d_Z_line_18 : decode b_Z_line 18 = .ok (.ifCond .eq 24, 3) := by decide +kernel
theorem d_Z_line_21 : decode b_Z_line 21 = .ok (.iload_n 2, 1) := by decide +kernel
theorem d_Z_line_22 : decode b_Z_line 22 = .ok (.ifCond .lt 20, 3) := by decide +kernel
theorem d_Z_line_25 : decode b_Z_line 25 = .ok (.iload_n 2, 1) := by decide +kernel
theorem d_Z_line_26 : decode b_Z_line 26 = .ok (.bipush 9, 2) := by decide +kernel
theorem d_Z_line_28 : decode b_Z_line 28 = .ok (.if_icmp .gt 14, 3) := by decide +kernel
theorem d_Z_line_31 : decode b_Z_line 31 = .ok (.iload_n 3, 1) := by decide +kernel
theorem d_Z_line_32 : decode b_Z_line 32 = .ok (.ifCond .lt 10, 3) := by decide +kernel
theorem d_Z_line_35 : decode b_Z_line 35 = .ok (.iload_n 3, 1) := by decide +kernel
theorem d_Z_line_36 : decode b_Z_line 36 = .ok (.sipush 9999, 3) := by decide +kernel
theorem d_Z_line_39 : decode b_Z_line 39 = .ok (.if_icmp .le 5, 3) := by decide +kernel
theorem d_Z_line_42 : decode b_Z_line 42 = .ok (.iconst 0, 1) := by decide +kernel
theorem d_Z_line_43 : decode b_Z_line 43 = .ok (.ireturn, 1) := by decide +kernel
theorem d_Z_line_44 : decode b_Z_line 44 = .ok (.aload_n 0, 1) := by decide +kernel
theorem d_Z_line_45 : decode b_Z_line 45 = .ok (.getfield 26, 3) := by decide +kernel
theorem d_Z_line_48 : decode b_Z_line 48 = .ok (.iload_n 1, 1) := by decide +kernel
theorem d_Z_line_49 : decode b_Z_line 49 = .ok (.iaload, 1) := by decide +kernel
theorem d_Z_line_50 : decode b_Z_line 50 = .ok (.iconst 1, 1) := by decide +kernel
theorem d_Z_line_51 : decode b_Z_line 51 = .ok (.isub, 1) := by decide +kernel
theorem d_Z_line_52 : decode b_Z_line 52 = .ok (.istore 4, 2) := by decide +kernel
theorem d_Z_line_54 : decode b_Z_line 54 = .ok (.iconst 0, 1) := by decide +kernel
theorem d_Z_line_55 : decode b_Z_line 55 = .ok (.istore 5, 2) := by decide +kernel
theorem d_Z_line_57 : decode b_Z_line 57 = .ok (.iconst 0, 1) := by decide +kernel
theorem d_Z_line_58 : decode b_Z_line 58 = .ok (.istore 6, 2) := by decide +kernel
theorem d_Z_line_60 : decode b_Z_line 60 = .ok (.iload 6, 2) := by decide +kernel
theorem d_Z_line_62 : decode b_Z_line 62 = .ok (.aload_n 0, 1) := by decide +kernel
theorem d_Z_line_63 : decode b_Z_line 63 = .ok (.getfield 13, 3) := by decide +kernel
theorem d_Z_line_66 : decode b_Z_line 66 = .ok (.iload 4, 2) := by decide +kernel
theorem d_Z_line_68 : decode b_Z_line 68 = .ok (.iaload, 1) := by decide +kernel
theorem d_Z_line_69 : decode b_Z_line 69 = .ok (.if_icmp .ge 37, 3) := by decide +kernel
theorem d_Z_line_72 : decode b_Z_line 72 = .ok (.iload 5, 2) := by decide +kernel
theorem d_Z_line_74 : decode b_Z_line 74 = .ok (.ifCond .ne 19, 3) := by decide +kernel
theorem d_Z_line_77 : decode b_Z_line 77 = .ok (.aload_n 0, 1) := by decide +kernel
theorem d_Z_line_78 : decode b_Z_line 78 = .ok (.getfield 16, 3) := by decide +kernel
theorem d_Z_line_81 : decode b_Z_line 81 = .ok (.iconst 4, 1) := by decide +kernel
theorem d_Z_line_82 : decode b_Z_line 82 = .ok (.iload 4, 2) := by decide +kernel
theorem d_Z_line_84 : decode b_Z_line 84 = .ok (.imul, 1) := by decide +kernel
theorem d_Z_line_85 : decode b_Z_line 85 = .ok (.iload 6, 2) := by decide +kernel
theorem d_Z_line_87 : decode b_Z_line 87 = .ok (.iadd, 1) := by decide +kernel
theorem d_Z_line_88 : decode b_Z_line 88 = .ok (.iaload, 1) := by decide +kernel
theorem d_Z_line_89 : decode b_Z_line 89 = .ok (.iload_n 2, 1) := by decide +kernel
theorem d_Z_line_90 : decode b_Z_line 90 = .ok (.if_icmp .ne 7, 3) := by decide +kernel
theorem d_Z_line_93 : decode b_Z_line 93 = .ok (.iconst 1, 1) := by decide +kernel
theorem d_Z_line_94 : decode b_Z_line 94 = .ok (.goto 4, 3) := by decide +kernel
theorem d_Z_line_97 : decode b_Z_line 97 = .ok (.iconst 0, 1) := by decide +kernel
theorem d_Z_line_98 : decode b_Z_line 98 = .ok (.istore 5, 2) := by decide +kernel
theorem d_Z_line_100 : decode b_Z_line 100 = .ok (.iinc 6 1, 3) := by decide +kernel
theorem d_Z_line_103 : decode b_Z_line 103 = .ok (.goto (-43), 3) := by decide +kernel
theorem d_Z_line_106 : decode b_Z_line 106 = .ok (.iload 5, 2) := by decide +kernel
theorem d_Z_line_108 : decode b_Z_line 108 = .ok (.ifCond .ne 14, 3) := by decide +kernel
theorem d_Z_line_111 : decode b_Z_line 111 = .ok (.aload_n 0, 1) := by decide +kernel
theorem d_Z_line_112 : decode b_Z_line 112 = .ok (.getfield 13, 3) := by decide +kernel
theorem d_Z_line_115 : decode b_Z_line 115 = .ok (.iload 4, 2) := by decide +kernel
theorem d_Z_line_117 : decode b_Z_line 117 = .ok (.iaload, 1) := by decide +kernel
theorem d_Z_line_118 : decode b_Z_line 118 = .ok (.iconst 4, 1) := by decide +kernel
theorem d_Z_line_119 : decode b_Z_line 119 = .ok (.if_icmp .ne 5, 3) := by decide +kernel
theorem d_Z_line_122 : decode b_Z_line 122 = .ok (.iconst 0, 1) := by decide +kernel
theorem d_Z_line_123 : decode b_Z_line 123 = .ok (.ireturn, 1) := by decide +kernel
theorem d_Z_line_124 : decode b_Z_line 124 = .ok (.aload_n 0, 1) := by decide +kernel
theorem d_Z_line_125 : decode b_Z_line 125 = .ok (.getfield 16, 3) := by decide +kernel
theorem d_Z_line_128 : decode b_Z_line 128 = .ok (.iconst 4, 1) := by decide +kernel
theorem d_Z_line_129 : decode b_Z_line 129 = .ok (.iload 4, 2) := by decide +kernel
theorem d_Z_line_131 : decode b_Z_line 131 = .ok (.imul, 1) := by decide +kernel
theorem d_Z_line_132 : decode b_Z_line 132 = .ok (.aload_n 0, 1) := by decide +kernel
theorem d_Z_line_133 : decode b_Z_line 133 = .ok (.getfield 13, 3) := by decide +kernel
theorem d_Z_line_136 : decode b_Z_line 136 = .ok (.iload 4, 2) := by decide +kernel
theorem d_Z_line_138 : decode b_Z_line 138 = .ok (.iaload, 1) := by decide +kernel
theorem d_Z_line_139 : decode b_Z_line 139 = .ok (.iadd, 1) := by decide +kernel
theorem d_Z_line_140 : decode b_Z_line 140 = .ok (.iload_n 2, 1) := by decide +kernel
theorem d_Z_line_141 : decode b_Z_line 141 = .ok (.iastore, 1) := by decide +kernel
theorem d_Z_line_142 : decode b_Z_line 142 = .ok (.aload_n 0, 1) := by decide +kernel
theorem d_Z_line_143 : decode b_Z_line 143 = .ok (.getfield 19, 3) := by decide +kernel
theorem d_Z_line_146 : decode b_Z_line 146 = .ok (.iconst 4, 1) := by decide +kernel
theorem d_Z_line_147 : decode b_Z_line 147 = .ok (.iload 4, 2) := by decide +kernel
theorem d_Z_line_149 : decode b_Z_line 149 = .ok (.imul, 1) := by decide +kernel
theorem d_Z_line_150 : decode b_Z_line 150 = .ok (.aload_n 0, 1) := by decide +kernel
theorem d_Z_line_151 : decode b_Z_line 151 = .ok (.getfield 13, 3) := by decide +kernel
theorem d_Z_line_154 : decode b_Z_line 154 = .ok (.iload 4, 2) := by decide +kernel
theorem d_Z_line_156 : decode b_Z_line 156 = .ok (.iaload, 1) := by decide +kernel
theorem d_Z_line_157 : decode b_Z_line 157 = .ok (.iadd, 1) := by decide +kernel
theorem d_Z_line_158 : decode b_Z_line 158 = .ok (.iload_n 3, 1) := by decide +kernel
theorem d_Z_line_159 : decode b_Z_line 159 = .ok (.iastore, 1) := by decide +kernel
theorem d_Z_line_160 : decode b_Z_line 160 = .ok (.aload_n 0, 1) := by decide +kernel
theorem d_Z_line_161 : decode b_Z_line 161 = .ok (.getfield 13, 3) := by decide +kernel
theorem d_Z_line_164 : decode b_Z_line 164 = .ok (.iload 4, 2) := by decide +kernel
theorem d_Z_line_166 : decode b_Z_line 166 = .ok (.aload_n 0, 1) := by decide +kernel
theorem d_Z_line_167 : decode b_Z_line 167 = .ok (.getfield 13, 3) := by decide +kernel
theorem d_Z_line_170 : decode b_Z_line 170 = .ok (.iload 4, 2) := by decide +kernel
theorem d_Z_line_172 : decode b_Z_line 172 = .ok (.iaload, 1) := by decide +kernel
theorem d_Z_line_173 : decode b_Z_line 173 = .ok (.iconst 1, 1) := by decide +kernel
theorem d_Z_line_174 : decode b_Z_line 174 = .ok (.iadd, 1) := by decide +kernel
theorem d_Z_line_175 : decode b_Z_line 175 = .ok (.iastore, 1) := by decide +kernel
theorem d_Z_line_176 : decode b_Z_line 176 = .ok (.iconst 1, 1) := by decide +kernel
theorem d_Z_line_177 : decode b_Z_line 177 = .ok (.ireturn, 1) := by decide +kernel
def Fj_Z_line_106  (z : ZW) (x2 : Int32) (x3 : Int32) (x4 : Int32) (x5 : Int32) : Option (Int32 × ZW) := (if x5 = 0 then (if 0 ≤ x4 ∧ (x4).toNatClampNeg < 40 then (if (z.1 2 (x4).toNatClampNeg) = 4 then some (0, z) else (if 0 ≤ x4 ∧ (x4).toNatClampNeg < 40 then (if 0 ≤ ((4 * x4) + (z.1 2 (x4).toNatClampNeg)) ∧ (((4 * x4) + (z.1 2 (x4).toNatClampNeg))).toNatClampNeg < 160 then (nm_ (pz z 3 (((4 * x4) + (z.1 2 (x4).toNatClampNeg))).toNatClampNeg x2) fun z20 => (if 0 ≤ x4 ∧ (x4).toNatClampNeg < 40 then (if 0 ≤ ((4 * x4) + (z20.1 2 (x4).toNatClampNeg)) ∧ (((4 * x4) + (z20.1 2 (x4).toNatClampNeg))).toNatClampNeg < 160 then (nm_ (pz z20 4 (((4 * x4) + (z20.1 2 (x4).toNatClampNeg))).toNatClampNeg x3) fun z24 => (if 0 ≤ x4 ∧ (x4).toNatClampNeg < 40 then (if 0 ≤ x4 ∧ (x4).toNatClampNeg < 40 then (nm_ (pz z24 2 (x4).toNatClampNeg ((z24.1 2 (x4).toNatClampNeg) + 1)) fun z28 => some (1, z28)) else none) else none)) else none) else none)) else none) else none)) else none) else some (0, z))
def Fl_Z_line_60  : Nat → ZW → Int32 → Int32 → Int32 → Int32 → Int32 → Option (Int32 × ZW)
  | 0, _, _, _, _, _, _ => none
  | n + 1, z, x2, x3, x4, x5, x6 => (if 0 ≤ x4 ∧ (x4).toNatClampNeg < 40 then (if (z.1 2 (x4).toNatClampNeg) ≤ x6 then Fj_Z_line_106  z x2 x3 x4 x5 else (if x5 = 0 then (if 0 ≤ ((4 * x4) + x6) ∧ (((4 * x4) + x6)).toNatClampNeg < 160 then (if (z.1 3 (((4 * x4) + x6)).toNatClampNeg) = x2 then (Fl_Z_line_60 n) z x2 x3 x4 1 (x6 + 1) else (Fl_Z_line_60 n) z x2 x3 x4 0 (x6 + 1)) else none) else (Fl_Z_line_60 n) z x2 x3 x4 1 (x6 + 1))) else none)
def F_Z_line (z : ZW) (a1 : Int32) (a2 : Int32) (a3 : Int32) : Option (Int32 × ZW) := (nm_ (pz z 0 0 0) fun z1 => (bs_ (F_Z_isOffice a1) fun r3 => (if r3 = 0 then some (0, z1) else (if 0 ≤ a1 ∧ (a1).toNatClampNeg < 27 then (if (z1.1 6 (a1).toNatClampNeg) = 0 then some (0, z1) else (if a2 < 0 then some (0, z1) else (if 9 < a2 then some (0, z1) else (if a3 < 0 then some (0, z1) else (if a3 ≤ 9999 then (if 0 ≤ a1 ∧ (a1).toNatClampNeg < 27 then Fl_Z_line_60  200 z1 a2 a3 ((z1.1 6 (a1).toNatClampNeg) - 1) 0 0 else none) else some (0, z1)))))) else none))))
set_option maxHeartbeats 4000000 in
set_option maxRecDepth 100000 in
theorem jn_Z_line_106 {p : Program} {l : Launch} {e : Env} {s : State} {m : MethodId} {args : Array Value} {below : List Frame} {meth : Method} {c : Code} {D : va_G} {ad : Nat → Nat → Nat} {ca : Nat → ClassId} {u : XC} (hx : p.tables.exec = Jvm.exec) (hb : c.code = b_Z_line) (hr : meth.sig.returnType = (some .boolean)) (hts : ∀ w ∈ ALL, w.before args s = true) (hown : s.vm.findClass R_Z = some m.cls) (hlocks : meth.locks = false) (hml : c.maxLocals = 7) (hK : va_K D CLS (TYH ca) s) (hD0 : ∀ z u, va_D (AH ad) (wh ad ca z u)) (hD : ∀ z u, va_D (AH ad) (wh ad ca z u))  : ∀ (z : ZW) (x2 : Int32) (x3 : Int32) (x4 : Int32) (x5 : Int32)  (r0 : Int32) (z0 : ZW), Fj_Z_line_106  z x2 x3 x4 x5 = some (r0, z0) → ∀ (H : Heap) (locs : List Loc) (ls : Array Slot), va_P D CLS (wh ad ca z u) H → va_S (AH ad) s.heap H locs → lv_has ls 7 [(0, .ref (ad 14 0)), (2, .int x2), (3, .int x3), (4, .int x4), (5, .int x5)] → W p l e ({ frames := 1, cells := 0, slots := 0, locals := 20 } : Room) s m args below meth c H locs 0 0 (MQ below (va_Qi (fun (r : Int32) (_ : Unit) => r = r0) (fun _ t => va_P D CLS (wh ad ca z0 u) t.heap) (AH ad)) args s 0 0 (AH ad)) (F0 m 106 ls []) := by
  intro z x2 x3 x4 x5 r0 z0 hF H locs ls hP hS hl
  unfold Fj_Z_line_106 at hF
  refine lv_iload hx hb d_Z_line_106 (lv_at hl 4 rfl) ?_
  refine lv_if_ne (tgt := 122) hx hb d_Z_line_108 (by decide) (fun h15 => ?_) (fun h15 => ?_)
  · have hF := it_f hF h15
    refine lv_iconst (v := 0) hx hb d_Z_line_122 (by decide) ?_
    obtain ⟨rfl, rfl⟩ := rt2 hF
    exact W.zret (v := 0) hx hb hr rfl (fun t ht hW => ⟨⟨_, (), rfl, rfl, vp_at ht hP⟩, hS.F ht⟩) hS.2.2 d_Z_line_123
  · have hF := it_t hF h15
    refine lv_aload_n hx hb d_Z_line_111 rfl (lv_at hl 0 rfl) ?_
    refine gf_Z_3 hx hb hts hown hK hP (by decide) a_561 d_Z_line_112 ?_
    refine lv_iload hx hb d_Z_line_115 (lv_at hl 3 rfl) ?_
    obtain ⟨h16, hF⟩ := as_u hF
    refine l_zi hx hb hK hP 2 40 ⟨by decide, by decide, by decide⟩ rfl h16 d_Z_line_117 ?_
    refine lv_iconst (v := 4) hx hb d_Z_line_118 (by decide) ?_
    refine lv_icmp_ne (tgt := 124) hx hb d_Z_line_119 (by decide) (fun h17 => ?_) (fun h17 => ?_)
    · have hF := it_f hF h17
      refine lv_aload_n hx hb d_Z_line_124 rfl (lv_at hl 0 rfl) ?_
      refine gf_Z_4 hx hb hts hown hK hP (by decide) a_562 d_Z_line_125 ?_
      refine lv_iconst (v := 4) hx hb d_Z_line_128 (by decide) ?_
      refine lv_iload hx hb d_Z_line_129 (lv_at hl 3 rfl) ?_
      refine lv_imul hx hb d_Z_line_131 ?_
      refine lv_aload_n hx hb d_Z_line_132 rfl (lv_at hl 0 rfl) ?_
      refine gf_Z_3 hx hb hts hown hK hP (by decide) a_561 d_Z_line_133 ?_
      refine lv_iload hx hb d_Z_line_136 (lv_at hl 3 rfl) ?_
      obtain ⟨h18, hF⟩ := as_u hF
      refine l_zi hx hb hK hP 2 40 ⟨by decide, by decide, by decide⟩ rfl h18 d_Z_line_138 ?_
      refine lv_iadd hx hb d_Z_line_139 ?_
      refine lv_iload_n hx hb d_Z_line_140 rfl (lv_at hl 1 rfl) ?_
      obtain ⟨h19, hF⟩ := as_u hF
      obtain ⟨z20, h21, hF⟩ := nm_u hF
      refine s_zi hx hb hK hP 3 160 hD hS ⟨by decide, by decide, by decide⟩ rfl h19 h21 d_Z_line_141 (fun H locs hP hS => ?_)
      refine lv_aload_n hx hb d_Z_line_142 rfl (lv_at hl 0 rfl) ?_
      refine gf_Z_5 hx hb hts hown hK hP (by decide) a_563 d_Z_line_143 ?_
      refine lv_iconst (v := 4) hx hb d_Z_line_146 (by decide) ?_
      refine lv_iload hx hb d_Z_line_147 (lv_at hl 3 rfl) ?_
      refine lv_imul hx hb d_Z_line_149 ?_
      refine lv_aload_n hx hb d_Z_line_150 rfl (lv_at hl 0 rfl) ?_
      refine gf_Z_3 hx hb hts hown hK hP (by decide) a_561 d_Z_line_151 ?_
      refine lv_iload hx hb d_Z_line_154 (lv_at hl 3 rfl) ?_
      obtain ⟨h22, hF⟩ := as_u hF
      refine l_zi hx hb hK hP 2 40 ⟨by decide, by decide, by decide⟩ rfl h22 d_Z_line_156 ?_
      refine lv_iadd hx hb d_Z_line_157 ?_
      refine lv_iload_n hx hb d_Z_line_158 rfl (lv_at hl 2 rfl) ?_
      obtain ⟨h23, hF⟩ := as_u hF
      obtain ⟨z24, h25, hF⟩ := nm_u hF
      refine s_zi hx hb hK hP 4 160 hD hS ⟨by decide, by decide, by decide⟩ rfl h23 h25 d_Z_line_159 (fun H locs hP hS => ?_)
      refine lv_aload_n hx hb d_Z_line_160 rfl (lv_at hl 0 rfl) ?_
      refine gf_Z_3 hx hb hts hown hK hP (by decide) a_561 d_Z_line_161 ?_
      refine lv_iload hx hb d_Z_line_164 (lv_at hl 3 rfl) ?_
      refine lv_aload_n hx hb d_Z_line_166 rfl (lv_at hl 0 rfl) ?_
      refine gf_Z_3 hx hb hts hown hK hP (by decide) a_561 d_Z_line_167 ?_
      refine lv_iload hx hb d_Z_line_170 (lv_at hl 3 rfl) ?_
      obtain ⟨h26, hF⟩ := as_u hF
      refine l_zi hx hb hK hP 2 40 ⟨by decide, by decide, by decide⟩ rfl h26 d_Z_line_172 ?_
      refine lv_iconst (v := 1) hx hb d_Z_line_173 (by decide) ?_
      refine lv_iadd hx hb d_Z_line_174 ?_
      obtain ⟨h27, hF⟩ := as_u hF
      obtain ⟨z28, h29, hF⟩ := nm_u hF
      refine s_zi hx hb hK hP 2 40 hD hS ⟨by decide, by decide, by decide⟩ rfl h27 h29 d_Z_line_175 (fun H locs hP hS => ?_)
      refine lv_iconst (v := 1) hx hb d_Z_line_176 (by decide) ?_
      obtain ⟨rfl, rfl⟩ := rt2 hF
      exact W.zret (v := 1) hx hb hr rfl (fun t ht hW => ⟨⟨_, (), rfl, rfl, vp_at ht hP⟩, hS.F ht⟩) hS.2.2 d_Z_line_177
    · have hF := it_t hF h17
      refine lv_iconst (v := 0) hx hb d_Z_line_122 (by decide) ?_
      obtain ⟨rfl, rfl⟩ := rt2 hF
      exact W.zret (v := 0) hx hb hr rfl (fun t ht hW => ⟨⟨_, (), rfl, rfl, vp_at ht hP⟩, hS.F ht⟩) hS.2.2 d_Z_line_123
set_option maxHeartbeats 4000000 in
set_option maxRecDepth 100000 in
theorem lp_Z_line_60 {p : Program} {l : Launch} {e : Env} {s : State} {m : MethodId} {args : Array Value} {below : List Frame} {meth : Method} {c : Code} {D : va_G} {ad : Nat → Nat → Nat} {ca : Nat → ClassId} {u : XC} (hx : p.tables.exec = Jvm.exec) (hb : c.code = b_Z_line) (hr : meth.sig.returnType = (some .boolean)) (hts : ∀ w ∈ ALL, w.before args s = true) (hown : s.vm.findClass R_Z = some m.cls) (hlocks : meth.locks = false) (hml : c.maxLocals = 7) (hK : va_K D CLS (TYH ca) s) (hD0 : ∀ z u, va_D (AH ad) (wh ad ca z u)) (hD : ∀ z u, va_D (AH ad) (wh ad ca z u))  : ∀ (n : Nat), ∀ (z : ZW) (x2 : Int32) (x3 : Int32) (x4 : Int32) (x5 : Int32) (x6 : Int32)  (r0 : Int32) (z0 : ZW), Fl_Z_line_60  n z x2 x3 x4 x5 x6 = some (r0, z0) → ∀ (H : Heap) (locs : List Loc) (ls : Array Slot), va_P D CLS (wh ad ca z u) H → va_S (AH ad) s.heap H locs → lv_has ls 7 [(0, .ref (ad 14 0)), (2, .int x2), (3, .int x3), (4, .int x4), (5, .int x5), (6, .int x6)] → W p l e ({ frames := 1, cells := 0, slots := 0, locals := 20 } : Room) s m args below meth c H locs 0 0 (MQ below (va_Qi (fun (r : Int32) (_ : Unit) => r = r0) (fun _ t => va_P D CLS (wh ad ca z0 u) t.heap) (AH ad)) args s 0 0 (AH ad)) (F0 m 60 ls []) := by
  intro n
  induction n with
  | zero => intro z x2 x3 x4 x5 x6 r0 z0 hF; rw [Fl_Z_line_60] at hF; cases hF
  | succ n ih =>
    intro z x2 x3 x4 x5 x6 r0 z0 hF H locs ls hP hS hl
    rw [Fl_Z_line_60] at hF
    refine lv_iload hx hb d_Z_line_60 (lv_at hl 5 rfl) ?_
    refine lv_aload_n hx hb d_Z_line_62 rfl (lv_at hl 0 rfl) ?_
    refine gf_Z_3 hx hb hts hown hK hP (by decide) a_561 d_Z_line_63 ?_
    refine lv_iload hx hb d_Z_line_66 (lv_at hl 3 rfl) ?_
    obtain ⟨h13, hF⟩ := as_u hF
    refine l_zi hx hb hK hP 2 40 ⟨by decide, by decide, by decide⟩ rfl h13 d_Z_line_68 ?_
    refine lv_icmp_ge (tgt := 106) hx hb d_Z_line_69 (by decide) (fun h14 => ?_) (fun h14 => ?_)
    · have hF := it_t hF h14
      exact jn_Z_line_106 hx hb hr hts hown hlocks hml hK hD0 hD  z x2 x3 x4 x5  r0 z0 hF _ _ _ hP hS (lv_sub hl [0, 1, 2, 3, 4] rfl)
    · have hF := it_f hF h14
      refine lv_iload hx hb d_Z_line_72 (lv_at hl 4 rfl) ?_
      refine lv_if_ne (tgt := 93) hx hb d_Z_line_74 (by decide) (fun h30 => ?_) (fun h30 => ?_)
      · have hF := it_f hF h30
        refine lv_iconst (v := 1) hx hb d_Z_line_93 (by decide) ?_
        refine lv_goto (tgt := 98) hx hb d_Z_line_94 (by decide) ?_
        refine lv_istore (lv' := [(5, .int 1), (0, .ref (ad 14 0)), (2, .int x2), (3, .int x3), (4, .int x4), (6, .int x6)]) hx hb d_Z_line_98 hl (by decide) rfl (fun ls hl => ?_)
        refine lv_iinc (k := 5) (v := (x6 + 1)) (lv' := [(6, .int (x6 + 1)), (5, .int 1), (0, .ref (ad 14 0)), (2, .int x2), (3, .int x3), (4, .int x4)]) hx hb d_Z_line_100 hl rfl rfl (by decide) rfl (fun ls hl => ?_)
        refine lv_goto (tgt := 60) hx hb d_Z_line_103 (by decide) ?_
        exact ih z x2 x3 x4 1 (x6 + 1)  r0 z0 hF _ _ _ hP hS (lv_sub hl [2, 3, 4, 5, 1, 0] rfl)
      · have hF := it_t hF h30
        refine lv_aload_n hx hb d_Z_line_77 rfl (lv_at hl 0 rfl) ?_
        refine gf_Z_4 hx hb hts hown hK hP (by decide) a_562 d_Z_line_78 ?_
        refine lv_iconst (v := 4) hx hb d_Z_line_81 (by decide) ?_
        refine lv_iload hx hb d_Z_line_82 (lv_at hl 3 rfl) ?_
        refine lv_imul hx hb d_Z_line_84 ?_
        refine lv_iload hx hb d_Z_line_85 (lv_at hl 5 rfl) ?_
        refine lv_iadd hx hb d_Z_line_87 ?_
        obtain ⟨h31, hF⟩ := as_u hF
        refine l_zi hx hb hK hP 3 160 ⟨by decide, by decide, by decide⟩ rfl h31 d_Z_line_88 ?_
        refine lv_iload_n hx hb d_Z_line_89 rfl (lv_at hl 1 rfl) ?_
        refine lv_icmp_ne (tgt := 97) hx hb d_Z_line_90 (by decide) (fun h32 => ?_) (fun h32 => ?_)
        · have hF := it_f hF h32
          refine lv_iconst (v := 0) hx hb d_Z_line_97 (by decide) ?_
          refine lv_istore (lv' := [(5, .int 0), (0, .ref (ad 14 0)), (2, .int x2), (3, .int x3), (4, .int x4), (6, .int x6)]) hx hb d_Z_line_98 hl (by decide) rfl (fun ls hl => ?_)
          refine lv_iinc (k := 5) (v := (x6 + 1)) (lv' := [(6, .int (x6 + 1)), (5, .int 0), (0, .ref (ad 14 0)), (2, .int x2), (3, .int x3), (4, .int x4)]) hx hb d_Z_line_100 hl rfl rfl (by decide) rfl (fun ls hl => ?_)
          refine lv_goto (tgt := 60) hx hb d_Z_line_103 (by decide) ?_
          exact ih z x2 x3 x4 0 (x6 + 1)  r0 z0 hF _ _ _ hP hS (lv_sub hl [2, 3, 4, 5, 1, 0] rfl)
        · have hF := it_t hF h32
          refine lv_iconst (v := 1) hx hb d_Z_line_93 (by decide) ?_
          refine lv_goto (tgt := 98) hx hb d_Z_line_94 (by decide) ?_
          refine lv_istore (lv' := [(5, .int 1), (0, .ref (ad 14 0)), (2, .int x2), (3, .int x3), (4, .int x4), (6, .int x6)]) hx hb d_Z_line_98 hl (by decide) rfl (fun ls hl => ?_)
          refine lv_iinc (k := 5) (v := (x6 + 1)) (lv' := [(6, .int (x6 + 1)), (5, .int 1), (0, .ref (ad 14 0)), (2, .int x2), (3, .int x3), (4, .int x4)]) hx hb d_Z_line_100 hl rfl rfl (by decide) rfl (fun ls hl => ?_)
          refine lv_goto (tgt := 60) hx hb d_Z_line_103 (by decide) ?_
          exact ih z x2 x3 x4 1 (x6 + 1)  r0 z0 hF _ _ _ hP hS (lv_sub hl [2, 3, 4, 5, 1, 0] rfl)
set_option maxHeartbeats 4000000 in
set_option maxRecDepth 100000 in
theorem c_Z_line (l : Launch) (D : va_G) (ad : Nat → Nat → Nat) (ca : Nat → ClassId) (hD0 : ∀ z u, va_D (AH ad) (wh ad ca z u)) {z : ZW} {u : XC} {a1 : Int32} {a2 : Int32} {a3 : Int32} {r0 : Int32} {z0 : ZW}  (hF : F_Z_line z a1 a2 a3 = some (r0, z0)) : Met l y_Z_line ws_Z_line ({ frames := 1, cells := 0, slots := 0, locals := 20 } : Room) (va_Pc [.ref (ad 14 0), .int a1, .int a2, .int a3] (fun U => va_P D CLS (wh ad ca z u) U.heap ∧ va_K D CLS (TYH ca) U)) (va_Qi (fun (r : Int32) (_ : Unit) => r = r0) (fun _ t => va_P D CLS (wh ad ca z0 u) t.heap) (AH ad)) 0 0 (AH ad) := by
  refine Met.ofW (cc := b_Z_line) (maxL := 7) (ret := (some .boolean)) (by decide +kernel) rfl ?_
  intro p e s m args below meth c s₁ B hml hv
  obtain ⟨rfl, hP, hK⟩ := hv
  have hx := B.exec
  have hb := B.bytes
  have hr := B.returns
  have hts : ∀ w ∈ ALL, w.before _ s = true := fun w h => atoms_spec (ws := ws_Z_line) B.pre w (List.mem_cons_of_mem _ h)
  have hown : s.vm.findClass R_Z = some m.cls := findClass_of_methodNamed B.named
  have hlocks := B.notSynchronized
  have hD := hD0
  have hS : va_S (AH ad) s.heap s.heap [] := va_S.rf
  have hP : va_P D CLS (wh ad ca z u) s.heap := hP
  have hl := lv_entry ([.ref (ad 14 0), .int a1, .int a2, .int a3]) (n := 7) (Nat.le_of_ble_eq_true rfl)
  rw [lg_entry_eq]
  generalize (lg_sl ([.ref (ad 14 0), .int a1, .int a2, .int a3]) ++ List.replicate (7 - (lg_sl ([.ref (ad 14 0), .int a1, .int a2, .int a3])).length) Slot.unset).toArray = ls at hl ⊢
  have hl : lv_has ls 7 [(0, .ref (ad 14 0)), (1, .int a1), (2, .int a2), (3, .int a3)] := hl
  unfold F_Z_line at hF
  refine lv_aload_n hx hb d_Z_line_0 rfl (lv_at hl 0 rfl) ?_
  refine lv_iconst (v := 0) hx hb d_Z_line_1 (by decide) ?_
  obtain ⟨z1, h2, hF⟩ := nm_u hF
  refine pf_Z_0 hx hb hts hown hK hP hD hS (by decide) h2 a_558 d_Z_line_2 (fun H locs hP hS => ?_)
  refine lv_iload_n hx hb d_Z_line_5 rfl (lv_at hl 1 rfl) ?_
  obtain ⟨r3, h4, hF⟩ := bs_u hF
  refine k_sp [.int a1] [] ⟨hx, hb, hml, hown, hts⟩ (c_Z_isOffice l  h4) (w_Z_isOffice hts a_691 ⟨Nat.le_of_ble_eq_true rfl, Nat.le_of_ble_eq_true rfl⟩) rfl rfl hl.1 (Nat.le_of_ble_eq_true rfl) ⟨Nat.zero_le _, Nat.zero_le _⟩ d_Z_line_6 ?_
  refine lv_if_eq (tgt := 42) hx hb d_Z_line_9 (by decide) (fun h5 => ?_) (fun h5 => ?_)
  · have hF := it_t hF h5
    refine lv_iconst (v := 0) hx hb d_Z_line_42 (by decide) ?_
    obtain ⟨rfl, rfl⟩ := rt2 hF
    exact W.zret (v := 0) hx hb hr rfl (fun t ht hW => ⟨⟨_, (), rfl, rfl, vp_at ht hP⟩, hS.F ht⟩) hS.2.2 d_Z_line_43
  · have hF := it_f hF h5
    refine lv_aload_n hx hb d_Z_line_12 rfl (lv_at hl 0 rfl) ?_
    refine gf_Z_7 hx hb hts hown hK hP (by decide) a_565 d_Z_line_13 ?_
    refine lv_iload_n hx hb d_Z_line_16 rfl (lv_at hl 1 rfl) ?_
    obtain ⟨h6, hF⟩ := as_u hF
    refine l_zi hx hb hK hP 6 27 ⟨by decide, by decide, by decide⟩ rfl h6 d_Z_line_17 ?_
    refine lv_if_eq (tgt := 42) hx hb d_Z_line_18 (by decide) (fun h7 => ?_) (fun h7 => ?_)
    · have hF := it_t hF h7
      refine lv_iconst (v := 0) hx hb d_Z_line_42 (by decide) ?_
      obtain ⟨rfl, rfl⟩ := rt2 hF
      exact W.zret (v := 0) hx hb hr rfl (fun t ht hW => ⟨⟨_, (), rfl, rfl, vp_at ht hP⟩, hS.F ht⟩) hS.2.2 d_Z_line_43
    · have hF := it_f hF h7
      refine lv_iload_n hx hb d_Z_line_21 rfl (lv_at hl 2 rfl) ?_
      refine lv_if_lt (tgt := 42) hx hb d_Z_line_22 (by decide) (fun h8 => ?_) (fun h8 => ?_)
      · have hF := it_t hF h8
        refine lv_iconst (v := 0) hx hb d_Z_line_42 (by decide) ?_
        obtain ⟨rfl, rfl⟩ := rt2 hF
        exact W.zret (v := 0) hx hb hr rfl (fun t ht hW => ⟨⟨_, (), rfl, rfl, vp_at ht hP⟩, hS.F ht⟩) hS.2.2 d_Z_line_43
      · have hF := it_f hF h8
        refine lv_iload_n hx hb d_Z_line_25 rfl (lv_at hl 2 rfl) ?_
        refine lv_bipush (v := 9) hx hb d_Z_line_26 (by decide) ?_
        refine lv_icmp_gt (tgt := 42) hx hb d_Z_line_28 (by decide) (fun h9 => ?_) (fun h9 => ?_)
        · have hF := it_t hF h9
          refine lv_iconst (v := 0) hx hb d_Z_line_42 (by decide) ?_
          obtain ⟨rfl, rfl⟩ := rt2 hF
          exact W.zret (v := 0) hx hb hr rfl (fun t ht hW => ⟨⟨_, (), rfl, rfl, vp_at ht hP⟩, hS.F ht⟩) hS.2.2 d_Z_line_43
        · have hF := it_f hF h9
          refine lv_iload_n hx hb d_Z_line_31 rfl (lv_at hl 3 rfl) ?_
          refine lv_if_lt (tgt := 42) hx hb d_Z_line_32 (by decide) (fun h10 => ?_) (fun h10 => ?_)
          · have hF := it_t hF h10
            refine lv_iconst (v := 0) hx hb d_Z_line_42 (by decide) ?_
            obtain ⟨rfl, rfl⟩ := rt2 hF
            exact W.zret (v := 0) hx hb hr rfl (fun t ht hW => ⟨⟨_, (), rfl, rfl, vp_at ht hP⟩, hS.F ht⟩) hS.2.2 d_Z_line_43
          · have hF := it_f hF h10
            refine lv_iload_n hx hb d_Z_line_35 rfl (lv_at hl 3 rfl) ?_
            refine lv_sipush (v := 9999) hx hb d_Z_line_36 (by decide) ?_
            refine lv_icmp_le (tgt := 44) hx hb d_Z_line_39 (by decide) (fun h11 => ?_) (fun h11 => ?_)
            · have hF := it_t hF h11
              refine lv_aload_n hx hb d_Z_line_44 rfl (lv_at hl 0 rfl) ?_
              refine gf_Z_7 hx hb hts hown hK hP (by decide) a_565 d_Z_line_45 ?_
              refine lv_iload_n hx hb d_Z_line_48 rfl (lv_at hl 1 rfl) ?_
              obtain ⟨h12, hF⟩ := as_u hF
              refine l_zi hx hb hK hP 6 27 ⟨by decide, by decide, by decide⟩ rfl h12 d_Z_line_49 ?_
              refine lv_iconst (v := 1) hx hb d_Z_line_50 (by decide) ?_
              refine lv_isub hx hb d_Z_line_51 ?_
              refine lv_istore (lv' := [(4, .int ((z1.1 6 (a1).toNatClampNeg) - 1)), (0, .ref (ad 14 0)), (1, .int a1), (2, .int a2), (3, .int a3)]) hx hb d_Z_line_52 hl (by decide) rfl (fun ls hl => ?_)
              refine lv_iconst (v := 0) hx hb d_Z_line_54 (by decide) ?_
              refine lv_istore (lv' := [(5, .int 0), (4, .int ((z1.1 6 (a1).toNatClampNeg) - 1)), (0, .ref (ad 14 0)), (1, .int a1), (2, .int a2), (3, .int a3)]) hx hb d_Z_line_55 hl (by decide) rfl (fun ls hl => ?_)
              refine lv_iconst (v := 0) hx hb d_Z_line_57 (by decide) ?_
              refine lv_istore (lv' := [(6, .int 0), (5, .int 0), (4, .int ((z1.1 6 (a1).toNatClampNeg) - 1)), (0, .ref (ad 14 0)), (1, .int a1), (2, .int a2), (3, .int a3)]) hx hb d_Z_line_58 hl (by decide) rfl (fun ls hl => ?_)
              exact lp_Z_line_60 hx hb hr hts hown hlocks hml hK hD0 hD  200 z1 a2 a3 ((z1.1 6 (a1).toNatClampNeg) - 1) 0 0  r0 z0 hF _ _ _ hP hS (lv_sub hl [3, 5, 6, 2, 1, 0] rfl)
            · have hF := it_f hF h11
              refine lv_iconst (v := 0) hx hb d_Z_line_42 (by decide) ?_
              obtain ⟨rfl, rfl⟩ := rt2 hF
              exact W.zret (v := 0) hx hb hr rfl (fun t ht hW => ⟨⟨_, (), rfl, rfl, vp_at ht hP⟩, hS.F ht⟩) hS.2.2 d_Z_line_43
def ws_Z_letters : List Cond := Cond.code y_Z_letters b_Z_letters 1 (some .int) :: ALL
theorem w_Z_letters {R : Room} {s : State} {args : Array Value} {own : String} {index : Nat} (hts : ∀ w ∈ ALL, w.before args s = true) (hlk : Cond.methodLink own index y_Z_letters ∈ ALL) (hR : (({ frames := 0, cells := 0, slots := 0, locals := 0 } : Room)).frames + 1 ≤ R.frames ∧ 8 + (1 + 11) + (({ frames := 0, cells := 0, slots := 0, locals := 0 } : Room)).locals ≤ R.locals) : CallW R s args own R_Z index y_Z_letters b_Z_letters 1 (some .int) ws_Z_letters ({ frames := 0, cells := 0, slots := 0, locals := 0 } : Room) 0 0 0 := ⟨callB_of 0 hts (good_c a_701) rfl rfl rfl (hts _ a_8) (hts _ hlk) (by decide +kernel) hR, hts _ a_699, hts _ a_700⟩
theorem d_Z_letters_0 : decode b_Z_letters 0 = .ok (.aload_n 0, 1) := by decide +kernel
theorem d_Z_letters_1 : decode b_Z_letters 1 = .ok (.iconst 0, 1) := by decide +kernel
theorem d_Z_letters_2 : decode b_Z_letters 2 = .ok (.putfield 95, 3) := by decide +kernel
theorem d_Z_letters_5 : decode b_Z_letters 5 = .ok (.aload_n 0, 1) := by decide +kernel
theorem d_Z_letters_6 : decode b_Z_letters 6 = .ok (.getfield 131, 3) := by decide +kernel
theorem d_Z_letters_9 : decode b_Z_letters 9 = .ok (.ireturn, 1) := by decide +kernel
def F_Z_letters (z : ZW)  : Option (Int32 × ZW) := (nm_ (pz z 0 0 0) fun z1 => some ((z1.1 0 22), z1))
set_option maxHeartbeats 4000000 in
set_option maxRecDepth 100000 in
theorem c_Z_letters (l : Launch) (D : va_G) (ad : Nat → Nat → Nat) (ca : Nat → ClassId) (hD0 : ∀ z u, va_D (AH ad) (wh ad ca z u)) {z : ZW} {u : XC}  {r0 : Int32} {z0 : ZW}  (hF : F_Z_letters z  = some (r0, z0)) : Met l y_Z_letters ws_Z_letters ({ frames := 0, cells := 0, slots := 0, locals := 0 } : Room) (va_Pc [.ref (ad 14 0)] (fun U => va_P D CLS (wh ad ca z u) U.heap ∧ va_K D CLS (TYH ca) U)) (va_Qi (fun (r : Int32) (_ : Unit) => r = r0) (fun _ t => va_P D CLS (wh ad ca z0 u) t.heap) (AH ad)) 0 0 (AH ad) := by
  refine Met.ofW (cc := b_Z_letters) (maxL := 1) (ret := (some .int)) (by decide +kernel) rfl ?_
  intro p e s m args below meth c s₁ B hml hv
  obtain ⟨rfl, hP, hK⟩ := hv
  have hx := B.exec
  have hb := B.bytes
  have hr := B.returns
  have hts : ∀ w ∈ ALL, w.before _ s = true := fun w h => atoms_spec (ws := ws_Z_letters) B.pre w (List.mem_cons_of_mem _ h)
  have hown : s.vm.findClass R_Z = some m.cls := findClass_of_methodNamed B.named
  have hlocks := B.notSynchronized
  have hD := hD0
  have hS : va_S (AH ad) s.heap s.heap [] := va_S.rf
  have hP : va_P D CLS (wh ad ca z u) s.heap := hP
  have hl := lv_entry ([.ref (ad 14 0)]) (n := 1) (Nat.le_of_ble_eq_true rfl)
  rw [lg_entry_eq]
  generalize (lg_sl ([.ref (ad 14 0)]) ++ List.replicate (1 - (lg_sl ([.ref (ad 14 0)])).length) Slot.unset).toArray = ls at hl ⊢
  have hl : lv_has ls 1 [(0, .ref (ad 14 0))] := hl
  unfold F_Z_letters at hF
  refine lv_aload_n hx hb d_Z_letters_0 rfl (lv_at hl 0 rfl) ?_
  refine lv_iconst (v := 0) hx hb d_Z_letters_1 (by decide) ?_
  obtain ⟨z1, h2, hF⟩ := nm_u hF
  refine pf_Z_0 hx hb hts hown hK hP hD hS (by decide) h2 a_558 d_Z_letters_2 (fun H locs hP hS => ?_)
  refine lv_aload_n hx hb d_Z_letters_5 rfl (lv_at hl 0 rfl) ?_
  refine gf_Z_22 hx hb hts hown hK hP (by decide) a_580 d_Z_letters_6 ?_
  obtain ⟨rfl, rfl⟩ := rt2 hF
  exact W.iret (v := (z1.1 0 22)) hx hb hr (fun t ht hW => ⟨⟨_, (), rfl, rfl, vp_at ht hP⟩, hS.F ht⟩) hS.2.2 d_Z_letters_9
def ws_Z_isLetter : List Cond := Cond.code y_Z_isLetter b_Z_isLetter 2 (some .boolean) :: ALL
theorem w_Z_isLetter {R : Room} {s : State} {args : Array Value} {own : String} {index : Nat} (hts : ∀ w ∈ ALL, w.before args s = true) (hlk : Cond.methodLink own index y_Z_isLetter ∈ ALL) (hR : (({ frames := 0, cells := 0, slots := 0, locals := 0 } : Room)).frames + 1 ≤ R.frames ∧ 8 + (2 + 11) + (({ frames := 0, cells := 0, slots := 0, locals := 0 } : Room)).locals ≤ R.locals) : CallW R s args own R_Z index y_Z_isLetter b_Z_isLetter 2 (some .boolean) ws_Z_isLetter ({ frames := 0, cells := 0, slots := 0, locals := 0 } : Room) 0 0 1 := ⟨callB_of 1 hts (good_c a_709) rfl rfl rfl (hts _ a_8) (hts _ hlk) (by decide +kernel) hR, hts _ a_708, hts _ a_s12⟩
theorem d_Z_isLetter_0 : decode b_Z_isLetter 0 = .ok (.iload_n 1, 1) := by decide +kernel
theorem d_Z_isLetter_1 : decode b_Z_isLetter 1 = .ok (.ifCond .lt 15, 3) := by decide +kernel
theorem d_Z_isLetter_4 : decode b_Z_isLetter 4 = .ok (.iload_n 1, 1) := by decide +kernel
theorem d_Z_isLetter_5 : decode b_Z_isLetter 5 = .ok (.aload_n 0, 1) := by decide +kernel
theorem d_Z_isLetter_6 : decode b_Z_isLetter 6 = .ok (.getfield 131, 3) := by decide +kernel
theorem d_Z_isLetter_9 : decode b_Z_isLetter 9 = .ok (.if_icmp .ge 7, 3) := by decide +kernel
theorem d_Z_isLetter_12 : decode b_Z_isLetter 12 = .ok (.iconst 1, 1) := by decide +kernel
theorem d_Z_isLetter_13 : decode b_Z_isLetter 13 = .ok (.goto 4, 3) := by decide +kernel
theorem d_Z_isLetter_16 : decode b_Z_isLetter 16 = .ok (.iconst 0, 1) := by decide +kernel
theorem d_Z_isLetter_17 : decode b_Z_isLetter 17 = .ok (.ireturn, 1) := by decide +kernel
def F_Z_isLetter (z : ZW) (a1 : Int32) : Option (Int32) := (if a1 < 0 then some 0 else (if (z.1 0 22) ≤ a1 then some 0 else some 1))
set_option maxHeartbeats 4000000 in
set_option maxRecDepth 100000 in
theorem c_Z_isLetter (l : Launch) (D : va_G) (ad : Nat → Nat → Nat) (ca : Nat → ClassId) (hD0 : ∀ z u, va_D (AH ad) (wh ad ca z u)) {z : ZW} {u : XC} {a1 : Int32} {r0 : Int32}  (hF : F_Z_isLetter z a1 = some r0) : Met l y_Z_isLetter ws_Z_isLetter ({ frames := 0, cells := 0, slots := 0, locals := 0 } : Room) (va_Pc [.ref (ad 14 0), .int a1] (fun U => va_P D CLS (wh ad ca z u) U.heap ∧ va_K D CLS (TYH ca) U)) (vp_Si (fun r => r = r0)) 0 0 (fun _ => False) := by
  refine Met.ofW (cc := b_Z_isLetter) (maxL := 2) (ret := (some .boolean)) (by decide +kernel) rfl ?_
  intro p e s m args below meth c s₁ B hml hv
  obtain ⟨rfl, hP, hK⟩ := hv
  have hx := B.exec
  have hb := B.bytes
  have hr := B.returns
  have hts : ∀ w ∈ ALL, w.before _ s = true := fun w h => atoms_spec (ws := ws_Z_isLetter) B.pre w (List.mem_cons_of_mem _ h)
  have hown : s.vm.findClass R_Z = some m.cls := findClass_of_methodNamed B.named
  have hlocks := B.notSynchronized
  have hD := hD0
  have hS : va_S (fun _ => True) s.heap s.heap [] := va_S.rf
  have hN : ∀ q ∈ ([] : List Loc), (fun _ => False) q.base := fun _ h => absurd h List.not_mem_nil
  have hP : va_P D CLS (wh ad ca z u) s.heap := hP
  have hl := lv_entry ([.ref (ad 14 0), .int a1]) (n := 2) (Nat.le_of_ble_eq_true rfl)
  rw [lg_entry_eq]
  generalize (lg_sl ([.ref (ad 14 0), .int a1]) ++ List.replicate (2 - (lg_sl ([.ref (ad 14 0), .int a1])).length) Slot.unset).toArray = ls at hl ⊢
  have hl : lv_has ls 2 [(0, .ref (ad 14 0)), (1, .int a1)] := hl
  have hH : s.heap = s.heap := rfl
  unfold F_Z_isLetter at hF
  refine lv_iload_n hx hb d_Z_isLetter_0 rfl (lv_at hl 1 rfl) ?_
  refine lv_if_lt (tgt := 16) hx hb d_Z_isLetter_1 (by decide) (fun h1 => ?_) (fun h1 => ?_)
  · have hF := it_t hF h1
    refine lv_iconst (v := 0) hx hb d_Z_isLetter_16 (by decide) ?_
    have hF := rt1 hF
    subst hF
    exact W.zret (v := 0) hx hb hr rfl (fun t ht hW => ⟨_, rfl, rfl, ht.trans hH⟩) hN d_Z_isLetter_17
  · have hF := it_f hF h1
    refine lv_iload_n hx hb d_Z_isLetter_4 rfl (lv_at hl 1 rfl) ?_
    refine lv_aload_n hx hb d_Z_isLetter_5 rfl (lv_at hl 0 rfl) ?_
    refine gf_Z_22 hx hb hts hown hK hP (by decide) a_580 d_Z_isLetter_6 ?_
    refine lv_icmp_ge (tgt := 16) hx hb d_Z_isLetter_9 (by decide) (fun h2 => ?_) (fun h2 => ?_)
    · have hF := it_t hF h2
      refine lv_iconst (v := 0) hx hb d_Z_isLetter_16 (by decide) ?_
      have hF := rt1 hF
      subst hF
      exact W.zret (v := 0) hx hb hr rfl (fun t ht hW => ⟨_, rfl, rfl, ht.trans hH⟩) hN d_Z_isLetter_17
    · have hF := it_f hF h2
      refine lv_iconst (v := 1) hx hb d_Z_isLetter_12 (by decide) ?_
      refine lv_goto (tgt := 17) hx hb d_Z_isLetter_13 (by decide) ?_
      have hF := rt1 hF
      subst hF
      exact W.zret (v := 1) hx hb hr rfl (fun t ht hW => ⟨_, rfl, rfl, ht.trans hH⟩) hN d_Z_isLetter_17
def ws_Z_letter : List Cond := Cond.code y_Z_letter b_Z_letter 3 (some .int) :: ALL
theorem w_Z_letter {R : Room} {s : State} {args : Array Value} {own : String} {index : Nat} (hts : ∀ w ∈ ALL, w.before args s = true) (hlk : Cond.methodLink own index y_Z_letter ∈ ALL) (hR : (({ frames := 1, cells := 0, slots := 0, locals := 21 } : Room)).frames + 1 ≤ R.frames ∧ 8 + (3 + 11) + (({ frames := 1, cells := 0, slots := 0, locals := 21 } : Room)).locals ≤ R.locals) : CallW R s args own R_Z index y_Z_letter b_Z_letter 3 (some .int) ws_Z_letter ({ frames := 1, cells := 0, slots := 0, locals := 21 } : Room) 0 0 2 := ⟨callB_of 2 hts (good_c a_705) rfl rfl rfl (hts _ a_8) (hts _ hlk) (by decide +kernel) hR, hts _ a_703, hts _ a_704⟩
theorem d_Z_letter_0 : decode b_Z_letter 0 = .ok (.aload_n 0, 1) := by decide +kernel
theorem d_Z_letter_1 : decode b_Z_letter 1 = .ok (.aload_n 0, 1) := by decide +kernel
theorem d_Z_letter_2 : decode b_Z_letter 2 = .ok (.iload_n 1, 1) := by decide +kernel
theorem d_Z_letter_3 : decode b_Z_letter 3 = .ok (.invokevirtual 142, 3) := by decide +kernel
theorem d_Z_letter_6 : decode b_Z_letter 6 = .ok (.ifCond .eq 16, 3) := by decide +kernel
theorem d_Z_letter_9 : decode b_Z_letter 9 = .ok (.iload_n 2, 1) := by decide +kernel
theorem d_Z_letter_10 : decode b_Z_letter 10 = .ok (.ifCond .lt 12, 3) := by decide +kernel
theorem d_Z_letter_13 : decode b_Z_letter 13 = .ok (.iload_n 2, 1) := by decide +kernel
theorem d_Z_letter_14 : decode b_Z_letter 14 = .ok (.iconst 5, 1) := by decide +kernel
theorem d_Z_letter_15 : decode b_Z_letter 15 = .ok (.if_icmp .gt 7, 3) := by decide +kernel
theorem d_Z_letter_18 : decode b_Z_letter 18 = .ok (.iconst 0, 1) := by decide +kernel
theorem d_Z_letter_19 : decode b_Z_letter 19 = .ok (.goto 4, 3) := by decide +kernel
theorem d_Z_letter_22 : decode b_Z_letter 22 = .ok (.iconst 1, 1) := by decide +kernel
theorem d_Z_letter_23 : decode b_Z_letter 23 = .ok (.putfield 95, 3) := by decide +kernel
theorem d_Z_letter_26 : decode b_Z_letter 26 = .ok (.aload_n 0, 1) := by decide +kernel
theorem d_Z_letter_27 : decode b_Z_letter 27 = .ok (.getfield 95, 3) := by decide +kernel
theorem d_Z_letter_30 : decode b_Z_letter 30 = .ok (.ifCond .le 5, 3) := by decide +kernel
theorem d_Z_letter_33 : decode b_Z_letter 33 = .ok (.iconst 0, 1) := by decide +kernel
theorem d_Z_letter_34 : decode b_Z_letter 34 = .ok (.ireturn, 1) := by decide +kernel
theorem d_Z_letter_35 : decode b_Z_letter 35 = .ok (.iload_n 2, 1) := by decide +kernel
theorem d_Z_letter_36 : decode b_Z_letter 36 = .ok (.iconst 3, 1) := by decide +kernel
theorem d_Z_letter_37 : decode b_Z_letter 37 = .ok (.if_icmp .ge 37, 3) := by decide +kernel
theorem d_Z_letter_40 : decode b_Z_letter 40 = .ok (.iload_n 2, 1) := by decide +kernel
theorem d_Z_letter_41 : decode b_Z_letter 41 = .ok (.ifCond .ne 12, 3) := by decide +kernel
theorem d_Z_letter_44 : decode b_Z_letter 44 = .ok (.aload_n 0, 1) := by decide +kernel
theorem d_Z_letter_45 : decode b_Z_letter 45 = .ok (.getfield 71, 3) := by decide +kernel
theorem d_Z_letter_48 : decode b_Z_letter 48 = .ok (.iload_n 1, 1) := by decide +kernel
theorem d_Z_letter_49 : decode b_Z_letter 49 = .ok (.iaload, 1) := by decide +kernel
theorem d_Z_letter_50 : decode b_Z_letter 50 = .ok (.goto 23, 3) := by decide +kernel
theorem d_Z_letter_53 : decode b_Z_letter 53 = .ok (.iload_n 2, 1) := by decide +kernel
theorem d_Z_letter_54 : decode b_Z_letter 54 = .ok (.iconst 1, 1) := by decide +kernel
theorem d_Z_letter_55 : decode b_Z_letter 55 = .ok (.if_icmp .ne 12, 3) := by decide +kernel
theorem d_Z_letter_58 : decode b_Z_letter 58 = .ok (.aload_n 0, 1) := by decide +kernel
theorem d_Z_letter_59 : decode b_Z_letter 59 = .ok (.getfield 74, 3) := by decide +kernel
theorem d_Z_letter_62 : decode b_Z_letter 62 = .ok (.iload_n 1, 1) := by decide +kernel
theorem d_Z_letter_63 : decode b_Z_letter 63 = .ok (.iaload, 1) := by decide +kernel
theorem d_Z_letter_64 : decode b_Z_letter 64 = .ok (.goto 9, 3) := by decide +kernel
theorem d_Z_letter_67 : decode b_Z_letter 67 = .ok (.aload_n 0, 1) := by decide +kernel
theorem d_Z_letter_68 : decode b_Z_letter 68 = .ok (.getfield 77, 3) := by decide +kernel
theorem d_Z_letter_71 : decode b_Z_letter 71 = .ok (.iload_n 1, 1) := by decide +kernel
theorem d_Z_letter_72 : decode b_Z_letter 72 = .ok (.iaload, 1) := by decide +kernel
theorem d_Z_letter_73 : decode b_Z_letter 73 = .ok (.ireturn, 1) := by decide +kernel
theorem d_Z_letter_74 : decode b_Z_letter 74 = .ok (.iload_n 2, 1) := by decide +kernel
theorem d_Z_letter_75 : decode b_Z_letter 75 = .ok (.iconst 3, 1) := by decide +kernel
theorem d_Z_letter_76 : decode b_Z_letter 76 = .ok (.if_icmp .ne 12, 3) := by decide +kernel
theorem d_Z_letter_79 : decode b_Z_letter 79 = .ok (.aload_n 0, 1) := by decide +kernel
theorem d_Z_letter_80 : decode b_Z_letter 80 = .ok (.getfield 80, 3) := by decide +kernel
theorem d_Z_letter_83 : decode b_Z_letter 83 = .ok (.iload_n 1, 1) := by decide +kernel
theorem d_Z_letter_84 : decode b_Z_letter 84 = .ok (.iaload, 1) := by decide +kernel
theorem d_Z_letter_85 : decode b_Z_letter 85 = .ok (.goto 23, 3) := by decide +kernel
theorem d_Z_letter_88 : decode b_Z_letter 88 = .ok (.iload_n 2, 1) := by decide +kernel
theorem d_Z_letter_89 : decode b_Z_letter 89 = .ok (.iconst 4, 1) := by decide +kernel
theorem d_Z_letter_90 : decode b_Z_letter 90 = .ok (.if_icmp .ne 12, 3) := by decide +kernel
theorem d_Z_letter_93 : decode b_Z_letter 93 = .ok (.aload_n 0, 1) := by decide +kernel
theorem d_Z_letter_94 : decode b_Z_letter 94 = .ok (.getfield 83, 3) := by decide +kernel
theorem d_Z_letter_97 : decode b_Z_letter 97 = .ok (.iload_n 1, 1) := by decide +kernel
theorem d_Z_letter_98 : decode b_Z_letter 98 = .ok (.iaload, 1) := by decide +kernel
theorem d_Z_letter_99 : decode b_Z_letter 99 = .ok (.goto 9, 3) := by decide +kernel
theorem d_Z_letter_102 : decode b_Z_letter 102 = .ok (.aload_n 0, 1) := by decide +kernel
theorem d_Z_letter_103 : decode b_Z_letter 103 = .ok (.getfield 86, 3) := by decide +kernel
theorem d_Z_letter_106 : decode b_Z_letter 106 = .ok (.iload_n 1, 1) := by decide +kernel
theorem d_Z_letter_107 : decode b_Z_letter 107 = .ok (.iaload, 1) := by decide +kernel
theorem d_Z_letter_108 : decode b_Z_letter 108 = .ok (.ireturn, 1) := by decide +kernel
def Fj_Z_letter_23  (z : ZW) (x1 : Int32) (x2 : Int32) (w0 : Int32) : Option (Int32 × ZW) := (nm_ (pz z 0 0 w0) fun z4 => (if (z4.1 0 0) ≤ 0 then (if 3 ≤ x2 then (if x2 = 3 then (if 0 ≤ x1 ∧ (x1).toNatClampNeg < 151 then some ((z4.1 24 (x1).toNatClampNeg), z4) else none) else (if x2 = 4 then (if 0 ≤ x1 ∧ (x1).toNatClampNeg < 151 then some ((z4.1 25 (x1).toNatClampNeg), z4) else none) else (if 0 ≤ x1 ∧ (x1).toNatClampNeg < 151 then some ((z4.1 26 (x1).toNatClampNeg), z4) else none))) else (if x2 = 0 then (if 0 ≤ x1 ∧ (x1).toNatClampNeg < 151 then some ((z4.1 21 (x1).toNatClampNeg), z4) else none) else (if x2 = 1 then (if 0 ≤ x1 ∧ (x1).toNatClampNeg < 151 then some ((z4.1 22 (x1).toNatClampNeg), z4) else none) else (if 0 ≤ x1 ∧ (x1).toNatClampNeg < 151 then some ((z4.1 23 (x1).toNatClampNeg), z4) else none)))) else some (0, z4)))
def Fj_Z_letter_22  (z : ZW) (x1 : Int32) (x2 : Int32) : Option (Int32 × ZW) := Fj_Z_letter_23  z x1 x2 1
def F_Z_letter (z : ZW) (a1 : Int32) (a2 : Int32) : Option (Int32 × ZW) := (bs_ (F_Z_isLetter z a1) fun r1 => (if r1 = 0 then Fj_Z_letter_22  z a1 a2 else (if a2 < 0 then Fj_Z_letter_22  z a1 a2 else (if 5 < a2 then Fj_Z_letter_22  z a1 a2 else Fj_Z_letter_23  z a1 a2 0))))
set_option maxHeartbeats 4000000 in
set_option maxRecDepth 100000 in
theorem jn_Z_letter_23 {p : Program} {l : Launch} {e : Env} {s : State} {m : MethodId} {args : Array Value} {below : List Frame} {meth : Method} {c : Code} {D : va_G} {ad : Nat → Nat → Nat} {ca : Nat → ClassId} {u : XC} (hx : p.tables.exec = Jvm.exec) (hb : c.code = b_Z_letter) (hr : meth.sig.returnType = (some .int)) (hts : ∀ w ∈ ALL, w.before args s = true) (hown : s.vm.findClass R_Z = some m.cls) (hlocks : meth.locks = false) (hml : c.maxLocals = 3) (hK : va_K D CLS (TYH ca) s) (hD0 : ∀ z u, va_D (AH ad) (wh ad ca z u)) (hD : ∀ z u, va_D (AH ad) (wh ad ca z u))  : ∀ (z : ZW) (x1 : Int32) (x2 : Int32) (w0 : Int32)  (r0 : Int32) (z0 : ZW), Fj_Z_letter_23  z x1 x2 w0 = some (r0, z0) → ∀ (H : Heap) (locs : List Loc) (ls : Array Slot), va_P D CLS (wh ad ca z u) H → va_S (AH ad) s.heap H locs → lv_has ls 3 [(0, .ref (ad 14 0)), (1, .int x1), (2, .int x2)] → W p l e ({ frames := 1, cells := 0, slots := 0, locals := 21 } : Room) s m args below meth c H locs 0 0 (MQ below (va_Qi (fun (r : Int32) (_ : Unit) => r = r0) (fun _ t => va_P D CLS (wh ad ca z0 u) t.heap) (AH ad)) args s 0 0 (AH ad)) (F0 m 23 ls [.int w0, .ref (ad 14 0)]) := by
  intro z x1 x2 w0 r0 z0 hF H locs ls hP hS hl
  unfold Fj_Z_letter_23 at hF
  obtain ⟨z4, h5, hF⟩ := nm_u hF
  refine pf_Z_0 hx hb hts hown hK hP hD hS (by decide) h5 a_558 d_Z_letter_23 (fun H locs hP hS => ?_)
  refine lv_aload_n hx hb d_Z_letter_26 rfl (lv_at hl 0 rfl) ?_
  refine gf_Z_0 hx hb hts hown hK hP (by decide) a_558 d_Z_letter_27 ?_
  refine lv_if_le (tgt := 35) hx hb d_Z_letter_30 (by decide) (fun h6 => ?_) (fun h6 => ?_)
  · have hF := it_t hF h6
    refine lv_iload_n hx hb d_Z_letter_35 rfl (lv_at hl 2 rfl) ?_
    refine lv_iconst (v := 3) hx hb d_Z_letter_36 (by decide) ?_
    refine lv_icmp_ge (tgt := 74) hx hb d_Z_letter_37 (by decide) (fun h7 => ?_) (fun h7 => ?_)
    · have hF := it_t hF h7
      refine lv_iload_n hx hb d_Z_letter_74 rfl (lv_at hl 2 rfl) ?_
      refine lv_iconst (v := 3) hx hb d_Z_letter_75 (by decide) ?_
      refine lv_icmp_ne (tgt := 88) hx hb d_Z_letter_76 (by decide) (fun h8 => ?_) (fun h8 => ?_)
      · have hF := it_f hF h8
        refine lv_iload_n hx hb d_Z_letter_88 rfl (lv_at hl 2 rfl) ?_
        refine lv_iconst (v := 4) hx hb d_Z_letter_89 (by decide) ?_
        refine lv_icmp_ne (tgt := 102) hx hb d_Z_letter_90 (by decide) (fun h9 => ?_) (fun h9 => ?_)
        · have hF := it_f hF h9
          refine lv_aload_n hx hb d_Z_letter_102 rfl (lv_at hl 0 rfl) ?_
          refine gf_Z_28 hx hb hts hown hK hP (by decide) a_586 d_Z_letter_103 ?_
          refine lv_iload_n hx hb d_Z_letter_106 rfl (lv_at hl 1 rfl) ?_
          obtain ⟨h10, hF⟩ := as_u hF
          refine l_zi hx hb hK hP 26 151 ⟨by decide, by decide, by decide⟩ rfl h10 d_Z_letter_107 ?_
          obtain ⟨rfl, rfl⟩ := rt2 hF
          exact W.iret (v := (z4.1 26 (x1).toNatClampNeg)) hx hb hr (fun t ht hW => ⟨⟨_, (), rfl, rfl, vp_at ht hP⟩, hS.F ht⟩) hS.2.2 d_Z_letter_108
        · have hF := it_t hF h9
          refine lv_aload_n hx hb d_Z_letter_93 rfl (lv_at hl 0 rfl) ?_
          refine gf_Z_27 hx hb hts hown hK hP (by decide) a_585 d_Z_letter_94 ?_
          refine lv_iload_n hx hb d_Z_letter_97 rfl (lv_at hl 1 rfl) ?_
          obtain ⟨h11, hF⟩ := as_u hF
          refine l_zi hx hb hK hP 25 151 ⟨by decide, by decide, by decide⟩ rfl h11 d_Z_letter_98 ?_
          refine lv_goto (tgt := 108) hx hb d_Z_letter_99 (by decide) ?_
          obtain ⟨rfl, rfl⟩ := rt2 hF
          exact W.iret (v := (z4.1 25 (x1).toNatClampNeg)) hx hb hr (fun t ht hW => ⟨⟨_, (), rfl, rfl, vp_at ht hP⟩, hS.F ht⟩) hS.2.2 d_Z_letter_108
      · have hF := it_t hF h8
        refine lv_aload_n hx hb d_Z_letter_79 rfl (lv_at hl 0 rfl) ?_
        refine gf_Z_26 hx hb hts hown hK hP (by decide) a_584 d_Z_letter_80 ?_
        refine lv_iload_n hx hb d_Z_letter_83 rfl (lv_at hl 1 rfl) ?_
        obtain ⟨h12, hF⟩ := as_u hF
        refine l_zi hx hb hK hP 24 151 ⟨by decide, by decide, by decide⟩ rfl h12 d_Z_letter_84 ?_
        refine lv_goto (tgt := 108) hx hb d_Z_letter_85 (by decide) ?_
        obtain ⟨rfl, rfl⟩ := rt2 hF
        exact W.iret (v := (z4.1 24 (x1).toNatClampNeg)) hx hb hr (fun t ht hW => ⟨⟨_, (), rfl, rfl, vp_at ht hP⟩, hS.F ht⟩) hS.2.2 d_Z_letter_108
    · have hF := it_f hF h7
      refine lv_iload_n hx hb d_Z_letter_40 rfl (lv_at hl 2 rfl) ?_
      refine lv_if_ne (tgt := 53) hx hb d_Z_letter_41 (by decide) (fun h13 => ?_) (fun h13 => ?_)
      · have hF := it_f hF h13
        refine lv_iload_n hx hb d_Z_letter_53 rfl (lv_at hl 2 rfl) ?_
        refine lv_iconst (v := 1) hx hb d_Z_letter_54 (by decide) ?_
        refine lv_icmp_ne (tgt := 67) hx hb d_Z_letter_55 (by decide) (fun h14 => ?_) (fun h14 => ?_)
        · have hF := it_f hF h14
          refine lv_aload_n hx hb d_Z_letter_67 rfl (lv_at hl 0 rfl) ?_
          refine gf_Z_25 hx hb hts hown hK hP (by decide) a_583 d_Z_letter_68 ?_
          refine lv_iload_n hx hb d_Z_letter_71 rfl (lv_at hl 1 rfl) ?_
          obtain ⟨h15, hF⟩ := as_u hF
          refine l_zi hx hb hK hP 23 151 ⟨by decide, by decide, by decide⟩ rfl h15 d_Z_letter_72 ?_
          obtain ⟨rfl, rfl⟩ := rt2 hF
          exact W.iret (v := (z4.1 23 (x1).toNatClampNeg)) hx hb hr (fun t ht hW => ⟨⟨_, (), rfl, rfl, vp_at ht hP⟩, hS.F ht⟩) hS.2.2 d_Z_letter_73
        · have hF := it_t hF h14
          refine lv_aload_n hx hb d_Z_letter_58 rfl (lv_at hl 0 rfl) ?_
          refine gf_Z_24 hx hb hts hown hK hP (by decide) a_582 d_Z_letter_59 ?_
          refine lv_iload_n hx hb d_Z_letter_62 rfl (lv_at hl 1 rfl) ?_
          obtain ⟨h16, hF⟩ := as_u hF
          refine l_zi hx hb hK hP 22 151 ⟨by decide, by decide, by decide⟩ rfl h16 d_Z_letter_63 ?_
          refine lv_goto (tgt := 73) hx hb d_Z_letter_64 (by decide) ?_
          obtain ⟨rfl, rfl⟩ := rt2 hF
          exact W.iret (v := (z4.1 22 (x1).toNatClampNeg)) hx hb hr (fun t ht hW => ⟨⟨_, (), rfl, rfl, vp_at ht hP⟩, hS.F ht⟩) hS.2.2 d_Z_letter_73
      · have hF := it_t hF h13
        refine lv_aload_n hx hb d_Z_letter_44 rfl (lv_at hl 0 rfl) ?_
        refine gf_Z_23 hx hb hts hown hK hP (by decide) a_581 d_Z_letter_45 ?_
        refine lv_iload_n hx hb d_Z_letter_48 rfl (lv_at hl 1 rfl) ?_
        obtain ⟨h17, hF⟩ := as_u hF
        refine l_zi hx hb hK hP 21 151 ⟨by decide, by decide, by decide⟩ rfl h17 d_Z_letter_49 ?_
        refine lv_goto (tgt := 73) hx hb d_Z_letter_50 (by decide) ?_
        obtain ⟨rfl, rfl⟩ := rt2 hF
        exact W.iret (v := (z4.1 21 (x1).toNatClampNeg)) hx hb hr (fun t ht hW => ⟨⟨_, (), rfl, rfl, vp_at ht hP⟩, hS.F ht⟩) hS.2.2 d_Z_letter_73
  · have hF := it_f hF h6
    refine lv_iconst (v := 0) hx hb d_Z_letter_33 (by decide) ?_
    obtain ⟨rfl, rfl⟩ := rt2 hF
    exact W.iret (v := 0) hx hb hr (fun t ht hW => ⟨⟨_, (), rfl, rfl, vp_at ht hP⟩, hS.F ht⟩) hS.2.2 d_Z_letter_34
set_option maxHeartbeats 4000000 in
set_option maxRecDepth 100000 in
theorem jn_Z_letter_22 {p : Program} {l : Launch} {e : Env} {s : State} {m : MethodId} {args : Array Value} {below : List Frame} {meth : Method} {c : Code} {D : va_G} {ad : Nat → Nat → Nat} {ca : Nat → ClassId} {u : XC} (hx : p.tables.exec = Jvm.exec) (hb : c.code = b_Z_letter) (hr : meth.sig.returnType = (some .int)) (hts : ∀ w ∈ ALL, w.before args s = true) (hown : s.vm.findClass R_Z = some m.cls) (hlocks : meth.locks = false) (hml : c.maxLocals = 3) (hK : va_K D CLS (TYH ca) s) (hD0 : ∀ z u, va_D (AH ad) (wh ad ca z u)) (hD : ∀ z u, va_D (AH ad) (wh ad ca z u))  : ∀ (z : ZW) (x1 : Int32) (x2 : Int32)  (r0 : Int32) (z0 : ZW), Fj_Z_letter_22  z x1 x2 = some (r0, z0) → ∀ (H : Heap) (locs : List Loc) (ls : Array Slot), va_P D CLS (wh ad ca z u) H → va_S (AH ad) s.heap H locs → lv_has ls 3 [(0, .ref (ad 14 0)), (1, .int x1), (2, .int x2)] → W p l e ({ frames := 1, cells := 0, slots := 0, locals := 21 } : Room) s m args below meth c H locs 0 0 (MQ below (va_Qi (fun (r : Int32) (_ : Unit) => r = r0) (fun _ t => va_P D CLS (wh ad ca z0 u) t.heap) (AH ad)) args s 0 0 (AH ad)) (F0 m 22 ls [.ref (ad 14 0)]) := by
  intro z x1 x2 r0 z0 hF H locs ls hP hS hl
  unfold Fj_Z_letter_22 at hF
  refine lv_iconst (v := 1) hx hb d_Z_letter_22 (by decide) ?_
  exact jn_Z_letter_23 hx hb hr hts hown hlocks hml hK hD0 hD  z x1 x2 1  r0 z0 hF _ _ _ hP hS (lv_sub hl [0, 1, 2] rfl)
set_option maxHeartbeats 4000000 in
set_option maxRecDepth 100000 in
theorem c_Z_letter (l : Launch) (D : va_G) (ad : Nat → Nat → Nat) (ca : Nat → ClassId) (hD0 : ∀ z u, va_D (AH ad) (wh ad ca z u)) {z : ZW} {u : XC} {a1 : Int32} {a2 : Int32} {r0 : Int32} {z0 : ZW}  (hF : F_Z_letter z a1 a2 = some (r0, z0)) : Met l y_Z_letter ws_Z_letter ({ frames := 1, cells := 0, slots := 0, locals := 21 } : Room) (va_Pc [.ref (ad 14 0), .int a1, .int a2] (fun U => va_P D CLS (wh ad ca z u) U.heap ∧ va_K D CLS (TYH ca) U)) (va_Qi (fun (r : Int32) (_ : Unit) => r = r0) (fun _ t => va_P D CLS (wh ad ca z0 u) t.heap) (AH ad)) 0 0 (AH ad) := by
  refine Met.ofW (cc := b_Z_letter) (maxL := 3) (ret := (some .int)) (by decide +kernel) rfl ?_
  intro p e s m args below meth c s₁ B hml hv
  obtain ⟨rfl, hP, hK⟩ := hv
  have hx := B.exec
  have hb := B.bytes
  have hr := B.returns
  have hts : ∀ w ∈ ALL, w.before _ s = true := fun w h => atoms_spec (ws := ws_Z_letter) B.pre w (List.mem_cons_of_mem _ h)
  have hown : s.vm.findClass R_Z = some m.cls := findClass_of_methodNamed B.named
  have hlocks := B.notSynchronized
  have hD := hD0
  have hS : va_S (AH ad) s.heap s.heap [] := va_S.rf
  have hP : va_P D CLS (wh ad ca z u) s.heap := hP
  have hl := lv_entry ([.ref (ad 14 0), .int a1, .int a2]) (n := 3) (Nat.le_of_ble_eq_true rfl)
  rw [lg_entry_eq]
  generalize (lg_sl ([.ref (ad 14 0), .int a1, .int a2]) ++ List.replicate (3 - (lg_sl ([.ref (ad 14 0), .int a1, .int a2])).length) Slot.unset).toArray = ls at hl ⊢
  have hl : lv_has ls 3 [(0, .ref (ad 14 0)), (1, .int a1), (2, .int a2)] := hl
  unfold F_Z_letter at hF
  refine lv_aload_n hx hb d_Z_letter_0 rfl (lv_at hl 0 rfl) ?_
  refine lv_aload_n hx hb d_Z_letter_1 rfl (lv_at hl 0 rfl) ?_
  refine lv_iload_n hx hb d_Z_letter_2 rfl (lv_at hl 1 rfl) ?_
  obtain ⟨r1, h2, hF⟩ := bs_u hF
  refine k_vp (ad 14 0) [.int a1] [.ref (ad 14 0)] ⟨hx, hb, hml, hown, hts⟩ (c_Z_isLetter l D ad ca hD0 (z := z) (u := u)  h2) (w_Z_isLetter hts a_706 ⟨Nat.le_of_ble_eq_true rfl, Nat.le_of_ble_eq_true rfl⟩) (rv_Z hK hP (by decide)) hP hK rfl rfl hl.1 (Nat.le_of_ble_eq_true rfl) ⟨Nat.zero_le _, Nat.zero_le _⟩ d_Z_letter_3 ?_
  refine lv_if_eq (tgt := 22) hx hb d_Z_letter_6 (by decide) (fun h3 => ?_) (fun h3 => ?_)
  · have hF := it_t hF h3
    exact jn_Z_letter_22 hx hb hr hts hown hlocks hml hK hD0 hD  z a1 a2  r0 z0 hF _ _ _ hP hS (lv_sub hl [0, 1, 2] rfl)
  · have hF := it_f hF h3
    refine lv_iload_n hx hb d_Z_letter_9 rfl (lv_at hl 2 rfl) ?_
    refine lv_if_lt (tgt := 22) hx hb d_Z_letter_10 (by decide) (fun h18 => ?_) (fun h18 => ?_)
    · have hF := it_t hF h18
      exact jn_Z_letter_22 hx hb hr hts hown hlocks hml hK hD0 hD  z a1 a2  r0 z0 hF _ _ _ hP hS (lv_sub hl [0, 1, 2] rfl)
    · have hF := it_f hF h18
      refine lv_iload_n hx hb d_Z_letter_13 rfl (lv_at hl 2 rfl) ?_
      refine lv_iconst (v := 5) hx hb d_Z_letter_14 (by decide) ?_
      refine lv_icmp_gt (tgt := 22) hx hb d_Z_letter_15 (by decide) (fun h19 => ?_) (fun h19 => ?_)
      · have hF := it_t hF h19
        exact jn_Z_letter_22 hx hb hr hts hown hlocks hml hK hD0 hD  z a1 a2  r0 z0 hF _ _ _ hP hS (lv_sub hl [0, 1, 2] rfl)
      · have hF := it_f hF h19
        refine lv_iconst (v := 0) hx hb d_Z_letter_18 (by decide) ?_
        refine lv_goto (tgt := 23) hx hb d_Z_letter_19 (by decide) ?_
        exact jn_Z_letter_23 hx hb hr hts hown hlocks hml hK hD0 hD  z a1 a2 0  r0 z0 hF _ _ _ hP hS (lv_sub hl [0, 1, 2] rfl)
def ws_Z_copyLetter : List Cond := Cond.code y_Z_copyLetter b_Z_copyLetter 3 none :: ALL
theorem w_Z_copyLetter {R : Room} {s : State} {args : Array Value} {own : String} {index : Nat} (hts : ∀ w ∈ ALL, w.before args s = true) (hlk : Cond.methodLink own index y_Z_copyLetter ∈ ALL) (hR : (({ frames := 0, cells := 0, slots := 0, locals := 0 } : Room)).frames + 1 ≤ R.frames ∧ 8 + (3 + 11) + (({ frames := 0, cells := 0, slots := 0, locals := 0 } : Room)).locals ≤ R.locals) : CallW R s args own R_Z index y_Z_copyLetter b_Z_copyLetter 3 none ws_Z_copyLetter ({ frames := 0, cells := 0, slots := 0, locals := 0 } : Room) 0 0 2 := ⟨callB_of 2 hts (good_c a_721) rfl rfl rfl (hts _ a_8) (hts _ hlk) (by decide +kernel) hR, hts _ a_720, hts _ a_s14⟩
theorem d_Z_copyLetter_0 : decode b_Z_copyLetter 0 = .ok (.aload_n 0, 1) := by decide +kernel
theorem d_Z_copyLetter_1 : decode b_Z_copyLetter 1 = .ok (.getfield 71, 3) := by decide +kernel
theorem d_Z_copyLetter_4 : decode b_Z_copyLetter 4 = .ok (.iload_n 2, 1) := by decide +kernel
theorem d_Z_copyLetter_5 : decode b_Z_copyLetter 5 = .ok (.aload_n 0, 1) := by decide +kernel
theorem d_Z_copyLetter_6 : decode b_Z_copyLetter 6 = .ok (.getfield 71, 3) := by decide +kernel
theorem d_Z_copyLetter_9 : decode b_Z_copyLetter 9 = .ok (.iload_n 1, 1) := by decide +kernel
theorem d_Z_copyLetter_10 : decode b_Z_copyLetter 10 = .ok (.iaload, 1) := by decide +kernel
theorem d_Z_copyLetter_11 : decode b_Z_copyLetter 11 = .ok (.iastore, 1) := by decide +kernel
theorem d_Z_copyLetter_12 : decode b_Z_copyLetter 12 = .ok (.aload_n 0, 1) := by decide +kernel
theorem d_Z_copyLetter_13 : decode b_Z_copyLetter 13 = .ok (.getfield 74, 3) := by decide +kernel
theorem d_Z_copyLetter_16 : decode b_Z_copyLetter 16 = .ok (.iload_n 2, 1) := by decide +kernel
theorem d_Z_copyLetter_17 : decode b_Z_copyLetter 17 = .ok (.aload_n 0, 1) := by decide +kernel
theorem d_Z_copyLetter_18 : decode b_Z_copyLetter 18 = .ok (.getfield 74, 3) := by decide +kernel
theorem d_Z_copyLetter_21 : decode b_Z_copyLetter 21 = .ok (.iload_n 1, 1) := by decide +kernel
theorem d_Z_copyLetter_22 : decode b_Z_copyLetter 22 = .ok (.iaload, 1) := by decide +kernel
theorem d_Z_copyLetter_23 : decode b_Z_copyLetter 23 = .ok (.iastore, 1) := by decide +kernel
theorem d_Z_copyLetter_24 : decode b_Z_copyLetter 24 = .ok (.aload_n 0, 1) := by decide +kernel
theorem d_Z_copyLetter_25 : decode b_Z_copyLetter 25 = .ok (.getfield 77, 3) := by decide +kernel
theorem d_Z_copyLetter_28 : decode b_Z_copyLetter 28 = .ok (.iload_n 2, 1) := by decide +kernel
theorem d_Z_copyLetter_29 : decode b_Z_copyLetter 29 = .ok (.aload_n 0, 1) := by decide +kernel
theorem d_Z_copyLetter_30 : decode b_Z_copyLetter 30 = .ok (.getfield 77, 3) := by decide +kernel
theorem d_Z_copyLetter_33 : decode b_Z_copyLetter 33 = .ok (.iload_n 1, 1) := by decide +kernel
theorem d_Z_copyLetter_34 : decode b_Z_copyLetter 34 = .ok (.iaload, 1) := by decide +kernel
theorem d_Z_copyLetter_35 : decode b_Z_copyLetter 35 = .ok (.iastore, 1) := by decide +kernel
theorem d_Z_copyLetter_36 : decode b_Z_copyLetter 36 = .ok (.aload_n 0, 1) := by decide +kernel
theorem d_Z_copyLetter_37 : decode b_Z_copyLetter 37 = .ok (.getfield 80, 3) := by decide +kernel
theorem d_Z_copyLetter_40 : decode b_Z_copyLetter 40 = .ok (.iload_n 2, 1) := by decide +kernel
theorem d_Z_copyLetter_41 : decode b_Z_copyLetter 41 = .ok (.aload_n 0, 1) := by decide +kernel
theorem d_Z_copyLetter_42 : decode b_Z_copyLetter 42 = .ok (.getfield 80, 3) := by decide +kernel
theorem d_Z_copyLetter_45 : decode b_Z_copyLetter 45 = .ok (.iload_n 1, 1) := by decide +kernel
theorem d_Z_copyLetter_46 : decode b_Z_copyLetter 46 = .ok (.iaload, 1) := by decide +kernel
theorem d_Z_copyLetter_47 : decode b_Z_copyLetter 47 = .ok (.iastore, 1) := by decide +kernel
theorem d_Z_copyLetter_48 : decode b_Z_copyLetter 48 = .ok (.aload_n 0, 1) := by decide +kernel
theorem d_Z_copyLetter_49 : decode b_Z_copyLetter 49 = .ok (.getfield 83, 3) := by decide +kernel
theorem d_Z_copyLetter_52 : decode b_Z_copyLetter 52 = .ok (.iload_n 2, 1) := by decide +kernel
theorem d_Z_copyLetter_53 : decode b_Z_copyLetter 53 = .ok (.aload_n 0, 1) := by decide +kernel
theorem d_Z_copyLetter_54 : decode b_Z_copyLetter 54 = .ok (.getfield 83, 3) := by decide +kernel
theorem d_Z_copyLetter_57 : decode b_Z_copyLetter 57 = .ok (.iload_n 1, 1) := by decide +kernel
theorem d_Z_copyLetter_58 : decode b_Z_copyLetter 58 = .ok (.iaload, 1) := by decide +kernel
theorem d_Z_copyLetter_59 : decode b_Z_copyLetter 59 = .ok (.iastore, 1) := by decide +kernel
theorem d_Z_copyLetter_60 : decode b_Z_copyLetter 60 = .ok (.aload_n 0, 1) := by decide +kernel
theorem d_Z_copyLetter_61 : decode b_Z_copyLetter 61 = .ok (.getfield 86, 3) := by decide +kernel
theorem d_Z_copyLetter_64 : decode b_Z_copyLetter 64 = .ok (.iload_n 2, 1) := by decide +kernel
theorem d_Z_copyLetter_65 : decode b_Z_copyLetter 65 = .ok (.aload_n 0, 1) := by decide +kernel
theorem d_Z_copyLetter_66 : decode b_Z_copyLetter 66 = .ok (.getfield 86, 3) := by decide +kernel
theorem d_Z_copyLetter_69 : decode b_Z_copyLetter 69 = .ok (.iload_n 1, 1) := by decide +kernel
theorem d_Z_copyLetter_70 : decode b_Z_copyLetter 70 = .ok (.iaload, 1) := by decide +kernel
theorem d_Z_copyLetter_71 : decode b_Z_copyLetter 71 = .ok (.iastore, 1) := by decide +kernel
theorem d_Z_copyLetter_72 : decode b_Z_copyLetter 72 = .ok (.aload_n 0, 1) := by decide +kernel
theorem d_Z_copyLetter_73 : decode b_Z_copyLetter 73 = .ok (.getfield 89, 3) := by decide +kernel
theorem d_Z_copyLetter_76 : decode b_Z_copyLetter 76 = .ok (.iload_n 2, 1) := by decide +kernel
theorem d_Z_copyLetter_77 : decode b_Z_copyLetter 77 = .ok (.aload_n 0, 1) := by decide +kernel
theorem d_Z_copyLetter_78 : decode b_Z_copyLetter 78 = .ok (.getfield 89, 3) := by decide +kernel
theorem d_Z_copyLetter_81 : decode b_Z_copyLetter 81 = .ok (.iload_n 1, 1) := by decide +kernel
theorem d_Z_copyLetter_82 : decode b_Z_copyLetter 82 = .ok (.iaload, 1) := by decide +kernel
theorem d_Z_copyLetter_83 : decode b_Z_copyLetter 83 = .ok (.iastore, 1) := by decide +kernel
theorem d_Z_copyLetter_84 : decode b_Z_copyLetter 84 = .ok (.aload_n 0, 1) := by decide +kernel
theorem d_Z_copyLetter_85 : decode b_Z_copyLetter 85 = .ok (.getfield 92, 3) := by decide +kernel
theorem d_Z_copyLetter_88 : decode b_Z_copyLetter 88 = .ok (.iload_n 2, 1) := by decide +kernel
theorem d_Z_copyLetter_89 : decode b_Z_copyLetter 89 = .ok (.aload_n 0, 1) := by decide +kernel
theorem d_Z_copyLetter_90 : decode b_Z_copyLetter 90 = .ok (.getfield 92, 3) := by decide +kernel
theorem d_Z_copyLetter_93 : decode b_Z_copyLetter 93 = .ok (.iload_n 1, 1) := by decide +kernel
theorem d_Z_copyLetter_94 : decode b_Z_copyLetter 94 = .ok (.iaload, 1) := by decide +kernel
theorem d_Z_copyLetter_95 : decode b_Z_copyLetter 95 = .ok (.iastore, 1) := by decide +kernel
theorem d_Z_copyLetter_96 : decode b_Z_copyLetter 96 = .ok (.return_, 1) := by decide +kernel
def F_Z_copyLetter (z : ZW) (a1 : Int32) (a2 : Int32) : Option (ZW) := (if 0 ≤ a1 ∧ (a1).toNatClampNeg < 151 then (if 0 ≤ a2 ∧ (a2).toNatClampNeg < 151 then (nm_ (pz z 21 (a2).toNatClampNeg (z.1 21 (a1).toNatClampNeg)) fun z3 => (if 0 ≤ a1 ∧ (a1).toNatClampNeg < 151 then (if 0 ≤ a2 ∧ (a2).toNatClampNeg < 151 then (nm_ (pz z3 22 (a2).toNatClampNeg (z3.1 22 (a1).toNatClampNeg)) fun z7 => (if 0 ≤ a1 ∧ (a1).toNatClampNeg < 151 then (if 0 ≤ a2 ∧ (a2).toNatClampNeg < 151 then (nm_ (pz z7 23 (a2).toNatClampNeg (z7.1 23 (a1).toNatClampNeg)) fun z11 => (if 0 ≤ a1 ∧ (a1).toNatClampNeg < 151 then (if 0 ≤ a2 ∧ (a2).toNatClampNeg < 151 then (nm_ (pz z11 24 (a2).toNatClampNeg (z11.1 24 (a1).toNatClampNeg)) fun z15 => (if 0 ≤ a1 ∧ (a1).toNatClampNeg < 151 then (if 0 ≤ a2 ∧ (a2).toNatClampNeg < 151 then (nm_ (pz z15 25 (a2).toNatClampNeg (z15.1 25 (a1).toNatClampNeg)) fun z19 => (if 0 ≤ a1 ∧ (a1).toNatClampNeg < 151 then (if 0 ≤ a2 ∧ (a2).toNatClampNeg < 151 then (nm_ (pz z19 26 (a2).toNatClampNeg (z19.1 26 (a1).toNatClampNeg)) fun z23 => (if 0 ≤ a1 ∧ (a1).toNatClampNeg < 151 then (if 0 ≤ a2 ∧ (a2).toNatClampNeg < 151 then (nm_ (pz z23 27 (a2).toNatClampNeg (z23.1 27 (a1).toNatClampNeg)) fun z27 => (if 0 ≤ a1 ∧ (a1).toNatClampNeg < 151 then (if 0 ≤ a2 ∧ (a2).toNatClampNeg < 151 then (nm_ (pz z27 28 (a2).toNatClampNeg (z27.1 28 (a1).toNatClampNeg)) fun z31 => some z31) else none) else none)) else none) else none)) else none) else none)) else none) else none)) else none) else none)) else none) else none)) else none) else none)) else none) else none)
set_option maxHeartbeats 4000000 in
set_option maxRecDepth 100000 in
theorem c_Z_copyLetter (l : Launch) (D : va_G) (ad : Nat → Nat → Nat) (ca : Nat → ClassId) (hD0 : ∀ z u, va_D (AH ad) (wh ad ca z u)) {z : ZW} {u : XC} {a1 : Int32} {a2 : Int32} {z0 : ZW}  (hF : F_Z_copyLetter z a1 a2 = some z0) : Met l y_Z_copyLetter ws_Z_copyLetter ({ frames := 0, cells := 0, slots := 0, locals := 0 } : Room) (va_Pc [.ref (ad 14 0), .int a1, .int a2] (fun U => va_P D CLS (wh ad ca z u) U.heap ∧ va_K D CLS (TYH ca) U)) (va_Qv (fun (_ : Unit) => True) (fun _ t => va_P D CLS (wh ad ca z0 u) t.heap) (AH ad)) 0 0 (AH ad) := by
  refine Met.ofW (cc := b_Z_copyLetter) (maxL := 3) (ret := none) (by decide +kernel) rfl ?_
  intro p e s m args below meth c s₁ B hml hv
  obtain ⟨rfl, hP, hK⟩ := hv
  have hx := B.exec
  have hb := B.bytes
  have hr := B.returns
  have hts : ∀ w ∈ ALL, w.before _ s = true := fun w h => atoms_spec (ws := ws_Z_copyLetter) B.pre w (List.mem_cons_of_mem _ h)
  have hown : s.vm.findClass R_Z = some m.cls := findClass_of_methodNamed B.named
  have hlocks := B.notSynchronized
  have hD := hD0
  have hS : va_S (AH ad) s.heap s.heap [] := va_S.rf
  have hP : va_P D CLS (wh ad ca z u) s.heap := hP
  have hl := lv_entry ([.ref (ad 14 0), .int a1, .int a2]) (n := 3) (Nat.le_of_ble_eq_true rfl)
  rw [lg_entry_eq]
  generalize (lg_sl ([.ref (ad 14 0), .int a1, .int a2]) ++ List.replicate (3 - (lg_sl ([.ref (ad 14 0), .int a1, .int a2])).length) Slot.unset).toArray = ls at hl ⊢
  have hl : lv_has ls 3 [(0, .ref (ad 14 0)), (1, .int a1), (2, .int a2)] := hl
  unfold F_Z_copyLetter at hF
  refine lv_aload_n hx hb d_Z_copyLetter_0 rfl (lv_at hl 0 rfl) ?_
  refine gf_Z_23 hx hb hts hown hK hP (by decide) a_581 d_Z_copyLetter_1 ?_
  refine lv_iload_n hx hb d_Z_copyLetter_4 rfl (lv_at hl 2 rfl) ?_
  refine lv_aload_n hx hb d_Z_copyLetter_5 rfl (lv_at hl 0 rfl) ?_
  refine gf_Z_23 hx hb hts hown hK hP (by decide) a_581 d_Z_copyLetter_6 ?_
  refine lv_iload_n hx hb d_Z_copyLetter_9 rfl (lv_at hl 1 rfl) ?_
  obtain ⟨h1, hF⟩ := as_u hF
  refine l_zi hx hb hK hP 21 151 ⟨by decide, by decide, by decide⟩ rfl h1 d_Z_copyLetter_10 ?_
  obtain ⟨h2, hF⟩ := as_u hF
  obtain ⟨z3, h4, hF⟩ := nm_u hF
  refine s_zi hx hb hK hP 21 151 hD hS ⟨by decide, by decide, by decide⟩ rfl h2 h4 d_Z_copyLetter_11 (fun H locs hP hS => ?_)
  refine lv_aload_n hx hb d_Z_copyLetter_12 rfl (lv_at hl 0 rfl) ?_
  refine gf_Z_24 hx hb hts hown hK hP (by decide) a_582 d_Z_copyLetter_13 ?_
  refine lv_iload_n hx hb d_Z_copyLetter_16 rfl (lv_at hl 2 rfl) ?_
  refine lv_aload_n hx hb d_Z_copyLetter_17 rfl (lv_at hl 0 rfl) ?_
  refine gf_Z_24 hx hb hts hown hK hP (by decide) a_582 d_Z_copyLetter_18 ?_
  refine lv_iload_n hx hb d_Z_copyLetter_21 rfl (lv_at hl 1 rfl) ?_
  obtain ⟨h5, hF⟩ := as_u hF
  refine l_zi hx hb hK hP 22 151 ⟨by decide, by decide, by decide⟩ rfl h5 d_Z_copyLetter_22 ?_
  obtain ⟨h6, hF⟩ := as_u hF
  obtain ⟨z7, h8, hF⟩ := nm_u hF
  refine s_zi hx hb hK hP 22 151 hD hS ⟨by decide, by decide, by decide⟩ rfl h6 h8 d_Z_copyLetter_23 (fun H locs hP hS => ?_)
  refine lv_aload_n hx hb d_Z_copyLetter_24 rfl (lv_at hl 0 rfl) ?_
  refine gf_Z_25 hx hb hts hown hK hP (by decide) a_583 d_Z_copyLetter_25 ?_
  refine lv_iload_n hx hb d_Z_copyLetter_28 rfl (lv_at hl 2 rfl) ?_
  refine lv_aload_n hx hb d_Z_copyLetter_29 rfl (lv_at hl 0 rfl) ?_
  refine gf_Z_25 hx hb hts hown hK hP (by decide) a_583 d_Z_copyLetter_30 ?_
  refine lv_iload_n hx hb d_Z_copyLetter_33 rfl (lv_at hl 1 rfl) ?_
  obtain ⟨h9, hF⟩ := as_u hF
  refine l_zi hx hb hK hP 23 151 ⟨by decide, by decide, by decide⟩ rfl h9 d_Z_copyLetter_34 ?_
  obtain ⟨h10, hF⟩ := as_u hF
  obtain ⟨z11, h12, hF⟩ := nm_u hF
  refine s_zi hx hb hK hP 23 151 hD hS ⟨by decide, by decide, by decide⟩ rfl h10 h12 d_Z_copyLetter_35 (fun H locs hP hS => ?_)
  refine lv_aload_n hx hb d_Z_copyLetter_36 rfl (lv_at hl 0 rfl) ?_
  refine gf_Z_26 hx hb hts hown hK hP (by decide) a_584 d_Z_copyLetter_37 ?_
  refine lv_iload_n hx hb d_Z_copyLetter_40 rfl (lv_at hl 2 rfl) ?_
  refine lv_aload_n hx hb d_Z_copyLetter_41 rfl (lv_at hl 0 rfl) ?_
  refine gf_Z_26 hx hb hts hown hK hP (by decide) a_584 d_Z_copyLetter_42 ?_
  refine lv_iload_n hx hb d_Z_copyLetter_45 rfl (lv_at hl 1 rfl) ?_
  obtain ⟨h13, hF⟩ := as_u hF
  refine l_zi hx hb hK hP 24 151 ⟨by decide, by decide, by decide⟩ rfl h13 d_Z_copyLetter_46 ?_
  obtain ⟨h14, hF⟩ := as_u hF
  obtain ⟨z15, h16, hF⟩ := nm_u hF
  refine s_zi hx hb hK hP 24 151 hD hS ⟨by decide, by decide, by decide⟩ rfl h14 h16 d_Z_copyLetter_47 (fun H locs hP hS => ?_)
  refine lv_aload_n hx hb d_Z_copyLetter_48 rfl (lv_at hl 0 rfl) ?_
  refine gf_Z_27 hx hb hts hown hK hP (by decide) a_585 d_Z_copyLetter_49 ?_
  refine lv_iload_n hx hb d_Z_copyLetter_52 rfl (lv_at hl 2 rfl) ?_
  refine lv_aload_n hx hb d_Z_copyLetter_53 rfl (lv_at hl 0 rfl) ?_
  refine gf_Z_27 hx hb hts hown hK hP (by decide) a_585 d_Z_copyLetter_54 ?_
  refine lv_iload_n hx hb d_Z_copyLetter_57 rfl (lv_at hl 1 rfl) ?_
  obtain ⟨h17, hF⟩ := as_u hF
  refine l_zi hx hb hK hP 25 151 ⟨by decide, by decide, by decide⟩ rfl h17 d_Z_copyLetter_58 ?_
  obtain ⟨h18, hF⟩ := as_u hF
  obtain ⟨z19, h20, hF⟩ := nm_u hF
  refine s_zi hx hb hK hP 25 151 hD hS ⟨by decide, by decide, by decide⟩ rfl h18 h20 d_Z_copyLetter_59 (fun H locs hP hS => ?_)
  refine lv_aload_n hx hb d_Z_copyLetter_60 rfl (lv_at hl 0 rfl) ?_
  refine gf_Z_28 hx hb hts hown hK hP (by decide) a_586 d_Z_copyLetter_61 ?_
  refine lv_iload_n hx hb d_Z_copyLetter_64 rfl (lv_at hl 2 rfl) ?_
  refine lv_aload_n hx hb d_Z_copyLetter_65 rfl (lv_at hl 0 rfl) ?_
  refine gf_Z_28 hx hb hts hown hK hP (by decide) a_586 d_Z_copyLetter_66 ?_
  refine lv_iload_n hx hb d_Z_copyLetter_69 rfl (lv_at hl 1 rfl) ?_
  obtain ⟨h21, hF⟩ := as_u hF
  refine l_zi hx hb hK hP 26 151 ⟨by decide, by decide, by decide⟩ rfl h21 d_Z_copyLetter_70 ?_
  obtain ⟨h22, hF⟩ := as_u hF
  obtain ⟨z23, h24, hF⟩ := nm_u hF
  refine s_zi hx hb hK hP 26 151 hD hS ⟨by decide, by decide, by decide⟩ rfl h22 h24 d_Z_copyLetter_71 (fun H locs hP hS => ?_)
  refine lv_aload_n hx hb d_Z_copyLetter_72 rfl (lv_at hl 0 rfl) ?_
  refine gf_Z_29 hx hb hts hown hK hP (by decide) a_587 d_Z_copyLetter_73 ?_
  refine lv_iload_n hx hb d_Z_copyLetter_76 rfl (lv_at hl 2 rfl) ?_
  refine lv_aload_n hx hb d_Z_copyLetter_77 rfl (lv_at hl 0 rfl) ?_
  refine gf_Z_29 hx hb hts hown hK hP (by decide) a_587 d_Z_copyLetter_78 ?_
  refine lv_iload_n hx hb d_Z_copyLetter_81 rfl (lv_at hl 1 rfl) ?_
  obtain ⟨h25, hF⟩ := as_u hF
  refine l_zi hx hb hK hP 27 151 ⟨by decide, by decide, by decide⟩ rfl h25 d_Z_copyLetter_82 ?_
  obtain ⟨h26, hF⟩ := as_u hF
  obtain ⟨z27, h28, hF⟩ := nm_u hF
  refine s_zi hx hb hK hP 27 151 hD hS ⟨by decide, by decide, by decide⟩ rfl h26 h28 d_Z_copyLetter_83 (fun H locs hP hS => ?_)
  refine lv_aload_n hx hb d_Z_copyLetter_84 rfl (lv_at hl 0 rfl) ?_
  refine gf_Z_30 hx hb hts hown hK hP (by decide) a_588 d_Z_copyLetter_85 ?_
  refine lv_iload_n hx hb d_Z_copyLetter_88 rfl (lv_at hl 2 rfl) ?_
  refine lv_aload_n hx hb d_Z_copyLetter_89 rfl (lv_at hl 0 rfl) ?_
  refine gf_Z_30 hx hb hts hown hK hP (by decide) a_588 d_Z_copyLetter_90 ?_
  refine lv_iload_n hx hb d_Z_copyLetter_93 rfl (lv_at hl 1 rfl) ?_
  obtain ⟨h29, hF⟩ := as_u hF
  refine l_zi hx hb hK hP 28 151 ⟨by decide, by decide, by decide⟩ rfl h29 d_Z_copyLetter_94 ?_
  obtain ⟨h30, hF⟩ := as_u hF
  obtain ⟨z31, h32, hF⟩ := nm_u hF
  refine s_zi hx hb hK hP 28 151 hD hS ⟨by decide, by decide, by decide⟩ rfl h30 h32 d_Z_copyLetter_95 (fun H locs hP hS => ?_)
  have hF := rt1 hF
  subst hF
  exact W.vret hx hb hr (fun t ht hW => ⟨⟨(), rfl, trivial, vp_at ht hP⟩, hS.F ht⟩) hS.2.2 d_Z_copyLetter_96
def ws_Z_takeOut : List Cond := Cond.code y_Z_takeOut b_Z_takeOut 3 none :: ALL
theorem w_Z_takeOut {R : Room} {s : State} {args : Array Value} {own : String} {index : Nat} (hts : ∀ w ∈ ALL, w.before args s = true) (hlk : Cond.methodLink own index y_Z_takeOut ∈ ALL) (hR : (({ frames := 1, cells := 0, slots := 0, locals := 22 } : Room)).frames + 1 ≤ R.frames ∧ 8 + (3 + 11) + (({ frames := 1, cells := 0, slots := 0, locals := 22 } : Room)).locals ≤ R.locals) : CallW R s args own R_Z index y_Z_takeOut b_Z_takeOut 3 none ws_Z_takeOut ({ frames := 1, cells := 0, slots := 0, locals := 22 } : Room) 0 0 1 := ⟨callB_of 1 hts (good_c a_717) rfl rfl rfl (hts _ a_8) (hts _ hlk) (by decide +kernel) hR, hts _ a_716, hts _ a_s13⟩
theorem d_Z_takeOut_0 : decode b_Z_takeOut 0 = .ok (.iload_n 1, 1) := by decide +kernel
theorem d_Z_takeOut_1 : decode b_Z_takeOut 1 = .ok (.istore_n 2, 1) := by decide +kernel
theorem d_Z_takeOut_2 : decode b_Z_takeOut 2 = .ok (.iload_n 2, 1) := by decide +kernel
theorem d_Z_takeOut_3 : decode b_Z_takeOut 3 = .ok (.iconst 1, 1) := by decide +kernel
theorem d_Z_takeOut_4 : decode b_Z_takeOut 4 = .ok (.iadd, 1) := by decide +kernel
theorem d_Z_takeOut_5 : decode b_Z_takeOut 5 = .ok (.aload_n 0, 1) := by decide +kernel
theorem d_Z_takeOut_6 : decode b_Z_takeOut 6 = .ok (.getfield 131, 3) := by decide +kernel
theorem d_Z_takeOut_9 : decode b_Z_takeOut 9 = .ok (.if_icmp .ge 17, 3) := by decide +kernel
theorem d_Z_takeOut_12 : decode b_Z_takeOut 12 = .ok (.aload_n 0, 1) := by decide +kernel
theorem d_Z_takeOut_13 : decode b_Z_takeOut 13 = .ok (.iload_n 2, 1) := by decide +kernel
theorem d_Z_takeOut_14 : decode b_Z_takeOut 14 = .ok (.iconst 1, 1) := by decide +kernel
theorem d_Z_takeOut_15 : decode b_Z_takeOut 15 = .ok (.iadd, 1) := by decide +kernel
theorem d_Z_takeOut_16 : decode b_Z_takeOut 16 = .ok (.iload_n 2, 1) := by decide +kernel
theorem d_Z_takeOut_17 : decode b_Z_takeOut 17 = .ok (.invokevirtual 138, 3) := by decide +kernel
theorem d_Z_takeOut_20 : decode b_Z_takeOut 20 = .ok (.iinc 2 1, 3) := by decide +kernel
theorem d_Z_takeOut_23 : decode b_Z_takeOut 23 = .ok (.goto (-21), 3) := by decide +kernel
theorem d_Z_takeOut_26 : decode b_Z_takeOut 26 = .ok (.aload_n 0, 1) := by decide +kernel
theorem d_Z_takeOut_27 : decode b_Z_takeOut 27 = .ok (.aload_n 0, 1) := by decide +kernel
theorem d_Z_takeOut_28 : decode b_Z_takeOut 28 = .ok (.getfield 131, 3) := by decide +kernel
theorem d_Z_takeOut_31 : decode b_Z_takeOut 31 = .ok (.iconst 1, 1) := by decide +kernel
theorem d_Z_takeOut_32 : decode b_Z_takeOut 32 = .ok (.isub, 1) := by decide +kernel
theorem d_Z_takeOut_33 : decode b_Z_takeOut 33 = .ok (.putfield 131, 3) := by decide +kernel
theorem d_Z_takeOut_36 : decode b_Z_takeOut 36 = .ok (.return_, 1) := by decide +kernel
def Fj_Z_takeOut_26  (z : ZW) : Option (ZW) := (nm_ (pz z 0 22 ((z.1 0 22) - 1)) fun z2 => some z2)
def Fl_Z_takeOut_2  : Nat → ZW → Int32 → Option (ZW)
  | 0, _, _ => none
  | n + 1, z, x2 => (if (z.1 0 22) ≤ (x2 + 1) then Fj_Z_takeOut_26  z else (bs_ (F_Z_copyLetter z (x2 + 1) x2) fun z6 => (Fl_Z_takeOut_2 n) z6 (x2 + 1)))
def F_Z_takeOut (z : ZW) (a1 : Int32) : Option (ZW) := Fl_Z_takeOut_2  200 z a1
set_option maxHeartbeats 4000000 in
set_option maxRecDepth 100000 in
theorem jn_Z_takeOut_26 {p : Program} {l : Launch} {e : Env} {s : State} {m : MethodId} {args : Array Value} {below : List Frame} {meth : Method} {c : Code} {D : va_G} {ad : Nat → Nat → Nat} {ca : Nat → ClassId} {u : XC} (hx : p.tables.exec = Jvm.exec) (hb : c.code = b_Z_takeOut) (hr : meth.sig.returnType = none) (hts : ∀ w ∈ ALL, w.before args s = true) (hown : s.vm.findClass R_Z = some m.cls) (hlocks : meth.locks = false) (hml : c.maxLocals = 3) (hK : va_K D CLS (TYH ca) s) (hD0 : ∀ z u, va_D (AH ad) (wh ad ca z u)) (hD : ∀ z u, va_D (AH ad) (wh ad ca z u))  : ∀ (z : ZW)  (z0 : ZW), Fj_Z_takeOut_26  z = some z0 → ∀ (H : Heap) (locs : List Loc) (ls : Array Slot), va_P D CLS (wh ad ca z u) H → va_S (AH ad) s.heap H locs → lv_has ls 3 [(0, .ref (ad 14 0))] → W p l e ({ frames := 1, cells := 0, slots := 0, locals := 22 } : Room) s m args below meth c H locs 0 0 (MQ below (va_Qv (fun (_ : Unit) => True) (fun _ t => va_P D CLS (wh ad ca z0 u) t.heap) (AH ad)) args s 0 0 (AH ad)) (F0 m 26 ls []) := by
  intro z z0 hF H locs ls hP hS hl
  unfold Fj_Z_takeOut_26 at hF
  refine lv_aload_n hx hb d_Z_takeOut_26 rfl (lv_at hl 0 rfl) ?_
  refine lv_aload_n hx hb d_Z_takeOut_27 rfl (lv_at hl 0 rfl) ?_
  refine gf_Z_22 hx hb hts hown hK hP (by decide) a_580 d_Z_takeOut_28 ?_
  refine lv_iconst (v := 1) hx hb d_Z_takeOut_31 (by decide) ?_
  refine lv_isub hx hb d_Z_takeOut_32 ?_
  obtain ⟨z2, h3, hF⟩ := nm_u hF
  refine pf_Z_22 hx hb hts hown hK hP hD hS (by decide) h3 a_580 d_Z_takeOut_33 (fun H locs hP hS => ?_)
  have hF := rt1 hF
  subst hF
  exact W.vret hx hb hr (fun t ht hW => ⟨⟨(), rfl, trivial, vp_at ht hP⟩, hS.F ht⟩) hS.2.2 d_Z_takeOut_36
set_option maxHeartbeats 4000000 in
set_option maxRecDepth 100000 in
theorem lp_Z_takeOut_2 {p : Program} {l : Launch} {e : Env} {s : State} {m : MethodId} {args : Array Value} {below : List Frame} {meth : Method} {c : Code} {D : va_G} {ad : Nat → Nat → Nat} {ca : Nat → ClassId} {u : XC} (hx : p.tables.exec = Jvm.exec) (hb : c.code = b_Z_takeOut) (hr : meth.sig.returnType = none) (hts : ∀ w ∈ ALL, w.before args s = true) (hown : s.vm.findClass R_Z = some m.cls) (hlocks : meth.locks = false) (hml : c.maxLocals = 3) (hK : va_K D CLS (TYH ca) s) (hD0 : ∀ z u, va_D (AH ad) (wh ad ca z u)) (hD : ∀ z u, va_D (AH ad) (wh ad ca z u))  : ∀ (n : Nat), ∀ (z : ZW) (x2 : Int32)  (z0 : ZW), Fl_Z_takeOut_2  n z x2 = some z0 → ∀ (H : Heap) (locs : List Loc) (ls : Array Slot), va_P D CLS (wh ad ca z u) H → va_S (AH ad) s.heap H locs → lv_has ls 3 [(0, .ref (ad 14 0)), (2, .int x2)] → W p l e ({ frames := 1, cells := 0, slots := 0, locals := 22 } : Room) s m args below meth c H locs 0 0 (MQ below (va_Qv (fun (_ : Unit) => True) (fun _ t => va_P D CLS (wh ad ca z0 u) t.heap) (AH ad)) args s 0 0 (AH ad)) (F0 m 2 ls []) := by
  intro n
  induction n with
  | zero => intro z x2 z0 hF; rw [Fl_Z_takeOut_2] at hF; cases hF
  | succ n ih =>
    intro z x2 z0 hF H locs ls hP hS hl
    rw [Fl_Z_takeOut_2] at hF
    refine lv_iload_n hx hb d_Z_takeOut_2 rfl (lv_at hl 1 rfl) ?_
    refine lv_iconst (v := 1) hx hb d_Z_takeOut_3 (by decide) ?_
    refine lv_iadd hx hb d_Z_takeOut_4 ?_
    refine lv_aload_n hx hb d_Z_takeOut_5 rfl (lv_at hl 0 rfl) ?_
    refine gf_Z_22 hx hb hts hown hK hP (by decide) a_580 d_Z_takeOut_6 ?_
    refine lv_icmp_ge (tgt := 26) hx hb d_Z_takeOut_9 (by decide) (fun h1 => ?_) (fun h1 => ?_)
    · have hF := it_t hF h1
      exact jn_Z_takeOut_26 hx hb hr hts hown hlocks hml hK hD0 hD  z  z0 hF _ _ _ hP hS (lv_sub hl [0] rfl)
    · have hF := it_f hF h1
      refine lv_aload_n hx hb d_Z_takeOut_12 rfl (lv_at hl 0 rfl) ?_
      refine lv_iload_n hx hb d_Z_takeOut_13 rfl (lv_at hl 1 rfl) ?_
      refine lv_iconst (v := 1) hx hb d_Z_takeOut_14 (by decide) ?_
      refine lv_iadd hx hb d_Z_takeOut_15 ?_
      refine lv_iload_n hx hb d_Z_takeOut_16 rfl (lv_at hl 1 rfl) ?_
      obtain ⟨z6, h5, hF⟩ := bs_u hF
      refine k_vv (ad 14 0) [.int (x2 + 1), .int x2] [] ⟨hx, hb, hml, hown, hts⟩ (c_Z_copyLetter l D ad ca hD0 (z := z) (u := u)  h5) (w_Z_copyLetter hts a_718 ⟨Nat.le_of_ble_eq_true rfl, Nat.le_of_ble_eq_true rfl⟩) (rv_Z hK hP (by decide)) hP hK hS (fun _ h => h) rfl rfl hl.1 (Nat.le_of_ble_eq_true rfl) ⟨Nat.zero_le _, Nat.zero_le _⟩ d_Z_takeOut_17 (fun H locs hP hS => ?_)
      refine lv_iinc (k := 1) (v := (x2 + 1)) (lv' := [(2, .int (x2 + 1)), (0, .ref (ad 14 0))]) hx hb d_Z_takeOut_20 hl rfl rfl (by decide) rfl (fun ls hl => ?_)
      refine lv_goto (tgt := 2) hx hb d_Z_takeOut_23 (by decide) ?_
      exact ih z6 (x2 + 1)  z0 hF _ _ _ hP hS (lv_sub hl [1, 0] rfl)
set_option maxHeartbeats 4000000 in
set_option maxRecDepth 100000 in
theorem c_Z_takeOut (l : Launch) (D : va_G) (ad : Nat → Nat → Nat) (ca : Nat → ClassId) (hD0 : ∀ z u, va_D (AH ad) (wh ad ca z u)) {z : ZW} {u : XC} {a1 : Int32} {z0 : ZW}  (hF : F_Z_takeOut z a1 = some z0) : Met l y_Z_takeOut ws_Z_takeOut ({ frames := 1, cells := 0, slots := 0, locals := 22 } : Room) (va_Pc [.ref (ad 14 0), .int a1] (fun U => va_P D CLS (wh ad ca z u) U.heap ∧ va_K D CLS (TYH ca) U)) (va_Qv (fun (_ : Unit) => True) (fun _ t => va_P D CLS (wh ad ca z0 u) t.heap) (AH ad)) 0 0 (AH ad) := by
  refine Met.ofW (cc := b_Z_takeOut) (maxL := 3) (ret := none) (by decide +kernel) rfl ?_
  intro p e s m args below meth c s₁ B hml hv
  obtain ⟨rfl, hP, hK⟩ := hv
  have hx := B.exec
  have hb := B.bytes
  have hr := B.returns
  have hts : ∀ w ∈ ALL, w.before _ s = true := fun w h => atoms_spec (ws := ws_Z_takeOut) B.pre w (List.mem_cons_of_mem _ h)
  have hown : s.vm.findClass R_Z = some m.cls := findClass_of_methodNamed B.named
  have hlocks := B.notSynchronized
  have hD := hD0
  have hS : va_S (AH ad) s.heap s.heap [] := va_S.rf
  have hP : va_P D CLS (wh ad ca z u) s.heap := hP
  have hl := lv_entry ([.ref (ad 14 0), .int a1]) (n := 3) (Nat.le_of_ble_eq_true rfl)
  rw [lg_entry_eq]
  generalize (lg_sl ([.ref (ad 14 0), .int a1]) ++ List.replicate (3 - (lg_sl ([.ref (ad 14 0), .int a1])).length) Slot.unset).toArray = ls at hl ⊢
  have hl : lv_has ls 3 [(0, .ref (ad 14 0)), (1, .int a1)] := hl
  unfold F_Z_takeOut at hF
  refine lv_iload_n hx hb d_Z_takeOut_0 rfl (lv_at hl 1 rfl) ?_
  refine lv_istore_n (lv' := [(2, .int a1), (0, .ref (ad 14 0)), (1, .int a1)]) hx hb d_Z_takeOut_1 rfl hl (by decide) rfl (fun ls hl => ?_)
  exact lp_Z_takeOut_2 hx hb hr hts hown hlocks hml hK hD0 hD  200 z a1  z0 hF _ _ _ hP hS (lv_sub hl [1, 0] rfl)
def ws_Z_lose : List Cond := Cond.code y_Z_lose b_Z_lose 2 (some .boolean) :: ALL
theorem w_Z_lose {R : Room} {s : State} {args : Array Value} {own : String} {index : Nat} (hts : ∀ w ∈ ALL, w.before args s = true) (hlk : Cond.methodLink own index y_Z_lose ∈ ALL) (hR : (({ frames := 2, cells := 0, slots := 0, locals := 44 } : Room)).frames + 1 ≤ R.frames ∧ 8 + (2 + 11) + (({ frames := 2, cells := 0, slots := 0, locals := 44 } : Room)).locals ≤ R.locals) : CallW R s args own R_Z index y_Z_lose b_Z_lose 2 (some .boolean) ws_Z_lose ({ frames := 2, cells := 0, slots := 0, locals := 44 } : Room) 0 0 1 := ⟨callB_of 1 hts (good_c a_713) rfl rfl rfl (hts _ a_8) (hts _ hlk) (by decide +kernel) hR, hts _ a_711, hts _ a_712⟩
theorem d_Z_lose_0 : decode b_Z_lose 0 = .ok (.aload_n 0, 1) := by decide +kernel
theorem d_Z_lose_1 : decode b_Z_lose 1 = .ok (.iconst 0, 1) := by decide +kernel
theorem d_Z_lose_2 : decode b_Z_lose 2 = .ok (.putfield 95, 3) := by decide +kernel
theorem d_Z_lose_5 : decode b_Z_lose 5 = .ok (.aload_n 0, 1) := by decide +kernel
theorem d_Z_lose_6 : decode b_Z_lose 6 = .ok (.iload_n 1, 1) := by decide +kernel
theorem d_Z_lose_7 : decode b_Z_lose 7 = .ok (.invokevirtual 142, 3) := by decide +kernel
theorem d_Z_lose_10 : decode b_Z_lose 10 = .ok (.ifCond .ne 5, 3) := by decide +kernel
theorem d_Z_lose_13 : decode b_Z_lose 13 = .ok (.iconst 0, 1) := by decide +kernel
theorem d_Z_lose_14 : decode b_Z_lose 14 = .ok (.ireturn, 1) := by decide +kernel
theorem d_Z_lose_15 : decode b_Z_lose 15 = .ok (.aload_n 0, 1) := by decide +kernel
theorem d_Z_lose_16 : decode b_Z_lose 16 = .ok (.iload_n 1, 1) := by decide +kernel
theorem d_Z_lose_17 : decode b_Z_lose 17 = .ok (.invokevirtual 145, 3) := by decide +kernel
theorem d_Z_lose_20 : decode b_Z_lose 20 = .ok (.iconst 1, 1) := by decide +kernel
theorem d_Z_lose_21 : decode b_Z_lose 21 = .ok (.ireturn, 1) := by decide +kernel
def F_Z_lose (z : ZW) (a1 : Int32) : Option (Int32 × ZW) := (nm_ (pz z 0 0 0) fun z1 => (bs_ (F_Z_isLetter z1 a1) fun r3 => (if r3 = 0 then some (0, z1) else (bs_ (F_Z_takeOut z1 a1) fun z8 => some (1, z8)))))
set_option maxHeartbeats 4000000 in
set_option maxRecDepth 100000 in
theorem c_Z_lose (l : Launch) (D : va_G) (ad : Nat → Nat → Nat) (ca : Nat → ClassId) (hD0 : ∀ z u, va_D (AH ad) (wh ad ca z u)) {z : ZW} {u : XC} {a1 : Int32} {r0 : Int32} {z0 : ZW}  (hF : F_Z_lose z a1 = some (r0, z0)) : Met l y_Z_lose ws_Z_lose ({ frames := 2, cells := 0, slots := 0, locals := 44 } : Room) (va_Pc [.ref (ad 14 0), .int a1] (fun U => va_P D CLS (wh ad ca z u) U.heap ∧ va_K D CLS (TYH ca) U)) (va_Qi (fun (r : Int32) (_ : Unit) => r = r0) (fun _ t => va_P D CLS (wh ad ca z0 u) t.heap) (AH ad)) 0 0 (AH ad) := by
  refine Met.ofW (cc := b_Z_lose) (maxL := 2) (ret := (some .boolean)) (by decide +kernel) rfl ?_
  intro p e s m args below meth c s₁ B hml hv
  obtain ⟨rfl, hP, hK⟩ := hv
  have hx := B.exec
  have hb := B.bytes
  have hr := B.returns
  have hts : ∀ w ∈ ALL, w.before _ s = true := fun w h => atoms_spec (ws := ws_Z_lose) B.pre w (List.mem_cons_of_mem _ h)
  have hown : s.vm.findClass R_Z = some m.cls := findClass_of_methodNamed B.named
  have hlocks := B.notSynchronized
  have hD := hD0
  have hS : va_S (AH ad) s.heap s.heap [] := va_S.rf
  have hP : va_P D CLS (wh ad ca z u) s.heap := hP
  have hl := lv_entry ([.ref (ad 14 0), .int a1]) (n := 2) (Nat.le_of_ble_eq_true rfl)
  rw [lg_entry_eq]
  generalize (lg_sl ([.ref (ad 14 0), .int a1]) ++ List.replicate (2 - (lg_sl ([.ref (ad 14 0), .int a1])).length) Slot.unset).toArray = ls at hl ⊢
  have hl : lv_has ls 2 [(0, .ref (ad 14 0)), (1, .int a1)] := hl
  unfold F_Z_lose at hF
  refine lv_aload_n hx hb d_Z_lose_0 rfl (lv_at hl 0 rfl) ?_
  refine lv_iconst (v := 0) hx hb d_Z_lose_1 (by decide) ?_
  obtain ⟨z1, h2, hF⟩ := nm_u hF
  refine pf_Z_0 hx hb hts hown hK hP hD hS (by decide) h2 a_558 d_Z_lose_2 (fun H locs hP hS => ?_)
  refine lv_aload_n hx hb d_Z_lose_5 rfl (lv_at hl 0 rfl) ?_
  refine lv_iload_n hx hb d_Z_lose_6 rfl (lv_at hl 1 rfl) ?_
  obtain ⟨r3, h4, hF⟩ := bs_u hF
  refine k_vp (ad 14 0) [.int a1] [] ⟨hx, hb, hml, hown, hts⟩ (c_Z_isLetter l D ad ca hD0 (z := z1) (u := u)  h4) (w_Z_isLetter hts a_706 ⟨Nat.le_of_ble_eq_true rfl, Nat.le_of_ble_eq_true rfl⟩) (rv_Z hK hP (by decide)) hP hK rfl rfl hl.1 (Nat.le_of_ble_eq_true rfl) ⟨Nat.zero_le _, Nat.zero_le _⟩ d_Z_lose_7 ?_
  refine lv_if_ne (tgt := 15) hx hb d_Z_lose_10 (by decide) (fun h5 => ?_) (fun h5 => ?_)
  · have hF := it_f hF h5
    refine lv_aload_n hx hb d_Z_lose_15 rfl (lv_at hl 0 rfl) ?_
    refine lv_iload_n hx hb d_Z_lose_16 rfl (lv_at hl 1 rfl) ?_
    obtain ⟨z8, h7, hF⟩ := bs_u hF
    refine k_vv (ad 14 0) [.int a1] [] ⟨hx, hb, hml, hown, hts⟩ (c_Z_takeOut l D ad ca hD0 (z := z1) (u := u)  h7) (w_Z_takeOut hts a_714 ⟨Nat.le_of_ble_eq_true rfl, Nat.le_of_ble_eq_true rfl⟩) (rv_Z hK hP (by decide)) hP hK hS (fun _ h => h) rfl rfl hl.1 (Nat.le_of_ble_eq_true rfl) ⟨Nat.zero_le _, Nat.zero_le _⟩ d_Z_lose_17 (fun H locs hP hS => ?_)
    refine lv_iconst (v := 1) hx hb d_Z_lose_20 (by decide) ?_
    obtain ⟨rfl, rfl⟩ := rt2 hF
    exact W.zret (v := 1) hx hb hr rfl (fun t ht hW => ⟨⟨_, (), rfl, rfl, vp_at ht hP⟩, hS.F ht⟩) hS.2.2 d_Z_lose_21
  · have hF := it_t hF h5
    refine lv_iconst (v := 0) hx hb d_Z_lose_13 (by decide) ?_
    obtain ⟨rfl, rfl⟩ := rt2 hF
    exact W.zret (v := 0) hx hb hr rfl (fun t ht hW => ⟨⟨_, (), rfl, rfl, vp_at ht hP⟩, hS.F ht⟩) hS.2.2 d_Z_lose_14
