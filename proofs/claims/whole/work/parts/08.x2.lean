def ws_H_hearNo : List Cond := Cond.code y_H_hearNo b_H_hearNo 3 (some .int) :: ALL
theorem w_H_hearNo {R : Room} {s : State} {args : Array Value} {own : String} {index : Nat} (hts : ∀ w ∈ ALL, w.before args s = true) (hlk : Cond.methodLink own index y_H_hearNo ∈ ALL) (hR : (({ frames := 4, cells := 0, slots := 0, locals := 101 } : Room)).frames + 1 ≤ R.frames ∧ 8 + (3 + 11) + (({ frames := 4, cells := 0, slots := 0, locals := 101 } : Room)).locals ≤ R.locals) : CallW R s args own R_H index y_H_hearNo b_H_hearNo 3 (some .int) ws_H_hearNo ({ frames := 4, cells := 0, slots := 0, locals := 101 } : Room) 0 0 2 := ⟨callB_of 2 hts (good_c a_539) rfl rfl rfl (hts _ a_1) (hts _ hlk) (by decide +kernel) hR, hts _ a_538, hts _ a_s8⟩
theorem d_H_hearNo_0 : decode b_H_hearNo 0 = .ok (.aload_n 1, 1) := by decide +kernel
theorem d_H_hearNo_1 : decode b_H_hearNo 1 = .ok (.getfield 70, 3) := by decide +kernel
theorem d_H_hearNo_4 : decode b_H_hearNo 4 = .ok (.getfield 74, 3) := by decide +kernel
theorem d_H_hearNo_7 : decode b_H_hearNo 7 = .ok (.ifCond .eq 17, 3) := by decide +kernel
theorem d_H_hearNo_10 : decode b_H_hearNo 10 = .ok (.aload_n 1, 1) := by decide +kernel
theorem d_H_hearNo_11 : decode b_H_hearNo 11 = .ok (.getfield 70, 3) := by decide +kernel
theorem d_H_hearNo_14 : decode b_H_hearNo 14 = .ok (.getfield 201, 3) := by decide +kernel
theorem d_H_hearNo_17 : decode b_H_hearNo 17 = .ok (.aload_n 2, 1) := by decide +kernel
theorem d_H_hearNo_18 : decode b_H_hearNo 18 = .ok (.getfield 162, 3) := by decide +kernel
theorem d_H_hearNo_21 : decode b_H_hearNo 21 = .ok (.if_icmp .eq 5, 3) := by decide +kernel
theorem d_H_hearNo_24 : decode b_H_hearNo 24 = .ok (.iconst 0, 1) := by decide +kernel
theorem d_H_hearNo_25 : decode b_H_hearNo 25 = .ok (.ireturn, 1) := by decide +kernel
theorem d_H_hearNo_26 : decode b_H_hearNo 26 = .ok (.aload_n 0, 1) := by decide +kernel
theorem d_H_hearNo_27 : decode b_H_hearNo 27 = .ok (.aload_n 1, 1) := by decide +kernel
theorem d_H_hearNo_28 : decode b_H_hearNo 28 = .ok (.aload_n 2, 1) := by decide +kernel
theorem d_H_hearNo_29 : decode b_H_hearNo 29 = .ok (.getfield 166, 3) := by decide +kernel
theorem d_H_hearNo_32 : decode b_H_hearNo 32 = .ok (.invokevirtual 94, 3) := by decide +kernel
theorem d_H_hearNo_35 : decode b_H_hearNo 35 = .ok (.ireturn, 1) := by decide +kernel
def F_H_hearNo (u : XC) (j1 : Nat) (j2 : Nat) : Option (Int32 × XC) := (if (u.1 11 j1 0) = 0 then some (0, u) else (if (u.1 11 j1 2) = (u.1 7 j2 3) then (bd_ (F_H_begin u j1 (u.1 7 j2 5)) fun r3 u5 => some (r3, u5)) else some (0, u)))
set_option maxHeartbeats 4000000 in
set_option maxRecDepth 100000 in
theorem c_H_hearNo (l : Launch) (D : va_G) (ad : Nat → Nat → Nat) (ca : Nat → ClassId) (hD0 : ∀ z u, va_D (AH ad) (wh ad ca z u)) {z : ZW} {u : XC} {j1 : Nat} {j2 : Nat} {r0 : Int32} {u0 : XC} (hj1 : j1 < 27) (hj2 : j2 < 152) (hF : F_H_hearNo u j1 j2 = some (r0, u0)) : Met l y_H_hearNo ws_H_hearNo ({ frames := 4, cells := 0, slots := 0, locals := 101 } : Room) (va_Pc [.ref (ad 0 0), .ref (ad 4 j1), .ref (ad 7 j2)] (fun U => va_P D CLS (wh ad ca z u) U.heap ∧ va_K D CLS (TYH ca) U)) (va_Qi (fun (r : Int32) (_ : Unit) => r = r0) (fun _ t => va_P D CLS (wh ad ca z u0) t.heap) (AH ad)) 0 0 (AH ad) := by
  refine Met.ofW (cc := b_H_hearNo) (maxL := 3) (ret := (some .int)) (by decide +kernel) rfl ?_
  intro p e s m args below meth c s₁ B hml hv
  obtain ⟨rfl, hP, hK⟩ := hv
  have hx := B.exec
  have hb := B.bytes
  have hr := B.returns
  have hts : ∀ w ∈ ALL, w.before _ s = true := fun w h => atoms_spec (ws := ws_H_hearNo) B.pre w (List.mem_cons_of_mem _ h)
  have hown : s.vm.findClass R_H = some m.cls := findClass_of_methodNamed B.named
  have hlocks := B.notSynchronized
  have hD := hD0
  have hS : va_S (AH ad) s.heap s.heap [] := va_S.rf
  have hP : va_P D CLS (wh ad ca z u) s.heap := hP
  have hl := lv_entry ([.ref (ad 0 0), .ref (ad 4 j1), .ref (ad 7 j2)]) (n := 3) (Nat.le_of_ble_eq_true rfl)
  rw [lg_entry_eq]
  generalize (lg_sl ([.ref (ad 0 0), .ref (ad 4 j1), .ref (ad 7 j2)]) ++ List.replicate (3 - (lg_sl ([.ref (ad 0 0), .ref (ad 4 j1), .ref (ad 7 j2)])).length) Slot.unset).toArray = ls at hl ⊢
  have hl : lv_has ls 3 [(0, .ref (ad 0 0)), (1, .ref (ad 4 j1)), (2, .ref (ad 7 j2))] := hl
  unfold F_H_hearNo at hF
  refine lv_aload_n hx hb d_H_hearNo_0 rfl (lv_at hl 1 rfl) ?_
  refine gf_O_7 hx hb hts hown hK hP hj1 a_166 d_H_hearNo_1 ?_
  refine gf_R_0 hx hb hts hown hK hP hj1 a_111 d_H_hearNo_4 ?_
  refine lv_if_eq (tgt := 24) hx hb d_H_hearNo_7 (by decide) (fun h1 => ?_) (fun h1 => ?_)
  · have hF := it_t hF h1
    refine lv_iconst (v := 0) hx hb d_H_hearNo_24 (by decide) ?_
    obtain ⟨rfl, rfl⟩ := rt2 hF
    exact W.iret (v := 0) hx hb hr (fun t ht hW => ⟨⟨_, (), rfl, rfl, vp_at ht hP⟩, hS.F ht⟩) hS.2.2 d_H_hearNo_25
  · have hF := it_f hF h1
    refine lv_aload_n hx hb d_H_hearNo_10 rfl (lv_at hl 1 rfl) ?_
    refine gf_O_7 hx hb hts hown hK hP hj1 a_166 d_H_hearNo_11 ?_
    refine gf_R_2 hx hb hts hown hK hP hj1 a_115 d_H_hearNo_14 ?_
    refine lv_aload_n hx hb d_H_hearNo_17 rfl (lv_at hl 2 rfl) ?_
    refine gf_L_3 hx hb hts hown hK hP hj2 a_54 d_H_hearNo_18 ?_
    refine lv_icmp_eq (tgt := 26) hx hb d_H_hearNo_21 (by decide) (fun h2 => ?_) (fun h2 => ?_)
    · have hF := it_t hF h2
      refine lv_aload_n hx hb d_H_hearNo_26 rfl (lv_at hl 0 rfl) ?_
      refine lv_aload_n hx hb d_H_hearNo_27 rfl (lv_at hl 1 rfl) ?_
      refine lv_aload_n hx hb d_H_hearNo_28 rfl (lv_at hl 2 rfl) ?_
      refine gf_L_5 hx hb hts hown hK hP hj2 a_60 d_H_hearNo_29 ?_
      obtain ⟨r3, u5, h4, hF⟩ := bd_u hF
      refine k_vi (ad 0 0) [.ref (ad 4 j1), .int (u.1 7 j2 5)] [] ⟨hx, hb, hml, hown, hts⟩ (c_H_begin l D ad ca hD0 (z := z) (u := u) hj1 h4) (w_H_begin hts a_437 ⟨Nat.le_of_ble_eq_true rfl, Nat.le_of_ble_eq_true rfl⟩) (rv_H hK hP (by decide)) hP hK hS (fun _ h => h) rfl rfl hl.1 (Nat.le_of_ble_eq_true rfl) ⟨Nat.zero_le _, Nat.zero_le _⟩ d_H_hearNo_32 (fun H locs hP hS => ?_)
      obtain ⟨rfl, rfl⟩ := rt2 hF
      exact W.iret (v := r3) hx hb hr (fun t ht hW => ⟨⟨_, (), rfl, rfl, vp_at ht hP⟩, hS.F ht⟩) hS.2.2 d_H_hearNo_35
    · have hF := it_f hF h2
      refine lv_iconst (v := 0) hx hb d_H_hearNo_24 (by decide) ?_
      obtain ⟨rfl, rfl⟩ := rt2 hF
      exact W.iret (v := 0) hx hb hr (fun t ht hW => ⟨⟨_, (), rfl, rfl, vp_at ht hP⟩, hS.F ht⟩) hS.2.2 d_H_hearNo_25
def ws_H_draft : List Cond := Cond.code y_H_draft b_H_draft 3 (some .int) :: ALL
theorem w_H_draft {R : Room} {s : State} {args : Array Value} {own : String} {index : Nat} (hts : ∀ w ∈ ALL, w.before args s = true) (hlk : Cond.methodLink own index y_H_draft ∈ ALL) (hR : (({ frames := 1, cells := 0, slots := 0, locals := 20 } : Room)).frames + 1 ≤ R.frames ∧ 8 + (3 + 11) + (({ frames := 1, cells := 0, slots := 0, locals := 20 } : Room)).locals ≤ R.locals) : CallW R s args own R_H index y_H_draft b_H_draft 3 (some .int) ws_H_draft ({ frames := 1, cells := 0, slots := 0, locals := 20 } : Room) 0 0 2 := ⟨callB_of 2 hts (good_c a_221) rfl rfl rfl (hts _ a_1) (hts _ hlk) (by decide +kernel) hR, hts _ a_219, hts _ a_220⟩
theorem d_H_draft_0 : decode b_H_draft 0 = .ok (.iload_n 1, 1) := by decide +kernel
theorem d_H_draft_1 : decode b_H_draft 1 = .ok (.invokestatic 36, 3) := by decide +kernel
theorem d_H_draft_4 : decode b_H_draft 4 = .ok (.ifCond .eq 31, 3) := by decide +kernel
theorem d_H_draft_7 : decode b_H_draft 7 = .ok (.iload_n 2, 1) := by decide +kernel
theorem d_H_draft_8 : decode b_H_draft 8 = .ok (.invokestatic 40, 3) := by decide +kernel
theorem d_H_draft_11 : decode b_H_draft 11 = .ok (.ifCond .eq 24, 3) := by decide +kernel
theorem d_H_draft_14 : decode b_H_draft 14 = .ok (.aload_n 0, 1) := by decide +kernel
theorem d_H_draft_15 : decode b_H_draft 15 = .ok (.getfield 11, 3) := by decide +kernel
theorem d_H_draft_18 : decode b_H_draft 18 = .ok (.iload_n 1, 1) := by decide +kernel
theorem d_H_draft_19 : decode b_H_draft 19 = .ok (.aaload, 1) := by decide +kernel
theorem d_H_draft_20 : decode b_H_draft 20 = .ok (.getfield 43, 3) := by decide +kernel
theorem d_H_draft_23 : decode b_H_draft 23 = .ok (.ifCond .ne 12, 3) := by decide +kernel
theorem d_H_draft_26 : decode b_H_draft 26 = .ok (.aload_n 0, 1) := by decide +kernel
theorem d_H_draft_27 : decode b_H_draft 27 = .ok (.getfield 28, 3) := by decide +kernel
theorem d_H_draft_30 : decode b_H_draft 30 = .ok (.bipush 40, 2) := by decide +kernel
theorem d_H_draft_32 : decode b_H_draft 32 = .ok (.if_icmp .ne 5, 3) := by decide +kernel
theorem d_H_draft_35 : decode b_H_draft 35 = .ok (.iconst (-1), 1) := by decide +kernel
theorem d_H_draft_36 : decode b_H_draft 36 = .ok (.ireturn, 1) := by decide +kernel
theorem d_H_draft_37 : decode b_H_draft 37 = .ok (.aload_n 0, 1) := by decide +kernel
theorem d_H_draft_38 : decode b_H_draft 38 = .ok (.getfield 17, 3) := by decide +kernel
theorem d_H_draft_41 : decode b_H_draft 41 = .ok (.aload_n 0, 1) := by decide +kernel
theorem d_H_draft_42 : decode b_H_draft 42 = .ok (.getfield 28, 3) := by decide +kernel
theorem d_H_draft_45 : decode b_H_draft 45 = .ok (.aaload, 1) := by decide +kernel
theorem d_H_draft_46 : decode b_H_draft 46 = .ok (.iload_n 2, 1) := by decide +kernel
theorem d_H_draft_47 : decode b_H_draft 47 = .ok (.putfield 47, 3) := by decide +kernel
theorem d_H_draft_50 : decode b_H_draft 50 = .ok (.aload_n 0, 1) := by decide +kernel
theorem d_H_draft_51 : decode b_H_draft 51 = .ok (.getfield 11, 3) := by decide +kernel
theorem d_H_draft_54 : decode b_H_draft 54 = .ok (.iload_n 1, 1) := by decide +kernel
theorem d_H_draft_55 : decode b_H_draft 55 = .ok (.aaload, 1) := by decide +kernel
theorem d_H_draft_56 : decode b_H_draft 56 = .ok (.aload_n 0, 1) := by decide +kernel
theorem d_H_draft_57 : decode b_H_draft 57 = .ok (.getfield 28, 3) := by decide +kernel
theorem d_H_draft_60 : decode b_H_draft 60 = .ok (.putfield 50, 3) := by decide +kernel
theorem d_H_draft_63 : decode b_H_draft 63 = .ok (.aload_n 0, 1) := by decide +kernel
theorem d_H_draft_64 : decode b_H_draft 64 = .ok (.dup, 1) := by decide +kernel
theorem d_H_draft_65 : decode b_H_draft 65 = .ok (.getfield 28, 3) := by decide +kernel
theorem d_H_draft_68 : decode b_H_draft 68 = .ok (.iconst 1, 1) := by decide +kernel
theorem d_H_draft_69 : decode b_H_draft 69 = .ok (.iadd, 1) := by decide +kernel
theorem d_H_draft_70 : decode b_H_draft 70 = .ok (.putfield 28, 3) := by decide +kernel
theorem d_H_draft_73 : decode b_H_draft 73 = .ok (.aload_n 0, 1) := by decide +kernel
theorem d_H_draft_74 : decode b_H_draft 74 = .ok (.getfield 11, 3) := by decide +kernel
theorem d_H_draft_77 : decode b_H_draft 77 = .ok (.iload_n 1, 1) := by decide +kernel
theorem d_H_draft_78 : decode b_H_draft 78 = .ok (.aaload, 1) := by decide +kernel
theorem d_H_draft_79 : decode b_H_draft 79 = .ok (.getfield 50, 3) := by decide +kernel
theorem d_H_draft_82 : decode b_H_draft 82 = .ok (.ireturn, 1) := by decide +kernel
def F_H_draft (u : XC) (a1 : Int32) (a2 : Int32) : Option (Int32 × XC) := (bs_ (F_H_isOffice a1) fun r1 => (if r1 = 0 then some ((-1), u) else (bs_ (F_H_isDay a2) fun r4 => (if r4 = 0 then some ((-1), u) else (if 0 ≤ a1 ∧ (a1).toNatClampNeg < 27 then (if (u.1 4 (a1).toNatClampNeg 5) = 0 then (if (u.1 0 0 3) = 40 then some ((-1), u) else (if 0 ≤ (u.1 0 0 3) ∧ ((u.1 0 0 3)).toNatClampNeg < 40 then (nm_ (pu u 5 ((u.1 0 0 3)).toNatClampNeg 0 a2) fun u11 => (if 0 ≤ a1 ∧ (a1).toNatClampNeg < 27 then (nm_ (pu u11 4 (a1).toNatClampNeg 6 (u11.1 0 0 3)) fun u14 => (nm_ (pu u14 0 0 3 ((u14.1 0 0 3) + 1)) fun u16 => (if 0 ≤ a1 ∧ (a1).toNatClampNeg < 27 then some ((u16.1 4 (a1).toNatClampNeg 6), u16) else none))) else none)) else none)) else some ((-1), u)) else none)))))
set_option maxHeartbeats 4000000 in
set_option maxRecDepth 100000 in
theorem c_H_draft (l : Launch) (D : va_G) (ad : Nat → Nat → Nat) (ca : Nat → ClassId) (hD0 : ∀ z u, va_D (AH ad) (wh ad ca z u)) {z : ZW} {u : XC} {a1 : Int32} {a2 : Int32} {r0 : Int32} {u0 : XC}  (hF : F_H_draft u a1 a2 = some (r0, u0)) : Met l y_H_draft ws_H_draft ({ frames := 1, cells := 0, slots := 0, locals := 20 } : Room) (va_Pc [.ref (ad 0 0), .int a1, .int a2] (fun U => va_P D CLS (wh ad ca z u) U.heap ∧ va_K D CLS (TYH ca) U)) (va_Qi (fun (r : Int32) (_ : Unit) => r = r0) (fun _ t => va_P D CLS (wh ad ca z u0) t.heap) (AH ad)) 0 0 (AH ad) := by
  refine Met.ofW (cc := b_H_draft) (maxL := 3) (ret := (some .int)) (by decide +kernel) rfl ?_
  intro p e s m args below meth c s₁ B hml hv
  obtain ⟨rfl, hP, hK⟩ := hv
  have hx := B.exec
  have hb := B.bytes
  have hr := B.returns
  have hts : ∀ w ∈ ALL, w.before _ s = true := fun w h => atoms_spec (ws := ws_H_draft) B.pre w (List.mem_cons_of_mem _ h)
  have hown : s.vm.findClass R_H = some m.cls := findClass_of_methodNamed B.named
  have hlocks := B.notSynchronized
  have hD := hD0
  have hS : va_S (AH ad) s.heap s.heap [] := va_S.rf
  have hP : va_P D CLS (wh ad ca z u) s.heap := hP
  have hl := lv_entry ([.ref (ad 0 0), .int a1, .int a2]) (n := 3) (Nat.le_of_ble_eq_true rfl)
  rw [lg_entry_eq]
  generalize (lg_sl ([.ref (ad 0 0), .int a1, .int a2]) ++ List.replicate (3 - (lg_sl ([.ref (ad 0 0), .int a1, .int a2])).length) Slot.unset).toArray = ls at hl ⊢
  have hl : lv_has ls 3 [(0, .ref (ad 0 0)), (1, .int a1), (2, .int a2)] := hl
  unfold F_H_draft at hF
  refine lv_iload_n hx hb d_H_draft_0 rfl (lv_at hl 1 rfl) ?_
  obtain ⟨r1, h2, hF⟩ := bs_u hF
  refine k_sp [.int a1] [] ⟨hx, hb, hml, hown, hts⟩ (c_H_isOffice l  h2) (w_H_isOffice hts a_222 ⟨Nat.le_of_ble_eq_true rfl, Nat.le_of_ble_eq_true rfl⟩) rfl rfl hl.1 (Nat.le_of_ble_eq_true rfl) ⟨Nat.zero_le _, Nat.zero_le _⟩ d_H_draft_1 ?_
  refine lv_if_eq (tgt := 35) hx hb d_H_draft_4 (by decide) (fun h3 => ?_) (fun h3 => ?_)
  · have hF := it_t hF h3
    refine lv_iconst (v := (-1)) hx hb d_H_draft_35 (by decide) ?_
    obtain ⟨rfl, rfl⟩ := rt2 hF
    exact W.iret (v := (-1)) hx hb hr (fun t ht hW => ⟨⟨_, (), rfl, rfl, vp_at ht hP⟩, hS.F ht⟩) hS.2.2 d_H_draft_36
  · have hF := it_f hF h3
    refine lv_iload_n hx hb d_H_draft_7 rfl (lv_at hl 2 rfl) ?_
    obtain ⟨r4, h5, hF⟩ := bs_u hF
    refine k_sp [.int a2] [] ⟨hx, hb, hml, hown, hts⟩ (c_H_isDay l  h5) (w_H_isDay hts a_225 ⟨Nat.le_of_ble_eq_true rfl, Nat.le_of_ble_eq_true rfl⟩) rfl rfl hl.1 (Nat.le_of_ble_eq_true rfl) ⟨Nat.zero_le _, Nat.zero_le _⟩ d_H_draft_8 ?_
    refine lv_if_eq (tgt := 35) hx hb d_H_draft_11 (by decide) (fun h6 => ?_) (fun h6 => ?_)
    · have hF := it_t hF h6
      refine lv_iconst (v := (-1)) hx hb d_H_draft_35 (by decide) ?_
      obtain ⟨rfl, rfl⟩ := rt2 hF
      exact W.iret (v := (-1)) hx hb hr (fun t ht hW => ⟨⟨_, (), rfl, rfl, vp_at ht hP⟩, hS.F ht⟩) hS.2.2 d_H_draft_36
    · have hF := it_f hF h6
      refine lv_aload_n hx hb d_H_draft_14 rfl (lv_at hl 0 rfl) ?_
      refine gf_H_0 hx hb hts hown hK hP (by decide) a_205 d_H_draft_15 ?_
      refine lv_iload_n hx hb d_H_draft_18 rfl (lv_at hl 1 rfl) ?_
      obtain ⟨h7, hF⟩ := as_u hF
      refine al_1 hx hb hK hP h7 d_H_draft_19 ?_
      refine gf_O_5 hx hb hts hown hK hP h7.2 a_162 d_H_draft_20 ?_
      refine lv_if_ne (tgt := 35) hx hb d_H_draft_23 (by decide) (fun h8 => ?_) (fun h8 => ?_)
      · have hF := it_f hF h8
        refine lv_iconst (v := (-1)) hx hb d_H_draft_35 (by decide) ?_
        obtain ⟨rfl, rfl⟩ := rt2 hF
        exact W.iret (v := (-1)) hx hb hr (fun t ht hW => ⟨⟨_, (), rfl, rfl, vp_at ht hP⟩, hS.F ht⟩) hS.2.2 d_H_draft_36
      · have hF := it_t hF h8
        refine lv_aload_n hx hb d_H_draft_26 rfl (lv_at hl 0 rfl) ?_
        refine gf_H_3 hx hb hts hown hK hP (by decide) a_208 d_H_draft_27 ?_
        refine lv_bipush (v := 40) hx hb d_H_draft_30 (by decide) ?_
        refine lv_icmp_ne (tgt := 37) hx hb d_H_draft_32 (by decide) (fun h9 => ?_) (fun h9 => ?_)
        · have hF := it_f hF h9
          refine lv_aload_n hx hb d_H_draft_37 rfl (lv_at hl 0 rfl) ?_
          refine gf_H_1 hx hb hts hown hK hP (by decide) a_206 d_H_draft_38 ?_
          refine lv_aload_n hx hb d_H_draft_41 rfl (lv_at hl 0 rfl) ?_
          refine gf_H_3 hx hb hts hown hK hP (by decide) a_208 d_H_draft_42 ?_
          obtain ⟨h10, hF⟩ := as_u hF
          refine al_2 hx hb hK hP h10 d_H_draft_45 ?_
          refine lv_iload_n hx hb d_H_draft_46 rfl (lv_at hl 2 rfl) ?_
          obtain ⟨u11, h12, hF⟩ := nm_u hF
          refine pf_T_0 hx hb hts hown hK hP hD hS h10.2 h12 a_190 d_H_draft_47 (fun H locs hP hS => ?_)
          refine lv_aload_n hx hb d_H_draft_50 rfl (lv_at hl 0 rfl) ?_
          refine gf_H_0 hx hb hts hown hK hP (by decide) a_205 d_H_draft_51 ?_
          refine lv_iload_n hx hb d_H_draft_54 rfl (lv_at hl 1 rfl) ?_
          obtain ⟨h13, hF⟩ := as_u hF
          refine al_1 hx hb hK hP h13 d_H_draft_55 ?_
          refine lv_aload_n hx hb d_H_draft_56 rfl (lv_at hl 0 rfl) ?_
          refine gf_H_3 hx hb hts hown hK hP (by decide) a_208 d_H_draft_57 ?_
          obtain ⟨u14, h15, hF⟩ := nm_u hF
          refine pf_O_6 hx hb hts hown hK hP hD hS h13.2 h15 a_164 d_H_draft_60 (fun H locs hP hS => ?_)
          refine lv_aload_n hx hb d_H_draft_63 rfl (lv_at hl 0 rfl) ?_
          refine lv_dup hx hb d_H_draft_64 rfl ?_
          refine gf_H_3 hx hb hts hown hK hP (by decide) a_208 d_H_draft_65 ?_
          refine lv_iconst (v := 1) hx hb d_H_draft_68 (by decide) ?_
          refine lv_iadd hx hb d_H_draft_69 ?_
          obtain ⟨u16, h17, hF⟩ := nm_u hF
          refine pf_H_3 hx hb hts hown hK hP hD hS (by decide) h17 a_208 d_H_draft_70 (fun H locs hP hS => ?_)
          refine lv_aload_n hx hb d_H_draft_73 rfl (lv_at hl 0 rfl) ?_
          refine gf_H_0 hx hb hts hown hK hP (by decide) a_205 d_H_draft_74 ?_
          refine lv_iload_n hx hb d_H_draft_77 rfl (lv_at hl 1 rfl) ?_
          obtain ⟨h18, hF⟩ := as_u hF
          refine al_1 hx hb hK hP h18 d_H_draft_78 ?_
          refine gf_O_6 hx hb hts hown hK hP h18.2 a_164 d_H_draft_79 ?_
          obtain ⟨rfl, rfl⟩ := rt2 hF
          exact W.iret (v := (u16.1 4 (a1).toNatClampNeg 6)) hx hb hr (fun t ht hW => ⟨⟨_, (), rfl, rfl, vp_at ht hP⟩, hS.F ht⟩) hS.2.2 d_H_draft_82
        · have hF := it_t hF h9
          refine lv_iconst (v := (-1)) hx hb d_H_draft_35 (by decide) ?_
          obtain ⟨rfl, rfl⟩ := rt2 hF
          exact W.iret (v := (-1)) hx hb hr (fun t ht hW => ⟨⟨_, (), rfl, rfl, vp_at ht hP⟩, hS.F ht⟩) hS.2.2 d_H_draft_36
def ws_H_line : List Cond := Cond.code y_H_line b_H_line 4 (some .boolean) :: ALL
theorem w_H_line {R : Room} {s : State} {args : Array Value} {own : String} {index : Nat} (hts : ∀ w ∈ ALL, w.before args s = true) (hlk : Cond.methodLink own index y_H_line ∈ ALL) (hR : (({ frames := 2, cells := 0, slots := 0, locals := 44 } : Room)).frames + 1 ≤ R.frames ∧ 8 + (4 + 11) + (({ frames := 2, cells := 0, slots := 0, locals := 44 } : Room)).locals ≤ R.locals) : CallW R s args own R_H index y_H_line b_H_line 4 (some .boolean) ws_H_line ({ frames := 2, cells := 0, slots := 0, locals := 44 } : Room) 0 0 3 := ⟨callB_of 3 hts (good_c a_231) rfl rfl rfl (hts _ a_1) (hts _ hlk) (by decide +kernel) hR, hts _ a_229, hts _ a_230⟩
theorem d_H_line_0 : decode b_H_line 0 = .ok (.iload_n 1, 1) := by decide +kernel
theorem d_H_line_1 : decode b_H_line 1 = .ok (.invokestatic 36, 3) := by decide +kernel
theorem d_H_line_4 : decode b_H_line 4 = .ok (.ifCond .eq 34, 3) := by decide +kernel
theorem d_H_line_7 : decode b_H_line 7 = .ok (.aload_n 0, 1) := by decide +kernel
theorem d_H_line_8 : decode b_H_line 8 = .ok (.getfield 11, 3) := by decide +kernel
theorem d_H_line_11 : decode b_H_line 11 = .ok (.iload_n 1, 1) := by decide +kernel
theorem d_H_line_12 : decode b_H_line 12 = .ok (.aaload, 1) := by decide +kernel
theorem d_H_line_13 : decode b_H_line 13 = .ok (.getfield 50, 3) := by decide +kernel
theorem d_H_line_16 : decode b_H_line 16 = .ok (.iconst (-1), 1) := by decide +kernel
theorem d_H_line_17 : decode b_H_line 17 = .ok (.if_icmp .eq 21, 3) := by decide +kernel
theorem d_H_line_20 : decode b_H_line 20 = .ok (.iload_n 2, 1) := by decide +kernel
theorem d_H_line_21 : decode b_H_line 21 = .ok (.invokestatic 53, 3) := by decide +kernel
theorem d_H_line_24 : decode b_H_line 24 = .ok (.ifCond .eq 14, 3) := by decide +kernel
theorem d_H_line_27 : decode b_H_line 27 = .ok (.iload_n 3, 1) := by decide +kernel
theorem d_H_line_28 : decode b_H_line 28 = .ok (.ifCond .lt 10, 3) := by decide +kernel
theorem d_H_line_31 : decode b_H_line 31 = .ok (.iload_n 3, 1) := by decide +kernel
theorem d_H_line_32 : decode b_H_line 32 = .ok (.sipush 10000, 3) := by decide +kernel
theorem d_H_line_35 : decode b_H_line 35 = .ok (.if_icmp .lt 5, 3) := by decide +kernel
theorem d_H_line_38 : decode b_H_line 38 = .ok (.iconst 0, 1) := by decide +kernel
theorem d_H_line_39 : decode b_H_line 39 = .ok (.ireturn, 1) := by decide +kernel
theorem d_H_line_40 : decode b_H_line 40 = .ok (.aload_n 0, 1) := by decide +kernel
theorem d_H_line_41 : decode b_H_line 41 = .ok (.getfield 17, 3) := by decide +kernel
theorem d_H_line_44 : decode b_H_line 44 = .ok (.aload_n 0, 1) := by decide +kernel
theorem d_H_line_45 : decode b_H_line 45 = .ok (.getfield 11, 3) := by decide +kernel
theorem d_H_line_48 : decode b_H_line 48 = .ok (.iload_n 1, 1) := by decide +kernel
theorem d_H_line_49 : decode b_H_line 49 = .ok (.aaload, 1) := by decide +kernel
theorem d_H_line_50 : decode b_H_line 50 = .ok (.getfield 50, 3) := by decide +kernel
theorem d_H_line_53 : decode b_H_line 53 = .ok (.aaload, 1) := by decide +kernel
theorem d_H_line_54 : decode b_H_line 54 = .ok (.iload_n 2, 1) := by decide +kernel
theorem d_H_line_55 : decode b_H_line 55 = .ok (.iload_n 3, 1) := by decide +kernel
theorem d_H_line_56 : decode b_H_line 56 = .ok (.invokevirtual 56, 3) := by decide +kernel
theorem d_H_line_59 : decode b_H_line 59 = .ok (.ireturn, 1) := by decide +kernel
def F_H_line (u : XC) (a1 : Int32) (a2 : Int32) (a3 : Int32) : Option (Int32 × XC) := (bs_ (F_H_isOffice a1) fun r1 => (if r1 = 0 then some (0, u) else (if 0 ≤ a1 ∧ (a1).toNatClampNeg < 27 then (if (u.1 4 (a1).toNatClampNeg 6) = (-1) then some (0, u) else (bs_ (F_H_isCode a2) fun r6 => (if r6 = 0 then some (0, u) else (if a3 < 0 then some (0, u) else (if a3 < 10000 then (if 0 ≤ a1 ∧ (a1).toNatClampNeg < 27 then (if 0 ≤ (u.1 4 (a1).toNatClampNeg 6) ∧ ((u.1 4 (a1).toNatClampNeg 6)).toNatClampNeg < 40 then (bd_ (F_T_write u (((u.1 4 (a1).toNatClampNeg 6)).toNatClampNeg) a2 a3) fun r13 u15 => (if r13 = 0 ∨ r13 = 1 then some (r13, u15) else none)) else none) else none) else some (0, u)))))) else none)))
set_option maxHeartbeats 4000000 in
set_option maxRecDepth 100000 in
theorem c_H_line (l : Launch) (D : va_G) (ad : Nat → Nat → Nat) (ca : Nat → ClassId) (hD0 : ∀ z u, va_D (AH ad) (wh ad ca z u)) {z : ZW} {u : XC} {a1 : Int32} {a2 : Int32} {a3 : Int32} {r0 : Int32} {u0 : XC}  (hF : F_H_line u a1 a2 a3 = some (r0, u0)) : Met l y_H_line ws_H_line ({ frames := 2, cells := 0, slots := 0, locals := 44 } : Room) (va_Pc [.ref (ad 0 0), .int a1, .int a2, .int a3] (fun U => va_P D CLS (wh ad ca z u) U.heap ∧ va_K D CLS (TYH ca) U)) (va_Qi (fun (r : Int32) (_ : Unit) => r = r0) (fun _ t => va_P D CLS (wh ad ca z u0) t.heap) (AH ad)) 0 0 (AH ad) := by
  refine Met.ofW (cc := b_H_line) (maxL := 4) (ret := (some .boolean)) (by decide +kernel) rfl ?_
  intro p e s m args below meth c s₁ B hml hv
  obtain ⟨rfl, hP, hK⟩ := hv
  have hx := B.exec
  have hb := B.bytes
  have hr := B.returns
  have hts : ∀ w ∈ ALL, w.before _ s = true := fun w h => atoms_spec (ws := ws_H_line) B.pre w (List.mem_cons_of_mem _ h)
  have hown : s.vm.findClass R_H = some m.cls := findClass_of_methodNamed B.named
  have hlocks := B.notSynchronized
  have hD := hD0
  have hS : va_S (AH ad) s.heap s.heap [] := va_S.rf
  have hP : va_P D CLS (wh ad ca z u) s.heap := hP
  have hl := lv_entry ([.ref (ad 0 0), .int a1, .int a2, .int a3]) (n := 4) (Nat.le_of_ble_eq_true rfl)
  rw [lg_entry_eq]
  generalize (lg_sl ([.ref (ad 0 0), .int a1, .int a2, .int a3]) ++ List.replicate (4 - (lg_sl ([.ref (ad 0 0), .int a1, .int a2, .int a3])).length) Slot.unset).toArray = ls at hl ⊢
  have hl : lv_has ls 4 [(0, .ref (ad 0 0)), (1, .int a1), (2, .int a2), (3, .int a3)] := hl
  unfold F_H_line at hF
  refine lv_iload_n hx hb d_H_line_0 rfl (lv_at hl 1 rfl) ?_
  obtain ⟨r1, h2, hF⟩ := bs_u hF
  refine k_sp [.int a1] [] ⟨hx, hb, hml, hown, hts⟩ (c_H_isOffice l  h2) (w_H_isOffice hts a_222 ⟨Nat.le_of_ble_eq_true rfl, Nat.le_of_ble_eq_true rfl⟩) rfl rfl hl.1 (Nat.le_of_ble_eq_true rfl) ⟨Nat.zero_le _, Nat.zero_le _⟩ d_H_line_1 ?_
  refine lv_if_eq (tgt := 38) hx hb d_H_line_4 (by decide) (fun h3 => ?_) (fun h3 => ?_)
  · have hF := it_t hF h3
    refine lv_iconst (v := 0) hx hb d_H_line_38 (by decide) ?_
    obtain ⟨rfl, rfl⟩ := rt2 hF
    exact W.zret (v := 0) hx hb hr rfl (fun t ht hW => ⟨⟨_, (), rfl, rfl, vp_at ht hP⟩, hS.F ht⟩) hS.2.2 d_H_line_39
  · have hF := it_f hF h3
    refine lv_aload_n hx hb d_H_line_7 rfl (lv_at hl 0 rfl) ?_
    refine gf_H_0 hx hb hts hown hK hP (by decide) a_205 d_H_line_8 ?_
    refine lv_iload_n hx hb d_H_line_11 rfl (lv_at hl 1 rfl) ?_
    obtain ⟨h4, hF⟩ := as_u hF
    refine al_1 hx hb hK hP h4 d_H_line_12 ?_
    refine gf_O_6 hx hb hts hown hK hP h4.2 a_164 d_H_line_13 ?_
    refine lv_iconst (v := (-1)) hx hb d_H_line_16 (by decide) ?_
    refine lv_icmp_eq (tgt := 38) hx hb d_H_line_17 (by decide) (fun h5 => ?_) (fun h5 => ?_)
    · have hF := it_t hF h5
      refine lv_iconst (v := 0) hx hb d_H_line_38 (by decide) ?_
      obtain ⟨rfl, rfl⟩ := rt2 hF
      exact W.zret (v := 0) hx hb hr rfl (fun t ht hW => ⟨⟨_, (), rfl, rfl, vp_at ht hP⟩, hS.F ht⟩) hS.2.2 d_H_line_39
    · have hF := it_f hF h5
      refine lv_iload_n hx hb d_H_line_20 rfl (lv_at hl 2 rfl) ?_
      obtain ⟨r6, h7, hF⟩ := bs_u hF
      refine k_sp [.int a2] [] ⟨hx, hb, hml, hown, hts⟩ (c_H_isCode l  h7) (w_H_isCode hts a_232 ⟨Nat.le_of_ble_eq_true rfl, Nat.le_of_ble_eq_true rfl⟩) rfl rfl hl.1 (Nat.le_of_ble_eq_true rfl) ⟨Nat.zero_le _, Nat.zero_le _⟩ d_H_line_21 ?_
      refine lv_if_eq (tgt := 38) hx hb d_H_line_24 (by decide) (fun h8 => ?_) (fun h8 => ?_)
      · have hF := it_t hF h8
        refine lv_iconst (v := 0) hx hb d_H_line_38 (by decide) ?_
        obtain ⟨rfl, rfl⟩ := rt2 hF
        exact W.zret (v := 0) hx hb hr rfl (fun t ht hW => ⟨⟨_, (), rfl, rfl, vp_at ht hP⟩, hS.F ht⟩) hS.2.2 d_H_line_39
      · have hF := it_f hF h8
        refine lv_iload_n hx hb d_H_line_27 rfl (lv_at hl 3 rfl) ?_
        refine lv_if_lt (tgt := 38) hx hb d_H_line_28 (by decide) (fun h9 => ?_) (fun h9 => ?_)
        · have hF := it_t hF h9
          refine lv_iconst (v := 0) hx hb d_H_line_38 (by decide) ?_
          obtain ⟨rfl, rfl⟩ := rt2 hF
          exact W.zret (v := 0) hx hb hr rfl (fun t ht hW => ⟨⟨_, (), rfl, rfl, vp_at ht hP⟩, hS.F ht⟩) hS.2.2 d_H_line_39
        · have hF := it_f hF h9
          refine lv_iload_n hx hb d_H_line_31 rfl (lv_at hl 3 rfl) ?_
          refine lv_sipush (v := 10000) hx hb d_H_line_32 (by decide) ?_
          refine lv_icmp_lt (tgt := 40) hx hb d_H_line_35 (by decide) (fun h10 => ?_) (fun h10 => ?_)
          · have hF := it_t hF h10
            refine lv_aload_n hx hb d_H_line_40 rfl (lv_at hl 0 rfl) ?_
            refine gf_H_1 hx hb hts hown hK hP (by decide) a_206 d_H_line_41 ?_
            refine lv_aload_n hx hb d_H_line_44 rfl (lv_at hl 0 rfl) ?_
            refine gf_H_0 hx hb hts hown hK hP (by decide) a_205 d_H_line_45 ?_
            refine lv_iload_n hx hb d_H_line_48 rfl (lv_at hl 1 rfl) ?_
            obtain ⟨h11, hF⟩ := as_u hF
            refine al_1 hx hb hK hP h11 d_H_line_49 ?_
            refine gf_O_6 hx hb hts hown hK hP h11.2 a_164 d_H_line_50 ?_
            obtain ⟨h12, hF⟩ := as_u hF
            refine al_2 hx hb hK hP h12 d_H_line_53 ?_
            refine lv_iload_n hx hb d_H_line_54 rfl (lv_at hl 2 rfl) ?_
            refine lv_iload_n hx hb d_H_line_55 rfl (lv_at hl 3 rfl) ?_
            obtain ⟨r13, u15, h14, hF⟩ := bd_u hF
            refine k_vi (ad 5 ((u.1 4 (a1).toNatClampNeg 6)).toNatClampNeg) [.int a2, .int a3] [] ⟨hx, hb, hml, hown, hts⟩ (c_T_write l D ad ca hD0 (z := z) (u := u) h12.2 h14) (w_T_write hts a_235 ⟨Nat.le_of_ble_eq_true rfl, Nat.le_of_ble_eq_true rfl⟩) (rv_T hK hP h12.2) hP hK hS (fun _ h => h) rfl rfl hl.1 (Nat.le_of_ble_eq_true rfl) ⟨Nat.zero_le _, Nat.zero_le _⟩ d_H_line_56 (fun H locs hP hS => ?_)
            obtain ⟨h16, hF⟩ := as_u hF
            obtain ⟨rfl, rfl⟩ := rt2 hF
            exact W.zret (v := r13) hx hb hr (nb_of h16) (fun t ht hW => ⟨⟨_, (), rfl, rfl, vp_at ht hP⟩, hS.F ht⟩) hS.2.2 d_H_line_59
          · have hF := it_f hF h10
            refine lv_iconst (v := 0) hx hb d_H_line_38 (by decide) ?_
            obtain ⟨rfl, rfl⟩ := rt2 hF
            exact W.zret (v := 0) hx hb hr rfl (fun t ht hW => ⟨⟨_, (), rfl, rfl, vp_at ht hP⟩, hS.F ht⟩) hS.2.2 d_H_line_39
def ws_H_letters : List Cond := Cond.code y_H_letters b_H_letters 1 (some .int) :: ALL
theorem w_H_letters {R : Room} {s : State} {args : Array Value} {own : String} {index : Nat} (hts : ∀ w ∈ ALL, w.before args s = true) (hlk : Cond.methodLink own index y_H_letters ∈ ALL) (hR : (({ frames := 0, cells := 0, slots := 0, locals := 0 } : Room)).frames + 1 ≤ R.frames ∧ 8 + (1 + 11) + (({ frames := 0, cells := 0, slots := 0, locals := 0 } : Room)).locals ≤ R.locals) : CallW R s args own R_H index y_H_letters b_H_letters 1 (some .int) ws_H_letters ({ frames := 0, cells := 0, slots := 0, locals := 0 } : Room) 0 0 0 := ⟨callB_of 0 hts (good_c a_246) rfl rfl rfl (hts _ a_1) (hts _ hlk) (by decide +kernel) hR, hts _ a_244, hts _ a_245⟩
theorem d_H_letters_0 : decode b_H_letters 0 = .ok (.aload_n 0, 1) := by decide +kernel
theorem d_H_letters_1 : decode b_H_letters 1 = .ok (.getfield 24, 3) := by decide +kernel
theorem d_H_letters_4 : decode b_H_letters 4 = .ok (.getfield 136, 3) := by decide +kernel
theorem d_H_letters_7 : decode b_H_letters 7 = .ok (.ireturn, 1) := by decide +kernel
def F_H_letters (u : XC)  : Option (Int32) := some (u.1 3 0 3)
set_option maxHeartbeats 4000000 in
set_option maxRecDepth 100000 in
theorem c_H_letters (l : Launch) (D : va_G) (ad : Nat → Nat → Nat) (ca : Nat → ClassId) (hD0 : ∀ z u, va_D (AH ad) (wh ad ca z u)) {z : ZW} {u : XC}  {r0 : Int32}  (hF : F_H_letters u  = some r0) : Met l y_H_letters ws_H_letters ({ frames := 0, cells := 0, slots := 0, locals := 0 } : Room) (va_Pc [.ref (ad 0 0)] (fun U => va_P D CLS (wh ad ca z u) U.heap ∧ va_K D CLS (TYH ca) U)) (vp_Si (fun r => r = r0)) 0 0 (fun _ => False) := by
  refine Met.ofW (cc := b_H_letters) (maxL := 1) (ret := (some .int)) (by decide +kernel) rfl ?_
  intro p e s m args below meth c s₁ B hml hv
  obtain ⟨rfl, hP, hK⟩ := hv
  have hx := B.exec
  have hb := B.bytes
  have hr := B.returns
  have hts : ∀ w ∈ ALL, w.before _ s = true := fun w h => atoms_spec (ws := ws_H_letters) B.pre w (List.mem_cons_of_mem _ h)
  have hown : s.vm.findClass R_H = some m.cls := findClass_of_methodNamed B.named
  have hlocks := B.notSynchronized
  have hD := hD0
  have hS : va_S (fun _ => True) s.heap s.heap [] := va_S.rf
  have hN : ∀ q ∈ ([] : List Loc), (fun _ => False) q.base := fun _ h => absurd h List.not_mem_nil
  have hP : va_P D CLS (wh ad ca z u) s.heap := hP
  have hl := lv_entry ([.ref (ad 0 0)]) (n := 1) (Nat.le_of_ble_eq_true rfl)
  rw [lg_entry_eq]
  generalize (lg_sl ([.ref (ad 0 0)]) ++ List.replicate (1 - (lg_sl ([.ref (ad 0 0)])).length) Slot.unset).toArray = ls at hl ⊢
  have hl : lv_has ls 1 [(0, .ref (ad 0 0))] := hl
  have hH : s.heap = s.heap := rfl
  unfold F_H_letters at hF
  refine lv_aload_n hx hb d_H_letters_0 rfl (lv_at hl 0 rfl) ?_
  refine gf_H_2 hx hb hts hown hK hP (by decide) a_207 d_H_letters_1 ?_
  refine gf_M_3 hx hb hts hown hK hP (by decide) a_89 d_H_letters_4 ?_
  have hF := rt1 hF
  subst hF
  exact W.iret (v := (u.1 3 0 3)) hx hb hr (fun t ht hW => ⟨_, rfl, rfl, ht.trans hH⟩) hN d_H_letters_7
def ws_H_lose : List Cond := Cond.code y_H_lose b_H_lose 2 (some .boolean) :: ALL
theorem w_H_lose {R : Room} {s : State} {args : Array Value} {own : String} {index : Nat} (hts : ∀ w ∈ ALL, w.before args s = true) (hlk : Cond.methodLink own index y_H_lose ∈ ALL) (hR : (({ frames := 1, cells := 0, slots := 0, locals := 23 } : Room)).frames + 1 ≤ R.frames ∧ 8 + (2 + 11) + (({ frames := 1, cells := 0, slots := 0, locals := 23 } : Room)).locals ≤ R.locals) : CallW R s args own R_H index y_H_lose b_H_lose 2 (some .boolean) ws_H_lose ({ frames := 1, cells := 0, slots := 0, locals := 23 } : Room) 0 0 1 := ⟨callB_of 1 hts (good_c a_250) rfl rfl rfl (hts _ a_1) (hts _ hlk) (by decide +kernel) hR, hts _ a_248, hts _ a_249⟩
theorem d_H_lose_0 : decode b_H_lose 0 = .ok (.aload_n 0, 1) := by decide +kernel
theorem d_H_lose_1 : decode b_H_lose 1 = .ok (.getfield 24, 3) := by decide +kernel
theorem d_H_lose_4 : decode b_H_lose 4 = .ok (.iload_n 1, 1) := by decide +kernel
theorem d_H_lose_5 : decode b_H_lose 5 = .ok (.invokevirtual 139, 3) := by decide +kernel
theorem d_H_lose_8 : decode b_H_lose 8 = .ok (.ifCond .ne 5, 3) := by decide +kernel
theorem d_H_lose_11 : decode b_H_lose 11 = .ok (.iconst 0, 1) := by decide +kernel
theorem d_H_lose_12 : decode b_H_lose 12 = .ok (.ireturn, 1) := by decide +kernel
theorem d_H_lose_13 : decode b_H_lose 13 = .ok (.aload_n 0, 1) := by decide +kernel
theorem d_H_lose_14 : decode b_H_lose 14 = .ok (.getfield 24, 3) := by decide +kernel
theorem d_H_lose_17 : decode b_H_lose 17 = .ok (.iload_n 1, 1) := by decide +kernel
theorem d_H_lose_18 : decode b_H_lose 18 = .ok (.invokevirtual 171, 3) := by decide +kernel
theorem d_H_lose_21 : decode b_H_lose 21 = .ok (.pop, 1) := by decide +kernel
theorem d_H_lose_22 : decode b_H_lose 22 = .ok (.iconst 1, 1) := by decide +kernel
theorem d_H_lose_23 : decode b_H_lose 23 = .ok (.ireturn, 1) := by decide +kernel
def F_H_lose (u : XC) (a1 : Int32) : Option (Int32 × XC) := (bs_ (F_M_holds u a1) fun r1 => (if r1 = 0 then some (0, u) else (bd_ (F_M_take u a1) fun r4 u6 => (if r4 < 152 then some (1, u6) else none))))
set_option maxHeartbeats 4000000 in
set_option maxRecDepth 100000 in
theorem c_H_lose (l : Launch) (D : va_G) (ad : Nat → Nat → Nat) (ca : Nat → ClassId) (hD0 : ∀ z u, va_D (AH ad) (wh ad ca z u)) {z : ZW} {u : XC} {a1 : Int32} {r0 : Int32} {u0 : XC}  (hF : F_H_lose u a1 = some (r0, u0)) : Met l y_H_lose ws_H_lose ({ frames := 1, cells := 0, slots := 0, locals := 23 } : Room) (va_Pc [.ref (ad 0 0), .int a1] (fun U => va_P D CLS (wh ad ca z u) U.heap ∧ va_K D CLS (TYH ca) U)) (va_Qi (fun (r : Int32) (_ : Unit) => r = r0) (fun _ t => va_P D CLS (wh ad ca z u0) t.heap) (AH ad)) 0 0 (AH ad) := by
  refine Met.ofW (cc := b_H_lose) (maxL := 2) (ret := (some .boolean)) (by decide +kernel) rfl ?_
  intro p e s m args below meth c s₁ B hml hv
  obtain ⟨rfl, hP, hK⟩ := hv
  have hx := B.exec
  have hb := B.bytes
  have hr := B.returns
  have hts : ∀ w ∈ ALL, w.before _ s = true := fun w h => atoms_spec (ws := ws_H_lose) B.pre w (List.mem_cons_of_mem _ h)
  have hown : s.vm.findClass R_H = some m.cls := findClass_of_methodNamed B.named
  have hlocks := B.notSynchronized
  have hD := hD0
  have hS : va_S (AH ad) s.heap s.heap [] := va_S.rf
  have hP : va_P D CLS (wh ad ca z u) s.heap := hP
  have hl := lv_entry ([.ref (ad 0 0), .int a1]) (n := 2) (Nat.le_of_ble_eq_true rfl)
  rw [lg_entry_eq]
  generalize (lg_sl ([.ref (ad 0 0), .int a1]) ++ List.replicate (2 - (lg_sl ([.ref (ad 0 0), .int a1])).length) Slot.unset).toArray = ls at hl ⊢
  have hl : lv_has ls 2 [(0, .ref (ad 0 0)), (1, .int a1)] := hl
  unfold F_H_lose at hF
  refine lv_aload_n hx hb d_H_lose_0 rfl (lv_at hl 0 rfl) ?_
  refine gf_H_2 hx hb hts hown hK hP (by decide) a_207 d_H_lose_1 ?_
  refine lv_iload_n hx hb d_H_lose_4 rfl (lv_at hl 1 rfl) ?_
  obtain ⟨r1, h2, hF⟩ := bs_u hF
  refine k_vp (ad 3 0) [.int a1] [] ⟨hx, hb, hml, hown, hts⟩ (c_M_holds l D ad ca hD0 (z := z) (u := u)  h2) (w_M_holds hts a_251 ⟨Nat.le_of_ble_eq_true rfl, Nat.le_of_ble_eq_true rfl⟩) (rv_M hK hP (by decide)) hP hK rfl rfl hl.1 (Nat.le_of_ble_eq_true rfl) ⟨Nat.zero_le _, Nat.zero_le _⟩ d_H_lose_5 ?_
  refine lv_if_ne (tgt := 13) hx hb d_H_lose_8 (by decide) (fun h3 => ?_) (fun h3 => ?_)
  · have hF := it_f hF h3
    refine lv_aload_n hx hb d_H_lose_13 rfl (lv_at hl 0 rfl) ?_
    refine gf_H_2 hx hb hts hown hK hP (by decide) a_207 d_H_lose_14 ?_
    refine lv_iload_n hx hb d_H_lose_17 rfl (lv_at hl 1 rfl) ?_
    obtain ⟨r4, u6, h5, hF⟩ := bd_u hF
    refine k_vr (ad 3 0) [.int a1] [] ⟨hx, hb, hml, hown, hts⟩ (c_M_take l D ad ca hD0 (z := z) (u := u)  h5) (w_M_take hts a_255 ⟨Nat.le_of_ble_eq_true rfl, Nat.le_of_ble_eq_true rfl⟩) (rv_M hK hP (by decide)) hP hK hS (fun _ h => h) rfl rfl hl.1 (Nat.le_of_ble_eq_true rfl) ⟨Nat.zero_le _, Nat.zero_le _⟩ d_H_lose_18 (fun H locs hP hS => ?_)
    obtain ⟨h7, hF⟩ := as_u hF
    refine lv_pop hx hb d_H_lose_21 rfl ?_
    refine lv_iconst (v := 1) hx hb d_H_lose_22 (by decide) ?_
    obtain ⟨rfl, rfl⟩ := rt2 hF
    exact W.zret (v := 1) hx hb hr rfl (fun t ht hW => ⟨⟨_, (), rfl, rfl, vp_at ht hP⟩, hS.F ht⟩) hS.2.2 d_H_lose_23
  · have hF := it_t hF h3
    refine lv_iconst (v := 0) hx hb d_H_lose_11 (by decide) ?_
    obtain ⟨rfl, rfl⟩ := rt2 hF
    exact W.zret (v := 0) hx hb hr rfl (fun t ht hW => ⟨⟨_, (), rfl, rfl, vp_at ht hP⟩, hS.F ht⟩) hS.2.2 d_H_lose_12
def ws_H_twin : List Cond := Cond.code y_H_twin b_H_twin 2 (some .boolean) :: ALL
theorem w_H_twin {R : Room} {s : State} {args : Array Value} {own : String} {index : Nat} (hts : ∀ w ∈ ALL, w.before args s = true) (hlk : Cond.methodLink own index y_H_twin ∈ ALL) (hR : (({ frames := 3, cells := 0, slots := 0, locals := 70 } : Room)).frames + 1 ≤ R.frames ∧ 8 + (2 + 11) + (({ frames := 3, cells := 0, slots := 0, locals := 70 } : Room)).locals ≤ R.locals) : CallW R s args own R_H index y_H_twin b_H_twin 2 (some .boolean) ws_H_twin ({ frames := 3, cells := 0, slots := 0, locals := 70 } : Room) 0 0 1 := ⟨callB_of 1 hts (good_c a_262) rfl rfl rfl (hts _ a_1) (hts _ hlk) (by decide +kernel) hR, hts _ a_260, hts _ a_261⟩
theorem d_H_twin_0 : decode b_H_twin 0 = .ok (.aload_n 0, 1) := by decide +kernel
theorem d_H_twin_1 : decode b_H_twin 1 = .ok (.getfield 24, 3) := by decide +kernel
theorem d_H_twin_4 : decode b_H_twin 4 = .ok (.iload_n 1, 1) := by decide +kernel
theorem d_H_twin_5 : decode b_H_twin 5 = .ok (.invokevirtual 139, 3) := by decide +kernel
theorem d_H_twin_8 : decode b_H_twin 8 = .ok (.ifCond .eq 16, 3) := by decide +kernel
theorem d_H_twin_11 : decode b_H_twin 11 = .ok (.aload_n 0, 1) := by decide +kernel
theorem d_H_twin_12 : decode b_H_twin 12 = .ok (.getfield 24, 3) := by decide +kernel
theorem d_H_twin_15 : decode b_H_twin 15 = .ok (.getfield 136, 3) := by decide +kernel
theorem d_H_twin_18 : decode b_H_twin 18 = .ok (.sipush 150, 3) := by decide +kernel
theorem d_H_twin_21 : decode b_H_twin 21 = .ok (.if_icmp .ne 5, 3) := by decide +kernel
theorem d_H_twin_24 : decode b_H_twin 24 = .ok (.iconst 0, 1) := by decide +kernel
theorem d_H_twin_25 : decode b_H_twin 25 = .ok (.ireturn, 1) := by decide +kernel
theorem d_H_twin_26 : decode b_H_twin 26 = .ok (.aload_n 0, 1) := by decide +kernel
theorem d_H_twin_27 : decode b_H_twin 27 = .ok (.getfield 24, 3) := by decide +kernel
theorem d_H_twin_30 : decode b_H_twin 30 = .ok (.iload_n 1, 1) := by decide +kernel
theorem d_H_twin_31 : decode b_H_twin 31 = .ok (.invokevirtual 195, 3) := by decide +kernel
theorem d_H_twin_34 : decode b_H_twin 34 = .ok (.iconst 1, 1) := by decide +kernel
theorem d_H_twin_35 : decode b_H_twin 35 = .ok (.ireturn, 1) := by decide +kernel
def F_H_twin (u : XC) (a1 : Int32) : Option (Int32 × XC) := (bs_ (F_M_holds u a1) fun r1 => (if r1 = 0 then some (0, u) else (if (u.1 3 0 3) = 150 then some (0, u) else (bs_ (F_M_copyToEnd u a1) fun u7 => some (1, u7)))))
set_option maxHeartbeats 4000000 in
set_option maxRecDepth 100000 in
theorem c_H_twin (l : Launch) (D : va_G) (ad : Nat → Nat → Nat) (ca : Nat → ClassId) (hD0 : ∀ z u, va_D (AH ad) (wh ad ca z u)) {z : ZW} {u : XC} {a1 : Int32} {r0 : Int32} {u0 : XC}  (hF : F_H_twin u a1 = some (r0, u0)) : Met l y_H_twin ws_H_twin ({ frames := 3, cells := 0, slots := 0, locals := 70 } : Room) (va_Pc [.ref (ad 0 0), .int a1] (fun U => va_P D CLS (wh ad ca z u) U.heap ∧ va_K D CLS (TYH ca) U)) (va_Qi (fun (r : Int32) (_ : Unit) => r = r0) (fun _ t => va_P D CLS (wh ad ca z u0) t.heap) (AH ad)) 0 0 (AH ad) := by
  refine Met.ofW (cc := b_H_twin) (maxL := 2) (ret := (some .boolean)) (by decide +kernel) rfl ?_
  intro p e s m args below meth c s₁ B hml hv
  obtain ⟨rfl, hP, hK⟩ := hv
  have hx := B.exec
  have hb := B.bytes
  have hr := B.returns
  have hts : ∀ w ∈ ALL, w.before _ s = true := fun w h => atoms_spec (ws := ws_H_twin) B.pre w (List.mem_cons_of_mem _ h)
  have hown : s.vm.findClass R_H = some m.cls := findClass_of_methodNamed B.named
  have hlocks := B.notSynchronized
  have hD := hD0
  have hS : va_S (AH ad) s.heap s.heap [] := va_S.rf
  have hP : va_P D CLS (wh ad ca z u) s.heap := hP
  have hl := lv_entry ([.ref (ad 0 0), .int a1]) (n := 2) (Nat.le_of_ble_eq_true rfl)
  rw [lg_entry_eq]
  generalize (lg_sl ([.ref (ad 0 0), .int a1]) ++ List.replicate (2 - (lg_sl ([.ref (ad 0 0), .int a1])).length) Slot.unset).toArray = ls at hl ⊢
  have hl : lv_has ls 2 [(0, .ref (ad 0 0)), (1, .int a1)] := hl
  unfold F_H_twin at hF
  refine lv_aload_n hx hb d_H_twin_0 rfl (lv_at hl 0 rfl) ?_
  refine gf_H_2 hx hb hts hown hK hP (by decide) a_207 d_H_twin_1 ?_
  refine lv_iload_n hx hb d_H_twin_4 rfl (lv_at hl 1 rfl) ?_
  obtain ⟨r1, h2, hF⟩ := bs_u hF
  refine k_vp (ad 3 0) [.int a1] [] ⟨hx, hb, hml, hown, hts⟩ (c_M_holds l D ad ca hD0 (z := z) (u := u)  h2) (w_M_holds hts a_251 ⟨Nat.le_of_ble_eq_true rfl, Nat.le_of_ble_eq_true rfl⟩) (rv_M hK hP (by decide)) hP hK rfl rfl hl.1 (Nat.le_of_ble_eq_true rfl) ⟨Nat.zero_le _, Nat.zero_le _⟩ d_H_twin_5 ?_
  refine lv_if_eq (tgt := 24) hx hb d_H_twin_8 (by decide) (fun h3 => ?_) (fun h3 => ?_)
  · have hF := it_t hF h3
    refine lv_iconst (v := 0) hx hb d_H_twin_24 (by decide) ?_
    obtain ⟨rfl, rfl⟩ := rt2 hF
    exact W.zret (v := 0) hx hb hr rfl (fun t ht hW => ⟨⟨_, (), rfl, rfl, vp_at ht hP⟩, hS.F ht⟩) hS.2.2 d_H_twin_25
  · have hF := it_f hF h3
    refine lv_aload_n hx hb d_H_twin_11 rfl (lv_at hl 0 rfl) ?_
    refine gf_H_2 hx hb hts hown hK hP (by decide) a_207 d_H_twin_12 ?_
    refine gf_M_3 hx hb hts hown hK hP (by decide) a_89 d_H_twin_15 ?_
    refine lv_sipush (v := 150) hx hb d_H_twin_18 (by decide) ?_
    refine lv_icmp_ne (tgt := 26) hx hb d_H_twin_21 (by decide) (fun h4 => ?_) (fun h4 => ?_)
    · have hF := it_f hF h4
      refine lv_aload_n hx hb d_H_twin_26 rfl (lv_at hl 0 rfl) ?_
      refine gf_H_2 hx hb hts hown hK hP (by decide) a_207 d_H_twin_27 ?_
      refine lv_iload_n hx hb d_H_twin_30 rfl (lv_at hl 1 rfl) ?_
      obtain ⟨u7, h6, hF⟩ := bs_u hF
      refine k_vv (ad 3 0) [.int a1] [] ⟨hx, hb, hml, hown, hts⟩ (c_M_copyToEnd l D ad ca hD0 (z := z) (u := u)  h6) (w_M_copyToEnd hts a_263 ⟨Nat.le_of_ble_eq_true rfl, Nat.le_of_ble_eq_true rfl⟩) (rv_M hK hP (by decide)) hP hK hS (fun _ h => h) rfl rfl hl.1 (Nat.le_of_ble_eq_true rfl) ⟨Nat.zero_le _, Nat.zero_le _⟩ d_H_twin_31 (fun H locs hP hS => ?_)
      refine lv_iconst (v := 1) hx hb d_H_twin_34 (by decide) ?_
      obtain ⟨rfl, rfl⟩ := rt2 hF
      exact W.zret (v := 1) hx hb hr rfl (fun t ht hW => ⟨⟨_, (), rfl, rfl, vp_at ht hP⟩, hS.F ht⟩) hS.2.2 d_H_twin_35
    · have hF := it_t hF h4
      refine lv_iconst (v := 0) hx hb d_H_twin_24 (by decide) ?_
      obtain ⟨rfl, rfl⟩ := rt2 hF
      exact W.zret (v := 0) hx hb hr rfl (fun t ht hW => ⟨⟨_, (), rfl, rfl, vp_at ht hP⟩, hS.F ht⟩) hS.2.2 d_H_twin_25
def ws_H_crash : List Cond := Cond.code y_H_crash b_H_crash 2 (some .boolean) :: ALL
theorem w_H_crash {R : Room} {s : State} {args : Array Value} {own : String} {index : Nat} (hts : ∀ w ∈ ALL, w.before args s = true) (hlk : Cond.methodLink own index y_H_crash ∈ ALL) (hR : (({ frames := 1, cells := 0, slots := 0, locals := 20 } : Room)).frames + 1 ≤ R.frames ∧ 8 + (2 + 11) + (({ frames := 1, cells := 0, slots := 0, locals := 20 } : Room)).locals ≤ R.locals) : CallW R s args own R_H index y_H_crash b_H_crash 2 (some .boolean) ws_H_crash ({ frames := 1, cells := 0, slots := 0, locals := 20 } : Room) 0 0 1 := ⟨callB_of 1 hts (good_c a_278) rfl rfl rfl (hts _ a_1) (hts _ hlk) (by decide +kernel) hR, hts _ a_276, hts _ a_277⟩
theorem d_H_crash_0 : decode b_H_crash 0 = .ok (.iload_n 1, 1) := by decide +kernel
theorem d_H_crash_1 : decode b_H_crash 1 = .ok (.invokestatic 36, 3) := by decide +kernel
theorem d_H_crash_4 : decode b_H_crash 4 = .ok (.ifCond .eq 15, 3) := by decide +kernel
theorem d_H_crash_7 : decode b_H_crash 7 = .ok (.aload_n 0, 1) := by decide +kernel
theorem d_H_crash_8 : decode b_H_crash 8 = .ok (.getfield 11, 3) := by decide +kernel
theorem d_H_crash_11 : decode b_H_crash 11 = .ok (.iload_n 1, 1) := by decide +kernel
theorem d_H_crash_12 : decode b_H_crash 12 = .ok (.aaload, 1) := by decide +kernel
theorem d_H_crash_13 : decode b_H_crash 13 = .ok (.getfield 43, 3) := by decide +kernel
theorem d_H_crash_16 : decode b_H_crash 16 = .ok (.ifCond .eq 5, 3) := by decide +kernel
theorem d_H_crash_19 : decode b_H_crash 19 = .ok (.iconst 0, 1) := by decide +kernel
theorem d_H_crash_20 : decode b_H_crash 20 = .ok (.ireturn, 1) := by decide +kernel
theorem d_H_crash_21 : decode b_H_crash 21 = .ok (.aload_n 0, 1) := by decide +kernel
theorem d_H_crash_22 : decode b_H_crash 22 = .ok (.getfield 11, 3) := by decide +kernel
theorem d_H_crash_25 : decode b_H_crash 25 = .ok (.iload_n 1, 1) := by decide +kernel
theorem d_H_crash_26 : decode b_H_crash 26 = .ok (.aaload, 1) := by decide +kernel
theorem d_H_crash_27 : decode b_H_crash 27 = .ok (.iconst 1, 1) := by decide +kernel
theorem d_H_crash_28 : decode b_H_crash 28 = .ok (.putfield 43, 3) := by decide +kernel
theorem d_H_crash_31 : decode b_H_crash 31 = .ok (.aload_n 0, 1) := by decide +kernel
theorem d_H_crash_32 : decode b_H_crash 32 = .ok (.getfield 11, 3) := by decide +kernel
theorem d_H_crash_35 : decode b_H_crash 35 = .ok (.iload_n 1, 1) := by decide +kernel
theorem d_H_crash_36 : decode b_H_crash 36 = .ok (.aaload, 1) := by decide +kernel
theorem d_H_crash_37 : decode b_H_crash 37 = .ok (.iconst (-1), 1) := by decide +kernel
theorem d_H_crash_38 : decode b_H_crash 38 = .ok (.putfield 50, 3) := by decide +kernel
theorem d_H_crash_41 : decode b_H_crash 41 = .ok (.aload_n 0, 1) := by decide +kernel
theorem d_H_crash_42 : decode b_H_crash 42 = .ok (.getfield 11, 3) := by decide +kernel
theorem d_H_crash_45 : decode b_H_crash 45 = .ok (.iload_n 1, 1) := by decide +kernel
theorem d_H_crash_46 : decode b_H_crash 46 = .ok (.aaload, 1) := by decide +kernel
theorem d_H_crash_47 : decode b_H_crash 47 = .ok (.getfield 70, 3) := by decide +kernel
theorem d_H_crash_50 : decode b_H_crash 50 = .ok (.iconst 0, 1) := by decide +kernel
theorem d_H_crash_51 : decode b_H_crash 51 = .ok (.putfield 74, 3) := by decide +kernel
theorem d_H_crash_54 : decode b_H_crash 54 = .ok (.iconst 1, 1) := by decide +kernel
theorem d_H_crash_55 : decode b_H_crash 55 = .ok (.ireturn, 1) := by decide +kernel
def F_H_crash (u : XC) (a1 : Int32) : Option (Int32 × XC) := (bs_ (F_H_isOffice a1) fun r1 => (if r1 = 0 then some (0, u) else (if 0 ≤ a1 ∧ (a1).toNatClampNeg < 27 then (if (u.1 4 (a1).toNatClampNeg 5) = 0 then (if 0 ≤ a1 ∧ (a1).toNatClampNeg < 27 then (nm_ (pu u 4 (a1).toNatClampNeg 5 1) fun u7 => (if 0 ≤ a1 ∧ (a1).toNatClampNeg < 27 then (nm_ (pu u7 4 (a1).toNatClampNeg 6 (-1)) fun u10 => (if 0 ≤ a1 ∧ (a1).toNatClampNeg < 27 then (nm_ (pu u10 11 (a1).toNatClampNeg 0 0) fun u13 => some (1, u13)) else none)) else none)) else none) else some (0, u)) else none)))
set_option maxHeartbeats 4000000 in
set_option maxRecDepth 100000 in
theorem c_H_crash (l : Launch) (D : va_G) (ad : Nat → Nat → Nat) (ca : Nat → ClassId) (hD0 : ∀ z u, va_D (AH ad) (wh ad ca z u)) {z : ZW} {u : XC} {a1 : Int32} {r0 : Int32} {u0 : XC}  (hF : F_H_crash u a1 = some (r0, u0)) : Met l y_H_crash ws_H_crash ({ frames := 1, cells := 0, slots := 0, locals := 20 } : Room) (va_Pc [.ref (ad 0 0), .int a1] (fun U => va_P D CLS (wh ad ca z u) U.heap ∧ va_K D CLS (TYH ca) U)) (va_Qi (fun (r : Int32) (_ : Unit) => r = r0) (fun _ t => va_P D CLS (wh ad ca z u0) t.heap) (AH ad)) 0 0 (AH ad) := by
  refine Met.ofW (cc := b_H_crash) (maxL := 2) (ret := (some .boolean)) (by decide +kernel) rfl ?_
  intro p e s m args below meth c s₁ B hml hv
  obtain ⟨rfl, hP, hK⟩ := hv
  have hx := B.exec
  have hb := B.bytes
  have hr := B.returns
  have hts : ∀ w ∈ ALL, w.before _ s = true := fun w h => atoms_spec (ws := ws_H_crash) B.pre w (List.mem_cons_of_mem _ h)
  have hown : s.vm.findClass R_H = some m.cls := findClass_of_methodNamed B.named
  have hlocks := B.notSynchronized
  have hD := hD0
  have hS : va_S (AH ad) s.heap s.heap [] := va_S.rf
  have hP : va_P D CLS (wh ad ca z u) s.heap := hP
  have hl := lv_entry ([.ref (ad 0 0), .int a1]) (n := 2) (Nat.le_of_ble_eq_true rfl)
  rw [lg_entry_eq]
  generalize (lg_sl ([.ref (ad 0 0), .int a1]) ++ List.replicate (2 - (lg_sl ([.ref (ad 0 0), .int a1])).length) Slot.unset).toArray = ls at hl ⊢
  have hl : lv_has ls 2 [(0, .ref (ad 0 0)), (1, .int a1)] := hl
  unfold F_H_crash at hF
  refine lv_iload_n hx hb d_H_crash_0 rfl (lv_at hl 1 rfl) ?_
  obtain ⟨r1, h2, hF⟩ := bs_u hF
  refine k_sp [.int a1] [] ⟨hx, hb, hml, hown, hts⟩ (c_H_isOffice l  h2) (w_H_isOffice hts a_222 ⟨Nat.le_of_ble_eq_true rfl, Nat.le_of_ble_eq_true rfl⟩) rfl rfl hl.1 (Nat.le_of_ble_eq_true rfl) ⟨Nat.zero_le _, Nat.zero_le _⟩ d_H_crash_1 ?_
  refine lv_if_eq (tgt := 19) hx hb d_H_crash_4 (by decide) (fun h3 => ?_) (fun h3 => ?_)
  · have hF := it_t hF h3
    refine lv_iconst (v := 0) hx hb d_H_crash_19 (by decide) ?_
    obtain ⟨rfl, rfl⟩ := rt2 hF
    exact W.zret (v := 0) hx hb hr rfl (fun t ht hW => ⟨⟨_, (), rfl, rfl, vp_at ht hP⟩, hS.F ht⟩) hS.2.2 d_H_crash_20
  · have hF := it_f hF h3
    refine lv_aload_n hx hb d_H_crash_7 rfl (lv_at hl 0 rfl) ?_
    refine gf_H_0 hx hb hts hown hK hP (by decide) a_205 d_H_crash_8 ?_
    refine lv_iload_n hx hb d_H_crash_11 rfl (lv_at hl 1 rfl) ?_
    obtain ⟨h4, hF⟩ := as_u hF
    refine al_1 hx hb hK hP h4 d_H_crash_12 ?_
    refine gf_O_5 hx hb hts hown hK hP h4.2 a_162 d_H_crash_13 ?_
    refine lv_if_eq (tgt := 21) hx hb d_H_crash_16 (by decide) (fun h5 => ?_) (fun h5 => ?_)
    · have hF := it_t hF h5
      refine lv_aload_n hx hb d_H_crash_21 rfl (lv_at hl 0 rfl) ?_
      refine gf_H_0 hx hb hts hown hK hP (by decide) a_205 d_H_crash_22 ?_
      refine lv_iload_n hx hb d_H_crash_25 rfl (lv_at hl 1 rfl) ?_
      obtain ⟨h6, hF⟩ := as_u hF
      refine al_1 hx hb hK hP h6 d_H_crash_26 ?_
      refine lv_iconst (v := 1) hx hb d_H_crash_27 (by decide) ?_
      obtain ⟨u7, h8, hF⟩ := nm_u hF
      refine pf_O_5 hx hb hts hown hK hP hD hS h6.2 rfl rfl h8 a_162 d_H_crash_28 (fun H locs hP hS => ?_)
      refine lv_aload_n hx hb d_H_crash_31 rfl (lv_at hl 0 rfl) ?_
      refine gf_H_0 hx hb hts hown hK hP (by decide) a_205 d_H_crash_32 ?_
      refine lv_iload_n hx hb d_H_crash_35 rfl (lv_at hl 1 rfl) ?_
      obtain ⟨h9, hF⟩ := as_u hF
      refine al_1 hx hb hK hP h9 d_H_crash_36 ?_
      refine lv_iconst (v := (-1)) hx hb d_H_crash_37 (by decide) ?_
      obtain ⟨u10, h11, hF⟩ := nm_u hF
      refine pf_O_6 hx hb hts hown hK hP hD hS h9.2 h11 a_164 d_H_crash_38 (fun H locs hP hS => ?_)
      refine lv_aload_n hx hb d_H_crash_41 rfl (lv_at hl 0 rfl) ?_
      refine gf_H_0 hx hb hts hown hK hP (by decide) a_205 d_H_crash_42 ?_
      refine lv_iload_n hx hb d_H_crash_45 rfl (lv_at hl 1 rfl) ?_
      obtain ⟨h12, hF⟩ := as_u hF
      refine al_1 hx hb hK hP h12 d_H_crash_46 ?_
      refine gf_O_7 hx hb hts hown hK hP h12.2 a_166 d_H_crash_47 ?_
      refine lv_iconst (v := 0) hx hb d_H_crash_50 (by decide) ?_
      obtain ⟨u13, h14, hF⟩ := nm_u hF
      refine pf_R_0 hx hb hts hown hK hP hD hS h12.2 h14 a_111 d_H_crash_51 (fun H locs hP hS => ?_)
      refine lv_iconst (v := 1) hx hb d_H_crash_54 (by decide) ?_
      obtain ⟨rfl, rfl⟩ := rt2 hF
      exact W.zret (v := 1) hx hb hr rfl (fun t ht hW => ⟨⟨_, (), rfl, rfl, vp_at ht hP⟩, hS.F ht⟩) hS.2.2 d_H_crash_55
    · have hF := it_f hF h5
      refine lv_iconst (v := 0) hx hb d_H_crash_19 (by decide) ?_
      obtain ⟨rfl, rfl⟩ := rt2 hF
      exact W.zret (v := 0) hx hb hr rfl (fun t ht hW => ⟨⟨_, (), rfl, rfl, vp_at ht hP⟩, hS.F ht⟩) hS.2.2 d_H_crash_20
def ws_H_restart : List Cond := Cond.code y_H_restart b_H_restart 2 (some .boolean) :: ALL
theorem w_H_restart {R : Room} {s : State} {args : Array Value} {own : String} {index : Nat} (hts : ∀ w ∈ ALL, w.before args s = true) (hlk : Cond.methodLink own index y_H_restart ∈ ALL) (hR : (({ frames := 1, cells := 0, slots := 0, locals := 20 } : Room)).frames + 1 ≤ R.frames ∧ 8 + (2 + 11) + (({ frames := 1, cells := 0, slots := 0, locals := 20 } : Room)).locals ≤ R.locals) : CallW R s args own R_H index y_H_restart b_H_restart 2 (some .boolean) ws_H_restart ({ frames := 1, cells := 0, slots := 0, locals := 20 } : Room) 0 0 1 := ⟨callB_of 1 hts (good_c a_282) rfl rfl rfl (hts _ a_1) (hts _ hlk) (by decide +kernel) hR, hts _ a_280, hts _ a_281⟩
theorem d_H_restart_0 : decode b_H_restart 0 = .ok (.iload_n 1, 1) := by decide +kernel
theorem d_H_restart_1 : decode b_H_restart 1 = .ok (.invokestatic 36, 3) := by decide +kernel
theorem d_H_restart_4 : decode b_H_restart 4 = .ok (.ifCond .eq 15, 3) := by decide +kernel
theorem d_H_restart_7 : decode b_H_restart 7 = .ok (.aload_n 0, 1) := by decide +kernel
theorem d_H_restart_8 : decode b_H_restart 8 = .ok (.getfield 11, 3) := by decide +kernel
theorem d_H_restart_11 : decode b_H_restart 11 = .ok (.iload_n 1, 1) := by decide +kernel
theorem d_H_restart_12 : decode b_H_restart 12 = .ok (.aaload, 1) := by decide +kernel
theorem d_H_restart_13 : decode b_H_restart 13 = .ok (.getfield 43, 3) := by decide +kernel
theorem d_H_restart_16 : decode b_H_restart 16 = .ok (.ifCond .ne 5, 3) := by decide +kernel
theorem d_H_restart_19 : decode b_H_restart 19 = .ok (.iconst 0, 1) := by decide +kernel
theorem d_H_restart_20 : decode b_H_restart 20 = .ok (.ireturn, 1) := by decide +kernel
theorem d_H_restart_21 : decode b_H_restart 21 = .ok (.aload_n 0, 1) := by decide +kernel
theorem d_H_restart_22 : decode b_H_restart 22 = .ok (.getfield 11, 3) := by decide +kernel
theorem d_H_restart_25 : decode b_H_restart 25 = .ok (.iload_n 1, 1) := by decide +kernel
theorem d_H_restart_26 : decode b_H_restart 26 = .ok (.aaload, 1) := by decide +kernel
theorem d_H_restart_27 : decode b_H_restart 27 = .ok (.iconst 0, 1) := by decide +kernel
theorem d_H_restart_28 : decode b_H_restart 28 = .ok (.putfield 43, 3) := by decide +kernel
theorem d_H_restart_31 : decode b_H_restart 31 = .ok (.iconst 1, 1) := by decide +kernel
theorem d_H_restart_32 : decode b_H_restart 32 = .ok (.ireturn, 1) := by decide +kernel
def F_H_restart (u : XC) (a1 : Int32) : Option (Int32 × XC) := (bs_ (F_H_isOffice a1) fun r1 => (if r1 = 0 then some (0, u) else (if 0 ≤ a1 ∧ (a1).toNatClampNeg < 27 then (if (u.1 4 (a1).toNatClampNeg 5) = 0 then some (0, u) else (if 0 ≤ a1 ∧ (a1).toNatClampNeg < 27 then (nm_ (pu u 4 (a1).toNatClampNeg 5 0) fun u7 => some (1, u7)) else none)) else none)))
set_option maxHeartbeats 4000000 in
set_option maxRecDepth 100000 in
theorem c_H_restart (l : Launch) (D : va_G) (ad : Nat → Nat → Nat) (ca : Nat → ClassId) (hD0 : ∀ z u, va_D (AH ad) (wh ad ca z u)) {z : ZW} {u : XC} {a1 : Int32} {r0 : Int32} {u0 : XC}  (hF : F_H_restart u a1 = some (r0, u0)) : Met l y_H_restart ws_H_restart ({ frames := 1, cells := 0, slots := 0, locals := 20 } : Room) (va_Pc [.ref (ad 0 0), .int a1] (fun U => va_P D CLS (wh ad ca z u) U.heap ∧ va_K D CLS (TYH ca) U)) (va_Qi (fun (r : Int32) (_ : Unit) => r = r0) (fun _ t => va_P D CLS (wh ad ca z u0) t.heap) (AH ad)) 0 0 (AH ad) := by
  refine Met.ofW (cc := b_H_restart) (maxL := 2) (ret := (some .boolean)) (by decide +kernel) rfl ?_
  intro p e s m args below meth c s₁ B hml hv
  obtain ⟨rfl, hP, hK⟩ := hv
  have hx := B.exec
  have hb := B.bytes
  have hr := B.returns
  have hts : ∀ w ∈ ALL, w.before _ s = true := fun w h => atoms_spec (ws := ws_H_restart) B.pre w (List.mem_cons_of_mem _ h)
  have hown : s.vm.findClass R_H = some m.cls := findClass_of_methodNamed B.named
  have hlocks := B.notSynchronized
  have hD := hD0
  have hS : va_S (AH ad) s.heap s.heap [] := va_S.rf
  have hP : va_P D CLS (wh ad ca z u) s.heap := hP
  have hl := lv_entry ([.ref (ad 0 0), .int a1]) (n := 2) (Nat.le_of_ble_eq_true rfl)
  rw [lg_entry_eq]
  generalize (lg_sl ([.ref (ad 0 0), .int a1]) ++ List.replicate (2 - (lg_sl ([.ref (ad 0 0), .int a1])).length) Slot.unset).toArray = ls at hl ⊢
  have hl : lv_has ls 2 [(0, .ref (ad 0 0)), (1, .int a1)] := hl
  unfold F_H_restart at hF
  refine lv_iload_n hx hb d_H_restart_0 rfl (lv_at hl 1 rfl) ?_
  obtain ⟨r1, h2, hF⟩ := bs_u hF
  refine k_sp [.int a1] [] ⟨hx, hb, hml, hown, hts⟩ (c_H_isOffice l  h2) (w_H_isOffice hts a_222 ⟨Nat.le_of_ble_eq_true rfl, Nat.le_of_ble_eq_true rfl⟩) rfl rfl hl.1 (Nat.le_of_ble_eq_true rfl) ⟨Nat.zero_le _, Nat.zero_le _⟩ d_H_restart_1 ?_
  refine lv_if_eq (tgt := 19) hx hb d_H_restart_4 (by decide) (fun h3 => ?_) (fun h3 => ?_)
  · have hF := it_t hF h3
    refine lv_iconst (v := 0) hx hb d_H_restart_19 (by decide) ?_
    obtain ⟨rfl, rfl⟩ := rt2 hF
    exact W.zret (v := 0) hx hb hr rfl (fun t ht hW => ⟨⟨_, (), rfl, rfl, vp_at ht hP⟩, hS.F ht⟩) hS.2.2 d_H_restart_20
  · have hF := it_f hF h3
    refine lv_aload_n hx hb d_H_restart_7 rfl (lv_at hl 0 rfl) ?_
    refine gf_H_0 hx hb hts hown hK hP (by decide) a_205 d_H_restart_8 ?_
    refine lv_iload_n hx hb d_H_restart_11 rfl (lv_at hl 1 rfl) ?_
    obtain ⟨h4, hF⟩ := as_u hF
    refine al_1 hx hb hK hP h4 d_H_restart_12 ?_
    refine gf_O_5 hx hb hts hown hK hP h4.2 a_162 d_H_restart_13 ?_
    refine lv_if_ne (tgt := 21) hx hb d_H_restart_16 (by decide) (fun h5 => ?_) (fun h5 => ?_)
    · have hF := it_f hF h5
      refine lv_aload_n hx hb d_H_restart_21 rfl (lv_at hl 0 rfl) ?_
      refine gf_H_0 hx hb hts hown hK hP (by decide) a_205 d_H_restart_22 ?_
      refine lv_iload_n hx hb d_H_restart_25 rfl (lv_at hl 1 rfl) ?_
      obtain ⟨h6, hF⟩ := as_u hF
      refine al_1 hx hb hK hP h6 d_H_restart_26 ?_
      refine lv_iconst (v := 0) hx hb d_H_restart_27 (by decide) ?_
      obtain ⟨u7, h8, hF⟩ := nm_u hF
      refine pf_O_5 hx hb hts hown hK hP hD hS h6.2 rfl rfl h8 a_162 d_H_restart_28 (fun H locs hP hS => ?_)
      refine lv_iconst (v := 1) hx hb d_H_restart_31 (by decide) ?_
      obtain ⟨rfl, rfl⟩ := rt2 hF
      exact W.zret (v := 1) hx hb hr rfl (fun t ht hW => ⟨⟨_, (), rfl, rfl, vp_at ht hP⟩, hS.F ht⟩) hS.2.2 d_H_restart_32
    · have hF := it_t hF h5
      refine lv_iconst (v := 0) hx hb d_H_restart_19 (by decide) ?_
      obtain ⟨rfl, rfl⟩ := rt2 hF
      exact W.zret (v := 0) hx hb hr rfl (fun t ht hW => ⟨⟨_, (), rfl, rfl, vp_at ht hP⟩, hS.F ht⟩) hS.2.2 d_H_restart_20
def ws_H_quorum : List Cond := Cond.code y_H_quorum b_H_quorum 2 (some .boolean) :: ALL
theorem w_H_quorum {R : Room} {s : State} {args : Array Value} {own : String} {index : Nat} (hts : ∀ w ∈ ALL, w.before args s = true) (hlk : Cond.methodLink own index y_H_quorum ∈ ALL) (hR : (({ frames := 4, cells := 0, slots := 0, locals := 97 } : Room)).frames + 1 ≤ R.frames ∧ 8 + (2 + 11) + (({ frames := 4, cells := 0, slots := 0, locals := 97 } : Room)).locals ≤ R.locals) : CallW R s args own R_H index y_H_quorum b_H_quorum 2 (some .boolean) ws_H_quorum ({ frames := 4, cells := 0, slots := 0, locals := 97 } : Room) 0 0 1 := ⟨callB_of 1 hts (good_c a_286) rfl rfl rfl (hts _ a_1) (hts _ hlk) (by decide +kernel) hR, hts _ a_284, hts _ a_285⟩
theorem d_H_quorum_0 : decode b_H_quorum 0 = .ok (.iload_n 1, 1) := by decide +kernel
theorem d_H_quorum_1 : decode b_H_quorum 1 = .ok (.invokestatic 198, 3) := by decide +kernel
theorem d_H_quorum_4 : decode b_H_quorum 4 = .ok (.ireturn, 1) := by decide +kernel
def F_H_quorum (u : XC) (a1 : Int32) : Option (Int32) := (bs_ (F_S_isQuorum a1) fun r1 => (if r1 = 0 ∨ r1 = 1 then some r1 else none))
set_option maxHeartbeats 4000000 in
set_option maxRecDepth 100000 in
theorem c_H_quorum (l : Launch) (D : va_G) (ad : Nat → Nat → Nat) (ca : Nat → ClassId) (hD0 : ∀ z u, va_D (AH ad) (wh ad ca z u)) {z : ZW} {u : XC} {a1 : Int32} {r0 : Int32}  (hF : F_H_quorum u a1 = some r0) : Met l y_H_quorum ws_H_quorum ({ frames := 4, cells := 0, slots := 0, locals := 97 } : Room) (va_Pc [.ref (ad 0 0), .int a1] (fun U => va_P D CLS (wh ad ca z u) U.heap ∧ va_K D CLS (TYH ca) U)) (vp_Si (fun r => r = r0)) 0 0 (fun _ => False) := by
  refine Met.ofW (cc := b_H_quorum) (maxL := 2) (ret := (some .boolean)) (by decide +kernel) rfl ?_
  intro p e s m args below meth c s₁ B hml hv
  obtain ⟨rfl, hP, hK⟩ := hv
  have hx := B.exec
  have hb := B.bytes
  have hr := B.returns
  have hts : ∀ w ∈ ALL, w.before _ s = true := fun w h => atoms_spec (ws := ws_H_quorum) B.pre w (List.mem_cons_of_mem _ h)
  have hown : s.vm.findClass R_H = some m.cls := findClass_of_methodNamed B.named
  have hlocks := B.notSynchronized
  have hD := hD0
  have hS : va_S (fun _ => True) s.heap s.heap [] := va_S.rf
  have hN : ∀ q ∈ ([] : List Loc), (fun _ => False) q.base := fun _ h => absurd h List.not_mem_nil
  have hP : va_P D CLS (wh ad ca z u) s.heap := hP
  have hl := lv_entry ([.ref (ad 0 0), .int a1]) (n := 2) (Nat.le_of_ble_eq_true rfl)
  rw [lg_entry_eq]
  generalize (lg_sl ([.ref (ad 0 0), .int a1]) ++ List.replicate (2 - (lg_sl ([.ref (ad 0 0), .int a1])).length) Slot.unset).toArray = ls at hl ⊢
  have hl : lv_has ls 2 [(0, .ref (ad 0 0)), (1, .int a1)] := hl
  have hH : s.heap = s.heap := rfl
  unfold F_H_quorum at hF
  refine lv_iload_n hx hb d_H_quorum_0 rfl (lv_at hl 1 rfl) ?_
  obtain ⟨r1, h2, hF⟩ := bs_u hF
  refine k_sp [.int a1] [] ⟨hx, hb, hml, hown, hts⟩ (c_S_isQuorum l  h2) (w_S_isQuorum hts a_287 ⟨Nat.le_of_ble_eq_true rfl, Nat.le_of_ble_eq_true rfl⟩) rfl rfl hl.1 (Nat.le_of_ble_eq_true rfl) ⟨Nat.zero_le _, Nat.zero_le _⟩ d_H_quorum_1 ?_
  obtain ⟨h3, hF⟩ := as_u hF
  have hF := rt1 hF
  subst hF
  exact W.zret (v := r1) hx hb hr (nb_of h3) (fun t ht hW => ⟨_, rfl, rfl, ht.trans hH⟩) hN d_H_quorum_4
