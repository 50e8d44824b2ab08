def ws_H_least : List Cond := Cond.code y_H_least b_H_least 2 (some .int) :: ALL
theorem w_H_least {R : Room} {s : State} {args : Array Value} {own : String} {index : Nat} (hts : ∀ w ∈ ALL, w.before args s = true) (hlk : Cond.methodLink own index y_H_least ∈ ALL) (hR : (({ frames := 3, cells := 0, slots := 0, locals := 77 } : Room)).frames + 1 ≤ R.frames ∧ 8 + (2 + 11) + (({ frames := 3, cells := 0, slots := 0, locals := 77 } : Room)).locals ≤ R.locals) : CallW R s args own R_H index y_H_least b_H_least 2 (some .int) ws_H_least ({ frames := 3, cells := 0, slots := 0, locals := 77 } : Room) 0 0 1 := ⟨callB_of 1 hts (good_c a_302) rfl rfl rfl (hts _ a_1) (hts _ hlk) (by decide +kernel) hR, hts _ a_300, hts _ a_301⟩
theorem d_H_least_0 : decode b_H_least 0 = .ok (.iload_n 1, 1) := by decide +kernel
theorem d_H_least_1 : decode b_H_least 1 = .ok (.iconst 0, 1) := by decide +kernel
theorem d_H_least_2 : decode b_H_least 2 = .ok (.invokestatic 111, 3) := by decide +kernel
theorem d_H_least_5 : decode b_H_least 5 = .ok (.ireturn, 1) := by decide +kernel
def F_H_least (u : XC) (a1 : Int32) : Option (Int32) := (bs_ (F_S_pick a1 0) fun r1 => some r1)
set_option maxHeartbeats 4000000 in
set_option maxRecDepth 100000 in
theorem c_H_least (l : Launch) (D : va_G) (ad : Nat → Nat → Nat) (ca : Nat → ClassId) (hD0 : ∀ z u, va_D (AH ad) (wh ad ca z u)) {z : ZW} {u : XC} {a1 : Int32} {r0 : Int32}  (hF : F_H_least u a1 = some r0) : Met l y_H_least ws_H_least ({ frames := 3, cells := 0, slots := 0, locals := 77 } : Room) (va_Pc [.ref (ad 0 0), .int a1] (fun U => va_P D CLS (wh ad ca z u) U.heap ∧ va_K D CLS (TYH ca) U)) (vp_Si (fun r => r = r0)) 0 0 (fun _ => False) := by
  refine Met.ofW (cc := b_H_least) (maxL := 2) (ret := (some .int)) (by decide +kernel) rfl ?_
  intro p e s m args below meth c s₁ B hml hv
  obtain ⟨rfl, hP, hK⟩ := hv
  have hx := B.exec
  have hb := B.bytes
  have hr := B.returns
  have hts : ∀ w ∈ ALL, w.before _ s = true := fun w h => atoms_spec (ws := ws_H_least) B.pre w (List.mem_cons_of_mem _ h)
  have hown : s.vm.findClass R_H = some m.cls := findClass_of_methodNamed B.named
  have hlocks := B.notSynchronized
  have hD := hD0
  have hS : va_S (fun _ => True) s.heap s.heap [] := va_S.rf
  have hN : ∀ q ∈ ([] : List Loc), (fun _ => False) q.base := fun _ h => absurd h List.not_mem_nil
  have hP : va_P D CLS (wh ad ca z u) s.heap := hP
  have hl := lv_entry ([.ref (ad 0 0), .int a1]) (n := 2) (Nat.le_of_ble_eq_true rfl)
  rw [lg_entry_eq]
  generalize (lg_sl ([.ref (ad 0 0), .int a1]) ++ List.replicate (2 - (lg_sl ([.ref (ad 0 0), .int a1])).length) Slot.unset).toArray = ls at hl ⊢
  have hl : lv_has ls 2 [(0, .ref (ad 0 0)), (1, .int a1)] := hl
  have hH : s.heap = s.heap := rfl
  unfold F_H_least at hF
  refine lv_iload_n hx hb d_H_least_0 rfl (lv_at hl 1 rfl) ?_
  refine lv_iconst (v := 0) hx hb d_H_least_1 (by decide) ?_
  obtain ⟨r1, h2, hF⟩ := bs_u hF
  refine k_sp [.int a1, .int 0] [] ⟨hx, hb, hml, hown, hts⟩ (c_S_pick l  h2) (w_S_pick hts a_303 ⟨Nat.le_of_ble_eq_true rfl, Nat.le_of_ble_eq_true rfl⟩) rfl rfl hl.1 (Nat.le_of_ble_eq_true rfl) ⟨Nat.zero_le _, Nat.zero_le _⟩ d_H_least_2 ?_
  have hF := rt1 hF
  subst hF
  exact W.iret (v := r1) hx hb hr (fun t ht hW => ⟨_, rfl, rfl, ht.trans hH⟩) hN d_H_least_5
def ws_H_asked : List Cond := Cond.code y_H_asked b_H_asked 3 (some .int) :: ALL
theorem w_H_asked {R : Room} {s : State} {args : Array Value} {own : String} {index : Nat} (hts : ∀ w ∈ ALL, w.before args s = true) (hlk : Cond.methodLink own index y_H_asked ∈ ALL) (hR : (({ frames := 1, cells := 0, slots := 0, locals := 20 } : Room)).frames + 1 ≤ R.frames ∧ 8 + (3 + 11) + (({ frames := 1, cells := 0, slots := 0, locals := 20 } : Room)).locals ≤ R.locals) : CallW R s args own R_H index y_H_asked b_H_asked 3 (some .int) ws_H_asked ({ frames := 1, cells := 0, slots := 0, locals := 20 } : Room) 0 0 2 := ⟨callB_of 2 hts (good_c a_307) rfl rfl rfl (hts _ a_1) (hts _ hlk) (by decide +kernel) hR, hts _ a_305, hts _ a_306⟩
theorem d_H_asked_0 : decode b_H_asked 0 = .ok (.iload_n 1, 1) := by decide +kernel
theorem d_H_asked_1 : decode b_H_asked 1 = .ok (.invokestatic 36, 3) := by decide +kernel
theorem d_H_asked_4 : decode b_H_asked 4 = .ok (.ifCond .eq 18, 3) := by decide +kernel
theorem d_H_asked_7 : decode b_H_asked 7 = .ok (.aload_n 0, 1) := by decide +kernel
theorem d_H_asked_8 : decode b_H_asked 8 = .ok (.getfield 11, 3) := by decide +kernel
theorem d_H_asked_11 : decode b_H_asked 11 = .ok (.iload_n 1, 1) := by decide +kernel
theorem d_H_asked_12 : decode b_H_asked 12 = .ok (.aaload, 1) := by decide +kernel
theorem d_H_asked_13 : decode b_H_asked 13 = .ok (.getfield 70, 3) := by decide +kernel
theorem d_H_asked_16 : decode b_H_asked 16 = .ok (.getfield 74, 3) := by decide +kernel
theorem d_H_asked_19 : decode b_H_asked 19 = .ok (.ifCond .ne 5, 3) := by decide +kernel
theorem d_H_asked_22 : decode b_H_asked 22 = .ok (.iconst 0, 1) := by decide +kernel
theorem d_H_asked_23 : decode b_H_asked 23 = .ok (.ireturn, 1) := by decide +kernel
theorem d_H_asked_24 : decode b_H_asked 24 = .ok (.iload_n 2, 1) := by decide +kernel
theorem d_H_asked_25 : decode b_H_asked 25 = .ok (.ifCond .eq 18, 3) := by decide +kernel
theorem d_H_asked_28 : decode b_H_asked 28 = .ok (.aload_n 0, 1) := by decide +kernel
theorem d_H_asked_29 : decode b_H_asked 29 = .ok (.getfield 11, 3) := by decide +kernel
theorem d_H_asked_32 : decode b_H_asked 32 = .ok (.iload_n 1, 1) := by decide +kernel
theorem d_H_asked_33 : decode b_H_asked 33 = .ok (.aaload, 1) := by decide +kernel
theorem d_H_asked_34 : decode b_H_asked 34 = .ok (.getfield 70, 3) := by decide +kernel
theorem d_H_asked_37 : decode b_H_asked 37 = .ok (.getfield 117, 3) := by decide +kernel
theorem d_H_asked_40 : decode b_H_asked 40 = .ok (.goto 15, 3) := by decide +kernel
theorem d_H_asked_43 : decode b_H_asked 43 = .ok (.aload_n 0, 1) := by decide +kernel
theorem d_H_asked_44 : decode b_H_asked 44 = .ok (.getfield 11, 3) := by decide +kernel
theorem d_H_asked_47 : decode b_H_asked 47 = .ok (.iload_n 1, 1) := by decide +kernel
theorem d_H_asked_48 : decode b_H_asked 48 = .ok (.aaload, 1) := by decide +kernel
theorem d_H_asked_49 : decode b_H_asked 49 = .ok (.getfield 70, 3) := by decide +kernel
theorem d_H_asked_52 : decode b_H_asked 52 = .ok (.getfield 125, 3) := by decide +kernel
theorem d_H_asked_55 : decode b_H_asked 55 = .ok (.ireturn, 1) := by decide +kernel
def F_H_asked (u : XC) (a1 : Int32) (a2 : Int32) : Option (Int32) := (bs_ (F_H_isOffice a1) fun r1 => (if r1 = 0 then some 0 else (if 0 ≤ a1 ∧ (a1).toNatClampNeg < 27 then (if (u.1 11 (a1).toNatClampNeg 0) = 0 then some 0 else (if a2 = 0 then (if 0 ≤ a1 ∧ (a1).toNatClampNeg < 27 then some (u.1 11 (a1).toNatClampNeg 5) else none) else (if 0 ≤ a1 ∧ (a1).toNatClampNeg < 27 then some (u.1 11 (a1).toNatClampNeg 4) else none))) else none)))
set_option maxHeartbeats 4000000 in
set_option maxRecDepth 100000 in
theorem c_H_asked (l : Launch) (D : va_G) (ad : Nat → Nat → Nat) (ca : Nat → ClassId) (hD0 : ∀ z u, va_D (AH ad) (wh ad ca z u)) {z : ZW} {u : XC} {a1 : Int32} {a2 : Int32} {r0 : Int32}  (hF : F_H_asked u a1 a2 = some r0) : Met l y_H_asked ws_H_asked ({ frames := 1, cells := 0, slots := 0, locals := 20 } : Room) (va_Pc [.ref (ad 0 0), .int a1, .int a2] (fun U => va_P D CLS (wh ad ca z u) U.heap ∧ va_K D CLS (TYH ca) U)) (vp_Si (fun r => r = r0)) 0 0 (fun _ => False) := by
  refine Met.ofW (cc := b_H_asked) (maxL := 3) (ret := (some .int)) (by decide +kernel) rfl ?_
  intro p e s m args below meth c s₁ B hml hv
  obtain ⟨rfl, hP, hK⟩ := hv
  have hx := B.exec
  have hb := B.bytes
  have hr := B.returns
  have hts : ∀ w ∈ ALL, w.before _ s = true := fun w h => atoms_spec (ws := ws_H_asked) B.pre w (List.mem_cons_of_mem _ h)
  have hown : s.vm.findClass R_H = some m.cls := findClass_of_methodNamed B.named
  have hlocks := B.notSynchronized
  have hD := hD0
  have hS : va_S (fun _ => True) s.heap s.heap [] := va_S.rf
  have hN : ∀ q ∈ ([] : List Loc), (fun _ => False) q.base := fun _ h => absurd h List.not_mem_nil
  have hP : va_P D CLS (wh ad ca z u) s.heap := hP
  have hl := lv_entry ([.ref (ad 0 0), .int a1, .int a2]) (n := 3) (Nat.le_of_ble_eq_true rfl)
  rw [lg_entry_eq]
  generalize (lg_sl ([.ref (ad 0 0), .int a1, .int a2]) ++ List.replicate (3 - (lg_sl ([.ref (ad 0 0), .int a1, .int a2])).length) Slot.unset).toArray = ls at hl ⊢
  have hl : lv_has ls 3 [(0, .ref (ad 0 0)), (1, .int a1), (2, .int a2)] := hl
  have hH : s.heap = s.heap := rfl
  unfold F_H_asked at hF
  refine lv_iload_n hx hb d_H_asked_0 rfl (lv_at hl 1 rfl) ?_
  obtain ⟨r1, h2, hF⟩ := bs_u hF
  refine k_sp [.int a1] [] ⟨hx, hb, hml, hown, hts⟩ (c_H_isOffice l  h2) (w_H_isOffice hts a_222 ⟨Nat.le_of_ble_eq_true rfl, Nat.le_of_ble_eq_true rfl⟩) rfl rfl hl.1 (Nat.le_of_ble_eq_true rfl) ⟨Nat.zero_le _, Nat.zero_le _⟩ d_H_asked_1 ?_
  refine lv_if_eq (tgt := 22) hx hb d_H_asked_4 (by decide) (fun h3 => ?_) (fun h3 => ?_)
  · have hF := it_t hF h3
    refine lv_iconst (v := 0) hx hb d_H_asked_22 (by decide) ?_
    have hF := rt1 hF
    subst hF
    exact W.iret (v := 0) hx hb hr (fun t ht hW => ⟨_, rfl, rfl, ht.trans hH⟩) hN d_H_asked_23
  · have hF := it_f hF h3
    refine lv_aload_n hx hb d_H_asked_7 rfl (lv_at hl 0 rfl) ?_
    refine gf_H_0 hx hb hts hown hK hP (by decide) a_205 d_H_asked_8 ?_
    refine lv_iload_n hx hb d_H_asked_11 rfl (lv_at hl 1 rfl) ?_
    obtain ⟨h4, hF⟩ := as_u hF
    refine al_1 hx hb hK hP h4 d_H_asked_12 ?_
    refine gf_O_7 hx hb hts hown hK hP h4.2 a_166 d_H_asked_13 ?_
    refine gf_R_0 hx hb hts hown hK hP h4.2 a_111 d_H_asked_16 ?_
    refine lv_if_ne (tgt := 24) hx hb d_H_asked_19 (by decide) (fun h5 => ?_) (fun h5 => ?_)
    · have hF := it_f hF h5
      refine lv_iload_n hx hb d_H_asked_24 rfl (lv_at hl 2 rfl) ?_
      refine lv_if_eq (tgt := 43) hx hb d_H_asked_25 (by decide) (fun h6 => ?_) (fun h6 => ?_)
      · have hF := it_t hF h6
        refine lv_aload_n hx hb d_H_asked_43 rfl (lv_at hl 0 rfl) ?_
        refine gf_H_0 hx hb hts hown hK hP (by decide) a_205 d_H_asked_44 ?_
        refine lv_iload_n hx hb d_H_asked_47 rfl (lv_at hl 1 rfl) ?_
        obtain ⟨h7, hF⟩ := as_u hF
        refine al_1 hx hb hK hP h7 d_H_asked_48 ?_
        refine gf_O_7 hx hb hts hown hK hP h7.2 a_166 d_H_asked_49 ?_
        refine gf_R_5 hx hb hts hown hK hP h7.2 a_121 d_H_asked_52 ?_
        have hF := rt1 hF
        subst hF
        exact W.iret (v := (u.1 11 (a1).toNatClampNeg 5)) hx hb hr (fun t ht hW => ⟨_, rfl, rfl, ht.trans hH⟩) hN d_H_asked_55
      · have hF := it_f hF h6
        refine lv_aload_n hx hb d_H_asked_28 rfl (lv_at hl 0 rfl) ?_
        refine gf_H_0 hx hb hts hown hK hP (by decide) a_205 d_H_asked_29 ?_
        refine lv_iload_n hx hb d_H_asked_32 rfl (lv_at hl 1 rfl) ?_
        obtain ⟨h8, hF⟩ := as_u hF
        refine al_1 hx hb hK hP h8 d_H_asked_33 ?_
        refine gf_O_7 hx hb hts hown hK hP h8.2 a_166 d_H_asked_34 ?_
        refine gf_R_4 hx hb hts hown hK hP h8.2 a_119 d_H_asked_37 ?_
        refine lv_goto (tgt := 55) hx hb d_H_asked_40 (by decide) ?_
        have hF := rt1 hF
        subst hF
        exact W.iret (v := (u.1 11 (a1).toNatClampNeg 4)) hx hb hr (fun t ht hW => ⟨_, rfl, rfl, ht.trans hH⟩) hN d_H_asked_55
    · have hF := it_t hF h5
      refine lv_iconst (v := 0) hx hb d_H_asked_22 (by decide) ?_
      have hF := rt1 hF
      subst hF
      exact W.iret (v := 0) hx hb hr (fun t ht hW => ⟨_, rfl, rfl, ht.trans hH⟩) hN d_H_asked_23
def ws_H_run : List Cond := Cond.code y_H_run b_H_run 4 (some .int) :: ALL
theorem w_H_run {R : Room} {s : State} {args : Array Value} {own : String} {index : Nat} (hts : ∀ w ∈ ALL, w.before args s = true) (hlk : Cond.methodLink own index y_H_run ∈ ALL) (hR : (({ frames := 1, cells := 0, slots := 0, locals := 20 } : Room)).frames + 1 ≤ R.frames ∧ 8 + (4 + 11) + (({ frames := 1, cells := 0, slots := 0, locals := 20 } : Room)).locals ≤ R.locals) : CallW R s args own R_H index y_H_run b_H_run 4 (some .int) ws_H_run ({ frames := 1, cells := 0, slots := 0, locals := 20 } : Room) 0 0 2 := ⟨callB_of 2 hts (good_c a_311) rfl rfl rfl (hts _ a_1) (hts _ hlk) (by decide +kernel) hR, hts _ a_309, hts _ a_310⟩
theorem d_H_run_0 : decode b_H_run 0 = .ok (.iload_n 1, 1) := by decide +kernel
theorem d_H_run_1 : decode b_H_run 1 = .ok (.invokestatic 36, 3) := by decide +kernel
theorem d_H_run_4 : decode b_H_run 4 = .ok (.ifCond .ne 5, 3) := by decide +kernel
theorem d_H_run_7 : decode b_H_run 7 = .ok (.iconst (-1), 1) := by decide +kernel
theorem d_H_run_8 : decode b_H_run 8 = .ok (.ireturn, 1) := by decide +kernel
theorem d_H_run_9 : decode b_H_run 9 = .ok (.aload_n 0, 1) := by decide +kernel
theorem d_H_run_10 : decode b_H_run 10 = .ok (.getfield 11, 3) := by decide +kernel
theorem d_H_run_13 : decode b_H_run 13 = .ok (.iload_n 1, 1) := by decide +kernel
theorem d_H_run_14 : decode b_H_run 14 = .ok (.aaload, 1) := by decide +kernel
theorem d_H_run_15 : decode b_H_run 15 = .ok (.getfield 70, 3) := by decide +kernel
theorem d_H_run_18 : decode b_H_run 18 = .ok (.astore_n 3, 1) := by decide +kernel
theorem d_H_run_19 : decode b_H_run 19 = .ok (.iload_n 2, 1) := by decide +kernel
theorem d_H_run_20 : decode b_H_run 20 = .ok (.ifCond .ne 8, 3) := by decide +kernel
theorem d_H_run_23 : decode b_H_run 23 = .ok (.aload_n 3, 1) := by decide +kernel
theorem d_H_run_24 : decode b_H_run 24 = .ok (.getfield 74, 3) := by decide +kernel
theorem d_H_run_27 : decode b_H_run 27 = .ok (.ireturn, 1) := by decide +kernel
theorem d_H_run_28 : decode b_H_run 28 = .ok (.aload_n 3, 1) := by decide +kernel
theorem d_H_run_29 : decode b_H_run 29 = .ok (.getfield 74, 3) := by decide +kernel
theorem d_H_run_32 : decode b_H_run 32 = .ok (.ifCond .ne 5, 3) := by decide +kernel
theorem d_H_run_35 : decode b_H_run 35 = .ok (.iconst (-1), 1) := by decide +kernel
theorem d_H_run_36 : decode b_H_run 36 = .ok (.ireturn, 1) := by decide +kernel
theorem d_H_run_37 : decode b_H_run 37 = .ok (.iload_n 2, 1) := by decide +kernel
theorem d_H_run_38 : decode b_H_run 38 = .ok (.tableswitch 41 1 3 #[26, 31, 36], 26) := by decide +kernel
theorem d_H_run_64 : decode b_H_run 64 = .ok (.aload_n 3, 1) := by decide +kernel
theorem d_H_run_65 : decode b_H_run 65 = .ok (.getfield 98, 3) := by decide +kernel
theorem d_H_run_68 : decode b_H_run 68 = .ok (.ireturn, 1) := by decide +kernel
theorem d_H_run_69 : decode b_H_run 69 = .ok (.aload_n 3, 1) := by decide +kernel
theorem d_H_run_70 : decode b_H_run 70 = .ok (.getfield 201, 3) := by decide +kernel
theorem d_H_run_73 : decode b_H_run 73 = .ok (.ireturn, 1) := by decide +kernel
theorem d_H_run_74 : decode b_H_run 74 = .ok (.aload_n 3, 1) := by decide +kernel
theorem d_H_run_75 : decode b_H_run 75 = .ok (.getfield 88, 3) := by decide +kernel
theorem d_H_run_78 : decode b_H_run 78 = .ok (.ireturn, 1) := by decide +kernel
theorem d_H_run_79 : decode b_H_run 79 = .ok (.iconst (-1), 1) := by decide +kernel
theorem d_H_run_80 : decode b_H_run 80 = .ok (.ireturn, 1) := by decide +kernel
def F_H_run (u : XC) (a1 : Int32) (a2 : Int32) : Option (Int32) := (bs_ (F_H_isOffice a1) fun r1 => (if r1 = 0 then some (-1) else (if 0 ≤ a1 ∧ (a1).toNatClampNeg < 27 then (if a2 = 0 then some (u.1 11 (a1).toNatClampNeg 0) else (if (u.1 11 (a1).toNatClampNeg 0) = 0 then some (-1) else (if a2 = 1 then some (u.1 11 (a1).toNatClampNeg 1) else (if a2 = 2 then some (u.1 11 (a1).toNatClampNeg 2) else (if a2 = 3 then some (u.1 11 (a1).toNatClampNeg 3) else some (-1)))))) else none)))
set_option maxHeartbeats 4000000 in
set_option maxRecDepth 100000 in
theorem c_H_run (l : Launch) (D : va_G) (ad : Nat → Nat → Nat) (ca : Nat → ClassId) (hD0 : ∀ z u, va_D (AH ad) (wh ad ca z u)) {z : ZW} {u : XC} {a1 : Int32} {a2 : Int32} {r0 : Int32}  (hF : F_H_run u a1 a2 = some r0) : Met l y_H_run ws_H_run ({ frames := 1, cells := 0, slots := 0, locals := 20 } : Room) (va_Pc [.ref (ad 0 0), .int a1, .int a2] (fun U => va_P D CLS (wh ad ca z u) U.heap ∧ va_K D CLS (TYH ca) U)) (vp_Si (fun r => r = r0)) 0 0 (fun _ => False) := by
  refine Met.ofW (cc := b_H_run) (maxL := 4) (ret := (some .int)) (by decide +kernel) rfl ?_
  intro p e s m args below meth c s₁ B hml hv
  obtain ⟨rfl, hP, hK⟩ := hv
  have hx := B.exec
  have hb := B.bytes
  have hr := B.returns
  have hts : ∀ w ∈ ALL, w.before _ s = true := fun w h => atoms_spec (ws := ws_H_run) B.pre w (List.mem_cons_of_mem _ h)
  have hown : s.vm.findClass R_H = some m.cls := findClass_of_methodNamed B.named
  have hlocks := B.notSynchronized
  have hD := hD0
  have hS : va_S (fun _ => True) s.heap s.heap [] := va_S.rf
  have hN : ∀ q ∈ ([] : List Loc), (fun _ => False) q.base := fun _ h => absurd h List.not_mem_nil
  have hP : va_P D CLS (wh ad ca z u) s.heap := hP
  have hl := lv_entry ([.ref (ad 0 0), .int a1, .int a2]) (n := 4) (Nat.le_of_ble_eq_true rfl)
  rw [lg_entry_eq]
  generalize (lg_sl ([.ref (ad 0 0), .int a1, .int a2]) ++ List.replicate (4 - (lg_sl ([.ref (ad 0 0), .int a1, .int a2])).length) Slot.unset).toArray = ls at hl ⊢
  have hl : lv_has ls 4 [(0, .ref (ad 0 0)), (1, .int a1), (2, .int a2)] := hl
  have hH : s.heap = s.heap := rfl
  unfold F_H_run at hF
  refine lv_iload_n hx hb d_H_run_0 rfl (lv_at hl 1 rfl) ?_
  obtain ⟨r1, h2, hF⟩ := bs_u hF
  refine k_sp [.int a1] [] ⟨hx, hb, hml, hown, hts⟩ (c_H_isOffice l  h2) (w_H_isOffice hts a_222 ⟨Nat.le_of_ble_eq_true rfl, Nat.le_of_ble_eq_true rfl⟩) rfl rfl hl.1 (Nat.le_of_ble_eq_true rfl) ⟨Nat.zero_le _, Nat.zero_le _⟩ d_H_run_1 ?_
  refine lv_if_ne (tgt := 9) hx hb d_H_run_4 (by decide) (fun h3 => ?_) (fun h3 => ?_)
  · have hF := it_f hF h3
    refine lv_aload_n hx hb d_H_run_9 rfl (lv_at hl 0 rfl) ?_
    refine gf_H_0 hx hb hts hown hK hP (by decide) a_205 d_H_run_10 ?_
    refine lv_iload_n hx hb d_H_run_13 rfl (lv_at hl 1 rfl) ?_
    obtain ⟨h4, hF⟩ := as_u hF
    refine al_1 hx hb hK hP h4 d_H_run_14 ?_
    refine gf_O_7 hx hb hts hown hK hP h4.2 a_166 d_H_run_15 ?_
    refine lv_astore_n (lv' := [(3, .ref (ad 11 (a1).toNatClampNeg)), (0, .ref (ad 0 0)), (1, .int a1), (2, .int a2)]) hx hb d_H_run_18 rfl hl (by decide) rfl (fun ls hl => ?_)
    refine lv_iload_n hx hb d_H_run_19 rfl (lv_at hl 3 rfl) ?_
    refine lv_if_ne (tgt := 28) hx hb d_H_run_20 (by decide) (fun h5 => ?_) (fun h5 => ?_)
    · have hF := it_f hF h5
      refine lv_aload_n hx hb d_H_run_28 rfl (lv_at hl 0 rfl) ?_
      refine gf_R_0 hx hb hts hown hK hP h4.2 a_111 d_H_run_29 ?_
      refine lv_if_ne (tgt := 37) hx hb d_H_run_32 (by decide) (fun h6 => ?_) (fun h6 => ?_)
      · have hF := it_f hF h6
        refine lv_iload_n hx hb d_H_run_37 rfl (lv_at hl 3 rfl) ?_
        by_cases h7 : a2 = 1
        · have hF := it_t hF h7
          refine lv_tableIn (tgt := 64) hx hb d_H_run_38 (by rw [h7]; decide) (by rw [h7]; decide) (by rw [h7]; rfl) (by decide) ?_
          refine lv_aload_n hx hb d_H_run_64 rfl (lv_at hl 0 rfl) ?_
          refine gf_R_1 hx hb hts hown hK hP h4.2 a_113 d_H_run_65 ?_
          have hF := rt1 hF
          subst hF
          exact W.iret (v := (u.1 11 (a1).toNatClampNeg 1)) hx hb hr (fun t ht hW => ⟨_, rfl, rfl, ht.trans hH⟩) hN d_H_run_68
        have hF := it_f hF h7
        by_cases h8 : a2 = 2
        · have hF := it_t hF h8
          refine lv_tableIn (tgt := 69) hx hb d_H_run_38 (by rw [h8]; decide) (by rw [h8]; decide) (by rw [h8]; rfl) (by decide) ?_
          refine lv_aload_n hx hb d_H_run_69 rfl (lv_at hl 0 rfl) ?_
          refine gf_R_2 hx hb hts hown hK hP h4.2 a_115 d_H_run_70 ?_
          have hF := rt1 hF
          subst hF
          exact W.iret (v := (u.1 11 (a1).toNatClampNeg 2)) hx hb hr (fun t ht hW => ⟨_, rfl, rfl, ht.trans hH⟩) hN d_H_run_73
        have hF := it_f hF h8
        by_cases h9 : a2 = 3
        · have hF := it_t hF h9
          refine lv_tableIn (tgt := 74) hx hb d_H_run_38 (by rw [h9]; decide) (by rw [h9]; decide) (by rw [h9]; rfl) (by decide) ?_
          refine lv_aload_n hx hb d_H_run_74 rfl (lv_at hl 0 rfl) ?_
          refine gf_R_3 hx hb hts hown hK hP h4.2 a_117 d_H_run_75 ?_
          have hF := rt1 hF
          subst hF
          exact W.iret (v := (u.1 11 (a1).toNatClampNeg 3)) hx hb hr (fun t ht hW => ⟨_, rfl, rfl, ht.trans hH⟩) hN d_H_run_78
        have hF := it_f hF h9
        refine lv_tableOut (tgt := 79) hx hb d_H_run_38 (sw_1_3 h7 h8 h9) (by decide) ?_
        refine lv_iconst (v := (-1)) hx hb d_H_run_79 (by decide) ?_
        have hF := rt1 hF
        subst hF
        exact W.iret (v := (-1)) hx hb hr (fun t ht hW => ⟨_, rfl, rfl, ht.trans hH⟩) hN d_H_run_80
      · have hF := it_t hF h6
        refine lv_iconst (v := (-1)) hx hb d_H_run_35 (by decide) ?_
        have hF := rt1 hF
        subst hF
        exact W.iret (v := (-1)) hx hb hr (fun t ht hW => ⟨_, rfl, rfl, ht.trans hH⟩) hN d_H_run_36
    · have hF := it_t hF h5
      refine lv_aload_n hx hb d_H_run_23 rfl (lv_at hl 0 rfl) ?_
      refine gf_R_0 hx hb hts hown hK hP h4.2 a_111 d_H_run_24 ?_
      have hF := rt1 hF
      subst hF
      exact W.iret (v := (u.1 11 (a1).toNatClampNeg 0)) hx hb hr (fun t ht hW => ⟨_, rfl, rfl, ht.trans hH⟩) hN d_H_run_27
  · have hF := it_t hF h3
    refine lv_iconst (v := (-1)) hx hb d_H_run_7 (by decide) ?_
    have hF := rt1 hF
    subst hF
    exact W.iret (v := (-1)) hx hb hr (fun t ht hW => ⟨_, rfl, rfl, ht.trans hH⟩) hN d_H_run_8
def ws_H_promised : List Cond := Cond.code y_H_promised b_H_promised 2 (some .int) :: ALL
theorem w_H_promised {R : Room} {s : State} {args : Array Value} {own : String} {index : Nat} (hts : ∀ w ∈ ALL, w.before args s = true) (hlk : Cond.methodLink own index y_H_promised ∈ ALL) (hR : (({ frames := 1, cells := 0, slots := 0, locals := 20 } : Room)).frames + 1 ≤ R.frames ∧ 8 + (2 + 11) + (({ frames := 1, cells := 0, slots := 0, locals := 20 } : Room)).locals ≤ R.locals) : CallW R s args own R_H index y_H_promised b_H_promised 2 (some .int) ws_H_promised ({ frames := 1, cells := 0, slots := 0, locals := 20 } : Room) 0 0 1 := ⟨callB_of 1 hts (good_c a_315) rfl rfl rfl (hts _ a_1) (hts _ hlk) (by decide +kernel) hR, hts _ a_313, hts _ a_314⟩
theorem d_H_promised_0 : decode b_H_promised 0 = .ok (.iload_n 1, 1) := by decide +kernel
theorem d_H_promised_1 : decode b_H_promised 1 = .ok (.invokestatic 36, 3) := by decide +kernel
theorem d_H_promised_4 : decode b_H_promised 4 = .ok (.ifCond .eq 15, 3) := by decide +kernel
theorem d_H_promised_7 : decode b_H_promised 7 = .ok (.aload_n 0, 1) := by decide +kernel
theorem d_H_promised_8 : decode b_H_promised 8 = .ok (.getfield 11, 3) := by decide +kernel
theorem d_H_promised_11 : decode b_H_promised 11 = .ok (.iload_n 1, 1) := by decide +kernel
theorem d_H_promised_12 : decode b_H_promised 12 = .ok (.aaload, 1) := by decide +kernel
theorem d_H_promised_13 : decode b_H_promised 13 = .ok (.getfield 202, 3) := by decide +kernel
theorem d_H_promised_16 : decode b_H_promised 16 = .ok (.goto 4, 3) := by decide +kernel
theorem d_H_promised_19 : decode b_H_promised 19 = .ok (.iconst (-1), 1) := by decide +kernel
theorem d_H_promised_20 : decode b_H_promised 20 = .ok (.ireturn, 1) := by decide +kernel
def F_H_promised (u : XC) (a1 : Int32) : Option (Int32) := (bs_ (F_H_isOffice a1) fun r1 => (if r1 = 0 then some (-1) else (if 0 ≤ a1 ∧ (a1).toNatClampNeg < 27 then some (u.1 4 (a1).toNatClampNeg 1) else none)))
set_option maxHeartbeats 4000000 in
set_option maxRecDepth 100000 in
theorem c_H_promised (l : Launch) (D : va_G) (ad : Nat → Nat → Nat) (ca : Nat → ClassId) (hD0 : ∀ z u, va_D (AH ad) (wh ad ca z u)) {z : ZW} {u : XC} {a1 : Int32} {r0 : Int32}  (hF : F_H_promised u a1 = some r0) : Met l y_H_promised ws_H_promised ({ frames := 1, cells := 0, slots := 0, locals := 20 } : Room) (va_Pc [.ref (ad 0 0), .int a1] (fun U => va_P D CLS (wh ad ca z u) U.heap ∧ va_K D CLS (TYH ca) U)) (vp_Si (fun r => r = r0)) 0 0 (fun _ => False) := by
  refine Met.ofW (cc := b_H_promised) (maxL := 2) (ret := (some .int)) (by decide +kernel) rfl ?_
  intro p e s m args below meth c s₁ B hml hv
  obtain ⟨rfl, hP, hK⟩ := hv
  have hx := B.exec
  have hb := B.bytes
  have hr := B.returns
  have hts : ∀ w ∈ ALL, w.before _ s = true := fun w h => atoms_spec (ws := ws_H_promised) B.pre w (List.mem_cons_of_mem _ h)
  have hown : s.vm.findClass R_H = some m.cls := findClass_of_methodNamed B.named
  have hlocks := B.notSynchronized
  have hD := hD0
  have hS : va_S (fun _ => True) s.heap s.heap [] := va_S.rf
  have hN : ∀ q ∈ ([] : List Loc), (fun _ => False) q.base := fun _ h => absurd h List.not_mem_nil
  have hP : va_P D CLS (wh ad ca z u) s.heap := hP
  have hl := lv_entry ([.ref (ad 0 0), .int a1]) (n := 2) (Nat.le_of_ble_eq_true rfl)
  rw [lg_entry_eq]
  generalize (lg_sl ([.ref (ad 0 0), .int a1]) ++ List.replicate (2 - (lg_sl ([.ref (ad 0 0), .int a1])).length) Slot.unset).toArray = ls at hl ⊢
  have hl : lv_has ls 2 [(0, .ref (ad 0 0)), (1, .int a1)] := hl
  have hH : s.heap = s.heap := rfl
  unfold F_H_promised at hF
  refine lv_iload_n hx hb d_H_promised_0 rfl (lv_at hl 1 rfl) ?_
  obtain ⟨r1, h2, hF⟩ := bs_u hF
  refine k_sp [.int a1] [] ⟨hx, hb, hml, hown, hts⟩ (c_H_isOffice l  h2) (w_H_isOffice hts a_222 ⟨Nat.le_of_ble_eq_true rfl, Nat.le_of_ble_eq_true rfl⟩) rfl rfl hl.1 (Nat.le_of_ble_eq_true rfl) ⟨Nat.zero_le _, Nat.zero_le _⟩ d_H_promised_1 ?_
  refine lv_if_eq (tgt := 19) hx hb d_H_promised_4 (by decide) (fun h3 => ?_) (fun h3 => ?_)
  · have hF := it_t hF h3
    refine lv_iconst (v := (-1)) hx hb d_H_promised_19 (by decide) ?_
    have hF := rt1 hF
    subst hF
    exact W.iret (v := (-1)) hx hb hr (fun t ht hW => ⟨_, rfl, rfl, ht.trans hH⟩) hN d_H_promised_20
  · have hF := it_f hF h3
    refine lv_aload_n hx hb d_H_promised_7 rfl (lv_at hl 0 rfl) ?_
    refine gf_H_0 hx hb hts hown hK hP (by decide) a_205 d_H_promised_8 ?_
    refine lv_iload_n hx hb d_H_promised_11 rfl (lv_at hl 1 rfl) ?_
    obtain ⟨h4, hF⟩ := as_u hF
    refine al_1 hx hb hK hP h4 d_H_promised_12 ?_
    refine gf_O_1 hx hb hts hown hK hP h4.2 a_154 d_H_promised_13 ?_
    refine lv_goto (tgt := 20) hx hb d_H_promised_16 (by decide) ?_
    have hF := rt1 hF
    subst hF
    exact W.iret (v := (u.1 4 (a1).toNatClampNeg 1)) hx hb hr (fun t ht hW => ⟨_, rfl, rfl, ht.trans hH⟩) hN d_H_promised_20
def ws_H_accepted : List Cond := Cond.code y_H_accepted b_H_accepted 3 (some .int) :: ALL
theorem w_H_accepted {R : Room} {s : State} {args : Array Value} {own : String} {index : Nat} (hts : ∀ w ∈ ALL, w.before args s = true) (hlk : Cond.methodLink own index y_H_accepted ∈ ALL) (hR : (({ frames := 1, cells := 0, slots := 0, locals := 20 } : Room)).frames + 1 ≤ R.frames ∧ 8 + (3 + 11) + (({ frames := 1, cells := 0, slots := 0, locals := 20 } : Room)).locals ≤ R.locals) : CallW R s args own R_H index y_H_accepted b_H_accepted 3 (some .int) ws_H_accepted ({ frames := 1, cells := 0, slots := 0, locals := 20 } : Room) 0 0 2 := ⟨callB_of 2 hts (good_c a_319) rfl rfl rfl (hts _ a_1) (hts _ hlk) (by decide +kernel) hR, hts _ a_317, hts _ a_318⟩
theorem d_H_accepted_0 : decode b_H_accepted 0 = .ok (.iload_n 1, 1) := by decide +kernel
theorem d_H_accepted_1 : decode b_H_accepted 1 = .ok (.invokestatic 36, 3) := by decide +kernel
theorem d_H_accepted_4 : decode b_H_accepted 4 = .ok (.ifCond .eq 24, 3) := by decide +kernel
theorem d_H_accepted_7 : decode b_H_accepted 7 = .ok (.iload_n 2, 1) := by decide +kernel
theorem d_H_accepted_8 : decode b_H_accepted 8 = .ok (.invokestatic 205, 3) := by decide +kernel
theorem d_H_accepted_11 : decode b_H_accepted 11 = .ok (.ifCond .eq 17, 3) := by decide +kernel
theorem d_H_accepted_14 : decode b_H_accepted 14 = .ok (.aload_n 0, 1) := by decide +kernel
theorem d_H_accepted_15 : decode b_H_accepted 15 = .ok (.getfield 11, 3) := by decide +kernel
theorem d_H_accepted_18 : decode b_H_accepted 18 = .ok (.iload_n 1, 1) := by decide +kernel
theorem d_H_accepted_19 : decode b_H_accepted 19 = .ok (.aaload, 1) := by decide +kernel
theorem d_H_accepted_20 : decode b_H_accepted 20 = .ok (.getfield 208, 3) := by decide +kernel
theorem d_H_accepted_23 : decode b_H_accepted 23 = .ok (.iload_n 2, 1) := by decide +kernel
theorem d_H_accepted_24 : decode b_H_accepted 24 = .ok (.iaload, 1) := by decide +kernel
theorem d_H_accepted_25 : decode b_H_accepted 25 = .ok (.goto 4, 3) := by decide +kernel
theorem d_H_accepted_28 : decode b_H_accepted 28 = .ok (.iconst (-1), 1) := by decide +kernel
theorem d_H_accepted_29 : decode b_H_accepted 29 = .ok (.ireturn, 1) := by decide +kernel
def F_H_accepted (u : XC) (a1 : Int32) (a2 : Int32) : Option (Int32) := (bs_ (F_H_isOffice a1) fun r1 => (if r1 = 0 then some (-1) else (bs_ (F_H_isNumber a2) fun r4 => (if r4 = 0 then some (-1) else (if 0 ≤ a1 ∧ (a1).toNatClampNeg < 27 then (if 0 ≤ a2 ∧ (a2).toNatClampNeg < 6 then some (u.1 8 (a1).toNatClampNeg (a2).toNatClampNeg) else none) else none)))))
set_option maxHeartbeats 4000000 in
set_option maxRecDepth 100000 in
theorem c_H_accepted (l : Launch) (D : va_G) (ad : Nat → Nat → Nat) (ca : Nat → ClassId) (hD0 : ∀ z u, va_D (AH ad) (wh ad ca z u)) {z : ZW} {u : XC} {a1 : Int32} {a2 : Int32} {r0 : Int32}  (hF : F_H_accepted u a1 a2 = some r0) : Met l y_H_accepted ws_H_accepted ({ frames := 1, cells := 0, slots := 0, locals := 20 } : Room) (va_Pc [.ref (ad 0 0), .int a1, .int a2] (fun U => va_P D CLS (wh ad ca z u) U.heap ∧ va_K D CLS (TYH ca) U)) (vp_Si (fun r => r = r0)) 0 0 (fun _ => False) := by
  refine Met.ofW (cc := b_H_accepted) (maxL := 3) (ret := (some .int)) (by decide +kernel) rfl ?_
  intro p e s m args below meth c s₁ B hml hv
  obtain ⟨rfl, hP, hK⟩ := hv
  have hx := B.exec
  have hb := B.bytes
  have hr := B.returns
  have hts : ∀ w ∈ ALL, w.before _ s = true := fun w h => atoms_spec (ws := ws_H_accepted) B.pre w (List.mem_cons_of_mem _ h)
  have hown : s.vm.findClass R_H = some m.cls := findClass_of_methodNamed B.named
  have hlocks := B.notSynchronized
  have hD := hD0
  have hS : va_S (fun _ => True) s.heap s.heap [] := va_S.rf
  have hN : ∀ q ∈ ([] : List Loc), (fun _ => False) q.base := fun _ h => absurd h List.not_mem_nil
  have hP : va_P D CLS (wh ad ca z u) s.heap := hP
  have hl := lv_entry ([.ref (ad 0 0), .int a1, .int a2]) (n := 3) (Nat.le_of_ble_eq_true rfl)
  rw [lg_entry_eq]
  generalize (lg_sl ([.ref (ad 0 0), .int a1, .int a2]) ++ List.replicate (3 - (lg_sl ([.ref (ad 0 0), .int a1, .int a2])).length) Slot.unset).toArray = ls at hl ⊢
  have hl : lv_has ls 3 [(0, .ref (ad 0 0)), (1, .int a1), (2, .int a2)] := hl
  have hH : s.heap = s.heap := rfl
  unfold F_H_accepted at hF
  refine lv_iload_n hx hb d_H_accepted_0 rfl (lv_at hl 1 rfl) ?_
  obtain ⟨r1, h2, hF⟩ := bs_u hF
  refine k_sp [.int a1] [] ⟨hx, hb, hml, hown, hts⟩ (c_H_isOffice l  h2) (w_H_isOffice hts a_222 ⟨Nat.le_of_ble_eq_true rfl, Nat.le_of_ble_eq_true rfl⟩) rfl rfl hl.1 (Nat.le_of_ble_eq_true rfl) ⟨Nat.zero_le _, Nat.zero_le _⟩ d_H_accepted_1 ?_
  refine lv_if_eq (tgt := 28) hx hb d_H_accepted_4 (by decide) (fun h3 => ?_) (fun h3 => ?_)
  · have hF := it_t hF h3
    refine lv_iconst (v := (-1)) hx hb d_H_accepted_28 (by decide) ?_
    have hF := rt1 hF
    subst hF
    exact W.iret (v := (-1)) hx hb hr (fun t ht hW => ⟨_, rfl, rfl, ht.trans hH⟩) hN d_H_accepted_29
  · have hF := it_f hF h3
    refine lv_iload_n hx hb d_H_accepted_7 rfl (lv_at hl 2 rfl) ?_
    obtain ⟨r4, h5, hF⟩ := bs_u hF
    refine k_sp [.int a2] [] ⟨hx, hb, hml, hown, hts⟩ (c_H_isNumber l  h5) (w_H_isNumber hts a_320 ⟨Nat.le_of_ble_eq_true rfl, Nat.le_of_ble_eq_true rfl⟩) rfl rfl hl.1 (Nat.le_of_ble_eq_true rfl) ⟨Nat.zero_le _, Nat.zero_le _⟩ d_H_accepted_8 ?_
    refine lv_if_eq (tgt := 28) hx hb d_H_accepted_11 (by decide) (fun h6 => ?_) (fun h6 => ?_)
    · have hF := it_t hF h6
      refine lv_iconst (v := (-1)) hx hb d_H_accepted_28 (by decide) ?_
      have hF := rt1 hF
      subst hF
      exact W.iret (v := (-1)) hx hb hr (fun t ht hW => ⟨_, rfl, rfl, ht.trans hH⟩) hN d_H_accepted_29
    · have hF := it_f hF h6
      refine lv_aload_n hx hb d_H_accepted_14 rfl (lv_at hl 0 rfl) ?_
      refine gf_H_0 hx hb hts hown hK hP (by decide) a_205 d_H_accepted_15 ?_
      refine lv_iload_n hx hb d_H_accepted_18 rfl (lv_at hl 1 rfl) ?_
      obtain ⟨h7, hF⟩ := as_u hF
      refine al_1 hx hb hK hP h7 d_H_accepted_19 ?_
      refine gf_O_2 hx hb hts hown hK hP h7.2 a_156 d_H_accepted_20 ?_
      refine lv_iload_n hx hb d_H_accepted_23 rfl (lv_at hl 2 rfl) ?_
      obtain ⟨h8, hF⟩ := as_u hF
      refine il_8 hx hb hK hP h7.2 h8 d_H_accepted_24 ?_
      refine lv_goto (tgt := 29) hx hb d_H_accepted_25 (by decide) ?_
      have hF := rt1 hF
      subst hF
      exact W.iret (v := (u.1 8 (a1).toNatClampNeg (a2).toNatClampNeg)) hx hb hr (fun t ht hW => ⟨_, rfl, rfl, ht.trans hH⟩) hN d_H_accepted_29
def ws_H_decided : List Cond := Cond.code y_H_decided b_H_decided 3 (some .int) :: ALL
theorem w_H_decided {R : Room} {s : State} {args : Array Value} {own : String} {index : Nat} (hts : ∀ w ∈ ALL, w.before args s = true) (hlk : Cond.methodLink own index y_H_decided ∈ ALL) (hR : (({ frames := 1, cells := 0, slots := 0, locals := 20 } : Room)).frames + 1 ≤ R.frames ∧ 8 + (3 + 11) + (({ frames := 1, cells := 0, slots := 0, locals := 20 } : Room)).locals ≤ R.locals) : CallW R s args own R_H index y_H_decided b_H_decided 3 (some .int) ws_H_decided ({ frames := 1, cells := 0, slots := 0, locals := 20 } : Room) 0 0 2 := ⟨callB_of 2 hts (good_c a_326) rfl rfl rfl (hts _ a_1) (hts _ hlk) (by decide +kernel) hR, hts _ a_324, hts _ a_325⟩
theorem d_H_decided_0 : decode b_H_decided 0 = .ok (.iload_n 1, 1) := by decide +kernel
theorem d_H_decided_1 : decode b_H_decided 1 = .ok (.invokestatic 36, 3) := by decide +kernel
theorem d_H_decided_4 : decode b_H_decided 4 = .ok (.ifCond .eq 24, 3) := by decide +kernel
theorem d_H_decided_7 : decode b_H_decided 7 = .ok (.iload_n 2, 1) := by decide +kernel
theorem d_H_decided_8 : decode b_H_decided 8 = .ok (.invokestatic 205, 3) := by decide +kernel
theorem d_H_decided_11 : decode b_H_decided 11 = .ok (.ifCond .eq 17, 3) := by decide +kernel
theorem d_H_decided_14 : decode b_H_decided 14 = .ok (.aload_n 0, 1) := by decide +kernel
theorem d_H_decided_15 : decode b_H_decided 15 = .ok (.getfield 11, 3) := by decide +kernel
theorem d_H_decided_18 : decode b_H_decided 18 = .ok (.iload_n 1, 1) := by decide +kernel
theorem d_H_decided_19 : decode b_H_decided 19 = .ok (.aaload, 1) := by decide +kernel
theorem d_H_decided_20 : decode b_H_decided 20 = .ok (.getfield 129, 3) := by decide +kernel
theorem d_H_decided_23 : decode b_H_decided 23 = .ok (.iload_n 2, 1) := by decide +kernel
theorem d_H_decided_24 : decode b_H_decided 24 = .ok (.iaload, 1) := by decide +kernel
theorem d_H_decided_25 : decode b_H_decided 25 = .ok (.goto 4, 3) := by decide +kernel
theorem d_H_decided_28 : decode b_H_decided 28 = .ok (.iconst (-1), 1) := by decide +kernel
theorem d_H_decided_29 : decode b_H_decided 29 = .ok (.ireturn, 1) := by decide +kernel
def F_H_decided (u : XC) (a1 : Int32) (a2 : Int32) : Option (Int32) := (bs_ (F_H_isOffice a1) fun r1 => (if r1 = 0 then some (-1) else (bs_ (F_H_isNumber a2) fun r4 => (if r4 = 0 then some (-1) else (if 0 ≤ a1 ∧ (a1).toNatClampNeg < 27 then (if 0 ≤ a2 ∧ (a2).toNatClampNeg < 6 then some (u.1 10 (a1).toNatClampNeg (a2).toNatClampNeg) else none) else none)))))
set_option maxHeartbeats 4000000 in
set_option maxRecDepth 100000 in
theorem c_H_decided (l : Launch) (D : va_G) (ad : Nat → Nat → Nat) (ca : Nat → ClassId) (hD0 : ∀ z u, va_D (AH ad) (wh ad ca z u)) {z : ZW} {u : XC} {a1 : Int32} {a2 : Int32} {r0 : Int32}  (hF : F_H_decided u a1 a2 = some r0) : Met l y_H_decided ws_H_decided ({ frames := 1, cells := 0, slots := 0, locals := 20 } : Room) (va_Pc [.ref (ad 0 0), .int a1, .int a2] (fun U => va_P D CLS (wh ad ca z u) U.heap ∧ va_K D CLS (TYH ca) U)) (vp_Si (fun r => r = r0)) 0 0 (fun _ => False) := by
  refine Met.ofW (cc := b_H_decided) (maxL := 3) (ret := (some .int)) (by decide +kernel) rfl ?_
  intro p e s m args below meth c s₁ B hml hv
  obtain ⟨rfl, hP, hK⟩ := hv
  have hx := B.exec
  have hb := B.bytes
  have hr := B.returns
  have hts : ∀ w ∈ ALL, w.before _ s = true := fun w h => atoms_spec (ws := ws_H_decided) B.pre w (List.mem_cons_of_mem _ h)
  have hown : s.vm.findClass R_H = some m.cls := findClass_of_methodNamed B.named
  have hlocks := B.notSynchronized
  have hD := hD0
  have hS : va_S (fun _ => True) s.heap s.heap [] := va_S.rf
  have hN : ∀ q ∈ ([] : List Loc), (fun _ => False) q.base := fun _ h => absurd h List.not_mem_nil
  have hP : va_P D CLS (wh ad ca z u) s.heap := hP
  have hl := lv_entry ([.ref (ad 0 0), .int a1, .int a2]) (n := 3) (Nat.le_of_ble_eq_true rfl)
  rw [lg_entry_eq]
  generalize (lg_sl ([.ref (ad 0 0), .int a1, .int a2]) ++ List.replicate (3 - (lg_sl ([.ref (ad 0 0), .int a1, .int a2])).length) Slot.unset).toArray = ls at hl ⊢
  have hl : lv_has ls 3 [(0, .ref (ad 0 0)), (1, .int a1), (2, .int a2)] := hl
  have hH : s.heap = s.heap := rfl
  unfold F_H_decided at hF
  refine lv_iload_n hx hb d_H_decided_0 rfl (lv_at hl 1 rfl) ?_
  obtain ⟨r1, h2, hF⟩ := bs_u hF
  refine k_sp [.int a1] [] ⟨hx, hb, hml, hown, hts⟩ (c_H_isOffice l  h2) (w_H_isOffice hts a_222 ⟨Nat.le_of_ble_eq_true rfl, Nat.le_of_ble_eq_true rfl⟩) rfl rfl hl.1 (Nat.le_of_ble_eq_true rfl) ⟨Nat.zero_le _, Nat.zero_le _⟩ d_H_decided_1 ?_
  refine lv_if_eq (tgt := 28) hx hb d_H_decided_4 (by decide) (fun h3 => ?_) (fun h3 => ?_)
  · have hF := it_t hF h3
    refine lv_iconst (v := (-1)) hx hb d_H_decided_28 (by decide) ?_
    have hF := rt1 hF
    subst hF
    exact W.iret (v := (-1)) hx hb hr (fun t ht hW => ⟨_, rfl, rfl, ht.trans hH⟩) hN d_H_decided_29
  · have hF := it_f hF h3
    refine lv_iload_n hx hb d_H_decided_7 rfl (lv_at hl 2 rfl) ?_
    obtain ⟨r4, h5, hF⟩ := bs_u hF
    refine k_sp [.int a2] [] ⟨hx, hb, hml, hown, hts⟩ (c_H_isNumber l  h5) (w_H_isNumber hts a_320 ⟨Nat.le_of_ble_eq_true rfl, Nat.le_of_ble_eq_true rfl⟩) rfl rfl hl.1 (Nat.le_of_ble_eq_true rfl) ⟨Nat.zero_le _, Nat.zero_le _⟩ d_H_decided_8 ?_
    refine lv_if_eq (tgt := 28) hx hb d_H_decided_11 (by decide) (fun h6 => ?_) (fun h6 => ?_)
    · have hF := it_t hF h6
      refine lv_iconst (v := (-1)) hx hb d_H_decided_28 (by decide) ?_
      have hF := rt1 hF
      subst hF
      exact W.iret (v := (-1)) hx hb hr (fun t ht hW => ⟨_, rfl, rfl, ht.trans hH⟩) hN d_H_decided_29
    · have hF := it_f hF h6
      refine lv_aload_n hx hb d_H_decided_14 rfl (lv_at hl 0 rfl) ?_
      refine gf_H_0 hx hb hts hown hK hP (by decide) a_205 d_H_decided_15 ?_
      refine lv_iload_n hx hb d_H_decided_18 rfl (lv_at hl 1 rfl) ?_
      obtain ⟨h7, hF⟩ := as_u hF
      refine al_1 hx hb hK hP h7 d_H_decided_19 ?_
      refine gf_O_4 hx hb hts hown hK hP h7.2 a_160 d_H_decided_20 ?_
      refine lv_iload_n hx hb d_H_decided_23 rfl (lv_at hl 2 rfl) ?_
      obtain ⟨h8, hF⟩ := as_u hF
      refine il_10 hx hb hK hP h7.2 h8 d_H_decided_24 ?_
      refine lv_goto (tgt := 29) hx hb d_H_decided_25 (by decide) ?_
      have hF := rt1 hF
      subst hF
      exact W.iret (v := (u.1 10 (a1).toNatClampNeg (a2).toNatClampNeg)) hx hb hr (fun t ht hW => ⟨_, rfl, rfl, ht.trans hH⟩) hN d_H_decided_29
def ws_H_complete : List Cond := Cond.code y_H_complete b_H_complete 2 (some .int) :: ALL
theorem w_H_complete {R : Room} {s : State} {args : Array Value} {own : String} {index : Nat} (hts : ∀ w ∈ ALL, w.before args s = true) (hlk : Cond.methodLink own index y_H_complete ∈ ALL) (hR : (({ frames := 1, cells := 0, slots := 0, locals := 21 } : Room)).frames + 1 ≤ R.frames ∧ 8 + (2 + 11) + (({ frames := 1, cells := 0, slots := 0, locals := 21 } : Room)).locals ≤ R.locals) : CallW R s args own R_H index y_H_complete b_H_complete 2 (some .int) ws_H_complete ({ frames := 1, cells := 0, slots := 0, locals := 21 } : Room) 0 0 1 := ⟨callB_of 1 hts (good_c a_330) rfl rfl rfl (hts _ a_1) (hts _ hlk) (by decide +kernel) hR, hts _ a_328, hts _ a_329⟩
theorem d_H_complete_0 : decode b_H_complete 0 = .ok (.iload_n 1, 1) := by decide +kernel
theorem d_H_complete_1 : decode b_H_complete 1 = .ok (.invokestatic 36, 3) := by decide +kernel
theorem d_H_complete_4 : decode b_H_complete 4 = .ok (.ifCond .eq 15, 3) := by decide +kernel
theorem d_H_complete_7 : decode b_H_complete 7 = .ok (.aload_n 0, 1) := by decide +kernel
theorem d_H_complete_8 : decode b_H_complete 8 = .ok (.getfield 11, 3) := by decide +kernel
theorem d_H_complete_11 : decode b_H_complete 11 = .ok (.iload_n 1, 1) := by decide +kernel
theorem d_H_complete_12 : decode b_H_complete 12 = .ok (.aaload, 1) := by decide +kernel
theorem d_H_complete_13 : decode b_H_complete 13 = .ok (.invokevirtual 79, 3) := by decide +kernel
theorem d_H_complete_16 : decode b_H_complete 16 = .ok (.goto 4, 3) := by decide +kernel
theorem d_H_complete_19 : decode b_H_complete 19 = .ok (.iconst (-1), 1) := by decide +kernel
theorem d_H_complete_20 : decode b_H_complete 20 = .ok (.ireturn, 1) := by decide +kernel
def F_H_complete (u : XC) (a1 : Int32) : Option (Int32) := (bs_ (F_H_isOffice a1) fun r1 => (if r1 = 0 then some (-1) else (if 0 ≤ a1 ∧ (a1).toNatClampNeg < 27 then (bs_ (F_O_firstUnknown u ((a1).toNatClampNeg)) fun r5 => some r5) else none)))
set_option maxHeartbeats 4000000 in
set_option maxRecDepth 100000 in
theorem c_H_complete (l : Launch) (D : va_G) (ad : Nat → Nat → Nat) (ca : Nat → ClassId) (hD0 : ∀ z u, va_D (AH ad) (wh ad ca z u)) {z : ZW} {u : XC} {a1 : Int32} {r0 : Int32}  (hF : F_H_complete u a1 = some r0) : Met l y_H_complete ws_H_complete ({ frames := 1, cells := 0, slots := 0, locals := 21 } : Room) (va_Pc [.ref (ad 0 0), .int a1] (fun U => va_P D CLS (wh ad ca z u) U.heap ∧ va_K D CLS (TYH ca) U)) (vp_Si (fun r => r = r0)) 0 0 (fun _ => False) := by
  refine Met.ofW (cc := b_H_complete) (maxL := 2) (ret := (some .int)) (by decide +kernel) rfl ?_
  intro p e s m args below meth c s₁ B hml hv
  obtain ⟨rfl, hP, hK⟩ := hv
  have hx := B.exec
  have hb := B.bytes
  have hr := B.returns
  have hts : ∀ w ∈ ALL, w.before _ s = true := fun w h => atoms_spec (ws := ws_H_complete) B.pre w (List.mem_cons_of_mem _ h)
  have hown : s.vm.findClass R_H = some m.cls := findClass_of_methodNamed B.named
  have hlocks := B.notSynchronized
  have hD := hD0
  have hS : va_S (fun _ => True) s.heap s.heap [] := va_S.rf
  have hN : ∀ q ∈ ([] : List Loc), (fun _ => False) q.base := fun _ h => absurd h List.not_mem_nil
  have hP : va_P D CLS (wh ad ca z u) s.heap := hP
  have hl := lv_entry ([.ref (ad 0 0), .int a1]) (n := 2) (Nat.le_of_ble_eq_true rfl)
  rw [lg_entry_eq]
  generalize (lg_sl ([.ref (ad 0 0), .int a1]) ++ List.replicate (2 - (lg_sl ([.ref (ad 0 0), .int a1])).length) Slot.unset).toArray = ls at hl ⊢
  have hl : lv_has ls 2 [(0, .ref (ad 0 0)), (1, .int a1)] := hl
  have hH : s.heap = s.heap := rfl
  unfold F_H_complete at hF
  refine lv_iload_n hx hb d_H_complete_0 rfl (lv_at hl 1 rfl) ?_
  obtain ⟨r1, h2, hF⟩ := bs_u hF
  refine k_sp [.int a1] [] ⟨hx, hb, hml, hown, hts⟩ (c_H_isOffice l  h2) (w_H_isOffice hts a_222 ⟨Nat.le_of_ble_eq_true rfl, Nat.le_of_ble_eq_true rfl⟩) rfl rfl hl.1 (Nat.le_of_ble_eq_true rfl) ⟨Nat.zero_le _, Nat.zero_le _⟩ d_H_complete_1 ?_
  refine lv_if_eq (tgt := 19) hx hb d_H_complete_4 (by decide) (fun h3 => ?_) (fun h3 => ?_)
  · have hF := it_t hF h3
    refine lv_iconst (v := (-1)) hx hb d_H_complete_19 (by decide) ?_
    have hF := rt1 hF
    subst hF
    exact W.iret (v := (-1)) hx hb hr (fun t ht hW => ⟨_, rfl, rfl, ht.trans hH⟩) hN d_H_complete_20
  · have hF := it_f hF h3
    refine lv_aload_n hx hb d_H_complete_7 rfl (lv_at hl 0 rfl) ?_
    refine gf_H_0 hx hb hts hown hK hP (by decide) a_205 d_H_complete_8 ?_
    refine lv_iload_n hx hb d_H_complete_11 rfl (lv_at hl 1 rfl) ?_
    obtain ⟨h4, hF⟩ := as_u hF
    refine al_1 hx hb hK hP h4 d_H_complete_12 ?_
    obtain ⟨r5, h6, hF⟩ := bs_u hF
    refine k_vp (ad 4 (a1).toNatClampNeg) [] [] ⟨hx, hb, hml, hown, hts⟩ (c_O_firstUnknown l D ad ca hD0 (z := z) (u := u) h4.2 h6) (w_O_firstUnknown hts a_331 ⟨Nat.le_of_ble_eq_true rfl, Nat.le_of_ble_eq_true rfl⟩) (rv_O hK hP h4.2) hP hK rfl rfl hl.1 (Nat.le_of_ble_eq_true rfl) ⟨Nat.zero_le _, Nat.zero_le _⟩ d_H_complete_13 ?_
    refine lv_goto (tgt := 20) hx hb d_H_complete_16 (by decide) ?_
    have hF := rt1 hF
    subst hF
    exact W.iret (v := r5) hx hb hr (fun t ht hW => ⟨_, rfl, rfl, ht.trans hH⟩) hN d_H_complete_20
def ws_H_rate : List Cond := Cond.code y_H_rate b_H_rate 10 (some .int) :: ALL
theorem w_H_rate {R : Room} {s : State} {args : Array Value} {own : String} {index : Nat} (hts : ∀ w ∈ ALL, w.before args s = true) (hlk : Cond.methodLink own index y_H_rate ∈ ALL) (hR : (({ frames := 1, cells := 0, slots := 0, locals := 22 } : Room)).frames + 1 ≤ R.frames ∧ 8 + (10 + 11) + (({ frames := 1, cells := 0, slots := 0, locals := 22 } : Room)).locals ≤ R.locals) : CallW R s args own R_H index y_H_rate b_H_rate 10 (some .int) ws_H_rate ({ frames := 1, cells := 0, slots := 0, locals := 22 } : Room) 0 0 4 := ⟨callB_of 4 hts (good_c a_338) rfl rfl rfl (hts _ a_1) (hts _ hlk) (by decide +kernel) hR, hts _ a_336, hts _ a_337⟩
theorem d_H_rate_0 : decode b_H_rate 0 = .ok (.iload_n 1, 1) := by decide +kernel
theorem d_H_rate_1 : decode b_H_rate 1 = .ok (.invokestatic 36, 3) := by decide +kernel
theorem d_H_rate_4 : decode b_H_rate 4 = .ok (.ifCond .eq 36, 3) := by decide +kernel
theorem d_H_rate_7 : decode b_H_rate 7 = .ok (.iload_n 2, 1) := by decide +kernel
theorem d_H_rate_8 : decode b_H_rate 8 = .ok (.invokestatic 53, 3) := by decide +kernel
theorem d_H_rate_11 : decode b_H_rate 11 = .ok (.ifCond .eq 29, 3) := by decide +kernel
theorem d_H_rate_14 : decode b_H_rate 14 = .ok (.iload_n 3, 1) := by decide +kernel
theorem d_H_rate_15 : decode b_H_rate 15 = .ok (.invokestatic 40, 3) := by decide +kernel
theorem d_H_rate_18 : decode b_H_rate 18 = .ok (.ifCond .eq 22, 3) := by decide +kernel
theorem d_H_rate_21 : decode b_H_rate 21 = .ok (.iload 4, 2) := by decide +kernel
theorem d_H_rate_23 : decode b_H_rate 23 = .ok (.ifCond .lt 17, 3) := by decide +kernel
theorem d_H_rate_26 : decode b_H_rate 26 = .ok (.iload 4, 2) := by decide +kernel
theorem d_H_rate_28 : decode b_H_rate 28 = .ok (.aload_n 0, 1) := by decide +kernel
theorem d_H_rate_29 : decode b_H_rate 29 = .ok (.getfield 11, 3) := by decide +kernel
theorem d_H_rate_32 : decode b_H_rate 32 = .ok (.iload_n 1, 1) := by decide +kernel
theorem d_H_rate_33 : decode b_H_rate 33 = .ok (.aaload, 1) := by decide +kernel
theorem d_H_rate_34 : decode b_H_rate 34 = .ok (.invokevirtual 79, 3) := by decide +kernel
theorem d_H_rate_37 : decode b_H_rate 37 = .ok (.if_icmp .le 5, 3) := by decide +kernel
theorem d_H_rate_40 : decode b_H_rate 40 = .ok (.iconst (-1), 1) := by decide +kernel
theorem d_H_rate_41 : decode b_H_rate 41 = .ok (.ireturn, 1) := by decide +kernel
theorem d_H_rate_42 : decode b_H_rate 42 = .ok (.iconst (-1), 1) := by decide +kernel
theorem d_H_rate_43 : decode b_H_rate 43 = .ok (.istore 5, 2) := by decide +kernel
theorem d_H_rate_45 : decode b_H_rate 45 = .ok (.iconst (-1), 1) := by decide +kernel
theorem d_H_rate_46 : decode b_H_rate 46 = .ok (.istore 6, 2) := by decide +kernel
theorem d_H_rate_48 : decode b_H_rate 48 = .ok (.iconst 0, 1) := by decide +kernel
theorem d_H_rate_49 : decode b_H_rate 49 = .ok (.istore 7, 2) := by decide +kernel
theorem d_H_rate_51 : decode b_H_rate 51 = .ok (.iload 7, 2) := by decide +kernel
theorem d_H_rate_53 : decode b_H_rate 53 = .ok (.iload 4, 2) := by decide +kernel
theorem d_H_rate_55 : decode b_H_rate 55 = .ok (.if_icmp .ge 78, 3) := by decide +kernel
theorem d_H_rate_58 : decode b_H_rate 58 = .ok (.aload_n 0, 1) := by decide +kernel
theorem d_H_rate_59 : decode b_H_rate 59 = .ok (.getfield 17, 3) := by decide +kernel
theorem d_H_rate_62 : decode b_H_rate 62 = .ok (.aload_n 0, 1) := by decide +kernel
theorem d_H_rate_63 : decode b_H_rate 63 = .ok (.getfield 11, 3) := by decide +kernel
theorem d_H_rate_66 : decode b_H_rate 66 = .ok (.iload_n 1, 1) := by decide +kernel
theorem d_H_rate_67 : decode b_H_rate 67 = .ok (.aaload, 1) := by decide +kernel
theorem d_H_rate_68 : decode b_H_rate 68 = .ok (.getfield 129, 3) := by decide +kernel
theorem d_H_rate_71 : decode b_H_rate 71 = .ok (.iload 7, 2) := by decide +kernel
theorem d_H_rate_73 : decode b_H_rate 73 = .ok (.iaload, 1) := by decide +kernel
theorem d_H_rate_74 : decode b_H_rate 74 = .ok (.aaload, 1) := by decide +kernel
theorem d_H_rate_75 : decode b_H_rate 75 = .ok (.astore 8, 2) := by decide +kernel
theorem d_H_rate_77 : decode b_H_rate 77 = .ok (.aload 8, 2) := by decide +kernel
theorem d_H_rate_79 : decode b_H_rate 79 = .ok (.iload_n 2, 1) := by decide +kernel
theorem d_H_rate_80 : decode b_H_rate 80 = .ok (.invokevirtual 211, 3) := by decide +kernel
theorem d_H_rate_83 : decode b_H_rate 83 = .ok (.istore 9, 2) := by decide +kernel
theorem d_H_rate_85 : decode b_H_rate 85 = .ok (.iload 9, 2) := by decide +kernel
theorem d_H_rate_87 : decode b_H_rate 87 = .ok (.iconst (-1), 1) := by decide +kernel
theorem d_H_rate_88 : decode b_H_rate 88 = .ok (.if_icmp .eq 39, 3) := by decide +kernel
theorem d_H_rate_91 : decode b_H_rate 91 = .ok (.aload 8, 2) := by decide +kernel
theorem d_H_rate_93 : decode b_H_rate 93 = .ok (.getfield 47, 3) := by decide +kernel
theorem d_H_rate_96 : decode b_H_rate 96 = .ok (.iload_n 3, 1) := by decide +kernel
theorem d_H_rate_97 : decode b_H_rate 97 = .ok (.if_icmp .gt 30, 3) := by decide +kernel
theorem d_H_rate_100 : decode b_H_rate 100 = .ok (.aload 8, 2) := by decide +kernel
theorem d_H_rate_102 : decode b_H_rate 102 = .ok (.getfield 47, 3) := by decide +kernel
theorem d_H_rate_105 : decode b_H_rate 105 = .ok (.iload 6, 2) := by decide +kernel
theorem d_H_rate_107 : decode b_H_rate 107 = .ok (.if_icmp .lt 20, 3) := by decide +kernel
theorem d_H_rate_110 : decode b_H_rate 110 = .ok (.aload 8, 2) := by decide +kernel
theorem d_H_rate_112 : decode b_H_rate 112 = .ok (.getfield 47, 3) := by decide +kernel
theorem d_H_rate_115 : decode b_H_rate 115 = .ok (.istore 6, 2) := by decide +kernel
theorem d_H_rate_117 : decode b_H_rate 117 = .ok (.aload 8, 2) := by decide +kernel
theorem d_H_rate_119 : decode b_H_rate 119 = .ok (.getfield 215, 3) := by decide +kernel
theorem d_H_rate_122 : decode b_H_rate 122 = .ok (.iload 9, 2) := by decide +kernel
theorem d_H_rate_124 : decode b_H_rate 124 = .ok (.iaload, 1) := by decide +kernel
theorem d_H_rate_125 : decode b_H_rate 125 = .ok (.istore 5, 2) := by decide +kernel
theorem d_H_rate_127 : decode b_H_rate 127 = .ok (.iinc 7 1, 3) := by decide +kernel
theorem d_H_rate_130 : decode b_H_rate 130 = .ok (.goto (-79), 3) := by decide +kernel
theorem d_H_rate_133 : decode b_H_rate 133 = .ok (.iload 5, 2) := by decide +kernel
theorem d_H_rate_135 : decode b_H_rate 135 = .ok (.ireturn, 1) := by decide +kernel
def Fl_H_rate_51  : Nat → XC → Int32 → Int32 → Int32 → Int32 → Int32 → Int32 → Int32 → Option (Int32)
  | 0, _, _, _, _, _, _, _, _ => none
  | n + 1, u, x1, x2, x3, x4, x5, x6, x7 => (if x4 ≤ x7 then some x5 else (if 0 ≤ x1 ∧ (x1).toNatClampNeg < 27 then (if 0 ≤ x7 ∧ (x7).toNatClampNeg < 6 then (if 0 ≤ (u.1 10 (x1).toNatClampNeg (x7).toNatClampNeg) ∧ ((u.1 10 (x1).toNatClampNeg (x7).toNatClampNeg)).toNatClampNeg < 40 then (bs_ (F_T_lineOf u (((u.1 10 (x1).toNatClampNeg (x7).toNatClampNeg)).toNatClampNeg) x2) fun r19 => (if r19 = (-1) then (Fl_H_rate_51 n) u x1 x2 x3 x4 x5 x6 (x7 + 1) else (if x3 < (u.1 5 ((u.1 10 (x1).toNatClampNeg (x7).toNatClampNeg)).toNatClampNeg 0) then (Fl_H_rate_51 n) u x1 x2 x3 x4 x5 x6 (x7 + 1) else (if (u.1 5 ((u.1 10 (x1).toNatClampNeg (x7).toNatClampNeg)).toNatClampNeg 0) < x6 then (Fl_H_rate_51 n) u x1 x2 x3 x4 x5 x6 (x7 + 1) else (nm_ (u.1 5 ((u.1 10 (x1).toNatClampNeg (x7).toNatClampNeg)).toNatClampNeg 0) fun vv24 => (if 0 ≤ r19 ∧ (r19).toNatClampNeg < 4 then (nm_ (u.1 13 ((u.1 10 (x1).toNatClampNeg (x7).toNatClampNeg)).toNatClampNeg (r19).toNatClampNeg) fun vv27 => (Fl_H_rate_51 n) u x1 x2 x3 x4 vv27 vv24 (x7 + 1)) else none)))))) else none) else none) else none))
def F_H_rate (u : XC) (a1 : Int32) (a2 : Int32) (a3 : Int32) (a4 : Int32) : Option (Int32) := (bs_ (F_H_isOffice a1) fun r1 => (if r1 = 0 then some (-1) else (bs_ (F_H_isCode a2) fun r4 => (if r4 = 0 then some (-1) else (bs_ (F_H_isDay a3) fun r7 => (if r7 = 0 then some (-1) else (if a4 < 0 then some (-1) else (if 0 ≤ a1 ∧ (a1).toNatClampNeg < 27 then (bs_ (F_O_firstUnknown u ((a1).toNatClampNeg)) fun r12 => (if a4 ≤ r12 then Fl_H_rate_51  200 u a1 a2 a3 a4 (-1) (-1) 0 else some (-1))) else none))))))))
set_option maxHeartbeats 4000000 in
set_option maxRecDepth 100000 in
theorem lp_H_rate_51 {p : Program} {l : Launch} {e : Env} {s : State} {m : MethodId} {args : Array Value} {below : List Frame} {meth : Method} {c : Code} {D : va_G} {ad : Nat → Nat → Nat} {ca : Nat → ClassId} {z : ZW} (hx : p.tables.exec = Jvm.exec) (hb : c.code = b_H_rate) (hr : meth.sig.returnType = (some .int)) (hts : ∀ w ∈ ALL, w.before args s = true) (hown : s.vm.findClass R_H = some m.cls) (hlocks : meth.locks = false) (hml : c.maxLocals = 10) (hK : va_K D CLS (TYH ca) s) (hD0 : ∀ z u, va_D (AH ad) (wh ad ca z u)) (hD : ∀ z u, va_D (AH ad) (wh ad ca z u))  : ∀ (n : Nat), ∀ (u : XC) (x1 : Int32) (x2 : Int32) (x3 : Int32) (x4 : Int32) (x5 : Int32) (x6 : Int32) (x7 : Int32)  (r0 : Int32), Fl_H_rate_51  n u x1 x2 x3 x4 x5 x6 x7 = some r0 → ∀ (H : Heap) (locs : List Loc) (ls : Array Slot), va_P D CLS (wh ad ca z u) H → va_S (fun _ => True) s.heap H locs → H = s.heap → (∀ q ∈ locs, (fun _ => False) q.base) → lv_has ls 10 [(0, .ref (ad 0 0)), (1, .int x1), (2, .int x2), (3, .int x3), (4, .int x4), (5, .int x5), (6, .int x6), (7, .int x7)] → W p l e ({ frames := 1, cells := 0, slots := 0, locals := 22 } : Room) s m args below meth c H locs 0 0 (MQ below (vp_Si (fun r => r = r0)) args s 0 0 (fun _ => False)) (F0 m 51 ls []) := by
  intro n
  induction n with
  | zero => intro u x1 x2 x3 x4 x5 x6 x7 r0 hF; rw [Fl_H_rate_51] at hF; cases hF
  | succ n ih =>
    intro u x1 x2 x3 x4 x5 x6 x7 r0 hF H locs ls hP hS hH hN hl
    rw [Fl_H_rate_51] at hF
    refine lv_iload hx hb d_H_rate_51 (lv_at hl 7 rfl) ?_
    refine lv_iload hx hb d_H_rate_53 (lv_at hl 4 rfl) ?_
    refine lv_icmp_ge (tgt := 133) hx hb d_H_rate_55 (by decide) (fun h15 => ?_) (fun h15 => ?_)
    · have hF := it_t hF h15
      refine lv_iload hx hb d_H_rate_133 (lv_at hl 5 rfl) ?_
      have hF := rt1 hF
      subst hF
      exact W.iret (v := x5) hx hb hr (fun t ht hW => ⟨_, rfl, rfl, ht.trans hH⟩) hN d_H_rate_135
    · have hF := it_f hF h15
      refine lv_aload_n hx hb d_H_rate_58 rfl (lv_at hl 0 rfl) ?_
      refine gf_H_1 hx hb hts hown hK hP (by decide) a_206 d_H_rate_59 ?_
      refine lv_aload_n hx hb d_H_rate_62 rfl (lv_at hl 0 rfl) ?_
      refine gf_H_0 hx hb hts hown hK hP (by decide) a_205 d_H_rate_63 ?_
      refine lv_iload_n hx hb d_H_rate_66 rfl (lv_at hl 1 rfl) ?_
      obtain ⟨h16, hF⟩ := as_u hF
      refine al_1 hx hb hK hP h16 d_H_rate_67 ?_
      refine gf_O_4 hx hb hts hown hK hP h16.2 a_160 d_H_rate_68 ?_
      refine lv_iload hx hb d_H_rate_71 (lv_at hl 7 rfl) ?_
      obtain ⟨h17, hF⟩ := as_u hF
      refine il_10 hx hb hK hP h16.2 h17 d_H_rate_73 ?_
      obtain ⟨h18, hF⟩ := as_u hF
      refine al_2 hx hb hK hP h18 d_H_rate_74 ?_
      refine lv_astore (lv' := [(8, .ref (ad 5 ((u.1 10 (x1).toNatClampNeg (x7).toNatClampNeg)).toNatClampNeg)), (0, .ref (ad 0 0)), (1, .int x1), (2, .int x2), (3, .int x3), (4, .int x4), (5, .int x5), (6, .int x6), (7, .int x7)]) hx hb d_H_rate_75 hl (by decide) rfl (fun ls hl => ?_)
      refine lv_aload hx hb d_H_rate_77 (lv_at hl 0 rfl) ?_
      refine lv_iload_n hx hb d_H_rate_79 rfl (lv_at hl 3 rfl) ?_
      obtain ⟨r19, h20, hF⟩ := bs_u hF
      refine k_vp (ad 5 ((u.1 10 (x1).toNatClampNeg (x7).toNatClampNeg)).toNatClampNeg) [.int x2] [] ⟨hx, hb, hml, hown, hts⟩ (c_T_lineOf l D ad ca hD0 (z := z) (u := u) h18.2 h20) (w_T_lineOf hts a_339 ⟨Nat.le_of_ble_eq_true rfl, Nat.le_of_ble_eq_true rfl⟩) (rv_T hK hP h18.2) hP hK rfl rfl hl.1 (Nat.le_of_ble_eq_true rfl) ⟨Nat.zero_le _, Nat.zero_le _⟩ d_H_rate_80 ?_
      refine lv_istore (lv' := [(9, .int r19), (8, .ref (ad 5 ((u.1 10 (x1).toNatClampNeg (x7).toNatClampNeg)).toNatClampNeg)), (0, .ref (ad 0 0)), (1, .int x1), (2, .int x2), (3, .int x3), (4, .int x4), (5, .int x5), (6, .int x6), (7, .int x7)]) hx hb d_H_rate_83 hl (by decide) rfl (fun ls hl => ?_)
      refine lv_iload hx hb d_H_rate_85 (lv_at hl 0 rfl) ?_
      refine lv_iconst (v := (-1)) hx hb d_H_rate_87 (by decide) ?_
      refine lv_icmp_eq (tgt := 127) hx hb d_H_rate_88 (by decide) (fun h21 => ?_) (fun h21 => ?_)
      · have hF := it_t hF h21
        refine lv_iinc (k := 9) (v := (x7 + 1)) (lv' := [(7, .int (x7 + 1)), (9, .int r19), (8, .ref (ad 5 ((u.1 10 (x1).toNatClampNeg (x7).toNatClampNeg)).toNatClampNeg)), (0, .ref (ad 0 0)), (1, .int x1), (2, .int x2), (3, .int x3), (4, .int x4), (5, .int x5), (6, .int x6)]) hx hb d_H_rate_127 hl rfl rfl (by decide) rfl (fun ls hl => ?_)
        refine lv_goto (tgt := 51) hx hb d_H_rate_130 (by decide) ?_
        exact ih u x1 x2 x3 x4 x5 x6 (x7 + 1)  r0 hF _ _ _ hP hS hH hN (lv_sub hl [3, 4, 5, 6, 7, 8, 9, 0] rfl)
      · have hF := it_f hF h21
        refine lv_aload hx hb d_H_rate_91 (lv_at hl 1 rfl) ?_
        refine gf_T_0 hx hb hts hown hK hP h18.2 a_190 d_H_rate_93 ?_
        refine lv_iload_n hx hb d_H_rate_96 rfl (lv_at hl 5 rfl) ?_
        refine lv_icmp_gt (tgt := 127) hx hb d_H_rate_97 (by decide) (fun h22 => ?_) (fun h22 => ?_)
        · have hF := it_t hF h22
          refine lv_iinc (k := 9) (v := (x7 + 1)) (lv' := [(7, .int (x7 + 1)), (9, .int r19), (8, .ref (ad 5 ((u.1 10 (x1).toNatClampNeg (x7).toNatClampNeg)).toNatClampNeg)), (0, .ref (ad 0 0)), (1, .int x1), (2, .int x2), (3, .int x3), (4, .int x4), (5, .int x5), (6, .int x6)]) hx hb d_H_rate_127 hl rfl rfl (by decide) rfl (fun ls hl => ?_)
          refine lv_goto (tgt := 51) hx hb d_H_rate_130 (by decide) ?_
          exact ih u x1 x2 x3 x4 x5 x6 (x7 + 1)  r0 hF _ _ _ hP hS hH hN (lv_sub hl [3, 4, 5, 6, 7, 8, 9, 0] rfl)
        · have hF := it_f hF h22
          refine lv_aload hx hb d_H_rate_100 (lv_at hl 1 rfl) ?_
          refine gf_T_0 hx hb hts hown hK hP h18.2 a_190 d_H_rate_102 ?_
          refine lv_iload hx hb d_H_rate_105 (lv_at hl 8 rfl) ?_
          refine lv_icmp_lt (tgt := 127) hx hb d_H_rate_107 (by decide) (fun h23 => ?_) (fun h23 => ?_)
          · have hF := it_t hF h23
            refine lv_iinc (k := 9) (v := (x7 + 1)) (lv' := [(7, .int (x7 + 1)), (9, .int r19), (8, .ref (ad 5 ((u.1 10 (x1).toNatClampNeg (x7).toNatClampNeg)).toNatClampNeg)), (0, .ref (ad 0 0)), (1, .int x1), (2, .int x2), (3, .int x3), (4, .int x4), (5, .int x5), (6, .int x6)]) hx hb d_H_rate_127 hl rfl rfl (by decide) rfl (fun ls hl => ?_)
            refine lv_goto (tgt := 51) hx hb d_H_rate_130 (by decide) ?_
            exact ih u x1 x2 x3 x4 x5 x6 (x7 + 1)  r0 hF _ _ _ hP hS hH hN (lv_sub hl [3, 4, 5, 6, 7, 8, 9, 0] rfl)
          · have hF := it_f hF h23
            refine lv_aload hx hb d_H_rate_110 (lv_at hl 1 rfl) ?_
            refine gf_T_0 hx hb hts hown hK hP h18.2 a_190 d_H_rate_112 ?_
            refine lv_topi (fun vv24 h25 => ?_)
            have hF := nm_q hF h25
            refine lv_istore (lv' := [(6, .int vv24), (9, .int r19), (8, .ref (ad 5 ((u.1 10 (x1).toNatClampNeg (x7).toNatClampNeg)).toNatClampNeg)), (0, .ref (ad 0 0)), (1, .int x1), (2, .int x2), (3, .int x3), (4, .int x4), (5, .int x5), (7, .int x7)]) hx hb d_H_rate_115 hl (by decide) rfl (fun ls hl => ?_)
            refine lv_aload hx hb d_H_rate_117 (lv_at hl 2 rfl) ?_
            refine gf_T_3 hx hb hts hown hK hP h18.2 a_195 d_H_rate_119 ?_
            refine lv_iload hx hb d_H_rate_122 (lv_at hl 1 rfl) ?_
            obtain ⟨h26, hF⟩ := as_u hF
            refine il_13 hx hb hK hP h18.2 h26 d_H_rate_124 ?_
            refine lv_topi (fun vv27 h28 => ?_)
            have hF := nm_q hF h28
            refine lv_istore (lv' := [(5, .int vv27), (6, .int vv24), (9, .int r19), (8, .ref (ad 5 ((u.1 10 (x1).toNatClampNeg (x7).toNatClampNeg)).toNatClampNeg)), (0, .ref (ad 0 0)), (1, .int x1), (2, .int x2), (3, .int x3), (4, .int x4), (7, .int x7)]) hx hb d_H_rate_125 hl (by decide) rfl (fun ls hl => ?_)
            refine lv_iinc (k := 9) (v := (x7 + 1)) (lv' := [(7, .int (x7 + 1)), (5, .int vv27), (6, .int vv24), (9, .int r19), (8, .ref (ad 5 ((u.1 10 (x1).toNatClampNeg (x7).toNatClampNeg)).toNatClampNeg)), (0, .ref (ad 0 0)), (1, .int x1), (2, .int x2), (3, .int x3), (4, .int x4)]) hx hb d_H_rate_127 hl rfl rfl (by decide) rfl (fun ls hl => ?_)
            refine lv_goto (tgt := 51) hx hb d_H_rate_130 (by decide) ?_
            exact ih u x1 x2 x3 x4 vv27 vv24 (x7 + 1)  r0 hF _ _ _ hP hS hH hN (lv_sub hl [5, 6, 7, 8, 9, 1, 2, 0] rfl)
set_option maxHeartbeats 4000000 in
set_option maxRecDepth 100000 in
theorem c_H_rate (l : Launch) (D : va_G) (ad : Nat → Nat → Nat) (ca : Nat → ClassId) (hD0 : ∀ z u, va_D (AH ad) (wh ad ca z u)) {z : ZW} {u : XC} {a1 : Int32} {a2 : Int32} {a3 : Int32} {a4 : Int32} {r0 : Int32}  (hF : F_H_rate u a1 a2 a3 a4 = some r0) : Met l y_H_rate ws_H_rate ({ frames := 1, cells := 0, slots := 0, locals := 22 } : Room) (va_Pc [.ref (ad 0 0), .int a1, .int a2, .int a3, .int a4] (fun U => va_P D CLS (wh ad ca z u) U.heap ∧ va_K D CLS (TYH ca) U)) (vp_Si (fun r => r = r0)) 0 0 (fun _ => False) := by
  refine Met.ofW (cc := b_H_rate) (maxL := 10) (ret := (some .int)) (by decide +kernel) rfl ?_
  intro p e s m args below meth c s₁ B hml hv
  obtain ⟨rfl, hP, hK⟩ := hv
  have hx := B.exec
  have hb := B.bytes
  have hr := B.returns
  have hts : ∀ w ∈ ALL, w.before _ s = true := fun w h => atoms_spec (ws := ws_H_rate) B.pre w (List.mem_cons_of_mem _ h)
  have hown : s.vm.findClass R_H = some m.cls := findClass_of_methodNamed B.named
  have hlocks := B.notSynchronized
  have hD := hD0
  have hS : va_S (fun _ => True) s.heap s.heap [] := va_S.rf
  have hN : ∀ q ∈ ([] : List Loc), (fun _ => False) q.base := fun _ h => absurd h List.not_mem_nil
  have hP : va_P D CLS (wh ad ca z u) s.heap := hP
  have hl := lv_entry ([.ref (ad 0 0), .int a1, .int a2, .int a3, .int a4]) (n := 10) (Nat.le_of_ble_eq_true rfl)
  rw [lg_entry_eq]
  generalize (lg_sl ([.ref (ad 0 0), .int a1, .int a2, .int a3, .int a4]) ++ List.replicate (10 - (lg_sl ([.ref (ad 0 0), .int a1, .int a2, .int a3, .int a4])).length) Slot.unset).toArray = ls at hl ⊢
  have hl : lv_has ls 10 [(0, .ref (ad 0 0)), (1, .int a1), (2, .int a2), (3, .int a3), (4, .int a4)] := hl
  have hH : s.heap = s.heap := rfl
  unfold F_H_rate at hF
  refine lv_iload_n hx hb d_H_rate_0 rfl (lv_at hl 1 rfl) ?_
  obtain ⟨r1, h2, hF⟩ := bs_u hF
  refine k_sp [.int a1] [] ⟨hx, hb, hml, hown, hts⟩ (c_H_isOffice l  h2) (w_H_isOffice hts a_222 ⟨Nat.le_of_ble_eq_true rfl, Nat.le_of_ble_eq_true rfl⟩) rfl rfl hl.1 (Nat.le_of_ble_eq_true rfl) ⟨Nat.zero_le _, Nat.zero_le _⟩ d_H_rate_1 ?_
  refine lv_if_eq (tgt := 40) hx hb d_H_rate_4 (by decide) (fun h3 => ?_) (fun h3 => ?_)
  · have hF := it_t hF h3
    refine lv_iconst (v := (-1)) hx hb d_H_rate_40 (by decide) ?_
    have hF := rt1 hF
    subst hF
    exact W.iret (v := (-1)) hx hb hr (fun t ht hW => ⟨_, rfl, rfl, ht.trans hH⟩) hN d_H_rate_41
  · have hF := it_f hF h3
    refine lv_iload_n hx hb d_H_rate_7 rfl (lv_at hl 2 rfl) ?_
    obtain ⟨r4, h5, hF⟩ := bs_u hF
    refine k_sp [.int a2] [] ⟨hx, hb, hml, hown, hts⟩ (c_H_isCode l  h5) (w_H_isCode hts a_232 ⟨Nat.le_of_ble_eq_true rfl, Nat.le_of_ble_eq_true rfl⟩) rfl rfl hl.1 (Nat.le_of_ble_eq_true rfl) ⟨Nat.zero_le _, Nat.zero_le _⟩ d_H_rate_8 ?_
    refine lv_if_eq (tgt := 40) hx hb d_H_rate_11 (by decide) (fun h6 => ?_) (fun h6 => ?_)
    · have hF := it_t hF h6
      refine lv_iconst (v := (-1)) hx hb d_H_rate_40 (by decide) ?_
      have hF := rt1 hF
      subst hF
      exact W.iret (v := (-1)) hx hb hr (fun t ht hW => ⟨_, rfl, rfl, ht.trans hH⟩) hN d_H_rate_41
    · have hF := it_f hF h6
      refine lv_iload_n hx hb d_H_rate_14 rfl (lv_at hl 3 rfl) ?_
      obtain ⟨r7, h8, hF⟩ := bs_u hF
      refine k_sp [.int a3] [] ⟨hx, hb, hml, hown, hts⟩ (c_H_isDay l  h8) (w_H_isDay hts a_225 ⟨Nat.le_of_ble_eq_true rfl, Nat.le_of_ble_eq_true rfl⟩) rfl rfl hl.1 (Nat.le_of_ble_eq_true rfl) ⟨Nat.zero_le _, Nat.zero_le _⟩ d_H_rate_15 ?_
      refine lv_if_eq (tgt := 40) hx hb d_H_rate_18 (by decide) (fun h9 => ?_) (fun h9 => ?_)
      · have hF := it_t hF h9
        refine lv_iconst (v := (-1)) hx hb d_H_rate_40 (by decide) ?_
        have hF := rt1 hF
        subst hF
        exact W.iret (v := (-1)) hx hb hr (fun t ht hW => ⟨_, rfl, rfl, ht.trans hH⟩) hN d_H_rate_41
      · have hF := it_f hF h9
        refine lv_iload hx hb d_H_rate_21 (lv_at hl 4 rfl) ?_
        refine lv_if_lt (tgt := 40) hx hb d_H_rate_23 (by decide) (fun h10 => ?_) (fun h10 => ?_)
        · have hF := it_t hF h10
          refine lv_iconst (v := (-1)) hx hb d_H_rate_40 (by decide) ?_
          have hF := rt1 hF
          subst hF
          exact W.iret (v := (-1)) hx hb hr (fun t ht hW => ⟨_, rfl, rfl, ht.trans hH⟩) hN d_H_rate_41
        · have hF := it_f hF h10
          refine lv_iload hx hb d_H_rate_26 (lv_at hl 4 rfl) ?_
          refine lv_aload_n hx hb d_H_rate_28 rfl (lv_at hl 0 rfl) ?_
          refine gf_H_0 hx hb hts hown hK hP (by decide) a_205 d_H_rate_29 ?_
          refine lv_iload_n hx hb d_H_rate_32 rfl (lv_at hl 1 rfl) ?_
          obtain ⟨h11, hF⟩ := as_u hF
          refine al_1 hx hb hK hP h11 d_H_rate_33 ?_
          obtain ⟨r12, h13, hF⟩ := bs_u hF
          refine k_vp (ad 4 (a1).toNatClampNeg) [] [.int a4] ⟨hx, hb, hml, hown, hts⟩ (c_O_firstUnknown l D ad ca hD0 (z := z) (u := u) h11.2 h13) (w_O_firstUnknown hts a_331 ⟨Nat.le_of_ble_eq_true rfl, Nat.le_of_ble_eq_true rfl⟩) (rv_O hK hP h11.2) hP hK rfl rfl hl.1 (Nat.le_of_ble_eq_true rfl) ⟨Nat.zero_le _, Nat.zero_le _⟩ d_H_rate_34 ?_
          refine lv_icmp_le (tgt := 42) hx hb d_H_rate_37 (by decide) (fun h14 => ?_) (fun h14 => ?_)
          · have hF := it_t hF h14
            refine lv_iconst (v := (-1)) hx hb d_H_rate_42 (by decide) ?_
            refine lv_istore (lv' := [(5, .int (-1)), (0, .ref (ad 0 0)), (1, .int a1), (2, .int a2), (3, .int a3), (4, .int a4)]) hx hb d_H_rate_43 hl (by decide) rfl (fun ls hl => ?_)
            refine lv_iconst (v := (-1)) hx hb d_H_rate_45 (by decide) ?_
            refine lv_istore (lv' := [(6, .int (-1)), (5, .int (-1)), (0, .ref (ad 0 0)), (1, .int a1), (2, .int a2), (3, .int a3), (4, .int a4)]) hx hb d_H_rate_46 hl (by decide) rfl (fun ls hl => ?_)
            refine lv_iconst (v := 0) hx hb d_H_rate_48 (by decide) ?_
            refine lv_istore (lv' := [(7, .int 0), (6, .int (-1)), (5, .int (-1)), (0, .ref (ad 0 0)), (1, .int a1), (2, .int a2), (3, .int a3), (4, .int a4)]) hx hb d_H_rate_49 hl (by decide) rfl (fun ls hl => ?_)
            exact lp_H_rate_51 hx hb hr hts hown hlocks hml hK hD0 hD  200 u a1 a2 a3 a4 (-1) (-1) 0  r0 hF _ _ _ hP hS hH hN (lv_sub hl [3, 4, 5, 6, 7, 2, 1, 0] rfl)
          · have hF := it_f hF h14
            refine lv_iconst (v := (-1)) hx hb d_H_rate_40 (by decide) ?_
            have hF := rt1 hF
            subst hF
            exact W.iret (v := (-1)) hx hb hr (fun t ht hW => ⟨_, rfl, rfl, ht.trans hH⟩) hN d_H_rate_41
