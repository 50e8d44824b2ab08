def ws_Y_propose : List Cond := Cond.codeWith y_Y_propose b_Y_propose 4 (some .int) hh_Y_propose :: ALL
theorem d_Y_propose_0 : decode b_Y_propose 0 = .ok (.aload_n 2, 1) := by decide +kernel
theorem d_Y_propose_1 : decode b_Y_propose 1 = .ok (.iconst 0, 1) := by decide +kernel
theorem d_Y_propose_2 : decode b_Y_propose 2 = .ok (.aload_n 0, 1) := by decide +kernel
theorem d_Y_propose_3 : decode b_Y_propose 3 = .ok (.iload_n 1, 1) := by decide +kernel
theorem d_Y_propose_4 : decode b_Y_propose 4 = .ok (.invokevirtual 7, 3) := by decide +kernel
theorem d_Y_propose_7 : decode b_Y_propose 7 = .ok (.i2l, 1) := by decide +kernel
theorem d_Y_propose_8 : decode b_Y_propose 8 = .ok (.lastore, 1) := by decide +kernel
theorem d_Y_propose_9 : decode b_Y_propose 9 = .ok (.goto 9, 3) := by decide +kernel
theorem d_Y_propose_12 : decode b_Y_propose 12 = .ok (.astore_n 3, 1) := by decide +kernel
theorem d_Y_propose_13 : decode b_Y_propose 13 = .ok (.iconst 1, 1) := by decide +kernel
theorem d_Y_propose_14 : decode b_Y_propose 14 = .ok (.ireturn, 1) := by decide +kernel
theorem d_Y_propose_15 : decode b_Y_propose 15 = .ok (.astore_n 3, 1) := by decide +kernel
theorem d_Y_propose_16 : decode b_Y_propose 16 = .ok (.iconst 2, 1) := by decide +kernel
theorem d_Y_propose_17 : decode b_Y_propose 17 = .ok (.ireturn, 1) := by decide +kernel
theorem d_Y_propose_18 : decode b_Y_propose 18 = .ok (.iconst 0, 1) := by decide +kernel
theorem d_Y_propose_19 : decode b_Y_propose 19 = .ok (.ireturn, 1) := by decide +kernel
def F_Y_propose (u : XC) (z : ZW) (a1 : Int32) : Option (Int32 × XC × ZW) := (bt_ (F_H_propose u a1) fun k r u1 => (if k = 0 then some (0, u1, po z r.toInt64) else (if k = 1 then some (1, u, z) else (if k = 2 then some (2, u, z) else none))))
set_option maxHeartbeats 4000000 in
set_option maxRecDepth 100000 in
theorem c_Y_propose (l : Launch) (htr : l.stackTraces = false) (D : va_G) (ad : Nat → Nat → Nat) (ca : Nat → ClassId) (hD0 : ∀ z u, va_D (AH ad) (wh ad ca z u)) {z : ZW} {u : XC} {a1 : Int32} {r0 : Int32} {u0 : XC} {z0 : ZW} (hF : F_Y_propose u z a1 = some (r0, u0, z0)) : Met l y_Y_propose ws_Y_propose ({ frames := 7, cells := 1, slots := 6, locals := 123 } : Room) (va_Pc [.ref (ad 0 0), .int a1, .ref (ad 43 0)] (fun U => va_P D CLS (wh ad ca z u) U.heap ∧ va_K D CLS (TYH ca) U ∧ TZ R_H MSGS FW (AH ad) U)) (va_Qi (fun (r : Int32) (_ : Unit) => r = r0) (fun _ t => va_P D CLS (wh ad ca z0 u0) t.heap) (AH ad)) 1 6 (AH ad) := by
  refine va_MetW (cc := b_Y_propose) (maxL := 4) (ret := (some .int)) (hh := hh_Y_propose) (by decide) rfl ?_
  intro p e s m args below meth c s₁ B hml hv
  obtain ⟨rfl, hP, hK, hTZ⟩ := hv
  have hx := B.exec
  have hb := B.bytes
  have hr := B.returns
  have hts : ∀ w ∈ ALL, w.before _ s = true := fun w h => atoms_spec (ws := ws_Y_propose) B.pre w (List.mem_cons_of_mem _ h)
  have hown : s.vm.findClass R_Y = some m.cls := findClass_of_methodNamed B.named
  have hlocks := B.notSynchronized
  have hD := hD0
  have hth := bl_handlers B (atoms_spec (ws := ws_Y_propose) B.pre _ List.mem_cons_self)
  have hS : va_S (AH ad) s.heap s.heap [] := va_S.rf
  have hP : va_P D CLS (wh ad ca z u) s.heap := hP
  have hl := lv_entry ([.ref (ad 0 0), .int a1, .ref (ad 43 0)]) (n := 4) (Nat.le_of_ble_eq_true rfl)
  rw [lg_entry_eq]
  generalize (lg_sl ([.ref (ad 0 0), .int a1, .ref (ad 43 0)]) ++ List.replicate (4 - (lg_sl ([.ref (ad 0 0), .int a1, .ref (ad 43 0)])).length) Slot.unset).toArray = ls at hl ⊢
  have hl : lv_has ls 4 [(0, .ref (ad 0 0)), (1, .int a1), (2, .ref (ad 43 0))] := hl
  unfold F_Y_propose at hF
  refine lv_aload_n hx hb d_Y_propose_0 rfl (lv_at hl 2 rfl) ?_
  refine lv_iconst (v := 0) hx hb d_Y_propose_1 (by decide) ?_
  refine lv_aload_n hx hb d_Y_propose_2 rfl (lv_at hl 0 rfl) ?_
  refine lv_iload_n hx hb d_Y_propose_3 rfl (lv_at hl 1 rfl) ?_
  obtain ⟨k, r, u1, hG, hF⟩ := bt_u hF
  by_cases hk : k = 0
  · subst hk
    have hF := it_t hF rfl
    obtain ⟨rfl, rfl, rfl⟩ := rt3 hF
    refine k_vt (ad 0 0) [.int a1] [.int 0, .ref (ad 43 0)] ⟨hx, hb, hml, hown, hts⟩ (c_H_propose l htr D ad ca hD0 (z := z) (u := u) hG) (w_H_propose hts a_345 ⟨Nat.le_of_ble_eq_true rfl, Nat.le_of_ble_eq_true rfl⟩) wt_blind (rv_H hK hP (by decide)) (fun U hU hW => ⟨by rw [hU]; exact hP, va_K.moved hW.alike hK, hTZ.at hS hU hW⟩) hS (fun _ h => h) rfl rfl hl.1 (Nat.le_of_ble_eq_true rfl) ⟨by decide, by decide⟩ d_Y_propose_4 (fun H locs hP hS => ?_)
    refine lv_i2l hx hb d_Y_propose_7 rfl ?_
    refine s_out hx hb hK hP hD hS rfl d_Y_propose_8 (fun H locs hP hS => ?_)
    refine lv_goto (tgt := 18) hx hb d_Y_propose_9 (by decide) ?_
    refine lv_iconst (v := 0) hx hb d_Y_propose_18 (by decide) ?_
    exact W.iret (v := 0) hx hb hr (fun t ht hW => ⟨⟨_, (), rfl, rfl, vp_at ht hP⟩, hS.F ht⟩) hS.2.2 d_Y_propose_19
  have hF := it_f hF hk
  by_cases hk1 : k = 1
  · subst hk1
    have hF := it_t hF rfl
    obtain ⟨rfl, rfl, rfl⟩ := rt3 hF
    refine k_catch (X := XN 1) (ad 0 0) [.int a1] [.int 0, .ref (ad 43 0)] ⟨hx, hb, hml, hown, hts⟩ (t_H_propose l htr D ad ca hD0 (z := z) (u := u) (by decide) hG) (w_H_propose hts a_345 ⟨Nat.le_of_ble_eq_true rfl, Nat.le_of_ble_eq_true rfl⟩) ⟨wt_blind, rv_H hK hP (by decide), fun U hU hW => ⟨rfl, by rw [hU]; exact hP, va_K.moved hW.alike hK, hTZ.at hS hU hW⟩⟩ rfl rfl hl.1 (Nat.le_of_ble_eq_true rfl) d_Y_propose_4 ⟨by decide, by decide⟩ hth [] [(0, 9, 15, 15)] (0, 9, 12, 13) rfl (fun y hy => absurd hy List.not_mem_nil) (by decide) (by decide) (hts _ a_343) (hTZ.fwd (by decide +kernel)) (fun v H1 h1 h2 => ?_)
    have hS := vs_grow hS h1 h2
    have hP := vp_grow hP h2
    refine lv_astore_n (lv' := [(3, .ref v), (0, .ref (ad 0 0)), (1, .int a1), (2, .ref (ad 43 0))]) hx hb d_Y_propose_12 rfl hl (by decide) rfl (fun ls hl => ?_)
    refine lv_iconst (v := 1) hx hb d_Y_propose_13 (by decide) ?_
    exact W.iret (v := 1) hx hb hr (fun t ht hW => ⟨⟨_, (), rfl, rfl, vp_at ht hP⟩, hS.F ht⟩) hS.2.2 d_Y_propose_14
  have hF := it_f hF hk1
  by_cases hk2 : k = 2
  · subst hk2
    have hF := it_t hF rfl
    obtain ⟨rfl, rfl, rfl⟩ := rt3 hF
    refine k_catch (X := XN 2) (ad 0 0) [.int a1] [.int 0, .ref (ad 43 0)] ⟨hx, hb, hml, hown, hts⟩ (t_H_propose l htr D ad ca hD0 (z := z) (u := u) (by decide) hG) (w_H_propose hts a_345 ⟨Nat.le_of_ble_eq_true rfl, Nat.le_of_ble_eq_true rfl⟩) ⟨wt_blind, rv_H hK hP (by decide), fun U hU hW => ⟨rfl, by rw [hU]; exact hP, va_K.moved hW.alike hK, hTZ.at hS hU hW⟩⟩ rfl rfl hl.1 (Nat.le_of_ble_eq_true rfl) d_Y_propose_4 ⟨by decide, by decide⟩ hth [(0, 9, 12, 13)] [] (0, 9, 15, 15) rfl (List.forall_mem_cons.mpr ⟨⟨by decide, XN 1, hts _ a_343, hTZ.fwd (by decide +kernel)⟩, fun y hy => absurd hy List.not_mem_nil⟩) (by decide) (by decide) (hts _ a_344) (hTZ.fwd (by decide +kernel)) (fun v H1 h1 h2 => ?_)
    have hS := vs_grow hS h1 h2
    have hP := vp_grow hP h2
    refine lv_astore_n (lv' := [(3, .ref v), (0, .ref (ad 0 0)), (1, .int a1), (2, .ref (ad 43 0))]) hx hb d_Y_propose_15 rfl hl (by decide) rfl (fun ls hl => ?_)
    refine lv_iconst (v := 2) hx hb d_Y_propose_16 (by decide) ?_
    exact W.iret (v := 2) hx hb hr (fun t ht hW => ⟨⟨_, (), rfl, rfl, vp_at ht hP⟩, hS.F ht⟩) hS.2.2 d_Y_propose_17
  have hF := it_f hF hk2
  cases hF
def ws_Y_silent : List Cond := Cond.codeWith y_Y_silent b_Y_silent 5 (some .int) hh_Y_silent :: ALL
theorem d_Y_silent_0 : decode b_Y_silent 0 = .ok (.aload_n 3, 1) := by decide +kernel
theorem d_Y_silent_1 : decode b_Y_silent 1 = .ok (.iconst 0, 1) := by decide +kernel
theorem d_Y_silent_2 : decode b_Y_silent 2 = .ok (.aload_n 0, 1) := by decide +kernel
theorem d_Y_silent_3 : decode b_Y_silent 3 = .ok (.iload_n 1, 1) := by decide +kernel
theorem d_Y_silent_4 : decode b_Y_silent 4 = .ok (.iload_n 2, 1) := by decide +kernel
theorem d_Y_silent_5 : decode b_Y_silent 5 = .ok (.invokevirtual 17, 3) := by decide +kernel
theorem d_Y_silent_8 : decode b_Y_silent 8 = .ok (.i2l, 1) := by decide +kernel
theorem d_Y_silent_9 : decode b_Y_silent 9 = .ok (.lastore, 1) := by decide +kernel
theorem d_Y_silent_10 : decode b_Y_silent 10 = .ok (.goto 11, 3) := by decide +kernel
theorem d_Y_silent_13 : decode b_Y_silent 13 = .ok (.astore 4, 2) := by decide +kernel
theorem d_Y_silent_15 : decode b_Y_silent 15 = .ok (.iconst 1, 1) := by decide +kernel
theorem d_Y_silent_16 : decode b_Y_silent 16 = .ok (.ireturn, 1) := by decide +kernel
theorem d_Y_silent_17 : decode b_Y_silent 17 = .ok (.astore 4, 2) := by decide +kernel
theorem d_Y_silent_19 : decode b_Y_silent 19 = .ok (.iconst 2, 1) := by decide +kernel
theorem d_Y_silent_20 : decode b_Y_silent 20 = .ok (.ireturn, 1) := by decide +kernel
theorem d_Y_silent_21 : decode b_Y_silent 21 = .ok (.iconst 0, 1) := by decide +kernel
theorem d_Y_silent_22 : decode b_Y_silent 22 = .ok (.ireturn, 1) := by decide +kernel
def F_Y_silent (u : XC) (z : ZW) (a1 : Int32) (a2 : Int32) : Option (Int32 × XC × ZW) := (bt_ (F_H_silent u a1 a2) fun k r u1 => (if k = 0 then some (0, u1, po z r.toInt64) else (if k = 1 then some (1, u, z) else (if k = 2 then some (2, u, z) else none))))
set_option maxHeartbeats 4000000 in
set_option maxRecDepth 100000 in
theorem c_Y_silent (l : Launch) (htr : l.stackTraces = false) (D : va_G) (ad : Nat → Nat → Nat) (ca : Nat → ClassId) (hD0 : ∀ z u, va_D (AH ad) (wh ad ca z u)) {z : ZW} {u : XC} {a1 : Int32} {a2 : Int32} {r0 : Int32} {u0 : XC} {z0 : ZW} (hF : F_Y_silent u z a1 a2 = some (r0, u0, z0)) : Met l y_Y_silent ws_Y_silent ({ frames := 7, cells := 1, slots := 6, locals := 115 } : Room) (va_Pc [.ref (ad 0 0), .int a1, .int a2, .ref (ad 43 0)] (fun U => va_P D CLS (wh ad ca z u) U.heap ∧ va_K D CLS (TYH ca) U ∧ TZ R_H MSGS FW (AH ad) U)) (va_Qi (fun (r : Int32) (_ : Unit) => r = r0) (fun _ t => va_P D CLS (wh ad ca z0 u0) t.heap) (AH ad)) 1 6 (AH ad) := by
  refine va_MetW (cc := b_Y_silent) (maxL := 5) (ret := (some .int)) (hh := hh_Y_silent) (by decide) rfl ?_
  intro p e s m args below meth c s₁ B hml hv
  obtain ⟨rfl, hP, hK, hTZ⟩ := hv
  have hx := B.exec
  have hb := B.bytes
  have hr := B.returns
  have hts : ∀ w ∈ ALL, w.before _ s = true := fun w h => atoms_spec (ws := ws_Y_silent) B.pre w (List.mem_cons_of_mem _ h)
  have hown : s.vm.findClass R_Y = some m.cls := findClass_of_methodNamed B.named
  have hlocks := B.notSynchronized
  have hD := hD0
  have hth := bl_handlers B (atoms_spec (ws := ws_Y_silent) B.pre _ List.mem_cons_self)
  have hS : va_S (AH ad) s.heap s.heap [] := va_S.rf
  have hP : va_P D CLS (wh ad ca z u) s.heap := hP
  have hl := lv_entry ([.ref (ad 0 0), .int a1, .int a2, .ref (ad 43 0)]) (n := 5) (Nat.le_of_ble_eq_true rfl)
  rw [lg_entry_eq]
  generalize (lg_sl ([.ref (ad 0 0), .int a1, .int a2, .ref (ad 43 0)]) ++ List.replicate (5 - (lg_sl ([.ref (ad 0 0), .int a1, .int a2, .ref (ad 43 0)])).length) Slot.unset).toArray = ls at hl ⊢
  have hl : lv_has ls 5 [(0, .ref (ad 0 0)), (1, .int a1), (2, .int a2), (3, .ref (ad 43 0))] := hl
  unfold F_Y_silent at hF
  refine lv_aload_n hx hb d_Y_silent_0 rfl (lv_at hl 3 rfl) ?_
  refine lv_iconst (v := 0) hx hb d_Y_silent_1 (by decide) ?_
  refine lv_aload_n hx hb d_Y_silent_2 rfl (lv_at hl 0 rfl) ?_
  refine lv_iload_n hx hb d_Y_silent_3 rfl (lv_at hl 1 rfl) ?_
  refine lv_iload_n hx hb d_Y_silent_4 rfl (lv_at hl 2 rfl) ?_
  obtain ⟨k, r, u1, hG, hF⟩ := bt_u hF
  by_cases hk : k = 0
  · subst hk
    have hF := it_t hF rfl
    obtain ⟨rfl, rfl, rfl⟩ := rt3 hF
    refine k_vt (ad 0 0) [.int a1, .int a2] [.int 0, .ref (ad 43 0)] ⟨hx, hb, hml, hown, hts⟩ (c_H_silent l htr D ad ca hD0 (z := z) (u := u) hG) (w_H_silent hts a_462 ⟨Nat.le_of_ble_eq_true rfl, Nat.le_of_ble_eq_true rfl⟩) wt_blind (rv_H hK hP (by decide)) (fun U hU hW => ⟨by rw [hU]; exact hP, va_K.moved hW.alike hK, hTZ.at hS hU hW⟩) hS (fun _ h => h) rfl rfl hl.1 (Nat.le_of_ble_eq_true rfl) ⟨by decide, by decide⟩ d_Y_silent_5 (fun H locs hP hS => ?_)
    refine lv_i2l hx hb d_Y_silent_8 rfl ?_
    refine s_out hx hb hK hP hD hS rfl d_Y_silent_9 (fun H locs hP hS => ?_)
    refine lv_goto (tgt := 21) hx hb d_Y_silent_10 (by decide) ?_
    refine lv_iconst (v := 0) hx hb d_Y_silent_21 (by decide) ?_
    exact W.iret (v := 0) hx hb hr (fun t ht hW => ⟨⟨_, (), rfl, rfl, vp_at ht hP⟩, hS.F ht⟩) hS.2.2 d_Y_silent_22
  have hF := it_f hF hk
  by_cases hk1 : k = 1
  · subst hk1
    have hF := it_t hF rfl
    obtain ⟨rfl, rfl, rfl⟩ := rt3 hF
    refine k_catch (X := XN 1) (ad 0 0) [.int a1, .int a2] [.int 0, .ref (ad 43 0)] ⟨hx, hb, hml, hown, hts⟩ (t_H_silent l htr D ad ca hD0 (z := z) (u := u) (by decide) hG) (w_H_silent hts a_462 ⟨Nat.le_of_ble_eq_true rfl, Nat.le_of_ble_eq_true rfl⟩) ⟨wt_blind, rv_H hK hP (by decide), fun U hU hW => ⟨rfl, by rw [hU]; exact hP, va_K.moved hW.alike hK, hTZ.at hS hU hW⟩⟩ rfl rfl hl.1 (Nat.le_of_ble_eq_true rfl) d_Y_silent_5 ⟨by decide, by decide⟩ hth [] [(0, 10, 17, 15)] (0, 10, 13, 13) rfl (fun y hy => absurd hy List.not_mem_nil) (by decide) (by decide) (hts _ a_343) (hTZ.fwd (by decide +kernel)) (fun v H1 h1 h2 => ?_)
    have hS := vs_grow hS h1 h2
    have hP := vp_grow hP h2
    refine lv_astore (lv' := [(4, .ref v), (0, .ref (ad 0 0)), (1, .int a1), (2, .int a2), (3, .ref (ad 43 0))]) hx hb d_Y_silent_13 hl (by decide) rfl (fun ls hl => ?_)
    refine lv_iconst (v := 1) hx hb d_Y_silent_15 (by decide) ?_
    exact W.iret (v := 1) hx hb hr (fun t ht hW => ⟨⟨_, (), rfl, rfl, vp_at ht hP⟩, hS.F ht⟩) hS.2.2 d_Y_silent_16
  have hF := it_f hF hk1
  by_cases hk2 : k = 2
  · subst hk2
    have hF := it_t hF rfl
    obtain ⟨rfl, rfl, rfl⟩ := rt3 hF
    refine k_catch (X := XN 2) (ad 0 0) [.int a1, .int a2] [.int 0, .ref (ad 43 0)] ⟨hx, hb, hml, hown, hts⟩ (t_H_silent l htr D ad ca hD0 (z := z) (u := u) (by decide) hG) (w_H_silent hts a_462 ⟨Nat.le_of_ble_eq_true rfl, Nat.le_of_ble_eq_true rfl⟩) ⟨wt_blind, rv_H hK hP (by decide), fun U hU hW => ⟨rfl, by rw [hU]; exact hP, va_K.moved hW.alike hK, hTZ.at hS hU hW⟩⟩ rfl rfl hl.1 (Nat.le_of_ble_eq_true rfl) d_Y_silent_5 ⟨by decide, by decide⟩ hth [(0, 10, 13, 13)] [] (0, 10, 17, 15) rfl (List.forall_mem_cons.mpr ⟨⟨by decide, XN 1, hts _ a_343, hTZ.fwd (by decide +kernel)⟩, fun y hy => absurd hy List.not_mem_nil⟩) (by decide) (by decide) (hts _ a_344) (hTZ.fwd (by decide +kernel)) (fun v H1 h1 h2 => ?_)
    have hS := vs_grow hS h1 h2
    have hP := vp_grow hP h2
    refine lv_astore (lv' := [(4, .ref v), (0, .ref (ad 0 0)), (1, .int a1), (2, .int a2), (3, .ref (ad 43 0))]) hx hb d_Y_silent_17 hl (by decide) rfl (fun ls hl => ?_)
    refine lv_iconst (v := 2) hx hb d_Y_silent_19 (by decide) ?_
    exact W.iret (v := 2) hx hb hr (fun t ht hW => ⟨⟨_, (), rfl, rfl, vp_at ht hP⟩, hS.F ht⟩) hS.2.2 d_Y_silent_20
  have hF := it_f hF hk2
  cases hF
def ws_Y_resend : List Cond := Cond.codeWith y_Y_resend b_Y_resend 4 (some .int) hh_Y_resend :: ALL
theorem d_Y_resend_0 : decode b_Y_resend 0 = .ok (.aload_n 2, 1) := by decide +kernel
theorem d_Y_resend_1 : decode b_Y_resend 1 = .ok (.iconst 0, 1) := by decide +kernel
theorem d_Y_resend_2 : decode b_Y_resend 2 = .ok (.aload_n 0, 1) := by decide +kernel
theorem d_Y_resend_3 : decode b_Y_resend 3 = .ok (.iload_n 1, 1) := by decide +kernel
theorem d_Y_resend_4 : decode b_Y_resend 4 = .ok (.invokevirtual 21, 3) := by decide +kernel
theorem d_Y_resend_7 : decode b_Y_resend 7 = .ok (.i2l, 1) := by decide +kernel
theorem d_Y_resend_8 : decode b_Y_resend 8 = .ok (.lastore, 1) := by decide +kernel
theorem d_Y_resend_9 : decode b_Y_resend 9 = .ok (.goto 9, 3) := by decide +kernel
theorem d_Y_resend_12 : decode b_Y_resend 12 = .ok (.astore_n 3, 1) := by decide +kernel
theorem d_Y_resend_13 : decode b_Y_resend 13 = .ok (.iconst 1, 1) := by decide +kernel
theorem d_Y_resend_14 : decode b_Y_resend 14 = .ok (.ireturn, 1) := by decide +kernel
theorem d_Y_resend_15 : decode b_Y_resend 15 = .ok (.astore_n 3, 1) := by decide +kernel
theorem d_Y_resend_16 : decode b_Y_resend 16 = .ok (.iconst 2, 1) := by decide +kernel
theorem d_Y_resend_17 : decode b_Y_resend 17 = .ok (.ireturn, 1) := by decide +kernel
theorem d_Y_resend_18 : decode b_Y_resend 18 = .ok (.iconst 0, 1) := by decide +kernel
theorem d_Y_resend_19 : decode b_Y_resend 19 = .ok (.ireturn, 1) := by decide +kernel
def F_Y_resend (u : XC) (z : ZW) (a1 : Int32) : Option (Int32 × XC × ZW) := (bt_ (F_H_resend u a1) fun k r u1 => (if k = 0 then some (0, u1, po z r.toInt64) else (if k = 1 then some (1, u, z) else (if k = 2 then some (2, u, z) else none))))
set_option maxHeartbeats 4000000 in
set_option maxRecDepth 100000 in
theorem c_Y_resend (l : Launch) (htr : l.stackTraces = false) (D : va_G) (ad : Nat → Nat → Nat) (ca : Nat → ClassId) (hD0 : ∀ z u, va_D (AH ad) (wh ad ca z u)) {z : ZW} {u : XC} {a1 : Int32} {r0 : Int32} {u0 : XC} {z0 : ZW} (hF : F_Y_resend u z a1 = some (r0, u0, z0)) : Met l y_Y_resend ws_Y_resend ({ frames := 7, cells := 1, slots := 6, locals := 111 } : Room) (va_Pc [.ref (ad 0 0), .int a1, .ref (ad 43 0)] (fun U => va_P D CLS (wh ad ca z u) U.heap ∧ va_K D CLS (TYH ca) U ∧ TZ R_H MSGS FW (AH ad) U)) (va_Qi (fun (r : Int32) (_ : Unit) => r = r0) (fun _ t => va_P D CLS (wh ad ca z0 u0) t.heap) (AH ad)) 1 6 (AH ad) := by
  refine va_MetW (cc := b_Y_resend) (maxL := 4) (ret := (some .int)) (hh := hh_Y_resend) (by decide) rfl ?_
  intro p e s m args below meth c s₁ B hml hv
  obtain ⟨rfl, hP, hK, hTZ⟩ := hv
  have hx := B.exec
  have hb := B.bytes
  have hr := B.returns
  have hts : ∀ w ∈ ALL, w.before _ s = true := fun w h => atoms_spec (ws := ws_Y_resend) B.pre w (List.mem_cons_of_mem _ h)
  have hown : s.vm.findClass R_Y = some m.cls := findClass_of_methodNamed B.named
  have hlocks := B.notSynchronized
  have hD := hD0
  have hth := bl_handlers B (atoms_spec (ws := ws_Y_resend) B.pre _ List.mem_cons_self)
  have hS : va_S (AH ad) s.heap s.heap [] := va_S.rf
  have hP : va_P D CLS (wh ad ca z u) s.heap := hP
  have hl := lv_entry ([.ref (ad 0 0), .int a1, .ref (ad 43 0)]) (n := 4) (Nat.le_of_ble_eq_true rfl)
  rw [lg_entry_eq]
  generalize (lg_sl ([.ref (ad 0 0), .int a1, .ref (ad 43 0)]) ++ List.replicate (4 - (lg_sl ([.ref (ad 0 0), .int a1, .ref (ad 43 0)])).length) Slot.unset).toArray = ls at hl ⊢
  have hl : lv_has ls 4 [(0, .ref (ad 0 0)), (1, .int a1), (2, .ref (ad 43 0))] := hl
  unfold F_Y_resend at hF
  refine lv_aload_n hx hb d_Y_resend_0 rfl (lv_at hl 2 rfl) ?_
  refine lv_iconst (v := 0) hx hb d_Y_resend_1 (by decide) ?_
  refine lv_aload_n hx hb d_Y_resend_2 rfl (lv_at hl 0 rfl) ?_
  refine lv_iload_n hx hb d_Y_resend_3 rfl (lv_at hl 1 rfl) ?_
  obtain ⟨k, r, u1, hG, hF⟩ := bt_u hF
  by_cases hk : k = 0
  · subst hk
    have hF := it_t hF rfl
    obtain ⟨rfl, rfl, rfl⟩ := rt3 hF
    refine k_vt (ad 0 0) [.int a1] [.int 0, .ref (ad 43 0)] ⟨hx, hb, hml, hown, hts⟩ (c_H_resend l htr D ad ca hD0 (z := z) (u := u) hG) (w_H_resend hts a_472 ⟨Nat.le_of_ble_eq_true rfl, Nat.le_of_ble_eq_true rfl⟩) wt_blind (rv_H hK hP (by decide)) (fun U hU hW => ⟨by rw [hU]; exact hP, va_K.moved hW.alike hK, hTZ.at hS hU hW⟩) hS (fun _ h => h) rfl rfl hl.1 (Nat.le_of_ble_eq_true rfl) ⟨by decide, by decide⟩ d_Y_resend_4 (fun H locs hP hS => ?_)
    refine lv_i2l hx hb d_Y_resend_7 rfl ?_
    refine s_out hx hb hK hP hD hS rfl d_Y_resend_8 (fun H locs hP hS => ?_)
    refine lv_goto (tgt := 18) hx hb d_Y_resend_9 (by decide) ?_
    refine lv_iconst (v := 0) hx hb d_Y_resend_18 (by decide) ?_
    exact W.iret (v := 0) hx hb hr (fun t ht hW => ⟨⟨_, (), rfl, rfl, vp_at ht hP⟩, hS.F ht⟩) hS.2.2 d_Y_resend_19
  have hF := it_f hF hk
  by_cases hk1 : k = 1
  · subst hk1
    have hF := it_t hF rfl
    obtain ⟨rfl, rfl, rfl⟩ := rt3 hF
    refine k_catch (X := XN 1) (ad 0 0) [.int a1] [.int 0, .ref (ad 43 0)] ⟨hx, hb, hml, hown, hts⟩ (t_H_resend l htr D ad ca hD0 (z := z) (u := u) (by decide) hG) (w_H_resend hts a_472 ⟨Nat.le_of_ble_eq_true rfl, Nat.le_of_ble_eq_true rfl⟩) ⟨wt_blind, rv_H hK hP (by decide), fun U hU hW => ⟨rfl, by rw [hU]; exact hP, va_K.moved hW.alike hK, hTZ.at hS hU hW⟩⟩ rfl rfl hl.1 (Nat.le_of_ble_eq_true rfl) d_Y_resend_4 ⟨by decide, by decide⟩ hth [] [(0, 9, 15, 15)] (0, 9, 12, 13) rfl (fun y hy => absurd hy List.not_mem_nil) (by decide) (by decide) (hts _ a_343) (hTZ.fwd (by decide +kernel)) (fun v H1 h1 h2 => ?_)
    have hS := vs_grow hS h1 h2
    have hP := vp_grow hP h2
    refine lv_astore_n (lv' := [(3, .ref v), (0, .ref (ad 0 0)), (1, .int a1), (2, .ref (ad 43 0))]) hx hb d_Y_resend_12 rfl hl (by decide) rfl (fun ls hl => ?_)
    refine lv_iconst (v := 1) hx hb d_Y_resend_13 (by decide) ?_
    exact W.iret (v := 1) hx hb hr (fun t ht hW => ⟨⟨_, (), rfl, rfl, vp_at ht hP⟩, hS.F ht⟩) hS.2.2 d_Y_resend_14
  have hF := it_f hF hk1
  by_cases hk2 : k = 2
  · subst hk2
    have hF := it_t hF rfl
    obtain ⟨rfl, rfl, rfl⟩ := rt3 hF
    refine k_catch (X := XN 2) (ad 0 0) [.int a1] [.int 0, .ref (ad 43 0)] ⟨hx, hb, hml, hown, hts⟩ (t_H_resend l htr D ad ca hD0 (z := z) (u := u) (by decide) hG) (w_H_resend hts a_472 ⟨Nat.le_of_ble_eq_true rfl, Nat.le_of_ble_eq_true rfl⟩) ⟨wt_blind, rv_H hK hP (by decide), fun U hU hW => ⟨rfl, by rw [hU]; exact hP, va_K.moved hW.alike hK, hTZ.at hS hU hW⟩⟩ rfl rfl hl.1 (Nat.le_of_ble_eq_true rfl) d_Y_resend_4 ⟨by decide, by decide⟩ hth [(0, 9, 12, 13)] [] (0, 9, 15, 15) rfl (List.forall_mem_cons.mpr ⟨⟨by decide, XN 1, hts _ a_343, hTZ.fwd (by decide +kernel)⟩, fun y hy => absurd hy List.not_mem_nil⟩) (by decide) (by decide) (hts _ a_344) (hTZ.fwd (by decide +kernel)) (fun v H1 h1 h2 => ?_)
    have hS := vs_grow hS h1 h2
    have hP := vp_grow hP h2
    refine lv_astore_n (lv' := [(3, .ref v), (0, .ref (ad 0 0)), (1, .int a1), (2, .ref (ad 43 0))]) hx hb d_Y_resend_15 rfl hl (by decide) rfl (fun ls hl => ?_)
    refine lv_iconst (v := 2) hx hb d_Y_resend_16 (by decide) ?_
    exact W.iret (v := 2) hx hb hr (fun t ht hW => ⟨⟨_, (), rfl, rfl, vp_at ht hP⟩, hS.F ht⟩) hS.2.2 d_Y_resend_17
  have hF := it_f hF hk2
  cases hF
def ws_Y_spread : List Cond := Cond.codeWith y_Y_spread b_Y_spread 4 (some .int) hh_Y_spread :: ALL
theorem d_Y_spread_0 : decode b_Y_spread 0 = .ok (.aload_n 2, 1) := by decide +kernel
theorem d_Y_spread_1 : decode b_Y_spread 1 = .ok (.iconst 0, 1) := by decide +kernel
theorem d_Y_spread_2 : decode b_Y_spread 2 = .ok (.aload_n 0, 1) := by decide +kernel
theorem d_Y_spread_3 : decode b_Y_spread 3 = .ok (.iload_n 1, 1) := by decide +kernel
theorem d_Y_spread_4 : decode b_Y_spread 4 = .ok (.invokevirtual 24, 3) := by decide +kernel
theorem d_Y_spread_7 : decode b_Y_spread 7 = .ok (.i2l, 1) := by decide +kernel
theorem d_Y_spread_8 : decode b_Y_spread 8 = .ok (.lastore, 1) := by decide +kernel
theorem d_Y_spread_9 : decode b_Y_spread 9 = .ok (.goto 9, 3) := by decide +kernel
theorem d_Y_spread_12 : decode b_Y_spread 12 = .ok (.astore_n 3, 1) := by decide +kernel
theorem d_Y_spread_13 : decode b_Y_spread 13 = .ok (.iconst 1, 1) := by decide +kernel
theorem d_Y_spread_14 : decode b_Y_spread 14 = .ok (.ireturn, 1) := by decide +kernel
theorem d_Y_spread_15 : decode b_Y_spread 15 = .ok (.astore_n 3, 1) := by decide +kernel
theorem d_Y_spread_16 : decode b_Y_spread 16 = .ok (.iconst 2, 1) := by decide +kernel
theorem d_Y_spread_17 : decode b_Y_spread 17 = .ok (.ireturn, 1) := by decide +kernel
theorem d_Y_spread_18 : decode b_Y_spread 18 = .ok (.iconst 0, 1) := by decide +kernel
theorem d_Y_spread_19 : decode b_Y_spread 19 = .ok (.ireturn, 1) := by decide +kernel
def F_Y_spread (u : XC) (z : ZW) (a1 : Int32) : Option (Int32 × XC × ZW) := (bt_ (F_H_spread u a1) fun k r u1 => (if k = 0 then some (0, u1, po z r.toInt64) else (if k = 1 then some (1, u, z) else (if k = 2 then some (2, u, z) else none))))
set_option maxHeartbeats 4000000 in
set_option maxRecDepth 100000 in
theorem c_Y_spread (l : Launch) (htr : l.stackTraces = false) (D : va_G) (ad : Nat → Nat → Nat) (ca : Nat → ClassId) (hD0 : ∀ z u, va_D (AH ad) (wh ad ca z u)) {z : ZW} {u : XC} {a1 : Int32} {r0 : Int32} {u0 : XC} {z0 : ZW} (hF : F_Y_spread u z a1 = some (r0, u0, z0)) : Met l y_Y_spread ws_Y_spread ({ frames := 7, cells := 1, slots := 6, locals := 113 } : Room) (va_Pc [.ref (ad 0 0), .int a1, .ref (ad 43 0)] (fun U => va_P D CLS (wh ad ca z u) U.heap ∧ va_K D CLS (TYH ca) U ∧ TZ R_H MSGS FW (AH ad) U)) (va_Qi (fun (r : Int32) (_ : Unit) => r = r0) (fun _ t => va_P D CLS (wh ad ca z0 u0) t.heap) (AH ad)) 1 6 (AH ad) := by
  refine va_MetW (cc := b_Y_spread) (maxL := 4) (ret := (some .int)) (hh := hh_Y_spread) (by decide) rfl ?_
  intro p e s m args below meth c s₁ B hml hv
  obtain ⟨rfl, hP, hK, hTZ⟩ := hv
  have hx := B.exec
  have hb := B.bytes
  have hr := B.returns
  have hts : ∀ w ∈ ALL, w.before _ s = true := fun w h => atoms_spec (ws := ws_Y_spread) B.pre w (List.mem_cons_of_mem _ h)
  have hown : s.vm.findClass R_Y = some m.cls := findClass_of_methodNamed B.named
  have hlocks := B.notSynchronized
  have hD := hD0
  have hth := bl_handlers B (atoms_spec (ws := ws_Y_spread) B.pre _ List.mem_cons_self)
  have hS : va_S (AH ad) s.heap s.heap [] := va_S.rf
  have hP : va_P D CLS (wh ad ca z u) s.heap := hP
  have hl := lv_entry ([.ref (ad 0 0), .int a1, .ref (ad 43 0)]) (n := 4) (Nat.le_of_ble_eq_true rfl)
  rw [lg_entry_eq]
  generalize (lg_sl ([.ref (ad 0 0), .int a1, .ref (ad 43 0)]) ++ List.replicate (4 - (lg_sl ([.ref (ad 0 0), .int a1, .ref (ad 43 0)])).length) Slot.unset).toArray = ls at hl ⊢
  have hl : lv_has ls 4 [(0, .ref (ad 0 0)), (1, .int a1), (2, .ref (ad 43 0))] := hl
  unfold F_Y_spread at hF
  refine lv_aload_n hx hb d_Y_spread_0 rfl (lv_at hl 2 rfl) ?_
  refine lv_iconst (v := 0) hx hb d_Y_spread_1 (by decide) ?_
  refine lv_aload_n hx hb d_Y_spread_2 rfl (lv_at hl 0 rfl) ?_
  refine lv_iload_n hx hb d_Y_spread_3 rfl (lv_at hl 1 rfl) ?_
  obtain ⟨k, r, u1, hG, hF⟩ := bt_u hF
  by_cases hk : k = 0
  · subst hk
    have hF := it_t hF rfl
    obtain ⟨rfl, rfl, rfl⟩ := rt3 hF
    refine k_vt (ad 0 0) [.int a1] [.int 0, .ref (ad 43 0)] ⟨hx, hb, hml, hown, hts⟩ (c_H_spread l htr D ad ca hD0 (z := z) (u := u) hG) (w_H_spread hts a_480 ⟨Nat.le_of_ble_eq_true rfl, Nat.le_of_ble_eq_true rfl⟩) wt_blind (rv_H hK hP (by decide)) (fun U hU hW => ⟨by rw [hU]; exact hP, va_K.moved hW.alike hK, hTZ.at hS hU hW⟩) hS (fun _ h => h) rfl rfl hl.1 (Nat.le_of_ble_eq_true rfl) ⟨by decide, by decide⟩ d_Y_spread_4 (fun H locs hP hS => ?_)
    refine lv_i2l hx hb d_Y_spread_7 rfl ?_
    refine s_out hx hb hK hP hD hS rfl d_Y_spread_8 (fun H locs hP hS => ?_)
    refine lv_goto (tgt := 18) hx hb d_Y_spread_9 (by decide) ?_
    refine lv_iconst (v := 0) hx hb d_Y_spread_18 (by decide) ?_
    exact W.iret (v := 0) hx hb hr (fun t ht hW => ⟨⟨_, (), rfl, rfl, vp_at ht hP⟩, hS.F ht⟩) hS.2.2 d_Y_spread_19
  have hF := it_f hF hk
  by_cases hk1 : k = 1
  · subst hk1
    have hF := it_t hF rfl
    obtain ⟨rfl, rfl, rfl⟩ := rt3 hF
    refine k_catch (X := XN 1) (ad 0 0) [.int a1] [.int 0, .ref (ad 43 0)] ⟨hx, hb, hml, hown, hts⟩ (t_H_spread l htr D ad ca hD0 (z := z) (u := u) (by decide) hG) (w_H_spread hts a_480 ⟨Nat.le_of_ble_eq_true rfl, Nat.le_of_ble_eq_true rfl⟩) ⟨wt_blind, rv_H hK hP (by decide), fun U hU hW => ⟨rfl, by rw [hU]; exact hP, va_K.moved hW.alike hK, hTZ.at hS hU hW⟩⟩ rfl rfl hl.1 (Nat.le_of_ble_eq_true rfl) d_Y_spread_4 ⟨by decide, by decide⟩ hth [] [(0, 9, 15, 15)] (0, 9, 12, 13) rfl (fun y hy => absurd hy List.not_mem_nil) (by decide) (by decide) (hts _ a_343) (hTZ.fwd (by decide +kernel)) (fun v H1 h1 h2 => ?_)
    have hS := vs_grow hS h1 h2
    have hP := vp_grow hP h2
    refine lv_astore_n (lv' := [(3, .ref v), (0, .ref (ad 0 0)), (1, .int a1), (2, .ref (ad 43 0))]) hx hb d_Y_spread_12 rfl hl (by decide) rfl (fun ls hl => ?_)
    refine lv_iconst (v := 1) hx hb d_Y_spread_13 (by decide) ?_
    exact W.iret (v := 1) hx hb hr (fun t ht hW => ⟨⟨_, (), rfl, rfl, vp_at ht hP⟩, hS.F ht⟩) hS.2.2 d_Y_spread_14
  have hF := it_f hF hk1
  by_cases hk2 : k = 2
  · subst hk2
    have hF := it_t hF rfl
    obtain ⟨rfl, rfl, rfl⟩ := rt3 hF
    refine k_catch (X := XN 2) (ad 0 0) [.int a1] [.int 0, .ref (ad 43 0)] ⟨hx, hb, hml, hown, hts⟩ (t_H_spread l htr D ad ca hD0 (z := z) (u := u) (by decide) hG) (w_H_spread hts a_480 ⟨Nat.le_of_ble_eq_true rfl, Nat.le_of_ble_eq_true rfl⟩) ⟨wt_blind, rv_H hK hP (by decide), fun U hU hW => ⟨rfl, by rw [hU]; exact hP, va_K.moved hW.alike hK, hTZ.at hS hU hW⟩⟩ rfl rfl hl.1 (Nat.le_of_ble_eq_true rfl) d_Y_spread_4 ⟨by decide, by decide⟩ hth [(0, 9, 12, 13)] [] (0, 9, 15, 15) rfl (List.forall_mem_cons.mpr ⟨⟨by decide, XN 1, hts _ a_343, hTZ.fwd (by decide +kernel)⟩, fun y hy => absurd hy List.not_mem_nil⟩) (by decide) (by decide) (hts _ a_344) (hTZ.fwd (by decide +kernel)) (fun v H1 h1 h2 => ?_)
    have hS := vs_grow hS h1 h2
    have hP := vp_grow hP h2
    refine lv_astore_n (lv' := [(3, .ref v), (0, .ref (ad 0 0)), (1, .int a1), (2, .ref (ad 43 0))]) hx hb d_Y_spread_15 rfl hl (by decide) rfl (fun ls hl => ?_)
    refine lv_iconst (v := 2) hx hb d_Y_spread_16 (by decide) ?_
    exact W.iret (v := 2) hx hb hr (fun t ht hW => ⟨⟨_, (), rfl, rfl, vp_at ht hP⟩, hS.F ht⟩) hS.2.2 d_Y_spread_17
  have hF := it_f hF hk2
  cases hF
def ws_Y_letter : List Cond := Cond.codeWith y_Y_letter b_Y_letter 5 (some .int) hh_Y_letter :: ALL
theorem d_Y_letter_0 : decode b_Y_letter 0 = .ok (.aload_n 3, 1) := by decide +kernel
theorem d_Y_letter_1 : decode b_Y_letter 1 = .ok (.iconst 0, 1) := by decide +kernel
theorem d_Y_letter_2 : decode b_Y_letter 2 = .ok (.aload_n 0, 1) := by decide +kernel
theorem d_Y_letter_3 : decode b_Y_letter 3 = .ok (.iload_n 1, 1) := by decide +kernel
theorem d_Y_letter_4 : decode b_Y_letter 4 = .ok (.iload_n 2, 1) := by decide +kernel
theorem d_Y_letter_5 : decode b_Y_letter 5 = .ok (.invokevirtual 27, 3) := by decide +kernel
theorem d_Y_letter_8 : decode b_Y_letter 8 = .ok (.i2l, 1) := by decide +kernel
theorem d_Y_letter_9 : decode b_Y_letter 9 = .ok (.lastore, 1) := by decide +kernel
theorem d_Y_letter_10 : decode b_Y_letter 10 = .ok (.goto 7, 3) := by decide +kernel
theorem d_Y_letter_13 : decode b_Y_letter 13 = .ok (.astore 4, 2) := by decide +kernel
theorem d_Y_letter_15 : decode b_Y_letter 15 = .ok (.iconst 1, 1) := by decide +kernel
theorem d_Y_letter_16 : decode b_Y_letter 16 = .ok (.ireturn, 1) := by decide +kernel
theorem d_Y_letter_17 : decode b_Y_letter 17 = .ok (.iconst 0, 1) := by decide +kernel
theorem d_Y_letter_18 : decode b_Y_letter 18 = .ok (.ireturn, 1) := by decide +kernel
def F_Y_letter (u : XC) (z : ZW) (a1 : Int32) (a2 : Int32) : Option (Int32 × XC × ZW) := (bt_ (F_H_letter u a1 a2) fun k r u1 => (if k = 0 then some (0, u1, po z r.toInt64) else (if k = 3 then some (1, u, z) else none)))
set_option maxHeartbeats 4000000 in
set_option maxRecDepth 100000 in
theorem c_Y_letter (l : Launch) (htr : l.stackTraces = false) (D : va_G) (ad : Nat → Nat → Nat) (ca : Nat → ClassId) (hD0 : ∀ z u, va_D (AH ad) (wh ad ca z u)) {z : ZW} {u : XC} {a1 : Int32} {a2 : Int32} {r0 : Int32} {u0 : XC} {z0 : ZW} (hF : F_Y_letter u z a1 a2 = some (r0, u0, z0)) : Met l y_Y_letter ws_Y_letter ({ frames := 7, cells := 1, slots := 6, locals := 112 } : Room) (va_Pc [.ref (ad 0 0), .int a1, .int a2, .ref (ad 43 0)] (fun U => va_P D CLS (wh ad ca z u) U.heap ∧ va_K D CLS (TYH ca) U ∧ TZ R_H MSGS FW (AH ad) U)) (va_Qi (fun (r : Int32) (_ : Unit) => r = r0) (fun _ t => va_P D CLS (wh ad ca z0 u0) t.heap) (AH ad)) 1 6 (AH ad) := by
  refine va_MetW (cc := b_Y_letter) (maxL := 5) (ret := (some .int)) (hh := hh_Y_letter) (by decide) rfl ?_
  intro p e s m args below meth c s₁ B hml hv
  obtain ⟨rfl, hP, hK, hTZ⟩ := hv
  have hx := B.exec
  have hb := B.bytes
  have hr := B.returns
  have hts : ∀ w ∈ ALL, w.before _ s = true := fun w h => atoms_spec (ws := ws_Y_letter) B.pre w (List.mem_cons_of_mem _ h)
  have hown : s.vm.findClass R_Y = some m.cls := findClass_of_methodNamed B.named
  have hlocks := B.notSynchronized
  have hD := hD0
  have hth := bl_handlers B (atoms_spec (ws := ws_Y_letter) B.pre _ List.mem_cons_self)
  have hS : va_S (AH ad) s.heap s.heap [] := va_S.rf
  have hP : va_P D CLS (wh ad ca z u) s.heap := hP
  have hl := lv_entry ([.ref (ad 0 0), .int a1, .int a2, .ref (ad 43 0)]) (n := 5) (Nat.le_of_ble_eq_true rfl)
  rw [lg_entry_eq]
  generalize (lg_sl ([.ref (ad 0 0), .int a1, .int a2, .ref (ad 43 0)]) ++ List.replicate (5 - (lg_sl ([.ref (ad 0 0), .int a1, .int a2, .ref (ad 43 0)])).length) Slot.unset).toArray = ls at hl ⊢
  have hl : lv_has ls 5 [(0, .ref (ad 0 0)), (1, .int a1), (2, .int a2), (3, .ref (ad 43 0))] := hl
  unfold F_Y_letter at hF
  refine lv_aload_n hx hb d_Y_letter_0 rfl (lv_at hl 3 rfl) ?_
  refine lv_iconst (v := 0) hx hb d_Y_letter_1 (by decide) ?_
  refine lv_aload_n hx hb d_Y_letter_2 rfl (lv_at hl 0 rfl) ?_
  refine lv_iload_n hx hb d_Y_letter_3 rfl (lv_at hl 1 rfl) ?_
  refine lv_iload_n hx hb d_Y_letter_4 rfl (lv_at hl 2 rfl) ?_
  obtain ⟨k, r, u1, hG, hF⟩ := bt_u hF
  by_cases hk : k = 0
  · subst hk
    have hF := it_t hF rfl
    obtain ⟨rfl, rfl, rfl⟩ := rt3 hF
    refine k_vt (ad 0 0) [.int a1, .int a2] [.int 0, .ref (ad 43 0)] ⟨hx, hb, hml, hown, hts⟩ (c_H_letter l htr D ad ca hD0 (z := z) (u := u) hG) (w_H_letter hts a_496 ⟨Nat.le_of_ble_eq_true rfl, Nat.le_of_ble_eq_true rfl⟩) wt_blind (rv_H hK hP (by decide)) (fun U hU hW => ⟨by rw [hU]; exact hP, va_K.moved hW.alike hK, hTZ.at hS hU hW⟩) hS (fun _ h => h) rfl rfl hl.1 (Nat.le_of_ble_eq_true rfl) ⟨by decide, by decide⟩ d_Y_letter_5 (fun H locs hP hS => ?_)
    refine lv_i2l hx hb d_Y_letter_8 rfl ?_
    refine s_out hx hb hK hP hD hS rfl d_Y_letter_9 (fun H locs hP hS => ?_)
    refine lv_goto (tgt := 17) hx hb d_Y_letter_10 (by decide) ?_
    refine lv_iconst (v := 0) hx hb d_Y_letter_17 (by decide) ?_
    exact W.iret (v := 0) hx hb hr (fun t ht hW => ⟨⟨_, (), rfl, rfl, vp_at ht hP⟩, hS.F ht⟩) hS.2.2 d_Y_letter_18
  have hF := it_f hF hk
  by_cases hk3 : k = 3
  · subst hk3
    have hF := it_t hF rfl
    obtain ⟨rfl, rfl, rfl⟩ := rt3 hF
    refine k_catch (X := XN 3) (ad 0 0) [.int a1, .int a2] [.int 0, .ref (ad 43 0)] ⟨hx, hb, hml, hown, hts⟩ (t_H_letter l htr D ad ca hD0 (z := z) (u := u) (by decide) hG) (w_H_letter hts a_496 ⟨Nat.le_of_ble_eq_true rfl, Nat.le_of_ble_eq_true rfl⟩) ⟨wt_blind, rv_H hK hP (by decide), fun U hU hW => ⟨rfl, by rw [hU]; exact hP, va_K.moved hW.alike hK, hTZ.at hS hU hW⟩⟩ rfl rfl hl.1 (Nat.le_of_ble_eq_true rfl) d_Y_letter_5 ⟨by decide, by decide⟩ hth [] [] (0, 10, 13, 30) rfl (fun y hy => absurd hy List.not_mem_nil) (by decide) (by decide) (hts _ a_495) (hTZ.fwd (by decide +kernel)) (fun v H1 h1 h2 => ?_)
    have hS := vs_grow hS h1 h2
    have hP := vp_grow hP h2
    refine lv_astore (lv' := [(4, .ref v), (0, .ref (ad 0 0)), (1, .int a1), (2, .int a2), (3, .ref (ad 43 0))]) hx hb d_Y_letter_13 hl (by decide) rfl (fun ls hl => ?_)
    refine lv_iconst (v := 1) hx hb d_Y_letter_15 (by decide) ?_
    exact W.iret (v := 1) hx hb hr (fun t ht hW => ⟨⟨_, (), rfl, rfl, vp_at ht hP⟩, hS.F ht⟩) hS.2.2 d_Y_letter_16
  have hF := it_f hF hk3
  cases hF
def ws_Y_deliver : List Cond := Cond.codeWith y_Y_deliver b_Y_deliver 4 (some .int) hh_Y_deliver :: ALL
theorem d_Y_deliver_0 : decode b_Y_deliver 0 = .ok (.aload_n 2, 1) := by decide +kernel
theorem d_Y_deliver_1 : decode b_Y_deliver 1 = .ok (.iconst 0, 1) := by decide +kernel
theorem d_Y_deliver_2 : decode b_Y_deliver 2 = .ok (.aload_n 0, 1) := by decide +kernel
theorem d_Y_deliver_3 : decode b_Y_deliver 3 = .ok (.iload_n 1, 1) := by decide +kernel
theorem d_Y_deliver_4 : decode b_Y_deliver 4 = .ok (.invokevirtual 32, 3) := by decide +kernel
theorem d_Y_deliver_7 : decode b_Y_deliver 7 = .ok (.i2l, 1) := by decide +kernel
theorem d_Y_deliver_8 : decode b_Y_deliver 8 = .ok (.lastore, 1) := by decide +kernel
theorem d_Y_deliver_9 : decode b_Y_deliver 9 = .ok (.goto 6, 3) := by decide +kernel
theorem d_Y_deliver_12 : decode b_Y_deliver 12 = .ok (.astore_n 3, 1) := by decide +kernel
theorem d_Y_deliver_13 : decode b_Y_deliver 13 = .ok (.iconst 1, 1) := by decide +kernel
theorem d_Y_deliver_14 : decode b_Y_deliver 14 = .ok (.ireturn, 1) := by decide +kernel
theorem d_Y_deliver_15 : decode b_Y_deliver 15 = .ok (.iconst 0, 1) := by decide +kernel
theorem d_Y_deliver_16 : decode b_Y_deliver 16 = .ok (.ireturn, 1) := by decide +kernel
def F_Y_deliver (u : XC) (z : ZW) (a1 : Int32) : Option (Int32 × XC × ZW) := (bt_ (F_H_deliver u a1) fun k r u1 => (if k = 0 then some (0, u1, po z r.toInt64) else (if k = 3 then some (1, u, z) else none)))
set_option maxHeartbeats 4000000 in
set_option maxRecDepth 100000 in
theorem c_Y_deliver (l : Launch) (htr : l.stackTraces = false) (D : va_G) (ad : Nat → Nat → Nat) (ca : Nat → ClassId) (hD0 : ∀ z u, va_D (AH ad) (wh ad ca z u)) {z : ZW} {u : XC} {a1 : Int32} {r0 : Int32} {u0 : XC} {z0 : ZW} (hF : F_Y_deliver u z a1 = some (r0, u0, z0)) : Met l y_Y_deliver ws_Y_deliver ({ frames := 7, cells := 1, slots := 6, locals := 171 } : Room) (va_Pc [.ref (ad 0 0), .int a1, .ref (ad 43 0)] (fun U => va_P D CLS (wh ad ca z u) U.heap ∧ va_K D CLS (TYH ca) U ∧ TZ R_H MSGS FW (AH ad) U)) (va_Qi (fun (r : Int32) (_ : Unit) => r = r0) (fun _ t => va_P D CLS (wh ad ca z0 u0) t.heap) (AH ad)) 1 6 (AH ad) := by
  refine va_MetW (cc := b_Y_deliver) (maxL := 4) (ret := (some .int)) (hh := hh_Y_deliver) (by decide) rfl ?_
  intro p e s m args below meth c s₁ B hml hv
  obtain ⟨rfl, hP, hK, hTZ⟩ := hv
  have hx := B.exec
  have hb := B.bytes
  have hr := B.returns
  have hts : ∀ w ∈ ALL, w.before _ s = true := fun w h => atoms_spec (ws := ws_Y_deliver) B.pre w (List.mem_cons_of_mem _ h)
  have hown : s.vm.findClass R_Y = some m.cls := findClass_of_methodNamed B.named
  have hlocks := B.notSynchronized
  have hD := hD0
  have hth := bl_handlers B (atoms_spec (ws := ws_Y_deliver) B.pre _ List.mem_cons_self)
  have hS : va_S (AH ad) s.heap s.heap [] := va_S.rf
  have hP : va_P D CLS (wh ad ca z u) s.heap := hP
  have hl := lv_entry ([.ref (ad 0 0), .int a1, .ref (ad 43 0)]) (n := 4) (Nat.le_of_ble_eq_true rfl)
  rw [lg_entry_eq]
  generalize (lg_sl ([.ref (ad 0 0), .int a1, .ref (ad 43 0)]) ++ List.replicate (4 - (lg_sl ([.ref (ad 0 0), .int a1, .ref (ad 43 0)])).length) Slot.unset).toArray = ls at hl ⊢
  have hl : lv_has ls 4 [(0, .ref (ad 0 0)), (1, .int a1), (2, .ref (ad 43 0))] := hl
  unfold F_Y_deliver at hF
  refine lv_aload_n hx hb d_Y_deliver_0 rfl (lv_at hl 2 rfl) ?_
  refine lv_iconst (v := 0) hx hb d_Y_deliver_1 (by decide) ?_
  refine lv_aload_n hx hb d_Y_deliver_2 rfl (lv_at hl 0 rfl) ?_
  refine lv_iload_n hx hb d_Y_deliver_3 rfl (lv_at hl 1 rfl) ?_
  obtain ⟨k, r, u1, hG, hF⟩ := bt_u hF
  by_cases hk : k = 0
  · subst hk
    have hF := it_t hF rfl
    obtain ⟨rfl, rfl, rfl⟩ := rt3 hF
    refine k_vt (ad 0 0) [.int a1] [.int 0, .ref (ad 43 0)] ⟨hx, hb, hml, hown, hts⟩ (c_H_deliver l htr D ad ca hD0 (z := z) (u := u) hG) (w_H_deliver hts a_519 ⟨Nat.le_of_ble_eq_true rfl, Nat.le_of_ble_eq_true rfl⟩) wt_blind (rv_H hK hP (by decide)) (fun U hU hW => ⟨by rw [hU]; exact hP, va_K.moved hW.alike hK, hTZ.at hS hU hW⟩) hS (fun _ h => h) rfl rfl hl.1 (Nat.le_of_ble_eq_true rfl) ⟨by decide, by decide⟩ d_Y_deliver_4 (fun H locs hP hS => ?_)
    refine lv_i2l hx hb d_Y_deliver_7 rfl ?_
    refine s_out hx hb hK hP hD hS rfl d_Y_deliver_8 (fun H locs hP hS => ?_)
    refine lv_goto (tgt := 15) hx hb d_Y_deliver_9 (by decide) ?_
    refine lv_iconst (v := 0) hx hb d_Y_deliver_15 (by decide) ?_
    exact W.iret (v := 0) hx hb hr (fun t ht hW => ⟨⟨_, (), rfl, rfl, vp_at ht hP⟩, hS.F ht⟩) hS.2.2 d_Y_deliver_16
  have hF := it_f hF hk
  by_cases hk3 : k = 3
  · subst hk3
    have hF := it_t hF rfl
    obtain ⟨rfl, rfl, rfl⟩ := rt3 hF
    refine k_catch (X := XN 3) (ad 0 0) [.int a1] [.int 0, .ref (ad 43 0)] ⟨hx, hb, hml, hown, hts⟩ (t_H_deliver l htr D ad ca hD0 (z := z) (u := u) (by decide) hG) (w_H_deliver hts a_519 ⟨Nat.le_of_ble_eq_true rfl, Nat.le_of_ble_eq_true rfl⟩) ⟨wt_blind, rv_H hK hP (by decide), fun U hU hW => ⟨rfl, by rw [hU]; exact hP, va_K.moved hW.alike hK, hTZ.at hS hU hW⟩⟩ rfl rfl hl.1 (Nat.le_of_ble_eq_true rfl) d_Y_deliver_4 ⟨by decide, by decide⟩ hth [] [] (0, 9, 12, 30) rfl (fun y hy => absurd hy List.not_mem_nil) (by decide) (by decide) (hts _ a_495) (hTZ.fwd (by decide +kernel)) (fun v H1 h1 h2 => ?_)
    have hS := vs_grow hS h1 h2
    have hP := vp_grow hP h2
    refine lv_astore_n (lv' := [(3, .ref v), (0, .ref (ad 0 0)), (1, .int a1), (2, .ref (ad 43 0))]) hx hb d_Y_deliver_12 rfl hl (by decide) rfl (fun ls hl => ?_)
    refine lv_iconst (v := 1) hx hb d_Y_deliver_13 (by decide) ?_
    exact W.iret (v := 1) hx hb hr (fun t ht hW => ⟨⟨_, (), rfl, rfl, vp_at ht hP⟩, hS.F ht⟩) hS.2.2 d_Y_deliver_14
  have hF := it_f hF hk3
  cases hF
