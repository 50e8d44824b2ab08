def ws_H_propose : List Cond := Cond.code y_H_propose b_H_propose 3 (some .int) :: ALL
theorem w_H_propose {R : Room} {s : State} {args : Array Value} {own : String} {index : Nat} (hts : ∀ w ∈ ALL, w.before args s = true) (hlk : Cond.methodLink own index y_H_propose ∈ ALL) (hR : (({ frames := 6, cells := 1, slots := 6, locals := 101 } : Room)).frames + 1 ≤ R.frames ∧ 8 + (3 + 11) + (({ frames := 6, cells := 1, slots := 6, locals := 101 } : Room)).locals ≤ R.locals) : CallW R s args own R_H index y_H_propose b_H_propose 3 (some .int) ws_H_propose ({ frames := 6, cells := 1, slots := 6, locals := 101 } : Room) 1 6 1 := ⟨callB_of 1 hts (good_c a_348) rfl rfl rfl (hts _ a_1) (hts _ hlk) (by decide +kernel) hR, hts _ a_346, hts _ a_347⟩
theorem d_H_propose_0 : decode b_H_propose 0 = .ok (.iload_n 1, 1) := by decide +kernel
theorem d_H_propose_1 : decode b_H_propose 1 = .ok (.invokestatic 36, 3) := by decide +kernel
theorem d_H_propose_4 : decode b_H_propose 4 = .ok (.ifCond .eq 19, 3) := by decide +kernel
theorem d_H_propose_7 : decode b_H_propose 7 = .ok (.aload_n 0, 1) := by decide +kernel
theorem d_H_propose_8 : decode b_H_propose 8 = .ok (.aload_n 0, 1) := by decide +kernel
theorem d_H_propose_9 : decode b_H_propose 9 = .ok (.getfield 11, 3) := by decide +kernel
theorem d_H_propose_12 : decode b_H_propose 12 = .ok (.iload_n 1, 1) := by decide +kernel
theorem d_H_propose_13 : decode b_H_propose 13 = .ok (.aaload, 1) := by decide +kernel
theorem d_H_propose_14 : decode b_H_propose 14 = .ok (.getfield 50, 3) := by decide +kernel
theorem d_H_propose_17 : decode b_H_propose 17 = .ok (.invokevirtual 60, 3) := by decide +kernel
theorem d_H_propose_20 : decode b_H_propose 20 = .ok (.ifCond .ne 13, 3) := by decide +kernel
theorem d_H_propose_23 : decode b_H_propose 23 = .ok (.new 63, 3) := by decide +kernel
theorem d_H_propose_26 : decode b_H_propose 26 = .ok (.dup, 1) := by decide +kernel
theorem d_H_propose_27 : decode b_H_propose 27 = .ok (.ldc 65, 2) := by decide +kernel
theorem d_H_propose_29 : decode b_H_propose 29 = .ok (.invokespecial 67, 3) := by decide +kernel
theorem d_H_propose_32 : decode b_H_propose 32 = .ok (.athrow, 1) := by decide +kernel
theorem d_H_propose_33 : decode b_H_propose 33 = .ok (.aload_n 0, 1) := by decide +kernel
theorem d_H_propose_34 : decode b_H_propose 34 = .ok (.getfield 11, 3) := by decide +kernel
theorem d_H_propose_37 : decode b_H_propose 37 = .ok (.iload_n 1, 1) := by decide +kernel
theorem d_H_propose_38 : decode b_H_propose 38 = .ok (.aaload, 1) := by decide +kernel
theorem d_H_propose_39 : decode b_H_propose 39 = .ok (.astore_n 2, 1) := by decide +kernel
theorem d_H_propose_40 : decode b_H_propose 40 = .ok (.aload_n 2, 1) := by decide +kernel
theorem d_H_propose_41 : decode b_H_propose 41 = .ok (.getfield 43, 3) := by decide +kernel
theorem d_H_propose_44 : decode b_H_propose 44 = .ok (.ifCond .ne 22, 3) := by decide +kernel
theorem d_H_propose_47 : decode b_H_propose 47 = .ok (.aload_n 2, 1) := by decide +kernel
theorem d_H_propose_48 : decode b_H_propose 48 = .ok (.getfield 70, 3) := by decide +kernel
theorem d_H_propose_51 : decode b_H_propose 51 = .ok (.getfield 74, 3) := by decide +kernel
theorem d_H_propose_54 : decode b_H_propose 54 = .ok (.ifCond .ne 12, 3) := by decide +kernel
theorem d_H_propose_57 : decode b_H_propose 57 = .ok (.aload_n 2, 1) := by decide +kernel
theorem d_H_propose_58 : decode b_H_propose 58 = .ok (.invokevirtual 79, 3) := by decide +kernel
theorem d_H_propose_61 : decode b_H_propose 61 = .ok (.bipush 6, 2) := by decide +kernel
theorem d_H_propose_63 : decode b_H_propose 63 = .ok (.if_icmp .ne 13, 3) := by decide +kernel
theorem d_H_propose_66 : decode b_H_propose 66 = .ok (.new 83, 3) := by decide +kernel
theorem d_H_propose_69 : decode b_H_propose 69 = .ok (.dup, 1) := by decide +kernel
theorem d_H_propose_70 : decode b_H_propose 70 = .ok (.ldc 85, 2) := by decide +kernel
theorem d_H_propose_72 : decode b_H_propose 72 = .ok (.invokespecial 87, 3) := by decide +kernel
theorem d_H_propose_75 : decode b_H_propose 75 = .ok (.athrow, 1) := by decide +kernel
theorem d_H_propose_76 : decode b_H_propose 76 = .ok (.aload_n 2, 1) := by decide +kernel
theorem d_H_propose_77 : decode b_H_propose 77 = .ok (.getfield 70, 3) := by decide +kernel
theorem d_H_propose_80 : decode b_H_propose 80 = .ok (.aload_n 2, 1) := by decide +kernel
theorem d_H_propose_81 : decode b_H_propose 81 = .ok (.getfield 50, 3) := by decide +kernel
theorem d_H_propose_84 : decode b_H_propose 84 = .ok (.putfield 88, 3) := by decide +kernel
theorem d_H_propose_87 : decode b_H_propose 87 = .ok (.aload_n 2, 1) := by decide +kernel
theorem d_H_propose_88 : decode b_H_propose 88 = .ok (.getfield 70, 3) := by decide +kernel
theorem d_H_propose_91 : decode b_H_propose 91 = .ok (.iconst 0, 1) := by decide +kernel
theorem d_H_propose_92 : decode b_H_propose 92 = .ok (.putfield 91, 3) := by decide +kernel
theorem d_H_propose_95 : decode b_H_propose 95 = .ok (.aload_n 2, 1) := by decide +kernel
theorem d_H_propose_96 : decode b_H_propose 96 = .ok (.iconst (-1), 1) := by decide +kernel
theorem d_H_propose_97 : decode b_H_propose 97 = .ok (.putfield 50, 3) := by decide +kernel
theorem d_H_propose_100 : decode b_H_propose 100 = .ok (.aload_n 0, 1) := by decide +kernel
theorem d_H_propose_101 : decode b_H_propose 101 = .ok (.aload_n 2, 1) := by decide +kernel
theorem d_H_propose_102 : decode b_H_propose 102 = .ok (.iconst 0, 1) := by decide +kernel
theorem d_H_propose_103 : decode b_H_propose 103 = .ok (.invokevirtual 94, 3) := by decide +kernel
theorem d_H_propose_106 : decode b_H_propose 106 = .ok (.pop, 1) := by decide +kernel
theorem d_H_propose_107 : decode b_H_propose 107 = .ok (.aload_n 2, 1) := by decide +kernel
theorem d_H_propose_108 : decode b_H_propose 108 = .ok (.getfield 70, 3) := by decide +kernel
theorem d_H_propose_111 : decode b_H_propose 111 = .ok (.getfield 98, 3) := by decide +kernel
theorem d_H_propose_114 : decode b_H_propose 114 = .ok (.ireturn, 1) := by decide +kernel
def F_H_propose (u : XC) (a1 : Int32) : Option (Nat × Int32 × XC) := (bs_ (F_H_isOffice a1) fun r1 => (if r1 = 0 then some (1, 0, u) else (if 0 ≤ a1 ∧ (a1).toNatClampNeg < 27 then (bs_ (F_H_hasLines u (u.1 4 (a1).toNatClampNeg 6)) fun r5 => (if r5 = 0 then some (1, 0, u) else (if 0 ≤ a1 ∧ (a1).toNatClampNeg < 27 then (if (u.1 4 (a1).toNatClampNeg 5) = 0 then (if (u.1 11 (a1).toNatClampNeg 0) = 0 then (bs_ (F_O_firstUnknown u ((a1).toNatClampNeg)) fun r11 => (if r11 = 6 then some (2, 0, u) else (nm_ (pu u 11 (a1).toNatClampNeg 3 (u.1 4 (a1).toNatClampNeg 6)) fun u14 => (nm_ (pu u14 11 (a1).toNatClampNeg 6 0) fun u16 => (nm_ (pu u16 4 (a1).toNatClampNeg 6 (-1)) fun u18 => (bd_ (F_H_begin u18 ((a1).toNatClampNeg) 0) fun r20 u22 => some (0, (u22.1 11 (a1).toNatClampNeg 1), u22))))))) else some (2, 0, u)) else some (2, 0, u)) else none))) else none)))
set_option maxHeartbeats 4000000 in
set_option maxRecDepth 100000 in
theorem wk_H_propose {p : Program} {l : Launch} {e : Env} {s : State} {m : MethodId} {args : Array Value} {below : List Frame} {meth : Method} {c : Code} {D : va_G} {ad : Nat → Nat → Nat} {ca : Nat → ClassId} {z : ZW} {u : XC} {a1 : Int32} {k0 : Nat} {r0 : Int32} {u0 : XC}  (hx : p.tables.exec = Jvm.exec) (hb : c.code = b_H_propose) (hr : meth.sig.returnType = (some .int)) (hts : ∀ w ∈ ALL, w.before args s = true) (hown : s.vm.findClass R_H = some m.cls) (hlocks : meth.locks = false) (hml : c.maxLocals = 3) (htr : l.stackTraces = false) (hne : c.exceptionTable.isEmpty = true) (hK : va_K D CLS (TYH ca) s) (hD0 : ∀ z u, va_D (AH ad) (wh ad ca z u)) (hD : ∀ z u, va_D (AH ad) (wh ad ca z u)) (hTZ : TZ R_H MSGS FW (AH ad) s) (hF : F_H_propose u a1 = some (k0, r0, u0)) (hP : va_P D CLS (wh ad ca z u) s.heap) (hS : va_S (AH ad) s.heap s.heap []) {ls : Array Slot} (hl : lv_has ls 3 [(0, .ref (ad 0 0)), (1, .int a1)]) : W p l e ({ frames := 6, cells := 1, slots := 6, locals := 101 } : Room) s m args below meth c s.heap [] 0 0 (Q2 k0 (MQ below (va_Qi (fun (r : Int32) (_ : Unit) => r = r0) (fun _ t => va_P D CLS (wh ad ca z u0) t.heap) (AH ad)) args s 1 6 (AH ad)) (u0 = u) (MT below (XN k0) args s)) (F0 m 0 ls []) := by
  unfold F_H_propose at hF
  refine lv_iload_n hx hb d_H_propose_0 rfl (lv_at hl 1 rfl) ?_
  obtain ⟨r1, h2, hF⟩ := bs_u hF
  refine k_sp [.int a1] [] ⟨hx, hb, hml, hown, hts⟩ (c_H_isOffice l  h2) (w_H_isOffice hts a_222 ⟨Nat.le_of_ble_eq_true rfl, Nat.le_of_ble_eq_true rfl⟩) rfl rfl hl.1 (Nat.le_of_ble_eq_true rfl) ⟨Nat.zero_le _, Nat.zero_le _⟩ d_H_propose_1 ?_
  refine lv_if_eq (tgt := 23) hx hb d_H_propose_4 (by decide) (fun h3 => ?_) (fun h3 => ?_)
  · have hF := it_t hF h3
    obtain ⟨rfl, rfl, rfl⟩ := rt3 hF
    obtain ⟨q, hm⟩ := hTZ.2.2.1 (65, "no such office, or no draft with lines to propose") (by decide)
    exact k_mono (fun t ht => ⟨fun h => absurd h (by decide), fun _ => ⟨rfl, ht⟩⟩) (k_throw (cls := XN 1) (names := UP) hx hb htr hne hlocks hml hl.1 hown (by decide +kernel) (by decide +kernel) (hts _ a_353) (hts _ a_354) (hts _ a_12) (oat_67 hts hTZ) hm (by decide) (by decide) ⟨by decide, by decide⟩ rfl d_H_propose_23 d_H_propose_26 d_H_propose_27 d_H_propose_29 d_H_propose_32)
  · have hF := it_f hF h3
    refine lv_aload_n hx hb d_H_propose_7 rfl (lv_at hl 0 rfl) ?_
    refine lv_aload_n hx hb d_H_propose_8 rfl (lv_at hl 0 rfl) ?_
    refine gf_H_0 hx hb hts hown hK hP (by decide) a_205 d_H_propose_9 ?_
    refine lv_iload_n hx hb d_H_propose_12 rfl (lv_at hl 1 rfl) ?_
    obtain ⟨h4, hF⟩ := as_u hF
    refine al_1 hx hb hK hP h4 d_H_propose_13 ?_
    refine gf_O_6 hx hb hts hown hK hP h4.2 a_164 d_H_propose_14 ?_
    obtain ⟨r5, h6, hF⟩ := bs_u hF
    refine k_vp (ad 0 0) [.int (u.1 4 (a1).toNatClampNeg 6)] [] ⟨hx, hb, hml, hown, hts⟩ (c_H_hasLines l D ad ca hD0 (z := z) (u := u)  h6) (w_H_hasLines hts a_349 ⟨Nat.le_of_ble_eq_true rfl, Nat.le_of_ble_eq_true rfl⟩) (rv_H hK hP (by decide)) hP hK rfl rfl hl.1 (Nat.le_of_ble_eq_true rfl) ⟨Nat.zero_le _, Nat.zero_le _⟩ d_H_propose_17 ?_
    refine lv_if_ne (tgt := 33) hx hb d_H_propose_20 (by decide) (fun h7 => ?_) (fun h7 => ?_)
    · have hF := it_f hF h7
      refine lv_aload_n hx hb d_H_propose_33 rfl (lv_at hl 0 rfl) ?_
      refine gf_H_0 hx hb hts hown hK hP (by decide) a_205 d_H_propose_34 ?_
      refine lv_iload_n hx hb d_H_propose_37 rfl (lv_at hl 1 rfl) ?_
      obtain ⟨h8, hF⟩ := as_u hF
      refine al_1 hx hb hK hP h8 d_H_propose_38 ?_
      refine lv_astore_n (lv' := [(2, .ref (ad 4 (a1).toNatClampNeg)), (0, .ref (ad 0 0)), (1, .int a1)]) hx hb d_H_propose_39 rfl hl (by decide) rfl (fun ls hl => ?_)
      refine lv_aload_n hx hb d_H_propose_40 rfl (lv_at hl 0 rfl) ?_
      refine gf_O_5 hx hb hts hown hK hP h8.2 a_162 d_H_propose_41 ?_
      refine lv_if_ne (tgt := 66) hx hb d_H_propose_44 (by decide) (fun h9 => ?_) (fun h9 => ?_)
      · have hF := it_f hF h9
        obtain ⟨rfl, rfl, rfl⟩ := rt3 hF
        obtain ⟨q, hm⟩ := hTZ.2.2.1 (85, "failed, a run is on, or all numbers are decided") (by decide)
        exact k_mono (fun t ht => ⟨fun h => absurd h (by decide), fun _ => ⟨rfl, ht⟩⟩) (k_throw (cls := XN 2) (names := UP) hx hb htr hne hlocks hml hl.1 hown (by decide +kernel) (by decide +kernel) (hts _ a_421) (hts _ a_422) (hts _ a_13) (oat_87 hts hTZ) hm (by decide) (by decide) ⟨by decide, by decide⟩ rfl d_H_propose_66 d_H_propose_69 d_H_propose_70 d_H_propose_72 d_H_propose_75)
      · have hF := it_t hF h9
        refine lv_aload_n hx hb d_H_propose_47 rfl (lv_at hl 0 rfl) ?_
        refine gf_O_7 hx hb hts hown hK hP h8.2 a_166 d_H_propose_48 ?_
        refine gf_R_0 hx hb hts hown hK hP h8.2 a_111 d_H_propose_51 ?_
        refine lv_if_ne (tgt := 66) hx hb d_H_propose_54 (by decide) (fun h10 => ?_) (fun h10 => ?_)
        · have hF := it_f hF h10
          obtain ⟨rfl, rfl, rfl⟩ := rt3 hF
          obtain ⟨q, hm⟩ := hTZ.2.2.1 (85, "failed, a run is on, or all numbers are decided") (by decide)
          exact k_mono (fun t ht => ⟨fun h => absurd h (by decide), fun _ => ⟨rfl, ht⟩⟩) (k_throw (cls := XN 2) (names := UP) hx hb htr hne hlocks hml hl.1 hown (by decide +kernel) (by decide +kernel) (hts _ a_421) (hts _ a_422) (hts _ a_13) (oat_87 hts hTZ) hm (by decide) (by decide) ⟨by decide, by decide⟩ rfl d_H_propose_66 d_H_propose_69 d_H_propose_70 d_H_propose_72 d_H_propose_75)
        · have hF := it_t hF h10
          refine lv_aload_n hx hb d_H_propose_57 rfl (lv_at hl 0 rfl) ?_
          obtain ⟨r11, h12, hF⟩ := bs_u hF
          refine k_vp (ad 4 (a1).toNatClampNeg) [] [] ⟨hx, hb, hml, hown, hts⟩ (c_O_firstUnknown l D ad ca hD0 (z := z) (u := u) h8.2 h12) (w_O_firstUnknown hts a_331 ⟨Nat.le_of_ble_eq_true rfl, Nat.le_of_ble_eq_true rfl⟩) (rv_O hK hP h8.2) hP hK rfl rfl hl.1 (Nat.le_of_ble_eq_true rfl) ⟨Nat.zero_le _, Nat.zero_le _⟩ d_H_propose_58 ?_
          refine lv_bipush (v := 6) hx hb d_H_propose_61 (by decide) ?_
          refine lv_icmp_ne (tgt := 76) hx hb d_H_propose_63 (by decide) (fun h13 => ?_) (fun h13 => ?_)
          · have hF := it_f hF h13
            refine lv_aload_n hx hb d_H_propose_76 rfl (lv_at hl 0 rfl) ?_
            refine gf_O_7 hx hb hts hown hK hP h8.2 a_166 d_H_propose_77 ?_
            refine lv_aload_n hx hb d_H_propose_80 rfl (lv_at hl 0 rfl) ?_
            refine gf_O_6 hx hb hts hown hK hP h8.2 a_164 d_H_propose_81 ?_
            obtain ⟨u14, h15, hF⟩ := nm_u hF
            refine pf_R_3 hx hb hts hown hK hP hD hS h8.2 h15 a_117 d_H_propose_84 (fun H locs hP hS => ?_)
            refine lv_aload_n hx hb d_H_propose_87 rfl (lv_at hl 0 rfl) ?_
            refine gf_O_7 hx hb hts hown hK hP h8.2 a_166 d_H_propose_88 ?_
            refine lv_iconst (v := 0) hx hb d_H_propose_91 (by decide) ?_
            obtain ⟨u16, h17, hF⟩ := nm_u hF
            refine pf_R_6 hx hb hts hown hK hP hD hS h8.2 h17 a_123 d_H_propose_92 (fun H locs hP hS => ?_)
            refine lv_aload_n hx hb d_H_propose_95 rfl (lv_at hl 0 rfl) ?_
            refine lv_iconst (v := (-1)) hx hb d_H_propose_96 (by decide) ?_
            obtain ⟨u18, h19, hF⟩ := nm_u hF
            refine pf_O_6 hx hb hts hown hK hP hD hS h8.2 h19 a_164 d_H_propose_97 (fun H locs hP hS => ?_)
            refine lv_aload_n hx hb d_H_propose_100 rfl (lv_at hl 1 rfl) ?_
            refine lv_aload_n hx hb d_H_propose_101 rfl (lv_at hl 0 rfl) ?_
            refine lv_iconst (v := 0) hx hb d_H_propose_102 (by decide) ?_
            obtain ⟨r20, u22, h21, hF⟩ := bd_u hF
            refine k_vi (ad 0 0) [.ref (ad 4 (a1).toNatClampNeg), .int 0] [] ⟨hx, hb, hml, hown, hts⟩ (c_H_begin l D ad ca hD0 (z := z) (u := u18) h8.2 h21) (w_H_begin hts a_437 ⟨Nat.le_of_ble_eq_true rfl, Nat.le_of_ble_eq_true rfl⟩) (rv_H hK hP (by decide)) hP hK hS (fun _ h => h) rfl rfl hl.1 (Nat.le_of_ble_eq_true rfl) ⟨Nat.zero_le _, Nat.zero_le _⟩ d_H_propose_103 (fun H locs hP hS => ?_)
            refine lv_pop hx hb d_H_propose_106 rfl ?_
            refine lv_aload_n hx hb d_H_propose_107 rfl (lv_at hl 0 rfl) ?_
            refine gf_O_7 hx hb hts hown hK hP h8.2 a_166 d_H_propose_108 ?_
            refine gf_R_1 hx hb hts hown hK hP h8.2 a_113 d_H_propose_111 ?_
            obtain ⟨rfl, rfl, rfl⟩ := rt3 hF
            exact k_mono (fun t ht => ⟨fun _ => ht, fun h => absurd rfl h⟩) (k_wide (Nat.zero_le 1) (Nat.zero_le 6) (W.iret (v := (u22.1 11 (a1).toNatClampNeg 1)) hx hb hr (fun t ht hW => ⟨⟨_, (), rfl, rfl, vp_at ht hP⟩, hS.F ht⟩) hS.2.2 d_H_propose_114))
          · have hF := it_t hF h13
            obtain ⟨rfl, rfl, rfl⟩ := rt3 hF
            obtain ⟨q, hm⟩ := hTZ.2.2.1 (85, "failed, a run is on, or all numbers are decided") (by decide)
            exact k_mono (fun t ht => ⟨fun h => absurd h (by decide), fun _ => ⟨rfl, ht⟩⟩) (k_throw (cls := XN 2) (names := UP) hx hb htr hne hlocks hml hl.1 hown (by decide +kernel) (by decide +kernel) (hts _ a_421) (hts _ a_422) (hts _ a_13) (oat_87 hts hTZ) hm (by decide) (by decide) ⟨by decide, by decide⟩ rfl d_H_propose_66 d_H_propose_69 d_H_propose_70 d_H_propose_72 d_H_propose_75)
    · have hF := it_t hF h7
      obtain ⟨rfl, rfl, rfl⟩ := rt3 hF
      obtain ⟨q, hm⟩ := hTZ.2.2.1 (65, "no such office, or no draft with lines to propose") (by decide)
      exact k_mono (fun t ht => ⟨fun h => absurd h (by decide), fun _ => ⟨rfl, ht⟩⟩) (k_throw (cls := XN 1) (names := UP) hx hb htr hne hlocks hml hl.1 hown (by decide +kernel) (by decide +kernel) (hts _ a_353) (hts _ a_354) (hts _ a_12) (oat_67 hts hTZ) hm (by decide) (by decide) ⟨by decide, by decide⟩ rfl d_H_propose_23 d_H_propose_26 d_H_propose_27 d_H_propose_29 d_H_propose_32)
theorem c_H_propose (l : Launch) (htr : l.stackTraces = false) (D : va_G) (ad : Nat → Nat → Nat) (ca : Nat → ClassId) (hD0 : ∀ z u, va_D (AH ad) (wh ad ca z u)) {z : ZW} {u : XC} {a1 : Int32} {r0 : Int32} {u0 : XC}  (hF : F_H_propose u a1 = some (0, r0, u0)) : Met l y_H_propose ws_H_propose ({ frames := 6, cells := 1, slots := 6, locals := 101 } : Room) (va_Pc [.ref (ad 0 0), .int a1] (fun U => va_P D CLS (wh ad ca z u) U.heap ∧ va_K D CLS (TYH ca) U ∧ TZ R_H MSGS FW (AH ad) U)) (va_Qi (fun (r : Int32) (_ : Unit) => r = r0) (fun _ t => va_P D CLS (wh ad ca z u0) t.heap) (AH ad)) 1 6 (AH ad) := by
  refine Met.ofW (cc := b_H_propose) (maxL := 3) (ret := (some .int)) (by decide) rfl ?_
  intro p e s m args below meth c s₁ B hml hv
  obtain ⟨rfl, hP, hK, hTZ⟩ := hv
  have hx := B.exec
  have hb := B.bytes
  have hr := B.returns
  have hts : ∀ w ∈ ALL, w.before _ s = true := fun w h => atoms_spec (ws := ws_H_propose) B.pre w (List.mem_cons_of_mem _ h)
  have hown : s.vm.findClass R_H = some m.cls := findClass_of_methodNamed B.named
  have hlocks := B.notSynchronized
  have hne := B.noHandlers (atoms_spec (ws := ws_H_propose) B.pre _ List.mem_cons_self)
  have hD := hD0
  have hS : va_S (AH ad) s.heap s.heap [] := va_S.rf
  have hP : va_P D CLS (wh ad ca z u) s.heap := hP
  have hl := lv_entry ([.ref (ad 0 0), .int a1]) (n := 3) (Nat.le_of_ble_eq_true rfl)
  rw [lg_entry_eq]
  generalize (lg_sl ([.ref (ad 0 0), .int a1]) ++ List.replicate (3 - (lg_sl ([.ref (ad 0 0), .int a1])).length) Slot.unset).toArray = ls at hl ⊢
  have hl : lv_has ls 3 [(0, .ref (ad 0 0)), (1, .int a1)] := hl
  exact k_mono (fun t h => h.1 rfl) (wk_H_propose  hx hb hr hts hown hlocks hml htr hne hK hD0 hD hTZ hF hP hS hl)
theorem t_H_propose (l : Launch) (htr : l.stackTraces = false) (D : va_G) (ad : Nat → Nat → Nat) (ca : Nat → ClassId) (hD0 : ∀ z u, va_D (AH ad) (wh ad ca z u)) {z : ZW} {u : XC} {a1 : Int32} {r0 : Int32} {u0 : XC}  {k0 : Nat} (hk : k0 ≠ 0) (hF : F_H_propose u a1 = some (k0, r0, u0)) : MetT l y_H_propose ws_H_propose ({ frames := 6, cells := 1, slots := 6, locals := 101 } : Room) (va_Pc [.ref (ad 0 0), .int a1] (fun U => va_P D CLS (wh ad ca z u) U.heap ∧ va_K D CLS (TYH ca) U ∧ TZ R_H MSGS FW (AH ad) U)) (XN k0) := by
  refine MetT.ofW (cc := b_H_propose) (maxL := 3) (ret := (some .int)) (by decide) rfl ?_
  intro p e s m args below meth c s₁ B hml hv
  obtain ⟨rfl, hP, hK, hTZ⟩ := hv
  have hx := B.exec
  have hb := B.bytes
  have hr := B.returns
  have hts : ∀ w ∈ ALL, w.before _ s = true := fun w h => atoms_spec (ws := ws_H_propose) B.pre w (List.mem_cons_of_mem _ h)
  have hown : s.vm.findClass R_H = some m.cls := findClass_of_methodNamed B.named
  have hlocks := B.notSynchronized
  have hne := B.noHandlers (atoms_spec (ws := ws_H_propose) B.pre _ List.mem_cons_self)
  have hD := hD0
  have hS : va_S (AH ad) s.heap s.heap [] := va_S.rf
  have hP : va_P D CLS (wh ad ca z u) s.heap := hP
  have hl := lv_entry ([.ref (ad 0 0), .int a1]) (n := 3) (Nat.le_of_ble_eq_true rfl)
  rw [lg_entry_eq]
  generalize (lg_sl ([.ref (ad 0 0), .int a1]) ++ List.replicate (3 - (lg_sl ([.ref (ad 0 0), .int a1])).length) Slot.unset).toArray = ls at hl ⊢
  have hl : lv_has ls 3 [(0, .ref (ad 0 0)), (1, .int a1)] := hl
  exact k_mono (fun t h => (h.2 hk).2) (wk_H_propose  hx hb hr hts hown hlocks hml htr hne hK hD0 hD hTZ hF hP hS hl)
def ws_H_silent : List Cond := Cond.code y_H_silent b_H_silent 7 (some .int) :: ALL
theorem w_H_silent {R : Room} {s : State} {args : Array Value} {own : String} {index : Nat} (hts : ∀ w ∈ ALL, w.before args s = true) (hlk : Cond.methodLink own index y_H_silent ∈ ALL) (hR : (({ frames := 6, cells := 1, slots := 6, locals := 89 } : Room)).frames + 1 ≤ R.frames ∧ 8 + (7 + 11) + (({ frames := 6, cells := 1, slots := 6, locals := 89 } : Room)).locals ≤ R.locals) : CallW R s args own R_H index y_H_silent b_H_silent 7 (some .int) ws_H_silent ({ frames := 6, cells := 1, slots := 6, locals := 89 } : Room) 1 6 2 := ⟨callB_of 2 hts (good_c a_465) rfl rfl rfl (hts _ a_1) (hts _ hlk) (by decide +kernel) hR, hts _ a_463, hts _ a_464⟩
theorem d_H_silent_0 : decode b_H_silent 0 = .ok (.iload_n 1, 1) := by decide +kernel
theorem d_H_silent_1 : decode b_H_silent 1 = .ok (.invokestatic 36, 3) := by decide +kernel
theorem d_H_silent_4 : decode b_H_silent 4 = .ok (.ifCond .eq 10, 3) := by decide +kernel
theorem d_H_silent_7 : decode b_H_silent 7 = .ok (.iload_n 2, 1) := by decide +kernel
theorem d_H_silent_8 : decode b_H_silent 8 = .ok (.invokestatic 36, 3) := by decide +kernel
theorem d_H_silent_11 : decode b_H_silent 11 = .ok (.ifCond .ne 13, 3) := by decide +kernel
theorem d_H_silent_14 : decode b_H_silent 14 = .ok (.new 63, 3) := by decide +kernel
theorem d_H_silent_17 : decode b_H_silent 17 = .ok (.dup, 1) := by decide +kernel
theorem d_H_silent_18 : decode b_H_silent 18 = .ok (.ldc 101, 2) := by decide +kernel
theorem d_H_silent_20 : decode b_H_silent 20 = .ok (.invokespecial 67, 3) := by decide +kernel
theorem d_H_silent_23 : decode b_H_silent 23 = .ok (.athrow, 1) := by decide +kernel
theorem d_H_silent_24 : decode b_H_silent 24 = .ok (.aload_n 0, 1) := by decide +kernel
theorem d_H_silent_25 : decode b_H_silent 25 = .ok (.getfield 11, 3) := by decide +kernel
theorem d_H_silent_28 : decode b_H_silent 28 = .ok (.iload_n 1, 1) := by decide +kernel
theorem d_H_silent_29 : decode b_H_silent 29 = .ok (.aaload, 1) := by decide +kernel
theorem d_H_silent_30 : decode b_H_silent 30 = .ok (.getfield 70, 3) := by decide +kernel
theorem d_H_silent_33 : decode b_H_silent 33 = .ok (.astore_n 3, 1) := by decide +kernel
theorem d_H_silent_34 : decode b_H_silent 34 = .ok (.aload_n 0, 1) := by decide +kernel
theorem d_H_silent_35 : decode b_H_silent 35 = .ok (.getfield 11, 3) := by decide +kernel
theorem d_H_silent_38 : decode b_H_silent 38 = .ok (.iload_n 1, 1) := by decide +kernel
theorem d_H_silent_39 : decode b_H_silent 39 = .ok (.aaload, 1) := by decide +kernel
theorem d_H_silent_40 : decode b_H_silent 40 = .ok (.getfield 43, 3) := by decide +kernel
theorem d_H_silent_43 : decode b_H_silent 43 = .ok (.ifCond .ne 21, 3) := by decide +kernel
theorem d_H_silent_46 : decode b_H_silent 46 = .ok (.aload_n 3, 1) := by decide +kernel
theorem d_H_silent_47 : decode b_H_silent 47 = .ok (.getfield 74, 3) := by decide +kernel
theorem d_H_silent_50 : decode b_H_silent 50 = .ok (.ifCond .eq 14, 3) := by decide +kernel
theorem d_H_silent_53 : decode b_H_silent 53 = .ok (.aload_n 3, 1) := by decide +kernel
theorem d_H_silent_54 : decode b_H_silent 54 = .ok (.getfield 91, 3) := by decide +kernel
theorem d_H_silent_57 : decode b_H_silent 57 = .ok (.iload_n 2, 1) := by decide +kernel
theorem d_H_silent_58 : decode b_H_silent 58 = .ok (.invokestatic 103, 3) := by decide +kernel
theorem d_H_silent_61 : decode b_H_silent 61 = .ok (.ifCond .eq 13, 3) := by decide +kernel
theorem d_H_silent_64 : decode b_H_silent 64 = .ok (.new 83, 3) := by decide +kernel
theorem d_H_silent_67 : decode b_H_silent 67 = .ok (.dup, 1) := by decide +kernel
theorem d_H_silent_68 : decode b_H_silent 68 = .ok (.ldc 108, 2) := by decide +kernel
theorem d_H_silent_70 : decode b_H_silent 70 = .ok (.invokespecial 87, 3) := by decide +kernel
theorem d_H_silent_73 : decode b_H_silent 73 = .ok (.athrow, 1) := by decide +kernel
theorem d_H_silent_74 : decode b_H_silent 74 = .ok (.aload_n 3, 1) := by decide +kernel
theorem d_H_silent_75 : decode b_H_silent 75 = .ok (.getfield 91, 3) := by decide +kernel
theorem d_H_silent_78 : decode b_H_silent 78 = .ok (.iconst 1, 1) := by decide +kernel
theorem d_H_silent_79 : decode b_H_silent 79 = .ok (.iload_n 2, 1) := by decide +kernel
theorem d_H_silent_80 : decode b_H_silent 80 = .ok (.ishl, 1) := by decide +kernel
theorem d_H_silent_81 : decode b_H_silent 81 = .ok (.ior, 1) := by decide +kernel
theorem d_H_silent_82 : decode b_H_silent 82 = .ok (.istore 4, 2) := by decide +kernel
theorem d_H_silent_84 : decode b_H_silent 84 = .ok (.ldc 110, 2) := by decide +kernel
theorem d_H_silent_86 : decode b_H_silent 86 = .ok (.iload 4, 2) := by decide +kernel
theorem d_H_silent_88 : decode b_H_silent 88 = .ok (.iconst (-1), 1) := by decide +kernel
theorem d_H_silent_89 : decode b_H_silent 89 = .ok (.ixor, 1) := by decide +kernel
theorem d_H_silent_90 : decode b_H_silent 90 = .ok (.iand, 1) := by decide +kernel
theorem d_H_silent_91 : decode b_H_silent 91 = .ok (.iload_n 1, 1) := by decide +kernel
theorem d_H_silent_92 : decode b_H_silent 92 = .ok (.invokestatic 111, 3) := by decide +kernel
theorem d_H_silent_95 : decode b_H_silent 95 = .ok (.istore 5, 2) := by decide +kernel
theorem d_H_silent_97 : decode b_H_silent 97 = .ok (.iload 5, 2) := by decide +kernel
theorem d_H_silent_99 : decode b_H_silent 99 = .ok (.ifCond .ne 13, 3) := by decide +kernel
theorem d_H_silent_102 : decode b_H_silent 102 = .ok (.new 83, 3) := by decide +kernel
theorem d_H_silent_105 : decode b_H_silent 105 = .ok (.dup, 1) := by decide +kernel
theorem d_H_silent_106 : decode b_H_silent 106 = .ok (.ldc 115, 2) := by decide +kernel
theorem d_H_silent_108 : decode b_H_silent 108 = .ok (.invokespecial 87, 3) := by decide +kernel
theorem d_H_silent_111 : decode b_H_silent 111 = .ok (.athrow, 1) := by decide +kernel
theorem d_H_silent_112 : decode b_H_silent 112 = .ok (.iload 5, 2) := by decide +kernel
theorem d_H_silent_114 : decode b_H_silent 114 = .ok (.aload_n 3, 1) := by decide +kernel
theorem d_H_silent_115 : decode b_H_silent 115 = .ok (.getfield 117, 3) := by decide +kernel
theorem d_H_silent_118 : decode b_H_silent 118 = .ok (.iconst (-1), 1) := by decide +kernel
theorem d_H_silent_119 : decode b_H_silent 119 = .ok (.ixor, 1) := by decide +kernel
theorem d_H_silent_120 : decode b_H_silent 120 = .ok (.iand, 1) := by decide +kernel
theorem d_H_silent_121 : decode b_H_silent 121 = .ok (.istore 6, 2) := by decide +kernel
theorem d_H_silent_123 : decode b_H_silent 123 = .ok (.aload_n 3, 1) := by decide +kernel
theorem d_H_silent_124 : decode b_H_silent 124 = .ok (.iload 4, 2) := by decide +kernel
theorem d_H_silent_126 : decode b_H_silent 126 = .ok (.putfield 91, 3) := by decide +kernel
theorem d_H_silent_129 : decode b_H_silent 129 = .ok (.aload_n 3, 1) := by decide +kernel
theorem d_H_silent_130 : decode b_H_silent 130 = .ok (.iload 5, 2) := by decide +kernel
theorem d_H_silent_132 : decode b_H_silent 132 = .ok (.putfield 117, 3) := by decide +kernel
theorem d_H_silent_135 : decode b_H_silent 135 = .ok (.aload_n 0, 1) := by decide +kernel
theorem d_H_silent_136 : decode b_H_silent 136 = .ok (.aload_n 0, 1) := by decide +kernel
theorem d_H_silent_137 : decode b_H_silent 137 = .ok (.getfield 11, 3) := by decide +kernel
theorem d_H_silent_140 : decode b_H_silent 140 = .ok (.iload_n 1, 1) := by decide +kernel
theorem d_H_silent_141 : decode b_H_silent 141 = .ok (.aaload, 1) := by decide +kernel
theorem d_H_silent_142 : decode b_H_silent 142 = .ok (.iload 6, 2) := by decide +kernel
theorem d_H_silent_144 : decode b_H_silent 144 = .ok (.invokevirtual 120, 3) := by decide +kernel
theorem d_H_silent_147 : decode b_H_silent 147 = .ok (.ireturn, 1) := by decide +kernel
def F_H_silent (u : XC) (a1 : Int32) (a2 : Int32) : Option (Nat × Int32 × XC) := (bs_ (F_H_isOffice a1) fun r1 => (if r1 = 0 then some (1, 0, u) else (bs_ (F_H_isOffice a2) fun r4 => (if r4 = 0 then some (1, 0, u) else (if 0 ≤ a1 ∧ (a1).toNatClampNeg < 27 then (if 0 ≤ a1 ∧ (a1).toNatClampNeg < 27 then (if (u.1 4 (a1).toNatClampNeg 5) = 0 then (if (u.1 11 (a1).toNatClampNeg 0) = 0 then some (2, 0, u) else (bs_ (F_S_has (u.1 11 (a1).toNatClampNeg 6) a2) fun r11 => (if r11 = 0 then (nm_ ((u.1 11 (a1).toNatClampNeg 6) ||| (1 <<< (a2 &&& 31))) fun vv14 => (bs_ (F_S_pick (134217727 &&& (vv14 ^^^ (-1))) a1) fun r16 => (if r16 = 0 then some (2, 0, u) else (nm_ (r16 &&& ((u.1 11 (a1).toNatClampNeg 4) ^^^ (-1))) fun vv19 => (nm_ (pu u 11 (a1).toNatClampNeg 6 vv14) fun u21 => (nm_ (pu u21 11 (a1).toNatClampNeg 4 r16) fun u23 => (if 0 ≤ a1 ∧ (a1).toNatClampNeg < 27 then (bd_ (F_H_sendPhase u23 ((a1).toNatClampNeg) vv19) fun r26 u28 => some (0, r26, u28)) else none))))))) else some (2, 0, u)))) else some (2, 0, u)) else none) else none)))))
set_option maxHeartbeats 4000000 in
set_option maxRecDepth 100000 in
theorem wk_H_silent {p : Program} {l : Launch} {e : Env} {s : State} {m : MethodId} {args : Array Value} {below : List Frame} {meth : Method} {c : Code} {D : va_G} {ad : Nat → Nat → Nat} {ca : Nat → ClassId} {z : ZW} {u : XC} {a1 : Int32} {a2 : Int32} {k0 : Nat} {r0 : Int32} {u0 : XC}  (hx : p.tables.exec = Jvm.exec) (hb : c.code = b_H_silent) (hr : meth.sig.returnType = (some .int)) (hts : ∀ w ∈ ALL, w.before args s = true) (hown : s.vm.findClass R_H = some m.cls) (hlocks : meth.locks = false) (hml : c.maxLocals = 7) (htr : l.stackTraces = false) (hne : c.exceptionTable.isEmpty = true) (hK : va_K D CLS (TYH ca) s) (hD0 : ∀ z u, va_D (AH ad) (wh ad ca z u)) (hD : ∀ z u, va_D (AH ad) (wh ad ca z u)) (hTZ : TZ R_H MSGS FW (AH ad) s) (hF : F_H_silent u a1 a2 = some (k0, r0, u0)) (hP : va_P D CLS (wh ad ca z u) s.heap) (hS : va_S (AH ad) s.heap s.heap []) {ls : Array Slot} (hl : lv_has ls 7 [(0, .ref (ad 0 0)), (1, .int a1), (2, .int a2)]) : W p l e ({ frames := 6, cells := 1, slots := 6, locals := 89 } : Room) s m args below meth c s.heap [] 0 0 (Q2 k0 (MQ below (va_Qi (fun (r : Int32) (_ : Unit) => r = r0) (fun _ t => va_P D CLS (wh ad ca z u0) t.heap) (AH ad)) args s 1 6 (AH ad)) (u0 = u) (MT below (XN k0) args s)) (F0 m 0 ls []) := by
  unfold F_H_silent at hF
  refine lv_iload_n hx hb d_H_silent_0 rfl (lv_at hl 1 rfl) ?_
  obtain ⟨r1, h2, hF⟩ := bs_u hF
  refine k_sp [.int a1] [] ⟨hx, hb, hml, hown, hts⟩ (c_H_isOffice l  h2) (w_H_isOffice hts a_222 ⟨Nat.le_of_ble_eq_true rfl, Nat.le_of_ble_eq_true rfl⟩) rfl rfl hl.1 (Nat.le_of_ble_eq_true rfl) ⟨Nat.zero_le _, Nat.zero_le _⟩ d_H_silent_1 ?_
  refine lv_if_eq (tgt := 14) hx hb d_H_silent_4 (by decide) (fun h3 => ?_) (fun h3 => ?_)
  · have hF := it_t hF h3
    obtain ⟨rfl, rfl, rfl⟩ := rt3 hF
    obtain ⟨q, hm⟩ := hTZ.2.2.1 (101, "no such office") (by decide)
    exact k_mono (fun t ht => ⟨fun h => absurd h (by decide), fun _ => ⟨rfl, ht⟩⟩) (k_throw (cls := XN 1) (names := UP) hx hb htr hne hlocks hml hl.1 hown (by decide +kernel) (by decide +kernel) (hts _ a_353) (hts _ a_354) (hts _ a_12) (oat_67 hts hTZ) hm (by decide) (by decide) ⟨by decide, by decide⟩ rfl d_H_silent_14 d_H_silent_17 d_H_silent_18 d_H_silent_20 d_H_silent_23)
  · have hF := it_f hF h3
    refine lv_iload_n hx hb d_H_silent_7 rfl (lv_at hl 2 rfl) ?_
    obtain ⟨r4, h5, hF⟩ := bs_u hF
    refine k_sp [.int a2] [] ⟨hx, hb, hml, hown, hts⟩ (c_H_isOffice l  h5) (w_H_isOffice hts a_222 ⟨Nat.le_of_ble_eq_true rfl, Nat.le_of_ble_eq_true rfl⟩) rfl rfl hl.1 (Nat.le_of_ble_eq_true rfl) ⟨Nat.zero_le _, Nat.zero_le _⟩ d_H_silent_8 ?_
    refine lv_if_ne (tgt := 24) hx hb d_H_silent_11 (by decide) (fun h6 => ?_) (fun h6 => ?_)
    · have hF := it_f hF h6
      refine lv_aload_n hx hb d_H_silent_24 rfl (lv_at hl 0 rfl) ?_
      refine gf_H_0 hx hb hts hown hK hP (by decide) a_205 d_H_silent_25 ?_
      refine lv_iload_n hx hb d_H_silent_28 rfl (lv_at hl 1 rfl) ?_
      obtain ⟨h7, hF⟩ := as_u hF
      refine al_1 hx hb hK hP h7 d_H_silent_29 ?_
      refine gf_O_7 hx hb hts hown hK hP h7.2 a_166 d_H_silent_30 ?_
      refine lv_astore_n (lv' := [(3, .ref (ad 11 (a1).toNatClampNeg)), (0, .ref (ad 0 0)), (1, .int a1), (2, .int a2)]) hx hb d_H_silent_33 rfl hl (by decide) rfl (fun ls hl => ?_)
      refine lv_aload_n hx hb d_H_silent_34 rfl (lv_at hl 1 rfl) ?_
      refine gf_H_0 hx hb hts hown hK hP (by decide) a_205 d_H_silent_35 ?_
      refine lv_iload_n hx hb d_H_silent_38 rfl (lv_at hl 2 rfl) ?_
      obtain ⟨h8, hF⟩ := as_u hF
      refine al_1 hx hb hK hP h8 d_H_silent_39 ?_
      refine gf_O_5 hx hb hts hown hK hP h8.2 a_162 d_H_silent_40 ?_
      refine lv_if_ne (tgt := 64) hx hb d_H_silent_43 (by decide) (fun h9 => ?_) (fun h9 => ?_)
      · have hF := it_f hF h9
        obtain ⟨rfl, rfl, rfl⟩ := rt3 hF
        obtain ⟨q, hm⟩ := hTZ.2.2.1 (108, "failed, no run, or silent already") (by decide)
        exact k_mono (fun t ht => ⟨fun h => absurd h (by decide), fun _ => ⟨rfl, ht⟩⟩) (k_throw (cls := XN 2) (names := UP) hx hb htr hne hlocks hml hl.1 hown (by decide +kernel) (by decide +kernel) (hts _ a_421) (hts _ a_422) (hts _ a_13) (oat_87 hts hTZ) hm (by decide) (by decide) ⟨by decide, by decide⟩ rfl d_H_silent_64 d_H_silent_67 d_H_silent_68 d_H_silent_70 d_H_silent_73)
      · have hF := it_t hF h9
        refine lv_aload_n hx hb d_H_silent_46 rfl (lv_at hl 0 rfl) ?_
        refine gf_R_0 hx hb hts hown hK hP h7.2 a_111 d_H_silent_47 ?_
        refine lv_if_eq (tgt := 64) hx hb d_H_silent_50 (by decide) (fun h10 => ?_) (fun h10 => ?_)
        · have hF := it_t hF h10
          obtain ⟨rfl, rfl, rfl⟩ := rt3 hF
          obtain ⟨q, hm⟩ := hTZ.2.2.1 (108, "failed, no run, or silent already") (by decide)
          exact k_mono (fun t ht => ⟨fun h => absurd h (by decide), fun _ => ⟨rfl, ht⟩⟩) (k_throw (cls := XN 2) (names := UP) hx hb htr hne hlocks hml hl.1 hown (by decide +kernel) (by decide +kernel) (hts _ a_421) (hts _ a_422) (hts _ a_13) (oat_87 hts hTZ) hm (by decide) (by decide) ⟨by decide, by decide⟩ rfl d_H_silent_64 d_H_silent_67 d_H_silent_68 d_H_silent_70 d_H_silent_73)
        · have hF := it_f hF h10
          refine lv_aload_n hx hb d_H_silent_53 rfl (lv_at hl 0 rfl) ?_
          refine gf_R_6 hx hb hts hown hK hP h7.2 a_123 d_H_silent_54 ?_
          refine lv_iload_n hx hb d_H_silent_57 rfl (lv_at hl 3 rfl) ?_
          obtain ⟨r11, h12, hF⟩ := bs_u hF
          refine k_sp [.int (u.1 11 (a1).toNatClampNeg 6), .int a2] [] ⟨hx, hb, hml, hown, hts⟩ (c_S_has l  h12) (w_S_has hts a_449 ⟨Nat.le_of_ble_eq_true rfl, Nat.le_of_ble_eq_true rfl⟩) rfl rfl hl.1 (Nat.le_of_ble_eq_true rfl) ⟨Nat.zero_le _, Nat.zero_le _⟩ d_H_silent_58 ?_
          refine lv_if_eq (tgt := 74) hx hb d_H_silent_61 (by decide) (fun h13 => ?_) (fun h13 => ?_)
          · have hF := it_t hF h13
            refine lv_aload_n hx hb d_H_silent_74 rfl (lv_at hl 0 rfl) ?_
            refine gf_R_6 hx hb hts hown hK hP h7.2 a_123 d_H_silent_75 ?_
            refine lv_iconst (v := 1) hx hb d_H_silent_78 (by decide) ?_
            refine lv_iload_n hx hb d_H_silent_79 rfl (lv_at hl 3 rfl) ?_
            refine lv_ishl hx hb d_H_silent_80 ?_
            refine lv_ior hx hb d_H_silent_81 ?_
            refine lv_topi (fun vv14 h15 => ?_)
            have hF := nm_q hF h15
            refine lv_istore (lv' := [(4, .int vv14), (3, .ref (ad 11 (a1).toNatClampNeg)), (0, .ref (ad 0 0)), (1, .int a1), (2, .int a2)]) hx hb d_H_silent_82 hl (by decide) rfl (fun ls hl => ?_)
            refine lv_ldc (v := 134217727) hx hb hown (hts _ a_444) d_H_silent_84 ?_
            refine lv_iload hx hb d_H_silent_86 (lv_at hl 0 rfl) ?_
            refine lv_iconst (v := (-1)) hx hb d_H_silent_88 (by decide) ?_
            refine lv_ixor hx hb d_H_silent_89 ?_
            refine lv_iand hx hb d_H_silent_90 ?_
            refine lv_iload_n hx hb d_H_silent_91 rfl (lv_at hl 3 rfl) ?_
            obtain ⟨r16, h17, hF⟩ := bs_u hF
            refine k_sp [.int (134217727 &&& (vv14 ^^^ (-1))), .int a1] [] ⟨hx, hb, hml, hown, hts⟩ (c_S_pick l  h17) (w_S_pick hts a_303 ⟨Nat.le_of_ble_eq_true rfl, Nat.le_of_ble_eq_true rfl⟩) rfl rfl hl.1 (Nat.le_of_ble_eq_true rfl) ⟨Nat.zero_le _, Nat.zero_le _⟩ d_H_silent_92 ?_
            refine lv_istore (lv' := [(5, .int r16), (4, .int vv14), (3, .ref (ad 11 (a1).toNatClampNeg)), (0, .ref (ad 0 0)), (1, .int a1), (2, .int a2)]) hx hb d_H_silent_95 hl (by decide) rfl (fun ls hl => ?_)
            refine lv_iload hx hb d_H_silent_97 (lv_at hl 0 rfl) ?_
            refine lv_if_ne (tgt := 112) hx hb d_H_silent_99 (by decide) (fun h18 => ?_) (fun h18 => ?_)
            · have hF := it_f hF h18
              refine lv_iload hx hb d_H_silent_112 (lv_at hl 0 rfl) ?_
              refine lv_aload_n hx hb d_H_silent_114 rfl (lv_at hl 2 rfl) ?_
              refine gf_R_4 hx hb hts hown hK hP h7.2 a_119 d_H_silent_115 ?_
              refine lv_iconst (v := (-1)) hx hb d_H_silent_118 (by decide) ?_
              refine lv_ixor hx hb d_H_silent_119 ?_
              refine lv_iand hx hb d_H_silent_120 ?_
              refine lv_topi (fun vv19 h20 => ?_)
              have hF := nm_q hF h20
              refine lv_istore (lv' := [(6, .int vv19), (5, .int r16), (4, .int vv14), (3, .ref (ad 11 (a1).toNatClampNeg)), (0, .ref (ad 0 0)), (1, .int a1), (2, .int a2)]) hx hb d_H_silent_121 hl (by decide) rfl (fun ls hl => ?_)
              refine lv_aload_n hx hb d_H_silent_123 rfl (lv_at hl 3 rfl) ?_
              refine lv_iload hx hb d_H_silent_124 (lv_at hl 2 rfl) ?_
              obtain ⟨u21, h22, hF⟩ := nm_u hF
              refine pf_R_6 hx hb hts hown hK hP hD hS h7.2 h22 a_123 d_H_silent_126 (fun H locs hP hS => ?_)
              refine lv_aload_n hx hb d_H_silent_129 rfl (lv_at hl 3 rfl) ?_
              refine lv_iload hx hb d_H_silent_130 (lv_at hl 1 rfl) ?_
              obtain ⟨u23, h24, hF⟩ := nm_u hF
              refine pf_R_4 hx hb hts hown hK hP hD hS h7.2 h24 a_119 d_H_silent_132 (fun H locs hP hS => ?_)
              refine lv_aload_n hx hb d_H_silent_135 rfl (lv_at hl 4 rfl) ?_
              refine lv_aload_n hx hb d_H_silent_136 rfl (lv_at hl 4 rfl) ?_
              refine gf_H_0 hx hb hts hown hK hP (by decide) a_205 d_H_silent_137 ?_
              refine lv_iload_n hx hb d_H_silent_140 rfl (lv_at hl 5 rfl) ?_
              obtain ⟨h25, hF⟩ := as_u hF
              refine al_1 hx hb hK hP h25 d_H_silent_141 ?_
              refine lv_iload hx hb d_H_silent_142 (lv_at hl 0 rfl) ?_
              obtain ⟨r26, u28, h27, hF⟩ := bd_u hF
              refine k_vi (ad 0 0) [.ref (ad 4 (a1).toNatClampNeg), .int vv19] [] ⟨hx, hb, hml, hown, hts⟩ (c_H_sendPhase l D ad ca hD0 (z := z) (u := u23) h25.2 h27) (w_H_sendPhase hts a_445 ⟨Nat.le_of_ble_eq_true rfl, Nat.le_of_ble_eq_true rfl⟩) (rv_H hK hP (by decide)) hP hK hS (fun _ h => h) rfl rfl hl.1 (Nat.le_of_ble_eq_true rfl) ⟨Nat.zero_le _, Nat.zero_le _⟩ d_H_silent_144 (fun H locs hP hS => ?_)
              obtain ⟨rfl, rfl, rfl⟩ := rt3 hF
              exact k_mono (fun t ht => ⟨fun _ => ht, fun h => absurd rfl h⟩) (k_wide (Nat.zero_le 1) (Nat.zero_le 6) (W.iret (v := r26) hx hb hr (fun t ht hW => ⟨⟨_, (), rfl, rfl, vp_at ht hP⟩, hS.F ht⟩) hS.2.2 d_H_silent_147))
            · have hF := it_t hF h18
              obtain ⟨rfl, rfl, rfl⟩ := rt3 hF
              obtain ⟨q, hm⟩ := hTZ.2.2.1 (115, "there would be no choice") (by decide)
              exact k_mono (fun t ht => ⟨fun h => absurd h (by decide), fun _ => ⟨rfl, ht⟩⟩) (k_throw (cls := XN 2) (names := UP) hx hb htr hne hlocks hml hl.1 hown (by decide +kernel) (by decide +kernel) (hts _ a_421) (hts _ a_422) (hts _ a_13) (oat_87 hts hTZ) hm (by decide) (by decide) ⟨by decide, by decide⟩ rfl d_H_silent_102 d_H_silent_105 d_H_silent_106 d_H_silent_108 d_H_silent_111)
          · have hF := it_f hF h13
            obtain ⟨rfl, rfl, rfl⟩ := rt3 hF
            obtain ⟨q, hm⟩ := hTZ.2.2.1 (108, "failed, no run, or silent already") (by decide)
            exact k_mono (fun t ht => ⟨fun h => absurd h (by decide), fun _ => ⟨rfl, ht⟩⟩) (k_throw (cls := XN 2) (names := UP) hx hb htr hne hlocks hml hl.1 hown (by decide +kernel) (by decide +kernel) (hts _ a_421) (hts _ a_422) (hts _ a_13) (oat_87 hts hTZ) hm (by decide) (by decide) ⟨by decide, by decide⟩ rfl d_H_silent_64 d_H_silent_67 d_H_silent_68 d_H_silent_70 d_H_silent_73)
    · have hF := it_t hF h6
      obtain ⟨rfl, rfl, rfl⟩ := rt3 hF
      obtain ⟨q, hm⟩ := hTZ.2.2.1 (101, "no such office") (by decide)
      exact k_mono (fun t ht => ⟨fun h => absurd h (by decide), fun _ => ⟨rfl, ht⟩⟩) (k_throw (cls := XN 1) (names := UP) hx hb htr hne hlocks hml hl.1 hown (by decide +kernel) (by decide +kernel) (hts _ a_353) (hts _ a_354) (hts _ a_12) (oat_67 hts hTZ) hm (by decide) (by decide) ⟨by decide, by decide⟩ rfl d_H_silent_14 d_H_silent_17 d_H_silent_18 d_H_silent_20 d_H_silent_23)
theorem c_H_silent (l : Launch) (htr : l.stackTraces = false) (D : va_G) (ad : Nat → Nat → Nat) (ca : Nat → ClassId) (hD0 : ∀ z u, va_D (AH ad) (wh ad ca z u)) {z : ZW} {u : XC} {a1 : Int32} {a2 : Int32} {r0 : Int32} {u0 : XC}  (hF : F_H_silent u a1 a2 = some (0, r0, u0)) : Met l y_H_silent ws_H_silent ({ frames := 6, cells := 1, slots := 6, locals := 89 } : Room) (va_Pc [.ref (ad 0 0), .int a1, .int a2] (fun U => va_P D CLS (wh ad ca z u) U.heap ∧ va_K D CLS (TYH ca) U ∧ TZ R_H MSGS FW (AH ad) U)) (va_Qi (fun (r : Int32) (_ : Unit) => r = r0) (fun _ t => va_P D CLS (wh ad ca z u0) t.heap) (AH ad)) 1 6 (AH ad) := by
  refine Met.ofW (cc := b_H_silent) (maxL := 7) (ret := (some .int)) (by decide) rfl ?_
  intro p e s m args below meth c s₁ B hml hv
  obtain ⟨rfl, hP, hK, hTZ⟩ := hv
  have hx := B.exec
  have hb := B.bytes
  have hr := B.returns
  have hts : ∀ w ∈ ALL, w.before _ s = true := fun w h => atoms_spec (ws := ws_H_silent) B.pre w (List.mem_cons_of_mem _ h)
  have hown : s.vm.findClass R_H = some m.cls := findClass_of_methodNamed B.named
  have hlocks := B.notSynchronized
  have hne := B.noHandlers (atoms_spec (ws := ws_H_silent) B.pre _ List.mem_cons_self)
  have hD := hD0
  have hS : va_S (AH ad) s.heap s.heap [] := va_S.rf
  have hP : va_P D CLS (wh ad ca z u) s.heap := hP
  have hl := lv_entry ([.ref (ad 0 0), .int a1, .int a2]) (n := 7) (Nat.le_of_ble_eq_true rfl)
  rw [lg_entry_eq]
  generalize (lg_sl ([.ref (ad 0 0), .int a1, .int a2]) ++ List.replicate (7 - (lg_sl ([.ref (ad 0 0), .int a1, .int a2])).length) Slot.unset).toArray = ls at hl ⊢
  have hl : lv_has ls 7 [(0, .ref (ad 0 0)), (1, .int a1), (2, .int a2)] := hl
  exact k_mono (fun t h => h.1 rfl) (wk_H_silent  hx hb hr hts hown hlocks hml htr hne hK hD0 hD hTZ hF hP hS hl)
theorem t_H_silent (l : Launch) (htr : l.stackTraces = false) (D : va_G) (ad : Nat → Nat → Nat) (ca : Nat → ClassId) (hD0 : ∀ z u, va_D (AH ad) (wh ad ca z u)) {z : ZW} {u : XC} {a1 : Int32} {a2 : Int32} {r0 : Int32} {u0 : XC}  {k0 : Nat} (hk : k0 ≠ 0) (hF : F_H_silent u a1 a2 = some (k0, r0, u0)) : MetT l y_H_silent ws_H_silent ({ frames := 6, cells := 1, slots := 6, locals := 89 } : Room) (va_Pc [.ref (ad 0 0), .int a1, .int a2] (fun U => va_P D CLS (wh ad ca z u) U.heap ∧ va_K D CLS (TYH ca) U ∧ TZ R_H MSGS FW (AH ad) U)) (XN k0) := by
  refine MetT.ofW (cc := b_H_silent) (maxL := 7) (ret := (some .int)) (by decide) rfl ?_
  intro p e s m args below meth c s₁ B hml hv
  obtain ⟨rfl, hP, hK, hTZ⟩ := hv
  have hx := B.exec
  have hb := B.bytes
  have hr := B.returns
  have hts : ∀ w ∈ ALL, w.before _ s = true := fun w h => atoms_spec (ws := ws_H_silent) B.pre w (List.mem_cons_of_mem _ h)
  have hown : s.vm.findClass R_H = some m.cls := findClass_of_methodNamed B.named
  have hlocks := B.notSynchronized
  have hne := B.noHandlers (atoms_spec (ws := ws_H_silent) B.pre _ List.mem_cons_self)
  have hD := hD0
  have hS : va_S (AH ad) s.heap s.heap [] := va_S.rf
  have hP : va_P D CLS (wh ad ca z u) s.heap := hP
  have hl := lv_entry ([.ref (ad 0 0), .int a1, .int a2]) (n := 7) (Nat.le_of_ble_eq_true rfl)
  rw [lg_entry_eq]
  generalize (lg_sl ([.ref (ad 0 0), .int a1, .int a2]) ++ List.replicate (7 - (lg_sl ([.ref (ad 0 0), .int a1, .int a2])).length) Slot.unset).toArray = ls at hl ⊢
  have hl : lv_has ls 7 [(0, .ref (ad 0 0)), (1, .int a1), (2, .int a2)] := hl
  exact k_mono (fun t h => (h.2 hk).2) (wk_H_silent  hx hb hr hts hown hlocks hml htr hne hK hD0 hD hTZ hF hP hS hl)
def ws_H_resend : List Cond := Cond.code y_H_resend b_H_resend 3 (some .int) :: ALL
theorem w_H_resend {R : Room} {s : State} {args : Array Value} {own : String} {index : Nat} (hts : ∀ w ∈ ALL, w.before args s = true) (hlk : Cond.methodLink own index y_H_resend ∈ ALL) (hR : (({ frames := 6, cells := 1, slots := 6, locals := 89 } : Room)).frames + 1 ≤ R.frames ∧ 8 + (3 + 11) + (({ frames := 6, cells := 1, slots := 6, locals := 89 } : Room)).locals ≤ R.locals) : CallW R s args own R_H index y_H_resend b_H_resend 3 (some .int) ws_H_resend ({ frames := 6, cells := 1, slots := 6, locals := 89 } : Room) 1 6 1 := ⟨callB_of 1 hts (good_c a_475) rfl rfl rfl (hts _ a_1) (hts _ hlk) (by decide +kernel) hR, hts _ a_473, hts _ a_474⟩
theorem d_H_resend_0 : decode b_H_resend 0 = .ok (.iload_n 1, 1) := by decide +kernel
theorem d_H_resend_1 : decode b_H_resend 1 = .ok (.invokestatic 36, 3) := by decide +kernel
theorem d_H_resend_4 : decode b_H_resend 4 = .ok (.ifCond .ne 13, 3) := by decide +kernel
theorem d_H_resend_7 : decode b_H_resend 7 = .ok (.new 63, 3) := by decide +kernel
theorem d_H_resend_10 : decode b_H_resend 10 = .ok (.dup, 1) := by decide +kernel
theorem d_H_resend_11 : decode b_H_resend 11 = .ok (.ldc 101, 2) := by decide +kernel
theorem d_H_resend_13 : decode b_H_resend 13 = .ok (.invokespecial 67, 3) := by decide +kernel
theorem d_H_resend_16 : decode b_H_resend 16 = .ok (.athrow, 1) := by decide +kernel
theorem d_H_resend_17 : decode b_H_resend 17 = .ok (.aload_n 0, 1) := by decide +kernel
theorem d_H_resend_18 : decode b_H_resend 18 = .ok (.getfield 11, 3) := by decide +kernel
theorem d_H_resend_21 : decode b_H_resend 21 = .ok (.iload_n 1, 1) := by decide +kernel
theorem d_H_resend_22 : decode b_H_resend 22 = .ok (.aaload, 1) := by decide +kernel
theorem d_H_resend_23 : decode b_H_resend 23 = .ok (.getfield 70, 3) := by decide +kernel
theorem d_H_resend_26 : decode b_H_resend 26 = .ok (.astore_n 2, 1) := by decide +kernel
theorem d_H_resend_27 : decode b_H_resend 27 = .ok (.aload_n 0, 1) := by decide +kernel
theorem d_H_resend_28 : decode b_H_resend 28 = .ok (.getfield 11, 3) := by decide +kernel
theorem d_H_resend_31 : decode b_H_resend 31 = .ok (.iload_n 1, 1) := by decide +kernel
theorem d_H_resend_32 : decode b_H_resend 32 = .ok (.aaload, 1) := by decide +kernel
theorem d_H_resend_33 : decode b_H_resend 33 = .ok (.getfield 43, 3) := by decide +kernel
theorem d_H_resend_36 : decode b_H_resend 36 = .ok (.ifCond .ne 10, 3) := by decide +kernel
theorem d_H_resend_39 : decode b_H_resend 39 = .ok (.aload_n 2, 1) := by decide +kernel
theorem d_H_resend_40 : decode b_H_resend 40 = .ok (.getfield 74, 3) := by decide +kernel
theorem d_H_resend_43 : decode b_H_resend 43 = .ok (.ifCond .ne 13, 3) := by decide +kernel
theorem d_H_resend_46 : decode b_H_resend 46 = .ok (.new 83, 3) := by decide +kernel
theorem d_H_resend_49 : decode b_H_resend 49 = .ok (.dup, 1) := by decide +kernel
theorem d_H_resend_50 : decode b_H_resend 50 = .ok (.ldc 123, 2) := by decide +kernel
theorem d_H_resend_52 : decode b_H_resend 52 = .ok (.invokespecial 87, 3) := by decide +kernel
theorem d_H_resend_55 : decode b_H_resend 55 = .ok (.athrow, 1) := by decide +kernel
theorem d_H_resend_56 : decode b_H_resend 56 = .ok (.aload_n 0, 1) := by decide +kernel
theorem d_H_resend_57 : decode b_H_resend 57 = .ok (.aload_n 0, 1) := by decide +kernel
theorem d_H_resend_58 : decode b_H_resend 58 = .ok (.getfield 11, 3) := by decide +kernel
theorem d_H_resend_61 : decode b_H_resend 61 = .ok (.iload_n 1, 1) := by decide +kernel
theorem d_H_resend_62 : decode b_H_resend 62 = .ok (.aaload, 1) := by decide +kernel
theorem d_H_resend_63 : decode b_H_resend 63 = .ok (.aload_n 2, 1) := by decide +kernel
theorem d_H_resend_64 : decode b_H_resend 64 = .ok (.getfield 117, 3) := by decide +kernel
theorem d_H_resend_67 : decode b_H_resend 67 = .ok (.aload_n 2, 1) := by decide +kernel
theorem d_H_resend_68 : decode b_H_resend 68 = .ok (.getfield 125, 3) := by decide +kernel
theorem d_H_resend_71 : decode b_H_resend 71 = .ok (.iconst (-1), 1) := by decide +kernel
theorem d_H_resend_72 : decode b_H_resend 72 = .ok (.ixor, 1) := by decide +kernel
theorem d_H_resend_73 : decode b_H_resend 73 = .ok (.iand, 1) := by decide +kernel
theorem d_H_resend_74 : decode b_H_resend 74 = .ok (.invokevirtual 120, 3) := by decide +kernel
theorem d_H_resend_77 : decode b_H_resend 77 = .ok (.ireturn, 1) := by decide +kernel
def F_H_resend (u : XC) (a1 : Int32) : Option (Nat × Int32 × XC) := (bs_ (F_H_isOffice a1) fun r1 => (if r1 = 0 then some (1, 0, u) else (if 0 ≤ a1 ∧ (a1).toNatClampNeg < 27 then (if 0 ≤ a1 ∧ (a1).toNatClampNeg < 27 then (if (u.1 4 (a1).toNatClampNeg 5) = 0 then (if (u.1 11 (a1).toNatClampNeg 0) = 0 then some (2, 0, u) else (if 0 ≤ a1 ∧ (a1).toNatClampNeg < 27 then (bd_ (F_H_sendPhase u ((a1).toNatClampNeg) ((u.1 11 (a1).toNatClampNeg 4) &&& ((u.1 11 (a1).toNatClampNeg 5) ^^^ (-1)))) fun r9 u11 => some (0, r9, u11)) else none)) else some (2, 0, u)) else none) else none)))
set_option maxHeartbeats 4000000 in
set_option maxRecDepth 100000 in
theorem wk_H_resend {p : Program} {l : Launch} {e : Env} {s : State} {m : MethodId} {args : Array Value} {below : List Frame} {meth : Method} {c : Code} {D : va_G} {ad : Nat → Nat → Nat} {ca : Nat → ClassId} {z : ZW} {u : XC} {a1 : Int32} {k0 : Nat} {r0 : Int32} {u0 : XC}  (hx : p.tables.exec = Jvm.exec) (hb : c.code = b_H_resend) (hr : meth.sig.returnType = (some .int)) (hts : ∀ w ∈ ALL, w.before args s = true) (hown : s.vm.findClass R_H = some m.cls) (hlocks : meth.locks = false) (hml : c.maxLocals = 3) (htr : l.stackTraces = false) (hne : c.exceptionTable.isEmpty = true) (hK : va_K D CLS (TYH ca) s) (hD0 : ∀ z u, va_D (AH ad) (wh ad ca z u)) (hD : ∀ z u, va_D (AH ad) (wh ad ca z u)) (hTZ : TZ R_H MSGS FW (AH ad) s) (hF : F_H_resend u a1 = some (k0, r0, u0)) (hP : va_P D CLS (wh ad ca z u) s.heap) (hS : va_S (AH ad) s.heap s.heap []) {ls : Array Slot} (hl : lv_has ls 3 [(0, .ref (ad 0 0)), (1, .int a1)]) : W p l e ({ frames := 6, cells := 1, slots := 6, locals := 89 } : Room) s m args below meth c s.heap [] 0 0 (Q2 k0 (MQ below (va_Qi (fun (r : Int32) (_ : Unit) => r = r0) (fun _ t => va_P D CLS (wh ad ca z u0) t.heap) (AH ad)) args s 1 6 (AH ad)) (u0 = u) (MT below (XN k0) args s)) (F0 m 0 ls []) := by
  unfold F_H_resend at hF
  refine lv_iload_n hx hb d_H_resend_0 rfl (lv_at hl 1 rfl) ?_
  obtain ⟨r1, h2, hF⟩ := bs_u hF
  refine k_sp [.int a1] [] ⟨hx, hb, hml, hown, hts⟩ (c_H_isOffice l  h2) (w_H_isOffice hts a_222 ⟨Nat.le_of_ble_eq_true rfl, Nat.le_of_ble_eq_true rfl⟩) rfl rfl hl.1 (Nat.le_of_ble_eq_true rfl) ⟨Nat.zero_le _, Nat.zero_le _⟩ d_H_resend_1 ?_
  refine lv_if_ne (tgt := 17) hx hb d_H_resend_4 (by decide) (fun h3 => ?_) (fun h3 => ?_)
  · have hF := it_f hF h3
    refine lv_aload_n hx hb d_H_resend_17 rfl (lv_at hl 0 rfl) ?_
    refine gf_H_0 hx hb hts hown hK hP (by decide) a_205 d_H_resend_18 ?_
    refine lv_iload_n hx hb d_H_resend_21 rfl (lv_at hl 1 rfl) ?_
    obtain ⟨h4, hF⟩ := as_u hF
    refine al_1 hx hb hK hP h4 d_H_resend_22 ?_
    refine gf_O_7 hx hb hts hown hK hP h4.2 a_166 d_H_resend_23 ?_
    refine lv_astore_n (lv' := [(2, .ref (ad 11 (a1).toNatClampNeg)), (0, .ref (ad 0 0)), (1, .int a1)]) hx hb d_H_resend_26 rfl hl (by decide) rfl (fun ls hl => ?_)
    refine lv_aload_n hx hb d_H_resend_27 rfl (lv_at hl 1 rfl) ?_
    refine gf_H_0 hx hb hts hown hK hP (by decide) a_205 d_H_resend_28 ?_
    refine lv_iload_n hx hb d_H_resend_31 rfl (lv_at hl 2 rfl) ?_
    obtain ⟨h5, hF⟩ := as_u hF
    refine al_1 hx hb hK hP h5 d_H_resend_32 ?_
    refine gf_O_5 hx hb hts hown hK hP h5.2 a_162 d_H_resend_33 ?_
    refine lv_if_ne (tgt := 46) hx hb d_H_resend_36 (by decide) (fun h6 => ?_) (fun h6 => ?_)
    · have hF := it_f hF h6
      obtain ⟨rfl, rfl, rfl⟩ := rt3 hF
      obtain ⟨q, hm⟩ := hTZ.2.2.1 (123, "failed, or no run") (by decide)
      exact k_mono (fun t ht => ⟨fun h => absurd h (by decide), fun _ => ⟨rfl, ht⟩⟩) (k_throw (cls := XN 2) (names := UP) hx hb htr hne hlocks hml hl.1 hown (by decide +kernel) (by decide +kernel) (hts _ a_421) (hts _ a_422) (hts _ a_13) (oat_87 hts hTZ) hm (by decide) (by decide) ⟨by decide, by decide⟩ rfl d_H_resend_46 d_H_resend_49 d_H_resend_50 d_H_resend_52 d_H_resend_55)
    · have hF := it_t hF h6
      refine lv_aload_n hx hb d_H_resend_39 rfl (lv_at hl 0 rfl) ?_
      refine gf_R_0 hx hb hts hown hK hP h4.2 a_111 d_H_resend_40 ?_
      refine lv_if_ne (tgt := 56) hx hb d_H_resend_43 (by decide) (fun h7 => ?_) (fun h7 => ?_)
      · have hF := it_f hF h7
        refine lv_aload_n hx hb d_H_resend_56 rfl (lv_at hl 1 rfl) ?_
        refine lv_aload_n hx hb d_H_resend_57 rfl (lv_at hl 1 rfl) ?_
        refine gf_H_0 hx hb hts hown hK hP (by decide) a_205 d_H_resend_58 ?_
        refine lv_iload_n hx hb d_H_resend_61 rfl (lv_at hl 2 rfl) ?_
        obtain ⟨h8, hF⟩ := as_u hF
        refine al_1 hx hb hK hP h8 d_H_resend_62 ?_
        refine lv_aload_n hx hb d_H_resend_63 rfl (lv_at hl 0 rfl) ?_
        refine gf_R_4 hx hb hts hown hK hP h4.2 a_119 d_H_resend_64 ?_
        refine lv_aload_n hx hb d_H_resend_67 rfl (lv_at hl 0 rfl) ?_
        refine gf_R_5 hx hb hts hown hK hP h4.2 a_121 d_H_resend_68 ?_
        refine lv_iconst (v := (-1)) hx hb d_H_resend_71 (by decide) ?_
        refine lv_ixor hx hb d_H_resend_72 ?_
        refine lv_iand hx hb d_H_resend_73 ?_
        obtain ⟨r9, u11, h10, hF⟩ := bd_u hF
        refine k_vi (ad 0 0) [.ref (ad 4 (a1).toNatClampNeg), .int ((u.1 11 (a1).toNatClampNeg 4) &&& ((u.1 11 (a1).toNatClampNeg 5) ^^^ (-1)))] [] ⟨hx, hb, hml, hown, hts⟩ (c_H_sendPhase l D ad ca hD0 (z := z) (u := u) h8.2 h10) (w_H_sendPhase hts a_445 ⟨Nat.le_of_ble_eq_true rfl, Nat.le_of_ble_eq_true rfl⟩) (rv_H hK hP (by decide)) hP hK hS (fun _ h => h) rfl rfl hl.1 (Nat.le_of_ble_eq_true rfl) ⟨Nat.zero_le _, Nat.zero_le _⟩ d_H_resend_74 (fun H locs hP hS => ?_)
        obtain ⟨rfl, rfl, rfl⟩ := rt3 hF
        exact k_mono (fun t ht => ⟨fun _ => ht, fun h => absurd rfl h⟩) (k_wide (Nat.zero_le 1) (Nat.zero_le 6) (W.iret (v := r9) hx hb hr (fun t ht hW => ⟨⟨_, (), rfl, rfl, vp_at ht hP⟩, hS.F ht⟩) hS.2.2 d_H_resend_77))
      · have hF := it_t hF h7
        obtain ⟨rfl, rfl, rfl⟩ := rt3 hF
        obtain ⟨q, hm⟩ := hTZ.2.2.1 (123, "failed, or no run") (by decide)
        exact k_mono (fun t ht => ⟨fun h => absurd h (by decide), fun _ => ⟨rfl, ht⟩⟩) (k_throw (cls := XN 2) (names := UP) hx hb htr hne hlocks hml hl.1 hown (by decide +kernel) (by decide +kernel) (hts _ a_421) (hts _ a_422) (hts _ a_13) (oat_87 hts hTZ) hm (by decide) (by decide) ⟨by decide, by decide⟩ rfl d_H_resend_46 d_H_resend_49 d_H_resend_50 d_H_resend_52 d_H_resend_55)
  · have hF := it_t hF h3
    obtain ⟨rfl, rfl, rfl⟩ := rt3 hF
    obtain ⟨q, hm⟩ := hTZ.2.2.1 (101, "no such office") (by decide)
    exact k_mono (fun t ht => ⟨fun h => absurd h (by decide), fun _ => ⟨rfl, ht⟩⟩) (k_throw (cls := XN 1) (names := UP) hx hb htr hne hlocks hml hl.1 hown (by decide +kernel) (by decide +kernel) (hts _ a_353) (hts _ a_354) (hts _ a_12) (oat_67 hts hTZ) hm (by decide) (by decide) ⟨by decide, by decide⟩ rfl d_H_resend_7 d_H_resend_10 d_H_resend_11 d_H_resend_13 d_H_resend_16)
theorem c_H_resend (l : Launch) (htr : l.stackTraces = false) (D : va_G) (ad : Nat → Nat → Nat) (ca : Nat → ClassId) (hD0 : ∀ z u, va_D (AH ad) (wh ad ca z u)) {z : ZW} {u : XC} {a1 : Int32} {r0 : Int32} {u0 : XC}  (hF : F_H_resend u a1 = some (0, r0, u0)) : Met l y_H_resend ws_H_resend ({ frames := 6, cells := 1, slots := 6, locals := 89 } : Room) (va_Pc [.ref (ad 0 0), .int a1] (fun U => va_P D CLS (wh ad ca z u) U.heap ∧ va_K D CLS (TYH ca) U ∧ TZ R_H MSGS FW (AH ad) U)) (va_Qi (fun (r : Int32) (_ : Unit) => r = r0) (fun _ t => va_P D CLS (wh ad ca z u0) t.heap) (AH ad)) 1 6 (AH ad) := by
  refine Met.ofW (cc := b_H_resend) (maxL := 3) (ret := (some .int)) (by decide) rfl ?_
  intro p e s m args below meth c s₁ B hml hv
  obtain ⟨rfl, hP, hK, hTZ⟩ := hv
  have hx := B.exec
  have hb := B.bytes
  have hr := B.returns
  have hts : ∀ w ∈ ALL, w.before _ s = true := fun w h => atoms_spec (ws := ws_H_resend) B.pre w (List.mem_cons_of_mem _ h)
  have hown : s.vm.findClass R_H = some m.cls := findClass_of_methodNamed B.named
  have hlocks := B.notSynchronized
  have hne := B.noHandlers (atoms_spec (ws := ws_H_resend) B.pre _ List.mem_cons_self)
  have hD := hD0
  have hS : va_S (AH ad) s.heap s.heap [] := va_S.rf
  have hP : va_P D CLS (wh ad ca z u) s.heap := hP
  have hl := lv_entry ([.ref (ad 0 0), .int a1]) (n := 3) (Nat.le_of_ble_eq_true rfl)
  rw [lg_entry_eq]
  generalize (lg_sl ([.ref (ad 0 0), .int a1]) ++ List.replicate (3 - (lg_sl ([.ref (ad 0 0), .int a1])).length) Slot.unset).toArray = ls at hl ⊢
  have hl : lv_has ls 3 [(0, .ref (ad 0 0)), (1, .int a1)] := hl
  exact k_mono (fun t h => h.1 rfl) (wk_H_resend  hx hb hr hts hown hlocks hml htr hne hK hD0 hD hTZ hF hP hS hl)
theorem t_H_resend (l : Launch) (htr : l.stackTraces = false) (D : va_G) (ad : Nat → Nat → Nat) (ca : Nat → ClassId) (hD0 : ∀ z u, va_D (AH ad) (wh ad ca z u)) {z : ZW} {u : XC} {a1 : Int32} {r0 : Int32} {u0 : XC}  {k0 : Nat} (hk : k0 ≠ 0) (hF : F_H_resend u a1 = some (k0, r0, u0)) : MetT l y_H_resend ws_H_resend ({ frames := 6, cells := 1, slots := 6, locals := 89 } : Room) (va_Pc [.ref (ad 0 0), .int a1] (fun U => va_P D CLS (wh ad ca z u) U.heap ∧ va_K D CLS (TYH ca) U ∧ TZ R_H MSGS FW (AH ad) U)) (XN k0) := by
  refine MetT.ofW (cc := b_H_resend) (maxL := 3) (ret := (some .int)) (by decide) rfl ?_
  intro p e s m args below meth c s₁ B hml hv
  obtain ⟨rfl, hP, hK, hTZ⟩ := hv
  have hx := B.exec
  have hb := B.bytes
  have hr := B.returns
  have hts : ∀ w ∈ ALL, w.before _ s = true := fun w h => atoms_spec (ws := ws_H_resend) B.pre w (List.mem_cons_of_mem _ h)
  have hown : s.vm.findClass R_H = some m.cls := findClass_of_methodNamed B.named
  have hlocks := B.notSynchronized
  have hne := B.noHandlers (atoms_spec (ws := ws_H_resend) B.pre _ List.mem_cons_self)
  have hD := hD0
  have hS : va_S (AH ad) s.heap s.heap [] := va_S.rf
  have hP : va_P D CLS (wh ad ca z u) s.heap := hP
  have hl := lv_entry ([.ref (ad 0 0), .int a1]) (n := 3) (Nat.le_of_ble_eq_true rfl)
  rw [lg_entry_eq]
  generalize (lg_sl ([.ref (ad 0 0), .int a1]) ++ List.replicate (3 - (lg_sl ([.ref (ad 0 0), .int a1])).length) Slot.unset).toArray = ls at hl ⊢
  have hl : lv_has ls 3 [(0, .ref (ad 0 0)), (1, .int a1)] := hl
  exact k_mono (fun t h => (h.2 hk).2) (wk_H_resend  hx hb hr hts hown hlocks hml htr hne hK hD0 hD hTZ hF hP hS hl)
def ws_H_spread : List Cond := Cond.code y_H_spread b_H_spread 5 (some .int) :: ALL
theorem w_H_spread {R : Room} {s : State} {args : Array Value} {own : String} {index : Nat} (hts : ∀ w ∈ ALL, w.before args s = true) (hlk : Cond.methodLink own index y_H_spread ∈ ALL) (hR : (({ frames := 6, cells := 1, slots := 6, locals := 89 } : Room)).frames + 1 ≤ R.frames ∧ 8 + (5 + 11) + (({ frames := 6, cells := 1, slots := 6, locals := 89 } : Room)).locals ≤ R.locals) : CallW R s args own R_H index y_H_spread b_H_spread 5 (some .int) ws_H_spread ({ frames := 6, cells := 1, slots := 6, locals := 89 } : Room) 1 6 1 := ⟨callB_of 1 hts (good_c a_483) rfl rfl rfl (hts _ a_1) (hts _ hlk) (by decide +kernel) hR, hts _ a_481, hts _ a_482⟩
theorem d_H_spread_0 : decode b_H_spread 0 = .ok (.iload_n 1, 1) := by decide +kernel
theorem d_H_spread_1 : decode b_H_spread 1 = .ok (.invokestatic 36, 3) := by decide +kernel
theorem d_H_spread_4 : decode b_H_spread 4 = .ok (.ifCond .ne 13, 3) := by decide +kernel
theorem d_H_spread_7 : decode b_H_spread 7 = .ok (.new 63, 3) := by decide +kernel
theorem d_H_spread_10 : decode b_H_spread 10 = .ok (.dup, 1) := by decide +kernel
theorem d_H_spread_11 : decode b_H_spread 11 = .ok (.ldc 101, 2) := by decide +kernel
theorem d_H_spread_13 : decode b_H_spread 13 = .ok (.invokespecial 67, 3) := by decide +kernel
theorem d_H_spread_16 : decode b_H_spread 16 = .ok (.athrow, 1) := by decide +kernel
theorem d_H_spread_17 : decode b_H_spread 17 = .ok (.aload_n 0, 1) := by decide +kernel
theorem d_H_spread_18 : decode b_H_spread 18 = .ok (.getfield 11, 3) := by decide +kernel
theorem d_H_spread_21 : decode b_H_spread 21 = .ok (.iload_n 1, 1) := by decide +kernel
theorem d_H_spread_22 : decode b_H_spread 22 = .ok (.aaload, 1) := by decide +kernel
theorem d_H_spread_23 : decode b_H_spread 23 = .ok (.astore_n 2, 1) := by decide +kernel
theorem d_H_spread_24 : decode b_H_spread 24 = .ok (.aload_n 2, 1) := by decide +kernel
theorem d_H_spread_25 : decode b_H_spread 25 = .ok (.getfield 43, 3) := by decide +kernel
theorem d_H_spread_28 : decode b_H_spread 28 = .ok (.ifCond .eq 13, 3) := by decide +kernel
theorem d_H_spread_31 : decode b_H_spread 31 = .ok (.new 83, 3) := by decide +kernel
theorem d_H_spread_34 : decode b_H_spread 34 = .ok (.dup, 1) := by decide +kernel
theorem d_H_spread_35 : decode b_H_spread 35 = .ok (.ldc 128, 2) := by decide +kernel
theorem d_H_spread_37 : decode b_H_spread 37 = .ok (.invokespecial 87, 3) := by decide +kernel
theorem d_H_spread_40 : decode b_H_spread 40 = .ok (.athrow, 1) := by decide +kernel
theorem d_H_spread_41 : decode b_H_spread 41 = .ok (.iconst 0, 1) := by decide +kernel
theorem d_H_spread_42 : decode b_H_spread 42 = .ok (.istore_n 3, 1) := by decide +kernel
theorem d_H_spread_43 : decode b_H_spread 43 = .ok (.iconst 0, 1) := by decide +kernel
theorem d_H_spread_44 : decode b_H_spread 44 = .ok (.istore 4, 2) := by decide +kernel
theorem d_H_spread_46 : decode b_H_spread 46 = .ok (.iload 4, 2) := by decide +kernel
theorem d_H_spread_48 : decode b_H_spread 48 = .ok (.bipush 6, 2) := by decide +kernel
theorem d_H_spread_50 : decode b_H_spread 50 = .ok (.if_icmp .ge 30, 3) := by decide +kernel
theorem d_H_spread_53 : decode b_H_spread 53 = .ok (.aload_n 2, 1) := by decide +kernel
theorem d_H_spread_54 : decode b_H_spread 54 = .ok (.getfield 129, 3) := by decide +kernel
theorem d_H_spread_57 : decode b_H_spread 57 = .ok (.iload 4, 2) := by decide +kernel
theorem d_H_spread_59 : decode b_H_spread 59 = .ok (.iaload, 1) := by decide +kernel
theorem d_H_spread_60 : decode b_H_spread 60 = .ok (.iconst (-1), 1) := by decide +kernel
theorem d_H_spread_61 : decode b_H_spread 61 = .ok (.if_icmp .eq 13, 3) := by decide +kernel
theorem d_H_spread_64 : decode b_H_spread 64 = .ok (.iload_n 3, 1) := by decide +kernel
theorem d_H_spread_65 : decode b_H_spread 65 = .ok (.aload_n 0, 1) := by decide +kernel
theorem d_H_spread_66 : decode b_H_spread 66 = .ok (.aload_n 2, 1) := by decide +kernel
theorem d_H_spread_67 : decode b_H_spread 67 = .ok (.iload 4, 2) := by decide +kernel
theorem d_H_spread_69 : decode b_H_spread 69 = .ok (.invokevirtual 133, 3) := by decide +kernel
theorem d_H_spread_72 : decode b_H_spread 72 = .ok (.iadd, 1) := by decide +kernel
theorem d_H_spread_73 : decode b_H_spread 73 = .ok (.istore_n 3, 1) := by decide +kernel
theorem d_H_spread_74 : decode b_H_spread 74 = .ok (.iinc 4 1, 3) := by decide +kernel
theorem d_H_spread_77 : decode b_H_spread 77 = .ok (.goto (-31), 3) := by decide +kernel
theorem d_H_spread_80 : decode b_H_spread 80 = .ok (.iload_n 3, 1) := by decide +kernel
theorem d_H_spread_81 : decode b_H_spread 81 = .ok (.ireturn, 1) := by decide +kernel
def Fl_H_spread_46  : Nat → XC → Nat → Int32 → Int32 → Option (Nat × Int32 × XC)
  | 0, _, _, _, _ => none
  | n + 1, u, y2, x3, x4 => (if 6 ≤ x4 then some (0, x3, u) else (if 0 ≤ x4 ∧ (x4).toNatClampNeg < 6 then (if (u.1 10 y2 (x4).toNatClampNeg) = (-1) then (Fl_H_spread_46 n) u y2 x3 (x4 + 1) else (bd_ (F_H_tellNeighbours u y2 x4) fun r9 u11 => (Fl_H_spread_46 n) u11 y2 (x3 + r9) (x4 + 1))) else none))
def F_H_spread (u : XC) (a1 : Int32) : Option (Nat × Int32 × XC) := (bs_ (F_H_isOffice a1) fun r1 => (if r1 = 0 then some (1, 0, u) else (if 0 ≤ a1 ∧ (a1).toNatClampNeg < 27 then (if (u.1 4 (a1).toNatClampNeg 5) = 0 then Fl_H_spread_46  200 u ((a1).toNatClampNeg) 0 0 else some (2, 0, u)) else none)))
set_option maxHeartbeats 4000000 in
set_option maxRecDepth 100000 in
theorem lp_H_spread_46 {p : Program} {l : Launch} {e : Env} {s : State} {m : MethodId} {args : Array Value} {below : List Frame} {meth : Method} {c : Code} {D : va_G} {ad : Nat → Nat → Nat} {ca : Nat → ClassId} {z : ZW} {u00 : XC} (hx : p.tables.exec = Jvm.exec) (hb : c.code = b_H_spread) (hr : meth.sig.returnType = (some .int)) (hts : ∀ w ∈ ALL, w.before args s = true) (hown : s.vm.findClass R_H = some m.cls) (hlocks : meth.locks = false) (hml : c.maxLocals = 5) (hK : va_K D CLS (TYH ca) s) (hD0 : ∀ z u, va_D (AH ad) (wh ad ca z u)) (hD : ∀ z u, va_D (AH ad) (wh ad ca z u))  : ∀ (n : Nat), ∀ (u : XC) (y2 : Nat) (x3 : Int32) (x4 : Int32) (hy2 : y2 < 27) (k0 : Nat) (r0 : Int32) (u0 : XC), Fl_H_spread_46  n u y2 x3 x4 = some (k0, r0, u0) → ∀ (H : Heap) (locs : List Loc) (ls : Array Slot), va_P D CLS (wh ad ca z u) H → va_S (AH ad) s.heap H locs → lv_has ls 5 [(0, .ref (ad 0 0)), (2, .ref (ad 4 y2)), (3, .int x3), (4, .int x4)] → W p l e ({ frames := 6, cells := 1, slots := 6, locals := 89 } : Room) s m args below meth c H locs 0 0 (Q2 k0 (MQ below (va_Qi (fun (r : Int32) (_ : Unit) => r = r0) (fun _ t => va_P D CLS (wh ad ca z u0) t.heap) (AH ad)) args s 1 6 (AH ad)) (u0 = u00) (MT below (XN k0) args s)) (F0 m 46 ls []) := by
  intro n
  induction n with
  | zero => intro u y2 x3 x4 hy2 k0 r0 u0 hF; rw [Fl_H_spread_46] at hF; cases hF
  | succ n ih =>
    intro u y2 x3 x4 hy2 k0 r0 u0 hF H locs ls hP hS hl
    rw [Fl_H_spread_46] at hF
    refine lv_iload hx hb d_H_spread_46 (lv_at hl 3 rfl) ?_
    refine lv_bipush (v := 6) hx hb d_H_spread_48 (by decide) ?_
    refine lv_icmp_ge (tgt := 80) hx hb d_H_spread_50 (by decide) (fun h6 => ?_) (fun h6 => ?_)
    · have hF := it_t hF h6
      refine lv_iload_n hx hb d_H_spread_80 rfl (lv_at hl 2 rfl) ?_
      obtain ⟨rfl, rfl, rfl⟩ := rt3 hF
      exact k_mono (fun t ht => ⟨fun _ => ht, fun h => absurd rfl h⟩) (k_wide (Nat.zero_le 1) (Nat.zero_le 6) (W.iret (v := x3) hx hb hr (fun t ht hW => ⟨⟨_, (), rfl, rfl, vp_at ht hP⟩, hS.F ht⟩) hS.2.2 d_H_spread_81))
    · have hF := it_f hF h6
      refine lv_aload_n hx hb d_H_spread_53 rfl (lv_at hl 1 rfl) ?_
      refine gf_O_4 hx hb hts hown hK hP hy2 a_160 d_H_spread_54 ?_
      refine lv_iload hx hb d_H_spread_57 (lv_at hl 3 rfl) ?_
      obtain ⟨h7, hF⟩ := as_u hF
      refine il_10 hx hb hK hP hy2 h7 d_H_spread_59 ?_
      refine lv_iconst (v := (-1)) hx hb d_H_spread_60 (by decide) ?_
      refine lv_icmp_eq (tgt := 74) hx hb d_H_spread_61 (by decide) (fun h8 => ?_) (fun h8 => ?_)
      · have hF := it_t hF h8
        refine lv_iinc (k := 3) (v := (x4 + 1)) (lv' := [(4, .int (x4 + 1)), (0, .ref (ad 0 0)), (2, .ref (ad 4 y2)), (3, .int x3)]) hx hb d_H_spread_74 hl rfl rfl (by decide) rfl (fun ls hl => ?_)
        refine lv_goto (tgt := 46) hx hb d_H_spread_77 (by decide) ?_
        exact ih u y2 x3 (x4 + 1) hy2 k0 r0 u0 hF _ _ _ hP hS (lv_sub hl [1, 2, 3, 0] rfl)
      · have hF := it_f hF h8
        refine lv_iload_n hx hb d_H_spread_64 rfl (lv_at hl 2 rfl) ?_
        refine lv_aload_n hx hb d_H_spread_65 rfl (lv_at hl 0 rfl) ?_
        refine lv_aload_n hx hb d_H_spread_66 rfl (lv_at hl 1 rfl) ?_
        refine lv_iload hx hb d_H_spread_67 (lv_at hl 3 rfl) ?_
        obtain ⟨r9, u11, h10, hF⟩ := bd_u hF
        refine k_vi (ad 0 0) [.ref (ad 4 y2), .int x4] [.int x3] ⟨hx, hb, hml, hown, hts⟩ (c_H_tellNeighbours l D ad ca hD0 (z := z) (u := u) hy2 h10) (w_H_tellNeighbours hts a_485 ⟨Nat.le_of_ble_eq_true rfl, Nat.le_of_ble_eq_true rfl⟩) (rv_H hK hP (by decide)) hP hK hS (fun _ h => h) rfl rfl hl.1 (Nat.le_of_ble_eq_true rfl) ⟨Nat.zero_le _, Nat.zero_le _⟩ d_H_spread_69 (fun H locs hP hS => ?_)
        refine lv_iadd hx hb d_H_spread_72 ?_
        refine lv_istore_n (lv' := [(3, .int (x3 + r9)), (0, .ref (ad 0 0)), (2, .ref (ad 4 y2)), (4, .int x4)]) hx hb d_H_spread_73 rfl hl (by decide) rfl (fun ls hl => ?_)
        refine lv_iinc (k := 3) (v := (x4 + 1)) (lv' := [(4, .int (x4 + 1)), (3, .int (x3 + r9)), (0, .ref (ad 0 0)), (2, .ref (ad 4 y2))]) hx hb d_H_spread_74 hl rfl rfl (by decide) rfl (fun ls hl => ?_)
        refine lv_goto (tgt := 46) hx hb d_H_spread_77 (by decide) ?_
        exact ih u11 y2 (x3 + r9) (x4 + 1) hy2 k0 r0 u0 hF _ _ _ hP hS (lv_sub hl [2, 3, 1, 0] rfl)
set_option maxHeartbeats 4000000 in
set_option maxRecDepth 100000 in
theorem wk_H_spread {p : Program} {l : Launch} {e : Env} {s : State} {m : MethodId} {args : Array Value} {below : List Frame} {meth : Method} {c : Code} {D : va_G} {ad : Nat → Nat → Nat} {ca : Nat → ClassId} {z : ZW} {u : XC} {a1 : Int32} {k0 : Nat} {r0 : Int32} {u0 : XC}  (hx : p.tables.exec = Jvm.exec) (hb : c.code = b_H_spread) (hr : meth.sig.returnType = (some .int)) (hts : ∀ w ∈ ALL, w.before args s = true) (hown : s.vm.findClass R_H = some m.cls) (hlocks : meth.locks = false) (hml : c.maxLocals = 5) (htr : l.stackTraces = false) (hne : c.exceptionTable.isEmpty = true) (hK : va_K D CLS (TYH ca) s) (hD0 : ∀ z u, va_D (AH ad) (wh ad ca z u)) (hD : ∀ z u, va_D (AH ad) (wh ad ca z u)) (hTZ : TZ R_H MSGS FW (AH ad) s) (hF : F_H_spread u a1 = some (k0, r0, u0)) (hP : va_P D CLS (wh ad ca z u) s.heap) (hS : va_S (AH ad) s.heap s.heap []) {ls : Array Slot} (hl : lv_has ls 5 [(0, .ref (ad 0 0)), (1, .int a1)]) : W p l e ({ frames := 6, cells := 1, slots := 6, locals := 89 } : Room) s m args below meth c s.heap [] 0 0 (Q2 k0 (MQ below (va_Qi (fun (r : Int32) (_ : Unit) => r = r0) (fun _ t => va_P D CLS (wh ad ca z u0) t.heap) (AH ad)) args s 1 6 (AH ad)) (u0 = u) (MT below (XN k0) args s)) (F0 m 0 ls []) := by
  unfold F_H_spread at hF
  refine lv_iload_n hx hb d_H_spread_0 rfl (lv_at hl 1 rfl) ?_
  obtain ⟨r1, h2, hF⟩ := bs_u hF
  refine k_sp [.int a1] [] ⟨hx, hb, hml, hown, hts⟩ (c_H_isOffice l  h2) (w_H_isOffice hts a_222 ⟨Nat.le_of_ble_eq_true rfl, Nat.le_of_ble_eq_true rfl⟩) rfl rfl hl.1 (Nat.le_of_ble_eq_true rfl) ⟨Nat.zero_le _, Nat.zero_le _⟩ d_H_spread_1 ?_
  refine lv_if_ne (tgt := 17) hx hb d_H_spread_4 (by decide) (fun h3 => ?_) (fun h3 => ?_)
  · have hF := it_f hF h3
    refine lv_aload_n hx hb d_H_spread_17 rfl (lv_at hl 0 rfl) ?_
    refine gf_H_0 hx hb hts hown hK hP (by decide) a_205 d_H_spread_18 ?_
    refine lv_iload_n hx hb d_H_spread_21 rfl (lv_at hl 1 rfl) ?_
    obtain ⟨h4, hF⟩ := as_u hF
    refine al_1 hx hb hK hP h4 d_H_spread_22 ?_
    refine lv_astore_n (lv' := [(2, .ref (ad 4 (a1).toNatClampNeg)), (0, .ref (ad 0 0)), (1, .int a1)]) hx hb d_H_spread_23 rfl hl (by decide) rfl (fun ls hl => ?_)
    refine lv_aload_n hx hb d_H_spread_24 rfl (lv_at hl 0 rfl) ?_
    refine gf_O_5 hx hb hts hown hK hP h4.2 a_162 d_H_spread_25 ?_
    refine lv_if_eq (tgt := 41) hx hb d_H_spread_28 (by decide) (fun h5 => ?_) (fun h5 => ?_)
    · have hF := it_t hF h5
      refine lv_iconst (v := 0) hx hb d_H_spread_41 (by decide) ?_
      refine lv_istore_n (lv' := [(3, .int 0), (2, .ref (ad 4 (a1).toNatClampNeg)), (0, .ref (ad 0 0)), (1, .int a1)]) hx hb d_H_spread_42 rfl hl (by decide) rfl (fun ls hl => ?_)
      refine lv_iconst (v := 0) hx hb d_H_spread_43 (by decide) ?_
      refine lv_istore (lv' := [(4, .int 0), (3, .int 0), (2, .ref (ad 4 (a1).toNatClampNeg)), (0, .ref (ad 0 0)), (1, .int a1)]) hx hb d_H_spread_44 hl (by decide) rfl (fun ls hl => ?_)
      exact lp_H_spread_46 hx hb hr hts hown hlocks hml hK hD0 hD  200 u ((a1).toNatClampNeg) 0 0 h4.2 k0 r0 u0 hF _ _ _ hP hS (lv_sub hl [3, 2, 1, 0] rfl)
    · have hF := it_f hF h5
      obtain ⟨rfl, rfl, rfl⟩ := rt3 hF
      obtain ⟨q, hm⟩ := hTZ.2.2.1 (128, "failed") (by decide)
      exact k_mono (fun t ht => ⟨fun h => absurd h (by decide), fun _ => ⟨rfl, ht⟩⟩) (k_throw (cls := XN 2) (names := UP) hx hb htr hne hlocks hml hl.1 hown (by decide +kernel) (by decide +kernel) (hts _ a_421) (hts _ a_422) (hts _ a_13) (oat_87 hts hTZ) hm (by decide) (by decide) ⟨by decide, by decide⟩ rfl d_H_spread_31 d_H_spread_34 d_H_spread_35 d_H_spread_37 d_H_spread_40)
  · have hF := it_t hF h3
    obtain ⟨rfl, rfl, rfl⟩ := rt3 hF
    obtain ⟨q, hm⟩ := hTZ.2.2.1 (101, "no such office") (by decide)
    exact k_mono (fun t ht => ⟨fun h => absurd h (by decide), fun _ => ⟨rfl, ht⟩⟩) (k_throw (cls := XN 1) (names := UP) hx hb htr hne hlocks hml hl.1 hown (by decide +kernel) (by decide +kernel) (hts _ a_353) (hts _ a_354) (hts _ a_12) (oat_67 hts hTZ) hm (by decide) (by decide) ⟨by decide, by decide⟩ rfl d_H_spread_7 d_H_spread_10 d_H_spread_11 d_H_spread_13 d_H_spread_16)
theorem c_H_spread (l : Launch) (htr : l.stackTraces = false) (D : va_G) (ad : Nat → Nat → Nat) (ca : Nat → ClassId) (hD0 : ∀ z u, va_D (AH ad) (wh ad ca z u)) {z : ZW} {u : XC} {a1 : Int32} {r0 : Int32} {u0 : XC}  (hF : F_H_spread u a1 = some (0, r0, u0)) : Met l y_H_spread ws_H_spread ({ frames := 6, cells := 1, slots := 6, locals := 89 } : Room) (va_Pc [.ref (ad 0 0), .int a1] (fun U => va_P D CLS (wh ad ca z u) U.heap ∧ va_K D CLS (TYH ca) U ∧ TZ R_H MSGS FW (AH ad) U)) (va_Qi (fun (r : Int32) (_ : Unit) => r = r0) (fun _ t => va_P D CLS (wh ad ca z u0) t.heap) (AH ad)) 1 6 (AH ad) := by
  refine Met.ofW (cc := b_H_spread) (maxL := 5) (ret := (some .int)) (by decide) rfl ?_
  intro p e s m args below meth c s₁ B hml hv
  obtain ⟨rfl, hP, hK, hTZ⟩ := hv
  have hx := B.exec
  have hb := B.bytes
  have hr := B.returns
  have hts : ∀ w ∈ ALL, w.before _ s = true := fun w h => atoms_spec (ws := ws_H_spread) B.pre w (List.mem_cons_of_mem _ h)
  have hown : s.vm.findClass R_H = some m.cls := findClass_of_methodNamed B.named
  have hlocks := B.notSynchronized
  have hne := B.noHandlers (atoms_spec (ws := ws_H_spread) B.pre _ List.mem_cons_self)
  have hD := hD0
  have hS : va_S (AH ad) s.heap s.heap [] := va_S.rf
  have hP : va_P D CLS (wh ad ca z u) s.heap := hP
  have hl := lv_entry ([.ref (ad 0 0), .int a1]) (n := 5) (Nat.le_of_ble_eq_true rfl)
  rw [lg_entry_eq]
  generalize (lg_sl ([.ref (ad 0 0), .int a1]) ++ List.replicate (5 - (lg_sl ([.ref (ad 0 0), .int a1])).length) Slot.unset).toArray = ls at hl ⊢
  have hl : lv_has ls 5 [(0, .ref (ad 0 0)), (1, .int a1)] := hl
  exact k_mono (fun t h => h.1 rfl) (wk_H_spread  hx hb hr hts hown hlocks hml htr hne hK hD0 hD hTZ hF hP hS hl)
theorem t_H_spread (l : Launch) (htr : l.stackTraces = false) (D : va_G) (ad : Nat → Nat → Nat) (ca : Nat → ClassId) (hD0 : ∀ z u, va_D (AH ad) (wh ad ca z u)) {z : ZW} {u : XC} {a1 : Int32} {r0 : Int32} {u0 : XC}  {k0 : Nat} (hk : k0 ≠ 0) (hF : F_H_spread u a1 = some (k0, r0, u0)) : MetT l y_H_spread ws_H_spread ({ frames := 6, cells := 1, slots := 6, locals := 89 } : Room) (va_Pc [.ref (ad 0 0), .int a1] (fun U => va_P D CLS (wh ad ca z u) U.heap ∧ va_K D CLS (TYH ca) U ∧ TZ R_H MSGS FW (AH ad) U)) (XN k0) := by
  refine MetT.ofW (cc := b_H_spread) (maxL := 5) (ret := (some .int)) (by decide) rfl ?_
  intro p e s m args below meth c s₁ B hml hv
  obtain ⟨rfl, hP, hK, hTZ⟩ := hv
  have hx := B.exec
  have hb := B.bytes
  have hr := B.returns
  have hts : ∀ w ∈ ALL, w.before _ s = true := fun w h => atoms_spec (ws := ws_H_spread) B.pre w (List.mem_cons_of_mem _ h)
  have hown : s.vm.findClass R_H = some m.cls := findClass_of_methodNamed B.named
  have hlocks := B.notSynchronized
  have hne := B.noHandlers (atoms_spec (ws := ws_H_spread) B.pre _ List.mem_cons_self)
  have hD := hD0
  have hS : va_S (AH ad) s.heap s.heap [] := va_S.rf
  have hP : va_P D CLS (wh ad ca z u) s.heap := hP
  have hl := lv_entry ([.ref (ad 0 0), .int a1]) (n := 5) (Nat.le_of_ble_eq_true rfl)
  rw [lg_entry_eq]
  generalize (lg_sl ([.ref (ad 0 0), .int a1]) ++ List.replicate (5 - (lg_sl ([.ref (ad 0 0), .int a1])).length) Slot.unset).toArray = ls at hl ⊢
  have hl : lv_has ls 5 [(0, .ref (ad 0 0)), (1, .int a1)] := hl
  exact k_mono (fun t h => (h.2 hk).2) (wk_H_spread  hx hb hr hts hown hlocks hml htr hne hK hD0 hD hTZ hF hP hS hl)
def ws_H_letter : List Cond := Cond.code y_H_letter b_H_letter 4 (some .int) :: ALL
theorem w_H_letter {R : Room} {s : State} {args : Array Value} {own : String} {index : Nat} (hts : ∀ w ∈ ALL, w.before args s = true) (hlk : Cond.methodLink own index y_H_letter ∈ ALL) (hR : (({ frames := 6, cells := 1, slots := 6, locals := 89 } : Room)).frames + 1 ≤ R.frames ∧ 8 + (4 + 11) + (({ frames := 6, cells := 1, slots := 6, locals := 89 } : Room)).locals ≤ R.locals) : CallW R s args own R_H index y_H_letter b_H_letter 4 (some .int) ws_H_letter ({ frames := 6, cells := 1, slots := 6, locals := 89 } : Room) 1 6 2 := ⟨callB_of 2 hts (good_c a_499) rfl rfl rfl (hts _ a_1) (hts _ hlk) (by decide +kernel) hR, hts _ a_497, hts _ a_498⟩
theorem d_H_letter_0 : decode b_H_letter 0 = .ok (.aload_n 0, 1) := by decide +kernel
theorem d_H_letter_1 : decode b_H_letter 1 = .ok (.getfield 24, 3) := by decide +kernel
theorem d_H_letter_4 : decode b_H_letter 4 = .ok (.iload_n 1, 1) := by decide +kernel
theorem d_H_letter_5 : decode b_H_letter 5 = .ok (.invokevirtual 139, 3) := by decide +kernel
theorem d_H_letter_8 : decode b_H_letter 8 = .ok (.ifCond .eq 12, 3) := by decide +kernel
theorem d_H_letter_11 : decode b_H_letter 11 = .ok (.iload_n 2, 1) := by decide +kernel
theorem d_H_letter_12 : decode b_H_letter 12 = .ok (.ifCond .lt 8, 3) := by decide +kernel
theorem d_H_letter_15 : decode b_H_letter 15 = .ok (.iload_n 2, 1) := by decide +kernel
theorem d_H_letter_16 : decode b_H_letter 16 = .ok (.iconst 5, 1) := by decide +kernel
theorem d_H_letter_17 : decode b_H_letter 17 = .ok (.if_icmp .le 13, 3) := by decide +kernel
theorem d_H_letter_20 : decode b_H_letter 20 = .ok (.new 142, 3) := by decide +kernel
theorem d_H_letter_23 : decode b_H_letter 23 = .ok (.dup, 1) := by decide +kernel
theorem d_H_letter_24 : decode b_H_letter 24 = .ok (.ldc 144, 2) := by decide +kernel
theorem d_H_letter_26 : decode b_H_letter 26 = .ok (.invokespecial 146, 3) := by decide +kernel
theorem d_H_letter_29 : decode b_H_letter 29 = .ok (.athrow, 1) := by decide +kernel
theorem d_H_letter_30 : decode b_H_letter 30 = .ok (.aload_n 0, 1) := by decide +kernel
theorem d_H_letter_31 : decode b_H_letter 31 = .ok (.getfield 24, 3) := by decide +kernel
theorem d_H_letter_34 : decode b_H_letter 34 = .ok (.getfield 147, 3) := by decide +kernel
theorem d_H_letter_37 : decode b_H_letter 37 = .ok (.iload_n 1, 1) := by decide +kernel
theorem d_H_letter_38 : decode b_H_letter 38 = .ok (.aaload, 1) := by decide +kernel
theorem d_H_letter_39 : decode b_H_letter 39 = .ok (.astore_n 3, 1) := by decide +kernel
theorem d_H_letter_40 : decode b_H_letter 40 = .ok (.iload_n 2, 1) := by decide +kernel
theorem d_H_letter_41 : decode b_H_letter 41 = .ok (.tableswitch 60 0 4 #[35, 40, 45, 50, 55], 35) := by decide +kernel
theorem d_H_letter_76 : decode b_H_letter 76 = .ok (.aload_n 3, 1) := by decide +kernel
theorem d_H_letter_77 : decode b_H_letter 77 = .ok (.getfield 151, 3) := by decide +kernel
theorem d_H_letter_80 : decode b_H_letter 80 = .ok (.ireturn, 1) := by decide +kernel
theorem d_H_letter_81 : decode b_H_letter 81 = .ok (.aload_n 3, 1) := by decide +kernel
theorem d_H_letter_82 : decode b_H_letter 82 = .ok (.getfield 156, 3) := by decide +kernel
theorem d_H_letter_85 : decode b_H_letter 85 = .ok (.ireturn, 1) := by decide +kernel
theorem d_H_letter_86 : decode b_H_letter 86 = .ok (.aload_n 3, 1) := by decide +kernel
theorem d_H_letter_87 : decode b_H_letter 87 = .ok (.getfield 159, 3) := by decide +kernel
theorem d_H_letter_90 : decode b_H_letter 90 = .ok (.ireturn, 1) := by decide +kernel
theorem d_H_letter_91 : decode b_H_letter 91 = .ok (.aload_n 3, 1) := by decide +kernel
theorem d_H_letter_92 : decode b_H_letter 92 = .ok (.getfield 162, 3) := by decide +kernel
theorem d_H_letter_95 : decode b_H_letter 95 = .ok (.ireturn, 1) := by decide +kernel
theorem d_H_letter_96 : decode b_H_letter 96 = .ok (.aload_n 3, 1) := by decide +kernel
theorem d_H_letter_97 : decode b_H_letter 97 = .ok (.getfield 165, 3) := by decide +kernel
theorem d_H_letter_100 : decode b_H_letter 100 = .ok (.ireturn, 1) := by decide +kernel
theorem d_H_letter_101 : decode b_H_letter 101 = .ok (.aload_n 3, 1) := by decide +kernel
theorem d_H_letter_102 : decode b_H_letter 102 = .ok (.getfield 166, 3) := by decide +kernel
theorem d_H_letter_105 : decode b_H_letter 105 = .ok (.ireturn, 1) := by decide +kernel
def F_H_letter (u : XC) (a1 : Int32) (a2 : Int32) : Option (Nat × Int32 × XC) := (bs_ (F_M_holds u a1) fun r1 => (if r1 = 0 then some (3, 0, u) else (if a2 < 0 then some (3, 0, u) else (if a2 ≤ 5 then (if 0 ≤ a1 ∧ (a1).toNatClampNeg < 150 then (if (u.2.1 (a1).toNatClampNeg) < 152 then (if a2 = 0 then some (0, (u.1 7 (u.2.1 (a1).toNatClampNeg) 0), u) else (if a2 = 1 then some (0, (u.1 7 (u.2.1 (a1).toNatClampNeg) 1), u) else (if a2 = 2 then some (0, (u.1 7 (u.2.1 (a1).toNatClampNeg) 2), u) else (if a2 = 3 then some (0, (u.1 7 (u.2.1 (a1).toNatClampNeg) 3), u) else (if a2 = 4 then some (0, (u.1 7 (u.2.1 (a1).toNatClampNeg) 4), u) else some (0, (u.1 7 (u.2.1 (a1).toNatClampNeg) 5), u)))))) else none) else none) else some (3, 0, u)))))
set_option maxHeartbeats 4000000 in
set_option maxRecDepth 100000 in
theorem wk_H_letter {p : Program} {l : Launch} {e : Env} {s : State} {m : MethodId} {args : Array Value} {below : List Frame} {meth : Method} {c : Code} {D : va_G} {ad : Nat → Nat → Nat} {ca : Nat → ClassId} {z : ZW} {u : XC} {a1 : Int32} {a2 : Int32} {k0 : Nat} {r0 : Int32} {u0 : XC}  (hx : p.tables.exec = Jvm.exec) (hb : c.code = b_H_letter) (hr : meth.sig.returnType = (some .int)) (hts : ∀ w ∈ ALL, w.before args s = true) (hown : s.vm.findClass R_H = some m.cls) (hlocks : meth.locks = false) (hml : c.maxLocals = 4) (htr : l.stackTraces = false) (hne : c.exceptionTable.isEmpty = true) (hK : va_K D CLS (TYH ca) s) (hD0 : ∀ z u, va_D (AH ad) (wh ad ca z u)) (hD : ∀ z u, va_D (AH ad) (wh ad ca z u)) (hTZ : TZ R_H MSGS FW (AH ad) s) (hF : F_H_letter u a1 a2 = some (k0, r0, u0)) (hP : va_P D CLS (wh ad ca z u) s.heap) (hS : va_S (AH ad) s.heap s.heap []) {ls : Array Slot} (hl : lv_has ls 4 [(0, .ref (ad 0 0)), (1, .int a1), (2, .int a2)]) : W p l e ({ frames := 6, cells := 1, slots := 6, locals := 89 } : Room) s m args below meth c s.heap [] 0 0 (Q2 k0 (MQ below (va_Qi (fun (r : Int32) (_ : Unit) => r = r0) (fun _ t => va_P D CLS (wh ad ca z u0) t.heap) (AH ad)) args s 1 6 (AH ad)) (u0 = u) (MT below (XN k0) args s)) (F0 m 0 ls []) := by
  unfold F_H_letter at hF
  refine lv_aload_n hx hb d_H_letter_0 rfl (lv_at hl 0 rfl) ?_
  refine gf_H_2 hx hb hts hown hK hP (by decide) a_207 d_H_letter_1 ?_
  refine lv_iload_n hx hb d_H_letter_4 rfl (lv_at hl 1 rfl) ?_
  obtain ⟨r1, h2, hF⟩ := bs_u hF
  refine k_vp (ad 3 0) [.int a1] [] ⟨hx, hb, hml, hown, hts⟩ (c_M_holds l D ad ca hD0 (z := z) (u := u)  h2) (w_M_holds hts a_251 ⟨Nat.le_of_ble_eq_true rfl, Nat.le_of_ble_eq_true rfl⟩) (rv_M hK hP (by decide)) hP hK rfl rfl hl.1 (Nat.le_of_ble_eq_true rfl) ⟨Nat.zero_le _, Nat.zero_le _⟩ d_H_letter_5 ?_
  refine lv_if_eq (tgt := 20) hx hb d_H_letter_8 (by decide) (fun h3 => ?_) (fun h3 => ?_)
  · have hF := it_t hF h3
    obtain ⟨rfl, rfl, rfl⟩ := rt3 hF
    obtain ⟨q, hm⟩ := hTZ.2.2.1 (144, "no such letter, or no such part of it") (by decide)
    exact k_mono (fun t ht => ⟨fun h => absurd h (by decide), fun _ => ⟨rfl, ht⟩⟩) (k_throw (cls := XN 3) (names := UP) hx hb htr hne hlocks hml hl.1 hown (by decide +kernel) (by decide +kernel) (hts _ a_500) (hts _ a_501) (hts _ a_17) (oat_146 hts hTZ) hm (by decide) (by decide) ⟨by decide, by decide⟩ rfl d_H_letter_20 d_H_letter_23 d_H_letter_24 d_H_letter_26 d_H_letter_29)
  · have hF := it_f hF h3
    refine lv_iload_n hx hb d_H_letter_11 rfl (lv_at hl 2 rfl) ?_
    refine lv_if_lt (tgt := 20) hx hb d_H_letter_12 (by decide) (fun h4 => ?_) (fun h4 => ?_)
    · have hF := it_t hF h4
      obtain ⟨rfl, rfl, rfl⟩ := rt3 hF
      obtain ⟨q, hm⟩ := hTZ.2.2.1 (144, "no such letter, or no such part of it") (by decide)
      exact k_mono (fun t ht => ⟨fun h => absurd h (by decide), fun _ => ⟨rfl, ht⟩⟩) (k_throw (cls := XN 3) (names := UP) hx hb htr hne hlocks hml hl.1 hown (by decide +kernel) (by decide +kernel) (hts _ a_500) (hts _ a_501) (hts _ a_17) (oat_146 hts hTZ) hm (by decide) (by decide) ⟨by decide, by decide⟩ rfl d_H_letter_20 d_H_letter_23 d_H_letter_24 d_H_letter_26 d_H_letter_29)
    · have hF := it_f hF h4
      refine lv_iload_n hx hb d_H_letter_15 rfl (lv_at hl 2 rfl) ?_
      refine lv_iconst (v := 5) hx hb d_H_letter_16 (by decide) ?_
      refine lv_icmp_le (tgt := 30) hx hb d_H_letter_17 (by decide) (fun h5 => ?_) (fun h5 => ?_)
      · have hF := it_t hF h5
        refine lv_aload_n hx hb d_H_letter_30 rfl (lv_at hl 0 rfl) ?_
        refine gf_H_2 hx hb hts hown hK hP (by decide) a_207 d_H_letter_31 ?_
        refine gf_M_0 hx hb hts hown hK hP (by decide) a_85 d_H_letter_34 ?_
        refine lv_iload_n hx hb d_H_letter_37 rfl (lv_at hl 1 rfl) ?_
        obtain ⟨h6, hF⟩ := as_u hF
        refine al_6 hx hb hK hP h6 d_H_letter_38 ?_
        obtain ⟨h7, hF⟩ := as_u hF
        refine lv_astore_n (lv' := [(3, .ref (ad 7 (u.2.1 (a1).toNatClampNeg))), (0, .ref (ad 0 0)), (1, .int a1), (2, .int a2)]) hx hb d_H_letter_39 rfl hl (by decide) rfl (fun ls hl => ?_)
        refine lv_iload_n hx hb d_H_letter_40 rfl (lv_at hl 3 rfl) ?_
        by_cases h8 : a2 = 0
        · have hF := it_t hF h8
          refine lv_tableIn (tgt := 76) hx hb d_H_letter_41 (by rw [h8]; decide) (by rw [h8]; decide) (by rw [h8]; rfl) (by decide) ?_
          refine lv_aload_n hx hb d_H_letter_76 rfl (lv_at hl 0 rfl) ?_
          refine gf_L_0 hx hb hts hown hK hP h7 a_45 d_H_letter_77 ?_
          obtain ⟨rfl, rfl, rfl⟩ := rt3 hF
          exact k_mono (fun t ht => ⟨fun _ => ht, fun h => absurd rfl h⟩) (k_wide (Nat.zero_le 1) (Nat.zero_le 6) (W.iret (v := (u.1 7 (u.2.1 (a1).toNatClampNeg) 0)) hx hb hr (fun t ht hW => ⟨⟨_, (), rfl, rfl, vp_at ht hP⟩, hS.F ht⟩) hS.2.2 d_H_letter_80))
        have hF := it_f hF h8
        by_cases h9 : a2 = 1
        · have hF := it_t hF h9
          refine lv_tableIn (tgt := 81) hx hb d_H_letter_41 (by rw [h9]; decide) (by rw [h9]; decide) (by rw [h9]; rfl) (by decide) ?_
          refine lv_aload_n hx hb d_H_letter_81 rfl (lv_at hl 0 rfl) ?_
          refine gf_L_1 hx hb hts hown hK hP h7 a_48 d_H_letter_82 ?_
          obtain ⟨rfl, rfl, rfl⟩ := rt3 hF
          exact k_mono (fun t ht => ⟨fun _ => ht, fun h => absurd rfl h⟩) (k_wide (Nat.zero_le 1) (Nat.zero_le 6) (W.iret (v := (u.1 7 (u.2.1 (a1).toNatClampNeg) 1)) hx hb hr (fun t ht hW => ⟨⟨_, (), rfl, rfl, vp_at ht hP⟩, hS.F ht⟩) hS.2.2 d_H_letter_85))
        have hF := it_f hF h9
        by_cases h10 : a2 = 2
        · have hF := it_t hF h10
          refine lv_tableIn (tgt := 86) hx hb d_H_letter_41 (by rw [h10]; decide) (by rw [h10]; decide) (by rw [h10]; rfl) (by decide) ?_
          refine lv_aload_n hx hb d_H_letter_86 rfl (lv_at hl 0 rfl) ?_
          refine gf_L_2 hx hb hts hown hK hP h7 a_51 d_H_letter_87 ?_
          obtain ⟨rfl, rfl, rfl⟩ := rt3 hF
          exact k_mono (fun t ht => ⟨fun _ => ht, fun h => absurd rfl h⟩) (k_wide (Nat.zero_le 1) (Nat.zero_le 6) (W.iret (v := (u.1 7 (u.2.1 (a1).toNatClampNeg) 2)) hx hb hr (fun t ht hW => ⟨⟨_, (), rfl, rfl, vp_at ht hP⟩, hS.F ht⟩) hS.2.2 d_H_letter_90))
        have hF := it_f hF h10
        by_cases h11 : a2 = 3
        · have hF := it_t hF h11
          refine lv_tableIn (tgt := 91) hx hb d_H_letter_41 (by rw [h11]; decide) (by rw [h11]; decide) (by rw [h11]; rfl) (by decide) ?_
          refine lv_aload_n hx hb d_H_letter_91 rfl (lv_at hl 0 rfl) ?_
          refine gf_L_3 hx hb hts hown hK hP h7 a_54 d_H_letter_92 ?_
          obtain ⟨rfl, rfl, rfl⟩ := rt3 hF
          exact k_mono (fun t ht => ⟨fun _ => ht, fun h => absurd rfl h⟩) (k_wide (Nat.zero_le 1) (Nat.zero_le 6) (W.iret (v := (u.1 7 (u.2.1 (a1).toNatClampNeg) 3)) hx hb hr (fun t ht hW => ⟨⟨_, (), rfl, rfl, vp_at ht hP⟩, hS.F ht⟩) hS.2.2 d_H_letter_95))
        have hF := it_f hF h11
        by_cases h12 : a2 = 4
        · have hF := it_t hF h12
          refine lv_tableIn (tgt := 96) hx hb d_H_letter_41 (by rw [h12]; decide) (by rw [h12]; decide) (by rw [h12]; rfl) (by decide) ?_
          refine lv_aload_n hx hb d_H_letter_96 rfl (lv_at hl 0 rfl) ?_
          refine gf_L_4 hx hb hts hown hK hP h7 a_57 d_H_letter_97 ?_
          obtain ⟨rfl, rfl, rfl⟩ := rt3 hF
          exact k_mono (fun t ht => ⟨fun _ => ht, fun h => absurd rfl h⟩) (k_wide (Nat.zero_le 1) (Nat.zero_le 6) (W.iret (v := (u.1 7 (u.2.1 (a1).toNatClampNeg) 4)) hx hb hr (fun t ht hW => ⟨⟨_, (), rfl, rfl, vp_at ht hP⟩, hS.F ht⟩) hS.2.2 d_H_letter_100))
        have hF := it_f hF h12
        refine lv_tableOut (tgt := 101) hx hb d_H_letter_41 (sw_0_4 h8 h9 h10 h11 h12) (by decide) ?_
        refine lv_aload_n hx hb d_H_letter_101 rfl (lv_at hl 0 rfl) ?_
        refine gf_L_5 hx hb hts hown hK hP h7 a_60 d_H_letter_102 ?_
        obtain ⟨rfl, rfl, rfl⟩ := rt3 hF
        exact k_mono (fun t ht => ⟨fun _ => ht, fun h => absurd rfl h⟩) (k_wide (Nat.zero_le 1) (Nat.zero_le 6) (W.iret (v := (u.1 7 (u.2.1 (a1).toNatClampNeg) 5)) hx hb hr (fun t ht hW => ⟨⟨_, (), rfl, rfl, vp_at ht hP⟩, hS.F ht⟩) hS.2.2 d_H_letter_105))
      · have hF := it_f hF h5
        obtain ⟨rfl, rfl, rfl⟩ := rt3 hF
        obtain ⟨q, hm⟩ := hTZ.2.2.1 (144, "no such letter, or no such part of it") (by decide)
        exact k_mono (fun t ht => ⟨fun h => absurd h (by decide), fun _ => ⟨rfl, ht⟩⟩) (k_throw (cls := XN 3) (names := UP) hx hb htr hne hlocks hml hl.1 hown (by decide +kernel) (by decide +kernel) (hts _ a_500) (hts _ a_501) (hts _ a_17) (oat_146 hts hTZ) hm (by decide) (by decide) ⟨by decide, by decide⟩ rfl d_H_letter_20 d_H_letter_23 d_H_letter_24 d_H_letter_26 d_H_letter_29)
theorem c_H_letter (l : Launch) (htr : l.stackTraces = false) (D : va_G) (ad : Nat → Nat → Nat) (ca : Nat → ClassId) (hD0 : ∀ z u, va_D (AH ad) (wh ad ca z u)) {z : ZW} {u : XC} {a1 : Int32} {a2 : Int32} {r0 : Int32} {u0 : XC}  (hF : F_H_letter u a1 a2 = some (0, r0, u0)) : Met l y_H_letter ws_H_letter ({ frames := 6, cells := 1, slots := 6, locals := 89 } : Room) (va_Pc [.ref (ad 0 0), .int a1, .int a2] (fun U => va_P D CLS (wh ad ca z u) U.heap ∧ va_K D CLS (TYH ca) U ∧ TZ R_H MSGS FW (AH ad) U)) (va_Qi (fun (r : Int32) (_ : Unit) => r = r0) (fun _ t => va_P D CLS (wh ad ca z u0) t.heap) (AH ad)) 1 6 (AH ad) := by
  refine Met.ofW (cc := b_H_letter) (maxL := 4) (ret := (some .int)) (by decide) rfl ?_
  intro p e s m args below meth c s₁ B hml hv
  obtain ⟨rfl, hP, hK, hTZ⟩ := hv
  have hx := B.exec
  have hb := B.bytes
  have hr := B.returns
  have hts : ∀ w ∈ ALL, w.before _ s = true := fun w h => atoms_spec (ws := ws_H_letter) B.pre w (List.mem_cons_of_mem _ h)
  have hown : s.vm.findClass R_H = some m.cls := findClass_of_methodNamed B.named
  have hlocks := B.notSynchronized
  have hne := B.noHandlers (atoms_spec (ws := ws_H_letter) B.pre _ List.mem_cons_self)
  have hD := hD0
  have hS : va_S (AH ad) s.heap s.heap [] := va_S.rf
  have hP : va_P D CLS (wh ad ca z u) s.heap := hP
  have hl := lv_entry ([.ref (ad 0 0), .int a1, .int a2]) (n := 4) (Nat.le_of_ble_eq_true rfl)
  rw [lg_entry_eq]
  generalize (lg_sl ([.ref (ad 0 0), .int a1, .int a2]) ++ List.replicate (4 - (lg_sl ([.ref (ad 0 0), .int a1, .int a2])).length) Slot.unset).toArray = ls at hl ⊢
  have hl : lv_has ls 4 [(0, .ref (ad 0 0)), (1, .int a1), (2, .int a2)] := hl
  exact k_mono (fun t h => h.1 rfl) (wk_H_letter  hx hb hr hts hown hlocks hml htr hne hK hD0 hD hTZ hF hP hS hl)
theorem t_H_letter (l : Launch) (htr : l.stackTraces = false) (D : va_G) (ad : Nat → Nat → Nat) (ca : Nat → ClassId) (hD0 : ∀ z u, va_D (AH ad) (wh ad ca z u)) {z : ZW} {u : XC} {a1 : Int32} {a2 : Int32} {r0 : Int32} {u0 : XC}  {k0 : Nat} (hk : k0 ≠ 0) (hF : F_H_letter u a1 a2 = some (k0, r0, u0)) : MetT l y_H_letter ws_H_letter ({ frames := 6, cells := 1, slots := 6, locals := 89 } : Room) (va_Pc [.ref (ad 0 0), .int a1, .int a2] (fun U => va_P D CLS (wh ad ca z u) U.heap ∧ va_K D CLS (TYH ca) U ∧ TZ R_H MSGS FW (AH ad) U)) (XN k0) := by
  refine MetT.ofW (cc := b_H_letter) (maxL := 4) (ret := (some .int)) (by decide) rfl ?_
  intro p e s m args below meth c s₁ B hml hv
  obtain ⟨rfl, hP, hK, hTZ⟩ := hv
  have hx := B.exec
  have hb := B.bytes
  have hr := B.returns
  have hts : ∀ w ∈ ALL, w.before _ s = true := fun w h => atoms_spec (ws := ws_H_letter) B.pre w (List.mem_cons_of_mem _ h)
  have hown : s.vm.findClass R_H = some m.cls := findClass_of_methodNamed B.named
  have hlocks := B.notSynchronized
  have hne := B.noHandlers (atoms_spec (ws := ws_H_letter) B.pre _ List.mem_cons_self)
  have hD := hD0
  have hS : va_S (AH ad) s.heap s.heap [] := va_S.rf
  have hP : va_P D CLS (wh ad ca z u) s.heap := hP
  have hl := lv_entry ([.ref (ad 0 0), .int a1, .int a2]) (n := 4) (Nat.le_of_ble_eq_true rfl)
  rw [lg_entry_eq]
  generalize (lg_sl ([.ref (ad 0 0), .int a1, .int a2]) ++ List.replicate (4 - (lg_sl ([.ref (ad 0 0), .int a1, .int a2])).length) Slot.unset).toArray = ls at hl ⊢
  have hl : lv_has ls 4 [(0, .ref (ad 0 0)), (1, .int a1), (2, .int a2)] := hl
  exact k_mono (fun t h => (h.2 hk).2) (wk_H_letter  hx hb hr hts hown hlocks hml htr hne hK hD0 hD hTZ hF hP hS hl)
def ws_H_deliver : List Cond := Cond.code y_H_deliver b_H_deliver 4 (some .int) :: ALL
theorem w_H_deliver {R : Room} {s : State} {args : Array Value} {own : String} {index : Nat} (hts : ∀ w ∈ ALL, w.before args s = true) (hlk : Cond.methodLink own index y_H_deliver ∈ ALL) (hR : (({ frames := 6, cells := 1, slots := 6, locals := 148 } : Room)).frames + 1 ≤ R.frames ∧ 8 + (4 + 11) + (({ frames := 6, cells := 1, slots := 6, locals := 148 } : Room)).locals ≤ R.locals) : CallW R s args own R_H index y_H_deliver b_H_deliver 4 (some .int) ws_H_deliver ({ frames := 6, cells := 1, slots := 6, locals := 148 } : Room) 1 6 1 := ⟨callB_of 1 hts (good_c a_522) rfl rfl rfl (hts _ a_1) (hts _ hlk) (by decide +kernel) hR, hts _ a_520, hts _ a_521⟩
theorem d_H_deliver_0 : decode b_H_deliver 0 = .ok (.aload_n 0, 1) := by decide +kernel
theorem d_H_deliver_1 : decode b_H_deliver 1 = .ok (.getfield 24, 3) := by decide +kernel
theorem d_H_deliver_4 : decode b_H_deliver 4 = .ok (.iload_n 1, 1) := by decide +kernel
theorem d_H_deliver_5 : decode b_H_deliver 5 = .ok (.invokevirtual 139, 3) := by decide +kernel
theorem d_H_deliver_8 : decode b_H_deliver 8 = .ok (.ifCond .ne 13, 3) := by decide +kernel
theorem d_H_deliver_11 : decode b_H_deliver 11 = .ok (.new 142, 3) := by decide +kernel
theorem d_H_deliver_14 : decode b_H_deliver 14 = .ok (.dup, 1) := by decide +kernel
theorem d_H_deliver_15 : decode b_H_deliver 15 = .ok (.ldc 169, 2) := by decide +kernel
theorem d_H_deliver_17 : decode b_H_deliver 17 = .ok (.invokespecial 146, 3) := by decide +kernel
theorem d_H_deliver_20 : decode b_H_deliver 20 = .ok (.athrow, 1) := by decide +kernel
theorem d_H_deliver_21 : decode b_H_deliver 21 = .ok (.aload_n 0, 1) := by decide +kernel
theorem d_H_deliver_22 : decode b_H_deliver 22 = .ok (.getfield 24, 3) := by decide +kernel
theorem d_H_deliver_25 : decode b_H_deliver 25 = .ok (.iload_n 1, 1) := by decide +kernel
theorem d_H_deliver_26 : decode b_H_deliver 26 = .ok (.invokevirtual 171, 3) := by decide +kernel
theorem d_H_deliver_29 : decode b_H_deliver 29 = .ok (.astore_n 2, 1) := by decide +kernel
theorem d_H_deliver_30 : decode b_H_deliver 30 = .ok (.aload_n 0, 1) := by decide +kernel
theorem d_H_deliver_31 : decode b_H_deliver 31 = .ok (.getfield 11, 3) := by decide +kernel
theorem d_H_deliver_34 : decode b_H_deliver 34 = .ok (.aload_n 2, 1) := by decide +kernel
theorem d_H_deliver_35 : decode b_H_deliver 35 = .ok (.getfield 159, 3) := by decide +kernel
theorem d_H_deliver_38 : decode b_H_deliver 38 = .ok (.aaload, 1) := by decide +kernel
theorem d_H_deliver_39 : decode b_H_deliver 39 = .ok (.astore_n 3, 1) := by decide +kernel
theorem d_H_deliver_40 : decode b_H_deliver 40 = .ok (.aload_n 3, 1) := by decide +kernel
theorem d_H_deliver_41 : decode b_H_deliver 41 = .ok (.getfield 43, 3) := by decide +kernel
theorem d_H_deliver_44 : decode b_H_deliver 44 = .ok (.ifCond .eq 5, 3) := by decide +kernel
theorem d_H_deliver_47 : decode b_H_deliver 47 = .ok (.iconst 0, 1) := by decide +kernel
theorem d_H_deliver_48 : decode b_H_deliver 48 = .ok (.ireturn, 1) := by decide +kernel
theorem d_H_deliver_49 : decode b_H_deliver 49 = .ok (.aload_n 2, 1) := by decide +kernel
theorem d_H_deliver_50 : decode b_H_deliver 50 = .ok (.getfield 151, 3) := by decide +kernel
theorem d_H_deliver_53 : decode b_H_deliver 53 = .ok (.tableswitch 70 0 4 #[35, 42, 49, 56, 63], 35) := by decide +kernel
theorem d_H_deliver_88 : decode b_H_deliver 88 = .ok (.aload_n 0, 1) := by decide +kernel
theorem d_H_deliver_89 : decode b_H_deliver 89 = .ok (.aload_n 3, 1) := by decide +kernel
theorem d_H_deliver_90 : decode b_H_deliver 90 = .ok (.aload_n 2, 1) := by decide +kernel
theorem d_H_deliver_91 : decode b_H_deliver 91 = .ok (.invokevirtual 175, 3) := by decide +kernel
theorem d_H_deliver_94 : decode b_H_deliver 94 = .ok (.ireturn, 1) := by decide +kernel
theorem d_H_deliver_95 : decode b_H_deliver 95 = .ok (.aload_n 0, 1) := by decide +kernel
theorem d_H_deliver_96 : decode b_H_deliver 96 = .ok (.aload_n 3, 1) := by decide +kernel
theorem d_H_deliver_97 : decode b_H_deliver 97 = .ok (.aload_n 2, 1) := by decide +kernel
theorem d_H_deliver_98 : decode b_H_deliver 98 = .ok (.invokevirtual 179, 3) := by decide +kernel
theorem d_H_deliver_101 : decode b_H_deliver 101 = .ok (.ireturn, 1) := by decide +kernel
theorem d_H_deliver_102 : decode b_H_deliver 102 = .ok (.aload_n 0, 1) := by decide +kernel
theorem d_H_deliver_103 : decode b_H_deliver 103 = .ok (.aload_n 3, 1) := by decide +kernel
theorem d_H_deliver_104 : decode b_H_deliver 104 = .ok (.aload_n 2, 1) := by decide +kernel
theorem d_H_deliver_105 : decode b_H_deliver 105 = .ok (.invokevirtual 182, 3) := by decide +kernel
theorem d_H_deliver_108 : decode b_H_deliver 108 = .ok (.ireturn, 1) := by decide +kernel
theorem d_H_deliver_109 : decode b_H_deliver 109 = .ok (.aload_n 0, 1) := by decide +kernel
theorem d_H_deliver_110 : decode b_H_deliver 110 = .ok (.aload_n 3, 1) := by decide +kernel
theorem d_H_deliver_111 : decode b_H_deliver 111 = .ok (.aload_n 2, 1) := by decide +kernel
theorem d_H_deliver_112 : decode b_H_deliver 112 = .ok (.invokevirtual 185, 3) := by decide +kernel
theorem d_H_deliver_115 : decode b_H_deliver 115 = .ok (.ireturn, 1) := by decide +kernel
theorem d_H_deliver_116 : decode b_H_deliver 116 = .ok (.aload_n 0, 1) := by decide +kernel
theorem d_H_deliver_117 : decode b_H_deliver 117 = .ok (.aload_n 3, 1) := by decide +kernel
theorem d_H_deliver_118 : decode b_H_deliver 118 = .ok (.aload_n 2, 1) := by decide +kernel
theorem d_H_deliver_119 : decode b_H_deliver 119 = .ok (.invokevirtual 188, 3) := by decide +kernel
theorem d_H_deliver_122 : decode b_H_deliver 122 = .ok (.ireturn, 1) := by decide +kernel
theorem d_H_deliver_123 : decode b_H_deliver 123 = .ok (.aload_n 0, 1) := by decide +kernel
theorem d_H_deliver_124 : decode b_H_deliver 124 = .ok (.aload_n 3, 1) := by decide +kernel
theorem d_H_deliver_125 : decode b_H_deliver 125 = .ok (.aload_n 2, 1) := by decide +kernel
theorem d_H_deliver_126 : decode b_H_deliver 126 = .ok (.getfield 165, 3) := by decide +kernel
theorem d_H_deliver_129 : decode b_H_deliver 129 = .ok (.aload_n 2, 1) := by decide +kernel
theorem d_H_deliver_130 : decode b_H_deliver 130 = .ok (.getfield 166, 3) := by decide +kernel
theorem d_H_deliver_133 : decode b_H_deliver 133 = .ok (.invokevirtual 191, 3) := by decide +kernel
theorem d_H_deliver_136 : decode b_H_deliver 136 = .ok (.ireturn, 1) := by decide +kernel
def F_H_deliver (u : XC) (a1 : Int32) : Option (Nat × Int32 × XC) := (bs_ (F_M_holds u a1) fun r1 => (if r1 = 0 then some (3, 0, u) else (bd_ (F_M_take u a1) fun r4 u6 => (if r4 < 152 then (if 0 ≤ (u6.1 7 r4 2) ∧ ((u6.1 7 r4 2)).toNatClampNeg < 27 then (if (u6.1 4 ((u6.1 7 r4 2)).toNatClampNeg 5) = 0 then (if (u6.1 7 r4 0) = 0 then (bd_ (F_H_hearAsk u6 (((u6.1 7 r4 2)).toNatClampNeg) r4) fun r11 u13 => some (0, r11, u13)) else (if (u6.1 7 r4 0) = 1 then (bd_ (F_H_hearGive u6 (((u6.1 7 r4 2)).toNatClampNeg) r4) fun r15 u17 => some (0, r15, u17)) else (if (u6.1 7 r4 0) = 2 then (bd_ (F_H_hearNo u6 (((u6.1 7 r4 2)).toNatClampNeg) r4) fun r19 u21 => some (0, r19, u21)) else (if (u6.1 7 r4 0) = 3 then (bd_ (F_H_hearSettle u6 (((u6.1 7 r4 2)).toNatClampNeg) r4) fun r23 u25 => some (0, r23, u25)) else (if (u6.1 7 r4 0) = 4 then (bd_ (F_H_hearTaken u6 (((u6.1 7 r4 2)).toNatClampNeg) r4) fun r27 u29 => some (0, r27, u29)) else (bd_ (F_H_learn u6 (((u6.1 7 r4 2)).toNatClampNeg) (u6.1 7 r4 4) (u6.1 7 r4 5)) fun r30 u32 => some (0, r30, u32))))))) else some (0, 0, u6)) else none) else none))))
set_option maxHeartbeats 4000000 in
set_option maxRecDepth 100000 in
theorem wk_H_deliver {p : Program} {l : Launch} {e : Env} {s : State} {m : MethodId} {args : Array Value} {below : List Frame} {meth : Method} {c : Code} {D : va_G} {ad : Nat → Nat → Nat} {ca : Nat → ClassId} {z : ZW} {u : XC} {a1 : Int32} {k0 : Nat} {r0 : Int32} {u0 : XC}  (hx : p.tables.exec = Jvm.exec) (hb : c.code = b_H_deliver) (hr : meth.sig.returnType = (some .int)) (hts : ∀ w ∈ ALL, w.before args s = true) (hown : s.vm.findClass R_H = some m.cls) (hlocks : meth.locks = false) (hml : c.maxLocals = 4) (htr : l.stackTraces = false) (hne : c.exceptionTable.isEmpty = true) (hK : va_K D CLS (TYH ca) s) (hD0 : ∀ z u, va_D (AH ad) (wh ad ca z u)) (hD : ∀ z u, va_D (AH ad) (wh ad ca z u)) (hTZ : TZ R_H MSGS FW (AH ad) s) (hF : F_H_deliver u a1 = some (k0, r0, u0)) (hP : va_P D CLS (wh ad ca z u) s.heap) (hS : va_S (AH ad) s.heap s.heap []) {ls : Array Slot} (hl : lv_has ls 4 [(0, .ref (ad 0 0)), (1, .int a1)]) : W p l e ({ frames := 6, cells := 1, slots := 6, locals := 148 } : Room) s m args below meth c s.heap [] 0 0 (Q2 k0 (MQ below (va_Qi (fun (r : Int32) (_ : Unit) => r = r0) (fun _ t => va_P D CLS (wh ad ca z u0) t.heap) (AH ad)) args s 1 6 (AH ad)) (u0 = u) (MT below (XN k0) args s)) (F0 m 0 ls []) := by
  unfold F_H_deliver at hF
  refine lv_aload_n hx hb d_H_deliver_0 rfl (lv_at hl 0 rfl) ?_
  refine gf_H_2 hx hb hts hown hK hP (by decide) a_207 d_H_deliver_1 ?_
  refine lv_iload_n hx hb d_H_deliver_4 rfl (lv_at hl 1 rfl) ?_
  obtain ⟨r1, h2, hF⟩ := bs_u hF
  refine k_vp (ad 3 0) [.int a1] [] ⟨hx, hb, hml, hown, hts⟩ (c_M_holds l D ad ca hD0 (z := z) (u := u)  h2) (w_M_holds hts a_251 ⟨Nat.le_of_ble_eq_true rfl, Nat.le_of_ble_eq_true rfl⟩) (rv_M hK hP (by decide)) hP hK rfl rfl hl.1 (Nat.le_of_ble_eq_true rfl) ⟨Nat.zero_le _, Nat.zero_le _⟩ d_H_deliver_5 ?_
  refine lv_if_ne (tgt := 21) hx hb d_H_deliver_8 (by decide) (fun h3 => ?_) (fun h3 => ?_)
  · have hF := it_f hF h3
    refine lv_aload_n hx hb d_H_deliver_21 rfl (lv_at hl 0 rfl) ?_
    refine gf_H_2 hx hb hts hown hK hP (by decide) a_207 d_H_deliver_22 ?_
    refine lv_iload_n hx hb d_H_deliver_25 rfl (lv_at hl 1 rfl) ?_
    obtain ⟨r4, u6, h5, hF⟩ := bd_u hF
    refine k_vr (ad 3 0) [.int a1] [] ⟨hx, hb, hml, hown, hts⟩ (c_M_take l D ad ca hD0 (z := z) (u := u)  h5) (w_M_take hts a_255 ⟨Nat.le_of_ble_eq_true rfl, Nat.le_of_ble_eq_true rfl⟩) (rv_M hK hP (by decide)) hP hK hS (fun _ h => h) rfl rfl hl.1 (Nat.le_of_ble_eq_true rfl) ⟨Nat.zero_le _, Nat.zero_le _⟩ d_H_deliver_26 (fun H locs hP hS => ?_)
    obtain ⟨h7, hF⟩ := as_u hF
    refine lv_astore_n (lv' := [(2, .ref (ad 7 r4)), (0, .ref (ad 0 0)), (1, .int a1)]) hx hb d_H_deliver_29 rfl hl (by decide) rfl (fun ls hl => ?_)
    refine lv_aload_n hx hb d_H_deliver_30 rfl (lv_at hl 1 rfl) ?_
    refine gf_H_0 hx hb hts hown hK hP (by decide) a_205 d_H_deliver_31 ?_
    refine lv_aload_n hx hb d_H_deliver_34 rfl (lv_at hl 0 rfl) ?_
    refine gf_L_2 hx hb hts hown hK hP h7 a_51 d_H_deliver_35 ?_
    obtain ⟨h8, hF⟩ := as_u hF
    refine al_1 hx hb hK hP h8 d_H_deliver_38 ?_
    refine lv_astore_n (lv' := [(3, .ref (ad 4 ((u6.1 7 r4 2)).toNatClampNeg)), (2, .ref (ad 7 r4)), (0, .ref (ad 0 0)), (1, .int a1)]) hx hb d_H_deliver_39 rfl hl (by decide) rfl (fun ls hl => ?_)
    refine lv_aload_n hx hb d_H_deliver_40 rfl (lv_at hl 0 rfl) ?_
    refine gf_O_5 hx hb hts hown hK hP h8.2 a_162 d_H_deliver_41 ?_
    refine lv_if_eq (tgt := 49) hx hb d_H_deliver_44 (by decide) (fun h9 => ?_) (fun h9 => ?_)
    · have hF := it_t hF h9
      refine lv_aload_n hx hb d_H_deliver_49 rfl (lv_at hl 1 rfl) ?_
      refine gf_L_0 hx hb hts hown hK hP h7 a_45 d_H_deliver_50 ?_
      by_cases h10 : (u6.1 7 r4 0) = 0
      · have hF := it_t hF h10
        refine lv_tableIn (tgt := 88) hx hb d_H_deliver_53 (by rw [h10]; decide) (by rw [h10]; decide) (by rw [h10]; rfl) (by decide) ?_
        refine lv_aload_n hx hb d_H_deliver_88 rfl (lv_at hl 2 rfl) ?_
        refine lv_aload_n hx hb d_H_deliver_89 rfl (lv_at hl 0 rfl) ?_
        refine lv_aload_n hx hb d_H_deliver_90 rfl (lv_at hl 1 rfl) ?_
        obtain ⟨r11, u13, h12, hF⟩ := bd_u hF
        refine k_vi (ad 0 0) [.ref (ad 4 ((u6.1 7 r4 2)).toNatClampNeg), .ref (ad 7 r4)] [] ⟨hx, hb, hml, hown, hts⟩ (c_H_hearAsk l D ad ca hD0 (z := z) (u := u6) h8.2 h7 h12) (w_H_hearAsk hts a_524 ⟨Nat.le_of_ble_eq_true rfl, Nat.le_of_ble_eq_true rfl⟩) (rv_H hK hP (by decide)) hP hK hS (fun _ h => h) rfl rfl hl.1 (Nat.le_of_ble_eq_true rfl) ⟨Nat.zero_le _, Nat.zero_le _⟩ d_H_deliver_91 (fun H locs hP hS => ?_)
        obtain ⟨rfl, rfl, rfl⟩ := rt3 hF
        exact k_mono (fun t ht => ⟨fun _ => ht, fun h => absurd rfl h⟩) (k_wide (Nat.zero_le 1) (Nat.zero_le 6) (W.iret (v := r11) hx hb hr (fun t ht hW => ⟨⟨_, (), rfl, rfl, vp_at ht hP⟩, hS.F ht⟩) hS.2.2 d_H_deliver_94))
      have hF := it_f hF h10
      by_cases h14 : (u6.1 7 r4 0) = 1
      · have hF := it_t hF h14
        refine lv_tableIn (tgt := 95) hx hb d_H_deliver_53 (by rw [h14]; decide) (by rw [h14]; decide) (by rw [h14]; rfl) (by decide) ?_
        refine lv_aload_n hx hb d_H_deliver_95 rfl (lv_at hl 2 rfl) ?_
        refine lv_aload_n hx hb d_H_deliver_96 rfl (lv_at hl 0 rfl) ?_
        refine lv_aload_n hx hb d_H_deliver_97 rfl (lv_at hl 1 rfl) ?_
        obtain ⟨r15, u17, h16, hF⟩ := bd_u hF
        refine k_vi (ad 0 0) [.ref (ad 4 ((u6.1 7 r4 2)).toNatClampNeg), .ref (ad 7 r4)] [] ⟨hx, hb, hml, hown, hts⟩ (c_H_hearGive l D ad ca hD0 (z := z) (u := u6) h8.2 h7 h16) (w_H_hearGive hts a_532 ⟨Nat.le_of_ble_eq_true rfl, Nat.le_of_ble_eq_true rfl⟩) (rv_H hK hP (by decide)) hP hK hS (fun _ h => h) rfl rfl hl.1 (Nat.le_of_ble_eq_true rfl) ⟨Nat.zero_le _, Nat.zero_le _⟩ d_H_deliver_98 (fun H locs hP hS => ?_)
        obtain ⟨rfl, rfl, rfl⟩ := rt3 hF
        exact k_mono (fun t ht => ⟨fun _ => ht, fun h => absurd rfl h⟩) (k_wide (Nat.zero_le 1) (Nat.zero_le 6) (W.iret (v := r15) hx hb hr (fun t ht hW => ⟨⟨_, (), rfl, rfl, vp_at ht hP⟩, hS.F ht⟩) hS.2.2 d_H_deliver_101))
      have hF := it_f hF h14
      by_cases h18 : (u6.1 7 r4 0) = 2
      · have hF := it_t hF h18
        refine lv_tableIn (tgt := 102) hx hb d_H_deliver_53 (by rw [h18]; decide) (by rw [h18]; decide) (by rw [h18]; rfl) (by decide) ?_
        refine lv_aload_n hx hb d_H_deliver_102 rfl (lv_at hl 2 rfl) ?_
        refine lv_aload_n hx hb d_H_deliver_103 rfl (lv_at hl 0 rfl) ?_
        refine lv_aload_n hx hb d_H_deliver_104 rfl (lv_at hl 1 rfl) ?_
        obtain ⟨r19, u21, h20, hF⟩ := bd_u hF
        refine k_vi (ad 0 0) [.ref (ad 4 ((u6.1 7 r4 2)).toNatClampNeg), .ref (ad 7 r4)] [] ⟨hx, hb, hml, hown, hts⟩ (c_H_hearNo l D ad ca hD0 (z := z) (u := u6) h8.2 h7 h20) (w_H_hearNo hts a_536 ⟨Nat.le_of_ble_eq_true rfl, Nat.le_of_ble_eq_true rfl⟩) (rv_H hK hP (by decide)) hP hK hS (fun _ h => h) rfl rfl hl.1 (Nat.le_of_ble_eq_true rfl) ⟨Nat.zero_le _, Nat.zero_le _⟩ d_H_deliver_105 (fun H locs hP hS => ?_)
        obtain ⟨rfl, rfl, rfl⟩ := rt3 hF
        exact k_mono (fun t ht => ⟨fun _ => ht, fun h => absurd rfl h⟩) (k_wide (Nat.zero_le 1) (Nat.zero_le 6) (W.iret (v := r19) hx hb hr (fun t ht hW => ⟨⟨_, (), rfl, rfl, vp_at ht hP⟩, hS.F ht⟩) hS.2.2 d_H_deliver_108))
      have hF := it_f hF h18
      by_cases h22 : (u6.1 7 r4 0) = 3
      · have hF := it_t hF h22
        refine lv_tableIn (tgt := 109) hx hb d_H_deliver_53 (by rw [h22]; decide) (by rw [h22]; decide) (by rw [h22]; rfl) (by decide) ?_
        refine lv_aload_n hx hb d_H_deliver_109 rfl (lv_at hl 2 rfl) ?_
        refine lv_aload_n hx hb d_H_deliver_110 rfl (lv_at hl 0 rfl) ?_
        refine lv_aload_n hx hb d_H_deliver_111 rfl (lv_at hl 1 rfl) ?_
        obtain ⟨r23, u25, h24, hF⟩ := bd_u hF
        refine k_vi (ad 0 0) [.ref (ad 4 ((u6.1 7 r4 2)).toNatClampNeg), .ref (ad 7 r4)] [] ⟨hx, hb, hml, hown, hts⟩ (c_H_hearSettle l D ad ca hD0 (z := z) (u := u6) h8.2 h7 h24) (w_H_hearSettle hts a_540 ⟨Nat.le_of_ble_eq_true rfl, Nat.le_of_ble_eq_true rfl⟩) (rv_H hK hP (by decide)) hP hK hS (fun _ h => h) rfl rfl hl.1 (Nat.le_of_ble_eq_true rfl) ⟨Nat.zero_le _, Nat.zero_le _⟩ d_H_deliver_112 (fun H locs hP hS => ?_)
        obtain ⟨rfl, rfl, rfl⟩ := rt3 hF
        exact k_mono (fun t ht => ⟨fun _ => ht, fun h => absurd rfl h⟩) (k_wide (Nat.zero_le 1) (Nat.zero_le 6) (W.iret (v := r23) hx hb hr (fun t ht hW => ⟨⟨_, (), rfl, rfl, vp_at ht hP⟩, hS.F ht⟩) hS.2.2 d_H_deliver_115))
      have hF := it_f hF h22
      by_cases h26 : (u6.1 7 r4 0) = 4
      · have hF := it_t hF h26
        refine lv_tableIn (tgt := 116) hx hb d_H_deliver_53 (by rw [h26]; decide) (by rw [h26]; decide) (by rw [h26]; rfl) (by decide) ?_
        refine lv_aload_n hx hb d_H_deliver_116 rfl (lv_at hl 2 rfl) ?_
        refine lv_aload_n hx hb d_H_deliver_117 rfl (lv_at hl 0 rfl) ?_
        refine lv_aload_n hx hb d_H_deliver_118 rfl (lv_at hl 1 rfl) ?_
        obtain ⟨r27, u29, h28, hF⟩ := bd_u hF
        refine k_vi (ad 0 0) [.ref (ad 4 ((u6.1 7 r4 2)).toNatClampNeg), .ref (ad 7 r4)] [] ⟨hx, hb, hml, hown, hts⟩ (c_H_hearTaken l D ad ca hD0 (z := z) (u := u6) h8.2 h7 h28) (w_H_hearTaken hts a_544 ⟨Nat.le_of_ble_eq_true rfl, Nat.le_of_ble_eq_true rfl⟩) (rv_H hK hP (by decide)) hP hK hS (fun _ h => h) rfl rfl hl.1 (Nat.le_of_ble_eq_true rfl) ⟨Nat.zero_le _, Nat.zero_le _⟩ d_H_deliver_119 (fun H locs hP hS => ?_)
        obtain ⟨rfl, rfl, rfl⟩ := rt3 hF
        exact k_mono (fun t ht => ⟨fun _ => ht, fun h => absurd rfl h⟩) (k_wide (Nat.zero_le 1) (Nat.zero_le 6) (W.iret (v := r27) hx hb hr (fun t ht hW => ⟨⟨_, (), rfl, rfl, vp_at ht hP⟩, hS.F ht⟩) hS.2.2 d_H_deliver_122))
      have hF := it_f hF h26
      refine lv_tableOut (tgt := 123) hx hb d_H_deliver_53 (sw_0_4 h10 h14 h18 h22 h26) (by decide) ?_
      refine lv_aload_n hx hb d_H_deliver_123 rfl (lv_at hl 2 rfl) ?_
      refine lv_aload_n hx hb d_H_deliver_124 rfl (lv_at hl 0 rfl) ?_
      refine lv_aload_n hx hb d_H_deliver_125 rfl (lv_at hl 1 rfl) ?_
      refine gf_L_4 hx hb hts hown hK hP h7 a_57 d_H_deliver_126 ?_
      refine lv_aload_n hx hb d_H_deliver_129 rfl (lv_at hl 1 rfl) ?_
      refine gf_L_5 hx hb hts hown hK hP h7 a_60 d_H_deliver_130 ?_
      obtain ⟨r30, u32, h31, hF⟩ := bd_u hF
      refine k_vi (ad 0 0) [.ref (ad 4 ((u6.1 7 r4 2)).toNatClampNeg), .int (u6.1 7 r4 4), .int (u6.1 7 r4 5)] [] ⟨hx, hb, hml, hown, hts⟩ (c_H_learn l D ad ca hD0 (z := z) (u := u6) h8.2 h31) (w_H_learn hts a_548 ⟨Nat.le_of_ble_eq_true rfl, Nat.le_of_ble_eq_true rfl⟩) (rv_H hK hP (by decide)) hP hK hS (fun _ h => h) rfl rfl hl.1 (Nat.le_of_ble_eq_true rfl) ⟨Nat.zero_le _, Nat.zero_le _⟩ d_H_deliver_133 (fun H locs hP hS => ?_)
      obtain ⟨rfl, rfl, rfl⟩ := rt3 hF
      exact k_mono (fun t ht => ⟨fun _ => ht, fun h => absurd rfl h⟩) (k_wide (Nat.zero_le 1) (Nat.zero_le 6) (W.iret (v := r30) hx hb hr (fun t ht hW => ⟨⟨_, (), rfl, rfl, vp_at ht hP⟩, hS.F ht⟩) hS.2.2 d_H_deliver_136))
    · have hF := it_f hF h9
      refine lv_iconst (v := 0) hx hb d_H_deliver_47 (by decide) ?_
      obtain ⟨rfl, rfl, rfl⟩ := rt3 hF
      exact k_mono (fun t ht => ⟨fun _ => ht, fun h => absurd rfl h⟩) (k_wide (Nat.zero_le 1) (Nat.zero_le 6) (W.iret (v := 0) hx hb hr (fun t ht hW => ⟨⟨_, (), rfl, rfl, vp_at ht hP⟩, hS.F ht⟩) hS.2.2 d_H_deliver_48))
  · have hF := it_t hF h3
    obtain ⟨rfl, rfl, rfl⟩ := rt3 hF
    obtain ⟨q, hm⟩ := hTZ.2.2.1 (169, "no such letter") (by decide)
    exact k_mono (fun t ht => ⟨fun h => absurd h (by decide), fun _ => ⟨rfl, ht⟩⟩) (k_throw (cls := XN 3) (names := UP) hx hb htr hne hlocks hml hl.1 hown (by decide +kernel) (by decide +kernel) (hts _ a_500) (hts _ a_501) (hts _ a_17) (oat_146 hts hTZ) hm (by decide) (by decide) ⟨by decide, by decide⟩ rfl d_H_deliver_11 d_H_deliver_14 d_H_deliver_15 d_H_deliver_17 d_H_deliver_20)
theorem c_H_deliver (l : Launch) (htr : l.stackTraces = false) (D : va_G) (ad : Nat → Nat → Nat) (ca : Nat → ClassId) (hD0 : ∀ z u, va_D (AH ad) (wh ad ca z u)) {z : ZW} {u : XC} {a1 : Int32} {r0 : Int32} {u0 : XC}  (hF : F_H_deliver u a1 = some (0, r0, u0)) : Met l y_H_deliver ws_H_deliver ({ frames := 6, cells := 1, slots := 6, locals := 148 } : Room) (va_Pc [.ref (ad 0 0), .int a1] (fun U => va_P D CLS (wh ad ca z u) U.heap ∧ va_K D CLS (TYH ca) U ∧ TZ R_H MSGS FW (AH ad) U)) (va_Qi (fun (r : Int32) (_ : Unit) => r = r0) (fun _ t => va_P D CLS (wh ad ca z u0) t.heap) (AH ad)) 1 6 (AH ad) := by
  refine Met.ofW (cc := b_H_deliver) (maxL := 4) (ret := (some .int)) (by decide) rfl ?_
  intro p e s m args below meth c s₁ B hml hv
  obtain ⟨rfl, hP, hK, hTZ⟩ := hv
  have hx := B.exec
  have hb := B.bytes
  have hr := B.returns
  have hts : ∀ w ∈ ALL, w.before _ s = true := fun w h => atoms_spec (ws := ws_H_deliver) B.pre w (List.mem_cons_of_mem _ h)
  have hown : s.vm.findClass R_H = some m.cls := findClass_of_methodNamed B.named
  have hlocks := B.notSynchronized
  have hne := B.noHandlers (atoms_spec (ws := ws_H_deliver) B.pre _ List.mem_cons_self)
  have hD := hD0
  have hS : va_S (AH ad) s.heap s.heap [] := va_S.rf
  have hP : va_P D CLS (wh ad ca z u) s.heap := hP
  have hl := lv_entry ([.ref (ad 0 0), .int a1]) (n := 4) (Nat.le_of_ble_eq_true rfl)
  rw [lg_entry_eq]
  generalize (lg_sl ([.ref (ad 0 0), .int a1]) ++ List.replicate (4 - (lg_sl ([.ref (ad 0 0), .int a1])).length) Slot.unset).toArray = ls at hl ⊢
  have hl : lv_has ls 4 [(0, .ref (ad 0 0)), (1, .int a1)] := hl
  exact k_mono (fun t h => h.1 rfl) (wk_H_deliver  hx hb hr hts hown hlocks hml htr hne hK hD0 hD hTZ hF hP hS hl)
theorem t_H_deliver (l : Launch) (htr : l.stackTraces = false) (D : va_G) (ad : Nat → Nat → Nat) (ca : Nat → ClassId) (hD0 : ∀ z u, va_D (AH ad) (wh ad ca z u)) {z : ZW} {u : XC} {a1 : Int32} {r0 : Int32} {u0 : XC}  {k0 : Nat} (hk : k0 ≠ 0) (hF : F_H_deliver u a1 = some (k0, r0, u0)) : MetT l y_H_deliver ws_H_deliver ({ frames := 6, cells := 1, slots := 6, locals := 148 } : Room) (va_Pc [.ref (ad 0 0), .int a1] (fun U => va_P D CLS (wh ad ca z u) U.heap ∧ va_K D CLS (TYH ca) U ∧ TZ R_H MSGS FW (AH ad) U)) (XN k0) := by
  refine MetT.ofW (cc := b_H_deliver) (maxL := 4) (ret := (some .int)) (by decide) rfl ?_
  intro p e s m args below meth c s₁ B hml hv
  obtain ⟨rfl, hP, hK, hTZ⟩ := hv
  have hx := B.exec
  have hb := B.bytes
  have hr := B.returns
  have hts : ∀ w ∈ ALL, w.before _ s = true := fun w h => atoms_spec (ws := ws_H_deliver) B.pre w (List.mem_cons_of_mem _ h)
  have hown : s.vm.findClass R_H = some m.cls := findClass_of_methodNamed B.named
  have hlocks := B.notSynchronized
  have hne := B.noHandlers (atoms_spec (ws := ws_H_deliver) B.pre _ List.mem_cons_self)
  have hD := hD0
  have hS : va_S (AH ad) s.heap s.heap [] := va_S.rf
  have hP : va_P D CLS (wh ad ca z u) s.heap := hP
  have hl := lv_entry ([.ref (ad 0 0), .int a1]) (n := 4) (Nat.le_of_ble_eq_true rfl)
  rw [lg_entry_eq]
  generalize (lg_sl ([.ref (ad 0 0), .int a1]) ++ List.replicate (4 - (lg_sl ([.ref (ad 0 0), .int a1])).length) Slot.unset).toArray = ls at hl ⊢
  have hl : lv_has ls 4 [(0, .ref (ad 0 0)), (1, .int a1)] := hl
  exact k_mono (fun t h => (h.2 hk).2) (wk_H_deliver  hx hb hr hts hown hlocks hml htr hne hK hD0 hD hTZ hF hP hS hl)
