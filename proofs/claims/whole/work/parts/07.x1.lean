def ws_H_sendPhase : List Cond := Cond.code y_H_sendPhase b_H_sendPhase 7 (some .int) :: ALL
theorem w_H_sendPhase {R : Room} {s : State} {args : Array Value} {own : String} {index : Nat} (hts : ∀ w ∈ ALL, w.before args s = true) (hlk : Cond.methodLink own index y_H_sendPhase ∈ ALL) (hR : (({ frames := 2, cells := 0, slots := 0, locals := 47 } : Room)).frames + 1 ≤ R.frames ∧ 8 + (7 + 11) + (({ frames := 2, cells := 0, slots := 0, locals := 47 } : Room)).locals ≤ R.locals) : CallW R s args own R_H index y_H_sendPhase b_H_sendPhase 7 (some .int) ws_H_sendPhase ({ frames := 2, cells := 0, slots := 0, locals := 47 } : Room) 0 0 2 := ⟨callB_of 2 hts (good_c a_448) rfl rfl rfl (hts _ a_1) (hts _ hlk) (by decide +kernel) hR, hts _ a_447, hts _ a_s3⟩
theorem d_H_sendPhase_0 : decode b_H_sendPhase 0 = .ok (.aload_n 1, 1) := by decide +kernel
theorem d_H_sendPhase_1 : decode b_H_sendPhase 1 = .ok (.getfield 70, 3) := by decide +kernel
theorem d_H_sendPhase_4 : decode b_H_sendPhase 4 = .ok (.astore_n 3, 1) := by decide +kernel
theorem d_H_sendPhase_5 : decode b_H_sendPhase 5 = .ok (.iconst 0, 1) := by decide +kernel
theorem d_H_sendPhase_6 : decode b_H_sendPhase 6 = .ok (.istore 4, 2) := by decide +kernel
theorem d_H_sendPhase_8 : decode b_H_sendPhase 8 = .ok (.iload 4, 2) := by decide +kernel
theorem d_H_sendPhase_10 : decode b_H_sendPhase 10 = .ok (.bipush 27, 2) := by decide +kernel
theorem d_H_sendPhase_12 : decode b_H_sendPhase 12 = .ok (.if_icmp .ge 89, 3) := by decide +kernel
theorem d_H_sendPhase_15 : decode b_H_sendPhase 15 = .ok (.iload_n 2, 1) := by decide +kernel
theorem d_H_sendPhase_16 : decode b_H_sendPhase 16 = .ok (.iload 4, 2) := by decide +kernel
theorem d_H_sendPhase_18 : decode b_H_sendPhase 18 = .ok (.invokestatic 103, 3) := by decide +kernel
theorem d_H_sendPhase_21 : decode b_H_sendPhase 21 = .ok (.ifCond .eq 74, 3) := by decide +kernel
theorem d_H_sendPhase_24 : decode b_H_sendPhase 24 = .ok (.aload_n 3, 1) := by decide +kernel
theorem d_H_sendPhase_25 : decode b_H_sendPhase 25 = .ok (.getfield 74, 3) := by decide +kernel
theorem d_H_sendPhase_28 : decode b_H_sendPhase 28 = .ok (.iconst 1, 1) := by decide +kernel
theorem d_H_sendPhase_29 : decode b_H_sendPhase 29 = .ok (.if_icmp .ne 7, 3) := by decide +kernel
theorem d_H_sendPhase_32 : decode b_H_sendPhase 32 = .ok (.iconst 0, 1) := by decide +kernel
theorem d_H_sendPhase_33 : decode b_H_sendPhase 33 = .ok (.goto 4, 3) := by decide +kernel
theorem d_H_sendPhase_36 : decode b_H_sendPhase 36 = .ok (.iconst 3, 1) := by decide +kernel
theorem d_H_sendPhase_37 : decode b_H_sendPhase 37 = .ok (.istore 5, 2) := by decide +kernel
theorem d_H_sendPhase_39 : decode b_H_sendPhase 39 = .ok (.aload_n 0, 1) := by decide +kernel
theorem d_H_sendPhase_40 : decode b_H_sendPhase 40 = .ok (.getfield 24, 3) := by decide +kernel
theorem d_H_sendPhase_43 : decode b_H_sendPhase 43 = .ok (.iload 5, 2) := by decide +kernel
theorem d_H_sendPhase_45 : decode b_H_sendPhase 45 = .ok (.aload_n 1, 1) := by decide +kernel
theorem d_H_sendPhase_46 : decode b_H_sendPhase 46 = .ok (.getfield 226, 3) := by decide +kernel
theorem d_H_sendPhase_49 : decode b_H_sendPhase 49 = .ok (.iload 4, 2) := by decide +kernel
theorem d_H_sendPhase_51 : decode b_H_sendPhase 51 = .ok (.invokevirtual 235, 3) := by decide +kernel
theorem d_H_sendPhase_54 : decode b_H_sendPhase 54 = .ok (.astore 6, 2) := by decide +kernel
theorem d_H_sendPhase_56 : decode b_H_sendPhase 56 = .ok (.aload 6, 2) := by decide +kernel
theorem d_H_sendPhase_58 : decode b_H_sendPhase 58 = .ok (.aload_n 3, 1) := by decide +kernel
theorem d_H_sendPhase_59 : decode b_H_sendPhase 59 = .ok (.getfield 201, 3) := by decide +kernel
theorem d_H_sendPhase_62 : decode b_H_sendPhase 62 = .ok (.putfield 162, 3) := by decide +kernel
theorem d_H_sendPhase_65 : decode b_H_sendPhase 65 = .ok (.aload 6, 2) := by decide +kernel
theorem d_H_sendPhase_67 : decode b_H_sendPhase 67 = .ok (.aload_n 3, 1) := by decide +kernel
theorem d_H_sendPhase_68 : decode b_H_sendPhase 68 = .ok (.getfield 98, 3) := by decide +kernel
theorem d_H_sendPhase_71 : decode b_H_sendPhase 71 = .ok (.putfield 165, 3) := by decide +kernel
theorem d_H_sendPhase_74 : decode b_H_sendPhase 74 = .ok (.aload 6, 2) := by decide +kernel
theorem d_H_sendPhase_76 : decode b_H_sendPhase 76 = .ok (.aload_n 3, 1) := by decide +kernel
theorem d_H_sendPhase_77 : decode b_H_sendPhase 77 = .ok (.getfield 74, 3) := by decide +kernel
theorem d_H_sendPhase_80 : decode b_H_sendPhase 80 = .ok (.iconst 1, 1) := by decide +kernel
theorem d_H_sendPhase_81 : decode b_H_sendPhase 81 = .ok (.if_icmp .ne 7, 3) := by decide +kernel
theorem d_H_sendPhase_84 : decode b_H_sendPhase 84 = .ok (.iconst (-1), 1) := by decide +kernel
theorem d_H_sendPhase_85 : decode b_H_sendPhase 85 = .ok (.goto 7, 3) := by decide +kernel
theorem d_H_sendPhase_88 : decode b_H_sendPhase 88 = .ok (.aload_n 3, 1) := by decide +kernel
theorem d_H_sendPhase_89 : decode b_H_sendPhase 89 = .ok (.getfield 229, 3) := by decide +kernel
theorem d_H_sendPhase_92 : decode b_H_sendPhase 92 = .ok (.putfield 166, 3) := by decide +kernel
theorem d_H_sendPhase_95 : decode b_H_sendPhase 95 = .ok (.iinc 4 1, 3) := by decide +kernel
theorem d_H_sendPhase_98 : decode b_H_sendPhase 98 = .ok (.goto (-90), 3) := by decide +kernel
theorem d_H_sendPhase_101 : decode b_H_sendPhase 101 = .ok (.iload_n 2, 1) := by decide +kernel
theorem d_H_sendPhase_102 : decode b_H_sendPhase 102 = .ok (.invokestatic 239, 3) := by decide +kernel
theorem d_H_sendPhase_105 : decode b_H_sendPhase 105 = .ok (.ireturn, 1) := by decide +kernel
def Fj_H_sendPhase_37 (K8 : XC → Nat → Int32 → Nat → Int32 → Option (Int32 × XC)) (u : XC) (y1 : Nat) (x2 : Int32) (y3 : Nat) (x4 : Int32) (w0 : Int32) : Option (Int32 × XC) := (bd_ (F_M_post u w0 (u.1 4 y1 0) x4) fun r8 u10 => (if r8 < 152 then (nm_ (pu u10 7 r8 3 (u10.1 11 y3 2)) fun u12 => (nm_ (pu u12 7 r8 4 (u12.1 11 y3 1)) fun u14 => (if (u14.1 11 y3 0) = 1 then (nm_ (pu u14 7 r8 5 (-1)) fun u19 => K8 u19 y1 x2 y3 (x4 + 1)) else (nm_ (pu u14 7 r8 5 (u14.1 11 y3 7)) fun u17 => K8 u17 y1 x2 y3 (x4 + 1))))) else none))
def Fl_H_sendPhase_8  : Nat → XC → Nat → Int32 → Nat → Int32 → Option (Int32 × XC)
  | 0, _, _, _, _, _ => none
  | n + 1, u, y1, x2, y3, x4 => (if 27 ≤ x4 then (bs_ (F_JI_bitCount x2) fun r2 => some (r2, u)) else (bs_ (F_S_has x2 x4) fun r4 => (if r4 = 0 then (Fl_H_sendPhase_8 n) u y1 x2 y3 (x4 + 1) else (if (u.1 11 y3 0) = 1 then Fj_H_sendPhase_37 (Fl_H_sendPhase_8 n) u y1 x2 y3 x4 0 else Fj_H_sendPhase_37 (Fl_H_sendPhase_8 n) u y1 x2 y3 x4 3))))
def F_H_sendPhase (u : XC) (j1 : Nat) (a2 : Int32) : Option (Int32 × XC) := Fl_H_sendPhase_8  200 u j1 a2 j1 0
set_option maxHeartbeats 4000000 in
set_option maxRecDepth 100000 in
theorem jn_H_sendPhase_37 {p : Program} {l : Launch} {e : Env} {s : State} {m : MethodId} {args : Array Value} {below : List Frame} {meth : Method} {c : Code} {D : va_G} {ad : Nat → Nat → Nat} {ca : Nat → ClassId} {z : ZW} (hx : p.tables.exec = Jvm.exec) (hb : c.code = b_H_sendPhase) (hr : meth.sig.returnType = (some .int)) (hts : ∀ w ∈ ALL, w.before args s = true) (hown : s.vm.findClass R_H = some m.cls) (hlocks : meth.locks = false) (hml : c.maxLocals = 7) (hK : va_K D CLS (TYH ca) s) (hD0 : ∀ z u, va_D (AH ad) (wh ad ca z u)) (hD : ∀ z u, va_D (AH ad) (wh ad ca z u)) {K8 : XC → Nat → Int32 → Nat → Int32 → Option (Int32 × XC)} (ihK8 : ∀ (u : XC) (y1 : Nat) (x2 : Int32) (y3 : Nat) (x4 : Int32) (hy1 : y1 < 27) (hy3 : y3 < 27) (r0 : Int32) (u0 : XC), K8 u y1 x2 y3 x4 = some (r0, u0) → ∀ (H : Heap) (locs : List Loc) (ls : Array Slot), va_P D CLS (wh ad ca z u) H → va_S (AH ad) s.heap H locs → lv_has ls 7 [(0, .ref (ad 0 0)), (1, .ref (ad 4 y1)), (2, .int x2), (3, .ref (ad 11 y3)), (4, .int x4)] → W p l e ({ frames := 2, cells := 0, slots := 0, locals := 47 } : Room) s m args below meth c H locs 0 0 (MQ below (va_Qi (fun (r : Int32) (_ : Unit) => r = r0) (fun _ t => va_P D CLS (wh ad ca z u0) t.heap) (AH ad)) args s 0 0 (AH ad)) (F0 m 8 ls [])) : ∀ (u : XC) (y1 : Nat) (x2 : Int32) (y3 : Nat) (x4 : Int32) (w0 : Int32) (hy1 : y1 < 27) (hy3 : y3 < 27) (r0 : Int32) (u0 : XC), Fj_H_sendPhase_37 K8 u y1 x2 y3 x4 w0 = some (r0, u0) → ∀ (H : Heap) (locs : List Loc) (ls : Array Slot), va_P D CLS (wh ad ca z u) H → va_S (AH ad) s.heap H locs → lv_has ls 7 [(0, .ref (ad 0 0)), (1, .ref (ad 4 y1)), (2, .int x2), (3, .ref (ad 11 y3)), (4, .int x4)] → W p l e ({ frames := 2, cells := 0, slots := 0, locals := 47 } : Room) s m args below meth c H locs 0 0 (MQ below (va_Qi (fun (r : Int32) (_ : Unit) => r = r0) (fun _ t => va_P D CLS (wh ad ca z u0) t.heap) (AH ad)) args s 0 0 (AH ad)) (F0 m 37 ls [.int w0]) := by
  intro u y1 x2 y3 x4 w0 hy1 hy3 r0 u0 hF H locs ls hP hS hl
  unfold Fj_H_sendPhase_37 at hF
  refine lv_istore (lv' := [(5, .int w0), (0, .ref (ad 0 0)), (1, .ref (ad 4 y1)), (2, .int x2), (3, .ref (ad 11 y3)), (4, .int x4)]) hx hb d_H_sendPhase_37 hl (by decide) rfl (fun ls hl => ?_)
  refine lv_aload_n hx hb d_H_sendPhase_39 rfl (lv_at hl 1 rfl) ?_
  refine gf_H_2 hx hb hts hown hK hP (by decide) a_207 d_H_sendPhase_40 ?_
  refine lv_iload hx hb d_H_sendPhase_43 (lv_at hl 0 rfl) ?_
  refine lv_aload_n hx hb d_H_sendPhase_45 rfl (lv_at hl 2 rfl) ?_
  refine gf_O_0 hx hb hts hown hK hP hy1 a_152 d_H_sendPhase_46 ?_
  refine lv_iload hx hb d_H_sendPhase_49 (lv_at hl 5 rfl) ?_
  obtain ⟨r8, u10, h9, hF⟩ := bd_u hF
  refine k_vr (ad 3 0) [.int w0, .int (u.1 4 y1 0), .int x4] [] ⟨hx, hb, hml, hown, hts⟩ (c_M_post l D ad ca hD0 (z := z) (u := u)  h9) (w_M_post hts a_452 ⟨Nat.le_of_ble_eq_true rfl, Nat.le_of_ble_eq_true rfl⟩) (rv_M hK hP (by decide)) hP hK hS (fun _ h => h) rfl rfl hl.1 (Nat.le_of_ble_eq_true rfl) ⟨Nat.zero_le _, Nat.zero_le _⟩ d_H_sendPhase_51 (fun H locs hP hS => ?_)
  obtain ⟨h11, hF⟩ := as_u hF
  refine lv_astore (lv' := [(6, .ref (ad 7 r8)), (5, .int w0), (0, .ref (ad 0 0)), (1, .ref (ad 4 y1)), (2, .int x2), (3, .ref (ad 11 y3)), (4, .int x4)]) hx hb d_H_sendPhase_54 hl (by decide) rfl (fun ls hl => ?_)
  refine lv_aload hx hb d_H_sendPhase_56 (lv_at hl 0 rfl) ?_
  refine lv_aload_n hx hb d_H_sendPhase_58 rfl (lv_at hl 5 rfl) ?_
  refine gf_R_2 hx hb hts hown hK hP hy3 a_115 d_H_sendPhase_59 ?_
  obtain ⟨u12, h13, hF⟩ := nm_u hF
  refine pf_L_3 hx hb hts hown hK hP hD hS h11 h13 a_54 d_H_sendPhase_62 (fun H locs hP hS => ?_)
  refine lv_aload hx hb d_H_sendPhase_65 (lv_at hl 0 rfl) ?_
  refine lv_aload_n hx hb d_H_sendPhase_67 rfl (lv_at hl 5 rfl) ?_
  refine gf_R_1 hx hb hts hown hK hP hy3 a_113 d_H_sendPhase_68 ?_
  obtain ⟨u14, h15, hF⟩ := nm_u hF
  refine pf_L_4 hx hb hts hown hK hP hD hS h11 h15 a_57 d_H_sendPhase_71 (fun H locs hP hS => ?_)
  refine lv_aload hx hb d_H_sendPhase_74 (lv_at hl 0 rfl) ?_
  refine lv_aload_n hx hb d_H_sendPhase_76 rfl (lv_at hl 5 rfl) ?_
  refine gf_R_0 hx hb hts hown hK hP hy3 a_111 d_H_sendPhase_77 ?_
  refine lv_iconst (v := 1) hx hb d_H_sendPhase_80 (by decide) ?_
  refine lv_icmp_ne (tgt := 88) hx hb d_H_sendPhase_81 (by decide) (fun h16 => ?_) (fun h16 => ?_)
  · have hF := it_f hF h16
    refine lv_aload_n hx hb d_H_sendPhase_88 rfl (lv_at hl 5 rfl) ?_
    refine gf_R_7 hx hb hts hown hK hP hy3 a_125 d_H_sendPhase_89 ?_
    obtain ⟨u17, h18, hF⟩ := nm_u hF
    refine pf_L_5 hx hb hts hown hK hP hD hS h11 h18 a_60 d_H_sendPhase_92 (fun H locs hP hS => ?_)
    refine lv_iinc (k := 6) (v := (x4 + 1)) (lv' := [(4, .int (x4 + 1)), (6, .ref (ad 7 r8)), (5, .int w0), (0, .ref (ad 0 0)), (1, .ref (ad 4 y1)), (2, .int x2), (3, .ref (ad 11 y3))]) hx hb d_H_sendPhase_95 hl rfl rfl (by decide) rfl (fun ls hl => ?_)
    refine lv_goto (tgt := 8) hx hb d_H_sendPhase_98 (by decide) ?_
    exact ihK8 u17 y1 x2 y3 (x4 + 1) hy1 hy3 r0 u0 hF _ _ _ hP hS (lv_sub hl [3, 4, 5, 6, 0] rfl)
  · have hF := it_t hF h16
    refine lv_iconst (v := (-1)) hx hb d_H_sendPhase_84 (by decide) ?_
    refine lv_goto (tgt := 92) hx hb d_H_sendPhase_85 (by decide) ?_
    obtain ⟨u19, h20, hF⟩ := nm_u hF
    refine pf_L_5 hx hb hts hown hK hP hD hS h11 h20 a_60 d_H_sendPhase_92 (fun H locs hP hS => ?_)
    refine lv_iinc (k := 6) (v := (x4 + 1)) (lv' := [(4, .int (x4 + 1)), (6, .ref (ad 7 r8)), (5, .int w0), (0, .ref (ad 0 0)), (1, .ref (ad 4 y1)), (2, .int x2), (3, .ref (ad 11 y3))]) hx hb d_H_sendPhase_95 hl rfl rfl (by decide) rfl (fun ls hl => ?_)
    refine lv_goto (tgt := 8) hx hb d_H_sendPhase_98 (by decide) ?_
    exact ihK8 u19 y1 x2 y3 (x4 + 1) hy1 hy3 r0 u0 hF _ _ _ hP hS (lv_sub hl [3, 4, 5, 6, 0] rfl)
set_option maxHeartbeats 4000000 in
set_option maxRecDepth 100000 in
theorem lp_H_sendPhase_8 {p : Program} {l : Launch} {e : Env} {s : State} {m : MethodId} {args : Array Value} {below : List Frame} {meth : Method} {c : Code} {D : va_G} {ad : Nat → Nat → Nat} {ca : Nat → ClassId} {z : ZW} (hx : p.tables.exec = Jvm.exec) (hb : c.code = b_H_sendPhase) (hr : meth.sig.returnType = (some .int)) (hts : ∀ w ∈ ALL, w.before args s = true) (hown : s.vm.findClass R_H = some m.cls) (hlocks : meth.locks = false) (hml : c.maxLocals = 7) (hK : va_K D CLS (TYH ca) s) (hD0 : ∀ z u, va_D (AH ad) (wh ad ca z u)) (hD : ∀ z u, va_D (AH ad) (wh ad ca z u))  : ∀ (n : Nat), ∀ (u : XC) (y1 : Nat) (x2 : Int32) (y3 : Nat) (x4 : Int32) (hy1 : y1 < 27) (hy3 : y3 < 27) (r0 : Int32) (u0 : XC), Fl_H_sendPhase_8  n u y1 x2 y3 x4 = some (r0, u0) → ∀ (H : Heap) (locs : List Loc) (ls : Array Slot), va_P D CLS (wh ad ca z u) H → va_S (AH ad) s.heap H locs → lv_has ls 7 [(0, .ref (ad 0 0)), (1, .ref (ad 4 y1)), (2, .int x2), (3, .ref (ad 11 y3)), (4, .int x4)] → W p l e ({ frames := 2, cells := 0, slots := 0, locals := 47 } : Room) s m args below meth c H locs 0 0 (MQ below (va_Qi (fun (r : Int32) (_ : Unit) => r = r0) (fun _ t => va_P D CLS (wh ad ca z u0) t.heap) (AH ad)) args s 0 0 (AH ad)) (F0 m 8 ls []) := by
  intro n
  induction n with
  | zero => intro u y1 x2 y3 x4 hy1 hy3 r0 u0 hF; rw [Fl_H_sendPhase_8] at hF; cases hF
  | succ n ih =>
    intro u y1 x2 y3 x4 hy1 hy3 r0 u0 hF H locs ls hP hS hl
    rw [Fl_H_sendPhase_8] at hF
    refine lv_iload hx hb d_H_sendPhase_8 (lv_at hl 4 rfl) ?_
    refine lv_bipush (v := 27) hx hb d_H_sendPhase_10 (by decide) ?_
    refine lv_icmp_ge (tgt := 101) hx hb d_H_sendPhase_12 (by decide) (fun h1 => ?_) (fun h1 => ?_)
    · have hF := it_t hF h1
      refine lv_iload_n hx hb d_H_sendPhase_101 rfl (lv_at hl 2 rfl) ?_
      obtain ⟨r2, h3, hF⟩ := bs_u hF
      refine k_sp [.int x2] [] ⟨hx, hb, hml, hown, hts⟩ (c_JI_bitCount l  h3) (w_JI_bitCount hts a_453 ⟨Nat.le_of_ble_eq_true rfl, Nat.le_of_ble_eq_true rfl⟩) rfl rfl hl.1 (Nat.le_of_ble_eq_true rfl) ⟨Nat.zero_le _, Nat.zero_le _⟩ d_H_sendPhase_102 ?_
      obtain ⟨rfl, rfl⟩ := rt2 hF
      exact W.iret (v := r2) hx hb hr (fun t ht hW => ⟨⟨_, (), rfl, rfl, vp_at ht hP⟩, hS.F ht⟩) hS.2.2 d_H_sendPhase_105
    · have hF := it_f hF h1
      refine lv_iload_n hx hb d_H_sendPhase_15 rfl (lv_at hl 2 rfl) ?_
      refine lv_iload hx hb d_H_sendPhase_16 (lv_at hl 4 rfl) ?_
      obtain ⟨r4, h5, hF⟩ := bs_u hF
      refine k_sp [.int x2, .int x4] [] ⟨hx, hb, hml, hown, hts⟩ (c_S_has l  h5) (w_S_has hts a_449 ⟨Nat.le_of_ble_eq_true rfl, Nat.le_of_ble_eq_true rfl⟩) rfl rfl hl.1 (Nat.le_of_ble_eq_true rfl) ⟨Nat.zero_le _, Nat.zero_le _⟩ d_H_sendPhase_18 ?_
      refine lv_if_eq (tgt := 95) hx hb d_H_sendPhase_21 (by decide) (fun h6 => ?_) (fun h6 => ?_)
      · have hF := it_t hF h6
        refine lv_iinc (k := 4) (v := (x4 + 1)) (lv' := [(4, .int (x4 + 1)), (0, .ref (ad 0 0)), (1, .ref (ad 4 y1)), (2, .int x2), (3, .ref (ad 11 y3))]) hx hb d_H_sendPhase_95 hl rfl rfl (by decide) rfl (fun ls hl => ?_)
        refine lv_goto (tgt := 8) hx hb d_H_sendPhase_98 (by decide) ?_
        exact ih u y1 x2 y3 (x4 + 1) hy1 hy3 r0 u0 hF _ _ _ hP hS (lv_sub hl [1, 2, 3, 4, 0] rfl)
      · have hF := it_f hF h6
        refine lv_aload_n hx hb d_H_sendPhase_24 rfl (lv_at hl 3 rfl) ?_
        refine gf_R_0 hx hb hts hown hK hP hy3 a_111 d_H_sendPhase_25 ?_
        refine lv_iconst (v := 1) hx hb d_H_sendPhase_28 (by decide) ?_
        refine lv_icmp_ne (tgt := 36) hx hb d_H_sendPhase_29 (by decide) (fun h7 => ?_) (fun h7 => ?_)
        · have hF := it_f hF h7
          refine lv_iconst (v := 3) hx hb d_H_sendPhase_36 (by decide) ?_
          exact jn_H_sendPhase_37 hx hb hr hts hown hlocks hml hK hD0 hD ih u y1 x2 y3 x4 3 hy1 hy3 r0 u0 hF _ _ _ hP hS (lv_sub hl [0, 1, 2, 3, 4] rfl)
        · have hF := it_t hF h7
          refine lv_iconst (v := 0) hx hb d_H_sendPhase_32 (by decide) ?_
          refine lv_goto (tgt := 37) hx hb d_H_sendPhase_33 (by decide) ?_
          exact jn_H_sendPhase_37 hx hb hr hts hown hlocks hml hK hD0 hD ih u y1 x2 y3 x4 0 hy1 hy3 r0 u0 hF _ _ _ hP hS (lv_sub hl [0, 1, 2, 3, 4] rfl)
set_option maxHeartbeats 4000000 in
set_option maxRecDepth 100000 in
theorem c_H_sendPhase (l : Launch) (D : va_G) (ad : Nat → Nat → Nat) (ca : Nat → ClassId) (hD0 : ∀ z u, va_D (AH ad) (wh ad ca z u)) {z : ZW} {u : XC} {j1 : Nat} {a2 : Int32} {r0 : Int32} {u0 : XC} (hj1 : j1 < 27) (hF : F_H_sendPhase u j1 a2 = some (r0, u0)) : Met l y_H_sendPhase ws_H_sendPhase ({ frames := 2, cells := 0, slots := 0, locals := 47 } : Room) (va_Pc [.ref (ad 0 0), .ref (ad 4 j1), .int a2] (fun U => va_P D CLS (wh ad ca z u) U.heap ∧ va_K D CLS (TYH ca) U)) (va_Qi (fun (r : Int32) (_ : Unit) => r = r0) (fun _ t => va_P D CLS (wh ad ca z u0) t.heap) (AH ad)) 0 0 (AH ad) := by
  refine Met.ofW (cc := b_H_sendPhase) (maxL := 7) (ret := (some .int)) (by decide +kernel) rfl ?_
  intro p e s m args below meth c s₁ B hml hv
  obtain ⟨rfl, hP, hK⟩ := hv
  have hx := B.exec
  have hb := B.bytes
  have hr := B.returns
  have hts : ∀ w ∈ ALL, w.before _ s = true := fun w h => atoms_spec (ws := ws_H_sendPhase) B.pre w (List.mem_cons_of_mem _ h)
  have hown : s.vm.findClass R_H = some m.cls := findClass_of_methodNamed B.named
  have hlocks := B.notSynchronized
  have hD := hD0
  have hS : va_S (AH ad) s.heap s.heap [] := va_S.rf
  have hP : va_P D CLS (wh ad ca z u) s.heap := hP
  have hl := lv_entry ([.ref (ad 0 0), .ref (ad 4 j1), .int a2]) (n := 7) (Nat.le_of_ble_eq_true rfl)
  rw [lg_entry_eq]
  generalize (lg_sl ([.ref (ad 0 0), .ref (ad 4 j1), .int a2]) ++ List.replicate (7 - (lg_sl ([.ref (ad 0 0), .ref (ad 4 j1), .int a2])).length) Slot.unset).toArray = ls at hl ⊢
  have hl : lv_has ls 7 [(0, .ref (ad 0 0)), (1, .ref (ad 4 j1)), (2, .int a2)] := hl
  unfold F_H_sendPhase at hF
  refine lv_aload_n hx hb d_H_sendPhase_0 rfl (lv_at hl 1 rfl) ?_
  refine gf_O_7 hx hb hts hown hK hP hj1 a_166 d_H_sendPhase_1 ?_
  refine lv_astore_n (lv' := [(3, .ref (ad 11 j1)), (0, .ref (ad 0 0)), (1, .ref (ad 4 j1)), (2, .int a2)]) hx hb d_H_sendPhase_4 rfl hl (by decide) rfl (fun ls hl => ?_)
  refine lv_iconst (v := 0) hx hb d_H_sendPhase_5 (by decide) ?_
  refine lv_istore (lv' := [(4, .int 0), (3, .ref (ad 11 j1)), (0, .ref (ad 0 0)), (1, .ref (ad 4 j1)), (2, .int a2)]) hx hb d_H_sendPhase_6 hl (by decide) rfl (fun ls hl => ?_)
  exact lp_H_sendPhase_8 hx hb hr hts hown hlocks hml hK hD0 hD  200 u j1 a2 j1 0 hj1 hj1 r0 u0 hF _ _ _ hP hS (lv_sub hl [2, 3, 4, 1, 0] rfl)
def ws_H_tellNeighbours : List Cond := Cond.code y_H_tellNeighbours b_H_tellNeighbours 6 (some .int) :: ALL
theorem w_H_tellNeighbours {R : Room} {s : State} {args : Array Value} {own : String} {index : Nat} (hts : ∀ w ∈ ALL, w.before args s = true) (hlk : Cond.methodLink own index y_H_tellNeighbours ∈ ALL) (hR : (({ frames := 2, cells := 0, slots := 0, locals := 47 } : Room)).frames + 1 ≤ R.frames ∧ 8 + (6 + 11) + (({ frames := 2, cells := 0, slots := 0, locals := 47 } : Room)).locals ≤ R.locals) : CallW R s args own R_H index y_H_tellNeighbours b_H_tellNeighbours 6 (some .int) ws_H_tellNeighbours ({ frames := 2, cells := 0, slots := 0, locals := 47 } : Room) 0 0 2 := ⟨callB_of 2 hts (good_c a_488) rfl rfl rfl (hts _ a_1) (hts _ hlk) (by decide +kernel) hR, hts _ a_487, hts _ a_s4⟩
theorem d_H_tellNeighbours_0 : decode b_H_tellNeighbours 0 = .ok (.iconst 0, 1) := by decide +kernel
theorem d_H_tellNeighbours_1 : decode b_H_tellNeighbours 1 = .ok (.istore_n 3, 1) := by decide +kernel
theorem d_H_tellNeighbours_2 : decode b_H_tellNeighbours 2 = .ok (.iconst 0, 1) := by decide +kernel
theorem d_H_tellNeighbours_3 : decode b_H_tellNeighbours 3 = .ok (.istore 4, 2) := by decide +kernel
theorem d_H_tellNeighbours_5 : decode b_H_tellNeighbours 5 = .ok (.iload 4, 2) := by decide +kernel
theorem d_H_tellNeighbours_7 : decode b_H_tellNeighbours 7 = .ok (.bipush 27, 2) := by decide +kernel
theorem d_H_tellNeighbours_9 : decode b_H_tellNeighbours 9 = .ok (.if_icmp .ge 57, 3) := by decide +kernel
theorem d_H_tellNeighbours_12 : decode b_H_tellNeighbours 12 = .ok (.aload_n 1, 1) := by decide +kernel
theorem d_H_tellNeighbours_13 : decode b_H_tellNeighbours 13 = .ok (.getfield 226, 3) := by decide +kernel
theorem d_H_tellNeighbours_16 : decode b_H_tellNeighbours 16 = .ok (.iload 4, 2) := by decide +kernel
theorem d_H_tellNeighbours_18 : decode b_H_tellNeighbours 18 = .ok (.invokestatic 244, 3) := by decide +kernel
theorem d_H_tellNeighbours_21 : decode b_H_tellNeighbours 21 = .ok (.ifCond .eq 39, 3) := by decide +kernel
theorem d_H_tellNeighbours_24 : decode b_H_tellNeighbours 24 = .ok (.aload_n 0, 1) := by decide +kernel
theorem d_H_tellNeighbours_25 : decode b_H_tellNeighbours 25 = .ok (.getfield 24, 3) := by decide +kernel
theorem d_H_tellNeighbours_28 : decode b_H_tellNeighbours 28 = .ok (.iconst 5, 1) := by decide +kernel
theorem d_H_tellNeighbours_29 : decode b_H_tellNeighbours 29 = .ok (.aload_n 1, 1) := by decide +kernel
theorem d_H_tellNeighbours_30 : decode b_H_tellNeighbours 30 = .ok (.getfield 226, 3) := by decide +kernel
theorem d_H_tellNeighbours_33 : decode b_H_tellNeighbours 33 = .ok (.iload 4, 2) := by decide +kernel
theorem d_H_tellNeighbours_35 : decode b_H_tellNeighbours 35 = .ok (.invokevirtual 235, 3) := by decide +kernel
theorem d_H_tellNeighbours_38 : decode b_H_tellNeighbours 38 = .ok (.astore 5, 2) := by decide +kernel
theorem d_H_tellNeighbours_40 : decode b_H_tellNeighbours 40 = .ok (.aload 5, 2) := by decide +kernel
theorem d_H_tellNeighbours_42 : decode b_H_tellNeighbours 42 = .ok (.iload_n 2, 1) := by decide +kernel
theorem d_H_tellNeighbours_43 : decode b_H_tellNeighbours 43 = .ok (.putfield 165, 3) := by decide +kernel
theorem d_H_tellNeighbours_46 : decode b_H_tellNeighbours 46 = .ok (.aload 5, 2) := by decide +kernel
theorem d_H_tellNeighbours_48 : decode b_H_tellNeighbours 48 = .ok (.aload_n 1, 1) := by decide +kernel
theorem d_H_tellNeighbours_49 : decode b_H_tellNeighbours 49 = .ok (.getfield 129, 3) := by decide +kernel
theorem d_H_tellNeighbours_52 : decode b_H_tellNeighbours 52 = .ok (.iload_n 2, 1) := by decide +kernel
theorem d_H_tellNeighbours_53 : decode b_H_tellNeighbours 53 = .ok (.iaload, 1) := by decide +kernel
theorem d_H_tellNeighbours_54 : decode b_H_tellNeighbours 54 = .ok (.putfield 166, 3) := by decide +kernel
theorem d_H_tellNeighbours_57 : decode b_H_tellNeighbours 57 = .ok (.iinc 3 1, 3) := by decide +kernel
theorem d_H_tellNeighbours_60 : decode b_H_tellNeighbours 60 = .ok (.iinc 4 1, 3) := by decide +kernel
theorem d_H_tellNeighbours_63 : decode b_H_tellNeighbours 63 = .ok (.goto (-58), 3) := by decide +kernel
theorem d_H_tellNeighbours_66 : decode b_H_tellNeighbours 66 = .ok (.iload_n 3, 1) := by decide +kernel
theorem d_H_tellNeighbours_67 : decode b_H_tellNeighbours 67 = .ok (.ireturn, 1) := by decide +kernel
def Fl_H_tellNeighbours_5  : Nat → XC → Nat → Int32 → Int32 → Int32 → Option (Int32 × XC)
  | 0, _, _, _, _, _ => none
  | n + 1, u, y1, x2, x3, x4 => (if 27 ≤ x4 then some (x3, u) else (bs_ (F_S_areNeighbours (u.1 4 y1 0) x4) fun r2 => (if r2 = 0 then (Fl_H_tellNeighbours_5 n) u y1 x2 x3 (x4 + 1) else (bd_ (F_M_post u 5 (u.1 4 y1 0) x4) fun r5 u7 => (if r5 < 152 then (nm_ (pu u7 7 r5 4 x2) fun u9 => (if 0 ≤ x2 ∧ (x2).toNatClampNeg < 6 then (nm_ (pu u9 7 r5 5 (u9.1 10 y1 (x2).toNatClampNeg)) fun u12 => (Fl_H_tellNeighbours_5 n) u12 y1 x2 (x3 + 1) (x4 + 1)) else none)) else none)))))
def F_H_tellNeighbours (u : XC) (j1 : Nat) (a2 : Int32) : Option (Int32 × XC) := Fl_H_tellNeighbours_5  200 u j1 a2 0 0
set_option maxHeartbeats 4000000 in
set_option maxRecDepth 100000 in
theorem lp_H_tellNeighbours_5 {p : Program} {l : Launch} {e : Env} {s : State} {m : MethodId} {args : Array Value} {below : List Frame} {meth : Method} {c : Code} {D : va_G} {ad : Nat → Nat → Nat} {ca : Nat → ClassId} {z : ZW} (hx : p.tables.exec = Jvm.exec) (hb : c.code = b_H_tellNeighbours) (hr : meth.sig.returnType = (some .int)) (hts : ∀ w ∈ ALL, w.before args s = true) (hown : s.vm.findClass R_H = some m.cls) (hlocks : meth.locks = false) (hml : c.maxLocals = 6) (hK : va_K D CLS (TYH ca) s) (hD0 : ∀ z u, va_D (AH ad) (wh ad ca z u)) (hD : ∀ z u, va_D (AH ad) (wh ad ca z u))  : ∀ (n : Nat), ∀ (u : XC) (y1 : Nat) (x2 : Int32) (x3 : Int32) (x4 : Int32) (hy1 : y1 < 27) (r0 : Int32) (u0 : XC), Fl_H_tellNeighbours_5  n u y1 x2 x3 x4 = some (r0, u0) → ∀ (H : Heap) (locs : List Loc) (ls : Array Slot), va_P D CLS (wh ad ca z u) H → va_S (AH ad) s.heap H locs → lv_has ls 6 [(0, .ref (ad 0 0)), (1, .ref (ad 4 y1)), (2, .int x2), (3, .int x3), (4, .int x4)] → W p l e ({ frames := 2, cells := 0, slots := 0, locals := 47 } : Room) s m args below meth c H locs 0 0 (MQ below (va_Qi (fun (r : Int32) (_ : Unit) => r = r0) (fun _ t => va_P D CLS (wh ad ca z u0) t.heap) (AH ad)) args s 0 0 (AH ad)) (F0 m 5 ls []) := by
  intro n
  induction n with
  | zero => intro u y1 x2 x3 x4 hy1 r0 u0 hF; rw [Fl_H_tellNeighbours_5] at hF; cases hF
  | succ n ih =>
    intro u y1 x2 x3 x4 hy1 r0 u0 hF H locs ls hP hS hl
    rw [Fl_H_tellNeighbours_5] at hF
    refine lv_iload hx hb d_H_tellNeighbours_5 (lv_at hl 4 rfl) ?_
    refine lv_bipush (v := 27) hx hb d_H_tellNeighbours_7 (by decide) ?_
    refine lv_icmp_ge (tgt := 66) hx hb d_H_tellNeighbours_9 (by decide) (fun h1 => ?_) (fun h1 => ?_)
    · have hF := it_t hF h1
      refine lv_iload_n hx hb d_H_tellNeighbours_66 rfl (lv_at hl 3 rfl) ?_
      obtain ⟨rfl, rfl⟩ := rt2 hF
      exact W.iret (v := x3) hx hb hr (fun t ht hW => ⟨⟨_, (), rfl, rfl, vp_at ht hP⟩, hS.F ht⟩) hS.2.2 d_H_tellNeighbours_67
    · have hF := it_f hF h1
      refine lv_aload_n hx hb d_H_tellNeighbours_12 rfl (lv_at hl 1 rfl) ?_
      refine gf_O_0 hx hb hts hown hK hP hy1 a_152 d_H_tellNeighbours_13 ?_
      refine lv_iload hx hb d_H_tellNeighbours_16 (lv_at hl 4 rfl) ?_
      obtain ⟨r2, h3, hF⟩ := bs_u hF
      refine k_sp [.int (u.1 4 y1 0), .int x4] [] ⟨hx, hb, hml, hown, hts⟩ (c_S_areNeighbours l  h3) (w_S_areNeighbours hts a_489 ⟨Nat.le_of_ble_eq_true rfl, Nat.le_of_ble_eq_true rfl⟩) rfl rfl hl.1 (Nat.le_of_ble_eq_true rfl) ⟨Nat.zero_le _, Nat.zero_le _⟩ d_H_tellNeighbours_18 ?_
      refine lv_if_eq (tgt := 60) hx hb d_H_tellNeighbours_21 (by decide) (fun h4 => ?_) (fun h4 => ?_)
      · have hF := it_t hF h4
        refine lv_iinc (k := 4) (v := (x4 + 1)) (lv' := [(4, .int (x4 + 1)), (0, .ref (ad 0 0)), (1, .ref (ad 4 y1)), (2, .int x2), (3, .int x3)]) hx hb d_H_tellNeighbours_60 hl rfl rfl (by decide) rfl (fun ls hl => ?_)
        refine lv_goto (tgt := 5) hx hb d_H_tellNeighbours_63 (by decide) ?_
        exact ih u y1 x2 x3 (x4 + 1) hy1 r0 u0 hF _ _ _ hP hS (lv_sub hl [1, 2, 3, 4, 0] rfl)
      · have hF := it_f hF h4
        refine lv_aload_n hx hb d_H_tellNeighbours_24 rfl (lv_at hl 0 rfl) ?_
        refine gf_H_2 hx hb hts hown hK hP (by decide) a_207 d_H_tellNeighbours_25 ?_
        refine lv_iconst (v := 5) hx hb d_H_tellNeighbours_28 (by decide) ?_
        refine lv_aload_n hx hb d_H_tellNeighbours_29 rfl (lv_at hl 1 rfl) ?_
        refine gf_O_0 hx hb hts hown hK hP hy1 a_152 d_H_tellNeighbours_30 ?_
        refine lv_iload hx hb d_H_tellNeighbours_33 (lv_at hl 4 rfl) ?_
        obtain ⟨r5, u7, h6, hF⟩ := bd_u hF
        refine k_vr (ad 3 0) [.int 5, .int (u.1 4 y1 0), .int x4] [] ⟨hx, hb, hml, hown, hts⟩ (c_M_post l D ad ca hD0 (z := z) (u := u)  h6) (w_M_post hts a_452 ⟨Nat.le_of_ble_eq_true rfl, Nat.le_of_ble_eq_true rfl⟩) (rv_M hK hP (by decide)) hP hK hS (fun _ h => h) rfl rfl hl.1 (Nat.le_of_ble_eq_true rfl) ⟨Nat.zero_le _, Nat.zero_le _⟩ d_H_tellNeighbours_35 (fun H locs hP hS => ?_)
        obtain ⟨h8, hF⟩ := as_u hF
        refine lv_astore (lv' := [(5, .ref (ad 7 r5)), (0, .ref (ad 0 0)), (1, .ref (ad 4 y1)), (2, .int x2), (3, .int x3), (4, .int x4)]) hx hb d_H_tellNeighbours_38 hl (by decide) rfl (fun ls hl => ?_)
        refine lv_aload hx hb d_H_tellNeighbours_40 (lv_at hl 0 rfl) ?_
        refine lv_iload_n hx hb d_H_tellNeighbours_42 rfl (lv_at hl 3 rfl) ?_
        obtain ⟨u9, h10, hF⟩ := nm_u hF
        refine pf_L_4 hx hb hts hown hK hP hD hS h8 h10 a_57 d_H_tellNeighbours_43 (fun H locs hP hS => ?_)
        refine lv_aload hx hb d_H_tellNeighbours_46 (lv_at hl 0 rfl) ?_
        refine lv_aload_n hx hb d_H_tellNeighbours_48 rfl (lv_at hl 2 rfl) ?_
        refine gf_O_4 hx hb hts hown hK hP hy1 a_160 d_H_tellNeighbours_49 ?_
        refine lv_iload_n hx hb d_H_tellNeighbours_52 rfl (lv_at hl 3 rfl) ?_
        obtain ⟨h11, hF⟩ := as_u hF
        refine il_10 hx hb hK hP hy1 h11 d_H_tellNeighbours_53 ?_
        obtain ⟨u12, h13, hF⟩ := nm_u hF
        refine pf_L_5 hx hb hts hown hK hP hD hS h8 h13 a_60 d_H_tellNeighbours_54 (fun H locs hP hS => ?_)
        refine lv_iinc (k := 4) (v := (x3 + 1)) (lv' := [(3, .int (x3 + 1)), (5, .ref (ad 7 r5)), (0, .ref (ad 0 0)), (1, .ref (ad 4 y1)), (2, .int x2), (4, .int x4)]) hx hb d_H_tellNeighbours_57 hl rfl rfl (by decide) rfl (fun ls hl => ?_)
        refine lv_iinc (k := 5) (v := (x4 + 1)) (lv' := [(4, .int (x4 + 1)), (3, .int (x3 + 1)), (5, .ref (ad 7 r5)), (0, .ref (ad 0 0)), (1, .ref (ad 4 y1)), (2, .int x2)]) hx hb d_H_tellNeighbours_60 hl rfl rfl (by decide) rfl (fun ls hl => ?_)
        refine lv_goto (tgt := 5) hx hb d_H_tellNeighbours_63 (by decide) ?_
        exact ih u12 y1 x2 (x3 + 1) (x4 + 1) hy1 r0 u0 hF _ _ _ hP hS (lv_sub hl [3, 4, 5, 1, 0] rfl)
set_option maxHeartbeats 4000000 in
set_option maxRecDepth 100000 in
theorem c_H_tellNeighbours (l : Launch) (D : va_G) (ad : Nat → Nat → Nat) (ca : Nat → ClassId) (hD0 : ∀ z u, va_D (AH ad) (wh ad ca z u)) {z : ZW} {u : XC} {j1 : Nat} {a2 : Int32} {r0 : Int32} {u0 : XC} (hj1 : j1 < 27) (hF : F_H_tellNeighbours u j1 a2 = some (r0, u0)) : Met l y_H_tellNeighbours ws_H_tellNeighbours ({ frames := 2, cells := 0, slots := 0, locals := 47 } : Room) (va_Pc [.ref (ad 0 0), .ref (ad 4 j1), .int a2] (fun U => va_P D CLS (wh ad ca z u) U.heap ∧ va_K D CLS (TYH ca) U)) (va_Qi (fun (r : Int32) (_ : Unit) => r = r0) (fun _ t => va_P D CLS (wh ad ca z u0) t.heap) (AH ad)) 0 0 (AH ad) := by
  refine Met.ofW (cc := b_H_tellNeighbours) (maxL := 6) (ret := (some .int)) (by decide +kernel) rfl ?_
  intro p e s m args below meth c s₁ B hml hv
  obtain ⟨rfl, hP, hK⟩ := hv
  have hx := B.exec
  have hb := B.bytes
  have hr := B.returns
  have hts : ∀ w ∈ ALL, w.before _ s = true := fun w h => atoms_spec (ws := ws_H_tellNeighbours) B.pre w (List.mem_cons_of_mem _ h)
  have hown : s.vm.findClass R_H = some m.cls := findClass_of_methodNamed B.named
  have hlocks := B.notSynchronized
  have hD := hD0
  have hS : va_S (AH ad) s.heap s.heap [] := va_S.rf
  have hP : va_P D CLS (wh ad ca z u) s.heap := hP
  have hl := lv_entry ([.ref (ad 0 0), .ref (ad 4 j1), .int a2]) (n := 6) (Nat.le_of_ble_eq_true rfl)
  rw [lg_entry_eq]
  generalize (lg_sl ([.ref (ad 0 0), .ref (ad 4 j1), .int a2]) ++ List.replicate (6 - (lg_sl ([.ref (ad 0 0), .ref (ad 4 j1), .int a2])).length) Slot.unset).toArray = ls at hl ⊢
  have hl : lv_has ls 6 [(0, .ref (ad 0 0)), (1, .ref (ad 4 j1)), (2, .int a2)] := hl
  unfold F_H_tellNeighbours at hF
  refine lv_iconst (v := 0) hx hb d_H_tellNeighbours_0 (by decide) ?_
  refine lv_istore_n (lv' := [(3, .int 0), (0, .ref (ad 0 0)), (1, .ref (ad 4 j1)), (2, .int a2)]) hx hb d_H_tellNeighbours_1 rfl hl (by decide) rfl (fun ls hl => ?_)
  refine lv_iconst (v := 0) hx hb d_H_tellNeighbours_2 (by decide) ?_
  refine lv_istore (lv' := [(4, .int 0), (3, .int 0), (0, .ref (ad 0 0)), (1, .ref (ad 4 j1)), (2, .int a2)]) hx hb d_H_tellNeighbours_3 hl (by decide) rfl (fun ls hl => ?_)
  exact lp_H_tellNeighbours_5 hx hb hr hts hown hlocks hml hK hD0 hD  200 u j1 a2 0 0 hj1 r0 u0 hF _ _ _ hP hS (lv_sub hl [2, 3, 4, 1, 0] rfl)
def ws_H_begin : List Cond := Cond.code y_H_begin b_H_begin 5 (some .int) :: ALL
theorem w_H_begin {R : Room} {s : State} {args : Array Value} {own : String} {index : Nat} (hts : ∀ w ∈ ALL, w.before args s = true) (hlk : Cond.methodLink own index y_H_begin ∈ ALL) (hR : (({ frames := 3, cells := 0, slots := 0, locals := 77 } : Room)).frames + 1 ≤ R.frames ∧ 8 + (5 + 11) + (({ frames := 3, cells := 0, slots := 0, locals := 77 } : Room)).locals ≤ R.locals) : CallW R s args own R_H index y_H_begin b_H_begin 5 (some .int) ws_H_begin ({ frames := 3, cells := 0, slots := 0, locals := 77 } : Room) 0 0 2 := ⟨callB_of 2 hts (good_c a_440) rfl rfl rfl (hts _ a_1) (hts _ hlk) (by decide +kernel) hR, hts _ a_439, hts _ a_s2⟩
theorem d_H_begin_0 : decode b_H_begin 0 = .ok (.aload_n 1, 1) := by decide +kernel
theorem d_H_begin_1 : decode b_H_begin 1 = .ok (.getfield 70, 3) := by decide +kernel
theorem d_H_begin_4 : decode b_H_begin 4 = .ok (.astore_n 3, 1) := by decide +kernel
theorem d_H_begin_5 : decode b_H_begin 5 = .ok (.aload_n 3, 1) := by decide +kernel
theorem d_H_begin_6 : decode b_H_begin 6 = .ok (.aload_n 1, 1) := by decide +kernel
theorem d_H_begin_7 : decode b_H_begin 7 = .ok (.invokevirtual 79, 3) := by decide +kernel
theorem d_H_begin_10 : decode b_H_begin 10 = .ok (.putfield 98, 3) := by decide +kernel
theorem d_H_begin_13 : decode b_H_begin 13 = .ok (.aload_n 3, 1) := by decide +kernel
theorem d_H_begin_14 : decode b_H_begin 14 = .ok (.getfield 98, 3) := by decide +kernel
theorem d_H_begin_17 : decode b_H_begin 17 = .ok (.bipush 6, 2) := by decide +kernel
theorem d_H_begin_19 : decode b_H_begin 19 = .ok (.if_icmp .ne 10, 3) := by decide +kernel
theorem d_H_begin_22 : decode b_H_begin 22 = .ok (.aload_n 3, 1) := by decide +kernel
theorem d_H_begin_23 : decode b_H_begin 23 = .ok (.iconst 0, 1) := by decide +kernel
theorem d_H_begin_24 : decode b_H_begin 24 = .ok (.putfield 74, 3) := by decide +kernel
theorem d_H_begin_27 : decode b_H_begin 27 = .ok (.iconst 0, 1) := by decide +kernel
theorem d_H_begin_28 : decode b_H_begin 28 = .ok (.ireturn, 1) := by decide +kernel
theorem d_H_begin_29 : decode b_H_begin 29 = .ok (.aload_n 1, 1) := by decide +kernel
theorem d_H_begin_30 : decode b_H_begin 30 = .ok (.getfield 202, 3) := by decide +kernel
theorem d_H_begin_33 : decode b_H_begin 33 = .ok (.iload_n 2, 1) := by decide +kernel
theorem d_H_begin_34 : decode b_H_begin 34 = .ok (.invokestatic 221, 3) := by decide +kernel
theorem d_H_begin_37 : decode b_H_begin 37 = .ok (.bipush 27, 2) := by decide +kernel
theorem d_H_begin_39 : decode b_H_begin 39 = .ok (.idiv, 1) := by decide +kernel
theorem d_H_begin_40 : decode b_H_begin 40 = .ok (.iconst 1, 1) := by decide +kernel
theorem d_H_begin_41 : decode b_H_begin 41 = .ok (.iadd, 1) := by decide +kernel
theorem d_H_begin_42 : decode b_H_begin 42 = .ok (.istore 4, 2) := by decide +kernel
theorem d_H_begin_44 : decode b_H_begin 44 = .ok (.aload_n 3, 1) := by decide +kernel
theorem d_H_begin_45 : decode b_H_begin 45 = .ok (.bipush 27, 2) := by decide +kernel
theorem d_H_begin_47 : decode b_H_begin 47 = .ok (.iload 4, 2) := by decide +kernel
theorem d_H_begin_49 : decode b_H_begin 49 = .ok (.imul, 1) := by decide +kernel
theorem d_H_begin_50 : decode b_H_begin 50 = .ok (.aload_n 1, 1) := by decide +kernel
theorem d_H_begin_51 : decode b_H_begin 51 = .ok (.getfield 226, 3) := by decide +kernel
theorem d_H_begin_54 : decode b_H_begin 54 = .ok (.iadd, 1) := by decide +kernel
theorem d_H_begin_55 : decode b_H_begin 55 = .ok (.putfield 201, 3) := by decide +kernel
theorem d_H_begin_58 : decode b_H_begin 58 = .ok (.aload_n 1, 1) := by decide +kernel
theorem d_H_begin_59 : decode b_H_begin 59 = .ok (.aload_n 3, 1) := by decide +kernel
theorem d_H_begin_60 : decode b_H_begin 60 = .ok (.getfield 201, 3) := by decide +kernel
theorem d_H_begin_63 : decode b_H_begin 63 = .ok (.putfield 202, 3) := by decide +kernel
theorem d_H_begin_66 : decode b_H_begin 66 = .ok (.aload_n 3, 1) := by decide +kernel
theorem d_H_begin_67 : decode b_H_begin 67 = .ok (.iconst 1, 1) := by decide +kernel
theorem d_H_begin_68 : decode b_H_begin 68 = .ok (.putfield 74, 3) := by decide +kernel
theorem d_H_begin_71 : decode b_H_begin 71 = .ok (.aload_n 3, 1) := by decide +kernel
theorem d_H_begin_72 : decode b_H_begin 72 = .ok (.ldc 110, 2) := by decide +kernel
theorem d_H_begin_74 : decode b_H_begin 74 = .ok (.aload_n 3, 1) := by decide +kernel
theorem d_H_begin_75 : decode b_H_begin 75 = .ok (.getfield 91, 3) := by decide +kernel
theorem d_H_begin_78 : decode b_H_begin 78 = .ok (.iconst (-1), 1) := by decide +kernel
theorem d_H_begin_79 : decode b_H_begin 79 = .ok (.ixor, 1) := by decide +kernel
theorem d_H_begin_80 : decode b_H_begin 80 = .ok (.iand, 1) := by decide +kernel
theorem d_H_begin_81 : decode b_H_begin 81 = .ok (.aload_n 1, 1) := by decide +kernel
theorem d_H_begin_82 : decode b_H_begin 82 = .ok (.getfield 226, 3) := by decide +kernel
theorem d_H_begin_85 : decode b_H_begin 85 = .ok (.invokestatic 111, 3) := by decide +kernel
theorem d_H_begin_88 : decode b_H_begin 88 = .ok (.putfield 117, 3) := by decide +kernel
theorem d_H_begin_91 : decode b_H_begin 91 = .ok (.aload_n 3, 1) := by decide +kernel
theorem d_H_begin_92 : decode b_H_begin 92 = .ok (.iconst 0, 1) := by decide +kernel
theorem d_H_begin_93 : decode b_H_begin 93 = .ok (.putfield 125, 3) := by decide +kernel
theorem d_H_begin_96 : decode b_H_begin 96 = .ok (.aload_n 3, 1) := by decide +kernel
theorem d_H_begin_97 : decode b_H_begin 97 = .ok (.aload_n 3, 1) := by decide +kernel
theorem d_H_begin_98 : decode b_H_begin 98 = .ok (.getfield 88, 3) := by decide +kernel
theorem d_H_begin_101 : decode b_H_begin 101 = .ok (.putfield 229, 3) := by decide +kernel
theorem d_H_begin_104 : decode b_H_begin 104 = .ok (.aload_n 3, 1) := by decide +kernel
theorem d_H_begin_105 : decode b_H_begin 105 = .ok (.iconst 0, 1) := by decide +kernel
theorem d_H_begin_106 : decode b_H_begin 106 = .ok (.putfield 232, 3) := by decide +kernel
theorem d_H_begin_109 : decode b_H_begin 109 = .ok (.aload_n 0, 1) := by decide +kernel
theorem d_H_begin_110 : decode b_H_begin 110 = .ok (.aload_n 1, 1) := by decide +kernel
theorem d_H_begin_111 : decode b_H_begin 111 = .ok (.aload_n 3, 1) := by decide +kernel
theorem d_H_begin_112 : decode b_H_begin 112 = .ok (.getfield 117, 3) := by decide +kernel
theorem d_H_begin_115 : decode b_H_begin 115 = .ok (.invokevirtual 120, 3) := by decide +kernel
theorem d_H_begin_118 : decode b_H_begin 118 = .ok (.ireturn, 1) := by decide +kernel
def F_H_begin (u : XC) (j1 : Nat) (a2 : Int32) : Option (Int32 × XC) := (bs_ (F_O_firstUnknown u j1) fun r1 => (nm_ (pu u 11 j1 1 r1) fun u3 => (if (u3.1 11 j1 1) = 6 then (nm_ (pu u3 11 j1 0 0) fun u27 => some (0, u27)) else (bs_ (F_JM_max (u3.1 4 j1 1) a2) fun r6 => (nm_ (pu u3 11 j1 2 ((27 * ((r6 / 27) + 1)) + (u3.1 4 j1 0))) fun u8 => (nm_ (pu u8 4 j1 1 (u8.1 11 j1 2)) fun u10 => (nm_ (pu u10 11 j1 0 1) fun u12 => (bs_ (F_S_pick (134217727 &&& ((u12.1 11 j1 6) ^^^ (-1))) (u12.1 4 j1 0)) fun r14 => (nm_ (pu u12 11 j1 4 r14) fun u16 => (nm_ (pu u16 11 j1 5 0) fun u18 => (nm_ (pu u18 11 j1 7 (u18.1 11 j1 3)) fun u20 => (nm_ (pu u20 11 j1 8 0) fun u22 => (bd_ (F_H_sendPhase u22 j1 (u22.1 11 j1 4)) fun r24 u26 => some (r24, u26))))))))))))))
set_option maxHeartbeats 4000000 in
set_option maxRecDepth 100000 in
theorem c_H_begin (l : Launch) (D : va_G) (ad : Nat → Nat → Nat) (ca : Nat → ClassId) (hD0 : ∀ z u, va_D (AH ad) (wh ad ca z u)) {z : ZW} {u : XC} {j1 : Nat} {a2 : Int32} {r0 : Int32} {u0 : XC} (hj1 : j1 < 27) (hF : F_H_begin u j1 a2 = some (r0, u0)) : Met l y_H_begin ws_H_begin ({ frames := 3, cells := 0, slots := 0, locals := 77 } : Room) (va_Pc [.ref (ad 0 0), .ref (ad 4 j1), .int a2] (fun U => va_P D CLS (wh ad ca z u) U.heap ∧ va_K D CLS (TYH ca) U)) (va_Qi (fun (r : Int32) (_ : Unit) => r = r0) (fun _ t => va_P D CLS (wh ad ca z u0) t.heap) (AH ad)) 0 0 (AH ad) := by
  refine Met.ofW (cc := b_H_begin) (maxL := 5) (ret := (some .int)) (by decide +kernel) rfl ?_
  intro p e s m args below meth c s₁ B hml hv
  obtain ⟨rfl, hP, hK⟩ := hv
  have hx := B.exec
  have hb := B.bytes
  have hr := B.returns
  have hts : ∀ w ∈ ALL, w.before _ s = true := fun w h => atoms_spec (ws := ws_H_begin) B.pre w (List.mem_cons_of_mem _ h)
  have hown : s.vm.findClass R_H = some m.cls := findClass_of_methodNamed B.named
  have hlocks := B.notSynchronized
  have hD := hD0
  have hS : va_S (AH ad) s.heap s.heap [] := va_S.rf
  have hP : va_P D CLS (wh ad ca z u) s.heap := hP
  have hl := lv_entry ([.ref (ad 0 0), .ref (ad 4 j1), .int a2]) (n := 5) (Nat.le_of_ble_eq_true rfl)
  rw [lg_entry_eq]
  generalize (lg_sl ([.ref (ad 0 0), .ref (ad 4 j1), .int a2]) ++ List.replicate (5 - (lg_sl ([.ref (ad 0 0), .ref (ad 4 j1), .int a2])).length) Slot.unset).toArray = ls at hl ⊢
  have hl : lv_has ls 5 [(0, .ref (ad 0 0)), (1, .ref (ad 4 j1)), (2, .int a2)] := hl
  unfold F_H_begin at hF
  refine lv_aload_n hx hb d_H_begin_0 rfl (lv_at hl 1 rfl) ?_
  refine gf_O_7 hx hb hts hown hK hP hj1 a_166 d_H_begin_1 ?_
  refine lv_astore_n (lv' := [(3, .ref (ad 11 j1)), (0, .ref (ad 0 0)), (1, .ref (ad 4 j1)), (2, .int a2)]) hx hb d_H_begin_4 rfl hl (by decide) rfl (fun ls hl => ?_)
  refine lv_aload_n hx hb d_H_begin_5 rfl (lv_at hl 0 rfl) ?_
  refine lv_aload_n hx hb d_H_begin_6 rfl (lv_at hl 2 rfl) ?_
  obtain ⟨r1, h2, hF⟩ := bs_u hF
  refine k_vp (ad 4 j1) [] [.ref (ad 11 j1)] ⟨hx, hb, hml, hown, hts⟩ (c_O_firstUnknown l D ad ca hD0 (z := z) (u := u) hj1 h2) (w_O_firstUnknown hts a_331 ⟨Nat.le_of_ble_eq_true rfl, Nat.le_of_ble_eq_true rfl⟩) (rv_O hK hP hj1) hP hK rfl rfl hl.1 (Nat.le_of_ble_eq_true rfl) ⟨Nat.zero_le _, Nat.zero_le _⟩ d_H_begin_7 ?_
  obtain ⟨u3, h4, hF⟩ := nm_u hF
  refine pf_R_1 hx hb hts hown hK hP hD hS hj1 h4 a_113 d_H_begin_10 (fun H locs hP hS => ?_)
  refine lv_aload_n hx hb d_H_begin_13 rfl (lv_at hl 0 rfl) ?_
  refine gf_R_1 hx hb hts hown hK hP hj1 a_113 d_H_begin_14 ?_
  refine lv_bipush (v := 6) hx hb d_H_begin_17 (by decide) ?_
  refine lv_icmp_ne (tgt := 29) hx hb d_H_begin_19 (by decide) (fun h5 => ?_) (fun h5 => ?_)
  · have hF := it_f hF h5
    refine lv_aload_n hx hb d_H_begin_29 rfl (lv_at hl 2 rfl) ?_
    refine gf_O_1 hx hb hts hown hK hP hj1 a_154 d_H_begin_30 ?_
    refine lv_iload_n hx hb d_H_begin_33 rfl (lv_at hl 3 rfl) ?_
    obtain ⟨r6, h7, hF⟩ := bs_u hF
    refine k_sp [.int (u3.1 4 j1 1), .int a2] [] ⟨hx, hb, hml, hown, hts⟩ (c_JM_max l  h7) (w_JM_max hts a_441 ⟨Nat.le_of_ble_eq_true rfl, Nat.le_of_ble_eq_true rfl⟩) rfl rfl hl.1 (Nat.le_of_ble_eq_true rfl) ⟨Nat.zero_le _, Nat.zero_le _⟩ d_H_begin_34 ?_
    refine lv_bipush (v := 27) hx hb d_H_begin_37 (by decide) ?_
    refine lv_idiv hx hb d_H_begin_39 (by decide) ?_
    refine lv_iconst (v := 1) hx hb d_H_begin_40 (by decide) ?_
    refine lv_iadd hx hb d_H_begin_41 ?_
    refine lv_istore (lv' := [(4, .int ((r6 / 27) + 1)), (3, .ref (ad 11 j1)), (0, .ref (ad 0 0)), (1, .ref (ad 4 j1)), (2, .int a2)]) hx hb d_H_begin_42 hl (by decide) rfl (fun ls hl => ?_)
    refine lv_aload_n hx hb d_H_begin_44 rfl (lv_at hl 1 rfl) ?_
    refine lv_bipush (v := 27) hx hb d_H_begin_45 (by decide) ?_
    refine lv_iload hx hb d_H_begin_47 (lv_at hl 0 rfl) ?_
    refine lv_imul hx hb d_H_begin_49 ?_
    refine lv_aload_n hx hb d_H_begin_50 rfl (lv_at hl 3 rfl) ?_
    refine gf_O_0 hx hb hts hown hK hP hj1 a_152 d_H_begin_51 ?_
    refine lv_iadd hx hb d_H_begin_54 ?_
    obtain ⟨u8, h9, hF⟩ := nm_u hF
    refine pf_R_2 hx hb hts hown hK hP hD hS hj1 h9 a_115 d_H_begin_55 (fun H locs hP hS => ?_)
    refine lv_aload_n hx hb d_H_begin_58 rfl (lv_at hl 3 rfl) ?_
    refine lv_aload_n hx hb d_H_begin_59 rfl (lv_at hl 1 rfl) ?_
    refine gf_R_2 hx hb hts hown hK hP hj1 a_115 d_H_begin_60 ?_
    obtain ⟨u10, h11, hF⟩ := nm_u hF
    refine pf_O_1 hx hb hts hown hK hP hD hS hj1 h11 a_154 d_H_begin_63 (fun H locs hP hS => ?_)
    refine lv_aload_n hx hb d_H_begin_66 rfl (lv_at hl 1 rfl) ?_
    refine lv_iconst (v := 1) hx hb d_H_begin_67 (by decide) ?_
    obtain ⟨u12, h13, hF⟩ := nm_u hF
    refine pf_R_0 hx hb hts hown hK hP hD hS hj1 h13 a_111 d_H_begin_68 (fun H locs hP hS => ?_)
    refine lv_aload_n hx hb d_H_begin_71 rfl (lv_at hl 1 rfl) ?_
    refine lv_ldc (v := 134217727) hx hb hown (hts _ a_444) d_H_begin_72 ?_
    refine lv_aload_n hx hb d_H_begin_74 rfl (lv_at hl 1 rfl) ?_
    refine gf_R_6 hx hb hts hown hK hP hj1 a_123 d_H_begin_75 ?_
    refine lv_iconst (v := (-1)) hx hb d_H_begin_78 (by decide) ?_
    refine lv_ixor hx hb d_H_begin_79 ?_
    refine lv_iand hx hb d_H_begin_80 ?_
    refine lv_aload_n hx hb d_H_begin_81 rfl (lv_at hl 3 rfl) ?_
    refine gf_O_0 hx hb hts hown hK hP hj1 a_152 d_H_begin_82 ?_
    obtain ⟨r14, h15, hF⟩ := bs_u hF
    refine k_sp [.int (134217727 &&& ((u12.1 11 j1 6) ^^^ (-1))), .int (u12.1 4 j1 0)] [.ref (ad 11 j1)] ⟨hx, hb, hml, hown, hts⟩ (c_S_pick l  h15) (w_S_pick hts a_303 ⟨Nat.le_of_ble_eq_true rfl, Nat.le_of_ble_eq_true rfl⟩) rfl rfl hl.1 (Nat.le_of_ble_eq_true rfl) ⟨Nat.zero_le _, Nat.zero_le _⟩ d_H_begin_85 ?_
    obtain ⟨u16, h17, hF⟩ := nm_u hF
    refine pf_R_4 hx hb hts hown hK hP hD hS hj1 h17 a_119 d_H_begin_88 (fun H locs hP hS => ?_)
    refine lv_aload_n hx hb d_H_begin_91 rfl (lv_at hl 1 rfl) ?_
    refine lv_iconst (v := 0) hx hb d_H_begin_92 (by decide) ?_
    obtain ⟨u18, h19, hF⟩ := nm_u hF
    refine pf_R_5 hx hb hts hown hK hP hD hS hj1 h19 a_121 d_H_begin_93 (fun H locs hP hS => ?_)
    refine lv_aload_n hx hb d_H_begin_96 rfl (lv_at hl 1 rfl) ?_
    refine lv_aload_n hx hb d_H_begin_97 rfl (lv_at hl 1 rfl) ?_
    refine gf_R_3 hx hb hts hown hK hP hj1 a_117 d_H_begin_98 ?_
    obtain ⟨u20, h21, hF⟩ := nm_u hF
    refine pf_R_7 hx hb hts hown hK hP hD hS hj1 h21 a_125 d_H_begin_101 (fun H locs hP hS => ?_)
    refine lv_aload_n hx hb d_H_begin_104 rfl (lv_at hl 1 rfl) ?_
    refine lv_iconst (v := 0) hx hb d_H_begin_105 (by decide) ?_
    obtain ⟨u22, h23, hF⟩ := nm_u hF
    refine pf_R_8 hx hb hts hown hK hP hD hS hj1 h23 a_127 d_H_begin_106 (fun H locs hP hS => ?_)
    refine lv_aload_n hx hb d_H_begin_109 rfl (lv_at hl 2 rfl) ?_
    refine lv_aload_n hx hb d_H_begin_110 rfl (lv_at hl 3 rfl) ?_
    refine lv_aload_n hx hb d_H_begin_111 rfl (lv_at hl 1 rfl) ?_
    refine gf_R_4 hx hb hts hown hK hP hj1 a_119 d_H_begin_112 ?_
    obtain ⟨r24, u26, h25, hF⟩ := bd_u hF
    refine k_vi (ad 0 0) [.ref (ad 4 j1), .int (u22.1 11 j1 4)] [] ⟨hx, hb, hml, hown, hts⟩ (c_H_sendPhase l D ad ca hD0 (z := z) (u := u22) hj1 h25) (w_H_sendPhase hts a_445 ⟨Nat.le_of_ble_eq_true rfl, Nat.le_of_ble_eq_true rfl⟩) (rv_H hK hP (by decide)) hP hK hS (fun _ h => h) rfl rfl hl.1 (Nat.le_of_ble_eq_true rfl) ⟨Nat.zero_le _, Nat.zero_le _⟩ d_H_begin_115 (fun H locs hP hS => ?_)
    obtain ⟨rfl, rfl⟩ := rt2 hF
    exact W.iret (v := r24) hx hb hr (fun t ht hW => ⟨⟨_, (), rfl, rfl, vp_at ht hP⟩, hS.F ht⟩) hS.2.2 d_H_begin_118
  · have hF := it_t hF h5
    refine lv_aload_n hx hb d_H_begin_22 rfl (lv_at hl 0 rfl) ?_
    refine lv_iconst (v := 0) hx hb d_H_begin_23 (by decide) ?_
    obtain ⟨u27, h28, hF⟩ := nm_u hF
    refine pf_R_0 hx hb hts hown hK hP hD hS hj1 h28 a_111 d_H_begin_24 (fun H locs hP hS => ?_)
    refine lv_iconst (v := 0) hx hb d_H_begin_27 (by decide) ?_
    obtain ⟨rfl, rfl⟩ := rt2 hF
    exact W.iret (v := 0) hx hb hr (fun t ht hW => ⟨⟨_, (), rfl, rfl, vp_at ht hP⟩, hS.F ht⟩) hS.2.2 d_H_begin_28
def ws_H_refuse : List Cond := Cond.code y_H_refuse b_H_refuse 4 (some .int) :: ALL
theorem w_H_refuse {R : Room} {s : State} {args : Array Value} {own : String} {index : Nat} (hts : ∀ w ∈ ALL, w.before args s = true) (hlk : Cond.methodLink own index y_H_refuse ∈ ALL) (hR : (({ frames := 2, cells := 0, slots := 0, locals := 47 } : Room)).frames + 1 ≤ R.frames ∧ 8 + (4 + 11) + (({ frames := 2, cells := 0, slots := 0, locals := 47 } : Room)).locals ≤ R.locals) : CallW R s args own R_H index y_H_refuse b_H_refuse 4 (some .int) ws_H_refuse ({ frames := 2, cells := 0, slots := 0, locals := 47 } : Room) 0 0 2 := ⟨callB_of 2 hts (good_c a_531) rfl rfl rfl (hts _ a_1) (hts _ hlk) (by decide +kernel) hR, hts _ a_530, hts _ a_s6⟩
theorem d_H_refuse_0 : decode b_H_refuse 0 = .ok (.aload_n 0, 1) := by decide +kernel
theorem d_H_refuse_1 : decode b_H_refuse 1 = .ok (.getfield 24, 3) := by decide +kernel
theorem d_H_refuse_4 : decode b_H_refuse 4 = .ok (.iconst 2, 1) := by decide +kernel
theorem d_H_refuse_5 : decode b_H_refuse 5 = .ok (.aload_n 1, 1) := by decide +kernel
theorem d_H_refuse_6 : decode b_H_refuse 6 = .ok (.getfield 226, 3) := by decide +kernel
theorem d_H_refuse_9 : decode b_H_refuse 9 = .ok (.aload_n 2, 1) := by decide +kernel
theorem d_H_refuse_10 : decode b_H_refuse 10 = .ok (.getfield 156, 3) := by decide +kernel
theorem d_H_refuse_13 : decode b_H_refuse 13 = .ok (.invokevirtual 235, 3) := by decide +kernel
theorem d_H_refuse_16 : decode b_H_refuse 16 = .ok (.astore_n 3, 1) := by decide +kernel
theorem d_H_refuse_17 : decode b_H_refuse 17 = .ok (.aload_n 3, 1) := by decide +kernel
theorem d_H_refuse_18 : decode b_H_refuse 18 = .ok (.aload_n 2, 1) := by decide +kernel
theorem d_H_refuse_19 : decode b_H_refuse 19 = .ok (.getfield 162, 3) := by decide +kernel
theorem d_H_refuse_22 : decode b_H_refuse 22 = .ok (.putfield 162, 3) := by decide +kernel
theorem d_H_refuse_25 : decode b_H_refuse 25 = .ok (.aload_n 3, 1) := by decide +kernel
theorem d_H_refuse_26 : decode b_H_refuse 26 = .ok (.aload_n 1, 1) := by decide +kernel
theorem d_H_refuse_27 : decode b_H_refuse 27 = .ok (.getfield 202, 3) := by decide +kernel
theorem d_H_refuse_30 : decode b_H_refuse 30 = .ok (.putfield 166, 3) := by decide +kernel
theorem d_H_refuse_33 : decode b_H_refuse 33 = .ok (.iconst 1, 1) := by decide +kernel
theorem d_H_refuse_34 : decode b_H_refuse 34 = .ok (.ireturn, 1) := by decide +kernel
def F_H_refuse (u : XC) (j1 : Nat) (j2 : Nat) : Option (Int32 × XC) := (bd_ (F_M_post u 2 (u.1 4 j1 0) (u.1 7 j2 1)) fun r1 u3 => (if r1 < 152 then (nm_ (pu u3 7 r1 3 (u3.1 7 j2 3)) fun u5 => (nm_ (pu u5 7 r1 5 (u5.1 4 j1 1)) fun u7 => some (1, u7))) else none))
set_option maxHeartbeats 4000000 in
set_option maxRecDepth 100000 in
theorem c_H_refuse (l : Launch) (D : va_G) (ad : Nat → Nat → Nat) (ca : Nat → ClassId) (hD0 : ∀ z u, va_D (AH ad) (wh ad ca z u)) {z : ZW} {u : XC} {j1 : Nat} {j2 : Nat} {r0 : Int32} {u0 : XC} (hj1 : j1 < 27) (hj2 : j2 < 152) (hF : F_H_refuse u j1 j2 = some (r0, u0)) : Met l y_H_refuse ws_H_refuse ({ frames := 2, cells := 0, slots := 0, locals := 47 } : Room) (va_Pc [.ref (ad 0 0), .ref (ad 4 j1), .ref (ad 7 j2)] (fun U => va_P D CLS (wh ad ca z u) U.heap ∧ va_K D CLS (TYH ca) U)) (va_Qi (fun (r : Int32) (_ : Unit) => r = r0) (fun _ t => va_P D CLS (wh ad ca z u0) t.heap) (AH ad)) 0 0 (AH ad) := by
  refine Met.ofW (cc := b_H_refuse) (maxL := 4) (ret := (some .int)) (by decide +kernel) rfl ?_
  intro p e s m args below meth c s₁ B hml hv
  obtain ⟨rfl, hP, hK⟩ := hv
  have hx := B.exec
  have hb := B.bytes
  have hr := B.returns
  have hts : ∀ w ∈ ALL, w.before _ s = true := fun w h => atoms_spec (ws := ws_H_refuse) B.pre w (List.mem_cons_of_mem _ h)
  have hown : s.vm.findClass R_H = some m.cls := findClass_of_methodNamed B.named
  have hlocks := B.notSynchronized
  have hD := hD0
  have hS : va_S (AH ad) s.heap s.heap [] := va_S.rf
  have hP : va_P D CLS (wh ad ca z u) s.heap := hP
  have hl := lv_entry ([.ref (ad 0 0), .ref (ad 4 j1), .ref (ad 7 j2)]) (n := 4) (Nat.le_of_ble_eq_true rfl)
  rw [lg_entry_eq]
  generalize (lg_sl ([.ref (ad 0 0), .ref (ad 4 j1), .ref (ad 7 j2)]) ++ List.replicate (4 - (lg_sl ([.ref (ad 0 0), .ref (ad 4 j1), .ref (ad 7 j2)])).length) Slot.unset).toArray = ls at hl ⊢
  have hl : lv_has ls 4 [(0, .ref (ad 0 0)), (1, .ref (ad 4 j1)), (2, .ref (ad 7 j2))] := hl
  unfold F_H_refuse at hF
  refine lv_aload_n hx hb d_H_refuse_0 rfl (lv_at hl 0 rfl) ?_
  refine gf_H_2 hx hb hts hown hK hP (by decide) a_207 d_H_refuse_1 ?_
  refine lv_iconst (v := 2) hx hb d_H_refuse_4 (by decide) ?_
  refine lv_aload_n hx hb d_H_refuse_5 rfl (lv_at hl 1 rfl) ?_
  refine gf_O_0 hx hb hts hown hK hP hj1 a_152 d_H_refuse_6 ?_
  refine lv_aload_n hx hb d_H_refuse_9 rfl (lv_at hl 2 rfl) ?_
  refine gf_L_1 hx hb hts hown hK hP hj2 a_48 d_H_refuse_10 ?_
  obtain ⟨r1, u3, h2, hF⟩ := bd_u hF
  refine k_vr (ad 3 0) [.int 2, .int (u.1 4 j1 0), .int (u.1 7 j2 1)] [] ⟨hx, hb, hml, hown, hts⟩ (c_M_post l D ad ca hD0 (z := z) (u := u)  h2) (w_M_post hts a_452 ⟨Nat.le_of_ble_eq_true rfl, Nat.le_of_ble_eq_true rfl⟩) (rv_M hK hP (by decide)) hP hK hS (fun _ h => h) rfl rfl hl.1 (Nat.le_of_ble_eq_true rfl) ⟨Nat.zero_le _, Nat.zero_le _⟩ d_H_refuse_13 (fun H locs hP hS => ?_)
  obtain ⟨h4, hF⟩ := as_u hF
  refine lv_astore_n (lv' := [(3, .ref (ad 7 r1)), (0, .ref (ad 0 0)), (1, .ref (ad 4 j1)), (2, .ref (ad 7 j2))]) hx hb d_H_refuse_16 rfl hl (by decide) rfl (fun ls hl => ?_)
  refine lv_aload_n hx hb d_H_refuse_17 rfl (lv_at hl 0 rfl) ?_
  refine lv_aload_n hx hb d_H_refuse_18 rfl (lv_at hl 3 rfl) ?_
  refine gf_L_3 hx hb hts hown hK hP hj2 a_54 d_H_refuse_19 ?_
  obtain ⟨u5, h6, hF⟩ := nm_u hF
  refine pf_L_3 hx hb hts hown hK hP hD hS h4 h6 a_54 d_H_refuse_22 (fun H locs hP hS => ?_)
  refine lv_aload_n hx hb d_H_refuse_25 rfl (lv_at hl 0 rfl) ?_
  refine lv_aload_n hx hb d_H_refuse_26 rfl (lv_at hl 2 rfl) ?_
  refine gf_O_1 hx hb hts hown hK hP hj1 a_154 d_H_refuse_27 ?_
  obtain ⟨u7, h8, hF⟩ := nm_u hF
  refine pf_L_5 hx hb hts hown hK hP hD hS h4 h8 a_60 d_H_refuse_30 (fun H locs hP hS => ?_)
  refine lv_iconst (v := 1) hx hb d_H_refuse_33 (by decide) ?_
  obtain ⟨rfl, rfl⟩ := rt2 hF
  exact W.iret (v := 1) hx hb hr (fun t ht hW => ⟨⟨_, (), rfl, rfl, vp_at ht hP⟩, hS.F ht⟩) hS.2.2 d_H_refuse_34
def ws_H_hearAsk : List Cond := Cond.code y_H_hearAsk b_H_hearAsk 4 (some .int) :: ALL
theorem w_H_hearAsk {R : Room} {s : State} {args : Array Value} {own : String} {index : Nat} (hts : ∀ w ∈ ALL, w.before args s = true) (hlk : Cond.methodLink own index y_H_hearAsk ∈ ALL) (hR : (({ frames := 3, cells := 0, slots := 0, locals := 70 } : Room)).frames + 1 ≤ R.frames ∧ 8 + (4 + 11) + (({ frames := 3, cells := 0, slots := 0, locals := 70 } : Room)).locals ≤ R.locals) : CallW R s args own R_H index y_H_hearAsk b_H_hearAsk 4 (some .int) ws_H_hearAsk ({ frames := 3, cells := 0, slots := 0, locals := 70 } : Room) 0 0 2 := ⟨callB_of 2 hts (good_c a_527) rfl rfl rfl (hts _ a_1) (hts _ hlk) (by decide +kernel) hR, hts _ a_526, hts _ a_s5⟩
theorem d_H_hearAsk_0 : decode b_H_hearAsk 0 = .ok (.aload_n 2, 1) := by decide +kernel
theorem d_H_hearAsk_1 : decode b_H_hearAsk 1 = .ok (.getfield 162, 3) := by decide +kernel
theorem d_H_hearAsk_4 : decode b_H_hearAsk 4 = .ok (.aload_n 1, 1) := by decide +kernel
theorem d_H_hearAsk_5 : decode b_H_hearAsk 5 = .ok (.getfield 202, 3) := by decide +kernel
theorem d_H_hearAsk_8 : decode b_H_hearAsk 8 = .ok (.if_icmp .ge 10, 3) := by decide +kernel
theorem d_H_hearAsk_11 : decode b_H_hearAsk 11 = .ok (.aload_n 0, 1) := by decide +kernel
theorem d_H_hearAsk_12 : decode b_H_hearAsk 12 = .ok (.aload_n 1, 1) := by decide +kernel
theorem d_H_hearAsk_13 : decode b_H_hearAsk 13 = .ok (.aload_n 2, 1) := by decide +kernel
theorem d_H_hearAsk_14 : decode b_H_hearAsk 14 = .ok (.invokevirtual 247, 3) := by decide +kernel
theorem d_H_hearAsk_17 : decode b_H_hearAsk 17 = .ok (.ireturn, 1) := by decide +kernel
theorem d_H_hearAsk_18 : decode b_H_hearAsk 18 = .ok (.aload_n 1, 1) := by decide +kernel
theorem d_H_hearAsk_19 : decode b_H_hearAsk 19 = .ok (.aload_n 2, 1) := by decide +kernel
theorem d_H_hearAsk_20 : decode b_H_hearAsk 20 = .ok (.getfield 162, 3) := by decide +kernel
theorem d_H_hearAsk_23 : decode b_H_hearAsk 23 = .ok (.putfield 202, 3) := by decide +kernel
theorem d_H_hearAsk_26 : decode b_H_hearAsk 26 = .ok (.aload_n 0, 1) := by decide +kernel
theorem d_H_hearAsk_27 : decode b_H_hearAsk 27 = .ok (.getfield 24, 3) := by decide +kernel
theorem d_H_hearAsk_30 : decode b_H_hearAsk 30 = .ok (.iconst 1, 1) := by decide +kernel
theorem d_H_hearAsk_31 : decode b_H_hearAsk 31 = .ok (.aload_n 1, 1) := by decide +kernel
theorem d_H_hearAsk_32 : decode b_H_hearAsk 32 = .ok (.getfield 226, 3) := by decide +kernel
theorem d_H_hearAsk_35 : decode b_H_hearAsk 35 = .ok (.aload_n 2, 1) := by decide +kernel
theorem d_H_hearAsk_36 : decode b_H_hearAsk 36 = .ok (.getfield 156, 3) := by decide +kernel
theorem d_H_hearAsk_39 : decode b_H_hearAsk 39 = .ok (.invokevirtual 235, 3) := by decide +kernel
theorem d_H_hearAsk_42 : decode b_H_hearAsk 42 = .ok (.astore_n 3, 1) := by decide +kernel
theorem d_H_hearAsk_43 : decode b_H_hearAsk 43 = .ok (.aload_n 3, 1) := by decide +kernel
theorem d_H_hearAsk_44 : decode b_H_hearAsk 44 = .ok (.aload_n 2, 1) := by decide +kernel
theorem d_H_hearAsk_45 : decode b_H_hearAsk 45 = .ok (.getfield 162, 3) := by decide +kernel
theorem d_H_hearAsk_48 : decode b_H_hearAsk 48 = .ok (.putfield 162, 3) := by decide +kernel
theorem d_H_hearAsk_51 : decode b_H_hearAsk 51 = .ok (.aload_n 3, 1) := by decide +kernel
theorem d_H_hearAsk_52 : decode b_H_hearAsk 52 = .ok (.aload_n 2, 1) := by decide +kernel
theorem d_H_hearAsk_53 : decode b_H_hearAsk 53 = .ok (.getfield 165, 3) := by decide +kernel
theorem d_H_hearAsk_56 : decode b_H_hearAsk 56 = .ok (.putfield 165, 3) := by decide +kernel
theorem d_H_hearAsk_59 : decode b_H_hearAsk 59 = .ok (.aload_n 3, 1) := by decide +kernel
theorem d_H_hearAsk_60 : decode b_H_hearAsk 60 = .ok (.aload_n 1, 1) := by decide +kernel
theorem d_H_hearAsk_61 : decode b_H_hearAsk 61 = .ok (.getfield 208, 3) := by decide +kernel
theorem d_H_hearAsk_64 : decode b_H_hearAsk 64 = .ok (.aload_n 2, 1) := by decide +kernel
theorem d_H_hearAsk_65 : decode b_H_hearAsk 65 = .ok (.getfield 165, 3) := by decide +kernel
theorem d_H_hearAsk_68 : decode b_H_hearAsk 68 = .ok (.iaload, 1) := by decide +kernel
theorem d_H_hearAsk_69 : decode b_H_hearAsk 69 = .ok (.putfield 250, 3) := by decide +kernel
theorem d_H_hearAsk_72 : decode b_H_hearAsk 72 = .ok (.aload_n 3, 1) := by decide +kernel
theorem d_H_hearAsk_73 : decode b_H_hearAsk 73 = .ok (.aload_n 1, 1) := by decide +kernel
theorem d_H_hearAsk_74 : decode b_H_hearAsk 74 = .ok (.getfield 251, 3) := by decide +kernel
theorem d_H_hearAsk_77 : decode b_H_hearAsk 77 = .ok (.aload_n 2, 1) := by decide +kernel
theorem d_H_hearAsk_78 : decode b_H_hearAsk 78 = .ok (.getfield 165, 3) := by decide +kernel
theorem d_H_hearAsk_81 : decode b_H_hearAsk 81 = .ok (.iaload, 1) := by decide +kernel
theorem d_H_hearAsk_82 : decode b_H_hearAsk 82 = .ok (.putfield 254, 3) := by decide +kernel
theorem d_H_hearAsk_85 : decode b_H_hearAsk 85 = .ok (.iconst 1, 1) := by decide +kernel
theorem d_H_hearAsk_86 : decode b_H_hearAsk 86 = .ok (.ireturn, 1) := by decide +kernel
def F_H_hearAsk (u : XC) (j1 : Nat) (j2 : Nat) : Option (Int32 × XC) := (if (u.1 4 j1 1) ≤ (u.1 7 j2 3) then (nm_ (pu u 4 j1 1 (u.1 7 j2 3)) fun u2 => (bd_ (F_M_post u2 1 (u2.1 4 j1 0) (u2.1 7 j2 1)) fun r4 u6 => (if r4 < 152 then (nm_ (pu u6 7 r4 3 (u6.1 7 j2 3)) fun u8 => (nm_ (pu u8 7 r4 4 (u8.1 7 j2 4)) fun u10 => (if 0 ≤ (u10.1 7 j2 4) ∧ ((u10.1 7 j2 4)).toNatClampNeg < 6 then (nm_ (pu u10 7 r4 6 (u10.1 8 j1 ((u10.1 7 j2 4)).toNatClampNeg)) fun u13 => (if 0 ≤ (u13.1 7 j2 4) ∧ ((u13.1 7 j2 4)).toNatClampNeg < 6 then (nm_ (pu u13 7 r4 7 (u13.1 9 j1 ((u13.1 7 j2 4)).toNatClampNeg)) fun u16 => some (1, u16)) else none)) else none))) else none))) else (bd_ (F_H_refuse u j1 j2) fun r18 u20 => some (r18, u20)))
set_option maxHeartbeats 4000000 in
set_option maxRecDepth 100000 in
theorem c_H_hearAsk (l : Launch) (D : va_G) (ad : Nat → Nat → Nat) (ca : Nat → ClassId) (hD0 : ∀ z u, va_D (AH ad) (wh ad ca z u)) {z : ZW} {u : XC} {j1 : Nat} {j2 : Nat} {r0 : Int32} {u0 : XC} (hj1 : j1 < 27) (hj2 : j2 < 152) (hF : F_H_hearAsk u j1 j2 = some (r0, u0)) : Met l y_H_hearAsk ws_H_hearAsk ({ frames := 3, cells := 0, slots := 0, locals := 70 } : Room) (va_Pc [.ref (ad 0 0), .ref (ad 4 j1), .ref (ad 7 j2)] (fun U => va_P D CLS (wh ad ca z u) U.heap ∧ va_K D CLS (TYH ca) U)) (va_Qi (fun (r : Int32) (_ : Unit) => r = r0) (fun _ t => va_P D CLS (wh ad ca z u0) t.heap) (AH ad)) 0 0 (AH ad) := by
  refine Met.ofW (cc := b_H_hearAsk) (maxL := 4) (ret := (some .int)) (by decide +kernel) rfl ?_
  intro p e s m args below meth c s₁ B hml hv
  obtain ⟨rfl, hP, hK⟩ := hv
  have hx := B.exec
  have hb := B.bytes
  have hr := B.returns
  have hts : ∀ w ∈ ALL, w.before _ s = true := fun w h => atoms_spec (ws := ws_H_hearAsk) B.pre w (List.mem_cons_of_mem _ h)
  have hown : s.vm.findClass R_H = some m.cls := findClass_of_methodNamed B.named
  have hlocks := B.notSynchronized
  have hD := hD0
  have hS : va_S (AH ad) s.heap s.heap [] := va_S.rf
  have hP : va_P D CLS (wh ad ca z u) s.heap := hP
  have hl := lv_entry ([.ref (ad 0 0), .ref (ad 4 j1), .ref (ad 7 j2)]) (n := 4) (Nat.le_of_ble_eq_true rfl)
  rw [lg_entry_eq]
  generalize (lg_sl ([.ref (ad 0 0), .ref (ad 4 j1), .ref (ad 7 j2)]) ++ List.replicate (4 - (lg_sl ([.ref (ad 0 0), .ref (ad 4 j1), .ref (ad 7 j2)])).length) Slot.unset).toArray = ls at hl ⊢
  have hl : lv_has ls 4 [(0, .ref (ad 0 0)), (1, .ref (ad 4 j1)), (2, .ref (ad 7 j2))] := hl
  unfold F_H_hearAsk at hF
  refine lv_aload_n hx hb d_H_hearAsk_0 rfl (lv_at hl 2 rfl) ?_
  refine gf_L_3 hx hb hts hown hK hP hj2 a_54 d_H_hearAsk_1 ?_
  refine lv_aload_n hx hb d_H_hearAsk_4 rfl (lv_at hl 1 rfl) ?_
  refine gf_O_1 hx hb hts hown hK hP hj1 a_154 d_H_hearAsk_5 ?_
  refine lv_icmp_ge (tgt := 18) hx hb d_H_hearAsk_8 (by decide) (fun h1 => ?_) (fun h1 => ?_)
  · have hF := it_t hF h1
    refine lv_aload_n hx hb d_H_hearAsk_18 rfl (lv_at hl 1 rfl) ?_
    refine lv_aload_n hx hb d_H_hearAsk_19 rfl (lv_at hl 2 rfl) ?_
    refine gf_L_3 hx hb hts hown hK hP hj2 a_54 d_H_hearAsk_20 ?_
    obtain ⟨u2, h3, hF⟩ := nm_u hF
    refine pf_O_1 hx hb hts hown hK hP hD hS hj1 h3 a_154 d_H_hearAsk_23 (fun H locs hP hS => ?_)
    refine lv_aload_n hx hb d_H_hearAsk_26 rfl (lv_at hl 0 rfl) ?_
    refine gf_H_2 hx hb hts hown hK hP (by decide) a_207 d_H_hearAsk_27 ?_
    refine lv_iconst (v := 1) hx hb d_H_hearAsk_30 (by decide) ?_
    refine lv_aload_n hx hb d_H_hearAsk_31 rfl (lv_at hl 1 rfl) ?_
    refine gf_O_0 hx hb hts hown hK hP hj1 a_152 d_H_hearAsk_32 ?_
    refine lv_aload_n hx hb d_H_hearAsk_35 rfl (lv_at hl 2 rfl) ?_
    refine gf_L_1 hx hb hts hown hK hP hj2 a_48 d_H_hearAsk_36 ?_
    obtain ⟨r4, u6, h5, hF⟩ := bd_u hF
    refine k_vr (ad 3 0) [.int 1, .int (u2.1 4 j1 0), .int (u2.1 7 j2 1)] [] ⟨hx, hb, hml, hown, hts⟩ (c_M_post l D ad ca hD0 (z := z) (u := u2)  h5) (w_M_post hts a_452 ⟨Nat.le_of_ble_eq_true rfl, Nat.le_of_ble_eq_true rfl⟩) (rv_M hK hP (by decide)) hP hK hS (fun _ h => h) rfl rfl hl.1 (Nat.le_of_ble_eq_true rfl) ⟨Nat.zero_le _, Nat.zero_le _⟩ d_H_hearAsk_39 (fun H locs hP hS => ?_)
    obtain ⟨h7, hF⟩ := as_u hF
    refine lv_astore_n (lv' := [(3, .ref (ad 7 r4)), (0, .ref (ad 0 0)), (1, .ref (ad 4 j1)), (2, .ref (ad 7 j2))]) hx hb d_H_hearAsk_42 rfl hl (by decide) rfl (fun ls hl => ?_)
    refine lv_aload_n hx hb d_H_hearAsk_43 rfl (lv_at hl 0 rfl) ?_
    refine lv_aload_n hx hb d_H_hearAsk_44 rfl (lv_at hl 3 rfl) ?_
    refine gf_L_3 hx hb hts hown hK hP hj2 a_54 d_H_hearAsk_45 ?_
    obtain ⟨u8, h9, hF⟩ := nm_u hF
    refine pf_L_3 hx hb hts hown hK hP hD hS h7 h9 a_54 d_H_hearAsk_48 (fun H locs hP hS => ?_)
    refine lv_aload_n hx hb d_H_hearAsk_51 rfl (lv_at hl 0 rfl) ?_
    refine lv_aload_n hx hb d_H_hearAsk_52 rfl (lv_at hl 3 rfl) ?_
    refine gf_L_4 hx hb hts hown hK hP hj2 a_57 d_H_hearAsk_53 ?_
    obtain ⟨u10, h11, hF⟩ := nm_u hF
    refine pf_L_4 hx hb hts hown hK hP hD hS h7 h11 a_57 d_H_hearAsk_56 (fun H locs hP hS => ?_)
    refine lv_aload_n hx hb d_H_hearAsk_59 rfl (lv_at hl 0 rfl) ?_
    refine lv_aload_n hx hb d_H_hearAsk_60 rfl (lv_at hl 2 rfl) ?_
    refine gf_O_2 hx hb hts hown hK hP hj1 a_156 d_H_hearAsk_61 ?_
    refine lv_aload_n hx hb d_H_hearAsk_64 rfl (lv_at hl 3 rfl) ?_
    refine gf_L_4 hx hb hts hown hK hP hj2 a_57 d_H_hearAsk_65 ?_
    obtain ⟨h12, hF⟩ := as_u hF
    refine il_8 hx hb hK hP hj1 h12 d_H_hearAsk_68 ?_
    obtain ⟨u13, h14, hF⟩ := nm_u hF
    refine pf_L_6 hx hb hts hown hK hP hD hS h7 h14 a_63 d_H_hearAsk_69 (fun H locs hP hS => ?_)
    refine lv_aload_n hx hb d_H_hearAsk_72 rfl (lv_at hl 0 rfl) ?_
    refine lv_aload_n hx hb d_H_hearAsk_73 rfl (lv_at hl 2 rfl) ?_
    refine gf_O_3 hx hb hts hown hK hP hj1 a_158 d_H_hearAsk_74 ?_
    refine lv_aload_n hx hb d_H_hearAsk_77 rfl (lv_at hl 3 rfl) ?_
    refine gf_L_4 hx hb hts hown hK hP hj2 a_57 d_H_hearAsk_78 ?_
    obtain ⟨h15, hF⟩ := as_u hF
    refine il_9 hx hb hK hP hj1 h15 d_H_hearAsk_81 ?_
    obtain ⟨u16, h17, hF⟩ := nm_u hF
    refine pf_L_7 hx hb hts hown hK hP hD hS h7 h17 a_66 d_H_hearAsk_82 (fun H locs hP hS => ?_)
    refine lv_iconst (v := 1) hx hb d_H_hearAsk_85 (by decide) ?_
    obtain ⟨rfl, rfl⟩ := rt2 hF
    exact W.iret (v := 1) hx hb hr (fun t ht hW => ⟨⟨_, (), rfl, rfl, vp_at ht hP⟩, hS.F ht⟩) hS.2.2 d_H_hearAsk_86
  · have hF := it_f hF h1
    refine lv_aload_n hx hb d_H_hearAsk_11 rfl (lv_at hl 0 rfl) ?_
    refine lv_aload_n hx hb d_H_hearAsk_12 rfl (lv_at hl 1 rfl) ?_
    refine lv_aload_n hx hb d_H_hearAsk_13 rfl (lv_at hl 2 rfl) ?_
    obtain ⟨r18, u20, h19, hF⟩ := bd_u hF
    refine k_vi (ad 0 0) [.ref (ad 4 j1), .ref (ad 7 j2)] [] ⟨hx, hb, hml, hown, hts⟩ (c_H_refuse l D ad ca hD0 (z := z) (u := u) hj1 hj2 h19) (w_H_refuse hts a_528 ⟨Nat.le_of_ble_eq_true rfl, Nat.le_of_ble_eq_true rfl⟩) (rv_H hK hP (by decide)) hP hK hS (fun _ h => h) rfl rfl hl.1 (Nat.le_of_ble_eq_true rfl) ⟨Nat.zero_le _, Nat.zero_le _⟩ d_H_hearAsk_14 (fun H locs hP hS => ?_)
    obtain ⟨rfl, rfl⟩ := rt2 hF
    exact W.iret (v := r18) hx hb hr (fun t ht hW => ⟨⟨_, (), rfl, rfl, vp_at ht hP⟩, hS.F ht⟩) hS.2.2 d_H_hearAsk_17
def ws_H_hearSettle : List Cond := Cond.code y_H_hearSettle b_H_hearSettle 4 (some .int) :: ALL
theorem w_H_hearSettle {R : Room} {s : State} {args : Array Value} {own : String} {index : Nat} (hts : ∀ w ∈ ALL, w.before args s = true) (hlk : Cond.methodLink own index y_H_hearSettle ∈ ALL) (hR : (({ frames := 3, cells := 0, slots := 0, locals := 70 } : Room)).frames + 1 ≤ R.frames ∧ 8 + (4 + 11) + (({ frames := 3, cells := 0, slots := 0, locals := 70 } : Room)).locals ≤ R.locals) : CallW R s args own R_H index y_H_hearSettle b_H_hearSettle 4 (some .int) ws_H_hearSettle ({ frames := 3, cells := 0, slots := 0, locals := 70 } : Room) 0 0 2 := ⟨callB_of 2 hts (good_c a_543) rfl rfl rfl (hts _ a_1) (hts _ hlk) (by decide +kernel) hR, hts _ a_542, hts _ a_s9⟩
theorem d_H_hearSettle_0 : decode b_H_hearSettle 0 = .ok (.aload_n 2, 1) := by decide +kernel
theorem d_H_hearSettle_1 : decode b_H_hearSettle 1 = .ok (.getfield 162, 3) := by decide +kernel
theorem d_H_hearSettle_4 : decode b_H_hearSettle 4 = .ok (.aload_n 1, 1) := by decide +kernel
theorem d_H_hearSettle_5 : decode b_H_hearSettle 5 = .ok (.getfield 202, 3) := by decide +kernel
theorem d_H_hearSettle_8 : decode b_H_hearSettle 8 = .ok (.if_icmp .ge 10, 3) := by decide +kernel
theorem d_H_hearSettle_11 : decode b_H_hearSettle 11 = .ok (.aload_n 0, 1) := by decide +kernel
theorem d_H_hearSettle_12 : decode b_H_hearSettle 12 = .ok (.aload_n 1, 1) := by decide +kernel
theorem d_H_hearSettle_13 : decode b_H_hearSettle 13 = .ok (.aload_n 2, 1) := by decide +kernel
theorem d_H_hearSettle_14 : decode b_H_hearSettle 14 = .ok (.invokevirtual 247, 3) := by decide +kernel
theorem d_H_hearSettle_17 : decode b_H_hearSettle 17 = .ok (.ireturn, 1) := by decide +kernel
theorem d_H_hearSettle_18 : decode b_H_hearSettle 18 = .ok (.aload_n 1, 1) := by decide +kernel
theorem d_H_hearSettle_19 : decode b_H_hearSettle 19 = .ok (.aload_n 2, 1) := by decide +kernel
theorem d_H_hearSettle_20 : decode b_H_hearSettle 20 = .ok (.getfield 162, 3) := by decide +kernel
theorem d_H_hearSettle_23 : decode b_H_hearSettle 23 = .ok (.putfield 202, 3) := by decide +kernel
theorem d_H_hearSettle_26 : decode b_H_hearSettle 26 = .ok (.aload_n 1, 1) := by decide +kernel
theorem d_H_hearSettle_27 : decode b_H_hearSettle 27 = .ok (.getfield 208, 3) := by decide +kernel
theorem d_H_hearSettle_30 : decode b_H_hearSettle 30 = .ok (.aload_n 2, 1) := by decide +kernel
theorem d_H_hearSettle_31 : decode b_H_hearSettle 31 = .ok (.getfield 165, 3) := by decide +kernel
theorem d_H_hearSettle_34 : decode b_H_hearSettle 34 = .ok (.aload_n 2, 1) := by decide +kernel
theorem d_H_hearSettle_35 : decode b_H_hearSettle 35 = .ok (.getfield 162, 3) := by decide +kernel
theorem d_H_hearSettle_38 : decode b_H_hearSettle 38 = .ok (.iastore, 1) := by decide +kernel
theorem d_H_hearSettle_39 : decode b_H_hearSettle 39 = .ok (.aload_n 1, 1) := by decide +kernel
theorem d_H_hearSettle_40 : decode b_H_hearSettle 40 = .ok (.getfield 251, 3) := by decide +kernel
theorem d_H_hearSettle_43 : decode b_H_hearSettle 43 = .ok (.aload_n 2, 1) := by decide +kernel
theorem d_H_hearSettle_44 : decode b_H_hearSettle 44 = .ok (.getfield 165, 3) := by decide +kernel
theorem d_H_hearSettle_47 : decode b_H_hearSettle 47 = .ok (.aload_n 2, 1) := by decide +kernel
theorem d_H_hearSettle_48 : decode b_H_hearSettle 48 = .ok (.getfield 166, 3) := by decide +kernel
theorem d_H_hearSettle_51 : decode b_H_hearSettle 51 = .ok (.iastore, 1) := by decide +kernel
theorem d_H_hearSettle_52 : decode b_H_hearSettle 52 = .ok (.aload_n 0, 1) := by decide +kernel
theorem d_H_hearSettle_53 : decode b_H_hearSettle 53 = .ok (.getfield 24, 3) := by decide +kernel
theorem d_H_hearSettle_56 : decode b_H_hearSettle 56 = .ok (.iconst 4, 1) := by decide +kernel
theorem d_H_hearSettle_57 : decode b_H_hearSettle 57 = .ok (.aload_n 1, 1) := by decide +kernel
theorem d_H_hearSettle_58 : decode b_H_hearSettle 58 = .ok (.getfield 226, 3) := by decide +kernel
theorem d_H_hearSettle_61 : decode b_H_hearSettle 61 = .ok (.aload_n 2, 1) := by decide +kernel
theorem d_H_hearSettle_62 : decode b_H_hearSettle 62 = .ok (.getfield 156, 3) := by decide +kernel
theorem d_H_hearSettle_65 : decode b_H_hearSettle 65 = .ok (.invokevirtual 235, 3) := by decide +kernel
theorem d_H_hearSettle_68 : decode b_H_hearSettle 68 = .ok (.astore_n 3, 1) := by decide +kernel
theorem d_H_hearSettle_69 : decode b_H_hearSettle 69 = .ok (.aload_n 3, 1) := by decide +kernel
theorem d_H_hearSettle_70 : decode b_H_hearSettle 70 = .ok (.aload_n 2, 1) := by decide +kernel
theorem d_H_hearSettle_71 : decode b_H_hearSettle 71 = .ok (.getfield 162, 3) := by decide +kernel
theorem d_H_hearSettle_74 : decode b_H_hearSettle 74 = .ok (.putfield 162, 3) := by decide +kernel
theorem d_H_hearSettle_77 : decode b_H_hearSettle 77 = .ok (.aload_n 3, 1) := by decide +kernel
theorem d_H_hearSettle_78 : decode b_H_hearSettle 78 = .ok (.aload_n 2, 1) := by decide +kernel
theorem d_H_hearSettle_79 : decode b_H_hearSettle 79 = .ok (.getfield 165, 3) := by decide +kernel
theorem d_H_hearSettle_82 : decode b_H_hearSettle 82 = .ok (.putfield 165, 3) := by decide +kernel
theorem d_H_hearSettle_85 : decode b_H_hearSettle 85 = .ok (.iconst 1, 1) := by decide +kernel
theorem d_H_hearSettle_86 : decode b_H_hearSettle 86 = .ok (.ireturn, 1) := by decide +kernel
def F_H_hearSettle (u : XC) (j1 : Nat) (j2 : Nat) : Option (Int32 × XC) := (if (u.1 4 j1 1) ≤ (u.1 7 j2 3) then (nm_ (pu u 4 j1 1 (u.1 7 j2 3)) fun u2 => (if 0 ≤ (u2.1 7 j2 4) ∧ ((u2.1 7 j2 4)).toNatClampNeg < 6 then (nm_ (pu u2 8 j1 ((u2.1 7 j2 4)).toNatClampNeg (u2.1 7 j2 3)) fun u5 => (if 0 ≤ (u5.1 7 j2 4) ∧ ((u5.1 7 j2 4)).toNatClampNeg < 6 then (nm_ (pu u5 9 j1 ((u5.1 7 j2 4)).toNatClampNeg (u5.1 7 j2 5)) fun u8 => (bd_ (F_M_post u8 4 (u8.1 4 j1 0) (u8.1 7 j2 1)) fun r10 u12 => (if r10 < 152 then (nm_ (pu u12 7 r10 3 (u12.1 7 j2 3)) fun u14 => (nm_ (pu u14 7 r10 4 (u14.1 7 j2 4)) fun u16 => some (1, u16))) else none))) else none)) else none)) else (bd_ (F_H_refuse u j1 j2) fun r18 u20 => some (r18, u20)))
set_option maxHeartbeats 4000000 in
set_option maxRecDepth 100000 in
theorem c_H_hearSettle (l : Launch) (D : va_G) (ad : Nat → Nat → Nat) (ca : Nat → ClassId) (hD0 : ∀ z u, va_D (AH ad) (wh ad ca z u)) {z : ZW} {u : XC} {j1 : Nat} {j2 : Nat} {r0 : Int32} {u0 : XC} (hj1 : j1 < 27) (hj2 : j2 < 152) (hF : F_H_hearSettle u j1 j2 = some (r0, u0)) : Met l y_H_hearSettle ws_H_hearSettle ({ frames := 3, cells := 0, slots := 0, locals := 70 } : Room) (va_Pc [.ref (ad 0 0), .ref (ad 4 j1), .ref (ad 7 j2)] (fun U => va_P D CLS (wh ad ca z u) U.heap ∧ va_K D CLS (TYH ca) U)) (va_Qi (fun (r : Int32) (_ : Unit) => r = r0) (fun _ t => va_P D CLS (wh ad ca z u0) t.heap) (AH ad)) 0 0 (AH ad) := by
  refine Met.ofW (cc := b_H_hearSettle) (maxL := 4) (ret := (some .int)) (by decide +kernel) rfl ?_
  intro p e s m args below meth c s₁ B hml hv
  obtain ⟨rfl, hP, hK⟩ := hv
  have hx := B.exec
  have hb := B.bytes
  have hr := B.returns
  have hts : ∀ w ∈ ALL, w.before _ s = true := fun w h => atoms_spec (ws := ws_H_hearSettle) B.pre w (List.mem_cons_of_mem _ h)
  have hown : s.vm.findClass R_H = some m.cls := findClass_of_methodNamed B.named
  have hlocks := B.notSynchronized
  have hD := hD0
  have hS : va_S (AH ad) s.heap s.heap [] := va_S.rf
  have hP : va_P D CLS (wh ad ca z u) s.heap := hP
  have hl := lv_entry ([.ref (ad 0 0), .ref (ad 4 j1), .ref (ad 7 j2)]) (n := 4) (Nat.le_of_ble_eq_true rfl)
  rw [lg_entry_eq]
  generalize (lg_sl ([.ref (ad 0 0), .ref (ad 4 j1), .ref (ad 7 j2)]) ++ List.replicate (4 - (lg_sl ([.ref (ad 0 0), .ref (ad 4 j1), .ref (ad 7 j2)])).length) Slot.unset).toArray = ls at hl ⊢
  have hl : lv_has ls 4 [(0, .ref (ad 0 0)), (1, .ref (ad 4 j1)), (2, .ref (ad 7 j2))] := hl
  unfold F_H_hearSettle at hF
  refine lv_aload_n hx hb d_H_hearSettle_0 rfl (lv_at hl 2 rfl) ?_
  refine gf_L_3 hx hb hts hown hK hP hj2 a_54 d_H_hearSettle_1 ?_
  refine lv_aload_n hx hb d_H_hearSettle_4 rfl (lv_at hl 1 rfl) ?_
  refine gf_O_1 hx hb hts hown hK hP hj1 a_154 d_H_hearSettle_5 ?_
  refine lv_icmp_ge (tgt := 18) hx hb d_H_hearSettle_8 (by decide) (fun h1 => ?_) (fun h1 => ?_)
  · have hF := it_t hF h1
    refine lv_aload_n hx hb d_H_hearSettle_18 rfl (lv_at hl 1 rfl) ?_
    refine lv_aload_n hx hb d_H_hearSettle_19 rfl (lv_at hl 2 rfl) ?_
    refine gf_L_3 hx hb hts hown hK hP hj2 a_54 d_H_hearSettle_20 ?_
    obtain ⟨u2, h3, hF⟩ := nm_u hF
    refine pf_O_1 hx hb hts hown hK hP hD hS hj1 h3 a_154 d_H_hearSettle_23 (fun H locs hP hS => ?_)
    refine lv_aload_n hx hb d_H_hearSettle_26 rfl (lv_at hl 1 rfl) ?_
    refine gf_O_2 hx hb hts hown hK hP hj1 a_156 d_H_hearSettle_27 ?_
    refine lv_aload_n hx hb d_H_hearSettle_30 rfl (lv_at hl 2 rfl) ?_
    refine gf_L_4 hx hb hts hown hK hP hj2 a_57 d_H_hearSettle_31 ?_
    refine lv_aload_n hx hb d_H_hearSettle_34 rfl (lv_at hl 2 rfl) ?_
    refine gf_L_3 hx hb hts hown hK hP hj2 a_54 d_H_hearSettle_35 ?_
    obtain ⟨h4, hF⟩ := as_u hF
    obtain ⟨u5, h6, hF⟩ := nm_u hF
    refine is_8 hx hb hK hP hD hS hj1 h4 h6 d_H_hearSettle_38 (fun H locs hP hS => ?_)
    refine lv_aload_n hx hb d_H_hearSettle_39 rfl (lv_at hl 1 rfl) ?_
    refine gf_O_3 hx hb hts hown hK hP hj1 a_158 d_H_hearSettle_40 ?_
    refine lv_aload_n hx hb d_H_hearSettle_43 rfl (lv_at hl 2 rfl) ?_
    refine gf_L_4 hx hb hts hown hK hP hj2 a_57 d_H_hearSettle_44 ?_
    refine lv_aload_n hx hb d_H_hearSettle_47 rfl (lv_at hl 2 rfl) ?_
    refine gf_L_5 hx hb hts hown hK hP hj2 a_60 d_H_hearSettle_48 ?_
    obtain ⟨h7, hF⟩ := as_u hF
    obtain ⟨u8, h9, hF⟩ := nm_u hF
    refine is_9 hx hb hK hP hD hS hj1 h7 h9 d_H_hearSettle_51 (fun H locs hP hS => ?_)
    refine lv_aload_n hx hb d_H_hearSettle_52 rfl (lv_at hl 0 rfl) ?_
    refine gf_H_2 hx hb hts hown hK hP (by decide) a_207 d_H_hearSettle_53 ?_
    refine lv_iconst (v := 4) hx hb d_H_hearSettle_56 (by decide) ?_
    refine lv_aload_n hx hb d_H_hearSettle_57 rfl (lv_at hl 1 rfl) ?_
    refine gf_O_0 hx hb hts hown hK hP hj1 a_152 d_H_hearSettle_58 ?_
    refine lv_aload_n hx hb d_H_hearSettle_61 rfl (lv_at hl 2 rfl) ?_
    refine gf_L_1 hx hb hts hown hK hP hj2 a_48 d_H_hearSettle_62 ?_
    obtain ⟨r10, u12, h11, hF⟩ := bd_u hF
    refine k_vr (ad 3 0) [.int 4, .int (u8.1 4 j1 0), .int (u8.1 7 j2 1)] [] ⟨hx, hb, hml, hown, hts⟩ (c_M_post l D ad ca hD0 (z := z) (u := u8)  h11) (w_M_post hts a_452 ⟨Nat.le_of_ble_eq_true rfl, Nat.le_of_ble_eq_true rfl⟩) (rv_M hK hP (by decide)) hP hK hS (fun _ h => h) rfl rfl hl.1 (Nat.le_of_ble_eq_true rfl) ⟨Nat.zero_le _, Nat.zero_le _⟩ d_H_hearSettle_65 (fun H locs hP hS => ?_)
    obtain ⟨h13, hF⟩ := as_u hF
    refine lv_astore_n (lv' := [(3, .ref (ad 7 r10)), (0, .ref (ad 0 0)), (1, .ref (ad 4 j1)), (2, .ref (ad 7 j2))]) hx hb d_H_hearSettle_68 rfl hl (by decide) rfl (fun ls hl => ?_)
    refine lv_aload_n hx hb d_H_hearSettle_69 rfl (lv_at hl 0 rfl) ?_
    refine lv_aload_n hx hb d_H_hearSettle_70 rfl (lv_at hl 3 rfl) ?_
    refine gf_L_3 hx hb hts hown hK hP hj2 a_54 d_H_hearSettle_71 ?_
    obtain ⟨u14, h15, hF⟩ := nm_u hF
    refine pf_L_3 hx hb hts hown hK hP hD hS h13 h15 a_54 d_H_hearSettle_74 (fun H locs hP hS => ?_)
    refine lv_aload_n hx hb d_H_hearSettle_77 rfl (lv_at hl 0 rfl) ?_
    refine lv_aload_n hx hb d_H_hearSettle_78 rfl (lv_at hl 3 rfl) ?_
    refine gf_L_4 hx hb hts hown hK hP hj2 a_57 d_H_hearSettle_79 ?_
    obtain ⟨u16, h17, hF⟩ := nm_u hF
    refine pf_L_4 hx hb hts hown hK hP hD hS h13 h17 a_57 d_H_hearSettle_82 (fun H locs hP hS => ?_)
    refine lv_iconst (v := 1) hx hb d_H_hearSettle_85 (by decide) ?_
    obtain ⟨rfl, rfl⟩ := rt2 hF
    exact W.iret (v := 1) hx hb hr (fun t ht hW => ⟨⟨_, (), rfl, rfl, vp_at ht hP⟩, hS.F ht⟩) hS.2.2 d_H_hearSettle_86
  · have hF := it_f hF h1
    refine lv_aload_n hx hb d_H_hearSettle_11 rfl (lv_at hl 0 rfl) ?_
    refine lv_aload_n hx hb d_H_hearSettle_12 rfl (lv_at hl 1 rfl) ?_
    refine lv_aload_n hx hb d_H_hearSettle_13 rfl (lv_at hl 2 rfl) ?_
    obtain ⟨r18, u20, h19, hF⟩ := bd_u hF
    refine k_vi (ad 0 0) [.ref (ad 4 j1), .ref (ad 7 j2)] [] ⟨hx, hb, hml, hown, hts⟩ (c_H_refuse l D ad ca hD0 (z := z) (u := u) hj1 hj2 h19) (w_H_refuse hts a_528 ⟨Nat.le_of_ble_eq_true rfl, Nat.le_of_ble_eq_true rfl⟩) (rv_H hK hP (by decide)) hP hK hS (fun _ h => h) rfl rfl hl.1 (Nat.le_of_ble_eq_true rfl) ⟨Nat.zero_le _, Nat.zero_le _⟩ d_H_hearSettle_14 (fun H locs hP hS => ?_)
    obtain ⟨rfl, rfl⟩ := rt2 hF
    exact W.iret (v := r18) hx hb hr (fun t ht hW => ⟨⟨_, (), rfl, rfl, vp_at ht hP⟩, hS.F ht⟩) hS.2.2 d_H_hearSettle_17
def ws_H_hearGive : List Cond := Cond.code y_H_hearGive b_H_hearGive 4 (some .int) :: ALL
theorem w_H_hearGive {R : Room} {s : State} {args : Array Value} {own : String} {index : Nat} (hts : ∀ w ∈ ALL, w.before args s = true) (hlk : Cond.methodLink own index y_H_hearGive ∈ ALL) (hR : (({ frames := 4, cells := 0, slots := 0, locals := 97 } : Room)).frames + 1 ≤ R.frames ∧ 8 + (4 + 11) + (({ frames := 4, cells := 0, slots := 0, locals := 97 } : Room)).locals ≤ R.locals) : CallW R s args own R_H index y_H_hearGive b_H_hearGive 4 (some .int) ws_H_hearGive ({ frames := 4, cells := 0, slots := 0, locals := 97 } : Room) 0 0 2 := ⟨callB_of 2 hts (good_c a_535) rfl rfl rfl (hts _ a_1) (hts _ hlk) (by decide +kernel) hR, hts _ a_534, hts _ a_s7⟩
theorem d_H_hearGive_0 : decode b_H_hearGive 0 = .ok (.aload_n 1, 1) := by decide +kernel
theorem d_H_hearGive_1 : decode b_H_hearGive 1 = .ok (.getfield 70, 3) := by decide +kernel
theorem d_H_hearGive_4 : decode b_H_hearGive 4 = .ok (.astore_n 3, 1) := by decide +kernel
theorem d_H_hearGive_5 : decode b_H_hearGive 5 = .ok (.aload_n 3, 1) := by decide +kernel
theorem d_H_hearGive_6 : decode b_H_hearGive 6 = .ok (.getfield 74, 3) := by decide +kernel
theorem d_H_hearGive_9 : decode b_H_hearGive 9 = .ok (.iconst 1, 1) := by decide +kernel
theorem d_H_hearGive_10 : decode b_H_hearGive 10 = .ok (.if_icmp .ne 14, 3) := by decide +kernel
theorem d_H_hearGive_13 : decode b_H_hearGive 13 = .ok (.aload_n 3, 1) := by decide +kernel
theorem d_H_hearGive_14 : decode b_H_hearGive 14 = .ok (.getfield 201, 3) := by decide +kernel
theorem d_H_hearGive_17 : decode b_H_hearGive 17 = .ok (.aload_n 2, 1) := by decide +kernel
theorem d_H_hearGive_18 : decode b_H_hearGive 18 = .ok (.getfield 162, 3) := by decide +kernel
theorem d_H_hearGive_21 : decode b_H_hearGive 21 = .ok (.if_icmp .eq 5, 3) := by decide +kernel
theorem d_H_hearGive_24 : decode b_H_hearGive 24 = .ok (.iconst 0, 1) := by decide +kernel
theorem d_H_hearGive_25 : decode b_H_hearGive 25 = .ok (.ireturn, 1) := by decide +kernel
theorem d_H_hearGive_26 : decode b_H_hearGive 26 = .ok (.aload_n 3, 1) := by decide +kernel
theorem d_H_hearGive_27 : decode b_H_hearGive 27 = .ok (.dup, 1) := by decide +kernel
theorem d_H_hearGive_28 : decode b_H_hearGive 28 = .ok (.getfield 125, 3) := by decide +kernel
theorem d_H_hearGive_31 : decode b_H_hearGive 31 = .ok (.iconst 1, 1) := by decide +kernel
theorem d_H_hearGive_32 : decode b_H_hearGive 32 = .ok (.aload_n 2, 1) := by decide +kernel
theorem d_H_hearGive_33 : decode b_H_hearGive 33 = .ok (.getfield 156, 3) := by decide +kernel
theorem d_H_hearGive_36 : decode b_H_hearGive 36 = .ok (.ishl, 1) := by decide +kernel
theorem d_H_hearGive_37 : decode b_H_hearGive 37 = .ok (.ior, 1) := by decide +kernel
theorem d_H_hearGive_38 : decode b_H_hearGive 38 = .ok (.putfield 125, 3) := by decide +kernel
theorem d_H_hearGive_41 : decode b_H_hearGive 41 = .ok (.aload_n 2, 1) := by decide +kernel
theorem d_H_hearGive_42 : decode b_H_hearGive 42 = .ok (.getfield 250, 3) := by decide +kernel
theorem d_H_hearGive_45 : decode b_H_hearGive 45 = .ok (.aload_n 3, 1) := by decide +kernel
theorem d_H_hearGive_46 : decode b_H_hearGive 46 = .ok (.getfield 232, 3) := by decide +kernel
theorem d_H_hearGive_49 : decode b_H_hearGive 49 = .ok (.if_icmp .le 19, 3) := by decide +kernel
theorem d_H_hearGive_52 : decode b_H_hearGive 52 = .ok (.aload_n 3, 1) := by decide +kernel
theorem d_H_hearGive_53 : decode b_H_hearGive 53 = .ok (.aload_n 2, 1) := by decide +kernel
theorem d_H_hearGive_54 : decode b_H_hearGive 54 = .ok (.getfield 250, 3) := by decide +kernel
theorem d_H_hearGive_57 : decode b_H_hearGive 57 = .ok (.putfield 232, 3) := by decide +kernel
theorem d_H_hearGive_60 : decode b_H_hearGive 60 = .ok (.aload_n 3, 1) := by decide +kernel
theorem d_H_hearGive_61 : decode b_H_hearGive 61 = .ok (.aload_n 2, 1) := by decide +kernel
theorem d_H_hearGive_62 : decode b_H_hearGive 62 = .ok (.getfield 254, 3) := by decide +kernel
theorem d_H_hearGive_65 : decode b_H_hearGive 65 = .ok (.putfield 229, 3) := by decide +kernel
theorem d_H_hearGive_68 : decode b_H_hearGive 68 = .ok (.aload_n 3, 1) := by decide +kernel
theorem d_H_hearGive_69 : decode b_H_hearGive 69 = .ok (.getfield 125, 3) := by decide +kernel
theorem d_H_hearGive_72 : decode b_H_hearGive 72 = .ok (.invokestatic 198, 3) := by decide +kernel
theorem d_H_hearGive_75 : decode b_H_hearGive 75 = .ok (.ifCond .ne 5, 3) := by decide +kernel
theorem d_H_hearGive_78 : decode b_H_hearGive 78 = .ok (.iconst 0, 1) := by decide +kernel
theorem d_H_hearGive_79 : decode b_H_hearGive 79 = .ok (.ireturn, 1) := by decide +kernel
theorem d_H_hearGive_80 : decode b_H_hearGive 80 = .ok (.aload_n 3, 1) := by decide +kernel
theorem d_H_hearGive_81 : decode b_H_hearGive 81 = .ok (.iconst 2, 1) := by decide +kernel
theorem d_H_hearGive_82 : decode b_H_hearGive 82 = .ok (.putfield 74, 3) := by decide +kernel
theorem d_H_hearGive_85 : decode b_H_hearGive 85 = .ok (.aload_n 3, 1) := by decide +kernel
theorem d_H_hearGive_86 : decode b_H_hearGive 86 = .ok (.iconst 0, 1) := by decide +kernel
theorem d_H_hearGive_87 : decode b_H_hearGive 87 = .ok (.putfield 125, 3) := by decide +kernel
theorem d_H_hearGive_90 : decode b_H_hearGive 90 = .ok (.aload_n 0, 1) := by decide +kernel
theorem d_H_hearGive_91 : decode b_H_hearGive 91 = .ok (.aload_n 1, 1) := by decide +kernel
theorem d_H_hearGive_92 : decode b_H_hearGive 92 = .ok (.aload_n 3, 1) := by decide +kernel
theorem d_H_hearGive_93 : decode b_H_hearGive 93 = .ok (.getfield 117, 3) := by decide +kernel
theorem d_H_hearGive_96 : decode b_H_hearGive 96 = .ok (.invokevirtual 120, 3) := by decide +kernel
theorem d_H_hearGive_99 : decode b_H_hearGive 99 = .ok (.ireturn, 1) := by decide +kernel
def Fj_H_hearGive_68  (u : XC) (y1 : Nat) (y3 : Nat) : Option (Int32 × XC) := (bs_ (F_S_isQuorum (u.1 11 y3 5)) fun r6 => (if r6 = 0 then some (0, u) else (nm_ (pu u 11 y3 0 2) fun u9 => (nm_ (pu u9 11 y3 5 0) fun u11 => (bd_ (F_H_sendPhase u11 y1 (u11.1 11 y3 4)) fun r13 u15 => some (r13, u15))))))
def F_H_hearGive (u : XC) (j1 : Nat) (j2 : Nat) : Option (Int32 × XC) := (if (u.1 11 j1 0) = 1 then (if (u.1 11 j1 2) = (u.1 7 j2 3) then (nm_ (pu u 11 j1 5 ((u.1 11 j1 5) ||| (1 <<< ((u.1 7 j2 1) &&& 31)))) fun u3 => (if (u3.1 7 j2 6) ≤ (u3.1 11 j1 8) then Fj_H_hearGive_68  u3 j1 j1 else (nm_ (pu u3 11 j1 8 (u3.1 7 j2 6)) fun u16 => (nm_ (pu u16 11 j1 7 (u16.1 7 j2 7)) fun u18 => Fj_H_hearGive_68  u18 j1 j1)))) else some (0, u)) else some (0, u))
set_option maxHeartbeats 4000000 in
set_option maxRecDepth 100000 in
theorem jn_H_hearGive_68 {p : Program} {l : Launch} {e : Env} {s : State} {m : MethodId} {args : Array Value} {below : List Frame} {meth : Method} {c : Code} {D : va_G} {ad : Nat → Nat → Nat} {ca : Nat → ClassId} {z : ZW} (hx : p.tables.exec = Jvm.exec) (hb : c.code = b_H_hearGive) (hr : meth.sig.returnType = (some .int)) (hts : ∀ w ∈ ALL, w.before args s = true) (hown : s.vm.findClass R_H = some m.cls) (hlocks : meth.locks = false) (hml : c.maxLocals = 4) (hK : va_K D CLS (TYH ca) s) (hD0 : ∀ z u, va_D (AH ad) (wh ad ca z u)) (hD : ∀ z u, va_D (AH ad) (wh ad ca z u))  : ∀ (u : XC) (y1 : Nat) (y3 : Nat) (hy1 : y1 < 27) (hy3 : y3 < 27) (r0 : Int32) (u0 : XC), Fj_H_hearGive_68  u y1 y3 = some (r0, u0) → ∀ (H : Heap) (locs : List Loc) (ls : Array Slot), va_P D CLS (wh ad ca z u) H → va_S (AH ad) s.heap H locs → lv_has ls 4 [(0, .ref (ad 0 0)), (1, .ref (ad 4 y1)), (3, .ref (ad 11 y3))] → W p l e ({ frames := 4, cells := 0, slots := 0, locals := 97 } : Room) s m args below meth c H locs 0 0 (MQ below (va_Qi (fun (r : Int32) (_ : Unit) => r = r0) (fun _ t => va_P D CLS (wh ad ca z u0) t.heap) (AH ad)) args s 0 0 (AH ad)) (F0 m 68 ls []) := by
  intro u y1 y3 hy1 hy3 r0 u0 hF H locs ls hP hS hl
  unfold Fj_H_hearGive_68 at hF
  refine lv_aload_n hx hb d_H_hearGive_68 rfl (lv_at hl 2 rfl) ?_
  refine gf_R_5 hx hb hts hown hK hP hy3 a_121 d_H_hearGive_69 ?_
  obtain ⟨r6, h7, hF⟩ := bs_u hF
  refine k_sp [.int (u.1 11 y3 5)] [] ⟨hx, hb, hml, hown, hts⟩ (c_S_isQuorum l  h7) (w_S_isQuorum hts a_287 ⟨Nat.le_of_ble_eq_true rfl, Nat.le_of_ble_eq_true rfl⟩) rfl rfl hl.1 (Nat.le_of_ble_eq_true rfl) ⟨Nat.zero_le _, Nat.zero_le _⟩ d_H_hearGive_72 ?_
  refine lv_if_ne (tgt := 80) hx hb d_H_hearGive_75 (by decide) (fun h8 => ?_) (fun h8 => ?_)
  · have hF := it_f hF h8
    refine lv_aload_n hx hb d_H_hearGive_80 rfl (lv_at hl 2 rfl) ?_
    refine lv_iconst (v := 2) hx hb d_H_hearGive_81 (by decide) ?_
    obtain ⟨u9, h10, hF⟩ := nm_u hF
    refine pf_R_0 hx hb hts hown hK hP hD hS hy3 h10 a_111 d_H_hearGive_82 (fun H locs hP hS => ?_)
    refine lv_aload_n hx hb d_H_hearGive_85 rfl (lv_at hl 2 rfl) ?_
    refine lv_iconst (v := 0) hx hb d_H_hearGive_86 (by decide) ?_
    obtain ⟨u11, h12, hF⟩ := nm_u hF
    refine pf_R_5 hx hb hts hown hK hP hD hS hy3 h12 a_121 d_H_hearGive_87 (fun H locs hP hS => ?_)
    refine lv_aload_n hx hb d_H_hearGive_90 rfl (lv_at hl 0 rfl) ?_
    refine lv_aload_n hx hb d_H_hearGive_91 rfl (lv_at hl 1 rfl) ?_
    refine lv_aload_n hx hb d_H_hearGive_92 rfl (lv_at hl 2 rfl) ?_
    refine gf_R_4 hx hb hts hown hK hP hy3 a_119 d_H_hearGive_93 ?_
    obtain ⟨r13, u15, h14, hF⟩ := bd_u hF
    refine k_vi (ad 0 0) [.ref (ad 4 y1), .int (u11.1 11 y3 4)] [] ⟨hx, hb, hml, hown, hts⟩ (c_H_sendPhase l D ad ca hD0 (z := z) (u := u11) hy1 h14) (w_H_sendPhase hts a_445 ⟨Nat.le_of_ble_eq_true rfl, Nat.le_of_ble_eq_true rfl⟩) (rv_H hK hP (by decide)) hP hK hS (fun _ h => h) rfl rfl hl.1 (Nat.le_of_ble_eq_true rfl) ⟨Nat.zero_le _, Nat.zero_le _⟩ d_H_hearGive_96 (fun H locs hP hS => ?_)
    obtain ⟨rfl, rfl⟩ := rt2 hF
    exact W.iret (v := r13) hx hb hr (fun t ht hW => ⟨⟨_, (), rfl, rfl, vp_at ht hP⟩, hS.F ht⟩) hS.2.2 d_H_hearGive_99
  · have hF := it_t hF h8
    refine lv_iconst (v := 0) hx hb d_H_hearGive_78 (by decide) ?_
    obtain ⟨rfl, rfl⟩ := rt2 hF
    exact W.iret (v := 0) hx hb hr (fun t ht hW => ⟨⟨_, (), rfl, rfl, vp_at ht hP⟩, hS.F ht⟩) hS.2.2 d_H_hearGive_79
set_option maxHeartbeats 4000000 in
set_option maxRecDepth 100000 in
theorem c_H_hearGive (l : Launch) (D : va_G) (ad : Nat → Nat → Nat) (ca : Nat → ClassId) (hD0 : ∀ z u, va_D (AH ad) (wh ad ca z u)) {z : ZW} {u : XC} {j1 : Nat} {j2 : Nat} {r0 : Int32} {u0 : XC} (hj1 : j1 < 27) (hj2 : j2 < 152) (hF : F_H_hearGive u j1 j2 = some (r0, u0)) : Met l y_H_hearGive ws_H_hearGive ({ frames := 4, cells := 0, slots := 0, locals := 97 } : Room) (va_Pc [.ref (ad 0 0), .ref (ad 4 j1), .ref (ad 7 j2)] (fun U => va_P D CLS (wh ad ca z u) U.heap ∧ va_K D CLS (TYH ca) U)) (va_Qi (fun (r : Int32) (_ : Unit) => r = r0) (fun _ t => va_P D CLS (wh ad ca z u0) t.heap) (AH ad)) 0 0 (AH ad) := by
  refine Met.ofW (cc := b_H_hearGive) (maxL := 4) (ret := (some .int)) (by decide +kernel) rfl ?_
  intro p e s m args below meth c s₁ B hml hv
  obtain ⟨rfl, hP, hK⟩ := hv
  have hx := B.exec
  have hb := B.bytes
  have hr := B.returns
  have hts : ∀ w ∈ ALL, w.before _ s = true := fun w h => atoms_spec (ws := ws_H_hearGive) B.pre w (List.mem_cons_of_mem _ h)
  have hown : s.vm.findClass R_H = some m.cls := findClass_of_methodNamed B.named
  have hlocks := B.notSynchronized
  have hD := hD0
  have hS : va_S (AH ad) s.heap s.heap [] := va_S.rf
  have hP : va_P D CLS (wh ad ca z u) s.heap := hP
  have hl := lv_entry ([.ref (ad 0 0), .ref (ad 4 j1), .ref (ad 7 j2)]) (n := 4) (Nat.le_of_ble_eq_true rfl)
  rw [lg_entry_eq]
  generalize (lg_sl ([.ref (ad 0 0), .ref (ad 4 j1), .ref (ad 7 j2)]) ++ List.replicate (4 - (lg_sl ([.ref (ad 0 0), .ref (ad 4 j1), .ref (ad 7 j2)])).length) Slot.unset).toArray = ls at hl ⊢
  have hl : lv_has ls 4 [(0, .ref (ad 0 0)), (1, .ref (ad 4 j1)), (2, .ref (ad 7 j2))] := hl
  unfold F_H_hearGive at hF
  refine lv_aload_n hx hb d_H_hearGive_0 rfl (lv_at hl 1 rfl) ?_
  refine gf_O_7 hx hb hts hown hK hP hj1 a_166 d_H_hearGive_1 ?_
  refine lv_astore_n (lv' := [(3, .ref (ad 11 j1)), (0, .ref (ad 0 0)), (1, .ref (ad 4 j1)), (2, .ref (ad 7 j2))]) hx hb d_H_hearGive_4 rfl hl (by decide) rfl (fun ls hl => ?_)
  refine lv_aload_n hx hb d_H_hearGive_5 rfl (lv_at hl 0 rfl) ?_
  refine gf_R_0 hx hb hts hown hK hP hj1 a_111 d_H_hearGive_6 ?_
  refine lv_iconst (v := 1) hx hb d_H_hearGive_9 (by decide) ?_
  refine lv_icmp_ne (tgt := 24) hx hb d_H_hearGive_10 (by decide) (fun h1 => ?_) (fun h1 => ?_)
  · have hF := it_f hF h1
    refine lv_iconst (v := 0) hx hb d_H_hearGive_24 (by decide) ?_
    obtain ⟨rfl, rfl⟩ := rt2 hF
    exact W.iret (v := 0) hx hb hr (fun t ht hW => ⟨⟨_, (), rfl, rfl, vp_at ht hP⟩, hS.F ht⟩) hS.2.2 d_H_hearGive_25
  · have hF := it_t hF h1
    refine lv_aload_n hx hb d_H_hearGive_13 rfl (lv_at hl 0 rfl) ?_
    refine gf_R_2 hx hb hts hown hK hP hj1 a_115 d_H_hearGive_14 ?_
    refine lv_aload_n hx hb d_H_hearGive_17 rfl (lv_at hl 3 rfl) ?_
    refine gf_L_3 hx hb hts hown hK hP hj2 a_54 d_H_hearGive_18 ?_
    refine lv_icmp_eq (tgt := 26) hx hb d_H_hearGive_21 (by decide) (fun h2 => ?_) (fun h2 => ?_)
    · have hF := it_t hF h2
      refine lv_aload_n hx hb d_H_hearGive_26 rfl (lv_at hl 0 rfl) ?_
      refine lv_dup hx hb d_H_hearGive_27 rfl ?_
      refine gf_R_5 hx hb hts hown hK hP hj1 a_121 d_H_hearGive_28 ?_
      refine lv_iconst (v := 1) hx hb d_H_hearGive_31 (by decide) ?_
      refine lv_aload_n hx hb d_H_hearGive_32 rfl (lv_at hl 3 rfl) ?_
      refine gf_L_1 hx hb hts hown hK hP hj2 a_48 d_H_hearGive_33 ?_
      refine lv_ishl hx hb d_H_hearGive_36 ?_
      refine lv_ior hx hb d_H_hearGive_37 ?_
      obtain ⟨u3, h4, hF⟩ := nm_u hF
      refine pf_R_5 hx hb hts hown hK hP hD hS hj1 h4 a_121 d_H_hearGive_38 (fun H locs hP hS => ?_)
      refine lv_aload_n hx hb d_H_hearGive_41 rfl (lv_at hl 3 rfl) ?_
      refine gf_L_6 hx hb hts hown hK hP hj2 a_63 d_H_hearGive_42 ?_
      refine lv_aload_n hx hb d_H_hearGive_45 rfl (lv_at hl 0 rfl) ?_
      refine gf_R_8 hx hb hts hown hK hP hj1 a_127 d_H_hearGive_46 ?_
      refine lv_icmp_le (tgt := 68) hx hb d_H_hearGive_49 (by decide) (fun h5 => ?_) (fun h5 => ?_)
      · have hF := it_t hF h5
        exact jn_H_hearGive_68 hx hb hr hts hown hlocks hml hK hD0 hD  u3 j1 j1 hj1 hj1 r0 u0 hF _ _ _ hP hS (lv_sub hl [1, 2, 0] rfl)
      · have hF := it_f hF h5
        refine lv_aload_n hx hb d_H_hearGive_52 rfl (lv_at hl 0 rfl) ?_
        refine lv_aload_n hx hb d_H_hearGive_53 rfl (lv_at hl 3 rfl) ?_
        refine gf_L_6 hx hb hts hown hK hP hj2 a_63 d_H_hearGive_54 ?_
        obtain ⟨u16, h17, hF⟩ := nm_u hF
        refine pf_R_8 hx hb hts hown hK hP hD hS hj1 h17 a_127 d_H_hearGive_57 (fun H locs hP hS => ?_)
        refine lv_aload_n hx hb d_H_hearGive_60 rfl (lv_at hl 0 rfl) ?_
        refine lv_aload_n hx hb d_H_hearGive_61 rfl (lv_at hl 3 rfl) ?_
        refine gf_L_7 hx hb hts hown hK hP hj2 a_66 d_H_hearGive_62 ?_
        obtain ⟨u18, h19, hF⟩ := nm_u hF
        refine pf_R_7 hx hb hts hown hK hP hD hS hj1 h19 a_125 d_H_hearGive_65 (fun H locs hP hS => ?_)
        exact jn_H_hearGive_68 hx hb hr hts hown hlocks hml hK hD0 hD  u18 j1 j1 hj1 hj1 r0 u0 hF _ _ _ hP hS (lv_sub hl [1, 2, 0] rfl)
    · have hF := it_f hF h2
      refine lv_iconst (v := 0) hx hb d_H_hearGive_24 (by decide) ?_
      obtain ⟨rfl, rfl⟩ := rt2 hF
      exact W.iret (v := 0) hx hb hr (fun t ht hW => ⟨⟨_, (), rfl, rfl, vp_at ht hP⟩, hS.F ht⟩) hS.2.2 d_H_hearGive_25
def ws_H_learn : List Cond := Cond.code y_H_learn b_H_learn 5 (some .int) :: ALL
theorem w_H_learn {R : Room} {s : State} {args : Array Value} {own : String} {index : Nat} (hts : ∀ w ∈ ALL, w.before args s = true) (hlk : Cond.methodLink own index y_H_learn ∈ ALL) (hR : (({ frames := 4, cells := 0, slots := 0, locals := 101 } : Room)).frames + 1 ≤ R.frames ∧ 8 + (5 + 11) + (({ frames := 4, cells := 0, slots := 0, locals := 101 } : Room)).locals ≤ R.locals) : CallW R s args own R_H index y_H_learn b_H_learn 5 (some .int) ws_H_learn ({ frames := 4, cells := 0, slots := 0, locals := 101 } : Room) 0 0 3 := ⟨callB_of 3 hts (good_c a_551) rfl rfl rfl (hts _ a_1) (hts _ hlk) (by decide +kernel) hR, hts _ a_550, hts _ a_s11⟩
theorem d_H_learn_0 : decode b_H_learn 0 = .ok (.aload_n 1, 1) := by decide +kernel
theorem d_H_learn_1 : decode b_H_learn 1 = .ok (.getfield 129, 3) := by decide +kernel
theorem d_H_learn_4 : decode b_H_learn 4 = .ok (.iload_n 2, 1) := by decide +kernel
theorem d_H_learn_5 : decode b_H_learn 5 = .ok (.iaload, 1) := by decide +kernel
theorem d_H_learn_6 : decode b_H_learn 6 = .ok (.iconst (-1), 1) := by decide +kernel
theorem d_H_learn_7 : decode b_H_learn 7 = .ok (.if_icmp .eq 5, 3) := by decide +kernel
theorem d_H_learn_10 : decode b_H_learn 10 = .ok (.iconst 0, 1) := by decide +kernel
theorem d_H_learn_11 : decode b_H_learn 11 = .ok (.ireturn, 1) := by decide +kernel
theorem d_H_learn_12 : decode b_H_learn 12 = .ok (.aload_n 1, 1) := by decide +kernel
theorem d_H_learn_13 : decode b_H_learn 13 = .ok (.getfield 129, 3) := by decide +kernel
theorem d_H_learn_16 : decode b_H_learn 16 = .ok (.iload_n 2, 1) := by decide +kernel
theorem d_H_learn_17 : decode b_H_learn 17 = .ok (.iload_n 3, 1) := by decide +kernel
theorem d_H_learn_18 : decode b_H_learn 18 = .ok (.iastore, 1) := by decide +kernel
theorem d_H_learn_19 : decode b_H_learn 19 = .ok (.aload_n 1, 1) := by decide +kernel
theorem d_H_learn_20 : decode b_H_learn 20 = .ok (.getfield 70, 3) := by decide +kernel
theorem d_H_learn_23 : decode b_H_learn 23 = .ok (.astore 4, 2) := by decide +kernel
theorem d_H_learn_25 : decode b_H_learn 25 = .ok (.aload 4, 2) := by decide +kernel
theorem d_H_learn_27 : decode b_H_learn 27 = .ok (.getfield 74, 3) := by decide +kernel
theorem d_H_learn_30 : decode b_H_learn 30 = .ok (.ifCond .eq 12, 3) := by decide +kernel
theorem d_H_learn_33 : decode b_H_learn 33 = .ok (.aload 4, 2) := by decide +kernel
theorem d_H_learn_35 : decode b_H_learn 35 = .ok (.getfield 98, 3) := by decide +kernel
theorem d_H_learn_38 : decode b_H_learn 38 = .ok (.iload_n 2, 1) := by decide +kernel
theorem d_H_learn_39 : decode b_H_learn 39 = .ok (.if_icmp .eq 5, 3) := by decide +kernel
theorem d_H_learn_42 : decode b_H_learn 42 = .ok (.iconst 0, 1) := by decide +kernel
theorem d_H_learn_43 : decode b_H_learn 43 = .ok (.ireturn, 1) := by decide +kernel
theorem d_H_learn_44 : decode b_H_learn 44 = .ok (.iload_n 3, 1) := by decide +kernel
theorem d_H_learn_45 : decode b_H_learn 45 = .ok (.aload 4, 2) := by decide +kernel
theorem d_H_learn_47 : decode b_H_learn 47 = .ok (.getfield 88, 3) := by decide +kernel
theorem d_H_learn_50 : decode b_H_learn 50 = .ok (.if_icmp .ne 11, 3) := by decide +kernel
theorem d_H_learn_53 : decode b_H_learn 53 = .ok (.aload 4, 2) := by decide +kernel
theorem d_H_learn_55 : decode b_H_learn 55 = .ok (.iconst 0, 1) := by decide +kernel
theorem d_H_learn_56 : decode b_H_learn 56 = .ok (.putfield 74, 3) := by decide +kernel
theorem d_H_learn_59 : decode b_H_learn 59 = .ok (.iconst 0, 1) := by decide +kernel
theorem d_H_learn_60 : decode b_H_learn 60 = .ok (.ireturn, 1) := by decide +kernel
theorem d_H_learn_61 : decode b_H_learn 61 = .ok (.aload_n 0, 1) := by decide +kernel
theorem d_H_learn_62 : decode b_H_learn 62 = .ok (.aload_n 1, 1) := by decide +kernel
theorem d_H_learn_63 : decode b_H_learn 63 = .ok (.iconst 0, 1) := by decide +kernel
theorem d_H_learn_64 : decode b_H_learn 64 = .ok (.invokevirtual 94, 3) := by decide +kernel
theorem d_H_learn_67 : decode b_H_learn 67 = .ok (.ireturn, 1) := by decide +kernel
def F_H_learn (u : XC) (j1 : Nat) (a2 : Int32) (a3 : Int32) : Option (Int32 × XC) := (if 0 ≤ a2 ∧ (a2).toNatClampNeg < 6 then (if (u.1 10 j1 (a2).toNatClampNeg) = (-1) then (if 0 ≤ a2 ∧ (a2).toNatClampNeg < 6 then (nm_ (pu u 10 j1 (a2).toNatClampNeg a3) fun u4 => (if (u4.1 11 j1 0) = 0 then some (0, u4) else (if (u4.1 11 j1 1) = a2 then (if a3 = (u4.1 11 j1 3) then (nm_ (pu u4 11 j1 0 0) fun u12 => some (0, u12)) else (bd_ (F_H_begin u4 j1 0) fun r9 u11 => some (r9, u11))) else some (0, u4)))) else none) else some (0, u)) else none)
set_option maxHeartbeats 4000000 in
set_option maxRecDepth 100000 in
theorem c_H_learn (l : Launch) (D : va_G) (ad : Nat → Nat → Nat) (ca : Nat → ClassId) (hD0 : ∀ z u, va_D (AH ad) (wh ad ca z u)) {z : ZW} {u : XC} {j1 : Nat} {a2 : Int32} {a3 : Int32} {r0 : Int32} {u0 : XC} (hj1 : j1 < 27) (hF : F_H_learn u j1 a2 a3 = some (r0, u0)) : Met l y_H_learn ws_H_learn ({ frames := 4, cells := 0, slots := 0, locals := 101 } : Room) (va_Pc [.ref (ad 0 0), .ref (ad 4 j1), .int a2, .int a3] (fun U => va_P D CLS (wh ad ca z u) U.heap ∧ va_K D CLS (TYH ca) U)) (va_Qi (fun (r : Int32) (_ : Unit) => r = r0) (fun _ t => va_P D CLS (wh ad ca z u0) t.heap) (AH ad)) 0 0 (AH ad) := by
  refine Met.ofW (cc := b_H_learn) (maxL := 5) (ret := (some .int)) (by decide +kernel) rfl ?_
  intro p e s m args below meth c s₁ B hml hv
  obtain ⟨rfl, hP, hK⟩ := hv
  have hx := B.exec
  have hb := B.bytes
  have hr := B.returns
  have hts : ∀ w ∈ ALL, w.before _ s = true := fun w h => atoms_spec (ws := ws_H_learn) B.pre w (List.mem_cons_of_mem _ h)
  have hown : s.vm.findClass R_H = some m.cls := findClass_of_methodNamed B.named
  have hlocks := B.notSynchronized
  have hD := hD0
  have hS : va_S (AH ad) s.heap s.heap [] := va_S.rf
  have hP : va_P D CLS (wh ad ca z u) s.heap := hP
  have hl := lv_entry ([.ref (ad 0 0), .ref (ad 4 j1), .int a2, .int a3]) (n := 5) (Nat.le_of_ble_eq_true rfl)
  rw [lg_entry_eq]
  generalize (lg_sl ([.ref (ad 0 0), .ref (ad 4 j1), .int a2, .int a3]) ++ List.replicate (5 - (lg_sl ([.ref (ad 0 0), .ref (ad 4 j1), .int a2, .int a3])).length) Slot.unset).toArray = ls at hl ⊢
  have hl : lv_has ls 5 [(0, .ref (ad 0 0)), (1, .ref (ad 4 j1)), (2, .int a2), (3, .int a3)] := hl
  unfold F_H_learn at hF
  refine lv_aload_n hx hb d_H_learn_0 rfl (lv_at hl 1 rfl) ?_
  refine gf_O_4 hx hb hts hown hK hP hj1 a_160 d_H_learn_1 ?_
  refine lv_iload_n hx hb d_H_learn_4 rfl (lv_at hl 2 rfl) ?_
  obtain ⟨h1, hF⟩ := as_u hF
  refine il_10 hx hb hK hP hj1 h1 d_H_learn_5 ?_
  refine lv_iconst (v := (-1)) hx hb d_H_learn_6 (by decide) ?_
  refine lv_icmp_eq (tgt := 12) hx hb d_H_learn_7 (by decide) (fun h2 => ?_) (fun h2 => ?_)
  · have hF := it_t hF h2
    refine lv_aload_n hx hb d_H_learn_12 rfl (lv_at hl 1 rfl) ?_
    refine gf_O_4 hx hb hts hown hK hP hj1 a_160 d_H_learn_13 ?_
    refine lv_iload_n hx hb d_H_learn_16 rfl (lv_at hl 2 rfl) ?_
    refine lv_iload_n hx hb d_H_learn_17 rfl (lv_at hl 3 rfl) ?_
    obtain ⟨h3, hF⟩ := as_u hF
    obtain ⟨u4, h5, hF⟩ := nm_u hF
    refine is_10 hx hb hK hP hD hS hj1 h3 h5 d_H_learn_18 (fun H locs hP hS => ?_)
    refine lv_aload_n hx hb d_H_learn_19 rfl (lv_at hl 1 rfl) ?_
    refine gf_O_7 hx hb hts hown hK hP hj1 a_166 d_H_learn_20 ?_
    refine lv_astore (lv' := [(4, .ref (ad 11 j1)), (0, .ref (ad 0 0)), (1, .ref (ad 4 j1)), (2, .int a2), (3, .int a3)]) hx hb d_H_learn_23 hl (by decide) rfl (fun ls hl => ?_)
    refine lv_aload hx hb d_H_learn_25 (lv_at hl 0 rfl) ?_
    refine gf_R_0 hx hb hts hown hK hP hj1 a_111 d_H_learn_27 ?_
    refine lv_if_eq (tgt := 42) hx hb d_H_learn_30 (by decide) (fun h6 => ?_) (fun h6 => ?_)
    · have hF := it_t hF h6
      refine lv_iconst (v := 0) hx hb d_H_learn_42 (by decide) ?_
      obtain ⟨rfl, rfl⟩ := rt2 hF
      exact W.iret (v := 0) hx hb hr (fun t ht hW => ⟨⟨_, (), rfl, rfl, vp_at ht hP⟩, hS.F ht⟩) hS.2.2 d_H_learn_43
    · have hF := it_f hF h6
      refine lv_aload hx hb d_H_learn_33 (lv_at hl 0 rfl) ?_
      refine gf_R_1 hx hb hts hown hK hP hj1 a_113 d_H_learn_35 ?_
      refine lv_iload_n hx hb d_H_learn_38 rfl (lv_at hl 3 rfl) ?_
      refine lv_icmp_eq (tgt := 44) hx hb d_H_learn_39 (by decide) (fun h7 => ?_) (fun h7 => ?_)
      · have hF := it_t hF h7
        refine lv_iload_n hx hb d_H_learn_44 rfl (lv_at hl 4 rfl) ?_
        refine lv_aload hx hb d_H_learn_45 (lv_at hl 0 rfl) ?_
        refine gf_R_3 hx hb hts hown hK hP hj1 a_117 d_H_learn_47 ?_
        refine lv_icmp_ne (tgt := 61) hx hb d_H_learn_50 (by decide) (fun h8 => ?_) (fun h8 => ?_)
        · have hF := it_f hF h8
          refine lv_aload_n hx hb d_H_learn_61 rfl (lv_at hl 1 rfl) ?_
          refine lv_aload_n hx hb d_H_learn_62 rfl (lv_at hl 2 rfl) ?_
          refine lv_iconst (v := 0) hx hb d_H_learn_63 (by decide) ?_
          obtain ⟨r9, u11, h10, hF⟩ := bd_u hF
          refine k_vi (ad 0 0) [.ref (ad 4 j1), .int 0] [] ⟨hx, hb, hml, hown, hts⟩ (c_H_begin l D ad ca hD0 (z := z) (u := u4) hj1 h10) (w_H_begin hts a_437 ⟨Nat.le_of_ble_eq_true rfl, Nat.le_of_ble_eq_true rfl⟩) (rv_H hK hP (by decide)) hP hK hS (fun _ h => h) rfl rfl hl.1 (Nat.le_of_ble_eq_true rfl) ⟨Nat.zero_le _, Nat.zero_le _⟩ d_H_learn_64 (fun H locs hP hS => ?_)
          obtain ⟨rfl, rfl⟩ := rt2 hF
          exact W.iret (v := r9) hx hb hr (fun t ht hW => ⟨⟨_, (), rfl, rfl, vp_at ht hP⟩, hS.F ht⟩) hS.2.2 d_H_learn_67
        · have hF := it_t hF h8
          refine lv_aload hx hb d_H_learn_53 (lv_at hl 0 rfl) ?_
          refine lv_iconst (v := 0) hx hb d_H_learn_55 (by decide) ?_
          obtain ⟨u12, h13, hF⟩ := nm_u hF
          refine pf_R_0 hx hb hts hown hK hP hD hS hj1 h13 a_111 d_H_learn_56 (fun H locs hP hS => ?_)
          refine lv_iconst (v := 0) hx hb d_H_learn_59 (by decide) ?_
          obtain ⟨rfl, rfl⟩ := rt2 hF
          exact W.iret (v := 0) hx hb hr (fun t ht hW => ⟨⟨_, (), rfl, rfl, vp_at ht hP⟩, hS.F ht⟩) hS.2.2 d_H_learn_60
      · have hF := it_f hF h7
        refine lv_iconst (v := 0) hx hb d_H_learn_42 (by decide) ?_
        obtain ⟨rfl, rfl⟩ := rt2 hF
        exact W.iret (v := 0) hx hb hr (fun t ht hW => ⟨⟨_, (), rfl, rfl, vp_at ht hP⟩, hS.F ht⟩) hS.2.2 d_H_learn_43
  · have hF := it_f hF h2
    refine lv_iconst (v := 0) hx hb d_H_learn_10 (by decide) ?_
    obtain ⟨rfl, rfl⟩ := rt2 hF
    exact W.iret (v := 0) hx hb hr (fun t ht hW => ⟨⟨_, (), rfl, rfl, vp_at ht hP⟩, hS.F ht⟩) hS.2.2 d_H_learn_11
def ws_H_hearTaken : List Cond := Cond.code y_H_hearTaken b_H_hearTaken 4 (some .int) :: ALL
theorem w_H_hearTaken {R : Room} {s : State} {args : Array Value} {own : String} {index : Nat} (hts : ∀ w ∈ ALL, w.before args s = true) (hlk : Cond.methodLink own index y_H_hearTaken ∈ ALL) (hR : (({ frames := 5, cells := 0, slots := 0, locals := 125 } : Room)).frames + 1 ≤ R.frames ∧ 8 + (4 + 11) + (({ frames := 5, cells := 0, slots := 0, locals := 125 } : Room)).locals ≤ R.locals) : CallW R s args own R_H index y_H_hearTaken b_H_hearTaken 4 (some .int) ws_H_hearTaken ({ frames := 5, cells := 0, slots := 0, locals := 125 } : Room) 0 0 2 := ⟨callB_of 2 hts (good_c a_547) rfl rfl rfl (hts _ a_1) (hts _ hlk) (by decide +kernel) hR, hts _ a_546, hts _ a_s10⟩
theorem d_H_hearTaken_0 : decode b_H_hearTaken 0 = .ok (.aload_n 1, 1) := by decide +kernel
theorem d_H_hearTaken_1 : decode b_H_hearTaken 1 = .ok (.getfield 70, 3) := by decide +kernel
theorem d_H_hearTaken_4 : decode b_H_hearTaken 4 = .ok (.astore_n 3, 1) := by decide +kernel
theorem d_H_hearTaken_5 : decode b_H_hearTaken 5 = .ok (.aload_n 3, 1) := by decide +kernel
theorem d_H_hearTaken_6 : decode b_H_hearTaken 6 = .ok (.getfield 74, 3) := by decide +kernel
theorem d_H_hearTaken_9 : decode b_H_hearTaken 9 = .ok (.iconst 2, 1) := by decide +kernel
theorem d_H_hearTaken_10 : decode b_H_hearTaken 10 = .ok (.if_icmp .ne 14, 3) := by decide +kernel
theorem d_H_hearTaken_13 : decode b_H_hearTaken 13 = .ok (.aload_n 3, 1) := by decide +kernel
theorem d_H_hearTaken_14 : decode b_H_hearTaken 14 = .ok (.getfield 201, 3) := by decide +kernel
theorem d_H_hearTaken_17 : decode b_H_hearTaken 17 = .ok (.aload_n 2, 1) := by decide +kernel
theorem d_H_hearTaken_18 : decode b_H_hearTaken 18 = .ok (.getfield 162, 3) := by decide +kernel
theorem d_H_hearTaken_21 : decode b_H_hearTaken 21 = .ok (.if_icmp .eq 5, 3) := by decide +kernel
theorem d_H_hearTaken_24 : decode b_H_hearTaken 24 = .ok (.iconst 0, 1) := by decide +kernel
theorem d_H_hearTaken_25 : decode b_H_hearTaken 25 = .ok (.ireturn, 1) := by decide +kernel
theorem d_H_hearTaken_26 : decode b_H_hearTaken 26 = .ok (.aload_n 3, 1) := by decide +kernel
theorem d_H_hearTaken_27 : decode b_H_hearTaken 27 = .ok (.dup, 1) := by decide +kernel
theorem d_H_hearTaken_28 : decode b_H_hearTaken 28 = .ok (.getfield 125, 3) := by decide +kernel
theorem d_H_hearTaken_31 : decode b_H_hearTaken 31 = .ok (.iconst 1, 1) := by decide +kernel
theorem d_H_hearTaken_32 : decode b_H_hearTaken 32 = .ok (.aload_n 2, 1) := by decide +kernel
theorem d_H_hearTaken_33 : decode b_H_hearTaken 33 = .ok (.getfield 156, 3) := by decide +kernel
theorem d_H_hearTaken_36 : decode b_H_hearTaken 36 = .ok (.ishl, 1) := by decide +kernel
theorem d_H_hearTaken_37 : decode b_H_hearTaken 37 = .ok (.ior, 1) := by decide +kernel
theorem d_H_hearTaken_38 : decode b_H_hearTaken 38 = .ok (.putfield 125, 3) := by decide +kernel
theorem d_H_hearTaken_41 : decode b_H_hearTaken 41 = .ok (.aload_n 3, 1) := by decide +kernel
theorem d_H_hearTaken_42 : decode b_H_hearTaken 42 = .ok (.getfield 125, 3) := by decide +kernel
theorem d_H_hearTaken_45 : decode b_H_hearTaken 45 = .ok (.invokestatic 198, 3) := by decide +kernel
theorem d_H_hearTaken_48 : decode b_H_hearTaken 48 = .ok (.ifCond .eq 19, 3) := by decide +kernel
theorem d_H_hearTaken_51 : decode b_H_hearTaken 51 = .ok (.aload_n 0, 1) := by decide +kernel
theorem d_H_hearTaken_52 : decode b_H_hearTaken 52 = .ok (.aload_n 1, 1) := by decide +kernel
theorem d_H_hearTaken_53 : decode b_H_hearTaken 53 = .ok (.aload_n 3, 1) := by decide +kernel
theorem d_H_hearTaken_54 : decode b_H_hearTaken 54 = .ok (.getfield 98, 3) := by decide +kernel
theorem d_H_hearTaken_57 : decode b_H_hearTaken 57 = .ok (.aload_n 3, 1) := by decide +kernel
theorem d_H_hearTaken_58 : decode b_H_hearTaken 58 = .ok (.getfield 229, 3) := by decide +kernel
theorem d_H_hearTaken_61 : decode b_H_hearTaken 61 = .ok (.invokevirtual 191, 3) := by decide +kernel
theorem d_H_hearTaken_64 : decode b_H_hearTaken 64 = .ok (.goto 4, 3) := by decide +kernel
theorem d_H_hearTaken_67 : decode b_H_hearTaken 67 = .ok (.iconst 0, 1) := by decide +kernel
theorem d_H_hearTaken_68 : decode b_H_hearTaken 68 = .ok (.ireturn, 1) := by decide +kernel
def F_H_hearTaken (u : XC) (j1 : Nat) (j2 : Nat) : Option (Int32 × XC) := (if (u.1 11 j1 0) = 2 then (if (u.1 11 j1 2) = (u.1 7 j2 3) then (nm_ (pu u 11 j1 5 ((u.1 11 j1 5) ||| (1 <<< ((u.1 7 j2 1) &&& 31)))) fun u3 => (bs_ (F_S_isQuorum (u3.1 11 j1 5)) fun r5 => (if r5 = 0 then some (0, u3) else (bd_ (F_H_learn u3 j1 (u3.1 11 j1 1) (u3.1 11 j1 7)) fun r8 u10 => some (r8, u10))))) else some (0, u)) else some (0, u))
set_option maxHeartbeats 4000000 in
set_option maxRecDepth 100000 in
theorem c_H_hearTaken (l : Launch) (D : va_G) (ad : Nat → Nat → Nat) (ca : Nat → ClassId) (hD0 : ∀ z u, va_D (AH ad) (wh ad ca z u)) {z : ZW} {u : XC} {j1 : Nat} {j2 : Nat} {r0 : Int32} {u0 : XC} (hj1 : j1 < 27) (hj2 : j2 < 152) (hF : F_H_hearTaken u j1 j2 = some (r0, u0)) : Met l y_H_hearTaken ws_H_hearTaken ({ frames := 5, cells := 0, slots := 0, locals := 125 } : Room) (va_Pc [.ref (ad 0 0), .ref (ad 4 j1), .ref (ad 7 j2)] (fun U => va_P D CLS (wh ad ca z u) U.heap ∧ va_K D CLS (TYH ca) U)) (va_Qi (fun (r : Int32) (_ : Unit) => r = r0) (fun _ t => va_P D CLS (wh ad ca z u0) t.heap) (AH ad)) 0 0 (AH ad) := by
  refine Met.ofW (cc := b_H_hearTaken) (maxL := 4) (ret := (some .int)) (by decide +kernel) rfl ?_
  intro p e s m args below meth c s₁ B hml hv
  obtain ⟨rfl, hP, hK⟩ := hv
  have hx := B.exec
  have hb := B.bytes
  have hr := B.returns
  have hts : ∀ w ∈ ALL, w.before _ s = true := fun w h => atoms_spec (ws := ws_H_hearTaken) B.pre w (List.mem_cons_of_mem _ h)
  have hown : s.vm.findClass R_H = some m.cls := findClass_of_methodNamed B.named
  have hlocks := B.notSynchronized
  have hD := hD0
  have hS : va_S (AH ad) s.heap s.heap [] := va_S.rf
  have hP : va_P D CLS (wh ad ca z u) s.heap := hP
  have hl := lv_entry ([.ref (ad 0 0), .ref (ad 4 j1), .ref (ad 7 j2)]) (n := 4) (Nat.le_of_ble_eq_true rfl)
  rw [lg_entry_eq]
  generalize (lg_sl ([.ref (ad 0 0), .ref (ad 4 j1), .ref (ad 7 j2)]) ++ List.replicate (4 - (lg_sl ([.ref (ad 0 0), .ref (ad 4 j1), .ref (ad 7 j2)])).length) Slot.unset).toArray = ls at hl ⊢
  have hl : lv_has ls 4 [(0, .ref (ad 0 0)), (1, .ref (ad 4 j1)), (2, .ref (ad 7 j2))] := hl
  unfold F_H_hearTaken at hF
  refine lv_aload_n hx hb d_H_hearTaken_0 rfl (lv_at hl 1 rfl) ?_
  refine gf_O_7 hx hb hts hown hK hP hj1 a_166 d_H_hearTaken_1 ?_
  refine lv_astore_n (lv' := [(3, .ref (ad 11 j1)), (0, .ref (ad 0 0)), (1, .ref (ad 4 j1)), (2, .ref (ad 7 j2))]) hx hb d_H_hearTaken_4 rfl hl (by decide) rfl (fun ls hl => ?_)
  refine lv_aload_n hx hb d_H_hearTaken_5 rfl (lv_at hl 0 rfl) ?_
  refine gf_R_0 hx hb hts hown hK hP hj1 a_111 d_H_hearTaken_6 ?_
  refine lv_iconst (v := 2) hx hb d_H_hearTaken_9 (by decide) ?_
  refine lv_icmp_ne (tgt := 24) hx hb d_H_hearTaken_10 (by decide) (fun h1 => ?_) (fun h1 => ?_)
  · have hF := it_f hF h1
    refine lv_iconst (v := 0) hx hb d_H_hearTaken_24 (by decide) ?_
    obtain ⟨rfl, rfl⟩ := rt2 hF
    exact W.iret (v := 0) hx hb hr (fun t ht hW => ⟨⟨_, (), rfl, rfl, vp_at ht hP⟩, hS.F ht⟩) hS.2.2 d_H_hearTaken_25
  · have hF := it_t hF h1
    refine lv_aload_n hx hb d_H_hearTaken_13 rfl (lv_at hl 0 rfl) ?_
    refine gf_R_2 hx hb hts hown hK hP hj1 a_115 d_H_hearTaken_14 ?_
    refine lv_aload_n hx hb d_H_hearTaken_17 rfl (lv_at hl 3 rfl) ?_
    refine gf_L_3 hx hb hts hown hK hP hj2 a_54 d_H_hearTaken_18 ?_
    refine lv_icmp_eq (tgt := 26) hx hb d_H_hearTaken_21 (by decide) (fun h2 => ?_) (fun h2 => ?_)
    · have hF := it_t hF h2
      refine lv_aload_n hx hb d_H_hearTaken_26 rfl (lv_at hl 0 rfl) ?_
      refine lv_dup hx hb d_H_hearTaken_27 rfl ?_
      refine gf_R_5 hx hb hts hown hK hP hj1 a_121 d_H_hearTaken_28 ?_
      refine lv_iconst (v := 1) hx hb d_H_hearTaken_31 (by decide) ?_
      refine lv_aload_n hx hb d_H_hearTaken_32 rfl (lv_at hl 3 rfl) ?_
      refine gf_L_1 hx hb hts hown hK hP hj2 a_48 d_H_hearTaken_33 ?_
      refine lv_ishl hx hb d_H_hearTaken_36 ?_
      refine lv_ior hx hb d_H_hearTaken_37 ?_
      obtain ⟨u3, h4, hF⟩ := nm_u hF
      refine pf_R_5 hx hb hts hown hK hP hD hS hj1 h4 a_121 d_H_hearTaken_38 (fun H locs hP hS => ?_)
      refine lv_aload_n hx hb d_H_hearTaken_41 rfl (lv_at hl 0 rfl) ?_
      refine gf_R_5 hx hb hts hown hK hP hj1 a_121 d_H_hearTaken_42 ?_
      obtain ⟨r5, h6, hF⟩ := bs_u hF
      refine k_sp [.int (u3.1 11 j1 5)] [] ⟨hx, hb, hml, hown, hts⟩ (c_S_isQuorum l  h6) (w_S_isQuorum hts a_287 ⟨Nat.le_of_ble_eq_true rfl, Nat.le_of_ble_eq_true rfl⟩) rfl rfl hl.1 (Nat.le_of_ble_eq_true rfl) ⟨Nat.zero_le _, Nat.zero_le _⟩ d_H_hearTaken_45 ?_
      refine lv_if_eq (tgt := 67) hx hb d_H_hearTaken_48 (by decide) (fun h7 => ?_) (fun h7 => ?_)
      · have hF := it_t hF h7
        refine lv_iconst (v := 0) hx hb d_H_hearTaken_67 (by decide) ?_
        obtain ⟨rfl, rfl⟩ := rt2 hF
        exact W.iret (v := 0) hx hb hr (fun t ht hW => ⟨⟨_, (), rfl, rfl, vp_at ht hP⟩, hS.F ht⟩) hS.2.2 d_H_hearTaken_68
      · have hF := it_f hF h7
        refine lv_aload_n hx hb d_H_hearTaken_51 rfl (lv_at hl 1 rfl) ?_
        refine lv_aload_n hx hb d_H_hearTaken_52 rfl (lv_at hl 2 rfl) ?_
        refine lv_aload_n hx hb d_H_hearTaken_53 rfl (lv_at hl 0 rfl) ?_
        refine gf_R_1 hx hb hts hown hK hP hj1 a_113 d_H_hearTaken_54 ?_
        refine lv_aload_n hx hb d_H_hearTaken_57 rfl (lv_at hl 0 rfl) ?_
        refine gf_R_7 hx hb hts hown hK hP hj1 a_125 d_H_hearTaken_58 ?_
        obtain ⟨r8, u10, h9, hF⟩ := bd_u hF
        refine k_vi (ad 0 0) [.ref (ad 4 j1), .int (u3.1 11 j1 1), .int (u3.1 11 j1 7)] [] ⟨hx, hb, hml, hown, hts⟩ (c_H_learn l D ad ca hD0 (z := z) (u := u3) hj1 h9) (w_H_learn hts a_548 ⟨Nat.le_of_ble_eq_true rfl, Nat.le_of_ble_eq_true rfl⟩) (rv_H hK hP (by decide)) hP hK hS (fun _ h => h) rfl rfl hl.1 (Nat.le_of_ble_eq_true rfl) ⟨Nat.zero_le _, Nat.zero_le _⟩ d_H_hearTaken_61 (fun H locs hP hS => ?_)
        refine lv_goto (tgt := 68) hx hb d_H_hearTaken_64 (by decide) ?_
        obtain ⟨rfl, rfl⟩ := rt2 hF
        exact W.iret (v := r8) hx hb hr (fun t ht hW => ⟨⟨_, (), rfl, rfl, vp_at ht hP⟩, hS.F ht⟩) hS.2.2 d_H_hearTaken_68
    · have hF := it_f hF h2
      refine lv_iconst (v := 0) hx hb d_H_hearTaken_24 (by decide) ?_
      obtain ⟨rfl, rfl⟩ := rt2 hF
      exact W.iret (v := 0) hx hb hr (fun t ht hW => ⟨⟨_, (), rfl, rfl, vp_at ht hP⟩, hS.F ht⟩) hS.2.2 d_H_hearTaken_25
