def ws_Z_thrown : List Cond := Cond.code y_Z_thrown b_Z_thrown 1 (some .int) :: ALL
theorem w_Z_thrown {R : Room} {s : State} {args : Array Value} {own : String} {index : Nat} (hts : ∀ w ∈ ALL, w.before args s = true) (hlk : Cond.methodLink own index y_Z_thrown ∈ ALL) (hR : (({ frames := 0, cells := 0, slots := 0, locals := 0 } : Room)).frames + 1 ≤ R.frames ∧ 8 + (1 + 11) + (({ frames := 0, cells := 0, slots := 0, locals := 0 } : Room)).locals ≤ R.locals) : CallW R s args own R_Z index y_Z_thrown b_Z_thrown 1 (some .int) ws_Z_thrown ({ frames := 0, cells := 0, slots := 0, locals := 0 } : Room) 0 0 0 := ⟨callB_of 0 hts (good_c a_659) rfl rfl rfl (hts _ a_8) (hts _ hlk) (by decide +kernel) hR, hts _ a_657, hts _ a_658⟩
theorem d_Z_thrown_0 : decode b_Z_thrown 0 = .ok (.aload_n 0, 1) := by decide +kernel
theorem d_Z_thrown_1 : decode b_Z_thrown 1 = .ok (.getfield 95, 3) := by decide +kernel
theorem d_Z_thrown_4 : decode b_Z_thrown 4 = .ok (.ireturn, 1) := by decide +kernel
def F_Z_thrown (z : ZW)  : Option (Int32) := some (z.1 0 0)
set_option maxHeartbeats 4000000 in
set_option maxRecDepth 100000 in
theorem c_Z_thrown (l : Launch) (D : va_G) (ad : Nat → Nat → Nat) (ca : Nat → ClassId) (hD0 : ∀ z u, va_D (AH ad) (wh ad ca z u)) {z : ZW} {u : XC}  {r0 : Int32}  (hF : F_Z_thrown z  = some r0) : Met l y_Z_thrown ws_Z_thrown ({ frames := 0, cells := 0, slots := 0, locals := 0 } : Room) (va_Pc [.ref (ad 14 0)] (fun U => va_P D CLS (wh ad ca z u) U.heap ∧ va_K D CLS (TYH ca) U)) (vp_Si (fun r => r = r0)) 0 0 (fun _ => False) := by
  refine Met.ofW (cc := b_Z_thrown) (maxL := 1) (ret := (some .int)) (by decide +kernel) rfl ?_
  intro p e s m args below meth c s₁ B hml hv
  obtain ⟨rfl, hP, hK⟩ := hv
  have hx := B.exec
  have hb := B.bytes
  have hr := B.returns
  have hts : ∀ w ∈ ALL, w.before _ s = true := fun w h => atoms_spec (ws := ws_Z_thrown) B.pre w (List.mem_cons_of_mem _ h)
  have hown : s.vm.findClass R_Z = some m.cls := findClass_of_methodNamed B.named
  have hlocks := B.notSynchronized
  have hD := hD0
  have hS : va_S (fun _ => True) s.heap s.heap [] := va_S.rf
  have hN : ∀ q ∈ ([] : List Loc), (fun _ => False) q.base := fun _ h => absurd h List.not_mem_nil
  have hP : va_P D CLS (wh ad ca z u) s.heap := hP
  have hl := lv_entry ([.ref (ad 14 0)]) (n := 1) (Nat.le_of_ble_eq_true rfl)
  rw [lg_entry_eq]
  generalize (lg_sl ([.ref (ad 14 0)]) ++ List.replicate (1 - (lg_sl ([.ref (ad 14 0)])).length) Slot.unset).toArray = ls at hl ⊢
  have hl : lv_has ls 1 [(0, .ref (ad 14 0))] := hl
  have hH : s.heap = s.heap := rfl
  unfold F_Z_thrown at hF
  refine lv_aload_n hx hb d_Z_thrown_0 rfl (lv_at hl 0 rfl) ?_
  refine gf_Z_0 hx hb hts hown hK hP (by decide) a_558 d_Z_thrown_1 ?_
  have hF := rt1 hF
  subst hF
  exact W.iret (v := (z.1 0 0)) hx hb hr (fun t ht hW => ⟨_, rfl, rfl, ht.trans hH⟩) hN d_Z_thrown_4
def ws_Z_inDistrict : List Cond := Cond.code y_Z_inDistrict b_Z_inDistrict 2 (some .int) :: ALL
theorem w_Z_inDistrict {R : Room} {s : State} {args : Array Value} {own : String} {index : Nat} (hts : ∀ w ∈ ALL, w.before args s = true) (hlk : Cond.methodLink own index y_Z_inDistrict ∈ ALL) (hR : (({ frames := 0, cells := 0, slots := 0, locals := 0 } : Room)).frames + 1 ≤ R.frames ∧ 8 + (2 + 11) + (({ frames := 0, cells := 0, slots := 0, locals := 0 } : Room)).locals ≤ R.locals) : CallB R s args own index y_Z_inDistrict b_Z_inDistrict 2 (some .int) ws_Z_inDistrict ({ frames := 0, cells := 0, slots := 0, locals := 0 } : Room) 0 0 2 ∧ (Cond.static y_Z_inDistrict).before args s = true := ⟨callB_of 2 hts (good_c a_673) rfl rfl rfl (hts _ a_8) (hts _ hlk) (by decide +kernel) hR, hts _ a_672⟩
theorem d_Z_inDistrict_0 : decode b_Z_inDistrict 0 = .ok (.iload_n 0, 1) := by decide +kernel
theorem d_Z_inDistrict_1 : decode b_Z_inDistrict 1 = .ok (.iconst 3, 1) := by decide +kernel
theorem d_Z_inDistrict_2 : decode b_Z_inDistrict 2 = .ok (.iload_n 1, 1) := by decide +kernel
theorem d_Z_inDistrict_3 : decode b_Z_inDistrict 3 = .ok (.imul, 1) := by decide +kernel
theorem d_Z_inDistrict_4 : decode b_Z_inDistrict 4 = .ok (.ishr, 1) := by decide +kernel
theorem d_Z_inDistrict_5 : decode b_Z_inDistrict 5 = .ok (.iconst 1, 1) := by decide +kernel
theorem d_Z_inDistrict_6 : decode b_Z_inDistrict 6 = .ok (.iand, 1) := by decide +kernel
theorem d_Z_inDistrict_7 : decode b_Z_inDistrict 7 = .ok (.iload_n 0, 1) := by decide +kernel
theorem d_Z_inDistrict_8 : decode b_Z_inDistrict 8 = .ok (.iconst 3, 1) := by decide +kernel
theorem d_Z_inDistrict_9 : decode b_Z_inDistrict 9 = .ok (.iload_n 1, 1) := by decide +kernel
theorem d_Z_inDistrict_10 : decode b_Z_inDistrict 10 = .ok (.imul, 1) := by decide +kernel
theorem d_Z_inDistrict_11 : decode b_Z_inDistrict 11 = .ok (.iconst 1, 1) := by decide +kernel
theorem d_Z_inDistrict_12 : decode b_Z_inDistrict 12 = .ok (.iadd, 1) := by decide +kernel
theorem d_Z_inDistrict_13 : decode b_Z_inDistrict 13 = .ok (.ishr, 1) := by decide +kernel
theorem d_Z_inDistrict_14 : decode b_Z_inDistrict 14 = .ok (.iconst 1, 1) := by decide +kernel
theorem d_Z_inDistrict_15 : decode b_Z_inDistrict 15 = .ok (.iand, 1) := by decide +kernel
theorem d_Z_inDistrict_16 : decode b_Z_inDistrict 16 = .ok (.iadd, 1) := by decide +kernel
theorem d_Z_inDistrict_17 : decode b_Z_inDistrict 17 = .ok (.iload_n 0, 1) := by decide +kernel
theorem d_Z_inDistrict_18 : decode b_Z_inDistrict 18 = .ok (.iconst 3, 1) := by decide +kernel
theorem d_Z_inDistrict_19 : decode b_Z_inDistrict 19 = .ok (.iload_n 1, 1) := by decide +kernel
theorem d_Z_inDistrict_20 : decode b_Z_inDistrict 20 = .ok (.imul, 1) := by decide +kernel
theorem d_Z_inDistrict_21 : decode b_Z_inDistrict 21 = .ok (.iconst 2, 1) := by decide +kernel
theorem d_Z_inDistrict_22 : decode b_Z_inDistrict 22 = .ok (.iadd, 1) := by decide +kernel
theorem d_Z_inDistrict_23 : decode b_Z_inDistrict 23 = .ok (.ishr, 1) := by decide +kernel
theorem d_Z_inDistrict_24 : decode b_Z_inDistrict 24 = .ok (.iconst 1, 1) := by decide +kernel
theorem d_Z_inDistrict_25 : decode b_Z_inDistrict 25 = .ok (.iand, 1) := by decide +kernel
theorem d_Z_inDistrict_26 : decode b_Z_inDistrict 26 = .ok (.iadd, 1) := by decide +kernel
theorem d_Z_inDistrict_27 : decode b_Z_inDistrict 27 = .ok (.ireturn, 1) := by decide +kernel
def F_Z_inDistrict  (a1 : Int32) (a2 : Int32) : Option (Int32) := some ((((a1 >>> ((3 * a2) &&& 31)) &&& 1) + ((a1 >>> (((3 * a2) + 1) &&& 31)) &&& 1)) + ((a1 >>> (((3 * a2) + 2) &&& 31)) &&& 1))
set_option maxHeartbeats 4000000 in
set_option maxRecDepth 100000 in
theorem c_Z_inDistrict (l : Launch) {a1 : Int32} {a2 : Int32} {r0 : Int32}  (hF : F_Z_inDistrict  a1 a2 = some r0) : Met l y_Z_inDistrict ws_Z_inDistrict ({ frames := 0, cells := 0, slots := 0, locals := 0 } : Room) (va_Pc [.int a1, .int a2] (fun _ => True)) (vp_Si (fun r => r = r0)) 0 0 (fun _ => False) := by
  refine Met.ofW (cc := b_Z_inDistrict) (maxL := 2) (ret := (some .int)) (by decide +kernel) rfl ?_
  intro p e s m args below meth c s₁ B hml hv
  obtain ⟨rfl, -⟩ := hv
  have hx := B.exec
  have hb := B.bytes
  have hr := B.returns
  have hts : ∀ w ∈ ALL, w.before _ s = true := fun w h => atoms_spec (ws := ws_Z_inDistrict) B.pre w (List.mem_cons_of_mem _ h)
  have hown : s.vm.findClass R_Z = some m.cls := findClass_of_methodNamed B.named
  have hlocks := B.notSynchronized
  have hS : va_S (fun _ => True) s.heap s.heap [] := va_S.rf
  have hN : ∀ q ∈ ([] : List Loc), (fun _ => False) q.base := fun _ h => absurd h List.not_mem_nil
  have hl := lv_entry ([.int a1, .int a2]) (n := 2) (Nat.le_of_ble_eq_true rfl)
  rw [lg_entry_eq]
  generalize (lg_sl ([.int a1, .int a2]) ++ List.replicate (2 - (lg_sl ([.int a1, .int a2])).length) Slot.unset).toArray = ls at hl ⊢
  have hl : lv_has ls 2 [(0, .int a1), (1, .int a2)] := hl
  have hH : s.heap = s.heap := rfl
  unfold F_Z_inDistrict at hF
  refine lv_iload_n hx hb d_Z_inDistrict_0 rfl (lv_at hl 0 rfl) ?_
  refine lv_iconst (v := 3) hx hb d_Z_inDistrict_1 (by decide) ?_
  refine lv_iload_n hx hb d_Z_inDistrict_2 rfl (lv_at hl 1 rfl) ?_
  refine lv_imul hx hb d_Z_inDistrict_3 ?_
  refine lv_ishr hx hb d_Z_inDistrict_4 ?_
  refine lv_iconst (v := 1) hx hb d_Z_inDistrict_5 (by decide) ?_
  refine lv_iand hx hb d_Z_inDistrict_6 ?_
  refine lv_iload_n hx hb d_Z_inDistrict_7 rfl (lv_at hl 0 rfl) ?_
  refine lv_iconst (v := 3) hx hb d_Z_inDistrict_8 (by decide) ?_
  refine lv_iload_n hx hb d_Z_inDistrict_9 rfl (lv_at hl 1 rfl) ?_
  refine lv_imul hx hb d_Z_inDistrict_10 ?_
  refine lv_iconst (v := 1) hx hb d_Z_inDistrict_11 (by decide) ?_
  refine lv_iadd hx hb d_Z_inDistrict_12 ?_
  refine lv_ishr hx hb d_Z_inDistrict_13 ?_
  refine lv_iconst (v := 1) hx hb d_Z_inDistrict_14 (by decide) ?_
  refine lv_iand hx hb d_Z_inDistrict_15 ?_
  refine lv_iadd hx hb d_Z_inDistrict_16 ?_
  refine lv_iload_n hx hb d_Z_inDistrict_17 rfl (lv_at hl 0 rfl) ?_
  refine lv_iconst (v := 3) hx hb d_Z_inDistrict_18 (by decide) ?_
  refine lv_iload_n hx hb d_Z_inDistrict_19 rfl (lv_at hl 1 rfl) ?_
  refine lv_imul hx hb d_Z_inDistrict_20 ?_
  refine lv_iconst (v := 2) hx hb d_Z_inDistrict_21 (by decide) ?_
  refine lv_iadd hx hb d_Z_inDistrict_22 ?_
  refine lv_ishr hx hb d_Z_inDistrict_23 ?_
  refine lv_iconst (v := 1) hx hb d_Z_inDistrict_24 (by decide) ?_
  refine lv_iand hx hb d_Z_inDistrict_25 ?_
  refine lv_iadd hx hb d_Z_inDistrict_26 ?_
  have hF := rt1 hF
  subst hF
  exact W.iret (v := ((((a1 >>> ((3 * a2) &&& 31)) &&& 1) + ((a1 >>> (((3 * a2) + 1) &&& 31)) &&& 1)) + ((a1 >>> (((3 * a2) + 2) &&& 31)) &&& 1))) hx hb hr (fun t ht hW => ⟨_, rfl, rfl, ht.trans hH⟩) hN d_Z_inDistrict_27
def ws_Z_inRegion : List Cond := Cond.code y_Z_inRegion b_Z_inRegion 4 (some .int) :: ALL
theorem w_Z_inRegion {R : Room} {s : State} {args : Array Value} {own : String} {index : Nat} (hts : ∀ w ∈ ALL, w.before args s = true) (hlk : Cond.methodLink own index y_Z_inRegion ∈ ALL) (hR : (({ frames := 1, cells := 0, slots := 0, locals := 21 } : Room)).frames + 1 ≤ R.frames ∧ 8 + (4 + 11) + (({ frames := 1, cells := 0, slots := 0, locals := 21 } : Room)).locals ≤ R.locals) : CallB R s args own index y_Z_inRegion b_Z_inRegion 4 (some .int) ws_Z_inRegion ({ frames := 1, cells := 0, slots := 0, locals := 21 } : Room) 0 0 2 ∧ (Cond.static y_Z_inRegion).before args s = true := ⟨callB_of 2 hts (good_c a_670) rfl rfl rfl (hts _ a_8) (hts _ hlk) (by decide +kernel) hR, hts _ a_669⟩
theorem d_Z_inRegion_0 : decode b_Z_inRegion 0 = .ok (.iconst 0, 1) := by decide +kernel
theorem d_Z_inRegion_1 : decode b_Z_inRegion 1 = .ok (.istore_n 2, 1) := by decide +kernel
theorem d_Z_inRegion_2 : decode b_Z_inRegion 2 = .ok (.iconst 3, 1) := by decide +kernel
theorem d_Z_inRegion_3 : decode b_Z_inRegion 3 = .ok (.iload_n 1, 1) := by decide +kernel
theorem d_Z_inRegion_4 : decode b_Z_inRegion 4 = .ok (.imul, 1) := by decide +kernel
theorem d_Z_inRegion_5 : decode b_Z_inRegion 5 = .ok (.istore_n 3, 1) := by decide +kernel
theorem d_Z_inRegion_6 : decode b_Z_inRegion 6 = .ok (.iload_n 3, 1) := by decide +kernel
theorem d_Z_inRegion_7 : decode b_Z_inRegion 7 = .ok (.iconst 3, 1) := by decide +kernel
theorem d_Z_inRegion_8 : decode b_Z_inRegion 8 = .ok (.iload_n 1, 1) := by decide +kernel
theorem d_Z_inRegion_9 : decode b_Z_inRegion 9 = .ok (.imul, 1) := by decide +kernel
theorem d_Z_inRegion_10 : decode b_Z_inRegion 10 = .ok (.iconst 3, 1) := by decide +kernel
theorem d_Z_inRegion_11 : decode b_Z_inRegion 11 = .ok (.iadd, 1) := by decide +kernel
theorem d_Z_inRegion_12 : decode b_Z_inRegion 12 = .ok (.if_icmp .ge 26, 3) := by decide +kernel
theorem d_Z_inRegion_15 : decode b_Z_inRegion 15 = .ok (.iload_n 0, 1) := by decide +kernel
theorem d_Z_inRegion_16 : decode b_Z_inRegion 16 = .ok (.iload_n 3, 1) := by decide +kernel
theorem d_Z_inRegion_17 : decode b_Z_inRegion 17 = .ok (.invokestatic 99, 3) := by decide +kernel
theorem d_Z_inRegion_20 : decode b_Z_inRegion 20 = .ok (.iconst 1, 1) := by decide +kernel
theorem d_Z_inRegion_21 : decode b_Z_inRegion 21 = .ok (.if_icmp .le 9, 3) := by decide +kernel
theorem d_Z_inRegion_24 : decode b_Z_inRegion 24 = .ok (.iload_n 2, 1) := by decide +kernel
theorem d_Z_inRegion_25 : decode b_Z_inRegion 25 = .ok (.iconst 1, 1) := by decide +kernel
theorem d_Z_inRegion_26 : decode b_Z_inRegion 26 = .ok (.iadd, 1) := by decide +kernel
theorem d_Z_inRegion_27 : decode b_Z_inRegion 27 = .ok (.goto 4, 3) := by decide +kernel
theorem d_Z_inRegion_30 : decode b_Z_inRegion 30 = .ok (.iload_n 2, 1) := by decide +kernel
theorem d_Z_inRegion_31 : decode b_Z_inRegion 31 = .ok (.istore_n 2, 1) := by decide +kernel
theorem d_Z_inRegion_32 : decode b_Z_inRegion 32 = .ok (.iinc 3 1, 3) := by decide +kernel
theorem d_Z_inRegion_35 : decode b_Z_inRegion 35 = .ok (.goto (-29), 3) := by decide +kernel
theorem d_Z_inRegion_38 : decode b_Z_inRegion 38 = .ok (.iload_n 2, 1) := by decide +kernel
theorem d_Z_inRegion_39 : decode b_Z_inRegion 39 = .ok (.ireturn, 1) := by decide +kernel
def Fl_Z_inRegion_6  : Nat → Int32 → Int32 → Int32 → Int32 → Option (Int32)
  | 0, _, _, _, _ => none
  | n + 1, x0, x1, x2, x3 => (if ((3 * x1) + 3) ≤ x3 then some x2 else (bs_ (F_Z_inDistrict x0 x3) fun r2 => (if r2 ≤ 1 then (Fl_Z_inRegion_6 n) x0 x1 x2 (x3 + 1) else (Fl_Z_inRegion_6 n) x0 x1 (x2 + 1) (x3 + 1))))
def F_Z_inRegion  (a1 : Int32) (a2 : Int32) : Option (Int32) := Fl_Z_inRegion_6  200 a1 a2 0 (3 * a2)
set_option maxHeartbeats 4000000 in
set_option maxRecDepth 100000 in
theorem lp_Z_inRegion_6 {p : Program} {l : Launch} {e : Env} {s : State} {m : MethodId} {args : Array Value} {below : List Frame} {meth : Method} {c : Code} (hx : p.tables.exec = Jvm.exec) (hb : c.code = b_Z_inRegion) (hr : meth.sig.returnType = (some .int)) (hts : ∀ w ∈ ALL, w.before args s = true) (hown : s.vm.findClass R_Z = some m.cls) (hlocks : meth.locks = false) (hml : c.maxLocals = 4)  : ∀ (n : Nat), ∀ (x0 : Int32) (x1 : Int32) (x2 : Int32) (x3 : Int32)  (r0 : Int32), Fl_Z_inRegion_6  n x0 x1 x2 x3 = some r0 → ∀ (H : Heap) (locs : List Loc) (ls : Array Slot), va_S (fun _ => True) s.heap H locs → H = s.heap → (∀ q ∈ locs, (fun _ => False) q.base) → lv_has ls 4 [(0, .int x0), (1, .int x1), (2, .int x2), (3, .int x3)] → W p l e ({ frames := 1, cells := 0, slots := 0, locals := 21 } : Room) s m args below meth c H locs 0 0 (MQ below (vp_Si (fun r => r = r0)) args s 0 0 (fun _ => False)) (F0 m 6 ls []) := by
  intro n
  induction n with
  | zero => intro x0 x1 x2 x3 r0 hF; rw [Fl_Z_inRegion_6] at hF; cases hF
  | succ n ih =>
    intro x0 x1 x2 x3 r0 hF H locs ls hS hH hN hl
    rw [Fl_Z_inRegion_6] at hF
    refine lv_iload_n hx hb d_Z_inRegion_6 rfl (lv_at hl 3 rfl) ?_
    refine lv_iconst (v := 3) hx hb d_Z_inRegion_7 (by decide) ?_
    refine lv_iload_n hx hb d_Z_inRegion_8 rfl (lv_at hl 1 rfl) ?_
    refine lv_imul hx hb d_Z_inRegion_9 ?_
    refine lv_iconst (v := 3) hx hb d_Z_inRegion_10 (by decide) ?_
    refine lv_iadd hx hb d_Z_inRegion_11 ?_
    refine lv_icmp_ge (tgt := 38) hx hb d_Z_inRegion_12 (by decide) (fun h1 => ?_) (fun h1 => ?_)
    · have hF := it_t hF h1
      refine lv_iload_n hx hb d_Z_inRegion_38 rfl (lv_at hl 2 rfl) ?_
      have hF := rt1 hF
      subst hF
      exact W.iret (v := x2) hx hb hr (fun t ht hW => ⟨_, rfl, rfl, ht.trans hH⟩) hN d_Z_inRegion_39
    · have hF := it_f hF h1
      refine lv_iload_n hx hb d_Z_inRegion_15 rfl (lv_at hl 0 rfl) ?_
      refine lv_iload_n hx hb d_Z_inRegion_16 rfl (lv_at hl 3 rfl) ?_
      obtain ⟨r2, h3, hF⟩ := bs_u hF
      refine k_sp [.int x0, .int x3] [] ⟨hx, hb, hml, hown, hts⟩ (c_Z_inDistrict l  h3) (w_Z_inDistrict hts a_671 ⟨Nat.le_of_ble_eq_true rfl, Nat.le_of_ble_eq_true rfl⟩) rfl rfl hl.1 (Nat.le_of_ble_eq_true rfl) ⟨Nat.zero_le _, Nat.zero_le _⟩ d_Z_inRegion_17 ?_
      refine lv_iconst (v := 1) hx hb d_Z_inRegion_20 (by decide) ?_
      refine lv_icmp_le (tgt := 30) hx hb d_Z_inRegion_21 (by decide) (fun h4 => ?_) (fun h4 => ?_)
      · have hF := it_t hF h4
        refine lv_iload_n hx hb d_Z_inRegion_30 rfl (lv_at hl 2 rfl) ?_
        refine lv_istore_n (lv' := [(2, .int x2), (0, .int x0), (1, .int x1), (3, .int x3)]) hx hb d_Z_inRegion_31 rfl hl (by decide) rfl (fun ls hl => ?_)
        refine lv_iinc (k := 3) (v := (x3 + 1)) (lv' := [(3, .int (x3 + 1)), (2, .int x2), (0, .int x0), (1, .int x1)]) hx hb d_Z_inRegion_32 hl rfl rfl (by decide) rfl (fun ls hl => ?_)
        refine lv_goto (tgt := 6) hx hb d_Z_inRegion_35 (by decide) ?_
        exact ih x0 x1 x2 (x3 + 1)  r0 hF _ _ _ hS hH hN (lv_sub hl [2, 3, 1, 0] rfl)
      · have hF := it_f hF h4
        refine lv_iload_n hx hb d_Z_inRegion_24 rfl (lv_at hl 2 rfl) ?_
        refine lv_iconst (v := 1) hx hb d_Z_inRegion_25 (by decide) ?_
        refine lv_iadd hx hb d_Z_inRegion_26 ?_
        refine lv_goto (tgt := 31) hx hb d_Z_inRegion_27 (by decide) ?_
        refine lv_istore_n (lv' := [(2, .int (x2 + 1)), (0, .int x0), (1, .int x1), (3, .int x3)]) hx hb d_Z_inRegion_31 rfl hl (by decide) rfl (fun ls hl => ?_)
        refine lv_iinc (k := 3) (v := (x3 + 1)) (lv' := [(3, .int (x3 + 1)), (2, .int (x2 + 1)), (0, .int x0), (1, .int x1)]) hx hb d_Z_inRegion_32 hl rfl rfl (by decide) rfl (fun ls hl => ?_)
        refine lv_goto (tgt := 6) hx hb d_Z_inRegion_35 (by decide) ?_
        exact ih x0 x1 (x2 + 1) (x3 + 1)  r0 hF _ _ _ hS hH hN (lv_sub hl [2, 3, 1, 0] rfl)
set_option maxHeartbeats 4000000 in
set_option maxRecDepth 100000 in
theorem c_Z_inRegion (l : Launch) {a1 : Int32} {a2 : Int32} {r0 : Int32}  (hF : F_Z_inRegion  a1 a2 = some r0) : Met l y_Z_inRegion ws_Z_inRegion ({ frames := 1, cells := 0, slots := 0, locals := 21 } : Room) (va_Pc [.int a1, .int a2] (fun _ => True)) (vp_Si (fun r => r = r0)) 0 0 (fun _ => False) := by
  refine Met.ofW (cc := b_Z_inRegion) (maxL := 4) (ret := (some .int)) (by decide +kernel) rfl ?_
  intro p e s m args below meth c s₁ B hml hv
  obtain ⟨rfl, -⟩ := hv
  have hx := B.exec
  have hb := B.bytes
  have hr := B.returns
  have hts : ∀ w ∈ ALL, w.before _ s = true := fun w h => atoms_spec (ws := ws_Z_inRegion) B.pre w (List.mem_cons_of_mem _ h)
  have hown : s.vm.findClass R_Z = some m.cls := findClass_of_methodNamed B.named
  have hlocks := B.notSynchronized
  have hS : va_S (fun _ => True) s.heap s.heap [] := va_S.rf
  have hN : ∀ q ∈ ([] : List Loc), (fun _ => False) q.base := fun _ h => absurd h List.not_mem_nil
  have hl := lv_entry ([.int a1, .int a2]) (n := 4) (Nat.le_of_ble_eq_true rfl)
  rw [lg_entry_eq]
  generalize (lg_sl ([.int a1, .int a2]) ++ List.replicate (4 - (lg_sl ([.int a1, .int a2])).length) Slot.unset).toArray = ls at hl ⊢
  have hl : lv_has ls 4 [(0, .int a1), (1, .int a2)] := hl
  have hH : s.heap = s.heap := rfl
  unfold F_Z_inRegion at hF
  refine lv_iconst (v := 0) hx hb d_Z_inRegion_0 (by decide) ?_
  refine lv_istore_n (lv' := [(2, .int 0), (0, .int a1), (1, .int a2)]) hx hb d_Z_inRegion_1 rfl hl (by decide) rfl (fun ls hl => ?_)
  refine lv_iconst (v := 3) hx hb d_Z_inRegion_2 (by decide) ?_
  refine lv_iload_n hx hb d_Z_inRegion_3 rfl (lv_at hl 2 rfl) ?_
  refine lv_imul hx hb d_Z_inRegion_4 ?_
  refine lv_istore_n (lv' := [(3, .int (3 * a2)), (2, .int 0), (0, .int a1), (1, .int a2)]) hx hb d_Z_inRegion_5 rfl hl (by decide) rfl (fun ls hl => ?_)
  exact lp_Z_inRegion_6 hx hb hr hts hown hlocks hml  200 a1 a2 0 (3 * a2)  r0 hF _ _ _ hS hH hN (lv_sub hl [2, 3, 1, 0] rfl)
def ws_Z_isQuorum : List Cond := Cond.code y_Z_isQuorum b_Z_isQuorum 3 (some .boolean) :: ALL
theorem w_Z_isQuorum {R : Room} {s : State} {args : Array Value} {own : String} {index : Nat} (hts : ∀ w ∈ ALL, w.before args s = true) (hlk : Cond.methodLink own index y_Z_isQuorum ∈ ALL) (hR : (({ frames := 2, cells := 0, slots := 0, locals := 44 } : Room)).frames + 1 ≤ R.frames ∧ 8 + (3 + 11) + (({ frames := 2, cells := 0, slots := 0, locals := 44 } : Room)).locals ≤ R.locals) : CallB R s args own index y_Z_isQuorum b_Z_isQuorum 3 (some .boolean) ws_Z_isQuorum ({ frames := 2, cells := 0, slots := 0, locals := 44 } : Room) 0 0 1 ∧ (Cond.static y_Z_isQuorum).before args s = true := ⟨callB_of 1 hts (good_c a_667) rfl rfl rfl (hts _ a_8) (hts _ hlk) (by decide +kernel) hR, hts _ a_666⟩
theorem d_Z_isQuorum_0 : decode b_Z_isQuorum 0 = .ok (.iconst 0, 1) := by decide +kernel
theorem d_Z_isQuorum_1 : decode b_Z_isQuorum 1 = .ok (.istore_n 1, 1) := by decide +kernel
theorem d_Z_isQuorum_2 : decode b_Z_isQuorum 2 = .ok (.iconst 0, 1) := by decide +kernel
theorem d_Z_isQuorum_3 : decode b_Z_isQuorum 3 = .ok (.istore_n 2, 1) := by decide +kernel
theorem d_Z_isQuorum_4 : decode b_Z_isQuorum 4 = .ok (.iload_n 2, 1) := by decide +kernel
theorem d_Z_isQuorum_5 : decode b_Z_isQuorum 5 = .ok (.iconst 3, 1) := by decide +kernel
theorem d_Z_isQuorum_6 : decode b_Z_isQuorum 6 = .ok (.if_icmp .ge 26, 3) := by decide +kernel
theorem d_Z_isQuorum_9 : decode b_Z_isQuorum 9 = .ok (.iload_n 0, 1) := by decide +kernel
theorem d_Z_isQuorum_10 : decode b_Z_isQuorum 10 = .ok (.iload_n 2, 1) := by decide +kernel
theorem d_Z_isQuorum_11 : decode b_Z_isQuorum 11 = .ok (.invokestatic 103, 3) := by decide +kernel
theorem d_Z_isQuorum_14 : decode b_Z_isQuorum 14 = .ok (.iconst 1, 1) := by decide +kernel
theorem d_Z_isQuorum_15 : decode b_Z_isQuorum 15 = .ok (.if_icmp .le 9, 3) := by decide +kernel
theorem d_Z_isQuorum_18 : decode b_Z_isQuorum 18 = .ok (.iload_n 1, 1) := by decide +kernel
theorem d_Z_isQuorum_19 : decode b_Z_isQuorum 19 = .ok (.iconst 1, 1) := by decide +kernel
theorem d_Z_isQuorum_20 : decode b_Z_isQuorum 20 = .ok (.iadd, 1) := by decide +kernel
theorem d_Z_isQuorum_21 : decode b_Z_isQuorum 21 = .ok (.goto 4, 3) := by decide +kernel
theorem d_Z_isQuorum_24 : decode b_Z_isQuorum 24 = .ok (.iload_n 1, 1) := by decide +kernel
theorem d_Z_isQuorum_25 : decode b_Z_isQuorum 25 = .ok (.istore_n 1, 1) := by decide +kernel
theorem d_Z_isQuorum_26 : decode b_Z_isQuorum 26 = .ok (.iinc 2 1, 3) := by decide +kernel
theorem d_Z_isQuorum_29 : decode b_Z_isQuorum 29 = .ok (.goto (-25), 3) := by decide +kernel
theorem d_Z_isQuorum_32 : decode b_Z_isQuorum 32 = .ok (.iload_n 1, 1) := by decide +kernel
theorem d_Z_isQuorum_33 : decode b_Z_isQuorum 33 = .ok (.iconst 1, 1) := by decide +kernel
theorem d_Z_isQuorum_34 : decode b_Z_isQuorum 34 = .ok (.if_icmp .le 7, 3) := by decide +kernel
theorem d_Z_isQuorum_37 : decode b_Z_isQuorum 37 = .ok (.iconst 1, 1) := by decide +kernel
theorem d_Z_isQuorum_38 : decode b_Z_isQuorum 38 = .ok (.goto 4, 3) := by decide +kernel
theorem d_Z_isQuorum_41 : decode b_Z_isQuorum 41 = .ok (.iconst 0, 1) := by decide +kernel
theorem d_Z_isQuorum_42 : decode b_Z_isQuorum 42 = .ok (.ireturn, 1) := by decide +kernel
def Fj_Z_isQuorum_32  (x1 : Int32) : Option (Int32) := (if x1 ≤ 1 then some 0 else some 1)
def Fl_Z_isQuorum_4  : Nat → Int32 → Int32 → Int32 → Option (Int32)
  | 0, _, _, _ => none
  | n + 1, x0, x1, x2 => (if 3 ≤ x2 then Fj_Z_isQuorum_32  x1 else (bs_ (F_Z_inRegion x0 x2) fun r3 => (if r3 ≤ 1 then (Fl_Z_isQuorum_4 n) x0 x1 (x2 + 1) else (Fl_Z_isQuorum_4 n) x0 (x1 + 1) (x2 + 1))))
def F_Z_isQuorum  (a1 : Int32) : Option (Int32) := Fl_Z_isQuorum_4  200 a1 0 0
set_option maxHeartbeats 4000000 in
set_option maxRecDepth 100000 in
theorem jn_Z_isQuorum_32 {p : Program} {l : Launch} {e : Env} {s : State} {m : MethodId} {args : Array Value} {below : List Frame} {meth : Method} {c : Code} (hx : p.tables.exec = Jvm.exec) (hb : c.code = b_Z_isQuorum) (hr : meth.sig.returnType = (some .boolean)) (hts : ∀ w ∈ ALL, w.before args s = true) (hown : s.vm.findClass R_Z = some m.cls) (hlocks : meth.locks = false) (hml : c.maxLocals = 3)  : ∀ (x1 : Int32)  (r0 : Int32), Fj_Z_isQuorum_32  x1 = some r0 → ∀ (H : Heap) (locs : List Loc) (ls : Array Slot), va_S (fun _ => True) s.heap H locs → H = s.heap → (∀ q ∈ locs, (fun _ => False) q.base) → lv_has ls 3 [(1, .int x1)] → W p l e ({ frames := 2, cells := 0, slots := 0, locals := 44 } : Room) s m args below meth c H locs 0 0 (MQ below (vp_Si (fun r => r = r0)) args s 0 0 (fun _ => False)) (F0 m 32 ls []) := by
  intro x1 r0 hF H locs ls hS hH hN hl
  unfold Fj_Z_isQuorum_32 at hF
  refine lv_iload_n hx hb d_Z_isQuorum_32 rfl (lv_at hl 0 rfl) ?_
  refine lv_iconst (v := 1) hx hb d_Z_isQuorum_33 (by decide) ?_
  refine lv_icmp_le (tgt := 41) hx hb d_Z_isQuorum_34 (by decide) (fun h2 => ?_) (fun h2 => ?_)
  · have hF := it_t hF h2
    refine lv_iconst (v := 0) hx hb d_Z_isQuorum_41 (by decide) ?_
    have hF := rt1 hF
    subst hF
    exact W.zret (v := 0) hx hb hr rfl (fun t ht hW => ⟨_, rfl, rfl, ht.trans hH⟩) hN d_Z_isQuorum_42
  · have hF := it_f hF h2
    refine lv_iconst (v := 1) hx hb d_Z_isQuorum_37 (by decide) ?_
    refine lv_goto (tgt := 42) hx hb d_Z_isQuorum_38 (by decide) ?_
    have hF := rt1 hF
    subst hF
    exact W.zret (v := 1) hx hb hr rfl (fun t ht hW => ⟨_, rfl, rfl, ht.trans hH⟩) hN d_Z_isQuorum_42
set_option maxHeartbeats 4000000 in
set_option maxRecDepth 100000 in
theorem lp_Z_isQuorum_4 {p : Program} {l : Launch} {e : Env} {s : State} {m : MethodId} {args : Array Value} {below : List Frame} {meth : Method} {c : Code} (hx : p.tables.exec = Jvm.exec) (hb : c.code = b_Z_isQuorum) (hr : meth.sig.returnType = (some .boolean)) (hts : ∀ w ∈ ALL, w.before args s = true) (hown : s.vm.findClass R_Z = some m.cls) (hlocks : meth.locks = false) (hml : c.maxLocals = 3)  : ∀ (n : Nat), ∀ (x0 : Int32) (x1 : Int32) (x2 : Int32)  (r0 : Int32), Fl_Z_isQuorum_4  n x0 x1 x2 = some r0 → ∀ (H : Heap) (locs : List Loc) (ls : Array Slot), va_S (fun _ => True) s.heap H locs → H = s.heap → (∀ q ∈ locs, (fun _ => False) q.base) → lv_has ls 3 [(0, .int x0), (1, .int x1), (2, .int x2)] → W p l e ({ frames := 2, cells := 0, slots := 0, locals := 44 } : Room) s m args below meth c H locs 0 0 (MQ below (vp_Si (fun r => r = r0)) args s 0 0 (fun _ => False)) (F0 m 4 ls []) := by
  intro n
  induction n with
  | zero => intro x0 x1 x2 r0 hF; rw [Fl_Z_isQuorum_4] at hF; cases hF
  | succ n ih =>
    intro x0 x1 x2 r0 hF H locs ls hS hH hN hl
    rw [Fl_Z_isQuorum_4] at hF
    refine lv_iload_n hx hb d_Z_isQuorum_4 rfl (lv_at hl 2 rfl) ?_
    refine lv_iconst (v := 3) hx hb d_Z_isQuorum_5 (by decide) ?_
    refine lv_icmp_ge (tgt := 32) hx hb d_Z_isQuorum_6 (by decide) (fun h1 => ?_) (fun h1 => ?_)
    · have hF := it_t hF h1
      exact jn_Z_isQuorum_32 hx hb hr hts hown hlocks hml  x1  r0 hF _ _ _ hS hH hN (lv_sub hl [1] rfl)
    · have hF := it_f hF h1
      refine lv_iload_n hx hb d_Z_isQuorum_9 rfl (lv_at hl 0 rfl) ?_
      refine lv_iload_n hx hb d_Z_isQuorum_10 rfl (lv_at hl 2 rfl) ?_
      obtain ⟨r3, h4, hF⟩ := bs_u hF
      refine k_sp [.int x0, .int x2] [] ⟨hx, hb, hml, hown, hts⟩ (c_Z_inRegion l  h4) (w_Z_inRegion hts a_668 ⟨Nat.le_of_ble_eq_true rfl, Nat.le_of_ble_eq_true rfl⟩) rfl rfl hl.1 (Nat.le_of_ble_eq_true rfl) ⟨Nat.zero_le _, Nat.zero_le _⟩ d_Z_isQuorum_11 ?_
      refine lv_iconst (v := 1) hx hb d_Z_isQuorum_14 (by decide) ?_
      refine lv_icmp_le (tgt := 24) hx hb d_Z_isQuorum_15 (by decide) (fun h5 => ?_) (fun h5 => ?_)
      · have hF := it_t hF h5
        refine lv_iload_n hx hb d_Z_isQuorum_24 rfl (lv_at hl 1 rfl) ?_
        refine lv_istore_n (lv' := [(1, .int x1), (0, .int x0), (2, .int x2)]) hx hb d_Z_isQuorum_25 rfl hl (by decide) rfl (fun ls hl => ?_)
        refine lv_iinc (k := 2) (v := (x2 + 1)) (lv' := [(2, .int (x2 + 1)), (1, .int x1), (0, .int x0)]) hx hb d_Z_isQuorum_26 hl rfl rfl (by decide) rfl (fun ls hl => ?_)
        refine lv_goto (tgt := 4) hx hb d_Z_isQuorum_29 (by decide) ?_
        exact ih x0 x1 (x2 + 1)  r0 hF _ _ _ hS hH hN (lv_sub hl [2, 1, 0] rfl)
      · have hF := it_f hF h5
        refine lv_iload_n hx hb d_Z_isQuorum_18 rfl (lv_at hl 1 rfl) ?_
        refine lv_iconst (v := 1) hx hb d_Z_isQuorum_19 (by decide) ?_
        refine lv_iadd hx hb d_Z_isQuorum_20 ?_
        refine lv_goto (tgt := 25) hx hb d_Z_isQuorum_21 (by decide) ?_
        refine lv_istore_n (lv' := [(1, .int (x1 + 1)), (0, .int x0), (2, .int x2)]) hx hb d_Z_isQuorum_25 rfl hl (by decide) rfl (fun ls hl => ?_)
        refine lv_iinc (k := 2) (v := (x2 + 1)) (lv' := [(2, .int (x2 + 1)), (1, .int (x1 + 1)), (0, .int x0)]) hx hb d_Z_isQuorum_26 hl rfl rfl (by decide) rfl (fun ls hl => ?_)
        refine lv_goto (tgt := 4) hx hb d_Z_isQuorum_29 (by decide) ?_
        exact ih x0 (x1 + 1) (x2 + 1)  r0 hF _ _ _ hS hH hN (lv_sub hl [2, 1, 0] rfl)
set_option maxHeartbeats 4000000 in
set_option maxRecDepth 100000 in
theorem c_Z_isQuorum (l : Launch) {a1 : Int32} {r0 : Int32}  (hF : F_Z_isQuorum  a1 = some r0) : Met l y_Z_isQuorum ws_Z_isQuorum ({ frames := 2, cells := 0, slots := 0, locals := 44 } : Room) (va_Pc [.int a1] (fun _ => True)) (vp_Si (fun r => r = r0)) 0 0 (fun _ => False) := by
  refine Met.ofW (cc := b_Z_isQuorum) (maxL := 3) (ret := (some .boolean)) (by decide +kernel) rfl ?_
  intro p e s m args below meth c s₁ B hml hv
  obtain ⟨rfl, -⟩ := hv
  have hx := B.exec
  have hb := B.bytes
  have hr := B.returns
  have hts : ∀ w ∈ ALL, w.before _ s = true := fun w h => atoms_spec (ws := ws_Z_isQuorum) B.pre w (List.mem_cons_of_mem _ h)
  have hown : s.vm.findClass R_Z = some m.cls := findClass_of_methodNamed B.named
  have hlocks := B.notSynchronized
  have hS : va_S (fun _ => True) s.heap s.heap [] := va_S.rf
  have hN : ∀ q ∈ ([] : List Loc), (fun _ => False) q.base := fun _ h => absurd h List.not_mem_nil
  have hl := lv_entry ([.int a1]) (n := 3) (Nat.le_of_ble_eq_true rfl)
  rw [lg_entry_eq]
  generalize (lg_sl ([.int a1]) ++ List.replicate (3 - (lg_sl ([.int a1])).length) Slot.unset).toArray = ls at hl ⊢
  have hl : lv_has ls 3 [(0, .int a1)] := hl
  have hH : s.heap = s.heap := rfl
  unfold F_Z_isQuorum at hF
  refine lv_iconst (v := 0) hx hb d_Z_isQuorum_0 (by decide) ?_
  refine lv_istore_n (lv' := [(1, .int 0), (0, .int a1)]) hx hb d_Z_isQuorum_1 rfl hl (by decide) rfl (fun ls hl => ?_)
  refine lv_iconst (v := 0) hx hb d_Z_isQuorum_2 (by decide) ?_
  refine lv_istore_n (lv' := [(2, .int 0), (1, .int 0), (0, .int a1)]) hx hb d_Z_isQuorum_3 rfl hl (by decide) rfl (fun ls hl => ?_)
  exact lp_Z_isQuorum_4 hx hb hr hts hown hlocks hml  200 a1 0 0  r0 hF _ _ _ hS hH hN (lv_sub hl [2, 1, 0] rfl)
def ws_Z_quorum : List Cond := Cond.code y_Z_quorum b_Z_quorum 2 (some .boolean) :: ALL
theorem w_Z_quorum {R : Room} {s : State} {args : Array Value} {own : String} {index : Nat} (hts : ∀ w ∈ ALL, w.before args s = true) (hlk : Cond.methodLink own index y_Z_quorum ∈ ALL) (hR : (({ frames := 3, cells := 0, slots := 0, locals := 66 } : Room)).frames + 1 ≤ R.frames ∧ 8 + (2 + 11) + (({ frames := 3, cells := 0, slots := 0, locals := 66 } : Room)).locals ≤ R.locals) : CallW R s args own R_Z index y_Z_quorum b_Z_quorum 2 (some .boolean) ws_Z_quorum ({ frames := 3, cells := 0, slots := 0, locals := 66 } : Room) 0 0 1 := ⟨callB_of 1 hts (good_c a_663) rfl rfl rfl (hts _ a_8) (hts _ hlk) (by decide +kernel) hR, hts _ a_661, hts _ a_662⟩
theorem d_Z_quorum_0 : decode b_Z_quorum 0 = .ok (.aload_n 0, 1) := by decide +kernel
theorem d_Z_quorum_1 : decode b_Z_quorum 1 = .ok (.iconst 0, 1) := by decide +kernel
theorem d_Z_quorum_2 : decode b_Z_quorum 2 = .ok (.putfield 95, 3) := by decide +kernel
theorem d_Z_quorum_5 : decode b_Z_quorum 5 = .ok (.iload_n 1, 1) := by decide +kernel
theorem d_Z_quorum_6 : decode b_Z_quorum 6 = .ok (.ldc 114, 2) := by decide +kernel
theorem d_Z_quorum_8 : decode b_Z_quorum 8 = .ok (.iand, 1) := by decide +kernel
theorem d_Z_quorum_9 : decode b_Z_quorum 9 = .ok (.invokestatic 118, 3) := by decide +kernel
theorem d_Z_quorum_12 : decode b_Z_quorum 12 = .ok (.ireturn, 1) := by decide +kernel
def F_Z_quorum (z : ZW) (a1 : Int32) : Option (Int32 × ZW) := (nm_ (pz z 0 0 0) fun z1 => (bs_ (F_Z_isQuorum (a1 &&& 134217727)) fun r3 => (if r3 = 0 ∨ r3 = 1 then some (r3, z1) else none)))
set_option maxHeartbeats 4000000 in
set_option maxRecDepth 100000 in
theorem c_Z_quorum (l : Launch) (D : va_G) (ad : Nat → Nat → Nat) (ca : Nat → ClassId) (hD0 : ∀ z u, va_D (AH ad) (wh ad ca z u)) {z : ZW} {u : XC} {a1 : Int32} {r0 : Int32} {z0 : ZW}  (hF : F_Z_quorum z a1 = some (r0, z0)) : Met l y_Z_quorum ws_Z_quorum ({ frames := 3, cells := 0, slots := 0, locals := 66 } : Room) (va_Pc [.ref (ad 14 0), .int a1] (fun U => va_P D CLS (wh ad ca z u) U.heap ∧ va_K D CLS (TYH ca) U)) (va_Qi (fun (r : Int32) (_ : Unit) => r = r0) (fun _ t => va_P D CLS (wh ad ca z0 u) t.heap) (AH ad)) 0 0 (AH ad) := by
  refine Met.ofW (cc := b_Z_quorum) (maxL := 2) (ret := (some .boolean)) (by decide +kernel) rfl ?_
  intro p e s m args below meth c s₁ B hml hv
  obtain ⟨rfl, hP, hK⟩ := hv
  have hx := B.exec
  have hb := B.bytes
  have hr := B.returns
  have hts : ∀ w ∈ ALL, w.before _ s = true := fun w h => atoms_spec (ws := ws_Z_quorum) B.pre w (List.mem_cons_of_mem _ h)
  have hown : s.vm.findClass R_Z = some m.cls := findClass_of_methodNamed B.named
  have hlocks := B.notSynchronized
  have hD := hD0
  have hS : va_S (AH ad) s.heap s.heap [] := va_S.rf
  have hP : va_P D CLS (wh ad ca z u) s.heap := hP
  have hl := lv_entry ([.ref (ad 14 0), .int a1]) (n := 2) (Nat.le_of_ble_eq_true rfl)
  rw [lg_entry_eq]
  generalize (lg_sl ([.ref (ad 14 0), .int a1]) ++ List.replicate (2 - (lg_sl ([.ref (ad 14 0), .int a1])).length) Slot.unset).toArray = ls at hl ⊢
  have hl : lv_has ls 2 [(0, .ref (ad 14 0)), (1, .int a1)] := hl
  unfold F_Z_quorum at hF
  refine lv_aload_n hx hb d_Z_quorum_0 rfl (lv_at hl 0 rfl) ?_
  refine lv_iconst (v := 0) hx hb d_Z_quorum_1 (by decide) ?_
  obtain ⟨z1, h2, hF⟩ := nm_u hF
  refine pf_Z_0 hx hb hts hown hK hP hD hS (by decide) h2 a_558 d_Z_quorum_2 (fun H locs hP hS => ?_)
  refine lv_iload_n hx hb d_Z_quorum_5 rfl (lv_at hl 1 rfl) ?_
  refine lv_ldc (v := 134217727) hx hb hown (hts _ a_664) d_Z_quorum_6 ?_
  refine lv_iand hx hb d_Z_quorum_8 ?_
  obtain ⟨r3, h4, hF⟩ := bs_u hF
  refine k_sp [.int (a1 &&& 134217727)] [] ⟨hx, hb, hml, hown, hts⟩ (c_Z_isQuorum l  h4) (w_Z_isQuorum hts a_665 ⟨Nat.le_of_ble_eq_true rfl, Nat.le_of_ble_eq_true rfl⟩) rfl rfl hl.1 (Nat.le_of_ble_eq_true rfl) ⟨Nat.zero_le _, Nat.zero_le _⟩ d_Z_quorum_9 ?_
  obtain ⟨h5, hF⟩ := as_u hF
  obtain ⟨rfl, rfl⟩ := rt2 hF
  exact W.zret (v := r3) hx hb hr (nb_of h5) (fun t ht hW => ⟨⟨_, (), rfl, rfl, vp_at ht hP⟩, hS.F ht⟩) hS.2.2 d_Z_quorum_12
def ws_Z_twoOffices : List Cond := Cond.code y_Z_twoOffices b_Z_twoOffices 7 (some .int) :: ALL
theorem w_Z_twoOffices {R : Room} {s : State} {args : Array Value} {own : String} {index : Nat} (hts : ∀ w ∈ ALL, w.before args s = true) (hlk : Cond.methodLink own index y_Z_twoOffices ∈ ALL) (hR : (({ frames := 0, cells := 0, slots := 0, locals := 0 } : Room)).frames + 1 ≤ R.frames ∧ 8 + (7 + 11) + (({ frames := 0, cells := 0, slots := 0, locals := 0 } : Room)).locals ≤ R.locals) : CallB R s args own index y_Z_twoOffices b_Z_twoOffices 7 (some .int) ws_Z_twoOffices ({ frames := 0, cells := 0, slots := 0, locals := 0 } : Room) 0 0 3 ∧ (Cond.static y_Z_twoOffices).before args s = true := ⟨callB_of 3 hts (good_c a_686) rfl rfl rfl (hts _ a_8) (hts _ hlk) (by decide +kernel) hR, hts _ a_685⟩
theorem d_Z_twoOffices_0 : decode b_Z_twoOffices 0 = .ok (.iconst 0, 1) := by decide +kernel
theorem d_Z_twoOffices_1 : decode b_Z_twoOffices 1 = .ok (.istore_n 3, 1) := by decide +kernel
theorem d_Z_twoOffices_2 : decode b_Z_twoOffices 2 = .ok (.iconst 0, 1) := by decide +kernel
theorem d_Z_twoOffices_3 : decode b_Z_twoOffices 3 = .ok (.istore 4, 2) := by decide +kernel
theorem d_Z_twoOffices_5 : decode b_Z_twoOffices 5 = .ok (.iconst 0, 1) := by decide +kernel
theorem d_Z_twoOffices_6 : decode b_Z_twoOffices 6 = .ok (.istore 5, 2) := by decide +kernel
theorem d_Z_twoOffices_8 : decode b_Z_twoOffices 8 = .ok (.iload 5, 2) := by decide +kernel
theorem d_Z_twoOffices_10 : decode b_Z_twoOffices 10 = .ok (.iconst 3, 1) := by decide +kernel
theorem d_Z_twoOffices_11 : decode b_Z_twoOffices 11 = .ok (.if_icmp .ge 50, 3) := by decide +kernel
theorem d_Z_twoOffices_14 : decode b_Z_twoOffices 14 = .ok (.iconst 3, 1) := by decide +kernel
theorem d_Z_twoOffices_15 : decode b_Z_twoOffices 15 = .ok (.iload_n 1, 1) := by decide +kernel
theorem d_Z_twoOffices_16 : decode b_Z_twoOffices 16 = .ok (.imul, 1) := by decide +kernel
theorem d_Z_twoOffices_17 : decode b_Z_twoOffices 17 = .ok (.iload_n 2, 1) := by decide +kernel
theorem d_Z_twoOffices_18 : decode b_Z_twoOffices 18 = .ok (.iload 5, 2) := by decide +kernel
theorem d_Z_twoOffices_20 : decode b_Z_twoOffices 20 = .ok (.iadd, 1) := by decide +kernel
theorem d_Z_twoOffices_21 : decode b_Z_twoOffices 21 = .ok (.iconst 3, 1) := by decide +kernel
theorem d_Z_twoOffices_22 : decode b_Z_twoOffices 22 = .ok (.irem, 1) := by decide +kernel
theorem d_Z_twoOffices_23 : decode b_Z_twoOffices 23 = .ok (.iadd, 1) := by decide +kernel
theorem d_Z_twoOffices_24 : decode b_Z_twoOffices 24 = .ok (.istore 6, 2) := by decide +kernel
theorem d_Z_twoOffices_26 : decode b_Z_twoOffices 26 = .ok (.iload_n 0, 1) := by decide +kernel
theorem d_Z_twoOffices_27 : decode b_Z_twoOffices 27 = .ok (.iload 6, 2) := by decide +kernel
theorem d_Z_twoOffices_29 : decode b_Z_twoOffices 29 = .ok (.ishr, 1) := by decide +kernel
theorem d_Z_twoOffices_30 : decode b_Z_twoOffices 30 = .ok (.iconst 1, 1) := by decide +kernel
theorem d_Z_twoOffices_31 : decode b_Z_twoOffices 31 = .ok (.iand, 1) := by decide +kernel
theorem d_Z_twoOffices_32 : decode b_Z_twoOffices 32 = .ok (.iconst 1, 1) := by decide +kernel
theorem d_Z_twoOffices_33 : decode b_Z_twoOffices 33 = .ok (.if_icmp .ne 22, 3) := by decide +kernel
theorem d_Z_twoOffices_36 : decode b_Z_twoOffices 36 = .ok (.iload 4, 2) := by decide +kernel
theorem d_Z_twoOffices_38 : decode b_Z_twoOffices 38 = .ok (.iconst 2, 1) := by decide +kernel
theorem d_Z_twoOffices_39 : decode b_Z_twoOffices 39 = .ok (.if_icmp .ge 16, 3) := by decide +kernel
theorem d_Z_twoOffices_42 : decode b_Z_twoOffices 42 = .ok (.iload_n 3, 1) := by decide +kernel
theorem d_Z_twoOffices_43 : decode b_Z_twoOffices 43 = .ok (.iconst 1, 1) := by decide +kernel
theorem d_Z_twoOffices_44 : decode b_Z_twoOffices 44 = .ok (.iload 6, 2) := by decide +kernel
theorem d_Z_twoOffices_46 : decode b_Z_twoOffices 46 = .ok (.ishl, 1) := by decide +kernel
theorem d_Z_twoOffices_47 : decode b_Z_twoOffices 47 = .ok (.ior, 1) := by decide +kernel
theorem d_Z_twoOffices_48 : decode b_Z_twoOffices 48 = .ok (.istore_n 3, 1) := by decide +kernel
theorem d_Z_twoOffices_49 : decode b_Z_twoOffices 49 = .ok (.iload 4, 2) := by decide +kernel
theorem d_Z_twoOffices_51 : decode b_Z_twoOffices 51 = .ok (.iconst 1, 1) := by decide +kernel
theorem d_Z_twoOffices_52 : decode b_Z_twoOffices 52 = .ok (.iadd, 1) := by decide +kernel
theorem d_Z_twoOffices_53 : decode b_Z_twoOffices 53 = .ok (.istore 4, 2) := by decide +kernel
theorem d_Z_twoOffices_55 : decode b_Z_twoOffices 55 = .ok (.iinc 5 1, 3) := by decide +kernel
theorem d_Z_twoOffices_58 : decode b_Z_twoOffices 58 = .ok (.goto (-50), 3) := by decide +kernel
theorem d_Z_twoOffices_61 : decode b_Z_twoOffices 61 = .ok (.iload_n 3, 1) := by decide +kernel
theorem d_Z_twoOffices_62 : decode b_Z_twoOffices 62 = .ok (.ireturn, 1) := by decide +kernel
def Fl_Z_twoOffices_8  : Nat → Int32 → Int32 → Int32 → Int32 → Int32 → Int32 → Option (Int32)
  | 0, _, _, _, _, _, _ => none
  | n + 1, x0, x1, x2, x3, x4, x5 => (if 3 ≤ x5 then some x3 else (nm_ ((3 * x1) + ((x2 + x5) - (x2 + x5) / 3 * 3)) fun vv2 => (if ((x0 >>> (vv2 &&& 31)) &&& 1) = 1 then (if 2 ≤ x4 then (Fl_Z_twoOffices_8 n) x0 x1 x2 x3 x4 (x5 + 1) else (Fl_Z_twoOffices_8 n) x0 x1 x2 (x3 ||| (1 <<< (vv2 &&& 31))) (x4 + 1) (x5 + 1)) else (Fl_Z_twoOffices_8 n) x0 x1 x2 x3 x4 (x5 + 1))))
def F_Z_twoOffices  (a1 : Int32) (a2 : Int32) (a3 : Int32) : Option (Int32) := Fl_Z_twoOffices_8  200 a1 a2 a3 0 0 0
set_option maxHeartbeats 4000000 in
set_option maxRecDepth 100000 in
theorem lp_Z_twoOffices_8 {p : Program} {l : Launch} {e : Env} {s : State} {m : MethodId} {args : Array Value} {below : List Frame} {meth : Method} {c : Code} (hx : p.tables.exec = Jvm.exec) (hb : c.code = b_Z_twoOffices) (hr : meth.sig.returnType = (some .int)) (hts : ∀ w ∈ ALL, w.before args s = true) (hown : s.vm.findClass R_Z = some m.cls) (hlocks : meth.locks = false) (hml : c.maxLocals = 7)  : ∀ (n : Nat), ∀ (x0 : Int32) (x1 : Int32) (x2 : Int32) (x3 : Int32) (x4 : Int32) (x5 : Int32)  (r0 : Int32), Fl_Z_twoOffices_8  n x0 x1 x2 x3 x4 x5 = some r0 → ∀ (H : Heap) (locs : List Loc) (ls : Array Slot), va_S (fun _ => True) s.heap H locs → H = s.heap → (∀ q ∈ locs, (fun _ => False) q.base) → lv_has ls 7 [(0, .int x0), (1, .int x1), (2, .int x2), (3, .int x3), (4, .int x4), (5, .int x5)] → W p l e ({ frames := 0, cells := 0, slots := 0, locals := 0 } : Room) s m args below meth c H locs 0 0 (MQ below (vp_Si (fun r => r = r0)) args s 0 0 (fun _ => False)) (F0 m 8 ls []) := by
  intro n
  induction n with
  | zero => intro x0 x1 x2 x3 x4 x5 r0 hF; rw [Fl_Z_twoOffices_8] at hF; cases hF
  | succ n ih =>
    intro x0 x1 x2 x3 x4 x5 r0 hF H locs ls hS hH hN hl
    rw [Fl_Z_twoOffices_8] at hF
    refine lv_iload hx hb d_Z_twoOffices_8 (lv_at hl 5 rfl) ?_
    refine lv_iconst (v := 3) hx hb d_Z_twoOffices_10 (by decide) ?_
    refine lv_icmp_ge (tgt := 61) hx hb d_Z_twoOffices_11 (by decide) (fun h1 => ?_) (fun h1 => ?_)
    · have hF := it_t hF h1
      refine lv_iload_n hx hb d_Z_twoOffices_61 rfl (lv_at hl 3 rfl) ?_
      have hF := rt1 hF
      subst hF
      exact W.iret (v := x3) hx hb hr (fun t ht hW => ⟨_, rfl, rfl, ht.trans hH⟩) hN d_Z_twoOffices_62
    · have hF := it_f hF h1
      refine lv_iconst (v := 3) hx hb d_Z_twoOffices_14 (by decide) ?_
      refine lv_iload_n hx hb d_Z_twoOffices_15 rfl (lv_at hl 1 rfl) ?_
      refine lv_imul hx hb d_Z_twoOffices_16 ?_
      refine lv_iload_n hx hb d_Z_twoOffices_17 rfl (lv_at hl 2 rfl) ?_
      refine lv_iload hx hb d_Z_twoOffices_18 (lv_at hl 5 rfl) ?_
      refine lv_iadd hx hb d_Z_twoOffices_20 ?_
      refine lv_iconst (v := 3) hx hb d_Z_twoOffices_21 (by decide) ?_
      refine lv_irem hx hb d_Z_twoOffices_22 (by decide) ?_
      refine lv_iadd hx hb d_Z_twoOffices_23 ?_
      refine lv_topi (fun vv2 h3 => ?_)
      have hF := nm_q hF h3
      refine lv_istore (lv' := [(6, .int vv2), (0, .int x0), (1, .int x1), (2, .int x2), (3, .int x3), (4, .int x4), (5, .int x5)]) hx hb d_Z_twoOffices_24 hl (by decide) rfl (fun ls hl => ?_)
      refine lv_iload_n hx hb d_Z_twoOffices_26 rfl (lv_at hl 1 rfl) ?_
      refine lv_iload hx hb d_Z_twoOffices_27 (lv_at hl 0 rfl) ?_
      refine lv_ishr hx hb d_Z_twoOffices_29 ?_
      refine lv_iconst (v := 1) hx hb d_Z_twoOffices_30 (by decide) ?_
      refine lv_iand hx hb d_Z_twoOffices_31 ?_
      refine lv_iconst (v := 1) hx hb d_Z_twoOffices_32 (by decide) ?_
      refine lv_icmp_ne (tgt := 55) hx hb d_Z_twoOffices_33 (by decide) (fun h4 => ?_) (fun h4 => ?_)
      · have hF := it_f hF h4
        refine lv_iinc (k := 6) (v := (x5 + 1)) (lv' := [(5, .int (x5 + 1)), (6, .int vv2), (0, .int x0), (1, .int x1), (2, .int x2), (3, .int x3), (4, .int x4)]) hx hb d_Z_twoOffices_55 hl rfl rfl (by decide) rfl (fun ls hl => ?_)
        refine lv_goto (tgt := 8) hx hb d_Z_twoOffices_58 (by decide) ?_
        exact ih x0 x1 x2 x3 x4 (x5 + 1)  r0 hF _ _ _ hS hH hN (lv_sub hl [2, 3, 4, 5, 6, 0] rfl)
      · have hF := it_t hF h4
        refine lv_iload hx hb d_Z_twoOffices_36 (lv_at hl 5 rfl) ?_
        refine lv_iconst (v := 2) hx hb d_Z_twoOffices_38 (by decide) ?_
        refine lv_icmp_ge (tgt := 55) hx hb d_Z_twoOffices_39 (by decide) (fun h5 => ?_) (fun h5 => ?_)
        · have hF := it_t hF h5
          refine lv_iinc (k := 6) (v := (x5 + 1)) (lv' := [(5, .int (x5 + 1)), (6, .int vv2), (0, .int x0), (1, .int x1), (2, .int x2), (3, .int x3), (4, .int x4)]) hx hb d_Z_twoOffices_55 hl rfl rfl (by decide) rfl (fun ls hl => ?_)
          refine lv_goto (tgt := 8) hx hb d_Z_twoOffices_58 (by decide) ?_
          exact ih x0 x1 x2 x3 x4 (x5 + 1)  r0 hF _ _ _ hS hH hN (lv_sub hl [2, 3, 4, 5, 6, 0] rfl)
        · have hF := it_f hF h5
          refine lv_iload_n hx hb d_Z_twoOffices_42 rfl (lv_at hl 4 rfl) ?_
          refine lv_iconst (v := 1) hx hb d_Z_twoOffices_43 (by decide) ?_
          refine lv_iload hx hb d_Z_twoOffices_44 (lv_at hl 0 rfl) ?_
          refine lv_ishl hx hb d_Z_twoOffices_46 ?_
          refine lv_ior hx hb d_Z_twoOffices_47 ?_
          refine lv_istore_n (lv' := [(3, .int (x3 ||| (1 <<< (vv2 &&& 31)))), (6, .int vv2), (0, .int x0), (1, .int x1), (2, .int x2), (4, .int x4), (5, .int x5)]) hx hb d_Z_twoOffices_48 rfl hl (by decide) rfl (fun ls hl => ?_)
          refine lv_iload hx hb d_Z_twoOffices_49 (lv_at hl 5 rfl) ?_
          refine lv_iconst (v := 1) hx hb d_Z_twoOffices_51 (by decide) ?_
          refine lv_iadd hx hb d_Z_twoOffices_52 ?_
          refine lv_istore (lv' := [(4, .int (x4 + 1)), (3, .int (x3 ||| (1 <<< (vv2 &&& 31)))), (6, .int vv2), (0, .int x0), (1, .int x1), (2, .int x2), (5, .int x5)]) hx hb d_Z_twoOffices_53 hl (by decide) rfl (fun ls hl => ?_)
          refine lv_iinc (k := 6) (v := (x5 + 1)) (lv' := [(5, .int (x5 + 1)), (4, .int (x4 + 1)), (3, .int (x3 ||| (1 <<< (vv2 &&& 31)))), (6, .int vv2), (0, .int x0), (1, .int x1), (2, .int x2)]) hx hb d_Z_twoOffices_55 hl rfl rfl (by decide) rfl (fun ls hl => ?_)
          refine lv_goto (tgt := 8) hx hb d_Z_twoOffices_58 (by decide) ?_
          exact ih x0 x1 x2 (x3 ||| (1 <<< (vv2 &&& 31))) (x4 + 1) (x5 + 1)  r0 hF _ _ _ hS hH hN (lv_sub hl [4, 5, 6, 2, 1, 0] rfl)
set_option maxHeartbeats 4000000 in
set_option maxRecDepth 100000 in
theorem c_Z_twoOffices (l : Launch) {a1 : Int32} {a2 : Int32} {a3 : Int32} {r0 : Int32}  (hF : F_Z_twoOffices  a1 a2 a3 = some r0) : Met l y_Z_twoOffices ws_Z_twoOffices ({ frames := 0, cells := 0, slots := 0, locals := 0 } : Room) (va_Pc [.int a1, .int a2, .int a3] (fun _ => True)) (vp_Si (fun r => r = r0)) 0 0 (fun _ => False) := by
  refine Met.ofW (cc := b_Z_twoOffices) (maxL := 7) (ret := (some .int)) (by decide +kernel) rfl ?_
  intro p e s m args below meth c s₁ B hml hv
  obtain ⟨rfl, -⟩ := hv
  have hx := B.exec
  have hb := B.bytes
  have hr := B.returns
  have hts : ∀ w ∈ ALL, w.before _ s = true := fun w h => atoms_spec (ws := ws_Z_twoOffices) B.pre w (List.mem_cons_of_mem _ h)
  have hown : s.vm.findClass R_Z = some m.cls := findClass_of_methodNamed B.named
  have hlocks := B.notSynchronized
  have hS : va_S (fun _ => True) s.heap s.heap [] := va_S.rf
  have hN : ∀ q ∈ ([] : List Loc), (fun _ => False) q.base := fun _ h => absurd h List.not_mem_nil
  have hl := lv_entry ([.int a1, .int a2, .int a3]) (n := 7) (Nat.le_of_ble_eq_true rfl)
  rw [lg_entry_eq]
  generalize (lg_sl ([.int a1, .int a2, .int a3]) ++ List.replicate (7 - (lg_sl ([.int a1, .int a2, .int a3])).length) Slot.unset).toArray = ls at hl ⊢
  have hl : lv_has ls 7 [(0, .int a1), (1, .int a2), (2, .int a3)] := hl
  have hH : s.heap = s.heap := rfl
  unfold F_Z_twoOffices at hF
  refine lv_iconst (v := 0) hx hb d_Z_twoOffices_0 (by decide) ?_
  refine lv_istore_n (lv' := [(3, .int 0), (0, .int a1), (1, .int a2), (2, .int a3)]) hx hb d_Z_twoOffices_1 rfl hl (by decide) rfl (fun ls hl => ?_)
  refine lv_iconst (v := 0) hx hb d_Z_twoOffices_2 (by decide) ?_
  refine lv_istore (lv' := [(4, .int 0), (3, .int 0), (0, .int a1), (1, .int a2), (2, .int a3)]) hx hb d_Z_twoOffices_3 hl (by decide) rfl (fun ls hl => ?_)
  refine lv_iconst (v := 0) hx hb d_Z_twoOffices_5 (by decide) ?_
  refine lv_istore (lv' := [(5, .int 0), (4, .int 0), (3, .int 0), (0, .int a1), (1, .int a2), (2, .int a3)]) hx hb d_Z_twoOffices_6 hl (by decide) rfl (fun ls hl => ?_)
  exact lp_Z_twoOffices_8 hx hb hr hts hown hlocks hml  200 a1 a2 a3 0 0 0  r0 hF _ _ _ hS hH hN (lv_sub hl [3, 4, 5, 2, 1, 0] rfl)
def ws_Z_twoDistricts : List Cond := Cond.code y_Z_twoDistricts b_Z_twoDistricts 8 (some .int) :: ALL
theorem w_Z_twoDistricts {R : Room} {s : State} {args : Array Value} {own : String} {index : Nat} (hts : ∀ w ∈ ALL, w.before args s = true) (hlk : Cond.methodLink own index y_Z_twoDistricts ∈ ALL) (hR : (({ frames := 1, cells := 0, slots := 0, locals := 26 } : Room)).frames + 1 ≤ R.frames ∧ 8 + (8 + 11) + (({ frames := 1, cells := 0, slots := 0, locals := 26 } : Room)).locals ≤ R.locals) : CallB R s args own index y_Z_twoDistricts b_Z_twoDistricts 8 (some .int) ws_Z_twoDistricts ({ frames := 1, cells := 0, slots := 0, locals := 26 } : Room) 0 0 4 ∧ (Cond.static y_Z_twoDistricts).before args s = true := ⟨callB_of 4 hts (good_c a_683) rfl rfl rfl (hts _ a_8) (hts _ hlk) (by decide +kernel) hR, hts _ a_682⟩
theorem d_Z_twoDistricts_0 : decode b_Z_twoDistricts 0 = .ok (.iconst 0, 1) := by decide +kernel
theorem d_Z_twoDistricts_1 : decode b_Z_twoDistricts 1 = .ok (.istore 4, 2) := by decide +kernel
theorem d_Z_twoDistricts_3 : decode b_Z_twoDistricts 3 = .ok (.iconst 0, 1) := by decide +kernel
theorem d_Z_twoDistricts_4 : decode b_Z_twoDistricts 4 = .ok (.istore 5, 2) := by decide +kernel
theorem d_Z_twoDistricts_6 : decode b_Z_twoDistricts 6 = .ok (.iconst 0, 1) := by decide +kernel
theorem d_Z_twoDistricts_7 : decode b_Z_twoDistricts 7 = .ok (.istore 6, 2) := by decide +kernel
theorem d_Z_twoDistricts_9 : decode b_Z_twoDistricts 9 = .ok (.iload 6, 2) := by decide +kernel
theorem d_Z_twoDistricts_11 : decode b_Z_twoDistricts 11 = .ok (.iconst 3, 1) := by decide +kernel
theorem d_Z_twoDistricts_12 : decode b_Z_twoDistricts 12 = .ok (.if_icmp .ge 55, 3) := by decide +kernel
theorem d_Z_twoDistricts_15 : decode b_Z_twoDistricts 15 = .ok (.iconst 3, 1) := by decide +kernel
theorem d_Z_twoDistricts_16 : decode b_Z_twoDistricts 16 = .ok (.iload_n 1, 1) := by decide +kernel
theorem d_Z_twoDistricts_17 : decode b_Z_twoDistricts 17 = .ok (.imul, 1) := by decide +kernel
theorem d_Z_twoDistricts_18 : decode b_Z_twoDistricts 18 = .ok (.iload_n 2, 1) := by decide +kernel
theorem d_Z_twoDistricts_19 : decode b_Z_twoDistricts 19 = .ok (.iload 6, 2) := by decide +kernel
theorem d_Z_twoDistricts_21 : decode b_Z_twoDistricts 21 = .ok (.iadd, 1) := by decide +kernel
theorem d_Z_twoDistricts_22 : decode b_Z_twoDistricts 22 = .ok (.iconst 3, 1) := by decide +kernel
theorem d_Z_twoDistricts_23 : decode b_Z_twoDistricts 23 = .ok (.irem, 1) := by decide +kernel
theorem d_Z_twoDistricts_24 : decode b_Z_twoDistricts 24 = .ok (.iadd, 1) := by decide +kernel
theorem d_Z_twoDistricts_25 : decode b_Z_twoDistricts 25 = .ok (.istore 7, 2) := by decide +kernel
theorem d_Z_twoDistricts_27 : decode b_Z_twoDistricts 27 = .ok (.iload_n 0, 1) := by decide +kernel
theorem d_Z_twoDistricts_28 : decode b_Z_twoDistricts 28 = .ok (.iload 7, 2) := by decide +kernel
theorem d_Z_twoDistricts_30 : decode b_Z_twoDistricts 30 = .ok (.invokestatic 99, 3) := by decide +kernel
theorem d_Z_twoDistricts_33 : decode b_Z_twoDistricts 33 = .ok (.iconst 1, 1) := by decide +kernel
theorem d_Z_twoDistricts_34 : decode b_Z_twoDistricts 34 = .ok (.if_icmp .le 27, 3) := by decide +kernel
theorem d_Z_twoDistricts_37 : decode b_Z_twoDistricts 37 = .ok (.iload 5, 2) := by decide +kernel
theorem d_Z_twoDistricts_39 : decode b_Z_twoDistricts 39 = .ok (.iconst 2, 1) := by decide +kernel
theorem d_Z_twoDistricts_40 : decode b_Z_twoDistricts 40 = .ok (.if_icmp .ge 21, 3) := by decide +kernel
theorem d_Z_twoDistricts_43 : decode b_Z_twoDistricts 43 = .ok (.iload 4, 2) := by decide +kernel
theorem d_Z_twoDistricts_45 : decode b_Z_twoDistricts 45 = .ok (.iload_n 0, 1) := by decide +kernel
theorem d_Z_twoDistricts_46 : decode b_Z_twoDistricts 46 = .ok (.iload 7, 2) := by decide +kernel
theorem d_Z_twoDistricts_48 : decode b_Z_twoDistricts 48 = .ok (.iload_n 3, 1) := by decide +kernel
theorem d_Z_twoDistricts_49 : decode b_Z_twoDistricts 49 = .ok (.invokestatic 106, 3) := by decide +kernel
theorem d_Z_twoDistricts_52 : decode b_Z_twoDistricts 52 = .ok (.ior, 1) := by decide +kernel
theorem d_Z_twoDistricts_53 : decode b_Z_twoDistricts 53 = .ok (.istore 4, 2) := by decide +kernel
theorem d_Z_twoDistricts_55 : decode b_Z_twoDistricts 55 = .ok (.iload 5, 2) := by decide +kernel
theorem d_Z_twoDistricts_57 : decode b_Z_twoDistricts 57 = .ok (.iconst 1, 1) := by decide +kernel
theorem d_Z_twoDistricts_58 : decode b_Z_twoDistricts 58 = .ok (.iadd, 1) := by decide +kernel
theorem d_Z_twoDistricts_59 : decode b_Z_twoDistricts 59 = .ok (.istore 5, 2) := by decide +kernel
theorem d_Z_twoDistricts_61 : decode b_Z_twoDistricts 61 = .ok (.iinc 6 1, 3) := by decide +kernel
theorem d_Z_twoDistricts_64 : decode b_Z_twoDistricts 64 = .ok (.goto (-55), 3) := by decide +kernel
theorem d_Z_twoDistricts_67 : decode b_Z_twoDistricts 67 = .ok (.iload 4, 2) := by decide +kernel
theorem d_Z_twoDistricts_69 : decode b_Z_twoDistricts 69 = .ok (.ireturn, 1) := by decide +kernel
def Fl_Z_twoDistricts_9  : Nat → Int32 → Int32 → Int32 → Int32 → Int32 → Int32 → Int32 → Option (Int32)
  | 0, _, _, _, _, _, _, _ => none
  | n + 1, x0, x1, x2, x3, x4, x5, x6 => (if 3 ≤ x6 then some x4 else (nm_ ((3 * x1) + ((x2 + x6) - (x2 + x6) / 3 * 3)) fun vv2 => (bs_ (F_Z_inDistrict x0 vv2) fun r4 => (if r4 ≤ 1 then (Fl_Z_twoDistricts_9 n) x0 x1 x2 x3 x4 x5 (x6 + 1) else (if 2 ≤ x5 then (Fl_Z_twoDistricts_9 n) x0 x1 x2 x3 x4 x5 (x6 + 1) else (bs_ (F_Z_twoOffices x0 vv2 x3) fun r8 => (Fl_Z_twoDistricts_9 n) x0 x1 x2 x3 (x4 ||| r8) (x5 + 1) (x6 + 1)))))))
def F_Z_twoDistricts  (a1 : Int32) (a2 : Int32) (a3 : Int32) (a4 : Int32) : Option (Int32) := Fl_Z_twoDistricts_9  200 a1 a2 a3 a4 0 0 0
set_option maxHeartbeats 4000000 in
set_option maxRecDepth 100000 in
theorem lp_Z_twoDistricts_9 {p : Program} {l : Launch} {e : Env} {s : State} {m : MethodId} {args : Array Value} {below : List Frame} {meth : Method} {c : Code} (hx : p.tables.exec = Jvm.exec) (hb : c.code = b_Z_twoDistricts) (hr : meth.sig.returnType = (some .int)) (hts : ∀ w ∈ ALL, w.before args s = true) (hown : s.vm.findClass R_Z = some m.cls) (hlocks : meth.locks = false) (hml : c.maxLocals = 8)  : ∀ (n : Nat), ∀ (x0 : Int32) (x1 : Int32) (x2 : Int32) (x3 : Int32) (x4 : Int32) (x5 : Int32) (x6 : Int32)  (r0 : Int32), Fl_Z_twoDistricts_9  n x0 x1 x2 x3 x4 x5 x6 = some r0 → ∀ (H : Heap) (locs : List Loc) (ls : Array Slot), va_S (fun _ => True) s.heap H locs → H = s.heap → (∀ q ∈ locs, (fun _ => False) q.base) → lv_has ls 8 [(0, .int x0), (1, .int x1), (2, .int x2), (3, .int x3), (4, .int x4), (5, .int x5), (6, .int x6)] → W p l e ({ frames := 1, cells := 0, slots := 0, locals := 26 } : Room) s m args below meth c H locs 0 0 (MQ below (vp_Si (fun r => r = r0)) args s 0 0 (fun _ => False)) (F0 m 9 ls []) := by
  intro n
  induction n with
  | zero => intro x0 x1 x2 x3 x4 x5 x6 r0 hF; rw [Fl_Z_twoDistricts_9] at hF; cases hF
  | succ n ih =>
    intro x0 x1 x2 x3 x4 x5 x6 r0 hF H locs ls hS hH hN hl
    rw [Fl_Z_twoDistricts_9] at hF
    refine lv_iload hx hb d_Z_twoDistricts_9 (lv_at hl 6 rfl) ?_
    refine lv_iconst (v := 3) hx hb d_Z_twoDistricts_11 (by decide) ?_
    refine lv_icmp_ge (tgt := 67) hx hb d_Z_twoDistricts_12 (by decide) (fun h1 => ?_) (fun h1 => ?_)
    · have hF := it_t hF h1
      refine lv_iload hx hb d_Z_twoDistricts_67 (lv_at hl 4 rfl) ?_
      have hF := rt1 hF
      subst hF
      exact W.iret (v := x4) hx hb hr (fun t ht hW => ⟨_, rfl, rfl, ht.trans hH⟩) hN d_Z_twoDistricts_69
    · have hF := it_f hF h1
      refine lv_iconst (v := 3) hx hb d_Z_twoDistricts_15 (by decide) ?_
      refine lv_iload_n hx hb d_Z_twoDistricts_16 rfl (lv_at hl 1 rfl) ?_
      refine lv_imul hx hb d_Z_twoDistricts_17 ?_
      refine lv_iload_n hx hb d_Z_twoDistricts_18 rfl (lv_at hl 2 rfl) ?_
      refine lv_iload hx hb d_Z_twoDistricts_19 (lv_at hl 6 rfl) ?_
      refine lv_iadd hx hb d_Z_twoDistricts_21 ?_
      refine lv_iconst (v := 3) hx hb d_Z_twoDistricts_22 (by decide) ?_
      refine lv_irem hx hb d_Z_twoDistricts_23 (by decide) ?_
      refine lv_iadd hx hb d_Z_twoDistricts_24 ?_
      refine lv_topi (fun vv2 h3 => ?_)
      have hF := nm_q hF h3
      refine lv_istore (lv' := [(7, .int vv2), (0, .int x0), (1, .int x1), (2, .int x2), (3, .int x3), (4, .int x4), (5, .int x5), (6, .int x6)]) hx hb d_Z_twoDistricts_25 hl (by decide) rfl (fun ls hl => ?_)
      refine lv_iload_n hx hb d_Z_twoDistricts_27 rfl (lv_at hl 1 rfl) ?_
      refine lv_iload hx hb d_Z_twoDistricts_28 (lv_at hl 0 rfl) ?_
      obtain ⟨r4, h5, hF⟩ := bs_u hF
      refine k_sp [.int x0, .int vv2] [] ⟨hx, hb, hml, hown, hts⟩ (c_Z_inDistrict l  h5) (w_Z_inDistrict hts a_671 ⟨Nat.le_of_ble_eq_true rfl, Nat.le_of_ble_eq_true rfl⟩) rfl rfl hl.1 (Nat.le_of_ble_eq_true rfl) ⟨Nat.zero_le _, Nat.zero_le _⟩ d_Z_twoDistricts_30 ?_
      refine lv_iconst (v := 1) hx hb d_Z_twoDistricts_33 (by decide) ?_
      refine lv_icmp_le (tgt := 61) hx hb d_Z_twoDistricts_34 (by decide) (fun h6 => ?_) (fun h6 => ?_)
      · have hF := it_t hF h6
        refine lv_iinc (k := 7) (v := (x6 + 1)) (lv' := [(6, .int (x6 + 1)), (7, .int vv2), (0, .int x0), (1, .int x1), (2, .int x2), (3, .int x3), (4, .int x4), (5, .int x5)]) hx hb d_Z_twoDistricts_61 hl rfl rfl (by decide) rfl (fun ls hl => ?_)
        refine lv_goto (tgt := 9) hx hb d_Z_twoDistricts_64 (by decide) ?_
        exact ih x0 x1 x2 x3 x4 x5 (x6 + 1)  r0 hF _ _ _ hS hH hN (lv_sub hl [2, 3, 4, 5, 6, 7, 0] rfl)
      · have hF := it_f hF h6
        refine lv_iload hx hb d_Z_twoDistricts_37 (lv_at hl 6 rfl) ?_
        refine lv_iconst (v := 2) hx hb d_Z_twoDistricts_39 (by decide) ?_
        refine lv_icmp_ge (tgt := 61) hx hb d_Z_twoDistricts_40 (by decide) (fun h7 => ?_) (fun h7 => ?_)
        · have hF := it_t hF h7
          refine lv_iinc (k := 7) (v := (x6 + 1)) (lv' := [(6, .int (x6 + 1)), (7, .int vv2), (0, .int x0), (1, .int x1), (2, .int x2), (3, .int x3), (4, .int x4), (5, .int x5)]) hx hb d_Z_twoDistricts_61 hl rfl rfl (by decide) rfl (fun ls hl => ?_)
          refine lv_goto (tgt := 9) hx hb d_Z_twoDistricts_64 (by decide) ?_
          exact ih x0 x1 x2 x3 x4 x5 (x6 + 1)  r0 hF _ _ _ hS hH hN (lv_sub hl [2, 3, 4, 5, 6, 7, 0] rfl)
        · have hF := it_f hF h7
          refine lv_iload hx hb d_Z_twoDistricts_43 (lv_at hl 5 rfl) ?_
          refine lv_iload_n hx hb d_Z_twoDistricts_45 rfl (lv_at hl 1 rfl) ?_
          refine lv_iload hx hb d_Z_twoDistricts_46 (lv_at hl 0 rfl) ?_
          refine lv_iload_n hx hb d_Z_twoDistricts_48 rfl (lv_at hl 4 rfl) ?_
          obtain ⟨r8, h9, hF⟩ := bs_u hF
          refine k_sp [.int x0, .int vv2, .int x3] [.int x4] ⟨hx, hb, hml, hown, hts⟩ (c_Z_twoOffices l  h9) (w_Z_twoOffices hts a_684 ⟨Nat.le_of_ble_eq_true rfl, Nat.le_of_ble_eq_true rfl⟩) rfl rfl hl.1 (Nat.le_of_ble_eq_true rfl) ⟨Nat.zero_le _, Nat.zero_le _⟩ d_Z_twoDistricts_49 ?_
          refine lv_ior hx hb d_Z_twoDistricts_52 ?_
          refine lv_istore (lv' := [(4, .int (x4 ||| r8)), (7, .int vv2), (0, .int x0), (1, .int x1), (2, .int x2), (3, .int x3), (5, .int x5), (6, .int x6)]) hx hb d_Z_twoDistricts_53 hl (by decide) rfl (fun ls hl => ?_)
          refine lv_iload hx hb d_Z_twoDistricts_55 (lv_at hl 6 rfl) ?_
          refine lv_iconst (v := 1) hx hb d_Z_twoDistricts_57 (by decide) ?_
          refine lv_iadd hx hb d_Z_twoDistricts_58 ?_
          refine lv_istore (lv' := [(5, .int (x5 + 1)), (4, .int (x4 ||| r8)), (7, .int vv2), (0, .int x0), (1, .int x1), (2, .int x2), (3, .int x3), (6, .int x6)]) hx hb d_Z_twoDistricts_59 hl (by decide) rfl (fun ls hl => ?_)
          refine lv_iinc (k := 7) (v := (x6 + 1)) (lv' := [(6, .int (x6 + 1)), (5, .int (x5 + 1)), (4, .int (x4 ||| r8)), (7, .int vv2), (0, .int x0), (1, .int x1), (2, .int x2), (3, .int x3)]) hx hb d_Z_twoDistricts_61 hl rfl rfl (by decide) rfl (fun ls hl => ?_)
          refine lv_goto (tgt := 9) hx hb d_Z_twoDistricts_64 (by decide) ?_
          exact ih x0 x1 x2 x3 (x4 ||| r8) (x5 + 1) (x6 + 1)  r0 hF _ _ _ hS hH hN (lv_sub hl [4, 5, 6, 7, 2, 1, 0] rfl)
set_option maxHeartbeats 4000000 in
set_option maxRecDepth 100000 in
theorem c_Z_twoDistricts (l : Launch) {a1 : Int32} {a2 : Int32} {a3 : Int32} {a4 : Int32} {r0 : Int32}  (hF : F_Z_twoDistricts  a1 a2 a3 a4 = some r0) : Met l y_Z_twoDistricts ws_Z_twoDistricts ({ frames := 1, cells := 0, slots := 0, locals := 26 } : Room) (va_Pc [.int a1, .int a2, .int a3, .int a4] (fun _ => True)) (vp_Si (fun r => r = r0)) 0 0 (fun _ => False) := by
  refine Met.ofW (cc := b_Z_twoDistricts) (maxL := 8) (ret := (some .int)) (by decide +kernel) rfl ?_
  intro p e s m args below meth c s₁ B hml hv
  obtain ⟨rfl, -⟩ := hv
  have hx := B.exec
  have hb := B.bytes
  have hr := B.returns
  have hts : ∀ w ∈ ALL, w.before _ s = true := fun w h => atoms_spec (ws := ws_Z_twoDistricts) B.pre w (List.mem_cons_of_mem _ h)
  have hown : s.vm.findClass R_Z = some m.cls := findClass_of_methodNamed B.named
  have hlocks := B.notSynchronized
  have hS : va_S (fun _ => True) s.heap s.heap [] := va_S.rf
  have hN : ∀ q ∈ ([] : List Loc), (fun _ => False) q.base := fun _ h => absurd h List.not_mem_nil
  have hl := lv_entry ([.int a1, .int a2, .int a3, .int a4]) (n := 8) (Nat.le_of_ble_eq_true rfl)
  rw [lg_entry_eq]
  generalize (lg_sl ([.int a1, .int a2, .int a3, .int a4]) ++ List.replicate (8 - (lg_sl ([.int a1, .int a2, .int a3, .int a4])).length) Slot.unset).toArray = ls at hl ⊢
  have hl : lv_has ls 8 [(0, .int a1), (1, .int a2), (2, .int a3), (3, .int a4)] := hl
  have hH : s.heap = s.heap := rfl
  unfold F_Z_twoDistricts at hF
  refine lv_iconst (v := 0) hx hb d_Z_twoDistricts_0 (by decide) ?_
  refine lv_istore (lv' := [(4, .int 0), (0, .int a1), (1, .int a2), (2, .int a3), (3, .int a4)]) hx hb d_Z_twoDistricts_1 hl (by decide) rfl (fun ls hl => ?_)
  refine lv_iconst (v := 0) hx hb d_Z_twoDistricts_3 (by decide) ?_
  refine lv_istore (lv' := [(5, .int 0), (4, .int 0), (0, .int a1), (1, .int a2), (2, .int a3), (3, .int a4)]) hx hb d_Z_twoDistricts_4 hl (by decide) rfl (fun ls hl => ?_)
  refine lv_iconst (v := 0) hx hb d_Z_twoDistricts_6 (by decide) ?_
  refine lv_istore (lv' := [(6, .int 0), (5, .int 0), (4, .int 0), (0, .int a1), (1, .int a2), (2, .int a3), (3, .int a4)]) hx hb d_Z_twoDistricts_7 hl (by decide) rfl (fun ls hl => ?_)
  exact lp_Z_twoDistricts_9 hx hb hr hts hown hlocks hml  200 a1 a2 a3 a4 0 0 0  r0 hF _ _ _ hS hH hN (lv_sub hl [3, 4, 5, 6, 2, 1, 0] rfl)
def ws_Z_eight : List Cond := Cond.code y_Z_eight b_Z_eight 8 (some .int) :: ALL
theorem w_Z_eight {R : Room} {s : State} {args : Array Value} {own : String} {index : Nat} (hts : ∀ w ∈ ALL, w.before args s = true) (hlk : Cond.methodLink own index y_Z_eight ∈ ALL) (hR : (({ frames := 2, cells := 0, slots := 0, locals := 53 } : Room)).frames + 1 ≤ R.frames ∧ 8 + (8 + 11) + (({ frames := 2, cells := 0, slots := 0, locals := 53 } : Room)).locals ≤ R.locals) : CallB R s args own index y_Z_eight b_Z_eight 8 (some .int) ws_Z_eight ({ frames := 2, cells := 0, slots := 0, locals := 53 } : Room) 0 0 4 ∧ (Cond.static y_Z_eight).before args s = true := ⟨callB_of 4 hts (good_c a_680) rfl rfl rfl (hts _ a_8) (hts _ hlk) (by decide +kernel) hR, hts _ a_679⟩
theorem d_Z_eight_0 : decode b_Z_eight 0 = .ok (.iconst 0, 1) := by decide +kernel
theorem d_Z_eight_1 : decode b_Z_eight 1 = .ok (.istore 4, 2) := by decide +kernel
theorem d_Z_eight_3 : decode b_Z_eight 3 = .ok (.iconst 0, 1) := by decide +kernel
theorem d_Z_eight_4 : decode b_Z_eight 4 = .ok (.istore 5, 2) := by decide +kernel
theorem d_Z_eight_6 : decode b_Z_eight 6 = .ok (.iconst 0, 1) := by decide +kernel
theorem d_Z_eight_7 : decode b_Z_eight 7 = .ok (.istore 6, 2) := by decide +kernel
theorem d_Z_eight_9 : decode b_Z_eight 9 = .ok (.iload 6, 2) := by decide +kernel
theorem d_Z_eight_11 : decode b_Z_eight 11 = .ok (.iconst 3, 1) := by decide +kernel
theorem d_Z_eight_12 : decode b_Z_eight 12 = .ok (.if_icmp .ge 52, 3) := by decide +kernel
theorem d_Z_eight_15 : decode b_Z_eight 15 = .ok (.iload_n 1, 1) := by decide +kernel
theorem d_Z_eight_16 : decode b_Z_eight 16 = .ok (.iload 6, 2) := by decide +kernel
theorem d_Z_eight_18 : decode b_Z_eight 18 = .ok (.iadd, 1) := by decide +kernel
theorem d_Z_eight_19 : decode b_Z_eight 19 = .ok (.iconst 3, 1) := by decide +kernel
theorem d_Z_eight_20 : decode b_Z_eight 20 = .ok (.irem, 1) := by decide +kernel
theorem d_Z_eight_21 : decode b_Z_eight 21 = .ok (.istore 7, 2) := by decide +kernel
theorem d_Z_eight_23 : decode b_Z_eight 23 = .ok (.iload_n 0, 1) := by decide +kernel
theorem d_Z_eight_24 : decode b_Z_eight 24 = .ok (.iload 7, 2) := by decide +kernel
theorem d_Z_eight_26 : decode b_Z_eight 26 = .ok (.invokestatic 103, 3) := by decide +kernel
theorem d_Z_eight_29 : decode b_Z_eight 29 = .ok (.iconst 1, 1) := by decide +kernel
theorem d_Z_eight_30 : decode b_Z_eight 30 = .ok (.if_icmp .le 28, 3) := by decide +kernel
theorem d_Z_eight_33 : decode b_Z_eight 33 = .ok (.iload 5, 2) := by decide +kernel
theorem d_Z_eight_35 : decode b_Z_eight 35 = .ok (.iconst 2, 1) := by decide +kernel
theorem d_Z_eight_36 : decode b_Z_eight 36 = .ok (.if_icmp .ge 22, 3) := by decide +kernel
theorem d_Z_eight_39 : decode b_Z_eight 39 = .ok (.iload 4, 2) := by decide +kernel
theorem d_Z_eight_41 : decode b_Z_eight 41 = .ok (.iload_n 0, 1) := by decide +kernel
theorem d_Z_eight_42 : decode b_Z_eight 42 = .ok (.iload 7, 2) := by decide +kernel
theorem d_Z_eight_44 : decode b_Z_eight 44 = .ok (.iload_n 2, 1) := by decide +kernel
theorem d_Z_eight_45 : decode b_Z_eight 45 = .ok (.iload_n 3, 1) := by decide +kernel
theorem d_Z_eight_46 : decode b_Z_eight 46 = .ok (.invokestatic 110, 3) := by decide +kernel
theorem d_Z_eight_49 : decode b_Z_eight 49 = .ok (.ior, 1) := by decide +kernel
theorem d_Z_eight_50 : decode b_Z_eight 50 = .ok (.istore 4, 2) := by decide +kernel
theorem d_Z_eight_52 : decode b_Z_eight 52 = .ok (.iload 5, 2) := by decide +kernel
theorem d_Z_eight_54 : decode b_Z_eight 54 = .ok (.iconst 1, 1) := by decide +kernel
theorem d_Z_eight_55 : decode b_Z_eight 55 = .ok (.iadd, 1) := by decide +kernel
theorem d_Z_eight_56 : decode b_Z_eight 56 = .ok (.istore 5, 2) := by decide +kernel
theorem d_Z_eight_58 : decode b_Z_eight 58 = .ok (.iinc 6 1, 3) := by decide +kernel
theorem d_Z_eight_61 : decode b_Z_eight 61 = .ok (.goto (-52), 3) := by decide +kernel
theorem d_Z_eight_64 : decode b_Z_eight 64 = .ok (.iload 5, 2) := by decide +kernel
theorem d_Z_eight_66 : decode b_Z_eight 66 = .ok (.iconst 2, 1) := by decide +kernel
theorem d_Z_eight_67 : decode b_Z_eight 67 = .ok (.if_icmp .ge 7, 3) := by decide +kernel
theorem d_Z_eight_70 : decode b_Z_eight 70 = .ok (.iconst 0, 1) := by decide +kernel
theorem d_Z_eight_71 : decode b_Z_eight 71 = .ok (.goto 5, 3) := by decide +kernel
theorem d_Z_eight_74 : decode b_Z_eight 74 = .ok (.iload 4, 2) := by decide +kernel
theorem d_Z_eight_76 : decode b_Z_eight 76 = .ok (.ireturn, 1) := by decide +kernel
def Fj_Z_eight_64  (x4 : Int32) (x5 : Int32) : Option (Int32) := (if 2 ≤ x5 then some x4 else some 0)
def Fl_Z_eight_9  : Nat → Int32 → Int32 → Int32 → Int32 → Int32 → Int32 → Int32 → Option (Int32)
  | 0, _, _, _, _, _, _, _ => none
  | n + 1, x0, x1, x2, x3, x4, x5, x6 => (if 3 ≤ x6 then Fj_Z_eight_64  x4 x5 else (bs_ (F_Z_inRegion x0 ((x1 + x6) - (x1 + x6) / 3 * 3)) fun r3 => (if r3 ≤ 1 then (Fl_Z_eight_9 n) x0 x1 x2 x3 x4 x5 (x6 + 1) else (if 2 ≤ x5 then (Fl_Z_eight_9 n) x0 x1 x2 x3 x4 x5 (x6 + 1) else (bs_ (F_Z_twoDistricts x0 ((x1 + x6) - (x1 + x6) / 3 * 3) x2 x3) fun r7 => (Fl_Z_eight_9 n) x0 x1 x2 x3 (x4 ||| r7) (x5 + 1) (x6 + 1))))))
def F_Z_eight  (a1 : Int32) (a2 : Int32) (a3 : Int32) (a4 : Int32) : Option (Int32) := Fl_Z_eight_9  200 a1 a2 a3 a4 0 0 0
set_option maxHeartbeats 4000000 in
set_option maxRecDepth 100000 in
theorem jn_Z_eight_64 {p : Program} {l : Launch} {e : Env} {s : State} {m : MethodId} {args : Array Value} {below : List Frame} {meth : Method} {c : Code} (hx : p.tables.exec = Jvm.exec) (hb : c.code = b_Z_eight) (hr : meth.sig.returnType = (some .int)) (hts : ∀ w ∈ ALL, w.before args s = true) (hown : s.vm.findClass R_Z = some m.cls) (hlocks : meth.locks = false) (hml : c.maxLocals = 8)  : ∀ (x4 : Int32) (x5 : Int32)  (r0 : Int32), Fj_Z_eight_64  x4 x5 = some r0 → ∀ (H : Heap) (locs : List Loc) (ls : Array Slot), va_S (fun _ => True) s.heap H locs → H = s.heap → (∀ q ∈ locs, (fun _ => False) q.base) → lv_has ls 8 [(4, .int x4), (5, .int x5)] → W p l e ({ frames := 2, cells := 0, slots := 0, locals := 53 } : Room) s m args below meth c H locs 0 0 (MQ below (vp_Si (fun r => r = r0)) args s 0 0 (fun _ => False)) (F0 m 64 ls []) := by
  intro x4 x5 r0 hF H locs ls hS hH hN hl
  unfold Fj_Z_eight_64 at hF
  refine lv_iload hx hb d_Z_eight_64 (lv_at hl 1 rfl) ?_
  refine lv_iconst (v := 2) hx hb d_Z_eight_66 (by decide) ?_
  refine lv_icmp_ge (tgt := 74) hx hb d_Z_eight_67 (by decide) (fun h2 => ?_) (fun h2 => ?_)
  · have hF := it_t hF h2
    refine lv_iload hx hb d_Z_eight_74 (lv_at hl 0 rfl) ?_
    have hF := rt1 hF
    subst hF
    exact W.iret (v := x4) hx hb hr (fun t ht hW => ⟨_, rfl, rfl, ht.trans hH⟩) hN d_Z_eight_76
  · have hF := it_f hF h2
    refine lv_iconst (v := 0) hx hb d_Z_eight_70 (by decide) ?_
    refine lv_goto (tgt := 76) hx hb d_Z_eight_71 (by decide) ?_
    have hF := rt1 hF
    subst hF
    exact W.iret (v := 0) hx hb hr (fun t ht hW => ⟨_, rfl, rfl, ht.trans hH⟩) hN d_Z_eight_76
set_option maxHeartbeats 4000000 in
set_option maxRecDepth 100000 in
theorem lp_Z_eight_9 {p : Program} {l : Launch} {e : Env} {s : State} {m : MethodId} {args : Array Value} {below : List Frame} {meth : Method} {c : Code} (hx : p.tables.exec = Jvm.exec) (hb : c.code = b_Z_eight) (hr : meth.sig.returnType = (some .int)) (hts : ∀ w ∈ ALL, w.before args s = true) (hown : s.vm.findClass R_Z = some m.cls) (hlocks : meth.locks = false) (hml : c.maxLocals = 8)  : ∀ (n : Nat), ∀ (x0 : Int32) (x1 : Int32) (x2 : Int32) (x3 : Int32) (x4 : Int32) (x5 : Int32) (x6 : Int32)  (r0 : Int32), Fl_Z_eight_9  n x0 x1 x2 x3 x4 x5 x6 = some r0 → ∀ (H : Heap) (locs : List Loc) (ls : Array Slot), va_S (fun _ => True) s.heap H locs → H = s.heap → (∀ q ∈ locs, (fun _ => False) q.base) → lv_has ls 8 [(0, .int x0), (1, .int x1), (2, .int x2), (3, .int x3), (4, .int x4), (5, .int x5), (6, .int x6)] → W p l e ({ frames := 2, cells := 0, slots := 0, locals := 53 } : Room) s m args below meth c H locs 0 0 (MQ below (vp_Si (fun r => r = r0)) args s 0 0 (fun _ => False)) (F0 m 9 ls []) := by
  intro n
  induction n with
  | zero => intro x0 x1 x2 x3 x4 x5 x6 r0 hF; rw [Fl_Z_eight_9] at hF; cases hF
  | succ n ih =>
    intro x0 x1 x2 x3 x4 x5 x6 r0 hF H locs ls hS hH hN hl
    rw [Fl_Z_eight_9] at hF
    refine lv_iload hx hb d_Z_eight_9 (lv_at hl 6 rfl) ?_
    refine lv_iconst (v := 3) hx hb d_Z_eight_11 (by decide) ?_
    refine lv_icmp_ge (tgt := 64) hx hb d_Z_eight_12 (by decide) (fun h1 => ?_) (fun h1 => ?_)
    · have hF := it_t hF h1
      exact jn_Z_eight_64 hx hb hr hts hown hlocks hml  x4 x5  r0 hF _ _ _ hS hH hN (lv_sub hl [4, 5] rfl)
    · have hF := it_f hF h1
      refine lv_iload_n hx hb d_Z_eight_15 rfl (lv_at hl 1 rfl) ?_
      refine lv_iload hx hb d_Z_eight_16 (lv_at hl 6 rfl) ?_
      refine lv_iadd hx hb d_Z_eight_18 ?_
      refine lv_iconst (v := 3) hx hb d_Z_eight_19 (by decide) ?_
      refine lv_irem hx hb d_Z_eight_20 (by decide) ?_
      refine lv_istore (lv' := [(7, .int ((x1 + x6) - (x1 + x6) / 3 * 3)), (0, .int x0), (1, .int x1), (2, .int x2), (3, .int x3), (4, .int x4), (5, .int x5), (6, .int x6)]) hx hb d_Z_eight_21 hl (by decide) rfl (fun ls hl => ?_)
      refine lv_iload_n hx hb d_Z_eight_23 rfl (lv_at hl 1 rfl) ?_
      refine lv_iload hx hb d_Z_eight_24 (lv_at hl 0 rfl) ?_
      obtain ⟨r3, h4, hF⟩ := bs_u hF
      refine k_sp [.int x0, .int ((x1 + x6) - (x1 + x6) / 3 * 3)] [] ⟨hx, hb, hml, hown, hts⟩ (c_Z_inRegion l  h4) (w_Z_inRegion hts a_668 ⟨Nat.le_of_ble_eq_true rfl, Nat.le_of_ble_eq_true rfl⟩) rfl rfl hl.1 (Nat.le_of_ble_eq_true rfl) ⟨Nat.zero_le _, Nat.zero_le _⟩ d_Z_eight_26 ?_
      refine lv_iconst (v := 1) hx hb d_Z_eight_29 (by decide) ?_
      refine lv_icmp_le (tgt := 58) hx hb d_Z_eight_30 (by decide) (fun h5 => ?_) (fun h5 => ?_)
      · have hF := it_t hF h5
        refine lv_iinc (k := 7) (v := (x6 + 1)) (lv' := [(6, .int (x6 + 1)), (7, .int ((x1 + x6) - (x1 + x6) / 3 * 3)), (0, .int x0), (1, .int x1), (2, .int x2), (3, .int x3), (4, .int x4), (5, .int x5)]) hx hb d_Z_eight_58 hl rfl rfl (by decide) rfl (fun ls hl => ?_)
        refine lv_goto (tgt := 9) hx hb d_Z_eight_61 (by decide) ?_
        exact ih x0 x1 x2 x3 x4 x5 (x6 + 1)  r0 hF _ _ _ hS hH hN (lv_sub hl [2, 3, 4, 5, 6, 7, 0] rfl)
      · have hF := it_f hF h5
        refine lv_iload hx hb d_Z_eight_33 (lv_at hl 6 rfl) ?_
        refine lv_iconst (v := 2) hx hb d_Z_eight_35 (by decide) ?_
        refine lv_icmp_ge (tgt := 58) hx hb d_Z_eight_36 (by decide) (fun h6 => ?_) (fun h6 => ?_)
        · have hF := it_t hF h6
          refine lv_iinc (k := 7) (v := (x6 + 1)) (lv' := [(6, .int (x6 + 1)), (7, .int ((x1 + x6) - (x1 + x6) / 3 * 3)), (0, .int x0), (1, .int x1), (2, .int x2), (3, .int x3), (4, .int x4), (5, .int x5)]) hx hb d_Z_eight_58 hl rfl rfl (by decide) rfl (fun ls hl => ?_)
          refine lv_goto (tgt := 9) hx hb d_Z_eight_61 (by decide) ?_
          exact ih x0 x1 x2 x3 x4 x5 (x6 + 1)  r0 hF _ _ _ hS hH hN (lv_sub hl [2, 3, 4, 5, 6, 7, 0] rfl)
        · have hF := it_f hF h6
          refine lv_iload hx hb d_Z_eight_39 (lv_at hl 5 rfl) ?_
          refine lv_iload_n hx hb d_Z_eight_41 rfl (lv_at hl 1 rfl) ?_
          refine lv_iload hx hb d_Z_eight_42 (lv_at hl 0 rfl) ?_
          refine lv_iload_n hx hb d_Z_eight_44 rfl (lv_at hl 3 rfl) ?_
          refine lv_iload_n hx hb d_Z_eight_45 rfl (lv_at hl 4 rfl) ?_
          obtain ⟨r7, h8, hF⟩ := bs_u hF
          refine k_sp [.int x0, .int ((x1 + x6) - (x1 + x6) / 3 * 3), .int x2, .int x3] [.int x4] ⟨hx, hb, hml, hown, hts⟩ (c_Z_twoDistricts l  h8) (w_Z_twoDistricts hts a_681 ⟨Nat.le_of_ble_eq_true rfl, Nat.le_of_ble_eq_true rfl⟩) rfl rfl hl.1 (Nat.le_of_ble_eq_true rfl) ⟨Nat.zero_le _, Nat.zero_le _⟩ d_Z_eight_46 ?_
          refine lv_ior hx hb d_Z_eight_49 ?_
          refine lv_istore (lv' := [(4, .int (x4 ||| r7)), (7, .int ((x1 + x6) - (x1 + x6) / 3 * 3)), (0, .int x0), (1, .int x1), (2, .int x2), (3, .int x3), (5, .int x5), (6, .int x6)]) hx hb d_Z_eight_50 hl (by decide) rfl (fun ls hl => ?_)
          refine lv_iload hx hb d_Z_eight_52 (lv_at hl 6 rfl) ?_
          refine lv_iconst (v := 1) hx hb d_Z_eight_54 (by decide) ?_
          refine lv_iadd hx hb d_Z_eight_55 ?_
          refine lv_istore (lv' := [(5, .int (x5 + 1)), (4, .int (x4 ||| r7)), (7, .int ((x1 + x6) - (x1 + x6) / 3 * 3)), (0, .int x0), (1, .int x1), (2, .int x2), (3, .int x3), (6, .int x6)]) hx hb d_Z_eight_56 hl (by decide) rfl (fun ls hl => ?_)
          refine lv_iinc (k := 7) (v := (x6 + 1)) (lv' := [(6, .int (x6 + 1)), (5, .int (x5 + 1)), (4, .int (x4 ||| r7)), (7, .int ((x1 + x6) - (x1 + x6) / 3 * 3)), (0, .int x0), (1, .int x1), (2, .int x2), (3, .int x3)]) hx hb d_Z_eight_58 hl rfl rfl (by decide) rfl (fun ls hl => ?_)
          refine lv_goto (tgt := 9) hx hb d_Z_eight_61 (by decide) ?_
          exact ih x0 x1 x2 x3 (x4 ||| r7) (x5 + 1) (x6 + 1)  r0 hF _ _ _ hS hH hN (lv_sub hl [4, 5, 6, 7, 2, 1, 0] rfl)
set_option maxHeartbeats 4000000 in
set_option maxRecDepth 100000 in
theorem c_Z_eight (l : Launch) {a1 : Int32} {a2 : Int32} {a3 : Int32} {a4 : Int32} {r0 : Int32}  (hF : F_Z_eight  a1 a2 a3 a4 = some r0) : Met l y_Z_eight ws_Z_eight ({ frames := 2, cells := 0, slots := 0, locals := 53 } : Room) (va_Pc [.int a1, .int a2, .int a3, .int a4] (fun _ => True)) (vp_Si (fun r => r = r0)) 0 0 (fun _ => False) := by
  refine Met.ofW (cc := b_Z_eight) (maxL := 8) (ret := (some .int)) (by decide +kernel) rfl ?_
  intro p e s m args below meth c s₁ B hml hv
  obtain ⟨rfl, -⟩ := hv
  have hx := B.exec
  have hb := B.bytes
  have hr := B.returns
  have hts : ∀ w ∈ ALL, w.before _ s = true := fun w h => atoms_spec (ws := ws_Z_eight) B.pre w (List.mem_cons_of_mem _ h)
  have hown : s.vm.findClass R_Z = some m.cls := findClass_of_methodNamed B.named
  have hlocks := B.notSynchronized
  have hS : va_S (fun _ => True) s.heap s.heap [] := va_S.rf
  have hN : ∀ q ∈ ([] : List Loc), (fun _ => False) q.base := fun _ h => absurd h List.not_mem_nil
  have hl := lv_entry ([.int a1, .int a2, .int a3, .int a4]) (n := 8) (Nat.le_of_ble_eq_true rfl)
  rw [lg_entry_eq]
  generalize (lg_sl ([.int a1, .int a2, .int a3, .int a4]) ++ List.replicate (8 - (lg_sl ([.int a1, .int a2, .int a3, .int a4])).length) Slot.unset).toArray = ls at hl ⊢
  have hl : lv_has ls 8 [(0, .int a1), (1, .int a2), (2, .int a3), (3, .int a4)] := hl
  have hH : s.heap = s.heap := rfl
  unfold F_Z_eight at hF
  refine lv_iconst (v := 0) hx hb d_Z_eight_0 (by decide) ?_
  refine lv_istore (lv' := [(4, .int 0), (0, .int a1), (1, .int a2), (2, .int a3), (3, .int a4)]) hx hb d_Z_eight_1 hl (by decide) rfl (fun ls hl => ?_)
  refine lv_iconst (v := 0) hx hb d_Z_eight_3 (by decide) ?_
  refine lv_istore (lv' := [(5, .int 0), (4, .int 0), (0, .int a1), (1, .int a2), (2, .int a3), (3, .int a4)]) hx hb d_Z_eight_4 hl (by decide) rfl (fun ls hl => ?_)
  refine lv_iconst (v := 0) hx hb d_Z_eight_6 (by decide) ?_
  refine lv_istore (lv' := [(6, .int 0), (5, .int 0), (4, .int 0), (0, .int a1), (1, .int a2), (2, .int a3), (3, .int a4)]) hx hb d_Z_eight_7 hl (by decide) rfl (fun ls hl => ?_)
  exact lp_Z_eight_9 hx hb hr hts hown hlocks hml  200 a1 a2 a3 a4 0 0 0  r0 hF _ _ _ hS hH hN (lv_sub hl [3, 4, 5, 6, 2, 1, 0] rfl)
def ws_Z_least : List Cond := Cond.code y_Z_least b_Z_least 2 (some .int) :: ALL
theorem w_Z_least {R : Room} {s : State} {args : Array Value} {own : String} {index : Nat} (hts : ∀ w ∈ ALL, w.before args s = true) (hlk : Cond.methodLink own index y_Z_least ∈ ALL) (hR : (({ frames := 3, cells := 0, slots := 0, locals := 80 } : Room)).frames + 1 ≤ R.frames ∧ 8 + (2 + 11) + (({ frames := 3, cells := 0, slots := 0, locals := 80 } : Room)).locals ≤ R.locals) : CallW R s args own R_Z index y_Z_least b_Z_least 2 (some .int) ws_Z_least ({ frames := 3, cells := 0, slots := 0, locals := 80 } : Room) 0 0 1 := ⟨callB_of 1 hts (good_c a_677) rfl rfl rfl (hts _ a_8) (hts _ hlk) (by decide +kernel) hR, hts _ a_675, hts _ a_676⟩
theorem d_Z_least_0 : decode b_Z_least 0 = .ok (.aload_n 0, 1) := by decide +kernel
theorem d_Z_least_1 : decode b_Z_least 1 = .ok (.iconst 0, 1) := by decide +kernel
theorem d_Z_least_2 : decode b_Z_least 2 = .ok (.putfield 95, 3) := by decide +kernel
theorem d_Z_least_5 : decode b_Z_least 5 = .ok (.iload_n 1, 1) := by decide +kernel
theorem d_Z_least_6 : decode b_Z_least 6 = .ok (.ldc 114, 2) := by decide +kernel
theorem d_Z_least_8 : decode b_Z_least 8 = .ok (.iand, 1) := by decide +kernel
theorem d_Z_least_9 : decode b_Z_least 9 = .ok (.iconst 0, 1) := by decide +kernel
theorem d_Z_least_10 : decode b_Z_least 10 = .ok (.iconst 0, 1) := by decide +kernel
theorem d_Z_least_11 : decode b_Z_least 11 = .ok (.iconst 0, 1) := by decide +kernel
theorem d_Z_least_12 : decode b_Z_least 12 = .ok (.invokestatic 115, 3) := by decide +kernel
theorem d_Z_least_15 : decode b_Z_least 15 = .ok (.ireturn, 1) := by decide +kernel
def F_Z_least (z : ZW) (a1 : Int32) : Option (Int32 × ZW) := (nm_ (pz z 0 0 0) fun z1 => (bs_ (F_Z_eight (a1 &&& 134217727) 0 0 0) fun r3 => some (r3, z1)))
set_option maxHeartbeats 4000000 in
set_option maxRecDepth 100000 in
theorem c_Z_least (l : Launch) (D : va_G) (ad : Nat → Nat → Nat) (ca : Nat → ClassId) (hD0 : ∀ z u, va_D (AH ad) (wh ad ca z u)) {z : ZW} {u : XC} {a1 : Int32} {r0 : Int32} {z0 : ZW}  (hF : F_Z_least z a1 = some (r0, z0)) : Met l y_Z_least ws_Z_least ({ frames := 3, cells := 0, slots := 0, locals := 80 } : Room) (va_Pc [.ref (ad 14 0), .int a1] (fun U => va_P D CLS (wh ad ca z u) U.heap ∧ va_K D CLS (TYH ca) U)) (va_Qi (fun (r : Int32) (_ : Unit) => r = r0) (fun _ t => va_P D CLS (wh ad ca z0 u) t.heap) (AH ad)) 0 0 (AH ad) := by
  refine Met.ofW (cc := b_Z_least) (maxL := 2) (ret := (some .int)) (by decide +kernel) rfl ?_
  intro p e s m args below meth c s₁ B hml hv
  obtain ⟨rfl, hP, hK⟩ := hv
  have hx := B.exec
  have hb := B.bytes
  have hr := B.returns
  have hts : ∀ w ∈ ALL, w.before _ s = true := fun w h => atoms_spec (ws := ws_Z_least) B.pre w (List.mem_cons_of_mem _ h)
  have hown : s.vm.findClass R_Z = some m.cls := findClass_of_methodNamed B.named
  have hlocks := B.notSynchronized
  have hD := hD0
  have hS : va_S (AH ad) s.heap s.heap [] := va_S.rf
  have hP : va_P D CLS (wh ad ca z u) s.heap := hP
  have hl := lv_entry ([.ref (ad 14 0), .int a1]) (n := 2) (Nat.le_of_ble_eq_true rfl)
  rw [lg_entry_eq]
  generalize (lg_sl ([.ref (ad 14 0), .int a1]) ++ List.replicate (2 - (lg_sl ([.ref (ad 14 0), .int a1])).length) Slot.unset).toArray = ls at hl ⊢
  have hl : lv_has ls 2 [(0, .ref (ad 14 0)), (1, .int a1)] := hl
  unfold F_Z_least at hF
  refine lv_aload_n hx hb d_Z_least_0 rfl (lv_at hl 0 rfl) ?_
  refine lv_iconst (v := 0) hx hb d_Z_least_1 (by decide) ?_
  obtain ⟨z1, h2, hF⟩ := nm_u hF
  refine pf_Z_0 hx hb hts hown hK hP hD hS (by decide) h2 a_558 d_Z_least_2 (fun H locs hP hS => ?_)
  refine lv_iload_n hx hb d_Z_least_5 rfl (lv_at hl 1 rfl) ?_
  refine lv_ldc (v := 134217727) hx hb hown (hts _ a_664) d_Z_least_6 ?_
  refine lv_iand hx hb d_Z_least_8 ?_
  refine lv_iconst (v := 0) hx hb d_Z_least_9 (by decide) ?_
  refine lv_iconst (v := 0) hx hb d_Z_least_10 (by decide) ?_
  refine lv_iconst (v := 0) hx hb d_Z_least_11 (by decide) ?_
  obtain ⟨r3, h4, hF⟩ := bs_u hF
  refine k_sp [.int (a1 &&& 134217727), .int 0, .int 0, .int 0] [] ⟨hx, hb, hml, hown, hts⟩ (c_Z_eight l  h4) (w_Z_eight hts a_678 ⟨Nat.le_of_ble_eq_true rfl, Nat.le_of_ble_eq_true rfl⟩) rfl rfl hl.1 (Nat.le_of_ble_eq_true rfl) ⟨Nat.zero_le _, Nat.zero_le _⟩ d_Z_least_12 ?_
  obtain ⟨rfl, rfl⟩ := rt2 hF
  exact W.iret (v := r3) hx hb hr (fun t ht hW => ⟨⟨_, (), rfl, rfl, vp_at ht hP⟩, hS.F ht⟩) hS.2.2 d_Z_least_15
