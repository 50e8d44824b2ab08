def ws_S_has : List Cond := Cond.code y_S_has b_S_has 2 (some .boolean) :: ALL
theorem w_S_has {R : Room} {s : State} {args : Array Value} {own : String} {index : Nat} (hts : ∀ w ∈ ALL, w.before args s = true) (hlk : Cond.methodLink own index y_S_has ∈ ALL) (hR : (({ frames := 0, cells := 0, slots := 0, locals := 0 } : Room)).frames + 1 ≤ R.frames ∧ 8 + (2 + 11) + (({ frames := 0, cells := 0, slots := 0, locals := 0 } : Room)).locals ≤ R.locals) : CallB R s args own index y_S_has b_S_has 2 (some .boolean) ws_S_has ({ frames := 0, cells := 0, slots := 0, locals := 0 } : Room) 0 0 2 ∧ (Cond.static y_S_has).before args s = true := ⟨callB_of 2 hts (good_c a_451) rfl rfl rfl (hts _ a_15) (hts _ hlk) (by decide +kernel) hR, hts _ a_450⟩
theorem d_S_has_0 : decode b_S_has 0 = .ok (.iload_n 0, 1) := by decide +kernel
theorem d_S_has_1 : decode b_S_has 1 = .ok (.iload_n 1, 1) := by decide +kernel
theorem d_S_has_2 : decode b_S_has 2 = .ok (.ishr, 1) := by decide +kernel
theorem d_S_has_3 : decode b_S_has 3 = .ok (.iconst 1, 1) := by decide +kernel
theorem d_S_has_4 : decode b_S_has 4 = .ok (.iand, 1) := by decide +kernel
theorem d_S_has_5 : decode b_S_has 5 = .ok (.ifCond .eq 7, 3) := by decide +kernel
theorem d_S_has_8 : decode b_S_has 8 = .ok (.iconst 1, 1) := by decide +kernel
theorem d_S_has_9 : decode b_S_has 9 = .ok (.goto 4, 3) := by decide +kernel
theorem d_S_has_12 : decode b_S_has 12 = .ok (.iconst 0, 1) := by decide +kernel
theorem d_S_has_13 : decode b_S_has 13 = .ok (.ireturn, 1) := by decide +kernel
def F_S_has  (a1 : Int32) (a2 : Int32) : Option (Int32) := (if ((a1 >>> (a2 &&& 31)) &&& 1) = 0 then some 0 else some 1)
set_option maxHeartbeats 4000000 in
set_option maxRecDepth 100000 in
theorem c_S_has (l : Launch) {a1 : Int32} {a2 : Int32} {r0 : Int32}  (hF : F_S_has  a1 a2 = some r0) : Met l y_S_has ws_S_has ({ frames := 0, cells := 0, slots := 0, locals := 0 } : Room) (va_Pc [.int a1, .int a2] (fun _ => True)) (vp_Si (fun r => r = r0)) 0 0 (fun _ => False) := by
  refine Met.ofW (cc := b_S_has) (maxL := 2) (ret := (some .boolean)) (by decide +kernel) rfl ?_
  intro p e s m args below meth c s₁ B hml hv
  obtain ⟨rfl, -⟩ := hv
  have hx := B.exec
  have hb := B.bytes
  have hr := B.returns
  have hts : ∀ w ∈ ALL, w.before _ s = true := fun w h => atoms_spec (ws := ws_S_has) B.pre w (List.mem_cons_of_mem _ h)
  have hown : s.vm.findClass R_S = some m.cls := findClass_of_methodNamed B.named
  have hlocks := B.notSynchronized
  have hS : va_S (fun _ => True) s.heap s.heap [] := va_S.rf
  have hN : ∀ q ∈ ([] : List Loc), (fun _ => False) q.base := fun _ h => absurd h List.not_mem_nil
  have hl := lv_entry ([.int a1, .int a2]) (n := 2) (Nat.le_of_ble_eq_true rfl)
  rw [lg_entry_eq]
  generalize (lg_sl ([.int a1, .int a2]) ++ List.replicate (2 - (lg_sl ([.int a1, .int a2])).length) Slot.unset).toArray = ls at hl ⊢
  have hl : lv_has ls 2 [(0, .int a1), (1, .int a2)] := hl
  have hH : s.heap = s.heap := rfl
  unfold F_S_has at hF
  refine lv_iload_n hx hb d_S_has_0 rfl (lv_at hl 0 rfl) ?_
  refine lv_iload_n hx hb d_S_has_1 rfl (lv_at hl 1 rfl) ?_
  refine lv_ishr hx hb d_S_has_2 ?_
  refine lv_iconst (v := 1) hx hb d_S_has_3 (by decide) ?_
  refine lv_iand hx hb d_S_has_4 ?_
  refine lv_if_eq (tgt := 12) hx hb d_S_has_5 (by decide) (fun h1 => ?_) (fun h1 => ?_)
  · have hF := it_t hF h1
    refine lv_iconst (v := 0) hx hb d_S_has_12 (by decide) ?_
    have hF := rt1 hF
    subst hF
    exact W.zret (v := 0) hx hb hr rfl (fun t ht hW => ⟨_, rfl, rfl, ht.trans hH⟩) hN d_S_has_13
  · have hF := it_f hF h1
    refine lv_iconst (v := 1) hx hb d_S_has_8 (by decide) ?_
    refine lv_goto (tgt := 13) hx hb d_S_has_9 (by decide) ?_
    have hF := rt1 hF
    subst hF
    exact W.zret (v := 1) hx hb hr rfl (fun t ht hW => ⟨_, rfl, rfl, ht.trans hH⟩) hN d_S_has_13
def ws_S_pickInDistrict : List Cond := Cond.code y_S_pickInDistrict b_S_pickInDistrict 7 (some .int) :: ALL
theorem w_S_pickInDistrict {R : Room} {s : State} {args : Array Value} {own : String} {index : Nat} (hts : ∀ w ∈ ALL, w.before args s = true) (hlk : Cond.methodLink own index y_S_pickInDistrict ∈ ALL) (hR : (({ frames := 0, cells := 0, slots := 0, locals := 0 } : Room)).frames + 1 ≤ R.frames ∧ 8 + (7 + 11) + (({ frames := 0, cells := 0, slots := 0, locals := 0 } : Room)).locals ≤ R.locals) : CallB R s args own index y_S_pickInDistrict b_S_pickInDistrict 7 (some .int) ws_S_pickInDistrict ({ frames := 0, cells := 0, slots := 0, locals := 0 } : Room) 0 0 3 ∧ (Cond.static y_S_pickInDistrict).before args s = true := ⟨callB_of 3 hts (good_c a_298) rfl rfl rfl (hts _ a_15) (hts _ hlk) (by decide +kernel) hR, hts _ a_297⟩
theorem d_S_pickInDistrict_0 : decode b_S_pickInDistrict 0 = .ok (.iconst 0, 1) := by decide +kernel
theorem d_S_pickInDistrict_1 : decode b_S_pickInDistrict 1 = .ok (.istore_n 3, 1) := by decide +kernel
theorem d_S_pickInDistrict_2 : decode b_S_pickInDistrict 2 = .ok (.iconst 0, 1) := by decide +kernel
theorem d_S_pickInDistrict_3 : decode b_S_pickInDistrict 3 = .ok (.istore 4, 2) := by decide +kernel
theorem d_S_pickInDistrict_5 : decode b_S_pickInDistrict 5 = .ok (.iconst 0, 1) := by decide +kernel
theorem d_S_pickInDistrict_6 : decode b_S_pickInDistrict 6 = .ok (.istore 5, 2) := by decide +kernel
theorem d_S_pickInDistrict_8 : decode b_S_pickInDistrict 8 = .ok (.iload 5, 2) := by decide +kernel
theorem d_S_pickInDistrict_10 : decode b_S_pickInDistrict 10 = .ok (.iconst 3, 1) := by decide +kernel
theorem d_S_pickInDistrict_11 : decode b_S_pickInDistrict 11 = .ok (.if_icmp .ge 46, 3) := by decide +kernel
theorem d_S_pickInDistrict_14 : decode b_S_pickInDistrict 14 = .ok (.iload 4, 2) := by decide +kernel
theorem d_S_pickInDistrict_16 : decode b_S_pickInDistrict 16 = .ok (.iconst 2, 1) := by decide +kernel
theorem d_S_pickInDistrict_17 : decode b_S_pickInDistrict 17 = .ok (.if_icmp .ge 40, 3) := by decide +kernel
theorem d_S_pickInDistrict_20 : decode b_S_pickInDistrict 20 = .ok (.iconst 3, 1) := by decide +kernel
theorem d_S_pickInDistrict_21 : decode b_S_pickInDistrict 21 = .ok (.iload_n 1, 1) := by decide +kernel
theorem d_S_pickInDistrict_22 : decode b_S_pickInDistrict 22 = .ok (.imul, 1) := by decide +kernel
theorem d_S_pickInDistrict_23 : decode b_S_pickInDistrict 23 = .ok (.iload_n 2, 1) := by decide +kernel
theorem d_S_pickInDistrict_24 : decode b_S_pickInDistrict 24 = .ok (.iload 5, 2) := by decide +kernel
theorem d_S_pickInDistrict_26 : decode b_S_pickInDistrict 26 = .ok (.iadd, 1) := by decide +kernel
theorem d_S_pickInDistrict_27 : decode b_S_pickInDistrict 27 = .ok (.iconst 3, 1) := by decide +kernel
theorem d_S_pickInDistrict_28 : decode b_S_pickInDistrict 28 = .ok (.irem, 1) := by decide +kernel
theorem d_S_pickInDistrict_29 : decode b_S_pickInDistrict 29 = .ok (.iadd, 1) := by decide +kernel
theorem d_S_pickInDistrict_30 : decode b_S_pickInDistrict 30 = .ok (.istore 6, 2) := by decide +kernel
theorem d_S_pickInDistrict_32 : decode b_S_pickInDistrict 32 = .ok (.iload_n 0, 1) := by decide +kernel
theorem d_S_pickInDistrict_33 : decode b_S_pickInDistrict 33 = .ok (.iload 6, 2) := by decide +kernel
theorem d_S_pickInDistrict_35 : decode b_S_pickInDistrict 35 = .ok (.ishr, 1) := by decide +kernel
theorem d_S_pickInDistrict_36 : decode b_S_pickInDistrict 36 = .ok (.iconst 1, 1) := by decide +kernel
theorem d_S_pickInDistrict_37 : decode b_S_pickInDistrict 37 = .ok (.iand, 1) := by decide +kernel
theorem d_S_pickInDistrict_38 : decode b_S_pickInDistrict 38 = .ok (.ifCond .eq 13, 3) := by decide +kernel
theorem d_S_pickInDistrict_41 : decode b_S_pickInDistrict 41 = .ok (.iload_n 3, 1) := by decide +kernel
theorem d_S_pickInDistrict_42 : decode b_S_pickInDistrict 42 = .ok (.iconst 1, 1) := by decide +kernel
theorem d_S_pickInDistrict_43 : decode b_S_pickInDistrict 43 = .ok (.iload 6, 2) := by decide +kernel
theorem d_S_pickInDistrict_45 : decode b_S_pickInDistrict 45 = .ok (.ishl, 1) := by decide +kernel
theorem d_S_pickInDistrict_46 : decode b_S_pickInDistrict 46 = .ok (.ior, 1) := by decide +kernel
theorem d_S_pickInDistrict_47 : decode b_S_pickInDistrict 47 = .ok (.istore_n 3, 1) := by decide +kernel
theorem d_S_pickInDistrict_48 : decode b_S_pickInDistrict 48 = .ok (.iinc 4 1, 3) := by decide +kernel
theorem d_S_pickInDistrict_51 : decode b_S_pickInDistrict 51 = .ok (.iinc 5 1, 3) := by decide +kernel
theorem d_S_pickInDistrict_54 : decode b_S_pickInDistrict 54 = .ok (.goto (-46), 3) := by decide +kernel
theorem d_S_pickInDistrict_57 : decode b_S_pickInDistrict 57 = .ok (.iload 4, 2) := by decide +kernel
theorem d_S_pickInDistrict_59 : decode b_S_pickInDistrict 59 = .ok (.iconst 2, 1) := by decide +kernel
theorem d_S_pickInDistrict_60 : decode b_S_pickInDistrict 60 = .ok (.if_icmp .ne 7, 3) := by decide +kernel
theorem d_S_pickInDistrict_63 : decode b_S_pickInDistrict 63 = .ok (.iload_n 3, 1) := by decide +kernel
theorem d_S_pickInDistrict_64 : decode b_S_pickInDistrict 64 = .ok (.goto 4, 3) := by decide +kernel
theorem d_S_pickInDistrict_67 : decode b_S_pickInDistrict 67 = .ok (.iconst 0, 1) := by decide +kernel
theorem d_S_pickInDistrict_68 : decode b_S_pickInDistrict 68 = .ok (.ireturn, 1) := by decide +kernel
def Fj_S_pickInDistrict_57  (x3 : Int32) (x4 : Int32) : Option (Int32) := (if x4 = 2 then some x3 else some 0)
def Fl_S_pickInDistrict_8  : Nat → Int32 → Int32 → Int32 → Int32 → Int32 → Int32 → Option (Int32)
  | 0, _, _, _, _, _, _ => none
  | n + 1, x0, x1, x2, x3, x4, x5 => (if 3 ≤ x5 then Fj_S_pickInDistrict_57  x3 x4 else (if 2 ≤ x4 then Fj_S_pickInDistrict_57  x3 x4 else (nm_ ((3 * x1) + ((x2 + x5) - (x2 + x5) / 3 * 3)) fun vv4 => (if ((x0 >>> (vv4 &&& 31)) &&& 1) = 0 then (Fl_S_pickInDistrict_8 n) x0 x1 x2 x3 x4 (x5 + 1) else (Fl_S_pickInDistrict_8 n) x0 x1 x2 (x3 ||| (1 <<< (vv4 &&& 31))) (x4 + 1) (x5 + 1)))))
def F_S_pickInDistrict  (a1 : Int32) (a2 : Int32) (a3 : Int32) : Option (Int32) := Fl_S_pickInDistrict_8  200 a1 a2 a3 0 0 0
set_option maxHeartbeats 4000000 in
set_option maxRecDepth 100000 in
theorem jn_S_pickInDistrict_57 {p : Program} {l : Launch} {e : Env} {s : State} {m : MethodId} {args : Array Value} {below : List Frame} {meth : Method} {c : Code} (hx : p.tables.exec = Jvm.exec) (hb : c.code = b_S_pickInDistrict) (hr : meth.sig.returnType = (some .int)) (hts : ∀ w ∈ ALL, w.before args s = true) (hown : s.vm.findClass R_S = some m.cls) (hlocks : meth.locks = false) (hml : c.maxLocals = 7)  : ∀ (x3 : Int32) (x4 : Int32)  (r0 : Int32), Fj_S_pickInDistrict_57  x3 x4 = some r0 → ∀ (H : Heap) (locs : List Loc) (ls : Array Slot), va_S (fun _ => True) s.heap H locs → H = s.heap → (∀ q ∈ locs, (fun _ => False) q.base) → lv_has ls 7 [(3, .int x3), (4, .int x4)] → W p l e ({ frames := 0, cells := 0, slots := 0, locals := 0 } : Room) s m args below meth c H locs 0 0 (MQ below (vp_Si (fun r => r = r0)) args s 0 0 (fun _ => False)) (F0 m 57 ls []) := by
  intro x3 x4 r0 hF H locs ls hS hH hN hl
  unfold Fj_S_pickInDistrict_57 at hF
  refine lv_iload hx hb d_S_pickInDistrict_57 (lv_at hl 1 rfl) ?_
  refine lv_iconst (v := 2) hx hb d_S_pickInDistrict_59 (by decide) ?_
  refine lv_icmp_ne (tgt := 67) hx hb d_S_pickInDistrict_60 (by decide) (fun h2 => ?_) (fun h2 => ?_)
  · have hF := it_f hF h2
    refine lv_iconst (v := 0) hx hb d_S_pickInDistrict_67 (by decide) ?_
    have hF := rt1 hF
    subst hF
    exact W.iret (v := 0) hx hb hr (fun t ht hW => ⟨_, rfl, rfl, ht.trans hH⟩) hN d_S_pickInDistrict_68
  · have hF := it_t hF h2
    refine lv_iload_n hx hb d_S_pickInDistrict_63 rfl (lv_at hl 0 rfl) ?_
    refine lv_goto (tgt := 68) hx hb d_S_pickInDistrict_64 (by decide) ?_
    have hF := rt1 hF
    subst hF
    exact W.iret (v := x3) hx hb hr (fun t ht hW => ⟨_, rfl, rfl, ht.trans hH⟩) hN d_S_pickInDistrict_68
set_option maxHeartbeats 4000000 in
set_option maxRecDepth 100000 in
theorem lp_S_pickInDistrict_8 {p : Program} {l : Launch} {e : Env} {s : State} {m : MethodId} {args : Array Value} {below : List Frame} {meth : Method} {c : Code} (hx : p.tables.exec = Jvm.exec) (hb : c.code = b_S_pickInDistrict) (hr : meth.sig.returnType = (some .int)) (hts : ∀ w ∈ ALL, w.before args s = true) (hown : s.vm.findClass R_S = some m.cls) (hlocks : meth.locks = false) (hml : c.maxLocals = 7)  : ∀ (n : Nat), ∀ (x0 : Int32) (x1 : Int32) (x2 : Int32) (x3 : Int32) (x4 : Int32) (x5 : Int32)  (r0 : Int32), Fl_S_pickInDistrict_8  n x0 x1 x2 x3 x4 x5 = some r0 → ∀ (H : Heap) (locs : List Loc) (ls : Array Slot), va_S (fun _ => True) s.heap H locs → H = s.heap → (∀ q ∈ locs, (fun _ => False) q.base) → lv_has ls 7 [(0, .int x0), (1, .int x1), (2, .int x2), (3, .int x3), (4, .int x4), (5, .int x5)] → W p l e ({ frames := 0, cells := 0, slots := 0, locals := 0 } : Room) s m args below meth c H locs 0 0 (MQ below (vp_Si (fun r => r = r0)) args s 0 0 (fun _ => False)) (F0 m 8 ls []) := by
  intro n
  induction n with
  | zero => intro x0 x1 x2 x3 x4 x5 r0 hF; rw [Fl_S_pickInDistrict_8] at hF; cases hF
  | succ n ih =>
    intro x0 x1 x2 x3 x4 x5 r0 hF H locs ls hS hH hN hl
    rw [Fl_S_pickInDistrict_8] at hF
    refine lv_iload hx hb d_S_pickInDistrict_8 (lv_at hl 5 rfl) ?_
    refine lv_iconst (v := 3) hx hb d_S_pickInDistrict_10 (by decide) ?_
    refine lv_icmp_ge (tgt := 57) hx hb d_S_pickInDistrict_11 (by decide) (fun h1 => ?_) (fun h1 => ?_)
    · have hF := it_t hF h1
      exact jn_S_pickInDistrict_57 hx hb hr hts hown hlocks hml  x3 x4  r0 hF _ _ _ hS hH hN (lv_sub hl [3, 4] rfl)
    · have hF := it_f hF h1
      refine lv_iload hx hb d_S_pickInDistrict_14 (lv_at hl 4 rfl) ?_
      refine lv_iconst (v := 2) hx hb d_S_pickInDistrict_16 (by decide) ?_
      refine lv_icmp_ge (tgt := 57) hx hb d_S_pickInDistrict_17 (by decide) (fun h3 => ?_) (fun h3 => ?_)
      · have hF := it_t hF h3
        exact jn_S_pickInDistrict_57 hx hb hr hts hown hlocks hml  x3 x4  r0 hF _ _ _ hS hH hN (lv_sub hl [3, 4] rfl)
      · have hF := it_f hF h3
        refine lv_iconst (v := 3) hx hb d_S_pickInDistrict_20 (by decide) ?_
        refine lv_iload_n hx hb d_S_pickInDistrict_21 rfl (lv_at hl 1 rfl) ?_
        refine lv_imul hx hb d_S_pickInDistrict_22 ?_
        refine lv_iload_n hx hb d_S_pickInDistrict_23 rfl (lv_at hl 2 rfl) ?_
        refine lv_iload hx hb d_S_pickInDistrict_24 (lv_at hl 5 rfl) ?_
        refine lv_iadd hx hb d_S_pickInDistrict_26 ?_
        refine lv_iconst (v := 3) hx hb d_S_pickInDistrict_27 (by decide) ?_
        refine lv_irem hx hb d_S_pickInDistrict_28 (by decide) ?_
        refine lv_iadd hx hb d_S_pickInDistrict_29 ?_
        refine lv_topi (fun vv4 h5 => ?_)
        have hF := nm_q hF h5
        refine lv_istore (lv' := [(6, .int vv4), (0, .int x0), (1, .int x1), (2, .int x2), (3, .int x3), (4, .int x4), (5, .int x5)]) hx hb d_S_pickInDistrict_30 hl (by decide) rfl (fun ls hl => ?_)
        refine lv_iload_n hx hb d_S_pickInDistrict_32 rfl (lv_at hl 1 rfl) ?_
        refine lv_iload hx hb d_S_pickInDistrict_33 (lv_at hl 0 rfl) ?_
        refine lv_ishr hx hb d_S_pickInDistrict_35 ?_
        refine lv_iconst (v := 1) hx hb d_S_pickInDistrict_36 (by decide) ?_
        refine lv_iand hx hb d_S_pickInDistrict_37 ?_
        refine lv_if_eq (tgt := 51) hx hb d_S_pickInDistrict_38 (by decide) (fun h6 => ?_) (fun h6 => ?_)
        · have hF := it_t hF h6
          refine lv_iinc (k := 6) (v := (x5 + 1)) (lv' := [(5, .int (x5 + 1)), (6, .int vv4), (0, .int x0), (1, .int x1), (2, .int x2), (3, .int x3), (4, .int x4)]) hx hb d_S_pickInDistrict_51 hl rfl rfl (by decide) rfl (fun ls hl => ?_)
          refine lv_goto (tgt := 8) hx hb d_S_pickInDistrict_54 (by decide) ?_
          exact ih x0 x1 x2 x3 x4 (x5 + 1)  r0 hF _ _ _ hS hH hN (lv_sub hl [2, 3, 4, 5, 6, 0] rfl)
        · have hF := it_f hF h6
          refine lv_iload_n hx hb d_S_pickInDistrict_41 rfl (lv_at hl 4 rfl) ?_
          refine lv_iconst (v := 1) hx hb d_S_pickInDistrict_42 (by decide) ?_
          refine lv_iload hx hb d_S_pickInDistrict_43 (lv_at hl 0 rfl) ?_
          refine lv_ishl hx hb d_S_pickInDistrict_45 ?_
          refine lv_ior hx hb d_S_pickInDistrict_46 ?_
          refine lv_istore_n (lv' := [(3, .int (x3 ||| (1 <<< (vv4 &&& 31)))), (6, .int vv4), (0, .int x0), (1, .int x1), (2, .int x2), (4, .int x4), (5, .int x5)]) hx hb d_S_pickInDistrict_47 rfl hl (by decide) rfl (fun ls hl => ?_)
          refine lv_iinc (k := 5) (v := (x4 + 1)) (lv' := [(4, .int (x4 + 1)), (3, .int (x3 ||| (1 <<< (vv4 &&& 31)))), (6, .int vv4), (0, .int x0), (1, .int x1), (2, .int x2), (5, .int x5)]) hx hb d_S_pickInDistrict_48 hl rfl rfl (by decide) rfl (fun ls hl => ?_)
          refine lv_iinc (k := 6) (v := (x5 + 1)) (lv' := [(5, .int (x5 + 1)), (4, .int (x4 + 1)), (3, .int (x3 ||| (1 <<< (vv4 &&& 31)))), (6, .int vv4), (0, .int x0), (1, .int x1), (2, .int x2)]) hx hb d_S_pickInDistrict_51 hl rfl rfl (by decide) rfl (fun ls hl => ?_)
          refine lv_goto (tgt := 8) hx hb d_S_pickInDistrict_54 (by decide) ?_
          exact ih x0 x1 x2 (x3 ||| (1 <<< (vv4 &&& 31))) (x4 + 1) (x5 + 1)  r0 hF _ _ _ hS hH hN (lv_sub hl [4, 5, 6, 2, 1, 0] rfl)
set_option maxHeartbeats 4000000 in
set_option maxRecDepth 100000 in
theorem c_S_pickInDistrict (l : Launch) {a1 : Int32} {a2 : Int32} {a3 : Int32} {r0 : Int32}  (hF : F_S_pickInDistrict  a1 a2 a3 = some r0) : Met l y_S_pickInDistrict ws_S_pickInDistrict ({ frames := 0, cells := 0, slots := 0, locals := 0 } : Room) (va_Pc [.int a1, .int a2, .int a3] (fun _ => True)) (vp_Si (fun r => r = r0)) 0 0 (fun _ => False) := by
  refine Met.ofW (cc := b_S_pickInDistrict) (maxL := 7) (ret := (some .int)) (by decide +kernel) rfl ?_
  intro p e s m args below meth c s₁ B hml hv
  obtain ⟨rfl, -⟩ := hv
  have hx := B.exec
  have hb := B.bytes
  have hr := B.returns
  have hts : ∀ w ∈ ALL, w.before _ s = true := fun w h => atoms_spec (ws := ws_S_pickInDistrict) B.pre w (List.mem_cons_of_mem _ h)
  have hown : s.vm.findClass R_S = some m.cls := findClass_of_methodNamed B.named
  have hlocks := B.notSynchronized
  have hS : va_S (fun _ => True) s.heap s.heap [] := va_S.rf
  have hN : ∀ q ∈ ([] : List Loc), (fun _ => False) q.base := fun _ h => absurd h List.not_mem_nil
  have hl := lv_entry ([.int a1, .int a2, .int a3]) (n := 7) (Nat.le_of_ble_eq_true rfl)
  rw [lg_entry_eq]
  generalize (lg_sl ([.int a1, .int a2, .int a3]) ++ List.replicate (7 - (lg_sl ([.int a1, .int a2, .int a3])).length) Slot.unset).toArray = ls at hl ⊢
  have hl : lv_has ls 7 [(0, .int a1), (1, .int a2), (2, .int a3)] := hl
  have hH : s.heap = s.heap := rfl
  unfold F_S_pickInDistrict at hF
  refine lv_iconst (v := 0) hx hb d_S_pickInDistrict_0 (by decide) ?_
  refine lv_istore_n (lv' := [(3, .int 0), (0, .int a1), (1, .int a2), (2, .int a3)]) hx hb d_S_pickInDistrict_1 rfl hl (by decide) rfl (fun ls hl => ?_)
  refine lv_iconst (v := 0) hx hb d_S_pickInDistrict_2 (by decide) ?_
  refine lv_istore (lv' := [(4, .int 0), (3, .int 0), (0, .int a1), (1, .int a2), (2, .int a3)]) hx hb d_S_pickInDistrict_3 hl (by decide) rfl (fun ls hl => ?_)
  refine lv_iconst (v := 0) hx hb d_S_pickInDistrict_5 (by decide) ?_
  refine lv_istore (lv' := [(5, .int 0), (4, .int 0), (3, .int 0), (0, .int a1), (1, .int a2), (2, .int a3)]) hx hb d_S_pickInDistrict_6 hl (by decide) rfl (fun ls hl => ?_)
  exact lp_S_pickInDistrict_8 hx hb hr hts hown hlocks hml  200 a1 a2 a3 0 0 0  r0 hF _ _ _ hS hH hN (lv_sub hl [3, 4, 5, 2, 1, 0] rfl)
def ws_S_pickInRegion : List Cond := Cond.code y_S_pickInRegion b_S_pickInRegion 7 (some .int) :: ALL
theorem w_S_pickInRegion {R : Room} {s : State} {args : Array Value} {own : String} {index : Nat} (hts : ∀ w ∈ ALL, w.before args s = true) (hlk : Cond.methodLink own index y_S_pickInRegion ∈ ALL) (hR : (({ frames := 1, cells := 0, slots := 0, locals := 26 } : Room)).frames + 1 ≤ R.frames ∧ 8 + (7 + 11) + (({ frames := 1, cells := 0, slots := 0, locals := 26 } : Room)).locals ≤ R.locals) : CallB R s args own index y_S_pickInRegion b_S_pickInRegion 7 (some .int) ws_S_pickInRegion ({ frames := 1, cells := 0, slots := 0, locals := 26 } : Room) 0 0 3 ∧ (Cond.static y_S_pickInRegion).before args s = true := ⟨callB_of 3 hts (good_c a_295) rfl rfl rfl (hts _ a_15) (hts _ hlk) (by decide +kernel) hR, hts _ a_294⟩
theorem d_S_pickInRegion_0 : decode b_S_pickInRegion 0 = .ok (.iconst 0, 1) := by decide +kernel
theorem d_S_pickInRegion_1 : decode b_S_pickInRegion 1 = .ok (.istore_n 3, 1) := by decide +kernel
theorem d_S_pickInRegion_2 : decode b_S_pickInRegion 2 = .ok (.iconst 0, 1) := by decide +kernel
theorem d_S_pickInRegion_3 : decode b_S_pickInRegion 3 = .ok (.istore 4, 2) := by decide +kernel
theorem d_S_pickInRegion_5 : decode b_S_pickInRegion 5 = .ok (.iconst 0, 1) := by decide +kernel
theorem d_S_pickInRegion_6 : decode b_S_pickInRegion 6 = .ok (.istore 5, 2) := by decide +kernel
theorem d_S_pickInRegion_8 : decode b_S_pickInRegion 8 = .ok (.iload 5, 2) := by decide +kernel
theorem d_S_pickInRegion_10 : decode b_S_pickInRegion 10 = .ok (.iconst 3, 1) := by decide +kernel
theorem d_S_pickInRegion_11 : decode b_S_pickInRegion 11 = .ok (.if_icmp .ge 47, 3) := by decide +kernel
theorem d_S_pickInRegion_14 : decode b_S_pickInRegion 14 = .ok (.iload 4, 2) := by decide +kernel
theorem d_S_pickInRegion_16 : decode b_S_pickInRegion 16 = .ok (.iconst 2, 1) := by decide +kernel
theorem d_S_pickInRegion_17 : decode b_S_pickInRegion 17 = .ok (.if_icmp .ge 41, 3) := by decide +kernel
theorem d_S_pickInRegion_20 : decode b_S_pickInRegion 20 = .ok (.iload_n 0, 1) := by decide +kernel
theorem d_S_pickInRegion_21 : decode b_S_pickInRegion 21 = .ok (.iconst 3, 1) := by decide +kernel
theorem d_S_pickInRegion_22 : decode b_S_pickInRegion 22 = .ok (.iload_n 1, 1) := by decide +kernel
theorem d_S_pickInRegion_23 : decode b_S_pickInRegion 23 = .ok (.imul, 1) := by decide +kernel
theorem d_S_pickInRegion_24 : decode b_S_pickInRegion 24 = .ok (.iload_n 2, 1) := by decide +kernel
theorem d_S_pickInRegion_25 : decode b_S_pickInRegion 25 = .ok (.iconst 3, 1) := by decide +kernel
theorem d_S_pickInRegion_26 : decode b_S_pickInRegion 26 = .ok (.idiv, 1) := by decide +kernel
theorem d_S_pickInRegion_27 : decode b_S_pickInRegion 27 = .ok (.iload 5, 2) := by decide +kernel
theorem d_S_pickInRegion_29 : decode b_S_pickInRegion 29 = .ok (.iadd, 1) := by decide +kernel
theorem d_S_pickInRegion_30 : decode b_S_pickInRegion 30 = .ok (.iconst 3, 1) := by decide +kernel
theorem d_S_pickInRegion_31 : decode b_S_pickInRegion 31 = .ok (.irem, 1) := by decide +kernel
theorem d_S_pickInRegion_32 : decode b_S_pickInRegion 32 = .ok (.iadd, 1) := by decide +kernel
theorem d_S_pickInRegion_33 : decode b_S_pickInRegion 33 = .ok (.iload_n 2, 1) := by decide +kernel
theorem d_S_pickInRegion_34 : decode b_S_pickInRegion 34 = .ok (.invokestatic 17, 3) := by decide +kernel
theorem d_S_pickInRegion_37 : decode b_S_pickInRegion 37 = .ok (.istore 6, 2) := by decide +kernel
theorem d_S_pickInRegion_39 : decode b_S_pickInRegion 39 = .ok (.iload 6, 2) := by decide +kernel
theorem d_S_pickInRegion_41 : decode b_S_pickInRegion 41 = .ok (.ifCond .eq 11, 3) := by decide +kernel
theorem d_S_pickInRegion_44 : decode b_S_pickInRegion 44 = .ok (.iload_n 3, 1) := by decide +kernel
theorem d_S_pickInRegion_45 : decode b_S_pickInRegion 45 = .ok (.iload 6, 2) := by decide +kernel
theorem d_S_pickInRegion_47 : decode b_S_pickInRegion 47 = .ok (.ior, 1) := by decide +kernel
theorem d_S_pickInRegion_48 : decode b_S_pickInRegion 48 = .ok (.istore_n 3, 1) := by decide +kernel
theorem d_S_pickInRegion_49 : decode b_S_pickInRegion 49 = .ok (.iinc 4 1, 3) := by decide +kernel
theorem d_S_pickInRegion_52 : decode b_S_pickInRegion 52 = .ok (.iinc 5 1, 3) := by decide +kernel
theorem d_S_pickInRegion_55 : decode b_S_pickInRegion 55 = .ok (.goto (-47), 3) := by decide +kernel
theorem d_S_pickInRegion_58 : decode b_S_pickInRegion 58 = .ok (.iload 4, 2) := by decide +kernel
theorem d_S_pickInRegion_60 : decode b_S_pickInRegion 60 = .ok (.iconst 2, 1) := by decide +kernel
theorem d_S_pickInRegion_61 : decode b_S_pickInRegion 61 = .ok (.if_icmp .ne 7, 3) := by decide +kernel
theorem d_S_pickInRegion_64 : decode b_S_pickInRegion 64 = .ok (.iload_n 3, 1) := by decide +kernel
theorem d_S_pickInRegion_65 : decode b_S_pickInRegion 65 = .ok (.goto 4, 3) := by decide +kernel
theorem d_S_pickInRegion_68 : decode b_S_pickInRegion 68 = .ok (.iconst 0, 1) := by decide +kernel
theorem d_S_pickInRegion_69 : decode b_S_pickInRegion 69 = .ok (.ireturn, 1) := by decide +kernel
def Fj_S_pickInRegion_58  (x3 : Int32) (x4 : Int32) : Option (Int32) := (if x4 = 2 then some x3 else some 0)
def Fl_S_pickInRegion_8  : Nat → Int32 → Int32 → Int32 → Int32 → Int32 → Int32 → Option (Int32)
  | 0, _, _, _, _, _, _ => none
  | n + 1, x0, x1, x2, x3, x4, x5 => (if 3 ≤ x5 then Fj_S_pickInRegion_58  x3 x4 else (if 2 ≤ x4 then Fj_S_pickInRegion_58  x3 x4 else (bs_ (F_S_pickInDistrict x0 ((3 * x1) + (((x2 / 3) + x5) - ((x2 / 3) + x5) / 3 * 3)) x2) fun r4 => (if r4 = 0 then (Fl_S_pickInRegion_8 n) x0 x1 x2 x3 x4 (x5 + 1) else (Fl_S_pickInRegion_8 n) x0 x1 x2 (x3 ||| r4) (x4 + 1) (x5 + 1)))))
def F_S_pickInRegion  (a1 : Int32) (a2 : Int32) (a3 : Int32) : Option (Int32) := Fl_S_pickInRegion_8  200 a1 a2 a3 0 0 0
set_option maxHeartbeats 4000000 in
set_option maxRecDepth 100000 in
theorem jn_S_pickInRegion_58 {p : Program} {l : Launch} {e : Env} {s : State} {m : MethodId} {args : Array Value} {below : List Frame} {meth : Method} {c : Code} (hx : p.tables.exec = Jvm.exec) (hb : c.code = b_S_pickInRegion) (hr : meth.sig.returnType = (some .int)) (hts : ∀ w ∈ ALL, w.before args s = true) (hown : s.vm.findClass R_S = some m.cls) (hlocks : meth.locks = false) (hml : c.maxLocals = 7)  : ∀ (x3 : Int32) (x4 : Int32)  (r0 : Int32), Fj_S_pickInRegion_58  x3 x4 = some r0 → ∀ (H : Heap) (locs : List Loc) (ls : Array Slot), va_S (fun _ => True) s.heap H locs → H = s.heap → (∀ q ∈ locs, (fun _ => False) q.base) → lv_has ls 7 [(3, .int x3), (4, .int x4)] → W p l e ({ frames := 1, cells := 0, slots := 0, locals := 26 } : Room) s m args below meth c H locs 0 0 (MQ below (vp_Si (fun r => r = r0)) args s 0 0 (fun _ => False)) (F0 m 58 ls []) := by
  intro x3 x4 r0 hF H locs ls hS hH hN hl
  unfold Fj_S_pickInRegion_58 at hF
  refine lv_iload hx hb d_S_pickInRegion_58 (lv_at hl 1 rfl) ?_
  refine lv_iconst (v := 2) hx hb d_S_pickInRegion_60 (by decide) ?_
  refine lv_icmp_ne (tgt := 68) hx hb d_S_pickInRegion_61 (by decide) (fun h2 => ?_) (fun h2 => ?_)
  · have hF := it_f hF h2
    refine lv_iconst (v := 0) hx hb d_S_pickInRegion_68 (by decide) ?_
    have hF := rt1 hF
    subst hF
    exact W.iret (v := 0) hx hb hr (fun t ht hW => ⟨_, rfl, rfl, ht.trans hH⟩) hN d_S_pickInRegion_69
  · have hF := it_t hF h2
    refine lv_iload_n hx hb d_S_pickInRegion_64 rfl (lv_at hl 0 rfl) ?_
    refine lv_goto (tgt := 69) hx hb d_S_pickInRegion_65 (by decide) ?_
    have hF := rt1 hF
    subst hF
    exact W.iret (v := x3) hx hb hr (fun t ht hW => ⟨_, rfl, rfl, ht.trans hH⟩) hN d_S_pickInRegion_69
set_option maxHeartbeats 4000000 in
set_option maxRecDepth 100000 in
theorem lp_S_pickInRegion_8 {p : Program} {l : Launch} {e : Env} {s : State} {m : MethodId} {args : Array Value} {below : List Frame} {meth : Method} {c : Code} (hx : p.tables.exec = Jvm.exec) (hb : c.code = b_S_pickInRegion) (hr : meth.sig.returnType = (some .int)) (hts : ∀ w ∈ ALL, w.before args s = true) (hown : s.vm.findClass R_S = some m.cls) (hlocks : meth.locks = false) (hml : c.maxLocals = 7)  : ∀ (n : Nat), ∀ (x0 : Int32) (x1 : Int32) (x2 : Int32) (x3 : Int32) (x4 : Int32) (x5 : Int32)  (r0 : Int32), Fl_S_pickInRegion_8  n x0 x1 x2 x3 x4 x5 = some r0 → ∀ (H : Heap) (locs : List Loc) (ls : Array Slot), va_S (fun _ => True) s.heap H locs → H = s.heap → (∀ q ∈ locs, (fun _ => False) q.base) → lv_has ls 7 [(0, .int x0), (1, .int x1), (2, .int x2), (3, .int x3), (4, .int x4), (5, .int x5)] → W p l e ({ frames := 1, cells := 0, slots := 0, locals := 26 } : Room) s m args below meth c H locs 0 0 (MQ below (vp_Si (fun r => r = r0)) args s 0 0 (fun _ => False)) (F0 m 8 ls []) := by
  intro n
  induction n with
  | zero => intro x0 x1 x2 x3 x4 x5 r0 hF; rw [Fl_S_pickInRegion_8] at hF; cases hF
  | succ n ih =>
    intro x0 x1 x2 x3 x4 x5 r0 hF H locs ls hS hH hN hl
    rw [Fl_S_pickInRegion_8] at hF
    refine lv_iload hx hb d_S_pickInRegion_8 (lv_at hl 5 rfl) ?_
    refine lv_iconst (v := 3) hx hb d_S_pickInRegion_10 (by decide) ?_
    refine lv_icmp_ge (tgt := 58) hx hb d_S_pickInRegion_11 (by decide) (fun h1 => ?_) (fun h1 => ?_)
    · have hF := it_t hF h1
      exact jn_S_pickInRegion_58 hx hb hr hts hown hlocks hml  x3 x4  r0 hF _ _ _ hS hH hN (lv_sub hl [3, 4] rfl)
    · have hF := it_f hF h1
      refine lv_iload hx hb d_S_pickInRegion_14 (lv_at hl 4 rfl) ?_
      refine lv_iconst (v := 2) hx hb d_S_pickInRegion_16 (by decide) ?_
      refine lv_icmp_ge (tgt := 58) hx hb d_S_pickInRegion_17 (by decide) (fun h3 => ?_) (fun h3 => ?_)
      · have hF := it_t hF h3
        exact jn_S_pickInRegion_58 hx hb hr hts hown hlocks hml  x3 x4  r0 hF _ _ _ hS hH hN (lv_sub hl [3, 4] rfl)
      · have hF := it_f hF h3
        refine lv_iload_n hx hb d_S_pickInRegion_20 rfl (lv_at hl 0 rfl) ?_
        refine lv_iconst (v := 3) hx hb d_S_pickInRegion_21 (by decide) ?_
        refine lv_iload_n hx hb d_S_pickInRegion_22 rfl (lv_at hl 1 rfl) ?_
        refine lv_imul hx hb d_S_pickInRegion_23 ?_
        refine lv_iload_n hx hb d_S_pickInRegion_24 rfl (lv_at hl 2 rfl) ?_
        refine lv_iconst (v := 3) hx hb d_S_pickInRegion_25 (by decide) ?_
        refine lv_idiv hx hb d_S_pickInRegion_26 (by decide) ?_
        refine lv_iload hx hb d_S_pickInRegion_27 (lv_at hl 5 rfl) ?_
        refine lv_iadd hx hb d_S_pickInRegion_29 ?_
        refine lv_iconst (v := 3) hx hb d_S_pickInRegion_30 (by decide) ?_
        refine lv_irem hx hb d_S_pickInRegion_31 (by decide) ?_
        refine lv_iadd hx hb d_S_pickInRegion_32 ?_
        refine lv_iload_n hx hb d_S_pickInRegion_33 rfl (lv_at hl 2 rfl) ?_
        obtain ⟨r4, h5, hF⟩ := bs_u hF
        refine k_sp [.int x0, .int ((3 * x1) + (((x2 / 3) + x5) - ((x2 / 3) + x5) / 3 * 3)), .int x2] [] ⟨hx, hb, hml, hown, hts⟩ (c_S_pickInDistrict l  h5) (w_S_pickInDistrict hts a_296 ⟨Nat.le_of_ble_eq_true rfl, Nat.le_of_ble_eq_true rfl⟩) rfl rfl hl.1 (Nat.le_of_ble_eq_true rfl) ⟨Nat.zero_le _, Nat.zero_le _⟩ d_S_pickInRegion_34 ?_
        refine lv_istore (lv' := [(6, .int r4), (0, .int x0), (1, .int x1), (2, .int x2), (3, .int x3), (4, .int x4), (5, .int x5)]) hx hb d_S_pickInRegion_37 hl (by decide) rfl (fun ls hl => ?_)
        refine lv_iload hx hb d_S_pickInRegion_39 (lv_at hl 0 rfl) ?_
        refine lv_if_eq (tgt := 52) hx hb d_S_pickInRegion_41 (by decide) (fun h6 => ?_) (fun h6 => ?_)
        · have hF := it_t hF h6
          refine lv_iinc (k := 6) (v := (x5 + 1)) (lv' := [(5, .int (x5 + 1)), (6, .int r4), (0, .int x0), (1, .int x1), (2, .int x2), (3, .int x3), (4, .int x4)]) hx hb d_S_pickInRegion_52 hl rfl rfl (by decide) rfl (fun ls hl => ?_)
          refine lv_goto (tgt := 8) hx hb d_S_pickInRegion_55 (by decide) ?_
          exact ih x0 x1 x2 x3 x4 (x5 + 1)  r0 hF _ _ _ hS hH hN (lv_sub hl [2, 3, 4, 5, 6, 0] rfl)
        · have hF := it_f hF h6
          refine lv_iload_n hx hb d_S_pickInRegion_44 rfl (lv_at hl 4 rfl) ?_
          refine lv_iload hx hb d_S_pickInRegion_45 (lv_at hl 0 rfl) ?_
          refine lv_ior hx hb d_S_pickInRegion_47 ?_
          refine lv_istore_n (lv' := [(3, .int (x3 ||| r4)), (6, .int r4), (0, .int x0), (1, .int x1), (2, .int x2), (4, .int x4), (5, .int x5)]) hx hb d_S_pickInRegion_48 rfl hl (by decide) rfl (fun ls hl => ?_)
          refine lv_iinc (k := 5) (v := (x4 + 1)) (lv' := [(4, .int (x4 + 1)), (3, .int (x3 ||| r4)), (6, .int r4), (0, .int x0), (1, .int x1), (2, .int x2), (5, .int x5)]) hx hb d_S_pickInRegion_49 hl rfl rfl (by decide) rfl (fun ls hl => ?_)
          refine lv_iinc (k := 6) (v := (x5 + 1)) (lv' := [(5, .int (x5 + 1)), (4, .int (x4 + 1)), (3, .int (x3 ||| r4)), (6, .int r4), (0, .int x0), (1, .int x1), (2, .int x2)]) hx hb d_S_pickInRegion_52 hl rfl rfl (by decide) rfl (fun ls hl => ?_)
          refine lv_goto (tgt := 8) hx hb d_S_pickInRegion_55 (by decide) ?_
          exact ih x0 x1 x2 (x3 ||| r4) (x4 + 1) (x5 + 1)  r0 hF _ _ _ hS hH hN (lv_sub hl [4, 5, 6, 2, 1, 0] rfl)
set_option maxHeartbeats 4000000 in
set_option maxRecDepth 100000 in
theorem c_S_pickInRegion (l : Launch) {a1 : Int32} {a2 : Int32} {a3 : Int32} {r0 : Int32}  (hF : F_S_pickInRegion  a1 a2 a3 = some r0) : Met l y_S_pickInRegion ws_S_pickInRegion ({ frames := 1, cells := 0, slots := 0, locals := 26 } : Room) (va_Pc [.int a1, .int a2, .int a3] (fun _ => True)) (vp_Si (fun r => r = r0)) 0 0 (fun _ => False) := by
  refine Met.ofW (cc := b_S_pickInRegion) (maxL := 7) (ret := (some .int)) (by decide +kernel) rfl ?_
  intro p e s m args below meth c s₁ B hml hv
  obtain ⟨rfl, -⟩ := hv
  have hx := B.exec
  have hb := B.bytes
  have hr := B.returns
  have hts : ∀ w ∈ ALL, w.before _ s = true := fun w h => atoms_spec (ws := ws_S_pickInRegion) B.pre w (List.mem_cons_of_mem _ h)
  have hown : s.vm.findClass R_S = some m.cls := findClass_of_methodNamed B.named
  have hlocks := B.notSynchronized
  have hS : va_S (fun _ => True) s.heap s.heap [] := va_S.rf
  have hN : ∀ q ∈ ([] : List Loc), (fun _ => False) q.base := fun _ h => absurd h List.not_mem_nil
  have hl := lv_entry ([.int a1, .int a2, .int a3]) (n := 7) (Nat.le_of_ble_eq_true rfl)
  rw [lg_entry_eq]
  generalize (lg_sl ([.int a1, .int a2, .int a3]) ++ List.replicate (7 - (lg_sl ([.int a1, .int a2, .int a3])).length) Slot.unset).toArray = ls at hl ⊢
  have hl : lv_has ls 7 [(0, .int a1), (1, .int a2), (2, .int a3)] := hl
  have hH : s.heap = s.heap := rfl
  unfold F_S_pickInRegion at hF
  refine lv_iconst (v := 0) hx hb d_S_pickInRegion_0 (by decide) ?_
  refine lv_istore_n (lv' := [(3, .int 0), (0, .int a1), (1, .int a2), (2, .int a3)]) hx hb d_S_pickInRegion_1 rfl hl (by decide) rfl (fun ls hl => ?_)
  refine lv_iconst (v := 0) hx hb d_S_pickInRegion_2 (by decide) ?_
  refine lv_istore (lv' := [(4, .int 0), (3, .int 0), (0, .int a1), (1, .int a2), (2, .int a3)]) hx hb d_S_pickInRegion_3 hl (by decide) rfl (fun ls hl => ?_)
  refine lv_iconst (v := 0) hx hb d_S_pickInRegion_5 (by decide) ?_
  refine lv_istore (lv' := [(5, .int 0), (4, .int 0), (3, .int 0), (0, .int a1), (1, .int a2), (2, .int a3)]) hx hb d_S_pickInRegion_6 hl (by decide) rfl (fun ls hl => ?_)
  exact lp_S_pickInRegion_8 hx hb hr hts hown hlocks hml  200 a1 a2 a3 0 0 0  r0 hF _ _ _ hS hH hN (lv_sub hl [3, 4, 5, 2, 1, 0] rfl)
def ws_S_pick : List Cond := Cond.code y_S_pick b_S_pick 6 (some .int) :: ALL
theorem w_S_pick {R : Room} {s : State} {args : Array Value} {own : String} {index : Nat} (hts : ∀ w ∈ ALL, w.before args s = true) (hlk : Cond.methodLink own index y_S_pick ∈ ALL) (hR : (({ frames := 2, cells := 0, slots := 0, locals := 52 } : Room)).frames + 1 ≤ R.frames ∧ 8 + (6 + 11) + (({ frames := 2, cells := 0, slots := 0, locals := 52 } : Room)).locals ≤ R.locals) : CallB R s args own index y_S_pick b_S_pick 6 (some .int) ws_S_pick ({ frames := 2, cells := 0, slots := 0, locals := 52 } : Room) 0 0 2 ∧ (Cond.static y_S_pick).before args s = true := ⟨callB_of 2 hts (good_c a_292) rfl rfl rfl (hts _ a_15) (hts _ hlk) (by decide +kernel) hR, hts _ a_291⟩
theorem d_S_pick_0 : decode b_S_pick 0 = .ok (.iconst 0, 1) := by decide +kernel
theorem d_S_pick_1 : decode b_S_pick 1 = .ok (.istore_n 2, 1) := by decide +kernel
theorem d_S_pick_2 : decode b_S_pick 2 = .ok (.iconst 0, 1) := by decide +kernel
theorem d_S_pick_3 : decode b_S_pick 3 = .ok (.istore_n 3, 1) := by decide +kernel
theorem d_S_pick_4 : decode b_S_pick 4 = .ok (.iconst 0, 1) := by decide +kernel
theorem d_S_pick_5 : decode b_S_pick 5 = .ok (.istore 4, 2) := by decide +kernel
theorem d_S_pick_7 : decode b_S_pick 7 = .ok (.iload 4, 2) := by decide +kernel
theorem d_S_pick_9 : decode b_S_pick 9 = .ok (.iconst 3, 1) := by decide +kernel
theorem d_S_pick_10 : decode b_S_pick 10 = .ok (.if_icmp .ge 43, 3) := by decide +kernel
theorem d_S_pick_13 : decode b_S_pick 13 = .ok (.iload_n 3, 1) := by decide +kernel
theorem d_S_pick_14 : decode b_S_pick 14 = .ok (.iconst 2, 1) := by decide +kernel
theorem d_S_pick_15 : decode b_S_pick 15 = .ok (.if_icmp .ge 38, 3) := by decide +kernel
theorem d_S_pick_18 : decode b_S_pick 18 = .ok (.iload_n 0, 1) := by decide +kernel
theorem d_S_pick_19 : decode b_S_pick 19 = .ok (.iload_n 1, 1) := by decide +kernel
theorem d_S_pick_20 : decode b_S_pick 20 = .ok (.bipush 9, 2) := by decide +kernel
theorem d_S_pick_22 : decode b_S_pick 22 = .ok (.idiv, 1) := by decide +kernel
theorem d_S_pick_23 : decode b_S_pick 23 = .ok (.iload 4, 2) := by decide +kernel
theorem d_S_pick_25 : decode b_S_pick 25 = .ok (.iadd, 1) := by decide +kernel
theorem d_S_pick_26 : decode b_S_pick 26 = .ok (.iconst 3, 1) := by decide +kernel
theorem d_S_pick_27 : decode b_S_pick 27 = .ok (.irem, 1) := by decide +kernel
theorem d_S_pick_28 : decode b_S_pick 28 = .ok (.iload_n 1, 1) := by decide +kernel
theorem d_S_pick_29 : decode b_S_pick 29 = .ok (.invokestatic 13, 3) := by decide +kernel
theorem d_S_pick_32 : decode b_S_pick 32 = .ok (.istore 5, 2) := by decide +kernel
theorem d_S_pick_34 : decode b_S_pick 34 = .ok (.iload 5, 2) := by decide +kernel
theorem d_S_pick_36 : decode b_S_pick 36 = .ok (.ifCond .eq 11, 3) := by decide +kernel
theorem d_S_pick_39 : decode b_S_pick 39 = .ok (.iload_n 2, 1) := by decide +kernel
theorem d_S_pick_40 : decode b_S_pick 40 = .ok (.iload 5, 2) := by decide +kernel
theorem d_S_pick_42 : decode b_S_pick 42 = .ok (.ior, 1) := by decide +kernel
theorem d_S_pick_43 : decode b_S_pick 43 = .ok (.istore_n 2, 1) := by decide +kernel
theorem d_S_pick_44 : decode b_S_pick 44 = .ok (.iinc 3 1, 3) := by decide +kernel
theorem d_S_pick_47 : decode b_S_pick 47 = .ok (.iinc 4 1, 3) := by decide +kernel
theorem d_S_pick_50 : decode b_S_pick 50 = .ok (.goto (-43), 3) := by decide +kernel
theorem d_S_pick_53 : decode b_S_pick 53 = .ok (.iload_n 3, 1) := by decide +kernel
theorem d_S_pick_54 : decode b_S_pick 54 = .ok (.iconst 2, 1) := by decide +kernel
theorem d_S_pick_55 : decode b_S_pick 55 = .ok (.if_icmp .ne 7, 3) := by decide +kernel
theorem d_S_pick_58 : decode b_S_pick 58 = .ok (.iload_n 2, 1) := by decide +kernel
theorem d_S_pick_59 : decode b_S_pick 59 = .ok (.goto 4, 3) := by decide +kernel
theorem d_S_pick_62 : decode b_S_pick 62 = .ok (.iconst 0, 1) := by decide +kernel
theorem d_S_pick_63 : decode b_S_pick 63 = .ok (.ireturn, 1) := by decide +kernel
def Fj_S_pick_53  (x2 : Int32) (x3 : Int32) : Option (Int32) := (if x3 = 2 then some x2 else some 0)
def Fl_S_pick_7  : Nat → Int32 → Int32 → Int32 → Int32 → Int32 → Option (Int32)
  | 0, _, _, _, _, _ => none
  | n + 1, x0, x1, x2, x3, x4 => (if 3 ≤ x4 then Fj_S_pick_53  x2 x3 else (if 2 ≤ x3 then Fj_S_pick_53  x2 x3 else (bs_ (F_S_pickInRegion x0 (((x1 / 9) + x4) - ((x1 / 9) + x4) / 3 * 3) x1) fun r4 => (if r4 = 0 then (Fl_S_pick_7 n) x0 x1 x2 x3 (x4 + 1) else (Fl_S_pick_7 n) x0 x1 (x2 ||| r4) (x3 + 1) (x4 + 1)))))
def F_S_pick  (a1 : Int32) (a2 : Int32) : Option (Int32) := Fl_S_pick_7  200 a1 a2 0 0 0
set_option maxHeartbeats 4000000 in
set_option maxRecDepth 100000 in
theorem jn_S_pick_53 {p : Program} {l : Launch} {e : Env} {s : State} {m : MethodId} {args : Array Value} {below : List Frame} {meth : Method} {c : Code} (hx : p.tables.exec = Jvm.exec) (hb : c.code = b_S_pick) (hr : meth.sig.returnType = (some .int)) (hts : ∀ w ∈ ALL, w.before args s = true) (hown : s.vm.findClass R_S = some m.cls) (hlocks : meth.locks = false) (hml : c.maxLocals = 6)  : ∀ (x2 : Int32) (x3 : Int32)  (r0 : Int32), Fj_S_pick_53  x2 x3 = some r0 → ∀ (H : Heap) (locs : List Loc) (ls : Array Slot), va_S (fun _ => True) s.heap H locs → H = s.heap → (∀ q ∈ locs, (fun _ => False) q.base) → lv_has ls 6 [(2, .int x2), (3, .int x3)] → W p l e ({ frames := 2, cells := 0, slots := 0, locals := 52 } : Room) s m args below meth c H locs 0 0 (MQ below (vp_Si (fun r => r = r0)) args s 0 0 (fun _ => False)) (F0 m 53 ls []) := by
  intro x2 x3 r0 hF H locs ls hS hH hN hl
  unfold Fj_S_pick_53 at hF
  refine lv_iload_n hx hb d_S_pick_53 rfl (lv_at hl 1 rfl) ?_
  refine lv_iconst (v := 2) hx hb d_S_pick_54 (by decide) ?_
  refine lv_icmp_ne (tgt := 62) hx hb d_S_pick_55 (by decide) (fun h2 => ?_) (fun h2 => ?_)
  · have hF := it_f hF h2
    refine lv_iconst (v := 0) hx hb d_S_pick_62 (by decide) ?_
    have hF := rt1 hF
    subst hF
    exact W.iret (v := 0) hx hb hr (fun t ht hW => ⟨_, rfl, rfl, ht.trans hH⟩) hN d_S_pick_63
  · have hF := it_t hF h2
    refine lv_iload_n hx hb d_S_pick_58 rfl (lv_at hl 0 rfl) ?_
    refine lv_goto (tgt := 63) hx hb d_S_pick_59 (by decide) ?_
    have hF := rt1 hF
    subst hF
    exact W.iret (v := x2) hx hb hr (fun t ht hW => ⟨_, rfl, rfl, ht.trans hH⟩) hN d_S_pick_63
set_option maxHeartbeats 4000000 in
set_option maxRecDepth 100000 in
theorem lp_S_pick_7 {p : Program} {l : Launch} {e : Env} {s : State} {m : MethodId} {args : Array Value} {below : List Frame} {meth : Method} {c : Code} (hx : p.tables.exec = Jvm.exec) (hb : c.code = b_S_pick) (hr : meth.sig.returnType = (some .int)) (hts : ∀ w ∈ ALL, w.before args s = true) (hown : s.vm.findClass R_S = some m.cls) (hlocks : meth.locks = false) (hml : c.maxLocals = 6)  : ∀ (n : Nat), ∀ (x0 : Int32) (x1 : Int32) (x2 : Int32) (x3 : Int32) (x4 : Int32)  (r0 : Int32), Fl_S_pick_7  n x0 x1 x2 x3 x4 = some r0 → ∀ (H : Heap) (locs : List Loc) (ls : Array Slot), va_S (fun _ => True) s.heap H locs → H = s.heap → (∀ q ∈ locs, (fun _ => False) q.base) → lv_has ls 6 [(0, .int x0), (1, .int x1), (2, .int x2), (3, .int x3), (4, .int x4)] → W p l e ({ frames := 2, cells := 0, slots := 0, locals := 52 } : Room) s m args below meth c H locs 0 0 (MQ below (vp_Si (fun r => r = r0)) args s 0 0 (fun _ => False)) (F0 m 7 ls []) := by
  intro n
  induction n with
  | zero => intro x0 x1 x2 x3 x4 r0 hF; rw [Fl_S_pick_7] at hF; cases hF
  | succ n ih =>
    intro x0 x1 x2 x3 x4 r0 hF H locs ls hS hH hN hl
    rw [Fl_S_pick_7] at hF
    refine lv_iload hx hb d_S_pick_7 (lv_at hl 4 rfl) ?_
    refine lv_iconst (v := 3) hx hb d_S_pick_9 (by decide) ?_
    refine lv_icmp_ge (tgt := 53) hx hb d_S_pick_10 (by decide) (fun h1 => ?_) (fun h1 => ?_)
    · have hF := it_t hF h1
      exact jn_S_pick_53 hx hb hr hts hown hlocks hml  x2 x3  r0 hF _ _ _ hS hH hN (lv_sub hl [2, 3] rfl)
    · have hF := it_f hF h1
      refine lv_iload_n hx hb d_S_pick_13 rfl (lv_at hl 3 rfl) ?_
      refine lv_iconst (v := 2) hx hb d_S_pick_14 (by decide) ?_
      refine lv_icmp_ge (tgt := 53) hx hb d_S_pick_15 (by decide) (fun h3 => ?_) (fun h3 => ?_)
      · have hF := it_t hF h3
        exact jn_S_pick_53 hx hb hr hts hown hlocks hml  x2 x3  r0 hF _ _ _ hS hH hN (lv_sub hl [2, 3] rfl)
      · have hF := it_f hF h3
        refine lv_iload_n hx hb d_S_pick_18 rfl (lv_at hl 0 rfl) ?_
        refine lv_iload_n hx hb d_S_pick_19 rfl (lv_at hl 1 rfl) ?_
        refine lv_bipush (v := 9) hx hb d_S_pick_20 (by decide) ?_
        refine lv_idiv hx hb d_S_pick_22 (by decide) ?_
        refine lv_iload hx hb d_S_pick_23 (lv_at hl 4 rfl) ?_
        refine lv_iadd hx hb d_S_pick_25 ?_
        refine lv_iconst (v := 3) hx hb d_S_pick_26 (by decide) ?_
        refine lv_irem hx hb d_S_pick_27 (by decide) ?_
        refine lv_iload_n hx hb d_S_pick_28 rfl (lv_at hl 1 rfl) ?_
        obtain ⟨r4, h5, hF⟩ := bs_u hF
        refine k_sp [.int x0, .int (((x1 / 9) + x4) - ((x1 / 9) + x4) / 3 * 3), .int x1] [] ⟨hx, hb, hml, hown, hts⟩ (c_S_pickInRegion l  h5) (w_S_pickInRegion hts a_293 ⟨Nat.le_of_ble_eq_true rfl, Nat.le_of_ble_eq_true rfl⟩) rfl rfl hl.1 (Nat.le_of_ble_eq_true rfl) ⟨Nat.zero_le _, Nat.zero_le _⟩ d_S_pick_29 ?_
        refine lv_istore (lv' := [(5, .int r4), (0, .int x0), (1, .int x1), (2, .int x2), (3, .int x3), (4, .int x4)]) hx hb d_S_pick_32 hl (by decide) rfl (fun ls hl => ?_)
        refine lv_iload hx hb d_S_pick_34 (lv_at hl 0 rfl) ?_
        refine lv_if_eq (tgt := 47) hx hb d_S_pick_36 (by decide) (fun h6 => ?_) (fun h6 => ?_)
        · have hF := it_t hF h6
          refine lv_iinc (k := 5) (v := (x4 + 1)) (lv' := [(4, .int (x4 + 1)), (5, .int r4), (0, .int x0), (1, .int x1), (2, .int x2), (3, .int x3)]) hx hb d_S_pick_47 hl rfl rfl (by decide) rfl (fun ls hl => ?_)
          refine lv_goto (tgt := 7) hx hb d_S_pick_50 (by decide) ?_
          exact ih x0 x1 x2 x3 (x4 + 1)  r0 hF _ _ _ hS hH hN (lv_sub hl [2, 3, 4, 5, 0] rfl)
        · have hF := it_f hF h6
          refine lv_iload_n hx hb d_S_pick_39 rfl (lv_at hl 3 rfl) ?_
          refine lv_iload hx hb d_S_pick_40 (lv_at hl 0 rfl) ?_
          refine lv_ior hx hb d_S_pick_42 ?_
          refine lv_istore_n (lv' := [(2, .int (x2 ||| r4)), (5, .int r4), (0, .int x0), (1, .int x1), (3, .int x3), (4, .int x4)]) hx hb d_S_pick_43 rfl hl (by decide) rfl (fun ls hl => ?_)
          refine lv_iinc (k := 4) (v := (x3 + 1)) (lv' := [(3, .int (x3 + 1)), (2, .int (x2 ||| r4)), (5, .int r4), (0, .int x0), (1, .int x1), (4, .int x4)]) hx hb d_S_pick_44 hl rfl rfl (by decide) rfl (fun ls hl => ?_)
          refine lv_iinc (k := 5) (v := (x4 + 1)) (lv' := [(4, .int (x4 + 1)), (3, .int (x3 + 1)), (2, .int (x2 ||| r4)), (5, .int r4), (0, .int x0), (1, .int x1)]) hx hb d_S_pick_47 hl rfl rfl (by decide) rfl (fun ls hl => ?_)
          refine lv_goto (tgt := 7) hx hb d_S_pick_50 (by decide) ?_
          exact ih x0 x1 (x2 ||| r4) (x3 + 1) (x4 + 1)  r0 hF _ _ _ hS hH hN (lv_sub hl [4, 5, 2, 1, 0] rfl)
set_option maxHeartbeats 4000000 in
set_option maxRecDepth 100000 in
theorem c_S_pick (l : Launch) {a1 : Int32} {a2 : Int32} {r0 : Int32}  (hF : F_S_pick  a1 a2 = some r0) : Met l y_S_pick ws_S_pick ({ frames := 2, cells := 0, slots := 0, locals := 52 } : Room) (va_Pc [.int a1, .int a2] (fun _ => True)) (vp_Si (fun r => r = r0)) 0 0 (fun _ => False) := by
  refine Met.ofW (cc := b_S_pick) (maxL := 6) (ret := (some .int)) (by decide +kernel) rfl ?_
  intro p e s m args below meth c s₁ B hml hv
  obtain ⟨rfl, -⟩ := hv
  have hx := B.exec
  have hb := B.bytes
  have hr := B.returns
  have hts : ∀ w ∈ ALL, w.before _ s = true := fun w h => atoms_spec (ws := ws_S_pick) B.pre w (List.mem_cons_of_mem _ h)
  have hown : s.vm.findClass R_S = some m.cls := findClass_of_methodNamed B.named
  have hlocks := B.notSynchronized
  have hS : va_S (fun _ => True) s.heap s.heap [] := va_S.rf
  have hN : ∀ q ∈ ([] : List Loc), (fun _ => False) q.base := fun _ h => absurd h List.not_mem_nil
  have hl := lv_entry ([.int a1, .int a2]) (n := 6) (Nat.le_of_ble_eq_true rfl)
  rw [lg_entry_eq]
  generalize (lg_sl ([.int a1, .int a2]) ++ List.replicate (6 - (lg_sl ([.int a1, .int a2])).length) Slot.unset).toArray = ls at hl ⊢
  have hl : lv_has ls 6 [(0, .int a1), (1, .int a2)] := hl
  have hH : s.heap = s.heap := rfl
  unfold F_S_pick at hF
  refine lv_iconst (v := 0) hx hb d_S_pick_0 (by decide) ?_
  refine lv_istore_n (lv' := [(2, .int 0), (0, .int a1), (1, .int a2)]) hx hb d_S_pick_1 rfl hl (by decide) rfl (fun ls hl => ?_)
  refine lv_iconst (v := 0) hx hb d_S_pick_2 (by decide) ?_
  refine lv_istore_n (lv' := [(3, .int 0), (2, .int 0), (0, .int a1), (1, .int a2)]) hx hb d_S_pick_3 rfl hl (by decide) rfl (fun ls hl => ?_)
  refine lv_iconst (v := 0) hx hb d_S_pick_4 (by decide) ?_
  refine lv_istore (lv' := [(4, .int 0), (3, .int 0), (2, .int 0), (0, .int a1), (1, .int a2)]) hx hb d_S_pick_5 hl (by decide) rfl (fun ls hl => ?_)
  exact lp_S_pick_7 hx hb hr hts hown hlocks hml  200 a1 a2 0 0 0  r0 hF _ _ _ hS hH hN (lv_sub hl [3, 4, 2, 1, 0] rfl)
def ws_S_isQuorum : List Cond := Cond.code y_S_isQuorum b_S_isQuorum 1 (some .boolean) :: ALL
theorem w_S_isQuorum {R : Room} {s : State} {args : Array Value} {own : String} {index : Nat} (hts : ∀ w ∈ ALL, w.before args s = true) (hlk : Cond.methodLink own index y_S_isQuorum ∈ ALL) (hR : (({ frames := 3, cells := 0, slots := 0, locals := 77 } : Room)).frames + 1 ≤ R.frames ∧ 8 + (1 + 11) + (({ frames := 3, cells := 0, slots := 0, locals := 77 } : Room)).locals ≤ R.locals) : CallB R s args own index y_S_isQuorum b_S_isQuorum 1 (some .boolean) ws_S_isQuorum ({ frames := 3, cells := 0, slots := 0, locals := 77 } : Room) 0 0 1 ∧ (Cond.static y_S_isQuorum).before args s = true := ⟨callB_of 1 hts (good_c a_289) rfl rfl rfl (hts _ a_15) (hts _ hlk) (by decide +kernel) hR, hts _ a_288⟩
theorem d_S_isQuorum_0 : decode b_S_isQuorum 0 = .ok (.iload_n 0, 1) := by decide +kernel
theorem d_S_isQuorum_1 : decode b_S_isQuorum 1 = .ok (.iconst 0, 1) := by decide +kernel
theorem d_S_isQuorum_2 : decode b_S_isQuorum 2 = .ok (.invokestatic 7, 3) := by decide +kernel
theorem d_S_isQuorum_5 : decode b_S_isQuorum 5 = .ok (.ifCond .eq 7, 3) := by decide +kernel
theorem d_S_isQuorum_8 : decode b_S_isQuorum 8 = .ok (.iconst 1, 1) := by decide +kernel
theorem d_S_isQuorum_9 : decode b_S_isQuorum 9 = .ok (.goto 4, 3) := by decide +kernel
theorem d_S_isQuorum_12 : decode b_S_isQuorum 12 = .ok (.iconst 0, 1) := by decide +kernel
theorem d_S_isQuorum_13 : decode b_S_isQuorum 13 = .ok (.ireturn, 1) := by decide +kernel
def F_S_isQuorum  (a1 : Int32) : Option (Int32) := (bs_ (F_S_pick a1 0) fun r1 => (if r1 = 0 then some 0 else some 1))
set_option maxHeartbeats 4000000 in
set_option maxRecDepth 100000 in
theorem c_S_isQuorum (l : Launch) {a1 : Int32} {r0 : Int32}  (hF : F_S_isQuorum  a1 = some r0) : Met l y_S_isQuorum ws_S_isQuorum ({ frames := 3, cells := 0, slots := 0, locals := 77 } : Room) (va_Pc [.int a1] (fun _ => True)) (vp_Si (fun r => r = r0)) 0 0 (fun _ => False) := by
  refine Met.ofW (cc := b_S_isQuorum) (maxL := 1) (ret := (some .boolean)) (by decide +kernel) rfl ?_
  intro p e s m args below meth c s₁ B hml hv
  obtain ⟨rfl, -⟩ := hv
  have hx := B.exec
  have hb := B.bytes
  have hr := B.returns
  have hts : ∀ w ∈ ALL, w.before _ s = true := fun w h => atoms_spec (ws := ws_S_isQuorum) B.pre w (List.mem_cons_of_mem _ h)
  have hown : s.vm.findClass R_S = some m.cls := findClass_of_methodNamed B.named
  have hlocks := B.notSynchronized
  have hS : va_S (fun _ => True) s.heap s.heap [] := va_S.rf
  have hN : ∀ q ∈ ([] : List Loc), (fun _ => False) q.base := fun _ h => absurd h List.not_mem_nil
  have hl := lv_entry ([.int a1]) (n := 1) (Nat.le_of_ble_eq_true rfl)
  rw [lg_entry_eq]
  generalize (lg_sl ([.int a1]) ++ List.replicate (1 - (lg_sl ([.int a1])).length) Slot.unset).toArray = ls at hl ⊢
  have hl : lv_has ls 1 [(0, .int a1)] := hl
  have hH : s.heap = s.heap := rfl
  unfold F_S_isQuorum at hF
  refine lv_iload_n hx hb d_S_isQuorum_0 rfl (lv_at hl 0 rfl) ?_
  refine lv_iconst (v := 0) hx hb d_S_isQuorum_1 (by decide) ?_
  obtain ⟨r1, h2, hF⟩ := bs_u hF
  refine k_sp [.int a1, .int 0] [] ⟨hx, hb, hml, hown, hts⟩ (c_S_pick l  h2) (w_S_pick hts a_290 ⟨Nat.le_of_ble_eq_true rfl, Nat.le_of_ble_eq_true rfl⟩) rfl rfl hl.1 (Nat.le_of_ble_eq_true rfl) ⟨Nat.zero_le _, Nat.zero_le _⟩ d_S_isQuorum_2 ?_
  refine lv_if_eq (tgt := 12) hx hb d_S_isQuorum_5 (by decide) (fun h3 => ?_) (fun h3 => ?_)
  · have hF := it_t hF h3
    refine lv_iconst (v := 0) hx hb d_S_isQuorum_12 (by decide) ?_
    have hF := rt1 hF
    subst hF
    exact W.zret (v := 0) hx hb hr rfl (fun t ht hW => ⟨_, rfl, rfl, ht.trans hH⟩) hN d_S_isQuorum_13
  · have hF := it_f hF h3
    refine lv_iconst (v := 1) hx hb d_S_isQuorum_8 (by decide) ?_
    refine lv_goto (tgt := 13) hx hb d_S_isQuorum_9 (by decide) ?_
    have hF := rt1 hF
    subst hF
    exact W.zret (v := 1) hx hb hr rfl (fun t ht hW => ⟨_, rfl, rfl, ht.trans hH⟩) hN d_S_isQuorum_13
def ws_S_areNeighbours : List Cond := Cond.code y_S_areNeighbours b_S_areNeighbours 3 (some .boolean) :: ALL
theorem w_S_areNeighbours {R : Room} {s : State} {args : Array Value} {own : String} {index : Nat} (hts : ∀ w ∈ ALL, w.before args s = true) (hlk : Cond.methodLink own index y_S_areNeighbours ∈ ALL) (hR : (({ frames := 0, cells := 0, slots := 0, locals := 0 } : Room)).frames + 1 ≤ R.frames ∧ 8 + (3 + 11) + (({ frames := 0, cells := 0, slots := 0, locals := 0 } : Room)).locals ≤ R.locals) : CallB R s args own index y_S_areNeighbours b_S_areNeighbours 3 (some .boolean) ws_S_areNeighbours ({ frames := 0, cells := 0, slots := 0, locals := 0 } : Room) 0 0 2 ∧ (Cond.static y_S_areNeighbours).before args s = true := ⟨callB_of 2 hts (good_c a_491) rfl rfl rfl (hts _ a_15) (hts _ hlk) (by decide +kernel) hR, hts _ a_490⟩
theorem d_S_areNeighbours_0 : decode b_S_areNeighbours 0 = .ok (.iconst 0, 1) := by decide +kernel
theorem d_S_areNeighbours_1 : decode b_S_areNeighbours 1 = .ok (.istore_n 2, 1) := by decide +kernel
theorem d_S_areNeighbours_2 : decode b_S_areNeighbours 2 = .ok (.iload_n 2, 1) := by decide +kernel
theorem d_S_areNeighbours_3 : decode b_S_areNeighbours 3 = .ok (.iload_n 0, 1) := by decide +kernel
theorem d_S_areNeighbours_4 : decode b_S_areNeighbours 4 = .ok (.iconst 3, 1) := by decide +kernel
theorem d_S_areNeighbours_5 : decode b_S_areNeighbours 5 = .ok (.irem, 1) := by decide +kernel
theorem d_S_areNeighbours_6 : decode b_S_areNeighbours 6 = .ok (.iload_n 1, 1) := by decide +kernel
theorem d_S_areNeighbours_7 : decode b_S_areNeighbours 7 = .ok (.iconst 3, 1) := by decide +kernel
theorem d_S_areNeighbours_8 : decode b_S_areNeighbours 8 = .ok (.irem, 1) := by decide +kernel
theorem d_S_areNeighbours_9 : decode b_S_areNeighbours 9 = .ok (.if_icmp .eq 7, 3) := by decide +kernel
theorem d_S_areNeighbours_12 : decode b_S_areNeighbours 12 = .ok (.iconst 1, 1) := by decide +kernel
theorem d_S_areNeighbours_13 : decode b_S_areNeighbours 13 = .ok (.goto 4, 3) := by decide +kernel
theorem d_S_areNeighbours_16 : decode b_S_areNeighbours 16 = .ok (.iconst 0, 1) := by decide +kernel
theorem d_S_areNeighbours_17 : decode b_S_areNeighbours 17 = .ok (.iadd, 1) := by decide +kernel
theorem d_S_areNeighbours_18 : decode b_S_areNeighbours 18 = .ok (.istore_n 2, 1) := by decide +kernel
theorem d_S_areNeighbours_19 : decode b_S_areNeighbours 19 = .ok (.iload_n 2, 1) := by decide +kernel
theorem d_S_areNeighbours_20 : decode b_S_areNeighbours 20 = .ok (.iload_n 0, 1) := by decide +kernel
theorem d_S_areNeighbours_21 : decode b_S_areNeighbours 21 = .ok (.iconst 3, 1) := by decide +kernel
theorem d_S_areNeighbours_22 : decode b_S_areNeighbours 22 = .ok (.idiv, 1) := by decide +kernel
theorem d_S_areNeighbours_23 : decode b_S_areNeighbours 23 = .ok (.iconst 3, 1) := by decide +kernel
theorem d_S_areNeighbours_24 : decode b_S_areNeighbours 24 = .ok (.irem, 1) := by decide +kernel
theorem d_S_areNeighbours_25 : decode b_S_areNeighbours 25 = .ok (.iload_n 1, 1) := by decide +kernel
theorem d_S_areNeighbours_26 : decode b_S_areNeighbours 26 = .ok (.iconst 3, 1) := by decide +kernel
theorem d_S_areNeighbours_27 : decode b_S_areNeighbours 27 = .ok (.idiv, 1) := by decide +kernel
theorem d_S_areNeighbours_28 : decode b_S_areNeighbours 28 = .ok (.iconst 3, 1) := by decide +kernel
theorem d_S_areNeighbours_29 : decode b_S_areNeighbours 29 = .ok (.irem, 1) := by decide +kernel
theorem d_S_areNeighbours_30 : decode b_S_areNeighbours 30 = .ok (.if_icmp .eq 7, 3) := by decide +kernel
theorem d_S_areNeighbours_33 : decode b_S_areNeighbours 33 = .ok (.iconst 1, 1) := by decide +kernel
theorem d_S_areNeighbours_34 : decode b_S_areNeighbours 34 = .ok (.goto 4, 3) := by decide +kernel
theorem d_S_areNeighbours_37 : decode b_S_areNeighbours 37 = .ok (.iconst 0, 1) := by decide +kernel
theorem d_S_areNeighbours_38 : decode b_S_areNeighbours 38 = .ok (.iadd, 1) := by decide +kernel
theorem d_S_areNeighbours_39 : decode b_S_areNeighbours 39 = .ok (.istore_n 2, 1) := by decide +kernel
theorem d_S_areNeighbours_40 : decode b_S_areNeighbours 40 = .ok (.iload_n 2, 1) := by decide +kernel
theorem d_S_areNeighbours_41 : decode b_S_areNeighbours 41 = .ok (.iload_n 0, 1) := by decide +kernel
theorem d_S_areNeighbours_42 : decode b_S_areNeighbours 42 = .ok (.bipush 9, 2) := by decide +kernel
theorem d_S_areNeighbours_44 : decode b_S_areNeighbours 44 = .ok (.idiv, 1) := by decide +kernel
theorem d_S_areNeighbours_45 : decode b_S_areNeighbours 45 = .ok (.iload_n 1, 1) := by decide +kernel
theorem d_S_areNeighbours_46 : decode b_S_areNeighbours 46 = .ok (.bipush 9, 2) := by decide +kernel
theorem d_S_areNeighbours_48 : decode b_S_areNeighbours 48 = .ok (.idiv, 1) := by decide +kernel
theorem d_S_areNeighbours_49 : decode b_S_areNeighbours 49 = .ok (.if_icmp .eq 7, 3) := by decide +kernel
theorem d_S_areNeighbours_52 : decode b_S_areNeighbours 52 = .ok (.iconst 1, 1) := by decide +kernel
theorem d_S_areNeighbours_53 : decode b_S_areNeighbours 53 = .ok (.goto 4, 3) := by decide +kernel
theorem d_S_areNeighbours_56 : decode b_S_areNeighbours 56 = .ok (.iconst 0, 1) := by decide +kernel
theorem d_S_areNeighbours_57 : decode b_S_areNeighbours 57 = .ok (.iadd, 1) := by decide +kernel
theorem d_S_areNeighbours_58 : decode b_S_areNeighbours 58 = .ok (.istore_n 2, 1) := by decide +kernel
theorem d_S_areNeighbours_59 : decode b_S_areNeighbours 59 = .ok (.iload_n 2, 1) := by decide +kernel
theorem d_S_areNeighbours_60 : decode b_S_areNeighbours 60 = .ok (.iconst 1, 1) := by decide +kernel
theorem d_S_areNeighbours_61 : decode b_S_areNeighbours 61 = .ok (.if_icmp .ne 7, 3) := by decide +kernel
theorem d_S_areNeighbours_64 : decode b_S_areNeighbours 64 = .ok (.iconst 1, 1) := by decide +kernel
theorem d_S_areNeighbours_65 : decode b_S_areNeighbours 65 = .ok (.goto 4, 3) := by decide +kernel
theorem d_S_areNeighbours_68 : decode b_S_areNeighbours 68 = .ok (.iconst 0, 1) := by decide +kernel
theorem d_S_areNeighbours_69 : decode b_S_areNeighbours 69 = .ok (.ireturn, 1) := by decide +kernel
def Fj_S_areNeighbours_38  (x0 : Int32) (x1 : Int32) (w0 : Int32) (w1 : Int32) : Option (Int32) := (if (x0 / 9) = (x1 / 9) then (if ((w1 + w0) + 0) = 1 then some 1 else some 0) else (if ((w1 + w0) + 1) = 1 then some 1 else some 0))
def Fj_S_areNeighbours_17  (x0 : Int32) (x1 : Int32) (w0 : Int32) (w1 : Int32) : Option (Int32) := (if ((x0 / 3) - (x0 / 3) / 3 * 3) = ((x1 / 3) - (x1 / 3) / 3 * 3) then Fj_S_areNeighbours_38  x0 x1 0 (w1 + w0) else Fj_S_areNeighbours_38  x0 x1 1 (w1 + w0))
def F_S_areNeighbours  (a1 : Int32) (a2 : Int32) : Option (Int32) := (if (a1 - a1 / 3 * 3) = (a2 - a2 / 3 * 3) then Fj_S_areNeighbours_17  a1 a2 0 0 else Fj_S_areNeighbours_17  a1 a2 1 0)
set_option maxHeartbeats 4000000 in
set_option maxRecDepth 100000 in
theorem jn_S_areNeighbours_38 {p : Program} {l : Launch} {e : Env} {s : State} {m : MethodId} {args : Array Value} {below : List Frame} {meth : Method} {c : Code} (hx : p.tables.exec = Jvm.exec) (hb : c.code = b_S_areNeighbours) (hr : meth.sig.returnType = (some .boolean)) (hts : ∀ w ∈ ALL, w.before args s = true) (hown : s.vm.findClass R_S = some m.cls) (hlocks : meth.locks = false) (hml : c.maxLocals = 3)  : ∀ (x0 : Int32) (x1 : Int32) (w0 : Int32) (w1 : Int32)  (r0 : Int32), Fj_S_areNeighbours_38  x0 x1 w0 w1 = some r0 → ∀ (H : Heap) (locs : List Loc) (ls : Array Slot), va_S (fun _ => True) s.heap H locs → H = s.heap → (∀ q ∈ locs, (fun _ => False) q.base) → lv_has ls 3 [(0, .int x0), (1, .int x1)] → W p l e ({ frames := 0, cells := 0, slots := 0, locals := 0 } : Room) s m args below meth c H locs 0 0 (MQ below (vp_Si (fun r => r = r0)) args s 0 0 (fun _ => False)) (F0 m 38 ls [.int w0, .int w1]) := by
  intro x0 x1 w0 w1 r0 hF H locs ls hS hH hN hl
  unfold Fj_S_areNeighbours_38 at hF
  refine lv_iadd hx hb d_S_areNeighbours_38 ?_
  refine lv_istore_n (lv' := [(2, .int (w1 + w0)), (0, .int x0), (1, .int x1)]) hx hb d_S_areNeighbours_39 rfl hl (by decide) rfl (fun ls hl => ?_)
  refine lv_iload_n hx hb d_S_areNeighbours_40 rfl (lv_at hl 0 rfl) ?_
  refine lv_iload_n hx hb d_S_areNeighbours_41 rfl (lv_at hl 1 rfl) ?_
  refine lv_bipush (v := 9) hx hb d_S_areNeighbours_42 (by decide) ?_
  refine lv_idiv hx hb d_S_areNeighbours_44 (by decide) ?_
  refine lv_iload_n hx hb d_S_areNeighbours_45 rfl (lv_at hl 2 rfl) ?_
  refine lv_bipush (v := 9) hx hb d_S_areNeighbours_46 (by decide) ?_
  refine lv_idiv hx hb d_S_areNeighbours_48 (by decide) ?_
  refine lv_icmp_eq (tgt := 56) hx hb d_S_areNeighbours_49 (by decide) (fun h3 => ?_) (fun h3 => ?_)
  · have hF := it_t hF h3
    refine lv_iconst (v := 0) hx hb d_S_areNeighbours_56 (by decide) ?_
    refine lv_iadd hx hb d_S_areNeighbours_57 ?_
    refine lv_istore_n (lv' := [(2, .int ((w1 + w0) + 0)), (0, .int x0), (1, .int x1)]) hx hb d_S_areNeighbours_58 rfl hl (by decide) rfl (fun ls hl => ?_)
    refine lv_iload_n hx hb d_S_areNeighbours_59 rfl (lv_at hl 0 rfl) ?_
    refine lv_iconst (v := 1) hx hb d_S_areNeighbours_60 (by decide) ?_
    refine lv_icmp_ne (tgt := 68) hx hb d_S_areNeighbours_61 (by decide) (fun h4 => ?_) (fun h4 => ?_)
    · have hF := it_f hF h4
      refine lv_iconst (v := 0) hx hb d_S_areNeighbours_68 (by decide) ?_
      have hF := rt1 hF
      subst hF
      exact W.zret (v := 0) hx hb hr rfl (fun t ht hW => ⟨_, rfl, rfl, ht.trans hH⟩) hN d_S_areNeighbours_69
    · have hF := it_t hF h4
      refine lv_iconst (v := 1) hx hb d_S_areNeighbours_64 (by decide) ?_
      refine lv_goto (tgt := 69) hx hb d_S_areNeighbours_65 (by decide) ?_
      have hF := rt1 hF
      subst hF
      exact W.zret (v := 1) hx hb hr rfl (fun t ht hW => ⟨_, rfl, rfl, ht.trans hH⟩) hN d_S_areNeighbours_69
  · have hF := it_f hF h3
    refine lv_iconst (v := 1) hx hb d_S_areNeighbours_52 (by decide) ?_
    refine lv_goto (tgt := 57) hx hb d_S_areNeighbours_53 (by decide) ?_
    refine lv_iadd hx hb d_S_areNeighbours_57 ?_
    refine lv_istore_n (lv' := [(2, .int ((w1 + w0) + 1)), (0, .int x0), (1, .int x1)]) hx hb d_S_areNeighbours_58 rfl hl (by decide) rfl (fun ls hl => ?_)
    refine lv_iload_n hx hb d_S_areNeighbours_59 rfl (lv_at hl 0 rfl) ?_
    refine lv_iconst (v := 1) hx hb d_S_areNeighbours_60 (by decide) ?_
    refine lv_icmp_ne (tgt := 68) hx hb d_S_areNeighbours_61 (by decide) (fun h5 => ?_) (fun h5 => ?_)
    · have hF := it_f hF h5
      refine lv_iconst (v := 0) hx hb d_S_areNeighbours_68 (by decide) ?_
      have hF := rt1 hF
      subst hF
      exact W.zret (v := 0) hx hb hr rfl (fun t ht hW => ⟨_, rfl, rfl, ht.trans hH⟩) hN d_S_areNeighbours_69
    · have hF := it_t hF h5
      refine lv_iconst (v := 1) hx hb d_S_areNeighbours_64 (by decide) ?_
      refine lv_goto (tgt := 69) hx hb d_S_areNeighbours_65 (by decide) ?_
      have hF := rt1 hF
      subst hF
      exact W.zret (v := 1) hx hb hr rfl (fun t ht hW => ⟨_, rfl, rfl, ht.trans hH⟩) hN d_S_areNeighbours_69
set_option maxHeartbeats 4000000 in
set_option maxRecDepth 100000 in
theorem jn_S_areNeighbours_17 {p : Program} {l : Launch} {e : Env} {s : State} {m : MethodId} {args : Array Value} {below : List Frame} {meth : Method} {c : Code} (hx : p.tables.exec = Jvm.exec) (hb : c.code = b_S_areNeighbours) (hr : meth.sig.returnType = (some .boolean)) (hts : ∀ w ∈ ALL, w.before args s = true) (hown : s.vm.findClass R_S = some m.cls) (hlocks : meth.locks = false) (hml : c.maxLocals = 3)  : ∀ (x0 : Int32) (x1 : Int32) (w0 : Int32) (w1 : Int32)  (r0 : Int32), Fj_S_areNeighbours_17  x0 x1 w0 w1 = some r0 → ∀ (H : Heap) (locs : List Loc) (ls : Array Slot), va_S (fun _ => True) s.heap H locs → H = s.heap → (∀ q ∈ locs, (fun _ => False) q.base) → lv_has ls 3 [(0, .int x0), (1, .int x1)] → W p l e ({ frames := 0, cells := 0, slots := 0, locals := 0 } : Room) s m args below meth c H locs 0 0 (MQ below (vp_Si (fun r => r = r0)) args s 0 0 (fun _ => False)) (F0 m 17 ls [.int w0, .int w1]) := by
  intro x0 x1 w0 w1 r0 hF H locs ls hS hH hN hl
  unfold Fj_S_areNeighbours_17 at hF
  refine lv_iadd hx hb d_S_areNeighbours_17 ?_
  refine lv_istore_n (lv' := [(2, .int (w1 + w0)), (0, .int x0), (1, .int x1)]) hx hb d_S_areNeighbours_18 rfl hl (by decide) rfl (fun ls hl => ?_)
  refine lv_iload_n hx hb d_S_areNeighbours_19 rfl (lv_at hl 0 rfl) ?_
  refine lv_iload_n hx hb d_S_areNeighbours_20 rfl (lv_at hl 1 rfl) ?_
  refine lv_iconst (v := 3) hx hb d_S_areNeighbours_21 (by decide) ?_
  refine lv_idiv hx hb d_S_areNeighbours_22 (by decide) ?_
  refine lv_iconst (v := 3) hx hb d_S_areNeighbours_23 (by decide) ?_
  refine lv_irem hx hb d_S_areNeighbours_24 (by decide) ?_
  refine lv_iload_n hx hb d_S_areNeighbours_25 rfl (lv_at hl 2 rfl) ?_
  refine lv_iconst (v := 3) hx hb d_S_areNeighbours_26 (by decide) ?_
  refine lv_idiv hx hb d_S_areNeighbours_27 (by decide) ?_
  refine lv_iconst (v := 3) hx hb d_S_areNeighbours_28 (by decide) ?_
  refine lv_irem hx hb d_S_areNeighbours_29 (by decide) ?_
  refine lv_icmp_eq (tgt := 37) hx hb d_S_areNeighbours_30 (by decide) (fun h2 => ?_) (fun h2 => ?_)
  · have hF := it_t hF h2
    refine lv_iconst (v := 0) hx hb d_S_areNeighbours_37 (by decide) ?_
    exact jn_S_areNeighbours_38 hx hb hr hts hown hlocks hml  x0 x1 0 (w1 + w0)  r0 hF _ _ _ hS hH hN (lv_sub hl [1, 2] rfl)
  · have hF := it_f hF h2
    refine lv_iconst (v := 1) hx hb d_S_areNeighbours_33 (by decide) ?_
    refine lv_goto (tgt := 38) hx hb d_S_areNeighbours_34 (by decide) ?_
    exact jn_S_areNeighbours_38 hx hb hr hts hown hlocks hml  x0 x1 1 (w1 + w0)  r0 hF _ _ _ hS hH hN (lv_sub hl [1, 2] rfl)
set_option maxHeartbeats 4000000 in
set_option maxRecDepth 100000 in
theorem c_S_areNeighbours (l : Launch) {a1 : Int32} {a2 : Int32} {r0 : Int32}  (hF : F_S_areNeighbours  a1 a2 = some r0) : Met l y_S_areNeighbours ws_S_areNeighbours ({ frames := 0, cells := 0, slots := 0, locals := 0 } : Room) (va_Pc [.int a1, .int a2] (fun _ => True)) (vp_Si (fun r => r = r0)) 0 0 (fun _ => False) := by
  refine Met.ofW (cc := b_S_areNeighbours) (maxL := 3) (ret := (some .boolean)) (by decide +kernel) rfl ?_
  intro p e s m args below meth c s₁ B hml hv
  obtain ⟨rfl, -⟩ := hv
  have hx := B.exec
  have hb := B.bytes
  have hr := B.returns
  have hts : ∀ w ∈ ALL, w.before _ s = true := fun w h => atoms_spec (ws := ws_S_areNeighbours) B.pre w (List.mem_cons_of_mem _ h)
  have hown : s.vm.findClass R_S = some m.cls := findClass_of_methodNamed B.named
  have hlocks := B.notSynchronized
  have hS : va_S (fun _ => True) s.heap s.heap [] := va_S.rf
  have hN : ∀ q ∈ ([] : List Loc), (fun _ => False) q.base := fun _ h => absurd h List.not_mem_nil
  have hl := lv_entry ([.int a1, .int a2]) (n := 3) (Nat.le_of_ble_eq_true rfl)
  rw [lg_entry_eq]
  generalize (lg_sl ([.int a1, .int a2]) ++ List.replicate (3 - (lg_sl ([.int a1, .int a2])).length) Slot.unset).toArray = ls at hl ⊢
  have hl : lv_has ls 3 [(0, .int a1), (1, .int a2)] := hl
  have hH : s.heap = s.heap := rfl
  unfold F_S_areNeighbours at hF
  refine lv_iconst (v := 0) hx hb d_S_areNeighbours_0 (by decide) ?_
  refine lv_istore_n (lv' := [(2, .int 0), (0, .int a1), (1, .int a2)]) hx hb d_S_areNeighbours_1 rfl hl (by decide) rfl (fun ls hl => ?_)
  refine lv_iload_n hx hb d_S_areNeighbours_2 rfl (lv_at hl 0 rfl) ?_
  refine lv_iload_n hx hb d_S_areNeighbours_3 rfl (lv_at hl 1 rfl) ?_
  refine lv_iconst (v := 3) hx hb d_S_areNeighbours_4 (by decide) ?_
  refine lv_irem hx hb d_S_areNeighbours_5 (by decide) ?_
  refine lv_iload_n hx hb d_S_areNeighbours_6 rfl (lv_at hl 2 rfl) ?_
  refine lv_iconst (v := 3) hx hb d_S_areNeighbours_7 (by decide) ?_
  refine lv_irem hx hb d_S_areNeighbours_8 (by decide) ?_
  refine lv_icmp_eq (tgt := 16) hx hb d_S_areNeighbours_9 (by decide) (fun h1 => ?_) (fun h1 => ?_)
  · have hF := it_t hF h1
    refine lv_iconst (v := 0) hx hb d_S_areNeighbours_16 (by decide) ?_
    exact jn_S_areNeighbours_17 hx hb hr hts hown hlocks hml  a1 a2 0 0  r0 hF _ _ _ hS hH hN (lv_sub hl [1, 2] rfl)
  · have hF := it_f hF h1
    refine lv_iconst (v := 1) hx hb d_S_areNeighbours_12 (by decide) ?_
    refine lv_goto (tgt := 17) hx hb d_S_areNeighbours_13 (by decide) ?_
    exact jn_S_areNeighbours_17 hx hb hr hts hown hlocks hml  a1 a2 1 0  r0 hF _ _ _ hS hH hN (lv_sub hl [1, 2] rfl)
def ws_H_isOffice : List Cond := Cond.code y_H_isOffice b_H_isOffice 1 (some .boolean) :: ALL
theorem w_H_isOffice {R : Room} {s : State} {args : Array Value} {own : String} {index : Nat} (hts : ∀ w ∈ ALL, w.before args s = true) (hlk : Cond.methodLink own index y_H_isOffice ∈ ALL) (hR : (({ frames := 0, cells := 0, slots := 0, locals := 0 } : Room)).frames + 1 ≤ R.frames ∧ 8 + (1 + 11) + (({ frames := 0, cells := 0, slots := 0, locals := 0 } : Room)).locals ≤ R.locals) : CallB R s args own index y_H_isOffice b_H_isOffice 1 (some .boolean) ws_H_isOffice ({ frames := 0, cells := 0, slots := 0, locals := 0 } : Room) 0 0 1 ∧ (Cond.static y_H_isOffice).before args s = true := ⟨callB_of 1 hts (good_c a_224) rfl rfl rfl (hts _ a_1) (hts _ hlk) (by decide +kernel) hR, hts _ a_223⟩
theorem d_H_isOffice_0 : decode b_H_isOffice 0 = .ok (.iload_n 0, 1) := by decide +kernel
theorem d_H_isOffice_1 : decode b_H_isOffice 1 = .ok (.ifCond .lt 13, 3) := by decide +kernel
theorem d_H_isOffice_4 : decode b_H_isOffice 4 = .ok (.iload_n 0, 1) := by decide +kernel
theorem d_H_isOffice_5 : decode b_H_isOffice 5 = .ok (.bipush 27, 2) := by decide +kernel
theorem d_H_isOffice_7 : decode b_H_isOffice 7 = .ok (.if_icmp .ge 7, 3) := by decide +kernel
theorem d_H_isOffice_10 : decode b_H_isOffice 10 = .ok (.iconst 1, 1) := by decide +kernel
theorem d_H_isOffice_11 : decode b_H_isOffice 11 = .ok (.goto 4, 3) := by decide +kernel
theorem d_H_isOffice_14 : decode b_H_isOffice 14 = .ok (.iconst 0, 1) := by decide +kernel
theorem d_H_isOffice_15 : decode b_H_isOffice 15 = .ok (.ireturn, 1) := by decide +kernel
def F_H_isOffice  (a1 : Int32) : Option (Int32) := (if a1 < 0 then some 0 else (if 27 ≤ a1 then some 0 else some 1))
set_option maxHeartbeats 4000000 in
set_option maxRecDepth 100000 in
theorem c_H_isOffice (l : Launch) {a1 : Int32} {r0 : Int32}  (hF : F_H_isOffice  a1 = some r0) : Met l y_H_isOffice ws_H_isOffice ({ frames := 0, cells := 0, slots := 0, locals := 0 } : Room) (va_Pc [.int a1] (fun _ => True)) (vp_Si (fun r => r = r0)) 0 0 (fun _ => False) := by
  refine Met.ofW (cc := b_H_isOffice) (maxL := 1) (ret := (some .boolean)) (by decide +kernel) rfl ?_
  intro p e s m args below meth c s₁ B hml hv
  obtain ⟨rfl, -⟩ := hv
  have hx := B.exec
  have hb := B.bytes
  have hr := B.returns
  have hts : ∀ w ∈ ALL, w.before _ s = true := fun w h => atoms_spec (ws := ws_H_isOffice) B.pre w (List.mem_cons_of_mem _ h)
  have hown : s.vm.findClass R_H = some m.cls := findClass_of_methodNamed B.named
  have hlocks := B.notSynchronized
  have hS : va_S (fun _ => True) s.heap s.heap [] := va_S.rf
  have hN : ∀ q ∈ ([] : List Loc), (fun _ => False) q.base := fun _ h => absurd h List.not_mem_nil
  have hl := lv_entry ([.int a1]) (n := 1) (Nat.le_of_ble_eq_true rfl)
  rw [lg_entry_eq]
  generalize (lg_sl ([.int a1]) ++ List.replicate (1 - (lg_sl ([.int a1])).length) Slot.unset).toArray = ls at hl ⊢
  have hl : lv_has ls 1 [(0, .int a1)] := hl
  have hH : s.heap = s.heap := rfl
  unfold F_H_isOffice at hF
  refine lv_iload_n hx hb d_H_isOffice_0 rfl (lv_at hl 0 rfl) ?_
  refine lv_if_lt (tgt := 14) hx hb d_H_isOffice_1 (by decide) (fun h1 => ?_) (fun h1 => ?_)
  · have hF := it_t hF h1
    refine lv_iconst (v := 0) hx hb d_H_isOffice_14 (by decide) ?_
    have hF := rt1 hF
    subst hF
    exact W.zret (v := 0) hx hb hr rfl (fun t ht hW => ⟨_, rfl, rfl, ht.trans hH⟩) hN d_H_isOffice_15
  · have hF := it_f hF h1
    refine lv_iload_n hx hb d_H_isOffice_4 rfl (lv_at hl 0 rfl) ?_
    refine lv_bipush (v := 27) hx hb d_H_isOffice_5 (by decide) ?_
    refine lv_icmp_ge (tgt := 14) hx hb d_H_isOffice_7 (by decide) (fun h2 => ?_) (fun h2 => ?_)
    · have hF := it_t hF h2
      refine lv_iconst (v := 0) hx hb d_H_isOffice_14 (by decide) ?_
      have hF := rt1 hF
      subst hF
      exact W.zret (v := 0) hx hb hr rfl (fun t ht hW => ⟨_, rfl, rfl, ht.trans hH⟩) hN d_H_isOffice_15
    · have hF := it_f hF h2
      refine lv_iconst (v := 1) hx hb d_H_isOffice_10 (by decide) ?_
      refine lv_goto (tgt := 15) hx hb d_H_isOffice_11 (by decide) ?_
      have hF := rt1 hF
      subst hF
      exact W.zret (v := 1) hx hb hr rfl (fun t ht hW => ⟨_, rfl, rfl, ht.trans hH⟩) hN d_H_isOffice_15
def ws_H_isDay : List Cond := Cond.code y_H_isDay b_H_isDay 1 (some .boolean) :: ALL
theorem w_H_isDay {R : Room} {s : State} {args : Array Value} {own : String} {index : Nat} (hts : ∀ w ∈ ALL, w.before args s = true) (hlk : Cond.methodLink own index y_H_isDay ∈ ALL) (hR : (({ frames := 0, cells := 0, slots := 0, locals := 0 } : Room)).frames + 1 ≤ R.frames ∧ 8 + (1 + 11) + (({ frames := 0, cells := 0, slots := 0, locals := 0 } : Room)).locals ≤ R.locals) : CallB R s args own index y_H_isDay b_H_isDay 1 (some .boolean) ws_H_isDay ({ frames := 0, cells := 0, slots := 0, locals := 0 } : Room) 0 0 1 ∧ (Cond.static y_H_isDay).before args s = true := ⟨callB_of 1 hts (good_c a_227) rfl rfl rfl (hts _ a_1) (hts _ hlk) (by decide +kernel) hR, hts _ a_226⟩
theorem d_H_isDay_0 : decode b_H_isDay 0 = .ok (.iload_n 0, 1) := by decide +kernel
theorem d_H_isDay_1 : decode b_H_isDay 1 = .ok (.ifCond .lt 14, 3) := by decide +kernel
theorem d_H_isDay_4 : decode b_H_isDay 4 = .ok (.iload_n 0, 1) := by decide +kernel
theorem d_H_isDay_5 : decode b_H_isDay 5 = .ok (.sipush 1000, 3) := by decide +kernel
theorem d_H_isDay_8 : decode b_H_isDay 8 = .ok (.if_icmp .ge 7, 3) := by decide +kernel
theorem d_H_isDay_11 : decode b_H_isDay 11 = .ok (.iconst 1, 1) := by decide +kernel
theorem d_H_isDay_12 : decode b_H_isDay 12 = .ok (.goto 4, 3) := by decide +kernel
theorem d_H_isDay_15 : decode b_H_isDay 15 = .ok (.iconst 0, 1) := by decide +kernel
theorem d_H_isDay_16 : decode b_H_isDay 16 = .ok (.ireturn, 1) := by decide +kernel
def F_H_isDay  (a1 : Int32) : Option (Int32) := (if a1 < 0 then some 0 else (if 1000 ≤ a1 then some 0 else some 1))
set_option maxHeartbeats 4000000 in
set_option maxRecDepth 100000 in
theorem c_H_isDay (l : Launch) {a1 : Int32} {r0 : Int32}  (hF : F_H_isDay  a1 = some r0) : Met l y_H_isDay ws_H_isDay ({ frames := 0, cells := 0, slots := 0, locals := 0 } : Room) (va_Pc [.int a1] (fun _ => True)) (vp_Si (fun r => r = r0)) 0 0 (fun _ => False) := by
  refine Met.ofW (cc := b_H_isDay) (maxL := 1) (ret := (some .boolean)) (by decide +kernel) rfl ?_
  intro p e s m args below meth c s₁ B hml hv
  obtain ⟨rfl, -⟩ := hv
  have hx := B.exec
  have hb := B.bytes
  have hr := B.returns
  have hts : ∀ w ∈ ALL, w.before _ s = true := fun w h => atoms_spec (ws := ws_H_isDay) B.pre w (List.mem_cons_of_mem _ h)
  have hown : s.vm.findClass R_H = some m.cls := findClass_of_methodNamed B.named
  have hlocks := B.notSynchronized
  have hS : va_S (fun _ => True) s.heap s.heap [] := va_S.rf
  have hN : ∀ q ∈ ([] : List Loc), (fun _ => False) q.base := fun _ h => absurd h List.not_mem_nil
  have hl := lv_entry ([.int a1]) (n := 1) (Nat.le_of_ble_eq_true rfl)
  rw [lg_entry_eq]
  generalize (lg_sl ([.int a1]) ++ List.replicate (1 - (lg_sl ([.int a1])).length) Slot.unset).toArray = ls at hl ⊢
  have hl : lv_has ls 1 [(0, .int a1)] := hl
  have hH : s.heap = s.heap := rfl
  unfold F_H_isDay at hF
  refine lv_iload_n hx hb d_H_isDay_0 rfl (lv_at hl 0 rfl) ?_
  refine lv_if_lt (tgt := 15) hx hb d_H_isDay_1 (by decide) (fun h1 => ?_) (fun h1 => ?_)
  · have hF := it_t hF h1
    refine lv_iconst (v := 0) hx hb d_H_isDay_15 (by decide) ?_
    have hF := rt1 hF
    subst hF
    exact W.zret (v := 0) hx hb hr rfl (fun t ht hW => ⟨_, rfl, rfl, ht.trans hH⟩) hN d_H_isDay_16
  · have hF := it_f hF h1
    refine lv_iload_n hx hb d_H_isDay_4 rfl (lv_at hl 0 rfl) ?_
    refine lv_sipush (v := 1000) hx hb d_H_isDay_5 (by decide) ?_
    refine lv_icmp_ge (tgt := 15) hx hb d_H_isDay_8 (by decide) (fun h2 => ?_) (fun h2 => ?_)
    · have hF := it_t hF h2
      refine lv_iconst (v := 0) hx hb d_H_isDay_15 (by decide) ?_
      have hF := rt1 hF
      subst hF
      exact W.zret (v := 0) hx hb hr rfl (fun t ht hW => ⟨_, rfl, rfl, ht.trans hH⟩) hN d_H_isDay_16
    · have hF := it_f hF h2
      refine lv_iconst (v := 1) hx hb d_H_isDay_11 (by decide) ?_
      refine lv_goto (tgt := 16) hx hb d_H_isDay_12 (by decide) ?_
      have hF := rt1 hF
      subst hF
      exact W.zret (v := 1) hx hb hr rfl (fun t ht hW => ⟨_, rfl, rfl, ht.trans hH⟩) hN d_H_isDay_16
def ws_H_isCode : List Cond := Cond.code y_H_isCode b_H_isCode 1 (some .boolean) :: ALL
theorem w_H_isCode {R : Room} {s : State} {args : Array Value} {own : String} {index : Nat} (hts : ∀ w ∈ ALL, w.before args s = true) (hlk : Cond.methodLink own index y_H_isCode ∈ ALL) (hR : (({ frames := 0, cells := 0, slots := 0, locals := 0 } : Room)).frames + 1 ≤ R.frames ∧ 8 + (1 + 11) + (({ frames := 0, cells := 0, slots := 0, locals := 0 } : Room)).locals ≤ R.locals) : CallB R s args own index y_H_isCode b_H_isCode 1 (some .boolean) ws_H_isCode ({ frames := 0, cells := 0, slots := 0, locals := 0 } : Room) 0 0 1 ∧ (Cond.static y_H_isCode).before args s = true := ⟨callB_of 1 hts (good_c a_234) rfl rfl rfl (hts _ a_1) (hts _ hlk) (by decide +kernel) hR, hts _ a_233⟩
theorem d_H_isCode_0 : decode b_H_isCode 0 = .ok (.iload_n 0, 1) := by decide +kernel
theorem d_H_isCode_1 : decode b_H_isCode 1 = .ok (.ifCond .lt 13, 3) := by decide +kernel
theorem d_H_isCode_4 : decode b_H_isCode 4 = .ok (.iload_n 0, 1) := by decide +kernel
theorem d_H_isCode_5 : decode b_H_isCode 5 = .ok (.bipush 10, 2) := by decide +kernel
theorem d_H_isCode_7 : decode b_H_isCode 7 = .ok (.if_icmp .ge 7, 3) := by decide +kernel
theorem d_H_isCode_10 : decode b_H_isCode 10 = .ok (.iconst 1, 1) := by decide +kernel
theorem d_H_isCode_11 : decode b_H_isCode 11 = .ok (.goto 4, 3) := by decide +kernel
theorem d_H_isCode_14 : decode b_H_isCode 14 = .ok (.iconst 0, 1) := by decide +kernel
theorem d_H_isCode_15 : decode b_H_isCode 15 = .ok (.ireturn, 1) := by decide +kernel
def F_H_isCode  (a1 : Int32) : Option (Int32) := (if a1 < 0 then some 0 else (if 10 ≤ a1 then some 0 else some 1))
set_option maxHeartbeats 4000000 in
set_option maxRecDepth 100000 in
theorem c_H_isCode (l : Launch) {a1 : Int32} {r0 : Int32}  (hF : F_H_isCode  a1 = some r0) : Met l y_H_isCode ws_H_isCode ({ frames := 0, cells := 0, slots := 0, locals := 0 } : Room) (va_Pc [.int a1] (fun _ => True)) (vp_Si (fun r => r = r0)) 0 0 (fun _ => False) := by
  refine Met.ofW (cc := b_H_isCode) (maxL := 1) (ret := (some .boolean)) (by decide +kernel) rfl ?_
  intro p e s m args below meth c s₁ B hml hv
  obtain ⟨rfl, -⟩ := hv
  have hx := B.exec
  have hb := B.bytes
  have hr := B.returns
  have hts : ∀ w ∈ ALL, w.before _ s = true := fun w h => atoms_spec (ws := ws_H_isCode) B.pre w (List.mem_cons_of_mem _ h)
  have hown : s.vm.findClass R_H = some m.cls := findClass_of_methodNamed B.named
  have hlocks := B.notSynchronized
  have hS : va_S (fun _ => True) s.heap s.heap [] := va_S.rf
  have hN : ∀ q ∈ ([] : List Loc), (fun _ => False) q.base := fun _ h => absurd h List.not_mem_nil
  have hl := lv_entry ([.int a1]) (n := 1) (Nat.le_of_ble_eq_true rfl)
  rw [lg_entry_eq]
  generalize (lg_sl ([.int a1]) ++ List.replicate (1 - (lg_sl ([.int a1])).length) Slot.unset).toArray = ls at hl ⊢
  have hl : lv_has ls 1 [(0, .int a1)] := hl
  have hH : s.heap = s.heap := rfl
  unfold F_H_isCode at hF
  refine lv_iload_n hx hb d_H_isCode_0 rfl (lv_at hl 0 rfl) ?_
  refine lv_if_lt (tgt := 14) hx hb d_H_isCode_1 (by decide) (fun h1 => ?_) (fun h1 => ?_)
  · have hF := it_t hF h1
    refine lv_iconst (v := 0) hx hb d_H_isCode_14 (by decide) ?_
    have hF := rt1 hF
    subst hF
    exact W.zret (v := 0) hx hb hr rfl (fun t ht hW => ⟨_, rfl, rfl, ht.trans hH⟩) hN d_H_isCode_15
  · have hF := it_f hF h1
    refine lv_iload_n hx hb d_H_isCode_4 rfl (lv_at hl 0 rfl) ?_
    refine lv_bipush (v := 10) hx hb d_H_isCode_5 (by decide) ?_
    refine lv_icmp_ge (tgt := 14) hx hb d_H_isCode_7 (by decide) (fun h2 => ?_) (fun h2 => ?_)
    · have hF := it_t hF h2
      refine lv_iconst (v := 0) hx hb d_H_isCode_14 (by decide) ?_
      have hF := rt1 hF
      subst hF
      exact W.zret (v := 0) hx hb hr rfl (fun t ht hW => ⟨_, rfl, rfl, ht.trans hH⟩) hN d_H_isCode_15
    · have hF := it_f hF h2
      refine lv_iconst (v := 1) hx hb d_H_isCode_10 (by decide) ?_
      refine lv_goto (tgt := 15) hx hb d_H_isCode_11 (by decide) ?_
      have hF := rt1 hF
      subst hF
      exact W.zret (v := 1) hx hb hr rfl (fun t ht hW => ⟨_, rfl, rfl, ht.trans hH⟩) hN d_H_isCode_15
def ws_H_isNumber : List Cond := Cond.code y_H_isNumber b_H_isNumber 1 (some .boolean) :: ALL
theorem w_H_isNumber {R : Room} {s : State} {args : Array Value} {own : String} {index : Nat} (hts : ∀ w ∈ ALL, w.before args s = true) (hlk : Cond.methodLink own index y_H_isNumber ∈ ALL) (hR : (({ frames := 0, cells := 0, slots := 0, locals := 0 } : Room)).frames + 1 ≤ R.frames ∧ 8 + (1 + 11) + (({ frames := 0, cells := 0, slots := 0, locals := 0 } : Room)).locals ≤ R.locals) : CallB R s args own index y_H_isNumber b_H_isNumber 1 (some .boolean) ws_H_isNumber ({ frames := 0, cells := 0, slots := 0, locals := 0 } : Room) 0 0 1 ∧ (Cond.static y_H_isNumber).before args s = true := ⟨callB_of 1 hts (good_c a_322) rfl rfl rfl (hts _ a_1) (hts _ hlk) (by decide +kernel) hR, hts _ a_321⟩
theorem d_H_isNumber_0 : decode b_H_isNumber 0 = .ok (.iload_n 0, 1) := by decide +kernel
theorem d_H_isNumber_1 : decode b_H_isNumber 1 = .ok (.ifCond .lt 13, 3) := by decide +kernel
theorem d_H_isNumber_4 : decode b_H_isNumber 4 = .ok (.iload_n 0, 1) := by decide +kernel
theorem d_H_isNumber_5 : decode b_H_isNumber 5 = .ok (.bipush 6, 2) := by decide +kernel
theorem d_H_isNumber_7 : decode b_H_isNumber 7 = .ok (.if_icmp .ge 7, 3) := by decide +kernel
theorem d_H_isNumber_10 : decode b_H_isNumber 10 = .ok (.iconst 1, 1) := by decide +kernel
theorem d_H_isNumber_11 : decode b_H_isNumber 11 = .ok (.goto 4, 3) := by decide +kernel
theorem d_H_isNumber_14 : decode b_H_isNumber 14 = .ok (.iconst 0, 1) := by decide +kernel
theorem d_H_isNumber_15 : decode b_H_isNumber 15 = .ok (.ireturn, 1) := by decide +kernel
def F_H_isNumber  (a1 : Int32) : Option (Int32) := (if a1 < 0 then some 0 else (if 6 ≤ a1 then some 0 else some 1))
set_option maxHeartbeats 4000000 in
set_option maxRecDepth 100000 in
theorem c_H_isNumber (l : Launch) {a1 : Int32} {r0 : Int32}  (hF : F_H_isNumber  a1 = some r0) : Met l y_H_isNumber ws_H_isNumber ({ frames := 0, cells := 0, slots := 0, locals := 0 } : Room) (va_Pc [.int a1] (fun _ => True)) (vp_Si (fun r => r = r0)) 0 0 (fun _ => False) := by
  refine Met.ofW (cc := b_H_isNumber) (maxL := 1) (ret := (some .boolean)) (by decide +kernel) rfl ?_
  intro p e s m args below meth c s₁ B hml hv
  obtain ⟨rfl, -⟩ := hv
  have hx := B.exec
  have hb := B.bytes
  have hr := B.returns
  have hts : ∀ w ∈ ALL, w.before _ s = true := fun w h => atoms_spec (ws := ws_H_isNumber) B.pre w (List.mem_cons_of_mem _ h)
  have hown : s.vm.findClass R_H = some m.cls := findClass_of_methodNamed B.named
  have hlocks := B.notSynchronized
  have hS : va_S (fun _ => True) s.heap s.heap [] := va_S.rf
  have hN : ∀ q ∈ ([] : List Loc), (fun _ => False) q.base := fun _ h => absurd h List.not_mem_nil
  have hl := lv_entry ([.int a1]) (n := 1) (Nat.le_of_ble_eq_true rfl)
  rw [lg_entry_eq]
  generalize (lg_sl ([.int a1]) ++ List.replicate (1 - (lg_sl ([.int a1])).length) Slot.unset).toArray = ls at hl ⊢
  have hl : lv_has ls 1 [(0, .int a1)] := hl
  have hH : s.heap = s.heap := rfl
  unfold F_H_isNumber at hF
  refine lv_iload_n hx hb d_H_isNumber_0 rfl (lv_at hl 0 rfl) ?_
  refine lv_if_lt (tgt := 14) hx hb d_H_isNumber_1 (by decide) (fun h1 => ?_) (fun h1 => ?_)
  · have hF := it_t hF h1
    refine lv_iconst (v := 0) hx hb d_H_isNumber_14 (by decide) ?_
    have hF := rt1 hF
    subst hF
    exact W.zret (v := 0) hx hb hr rfl (fun t ht hW => ⟨_, rfl, rfl, ht.trans hH⟩) hN d_H_isNumber_15
  · have hF := it_f hF h1
    refine lv_iload_n hx hb d_H_isNumber_4 rfl (lv_at hl 0 rfl) ?_
    refine lv_bipush (v := 6) hx hb d_H_isNumber_5 (by decide) ?_
    refine lv_icmp_ge (tgt := 14) hx hb d_H_isNumber_7 (by decide) (fun h2 => ?_) (fun h2 => ?_)
    · have hF := it_t hF h2
      refine lv_iconst (v := 0) hx hb d_H_isNumber_14 (by decide) ?_
      have hF := rt1 hF
      subst hF
      exact W.zret (v := 0) hx hb hr rfl (fun t ht hW => ⟨_, rfl, rfl, ht.trans hH⟩) hN d_H_isNumber_15
    · have hF := it_f hF h2
      refine lv_iconst (v := 1) hx hb d_H_isNumber_10 (by decide) ?_
      refine lv_goto (tgt := 15) hx hb d_H_isNumber_11 (by decide) ?_
      have hF := rt1 hF
      subst hF
      exact W.zret (v := 1) hx hb hr rfl (fun t ht hW => ⟨_, rfl, rfl, ht.trans hH⟩) hN d_H_isNumber_15
def ws_JM_max : List Cond := Cond.code y_JM_max b_JM_max 2 (some .int) :: ALL
theorem w_JM_max {R : Room} {s : State} {args : Array Value} {own : String} {index : Nat} (hts : ∀ w ∈ ALL, w.before args s = true) (hlk : Cond.methodLink own index y_JM_max ∈ ALL) (hR : (({ frames := 0, cells := 0, slots := 0, locals := 0 } : Room)).frames + 1 ≤ R.frames ∧ 8 + (2 + 11) + (({ frames := 0, cells := 0, slots := 0, locals := 0 } : Room)).locals ≤ R.locals) : CallB R s args own index y_JM_max b_JM_max 2 (some .int) ws_JM_max ({ frames := 0, cells := 0, slots := 0, locals := 0 } : Room) 0 0 2 ∧ (Cond.static y_JM_max).before args s = true := ⟨callB_of 2 hts (good_c a_443) rfl rfl rfl (hts _ a_14) (hts _ hlk) (by decide +kernel) hR, hts _ a_442⟩
theorem d_JM_max_0 : decode b_JM_max 0 = .ok (.iload_n 0, 1) := by decide +kernel
theorem d_JM_max_1 : decode b_JM_max 1 = .ok (.iload_n 1, 1) := by decide +kernel
theorem d_JM_max_2 : decode b_JM_max 2 = .ok (.if_icmp .lt 7, 3) := by decide +kernel
theorem d_JM_max_5 : decode b_JM_max 5 = .ok (.iload_n 0, 1) := by decide +kernel
theorem d_JM_max_6 : decode b_JM_max 6 = .ok (.goto 4, 3) := by decide +kernel
theorem d_JM_max_9 : decode b_JM_max 9 = .ok (.iload_n 1, 1) := by decide +kernel
theorem d_JM_max_10 : decode b_JM_max 10 = .ok (.ireturn, 1) := by decide +kernel
def F_JM_max  (a1 : Int32) (a2 : Int32) : Option (Int32) := (if a1 < a2 then some a2 else some a1)
set_option maxHeartbeats 4000000 in
set_option maxRecDepth 100000 in
theorem c_JM_max (l : Launch) {a1 : Int32} {a2 : Int32} {r0 : Int32}  (hF : F_JM_max  a1 a2 = some r0) : Met l y_JM_max ws_JM_max ({ frames := 0, cells := 0, slots := 0, locals := 0 } : Room) (va_Pc [.int a1, .int a2] (fun _ => True)) (vp_Si (fun r => r = r0)) 0 0 (fun _ => False) := by
  refine va_MetF (cc := b_JM_max) (maxL := 2) (ret := (some .int)) (by decide +kernel) rfl ?_
  intro p e s m args below meth c s₁ B hml hv
  obtain ⟨rfl, -⟩ := hv
  have hx := B.exec
  have hb := B.bytes
  have hr := B.returns
  have hts : ∀ w ∈ ALL, w.before _ s = true := fun w h => atoms_spec (ws := ws_JM_max) B.pre w (List.mem_cons_of_mem _ h)
  have hown : s.vm.findClass R_JM = some m.cls := findClass_of_methodNamed B.named
  have hlocks := B.notSynchronized
  have hS : va_S (fun _ => True) s.heap s.heap [] := va_S.rf
  have hN : ∀ q ∈ ([] : List Loc), (fun _ => False) q.base := fun _ h => absurd h List.not_mem_nil
  have hl := lv_entry ([.int a1, .int a2]) (n := 2) (Nat.le_of_ble_eq_true rfl)
  rw [lg_entry_eq]
  generalize (lg_sl ([.int a1, .int a2]) ++ List.replicate (2 - (lg_sl ([.int a1, .int a2])).length) Slot.unset).toArray = ls at hl ⊢
  have hl : lv_has ls 2 [(0, .int a1), (1, .int a2)] := hl
  have hH : s.heap = s.heap := rfl
  unfold F_JM_max at hF
  refine lv_iload_n hx hb d_JM_max_0 rfl (lv_at hl 0 rfl) ?_
  refine lv_iload_n hx hb d_JM_max_1 rfl (lv_at hl 1 rfl) ?_
  refine lv_icmp_lt (tgt := 9) hx hb d_JM_max_2 (by decide) (fun h1 => ?_) (fun h1 => ?_)
  · have hF := it_t hF h1
    refine lv_iload_n hx hb d_JM_max_9 rfl (lv_at hl 1 rfl) ?_
    have hF := rt1 hF
    subst hF
    exact W.iret (v := a2) hx hb hr (fun t ht hW => ⟨_, rfl, rfl, ht.trans hH⟩) hN d_JM_max_10
  · have hF := it_f hF h1
    refine lv_iload_n hx hb d_JM_max_5 rfl (lv_at hl 0 rfl) ?_
    refine lv_goto (tgt := 10) hx hb d_JM_max_6 (by decide) ?_
    have hF := rt1 hF
    subst hF
    exact W.iret (v := a1) hx hb hr (fun t ht hW => ⟨_, rfl, rfl, ht.trans hH⟩) hN d_JM_max_10
def ws_JI_bitCount : List Cond := Cond.code y_JI_bitCount b_JI_bitCount 1 (some .int) :: ALL
theorem w_JI_bitCount {R : Room} {s : State} {args : Array Value} {own : String} {index : Nat} (hts : ∀ w ∈ ALL, w.before args s = true) (hlk : Cond.methodLink own index y_JI_bitCount ∈ ALL) (hR : (({ frames := 0, cells := 0, slots := 0, locals := 0 } : Room)).frames + 1 ≤ R.frames ∧ 8 + (1 + 11) + (({ frames := 0, cells := 0, slots := 0, locals := 0 } : Room)).locals ≤ R.locals) : CallB R s args own index y_JI_bitCount b_JI_bitCount 1 (some .int) ws_JI_bitCount ({ frames := 0, cells := 0, slots := 0, locals := 0 } : Room) 0 0 1 ∧ (Cond.static y_JI_bitCount).before args s = true := ⟨callB_of 1 hts (good_c a_455) rfl rfl rfl (hts _ a_16) (hts _ hlk) (by decide +kernel) hR, hts _ a_454⟩
theorem d_JI_bitCount_0 : decode b_JI_bitCount 0 = .ok (.iload_n 0, 1) := by decide +kernel
theorem d_JI_bitCount_1 : decode b_JI_bitCount 1 = .ok (.iload_n 0, 1) := by decide +kernel
theorem d_JI_bitCount_2 : decode b_JI_bitCount 2 = .ok (.iconst 1, 1) := by decide +kernel
theorem d_JI_bitCount_3 : decode b_JI_bitCount 3 = .ok (.iushr, 1) := by decide +kernel
theorem d_JI_bitCount_4 : decode b_JI_bitCount 4 = .ok (.ldc_w 265, 3) := by decide +kernel
theorem d_JI_bitCount_7 : decode b_JI_bitCount 7 = .ok (.iand, 1) := by decide +kernel
theorem d_JI_bitCount_8 : decode b_JI_bitCount 8 = .ok (.isub, 1) := by decide +kernel
theorem d_JI_bitCount_9 : decode b_JI_bitCount 9 = .ok (.istore_n 0, 1) := by decide +kernel
theorem d_JI_bitCount_10 : decode b_JI_bitCount 10 = .ok (.iload_n 0, 1) := by decide +kernel
theorem d_JI_bitCount_11 : decode b_JI_bitCount 11 = .ok (.ldc_w 266, 3) := by decide +kernel
theorem d_JI_bitCount_14 : decode b_JI_bitCount 14 = .ok (.iand, 1) := by decide +kernel
theorem d_JI_bitCount_15 : decode b_JI_bitCount 15 = .ok (.iload_n 0, 1) := by decide +kernel
theorem d_JI_bitCount_16 : decode b_JI_bitCount 16 = .ok (.iconst 2, 1) := by decide +kernel
theorem d_JI_bitCount_17 : decode b_JI_bitCount 17 = .ok (.iushr, 1) := by decide +kernel
theorem d_JI_bitCount_18 : decode b_JI_bitCount 18 = .ok (.ldc_w 266, 3) := by decide +kernel
theorem d_JI_bitCount_21 : decode b_JI_bitCount 21 = .ok (.iand, 1) := by decide +kernel
theorem d_JI_bitCount_22 : decode b_JI_bitCount 22 = .ok (.iadd, 1) := by decide +kernel
theorem d_JI_bitCount_23 : decode b_JI_bitCount 23 = .ok (.istore_n 0, 1) := by decide +kernel
theorem d_JI_bitCount_24 : decode b_JI_bitCount 24 = .ok (.iload_n 0, 1) := by decide +kernel
theorem d_JI_bitCount_25 : decode b_JI_bitCount 25 = .ok (.iload_n 0, 1) := by decide +kernel
theorem d_JI_bitCount_26 : decode b_JI_bitCount 26 = .ok (.iconst 4, 1) := by decide +kernel
theorem d_JI_bitCount_27 : decode b_JI_bitCount 27 = .ok (.iushr, 1) := by decide +kernel
theorem d_JI_bitCount_28 : decode b_JI_bitCount 28 = .ok (.iadd, 1) := by decide +kernel
theorem d_JI_bitCount_29 : decode b_JI_bitCount 29 = .ok (.ldc_w 267, 3) := by decide +kernel
theorem d_JI_bitCount_32 : decode b_JI_bitCount 32 = .ok (.iand, 1) := by decide +kernel
theorem d_JI_bitCount_33 : decode b_JI_bitCount 33 = .ok (.istore_n 0, 1) := by decide +kernel
theorem d_JI_bitCount_34 : decode b_JI_bitCount 34 = .ok (.iload_n 0, 1) := by decide +kernel
theorem d_JI_bitCount_35 : decode b_JI_bitCount 35 = .ok (.iload_n 0, 1) := by decide +kernel
theorem d_JI_bitCount_36 : decode b_JI_bitCount 36 = .ok (.bipush 8, 2) := by decide +kernel
theorem d_JI_bitCount_38 : decode b_JI_bitCount 38 = .ok (.iushr, 1) := by decide +kernel
theorem d_JI_bitCount_39 : decode b_JI_bitCount 39 = .ok (.iadd, 1) := by decide +kernel
theorem d_JI_bitCount_40 : decode b_JI_bitCount 40 = .ok (.istore_n 0, 1) := by decide +kernel
theorem d_JI_bitCount_41 : decode b_JI_bitCount 41 = .ok (.iload_n 0, 1) := by decide +kernel
theorem d_JI_bitCount_42 : decode b_JI_bitCount 42 = .ok (.iload_n 0, 1) := by decide +kernel
theorem d_JI_bitCount_43 : decode b_JI_bitCount 43 = .ok (.bipush 16, 2) := by decide +kernel
theorem d_JI_bitCount_45 : decode b_JI_bitCount 45 = .ok (.iushr, 1) := by decide +kernel
theorem d_JI_bitCount_46 : decode b_JI_bitCount 46 = .ok (.iadd, 1) := by decide +kernel
theorem d_JI_bitCount_47 : decode b_JI_bitCount 47 = .ok (.istore_n 0, 1) := by decide +kernel
theorem d_JI_bitCount_48 : decode b_JI_bitCount 48 = .ok (.iload_n 0, 1) := by decide +kernel
theorem d_JI_bitCount_49 : decode b_JI_bitCount 49 = .ok (.bipush 63, 2) := by decide +kernel
theorem d_JI_bitCount_51 : decode b_JI_bitCount 51 = .ok (.iand, 1) := by decide +kernel
theorem d_JI_bitCount_52 : decode b_JI_bitCount 52 = .ok (.ireturn, 1) := by decide +kernel
def F_JI_bitCount  (a1 : Int32) : Option (Int32) := (nm_ (a1 - ((((a1).toUInt32 >>> ((1).toUInt32 &&& Int32.toUInt32 31)).toInt32) &&& 1431655765)) fun vv1 => (nm_ ((vv1 &&& 858993459) + ((((vv1).toUInt32 >>> ((2).toUInt32 &&& Int32.toUInt32 31)).toInt32) &&& 858993459)) fun vv3 => (nm_ ((vv3 + (((vv3).toUInt32 >>> ((4).toUInt32 &&& Int32.toUInt32 31)).toInt32)) &&& 252645135) fun vv5 => (nm_ (vv5 + (((vv5).toUInt32 >>> ((8).toUInt32 &&& Int32.toUInt32 31)).toInt32)) fun vv7 => (nm_ (vv7 + (((vv7).toUInt32 >>> ((16).toUInt32 &&& Int32.toUInt32 31)).toInt32)) fun vv9 => some (vv9 &&& 63))))))
set_option maxHeartbeats 4000000 in
set_option maxRecDepth 100000 in
theorem c_JI_bitCount (l : Launch) {a1 : Int32} {r0 : Int32}  (hF : F_JI_bitCount  a1 = some r0) : Met l y_JI_bitCount ws_JI_bitCount ({ frames := 0, cells := 0, slots := 0, locals := 0 } : Room) (va_Pc [.int a1] (fun _ => True)) (vp_Si (fun r => r = r0)) 0 0 (fun _ => False) := by
  refine Met.ofW (cc := b_JI_bitCount) (maxL := 1) (ret := (some .int)) (by decide +kernel) rfl ?_
  intro p e s m args below meth c s₁ B hml hv
  obtain ⟨rfl, -⟩ := hv
  have hx := B.exec
  have hb := B.bytes
  have hr := B.returns
  have hts : ∀ w ∈ ALL, w.before _ s = true := fun w h => atoms_spec (ws := ws_JI_bitCount) B.pre w (List.mem_cons_of_mem _ h)
  have hown : s.vm.findClass R_JI = some m.cls := findClass_of_methodNamed B.named
  have hlocks := B.notSynchronized
  have hS : va_S (fun _ => True) s.heap s.heap [] := va_S.rf
  have hN : ∀ q ∈ ([] : List Loc), (fun _ => False) q.base := fun _ h => absurd h List.not_mem_nil
  have hl := lv_entry ([.int a1]) (n := 1) (Nat.le_of_ble_eq_true rfl)
  rw [lg_entry_eq]
  generalize (lg_sl ([.int a1]) ++ List.replicate (1 - (lg_sl ([.int a1])).length) Slot.unset).toArray = ls at hl ⊢
  have hl : lv_has ls 1 [(0, .int a1)] := hl
  have hH : s.heap = s.heap := rfl
  unfold F_JI_bitCount at hF
  refine lv_iload_n hx hb d_JI_bitCount_0 rfl (lv_at hl 0 rfl) ?_
  refine lv_iload_n hx hb d_JI_bitCount_1 rfl (lv_at hl 0 rfl) ?_
  refine lv_iconst (v := 1) hx hb d_JI_bitCount_2 (by decide) ?_
  refine lv_iushr hx hb d_JI_bitCount_3 rfl ?_
  refine lv_ldcw (v := 1431655765) hx hb hown (hts _ a_456) d_JI_bitCount_4 ?_
  refine lv_iand hx hb d_JI_bitCount_7 ?_
  refine lv_isub hx hb d_JI_bitCount_8 ?_
  refine lv_topi (fun vv1 h2 => ?_)
  have hF := nm_q hF h2
  refine lv_istore_n (lv' := [(0, .int vv1)]) hx hb d_JI_bitCount_9 rfl hl (by decide) rfl (fun ls hl => ?_)
  refine lv_iload_n hx hb d_JI_bitCount_10 rfl (lv_at hl 0 rfl) ?_
  refine lv_ldcw (v := 858993459) hx hb hown (hts _ a_457) d_JI_bitCount_11 ?_
  refine lv_iand hx hb d_JI_bitCount_14 ?_
  refine lv_iload_n hx hb d_JI_bitCount_15 rfl (lv_at hl 0 rfl) ?_
  refine lv_iconst (v := 2) hx hb d_JI_bitCount_16 (by decide) ?_
  refine lv_iushr hx hb d_JI_bitCount_17 rfl ?_
  refine lv_ldcw (v := 858993459) hx hb hown (hts _ a_457) d_JI_bitCount_18 ?_
  refine lv_iand hx hb d_JI_bitCount_21 ?_
  refine lv_iadd hx hb d_JI_bitCount_22 ?_
  refine lv_topi (fun vv3 h4 => ?_)
  have hF := nm_q hF h4
  refine lv_istore_n (lv' := [(0, .int vv3)]) hx hb d_JI_bitCount_23 rfl hl (by decide) rfl (fun ls hl => ?_)
  refine lv_iload_n hx hb d_JI_bitCount_24 rfl (lv_at hl 0 rfl) ?_
  refine lv_iload_n hx hb d_JI_bitCount_25 rfl (lv_at hl 0 rfl) ?_
  refine lv_iconst (v := 4) hx hb d_JI_bitCount_26 (by decide) ?_
  refine lv_iushr hx hb d_JI_bitCount_27 rfl ?_
  refine lv_iadd hx hb d_JI_bitCount_28 ?_
  refine lv_ldcw (v := 252645135) hx hb hown (hts _ a_458) d_JI_bitCount_29 ?_
  refine lv_iand hx hb d_JI_bitCount_32 ?_
  refine lv_topi (fun vv5 h6 => ?_)
  have hF := nm_q hF h6
  refine lv_istore_n (lv' := [(0, .int vv5)]) hx hb d_JI_bitCount_33 rfl hl (by decide) rfl (fun ls hl => ?_)
  refine lv_iload_n hx hb d_JI_bitCount_34 rfl (lv_at hl 0 rfl) ?_
  refine lv_iload_n hx hb d_JI_bitCount_35 rfl (lv_at hl 0 rfl) ?_
  refine lv_bipush (v := 8) hx hb d_JI_bitCount_36 (by decide) ?_
  refine lv_iushr hx hb d_JI_bitCount_38 rfl ?_
  refine lv_iadd hx hb d_JI_bitCount_39 ?_
  refine lv_topi (fun vv7 h8 => ?_)
  have hF := nm_q hF h8
  refine lv_istore_n (lv' := [(0, .int vv7)]) hx hb d_JI_bitCount_40 rfl hl (by decide) rfl (fun ls hl => ?_)
  refine lv_iload_n hx hb d_JI_bitCount_41 rfl (lv_at hl 0 rfl) ?_
  refine lv_iload_n hx hb d_JI_bitCount_42 rfl (lv_at hl 0 rfl) ?_
  refine lv_bipush (v := 16) hx hb d_JI_bitCount_43 (by decide) ?_
  refine lv_iushr hx hb d_JI_bitCount_45 rfl ?_
  refine lv_iadd hx hb d_JI_bitCount_46 ?_
  refine lv_topi (fun vv9 h10 => ?_)
  have hF := nm_q hF h10
  refine lv_istore_n (lv' := [(0, .int vv9)]) hx hb d_JI_bitCount_47 rfl hl (by decide) rfl (fun ls hl => ?_)
  refine lv_iload_n hx hb d_JI_bitCount_48 rfl (lv_at hl 0 rfl) ?_
  refine lv_bipush (v := 63) hx hb d_JI_bitCount_49 (by decide) ?_
  refine lv_iand hx hb d_JI_bitCount_51 ?_
  have hF := rt1 hF
  subst hF
  exact W.iret (v := (vv9 &&& 63)) hx hb hr (fun t ht hW => ⟨_, rfl, rfl, ht.trans hH⟩) hN d_JI_bitCount_52
