def ws_Z_areNear : List Cond := Cond.code y_Z_areNear b_Z_areNear 3 (some .boolean) :: ALL
theorem w_Z_areNear {R : Room} {s : State} {args : Array Value} {own : String} {index : Nat} (hts : ∀ w ∈ ALL, w.before args s = true) (hlk : Cond.methodLink own index y_Z_areNear ∈ ALL) (hR : (({ frames := 0, cells := 0, slots := 0, locals := 0 } : Room)).frames + 1 ≤ R.frames ∧ 8 + (3 + 11) + (({ frames := 0, cells := 0, slots := 0, locals := 0 } : Room)).locals ≤ R.locals) : CallB R s args own index y_Z_areNear b_Z_areNear 3 (some .boolean) ws_Z_areNear ({ frames := 0, cells := 0, slots := 0, locals := 0 } : Room) 0 0 2 ∧ (Cond.static y_Z_areNear).before args s = true := ⟨callB_of 2 hts (good_c a_763) rfl rfl rfl (hts _ a_8) (hts _ hlk) (by decide +kernel) hR, hts _ a_762⟩
theorem d_Z_areNear_0 : decode b_Z_areNear 0 = .ok (.iload_n 0, 1) := by decide +kernel
theorem d_Z_areNear_1 : decode b_Z_areNear 1 = .ok (.bipush 9, 2) := by decide +kernel
theorem d_Z_areNear_3 : decode b_Z_areNear 3 = .ok (.idiv, 1) := by decide +kernel
theorem d_Z_areNear_4 : decode b_Z_areNear 4 = .ok (.iload_n 1, 1) := by decide +kernel
theorem d_Z_areNear_5 : decode b_Z_areNear 5 = .ok (.bipush 9, 2) := by decide +kernel
theorem d_Z_areNear_7 : decode b_Z_areNear 7 = .ok (.idiv, 1) := by decide +kernel
theorem d_Z_areNear_8 : decode b_Z_areNear 8 = .ok (.if_icmp .ne 7, 3) := by decide +kernel
theorem d_Z_areNear_11 : decode b_Z_areNear 11 = .ok (.iconst 0, 1) := by decide +kernel
theorem d_Z_areNear_12 : decode b_Z_areNear 12 = .ok (.goto 4, 3) := by decide +kernel
theorem d_Z_areNear_15 : decode b_Z_areNear 15 = .ok (.iconst 1, 1) := by decide +kernel
theorem d_Z_areNear_16 : decode b_Z_areNear 16 = .ok (.iload_n 0, 1) := by decide +kernel
theorem d_Z_areNear_17 : decode b_Z_areNear 17 = .ok (.iconst 3, 1) := by decide +kernel
theorem d_Z_areNear_18 : decode b_Z_areNear 18 = .ok (.idiv, 1) := by decide +kernel
theorem d_Z_areNear_19 : decode b_Z_areNear 19 = .ok (.iconst 3, 1) := by decide +kernel
theorem d_Z_areNear_20 : decode b_Z_areNear 20 = .ok (.irem, 1) := by decide +kernel
theorem d_Z_areNear_21 : decode b_Z_areNear 21 = .ok (.iload_n 1, 1) := by decide +kernel
theorem d_Z_areNear_22 : decode b_Z_areNear 22 = .ok (.iconst 3, 1) := by decide +kernel
theorem d_Z_areNear_23 : decode b_Z_areNear 23 = .ok (.idiv, 1) := by decide +kernel
theorem d_Z_areNear_24 : decode b_Z_areNear 24 = .ok (.iconst 3, 1) := by decide +kernel
theorem d_Z_areNear_25 : decode b_Z_areNear 25 = .ok (.irem, 1) := by decide +kernel
theorem d_Z_areNear_26 : decode b_Z_areNear 26 = .ok (.if_icmp .ne 7, 3) := by decide +kernel
theorem d_Z_areNear_29 : decode b_Z_areNear 29 = .ok (.iconst 0, 1) := by decide +kernel
theorem d_Z_areNear_30 : decode b_Z_areNear 30 = .ok (.goto 4, 3) := by decide +kernel
theorem d_Z_areNear_33 : decode b_Z_areNear 33 = .ok (.iconst 1, 1) := by decide +kernel
theorem d_Z_areNear_34 : decode b_Z_areNear 34 = .ok (.iadd, 1) := by decide +kernel
theorem d_Z_areNear_35 : decode b_Z_areNear 35 = .ok (.iload_n 0, 1) := by decide +kernel
theorem d_Z_areNear_36 : decode b_Z_areNear 36 = .ok (.iconst 3, 1) := by decide +kernel
theorem d_Z_areNear_37 : decode b_Z_areNear 37 = .ok (.irem, 1) := by decide +kernel
theorem d_Z_areNear_38 : decode b_Z_areNear 38 = .ok (.iload_n 1, 1) := by decide +kernel
theorem d_Z_areNear_39 : decode b_Z_areNear 39 = .ok (.iconst 3, 1) := by decide +kernel
theorem d_Z_areNear_40 : decode b_Z_areNear 40 = .ok (.irem, 1) := by decide +kernel
theorem d_Z_areNear_41 : decode b_Z_areNear 41 = .ok (.if_icmp .ne 7, 3) := by decide +kernel
theorem d_Z_areNear_44 : decode b_Z_areNear 44 = .ok (.iconst 0, 1) := by decide +kernel
theorem d_Z_areNear_45 : decode b_Z_areNear 45 = .ok (.goto 4, 3) := by decide +kernel
theorem d_Z_areNear_48 : decode b_Z_areNear 48 = .ok (.iconst 1, 1) := by decide +kernel
theorem d_Z_areNear_49 : decode b_Z_areNear 49 = .ok (.iadd, 1) := by decide +kernel
theorem d_Z_areNear_50 : decode b_Z_areNear 50 = .ok (.istore_n 2, 1) := by decide +kernel
theorem d_Z_areNear_51 : decode b_Z_areNear 51 = .ok (.iload_n 2, 1) := by decide +kernel
theorem d_Z_areNear_52 : decode b_Z_areNear 52 = .ok (.iconst 1, 1) := by decide +kernel
theorem d_Z_areNear_53 : decode b_Z_areNear 53 = .ok (.if_icmp .ne 7, 3) := by decide +kernel
theorem d_Z_areNear_56 : decode b_Z_areNear 56 = .ok (.iconst 1, 1) := by decide +kernel
theorem d_Z_areNear_57 : decode b_Z_areNear 57 = .ok (.goto 4, 3) := by decide +kernel
theorem d_Z_areNear_60 : decode b_Z_areNear 60 = .ok (.iconst 0, 1) := by decide +kernel
theorem d_Z_areNear_61 : decode b_Z_areNear 61 = .ok (.ireturn, 1) := by decide +kernel
def Fj_Z_areNear_34  (x0 : Int32) (x1 : Int32) (w0 : Int32) (w1 : Int32) : Option (Int32) := (if (x0 - x0 / 3 * 3) = (x1 - x1 / 3 * 3) then (if ((w1 + w0) + 0) = 1 then some 1 else some 0) else (if ((w1 + w0) + 1) = 1 then some 1 else some 0))
def Fj_Z_areNear_16  (x0 : Int32) (x1 : Int32) (w0 : Int32) : Option (Int32) := (if ((x0 / 3) - (x0 / 3) / 3 * 3) = ((x1 / 3) - (x1 / 3) / 3 * 3) then Fj_Z_areNear_34  x0 x1 0 w0 else Fj_Z_areNear_34  x0 x1 1 w0)
def F_Z_areNear  (a1 : Int32) (a2 : Int32) : Option (Int32) := (if (a1 / 9) = (a2 / 9) then Fj_Z_areNear_16  a1 a2 0 else Fj_Z_areNear_16  a1 a2 1)
set_option maxHeartbeats 4000000 in
set_option maxRecDepth 100000 in
theorem jn_Z_areNear_34 {p : Program} {l : Launch} {e : Env} {s : State} {m : MethodId} {args : Array Value} {below : List Frame} {meth : Method} {c : Code} (hx : p.tables.exec = Jvm.exec) (hb : c.code = b_Z_areNear) (hr : meth.sig.returnType = (some .boolean)) (hts : ∀ w ∈ ALL, w.before args s = true) (hown : s.vm.findClass R_Z = some m.cls) (hlocks : meth.locks = false) (hml : c.maxLocals = 3)  : ∀ (x0 : Int32) (x1 : Int32) (w0 : Int32) (w1 : Int32)  (r0 : Int32), Fj_Z_areNear_34  x0 x1 w0 w1 = some r0 → ∀ (H : Heap) (locs : List Loc) (ls : Array Slot), va_S (fun _ => True) s.heap H locs → H = s.heap → (∀ q ∈ locs, (fun _ => False) q.base) → lv_has ls 3 [(0, .int x0), (1, .int x1)] → W p l e ({ frames := 0, cells := 0, slots := 0, locals := 0 } : Room) s m args below meth c H locs 0 0 (MQ below (vp_Si (fun r => r = r0)) args s 0 0 (fun _ => False)) (F0 m 34 ls [.int w0, .int w1]) := by
  intro x0 x1 w0 w1 r0 hF H locs ls hS hH hN hl
  unfold Fj_Z_areNear_34 at hF
  refine lv_iadd hx hb d_Z_areNear_34 ?_
  refine lv_iload_n hx hb d_Z_areNear_35 rfl (lv_at hl 0 rfl) ?_
  refine lv_iconst (v := 3) hx hb d_Z_areNear_36 (by decide) ?_
  refine lv_irem hx hb d_Z_areNear_37 (by decide) ?_
  refine lv_iload_n hx hb d_Z_areNear_38 rfl (lv_at hl 1 rfl) ?_
  refine lv_iconst (v := 3) hx hb d_Z_areNear_39 (by decide) ?_
  refine lv_irem hx hb d_Z_areNear_40 (by decide) ?_
  refine lv_icmp_ne (tgt := 48) hx hb d_Z_areNear_41 (by decide) (fun h3 => ?_) (fun h3 => ?_)
  · have hF := it_f hF h3
    refine lv_iconst (v := 1) hx hb d_Z_areNear_48 (by decide) ?_
    refine lv_iadd hx hb d_Z_areNear_49 ?_
    refine lv_istore_n (lv' := [(2, .int ((w1 + w0) + 1)), (0, .int x0), (1, .int x1)]) hx hb d_Z_areNear_50 rfl hl (by decide) rfl (fun ls hl => ?_)
    refine lv_iload_n hx hb d_Z_areNear_51 rfl (lv_at hl 0 rfl) ?_
    refine lv_iconst (v := 1) hx hb d_Z_areNear_52 (by decide) ?_
    refine lv_icmp_ne (tgt := 60) hx hb d_Z_areNear_53 (by decide) (fun h4 => ?_) (fun h4 => ?_)
    · have hF := it_f hF h4
      refine lv_iconst (v := 0) hx hb d_Z_areNear_60 (by decide) ?_
      have hF := rt1 hF
      subst hF
      exact W.zret (v := 0) hx hb hr rfl (fun t ht hW => ⟨_, rfl, rfl, ht.trans hH⟩) hN d_Z_areNear_61
    · have hF := it_t hF h4
      refine lv_iconst (v := 1) hx hb d_Z_areNear_56 (by decide) ?_
      refine lv_goto (tgt := 61) hx hb d_Z_areNear_57 (by decide) ?_
      have hF := rt1 hF
      subst hF
      exact W.zret (v := 1) hx hb hr rfl (fun t ht hW => ⟨_, rfl, rfl, ht.trans hH⟩) hN d_Z_areNear_61
  · have hF := it_t hF h3
    refine lv_iconst (v := 0) hx hb d_Z_areNear_44 (by decide) ?_
    refine lv_goto (tgt := 49) hx hb d_Z_areNear_45 (by decide) ?_
    refine lv_iadd hx hb d_Z_areNear_49 ?_
    refine lv_istore_n (lv' := [(2, .int ((w1 + w0) + 0)), (0, .int x0), (1, .int x1)]) hx hb d_Z_areNear_50 rfl hl (by decide) rfl (fun ls hl => ?_)
    refine lv_iload_n hx hb d_Z_areNear_51 rfl (lv_at hl 0 rfl) ?_
    refine lv_iconst (v := 1) hx hb d_Z_areNear_52 (by decide) ?_
    refine lv_icmp_ne (tgt := 60) hx hb d_Z_areNear_53 (by decide) (fun h5 => ?_) (fun h5 => ?_)
    · have hF := it_f hF h5
      refine lv_iconst (v := 0) hx hb d_Z_areNear_60 (by decide) ?_
      have hF := rt1 hF
      subst hF
      exact W.zret (v := 0) hx hb hr rfl (fun t ht hW => ⟨_, rfl, rfl, ht.trans hH⟩) hN d_Z_areNear_61
    · have hF := it_t hF h5
      refine lv_iconst (v := 1) hx hb d_Z_areNear_56 (by decide) ?_
      refine lv_goto (tgt := 61) hx hb d_Z_areNear_57 (by decide) ?_
      have hF := rt1 hF
      subst hF
      exact W.zret (v := 1) hx hb hr rfl (fun t ht hW => ⟨_, rfl, rfl, ht.trans hH⟩) hN d_Z_areNear_61
set_option maxHeartbeats 4000000 in
set_option maxRecDepth 100000 in
theorem jn_Z_areNear_16 {p : Program} {l : Launch} {e : Env} {s : State} {m : MethodId} {args : Array Value} {below : List Frame} {meth : Method} {c : Code} (hx : p.tables.exec = Jvm.exec) (hb : c.code = b_Z_areNear) (hr : meth.sig.returnType = (some .boolean)) (hts : ∀ w ∈ ALL, w.before args s = true) (hown : s.vm.findClass R_Z = some m.cls) (hlocks : meth.locks = false) (hml : c.maxLocals = 3)  : ∀ (x0 : Int32) (x1 : Int32) (w0 : Int32)  (r0 : Int32), Fj_Z_areNear_16  x0 x1 w0 = some r0 → ∀ (H : Heap) (locs : List Loc) (ls : Array Slot), va_S (fun _ => True) s.heap H locs → H = s.heap → (∀ q ∈ locs, (fun _ => False) q.base) → lv_has ls 3 [(0, .int x0), (1, .int x1)] → W p l e ({ frames := 0, cells := 0, slots := 0, locals := 0 } : Room) s m args below meth c H locs 0 0 (MQ below (vp_Si (fun r => r = r0)) args s 0 0 (fun _ => False)) (F0 m 16 ls [.int w0]) := by
  intro x0 x1 w0 r0 hF H locs ls hS hH hN hl
  unfold Fj_Z_areNear_16 at hF
  refine lv_iload_n hx hb d_Z_areNear_16 rfl (lv_at hl 0 rfl) ?_
  refine lv_iconst (v := 3) hx hb d_Z_areNear_17 (by decide) ?_
  refine lv_idiv hx hb d_Z_areNear_18 (by decide) ?_
  refine lv_iconst (v := 3) hx hb d_Z_areNear_19 (by decide) ?_
  refine lv_irem hx hb d_Z_areNear_20 (by decide) ?_
  refine lv_iload_n hx hb d_Z_areNear_21 rfl (lv_at hl 1 rfl) ?_
  refine lv_iconst (v := 3) hx hb d_Z_areNear_22 (by decide) ?_
  refine lv_idiv hx hb d_Z_areNear_23 (by decide) ?_
  refine lv_iconst (v := 3) hx hb d_Z_areNear_24 (by decide) ?_
  refine lv_irem hx hb d_Z_areNear_25 (by decide) ?_
  refine lv_icmp_ne (tgt := 33) hx hb d_Z_areNear_26 (by decide) (fun h2 => ?_) (fun h2 => ?_)
  · have hF := it_f hF h2
    refine lv_iconst (v := 1) hx hb d_Z_areNear_33 (by decide) ?_
    exact jn_Z_areNear_34 hx hb hr hts hown hlocks hml  x0 x1 1 w0  r0 hF _ _ _ hS hH hN (lv_sub hl [0, 1] rfl)
  · have hF := it_t hF h2
    refine lv_iconst (v := 0) hx hb d_Z_areNear_29 (by decide) ?_
    refine lv_goto (tgt := 34) hx hb d_Z_areNear_30 (by decide) ?_
    exact jn_Z_areNear_34 hx hb hr hts hown hlocks hml  x0 x1 0 w0  r0 hF _ _ _ hS hH hN (lv_sub hl [0, 1] rfl)
set_option maxHeartbeats 4000000 in
set_option maxRecDepth 100000 in
theorem c_Z_areNear (l : Launch) {a1 : Int32} {a2 : Int32} {r0 : Int32}  (hF : F_Z_areNear  a1 a2 = some r0) : Met l y_Z_areNear ws_Z_areNear ({ frames := 0, cells := 0, slots := 0, locals := 0 } : Room) (va_Pc [.int a1, .int a2] (fun _ => True)) (vp_Si (fun r => r = r0)) 0 0 (fun _ => False) := by
  refine Met.ofW (cc := b_Z_areNear) (maxL := 3) (ret := (some .boolean)) (by decide +kernel) rfl ?_
  intro p e s m args below meth c s₁ B hml hv
  obtain ⟨rfl, -⟩ := hv
  have hx := B.exec
  have hb := B.bytes
  have hr := B.returns
  have hts : ∀ w ∈ ALL, w.before _ s = true := fun w h => atoms_spec (ws := ws_Z_areNear) B.pre w (List.mem_cons_of_mem _ h)
  have hown : s.vm.findClass R_Z = some m.cls := findClass_of_methodNamed B.named
  have hlocks := B.notSynchronized
  have hS : va_S (fun _ => True) s.heap s.heap [] := va_S.rf
  have hN : ∀ q ∈ ([] : List Loc), (fun _ => False) q.base := fun _ h => absurd h List.not_mem_nil
  have hl := lv_entry ([.int a1, .int a2]) (n := 3) (Nat.le_of_ble_eq_true rfl)
  rw [lg_entry_eq]
  generalize (lg_sl ([.int a1, .int a2]) ++ List.replicate (3 - (lg_sl ([.int a1, .int a2])).length) Slot.unset).toArray = ls at hl ⊢
  have hl : lv_has ls 3 [(0, .int a1), (1, .int a2)] := hl
  have hH : s.heap = s.heap := rfl
  unfold F_Z_areNear at hF
  refine lv_iload_n hx hb d_Z_areNear_0 rfl (lv_at hl 0 rfl) ?_
  refine lv_bipush (v := 9) hx hb d_Z_areNear_1 (by decide) ?_
  refine lv_idiv hx hb d_Z_areNear_3 (by decide) ?_
  refine lv_iload_n hx hb d_Z_areNear_4 rfl (lv_at hl 1 rfl) ?_
  refine lv_bipush (v := 9) hx hb d_Z_areNear_5 (by decide) ?_
  refine lv_idiv hx hb d_Z_areNear_7 (by decide) ?_
  refine lv_icmp_ne (tgt := 15) hx hb d_Z_areNear_8 (by decide) (fun h1 => ?_) (fun h1 => ?_)
  · have hF := it_f hF h1
    refine lv_iconst (v := 1) hx hb d_Z_areNear_15 (by decide) ?_
    exact jn_Z_areNear_16 hx hb hr hts hown hlocks hml  a1 a2 1  r0 hF _ _ _ hS hH hN (lv_sub hl [0, 1] rfl)
  · have hF := it_t hF h1
    refine lv_iconst (v := 0) hx hb d_Z_areNear_11 (by decide) ?_
    refine lv_goto (tgt := 16) hx hb d_Z_areNear_12 (by decide) ?_
    exact jn_Z_areNear_16 hx hb hr hts hown hlocks hml  a1 a2 0  r0 hF _ _ _ hS hH hN (lv_sub hl [0, 1] rfl)
def ws_Z_spread : List Cond := Cond.code y_Z_spread b_Z_spread 4 (some .int) :: ALL
theorem w_Z_spread {R : Room} {s : State} {args : Array Value} {own : String} {index : Nat} (hts : ∀ w ∈ ALL, w.before args s = true) (hlk : Cond.methodLink own index y_Z_spread ∈ ALL) (hR : (({ frames := 1, cells := 0, slots := 0, locals := 26 } : Room)).frames + 1 ≤ R.frames ∧ 8 + (4 + 11) + (({ frames := 1, cells := 0, slots := 0, locals := 26 } : Room)).locals ≤ R.locals) : CallW R s args own R_Z index y_Z_spread b_Z_spread 4 (some .int) ws_Z_spread ({ frames := 1, cells := 0, slots := 0, locals := 26 } : Room) 0 0 1 := ⟨callB_of 1 hts (good_c a_760) rfl rfl rfl (hts _ a_8) (hts _ hlk) (by decide +kernel) hR, hts _ a_758, hts _ a_759⟩
theorem d_Z_spread_0 : decode b_Z_spread 0 = .ok (.aload_n 0, 1) := by decide +kernel
theorem d_Z_spread_1 : decode b_Z_spread 1 = .ok (.iload_n 1, 1) := by decide +kernel
theorem d_Z_spread_2 : decode b_Z_spread 2 = .ok (.invokestatic 122, 3) := by decide +kernel
theorem d_Z_spread_5 : decode b_Z_spread 5 = .ok (.ifCond .ne 7, 3) := by decide +kernel
theorem d_Z_spread_8 : decode b_Z_spread 8 = .ok (.iconst 1, 1) := by decide +kernel
theorem d_Z_spread_9 : decode b_Z_spread 9 = .ok (.goto 17, 3) := by decide +kernel
theorem d_Z_spread_12 : decode b_Z_spread 12 = .ok (.aload_n 0, 1) := by decide +kernel
theorem d_Z_spread_13 : decode b_Z_spread 13 = .ok (.getfield 22, 3) := by decide +kernel
theorem d_Z_spread_16 : decode b_Z_spread 16 = .ok (.iload_n 1, 1) := by decide +kernel
theorem d_Z_spread_17 : decode b_Z_spread 17 = .ok (.baload, 1) := by decide +kernel
theorem d_Z_spread_18 : decode b_Z_spread 18 = .ok (.ifCond .eq 7, 3) := by decide +kernel
theorem d_Z_spread_21 : decode b_Z_spread 21 = .ok (.iconst 2, 1) := by decide +kernel
theorem d_Z_spread_22 : decode b_Z_spread 22 = .ok (.goto 4, 3) := by decide +kernel
theorem d_Z_spread_25 : decode b_Z_spread 25 = .ok (.iconst 0, 1) := by decide +kernel
theorem d_Z_spread_26 : decode b_Z_spread 26 = .ok (.putfield 95, 3) := by decide +kernel
theorem d_Z_spread_29 : decode b_Z_spread 29 = .ok (.aload_n 0, 1) := by decide +kernel
theorem d_Z_spread_30 : decode b_Z_spread 30 = .ok (.getfield 95, 3) := by decide +kernel
theorem d_Z_spread_33 : decode b_Z_spread 33 = .ok (.ifCond .le 5, 3) := by decide +kernel
theorem d_Z_spread_36 : decode b_Z_spread 36 = .ok (.iconst 0, 1) := by decide +kernel
theorem d_Z_spread_37 : decode b_Z_spread 37 = .ok (.ireturn, 1) := by decide +kernel
theorem d_Z_spread_38 : decode b_Z_spread 38 = .ok (.aload_n 0, 1) := by decide +kernel
theorem d_Z_spread_39 : decode b_Z_spread 39 = .ok (.iconst 0, 1) := by decide +kernel
theorem d_Z_spread_40 : decode b_Z_spread 40 = .ok (.putfield 128, 3) := by decide +kernel
theorem d_Z_spread_43 : decode b_Z_spread 43 = .ok (.iconst 0, 1) := by decide +kernel
theorem d_Z_spread_44 : decode b_Z_spread 44 = .ok (.istore_n 2, 1) := by decide +kernel
theorem d_Z_spread_45 : decode b_Z_spread 45 = .ok (.iload_n 2, 1) := by decide +kernel
theorem d_Z_spread_46 : decode b_Z_spread 46 = .ok (.bipush 6, 2) := by decide +kernel
theorem d_Z_spread_48 : decode b_Z_spread 48 = .ok (.if_icmp .ge 67, 3) := by decide +kernel
theorem d_Z_spread_51 : decode b_Z_spread 51 = .ok (.iconst 0, 1) := by decide +kernel
theorem d_Z_spread_52 : decode b_Z_spread 52 = .ok (.istore_n 3, 1) := by decide +kernel
theorem d_Z_spread_53 : decode b_Z_spread 53 = .ok (.iload_n 3, 1) := by decide +kernel
theorem d_Z_spread_54 : decode b_Z_spread 54 = .ok (.bipush 27, 2) := by decide +kernel
theorem d_Z_spread_56 : decode b_Z_spread 56 = .ok (.if_icmp .ge 53, 3) := by decide +kernel
theorem d_Z_spread_59 : decode b_Z_spread 59 = .ok (.aload_n 0, 1) := by decide +kernel
theorem d_Z_spread_60 : decode b_Z_spread 60 = .ok (.getfield 38, 3) := by decide +kernel
theorem d_Z_spread_63 : decode b_Z_spread 63 = .ok (.bipush 6, 2) := by decide +kernel
theorem d_Z_spread_65 : decode b_Z_spread 65 = .ok (.iload_n 1, 1) := by decide +kernel
theorem d_Z_spread_66 : decode b_Z_spread 66 = .ok (.imul, 1) := by decide +kernel
theorem d_Z_spread_67 : decode b_Z_spread 67 = .ok (.iload_n 2, 1) := by decide +kernel
theorem d_Z_spread_68 : decode b_Z_spread 68 = .ok (.iadd, 1) := by decide +kernel
theorem d_Z_spread_69 : decode b_Z_spread 69 = .ok (.iaload, 1) := by decide +kernel
theorem d_Z_spread_70 : decode b_Z_spread 70 = .ok (.ifCond .le 33, 3) := by decide +kernel
theorem d_Z_spread_73 : decode b_Z_spread 73 = .ok (.iload_n 1, 1) := by decide +kernel
theorem d_Z_spread_74 : decode b_Z_spread 74 = .ok (.iload_n 3, 1) := by decide +kernel
theorem d_Z_spread_75 : decode b_Z_spread 75 = .ok (.invokestatic 162, 3) := by decide +kernel
theorem d_Z_spread_78 : decode b_Z_spread 78 = .ok (.ifCond .eq 25, 3) := by decide +kernel
theorem d_Z_spread_81 : decode b_Z_spread 81 = .ok (.aload_n 0, 1) := by decide +kernel
theorem d_Z_spread_82 : decode b_Z_spread 82 = .ok (.iconst 5, 1) := by decide +kernel
theorem d_Z_spread_83 : decode b_Z_spread 83 = .ok (.iload_n 1, 1) := by decide +kernel
theorem d_Z_spread_84 : decode b_Z_spread 84 = .ok (.iload_n 3, 1) := by decide +kernel
theorem d_Z_spread_85 : decode b_Z_spread 85 = .ok (.iconst 0, 1) := by decide +kernel
theorem d_Z_spread_86 : decode b_Z_spread 86 = .ok (.iload_n 2, 1) := by decide +kernel
theorem d_Z_spread_87 : decode b_Z_spread 87 = .ok (.aload_n 0, 1) := by decide +kernel
theorem d_Z_spread_88 : decode b_Z_spread 88 = .ok (.getfield 38, 3) := by decide +kernel
theorem d_Z_spread_91 : decode b_Z_spread 91 = .ok (.bipush 6, 2) := by decide +kernel
theorem d_Z_spread_93 : decode b_Z_spread 93 = .ok (.iload_n 1, 1) := by decide +kernel
theorem d_Z_spread_94 : decode b_Z_spread 94 = .ok (.imul, 1) := by decide +kernel
theorem d_Z_spread_95 : decode b_Z_spread 95 = .ok (.iload_n 2, 1) := by decide +kernel
theorem d_Z_spread_96 : decode b_Z_spread 96 = .ok (.iadd, 1) := by decide +kernel
theorem d_Z_spread_97 : decode b_Z_spread 97 = .ok (.iaload, 1) := by decide +kernel
theorem d_Z_spread_98 : decode b_Z_spread 98 = .ok (.iconst 1, 1) := by decide +kernel
theorem d_Z_spread_99 : decode b_Z_spread 99 = .ok (.isub, 1) := by decide +kernel
theorem d_Z_spread_100 : decode b_Z_spread 100 = .ok (.invokevirtual 134, 3) := by decide +kernel
theorem d_Z_spread_103 : decode b_Z_spread 103 = .ok (.iinc 3 1, 3) := by decide +kernel
theorem d_Z_spread_106 : decode b_Z_spread 106 = .ok (.goto (-53), 3) := by decide +kernel
theorem d_Z_spread_109 : decode b_Z_spread 109 = .ok (.iinc 2 1, 3) := by decide +kernel
theorem d_Z_spread_112 : decode b_Z_spread 112 = .ok (.goto (-67), 3) := by decide +kernel
theorem d_Z_spread_115 : decode b_Z_spread 115 = .ok (.aload_n 0, 1) := by decide +kernel
theorem d_Z_spread_116 : decode b_Z_spread 116 = .ok (.getfield 128, 3) := by decide +kernel
theorem d_Z_spread_119 : decode b_Z_spread 119 = .ok (.ireturn, 1) := by decide +kernel
def Fl_Z_spread_53 (K45 : ZW → Int32 → Int32 → Option (Int32 × ZW)) : Nat → ZW → Int32 → Int32 → Int32 → Option (Int32 × ZW)
  | 0, _, _, _, _ => none
  | n + 1, z, x1, x2, x3 => (if 27 ≤ x3 then K45 z x1 (x2 + 1) else (if 0 ≤ ((6 * x1) + x2) ∧ (((6 * x1) + x2)).toNatClampNeg < 162 then (if (z.1 10 (((6 * x1) + x2)).toNatClampNeg) ≤ 0 then (Fl_Z_spread_53 K45 n) z x1 x2 (x3 + 1) else (bs_ (F_Z_areNear x1 x3) fun r15 => (if r15 = 0 then (Fl_Z_spread_53 K45 n) z x1 x2 (x3 + 1) else (if 0 ≤ ((6 * x1) + x2) ∧ (((6 * x1) + x2)).toNatClampNeg < 162 then (bs_ (F_Z_send z 5 x1 x3 0 x2 ((z.1 10 (((6 * x1) + x2)).toNatClampNeg) - 1)) fun z21 => (Fl_Z_spread_53 K45 n) z21 x1 x2 (x3 + 1)) else none)))) else none))
def Fl_Z_spread_45  : Nat → ZW → Int32 → Int32 → Option (Int32 × ZW)
  | 0, _, _, _ => none
  | n + 1, z, x1, x2 => (if 6 ≤ x2 then some ((z.1 0 31), z) else Fl_Z_spread_53 (Fl_Z_spread_45 n) 200 z x1 x2 0)
def Fj_Z_spread_26  (z : ZW) (x1 : Int32) (w0 : Int32) : Option (Int32 × ZW) := (nm_ (pz z 0 0 w0) fun z6 => (if (z6.1 0 0) ≤ 0 then (nm_ (pz z6 0 31 0) fun z9 => Fl_Z_spread_45  200 z9 x1 0) else some (0, z6)))
def F_Z_spread (z : ZW) (a1 : Int32) : Option (Int32 × ZW) := (bs_ (F_Z_isOffice a1) fun r1 => (if r1 = 0 then Fj_Z_spread_26  z a1 1 else (if 0 ≤ a1 ∧ (a1).toNatClampNeg < 27 then (if (z.1 5 (a1).toNatClampNeg) = 0 then Fj_Z_spread_26  z a1 0 else Fj_Z_spread_26  z a1 2) else none)))
set_option maxHeartbeats 4000000 in
set_option maxRecDepth 100000 in
theorem lp_Z_spread_53 {p : Program} {l : Launch} {e : Env} {s : State} {m : MethodId} {args : Array Value} {below : List Frame} {meth : Method} {c : Code} {D : va_G} {ad : Nat → Nat → Nat} {ca : Nat → ClassId} {u : XC} (hx : p.tables.exec = Jvm.exec) (hb : c.code = b_Z_spread) (hr : meth.sig.returnType = (some .int)) (hts : ∀ w ∈ ALL, w.before args s = true) (hown : s.vm.findClass R_Z = some m.cls) (hlocks : meth.locks = false) (hml : c.maxLocals = 4) (hK : va_K D CLS (TYH ca) s) (hD0 : ∀ z u, va_D (AH ad) (wh ad ca z u)) (hD : ∀ z u, va_D (AH ad) (wh ad ca z u)) {K45 : ZW → Int32 → Int32 → Option (Int32 × ZW)} (ihK45 : ∀ (z : ZW) (x1 : Int32) (x2 : Int32)  (r0 : Int32) (z0 : ZW), K45 z x1 x2 = some (r0, z0) → ∀ (H : Heap) (locs : List Loc) (ls : Array Slot), va_P D CLS (wh ad ca z u) H → va_S (AH ad) s.heap H locs → lv_has ls 4 [(0, .ref (ad 14 0)), (1, .int x1), (2, .int x2)] → W p l e ({ frames := 1, cells := 0, slots := 0, locals := 26 } : Room) s m args below meth c H locs 0 0 (MQ below (va_Qi (fun (r : Int32) (_ : Unit) => r = r0) (fun _ t => va_P D CLS (wh ad ca z0 u) t.heap) (AH ad)) args s 0 0 (AH ad)) (F0 m 45 ls [])) : ∀ (n : Nat), ∀ (z : ZW) (x1 : Int32) (x2 : Int32) (x3 : Int32)  (r0 : Int32) (z0 : ZW), Fl_Z_spread_53 K45 n z x1 x2 x3 = some (r0, z0) → ∀ (H : Heap) (locs : List Loc) (ls : Array Slot), va_P D CLS (wh ad ca z u) H → va_S (AH ad) s.heap H locs → lv_has ls 4 [(0, .ref (ad 14 0)), (1, .int x1), (2, .int x2), (3, .int x3)] → W p l e ({ frames := 1, cells := 0, slots := 0, locals := 26 } : Room) s m args below meth c H locs 0 0 (MQ below (va_Qi (fun (r : Int32) (_ : Unit) => r = r0) (fun _ t => va_P D CLS (wh ad ca z0 u) t.heap) (AH ad)) args s 0 0 (AH ad)) (F0 m 53 ls []) := by
  intro n
  induction n with
  | zero => intro z x1 x2 x3 r0 z0 hF; rw [Fl_Z_spread_53] at hF; cases hF
  | succ n ih =>
    intro z x1 x2 x3 r0 z0 hF H locs ls hP hS hl
    rw [Fl_Z_spread_53] at hF
    refine lv_iload_n hx hb d_Z_spread_53 rfl (lv_at hl 3 rfl) ?_
    refine lv_bipush (v := 27) hx hb d_Z_spread_54 (by decide) ?_
    refine lv_icmp_ge (tgt := 109) hx hb d_Z_spread_56 (by decide) (fun h12 => ?_) (fun h12 => ?_)
    · have hF := it_t hF h12
      refine lv_iinc (k := 2) (v := (x2 + 1)) (lv' := [(2, .int (x2 + 1)), (0, .ref (ad 14 0)), (1, .int x1), (3, .int x3)]) hx hb d_Z_spread_109 hl rfl rfl (by decide) rfl (fun ls hl => ?_)
      refine lv_goto (tgt := 45) hx hb d_Z_spread_112 (by decide) ?_
      exact ihK45 z x1 (x2 + 1)  r0 z0 hF _ _ _ hP hS (lv_sub hl [1, 2, 0] rfl)
    · have hF := it_f hF h12
      refine lv_aload_n hx hb d_Z_spread_59 rfl (lv_at hl 0 rfl) ?_
      refine gf_Z_11 hx hb hts hown hK hP (by decide) a_569 d_Z_spread_60 ?_
      refine lv_bipush (v := 6) hx hb d_Z_spread_63 (by decide) ?_
      refine lv_iload_n hx hb d_Z_spread_65 rfl (lv_at hl 1 rfl) ?_
      refine lv_imul hx hb d_Z_spread_66 ?_
      refine lv_iload_n hx hb d_Z_spread_67 rfl (lv_at hl 2 rfl) ?_
      refine lv_iadd hx hb d_Z_spread_68 ?_
      obtain ⟨h13, hF⟩ := as_u hF
      refine l_zi hx hb hK hP 10 162 ⟨by decide, by decide, by decide⟩ rfl h13 d_Z_spread_69 ?_
      refine lv_if_le (tgt := 103) hx hb d_Z_spread_70 (by decide) (fun h14 => ?_) (fun h14 => ?_)
      · have hF := it_t hF h14
        refine lv_iinc (k := 3) (v := (x3 + 1)) (lv' := [(3, .int (x3 + 1)), (0, .ref (ad 14 0)), (1, .int x1), (2, .int x2)]) hx hb d_Z_spread_103 hl rfl rfl (by decide) rfl (fun ls hl => ?_)
        refine lv_goto (tgt := 53) hx hb d_Z_spread_106 (by decide) ?_
        exact ih z x1 x2 (x3 + 1)  r0 z0 hF _ _ _ hP hS (lv_sub hl [1, 2, 3, 0] rfl)
      · have hF := it_f hF h14
        refine lv_iload_n hx hb d_Z_spread_73 rfl (lv_at hl 1 rfl) ?_
        refine lv_iload_n hx hb d_Z_spread_74 rfl (lv_at hl 3 rfl) ?_
        obtain ⟨r15, h16, hF⟩ := bs_u hF
        refine k_sp [.int x1, .int x3] [] ⟨hx, hb, hml, hown, hts⟩ (c_Z_areNear l  h16) (w_Z_areNear hts a_761 ⟨Nat.le_of_ble_eq_true rfl, Nat.le_of_ble_eq_true rfl⟩) rfl rfl hl.1 (Nat.le_of_ble_eq_true rfl) ⟨Nat.zero_le _, Nat.zero_le _⟩ d_Z_spread_75 ?_
        refine lv_if_eq (tgt := 103) hx hb d_Z_spread_78 (by decide) (fun h17 => ?_) (fun h17 => ?_)
        · have hF := it_t hF h17
          refine lv_iinc (k := 3) (v := (x3 + 1)) (lv' := [(3, .int (x3 + 1)), (0, .ref (ad 14 0)), (1, .int x1), (2, .int x2)]) hx hb d_Z_spread_103 hl rfl rfl (by decide) rfl (fun ls hl => ?_)
          refine lv_goto (tgt := 53) hx hb d_Z_spread_106 (by decide) ?_
          exact ih z x1 x2 (x3 + 1)  r0 z0 hF _ _ _ hP hS (lv_sub hl [1, 2, 3, 0] rfl)
        · have hF := it_f hF h17
          refine lv_aload_n hx hb d_Z_spread_81 rfl (lv_at hl 0 rfl) ?_
          refine lv_iconst (v := 5) hx hb d_Z_spread_82 (by decide) ?_
          refine lv_iload_n hx hb d_Z_spread_83 rfl (lv_at hl 1 rfl) ?_
          refine lv_iload_n hx hb d_Z_spread_84 rfl (lv_at hl 3 rfl) ?_
          refine lv_iconst (v := 0) hx hb d_Z_spread_85 (by decide) ?_
          refine lv_iload_n hx hb d_Z_spread_86 rfl (lv_at hl 2 rfl) ?_
          refine lv_aload_n hx hb d_Z_spread_87 rfl (lv_at hl 0 rfl) ?_
          refine gf_Z_11 hx hb hts hown hK hP (by decide) a_569 d_Z_spread_88 ?_
          refine lv_bipush (v := 6) hx hb d_Z_spread_91 (by decide) ?_
          refine lv_iload_n hx hb d_Z_spread_93 rfl (lv_at hl 1 rfl) ?_
          refine lv_imul hx hb d_Z_spread_94 ?_
          refine lv_iload_n hx hb d_Z_spread_95 rfl (lv_at hl 2 rfl) ?_
          refine lv_iadd hx hb d_Z_spread_96 ?_
          obtain ⟨h18, hF⟩ := as_u hF
          refine l_zi hx hb hK hP 10 162 ⟨by decide, by decide, by decide⟩ rfl h18 d_Z_spread_97 ?_
          refine lv_iconst (v := 1) hx hb d_Z_spread_98 (by decide) ?_
          refine lv_isub hx hb d_Z_spread_99 ?_
          obtain ⟨z21, h20, hF⟩ := bs_u hF
          refine k_vv (ad 14 0) [.int 5, .int x1, .int x3, .int 0, .int x2, .int ((z.1 10 (((6 * x1) + x2)).toNatClampNeg) - 1)] [] ⟨hx, hb, hml, hown, hts⟩ (c_Z_send l D ad ca hD0 (z := z) (u := u)  h20) (w_Z_send hts a_745 ⟨Nat.le_of_ble_eq_true rfl, Nat.le_of_ble_eq_true rfl⟩) (rv_Z hK hP (by decide)) hP hK hS (fun _ h => h) rfl rfl hl.1 (Nat.le_of_ble_eq_true rfl) ⟨Nat.zero_le _, Nat.zero_le _⟩ d_Z_spread_100 (fun H locs hP hS => ?_)
          refine lv_iinc (k := 3) (v := (x3 + 1)) (lv' := [(3, .int (x3 + 1)), (0, .ref (ad 14 0)), (1, .int x1), (2, .int x2)]) hx hb d_Z_spread_103 hl rfl rfl (by decide) rfl (fun ls hl => ?_)
          refine lv_goto (tgt := 53) hx hb d_Z_spread_106 (by decide) ?_
          exact ih z21 x1 x2 (x3 + 1)  r0 z0 hF _ _ _ hP hS (lv_sub hl [1, 2, 3, 0] rfl)
set_option maxHeartbeats 4000000 in
set_option maxRecDepth 100000 in
theorem lp_Z_spread_45 {p : Program} {l : Launch} {e : Env} {s : State} {m : MethodId} {args : Array Value} {below : List Frame} {meth : Method} {c : Code} {D : va_G} {ad : Nat → Nat → Nat} {ca : Nat → ClassId} {u : XC} (hx : p.tables.exec = Jvm.exec) (hb : c.code = b_Z_spread) (hr : meth.sig.returnType = (some .int)) (hts : ∀ w ∈ ALL, w.before args s = true) (hown : s.vm.findClass R_Z = some m.cls) (hlocks : meth.locks = false) (hml : c.maxLocals = 4) (hK : va_K D CLS (TYH ca) s) (hD0 : ∀ z u, va_D (AH ad) (wh ad ca z u)) (hD : ∀ z u, va_D (AH ad) (wh ad ca z u))  : ∀ (n : Nat), ∀ (z : ZW) (x1 : Int32) (x2 : Int32)  (r0 : Int32) (z0 : ZW), Fl_Z_spread_45  n z x1 x2 = some (r0, z0) → ∀ (H : Heap) (locs : List Loc) (ls : Array Slot), va_P D CLS (wh ad ca z u) H → va_S (AH ad) s.heap H locs → lv_has ls 4 [(0, .ref (ad 14 0)), (1, .int x1), (2, .int x2)] → W p l e ({ frames := 1, cells := 0, slots := 0, locals := 26 } : Room) s m args below meth c H locs 0 0 (MQ below (va_Qi (fun (r : Int32) (_ : Unit) => r = r0) (fun _ t => va_P D CLS (wh ad ca z0 u) t.heap) (AH ad)) args s 0 0 (AH ad)) (F0 m 45 ls []) := by
  intro n
  induction n with
  | zero => intro z x1 x2 r0 z0 hF; rw [Fl_Z_spread_45] at hF; cases hF
  | succ n ih =>
    intro z x1 x2 r0 z0 hF H locs ls hP hS hl
    rw [Fl_Z_spread_45] at hF
    refine lv_iload_n hx hb d_Z_spread_45 rfl (lv_at hl 2 rfl) ?_
    refine lv_bipush (v := 6) hx hb d_Z_spread_46 (by decide) ?_
    refine lv_icmp_ge (tgt := 115) hx hb d_Z_spread_48 (by decide) (fun h11 => ?_) (fun h11 => ?_)
    · have hF := it_t hF h11
      refine lv_aload_n hx hb d_Z_spread_115 rfl (lv_at hl 0 rfl) ?_
      refine gf_Z_31 hx hb hts hown hK hP (by decide) a_589 d_Z_spread_116 ?_
      obtain ⟨rfl, rfl⟩ := rt2 hF
      exact W.iret (v := (z.1 0 31)) hx hb hr (fun t ht hW => ⟨⟨_, (), rfl, rfl, vp_at ht hP⟩, hS.F ht⟩) hS.2.2 d_Z_spread_119
    · have hF := it_f hF h11
      refine lv_iconst (v := 0) hx hb d_Z_spread_51 (by decide) ?_
      refine lv_istore_n (lv' := [(3, .int 0), (0, .ref (ad 14 0)), (1, .int x1), (2, .int x2)]) hx hb d_Z_spread_52 rfl hl (by decide) rfl (fun ls hl => ?_)
      exact lp_Z_spread_53 hx hb hr hts hown hlocks hml hK hD0 hD ih 200 z x1 x2 0  r0 z0 hF _ _ _ hP hS (lv_sub hl [1, 2, 3, 0] rfl)
set_option maxHeartbeats 4000000 in
set_option maxRecDepth 100000 in
theorem jn_Z_spread_26 {p : Program} {l : Launch} {e : Env} {s : State} {m : MethodId} {args : Array Value} {below : List Frame} {meth : Method} {c : Code} {D : va_G} {ad : Nat → Nat → Nat} {ca : Nat → ClassId} {u : XC} (hx : p.tables.exec = Jvm.exec) (hb : c.code = b_Z_spread) (hr : meth.sig.returnType = (some .int)) (hts : ∀ w ∈ ALL, w.before args s = true) (hown : s.vm.findClass R_Z = some m.cls) (hlocks : meth.locks = false) (hml : c.maxLocals = 4) (hK : va_K D CLS (TYH ca) s) (hD0 : ∀ z u, va_D (AH ad) (wh ad ca z u)) (hD : ∀ z u, va_D (AH ad) (wh ad ca z u))  : ∀ (z : ZW) (x1 : Int32) (w0 : Int32)  (r0 : Int32) (z0 : ZW), Fj_Z_spread_26  z x1 w0 = some (r0, z0) → ∀ (H : Heap) (locs : List Loc) (ls : Array Slot), va_P D CLS (wh ad ca z u) H → va_S (AH ad) s.heap H locs → lv_has ls 4 [(0, .ref (ad 14 0)), (1, .int x1)] → W p l e ({ frames := 1, cells := 0, slots := 0, locals := 26 } : Room) s m args below meth c H locs 0 0 (MQ below (va_Qi (fun (r : Int32) (_ : Unit) => r = r0) (fun _ t => va_P D CLS (wh ad ca z0 u) t.heap) (AH ad)) args s 0 0 (AH ad)) (F0 m 26 ls [.int w0, .ref (ad 14 0)]) := by
  intro z x1 w0 r0 z0 hF H locs ls hP hS hl
  unfold Fj_Z_spread_26 at hF
  obtain ⟨z6, h7, hF⟩ := nm_u hF
  refine pf_Z_0 hx hb hts hown hK hP hD hS (by decide) h7 a_558 d_Z_spread_26 (fun H locs hP hS => ?_)
  refine lv_aload_n hx hb d_Z_spread_29 rfl (lv_at hl 0 rfl) ?_
  refine gf_Z_0 hx hb hts hown hK hP (by decide) a_558 d_Z_spread_30 ?_
  refine lv_if_le (tgt := 38) hx hb d_Z_spread_33 (by decide) (fun h8 => ?_) (fun h8 => ?_)
  · have hF := it_t hF h8
    refine lv_aload_n hx hb d_Z_spread_38 rfl (lv_at hl 0 rfl) ?_
    refine lv_iconst (v := 0) hx hb d_Z_spread_39 (by decide) ?_
    obtain ⟨z9, h10, hF⟩ := nm_u hF
    refine pf_Z_31 hx hb hts hown hK hP hD hS (by decide) h10 a_589 d_Z_spread_40 (fun H locs hP hS => ?_)
    refine lv_iconst (v := 0) hx hb d_Z_spread_43 (by decide) ?_
    refine lv_istore_n (lv' := [(2, .int 0), (0, .ref (ad 14 0)), (1, .int x1)]) hx hb d_Z_spread_44 rfl hl (by decide) rfl (fun ls hl => ?_)
    exact lp_Z_spread_45 hx hb hr hts hown hlocks hml hK hD0 hD  200 z9 x1 0  r0 z0 hF _ _ _ hP hS (lv_sub hl [1, 2, 0] rfl)
  · have hF := it_f hF h8
    refine lv_iconst (v := 0) hx hb d_Z_spread_36 (by decide) ?_
    obtain ⟨rfl, rfl⟩ := rt2 hF
    exact W.iret (v := 0) hx hb hr (fun t ht hW => ⟨⟨_, (), rfl, rfl, vp_at ht hP⟩, hS.F ht⟩) hS.2.2 d_Z_spread_37
set_option maxHeartbeats 4000000 in
set_option maxRecDepth 100000 in
theorem c_Z_spread (l : Launch) (D : va_G) (ad : Nat → Nat → Nat) (ca : Nat → ClassId) (hD0 : ∀ z u, va_D (AH ad) (wh ad ca z u)) {z : ZW} {u : XC} {a1 : Int32} {r0 : Int32} {z0 : ZW}  (hF : F_Z_spread z a1 = some (r0, z0)) : Met l y_Z_spread ws_Z_spread ({ frames := 1, cells := 0, slots := 0, locals := 26 } : Room) (va_Pc [.ref (ad 14 0), .int a1] (fun U => va_P D CLS (wh ad ca z u) U.heap ∧ va_K D CLS (TYH ca) U)) (va_Qi (fun (r : Int32) (_ : Unit) => r = r0) (fun _ t => va_P D CLS (wh ad ca z0 u) t.heap) (AH ad)) 0 0 (AH ad) := by
  refine Met.ofW (cc := b_Z_spread) (maxL := 4) (ret := (some .int)) (by decide +kernel) rfl ?_
  intro p e s m args below meth c s₁ B hml hv
  obtain ⟨rfl, hP, hK⟩ := hv
  have hx := B.exec
  have hb := B.bytes
  have hr := B.returns
  have hts : ∀ w ∈ ALL, w.before _ s = true := fun w h => atoms_spec (ws := ws_Z_spread) B.pre w (List.mem_cons_of_mem _ h)
  have hown : s.vm.findClass R_Z = some m.cls := findClass_of_methodNamed B.named
  have hlocks := B.notSynchronized
  have hD := hD0
  have hS : va_S (AH ad) s.heap s.heap [] := va_S.rf
  have hP : va_P D CLS (wh ad ca z u) s.heap := hP
  have hl := lv_entry ([.ref (ad 14 0), .int a1]) (n := 4) (Nat.le_of_ble_eq_true rfl)
  rw [lg_entry_eq]
  generalize (lg_sl ([.ref (ad 14 0), .int a1]) ++ List.replicate (4 - (lg_sl ([.ref (ad 14 0), .int a1])).length) Slot.unset).toArray = ls at hl ⊢
  have hl : lv_has ls 4 [(0, .ref (ad 14 0)), (1, .int a1)] := hl
  unfold F_Z_spread at hF
  refine lv_aload_n hx hb d_Z_spread_0 rfl (lv_at hl 0 rfl) ?_
  refine lv_iload_n hx hb d_Z_spread_1 rfl (lv_at hl 1 rfl) ?_
  obtain ⟨r1, h2, hF⟩ := bs_u hF
  refine k_sp [.int a1] [.ref (ad 14 0)] ⟨hx, hb, hml, hown, hts⟩ (c_Z_isOffice l  h2) (w_Z_isOffice hts a_691 ⟨Nat.le_of_ble_eq_true rfl, Nat.le_of_ble_eq_true rfl⟩) rfl rfl hl.1 (Nat.le_of_ble_eq_true rfl) ⟨Nat.zero_le _, Nat.zero_le _⟩ d_Z_spread_2 ?_
  refine lv_if_ne (tgt := 12) hx hb d_Z_spread_5 (by decide) (fun h3 => ?_) (fun h3 => ?_)
  · have hF := it_f hF h3
    refine lv_aload_n hx hb d_Z_spread_12 rfl (lv_at hl 0 rfl) ?_
    refine gf_Z_6 hx hb hts hown hK hP (by decide) a_564 d_Z_spread_13 ?_
    refine lv_iload_n hx hb d_Z_spread_16 rfl (lv_at hl 1 rfl) ?_
    obtain ⟨h4, hF⟩ := as_u hF
    refine l_zb hx hb hK hP 5 27 rfl rfl h4 d_Z_spread_17 ?_
    refine lv_if_eq (tgt := 25) hx hb d_Z_spread_18 (by decide) (fun h5 => ?_) (fun h5 => ?_)
    · have hF := it_t hF h5
      refine lv_iconst (v := 0) hx hb d_Z_spread_25 (by decide) ?_
      exact jn_Z_spread_26 hx hb hr hts hown hlocks hml hK hD0 hD  z a1 0  r0 z0 hF _ _ _ hP hS (lv_sub hl [0, 1] rfl)
    · have hF := it_f hF h5
      refine lv_iconst (v := 2) hx hb d_Z_spread_21 (by decide) ?_
      refine lv_goto (tgt := 26) hx hb d_Z_spread_22 (by decide) ?_
      exact jn_Z_spread_26 hx hb hr hts hown hlocks hml hK hD0 hD  z a1 2  r0 z0 hF _ _ _ hP hS (lv_sub hl [0, 1] rfl)
  · have hF := it_t hF h3
    refine lv_iconst (v := 1) hx hb d_Z_spread_8 (by decide) ?_
    refine lv_goto (tgt := 26) hx hb d_Z_spread_9 (by decide) ?_
    exact jn_Z_spread_26 hx hb hr hts hown hlocks hml hK hD0 hD  z a1 1  r0 z0 hF _ _ _ hP hS (lv_sub hl [0, 1] rfl)
def ws_Z_getAsk : List Cond := Cond.code y_Z_getAsk b_Z_getAsk 6 none :: ALL
theorem w_Z_getAsk {R : Room} {s : State} {args : Array Value} {own : String} {index : Nat} (hts : ∀ w ∈ ALL, w.before args s = true) (hlk : Cond.methodLink own index y_Z_getAsk ∈ ALL) (hR : (({ frames := 1, cells := 0, slots := 0, locals := 26 } : Room)).frames + 1 ≤ R.frames ∧ 8 + (6 + 11) + (({ frames := 1, cells := 0, slots := 0, locals := 26 } : Room)).locals ≤ R.locals) : CallW R s args own R_Z index y_Z_getAsk b_Z_getAsk 6 none ws_Z_getAsk ({ frames := 1, cells := 0, slots := 0, locals := 26 } : Room) 0 0 4 := ⟨callB_of 4 hts (good_c a_771) rfl rfl rfl (hts _ a_8) (hts _ hlk) (by decide +kernel) hR, hts _ a_770, hts _ a_s19⟩
theorem d_Z_getAsk_0 : decode b_Z_getAsk 0 = .ok (.iload_n 3, 1) := by decide +kernel
theorem d_Z_getAsk_1 : decode b_Z_getAsk 1 = .ok (.aload_n 0, 1) := by decide +kernel
theorem d_Z_getAsk_2 : decode b_Z_getAsk 2 = .ok (.getfield 29, 3) := by decide +kernel
theorem d_Z_getAsk_5 : decode b_Z_getAsk 5 = .ok (.iload_n 1, 1) := by decide +kernel
theorem d_Z_getAsk_6 : decode b_Z_getAsk 6 = .ok (.iaload, 1) := by decide +kernel
theorem d_Z_getAsk_7 : decode b_Z_getAsk 7 = .ok (.if_icmp .ge 19, 3) := by decide +kernel
theorem d_Z_getAsk_10 : decode b_Z_getAsk 10 = .ok (.aload_n 0, 1) := by decide +kernel
theorem d_Z_getAsk_11 : decode b_Z_getAsk 11 = .ok (.iconst 2, 1) := by decide +kernel
theorem d_Z_getAsk_12 : decode b_Z_getAsk 12 = .ok (.iload_n 1, 1) := by decide +kernel
theorem d_Z_getAsk_13 : decode b_Z_getAsk 13 = .ok (.iload_n 2, 1) := by decide +kernel
theorem d_Z_getAsk_14 : decode b_Z_getAsk 14 = .ok (.iload_n 3, 1) := by decide +kernel
theorem d_Z_getAsk_15 : decode b_Z_getAsk 15 = .ok (.iconst (-1), 1) := by decide +kernel
theorem d_Z_getAsk_16 : decode b_Z_getAsk 16 = .ok (.aload_n 0, 1) := by decide +kernel
theorem d_Z_getAsk_17 : decode b_Z_getAsk 17 = .ok (.getfield 29, 3) := by decide +kernel
theorem d_Z_getAsk_20 : decode b_Z_getAsk 20 = .ok (.iload_n 1, 1) := by decide +kernel
theorem d_Z_getAsk_21 : decode b_Z_getAsk 21 = .ok (.iaload, 1) := by decide +kernel
theorem d_Z_getAsk_22 : decode b_Z_getAsk 22 = .ok (.invokevirtual 134, 3) := by decide +kernel
theorem d_Z_getAsk_25 : decode b_Z_getAsk 25 = .ok (.return_, 1) := by decide +kernel
theorem d_Z_getAsk_26 : decode b_Z_getAsk 26 = .ok (.aload_n 0, 1) := by decide +kernel
theorem d_Z_getAsk_27 : decode b_Z_getAsk 27 = .ok (.getfield 29, 3) := by decide +kernel
theorem d_Z_getAsk_30 : decode b_Z_getAsk 30 = .ok (.iload_n 1, 1) := by decide +kernel
theorem d_Z_getAsk_31 : decode b_Z_getAsk 31 = .ok (.iload_n 3, 1) := by decide +kernel
theorem d_Z_getAsk_32 : decode b_Z_getAsk 32 = .ok (.iastore, 1) := by decide +kernel
theorem d_Z_getAsk_33 : decode b_Z_getAsk 33 = .ok (.aload_n 0, 1) := by decide +kernel
theorem d_Z_getAsk_34 : decode b_Z_getAsk 34 = .ok (.getfield 131, 3) := by decide +kernel
theorem d_Z_getAsk_37 : decode b_Z_getAsk 37 = .ok (.istore 5, 2) := by decide +kernel
theorem d_Z_getAsk_39 : decode b_Z_getAsk 39 = .ok (.aload_n 0, 1) := by decide +kernel
theorem d_Z_getAsk_40 : decode b_Z_getAsk 40 = .ok (.iconst 1, 1) := by decide +kernel
theorem d_Z_getAsk_41 : decode b_Z_getAsk 41 = .ok (.iload_n 1, 1) := by decide +kernel
theorem d_Z_getAsk_42 : decode b_Z_getAsk 42 = .ok (.iload_n 2, 1) := by decide +kernel
theorem d_Z_getAsk_43 : decode b_Z_getAsk 43 = .ok (.iload_n 3, 1) := by decide +kernel
theorem d_Z_getAsk_44 : decode b_Z_getAsk 44 = .ok (.iload 4, 2) := by decide +kernel
theorem d_Z_getAsk_46 : decode b_Z_getAsk 46 = .ok (.iconst (-1), 1) := by decide +kernel
theorem d_Z_getAsk_47 : decode b_Z_getAsk 47 = .ok (.invokevirtual 134, 3) := by decide +kernel
theorem d_Z_getAsk_50 : decode b_Z_getAsk 50 = .ok (.aload_n 0, 1) := by decide +kernel
theorem d_Z_getAsk_51 : decode b_Z_getAsk 51 = .ok (.getfield 131, 3) := by decide +kernel
theorem d_Z_getAsk_54 : decode b_Z_getAsk 54 = .ok (.iload 5, 2) := by decide +kernel
theorem d_Z_getAsk_56 : decode b_Z_getAsk 56 = .ok (.if_icmp .le 41, 3) := by decide +kernel
theorem d_Z_getAsk_59 : decode b_Z_getAsk 59 = .ok (.aload_n 0, 1) := by decide +kernel
theorem d_Z_getAsk_60 : decode b_Z_getAsk 60 = .ok (.getfield 89, 3) := by decide +kernel
theorem d_Z_getAsk_63 : decode b_Z_getAsk 63 = .ok (.iload 5, 2) := by decide +kernel
theorem d_Z_getAsk_65 : decode b_Z_getAsk 65 = .ok (.aload_n 0, 1) := by decide +kernel
theorem d_Z_getAsk_66 : decode b_Z_getAsk 66 = .ok (.getfield 32, 3) := by decide +kernel
theorem d_Z_getAsk_69 : decode b_Z_getAsk 69 = .ok (.bipush 6, 2) := by decide +kernel
theorem d_Z_getAsk_71 : decode b_Z_getAsk 71 = .ok (.iload_n 1, 1) := by decide +kernel
theorem d_Z_getAsk_72 : decode b_Z_getAsk 72 = .ok (.imul, 1) := by decide +kernel
theorem d_Z_getAsk_73 : decode b_Z_getAsk 73 = .ok (.iload 4, 2) := by decide +kernel
theorem d_Z_getAsk_75 : decode b_Z_getAsk 75 = .ok (.iadd, 1) := by decide +kernel
theorem d_Z_getAsk_76 : decode b_Z_getAsk 76 = .ok (.iaload, 1) := by decide +kernel
theorem d_Z_getAsk_77 : decode b_Z_getAsk 77 = .ok (.iastore, 1) := by decide +kernel
theorem d_Z_getAsk_78 : decode b_Z_getAsk 78 = .ok (.aload_n 0, 1) := by decide +kernel
theorem d_Z_getAsk_79 : decode b_Z_getAsk 79 = .ok (.getfield 92, 3) := by decide +kernel
theorem d_Z_getAsk_82 : decode b_Z_getAsk 82 = .ok (.iload 5, 2) := by decide +kernel
theorem d_Z_getAsk_84 : decode b_Z_getAsk 84 = .ok (.aload_n 0, 1) := by decide +kernel
theorem d_Z_getAsk_85 : decode b_Z_getAsk 85 = .ok (.getfield 35, 3) := by decide +kernel
theorem d_Z_getAsk_88 : decode b_Z_getAsk 88 = .ok (.bipush 6, 2) := by decide +kernel
theorem d_Z_getAsk_90 : decode b_Z_getAsk 90 = .ok (.iload_n 1, 1) := by decide +kernel
theorem d_Z_getAsk_91 : decode b_Z_getAsk 91 = .ok (.imul, 1) := by decide +kernel
theorem d_Z_getAsk_92 : decode b_Z_getAsk 92 = .ok (.iload 4, 2) := by decide +kernel
theorem d_Z_getAsk_94 : decode b_Z_getAsk 94 = .ok (.iadd, 1) := by decide +kernel
theorem d_Z_getAsk_95 : decode b_Z_getAsk 95 = .ok (.iaload, 1) := by decide +kernel
theorem d_Z_getAsk_96 : decode b_Z_getAsk 96 = .ok (.iastore, 1) := by decide +kernel
theorem d_Z_getAsk_97 : decode b_Z_getAsk 97 = .ok (.return_, 1) := by decide +kernel
def F_Z_getAsk (z : ZW) (a1 : Int32) (a2 : Int32) (a3 : Int32) (a4 : Int32) : Option (ZW) := (if 0 ≤ a1 ∧ (a1).toNatClampNeg < 27 then (if (z.1 7 (a1).toNatClampNeg) ≤ a3 then (if 0 ≤ a1 ∧ (a1).toNatClampNeg < 27 then (nm_ (pz z 7 (a1).toNatClampNeg a3) fun z4 => (bs_ (F_Z_send z4 1 a1 a2 a3 a4 (-1)) fun z8 => (if (z8.1 0 22) ≤ (z4.1 0 22) then some z8 else (if 0 ≤ ((6 * a1) + a4) ∧ (((6 * a1) + a4)).toNatClampNeg < 162 then (if 0 ≤ (z4.1 0 22) ∧ ((z4.1 0 22)).toNatClampNeg < 151 then (nm_ (pz z8 27 ((z4.1 0 22)).toNatClampNeg (z8.1 8 (((6 * a1) + a4)).toNatClampNeg)) fun z12 => (if 0 ≤ ((6 * a1) + a4) ∧ (((6 * a1) + a4)).toNatClampNeg < 162 then (if 0 ≤ (z4.1 0 22) ∧ ((z4.1 0 22)).toNatClampNeg < 151 then (nm_ (pz z12 28 ((z4.1 0 22)).toNatClampNeg (z12.1 9 (((6 * a1) + a4)).toNatClampNeg)) fun z16 => some z16) else none) else none)) else none) else none)))) else none) else (if 0 ≤ a1 ∧ (a1).toNatClampNeg < 27 then (bs_ (F_Z_send z 2 a1 a2 a3 (-1) (z.1 7 (a1).toNatClampNeg)) fun z21 => some z21) else none)) else none)
set_option maxHeartbeats 4000000 in
set_option maxRecDepth 100000 in
theorem c_Z_getAsk (l : Launch) (D : va_G) (ad : Nat → Nat → Nat) (ca : Nat → ClassId) (hD0 : ∀ z u, va_D (AH ad) (wh ad ca z u)) {z : ZW} {u : XC} {a1 : Int32} {a2 : Int32} {a3 : Int32} {a4 : Int32} {z0 : ZW}  (hF : F_Z_getAsk z a1 a2 a3 a4 = some z0) : Met l y_Z_getAsk ws_Z_getAsk ({ frames := 1, cells := 0, slots := 0, locals := 26 } : Room) (va_Pc [.ref (ad 14 0), .int a1, .int a2, .int a3, .int a4] (fun U => va_P D CLS (wh ad ca z u) U.heap ∧ va_K D CLS (TYH ca) U)) (va_Qv (fun (_ : Unit) => True) (fun _ t => va_P D CLS (wh ad ca z0 u) t.heap) (AH ad)) 0 0 (AH ad) := by
  refine Met.ofW (cc := b_Z_getAsk) (maxL := 6) (ret := none) (by decide +kernel) rfl ?_
  intro p e s m args below meth c s₁ B hml hv
  obtain ⟨rfl, hP, hK⟩ := hv
  have hx := B.exec
  have hb := B.bytes
  have hr := B.returns
  have hts : ∀ w ∈ ALL, w.before _ s = true := fun w h => atoms_spec (ws := ws_Z_getAsk) B.pre w (List.mem_cons_of_mem _ h)
  have hown : s.vm.findClass R_Z = some m.cls := findClass_of_methodNamed B.named
  have hlocks := B.notSynchronized
  have hD := hD0
  have hS : va_S (AH ad) s.heap s.heap [] := va_S.rf
  have hP : va_P D CLS (wh ad ca z u) s.heap := hP
  have hl := lv_entry ([.ref (ad 14 0), .int a1, .int a2, .int a3, .int a4]) (n := 6) (Nat.le_of_ble_eq_true rfl)
  rw [lg_entry_eq]
  generalize (lg_sl ([.ref (ad 14 0), .int a1, .int a2, .int a3, .int a4]) ++ List.replicate (6 - (lg_sl ([.ref (ad 14 0), .int a1, .int a2, .int a3, .int a4])).length) Slot.unset).toArray = ls at hl ⊢
  have hl : lv_has ls 6 [(0, .ref (ad 14 0)), (1, .int a1), (2, .int a2), (3, .int a3), (4, .int a4)] := hl
  unfold F_Z_getAsk at hF
  refine lv_iload_n hx hb d_Z_getAsk_0 rfl (lv_at hl 3 rfl) ?_
  refine lv_aload_n hx hb d_Z_getAsk_1 rfl (lv_at hl 0 rfl) ?_
  refine gf_Z_8 hx hb hts hown hK hP (by decide) a_566 d_Z_getAsk_2 ?_
  refine lv_iload_n hx hb d_Z_getAsk_5 rfl (lv_at hl 1 rfl) ?_
  obtain ⟨h1, hF⟩ := as_u hF
  refine l_zi hx hb hK hP 7 27 ⟨by decide, by decide, by decide⟩ rfl h1 d_Z_getAsk_6 ?_
  refine lv_icmp_ge (tgt := 26) hx hb d_Z_getAsk_7 (by decide) (fun h2 => ?_) (fun h2 => ?_)
  · have hF := it_t hF h2
    refine lv_aload_n hx hb d_Z_getAsk_26 rfl (lv_at hl 0 rfl) ?_
    refine gf_Z_8 hx hb hts hown hK hP (by decide) a_566 d_Z_getAsk_27 ?_
    refine lv_iload_n hx hb d_Z_getAsk_30 rfl (lv_at hl 1 rfl) ?_
    refine lv_iload_n hx hb d_Z_getAsk_31 rfl (lv_at hl 3 rfl) ?_
    obtain ⟨h3, hF⟩ := as_u hF
    obtain ⟨z4, h5, hF⟩ := nm_u hF
    refine s_zi hx hb hK hP 7 27 hD hS ⟨by decide, by decide, by decide⟩ rfl h3 h5 d_Z_getAsk_32 (fun H locs hP hS => ?_)
    refine lv_aload_n hx hb d_Z_getAsk_33 rfl (lv_at hl 0 rfl) ?_
    refine gf_Z_22 hx hb hts hown hK hP (by decide) a_580 d_Z_getAsk_34 ?_
    refine lv_istore (lv' := [(5, .int (z4.1 0 22)), (0, .ref (ad 14 0)), (1, .int a1), (2, .int a2), (3, .int a3), (4, .int a4)]) hx hb d_Z_getAsk_37 hl (by decide) rfl (fun ls hl => ?_)
    refine lv_aload_n hx hb d_Z_getAsk_39 rfl (lv_at hl 1 rfl) ?_
    refine lv_iconst (v := 1) hx hb d_Z_getAsk_40 (by decide) ?_
    refine lv_iload_n hx hb d_Z_getAsk_41 rfl (lv_at hl 2 rfl) ?_
    refine lv_iload_n hx hb d_Z_getAsk_42 rfl (lv_at hl 3 rfl) ?_
    refine lv_iload_n hx hb d_Z_getAsk_43 rfl (lv_at hl 4 rfl) ?_
    refine lv_iload hx hb d_Z_getAsk_44 (lv_at hl 5 rfl) ?_
    refine lv_iconst (v := (-1)) hx hb d_Z_getAsk_46 (by decide) ?_
    obtain ⟨z8, h7, hF⟩ := bs_u hF
    refine k_vv (ad 14 0) [.int 1, .int a1, .int a2, .int a3, .int a4, .int (-1)] [] ⟨hx, hb, hml, hown, hts⟩ (c_Z_send l D ad ca hD0 (z := z4) (u := u)  h7) (w_Z_send hts a_745 ⟨Nat.le_of_ble_eq_true rfl, Nat.le_of_ble_eq_true rfl⟩) (rv_Z hK hP (by decide)) hP hK hS (fun _ h => h) rfl rfl hl.1 (Nat.le_of_ble_eq_true rfl) ⟨Nat.zero_le _, Nat.zero_le _⟩ d_Z_getAsk_47 (fun H locs hP hS => ?_)
    refine lv_aload_n hx hb d_Z_getAsk_50 rfl (lv_at hl 1 rfl) ?_
    refine gf_Z_22 hx hb hts hown hK hP (by decide) a_580 d_Z_getAsk_51 ?_
    refine lv_iload hx hb d_Z_getAsk_54 (lv_at hl 0 rfl) ?_
    refine lv_icmp_le (tgt := 97) hx hb d_Z_getAsk_56 (by decide) (fun h9 => ?_) (fun h9 => ?_)
    · have hF := it_t hF h9
      have hF := rt1 hF
      subst hF
      exact W.vret hx hb hr (fun t ht hW => ⟨⟨(), rfl, trivial, vp_at ht hP⟩, hS.F ht⟩) hS.2.2 d_Z_getAsk_97
    · have hF := it_f hF h9
      refine lv_aload_n hx hb d_Z_getAsk_59 rfl (lv_at hl 1 rfl) ?_
      refine gf_Z_29 hx hb hts hown hK hP (by decide) a_587 d_Z_getAsk_60 ?_
      refine lv_iload hx hb d_Z_getAsk_63 (lv_at hl 0 rfl) ?_
      refine lv_aload_n hx hb d_Z_getAsk_65 rfl (lv_at hl 1 rfl) ?_
      refine gf_Z_9 hx hb hts hown hK hP (by decide) a_567 d_Z_getAsk_66 ?_
      refine lv_bipush (v := 6) hx hb d_Z_getAsk_69 (by decide) ?_
      refine lv_iload_n hx hb d_Z_getAsk_71 rfl (lv_at hl 2 rfl) ?_
      refine lv_imul hx hb d_Z_getAsk_72 ?_
      refine lv_iload hx hb d_Z_getAsk_73 (lv_at hl 5 rfl) ?_
      refine lv_iadd hx hb d_Z_getAsk_75 ?_
      obtain ⟨h10, hF⟩ := as_u hF
      refine l_zi hx hb hK hP 8 162 ⟨by decide, by decide, by decide⟩ rfl h10 d_Z_getAsk_76 ?_
      obtain ⟨h11, hF⟩ := as_u hF
      obtain ⟨z12, h13, hF⟩ := nm_u hF
      refine s_zi hx hb hK hP 27 151 hD hS ⟨by decide, by decide, by decide⟩ rfl h11 h13 d_Z_getAsk_77 (fun H locs hP hS => ?_)
      refine lv_aload_n hx hb d_Z_getAsk_78 rfl (lv_at hl 1 rfl) ?_
      refine gf_Z_30 hx hb hts hown hK hP (by decide) a_588 d_Z_getAsk_79 ?_
      refine lv_iload hx hb d_Z_getAsk_82 (lv_at hl 0 rfl) ?_
      refine lv_aload_n hx hb d_Z_getAsk_84 rfl (lv_at hl 1 rfl) ?_
      refine gf_Z_10 hx hb hts hown hK hP (by decide) a_568 d_Z_getAsk_85 ?_
      refine lv_bipush (v := 6) hx hb d_Z_getAsk_88 (by decide) ?_
      refine lv_iload_n hx hb d_Z_getAsk_90 rfl (lv_at hl 2 rfl) ?_
      refine lv_imul hx hb d_Z_getAsk_91 ?_
      refine lv_iload hx hb d_Z_getAsk_92 (lv_at hl 5 rfl) ?_
      refine lv_iadd hx hb d_Z_getAsk_94 ?_
      obtain ⟨h14, hF⟩ := as_u hF
      refine l_zi hx hb hK hP 9 162 ⟨by decide, by decide, by decide⟩ rfl h14 d_Z_getAsk_95 ?_
      obtain ⟨h15, hF⟩ := as_u hF
      obtain ⟨z16, h17, hF⟩ := nm_u hF
      refine s_zi hx hb hK hP 28 151 hD hS ⟨by decide, by decide, by decide⟩ rfl h15 h17 d_Z_getAsk_96 (fun H locs hP hS => ?_)
      have hF := rt1 hF
      subst hF
      exact W.vret hx hb hr (fun t ht hW => ⟨⟨(), rfl, trivial, vp_at ht hP⟩, hS.F ht⟩) hS.2.2 d_Z_getAsk_97
  · have hF := it_f hF h2
    refine lv_aload_n hx hb d_Z_getAsk_10 rfl (lv_at hl 0 rfl) ?_
    refine lv_iconst (v := 2) hx hb d_Z_getAsk_11 (by decide) ?_
    refine lv_iload_n hx hb d_Z_getAsk_12 rfl (lv_at hl 1 rfl) ?_
    refine lv_iload_n hx hb d_Z_getAsk_13 rfl (lv_at hl 2 rfl) ?_
    refine lv_iload_n hx hb d_Z_getAsk_14 rfl (lv_at hl 3 rfl) ?_
    refine lv_iconst (v := (-1)) hx hb d_Z_getAsk_15 (by decide) ?_
    refine lv_aload_n hx hb d_Z_getAsk_16 rfl (lv_at hl 0 rfl) ?_
    refine gf_Z_8 hx hb hts hown hK hP (by decide) a_566 d_Z_getAsk_17 ?_
    refine lv_iload_n hx hb d_Z_getAsk_20 rfl (lv_at hl 1 rfl) ?_
    obtain ⟨h18, hF⟩ := as_u hF
    refine l_zi hx hb hK hP 7 27 ⟨by decide, by decide, by decide⟩ rfl h18 d_Z_getAsk_21 ?_
    obtain ⟨z21, h20, hF⟩ := bs_u hF
    refine k_vv (ad 14 0) [.int 2, .int a1, .int a2, .int a3, .int (-1), .int (z.1 7 (a1).toNatClampNeg)] [] ⟨hx, hb, hml, hown, hts⟩ (c_Z_send l D ad ca hD0 (z := z) (u := u)  h20) (w_Z_send hts a_745 ⟨Nat.le_of_ble_eq_true rfl, Nat.le_of_ble_eq_true rfl⟩) (rv_Z hK hP (by decide)) hP hK hS (fun _ h => h) rfl rfl hl.1 (Nat.le_of_ble_eq_true rfl) ⟨Nat.zero_le _, Nat.zero_le _⟩ d_Z_getAsk_22 (fun H locs hP hS => ?_)
    have hF := rt1 hF
    subst hF
    exact W.vret hx hb hr (fun t ht hW => ⟨⟨(), rfl, trivial, vp_at ht hP⟩, hS.F ht⟩) hS.2.2 d_Z_getAsk_25
def ws_Z_getGive : List Cond := Cond.code y_Z_getGive b_Z_getGive 6 none :: ALL
theorem w_Z_getGive {R : Room} {s : State} {args : Array Value} {own : String} {index : Nat} (hts : ∀ w ∈ ALL, w.before args s = true) (hlk : Cond.methodLink own index y_Z_getGive ∈ ALL) (hR : (({ frames := 3, cells := 0, slots := 0, locals := 66 } : Room)).frames + 1 ≤ R.frames ∧ 8 + (6 + 11) + (({ frames := 3, cells := 0, slots := 0, locals := 66 } : Room)).locals ≤ R.locals) : CallW R s args own R_Z index y_Z_getGive b_Z_getGive 6 none ws_Z_getGive ({ frames := 3, cells := 0, slots := 0, locals := 66 } : Room) 0 0 5 := ⟨callB_of 5 hts (good_c a_775) rfl rfl rfl (hts _ a_8) (hts _ hlk) (by decide +kernel) hR, hts _ a_774, hts _ a_s20⟩
theorem d_Z_getGive_0 : decode b_Z_getGive 0 = .ok (.aload_n 0, 1) := by decide +kernel
theorem d_Z_getGive_1 : decode b_Z_getGive 1 = .ok (.getfield 41, 3) := by decide +kernel
theorem d_Z_getGive_4 : decode b_Z_getGive 4 = .ok (.iload_n 1, 1) := by decide +kernel
theorem d_Z_getGive_5 : decode b_Z_getGive 5 = .ok (.iaload, 1) := by decide +kernel
theorem d_Z_getGive_6 : decode b_Z_getGive 6 = .ok (.iconst 1, 1) := by decide +kernel
theorem d_Z_getGive_7 : decode b_Z_getGive 7 = .ok (.if_icmp .ne 13, 3) := by decide +kernel
theorem d_Z_getGive_10 : decode b_Z_getGive 10 = .ok (.aload_n 0, 1) := by decide +kernel
theorem d_Z_getGive_11 : decode b_Z_getGive 11 = .ok (.getfield 50, 3) := by decide +kernel
theorem d_Z_getGive_14 : decode b_Z_getGive 14 = .ok (.iload_n 1, 1) := by decide +kernel
theorem d_Z_getGive_15 : decode b_Z_getGive 15 = .ok (.iaload, 1) := by decide +kernel
theorem d_Z_getGive_16 : decode b_Z_getGive 16 = .ok (.iload_n 3, 1) := by decide +kernel
theorem d_Z_getGive_17 : decode b_Z_getGive 17 = .ok (.if_icmp .eq 4, 3) := by decide +kernel
theorem d_Z_getGive_20 : decode b_Z_getGive 20 = .ok (.return_, 1) := by decide +kernel
theorem d_Z_getGive_21 : decode b_Z_getGive 21 = .ok (.aload_n 0, 1) := by decide +kernel
theorem d_Z_getGive_22 : decode b_Z_getGive 22 = .ok (.getfield 56, 3) := by decide +kernel
theorem d_Z_getGive_25 : decode b_Z_getGive 25 = .ok (.iload_n 1, 1) := by decide +kernel
theorem d_Z_getGive_26 : decode b_Z_getGive 26 = .ok (.aload_n 0, 1) := by decide +kernel
theorem d_Z_getGive_27 : decode b_Z_getGive 27 = .ok (.getfield 56, 3) := by decide +kernel
theorem d_Z_getGive_30 : decode b_Z_getGive 30 = .ok (.iload_n 1, 1) := by decide +kernel
theorem d_Z_getGive_31 : decode b_Z_getGive 31 = .ok (.iaload, 1) := by decide +kernel
theorem d_Z_getGive_32 : decode b_Z_getGive 32 = .ok (.iconst 1, 1) := by decide +kernel
theorem d_Z_getGive_33 : decode b_Z_getGive 33 = .ok (.iload_n 2, 1) := by decide +kernel
theorem d_Z_getGive_34 : decode b_Z_getGive 34 = .ok (.ishl, 1) := by decide +kernel
theorem d_Z_getGive_35 : decode b_Z_getGive 35 = .ok (.ior, 1) := by decide +kernel
theorem d_Z_getGive_36 : decode b_Z_getGive 36 = .ok (.iastore, 1) := by decide +kernel
theorem d_Z_getGive_37 : decode b_Z_getGive 37 = .ok (.aload_n 0, 1) := by decide +kernel
theorem d_Z_getGive_38 : decode b_Z_getGive 38 = .ok (.getfield 68, 3) := by decide +kernel
theorem d_Z_getGive_41 : decode b_Z_getGive 41 = .ok (.iload_n 1, 1) := by decide +kernel
theorem d_Z_getGive_42 : decode b_Z_getGive 42 = .ok (.iload 4, 2) := by decide +kernel
theorem d_Z_getGive_44 : decode b_Z_getGive 44 = .ok (.aload_n 0, 1) := by decide +kernel
theorem d_Z_getGive_45 : decode b_Z_getGive 45 = .ok (.getfield 65, 3) := by decide +kernel
theorem d_Z_getGive_48 : decode b_Z_getGive 48 = .ok (.iload_n 1, 1) := by decide +kernel
theorem d_Z_getGive_49 : decode b_Z_getGive 49 = .ok (.iaload, 1) := by decide +kernel
theorem d_Z_getGive_50 : decode b_Z_getGive 50 = .ok (.if_icmp .le 8, 3) := by decide +kernel
theorem d_Z_getGive_53 : decode b_Z_getGive 53 = .ok (.iload 5, 2) := by decide +kernel
theorem d_Z_getGive_55 : decode b_Z_getGive 55 = .ok (.goto 9, 3) := by decide +kernel
theorem d_Z_getGive_58 : decode b_Z_getGive 58 = .ok (.aload_n 0, 1) := by decide +kernel
theorem d_Z_getGive_59 : decode b_Z_getGive 59 = .ok (.getfield 68, 3) := by decide +kernel
theorem d_Z_getGive_62 : decode b_Z_getGive 62 = .ok (.iload_n 1, 1) := by decide +kernel
theorem d_Z_getGive_63 : decode b_Z_getGive 63 = .ok (.iaload, 1) := by decide +kernel
theorem d_Z_getGive_64 : decode b_Z_getGive 64 = .ok (.iastore, 1) := by decide +kernel
theorem d_Z_getGive_65 : decode b_Z_getGive 65 = .ok (.aload_n 0, 1) := by decide +kernel
theorem d_Z_getGive_66 : decode b_Z_getGive 66 = .ok (.getfield 65, 3) := by decide +kernel
theorem d_Z_getGive_69 : decode b_Z_getGive 69 = .ok (.iload_n 1, 1) := by decide +kernel
theorem d_Z_getGive_70 : decode b_Z_getGive 70 = .ok (.iload 4, 2) := by decide +kernel
theorem d_Z_getGive_72 : decode b_Z_getGive 72 = .ok (.aload_n 0, 1) := by decide +kernel
theorem d_Z_getGive_73 : decode b_Z_getGive 73 = .ok (.getfield 65, 3) := by decide +kernel
theorem d_Z_getGive_76 : decode b_Z_getGive 76 = .ok (.iload_n 1, 1) := by decide +kernel
theorem d_Z_getGive_77 : decode b_Z_getGive 77 = .ok (.iaload, 1) := by decide +kernel
theorem d_Z_getGive_78 : decode b_Z_getGive 78 = .ok (.if_icmp .le 8, 3) := by decide +kernel
theorem d_Z_getGive_81 : decode b_Z_getGive 81 = .ok (.iload 4, 2) := by decide +kernel
theorem d_Z_getGive_83 : decode b_Z_getGive 83 = .ok (.goto 9, 3) := by decide +kernel
theorem d_Z_getGive_86 : decode b_Z_getGive 86 = .ok (.aload_n 0, 1) := by decide +kernel
theorem d_Z_getGive_87 : decode b_Z_getGive 87 = .ok (.getfield 65, 3) := by decide +kernel
theorem d_Z_getGive_90 : decode b_Z_getGive 90 = .ok (.iload_n 1, 1) := by decide +kernel
theorem d_Z_getGive_91 : decode b_Z_getGive 91 = .ok (.iaload, 1) := by decide +kernel
theorem d_Z_getGive_92 : decode b_Z_getGive 92 = .ok (.iastore, 1) := by decide +kernel
theorem d_Z_getGive_93 : decode b_Z_getGive 93 = .ok (.aload_n 0, 1) := by decide +kernel
theorem d_Z_getGive_94 : decode b_Z_getGive 94 = .ok (.getfield 56, 3) := by decide +kernel
theorem d_Z_getGive_97 : decode b_Z_getGive 97 = .ok (.iload_n 1, 1) := by decide +kernel
theorem d_Z_getGive_98 : decode b_Z_getGive 98 = .ok (.iaload, 1) := by decide +kernel
theorem d_Z_getGive_99 : decode b_Z_getGive 99 = .ok (.invokestatic 118, 3) := by decide +kernel
theorem d_Z_getGive_102 : decode b_Z_getGive 102 = .ok (.ifCond .eq 58, 3) := by decide +kernel
theorem d_Z_getGive_105 : decode b_Z_getGive 105 = .ok (.aload_n 0, 1) := by decide +kernel
theorem d_Z_getGive_106 : decode b_Z_getGive 106 = .ok (.getfield 41, 3) := by decide +kernel
theorem d_Z_getGive_109 : decode b_Z_getGive 109 = .ok (.iload_n 1, 1) := by decide +kernel
theorem d_Z_getGive_110 : decode b_Z_getGive 110 = .ok (.iconst 2, 1) := by decide +kernel
theorem d_Z_getGive_111 : decode b_Z_getGive 111 = .ok (.iastore, 1) := by decide +kernel
theorem d_Z_getGive_112 : decode b_Z_getGive 112 = .ok (.aload_n 0, 1) := by decide +kernel
theorem d_Z_getGive_113 : decode b_Z_getGive 113 = .ok (.getfield 62, 3) := by decide +kernel
theorem d_Z_getGive_116 : decode b_Z_getGive 116 = .ok (.iload_n 1, 1) := by decide +kernel
theorem d_Z_getGive_117 : decode b_Z_getGive 117 = .ok (.aload_n 0, 1) := by decide +kernel
theorem d_Z_getGive_118 : decode b_Z_getGive 118 = .ok (.getfield 65, 3) := by decide +kernel
theorem d_Z_getGive_121 : decode b_Z_getGive 121 = .ok (.iload_n 1, 1) := by decide +kernel
theorem d_Z_getGive_122 : decode b_Z_getGive 122 = .ok (.iaload, 1) := by decide +kernel
theorem d_Z_getGive_123 : decode b_Z_getGive 123 = .ok (.ifCond .le 12, 3) := by decide +kernel
theorem d_Z_getGive_126 : decode b_Z_getGive 126 = .ok (.aload_n 0, 1) := by decide +kernel
theorem d_Z_getGive_127 : decode b_Z_getGive 127 = .ok (.getfield 68, 3) := by decide +kernel
theorem d_Z_getGive_130 : decode b_Z_getGive 130 = .ok (.iload_n 1, 1) := by decide +kernel
theorem d_Z_getGive_131 : decode b_Z_getGive 131 = .ok (.iaload, 1) := by decide +kernel
theorem d_Z_getGive_132 : decode b_Z_getGive 132 = .ok (.goto 9, 3) := by decide +kernel
theorem d_Z_getGive_135 : decode b_Z_getGive 135 = .ok (.aload_n 0, 1) := by decide +kernel
theorem d_Z_getGive_136 : decode b_Z_getGive 136 = .ok (.getfield 44, 3) := by decide +kernel
theorem d_Z_getGive_139 : decode b_Z_getGive 139 = .ok (.iload_n 1, 1) := by decide +kernel
theorem d_Z_getGive_140 : decode b_Z_getGive 140 = .ok (.iaload, 1) := by decide +kernel
theorem d_Z_getGive_141 : decode b_Z_getGive 141 = .ok (.iastore, 1) := by decide +kernel
theorem d_Z_getGive_142 : decode b_Z_getGive 142 = .ok (.aload_n 0, 1) := by decide +kernel
theorem d_Z_getGive_143 : decode b_Z_getGive 143 = .ok (.getfield 56, 3) := by decide +kernel
theorem d_Z_getGive_146 : decode b_Z_getGive 146 = .ok (.iload_n 1, 1) := by decide +kernel
theorem d_Z_getGive_147 : decode b_Z_getGive 147 = .ok (.iconst 0, 1) := by decide +kernel
theorem d_Z_getGive_148 : decode b_Z_getGive 148 = .ok (.iastore, 1) := by decide +kernel
theorem d_Z_getGive_149 : decode b_Z_getGive 149 = .ok (.aload_n 0, 1) := by decide +kernel
theorem d_Z_getGive_150 : decode b_Z_getGive 150 = .ok (.iload_n 1, 1) := by decide +kernel
theorem d_Z_getGive_151 : decode b_Z_getGive 151 = .ok (.aload_n 0, 1) := by decide +kernel
theorem d_Z_getGive_152 : decode b_Z_getGive 152 = .ok (.getfield 53, 3) := by decide +kernel
theorem d_Z_getGive_155 : decode b_Z_getGive 155 = .ok (.iload_n 1, 1) := by decide +kernel
theorem d_Z_getGive_156 : decode b_Z_getGive 156 = .ok (.iaload, 1) := by decide +kernel
theorem d_Z_getGive_157 : decode b_Z_getGive 157 = .ok (.invokevirtual 156, 3) := by decide +kernel
theorem d_Z_getGive_160 : decode b_Z_getGive 160 = .ok (.return_, 1) := by decide +kernel
def Fj_Z_getGive_141  (z : ZW) (x1 : Int32) (w0 : Int32) (w1 : Int32) : Option (ZW) := (if 0 ≤ w1 ∧ (w1).toNatClampNeg < 27 then (nm_ (pz z 18 (w1).toNatClampNeg w0) fun z32 => (if 0 ≤ x1 ∧ (x1).toNatClampNeg < 27 then (nm_ (pz z32 16 (x1).toNatClampNeg 0) fun z35 => (if 0 ≤ x1 ∧ (x1).toNatClampNeg < 27 then (bs_ (F_Z_sendAll z35 x1 (z35.1 15 (x1).toNatClampNeg)) fun z40 => some z40) else none)) else none)) else none)
def Fj_Z_getGive_92  (z : ZW) (x1 : Int32) (w0 : Int32) (w1 : Int32) : Option (ZW) := (if 0 ≤ w1 ∧ (w1).toNatClampNeg < 27 then (nm_ (pz z 19 (w1).toNatClampNeg w0) fun z19 => (if 0 ≤ x1 ∧ (x1).toNatClampNeg < 27 then (bs_ (F_Z_isQuorum (z19.1 16 (x1).toNatClampNeg)) fun r22 => (if r22 = 0 then some z19 else (if 0 ≤ x1 ∧ (x1).toNatClampNeg < 27 then (nm_ (pz z19 11 (x1).toNatClampNeg 2) fun z26 => (if 0 ≤ x1 ∧ (x1).toNatClampNeg < 27 then (if (z26.1 19 (x1).toNatClampNeg) ≤ 0 then (if 0 ≤ x1 ∧ (x1).toNatClampNeg < 27 then Fj_Z_getGive_141  z26 x1 (z26.1 12 (x1).toNatClampNeg) x1 else none) else (if 0 ≤ x1 ∧ (x1).toNatClampNeg < 27 then Fj_Z_getGive_141  z26 x1 (z26.1 20 (x1).toNatClampNeg) x1 else none)) else none)) else none))) else none)) else none)
def Fj_Z_getGive_64  (z : ZW) (x1 : Int32) (x4 : Int32) (w0 : Int32) (w1 : Int32) : Option (ZW) := (if 0 ≤ w1 ∧ (w1).toNatClampNeg < 27 then (nm_ (pz z 20 (w1).toNatClampNeg w0) fun z13 => (if 0 ≤ x1 ∧ (x1).toNatClampNeg < 27 then (if x4 ≤ (z13.1 19 (x1).toNatClampNeg) then (if 0 ≤ x1 ∧ (x1).toNatClampNeg < 27 then Fj_Z_getGive_92  z13 x1 (z13.1 19 (x1).toNatClampNeg) x1 else none) else Fj_Z_getGive_92  z13 x1 x4 x1) else none)) else none)
def F_Z_getGive (z : ZW) (a1 : Int32) (a2 : Int32) (a3 : Int32) (a4 : Int32) (a5 : Int32) : Option (ZW) := (if 0 ≤ a1 ∧ (a1).toNatClampNeg < 27 then (if (z.1 11 (a1).toNatClampNeg) = 1 then (if 0 ≤ a1 ∧ (a1).toNatClampNeg < 27 then (if (z.1 14 (a1).toNatClampNeg) = a3 then (if 0 ≤ a1 ∧ (a1).toNatClampNeg < 27 then (if 0 ≤ a1 ∧ (a1).toNatClampNeg < 27 then (nm_ (pz z 16 (a1).toNatClampNeg ((z.1 16 (a1).toNatClampNeg) ||| (1 <<< (a2 &&& 31)))) fun z7 => (if 0 ≤ a1 ∧ (a1).toNatClampNeg < 27 then (if a4 ≤ (z7.1 19 (a1).toNatClampNeg) then (if 0 ≤ a1 ∧ (a1).toNatClampNeg < 27 then Fj_Z_getGive_64  z7 a1 a4 (z7.1 20 (a1).toNatClampNeg) a1 else none) else Fj_Z_getGive_64  z7 a1 a4 a5 a1) else none)) else none) else none) else some z) else none) else some z) else none)
set_option maxHeartbeats 4000000 in
set_option maxRecDepth 100000 in
theorem jn_Z_getGive_141 {p : Program} {l : Launch} {e : Env} {s : State} {m : MethodId} {args : Array Value} {below : List Frame} {meth : Method} {c : Code} {D : va_G} {ad : Nat → Nat → Nat} {ca : Nat → ClassId} {u : XC} (hx : p.tables.exec = Jvm.exec) (hb : c.code = b_Z_getGive) (hr : meth.sig.returnType = none) (hts : ∀ w ∈ ALL, w.before args s = true) (hown : s.vm.findClass R_Z = some m.cls) (hlocks : meth.locks = false) (hml : c.maxLocals = 6) (hK : va_K D CLS (TYH ca) s) (hD0 : ∀ z u, va_D (AH ad) (wh ad ca z u)) (hD : ∀ z u, va_D (AH ad) (wh ad ca z u))  : ∀ (z : ZW) (x1 : Int32) (w0 : Int32) (w1 : Int32)  (z0 : ZW), Fj_Z_getGive_141  z x1 w0 w1 = some z0 → ∀ (H : Heap) (locs : List Loc) (ls : Array Slot), va_P D CLS (wh ad ca z u) H → va_S (AH ad) s.heap H locs → lv_has ls 6 [(0, .ref (ad 14 0)), (1, .int x1)] → W p l e ({ frames := 3, cells := 0, slots := 0, locals := 66 } : Room) s m args below meth c H locs 0 0 (MQ below (va_Qv (fun (_ : Unit) => True) (fun _ t => va_P D CLS (wh ad ca z0 u) t.heap) (AH ad)) args s 0 0 (AH ad)) (F0 m 141 ls [.int w0, .int w1, .ref (ad 32 0)]) := by
  intro z x1 w0 w1 z0 hF H locs ls hP hS hl
  unfold Fj_Z_getGive_141 at hF
  obtain ⟨h31, hF⟩ := as_u hF
  obtain ⟨z32, h33, hF⟩ := nm_u hF
  refine s_zi hx hb hK hP 18 27 hD hS ⟨by decide, by decide, by decide⟩ rfl h31 h33 d_Z_getGive_141 (fun H locs hP hS => ?_)
  refine lv_aload_n hx hb d_Z_getGive_142 rfl (lv_at hl 0 rfl) ?_
  refine gf_Z_17 hx hb hts hown hK hP (by decide) a_575 d_Z_getGive_143 ?_
  refine lv_iload_n hx hb d_Z_getGive_146 rfl (lv_at hl 1 rfl) ?_
  refine lv_iconst (v := 0) hx hb d_Z_getGive_147 (by decide) ?_
  obtain ⟨h34, hF⟩ := as_u hF
  obtain ⟨z35, h36, hF⟩ := nm_u hF
  refine s_zi hx hb hK hP 16 27 hD hS ⟨by decide, by decide, by decide⟩ rfl h34 h36 d_Z_getGive_148 (fun H locs hP hS => ?_)
  refine lv_aload_n hx hb d_Z_getGive_149 rfl (lv_at hl 0 rfl) ?_
  refine lv_iload_n hx hb d_Z_getGive_150 rfl (lv_at hl 1 rfl) ?_
  refine lv_aload_n hx hb d_Z_getGive_151 rfl (lv_at hl 0 rfl) ?_
  refine gf_Z_16 hx hb hts hown hK hP (by decide) a_574 d_Z_getGive_152 ?_
  refine lv_iload_n hx hb d_Z_getGive_155 rfl (lv_at hl 1 rfl) ?_
  obtain ⟨h37, hF⟩ := as_u hF
  refine l_zi hx hb hK hP 15 27 ⟨by decide, by decide, by decide⟩ rfl h37 d_Z_getGive_156 ?_
  obtain ⟨z40, h39, hF⟩ := bs_u hF
  refine k_vv (ad 14 0) [.int x1, .int (z35.1 15 (x1).toNatClampNeg)] [] ⟨hx, hb, hml, hown, hts⟩ (c_Z_sendAll l D ad ca hD0 (z := z35) (u := u)  h39) (w_Z_sendAll hts a_741 ⟨Nat.le_of_ble_eq_true rfl, Nat.le_of_ble_eq_true rfl⟩) (rv_Z hK hP (by decide)) hP hK hS (fun _ h => h) rfl rfl hl.1 (Nat.le_of_ble_eq_true rfl) ⟨Nat.zero_le _, Nat.zero_le _⟩ d_Z_getGive_157 (fun H locs hP hS => ?_)
  have hF := rt1 hF
  subst hF
  exact W.vret hx hb hr (fun t ht hW => ⟨⟨(), rfl, trivial, vp_at ht hP⟩, hS.F ht⟩) hS.2.2 d_Z_getGive_160
set_option maxHeartbeats 4000000 in
set_option maxRecDepth 100000 in
theorem jn_Z_getGive_92 {p : Program} {l : Launch} {e : Env} {s : State} {m : MethodId} {args : Array Value} {below : List Frame} {meth : Method} {c : Code} {D : va_G} {ad : Nat → Nat → Nat} {ca : Nat → ClassId} {u : XC} (hx : p.tables.exec = Jvm.exec) (hb : c.code = b_Z_getGive) (hr : meth.sig.returnType = none) (hts : ∀ w ∈ ALL, w.before args s = true) (hown : s.vm.findClass R_Z = some m.cls) (hlocks : meth.locks = false) (hml : c.maxLocals = 6) (hK : va_K D CLS (TYH ca) s) (hD0 : ∀ z u, va_D (AH ad) (wh ad ca z u)) (hD : ∀ z u, va_D (AH ad) (wh ad ca z u))  : ∀ (z : ZW) (x1 : Int32) (w0 : Int32) (w1 : Int32)  (z0 : ZW), Fj_Z_getGive_92  z x1 w0 w1 = some z0 → ∀ (H : Heap) (locs : List Loc) (ls : Array Slot), va_P D CLS (wh ad ca z u) H → va_S (AH ad) s.heap H locs → lv_has ls 6 [(0, .ref (ad 14 0)), (1, .int x1)] → W p l e ({ frames := 3, cells := 0, slots := 0, locals := 66 } : Room) s m args below meth c H locs 0 0 (MQ below (va_Qv (fun (_ : Unit) => True) (fun _ t => va_P D CLS (wh ad ca z0 u) t.heap) (AH ad)) args s 0 0 (AH ad)) (F0 m 92 ls [.int w0, .int w1, .ref (ad 33 0)]) := by
  intro z x1 w0 w1 z0 hF H locs ls hP hS hl
  unfold Fj_Z_getGive_92 at hF
  obtain ⟨h18, hF⟩ := as_u hF
  obtain ⟨z19, h20, hF⟩ := nm_u hF
  refine s_zi hx hb hK hP 19 27 hD hS ⟨by decide, by decide, by decide⟩ rfl h18 h20 d_Z_getGive_92 (fun H locs hP hS => ?_)
  refine lv_aload_n hx hb d_Z_getGive_93 rfl (lv_at hl 0 rfl) ?_
  refine gf_Z_17 hx hb hts hown hK hP (by decide) a_575 d_Z_getGive_94 ?_
  refine lv_iload_n hx hb d_Z_getGive_97 rfl (lv_at hl 1 rfl) ?_
  obtain ⟨h21, hF⟩ := as_u hF
  refine l_zi hx hb hK hP 16 27 ⟨by decide, by decide, by decide⟩ rfl h21 d_Z_getGive_98 ?_
  obtain ⟨r22, h23, hF⟩ := bs_u hF
  refine k_sp [.int (z19.1 16 (x1).toNatClampNeg)] [] ⟨hx, hb, hml, hown, hts⟩ (c_Z_isQuorum l  h23) (w_Z_isQuorum hts a_665 ⟨Nat.le_of_ble_eq_true rfl, Nat.le_of_ble_eq_true rfl⟩) rfl rfl hl.1 (Nat.le_of_ble_eq_true rfl) ⟨Nat.zero_le _, Nat.zero_le _⟩ d_Z_getGive_99 ?_
  refine lv_if_eq (tgt := 160) hx hb d_Z_getGive_102 (by decide) (fun h24 => ?_) (fun h24 => ?_)
  · have hF := it_t hF h24
    have hF := rt1 hF
    subst hF
    exact W.vret hx hb hr (fun t ht hW => ⟨⟨(), rfl, trivial, vp_at ht hP⟩, hS.F ht⟩) hS.2.2 d_Z_getGive_160
  · have hF := it_f hF h24
    refine lv_aload_n hx hb d_Z_getGive_105 rfl (lv_at hl 0 rfl) ?_
    refine gf_Z_12 hx hb hts hown hK hP (by decide) a_570 d_Z_getGive_106 ?_
    refine lv_iload_n hx hb d_Z_getGive_109 rfl (lv_at hl 1 rfl) ?_
    refine lv_iconst (v := 2) hx hb d_Z_getGive_110 (by decide) ?_
    obtain ⟨h25, hF⟩ := as_u hF
    obtain ⟨z26, h27, hF⟩ := nm_u hF
    refine s_zi hx hb hK hP 11 27 hD hS ⟨by decide, by decide, by decide⟩ rfl h25 h27 d_Z_getGive_111 (fun H locs hP hS => ?_)
    refine lv_aload_n hx hb d_Z_getGive_112 rfl (lv_at hl 0 rfl) ?_
    refine gf_Z_19 hx hb hts hown hK hP (by decide) a_577 d_Z_getGive_113 ?_
    refine lv_iload_n hx hb d_Z_getGive_116 rfl (lv_at hl 1 rfl) ?_
    refine lv_aload_n hx hb d_Z_getGive_117 rfl (lv_at hl 0 rfl) ?_
    refine gf_Z_20 hx hb hts hown hK hP (by decide) a_578 d_Z_getGive_118 ?_
    refine lv_iload_n hx hb d_Z_getGive_121 rfl (lv_at hl 1 rfl) ?_
    obtain ⟨h28, hF⟩ := as_u hF
    refine l_zi hx hb hK hP 19 27 ⟨by decide, by decide, by decide⟩ rfl h28 d_Z_getGive_122 ?_
    refine lv_if_le (tgt := 135) hx hb d_Z_getGive_123 (by decide) (fun h29 => ?_) (fun h29 => ?_)
    · have hF := it_t hF h29
      refine lv_aload_n hx hb d_Z_getGive_135 rfl (lv_at hl 0 rfl) ?_
      refine gf_Z_13 hx hb hts hown hK hP (by decide) a_571 d_Z_getGive_136 ?_
      refine lv_iload_n hx hb d_Z_getGive_139 rfl (lv_at hl 1 rfl) ?_
      obtain ⟨h30, hF⟩ := as_u hF
      refine l_zi hx hb hK hP 12 27 ⟨by decide, by decide, by decide⟩ rfl h30 d_Z_getGive_140 ?_
      exact jn_Z_getGive_141 hx hb hr hts hown hlocks hml hK hD0 hD  z26 x1 (z26.1 12 (x1).toNatClampNeg) x1  z0 hF _ _ _ hP hS (lv_sub hl [0, 1] rfl)
    · have hF := it_f hF h29
      refine lv_aload_n hx hb d_Z_getGive_126 rfl (lv_at hl 0 rfl) ?_
      refine gf_Z_21 hx hb hts hown hK hP (by decide) a_579 d_Z_getGive_127 ?_
      refine lv_iload_n hx hb d_Z_getGive_130 rfl (lv_at hl 1 rfl) ?_
      obtain ⟨h41, hF⟩ := as_u hF
      refine l_zi hx hb hK hP 20 27 ⟨by decide, by decide, by decide⟩ rfl h41 d_Z_getGive_131 ?_
      refine lv_goto (tgt := 141) hx hb d_Z_getGive_132 (by decide) ?_
      exact jn_Z_getGive_141 hx hb hr hts hown hlocks hml hK hD0 hD  z26 x1 (z26.1 20 (x1).toNatClampNeg) x1  z0 hF _ _ _ hP hS (lv_sub hl [0, 1] rfl)
set_option maxHeartbeats 4000000 in
set_option maxRecDepth 100000 in
theorem jn_Z_getGive_64 {p : Program} {l : Launch} {e : Env} {s : State} {m : MethodId} {args : Array Value} {below : List Frame} {meth : Method} {c : Code} {D : va_G} {ad : Nat → Nat → Nat} {ca : Nat → ClassId} {u : XC} (hx : p.tables.exec = Jvm.exec) (hb : c.code = b_Z_getGive) (hr : meth.sig.returnType = none) (hts : ∀ w ∈ ALL, w.before args s = true) (hown : s.vm.findClass R_Z = some m.cls) (hlocks : meth.locks = false) (hml : c.maxLocals = 6) (hK : va_K D CLS (TYH ca) s) (hD0 : ∀ z u, va_D (AH ad) (wh ad ca z u)) (hD : ∀ z u, va_D (AH ad) (wh ad ca z u))  : ∀ (z : ZW) (x1 : Int32) (x4 : Int32) (w0 : Int32) (w1 : Int32)  (z0 : ZW), Fj_Z_getGive_64  z x1 x4 w0 w1 = some z0 → ∀ (H : Heap) (locs : List Loc) (ls : Array Slot), va_P D CLS (wh ad ca z u) H → va_S (AH ad) s.heap H locs → lv_has ls 6 [(0, .ref (ad 14 0)), (1, .int x1), (4, .int x4)] → W p l e ({ frames := 3, cells := 0, slots := 0, locals := 66 } : Room) s m args below meth c H locs 0 0 (MQ below (va_Qv (fun (_ : Unit) => True) (fun _ t => va_P D CLS (wh ad ca z0 u) t.heap) (AH ad)) args s 0 0 (AH ad)) (F0 m 64 ls [.int w0, .int w1, .ref (ad 34 0)]) := by
  intro z x1 x4 w0 w1 z0 hF H locs ls hP hS hl
  unfold Fj_Z_getGive_64 at hF
  obtain ⟨h12, hF⟩ := as_u hF
  obtain ⟨z13, h14, hF⟩ := nm_u hF
  refine s_zi hx hb hK hP 20 27 hD hS ⟨by decide, by decide, by decide⟩ rfl h12 h14 d_Z_getGive_64 (fun H locs hP hS => ?_)
  refine lv_aload_n hx hb d_Z_getGive_65 rfl (lv_at hl 0 rfl) ?_
  refine gf_Z_20 hx hb hts hown hK hP (by decide) a_578 d_Z_getGive_66 ?_
  refine lv_iload_n hx hb d_Z_getGive_69 rfl (lv_at hl 1 rfl) ?_
  refine lv_iload hx hb d_Z_getGive_70 (lv_at hl 2 rfl) ?_
  refine lv_aload_n hx hb d_Z_getGive_72 rfl (lv_at hl 0 rfl) ?_
  refine gf_Z_20 hx hb hts hown hK hP (by decide) a_578 d_Z_getGive_73 ?_
  refine lv_iload_n hx hb d_Z_getGive_76 rfl (lv_at hl 1 rfl) ?_
  obtain ⟨h15, hF⟩ := as_u hF
  refine l_zi hx hb hK hP 19 27 ⟨by decide, by decide, by decide⟩ rfl h15 d_Z_getGive_77 ?_
  refine lv_icmp_le (tgt := 86) hx hb d_Z_getGive_78 (by decide) (fun h16 => ?_) (fun h16 => ?_)
  · have hF := it_t hF h16
    refine lv_aload_n hx hb d_Z_getGive_86 rfl (lv_at hl 0 rfl) ?_
    refine gf_Z_20 hx hb hts hown hK hP (by decide) a_578 d_Z_getGive_87 ?_
    refine lv_iload_n hx hb d_Z_getGive_90 rfl (lv_at hl 1 rfl) ?_
    obtain ⟨h17, hF⟩ := as_u hF
    refine l_zi hx hb hK hP 19 27 ⟨by decide, by decide, by decide⟩ rfl h17 d_Z_getGive_91 ?_
    exact jn_Z_getGive_92 hx hb hr hts hown hlocks hml hK hD0 hD  z13 x1 (z13.1 19 (x1).toNatClampNeg) x1  z0 hF _ _ _ hP hS (lv_sub hl [0, 1] rfl)
  · have hF := it_f hF h16
    refine lv_iload hx hb d_Z_getGive_81 (lv_at hl 2 rfl) ?_
    refine lv_goto (tgt := 92) hx hb d_Z_getGive_83 (by decide) ?_
    exact jn_Z_getGive_92 hx hb hr hts hown hlocks hml hK hD0 hD  z13 x1 x4 x1  z0 hF _ _ _ hP hS (lv_sub hl [0, 1] rfl)
set_option maxHeartbeats 4000000 in
set_option maxRecDepth 100000 in
theorem c_Z_getGive (l : Launch) (D : va_G) (ad : Nat → Nat → Nat) (ca : Nat → ClassId) (hD0 : ∀ z u, va_D (AH ad) (wh ad ca z u)) {z : ZW} {u : XC} {a1 : Int32} {a2 : Int32} {a3 : Int32} {a4 : Int32} {a5 : Int32} {z0 : ZW}  (hF : F_Z_getGive z a1 a2 a3 a4 a5 = some z0) : Met l y_Z_getGive ws_Z_getGive ({ frames := 3, cells := 0, slots := 0, locals := 66 } : Room) (va_Pc [.ref (ad 14 0), .int a1, .int a2, .int a3, .int a4, .int a5] (fun U => va_P D CLS (wh ad ca z u) U.heap ∧ va_K D CLS (TYH ca) U)) (va_Qv (fun (_ : Unit) => True) (fun _ t => va_P D CLS (wh ad ca z0 u) t.heap) (AH ad)) 0 0 (AH ad) := by
  refine Met.ofW (cc := b_Z_getGive) (maxL := 6) (ret := none) (by decide +kernel) rfl ?_
  intro p e s m args below meth c s₁ B hml hv
  obtain ⟨rfl, hP, hK⟩ := hv
  have hx := B.exec
  have hb := B.bytes
  have hr := B.returns
  have hts : ∀ w ∈ ALL, w.before _ s = true := fun w h => atoms_spec (ws := ws_Z_getGive) B.pre w (List.mem_cons_of_mem _ h)
  have hown : s.vm.findClass R_Z = some m.cls := findClass_of_methodNamed B.named
  have hlocks := B.notSynchronized
  have hD := hD0
  have hS : va_S (AH ad) s.heap s.heap [] := va_S.rf
  have hP : va_P D CLS (wh ad ca z u) s.heap := hP
  have hl := lv_entry ([.ref (ad 14 0), .int a1, .int a2, .int a3, .int a4, .int a5]) (n := 6) (Nat.le_of_ble_eq_true rfl)
  rw [lg_entry_eq]
  generalize (lg_sl ([.ref (ad 14 0), .int a1, .int a2, .int a3, .int a4, .int a5]) ++ List.replicate (6 - (lg_sl ([.ref (ad 14 0), .int a1, .int a2, .int a3, .int a4, .int a5])).length) Slot.unset).toArray = ls at hl ⊢
  have hl : lv_has ls 6 [(0, .ref (ad 14 0)), (1, .int a1), (2, .int a2), (3, .int a3), (4, .int a4), (5, .int a5)] := hl
  unfold F_Z_getGive at hF
  refine lv_aload_n hx hb d_Z_getGive_0 rfl (lv_at hl 0 rfl) ?_
  refine gf_Z_12 hx hb hts hown hK hP (by decide) a_570 d_Z_getGive_1 ?_
  refine lv_iload_n hx hb d_Z_getGive_4 rfl (lv_at hl 1 rfl) ?_
  obtain ⟨h1, hF⟩ := as_u hF
  refine l_zi hx hb hK hP 11 27 ⟨by decide, by decide, by decide⟩ rfl h1 d_Z_getGive_5 ?_
  refine lv_iconst (v := 1) hx hb d_Z_getGive_6 (by decide) ?_
  refine lv_icmp_ne (tgt := 20) hx hb d_Z_getGive_7 (by decide) (fun h2 => ?_) (fun h2 => ?_)
  · have hF := it_f hF h2
    have hF := rt1 hF
    subst hF
    exact W.vret hx hb hr (fun t ht hW => ⟨⟨(), rfl, trivial, vp_at ht hP⟩, hS.F ht⟩) hS.2.2 d_Z_getGive_20
  · have hF := it_t hF h2
    refine lv_aload_n hx hb d_Z_getGive_10 rfl (lv_at hl 0 rfl) ?_
    refine gf_Z_15 hx hb hts hown hK hP (by decide) a_573 d_Z_getGive_11 ?_
    refine lv_iload_n hx hb d_Z_getGive_14 rfl (lv_at hl 1 rfl) ?_
    obtain ⟨h3, hF⟩ := as_u hF
    refine l_zi hx hb hK hP 14 27 ⟨by decide, by decide, by decide⟩ rfl h3 d_Z_getGive_15 ?_
    refine lv_iload_n hx hb d_Z_getGive_16 rfl (lv_at hl 3 rfl) ?_
    refine lv_icmp_eq (tgt := 21) hx hb d_Z_getGive_17 (by decide) (fun h4 => ?_) (fun h4 => ?_)
    · have hF := it_t hF h4
      refine lv_aload_n hx hb d_Z_getGive_21 rfl (lv_at hl 0 rfl) ?_
      refine gf_Z_17 hx hb hts hown hK hP (by decide) a_575 d_Z_getGive_22 ?_
      refine lv_iload_n hx hb d_Z_getGive_25 rfl (lv_at hl 1 rfl) ?_
      refine lv_aload_n hx hb d_Z_getGive_26 rfl (lv_at hl 0 rfl) ?_
      refine gf_Z_17 hx hb hts hown hK hP (by decide) a_575 d_Z_getGive_27 ?_
      refine lv_iload_n hx hb d_Z_getGive_30 rfl (lv_at hl 1 rfl) ?_
      obtain ⟨h5, hF⟩ := as_u hF
      refine l_zi hx hb hK hP 16 27 ⟨by decide, by decide, by decide⟩ rfl h5 d_Z_getGive_31 ?_
      refine lv_iconst (v := 1) hx hb d_Z_getGive_32 (by decide) ?_
      refine lv_iload_n hx hb d_Z_getGive_33 rfl (lv_at hl 2 rfl) ?_
      refine lv_ishl hx hb d_Z_getGive_34 ?_
      refine lv_ior hx hb d_Z_getGive_35 ?_
      obtain ⟨h6, hF⟩ := as_u hF
      obtain ⟨z7, h8, hF⟩ := nm_u hF
      refine s_zi hx hb hK hP 16 27 hD hS ⟨by decide, by decide, by decide⟩ rfl h6 h8 d_Z_getGive_36 (fun H locs hP hS => ?_)
      refine lv_aload_n hx hb d_Z_getGive_37 rfl (lv_at hl 0 rfl) ?_
      refine gf_Z_21 hx hb hts hown hK hP (by decide) a_579 d_Z_getGive_38 ?_
      refine lv_iload_n hx hb d_Z_getGive_41 rfl (lv_at hl 1 rfl) ?_
      refine lv_iload hx hb d_Z_getGive_42 (lv_at hl 4 rfl) ?_
      refine lv_aload_n hx hb d_Z_getGive_44 rfl (lv_at hl 0 rfl) ?_
      refine gf_Z_20 hx hb hts hown hK hP (by decide) a_578 d_Z_getGive_45 ?_
      refine lv_iload_n hx hb d_Z_getGive_48 rfl (lv_at hl 1 rfl) ?_
      obtain ⟨h9, hF⟩ := as_u hF
      refine l_zi hx hb hK hP 19 27 ⟨by decide, by decide, by decide⟩ rfl h9 d_Z_getGive_49 ?_
      refine lv_icmp_le (tgt := 58) hx hb d_Z_getGive_50 (by decide) (fun h10 => ?_) (fun h10 => ?_)
      · have hF := it_t hF h10
        refine lv_aload_n hx hb d_Z_getGive_58 rfl (lv_at hl 0 rfl) ?_
        refine gf_Z_21 hx hb hts hown hK hP (by decide) a_579 d_Z_getGive_59 ?_
        refine lv_iload_n hx hb d_Z_getGive_62 rfl (lv_at hl 1 rfl) ?_
        obtain ⟨h11, hF⟩ := as_u hF
        refine l_zi hx hb hK hP 20 27 ⟨by decide, by decide, by decide⟩ rfl h11 d_Z_getGive_63 ?_
        exact jn_Z_getGive_64 hx hb hr hts hown hlocks hml hK hD0 hD  z7 a1 a4 (z7.1 20 (a1).toNatClampNeg) a1  z0 hF _ _ _ hP hS (lv_sub hl [0, 1, 4] rfl)
      · have hF := it_f hF h10
        refine lv_iload hx hb d_Z_getGive_53 (lv_at hl 5 rfl) ?_
        refine lv_goto (tgt := 64) hx hb d_Z_getGive_55 (by decide) ?_
        exact jn_Z_getGive_64 hx hb hr hts hown hlocks hml hK hD0 hD  z7 a1 a4 a5 a1  z0 hF _ _ _ hP hS (lv_sub hl [0, 1, 4] rfl)
    · have hF := it_f hF h4
      have hF := rt1 hF
      subst hF
      exact W.vret hx hb hr (fun t ht hW => ⟨⟨(), rfl, trivial, vp_at ht hP⟩, hS.F ht⟩) hS.2.2 d_Z_getGive_20
def ws_Z_getSettle : List Cond := Cond.code y_Z_getSettle b_Z_getSettle 6 none :: ALL
theorem w_Z_getSettle {R : Room} {s : State} {args : Array Value} {own : String} {index : Nat} (hts : ∀ w ∈ ALL, w.before args s = true) (hlk : Cond.methodLink own index y_Z_getSettle ∈ ALL) (hR : (({ frames := 1, cells := 0, slots := 0, locals := 26 } : Room)).frames + 1 ≤ R.frames ∧ 8 + (6 + 11) + (({ frames := 1, cells := 0, slots := 0, locals := 26 } : Room)).locals ≤ R.locals) : CallW R s args own R_Z index y_Z_getSettle b_Z_getSettle 6 none ws_Z_getSettle ({ frames := 1, cells := 0, slots := 0, locals := 26 } : Room) 0 0 5 := ⟨callB_of 5 hts (good_c a_779) rfl rfl rfl (hts _ a_8) (hts _ hlk) (by decide +kernel) hR, hts _ a_778, hts _ a_s21⟩
theorem d_Z_getSettle_0 : decode b_Z_getSettle 0 = .ok (.iload_n 3, 1) := by decide +kernel
theorem d_Z_getSettle_1 : decode b_Z_getSettle 1 = .ok (.aload_n 0, 1) := by decide +kernel
theorem d_Z_getSettle_2 : decode b_Z_getSettle 2 = .ok (.getfield 29, 3) := by decide +kernel
theorem d_Z_getSettle_5 : decode b_Z_getSettle 5 = .ok (.iload_n 1, 1) := by decide +kernel
theorem d_Z_getSettle_6 : decode b_Z_getSettle 6 = .ok (.iaload, 1) := by decide +kernel
theorem d_Z_getSettle_7 : decode b_Z_getSettle 7 = .ok (.if_icmp .ge 19, 3) := by decide +kernel
theorem d_Z_getSettle_10 : decode b_Z_getSettle 10 = .ok (.aload_n 0, 1) := by decide +kernel
theorem d_Z_getSettle_11 : decode b_Z_getSettle 11 = .ok (.iconst 2, 1) := by decide +kernel
theorem d_Z_getSettle_12 : decode b_Z_getSettle 12 = .ok (.iload_n 1, 1) := by decide +kernel
theorem d_Z_getSettle_13 : decode b_Z_getSettle 13 = .ok (.iload_n 2, 1) := by decide +kernel
theorem d_Z_getSettle_14 : decode b_Z_getSettle 14 = .ok (.iload_n 3, 1) := by decide +kernel
theorem d_Z_getSettle_15 : decode b_Z_getSettle 15 = .ok (.iconst (-1), 1) := by decide +kernel
theorem d_Z_getSettle_16 : decode b_Z_getSettle 16 = .ok (.aload_n 0, 1) := by decide +kernel
theorem d_Z_getSettle_17 : decode b_Z_getSettle 17 = .ok (.getfield 29, 3) := by decide +kernel
theorem d_Z_getSettle_20 : decode b_Z_getSettle 20 = .ok (.iload_n 1, 1) := by decide +kernel
theorem d_Z_getSettle_21 : decode b_Z_getSettle 21 = .ok (.iaload, 1) := by decide +kernel
theorem d_Z_getSettle_22 : decode b_Z_getSettle 22 = .ok (.invokevirtual 134, 3) := by decide +kernel
theorem d_Z_getSettle_25 : decode b_Z_getSettle 25 = .ok (.return_, 1) := by decide +kernel
theorem d_Z_getSettle_26 : decode b_Z_getSettle 26 = .ok (.aload_n 0, 1) := by decide +kernel
theorem d_Z_getSettle_27 : decode b_Z_getSettle 27 = .ok (.getfield 29, 3) := by decide +kernel
theorem d_Z_getSettle_30 : decode b_Z_getSettle 30 = .ok (.iload_n 1, 1) := by decide +kernel
theorem d_Z_getSettle_31 : decode b_Z_getSettle 31 = .ok (.iload_n 3, 1) := by decide +kernel
theorem d_Z_getSettle_32 : decode b_Z_getSettle 32 = .ok (.iastore, 1) := by decide +kernel
theorem d_Z_getSettle_33 : decode b_Z_getSettle 33 = .ok (.aload_n 0, 1) := by decide +kernel
theorem d_Z_getSettle_34 : decode b_Z_getSettle 34 = .ok (.getfield 32, 3) := by decide +kernel
theorem d_Z_getSettle_37 : decode b_Z_getSettle 37 = .ok (.bipush 6, 2) := by decide +kernel
theorem d_Z_getSettle_39 : decode b_Z_getSettle 39 = .ok (.iload_n 1, 1) := by decide +kernel
theorem d_Z_getSettle_40 : decode b_Z_getSettle 40 = .ok (.imul, 1) := by decide +kernel
theorem d_Z_getSettle_41 : decode b_Z_getSettle 41 = .ok (.iload 4, 2) := by decide +kernel
theorem d_Z_getSettle_43 : decode b_Z_getSettle 43 = .ok (.iadd, 1) := by decide +kernel
theorem d_Z_getSettle_44 : decode b_Z_getSettle 44 = .ok (.iload_n 3, 1) := by decide +kernel
theorem d_Z_getSettle_45 : decode b_Z_getSettle 45 = .ok (.iastore, 1) := by decide +kernel
theorem d_Z_getSettle_46 : decode b_Z_getSettle 46 = .ok (.aload_n 0, 1) := by decide +kernel
theorem d_Z_getSettle_47 : decode b_Z_getSettle 47 = .ok (.getfield 35, 3) := by decide +kernel
theorem d_Z_getSettle_50 : decode b_Z_getSettle 50 = .ok (.bipush 6, 2) := by decide +kernel
theorem d_Z_getSettle_52 : decode b_Z_getSettle 52 = .ok (.iload_n 1, 1) := by decide +kernel
theorem d_Z_getSettle_53 : decode b_Z_getSettle 53 = .ok (.imul, 1) := by decide +kernel
theorem d_Z_getSettle_54 : decode b_Z_getSettle 54 = .ok (.iload 4, 2) := by decide +kernel
theorem d_Z_getSettle_56 : decode b_Z_getSettle 56 = .ok (.iadd, 1) := by decide +kernel
theorem d_Z_getSettle_57 : decode b_Z_getSettle 57 = .ok (.iload 5, 2) := by decide +kernel
theorem d_Z_getSettle_59 : decode b_Z_getSettle 59 = .ok (.iastore, 1) := by decide +kernel
theorem d_Z_getSettle_60 : decode b_Z_getSettle 60 = .ok (.aload_n 0, 1) := by decide +kernel
theorem d_Z_getSettle_61 : decode b_Z_getSettle 61 = .ok (.iconst 4, 1) := by decide +kernel
theorem d_Z_getSettle_62 : decode b_Z_getSettle 62 = .ok (.iload_n 1, 1) := by decide +kernel
theorem d_Z_getSettle_63 : decode b_Z_getSettle 63 = .ok (.iload_n 2, 1) := by decide +kernel
theorem d_Z_getSettle_64 : decode b_Z_getSettle 64 = .ok (.iload_n 3, 1) := by decide +kernel
theorem d_Z_getSettle_65 : decode b_Z_getSettle 65 = .ok (.iload 4, 2) := by decide +kernel
theorem d_Z_getSettle_67 : decode b_Z_getSettle 67 = .ok (.iconst (-1), 1) := by decide +kernel
theorem d_Z_getSettle_68 : decode b_Z_getSettle 68 = .ok (.invokevirtual 134, 3) := by decide +kernel
theorem d_Z_getSettle_71 : decode b_Z_getSettle 71 = .ok (.return_, 1) := by decide +kernel
def F_Z_getSettle (z : ZW) (a1 : Int32) (a2 : Int32) (a3 : Int32) (a4 : Int32) (a5 : Int32) : Option (ZW) := (if 0 ≤ a1 ∧ (a1).toNatClampNeg < 27 then (if (z.1 7 (a1).toNatClampNeg) ≤ a3 then (if 0 ≤ a1 ∧ (a1).toNatClampNeg < 27 then (nm_ (pz z 7 (a1).toNatClampNeg a3) fun z4 => (if 0 ≤ ((6 * a1) + a4) ∧ (((6 * a1) + a4)).toNatClampNeg < 162 then (nm_ (pz z4 8 (((6 * a1) + a4)).toNatClampNeg a3) fun z7 => (if 0 ≤ ((6 * a1) + a4) ∧ (((6 * a1) + a4)).toNatClampNeg < 162 then (nm_ (pz z7 9 (((6 * a1) + a4)).toNatClampNeg a5) fun z10 => (bs_ (F_Z_send z10 4 a1 a2 a3 a4 (-1)) fun z14 => some z14)) else none)) else none)) else none) else (if 0 ≤ a1 ∧ (a1).toNatClampNeg < 27 then (bs_ (F_Z_send z 2 a1 a2 a3 (-1) (z.1 7 (a1).toNatClampNeg)) fun z18 => some z18) else none)) else none)
set_option maxHeartbeats 4000000 in
set_option maxRecDepth 100000 in
theorem c_Z_getSettle (l : Launch) (D : va_G) (ad : Nat → Nat → Nat) (ca : Nat → ClassId) (hD0 : ∀ z u, va_D (AH ad) (wh ad ca z u)) {z : ZW} {u : XC} {a1 : Int32} {a2 : Int32} {a3 : Int32} {a4 : Int32} {a5 : Int32} {z0 : ZW}  (hF : F_Z_getSettle z a1 a2 a3 a4 a5 = some z0) : Met l y_Z_getSettle ws_Z_getSettle ({ frames := 1, cells := 0, slots := 0, locals := 26 } : Room) (va_Pc [.ref (ad 14 0), .int a1, .int a2, .int a3, .int a4, .int a5] (fun U => va_P D CLS (wh ad ca z u) U.heap ∧ va_K D CLS (TYH ca) U)) (va_Qv (fun (_ : Unit) => True) (fun _ t => va_P D CLS (wh ad ca z0 u) t.heap) (AH ad)) 0 0 (AH ad) := by
  refine Met.ofW (cc := b_Z_getSettle) (maxL := 6) (ret := none) (by decide +kernel) rfl ?_
  intro p e s m args below meth c s₁ B hml hv
  obtain ⟨rfl, hP, hK⟩ := hv
  have hx := B.exec
  have hb := B.bytes
  have hr := B.returns
  have hts : ∀ w ∈ ALL, w.before _ s = true := fun w h => atoms_spec (ws := ws_Z_getSettle) B.pre w (List.mem_cons_of_mem _ h)
  have hown : s.vm.findClass R_Z = some m.cls := findClass_of_methodNamed B.named
  have hlocks := B.notSynchronized
  have hD := hD0
  have hS : va_S (AH ad) s.heap s.heap [] := va_S.rf
  have hP : va_P D CLS (wh ad ca z u) s.heap := hP
  have hl := lv_entry ([.ref (ad 14 0), .int a1, .int a2, .int a3, .int a4, .int a5]) (n := 6) (Nat.le_of_ble_eq_true rfl)
  rw [lg_entry_eq]
  generalize (lg_sl ([.ref (ad 14 0), .int a1, .int a2, .int a3, .int a4, .int a5]) ++ List.replicate (6 - (lg_sl ([.ref (ad 14 0), .int a1, .int a2, .int a3, .int a4, .int a5])).length) Slot.unset).toArray = ls at hl ⊢
  have hl : lv_has ls 6 [(0, .ref (ad 14 0)), (1, .int a1), (2, .int a2), (3, .int a3), (4, .int a4), (5, .int a5)] := hl
  unfold F_Z_getSettle at hF
  refine lv_iload_n hx hb d_Z_getSettle_0 rfl (lv_at hl 3 rfl) ?_
  refine lv_aload_n hx hb d_Z_getSettle_1 rfl (lv_at hl 0 rfl) ?_
  refine gf_Z_8 hx hb hts hown hK hP (by decide) a_566 d_Z_getSettle_2 ?_
  refine lv_iload_n hx hb d_Z_getSettle_5 rfl (lv_at hl 1 rfl) ?_
  obtain ⟨h1, hF⟩ := as_u hF
  refine l_zi hx hb hK hP 7 27 ⟨by decide, by decide, by decide⟩ rfl h1 d_Z_getSettle_6 ?_
  refine lv_icmp_ge (tgt := 26) hx hb d_Z_getSettle_7 (by decide) (fun h2 => ?_) (fun h2 => ?_)
  · have hF := it_t hF h2
    refine lv_aload_n hx hb d_Z_getSettle_26 rfl (lv_at hl 0 rfl) ?_
    refine gf_Z_8 hx hb hts hown hK hP (by decide) a_566 d_Z_getSettle_27 ?_
    refine lv_iload_n hx hb d_Z_getSettle_30 rfl (lv_at hl 1 rfl) ?_
    refine lv_iload_n hx hb d_Z_getSettle_31 rfl (lv_at hl 3 rfl) ?_
    obtain ⟨h3, hF⟩ := as_u hF
    obtain ⟨z4, h5, hF⟩ := nm_u hF
    refine s_zi hx hb hK hP 7 27 hD hS ⟨by decide, by decide, by decide⟩ rfl h3 h5 d_Z_getSettle_32 (fun H locs hP hS => ?_)
    refine lv_aload_n hx hb d_Z_getSettle_33 rfl (lv_at hl 0 rfl) ?_
    refine gf_Z_9 hx hb hts hown hK hP (by decide) a_567 d_Z_getSettle_34 ?_
    refine lv_bipush (v := 6) hx hb d_Z_getSettle_37 (by decide) ?_
    refine lv_iload_n hx hb d_Z_getSettle_39 rfl (lv_at hl 1 rfl) ?_
    refine lv_imul hx hb d_Z_getSettle_40 ?_
    refine lv_iload hx hb d_Z_getSettle_41 (lv_at hl 4 rfl) ?_
    refine lv_iadd hx hb d_Z_getSettle_43 ?_
    refine lv_iload_n hx hb d_Z_getSettle_44 rfl (lv_at hl 3 rfl) ?_
    obtain ⟨h6, hF⟩ := as_u hF
    obtain ⟨z7, h8, hF⟩ := nm_u hF
    refine s_zi hx hb hK hP 8 162 hD hS ⟨by decide, by decide, by decide⟩ rfl h6 h8 d_Z_getSettle_45 (fun H locs hP hS => ?_)
    refine lv_aload_n hx hb d_Z_getSettle_46 rfl (lv_at hl 0 rfl) ?_
    refine gf_Z_10 hx hb hts hown hK hP (by decide) a_568 d_Z_getSettle_47 ?_
    refine lv_bipush (v := 6) hx hb d_Z_getSettle_50 (by decide) ?_
    refine lv_iload_n hx hb d_Z_getSettle_52 rfl (lv_at hl 1 rfl) ?_
    refine lv_imul hx hb d_Z_getSettle_53 ?_
    refine lv_iload hx hb d_Z_getSettle_54 (lv_at hl 4 rfl) ?_
    refine lv_iadd hx hb d_Z_getSettle_56 ?_
    refine lv_iload hx hb d_Z_getSettle_57 (lv_at hl 5 rfl) ?_
    obtain ⟨h9, hF⟩ := as_u hF
    obtain ⟨z10, h11, hF⟩ := nm_u hF
    refine s_zi hx hb hK hP 9 162 hD hS ⟨by decide, by decide, by decide⟩ rfl h9 h11 d_Z_getSettle_59 (fun H locs hP hS => ?_)
    refine lv_aload_n hx hb d_Z_getSettle_60 rfl (lv_at hl 0 rfl) ?_
    refine lv_iconst (v := 4) hx hb d_Z_getSettle_61 (by decide) ?_
    refine lv_iload_n hx hb d_Z_getSettle_62 rfl (lv_at hl 1 rfl) ?_
    refine lv_iload_n hx hb d_Z_getSettle_63 rfl (lv_at hl 2 rfl) ?_
    refine lv_iload_n hx hb d_Z_getSettle_64 rfl (lv_at hl 3 rfl) ?_
    refine lv_iload hx hb d_Z_getSettle_65 (lv_at hl 4 rfl) ?_
    refine lv_iconst (v := (-1)) hx hb d_Z_getSettle_67 (by decide) ?_
    obtain ⟨z14, h13, hF⟩ := bs_u hF
    refine k_vv (ad 14 0) [.int 4, .int a1, .int a2, .int a3, .int a4, .int (-1)] [] ⟨hx, hb, hml, hown, hts⟩ (c_Z_send l D ad ca hD0 (z := z10) (u := u)  h13) (w_Z_send hts a_745 ⟨Nat.le_of_ble_eq_true rfl, Nat.le_of_ble_eq_true rfl⟩) (rv_Z hK hP (by decide)) hP hK hS (fun _ h => h) rfl rfl hl.1 (Nat.le_of_ble_eq_true rfl) ⟨Nat.zero_le _, Nat.zero_le _⟩ d_Z_getSettle_68 (fun H locs hP hS => ?_)
    have hF := rt1 hF
    subst hF
    exact W.vret hx hb hr (fun t ht hW => ⟨⟨(), rfl, trivial, vp_at ht hP⟩, hS.F ht⟩) hS.2.2 d_Z_getSettle_71
  · have hF := it_f hF h2
    refine lv_aload_n hx hb d_Z_getSettle_10 rfl (lv_at hl 0 rfl) ?_
    refine lv_iconst (v := 2) hx hb d_Z_getSettle_11 (by decide) ?_
    refine lv_iload_n hx hb d_Z_getSettle_12 rfl (lv_at hl 1 rfl) ?_
    refine lv_iload_n hx hb d_Z_getSettle_13 rfl (lv_at hl 2 rfl) ?_
    refine lv_iload_n hx hb d_Z_getSettle_14 rfl (lv_at hl 3 rfl) ?_
    refine lv_iconst (v := (-1)) hx hb d_Z_getSettle_15 (by decide) ?_
    refine lv_aload_n hx hb d_Z_getSettle_16 rfl (lv_at hl 0 rfl) ?_
    refine gf_Z_8 hx hb hts hown hK hP (by decide) a_566 d_Z_getSettle_17 ?_
    refine lv_iload_n hx hb d_Z_getSettle_20 rfl (lv_at hl 1 rfl) ?_
    obtain ⟨h15, hF⟩ := as_u hF
    refine l_zi hx hb hK hP 7 27 ⟨by decide, by decide, by decide⟩ rfl h15 d_Z_getSettle_21 ?_
    obtain ⟨z18, h17, hF⟩ := bs_u hF
    refine k_vv (ad 14 0) [.int 2, .int a1, .int a2, .int a3, .int (-1), .int (z.1 7 (a1).toNatClampNeg)] [] ⟨hx, hb, hml, hown, hts⟩ (c_Z_send l D ad ca hD0 (z := z) (u := u)  h17) (w_Z_send hts a_745 ⟨Nat.le_of_ble_eq_true rfl, Nat.le_of_ble_eq_true rfl⟩) (rv_Z hK hP (by decide)) hP hK hS (fun _ h => h) rfl rfl hl.1 (Nat.le_of_ble_eq_true rfl) ⟨Nat.zero_le _, Nat.zero_le _⟩ d_Z_getSettle_22 (fun H locs hP hS => ?_)
    have hF := rt1 hF
    subst hF
    exact W.vret hx hb hr (fun t ht hW => ⟨⟨(), rfl, trivial, vp_at ht hP⟩, hS.F ht⟩) hS.2.2 d_Z_getSettle_25
def ws_Z_know : List Cond := Cond.code y_Z_know b_Z_know 4 none :: ALL
theorem w_Z_know {R : Room} {s : State} {args : Array Value} {own : String} {index : Nat} (hts : ∀ w ∈ ALL, w.before args s = true) (hlk : Cond.methodLink own index y_Z_know ∈ ALL) (hR : (({ frames := 5, cells := 0, slots := 0, locals := 125 } : Room)).frames + 1 ≤ R.frames ∧ 8 + (4 + 11) + (({ frames := 5, cells := 0, slots := 0, locals := 125 } : Room)).locals ≤ R.locals) : CallW R s args own R_Z index y_Z_know b_Z_know 4 none ws_Z_know ({ frames := 5, cells := 0, slots := 0, locals := 125 } : Room) 0 0 3 := ⟨callB_of 3 hts (good_c a_787) rfl rfl rfl (hts _ a_8) (hts _ hlk) (by decide +kernel) hR, hts _ a_786, hts _ a_s23⟩
theorem d_Z_know_0 : decode b_Z_know 0 = .ok (.aload_n 0, 1) := by decide +kernel
theorem d_Z_know_1 : decode b_Z_know 1 = .ok (.getfield 38, 3) := by decide +kernel
theorem d_Z_know_4 : decode b_Z_know 4 = .ok (.bipush 6, 2) := by decide +kernel
theorem d_Z_know_6 : decode b_Z_know 6 = .ok (.iload_n 1, 1) := by decide +kernel
theorem d_Z_know_7 : decode b_Z_know 7 = .ok (.imul, 1) := by decide +kernel
theorem d_Z_know_8 : decode b_Z_know 8 = .ok (.iload_n 2, 1) := by decide +kernel
theorem d_Z_know_9 : decode b_Z_know 9 = .ok (.iadd, 1) := by decide +kernel
theorem d_Z_know_10 : decode b_Z_know 10 = .ok (.iaload, 1) := by decide +kernel
theorem d_Z_know_11 : decode b_Z_know 11 = .ok (.ifCond .le 4, 3) := by decide +kernel
theorem d_Z_know_14 : decode b_Z_know 14 = .ok (.return_, 1) := by decide +kernel
theorem d_Z_know_15 : decode b_Z_know 15 = .ok (.aload_n 0, 1) := by decide +kernel
theorem d_Z_know_16 : decode b_Z_know 16 = .ok (.getfield 38, 3) := by decide +kernel
theorem d_Z_know_19 : decode b_Z_know 19 = .ok (.bipush 6, 2) := by decide +kernel
theorem d_Z_know_21 : decode b_Z_know 21 = .ok (.iload_n 1, 1) := by decide +kernel
theorem d_Z_know_22 : decode b_Z_know 22 = .ok (.imul, 1) := by decide +kernel
theorem d_Z_know_23 : decode b_Z_know 23 = .ok (.iload_n 2, 1) := by decide +kernel
theorem d_Z_know_24 : decode b_Z_know 24 = .ok (.iadd, 1) := by decide +kernel
theorem d_Z_know_25 : decode b_Z_know 25 = .ok (.iload_n 3, 1) := by decide +kernel
theorem d_Z_know_26 : decode b_Z_know 26 = .ok (.iconst 1, 1) := by decide +kernel
theorem d_Z_know_27 : decode b_Z_know 27 = .ok (.iadd, 1) := by decide +kernel
theorem d_Z_know_28 : decode b_Z_know 28 = .ok (.iastore, 1) := by decide +kernel
theorem d_Z_know_29 : decode b_Z_know 29 = .ok (.aload_n 0, 1) := by decide +kernel
theorem d_Z_know_30 : decode b_Z_know 30 = .ok (.getfield 41, 3) := by decide +kernel
theorem d_Z_know_33 : decode b_Z_know 33 = .ok (.iload_n 1, 1) := by decide +kernel
theorem d_Z_know_34 : decode b_Z_know 34 = .ok (.iaload, 1) := by decide +kernel
theorem d_Z_know_35 : decode b_Z_know 35 = .ok (.ifCond .le 39, 3) := by decide +kernel
theorem d_Z_know_38 : decode b_Z_know 38 = .ok (.aload_n 0, 1) := by decide +kernel
theorem d_Z_know_39 : decode b_Z_know 39 = .ok (.getfield 47, 3) := by decide +kernel
theorem d_Z_know_42 : decode b_Z_know 42 = .ok (.iload_n 1, 1) := by decide +kernel
theorem d_Z_know_43 : decode b_Z_know 43 = .ok (.iaload, 1) := by decide +kernel
theorem d_Z_know_44 : decode b_Z_know 44 = .ok (.iload_n 2, 1) := by decide +kernel
theorem d_Z_know_45 : decode b_Z_know 45 = .ok (.if_icmp .ne 29, 3) := by decide +kernel
theorem d_Z_know_48 : decode b_Z_know 48 = .ok (.aload_n 0, 1) := by decide +kernel
theorem d_Z_know_49 : decode b_Z_know 49 = .ok (.getfield 44, 3) := by decide +kernel
theorem d_Z_know_52 : decode b_Z_know 52 = .ok (.iload_n 1, 1) := by decide +kernel
theorem d_Z_know_53 : decode b_Z_know 53 = .ok (.iaload, 1) := by decide +kernel
theorem d_Z_know_54 : decode b_Z_know 54 = .ok (.iload_n 3, 1) := by decide +kernel
theorem d_Z_know_55 : decode b_Z_know 55 = .ok (.if_icmp .ne 13, 3) := by decide +kernel
theorem d_Z_know_58 : decode b_Z_know 58 = .ok (.aload_n 0, 1) := by decide +kernel
theorem d_Z_know_59 : decode b_Z_know 59 = .ok (.getfield 41, 3) := by decide +kernel
theorem d_Z_know_62 : decode b_Z_know 62 = .ok (.iload_n 1, 1) := by decide +kernel
theorem d_Z_know_63 : decode b_Z_know 63 = .ok (.iconst 0, 1) := by decide +kernel
theorem d_Z_know_64 : decode b_Z_know 64 = .ok (.iastore, 1) := by decide +kernel
theorem d_Z_know_65 : decode b_Z_know 65 = .ok (.goto 9, 3) := by decide +kernel
theorem d_Z_know_68 : decode b_Z_know 68 = .ok (.aload_n 0, 1) := by decide +kernel
theorem d_Z_know_69 : decode b_Z_know 69 = .ok (.iload_n 1, 1) := by decide +kernel
theorem d_Z_know_70 : decode b_Z_know 70 = .ok (.iconst 0, 1) := by decide +kernel
theorem d_Z_know_71 : decode b_Z_know 71 = .ok (.invokevirtual 159, 3) := by decide +kernel
theorem d_Z_know_74 : decode b_Z_know 74 = .ok (.return_, 1) := by decide +kernel
def F_Z_know (z : ZW) (a1 : Int32) (a2 : Int32) (a3 : Int32) : Option (ZW) := (if 0 ≤ ((6 * a1) + a2) ∧ (((6 * a1) + a2)).toNatClampNeg < 162 then (if (z.1 10 (((6 * a1) + a2)).toNatClampNeg) ≤ 0 then (if 0 ≤ ((6 * a1) + a2) ∧ (((6 * a1) + a2)).toNatClampNeg < 162 then (nm_ (pz z 10 (((6 * a1) + a2)).toNatClampNeg (a3 + 1)) fun z4 => (if 0 ≤ a1 ∧ (a1).toNatClampNeg < 27 then (if (z4.1 11 (a1).toNatClampNeg) ≤ 0 then some z4 else (if 0 ≤ a1 ∧ (a1).toNatClampNeg < 27 then (if (z4.1 13 (a1).toNatClampNeg) = a2 then (if 0 ≤ a1 ∧ (a1).toNatClampNeg < 27 then (if (z4.1 12 (a1).toNatClampNeg) = a3 then (if 0 ≤ a1 ∧ (a1).toNatClampNeg < 27 then (nm_ (pz z4 11 (a1).toNatClampNeg 0) fun z16 => some z16) else none) else (bs_ (F_Z_begin z4 a1 0) fun z14 => some z14)) else none) else some z4) else none)) else none)) else none) else some z) else none)
set_option maxHeartbeats 4000000 in
set_option maxRecDepth 100000 in
theorem c_Z_know (l : Launch) (D : va_G) (ad : Nat → Nat → Nat) (ca : Nat → ClassId) (hD0 : ∀ z u, va_D (AH ad) (wh ad ca z u)) {z : ZW} {u : XC} {a1 : Int32} {a2 : Int32} {a3 : Int32} {z0 : ZW}  (hF : F_Z_know z a1 a2 a3 = some z0) : Met l y_Z_know ws_Z_know ({ frames := 5, cells := 0, slots := 0, locals := 125 } : Room) (va_Pc [.ref (ad 14 0), .int a1, .int a2, .int a3] (fun U => va_P D CLS (wh ad ca z u) U.heap ∧ va_K D CLS (TYH ca) U)) (va_Qv (fun (_ : Unit) => True) (fun _ t => va_P D CLS (wh ad ca z0 u) t.heap) (AH ad)) 0 0 (AH ad) := by
  refine Met.ofW (cc := b_Z_know) (maxL := 4) (ret := none) (by decide +kernel) rfl ?_
  intro p e s m args below meth c s₁ B hml hv
  obtain ⟨rfl, hP, hK⟩ := hv
  have hx := B.exec
  have hb := B.bytes
  have hr := B.returns
  have hts : ∀ w ∈ ALL, w.before _ s = true := fun w h => atoms_spec (ws := ws_Z_know) B.pre w (List.mem_cons_of_mem _ h)
  have hown : s.vm.findClass R_Z = some m.cls := findClass_of_methodNamed B.named
  have hlocks := B.notSynchronized
  have hD := hD0
  have hS : va_S (AH ad) s.heap s.heap [] := va_S.rf
  have hP : va_P D CLS (wh ad ca z u) s.heap := hP
  have hl := lv_entry ([.ref (ad 14 0), .int a1, .int a2, .int a3]) (n := 4) (Nat.le_of_ble_eq_true rfl)
  rw [lg_entry_eq]
  generalize (lg_sl ([.ref (ad 14 0), .int a1, .int a2, .int a3]) ++ List.replicate (4 - (lg_sl ([.ref (ad 14 0), .int a1, .int a2, .int a3])).length) Slot.unset).toArray = ls at hl ⊢
  have hl : lv_has ls 4 [(0, .ref (ad 14 0)), (1, .int a1), (2, .int a2), (3, .int a3)] := hl
  unfold F_Z_know at hF
  refine lv_aload_n hx hb d_Z_know_0 rfl (lv_at hl 0 rfl) ?_
  refine gf_Z_11 hx hb hts hown hK hP (by decide) a_569 d_Z_know_1 ?_
  refine lv_bipush (v := 6) hx hb d_Z_know_4 (by decide) ?_
  refine lv_iload_n hx hb d_Z_know_6 rfl (lv_at hl 1 rfl) ?_
  refine lv_imul hx hb d_Z_know_7 ?_
  refine lv_iload_n hx hb d_Z_know_8 rfl (lv_at hl 2 rfl) ?_
  refine lv_iadd hx hb d_Z_know_9 ?_
  obtain ⟨h1, hF⟩ := as_u hF
  refine l_zi hx hb hK hP 10 162 ⟨by decide, by decide, by decide⟩ rfl h1 d_Z_know_10 ?_
  refine lv_if_le (tgt := 15) hx hb d_Z_know_11 (by decide) (fun h2 => ?_) (fun h2 => ?_)
  · have hF := it_t hF h2
    refine lv_aload_n hx hb d_Z_know_15 rfl (lv_at hl 0 rfl) ?_
    refine gf_Z_11 hx hb hts hown hK hP (by decide) a_569 d_Z_know_16 ?_
    refine lv_bipush (v := 6) hx hb d_Z_know_19 (by decide) ?_
    refine lv_iload_n hx hb d_Z_know_21 rfl (lv_at hl 1 rfl) ?_
    refine lv_imul hx hb d_Z_know_22 ?_
    refine lv_iload_n hx hb d_Z_know_23 rfl (lv_at hl 2 rfl) ?_
    refine lv_iadd hx hb d_Z_know_24 ?_
    refine lv_iload_n hx hb d_Z_know_25 rfl (lv_at hl 3 rfl) ?_
    refine lv_iconst (v := 1) hx hb d_Z_know_26 (by decide) ?_
    refine lv_iadd hx hb d_Z_know_27 ?_
    obtain ⟨h3, hF⟩ := as_u hF
    obtain ⟨z4, h5, hF⟩ := nm_u hF
    refine s_zi hx hb hK hP 10 162 hD hS ⟨by decide, by decide, by decide⟩ rfl h3 h5 d_Z_know_28 (fun H locs hP hS => ?_)
    refine lv_aload_n hx hb d_Z_know_29 rfl (lv_at hl 0 rfl) ?_
    refine gf_Z_12 hx hb hts hown hK hP (by decide) a_570 d_Z_know_30 ?_
    refine lv_iload_n hx hb d_Z_know_33 rfl (lv_at hl 1 rfl) ?_
    obtain ⟨h6, hF⟩ := as_u hF
    refine l_zi hx hb hK hP 11 27 ⟨by decide, by decide, by decide⟩ rfl h6 d_Z_know_34 ?_
    refine lv_if_le (tgt := 74) hx hb d_Z_know_35 (by decide) (fun h7 => ?_) (fun h7 => ?_)
    · have hF := it_t hF h7
      have hF := rt1 hF
      subst hF
      exact W.vret hx hb hr (fun t ht hW => ⟨⟨(), rfl, trivial, vp_at ht hP⟩, hS.F ht⟩) hS.2.2 d_Z_know_74
    · have hF := it_f hF h7
      refine lv_aload_n hx hb d_Z_know_38 rfl (lv_at hl 0 rfl) ?_
      refine gf_Z_14 hx hb hts hown hK hP (by decide) a_572 d_Z_know_39 ?_
      refine lv_iload_n hx hb d_Z_know_42 rfl (lv_at hl 1 rfl) ?_
      obtain ⟨h8, hF⟩ := as_u hF
      refine l_zi hx hb hK hP 13 27 ⟨by decide, by decide, by decide⟩ rfl h8 d_Z_know_43 ?_
      refine lv_iload_n hx hb d_Z_know_44 rfl (lv_at hl 2 rfl) ?_
      refine lv_icmp_ne (tgt := 74) hx hb d_Z_know_45 (by decide) (fun h9 => ?_) (fun h9 => ?_)
      · have hF := it_f hF h9
        have hF := rt1 hF
        subst hF
        exact W.vret hx hb hr (fun t ht hW => ⟨⟨(), rfl, trivial, vp_at ht hP⟩, hS.F ht⟩) hS.2.2 d_Z_know_74
      · have hF := it_t hF h9
        refine lv_aload_n hx hb d_Z_know_48 rfl (lv_at hl 0 rfl) ?_
        refine gf_Z_13 hx hb hts hown hK hP (by decide) a_571 d_Z_know_49 ?_
        refine lv_iload_n hx hb d_Z_know_52 rfl (lv_at hl 1 rfl) ?_
        obtain ⟨h10, hF⟩ := as_u hF
        refine l_zi hx hb hK hP 12 27 ⟨by decide, by decide, by decide⟩ rfl h10 d_Z_know_53 ?_
        refine lv_iload_n hx hb d_Z_know_54 rfl (lv_at hl 3 rfl) ?_
        refine lv_icmp_ne (tgt := 68) hx hb d_Z_know_55 (by decide) (fun h11 => ?_) (fun h11 => ?_)
        · have hF := it_f hF h11
          refine lv_aload_n hx hb d_Z_know_68 rfl (lv_at hl 0 rfl) ?_
          refine lv_iload_n hx hb d_Z_know_69 rfl (lv_at hl 1 rfl) ?_
          refine lv_iconst (v := 0) hx hb d_Z_know_70 (by decide) ?_
          obtain ⟨z14, h13, hF⟩ := bs_u hF
          refine k_vv (ad 14 0) [.int a1, .int 0] [] ⟨hx, hb, hml, hown, hts⟩ (c_Z_begin l D ad ca hD0 (z := z4) (u := u)  h13) (w_Z_begin hts a_734 ⟨Nat.le_of_ble_eq_true rfl, Nat.le_of_ble_eq_true rfl⟩) (rv_Z hK hP (by decide)) hP hK hS (fun _ h => h) rfl rfl hl.1 (Nat.le_of_ble_eq_true rfl) ⟨Nat.zero_le _, Nat.zero_le _⟩ d_Z_know_71 (fun H locs hP hS => ?_)
          have hF := rt1 hF
          subst hF
          exact W.vret hx hb hr (fun t ht hW => ⟨⟨(), rfl, trivial, vp_at ht hP⟩, hS.F ht⟩) hS.2.2 d_Z_know_74
        · have hF := it_t hF h11
          refine lv_aload_n hx hb d_Z_know_58 rfl (lv_at hl 0 rfl) ?_
          refine gf_Z_12 hx hb hts hown hK hP (by decide) a_570 d_Z_know_59 ?_
          refine lv_iload_n hx hb d_Z_know_62 rfl (lv_at hl 1 rfl) ?_
          refine lv_iconst (v := 0) hx hb d_Z_know_63 (by decide) ?_
          obtain ⟨h15, hF⟩ := as_u hF
          obtain ⟨z16, h17, hF⟩ := nm_u hF
          refine s_zi hx hb hK hP 11 27 hD hS ⟨by decide, by decide, by decide⟩ rfl h15 h17 d_Z_know_64 (fun H locs hP hS => ?_)
          refine lv_goto (tgt := 74) hx hb d_Z_know_65 (by decide) ?_
          have hF := rt1 hF
          subst hF
          exact W.vret hx hb hr (fun t ht hW => ⟨⟨(), rfl, trivial, vp_at ht hP⟩, hS.F ht⟩) hS.2.2 d_Z_know_74
  · have hF := it_f hF h2
    have hF := rt1 hF
    subst hF
    exact W.vret hx hb hr (fun t ht hW => ⟨⟨(), rfl, trivial, vp_at ht hP⟩, hS.F ht⟩) hS.2.2 d_Z_know_14
def ws_Z_getTaken : List Cond := Cond.code y_Z_getTaken b_Z_getTaken 4 none :: ALL
theorem w_Z_getTaken {R : Room} {s : State} {args : Array Value} {own : String} {index : Nat} (hts : ∀ w ∈ ALL, w.before args s = true) (hlk : Cond.methodLink own index y_Z_getTaken ∈ ALL) (hR : (({ frames := 6, cells := 0, slots := 0, locals := 148 } : Room)).frames + 1 ≤ R.frames ∧ 8 + (4 + 11) + (({ frames := 6, cells := 0, slots := 0, locals := 148 } : Room)).locals ≤ R.locals) : CallW R s args own R_Z index y_Z_getTaken b_Z_getTaken 4 none ws_Z_getTaken ({ frames := 6, cells := 0, slots := 0, locals := 148 } : Room) 0 0 3 := ⟨callB_of 3 hts (good_c a_783) rfl rfl rfl (hts _ a_8) (hts _ hlk) (by decide +kernel) hR, hts _ a_782, hts _ a_s22⟩
theorem d_Z_getTaken_0 : decode b_Z_getTaken 0 = .ok (.aload_n 0, 1) := by decide +kernel
theorem d_Z_getTaken_1 : decode b_Z_getTaken 1 = .ok (.getfield 41, 3) := by decide +kernel
theorem d_Z_getTaken_4 : decode b_Z_getTaken 4 = .ok (.iload_n 1, 1) := by decide +kernel
theorem d_Z_getTaken_5 : decode b_Z_getTaken 5 = .ok (.iaload, 1) := by decide +kernel
theorem d_Z_getTaken_6 : decode b_Z_getTaken 6 = .ok (.iconst 2, 1) := by decide +kernel
theorem d_Z_getTaken_7 : decode b_Z_getTaken 7 = .ok (.if_icmp .ne 13, 3) := by decide +kernel
theorem d_Z_getTaken_10 : decode b_Z_getTaken 10 = .ok (.aload_n 0, 1) := by decide +kernel
theorem d_Z_getTaken_11 : decode b_Z_getTaken 11 = .ok (.getfield 50, 3) := by decide +kernel
theorem d_Z_getTaken_14 : decode b_Z_getTaken 14 = .ok (.iload_n 1, 1) := by decide +kernel
theorem d_Z_getTaken_15 : decode b_Z_getTaken 15 = .ok (.iaload, 1) := by decide +kernel
theorem d_Z_getTaken_16 : decode b_Z_getTaken 16 = .ok (.iload_n 3, 1) := by decide +kernel
theorem d_Z_getTaken_17 : decode b_Z_getTaken 17 = .ok (.if_icmp .eq 4, 3) := by decide +kernel
theorem d_Z_getTaken_20 : decode b_Z_getTaken 20 = .ok (.return_, 1) := by decide +kernel
theorem d_Z_getTaken_21 : decode b_Z_getTaken 21 = .ok (.aload_n 0, 1) := by decide +kernel
theorem d_Z_getTaken_22 : decode b_Z_getTaken 22 = .ok (.getfield 56, 3) := by decide +kernel
theorem d_Z_getTaken_25 : decode b_Z_getTaken 25 = .ok (.iload_n 1, 1) := by decide +kernel
theorem d_Z_getTaken_26 : decode b_Z_getTaken 26 = .ok (.aload_n 0, 1) := by decide +kernel
theorem d_Z_getTaken_27 : decode b_Z_getTaken 27 = .ok (.getfield 56, 3) := by decide +kernel
theorem d_Z_getTaken_30 : decode b_Z_getTaken 30 = .ok (.iload_n 1, 1) := by decide +kernel
theorem d_Z_getTaken_31 : decode b_Z_getTaken 31 = .ok (.iaload, 1) := by decide +kernel
theorem d_Z_getTaken_32 : decode b_Z_getTaken 32 = .ok (.iconst 1, 1) := by decide +kernel
theorem d_Z_getTaken_33 : decode b_Z_getTaken 33 = .ok (.iload_n 2, 1) := by decide +kernel
theorem d_Z_getTaken_34 : decode b_Z_getTaken 34 = .ok (.ishl, 1) := by decide +kernel
theorem d_Z_getTaken_35 : decode b_Z_getTaken 35 = .ok (.ior, 1) := by decide +kernel
theorem d_Z_getTaken_36 : decode b_Z_getTaken 36 = .ok (.iastore, 1) := by decide +kernel
theorem d_Z_getTaken_37 : decode b_Z_getTaken 37 = .ok (.aload_n 0, 1) := by decide +kernel
theorem d_Z_getTaken_38 : decode b_Z_getTaken 38 = .ok (.getfield 56, 3) := by decide +kernel
theorem d_Z_getTaken_41 : decode b_Z_getTaken 41 = .ok (.iload_n 1, 1) := by decide +kernel
theorem d_Z_getTaken_42 : decode b_Z_getTaken 42 = .ok (.iaload, 1) := by decide +kernel
theorem d_Z_getTaken_43 : decode b_Z_getTaken 43 = .ok (.invokestatic 118, 3) := by decide +kernel
theorem d_Z_getTaken_46 : decode b_Z_getTaken 46 = .ok (.ifCond .eq 20, 3) := by decide +kernel
theorem d_Z_getTaken_49 : decode b_Z_getTaken 49 = .ok (.aload_n 0, 1) := by decide +kernel
theorem d_Z_getTaken_50 : decode b_Z_getTaken 50 = .ok (.iload_n 1, 1) := by decide +kernel
theorem d_Z_getTaken_51 : decode b_Z_getTaken 51 = .ok (.aload_n 0, 1) := by decide +kernel
theorem d_Z_getTaken_52 : decode b_Z_getTaken 52 = .ok (.getfield 47, 3) := by decide +kernel
theorem d_Z_getTaken_55 : decode b_Z_getTaken 55 = .ok (.iload_n 1, 1) := by decide +kernel
theorem d_Z_getTaken_56 : decode b_Z_getTaken 56 = .ok (.iaload, 1) := by decide +kernel
theorem d_Z_getTaken_57 : decode b_Z_getTaken 57 = .ok (.aload_n 0, 1) := by decide +kernel
theorem d_Z_getTaken_58 : decode b_Z_getTaken 58 = .ok (.getfield 62, 3) := by decide +kernel
theorem d_Z_getTaken_61 : decode b_Z_getTaken 61 = .ok (.iload_n 1, 1) := by decide +kernel
theorem d_Z_getTaken_62 : decode b_Z_getTaken 62 = .ok (.iaload, 1) := by decide +kernel
theorem d_Z_getTaken_63 : decode b_Z_getTaken 63 = .ok (.invokevirtual 166, 3) := by decide +kernel
theorem d_Z_getTaken_66 : decode b_Z_getTaken 66 = .ok (.return_, 1) := by decide +kernel
def F_Z_getTaken (z : ZW) (a1 : Int32) (a2 : Int32) (a3 : Int32) : Option (ZW) := (if 0 ≤ a1 ∧ (a1).toNatClampNeg < 27 then (if (z.1 11 (a1).toNatClampNeg) = 2 then (if 0 ≤ a1 ∧ (a1).toNatClampNeg < 27 then (if (z.1 14 (a1).toNatClampNeg) = a3 then (if 0 ≤ a1 ∧ (a1).toNatClampNeg < 27 then (if 0 ≤ a1 ∧ (a1).toNatClampNeg < 27 then (nm_ (pz z 16 (a1).toNatClampNeg ((z.1 16 (a1).toNatClampNeg) ||| (1 <<< (a2 &&& 31)))) fun z7 => (if 0 ≤ a1 ∧ (a1).toNatClampNeg < 27 then (bs_ (F_Z_isQuorum (z7.1 16 (a1).toNatClampNeg)) fun r10 => (if r10 = 0 then some z7 else (if 0 ≤ a1 ∧ (a1).toNatClampNeg < 27 then (if 0 ≤ a1 ∧ (a1).toNatClampNeg < 27 then (bs_ (F_Z_know z7 a1 (z7.1 13 (a1).toNatClampNeg) (z7.1 18 (a1).toNatClampNeg)) fun z17 => some z17) else none) else none))) else none)) else none) else none) else some z) else none) else some z) else none)
set_option maxHeartbeats 4000000 in
set_option maxRecDepth 100000 in
theorem c_Z_getTaken (l : Launch) (D : va_G) (ad : Nat → Nat → Nat) (ca : Nat → ClassId) (hD0 : ∀ z u, va_D (AH ad) (wh ad ca z u)) {z : ZW} {u : XC} {a1 : Int32} {a2 : Int32} {a3 : Int32} {z0 : ZW}  (hF : F_Z_getTaken z a1 a2 a3 = some z0) : Met l y_Z_getTaken ws_Z_getTaken ({ frames := 6, cells := 0, slots := 0, locals := 148 } : Room) (va_Pc [.ref (ad 14 0), .int a1, .int a2, .int a3] (fun U => va_P D CLS (wh ad ca z u) U.heap ∧ va_K D CLS (TYH ca) U)) (va_Qv (fun (_ : Unit) => True) (fun _ t => va_P D CLS (wh ad ca z0 u) t.heap) (AH ad)) 0 0 (AH ad) := by
  refine Met.ofW (cc := b_Z_getTaken) (maxL := 4) (ret := none) (by decide +kernel) rfl ?_
  intro p e s m args below meth c s₁ B hml hv
  obtain ⟨rfl, hP, hK⟩ := hv
  have hx := B.exec
  have hb := B.bytes
  have hr := B.returns
  have hts : ∀ w ∈ ALL, w.before _ s = true := fun w h => atoms_spec (ws := ws_Z_getTaken) B.pre w (List.mem_cons_of_mem _ h)
  have hown : s.vm.findClass R_Z = some m.cls := findClass_of_methodNamed B.named
  have hlocks := B.notSynchronized
  have hD := hD0
  have hS : va_S (AH ad) s.heap s.heap [] := va_S.rf
  have hP : va_P D CLS (wh ad ca z u) s.heap := hP
  have hl := lv_entry ([.ref (ad 14 0), .int a1, .int a2, .int a3]) (n := 4) (Nat.le_of_ble_eq_true rfl)
  rw [lg_entry_eq]
  generalize (lg_sl ([.ref (ad 14 0), .int a1, .int a2, .int a3]) ++ List.replicate (4 - (lg_sl ([.ref (ad 14 0), .int a1, .int a2, .int a3])).length) Slot.unset).toArray = ls at hl ⊢
  have hl : lv_has ls 4 [(0, .ref (ad 14 0)), (1, .int a1), (2, .int a2), (3, .int a3)] := hl
  unfold F_Z_getTaken at hF
  refine lv_aload_n hx hb d_Z_getTaken_0 rfl (lv_at hl 0 rfl) ?_
  refine gf_Z_12 hx hb hts hown hK hP (by decide) a_570 d_Z_getTaken_1 ?_
  refine lv_iload_n hx hb d_Z_getTaken_4 rfl (lv_at hl 1 rfl) ?_
  obtain ⟨h1, hF⟩ := as_u hF
  refine l_zi hx hb hK hP 11 27 ⟨by decide, by decide, by decide⟩ rfl h1 d_Z_getTaken_5 ?_
  refine lv_iconst (v := 2) hx hb d_Z_getTaken_6 (by decide) ?_
  refine lv_icmp_ne (tgt := 20) hx hb d_Z_getTaken_7 (by decide) (fun h2 => ?_) (fun h2 => ?_)
  · have hF := it_f hF h2
    have hF := rt1 hF
    subst hF
    exact W.vret hx hb hr (fun t ht hW => ⟨⟨(), rfl, trivial, vp_at ht hP⟩, hS.F ht⟩) hS.2.2 d_Z_getTaken_20
  · have hF := it_t hF h2
    refine lv_aload_n hx hb d_Z_getTaken_10 rfl (lv_at hl 0 rfl) ?_
    refine gf_Z_15 hx hb hts hown hK hP (by decide) a_573 d_Z_getTaken_11 ?_
    refine lv_iload_n hx hb d_Z_getTaken_14 rfl (lv_at hl 1 rfl) ?_
    obtain ⟨h3, hF⟩ := as_u hF
    refine l_zi hx hb hK hP 14 27 ⟨by decide, by decide, by decide⟩ rfl h3 d_Z_getTaken_15 ?_
    refine lv_iload_n hx hb d_Z_getTaken_16 rfl (lv_at hl 3 rfl) ?_
    refine lv_icmp_eq (tgt := 21) hx hb d_Z_getTaken_17 (by decide) (fun h4 => ?_) (fun h4 => ?_)
    · have hF := it_t hF h4
      refine lv_aload_n hx hb d_Z_getTaken_21 rfl (lv_at hl 0 rfl) ?_
      refine gf_Z_17 hx hb hts hown hK hP (by decide) a_575 d_Z_getTaken_22 ?_
      refine lv_iload_n hx hb d_Z_getTaken_25 rfl (lv_at hl 1 rfl) ?_
      refine lv_aload_n hx hb d_Z_getTaken_26 rfl (lv_at hl 0 rfl) ?_
      refine gf_Z_17 hx hb hts hown hK hP (by decide) a_575 d_Z_getTaken_27 ?_
      refine lv_iload_n hx hb d_Z_getTaken_30 rfl (lv_at hl 1 rfl) ?_
      obtain ⟨h5, hF⟩ := as_u hF
      refine l_zi hx hb hK hP 16 27 ⟨by decide, by decide, by decide⟩ rfl h5 d_Z_getTaken_31 ?_
      refine lv_iconst (v := 1) hx hb d_Z_getTaken_32 (by decide) ?_
      refine lv_iload_n hx hb d_Z_getTaken_33 rfl (lv_at hl 2 rfl) ?_
      refine lv_ishl hx hb d_Z_getTaken_34 ?_
      refine lv_ior hx hb d_Z_getTaken_35 ?_
      obtain ⟨h6, hF⟩ := as_u hF
      obtain ⟨z7, h8, hF⟩ := nm_u hF
      refine s_zi hx hb hK hP 16 27 hD hS ⟨by decide, by decide, by decide⟩ rfl h6 h8 d_Z_getTaken_36 (fun H locs hP hS => ?_)
      refine lv_aload_n hx hb d_Z_getTaken_37 rfl (lv_at hl 0 rfl) ?_
      refine gf_Z_17 hx hb hts hown hK hP (by decide) a_575 d_Z_getTaken_38 ?_
      refine lv_iload_n hx hb d_Z_getTaken_41 rfl (lv_at hl 1 rfl) ?_
      obtain ⟨h9, hF⟩ := as_u hF
      refine l_zi hx hb hK hP 16 27 ⟨by decide, by decide, by decide⟩ rfl h9 d_Z_getTaken_42 ?_
      obtain ⟨r10, h11, hF⟩ := bs_u hF
      refine k_sp [.int (z7.1 16 (a1).toNatClampNeg)] [] ⟨hx, hb, hml, hown, hts⟩ (c_Z_isQuorum l  h11) (w_Z_isQuorum hts a_665 ⟨Nat.le_of_ble_eq_true rfl, Nat.le_of_ble_eq_true rfl⟩) rfl rfl hl.1 (Nat.le_of_ble_eq_true rfl) ⟨Nat.zero_le _, Nat.zero_le _⟩ d_Z_getTaken_43 ?_
      refine lv_if_eq (tgt := 66) hx hb d_Z_getTaken_46 (by decide) (fun h12 => ?_) (fun h12 => ?_)
      · have hF := it_t hF h12
        have hF := rt1 hF
        subst hF
        exact W.vret hx hb hr (fun t ht hW => ⟨⟨(), rfl, trivial, vp_at ht hP⟩, hS.F ht⟩) hS.2.2 d_Z_getTaken_66
      · have hF := it_f hF h12
        refine lv_aload_n hx hb d_Z_getTaken_49 rfl (lv_at hl 0 rfl) ?_
        refine lv_iload_n hx hb d_Z_getTaken_50 rfl (lv_at hl 1 rfl) ?_
        refine lv_aload_n hx hb d_Z_getTaken_51 rfl (lv_at hl 0 rfl) ?_
        refine gf_Z_14 hx hb hts hown hK hP (by decide) a_572 d_Z_getTaken_52 ?_
        refine lv_iload_n hx hb d_Z_getTaken_55 rfl (lv_at hl 1 rfl) ?_
        obtain ⟨h13, hF⟩ := as_u hF
        refine l_zi hx hb hK hP 13 27 ⟨by decide, by decide, by decide⟩ rfl h13 d_Z_getTaken_56 ?_
        refine lv_aload_n hx hb d_Z_getTaken_57 rfl (lv_at hl 0 rfl) ?_
        refine gf_Z_19 hx hb hts hown hK hP (by decide) a_577 d_Z_getTaken_58 ?_
        refine lv_iload_n hx hb d_Z_getTaken_61 rfl (lv_at hl 1 rfl) ?_
        obtain ⟨h14, hF⟩ := as_u hF
        refine l_zi hx hb hK hP 18 27 ⟨by decide, by decide, by decide⟩ rfl h14 d_Z_getTaken_62 ?_
        obtain ⟨z17, h16, hF⟩ := bs_u hF
        refine k_vv (ad 14 0) [.int a1, .int (z7.1 13 (a1).toNatClampNeg), .int (z7.1 18 (a1).toNatClampNeg)] [] ⟨hx, hb, hml, hown, hts⟩ (c_Z_know l D ad ca hD0 (z := z7) (u := u)  h16) (w_Z_know hts a_784 ⟨Nat.le_of_ble_eq_true rfl, Nat.le_of_ble_eq_true rfl⟩) (rv_Z hK hP (by decide)) hP hK hS (fun _ h => h) rfl rfl hl.1 (Nat.le_of_ble_eq_true rfl) ⟨Nat.zero_le _, Nat.zero_le _⟩ d_Z_getTaken_63 (fun H locs hP hS => ?_)
        have hF := rt1 hF
        subst hF
        exact W.vret hx hb hr (fun t ht hW => ⟨⟨(), rfl, trivial, vp_at ht hP⟩, hS.F ht⟩) hS.2.2 d_Z_getTaken_66
    · have hF := it_f hF h4
      have hF := rt1 hF
      subst hF
      exact W.vret hx hb hr (fun t ht hW => ⟨⟨(), rfl, trivial, vp_at ht hP⟩, hS.F ht⟩) hS.2.2 d_Z_getTaken_20
def ws_Z_deliver : List Cond := Cond.code y_Z_deliver b_Z_deliver 7 (some .int) :: ALL
theorem w_Z_deliver {R : Room} {s : State} {args : Array Value} {own : String} {index : Nat} (hts : ∀ w ∈ ALL, w.before args s = true) (hlk : Cond.methodLink own index y_Z_deliver ∈ ALL) (hR : (({ frames := 7, cells := 0, slots := 0, locals := 171 } : Room)).frames + 1 ≤ R.frames ∧ 8 + (7 + 11) + (({ frames := 7, cells := 0, slots := 0, locals := 171 } : Room)).locals ≤ R.locals) : CallW R s args own R_Z index y_Z_deliver b_Z_deliver 7 (some .int) ws_Z_deliver ({ frames := 7, cells := 0, slots := 0, locals := 171 } : Room) 0 0 1 := ⟨callB_of 1 hts (good_c a_767) rfl rfl rfl (hts _ a_8) (hts _ hlk) (by decide +kernel) hR, hts _ a_765, hts _ a_766⟩
theorem d_Z_deliver_0 : decode b_Z_deliver 0 = .ok (.aload_n 0, 1) := by decide +kernel
theorem d_Z_deliver_1 : decode b_Z_deliver 1 = .ok (.aload_n 0, 1) := by decide +kernel
theorem d_Z_deliver_2 : decode b_Z_deliver 2 = .ok (.iload_n 1, 1) := by decide +kernel
theorem d_Z_deliver_3 : decode b_Z_deliver 3 = .ok (.invokevirtual 142, 3) := by decide +kernel
theorem d_Z_deliver_6 : decode b_Z_deliver 6 = .ok (.ifCond .eq 7, 3) := by decide +kernel
theorem d_Z_deliver_9 : decode b_Z_deliver 9 = .ok (.iconst 0, 1) := by decide +kernel
theorem d_Z_deliver_10 : decode b_Z_deliver 10 = .ok (.goto 4, 3) := by decide +kernel
theorem d_Z_deliver_13 : decode b_Z_deliver 13 = .ok (.iconst 1, 1) := by decide +kernel
theorem d_Z_deliver_14 : decode b_Z_deliver 14 = .ok (.putfield 95, 3) := by decide +kernel
theorem d_Z_deliver_17 : decode b_Z_deliver 17 = .ok (.aload_n 0, 1) := by decide +kernel
theorem d_Z_deliver_18 : decode b_Z_deliver 18 = .ok (.getfield 95, 3) := by decide +kernel
theorem d_Z_deliver_21 : decode b_Z_deliver 21 = .ok (.ifCond .le 5, 3) := by decide +kernel
theorem d_Z_deliver_24 : decode b_Z_deliver 24 = .ok (.iconst 0, 1) := by decide +kernel
theorem d_Z_deliver_25 : decode b_Z_deliver 25 = .ok (.ireturn, 1) := by decide +kernel
theorem d_Z_deliver_26 : decode b_Z_deliver 26 = .ok (.aload_n 0, 1) := by decide +kernel
theorem d_Z_deliver_27 : decode b_Z_deliver 27 = .ok (.iload_n 1, 1) := by decide +kernel
theorem d_Z_deliver_28 : decode b_Z_deliver 28 = .ok (.sipush 150, 3) := by decide +kernel
theorem d_Z_deliver_31 : decode b_Z_deliver 31 = .ok (.invokevirtual 138, 3) := by decide +kernel
theorem d_Z_deliver_34 : decode b_Z_deliver 34 = .ok (.aload_n 0, 1) := by decide +kernel
theorem d_Z_deliver_35 : decode b_Z_deliver 35 = .ok (.iload_n 1, 1) := by decide +kernel
theorem d_Z_deliver_36 : decode b_Z_deliver 36 = .ok (.invokevirtual 145, 3) := by decide +kernel
theorem d_Z_deliver_39 : decode b_Z_deliver 39 = .ok (.aload_n 0, 1) := by decide +kernel
theorem d_Z_deliver_40 : decode b_Z_deliver 40 = .ok (.iconst 0, 1) := by decide +kernel
theorem d_Z_deliver_41 : decode b_Z_deliver 41 = .ok (.putfield 128, 3) := by decide +kernel
theorem d_Z_deliver_44 : decode b_Z_deliver 44 = .ok (.aload_n 0, 1) := by decide +kernel
theorem d_Z_deliver_45 : decode b_Z_deliver 45 = .ok (.getfield 71, 3) := by decide +kernel
theorem d_Z_deliver_48 : decode b_Z_deliver 48 = .ok (.sipush 150, 3) := by decide +kernel
theorem d_Z_deliver_51 : decode b_Z_deliver 51 = .ok (.iaload, 1) := by decide +kernel
theorem d_Z_deliver_52 : decode b_Z_deliver 52 = .ok (.istore_n 2, 1) := by decide +kernel
theorem d_Z_deliver_53 : decode b_Z_deliver 53 = .ok (.aload_n 0, 1) := by decide +kernel
theorem d_Z_deliver_54 : decode b_Z_deliver 54 = .ok (.getfield 77, 3) := by decide +kernel
theorem d_Z_deliver_57 : decode b_Z_deliver 57 = .ok (.sipush 150, 3) := by decide +kernel
theorem d_Z_deliver_60 : decode b_Z_deliver 60 = .ok (.iaload, 1) := by decide +kernel
theorem d_Z_deliver_61 : decode b_Z_deliver 61 = .ok (.istore_n 3, 1) := by decide +kernel
theorem d_Z_deliver_62 : decode b_Z_deliver 62 = .ok (.aload_n 0, 1) := by decide +kernel
theorem d_Z_deliver_63 : decode b_Z_deliver 63 = .ok (.getfield 74, 3) := by decide +kernel
theorem d_Z_deliver_66 : decode b_Z_deliver 66 = .ok (.sipush 150, 3) := by decide +kernel
theorem d_Z_deliver_69 : decode b_Z_deliver 69 = .ok (.iaload, 1) := by decide +kernel
theorem d_Z_deliver_70 : decode b_Z_deliver 70 = .ok (.istore 4, 2) := by decide +kernel
theorem d_Z_deliver_72 : decode b_Z_deliver 72 = .ok (.aload_n 0, 1) := by decide +kernel
theorem d_Z_deliver_73 : decode b_Z_deliver 73 = .ok (.getfield 80, 3) := by decide +kernel
theorem d_Z_deliver_76 : decode b_Z_deliver 76 = .ok (.sipush 150, 3) := by decide +kernel
theorem d_Z_deliver_79 : decode b_Z_deliver 79 = .ok (.iaload, 1) := by decide +kernel
theorem d_Z_deliver_80 : decode b_Z_deliver 80 = .ok (.istore 5, 2) := by decide +kernel
theorem d_Z_deliver_82 : decode b_Z_deliver 82 = .ok (.aload_n 0, 1) := by decide +kernel
theorem d_Z_deliver_83 : decode b_Z_deliver 83 = .ok (.getfield 83, 3) := by decide +kernel
theorem d_Z_deliver_86 : decode b_Z_deliver 86 = .ok (.sipush 150, 3) := by decide +kernel
theorem d_Z_deliver_89 : decode b_Z_deliver 89 = .ok (.iaload, 1) := by decide +kernel
theorem d_Z_deliver_90 : decode b_Z_deliver 90 = .ok (.istore 6, 2) := by decide +kernel
theorem d_Z_deliver_92 : decode b_Z_deliver 92 = .ok (.aload_n 0, 1) := by decide +kernel
theorem d_Z_deliver_93 : decode b_Z_deliver 93 = .ok (.getfield 22, 3) := by decide +kernel
theorem d_Z_deliver_96 : decode b_Z_deliver 96 = .ok (.iload_n 3, 1) := by decide +kernel
theorem d_Z_deliver_97 : decode b_Z_deliver 97 = .ok (.baload, 1) := by decide +kernel
theorem d_Z_deliver_98 : decode b_Z_deliver 98 = .ok (.ifCond .eq 5, 3) := by decide +kernel
theorem d_Z_deliver_101 : decode b_Z_deliver 101 = .ok (.iconst 0, 1) := by decide +kernel
theorem d_Z_deliver_102 : decode b_Z_deliver 102 = .ok (.ireturn, 1) := by decide +kernel
theorem d_Z_deliver_103 : decode b_Z_deliver 103 = .ok (.iload_n 2, 1) := by decide +kernel
theorem d_Z_deliver_104 : decode b_Z_deliver 104 = .ok (.ifCond .ne 17, 3) := by decide +kernel
theorem d_Z_deliver_107 : decode b_Z_deliver 107 = .ok (.aload_n 0, 1) := by decide +kernel
theorem d_Z_deliver_108 : decode b_Z_deliver 108 = .ok (.iload_n 3, 1) := by decide +kernel
theorem d_Z_deliver_109 : decode b_Z_deliver 109 = .ok (.iload 4, 2) := by decide +kernel
theorem d_Z_deliver_111 : decode b_Z_deliver 111 = .ok (.iload 5, 2) := by decide +kernel
theorem d_Z_deliver_113 : decode b_Z_deliver 113 = .ok (.iload 6, 2) := by decide +kernel
theorem d_Z_deliver_115 : decode b_Z_deliver 115 = .ok (.invokevirtual 170, 3) := by decide +kernel
theorem d_Z_deliver_118 : decode b_Z_deliver 118 = .ok (.goto 136, 3) := by decide +kernel
theorem d_Z_deliver_121 : decode b_Z_deliver 121 = .ok (.iload_n 2, 1) := by decide +kernel
theorem d_Z_deliver_122 : decode b_Z_deliver 122 = .ok (.iconst 1, 1) := by decide +kernel
theorem d_Z_deliver_123 : decode b_Z_deliver 123 = .ok (.if_icmp .ne 31, 3) := by decide +kernel
theorem d_Z_deliver_126 : decode b_Z_deliver 126 = .ok (.aload_n 0, 1) := by decide +kernel
theorem d_Z_deliver_127 : decode b_Z_deliver 127 = .ok (.iload_n 3, 1) := by decide +kernel
theorem d_Z_deliver_128 : decode b_Z_deliver 128 = .ok (.iload 4, 2) := by decide +kernel
theorem d_Z_deliver_130 : decode b_Z_deliver 130 = .ok (.iload 5, 2) := by decide +kernel
theorem d_Z_deliver_132 : decode b_Z_deliver 132 = .ok (.aload_n 0, 1) := by decide +kernel
theorem d_Z_deliver_133 : decode b_Z_deliver 133 = .ok (.getfield 89, 3) := by decide +kernel
theorem d_Z_deliver_136 : decode b_Z_deliver 136 = .ok (.sipush 150, 3) := by decide +kernel
theorem d_Z_deliver_139 : decode b_Z_deliver 139 = .ok (.iaload, 1) := by decide +kernel
theorem d_Z_deliver_140 : decode b_Z_deliver 140 = .ok (.aload_n 0, 1) := by decide +kernel
theorem d_Z_deliver_141 : decode b_Z_deliver 141 = .ok (.getfield 92, 3) := by decide +kernel
theorem d_Z_deliver_144 : decode b_Z_deliver 144 = .ok (.sipush 150, 3) := by decide +kernel
theorem d_Z_deliver_147 : decode b_Z_deliver 147 = .ok (.iaload, 1) := by decide +kernel
theorem d_Z_deliver_148 : decode b_Z_deliver 148 = .ok (.invokevirtual 174, 3) := by decide +kernel
theorem d_Z_deliver_151 : decode b_Z_deliver 151 = .ok (.goto 103, 3) := by decide +kernel
theorem d_Z_deliver_154 : decode b_Z_deliver 154 = .ok (.iload_n 2, 1) := by decide +kernel
theorem d_Z_deliver_155 : decode b_Z_deliver 155 = .ok (.iconst 2, 1) := by decide +kernel
theorem d_Z_deliver_156 : decode b_Z_deliver 156 = .ok (.if_icmp .ne 39, 3) := by decide +kernel
theorem d_Z_deliver_159 : decode b_Z_deliver 159 = .ok (.aload_n 0, 1) := by decide +kernel
theorem d_Z_deliver_160 : decode b_Z_deliver 160 = .ok (.getfield 41, 3) := by decide +kernel
theorem d_Z_deliver_163 : decode b_Z_deliver 163 = .ok (.iload_n 3, 1) := by decide +kernel
theorem d_Z_deliver_164 : decode b_Z_deliver 164 = .ok (.iaload, 1) := by decide +kernel
theorem d_Z_deliver_165 : decode b_Z_deliver 165 = .ok (.ifCond .le 89, 3) := by decide +kernel
theorem d_Z_deliver_168 : decode b_Z_deliver 168 = .ok (.aload_n 0, 1) := by decide +kernel
theorem d_Z_deliver_169 : decode b_Z_deliver 169 = .ok (.getfield 50, 3) := by decide +kernel
theorem d_Z_deliver_172 : decode b_Z_deliver 172 = .ok (.iload_n 3, 1) := by decide +kernel
theorem d_Z_deliver_173 : decode b_Z_deliver 173 = .ok (.iaload, 1) := by decide +kernel
theorem d_Z_deliver_174 : decode b_Z_deliver 174 = .ok (.iload 5, 2) := by decide +kernel
theorem d_Z_deliver_176 : decode b_Z_deliver 176 = .ok (.if_icmp .ne 78, 3) := by decide +kernel
theorem d_Z_deliver_179 : decode b_Z_deliver 179 = .ok (.aload_n 0, 1) := by decide +kernel
theorem d_Z_deliver_180 : decode b_Z_deliver 180 = .ok (.iload_n 3, 1) := by decide +kernel
theorem d_Z_deliver_181 : decode b_Z_deliver 181 = .ok (.aload_n 0, 1) := by decide +kernel
theorem d_Z_deliver_182 : decode b_Z_deliver 182 = .ok (.getfield 86, 3) := by decide +kernel
theorem d_Z_deliver_185 : decode b_Z_deliver 185 = .ok (.sipush 150, 3) := by decide +kernel
theorem d_Z_deliver_188 : decode b_Z_deliver 188 = .ok (.iaload, 1) := by decide +kernel
theorem d_Z_deliver_189 : decode b_Z_deliver 189 = .ok (.invokevirtual 159, 3) := by decide +kernel
theorem d_Z_deliver_192 : decode b_Z_deliver 192 = .ok (.goto 62, 3) := by decide +kernel
theorem d_Z_deliver_195 : decode b_Z_deliver 195 = .ok (.iload_n 2, 1) := by decide +kernel
theorem d_Z_deliver_196 : decode b_Z_deliver 196 = .ok (.iconst 3, 1) := by decide +kernel
theorem d_Z_deliver_197 : decode b_Z_deliver 197 = .ok (.if_icmp .ne 25, 3) := by decide +kernel
theorem d_Z_deliver_200 : decode b_Z_deliver 200 = .ok (.aload_n 0, 1) := by decide +kernel
theorem d_Z_deliver_201 : decode b_Z_deliver 201 = .ok (.iload_n 3, 1) := by decide +kernel
theorem d_Z_deliver_202 : decode b_Z_deliver 202 = .ok (.iload 4, 2) := by decide +kernel
theorem d_Z_deliver_204 : decode b_Z_deliver 204 = .ok (.iload 5, 2) := by decide +kernel
theorem d_Z_deliver_206 : decode b_Z_deliver 206 = .ok (.iload 6, 2) := by decide +kernel
theorem d_Z_deliver_208 : decode b_Z_deliver 208 = .ok (.aload_n 0, 1) := by decide +kernel
theorem d_Z_deliver_209 : decode b_Z_deliver 209 = .ok (.getfield 86, 3) := by decide +kernel
theorem d_Z_deliver_212 : decode b_Z_deliver 212 = .ok (.sipush 150, 3) := by decide +kernel
theorem d_Z_deliver_215 : decode b_Z_deliver 215 = .ok (.iaload, 1) := by decide +kernel
theorem d_Z_deliver_216 : decode b_Z_deliver 216 = .ok (.invokevirtual 178, 3) := by decide +kernel
theorem d_Z_deliver_219 : decode b_Z_deliver 219 = .ok (.goto 35, 3) := by decide +kernel
theorem d_Z_deliver_222 : decode b_Z_deliver 222 = .ok (.iload_n 2, 1) := by decide +kernel
theorem d_Z_deliver_223 : decode b_Z_deliver 223 = .ok (.iconst 4, 1) := by decide +kernel
theorem d_Z_deliver_224 : decode b_Z_deliver 224 = .ok (.if_icmp .ne 15, 3) := by decide +kernel
theorem d_Z_deliver_227 : decode b_Z_deliver 227 = .ok (.aload_n 0, 1) := by decide +kernel
theorem d_Z_deliver_228 : decode b_Z_deliver 228 = .ok (.iload_n 3, 1) := by decide +kernel
theorem d_Z_deliver_229 : decode b_Z_deliver 229 = .ok (.iload 4, 2) := by decide +kernel
theorem d_Z_deliver_231 : decode b_Z_deliver 231 = .ok (.iload 5, 2) := by decide +kernel
theorem d_Z_deliver_233 : decode b_Z_deliver 233 = .ok (.invokevirtual 181, 3) := by decide +kernel
theorem d_Z_deliver_236 : decode b_Z_deliver 236 = .ok (.goto 18, 3) := by decide +kernel
theorem d_Z_deliver_239 : decode b_Z_deliver 239 = .ok (.aload_n 0, 1) := by decide +kernel
theorem d_Z_deliver_240 : decode b_Z_deliver 240 = .ok (.iload_n 3, 1) := by decide +kernel
theorem d_Z_deliver_241 : decode b_Z_deliver 241 = .ok (.iload 6, 2) := by decide +kernel
theorem d_Z_deliver_243 : decode b_Z_deliver 243 = .ok (.aload_n 0, 1) := by decide +kernel
theorem d_Z_deliver_244 : decode b_Z_deliver 244 = .ok (.getfield 86, 3) := by decide +kernel
theorem d_Z_deliver_247 : decode b_Z_deliver 247 = .ok (.sipush 150, 3) := by decide +kernel
theorem d_Z_deliver_250 : decode b_Z_deliver 250 = .ok (.iaload, 1) := by decide +kernel
theorem d_Z_deliver_251 : decode b_Z_deliver 251 = .ok (.invokevirtual 166, 3) := by decide +kernel
theorem d_Z_deliver_254 : decode b_Z_deliver 254 = .ok (.aload_n 0, 1) := by decide +kernel
theorem d_Z_deliver_255 : decode b_Z_deliver 255 = .ok (.getfield 128, 3) := by decide +kernel
theorem d_Z_deliver_258 : decode b_Z_deliver 258 = .ok (.ireturn, 1) := by decide +kernel
def Fj_Z_deliver_14  (z : ZW) (x1 : Int32) (w0 : Int32) : Option (Int32 × ZW) := (nm_ (pz z 0 0 w0) fun z4 => (if (z4.1 0 0) ≤ 0 then (bs_ (F_Z_copyLetter z4 x1 150) fun z9 => (bs_ (F_Z_takeOut z9 x1) fun z12 => (nm_ (pz z12 0 31 0) fun z13 => (if 0 ≤ (150 : Int32) ∧ ((150 : Int32)).toNatClampNeg < 151 then (if 0 ≤ (150 : Int32) ∧ ((150 : Int32)).toNatClampNeg < 151 then (if 0 ≤ (150 : Int32) ∧ ((150 : Int32)).toNatClampNeg < 151 then (if 0 ≤ (150 : Int32) ∧ ((150 : Int32)).toNatClampNeg < 151 then (if 0 ≤ (150 : Int32) ∧ ((150 : Int32)).toNatClampNeg < 151 then (if 0 ≤ (z13.1 23 ((150 : Int32)).toNatClampNeg) ∧ ((z13.1 23 ((150 : Int32)).toNatClampNeg)).toNatClampNeg < 27 then (if (z13.1 5 ((z13.1 23 ((150 : Int32)).toNatClampNeg)).toNatClampNeg) = 0 then (if (z13.1 21 ((150 : Int32)).toNatClampNeg) = 0 then (bs_ (F_Z_getAsk z13 (z13.1 23 ((150 : Int32)).toNatClampNeg) (z13.1 22 ((150 : Int32)).toNatClampNeg) (z13.1 24 ((150 : Int32)).toNatClampNeg) (z13.1 25 ((150 : Int32)).toNatClampNeg)) fun z53 => some ((z53.1 0 31), z53)) else (if (z13.1 21 ((150 : Int32)).toNatClampNeg) = 1 then (if 0 ≤ (150 : Int32) ∧ ((150 : Int32)).toNatClampNeg < 151 then (if 0 ≤ (150 : Int32) ∧ ((150 : Int32)).toNatClampNeg < 151 then (bs_ (F_Z_getGive z13 (z13.1 23 ((150 : Int32)).toNatClampNeg) (z13.1 22 ((150 : Int32)).toNatClampNeg) (z13.1 24 ((150 : Int32)).toNatClampNeg) (z13.1 27 ((150 : Int32)).toNatClampNeg) (z13.1 28 ((150 : Int32)).toNatClampNeg)) fun z50 => some ((z50.1 0 31), z50)) else none) else none) else (if (z13.1 21 ((150 : Int32)).toNatClampNeg) = 2 then (if 0 ≤ (z13.1 23 ((150 : Int32)).toNatClampNeg) ∧ ((z13.1 23 ((150 : Int32)).toNatClampNeg)).toNatClampNeg < 27 then (if (z13.1 11 ((z13.1 23 ((150 : Int32)).toNatClampNeg)).toNatClampNeg) ≤ 0 then some ((z13.1 0 31), z13) else (if 0 ≤ (z13.1 23 ((150 : Int32)).toNatClampNeg) ∧ ((z13.1 23 ((150 : Int32)).toNatClampNeg)).toNatClampNeg < 27 then (if (z13.1 14 ((z13.1 23 ((150 : Int32)).toNatClampNeg)).toNatClampNeg) = (z13.1 24 ((150 : Int32)).toNatClampNeg) then (if 0 ≤ (150 : Int32) ∧ ((150 : Int32)).toNatClampNeg < 151 then (bs_ (F_Z_begin z13 (z13.1 23 ((150 : Int32)).toNatClampNeg) (z13.1 26 ((150 : Int32)).toNatClampNeg)) fun z45 => some ((z45.1 0 31), z45)) else none) else some ((z13.1 0 31), z13)) else none)) else none) else (if (z13.1 21 ((150 : Int32)).toNatClampNeg) = 3 then (if 0 ≤ (150 : Int32) ∧ ((150 : Int32)).toNatClampNeg < 151 then (bs_ (F_Z_getSettle z13 (z13.1 23 ((150 : Int32)).toNatClampNeg) (z13.1 22 ((150 : Int32)).toNatClampNeg) (z13.1 24 ((150 : Int32)).toNatClampNeg) (z13.1 25 ((150 : Int32)).toNatClampNeg) (z13.1 26 ((150 : Int32)).toNatClampNeg)) fun z37 => some ((z37.1 0 31), z37)) else none) else (if (z13.1 21 ((150 : Int32)).toNatClampNeg) = 4 then (bs_ (F_Z_getTaken z13 (z13.1 23 ((150 : Int32)).toNatClampNeg) (z13.1 22 ((150 : Int32)).toNatClampNeg) (z13.1 24 ((150 : Int32)).toNatClampNeg)) fun z33 => some ((z33.1 0 31), z33)) else (if 0 ≤ (150 : Int32) ∧ ((150 : Int32)).toNatClampNeg < 151 then (bs_ (F_Z_know z13 (z13.1 23 ((150 : Int32)).toNatClampNeg) (z13.1 25 ((150 : Int32)).toNatClampNeg) (z13.1 26 ((150 : Int32)).toNatClampNeg)) fun z30 => some ((z30.1 0 31), z30)) else none)))))) else some (0, z13)) else none) else none) else none) else none) else none) else none)))) else some (0, z4)))
def F_Z_deliver (z : ZW) (a1 : Int32) : Option (Int32 × ZW) := (bs_ (F_Z_isLetter z a1) fun r1 => (if r1 = 0 then Fj_Z_deliver_14  z a1 1 else Fj_Z_deliver_14  z a1 0))
set_option maxHeartbeats 4000000 in
set_option maxRecDepth 100000 in
theorem jn_Z_deliver_14 {p : Program} {l : Launch} {e : Env} {s : State} {m : MethodId} {args : Array Value} {below : List Frame} {meth : Method} {c : Code} {D : va_G} {ad : Nat → Nat → Nat} {ca : Nat → ClassId} {u : XC} (hx : p.tables.exec = Jvm.exec) (hb : c.code = b_Z_deliver) (hr : meth.sig.returnType = (some .int)) (hts : ∀ w ∈ ALL, w.before args s = true) (hown : s.vm.findClass R_Z = some m.cls) (hlocks : meth.locks = false) (hml : c.maxLocals = 7) (hK : va_K D CLS (TYH ca) s) (hD0 : ∀ z u, va_D (AH ad) (wh ad ca z u)) (hD : ∀ z u, va_D (AH ad) (wh ad ca z u))  : ∀ (z : ZW) (x1 : Int32) (w0 : Int32)  (r0 : Int32) (z0 : ZW), Fj_Z_deliver_14  z x1 w0 = some (r0, z0) → ∀ (H : Heap) (locs : List Loc) (ls : Array Slot), va_P D CLS (wh ad ca z u) H → va_S (AH ad) s.heap H locs → lv_has ls 7 [(0, .ref (ad 14 0)), (1, .int x1)] → W p l e ({ frames := 7, cells := 0, slots := 0, locals := 171 } : Room) s m args below meth c H locs 0 0 (MQ below (va_Qi (fun (r : Int32) (_ : Unit) => r = r0) (fun _ t => va_P D CLS (wh ad ca z0 u) t.heap) (AH ad)) args s 0 0 (AH ad)) (F0 m 14 ls [.int w0, .ref (ad 14 0)]) := by
  intro z x1 w0 r0 z0 hF H locs ls hP hS hl
  unfold Fj_Z_deliver_14 at hF
  obtain ⟨z4, h5, hF⟩ := nm_u hF
  refine pf_Z_0 hx hb hts hown hK hP hD hS (by decide) h5 a_558 d_Z_deliver_14 (fun H locs hP hS => ?_)
  refine lv_aload_n hx hb d_Z_deliver_17 rfl (lv_at hl 0 rfl) ?_
  refine gf_Z_0 hx hb hts hown hK hP (by decide) a_558 d_Z_deliver_18 ?_
  refine lv_if_le (tgt := 26) hx hb d_Z_deliver_21 (by decide) (fun h6 => ?_) (fun h6 => ?_)
  · have hF := it_t hF h6
    refine lv_aload_n hx hb d_Z_deliver_26 rfl (lv_at hl 0 rfl) ?_
    refine lv_iload_n hx hb d_Z_deliver_27 rfl (lv_at hl 1 rfl) ?_
    refine lv_sipush (v := 150) hx hb d_Z_deliver_28 (by decide) ?_
    obtain ⟨z9, h8, hF⟩ := bs_u hF
    refine k_vv (ad 14 0) [.int x1, .int 150] [] ⟨hx, hb, hml, hown, hts⟩ (c_Z_copyLetter l D ad ca hD0 (z := z4) (u := u)  h8) (w_Z_copyLetter hts a_718 ⟨Nat.le_of_ble_eq_true rfl, Nat.le_of_ble_eq_true rfl⟩) (rv_Z hK hP (by decide)) hP hK hS (fun _ h => h) rfl rfl hl.1 (Nat.le_of_ble_eq_true rfl) ⟨Nat.zero_le _, Nat.zero_le _⟩ d_Z_deliver_31 (fun H locs hP hS => ?_)
    refine lv_aload_n hx hb d_Z_deliver_34 rfl (lv_at hl 0 rfl) ?_
    refine lv_iload_n hx hb d_Z_deliver_35 rfl (lv_at hl 1 rfl) ?_
    obtain ⟨z12, h11, hF⟩ := bs_u hF
    refine k_vv (ad 14 0) [.int x1] [] ⟨hx, hb, hml, hown, hts⟩ (c_Z_takeOut l D ad ca hD0 (z := z9) (u := u)  h11) (w_Z_takeOut hts a_714 ⟨Nat.le_of_ble_eq_true rfl, Nat.le_of_ble_eq_true rfl⟩) (rv_Z hK hP (by decide)) hP hK hS (fun _ h => h) rfl rfl hl.1 (Nat.le_of_ble_eq_true rfl) ⟨Nat.zero_le _, Nat.zero_le _⟩ d_Z_deliver_36 (fun H locs hP hS => ?_)
    refine lv_aload_n hx hb d_Z_deliver_39 rfl (lv_at hl 0 rfl) ?_
    refine lv_iconst (v := 0) hx hb d_Z_deliver_40 (by decide) ?_
    obtain ⟨z13, h14, hF⟩ := nm_u hF
    refine pf_Z_31 hx hb hts hown hK hP hD hS (by decide) h14 a_589 d_Z_deliver_41 (fun H locs hP hS => ?_)
    refine lv_aload_n hx hb d_Z_deliver_44 rfl (lv_at hl 0 rfl) ?_
    refine gf_Z_23 hx hb hts hown hK hP (by decide) a_581 d_Z_deliver_45 ?_
    refine lv_sipush (v := 150) hx hb d_Z_deliver_48 (by decide) ?_
    obtain ⟨h15, hF⟩ := as_u hF
    refine l_zi hx hb hK hP 21 151 ⟨by decide, by decide, by decide⟩ rfl h15 d_Z_deliver_51 ?_
    refine lv_istore_n (lv' := [(2, .int (z13.1 21 ((150 : Int32)).toNatClampNeg)), (0, .ref (ad 14 0)), (1, .int x1)]) hx hb d_Z_deliver_52 rfl hl (by decide) rfl (fun ls hl => ?_)
    refine lv_aload_n hx hb d_Z_deliver_53 rfl (lv_at hl 1 rfl) ?_
    refine gf_Z_25 hx hb hts hown hK hP (by decide) a_583 d_Z_deliver_54 ?_
    refine lv_sipush (v := 150) hx hb d_Z_deliver_57 (by decide) ?_
    obtain ⟨h16, hF⟩ := as_u hF
    refine l_zi hx hb hK hP 23 151 ⟨by decide, by decide, by decide⟩ rfl h16 d_Z_deliver_60 ?_
    refine lv_istore_n (lv' := [(3, .int (z13.1 23 ((150 : Int32)).toNatClampNeg)), (2, .int (z13.1 21 ((150 : Int32)).toNatClampNeg)), (0, .ref (ad 14 0)), (1, .int x1)]) hx hb d_Z_deliver_61 rfl hl (by decide) rfl (fun ls hl => ?_)
    refine lv_aload_n hx hb d_Z_deliver_62 rfl (lv_at hl 2 rfl) ?_
    refine gf_Z_24 hx hb hts hown hK hP (by decide) a_582 d_Z_deliver_63 ?_
    refine lv_sipush (v := 150) hx hb d_Z_deliver_66 (by decide) ?_
    obtain ⟨h17, hF⟩ := as_u hF
    refine l_zi hx hb hK hP 22 151 ⟨by decide, by decide, by decide⟩ rfl h17 d_Z_deliver_69 ?_
    refine lv_istore (lv' := [(4, .int (z13.1 22 ((150 : Int32)).toNatClampNeg)), (3, .int (z13.1 23 ((150 : Int32)).toNatClampNeg)), (2, .int (z13.1 21 ((150 : Int32)).toNatClampNeg)), (0, .ref (ad 14 0)), (1, .int x1)]) hx hb d_Z_deliver_70 hl (by decide) rfl (fun ls hl => ?_)
    refine lv_aload_n hx hb d_Z_deliver_72 rfl (lv_at hl 3 rfl) ?_
    refine gf_Z_26 hx hb hts hown hK hP (by decide) a_584 d_Z_deliver_73 ?_
    refine lv_sipush (v := 150) hx hb d_Z_deliver_76 (by decide) ?_
    obtain ⟨h18, hF⟩ := as_u hF
    refine l_zi hx hb hK hP 24 151 ⟨by decide, by decide, by decide⟩ rfl h18 d_Z_deliver_79 ?_
    refine lv_istore (lv' := [(5, .int (z13.1 24 ((150 : Int32)).toNatClampNeg)), (4, .int (z13.1 22 ((150 : Int32)).toNatClampNeg)), (3, .int (z13.1 23 ((150 : Int32)).toNatClampNeg)), (2, .int (z13.1 21 ((150 : Int32)).toNatClampNeg)), (0, .ref (ad 14 0)), (1, .int x1)]) hx hb d_Z_deliver_80 hl (by decide) rfl (fun ls hl => ?_)
    refine lv_aload_n hx hb d_Z_deliver_82 rfl (lv_at hl 4 rfl) ?_
    refine gf_Z_27 hx hb hts hown hK hP (by decide) a_585 d_Z_deliver_83 ?_
    refine lv_sipush (v := 150) hx hb d_Z_deliver_86 (by decide) ?_
    obtain ⟨h19, hF⟩ := as_u hF
    refine l_zi hx hb hK hP 25 151 ⟨by decide, by decide, by decide⟩ rfl h19 d_Z_deliver_89 ?_
    refine lv_istore (lv' := [(6, .int (z13.1 25 ((150 : Int32)).toNatClampNeg)), (5, .int (z13.1 24 ((150 : Int32)).toNatClampNeg)), (4, .int (z13.1 22 ((150 : Int32)).toNatClampNeg)), (3, .int (z13.1 23 ((150 : Int32)).toNatClampNeg)), (2, .int (z13.1 21 ((150 : Int32)).toNatClampNeg)), (0, .ref (ad 14 0)), (1, .int x1)]) hx hb d_Z_deliver_90 hl (by decide) rfl (fun ls hl => ?_)
    refine lv_aload_n hx hb d_Z_deliver_92 rfl (lv_at hl 5 rfl) ?_
    refine gf_Z_6 hx hb hts hown hK hP (by decide) a_564 d_Z_deliver_93 ?_
    refine lv_iload_n hx hb d_Z_deliver_96 rfl (lv_at hl 3 rfl) ?_
    obtain ⟨h20, hF⟩ := as_u hF
    refine l_zb hx hb hK hP 5 27 rfl rfl h20 d_Z_deliver_97 ?_
    refine lv_if_eq (tgt := 103) hx hb d_Z_deliver_98 (by decide) (fun h21 => ?_) (fun h21 => ?_)
    · have hF := it_t hF h21
      refine lv_iload_n hx hb d_Z_deliver_103 rfl (lv_at hl 4 rfl) ?_
      refine lv_if_ne (tgt := 121) hx hb d_Z_deliver_104 (by decide) (fun h22 => ?_) (fun h22 => ?_)
      · have hF := it_f hF h22
        refine lv_iload_n hx hb d_Z_deliver_121 rfl (lv_at hl 4 rfl) ?_
        refine lv_iconst (v := 1) hx hb d_Z_deliver_122 (by decide) ?_
        refine lv_icmp_ne (tgt := 154) hx hb d_Z_deliver_123 (by decide) (fun h23 => ?_) (fun h23 => ?_)
        · have hF := it_f hF h23
          refine lv_iload_n hx hb d_Z_deliver_154 rfl (lv_at hl 4 rfl) ?_
          refine lv_iconst (v := 2) hx hb d_Z_deliver_155 (by decide) ?_
          refine lv_icmp_ne (tgt := 195) hx hb d_Z_deliver_156 (by decide) (fun h24 => ?_) (fun h24 => ?_)
          · have hF := it_f hF h24
            refine lv_iload_n hx hb d_Z_deliver_195 rfl (lv_at hl 4 rfl) ?_
            refine lv_iconst (v := 3) hx hb d_Z_deliver_196 (by decide) ?_
            refine lv_icmp_ne (tgt := 222) hx hb d_Z_deliver_197 (by decide) (fun h25 => ?_) (fun h25 => ?_)
            · have hF := it_f hF h25
              refine lv_iload_n hx hb d_Z_deliver_222 rfl (lv_at hl 4 rfl) ?_
              refine lv_iconst (v := 4) hx hb d_Z_deliver_223 (by decide) ?_
              refine lv_icmp_ne (tgt := 239) hx hb d_Z_deliver_224 (by decide) (fun h26 => ?_) (fun h26 => ?_)
              · have hF := it_f hF h26
                refine lv_aload_n hx hb d_Z_deliver_239 rfl (lv_at hl 5 rfl) ?_
                refine lv_iload_n hx hb d_Z_deliver_240 rfl (lv_at hl 3 rfl) ?_
                refine lv_iload hx hb d_Z_deliver_241 (lv_at hl 0 rfl) ?_
                refine lv_aload_n hx hb d_Z_deliver_243 rfl (lv_at hl 5 rfl) ?_
                refine gf_Z_28 hx hb hts hown hK hP (by decide) a_586 d_Z_deliver_244 ?_
                refine lv_sipush (v := 150) hx hb d_Z_deliver_247 (by decide) ?_
                obtain ⟨h27, hF⟩ := as_u hF
                refine l_zi hx hb hK hP 26 151 ⟨by decide, by decide, by decide⟩ rfl h27 d_Z_deliver_250 ?_
                obtain ⟨z30, h29, hF⟩ := bs_u hF
                refine k_vv (ad 14 0) [.int (z13.1 23 ((150 : Int32)).toNatClampNeg), .int (z13.1 25 ((150 : Int32)).toNatClampNeg), .int (z13.1 26 ((150 : Int32)).toNatClampNeg)] [] ⟨hx, hb, hml, hown, hts⟩ (c_Z_know l D ad ca hD0 (z := z13) (u := u)  h29) (w_Z_know hts a_784 ⟨Nat.le_of_ble_eq_true rfl, Nat.le_of_ble_eq_true rfl⟩) (rv_Z hK hP (by decide)) hP hK hS (fun _ h => h) rfl rfl hl.1 (Nat.le_of_ble_eq_true rfl) ⟨Nat.zero_le _, Nat.zero_le _⟩ d_Z_deliver_251 (fun H locs hP hS => ?_)
                refine lv_aload_n hx hb d_Z_deliver_254 rfl (lv_at hl 5 rfl) ?_
                refine gf_Z_31 hx hb hts hown hK hP (by decide) a_589 d_Z_deliver_255 ?_
                obtain ⟨rfl, rfl⟩ := rt2 hF
                exact W.iret (v := (z30.1 0 31)) hx hb hr (fun t ht hW => ⟨⟨_, (), rfl, rfl, vp_at ht hP⟩, hS.F ht⟩) hS.2.2 d_Z_deliver_258
              · have hF := it_t hF h26
                refine lv_aload_n hx hb d_Z_deliver_227 rfl (lv_at hl 5 rfl) ?_
                refine lv_iload_n hx hb d_Z_deliver_228 rfl (lv_at hl 3 rfl) ?_
                refine lv_iload hx hb d_Z_deliver_229 (lv_at hl 2 rfl) ?_
                refine lv_iload hx hb d_Z_deliver_231 (lv_at hl 1 rfl) ?_
                obtain ⟨z33, h32, hF⟩ := bs_u hF
                refine k_vv (ad 14 0) [.int (z13.1 23 ((150 : Int32)).toNatClampNeg), .int (z13.1 22 ((150 : Int32)).toNatClampNeg), .int (z13.1 24 ((150 : Int32)).toNatClampNeg)] [] ⟨hx, hb, hml, hown, hts⟩ (c_Z_getTaken l D ad ca hD0 (z := z13) (u := u)  h32) (w_Z_getTaken hts a_780 ⟨Nat.le_of_ble_eq_true rfl, Nat.le_of_ble_eq_true rfl⟩) (rv_Z hK hP (by decide)) hP hK hS (fun _ h => h) rfl rfl hl.1 (Nat.le_of_ble_eq_true rfl) ⟨Nat.zero_le _, Nat.zero_le _⟩ d_Z_deliver_233 (fun H locs hP hS => ?_)
                refine lv_goto (tgt := 254) hx hb d_Z_deliver_236 (by decide) ?_
                refine lv_aload_n hx hb d_Z_deliver_254 rfl (lv_at hl 5 rfl) ?_
                refine gf_Z_31 hx hb hts hown hK hP (by decide) a_589 d_Z_deliver_255 ?_
                obtain ⟨rfl, rfl⟩ := rt2 hF
                exact W.iret (v := (z33.1 0 31)) hx hb hr (fun t ht hW => ⟨⟨_, (), rfl, rfl, vp_at ht hP⟩, hS.F ht⟩) hS.2.2 d_Z_deliver_258
            · have hF := it_t hF h25
              refine lv_aload_n hx hb d_Z_deliver_200 rfl (lv_at hl 5 rfl) ?_
              refine lv_iload_n hx hb d_Z_deliver_201 rfl (lv_at hl 3 rfl) ?_
              refine lv_iload hx hb d_Z_deliver_202 (lv_at hl 2 rfl) ?_
              refine lv_iload hx hb d_Z_deliver_204 (lv_at hl 1 rfl) ?_
              refine lv_iload hx hb d_Z_deliver_206 (lv_at hl 0 rfl) ?_
              refine lv_aload_n hx hb d_Z_deliver_208 rfl (lv_at hl 5 rfl) ?_
              refine gf_Z_28 hx hb hts hown hK hP (by decide) a_586 d_Z_deliver_209 ?_
              refine lv_sipush (v := 150) hx hb d_Z_deliver_212 (by decide) ?_
              obtain ⟨h34, hF⟩ := as_u hF
              refine l_zi hx hb hK hP 26 151 ⟨by decide, by decide, by decide⟩ rfl h34 d_Z_deliver_215 ?_
              obtain ⟨z37, h36, hF⟩ := bs_u hF
              refine k_vv (ad 14 0) [.int (z13.1 23 ((150 : Int32)).toNatClampNeg), .int (z13.1 22 ((150 : Int32)).toNatClampNeg), .int (z13.1 24 ((150 : Int32)).toNatClampNeg), .int (z13.1 25 ((150 : Int32)).toNatClampNeg), .int (z13.1 26 ((150 : Int32)).toNatClampNeg)] [] ⟨hx, hb, hml, hown, hts⟩ (c_Z_getSettle l D ad ca hD0 (z := z13) (u := u)  h36) (w_Z_getSettle hts a_776 ⟨Nat.le_of_ble_eq_true rfl, Nat.le_of_ble_eq_true rfl⟩) (rv_Z hK hP (by decide)) hP hK hS (fun _ h => h) rfl rfl hl.1 (Nat.le_of_ble_eq_true rfl) ⟨Nat.zero_le _, Nat.zero_le _⟩ d_Z_deliver_216 (fun H locs hP hS => ?_)
              refine lv_goto (tgt := 254) hx hb d_Z_deliver_219 (by decide) ?_
              refine lv_aload_n hx hb d_Z_deliver_254 rfl (lv_at hl 5 rfl) ?_
              refine gf_Z_31 hx hb hts hown hK hP (by decide) a_589 d_Z_deliver_255 ?_
              obtain ⟨rfl, rfl⟩ := rt2 hF
              exact W.iret (v := (z37.1 0 31)) hx hb hr (fun t ht hW => ⟨⟨_, (), rfl, rfl, vp_at ht hP⟩, hS.F ht⟩) hS.2.2 d_Z_deliver_258
          · have hF := it_t hF h24
            refine lv_aload_n hx hb d_Z_deliver_159 rfl (lv_at hl 5 rfl) ?_
            refine gf_Z_12 hx hb hts hown hK hP (by decide) a_570 d_Z_deliver_160 ?_
            refine lv_iload_n hx hb d_Z_deliver_163 rfl (lv_at hl 3 rfl) ?_
            obtain ⟨h38, hF⟩ := as_u hF
            refine l_zi hx hb hK hP 11 27 ⟨by decide, by decide, by decide⟩ rfl h38 d_Z_deliver_164 ?_
            refine lv_if_le (tgt := 254) hx hb d_Z_deliver_165 (by decide) (fun h39 => ?_) (fun h39 => ?_)
            · have hF := it_t hF h39
              refine lv_aload_n hx hb d_Z_deliver_254 rfl (lv_at hl 5 rfl) ?_
              refine gf_Z_31 hx hb hts hown hK hP (by decide) a_589 d_Z_deliver_255 ?_
              obtain ⟨rfl, rfl⟩ := rt2 hF
              exact W.iret (v := (z13.1 0 31)) hx hb hr (fun t ht hW => ⟨⟨_, (), rfl, rfl, vp_at ht hP⟩, hS.F ht⟩) hS.2.2 d_Z_deliver_258
            · have hF := it_f hF h39
              refine lv_aload_n hx hb d_Z_deliver_168 rfl (lv_at hl 5 rfl) ?_
              refine gf_Z_15 hx hb hts hown hK hP (by decide) a_573 d_Z_deliver_169 ?_
              refine lv_iload_n hx hb d_Z_deliver_172 rfl (lv_at hl 3 rfl) ?_
              obtain ⟨h40, hF⟩ := as_u hF
              refine l_zi hx hb hK hP 14 27 ⟨by decide, by decide, by decide⟩ rfl h40 d_Z_deliver_173 ?_
              refine lv_iload hx hb d_Z_deliver_174 (lv_at hl 1 rfl) ?_
              refine lv_icmp_ne (tgt := 254) hx hb d_Z_deliver_176 (by decide) (fun h41 => ?_) (fun h41 => ?_)
              · have hF := it_f hF h41
                refine lv_aload_n hx hb d_Z_deliver_254 rfl (lv_at hl 5 rfl) ?_
                refine gf_Z_31 hx hb hts hown hK hP (by decide) a_589 d_Z_deliver_255 ?_
                obtain ⟨rfl, rfl⟩ := rt2 hF
                exact W.iret (v := (z13.1 0 31)) hx hb hr (fun t ht hW => ⟨⟨_, (), rfl, rfl, vp_at ht hP⟩, hS.F ht⟩) hS.2.2 d_Z_deliver_258
              · have hF := it_t hF h41
                refine lv_aload_n hx hb d_Z_deliver_179 rfl (lv_at hl 5 rfl) ?_
                refine lv_iload_n hx hb d_Z_deliver_180 rfl (lv_at hl 3 rfl) ?_
                refine lv_aload_n hx hb d_Z_deliver_181 rfl (lv_at hl 5 rfl) ?_
                refine gf_Z_28 hx hb hts hown hK hP (by decide) a_586 d_Z_deliver_182 ?_
                refine lv_sipush (v := 150) hx hb d_Z_deliver_185 (by decide) ?_
                obtain ⟨h42, hF⟩ := as_u hF
                refine l_zi hx hb hK hP 26 151 ⟨by decide, by decide, by decide⟩ rfl h42 d_Z_deliver_188 ?_
                obtain ⟨z45, h44, hF⟩ := bs_u hF
                refine k_vv (ad 14 0) [.int (z13.1 23 ((150 : Int32)).toNatClampNeg), .int (z13.1 26 ((150 : Int32)).toNatClampNeg)] [] ⟨hx, hb, hml, hown, hts⟩ (c_Z_begin l D ad ca hD0 (z := z13) (u := u)  h44) (w_Z_begin hts a_734 ⟨Nat.le_of_ble_eq_true rfl, Nat.le_of_ble_eq_true rfl⟩) (rv_Z hK hP (by decide)) hP hK hS (fun _ h => h) rfl rfl hl.1 (Nat.le_of_ble_eq_true rfl) ⟨Nat.zero_le _, Nat.zero_le _⟩ d_Z_deliver_189 (fun H locs hP hS => ?_)
                refine lv_goto (tgt := 254) hx hb d_Z_deliver_192 (by decide) ?_
                refine lv_aload_n hx hb d_Z_deliver_254 rfl (lv_at hl 5 rfl) ?_
                refine gf_Z_31 hx hb hts hown hK hP (by decide) a_589 d_Z_deliver_255 ?_
                obtain ⟨rfl, rfl⟩ := rt2 hF
                exact W.iret (v := (z45.1 0 31)) hx hb hr (fun t ht hW => ⟨⟨_, (), rfl, rfl, vp_at ht hP⟩, hS.F ht⟩) hS.2.2 d_Z_deliver_258
        · have hF := it_t hF h23
          refine lv_aload_n hx hb d_Z_deliver_126 rfl (lv_at hl 5 rfl) ?_
          refine lv_iload_n hx hb d_Z_deliver_127 rfl (lv_at hl 3 rfl) ?_
          refine lv_iload hx hb d_Z_deliver_128 (lv_at hl 2 rfl) ?_
          refine lv_iload hx hb d_Z_deliver_130 (lv_at hl 1 rfl) ?_
          refine lv_aload_n hx hb d_Z_deliver_132 rfl (lv_at hl 5 rfl) ?_
          refine gf_Z_29 hx hb hts hown hK hP (by decide) a_587 d_Z_deliver_133 ?_
          refine lv_sipush (v := 150) hx hb d_Z_deliver_136 (by decide) ?_
          obtain ⟨h46, hF⟩ := as_u hF
          refine l_zi hx hb hK hP 27 151 ⟨by decide, by decide, by decide⟩ rfl h46 d_Z_deliver_139 ?_
          refine lv_aload_n hx hb d_Z_deliver_140 rfl (lv_at hl 5 rfl) ?_
          refine gf_Z_30 hx hb hts hown hK hP (by decide) a_588 d_Z_deliver_141 ?_
          refine lv_sipush (v := 150) hx hb d_Z_deliver_144 (by decide) ?_
          obtain ⟨h47, hF⟩ := as_u hF
          refine l_zi hx hb hK hP 28 151 ⟨by decide, by decide, by decide⟩ rfl h47 d_Z_deliver_147 ?_
          obtain ⟨z50, h49, hF⟩ := bs_u hF
          refine k_vv (ad 14 0) [.int (z13.1 23 ((150 : Int32)).toNatClampNeg), .int (z13.1 22 ((150 : Int32)).toNatClampNeg), .int (z13.1 24 ((150 : Int32)).toNatClampNeg), .int (z13.1 27 ((150 : Int32)).toNatClampNeg), .int (z13.1 28 ((150 : Int32)).toNatClampNeg)] [] ⟨hx, hb, hml, hown, hts⟩ (c_Z_getGive l D ad ca hD0 (z := z13) (u := u)  h49) (w_Z_getGive hts a_772 ⟨Nat.le_of_ble_eq_true rfl, Nat.le_of_ble_eq_true rfl⟩) (rv_Z hK hP (by decide)) hP hK hS (fun _ h => h) rfl rfl hl.1 (Nat.le_of_ble_eq_true rfl) ⟨Nat.zero_le _, Nat.zero_le _⟩ d_Z_deliver_148 (fun H locs hP hS => ?_)
          refine lv_goto (tgt := 254) hx hb d_Z_deliver_151 (by decide) ?_
          refine lv_aload_n hx hb d_Z_deliver_254 rfl (lv_at hl 5 rfl) ?_
          refine gf_Z_31 hx hb hts hown hK hP (by decide) a_589 d_Z_deliver_255 ?_
          obtain ⟨rfl, rfl⟩ := rt2 hF
          exact W.iret (v := (z50.1 0 31)) hx hb hr (fun t ht hW => ⟨⟨_, (), rfl, rfl, vp_at ht hP⟩, hS.F ht⟩) hS.2.2 d_Z_deliver_258
      · have hF := it_t hF h22
        refine lv_aload_n hx hb d_Z_deliver_107 rfl (lv_at hl 5 rfl) ?_
        refine lv_iload_n hx hb d_Z_deliver_108 rfl (lv_at hl 3 rfl) ?_
        refine lv_iload hx hb d_Z_deliver_109 (lv_at hl 2 rfl) ?_
        refine lv_iload hx hb d_Z_deliver_111 (lv_at hl 1 rfl) ?_
        refine lv_iload hx hb d_Z_deliver_113 (lv_at hl 0 rfl) ?_
        obtain ⟨z53, h52, hF⟩ := bs_u hF
        refine k_vv (ad 14 0) [.int (z13.1 23 ((150 : Int32)).toNatClampNeg), .int (z13.1 22 ((150 : Int32)).toNatClampNeg), .int (z13.1 24 ((150 : Int32)).toNatClampNeg), .int (z13.1 25 ((150 : Int32)).toNatClampNeg)] [] ⟨hx, hb, hml, hown, hts⟩ (c_Z_getAsk l D ad ca hD0 (z := z13) (u := u)  h52) (w_Z_getAsk hts a_768 ⟨Nat.le_of_ble_eq_true rfl, Nat.le_of_ble_eq_true rfl⟩) (rv_Z hK hP (by decide)) hP hK hS (fun _ h => h) rfl rfl hl.1 (Nat.le_of_ble_eq_true rfl) ⟨Nat.zero_le _, Nat.zero_le _⟩ d_Z_deliver_115 (fun H locs hP hS => ?_)
        refine lv_goto (tgt := 254) hx hb d_Z_deliver_118 (by decide) ?_
        refine lv_aload_n hx hb d_Z_deliver_254 rfl (lv_at hl 5 rfl) ?_
        refine gf_Z_31 hx hb hts hown hK hP (by decide) a_589 d_Z_deliver_255 ?_
        obtain ⟨rfl, rfl⟩ := rt2 hF
        exact W.iret (v := (z53.1 0 31)) hx hb hr (fun t ht hW => ⟨⟨_, (), rfl, rfl, vp_at ht hP⟩, hS.F ht⟩) hS.2.2 d_Z_deliver_258
    · have hF := it_f hF h21
      refine lv_iconst (v := 0) hx hb d_Z_deliver_101 (by decide) ?_
      obtain ⟨rfl, rfl⟩ := rt2 hF
      exact W.iret (v := 0) hx hb hr (fun t ht hW => ⟨⟨_, (), rfl, rfl, vp_at ht hP⟩, hS.F ht⟩) hS.2.2 d_Z_deliver_102
  · have hF := it_f hF h6
    refine lv_iconst (v := 0) hx hb d_Z_deliver_24 (by decide) ?_
    obtain ⟨rfl, rfl⟩ := rt2 hF
    exact W.iret (v := 0) hx hb hr (fun t ht hW => ⟨⟨_, (), rfl, rfl, vp_at ht hP⟩, hS.F ht⟩) hS.2.2 d_Z_deliver_25
set_option maxHeartbeats 4000000 in
set_option maxRecDepth 100000 in
theorem c_Z_deliver (l : Launch) (D : va_G) (ad : Nat → Nat → Nat) (ca : Nat → ClassId) (hD0 : ∀ z u, va_D (AH ad) (wh ad ca z u)) {z : ZW} {u : XC} {a1 : Int32} {r0 : Int32} {z0 : ZW}  (hF : F_Z_deliver z a1 = some (r0, z0)) : Met l y_Z_deliver ws_Z_deliver ({ frames := 7, cells := 0, slots := 0, locals := 171 } : Room) (va_Pc [.ref (ad 14 0), .int a1] (fun U => va_P D CLS (wh ad ca z u) U.heap ∧ va_K D CLS (TYH ca) U)) (va_Qi (fun (r : Int32) (_ : Unit) => r = r0) (fun _ t => va_P D CLS (wh ad ca z0 u) t.heap) (AH ad)) 0 0 (AH ad) := by
  refine Met.ofW (cc := b_Z_deliver) (maxL := 7) (ret := (some .int)) (by decide +kernel) rfl ?_
  intro p e s m args below meth c s₁ B hml hv
  obtain ⟨rfl, hP, hK⟩ := hv
  have hx := B.exec
  have hb := B.bytes
  have hr := B.returns
  have hts : ∀ w ∈ ALL, w.before _ s = true := fun w h => atoms_spec (ws := ws_Z_deliver) B.pre w (List.mem_cons_of_mem _ h)
  have hown : s.vm.findClass R_Z = some m.cls := findClass_of_methodNamed B.named
  have hlocks := B.notSynchronized
  have hD := hD0
  have hS : va_S (AH ad) s.heap s.heap [] := va_S.rf
  have hP : va_P D CLS (wh ad ca z u) s.heap := hP
  have hl := lv_entry ([.ref (ad 14 0), .int a1]) (n := 7) (Nat.le_of_ble_eq_true rfl)
  rw [lg_entry_eq]
  generalize (lg_sl ([.ref (ad 14 0), .int a1]) ++ List.replicate (7 - (lg_sl ([.ref (ad 14 0), .int a1])).length) Slot.unset).toArray = ls at hl ⊢
  have hl : lv_has ls 7 [(0, .ref (ad 14 0)), (1, .int a1)] := hl
  unfold F_Z_deliver at hF
  refine lv_aload_n hx hb d_Z_deliver_0 rfl (lv_at hl 0 rfl) ?_
  refine lv_aload_n hx hb d_Z_deliver_1 rfl (lv_at hl 0 rfl) ?_
  refine lv_iload_n hx hb d_Z_deliver_2 rfl (lv_at hl 1 rfl) ?_
  obtain ⟨r1, h2, hF⟩ := bs_u hF
  refine k_vp (ad 14 0) [.int a1] [.ref (ad 14 0)] ⟨hx, hb, hml, hown, hts⟩ (c_Z_isLetter l D ad ca hD0 (z := z) (u := u)  h2) (w_Z_isLetter hts a_706 ⟨Nat.le_of_ble_eq_true rfl, Nat.le_of_ble_eq_true rfl⟩) (rv_Z hK hP (by decide)) hP hK rfl rfl hl.1 (Nat.le_of_ble_eq_true rfl) ⟨Nat.zero_le _, Nat.zero_le _⟩ d_Z_deliver_3 ?_
  refine lv_if_eq (tgt := 13) hx hb d_Z_deliver_6 (by decide) (fun h3 => ?_) (fun h3 => ?_)
  · have hF := it_t hF h3
    refine lv_iconst (v := 1) hx hb d_Z_deliver_13 (by decide) ?_
    exact jn_Z_deliver_14 hx hb hr hts hown hlocks hml hK hD0 hD  z a1 1  r0 z0 hF _ _ _ hP hS (lv_sub hl [0, 1] rfl)
  · have hF := it_f hF h3
    refine lv_iconst (v := 0) hx hb d_Z_deliver_9 (by decide) ?_
    refine lv_goto (tgt := 14) hx hb d_Z_deliver_10 (by decide) ?_
    exact jn_Z_deliver_14 hx hb hr hts hown hlocks hml hK hD0 hD  z a1 0  r0 z0 hF _ _ _ hP hS (lv_sub hl [0, 1] rfl)
def ws_Z_crash : List Cond := Cond.code y_Z_crash b_Z_crash 2 (some .boolean) :: ALL
theorem w_Z_crash {R : Room} {s : State} {args : Array Value} {own : String} {index : Nat} (hts : ∀ w ∈ ALL, w.before args s = true) (hlk : Cond.methodLink own index y_Z_crash ∈ ALL) (hR : (({ frames := 1, cells := 0, slots := 0, locals := 20 } : Room)).frames + 1 ≤ R.frames ∧ 8 + (2 + 11) + (({ frames := 1, cells := 0, slots := 0, locals := 20 } : Room)).locals ≤ R.locals) : CallW R s args own R_Z index y_Z_crash b_Z_crash 2 (some .boolean) ws_Z_crash ({ frames := 1, cells := 0, slots := 0, locals := 20 } : Room) 0 0 1 := ⟨callB_of 1 hts (good_c a_791) rfl rfl rfl (hts _ a_8) (hts _ hlk) (by decide +kernel) hR, hts _ a_789, hts _ a_790⟩
theorem d_Z_crash_0 : decode b_Z_crash 0 = .ok (.aload_n 0, 1) := by decide +kernel
theorem d_Z_crash_1 : decode b_Z_crash 1 = .ok (.iconst 0, 1) := by decide +kernel
theorem d_Z_crash_2 : decode b_Z_crash 2 = .ok (.putfield 95, 3) := by decide +kernel
theorem d_Z_crash_5 : decode b_Z_crash 5 = .ok (.iload_n 1, 1) := by decide +kernel
theorem d_Z_crash_6 : decode b_Z_crash 6 = .ok (.invokestatic 122, 3) := by decide +kernel
theorem d_Z_crash_9 : decode b_Z_crash 9 = .ok (.ifCond .eq 12, 3) := by decide +kernel
theorem d_Z_crash_12 : decode b_Z_crash 12 = .ok (.aload_n 0, 1) := by decide +kernel
theorem d_Z_crash_13 : decode b_Z_crash 13 = .ok (.getfield 22, 3) := by decide +kernel
theorem d_Z_crash_16 : decode b_Z_crash 16 = .ok (.iload_n 1, 1) := by decide +kernel
theorem d_Z_crash_17 : decode b_Z_crash 17 = .ok (.baload, 1) := by decide +kernel
theorem d_Z_crash_18 : decode b_Z_crash 18 = .ok (.ifCond .eq 5, 3) := by decide +kernel
theorem d_Z_crash_21 : decode b_Z_crash 21 = .ok (.iconst 0, 1) := by decide +kernel
theorem d_Z_crash_22 : decode b_Z_crash 22 = .ok (.ireturn, 1) := by decide +kernel
theorem d_Z_crash_23 : decode b_Z_crash 23 = .ok (.aload_n 0, 1) := by decide +kernel
theorem d_Z_crash_24 : decode b_Z_crash 24 = .ok (.getfield 22, 3) := by decide +kernel
theorem d_Z_crash_27 : decode b_Z_crash 27 = .ok (.iload_n 1, 1) := by decide +kernel
theorem d_Z_crash_28 : decode b_Z_crash 28 = .ok (.iconst 1, 1) := by decide +kernel
theorem d_Z_crash_29 : decode b_Z_crash 29 = .ok (.bastore, 1) := by decide +kernel
theorem d_Z_crash_30 : decode b_Z_crash 30 = .ok (.aload_n 0, 1) := by decide +kernel
theorem d_Z_crash_31 : decode b_Z_crash 31 = .ok (.getfield 41, 3) := by decide +kernel
theorem d_Z_crash_34 : decode b_Z_crash 34 = .ok (.iload_n 1, 1) := by decide +kernel
theorem d_Z_crash_35 : decode b_Z_crash 35 = .ok (.iconst 0, 1) := by decide +kernel
theorem d_Z_crash_36 : decode b_Z_crash 36 = .ok (.iastore, 1) := by decide +kernel
theorem d_Z_crash_37 : decode b_Z_crash 37 = .ok (.aload_n 0, 1) := by decide +kernel
theorem d_Z_crash_38 : decode b_Z_crash 38 = .ok (.getfield 26, 3) := by decide +kernel
theorem d_Z_crash_41 : decode b_Z_crash 41 = .ok (.iload_n 1, 1) := by decide +kernel
theorem d_Z_crash_42 : decode b_Z_crash 42 = .ok (.iconst 0, 1) := by decide +kernel
theorem d_Z_crash_43 : decode b_Z_crash 43 = .ok (.iastore, 1) := by decide +kernel
theorem d_Z_crash_44 : decode b_Z_crash 44 = .ok (.iconst 1, 1) := by decide +kernel
theorem d_Z_crash_45 : decode b_Z_crash 45 = .ok (.ireturn, 1) := by decide +kernel
def F_Z_crash (z : ZW) (a1 : Int32) : Option (Int32 × ZW) := (nm_ (pz z 0 0 0) fun z1 => (bs_ (F_Z_isOffice a1) fun r3 => (if r3 = 0 then some (0, z1) else (if 0 ≤ a1 ∧ (a1).toNatClampNeg < 27 then (if (z1.1 5 (a1).toNatClampNeg) = 0 then (if 0 ≤ a1 ∧ (a1).toNatClampNeg < 27 then (nm_ (pz z1 5 (a1).toNatClampNeg 1) fun z9 => (if 0 ≤ a1 ∧ (a1).toNatClampNeg < 27 then (nm_ (pz z9 11 (a1).toNatClampNeg 0) fun z12 => (if 0 ≤ a1 ∧ (a1).toNatClampNeg < 27 then (nm_ (pz z12 6 (a1).toNatClampNeg 0) fun z15 => some (1, z15)) else none)) else none)) else none) else some (0, z1)) else none))))
set_option maxHeartbeats 4000000 in
set_option maxRecDepth 100000 in
theorem c_Z_crash (l : Launch) (D : va_G) (ad : Nat → Nat → Nat) (ca : Nat → ClassId) (hD0 : ∀ z u, va_D (AH ad) (wh ad ca z u)) {z : ZW} {u : XC} {a1 : Int32} {r0 : Int32} {z0 : ZW}  (hF : F_Z_crash z a1 = some (r0, z0)) : Met l y_Z_crash ws_Z_crash ({ frames := 1, cells := 0, slots := 0, locals := 20 } : Room) (va_Pc [.ref (ad 14 0), .int a1] (fun U => va_P D CLS (wh ad ca z u) U.heap ∧ va_K D CLS (TYH ca) U)) (va_Qi (fun (r : Int32) (_ : Unit) => r = r0) (fun _ t => va_P D CLS (wh ad ca z0 u) t.heap) (AH ad)) 0 0 (AH ad) := by
  refine Met.ofW (cc := b_Z_crash) (maxL := 2) (ret := (some .boolean)) (by decide +kernel) rfl ?_
  intro p e s m args below meth c s₁ B hml hv
  obtain ⟨rfl, hP, hK⟩ := hv
  have hx := B.exec
  have hb := B.bytes
  have hr := B.returns
  have hts : ∀ w ∈ ALL, w.before _ s = true := fun w h => atoms_spec (ws := ws_Z_crash) B.pre w (List.mem_cons_of_mem _ h)
  have hown : s.vm.findClass R_Z = some m.cls := findClass_of_methodNamed B.named
  have hlocks := B.notSynchronized
  have hD := hD0
  have hS : va_S (AH ad) s.heap s.heap [] := va_S.rf
  have hP : va_P D CLS (wh ad ca z u) s.heap := hP
  have hl := lv_entry ([.ref (ad 14 0), .int a1]) (n := 2) (Nat.le_of_ble_eq_true rfl)
  rw [lg_entry_eq]
  generalize (lg_sl ([.ref (ad 14 0), .int a1]) ++ List.replicate (2 - (lg_sl ([.ref (ad 14 0), .int a1])).length) Slot.unset).toArray = ls at hl ⊢
  have hl : lv_has ls 2 [(0, .ref (ad 14 0)), (1, .int a1)] := hl
  unfold F_Z_crash at hF
  refine lv_aload_n hx hb d_Z_crash_0 rfl (lv_at hl 0 rfl) ?_
  refine lv_iconst (v := 0) hx hb d_Z_crash_1 (by decide) ?_
  obtain ⟨z1, h2, hF⟩ := nm_u hF
  refine pf_Z_0 hx hb hts hown hK hP hD hS (by decide) h2 a_558 d_Z_crash_2 (fun H locs hP hS => ?_)
  refine lv_iload_n hx hb d_Z_crash_5 rfl (lv_at hl 1 rfl) ?_
  obtain ⟨r3, h4, hF⟩ := bs_u hF
  refine k_sp [.int a1] [] ⟨hx, hb, hml, hown, hts⟩ (c_Z_isOffice l  h4) (w_Z_isOffice hts a_691 ⟨Nat.le_of_ble_eq_true rfl, Nat.le_of_ble_eq_true rfl⟩) rfl rfl hl.1 (Nat.le_of_ble_eq_true rfl) ⟨Nat.zero_le _, Nat.zero_le _⟩ d_Z_crash_6 ?_
  refine lv_if_eq (tgt := 21) hx hb d_Z_crash_9 (by decide) (fun h5 => ?_) (fun h5 => ?_)
  · have hF := it_t hF h5
    refine lv_iconst (v := 0) hx hb d_Z_crash_21 (by decide) ?_
    obtain ⟨rfl, rfl⟩ := rt2 hF
    exact W.zret (v := 0) hx hb hr rfl (fun t ht hW => ⟨⟨_, (), rfl, rfl, vp_at ht hP⟩, hS.F ht⟩) hS.2.2 d_Z_crash_22
  · have hF := it_f hF h5
    refine lv_aload_n hx hb d_Z_crash_12 rfl (lv_at hl 0 rfl) ?_
    refine gf_Z_6 hx hb hts hown hK hP (by decide) a_564 d_Z_crash_13 ?_
    refine lv_iload_n hx hb d_Z_crash_16 rfl (lv_at hl 1 rfl) ?_
    obtain ⟨h6, hF⟩ := as_u hF
    refine l_zb hx hb hK hP 5 27 rfl rfl h6 d_Z_crash_17 ?_
    refine lv_if_eq (tgt := 23) hx hb d_Z_crash_18 (by decide) (fun h7 => ?_) (fun h7 => ?_)
    · have hF := it_t hF h7
      refine lv_aload_n hx hb d_Z_crash_23 rfl (lv_at hl 0 rfl) ?_
      refine gf_Z_6 hx hb hts hown hK hP (by decide) a_564 d_Z_crash_24 ?_
      refine lv_iload_n hx hb d_Z_crash_27 rfl (lv_at hl 1 rfl) ?_
      refine lv_iconst (v := 1) hx hb d_Z_crash_28 (by decide) ?_
      obtain ⟨h8, hF⟩ := as_u hF
      obtain ⟨z9, h10, hF⟩ := nm_u hF
      refine s_zb hx hb hK hP 5 27 hD hS rfl rfl h8 rfl h10 d_Z_crash_29 (fun H locs hP hS => ?_)
      refine lv_aload_n hx hb d_Z_crash_30 rfl (lv_at hl 0 rfl) ?_
      refine gf_Z_12 hx hb hts hown hK hP (by decide) a_570 d_Z_crash_31 ?_
      refine lv_iload_n hx hb d_Z_crash_34 rfl (lv_at hl 1 rfl) ?_
      refine lv_iconst (v := 0) hx hb d_Z_crash_35 (by decide) ?_
      obtain ⟨h11, hF⟩ := as_u hF
      obtain ⟨z12, h13, hF⟩ := nm_u hF
      refine s_zi hx hb hK hP 11 27 hD hS ⟨by decide, by decide, by decide⟩ rfl h11 h13 d_Z_crash_36 (fun H locs hP hS => ?_)
      refine lv_aload_n hx hb d_Z_crash_37 rfl (lv_at hl 0 rfl) ?_
      refine gf_Z_7 hx hb hts hown hK hP (by decide) a_565 d_Z_crash_38 ?_
      refine lv_iload_n hx hb d_Z_crash_41 rfl (lv_at hl 1 rfl) ?_
      refine lv_iconst (v := 0) hx hb d_Z_crash_42 (by decide) ?_
      obtain ⟨h14, hF⟩ := as_u hF
      obtain ⟨z15, h16, hF⟩ := nm_u hF
      refine s_zi hx hb hK hP 6 27 hD hS ⟨by decide, by decide, by decide⟩ rfl h14 h16 d_Z_crash_43 (fun H locs hP hS => ?_)
      refine lv_iconst (v := 1) hx hb d_Z_crash_44 (by decide) ?_
      obtain ⟨rfl, rfl⟩ := rt2 hF
      exact W.zret (v := 1) hx hb hr rfl (fun t ht hW => ⟨⟨_, (), rfl, rfl, vp_at ht hP⟩, hS.F ht⟩) hS.2.2 d_Z_crash_45
    · have hF := it_f hF h7
      refine lv_iconst (v := 0) hx hb d_Z_crash_21 (by decide) ?_
      obtain ⟨rfl, rfl⟩ := rt2 hF
      exact W.zret (v := 0) hx hb hr rfl (fun t ht hW => ⟨⟨_, (), rfl, rfl, vp_at ht hP⟩, hS.F ht⟩) hS.2.2 d_Z_crash_22
