def R_law : String := "TripleHouseLaw"
def lw_P (b : Addr) (xs : List Int32) (args : Array Value) (s : State) : Prop := args = #[.ref b] ∧ s.IntsAt b xs ∧ xs.length ≤ 2560 ∧ (Jvm.Cond.and given_1 narrow_1).before args s = true
def lw_Q (_ : Array Value) (s : State) (o : Outcome) (t : State) : Prop := o = .returned (some (.int 1)) ∧ Framed s o t [] 601024 7293034
def lw_Z (below : List Frame) (a : Array Value) (s : State) : State → Prop := fun t => ∃ o, t.status = .running ∧ Ended t below o ∧ lw_Q a s o t
theorem lw_ret {p : Program} {l : Launch} {e : Env} {s : State} {m : MethodId} {below : List Frame} {meth : Method} {c : Code} {b : Nat} (hx : p.tables.exec = Jvm.exec) (hb : c.code = code) (hr : meth.sig.returnType = ret) (hlocks : meth.locks = false) {pc : Nat} {H : Heap} {ls : Array Slot} (hdg : decode code pc = .ok (.ireturn, 1)) : W p l e room_1 s m #[Value.ref b] below meth c H [] 601024 7293034 (lw_Z below #[Value.ref b] s) (F0 m pc ls [.int 1]) := by
  intro T hT X
  obtain ⟨fs, hret, hrun, hended, hW, hframe⟩ := X.leave (v := some (.int 1)) (hlocks := hlocks) (fun h => by rw [hr] at h; cases h)
  have hmeth' : T.vm.method? m = some meth := X.method'
  refine ⟨T.setFrames fs, ?_, .returned (some (.int 1)), hrun, hended, rfl, ⟨_, rfl⟩, hW, hframe⟩
  jvm_step X.here [X.here.top, hx, hb, hdg, hmeth', hr, ret, narrow_b1]
  (try refine ⟨rfl, ?_⟩); (try refine ⟨rfl, ?_⟩)
  first | (intro acts; rw [hret _ acts rfl rfl rfl]) | rw [hret _ _ rfl rfl rfl]
  exact Steps.refl _
def lw_At (p : Program) (s : State) (m : MethodId) (meth : Method) (c : Code) (b L : Nat) (xs : Nat → Int32) : Prop :=
  p.tables.exec = Jvm.exec ∧ c.code = code ∧ meth.sig.returnType = ret ∧ c.maxLocals = 7 ∧ s.vm.findClass R_law = some m.cls ∧ (∀ w ∈ lw_tbl, w.before #[Value.ref b] s = true) ∧ va_X b L xs s s.heap ∧ b < s.heap.size ∧ meth.locks = false ∧ (Jvm.Cond.and given_1 narrow_1).before #[Value.ref b] s = true

theorem vp_mem {D : va_G} {cl : List vw_C} {ws : va_W} {H : Heap} {q : Nat × va_E} (h : va_P D cl ws H) (hq : q ∈ ws) : va_at D cl q H := by
  obtain ⟨k, hk⟩ := List.getElem?_of_mem hq
  exact h k q hk
theorem vp_all {D : va_G} {cl : List vw_C} {ws : va_W} {H : Heap} (h : ∀ q ∈ ws, va_at D cl q H) : va_P D cl ws H := fun _ q hk => h q (List.mem_of_getElem? hk)
theorem rc_cong {cA : ClassId} {n : Nat} {f g : Nat → Option Nat} (h : ∀ j, j < n → f j = g j) : vp_cell cA (n, .inr (.inr (.inr (.inr f)))) = vp_cell cA (n, .inr (.inr (.inr (.inr g)))) := by
  have e : (fun j : Fin n => va_rf (f j.val)) = fun j : Fin n => va_rf (g j.val) := by
    funext j
    rw [h j.val j.isLt]
  rw [vp_cell_q, vp_cell_q]
  unfold arrV
  rw [e]
theorem ap2 {α : Type} {a b c d : List α} (h1 : a = b) (h2 : c = d) : a ++ c = b ++ d := by rw [h1, h2]
def g0 (k i s : Nat) : Int32 := match k with
  | 4 => match s with
    | 0 => Int32.ofNat i
    | 6 => -1
    | _ => 0
  | 7 => match s with
    | 4 => -1
    | 5 => -1
    | 7 => -1
    | _ => 0
  | 9 => filled 6 (-1) (fun _ => 0) s
  | 10 => filled 6 (-1) (fun _ => 0) s
  | 11 => match s with
    | 3 => -1
    | 7 => -1
    | _ => 0
  | _ => 0
def u0_ : XC := (g0, fun j => j, 151)
def z0_ : ZW := (fun _ _ => 0, fun _ => 0)
def ad_ (b q1 q2 : Nat) (w : MA) (oa : Nat → OA) (ta : Nat → TA) (zb : Nat) (za : Nat → Nat) (k i : Nat) : Nat := match k with
  | 0 => b
  | 1 => q1
  | 2 => q2
  | 3 => w.1
  | 4 => (oa i).1
  | 5 => (ta i).1
  | 6 => w.2.1
  | 7 => if i = 150 then w.2.2.1 else if i = 151 then w.2.2.2.1 else w.2.2.2.2 i
  | 8 => (oa i).2.1
  | 9 => (oa i).2.2.1
  | 10 => (oa i).2.2.2.1
  | 11 => (oa i).2.2.2.2
  | 12 => (ta i).2.1
  | 13 => (ta i).2.2
  | 14 => zb
  | k + 15 => za k
def HX (ca : Nat → ClassId) (b q1 q2 : Nat) (w : MA) (oa : Nat → OA) (ta : Nat → TA) : va_W := [(b, .inr (5, [.ref q1, .ref q2, .ref w.1, .int 0])), (q1, .inl (ca 1, 27, .inr (.inr (.inr (.inr (fun j => some (oa j).1)))))), (q2, .inl (ca 2, 40, .inr (.inr (.inr (.inr (fun j => some (ta j).1))))))] ++ (([(w.1, .inr (1, [.ref w.2.1, .ref w.2.2.1, .ref w.2.2.2.1, .int 0])), (w.2.1, .inl (ca 3, 150, .inr (.inr (.inr (.inr (fun j => some (if j = 150 then w.2.2.1 else if j = 151 then w.2.2.2.1 else w.2.2.2.2 j))))))), (w.2.2.1, lt_I), (w.2.2.2.1, lt_I)] ++ (List.range 150).map (fun j => (w.2.2.2.2 j, lt_I))) ++ ((List.range 27).flatMap (fun j => CW_O_init ca (oa j).1 (Int32.ofNat j) (oa j).2) ++ (List.range 40).flatMap (fun j => CW_T_init ca (ta j).1 (ta j).2)))
theorem hx_of {D : va_G} {ca : Nat → ClassId} {b q1 q2 : Nat} {w : MA} {oa : Nat → OA} {ta : Nat → TA} {H : Heap} (h : va_P D CLS (HW ca b q1 q2 w oa 27 ta 40) H) : va_P D CLS (HX ca b q1 q2 w oa ta) H := by
  have hm : ∀ q ∈ HW ca b q1 q2 w oa 27 ta 40, va_at D CLS q H := fun q hq => vp_mem h hq
  unfold HW at hm
  unfold HX
  rw [List.forall_mem_append] at hm
  obtain ⟨h1, h2⟩ := hm
  rw [List.forall_mem_append] at h2
  obtain ⟨h2, h3⟩ := h2
  unfold MW at h2
  rw [List.forall_mem_append] at h2
  obtain ⟨h2, h4⟩ := h2
  apply vp_all
  rw [List.forall_mem_append]
  refine ⟨?_, ?_⟩
  · refine List.forall_mem_cons.mpr ⟨h1 _ (by simp), List.forall_mem_cons.mpr ⟨?_, List.forall_mem_cons.mpr ⟨?_, fun _ h => absurd h List.not_mem_nil⟩⟩⟩
    · have e := h1 _ (List.mem_cons_of_mem _ List.mem_cons_self)
      show H[q1]? = some (vp_cell _ _)
      rw [rc_cong (g := fun j => if j < 27 then some (oa j).1 else none) (fun j hj => by rw [if_pos hj])]
      exact e
    · have e := h1 _ (List.mem_cons_of_mem _ (List.mem_cons_of_mem _ List.mem_cons_self))
      show H[q2]? = some (vp_cell _ _)
      rw [rc_cong (g := fun j => if j < 40 then some (ta j).1 else none) (fun j hj => by rw [if_pos hj])]
      exact e
  · rw [List.forall_mem_append]
    refine ⟨?_, h3⟩
    rw [List.forall_mem_append]
    refine ⟨?_, h4⟩
    refine List.forall_mem_cons.mpr ⟨h2 _ (by simp), List.forall_mem_cons.mpr ⟨?_, List.forall_mem_cons.mpr ⟨h2 _ (by simp), List.forall_mem_cons.mpr ⟨h2 _ (by simp), fun _ h => absurd h List.not_mem_nil⟩⟩⟩⟩
    have e := h2 _ (List.mem_cons_of_mem _ List.mem_cons_self)
    show H[w.2.1]? = some (vp_cell _ _)
    rw [rc_cong (g := fun j => if j < 150 then some (w.2.2.2.2 j) else none) (fun j hj => by rw [if_pos hj, if_neg (by omega), if_neg (by omega)])]
    exact e
theorem hx_fst {ca : Nat → ClassId} {b q1 q2 : Nat} {w : MA} {oa : Nat → OA} {ta : Nat → TA} : (HX ca b q1 q2 w oa ta).map Prod.fst = (HW ca b q1 q2 w oa 27 ta 40).map Prod.fst := by
  unfold HX HW MW
  simp only [List.map_append, List.map_cons, List.map_nil]
theorem hx_wh {ca : Nat → ClassId} {b q1 q2 zb : Nat} {w : MA} {oa : Nat → OA} {ta : Nat → TA} {za : Nat → Nat} : HX ca b q1 q2 w oa ta = IXX.map (fun q => (ad_ b q1 q2 w oa ta zb za q.1 q.2, xc (ad_ b q1 q2 w oa ta zb za) ca (z0_, u0_) q.1 q.2)) := by
  unfold HX IXX IXM IXO IXT
  simp only [List.map_append]
  refine ap2 rfl (ap2 (ap2 rfl ?_) (ap2 ?_ ?_))
  · rw [List.map_map]
    apply List.map_congr_left
    intro j hj
    have h := List.mem_range.mp hj
    show (w.2.2.2.2 j, lt_I) = (if j = 150 then w.2.2.1 else if j = 151 then w.2.2.2.1 else w.2.2.2.2 j, _)
    rw [if_neg (by omega), if_neg (by omega)]
    rfl
  · rw [List.map_flatMap]
    rfl
  · rw [List.map_flatMap]
    rfl
theorem d_fst {A : Nat → Prop} {w1 w2 : va_W} (h : w1.map Prod.fst = w2.map Prod.fst) (hD : va_D A w1) : va_D A w2 := by
  have key : ∀ (k : Nat) (q : Nat × va_E), w2[k]? = some q → ∃ q', w1[k]? = some q' ∧ q'.1 = q.1 := fun k q hk => by
    have e : (w2.map Prod.fst)[k]? = some q.1 := by rw [List.getElem?_map, hk]; rfl
    rw [← h, List.getElem?_map] at e
    obtain ⟨q', h1, h2⟩ := Option.map_eq_some_iff.mp e
    exact ⟨q', h1, h2⟩
  refine ⟨fun i j x y hi hj e => ?_, fun k q hk => ?_⟩
  · obtain ⟨x', h1, h2⟩ := key i x hi
    obtain ⟨y', h3, h4⟩ := key j y hj
    exact hD.1 i j x' y' h1 h3 (by rw [h2, h4]; exact e)
  · obtain ⟨q', h1, h2⟩ := key k q hk
    rw [← h2]
    exact hD.2 k q' h1

def za_ (u : Nat × Nat × Nat × Nat × Nat × Nat × Nat × Nat × Nat × Nat × Nat × Nat × Nat × Nat × Nat × Nat × Nat × Nat × Nat × Nat × Nat × Nat × Nat × Nat × Nat × Nat × Nat × Nat) (o k : Nat) : Nat := match k with
  | 0 => u.1
  | 1 => u.2.1
  | 2 => u.2.2.1
  | 3 => u.2.2.2.1
  | 4 => u.2.2.2.2.1
  | 5 => u.2.2.2.2.2.1
  | 6 => u.2.2.2.2.2.2.1
  | 7 => u.2.2.2.2.2.2.2.1
  | 8 => u.2.2.2.2.2.2.2.2.1
  | 9 => u.2.2.2.2.2.2.2.2.2.1
  | 10 => u.2.2.2.2.2.2.2.2.2.2.1
  | 11 => u.2.2.2.2.2.2.2.2.2.2.2.1
  | 12 => u.2.2.2.2.2.2.2.2.2.2.2.2.1
  | 13 => u.2.2.2.2.2.2.2.2.2.2.2.2.2.1
  | 14 => u.2.2.2.2.2.2.2.2.2.2.2.2.2.2.1
  | 15 => u.2.2.2.2.2.2.2.2.2.2.2.2.2.2.2.1
  | 16 => u.2.2.2.2.2.2.2.2.2.2.2.2.2.2.2.2.1
  | 17 => u.2.2.2.2.2.2.2.2.2.2.2.2.2.2.2.2.2.1
  | 18 => u.2.2.2.2.2.2.2.2.2.2.2.2.2.2.2.2.2.2.1
  | 19 => u.2.2.2.2.2.2.2.2.2.2.2.2.2.2.2.2.2.2.2.1
  | 20 => u.2.2.2.2.2.2.2.2.2.2.2.2.2.2.2.2.2.2.2.2.1
  | 21 => u.2.2.2.2.2.2.2.2.2.2.2.2.2.2.2.2.2.2.2.2.2.1
  | 22 => u.2.2.2.2.2.2.2.2.2.2.2.2.2.2.2.2.2.2.2.2.2.2.1
  | 23 => u.2.2.2.2.2.2.2.2.2.2.2.2.2.2.2.2.2.2.2.2.2.2.2.1
  | 24 => u.2.2.2.2.2.2.2.2.2.2.2.2.2.2.2.2.2.2.2.2.2.2.2.2.1
  | 25 => u.2.2.2.2.2.2.2.2.2.2.2.2.2.2.2.2.2.2.2.2.2.2.2.2.2.1
  | 26 => u.2.2.2.2.2.2.2.2.2.2.2.2.2.2.2.2.2.2.2.2.2.2.2.2.2.2.1
  | 27 => u.2.2.2.2.2.2.2.2.2.2.2.2.2.2.2.2.2.2.2.2.2.2.2.2.2.2.2
  | _ => o
set_option maxRecDepth 100000 in
theorem zx_wh {ca : Nat → ClassId} {b q1 q2 zb o : Nat} {w : MA} {oa : Nat → OA} {ta : Nat → TA} {u : Nat × Nat × Nat × Nat × Nat × Nat × Nat × Nat × Nat × Nat × Nat × Nat × Nat × Nat × Nat × Nat × Nat × Nat × Nat × Nat × Nat × Nat × Nat × Nat × Nat × Nat × Nat × Nat} : CW_Z_init ca zb u ++ [(o, .inl (ca 5, 1, .inr (.inl (fun _ => 0))))] = IXZ.map (fun q => (ad_ b q1 q2 w oa ta zb (za_ u o) q.1 q.2, xc (ad_ b q1 q2 w oa ta zb (za_ u o)) ca (z0_, u0_) q.1 q.2)) := by
  rfl

theorem law_K {s : State} {args : Array Value} (htt : ∀ w ∈ lw_tbl, w.before args s = true) : ∃ (D : va_G) (ca : Nat → ClassId), va_K D CLS (TYH ca) s := by
  have hts : ∀ w ∈ ALL, w.before args s = true := fun w hw => htt w (all_in w hw)
  obtain ⟨c0, i0, k0⟩ := u_known (C := R_L) (T := T_L) (N := 8) hts in_L (hts _ a_38)
  obtain ⟨c1, i1, k1⟩ := u_known (C := R_M) (T := T_M) (N := 4) hts in_M (hts _ a_31)
  obtain ⟨c2, i2, k2⟩ := u_known (C := R_O) (T := T_O) (N := 8) hts in_O (hts _ a_99)
  obtain ⟨c3, i3, k3⟩ := u_known (C := R_R) (T := T_R) (N := 9) hts in_R (hts _ a_105)
  obtain ⟨c4, i4, k4⟩ := u_known (C := R_T) (T := T_T) (N := 4) hts in_T (hts _ a_184)
  obtain ⟨c5, i5, k5⟩ := u_known (C := R_H) (T := T_H) (N := 4) hts in_H (hts _ a_19)
  obtain ⟨c6, i6, k6⟩ := u_known (C := R_Z) (T := T_Z) (N := 32) hts in_Z (hts _ a_553)
  obtain ⟨aI, bI, pI, eI1, eI2, eI3⟩ := Cond.arrayClass_spec (hts _ a_147)
  obtain ⟨aZ, bZ, pZ, eZ1, eZ2, eZ3⟩ := Cond.arrayClass_spec (hts _ a_655)
  obtain ⟨aJ, bJ, pJ, eJ1, eJ2, eJ3⟩ := Cond.arrayClass_spec (hts _ a_827)
  obtain ⟨pO, aO, bO, fO1, -, fO2, fO3, fO4⟩ := Cond.arrayOver_spec (htt (.arrayOver (.object R_O)) (by decide +kernel))
  obtain ⟨pT, aT, bT, fT1, -, fT2, fT3, fT4⟩ := Cond.arrayOver_spec (htt (.arrayOver (.object R_T)) (by decide +kernel))
  obtain ⟨pL, aL, bL, fL1, -, fL2, fL3, fL4⟩ := Cond.arrayOver_spec (htt (.arrayOver (.object R_L)) (by decide +kernel))
  refine ⟨(fun c => match c with | 0 => c0 | 1 => c1 | 2 => c2 | 3 => c3 | 4 => c4 | 5 => c5 | _ => c6, fun c => match c with | 0 => i0 | 1 => i1 | 2 => i2 | 3 => i3 | 4 => i4 | 5 => i5 | _ => i6), fun k => match k with | 0 => aI | 1 => aO | 2 => aT | 3 => aL | 4 => aZ | _ => aJ, fun c q hq => ?_, fun k q hq => ?_⟩
  · have h7 : c < 7 := (List.getElem?_eq_some_iff.mp hq).1
    rcases (show c = 0 ∨ c = 1 ∨ c = 2 ∨ c = 3 ∨ c = 4 ∨ c = 5 ∨ c = 6 by omega) with rfl | rfl | rfl | rfl | rfl | rfl | rfl <;> cases hq
    · exact k0
    · exact k1
    · exact k2
    · exact k3
    · exact k4
    · exact k5
    · exact k6
  · have h7 : k < 6 := (List.getElem?_eq_some_iff.mp hq).1
    rcases (show k = 0 ∨ k = 1 ∨ k = 2 ∨ k = 3 ∨ k = 4 ∨ k = 5 by omega) with rfl | rfl | rfl | rfl | rfl | rfl <;> cases hq
    · exact ⟨fun n z => ⟨fun k h => (by cases h), bI, eI2, pI, eI3⟩, eI1⟩
    · exact ⟨fun n z => ⟨fun k h => (by cases h), bO, fO2, pO, fO3⟩, bO, pO, fO2, fO3, fO1, fO4⟩
    · exact ⟨fun n z => ⟨fun k h => (by cases h), bT, fT2, pT, fT3⟩, bT, pT, fT2, fT3, fT1, fT4⟩
    · exact ⟨fun n z => ⟨fun k h => (by cases h), bL, fL2, pL, fL3⟩, bL, pL, fL2, fL3, fL1, fL4⟩
    · exact ⟨fun n z => ⟨fun k h => (by cases h), bZ, eZ2, pZ, eZ3⟩, eZ1⟩
    · exact ⟨fun n z => ⟨fun k h => (by cases h), bJ, eJ2, pJ, eJ3⟩, eJ1⟩
theorem nl_in : ∀ w ∈ NL, w ∈ lw_tbl := by decide +kernel
theorem ao_in : ∀ C ∈ [R_L, R_O, R_T], Cond.arrayOver (.object C) ∈ lw_tbl := by decide +kernel
theorem law_N {s : State} {args : Array Value} (htt : ∀ w ∈ lw_tbl, w.before args s = true) : NWS s := ⟨fun w hw => va_Nw.of (nl_tab w hw) (htt w (nl_in w hw)), fun C hC => va_AO.of (htt _ (ao_in C hC))⟩
theorem ms_in : ∀ q ∈ MSGS, Cond.stringRef R_H q.1 q.2 ∈ lw_tbl := by decide +kernel
theorem fw_in : ∀ w ∈ FW, fw_ok w = true ∧ (w ∈ lw_tbl ∨ w = Cond.not (.castable (XN 2) (XN 1))) := by decide +kernel
theorem law_T {s : State} {args : Array Value} (htt : ∀ w ∈ lw_tbl, w.before args s = true) (hgv : (Jvm.Cond.and given_1 narrow_1).before args s = true) : TZ R_H MSGS FW (fun q => s.heap.size ≤ q) s := by
  have hs := flat_of_before _ hgv
  have hA : ∀ (a : Nat) (cell : Cell), s.heap[a]? = some cell → cell.vm.isStatics = true → ¬ s.heap.size ≤ a := fun a cell h _ => Nat.not_le.mpr (Array.getElem?_eq_some_iff.mp h).1
  refine ⟨zs.of (htt _ (by decide +kernel)) (hs _ (by decide +kernel)) hA, zs.of (htt _ (by decide +kernel)) (hs _ (by decide +kernel)) hA, fun q hq => ?_, fun w hw => ?_⟩
  · obtain ⟨cC, kC, hfc, -⟩ := Cond.instantiable_spec (htt (.instantiable R_H 4) (by decide +kernel))
    have h1 := htt _ (ms_in q hq)
    obtain ⟨_, _, _, a, _, _, _, _, _, h2⟩ := Cond.stringRef_spec hfc h1
    exact ⟨a, vk_R.of h1 h2⟩
  · obtain ⟨h1, h2⟩ := fw_in w hw
    refine ⟨h1, ?_⟩
    rcases h2 with h2 | h2
    · exact fw_go h1 (Vm.Alike.refl s.vm) (htt w h2)
    · subst h2
      exact fw_go h1 (Vm.Alike.refl s.vm) (hs (Cond.not (.castable (XN 2) (XN 1))) (by decide +kernel))
set_option maxHeartbeats 4000000 in
set_option maxRecDepth 100000 in
theorem law_start {p : Program} {e : Env} {s : State} {m : MethodId} {below : List Frame} {meth : Method} {c : Code} (l : Launch) (htr : l.stackTraces = false) {b L : Nat} {xs : Nat → Int32} (hL : L ≤ 2560) (C0 : lw_At p s m meth c b L xs) (hF : Fl_Y_law_23 L xs 600 u0_ z0_ 0 = some 1) : W p l e room_1 s m #[Value.ref b] below meth c s.heap [] 0 0 (lw_Z below #[Value.ref b] s) (entryFrame m ([Value.ref b] : List Value).toArray 7) := by
  obtain ⟨hx, hb, hr, hml, hown, htt, hX, hbl, hlocks, hgv⟩ := C0
  have hts : ∀ w ∈ ALL, w.before #[Value.ref b] s = true := fun w hw => htt w (all_in w hw)
  obtain ⟨D, ca, hK⟩ := law_K htt
  have hN := law_N htt
  have hTZ := law_T htt hgv
  have hA : ∀ q : Nat, s.heap.size ≤ q → (fun q => s.heap.size ≤ q) q := fun _ h => h
  have hb : c.code = b_Y_law := hb
  have hown : s.vm.findClass R_Y = some m.cls := hown
  have hl := lv_entry ([.ref b]) (n := 7) (Nat.le_of_ble_eq_true rfl)
  rw [lg_entry_eq]
  generalize (lg_sl ([.ref b]) ++ List.replicate (7 - (lg_sl ([.ref b])).length) Slot.unset).toArray = ls at hl ⊢
  have hl : lv_has ls 7 [(0, .ref b)] := hl
  have hP : va_P D CLS [] s.heap := fun k q hk => by simp at hk
  have hD : va_D (fun q => s.heap.size ≤ q) ([] : va_W) := ⟨fun i j x y hi => by simp at hi, fun k q hk => by simp at hk⟩
  have hS : va_S (fun q => s.heap.size ≤ q) s.heap s.heap [] := va_S.rf
  refine va_new (ci := 5) (fs := [.null, .null, .null, .int 0]) (C := R_H) (T := T_H) (N := 4) hx hb hts in_H ft_H ft_H_ok hown (hts _ a_18) (hts _ a_19) (hts _ a_1) hK hP hD hS hA rfl (by decide +kernel) (Nat.le_of_ble_eq_true rfl) (Nat.le_of_ble_eq_true rfl) d_Y_law_0 (fun xa H hP hD hS => ?_)
  refine lv_dup hx hb d_Y_law_3 rfl ?_
  refine k_ctor (w0 := []) [] [.ref xa] ⟨hx, hb, hml, hown, hts⟩ (c_H_init l D ca xa H.size) (w_H_init hts a_20 ⟨Nat.le_of_ble_eq_true rfl, Nat.le_of_ble_eq_true rfl⟩) hP hD hA hS hK hN rfl rfl hl.1 (Nat.le_of_ble_eq_true rfl) ⟨Nat.le_of_ble_eq_true rfl, Nat.le_of_ble_eq_true rfl⟩ d_Y_law_4 (fun uh H locs _ hP hD hS => ?_)
  obtain ⟨q1, q2, w, oa, ta⟩ := uh
  have hP : va_P D CLS (HW ca xa q1 q2 w oa 27 ta 40) H := hP
  have hD : va_D (fun q => s.heap.size ≤ q) (HW ca xa q1 q2 w oa 27 ta 40) := hD
  refine lv_astore_n (lv' := [(1, .ref xa), (0, .ref b)]) hx hb d_Y_law_7 rfl hl (by decide) rfl (fun ls hl => ?_)
  refine va_new (ci := 6) (fs := [.int 0, .int 0, .null, .null, .null, .null, .null, .null, .null, .null, .null, .null, .null, .null, .null, .null, .null, .null, .null, .null, .null, .null, .int 0, .null, .null, .null, .null, .null, .null, .null, .null, .int 0]) (C := R_Z) (T := T_Z) (N := 32) hx hb hts in_Z ft_Z ft_Z_ok hown (hts _ a_552) (hts _ a_553) (hts _ a_8) hK hP hD hS hA rfl (by decide +kernel) (Nat.le_of_ble_eq_true rfl) (Nat.le_of_ble_eq_true rfl) d_Y_law_8 (fun ma H hP hD hS => ?_)
  refine lv_dup hx hb d_Y_law_11 rfl ?_
  refine k_ctor (w0 := HW ca xa q1 q2 w oa 27 ta 40) [] [.ref ma] ⟨hx, hb, hml, hown, hts⟩ (c_Z_init l D ca ma H.size) (w_Z_init hts a_554 ⟨Nat.le_of_ble_eq_true rfl, Nat.le_of_ble_eq_true rfl⟩) hP hD hA hS hK hN rfl rfl hl.1 (Nat.le_of_ble_eq_true rfl) ⟨Nat.le_of_ble_eq_true rfl, Nat.le_of_ble_eq_true rfl⟩ d_Y_law_12 (fun uz H locs _ hP hD hS => ?_)
  refine lv_astore_n (lv' := [(2, .ref ma), (1, .ref xa), (0, .ref b)]) hx hb d_Y_law_15 rfl hl (by decide) rfl (fun ls hl => ?_)
  refine lv_iconst (v := 1) hx hb d_Y_law_16 (by decide) ?_
  refine va_newa (atype := .long) (N' := 1) (a0 := (1, .inr (.inl (fun _ => 0)))) (ty := .long) hx hb (hts _ a_827) rfl hK hP hD hS hA (fun _ => rfl) (by decide) rfl (by decide) (Nat.le_of_ble_eq_true rfl) (Nat.le_of_ble_eq_true rfl) d_Y_law_17 (fun oo cA H hK9 hP hD hS => ?_)
  obtain rfl := ca_long hK9
  refine lv_astore_n (lv' := [(3, .ref oo), (2, .ref ma), (1, .ref xa), (0, .ref b)]) hx hb d_Y_law_19 rfl hl (by decide) rfl (fun ls hl => ?_)
  refine lv_iconst (v := 0) hx hb d_Y_law_20 (by decide) ?_
  refine lv_istore (lv' := [(4, .int 0), (3, .ref oo), (2, .ref ma), (1, .ref xa), (0, .ref b)]) hx hb d_Y_law_21 hl (by decide) rfl (fun ls hl => ?_)
  rw [List.append_assoc] at hP hD
  have hP2 : va_P D CLS (HX ca xa q1 q2 w oa ta ++ (CW_Z_init ca ma uz ++ [(oo, .inl (ca 5, 1, .inr (.inl (fun _ => 0))))])) H := va_P.app (hx_of (fun k q hk => hP k q (by rw [List.getElem?_append_left (List.getElem?_eq_some_iff.mp hk).1]; exact hk))) (vp_all fun q hq => vp_mem hP (List.mem_append_right _ hq))
  have hD2 : va_D (fun q => s.heap.size ≤ q) (HX ca xa q1 q2 w oa ta ++ (CW_Z_init ca ma uz ++ [(oo, .inl (ca 5, 1, .inr (.inl (fun _ => 0))))])) := d_fst (by simp only [List.map_append, hx_fst]) hD
  have e1 : HX ca xa q1 q2 w oa ta ++ (CW_Z_init ca ma uz ++ [(oo, .inl (ca 5, 1, .inr (.inl (fun _ => 0))))]) = wh (ad_ xa q1 q2 w oa ta ma (za_ uz oo)) ca z0_ u0_ := by
    rw [hx_wh (zb := ma) (za := za_ uz oo), zx_wh (b := xa) (q1 := q1) (q2 := q2) (w := w) (oa := oa) (ta := ta)]
    show _ = List.map _ (IXX ++ IXZ)
    rw [List.map_append]
  rw [e1] at hP2 hD2
  have hAA : ∀ q, AH (ad_ xa q1 q2 w oa ta ma (za_ uz oo)) q → s.heap.size ≤ q := by
    rintro q ⟨x, hx1, rfl⟩
    obtain ⟨n, hn⟩ := wx_get (ad := ad_ xa q1 q2 w oa ta ma (za_ uz oo)) (xc := xc (ad_ xa q1 q2 w oa ta ma (za_ uz oo)) ca) (u := (z0_, u0_)) (k := x.1) (i := x.2) hx1
    exact hD2.2 n _ hn
  have hD0 : ∀ z u, va_D (AH (ad_ xa q1 q2 w oa ta ma (za_ uz oo))) (wh (ad_ xa q1 q2 w oa ta ma (za_ uz oo)) ca z u) := fun z u => ⟨(wx_D hD2).1, fun k q hk => by obtain ⟨x, hx1, rfl⟩ := wx_at hk; exact ⟨x, List.mem_of_getElem? hx1, rfl⟩⟩
  have hend : ∀ (H : Heap) (locs : List Loc) (cells slots : Nat) (ls : Array Slot) (pc : Nat), va_S (fun q => s.heap.size ≤ q) s.heap H locs → cells ≤ room_1.cells → slots ≤ room_1.slots → decode b_Y_law pc = .ok (.ireturn, 1) → W p l e room_1 s m #[Value.ref b] below meth c H locs cells slots (lw_Z below #[Value.ref b] s) (F0 m pc ls [.int 1]) := fun H locs cells slots ls pc hS h1 h2 hd => va_forget (fun q hq => hS.2.2 q hq) (k_wide (k := 601024) (n := 7293034) h1 h2 (lw_ret hx hb hr hlocks hd))
  exact lp_Y_law_23 (ad := ad_ xa q1 q2 w oa ta ma (za_ uz oo)) (A := fun q => s.heap.size ≤ q) htr (Nat.le_of_ble_eq_true rfl) (Nat.le_of_ble_eq_true rfl) hx hb hr hts hown hlocks hml hK hD0 hAA hTZ hX hbl (Nat.not_le.mpr hbl) hend 600 u0_ z0_ 0 _ _ hF (Nat.le_of_ble_eq_true rfl) (Nat.le_of_ble_eq_true rfl) _ _ _ hP2 hS (lv_sub hl [4, 3, 2, 1, 0] rfl)
