def ThrQ (X : String) : Array Value → State → Outcome → State → Prop := fun _ st o t => ∃ (x : Nat) (ce : Cell), o = .threw x ∧ t.heap[x]? = some ce ∧ ce.vm = .none ∧ st.vm.findClass X = some ce.cls ∧ st.WarmedH t.vm ∧ st.sameButNew ({ t with vm := st.vm } : State) [] 1 6
def MT (below : List Frame) (X : String) (a : Array Value) (s : State) : State → Prop := fun t => ∃ o, t.status = .running ∧ Ended t below o ∧ ThrQ X a s o t
def MetT (l : Launch) (y : MethodName) (ws : List Cond) (rm : Room) (Pc : Array Value → State → Prop) (X : String) : Prop := MetFree l y (headSpec ws rm) Pc (fun _ _ _ _ _ => True) (ThrQ X)
def Q2 (k0 : Nat) (QA : State → Prop) (E : Prop) (QT : State → Prop) : State → Prop := fun t => (k0 = 0 → QA t) ∧ (k0 ≠ 0 → E ∧ QT t)
def XN (k : Nat) : String := match k with
  | 1 => "java/lang/IllegalArgumentException"
  | 2 => "java/lang/IllegalStateException"
  | _ => "java/lang/IndexOutOfBoundsException"
def UP : List String := ["java/lang/RuntimeException", "java/lang/Exception"]
def zs (C n d : String) (A : Nat → Prop) (U : State) : Prop := ∃ (c : ClassId) (k : Class) (i : Nat) (f : Field) (a : Nat) (cell : Cell) (v : Value), U.vm.findClass C = some c ∧ U.fieldFound? C n d = some (c, k, i, f) ∧ f.isStatic = true ∧ k.statics = some a ∧ U.heap[a]? = some cell ∧ cell.vm.isStatics = true ∧ cell.cls = c ∧ f.slot < cell.slots.size ∧ k.staticTypes[f.slot]? = some f.type ∧ cell.slots[f.slot]? = some v ∧ v.isRef = true ∧ ¬ A a
theorem zs.go {C n d : String} {A : Nat → Prop} {s U : State} (h : zs C n d A s) (hal : s.vm.Alike U.vm) (hq : ∀ a : Nat, a < s.heap.size → ¬ A a → U.heap[a]? = s.heap[a]?) : zs C n d A U := by
  obtain ⟨c, k, i, f, a, cell, v, h1, h2, h3, h4, h5, h6, h7, h8, h9, h10, h11, h12⟩ := h
  obtain ⟨k', hi', hek⟩ := State.fieldFound?_setVm hal h2
  exact ⟨c, k', i, f, a, cell, v, by rw [hal.findClass]; exact h1, hi', h3, by rw [hek]; exact h4, by rw [hq a (Array.getElem?_eq_some_iff.mp h5).1 h12]; exact h5, h6, h7, h8, by rw [hek]; exact h9, h10, h11, h12⟩
theorem zs.narrow {C n d : String} {A B : Nat → Prop} {U : State} (h : zs C n d A U) (hAB : ∀ q, B q → A q) : zs C n d B U := by
  obtain ⟨c, k, i, f, a, cell, v, h1, h2, h3, h4, h5, h6, h7, h8, h9, h10, h11, h12⟩ := h
  exact ⟨c, k, i, f, a, cell, v, h1, h2, h3, h4, h5, h6, h7, h8, h9, h10, h11, fun z => h12 (hAB a z)⟩
theorem zs.of {args : Array Value} {C n d : String} {A : Nat → Prop} {s : State} (hl : (Cond.laysStatic C n d).before args s = true) (h : (Cond.isRef (.static C n d)).before args s = true) (hA : ∀ a cell, s.heap[a]? = some cell → cell.vm.isStatics = true → ¬ A a) : zs C n d A s := by
  obtain ⟨c, k, i, f, a, cell, hc, hi, hst, ha, hcell, hs, hcls, hlt, hty⟩ := Cond.laysStatic_spec hl
  cases hv : (Term.static C n d).eval args s none [] s with
  | none => simp [Cond.before, Cond.holds, Cond.value, hv] at h
  | some w =>
    obtain ⟨hst', a', cell', ha', hcell', -, hslot⟩ := Term.static_spec hi hv
    cases ha.symm.trans ha'
    cases hcell.symm.trans hcell'
    refine ⟨c, k, i, f, a, cell, w, hc, hi, hst, ha, hcell, hs, hcls, hlt, hty, hslot, ?_, hA a cell hcell hs⟩
    simp only [Cond.before, Cond.holds, Cond.value, hv] at h
    cases w <;> first | rfl | simp at h
theorem zs.ls {C n d : String} {A : Nat → Prop} {args : Array Value} {U : State} (h : zs C n d A U) : (Cond.laysStatic C n d).before args U = true := by
  obtain ⟨c, k, i, f, a, cell, v, h1, h2, h3, h4, h5, h6, h7, h8, h9, h10, h11, h12⟩ := h
  exact Cond.laysStatic_of h1 h2 h3 h4 h5 h6 h7 h8 h9
theorem zs.ir {C n d : String} {A : Nat → Prop} {args : Array Value} {U : State} (h : zs C n d A U) : (Cond.isRef (.static C n d)).before args U = true := by
  obtain ⟨c, k, i, f, a, cell, v, h1, h2, h3, h4, h5, h6, h7, h8, h9, h10, h11, h12⟩ := h
  cases v with
  | null => simp [Cond.before, Cond.holds, Cond.value, Term.eval, State.fieldNamed?, h2, h3, h4, h5, h6, h10]
  | ref a => simp [Cond.before, Cond.holds, Cond.value, Term.eval, State.fieldNamed?, h2, h3, h4, h5, h6, h10]
  | _ => exact absurd h11 (by simp [Value.isRef])
def fw_ok : Cond → Bool
  | .castable _ _ => true
  | .declares _ => true
  | .not (.castable _ _) => true
  | _ => false
theorem fw_go {w : Cond} {s U : State} {A B : Array Value} (hw : fw_ok w = true) (hal : s.vm.Alike U.vm) (h : w.before A s = true) : w.before B U = true := by
  match w, hw with
  | .castable a b, _ =>
    have h1 : (Cond.castable a b).before A (s.setVm U.vm) = true := by rw [Cond.castable_setVm hal]; exact h
    exact h1
  | .declares x, _ =>
    have h1 : (Cond.declares x).before A (s.setVm U.vm) = true := by rw [Cond.declares_setVm hal]; exact h
    exact h1
  | .not (.castable a b), _ =>
    have h1 : (Cond.not (.castable a b)).before A (s.setVm U.vm) = true := Cond.castAtom_setVm hal _ rfl h
    exact h1
def TZ (own : String) (ms : List (Nat × String)) (fw : List Cond) (A : Nat → Prop) (U : State) : Prop := zs Bundle.tN "UNASSIGNED_STACK" Bundle.steD A U ∧ zs Bundle.tN "SUPPRESSED_SENTINEL" Bundle.listD A U ∧ (∀ q ∈ ms, ∃ a, vk_R own q.1 q.2 a U) ∧ ∀ w ∈ fw, fw_ok w = true ∧ w.before #[] U = true
theorem TZ.go {own : String} {ms : List (Nat × String)} {fw : List Cond} {A : Nat → Prop} {s U : State} (h : TZ own ms fw A s) (hW : s.WarmedH U.vm) (hq : ∀ a : Nat, a < s.heap.size → ¬ A a → U.heap[a]? = s.heap[a]?) : TZ own ms fw A U :=
  ⟨h.1.go hW.alike hq, h.2.1.go hW.alike hq, fun q hm => (h.2.2.1 q hm).elim fun a ha => ⟨a, ha.warm hW⟩, fun w hw => ⟨(h.2.2.2 w hw).1, fw_go (h.2.2.2 w hw).1 hW.alike (h.2.2.2 w hw).2⟩⟩
theorem TZ.narrow {own : String} {ms : List (Nat × String)} {fw : List Cond} {A B : Nat → Prop} {U : State} (h : TZ own ms fw A U) (hAB : ∀ q, B q → A q) : TZ own ms fw B U := ⟨h.1.narrow hAB, h.2.1.narrow hAB, h.2.2⟩
theorem TZ.calling {own : String} {ms : List (Nat × String)} {fw : List Cond} {A : Nat → Prop} {U : State} {g : JFrame} {mk : MethodId} {a : Array Value} (h : TZ own ms fw A U) : TZ own ms fw A (U.calling g mk a) :=
  ⟨h.1.go (Vm.Alike.refl U.vm) (fun _ _ _ => rfl), h.2.1.go (Vm.Alike.refl U.vm) (fun _ _ _ => rfl), fun q hm => (h.2.2.1 q hm).elim fun x hx => ⟨x, hx.same rfl⟩, fun w hw => ⟨(h.2.2.2 w hw).1, fw_go (h.2.2.2 w hw).1 (Vm.Alike.refl U.vm) (h.2.2.2 w hw).2⟩⟩
theorem TZ.fwd {own : String} {ms : List (Nat × String)} {fw : List Cond} {A : Nat → Prop} {U : State} {B : Array Value} {w : Cond} (h : TZ own ms fw A U) (hw : w ∈ fw) : w.before B U = true := fw_go (h.2.2.2 w hw).1 (Vm.Alike.refl U.vm) (h.2.2.2 w hw).2
theorem bl_handlers {p : Program} {l : Launch} {x : MethodName} {S : Spec} {code : ByteArray} {maxLocals : Nat} {ret : Option FieldType} {e : Env} {s : State} {m : MethodId} {args : Array Value} {below : List Frame} {meth : Method} {c : Code} {s₁ : State} {hh : List (Nat × Nat × Nat × Nat)} (B : BodyLoose p l x S code maxLocals ret e s m args below meth c s₁) (h : (Cond.codeWith x code maxLocals ret hh).before args s = true) : c.exceptionTable.toList.map (fun h => (h.startPc, h.endPc, h.handlerPc, h.catchType)) = hh := by
  obtain ⟨m', meth', c', hn', hm', hc', -, -, he', -⟩ := Cond.codeWith_spec h
  cases B.named.symm.trans hn'
  cases B.method.symm.trans hm'
  cases (Stand.of_body B).code.symm.trans hc'
  exact he'
theorem wt_blind {D : va_G} {cl : List vw_C} {tys : List (ClassId × FieldType)} {vs : List Value} {ws : va_W} {own : String} {ms : List (Nat × String)} {fw : List Cond} {A : Nat → Prop} : FrameBlind (va_Pc vs (fun U => va_P D cl ws U.heap ∧ va_K D cl tys U ∧ TZ own ms fw A U)) := fun a U g mk q => by
  obtain ⟨q0, qP, qK, qT⟩ := q
  exact ⟨q0, qP, va_K.moved (u := U) (U := U.calling g mk a) (Vm.Alike.refl U.vm) qK, qT.calling⟩
section KTHROW
variable {p : Program} {l : Launch} {e : Env} {R : Room} {s : State} {m : MethodId} {args : Array Value} {below : List Frame} {meth : Method} {c : Code} {H : Heap} {locs : List Loc} {cells slots : Nat} {Q Q' : State → Prop} {cc : ByteArray} {pc : Nat} {ls : Array Slot}
theorem k_mono {g : JFrame} (h : ∀ t, Q t → Q' t) (k : W p l e R s m args below meth c H locs cells slots Q g) : W p l e R s m args below meth c H locs cells slots Q' g := fun T hT X => by
  obtain ⟨t, a, b⟩ := k T hT X
  exact ⟨t, a, h t b⟩
theorem k_wide {g : JFrame} {k n : Nat} (h1 : cells ≤ k) (h2 : slots ≤ n) (kk : W p l e R s m args below meth c H locs k n Q g) : W p l e R s m args below meth c H locs cells slots Q g := fun T hT X => kk T hT (stand_widen X h1 h2)
theorem MetT.ofW {y : MethodName} {ws ws' : List Cond} {rm : Room} {Pc : Array Value → State → Prop} {X : String} {maxL : Nat} {ret : Option FieldType}
    (hy : plainName y.cls = true) (hw : ws = Cond.code y cc maxL ret :: ws')
    (body : ∀ p e s m args below meth c s₁, BodyLoose p l y (headSpec ws rm) cc maxL ret e s m args below meth c s₁ → c.maxLocals = maxL → Pc args s →
      W p l e (headSpec ws rm).room s m args below meth c s.heap [] 0 0 (MT below X args s) (entryFrame m args maxL)) : MetT l y ws rm Pc X := by
  refine MetFree.of_bodyS (code := cc) (maxLocals := maxL) (ret := ret) hy ?_ ?_
  · intro args s m h hn
    obtain ⟨meth, c, h1, h2, h3, h4, h5, h6, -, -⟩ := Cond.code_spec hn (atoms_spec (ws := ws) h _ (by rw [hw]; exact List.mem_cons_self))
    exact ⟨meth, c, h1, h2, h3, h4, h5, h6⟩
  · intro p e s m args below meth c s₁ B hml hP _
    have hh0 : s₁.heap = s.heap := by rw [B.state]; rfl
    obtain ⟨t, a1, o, b1, b2, b3⟩ := body p e s m args below meth c s₁ B hml hP s₁ hh0 (Stand.of_body B)
    exact ⟨t, o, a1, b1, b2, b3⟩
theorem k_throw {own cls tx : String} {names : List String} {i0 ik ic q nL : Nat} (hx : p.tables.exec = Jvm.exec) (hb : c.code = cc) (htr : l.stackTraces = false) (hne : c.exceptionTable.isEmpty = true) (hlocks : meth.locks = false) (hml : c.maxLocals = nL) (hsz : ls.size = nL)
    (hown : s.vm.findClass own = some m.cls) (hcls : Bundle.fit cls = true) (hnames : ∀ n ∈ names, Bundle.fit n = true) (hclink : (Cond.classLink own i0 cls).before args s = true) (hins : (Cond.instantiable cls 6).before args s = true) (hinit : (Cond.initialized cls).before args s = true)
    (hat : ∀ a ∈ Bundle.ownAtoms own ic cls names, a.before args s = true) (hm : vk_R own ik tx q s) (hRf : names.length + 3 < R.frames) (hRl : 13 * (names.length + 1) + 50 ≤ R.locals) (hRc : 1 ≤ R.cells ∧ 6 ≤ R.slots) (hH : H = s.heap)
    (d0 : decode cc pc = .ok (.new i0, 3)) (d3 : decode cc (pc + 3) = .ok (.dup, 1)) (d4 : decode cc (pc + 4) = .ok (.ldc ik, 2)) (d6 : decode cc (pc + 6) = .ok (.invokespecial ic, 3)) (d9 : decode cc (pc + 9) = .ok (.athrow, 1)) :
    W p l e R s m args below meth c H [] 0 0 (MT below cls args s) (F0 m pc ls []) := by
  refine W.newc hx hb hown hclink hins hinit rfl d0 (by omega) (by omega) (fun cC kC h1 h2 h3 h4 => ?_)
  show W p l e R s m args below meth c _ [] 1 6 (MT below cls args s) (F0 m (pc + 3) ls [.ref H.size])
  refine lv_dup hx hb d3 rfl ?_
  refine va_ldcS hx hb hown hm d4 ?_
  intro T hT X
  have htr' : e.platform.stackTraces = false := by rw [X.admits.platform]; exact htr
  have hcell : T.heap[H.size]? = some (freshCell cC kC) := by rw [hT]; exact Array.getElem?_push_size
  obtain ⟨U, hsteps, hrun, hend, hW, hsame, ce, hce, K⟩ := X.ctorThrowS hx htr' (own := own) (cls := cls) (names := names) (ic := ic) hown hcls hnames hat (fun x hx => by cases hx) h1 h2 hcell (by rw [hH]; exact Nat.le_refl _) (msg := .ref q) rfl
    (g := F0 m (pc + 6) ls [.ref q, .ref H.size, .ref H.size]) rfl (hsz.trans hml.symm) rfl rfl (rest := []) rfl (by rw [hb]; exact d6) (by rw [hb]; exact d9) (covers_of_empty hne _) hRf (by show 2 * 0 + (1 + 0) + _ ≤ _; omega) hlocks
  exact ⟨U, hsteps, _, hrun, hend, _, ce, rfl, hce, K.vm, K.cls, hW, hsame⟩
end KTHROW
theorem same_nil {s t : State} {k n : Nat} (h : s.sameButNew t [] k n) : s.heap.size ≤ t.heap.size ∧ ∀ (q : Nat), q < s.heap.size → t.heap[q]? = s.heap[q]? := by
  obtain ⟨-, h1, -, -, -, h2⟩ := h
  refine ⟨h1, fun q hq => ?_⟩
  have hc : s.heap[q]? = some s.heap[q] := Array.getElem?_eq_getElem hq
  obtain ⟨c', e1, e2, e3, e4⟩ := h2 q _ hc
  rw [e1, hc, e2]
  have e5 : c'.slots = s.heap[q].slots := Array.ext_getElem? fun i => e4 i List.not_mem_nil
  rw [e5]
section KCATCH
variable {p : Program} {l : Launch} {e : Env} {R : Room} {s : State} {m : MethodId} {args : Array Value} {below : List Frame} {meth : Method} {c : Code} {H : Heap} {locs : List Loc} {cells slots : Nat} {Q : State → Prop} {cc bytes : ByteArray} {pc nL maxL n index : Nat} {ls : Array Slot} {y : MethodName} {ret : Option FieldType} {ws Ts : List Cond} {rm : Room} {own C X : String} {st0 : List Value} {Pc : Array Value → State → Prop}
theorem fg_1 {S : State} {f : JFrame} {v : Nat} {x : ExceptionTableEntry} {t : List ExceptionTableEntry} {cN : ClassId} {ce : Cell} (hx : covers x f.pc = true) (h0 : x.catchType ≠ 0) (hl : S.vm.ClassLinks e.platform f.method.cls x.catchType cN) (hce : S.heap[v]? = some ce) (hst : ce.vm = .none) (hk : ∃ k, S.vm.classes[ce.cls]? = some k) {Z : Handler → (Bool → List Action → State → Prop)} {E : (Control → List Action → State → Prop)} {d : Bool} {acts : List Action} :
    Sem.wp (findHandler.go f v (x :: t)) Z E e d acts S ↔ if S.vm.assignable ce.cls cN = true then Z (.found x.handlerPc) d acts (S.setVm (S.vm.noted f.method.cls x.catchType (.cls cN))) else Sem.wp (findHandler.go f v t) Z E e d acts (S.setVm (S.vm.noted f.method.cls x.catchType (.cls cN))) := by
  have hal : S.vm.Alike (S.vm.noted f.method.cls x.catchType (.cls cN)) := (Vm.Alike.refl S.vm).noted _ _ _
  obtain ⟨k1, hk1⟩ := hk
  obtain ⟨_, _, _, k2, _, _, _, _, _, hk2, _⟩ := hl.here
  obtain ⟨j1, hj1, -⟩ := hal.2.2 _ _ hk1
  obtain ⟨j2, hj2, -⟩ := hal.2.2 _ _ hk2
  obtain ⟨r1, r2⟩ := (resolveClass_links e.toSetting hl).op (op := VmOp.resolveClass f.method.cls x.catchType) rfl
  have hob : ∀ k, ce.vm ≠ .statics k := fun k h => by rw [hst] at h; cases h
  simp only [covers] at hx
  cases hf : S.vm.assignable ce.cls cN with
  | false =>
    have hf2 : (S.vm.noted f.method.cls x.catchType (.cls cN)).assignable ce.cls cN = false := by rw [hal.assignable]; exact hf
    simp [findHandler.go, hx, h0, r1, r2, hce, hob, hj1, hj2, hf2, VmOp.dirties, VmOp.acts]
  | true =>
    have hf2 : (S.vm.noted f.method.cls x.catchType (.cls cN)).assignable ce.cls cN = true := by rw [hal.assignable]; exact hf
    simp [findHandler.go, hx, h0, r1, r2, hce, hob, hj1, hj2, hf2, VmOp.dirties, VmOp.acts]
theorem fg_l {f : JFrame} {v : Nat} {ce : Cell} (hpl : e.platform.magicAccessors = ({} : Platform).magicAccessors) (hown : s.vm.findClass own = some f.method.cls) (hst : ce.vm = .none) (hX : s.vm.findClass X = some ce.cls) {x : ExceptionTableEntry} {rs : List ExceptionTableEntry} (hx : covers x f.pc = true) (hx0 : x.catchType ≠ 0) (hlk : (Cond.classLink own x.catchType X).before args s = true) (hcast : (Cond.castable X X).before args s = true) :
    ∀ (pre : List ExceptionTableEntry) (S : State), s.WarmedH S.vm → S.heap[v]? = some ce → (∀ y ∈ pre, y.catchType ≠ 0 ∧ ∃ nm, (Cond.classLink own y.catchType nm).before args s = true ∧ (Cond.not (.castable X nm)).before args s = true) →
      ∃ V, s.WarmedH V ∧ ∀ (Z : Handler → (Bool → List Action → State → Prop)) (E : (Control → List Action → State → Prop)) (d : Bool) (acts : List Action), Sem.wp (findHandler.go f v (pre ++ x :: rs)) Z E e d acts S ↔ Z (.found x.handlerPc) d acts (S.setVm V) := by
  have hkX := Vm.classAt_of_findClass hX
  have hcls : ∀ {S : State}, s.WarmedH S.vm → ∃ k, S.vm.classes[ce.cls]? = some k := fun hW => by
    obtain ⟨k, hk⟩ := hkX
    obtain ⟨j, hj, -⟩ := hW.alike.2.2 _ _ hk
    exact ⟨j, hj⟩
  have hnt : ∀ {S : State} {j : Nat} {cN : ClassId}, s.WarmedH S.vm → s.vm.ClassLinks e.platform f.method.cls j cN → s.WarmedH (S.vm.noted f.method.cls j (.cls cN)) := fun hW hl => by
    obtain ⟨_, _, _, _, hd, _, _, _, _, _, _, ho⟩ := hl.here
    exact hW.noted hd ho (State.rightAt_cls hl)
  intro pre
  induction pre with
  | nil =>
    intro S hW hce _
    obtain ⟨cN, hc, hl⟩ := Cond.classLink_spec hown hlk e.platform hpl
    obtain ⟨c1, c2, w1, w2, hasg⟩ := Cond.castable_spec hcast
    cases hX.symm.trans w1
    cases w2.symm.trans hc
    refine ⟨_, hnt hW hl, fun Z E d acts => ?_⟩
    rw [List.nil_append, fg_1 hx hx0 (hW.classLinks hl) hce hst (hcls hW), if_pos (by rw [hW.alike.assignable]; exact hasg)]
  | cons y ys ih =>
    intro S hW hce hp
    obtain ⟨p1, nm, p2, p3⟩ := hp y List.mem_cons_self
    have hp' := fun z hz => hp z (List.mem_cons_of_mem _ hz)
    cases hcv : covers y f.pc with
    | false =>
      obtain ⟨V, hV, hZ⟩ := ih S hW hce hp'
      exact ⟨V, hV, fun Z E d acts => (W.findHandler_go_skip hcv).trans (hZ Z E d acts)⟩
    | true =>
      obtain ⟨cN, hc, hl⟩ := Cond.classLink_spec hown p2 e.platform hpl
      have hno := Cond.holds_not_iff.mp p3
      simp only [Cond.value, hX, hc] at hno
      obtain ⟨V, hV, hZ⟩ := ih (S.setVm (S.vm.noted f.method.cls y.catchType (.cls cN))) (hnt hW hl) hce hp'
      refine ⟨V, hV, fun Z E d acts => ?_⟩
      rw [List.cons_append, fg_1 hcv p1 (hW.classLinks hl) hce hst (hcls hW), if_neg (by rw [hW.alike.assignable, Option.some.inj hno]; decide)]
      exact hZ Z E d acts
theorem th_ct {U : State} {k n : Nat} (XB : Stand p l e R s m args below meth c U locs k n) {g : JFrame} (hg : g.method = m) {v : Nat} {ce : Cell} (hce : U.heap[v]? = some ce) (hst : ce.vm = .none) (hX : s.vm.findClass X = some ce.cls) (hown : s.vm.findClass own = some m.cls)
    {pre rs : List ExceptionTableEntry} {x : ExceptionTableEntry} (hsp : c.exceptionTable.toList = pre ++ x :: rs) (hpass : ∀ y ∈ pre, y.catchType ≠ 0 ∧ ∃ nm, (Cond.classLink own y.catchType nm).before args s = true ∧ (Cond.not (.castable X nm)).before args s = true) (hx : covers x g.pc = true) (hx0 : x.catchType ≠ 0) (hlk : (Cond.classLink own x.catchType X).before args s = true) (hcast : (Cond.castable X X).before args s = true) :
    ∃ V, Stand p l e R s m args below meth c (U.setVm V) locs k n ∧ Steps p.tables e below ((U.setTop g).pushFrame (.throwing v)) ((U.setVm V).setTop { g with pc := x.handlerPc, stack := [.ref v] }) := by
  subst hg
  have hpl : e.platform.magicAccessors = ({} : Platform).magicAccessors := by rw [XB.admits.platform]
  have hA := XB.here
  obtain ⟨V, hV, hZ⟩ := fg_l (rs := rs) hpl hown hst hX hx hx0 hlk hcast pre ((U.setTop g).pushFrame (.throwing v)) XB.warmed hce hpass
  obtain ⟨hgo, hin⟩ := hA.throwing v
  refine ⟨V, XB.noted hV, Steps.head hgo hin ?_⟩
  obtain ⟨g0, hg0⟩ := Option.isSome_iff_exists.mp hA.top
  obtain ⟨r, hr⟩ := State.topJava?_eq_some.mp hg0
  have hone : (stepThrowing e ((U.setTop g).pushFrame (.throwing v)) v (.java g :: r)).1 = (U.setVm V).setTop { g with pc := x.handlerPc, stack := [.ref v] } := by
    have hr2 : (U.setVm V).frames = .java g0 :: r := hr
    rw [State.setTop_of_frames _ hr2]
    simp only [stepThrowing, searchFrame, vmDo]
    generalize hq : Sem.go _ e false [] ((U.setTop g).pushFrame (.throwing v)) = res
    obtain ⟨as, rfl, -⟩ := Sem.eq_ok_of hq (a := Handler.found x.handlerPc) (s' := ((U.setTop g).pushFrame (.throwing v)).setVm V) (acts' := []) (by
      have h2 : ∀ (Z : Handler → (Bool → List Action → State → Prop)) (E : (Control → List Action → State → Prop)) (d : Bool) (acts : List Action), Sem.wp (findHandler g v) Z E e d acts ((U.setTop g).pushFrame (.throwing v)) ↔ Z (.found x.handlerPc) d acts (((U.setTop g).pushFrame (.throwing v)).setVm V) := fun Z E d acts => by rw [W.findHandler_eq (s := (U.setTop g).pushFrame (.throwing v)) XB.method' XB.code, hsp]; exact hZ Z E d acts
      simp [h2])
    show (((U.setVm V).setTop g).pushFrame (.throwing v)).setFrames _ = _
    rw [State.pushFrame, State.setFrames_setFrames, State.setTop_of_frames _ hr2, State.setFrames_setFrames]
  have hfr : ((U.setTop g).pushFrame (.throwing v)).frames = .throwing v :: .java g :: r := by rw [frames_entered hA.top, hr]; rfl
  rw [stepThread_throwing hfr, hone]
  exact Steps.refl _
theorem th_go (cb : CallB R s args own index y bytes maxL ret ws rm 1 6 n) (hM : MetT l y ws rm Pc X) (hbl : FrameBlind Pc) {U : State} (X0 : Stand p l e R s m args below meth c U locs cells slots) {g : JFrame} {ig : Instr} {mk : MethodId} {a : Array Value} (hg : g.method = m) (hsize : g.locals.size = c.maxLocals) (hdg : decode c.code g.pc = .ok (ig, 3)) (hst : 2 * g.monitorRoom + (g.stack.map fun v => v.category).sum ≤ 8) (hn : U.methodNamed? y = some mk) (hf : cells + 1 ≤ R.cells ∧ slots + 6 ≤ R.slots) (hP : Pc a U) :
    ∃ (v : Nat) (ce : Cell) (B : State), Stand p l e R s m args below meth c B locs (cells + 1) (slots + 6) ∧ B.heap[v]? = some ce ∧ ce.vm = .none ∧ U.vm.findClass X = some ce.cls ∧ U.heap.size ≤ B.heap.size ∧ (∀ q : Nat, q < U.heap.size → B.heap[q]? = U.heap[q]?) ∧ Steps p.tables e below (doInvoke e (U.setTop g) [] mk a).1 ((B.setTop g).pushFrame (.throwing v)) := by
  obtain ⟨hrc, hrs, hfr, hlo, hws, hcw, -, hini, -⟩ := cb
  subst hg
  have hA := X0.here
  have hcd : (Cond.code y bytes maxL ret).before a U = true := hws _ hcw _ _ X0.warmed
  have hin : (Cond.initialized y.cls).before a U = true := word_at X0.warmed (Or.inl (by first | rfl | simp [Cond.onTables, Cond.keeps, Cond.steady])) hini
  obtain ⟨my, cy, hmy, hcy, -, hly, -⟩ := Cond.code_spec hn hcd
  obtain ⟨ky, hky, -⟩ := className_of_methodNamed hn
  have hlo2 : 8 + (maxL + 11) + (headSpec ws rm).room.locals ≤ R.locals := hlo
  have happ : (headSpec ws rm).appliesLoose y e.platform (U.calling g mk a) = true := by
    refine Spec.appliesLoose_calling (g := g) hA hdg hn hky (Cond.initialized_spec (findClass_of_methodNamed hn) hky hin) ?_ (atoms_intro fun w hw => hws w hw _ _ X0.warmed)
    refine X0.room_calling (g := g) (R' := (headSpec ws rm).room) hsize hmy hcy hfr (by rw [hly]; omega) ?_ ?_
    · rw [show (headSpec ws rm).room.cells = 1 from hrc]; exact hf.1
    · rw [show (headSpec ws rm).room.slots = 6 from hrs]; exact hf.2
  obtain ⟨g0, hg0⟩ := Option.isSome_iff_exists.mp hA.top
  obtain ⟨r, hr⟩ := State.topJava?_eq_some.mp hg0
  obtain ⟨mid, hmid⟩ := hA.above
  obtain ⟨o, t, h1, -, h2, v, ce, rfl, h4, h5, h6, h7, h8⟩ := Steps.callFree hM p X0.admits X0.cas X0.clock (acts := []) (mid := .java g :: mid) (by rw [State.frames_setTop' g hA.top, hmid]; rfl) happ (hbl _ _ _ _ hP) trivial
  have hgrow := same_nil h8
  obtain ⟨e0, e1, e2, e3, e4, e5⟩ := h8
  have hVm : U.WarmedH t.vm := h7
  have hrB : (({ U with heap := t.heap, slotsUsed := t.slotsUsed } : State).setVm t.vm).frames = .java g0 :: r := hr
  have hft : t.frames = .throwing v :: (U.setTop g).frames := h2
  have htB : t = ((({ U with heap := t.heap, slotsUsed := t.slotsUsed } : State).setVm t.vm).setTop g).pushFrame (.throwing v) := by
    have e6 : t = ({ t with vm := (U.calling g mk a).vm } : State).setVm t.vm := rfl
    have e7 : ({ t with vm := (U.calling g mk a).vm } : State) = ({ (U.calling g mk a).setFrames t.frames with heap := t.heap, slotsUsed := t.slotsUsed } : State) := e0
    rw [e7, hft, State.frames_setTop' g hA.top, hr] at e6
    rw [State.pushFrame, State.frames_setTop _ hrB, State.setTop_of_frames _ hrB, State.setFrames_setFrames]
    refine e6.trans ?_
    rw [State.calling_eq hA.top, State.setFrames_setFrames]
    rfl
  have hsm : U.sameButNew ({ U with heap := t.heap, slotsUsed := t.slotsUsed } : State) [] 1 6 := by
    refine ⟨?_, e1, e2, e3, e4, e5⟩
    obtain ⟨th, hth, -⟩ := State.frames_cons hr
    show ({ U with heap := t.heap, slotsUsed := t.slotsUsed } : State) = { U.setFrames U.frames with heap := t.heap, slotsUsed := t.slotsUsed }
    rw [State.setFrames_self hth]
  refine ⟨v, ce, ({ U with heap := t.heap, slotsUsed := t.slotsUsed } : State).setVm t.vm, ?_, h4, h5, h6, hgrow.1, hgrow.2, ?_⟩
  · have hsame := X0.same.trans (hsm.setVm s.vm)
    rw [List.append_nil] at hsame
    exact ⟨X0.admits, X0.cas, X0.clock, X0.frames, X0.room, X0.hears, X0.method, X0.code, (X0.here.setHeapUsed t.heap t.slotsUsed).setVm hVm.alike, X0.tail, State.WarmedH.trans X0.warmed hVm, X0.limits, X0.bytes, hsame⟩
  · rw [← htB]
    exact h1
theorem k_catch (b : Nat) (As rest : List Value) (S : CallFix p m c cc nL s args Ts own) (hM : MetT l y ws rm Pc X) (cw : CallW R s args own C index y bytes maxL ret ws rm 1 6 n) (hp : PreV s H C b Pc As)
    (h0 : st0 = As.reverse ++ .ref b :: rest) (hn : As.length = n) (hsize : ls.size = nL) (hst : (rest.map fun v => v.category).sum ≤ 8) (hdg : decode cc pc = .ok (.invokevirtual index, 3)) (hf : cells + 1 ≤ R.cells ∧ slots + 6 ≤ R.slots)
    {hs : List (Nat × Nat × Nat × Nat)} (hh : c.exceptionTable.toList.map (fun h => (h.startPc, h.endPc, h.handlerPc, h.catchType)) = hs) (pre rs : List (Nat × Nat × Nat × Nat)) (x : Nat × Nat × Nat × Nat) (hsp : hs = pre ++ x :: rs)
    (hpass : ∀ y ∈ pre, y.2.2.2 ≠ 0 ∧ ∃ nm, (Cond.classLink own y.2.2.2 nm).before args s = true ∧ (Cond.not (.castable X nm)).before args s = true) (hcov : x.1 ≤ pc ∧ pc < x.2.1) (hx0 : x.2.2.2 ≠ 0) (hlk : (Cond.classLink own x.2.2.2 X).before args s = true) (hcast : (Cond.castable X X).before args s = true)
    (kk : ∀ (v : Nat) (H1 : Heap), H.size ≤ H1.size → (∀ q : Nat, q < H.size → H1[q]? = H[q]?) → W p l e R s m args below meth c H1 locs (cells + 1) (slots + 6) Q (F0 m x.2.2.1 ls [.ref v])) :
    W p l e R s m args below meth c H locs cells slots Q (F0 m pc ls st0) := by
  have hcb := cw.1
  have hbl := hp.1
  obtain ⟨⟨-, -, -, -, -, -, hcode, -, hy, hlen, hl⟩, hin, hse⟩ := cw
  obtain ⟨hx, hb, hml, ho, -⟩ := S
  obtain ⟨-, ⟨cellB, hcB, hoB, hclB⟩, hPc⟩ := hp
  subst h0
  intro T hT X0
  obtain ⟨mk, methM, hnamed, hmethM, hstM, habM⟩ := Cond.instanceMethod_spec hin
  obtain ⟨methM', cM, hmethM', -, -, -, -, -, -, hsigM⟩ := Cond.code_spec hnamed hcode
  cases hmethM.symm.trans hmethM'
  obtain ⟨c2, r2, m2, q1, q2, q3, q4, kP, hkP, hkPi⟩ := Cond.selects_spec hse
  cases hclB.symm.trans q1
  cases (State.methodFound?_of_named hnamed hy).symm.trans q2
  cases hnamed.symm.trans q3
  have hselP : selectMethod e.platform s.vm cellB.cls mk = .method mk := by rw [Launch.admits_selectMethod X0.admits]; exact q4
  obtain ⟨vm₁, X₁, hstep₁⟩ := X0.invokevirtual hx ho hl hnamed hmethM hstM hkP hkPi hy (a := b) (cell := cellB) (by rw [hT]; exact hcB)
    (fun z h => by rw [h] at hoB; cases hoB) hselP hmethM habM hkP hkPi (g := F0 m pc ls (As.reverse ++ .ref b :: rest)) rfl (argsL := As) (rest := rest) (hn.trans (hlen _ hsigM)) rfl (by rw [hb]; exact hdg)
  obtain ⟨v, ce, B, XB, g1, g2, g3, g4, g5, hsteps⟩ := th_go (g := F0 m pc ls rest) (ig := .invokevirtual index) (mk := mk) (a := (Value.ref b :: As).toArray) hcb hM hbl X₁ rfl (hsize.trans hml.symm) (by rw [hb]; exact hdg) (lv_room hst) (X₁.named hnamed) hf (hPc _ hT X₁.warmed)
  have hfX : s.vm.findClass X = some ce.cls := by rw [← X₁.warmed.alike.findClass]; exact g3
  have hspl : ∃ (pre' : List ExceptionTableEntry) (x' : ExceptionTableEntry) (rs' : List ExceptionTableEntry), c.exceptionTable.toList = pre' ++ x' :: rs' ∧ pre'.map (fun h => (h.startPc, h.endPc, h.handlerPc, h.catchType)) = pre ∧ (x'.startPc, x'.endPc, x'.handlerPc, x'.catchType) = x := by
    rw [hsp] at hh
    obtain ⟨l1, l2, e1, e2, e3⟩ := List.map_eq_append_iff.mp hh
    obtain ⟨x', l3, e4, e5, e6⟩ := List.map_eq_cons_iff.mp e3
    exact ⟨l1, x', l3, by rw [e1, e4], e2, e5⟩
  obtain ⟨pre', x', rs', z1, z2, z3⟩ := hspl
  subst z3
  obtain ⟨vm', XV, hto⟩ := th_ct XB (g := F0 m pc ls rest) rfl g1 g2 hfX ho z1
    (fun y' hy' => hpass (y'.startPc, y'.endPc, y'.handlerPc, y'.catchType) (by rw [← z2]; exact List.mem_map.mpr ⟨y', hy', rfl⟩))
    (by simp only [covers, Bool.and_eq_true, decide_eq_true_eq]; exact hcov) hx0 hlk hcast
  have hTs : (T.setVm vm₁).heap = H := hT
  obtain ⟨t, a1, b1⟩ := kk v B.heap (by rw [← hTs]; exact g4) (by rw [← hTs]; exact g5) (B.setVm vm') rfl XV
  exact ⟨t, ((hstep₁ _ fun acts => by rw [doInvoke_state]; exact Steps.refl _).trans hsteps).trans (hto.trans a1), b1⟩
end KCATCH
theorem vs_grow {A : Nat → Prop} {H0 H H1 : Heap} {locs : List Loc} (hS : va_S A H0 H locs) (h1 : H.size ≤ H1.size) (h2 : ∀ q : Nat, q < H.size → H1[q]? = H[q]?) : va_S A H0 H1 locs :=
  ⟨Nat.le_trans hS.1 h1, fun q h3 h4 => (h2 q (Nat.lt_of_lt_of_le h3 hS.1)).trans (hS.2.1 q h3 h4), hS.2.2⟩
theorem vp_grow {D : va_G} {cl : List vw_C} {ws : va_W} {H H1 : Heap} (hP : va_P D cl ws H) (h2 : ∀ q : Nat, q < H.size → H1[q]? = H[q]?) : va_P D cl ws H1 := hP.kept fun k q hk => h2 q.1 (hP k q hk).lt
theorem TZ.at {own : String} {ms : List (Nat × String)} {fw : List Cond} {A : Nat → Prop} {s U : State} {H : Heap} {locs : List Loc} (h : TZ own ms fw A s) (hS : va_S A s.heap H locs) (hU : U.heap = H) (hW : s.WarmedH U.vm) : TZ own ms fw A U := h.go hW (fun a h1 h2 => by rw [hU]; exact hS.2.1 a h1 h2)
section KHELP
variable {p : Program} {l : Launch} {e : Env} {R : Room} {s : State} {m : MethodId} {args : Array Value} {below : List Frame} {meth : Method} {c : Code} {H : Heap} {locs : List Loc} {cells slots : Nat} {Q : State → Prop} {cc bytes : ByteArray} {pc nL maxL n index : Nat} {ls : Array Slot} {y : MethodName} {ret : Option FieldType} {ws Ts : List Cond} {rm : Room} {own C : String} {st0 : List Value} {D : va_G} {cl : List vw_C} {w' : va_W} {A A0 : Nat → Prop} {H0 : Heap} {Pq : State → Prop}
theorem k_vt {r0 : Int32} (b : Nat) (As rest : List Value) (S : CallFix p m c cc nL s args Ts own) (hM : Met l y ws rm (va_Pc (.ref b :: As) Pq) (va_Qi (fun (r : Int32) (_ : Unit) => r = r0) (fun _ t => va_P D cl w' t.heap) A) 1 6 A) (cw : CallW R s args own C index y bytes maxL ret ws rm 1 6 n)
    (hbl : FrameBlind (va_Pc (.ref b :: As) Pq)) (hrv : ∃ cellB : Cell, H[b]? = some cellB ∧ cellB.vm.isStatics = false ∧ s.vm.findClass C = some cellB.cls) (hPq : ∀ U : State, U.heap = H → s.WarmedH U.vm → Pq U) (hS : va_S A0 H0 H locs) (hA : ∀ q, A q → A0 q)
    (h0 : st0 = As.reverse ++ .ref b :: rest) (hn : As.length = n) (hsize : ls.size = nL) (hst : (rest.map fun v => v.category).sum ≤ 8) (hf : cells + 1 ≤ R.cells ∧ slots + 6 ≤ R.slots) (hdg : decode cc pc = .ok (.invokevirtual index, 3))
    (kk : ∀ (H1 : Heap) (locs1 : List Loc), va_P D cl w' H1 → va_S A0 H0 H1 locs1 → W p l e R s m args below meth c H1 locs1 (cells + 1) (slots + 6) Q (F0 m (pc + 3) ls (.int r0 :: rest))) : W p l e R s m args below meth c H locs cells slots Q (F0 m pc ls st0) :=
  va_calli (rest := rest) (va_runV (As := As) (rest := rest) (b := b) S hM cw ⟨hbl, hrv, fun U hU hW => ⟨rfl, hPq U hU hW⟩⟩ rfl hn hsize h0 (lv_room hst) hdg hf) hS (fun q _ h => hA q h) hA
    (fun r _ t H1 locs1 ht _ hr hB _ _ hS1 => by subst hr; rw [ht] at hB; exact kk H1 locs1 hB hS1)
theorem callSW {T : State} {hh : List (Nat × Nat × Nat × Nat)} (X : Stand p l e R s m args below meth c T locs cells slots) (hexec : p.tables.exec = Jvm.exec)
    (hown : s.vm.findClass own = some m.cls) (hlink : (Cond.methodLink own index y).before args s = true) (hstat : (Cond.static y).before args s = true) (hinit : (Cond.initialized y.cls).before args s = true)
    (hcode : (Cond.codeWith y bytes maxL ret hh).before args s = true) (hy : y.cls ≠ "java/lang/invoke/MethodHandle" ∧ y.cls ≠ "java/lang/invoke/VarHandle")
    {W : Nat} {Pre : Pt → Array Value → Prop} {Post : Pt → Array Value → Option Value → Pt → Prop} (hK : Back l R p e below s args y 3 W Pre Post)
    {g : JFrame} (hg : g.method = m) (hsize : g.locals.size = c.maxLocals) {argsL rest : List Value} (hlen : ∀ sig, parseMethodDescriptor y.desc = some sig → argsL.length = sig.parameters.length)
    (hstack : g.stack = argsL.reverse ++ rest) (hW : 2 * g.monitorRoom + (rest.map fun v => v.category).sum ≤ W) (hdg : decode c.code g.pc = .ok (.invokestatic index, 3))
    (hpre : ∀ vm₁, s.WarmedH vm₁ → Pre ⟨T.setVm vm₁, locs, cells, slots⟩ argsL.toArray) :
    ∃ (v : Option Value) (vm₁ : Vm) (B : Pt), s.WarmedH vm₁ ∧ Stand p l e R s m args below meth c B.U B.locs B.cells B.slots ∧ Post ⟨T.setVm vm₁, locs, cells, slots⟩ argsL.toArray v B ∧
      ∀ target, Steps p.tables e below (B.U.setTop { g with pc := g.pc + 3, stack := v.toList ++ rest }) target → Steps p.tables e below (T.setTop g) target := by
  obtain ⟨mk, methM, cM, hnamed, hmethM, -, -, -, -, -, -, hsigM⟩ := Cond.codeWith_spec hcode
  have hstatic : methM.isStatic = true := Cond.static_spec hnamed hmethM hstat
  obtain ⟨kP, hkP, -⟩ := className_of_methodNamed hnamed
  have hinitP : kP.init = .initialized := Cond.initialized_spec (findClass_of_methodNamed hnamed) hkP hinit
  obtain ⟨vm₁, X₁, hstep₁⟩ := X.invokestatic hexec hown hlink hnamed hmethM hstatic hkP hinitP hy (g := g) hg (argsL := argsL) (rest := rest) (hlen _ hsigM) hstack hdg
  obtain ⟨v, B, X', hpost, hsteps⟩ := hK m meth c ⟨T.setVm vm₁, locs, cells, slots⟩ { g with stack := rest } (.invokestatic index) mk argsL.toArray X₁ hg hsize hdg hW (X₁.named hnamed) (hpre vm₁ X₁.warmed)
  exact ⟨v, vm₁, B, X₁.warmed, X', hpost, fun target h => hstep₁ _ fun acts => by rw [doInvoke_state]; exact hsteps.trans h⟩
theorem k_sw {r0 : Int32} {hh : List (Nat × Nat × Nat × Nat)} (As rest : List Value) (S : CallFix p m c cc nL s args Ts own) (hM : Met l y ws rm (va_Pc As Pq) (va_Qi (fun (r : Int32) (_ : Unit) => r = r0) (fun _ t => va_P D cl w' t.heap) A) 1 6 A)
    (hG : GoodIn Ts ws) (hw : Cond.codeWith y bytes maxL ret hh ∈ ws) (hrc : rm.cells = 1 ∧ rm.slots = 6) (hR : rm.frames + 1 ≤ R.frames ∧ 8 + (maxL + 11) + rm.locals ≤ R.locals) (hd : y.cls ≠ "java/lang/invoke/MethodHandle" ∧ y.cls ≠ "java/lang/invoke/VarHandle" ∧ (parseMethodDescriptor y.desc).map (fun d => d.parameters.length) = some As.length)
    (hlk : (Cond.methodLink own index y).before args s = true) (hstt : (Cond.static y).before args s = true) (hini : (Cond.initialized y.cls).before args s = true)
    (hbl : FrameBlind (va_Pc As Pq)) (hPq : ∀ U : State, U.heap = H → s.WarmedH U.vm → Pq U) (hS : va_S A0 H0 H locs) (hA : ∀ q, A q → A0 q)
    (h0 : st0 = As.reverse ++ rest) (hsize : ls.size = nL) (hst : (rest.map fun v => v.category).sum ≤ 8) (hf : cells + 1 ≤ R.cells ∧ slots + 6 ≤ R.slots) (hdg : decode cc pc = .ok (.invokestatic index, 3))
    (kk : ∀ (H1 : Heap) (locs1 : List Loc), va_P D cl w' H1 → va_S A0 H0 H1 locs1 → W p l e R s m args below meth c H1 locs1 (cells + 1) (slots + 6) Q (F0 m (pc + 3) ls (.int r0 :: rest))) : W p l e R s m args below meth c H locs cells slots Q (F0 m pc ls st0) := by
  obtain ⟨hx, hb, hml, ho, hts⟩ := S
  have hws := pay_in hts hG
  have hK : Back l R p e below s args y 3 8 (PreOf R 1 6 (va_Pc As Pq)) (PostOf (va_Qi (fun (r : Int32) (_ : Unit) => r = r0) (fun _ t => va_P D cl w' t.heap) A) 1 6 A) :=
    va_backW (hh := hh) (bytes := bytes) (maxL := maxL) (ret := ret) hM hbl hrc.1 hrc.2 hR.1 hR.2 hws hw (fun a' U hW => word_at hW (Or.inl (by first | rfl | simp [Cond.onTables, Cond.keeps, Cond.steady])) hini)
  refine va_calli (rest := rest) (a := As.toArray) (A1 := A) (free := A) (mc := 1) (ms := 6) (post := fun (r : Int32) (_ : Unit) => r = r0) (B := fun _ t => va_P D cl w' t.heap) ?_ hS (fun q _ h => hA q h) hA
    (fun r _ t H1 locs1 ht _ hr hB _ _ hS1 => by subst hr; rw [ht] at hB; exact kk H1 locs1 hB hS1)
  intro T hT X
  obtain ⟨v, vm₁, ⟨U', l2, c2, s2⟩, hW₁, X', ⟨g', mk, t, L, e1, e2, hq, h1, hL, h2, h3⟩, st⟩ := callSW X hx ho hlk hstt hini (hts _ (hG _ hw).1) ⟨hd.1, hd.2.1⟩ hK (g := F0 m pc ls st0) rfl (hsize.trans hml.symm) (argsL := As) (rest := rest) (fun sig h => by have h2 := hd.2.2; rw [h] at h2; exact (Option.some.inj h2).symm) h0 (lv_room hst) (by rw [hb]; exact hdg)
    (fun vm₁ hW₁ => ⟨hf.1, hf.2, rfl, hPq (T.setVm vm₁) hT hW₁⟩)
  dsimp only [Pt.U, Pt.locs, Pt.cells, Pt.slots] at X' e1 e2 h1 h2 h3 st
  subst h1; subst h2; subst h3
  exact ⟨v, (T.setVm vm₁).calling g' mk As.toArray, t, U', L, hT, X', hL, e1, e2, hq, st⟩
end KHELP

def MSGS : List (Nat × String) := [(65, "no such office, or no draft with lines to propose"), (85, "failed, a run is on, or all numbers are decided"), (101, "no such office"), (108, "failed, no run, or silent already"), (115, "there would be no choice"), (123, "failed, or no run"), (128, "failed"), (144, "no such letter, or no such part of it"), (169, "no such letter")]
def FW : List Cond := [Cond.castable (XN 1) (XN 1), Cond.castable (XN 2) (XN 2), Cond.castable (XN 3) (XN 3), Cond.declares (Bundle.initS "java/lang/RuntimeException"), Cond.declares (Bundle.initS "java/lang/Exception"), Cond.declares (Bundle.initS Bundle.tN), Cond.not (.castable (XN 2) (XN 1))]
def ZW4 : List Cond := [.laysStatic Bundle.tN "UNASSIGNED_STACK" Bundle.steD, .laysStatic Bundle.tN "SUPPRESSED_SENTINEL" Bundle.listD, .isRef (.static Bundle.tN "UNASSIGNED_STACK" Bundle.steD), .isRef (.static Bundle.tN "SUPPRESSED_SENTINEL" Bundle.listD)]
theorem zw_of {own : String} {ms : List (Nat × String)} {fw : List Cond} {A : Nat → Prop} {args : Array Value} {s : State} (h : TZ own ms fw A s) : ∀ a ∈ ZW4, a.before args s = true := List.forall_mem_cons.mpr ⟨h.1.ls, List.forall_mem_cons.mpr ⟨h.2.1.ls, List.forall_mem_cons.mpr ⟨h.1.ir, List.forall_mem_cons.mpr ⟨h.2.1.ir, fun _ h => absurd h List.not_mem_nil⟩⟩⟩⟩
set_option maxRecDepth 100000 in
theorem oat_67 {args : Array Value} {s : State} {A : Nat → Prop} (hts : ∀ w ∈ ALL, w.before args s = true) (hTZ : TZ R_H MSGS FW A s) : ∀ a ∈ Bundle.ownAtoms R_H 67 (XN 1) UP, a.before args s = true := by
  have h : ∀ a ∈ Bundle.ownAtoms R_H 67 (XN 1) UP, a ∈ ALL ∨ a ∈ FW ∨ a ∈ ZW4 := by decide +kernel
  intro a ha
  rcases h a ha with h | h | h
  · exact hts a h
  · exact hTZ.fwd h
  · exact zw_of hTZ a h
set_option maxRecDepth 100000 in
theorem oat_87 {args : Array Value} {s : State} {A : Nat → Prop} (hts : ∀ w ∈ ALL, w.before args s = true) (hTZ : TZ R_H MSGS FW A s) : ∀ a ∈ Bundle.ownAtoms R_H 87 (XN 2) UP, a.before args s = true := by
  have h : ∀ a ∈ Bundle.ownAtoms R_H 87 (XN 2) UP, a ∈ ALL ∨ a ∈ FW ∨ a ∈ ZW4 := by decide +kernel
  intro a ha
  rcases h a ha with h | h | h
  · exact hts a h
  · exact hTZ.fwd h
  · exact zw_of hTZ a h
set_option maxRecDepth 100000 in
theorem oat_146 {args : Array Value} {s : State} {A : Nat → Prop} (hts : ∀ w ∈ ALL, w.before args s = true) (hTZ : TZ R_H MSGS FW A s) : ∀ a ∈ Bundle.ownAtoms R_H 146 (XN 3) UP, a.before args s = true := by
  have h : ∀ a ∈ Bundle.ownAtoms R_H 146 (XN 3) UP, a ∈ ALL ∨ a ∈ FW ∨ a ∈ ZW4 := by decide +kernel
  intro a ha
  rcases h a ha with h | h | h
  · exact hts a h
  · exact hTZ.fwd h
  · exact zw_of hTZ a h
