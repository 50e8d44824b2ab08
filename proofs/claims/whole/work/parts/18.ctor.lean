def NL : List Cond := [Cond.methodLinkNest R_O 34 y_R_init R_H, Cond.methodLinkNest R_M 17 y_L_init R_H, Cond.methodLinkNest R_H 35 y_T_init R_H]
theorem nl_tab : ∀ w ∈ NL, w.onTables = true := by decide
theorem nl_0 : Cond.methodLinkNest R_O 34 y_R_init R_H ∈ NL := List.mem_of_getElem? (i := 0) rfl
theorem nl_1 : Cond.methodLinkNest R_M 17 y_L_init R_H ∈ NL := List.mem_of_getElem? (i := 1) rfl
theorem nl_2 : Cond.methodLinkNest R_H 35 y_T_init R_H ∈ NL := List.mem_of_getElem? (i := 2) rfl
theorem nl_go {s U : State} (hW : s.WarmedH U.vm) (h : ∀ w ∈ NL, va_Nw w s) : ∀ w ∈ NL, va_Nw w U := List.forall_mem_cons.mpr ⟨va_Nw.warmM hW (h _ nl_0), List.forall_mem_cons.mpr ⟨va_Nw.warmM hW (h _ nl_1), List.forall_mem_cons.mpr ⟨va_Nw.warmM hW (h _ nl_2), fun _ h => absurd h List.not_mem_nil⟩⟩⟩
def CA (b sz : Nat) : Nat → Prop := fun q => q = b ∨ sz ≤ q
def NWS (U : State) : Prop := (∀ w ∈ NL, va_Nw w U) ∧ ∀ C ∈ [R_L, R_O, R_T], va_AO C U
theorem NWS.go {s U : State} (hW : s.WarmedH U.vm) (h : NWS s) : NWS U := ⟨nl_go hW h.1, fun C hC => (h.2 C hC).moved hW.alike⟩
theorem NWS.calling {U : State} {g : JFrame} {mk : MethodId} {a : Array Value} (h : NWS U) : NWS (U.calling g mk a) := ⟨fun w hw => va_Nw.same (u := U) (U := U.calling g mk a) (nl_tab w hw) rfl (h.1 w hw), fun C hC => (h.2 C hC).moved (Vm.Alike.refl U.vm)⟩
def CT {S : Type} (l : Launch) (y : MethodName) (ws : List Cond) (rm : Room) (D : va_G) (ca : Nat → ClassId) (b sz : Nat) (As : List Value) (e0 : va_E) (post : S → Prop) (Wf : S → va_W) (mc ms : Nat) : Prop :=
  Met l y ws rm (va_Pc (.ref b :: As) (fun U => U.heap.size = sz ∧ va_P D CLS [(b, e0)] U.heap ∧ va_K D CLS (TYH ca) U ∧ NWS U)) (va_Qv post (fun u t => va_P D CLS (Wf u) t.heap ∧ va_D (CA b sz) (Wf u)) (CA b sz)) mc ms (CA b sz)
theorem cd_1 {b sz : Nat} {e : va_E} : va_D (CA b sz) [(b, e)] := by
  refine ⟨fun i j x y hi hj _ => ?_, fun k q hk => ?_⟩
  · have h1 : i < 1 := (List.getElem?_eq_some_iff.mp hi).1
    have h2 : j < 1 := (List.getElem?_eq_some_iff.mp hj).1
    omega
  · have h1 : k < 1 := (List.getElem?_eq_some_iff.mp hk).1
    obtain rfl : k = 0 := by omega
    cases hk
    exact Or.inl rfl
theorem ct_blind {D : va_G} {ca : Nat → ClassId} {vs : List Value} {ws : va_W} {sz : Nat} : FrameBlind (va_Pc vs (fun U => U.heap.size = sz ∧ va_P D CLS ws U.heap ∧ va_K D CLS (TYH ca) U ∧ NWS U)) := fun a U g mk q => by
  obtain ⟨q0, q1, qP, qK, qN⟩ := q
  exact ⟨q0, q1, qP, va_K.moved (u := U) (U := U.calling g mk a) (Vm.Alike.refl U.vm) qK, qN.calling⟩
theorem ca_int {D : va_G} {ca : Nat → ClassId} {s : State} {cA : ClassId} (h : va_K D CLS (TYH ca ++ [(cA, .int)]) s) : cA = ca 0 := Option.some.inj ((va_nm_int (h.2 6 _ rfl).2).symm.trans (va_nm_int (h.2 0 _ rfl).2))
theorem ca_bool {D : va_G} {ca : Nat → ClassId} {s : State} {cA : ClassId} (h : va_K D CLS (TYH ca ++ [(cA, .boolean)]) s) : cA = ca 4 := Option.some.inj ((va_nm_boolean (h.2 6 _ rfl).2).symm.trans (va_nm_boolean (h.2 4 _ rfl).2))
theorem ca_long {D : va_G} {ca : Nat → ClassId} {s : State} {cA : ClassId} (h : va_K D CLS (TYH ca ++ [(cA, .long)]) s) : cA = ca 5 := Option.some.inj ((va_nm_long (h.2 6 _ rfl).2).symm.trans (va_nm_long (h.2 5 _ rfl).2))
theorem ca_obj {D : va_G} {ca : Nat → ClassId} {s : State} {cA : ClassId} {C : String} (k : Nat) (hk : (TYH ca)[k]? = some (ca k, .object C)) (h : va_K D CLS (TYH ca ++ [(cA, .object C)]) s) : cA = ca k := by
  have h0 : k < (TYH ca).length := (List.getElem?_eq_some_iff.mp hk).1
  obtain ⟨_, _, _, _, _, e1⟩ := (h.2 6 _ rfl).2
  obtain ⟨_, _, _, _, _, e2⟩ := (h.2 k _ (by rw [List.getElem?_append_left h0]; exact hk)).2
  exact Option.some.inj (e1.symm.trans e2)
section KCTOR
variable {p : Program} {l : Launch} {e : Env} {R : Room} {s : State} {m : MethodId} {args : Array Value} {below : List Frame} {meth : Method} {c : Code} {H : Heap} {locs : List Loc} {cells slots : Nat} {Q : State → Prop} {cc bytes : ByteArray} {pc nL maxL n index mc ms : Nat} {ls : Array Slot} {y : MethodName} {ws Ts : List Cond} {rm : Room} {own : String} {st0 : List Value} {D : va_G} {ca : Nat → ClassId} {w0 : va_W} {A : Nat → Prop} {H0 : Heap} {e0 : va_E} {S : Type} {post : S → Prop} {Wf : S → va_W} {b : Nat}
theorem k_after {As rest : List Value} (hr : va_Run p l e R s m args below meth c H locs cells slots mc ms (F0 m pc ls st0) rest (va_Qv post (fun u t => va_P D CLS (Wf u) t.heap ∧ va_D (CA b H.size) (Wf u)) (CA b H.size) (Value.ref b :: As).toArray) (CA b H.size))
    (hP : va_P D CLS (w0 ++ [(b, e0)]) H) (hD : va_D A (w0 ++ [(b, e0)])) (hA : ∀ q, H0.size ≤ q → A q) (hS : va_S A H0 H locs)
    (kk : ∀ (u : S) (H1 : Heap) (locs1 : List Loc), post u → va_P D CLS (w0 ++ Wf u) H1 → va_D A (w0 ++ Wf u) → va_S A H0 H1 locs1 → W p l e R s m args below meth c H1 locs1 (cells + mc) (slots + ms) Q (F0 m (pc + 3) ls rest)) : W p l e R s m args below meth c H locs cells slots Q (F0 m pc ls st0) := by
  have hbA : A b := hD.2 w0.length (b, e0) (by rw [List.getElem?_append_right (Nat.le_refl _), Nat.sub_self]; rfl)
  have hCA : ∀ q, CA b H.size q → A q := fun q h => h.elim (fun h => h ▸ hbA) (fun h => hA q (Nat.le_trans hS.1 h))
  have hw : ∀ (k : Nat) (q : Nat × va_E), w0[k]? = some q → q.1 < H.size ∧ q.1 ≠ b := fun k q hk => by
    have h1 : (w0 ++ [(b, e0)])[k]? = some q := by rw [List.getElem?_append_left (List.getElem?_eq_some_iff.mp hk).1]; exact hk
    refine ⟨(hP k q h1).lt, fun h2 => ?_⟩
    have h3 := hD.1 k w0.length q (b, e0) h1 (by rw [List.getElem?_append_right (Nat.le_refl _), Nat.sub_self]; rfl) h2
    have h4 := (List.getElem?_eq_some_iff.mp hk).1
    omega
  refine va_callv hr hS (fun q _ h => hCA q h) hCA (fun u t H1 locs1 ht _ hp hB hz hk hS1 => ?_)
  obtain ⟨hB1, hB2⟩ := hB
  rw [ht] at hB1
  have h0 : va_P D CLS w0 H := fun k q hk => hP k q (by rw [List.getElem?_append_left (List.getElem?_eq_some_iff.mp hk).1]; exact hk)
  have h1 : va_P D CLS w0 H1 := h0.kept fun k q hq => hk q.1 (hw k q hq).1 (fun h => h.elim (hw k q hq).2 (fun h2 => absurd (hw k q hq).1 (Nat.not_lt.mpr h2)))
  have h2 : va_D A w0 := ⟨fun i j x y hi hj => hD.1 i j x y (by rw [List.getElem?_append_left (List.getElem?_eq_some_iff.mp hi).1]; exact hi) (by rw [List.getElem?_append_left (List.getElem?_eq_some_iff.mp hj).1]; exact hj), fun k q hk => hD.2 k q (by rw [List.getElem?_append_left (List.getElem?_eq_some_iff.mp hk).1]; exact hk)⟩
  refine kk u H1 locs1 hp (h1.app hB1) (va_D.app h2 (hB2.weaken fun k q hq h => hCA q.1 h) (fun i j x y hi hj e => ?_)) hS1
  have h3 := hw i x hi
  rcases hB2.2 j y hj with h4 | h4
  · exact h3.2 (e.trans h4)
  · exact absurd h3.1 (Nat.not_lt.mpr (by rw [e]; exact h4))
theorem k_ctor (As rest : List Value) (S0 : CallFix p m c cc nL s args Ts own) (hM : CT l y ws rm D ca b H.size As e0 post Wf mc ms) (cw : CallB R s args own index y bytes maxL none ws rm mc ms n ∧ y.name = "<init>" ∧ (Cond.instanceMethod y).before args s = true)
    (hP : va_P D CLS (w0 ++ [(b, e0)]) H) (hD : va_D A (w0 ++ [(b, e0)])) (hA : ∀ q, H0.size ≤ q → A q) (hS : va_S A H0 H locs) (hK : va_K D CLS (TYH ca) s) (hN : NWS s)
    (h0 : st0 = As.reverse ++ .ref b :: rest) (hn : As.length = n) (hsize : ls.size = nL) (hst : (rest.map fun v => v.category).sum ≤ 8) (hf : cells + mc ≤ R.cells ∧ slots + ms ≤ R.slots) (hdg : decode cc pc = .ok (.invokespecial index, 3))
    (kk : ∀ (u : S) (H1 : Heap) (locs1 : List Loc), post u → va_P D CLS (w0 ++ Wf u) H1 → va_D A (w0 ++ Wf u) → va_S A H0 H1 locs1 → W p l e R s m args below meth c H1 locs1 (cells + mc) (slots + ms) Q (F0 m (pc + 3) ls rest)) : W p l e R s m args below meth c H locs cells slots Q (F0 m pc ls st0) := by
  have hb1 : va_P D CLS [(b, e0)] H := fun k q hk => by
    have h1 : k < 1 := (List.getElem?_eq_some_iff.mp hk).1
    obtain rfl : k = 0 := by omega
    exact hP w0.length q (by rw [List.getElem?_append_right (Nat.le_refl _), Nat.sub_self]; exact hk)
  exact k_after (As := As) (va_runI (As := As) (rest := rest) (b := b) S0 hM cw ⟨ct_blind, fun U hU hW => ⟨rfl, by rw [hU], by rw [hU]; exact hb1, va_K.moved hW.alike hK, NWS.go hW hN⟩⟩ rfl hn hsize h0 (lv_room hst) hdg hf) hP hD hA hS kk
theorem k_ctorN {host : String} (As rest : List Value) (S0 : CallFix p m c cc nL s args Ts own) (hM : CT l y ws rm D ca b H.size As e0 post Wf mc ms) (cw : va_CN R s args own index y host bytes maxL none ws rm mc ms n ∧ y.name = "<init>" ∧ (Cond.instanceMethod y).before args s = true)
    (hP : va_P D CLS (w0 ++ [(b, e0)]) H) (hD : va_D A (w0 ++ [(b, e0)])) (hA : ∀ q, H0.size ≤ q → A q) (hS : va_S A H0 H locs) (hK : va_K D CLS (TYH ca) s) (hN : NWS s)
    (h0 : st0 = As.reverse ++ .ref b :: rest) (hn : As.length = n) (hsize : ls.size = nL) (hst : (rest.map fun v => v.category).sum ≤ 8) (hf : cells + mc ≤ R.cells ∧ slots + ms ≤ R.slots) (hdg : decode cc pc = .ok (.invokespecial index, 3))
    (kk : ∀ (u : S) (H1 : Heap) (locs1 : List Loc), post u → va_P D CLS (w0 ++ Wf u) H1 → va_D A (w0 ++ Wf u) → va_S A H0 H1 locs1 → W p l e R s m args below meth c H1 locs1 (cells + mc) (slots + ms) Q (F0 m (pc + 3) ls rest)) : W p l e R s m args below meth c H locs cells slots Q (F0 m pc ls st0) := by
  have hb1 : va_P D CLS [(b, e0)] H := fun k q hk => by
    have h1 : k < 1 := (List.getElem?_eq_some_iff.mp hk).1
    obtain rfl : k = 0 := by omega
    exact hP w0.length q (by rw [List.getElem?_append_right (Nat.le_refl _), Nat.sub_self]; exact hk)
  exact k_after (As := As) (va_runIN (As := As) (rest := rest) (b := b) S0 hM cw ⟨ct_blind, fun U hU hW => ⟨rfl, by rw [hU], by rw [hU]; exact hb1, va_K.moved hW.alike hK, NWS.go hW hN⟩⟩ rfl hn hsize h0 (lv_room hst) hdg hf) hP hD hA hS kk
theorem k_fill {k a N : Nat} {v : Int32} {f g : Nat → Int32} {wf : va_W} (rest : List Value) (S0 : CallFix p m c cc nL s args Ts own)
    (hM : Met l y ws rm (va_Pc [.ref a, .int v] (fun U => va_P D CLS [(a, .inl (ca 0, N, .inl f))] U.heap ∧ va_K D CLS (TYH ca) U)) (va_Qv (fun _ : Unit => True) (fun _ t => va_P D CLS [(a, .inl (ca 0, N, .inl g))] t.heap) (fun q => q = a)) 0 0 (fun q => q = a))
    (cw : CallB R s args own index y bytes maxL none ws rm 0 0 2 ∧ (Cond.static y).before args s = true)
    (hP : va_P D CLS wf H) (hD : va_D A wf) (hS : va_S A H0 H locs) (hK : va_K D CLS (TYH ca) s) (hk : wf[k]? = some (a, .inl (ca 0, N, .inl f)))
    (h0 : st0 = .int v :: .ref a :: rest) (hsize : ls.size = nL) (hst : (rest.map fun v => v.category).sum ≤ 8) (hf : cells ≤ R.cells ∧ slots ≤ R.slots) (hdg : decode cc pc = .ok (.invokestatic index, 3))
    (kk : ∀ (H1 : Heap) (locs1 : List Loc), va_P D CLS (wf.set k (a, .inl (ca 0, N, .inl g))) H1 → va_D A (wf.set k (a, .inl (ca 0, N, .inl g))) → va_S A H0 H1 locs1 → W p l e R s m args below meth c H1 locs1 cells slots Q (F0 m (pc + 3) ls rest)) : W p l e R s m args below meth c H locs cells slots Q (F0 m pc ls st0) := by
  have haA : A a := hD.2 k _ hk
  have hb1 : va_P D CLS [(a, .inl (ca 0, N, .inl f))] H := fun j q hj => by
    have h1 : j < 1 := (List.getElem?_eq_some_iff.mp hj).1
    obtain rfl : j = 0 := by omega
    cases hj
    exact hP k _ hk
  refine va_callv (rest := rest) (va_runS (As := [.ref a, .int v]) (rest := rest) S0 hM cw ⟨wd_blind, fun U hU hW => ⟨rfl, by rw [hU]; exact hb1, va_K.moved hW.alike hK⟩⟩ rfl rfl hsize h0 (lv_room hst) hdg hf) hS (fun q _ h => h ▸ haA) (fun q h => h ▸ haA) (fun u t H1 locs1 ht _ hp hB hz hkq hS1 => ?_)
  rw [ht] at hB
  refine kk H1 locs1 (fun j q hj => ?_) (hD.set hk) hS1
  by_cases hjk : k = j
  · subst hjk
    rw [List.getElem?_set_self (List.getElem?_eq_some_iff.mp hk).1] at hj
    cases hj
    exact hB 0 _ rfl
  · rw [List.getElem?_set_ne hjk] at hj
    exact (hP j q hj).kept (hkq q.1 (hP j q hj).lt (fun h => hjk (hD.1 k j _ q hk hj h.symm)))
end KCTOR

def ws_L_init : List Cond := Cond.code y_L_init b_L_init 1 none :: ALL
theorem d_L_init_0 : decode b_L_init 0 = .ok (.aload_n 0, 1) := by decide +kernel
theorem d_L_init_1 : decode b_L_init 1 = .ok (.invokespecial 3, 3) := by decide +kernel
theorem d_L_init_4 : decode b_L_init 4 = .ok (.aload_n 0, 1) := by decide +kernel
theorem d_L_init_5 : decode b_L_init 5 = .ok (.iconst 0, 1) := by decide +kernel
theorem d_L_init_6 : decode b_L_init 6 = .ok (.putfield 9, 3) := by decide +kernel
theorem d_L_init_9 : decode b_L_init 9 = .ok (.aload_n 0, 1) := by decide +kernel
theorem d_L_init_10 : decode b_L_init 10 = .ok (.iconst 0, 1) := by decide +kernel
theorem d_L_init_11 : decode b_L_init 11 = .ok (.putfield 15, 3) := by decide +kernel
theorem d_L_init_14 : decode b_L_init 14 = .ok (.aload_n 0, 1) := by decide +kernel
theorem d_L_init_15 : decode b_L_init 15 = .ok (.iconst 0, 1) := by decide +kernel
theorem d_L_init_16 : decode b_L_init 16 = .ok (.putfield 18, 3) := by decide +kernel
theorem d_L_init_19 : decode b_L_init 19 = .ok (.aload_n 0, 1) := by decide +kernel
theorem d_L_init_20 : decode b_L_init 20 = .ok (.iconst 0, 1) := by decide +kernel
theorem d_L_init_21 : decode b_L_init 21 = .ok (.putfield 21, 3) := by decide +kernel
theorem d_L_init_24 : decode b_L_init 24 = .ok (.aload_n 0, 1) := by decide +kernel
theorem d_L_init_25 : decode b_L_init 25 = .ok (.iconst (-1), 1) := by decide +kernel
theorem d_L_init_26 : decode b_L_init 26 = .ok (.putfield 24, 3) := by decide +kernel
theorem d_L_init_29 : decode b_L_init 29 = .ok (.aload_n 0, 1) := by decide +kernel
theorem d_L_init_30 : decode b_L_init 30 = .ok (.iconst (-1), 1) := by decide +kernel
theorem d_L_init_31 : decode b_L_init 31 = .ok (.putfield 27, 3) := by decide +kernel
theorem d_L_init_34 : decode b_L_init 34 = .ok (.aload_n 0, 1) := by decide +kernel
theorem d_L_init_35 : decode b_L_init 35 = .ok (.iconst 0, 1) := by decide +kernel
theorem d_L_init_36 : decode b_L_init 36 = .ok (.putfield 30, 3) := by decide +kernel
theorem d_L_init_39 : decode b_L_init 39 = .ok (.aload_n 0, 1) := by decide +kernel
theorem d_L_init_40 : decode b_L_init 40 = .ok (.iconst (-1), 1) := by decide +kernel
theorem d_L_init_41 : decode b_L_init 41 = .ok (.putfield 33, 3) := by decide +kernel
theorem d_L_init_44 : decode b_L_init 44 = .ok (.return_, 1) := by decide +kernel
def CW_L_init (ca : Nat → ClassId) (b : Nat) (u : Unit) : va_W := [(b, .inr (0, [.int 0, .int 0, .int 0, .int 0, .int (-1), .int (-1), .int 0, .int (-1)]))]
set_option maxHeartbeats 4000000 in
set_option maxRecDepth 100000 in
theorem c_L_init (l : Launch) (D : va_G) (ca : Nat → ClassId) (b sz : Nat) : CT l y_L_init ws_L_init ({ frames := 1, cells := 0, slots := 0, locals := 20 } : Room) D ca b sz [] (.inr (0, [.int 0, .int 0, .int 0, .int 0, .int 0, .int 0, .int 0, .int 0])) (fun _ : Unit => True) (CW_L_init ca b) 0 0 := by
  refine Met.ofW (cc := b_L_init) (maxL := 1) (ret := none) (by decide) rfl ?_
  intro p e s m args below meth c s₁ B hml hv
  obtain ⟨rfl, hsz, hP, hK, hN⟩ := hv
  have hx := B.exec
  have hb := B.bytes
  have hr := B.returns
  have hts : ∀ w ∈ ALL, w.before _ s = true := fun w h => atoms_spec (ws := ws_L_init) B.pre w (List.mem_cons_of_mem _ h)
  have hown : s.vm.findClass R_L = some m.cls := findClass_of_methodNamed B.named
  have hlocks := B.notSynchronized
  have hin : meth.name = "<init>" := (name_of_methodNamed B.named B.method).1
  subst hsz
  have hD : va_D (CA b s.heap.size) [(b, .inr (0, [.int 0, .int 0, .int 0, .int 0, .int 0, .int 0, .int 0, .int 0]))] := cd_1
  have hA : ∀ q : Nat, s.heap.size ≤ q → CA b s.heap.size q := fun q h => Or.inr h
  have hS : va_S (CA b s.heap.size) s.heap s.heap [] := va_S.rf
  have hP : va_P D CLS [(b, .inr (0, [.int 0, .int 0, .int 0, .int 0, .int 0, .int 0, .int 0, .int 0]))] s.heap := hP
  have hl := lv_entry ([.ref b]) (n := 1) (Nat.le_of_ble_eq_true rfl)
  rw [lg_entry_eq]
  generalize (lg_sl ([.ref b]) ++ List.replicate (1 - (lg_sl ([.ref b])).length) Slot.unset).toArray = ls at hl ⊢
  have hl : lv_has ls 1 [(0, .ref b)] := hl
  refine lv_aload_n hx hb d_L_init_0 rfl (lv_at hl 0 rfl) ?_
  refine W.objInit hx hb hown (hts _ a_42) (hts _ a_24) (hts _ a_25) rfl (by rw [hml]; exact hl.1) rfl d_L_init_1 (Nat.le_of_ble_eq_true rfl) (Nat.le_of_ble_eq_true rfl) ?_
  refine W.eq (g2 := F0 m 4 ls []) rfl ?_
  refine lv_aload_n hx hb d_L_init_4 rfl (lv_at hl 0 rfl) ?_
  refine lv_iconst (v := 0) hx hb d_L_init_5 (by decide) ?_
  refine va_put (D := D) (ci := 0) (v := .int 0) (ty := .int) (C := R_L) (T := T_L) (N := 8) (fs := [.int 0, .int 0, .int 0, .int 0, .int 0, .int 0, .int 0, .int 0]) hx hb hts in_L ft_L ft_L_ok n_L hown hK hP hD hS 0 rfl rfl 0 (by decide) (hts _ a_43) (fun _ h => h) rfl (by decide +kernel) rfl rfl (Nat.le_of_ble_eq_true rfl) d_L_init_6 (fun H locs hP hD hS => ?_)
  have hP : va_P D CLS [(b, .inr (0, [.int 0, .int 0, .int 0, .int 0, .int 0, .int 0, .int 0, .int 0]))] H := hP
  have hD : va_D (CA b s.heap.size) [(b, .inr (0, [.int 0, .int 0, .int 0, .int 0, .int 0, .int 0, .int 0, .int 0]))] := hD
  refine lv_aload_n hx hb d_L_init_9 rfl (lv_at hl 0 rfl) ?_
  refine lv_iconst (v := 0) hx hb d_L_init_10 (by decide) ?_
  refine va_put (D := D) (ci := 0) (v := .int 0) (ty := .int) (C := R_L) (T := T_L) (N := 8) (fs := [.int 0, .int 0, .int 0, .int 0, .int 0, .int 0, .int 0, .int 0]) hx hb hts in_L ft_L ft_L_ok n_L hown hK hP hD hS 0 rfl rfl 1 (by decide) (hts _ a_46) (fun _ h => h) rfl (by decide +kernel) rfl rfl (Nat.le_of_ble_eq_true rfl) d_L_init_11 (fun H locs hP hD hS => ?_)
  have hP : va_P D CLS [(b, .inr (0, [.int 0, .int 0, .int 0, .int 0, .int 0, .int 0, .int 0, .int 0]))] H := hP
  have hD : va_D (CA b s.heap.size) [(b, .inr (0, [.int 0, .int 0, .int 0, .int 0, .int 0, .int 0, .int 0, .int 0]))] := hD
  refine lv_aload_n hx hb d_L_init_14 rfl (lv_at hl 0 rfl) ?_
  refine lv_iconst (v := 0) hx hb d_L_init_15 (by decide) ?_
  refine va_put (D := D) (ci := 0) (v := .int 0) (ty := .int) (C := R_L) (T := T_L) (N := 8) (fs := [.int 0, .int 0, .int 0, .int 0, .int 0, .int 0, .int 0, .int 0]) hx hb hts in_L ft_L ft_L_ok n_L hown hK hP hD hS 0 rfl rfl 2 (by decide) (hts _ a_49) (fun _ h => h) rfl (by decide +kernel) rfl rfl (Nat.le_of_ble_eq_true rfl) d_L_init_16 (fun H locs hP hD hS => ?_)
  have hP : va_P D CLS [(b, .inr (0, [.int 0, .int 0, .int 0, .int 0, .int 0, .int 0, .int 0, .int 0]))] H := hP
  have hD : va_D (CA b s.heap.size) [(b, .inr (0, [.int 0, .int 0, .int 0, .int 0, .int 0, .int 0, .int 0, .int 0]))] := hD
  refine lv_aload_n hx hb d_L_init_19 rfl (lv_at hl 0 rfl) ?_
  refine lv_iconst (v := 0) hx hb d_L_init_20 (by decide) ?_
  refine va_put (D := D) (ci := 0) (v := .int 0) (ty := .int) (C := R_L) (T := T_L) (N := 8) (fs := [.int 0, .int 0, .int 0, .int 0, .int 0, .int 0, .int 0, .int 0]) hx hb hts in_L ft_L ft_L_ok n_L hown hK hP hD hS 0 rfl rfl 3 (by decide) (hts _ a_52) (fun _ h => h) rfl (by decide +kernel) rfl rfl (Nat.le_of_ble_eq_true rfl) d_L_init_21 (fun H locs hP hD hS => ?_)
  have hP : va_P D CLS [(b, .inr (0, [.int 0, .int 0, .int 0, .int 0, .int 0, .int 0, .int 0, .int 0]))] H := hP
  have hD : va_D (CA b s.heap.size) [(b, .inr (0, [.int 0, .int 0, .int 0, .int 0, .int 0, .int 0, .int 0, .int 0]))] := hD
  refine lv_aload_n hx hb d_L_init_24 rfl (lv_at hl 0 rfl) ?_
  refine lv_iconst (v := (-1)) hx hb d_L_init_25 (by decide) ?_
  refine va_put (D := D) (ci := 0) (v := .int (-1)) (ty := .int) (C := R_L) (T := T_L) (N := 8) (fs := [.int 0, .int 0, .int 0, .int 0, .int 0, .int 0, .int 0, .int 0]) hx hb hts in_L ft_L ft_L_ok n_L hown hK hP hD hS 0 rfl rfl 4 (by decide) (hts _ a_55) (fun _ h => h) rfl (by decide +kernel) rfl rfl (Nat.le_of_ble_eq_true rfl) d_L_init_26 (fun H locs hP hD hS => ?_)
  have hP : va_P D CLS [(b, .inr (0, [.int 0, .int 0, .int 0, .int 0, .int (-1), .int 0, .int 0, .int 0]))] H := hP
  have hD : va_D (CA b s.heap.size) [(b, .inr (0, [.int 0, .int 0, .int 0, .int 0, .int (-1), .int 0, .int 0, .int 0]))] := hD
  refine lv_aload_n hx hb d_L_init_29 rfl (lv_at hl 0 rfl) ?_
  refine lv_iconst (v := (-1)) hx hb d_L_init_30 (by decide) ?_
  refine va_put (D := D) (ci := 0) (v := .int (-1)) (ty := .int) (C := R_L) (T := T_L) (N := 8) (fs := [.int 0, .int 0, .int 0, .int 0, .int (-1), .int 0, .int 0, .int 0]) hx hb hts in_L ft_L ft_L_ok n_L hown hK hP hD hS 0 rfl rfl 5 (by decide) (hts _ a_58) (fun _ h => h) rfl (by decide +kernel) rfl rfl (Nat.le_of_ble_eq_true rfl) d_L_init_31 (fun H locs hP hD hS => ?_)
  have hP : va_P D CLS [(b, .inr (0, [.int 0, .int 0, .int 0, .int 0, .int (-1), .int (-1), .int 0, .int 0]))] H := hP
  have hD : va_D (CA b s.heap.size) [(b, .inr (0, [.int 0, .int 0, .int 0, .int 0, .int (-1), .int (-1), .int 0, .int 0]))] := hD
  refine lv_aload_n hx hb d_L_init_34 rfl (lv_at hl 0 rfl) ?_
  refine lv_iconst (v := 0) hx hb d_L_init_35 (by decide) ?_
  refine va_put (D := D) (ci := 0) (v := .int 0) (ty := .int) (C := R_L) (T := T_L) (N := 8) (fs := [.int 0, .int 0, .int 0, .int 0, .int (-1), .int (-1), .int 0, .int 0]) hx hb hts in_L ft_L ft_L_ok n_L hown hK hP hD hS 0 rfl rfl 6 (by decide) (hts _ a_61) (fun _ h => h) rfl (by decide +kernel) rfl rfl (Nat.le_of_ble_eq_true rfl) d_L_init_36 (fun H locs hP hD hS => ?_)
  have hP : va_P D CLS [(b, .inr (0, [.int 0, .int 0, .int 0, .int 0, .int (-1), .int (-1), .int 0, .int 0]))] H := hP
  have hD : va_D (CA b s.heap.size) [(b, .inr (0, [.int 0, .int 0, .int 0, .int 0, .int (-1), .int (-1), .int 0, .int 0]))] := hD
  refine lv_aload_n hx hb d_L_init_39 rfl (lv_at hl 0 rfl) ?_
  refine lv_iconst (v := (-1)) hx hb d_L_init_40 (by decide) ?_
  refine va_put (D := D) (ci := 0) (v := .int (-1)) (ty := .int) (C := R_L) (T := T_L) (N := 8) (fs := [.int 0, .int 0, .int 0, .int 0, .int (-1), .int (-1), .int 0, .int 0]) hx hb hts in_L ft_L ft_L_ok n_L hown hK hP hD hS 0 rfl rfl 7 (by decide) (hts _ a_64) (fun _ h => h) rfl (by decide +kernel) rfl rfl (Nat.le_of_ble_eq_true rfl) d_L_init_41 (fun H locs hP hD hS => ?_)
  have hP : va_P D CLS [(b, .inr (0, [.int 0, .int 0, .int 0, .int 0, .int (-1), .int (-1), .int 0, .int (-1)]))] H := hP
  have hD : va_D (CA b s.heap.size) [(b, .inr (0, [.int 0, .int 0, .int 0, .int 0, .int (-1), .int (-1), .int 0, .int (-1)]))] := hD
  exact W.vret hx hb hr (fun t ht hW => ⟨⟨(), rfl, trivial, vp_at ht hP, hD⟩, hS.F ht⟩) hS.2.2 d_L_init_44
theorem w_L_init {R : Room} {s : State} {args : Array Value} {own : String} {index : Nat} (hts : ∀ w ∈ ALL, w.before args s = true) (hlk : Cond.methodLink own index y_L_init ∈ ALL) (hR : (({ frames := 1, cells := 0, slots := 0, locals := 20 } : Room)).frames + 1 ≤ R.frames ∧ 8 + (1 + 11) + (({ frames := 1, cells := 0, slots := 0, locals := 20 } : Room)).locals ≤ R.locals) : CallB R s args own index y_L_init b_L_init 1 none ws_L_init ({ frames := 1, cells := 0, slots := 0, locals := 20 } : Room) 0 0 0 ∧ y_L_init.name = "<init>" ∧ (Cond.instanceMethod y_L_init).before args s = true := ⟨callB_of 0 hts (good_c a_41) rfl rfl rfl (hts _ a_3) (hts _ hlk) (by decide +kernel) hR, rfl, hts _ a_40⟩
theorem v_L_init {R : Room} {s : State} {args : Array Value} {own : String} {index : Nat} (hts : ∀ w ∈ ALL, w.before args s = true) {host : String} (hlk : va_Nw (.methodLinkNest own index y_L_init host) s) (hR : (({ frames := 1, cells := 0, slots := 0, locals := 20 } : Room)).frames + 1 ≤ R.frames ∧ 8 + (1 + 11) + (({ frames := 1, cells := 0, slots := 0, locals := 20 } : Room)).locals ≤ R.locals) : va_CN R s args own index y_L_init host b_L_init 1 none ws_L_init ({ frames := 1, cells := 0, slots := 0, locals := 20 } : Room) 0 0 0 ∧ y_L_init.name = "<init>" ∧ (Cond.instanceMethod y_L_init).before args s = true := ⟨va_cnB 0 hts (good_c a_41) rfl rfl rfl hlk (hts _ a_3) (by decide +kernel) hR, rfl, hts _ a_40⟩
def ws_R_init : List Cond := Cond.code y_R_init b_R_init 1 none :: ALL
theorem d_R_init_0 : decode b_R_init 0 = .ok (.aload_n 0, 1) := by decide +kernel
theorem d_R_init_1 : decode b_R_init 1 = .ok (.invokespecial 3, 3) := by decide +kernel
theorem d_R_init_4 : decode b_R_init 4 = .ok (.aload_n 0, 1) := by decide +kernel
theorem d_R_init_5 : decode b_R_init 5 = .ok (.iconst 0, 1) := by decide +kernel
theorem d_R_init_6 : decode b_R_init 6 = .ok (.putfield 9, 3) := by decide +kernel
theorem d_R_init_9 : decode b_R_init 9 = .ok (.aload_n 0, 1) := by decide +kernel
theorem d_R_init_10 : decode b_R_init 10 = .ok (.iconst 0, 1) := by decide +kernel
theorem d_R_init_11 : decode b_R_init 11 = .ok (.putfield 15, 3) := by decide +kernel
theorem d_R_init_14 : decode b_R_init 14 = .ok (.aload_n 0, 1) := by decide +kernel
theorem d_R_init_15 : decode b_R_init 15 = .ok (.iconst 0, 1) := by decide +kernel
theorem d_R_init_16 : decode b_R_init 16 = .ok (.putfield 18, 3) := by decide +kernel
theorem d_R_init_19 : decode b_R_init 19 = .ok (.aload_n 0, 1) := by decide +kernel
theorem d_R_init_20 : decode b_R_init 20 = .ok (.iconst (-1), 1) := by decide +kernel
theorem d_R_init_21 : decode b_R_init 21 = .ok (.putfield 21, 3) := by decide +kernel
theorem d_R_init_24 : decode b_R_init 24 = .ok (.aload_n 0, 1) := by decide +kernel
theorem d_R_init_25 : decode b_R_init 25 = .ok (.iconst 0, 1) := by decide +kernel
theorem d_R_init_26 : decode b_R_init 26 = .ok (.putfield 24, 3) := by decide +kernel
theorem d_R_init_29 : decode b_R_init 29 = .ok (.aload_n 0, 1) := by decide +kernel
theorem d_R_init_30 : decode b_R_init 30 = .ok (.iconst 0, 1) := by decide +kernel
theorem d_R_init_31 : decode b_R_init 31 = .ok (.putfield 27, 3) := by decide +kernel
theorem d_R_init_34 : decode b_R_init 34 = .ok (.aload_n 0, 1) := by decide +kernel
theorem d_R_init_35 : decode b_R_init 35 = .ok (.iconst 0, 1) := by decide +kernel
theorem d_R_init_36 : decode b_R_init 36 = .ok (.putfield 30, 3) := by decide +kernel
theorem d_R_init_39 : decode b_R_init 39 = .ok (.aload_n 0, 1) := by decide +kernel
theorem d_R_init_40 : decode b_R_init 40 = .ok (.iconst (-1), 1) := by decide +kernel
theorem d_R_init_41 : decode b_R_init 41 = .ok (.putfield 33, 3) := by decide +kernel
theorem d_R_init_44 : decode b_R_init 44 = .ok (.aload_n 0, 1) := by decide +kernel
theorem d_R_init_45 : decode b_R_init 45 = .ok (.iconst 0, 1) := by decide +kernel
theorem d_R_init_46 : decode b_R_init 46 = .ok (.putfield 36, 3) := by decide +kernel
theorem d_R_init_49 : decode b_R_init 49 = .ok (.return_, 1) := by decide +kernel
def CW_R_init (ca : Nat → ClassId) (b : Nat) (u : Unit) : va_W := [(b, .inr (3, [.int 0, .int 0, .int 0, .int (-1), .int 0, .int 0, .int 0, .int (-1), .int 0]))]
set_option maxHeartbeats 4000000 in
set_option maxRecDepth 100000 in
theorem c_R_init (l : Launch) (D : va_G) (ca : Nat → ClassId) (b sz : Nat) : CT l y_R_init ws_R_init ({ frames := 1, cells := 0, slots := 0, locals := 20 } : Room) D ca b sz [] (.inr (3, [.int 0, .int 0, .int 0, .int 0, .int 0, .int 0, .int 0, .int 0, .int 0])) (fun _ : Unit => True) (CW_R_init ca b) 0 0 := by
  refine Met.ofW (cc := b_R_init) (maxL := 1) (ret := none) (by decide) rfl ?_
  intro p e s m args below meth c s₁ B hml hv
  obtain ⟨rfl, hsz, hP, hK, hN⟩ := hv
  have hx := B.exec
  have hb := B.bytes
  have hr := B.returns
  have hts : ∀ w ∈ ALL, w.before _ s = true := fun w h => atoms_spec (ws := ws_R_init) B.pre w (List.mem_cons_of_mem _ h)
  have hown : s.vm.findClass R_R = some m.cls := findClass_of_methodNamed B.named
  have hlocks := B.notSynchronized
  have hin : meth.name = "<init>" := (name_of_methodNamed B.named B.method).1
  subst hsz
  have hD : va_D (CA b s.heap.size) [(b, .inr (3, [.int 0, .int 0, .int 0, .int 0, .int 0, .int 0, .int 0, .int 0, .int 0]))] := cd_1
  have hA : ∀ q : Nat, s.heap.size ≤ q → CA b s.heap.size q := fun q h => Or.inr h
  have hS : va_S (CA b s.heap.size) s.heap s.heap [] := va_S.rf
  have hP : va_P D CLS [(b, .inr (3, [.int 0, .int 0, .int 0, .int 0, .int 0, .int 0, .int 0, .int 0, .int 0]))] s.heap := hP
  have hl := lv_entry ([.ref b]) (n := 1) (Nat.le_of_ble_eq_true rfl)
  rw [lg_entry_eq]
  generalize (lg_sl ([.ref b]) ++ List.replicate (1 - (lg_sl ([.ref b])).length) Slot.unset).toArray = ls at hl ⊢
  have hl : lv_has ls 1 [(0, .ref b)] := hl
  refine lv_aload_n hx hb d_R_init_0 rfl (lv_at hl 0 rfl) ?_
  refine W.objInit hx hb hown (hts _ a_109) (hts _ a_24) (hts _ a_25) rfl (by rw [hml]; exact hl.1) rfl d_R_init_1 (Nat.le_of_ble_eq_true rfl) (Nat.le_of_ble_eq_true rfl) ?_
  refine W.eq (g2 := F0 m 4 ls []) rfl ?_
  refine lv_aload_n hx hb d_R_init_4 rfl (lv_at hl 0 rfl) ?_
  refine lv_iconst (v := 0) hx hb d_R_init_5 (by decide) ?_
  refine va_put (D := D) (ci := 3) (v := .int 0) (ty := .int) (C := R_R) (T := T_R) (N := 9) (fs := [.int 0, .int 0, .int 0, .int 0, .int 0, .int 0, .int 0, .int 0, .int 0]) hx hb hts in_R ft_R ft_R_ok n_R hown hK hP hD hS 0 rfl rfl 0 (by decide) (hts _ a_110) (fun _ h => h) rfl (by decide +kernel) rfl rfl (Nat.le_of_ble_eq_true rfl) d_R_init_6 (fun H locs hP hD hS => ?_)
  have hP : va_P D CLS [(b, .inr (3, [.int 0, .int 0, .int 0, .int 0, .int 0, .int 0, .int 0, .int 0, .int 0]))] H := hP
  have hD : va_D (CA b s.heap.size) [(b, .inr (3, [.int 0, .int 0, .int 0, .int 0, .int 0, .int 0, .int 0, .int 0, .int 0]))] := hD
  refine lv_aload_n hx hb d_R_init_9 rfl (lv_at hl 0 rfl) ?_
  refine lv_iconst (v := 0) hx hb d_R_init_10 (by decide) ?_
  refine va_put (D := D) (ci := 3) (v := .int 0) (ty := .int) (C := R_R) (T := T_R) (N := 9) (fs := [.int 0, .int 0, .int 0, .int 0, .int 0, .int 0, .int 0, .int 0, .int 0]) hx hb hts in_R ft_R ft_R_ok n_R hown hK hP hD hS 0 rfl rfl 1 (by decide) (hts _ a_112) (fun _ h => h) rfl (by decide +kernel) rfl rfl (Nat.le_of_ble_eq_true rfl) d_R_init_11 (fun H locs hP hD hS => ?_)
  have hP : va_P D CLS [(b, .inr (3, [.int 0, .int 0, .int 0, .int 0, .int 0, .int 0, .int 0, .int 0, .int 0]))] H := hP
  have hD : va_D (CA b s.heap.size) [(b, .inr (3, [.int 0, .int 0, .int 0, .int 0, .int 0, .int 0, .int 0, .int 0, .int 0]))] := hD
  refine lv_aload_n hx hb d_R_init_14 rfl (lv_at hl 0 rfl) ?_
  refine lv_iconst (v := 0) hx hb d_R_init_15 (by decide) ?_
  refine va_put (D := D) (ci := 3) (v := .int 0) (ty := .int) (C := R_R) (T := T_R) (N := 9) (fs := [.int 0, .int 0, .int 0, .int 0, .int 0, .int 0, .int 0, .int 0, .int 0]) hx hb hts in_R ft_R ft_R_ok n_R hown hK hP hD hS 0 rfl rfl 2 (by decide) (hts _ a_114) (fun _ h => h) rfl (by decide +kernel) rfl rfl (Nat.le_of_ble_eq_true rfl) d_R_init_16 (fun H locs hP hD hS => ?_)
  have hP : va_P D CLS [(b, .inr (3, [.int 0, .int 0, .int 0, .int 0, .int 0, .int 0, .int 0, .int 0, .int 0]))] H := hP
  have hD : va_D (CA b s.heap.size) [(b, .inr (3, [.int 0, .int 0, .int 0, .int 0, .int 0, .int 0, .int 0, .int 0, .int 0]))] := hD
  refine lv_aload_n hx hb d_R_init_19 rfl (lv_at hl 0 rfl) ?_
  refine lv_iconst (v := (-1)) hx hb d_R_init_20 (by decide) ?_
  refine va_put (D := D) (ci := 3) (v := .int (-1)) (ty := .int) (C := R_R) (T := T_R) (N := 9) (fs := [.int 0, .int 0, .int 0, .int 0, .int 0, .int 0, .int 0, .int 0, .int 0]) hx hb hts in_R ft_R ft_R_ok n_R hown hK hP hD hS 0 rfl rfl 3 (by decide) (hts _ a_116) (fun _ h => h) rfl (by decide +kernel) rfl rfl (Nat.le_of_ble_eq_true rfl) d_R_init_21 (fun H locs hP hD hS => ?_)
  have hP : va_P D CLS [(b, .inr (3, [.int 0, .int 0, .int 0, .int (-1), .int 0, .int 0, .int 0, .int 0, .int 0]))] H := hP
  have hD : va_D (CA b s.heap.size) [(b, .inr (3, [.int 0, .int 0, .int 0, .int (-1), .int 0, .int 0, .int 0, .int 0, .int 0]))] := hD
  refine lv_aload_n hx hb d_R_init_24 rfl (lv_at hl 0 rfl) ?_
  refine lv_iconst (v := 0) hx hb d_R_init_25 (by decide) ?_
  refine va_put (D := D) (ci := 3) (v := .int 0) (ty := .int) (C := R_R) (T := T_R) (N := 9) (fs := [.int 0, .int 0, .int 0, .int (-1), .int 0, .int 0, .int 0, .int 0, .int 0]) hx hb hts in_R ft_R ft_R_ok n_R hown hK hP hD hS 0 rfl rfl 4 (by decide) (hts _ a_118) (fun _ h => h) rfl (by decide +kernel) rfl rfl (Nat.le_of_ble_eq_true rfl) d_R_init_26 (fun H locs hP hD hS => ?_)
  have hP : va_P D CLS [(b, .inr (3, [.int 0, .int 0, .int 0, .int (-1), .int 0, .int 0, .int 0, .int 0, .int 0]))] H := hP
  have hD : va_D (CA b s.heap.size) [(b, .inr (3, [.int 0, .int 0, .int 0, .int (-1), .int 0, .int 0, .int 0, .int 0, .int 0]))] := hD
  refine lv_aload_n hx hb d_R_init_29 rfl (lv_at hl 0 rfl) ?_
  refine lv_iconst (v := 0) hx hb d_R_init_30 (by decide) ?_
  refine va_put (D := D) (ci := 3) (v := .int 0) (ty := .int) (C := R_R) (T := T_R) (N := 9) (fs := [.int 0, .int 0, .int 0, .int (-1), .int 0, .int 0, .int 0, .int 0, .int 0]) hx hb hts in_R ft_R ft_R_ok n_R hown hK hP hD hS 0 rfl rfl 5 (by decide) (hts _ a_120) (fun _ h => h) rfl (by decide +kernel) rfl rfl (Nat.le_of_ble_eq_true rfl) d_R_init_31 (fun H locs hP hD hS => ?_)
  have hP : va_P D CLS [(b, .inr (3, [.int 0, .int 0, .int 0, .int (-1), .int 0, .int 0, .int 0, .int 0, .int 0]))] H := hP
  have hD : va_D (CA b s.heap.size) [(b, .inr (3, [.int 0, .int 0, .int 0, .int (-1), .int 0, .int 0, .int 0, .int 0, .int 0]))] := hD
  refine lv_aload_n hx hb d_R_init_34 rfl (lv_at hl 0 rfl) ?_
  refine lv_iconst (v := 0) hx hb d_R_init_35 (by decide) ?_
  refine va_put (D := D) (ci := 3) (v := .int 0) (ty := .int) (C := R_R) (T := T_R) (N := 9) (fs := [.int 0, .int 0, .int 0, .int (-1), .int 0, .int 0, .int 0, .int 0, .int 0]) hx hb hts in_R ft_R ft_R_ok n_R hown hK hP hD hS 0 rfl rfl 6 (by decide) (hts _ a_122) (fun _ h => h) rfl (by decide +kernel) rfl rfl (Nat.le_of_ble_eq_true rfl) d_R_init_36 (fun H locs hP hD hS => ?_)
  have hP : va_P D CLS [(b, .inr (3, [.int 0, .int 0, .int 0, .int (-1), .int 0, .int 0, .int 0, .int 0, .int 0]))] H := hP
  have hD : va_D (CA b s.heap.size) [(b, .inr (3, [.int 0, .int 0, .int 0, .int (-1), .int 0, .int 0, .int 0, .int 0, .int 0]))] := hD
  refine lv_aload_n hx hb d_R_init_39 rfl (lv_at hl 0 rfl) ?_
  refine lv_iconst (v := (-1)) hx hb d_R_init_40 (by decide) ?_
  refine va_put (D := D) (ci := 3) (v := .int (-1)) (ty := .int) (C := R_R) (T := T_R) (N := 9) (fs := [.int 0, .int 0, .int 0, .int (-1), .int 0, .int 0, .int 0, .int 0, .int 0]) hx hb hts in_R ft_R ft_R_ok n_R hown hK hP hD hS 0 rfl rfl 7 (by decide) (hts _ a_124) (fun _ h => h) rfl (by decide +kernel) rfl rfl (Nat.le_of_ble_eq_true rfl) d_R_init_41 (fun H locs hP hD hS => ?_)
  have hP : va_P D CLS [(b, .inr (3, [.int 0, .int 0, .int 0, .int (-1), .int 0, .int 0, .int 0, .int (-1), .int 0]))] H := hP
  have hD : va_D (CA b s.heap.size) [(b, .inr (3, [.int 0, .int 0, .int 0, .int (-1), .int 0, .int 0, .int 0, .int (-1), .int 0]))] := hD
  refine lv_aload_n hx hb d_R_init_44 rfl (lv_at hl 0 rfl) ?_
  refine lv_iconst (v := 0) hx hb d_R_init_45 (by decide) ?_
  refine va_put (D := D) (ci := 3) (v := .int 0) (ty := .int) (C := R_R) (T := T_R) (N := 9) (fs := [.int 0, .int 0, .int 0, .int (-1), .int 0, .int 0, .int 0, .int (-1), .int 0]) hx hb hts in_R ft_R ft_R_ok n_R hown hK hP hD hS 0 rfl rfl 8 (by decide) (hts _ a_126) (fun _ h => h) rfl (by decide +kernel) rfl rfl (Nat.le_of_ble_eq_true rfl) d_R_init_46 (fun H locs hP hD hS => ?_)
  have hP : va_P D CLS [(b, .inr (3, [.int 0, .int 0, .int 0, .int (-1), .int 0, .int 0, .int 0, .int (-1), .int 0]))] H := hP
  have hD : va_D (CA b s.heap.size) [(b, .inr (3, [.int 0, .int 0, .int 0, .int (-1), .int 0, .int 0, .int 0, .int (-1), .int 0]))] := hD
  exact W.vret hx hb hr (fun t ht hW => ⟨⟨(), rfl, trivial, vp_at ht hP, hD⟩, hS.F ht⟩) hS.2.2 d_R_init_49
theorem w_R_init {R : Room} {s : State} {args : Array Value} {own : String} {index : Nat} (hts : ∀ w ∈ ALL, w.before args s = true) (hlk : Cond.methodLink own index y_R_init ∈ ALL) (hR : (({ frames := 1, cells := 0, slots := 0, locals := 20 } : Room)).frames + 1 ≤ R.frames ∧ 8 + (1 + 11) + (({ frames := 1, cells := 0, slots := 0, locals := 20 } : Room)).locals ≤ R.locals) : CallB R s args own index y_R_init b_R_init 1 none ws_R_init ({ frames := 1, cells := 0, slots := 0, locals := 20 } : Room) 0 0 0 ∧ y_R_init.name = "<init>" ∧ (Cond.instanceMethod y_R_init).before args s = true := ⟨callB_of 0 hts (good_c a_108) rfl rfl rfl (hts _ a_5) (hts _ hlk) (by decide +kernel) hR, rfl, hts _ a_107⟩
theorem v_R_init {R : Room} {s : State} {args : Array Value} {own : String} {index : Nat} (hts : ∀ w ∈ ALL, w.before args s = true) {host : String} (hlk : va_Nw (.methodLinkNest own index y_R_init host) s) (hR : (({ frames := 1, cells := 0, slots := 0, locals := 20 } : Room)).frames + 1 ≤ R.frames ∧ 8 + (1 + 11) + (({ frames := 1, cells := 0, slots := 0, locals := 20 } : Room)).locals ≤ R.locals) : va_CN R s args own index y_R_init host b_R_init 1 none ws_R_init ({ frames := 1, cells := 0, slots := 0, locals := 20 } : Room) 0 0 0 ∧ y_R_init.name = "<init>" ∧ (Cond.instanceMethod y_R_init).before args s = true := ⟨va_cnB 0 hts (good_c a_108) rfl rfl rfl hlk (hts _ a_5) (by decide +kernel) hR, rfl, hts _ a_107⟩
def ws_T_init : List Cond := Cond.code y_T_init b_T_init 1 none :: ALL
theorem d_T_init_0 : decode b_T_init 0 = .ok (.aload_n 0, 1) := by decide +kernel
theorem d_T_init_1 : decode b_T_init 1 = .ok (.invokespecial 3, 3) := by decide +kernel
theorem d_T_init_4 : decode b_T_init 4 = .ok (.aload_n 0, 1) := by decide +kernel
theorem d_T_init_5 : decode b_T_init 5 = .ok (.iconst 0, 1) := by decide +kernel
theorem d_T_init_6 : decode b_T_init 6 = .ok (.putfield 9, 3) := by decide +kernel
theorem d_T_init_9 : decode b_T_init 9 = .ok (.aload_n 0, 1) := by decide +kernel
theorem d_T_init_10 : decode b_T_init 10 = .ok (.iconst 0, 1) := by decide +kernel
theorem d_T_init_11 : decode b_T_init 11 = .ok (.putfield 15, 3) := by decide +kernel
theorem d_T_init_14 : decode b_T_init 14 = .ok (.aload_n 0, 1) := by decide +kernel
theorem d_T_init_15 : decode b_T_init 15 = .ok (.iconst 4, 1) := by decide +kernel
theorem d_T_init_16 : decode b_T_init 16 = .ok (.newarray .int, 2) := by decide +kernel
theorem d_T_init_18 : decode b_T_init 18 = .ok (.putfield 18, 3) := by decide +kernel
theorem d_T_init_21 : decode b_T_init 21 = .ok (.aload_n 0, 1) := by decide +kernel
theorem d_T_init_22 : decode b_T_init 22 = .ok (.iconst 4, 1) := by decide +kernel
theorem d_T_init_23 : decode b_T_init 23 = .ok (.newarray .int, 2) := by decide +kernel
theorem d_T_init_25 : decode b_T_init 25 = .ok (.putfield 22, 3) := by decide +kernel
theorem d_T_init_28 : decode b_T_init 28 = .ok (.return_, 1) := by decide +kernel
def CW_T_init (ca : Nat → ClassId) (b : Nat) (u : Nat × Nat) : va_W := [(b, .inr (4, [.int 0, .int 0, .ref u.1, .ref u.2])), (u.1, .inl (ca 0, 4, .inl (fun _ => 0))), (u.2, .inl (ca 0, 4, .inl (fun _ => 0)))]
set_option maxHeartbeats 4000000 in
set_option maxRecDepth 100000 in
theorem c_T_init (l : Launch) (D : va_G) (ca : Nat → ClassId) (b sz : Nat) : CT l y_T_init ws_T_init ({ frames := 1, cells := 2, slots := 8, locals := 20 } : Room) D ca b sz [] (.inr (4, [.int 0, .int 0, .null, .null])) (fun _ : Nat × Nat => True) (CW_T_init ca b) 2 8 := by
  refine Met.ofW (cc := b_T_init) (maxL := 1) (ret := none) (by decide) rfl ?_
  intro p e s m args below meth c s₁ B hml hv
  obtain ⟨rfl, hsz, hP, hK, hN⟩ := hv
  have hx := B.exec
  have hb := B.bytes
  have hr := B.returns
  have hts : ∀ w ∈ ALL, w.before _ s = true := fun w h => atoms_spec (ws := ws_T_init) B.pre w (List.mem_cons_of_mem _ h)
  have hown : s.vm.findClass R_T = some m.cls := findClass_of_methodNamed B.named
  have hlocks := B.notSynchronized
  have hin : meth.name = "<init>" := (name_of_methodNamed B.named B.method).1
  subst hsz
  have hD : va_D (CA b s.heap.size) [(b, .inr (4, [.int 0, .int 0, .null, .null]))] := cd_1
  have hA : ∀ q : Nat, s.heap.size ≤ q → CA b s.heap.size q := fun q h => Or.inr h
  have hS : va_S (CA b s.heap.size) s.heap s.heap [] := va_S.rf
  have hP : va_P D CLS [(b, .inr (4, [.int 0, .int 0, .null, .null]))] s.heap := hP
  have hl := lv_entry ([.ref b]) (n := 1) (Nat.le_of_ble_eq_true rfl)
  rw [lg_entry_eq]
  generalize (lg_sl ([.ref b]) ++ List.replicate (1 - (lg_sl ([.ref b])).length) Slot.unset).toArray = ls at hl ⊢
  have hl : lv_has ls 1 [(0, .ref b)] := hl
  refine lv_aload_n hx hb d_T_init_0 rfl (lv_at hl 0 rfl) ?_
  refine W.objInit hx hb hown (hts _ a_188) (hts _ a_24) (hts _ a_25) rfl (by rw [hml]; exact hl.1) rfl d_T_init_1 (Nat.le_of_ble_eq_true rfl) (Nat.le_of_ble_eq_true rfl) ?_
  refine W.eq (g2 := F0 m 4 ls []) rfl ?_
  refine lv_aload_n hx hb d_T_init_4 rfl (lv_at hl 0 rfl) ?_
  refine lv_iconst (v := 0) hx hb d_T_init_5 (by decide) ?_
  refine va_put (D := D) (ci := 4) (v := .int 0) (ty := .int) (C := R_T) (T := T_T) (N := 4) (fs := [.int 0, .int 0, .null, .null]) hx hb hts in_T ft_T ft_T_ok n_T hown hK hP hD hS 0 rfl rfl 0 (by decide) (hts _ a_189) (fun _ h => h) rfl (by decide +kernel) rfl rfl (Nat.le_of_ble_eq_true rfl) d_T_init_6 (fun H locs hP hD hS => ?_)
  have hP : va_P D CLS [(b, .inr (4, [.int 0, .int 0, .null, .null]))] H := hP
  have hD : va_D (CA b s.heap.size) [(b, .inr (4, [.int 0, .int 0, .null, .null]))] := hD
  refine lv_aload_n hx hb d_T_init_9 rfl (lv_at hl 0 rfl) ?_
  refine lv_iconst (v := 0) hx hb d_T_init_10 (by decide) ?_
  refine va_put (D := D) (ci := 4) (v := .int 0) (ty := .int) (C := R_T) (T := T_T) (N := 4) (fs := [.int 0, .int 0, .null, .null]) hx hb hts in_T ft_T ft_T_ok n_T hown hK hP hD hS 0 rfl rfl 1 (by decide) (hts _ a_191) (fun _ h => h) rfl (by decide +kernel) rfl rfl (Nat.le_of_ble_eq_true rfl) d_T_init_11 (fun H locs hP hD hS => ?_)
  have hP : va_P D CLS [(b, .inr (4, [.int 0, .int 0, .null, .null]))] H := hP
  have hD : va_D (CA b s.heap.size) [(b, .inr (4, [.int 0, .int 0, .null, .null]))] := hD
  refine lv_aload_n hx hb d_T_init_14 rfl (lv_at hl 0 rfl) ?_
  refine lv_iconst (v := 4) hx hb d_T_init_15 (by decide) ?_
  refine va_newa (atype := .int) (N' := 4) (a0 := (4, .inl (fun _ => 0))) (ty := .int) hx hb (hts _ a_147) rfl hK hP hD hS hA (fun _ => rfl) (by decide) rfl (by decide) (Nat.le_of_ble_eq_true rfl) (Nat.le_of_ble_eq_true rfl) d_T_init_16 (fun q1 cA H hK9 hP hD hS => ?_)
  obtain rfl := ca_int hK9
  have hP : va_P D CLS [(b, .inr (4, [.int 0, .int 0, .null, .null])), (q1, .inl (ca 0, 4, .inl (fun _ => 0)))] H := hP
  have hD : va_D (CA b s.heap.size) [(b, .inr (4, [.int 0, .int 0, .null, .null])), (q1, .inl (ca 0, 4, .inl (fun _ => 0)))] := hD
  refine va_putF (D := D) (ci := 4) (v := .ref q1) (ty := .array .int) (C := R_T) (T := T_T) (N := 4) (fs := [.int 0, .int 0, .null, .null]) hx hb hts in_T ft_T ft_T_ok n_T hown hK hP hD hS 0 rfl rfl 2 (by decide) (hts _ a_193) (fun _ h => h) rfl hin rfl (by decide +kernel) rfl rfl (Nat.le_of_ble_eq_true rfl) d_T_init_18 (fun H locs hP hD hS => ?_)
  have hP : va_P D CLS [(b, .inr (4, [.int 0, .int 0, .ref q1, .null])), (q1, .inl (ca 0, 4, .inl (fun _ => 0)))] H := hP
  have hD : va_D (CA b s.heap.size) [(b, .inr (4, [.int 0, .int 0, .ref q1, .null])), (q1, .inl (ca 0, 4, .inl (fun _ => 0)))] := hD
  refine lv_aload_n hx hb d_T_init_21 rfl (lv_at hl 0 rfl) ?_
  refine lv_iconst (v := 4) hx hb d_T_init_22 (by decide) ?_
  refine va_newa (atype := .int) (N' := 4) (a0 := (4, .inl (fun _ => 0))) (ty := .int) hx hb (hts _ a_147) rfl hK hP hD hS hA (fun _ => rfl) (by decide) rfl (by decide) (Nat.le_of_ble_eq_true rfl) (Nat.le_of_ble_eq_true rfl) d_T_init_23 (fun q2 cA H hK9 hP hD hS => ?_)
  obtain rfl := ca_int hK9
  have hP : va_P D CLS [(b, .inr (4, [.int 0, .int 0, .ref q1, .null])), (q1, .inl (ca 0, 4, .inl (fun _ => 0))), (q2, .inl (ca 0, 4, .inl (fun _ => 0)))] H := hP
  have hD : va_D (CA b s.heap.size) [(b, .inr (4, [.int 0, .int 0, .ref q1, .null])), (q1, .inl (ca 0, 4, .inl (fun _ => 0))), (q2, .inl (ca 0, 4, .inl (fun _ => 0)))] := hD
  refine va_putF (D := D) (ci := 4) (v := .ref q2) (ty := .array .int) (C := R_T) (T := T_T) (N := 4) (fs := [.int 0, .int 0, .ref q1, .null]) hx hb hts in_T ft_T ft_T_ok n_T hown hK hP hD hS 0 rfl rfl 3 (by decide) (hts _ a_194) (fun _ h => h) rfl hin rfl (by decide +kernel) rfl rfl (Nat.le_of_ble_eq_true rfl) d_T_init_25 (fun H locs hP hD hS => ?_)
  have hP : va_P D CLS [(b, .inr (4, [.int 0, .int 0, .ref q1, .ref q2])), (q1, .inl (ca 0, 4, .inl (fun _ => 0))), (q2, .inl (ca 0, 4, .inl (fun _ => 0)))] H := hP
  have hD : va_D (CA b s.heap.size) [(b, .inr (4, [.int 0, .int 0, .ref q1, .ref q2])), (q1, .inl (ca 0, 4, .inl (fun _ => 0))), (q2, .inl (ca 0, 4, .inl (fun _ => 0)))] := hD
  exact W.vret hx hb hr (fun t ht hW => ⟨⟨(q1, q2), rfl, trivial, vp_at ht hP, hD⟩, hS.F ht⟩) hS.2.2 d_T_init_28
theorem w_T_init {R : Room} {s : State} {args : Array Value} {own : String} {index : Nat} (hts : ∀ w ∈ ALL, w.before args s = true) (hlk : Cond.methodLink own index y_T_init ∈ ALL) (hR : (({ frames := 1, cells := 2, slots := 8, locals := 20 } : Room)).frames + 1 ≤ R.frames ∧ 8 + (1 + 11) + (({ frames := 1, cells := 2, slots := 8, locals := 20 } : Room)).locals ≤ R.locals) : CallB R s args own index y_T_init b_T_init 1 none ws_T_init ({ frames := 1, cells := 2, slots := 8, locals := 20 } : Room) 2 8 0 ∧ y_T_init.name = "<init>" ∧ (Cond.instanceMethod y_T_init).before args s = true := ⟨callB_of 0 hts (good_c a_187) rfl rfl rfl (hts _ a_7) (hts _ hlk) (by decide +kernel) hR, rfl, hts _ a_186⟩
theorem v_T_init {R : Room} {s : State} {args : Array Value} {own : String} {index : Nat} (hts : ∀ w ∈ ALL, w.before args s = true) {host : String} (hlk : va_Nw (.methodLinkNest own index y_T_init host) s) (hR : (({ frames := 1, cells := 2, slots := 8, locals := 20 } : Room)).frames + 1 ≤ R.frames ∧ 8 + (1 + 11) + (({ frames := 1, cells := 2, slots := 8, locals := 20 } : Room)).locals ≤ R.locals) : va_CN R s args own index y_T_init host b_T_init 1 none ws_T_init ({ frames := 1, cells := 2, slots := 8, locals := 20 } : Room) 2 8 0 ∧ y_T_init.name = "<init>" ∧ (Cond.instanceMethod y_T_init).before args s = true := ⟨va_cnB 0 hts (good_c a_187) rfl rfl rfl hlk (hts _ a_7) (by decide +kernel) hR, rfl, hts _ a_186⟩
def ws_JA_fill : List Cond := Cond.code y_JA_fill b_JA_fill 4 none :: ALL
theorem d_JA_fill_0 : decode b_JA_fill 0 = .ok (.iconst 0, 1) := by decide +kernel
theorem d_JA_fill_1 : decode b_JA_fill 1 = .ok (.istore_n 2, 1) := by decide +kernel
theorem d_JA_fill_2 : decode b_JA_fill 2 = .ok (.aload_n 0, 1) := by decide +kernel
theorem d_JA_fill_3 : decode b_JA_fill 3 = .ok (.arraylength, 1) := by decide +kernel
theorem d_JA_fill_4 : decode b_JA_fill 4 = .ok (.istore_n 3, 1) := by decide +kernel
theorem d_JA_fill_5 : decode b_JA_fill 5 = .ok (.iload_n 2, 1) := by decide +kernel
theorem d_JA_fill_6 : decode b_JA_fill 6 = .ok (.iload_n 3, 1) := by decide +kernel
theorem d_JA_fill_7 : decode b_JA_fill 7 = .ok (.if_icmp .ge 13, 3) := by decide +kernel
theorem d_JA_fill_10 : decode b_JA_fill 10 = .ok (.aload_n 0, 1) := by decide +kernel
theorem d_JA_fill_11 : decode b_JA_fill 11 = .ok (.iload_n 2, 1) := by decide +kernel
theorem d_JA_fill_12 : decode b_JA_fill 12 = .ok (.iload_n 1, 1) := by decide +kernel
theorem d_JA_fill_13 : decode b_JA_fill 13 = .ok (.iastore, 1) := by decide +kernel
theorem d_JA_fill_14 : decode b_JA_fill 14 = .ok (.iinc 2 1, 3) := by decide +kernel
theorem d_JA_fill_17 : decode b_JA_fill 17 = .ok (.goto (-12), 3) := by decide +kernel
theorem d_JA_fill_20 : decode b_JA_fill 20 = .ok (.return_, 1) := by decide +kernel
def filled (n : Nat) (v : Int32) (f : Nat → Int32) : Nat → Int32 := fun j => if j < n then v else f j
theorem filled_succ {n : Nat} {v : Int32} {f : Nat → Int32} : upd (filled n v f) n v = filled (n + 1) v f := by
  funext j
  simp only [upd, filled]
  by_cases h1 : j = n
  · simp [h1]
  · by_cases h2 : j < n
    · simp [h1, h2, Nat.lt_succ_of_lt h2]
    · have h3 : ¬ j < n + 1 := by omega
      simp [h1, h2, h3]
theorem i32_lt {a b : Nat} (ha : a < 2147483648) (hb : b < 2147483648) : Int32.ofNat a < Int32.ofNat b ↔ a < b := by
  rw [Int32.lt_iff_toInt_lt, Int32.toInt_ofNat_of_lt ha, Int32.toInt_ofNat_of_lt hb]; omega
theorem i32_le {a b : Nat} (ha : a < 2147483648) (hb : b < 2147483648) : Int32.ofNat a ≤ Int32.ofNat b ↔ a ≤ b := by
  rw [Int32.le_iff_toInt_le, Int32.toInt_ofNat_of_lt ha, Int32.toInt_ofNat_of_lt hb]; omega
theorem i32_nat {a : Nat} (ha : a < 2147483648) : (Int32.ofNat a).toNatClampNeg = a := Int32.toNatClampNeg_ofNat_of_lt ha
theorem i32_in {a n : Nat} (ha : a < 2147483648) (h : a < n) : vp_in (Int32.ofNat a) n := in_of ⟨(i32_le (a := 0) (by omega) ha).mpr (Nat.zero_le _), by rw [i32_nat ha]; exact h⟩
set_option maxHeartbeats 4000000 in
set_option maxRecDepth 100000 in
theorem lp_JA_fill {p : Program} {l : Launch} {e : Env} {s : State} {m : MethodId} {args : Array Value} {below : List Frame} {meth : Method} {c : Code} {D : va_G} {ca : Nat → ClassId} {b N : Nat} {v : Int32} {f : Nat → Int32} (hNs : N < 2147483648) (hx : p.tables.exec = Jvm.exec) (hb : c.code = b_JA_fill) (hr : meth.sig.returnType = none) (hlocks : meth.locks = false) (hK : va_K D CLS (TYH ca) s) : ∀ (n i : Nat), i + n = N → ∀ (H : Heap) (locs : List Loc) (ls : Array Slot), va_P D CLS [(b, .inl (ca 0, N, .inl (filled i v f)))] H → va_D (fun q => q = b) [(b, .inl (ca 0, N, .inl (filled i v f)))] → va_S (fun q => q = b) s.heap H locs → lv_has ls 4 [(2, .int (Int32.ofNat i)), (3, .int (Int32.ofNat N)), (0, .ref b), (1, .int v)] → W p l e ({ frames := 0, cells := 0, slots := 0, locals := 0 } : Room) s m args below meth c H locs 0 0 (MQ below (va_Qv (fun _ : Unit => True) (fun _ t => va_P D CLS [(b, .inl (ca 0, N, .inl (filled N v f)))] t.heap) (fun q => q = b)) args s 0 0 (fun q => q = b)) (F0 m 5 ls []) := by
  intro n
  induction n with
  | zero =>
    intro i hi H locs ls hP hD hS hl
    obtain rfl : i = N := by omega
    refine lv_iload_n hx hb d_JA_fill_5 rfl (lv_at hl 0 rfl) ?_
    refine lv_iload_n hx hb d_JA_fill_6 rfl (lv_at hl 1 rfl) ?_
    refine lv_icmp_ge (tgt := 20) hx hb d_JA_fill_7 (by decide) (fun _ => ?_) (fun h => absurd ((i32_le hNs hNs).mpr (Nat.le_refl _)) h)
    exact W.vret hx hb hr (fun t ht hW => ⟨⟨(), rfl, trivial, vp_at ht hP⟩, hS.F ht⟩) hS.2.2 d_JA_fill_20
  | succ n ih =>
    intro i hi H locs ls hP hD hS hl
    have hiN : i < N := by omega
    refine lv_iload_n hx hb d_JA_fill_5 rfl (lv_at hl 0 rfl) ?_
    refine lv_iload_n hx hb d_JA_fill_6 rfl (lv_at hl 1 rfl) ?_
    refine lv_icmp_ge (tgt := 20) hx hb d_JA_fill_7 (by decide) (fun h => absurd ((i32_le hNs (by omega)).mp h) (by omega)) (fun _ => ?_)
    refine lv_aload_n hx hb d_JA_fill_10 rfl (lv_at hl 2 rfl) ?_
    refine lv_iload_n hx hb d_JA_fill_11 rfl (lv_at hl 0 rfl) ?_
    refine lv_iload_n hx hb d_JA_fill_12 rfl (lv_at hl 3 rfl) ?_
    refine va_iast (cA := ca 0) (n := N) (f := filled i v f) hx hb hK hP hD hS 0 0 rfl rfl (i32_in (by omega) hiN) d_JA_fill_13 (fun H locs hP hD hS => ?_)
    rw [i32_nat (by omega), filled_succ] at hP hD
    refine lv_iinc (k := 0) (v := Int32.ofNat i + 1) (lv' := [(2, .int (Int32.ofNat (i + 1))), (3, .int (Int32.ofNat N)), (0, .ref b), (1, .int v)]) hx hb d_JA_fill_14 hl rfl rfl (by decide) (by rw [Int32.ofNat_add]; rfl) (fun ls hl => ?_)
    refine lv_goto (tgt := 5) hx hb d_JA_fill_17 (by decide) ?_
    exact ih (i + 1) (by omega) _ _ _ hP hD hS hl
set_option maxHeartbeats 4000000 in
set_option maxRecDepth 100000 in
theorem c_JA_fill (l : Launch) (D : va_G) (ca : Nat → ClassId) (b N : Nat) (v : Int32) (f : Nat → Int32) (hNs : N < 2147483648) : Met l y_JA_fill ws_JA_fill ({ frames := 0, cells := 0, slots := 0, locals := 0 } : Room) (va_Pc [.ref b, .int v] (fun U => va_P D CLS [(b, .inl (ca 0, N, .inl f))] U.heap ∧ va_K D CLS (TYH ca) U)) (va_Qv (fun _ : Unit => True) (fun _ t => va_P D CLS [(b, .inl (ca 0, N, .inl (filled N v f)))] t.heap) (fun q => q = b)) 0 0 (fun q => q = b) := by
  refine Met.ofW (cc := b_JA_fill) (maxL := 4) (ret := none) (by decide) rfl ?_
  intro p e s m args below meth c s₁ B hml hv
  obtain ⟨rfl, hP, hK⟩ := hv
  have hx := B.exec
  have hb := B.bytes
  have hr := B.returns
  have hts : ∀ w ∈ ALL, w.before _ s = true := fun w h => atoms_spec (ws := ws_JA_fill) B.pre w (List.mem_cons_of_mem _ h)
  have hown : s.vm.findClass R_JA = some m.cls := findClass_of_methodNamed B.named
  have hlocks := B.notSynchronized
  have hS : va_S (fun q => q = b) s.heap s.heap [] := va_S.rf
  have hP : va_P D CLS [(b, .inl (ca 0, N, .inl f))] s.heap := hP
  have hD : va_D (fun q => q = b) [(b, .inl (ca 0, N, .inl f))] := ⟨(cd_1 (b := b) (sz := 0)).1, fun k q hk => by have h1 : k < 1 := (List.getElem?_eq_some_iff.mp hk).1; obtain rfl : k = 0 := (by omega); cases hk; rfl⟩
  have hl := lv_entry ([.ref b, .int v]) (n := 4) (Nat.le_of_ble_eq_true rfl)
  rw [lg_entry_eq]
  generalize (lg_sl ([.ref b, .int v]) ++ List.replicate (4 - (lg_sl ([.ref b, .int v])).length) Slot.unset).toArray = ls at hl ⊢
  have hl : lv_has ls 4 [(0, .ref b), (1, .int v)] := hl
  refine lv_iconst (v := 0) hx hb d_JA_fill_0 (by decide) ?_
  refine lv_istore_n (lv' := [(2, .int 0), (0, .ref b), (1, .int v)]) hx hb d_JA_fill_1 rfl hl (by decide) rfl (fun ls hl => ?_)
  refine lv_aload_n hx hb d_JA_fill_2 rfl (lv_at hl 1 rfl) ?_
  refine va_alen (cA := ca 0) (x := (N, .inl f)) hx hb hK hP 0 0 rfl rfl rfl d_JA_fill_3 ?_
  refine lv_istore_n (lv' := [(3, .int (Int32.ofNat N)), (2, .int 0), (0, .ref b), (1, .int v)]) hx hb d_JA_fill_4 rfl hl (by decide) rfl (fun ls hl => ?_)
  have h0 : f = filled 0 v f := by funext j; simp [filled]
  rw [h0] at hP hD
  have hl : lv_has ls 4 [(2, .int (Int32.ofNat 0)), (3, .int (Int32.ofNat N)), (0, .ref b), (1, .int v)] := lv_sub hl [1, 0, 2, 3] rfl
  exact lp_JA_fill hNs hx hb hr hlocks hK N 0 (by omega) _ _ _ hP hD hS hl
theorem w_JA_fill {R : Room} {s : State} {args : Array Value} {own : String} {index : Nat} (hts : ∀ w ∈ ALL, w.before args s = true) (hlk : Cond.methodLink own index y_JA_fill ∈ ALL) (hR : (({ frames := 0, cells := 0, slots := 0, locals := 0 } : Room)).frames + 1 ≤ R.frames ∧ 8 + (4 + 11) + (({ frames := 0, cells := 0, slots := 0, locals := 0 } : Room)).locals ≤ R.locals) : CallB R s args own index y_JA_fill b_JA_fill 4 none ws_JA_fill ({ frames := 0, cells := 0, slots := 0, locals := 0 } : Room) 0 0 2 ∧ (Cond.static y_JA_fill).before args s = true := ⟨callB_of 2 hts (good_c a_150) rfl rfl rfl (hts _ a_6) (hts _ hlk) (by decide +kernel) hR, hts _ a_149⟩
def ws_O_init : List Cond := Cond.code y_O_init b_O_init 2 none :: ALL
theorem d_O_init_0 : decode b_O_init 0 = .ok (.aload_n 0, 1) := by decide +kernel
theorem d_O_init_1 : decode b_O_init 1 = .ok (.invokespecial 3, 3) := by decide +kernel
theorem d_O_init_4 : decode b_O_init 4 = .ok (.aload_n 0, 1) := by decide +kernel
theorem d_O_init_5 : decode b_O_init 5 = .ok (.iconst 0, 1) := by decide +kernel
theorem d_O_init_6 : decode b_O_init 6 = .ok (.putfield 9, 3) := by decide +kernel
theorem d_O_init_9 : decode b_O_init 9 = .ok (.aload_n 0, 1) := by decide +kernel
theorem d_O_init_10 : decode b_O_init 10 = .ok (.bipush 6, 2) := by decide +kernel
theorem d_O_init_12 : decode b_O_init 12 = .ok (.newarray .int, 2) := by decide +kernel
theorem d_O_init_14 : decode b_O_init 14 = .ok (.putfield 15, 3) := by decide +kernel
theorem d_O_init_17 : decode b_O_init 17 = .ok (.aload_n 0, 1) := by decide +kernel
theorem d_O_init_18 : decode b_O_init 18 = .ok (.bipush 6, 2) := by decide +kernel
theorem d_O_init_20 : decode b_O_init 20 = .ok (.newarray .int, 2) := by decide +kernel
theorem d_O_init_22 : decode b_O_init 22 = .ok (.putfield 19, 3) := by decide +kernel
theorem d_O_init_25 : decode b_O_init 25 = .ok (.aload_n 0, 1) := by decide +kernel
theorem d_O_init_26 : decode b_O_init 26 = .ok (.bipush 6, 2) := by decide +kernel
theorem d_O_init_28 : decode b_O_init 28 = .ok (.newarray .int, 2) := by decide +kernel
theorem d_O_init_30 : decode b_O_init 30 = .ok (.putfield 22, 3) := by decide +kernel
theorem d_O_init_33 : decode b_O_init 33 = .ok (.aload_n 0, 1) := by decide +kernel
theorem d_O_init_34 : decode b_O_init 34 = .ok (.iconst 0, 1) := by decide +kernel
theorem d_O_init_35 : decode b_O_init 35 = .ok (.putfield 25, 3) := by decide +kernel
theorem d_O_init_38 : decode b_O_init 38 = .ok (.aload_n 0, 1) := by decide +kernel
theorem d_O_init_39 : decode b_O_init 39 = .ok (.iconst (-1), 1) := by decide +kernel
theorem d_O_init_40 : decode b_O_init 40 = .ok (.putfield 29, 3) := by decide +kernel
theorem d_O_init_43 : decode b_O_init 43 = .ok (.aload_n 0, 1) := by decide +kernel
theorem d_O_init_44 : decode b_O_init 44 = .ok (.new 32, 3) := by decide +kernel
theorem d_O_init_47 : decode b_O_init 47 = .ok (.dup, 1) := by decide +kernel
theorem d_O_init_48 : decode b_O_init 48 = .ok (.invokespecial 34, 3) := by decide +kernel
theorem d_O_init_51 : decode b_O_init 51 = .ok (.putfield 35, 3) := by decide +kernel
theorem d_O_init_54 : decode b_O_init 54 = .ok (.aload_n 0, 1) := by decide +kernel
theorem d_O_init_55 : decode b_O_init 55 = .ok (.iload_n 1, 1) := by decide +kernel
theorem d_O_init_56 : decode b_O_init 56 = .ok (.putfield 39, 3) := by decide +kernel
theorem d_O_init_59 : decode b_O_init 59 = .ok (.aload_n 0, 1) := by decide +kernel
theorem d_O_init_60 : decode b_O_init 60 = .ok (.getfield 19, 3) := by decide +kernel
theorem d_O_init_63 : decode b_O_init 63 = .ok (.iconst (-1), 1) := by decide +kernel
theorem d_O_init_64 : decode b_O_init 64 = .ok (.invokestatic 42, 3) := by decide +kernel
theorem d_O_init_67 : decode b_O_init 67 = .ok (.aload_n 0, 1) := by decide +kernel
theorem d_O_init_68 : decode b_O_init 68 = .ok (.getfield 22, 3) := by decide +kernel
theorem d_O_init_71 : decode b_O_init 71 = .ok (.iconst (-1), 1) := by decide +kernel
theorem d_O_init_72 : decode b_O_init 72 = .ok (.invokestatic 42, 3) := by decide +kernel
theorem d_O_init_75 : decode b_O_init 75 = .ok (.return_, 1) := by decide +kernel
def CW_O_init (ca : Nat → ClassId) (b : Nat) (a1 : Int32) (u : Nat × Nat × Nat × Nat) : va_W := [(b, .inr (2, [.int a1, .int 0, .ref u.1, .ref u.2.1, .ref u.2.2.1, .int 0, .int (-1), .ref u.2.2.2])), (u.1, .inl (ca 0, 6, .inl (fun _ => 0))), (u.2.1, .inl (ca 0, 6, .inl (filled 6 (-1) (fun _ => 0)))), (u.2.2.1, .inl (ca 0, 6, .inl (filled 6 (-1) (fun _ => 0)))), (u.2.2.2, .inr (3, [.int 0, .int 0, .int 0, .int (-1), .int 0, .int 0, .int 0, .int (-1), .int 0]))]
set_option maxHeartbeats 4000000 in
set_option maxRecDepth 100000 in
theorem c_O_init (l : Launch) (D : va_G) (ca : Nat → ClassId) (b sz : Nat) (a1 : Int32) : CT l y_O_init ws_O_init ({ frames := 2, cells := 4, slots := 27, locals := 40 } : Room) D ca b sz [.int a1] (.inr (2, [.int 0, .int 0, .null, .null, .null, .int 0, .int 0, .null])) (fun _ : Nat × Nat × Nat × Nat => True) (CW_O_init ca b a1) 4 27 := by
  refine Met.ofW (cc := b_O_init) (maxL := 2) (ret := none) (by decide) rfl ?_
  intro p e s m args below meth c s₁ B hml hv
  obtain ⟨rfl, hsz, hP, hK, hN⟩ := hv
  have hx := B.exec
  have hb := B.bytes
  have hr := B.returns
  have hts : ∀ w ∈ ALL, w.before _ s = true := fun w h => atoms_spec (ws := ws_O_init) B.pre w (List.mem_cons_of_mem _ h)
  have hown : s.vm.findClass R_O = some m.cls := findClass_of_methodNamed B.named
  have hlocks := B.notSynchronized
  have hin : meth.name = "<init>" := (name_of_methodNamed B.named B.method).1
  subst hsz
  have hD : va_D (CA b s.heap.size) [(b, .inr (2, [.int 0, .int 0, .null, .null, .null, .int 0, .int 0, .null]))] := cd_1
  have hA : ∀ q : Nat, s.heap.size ≤ q → CA b s.heap.size q := fun q h => Or.inr h
  have hS : va_S (CA b s.heap.size) s.heap s.heap [] := va_S.rf
  have hP : va_P D CLS [(b, .inr (2, [.int 0, .int 0, .null, .null, .null, .int 0, .int 0, .null]))] s.heap := hP
  have hl := lv_entry ([.ref b, .int a1]) (n := 2) (Nat.le_of_ble_eq_true rfl)
  rw [lg_entry_eq]
  generalize (lg_sl ([.ref b, .int a1]) ++ List.replicate (2 - (lg_sl ([.ref b, .int a1])).length) Slot.unset).toArray = ls at hl ⊢
  have hl : lv_has ls 2 [(0, .ref b), (1, .int a1)] := hl
  refine lv_aload_n hx hb d_O_init_0 rfl (lv_at hl 0 rfl) ?_
  refine W.objInit hx hb hown (hts _ a_103) (hts _ a_24) (hts _ a_25) rfl (by rw [hml]; exact hl.1) rfl d_O_init_1 (Nat.le_of_ble_eq_true rfl) (Nat.le_of_ble_eq_true rfl) ?_
  refine W.eq (g2 := F0 m 4 ls []) rfl ?_
  refine lv_aload_n hx hb d_O_init_4 rfl (lv_at hl 0 rfl) ?_
  refine lv_iconst (v := 0) hx hb d_O_init_5 (by decide) ?_
  refine va_put (D := D) (ci := 2) (v := .int 0) (ty := .int) (C := R_O) (T := T_O) (N := 8) (fs := [.int 0, .int 0, .null, .null, .null, .int 0, .int 0, .null]) hx hb hts in_O ft_O ft_O_ok n_O hown hK hP hD hS 0 rfl rfl 1 (by decide) (hts _ a_153) (fun _ h => h) rfl (by decide +kernel) rfl rfl (Nat.le_of_ble_eq_true rfl) d_O_init_6 (fun H locs hP hD hS => ?_)
  have hP : va_P D CLS [(b, .inr (2, [.int 0, .int 0, .null, .null, .null, .int 0, .int 0, .null]))] H := hP
  have hD : va_D (CA b s.heap.size) [(b, .inr (2, [.int 0, .int 0, .null, .null, .null, .int 0, .int 0, .null]))] := hD
  refine lv_aload_n hx hb d_O_init_9 rfl (lv_at hl 0 rfl) ?_
  refine lv_bipush (v := 6) hx hb d_O_init_10 (by decide) ?_
  refine va_newa (atype := .int) (N' := 6) (a0 := (6, .inl (fun _ => 0))) (ty := .int) hx hb (hts _ a_147) rfl hK hP hD hS hA (fun _ => rfl) (by decide) rfl (by decide) (Nat.le_of_ble_eq_true rfl) (Nat.le_of_ble_eq_true rfl) d_O_init_12 (fun q1 cA H hK9 hP hD hS => ?_)
  obtain rfl := ca_int hK9
  have hP : va_P D CLS [(b, .inr (2, [.int 0, .int 0, .null, .null, .null, .int 0, .int 0, .null])), (q1, .inl (ca 0, 6, .inl (fun _ => 0)))] H := hP
  have hD : va_D (CA b s.heap.size) [(b, .inr (2, [.int 0, .int 0, .null, .null, .null, .int 0, .int 0, .null])), (q1, .inl (ca 0, 6, .inl (fun _ => 0)))] := hD
  refine va_putF (D := D) (ci := 2) (v := .ref q1) (ty := .array .int) (C := R_O) (T := T_O) (N := 8) (fs := [.int 0, .int 0, .null, .null, .null, .int 0, .int 0, .null]) hx hb hts in_O ft_O ft_O_ok n_O hown hK hP hD hS 0 rfl rfl 2 (by decide) (hts _ a_155) (fun _ h => h) rfl hin rfl (by decide +kernel) rfl rfl (Nat.le_of_ble_eq_true rfl) d_O_init_14 (fun H locs hP hD hS => ?_)
  have hP : va_P D CLS [(b, .inr (2, [.int 0, .int 0, .ref q1, .null, .null, .int 0, .int 0, .null])), (q1, .inl (ca 0, 6, .inl (fun _ => 0)))] H := hP
  have hD : va_D (CA b s.heap.size) [(b, .inr (2, [.int 0, .int 0, .ref q1, .null, .null, .int 0, .int 0, .null])), (q1, .inl (ca 0, 6, .inl (fun _ => 0)))] := hD
  refine lv_aload_n hx hb d_O_init_17 rfl (lv_at hl 0 rfl) ?_
  refine lv_bipush (v := 6) hx hb d_O_init_18 (by decide) ?_
  refine va_newa (atype := .int) (N' := 6) (a0 := (6, .inl (fun _ => 0))) (ty := .int) hx hb (hts _ a_147) rfl hK hP hD hS hA (fun _ => rfl) (by decide) rfl (by decide) (Nat.le_of_ble_eq_true rfl) (Nat.le_of_ble_eq_true rfl) d_O_init_20 (fun q2 cA H hK9 hP hD hS => ?_)
  obtain rfl := ca_int hK9
  have hP : va_P D CLS [(b, .inr (2, [.int 0, .int 0, .ref q1, .null, .null, .int 0, .int 0, .null])), (q1, .inl (ca 0, 6, .inl (fun _ => 0))), (q2, .inl (ca 0, 6, .inl (fun _ => 0)))] H := hP
  have hD : va_D (CA b s.heap.size) [(b, .inr (2, [.int 0, .int 0, .ref q1, .null, .null, .int 0, .int 0, .null])), (q1, .inl (ca 0, 6, .inl (fun _ => 0))), (q2, .inl (ca 0, 6, .inl (fun _ => 0)))] := hD
  refine va_putF (D := D) (ci := 2) (v := .ref q2) (ty := .array .int) (C := R_O) (T := T_O) (N := 8) (fs := [.int 0, .int 0, .ref q1, .null, .null, .int 0, .int 0, .null]) hx hb hts in_O ft_O ft_O_ok n_O hown hK hP hD hS 0 rfl rfl 3 (by decide) (hts _ a_157) (fun _ h => h) rfl hin rfl (by decide +kernel) rfl rfl (Nat.le_of_ble_eq_true rfl) d_O_init_22 (fun H locs hP hD hS => ?_)
  have hP : va_P D CLS [(b, .inr (2, [.int 0, .int 0, .ref q1, .ref q2, .null, .int 0, .int 0, .null])), (q1, .inl (ca 0, 6, .inl (fun _ => 0))), (q2, .inl (ca 0, 6, .inl (fun _ => 0)))] H := hP
  have hD : va_D (CA b s.heap.size) [(b, .inr (2, [.int 0, .int 0, .ref q1, .ref q2, .null, .int 0, .int 0, .null])), (q1, .inl (ca 0, 6, .inl (fun _ => 0))), (q2, .inl (ca 0, 6, .inl (fun _ => 0)))] := hD
  refine lv_aload_n hx hb d_O_init_25 rfl (lv_at hl 0 rfl) ?_
  refine lv_bipush (v := 6) hx hb d_O_init_26 (by decide) ?_
  refine va_newa (atype := .int) (N' := 6) (a0 := (6, .inl (fun _ => 0))) (ty := .int) hx hb (hts _ a_147) rfl hK hP hD hS hA (fun _ => rfl) (by decide) rfl (by decide) (Nat.le_of_ble_eq_true rfl) (Nat.le_of_ble_eq_true rfl) d_O_init_28 (fun q3 cA H hK9 hP hD hS => ?_)
  obtain rfl := ca_int hK9
  have hP : va_P D CLS [(b, .inr (2, [.int 0, .int 0, .ref q1, .ref q2, .null, .int 0, .int 0, .null])), (q1, .inl (ca 0, 6, .inl (fun _ => 0))), (q2, .inl (ca 0, 6, .inl (fun _ => 0))), (q3, .inl (ca 0, 6, .inl (fun _ => 0)))] H := hP
  have hD : va_D (CA b s.heap.size) [(b, .inr (2, [.int 0, .int 0, .ref q1, .ref q2, .null, .int 0, .int 0, .null])), (q1, .inl (ca 0, 6, .inl (fun _ => 0))), (q2, .inl (ca 0, 6, .inl (fun _ => 0))), (q3, .inl (ca 0, 6, .inl (fun _ => 0)))] := hD
  refine va_putF (D := D) (ci := 2) (v := .ref q3) (ty := .array .int) (C := R_O) (T := T_O) (N := 8) (fs := [.int 0, .int 0, .ref q1, .ref q2, .null, .int 0, .int 0, .null]) hx hb hts in_O ft_O ft_O_ok n_O hown hK hP hD hS 0 rfl rfl 4 (by decide) (hts _ a_159) (fun _ h => h) rfl hin rfl (by decide +kernel) rfl rfl (Nat.le_of_ble_eq_true rfl) d_O_init_30 (fun H locs hP hD hS => ?_)
  have hP : va_P D CLS [(b, .inr (2, [.int 0, .int 0, .ref q1, .ref q2, .ref q3, .int 0, .int 0, .null])), (q1, .inl (ca 0, 6, .inl (fun _ => 0))), (q2, .inl (ca 0, 6, .inl (fun _ => 0))), (q3, .inl (ca 0, 6, .inl (fun _ => 0)))] H := hP
  have hD : va_D (CA b s.heap.size) [(b, .inr (2, [.int 0, .int 0, .ref q1, .ref q2, .ref q3, .int 0, .int 0, .null])), (q1, .inl (ca 0, 6, .inl (fun _ => 0))), (q2, .inl (ca 0, 6, .inl (fun _ => 0))), (q3, .inl (ca 0, 6, .inl (fun _ => 0)))] := hD
  refine lv_aload_n hx hb d_O_init_33 rfl (lv_at hl 0 rfl) ?_
  refine lv_iconst (v := 0) hx hb d_O_init_34 (by decide) ?_
  refine va_put (D := D) (ci := 2) (v := .int 0) (ty := .boolean) (C := R_O) (T := T_O) (N := 8) (fs := [.int 0, .int 0, .ref q1, .ref q2, .ref q3, .int 0, .int 0, .null]) hx hb hts in_O ft_O ft_O_ok n_O hown hK hP hD hS 0 rfl rfl 5 (by decide) (hts _ a_161) (fun _ h => h) rfl (by decide +kernel) rfl rfl (Nat.le_of_ble_eq_true rfl) d_O_init_35 (fun H locs hP hD hS => ?_)
  have hP : va_P D CLS [(b, .inr (2, [.int 0, .int 0, .ref q1, .ref q2, .ref q3, .int 0, .int 0, .null])), (q1, .inl (ca 0, 6, .inl (fun _ => 0))), (q2, .inl (ca 0, 6, .inl (fun _ => 0))), (q3, .inl (ca 0, 6, .inl (fun _ => 0)))] H := hP
  have hD : va_D (CA b s.heap.size) [(b, .inr (2, [.int 0, .int 0, .ref q1, .ref q2, .ref q3, .int 0, .int 0, .null])), (q1, .inl (ca 0, 6, .inl (fun _ => 0))), (q2, .inl (ca 0, 6, .inl (fun _ => 0))), (q3, .inl (ca 0, 6, .inl (fun _ => 0)))] := hD
  refine lv_aload_n hx hb d_O_init_38 rfl (lv_at hl 0 rfl) ?_
  refine lv_iconst (v := (-1)) hx hb d_O_init_39 (by decide) ?_
  refine va_put (D := D) (ci := 2) (v := .int (-1)) (ty := .int) (C := R_O) (T := T_O) (N := 8) (fs := [.int 0, .int 0, .ref q1, .ref q2, .ref q3, .int 0, .int 0, .null]) hx hb hts in_O ft_O ft_O_ok n_O hown hK hP hD hS 0 rfl rfl 6 (by decide) (hts _ a_163) (fun _ h => h) rfl (by decide +kernel) rfl rfl (Nat.le_of_ble_eq_true rfl) d_O_init_40 (fun H locs hP hD hS => ?_)
  have hP : va_P D CLS [(b, .inr (2, [.int 0, .int 0, .ref q1, .ref q2, .ref q3, .int 0, .int (-1), .null])), (q1, .inl (ca 0, 6, .inl (fun _ => 0))), (q2, .inl (ca 0, 6, .inl (fun _ => 0))), (q3, .inl (ca 0, 6, .inl (fun _ => 0)))] H := hP
  have hD : va_D (CA b s.heap.size) [(b, .inr (2, [.int 0, .int 0, .ref q1, .ref q2, .ref q3, .int 0, .int (-1), .null])), (q1, .inl (ca 0, 6, .inl (fun _ => 0))), (q2, .inl (ca 0, 6, .inl (fun _ => 0))), (q3, .inl (ca 0, 6, .inl (fun _ => 0)))] := hD
  refine lv_aload_n hx hb d_O_init_43 rfl (lv_at hl 0 rfl) ?_
  refine va_new (ci := 3) (fs := [.int 0, .int 0, .int 0, .int 0, .int 0, .int 0, .int 0, .int 0, .int 0]) (C := R_R) (T := T_R) (N := 9) hx hb hts in_R ft_R ft_R_ok hown (hts _ a_104) (hts _ a_105) (hts _ a_5) hK hP hD hS hA rfl (by decide +kernel) (Nat.le_of_ble_eq_true rfl) (Nat.le_of_ble_eq_true rfl) d_O_init_44 (fun q4 H hP hD hS => ?_)
  refine lv_dup hx hb d_O_init_47 rfl ?_
  refine k_ctorN (w0 := [(b, .inr (2, [.int 0, .int 0, .ref q1, .ref q2, .ref q3, .int 0, .int (-1), .null])), (q1, .inl (ca 0, 6, .inl (fun _ => 0))), (q2, .inl (ca 0, 6, .inl (fun _ => 0))), (q3, .inl (ca 0, 6, .inl (fun _ => 0)))]) [] [.ref q4, .ref b] ⟨hx, hb, hml, hown, hts⟩ (c_R_init l D ca q4 H.size) (v_R_init hts (hN.1 _ nl_0) ⟨Nat.le_of_ble_eq_true rfl, Nat.le_of_ble_eq_true rfl⟩) hP hD hA hS hK hN rfl rfl hl.1 (Nat.le_of_ble_eq_true rfl) ⟨Nat.le_of_ble_eq_true rfl, Nat.le_of_ble_eq_true rfl⟩ d_O_init_48 (fun u H locs _ hP hD hS => ?_)
  have hP : va_P D CLS [(b, .inr (2, [.int 0, .int 0, .ref q1, .ref q2, .ref q3, .int 0, .int (-1), .null])), (q1, .inl (ca 0, 6, .inl (fun _ => 0))), (q2, .inl (ca 0, 6, .inl (fun _ => 0))), (q3, .inl (ca 0, 6, .inl (fun _ => 0))), (q4, .inr (3, [.int 0, .int 0, .int 0, .int (-1), .int 0, .int 0, .int 0, .int (-1), .int 0]))] H := hP
  have hD : va_D (CA b s.heap.size) [(b, .inr (2, [.int 0, .int 0, .ref q1, .ref q2, .ref q3, .int 0, .int (-1), .null])), (q1, .inl (ca 0, 6, .inl (fun _ => 0))), (q2, .inl (ca 0, 6, .inl (fun _ => 0))), (q3, .inl (ca 0, 6, .inl (fun _ => 0))), (q4, .inr (3, [.int 0, .int 0, .int 0, .int (-1), .int 0, .int 0, .int 0, .int (-1), .int 0]))] := hD
  refine va_putF (D := D) (ci := 2) (v := .ref q4) (ty := .object "TripleHouse$Run") (C := R_O) (T := T_O) (N := 8) (fs := [.int 0, .int 0, .ref q1, .ref q2, .ref q3, .int 0, .int (-1), .null]) hx hb hts in_O ft_O ft_O_ok n_O hown hK hP hD hS 0 rfl rfl 7 (by decide) (hts _ a_165) (fun _ h => h) rfl hin rfl (by decide +kernel) rfl rfl (Nat.le_of_ble_eq_true rfl) d_O_init_51 (fun H locs hP hD hS => ?_)
  have hP : va_P D CLS [(b, .inr (2, [.int 0, .int 0, .ref q1, .ref q2, .ref q3, .int 0, .int (-1), .ref q4])), (q1, .inl (ca 0, 6, .inl (fun _ => 0))), (q2, .inl (ca 0, 6, .inl (fun _ => 0))), (q3, .inl (ca 0, 6, .inl (fun _ => 0))), (q4, .inr (3, [.int 0, .int 0, .int 0, .int (-1), .int 0, .int 0, .int 0, .int (-1), .int 0]))] H := hP
  have hD : va_D (CA b s.heap.size) [(b, .inr (2, [.int 0, .int 0, .ref q1, .ref q2, .ref q3, .int 0, .int (-1), .ref q4])), (q1, .inl (ca 0, 6, .inl (fun _ => 0))), (q2, .inl (ca 0, 6, .inl (fun _ => 0))), (q3, .inl (ca 0, 6, .inl (fun _ => 0))), (q4, .inr (3, [.int 0, .int 0, .int 0, .int (-1), .int 0, .int 0, .int 0, .int (-1), .int 0]))] := hD
  refine lv_aload_n hx hb d_O_init_54 rfl (lv_at hl 0 rfl) ?_
  refine lv_iload_n hx hb d_O_init_55 rfl (lv_at hl 1 rfl) ?_
  refine va_putF (D := D) (ci := 2) (v := .int a1) (ty := .int) (C := R_O) (T := T_O) (N := 8) (fs := [.int 0, .int 0, .ref q1, .ref q2, .ref q3, .int 0, .int (-1), .ref q4]) hx hb hts in_O ft_O ft_O_ok n_O hown hK hP hD hS 0 rfl rfl 0 (by decide) (hts _ a_151) (fun _ h => h) rfl hin rfl (by decide +kernel) rfl rfl (Nat.le_of_ble_eq_true rfl) d_O_init_56 (fun H locs hP hD hS => ?_)
  have hP : va_P D CLS [(b, .inr (2, [.int a1, .int 0, .ref q1, .ref q2, .ref q3, .int 0, .int (-1), .ref q4])), (q1, .inl (ca 0, 6, .inl (fun _ => 0))), (q2, .inl (ca 0, 6, .inl (fun _ => 0))), (q3, .inl (ca 0, 6, .inl (fun _ => 0))), (q4, .inr (3, [.int 0, .int 0, .int 0, .int (-1), .int 0, .int 0, .int 0, .int (-1), .int 0]))] H := hP
  have hD : va_D (CA b s.heap.size) [(b, .inr (2, [.int a1, .int 0, .ref q1, .ref q2, .ref q3, .int 0, .int (-1), .ref q4])), (q1, .inl (ca 0, 6, .inl (fun _ => 0))), (q2, .inl (ca 0, 6, .inl (fun _ => 0))), (q3, .inl (ca 0, 6, .inl (fun _ => 0))), (q4, .inr (3, [.int 0, .int 0, .int 0, .int (-1), .int 0, .int 0, .int 0, .int (-1), .int 0]))] := hD
  refine lv_aload_n hx hb d_O_init_59 rfl (lv_at hl 0 rfl) ?_
  refine va_get (D := D) (ci := 2) (C := R_O) (T := T_O) (N := 8) (fs := [.int a1, .int 0, .ref q1, .ref q2, .ref q3, .int 0, .int (-1), .ref q4]) hx hb hts in_O hown hK hP 0 rfl rfl 3 (by decide) (hts _ a_157) (fun _ h => h) rfl d_O_init_60 ?_
  refine lv_iconst (v := (-1)) hx hb d_O_init_63 (by decide) ?_
  refine k_fill (k := 2) (wf := [(b, .inr (2, [.int a1, .int 0, .ref q1, .ref q2, .ref q3, .int 0, .int (-1), .ref q4])), (q1, .inl (ca 0, 6, .inl (fun _ => 0))), (q2, .inl (ca 0, 6, .inl (fun _ => 0))), (q3, .inl (ca 0, 6, .inl (fun _ => 0))), (q4, .inr (3, [.int 0, .int 0, .int 0, .int (-1), .int 0, .int 0, .int 0, .int (-1), .int 0]))]) [] ⟨hx, hb, hml, hown, hts⟩ (c_JA_fill l D ca q2 6 (-1) (fun _ => 0) (by decide)) (w_JA_fill hts a_148 ⟨Nat.le_of_ble_eq_true rfl, Nat.le_of_ble_eq_true rfl⟩) hP hD hS hK rfl rfl hl.1 (Nat.le_of_ble_eq_true rfl) ⟨Nat.le_of_ble_eq_true rfl, Nat.le_of_ble_eq_true rfl⟩ d_O_init_64 (fun H locs hP hD hS => ?_)
  have hP : va_P D CLS [(b, .inr (2, [.int a1, .int 0, .ref q1, .ref q2, .ref q3, .int 0, .int (-1), .ref q4])), (q1, .inl (ca 0, 6, .inl (fun _ => 0))), (q2, .inl (ca 0, 6, .inl (filled 6 (-1) (fun _ => 0)))), (q3, .inl (ca 0, 6, .inl (fun _ => 0))), (q4, .inr (3, [.int 0, .int 0, .int 0, .int (-1), .int 0, .int 0, .int 0, .int (-1), .int 0]))] H := hP
  have hD : va_D (CA b s.heap.size) [(b, .inr (2, [.int a1, .int 0, .ref q1, .ref q2, .ref q3, .int 0, .int (-1), .ref q4])), (q1, .inl (ca 0, 6, .inl (fun _ => 0))), (q2, .inl (ca 0, 6, .inl (filled 6 (-1) (fun _ => 0)))), (q3, .inl (ca 0, 6, .inl (fun _ => 0))), (q4, .inr (3, [.int 0, .int 0, .int 0, .int (-1), .int 0, .int 0, .int 0, .int (-1), .int 0]))] := hD
  refine lv_aload_n hx hb d_O_init_67 rfl (lv_at hl 0 rfl) ?_
  refine va_get (D := D) (ci := 2) (C := R_O) (T := T_O) (N := 8) (fs := [.int a1, .int 0, .ref q1, .ref q2, .ref q3, .int 0, .int (-1), .ref q4]) hx hb hts in_O hown hK hP 0 rfl rfl 4 (by decide) (hts _ a_159) (fun _ h => h) rfl d_O_init_68 ?_
  refine lv_iconst (v := (-1)) hx hb d_O_init_71 (by decide) ?_
  refine k_fill (k := 3) (wf := [(b, .inr (2, [.int a1, .int 0, .ref q1, .ref q2, .ref q3, .int 0, .int (-1), .ref q4])), (q1, .inl (ca 0, 6, .inl (fun _ => 0))), (q2, .inl (ca 0, 6, .inl (filled 6 (-1) (fun _ => 0)))), (q3, .inl (ca 0, 6, .inl (fun _ => 0))), (q4, .inr (3, [.int 0, .int 0, .int 0, .int (-1), .int 0, .int 0, .int 0, .int (-1), .int 0]))]) [] ⟨hx, hb, hml, hown, hts⟩ (c_JA_fill l D ca q3 6 (-1) (fun _ => 0) (by decide)) (w_JA_fill hts a_148 ⟨Nat.le_of_ble_eq_true rfl, Nat.le_of_ble_eq_true rfl⟩) hP hD hS hK rfl rfl hl.1 (Nat.le_of_ble_eq_true rfl) ⟨Nat.le_of_ble_eq_true rfl, Nat.le_of_ble_eq_true rfl⟩ d_O_init_72 (fun H locs hP hD hS => ?_)
  have hP : va_P D CLS [(b, .inr (2, [.int a1, .int 0, .ref q1, .ref q2, .ref q3, .int 0, .int (-1), .ref q4])), (q1, .inl (ca 0, 6, .inl (fun _ => 0))), (q2, .inl (ca 0, 6, .inl (filled 6 (-1) (fun _ => 0)))), (q3, .inl (ca 0, 6, .inl (filled 6 (-1) (fun _ => 0)))), (q4, .inr (3, [.int 0, .int 0, .int 0, .int (-1), .int 0, .int 0, .int 0, .int (-1), .int 0]))] H := hP
  have hD : va_D (CA b s.heap.size) [(b, .inr (2, [.int a1, .int 0, .ref q1, .ref q2, .ref q3, .int 0, .int (-1), .ref q4])), (q1, .inl (ca 0, 6, .inl (fun _ => 0))), (q2, .inl (ca 0, 6, .inl (filled 6 (-1) (fun _ => 0)))), (q3, .inl (ca 0, 6, .inl (filled 6 (-1) (fun _ => 0)))), (q4, .inr (3, [.int 0, .int 0, .int 0, .int (-1), .int 0, .int 0, .int 0, .int (-1), .int 0]))] := hD
  exact W.vret hx hb hr (fun t ht hW => ⟨⟨(q1, q2, q3, q4), rfl, trivial, vp_at ht hP, hD⟩, hS.F ht⟩) hS.2.2 d_O_init_75
theorem w_O_init {R : Room} {s : State} {args : Array Value} {own : String} {index : Nat} (hts : ∀ w ∈ ALL, w.before args s = true) (hlk : Cond.methodLink own index y_O_init ∈ ALL) (hR : (({ frames := 2, cells := 4, slots := 27, locals := 40 } : Room)).frames + 1 ≤ R.frames ∧ 8 + (2 + 11) + (({ frames := 2, cells := 4, slots := 27, locals := 40 } : Room)).locals ≤ R.locals) : CallB R s args own index y_O_init b_O_init 2 none ws_O_init ({ frames := 2, cells := 4, slots := 27, locals := 40 } : Room) 4 27 1 ∧ y_O_init.name = "<init>" ∧ (Cond.instanceMethod y_O_init).before args s = true := ⟨callB_of 1 hts (good_c a_102) rfl rfl rfl (hts _ a_4) (hts _ hlk) (by decide +kernel) hR, rfl, hts _ a_101⟩
theorem v_O_init {R : Room} {s : State} {args : Array Value} {own : String} {index : Nat} (hts : ∀ w ∈ ALL, w.before args s = true) {host : String} (hlk : va_Nw (.methodLinkNest own index y_O_init host) s) (hR : (({ frames := 2, cells := 4, slots := 27, locals := 40 } : Room)).frames + 1 ≤ R.frames ∧ 8 + (2 + 11) + (({ frames := 2, cells := 4, slots := 27, locals := 40 } : Room)).locals ≤ R.locals) : va_CN R s args own index y_O_init host b_O_init 2 none ws_O_init ({ frames := 2, cells := 4, slots := 27, locals := 40 } : Room) 4 27 1 ∧ y_O_init.name = "<init>" ∧ (Cond.instanceMethod y_O_init).before args s = true := ⟨va_cnB 1 hts (good_c a_102) rfl rfl rfl hlk (hts _ a_4) (by decide +kernel) hR, rfl, hts _ a_101⟩
