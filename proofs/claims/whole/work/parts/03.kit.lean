def nm_ {α β : Type} (x : α) (k : α → β) : β := k x
theorem nm_u {α β : Type} {x : α} {k : α → Option β} {r : β} (h : nm_ x k = some r) : ∃ y, y = x ∧ k y = some r := ⟨x, rfl, h⟩
theorem nm_q {α β : Type} {x y : α} {k : α → Option β} {r : β} (h : nm_ x k = some r) (e : y = x) : k y = some r := by rw [e]; exact h
theorem it_t {β : Type} {c : Prop} [Decidable c] {a b : Option β} {r : β} (h : (if c then a else b) = some r) (hc : c) : a = some r := by rw [if_pos hc] at h; exact h
theorem it_f {β : Type} {c : Prop} [Decidable c] {a b : Option β} {r : β} (h : (if c then a else b) = some r) (hc : ¬ c) : b = some r := by rw [if_neg hc] at h; exact h
theorem as_u {β : Type} {c : Prop} [Decidable c] {a : Option β} {r : β} (h : (if c then a else none) = some r) : c ∧ a = some r := by
  by_cases hc : c
  · rw [if_pos hc] at h; exact ⟨hc, h⟩
  · rw [if_neg hc] at h; cases h
def bd_ {α β γ : Type} (o : Option (α × β)) (f : α → β → Option γ) : Option γ := match o with
  | some q => f q.1 q.2
  | none => none
theorem bd_u {α β γ : Type} {o : Option (α × β)} {f : α → β → Option γ} {r : γ} (h : bd_ o f = some r) : ∃ a b, o = some (a, b) ∧ f a b = some r := by
  cases o with
  | none => cases h
  | some q => exact ⟨q.1, q.2, rfl, h⟩
def bs_ {α γ : Type} (o : Option α) (f : α → Option γ) : Option γ := match o with
  | some q => f q
  | none => none
theorem bs_u {α γ : Type} {o : Option α} {f : α → Option γ} {r : γ} (h : bs_ o f = some r) : ∃ a, o = some a ∧ f a = some r := by
  cases o with
  | none => cases h
  | some q => exact ⟨q, rfl, h⟩
def bt_ {α β γ δ : Type} (o : Option (α × β × γ)) (f : α → β → γ → Option δ) : Option δ := match o with
  | some q => f q.1 q.2.1 q.2.2
  | none => none
theorem bt_u {α β γ δ : Type} {o : Option (α × β × γ)} {f : α → β → γ → Option δ} {r : δ} (h : bt_ o f = some r) : ∃ a b c, o = some (a, b, c) ∧ f a b c = some r := by
  cases o with
  | none => cases h
  | some q => exact ⟨q.1, q.2.1, q.2.2, rfl, h⟩
theorem rt2 {α β : Type} {a r : α} {u w : β} (h : some (a, u) = some (r, w)) : a = r ∧ u = w := by cases h; exact ⟨rfl, rfl⟩
theorem rt3 {α β γ : Type} {a r : α} {b q : β} {u w : γ} (h : some (a, b, u) = some (r, q, w)) : a = r ∧ b = q ∧ u = w := by cases h; exact ⟨rfl, rfl, rfl⟩
theorem rt1 {α : Type} {a r : α} (h : some a = some r) : a = r := by cases h; rfl
theorem in_of {i : Int32} {n : Nat} (h : 0 ≤ i ∧ i.toNatClampNeg < n) : vp_in i n := by
  rintro (h1 | h1)
  · exact absurd h1 (Int32.not_lt.mpr h.1)
  · exact Nat.not_lt.mpr h1 h.2
theorem nb_of {v : Int32} (h : v = 0 ∨ v = 1) : narrow .boolean (.int v) = .int v := by rcases h with rfl | rfl <;> rfl
def up3 (g : Nat → Nat → Nat → Int32) (k i s : Nat) (v : Int32) : Nat → Nat → Nat → Int32 := fun k' i' => if k' = k ∧ i' = i then upd (g k' i') s v else g k' i'
theorem up3_ne {g : Nat → Nat → Nat → Int32} {k i s k' i' : Nat} {v : Int32} (h : ¬ (k' = k ∧ i' = i)) : up3 g k i s v k' i' = g k' i' := if_neg h
theorem up3_eq {g : Nat → Nat → Nat → Int32} {k i s : Nat} {v : Int32} : up3 g k i s v k i = upd (g k i) s v := if_pos ⟨rfl, rfl⟩
def up2 (g : Nat → Nat → Int32) (k s : Nat) (v : Int32) : Nat → Nat → Int32 := fun k' => if k' = k then upd (g k') s v else g k'
theorem up2_ne {g : Nat → Nat → Int32} {k s k' : Nat} {v : Int32} (h : ¬ k' = k) : up2 g k s v k' = g k' := if_neg h
theorem up2_eq {g : Nat → Nat → Int32} {k s : Nat} {v : Int32} : up2 g k s v k = upd (g k) s v := if_pos rfl
def wx {U : Type} (IX : List (Nat × Nat)) (ad : Nat → Nat → Nat) (xc : U → Nat → Nat → va_E) (u : U) : va_W := IX.map (fun q => (ad q.1 q.2, xc u q.1 q.2))
def AX (IX : List (Nat × Nat)) (ad : Nat → Nat → Nat) : Nat → Prop := fun q => ∃ x ∈ IX, q = ad x.1 x.2
theorem wx_get {U : Type} {IX : List (Nat × Nat)} {ad : Nat → Nat → Nat} {xc : U → Nat → Nat → va_E} {u : U} {k i : Nat} (h : (k, i) ∈ IX) : ∃ n : Nat, (wx IX ad xc u)[n]? = some (ad k i, xc u k i) :=
  List.getElem?_of_mem (List.mem_map.mpr ⟨(k, i), h, rfl⟩)
theorem wx_at {U : Type} {IX : List (Nat × Nat)} {ad : Nat → Nat → Nat} {xc : U → Nat → Nat → va_E} {u : U} {n : Nat} {x : Nat × va_E} (h : (wx IX ad xc u)[n]? = some x) : ∃ q, IX[n]? = some q ∧ x = (ad q.1 q.2, xc u q.1 q.2) := by
  unfold wx at h
  rw [List.getElem?_map] at h
  cases hq : IX[n]? with
  | none => rw [hq] at h; cases h
  | some q => rw [hq] at h; exact ⟨q, rfl, (Option.some.inj h).symm⟩
theorem wx_set {U : Type} {IX : List (Nat × Nat)} {ad : Nat → Nat → Nat} {xc : U → Nat → Nat → va_E} {u u' : U} {A : Nat → Prop} {n k i : Nat} {e : va_E} (hD : va_D A (wx IX ad xc u)) (h : (k, i) ∈ IX) (hn : (wx IX ad xc u)[n]? = some (ad k i, xc u k i))
    (he : xc u' k i = e) (hne : ∀ q ∈ IX, ¬ (q.1 = k ∧ q.2 = i) → xc u' q.1 q.2 = xc u q.1 q.2) : (wx IX ad xc u).set n (ad k i, e) = wx IX ad xc u' := by
  have hl := (List.getElem?_eq_some_iff.mp hn).1
  have hIX : IX[n]? = some (k, i) := by
    obtain ⟨n', h'⟩ := List.getElem?_of_mem h
    have h2 : (wx IX ad xc u)[n']? = some (ad k i, xc u k i) := by unfold wx; rw [List.getElem?_map, h']; rfl
    have := hD.1 n n' _ _ hn h2 rfl
    rw [this]; exact h'
  apply List.ext_getElem?
  intro j
  by_cases hj : j = n
  · subst hj
    rw [List.getElem?_set_self hl]
    unfold wx
    rw [List.getElem?_map, hIX]
    show some (ad k i, e) = some (ad k i, xc u' k i)
    rw [he]
  · rw [List.getElem?_set_ne (Ne.symm hj)]
    unfold wx
    rw [List.getElem?_map, List.getElem?_map]
    cases hq : IX[j]? with
    | none => rfl
    | some q =>
      show some (ad q.1 q.2, xc u q.1 q.2) = some (ad q.1 q.2, xc u' q.1 q.2)
      rw [hne q (List.mem_of_getElem? hq)]
      rintro ⟨h1, h2⟩
      have h3 : (wx IX ad xc u)[j]? = some (ad k i, xc u k i) := by unfold wx; rw [List.getElem?_map, hq, ← h1, ← h2]; rfl
      exact hj (hD.1 j n _ _ h3 hn rfl)
theorem wx_D {U : Type} {IX : List (Nat × Nat)} {ad : Nat → Nat → Nat} {xc : U → Nat → Nat → va_E} {u u' : U} {A : Nat → Prop} (hD : va_D A (wx IX ad xc u)) : va_D A (wx IX ad xc u') := by
  have key : ∀ (n : Nat) (x : Nat × va_E), (wx IX ad xc u')[n]? = some x → ∃ y, (wx IX ad xc u)[n]? = some y ∧ y.1 = x.1 := by
    intro n x h
    obtain ⟨q, hq, rfl⟩ := wx_at h
    exact ⟨(ad q.1 q.2, xc u q.1 q.2), by unfold wx; rw [List.getElem?_map, hq]; rfl, rfl⟩
  refine ⟨fun i j x y hi hj hxy => ?_, fun n x h => ?_⟩
  · obtain ⟨x0, h1, h2⟩ := key i x hi
    obtain ⟨y0, h3, h4⟩ := key j y hj
    exact hD.1 i j x0 y0 h1 h3 (h2.trans (hxy.trans h4.symm))
  · obtain ⟨x0, h1, h2⟩ := key n x h
    rw [← h2]; exact hD.2 n x0 h1
theorem wd_blind {D : va_G} {cl : List vw_C} {tys : List (ClassId × FieldType)} {vs : List Value} {ws : va_W} : FrameBlind (va_Pc vs (fun U => va_P D cl ws U.heap ∧ va_K D cl tys U)) := fun a U g mk q => by
  obtain ⟨q0, qP, qK⟩ := q
  exact ⟨q0, qP, va_K.moved (u := U) (U := U.calling g mk a) (Vm.Alike.refl U.vm) qK⟩
theorem pu_blind {vs : List Value} : FrameBlind (va_Pc vs (fun _ => True)) := fun _ _ _ _ q => q
theorem vp_at {D : va_G} {cl : List vw_C} {w : va_W} {H : Heap} {t : State} (ht : t.heap = H) (hP : va_P D cl w H) : va_P D cl w t.heap := by rw [ht]; exact hP

section KCALL
variable {p : Program} {l : Launch} {e : Env} {R : Room} {s : State} {m : MethodId} {args : Array Value} {below : List Frame} {meth : Method} {c : Code} {H : Heap} {locs : List Loc} {cells slots : Nat} {Q : State → Prop}
variable {y : MethodName} {bytes cc : ByteArray} {maxL nL n index : Nat} {ret : Option FieldType} {ws Ts : List Cond} {rm : Room} {own C : String} {pc : Nat} {ls : Array Slot} {st0 : List Value} {D : va_G} {cl : List vw_C} {tys : List (ClassId × FieldType)} {w w' : va_W} {A A0 : Nat → Prop} {H0 : Heap}
theorem k_sp {r0 : Int32} (As rest : List Value) (S : CallFix p m c cc nL s args Ts own) (hM : Met l y ws rm (va_Pc As (fun _ => True)) (vp_Si (fun r => r = r0)) 0 0 (fun _ => False)) (cw : CallB R s args own index y bytes maxL ret ws rm 0 0 n ∧ (Cond.static y).before args s = true)
    (h0 : st0 = As.reverse ++ rest) (hn : As.length = n) (hsize : ls.size = nL) (hst : (rest.map fun v => v.category).sum ≤ 8) (hf : cells ≤ R.cells ∧ slots ≤ R.slots) (hdg : decode cc pc = .ok (.invokestatic index, 3))
    (kk : W p l e R s m args below meth c H locs cells slots Q (F0 m (pc + 3) ls (.int r0 :: rest))) : W p l e R s m args below meth c H locs cells slots Q (F0 m pc ls st0) :=
  vp_callSi (rest := rest) (W.runS (As := As) (rest := rest) S hM cw ⟨pu_blind, fun U _ _ => ⟨rfl, trivial⟩⟩ rfl hn hsize h0 (lv_room hst) hdg hf) (fun r hr => by subst hr; exact kk)
theorem k_vp {r0 : Int32} (b : Nat) (As rest : List Value) (S : CallFix p m c cc nL s args Ts own) (hM : Met l y ws rm (va_Pc (.ref b :: As) (fun U => va_P D cl w U.heap ∧ va_K D cl tys U)) (vp_Si (fun r => r = r0)) 0 0 (fun _ => False)) (cw : CallW R s args own C index y bytes maxL ret ws rm 0 0 n)
    (hrv : ∃ cellB : Cell, H[b]? = some cellB ∧ cellB.vm.isStatics = false ∧ s.vm.findClass C = some cellB.cls) (hP : va_P D cl w H) (hK : va_K D cl tys s)
    (h0 : st0 = As.reverse ++ .ref b :: rest) (hn : As.length = n) (hsize : ls.size = nL) (hst : (rest.map fun v => v.category).sum ≤ 8) (hf : cells ≤ R.cells ∧ slots ≤ R.slots) (hdg : decode cc pc = .ok (.invokevirtual index, 3))
    (kk : W p l e R s m args below meth c H locs cells slots Q (F0 m (pc + 3) ls (.int r0 :: rest))) : W p l e R s m args below meth c H locs cells slots Q (F0 m pc ls st0) :=
  vp_callSi (rest := rest) (W.runV (As := As) (rest := rest) (b := b) S hM cw ⟨wd_blind, hrv, fun U hU hW => ⟨rfl, by rw [hU]; exact hP, va_K.moved hW.alike hK⟩⟩ rfl hn hsize h0 (lv_room hst) hdg hf) (fun r hr => by subst hr; exact kk)
theorem k_vi {r0 : Int32} (b : Nat) (As rest : List Value) (S : CallFix p m c cc nL s args Ts own) (hM : Met l y ws rm (va_Pc (.ref b :: As) (fun U => va_P D cl w U.heap ∧ va_K D cl tys U)) (va_Qi (fun (r : Int32) (_ : Unit) => r = r0) (fun _ t => va_P D cl w' t.heap) A) 0 0 A) (cw : CallW R s args own C index y bytes maxL ret ws rm 0 0 n)
    (hrv : ∃ cellB : Cell, H[b]? = some cellB ∧ cellB.vm.isStatics = false ∧ s.vm.findClass C = some cellB.cls) (hP : va_P D cl w H) (hK : va_K D cl tys s) (hS : va_S A0 H0 H locs) (hA : ∀ q, A q → A0 q)
    (h0 : st0 = As.reverse ++ .ref b :: rest) (hn : As.length = n) (hsize : ls.size = nL) (hst : (rest.map fun v => v.category).sum ≤ 8) (hf : cells ≤ R.cells ∧ slots ≤ R.slots) (hdg : decode cc pc = .ok (.invokevirtual index, 3))
    (kk : ∀ (H1 : Heap) (locs1 : List Loc), va_P D cl w' H1 → va_S A0 H0 H1 locs1 → W p l e R s m args below meth c H1 locs1 cells slots Q (F0 m (pc + 3) ls (.int r0 :: rest))) : W p l e R s m args below meth c H locs cells slots Q (F0 m pc ls st0) :=
  va_calli (rest := rest) (va_runV (As := As) (rest := rest) (b := b) S hM cw ⟨wd_blind, hrv, fun U hU hW => ⟨rfl, by rw [hU]; exact hP, va_K.moved hW.alike hK⟩⟩ rfl hn hsize h0 (lv_room hst) hdg hf) hS (fun q _ h => hA q h) hA
    (fun r _ t H1 locs1 ht _ hr hB _ _ hS1 => by subst hr; rw [ht] at hB; exact kk H1 locs1 hB hS1)
theorem k_vv (b : Nat) (As rest : List Value) (S : CallFix p m c cc nL s args Ts own) (hM : Met l y ws rm (va_Pc (.ref b :: As) (fun U => va_P D cl w U.heap ∧ va_K D cl tys U)) (va_Qv (fun (_ : Unit) => True) (fun _ t => va_P D cl w' t.heap) A) 0 0 A) (cw : CallW R s args own C index y bytes maxL ret ws rm 0 0 n)
    (hrv : ∃ cellB : Cell, H[b]? = some cellB ∧ cellB.vm.isStatics = false ∧ s.vm.findClass C = some cellB.cls) (hP : va_P D cl w H) (hK : va_K D cl tys s) (hS : va_S A0 H0 H locs) (hA : ∀ q, A q → A0 q)
    (h0 : st0 = As.reverse ++ .ref b :: rest) (hn : As.length = n) (hsize : ls.size = nL) (hst : (rest.map fun v => v.category).sum ≤ 8) (hf : cells ≤ R.cells ∧ slots ≤ R.slots) (hdg : decode cc pc = .ok (.invokevirtual index, 3))
    (kk : ∀ (H1 : Heap) (locs1 : List Loc), va_P D cl w' H1 → va_S A0 H0 H1 locs1 → W p l e R s m args below meth c H1 locs1 cells slots Q (F0 m (pc + 3) ls rest)) : W p l e R s m args below meth c H locs cells slots Q (F0 m pc ls st0) :=
  va_callv (rest := rest) (va_runV (As := As) (rest := rest) (b := b) S hM cw ⟨wd_blind, hrv, fun U hU hW => ⟨rfl, by rw [hU]; exact hP, va_K.moved hW.alike hK⟩⟩ rfl hn hsize h0 (lv_room hst) hdg hf) hS (fun q _ h => hA q h) hA
    (fun _ t H1 locs1 ht _ _ hB _ _ hS1 => by rw [ht] at hB; exact kk H1 locs1 hB hS1)
theorem k_vr {ra : Nat} (b : Nat) (As rest : List Value) (S : CallFix p m c cc nL s args Ts own) (hM : Met l y ws rm (va_Pc (.ref b :: As) (fun U => va_P D cl w U.heap ∧ va_K D cl tys U)) (va_Qr (fun (_ : Unit) => True) (fun _ a t => a = ra ∧ va_P D cl w' t.heap) A) 0 0 A) (cw : CallW R s args own C index y bytes maxL ret ws rm 0 0 n)
    (hrv : ∃ cellB : Cell, H[b]? = some cellB ∧ cellB.vm.isStatics = false ∧ s.vm.findClass C = some cellB.cls) (hP : va_P D cl w H) (hK : va_K D cl tys s) (hS : va_S A0 H0 H locs) (hA : ∀ q, A q → A0 q)
    (h0 : st0 = As.reverse ++ .ref b :: rest) (hn : As.length = n) (hsize : ls.size = nL) (hst : (rest.map fun v => v.category).sum ≤ 8) (hf : cells ≤ R.cells ∧ slots ≤ R.slots) (hdg : decode cc pc = .ok (.invokevirtual index, 3))
    (kk : ∀ (H1 : Heap) (locs1 : List Loc), va_P D cl w' H1 → va_S A0 H0 H1 locs1 → W p l e R s m args below meth c H1 locs1 cells slots Q (F0 m (pc + 3) ls (.ref ra :: rest))) : W p l e R s m args below meth c H locs cells slots Q (F0 m pc ls st0) :=
  va_callr (rest := rest) (va_runV (As := As) (rest := rest) (b := b) S hM cw ⟨wd_blind, hrv, fun U hU hW => ⟨rfl, by rw [hU]; exact hP, va_K.moved hW.alike hK⟩⟩ rfl hn hsize h0 (lv_room hst) hdg hf) hS (fun q _ h => hA q h) hA
    (fun _ a t H1 locs1 ht _ _ hB _ _ hS1 => by obtain ⟨rfl, hB⟩ := hB; rw [ht] at hB; exact kk H1 locs1 hB hS1)
end KCALL

