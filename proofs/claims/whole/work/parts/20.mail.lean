def ws_M_init : List Cond := Cond.code y_M_init b_M_init 2 none :: ALL
theorem d_M_init_0 : decode b_M_init 0 = .ok (.aload_n 0, 1) := by decide +kernel
theorem d_M_init_1 : decode b_M_init 1 = .ok (.invokespecial 3, 3) := by decide +kernel
theorem d_M_init_4 : decode b_M_init 4 = .ok (.aload_n 0, 1) := by decide +kernel
theorem d_M_init_5 : decode b_M_init 5 = .ok (.sipush 150, 3) := by decide +kernel
theorem d_M_init_8 : decode b_M_init 8 = .ok (.anewarray 9, 3) := by decide +kernel
theorem d_M_init_11 : decode b_M_init 11 = .ok (.putfield 11, 3) := by decide +kernel
theorem d_M_init_14 : decode b_M_init 14 = .ok (.aload_n 0, 1) := by decide +kernel
theorem d_M_init_15 : decode b_M_init 15 = .ok (.new 9, 3) := by decide +kernel
theorem d_M_init_18 : decode b_M_init 18 = .ok (.dup, 1) := by decide +kernel
theorem d_M_init_19 : decode b_M_init 19 = .ok (.invokespecial 17, 3) := by decide +kernel
theorem d_M_init_22 : decode b_M_init 22 = .ok (.putfield 18, 3) := by decide +kernel
theorem d_M_init_25 : decode b_M_init 25 = .ok (.aload_n 0, 1) := by decide +kernel
theorem d_M_init_26 : decode b_M_init 26 = .ok (.new 9, 3) := by decide +kernel
theorem d_M_init_29 : decode b_M_init 29 = .ok (.dup, 1) := by decide +kernel
theorem d_M_init_30 : decode b_M_init 30 = .ok (.invokespecial 17, 3) := by decide +kernel
theorem d_M_init_33 : decode b_M_init 33 = .ok (.putfield 22, 3) := by decide +kernel
theorem d_M_init_36 : decode b_M_init 36 = .ok (.aload_n 0, 1) := by decide +kernel
theorem d_M_init_37 : decode b_M_init 37 = .ok (.iconst 0, 1) := by decide +kernel
theorem d_M_init_38 : decode b_M_init 38 = .ok (.putfield 25, 3) := by decide +kernel
theorem d_M_init_41 : decode b_M_init 41 = .ok (.iconst 0, 1) := by decide +kernel
theorem d_M_init_42 : decode b_M_init 42 = .ok (.istore_n 1, 1) := by decide +kernel
theorem d_M_init_43 : decode b_M_init 43 = .ok (.iload_n 1, 1) := by decide +kernel
theorem d_M_init_44 : decode b_M_init 44 = .ok (.sipush 150, 3) := by decide +kernel
theorem d_M_init_47 : decode b_M_init 47 = .ok (.if_icmp .ge 22, 3) := by decide +kernel
theorem d_M_init_50 : decode b_M_init 50 = .ok (.aload_n 0, 1) := by decide +kernel
theorem d_M_init_51 : decode b_M_init 51 = .ok (.getfield 11, 3) := by decide +kernel
theorem d_M_init_54 : decode b_M_init 54 = .ok (.iload_n 1, 1) := by decide +kernel
theorem d_M_init_55 : decode b_M_init 55 = .ok (.new 9, 3) := by decide +kernel
theorem d_M_init_58 : decode b_M_init 58 = .ok (.dup, 1) := by decide +kernel
theorem d_M_init_59 : decode b_M_init 59 = .ok (.invokespecial 17, 3) := by decide +kernel
theorem d_M_init_62 : decode b_M_init 62 = .ok (.aastore, 1) := by decide +kernel
theorem d_M_init_63 : decode b_M_init 63 = .ok (.iinc 1 1, 3) := by decide +kernel
theorem d_M_init_66 : decode b_M_init 66 = .ok (.goto (-23), 3) := by decide +kernel
theorem d_M_init_69 : decode b_M_init 69 = .ok (.return_, 1) := by decide +kernel
abbrev lt_I : va_E := .inr (0, [.int 0, .int 0, .int 0, .int 0, .int (-1), .int (-1), .int 0, .int (-1)])
def MW (ca : Nat → ClassId) (b r lo tk : Nat) (la : Nat → Nat) (i : Nat) : va_W := [(b, .inr (1, [.ref r, .ref lo, .ref tk, .int 0])), (r, .inl (ca 3, 150, .inr (.inr (.inr (.inr (fun j => if j < i then some (la j) else none)))))), (lo, lt_I), (tk, lt_I)] ++ (List.range i).map (fun j => (la j, lt_I))
theorem row_step {la : Nat → Nat} {i q : Nat} : va_up (fun j => if j < i then some (la j) else none) i (some q) = (fun j => if j < i + 1 then some (va_up la i q j) else none) := by
  funext j
  simp only [va_up]
  by_cases h1 : j = i
  · simp [h1]
  · by_cases h2 : j < i
    · simp [h1, h2, Nat.lt_succ_of_lt h2]
    · have h3 : ¬ j < i + 1 := by omega
      simp [h1, h2, h3]
theorem map_step {β : Type} {g : Nat → Nat → β} {la : Nat → Nat} {i q : Nat} : (List.range i).map (fun j => g j (la j)) ++ [g i q] = (List.range (i + 1)).map (fun j => g j (va_up la i q j)) := by
  rw [List.range_succ, List.map_append]
  congr 1
  · apply List.map_congr_left
    intro j hj
    have h1 : j ≠ i := fun h => absurd (List.mem_range.mp hj) (by omega)
    simp [va_up, h1]
  · simp [va_up]
theorem mw_step {ca : Nat → ClassId} {b r lo tk i q : Nat} {la : Nat → Nat} : (MW ca b r lo tk la i ++ [(q, lt_I)]).set 1 (r, .inl (ca 3, 150, .inr (.inr (.inr (.inr (va_up (fun j => if j < i then some (la j) else none) i (some q))))))) = MW ca b r lo tk (va_up la i q) (i + 1) := by
  unfold MW
  rw [row_step, ← map_step (g := fun _ x => (x, lt_I))]
  rfl
set_option maxHeartbeats 4000000 in
set_option maxRecDepth 100000 in
theorem lp_M_init {p : Program} {l : Launch} {e : Env} {s : State} {m : MethodId} {args : Array Value} {below : List Frame} {meth : Method} {c : Code} {D : va_G} {ca : Nat → ClassId} {b r lo tk : Nat} (hx : p.tables.exec = Jvm.exec) (hb : c.code = b_M_init) (hr : meth.sig.returnType = none) (hts : ∀ w ∈ ALL, w.before args s = true) (hown : s.vm.findClass R_M = some m.cls) (hlocks : meth.locks = false) (hml : c.maxLocals = 2) (hK : va_K D CLS (TYH ca) s) (hN : NWS s) (hA : ∀ q : Nat, s.heap.size ≤ q → CA b s.heap.size q) : ∀ (n i : Nat), i + n = 150 → ∀ (la : Nat → Nat) (H : Heap) (locs : List Loc) (ls : Array Slot), va_P D CLS (MW ca b r lo tk la i) H → va_D (CA b s.heap.size) (MW ca b r lo tk la i) → va_S (CA b s.heap.size) s.heap H locs → lv_has ls 2 [(1, .int (Int32.ofNat i)), (0, .ref b)] → W p l e ({ frames := 2, cells := 153, slots := 1366, locals := 40 } : Room) s m args below meth c H locs (3 + i) (166 + 8 * i) (MQ below (va_Qv (fun _ : Nat × Nat × Nat × (Nat → Nat) => True) (fun u t => va_P D CLS (MW ca b u.1 u.2.1 u.2.2.1 u.2.2.2 150) t.heap ∧ va_D (CA b s.heap.size) (MW ca b u.1 u.2.1 u.2.2.1 u.2.2.2 150)) (CA b s.heap.size)) args s 153 1366 (CA b s.heap.size)) (F0 m 43 ls []) := by
  intro n
  induction n with
  | zero =>
    intro i hi la H locs ls hP hD hS hl
    obtain rfl : i = 150 := by omega
    refine lv_iload_n hx hb d_M_init_43 rfl (lv_at hl 0 rfl) ?_
    refine lv_sipush (v := 150) hx hb d_M_init_44 (by decide) ?_
    refine lv_icmp_ge (tgt := 69) hx hb d_M_init_47 (by decide) (fun _ => ?_) (fun h => absurd (by decide) h)
    exact W.vret (cells := 153) (slots := 1366) hx hb hr (fun t ht hW => ⟨⟨(r, lo, tk, la), rfl, trivial, vp_at ht hP, hD⟩, hS.F ht⟩) hS.2.2 d_M_init_69
  | succ n ih =>
    intro i hi la H locs ls hP hD hS hl
    refine lv_iload_n hx hb d_M_init_43 rfl (lv_at hl 0 rfl) ?_
    refine lv_sipush (v := 150) hx hb d_M_init_44 (by decide) ?_
    refine lv_icmp_ge (tgt := 69) hx hb d_M_init_47 (by decide) (fun h => absurd ((i32_le (a := 150) (by decide) (by omega)).mp h) (by omega)) (fun _ => ?_)
    refine lv_aload_n hx hb d_M_init_50 rfl (lv_at hl 1 rfl) ?_
    refine va_get (D := D) (ci := 1) (C := R_M) (T := T_M) (N := 4) (fs := [.ref r, .ref lo, .ref tk, .int 0]) hx hb hts in_M hown hK hP 0 rfl rfl 0 (by decide) (hts _ a_84) (fun _ h => h) rfl d_M_init_51 ?_
    refine lv_iload_n hx hb d_M_init_54 rfl (lv_at hl 0 rfl) ?_
    refine va_new (ci := 0) (fs := [.int 0, .int 0, .int 0, .int 0, .int 0, .int 0, .int 0, .int 0]) (C := R_L) (T := T_L) (N := 8) hx hb hts in_L ft_L ft_L_ok hown (hts _ a_36) (hts _ a_38) (hts _ a_3) hK hP hD hS hA rfl (by decide +kernel) (by show _ ≤ (153 : Nat); omega) (by show _ ≤ (1366 : Nat); omega) d_M_init_55 (fun q H hP hD hS => ?_)
    refine lv_dup hx hb d_M_init_58 rfl ?_
    refine k_ctorN (w0 := MW ca b r lo tk la i) [] [.ref q, .int (Int32.ofNat i), .ref r] ⟨hx, hb, hml, hown, hts⟩ (c_L_init l D ca q H.size) (v_L_init hts (hN.1 _ nl_1) ⟨Nat.le_of_ble_eq_true rfl, Nat.le_of_ble_eq_true rfl⟩) hP hD hA hS hK hN rfl rfl hl.1 (Nat.le_of_ble_eq_true rfl) ⟨by show _ ≤ (153 : Nat); omega, by show _ ≤ (1366 : Nat); omega⟩ d_M_init_59 (fun _ H locs _ hP hD hS => ?_)
    have hP : va_P D CLS (MW ca b r lo tk la i ++ [(q, lt_I)]) H := hP
    have hD : va_D (CA b s.heap.size) (MW ca b r lo tk la i ++ [(q, lt_I)]) := hD
    refine va_astq (cA := ca 3) (r := (R_L, T_L, 8)) (n := 150) (f := fun j => if j < i then some (la j) else none) hx hb hK hP hD hS 1 3 (MW ca b r lo tk la i).length 0 rfl rfl (by rw [List.getElem?_append_right (Nat.le_refl _), Nat.sub_self]; rfl) rfl (i32_in (by omega) (by omega)) d_M_init_62 (fun H locs hP hD hS => ?_)
    rw [i32_nat (by omega), mw_step] at hP hD
    refine lv_iinc (k := 0) (v := Int32.ofNat i + 1) (lv' := [(1, .int (Int32.ofNat (i + 1))), (0, .ref b)]) hx hb d_M_init_63 hl rfl rfl (by decide) (by rw [Int32.ofNat_add]; rfl) (fun ls hl => ?_)
    refine lv_goto (tgt := 43) hx hb d_M_init_66 (by decide) ?_
    have h9 := ih (i + 1) (by omega) (va_up la i q) _ _ _ hP hD hS hl
    exact k_wide (by omega) (by omega) h9
set_option maxHeartbeats 4000000 in
set_option maxRecDepth 100000 in
theorem c_M_init (l : Launch) (D : va_G) (ca : Nat → ClassId) (b sz : Nat) : CT l y_M_init ws_M_init ({ frames := 2, cells := 153, slots := 1366, locals := 40 } : Room) D ca b sz [] (.inr (1, [.null, .null, .null, .int 0])) (fun _ : Nat × Nat × Nat × (Nat → Nat) => True) (fun u => MW ca b u.1 u.2.1 u.2.2.1 u.2.2.2 150) 153 1366 := by
  refine Met.ofW (cc := b_M_init) (maxL := 2) (ret := none) (by decide) rfl ?_
  intro p e s m args below meth c s₁ B hml hv
  obtain ⟨rfl, hsz, hP, hK, hN⟩ := hv
  have hx := B.exec
  have hb := B.bytes
  have hr := B.returns
  have hts : ∀ w ∈ ALL, w.before _ s = true := fun w h => atoms_spec (ws := ws_M_init) B.pre w (List.mem_cons_of_mem _ h)
  have hown : s.vm.findClass R_M = some m.cls := findClass_of_methodNamed B.named
  have hlocks := B.notSynchronized
  have hin : meth.name = "<init>" := (name_of_methodNamed B.named B.method).1
  subst hsz
  have hD : va_D (CA b s.heap.size) [(b, .inr (1, [.null, .null, .null, .int 0]))] := cd_1
  have hA : ∀ q : Nat, s.heap.size ≤ q → CA b s.heap.size q := fun q h => Or.inr h
  have hS : va_S (CA b s.heap.size) s.heap s.heap [] := va_S.rf
  have hP : va_P D CLS [(b, .inr (1, [.null, .null, .null, .int 0]))] s.heap := hP
  have hl := lv_entry ([.ref b]) (n := 2) (Nat.le_of_ble_eq_true rfl)
  rw [lg_entry_eq]
  generalize (lg_sl ([.ref b]) ++ List.replicate (2 - (lg_sl ([.ref b])).length) Slot.unset).toArray = ls at hl ⊢
  have hl : lv_has ls 2 [(0, .ref b)] := hl
  refine lv_aload_n hx hb d_M_init_0 rfl (lv_at hl 0 rfl) ?_
  refine W.objInit hx hb hown (hts _ a_35) (hts _ a_24) (hts _ a_25) rfl (by rw [hml]; exact hl.1) rfl d_M_init_1 (Nat.le_of_ble_eq_true rfl) (Nat.le_of_ble_eq_true rfl) ?_
  refine W.eq (g2 := F0 m 4 ls []) rfl ?_
  refine lv_aload_n hx hb d_M_init_4 rfl (lv_at hl 0 rfl) ?_
  refine lv_sipush (v := 150) hx hb d_M_init_5 (by decide) ?_
  refine va_newq (N' := 150) hx hb hown (hts _ a_36) (hN.2 _ (by decide)) hK hP hD hS hA (by decide) rfl (by decide) (Nat.le_of_ble_eq_true rfl) (Nat.le_of_ble_eq_true rfl) d_M_init_8 (fun r cA H hK9 hP hD hS => ?_)
  obtain rfl := ca_obj 3 rfl hK9
  have hP : va_P D CLS [(b, .inr (1, [.null, .null, .null, .int 0])), (r, .inl (ca 3, 150, .inr (.inr (.inr (.inr (fun _ => none))))))] H := hP
  have hD : va_D (CA b s.heap.size) [(b, .inr (1, [.null, .null, .null, .int 0])), (r, .inl (ca 3, 150, .inr (.inr (.inr (.inr (fun _ => none))))))] := hD
  refine va_putF (D := D) (ci := 1) (v := .ref r) (ty := .array (.object "TripleHouse$Letter")) (C := R_M) (T := T_M) (N := 4) (fs := [.null, .null, .null, .int 0]) hx hb hts in_M ft_M ft_M_ok n_M hown hK hP hD hS 0 rfl rfl 0 (by decide) (hts _ a_84) (fun _ h => h) rfl hin rfl (by decide +kernel) rfl rfl (Nat.le_of_ble_eq_true rfl) d_M_init_11 (fun H locs hP hD hS => ?_)
  have hP : va_P D CLS [(b, .inr (1, [.ref r, .null, .null, .int 0])), (r, .inl (ca 3, 150, .inr (.inr (.inr (.inr (fun _ => none))))))] H := hP
  have hD : va_D (CA b s.heap.size) [(b, .inr (1, [.ref r, .null, .null, .int 0])), (r, .inl (ca 3, 150, .inr (.inr (.inr (.inr (fun _ => none))))))] := hD
  refine lv_aload_n hx hb d_M_init_14 rfl (lv_at hl 0 rfl) ?_
  refine va_new (ci := 0) (fs := [.int 0, .int 0, .int 0, .int 0, .int 0, .int 0, .int 0, .int 0]) (C := R_L) (T := T_L) (N := 8) hx hb hts in_L ft_L ft_L_ok hown (hts _ a_36) (hts _ a_38) (hts _ a_3) hK hP hD hS hA rfl (by decide +kernel) (Nat.le_of_ble_eq_true rfl) (Nat.le_of_ble_eq_true rfl) d_M_init_15 (fun lo H hP hD hS => ?_)
  refine lv_dup hx hb d_M_init_18 rfl ?_
  refine k_ctorN (w0 := [(b, .inr (1, [.ref r, .null, .null, .int 0])), (r, .inl (ca 3, 150, .inr (.inr (.inr (.inr (fun _ => none))))))]) [] [.ref lo, .ref b] ⟨hx, hb, hml, hown, hts⟩ (c_L_init l D ca lo H.size) (v_L_init hts (hN.1 _ nl_1) ⟨Nat.le_of_ble_eq_true rfl, Nat.le_of_ble_eq_true rfl⟩) hP hD hA hS hK hN rfl rfl hl.1 (Nat.le_of_ble_eq_true rfl) ⟨Nat.le_of_ble_eq_true rfl, Nat.le_of_ble_eq_true rfl⟩ d_M_init_19 (fun _ H locs _ hP hD hS => ?_)
  have hP : va_P D CLS [(b, .inr (1, [.ref r, .null, .null, .int 0])), (r, .inl (ca 3, 150, .inr (.inr (.inr (.inr (fun _ => none)))))), (lo, .inr (0, [.int 0, .int 0, .int 0, .int 0, .int (-1), .int (-1), .int 0, .int (-1)]))] H := hP
  have hD : va_D (CA b s.heap.size) [(b, .inr (1, [.ref r, .null, .null, .int 0])), (r, .inl (ca 3, 150, .inr (.inr (.inr (.inr (fun _ => none)))))), (lo, .inr (0, [.int 0, .int 0, .int 0, .int 0, .int (-1), .int (-1), .int 0, .int (-1)]))] := hD
  refine va_putF (D := D) (ci := 1) (v := .ref lo) (ty := .object "TripleHouse$Letter") (C := R_M) (T := T_M) (N := 4) (fs := [.ref r, .null, .null, .int 0]) hx hb hts in_M ft_M ft_M_ok n_M hown hK hP hD hS 0 rfl rfl 1 (by decide) (hts _ a_86) (fun _ h => h) rfl hin rfl (by decide +kernel) rfl rfl (Nat.le_of_ble_eq_true rfl) d_M_init_22 (fun H locs hP hD hS => ?_)
  have hP : va_P D CLS [(b, .inr (1, [.ref r, .ref lo, .null, .int 0])), (r, .inl (ca 3, 150, .inr (.inr (.inr (.inr (fun _ => none)))))), (lo, .inr (0, [.int 0, .int 0, .int 0, .int 0, .int (-1), .int (-1), .int 0, .int (-1)]))] H := hP
  have hD : va_D (CA b s.heap.size) [(b, .inr (1, [.ref r, .ref lo, .null, .int 0])), (r, .inl (ca 3, 150, .inr (.inr (.inr (.inr (fun _ => none)))))), (lo, .inr (0, [.int 0, .int 0, .int 0, .int 0, .int (-1), .int (-1), .int 0, .int (-1)]))] := hD
  refine lv_aload_n hx hb d_M_init_25 rfl (lv_at hl 0 rfl) ?_
  refine va_new (ci := 0) (fs := [.int 0, .int 0, .int 0, .int 0, .int 0, .int 0, .int 0, .int 0]) (C := R_L) (T := T_L) (N := 8) hx hb hts in_L ft_L ft_L_ok hown (hts _ a_36) (hts _ a_38) (hts _ a_3) hK hP hD hS hA rfl (by decide +kernel) (Nat.le_of_ble_eq_true rfl) (Nat.le_of_ble_eq_true rfl) d_M_init_26 (fun tk H hP hD hS => ?_)
  refine lv_dup hx hb d_M_init_29 rfl ?_
  refine k_ctorN (w0 := [(b, .inr (1, [.ref r, .ref lo, .null, .int 0])), (r, .inl (ca 3, 150, .inr (.inr (.inr (.inr (fun _ => none)))))), (lo, .inr (0, [.int 0, .int 0, .int 0, .int 0, .int (-1), .int (-1), .int 0, .int (-1)]))]) [] [.ref tk, .ref b] ⟨hx, hb, hml, hown, hts⟩ (c_L_init l D ca tk H.size) (v_L_init hts (hN.1 _ nl_1) ⟨Nat.le_of_ble_eq_true rfl, Nat.le_of_ble_eq_true rfl⟩) hP hD hA hS hK hN rfl rfl hl.1 (Nat.le_of_ble_eq_true rfl) ⟨Nat.le_of_ble_eq_true rfl, Nat.le_of_ble_eq_true rfl⟩ d_M_init_30 (fun _ H locs _ hP hD hS => ?_)
  have hP : va_P D CLS [(b, .inr (1, [.ref r, .ref lo, .null, .int 0])), (r, .inl (ca 3, 150, .inr (.inr (.inr (.inr (fun _ => none)))))), (lo, .inr (0, [.int 0, .int 0, .int 0, .int 0, .int (-1), .int (-1), .int 0, .int (-1)])), (tk, .inr (0, [.int 0, .int 0, .int 0, .int 0, .int (-1), .int (-1), .int 0, .int (-1)]))] H := hP
  have hD : va_D (CA b s.heap.size) [(b, .inr (1, [.ref r, .ref lo, .null, .int 0])), (r, .inl (ca 3, 150, .inr (.inr (.inr (.inr (fun _ => none)))))), (lo, .inr (0, [.int 0, .int 0, .int 0, .int 0, .int (-1), .int (-1), .int 0, .int (-1)])), (tk, .inr (0, [.int 0, .int 0, .int 0, .int 0, .int (-1), .int (-1), .int 0, .int (-1)]))] := hD
  refine va_put (D := D) (ci := 1) (v := .ref tk) (ty := .object "TripleHouse$Letter") (C := R_M) (T := T_M) (N := 4) (fs := [.ref r, .ref lo, .null, .int 0]) hx hb hts in_M ft_M ft_M_ok n_M hown hK hP hD hS 0 rfl rfl 2 (by decide) (hts _ a_87) (fun _ h => h) rfl (by decide +kernel) rfl rfl (Nat.le_of_ble_eq_true rfl) d_M_init_33 (fun H locs hP hD hS => ?_)
  have hP : va_P D CLS [(b, .inr (1, [.ref r, .ref lo, .ref tk, .int 0])), (r, .inl (ca 3, 150, .inr (.inr (.inr (.inr (fun _ => none)))))), (lo, .inr (0, [.int 0, .int 0, .int 0, .int 0, .int (-1), .int (-1), .int 0, .int (-1)])), (tk, .inr (0, [.int 0, .int 0, .int 0, .int 0, .int (-1), .int (-1), .int 0, .int (-1)]))] H := hP
  have hD : va_D (CA b s.heap.size) [(b, .inr (1, [.ref r, .ref lo, .ref tk, .int 0])), (r, .inl (ca 3, 150, .inr (.inr (.inr (.inr (fun _ => none)))))), (lo, .inr (0, [.int 0, .int 0, .int 0, .int 0, .int (-1), .int (-1), .int 0, .int (-1)])), (tk, .inr (0, [.int 0, .int 0, .int 0, .int 0, .int (-1), .int (-1), .int 0, .int (-1)]))] := hD
  refine lv_aload_n hx hb d_M_init_36 rfl (lv_at hl 0 rfl) ?_
  refine lv_iconst (v := 0) hx hb d_M_init_37 (by decide) ?_
  refine va_put (D := D) (ci := 1) (v := .int 0) (ty := .int) (C := R_M) (T := T_M) (N := 4) (fs := [.ref r, .ref lo, .ref tk, .int 0]) hx hb hts in_M ft_M ft_M_ok n_M hown hK hP hD hS 0 rfl rfl 3 (by decide) (hts _ a_88) (fun _ h => h) rfl (by decide +kernel) rfl rfl (Nat.le_of_ble_eq_true rfl) d_M_init_38 (fun H locs hP hD hS => ?_)
  have hP : va_P D CLS [(b, .inr (1, [.ref r, .ref lo, .ref tk, .int 0])), (r, .inl (ca 3, 150, .inr (.inr (.inr (.inr (fun _ => none)))))), (lo, .inr (0, [.int 0, .int 0, .int 0, .int 0, .int (-1), .int (-1), .int 0, .int (-1)])), (tk, .inr (0, [.int 0, .int 0, .int 0, .int 0, .int (-1), .int (-1), .int 0, .int (-1)]))] H := hP
  have hD : va_D (CA b s.heap.size) [(b, .inr (1, [.ref r, .ref lo, .ref tk, .int 0])), (r, .inl (ca 3, 150, .inr (.inr (.inr (.inr (fun _ => none)))))), (lo, .inr (0, [.int 0, .int 0, .int 0, .int 0, .int (-1), .int (-1), .int 0, .int (-1)])), (tk, .inr (0, [.int 0, .int 0, .int 0, .int 0, .int (-1), .int (-1), .int 0, .int (-1)]))] := hD
  refine lv_iconst (v := 0) hx hb d_M_init_41 (by decide) ?_
  refine lv_istore_n (lv' := [(1, .int 0), (0, .ref b)]) hx hb d_M_init_42 rfl hl (by decide) rfl (fun ls hl => ?_)
  have e1 : [(b, .inr (1, [.ref r, .ref lo, .ref tk, .int 0])), (r, .inl (ca 3, 150, .inr (.inr (.inr (.inr (fun _ => none)))))), (lo, .inr (0, [.int 0, .int 0, .int 0, .int 0, .int (-1), .int (-1), .int 0, .int (-1)])), (tk, .inr (0, [.int 0, .int 0, .int 0, .int 0, .int (-1), .int (-1), .int 0, .int (-1)]))] = MW ca b r lo tk (fun _ => 0) 0 := by unfold MW; simp
  rw [e1] at hP hD
  exact lp_M_init hx hb hr hts hown hlocks hml hK hN hA 150 0 (by omega) (fun _ => 0) _ _ _ hP hD hS hl
theorem w_M_init {R : Room} {s : State} {args : Array Value} {own : String} {index : Nat} (hts : ∀ w ∈ ALL, w.before args s = true) (hlk : Cond.methodLink own index y_M_init ∈ ALL) (hR : (({ frames := 2, cells := 153, slots := 1366, locals := 40 } : Room)).frames + 1 ≤ R.frames ∧ 8 + (2 + 11) + (({ frames := 2, cells := 153, slots := 1366, locals := 40 } : Room)).locals ≤ R.locals) : CallB R s args own index y_M_init b_M_init 2 none ws_M_init ({ frames := 2, cells := 153, slots := 1366, locals := 40 } : Room) 153 1366 0 ∧ y_M_init.name = "<init>" ∧ (Cond.instanceMethod y_M_init).before args s = true := ⟨callB_of 0 hts (good_c a_34) rfl rfl rfl (hts _ a_2) (hts _ hlk) (by decide +kernel) hR, rfl, hts _ a_33⟩
theorem v_M_init {R : Room} {s : State} {args : Array Value} {own : String} {index : Nat} (hts : ∀ w ∈ ALL, w.before args s = true) {host : String} (hlk : va_Nw (.methodLinkNest own index y_M_init host) s) (hR : (({ frames := 2, cells := 153, slots := 1366, locals := 40 } : Room)).frames + 1 ≤ R.frames ∧ 8 + (2 + 11) + (({ frames := 2, cells := 153, slots := 1366, locals := 40 } : Room)).locals ≤ R.locals) : va_CN R s args own index y_M_init host b_M_init 2 none ws_M_init ({ frames := 2, cells := 153, slots := 1366, locals := 40 } : Room) 153 1366 0 ∧ y_M_init.name = "<init>" ∧ (Cond.instanceMethod y_M_init).before args s = true := ⟨va_cnB 0 hts (good_c a_34) rfl rfl rfl hlk (hts _ a_2) (by decide +kernel) hR, rfl, hts _ a_33⟩
