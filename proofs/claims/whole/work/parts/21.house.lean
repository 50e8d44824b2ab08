def ws_H_init : List Cond := Cond.code y_H_init b_H_init 2 none :: ALL
theorem d_H_init_0 : decode b_H_init 0 = .ok (.aload_n 0, 1) := by decide +kernel
theorem d_H_init_1 : decode b_H_init 1 = .ok (.invokespecial 3, 3) := by decide +kernel
theorem d_H_init_4 : decode b_H_init 4 = .ok (.aload_n 0, 1) := by decide +kernel
theorem d_H_init_5 : decode b_H_init 5 = .ok (.bipush 27, 2) := by decide +kernel
theorem d_H_init_7 : decode b_H_init 7 = .ok (.anewarray 9, 3) := by decide +kernel
theorem d_H_init_10 : decode b_H_init 10 = .ok (.putfield 11, 3) := by decide +kernel
theorem d_H_init_13 : decode b_H_init 13 = .ok (.aload_n 0, 1) := by decide +kernel
theorem d_H_init_14 : decode b_H_init 14 = .ok (.bipush 40, 2) := by decide +kernel
theorem d_H_init_16 : decode b_H_init 16 = .ok (.anewarray 15, 3) := by decide +kernel
theorem d_H_init_19 : decode b_H_init 19 = .ok (.putfield 17, 3) := by decide +kernel
theorem d_H_init_22 : decode b_H_init 22 = .ok (.aload_n 0, 1) := by decide +kernel
theorem d_H_init_23 : decode b_H_init 23 = .ok (.new 21, 3) := by decide +kernel
theorem d_H_init_26 : decode b_H_init 26 = .ok (.dup, 1) := by decide +kernel
theorem d_H_init_27 : decode b_H_init 27 = .ok (.invokespecial 23, 3) := by decide +kernel
theorem d_H_init_30 : decode b_H_init 30 = .ok (.putfield 24, 3) := by decide +kernel
theorem d_H_init_33 : decode b_H_init 33 = .ok (.aload_n 0, 1) := by decide +kernel
theorem d_H_init_34 : decode b_H_init 34 = .ok (.iconst 0, 1) := by decide +kernel
theorem d_H_init_35 : decode b_H_init 35 = .ok (.putfield 28, 3) := by decide +kernel
theorem d_H_init_38 : decode b_H_init 38 = .ok (.iconst 0, 1) := by decide +kernel
theorem d_H_init_39 : decode b_H_init 39 = .ok (.istore_n 1, 1) := by decide +kernel
theorem d_H_init_40 : decode b_H_init 40 = .ok (.iload_n 1, 1) := by decide +kernel
theorem d_H_init_41 : decode b_H_init 41 = .ok (.bipush 27, 2) := by decide +kernel
theorem d_H_init_43 : decode b_H_init 43 = .ok (.if_icmp .ge 23, 3) := by decide +kernel
theorem d_H_init_46 : decode b_H_init 46 = .ok (.aload_n 0, 1) := by decide +kernel
theorem d_H_init_47 : decode b_H_init 47 = .ok (.getfield 11, 3) := by decide +kernel
theorem d_H_init_50 : decode b_H_init 50 = .ok (.iload_n 1, 1) := by decide +kernel
theorem d_H_init_51 : decode b_H_init 51 = .ok (.new 9, 3) := by decide +kernel
theorem d_H_init_54 : decode b_H_init 54 = .ok (.dup, 1) := by decide +kernel
theorem d_H_init_55 : decode b_H_init 55 = .ok (.iload_n 1, 1) := by decide +kernel
theorem d_H_init_56 : decode b_H_init 56 = .ok (.invokespecial 32, 3) := by decide +kernel
theorem d_H_init_59 : decode b_H_init 59 = .ok (.aastore, 1) := by decide +kernel
theorem d_H_init_60 : decode b_H_init 60 = .ok (.iinc 1 1, 3) := by decide +kernel
theorem d_H_init_63 : decode b_H_init 63 = .ok (.goto (-23), 3) := by decide +kernel
theorem d_H_init_66 : decode b_H_init 66 = .ok (.iconst 0, 1) := by decide +kernel
theorem d_H_init_67 : decode b_H_init 67 = .ok (.istore_n 1, 1) := by decide +kernel
theorem d_H_init_68 : decode b_H_init 68 = .ok (.iload_n 1, 1) := by decide +kernel
theorem d_H_init_69 : decode b_H_init 69 = .ok (.bipush 40, 2) := by decide +kernel
theorem d_H_init_71 : decode b_H_init 71 = .ok (.if_icmp .ge 22, 3) := by decide +kernel
theorem d_H_init_74 : decode b_H_init 74 = .ok (.aload_n 0, 1) := by decide +kernel
theorem d_H_init_75 : decode b_H_init 75 = .ok (.getfield 17, 3) := by decide +kernel
theorem d_H_init_78 : decode b_H_init 78 = .ok (.iload_n 1, 1) := by decide +kernel
theorem d_H_init_79 : decode b_H_init 79 = .ok (.new 15, 3) := by decide +kernel
theorem d_H_init_82 : decode b_H_init 82 = .ok (.dup, 1) := by decide +kernel
theorem d_H_init_83 : decode b_H_init 83 = .ok (.invokespecial 35, 3) := by decide +kernel
theorem d_H_init_86 : decode b_H_init 86 = .ok (.aastore, 1) := by decide +kernel
theorem d_H_init_87 : decode b_H_init 87 = .ok (.iinc 1 1, 3) := by decide +kernel
theorem d_H_init_90 : decode b_H_init 90 = .ok (.goto (-22), 3) := by decide +kernel
theorem d_H_init_93 : decode b_H_init 93 = .ok (.return_, 1) := by decide +kernel
abbrev OA : Type := Nat × Nat × Nat × Nat × Nat
abbrev TA : Type := Nat × Nat × Nat
abbrev MA : Type := Nat × Nat × Nat × Nat × (Nat → Nat)
def HW (ca : Nat → ClassId) (b q1 q2 : Nat) (w : MA) (oa : Nat → OA) (i : Nat) (ta : Nat → TA) (k : Nat) : va_W := [(b, .inr (5, [.ref q1, .ref q2, .ref w.1, .int 0])), (q1, .inl (ca 1, 27, .inr (.inr (.inr (.inr (fun j => if j < i then some (oa j).1 else none)))))), (q2, .inl (ca 2, 40, .inr (.inr (.inr (.inr (fun j => if j < k then some (ta j).1 else none))))))] ++ (MW ca w.1 w.2.1 w.2.2.1 w.2.2.2.1 w.2.2.2.2 150 ++ ((List.range i).flatMap (fun j => CW_O_init ca (oa j).1 (Int32.ofNat j) (oa j).2) ++ (List.range k).flatMap (fun j => CW_T_init ca (ta j).1 (ta j).2)))
theorem row_stepA {α : Type} {oa : Nat → Nat × α} {i : Nat} {q : Nat × α} : va_up (fun j => if j < i then some (oa j).1 else none) i (some q.1) = (fun j => if j < i + 1 then some (va_up oa i q j).1 else none) := by
  funext j
  simp only [va_up]
  by_cases h1 : j = i
  · simp [h1]
  · by_cases h2 : j < i
    · simp [h1, h2, Nat.lt_succ_of_lt h2]
    · have h3 : ¬ j < i + 1 := by omega
      simp [h1, h2, h3]
theorem fm_congr {α β : Type} {l : List α} {f g : α → List β} (h : ∀ a ∈ l, f a = g a) : l.flatMap f = l.flatMap g := by
  induction l with
  | nil => rfl
  | cons a t ih => rw [List.flatMap_cons, List.flatMap_cons, h a List.mem_cons_self, ih (fun x hx => h x (List.mem_cons_of_mem _ hx))]
theorem flat_step {α β : Type} {g : Nat → α → List β} {oa : Nat → α} {i : Nat} {q : α} : (List.range i).flatMap (fun j => g j (oa j)) ++ g i q = (List.range (i + 1)).flatMap (fun j => g j (va_up oa i q j)) := by
  rw [List.range_succ, List.flatMap_append]
  congr 1
  · apply fm_congr
    intro j hj
    have h1 : j ≠ i := fun h => absurd (List.mem_range.mp hj) (by omega)
    simp [va_up, h1]
  · simp [va_up]
theorem hw_stepO {ca : Nat → ClassId} {b q1 q2 i : Nat} {w : MA} {oa : Nat → OA} {ta : Nat → TA} {q : OA} : (HW ca b q1 q2 w oa i ta 0 ++ CW_O_init ca q.1 (Int32.ofNat i) q.2).set 1 (q1, .inl (ca 1, 27, .inr (.inr (.inr (.inr (va_up (fun j => if j < i then some (oa j).1 else none) i (some q.1))))))) = HW ca b q1 q2 w (va_up oa i q) (i + 1) ta 0 := by
  unfold HW
  rw [row_stepA, ← flat_step (g := fun j (o : OA) => CW_O_init ca o.1 (Int32.ofNat j) o.2)]
  simp only [List.range_zero, List.flatMap_nil, List.append_nil, List.append_assoc, List.cons_append, List.nil_append, List.set_cons_succ, List.set_cons_zero]
theorem hw_stepT {ca : Nat → ClassId} {b q1 q2 k : Nat} {w : MA} {oa : Nat → OA} {ta : Nat → TA} {q : TA} : (HW ca b q1 q2 w oa 27 ta k ++ CW_T_init ca q.1 q.2).set 2 (q2, .inl (ca 2, 40, .inr (.inr (.inr (.inr (va_up (fun j => if j < k then some (ta j).1 else none) k (some q.1))))))) = HW ca b q1 q2 w oa 27 (va_up ta k q) (k + 1) := by
  unfold HW
  rw [row_stepA, ← flat_step (g := fun _ (o : TA) => CW_T_init ca o.1 o.2)]
  simp only [List.append_assoc, List.cons_append, List.nil_append, List.set_cons_succ, List.set_cons_zero]
set_option maxHeartbeats 4000000 in
set_option maxRecDepth 100000 in
theorem lp_H_init_T {p : Program} {l : Launch} {e : Env} {s : State} {m : MethodId} {args : Array Value} {below : List Frame} {meth : Method} {c : Code} {D : va_G} {ca : Nat → ClassId} {b q1 q2 : Nat} {w : MA} {oa : Nat → OA} (hx : p.tables.exec = Jvm.exec) (hb : c.code = b_H_init) (hr : meth.sig.returnType = none) (hts : ∀ w ∈ ALL, w.before args s = true) (hown : s.vm.findClass R_H = some m.cls) (hlocks : meth.locks = false) (hml : c.maxLocals = 2) (hK : va_K D CLS (TYH ca) s) (hN : NWS s) (hA : ∀ q : Nat, s.heap.size ≤ q → CA b s.heap.size q) : ∀ (n i : Nat), i + n = 40 → ∀ (ta : Nat → TA) (H : Heap) (locs : List Loc) (ls : Array Slot), va_P D CLS (HW ca b q1 q2 w oa 27 ta i) H → va_D (CA b s.heap.size) (HW ca b q1 q2 w oa 27 ta i) → va_S (CA b s.heap.size) s.heap H locs → lv_has ls 2 [(1, .int (Int32.ofNat i)), (0, .ref b)] → W p l e ({ frames := 3, cells := 411, slots := 2862, locals := 61 } : Room) s m args below meth c H locs (291 + 3 * i) (2382 + 12 * i) (MQ below (va_Qv (fun _ : Nat × Nat × MA × (Nat → OA) × (Nat → TA) => True) (fun u t => va_P D CLS (HW ca b u.1 u.2.1 u.2.2.1 u.2.2.2.1 27 u.2.2.2.2 40) t.heap ∧ va_D (CA b s.heap.size) (HW ca b u.1 u.2.1 u.2.2.1 u.2.2.2.1 27 u.2.2.2.2 40)) (CA b s.heap.size)) args s 411 2862 (CA b s.heap.size)) (F0 m 68 ls []) := by
  intro n
  induction n with
  | zero =>
    intro i hi ta H locs ls hP hD hS hl
    obtain rfl : i = 40 := by omega
    refine lv_iload_n hx hb d_H_init_68 rfl (lv_at hl 0 rfl) ?_
    refine lv_bipush (v := 40) hx hb d_H_init_69 (by decide) ?_
    refine lv_icmp_ge (tgt := 93) hx hb d_H_init_71 (by decide) (fun _ => ?_) (fun h => absurd (by decide) h)
    exact W.vret (cells := 411) (slots := 2862) hx hb hr (fun t ht hW => ⟨⟨(q1, q2, w, oa, ta), rfl, trivial, vp_at ht hP, hD⟩, hS.F ht⟩) hS.2.2 d_H_init_93
  | succ n ih =>
    intro i hi ta H locs ls hP hD hS hl
    refine lv_iload_n hx hb d_H_init_68 rfl (lv_at hl 0 rfl) ?_
    refine lv_bipush (v := 40) hx hb d_H_init_69 (by decide) ?_
    refine lv_icmp_ge (tgt := 93) hx hb d_H_init_71 (by decide) (fun h => absurd ((i32_le (a := 40) (by decide) (by omega)).mp h) (by omega)) (fun _ => ?_)
    refine lv_aload_n hx hb d_H_init_74 rfl (lv_at hl 1 rfl) ?_
    refine va_get (D := D) (ci := 5) (C := R_H) (T := T_H) (N := 4) (fs := [.ref q1, .ref q2, .ref w.1, .int 0]) hx hb hts in_H hown hK hP 0 rfl rfl 1 (by decide) (hts _ a_206) (fun _ h => h) rfl d_H_init_75 ?_
    refine lv_iload_n hx hb d_H_init_78 rfl (lv_at hl 0 rfl) ?_
    refine va_new (ci := 4) (fs := [.int 0, .int 0, .null, .null]) (C := R_T) (T := T_T) (N := 4) hx hb hts in_T ft_T ft_T_ok hown (hts _ a_28) (hts _ a_184) (hts _ a_7) hK hP hD hS hA rfl (by decide +kernel) (by show _ ≤ (411 : Nat); omega) (by show _ ≤ (2862 : Nat); omega) d_H_init_79 (fun q H hP hD hS => ?_)
    refine lv_dup hx hb d_H_init_82 rfl ?_
    refine k_ctorN (w0 := HW ca b q1 q2 w oa 27 ta i) [] [.ref q, .int (Int32.ofNat i), .ref q2] ⟨hx, hb, hml, hown, hts⟩ (c_T_init l D ca q H.size) (v_T_init hts (hN.1 _ nl_2) ⟨Nat.le_of_ble_eq_true rfl, Nat.le_of_ble_eq_true rfl⟩) hP hD hA hS hK hN rfl rfl hl.1 (Nat.le_of_ble_eq_true rfl) ⟨by show _ ≤ (411 : Nat); omega, by show _ ≤ (2862 : Nat); omega⟩ d_H_init_83 (fun u H locs _ hP hD hS => ?_)
    refine va_astq (cA := ca 2) (r := (R_T, T_T, 4)) (n := 40) (f := (fun j => if j < i then some (ta j).1 else none)) hx hb hK hP hD hS 2 2 (HW ca b q1 q2 w oa 27 ta i).length 4 rfl rfl (by rw [List.getElem?_append_right (Nat.le_refl _), Nat.sub_self]; rfl) rfl (i32_in (by omega) (by omega)) d_H_init_86 (fun H locs hP hD hS => ?_)
    rw [i32_nat (by omega), hw_stepT (q := (q, u))] at hP hD
    refine lv_iinc (k := 0) (v := Int32.ofNat i + 1) (lv' := [(1, .int (Int32.ofNat (i + 1))), (0, .ref b)]) hx hb d_H_init_87 hl rfl rfl (by decide) (by rw [Int32.ofNat_add]; rfl) (fun ls hl => ?_)
    refine lv_goto (tgt := 68) hx hb d_H_init_90 (by decide) ?_
    have h9 := ih (i + 1) (by omega) (va_up ta i (q, u)) _ _ _ hP hD hS hl
    exact k_wide (by omega) (by omega) h9
set_option maxHeartbeats 4000000 in
set_option maxRecDepth 100000 in
theorem lp_H_init_O {p : Program} {l : Launch} {e : Env} {s : State} {m : MethodId} {args : Array Value} {below : List Frame} {meth : Method} {c : Code} {D : va_G} {ca : Nat → ClassId} {b q1 q2 : Nat} {w : MA}  (hx : p.tables.exec = Jvm.exec) (hb : c.code = b_H_init) (hr : meth.sig.returnType = none) (hts : ∀ w ∈ ALL, w.before args s = true) (hown : s.vm.findClass R_H = some m.cls) (hlocks : meth.locks = false) (hml : c.maxLocals = 2) (hK : va_K D CLS (TYH ca) s) (hN : NWS s) (hA : ∀ q : Nat, s.heap.size ≤ q → CA b s.heap.size q) : ∀ (n i : Nat), i + n = 27 → ∀ (oa : Nat → OA) (H : Heap) (locs : List Loc) (ls : Array Slot), va_P D CLS (HW ca b q1 q2 w oa i (fun _ => (0, 0, 0)) 0) H → va_D (CA b s.heap.size) (HW ca b q1 q2 w oa i (fun _ => (0, 0, 0)) 0) → va_S (CA b s.heap.size) s.heap H locs → lv_has ls 2 [(1, .int (Int32.ofNat i)), (0, .ref b)] → W p l e ({ frames := 3, cells := 411, slots := 2862, locals := 61 } : Room) s m args below meth c H locs (156 + 5 * i) (1437 + 35 * i) (MQ below (va_Qv (fun _ : Nat × Nat × MA × (Nat → OA) × (Nat → TA) => True) (fun u t => va_P D CLS (HW ca b u.1 u.2.1 u.2.2.1 u.2.2.2.1 27 u.2.2.2.2 40) t.heap ∧ va_D (CA b s.heap.size) (HW ca b u.1 u.2.1 u.2.2.1 u.2.2.2.1 27 u.2.2.2.2 40)) (CA b s.heap.size)) args s 411 2862 (CA b s.heap.size)) (F0 m 40 ls []) := by
  intro n
  induction n with
  | zero =>
    intro i hi oa H locs ls hP hD hS hl
    obtain rfl : i = 27 := by omega
    refine lv_iload_n hx hb d_H_init_40 rfl (lv_at hl 0 rfl) ?_
    refine lv_bipush (v := 27) hx hb d_H_init_41 (by decide) ?_
    refine lv_icmp_ge (tgt := 66) hx hb d_H_init_43 (by decide) (fun _ => ?_) (fun h => absurd (by decide) h)
    refine lv_iconst (v := 0) hx hb d_H_init_66 (by decide) ?_
    refine lv_istore_n (lv' := [(1, .int 0), (0, .ref b)]) hx hb d_H_init_67 rfl hl (by decide) rfl (fun ls hl => ?_)
    exact lp_H_init_T hx hb hr hts hown hlocks hml hK hN hA 40 0 (by omega) (fun _ => (0, 0, 0)) _ _ _ hP hD hS hl
  | succ n ih =>
    intro i hi oa H locs ls hP hD hS hl
    refine lv_iload_n hx hb d_H_init_40 rfl (lv_at hl 0 rfl) ?_
    refine lv_bipush (v := 27) hx hb d_H_init_41 (by decide) ?_
    refine lv_icmp_ge (tgt := 66) hx hb d_H_init_43 (by decide) (fun h => absurd ((i32_le (a := 27) (by decide) (by omega)).mp h) (by omega)) (fun _ => ?_)
    refine lv_aload_n hx hb d_H_init_46 rfl (lv_at hl 1 rfl) ?_
    refine va_get (D := D) (ci := 5) (C := R_H) (T := T_H) (N := 4) (fs := [.ref q1, .ref q2, .ref w.1, .int 0]) hx hb hts in_H hown hK hP 0 rfl rfl 0 (by decide) (hts _ a_205) (fun _ h => h) rfl d_H_init_47 ?_
    refine lv_iload_n hx hb d_H_init_50 rfl (lv_at hl 0 rfl) ?_
    refine va_new (ci := 2) (fs := [.int 0, .int 0, .null, .null, .null, .int 0, .int 0, .null]) (C := R_O) (T := T_O) (N := 8) hx hb hts in_O ft_O ft_O_ok hown (hts _ a_26) (hts _ a_99) (hts _ a_4) hK hP hD hS hA rfl (by decide +kernel) (by show _ ≤ (411 : Nat); omega) (by show _ ≤ (2862 : Nat); omega) d_H_init_51 (fun q H hP hD hS => ?_)
    refine lv_dup hx hb d_H_init_54 rfl ?_
    refine lv_iload_n hx hb d_H_init_55 rfl (lv_at hl 0 rfl) ?_
    refine k_ctor (w0 := HW ca b q1 q2 w oa i (fun _ => (0, 0, 0)) 0) [.int (Int32.ofNat i)] [.ref q, .int (Int32.ofNat i), .ref q1] ⟨hx, hb, hml, hown, hts⟩ (c_O_init l D ca q H.size (Int32.ofNat i)) (w_O_init hts a_100 ⟨Nat.le_of_ble_eq_true rfl, Nat.le_of_ble_eq_true rfl⟩) hP hD hA hS hK hN rfl rfl hl.1 (Nat.le_of_ble_eq_true rfl) ⟨by show _ ≤ (411 : Nat); omega, by show _ ≤ (2862 : Nat); omega⟩ d_H_init_56 (fun u H locs _ hP hD hS => ?_)
    refine va_astq (cA := ca 1) (r := (R_O, T_O, 8)) (n := 27) (f := (fun j => if j < i then some (oa j).1 else none)) hx hb hK hP hD hS 1 1 (HW ca b q1 q2 w oa i (fun _ => (0, 0, 0)) 0).length 2 rfl rfl (by rw [List.getElem?_append_right (Nat.le_refl _), Nat.sub_self]; rfl) rfl (i32_in (by omega) (by omega)) d_H_init_59 (fun H locs hP hD hS => ?_)
    rw [i32_nat (by omega), hw_stepO (q := (q, u))] at hP hD
    refine lv_iinc (k := 0) (v := Int32.ofNat i + 1) (lv' := [(1, .int (Int32.ofNat (i + 1))), (0, .ref b)]) hx hb d_H_init_60 hl rfl rfl (by decide) (by rw [Int32.ofNat_add]; rfl) (fun ls hl => ?_)
    refine lv_goto (tgt := 40) hx hb d_H_init_63 (by decide) ?_
    have h9 := ih (i + 1) (by omega) (va_up oa i (q, u)) _ _ _ hP hD hS hl
    exact k_wide (by omega) (by omega) h9
set_option maxHeartbeats 4000000 in
set_option maxRecDepth 100000 in
theorem c_H_init (l : Launch) (D : va_G) (ca : Nat → ClassId) (b sz : Nat) : CT l y_H_init ws_H_init ({ frames := 3, cells := 411, slots := 2862, locals := 61 } : Room) D ca b sz [] (.inr (5, [.null, .null, .null, .int 0])) (fun _ : Nat × Nat × MA × (Nat → OA) × (Nat → TA) => True) (fun u => HW ca b u.1 u.2.1 u.2.2.1 u.2.2.2.1 27 u.2.2.2.2 40) 411 2862 := by
  refine Met.ofW (cc := b_H_init) (maxL := 2) (ret := none) (by decide) rfl ?_
  intro p e s m args below meth c s₁ B hml hv
  obtain ⟨rfl, hsz, hP, hK, hN⟩ := hv
  have hx := B.exec
  have hb := B.bytes
  have hr := B.returns
  have hts : ∀ w ∈ ALL, w.before _ s = true := fun w h => atoms_spec (ws := ws_H_init) B.pre w (List.mem_cons_of_mem _ h)
  have hown : s.vm.findClass R_H = some m.cls := findClass_of_methodNamed B.named
  have hlocks := B.notSynchronized
  have hin : meth.name = "<init>" := (name_of_methodNamed B.named B.method).1
  subst hsz
  have hD : va_D (CA b s.heap.size) [(b, .inr (5, [.null, .null, .null, .int 0]))] := cd_1
  have hA : ∀ q : Nat, s.heap.size ≤ q → CA b s.heap.size q := fun q h => Or.inr h
  have hS : va_S (CA b s.heap.size) s.heap s.heap [] := va_S.rf
  have hP : va_P D CLS [(b, .inr (5, [.null, .null, .null, .int 0]))] s.heap := hP
  have hl := lv_entry ([.ref b]) (n := 2) (Nat.le_of_ble_eq_true rfl)
  rw [lg_entry_eq]
  generalize (lg_sl ([.ref b]) ++ List.replicate (2 - (lg_sl ([.ref b])).length) Slot.unset).toArray = ls at hl ⊢
  have hl : lv_has ls 2 [(0, .ref b)] := hl
  refine lv_aload_n hx hb d_H_init_0 rfl (lv_at hl 0 rfl) ?_
  refine W.objInit hx hb hown (hts _ a_23) (hts _ a_24) (hts _ a_25) rfl (by rw [hml]; exact hl.1) rfl d_H_init_1 (Nat.le_of_ble_eq_true rfl) (Nat.le_of_ble_eq_true rfl) ?_
  refine W.eq (g2 := F0 m 4 ls []) rfl ?_
  refine lv_aload_n hx hb d_H_init_4 rfl (lv_at hl 0 rfl) ?_
  refine lv_bipush (v := 27) hx hb d_H_init_5 (by decide) ?_
  refine va_newq (N' := 27) hx hb hown (hts _ a_26) (hN.2 _ (by decide)) hK hP hD hS hA (by decide) rfl (by decide) (Nat.le_of_ble_eq_true rfl) (Nat.le_of_ble_eq_true rfl) d_H_init_7 (fun q1 cA H hK9 hP hD hS => ?_)
  obtain rfl := ca_obj 1 rfl hK9
  have hP : va_P D CLS ([(b, .inr (5, [.null, .null, .null, .int 0])), (q1, .inl (ca 1, 27, .inr (.inr (.inr (.inr (fun _ => none))))))]) H := hP
  have hD : va_D (CA b s.heap.size) ([(b, .inr (5, [.null, .null, .null, .int 0])), (q1, .inl (ca 1, 27, .inr (.inr (.inr (.inr (fun _ => none))))))]) := hD
  refine va_putF (D := D) (ci := 5) (v := .ref q1) (ty := .array (.object "TripleHouse$Office")) (C := R_H) (T := T_H) (N := 4) (fs := [.null, .null, .null, .int 0]) hx hb hts in_H ft_H ft_H_ok n_H hown hK hP hD hS 0 rfl rfl 0 (by decide) (hts _ a_205) (fun _ h => h) rfl hin rfl (by decide +kernel) rfl rfl (Nat.le_of_ble_eq_true rfl) d_H_init_10 (fun H locs hP hD hS => ?_)
  have hP : va_P D CLS ([(b, .inr (5, [.ref q1, .null, .null, .int 0])), (q1, .inl (ca 1, 27, .inr (.inr (.inr (.inr (fun _ => none))))))]) H := hP
  have hD : va_D (CA b s.heap.size) ([(b, .inr (5, [.ref q1, .null, .null, .int 0])), (q1, .inl (ca 1, 27, .inr (.inr (.inr (.inr (fun _ => none))))))]) := hD
  refine lv_aload_n hx hb d_H_init_13 rfl (lv_at hl 0 rfl) ?_
  refine lv_bipush (v := 40) hx hb d_H_init_14 (by decide) ?_
  refine va_newq (N' := 40) hx hb hown (hts _ a_28) (hN.2 _ (by decide)) hK hP hD hS hA (by decide) rfl (by decide) (Nat.le_of_ble_eq_true rfl) (Nat.le_of_ble_eq_true rfl) d_H_init_16 (fun q2 cA H hK9 hP hD hS => ?_)
  obtain rfl := ca_obj 2 rfl hK9
  have hP : va_P D CLS ([(b, .inr (5, [.ref q1, .null, .null, .int 0])), (q1, .inl (ca 1, 27, .inr (.inr (.inr (.inr (fun _ => none)))))), (q2, .inl (ca 2, 40, .inr (.inr (.inr (.inr (fun _ => none))))))]) H := hP
  have hD : va_D (CA b s.heap.size) ([(b, .inr (5, [.ref q1, .null, .null, .int 0])), (q1, .inl (ca 1, 27, .inr (.inr (.inr (.inr (fun _ => none)))))), (q2, .inl (ca 2, 40, .inr (.inr (.inr (.inr (fun _ => none))))))]) := hD
  refine va_putF (D := D) (ci := 5) (v := .ref q2) (ty := .array (.object "TripleHouse$Tariff")) (C := R_H) (T := T_H) (N := 4) (fs := [.ref q1, .null, .null, .int 0]) hx hb hts in_H ft_H ft_H_ok n_H hown hK hP hD hS 0 rfl rfl 1 (by decide) (hts _ a_206) (fun _ h => h) rfl hin rfl (by decide +kernel) rfl rfl (Nat.le_of_ble_eq_true rfl) d_H_init_19 (fun H locs hP hD hS => ?_)
  have hP : va_P D CLS ([(b, .inr (5, [.ref q1, .ref q2, .null, .int 0])), (q1, .inl (ca 1, 27, .inr (.inr (.inr (.inr (fun _ => none)))))), (q2, .inl (ca 2, 40, .inr (.inr (.inr (.inr (fun _ => none))))))]) H := hP
  have hD : va_D (CA b s.heap.size) ([(b, .inr (5, [.ref q1, .ref q2, .null, .int 0])), (q1, .inl (ca 1, 27, .inr (.inr (.inr (.inr (fun _ => none)))))), (q2, .inl (ca 2, 40, .inr (.inr (.inr (.inr (fun _ => none))))))]) := hD
  refine lv_aload_n hx hb d_H_init_22 rfl (lv_at hl 0 rfl) ?_
  refine va_new (ci := 1) (fs := [.null, .null, .null, .int 0]) (C := R_M) (T := T_M) (N := 4) hx hb hts in_M ft_M ft_M_ok hown (hts _ a_30) (hts _ a_31) (hts _ a_2) hK hP hD hS hA rfl (by decide +kernel) (Nat.le_of_ble_eq_true rfl) (Nat.le_of_ble_eq_true rfl) d_H_init_23 (fun q3 H hP hD hS => ?_)
  refine lv_dup hx hb d_H_init_26 rfl ?_
  refine k_ctor (w0 := [(b, .inr (5, [.ref q1, .ref q2, .null, .int 0])), (q1, .inl (ca 1, 27, .inr (.inr (.inr (.inr (fun _ => none)))))), (q2, .inl (ca 2, 40, .inr (.inr (.inr (.inr (fun _ => none))))))]) [] [.ref q3, .ref b] ⟨hx, hb, hml, hown, hts⟩ (c_M_init l D ca q3 H.size) (w_M_init hts a_32 ⟨Nat.le_of_ble_eq_true rfl, Nat.le_of_ble_eq_true rfl⟩) hP hD hA hS hK hN rfl rfl hl.1 (Nat.le_of_ble_eq_true rfl) ⟨Nat.le_of_ble_eq_true rfl, Nat.le_of_ble_eq_true rfl⟩ d_H_init_27 (fun u H locs _ hP hD hS => ?_)
  refine va_putF (D := D) (ci := 5) (v := .ref q3) (ty := .object "TripleHouse$Mail") (C := R_H) (T := T_H) (N := 4) (fs := [.ref q1, .ref q2, .null, .int 0]) hx hb hts in_H ft_H ft_H_ok n_H hown hK hP hD hS 0 rfl rfl 2 (by decide) (hts _ a_207) (fun _ h => h) rfl hin rfl (by decide +kernel) rfl rfl (Nat.le_of_ble_eq_true rfl) d_H_init_30 (fun H locs hP hD hS => ?_)
  have hP : va_P D CLS ([(b, .inr (5, [.ref q1, .ref q2, .ref q3, .int 0])), (q1, .inl (ca 1, 27, .inr (.inr (.inr (.inr (fun _ => none)))))), (q2, .inl (ca 2, 40, .inr (.inr (.inr (.inr (fun _ => none))))))] ++ MW ca q3 u.1 u.2.1 u.2.2.1 u.2.2.2 150) H := hP
  have hD : va_D (CA b s.heap.size) ([(b, .inr (5, [.ref q1, .ref q2, .ref q3, .int 0])), (q1, .inl (ca 1, 27, .inr (.inr (.inr (.inr (fun _ => none)))))), (q2, .inl (ca 2, 40, .inr (.inr (.inr (.inr (fun _ => none))))))] ++ MW ca q3 u.1 u.2.1 u.2.2.1 u.2.2.2 150) := hD
  refine lv_aload_n hx hb d_H_init_33 rfl (lv_at hl 0 rfl) ?_
  refine lv_iconst (v := 0) hx hb d_H_init_34 (by decide) ?_
  refine va_put (D := D) (ci := 5) (v := .int 0) (ty := .int) (C := R_H) (T := T_H) (N := 4) (fs := [.ref q1, .ref q2, .ref q3, .int 0]) hx hb hts in_H ft_H ft_H_ok n_H hown hK hP hD hS 0 rfl rfl 3 (by decide) (hts _ a_208) (fun _ h => h) rfl (by decide +kernel) rfl rfl (Nat.le_of_ble_eq_true rfl) d_H_init_35 (fun H locs hP hD hS => ?_)
  have hP : va_P D CLS ([(b, .inr (5, [.ref q1, .ref q2, .ref q3, .int 0])), (q1, .inl (ca 1, 27, .inr (.inr (.inr (.inr (fun _ => none)))))), (q2, .inl (ca 2, 40, .inr (.inr (.inr (.inr (fun _ => none))))))] ++ MW ca q3 u.1 u.2.1 u.2.2.1 u.2.2.2 150) H := hP
  have hD : va_D (CA b s.heap.size) ([(b, .inr (5, [.ref q1, .ref q2, .ref q3, .int 0])), (q1, .inl (ca 1, 27, .inr (.inr (.inr (.inr (fun _ => none)))))), (q2, .inl (ca 2, 40, .inr (.inr (.inr (.inr (fun _ => none))))))] ++ MW ca q3 u.1 u.2.1 u.2.2.1 u.2.2.2 150) := hD
  refine lv_iconst (v := 0) hx hb d_H_init_38 (by decide) ?_
  refine lv_istore_n (lv' := [(1, .int 0), (0, .ref b)]) hx hb d_H_init_39 rfl hl (by decide) rfl (fun ls hl => ?_)
  have e1 : [(b, .inr (5, [.ref q1, .ref q2, .ref q3, .int 0])), (q1, .inl (ca 1, 27, .inr (.inr (.inr (.inr (fun _ => none)))))), (q2, .inl (ca 2, 40, .inr (.inr (.inr (.inr (fun _ => none))))))] ++ MW ca q3 u.1 u.2.1 u.2.2.1 u.2.2.2 150 = HW ca b q1 q2 (q3, u) (fun _ => (0, 0, 0, 0, 0)) 0 (fun _ => (0, 0, 0)) 0 := by unfold HW; simp
  rw [e1] at hP hD
  exact lp_H_init_O hx hb hr hts hown hlocks hml hK hN hA 27 0 (by omega) (fun _ => (0, 0, 0, 0, 0)) _ _ _ hP hD hS hl
theorem w_H_init {R : Room} {s : State} {args : Array Value} {own : String} {index : Nat} (hts : ∀ w ∈ ALL, w.before args s = true) (hlk : Cond.methodLink own index y_H_init ∈ ALL) (hR : (({ frames := 3, cells := 411, slots := 2862, locals := 61 } : Room)).frames + 1 ≤ R.frames ∧ 8 + (2 + 11) + (({ frames := 3, cells := 411, slots := 2862, locals := 61 } : Room)).locals ≤ R.locals) : CallB R s args own index y_H_init b_H_init 2 none ws_H_init ({ frames := 3, cells := 411, slots := 2862, locals := 61 } : Room) 411 2862 0 ∧ y_H_init.name = "<init>" ∧ (Cond.instanceMethod y_H_init).before args s = true := ⟨callB_of 0 hts (good_c a_22) rfl rfl rfl (hts _ a_1) (hts _ hlk) (by decide +kernel) hR, rfl, hts _ a_21⟩
theorem v_H_init {R : Room} {s : State} {args : Array Value} {own : String} {index : Nat} (hts : ∀ w ∈ ALL, w.before args s = true) {host : String} (hlk : va_Nw (.methodLinkNest own index y_H_init host) s) (hR : (({ frames := 3, cells := 411, slots := 2862, locals := 61 } : Room)).frames + 1 ≤ R.frames ∧ 8 + (2 + 11) + (({ frames := 3, cells := 411, slots := 2862, locals := 61 } : Room)).locals ≤ R.locals) : va_CN R s args own index y_H_init host b_H_init 2 none ws_H_init ({ frames := 3, cells := 411, slots := 2862, locals := 61 } : Room) 411 2862 0 ∧ y_H_init.name = "<init>" ∧ (Cond.instanceMethod y_H_init).before args s = true := ⟨va_cnB 0 hts (good_c a_22) rfl rfl rfl hlk (hts _ a_1) (by decide +kernel) hR, rfl, hts _ a_21⟩
