/-! WHAT HOLDS AT THE LAW'S ENTRY, IN THE ABSTRACT MACHINE'S WORDS -/
theorem lw_wd {w : Cond} (i : Nat) (h : decide (lw_tbl[i]? = some w) = true) : w ∈ lw_tbl := List.mem_of_getElem? (of_decide_eq_true h)
theorem lw_ins {K : Nat} (h : K < 10) : Cond.instantiable (ab_N K) (ab_nf K) ∈ lw_tbl := ab_lt10 (P := fun K => Cond.instantiable (ab_N K) (ab_nf K) ∈ lw_tbl) (lw_wd 67 (by decide +kernel)) (lw_wd 139 (by decide +kernel)) (lw_wd 247 (by decide +kernel)) (lw_wd 633 (by decide +kernel)) (lw_wd 132 (by decide +kernel)) (lw_wd 94 (by decide +kernel)) (lw_wd 473 (by decide +kernel)) (lw_wd 355 (by decide +kernel)) (lw_wd 57 (by decide +kernel)) (lw_wd 753 (by decide +kernel)) h
theorem lw_cas {K : Nat} (h : K < 10) : Cond.castable (ab_N K) "java/lang/Object" ∈ lw_tbl := ab_lt10 (P := fun K => Cond.castable (ab_N K) "java/lang/Object" ∈ lw_tbl) (lw_wd 1066 (by decide +kernel)) (lw_wd 1063 (by decide +kernel)) (lw_wd 1070 (by decide +kernel)) (lw_wd 1072 (by decide +kernel)) (lw_wd 1068 (by decide +kernel)) (lw_wd 1067 (by decide +kernel)) (lw_wd 1064 (by decide +kernel)) (lw_wd 1071 (by decide +kernel)) (lw_wd 1065 (by decide +kernel)) (lw_wd 1069 (by decide +kernel)) h
theorem lw_arr {s : State} {args : Array Value} {C : String} (h : (Cond.arrayOver (.object C)).before args s = true) : ∃ cA : ClassId, ArrOfT s cA (.object C) ∧ va_RA s cA (.object C) := by
  obtain ⟨comp, c, k, h1, h2, h3, h4, h5⟩ := Cond.arrayOver_spec h
  exact ⟨c, fun N z => ⟨(fun k h => by cases h), k, h3, comp, h4⟩, k, comp, h3, h4, h1, h5⟩
theorem lw_arrA {s : State} {args : Array Value} (h : (Cond.arrayOver (.array .int)).before args s = true) : ∃ cA : ClassId, ArrOfT s cA (.array .int) ∧ va_RA s cA (.array .int) := by
  obtain ⟨comp, c, k, h3, h4, h5⟩ : ∃ comp c k, s.vm.classes[c]? = some k ∧ k.kind = .array comp (.array .int) ∧ s.vm.findClass ("[" ++ (FieldType.array .int).toString) = some c := by
    unfold Cond.before at h
    simp only [Cond.holds, Cond.value, beq_iff_eq] at h
    cases hc : s.vm.findClass (FieldType.array .int).toString with
    | none => simp [hc] at h
    | some comp =>
      simp only [hc, Option.bind_some, Option.bind_eq_some_iff, Option.map_eq_some_iff] at h
      obtain ⟨c, h2, k, h3, h4⟩ := h
      cases hk : k.kind with
      | array comp' ty =>
        rw [hk] at h4
        simp only [Bool.and_eq_true, decide_eq_true_eq] at h4
        exact ⟨comp', c, k, h3, by rw [hk, h4.1], h4.2⟩
      | _ =>
        rw [hk] at h4
        simp at h4
  exact ⟨c, fun N z => ⟨(fun k h => by cases h), k, h3, comp, h4⟩, h5⟩
theorem lw_arrI {s : State} {args : Array Value} (h : (Cond.arrayClass .int).before args s = true) : ∃ cA : ClassId, ArrOfT s cA .int ∧ va_RA s cA .int := by
  obtain ⟨c, k, comp, h1, h3, h4⟩ := Cond.arrayClass_spec h
  exact ⟨c, fun N z => ⟨(fun k h => by cases h), k, h3, comp, h4⟩, h1⟩
set_option maxHeartbeats 1000000 in
theorem lw_KE {s : State} {b L : Nat} {xs : Nat → Int32} (l : Launch) (hts : ∀ w ∈ lw_tbl, w.before #[Value.ref b] s = true) (hX : va_X b L xs s s.heap) (hbl : b < s.heap.size) (hgv : (Jvm.Cond.and given_1 narrow_1).before #[Value.ref b] s = true) :
    ∃ (D : va_G) (cy : Nat → ClassId) (ea : Nat), ab_K ((l, D, cy, s.heap.size, b, L, xs, ea) : ab_E) s s.heap ∧ ea < s.heap.size := by
  have hs := flat_of_before _ hgv
  have hall : ∀ w ∈ ab_ALL, w.before #[Value.ref b] s = true := fun w hw => hts w (List.mem_filter.mp hw).1
  have hA : ∀ a : Nat, a < s.heap.size → ¬ (fun q : Nat => s.heap.size ≤ q) a := fun a h => Nat.not_le.mpr h
  have hkn : ∀ K, ∃ (cC : ClassId) (iS : Nat → Nat), K < 10 → u_Kn s (ab_N K) (ab_T K) (ab_nf K) cC iS := fun K => by
    by_cases h : K < 10
    · obtain ⟨cC, iS, q⟩ := u_known (C := ab_N K) (T := ab_T K) (N := ab_nf K) (n := ab_nf K) hall (ab_uin h) (hts _ (lw_ins h))
      exact ⟨cC, iS, fun _ => q⟩
    · exact ⟨0, fun _ => 0, fun q => absurd q h⟩
  obtain ⟨c1, r1⟩ := lw_arrI (hts (Cond.arrayClass .int) (lw_wd 92 (by decide +kernel)))
  have o2 := hts (Cond.arrayOver (.object RX0)) (lw_wd 138 (by decide +kernel))
  have o3 := hts (Cond.arrayOver (.object RX5)) (lw_wd 145 (by decide +kernel))
  have o4 := hts (Cond.arrayOver (.object "java/lang/Object")) (lw_wd 337 (by decide +kernel))
  have o5 := hts (Cond.arrayOver (.array .int)) (lw_wd 65 (by decide +kernel))
  obtain ⟨c2, r2⟩ := lw_arr o2
  obtain ⟨c3, r3⟩ := lw_arr o3
  obtain ⟨c4, r4⟩ := lw_arr o4
  obtain ⟨c5, r5⟩ := lw_arrA o5
  have e1 : (Cond.arrayOf (.static "java/util/ArrayList" "DEFAULTCAPACITY_EMPTY_ELEMENTDATA" "[Ljava/lang/Object;") (.object "java/lang/Object")).before #[Value.ref b] s = true := hs _ (by decide +kernel)
  have e2 : (Cond.eq (.length (.static "java/util/ArrayList" "DEFAULTCAPACITY_EMPTY_ELEMENTDATA" "[Ljava/lang/Object;")) (.int 0)).before #[Value.ref b] s = true := hs _ (by decide +kernel)
  have e3 : (Cond.isRef (.mirror "[Ljava/lang/Object;")).before #[Value.ref b] s = true := hs _ (by decide +kernel)
  obtain ⟨ea, ev, eT⟩ := va_Tof (N := 0) (f := fun _ => .null) (A := fun q : Nat => s.heap.size ≤ q) (by decide) e1 (va_eqt e2) (fun j hj => absurd hj (Nat.not_lt_zero j)) hA
  have eZ := va_Zof (A := fun q : Nat => s.heap.size ≤ q) (hts (Cond.laysStatic "java/util/ArrayList" "DEFAULTCAPACITY_EMPTY_ELEMENTDATA" "[Ljava/lang/Object;") (lw_wd 79 (by decide +kernel))) (hts (Cond.initialized "java/util/ArrayList") (lw_wd 41 (by decide +kernel))) ev hA
  have hea : ea < s.heap.size := by
    obtain ⟨cell, h, -⟩ := eT
    exact (Array.getElem?_eq_some_iff.mp h).1
  refine ⟨(fun K => Classical.choose (hkn K), fun K => Classical.choose (Classical.choose_spec (hkn K))), fun k => if k = 1 then c1 else if k = 2 then c2 else if k = 3 then c3 else if k = 4 then c4 else c5, ea, ⟨⟨?_, ?_⟩, hX, hbl, eZ, eT, va_Nw.of rfl (hts _ (lw_wd 140 (by decide +kernel))), va_Nw.of rfl (hts _ (lw_wd 431 (by decide +kernel))), va_AO.of o2, va_AO.of o3, va_AO.of o4, ⟨fun K hK => va_Nw.of rfl (hts _ (lw_cas hK)), o5, va_Mi.of e3, va_Dc.of (hts _ (lw_wd 1075 (by decide +kernel)))⟩, Nat.le_refl _⟩, hea⟩
  · intro K q hq
    have hK : K < 10 := (List.getElem?_eq_some_iff.mp hq).1
    rw [ab_cl hK] at hq
    cases hq
    exact Classical.choose_spec (Classical.choose_spec (hkn K)) hK
  · intro k q hq
    match k, hq with
    | 0, hq => cases hq; exact r1
    | 1, hq => cases hq; exact r2
    | 2, hq => cases hq; exact r3
    | 3, hq => cases hq; exact r4
    | 4, hq => cases hq; exact r5
    | k + 5, hq => simp [ab_tys] at hq
