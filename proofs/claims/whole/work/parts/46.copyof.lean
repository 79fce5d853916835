/-! Arrays.copyOf -/
abbrev yGC : MethodName := ⟨"java/lang/Object", "getClass", "()Ljava/lang/Class;"⟩
theorem ab_w_g1 : Cond.methodLink "java/util/Arrays" 86 yGC ∈ ab_ALL := ab_wp_in (i := 319) (by decide +kernel)
theorem ab_w_g2 : Cond.instanceMethod yGC ∈ ab_ALL := ab_wp_in (i := 320) (by decide +kernel)
theorem ab_w_g3 : Cond.native yGC ∈ ab_ALL := ab_wp_in (i := 332) (by decide +kernel)
theorem ab_w_g4 : Cond.selects "[Ljava/lang/Object;" yGC yGC ∈ ab_ALL := ab_wp_in (i := 1074) (by decide +kernel)
theorem ab_w_c1 : Cond.methodLink "java/util/Arrays" 300 (ab_mt nJ7_copyOf_6403c).1 ∈ ab_ALL := ab_wp_in (i := 333) (by decide +kernel)
theorem ab_w_c2 : Cond.static (ab_mt nJ7_copyOf_6403c).1 ∈ ab_ALL := ab_wp_in (i := 334) (by decide +kernel)
theorem ab_w_c3 : Cond.code (ab_mt nJ7_copyOf_6403c).1 (ab_mt nJ7_copyOf_6403c).2.1 (ab_mt nJ7_copyOf_6403c).2.2.1 (ab_mt nJ7_copyOf_6403c).2.2.2.1 ∈ ab_ALL := ab_wp_in (i := 335) (by decide +kernel)
theorem ab_w_c4 : Cond.initialized (ab_mt nJ7_copyOf_6403c).1.cls ∈ ab_ALL := ab_wp_in (i := 49) (by decide +kernel)
theorem ab_w_k1 : Cond.classLink "java/util/Arrays" 110 "[Ljava/lang/Object;" ∈ ab_ALL := ab_wp_in (i := 336) (by decide +kernel)
theorem ab_w_a1 : Cond.methodLink "java/util/Arrays" 150 arraycopyName ∈ ab_ALL := ab_wp_in (i := 342) (by decide +kernel)
theorem ab_w_a2 : Cond.static arraycopyName ∈ ab_ALL := ab_wp_in (i := 343) (by decide +kernel)
theorem ab_w_a3 : Cond.native arraycopyName ∈ ab_ALL := ab_wp_in (i := 344) (by decide +kernel)
theorem ab_w_a4 : Cond.initialized "java/lang/System" ∈ ab_ALL := ab_wp_in (i := 50) (by decide +kernel)
/-- references, copied -/
def cpR2 (hr : ab_R) (K g N : Nat) (K' i' j' : Nat) : Option (Nat × Nat) := if K' = K then (if i' = g + 1 then (if j' < N then hr K g j' else hr K' i' j') else hr K' i' j') else hr K' i' j'
theorem cpR2_ne {hr : ab_R} {K g N K' i' : Nat} (h : ¬ (K' = K ∧ i' = g + 1)) : cpR2 hr K g N K' i' = hr K' i' := funext fun j' => by
  unfold cpR2
  by_cases e : K' = K
  · rw [if_pos e, if_neg (fun z => h ⟨e, z⟩)]
  · rw [if_neg e]
theorem cpR2_z {hr : ab_R} {K g N : Nat} : cpR2 (ab_zR hr K (g + 1)) K g N = cpR hr K g N := by
  funext K' i' j'
  unfold cpR2 cpR ab_zR
  by_cases e : K' = K
  · rw [if_pos e, if_pos e, if_pos rfl, if_pos e]
    by_cases e2 : i' = g + 1
    · rw [if_pos e2, if_pos e2, if_pos e2, if_neg (show ¬ g = g + 1 by omega)]
    · rw [if_neg e2, if_neg e2, if_neg e2]
  · rw [if_neg e, if_neg e, if_neg e]
section COPY
variable {E : ab_E} {own : String} {cc : ByteArray} {nL : Nat} {p : Program} {e : Env} {R : Room} {s : State} {m : MethodId} {args : Array Value} {below : List Frame} {meth : Method} {c : Code} {Fin : State → Prop} {ad0 : ab_A} {cn0 : ab_C} {TC TS pc : Nat} {L : ab_L} {st : List ab_V} {hi : ab_I} {hr : ab_R} {cn : ab_C} {ck cs : Nat}
theorem ab_acopy (X : ab_X E own cc nL p R s m args c TC TS) {K g KE idx N : Nat} (h1 : 17 ≤ K) (h2 : K ≤ 20) (hKE : KE < 10) (hN0 : N ≤ ab_cap g) (hN1 : N ≤ ab_cap (g + 1)) (hNb : N < 100000) (hel : ∀ j K' i', j < N → hr K g j = some (K', i') → K' = KE) (hlink : Cond.methodLink own idx arraycopyName ∈ ab_ALL) (hf : 1 ≤ R.frames) (hlo : 80 ≤ R.locals) (hlen : st.length ≤ 8) (hd : decode cc pc = .ok (.invokestatic idx, 3))
    (kk : ab_W E nL p e R s m args below meth c Fin ad0 cn0 TC TS (pc + 3) L st hi (cpR2 hr K g N) cn ck cs) : ab_W E nL p e R s m args below meth c Fin ad0 cn0 TC TS pc L (.inl (nI N) :: .inl (nI 0) :: .inr (some (K, g + 1)) :: .inl (nI 0) :: .inr (some (K, g)) :: st) hi hr cn ck cs := by
  intro ad H locs ls cells slots hR hN hL hst hl hS hc hs hx
  have hst1 := hst _ (List.mem_cons_of_mem _ (List.mem_cons_of_mem _ List.mem_cons_self)) K (g + 1) rfl
  have hst0 := hst _ (List.mem_cons_of_mem _ (List.mem_cons_of_mem _ (List.mem_cons_of_mem _ (List.mem_cons_of_mem _ List.mem_cons_self)))) K g rfl
  have hstr : ∀ v ∈ st, ab_lv cn v := fun w hw => hst w (List.mem_cons_of_mem _ (List.mem_cons_of_mem _ (List.mem_cons_of_mem _ (List.mem_cons_of_mem _ (List.mem_cons_of_mem _ hw)))))
  have hts := X.2.2.2.2.1
  have hKs := X.2.2.2.2.2.1
  obtain ⟨ws, hP, hD, hcell, hinj, hcl, hz⟩ := hR
  obtain ⟨q0, hq0⟩ := hcell K g hst0 (by omega)
  obtain ⟨q1, hq1⟩ := hcell K (g + 1) hst1 (by omega)
  rw [ab_cE_ref (by omega) (by rw [kA_tg h1 h2]; omega), kA_len h1 h2] at hq0 hq1
  have hql := (List.getElem?_eq_some_iff.mp hq1).1
  have hT := ab_tys_at (E := E) (t := ab_tg K) (by rw [kA_tg h1 h2]; omega) (by rw [kA_tg h1 h2]; omega)
  have hT' : (ab_tys E)[3]? = some (ab_cy E (ab_tg K), .object "java/lang/Object") := by
    rw [kA_tg h1 h2]
    rfl
  have hw : nativeFrameWords "java/lang/System" "arraycopy" 5 ≤ 20 := by decide
  refine va_copyq X.1 X.2.1 (X.2.2.1.trans hl.1.symm) X.2.2.2.1 (hts _ hlink) (hts _ ab_w_a3) (hts _ ab_w_a2) (hts _ ab_w_a4) hKs.1 hP hD hS q0 q1 3 3 hq0 hq1 hT' hT' (sp := nI 0) (dp := nI 0) (n := nI N) (C := ab_N KE) (nI_pos (by omega)) (nI_pos (by omega)) (nI_pos (by omega)) (by rw [nI_clamp (by omega), nI_clamp (by omega)]; omega) (by rw [nI_clamp (by omega), nI_clamp (by omega)]; omega) (fun i hi' y hy => ?_) (fun comp c0 f1 f2 => ?_) hf ?_ hd (fun H1 locs1 g1 g2 g3 => ?_)
  · rw [nI_clamp (by omega)] at hi'
    rw [nI_clamp (by omega), Nat.zero_add, if_pos (by omega)] at hy
    rcases hh : hr K g i with _ | ⟨K', i'⟩
    · rw [hh] at hy
      cases hy
    · rw [hh] at hy
      have e1 := hel i K' i' hi' hh
      subst e1
      cases hy
      have hlv := hcl K g hst0 i (by unfold ab_pl; rw [if_neg (by omega), kA_len h1 h2]; omega) K' i' hh
      obtain ⟨q', hq'⟩ := hcell K' i' hlv (by omega)
      rw [ab_cE_obj hKE] at hq'
      exact va_recv hKs.1 hP (ab_cl hKE) hq'
  · obtain ⟨c1, t1, k1, k2, k3⟩ := Cond.castable_spec (va_Nw.use (A := args) rfl (hKs.2.2.2.2.2.2.2.2.2.2.1.1 KE hKE))
    cases k1.symm.trans f2
    cases k2.symm.trans f1
    exact k3
  · have := ab_rest (m := m) (pc := pc) (ls := ls) (rest0 := st.map (ab_cv ad)) ad hlen
    have : ((st.map (ab_cv ad)).map fun v => v.category).sum ≤ 8 := by omega
    omega
  · have ef : (va_cpy (fun j => if j < ab_cap g then ab_ar ad (hr K g j) else none) (fun j => if j < ab_cap (g + 1) then ab_ar ad (hr K (g + 1) j) else none) (nI 0).toNatClampNeg (nI 0).toNatClampNeg (nI N).toNatClampNeg) = (fun j => if j < ab_cap (g + 1) then ab_ar ad (cpR2 hr K g N K (g + 1) j) else none) := by
      rw [nI_clamp (by omega), nI_clamp (by omega)]
      funext j
      unfold va_cpy cpR2
      rw [if_pos rfl, if_pos rfl]
      by_cases e1 : j < N
      · rw [if_pos ⟨Nat.zero_le _, by omega⟩, if_pos e1, if_pos (by omega)]
        show (if 0 + (j - 0) < ab_cap g then ab_ar ad (hr K g (0 + (j - 0))) else none) = _
        rw [Nat.zero_add, Nat.sub_zero, if_pos (by omega)]
      · rw [if_neg (fun z => e1 (by omega)), if_neg e1]
    rw [ef] at g1
    refine kk ad H1 locs1 ls cells slots ?_ hN hL hstr hl g3 hc hs hx
    refine ⟨ws.set q1 (ad K (g + 1), ab_cE E ad hi (cpR2 hr K g N) K (g + 1)), ?_, hD.set hq1, fun K' i' hl' hK' => ?_, hinj, fun K' i' hl' j hjl K'' i'' hj => ?_, hz⟩
    · rw [ab_cE_ref (by omega) (by rw [kA_tg h1 h2]; omega), kA_len h1 h2]
      exact g1
    · by_cases e : K' = K ∧ i' = g + 1
      · obtain ⟨rfl, rfl⟩ := e
        exact ⟨q1, List.getElem?_set_self hql⟩
      · obtain ⟨q', hq'⟩ := hcell K' i' hl' hK'
        refine ⟨q', ?_⟩
        rw [List.getElem?_set_ne, hq', ab_cE_congr rfl (cpR2_ne e) (fun _ _ => rfl)]
        intro e2
        subst e2
        have e3 := hq1.symm.trans hq'
        simp only [Option.some.injEq, Prod.mk.injEq] at e3
        exact e (hinj K' i' K (g + 1) hl' hst1 (by omega) (by omega) e3.1.symm)
    · by_cases e : K' = K ∧ i' = g + 1
      · obtain ⟨rfl, rfl⟩ := e
        unfold cpR2 at hj
        rw [if_pos rfl, if_pos rfl] at hj
        by_cases e1 : j < N
        · rw [if_pos e1] at hj
          exact hcl K' g hst0 j (by unfold ab_pl; rw [if_neg (by omega), kA_len h1 h2]; omega) K'' i'' hj
        · rw [if_neg e1] at hj
          exact hcl K' (g + 1) hl' j hjl K'' i'' hj
      · rw [cpR2_ne e] at hj
        exact hcl K' i' hl' j hjl K'' i'' hj
end COPY
section COPY2
variable {E : ab_E} {d : Nat} {hi : ab_I} {hr : ab_R} {cn : ab_C} {Q : ab_Q}
theorem c_copy3 (hnb : ab_n E < 2 ^ 31) {K g KE mi : Nat} {ad : ab_A} (h1 : 17 ≤ K) (h2 : K ≤ 20) (hg : g < 8) (hKE : KE < 10) (hcn : cn K = g + 1) (hel : ∀ j K' i', j < ab_cap g → hr K g j = some (K', i') → K' = KE) (h : Q (some (.inr (some (K, g + 1)))) (ab_zI hi K (g + 1)) (cpR hr K g (ab_cap g)) (ab_uC cn K (g + 2))) :
    Met (ab_l E) (ab_mt nJ7_copyOf_6403c).1 (ab_ws (ab_mt nJ7_copyOf_6403c)) (ab_rm (d + 1) (ab_mc nJ7_copyOf_6403c) (ab_mS nJ7_copyOf_6403c)) (va_Pc [.ref (ad K g), .int (nI (ab_cap (g + 1))), .ref mi] (fun U => ab_Rp E ad hi hr cn U.heap ∧ ab_K E U U.heap ∧ va_Mi "[Ljava/lang/Object;" mi U)) (ab_Qc E ad cn Q) (ab_mc nJ7_copyOf_6403c) (ab_mS nJ7_copyOf_6403c) (fun q => ab_lo E ≤ q) := by
  have hcode := kJ7_copyOf_6403c
  unfold ab_code at hcode
  rw [Bool.and_eq_true, Bool.and_eq_true] at hcode
  obtain ⟨⟨hpl, hrk⟩, hall⟩ := hcode
  have hh := ab_cap_hi g (by omega)
  have hh1 := ab_cap_hi (g + 1) (by omega)
  have hle : ab_cap g ≤ ab_cap (g + 1) := Nat.le_add_right _ _
  refine Met.ofW (cc := (ab_mt nJ7_copyOf_6403c).2.1) (maxL := (ab_mt nJ7_copyOf_6403c).2.2.1) (ret := (ab_mt nJ7_copyOf_6403c).2.2.2.1) hpl rfl ?_
  intro p e s m args below meth c s₁ B hml hv
  obtain ⟨rfl, hR, hK, hMi⟩ := hv
  have hx := B.exec
  have hb := B.bytes
  have hret := B.returns
  have hts0 := atoms_spec (ws := ab_ws (ab_mt nJ7_copyOf_6403c)) B.pre
  have hts : ∀ w ∈ ab_ALL, w.before [.ref (ad K g), .int (nI (ab_cap (g + 1))), .ref mi].toArray s = true := fun w hw => hts0 w (List.mem_cons_of_mem _ hw)
  have hown : s.vm.findClass (ab_mt nJ7_copyOf_6403c).1.cls = some m.cls := findClass_of_methodNamed B.named
  have X : ab_X E (ab_mt nJ7_copyOf_6403c).1.cls (ab_mt nJ7_copyOf_6403c).2.1 (ab_mt nJ7_copyOf_6403c).2.2.1 p (headSpec (ab_ws (ab_mt nJ7_copyOf_6403c)) (ab_rm (d + 1) (ab_mc nJ7_copyOf_6403c) (ab_mS nJ7_copyOf_6403c))).room s m [.ref (ad K g), .int (nI (ab_cap (g + 1))), .ref mi].toArray c (ab_mc nJ7_copyOf_6403c) (ab_mS nJ7_copyOf_6403c) := ⟨hx, hb, hml, hown, hts, hK, Nat.le_refl _, Nat.le_refl _⟩
  have hl := lv_entry [.ref (ad K g), .int (nI (ab_cap (g + 1))), .ref mi] (n := (ab_mt nJ7_copyOf_6403c).2.2.1) (show 3 ≤ 4 by decide)
  rw [lg_entry_eq]
  generalize (lg_sl [.ref (ad K g), .int (nI (ab_cap (g + 1))), .ref mi] ++ List.replicate ((ab_mt nJ7_copyOf_6403c).2.2.1 - (lg_sl [.ref (ad K g), .int (nI (ab_cap (g + 1))), .ref mi]).length) Slot.unset).toArray = ls at hl ⊢
  have hla : lv_args 0 [.ref (ad K g), .int (nI (ab_cap (g + 1))), .ref mi] = [(0, .ref (ad K g)), (1, .int (nI (ab_cap (g + 1)))), (2, .ref mi)] := rfl
  rw [hla] at hl
  have post : ∀ (ad1 : ab_A) (hi1 : ab_I) (hr1 : ab_R) (cn1 : ab_C) (v : Option ab_V) (H : Heap) (locs : List Loc), ab_Rp E ad1 hi1 hr1 cn1 H → ab_ext ad cn ad1 cn1 → (∀ w, v = some w → ab_lv cn1 w) → va_S (fun q => ab_lo E ≤ q) s.heap H locs → Q v hi1 hr1 cn1 → ∀ t : State, t.heap = H → s.WarmedH t.vm → ab_Qc E ad cn Q [.ref (ad K g), .int (nI (ab_cap (g + 1))), .ref mi].toArray s (.returned (v.map (ab_cv ad1))) t := by
    intro ad1 hi1 hr1 cn1 v H locs q1 q2 q3 q4 q5 t ht _
    exact ⟨⟨v, hi1, hr1, cn1, ad1, rfl, q5, by rw [ht]; exact q1, q2, q3⟩, q4.F ht⟩
  have key : ∀ J : ab_J, (∀ pc L st hi hr cn ck cs, ab_vc E d 3 Q J (ab_at gJ7_copyOf_6403c pc) pc L st hi hr cn ck cs → J pc L st hi hr cn ck cs) → (∀ N KE L st hi hr cn ck cs, KE < 10 → N ≤ ab_cap g → N ≤ ab_cap (g + 1) → N < 100000 → (∀ j K' i', j < N → hr K g j = some (K', i') → K' = KE) → st.length ≤ 8 → J 38 L st hi (cpR2 hr K g N) cn ck cs → J 35 L (.inl (nI N) :: .inl (nI 0) :: .inr (some (K, g + 1)) :: .inl (nI 0) :: .inr (some (K, g)) :: st) hi hr cn ck cs) → J 6 [(0, .inr (some (K, g))), (1, .inl (nI (ab_cap (g + 1))))] [] hi hr cn 1 244 := by
    intro J step cpy
    refine step 6 _ _ _ _ _ _ _ ?_
    dsimp [ab_at, gJ7_copyOf_6403c, nJ7_copyOf_6403c, ab_vc, ab_v1, ab_lk, ab_st, ab_en, ab_cst, ab_mc, ab_mS, ab_tk, ab_ns]
    refine ⟨K, kA_oa h1 h2, kA_tg h1 h2, ?_, ?_, by decide, ?_, ?_⟩
    · rw [kA_len h1 h2, hcn]
      omega
    · rw [kA_len h1 h2, hcn]
    · rw [kA_len h1 h2, hcn]
      exact hh1
    · rw [hcn]
      refine step 24 _ _ _ _ _ _ _ ?_
      dsimp [ab_at, gJ7_copyOf_6403c, nJ7_copyOf_6403c, ab_vc, ab_v1, ab_lk, ab_st, ab_en, ab_cst, ab_mc, ab_mS, ab_tk, ab_ns]
      rw [if_neg (by omega), if_neg (by omega), if_pos (by omega), if_pos (by omega), kA_len h1 h2]
      have emin : (if nI (ab_cap (g + 1)) < nI (ab_cap g) then nI (ab_cap (g + 1)) else nI (ab_cap g)) = nI (ab_cap g) := if_neg fun z => absurd ((nI_ltI (by omega) (by omega)).mp z) (by omega)
      rw [emin]
      refine cpy (ab_cap g) KE _ _ _ _ _ _ _ hKE (Nat.le_refl _) hle (by omega) (fun j K' i' hj q => hel j K' i' hj ?_) (by decide) ?_
      · rw [← q]
        exact (ab_zR_i (by omega)).symm
      · refine step 38 _ _ _ _ _ _ _ ?_
        dsimp [ab_at, gJ7_copyOf_6403c, nJ7_copyOf_6403c, ab_vc, ab_v1, ab_lk, ab_st, ab_en, ab_cst, ab_mc, ab_mS, ab_tk, ab_ns]
        rw [cpR2_z]
        exact h
  have hla1 := hl.2.2 (2, .ref mi) (by simp)
  refine lv_aload_n hx hb (k := 2) (i := 2) (x := mi) (show decode _ 0 = .ok (.aload_n 2, 1) by decide +kernel) rfl hla1 ?_
  refine va_ldcM hx hb hown (hts _ ab_w_k1) hMi (show decode _ 1 = .ok (.ldc 110, 2) by decide +kernel) ?_
  refine lv_acmp_ne (rx := some mi) (ry := some mi) (off := 10) (tgt := 13) hx hb (show decode _ 3 = .ok (.if_acmp .ne 10, 3) by decide +kernel) rfl (fun q => absurd rfl q) (fun _ => ?_)
  have K2 := key (ab_W E (ab_mt nJ7_copyOf_6403c).2.2.1 p e (headSpec (ab_ws (ab_mt nJ7_copyOf_6403c)) (ab_rm (d + 1) (ab_mc nJ7_copyOf_6403c) (ab_mS nJ7_copyOf_6403c))).room s m [.ref (ad K g), .int (nI (ab_cap (g + 1))), .ref mi].toArray below meth c (MQ below (ab_Qc E ad cn Q) [.ref (ad K g), .int (nI (ab_cap (g + 1))), .ref mi].toArray s (ab_mc nJ7_copyOf_6403c) (ab_mS nJ7_copyOf_6403c) (fun q => ab_lo E ≤ q)) ad cn (ab_mc nJ7_copyOf_6403c) (ab_mS nJ7_copyOf_6403c)) (fun pc L st hi hr cn ck cs hv => ?_) (fun N KE L st hi hr cn ck cs a1 a2 a3 a4 a5 a6 a7 => ?_)
  · exact K2 ad s.heap [] ls 0 0 hR (by simp) (fun q hq => by
      rcases List.mem_cons.mp hq with rfl | hq
      · intro K' i' z
        cases z
        omega
      · rw [List.mem_singleton.mp hq]
        trivial) (fun v hv => by cases hv) ⟨hl.1, hl.2.1, fun q hq => hl.2.2 q (by
      rcases List.mem_cons.mp hq with rfl | hq
      · exact List.mem_cons_self
      · rw [List.mem_singleton.mp hq]
        exact List.mem_cons_of_mem _ List.mem_cons_self)⟩ va_S.rf (by show 0 + 1 ≤ 1; omega) (by show 0 + 244 ≤ 244; omega) (ab_ext.rf ad cn)
  · refine ab_vc_sound X (d := d) (rk := 3) (ini := false) (by show d + 2 ≤ d + 1 + 1; omega) (by show 40 * d + 80 ≤ 40 * (d + 1) + 40; omega) (fun q => by cases q) hnb (fun _ _ _ _ _ _ _ _ k => k) ?_ ?_ ?_ (ab_at gJ7_copyOf_6403c pc) pc L st hi hr cn ck cs (ab_at_ok hall pc) hv
    · intro pc L hi1 hr1 cn1 ck cs x hd h2 h12
      exact absurd h12 (by decide)
    · intro pc L hi1 hr1 cn1 ck cs r hd h3 hq ad1 H locs ls cells slots g1 g2 g3 g4 g5 g6 g7 g8 g9
      refine W.widen (k := ab_mc nJ7_copyOf_6403c) (n := ab_mS nJ7_copyOf_6403c) (by omega) (by omega) ?_
      refine W.aret hx hb (hret.trans (show (ab_mt nJ7_copyOf_6403c).2.2.2.1 = some (FieldType.array (.object "java/lang/Object")) from rfl)) (Or.inr ⟨_, rfl⟩) ?_ (post ad1 hi1 hr1 cn1 (some (.inr r)) H locs g1 g9 (fun w q => by cases q; exact g4 _ List.mem_cons_self) g6 hq) g6.2.2 hd
      rcases r with _ | r
      · exact Or.inl rfl
      · exact Or.inr ⟨_, rfl⟩
    · intro pc L hi1 hr1 cn1 ck cs hd h0
      cases h0
  · exact ab_acopy X h1 h2 a1 a2 a3 a4 a5 ab_w_a1 (by show 1 ≤ d + 1 + 1; omega) (by show 80 ≤ 40 * (d + 1) + 40; omega) a6 (show decode _ 35 = .ok (.invokestatic 150, 3) by decide +kernel) a7
theorem c_copyOf (hnb : ab_n E < 2 ^ 31) : copyOf_ok E (d + 2) := by
  intro K g KE hi hr cn Q h1 h2 hg hKE hcn hel h ad
  have hcode := kJ7_copyOf_1904c
  unfold ab_code at hcode
  rw [Bool.and_eq_true, Bool.and_eq_true] at hcode
  obtain ⟨⟨hpl, hrk⟩, hall⟩ := hcode
  have hh := ab_cap_hi g (by omega)
  have hh1 := ab_cap_hi (g + 1) (by omega)
  refine Met.ofW (cc := (ab_mt nJ7_copyOf_1904c).2.1) (maxL := (ab_mt nJ7_copyOf_1904c).2.2.1) (ret := (ab_mt nJ7_copyOf_1904c).2.2.2.1) hpl rfl ?_
  intro p e s m args below meth c s₁ B hml hv
  obtain ⟨rfl, hR, hK, has⟩ := hv
  have hx := B.exec
  have hb := B.bytes
  have hret := B.returns
  have hts0 := atoms_spec (ws := ab_ws (ab_mt nJ7_copyOf_1904c)) B.pre
  generalize has0 : ([.inr (some (K, g)), .inl (nI (ab_cap (g + 1)))] : List ab_V) = as at hts0 has ⊢
  have hts : ∀ w ∈ ab_ALL, w.before (as.map (ab_cv ad)).toArray s = true := fun w hw => hts0 w (List.mem_cons_of_mem _ hw)
  have hown : s.vm.findClass (ab_mt nJ7_copyOf_1904c).1.cls = some m.cls := findClass_of_methodNamed B.named
  have X : ab_X E (ab_mt nJ7_copyOf_1904c).1.cls (ab_mt nJ7_copyOf_1904c).2.1 (ab_mt nJ7_copyOf_1904c).2.2.1 p (headSpec (ab_ws (ab_mt nJ7_copyOf_1904c)) (ab_rm (d + 2) (ab_mc nJ7_copyOf_1904c) (ab_mS nJ7_copyOf_1904c))).room s m (as.map (ab_cv ad)).toArray c (ab_mc nJ7_copyOf_1904c) (ab_mS nJ7_copyOf_1904c) := ⟨hx, hb, hml, hown, hts, hK, Nat.le_refl _, Nat.le_refl _⟩
  have hl := lv_entry (as.map (ab_cv ad)) (n := (ab_mt nJ7_copyOf_1904c).2.2.1) (by rw [ab_sl_len, ← has0]; exact Nat.le_of_ble_eq_true rfl)
  rw [lg_entry_eq]
  generalize (lg_sl (as.map (ab_cv ad)) ++ List.replicate ((ab_mt nJ7_copyOf_1904c).2.2.1 - (lg_sl (as.map (ab_cv ad))).length) Slot.unset).toArray = ls at hl ⊢
  rw [← ab_en_map] at hl
  have post : ∀ (ad1 : ab_A) (hi1 : ab_I) (hr1 : ab_R) (cn1 : ab_C) (v : Option ab_V) (H : Heap) (locs : List Loc), ab_Rp E ad1 hi1 hr1 cn1 H → ab_ext ad cn ad1 cn1 → (∀ w, v = some w → ab_lv cn1 w) → va_S (fun q => ab_lo E ≤ q) s.heap H locs → Q v hi1 hr1 cn1 → ∀ t : State, t.heap = H → s.WarmedH t.vm → ab_Qc E ad cn Q (as.map (ab_cv ad)).toArray s (.returned (v.map (ab_cv ad1))) t := by
    intro ad1 hi1 hr1 cn1 v H locs q1 q2 q3 q4 q5 t ht _
    exact ⟨⟨v, hi1, hr1, cn1, ad1, rfl, q5, by rw [ht]; exact q1, q2, q3⟩, q4.F ht⟩
  have hl' := hl
  rw [← has0] at hl'
  have hl0 : ls[0]? = some (.val (.ref (ad K g))) := hl'.2.2 (0, .ref (ad K g)) List.mem_cons_self
  have hl1 : ls[1]? = some (.val (.int (nI (ab_cap (g + 1))))) := hl'.2.2 (1, .int (nI (ab_cap (g + 1)))) (List.mem_cons_of_mem _ List.mem_cons_self)
  have hlive : g < cn K := by omega
  have hR' := hR
  obtain ⟨ws, hP, hD, hcell, -⟩ := hR
  obtain ⟨q0, hq0⟩ := hcell K g hlive (by omega)
  rw [ab_cE_ref (by omega) (by rw [kA_tg h1 h2]; omega), kA_tg h1 h2] at hq0
  obtain ⟨mi, hMi⟩ := hK.2.2.2.2.2.2.2.2.2.2.1.2.2.1
  have hDc := hK.2.2.2.2.2.2.2.2.2.2.1.2.2.2
  refine lv_aload_n hx hb (k := 0) (i := 0) (x := ad K g) (show decode _ 0 = .ok (.aload_n 0, 1) by decide +kernel) rfl hl0 ?_
  refine lv_iload_n hx hb (k := 1) (i := 1) (x := nI (ab_cap (g + 1))) (show decode _ 1 = .ok (.iload_n 1, 1) by decide +kernel) rfl hl1 ?_
  refine lv_aload_n hx hb (k := 0) (i := 0) (x := ad K g) (show decode _ 2 = .ok (.aload_n 0, 1) by decide +kernel) rfl hl0 ?_
  refine va_getC (C := "[Ljava/lang/Object;") (mi := mi) hx hb (hml.trans hl.1.symm) hown (hts _ ab_w_g1) (va_Dc.use hDc) (hts _ ab_w_g4) (hts _ ab_w_g2) (hts _ ab_w_g3) hMi ⟨_, hP q0 _ hq0, rfl, va_nmO (hK.1.2 3 _ rfl).2 rfl⟩ (by show 1 ≤ d + 2 + 1; omega) (by show 2 + 14 ≤ 40 * (d + 2) + 40; omega) (show decode _ 3 = .ok (.invokevirtual 86, 3) by decide +kernel) ?_
  have cw : CallB (headSpec (ab_ws (ab_mt nJ7_copyOf_1904c)) (ab_rm (d + 2) (ab_mc nJ7_copyOf_1904c) (ab_mS nJ7_copyOf_1904c))).room s (as.map (ab_cv ad)).toArray (ab_mt nJ7_copyOf_1904c).1.cls 300 (ab_mt nJ7_copyOf_6403c).1 (ab_mt nJ7_copyOf_6403c).2.1 (ab_mt nJ7_copyOf_6403c).2.2.1 (ab_mt nJ7_copyOf_6403c).2.2.2.1 (ab_ws (ab_mt nJ7_copyOf_6403c)) (ab_rm (d + 1) (ab_mc nJ7_copyOf_6403c) (ab_mS nJ7_copyOf_6403c)) (ab_mc nJ7_copyOf_6403c) (ab_mS nJ7_copyOf_6403c) 3 ∧ (Cond.static (ab_mt nJ7_copyOf_6403c).1).before (as.map (ab_cv ad)).toArray s = true := va_cwS 3 hts (ab_all_good (fun w hw => by
    rcases List.mem_append.mp hw with h | h
    · simp only [List.mem_cons, List.not_mem_nil, or_false] at h
      rcases h with rfl | rfl | rfl
      · exact ab_w_c1
      · exact ab_w_c2
      · exact ab_w_c4
    · exact ab_ws_in ab_w_c3 w h) (fun _ h => h)) rfl rfl rfl (by decide +kernel) (ab_rmR (by decide) (by show d + 1 + 2 ≤ d + 2 + 1; omega) (by show 40 * (d + 1) + 80 ≤ 40 * (d + 2) + 40; omega))
  have M3 := c_copy3 (E := E) (d := d) (mi := mi) (ad := ad) hnb h1 h2 hg hKE hcn hel (Q := fun v hi' hr' cn' => v = some (.inr (some (K, g + 1))) ∧ Q v hi' hr' cn') ⟨rfl, h⟩
  have hrun := va_runS (l := ab_l E) (e := e) (below := below) (meth := meth) (H := s.heap) (locs := []) (cells := 0) (slots := 0) (g := F0 m 6 ls [.ref mi, .int (nI (ab_cap (g + 1))), .ref (ad K g)]) (As := [.ref (ad K g), .int (nI (ab_cap (g + 1))), .ref mi]) (rest := []) (nL := (ab_mt nJ7_copyOf_1904c).2.2.1) ⟨hx, hb, hml, hown, hts⟩ M3 cw ⟨fun a U g mk h => ⟨h.1, h.2.1, h.2.2.1.step (s := U) (U := U.calling g mk a) (State.WarmedH.refl U) va_S.rf, h.2.2.2⟩, fun U hU hW => by
    exact ⟨rfl, by rw [hU]; exact hR', by rw [hU]; exact hK.step hW va_S.rf, hMi.moved hW.alike⟩⟩ rfl rfl hl.1 rfl (ab_rest (rest := []) ad (by decide)) (show decode _ 6 = .ok (.invokestatic 300, 3) by decide +kernel) ⟨by show 0 + 1 ≤ 1; omega, by show 0 + 244 ≤ 244; omega⟩
  refine ab_call (E := E) (y := nJ7_copyOf_6403c) (L := ab_en 0 as) (rest := []) (nL := (ab_mt nJ7_copyOf_1904c).2.2.1) (ck := 1) (cs := 244) (ad0 := ad) (cn0 := cn) (TC := 1) (TS := 244) hrun (ab_en_nd 0 as) (fun q hq => has _ (ab_en_key 0 as q hq).2) (fun v hv => by cases hv) hl va_S.rf (by omega) (by omega) (ab_ext.rf ad cn) (by decide) (by decide) (fun v hi' hr' cn' hq => ?_)
  obtain ⟨rfl, hq⟩ := hq
  refine ab_vc_sound X (d := d + 1) (rk := 3) (ini := false) (Q := Q) (J := fun _ _ _ _ _ _ _ _ => False) (by show d + 1 + 2 ≤ d + 2 + 1; omega) (by show 40 * (d + 1) + 80 ≤ 40 * (d + 2) + 40; omega) (fun q => by cases q) hnb (fun _ _ _ _ _ _ _ _ k => k.elim) ?_ ?_ ?_ (ab_at gJ7_copyOf_1904c 9) 9 _ _ _ _ _ _ _ (ab_at_ok hall 9) ?_
  · intro pc L hi1 hr1 cn1 ck cs x hd h2 h12
    exact absurd h12 (by decide)
  · intro pc L hi1 hr1 cn1 ck cs r hd h3 hq ad1 H locs ls cells slots g1 g2 g3 g4 g5 g6 g7 g8 g9
    refine W.widen (k := ab_mc nJ7_copyOf_1904c) (n := ab_mS nJ7_copyOf_1904c) (by omega) (by omega) ?_
    refine W.aret hx hb (hret.trans (show (ab_mt nJ7_copyOf_1904c).2.2.2.1 = some (FieldType.array (.object "java/lang/Object")) from rfl)) (Or.inr ⟨_, rfl⟩) ?_ (post ad1 hi1 hr1 cn1 (some (.inr r)) H locs g1 g9 (fun w q => by cases q; exact g4 _ List.mem_cons_self) g6 hq) g6.2.2 hd
    rcases r with _ | r
    · exact Or.inl rfl
    · exact Or.inr ⟨_, rfl⟩
  · intro pc L hi1 hr1 cn1 ck cs hd h0
    cases h0
  · exact hq
end COPY2
