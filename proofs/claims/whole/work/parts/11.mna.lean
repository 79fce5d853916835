/-! new T[n][m] -/
def ab_mA (ad : ab_A) (cn : ab_C) (K Kr n q : Nat) (r : Nat → Nat) : ab_A := fun K' i' => if K' = K ∧ i' = cn K then q else if K' = Kr ∧ cn Kr ≤ i' ∧ i' < cn Kr + n then r (i' - cn Kr) else ad K' i'
section ABN
variable {E : ab_E} {own : String} {cc : ByteArray} {nL : Nat} {p : Program} {e : Env} {R : Room} {s : State} {m : MethodId} {args : Array Value} {below : List Frame} {meth : Method} {c : Code} {Fin : State → Prop} {ad0 : ab_A} {cn0 : ab_C} {TC TS pc : Nat} {L : ab_L} {st : List ab_V} {hi : ab_I} {hr : ab_R} {cn : ab_C} {ck cs : Nat}
theorem ab_Rp_mna {ad : ab_A} {H1 : Heap} {K Kr n n2 q : Nat} {r : Nat → Nat} {ws : va_W} {f : Nat → va_E} (hK : 10 ≤ K) (hK2 : K < 200) (hKr : 10 ≤ Kr) (hKr2 : Kr < 200) (hne : K ≠ Kr) (ht : ab_tg K = 5) (htr : ab_tg Kr = 1) (hn : ab_len K (cn K) = n) (hrow : ∀ i, i < n → ab_len Kr (cn Kr + i) = n2)
    (hcell : ∀ K i, i < cn K → K < 200 → ∃ q : Nat, ws[q]? = some (ad K i, ab_cE E ad hi hr K i)) (hinj : ∀ K i K' i', i < cn K → i' < cn K' → K < 201 → K' < 201 → ad K i = ad K' i' → K = K' ∧ i = i')
    (hcl : ∀ K i, i < cn K → ∀ j, j < ab_pl K i → ∀ K' i', hr K i j = some (K', i') → i' < cn K') (h200 : ad 200 0 = ab_ea E) (h201 : ad 201 0 = ab_b E) (n200 : cn 200 = 1) (n201 : cn 201 = 1) (hea : ab_ea E < ab_lo E) (hbig : ∀ K, 201 < K → cn K = 0)
    (hP1 : va_P (ab_D E) vwCl ((ws ++ [(q, .inl (ab_cy E 5, n, .inr (.inr (.inr (.inr (fun i => if i < n then some (r i) else none))))))]) ++ va_pl ((List.range n).map r) (vr_up f ((List.range n).map r) (.inl (ab_cy E 1, (n2, .inl (fun _ => 0)))))) H1)
    (hD1 : va_D (fun q => ab_lo E ≤ q) ((ws ++ [(q, .inl (ab_cy E 5, n, .inr (.inr (.inr (.inr (fun i => if i < n then some (r i) else none))))))]) ++ va_pl ((List.range n).map r) (vr_up f ((List.range n).map r) (.inl (ab_cy E 1, (n2, .inl (fun _ => 0))))))) :
    ab_Rp E (ab_mA ad cn K Kr n q r) (ab_mI hi cn K Kr n) (ab_mR hr cn K Kr n) (ab_uC (ab_uC cn K (cn K + 1)) Kr (cn Kr + n)) H1 ∧ ab_ext ad cn (ab_mA ad cn K Kr n q r) (ab_uC (ab_uC cn K (cn K + 1)) Kr (cn Kr + n)) := by
  generalize hX : (q, (.inl (ab_cy E 5, n, .inr (.inr (.inr (.inr (fun i => if i < n then some (r i) else none))))) : va_E)) = x at hP1 hD1
  generalize hZ : va_pl ((List.range n).map r) (vr_up f ((List.range n).map r) (.inl (ab_cy E 1, (n2, .inl (fun _ => 0))))) = z at hP1 hD1
  have p0 : ∀ j : Nat, j < ws.length → ((ws ++ [x]) ++ z)[j]? = ws[j]? := fun j hj => by
    rw [List.getElem?_append_left (by rw [List.length_append]; omega), List.getElem?_append_left hj]
  have p1 : ((ws ++ [x]) ++ z)[ws.length]? = some x := by
    rw [List.getElem?_append_left (by simp)]
    simp
  have p2 : ∀ i : Nat, i < n → ((ws ++ [x]) ++ z)[ws.length + 1 + i]? = some (r i, .inl (ab_cy E 1, (n2, .inl (fun _ => 0)))) := fun i hi => by
    rw [List.getElem?_append_right (by simp)]
    have e1 : ws.length + 1 + i - (ws ++ [x]).length = i := by simp
    rw [e1, ← hZ]
    unfold va_pl
    rw [List.getElem?_map, List.getElem?_map, List.getElem?_range hi]
    simp only [Option.map_some]
    rw [vr_up_in (List.mem_map.mpr ⟨i, List.mem_range.mpr hi, rfl⟩)]
  have o1 : ∀ K' i', i' < cn K' → ¬ (K' = K ∧ i' = cn K) := fun K' i' h q => by rw [q.1, q.2] at h; omega
  have o2 : ∀ K' i', i' < cn K' → ¬ (K' = Kr ∧ cn Kr ≤ i' ∧ i' < cn Kr + n) := fun K' i' h q => by rw [q.1] at h; omega
  have cnK : ab_uC (ab_uC cn K (cn K + 1)) Kr (cn Kr + n) K = cn K + 1 := by
    unfold ab_uC
    rw [if_neg hne, if_pos rfl]
  have cnR : ab_uC (ab_uC cn K (cn K + 1)) Kr (cn Kr + n) Kr = cn Kr + n := by
    unfold ab_uC
    rw [if_pos rfl]
  have cnO : ∀ K', K' ≠ K → K' ≠ Kr → ab_uC (ab_uC cn K (cn K + 1)) Kr (cn Kr + n) K' = cn K' := fun K' h1 h2 => by
    unfold ab_uC
    rw [if_neg h2, if_neg h1]
  generalize ab_uC (ab_uC cn K (cn K + 1)) Kr (cn Kr + n) = cn' at cnK cnR cnO ⊢
  have hcn : ∀ K', cn K' ≤ cn' K' := fun K' => by
    by_cases h1 : K' = K
    · subst h1; omega
    · by_cases h2 : K' = Kr
      · subst h2; omega
      · rw [cnO K' h1 h2]; omega
  have hnew : ∀ K' i', i' < cn' K' → i' < cn K' ∨ (K' = K ∧ i' = cn K) ∨ (K' = Kr ∧ cn Kr ≤ i' ∧ i' < cn Kr + n) := fun K' i' h => by
    by_cases h1 : K' = K
    · subst h1
      rw [cnK] at h
      rcases Nat.lt_or_ge i' (cn K') with q | q
      · exact Or.inl q
      · exact Or.inr (Or.inl ⟨rfl, by omega⟩)
    · by_cases h2 : K' = Kr
      · subst h2
        rw [cnR] at h
        rcases Nat.lt_or_ge i' (cn K') with q | q
        · exact Or.inl q
        · exact Or.inr (Or.inr ⟨rfl, q, h⟩)
      · rw [cnO K' h1 h2] at h
        exact Or.inl h
  have aO : ∀ K' i', i' < cn K' → ab_mA ad cn K Kr n q r K' i' = ad K' i' := fun K' i' h => by
    unfold ab_mA
    rw [if_neg (o1 K' i' h), if_neg (o2 K' i' h)]
  have aK : ab_mA ad cn K Kr n q r K (cn K) = q := if_pos ⟨rfl, rfl⟩
  have aR : ∀ i, i < n → ab_mA ad cn K Kr n q r Kr (cn Kr + i) = r i := fun i hi => by
    unfold ab_mA
    rw [if_neg (fun z => hne z.1.symm), if_pos ⟨rfl, by omega, by omega⟩]
    congr 1
    omega
  have iO : ∀ K' i', i' < cn K' → ab_mI hi cn K Kr n K' i' = hi K' i' := fun K' i' h => by
    funext j
    unfold ab_mI
    rw [if_neg (o1 K' i' h), if_neg (o2 K' i' h)]
  have rO : ∀ K' i', i' < cn K' → ab_mR hr cn K Kr n K' i' = hr K' i' := fun K' i' h => by
    funext j
    unfold ab_mR
    rw [if_neg (o1 K' i' h), if_neg (o2 K' i' h)]
  have rK : ∀ j, ab_mR hr cn K Kr n K (cn K) j = some (Kr, cn Kr + j) := fun j => if_pos ⟨rfl, rfl⟩
  have iR : ∀ i, i < n → ab_mI hi cn K Kr n Kr (cn Kr + i) = fun _ => 0 := fun i hi => by
    funext j
    unfold ab_mI
    rw [if_neg (fun z => hne z.1.symm), if_pos ⟨rfl, by omega, by omega⟩]
  have rR : ∀ i j, i < n → ab_mR hr cn K Kr n Kr (cn Kr + i) j = none := fun i j hi => by
    unfold ab_mR
    rw [if_neg (fun z => hne z.1.symm), if_pos ⟨rfl, by omega, by omega⟩]
  generalize ab_mA ad cn K Kr n q r = ad' at aO aK aR ⊢
  generalize ab_mI hi cn K Kr n = hi' at iO iR ⊢
  generalize ab_mR hr cn K Kr n = hr' at rO rK rR ⊢
  have hE : ab_ext ad cn ad' cn' := ⟨aO, hcn⟩
  -- the place of every cell
  have place : ∀ K' i', i' < cn' K' → K' < 201 → (K' = 200 ∧ ad' K' i' = ab_ea E) ∨ ∃ (j : Nat) (e : va_E), ((ws ++ [x]) ++ z)[j]? = some (ad' K' i', e) ∧ (K' < 200 → e = ab_cE E ad' hi' hr' K' i') ∧ ((j < ws.length ∧ i' < cn K' ∧ K' < 200 ∧ ws[j]? = some (ad K' i', ab_cE E ad hi hr K' i')) ∨ (j = ws.length ∧ K' = K ∧ i' = cn K) ∨ (∃ t, t < n ∧ j = ws.length + 1 + t ∧ K' = Kr ∧ i' = cn Kr + t)) := by
    intro K' i' h hK'
    rcases hnew K' i' h with h | ⟨rfl, rfl⟩ | ⟨rfl, h1, h2⟩
    · rcases (show K' = 200 ∨ K' < 200 by omega) with rfl | hK'
      · have : i' = 0 := by omega
        subst this
        exact Or.inl ⟨rfl, by rw [aO 200 0 h]; exact h200⟩
      · obtain ⟨j, hj⟩ := hcell K' i' h hK'
        have hjl := (List.getElem?_eq_some_iff.mp hj).1
        refine Or.inr ⟨j, _, by rw [p0 j hjl, hj, aO K' i' h], fun _ => ?_, Or.inl ⟨hjl, h, hK', hj⟩⟩
        refine (ab_cE_congr (ad := ad) (iO K' i' h) (rO K' i' h) ?_).symm
        intro jj hjl
        rcases hjj : hr K' i' jj with _ | ⟨K'', i''⟩
        · rfl
        · show some (ad' K'' i'') = some (ad K'' i'')
          rw [aO K'' i'' (hcl K' i' h jj hjl K'' i'' hjj)]
    · refine Or.inr ⟨ws.length, _, by rw [p1, ← hX, aK], fun _ => ?_, Or.inr (Or.inl ⟨rfl, rfl, rfl⟩)⟩
      rw [ab_cE_ref hK (by omega), ht, hn]
      congr 7
      funext jj
      by_cases hjj : jj < n
      · rw [if_pos hjj, if_pos hjj, rK jj]
        show some (r jj) = some (ad' Kr (cn Kr + jj))
        rw [aR jj hjj]
      · rw [if_neg hjj, if_neg hjj]
    · obtain ⟨t, rfl⟩ : ∃ t, i' = cn K' + t := ⟨i' - cn K', by omega⟩
      have ht' : t < n := by omega
      refine Or.inr ⟨ws.length + 1 + t, _, by rw [p2 t ht', aR t ht'], fun _ => ?_, Or.inr (Or.inr ⟨t, ht', rfl, rfl, rfl⟩)⟩
      rw [ab_cE_int hKr htr, hrow t ht', iR t ht']
  refine ⟨⟨_, hP1, hD1, fun K' i' h hK' => ?_, fun K1 i1 K2 i2 h1 h2 g1 g2 he => ?_, fun K' i' h j hjl K'' i'' hj => ?_, ?_, ?_, ?_, ?_, hea, fun K' hK' => ?_⟩, hE⟩
  · rcases place K' i' h (by omega) with ⟨z1, -⟩ | ⟨j, e', hj, he', -⟩
    · omega
    · exact ⟨j, by rw [hj, he' hK']⟩
  · rcases place K1 i1 h1 g1 with ⟨rfl, a1⟩ | ⟨j1, e1, b1, -, w1⟩ <;> rcases place K2 i2 h2 g2 with ⟨rfl, a2⟩ | ⟨j2, e2, b2, -, w2⟩
    · have q1 := h1
      have q2 := h2
      rw [cnO 200 (by omega) (by omega)] at q1 q2
      exact ⟨rfl, by omega⟩
    · have := hD1.2 _ _ b2
      dsimp only at this
      rw [← he, a1] at this
      omega
    · have := hD1.2 _ _ b1
      dsimp only at this
      rw [he, a2] at this
      omega
    · have hjj := hD1.1 j1 j2 _ _ b1 b2 he
      subst hjj
      rcases w1 with ⟨c1, c2, c3, c4⟩ | ⟨c1, c2, c3⟩ | ⟨t1, c1, c2, c3, c4⟩ <;> rcases w2 with ⟨d1, d2, d3, d4⟩ | ⟨d1, d2, d3⟩ | ⟨t2, d1, d2, d3, d4⟩
      · have e3 := c4.symm.trans d4
        simp only [Option.some.injEq, Prod.mk.injEq] at e3
        exact hinj _ _ _ _ c2 d2 (by omega) (by omega) e3.1
      · omega
      · omega
      · omega
      · exact ⟨c2.trans d2.symm, c3.trans d3.symm⟩
      · omega
      · omega
      · omega
      · have : t1 = t2 := by omega
        subst this
        exact ⟨c3.trans d3.symm, c4.trans d4.symm⟩
  · rcases hnew K' i' h with h | ⟨rfl, rfl⟩ | ⟨rfl, h1, h2⟩
    · rw [rO K' i' h] at hj
      exact Nat.lt_of_lt_of_le (hcl K' i' h j hjl K'' i'' hj) (hcn K'')
    · rw [rK j] at hj
      cases hj
      rw [cnR]
      have : j < n := by
        unfold ab_pl at hjl
        rw [if_neg (by omega), hn] at hjl
        exact hjl
      omega
    · obtain ⟨t, rfl⟩ : ∃ t, i' = cn K' + t := ⟨i' - cn K', by omega⟩
      rw [rR t j (by omega)] at hj
      cases hj
  · rw [aO 200 0 (by omega)]; exact h200
  · rw [aO 201 0 (by omega)]; exact h201
  · rw [cnO 200 (by omega) (by omega)]; exact n200
  · rw [cnO 201 (by omega) (by omega)]; exact n201
  · rw [cnO K' (by omega) (by omega)]; exact hbig K' hK'
theorem ab_mna (X : ab_X E own cc nL p R s m args c TC TS) {idx K Kr n2 : Nat} (hK : 10 ≤ K) (hK2 : K < 200) (hKr : 10 ≤ Kr) (hKr2 : Kr < 200) (hne : K ≠ Kr) (ht : ab_tg K = 5) (htr : ab_tg Kr = 1) (hb1 : ab_len K (cn K) ≤ 1000) (hb2 : n2 ≤ 1000) (hrow : ∀ i, i < ab_len K (cn K) → ab_len Kr (cn Kr + i) = n2)
    (h1 : Cond.classLink own idx "[[I" ∈ ab_ALL) (hck : 1 + ab_len K (cn K) ≤ ck) (hcs : ab_len K (cn K) + ab_len K (cn K) * n2 ≤ cs) (hd : decode cc pc = .ok (.multianewarray idx 2, 4))
    (kk : ab_W E nL p e R s m args below meth c Fin ad0 cn0 TC TS (pc + 4) L (.inr (some (K, cn K)) :: st) (ab_mI hi cn K Kr (ab_len K (cn K))) (ab_mR hr cn K Kr (ab_len K (cn K))) (ab_uC (ab_uC cn K (cn K + 1)) Kr (cn Kr + ab_len K (cn K))) (ck - (1 + ab_len K (cn K))) (cs - (ab_len K (cn K) + ab_len K (cn K) * n2))) :
    ab_W E nL p e R s m args below meth c Fin ad0 cn0 TC TS pc L (.inl (nI n2) :: .inl (nI (ab_len K (cn K))) :: st) hi hr cn ck cs := by
  intro ad H locs ls cells slots hR hN hL hst hl hS hc hs hx
  obtain ⟨ws, hP, hD, hcell, hinj, hcl, h200, h201, n200, n201, hea, hbig⟩ := hR
  have hRc := X.2.2.2.2.2.2.1
  have hRs := X.2.2.2.2.2.2.2
  have hKs := X.2.2.2.2.2.1
  have hts := X.2.2.2.2.1
  have a2 : s.vm.findClass ("[" ++ FieldType.int.toString) = some (ab_cy E 1) := (hKs.1.2 0 _ rfl).2
  refine va_mna (X := ws) (L := []) (f := fun _ => .inr (0, [])) (z := (n2, .inl (fun _ => 0))) X.1 X.2.1 X.2.2.2.1 (index := idx) (ty := .int) (cy := ab_cy E 1) (hts _ h1) hKs.2.2.2.2.2.2.2.2.2.2.1.2.1 (hts _ ab_w_ac) a2 hKs.1 (by simpa [va_pl] using hP) (by simpa [va_pl] using hD) hS (ab_lo_le X) (n := nI (ab_len K (cn K))) (k := nI n2) (nI_pos (by omega)) (nI_pos (by omega)) (nI_clamp (by omega)) (nI_clamp (by omega)) (by omega) (by show n2 * 4 ≤ _; omega) (by omega) rfl rfl (by omega) (by omega) (fun c => ?_) hd (fun q r cA H1 g1 g2 gK gP gD gS => ?_)
  · show Jvm.Free.Multi.innerC c n2 (.int 0) = arrV c n2 (fun _ => .int 0)
    rw [← arrV_new]
    rfl
  · have e1 : cA = ab_cy E 5 := by
      have b1 : s.vm.findClass ("[" ++ (FieldType.array .int).toString) = some cA := (gK.2 5 (cA, .array .int) rfl).2
      have b2 : s.vm.findClass ("[" ++ (FieldType.array .int).toString) = some (ab_cy E 5) := (hKs.1.2 4 _ rfl).2
      exact Option.some.inj (b1.symm.trans b2)
    subst e1
    rw [List.nil_append] at gP gD
    obtain ⟨q1, q2⟩ := ab_Rp_mna hK hK2 hKr hKr2 hne ht htr rfl hrow hcell hinj hcl h200 h201 n200 n201 hea hbig gP gD
    have e2 : (.ref q :: st.map (ab_cv ad)) = ((.inr (some (K, cn K)) :: st : List ab_V).map (ab_cv (ab_mA ad cn K Kr (ab_len K (cn K)) q r))) := by
      rw [List.map_cons, ab_st_ext q2.1 (fun v hv => hst v (List.mem_cons_of_mem _ (List.mem_cons_of_mem _ hv)))]
      congr 1
      show Value.ref q = Value.ref (ab_mA ad cn K Kr (ab_len K (cn K)) q r K (cn K))
      rw [show ab_mA ad cn K Kr (ab_len K (cn K)) q r K (cn K) = q from if_pos ⟨rfl, rfl⟩]
    show W p (ab_l E) e R s m args below meth c H1 locs (cells + 1 + ab_len K (cn K)) (slots + ab_len K (cn K) + ab_len K (cn K) * n2) Fin (F0 m (pc + 4) ls (.ref q :: st.map (ab_cv ad)))
    rw [e2]
    refine kk _ H1 locs ls _ _ q1 hN (fun q hq => (hL q hq).mono q2.2) (ab_lv_cons (fun K' i' hj => ?_) (fun v hv => (hst v (List.mem_cons_of_mem _ (List.mem_cons_of_mem _ hv))).mono q2.2)) ?_ gS (by omega) (by omega) (hx.tr q2)
    · cases hj
      unfold ab_uC
      rw [if_neg hne, if_pos rfl]
      omega
    · rw [ab_L_ext q2.1 hL]
      exact hl
end ABN
