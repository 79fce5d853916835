/-! FIELDS, ARRAYS, NEW CELLS, CALLS, ENDS: over ab_W -/
section ABS
variable {E : ab_E} {own : String} {cc : ByteArray} {nL : Nat} {p : Program} {e : Env} {R : Room} {s : State} {m : MethodId} {args : Array Value} {below : List Frame} {meth : Method} {c : Code} {Fin : State → Prop} {ad0 : ab_A} {cn0 : ab_C} {TC TS pc : Nat} {L : ab_L} {st : List ab_V} {hi : ab_I} {hr : ab_R} {cn : ab_C} {ck cs : Nat}
def ab_ref (own : String) (K k : Nat) : String := if K = 0 ∧ k = 0 ∧ own = RJx4a65c then RJx4a65c else (ab_T K k).1
theorem ab_hsame {K k : Nat} (hts : ∀ w ∈ ab_ALL, w.before args s = true) : ∀ x, s.fieldFound? (ab_T K k).1 (ab_T K k).2.1 (ab_T K k).2.2.1 = some x → s.fieldFound? (ab_ref own K k) (ab_T K k).2.1 (ab_T K k).2.2.1 = some x := by
  intro x h
  unfold ab_ref
  by_cases q : K = 0 ∧ k = 0 ∧ own = RJx4a65c
  · rw [if_pos q]
    obtain ⟨rfl, rfl, -⟩ := q
    exact u_same (hts _ ab_w_sf) x h
  · rw [if_neg q]
    exact h
theorem ab_cv_fv {ad : ab_A} {K i k : Nat} : ab_fv ad hi hr K i k = ab_cv ad (if ab_fi K k = true then .inl (hi K i k) else .inr (hr K i k)) := by
  unfold ab_fv
  by_cases h : ab_fi K k = true
  · rw [if_pos h, if_pos h]; rfl
  · rw [if_neg h, if_neg h]; rfl
theorem ab_getfield (X : ab_X E own cc nL p R s m args c TC TS) {idx K i k : Nat} (hK : K < 10) (hk : k < ab_nf K) (hlink : Cond.fieldLink own idx (ab_ref own K k) (ab_T K k).2.1 (ab_T K k).2.2.1 ∈ ab_ALL) (hd : decode cc pc = .ok (.getfield idx, 3))
    (kk : ab_W E nL p e R s m args below meth c Fin ad0 cn0 TC TS (pc + 3) L ((if ab_fi K k = true then .inl (hi K i k) else .inr (hr K i k)) :: st) hi hr cn ck cs) : ab_W E nL p e R s m args below meth c Fin ad0 cn0 TC TS pc L (.inr (some (K, i)) :: st) hi hr cn ck cs := by
  intro ad H locs ls cells slots hR hN hL hst hl hS hc hs hx
  have hlive : i < cn K := hst _ List.mem_cons_self K i rfl
  have hR' := hR
  obtain ⟨ws, hP, hD, hcell, hinj, hcl, -⟩ := hR
  obtain ⟨q, hq⟩ := hcell K i hlive (by omega)
  rw [ab_cE_obj hK] at hq
  refine va_get X.1 X.2.1 X.2.2.2.2.1 (ab_uin hK) X.2.2.2.1 X.2.2.2.2.2.1.1 hP q hq (ab_cl hK) k hk (X.2.2.2.2.1 _ hlink) (ab_hsame X.2.2.2.2.1) (ab_fs_at hk) hd ?_
  rw [ab_cv_fv]
  refine kk ad H locs ls cells slots hR' hN hL (ab_lv_cons ?_ (fun w hw => hst w (List.mem_cons_of_mem _ hw))) hl hS hc hs hx
  by_cases h : ab_fi K k = true
  · rw [if_pos h]; trivial
  · rw [if_neg h]
    exact fun K' i' hj => hcl K i hlive k (by unfold ab_pl; rw [if_pos hK]; exact hk) K' i' hj
/-- a field is written, final or not -/
theorem ab_put (X : ab_X E own cc nL p R s m args c TC TS) {idx K k : Nat} (hK : K < 10) (hk : k < ab_nf K) (hlink : Cond.fieldLink own idx (ab_ref own K k) (ab_T K k).2.1 (ab_T K k).2.2.1 ∈ ab_ALL) (hfin : (ab_T K k).2.2.2 = false ∨ ((ab_T K k).2.2.2 = true ∧ meth.name = "<init>" ∧ (ab_T K k).1 = own)) (hd : decode cc pc = .ok (.putfield idx, 3))
    {ws : va_W} {H : Heap} {locs : List Loc} {ls : Array Slot} {cells slots q a : Nat} {fs : List Value} {v : Value} {rest : List Value} (hP : va_P (ab_D E) vwCl ws H) (hD : va_D (fun q => ab_lo E ≤ q) ws) (hS : va_S (fun q => ab_lo E ≤ q) s.heap H locs) (hq : ws[q]? = some (a, .inr (K, fs))) (hn : narrow (ab_ty K k) v = v) (hf : fits (ab_ty K k) v = true) (hl : k < fs.length)
    (kk : ∀ (H1 : Heap) (locs1 : List Loc), va_P (ab_D E) vwCl (ws.set q (a, .inr (K, fs.set k v))) H1 → va_S (fun q => ab_lo E ≤ q) s.heap H1 locs1 → W p (ab_l E) e R s m args below meth c H1 locs1 cells slots Fin (F0 m (pc + 3) ls rest)) : W p (ab_l E) e R s m args below meth c H locs cells slots Fin (F0 m pc ls (v :: .ref a :: rest)) := by
  rcases hfin with hfin | ⟨h1, h2, h3⟩
  · exact va_put X.1 X.2.1 X.2.2.2.2.1 (ab_uin hK) (ab_ty K) (ab_ty_ok hK) (ab_nm hK) X.2.2.2.1 X.2.2.2.2.2.1.1 hP hD hS q hq (ab_cl hK) k hk (X.2.2.2.2.1 _ hlink) (ab_hsame X.2.2.2.2.1) hfin (ab_ty_ok hK k hk) hn hf hl hd (fun H1 locs1 g1 _ g3 => kk H1 locs1 g1 g3)
  · exact va_putF X.1 X.2.1 X.2.2.2.2.1 (ab_uin hK) (ab_ty K) (ab_ty_ok hK) (ab_nm hK) X.2.2.2.1 X.2.2.2.2.2.1.1 hP hD hS q hq (ab_cl hK) k hk (X.2.2.2.2.1 _ hlink) (ab_hsame X.2.2.2.2.1) h1 h2 h3 (ab_ty_ok hK k hk) hn hf hl hd (fun H1 locs1 g1 _ g3 => kk H1 locs1 g1 g3)
theorem ab_putI (X : ab_X E own cc nL p R s m args c TC TS) {idx K i k : Nat} {x : Int32} (hK : K < 10) (hk : k < ab_nf K) (hlink : Cond.fieldLink own idx (ab_ref own K k) (ab_T K k).2.1 (ab_T K k).2.2.1 ∈ ab_ALL) (hfin : (ab_T K k).2.2.2 = false ∨ ((ab_T K k).2.2.2 = true ∧ meth.name = "<init>" ∧ (ab_T K k).1 = own)) (hd : decode cc pc = .ok (.putfield idx, 3)) (hf : ab_ff K k = 1 ∨ (ab_ff K k = 2 ∧ (x = 0 ∨ x = 1)))
    (kk : ab_W E nL p e R s m args below meth c Fin ad0 cn0 TC TS (pc + 3) L st (ab_uI hi K i k x) hr cn ck cs) : ab_W E nL p e R s m args below meth c Fin ad0 cn0 TC TS pc L (.inl x :: .inr (some (K, i)) :: st) hi hr cn ck cs := by
  intro ad H locs ls cells slots hR hN hL hst hl hS hc hs hx
  have hlive : i < cn K := hst _ (List.mem_cons_of_mem _ List.mem_cons_self) K i rfl
  obtain ⟨ws, hP, hD, hcell, hinj, hcl, hz⟩ := hR
  obtain ⟨q, hq⟩ := hcell K i hlive (by omega)
  rw [ab_cE_obj hK] at hq
  have hfi : ab_fi K k = true := by rcases hf with h | h; exact ab_fi_1 h; exact ab_fi_2 h.1
  refine ab_put X hK hk hlink hfin hd (v := .int x) hP hD hS hq ?_ ?_ (by rw [ab_fs_len]; exact hk) (fun H1 locs1 g1 g2 => ?_)
  · rcases hf with h | ⟨h, rfl | rfl⟩
    · rw [ab_ff_1 h]; rfl
    · rw [ab_ff_2 h]; rfl
    · rw [ab_ff_2 h]; rfl
  · rcases hf with h | ⟨h, rfl | rfl⟩
    · rw [ab_ff_1 h]; rfl
    · rw [ab_ff_2 h]; rfl
    · rw [ab_ff_2 h]; rfl
  · refine kk ad H1 locs1 ls cells slots ?_ hN hL (fun w hw => hst w (List.mem_cons_of_mem _ (List.mem_cons_of_mem _ hw))) hl g2 hc hs hx
    have hql := (List.getElem?_eq_some_iff.mp hq).1
    refine ⟨ws.set q (ad K i, ab_cE E ad (ab_uI hi K i k x) hr K i), ?_, hD.set hq, fun K' i' hl' hK' => ?_, hinj, hcl, hz⟩
    · rw [ab_cE_obj hK, ← ab_fs_setI hk hfi]
      exact g1
    · by_cases e : K' = K ∧ i' = i
      · obtain ⟨rfl, rfl⟩ := e
        exact ⟨q, List.getElem?_set_self hql⟩
      · obtain ⟨q', hq'⟩ := hcell K' i' hl' hK'
        refine ⟨q', ?_⟩
        rw [List.getElem?_set_ne, hq', ab_cE_congr (ab_uI_ne e) rfl (fun _ _ => rfl)]
        intro e2
        subst e2
        have e3 := hq.symm.trans hq'
        simp only [Option.some.injEq, Prod.mk.injEq] at e3
        exact e (hinj K' i' K i hl' hlive (by omega) (by omega) e3.1.symm)
theorem ab_putR (X : ab_X E own cc nL p R s m args c TC TS) {idx K i k : Nat} {r : Option (Nat × Nat)} (hK : K < 10) (hk : k < ab_nf K) (hlink : Cond.fieldLink own idx (ab_ref own K k) (ab_T K k).2.1 (ab_T K k).2.2.1 ∈ ab_ALL) (hfin : (ab_T K k).2.2.2 = false ∨ ((ab_T K k).2.2.2 = true ∧ meth.name = "<init>" ∧ (ab_T K k).1 = own)) (hd : decode cc pc = .ok (.putfield idx, 3)) (hf : ab_ff K k = 0)
    (kk : ab_W E nL p e R s m args below meth c Fin ad0 cn0 TC TS (pc + 3) L st hi (ab_uR hr K i k r) cn ck cs) : ab_W E nL p e R s m args below meth c Fin ad0 cn0 TC TS pc L (.inr r :: .inr (some (K, i)) :: st) hi hr cn ck cs := by
  intro ad H locs ls cells slots hR hN hL hst hl hS hc hs hx
  have hlive : i < cn K := hst _ (List.mem_cons_of_mem _ List.mem_cons_self) K i rfl
  have hrl : ab_lv cn (.inr r) := hst _ List.mem_cons_self
  obtain ⟨ws, hP, hD, hcell, hinj, hcl, hz⟩ := hR
  obtain ⟨q, hq⟩ := hcell K i hlive (by omega)
  rw [ab_cE_obj hK] at hq
  have hfi : ab_fi K k = false := ab_fi_0 hf
  refine ab_put X hK hk hlink hfin hd (v := va_rf (ab_ar ad r)) hP hD hS hq ?_ ?_ (by rw [ab_fs_len]; exact hk) (fun H1 locs1 g1 g2 => ?_)
  · rcases ab_ff_0 hf with ⟨n, h⟩ | ⟨n, h⟩ <;> rw [h] <;> cases r <;> rfl
  · rcases ab_ff_0 hf with ⟨n, h⟩ | ⟨n, h⟩ <;> rw [h] <;> cases r <;> rfl
  · refine kk ad H1 locs1 ls cells slots ?_ hN hL (fun w hw => hst w (List.mem_cons_of_mem _ (List.mem_cons_of_mem _ hw))) hl g2 hc hs hx
    have hql := (List.getElem?_eq_some_iff.mp hq).1
    refine ⟨ws.set q (ad K i, ab_cE E ad hi (ab_uR hr K i k r) K i), ?_, hD.set hq, fun K' i' hl' hK' => ?_, hinj, fun K' i' hl' j hjl K'' i'' hj => ?_, hz⟩
    · rw [ab_cE_obj hK, ← ab_fs_setR hk hfi]
      exact g1
    · by_cases e : K' = K ∧ i' = i
      · obtain ⟨rfl, rfl⟩ := e
        exact ⟨q, List.getElem?_set_self hql⟩
      · obtain ⟨q', hq'⟩ := hcell K' i' hl' hK'
        refine ⟨q', ?_⟩
        rw [List.getElem?_set_ne, hq', ab_cE_congr rfl (ab_uR_ne e) (fun _ _ => rfl)]
        intro e2
        subst e2
        have e3 := hq.symm.trans hq'
        simp only [Option.some.injEq, Prod.mk.injEq] at e3
        exact e (hinj K' i' K i hl' hlive (by omega) (by omega) e3.1.symm)
    · rcases ab_uR_or hj with hj | hj
      · exact hrl K'' i'' hj
      · exact hcl K' i' hl' j hjl K'' i'' hj
theorem ab_tys1 {E : ab_E} : (ab_tys E)[0]? = some (ab_cy E 1, .int) := rfl
theorem ab_iaload (X : ab_X E own cc nL p R s m args c TC TS) {K i n : Nat} (hK : 10 ≤ K) (hK2 : K < 200) (ht : ab_tg K = 1) (hn : n < ab_len K i) (hd : decode cc pc = .ok (.iaload, 1))
    (kk : ab_W E nL p e R s m args below meth c Fin ad0 cn0 TC TS (pc + 1) L (.inl (hi K i n) :: st) hi hr cn ck cs) : ab_W E nL p e R s m args below meth c Fin ad0 cn0 TC TS pc L (.inl (nI n) :: .inr (some (K, i)) :: st) hi hr cn ck cs := by
  intro ad H locs ls cells slots hR hN hL hst hl hS hc hs hx
  have hlive : i < cn K := hst _ (List.mem_cons_of_mem _ List.mem_cons_self) K i rfl
  have hR' := hR
  obtain ⟨ws, hP, hD, hcell, hinj, hcl, hz⟩ := hR
  obtain ⟨q, hq⟩ := hcell K i hlive hK2
  rw [ab_cE_int hK ht] at hq
  have hb := ab_len1 (i := i) hK ht
  refine va_iald X.1 X.2.1 X.2.2.2.2.2.1.1 hP q 0 hq ab_tys1 (i := nI n) (vp_in_nI hn (by omega)) hd ?_
  rw [nI_clamp (by omega)]
  exact kk ad H locs ls cells slots hR' hN hL (ab_lv_cons trivial (fun w hw => hst w (List.mem_cons_of_mem _ (List.mem_cons_of_mem _ hw)))) hl hS hc hs hx
theorem ab_iastore (X : ab_X E own cc nL p R s m args c TC TS) {K i n : Nat} {x : Int32} (hK : 10 ≤ K) (hK2 : K < 200) (ht : ab_tg K = 1) (hn : n < ab_len K i) (hd : decode cc pc = .ok (.iastore, 1))
    (kk : ab_W E nL p e R s m args below meth c Fin ad0 cn0 TC TS (pc + 1) L st (ab_uI hi K i n x) hr cn ck cs) : ab_W E nL p e R s m args below meth c Fin ad0 cn0 TC TS pc L (.inl x :: .inl (nI n) :: .inr (some (K, i)) :: st) hi hr cn ck cs := by
  intro ad H locs ls cells slots hR hN hL hst hl hS hc hs hx
  have hlive : i < cn K := hst _ (List.mem_cons_of_mem _ (List.mem_cons_of_mem _ List.mem_cons_self)) K i rfl
  obtain ⟨ws, hP, hD, hcell, hinj, hcl, hz⟩ := hR
  obtain ⟨q, hq⟩ := hcell K i hlive hK2
  rw [ab_cE_int hK ht] at hq
  have hb := ab_len1 (i := i) hK ht
  have hql := (List.getElem?_eq_some_iff.mp hq).1
  refine va_iast X.1 X.2.1 X.2.2.2.2.2.1.1 hP hD hS q 0 hq ab_tys1 (i := nI n) (vp_in_nI hn (by omega)) hd (fun H1 locs1 g1 g2 g3 => ?_)
  rw [nI_clamp (by omega)] at g1 g2
  refine kk ad H1 locs1 ls cells slots ?_ hN hL (fun w hw => hst w (List.mem_cons_of_mem _ (List.mem_cons_of_mem _ (List.mem_cons_of_mem _ hw)))) hl g3 hc hs hx
  refine ⟨ws.set q (ad K i, ab_cE E ad (ab_uI hi K i n x) hr K i), ?_, hD.set hq, fun K' i' hl' hK' => ?_, hinj, hcl, hz⟩
  · rw [ab_cE_int hK ht, ab_uI_self]
    exact g1
  · by_cases e : K' = K ∧ i' = i
    · obtain ⟨rfl, rfl⟩ := e
      exact ⟨q, List.getElem?_set_self hql⟩
    · obtain ⟨q', hq'⟩ := hcell K' i' hl' hK'
      refine ⟨q', ?_⟩
      rw [List.getElem?_set_ne, hq', ab_cE_congr (ab_uI_ne e) rfl (fun _ _ => rfl)]
      intro e2
      subst e2
      have e3 := hq.symm.trans hq'
      simp only [Option.some.injEq, Prod.mk.injEq] at e3
      exact e (hinj K' i' K i hl' hlive (by omega) (by omega) e3.1.symm)
theorem ab_sload (X : ab_X E own cc nL p R s m args c TC TS) {i n : Nat} (hn : n < ab_n E) (hnb : ab_n E < 2 ^ 31) (hd : decode cc pc = .ok (.iaload, 1))
    (kk : ab_W E nL p e R s m args below meth c Fin ad0 cn0 TC TS (pc + 1) L (.inl (ab_xs E n) :: st) hi hr cn ck cs) : ab_W E nL p e R s m args below meth c Fin ad0 cn0 TC TS pc L (.inl (nI n) :: .inr (some (201, i)) :: st) hi hr cn ck cs := by
  intro ad H locs ls cells slots hR hN hL hst hl hS hc hs hx
  have hlive : i < cn 201 := hst _ (List.mem_cons_of_mem _ List.mem_cons_self) 201 i rfl
  have hR' := hR
  obtain ⟨ws, hP, hD, hcell, hinj, hcl, h200, h201, n200, n201, hz⟩ := hR
  have hi0 : i = 0 := by omega
  subst hi0
  have hK := X.2.2.2.2.2.1
  have h1 : va_X (ab_b E) (ab_n E) (ab_xs E) s s.heap := hK.2.1
  have h2 : ab_b E < ab_lo E := hK.2.2.1
  have h3 : ab_lo E ≤ s.heap.size := hK.2.2.2.2.2.2.2.2.2.2.2
  have e1 : ab_cv ad (.inr (some (201, 0))) = .ref (ab_b E) := by show Value.ref (ad 201 0) = _; rw [h201]
  show W p (ab_l E) e R s m args below meth c H locs cells slots Fin (F0 m pc ls (.int (nI n) :: ab_cv ad (.inr (some (201, 0))) :: st.map (ab_cv ad)))
  rw [e1]
  refine va_sld X.1 X.2.1 h1 (Nat.lt_of_lt_of_le h2 h3) (Nat.not_le.mpr h2) hS (i := nI n) (vp_in_nI hn hnb) hd ?_
  rw [nI_clamp (by omega)]
  exact kk ad H locs ls cells slots hR' hN hL (ab_lv_cons trivial (fun w hw => hst w (List.mem_cons_of_mem _ (List.mem_cons_of_mem _ hw)))) hl hS hc hs hx
theorem ab_slen (X : ab_X E own cc nL p R s m args c TC TS) {i : Nat} (hd : decode cc pc = .ok (.arraylength, 1))
    (kk : ab_W E nL p e R s m args below meth c Fin ad0 cn0 TC TS (pc + 1) L (.inl (nI (ab_n E)) :: st) hi hr cn ck cs) : ab_W E nL p e R s m args below meth c Fin ad0 cn0 TC TS pc L (.inr (some (201, i)) :: st) hi hr cn ck cs := by
  intro ad H locs ls cells slots hR hN hL hst hl hS hc hs hx
  have hlive : i < cn 201 := hst _ List.mem_cons_self 201 i rfl
  have hR' := hR
  obtain ⟨ws, hP, hD, hcell, hinj, hcl, h200, h201, n200, n201, hz⟩ := hR
  have hi0 : i = 0 := by omega
  subst hi0
  have hK := X.2.2.2.2.2.1
  have h1 : va_X (ab_b E) (ab_n E) (ab_xs E) s s.heap := hK.2.1
  have h2 : ab_b E < ab_lo E := hK.2.2.1
  have h3 : ab_lo E ≤ s.heap.size := hK.2.2.2.2.2.2.2.2.2.2.2
  have e1 : ab_cv ad (.inr (some (201, 0))) = .ref (ab_b E) := by show Value.ref (ad 201 0) = _; rw [h201]
  show W p (ab_l E) e R s m args below meth c H locs cells slots Fin (F0 m pc ls (ab_cv ad (.inr (some (201, 0))) :: st.map (ab_cv ad)))
  rw [e1]
  refine va_slen X.1 X.2.1 h1 (Nat.lt_of_lt_of_le h2 h3) (Nat.not_le.mpr h2) hS hd ?_
  exact kk ad H locs ls cells slots hR' hN hL (ab_lv_cons trivial (fun w hw => hst w (List.mem_cons_of_mem _ hw))) hl hS hc hs hx
end ABS
