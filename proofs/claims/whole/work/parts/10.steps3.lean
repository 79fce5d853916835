section ABU
variable {E : ab_E} {own : String} {cc : ByteArray} {nL : Nat} {p : Program} {e : Env} {R : Room} {s : State} {m : MethodId} {args : Array Value} {below : List Frame} {meth : Method} {c : Code} {Fin : State → Prop} {ad0 : ab_A} {cn0 : ab_C} {TC TS pc : Nat} {L : ab_L} {st : List ab_V} {hi : ab_I} {hr : ab_R} {cn : ab_C} {ck cs : Nat}
theorem ab_lo_le (X : ab_X E own cc nL p R s m args c TC TS) : ∀ q : Nat, s.heap.size ≤ q → (fun q => ab_lo E ≤ q) q := fun _ h => Nat.le_trans X.2.2.2.2.2.1.2.2.2.2.2.2.2.2.2.2.2 h
/-- on with a cell more -/
theorem ab_on {pc' K a k n : Nat} {ad : ab_A} {H1 : Heap} {locs : List Loc} {ls : Array Slot} {cells slots : Nat} (hR : ab_Rp E (ab_nA ad K (cn K) a) (ab_zI hi K (cn K)) (ab_zR hr K (cn K)) (ab_uC cn K (cn K + 1)) H1) (hE : ab_ext ad cn (ab_nA ad K (cn K) a) (ab_uC cn K (cn K + 1))) (hN : (L.map (·.1)).Nodup) (hL : ∀ q ∈ L, ab_lv cn q.2) (hst : ∀ v ∈ st, ab_lv cn v)
    (hl : lv_has ls nL (L.map (fun q => (q.1, ab_cv ad q.2)))) (hS : va_S (fun q => ab_lo E ≤ q) s.heap H1 locs) (hc : cells + ck ≤ TC) (hs : slots + cs ≤ TS) (hx : ab_ext ad0 cn0 ad cn) (hk : k ≤ ck) (hn : n ≤ cs)
    (kk : ab_W E nL p e R s m args below meth c Fin ad0 cn0 TC TS pc' L (.inr (some (K, cn K)) :: st) (ab_zI hi K (cn K)) (ab_zR hr K (cn K)) (ab_uC cn K (cn K + 1)) (ck - k) (cs - n)) :
    W p (ab_l E) e R s m args below meth c H1 locs (cells + k) (slots + n) Fin (F0 m pc' ls (.ref a :: st.map (ab_cv ad))) := by
  have e1 : (.ref a :: st.map (ab_cv ad)) = ((.inr (some (K, cn K)) :: st : List ab_V).map (ab_cv (ab_nA ad K (cn K) a))) := by
    rw [List.map_cons, ab_st_ext hE.1 hst]
    congr 1
    show Value.ref a = Value.ref (ab_nA ad K (cn K) a K (cn K))
    rw [ab_nA_self]
  rw [e1]
  refine kk _ H1 locs ls (cells + k) (slots + n) hR hN (fun q hq => (hL q hq).mono hE.2) (ab_lv_cons (fun K' i' hj => ?_) (fun v hv => (hst v hv).mono hE.2)) ?_ hS (by omega) (by omega) (hx.tr hE)
  · cases hj
    unfold ab_uC
    rw [if_pos rfl]
    omega
  · rw [ab_L_ext hE.1 hL]
    exact hl
theorem ab_new (X : ab_X E own cc nL p R s m args c TC TS) {idx K : Nat} (hK : K < 10) (h1 : Cond.classLink own idx (ab_N K) ∈ ab_ALL) (h2 : Cond.instantiable (ab_N K) (ab_nf K) ∈ ab_ALL) (h3 : Cond.initialized (ab_N K) ∈ ab_ALL) (hck : 1 ≤ ck) (hcs : ab_nf K ≤ cs) (hd : decode cc pc = .ok (.new idx, 3))
    (kk : ab_W E nL p e R s m args below meth c Fin ad0 cn0 TC TS (pc + 3) L (.inr (some (K, cn K)) :: st) (ab_zI hi K (cn K)) (ab_zR hr K (cn K)) (ab_uC cn K (cn K + 1)) (ck - 1) (cs - ab_nf K)) : ab_W E nL p e R s m args below meth c Fin ad0 cn0 TC TS pc L st hi hr cn ck cs := by
  intro ad H locs ls cells slots hR hN hL hst hl hS hc hs hx
  obtain ⟨ws, hP, hD, hcell, hinj, hcl, h200, h201, n200, n201, hea, hbig⟩ := hR
  have hRc := X.2.2.2.2.2.2.1
  have hRs := X.2.2.2.2.2.2.2
  refine va_new X.1 X.2.1 X.2.2.2.2.1 (ab_uin hK) (ab_ty K) (ab_ty_ok hK) X.2.2.2.1 (X.2.2.2.2.1 _ h1) (X.2.2.2.2.1 _ h2) (X.2.2.2.2.1 _ h3) X.2.2.2.2.2.1.1 hP hD hS (ab_lo_le X) (ab_cl hK) (fs := ab_fs ad (ab_zI hi K (cn K)) (ab_zR hr K (cn K)) K (cn K)) (fun j hj => ?_) (by omega) (by omega) hd (fun a H1 g1 g2 g3 => ?_)
  · unfold vp_V
    rw [List.getD_eq_getElem?_getD, ab_fs_at hj]
    show defaultValue (ab_ty K j) = ab_fv _ _ _ _ _ _
    unfold ab_fv
    have z1 : ab_zI hi K (cn K) K (cn K) j = 0 := by unfold ab_zI; rw [if_pos rfl, if_pos rfl]
    have z2 : ab_zR hr K (cn K) K (cn K) j = none := by unfold ab_zR; rw [if_pos rfl, if_pos rfl]
    rw [z1, z2]
    rcases ab_ff_lt (K := K) (j := j) with h | h | h | h
    · rw [if_neg (by rw [ab_fi_0 h]; decide)]
      rcases ab_ff_0 h with ⟨n, h⟩ | ⟨n, h⟩ <;> rw [h] <;> rfl
    · rw [if_pos (ab_fi_1 h), ab_ff_1 h]; rfl
    · rw [if_pos (ab_fi_2 h), ab_ff_2 h]; rfl
    · exact absurd h (ab_ff_ok hK j hj)
  · rw [← ab_cE_obj (E := E) hK] at g1 g2
    obtain ⟨q1, q2⟩ := ab_Rp.push hP hD hcell hinj hcl h200 h201 n200 n201 hea hbig (by omega) g1 g2
    exact ab_on q1 q2 hN hL hst hl g3 hc hs hx hck hcs kk
theorem ab_newarray (X : ab_X E own cc nL p R s m args c TC TS) {K : Nat} (hK : 10 ≤ K) (hK2 : K < 200) (ht : ab_tg K = 1) (hck : 1 ≤ ck) (hcs : ab_len K (cn K) ≤ cs) (hd : decode cc pc = .ok (.newarray .int, 2))
    (kk : ab_W E nL p e R s m args below meth c Fin ad0 cn0 TC TS (pc + 2) L (.inr (some (K, cn K)) :: st) (ab_zI hi K (cn K)) (ab_zR hr K (cn K)) (ab_uC cn K (cn K + 1)) (ck - 1) (cs - ab_len K (cn K))) : ab_W E nL p e R s m args below meth c Fin ad0 cn0 TC TS pc L (.inl (nI (ab_len K (cn K))) :: st) hi hr cn ck cs := by
  intro ad H locs ls cells slots hR hN hL hst hl hS hc hs hx
  obtain ⟨ws, hP, hD, hcell, hinj, hcl, h200, h201, n200, n201, hea, hbig⟩ := hR
  have hRc := X.2.2.2.2.2.2.1
  have hRs := X.2.2.2.2.2.2.2
  have hb := ab_len1 (i := cn K) hK ht
  have hKs := X.2.2.2.2.2.1.1
  refine va_newa X.1 X.2.1 (atype := .int) (X.2.2.2.2.1 _ ab_w_ac) (ty := .int) rfl hKs hP hD hS (ab_lo_le X) (n := nI (ab_len K (cn K))) (N' := ab_len K (cn K)) (a0 := (ab_len K (cn K), .inl (fun _ => 0))) (fun _ => rfl) (nI_pos (by omega)) (nI_clamp (by omega)) (by show _ * 4 ≤ _; omega) (by omega) (by omega) hd (fun a cA H1 gK g1 g2 g3 => ?_)
  have e1 : cA = ab_cy E 1 := by
    have a1 : s.vm.findClass ("[" ++ FieldType.int.toString) = some cA := (gK.2 5 (cA, .int) rfl).2
    have a2 : s.vm.findClass ("[" ++ FieldType.int.toString) = some (ab_cy E 1) := (hKs.2 0 _ rfl).2
    exact Option.some.inj (a1.symm.trans a2)
  have e2 : ab_cE E ad (ab_zI hi K (cn K)) (ab_zR hr K (cn K)) K (cn K) = .inl (cA, ab_len K (cn K), .inl (fun _ => 0)) := by
    rw [ab_cE_int hK ht, e1]
    congr 4
    funext j
    unfold ab_zI
    rw [if_pos rfl, if_pos rfl]
  rw [← e2] at g1 g2
  obtain ⟨q1, q2⟩ := ab_Rp.push hP hD hcell hinj hcl h200 h201 n200 n201 hea hbig hK2 g1 g2
  exact ab_on q1 q2 hN hL (fun v hv => hst v (List.mem_cons_of_mem _ hv)) hl g3 hc hs hx hck hcs kk
theorem ab_anewarray (X : ab_X E own cc nL p R s m args c TC TS) {idx K : Nat} {C : String} (hK : 10 ≤ K) (hK2 : K < 200) (ht2 : 2 ≤ ab_tg K) (hC : ab_ct (ab_tg K) = .object C) (hAO : va_AO C s) (h1 : Cond.classLink own idx C ∈ ab_ALL) (hb : ab_len K (cn K) ≤ 100000) (hck : 1 ≤ ck) (hcs : ab_len K (cn K) ≤ cs) (hd : decode cc pc = .ok (.anewarray idx, 3))
    (kk : ab_W E nL p e R s m args below meth c Fin ad0 cn0 TC TS (pc + 3) L (.inr (some (K, cn K)) :: st) (ab_zI hi K (cn K)) (ab_zR hr K (cn K)) (ab_uC cn K (cn K + 1)) (ck - 1) (cs - ab_len K (cn K))) : ab_W E nL p e R s m args below meth c Fin ad0 cn0 TC TS pc L (.inl (nI (ab_len K (cn K))) :: st) hi hr cn ck cs := by
  intro ad H locs ls cells slots hR hN hL hst hl hS hc hs hx
  obtain ⟨ws, hP, hD, hcell, hinj, hcl, h200, h201, n200, n201, hea, hbig⟩ := hR
  have hRc := X.2.2.2.2.2.2.1
  have hRs := X.2.2.2.2.2.2.2
  have hKs := X.2.2.2.2.2.1.1
  refine va_newq X.1 X.2.1 X.2.2.2.1 (X.2.2.2.2.1 _ h1) hAO hKs hP hD hS (ab_lo_le X) (n := nI (ab_len K (cn K))) (N' := ab_len K (cn K)) (nI_pos (by omega)) (nI_clamp (by omega)) (by omega) (by omega) (by omega) hd (fun a cA H1 gK g1 g2 g3 => ?_)
  have e1 : cA = ab_cy E (ab_tg K) := by
    obtain ⟨-, -, -, -, -, a1⟩ := (gK.2 5 (cA, .object C) rfl).2
    have a2 := (hKs.2 _ _ (ab_tys_at (E := E) (t := ab_tg K) (by omega) (ab_tg_le K))).2
    rw [hC] at a2
    obtain ⟨-, -, -, -, -, a2⟩ := a2
    exact Option.some.inj (a1.symm.trans a2)
  have e2 : ab_cE E ad (ab_zI hi K (cn K)) (ab_zR hr K (cn K)) K (cn K) = .inl (cA, ab_len K (cn K), .inr (.inr (.inr (.inr (fun _ => none))))) := by
    rw [ab_cE_ref hK ht2, e1]
    congr 7
    funext j
    have z2 : ab_zR hr K (cn K) K (cn K) j = none := by unfold ab_zR; rw [if_pos rfl, if_pos rfl]
    rw [z2]
    exact ite_self _
  rw [← e2] at g1 g2
  obtain ⟨q1, q2⟩ := ab_Rp.push hP hD hcell hinj hcl h200 h201 n200 n201 hea hbig hK2 g1 g2
  exact ab_on q1 q2 hN hL (fun v hv => hst v (List.mem_cons_of_mem _ hv)) hl g3 hc hs hx hck hcs kk
/-- behind a call -/
theorem ab_call {y : Nat} {Q : ab_Q} {rest : List ab_V} {st0 : List Value} {a : Array Value} {ad : ab_A} {H : Heap} {locs : List Loc} {ls : Array Slot} {cells slots : Nat} (hr0 : va_Run p (ab_l E) e R s m args below meth c H locs cells slots (ab_mc y) (ab_mS y) (F0 m pc ls st0) (rest.map (ab_cv ad)) (ab_Qc E ad cn Q a) (fun q => ab_lo E ≤ q))
    (hN : (L.map (·.1)).Nodup) (hL : ∀ q ∈ L, ab_lv cn q.2) (hst : ∀ v ∈ rest, ab_lv cn v) (hl : lv_has ls nL (L.map (fun q => (q.1, ab_cv ad q.2)))) (hS : va_S (fun q => ab_lo E ≤ q) s.heap H locs) (hc : cells + ck ≤ TC) (hs : slots + cs ≤ TS) (hx : ab_ext ad0 cn0 ad cn) (hmc : ab_mc y ≤ ck) (hms : ab_mS y ≤ cs)
    (kk : ∀ (v : Option ab_V) (hi' : ab_I) (hr' : ab_R) (cn' : ab_C), Q v hi' hr' cn' → ab_W E nL p e R s m args below meth c Fin ad0 cn0 TC TS (pc + 3) L (v.toList ++ rest) hi' hr' cn' (ck - ab_mc y) (cs - ab_mS y)) : W p (ab_l E) e R s m args below meth c H locs cells slots Fin (F0 m pc ls st0) := by
  intro T hT X
  obtain ⟨v, st₀, t, T', Lc, h0, X', hLc, e1, e2, ⟨⟨w, hi', hr', cn', ad', hv, hq, hR', hext, hlw⟩, hz, hk⟩, stp⟩ := hr0 T hT X
  have hv' : v = w.map (ab_cv ad') := by
    cases hv
    rfl
  subst hv'
  rw [h0] at hz hk
  have hS' : va_S (fun q => ab_lo E ≤ q) s.heap T'.heap (locs ++ Lc) := by
    rw [e1]
    refine ⟨Nat.le_trans hS.1 hz, fun q h1 h2 => ?_, fun q hq => ?_⟩
    · rw [hk q (Nat.lt_of_lt_of_le h1 hS.1) h2]
      exact hS.2.1 q h1 h2
    · rcases List.mem_append.mp hq with h | h
      · exact hS.2.2 q h
      · exact hLc q h
  have hlive : ∀ u ∈ w.toList ++ rest, ab_lv cn' u := fun u hu => by
    rcases List.mem_append.mp hu with h | h
    · exact hlw u (by cases w with | none => cases h | some w => rw [List.mem_singleton.mp h])
    · exact (hst u h).mono hext.2
  obtain ⟨t2, a1, b1⟩ := kk w hi' hr' cn' hq ad' T'.heap (locs ++ Lc) ls (cells + ab_mc y) (slots + ab_mS y) (by rw [e1]; exact hR') hN (fun q hq => (hL q hq).mono hext.2) hlive (by rw [ab_L_ext hext.1 hL]; exact hl) hS' (by omega) (by omega) (hx.tr hext) T' rfl X'
  refine ⟨t2, stp t2 ?_, b1⟩
  have e3 : (w.toList ++ rest).map (ab_cv ad') = (w.map (ab_cv ad')).toList ++ rest.map (ab_cv ad) := by
    rw [List.map_append, ab_st_ext hext.1 hst]
    cases w <;> rfl
  rw [e3] at a1
  exact a1
theorem ab_blind {ad : ab_A} {as : List ab_V} : FrameBlind (ab_Pc E ad as hi hr cn) := fun a U g mk h => ⟨h.1, h.2.1, h.2.2.1.step (s := U) (U := U.calling g mk a) (State.WarmedH.refl U) va_S.rf, h.2.2.2⟩
theorem ab_pre (X : ab_X E own cc nL p R s m args c TC TS) {ad : ab_A} {as : List ab_V} {H : Heap} {locs : List Loc} (hR : ab_Rp E ad hi hr cn H) (hS : va_S (fun q => ab_lo E ≤ q) s.heap H locs) (has : ∀ v ∈ as, ab_lv cn v) : ∀ U : State, U.heap = H → s.WarmedH U.vm → ab_Pc E ad as hi hr cn (as.map (ab_cv ad)).toArray U := fun U hU hW => by
  subst hU
  exact ⟨rfl, hR, X.2.2.2.2.2.1.step hW hS, has⟩
theorem ab_good (M : ab_M) (hcode : Cond.code M.1 M.2.1 M.2.2.1 M.2.2.2.1 ∈ ab_ALL) : GoodIn ab_ALL (ab_ws M) := fun w hw => by
  have : w ∈ ab_ALL := (List.mem_cons.mp hw).elim (fun q => q ▸ hcode) id
  exact ⟨this, good_of_word (List.mem_filter.mp this).2⟩
end ABU
