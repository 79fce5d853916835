section ABT
variable {E : ab_E} {own : String} {cc : ByteArray} {nL : Nat} {p : Program} {e : Env} {R : Room} {s : State} {m : MethodId} {args : Array Value} {below : List Frame} {meth : Method} {c : Code} {Fin : State → Prop} {ad0 : ab_A} {cn0 : ab_C} {TC TS pc : Nat} {L : ab_L} {st : List ab_V} {hi : ab_I} {hr : ab_R} {cn : ab_C} {ck cs : Nat}
theorem ab_L_ext {ad ad' : ab_A} {cn : ab_C} {L : ab_L} (h : ∀ K i, i < cn K → ad' K i = ad K i) (hL : ∀ q ∈ L, ab_lv cn q.2) : L.map (fun q => (q.1, ab_cv ad' q.2)) = L.map (fun q => (q.1, ab_cv ad q.2)) := List.map_congr_left fun q hq => by rw [ab_cv.ext h (hL q hq)]
theorem ab_st_ext {ad ad' : ab_A} {cn : ab_C} {st : List ab_V} (h : ∀ K i, i < cn K → ad' K i = ad K i) (hL : ∀ v ∈ st, ab_lv cn v) : st.map (ab_cv ad') = st.map (ab_cv ad) := List.map_congr_left fun q hq => ab_cv.ext h (hL q hq)
/-- the component of the arrays of a kind -/
def ab_ct (t : Nat) : FieldType := match t with
  | 1 => .int
  | 2 => .object RX0
  | 3 => .object RX5
  | 4 => .object "java/lang/Object"
  | _ => .array .int
theorem ab_tys_at {E : ab_E} {t : Nat} (h1 : 1 ≤ t) (h5 : t ≤ 5) : (ab_tys E)[t - 1]? = some (ab_cy E t, ab_ct t) := by
  rcases (show t = 1 ∨ t = 2 ∨ t = 3 ∨ t = 4 ∨ t = 5 by omega) with rfl | rfl | rfl | rfl | rfl <;> rfl
theorem ab_vp_in {n N : Nat} (h : n < N) (hn : n < 2 ^ 31) : vp_in (nI n) N := by
  rw [vp_in_iff, nI_toInt hn]
  omega
theorem ab_aaload (X : ab_X E own cc nL p R s m args c TC TS) {K i n : Nat} (hK : 10 ≤ K) (hK2 : K < 200) (ht : 2 ≤ ab_tg K) (hb : n < 100000) (hn : n < ab_len K i) (hd : decode cc pc = .ok (.aaload, 1))
    (kk : ab_W E nL p e R s m args below meth c Fin ad0 cn0 TC TS (pc + 1) L (.inr (hr K i n) :: st) hi hr cn ck cs) : ab_W E nL p e R s m args below meth c Fin ad0 cn0 TC TS pc L (.inl (nI n) :: .inr (some (K, i)) :: st) hi hr cn ck cs := by
  intro ad H locs ls cells slots hR hN hL hst hl hS hc hs hx
  have hlive : i < cn K := hst _ (List.mem_cons_of_mem _ List.mem_cons_self) K i rfl
  have hR' := hR
  obtain ⟨ws, hP, hD, hcell, hinj, hcl, hz⟩ := hR
  obtain ⟨q, hq⟩ := hcell K i hlive hK2
  rw [ab_cE_ref hK ht] at hq
  have h5 := ab_tg_le K
  have hin : vp_in (nI n) (ab_len K i) := ab_vp_in hn (by omega)
  have hA := (X.2.2.2.2.2.1.1.2 _ _ (ab_tys_at (E := E) (t := ab_tg K) (by omega) h5)).1
  refine W.aald (v := va_rf (ab_ar ad (hr K i n))) (ty := ab_ct (ab_tg K)) X.1 X.2.1 (hP q _ hq) (hA (ab_len K i) (fun j => va_rf (if j < ab_len K i then ab_ar ad (hr K i j) else none))) ?_ (fun q => by cases q) (by show ¬ (nI n < 0 ∨ (arrV _ _ _).slots.size ≤ _); rw [arrV_size]; exact hin) (by show (arrV _ _ _).slots[_]? = _; rw [nI_clamp (by omega), arrV_read _ _ hn]; dsimp only; rw [if_pos hn]) rfl rfl hd ?_
  · rcases (show ab_tg K = 2 ∨ ab_tg K = 3 ∨ ab_tg K = 4 ∨ ab_tg K = 5 by omega) with h | h | h | h <;> rw [h] <;> rfl
  · exact kk ad H locs ls cells slots hR' hN hL (ab_lv_cons (fun K' i' hj => hcl K i hlive n (by unfold ab_pl; rw [if_neg (by omega)]; exact hn) K' i' hj) (fun w hw => hst w (List.mem_cons_of_mem _ (List.mem_cons_of_mem _ hw)))) hl hS hc hs hx
theorem ab_uR_self {ad : ab_A} {K i n : Nat} {r : Option (Nat × Nat)} (hn : n < ab_len K i) : va_up (fun j => if j < ab_len K i then ab_ar ad (hr K i j) else none) n (ab_ar ad r) = fun j => if j < ab_len K i then ab_ar ad (ab_uR hr K i n r K i j) else none := funext fun j => by
  have e1 : ab_uR hr K i n r K i j = if j = n then r else hr K i j := by
    unfold ab_uR
    rw [if_pos rfl, if_pos rfl]
  rw [e1]
  unfold va_up
  by_cases e : j = n
  · rw [if_pos e, if_pos e, e, if_pos hn]
  · rw [if_neg e, if_neg e]
theorem ab_aastore (X : ab_X E own cc nL p R s m args c TC TS) {K i n : Nat} {r : Option (Nat × Nat)} (hK : 10 ≤ K) (hK2 : K < 200) (ht : 2 ≤ ab_tg K) (ht4 : ab_tg K ≤ 4) (hfit : ab_fitA (ab_tg K) r) (hb : n < 100000) (hn : n < ab_len K i) (hd : decode cc pc = .ok (.aastore, 1))
    (kk : ab_W E nL p e R s m args below meth c Fin ad0 cn0 TC TS (pc + 1) L st hi (ab_uR hr K i n r) cn ck cs) : ab_W E nL p e R s m args below meth c Fin ad0 cn0 TC TS pc L (.inr r :: .inl (nI n) :: .inr (some (K, i)) :: st) hi hr cn ck cs := by
  intro ad H locs ls cells slots hR hN hL hst hl hS hc hs hx
  have hlive : i < cn K := hst _ (List.mem_cons_of_mem _ (List.mem_cons_of_mem _ List.mem_cons_self)) K i rfl
  have hrl : ab_lv cn (.inr r) := hst _ List.mem_cons_self
  obtain ⟨ws, hP, hD, hcell, hinj, hcl, hz⟩ := hR
  obtain ⟨q, hq⟩ := hcell K i hlive hK2
  rw [ab_cE_ref hK ht] at hq
  have hql := (List.getElem?_eq_some_iff.mp hq).1
  have hin : vp_in (nI n) (ab_len K i) := ab_vp_in hn (by omega)
  have fin : ∀ (H1 : Heap) (locs1 : List Loc), va_P (ab_D E) vwCl (ws.set q (ad K i, .inl (ab_cy E (ab_tg K), ab_len K i, .inr (.inr (.inr (.inr (va_up (fun j => if j < ab_len K i then ab_ar ad (hr K i j) else none) (nI n).toNatClampNeg (ab_ar ad r)))))))) H1 → va_S (fun q => ab_lo E ≤ q) s.heap H1 locs1 → W p (ab_l E) e R s m args below meth c H1 locs1 cells slots Fin (F0 m (pc + 1) ls (st.map (ab_cv ad))) := by
    intro H1 locs1 g1 g3
    rw [nI_clamp (by omega), ab_uR_self hn] at g1
    refine kk ad H1 locs1 ls cells slots ?_ hN hL (fun w hw => hst w (List.mem_cons_of_mem _ (List.mem_cons_of_mem _ (List.mem_cons_of_mem _ hw)))) hl g3 hc hs hx
    refine ⟨ws.set q (ad K i, ab_cE E ad hi (ab_uR hr K i n r) K i), ?_, hD.set hq, fun K' i' hl' hK' => ?_, hinj, fun K' i' hl' j hjl K'' i'' hj => ?_, hz⟩
    · rw [ab_cE_ref hK ht]
      exact g1
    · by_cases e : K' = K ∧ i' = i
      · obtain ⟨rfl, rfl⟩ := e
        exact ⟨q, List.getElem?_set_self hql⟩
      · obtain ⟨q', hq'⟩ := hcell K' i' hl' hK'
        refine ⟨q', ?_⟩
        rw [List.getElem?_set_ne, hq', ab_cE_congr rfl (ab_uR_ne e) (fun _ _ => rfl)]
        intro e2
        subst e2
        have e3 := hq.symm.trans hq'
        simp only [Option.some.injEq, Prod.mk.injEq] at e3
        exact e (hinj K' i' K i hl' hlive (by omega) (by omega) e3.1.symm)
    · rcases ab_uR_or hj with hj | hj
      · exact hrl K'' i'' hj
      · exact hcl K' i' hl' j hjl K'' i'' hj
  have hKs := X.2.2.2.2.2.1
  have hT := ab_tys_at (E := E) (t := ab_tg K) (by omega) (by omega)
  rcases r with _ | ⟨K', i'⟩
  · have key : ∀ C, ab_ct (ab_tg K) = .object C → W p (ab_l E) e R s m args below meth c H locs cells slots Fin (F0 m pc ls (.null :: .int (nI n) :: .ref (ad K i) :: st.map (ab_cv ad))) := fun C hC => by
      rw [hC] at hT
      exact va_astqN X.1 X.2.1 hKs.1 hP hD hS q _ hq hT hin hd (fun H1 locs1 g1 _ g3 => fin H1 locs1 g1 g3)
    rcases (show ab_tg K = 2 ∨ ab_tg K = 3 ∨ ab_tg K = 4 by omega) with h | h | h
    · exact key _ (by rw [h]; rfl)
    · exact key _ (by rw [h]; rfl)
    · exact key _ (by rw [h]; rfl)
  · obtain ⟨f1, f2, f3⟩ := hfit K' i' rfl
    have hlive' : i' < cn K' := hrl K' i' rfl
    obtain ⟨q', hq'⟩ := hcell K' i' hlive' (by omega)
    rw [ab_cE_obj f1] at hq'
    rcases (show ab_tg K = 2 ∨ ab_tg K = 3 ∨ ab_tg K = 4 by omega) with h | h | h
    · have e1 : K' = 1 := f2 h
      subst e1
      refine va_astq X.1 X.2.1 hKs.1 hP hD hS q _ q' 1 hq (r := (ab_N 1, ab_T 1, ab_nf 1)) (hT.trans (by rw [h]; rfl)) hq' (ab_cl f1) hin hd (fun H1 locs1 g1 _ g3 => fin H1 locs1 g1 g3)
    · have e1 : K' = 6 := f3 h
      subst e1
      refine va_astq X.1 X.2.1 hKs.1 hP hD hS q _ q' 6 hq (r := (ab_N 6, ab_T 6, ab_nf 6)) (hT.trans (by rw [h]; rfl)) hq' (ab_cl f1) hin hd (fun H1 locs1 g1 _ g3 => fin H1 locs1 g1 g3)
    · exact va_astqO X.1 X.2.1 hKs.1 hP hD hS q _ q' K' hq (E := "java/lang/Object") (hT.trans (by rw [h]; rfl)) (hKs.2.2.2.2.2.2.2.2.2.2.1.1 K' f1) hq' (ab_cl f1) hin hd (fun H1 locs1 g1 _ g3 => fin H1 locs1 g1 g3)
theorem ab_alen (X : ab_X E own cc nL p R s m args c TC TS) {K i : Nat} (hK : 10 ≤ K) (hK2 : K < 200) (hd : decode cc pc = .ok (.arraylength, 1))
    (kk : ab_W E nL p e R s m args below meth c Fin ad0 cn0 TC TS (pc + 1) L (.inl (nI (ab_len K i)) :: st) hi hr cn ck cs) : ab_W E nL p e R s m args below meth c Fin ad0 cn0 TC TS pc L (.inr (some (K, i)) :: st) hi hr cn ck cs := by
  intro ad H locs ls cells slots hR hN hL hst hl hS hc hs hx
  have hlive : i < cn K := hst _ List.mem_cons_self K i rfl
  have hR' := hR
  obtain ⟨ws, hP, hD, hcell, hinj, hcl, hz⟩ := hR
  obtain ⟨q, hq⟩ := hcell K i hlive hK2
  have h1 : 1 ≤ ab_tg K := by
    unfold ab_tg
    rw [if_neg (by omega)]
    repeat' (refine ab_ite2 (fun _ => ?_) (fun _ => ?_))
    all_goals omega
  have kk' := kk ad H locs ls cells slots hR' hN hL (ab_lv_cons trivial (fun w hw => hst w (List.mem_cons_of_mem _ hw))) hl hS hc hs hx
  by_cases h2 : ab_tg K = 1
  · rw [ab_cE_int hK h2] at hq
    exact va_alen X.1 X.2.1 X.2.2.2.2.2.1.1 hP q 0 hq (ab_tys_at (E := E) (t := 1) (by omega) (by omega)) rfl hd kk'
  · rw [ab_cE_ref hK (by omega)] at hq
    exact va_alen X.1 X.2.1 X.2.2.2.2.2.1.1 hP q _ hq (ab_tys_at (E := E) (t := ab_tg K) h1 (ab_tg_le K)) rfl hd kk'
theorem ab_elen (X : ab_X E own cc nL p R s m args c TC TS) {i : Nat} (hd : decode cc pc = .ok (.arraylength, 1))
    (kk : ab_W E nL p e R s m args below meth c Fin ad0 cn0 TC TS (pc + 1) L (.inl (nI 0) :: st) hi hr cn ck cs) : ab_W E nL p e R s m args below meth c Fin ad0 cn0 TC TS pc L (.inr (some (200, i)) :: st) hi hr cn ck cs := by
  intro ad H locs ls cells slots hR hN hL hst hl hS hc hs hx
  have hlive : i < cn 200 := hst _ List.mem_cons_self 200 i rfl
  have hR' := hR
  obtain ⟨ws, hP, hD, hcell, hinj, hcl, h200, h201, n200, n201, hz⟩ := hR
  have hi0 : i = 0 := by omega
  subst hi0
  have hK := X.2.2.2.2.2.1
  obtain ⟨cell, t1, t2, t3, t4, t5, t6, t7⟩ := hK.2.2.2.2.1
  have h3 : ab_lo E ≤ s.heap.size := hK.2.2.2.2.2.2.2.2.2.2.2
  have e1 : ab_cv ad (.inr (some (200, 0))) = .ref (ab_ea E) := by show Value.ref (ad 200 0) = _; rw [h200]
  show W p (ab_l E) e R s m args below meth c H locs cells slots Fin (F0 m pc ls (ab_cv ad (.inr (some (200, 0))) :: st.map (ab_cv ad)))
  rw [e1]
  refine W.alen (n := nI 0) X.1 X.2.1 (cell := cell) (by rw [hS.2.1 _ (Array.getElem?_eq_some_iff.mp t1).1 t7]; exact t1) t2 t5 rfl rfl hd ?_
  exact kk ad H locs ls cells slots hR' hN hL (ab_lv_cons trivial (fun w hw => hst w (List.mem_cons_of_mem _ hw))) hl hS hc hs hx
theorem ab_gets (X : ab_X E own cc nL p R s m args c TC TS) {idx : Nat} (hlink : Cond.fieldLink own idx "java/util/ArrayList" "DEFAULTCAPACITY_EMPTY_ELEMENTDATA" "[Ljava/lang/Object;" ∈ ab_ALL) (hd : decode cc pc = .ok (.getstatic idx, 3))
    (kk : ab_W E nL p e R s m args below meth c Fin ad0 cn0 TC TS (pc + 3) L (.inr (some (200, 0)) :: st) hi hr cn ck cs) : ab_W E nL p e R s m args below meth c Fin ad0 cn0 TC TS pc L st hi hr cn ck cs := by
  intro ad H locs ls cells slots hR hN hL hst hl hS hc hs hx
  have hR' := hR
  obtain ⟨ws, hP, hD, hcell, hinj, hcl, h200, h201, n200, n201, hz⟩ := hR
  refine va_gets X.1 X.2.1 X.2.2.2.2.2.1.2.2.2.1 hS X.2.2.2.1 (X.2.2.2.2.1 _ hlink) (fun _ h => h) hd ?_
  have e1 : Value.ref (ab_ea E) = ab_cv ad (.inr (some (200, 0))) := by show _ = Value.ref (ad 200 0); rw [h200]
  rw [e1]
  exact kk ad H locs ls cells slots hR' hN hL (ab_lv_cons (fun K' i' hj => by cases hj; omega) hst) hl hS hc hs hx
theorem ab_cast (X : ab_X E own cc nL p R s m args c TC TS) {idx K : Nat} {r : Option (Nat × Nat)} (hK : K < 10) (hlink : Cond.classLink own idx (ab_N K) ∈ ab_ALL) (hr0 : ∀ K' i, r = some (K', i) → K' = K) (hd : decode cc pc = .ok (.checkcast idx, 3))
    (kk : ab_W E nL p e R s m args below meth c Fin ad0 cn0 TC TS (pc + 3) L (.inr r :: st) hi hr cn ck cs) : ab_W E nL p e R s m args below meth c Fin ad0 cn0 TC TS pc L (.inr r :: st) hi hr cn ck cs := by
  intro ad H locs ls cells slots hR hN hL hst hl hS hc hs hx
  have hrl : ab_lv cn (.inr r) := hst _ List.mem_cons_self
  have kk' := kk ad H locs ls cells slots hR hN hL hst hl hS hc hs hx
  rcases r with _ | ⟨K', i⟩
  · exact lv_castN X.1 X.2.1 hd kk'
  · have e1 : K' = K := hr0 K' i rfl
    subst e1
    obtain ⟨ws, hP, hD, hcell, -⟩ := hR
    obtain ⟨q, hq⟩ := hcell K' i (hrl K' i rfl) (by omega)
    rw [ab_cE_obj hK] at hq
    exact va_castS X.1 X.2.1 X.2.2.2.1 (X.2.2.2.2.1 _ hlink) (X.2.2.2.2.2.1.1.1 K' _ (ab_cl hK)).2 (va_recv X.2.2.2.2.2.1.1 hP (ab_cl hK) hq) hd kk'
end ABT
