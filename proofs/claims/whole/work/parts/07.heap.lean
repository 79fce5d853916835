/-! THE STEPS THAT READ AND WRITE THE HEAP -/
/-- 1 an int, 2 a boolean, 0 a reference -/
def ab_ff (K j : Nat) : Nat := match ab_ty K j with
  | .int => 1
  | .boolean => 2
  | .object _ => 0
  | .array _ => 0
  | _ => 3
theorem ab_ff_1 {K j : Nat} (h : ab_ff K j = 1) : ab_ty K j = .int := by
  unfold ab_ff at h
  split at h <;> simp_all
theorem ab_ff_2 {K j : Nat} (h : ab_ff K j = 2) : ab_ty K j = .boolean := by
  unfold ab_ff at h
  split at h <;> simp_all
theorem ab_ff_0 {K j : Nat} (h : ab_ff K j = 0) : (∃ n, ab_ty K j = .object n) ∨ ∃ t, ab_ty K j = .array t := by
  unfold ab_ff at h
  split at h <;> simp_all
theorem ab_fi_1 {K j : Nat} (h : ab_ff K j = 1) : ab_fi K j = true := by unfold ab_fi; rw [ab_ff_1 h]
theorem ab_fi_2 {K j : Nat} (h : ab_ff K j = 2) : ab_fi K j = true := by unfold ab_fi; rw [ab_ff_2 h]
theorem ab_fi_0 {K j : Nat} (h : ab_ff K j = 0) : ab_fi K j = false := by
  unfold ab_fi
  rcases ab_ff_0 h with ⟨n, e⟩ | ⟨t, e⟩ <;> rw [e]
theorem ab_ff_ok {K : Nat} (h : K < 10) : ∀ j, j < ab_nf K → ab_ff K j ≠ 3 := ab_lt10 (P := fun K => ∀ j, j < ab_nf K → ab_ff K j ≠ 3) (by decide +kernel) (by decide +kernel) (by decide +kernel) (by decide +kernel) (by decide +kernel) (by decide +kernel) (by decide +kernel) (by decide +kernel) (by decide +kernel) (by decide +kernel) h
theorem ab_ff_lt {K j : Nat} : ab_ff K j = 0 ∨ ab_ff K j = 1 ∨ ab_ff K j = 2 ∨ ab_ff K j = 3 := by
  unfold ab_ff
  split <;> simp
theorem ab_map_set {f f' : Nat → Value} {n k : Nat} {v : Value} (hk : k < n) (h1 : f' k = v) (h2 : ∀ j, j ≠ k → f' j = f j) : ((List.range n).map f).set k v = (List.range n).map f' := by
  apply List.ext_getElem?
  intro j
  rw [List.getElem?_set]
  by_cases e : k = j
  · subst e
    rw [if_pos rfl]
    simp [hk, h1]
  · rw [if_neg e]
    simp only [List.getElem?_map]
    by_cases hj : j < n
    · rw [List.getElem?_range hj]
      simp [h2 j (Ne.symm e)]
    · rw [List.getElem?_eq_none (by rw [List.length_range]; omega)]
      rfl
theorem ab_fs_at {ad : ab_A} {hi : ab_I} {hr : ab_R} {K i k : Nat} (hk : k < ab_nf K) : (ab_fs ad hi hr K i)[k]? = some (ab_fv ad hi hr K i k) := by
  unfold ab_fs
  rw [List.getElem?_map, List.getElem?_range hk]
  rfl
theorem ab_fs_len {ad : ab_A} {hi : ab_I} {hr : ab_R} {K i : Nat} : (ab_fs ad hi hr K i).length = ab_nf K := by simp [ab_fs]
theorem ab_if2 {α : Type} {a b c d : Nat} {x y : α} (h : ¬ (a = b ∧ c = d)) : (if a = b then (if c = d then x else y) else y) = y := by
  by_cases h1 : a = b
  · rw [if_pos h1, if_neg fun q => h ⟨h1, q⟩]
  · rw [if_neg h1]
theorem ab_uI_ne {hi : ab_I} {K i j : Nat} {x : Int32} {K' i' : Nat} (h : ¬ (K' = K ∧ i' = i)) : ab_uI hi K i j x K' i' = hi K' i' := funext fun j' => ab_if2 h
theorem ab_uR_ne {hr : ab_R} {K i j : Nat} {x : Option (Nat × Nat)} {K' i' : Nat} (h : ¬ (K' = K ∧ i' = i)) : ab_uR hr K i j x K' i' = hr K' i' := funext fun j' => ab_if2 h
theorem ab_zI_ne {hi : ab_I} {K i K' i' : Nat} (h : ¬ (K' = K ∧ i' = i)) : ab_zI hi K i K' i' = hi K' i' := funext fun _ => ab_if2 h
theorem ab_zR_ne {hr : ab_R} {K i K' i' : Nat} (h : ¬ (K' = K ∧ i' = i)) : ab_zR hr K i K' i' = hr K' i' := funext fun _ => ab_if2 h
theorem ab_uI_self {hi : ab_I} {K i j : Nat} {x : Int32} : ab_uI hi K i j x K i = upd (hi K i) j x := funext fun j' => by
  unfold ab_uI upd
  rw [if_pos rfl, if_pos rfl]
theorem ab_uR_or {hr : ab_R} {K i j : Nat} {r : Option (Nat × Nat)} {K' i' j' : Nat} {x : Nat × Nat} (h : ab_uR hr K i j r K' i' j' = some x) : r = some x ∨ hr K' i' j' = some x := by
  unfold ab_uR at h
  split at h
  · split at h
    · split at h
      · exact Or.inl h
      · exact Or.inr h
    · exact Or.inr h
  · exact Or.inr h
theorem ab_fs_setI {ad : ab_A} {hi : ab_I} {hr : ab_R} {K i k : Nat} {x : Int32} (hk : k < ab_nf K) (hf : ab_fi K k = true) : (ab_fs ad hi hr K i).set k (.int x) = ab_fs ad (ab_uI hi K i k x) hr K i := by
  refine ab_map_set hk ?_ (fun j hj => ?_)
  · unfold ab_fv; rw [if_pos hf, ab_uI_self]; simp [upd]
  · unfold ab_fv; rw [ab_uI_self]; simp [upd, hj]
theorem ab_fs_setR {ad : ab_A} {hi : ab_I} {hr : ab_R} {K i k : Nat} {r : Option (Nat × Nat)} (hk : k < ab_nf K) (hf : ab_fi K k = false) : (ab_fs ad hi hr K i).set k (va_rf (ab_ar ad r)) = ab_fs ad hi (ab_uR hr K i k r) K i := by
  refine ab_map_set hk ?_ (fun j hj => ?_)
  · unfold ab_fv; simp [hf, ab_uR]
  · unfold ab_fv; simp [ab_uR, hj]
theorem ab_cE_congr {E : ab_E} {ad ad' : ab_A} {hi hi' : ab_I} {hr hr' : ab_R} {K i : Nat} (h1 : hi' K i = hi K i) (h2 : hr' K i = hr K i) (h3 : ∀ j, j < ab_pl K i → ab_ar ad' (hr K i j) = ab_ar ad (hr K i j)) : ab_cE E ad' hi' hr' K i = ab_cE E ad hi hr K i := by
  unfold ab_cE
  by_cases hK : K < 10
  · rw [if_pos hK, if_pos hK]
    congr 2
    unfold ab_fs
    refine List.map_congr_left (fun j hj => ?_)
    unfold ab_fv
    rw [h1, h2, h3 j (by unfold ab_pl; rw [if_pos hK]; exact List.mem_range.mp hj)]
  · rw [if_neg hK, if_neg hK, h1]
    by_cases ht : ab_tg K = 1
    · rw [if_pos ht, if_pos ht]
    · rw [if_neg ht, if_neg ht]
      congr 7
      funext j
      by_cases hj : j < ab_len K i
      · rw [if_pos hj, if_pos hj, h2, h3 j (by unfold ab_pl; rw [if_neg hK]; exact hj)]
      · rw [if_neg hj, if_neg hj]
theorem ab_cE_obj {E : ab_E} {ad : ab_A} {hi : ab_I} {hr : ab_R} {K i : Nat} (h : K < 10) : ab_cE E ad hi hr K i = .inr (K, ab_fs ad hi hr K i) := if_pos h
theorem ab_cE_int {E : ab_E} {ad : ab_A} {hi : ab_I} {hr : ab_R} {K i : Nat} (h : 10 ≤ K) (ht : ab_tg K = 1) : ab_cE E ad hi hr K i = .inl (ab_cy E 1, ab_len K i, .inl (hi K i)) := by
  unfold ab_cE
  rw [if_neg (by omega), if_pos ht]
theorem ab_cE_ref {E : ab_E} {ad : ab_A} {hi : ab_I} {hr : ab_R} {K i : Nat} (h : 10 ≤ K) (ht : 2 ≤ ab_tg K) : ab_cE E ad hi hr K i = .inl (ab_cy E (ab_tg K), ab_len K i, .inr (.inr (.inr (.inr (fun j => if j < ab_len K i then ab_ar ad (hr K i j) else none))))) := by
  unfold ab_cE
  rw [if_neg (by omega), if_neg (by omega)]
theorem ab_tg_le (K : Nat) : ab_tg K ≤ 5 := by
  unfold ab_tg
  repeat' split
  all_goals omega
theorem ab_ite {c : Prop} {_ : Decidable c} {a b n : Nat} (h1 : c → a ≤ n) (h2 : ¬ c → b ≤ n) : (if c then a else b) ≤ n := by
  by_cases h : c
  · rw [if_pos h]; exact h1 h
  · rw [if_neg h]; exact h2 h
theorem ab_ite2 {c : Prop} {_ : Decidable c} {a b n : Nat} (h1 : c → n ≤ a) (h2 : ¬ c → n ≤ b) : n ≤ (if c then a else b) := by
  by_cases h : c
  · rw [if_pos h]; exact h1 h
  · rw [if_neg h]; exact h2 h
theorem ab_len1 {K i : Nat} (h : 10 ≤ K) (ht : ab_tg K = 1) : ab_len K i ≤ 300 := by
  have hn : ¬ (17 ≤ K ∧ K < 21) := fun q => by
    unfold ab_tg at ht
    rw [if_neg (by omega), if_neg (by omega), if_neg (by omega), if_neg (by omega), if_neg (by omega), if_pos (by omega)] at ht
    omega
  unfold ab_len
  repeat' (refine ab_ite (fun _ => ?_) (fun _ => ?_))
  all_goals first | omega | (exfalso; omega)
/-- one cell has changed -/
theorem ab_Rp.upd {E : ab_E} {ad : ab_A} {hi hi' : ab_I} {hr hr' : ab_R} {cn : ab_C} {H H1 : Heap} {K i : Nat} (hR : ab_Rp E ad hi hr cn H) (hl : i < cn K) (hK : K < 200) (h1 : ∀ K' i', ¬ (K' = K ∧ i' = i) → hi' K' i' = hi K' i') (h2 : ∀ K' i', ¬ (K' = K ∧ i' = i) → hr' K' i' = hr K' i')
    (hc : ∀ j, j < ab_pl K i → ∀ K' i', hr' K i j = some (K', i') → i' < cn K') (hw : ∀ (ws : va_W) (q : Nat), va_P (ab_D E) vwCl ws H → va_D (fun q => ab_lo E ≤ q) ws → ws[q]? = some (ad K i, ab_cE E ad hi hr K i) → va_P (ab_D E) vwCl (ws.set q (ad K i, ab_cE E ad hi' hr' K i)) H1) : ab_Rp E ad hi' hr' cn H1 := by
  obtain ⟨ws, hP, hD, hcell, hinj, hcl, h200, h201, n200, n201, hea, hbig⟩ := hR
  obtain ⟨q, hq⟩ := hcell K i hl hK
  have hql := (List.getElem?_eq_some_iff.mp hq).1
  refine ⟨_, hw ws q hP hD hq, hD.set hq, fun K' i' hl' hK' => ?_, hinj, fun K' i' hl' j hjl K'' i'' hj => ?_, h200, h201, n200, n201, hea, hbig⟩
  · by_cases e : K' = K ∧ i' = i
    · obtain ⟨rfl, rfl⟩ := e
      exact ⟨q, List.getElem?_set_self hql⟩
    · obtain ⟨q', hq'⟩ := hcell K' i' hl' hK'
      refine ⟨q', ?_⟩
      rw [List.getElem?_set_ne, hq', ab_cE_congr (h1 K' i' e) (h2 K' i' e) (fun _ _ => rfl)]
      intro e2
      subst e2
      have e3 : ad K i = ad K' i' := by
        have := hq.symm.trans hq'
        simp only [Option.some.injEq, Prod.mk.injEq] at this
        exact this.1
      exact e (hinj K' i' K i hl' hl (by omega) (by omega) e3.symm)
  · by_cases e : K' = K ∧ i' = i
    · obtain ⟨rfl, rfl⟩ := e
      exact hc j hjl K'' i'' hj
    · rw [h2 K' i' e] at hj
      exact hcl K' i' hl' j hjl K'' i'' hj
def ab_nA (ad : ab_A) (K i a : Nat) : ab_A := fun K' i' => if K' = K ∧ i' = i then a else ad K' i'
theorem ab_nA_ne {ad : ab_A} {K i a K' i' : Nat} (h : ¬ (K' = K ∧ i' = i)) : ab_nA ad K i a K' i' = ad K' i' := if_neg h
theorem ab_nA_self {ad : ab_A} {K i a : Nat} : ab_nA ad K i a K i = a := if_pos ⟨rfl, rfl⟩
/-- a new cell -/
theorem ab_Rp.push {E : ab_E} {ad : ab_A} {hi : ab_I} {hr : ab_R} {cn : ab_C} {H H1 : Heap} {K a : Nat} {ws : va_W} (hP : va_P (ab_D E) vwCl ws H) (hD : va_D (fun q => ab_lo E ≤ q) ws)
    (hcell : ∀ K i, i < cn K → K < 200 → ∃ q : Nat, ws[q]? = some (ad K i, ab_cE E ad hi hr K i)) (hinj : ∀ K i K' i', i < cn K → i' < cn K' → K < 201 → K' < 201 → ad K i = ad K' i' → K = K' ∧ i = i')
    (hcl : ∀ K i, i < cn K → ∀ j, j < ab_pl K i → ∀ K' i', hr K i j = some (K', i') → i' < cn K') (h200 : ad 200 0 = ab_ea E) (h201 : ad 201 0 = ab_b E) (n200 : cn 200 = 1) (n201 : cn 201 = 1) (hea : ab_ea E < ab_lo E) (hbig : ∀ K, 201 < K → cn K = 0) (hK : K < 200)
    (hP1 : va_P (ab_D E) vwCl (ws ++ [(a, ab_cE E ad (ab_zI hi K (cn K)) (ab_zR hr K (cn K)) K (cn K))]) H1) (hD1 : va_D (fun q => ab_lo E ≤ q) (ws ++ [(a, ab_cE E ad (ab_zI hi K (cn K)) (ab_zR hr K (cn K)) K (cn K))])) :
    ab_Rp E (ab_nA ad K (cn K) a) (ab_zI hi K (cn K)) (ab_zR hr K (cn K)) (ab_uC cn K (cn K + 1)) H1 ∧ ab_ext ad cn (ab_nA ad K (cn K) a) (ab_uC cn K (cn K + 1)) := by
  have hold : ∀ K' i', i' < cn K' → ¬ (K' = K ∧ i' = cn K) := fun K' i' h q => by rw [q.1, q.2] at h; omega
  have hcn : ∀ K', cn K' ≤ ab_uC cn K (cn K + 1) K' := fun K' => by
    unfold ab_uC
    split
    · rename_i h; rw [h]; omega
    · exact Nat.le_refl _
  have hnew : ∀ K' i', i' < ab_uC cn K (cn K + 1) K' → i' < cn K' ∨ (K' = K ∧ i' = cn K) := fun K' i' h => by
    unfold ab_uC at h
    by_cases e : K' = K
    · rw [if_pos e] at h
      subst e
      rcases Nat.lt_or_ge i' (cn K') with q | q
      · exact Or.inl q
      · exact Or.inr ⟨rfl, by omega⟩
    · rw [if_neg e] at h
      exact Or.inl h
  have hlast : (ws ++ [(a, ab_cE E ad (ab_zI hi K (cn K)) (ab_zR hr K (cn K)) K (cn K))])[ws.length]? = some (a, ab_cE E ad (ab_zI hi K (cn K)) (ab_zR hr K (cn K)) K (cn K)) := by simp
  have hA : ∀ (K' i' : Nat), i' < cn K' → K' < 201 → ad K' i' ≠ a := fun K' i' h hK' e => by
    rcases (show K' = 200 ∨ K' < 200 by omega) with rfl | hK'
    · have : i' = 0 := by omega
      subst this
      have := hD1.2 _ _ hlast
      dsimp only at this
      rw [← e, h200] at this
      omega
    · obtain ⟨q, hq⟩ := hcell K' i' h hK'
      have hql := (List.getElem?_eq_some_iff.mp hq).1
      have := hD1.1 q ws.length _ _ (by rw [List.getElem?_append_left hql]; exact hq) hlast e
      omega
  have hE : ab_ext ad cn (ab_nA ad K (cn K) a) (ab_uC cn K (cn K + 1)) := ⟨fun K' i' h => ab_nA_ne (hold K' i' h), hcn⟩
  have hz : ∀ j, ab_zR hr K (cn K) K (cn K) j = none := fun j => by unfold ab_zR; rw [if_pos rfl, if_pos rfl]
  refine ⟨⟨_, hP1, hD1, fun K' i' h hK' => ?_, fun K1 i1 K2 i2 h1 h2 g1 g2 he => ?_, fun K' i' h j hjl K'' i'' hj => ?_, ?_, ?_, ?_, ?_, hea, fun K' hK' => ?_⟩, hE⟩
  · rcases hnew K' i' h with h | ⟨rfl, rfl⟩
    · obtain ⟨q, hq⟩ := hcell K' i' h hK'
      refine ⟨q, ?_⟩
      rw [List.getElem?_append_left (List.getElem?_eq_some_iff.mp hq).1, hq, ab_nA_ne (hold K' i' h), ab_cE_congr (ad := ad) (ab_zI_ne (hold K' i' h)) (ab_zR_ne (hold K' i' h))]
      intro j hjl
      rcases hj : hr K' i' j with _ | ⟨K'', i''⟩
      · rfl
      · show some (ab_nA ad K (cn K) a K'' i'') = some (ad K'' i'')
        rw [hE.1 K'' i'' (hcl K' i' h j hjl K'' i'' hj)]
    · refine ⟨ws.length, ?_⟩
      rw [hlast, ab_nA_self, ab_cE_congr (ad' := ab_nA ad K' (cn K') a) (ad := ad) (hr := ab_zR hr K' (cn K')) (hi := ab_zI hi K' (cn K')) rfl rfl]
      intro j _
      rw [hz j]
      rfl
  · rcases hnew K1 i1 h1 with q1 | ⟨e1, e2⟩ <;> rcases hnew K2 i2 h2 with q2 | ⟨e3, e4⟩
    · rw [ab_nA_ne (hold _ _ q1), ab_nA_ne (hold _ _ q2)] at he
      exact hinj _ _ _ _ q1 q2 g1 g2 he
    · rw [ab_nA_ne (hold _ _ q1), e3, e4, ab_nA_self] at he
      exact absurd he (hA _ _ q1 g1)
    · rw [ab_nA_ne (hold _ _ q2), e1, e2, ab_nA_self] at he
      exact absurd he.symm (hA _ _ q2 g2)
    · exact ⟨e1.trans e3.symm, e2.trans e4.symm⟩
  · rcases hnew K' i' h with h | ⟨rfl, rfl⟩
    · rw [ab_zR_ne (hold K' i' h)] at hj
      exact Nat.lt_of_lt_of_le (hcl K' i' h j hjl K'' i'' hj) (hcn K'')
    · rw [hz j] at hj
      cases hj
  · rw [ab_nA_ne (by omega)]
    exact h200
  · rw [ab_nA_ne (by omega)]
    exact h201
  · unfold ab_uC
    rw [if_neg (by omega)]
    exact n200
  · unfold ab_uC
    rw [if_neg (by omega)]
    exact n201
  · unfold ab_uC
    rw [if_neg (by omega)]
    exact hbig K' hK'
