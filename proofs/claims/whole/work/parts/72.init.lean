/-! THE START: both objects are made -/
theorem zI_id {hi : ab_I} {K i : Nat} (h : ∀ j, hi K i j = 0) : ab_zI hi K i = hi := by
  funext K' i' j'
  unfold ab_zI
  split
  · split
    · rename_i e1 e2
      rw [e1, e2, h]
    · rfl
  · rfl
theorem uI_id {hi : ab_I} {K i j : Nat} {x : Int32} (h : hi K i j = x) : ab_uI hi K i j x = hi := by
  funext K' i' j'
  unfold ab_uI
  split
  · split
    · split
      · rename_i e1 e2 e3
        rw [e1, e2, e3, h]
      · rfl
    · rfl
  · rfl
theorem zR_id {hr : ab_R} {K i : Nat} (h : ∀ j, hr K i j = none) : ab_zR hr K i = hr := by
  funext K' i' j'
  unfold ab_zR
  split
  · split
    · rename_i e1 e2
      rw [e1, e2, h]
    · rfl
  · rfl
theorem mI_id {hi : ab_I} {cn : ab_C} {K Kr n : Nat} (h1 : ∀ j, hi K (cn K) j = 0) (h2 : ∀ i j, hi Kr i j = 0) : ab_mI hi cn K Kr n = hi := by
  funext K' i' j'
  unfold ab_mI
  split
  · rename_i e
    rw [e.1, e.2, h1]
  · split
    · rename_i e
      rw [e.1, h2]
    · rfl
theorem mR_id {hr : ab_R} {cn : ab_C} {K Kr n : Nat} (h1 : ∀ j, hr K (cn K) j = some (Kr, cn Kr + j)) (h2 : ∀ i j, hr Kr i j = none) : ab_mR hr cn K Kr n = hr := by
  funext K' i' j'
  unfold ab_mR
  split
  · rename_i e
    rw [e.1, e.2, h1]
  · split
    · rename_i e
      rw [e.1, h2]
    · rfl
theorem ab_uR_at {hr : ab_R} {K i j : Nat} {x : Option (Nat × Nat)} {i' j' : Nat} : ab_uR hr K i j x K i' j' = if i' = i ∧ j' = j then x else hr K i' j' := by
  by_cases e : i' = i ∧ j' = j
  · obtain ⟨rfl, rfl⟩ := e
    rw [if_pos ⟨rfl, rfl⟩]
    exact ab_uR_e
  · rw [if_neg e]
    unfold ab_uR
    rw [if_pos rfl]
    by_cases e1 : i' = i
    · rw [if_pos e1, if_neg (fun z => e ⟨e1, z⟩)]
    · rw [if_neg e1]
/-- the references when all has been made -/
def hrB (K i j : Nat) : Option (Nat × Nat) := if K = 0 then (if j = 1 then (if i < 4 then some (200, 0) else none) else none) else if K = 14 then (if i = 0 then (if j < 4 then some (1, j) else none) else none) else none
def hrF : ab_R := mR (cR hrB)
def hiZ : ab_I := fun _ _ _ => 0
theorem mR_off {hr : ab_R} {K i j : Nat} (h : mX K = false) : mR hr K i j = hr K i j := by
  unfold mX at h
  simp only [Bool.or_eq_false_iff, beq_eq_false_iff_ne] at h
  obtain ⟨⟨⟨⟨h1, h2⟩, h3⟩, h4⟩, h5⟩ := h
  unfold mR
  simp only [h1, h2, h3, h4, h5, if_false]
theorem cX_mX {K j : Nat} (h : cX K j = true) : mX K = false := by
  unfold cX at h
  simp only [Bool.or_eq_true, Bool.and_eq_true, beq_iff_eq, decide_eq_true_eq] at h
  unfold mX
  simp only [Bool.or_eq_false_iff, beq_eq_false_iff_ne]
  omega
theorem hrF_c : cR hrF = hrF := by
  funext K i j
  rcases cR_two K i j with ⟨q, v, hv⟩ | q
  · unfold hrF
    rw [hv, mR_off (cX_mX q), hv]
  · exact q hrF
theorem hrF_m : mR hrF = hrF := by
  have id : ∀ h : ab_R, mR (mR h) = mR h := fun h => by
    funext K i j
    by_cases k9 : K = 9
    · subst k9
      by_cases i0 : i = 0
      · subst i0
        by_cases hj : mAr j = true <;> simp [mR, hj]
      · simp [mR, i0]
    · by_cases k1 : K = 31
      · subst k1
        by_cases i0 : i = 0 <;> simp [mR, i0]
      · by_cases k2 : K = 32
        · subst k2
          by_cases i0 : i = 0 <;> simp [mR, i0]
        · by_cases k3 : K = 52
          · subst k3
            by_cases i0 : i = 0 <;> simp [mR, i0]
          · by_cases k4 : K = 73
            · subst k4
              by_cases i0 : i = 0 <;> simp [mR, i0]
            · simp [mR, k9, k1, k2, k3, k4]
  exact id _
/-- the class under way: the fields from n on aren't set -/
def cP (n : Nat) (K i j : Nat) : Option (Nat × Nat) := if K = 8 then (if i = 0 then (if n ≤ j then none else hrF K i j) else hrF K i j) else hrF K i j
theorem cP_new : ab_zR hrF 8 0 = cP 0 := by
  funext K i j
  unfold ab_zR cP
  simp
theorem cP_k {n K i j : Nat} (h : K ≠ 8) : cP n K i j = hrF K i j := if_neg h
theorem cP_set {n : Nat} {r : Option (Nat × Nat)} (h : hrF 8 0 n = r) : ab_uR (cP n) 8 0 n r = cP (n + 1) := by
  funext K i j
  unfold ab_uR cP
  by_cases e1 : K = 8
  · by_cases e2 : i = 0
    · subst e1 e2
      simp only [if_true]
      by_cases e3 : j = n
      · subst e3
        rw [if_pos rfl, if_neg (by omega), h]
      · rw [if_neg e3]
        by_cases e4 : n ≤ j
        · rw [if_pos e4, if_pos (by omega)]
        · rw [if_neg e4, if_neg (by omega)]
    · simp only [e1, e2, if_true, if_false]
  · simp only [e1, if_false]
theorem cP_end : cP 8 = hrF := by
  funext K i j
  unfold cP
  split
  · split
    · split
      · rename_i e1 e2 e3
        subst e1 e2
        have : hrF 8 0 j = none := by
          show cR hrB 8 0 j = none
          unfold cR
          rw [if_pos rfl, if_pos rfl, if_neg (by omega), if_neg (by omega), if_neg (by omega), if_neg (by omega), if_neg (by omega), if_neg (by omega), if_neg (by omega), if_neg (by omega)]
          rfl
        exact this.symm
      · rfl
    · rfl
  · rfl
theorem cP_list {n k : Nat} (hk : k < 4) : ab_uR (ab_zR (cP n) 0 k) 0 k 1 (some (200, 0)) = cP n := by
  have e : ∀ j, cP n 0 k j = if j = 1 then some (200, 0) else none := fun j => by
    show hrB 0 k j = _
    unfold hrB
    rw [if_pos rfl, if_pos hk]
  funext K i j
  unfold ab_uR ab_zR
  by_cases e1 : K = 0
  · by_cases e2 : i = k
    · rw [e1, e2, e]
      simp
    · simp only [e1, e2, if_true, if_false]
  · simp only [e1, if_false]
section INI
variable {E : ab_E} {d : Nat} {hi : ab_I} {hr : ab_R} {cn : ab_C} {Q : ab_Q}
theorem hr_X0 {G : ab_R} {c : Nat} (g0 : G 1 c 0 = some (15, c)) (g1 : G 1 c 1 = some (12, c)) (g2 : ∀ j, 2 ≤ j → G 1 c j = none) (g15 : ∀ j, G 15 c j = none) (g12 : ∀ j, G 12 c j = none) : ab_uR (ab_uR (ab_uR (ab_uR (ab_zR (ab_uR (ab_zR (ab_zR G 1 c) 15 c) 1 c 0 (some (15, c))) 12 c) 1 c 1 (some (12, c))) 1 c 2 none) 1 c 4 none) 1 c 5 none = G := by
  have a15 : ab_zR (ab_zR G 1 c) 15 c = ab_zR G 1 c := zR_id (fun j => by rw [ab_zR_k (by omega)]; exact g15 j)
  rw [a15]
  have a12 : ab_zR (ab_uR (ab_zR G 1 c) 1 c 0 (some (15, c))) 12 c = ab_uR (ab_zR G 1 c) 1 c 0 (some (15, c)) := zR_id (fun j => by rw [ab_uR_k (by omega), ab_zR_k (by omega)]; exact g12 j)
  rw [a12]
  funext K i j
  by_cases e1 : K = 1
  · by_cases e2 : i = c
    · subst e1 e2
      rcases (show j = 0 ∨ j = 1 ∨ 2 ≤ j by omega) with rfl | rfl | e3
      · rw [ab_uR_j (by omega), ab_uR_j (by omega), ab_uR_j (by omega), ab_uR_j (by omega), ab_uR_e, g0]
      · rw [ab_uR_j (by omega), ab_uR_j (by omega), ab_uR_j (by omega), ab_uR_e, g1]
      · rw [g2 j e3, ab_uR_at, ab_uR_at, ab_uR_at, ab_uR_at, ab_uR_at]
        split
        · rfl
        · split
          · rfl
          · split
            · rfl
            · rw [if_neg (by omega), if_neg (by omega)]
              simp [ab_zR]
    · rw [ab_uR_i e2, ab_uR_i e2, ab_uR_i e2, ab_uR_i e2, ab_uR_i e2, ab_zR_i e2]
  · rw [ab_uR_k e1, ab_uR_k e1, ab_uR_k e1, ab_uR_k e1, ab_uR_k e1, ab_zR_k e1]
theorem c_X0_init (hnb : ab_n E < 2 ^ 31) {G : ab_R} {c : Nat} (h15 : cn 15 = c) (h12 : cn 12 = c) (z1 : hi 1 c 3 = 0) (z15 : ∀ j, hi 15 c j = 0) (z12 : ∀ j, hi 12 c j = 0) (g0 : G 1 c 0 = some (15, c)) (g1 : G 1 c 1 = some (12, c)) (g2 : ∀ j, 2 ≤ j → G 1 c j = none) (g15 : ∀ j, G 15 c j = none) (g12 : ∀ j, G 12 c j = none) (h : Q none hi G (ab_uC (ab_uC cn 15 (c + 1)) 12 (c + 1))) : ab_Wm E (d + 1) nX0_init [.inr (some (1, c))] hi (ab_zR G 1 c) cn Q := by
  refine ab_Wm_of gX0_init kX0_init 0 rfl rfl hnb (fun J step drop less => ?_)
  refine step 0 _ _ _ _ _ _ _ ?_
  dsimp [ab_at, gX0_init, nX0_init, ab_vc, ab_v1, ab_lk, ab_st, ab_en, ab_cst, ab_mc, ab_mS, ab_tk, ab_ns, cR, ab_ia, ab_ra, ab_oa, ab_tg, ab_len, ab_uI, ab_uR]
  refine ⟨15, rfl, rfl, (show 4 ≤ 100000 by omega), rfl, by decide, (show 4 ≤ 8 by omega), 12, rfl, rfl, by decide, (show 4 ≤ 4 by omega), ?_⟩
  have e12 : ab_uC cn 15 (cn 15 + 1) 12 = c := (ab_uC_k (by omega)).trans h12
  rw [e12, h15, hr_X0 g0 g1 g2 g15 g12, zI_id z15, zI_id z12, uI_id (show hi 1 c 3 = nI 0 from z1)]
  exact h
/-- the plan under way: the places from n on aren't set -/
def pP (G : ab_R) (n : Nat) (K i j : Nat) : Option (Nat × Nat) := if K = 14 then (if i = 0 then (if n ≤ j then none else G K i j) else G K i j) else G K i j
theorem pP_set {G : ab_R} {n : Nat} {r : Option (Nat × Nat)} (h : G 14 0 n = r) : ab_uR (pP G n) 14 0 n r = pP G (n + 1) := by
  funext K i j
  unfold ab_uR pP
  by_cases e1 : K = 14
  · by_cases e2 : i = 0
    · subst e1 e2
      simp only [if_true]
      by_cases e3 : j = n
      · subst e3
        rw [if_pos rfl, if_neg (by omega), h]
      · rw [if_neg e3]
        by_cases e4 : n ≤ j
        · rw [if_pos e4, if_pos (by omega)]
        · rw [if_neg e4, if_neg (by omega)]
    · simp only [e1, e2, if_true, if_false]
  · simp only [e1, if_false]
theorem pP_end {G : ab_R} {n : Nat} (h : ∀ j, n ≤ j → G 14 0 j = none) : pP G n = G := by
  funext K i j
  unfold pP
  split
  · split
    · split
      · rename_i e1 e2 e3
        subst e1 e2
        exact (h j e3).symm
      · rfl
    · rfl
  · rfl
theorem c_X3_init (hnb : ab_n E < 2 ^ 31) {G : ab_R} (hc : cn 1 = 0 ∧ cn 12 = 0 ∧ cn 14 = 0 ∧ cn 15 = 0) (z : ∀ K i j, K = 1 ∨ K = 4 ∨ K = 12 ∨ K = 14 ∨ K = 15 → hi K i j = 0) (g4 : ∀ j, G 4 0 j = if j = 0 then some (14, 0) else none) (g14 : ∀ j, G 14 0 j = if j < 4 then some (1, j) else none) (g1 : ∀ c, c < 4 → G 1 c 0 = some (15, c) ∧ G 1 c 1 = some (12, c) ∧ (∀ j, 2 ≤ j → G 1 c j = none)) (g15 : ∀ c j, G 15 c j = none) (g12 : ∀ c j, G 12 c j = none)
    (h : ∀ cn', (∀ K, K ≠ 1 → K ≠ 12 → K ≠ 14 → K ≠ 15 → cn' K = cn K) → Q none hi G cn') : ab_Wm E (d + 2) nX3_init [.inr (some (4, 0))] hi (ab_zR G 4 0) cn Q := by
  refine ab_Wm_of gX3_init kX3_init 0 rfl rfl hnb (fun J step drop less => ?_)
  have loop : ∀ m i ck cs cn1, i + m = 4 → 3 * m ≤ ck → 14 * m ≤ cs → cn1 1 = i → cn1 12 = i → cn1 15 = i → (∀ K, K ≠ 1 → K ≠ 12 → K ≠ 14 → K ≠ 15 → cn1 K = cn K) → J 34 [(0, .inr (some (4, 0))), (1, .inl (nI i))] [] hi (pP G i) cn1 ck cs := by
    intro m
    induction m with
    | zero =>
      intro i ck cs cn1 hi' _ _ q1 q12 q15 qk
      have : i = 4 := by omega
      subst this
      refine step 34 _ _ _ _ _ _ _ ?_
      dsimp [ab_at, gX3_init, nX3_init, ab_vc, ab_v1, ab_lk, ab_st, ab_en, ab_cst, ab_mc, ab_mS, ab_tk, ab_ns, cR, ab_ia, ab_ra, ab_oa, ab_tg, ab_len, ab_uI, ab_uR]
      refine ⟨fun _ => ?_, fun q => absurd (Int32.le_refl _) q⟩
      rw [pP_end (fun j hj => by rw [g14, if_neg (by omega)])]
      refine step 58 _ _ _ _ _ _ _ ?_
      dsimp [ab_at, gX3_init, nX3_init, ab_vc, ab_v1, ab_lk, ab_st, ab_en, ab_cst, ab_mc, ab_mS, ab_tk, ab_ns, cR, ab_ia, ab_ra, ab_oa, ab_tg, ab_len, ab_uI, ab_uR]
      exact h cn1 qk
    | succ m ih =>
      intro i ck cs cn1 hi' h1 h2 q1 q12 q15 qk
      have ii : ab_ix (nI i) = i := ab_ix_nI (by omega)
      have e40 : pP G i 4 0 0 = some (14, 0) := (if_neg (by omega)).trans (by rw [g4]; rfl)
      obtain ⟨b0, b1, b2⟩ := g1 i (by omega)
      have zz : ab_zI hi 1 i = hi := zI_id (fun j => z 1 i j (by omega))
      refine step 34 _ _ _ _ _ _ _ ?_
      dsimp [ab_at, gX3_init, nX3_init, ab_vc, ab_v1, ab_lk, ab_st, ab_en, ab_cst, ab_mc, ab_mS, ab_tk, ab_ns, cR, ab_ia, ab_ra, ab_oa, ab_tg, ab_len, ab_uI, ab_uR]
      refine ⟨fun q => absurd ((nI_leI (by omega) (by omega)).mp q) (by omega), fun _ => ?_⟩
      rw [e40]
      refine ab_if (by omega) (ab_if (show 6 ≤ cs by omega) (ab_if (show 2 ≤ ck - 1 by omega) (ab_if (show 8 ≤ cs - 6 by omega) ?_)))
      rw [q1, zz]
      refine c_X0_init (G := pP G i) (c := i) hnb ((if_neg (by omega)).trans q15) ((if_neg (by omega)).trans q12) (z 1 i 3 (by omega)) (fun j => z 15 i j (by omega)) (fun j => z 12 i j (by omega)) ((if_neg (by omega)).trans b0) ((if_neg (by omega)).trans b1) (fun j hj => (if_neg (by omega)).trans (b2 j hj)) (fun j => (if_neg (by omega)).trans (g15 i j)) (fun j => (if_neg (by omega)).trans (g12 i j)) ?_
      refine step 51 _ _ _ _ _ _ _ ?_
      dsimp [ab_at, gX3_init, nX3_init, ab_vc, ab_v1, ab_lk, ab_st, ab_en, ab_cst, ab_mc, ab_mS, ab_tk, ab_ns, cR, ab_ia, ab_ra, ab_oa, ab_tg, ab_len, ab_uI, ab_uR]
      rw [ii, nI_add]
      refine ⟨fun K i q => by cases q; exact ⟨by omega, fun _ => rfl, fun y => by omega⟩, ab_inI (by omega) (by omega), ?_⟩
      rw [pP_set (by rw [g14, if_pos (by omega)])]
      refine ih (i + 1) _ _ _ (by omega) (by omega) (show 14 * m ≤ cs - (6 + 8) by omega) ?_ ?_ ?_ (fun K k1 k2 k3 k4 => ?_)
      · rw [ab_uC_k (by omega), ab_uC_k (by omega)]
        exact if_pos rfl
      · rw [ab_uC_e]
      · rw [ab_uC_k (by omega), ab_uC_e]
      · rw [ab_uC_k k2, ab_uC_k k4]
        exact (if_neg k1).trans (qk K k1 k2 k3 k4)
  refine step 0 _ _ _ _ _ _ _ ?_
  dsimp [ab_at, gX3_init, nX3_init, ab_vc, ab_v1, ab_lk, ab_st, ab_en, ab_cst, ab_mc, ab_mS, ab_tk, ab_ns, cR, ab_ia, ab_ra, ab_oa, ab_tg, ab_len, ab_uI, ab_uR]
  refine ⟨14, rfl, rfl, (show 4 ≤ 100000 by omega), rfl, by decide, (show 4 ≤ 60 by omega), ?_⟩
  have e0 : ab_uI (ab_uI (ab_uI (ab_uI (ab_zI hi 14 (cn 14)) 4 0 1 (nI 0)) 4 0 2 (nI 0)) 4 0 3 (nI 0)) 4 0 4 (nI 0) = hi := by
    rw [zI_id (fun j => z 14 _ j (by omega)), uI_id (show hi 4 0 1 = nI 0 from z 4 0 1 (by omega)), uI_id (show hi 4 0 2 = nI 0 from z 4 0 2 (by omega)), uI_id (show hi 4 0 3 = nI 0 from z 4 0 3 (by omega)), uI_id (show hi 4 0 4 = nI 0 from z 4 0 4 (by omega))]
  have e1 : ab_uR (ab_zR (ab_zR G 4 0) 14 (cn 14)) 4 0 0 (some (14, cn 14)) = pP G 0 := by
    rw [hc.2.2.1]
    funext K i j
    unfold pP
    by_cases k4 : K = 4
    · subst k4
      rw [if_neg (by omega)]
      by_cases i0 : i = 0
      · subst i0
        rw [g4]
        by_cases j0 : j = 0
        · subst j0
          rw [ab_uR_e]
          rfl
        · rw [ab_uR_j j0, if_neg j0, ab_zR_k (by omega)]
          simp [ab_zR]
      · rw [ab_uR_i i0, ab_zR_k (by omega), ab_zR_i i0]
    · rw [ab_uR_k k4]
      by_cases k14 : K = 14
      · subst k14
        rw [if_pos rfl]
        by_cases i0 : i = 0
        · subst i0
          rw [if_pos rfl, if_pos (Nat.zero_le _)]
          simp [ab_zR]
        · rw [if_neg i0, ab_zR_i i0, ab_zR_k (by omega)]
      · rw [if_neg k14, ab_zR_k k14, ab_zR_k k4]
  refine ⟨Or.inl rfl, ?_⟩
  rw [e0, e1]
  refine loop 4 0 _ _ _ (by omega) (by decide) (show 14 * 4 ≤ 60 - 4 by omega) ?_ ?_ ?_ (fun K k1 k2 k3 k4 => ab_uC_k k3)
  · rw [ab_uC_k (by omega)]
    exact hc.1
  · rw [ab_uC_k (by omega)]
    exact hc.2.1
  · rw [ab_uC_k (by omega)]
    exact hc.2.2.2
/-- the first rule -/
def hiF : ab_I := cRule hiZ 0 (-1) (nI 1000090) (nI 10000)
theorem hiF_k {K i j : Nat} (h : K ≠ 5) : hiF K i j = 0 := by
  unfold hiF cRule
  rw [ab_uI_k h, ab_uI_k h, ab_uI_k h, ab_uI_k h, ab_uI_k h, ab_uI_k h, ab_uI_k h]
  rfl
def cnF (cn cn' : ab_C) : Prop := cn' 2 = 0 ∧ cn' 3 = 0 ∧ cn' 5 = 1 ∧ cn' 6 = 0 ∧ cn' 7 = 0 ∧ cn' 11 = 0 ∧ (∀ k, k < 4 → cn' (17 + k) = 0) ∧ ∀ K, 30 ≤ K ∨ K = 9 → cn' K = cn K
theorem c_X7_init (hnb : ab_n E < 2 ^ 31) (hc : ∀ K, K ≠ 8 → K < 30 → cn K = 0) (h : ∀ cn', cnF cn cn' → Q none hiF hrF cn') : ab_Wm E (d + 6) nX7_init [cO] hiZ (cP 0) cn Q := by
  refine ab_Wm_of gX7_init kX7_init 0 rfl rfl hnb (fun J step drop less => ?_)
  refine step 0 _ _ _ _ _ _ _ ?_
  dsimp [ab_at, gX7_init, nX7_init, ab_vc, ab_v1, ab_lk, ab_st, ab_en, ab_cst, ab_mc, ab_mS, ab_tk, ab_ns, cR, ab_ia, ab_ra, ab_oa, ab_tg, ab_len, ab_uI, ab_uR]
  refine ⟨16, 13, 4, by omega, by omega, by omega, by omega, by omega, rfl, rfl, (show 4 ≤ 1000 by omega), by omega, rfl, rfl, fun i _ => rfl, (show 5 ≤ 25 by omega), (show 4 + 4 * 4 ≤ 114 by omega), ?_⟩
  have e1 : ab_mR (cP 0) cn 16 13 4 = cP 0 := mR_id (fun j => by
    rw [hc 16 (by omega) (by omega), hc 13 (by omega) (by omega), Nat.zero_add]
    rfl) (fun i j => rfl)
  have e2 : ab_mI hiZ cn 16 13 4 = hiZ := mI_id (fun j => rfl) (fun i j => rfl)
  show J 14 [(0, cO)] [] (ab_mI hiZ cn 16 13 4) (ab_uR (ab_mR (cP 0) cn 16 13 4) 8 0 0 (some (16, cn 16))) (ab_uC (ab_uC cn 16 (cn 16 + 1)) 13 (cn 13 + 4)) (25 - (1 + 4)) (114 - (4 + 4 * 4))
  rw [e1, e2, cP_set (by rw [hc 16 (by omega) (by omega)]; rfl)]
  refine less _ _ _ _ _ _ _ _ 20 94 (by omega) (by omega) ?_
  generalize eC : ab_uC (ab_uC cn 16 (cn 16 + 1)) 13 (cn 13 + 4) = cn1
  have c1 : ∀ K, K ≠ 16 → K ≠ 13 → cn1 K = cn K := fun K z1 z2 => by rw [← eC, ab_uC_k z2, ab_uC_k z1]
  have k1 : cn1 0 = 0 := by
    rw [c1 0 (by omega) (by omega)]; exact hc 0 (by omega) (by omega)
  refine step 14 _ _ _ _ _ _ _ ?_
  dsimp [ab_at, gX7_init, nX7_init, ab_vc, ab_v1, ab_lk, ab_st, ab_en, ab_cst, ab_mc, ab_mS, ab_tk, ab_ns, cR, ab_ia, ab_ra, ab_oa, ab_tg, ab_len, ab_uI, ab_uR, ab_uC, ab_nf]
  rw [k1, zI_id (hi := hiZ) (fun j => rfl)]
  refine c_AL_init hnb ?_
  rw [uI_id (hi := hiZ) (show hiZ 0 0 0 = nI 0 from rfl), cP_list (by omega)]
  refine less _ _ _ _ _ _ _ _ 19 91 (by omega) (show 91 ≤ 94 - 3 by omega) ?_
  refine step 22 _ _ _ _ _ _ _ ?_
  dsimp [ab_at, gX7_init, nX7_init, ab_vc, ab_v1, ab_lk, ab_st, ab_en, ab_cst, ab_mc, ab_mS, ab_tk, ab_ns, cR, ab_ia, ab_ra, ab_oa, ab_tg, ab_len, ab_uI, ab_uR]
  rw [cP_set (by rfl)]
  generalize eC1 : ab_uC cn1 0 (0 + 1) = cn2
  have c2 : ∀ K, K ≠ 0 → cn2 K = cn1 K := fun K z => by rw [← eC1]; exact ab_uC_k z
  have k2 : cn2 0 = 1 := by
    rw [← eC1]; exact if_pos rfl
  refine step 25 _ _ _ _ _ _ _ ?_
  dsimp [ab_at, gX7_init, nX7_init, ab_vc, ab_v1, ab_lk, ab_st, ab_en, ab_cst, ab_mc, ab_mS, ab_tk, ab_ns, cR, ab_ia, ab_ra, ab_oa, ab_tg, ab_len, ab_uI, ab_uR, ab_uC, ab_nf]
  rw [k2, zI_id (hi := hiZ) (fun j => rfl)]
  refine c_AL_init hnb ?_
  rw [uI_id (hi := hiZ) (show hiZ 0 1 0 = nI 0 from rfl), cP_list (by omega)]
  refine less _ _ _ _ _ _ _ _ 18 88 (by omega) (show 88 ≤ 91 - 3 by omega) ?_
  refine step 33 _ _ _ _ _ _ _ ?_
  dsimp [ab_at, gX7_init, nX7_init, ab_vc, ab_v1, ab_lk, ab_st, ab_en, ab_cst, ab_mc, ab_mS, ab_tk, ab_ns, cR, ab_ia, ab_ra, ab_oa, ab_tg, ab_len, ab_uI, ab_uR]
  rw [cP_set (by rfl)]
  generalize eC2 : ab_uC cn2 0 (1 + 1) = cn3
  have c3 : ∀ K, K ≠ 0 → cn3 K = cn2 K := fun K z => by rw [← eC2]; exact ab_uC_k z
  have k3 : cn3 0 = 2 := by
    rw [← eC2]; exact if_pos rfl
  refine step 36 _ _ _ _ _ _ _ ?_
  dsimp [ab_at, gX7_init, nX7_init, ab_vc, ab_v1, ab_lk, ab_st, ab_en, ab_cst, ab_mc, ab_mS, ab_tk, ab_ns, cR, ab_ia, ab_ra, ab_oa, ab_tg, ab_len, ab_uI, ab_uR, ab_uC, ab_nf]
  rw [k3, zI_id (hi := hiZ) (fun j => rfl)]
  refine c_AL_init hnb ?_
  rw [uI_id (hi := hiZ) (show hiZ 0 2 0 = nI 0 from rfl), cP_list (by omega)]
  refine less _ _ _ _ _ _ _ _ 17 85 (by omega) (show 85 ≤ 88 - 3 by omega) ?_
  refine step 44 _ _ _ _ _ _ _ ?_
  dsimp [ab_at, gX7_init, nX7_init, ab_vc, ab_v1, ab_lk, ab_st, ab_en, ab_cst, ab_mc, ab_mS, ab_tk, ab_ns, cR, ab_ia, ab_ra, ab_oa, ab_tg, ab_len, ab_uI, ab_uR]
  rw [cP_set (by rfl)]
  generalize eC3 : ab_uC cn3 0 (2 + 1) = cn4
  have c4 : ∀ K, K ≠ 0 → cn4 K = cn3 K := fun K z => by rw [← eC3]; exact ab_uC_k z
  have k4 : cn4 0 = 3 := by
    rw [← eC3]; exact if_pos rfl
  refine step 47 _ _ _ _ _ _ _ ?_
  dsimp [ab_at, gX7_init, nX7_init, ab_vc, ab_v1, ab_lk, ab_st, ab_en, ab_cst, ab_mc, ab_mS, ab_tk, ab_ns, cR, ab_ia, ab_ra, ab_oa, ab_tg, ab_len, ab_uI, ab_uR, ab_uC, ab_nf]
  rw [k4, zI_id (hi := hiZ) (fun j => rfl)]
  refine c_AL_init hnb ?_
  rw [uI_id (hi := hiZ) (show hiZ 0 3 0 = nI 0 from rfl), cP_list (by omega)]
  refine less _ _ _ _ _ _ _ _ 16 82 (by omega) (show 82 ≤ 85 - 3 by omega) ?_
  refine step 55 _ _ _ _ _ _ _ ?_
  dsimp [ab_at, gX7_init, nX7_init, ab_vc, ab_v1, ab_lk, ab_st, ab_en, ab_cst, ab_mc, ab_mS, ab_tk, ab_ns, cR, ab_ia, ab_ra, ab_oa, ab_tg, ab_len, ab_uI, ab_uR]
  rw [cP_set (by rfl)]
  generalize eC4 : ab_uC cn4 0 (3 + 1) = cn5
  have c5 : ∀ K, K ≠ 0 → cn5 K = cn4 K := fun K z => by rw [← eC4]; exact ab_uC_k z
  have k5 : cn5 5 = 0 := by
    rw [c5 5 (by omega), c4 5 (by omega), c3 5 (by omega), c2 5 (by omega), c1 5 (by omega) (by omega)]
    exact hc 5 (by omega) (by omega)
  refine step 58 _ _ _ _ _ _ _ ?_
  dsimp [ab_at, gX7_init, nX7_init, ab_vc, ab_v1, ab_lk, ab_st, ab_en, ab_cst, ab_mc, ab_mS, ab_tk, ab_ns, cR, ab_ia, ab_ra, ab_oa, ab_tg, ab_len, ab_uI, ab_uR, ab_uC, ab_nf]
  rw [k5, zI_id (hi := hiZ) (fun j => rfl), zR_id (hr := cP 5) (fun j => rfl)]
  refine c_X4_init hnb ?_
  have eF : cRule hiZ 0 (-1) (nI 1000090) (nI 10000) = hiF := rfl
  rw [eF]
  refine less _ _ _ _ _ _ _ _ 15 75 (by omega) (show 75 ≤ 82 - 7 by omega) ?_
  refine step 72 _ _ _ _ _ _ _ ?_
  dsimp [ab_at, gX7_init, nX7_init, ab_vc, ab_v1, ab_lk, ab_st, ab_en, ab_cst, ab_mc, ab_mS, ab_tk, ab_ns, cR, ab_ia, ab_ra, ab_oa, ab_tg, ab_len, ab_uI, ab_uR]
  rw [cP_set (by rfl)]
  generalize eC5 : ab_uC cn5 5 (0 + 1) = cn6
  have c6 : ∀ K, K ≠ 5 → cn6 K = cn5 K := fun K z => by rw [← eC5]; exact ab_uC_k z
  have k65 : cn6 5 = 1 := by rw [← eC5]; exact ab_uC_e
  have cc : ∀ K, K ≠ 0 → K ≠ 5 → K ≠ 13 → K ≠ 16 → cn6 K = cn K := fun K z1 z2 z3 z4 => by rw [c6 K z2, c5 K z1, c4 K z1, c3 K z1, c2 K z1, c1 K z4 z3]
  have k10 : cn6 10 = 0 := by rw [cc 10 (by omega) (by omega) (by omega) (by omega)]; exact hc 10 (by omega) (by omega)
  refine step 75 _ _ _ _ _ _ _ ?_
  dsimp [ab_at, gX7_init, nX7_init, ab_vc, ab_v1, ab_lk, ab_st, ab_en, ab_cst, ab_mc, ab_mS, ab_tk, ab_ns, cR, ab_ia, ab_ra, ab_oa, ab_tg, ab_len, ab_uI, ab_uR]
  refine ⟨10, rfl, rfl, by decide, (show 10 ≤ 75 by omega), ?_⟩
  rw [k10, zI_id (hi := hiF) (fun j => hiF_k (by omega)), zR_id (hr := cP 6) (fun j => rfl), cP_set (by rfl)]
  refine less _ _ _ _ _ _ _ _ 14 65 (by omega) (show 65 ≤ 75 - 10 by omega) ?_
  generalize eC6 : ab_uC cn6 10 (0 + 1) = cn7
  have c7 : ∀ K, K ≠ 10 → cn7 K = cn6 K := fun K z => by rw [← eC6]; exact ab_uC_k z
  have dd : ∀ K, K ≠ 0 → K ≠ 5 → K ≠ 13 → K ≠ 16 → K ≠ 10 → cn7 K = cn K := fun K z1 z2 z3 z4 z5 => by rw [c7 K z5, cc K z1 z2 z3 z4]
  have k4 : cn7 4 = 0 := by rw [dd 4 (by omega) (by omega) (by omega) (by omega) (by omega)]; exact hc 4 (by omega) (by omega)
  refine step 83 _ _ _ _ _ _ _ ?_
  dsimp [ab_at, gX7_init, nX7_init, ab_vc, ab_v1, ab_lk, ab_st, ab_en, ab_cst, ab_mc, ab_mS, ab_tk, ab_ns, cR, ab_ia, ab_ra, ab_oa, ab_tg, ab_len, ab_uI, ab_uR, ab_uC, ab_nf]
  rw [k4, zI_id (hi := hiF) (fun j => hiF_k (by omega))]
  refine c_X3_init (G := cP 7) hnb ⟨?_, ?_, ?_, ?_⟩ (fun K i j z => hiF_k (by omega)) (fun j => rfl) (fun j => rfl) (fun c hc => ⟨rfl, rfl, fun j hj => ?_⟩) (fun c j => rfl) (fun c j => rfl) (fun cn8 c8 => ?_)
  · rw [ab_uC_k (by omega), dd 1 (by omega) (by omega) (by omega) (by omega) (by omega)]
    exact hc 1 (by omega) (by omega)
  · rw [ab_uC_k (by omega), dd 12 (by omega) (by omega) (by omega) (by omega) (by omega)]
    exact hc 12 (by omega) (by omega)
  · rw [ab_uC_k (by omega), dd 14 (by omega) (by omega) (by omega) (by omega) (by omega)]
    exact hc 14 (by omega) (by omega)
  · rw [ab_uC_k (by omega), dd 15 (by omega) (by omega) (by omega) (by omega) (by omega)]
    exact hc 15 (by omega) (by omega)
  · show cR hrB 1 c j = none
    unfold cR
    rw [if_neg (by omega), if_neg (by omega), if_neg (by omega), if_pos rfl, if_neg (by omega), if_neg (by omega)]
    rfl
  refine less _ _ _ _ _ _ _ _ 0 0 (by omega) (by omega) ?_
  refine step 91 _ _ _ _ _ _ _ ?_
  dsimp [ab_at, gX7_init, nX7_init, ab_vc, ab_v1, ab_lk, ab_st, ab_en, ab_cst, ab_mc, ab_mS, ab_tk, ab_ns, cR, ab_ia, ab_ra, ab_oa, ab_tg, ab_len, ab_uI, ab_uR]
  rw [cP_set (by rfl), cP_end]
  refine step 94 _ _ _ _ _ _ _ ?_
  dsimp [ab_at, gX7_init, nX7_init, ab_vc, ab_v1, ab_lk, ab_st, ab_en, ab_cst, ab_mc, ab_mS, ab_tk, ab_ns, cR, ab_ia, ab_ra, ab_oa, ab_tg, ab_len, ab_uI, ab_uR]
  rw [uI_id (hi := hiF) (show hiF _ _ _ = nI 0 from hiF_k (by omega))]
  refine step 99 _ _ _ _ _ _ _ ?_
  dsimp [ab_at, gX7_init, nX7_init, ab_vc, ab_v1, ab_lk, ab_st, ab_en, ab_cst, ab_mc, ab_mS, ab_tk, ab_ns, cR, ab_ia, ab_ra, ab_oa, ab_tg, ab_len, ab_uI, ab_uR]
  rw [uI_id (hi := hiF) (show hiF _ _ _ = nI 0 from hiF_k (by omega))]
  refine step 104 _ _ _ _ _ _ _ ?_
  dsimp [ab_at, gX7_init, nX7_init, ab_vc, ab_v1, ab_lk, ab_st, ab_en, ab_cst, ab_mc, ab_mS, ab_tk, ab_ns, cR, ab_ia, ab_ra, ab_oa, ab_tg, ab_len, ab_uI, ab_uR]
  rw [uI_id (hi := hiF) (show hiF _ _ _ = nI 0 from hiF_k (by omega))]
  refine step 109 _ _ _ _ _ _ _ ?_
  dsimp [ab_at, gX7_init, nX7_init, ab_vc, ab_v1, ab_lk, ab_st, ab_en, ab_cst, ab_mc, ab_mS, ab_tk, ab_ns, cR, ab_ia, ab_ra, ab_oa, ab_tg, ab_len, ab_uI, ab_uR]
  rw [uI_id (hi := hiF) (show hiF _ _ _ = nI 0 from hiF_k (by omega))]
  refine step 114 _ _ _ _ _ _ _ ?_
  dsimp [ab_at, gX7_init, nX7_init, ab_vc, ab_v1, ab_lk, ab_st, ab_en, ab_cst, ab_mc, ab_mS, ab_tk, ab_ns, cR, ab_ia, ab_ra, ab_oa, ab_tg, ab_len, ab_uI, ab_uR]
  rw [uI_id (hi := hiF) (show hiF _ _ _ = nI 0 from hiF_k (by omega))]
  refine step 119 _ _ _ _ _ _ _ ?_
  dsimp [ab_at, gX7_init, nX7_init, ab_vc, ab_v1, ab_lk, ab_st, ab_en, ab_cst, ab_mc, ab_mS, ab_tk, ab_ns, cR, ab_ia, ab_ra, ab_oa, ab_tg, ab_len, ab_uI, ab_uR]
  have ee : ∀ K, K ≠ 0 → K ≠ 5 → K ≠ 13 → K ≠ 16 → K ≠ 10 → K ≠ 4 → K ≠ 1 → K ≠ 12 → K ≠ 14 → K ≠ 15 → cn8 K = cn K := fun K z1 z2 z3 z4 z5 z6 z7 z8 z9 z10 => by rw [c8 K z7 z8 z9 z10, ab_uC_k z6, dd K z1 z2 z3 z4 z5]
  refine h cn8 ⟨?_, ?_, ?_, ?_, ?_, ?_, fun k hk => ?_, fun K hK => ?_⟩
  · rw [ee 2 (by omega) (by omega) (by omega) (by omega) (by omega) (by omega) (by omega) (by omega) (by omega) (by omega)]; exact hc 2 (by omega) (by omega)
  · rw [ee 3 (by omega) (by omega) (by omega) (by omega) (by omega) (by omega) (by omega) (by omega) (by omega) (by omega)]; exact hc 3 (by omega) (by omega)
  · rw [c8 5 (by omega) (by omega) (by omega) (by omega), ab_uC_k (by omega), c7 5 (by omega), k65]
  · rw [ee 6 (by omega) (by omega) (by omega) (by omega) (by omega) (by omega) (by omega) (by omega) (by omega) (by omega)]; exact hc 6 (by omega) (by omega)
  · rw [ee 7 (by omega) (by omega) (by omega) (by omega) (by omega) (by omega) (by omega) (by omega) (by omega) (by omega)]; exact hc 7 (by omega) (by omega)
  · rw [ee 11 (by omega) (by omega) (by omega) (by omega) (by omega) (by omega) (by omega) (by omega) (by omega) (by omega)]; exact hc 11 (by omega) (by omega)
  · rw [ee (17 + k) (by omega) (by omega) (by omega) (by omega) (by omega) (by omega) (by omega) (by omega) (by omega) (by omega)]; exact hc (17 + k) (by omega) (by omega)
  · exact ee K (by omega) (by omega) (by omega) (by omega) (by omega) (by omega) (by omega) (by omega) (by omega) (by omega)
end INI
