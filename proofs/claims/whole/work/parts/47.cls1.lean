/-! THE CLASS, method by method: what always lies where it lies -/
def cR (hr : ab_R) (K i j : Nat) : Option (Nat × Nat) :=
  if K = 8 then (if i = 0 then (if j = 0 then some (16, 0) else if j = 1 then some (0, 0) else if j = 2 then some (0, 1) else if j = 3 then some (0, 2) else if j = 4 then some (0, 3) else if j = 5 then some (5, 0) else if j = 6 then some (10, 0) else if j = 7 then some (4, 0) else hr K i j) else hr K i j)
  else if K = 16 then (if i = 0 then some (13, j) else hr K i j)
  else if K = 4 then (if j = 0 then some (14, 0) else hr K i j)
  else if K = 1 then (if j = 0 then some (15, i) else if j = 1 then some (12, i) else hr K i j)
  else if K = 7 then (if j = 4 then some (11, i) else hr K i j)
  else hr K i j
/-- a place that cR holds -/
def cX (K j : Nat) : Bool := (K == 8 && decide (j < 8)) || K == 16 || (K == 4 && j == 0) || (K == 1 && decide (j < 2)) || (K == 7 && j == 4)
theorem cR_uR {hr : ab_R} {K i j : Nat} {r : Option (Nat × Nat)} (h : cX K j = false) : ab_uR (cR hr) K i j r = cR (ab_uR hr K i j r) := by
  funext K' i' j'
  by_cases e : K' = K ∧ i' = i ∧ j' = j
  · obtain ⟨rfl, rfl, rfl⟩ := e
    unfold cX at h
    simp only [Bool.or_eq_false_iff, Bool.and_eq_false_iff, beq_eq_false_iff_ne, decide_eq_false_iff_not] at h
    obtain ⟨⟨⟨⟨h1, h2⟩, h3⟩, h4⟩, h5⟩ := h
    unfold cR
    rw [ab_uR_e, ab_uR_e]
    repeat' split
    all_goals first | rfl | (exfalso; omega)
  · have e1 : ∀ f : ab_R, ab_uR f K i j r K' i' j' = f K' i' j' := fun f => by
      unfold ab_uR
      repeat' split
      all_goals first | rfl | exact absurd ⟨‹_›, ‹_›, ‹_›⟩ e
    rw [e1]
    unfold cR
    rw [e1]
abbrev cO : ab_V := .inr (some (8, 0))
section CLS1
variable {E : ab_E} {d : Nat} {hi : ab_I} {hr : ab_R} {cn : ab_C} {Q : ab_Q}
theorem c_X7_within (hnb : ab_n E < 2 ^ 31) {v l h : Int32} (h1 : l ≤ v → v ≤ h → Q (some (.inl (nI 1))) hi hr cn) (h0 : ¬ (l ≤ v ∧ v ≤ h) → Q (some (.inl (nI 0))) hi hr cn) : ab_Wm E (d + 1) nX7_within [.inl v, .inl l, .inl h] hi hr cn Q := by
  refine ab_Wm_of gX7_within kX7_within 2 rfl rfl hnb (fun J step drop less => ?_)
  have r14 : ¬ (l ≤ v ∧ v ≤ h) → ∀ L ck cs, J 14 L [] hi hr cn ck cs := fun hn L ck cs => by
    refine step 14 _ _ _ _ _ _ _ ?_
    dsimp [ab_at, gX7_within, nX7_within, ab_vc, ab_v1, ab_lk, ab_st, ab_en, ab_cst, ab_mc, ab_mS, ab_tk, ab_ns, cR, ab_ia, ab_ra, ab_oa, ab_tg, ab_len, ab_uI, ab_uR]
    refine step 15 _ _ _ _ _ _ _ ?_
    dsimp [ab_at, gX7_within, nX7_within, ab_vc, ab_v1, ab_lk, ab_st, ab_en, ab_cst, ab_mc, ab_mS, ab_tk, ab_ns, cR, ab_ia, ab_ra, ab_oa, ab_tg, ab_len, ab_uI, ab_uR]
    exact ⟨Or.inl rfl, h0 hn⟩
  refine step 0 _ _ _ _ _ _ _ ?_
  dsimp [ab_at, gX7_within, nX7_within, ab_vc, ab_v1, ab_lk, ab_st, ab_en, ab_cst, ab_mc, ab_mS, ab_tk, ab_ns, cR, ab_ia, ab_ra, ab_oa, ab_tg, ab_len, ab_uI, ab_uR]
  refine ⟨fun q => r14 (fun w => ?_) _ _ _, fun q => ⟨fun q2 => r14 (fun w => ?_) _ _ _, fun q2 => ?_⟩⟩
  · exact absurd q (Int32.not_lt.mpr w.1)
  · exact absurd q2 (Int32.not_lt.mpr w.2)
  · refine step 15 _ _ _ _ _ _ _ ?_
    dsimp [ab_at, gX7_within, nX7_within, ab_vc, ab_v1, ab_lk, ab_st, ab_en, ab_cst, ab_mc, ab_mS, ab_tk, ab_ns, cR, ab_ia, ab_ra, ab_oa, ab_tg, ab_len, ab_uI, ab_uR]
    exact ⟨Or.inr rfl, h1 (Int32.not_lt.mp q) (Int32.not_lt.mp q2)⟩
theorem c_X7_isTown (hnb : ab_n E < 2 ^ 31) {x : Int32} (h1 : okIn x 0 3 → Q (some (.inl (nI 1))) hi hr cn) (h0 : ¬ okIn x 0 3 → Q (some (.inl (nI 0))) hi hr cn) : ab_Wm E (d + 2) nX7_isTown [.inl x] hi hr cn Q := by
  refine ab_Wm_of gX7_isTown kX7_isTown 2 rfl rfl hnb (fun J step drop less => ?_)
  refine step 0 _ _ _ _ _ _ _ ?_
  dsimp [ab_at, gX7_isTown, nX7_isTown, ab_vc, ab_v1, ab_lk, ab_st, ab_en, ab_cst, ab_mc, ab_mS, ab_tk, ab_ns, cR, ab_ia, ab_ra, ab_oa, ab_tg, ab_len, ab_uI, ab_uR]
  refine c_X7_within hnb (fun a b => ?_) (fun q => ?_)
  · refine step 6 _ _ _ _ _ _ _ ?_
    dsimp [ab_at, gX7_isTown, nX7_isTown, ab_vc, ab_v1, ab_lk, ab_st, ab_en, ab_cst, ab_mc, ab_mS, ab_tk, ab_ns, cR, ab_ia, ab_ra, ab_oa, ab_tg, ab_len, ab_uI, ab_uR]
    exact ⟨Or.inr rfl, h1 ⟨a, b⟩⟩
  · refine step 6 _ _ _ _ _ _ _ ?_
    dsimp [ab_at, gX7_isTown, nX7_isTown, ab_vc, ab_v1, ab_lk, ab_st, ab_en, ab_cst, ab_mc, ab_mS, ab_tk, ab_ns, cR, ab_ia, ab_ra, ab_oa, ab_tg, ab_len, ab_uI, ab_uR]
    exact ⟨Or.inl rfl, h0 q⟩
theorem c_X7_isArtist (hnb : ab_n E < 2 ^ 31) {x : Int32} (h1 : okIn x 0 9 → Q (some (.inl (nI 1))) hi hr cn) (h0 : ¬ okIn x 0 9 → Q (some (.inl (nI 0))) hi hr cn) : ab_Wm E (d + 2) nX7_isArtist [.inl x] hi hr cn Q := by
  refine ab_Wm_of gX7_isArtist kX7_isArtist 2 rfl rfl hnb (fun J step drop less => ?_)
  refine step 0 _ _ _ _ _ _ _ ?_
  dsimp [ab_at, gX7_isArtist, nX7_isArtist, ab_vc, ab_v1, ab_lk, ab_st, ab_en, ab_cst, ab_mc, ab_mS, ab_tk, ab_ns, cR, ab_ia, ab_ra, ab_oa, ab_tg, ab_len, ab_uI, ab_uR]
  refine c_X7_within hnb (fun a b => ?_) (fun q => ?_)
  · refine step 7 _ _ _ _ _ _ _ ?_
    dsimp [ab_at, gX7_isArtist, nX7_isArtist, ab_vc, ab_v1, ab_lk, ab_st, ab_en, ab_cst, ab_mc, ab_mS, ab_tk, ab_ns, cR, ab_ia, ab_ra, ab_oa, ab_tg, ab_len, ab_uI, ab_uR]
    exact ⟨Or.inr rfl, h1 ⟨a, b⟩⟩
  · refine step 7 _ _ _ _ _ _ _ ?_
    dsimp [ab_at, gX7_isArtist, nX7_isArtist, ab_vc, ab_v1, ab_lk, ab_st, ab_en, ab_cst, ab_mc, ab_mS, ab_tk, ab_ns, cR, ab_ia, ab_ra, ab_oa, ab_tg, ab_len, ab_uI, ab_uR]
    exact ⟨Or.inl rfl, h0 q⟩
theorem c_X7_homeOf (hnb : ab_n E < 2 ^ 31) {x : Int32} {n : Nat} (hn : n ≤ 200) (C : cL hi (cR hr) cn 0 n (fun j => (2, j))) (h1 : ∀ m, m < n → x = nI m → Q (some (.inr (some (2, m)))) hi (cR hr) cn) (h0 : (∀ m, m < n → x ≠ nI m) → Q (some (.inr none)) hi (cR hr) cn) : ab_Wm E (d + 4) nX7_homeOf [cO, .inl x] hi (cR hr) cn Q := by
  refine ab_Wm_of gX7_homeOf kX7_homeOf 3 rfl rfl hnb (fun J step drop less => ?_)
  refine step 0 _ _ _ _ _ _ _ ?_
  dsimp [ab_at, gX7_homeOf, nX7_homeOf, ab_vc, ab_v1, ab_lk, ab_st, ab_en, ab_cst, ab_mc, ab_mS, ab_tk, ab_ns, cR, ab_ia, ab_ra, ab_oa, ab_tg, ab_len, ab_uI, ab_uR]
  refine c_AL_size hnb C ?_
  refine step 9 _ _ _ _ _ _ _ ?_
  dsimp [ab_at, gX7_homeOf, nX7_homeOf, ab_vc, ab_v1, ab_lk, ab_st, ab_en, ab_cst, ab_mc, ab_mS, ab_tk, ab_ns, cR, ab_ia, ab_ra, ab_oa, ab_tg, ab_len, ab_uI, ab_uR]
  refine c_X7_within hnb (fun a b => ?_) (fun q => ?_)
  · obtain ⟨m, hm, rfl⟩ := ab_rng (by omega) a b
    refine step 14 _ _ _ _ _ _ _ ?_
    dsimp [ab_at, gX7_homeOf, nX7_homeOf, ab_vc, ab_v1, ab_lk, ab_st, ab_en, ab_cst, ab_mc, ab_mS, ab_tk, ab_ns, cR, ab_ia, ab_ra, ab_oa, ab_tg, ab_len, ab_uI, ab_uR]
    refine ⟨fun q => absurd q (by decide), fun _ => ?_⟩
    refine c_AL_get hnb (by omega) hn C hm ?_
    refine step 25 _ _ _ _ _ _ _ ?_
    dsimp [ab_at, gX7_homeOf, nX7_homeOf, ab_vc, ab_v1, ab_lk, ab_st, ab_en, ab_cst, ab_mc, ab_mS, ab_tk, ab_ns, cR, ab_ia, ab_ra, ab_oa, ab_tg, ab_len, ab_uI, ab_uR]
    refine step 32 _ _ _ _ _ _ _ ?_
    dsimp [ab_at, gX7_homeOf, nX7_homeOf, ab_vc, ab_v1, ab_lk, ab_st, ab_en, ab_cst, ab_mc, ab_mS, ab_tk, ab_ns, cR, ab_ia, ab_ra, ab_oa, ab_tg, ab_len, ab_uI, ab_uR]
    exact h1 m hm rfl
  · refine step 14 _ _ _ _ _ _ _ ?_
    dsimp [ab_at, gX7_homeOf, nX7_homeOf, ab_vc, ab_v1, ab_lk, ab_st, ab_en, ab_cst, ab_mc, ab_mS, ab_tk, ab_ns, cR, ab_ia, ab_ra, ab_oa, ab_tg, ab_len, ab_uI, ab_uR]
    refine ⟨fun _ => ?_, fun q => absurd rfl q⟩
    refine step 31 _ _ _ _ _ _ _ ?_
    dsimp [ab_at, gX7_homeOf, nX7_homeOf, ab_vc, ab_v1, ab_lk, ab_st, ab_en, ab_cst, ab_mc, ab_mS, ab_tk, ab_ns, cR, ab_ia, ab_ra, ab_oa, ab_tg, ab_len, ab_uI, ab_uR]
    refine step 32 _ _ _ _ _ _ _ ?_
    dsimp [ab_at, gX7_homeOf, nX7_homeOf, ab_vc, ab_v1, ab_lk, ab_st, ab_en, ab_cst, ab_mc, ab_mS, ab_tk, ab_ns, cR, ab_ia, ab_ra, ab_oa, ab_tg, ab_len, ab_uI, ab_uR]
    exact h0 fun m hm e => q (e ▸ ab_rngI hm (by omega))
theorem c_X7_workOf (hnb : ab_n E < 2 ^ 31) {x : Int32} {n : Nat} (hn : n ≤ 200) (C : cL hi (cR hr) cn 1 n (fun j => (7, j))) (h1 : ∀ m, m < n → x = nI m → Q (some (.inr (some (7, m)))) hi (cR hr) cn) (h0 : (∀ m, m < n → x ≠ nI m) → Q (some (.inr none)) hi (cR hr) cn) : ab_Wm E (d + 4) nX7_workOf [cO, .inl x] hi (cR hr) cn Q := by
  refine ab_Wm_of gX7_workOf kX7_workOf 3 rfl rfl hnb (fun J step drop less => ?_)
  refine step 0 _ _ _ _ _ _ _ ?_
  dsimp [ab_at, gX7_workOf, nX7_workOf, ab_vc, ab_v1, ab_lk, ab_st, ab_en, ab_cst, ab_mc, ab_mS, ab_tk, ab_ns, cR, ab_ia, ab_ra, ab_oa, ab_tg, ab_len, ab_uI, ab_uR]
  refine c_AL_size hnb C ?_
  refine step 9 _ _ _ _ _ _ _ ?_
  dsimp [ab_at, gX7_workOf, nX7_workOf, ab_vc, ab_v1, ab_lk, ab_st, ab_en, ab_cst, ab_mc, ab_mS, ab_tk, ab_ns, cR, ab_ia, ab_ra, ab_oa, ab_tg, ab_len, ab_uI, ab_uR]
  refine c_X7_within hnb (fun a b => ?_) (fun q => ?_)
  · obtain ⟨m, hm, rfl⟩ := ab_rng (by omega) a b
    refine step 14 _ _ _ _ _ _ _ ?_
    dsimp [ab_at, gX7_workOf, nX7_workOf, ab_vc, ab_v1, ab_lk, ab_st, ab_en, ab_cst, ab_mc, ab_mS, ab_tk, ab_ns, cR, ab_ia, ab_ra, ab_oa, ab_tg, ab_len, ab_uI, ab_uR]
    refine ⟨fun q => absurd q (by decide), fun _ => ?_⟩
    refine c_AL_get hnb (by omega) hn C hm ?_
    refine step 25 _ _ _ _ _ _ _ ?_
    dsimp [ab_at, gX7_workOf, nX7_workOf, ab_vc, ab_v1, ab_lk, ab_st, ab_en, ab_cst, ab_mc, ab_mS, ab_tk, ab_ns, cR, ab_ia, ab_ra, ab_oa, ab_tg, ab_len, ab_uI, ab_uR]
    refine step 32 _ _ _ _ _ _ _ ?_
    dsimp [ab_at, gX7_workOf, nX7_workOf, ab_vc, ab_v1, ab_lk, ab_st, ab_en, ab_cst, ab_mc, ab_mS, ab_tk, ab_ns, cR, ab_ia, ab_ra, ab_oa, ab_tg, ab_len, ab_uI, ab_uR]
    exact h1 m hm rfl
  · refine step 14 _ _ _ _ _ _ _ ?_
    dsimp [ab_at, gX7_workOf, nX7_workOf, ab_vc, ab_v1, ab_lk, ab_st, ab_en, ab_cst, ab_mc, ab_mS, ab_tk, ab_ns, cR, ab_ia, ab_ra, ab_oa, ab_tg, ab_len, ab_uI, ab_uR]
    refine ⟨fun _ => ?_, fun q => absurd rfl q⟩
    refine step 31 _ _ _ _ _ _ _ ?_
    dsimp [ab_at, gX7_workOf, nX7_workOf, ab_vc, ab_v1, ab_lk, ab_st, ab_en, ab_cst, ab_mc, ab_mS, ab_tk, ab_ns, cR, ab_ia, ab_ra, ab_oa, ab_tg, ab_len, ab_uI, ab_uR]
    refine step 32 _ _ _ _ _ _ _ ?_
    dsimp [ab_at, gX7_workOf, nX7_workOf, ab_vc, ab_v1, ab_lk, ab_st, ab_en, ab_cst, ab_mc, ab_mS, ab_tk, ab_ns, cR, ab_ia, ab_ra, ab_oa, ab_tg, ab_len, ab_uI, ab_uR]
    exact h0 fun m hm e => q (e ▸ ab_rngI hm (by omega))
theorem c_X7_wishOf (hnb : ab_n E < 2 ^ 31) {x : Int32} {n : Nat} (hn : n ≤ 200) (C : cL hi (cR hr) cn 2 n (fun j => (6, j))) (h1 : ∀ m, m < n → x = nI m → Q (some (.inr (some (6, m)))) hi (cR hr) cn) (h0 : (∀ m, m < n → x ≠ nI m) → Q (some (.inr none)) hi (cR hr) cn) : ab_Wm E (d + 4) nX7_wishOf [cO, .inl x] hi (cR hr) cn Q := by
  refine ab_Wm_of gX7_wishOf kX7_wishOf 3 rfl rfl hnb (fun J step drop less => ?_)
  refine step 0 _ _ _ _ _ _ _ ?_
  dsimp [ab_at, gX7_wishOf, nX7_wishOf, ab_vc, ab_v1, ab_lk, ab_st, ab_en, ab_cst, ab_mc, ab_mS, ab_tk, ab_ns, cR, ab_ia, ab_ra, ab_oa, ab_tg, ab_len, ab_uI, ab_uR]
  refine c_AL_size hnb C ?_
  refine step 9 _ _ _ _ _ _ _ ?_
  dsimp [ab_at, gX7_wishOf, nX7_wishOf, ab_vc, ab_v1, ab_lk, ab_st, ab_en, ab_cst, ab_mc, ab_mS, ab_tk, ab_ns, cR, ab_ia, ab_ra, ab_oa, ab_tg, ab_len, ab_uI, ab_uR]
  refine c_X7_within hnb (fun a b => ?_) (fun q => ?_)
  · obtain ⟨m, hm, rfl⟩ := ab_rng (by omega) a b
    refine step 14 _ _ _ _ _ _ _ ?_
    dsimp [ab_at, gX7_wishOf, nX7_wishOf, ab_vc, ab_v1, ab_lk, ab_st, ab_en, ab_cst, ab_mc, ab_mS, ab_tk, ab_ns, cR, ab_ia, ab_ra, ab_oa, ab_tg, ab_len, ab_uI, ab_uR]
    refine ⟨fun q => absurd q (by decide), fun _ => ?_⟩
    refine c_AL_get hnb (by omega) hn C hm ?_
    refine step 25 _ _ _ _ _ _ _ ?_
    dsimp [ab_at, gX7_wishOf, nX7_wishOf, ab_vc, ab_v1, ab_lk, ab_st, ab_en, ab_cst, ab_mc, ab_mS, ab_tk, ab_ns, cR, ab_ia, ab_ra, ab_oa, ab_tg, ab_len, ab_uI, ab_uR]
    refine step 32 _ _ _ _ _ _ _ ?_
    dsimp [ab_at, gX7_wishOf, nX7_wishOf, ab_vc, ab_v1, ab_lk, ab_st, ab_en, ab_cst, ab_mc, ab_mS, ab_tk, ab_ns, cR, ab_ia, ab_ra, ab_oa, ab_tg, ab_len, ab_uI, ab_uR]
    exact h1 m hm rfl
  · refine step 14 _ _ _ _ _ _ _ ?_
    dsimp [ab_at, gX7_wishOf, nX7_wishOf, ab_vc, ab_v1, ab_lk, ab_st, ab_en, ab_cst, ab_mc, ab_mS, ab_tk, ab_ns, cR, ab_ia, ab_ra, ab_oa, ab_tg, ab_len, ab_uI, ab_uR]
    refine ⟨fun _ => ?_, fun q => absurd rfl q⟩
    refine step 31 _ _ _ _ _ _ _ ?_
    dsimp [ab_at, gX7_wishOf, nX7_wishOf, ab_vc, ab_v1, ab_lk, ab_st, ab_en, ab_cst, ab_mc, ab_mS, ab_tk, ab_ns, cR, ab_ia, ab_ra, ab_oa, ab_tg, ab_len, ab_uI, ab_uR]
    refine step 32 _ _ _ _ _ _ _ ?_
    dsimp [ab_at, gX7_wishOf, nX7_wishOf, ab_vc, ab_v1, ab_lk, ab_st, ab_en, ab_cst, ab_mc, ab_mS, ab_tk, ab_ns, cR, ab_ia, ab_ra, ab_oa, ab_tg, ab_len, ab_uI, ab_uR]
    exact h0 fun m hm e => q (e ▸ ab_rngI hm (by omega))
theorem c_X6_isLent (hnb : ab_n E < 2 ^ 31) {w : Nat} (h1 : hi 7 w 5 = nI 1 → hr 7 w 9 ≠ none → Q (some (.inl (nI 1))) hi hr cn) (h0 : ¬ (hi 7 w 5 = nI 1 ∧ hr 7 w 9 ≠ none) → Q (some (.inl (nI 0))) hi hr cn) : ab_Wm E (d + 1) nX6_isLent [.inr (some (7, w))] hi hr cn Q := by
  refine ab_Wm_of gX6_isLent kX6_isLent 2 rfl rfl hnb (fun J step drop less => ?_)
  have r19 : ¬ (hi 7 w 5 = nI 1 ∧ hr 7 w 9 ≠ none) → ∀ L ck cs, J 19 L [] hi hr cn ck cs := fun hn L ck cs => by
    refine step 19 _ _ _ _ _ _ _ ?_
    dsimp [ab_at, gX6_isLent, nX6_isLent, ab_vc, ab_v1, ab_lk, ab_st, ab_en, ab_cst, ab_mc, ab_mS, ab_tk, ab_ns, cR, ab_ia, ab_ra, ab_oa, ab_tg, ab_len, ab_uI, ab_uR]
    refine step 20 _ _ _ _ _ _ _ ?_
    dsimp [ab_at, gX6_isLent, nX6_isLent, ab_vc, ab_v1, ab_lk, ab_st, ab_en, ab_cst, ab_mc, ab_mS, ab_tk, ab_ns, cR, ab_ia, ab_ra, ab_oa, ab_tg, ab_len, ab_uI, ab_uR]
    exact ⟨Or.inl rfl, h0 hn⟩
  refine step 0 _ _ _ _ _ _ _ ?_
  dsimp [ab_at, gX6_isLent, nX6_isLent, ab_vc, ab_v1, ab_lk, ab_st, ab_en, ab_cst, ab_mc, ab_mS, ab_tk, ab_ns, cR, ab_ia, ab_ra, ab_oa, ab_tg, ab_len, ab_uI, ab_uR]
  refine ⟨fun q => r19 (fun z => q z.1) _ _ _, fun q => ⟨fun q2 => r19 (fun z => z.2 q2) _ _ _, fun q2 => ?_⟩⟩
  refine step 20 _ _ _ _ _ _ _ ?_
  dsimp [ab_at, gX6_isLent, nX6_isLent, ab_vc, ab_v1, ab_lk, ab_st, ab_en, ab_cst, ab_mc, ab_mS, ab_tk, ab_ns, cR, ab_ia, ab_ra, ab_oa, ab_tg, ab_len, ab_uI, ab_uR]
  exact ⟨Or.inr rfl, h1 q q2⟩
theorem c_X7_lentWork (hnb : ab_n E < 2 ^ 31) {x : Int32} {n : Nat} (hn : n ≤ 200) (C : cL hi (cR hr) cn 1 n (fun j => (7, j))) (hh : ∀ w, w < n → hi 7 w 5 = nI 1 → hr 7 w 9 ≠ none) (h1 : ∀ w, w < n → x = nI w → hi 7 w 5 = nI 1 → Q (some (.inr (some (7, w)))) hi (cR hr) cn) (h0 : (∀ w, w < n → x = nI w → hi 7 w 5 ≠ nI 1) → Q (some (.inr none)) hi (cR hr) cn) : ab_Wm E (d + 5) nX7_lentWork [cO, .inl x] hi (cR hr) cn Q := by
  refine ab_Wm_of gX7_lentWork kX7_lentWork 3 rfl rfl hnb (fun J step drop less => ?_)
  have r21 : (∀ w, w < n → x = nI w → hi 7 w 5 ≠ nI 1) → ∀ L ck cs, J 21 L [] hi (cR hr) cn ck cs := fun q L ck cs => by
    refine step 21 _ _ _ _ _ _ _ ?_
    dsimp [ab_at, gX7_lentWork, nX7_lentWork, ab_vc, ab_v1, ab_lk, ab_st, ab_en, ab_cst, ab_mc, ab_mS, ab_tk, ab_ns, cR, ab_ia, ab_ra, ab_oa, ab_tg, ab_len, ab_uI, ab_uR]
    refine step 22 _ _ _ _ _ _ _ ?_
    dsimp [ab_at, gX7_lentWork, nX7_lentWork, ab_vc, ab_v1, ab_lk, ab_st, ab_en, ab_cst, ab_mc, ab_mS, ab_tk, ab_ns, cR, ab_ia, ab_ra, ab_oa, ab_tg, ab_len, ab_uI, ab_uR]
    exact h0 q
  refine step 0 _ _ _ _ _ _ _ ?_
  dsimp [ab_at, gX7_lentWork, nX7_lentWork, ab_vc, ab_v1, ab_lk, ab_st, ab_en, ab_cst, ab_mc, ab_mS, ab_tk, ab_ns, cR, ab_ia, ab_ra, ab_oa, ab_tg, ab_len, ab_uI, ab_uR]
  refine c_X7_workOf hnb hn C (fun w hw e => ?_) (fun q => ?_)
  · subst e
    refine step 5 _ _ _ _ _ _ _ ?_
    dsimp [ab_at, gX7_lentWork, nX7_lentWork, ab_vc, ab_v1, ab_lk, ab_st, ab_en, ab_cst, ab_mc, ab_mS, ab_tk, ab_ns, cR, ab_ia, ab_ra, ab_oa, ab_tg, ab_len, ab_uI, ab_uR]
    refine ⟨fun q => (by cases q), fun _ => ?_⟩
    refine c_X6_isLent hnb (fun q1 q2 => ?_) (fun q => ?_)
    · refine step 14 _ _ _ _ _ _ _ ?_
      dsimp [ab_at, gX7_lentWork, nX7_lentWork, ab_vc, ab_v1, ab_lk, ab_st, ab_en, ab_cst, ab_mc, ab_mS, ab_tk, ab_ns, cR, ab_ia, ab_ra, ab_oa, ab_tg, ab_len, ab_uI, ab_uR]
      refine ⟨fun q => absurd q (by decide), fun _ => ?_⟩
      refine step 22 _ _ _ _ _ _ _ ?_
      dsimp [ab_at, gX7_lentWork, nX7_lentWork, ab_vc, ab_v1, ab_lk, ab_st, ab_en, ab_cst, ab_mc, ab_mS, ab_tk, ab_ns, cR, ab_ia, ab_ra, ab_oa, ab_tg, ab_len, ab_uI, ab_uR]
      exact h1 w hw rfl q1
    · refine step 14 _ _ _ _ _ _ _ ?_
      dsimp [ab_at, gX7_lentWork, nX7_lentWork, ab_vc, ab_v1, ab_lk, ab_st, ab_en, ab_cst, ab_mc, ab_mS, ab_tk, ab_ns, cR, ab_ia, ab_ra, ab_oa, ab_tg, ab_len, ab_uI, ab_uR]
      refine ⟨fun _ => r21 (fun w' hw' e q1 => ?_) _ _ _, fun q => absurd rfl q⟩
      have := (nI_eq (by omega) (by omega)).mp e
      subst this
      exact q ⟨q1, hh w hw q1⟩
  · refine step 5 _ _ _ _ _ _ _ ?_
    dsimp [ab_at, gX7_lentWork, nX7_lentWork, ab_vc, ab_v1, ab_lk, ab_st, ab_en, ab_cst, ab_mc, ab_mS, ab_tk, ab_ns, cR, ab_ia, ab_ra, ab_oa, ab_tg, ab_len, ab_uI, ab_uR]
    exact ⟨fun _ => r21 (fun w hw e => absurd e (q w hw)) _ _ _, fun q => absurd rfl q⟩
theorem c_X7_openWish (hnb : ab_n E < 2 ^ 31) {x : Int32} {n : Nat} (hn : n ≤ 200) (C : cL hi (cR hr) cn 2 n (fun j => (6, j))) (h1 : ∀ w, w < n → x = nI w → hi 6 w 3 = nI 0 → Q (some (.inr (some (6, w)))) hi (cR hr) cn) (h0 : (∀ w, w < n → x = nI w → hi 6 w 3 ≠ nI 0) → Q (some (.inr none)) hi (cR hr) cn) : ab_Wm E (d + 5) nX7_openWish [cO, .inl x] hi (cR hr) cn Q := by
  refine ab_Wm_of gX7_openWish kX7_openWish 3 rfl rfl hnb (fun J step drop less => ?_)
  have r21 : (∀ w, w < n → x = nI w → hi 6 w 3 ≠ nI 0) → ∀ L ck cs, J 21 L [] hi (cR hr) cn ck cs := fun q L ck cs => by
    refine step 21 _ _ _ _ _ _ _ ?_
    dsimp [ab_at, gX7_openWish, nX7_openWish, ab_vc, ab_v1, ab_lk, ab_st, ab_en, ab_cst, ab_mc, ab_mS, ab_tk, ab_ns, cR, ab_ia, ab_ra, ab_oa, ab_tg, ab_len, ab_uI, ab_uR]
    refine step 22 _ _ _ _ _ _ _ ?_
    dsimp [ab_at, gX7_openWish, nX7_openWish, ab_vc, ab_v1, ab_lk, ab_st, ab_en, ab_cst, ab_mc, ab_mS, ab_tk, ab_ns, cR, ab_ia, ab_ra, ab_oa, ab_tg, ab_len, ab_uI, ab_uR]
    exact h0 q
  refine step 0 _ _ _ _ _ _ _ ?_
  dsimp [ab_at, gX7_openWish, nX7_openWish, ab_vc, ab_v1, ab_lk, ab_st, ab_en, ab_cst, ab_mc, ab_mS, ab_tk, ab_ns, cR, ab_ia, ab_ra, ab_oa, ab_tg, ab_len, ab_uI, ab_uR]
  refine c_X7_wishOf hnb hn C (fun w hw e => ?_) (fun q => ?_)
  · subst e
    refine step 5 _ _ _ _ _ _ _ ?_
    dsimp [ab_at, gX7_openWish, nX7_openWish, ab_vc, ab_v1, ab_lk, ab_st, ab_en, ab_cst, ab_mc, ab_mS, ab_tk, ab_ns, cR, ab_ia, ab_ra, ab_oa, ab_tg, ab_len, ab_uI, ab_uR]
    refine ⟨fun q => (by cases q), fun _ => ⟨fun q => r21 (fun w' hw' e => ?_) _ _ _, fun q => ?_⟩⟩
    · have := (nI_eq (by omega) (by omega)).mp e
      subst this
      exact q
    · refine step 22 _ _ _ _ _ _ _ ?_
      dsimp [ab_at, gX7_openWish, nX7_openWish, ab_vc, ab_v1, ab_lk, ab_st, ab_en, ab_cst, ab_mc, ab_mS, ab_tk, ab_ns, cR, ab_ia, ab_ra, ab_oa, ab_tg, ab_len, ab_uI, ab_uR]
      exact h1 w hw rfl q
  · refine step 5 _ _ _ _ _ _ _ ?_
    dsimp [ab_at, gX7_openWish, nX7_openWish, ab_vc, ab_v1, ab_lk, ab_st, ab_en, ab_cst, ab_mc, ab_mS, ab_tk, ab_ns, cR, ab_ia, ab_ra, ab_oa, ab_tg, ab_len, ab_uI, ab_uR]
    exact ⟨fun _ => r21 (fun w hw e => absurd e (q w hw)) _ _ _, fun q => absurd rfl q⟩
/-- the rule in force, by its cell -/
def crx : Option Nat → Nat
  | none => 0
  | some k => k + 1
theorem c_X7_ruleOn (hnb : ab_n E < 2 ^ 31) {day : Int32} {n : Nat} (hn : n ≤ 200) (C : cL hi (cR hr) cn 3 n (fun j => (5, j + 1))) (h00 : hi 5 0 0 = -1) (hd : ∀ k, k < n → nI 0 ≤ hi 5 (k + 1) 0) (h : Q (some (.inr (some (5, crx (bR (fun k => hi 5 (k + 1) 0) day n))))) hi (cR hr) cn) : ab_Wm E (d + 4) nX7_ruleOn [cO, .inl day] hi (cR hr) cn Q := by
  refine ab_Wm_of gX7_ruleOn kX7_ruleOn 3 rfl rfl hnb (fun J step drop less => ?_)
  have loop : ∀ m k, k + m = n → J 7 [(0, cO), (1, .inl day), (2, .inr (some (5, crx (bR (fun k => hi 5 (k + 1) 0) day k)))), (3, .inl (nI k))] [] hi (cR hr) cn 0 0 := by
    intro m
    induction m with
    | zero =>
      intro k hk
      have hk : k = n := by omega
      subst hk
      refine step 7 _ _ _ _ _ _ _ ?_
      dsimp [ab_at, gX7_ruleOn, nX7_ruleOn, ab_vc, ab_v1, ab_lk, ab_st, ab_en, ab_cst, ab_mc, ab_mS, ab_tk, ab_ns, cR, ab_ia, ab_ra, ab_oa, ab_tg, ab_len, ab_uI, ab_uR]
      refine c_AL_size hnb C ?_
      refine step 15 _ _ _ _ _ _ _ ?_
      dsimp [ab_at, gX7_ruleOn, nX7_ruleOn, ab_vc, ab_v1, ab_lk, ab_st, ab_en, ab_cst, ab_mc, ab_mS, ab_tk, ab_ns, cR, ab_ia, ab_ra, ab_oa, ab_tg, ab_len, ab_uI, ab_uR]
      refine ⟨fun _ => ?_, fun q => absurd (Int32.le_refl _) q⟩
      refine step 61 _ _ _ _ _ _ _ ?_
      dsimp [ab_at, gX7_ruleOn, nX7_ruleOn, ab_vc, ab_v1, ab_lk, ab_st, ab_en, ab_cst, ab_mc, ab_mS, ab_tk, ab_ns, cR, ab_ia, ab_ra, ab_oa, ab_tg, ab_len, ab_uI, ab_uR]
      exact h
    | succ m ih =>
      intro k hk
      have on : ∀ r v, crx (bR (fun k => hi 5 (k + 1) 0) day (k + 1)) = r → J 55 [(0, cO), (1, .inl day), (2, .inr (some (5, r))), (3, .inl (nI k)), (4, v)] [] hi (cR hr) cn 0 0 := fun r v hr' => by
        subst hr'
        refine step 55 _ _ _ _ _ _ _ ?_
        dsimp [ab_at, gX7_ruleOn, nX7_ruleOn, ab_vc, ab_v1, ab_lk, ab_st, ab_en, ab_cst, ab_mc, ab_mS, ab_tk, ab_ns, cR, ab_ia, ab_ra, ab_oa, ab_tg, ab_len, ab_uI, ab_uR]
        rw [nI_add]
        exact drop _ _ _ _ _ _ _ _ _ ab_dr4 (ih (k + 1) (by omega))
      refine step 7 _ _ _ _ _ _ _ ?_
      dsimp [ab_at, gX7_ruleOn, nX7_ruleOn, ab_vc, ab_v1, ab_lk, ab_st, ab_en, ab_cst, ab_mc, ab_mS, ab_tk, ab_ns, cR, ab_ia, ab_ra, ab_oa, ab_tg, ab_len, ab_uI, ab_uR]
      refine c_AL_size hnb C ?_
      refine step 15 _ _ _ _ _ _ _ ?_
      dsimp [ab_at, gX7_ruleOn, nX7_ruleOn, ab_vc, ab_v1, ab_lk, ab_st, ab_en, ab_cst, ab_mc, ab_mS, ab_tk, ab_ns, cR, ab_ia, ab_ra, ab_oa, ab_tg, ab_len, ab_uI, ab_uR]
      refine ⟨fun q => absurd ((nI_leI (by omega) (by omega)).mp q) (by omega), fun _ => ?_⟩
      refine c_AL_get hnb (by omega) (by omega) C (i := k) (by omega) ?_
      refine step 26 _ _ _ _ _ _ _ ?_
      dsimp [ab_at, gX7_ruleOn, nX7_ruleOn, ab_vc, ab_v1, ab_lk, ab_st, ab_en, ab_cst, ab_mc, ab_mS, ab_tk, ab_ns, cR, ab_ia, ab_ra, ab_oa, ab_tg, ab_len, ab_uI, ab_uR]
      have hdk := hd k (by omega)
      rcases hb : bR (fun k => hi 5 (k + 1) 0) day k with _ | j
      · refine ⟨fun q => on _ _ ?_, fun q => ⟨fun q2 => ?_, fun q2 => on _ _ ?_⟩⟩
        · unfold bR
          rw [hb]
          dsimp only
          rw [if_neg (Int32.not_le.mpr q)]
        · exfalso
          dsimp only [crx] at q2
          rw [h00, Int32.lt_iff_toInt_lt] at q2
          rw [Int32.le_iff_toInt_le] at hdk
          have e1 : (nI 0).toInt = 0 := rfl
          have e2 : (-1 : Int32).toInt = -1 := rfl
          omega
        · unfold bR
          rw [hb]
          dsimp only
          rw [if_pos (Int32.not_lt.mp q)]
          rfl
      · dsimp only [crx]
        refine ⟨fun q => on _ _ ?_, fun q => ⟨fun q2 => on _ _ ?_, fun q2 => on _ _ ?_⟩⟩
        · unfold bR
          rw [hb]
          dsimp only
          rw [if_neg (Int32.not_le.mpr q)]
          rfl
        · unfold bR
          rw [hb]
          dsimp only
          rw [if_pos (Int32.not_lt.mp q), if_neg (Int32.not_le.mpr q2)]
          rfl
        · unfold bR
          rw [hb]
          dsimp only
          rw [if_pos (Int32.not_lt.mp q), if_pos (Int32.not_lt.mp q2)]
          rfl
  refine step 0 _ _ _ _ _ _ _ ?_
  dsimp [ab_at, gX7_ruleOn, nX7_ruleOn, ab_vc, ab_v1, ab_lk, ab_st, ab_en, ab_cst, ab_mc, ab_mS, ab_tk, ab_ns, cR, ab_ia, ab_ra, ab_oa, ab_tg, ab_len, ab_uI, ab_uR]
  exact loop n 0 (by omega)
theorem c_X7_openWishes (hnb : ab_n E < 2 ^ 31) {n : Nat} (hn : n ≤ 200) (C : cL hi (cR hr) cn 2 n (fun j => (6, j))) (h : Q (some (.inl (sumI (fun k => if hi 6 k 3 = nI 0 then nI 1 else nI 0) n))) hi (cR hr) cn) : ab_Wm E (d + 4) nX7_openWishes [cO] hi (cR hr) cn Q := by
  refine ab_Wm_of gX7_openWishes kX7_openWishes 1 rfl rfl hnb (fun J step drop less => ?_)
  have loop : ∀ m k, k + m = n → J 4 [(0, cO), (1, .inl (sumI (fun k => if hi 6 k 3 = nI 0 then nI 1 else nI 0) k)), (2, .inl (nI k))] [] hi (cR hr) cn 0 0 := by
    intro m
    induction m with
    | zero =>
      intro k hk
      have hk : k = n := by omega
      subst hk
      refine step 4 _ _ _ _ _ _ _ ?_
      dsimp [ab_at, gX7_openWishes, nX7_openWishes, ab_vc, ab_v1, ab_lk, ab_st, ab_en, ab_cst, ab_mc, ab_mS, ab_tk, ab_ns, cR, ab_ia, ab_ra, ab_oa, ab_tg, ab_len, ab_uI, ab_uR]
      refine c_AL_size hnb C ?_
      refine step 12 _ _ _ _ _ _ _ ?_
      dsimp [ab_at, gX7_openWishes, nX7_openWishes, ab_vc, ab_v1, ab_lk, ab_st, ab_en, ab_cst, ab_mc, ab_mS, ab_tk, ab_ns, cR, ab_ia, ab_ra, ab_oa, ab_tg, ab_len, ab_uI, ab_uR]
      refine ⟨fun _ => ?_, fun q => absurd (Int32.le_refl _) q⟩
      refine step 41 _ _ _ _ _ _ _ ?_
      dsimp [ab_at, gX7_openWishes, nX7_openWishes, ab_vc, ab_v1, ab_lk, ab_st, ab_en, ab_cst, ab_mc, ab_mS, ab_tk, ab_ns, cR, ab_ia, ab_ra, ab_oa, ab_tg, ab_len, ab_uI, ab_uR]
      exact h
    | succ m ih =>
      intro k hk
      have on : ∀ r, sumI (fun k => if hi 6 k 3 = nI 0 then nI 1 else nI 0) (k + 1) = r → J 35 [(0, cO), (1, .inl r), (2, .inl (nI k))] [] hi (cR hr) cn 0 0 := fun r hr' => by
        subst hr'
        refine step 35 _ _ _ _ _ _ _ ?_
        dsimp [ab_at, gX7_openWishes, nX7_openWishes, ab_vc, ab_v1, ab_lk, ab_st, ab_en, ab_cst, ab_mc, ab_mS, ab_tk, ab_ns, cR, ab_ia, ab_ra, ab_oa, ab_tg, ab_len, ab_uI, ab_uR]
        rw [nI_add]
        exact ih (k + 1) (by omega)
      refine step 4 _ _ _ _ _ _ _ ?_
      dsimp [ab_at, gX7_openWishes, nX7_openWishes, ab_vc, ab_v1, ab_lk, ab_st, ab_en, ab_cst, ab_mc, ab_mS, ab_tk, ab_ns, cR, ab_ia, ab_ra, ab_oa, ab_tg, ab_len, ab_uI, ab_uR]
      refine c_AL_size hnb C ?_
      refine step 12 _ _ _ _ _ _ _ ?_
      dsimp [ab_at, gX7_openWishes, nX7_openWishes, ab_vc, ab_v1, ab_lk, ab_st, ab_en, ab_cst, ab_mc, ab_mS, ab_tk, ab_ns, cR, ab_ia, ab_ra, ab_oa, ab_tg, ab_len, ab_uI, ab_uR]
      refine ⟨fun q => absurd ((nI_leI (by omega) (by omega)).mp q) (by omega), fun _ => ?_⟩
      refine c_AL_get hnb (by omega) (by omega) C (i := k) (by omega) ?_
      refine step 23 _ _ _ _ _ _ _ ?_
      dsimp [ab_at, gX7_openWishes, nX7_openWishes, ab_vc, ab_v1, ab_lk, ab_st, ab_en, ab_cst, ab_mc, ab_mS, ab_tk, ab_ns, cR, ab_ia, ab_ra, ab_oa, ab_tg, ab_len, ab_uI, ab_uR]
      refine ⟨fun q => on _ ?_, fun q => on _ ?_⟩
      · show _ + _ = _
        dsimp only
        rw [if_neg (show ¬ hi 6 k 3 = nI 0 from q)]
        exact Int32.add_zero _
      · show _ + _ = _
        dsimp only
        rw [if_pos (show hi 6 k 3 = nI 0 from q)]
  refine step 0 _ _ _ _ _ _ _ ?_
  dsimp [ab_at, gX7_openWishes, nX7_openWishes, ab_vc, ab_v1, ab_lk, ab_st, ab_en, ab_cst, ab_mc, ab_mS, ab_tk, ab_ns, cR, ab_ia, ab_ra, ab_oa, ab_tg, ab_len, ab_uI, ab_uR]
  exact loop n 0 (by omega)
theorem c_X7_hasOpenWish (hnb : ab_n E < 2 ^ 31) {n g w : Nat} (hn : n ≤ 200) (C : cL hi (cR hr) cn 2 n (fun j => (6, j))) (hr1 : ∀ k, k < n → ∃ h, hr 6 k 1 = some (2, h)) (hr2 : ∀ k, k < n → ∃ h, hr 6 k 2 = some (7, h)) (h1 : ∀ k, k < n → hi 6 k 3 = nI 0 → hr 6 k 1 = some (2, g) → hr 6 k 2 = some (7, w) → Q (some (.inl (nI 1))) hi (cR hr) cn) (h0 : (∀ k, k < n → ¬ (hi 6 k 3 = nI 0 ∧ hr 6 k 1 = some (2, g) ∧ hr 6 k 2 = some (7, w))) → Q (some (.inl (nI 0))) hi (cR hr) cn) : ab_Wm E (d + 4) nX7_hasOpenWish [cO, .inr (some (2, g)), .inr (some (7, w))] hi (cR hr) cn Q := by
  refine ab_Wm_of gX7_hasOpenWish kX7_hasOpenWish 2 rfl rfl hnb (fun J step drop less => ?_)
  have loop : ∀ m k, k + m = n → (∀ j, j < k → ¬ (hi 6 j 3 = nI 0 ∧ hr 6 j 1 = some (2, g) ∧ hr 6 j 2 = some (7, w))) → J 2 [(0, cO), (1, .inr (some (2, g))), (2, .inr (some (7, w))), (3, .inl (nI k))] [] hi (cR hr) cn 0 0 := by
    intro m
    induction m with
    | zero =>
      intro k hk hq
      have hk : k = n := by omega
      subst hk
      refine step 2 _ _ _ _ _ _ _ ?_
      dsimp [ab_at, gX7_hasOpenWish, nX7_hasOpenWish, ab_vc, ab_v1, ab_lk, ab_st, ab_en, ab_cst, ab_mc, ab_mS, ab_tk, ab_ns, cR, ab_ia, ab_ra, ab_oa, ab_tg, ab_len, ab_uI, ab_uR]
      refine c_AL_size hnb C ?_
      refine step 10 _ _ _ _ _ _ _ ?_
      dsimp [ab_at, gX7_hasOpenWish, nX7_hasOpenWish, ab_vc, ab_v1, ab_lk, ab_st, ab_en, ab_cst, ab_mc, ab_mS, ab_tk, ab_ns, cR, ab_ia, ab_ra, ab_oa, ab_tg, ab_len, ab_uI, ab_uR]
      refine ⟨fun _ => ?_, fun q => absurd (Int32.le_refl _) q⟩
      refine step 60 _ _ _ _ _ _ _ ?_
      dsimp [ab_at, gX7_hasOpenWish, nX7_hasOpenWish, ab_vc, ab_v1, ab_lk, ab_st, ab_en, ab_cst, ab_mc, ab_mS, ab_tk, ab_ns, cR, ab_ia, ab_ra, ab_oa, ab_tg, ab_len, ab_uI, ab_uR]
      exact ⟨Or.inl rfl, h0 hq⟩
    | succ m ih =>
      intro k hk hq
      have on : ¬ (hi 6 k 3 = nI 0 ∧ hr 6 k 1 = some (2, g) ∧ hr 6 k 2 = some (7, w)) → ∀ v, J 54 [(0, cO), (1, .inr (some (2, g))), (2, .inr (some (7, w))), (3, .inl (nI k)), (4, v)] [] hi (cR hr) cn 0 0 := fun q v => by
        refine step 54 _ _ _ _ _ _ _ ?_
        dsimp [ab_at, gX7_hasOpenWish, nX7_hasOpenWish, ab_vc, ab_v1, ab_lk, ab_st, ab_en, ab_cst, ab_mc, ab_mS, ab_tk, ab_ns, cR, ab_ia, ab_ra, ab_oa, ab_tg, ab_len, ab_uI, ab_uR]
        rw [nI_add]
        exact drop _ _ _ _ _ _ _ _ _ ab_dr4 (ih (k + 1) (by omega) (lt_s hq q))
      obtain ⟨a, ea⟩ := hr1 k (by omega)
      obtain ⟨b, eb⟩ := hr2 k (by omega)
      refine step 2 _ _ _ _ _ _ _ ?_
      dsimp [ab_at, gX7_hasOpenWish, nX7_hasOpenWish, ab_vc, ab_v1, ab_lk, ab_st, ab_en, ab_cst, ab_mc, ab_mS, ab_tk, ab_ns, cR, ab_ia, ab_ra, ab_oa, ab_tg, ab_len, ab_uI, ab_uR]
      refine c_AL_size hnb C ?_
      refine step 10 _ _ _ _ _ _ _ ?_
      dsimp [ab_at, gX7_hasOpenWish, nX7_hasOpenWish, ab_vc, ab_v1, ab_lk, ab_st, ab_en, ab_cst, ab_mc, ab_mS, ab_tk, ab_ns, cR, ab_ia, ab_ra, ab_oa, ab_tg, ab_len, ab_uI, ab_uR]
      refine ⟨fun q => absurd ((nI_leI (by omega) (by omega)).mp q) (by omega), fun _ => ?_⟩
      refine c_AL_get hnb (by omega) (by omega) C (i := k) (by omega) ?_
      refine step 21 _ _ _ _ _ _ _ ?_
      dsimp [ab_at, gX7_hasOpenWish, nX7_hasOpenWish, ab_vc, ab_v1, ab_lk, ab_st, ab_en, ab_cst, ab_mc, ab_mS, ab_tk, ab_ns, cR, ab_ia, ab_ra, ab_oa, ab_tg, ab_len, ab_uI, ab_uR]
      rw [ea, eb]
      dsimp [ab_at, gX7_hasOpenWish, nX7_hasOpenWish, ab_vc, ab_v1, ab_lk, ab_st, ab_en, ab_cst, ab_mc, ab_mS, ab_tk, ab_ns, cR, ab_ia, ab_ra, ab_oa, ab_tg, ab_len, ab_uI, ab_uR]
      refine ⟨fun q => on (fun z => q z.1) _, fun q => ⟨fun q2 => on (fun z => q2 (ea.symm.trans z.2.1)) _, fun q2 => ⟨fun q3 => on (fun z => q3 (eb.symm.trans z.2.2)) _, fun q3 => ⟨Or.inr rfl, h1 k (by omega) q (ea.trans q2) (eb.trans q3)⟩⟩⟩⟩
  refine step 0 _ _ _ _ _ _ _ ?_
  dsimp [ab_at, gX7_hasOpenWish, nX7_hasOpenWish, ab_vc, ab_v1, ab_lk, ab_st, ab_en, ab_cst, ab_mc, ab_mS, ab_tk, ab_ns, cR, ab_ia, ab_ra, ab_oa, ab_tg, ab_len, ab_uI, ab_uR]
  exact loop n 0 (by omega) (fun _ h => absurd h (by omega))
theorem c_X7_milesFor (hnb : ab_n E < 2 ^ 31) {k g w s t : Nat} (e1 : hr 6 k 1 = some (2, g)) (e2 : hr 6 k 2 = some (7, w)) (hs : s < 4) (ht : t < 4) (e3 : hi 7 w 6 = nI s) (e4 : hi 2 g 1 = nI t) (h : Q (some (.inl (hi 13 s t))) hi (cR hr) cn) : ab_Wm E (d + 1) nX7_milesFor [cO, .inr (some (6, k))] hi (cR hr) cn Q := by
  refine ab_Wm_of gX7_milesFor kX7_milesFor 1 rfl rfl hnb (fun J step drop less => ?_)
  refine step 0 _ _ _ _ _ _ _ ?_
  dsimp [ab_at, gX7_milesFor, nX7_milesFor, ab_vc, ab_v1, ab_lk, ab_st, ab_en, ab_cst, ab_mc, ab_mS, ab_tk, ab_ns, cR, ab_ia, ab_ra, ab_oa, ab_tg, ab_len, ab_uI, ab_uR]
  rw [e1, e2]
  dsimp [ab_at, gX7_milesFor, nX7_milesFor, ab_vc, ab_v1, ab_lk, ab_st, ab_en, ab_cst, ab_mc, ab_mS, ab_tk, ab_ns, cR, ab_ia, ab_ra, ab_oa, ab_tg, ab_len, ab_uI, ab_uR]
  rw [e3, e4, ab_ix_nI (by omega), ab_ix_nI (by omega)]
  exact ⟨ab_inI hs (by omega), ab_inI ht (by omega), h⟩
end CLS1
