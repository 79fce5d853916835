/-! THE LAW'S LOOP -/
theorem lw_more {n i : Nat} (hn : n ≤ 2048) (hi : i ≤ 2048) (h : ¬ nI n - nI 4 < nI i) : i + 4 ≤ n := by
  by_cases q : 4 ≤ n
  · rw [nI_sub q, nI_ltI (by omega) (by omega)] at h
    omega
  · exfalso
    refine h (Int32.lt_of_lt_of_le (b := 0) ?_ (nI_pos' (by omega)))
    rcases (show n = 0 ∨ n = 1 ∨ n = 2 ∨ n = 3 by omega) with rfl | rfl | rfl | rfl <;> decide
section LAW
variable {E : ab_E} {d : Nat} {J : ab_J}
abbrev lw_L (i : Nat) : ab_L := [(0, .inr (some (201, 0))), (1, cO), (2, mO), (3, .inl (nI i))]
/-- the answer -/
abbrev lw_A : ab_Q := fun v _ _ _ => v = some (.inl 1)
abbrev lw_step (E : ab_E) (d : Nat) (J : ab_J) : Prop := ∀ pc L st hi hr cn ck cs, ab_vc E d 1 lw_A J (ab_at gL_law pc) pc L st hi hr cn ck cs → J pc L st hi hr cn ck cs
/-- what a case of the switch has: the ints after i are there, and a way back to the loop's head -/
abbrev lw_go (E : ab_E) (J : ab_J) (i n : Nat) : Prop := ∀ hi hr cn ck cs, Inv hi hr cn → 3 * n ≤ ck → 280 * n ≤ cs → J 825 (lw_L i) [] hi hr cn ck cs

theorem lc_far (hnb : ab_n E < 2 ^ 31) (step : lw_step E (d + 20) J) {i n : Nat} (hi4 : i + 4 ≤ ab_n E) (hn : ab_n E ≤ 2048) (go : lw_go E J i n) {hi : ab_I} {hr : ab_R} {cn : ab_C} {ck cs : Nat} (I : Inv hi hr cn) (hck : 3 * (n + 1) ≤ ck) (hcs : 280 * (n + 1) ≤ cs) : J 140 (lw_L i) [] hi hr cn ck cs := by
  have a1 : ab_in (nI i + nI 1) (ab_n E) := ⟨i + 1, by omega, by omega, nI_add i 1⟩
  have a2 : ab_in (nI i + nI 2) (ab_n E) := ⟨i + 2, by omega, by omega, nI_add i 2⟩
  have a3 : ab_in (nI i + nI 3) (ab_n E) := ⟨i + 3, by omega, by omega, nI_add i 3⟩
  obtain ⟨nR, nH, nW, nV, nL, I⟩ := I
  refine step 140 _ _ _ _ _ _ _ ?_
  rw [aL_140]
  dsimp [ab_vc, ab_v1, ab_lk, ab_st, ab_en, ab_cst, ab_mc, ab_mS, ab_tk, ab_ns]
  refine ⟨a1, ?_⟩
  refine ⟨a2, ?_⟩
  refine ⟨a3, ?_⟩
  refine st_far hnb I _ (fun y hi1 hr1 cn1 hm => ?_)
  refine step 159 _ _ _ _ _ _ _ ?_
  rw [aL_159]
  dsimp [ab_vc, ab_v1, ab_lk, ab_st, ab_en, ab_cst, ab_mc, ab_mS, ab_tk, ab_ns]
  refine ⟨a1, ?_⟩
  refine ⟨a2, ?_⟩
  refine ⟨a3, ?_⟩
  refine hm _ (fun hi2 hr2 cn2 I2 => ?_)
  refine step 178 _ _ _ _ _ _ _ ?_
  rw [aL_178]
  dsimp [ab_vc, ab_v1, ab_lk, ab_st, ab_en, ab_cst, ab_mc, ab_mS, ab_tk, ab_ns]
  exact ⟨fun _ => go _ _ _ _ _ I2 (by omega) (by omega), fun q => absurd rfl q⟩
theorem lc_home (hnb : ab_n E < 2 ^ 31) (step : lw_step E (d + 20) J) {i n : Nat} (hi4 : i + 4 ≤ ab_n E) (hn : ab_n E ≤ 2048) (go : lw_go E J i n) {hi : ab_I} {hr : ab_R} {cn : ab_C} {ck cs : Nat} (I : Inv hi hr cn) (hck : 3 * (n + 1) ≤ ck) (hcs : 280 * (n + 1) ≤ cs) : J 183 (lw_L i) [] hi hr cn ck cs := by
  have a1 : ab_in (nI i + nI 1) (ab_n E) := ⟨i + 1, by omega, by omega, nI_add i 1⟩
  have a2 : ab_in (nI i + nI 2) (ab_n E) := ⟨i + 2, by omega, by omega, nI_add i 2⟩
  have a3 : ab_in (nI i + nI 3) (ab_n E) := ⟨i + 3, by omega, by omega, nI_add i 3⟩
  obtain ⟨nR, nH, nW, nV, nL, I⟩ := I
  refine step 183 _ _ _ _ _ _ _ ?_
  rw [aL_183]
  dsimp [ab_vc, ab_v1, ab_lk, ab_st, ab_en, ab_cst, ab_mc, ab_mS, ab_tk, ab_ns]
  refine ⟨a1, ?_⟩
  refine ⟨a2, ?_⟩
  refine ab_if (by omega) (ab_if (by omega) ?_)
  refine st_home hnb I _ (fun y hi1 hr1 cn1 hm => ?_)
  refine step 197 _ _ _ _ _ _ _ ?_
  rw [aL_197]
  dsimp [ab_vc, ab_v1, ab_lk, ab_st, ab_en, ab_cst, ab_mc, ab_mS, ab_tk, ab_ns]
  refine ⟨a1, ?_⟩
  refine ⟨a2, ?_⟩
  refine hm _ (fun hi2 hr2 cn2 I2 => ?_)
  refine step 211 _ _ _ _ _ _ _ ?_
  rw [aL_211]
  dsimp [ab_vc, ab_v1, ab_lk, ab_st, ab_en, ab_cst, ab_mc, ab_mS, ab_tk, ab_ns]
  exact ⟨fun _ => go _ _ _ _ _ I2 (by omega) (by omega), fun q => absurd rfl q⟩
theorem lc_work (hnb : ab_n E < 2 ^ 31) (step : lw_step E (d + 20) J) {i n : Nat} (hi4 : i + 4 ≤ ab_n E) (hn : ab_n E ≤ 2048) (go : lw_go E J i n) {hi : ab_I} {hr : ab_R} {cn : ab_C} {ck cs : Nat} (I : Inv hi hr cn) (hck : 3 * (n + 1) ≤ ck) (hcs : 280 * (n + 1) ≤ cs) : J 216 (lw_L i) [] hi hr cn ck cs := by
  have a1 : ab_in (nI i + nI 1) (ab_n E) := ⟨i + 1, by omega, by omega, nI_add i 1⟩
  have a2 : ab_in (nI i + nI 2) (ab_n E) := ⟨i + 2, by omega, by omega, nI_add i 2⟩
  have a3 : ab_in (nI i + nI 3) (ab_n E) := ⟨i + 3, by omega, by omega, nI_add i 3⟩
  obtain ⟨nR, nH, nW, nV, nL, I⟩ := I
  refine step 216 _ _ _ _ _ _ _ ?_
  rw [aL_216]
  dsimp [ab_vc, ab_v1, ab_lk, ab_st, ab_en, ab_cst, ab_mc, ab_mS, ab_tk, ab_ns]
  refine ⟨a1, ?_⟩
  refine ⟨a2, ?_⟩
  refine ⟨a3, ?_⟩
  refine ab_if (by omega) (ab_if (by omega) ?_)
  refine st_work hnb I _ (fun y hi1 hr1 cn1 hm => ?_)
  refine step 235 _ _ _ _ _ _ _ ?_
  rw [aL_235]
  dsimp [ab_vc, ab_v1, ab_lk, ab_st, ab_en, ab_cst, ab_mc, ab_mS, ab_tk, ab_ns]
  refine ⟨a1, ?_⟩
  refine ⟨a2, ?_⟩
  refine ⟨a3, ?_⟩
  refine hm _ (fun hi2 hr2 cn2 I2 => ?_)
  refine step 254 _ _ _ _ _ _ _ ?_
  rw [aL_254]
  dsimp [ab_vc, ab_v1, ab_lk, ab_st, ab_en, ab_cst, ab_mc, ab_mS, ab_tk, ab_ns]
  exact ⟨fun _ => go _ _ _ _ _ I2 (by omega) (by omega), fun q => absurd rfl q⟩
theorem lc_rule (hnb : ab_n E < 2 ^ 31) (step : lw_step E (d + 20) J) {i n : Nat} (hi4 : i + 4 ≤ ab_n E) (hn : ab_n E ≤ 2048) (go : lw_go E J i n) {hi : ab_I} {hr : ab_R} {cn : ab_C} {ck cs : Nat} (I : Inv hi hr cn) (hck : 3 * (n + 1) ≤ ck) (hcs : 280 * (n + 1) ≤ cs) : J 259 (lw_L i) [] hi hr cn ck cs := by
  have a1 : ab_in (nI i + nI 1) (ab_n E) := ⟨i + 1, by omega, by omega, nI_add i 1⟩
  have a2 : ab_in (nI i + nI 2) (ab_n E) := ⟨i + 2, by omega, by omega, nI_add i 2⟩
  have a3 : ab_in (nI i + nI 3) (ab_n E) := ⟨i + 3, by omega, by omega, nI_add i 3⟩
  obtain ⟨nR, nH, nW, nV, nL, I⟩ := I
  refine step 259 _ _ _ _ _ _ _ ?_
  rw [aL_259]
  dsimp [ab_vc, ab_v1, ab_lk, ab_st, ab_en, ab_cst, ab_mc, ab_mS, ab_tk, ab_ns]
  refine ⟨a1, ?_⟩
  refine ⟨a2, ?_⟩
  refine ⟨a3, ?_⟩
  refine ab_if (by omega) (ab_if (by omega) ?_)
  refine st_rule hnb I _ (fun y hi1 hr1 cn1 hm => ?_)
  refine step 278 _ _ _ _ _ _ _ ?_
  rw [aL_278]
  dsimp [ab_vc, ab_v1, ab_lk, ab_st, ab_en, ab_cst, ab_mc, ab_mS, ab_tk, ab_ns]
  refine ⟨a1, ?_⟩
  refine ⟨a2, ?_⟩
  refine ⟨a3, ?_⟩
  refine hm _ (fun hi2 hr2 cn2 I2 => ?_)
  refine step 297 _ _ _ _ _ _ _ ?_
  rw [aL_297]
  dsimp [ab_vc, ab_v1, ab_lk, ab_st, ab_en, ab_cst, ab_mc, ab_mS, ab_tk, ab_ns]
  exact ⟨fun _ => go _ _ _ _ _ I2 (by omega) (by omega), fun q => absurd rfl q⟩
theorem lc_go (hnb : ab_n E < 2 ^ 31) (step : lw_step E (d + 20) J) {i n : Nat} (hi4 : i + 4 ≤ ab_n E) (hn : ab_n E ≤ 2048) (go : lw_go E J i n) {hi : ab_I} {hr : ab_R} {cn : ab_C} {ck cs : Nat} (I : Inv hi hr cn) (hck : 3 * (n + 1) ≤ ck) (hcs : 280 * (n + 1) ≤ cs) : J 302 (lw_L i) [] hi hr cn ck cs := by
  have a1 : ab_in (nI i + nI 1) (ab_n E) := ⟨i + 1, by omega, by omega, nI_add i 1⟩
  have a2 : ab_in (nI i + nI 2) (ab_n E) := ⟨i + 2, by omega, by omega, nI_add i 2⟩
  have a3 : ab_in (nI i + nI 3) (ab_n E) := ⟨i + 3, by omega, by omega, nI_add i 3⟩
  obtain ⟨nR, nH, nW, nV, nL, I⟩ := I
  refine step 302 _ _ _ _ _ _ _ ?_
  rw [aL_302]
  dsimp [ab_vc, ab_v1, ab_lk, ab_st, ab_en, ab_cst, ab_mc, ab_mS, ab_tk, ab_ns]
  refine ⟨a1, ?_⟩
  refine st_go hnb I _ (fun y hi1 hr1 cn1 hm => ?_)
  refine step 311 _ _ _ _ _ _ _ ?_
  rw [aL_311]
  dsimp [ab_vc, ab_v1, ab_lk, ab_st, ab_en, ab_cst, ab_mc, ab_mS, ab_tk, ab_ns]
  refine ⟨a1, ?_⟩
  refine hm _ (fun hi2 hr2 cn2 I2 => ?_)
  refine step 320 _ _ _ _ _ _ _ ?_
  rw [aL_320]
  dsimp [ab_vc, ab_v1, ab_lk, ab_st, ab_en, ab_cst, ab_mc, ab_mS, ab_tk, ab_ns]
  exact ⟨fun _ => go _ _ _ _ _ I2 (by omega) (by omega), fun q => absurd rfl q⟩
theorem lc_wish (hnb : ab_n E < 2 ^ 31) (step : lw_step E (d + 20) J) {i n : Nat} (hi4 : i + 4 ≤ ab_n E) (hn : ab_n E ≤ 2048) (go : lw_go E J i n) {hi : ab_I} {hr : ab_R} {cn : ab_C} {ck cs : Nat} (I : Inv hi hr cn) (hck : 3 * (n + 1) ≤ ck) (hcs : 280 * (n + 1) ≤ cs) : J 325 (lw_L i) [] hi hr cn ck cs := by
  have a1 : ab_in (nI i + nI 1) (ab_n E) := ⟨i + 1, by omega, by omega, nI_add i 1⟩
  have a2 : ab_in (nI i + nI 2) (ab_n E) := ⟨i + 2, by omega, by omega, nI_add i 2⟩
  have a3 : ab_in (nI i + nI 3) (ab_n E) := ⟨i + 3, by omega, by omega, nI_add i 3⟩
  obtain ⟨nR, nH, nW, nV, nL, I⟩ := I
  refine step 325 _ _ _ _ _ _ _ ?_
  rw [aL_325]
  dsimp [ab_vc, ab_v1, ab_lk, ab_st, ab_en, ab_cst, ab_mc, ab_mS, ab_tk, ab_ns]
  refine ⟨a1, ?_⟩
  refine ⟨a2, ?_⟩
  refine ab_if (by omega) (ab_if (by omega) ?_)
  refine st_wish hnb I _ (fun y hi1 hr1 cn1 hm => ?_)
  refine step 339 _ _ _ _ _ _ _ ?_
  rw [aL_339]
  dsimp [ab_vc, ab_v1, ab_lk, ab_st, ab_en, ab_cst, ab_mc, ab_mS, ab_tk, ab_ns]
  refine ⟨a1, ?_⟩
  refine ⟨a2, ?_⟩
  refine hm _ (fun hi2 hr2 cn2 I2 => ?_)
  refine step 353 _ _ _ _ _ _ _ ?_
  rw [aL_353]
  dsimp [ab_vc, ab_v1, ab_lk, ab_st, ab_en, ab_cst, ab_mc, ab_mS, ab_tk, ab_ns]
  exact ⟨fun _ => go _ _ _ _ _ I2 (by omega) (by omega), fun q => absurd rfl q⟩
theorem lc_unwish (hnb : ab_n E < 2 ^ 31) (step : lw_step E (d + 20) J) {i n : Nat} (hi4 : i + 4 ≤ ab_n E) (hn : ab_n E ≤ 2048) (go : lw_go E J i n) {hi : ab_I} {hr : ab_R} {cn : ab_C} {ck cs : Nat} (I : Inv hi hr cn) (hck : 3 * (n + 1) ≤ ck) (hcs : 280 * (n + 1) ≤ cs) : J 358 (lw_L i) [] hi hr cn ck cs := by
  have a1 : ab_in (nI i + nI 1) (ab_n E) := ⟨i + 1, by omega, by omega, nI_add i 1⟩
  have a2 : ab_in (nI i + nI 2) (ab_n E) := ⟨i + 2, by omega, by omega, nI_add i 2⟩
  have a3 : ab_in (nI i + nI 3) (ab_n E) := ⟨i + 3, by omega, by omega, nI_add i 3⟩
  obtain ⟨nR, nH, nW, nV, nL, I⟩ := I
  refine step 358 _ _ _ _ _ _ _ ?_
  rw [aL_358]
  dsimp [ab_vc, ab_v1, ab_lk, ab_st, ab_en, ab_cst, ab_mc, ab_mS, ab_tk, ab_ns]
  refine ⟨a1, ?_⟩
  refine st_unwish hnb I _ (fun y hi1 hr1 cn1 hm => ?_)
  refine step 367 _ _ _ _ _ _ _ ?_
  rw [aL_367]
  dsimp [ab_vc, ab_v1, ab_lk, ab_st, ab_en, ab_cst, ab_mc, ab_mS, ab_tk, ab_ns]
  refine ⟨a1, ?_⟩
  refine hm _ (fun hi2 hr2 cn2 I2 => ?_)
  refine step 376 _ _ _ _ _ _ _ ?_
  rw [aL_376]
  dsimp [ab_vc, ab_v1, ab_lk, ab_st, ab_en, ab_cst, ab_mc, ab_mS, ab_tk, ab_ns]
  exact ⟨fun _ => go _ _ _ _ _ I2 (by omega) (by omega), fun q => absurd rfl q⟩
theorem lc_rank (hnb : ab_n E < 2 ^ 31) (step : lw_step E (d + 20) J) {i n : Nat} (hi4 : i + 4 ≤ ab_n E) (hn : ab_n E ≤ 2048) (go : lw_go E J i n) {hi : ab_I} {hr : ab_R} {cn : ab_C} {ck cs : Nat} (I : Inv hi hr cn) (hck : 3 * (n + 1) ≤ ck) (hcs : 280 * (n + 1) ≤ cs) : J 381 (lw_L i) [] hi hr cn ck cs := by
  have a1 : ab_in (nI i + nI 1) (ab_n E) := ⟨i + 1, by omega, by omega, nI_add i 1⟩
  have a2 : ab_in (nI i + nI 2) (ab_n E) := ⟨i + 2, by omega, by omega, nI_add i 2⟩
  have a3 : ab_in (nI i + nI 3) (ab_n E) := ⟨i + 3, by omega, by omega, nI_add i 3⟩
  obtain ⟨nR, nH, nW, nV, nL, I⟩ := I
  refine step 381 _ _ _ _ _ _ _ ?_
  rw [aL_381]
  dsimp [ab_vc, ab_v1, ab_lk, ab_st, ab_en, ab_cst, ab_mc, ab_mS, ab_tk, ab_ns]
  refine ⟨a1, ?_⟩
  refine st_rank hnb I _ (fun y hi1 hr1 cn1 hm => ?_)
  refine step 390 _ _ _ _ _ _ _ ?_
  rw [aL_390]
  dsimp [ab_vc, ab_v1, ab_lk, ab_st, ab_en, ab_cst, ab_mc, ab_mS, ab_tk, ab_ns]
  refine ⟨a1, ?_⟩
  refine hm _ (fun hi2 hr2 cn2 I2 => ?_)
  refine step 399 _ _ _ _ _ _ _ ?_
  rw [aL_399]
  dsimp [ab_vc, ab_v1, ab_lk, ab_st, ab_en, ab_cst, ab_mc, ab_mS, ab_tk, ab_ns]
  exact ⟨fun _ => go _ _ _ _ _ I2 (by omega) (by omega), fun q => absurd rfl q⟩
theorem lc_next (hnb : ab_n E < 2 ^ 31) (step : lw_step E (d + 20) J) {i n : Nat} (hi4 : i + 4 ≤ ab_n E) (hn : ab_n E ≤ 2048) (go : lw_go E J i n) {hi : ab_I} {hr : ab_R} {cn : ab_C} {ck cs : Nat} (I : Inv hi hr cn) (hck : 3 * (n + 1) ≤ ck) (hcs : 280 * (n + 1) ≤ cs) : J 404 (lw_L i) [] hi hr cn ck cs := by
  have a1 : ab_in (nI i + nI 1) (ab_n E) := ⟨i + 1, by omega, by omega, nI_add i 1⟩
  have a2 : ab_in (nI i + nI 2) (ab_n E) := ⟨i + 2, by omega, by omega, nI_add i 2⟩
  have a3 : ab_in (nI i + nI 3) (ab_n E) := ⟨i + 3, by omega, by omega, nI_add i 3⟩
  obtain ⟨nR, nH, nW, nV, nL, I⟩ := I
  refine step 404 _ _ _ _ _ _ _ ?_
  rw [aL_404]
  dsimp [ab_vc, ab_v1, ab_lk, ab_st, ab_en, ab_cst, ab_mc, ab_mS, ab_tk, ab_ns]
  refine ⟨a1, ?_⟩
  refine st_next hnb I _ (fun y hi1 hr1 cn1 hm => ?_)
  refine step 413 _ _ _ _ _ _ _ ?_
  rw [aL_413]
  dsimp [ab_vc, ab_v1, ab_lk, ab_st, ab_en, ab_cst, ab_mc, ab_mS, ab_tk, ab_ns]
  refine ⟨a1, ?_⟩
  refine hm _ (fun hi2 hr2 cn2 I2 => ?_)
  refine step 422 _ _ _ _ _ _ _ ?_
  rw [aL_422]
  dsimp [ab_vc, ab_v1, ab_lk, ab_st, ab_en, ab_cst, ab_mc, ab_mS, ab_tk, ab_ns]
  exact ⟨fun _ => go _ _ _ _ _ I2 (by omega) (by omega), fun q => absurd rfl q⟩
theorem lc_offer (hnb : ab_n E < 2 ^ 31) (step : lw_step E (d + 20) J) {i n : Nat} (hi4 : i + 4 ≤ ab_n E) (hn : ab_n E ≤ 2048) (go : lw_go E J i n) {hi : ab_I} {hr : ab_R} {cn : ab_C} {ck cs : Nat} (I : Inv hi hr cn) (hck : 3 * (n + 1) ≤ ck) (hcs : 280 * (n + 1) ≤ cs) : J 427 (lw_L i) [] hi hr cn ck cs := by
  have a1 : ab_in (nI i + nI 1) (ab_n E) := ⟨i + 1, by omega, by omega, nI_add i 1⟩
  have a2 : ab_in (nI i + nI 2) (ab_n E) := ⟨i + 2, by omega, by omega, nI_add i 2⟩
  have a3 : ab_in (nI i + nI 3) (ab_n E) := ⟨i + 3, by omega, by omega, nI_add i 3⟩
  obtain ⟨nR, nH, nW, nV, nL, I⟩ := I
  have fin : ∀ z : Int32, (∀ y hi1 hr1 cn1, J 468 (lw_L i) [.inl z, .inl (ab_xs E (ab_ix (nI i + nI 1))), mO, .inl y] hi1 hr1 cn1 ck cs → J 449 (lw_L i) [.inl y] hi1 hr1 cn1 ck cs) → J 446 (lw_L i) [.inl z, .inl (ab_xs E (ab_ix (nI i + nI 1))), cO] hi hr cn ck cs := fun z hz => by
    refine step 446 _ _ _ _ _ _ _ ?_
    rw [aL_446]
    dsimp [ab_vc, ab_v1, ab_lk, ab_st, ab_en, ab_cst, ab_mc, ab_mS, ab_tk, ab_ns]
    refine st_offer hnb I _ (fun y hi1 hr1 cn1 hm => ?_)
    refine hz y hi1 hr1 cn1 ?_
    refine step 468 _ _ _ _ _ _ _ ?_
    rw [aL_468]
    dsimp [ab_vc, ab_v1, ab_lk, ab_st, ab_en, ab_cst, ab_mc, ab_mS, ab_tk, ab_ns]
    refine hm _ (fun hi2 hr2 cn2 I2 => ?_)
    refine step 471 _ _ _ _ _ _ _ ?_
    rw [aL_471]
    dsimp [ab_vc, ab_v1, ab_lk, ab_st, ab_en, ab_cst, ab_mc, ab_mS, ab_tk, ab_ns]
    exact ⟨fun _ => go _ _ _ _ _ I2 (by omega) (by omega), fun q => absurd rfl q⟩
  by_cases q : ab_xs E (ab_ix (nI i + nI 2)) = 0
  · refine step 427 _ _ _ _ _ _ _ ?_
    rw [aL_427]
    dsimp [ab_vc, ab_v1, ab_lk, ab_st, ab_en, ab_cst, ab_mc, ab_mS, ab_tk, ab_ns]
    refine ⟨a1, a2, fun _ => ?_, fun z => absurd q z⟩
    refine step 445 _ _ _ _ _ _ _ ?_
    rw [aL_445]
    dsimp [ab_vc, ab_v1, ab_lk, ab_st, ab_en, ab_cst, ab_mc, ab_mS, ab_tk, ab_ns]
    refine fin (nI 0) (fun y hi1 hr1 cn1 k => ?_)
    refine step 449 _ _ _ _ _ _ _ ?_
    rw [aL_449]
    dsimp [ab_vc, ab_v1, ab_lk, ab_st, ab_en, ab_cst, ab_mc, ab_mS, ab_tk, ab_ns]
    refine ⟨a1, a2, fun _ => ?_, fun z => absurd q z⟩
    refine step 467 _ _ _ _ _ _ _ ?_
    rw [aL_467]
    dsimp [ab_vc, ab_v1, ab_lk, ab_st, ab_en, ab_cst, ab_mc, ab_mS, ab_tk, ab_ns]
    exact k
  · refine step 427 _ _ _ _ _ _ _ ?_
    rw [aL_427]
    dsimp [ab_vc, ab_v1, ab_lk, ab_st, ab_en, ab_cst, ab_mc, ab_mS, ab_tk, ab_ns]
    refine ⟨a1, a2, fun z => absurd z q, fun _ => ?_⟩
    refine fin (nI 1) (fun y hi1 hr1 cn1 k => ?_)
    refine step 449 _ _ _ _ _ _ _ ?_
    rw [aL_449]
    dsimp [ab_vc, ab_v1, ab_lk, ab_st, ab_en, ab_cst, ab_mc, ab_mS, ab_tk, ab_ns]
    exact ⟨a1, a2, fun z => absurd z q, fun _ => k⟩
theorem lc_back (hnb : ab_n E < 2 ^ 31) (step : lw_step E (d + 20) J) {i n : Nat} (hi4 : i + 4 ≤ ab_n E) (hn : ab_n E ≤ 2048) (go : lw_go E J i n) {hi : ab_I} {hr : ab_R} {cn : ab_C} {ck cs : Nat} (I : Inv hi hr cn) (hck : 3 * (n + 1) ≤ ck) (hcs : 280 * (n + 1) ≤ cs) : J 476 (lw_L i) [] hi hr cn ck cs := by
  have a1 : ab_in (nI i + nI 1) (ab_n E) := ⟨i + 1, by omega, by omega, nI_add i 1⟩
  have a2 : ab_in (nI i + nI 2) (ab_n E) := ⟨i + 2, by omega, by omega, nI_add i 2⟩
  have a3 : ab_in (nI i + nI 3) (ab_n E) := ⟨i + 3, by omega, by omega, nI_add i 3⟩
  obtain ⟨nR, nH, nW, nV, nL, I⟩ := I
  refine step 476 _ _ _ _ _ _ _ ?_
  rw [aL_476]
  dsimp [ab_vc, ab_v1, ab_lk, ab_st, ab_en, ab_cst, ab_mc, ab_mS, ab_tk, ab_ns]
  refine ⟨a1, ?_⟩
  refine st_back hnb I _ (fun y hi1 hr1 cn1 hm => ?_)
  refine step 485 _ _ _ _ _ _ _ ?_
  rw [aL_485]
  dsimp [ab_vc, ab_v1, ab_lk, ab_st, ab_en, ab_cst, ab_mc, ab_mS, ab_tk, ab_ns]
  refine ⟨a1, ?_⟩
  refine hm _ (fun hi2 hr2 cn2 I2 => ?_)
  refine step 494 _ _ _ _ _ _ _ ?_
  rw [aL_494]
  dsimp [ab_vc, ab_v1, ab_lk, ab_st, ab_en, ab_cst, ab_mc, ab_mS, ab_tk, ab_ns]
  exact ⟨fun _ => go _ _ _ _ _ I2 (by omega) (by omega), fun q => absurd rfl q⟩
theorem lc_sell (hnb : ab_n E < 2 ^ 31) (step : lw_step E (d + 20) J) {i n : Nat} (hi4 : i + 4 ≤ ab_n E) (hn : ab_n E ≤ 2048) (go : lw_go E J i n) {hi : ab_I} {hr : ab_R} {cn : ab_C} {ck cs : Nat} (I : Inv hi hr cn) (hck : 3 * (n + 1) ≤ ck) (hcs : 280 * (n + 1) ≤ cs) : J 499 (lw_L i) [] hi hr cn ck cs := by
  have a1 : ab_in (nI i + nI 1) (ab_n E) := ⟨i + 1, by omega, by omega, nI_add i 1⟩
  have a2 : ab_in (nI i + nI 2) (ab_n E) := ⟨i + 2, by omega, by omega, nI_add i 2⟩
  have a3 : ab_in (nI i + nI 3) (ab_n E) := ⟨i + 3, by omega, by omega, nI_add i 3⟩
  obtain ⟨nR, nH, nW, nV, nL, I⟩ := I
  refine step 499 _ _ _ _ _ _ _ ?_
  rw [aL_499]
  dsimp [ab_vc, ab_v1, ab_lk, ab_st, ab_en, ab_cst, ab_mc, ab_mS, ab_tk, ab_ns]
  refine ⟨a1, ?_⟩
  refine st_sell hnb I _ (fun y hi1 hr1 cn1 hm => ?_)
  refine step 508 _ _ _ _ _ _ _ ?_
  rw [aL_508]
  dsimp [ab_vc, ab_v1, ab_lk, ab_st, ab_en, ab_cst, ab_mc, ab_mS, ab_tk, ab_ns]
  refine ⟨a1, ?_⟩
  refine hm _ (fun hi2 hr2 cn2 I2 => ?_)
  refine step 517 _ _ _ _ _ _ _ ?_
  rw [aL_517]
  dsimp [ab_vc, ab_v1, ab_lk, ab_st, ab_en, ab_cst, ab_mc, ab_mS, ab_tk, ab_ns]
  exact ⟨fun _ => go _ _ _ _ _ I2 (by omega) (by omega), fun q => absurd rfl q⟩
theorem lc_lose (hnb : ab_n E < 2 ^ 31) (step : lw_step E (d + 20) J) {i n : Nat} (hi4 : i + 4 ≤ ab_n E) (hn : ab_n E ≤ 2048) (go : lw_go E J i n) {hi : ab_I} {hr : ab_R} {cn : ab_C} {ck cs : Nat} (I : Inv hi hr cn) (hck : 3 * (n + 1) ≤ ck) (hcs : 280 * (n + 1) ≤ cs) : J 522 (lw_L i) [] hi hr cn ck cs := by
  have a1 : ab_in (nI i + nI 1) (ab_n E) := ⟨i + 1, by omega, by omega, nI_add i 1⟩
  have a2 : ab_in (nI i + nI 2) (ab_n E) := ⟨i + 2, by omega, by omega, nI_add i 2⟩
  have a3 : ab_in (nI i + nI 3) (ab_n E) := ⟨i + 3, by omega, by omega, nI_add i 3⟩
  obtain ⟨nR, nH, nW, nV, nL, I⟩ := I
  refine step 522 _ _ _ _ _ _ _ ?_
  rw [aL_522]
  dsimp [ab_vc, ab_v1, ab_lk, ab_st, ab_en, ab_cst, ab_mc, ab_mS, ab_tk, ab_ns]
  refine ⟨a1, ?_⟩
  refine st_lose hnb I _ (fun y hi1 hr1 cn1 hm => ?_)
  refine step 531 _ _ _ _ _ _ _ ?_
  rw [aL_531]
  dsimp [ab_vc, ab_v1, ab_lk, ab_st, ab_en, ab_cst, ab_mc, ab_mS, ab_tk, ab_ns]
  refine ⟨a1, ?_⟩
  refine hm _ (fun hi2 hr2 cn2 I2 => ?_)
  refine step 540 _ _ _ _ _ _ _ ?_
  rw [aL_540]
  dsimp [ab_vc, ab_v1, ab_lk, ab_st, ab_en, ab_cst, ab_mc, ab_mS, ab_tk, ab_ns]
  exact ⟨fun _ => go _ _ _ _ _ I2 (by omega) (by omega), fun q => absurd rfl q⟩
theorem lc_pay (hnb : ab_n E < 2 ^ 31) (step : lw_step E (d + 20) J) {i n : Nat} (hi4 : i + 4 ≤ ab_n E) (hn : ab_n E ≤ 2048) (go : lw_go E J i n) {hi : ab_I} {hr : ab_R} {cn : ab_C} {ck cs : Nat} (I : Inv hi hr cn) (hck : 3 * (n + 1) ≤ ck) (hcs : 280 * (n + 1) ≤ cs) : J 545 (lw_L i) [] hi hr cn ck cs := by
  have a1 : ab_in (nI i + nI 1) (ab_n E) := ⟨i + 1, by omega, by omega, nI_add i 1⟩
  have a2 : ab_in (nI i + nI 2) (ab_n E) := ⟨i + 2, by omega, by omega, nI_add i 2⟩
  have a3 : ab_in (nI i + nI 3) (ab_n E) := ⟨i + 3, by omega, by omega, nI_add i 3⟩
  obtain ⟨nR, nH, nW, nV, nL, I⟩ := I
  refine step 545 _ _ _ _ _ _ _ ?_
  rw [aL_545]
  dsimp [ab_vc, ab_v1, ab_lk, ab_st, ab_en, ab_cst, ab_mc, ab_mS, ab_tk, ab_ns]
  refine ⟨a1, ?_⟩
  refine ⟨a2, ?_⟩
  refine st_pay hnb I _ (fun y hi1 hr1 cn1 hm => ?_)
  refine step 559 _ _ _ _ _ _ _ ?_
  rw [aL_559]
  dsimp [ab_vc, ab_v1, ab_lk, ab_st, ab_en, ab_cst, ab_mc, ab_mS, ab_tk, ab_ns]
  refine ⟨a1, ?_⟩
  refine ⟨a2, ?_⟩
  refine hm _ (fun hi2 hr2 cn2 I2 => ?_)
  refine step 573 _ _ _ _ _ _ _ ?_
  rw [aL_573]
  dsimp [ab_vc, ab_v1, ab_lk, ab_st, ab_en, ab_cst, ab_mc, ab_mS, ab_tk, ab_ns]
  exact ⟨fun _ => go _ _ _ _ _ I2 (by omega) (by omega), fun q => absurd rfl q⟩
theorem lc_look (hnb : ab_n E < 2 ^ 31) (step : lw_step E (d + 20) J) {i n : Nat} (hi4 : i + 4 ≤ ab_n E) (hn : ab_n E ≤ 2048) (go : lw_go E J i n) {hi : ab_I} {hr : ab_R} {cn : ab_C} {ck cs : Nat} (I : Inv hi hr cn) (hck : 3 * (n + 1) ≤ ck) (hcs : 280 * (n + 1) ≤ cs) : J 578 (lw_L i) [] hi hr cn ck cs := by
  have a1 : ab_in (nI i + nI 1) (ab_n E) := ⟨i + 1, by omega, by omega, nI_add i 1⟩
  have a2 : ab_in (nI i + nI 2) (ab_n E) := ⟨i + 2, by omega, by omega, nI_add i 2⟩
  have a3 : ab_in (nI i + nI 3) (ab_n E) := ⟨i + 3, by omega, by omega, nI_add i 3⟩
  obtain ⟨nR, nH, nW, nV, nL, I⟩ := I
  refine step 578 _ _ _ _ _ _ _ ?_
  rw [aL_578]
  dsimp [ab_vc, ab_v1, ab_lk, ab_st, ab_en, ab_cst, ab_mc, ab_mS, ab_tk, ab_ns]
  refine ⟨a1, ?_⟩
  refine ⟨a2, ?_⟩
  refine ab_if (by omega) (ab_if (by omega) ?_)
  refine st_look hnb I _ (fun y hi1 hr1 cn1 hm => ?_)
  refine step 592 _ _ _ _ _ _ _ ?_
  rw [aL_592]
  dsimp [ab_vc, ab_v1, ab_lk, ab_st, ab_en, ab_cst, ab_mc, ab_mS, ab_tk, ab_ns]
  refine ⟨a1, ?_⟩
  refine ⟨a2, ?_⟩
  refine hm _ (fun hi2 hr2 cn2 I2 => ?_)
  refine step 606 _ _ _ _ _ _ _ ?_
  rw [aL_606]
  dsimp [ab_vc, ab_v1, ab_lk, ab_st, ab_en, ab_cst, ab_mc, ab_mS, ab_tk, ab_ns]
  exact ⟨fun _ => go _ _ _ _ _ I2 (by omega) (by omega), fun q => absurd rfl q⟩
theorem lc_blame (hnb : ab_n E < 2 ^ 31) (step : lw_step E (d + 20) J) {i n : Nat} (hi4 : i + 4 ≤ ab_n E) (hn : ab_n E ≤ 2048) (go : lw_go E J i n) {hi : ab_I} {hr : ab_R} {cn : ab_C} {ck cs : Nat} (I : Inv hi hr cn) (hck : 3 * (n + 1) ≤ ck) (hcs : 280 * (n + 1) ≤ cs) : J 611 (lw_L i) [] hi hr cn ck cs := by
  have a1 : ab_in (nI i + nI 1) (ab_n E) := ⟨i + 1, by omega, by omega, nI_add i 1⟩
  have a2 : ab_in (nI i + nI 2) (ab_n E) := ⟨i + 2, by omega, by omega, nI_add i 2⟩
  have a3 : ab_in (nI i + nI 3) (ab_n E) := ⟨i + 3, by omega, by omega, nI_add i 3⟩
  obtain ⟨nR, nH, nW, nV, nL, I⟩ := I
  refine step 611 _ _ _ _ _ _ _ ?_
  rw [aL_611]
  dsimp [ab_vc, ab_v1, ab_lk, ab_st, ab_en, ab_cst, ab_mc, ab_mS, ab_tk, ab_ns]
  refine ⟨a1, ?_⟩
  refine ⟨a2, ?_⟩
  refine st_blame hnb I _ (fun y hi1 hr1 cn1 hm => ?_)
  refine step 625 _ _ _ _ _ _ _ ?_
  rw [aL_625]
  dsimp [ab_vc, ab_v1, ab_lk, ab_st, ab_en, ab_cst, ab_mc, ab_mS, ab_tk, ab_ns]
  refine ⟨a1, ?_⟩
  refine ⟨a2, ?_⟩
  refine hm _ (fun hi2 hr2 cn2 I2 => ?_)
  refine step 639 _ _ _ _ _ _ _ ?_
  rw [aL_639]
  dsimp [ab_vc, ab_v1, ab_lk, ab_st, ab_en, ab_cst, ab_mc, ab_mS, ab_tk, ab_ns]
  exact ⟨fun _ => go _ _ _ _ _ I2 (by omega) (by omega), fun q => absurd rfl q⟩
theorem lc_planned (hnb : ab_n E < 2 ^ 31) (step : lw_step E (d + 20) J) {i n : Nat} (hi4 : i + 4 ≤ ab_n E) (hn : ab_n E ≤ 2048) (go : lw_go E J i n) {hi : ab_I} {hr : ab_R} {cn : ab_C} {ck cs : Nat} (I : Inv hi hr cn) (hck : 3 * (n + 1) ≤ ck) (hcs : 280 * (n + 1) ≤ cs) : J 644 (lw_L i) [] hi hr cn ck cs := by
  have a1 : ab_in (nI i + nI 1) (ab_n E) := ⟨i + 1, by omega, by omega, nI_add i 1⟩
  have a2 : ab_in (nI i + nI 2) (ab_n E) := ⟨i + 2, by omega, by omega, nI_add i 2⟩
  have a3 : ab_in (nI i + nI 3) (ab_n E) := ⟨i + 3, by omega, by omega, nI_add i 3⟩
  obtain ⟨nR, nH, nW, nV, nL, I⟩ := I
  refine step 644 _ _ _ _ _ _ _ ?_
  rw [aL_644]
  dsimp [ab_vc, ab_v1, ab_lk, ab_st, ab_en, ab_cst, ab_mc, ab_mS, ab_tk, ab_ns]
  refine ⟨a1, ?_⟩
  refine st_planned hnb I _ (fun y hi1 hr1 cn1 hm => ?_)
  refine step 653 _ _ _ _ _ _ _ ?_
  rw [aL_653]
  dsimp [ab_vc, ab_v1, ab_lk, ab_st, ab_en, ab_cst, ab_mc, ab_mS, ab_tk, ab_ns]
  refine ⟨a1, ?_⟩
  refine hm _ (fun hi2 hr2 cn2 I2 => ?_)
  refine step 662 _ _ _ _ _ _ _ ?_
  rw [aL_662]
  dsimp [ab_vc, ab_v1, ab_lk, ab_st, ab_en, ab_cst, ab_mc, ab_mS, ab_tk, ab_ns]
  exact ⟨fun _ => go _ _ _ _ _ I2 (by omega) (by omega), fun q => absurd rfl q⟩
theorem lc_miles (hnb : ab_n E < 2 ^ 31) (step : lw_step E (d + 20) J) {i n : Nat} (hi4 : i + 4 ≤ ab_n E) (hn : ab_n E ≤ 2048) (go : lw_go E J i n) {hi : ab_I} {hr : ab_R} {cn : ab_C} {ck cs : Nat} (I : Inv hi hr cn) (hck : 3 * (n + 1) ≤ ck) (hcs : 280 * (n + 1) ≤ cs) : J 667 (lw_L i) [] hi hr cn ck cs := by
  have a1 : ab_in (nI i + nI 1) (ab_n E) := ⟨i + 1, by omega, by omega, nI_add i 1⟩
  have a2 : ab_in (nI i + nI 2) (ab_n E) := ⟨i + 2, by omega, by omega, nI_add i 2⟩
  have a3 : ab_in (nI i + nI 3) (ab_n E) := ⟨i + 3, by omega, by omega, nI_add i 3⟩
  obtain ⟨nR, nH, nW, nV, nL, I⟩ := I
  refine step 667 _ _ _ _ _ _ _ ?_
  rw [aL_667]
  dsimp [ab_vc, ab_v1, ab_lk, ab_st, ab_en, ab_cst, ab_mc, ab_mS, ab_tk, ab_ns]
  refine st_miles hnb I _ (fun y hi1 hr1 cn1 hm => ?_)
  refine step 671 _ _ _ _ _ _ _ ?_
  rw [aL_671]
  dsimp [ab_vc, ab_v1, ab_lk, ab_st, ab_en, ab_cst, ab_mc, ab_mS, ab_tk, ab_ns]
  refine hm _ (fun hi2 hr2 cn2 I2 => ?_)
  refine step 675 _ _ _ _ _ _ _ ?_
  rw [aL_675]
  dsimp [ab_vc, ab_v1, ab_lk, ab_st, ab_en, ab_cst, ab_mc, ab_mS, ab_tk, ab_ns]
  exact ⟨fun _ => go _ _ _ _ _ I2 (by omega) (by omega), fun q => absurd rfl q⟩
theorem lc_told (hnb : ab_n E < 2 ^ 31) (step : lw_step E (d + 20) J) {i n : Nat} (hi4 : i + 4 ≤ ab_n E) (hn : ab_n E ≤ 2048) (go : lw_go E J i n) {hi : ab_I} {hr : ab_R} {cn : ab_C} {ck cs : Nat} (I : Inv hi hr cn) (hck : 3 * (n + 1) ≤ ck) (hcs : 280 * (n + 1) ≤ cs) : J 680 (lw_L i) [] hi hr cn ck cs := by
  have a1 : ab_in (nI i + nI 1) (ab_n E) := ⟨i + 1, by omega, by omega, nI_add i 1⟩
  have a2 : ab_in (nI i + nI 2) (ab_n E) := ⟨i + 2, by omega, by omega, nI_add i 2⟩
  have a3 : ab_in (nI i + nI 3) (ab_n E) := ⟨i + 3, by omega, by omega, nI_add i 3⟩
  obtain ⟨nR, nH, nW, nV, nL, I⟩ := I
  refine step 680 _ _ _ _ _ _ _ ?_
  rw [aL_680]
  dsimp [ab_vc, ab_v1, ab_lk, ab_st, ab_en, ab_cst, ab_mc, ab_mS, ab_tk, ab_ns]
  refine ⟨a1, ?_⟩
  refine ⟨a2, ?_⟩
  refine st_told hnb I _ (fun y hi1 hr1 cn1 hm => ?_)
  refine step 694 _ _ _ _ _ _ _ ?_
  rw [aL_694]
  dsimp [ab_vc, ab_v1, ab_lk, ab_st, ab_en, ab_cst, ab_mc, ab_mS, ab_tk, ab_ns]
  refine ⟨a1, ?_⟩
  refine ⟨a2, ?_⟩
  refine hm _ (fun hi2 hr2 cn2 I2 => ?_)
  refine step 708 _ _ _ _ _ _ _ ?_
  rw [aL_708]
  dsimp [ab_vc, ab_v1, ab_lk, ab_st, ab_en, ab_cst, ab_mc, ab_mS, ab_tk, ab_ns]
  exact ⟨fun _ => go _ _ _ _ _ I2 (by omega) (by omega), fun q => absurd rfl q⟩
theorem lc_homed (hnb : ab_n E < 2 ^ 31) (step : lw_step E (d + 20) J) {i n : Nat} (hi4 : i + 4 ≤ ab_n E) (hn : ab_n E ≤ 2048) (go : lw_go E J i n) {hi : ab_I} {hr : ab_R} {cn : ab_C} {ck cs : Nat} (I : Inv hi hr cn) (hck : 3 * (n + 1) ≤ ck) (hcs : 280 * (n + 1) ≤ cs) : J 713 (lw_L i) [] hi hr cn ck cs := by
  have a1 : ab_in (nI i + nI 1) (ab_n E) := ⟨i + 1, by omega, by omega, nI_add i 1⟩
  have a2 : ab_in (nI i + nI 2) (ab_n E) := ⟨i + 2, by omega, by omega, nI_add i 2⟩
  have a3 : ab_in (nI i + nI 3) (ab_n E) := ⟨i + 3, by omega, by omega, nI_add i 3⟩
  obtain ⟨nR, nH, nW, nV, nL, I⟩ := I
  refine step 713 _ _ _ _ _ _ _ ?_
  rw [aL_713]
  dsimp [ab_vc, ab_v1, ab_lk, ab_st, ab_en, ab_cst, ab_mc, ab_mS, ab_tk, ab_ns]
  refine ⟨a1, ?_⟩
  refine ⟨a2, ?_⟩
  refine st_homed hnb I _ (fun y hi1 hr1 cn1 hm => ?_)
  refine step 727 _ _ _ _ _ _ _ ?_
  rw [aL_727]
  dsimp [ab_vc, ab_v1, ab_lk, ab_st, ab_en, ab_cst, ab_mc, ab_mS, ab_tk, ab_ns]
  refine ⟨a1, ?_⟩
  refine ⟨a2, ?_⟩
  refine hm _ (fun hi2 hr2 cn2 I2 => ?_)
  refine step 741 _ _ _ _ _ _ _ ?_
  rw [aL_741]
  dsimp [ab_vc, ab_v1, ab_lk, ab_st, ab_en, ab_cst, ab_mc, ab_mS, ab_tk, ab_ns]
  exact ⟨fun _ => go _ _ _ _ _ I2 (by omega) (by omega), fun q => absurd rfl q⟩
theorem lc_wished (hnb : ab_n E < 2 ^ 31) (step : lw_step E (d + 20) J) {i n : Nat} (hi4 : i + 4 ≤ ab_n E) (hn : ab_n E ≤ 2048) (go : lw_go E J i n) {hi : ab_I} {hr : ab_R} {cn : ab_C} {ck cs : Nat} (I : Inv hi hr cn) (hck : 3 * (n + 1) ≤ ck) (hcs : 280 * (n + 1) ≤ cs) : J 746 (lw_L i) [] hi hr cn ck cs := by
  have a1 : ab_in (nI i + nI 1) (ab_n E) := ⟨i + 1, by omega, by omega, nI_add i 1⟩
  have a2 : ab_in (nI i + nI 2) (ab_n E) := ⟨i + 2, by omega, by omega, nI_add i 2⟩
  have a3 : ab_in (nI i + nI 3) (ab_n E) := ⟨i + 3, by omega, by omega, nI_add i 3⟩
  obtain ⟨nR, nH, nW, nV, nL, I⟩ := I
  refine step 746 _ _ _ _ _ _ _ ?_
  rw [aL_746]
  dsimp [ab_vc, ab_v1, ab_lk, ab_st, ab_en, ab_cst, ab_mc, ab_mS, ab_tk, ab_ns]
  refine ⟨a1, ?_⟩
  refine ⟨a2, ?_⟩
  refine st_wished hnb I _ (fun y hi1 hr1 cn1 hm => ?_)
  refine step 760 _ _ _ _ _ _ _ ?_
  rw [aL_760]
  dsimp [ab_vc, ab_v1, ab_lk, ab_st, ab_en, ab_cst, ab_mc, ab_mS, ab_tk, ab_ns]
  refine ⟨a1, ?_⟩
  refine ⟨a2, ?_⟩
  refine hm _ (fun hi2 hr2 cn2 I2 => ?_)
  refine step 774 _ _ _ _ _ _ _ ?_
  rw [aL_774]
  dsimp [ab_vc, ab_v1, ab_lk, ab_st, ab_en, ab_cst, ab_mc, ab_mS, ab_tk, ab_ns]
  exact ⟨fun _ => go _ _ _ _ _ I2 (by omega) (by omega), fun q => absurd rfl q⟩
theorem lc_artist (hnb : ab_n E < 2 ^ 31) (step : lw_step E (d + 20) J) {i n : Nat} (hi4 : i + 4 ≤ ab_n E) (hn : ab_n E ≤ 2048) (go : lw_go E J i n) {hi : ab_I} {hr : ab_R} {cn : ab_C} {ck cs : Nat} (I : Inv hi hr cn) (hck : 3 * (n + 1) ≤ ck) (hcs : 280 * (n + 1) ≤ cs) : J 779 (lw_L i) [] hi hr cn ck cs := by
  have a1 : ab_in (nI i + nI 1) (ab_n E) := ⟨i + 1, by omega, by omega, nI_add i 1⟩
  have a2 : ab_in (nI i + nI 2) (ab_n E) := ⟨i + 2, by omega, by omega, nI_add i 2⟩
  have a3 : ab_in (nI i + nI 3) (ab_n E) := ⟨i + 3, by omega, by omega, nI_add i 3⟩
  obtain ⟨nR, nH, nW, nV, nL, I⟩ := I
  refine step 779 _ _ _ _ _ _ _ ?_
  rw [aL_779]
  dsimp [ab_vc, ab_v1, ab_lk, ab_st, ab_en, ab_cst, ab_mc, ab_mS, ab_tk, ab_ns]
  refine ⟨a1, ?_⟩
  refine st_artist hnb I _ (fun y hi1 hr1 cn1 hm => ?_)
  refine step 788 _ _ _ _ _ _ _ ?_
  rw [aL_788]
  dsimp [ab_vc, ab_v1, ab_lk, ab_st, ab_en, ab_cst, ab_mc, ab_mS, ab_tk, ab_ns]
  refine ⟨a1, ?_⟩
  refine hm _ (fun hi2 hr2 cn2 I2 => ?_)
  refine step 797 _ _ _ _ _ _ _ ?_
  rw [aL_797]
  dsimp [ab_vc, ab_v1, ab_lk, ab_st, ab_en, ab_cst, ab_mc, ab_mS, ab_tk, ab_ns]
  exact ⟨fun _ => go _ _ _ _ _ I2 (by omega) (by omega), fun q => absurd rfl q⟩
theorem lc_count (hnb : ab_n E < 2 ^ 31) (step : lw_step E (d + 20) J) {i n : Nat} (hi4 : i + 4 ≤ ab_n E) (hn : ab_n E ≤ 2048) (go : lw_go E J i n) {hi : ab_I} {hr : ab_R} {cn : ab_C} {ck cs : Nat} (I : Inv hi hr cn) (hck : 3 * (n + 1) ≤ ck) (hcs : 280 * (n + 1) ≤ cs) : J 802 (lw_L i) [] hi hr cn ck cs := by
  have a1 : ab_in (nI i + nI 1) (ab_n E) := ⟨i + 1, by omega, by omega, nI_add i 1⟩
  have a2 : ab_in (nI i + nI 2) (ab_n E) := ⟨i + 2, by omega, by omega, nI_add i 2⟩
  have a3 : ab_in (nI i + nI 3) (ab_n E) := ⟨i + 3, by omega, by omega, nI_add i 3⟩
  obtain ⟨nR, nH, nW, nV, nL, I⟩ := I
  refine step 802 _ _ _ _ _ _ _ ?_
  rw [aL_802]
  dsimp [ab_vc, ab_v1, ab_lk, ab_st, ab_en, ab_cst, ab_mc, ab_mS, ab_tk, ab_ns]
  refine ⟨a1, ?_⟩
  refine st_count hnb I _ (fun y hi1 hr1 cn1 hm => ?_)
  refine step 811 _ _ _ _ _ _ _ ?_
  rw [aL_811]
  dsimp [ab_vc, ab_v1, ab_lk, ab_st, ab_en, ab_cst, ab_mc, ab_mS, ab_tk, ab_ns]
  refine ⟨a1, ?_⟩
  refine hm _ (fun hi2 hr2 cn2 I2 => ?_)
  refine step 820 _ _ _ _ _ _ _ ?_
  rw [aL_820]
  dsimp [ab_vc, ab_v1, ab_lk, ab_st, ab_en, ab_cst, ab_mc, ab_mS, ab_tk, ab_ns]
  exact ⟨fun _ => go _ _ _ _ _ I2 (by omega) (by omega), fun q => absurd rfl q⟩
theorem lw_loop (hnb : ab_n E < 2 ^ 31) (hn : ab_n E ≤ 2048) (step : lw_step E (d + 20) J) : ∀ (n i : Nat) (hi : ab_I) (hr : ab_R) (cn : ab_C) (ck cs : Nat), ab_n E < i + 4 * n + 4 → i ≤ ab_n E → Inv hi hr cn → 3 * n ≤ ck → 280 * n ≤ cs → J 18 (lw_L i) [] hi hr cn ck cs
  | n, i, hi, hr, cn, ck, cs, h1, h2, I, hck, hcs => by
    refine step 18 _ _ _ _ _ _ _ ?_
    rw [aL_18]
    dsimp [ab_vc, ab_v1, ab_lk, ab_st, ab_en, ab_cst, ab_mc, ab_mS, ab_tk, ab_ns, ab_sw]
    refine ⟨fun _ => ?_, fun q => ?_⟩
    · refine step 831 _ _ _ _ _ _ _ ?_
      rw [aL_831]
      dsimp [ab_vc, ab_v1, ab_lk, ab_st, ab_en, ab_cst, ab_mc, ab_mS, ab_tk, ab_ns]
      rfl
    · have h4 : i + 4 ≤ ab_n E := lw_more hn (by omega) q
      rcases n with _ | n
      · omega
      have go : lw_go E J i n := fun hi hr cn ck cs I hck hcs => by
        refine step 825 _ _ _ _ _ _ _ ?_
        rw [aL_825]
        dsimp [ab_vc, ab_v1, ab_lk, ab_st, ab_en, ab_cst, ab_mc, ab_mS, ab_tk, ab_ns]
        rw [nI_add]
        exact lw_loop hnb hn step n (i + 4) hi hr cn ck cs (by omega) (by omega) I hck hcs
      exact ⟨⟨i, by omega, by omega, rfl⟩, fun _ => go _ _ _ _ _ I (by omega) (by omega), fun _ => lc_far hnb step h4 hn go I hck hcs, fun _ => lc_home hnb step h4 hn go I hck hcs, fun _ => lc_work hnb step h4 hn go I hck hcs, fun _ => lc_rule hnb step h4 hn go I hck hcs, fun _ => lc_go hnb step h4 hn go I hck hcs, fun _ => lc_wish hnb step h4 hn go I hck hcs, fun _ => lc_unwish hnb step h4 hn go I hck hcs, fun _ => lc_rank hnb step h4 hn go I hck hcs, fun _ => lc_next hnb step h4 hn go I hck hcs, fun _ => lc_offer hnb step h4 hn go I hck hcs, fun _ => lc_back hnb step h4 hn go I hck hcs, fun _ => lc_sell hnb step h4 hn go I hck hcs, fun _ => lc_lose hnb step h4 hn go I hck hcs, fun _ => lc_pay hnb step h4 hn go I hck hcs, fun _ => lc_look hnb step h4 hn go I hck hcs, fun _ => lc_blame hnb step h4 hn go I hck hcs, fun _ => lc_planned hnb step h4 hn go I hck hcs, fun _ => lc_miles hnb step h4 hn go I hck hcs, fun _ => lc_told hnb step h4 hn go I hck hcs, fun _ => lc_homed hnb step h4 hn go I hck hcs, fun _ => lc_wished hnb step h4 hn go I hck hcs, fun _ => lc_artist hnb step h4 hn go I hck hcs, fun _ => lc_count hnb step h4 hn go I hck hcs, trivial⟩
theorem lw_start (hnb : ab_n E < 2 ^ 31) (hn : ab_n E ≤ 2048) (step : lw_step E (d + 20) J) (less : ∀ pc L st hi hr cn ck cs ck' cs', ck' ≤ ck → cs' ≤ cs → J pc L st hi hr cn ck' cs' → J pc L st hi hr cn ck cs) {cn : ab_C} (hc : ∀ K, K < 200 → cn K = 0) : J 0 [(0, .inr (some (201, 0)))] [] hiZ hrF cn 600000 7302250 := by
  refine step 0 _ _ _ _ _ _ _ ?_
  rw [aL_0]
  dsimp [ab_vc, ab_v1, ab_lk, ab_st, ab_en, ab_cst, ab_mc, ab_mS, ab_tk, ab_ns, ab_nf]
  rw [hc 8 (by omega), zI_id (hi := hiZ) (fun j => rfl), cP_new]
  refine c_X7_init hnb (fun K a b => by rw [ab_uC_k a]; exact hc K (by omega)) (fun cn1 f => ?_)
  obtain ⟨f2, f3, f5, f6, f7, f11, f17, fK⟩ := f
  have gK : ∀ K, 30 ≤ K → K < 200 → cn1 K = 0 := fun K a b => by rw [fK K (Or.inl a), ab_uC_k (by omega)]; exact hc K b
  have g9 : cn1 9 = 0 := by rw [fK 9 (Or.inr rfl), ab_uC_k (by omega)]; exact hc 9 (by omega)
  refine less _ _ _ _ _ _ _ _ 590000 7000000 (by omega) (Nat.le_of_ble_eq_true rfl) ?_
  refine step 7 _ _ _ _ _ _ _ ?_
  rw [aL_7]
  dsimp [ab_vc, ab_v1, ab_lk, ab_st, ab_en, ab_cst, ab_mc, ab_mS, ab_tk, ab_ns, ab_nf]
  rw [g9, zI_id (hi := hiF) (fun j => hiF_k (by omega)), mP_new]
  refine c_X8_init hnb ⟨fun K a b => by rw [ab_uC_k (by omega)]; exact gK K (by omega) (by omega), fun _ => by rw [ab_uC_k (by omega)]; exact gK _ (by omega) (by omega), fun _ => by rw [ab_uC_k (by omega)]; exact gK _ (by omega) (by omega), fun _ => by rw [ab_uC_k (by omega)]; exact gK _ (by omega) (by omega), fun _ => by rw [ab_uC_k (by omega)]; exact gK _ (by omega) (by omega), fun K _ => rfl⟩ (fun cn2 f => ?_)
  have e : ∀ K, K < 30 → K ≠ 9 → cn2 K = cn1 K := fun K a b => by rw [f K a, ab_uC_k b]
  refine less _ _ _ _ _ _ _ _ 3000 280000 (by omega) (Nat.le_of_ble_eq_true rfl) ?_
  refine step 15 _ _ _ _ _ _ _ ?_
  rw [aL_15]
  dsimp [ab_vc, ab_v1, ab_lk, ab_st, ab_en, ab_cst, ab_mc, ab_mS, ab_tk, ab_ns]
  refine lw_loop hnb hn step 512 0 _ _ _ _ _ (by omega) (by omega) (inv_start ?_ ?_ ?_ ?_ ?_ ?_ ?_) (by omega) (by omega)
  · rw [e 2 (by omega) (by omega)]; exact f2
  · rw [e 3 (by omega) (by omega)]; exact f3
  · rw [e 5 (by omega) (by omega)]; exact f5
  · rw [e 6 (by omega) (by omega)]; exact f6
  · rw [e 7 (by omega) (by omega)]; exact f7
  · rw [e 11 (by omega) (by omega)]; exact f11
  · intro k hk
    rw [e _ (by omega) (by omega)]
    exact f17 k hk
end LAW
