/-- the reference under way: the fields from n on aren't set -/
def mP (n : Nat) (K i j : Nat) : Option (Nat × Nat) := if K = 9 then (if i = 0 then (if n ≤ j then none else hrF K i j) else hrF K i j) else hrF K i j
theorem mP_new : ab_zR hrF 9 0 = mP 0 := by
  funext K i j
  unfold ab_zR mP
  simp
theorem mP_set {n : Nat} {r : Option (Nat × Nat)} (h : hrF 9 0 n = r) : ab_uR (mP n) 9 0 n r = mP (n + 1) := by
  funext K i j
  unfold ab_uR mP
  by_cases e1 : K = 9
  · by_cases e2 : i = 0
    · subst e1 e2
      simp only [if_true]
      by_cases e3 : j = n
      · subst e3
        rw [if_pos rfl, if_neg (by omega), h]
      · rw [if_neg e3]
        by_cases e4 : n ≤ j
        · rw [if_pos e4, if_pos (by omega)]
        · rw [if_neg e4, if_neg (by omega)]
    · simp only [e1, e2, if_true, if_false]
  · simp only [e1, if_false]
theorem mP_skip {n : Nat} (h : hrF 9 0 n = none) : mP n = mP (n + 1) := by
  funext K i j
  unfold mP
  by_cases e1 : K = 9
  · by_cases e2 : i = 0
    · subst e1 e2
      simp only [if_true]
      by_cases e3 : j = n
      · subst e3
        rw [if_pos (Nat.le_refl _), if_neg (by omega), h]
      · by_cases e4 : n ≤ j
        · rw [if_pos e4, if_pos (by omega)]
        · rw [if_neg e4, if_neg (by omega)]
    · simp only [e2, if_false]
  · simp only [e1, if_false]
theorem mP_end : mP 44 = hrF := by
  funext K i j
  unfold mP
  split
  · split
    · split
      · rename_i e1 e2 e3
        subst e1 e2
        have h1 : mAr j = false := by
          unfold mAr
          rw [decide_eq_true e3]
          simp
        have : hrF 9 0 j = none := by
          show (if mAr j = true then some (30 + j, 0) else cR hrB 9 0 j) = none
          rw [h1]
          rfl
        exact this.symm
      · rfl
    · rfl
  · rfl
def Qc (cn0 cn : ab_C) (a : Nat) : Prop := (∀ K, 30 + a ≤ K → K ≤ 73 → cn K = 0) ∧ (a ≤ 1 → cn 81 = 0) ∧ (a ≤ 2 → cn 82 = 0) ∧ (a ≤ 22 → cn 102 = 0) ∧ (a ≤ 43 → cn 123 = 0) ∧ ∀ K, K < 30 → cn K = cn0 K
theorem Qc_mono {cn0 cn : ab_C} {a b : Nat} (h : a ≤ b) (q : Qc cn0 cn a) : Qc cn0 cn b := ⟨fun K h1 h2 => q.1 K (by omega) h2, fun z => q.2.1 (by omega), fun z => q.2.2.1 (by omega), fun z => q.2.2.2.1 (by omega), fun z => q.2.2.2.2.1 (by omega), q.2.2.2.2.2⟩
theorem Qc_one {cn0 cn : ab_C} {a x K0 : Nat} (hK : K0 = 30 + a) (ha : a ≤ 43) (q : Qc cn0 cn a) : Qc cn0 (ab_uC cn K0 x) (a + 1) := ⟨fun K h1 h2 => by rw [ab_uC_k (by omega)]; exact q.1 K (by omega) h2, fun z => by rw [ab_uC_k (by omega)]; exact q.2.1 (by omega), fun z => by rw [ab_uC_k (by omega)]; exact q.2.2.1 (by omega), fun z => by rw [ab_uC_k (by omega)]; exact q.2.2.2.1 (by omega), fun z => by rw [ab_uC_k (by omega)]; exact q.2.2.2.2.1 (by omega), fun K h => by rw [ab_uC_k (by omega)]; exact q.2.2.2.2.2 K h⟩
theorem Qc_row {cn0 cn : ab_C} {a x Kr : Nat} (hK : (Kr = 81 ∧ 2 ≤ a) ∨ (Kr = 82 ∧ 3 ≤ a) ∨ (Kr = 102 ∧ 23 ≤ a) ∨ (Kr = 123 ∧ 44 ≤ a)) (q : Qc cn0 cn a) : Qc cn0 (ab_uC cn Kr x) a := ⟨fun K h1 h2 => by rw [ab_uC_k (by omega)]; exact q.1 K h1 h2, fun z => by rw [ab_uC_k (by omega)]; exact q.2.1 z, fun z => by rw [ab_uC_k (by omega)]; exact q.2.2.1 z, fun z => by rw [ab_uC_k (by omega)]; exact q.2.2.2.1 z, fun z => by rw [ab_uC_k (by omega)]; exact q.2.2.2.2.1 z, fun K h => by rw [ab_uC_k (by omega)]; exact q.2.2.2.2.2 K h⟩
def hiM : ab_I := ab_uI (ab_uI (ab_uI (ab_uI (ab_uI (ab_uI (ab_uI hiF 34 0 0 (nI 0)) 34 0 1 (nI 1)) 34 0 2 (nI 0)) 34 0 3 (nI 0)) 34 0 4 (nI 90)) 34 0 5 (nI 10)) 34 0 6 (nI 0)
theorem hiM_k {K i j : Nat} (h : K ≠ 5) (h2 : K ≠ 34) : hiM K i j = 0 := by
  unfold hiM
  rw [ab_uI_k h2, ab_uI_k h2, ab_uI_k h2, ab_uI_k h2, ab_uI_k h2, ab_uI_k h2, ab_uI_k h2]
  exact hiF_k h
section INI2
variable {E : ab_E} {d : Nat} {cn : ab_C} {Q : ab_Q}
theorem c_X8_init (hnb : ab_n E < 2 ^ 31) (hc : Qc cn cn 0) (h : ∀ cn', (∀ K, K < 30 → cn' K = cn K) → Q none hiM hrF cn') : ab_Wm E (d + 1) nX8_init [mO] hiF (mP 0) cn Q := by
  refine ab_Wm_of gX8_init kX8_init 0 rfl rfl hnb (fun J step drop less => ?_)
  rw [mP_skip (n := 0) rfl]
  have q1 : Qc cn cn 1 := Qc_mono (by omega) hc
  -- the fields, one after another
  have z1 : cn 31 = 0 := q1.1 31 (by omega) (by omega)
  have zr1 : cn 81 = 0 := q1.2.1 (by omega)
  refine step 0 _ _ _ _ _ _ _ ?_
  dsimp [ab_at, gX8_init, nX8_init, ab_vc, ab_v1, ab_lk, ab_st, ab_en, ab_cst, ab_mc, ab_mS, ab_tk, ab_ns, mR, mAr, ab_ia, ab_ra, ab_oa, ab_tg, ab_len, ab_uI]
  refine ⟨31, 81, 4, by omega, by omega, by omega, by omega, by omega, rfl, rfl, (show 4 ≤ 1000 by omega), by omega, rfl, rfl, fun i _ => rfl, (show 1 + 4 ≤ 123 by omega), (show 4 + 4 * 4 ≤ 4077 by omega), ?_⟩
  have em1 : ab_mR (mP 1) cn 31 81 4 = mP 1 := mR_id (fun j => by
    rw [z1, zr1, Nat.zero_add]
    rfl) (fun i j => rfl)
  have ei1 : ab_mI hiF cn 31 81 4 = hiF := mI_id (fun j => hiF_k (by omega)) (fun i j => hiF_k (by omega))
  show J 14 [(0, mO)] [] (ab_mI hiF cn 31 81 4) (ab_uR (ab_mR (mP 1) cn 31 81 4) 9 0 1 (some (31, cn 31))) (ab_uC (ab_uC cn 31 (cn 31 + 1)) 81 (cn 81 + 4)) (123 - (1 + 4)) (4077 - (4 + 4 * 4))
  rw [em1, ei1, mP_set (by rw [z1]; rfl)]
  refine less _ _ _ _ _ _ _ _ 118 4057 (by omega) (by omega) ?_
  have q2' : Qc cn (ab_uC (ab_uC cn 31 (cn 31 + 1)) 81 (cn 81 + 4)) 2 := Qc_row (by omega) (Qc_one (by omega) (by omega) q1)
  generalize ab_uC (ab_uC cn 31 (cn 31 + 1)) 81 (cn 81 + 4) = cn1 at q2' ⊢
  have q2 : Qc cn cn1 2 := Qc_mono (by omega) q2'
  have z2 : cn1 32 = 0 := q2.1 32 (by omega) (by omega)
  have zr2 : cn1 82 = 0 := q2.2.2.1 (by omega)
  refine step 14 _ _ _ _ _ _ _ ?_
  dsimp [ab_at, gX8_init, nX8_init, ab_vc, ab_v1, ab_lk, ab_st, ab_en, ab_cst, ab_mc, ab_mS, ab_tk, ab_ns, mR, mAr, ab_ia, ab_ra, ab_oa, ab_tg, ab_len, ab_uI]
  refine ⟨32, 82, 7, by omega, by omega, by omega, by omega, by omega, rfl, rfl, (show 60 ≤ 1000 by omega), by omega, rfl, rfl, fun i _ => rfl, (show 1 + 60 ≤ 118 by omega), (show 60 + 60 * 7 ≤ 4057 by omega), ?_⟩
  have em2 : ab_mR (mP 2) cn1 32 82 60 = mP 2 := mR_id (fun j => by
    rw [z2, zr2, Nat.zero_add]
    rfl) (fun i j => rfl)
  have ei2 : ab_mI hiF cn1 32 82 60 = hiF := mI_id (fun j => hiF_k (by omega)) (fun i j => hiF_k (by omega))
  show J 26 [(0, mO)] [] (ab_mI hiF cn1 32 82 60) (ab_uR (ab_mR (mP 2) cn1 32 82 60) 9 0 2 (some (32, cn1 32))) (ab_uC (ab_uC cn1 32 (cn1 32 + 1)) 82 (cn1 82 + 60)) (118 - (1 + 60)) (4057 - (60 + 60 * 7))
  rw [em2, ei2, mP_set (by rw [z2]; rfl)]
  refine less _ _ _ _ _ _ _ _ 57 3577 (by omega) (by omega) ?_
  have q3' : Qc cn (ab_uC (ab_uC cn1 32 (cn1 32 + 1)) 82 (cn1 82 + 60)) 3 := Qc_row (by omega) (Qc_one (by omega) (by omega) q2)
  generalize ab_uC (ab_uC cn1 32 (cn1 32 + 1)) 82 (cn1 82 + 60) = cn2 at q3' ⊢
  rw [mP_skip (n := 3) rfl]
  have q4 : Qc cn cn2 4 := Qc_mono (by omega) q3'
  have z4 : cn2 34 = 0 := q4.1 34 (by omega) (by omega)
  refine step 26 _ _ _ _ _ _ _ ?_
  dsimp [ab_at, gX8_init, nX8_init, ab_vc, ab_v1, ab_lk, ab_st, ab_en, ab_cst, ab_mc, ab_mS, ab_tk, ab_ns, mR, mAr, ab_ia, ab_ra, ab_oa, ab_tg, ab_len, ab_uI]
  refine ⟨34, rfl, rfl, by omega, (show 7 ≤ 3577 by omega), ?_⟩
  rw [z4]
  dsimp [ab_at, gX8_init, nX8_init, ab_vc, ab_v1, ab_lk, ab_st, ab_en, ab_cst, ab_mc, ab_mS, ab_tk, ab_ns, mR, mAr, ab_ia, ab_ra, ab_oa, ab_tg, ab_len, ab_uI]
  rw [ab_ix_nI (show 0 < 100000 by omega), ab_ix_nI (show 1 < 100000 by omega), ab_ix_nI (show 2 < 100000 by omega), ab_ix_nI (show 3 < 100000 by omega), ab_ix_nI (show 4 < 100000 by omega), ab_ix_nI (show 5 < 100000 by omega), ab_ix_nI (show 6 < 100000 by omega)]
  refine ⟨ab_inI (by omega) (by omega), ab_inI (by omega) (by omega), ab_inI (by omega) (by omega), ab_inI (by omega) (by omega), ab_inI (by omega) (by omega), ab_inI (by omega) (by omega), ab_inI (by omega) (by omega), ?_⟩
  rw [zI_id (hi := hiF) (fun j => hiF_k (by omega)), zR_id (hr := mP 4) (fun j => rfl), mP_set (by rfl)]
  have eH : ab_uI (ab_uI (ab_uI (ab_uI (ab_uI (ab_uI (ab_uI hiF 34 0 0 (nI 0)) 34 0 1 (nI 1)) 34 0 2 (nI 0)) 34 0 3 (nI 0)) 34 0 4 (nI 90)) 34 0 5 (nI 10)) 34 0 6 (nI 0) = hiM := rfl
  rw [eH]
  refine less _ _ _ _ _ _ _ _ 56 3570 (by omega) (show 3570 ≤ 3577 - 7 by omega) ?_
  have q5' : Qc cn (ab_uC cn2 34 (0 + 1)) 5 := Qc_one (by omega) (by omega) q4
  generalize ab_uC cn2 34 (0 + 1) = cn3 at q5' ⊢
  have q5 : Qc cn cn3 5 := Qc_mono (by omega) q5'
  have z5 : cn3 35 = 0 := q5.1 35 (by omega) (by omega)
  refine step 65 _ _ _ _ _ _ _ ?_
  dsimp [ab_at, gX8_init, nX8_init, ab_vc, ab_v1, ab_lk, ab_st, ab_en, ab_cst, ab_mc, ab_mS, ab_tk, ab_ns, mR, mAr, ab_ia, ab_ra, ab_oa, ab_tg, ab_len, ab_uI]
  refine ⟨35, rfl, rfl, by omega, (show 20 ≤ 3570 by omega), ?_⟩
  rw [z5, zI_id (hi := hiM) (fun j => hiM_k (by omega) (by omega)), zR_id (hr := mP 5) (fun j => rfl), mP_set (by rfl)]
  refine less _ _ _ _ _ _ _ _ 55 3550 (by omega) (show 3550 ≤ 3570 - 20 by omega) ?_
  have q6' : Qc cn (ab_uC cn3 35 (0 + 1)) 6 := Qc_one (by omega) (by omega) q5
  generalize ab_uC cn3 35 (0 + 1) = cn4 at q6' ⊢
  have q6 : Qc cn cn4 6 := Qc_mono (by omega) q6'
  have z6 : cn4 36 = 0 := q6.1 36 (by omega) (by omega)
  refine step 73 _ _ _ _ _ _ _ ?_
  dsimp [ab_at, gX8_init, nX8_init, ab_vc, ab_v1, ab_lk, ab_st, ab_en, ab_cst, ab_mc, ab_mS, ab_tk, ab_ns, mR, mAr, ab_ia, ab_ra, ab_oa, ab_tg, ab_len, ab_uI]
  refine ⟨36, rfl, rfl, by omega, (show 20 ≤ 3550 by omega), ?_⟩
  rw [z6, zI_id (hi := hiM) (fun j => hiM_k (by omega) (by omega)), zR_id (hr := mP 6) (fun j => rfl), mP_set (by rfl)]
  refine less _ _ _ _ _ _ _ _ 54 3530 (by omega) (show 3530 ≤ 3550 - 20 by omega) ?_
  have q7' : Qc cn (ab_uC cn4 36 (0 + 1)) 7 := Qc_one (by omega) (by omega) q6
  generalize ab_uC cn4 36 (0 + 1) = cn5 at q7' ⊢
  have q7 : Qc cn cn5 7 := Qc_mono (by omega) q7'
  have z7 : cn5 37 = 0 := q7.1 37 (by omega) (by omega)
  refine step 81 _ _ _ _ _ _ _ ?_
  dsimp [ab_at, gX8_init, nX8_init, ab_vc, ab_v1, ab_lk, ab_st, ab_en, ab_cst, ab_mc, ab_mS, ab_tk, ab_ns, mR, mAr, ab_ia, ab_ra, ab_oa, ab_tg, ab_len, ab_uI]
  refine ⟨37, rfl, rfl, by omega, (show 20 ≤ 3530 by omega), ?_⟩
  rw [z7, zI_id (hi := hiM) (fun j => hiM_k (by omega) (by omega)), zR_id (hr := mP 7) (fun j => rfl), mP_set (by rfl)]
  refine less _ _ _ _ _ _ _ _ 53 3510 (by omega) (show 3510 ≤ 3530 - 20 by omega) ?_
  have q8' : Qc cn (ab_uC cn5 37 (0 + 1)) 8 := Qc_one (by omega) (by omega) q7
  generalize ab_uC cn5 37 (0 + 1) = cn6 at q8' ⊢
  have q8 : Qc cn cn6 8 := Qc_mono (by omega) q8'
  have z8 : cn6 38 = 0 := q8.1 38 (by omega) (by omega)
  refine step 89 _ _ _ _ _ _ _ ?_
  dsimp [ab_at, gX8_init, nX8_init, ab_vc, ab_v1, ab_lk, ab_st, ab_en, ab_cst, ab_mc, ab_mS, ab_tk, ab_ns, mR, mAr, ab_ia, ab_ra, ab_oa, ab_tg, ab_len, ab_uI]
  refine ⟨38, rfl, rfl, by omega, (show 20 ≤ 3510 by omega), ?_⟩
  rw [z8, zI_id (hi := hiM) (fun j => hiM_k (by omega) (by omega)), zR_id (hr := mP 8) (fun j => rfl), mP_set (by rfl)]
  refine less _ _ _ _ _ _ _ _ 52 3490 (by omega) (show 3490 ≤ 3510 - 20 by omega) ?_
  have q9' : Qc cn (ab_uC cn6 38 (0 + 1)) 9 := Qc_one (by omega) (by omega) q8
  generalize ab_uC cn6 38 (0 + 1) = cn7 at q9' ⊢
  have q9 : Qc cn cn7 9 := Qc_mono (by omega) q9'
  have z9 : cn7 39 = 0 := q9.1 39 (by omega) (by omega)
  refine step 97 _ _ _ _ _ _ _ ?_
  dsimp [ab_at, gX8_init, nX8_init, ab_vc, ab_v1, ab_lk, ab_st, ab_en, ab_cst, ab_mc, ab_mS, ab_tk, ab_ns, mR, mAr, ab_ia, ab_ra, ab_oa, ab_tg, ab_len, ab_uI]
  refine ⟨39, rfl, rfl, by omega, (show 20 ≤ 3490 by omega), ?_⟩
  rw [z9, zI_id (hi := hiM) (fun j => hiM_k (by omega) (by omega)), zR_id (hr := mP 9) (fun j => rfl), mP_set (by rfl)]
  refine less _ _ _ _ _ _ _ _ 51 3470 (by omega) (show 3470 ≤ 3490 - 20 by omega) ?_
  have q10' : Qc cn (ab_uC cn7 39 (0 + 1)) 10 := Qc_one (by omega) (by omega) q9
  generalize ab_uC cn7 39 (0 + 1) = cn8 at q10' ⊢
  rw [mP_skip (n := 10) rfl]
  have q11 : Qc cn cn8 11 := Qc_mono (by omega) q10'
  have z11 : cn8 41 = 0 := q11.1 41 (by omega) (by omega)
  refine step 105 _ _ _ _ _ _ _ ?_
  dsimp [ab_at, gX8_init, nX8_init, ab_vc, ab_v1, ab_lk, ab_st, ab_en, ab_cst, ab_mc, ab_mS, ab_tk, ab_ns, mR, mAr, ab_ia, ab_ra, ab_oa, ab_tg, ab_len, ab_uI]
  refine ⟨41, rfl, rfl, by omega, (show 40 ≤ 3470 by omega), ?_⟩
  rw [z11, zI_id (hi := hiM) (fun j => hiM_k (by omega) (by omega)), zR_id (hr := mP 11) (fun j => rfl), mP_set (by rfl)]
  refine less _ _ _ _ _ _ _ _ 50 3430 (by omega) (show 3430 ≤ 3470 - 40 by omega) ?_
  have q12' : Qc cn (ab_uC cn8 41 (0 + 1)) 12 := Qc_one (by omega) (by omega) q11
  generalize ab_uC cn8 41 (0 + 1) = cn9 at q12' ⊢
  have q12 : Qc cn cn9 12 := Qc_mono (by omega) q12'
  have z12 : cn9 42 = 0 := q12.1 42 (by omega) (by omega)
  refine step 113 _ _ _ _ _ _ _ ?_
  dsimp [ab_at, gX8_init, nX8_init, ab_vc, ab_v1, ab_lk, ab_st, ab_en, ab_cst, ab_mc, ab_mS, ab_tk, ab_ns, mR, mAr, ab_ia, ab_ra, ab_oa, ab_tg, ab_len, ab_uI]
  refine ⟨42, rfl, rfl, by omega, (show 40 ≤ 3430 by omega), ?_⟩
  rw [z12, zI_id (hi := hiM) (fun j => hiM_k (by omega) (by omega)), zR_id (hr := mP 12) (fun j => rfl), mP_set (by rfl)]
  refine less _ _ _ _ _ _ _ _ 49 3390 (by omega) (show 3390 ≤ 3430 - 40 by omega) ?_
  have q13' : Qc cn (ab_uC cn9 42 (0 + 1)) 13 := Qc_one (by omega) (by omega) q12
  generalize ab_uC cn9 42 (0 + 1) = cn10 at q13' ⊢
  have q13 : Qc cn cn10 13 := Qc_mono (by omega) q13'
  have z13 : cn10 43 = 0 := q13.1 43 (by omega) (by omega)
  refine step 121 _ _ _ _ _ _ _ ?_
  dsimp [ab_at, gX8_init, nX8_init, ab_vc, ab_v1, ab_lk, ab_st, ab_en, ab_cst, ab_mc, ab_mS, ab_tk, ab_ns, mR, mAr, ab_ia, ab_ra, ab_oa, ab_tg, ab_len, ab_uI]
  refine ⟨43, rfl, rfl, by omega, (show 40 ≤ 3390 by omega), ?_⟩
  rw [z13, zI_id (hi := hiM) (fun j => hiM_k (by omega) (by omega)), zR_id (hr := mP 13) (fun j => rfl), mP_set (by rfl)]
  refine less _ _ _ _ _ _ _ _ 48 3350 (by omega) (show 3350 ≤ 3390 - 40 by omega) ?_
  have q14' : Qc cn (ab_uC cn10 43 (0 + 1)) 14 := Qc_one (by omega) (by omega) q13
  generalize ab_uC cn10 43 (0 + 1) = cn11 at q14' ⊢
  have q14 : Qc cn cn11 14 := Qc_mono (by omega) q14'
  have z14 : cn11 44 = 0 := q14.1 44 (by omega) (by omega)
  refine step 129 _ _ _ _ _ _ _ ?_
  dsimp [ab_at, gX8_init, nX8_init, ab_vc, ab_v1, ab_lk, ab_st, ab_en, ab_cst, ab_mc, ab_mS, ab_tk, ab_ns, mR, mAr, ab_ia, ab_ra, ab_oa, ab_tg, ab_len, ab_uI]
  refine ⟨44, rfl, rfl, by omega, (show 40 ≤ 3350 by omega), ?_⟩
  rw [z14, zI_id (hi := hiM) (fun j => hiM_k (by omega) (by omega)), zR_id (hr := mP 14) (fun j => rfl), mP_set (by rfl)]
  refine less _ _ _ _ _ _ _ _ 47 3310 (by omega) (show 3310 ≤ 3350 - 40 by omega) ?_
  have q15' : Qc cn (ab_uC cn11 44 (0 + 1)) 15 := Qc_one (by omega) (by omega) q14
  generalize ab_uC cn11 44 (0 + 1) = cn12 at q15' ⊢
  have q15 : Qc cn cn12 15 := Qc_mono (by omega) q15'
  have z15 : cn12 45 = 0 := q15.1 45 (by omega) (by omega)
  refine step 137 _ _ _ _ _ _ _ ?_
  dsimp [ab_at, gX8_init, nX8_init, ab_vc, ab_v1, ab_lk, ab_st, ab_en, ab_cst, ab_mc, ab_mS, ab_tk, ab_ns, mR, mAr, ab_ia, ab_ra, ab_oa, ab_tg, ab_len, ab_uI]
  refine ⟨45, rfl, rfl, by omega, (show 40 ≤ 3310 by omega), ?_⟩
  rw [z15, zI_id (hi := hiM) (fun j => hiM_k (by omega) (by omega)), zR_id (hr := mP 15) (fun j => rfl), mP_set (by rfl)]
  refine less _ _ _ _ _ _ _ _ 46 3270 (by omega) (show 3270 ≤ 3310 - 40 by omega) ?_
  have q16' : Qc cn (ab_uC cn12 45 (0 + 1)) 16 := Qc_one (by omega) (by omega) q15
  generalize ab_uC cn12 45 (0 + 1) = cn13 at q16' ⊢
  have q16 : Qc cn cn13 16 := Qc_mono (by omega) q16'
  have z16 : cn13 46 = 0 := q16.1 46 (by omega) (by omega)
  refine step 145 _ _ _ _ _ _ _ ?_
  dsimp [ab_at, gX8_init, nX8_init, ab_vc, ab_v1, ab_lk, ab_st, ab_en, ab_cst, ab_mc, ab_mS, ab_tk, ab_ns, mR, mAr, ab_ia, ab_ra, ab_oa, ab_tg, ab_len, ab_uI]
  refine ⟨46, rfl, rfl, by omega, (show 40 ≤ 3270 by omega), ?_⟩
  rw [z16, zI_id (hi := hiM) (fun j => hiM_k (by omega) (by omega)), zR_id (hr := mP 16) (fun j => rfl), mP_set (by rfl)]
  refine less _ _ _ _ _ _ _ _ 45 3230 (by omega) (show 3230 ≤ 3270 - 40 by omega) ?_
  have q17' : Qc cn (ab_uC cn13 46 (0 + 1)) 17 := Qc_one (by omega) (by omega) q16
  generalize ab_uC cn13 46 (0 + 1) = cn14 at q17' ⊢
  have q17 : Qc cn cn14 17 := Qc_mono (by omega) q17'
  have z17 : cn14 47 = 0 := q17.1 47 (by omega) (by omega)
  refine step 153 _ _ _ _ _ _ _ ?_
  dsimp [ab_at, gX8_init, nX8_init, ab_vc, ab_v1, ab_lk, ab_st, ab_en, ab_cst, ab_mc, ab_mS, ab_tk, ab_ns, mR, mAr, ab_ia, ab_ra, ab_oa, ab_tg, ab_len, ab_uI]
  refine ⟨47, rfl, rfl, by omega, (show 40 ≤ 3230 by omega), ?_⟩
  rw [z17, zI_id (hi := hiM) (fun j => hiM_k (by omega) (by omega)), zR_id (hr := mP 17) (fun j => rfl), mP_set (by rfl)]
  refine less _ _ _ _ _ _ _ _ 44 3190 (by omega) (show 3190 ≤ 3230 - 40 by omega) ?_
  have q18' : Qc cn (ab_uC cn14 47 (0 + 1)) 18 := Qc_one (by omega) (by omega) q17
  generalize ab_uC cn14 47 (0 + 1) = cn15 at q18' ⊢
  have q18 : Qc cn cn15 18 := Qc_mono (by omega) q18'
  have z18 : cn15 48 = 0 := q18.1 48 (by omega) (by omega)
  refine step 161 _ _ _ _ _ _ _ ?_
  dsimp [ab_at, gX8_init, nX8_init, ab_vc, ab_v1, ab_lk, ab_st, ab_en, ab_cst, ab_mc, ab_mS, ab_tk, ab_ns, mR, mAr, ab_ia, ab_ra, ab_oa, ab_tg, ab_len, ab_uI]
  refine ⟨48, rfl, rfl, by omega, (show 40 ≤ 3190 by omega), ?_⟩
  rw [z18, zI_id (hi := hiM) (fun j => hiM_k (by omega) (by omega)), zR_id (hr := mP 18) (fun j => rfl), mP_set (by rfl)]
  refine less _ _ _ _ _ _ _ _ 43 3150 (by omega) (show 3150 ≤ 3190 - 40 by omega) ?_
  have q19' : Qc cn (ab_uC cn15 48 (0 + 1)) 19 := Qc_one (by omega) (by omega) q18
  generalize ab_uC cn15 48 (0 + 1) = cn16 at q19' ⊢
  have q19 : Qc cn cn16 19 := Qc_mono (by omega) q19'
  have z19 : cn16 49 = 0 := q19.1 49 (by omega) (by omega)
  refine step 169 _ _ _ _ _ _ _ ?_
  dsimp [ab_at, gX8_init, nX8_init, ab_vc, ab_v1, ab_lk, ab_st, ab_en, ab_cst, ab_mc, ab_mS, ab_tk, ab_ns, mR, mAr, ab_ia, ab_ra, ab_oa, ab_tg, ab_len, ab_uI]
  refine ⟨49, rfl, rfl, by omega, (show 40 ≤ 3150 by omega), ?_⟩
  rw [z19, zI_id (hi := hiM) (fun j => hiM_k (by omega) (by omega)), zR_id (hr := mP 19) (fun j => rfl), mP_set (by rfl)]
  refine less _ _ _ _ _ _ _ _ 42 3110 (by omega) (show 3110 ≤ 3150 - 40 by omega) ?_
  have q20' : Qc cn (ab_uC cn16 49 (0 + 1)) 20 := Qc_one (by omega) (by omega) q19
  generalize ab_uC cn16 49 (0 + 1) = cn17 at q20' ⊢
  have q20 : Qc cn cn17 20 := Qc_mono (by omega) q20'
  have z20 : cn17 50 = 0 := q20.1 50 (by omega) (by omega)
  refine step 177 _ _ _ _ _ _ _ ?_
  dsimp [ab_at, gX8_init, nX8_init, ab_vc, ab_v1, ab_lk, ab_st, ab_en, ab_cst, ab_mc, ab_mS, ab_tk, ab_ns, mR, mAr, ab_ia, ab_ra, ab_oa, ab_tg, ab_len, ab_uI]
  refine ⟨50, rfl, rfl, by omega, (show 40 ≤ 3110 by omega), ?_⟩
  rw [z20, zI_id (hi := hiM) (fun j => hiM_k (by omega) (by omega)), zR_id (hr := mP 20) (fun j => rfl), mP_set (by rfl)]
  refine less _ _ _ _ _ _ _ _ 41 3070 (by omega) (show 3070 ≤ 3110 - 40 by omega) ?_
  have q21' : Qc cn (ab_uC cn17 50 (0 + 1)) 21 := Qc_one (by omega) (by omega) q20
  generalize ab_uC cn17 50 (0 + 1) = cn18 at q21' ⊢
  have q21 : Qc cn cn18 21 := Qc_mono (by omega) q21'
  have z21 : cn18 51 = 0 := q21.1 51 (by omega) (by omega)
  refine step 185 _ _ _ _ _ _ _ ?_
  dsimp [ab_at, gX8_init, nX8_init, ab_vc, ab_v1, ab_lk, ab_st, ab_en, ab_cst, ab_mc, ab_mS, ab_tk, ab_ns, mR, mAr, ab_ia, ab_ra, ab_oa, ab_tg, ab_len, ab_uI]
  refine ⟨51, rfl, rfl, by omega, (show 40 ≤ 3070 by omega), ?_⟩
  rw [z21, zI_id (hi := hiM) (fun j => hiM_k (by omega) (by omega)), zR_id (hr := mP 21) (fun j => rfl), mP_set (by rfl)]
  refine less _ _ _ _ _ _ _ _ 40 3030 (by omega) (show 3030 ≤ 3070 - 40 by omega) ?_
  have q22' : Qc cn (ab_uC cn18 51 (0 + 1)) 22 := Qc_one (by omega) (by omega) q21
  generalize ab_uC cn18 51 (0 + 1) = cn19 at q22' ⊢
  have q22 : Qc cn cn19 22 := Qc_mono (by omega) q22'
  have z22 : cn19 52 = 0 := q22.1 52 (by omega) (by omega)
  have zr22 : cn19 102 = 0 := q22.2.2.2.1 (by omega)
  refine step 193 _ _ _ _ _ _ _ ?_
  dsimp [ab_at, gX8_init, nX8_init, ab_vc, ab_v1, ab_lk, ab_st, ab_en, ab_cst, ab_mc, ab_mS, ab_tk, ab_ns, mR, mAr, ab_ia, ab_ra, ab_oa, ab_tg, ab_len, ab_uI]
  refine ⟨52, 102, 40, by omega, by omega, by omega, by omega, by omega, rfl, rfl, (show 20 ≤ 1000 by omega), by omega, rfl, rfl, fun i _ => rfl, (show 1 + 20 ≤ 40 by omega), (show 20 + 20 * 40 ≤ 3030 by omega), ?_⟩
  have em22 : ab_mR (mP 22) cn19 52 102 20 = mP 22 := mR_id (fun j => by
    rw [z22, zr22, Nat.zero_add]
    rfl) (fun i j => rfl)
  have ei22 : ab_mI hiM cn19 52 102 20 = hiM := mI_id (fun j => hiM_k (by omega) (by omega)) (fun i j => hiM_k (by omega) (by omega))
  show J 205 [(0, mO)] [] (ab_mI hiM cn19 52 102 20) (ab_uR (ab_mR (mP 22) cn19 52 102 20) 9 0 22 (some (52, cn19 52))) (ab_uC (ab_uC cn19 52 (cn19 52 + 1)) 102 (cn19 102 + 20)) (40 - (1 + 20)) (3030 - (20 + 20 * 40))
  rw [em22, ei22, mP_set (by rw [z22]; rfl)]
  refine less _ _ _ _ _ _ _ _ 19 2210 (by omega) (by omega) ?_
  have q23' : Qc cn (ab_uC (ab_uC cn19 52 (cn19 52 + 1)) 102 (cn19 102 + 20)) 23 := Qc_row (by omega) (Qc_one (by omega) (by omega) q22)
  generalize ab_uC (ab_uC cn19 52 (cn19 52 + 1)) 102 (cn19 102 + 20) = cn20 at q23' ⊢
  rw [mP_skip (n := 23) rfl]
  have q24 : Qc cn cn20 24 := Qc_mono (by omega) q23'
  have z24 : cn20 54 = 0 := q24.1 54 (by omega) (by omega)
  refine step 205 _ _ _ _ _ _ _ ?_
  dsimp [ab_at, gX8_init, nX8_init, ab_vc, ab_v1, ab_lk, ab_st, ab_en, ab_cst, ab_mc, ab_mS, ab_tk, ab_ns, mR, mAr, ab_ia, ab_ra, ab_oa, ab_tg, ab_len, ab_uI]
  refine ⟨54, rfl, rfl, by omega, (show 200 ≤ 2210 by omega), ?_⟩
  rw [z24, zI_id (hi := hiM) (fun j => hiM_k (by omega) (by omega)), zR_id (hr := mP 24) (fun j => rfl), mP_set (by rfl)]
  refine less _ _ _ _ _ _ _ _ 18 2010 (by omega) (show 2010 ≤ 2210 - 200 by omega) ?_
  have q25' : Qc cn (ab_uC cn20 54 (0 + 1)) 25 := Qc_one (by omega) (by omega) q24
  generalize ab_uC cn20 54 (0 + 1) = cn21 at q25' ⊢
  have q25 : Qc cn cn21 25 := Qc_mono (by omega) q25'
  have z25 : cn21 55 = 0 := q25.1 55 (by omega) (by omega)
  refine step 214 _ _ _ _ _ _ _ ?_
  dsimp [ab_at, gX8_init, nX8_init, ab_vc, ab_v1, ab_lk, ab_st, ab_en, ab_cst, ab_mc, ab_mS, ab_tk, ab_ns, mR, mAr, ab_ia, ab_ra, ab_oa, ab_tg, ab_len, ab_uI]
  refine ⟨55, rfl, rfl, by omega, (show 200 ≤ 2010 by omega), ?_⟩
  rw [z25, zI_id (hi := hiM) (fun j => hiM_k (by omega) (by omega)), zR_id (hr := mP 25) (fun j => rfl), mP_set (by rfl)]
  refine less _ _ _ _ _ _ _ _ 17 1810 (by omega) (show 1810 ≤ 2010 - 200 by omega) ?_
  have q26' : Qc cn (ab_uC cn21 55 (0 + 1)) 26 := Qc_one (by omega) (by omega) q25
  generalize ab_uC cn21 55 (0 + 1) = cn22 at q26' ⊢
  have q26 : Qc cn cn22 26 := Qc_mono (by omega) q26'
  have z26 : cn22 56 = 0 := q26.1 56 (by omega) (by omega)
  refine step 223 _ _ _ _ _ _ _ ?_
  dsimp [ab_at, gX8_init, nX8_init, ab_vc, ab_v1, ab_lk, ab_st, ab_en, ab_cst, ab_mc, ab_mS, ab_tk, ab_ns, mR, mAr, ab_ia, ab_ra, ab_oa, ab_tg, ab_len, ab_uI]
  refine ⟨56, rfl, rfl, by omega, (show 200 ≤ 1810 by omega), ?_⟩
  rw [z26, zI_id (hi := hiM) (fun j => hiM_k (by omega) (by omega)), zR_id (hr := mP 26) (fun j => rfl), mP_set (by rfl)]
  refine less _ _ _ _ _ _ _ _ 16 1610 (by omega) (show 1610 ≤ 1810 - 200 by omega) ?_
  have q27' : Qc cn (ab_uC cn22 56 (0 + 1)) 27 := Qc_one (by omega) (by omega) q26
  generalize ab_uC cn22 56 (0 + 1) = cn23 at q27' ⊢
  have q27 : Qc cn cn23 27 := Qc_mono (by omega) q27'
  have z27 : cn23 57 = 0 := q27.1 57 (by omega) (by omega)
  refine step 232 _ _ _ _ _ _ _ ?_
  dsimp [ab_at, gX8_init, nX8_init, ab_vc, ab_v1, ab_lk, ab_st, ab_en, ab_cst, ab_mc, ab_mS, ab_tk, ab_ns, mR, mAr, ab_ia, ab_ra, ab_oa, ab_tg, ab_len, ab_uI]
  refine ⟨57, rfl, rfl, by omega, (show 200 ≤ 1610 by omega), ?_⟩
  rw [z27, zI_id (hi := hiM) (fun j => hiM_k (by omega) (by omega)), zR_id (hr := mP 27) (fun j => rfl), mP_set (by rfl)]
  refine less _ _ _ _ _ _ _ _ 15 1410 (by omega) (show 1410 ≤ 1610 - 200 by omega) ?_
  have q28' : Qc cn (ab_uC cn23 57 (0 + 1)) 28 := Qc_one (by omega) (by omega) q27
  generalize ab_uC cn23 57 (0 + 1) = cn24 at q28' ⊢
  have q28 : Qc cn cn24 28 := Qc_mono (by omega) q28'
  have z28 : cn24 58 = 0 := q28.1 58 (by omega) (by omega)
  refine step 241 _ _ _ _ _ _ _ ?_
  dsimp [ab_at, gX8_init, nX8_init, ab_vc, ab_v1, ab_lk, ab_st, ab_en, ab_cst, ab_mc, ab_mS, ab_tk, ab_ns, mR, mAr, ab_ia, ab_ra, ab_oa, ab_tg, ab_len, ab_uI]
  refine ⟨58, rfl, rfl, by omega, (show 200 ≤ 1410 by omega), ?_⟩
  rw [z28, zI_id (hi := hiM) (fun j => hiM_k (by omega) (by omega)), zR_id (hr := mP 28) (fun j => rfl), mP_set (by rfl)]
  refine less _ _ _ _ _ _ _ _ 14 1210 (by omega) (show 1210 ≤ 1410 - 200 by omega) ?_
  have q29' : Qc cn (ab_uC cn24 58 (0 + 1)) 29 := Qc_one (by omega) (by omega) q28
  generalize ab_uC cn24 58 (0 + 1) = cn25 at q29' ⊢
  have q29 : Qc cn cn25 29 := Qc_mono (by omega) q29'
  have z29 : cn25 59 = 0 := q29.1 59 (by omega) (by omega)
  refine step 250 _ _ _ _ _ _ _ ?_
  dsimp [ab_at, gX8_init, nX8_init, ab_vc, ab_v1, ab_lk, ab_st, ab_en, ab_cst, ab_mc, ab_mS, ab_tk, ab_ns, mR, mAr, ab_ia, ab_ra, ab_oa, ab_tg, ab_len, ab_uI]
  refine ⟨59, rfl, rfl, by omega, (show 200 ≤ 1210 by omega), ?_⟩
  rw [z29, zI_id (hi := hiM) (fun j => hiM_k (by omega) (by omega)), zR_id (hr := mP 29) (fun j => rfl), mP_set (by rfl)]
  refine less _ _ _ _ _ _ _ _ 13 1010 (by omega) (show 1010 ≤ 1210 - 200 by omega) ?_
  have q30' : Qc cn (ab_uC cn25 59 (0 + 1)) 30 := Qc_one (by omega) (by omega) q29
  generalize ab_uC cn25 59 (0 + 1) = cn26 at q30' ⊢
  rw [mP_skip (n := 30) rfl]
  have q31 : Qc cn cn26 31 := Qc_mono (by omega) q30'
  have z31 : cn26 61 = 0 := q31.1 61 (by omega) (by omega)
  refine step 259 _ _ _ _ _ _ _ ?_
  dsimp [ab_at, gX8_init, nX8_init, ab_vc, ab_v1, ab_lk, ab_st, ab_en, ab_cst, ab_mc, ab_mS, ab_tk, ab_ns, mR, mAr, ab_ia, ab_ra, ab_oa, ab_tg, ab_len, ab_uI]
  refine ⟨61, rfl, rfl, by omega, (show 300 ≤ 1010 by omega), ?_⟩
  rw [z31, zI_id (hi := hiM) (fun j => hiM_k (by omega) (by omega)), zR_id (hr := mP 31) (fun j => rfl), mP_set (by rfl)]
  refine less _ _ _ _ _ _ _ _ 12 710 (by omega) (show 710 ≤ 1010 - 300 by omega) ?_
  have q32' : Qc cn (ab_uC cn26 61 (0 + 1)) 32 := Qc_one (by omega) (by omega) q31
  generalize ab_uC cn26 61 (0 + 1) = cn27 at q32' ⊢
  have q32 : Qc cn cn27 32 := Qc_mono (by omega) q32'
  have z32 : cn27 62 = 0 := q32.1 62 (by omega) (by omega)
  refine step 268 _ _ _ _ _ _ _ ?_
  dsimp [ab_at, gX8_init, nX8_init, ab_vc, ab_v1, ab_lk, ab_st, ab_en, ab_cst, ab_mc, ab_mS, ab_tk, ab_ns, mR, mAr, ab_ia, ab_ra, ab_oa, ab_tg, ab_len, ab_uI]
  refine ⟨62, rfl, rfl, by omega, (show 300 ≤ 710 by omega), ?_⟩
  rw [z32, zI_id (hi := hiM) (fun j => hiM_k (by omega) (by omega)), zR_id (hr := mP 32) (fun j => rfl), mP_set (by rfl)]
  refine less _ _ _ _ _ _ _ _ 11 410 (by omega) (show 410 ≤ 710 - 300 by omega) ?_
  have q33' : Qc cn (ab_uC cn27 62 (0 + 1)) 33 := Qc_one (by omega) (by omega) q32
  generalize ab_uC cn27 62 (0 + 1) = cn28 at q33' ⊢
  have q33 : Qc cn cn28 33 := Qc_mono (by omega) q33'
  have z33 : cn28 63 = 0 := q33.1 63 (by omega) (by omega)
  refine step 277 _ _ _ _ _ _ _ ?_
  dsimp [ab_at, gX8_init, nX8_init, ab_vc, ab_v1, ab_lk, ab_st, ab_en, ab_cst, ab_mc, ab_mS, ab_tk, ab_ns, mR, mAr, ab_ia, ab_ra, ab_oa, ab_tg, ab_len, ab_uI]
  refine ⟨63, rfl, rfl, by omega, (show 300 ≤ 410 by omega), ?_⟩
  rw [z33, zI_id (hi := hiM) (fun j => hiM_k (by omega) (by omega)), zR_id (hr := mP 33) (fun j => rfl), mP_set (by rfl)]
  refine less _ _ _ _ _ _ _ _ 10 110 (by omega) (show 110 ≤ 410 - 300 by omega) ?_
  have q34' : Qc cn (ab_uC cn28 63 (0 + 1)) 34 := Qc_one (by omega) (by omega) q33
  generalize ab_uC cn28 63 (0 + 1) = cn29 at q34' ⊢
  rw [mP_skip (n := 34) rfl]
  have q35 : Qc cn cn29 35 := Qc_mono (by omega) q34'
  have z35 : cn29 65 = 0 := q35.1 65 (by omega) (by omega)
  refine step 286 _ _ _ _ _ _ _ ?_
  dsimp [ab_at, gX8_init, nX8_init, ab_vc, ab_v1, ab_lk, ab_st, ab_en, ab_cst, ab_mc, ab_mS, ab_tk, ab_ns, mR, mAr, ab_ia, ab_ra, ab_oa, ab_tg, ab_len, ab_uI]
  refine ⟨65, rfl, rfl, by omega, (show 10 ≤ 110 by omega), ?_⟩
  rw [z35, zI_id (hi := hiM) (fun j => hiM_k (by omega) (by omega)), zR_id (hr := mP 35) (fun j => rfl), mP_set (by rfl)]
  refine less _ _ _ _ _ _ _ _ 9 100 (by omega) (show 100 ≤ 110 - 10 by omega) ?_
  have q36' : Qc cn (ab_uC cn29 65 (0 + 1)) 36 := Qc_one (by omega) (by omega) q35
  generalize ab_uC cn29 65 (0 + 1) = cn30 at q36' ⊢
  rw [mP_skip (n := 36) rfl]
  rw [mP_skip (n := 37) rfl]
  rw [mP_skip (n := 38) rfl]
  have q39 : Qc cn cn30 39 := Qc_mono (by omega) q36'
  have z39 : cn30 69 = 0 := q39.1 69 (by omega) (by omega)
  refine step 294 _ _ _ _ _ _ _ ?_
  dsimp [ab_at, gX8_init, nX8_init, ab_vc, ab_v1, ab_lk, ab_st, ab_en, ab_cst, ab_mc, ab_mS, ab_tk, ab_ns, mR, mAr, ab_ia, ab_ra, ab_oa, ab_tg, ab_len, ab_uI]
  refine ⟨69, rfl, rfl, by omega, (show 4 ≤ 100 by omega), ?_⟩
  rw [z39, zI_id (hi := hiM) (fun j => hiM_k (by omega) (by omega)), zR_id (hr := mP 39) (fun j => rfl), mP_set (by rfl)]
  refine less _ _ _ _ _ _ _ _ 8 96 (by omega) (show 96 ≤ 100 - 4 by omega) ?_
  have q40' : Qc cn (ab_uC cn30 69 (0 + 1)) 40 := Qc_one (by omega) (by omega) q39
  generalize ab_uC cn30 69 (0 + 1) = cn31 at q40' ⊢
  have q40 : Qc cn cn31 40 := Qc_mono (by omega) q40'
  have z40 : cn31 70 = 0 := q40.1 70 (by omega) (by omega)
  refine step 301 _ _ _ _ _ _ _ ?_
  dsimp [ab_at, gX8_init, nX8_init, ab_vc, ab_v1, ab_lk, ab_st, ab_en, ab_cst, ab_mc, ab_mS, ab_tk, ab_ns, mR, mAr, ab_ia, ab_ra, ab_oa, ab_tg, ab_len, ab_uI]
  refine ⟨70, rfl, rfl, by omega, (show 4 ≤ 96 by omega), ?_⟩
  rw [z40, zI_id (hi := hiM) (fun j => hiM_k (by omega) (by omega)), zR_id (hr := mP 40) (fun j => rfl), mP_set (by rfl)]
  refine less _ _ _ _ _ _ _ _ 7 92 (by omega) (show 92 ≤ 96 - 4 by omega) ?_
  have q41' : Qc cn (ab_uC cn31 70 (0 + 1)) 41 := Qc_one (by omega) (by omega) q40
  generalize ab_uC cn31 70 (0 + 1) = cn32 at q41' ⊢
  have q41 : Qc cn cn32 41 := Qc_mono (by omega) q41'
  have z41 : cn32 71 = 0 := q41.1 71 (by omega) (by omega)
  refine step 308 _ _ _ _ _ _ _ ?_
  dsimp [ab_at, gX8_init, nX8_init, ab_vc, ab_v1, ab_lk, ab_st, ab_en, ab_cst, ab_mc, ab_mS, ab_tk, ab_ns, mR, mAr, ab_ia, ab_ra, ab_oa, ab_tg, ab_len, ab_uI]
  refine ⟨71, rfl, rfl, by omega, (show 4 ≤ 92 by omega), ?_⟩
  rw [z41, zI_id (hi := hiM) (fun j => hiM_k (by omega) (by omega)), zR_id (hr := mP 41) (fun j => rfl), mP_set (by rfl)]
  refine less _ _ _ _ _ _ _ _ 6 88 (by omega) (show 88 ≤ 92 - 4 by omega) ?_
  have q42' : Qc cn (ab_uC cn32 71 (0 + 1)) 42 := Qc_one (by omega) (by omega) q41
  generalize ab_uC cn32 71 (0 + 1) = cn33 at q42' ⊢
  have q42 : Qc cn cn33 42 := Qc_mono (by omega) q42'
  have z42 : cn33 72 = 0 := q42.1 72 (by omega) (by omega)
  refine step 315 _ _ _ _ _ _ _ ?_
  dsimp [ab_at, gX8_init, nX8_init, ab_vc, ab_v1, ab_lk, ab_st, ab_en, ab_cst, ab_mc, ab_mS, ab_tk, ab_ns, mR, mAr, ab_ia, ab_ra, ab_oa, ab_tg, ab_len, ab_uI]
  refine ⟨72, rfl, rfl, by omega, (show 4 ≤ 88 by omega), ?_⟩
  rw [z42, zI_id (hi := hiM) (fun j => hiM_k (by omega) (by omega)), zR_id (hr := mP 42) (fun j => rfl), mP_set (by rfl)]
  refine less _ _ _ _ _ _ _ _ 5 84 (by omega) (show 84 ≤ 88 - 4 by omega) ?_
  have q43' : Qc cn (ab_uC cn33 72 (0 + 1)) 43 := Qc_one (by omega) (by omega) q42
  generalize ab_uC cn33 72 (0 + 1) = cn34 at q43' ⊢
  have q43 : Qc cn cn34 43 := Qc_mono (by omega) q43'
  have z43 : cn34 73 = 0 := q43.1 73 (by omega) (by omega)
  have zr43 : cn34 123 = 0 := q43.2.2.2.2.1 (by omega)
  refine step 322 _ _ _ _ _ _ _ ?_
  dsimp [ab_at, gX8_init, nX8_init, ab_vc, ab_v1, ab_lk, ab_st, ab_en, ab_cst, ab_mc, ab_mS, ab_tk, ab_ns, mR, mAr, ab_ia, ab_ra, ab_oa, ab_tg, ab_len, ab_uI]
  refine ⟨73, 123, 20, by omega, by omega, by omega, by omega, by omega, rfl, rfl, (show 4 ≤ 1000 by omega), by omega, rfl, rfl, fun i _ => rfl, (show 1 + 4 ≤ 5 by omega), (show 4 + 4 * 20 ≤ 84 by omega), ?_⟩
  have em43 : ab_mR (mP 43) cn34 73 123 4 = mP 43 := mR_id (fun j => by
    rw [z43, zr43, Nat.zero_add]
    rfl) (fun i j => rfl)
  have ei43 : ab_mI hiM cn34 73 123 4 = hiM := mI_id (fun j => hiM_k (by omega) (by omega)) (fun i j => hiM_k (by omega) (by omega))
  show J 333 [(0, mO)] [] (ab_mI hiM cn34 73 123 4) (ab_uR (ab_mR (mP 43) cn34 73 123 4) 9 0 43 (some (73, cn34 73))) (ab_uC (ab_uC cn34 73 (cn34 73 + 1)) 123 (cn34 123 + 4)) (5 - (1 + 4)) (84 - (4 + 4 * 20))
  rw [em43, ei43, mP_set (by rw [z43]; rfl)]
  refine less _ _ _ _ _ _ _ _ 0 0 (by omega) (by omega) ?_
  have q44' : Qc cn (ab_uC (ab_uC cn34 73 (cn34 73 + 1)) 123 (cn34 123 + 4)) 44 := Qc_row (by omega) (Qc_one (by omega) (by omega) q43)
  generalize ab_uC (ab_uC cn34 73 (cn34 73 + 1)) 123 (cn34 123 + 4) = cn35 at q44' ⊢
  rw [mP_end]
  refine step 333 _ _ _ _ _ _ _ ?_
  dsimp [ab_at, gX8_init, nX8_init, ab_vc, ab_v1, ab_lk, ab_st, ab_en, ab_cst, ab_mc, ab_mS, ab_tk, ab_ns, mR, mAr, ab_ia, ab_ra, ab_oa, ab_tg, ab_len, ab_uI]
  exact h cn35 q44'.2.2.2.2.2
end INI2
