theorem ab_uI_k {hi : ab_I} {K i j : Nat} {x : Int32} {K' i' j' : Nat} (h : K' ≠ K) : ab_uI hi K i j x K' i' j' = hi K' i' j' := if_neg h
section MOD4
variable {E : ab_E} {d : Nat} {hi : ab_I} {hr : ab_R} {cn : ab_C} {Q : ab_Q} {nR nH nW nV nL : Nat}
/-- the next refuses -/
def mRef1 (hi : ab_I) (k : Nat) : ab_I := ab_uI (ab_uI hi 59 0 k (hi 9 0 0)) 58 0 k (hi 58 0 k + nI 1)
def mRefuse (hi : ab_I) (nR k : Nat) : ab_I := if hi 58 0 k + nI 1 ≤ mrule hi nR (hi 9 0 0) 3 then mRef1 hi k else ab_uI (ab_uI (mRef1 hi k) 58 0 k (nI 0)) 57 0 k (hi 9 0 0)
/-- the next takes -/
noncomputable def mTake (hi : ab_I) (nR w k h : Nat) : ab_I := ab_uI (ab_uI (ab_uI (ab_uI (ab_uI (ab_uI (ab_uI (ab_uI (ab_uI (ab_uI hi 56 0 k (nI 1)) 9 0 36 (hi 9 0 36 + hi 81 (ab_ix (hi 45 0 w)) (ab_ix (hi 35 0 h)))) 43 0 w (nI 1)) 44 0 w (nI h)) 46 0 w (hi 9 0 0)) 47 0 w (mrule hi nR (hi 9 0 0) 4)) 48 0 w (hi 48 0 w + nI 1)) 49 0 w (hi 49 0 w + (hi 9 0 0 - hi 50 0 w))) 51 0 w (hi 51 0 w ||| nI 1 <<< (nI h &&& 31))) 37 0 h (hi 9 0 0)
theorem c_X8_offer (hnb : ab_n E < 2 ^ 31) (M : mok hi nR nH nW nV nL) {x y : Int32}
    (h1 : ∀ w k h, w < nW → x = nI w → hi 43 0 w = nI 0 → mnext hi nR nW w nV = some k → k < nV → h < nH → hi 54 0 k = nI h → y ≠ nI 0 → Q (some (.inl (nI 1))) (mTake hi nR w k h) (mR hr) cn)
    (h2 : ∀ w k, w < nW → x = nI w → hi 43 0 w = nI 0 → mnext hi nR nW w nV = some k → k < nV → y = nI 0 → Q (some (.inl (nI 1))) (mRefuse hi nR k) (mR hr) cn)
    (h0 : (∀ w, w < nW → x = nI w → hi 43 0 w = nI 0 → mnext hi nR nW w nV = none) → Q (some (.inl (nI 0))) hi (mR hr) cn) : ab_Wm E (d + 5) nX8_offer [mO, .inl x, .inl y] hi (mR hr) cn Q := by
  have M' := M
  obtain ⟨⟨hcR, hR⟩, ⟨hcH, hH⟩, ⟨hcW, hW⟩, ⟨hcV, hV⟩, -, mh, -, -, ms, -, mt⟩ := M
  refine ab_Wm_of gX8_offer kX8_offer 2 rfl rfl hnb (fun J step drop less => ?_)
  refine step 0 _ _ _ _ _ _ _ ?_
  dsimp [ab_at, gX8_offer, ab_vc, ab_v1, ab_lk, ab_st, ab_en, ab_cst, ab_mc, ab_mS, ab_tk, ab_ns, mR, mAr, ab_ia, ab_ra, ab_oa, ab_tg, ab_len, ab_uI]
  refine c_X8_next hnb M' (fun w hw e hs => ?_) (fun q => ?_)
  · subst e
    rcases hb : mnext hi nR nW w nV with _ | k
    · dsimp only [mnn]
      refine step 5 _ _ _ _ _ _ _ ?_
      dsimp [ab_at, gX8_offer, ab_vc, ab_v1, ab_lk, ab_st, ab_en, ab_cst, ab_mc, ab_mS, ab_tk, ab_ns, mR, mAr, ab_ia, ab_ra, ab_oa, ab_tg, ab_len, ab_uI]
      refine ⟨fun q => absurd rfl q, fun _ => ⟨Or.inl rfl, h0 fun w' hw' e _ => ?_⟩⟩
      have := (nI_eq (by omega) (by omega)).mp e
      subst this
      exact hb
    · have hk := (nxt_lt hb).1
      obtain ⟨g, hg, eg⟩ := mh k hk
      obtain ⟨t, ht, et⟩ := ms w hw
      obtain ⟨t2, ht2, et2⟩ := mt g hg
      have ik : ab_ix (nI k) = k := ab_ix_nI (by omega)
      have iw : ab_ix (nI w) = w := ab_ix_nI (by omega)
      have ig : ab_ix (nI g) = g := ab_ix_nI (by omega)
      dsimp only [mnn]
      refine step 5 _ _ _ _ _ _ _ ?_
      dsimp [ab_at, gX8_offer, ab_vc, ab_v1, ab_lk, ab_st, ab_en, ab_cst, ab_mc, ab_mS, ab_tk, ab_ns, mR, mAr, ab_ia, ab_ra, ab_oa, ab_tg, ab_len, ab_uI]
      refine ⟨fun _ => ?_, fun q => absurd q (mnn_ne (by omega))⟩
      refine step 13 _ _ _ _ _ _ _ ?_
      dsimp [ab_at, gX8_offer, ab_vc, ab_v1, ab_lk, ab_st, ab_en, ab_cst, ab_mc, ab_mS, ab_tk, ab_ns, mR, mAr, ab_ia, ab_ra, ab_oa, ab_tg, ab_len, ab_uI]
      refine ⟨ab_inI (by omega) (by omega), ?_⟩
      rw [ik, eg]
      refine ⟨fun q => ?_, fun q => ⟨ab_inI (by omega) (by omega), ab_inI (by omega) (by omega), ab_inI (by omega) (by omega), ab_inI (by omega) (by omega), ?_⟩⟩
      · refine step 82 _ _ _ _ _ _ _ ?_
        dsimp [ab_at, gX8_offer, ab_vc, ab_v1, ab_lk, ab_st, ab_en, ab_cst, ab_mc, ab_mS, ab_tk, ab_ns, mR, mAr, ab_ia, ab_ra, ab_oa, ab_tg, ab_len, ab_uI]
        rw [ik, iw, ig]
        refine ⟨ab_inI (by omega) (by omega), ab_inI (by omega) (by omega), ⟨t, by omega, by omega, et⟩, ab_inI (by omega) (by omega), ⟨t2, by omega, by omega, et2⟩, ab_inI (by omega) (by omega), ab_inI (by omega) (by omega), ab_inI (by omega) (by omega), ?_⟩
        refine c_X8_ruled hnb (what := 4) (by omega) hR hcR ?_
        refine step 156 _ _ _ _ _ _ _ ?_
        dsimp [ab_at, gX8_offer, ab_vc, ab_v1, ab_lk, ab_st, ab_en, ab_cst, ab_mc, ab_mS, ab_tk, ab_ns, mR, mAr, ab_ia, ab_ra, ab_oa, ab_tg, ab_len, ab_uI]
        rw [iw, ig]
        refine ⟨ab_inI (by omega) (by omega), ab_inI (by omega) (by omega), ab_inI (by omega) (by omega), ab_inI (by omega) (by omega), ab_inI (by omega) (by omega), ab_inI (by omega) (by omega), ab_inI (by omega) (by omega), ab_inI (by omega) (by omega), ab_inI (by omega) (by omega), Or.inr rfl, ?_⟩
        exact h1 w k g hw rfl hs hb hk hg eg q
      · rw [if_pos rfl]
        refine c_X8_ruled hnb (what := 3) (by omega) hR hcR ?_
        have e3 : mrule (ab_uI (ab_uI hi 59 0 k (hi 9 0 0)) 58 0 k (hi 58 0 k + nI 1)) nR (hi 9 0 0) 3 = mrule hi nR (hi 9 0 0) 3 := rfl
        have hq := h2 w k hw rfl hs hb hk q
        unfold mRefuse at hq
        refine step 60 _ _ _ _ _ _ _ ?_
        dsimp [ab_at, gX8_offer, ab_vc, ab_v1, ab_lk, ab_st, ab_en, ab_cst, ab_mc, ab_mS, ab_tk, ab_ns, mR, mAr, ab_ia, ab_ra, ab_oa, ab_tg, ab_len, ab_uI]
        rw [ik, e3]
        refine ⟨fun q2 => ?_, fun q2 => ⟨ab_inI (by omega) (by omega), ab_inI (by omega) (by omega), ?_⟩⟩
        · rw [if_pos q2] at hq
          refine step 80 _ _ _ _ _ _ _ ?_
          dsimp [ab_at, gX8_offer, ab_vc, ab_v1, ab_lk, ab_st, ab_en, ab_cst, ab_mc, ab_mS, ab_tk, ab_ns, mR, mAr, ab_ia, ab_ra, ab_oa, ab_tg, ab_len, ab_uI]
          exact ⟨Or.inr rfl, hq⟩
        · rw [if_neg q2] at hq
          refine step 80 _ _ _ _ _ _ _ ?_
          dsimp [ab_at, gX8_offer, ab_vc, ab_v1, ab_lk, ab_st, ab_en, ab_cst, ab_mc, ab_mS, ab_tk, ab_ns, mR, mAr, ab_ia, ab_ra, ab_oa, ab_tg, ab_len, ab_uI]
          exact ⟨Or.inr rfl, hq⟩
  · refine step 5 _ _ _ _ _ _ _ ?_
    dsimp [ab_at, gX8_offer, ab_vc, ab_v1, ab_lk, ab_st, ab_en, ab_cst, ab_mc, ab_mS, ab_tk, ab_ns, mR, mAr, ab_ia, ab_ra, ab_oa, ab_tg, ab_len, ab_uI]
    refine ⟨fun q => absurd rfl q, fun _ => ⟨Or.inl rfl, h0 fun w hw e hs => absurd hs (q w hw e)⟩⟩
/-- the rent, and what it does -/
def mRent (hi : ab_I) (nR w : Nat) : Int32 := (if nI 1 < (hi 9 0 0 - hi 46 0 w + nI 29) / nI 30 then (hi 9 0 0 - hi 46 0 w + nI 29) / nI 30 else nI 1) * (hi 42 0 w * mrule hi nR (hi 46 0 w) 5 / nI 1000)
noncomputable def mCharge (hi : ab_I) (nR w h : Nat) : ab_I := ab_uI (ab_uI (ab_uI (ab_uI (ab_uI hi 38 0 h (hi 38 0 h + mRent hi nR w)) 39 0 h (hi 39 0 h + mRent hi nR w)) 102 h w (hi 102 h w + mRent hi nR w)) 9 0 37 (hi 9 0 37 + mRent hi nR w)) 65 0 (ab_ix (hi 41 0 w)) (hi 65 0 (ab_ix (hi 41 0 w)) + mRent hi nR w * mrule hi nR (hi 9 0 0) 6 / nI 100)
theorem c_X8_rented (hnb : ab_n E < 2 ^ 31) (M : mok hi nR nH nW nV nL) {w g : Nat} (hw : w < nW) (hg : g < nH) (eg : hi 44 0 w = nI g) (h : Q (some (.inl (mRent hi nR w))) (mCharge hi nR w g) (mR hr) cn) : ab_Wm E (d + 2) nX8_rented [mO, .inl (nI w)] hi (mR hr) cn Q := by
  obtain ⟨⟨hcR, hR⟩, ⟨hcH, hH⟩, ⟨hcW, hW⟩, -, -, -, -, ma, -⟩ := M
  obtain ⟨a, ha, ea⟩ := ma w hw
  have iw : ab_ix (nI w) = w := ab_ix_nI (by omega)
  have ig : ab_ix (nI g) = g := ab_ix_nI (by omega)
  refine ab_Wm_of gX8_rented kX8_rented 1 rfl rfl hnb (fun J step drop less => ?_)
  refine step 0 _ _ _ _ _ _ _ ?_
  dsimp [ab_at, gX8_rented, ab_vc, ab_v1, ab_lk, ab_st, ab_en, ab_cst, ab_mc, ab_mS, ab_tk, ab_ns, mR, mAr, ab_ia, ab_ra, ab_oa, ab_tg, ab_len, ab_uI]
  rw [iw, eg]
  refine ⟨ab_inI (by omega) (by omega), ab_inI (by omega) (by omega), by decide, ?_⟩
  refine step 29 _ _ _ _ _ _ _ ?_
  dsimp [ab_at, gX8_rented, ab_vc, ab_v1, ab_lk, ab_st, ab_en, ab_cst, ab_mc, ab_mS, ab_tk, ab_ns, mR, mAr, ab_ia, ab_ra, ab_oa, ab_tg, ab_len, ab_uI]
  rw [iw]
  refine ⟨ab_inI (by omega) (by omega), ab_inI (by omega) (by omega), ?_⟩
  refine c_X8_ruled hnb (what := 5) (by omega) hR hcR ?_
  refine step 47 _ _ _ _ _ _ _ ?_
  dsimp [ab_at, gX8_rented, ab_vc, ab_v1, ab_lk, ab_st, ab_en, ab_cst, ab_mc, ab_mS, ab_tk, ab_ns, mR, mAr, ab_ia, ab_ra, ab_oa, ab_tg, ab_len, ab_uI]
  refine ⟨by decide, ?_⟩
  have er : (if nI 1 < (hi 9 0 0 - hi 46 0 w + nI 29) / nI 30 then (hi 9 0 0 - hi 46 0 w + nI 29) / nI 30 else nI 1) * (hi 42 0 w * mrule hi nR (hi 46 0 w) 5 / nI 1000) = mRent hi nR w := rfl
  rw [er]
  unfold mCharge at h
  generalize mRent hi nR w = r at h ⊢
  refine step 55 _ _ _ _ _ _ _ ?_
  dsimp [ab_at, gX8_rented, ab_vc, ab_v1, ab_lk, ab_st, ab_en, ab_cst, ab_mc, ab_mS, ab_tk, ab_ns, mR, mAr, ab_ia, ab_ra, ab_oa, ab_tg, ab_len, ab_uI]
  rw [iw, ig]
  refine ⟨ab_inI (by omega) (by omega), ab_inI (by omega) (by omega), ab_inI (by omega) (by omega), ab_inI (by omega) (by omega), ab_inI (by omega) (by omega), ab_inI (by omega) (by omega), ab_inI (by omega) (by omega), ab_inI (by omega) (by omega), ⟨a, by omega, by omega, ea⟩, ?_⟩
  refine c_X8_ruled hnb (what := 6) (by omega) hR hcR ?_
  refine step 125 _ _ _ _ _ _ _ ?_
  dsimp [ab_at, gX8_rented, ab_vc, ab_v1, ab_lk, ab_st, ab_en, ab_cst, ab_mc, ab_mS, ab_tk, ab_ns, mR, mAr, ab_ia, ab_ra, ab_oa, ab_tg, ab_len, ab_uI]
  refine ⟨by decide, ⟨a, by omega, by omega, ea⟩, ?_⟩
  exact h
def mBack (hi : ab_I) (w g : Nat) : ab_I := ab_uI (ab_uI (ab_uI (ab_uI hi 43 0 w (nI 0)) 45 0 w (hi 35 0 g)) 50 0 w (hi 9 0 0)) 44 0 w (-1)
theorem c_X8_back (hnb : ab_n E < 2 ^ 31) (M : mok hi nR nH nW nV nL) {x : Int32} (h1 : ∀ w g, w < nW → g < nH → x = nI w → hi 43 0 w = nI 1 → hi 44 0 w = nI g → Q (some (.inl (mRent hi nR w))) (mBack (mCharge hi nR w g) w g) (mR hr) cn) (h0 : (∀ w, w < nW → x = nI w → hi 43 0 w ≠ nI 1) → Q (some (.inl (-1))) hi (mR hr) cn) : ab_Wm E (d + 4) nX8_back [mO, .inl x] hi (mR hr) cn Q := by
  have M' := M
  obtain ⟨⟨hcR, hR⟩, ⟨hcH, hH⟩, ⟨hcW, hW⟩, -, -, -, -, -, -, mo, -⟩ := M
  refine ab_Wm_of gX8_back kX8_back 1 rfl rfl hnb (fun J step drop less => ?_)
  refine step 0 _ _ _ _ _ _ _ ?_
  dsimp [ab_at, gX8_back, ab_vc, ab_v1, ab_lk, ab_st, ab_en, ab_cst, ab_mc, ab_mS, ab_tk, ab_ns, mR, mAr, ab_ia, ab_ra, ab_oa, ab_tg, ab_len, ab_uI]
  refine c_X8_isLent hnb M' (fun w hw e hs => ?_) (fun q => ?_)
  · subst e
    obtain ⟨g, hg, eg⟩ := mo w hw (by rw [hs]; decide)
    have iw : ab_ix (nI w) = w := ab_ix_nI (by omega)
    have ig : ab_ix (nI g) = g := ab_ix_nI (by omega)
    refine step 5 _ _ _ _ _ _ _ ?_
    dsimp [ab_at, gX8_back, ab_vc, ab_v1, ab_lk, ab_st, ab_en, ab_cst, ab_mc, ab_mS, ab_tk, ab_ns, mR, mAr, ab_ia, ab_ra, ab_oa, ab_tg, ab_len, ab_uI]
    refine ⟨fun _ => ?_, fun q => absurd q (by decide)⟩
    refine step 10 _ _ _ _ _ _ _ ?_
    dsimp [ab_at, gX8_back, ab_vc, ab_v1, ab_lk, ab_st, ab_en, ab_cst, ab_mc, ab_mS, ab_tk, ab_ns, mR, mAr, ab_ia, ab_ra, ab_oa, ab_tg, ab_len, ab_uI]
    refine c_X8_rented hnb M' hw hg eg ?_
    have h1' := h1 w g hw hg rfl hs eg
    have eg' : mCharge hi nR w g 44 0 w = nI g := by
      unfold mCharge
      rw [ab_uI_k (by omega), ab_uI_k (by omega), ab_uI_k (by omega), ab_uI_k (by omega), ab_uI_k (by omega)]
      exact eg
    unfold mBack at h1'
    generalize mRent hi nR w = r at h1' ⊢
    generalize mCharge hi nR w g = hi1 at h1' eg' ⊢
    refine step 15 _ _ _ _ _ _ _ ?_
    dsimp [ab_at, gX8_back, ab_vc, ab_v1, ab_lk, ab_st, ab_en, ab_cst, ab_mc, ab_mS, ab_tk, ab_ns, mR, mAr, ab_ia, ab_ra, ab_oa, ab_tg, ab_len, ab_uI]
    rw [iw, eg', ig]
    exact ⟨ab_inI (by omega) (by omega), ab_inI (by omega) (by omega), ab_inI (by omega) (by omega), ab_inI (by omega) (by omega), ab_inI (by omega) (by omega), ab_inI (by omega) (by omega), h1'⟩
  · refine step 5 _ _ _ _ _ _ _ ?_
    dsimp [ab_at, gX8_back, ab_vc, ab_v1, ab_lk, ab_st, ab_en, ab_cst, ab_mc, ab_mS, ab_tk, ab_ns, mR, mAr, ab_ia, ab_ra, ab_oa, ab_tg, ab_len, ab_uI]
    exact ⟨fun q => absurd rfl q, fun _ => h0 q⟩
/-- a work ends: its open wishes go -/
def mEnds (hi : ab_I) (w : Nat) (how : Int32) : Nat → ab_I
  | 0 => ab_uI hi 43 0 w how
  | k + 1 => if mEnds hi w how k 56 0 k = nI 0 ∧ hi 55 0 k = nI w then ab_uI (mEnds hi w how k) 56 0 k (nI 2) else mEnds hi w how k
theorem mEnds_ne {hi : ab_I} {w : Nat} {how : Int32} {K i j : Nat} (h : K ≠ 43) (h2 : K ≠ 56) : ∀ k, mEnds hi w how k K i j = hi K i j
  | 0 => by
    show ab_uI _ _ _ _ _ _ _ _ = _
    unfold ab_uI
    rw [if_neg h]
  | k + 1 => by
    unfold mEnds
    split
    · unfold ab_uI
      rw [if_neg h2]
      exact mEnds_ne h h2 k
    · exact mEnds_ne h h2 k
theorem c_X8_ends (hnb : ab_n E < 2 ^ 31) {w n : Nat} (hcV : hi 9 0 30 = nI n) (hV : n ≤ 200) (hw : w < 40) {how : Int32} (h : Q none (mEnds hi w how n) (mR hr) cn) : ab_Wm E (d + 1) nX8_ends [mO, .inl (nI w), .inl how] hi (mR hr) cn Q := by
  refine ab_Wm_of gX8_ends kX8_ends 0 rfl rfl hnb (fun J step drop less => ?_)
  have loop : ∀ m k, k + m = n → J 9 [(0, mO), (1, .inl (nI w)), (2, .inl how), (3, .inl (nI k))] [] (mEnds hi w how k) (mR hr) cn 0 0 := by
    intro m
    induction m with
    | zero =>
      intro k hk
      have hk : k = n := by omega
      subst hk
      refine step 9 _ _ _ _ _ _ _ ?_
      dsimp [ab_at, gX8_ends, ab_vc, ab_v1, ab_lk, ab_st, ab_en, ab_cst, ab_mc, ab_mS, ab_tk, ab_ns, mR, mAr, ab_ia, ab_ra, ab_oa, ab_tg, ab_len, ab_uI]
      rw [mEnds_ne (by omega) (by omega), hcV]
      refine ⟨fun _ => ?_, fun q => absurd (Int32.le_refl _) q⟩
      refine step 49 _ _ _ _ _ _ _ ?_
      dsimp [ab_at, gX8_ends, ab_vc, ab_v1, ab_lk, ab_st, ab_en, ab_cst, ab_mc, ab_mS, ab_tk, ab_ns, mR, mAr, ab_ia, ab_ra, ab_oa, ab_tg, ab_len, ab_uI]
      exact h
    | succ m ih =>
      intro k hk
      have ik : ab_ix (nI k) = k := ab_ix_nI (by omega)
      have on : ∀ hi1, mEnds hi w how (k + 1) = hi1 → J 43 [(0, mO), (1, .inl (nI w)), (2, .inl how), (3, .inl (nI k))] [] hi1 (mR hr) cn 0 0 := fun hi1 he => by
        subst he
        refine step 43 _ _ _ _ _ _ _ ?_
        dsimp [ab_at, gX8_ends, ab_vc, ab_v1, ab_lk, ab_st, ab_en, ab_cst, ab_mc, ab_mS, ab_tk, ab_ns, mR, mAr, ab_ia, ab_ra, ab_oa, ab_tg, ab_len, ab_uI]
        rw [nI_add]
        exact ih (k + 1) (by omega)
      have e55 := mEnds_ne (hi := hi) (w := w) (how := how) (K := 55) (i := 0) (j := k) (by omega) (by omega) k
      refine step 9 _ _ _ _ _ _ _ ?_
      dsimp [ab_at, gX8_ends, ab_vc, ab_v1, ab_lk, ab_st, ab_en, ab_cst, ab_mc, ab_mS, ab_tk, ab_ns, mR, mAr, ab_ia, ab_ra, ab_oa, ab_tg, ab_len, ab_uI]
      rw [mEnds_ne (by omega) (by omega), hcV, ik, e55]
      refine ⟨fun q => absurd ((nI_leI (by omega) (by omega)).mp q) (by omega), fun _ => ⟨ab_inI (by omega) (by omega), fun q => on _ ?_, fun q => ⟨ab_inI (by omega) (by omega), fun q2 => on _ ?_, fun q2 => ⟨ab_inI (by omega) (by omega), on _ ?_⟩⟩⟩⟩
      · show (if _ then _ else _) = _
        rw [if_neg fun z => q z.1]
      · show (if _ then _ else _) = _
        rw [if_neg fun z => q2 z.2]
      · show (if _ then _ else _) = _
        rw [if_pos ⟨q, q2⟩]
  refine step 0 _ _ _ _ _ _ _ ?_
  dsimp [ab_at, gX8_ends, ab_vc, ab_v1, ab_lk, ab_st, ab_en, ab_cst, ab_mc, ab_mS, ab_tk, ab_ns, mR, mAr, ab_ia, ab_ra, ab_oa, ab_tg, ab_len, ab_uI]
  rw [ab_ix_nI (show w < 100000 by omega)]
  exact ⟨ab_inI (by omega) (by omega), loop n 0 (by omega)⟩
end MOD4
