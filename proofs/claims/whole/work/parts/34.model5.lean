section MOD5
variable {E : ab_E} {d : Nat} {hi : ab_I} {hr : ab_R} {cn : ab_C} {Q : ab_Q} {nR nH nW nV nL : Nat}
theorem mCharge_k {nR w g K i j : Nat} (h1 : K ≠ 38) (h2 : K ≠ 39) (h3 : K ≠ 102) (h4 : ¬ (K = 9 ∧ j = 37)) (h5 : K ≠ 65) : mCharge hi nR w g K i j = hi K i j := by
  unfold mCharge
  rw [ab_uI_k h5]
  by_cases e : K = 9
  · subst e
    have hj : ¬ j = 37 := fun q => h4 ⟨rfl, q⟩
    unfold ab_uI
    simp [hj]
  · rw [ab_uI_k e, ab_uI_k h3, ab_uI_k h2, ab_uI_k h1]
/-- the price -/
def mPrice (hi : ab_I) (w g : Nat) : Int32 := if hi 42 0 w / nI 2 < hi 42 0 w - hi 102 g w / nI 2 then hi 42 0 w - hi 102 g w / nI 2 else hi 42 0 w / nI 2
def mSell (hi : ab_I) (w g : Nat) : ab_I := ab_uI (ab_uI hi 38 0 g (hi 38 0 g + mPrice hi w g)) 9 0 38 (hi 9 0 38 + mPrice hi w g)
def mLose (hi : ab_I) (w g : Nat) : ab_I := ab_uI hi 38 0 g (hi 38 0 g + hi 42 0 w)
theorem c_X8_sell (hnb : ab_n E < 2 ^ 31) (M : mok hi nR nH nW nV nL) {x : Int32} (h1 : ∀ w g, w < nW → g < nH → x = nI w → hi 43 0 w = nI 1 → hi 44 0 w = nI g → Q (some (.inl (mPrice (mCharge hi nR w g) w g))) (mEnds (mSell (mCharge hi nR w g) w g) w (nI 2) nV) (mR hr) cn) (h0 : (∀ w, w < nW → x = nI w → hi 43 0 w ≠ nI 1) → Q (some (.inl (-1))) hi (mR hr) cn) : ab_Wm E (d + 4) nX8_sell [mO, .inl x] hi (mR hr) cn Q := by
  have M' := M
  obtain ⟨⟨hcR, hR⟩, ⟨hcH, hH⟩, ⟨hcW, hW⟩, ⟨hcV, hV⟩, -, -, -, -, -, mo, -⟩ := M
  refine ab_Wm_of gX8_sell kX8_sell 1 rfl rfl hnb (fun J step drop less => ?_)
  refine step 0 _ _ _ _ _ _ _ ?_
  dsimp [ab_at, gX8_sell, ab_vc, ab_v1, ab_lk, ab_st, ab_en, ab_cst, ab_mc, ab_mS, ab_tk, ab_ns, mR, mAr, ab_ia, ab_ra, ab_oa, ab_tg, ab_len, ab_uI]
  refine c_X8_isLent hnb M' (fun w hw e hs => ?_) (fun q => ?_)
  · subst e
    obtain ⟨g, hg, eg⟩ := mo w hw (by rw [hs]; decide)
    have iw : ab_ix (nI w) = w := ab_ix_nI (by omega)
    have ig : ab_ix (nI g) = g := ab_ix_nI (by omega)
    refine step 5 _ _ _ _ _ _ _ ?_
    dsimp [ab_at, gX8_sell, ab_vc, ab_v1, ab_lk, ab_st, ab_en, ab_cst, ab_mc, ab_mS, ab_tk, ab_ns, mR, mAr, ab_ia, ab_ra, ab_oa, ab_tg, ab_len, ab_uI]
    refine ⟨fun _ => ?_, fun q => absurd q (by decide)⟩
    refine step 10 _ _ _ _ _ _ _ ?_
    dsimp [ab_at, gX8_sell, ab_vc, ab_v1, ab_lk, ab_st, ab_en, ab_cst, ab_mc, ab_mS, ab_tk, ab_ns, mR, mAr, ab_ia, ab_ra, ab_oa, ab_tg, ab_len, ab_uI]
    rw [iw, eg]
    refine ⟨ab_inI (by omega) (by omega), ?_⟩
    refine c_X8_rented hnb M' hw hg eg ?_
    have h1' := h1 w g hw hg rfl hs eg
    have hcV' : mCharge hi nR w g 9 0 30 = nI nV := by rw [mCharge_k (by omega) (by omega) (by omega) (by omega) (by omega)]; exact hcV
    generalize mRent hi nR w = r at h1' ⊢
    generalize mCharge hi nR w g = hi1 at h1' hcV' ⊢
    refine step 22 _ _ _ _ _ _ _ ?_
    dsimp [ab_at, gX8_sell, ab_vc, ab_v1, ab_lk, ab_st, ab_en, ab_cst, ab_mc, ab_mS, ab_tk, ab_ns, mR, mAr, ab_ia, ab_ra, ab_oa, ab_tg, ab_len, ab_uI]
    rw [iw, ig]
    refine ⟨ab_inI (by omega) (by omega), by decide, ab_inI (by omega) (by omega), ab_inI (by omega) (by omega), ab_inI (by omega) (by omega), by decide, ?_⟩
    have ep : (if hi1 42 0 w / nI 2 < hi1 42 0 w - hi1 102 g w / nI 2 then hi1 42 0 w - hi1 102 g w / nI 2 else hi1 42 0 w / nI 2) = mPrice hi1 w g := rfl
    rw [ep]
    unfold mSell at h1'
    generalize mPrice hi1 w g = p at h1' ⊢
    refine step 53 _ _ _ _ _ _ _ ?_
    dsimp [ab_at, gX8_sell, ab_vc, ab_v1, ab_lk, ab_st, ab_en, ab_cst, ab_mc, ab_mS, ab_tk, ab_ns, mR, mAr, ab_ia, ab_ra, ab_oa, ab_tg, ab_len, ab_uI]
    rw [ig]
    refine ⟨ab_inI (by omega) (by omega), ab_inI (by omega) (by omega), ?_⟩
    have hcV2 : ab_uI (ab_uI hi1 38 0 g (hi1 38 0 g + p)) 9 0 38 (hi1 9 0 38 + p) 9 0 30 = nI nV := hcV'
    refine c_X8_ends hnb (n := nV) (w := w) hcV2 hV (by omega) ?_
    refine step 81 _ _ _ _ _ _ _ ?_
    dsimp [ab_at, gX8_sell, ab_vc, ab_v1, ab_lk, ab_st, ab_en, ab_cst, ab_mc, ab_mS, ab_tk, ab_ns, mR, mAr, ab_ia, ab_ra, ab_oa, ab_tg, ab_len, ab_uI]
    exact h1'
  · refine step 5 _ _ _ _ _ _ _ ?_
    dsimp [ab_at, gX8_sell, ab_vc, ab_v1, ab_lk, ab_st, ab_en, ab_cst, ab_mc, ab_mS, ab_tk, ab_ns, mR, mAr, ab_ia, ab_ra, ab_oa, ab_tg, ab_len, ab_uI]
    exact ⟨fun q => absurd rfl q, fun _ => h0 q⟩
theorem c_X8_lose (hnb : ab_n E < 2 ^ 31) (M : mok hi nR nH nW nV nL) {x : Int32} (h1 : ∀ w g, w < nW → g < nH → x = nI w → hi 43 0 w = nI 1 → hi 44 0 w = nI g → Q (some (.inl (nI 1))) (mEnds (mLose (mCharge hi nR w g) w g) w (nI 3) nV) (mR hr) cn) (h0 : (∀ w, w < nW → x = nI w → hi 43 0 w ≠ nI 1) → Q (some (.inl (nI 0))) hi (mR hr) cn) : ab_Wm E (d + 4) nX8_lose [mO, .inl x] hi (mR hr) cn Q := by
  have M' := M
  obtain ⟨⟨hcR, hR⟩, ⟨hcH, hH⟩, ⟨hcW, hW⟩, ⟨hcV, hV⟩, -, -, -, -, -, mo, -⟩ := M
  refine ab_Wm_of gX8_lose kX8_lose 2 rfl rfl hnb (fun J step drop less => ?_)
  refine step 0 _ _ _ _ _ _ _ ?_
  dsimp [ab_at, gX8_lose, ab_vc, ab_v1, ab_lk, ab_st, ab_en, ab_cst, ab_mc, ab_mS, ab_tk, ab_ns, mR, mAr, ab_ia, ab_ra, ab_oa, ab_tg, ab_len, ab_uI]
  refine c_X8_isLent hnb M' (fun w hw e hs => ?_) (fun q => ?_)
  · subst e
    obtain ⟨g, hg, eg⟩ := mo w hw (by rw [hs]; decide)
    have iw : ab_ix (nI w) = w := ab_ix_nI (by omega)
    have ig : ab_ix (nI g) = g := ab_ix_nI (by omega)
    refine step 5 _ _ _ _ _ _ _ ?_
    dsimp [ab_at, gX8_lose, ab_vc, ab_v1, ab_lk, ab_st, ab_en, ab_cst, ab_mc, ab_mS, ab_tk, ab_ns, mR, mAr, ab_ia, ab_ra, ab_oa, ab_tg, ab_len, ab_uI]
    refine ⟨fun _ => ?_, fun q => absurd q (by decide)⟩
    refine step 10 _ _ _ _ _ _ _ ?_
    dsimp [ab_at, gX8_lose, ab_vc, ab_v1, ab_lk, ab_st, ab_en, ab_cst, ab_mc, ab_mS, ab_tk, ab_ns, mR, mAr, ab_ia, ab_ra, ab_oa, ab_tg, ab_len, ab_uI]
    refine c_X8_rented hnb M' hw hg eg ?_
    have h1' := h1 w g hw hg rfl hs eg
    have hcV' : mCharge hi nR w g 9 0 30 = nI nV := by rw [mCharge_k (by omega) (by omega) (by omega) (by omega) (by omega)]; exact hcV
    have eg' : mCharge hi nR w g 44 0 w = nI g := by rw [mCharge_k (by omega) (by omega) (by omega) (by omega) (by omega)]; exact eg
    unfold mLose at h1'
    generalize mRent hi nR w = r at h1' ⊢
    generalize mCharge hi nR w g = hi1 at h1' hcV' eg' ⊢
    refine step 15 _ _ _ _ _ _ _ ?_
    dsimp [ab_at, gX8_lose, ab_vc, ab_v1, ab_lk, ab_st, ab_en, ab_cst, ab_mc, ab_mS, ab_tk, ab_ns, mR, mAr, ab_ia, ab_ra, ab_oa, ab_tg, ab_len, ab_uI]
    rw [iw, eg', ig]
    refine ⟨ab_inI (by omega) (by omega), ab_inI (by omega) (by omega), ab_inI (by omega) (by omega), ab_inI (by omega) (by omega), ?_⟩
    have hcV2 : ab_uI hi1 38 0 g (hi1 38 0 g + hi1 42 0 w) 9 0 30 = nI nV := hcV'
    refine c_X8_ends hnb (n := nV) (w := w) hcV2 hV (by omega) ?_
    refine step 42 _ _ _ _ _ _ _ ?_
    dsimp [ab_at, gX8_lose, ab_vc, ab_v1, ab_lk, ab_st, ab_en, ab_cst, ab_mc, ab_mS, ab_tk, ab_ns, mR, mAr, ab_ia, ab_ra, ab_oa, ab_tg, ab_len, ab_uI]
    exact ⟨Or.inr rfl, h1'⟩
  · refine step 5 _ _ _ _ _ _ _ ?_
    dsimp [ab_at, gX8_lose, ab_vc, ab_v1, ab_lk, ab_st, ab_en, ab_cst, ab_mc, ab_mS, ab_tk, ab_ns, mR, mAr, ab_ia, ab_ra, ab_oa, ab_tg, ab_len, ab_uI]
    exact ⟨fun q => absurd rfl q, fun _ => ⟨Or.inl rfl, h0 q⟩⟩
theorem c_X8_pay (hnb : ab_n E < 2 ^ 31) (M : mok hi nR nH nW nV nL) {x n : Int32} (h1 : ∀ g, g < nH → x = nI g → nI 1 ≤ n → n ≤ hi 38 0 g → Q (some (.inl (hi 38 0 g - n))) (ab_uI hi 38 0 g (hi 38 0 g - n)) (mR hr) cn) (h0 : (∀ g, g < nH → x = nI g → ¬ (nI 1 ≤ n ∧ n ≤ hi 38 0 g)) → Q (some (.inl (-1))) hi (mR hr) cn) : ab_Wm E (d + 3) nX8_pay [mO, .inl x, .inl n] hi (mR hr) cn Q := by
  obtain ⟨-, ⟨hcH, hH⟩, -⟩ := M
  refine ab_Wm_of gX8_pay kX8_pay 1 rfl rfl hnb (fun J step drop less => ?_)
  have r22 : (∀ g, g < nH → x = nI g → ¬ (nI 1 ≤ n ∧ n ≤ hi 38 0 g)) → ∀ L ck cs, J 22 L [] hi (mR hr) cn ck cs := fun q L ck cs => by
    refine step 22 _ _ _ _ _ _ _ ?_
    dsimp [ab_at, gX8_pay, ab_vc, ab_v1, ab_lk, ab_st, ab_en, ab_cst, ab_mc, ab_mS, ab_tk, ab_ns, mR, mAr, ab_ia, ab_ra, ab_oa, ab_tg, ab_len, ab_uI]
    exact h0 q
  refine step 0 _ _ _ _ _ _ _ ?_
  dsimp [ab_at, gX8_pay, ab_vc, ab_v1, ab_lk, ab_st, ab_en, ab_cst, ab_mc, ab_mS, ab_tk, ab_ns, mR, mAr, ab_ia, ab_ra, ab_oa, ab_tg, ab_len, ab_uI]
  refine c_X8_isHome hnb hH hcH (fun g hg e => ?_) (fun q => ?_)
  · subst e
    have ig : ab_ix (nI g) = g := ab_ix_nI (by omega)
    refine step 5 _ _ _ _ _ _ _ ?_
    dsimp [ab_at, gX8_pay, ab_vc, ab_v1, ab_lk, ab_st, ab_en, ab_cst, ab_mc, ab_mS, ab_tk, ab_ns, mR, mAr, ab_ia, ab_ra, ab_oa, ab_tg, ab_len, ab_uI]
    refine ⟨fun q => absurd q (by decide), fun _ => ⟨ab_inI (by omega) (by omega), ?_⟩⟩
    rw [ig]
    refine c_X8_in hnb (fun q1 q2 => ?_) (fun q => ?_)
    · refine step 19 _ _ _ _ _ _ _ ?_
      dsimp [ab_at, gX8_pay, ab_vc, ab_v1, ab_lk, ab_st, ab_en, ab_cst, ab_mc, ab_mS, ab_tk, ab_ns, mR, mAr, ab_ia, ab_ra, ab_oa, ab_tg, ab_len, ab_uI]
      refine ⟨fun _ => ?_, fun q => absurd q (by decide)⟩
      refine step 24 _ _ _ _ _ _ _ ?_
      dsimp [ab_at, gX8_pay, ab_vc, ab_v1, ab_lk, ab_st, ab_en, ab_cst, ab_mc, ab_mS, ab_tk, ab_ns, mR, mAr, ab_ia, ab_ra, ab_oa, ab_tg, ab_len, ab_uI]
      rw [ig, if_pos rfl]
      exact ⟨ab_inI (by omega) (by omega), ab_inI (by omega) (by omega), ab_inI (by omega) (by omega), h1 g hg rfl q1 q2⟩
    · refine step 19 _ _ _ _ _ _ _ ?_
      dsimp [ab_at, gX8_pay, ab_vc, ab_v1, ab_lk, ab_st, ab_en, ab_cst, ab_mc, ab_mS, ab_tk, ab_ns, mR, mAr, ab_ia, ab_ra, ab_oa, ab_tg, ab_len, ab_uI]
      refine ⟨fun q => absurd rfl q, fun _ => r22 (fun g' hg' e => ?_) _ _ _⟩
      have := (nI_eq (by omega) (by omega)).mp e
      subst this
      exact q
  · refine step 5 _ _ _ _ _ _ _ ?_
    dsimp [ab_at, gX8_pay, ab_vc, ab_v1, ab_lk, ab_st, ab_en, ab_cst, ab_mc, ab_mS, ab_tk, ab_ns, mR, mAr, ab_ia, ab_ra, ab_oa, ab_tg, ab_len, ab_uI]
    exact ⟨fun _ => r22 (fun g hg e => absurd e (q g hg)) _ _ _, fun q => absurd rfl q⟩
/-- a look -/
def mLook (hi : ab_I) (l w : Nat) (m : Int32) : ab_I := ab_uI (ab_uI (ab_uI (ab_uI (ab_uI hi 61 0 l (nI w)) 62 0 l m) 63 0 l (hi 51 0 w)) 9 0 34 (nI (l + 1))) 51 0 w (if hi 43 0 w = nI 1 then nI 1 <<< (hi 44 0 w &&& 31) else nI 0)
def mLooks (hi : ab_I) (w : Nat) : Nat → Int32 := sumI (fun k => if hi 61 0 k = nI w then nI 1 else nI 0)
theorem c_X8_look (hnb : ab_n E < 2 ^ 31) (M : mok hi nR nH nW nV nL) {x m : Int32} (h1 : ∀ w, w < nW → x = nI w → ¬ nI 1 < hi 43 0 w → okIn m 0 65535 → nL < 300 → Q (some (.inl (mLooks (mLook hi nL w m) w (nL + 1)))) (mLook hi nL w m) (mR hr) cn) (h0 : ¬ (∃ w, w < nW ∧ x = nI w ∧ ¬ nI 1 < hi 43 0 w ∧ okIn m 0 65535 ∧ nL < 300) → Q (some (.inl (-1))) hi (mR hr) cn) : ab_Wm E (d + 3) nX8_look [mO, .inl x, .inl m] hi (mR hr) cn Q := by
  obtain ⟨-, -, ⟨hcW, hW⟩, -, ⟨hcL, hL⟩, -⟩ := M
  refine ab_Wm_of gX8_look kX8_look 1 rfl rfl hnb (fun J step drop less => ?_)
  have r38 : ¬ (∃ w, w < nW ∧ x = nI w ∧ ¬ nI 1 < hi 43 0 w ∧ okIn m 0 65535 ∧ nL < 300) → ∀ L ck cs, J 38 L [] hi (mR hr) cn ck cs := fun q L ck cs => by
    refine step 38 _ _ _ _ _ _ _ ?_
    dsimp [ab_at, gX8_look, ab_vc, ab_v1, ab_lk, ab_st, ab_en, ab_cst, ab_mc, ab_mS, ab_tk, ab_ns, mR, mAr, ab_ia, ab_ra, ab_oa, ab_tg, ab_len, ab_uI]
    exact h0 q
  refine step 0 _ _ _ _ _ _ _ ?_
  dsimp [ab_at, gX8_look, ab_vc, ab_v1, ab_lk, ab_st, ab_en, ab_cst, ab_mc, ab_mS, ab_tk, ab_ns, mR, mAr, ab_ia, ab_ra, ab_oa, ab_tg, ab_len, ab_uI]
  refine c_X8_isWork hnb hW hcW (fun w hw e => ?_) (fun q => ?_)
  · subst e
    have iw : ab_ix (nI w) = w := ab_ix_nI (by omega)
    have un : ∀ {P : Nat → Prop}, (∃ w', w' < nW ∧ nI w = nI w' ∧ P w') → P w := fun ⟨w', hw', e, p⟩ => by
      have := (nI_eq (by omega) (by omega)).mp e
      subst this
      exact p
    refine step 5 _ _ _ _ _ _ _ ?_
    dsimp [ab_at, gX8_look, ab_vc, ab_v1, ab_lk, ab_st, ab_en, ab_cst, ab_mc, ab_mS, ab_tk, ab_ns, mR, mAr, ab_ia, ab_ra, ab_oa, ab_tg, ab_len, ab_uI]
    refine ⟨fun q => absurd q (by decide), fun _ => ⟨ab_inI (by omega) (by omega), ?_⟩⟩
    rw [iw]
    refine ⟨fun q => r38 (fun z => (un z).1 q) _ _ _, fun q1 => ?_⟩
    refine c_X8_in hnb (fun m1 m2 => ?_) (fun q => ?_)
    · refine step 25 _ _ _ _ _ _ _ ?_
      dsimp [ab_at, gX8_look, ab_vc, ab_v1, ab_lk, ab_st, ab_en, ab_cst, ab_mc, ab_mS, ab_tk, ab_ns, mR, mAr, ab_ia, ab_ra, ab_oa, ab_tg, ab_len, ab_uI]
      refine ⟨fun q => absurd q (by decide), fun _ => ?_⟩
      rw [hcL]
      refine ⟨fun q => ?_, fun q => r38 (fun z => ?_) _ _ _⟩
      · have hlt : nL < 300 := by
          rcases Nat.lt_or_ge nL 300 with z | z
          · exact z
          · exact absurd (by rw [show nL = 300 by omega]) q
        have hq := h1 w hw rfl q1 ⟨m1, m2⟩ hlt
        have il : ab_ix (nI nL) = nL := ab_ix_nI (by omega)
        have r112 : ∀ v, (if hi 43 0 w = nI 1 then nI 1 <<< (hi 44 0 w &&& 31) else nI 0) = v → J 112 [(0, mO), (1, .inl (nI w)), (2, .inl m)] [.inl v, .inl (nI w), .inr (some (51, 0))] (ab_uI (ab_uI (ab_uI (ab_uI hi 61 0 nL (nI w)) 62 0 nL m) 63 0 nL (hi 51 0 w)) 9 0 34 (nI (nL + 1))) (mR hr) cn 0 0 := fun v hv => by
          subst hv
          refine step 112 _ _ _ _ _ _ _ ?_
          dsimp [ab_at, gX8_look, ab_vc, ab_v1, ab_lk, ab_st, ab_en, ab_cst, ab_mc, ab_mS, ab_tk, ab_ns, mR, mAr, ab_ia, ab_ra, ab_oa, ab_tg, ab_len, ab_uI]
          rw [iw]
          refine ⟨ab_inI (by omega) (by omega), ?_⟩
          have e1 : ab_uI (ab_uI (ab_uI (ab_uI (ab_uI hi 61 0 nL (nI w)) 62 0 nL m) 63 0 nL (hi 51 0 w)) 9 0 34 (nI (nL + 1))) 51 0 w (if hi 43 0 w = nI 1 then nI 1 <<< (hi 44 0 w &&& 31) else nI 0) = mLook hi nL w m := rfl
          have hc' : mLook hi nL w m 9 0 34 = nI (nL + 1) := rfl
          rw [e1]
          generalize mLook hi nL w m = hi1 at hq hc' ⊢
          have loop : ∀ mm k, k + mm = nL + 1 → J 118 [(0, mO), (1, .inl (nI w)), (2, .inl m), (3, .inl (mLooks hi1 w k)), (4, .inl (nI k))] [] hi1 (mR hr) cn 0 0 := by
            intro mm
            induction mm with
            | zero =>
              intro k hk
              have hk : k = nL + 1 := by omega
              subst hk
              refine step 118 _ _ _ _ _ _ _ ?_
              dsimp [ab_at, gX8_look, ab_vc, ab_v1, ab_lk, ab_st, ab_en, ab_cst, ab_mc, ab_mS, ab_tk, ab_ns, mR, mAr, ab_ia, ab_ra, ab_oa, ab_tg, ab_len, ab_uI]
              refine ⟨fun _ => ?_, fun q => absurd (by rw [hc']; exact Int32.le_refl _) q⟩
              refine step 152 _ _ _ _ _ _ _ ?_
              dsimp [ab_at, gX8_look, ab_vc, ab_v1, ab_lk, ab_st, ab_en, ab_cst, ab_mc, ab_mS, ab_tk, ab_ns, mR, mAr, ab_ia, ab_ra, ab_oa, ab_tg, ab_len, ab_uI]
              exact hq
            | succ mm ih =>
              intro k hk
              have ik : ab_ix (nI k) = k := ab_ix_nI (by omega)
              have on : ∀ z, (if hi1 61 0 k = nI w then nI 1 else nI 0) = z → J 144 [(0, mO), (1, .inl (nI w)), (2, .inl m), (3, .inl (mLooks hi1 w k)), (4, .inl (nI k))] [.inl z, .inl (mLooks hi1 w k)] hi1 (mR hr) cn 0 0 := fun z hz => by
                subst hz
                refine step 144 _ _ _ _ _ _ _ ?_
                dsimp [ab_at, gX8_look, ab_vc, ab_v1, ab_lk, ab_st, ab_en, ab_cst, ab_mc, ab_mS, ab_tk, ab_ns, mR, mAr, ab_ia, ab_ra, ab_oa, ab_tg, ab_len, ab_uI]
                rw [nI_add]
                exact ih (k + 1) (by omega)
              refine step 118 _ _ _ _ _ _ _ ?_
              dsimp [ab_at, gX8_look, ab_vc, ab_v1, ab_lk, ab_st, ab_en, ab_cst, ab_mc, ab_mS, ab_tk, ab_ns, mR, mAr, ab_ia, ab_ra, ab_oa, ab_tg, ab_len, ab_uI]
              refine ⟨fun q => absurd (by rw [hc'] at q; exact (nI_leI (by omega) (by omega)).mp q) (by omega), fun _ => ⟨ab_inI (by omega) (by omega), ?_⟩⟩
              rw [ik]
              refine ⟨fun q => ?_, fun q => on _ (if_pos q)⟩
              refine step 143 _ _ _ _ _ _ _ ?_
              dsimp [ab_at, gX8_look, ab_vc, ab_v1, ab_lk, ab_st, ab_en, ab_cst, ab_mc, ab_mS, ab_tk, ab_ns, mR, mAr, ab_ia, ab_ra, ab_oa, ab_tg, ab_len, ab_uI]
              exact on _ (if_neg q)
          exact loop (nL + 1) 0 (by omega)
        refine step 40 _ _ _ _ _ _ _ ?_
        dsimp [ab_at, gX8_look, ab_vc, ab_v1, ab_lk, ab_st, ab_en, ab_cst, ab_mc, ab_mS, ab_tk, ab_ns, mR, mAr, ab_ia, ab_ra, ab_oa, ab_tg, ab_len, ab_uI]
        rw [iw, hcL, il, nI_add]
        refine ⟨ab_inI (by omega) (by omega), ab_inI (by omega) (by omega), ab_inI (by omega) (by omega), ab_inI (by omega) (by omega), ab_inI (by omega) (by omega), fun q => ?_, fun q => ⟨ab_inI (by omega) (by omega), r112 _ (if_pos q)⟩⟩
        refine step 111 _ _ _ _ _ _ _ ?_
        dsimp [ab_at, gX8_look, ab_vc, ab_v1, ab_lk, ab_st, ab_en, ab_cst, ab_mc, ab_mS, ab_tk, ab_ns, mR, mAr, ab_ia, ab_ra, ab_oa, ab_tg, ab_len, ab_uI]
        exact r112 _ (if_neg q)
      · have := (nI_eq (by omega) (by omega)).mp q
        have := (un z).2.2
        omega
    · refine step 25 _ _ _ _ _ _ _ ?_
      dsimp [ab_at, gX8_look, ab_vc, ab_v1, ab_lk, ab_st, ab_en, ab_cst, ab_mc, ab_mS, ab_tk, ab_ns, mR, mAr, ab_ia, ab_ra, ab_oa, ab_tg, ab_len, ab_uI]
      exact ⟨fun _ => r38 (fun z => q (un z).2.1) _ _ _, fun q => absurd rfl q⟩
  · refine step 5 _ _ _ _ _ _ _ ?_
    dsimp [ab_at, gX8_look, ab_vc, ab_v1, ab_lk, ab_st, ab_en, ab_cst, ab_mc, ab_mS, ab_tk, ab_ns, mR, mAr, ab_ia, ab_ra, ab_oa, ab_tg, ab_len, ab_uI]
    exact ⟨fun _ => r38 (fun ⟨w, hw, e, _⟩ => q w hw e) _ _ _, fun q => absurd rfl q⟩
end MOD5
