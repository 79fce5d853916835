section MOD3
variable {E : ab_E} {d : Nat} {hi : ab_I} {hr : ab_R} {cn : ab_C} {Q : ab_Q} {nR nH nW nV nL : Nat}
theorem ab_inK {x : Int32} {n : Nat} (hn : n ≤ 90000) (h1 : nI 0 ≤ x) (h2 : x ≤ nI n) : ab_in x (n + 1) := by
  obtain ⟨m, hm, rfl⟩ := ab_rngK (by omega) h1 h2
  exact ⟨m, by omega, by omega, rfl⟩
/-- what can be told -/
def okIn (x : Int32) (a b : Nat) : Prop := nI a ≤ x ∧ x ≤ nI b
def okFar (a b x : Int32) : Prop := okIn a 0 3 ∧ okIn b 0 3 ∧ a ≠ b ∧ okIn x 0 500
def okHome (t l : Int32) (n : Nat) : Prop := okIn t 0 3 ∧ okIn l 0 1000 ∧ n < 20
def okWork (a w t : Int32) (n : Nat) : Prop := okIn a 0 9 ∧ okIn w 20 4000 ∧ okIn t 0 3 ∧ n < 40
def okRule (day what coins : Int32) (n : Nat) : Prop := okIn day 0 20000 ∧ ¬ what < nI 0 ∧ ¬ nI 9 < what / nI 1000000 ∧ okIn (what - what / nI 10000 * nI 10000) 1 400 ∧ okIn coins 0 99999 ∧ ¬ nI 100 < coins - coins / nI 1000 * nI 1000 ∧ n < 60
noncomputable def mFar (hi : ab_I) (a b x : Int32) : ab_I := ab_uI (ab_uI hi 81 (ab_ix a) (ab_ix b) x) 81 (ab_ix b) (ab_ix a) x
theorem c_X8_far (hnb : ab_n E < 2 ^ 31) {a b x : Int32} (h1 : okFar a b x → Q (some (.inl (nI 1))) (mFar hi a b x) (mR hr) cn) (h0 : ¬ okFar a b x → Q (some (.inl (nI 0))) hi (mR hr) cn) : ab_Wm E (d + 2) nX8_far [mO, .inl a, .inl b, .inl x] hi (mR hr) cn Q := by
  refine ab_Wm_of gX8_far kX8_far 2 rfl rfl hnb (fun J step drop less => ?_)
  have r34 : ¬ okFar a b x → ∀ L ck cs, J 34 L [] hi (mR hr) cn ck cs := fun q L ck cs => by
    refine step 34 _ _ _ _ _ _ _ ?_
    dsimp [ab_at, gX8_far, ab_vc, ab_v1, ab_lk, ab_st, ab_en, ab_cst, ab_mc, ab_mS, ab_tk, ab_ns, mR, mAr, ab_ia, ab_ra, ab_oa, ab_tg, ab_len, ab_uI]
    exact ⟨Or.inl rfl, h0 q⟩
  refine step 0 _ _ _ _ _ _ _ ?_
  dsimp [ab_at, gX8_far, ab_vc, ab_v1, ab_lk, ab_st, ab_en, ab_cst, ab_mc, ab_mS, ab_tk, ab_ns, mR, mAr, ab_ia, ab_ra, ab_oa, ab_tg, ab_len, ab_uI]
  refine c_X8_in hnb (fun a1 a2 => ?_) (fun q => ?_)
  · refine step 6 _ _ _ _ _ _ _ ?_
    dsimp [ab_at, gX8_far, ab_vc, ab_v1, ab_lk, ab_st, ab_en, ab_cst, ab_mc, ab_mS, ab_tk, ab_ns, mR, mAr, ab_ia, ab_ra, ab_oa, ab_tg, ab_len, ab_uI]
    refine ⟨fun q => absurd q (by decide), fun _ => ?_⟩
    refine c_X8_in hnb (fun b1 b2 => ?_) (fun q => ?_)
    · refine step 15 _ _ _ _ _ _ _ ?_
      dsimp [ab_at, gX8_far, ab_vc, ab_v1, ab_lk, ab_st, ab_en, ab_cst, ab_mc, ab_mS, ab_tk, ab_ns, mR, mAr, ab_ia, ab_ra, ab_oa, ab_tg, ab_len, ab_uI]
      refine ⟨fun q => absurd q (by decide), fun _ => ⟨fun q => r34 (fun z => z.2.2.1 q) _ _ _, fun ne => ?_⟩⟩
      refine c_X8_in hnb (fun x1 x2 => ?_) (fun q => ?_)
      · refine step 31 _ _ _ _ _ _ _ ?_
        dsimp [ab_at, gX8_far, ab_vc, ab_v1, ab_lk, ab_st, ab_en, ab_cst, ab_mc, ab_mS, ab_tk, ab_ns, mR, mAr, ab_ia, ab_ra, ab_oa, ab_tg, ab_len, ab_uI]
        refine ⟨fun _ => ?_, fun q => absurd q (by decide)⟩
        have ia := ab_inK (n := 3) (by omega) a1 a2
        have ib := ab_inK (n := 3) (by omega) b1 b2
        refine step 36 _ _ _ _ _ _ _ ?_
        dsimp [ab_at, gX8_far, ab_vc, ab_v1, ab_lk, ab_st, ab_en, ab_cst, ab_mc, ab_mS, ab_tk, ab_ns, mR, mAr, ab_ia, ab_ra, ab_oa, ab_tg, ab_len, ab_uI]
        exact ⟨ia, ib, ib, ia, Or.inr rfl, h1 ⟨⟨a1, a2⟩, ⟨b1, b2⟩, ne, x1, x2⟩⟩
      · refine step 31 _ _ _ _ _ _ _ ?_
        dsimp [ab_at, gX8_far, ab_vc, ab_v1, ab_lk, ab_st, ab_en, ab_cst, ab_mc, ab_mS, ab_tk, ab_ns, mR, mAr, ab_ia, ab_ra, ab_oa, ab_tg, ab_len, ab_uI]
        exact ⟨fun q => absurd rfl q, fun _ => r34 (fun z => q z.2.2.2) _ _ _⟩
    · refine step 15 _ _ _ _ _ _ _ ?_
      dsimp [ab_at, gX8_far, ab_vc, ab_v1, ab_lk, ab_st, ab_en, ab_cst, ab_mc, ab_mS, ab_tk, ab_ns, mR, mAr, ab_ia, ab_ra, ab_oa, ab_tg, ab_len, ab_uI]
      exact ⟨fun _ => r34 (fun z => q z.2.1) _ _ _, fun q => absurd rfl q⟩
  · refine step 6 _ _ _ _ _ _ _ ?_
    dsimp [ab_at, gX8_far, ab_vc, ab_v1, ab_lk, ab_st, ab_en, ab_cst, ab_mc, ab_mS, ab_tk, ab_ns, mR, mAr, ab_ia, ab_ra, ab_oa, ab_tg, ab_len, ab_uI]
    exact ⟨fun _ => r34 (fun z => q z.1) _ _ _, fun q => absurd rfl q⟩
def mHome (hi : ab_I) (n : Nat) (t l : Int32) : ab_I := ab_uI (ab_uI (ab_uI (ab_uI hi 35 0 n t) 36 0 n l) 37 0 n (hi 9 0 0)) 9 0 10 (nI (n + 1))
theorem c_X8_home (hnb : ab_n E < 2 ^ 31) (M : mok hi nR nH nW nV nL) {t l : Int32} (h1 : okHome t l nH → Q (some (.inl (nI nH))) (mHome hi nH t l) (mR hr) cn) (h0 : ¬ okHome t l nH → Q (some (.inl (-1))) hi (mR hr) cn) : ab_Wm E (d + 2) nX8_home [mO, .inl t, .inl l] hi (mR hr) cn Q := by
  obtain ⟨-, ⟨hcH, hH⟩, -⟩ := M
  refine ab_Wm_of gX8_home kX8_home 1 rfl rfl hnb (fun J step drop less => ?_)
  have r29 : ¬ okHome t l nH → ∀ L ck cs, J 29 L [] hi (mR hr) cn ck cs := fun q L ck cs => by
    refine step 29 _ _ _ _ _ _ _ ?_
    dsimp [ab_at, gX8_home, ab_vc, ab_v1, ab_lk, ab_st, ab_en, ab_cst, ab_mc, ab_mS, ab_tk, ab_ns, mR, mAr, ab_ia, ab_ra, ab_oa, ab_tg, ab_len, ab_uI]
    exact h0 q
  refine step 0 _ _ _ _ _ _ _ ?_
  dsimp [ab_at, gX8_home, ab_vc, ab_v1, ab_lk, ab_st, ab_en, ab_cst, ab_mc, ab_mS, ab_tk, ab_ns, mR, mAr, ab_ia, ab_ra, ab_oa, ab_tg, ab_len, ab_uI]
  refine c_X8_in hnb (fun a1 a2 => ?_) (fun q => ?_)
  · refine step 6 _ _ _ _ _ _ _ ?_
    dsimp [ab_at, gX8_home, ab_vc, ab_v1, ab_lk, ab_st, ab_en, ab_cst, ab_mc, ab_mS, ab_tk, ab_ns, mR, mAr, ab_ia, ab_ra, ab_oa, ab_tg, ab_len, ab_uI]
    refine ⟨fun q => absurd q (by decide), fun _ => ?_⟩
    refine c_X8_in hnb (fun b1 b2 => ?_) (fun q => ?_)
    · refine step 17 _ _ _ _ _ _ _ ?_
      dsimp [ab_at, gX8_home, ab_vc, ab_v1, ab_lk, ab_st, ab_en, ab_cst, ab_mc, ab_mS, ab_tk, ab_ns, mR, mAr, ab_ia, ab_ra, ab_oa, ab_tg, ab_len, ab_uI]
      refine ⟨fun q => absurd q (by decide), fun _ => ?_⟩
      rw [hcH]
      refine ⟨fun q => ?_, fun q => r29 (fun z => ?_) _ _ _⟩
      · have hlt : nH < 20 := by
          rcases Nat.lt_or_ge nH 20 with z | z
          · exact z
          · exact absurd (by rw [show nH = 20 by omega]) q
        refine step 31 _ _ _ _ _ _ _ ?_
        dsimp [ab_at, gX8_home, ab_vc, ab_v1, ab_lk, ab_st, ab_en, ab_cst, ab_mc, ab_mS, ab_tk, ab_ns, mR, mAr, ab_ia, ab_ra, ab_oa, ab_tg, ab_len, ab_uI]
        rw [hcH, ab_ix_nI (by omega)]
        refine ⟨ab_inI (by omega) (by omega), ab_inI (by omega) (by omega), ab_inI (by omega) (by omega), ?_⟩
        rw [nI_add, show nI (nH + 1) - nI 1 = nI nH from nI_pred nH]
        exact h1 ⟨⟨a1, a2⟩, ⟨b1, b2⟩, hlt⟩
      · have := (nI_eq (by omega) (by omega)).mp q
        have := z.2.2
        omega
    · refine step 17 _ _ _ _ _ _ _ ?_
      dsimp [ab_at, gX8_home, ab_vc, ab_v1, ab_lk, ab_st, ab_en, ab_cst, ab_mc, ab_mS, ab_tk, ab_ns, mR, mAr, ab_ia, ab_ra, ab_oa, ab_tg, ab_len, ab_uI]
      exact ⟨fun _ => r29 (fun z => q z.2.1) _ _ _, fun q => absurd rfl q⟩
  · refine step 6 _ _ _ _ _ _ _ ?_
    dsimp [ab_at, gX8_home, ab_vc, ab_v1, ab_lk, ab_st, ab_en, ab_cst, ab_mc, ab_mS, ab_tk, ab_ns, mR, mAr, ab_ia, ab_ra, ab_oa, ab_tg, ab_len, ab_uI]
    exact ⟨fun _ => r29 (fun z => q z.1) _ _ _, fun q => absurd rfl q⟩
def mWork (hi : ab_I) (n : Nat) (a w t : Int32) : ab_I := ab_uI (ab_uI (ab_uI (ab_uI (ab_uI (ab_uI hi 41 0 n a) 42 0 n w) 44 0 n (-1)) 45 0 n t) 50 0 n (hi 9 0 0)) 9 0 23 (nI (n + 1))
theorem c_X8_work (hnb : ab_n E < 2 ^ 31) (M : mok hi nR nH nW nV nL) {a w t : Int32} (h1 : okWork a w t nW → Q (some (.inl (nI nW))) (mWork hi nW a w t) (mR hr) cn) (h0 : ¬ okWork a w t nW → Q (some (.inl (-1))) hi (mR hr) cn) : ab_Wm E (d + 2) nX8_work [mO, .inl a, .inl w, .inl t] hi (mR hr) cn Q := by
  obtain ⟨-, -, ⟨hcW, hW⟩, -⟩ := M
  refine ab_Wm_of gX8_work kX8_work 1 rfl rfl hnb (fun J step drop less => ?_)
  have r40 : ¬ okWork a w t nW → ∀ L ck cs, J 40 L [] hi (mR hr) cn ck cs := fun q L ck cs => by
    refine step 40 _ _ _ _ _ _ _ ?_
    dsimp [ab_at, gX8_work, ab_vc, ab_v1, ab_lk, ab_st, ab_en, ab_cst, ab_mc, ab_mS, ab_tk, ab_ns, mR, mAr, ab_ia, ab_ra, ab_oa, ab_tg, ab_len, ab_uI]
    exact h0 q
  refine step 0 _ _ _ _ _ _ _ ?_
  dsimp [ab_at, gX8_work, ab_vc, ab_v1, ab_lk, ab_st, ab_en, ab_cst, ab_mc, ab_mS, ab_tk, ab_ns, mR, mAr, ab_ia, ab_ra, ab_oa, ab_tg, ab_len, ab_uI]
  refine c_X8_in hnb (fun a1 a2 => ?_) (fun q => ?_)
  · refine step 7 _ _ _ _ _ _ _ ?_
    dsimp [ab_at, gX8_work, ab_vc, ab_v1, ab_lk, ab_st, ab_en, ab_cst, ab_mc, ab_mS, ab_tk, ab_ns, mR, mAr, ab_ia, ab_ra, ab_oa, ab_tg, ab_len, ab_uI]
    refine ⟨fun q => absurd q (by decide), fun _ => ?_⟩
    refine c_X8_in hnb (fun b1 b2 => ?_) (fun q => ?_)
    · refine step 19 _ _ _ _ _ _ _ ?_
      dsimp [ab_at, gX8_work, ab_vc, ab_v1, ab_lk, ab_st, ab_en, ab_cst, ab_mc, ab_mS, ab_tk, ab_ns, mR, mAr, ab_ia, ab_ra, ab_oa, ab_tg, ab_len, ab_uI]
      refine ⟨fun q => absurd q (by decide), fun _ => ?_⟩
      refine c_X8_in hnb (fun t1 t2 => ?_) (fun q => ?_)
      · refine step 28 _ _ _ _ _ _ _ ?_
        dsimp [ab_at, gX8_work, ab_vc, ab_v1, ab_lk, ab_st, ab_en, ab_cst, ab_mc, ab_mS, ab_tk, ab_ns, mR, mAr, ab_ia, ab_ra, ab_oa, ab_tg, ab_len, ab_uI]
        refine ⟨fun q => absurd q (by decide), fun _ => ?_⟩
        rw [hcW]
        refine ⟨fun q => ?_, fun q => r40 (fun z => ?_) _ _ _⟩
        · have hlt : nW < 40 := by
            rcases Nat.lt_or_ge nW 40 with z | z
            · exact z
            · exact absurd (by rw [show nW = 40 by omega]) q
          refine step 42 _ _ _ _ _ _ _ ?_
          dsimp [ab_at, gX8_work, ab_vc, ab_v1, ab_lk, ab_st, ab_en, ab_cst, ab_mc, ab_mS, ab_tk, ab_ns, mR, mAr, ab_ia, ab_ra, ab_oa, ab_tg, ab_len, ab_uI]
          rw [hcW, ab_ix_nI (by omega)]
          refine ⟨ab_inI (by omega) (by omega), ab_inI (by omega) (by omega), ab_inI (by omega) (by omega), ab_inI (by omega) (by omega), ab_inI (by omega) (by omega), ?_⟩
          rw [nI_add, show nI (nW + 1) - nI 1 = nI nW from nI_pred nW]
          exact h1 ⟨⟨a1, a2⟩, ⟨b1, b2⟩, ⟨t1, t2⟩, hlt⟩
        · have := (nI_eq (by omega) (by omega)).mp q
          have := z.2.2.2
          omega
      · refine step 28 _ _ _ _ _ _ _ ?_
        dsimp [ab_at, gX8_work, ab_vc, ab_v1, ab_lk, ab_st, ab_en, ab_cst, ab_mc, ab_mS, ab_tk, ab_ns, mR, mAr, ab_ia, ab_ra, ab_oa, ab_tg, ab_len, ab_uI]
        exact ⟨fun _ => r40 (fun z => q z.2.2.1) _ _ _, fun q => absurd rfl q⟩
    · refine step 19 _ _ _ _ _ _ _ ?_
      dsimp [ab_at, gX8_work, ab_vc, ab_v1, ab_lk, ab_st, ab_en, ab_cst, ab_mc, ab_mS, ab_tk, ab_ns, mR, mAr, ab_ia, ab_ra, ab_oa, ab_tg, ab_len, ab_uI]
      exact ⟨fun _ => r40 (fun z => q z.2.1) _ _ _, fun q => absurd rfl q⟩
  · refine step 7 _ _ _ _ _ _ _ ?_
    dsimp [ab_at, gX8_work, ab_vc, ab_v1, ab_lk, ab_st, ab_en, ab_cst, ab_mc, ab_mS, ab_tk, ab_ns, mR, mAr, ab_ia, ab_ra, ab_oa, ab_tg, ab_len, ab_uI]
    exact ⟨fun _ => r40 (fun z => q z.1) _ _ _, fun q => absurd rfl q⟩
def mRule (hi : ab_I) (n : Nat) (day what coins : Int32) : ab_I := ab_uI (ab_uI (ab_uI (ab_uI (ab_uI (ab_uI (ab_uI (ab_uI hi 82 n 0 day) 82 n 1 (what / nI 1000000)) 82 n 2 (what / nI 100000 - what / nI 100000 / nI 10 * nI 10)) 82 n 3 (what / nI 10000 - what / nI 10000 / nI 10 * nI 10)) 82 n 4 (what - what / nI 10000 * nI 10000)) 82 n 5 (coins / nI 1000)) 82 n 6 (coins - coins / nI 1000 * nI 1000)) 9 0 3 (nI (n + 1))
theorem c_X8_rule (hnb : ab_n E < 2 ^ 31) (M : mok hi nR nH nW nV nL) {day what coins : Int32} (h1 : okRule day what coins nR → Q (some (.inl (nI 1))) (mRule hi nR day what coins) (mR hr) cn) (h0 : ¬ okRule day what coins nR → Q (some (.inl (nI 0))) hi (mR hr) cn) : ab_Wm E (d + 2) nX8_rule [mO, .inl day, .inl what, .inl coins] hi (mR hr) cn Q := by
  obtain ⟨⟨hcR, hR⟩, -⟩ := M
  refine ab_Wm_of gX8_rule kX8_rule 2 rfl rfl hnb (fun J step drop less => ?_)
  have r76 : ¬ okRule day what coins nR → ∀ L ck cs, J 76 L [] hi (mR hr) cn ck cs := fun q L ck cs => by
    refine step 76 _ _ _ _ _ _ _ ?_
    dsimp [ab_at, gX8_rule, ab_vc, ab_v1, ab_lk, ab_st, ab_en, ab_cst, ab_mc, ab_mS, ab_tk, ab_ns, mR, mAr, ab_ia, ab_ra, ab_oa, ab_tg, ab_len, ab_uI]
    exact ⟨Or.inl rfl, h0 q⟩
  refine step 0 _ _ _ _ _ _ _ ?_
  dsimp [ab_at, gX8_rule, ab_vc, ab_v1, ab_lk, ab_st, ab_en, ab_cst, ab_mc, ab_mS, ab_tk, ab_ns, mR, mAr, ab_ia, ab_ra, ab_oa, ab_tg, ab_len, ab_uI]
  refine ⟨by decide, by decide, ?_⟩
  refine c_X8_in hnb (fun a1 a2 => ?_) (fun q => ?_)
  · refine step 21 _ _ _ _ _ _ _ ?_
    dsimp [ab_at, gX8_rule, ab_vc, ab_v1, ab_lk, ab_st, ab_en, ab_cst, ab_mc, ab_mS, ab_tk, ab_ns, mR, mAr, ab_ia, ab_ra, ab_oa, ab_tg, ab_len, ab_uI]
    refine ⟨fun q => absurd q (by decide), fun _ => ⟨fun q => r76 (fun z => z.2.1 q) _ _ _, fun q1 => ⟨fun q => r76 (fun z => z.2.2.1 q) _ _ _, fun q2 => ?_⟩⟩⟩
    refine c_X8_in hnb (fun b1 b2 => ?_) (fun q => ?_)
    · refine step 44 _ _ _ _ _ _ _ ?_
      dsimp [ab_at, gX8_rule, ab_vc, ab_v1, ab_lk, ab_st, ab_en, ab_cst, ab_mc, ab_mS, ab_tk, ab_ns, mR, mAr, ab_ia, ab_ra, ab_oa, ab_tg, ab_len, ab_uI]
      refine ⟨fun q => absurd q (by decide), fun _ => ?_⟩
      refine c_X8_in hnb (fun t1 t2 => ?_) (fun q => ?_)
      · refine step 54 _ _ _ _ _ _ _ ?_
        dsimp [ab_at, gX8_rule, ab_vc, ab_v1, ab_lk, ab_st, ab_en, ab_cst, ab_mc, ab_mS, ab_tk, ab_ns, mR, mAr, ab_ia, ab_ra, ab_oa, ab_tg, ab_len, ab_uI]
        refine ⟨fun q => absurd q (by decide), fun _ => ⟨by decide, fun q => r76 (fun z => z.2.2.2.2.2.1 q) _ _ _, fun q3 => ?_⟩⟩
        rw [hcR]
        refine ⟨fun q => ?_, fun q => r76 (fun z => ?_) _ _ _⟩
        · have hlt : nR < 60 := by
            rcases Nat.lt_or_ge nR 60 with z | z
            · exact z
            · exact absurd (by rw [show nR = 60 by omega]) q
          refine step 78 _ _ _ _ _ _ _ ?_
          dsimp [ab_at, gX8_rule, ab_vc, ab_v1, ab_lk, ab_st, ab_en, ab_cst, ab_mc, ab_mS, ab_tk, ab_ns, mR, mAr, ab_ia, ab_ra, ab_oa, ab_tg, ab_len, ab_uI]
          rw [hcR, ab_ix_nI (show nR < 100000 by omega), ab_ix_nI (show 0 < 100000 by omega), ab_ix_nI (show 1 < 100000 by omega), ab_ix_nI (show 2 < 100000 by omega), ab_ix_nI (show 3 < 100000 by omega), ab_ix_nI (show 4 < 100000 by omega), ab_ix_nI (show 5 < 100000 by omega), ab_ix_nI (show 6 < 100000 by omega)]
          refine ⟨ab_inI (by omega) (by omega), ab_inI (by omega) (by omega), ab_inI (by omega) (by omega), by decide, by decide, ab_inI (by omega) (by omega), by decide, by decide, ab_inI (by omega) (by omega), ab_inI (by omega) (by omega), by decide, ab_inI (by omega) (by omega), by decide, ab_inI (by omega) (by omega), Or.inr rfl, ?_⟩
          rw [nI_add]
          exact h1 ⟨⟨a1, a2⟩, q1, q2, ⟨b1, b2⟩, ⟨t1, t2⟩, q3, hlt⟩
        · have := (nI_eq (by omega) (by omega)).mp q
          have := z.2.2.2.2.2.2
          omega
      · refine step 54 _ _ _ _ _ _ _ ?_
        dsimp [ab_at, gX8_rule, ab_vc, ab_v1, ab_lk, ab_st, ab_en, ab_cst, ab_mc, ab_mS, ab_tk, ab_ns, mR, mAr, ab_ia, ab_ra, ab_oa, ab_tg, ab_len, ab_uI]
        exact ⟨fun _ => r76 (fun z => q z.2.2.2.2.1) _ _ _, fun q => absurd rfl q⟩
    · refine step 44 _ _ _ _ _ _ _ ?_
      dsimp [ab_at, gX8_rule, ab_vc, ab_v1, ab_lk, ab_st, ab_en, ab_cst, ab_mc, ab_mS, ab_tk, ab_ns, mR, mAr, ab_ia, ab_ra, ab_oa, ab_tg, ab_len, ab_uI]
      exact ⟨fun _ => r76 (fun z => q z.2.2.2.1) _ _ _, fun q => absurd rfl q⟩
  · refine step 21 _ _ _ _ _ _ _ ?_
    dsimp [ab_at, gX8_rule, ab_vc, ab_v1, ab_lk, ab_st, ab_en, ab_cst, ab_mc, ab_mS, ab_tk, ab_ns, mR, mAr, ab_ia, ab_ra, ab_oa, ab_tg, ab_len, ab_uI]
    exact ⟨fun _ => r76 (fun z => q z.1) _ _ _, fun q => absurd rfl q⟩
def mGo (hi : ab_I) (x : Int32) : Int32 := if hi 9 0 0 + x < nI 20000 then hi 9 0 0 + x else nI 20000
theorem c_X8_go (hnb : ab_n E < 2 ^ 31) {x : Int32} (h1 : okIn x 0 1000 → Q (some (.inl (mGo hi x))) (ab_uI hi 9 0 0 (mGo hi x)) (mR hr) cn) (h0 : ¬ okIn x 0 1000 → Q (some (.inl (-1))) hi (mR hr) cn) : ab_Wm E (d + 2) nX8_go [mO, .inl x] hi (mR hr) cn Q := by
  refine ab_Wm_of gX8_go kX8_go 1 rfl rfl hnb (fun J step drop less => ?_)
  refine step 0 _ _ _ _ _ _ _ ?_
  dsimp [ab_at, gX8_go, ab_vc, ab_v1, ab_lk, ab_st, ab_en, ab_cst, ab_mc, ab_mS, ab_tk, ab_ns, mR, mAr, ab_ia, ab_ra, ab_oa, ab_tg, ab_len, ab_uI]
  refine c_X8_in hnb (fun a1 a2 => ?_) (fun q => ?_)
  · refine step 8 _ _ _ _ _ _ _ ?_
    dsimp [ab_at, gX8_go, ab_vc, ab_v1, ab_lk, ab_st, ab_en, ab_cst, ab_mc, ab_mS, ab_tk, ab_ns, mR, mAr, ab_ia, ab_ra, ab_oa, ab_tg, ab_len, ab_uI]
    refine ⟨fun _ => ?_, fun q => absurd q (by decide)⟩
    refine step 13 _ _ _ _ _ _ _ ?_
    dsimp [ab_at, gX8_go, ab_vc, ab_v1, ab_lk, ab_st, ab_en, ab_cst, ab_mc, ab_mS, ab_tk, ab_ns, mR, mAr, ab_ia, ab_ra, ab_oa, ab_tg, ab_len, ab_uI]
    exact h1 ⟨a1, a2⟩
  · refine step 8 _ _ _ _ _ _ _ ?_
    dsimp [ab_at, gX8_go, ab_vc, ab_v1, ab_lk, ab_st, ab_en, ab_cst, ab_mc, ab_mS, ab_tk, ab_ns, mR, mAr, ab_ia, ab_ra, ab_oa, ab_tg, ab_len, ab_uI]
    exact ⟨fun q => absurd rfl q, fun _ => h0 q⟩
/-- a home may wish for a work -/
def okWish (hi : ab_I) (nV : Nat) (x y : Int32) : Prop := ¬ nI 1 < hi 43 0 (ab_ix y) ∧ ¬ (hi 43 0 (ab_ix y) = nI 1 ∧ hi 44 0 (ab_ix y) = x) ∧ (∀ k, k < nV → ¬ (hi 56 0 k = nI 0 ∧ hi 54 0 k = x ∧ hi 55 0 k = y)) ∧ nV < 200
def mWish (hi : ab_I) (n : Nat) (x y : Int32) : ab_I := ab_uI (ab_uI (ab_uI (ab_uI (ab_uI hi 54 0 n x) 55 0 n y) 57 0 n (hi 9 0 0)) 59 0 n (-1)) 9 0 30 (nI (n + 1))
def isN (x : Int32) (n : Nat) : Prop := ∃ m, m < n ∧ x = nI m
theorem c_X8_wish (hnb : ab_n E < 2 ^ 31) (M : mok hi nR nH nW nV nL) {x y : Int32} (h1 : isN x nH → isN y nW → okWish hi nV x y → Q (some (.inl (nI nV))) (mWish hi nV x y) (mR hr) cn) (h0 : ¬ (isN x nH ∧ isN y nW ∧ okWish hi nV x y) → Q (some (.inl (-1))) hi (mR hr) cn) : ab_Wm E (d + 3) nX8_wish [mO, .inl x, .inl y] hi (mR hr) cn Q := by
  have M' := M
  obtain ⟨-, ⟨hcH, hH⟩, ⟨hcW, hW⟩, ⟨hcV, hV⟩, -⟩ := M
  refine ab_Wm_of gX8_wish kX8_wish 1 rfl rfl hnb (fun J step drop less => ?_)
  have r66 : ¬ (isN x nH ∧ isN y nW ∧ okWish hi nV x y) → ∀ L ck cs, J 66 L [] hi (mR hr) cn ck cs := fun q L ck cs => by
    refine step 66 _ _ _ _ _ _ _ ?_
    dsimp [ab_at, gX8_wish, ab_vc, ab_v1, ab_lk, ab_st, ab_en, ab_cst, ab_mc, ab_mS, ab_tk, ab_ns, mR, mAr, ab_ia, ab_ra, ab_oa, ab_tg, ab_len, ab_uI]
    exact h0 q
  refine step 0 _ _ _ _ _ _ _ ?_
  dsimp [ab_at, gX8_wish, ab_vc, ab_v1, ab_lk, ab_st, ab_en, ab_cst, ab_mc, ab_mS, ab_tk, ab_ns, mR, mAr, ab_ia, ab_ra, ab_oa, ab_tg, ab_len, ab_uI]
  refine c_X8_isHome hnb hH hcH (fun g hg eg => ?_) (fun q => ?_)
  · refine step 5 _ _ _ _ _ _ _ ?_
    dsimp [ab_at, gX8_wish, ab_vc, ab_v1, ab_lk, ab_st, ab_en, ab_cst, ab_mc, ab_mS, ab_tk, ab_ns, mR, mAr, ab_ia, ab_ra, ab_oa, ab_tg, ab_len, ab_uI]
    refine ⟨fun q => absurd q (by decide), fun _ => ?_⟩
    refine c_X8_isWork hnb hW hcW (fun w hw ew => ?_) (fun q => ?_)
    · have iy : ab_in y 40 := ⟨w, by omega, by omega, ew⟩
      refine step 13 _ _ _ _ _ _ _ ?_
      dsimp [ab_at, gX8_wish, ab_vc, ab_v1, ab_lk, ab_st, ab_en, ab_cst, ab_mc, ab_mS, ab_tk, ab_ns, mR, mAr, ab_ia, ab_ra, ab_oa, ab_tg, ab_len, ab_uI]
      refine ⟨fun q => absurd q (by decide), fun _ => ⟨iy, fun q => r66 (fun z => z.2.2.1 q) _ _ _, fun q1 => ⟨iy, ?_⟩⟩⟩
      have r46 : ¬ (hi 43 0 (ab_ix y) = nI 1 ∧ hi 44 0 (ab_ix y) = x) → J 46 [(0, mO), (1, .inl x), (2, .inl y)] [] hi (mR hr) cn 0 0 := fun q2 => by
        refine step 46 _ _ _ _ _ _ _ ?_
        dsimp [ab_at, gX8_wish, ab_vc, ab_v1, ab_lk, ab_st, ab_en, ab_cst, ab_mc, ab_mS, ab_tk, ab_ns, mR, mAr, ab_ia, ab_ra, ab_oa, ab_tg, ab_len, ab_uI]
        refine c_X8_openOf hnb M' (fun k hk e1 e2 e3 => ?_) (fun q3 => ?_)
        · refine step 52 _ _ _ _ _ _ _ ?_
          dsimp [ab_at, gX8_wish, ab_vc, ab_v1, ab_lk, ab_st, ab_en, ab_cst, ab_mc, ab_mS, ab_tk, ab_ns, mR, mAr, ab_ia, ab_ra, ab_oa, ab_tg, ab_len, ab_uI]
          exact ⟨fun _ => r66 (fun z => z.2.2.2.2.1 k hk ⟨e1, e2, e3⟩) _ _ _, fun q => absurd q (mnn_ne (by omega))⟩
        · refine step 52 _ _ _ _ _ _ _ ?_
          dsimp [ab_at, gX8_wish, ab_vc, ab_v1, ab_lk, ab_st, ab_en, ab_cst, ab_mc, ab_mS, ab_tk, ab_ns, mR, mAr, ab_ia, ab_ra, ab_oa, ab_tg, ab_len, ab_uI]
          refine ⟨fun q => absurd rfl q, fun _ => ?_⟩
          rw [hcV]
          refine ⟨fun q => ?_, fun q => r66 (fun z => ?_) _ _ _⟩
          · have hlt : nV < 200 := by
              rcases Nat.lt_or_ge nV 200 with z | z
              · exact z
              · exact absurd (by rw [show nV = 200 by omega]) q
            refine step 68 _ _ _ _ _ _ _ ?_
            dsimp [ab_at, gX8_wish, ab_vc, ab_v1, ab_lk, ab_st, ab_en, ab_cst, ab_mc, ab_mS, ab_tk, ab_ns, mR, mAr, ab_ia, ab_ra, ab_oa, ab_tg, ab_len, ab_uI]
            rw [hcV, ab_ix_nI (show nV < 100000 by omega)]
            refine ⟨ab_inI (by omega) (by omega), ab_inI (by omega) (by omega), ab_inI (by omega) (by omega), ab_inI (by omega) (by omega), ?_⟩
            rw [nI_add, show nI (nV + 1) - nI 1 = nI nV from nI_pred nV]
            exact h1 ⟨g, hg, eg⟩ ⟨w, hw, ew⟩ ⟨q1, q2, q3, hlt⟩
          · have := (nI_eq (by omega) (by omega)).mp q
            have := z.2.2.2.2.2
            omega
      refine ⟨fun q => r46 fun z => q z.1, fun q => ⟨iy, fun q2 => r66 (fun z => z.2.2.2.1 ⟨q, q2⟩) _ _ _, fun q2 => r46 fun z => q2 z.2⟩⟩
    · refine step 13 _ _ _ _ _ _ _ ?_
      dsimp [ab_at, gX8_wish, ab_vc, ab_v1, ab_lk, ab_st, ab_en, ab_cst, ab_mc, ab_mS, ab_tk, ab_ns, mR, mAr, ab_ia, ab_ra, ab_oa, ab_tg, ab_len, ab_uI]
      exact ⟨fun _ => r66 (fun z => by obtain ⟨w, hw, e⟩ := z.2.1; exact q w hw e) _ _ _, fun q => absurd rfl q⟩
  · refine step 5 _ _ _ _ _ _ _ ?_
    dsimp [ab_at, gX8_wish, ab_vc, ab_v1, ab_lk, ab_st, ab_en, ab_cst, ab_mc, ab_mS, ab_tk, ab_ns, mR, mAr, ab_ia, ab_ra, ab_oa, ab_tg, ab_len, ab_uI]
    exact ⟨fun _ => r66 (fun z => by obtain ⟨w, hw, e⟩ := z.1; exact q w hw e) _ _ _, fun q => absurd rfl q⟩
theorem c_X8_unwish (hnb : ab_n E < 2 ^ 31) (M : mok hi nR nH nW nV nL) {x : Int32} (h1 : ∀ k, k < nV → x = nI k → hi 56 0 k = nI 0 → Q (some (.inl (nI 1))) (ab_uI hi 56 0 k (nI 2)) (mR hr) cn) (h0 : (∀ k, k < nV → x = nI k → hi 56 0 k ≠ nI 0) → Q (some (.inl (nI 0))) hi (mR hr) cn) : ab_Wm E (d + 3) nX8_unwish [mO, .inl x] hi (mR hr) cn Q := by
  have M' := M
  obtain ⟨-, -, -, ⟨hcV, hV⟩, -⟩ := M
  refine ab_Wm_of gX8_unwish kX8_unwish 2 rfl rfl hnb (fun J step drop less => ?_)
  refine step 0 _ _ _ _ _ _ _ ?_
  dsimp [ab_at, gX8_unwish, ab_vc, ab_v1, ab_lk, ab_st, ab_en, ab_cst, ab_mc, ab_mS, ab_tk, ab_ns, mR, mAr, ab_ia, ab_ra, ab_oa, ab_tg, ab_len, ab_uI]
  refine c_X8_isOpen hnb M' (fun k hk e q => ?_) (fun q => ?_)
  · subst e
    refine step 5 _ _ _ _ _ _ _ ?_
    dsimp [ab_at, gX8_unwish, ab_vc, ab_v1, ab_lk, ab_st, ab_en, ab_cst, ab_mc, ab_mS, ab_tk, ab_ns, mR, mAr, ab_ia, ab_ra, ab_oa, ab_tg, ab_len, ab_uI]
    refine ⟨fun _ => ?_, fun q => absurd q (by decide)⟩
    refine step 10 _ _ _ _ _ _ _ ?_
    dsimp [ab_at, gX8_unwish, ab_vc, ab_v1, ab_lk, ab_st, ab_en, ab_cst, ab_mc, ab_mS, ab_tk, ab_ns, mR, mAr, ab_ia, ab_ra, ab_oa, ab_tg, ab_len, ab_uI]
    rw [ab_ix_nI (show k < 100000 by omega)]
    exact ⟨ab_inI (by omega) (by omega), Or.inr rfl, h1 k hk rfl q⟩
  · refine step 5 _ _ _ _ _ _ _ ?_
    dsimp [ab_at, gX8_unwish, ab_vc, ab_v1, ab_lk, ab_st, ab_en, ab_cst, ab_mc, ab_mS, ab_tk, ab_ns, mR, mAr, ab_ia, ab_ra, ab_oa, ab_tg, ab_len, ab_uI]
    exact ⟨fun q => absurd rfl q, fun _ => ⟨Or.inl rfl, h0 q⟩⟩
end MOD3
