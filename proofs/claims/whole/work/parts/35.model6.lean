section MOD6
variable {E : ab_E} {d : Nat} {hi : ab_I} {hr : ab_R} {cn : ab_C} {Q : ab_Q} {nR nH nW nV nL : Nat}
/-- what is told of a work -/
def mTold (hi : ab_I) (w : Nat) (a : Int32) : Int32 :=
  if a = nI 0 then hi 43 0 w else if a = nI 1 then hi 44 0 w else if a = nI 2 then (if hi 43 0 w = nI 0 then hi 45 0 w else -1)
  else if a = nI 3 then (if hi 43 0 w = nI 1 then hi 46 0 w else -1)
  else if a = nI 4 then (if hi 43 0 w = nI 1 then (if nI 0 < hi 9 0 0 - hi 46 0 w - hi 47 0 w then hi 9 0 0 - hi 46 0 w - hi 47 0 w else nI 0) else nI 0)
  else if a = nI 5 then hi 48 0 w else if a = nI 6 then hi 49 0 w + (if hi 43 0 w = nI 0 then hi 9 0 0 - hi 50 0 w else nI 0)
  else if a = nI 7 then hi 42 0 w / nI 20 else -1
theorem sw_no {a : Int32} {n : Nat} (h : ∀ j, j < n → ¬ a = nI (0 + j)) {j : Nat} (hj : j < n) : ¬ a = nI j := fun e => h j hj (by rw [Nat.zero_add]; exact e)
theorem c_X8_told (hnb : ab_n E < 2 ^ 31) (M : mok hi nR nH nW nV nL) {x a : Int32} (h1 : ∀ w, w < nW → x = nI w → Q (some (.inl (mTold hi w a))) hi (mR hr) cn) (h0 : (∀ w, w < nW → x ≠ nI w) → Q (some (.inl (-1))) hi (mR hr) cn) : ab_Wm E (d + 3) nX8_told [mO, .inl x, .inl a] hi (mR hr) cn Q := by
  obtain ⟨-, -, ⟨hcW, hW⟩, -⟩ := M
  refine ab_Wm_of gX8_told kX8_told 1 rfl rfl hnb (fun J step drop less => ?_)
  refine step 0 _ _ _ _ _ _ _ ?_
  dsimp [ab_at, gX8_told, ab_vc, ab_v1, ab_lk, ab_st, ab_en, ab_cst, ab_mc, ab_mS, ab_tk, ab_ns, mR, mAr, ab_ia, ab_ra, ab_oa, ab_tg, ab_len, ab_uI]
  refine c_X8_isWork hnb hW hcW (fun w hw e => ?_) (fun q => ?_)
  · subst e
    have iw : ab_ix (nI w) = w := ab_ix_nI (by omega)
    have hiw : ab_in (nI w) 40 := ab_inI (by omega) (by omega)
    have hq := h1 w hw rfl
    unfold mTold at hq
    have r25 : ∀ o, (if hi 43 0 w = nI 1 then nI 1 else nI 0) = o → J 25 [(0, mO), (1, .inl (nI w)), (2, .inl a)] [.inl o] hi (mR hr) cn 0 0 := fun o ho => by
      have o1 : o = 0 ↔ ¬ hi 43 0 w = nI 1 := by
        subst ho
        by_cases z : hi 43 0 w = nI 1
        · rw [if_pos z]; exact ⟨fun q => absurd q (by decide), fun q => absurd z q⟩
        · rw [if_neg z]; exact ⟨fun _ => z, fun _ => rfl⟩
      refine step 25 _ _ _ _ _ _ _ ?_
      dsimp [ab_at, gX8_told, ab_vc, ab_v1, ab_lk, ab_st, ab_en, ab_cst, ab_mc, ab_mS, ab_tk, ab_ns, mR, mAr, ab_ia, ab_ra, ab_oa, ab_tg, ab_len, ab_uI, ab_sw]
      refine ⟨fun q => ?_, fun q => ?_, fun q => ?_, fun q => ?_, fun q => ?_, fun q => ?_, fun q => ?_, fun q => ?_, fun q => ?_, trivial⟩
      · rw [if_neg (sw_no q (by omega)), if_neg (sw_no q (by omega)), if_neg (sw_no q (by omega)), if_neg (sw_no q (by omega)), if_neg (sw_no q (by omega)), if_neg (sw_no q (by omega)), if_neg (sw_no q (by omega)), if_neg (sw_no q (by omega))] at hq
        refine step 197 _ _ _ _ _ _ _ ?_
        dsimp [ab_at, gX8_told, ab_vc, ab_v1, ab_lk, ab_st, ab_en, ab_cst, ab_mc, ab_mS, ab_tk, ab_ns, mR, mAr, ab_ia, ab_ra, ab_oa, ab_tg, ab_len, ab_uI]
        exact hq
      · subst q
        rw [if_pos rfl] at hq
        refine step 72 _ _ _ _ _ _ _ ?_
        dsimp [ab_at, gX8_told, ab_vc, ab_v1, ab_lk, ab_st, ab_en, ab_cst, ab_mc, ab_mS, ab_tk, ab_ns, mR, mAr, ab_ia, ab_ra, ab_oa, ab_tg, ab_len, ab_uI]
        rw [iw]
        exact ⟨hiw, hq⟩
      · subst q
        rw [if_neg (by decide), if_pos rfl] at hq
        refine step 79 _ _ _ _ _ _ _ ?_
        dsimp [ab_at, gX8_told, ab_vc, ab_v1, ab_lk, ab_st, ab_en, ab_cst, ab_mc, ab_mS, ab_tk, ab_ns, mR, mAr, ab_ia, ab_ra, ab_oa, ab_tg, ab_len, ab_uI]
        rw [iw]
        exact ⟨hiw, hq⟩
      · subst q
        rw [if_neg (by decide), if_neg (by decide), if_pos rfl] at hq
        refine step 86 _ _ _ _ _ _ _ ?_
        dsimp [ab_at, gX8_told, ab_vc, ab_v1, ab_lk, ab_st, ab_en, ab_cst, ab_mc, ab_mS, ab_tk, ab_ns, mR, mAr, ab_ia, ab_ra, ab_oa, ab_tg, ab_len, ab_uI]
        rw [iw]
        refine ⟨hiw, fun z => ?_, fun z => ⟨hiw, ?_⟩⟩
        · rw [if_neg (show ¬ hi 43 0 w = nI 0 from z)] at hq
          refine step 104 _ _ _ _ _ _ _ ?_
          dsimp [ab_at, gX8_told, ab_vc, ab_v1, ab_lk, ab_st, ab_en, ab_cst, ab_mc, ab_mS, ab_tk, ab_ns, mR, mAr, ab_ia, ab_ra, ab_oa, ab_tg, ab_len, ab_uI]
          refine step 105 _ _ _ _ _ _ _ ?_
          dsimp [ab_at, gX8_told, ab_vc, ab_v1, ab_lk, ab_st, ab_en, ab_cst, ab_mc, ab_mS, ab_tk, ab_ns, mR, mAr, ab_ia, ab_ra, ab_oa, ab_tg, ab_len, ab_uI]
          exact hq
        · rw [if_pos (show hi 43 0 w = nI 0 from z)] at hq
          refine step 105 _ _ _ _ _ _ _ ?_
          dsimp [ab_at, gX8_told, ab_vc, ab_v1, ab_lk, ab_st, ab_en, ab_cst, ab_mc, ab_mS, ab_tk, ab_ns, mR, mAr, ab_ia, ab_ra, ab_oa, ab_tg, ab_len, ab_uI]
          exact hq
      · subst q
        rw [if_neg (by decide), if_neg (by decide), if_neg (by decide), if_pos rfl] at hq
        refine step 106 _ _ _ _ _ _ _ ?_
        dsimp [ab_at, gX8_told, ab_vc, ab_v1, ab_lk, ab_st, ab_en, ab_cst, ab_mc, ab_mS, ab_tk, ab_ns, mR, mAr, ab_ia, ab_ra, ab_oa, ab_tg, ab_len, ab_uI]
        rw [iw]
        refine ⟨fun z => ?_, fun z => ⟨hiw, ?_⟩⟩
        · rw [if_neg (o1.mp z)] at hq
          refine step 119 _ _ _ _ _ _ _ ?_
          dsimp [ab_at, gX8_told, ab_vc, ab_v1, ab_lk, ab_st, ab_en, ab_cst, ab_mc, ab_mS, ab_tk, ab_ns, mR, mAr, ab_ia, ab_ra, ab_oa, ab_tg, ab_len, ab_uI]
          refine step 120 _ _ _ _ _ _ _ ?_
          dsimp [ab_at, gX8_told, ab_vc, ab_v1, ab_lk, ab_st, ab_en, ab_cst, ab_mc, ab_mS, ab_tk, ab_ns, mR, mAr, ab_ia, ab_ra, ab_oa, ab_tg, ab_len, ab_uI]
          exact hq
        · rw [if_pos (Classical.byContradiction fun y => z (o1.mpr y))] at hq
          refine step 120 _ _ _ _ _ _ _ ?_
          dsimp [ab_at, gX8_told, ab_vc, ab_v1, ab_lk, ab_st, ab_en, ab_cst, ab_mc, ab_mS, ab_tk, ab_ns, mR, mAr, ab_ia, ab_ra, ab_oa, ab_tg, ab_len, ab_uI]
          exact hq
      · subst q
        rw [if_neg (by decide), if_neg (by decide), if_neg (by decide), if_neg (by decide), if_pos rfl] at hq
        refine step 121 _ _ _ _ _ _ _ ?_
        dsimp [ab_at, gX8_told, ab_vc, ab_v1, ab_lk, ab_st, ab_en, ab_cst, ab_mc, ab_mS, ab_tk, ab_ns, mR, mAr, ab_ia, ab_ra, ab_oa, ab_tg, ab_len, ab_uI]
        rw [iw]
        refine ⟨fun z => ?_, fun z => ⟨hiw, hiw, ?_⟩⟩
        · rw [if_neg (o1.mp z)] at hq
          refine step 150 _ _ _ _ _ _ _ ?_
          dsimp [ab_at, gX8_told, ab_vc, ab_v1, ab_lk, ab_st, ab_en, ab_cst, ab_mc, ab_mS, ab_tk, ab_ns, mR, mAr, ab_ia, ab_ra, ab_oa, ab_tg, ab_len, ab_uI]
          refine step 151 _ _ _ _ _ _ _ ?_
          dsimp [ab_at, gX8_told, ab_vc, ab_v1, ab_lk, ab_st, ab_en, ab_cst, ab_mc, ab_mS, ab_tk, ab_ns, mR, mAr, ab_ia, ab_ra, ab_oa, ab_tg, ab_len, ab_uI]
          exact hq
        · rw [if_pos (Classical.byContradiction fun y => z (o1.mpr y))] at hq
          refine step 151 _ _ _ _ _ _ _ ?_
          dsimp [ab_at, gX8_told, ab_vc, ab_v1, ab_lk, ab_st, ab_en, ab_cst, ab_mc, ab_mS, ab_tk, ab_ns, mR, mAr, ab_ia, ab_ra, ab_oa, ab_tg, ab_len, ab_uI]
          exact hq
      · subst q
        rw [if_neg (by decide), if_neg (by decide), if_neg (by decide), if_neg (by decide), if_neg (by decide), if_pos rfl] at hq
        refine step 152 _ _ _ _ _ _ _ ?_
        dsimp [ab_at, gX8_told, ab_vc, ab_v1, ab_lk, ab_st, ab_en, ab_cst, ab_mc, ab_mS, ab_tk, ab_ns, mR, mAr, ab_ia, ab_ra, ab_oa, ab_tg, ab_len, ab_uI]
        rw [iw]
        exact ⟨hiw, hq⟩
      · subst q
        rw [if_neg (by decide), if_neg (by decide), if_neg (by decide), if_neg (by decide), if_neg (by decide), if_neg (by decide), if_pos rfl] at hq
        refine step 159 _ _ _ _ _ _ _ ?_
        dsimp [ab_at, gX8_told, ab_vc, ab_v1, ab_lk, ab_st, ab_en, ab_cst, ab_mc, ab_mS, ab_tk, ab_ns, mR, mAr, ab_ia, ab_ra, ab_oa, ab_tg, ab_len, ab_uI]
        rw [iw]
        refine ⟨hiw, hiw, fun z => ?_, fun z => ⟨hiw, ?_⟩⟩
        · rw [if_neg (show ¬ hi 43 0 w = nI 0 from z)] at hq
          refine step 188 _ _ _ _ _ _ _ ?_
          dsimp [ab_at, gX8_told, ab_vc, ab_v1, ab_lk, ab_st, ab_en, ab_cst, ab_mc, ab_mS, ab_tk, ab_ns, mR, mAr, ab_ia, ab_ra, ab_oa, ab_tg, ab_len, ab_uI]
          refine step 189 _ _ _ _ _ _ _ ?_
          dsimp [ab_at, gX8_told, ab_vc, ab_v1, ab_lk, ab_st, ab_en, ab_cst, ab_mc, ab_mS, ab_tk, ab_ns, mR, mAr, ab_ia, ab_ra, ab_oa, ab_tg, ab_len, ab_uI]
          exact hq
        · rw [if_pos (show hi 43 0 w = nI 0 from z)] at hq
          refine step 189 _ _ _ _ _ _ _ ?_
          dsimp [ab_at, gX8_told, ab_vc, ab_v1, ab_lk, ab_st, ab_en, ab_cst, ab_mc, ab_mS, ab_tk, ab_ns, mR, mAr, ab_ia, ab_ra, ab_oa, ab_tg, ab_len, ab_uI]
          exact hq
      · subst q
        rw [if_neg (by decide), if_neg (by decide), if_neg (by decide), if_neg (by decide), if_neg (by decide), if_neg (by decide), if_neg (by decide), if_pos rfl] at hq
        refine step 191 _ _ _ _ _ _ _ ?_
        dsimp [ab_at, gX8_told, ab_vc, ab_v1, ab_lk, ab_st, ab_en, ab_cst, ab_mc, ab_mS, ab_tk, ab_ns, mR, mAr, ab_ia, ab_ra, ab_oa, ab_tg, ab_len, ab_uI]
        refine c_X8_points hnb (by omega) ?_
        refine step 196 _ _ _ _ _ _ _ ?_
        dsimp [ab_at, gX8_told, ab_vc, ab_v1, ab_lk, ab_st, ab_en, ab_cst, ab_mc, ab_mS, ab_tk, ab_ns, mR, mAr, ab_ia, ab_ra, ab_oa, ab_tg, ab_len, ab_uI]
        exact hq
    refine step 5 _ _ _ _ _ _ _ ?_
    dsimp [ab_at, gX8_told, ab_vc, ab_v1, ab_lk, ab_st, ab_en, ab_cst, ab_mc, ab_mS, ab_tk, ab_ns, mR, mAr, ab_ia, ab_ra, ab_oa, ab_tg, ab_len, ab_uI]
    refine ⟨fun _ => ?_, fun q => absurd q (by decide)⟩
    refine step 10 _ _ _ _ _ _ _ ?_
    dsimp [ab_at, gX8_told, ab_vc, ab_v1, ab_lk, ab_st, ab_en, ab_cst, ab_mc, ab_mS, ab_tk, ab_ns, mR, mAr, ab_ia, ab_ra, ab_oa, ab_tg, ab_len, ab_uI]
    rw [iw]
    refine ⟨hiw, fun z => ?_, fun z => r25 _ (if_pos z)⟩
    refine step 24 _ _ _ _ _ _ _ ?_
    dsimp [ab_at, gX8_told, ab_vc, ab_v1, ab_lk, ab_st, ab_en, ab_cst, ab_mc, ab_mS, ab_tk, ab_ns, mR, mAr, ab_ia, ab_ra, ab_oa, ab_tg, ab_len, ab_uI]
    exact r25 _ (if_neg z)
  · refine step 5 _ _ _ _ _ _ _ ?_
    dsimp [ab_at, gX8_told, ab_vc, ab_v1, ab_lk, ab_st, ab_en, ab_cst, ab_mc, ab_mS, ab_tk, ab_ns, mR, mAr, ab_ia, ab_ra, ab_oa, ab_tg, ab_len, ab_uI]
    exact ⟨fun q => absurd rfl q, fun _ => h0 q⟩
/-- what is told of a home -/
def mHomed (hi : ab_I) (nW g : Nat) (a : Int32) : Int32 :=
  if a = nI 0 then hi 35 0 g else if a = nI 1 then mlent hi (nI g) true nW else if a = nI 2 then hi 38 0 g else if a = nI 3 then mlent hi (nI g) false nW else if a = nI 4 then hi 39 0 g else -1
theorem c_X8_homed (hnb : ab_n E < 2 ^ 31) (M : mok hi nR nH nW nV nL) {x a : Int32} (h1 : ∀ g, g < nH → x = nI g → Q (some (.inl (mHomed hi nW g a))) hi (mR hr) cn) (h0 : (∀ g, g < nH → x ≠ nI g) → Q (some (.inl (-1))) hi (mR hr) cn) : ab_Wm E (d + 3) nX8_homed [mO, .inl x, .inl a] hi (mR hr) cn Q := by
  obtain ⟨-, ⟨hcH, hH⟩, ⟨hcW, hW⟩, -⟩ := M
  refine ab_Wm_of gX8_homed kX8_homed 1 rfl rfl hnb (fun J step drop less => ?_)
  refine step 0 _ _ _ _ _ _ _ ?_
  dsimp [ab_at, gX8_homed, ab_vc, ab_v1, ab_lk, ab_st, ab_en, ab_cst, ab_mc, ab_mS, ab_tk, ab_ns, mR, mAr, ab_ia, ab_ra, ab_oa, ab_tg, ab_len, ab_uI]
  refine c_X8_isHome hnb hH hcH (fun w hw e => ?_) (fun q => ?_)
  · subst e
    have iw : ab_ix (nI w) = w := ab_ix_nI (by omega)
    have hiw : ab_in (nI w) 20 := ab_inI (by omega) (by omega)
    have hq := h1 w hw rfl
    unfold mHomed at hq
    refine step 5 _ _ _ _ _ _ _ ?_
    dsimp [ab_at, gX8_homed, ab_vc, ab_v1, ab_lk, ab_st, ab_en, ab_cst, ab_mc, ab_mS, ab_tk, ab_ns, mR, mAr, ab_ia, ab_ra, ab_oa, ab_tg, ab_len, ab_uI]
    refine ⟨fun _ => ?_, fun q => absurd q (by decide)⟩
    refine step 10 _ _ _ _ _ _ _ ?_
    dsimp [ab_at, gX8_homed, ab_vc, ab_v1, ab_lk, ab_st, ab_en, ab_cst, ab_mc, ab_mS, ab_tk, ab_ns, mR, mAr, ab_ia, ab_ra, ab_oa, ab_tg, ab_len, ab_uI, ab_sw]
    refine ⟨fun q => ?_, fun q => ?_, fun q => ?_, fun q => ?_, fun q => ?_, fun q => ?_, trivial⟩
    · rw [if_neg (sw_no q (by omega)), if_neg (sw_no q (by omega)), if_neg (sw_no q (by omega)), if_neg (sw_no q (by omega)), if_neg (sw_no q (by omega))] at hq
      refine step 79 _ _ _ _ _ _ _ ?_
      dsimp [ab_at, gX8_homed, ab_vc, ab_v1, ab_lk, ab_st, ab_en, ab_cst, ab_mc, ab_mS, ab_tk, ab_ns, mR, mAr, ab_ia, ab_ra, ab_oa, ab_tg, ab_len, ab_uI]
      exact hq
    · subst q
      rw [if_pos rfl] at hq
      refine step 44 _ _ _ _ _ _ _ ?_
      dsimp [ab_at, gX8_homed, ab_vc, ab_v1, ab_lk, ab_st, ab_en, ab_cst, ab_mc, ab_mS, ab_tk, ab_ns, mR, mAr, ab_ia, ab_ra, ab_oa, ab_tg, ab_len, ab_uI]
      rw [iw]
      exact ⟨hiw, hq⟩
    · subst q
      rw [if_neg (by decide), if_pos rfl] at hq
      refine step 51 _ _ _ _ _ _ _ ?_
      dsimp [ab_at, gX8_homed, ab_vc, ab_v1, ab_lk, ab_st, ab_en, ab_cst, ab_mc, ab_mS, ab_tk, ab_ns, mR, mAr, ab_ia, ab_ra, ab_oa, ab_tg, ab_len, ab_uI]
      refine c_X8_lent hnb hW hcW (p := true) rfl ?_
      refine step 57 _ _ _ _ _ _ _ ?_
      dsimp [ab_at, gX8_homed, ab_vc, ab_v1, ab_lk, ab_st, ab_en, ab_cst, ab_mc, ab_mS, ab_tk, ab_ns, mR, mAr, ab_ia, ab_ra, ab_oa, ab_tg, ab_len, ab_uI]
      exact hq
    · subst q
      rw [if_neg (by decide), if_neg (by decide), if_pos rfl] at hq
      refine step 58 _ _ _ _ _ _ _ ?_
      dsimp [ab_at, gX8_homed, ab_vc, ab_v1, ab_lk, ab_st, ab_en, ab_cst, ab_mc, ab_mS, ab_tk, ab_ns, mR, mAr, ab_ia, ab_ra, ab_oa, ab_tg, ab_len, ab_uI]
      rw [iw]
      exact ⟨hiw, hq⟩
    · subst q
      rw [if_neg (by decide), if_neg (by decide), if_neg (by decide), if_pos rfl] at hq
      refine step 65 _ _ _ _ _ _ _ ?_
      dsimp [ab_at, gX8_homed, ab_vc, ab_v1, ab_lk, ab_st, ab_en, ab_cst, ab_mc, ab_mS, ab_tk, ab_ns, mR, mAr, ab_ia, ab_ra, ab_oa, ab_tg, ab_len, ab_uI]
      refine c_X8_lent hnb hW hcW (p := false) rfl ?_
      refine step 71 _ _ _ _ _ _ _ ?_
      dsimp [ab_at, gX8_homed, ab_vc, ab_v1, ab_lk, ab_st, ab_en, ab_cst, ab_mc, ab_mS, ab_tk, ab_ns, mR, mAr, ab_ia, ab_ra, ab_oa, ab_tg, ab_len, ab_uI]
      exact hq
    · subst q
      rw [if_neg (by decide), if_neg (by decide), if_neg (by decide), if_neg (by decide), if_pos rfl] at hq
      refine step 72 _ _ _ _ _ _ _ ?_
      dsimp [ab_at, gX8_homed, ab_vc, ab_v1, ab_lk, ab_st, ab_en, ab_cst, ab_mc, ab_mS, ab_tk, ab_ns, mR, mAr, ab_ia, ab_ra, ab_oa, ab_tg, ab_len, ab_uI]
      rw [iw]
      exact ⟨hiw, hq⟩
  · refine step 5 _ _ _ _ _ _ _ ?_
    dsimp [ab_at, gX8_homed, ab_vc, ab_v1, ab_lk, ab_st, ab_en, ab_cst, ab_mc, ab_mS, ab_tk, ab_ns, mR, mAr, ab_ia, ab_ra, ab_oa, ab_tg, ab_len, ab_uI]
    exact ⟨fun q => absurd rfl q, fun _ => h0 q⟩
/-- what is told of a wish -/
def mWished (hi : ab_I) (k : Nat) (a : Int32) : Int32 := if a = nI 0 then hi 56 0 k else if a = nI 1 then hi 57 0 k else if a = nI 2 then hi 58 0 k else -1
theorem c_X8_wished (hnb : ab_n E < 2 ^ 31) (M : mok hi nR nH nW nV nL) {x a : Int32} (h1 : ∀ k, k < nV → x = nI k → Q (some (.inl (mWished hi k a))) hi (mR hr) cn) (h0 : (∀ k, k < nV → x ≠ nI k) → Q (some (.inl (-1))) hi (mR hr) cn) : ab_Wm E (d + 2) nX8_wished [mO, .inl x, .inl a] hi (mR hr) cn Q := by
  obtain ⟨-, -, -, ⟨hcV, hV⟩, -⟩ := M
  refine ab_Wm_of gX8_wished kX8_wished 1 rfl rfl hnb (fun J step drop less => ?_)
  refine step 0 _ _ _ _ _ _ _ ?_
  dsimp [ab_at, gX8_wished, ab_vc, ab_v1, ab_lk, ab_st, ab_en, ab_cst, ab_mc, ab_mS, ab_tk, ab_ns, mR, mAr, ab_ia, ab_ra, ab_oa, ab_tg, ab_len, ab_uI]
  refine c_X8_in hnb (fun q1 q2 => ?_) (fun q => ?_)
  · rw [hcV] at q2
    obtain ⟨k, hk, rfl⟩ := ab_rng (by omega) q1 q2
    have ik : ab_ix (nI k) = k := ab_ix_nI (by omega)
    have hik : ab_in (nI k) 200 := ab_inI (by omega) (by omega)
    have hq := h1 k hk rfl
    unfold mWished at hq
    refine step 11 _ _ _ _ _ _ _ ?_
    dsimp [ab_at, gX8_wished, ab_vc, ab_v1, ab_lk, ab_st, ab_en, ab_cst, ab_mc, ab_mS, ab_tk, ab_ns, mR, mAr, ab_ia, ab_ra, ab_oa, ab_tg, ab_len, ab_uI]
    refine ⟨fun _ => ?_, fun q => absurd q (by decide)⟩
    refine step 16 _ _ _ _ _ _ _ ?_
    dsimp [ab_at, gX8_wished, ab_vc, ab_v1, ab_lk, ab_st, ab_en, ab_cst, ab_mc, ab_mS, ab_tk, ab_ns, mR, mAr, ab_ia, ab_ra, ab_oa, ab_tg, ab_len, ab_uI]
    rw [ik]
    refine ⟨fun z => ?_, fun z => ⟨hik, ?_⟩⟩
    · rw [if_neg (show ¬ a = nI 0 from z)] at hq
      refine step 29 _ _ _ _ _ _ _ ?_
      dsimp [ab_at, gX8_wished, ab_vc, ab_v1, ab_lk, ab_st, ab_en, ab_cst, ab_mc, ab_mS, ab_tk, ab_ns, mR, mAr, ab_ia, ab_ra, ab_oa, ab_tg, ab_len, ab_uI]
      rw [ik]
      refine ⟨fun z => ?_, fun z => ⟨hik, ?_⟩⟩
      · rw [if_neg z] at hq
        refine step 43 _ _ _ _ _ _ _ ?_
        dsimp [ab_at, gX8_wished, ab_vc, ab_v1, ab_lk, ab_st, ab_en, ab_cst, ab_mc, ab_mS, ab_tk, ab_ns, mR, mAr, ab_ia, ab_ra, ab_oa, ab_tg, ab_len, ab_uI]
        rw [ik]
        refine ⟨fun z => ?_, fun z => ⟨hik, ?_⟩⟩
        · rw [if_neg z] at hq
          refine step 57 _ _ _ _ _ _ _ ?_
          dsimp [ab_at, gX8_wished, ab_vc, ab_v1, ab_lk, ab_st, ab_en, ab_cst, ab_mc, ab_mS, ab_tk, ab_ns, mR, mAr, ab_ia, ab_ra, ab_oa, ab_tg, ab_len, ab_uI]
          refine step 58 _ _ _ _ _ _ _ ?_
          dsimp [ab_at, gX8_wished, ab_vc, ab_v1, ab_lk, ab_st, ab_en, ab_cst, ab_mc, ab_mS, ab_tk, ab_ns, mR, mAr, ab_ia, ab_ra, ab_oa, ab_tg, ab_len, ab_uI]
          exact hq
        · rw [if_pos z] at hq
          refine step 58 _ _ _ _ _ _ _ ?_
          dsimp [ab_at, gX8_wished, ab_vc, ab_v1, ab_lk, ab_st, ab_en, ab_cst, ab_mc, ab_mS, ab_tk, ab_ns, mR, mAr, ab_ia, ab_ra, ab_oa, ab_tg, ab_len, ab_uI]
          exact hq
      · rw [if_pos z] at hq
        refine step 58 _ _ _ _ _ _ _ ?_
        dsimp [ab_at, gX8_wished, ab_vc, ab_v1, ab_lk, ab_st, ab_en, ab_cst, ab_mc, ab_mS, ab_tk, ab_ns, mR, mAr, ab_ia, ab_ra, ab_oa, ab_tg, ab_len, ab_uI]
        exact hq
    · rw [if_pos (show a = nI 0 from z)] at hq
      refine step 58 _ _ _ _ _ _ _ ?_
      dsimp [ab_at, gX8_wished, ab_vc, ab_v1, ab_lk, ab_st, ab_en, ab_cst, ab_mc, ab_mS, ab_tk, ab_ns, mR, mAr, ab_ia, ab_ra, ab_oa, ab_tg, ab_len, ab_uI]
      exact hq
  · refine step 11 _ _ _ _ _ _ _ ?_
    dsimp [ab_at, gX8_wished, ab_vc, ab_v1, ab_lk, ab_st, ab_en, ab_cst, ab_mc, ab_mS, ab_tk, ab_ns, mR, mAr, ab_ia, ab_ra, ab_oa, ab_tg, ab_len, ab_uI]
    refine ⟨fun q => absurd rfl q, fun _ => h0 fun k hk e => ?_⟩
    rw [hcV] at q
    exact q (e ▸ ab_rngI hk (by omega))
theorem c_X8_artist (hnb : ab_n E < 2 ^ 31) {x : Int32} (h1 : okIn x 0 9 → Q (some (.inl (hi 65 0 (ab_ix x)))) hi (mR hr) cn) (h0 : ¬ okIn x 0 9 → Q (some (.inl (-1))) hi (mR hr) cn) : ab_Wm E (d + 2) nX8_artist [mO, .inl x] hi (mR hr) cn Q := by
  refine ab_Wm_of gX8_artist kX8_artist 1 rfl rfl hnb (fun J step drop less => ?_)
  refine step 0 _ _ _ _ _ _ _ ?_
  dsimp [ab_at, gX8_artist, ab_vc, ab_v1, ab_lk, ab_st, ab_en, ab_cst, ab_mc, ab_mS, ab_tk, ab_ns, mR, mAr, ab_ia, ab_ra, ab_oa, ab_tg, ab_len, ab_uI]
  refine c_X8_in hnb (fun q1 q2 => ?_) (fun q => ?_)
  · refine step 7 _ _ _ _ _ _ _ ?_
    dsimp [ab_at, gX8_artist, ab_vc, ab_v1, ab_lk, ab_st, ab_en, ab_cst, ab_mc, ab_mS, ab_tk, ab_ns, mR, mAr, ab_ia, ab_ra, ab_oa, ab_tg, ab_len, ab_uI]
    refine ⟨fun q => absurd q (by decide), fun _ => ⟨ab_inK (n := 9) (by omega) q1 q2, ?_⟩⟩
    refine step 20 _ _ _ _ _ _ _ ?_
    dsimp [ab_at, gX8_artist, ab_vc, ab_v1, ab_lk, ab_st, ab_en, ab_cst, ab_mc, ab_mS, ab_tk, ab_ns, mR, mAr, ab_ia, ab_ra, ab_oa, ab_tg, ab_len, ab_uI]
    exact h1 ⟨q1, q2⟩
  · refine step 7 _ _ _ _ _ _ _ ?_
    dsimp [ab_at, gX8_artist, ab_vc, ab_v1, ab_lk, ab_st, ab_en, ab_cst, ab_mc, ab_mS, ab_tk, ab_ns, mR, mAr, ab_ia, ab_ra, ab_oa, ab_tg, ab_len, ab_uI]
    refine ⟨fun _ => ?_, fun q => absurd rfl q⟩
    refine step 19 _ _ _ _ _ _ _ ?_
    dsimp [ab_at, gX8_artist, ab_vc, ab_v1, ab_lk, ab_st, ab_en, ab_cst, ab_mc, ab_mS, ab_tk, ab_ns, mR, mAr, ab_ia, ab_ra, ab_oa, ab_tg, ab_len, ab_uI]
    refine step 20 _ _ _ _ _ _ _ ?_
    dsimp [ab_at, gX8_artist, ab_vc, ab_v1, ab_lk, ab_st, ab_en, ab_cst, ab_mc, ab_mS, ab_tk, ab_ns, mR, mAr, ab_ia, ab_ra, ab_oa, ab_tg, ab_len, ab_uI]
    exact h0 q
/-- what is told of all -/
def mOpen (hi : ab_I) : Nat → Int32 := sumI (fun k => if hi 56 0 k = nI 0 then nI 1 else nI 0)
def mCount (hi : ab_I) (nV : Nat) (a : Int32) : Int32 :=
  if a = nI 0 then hi 9 0 0 else if a = nI 1 then hi 9 0 10 else if a = nI 2 then hi 9 0 23 else if a = nI 3 then hi 9 0 30 else if a = nI 4 then mOpen hi nV else if a = nI 5 then hi 9 0 36 else if a = nI 6 then hi 9 0 37 else if a = nI 7 then hi 9 0 38 else if a = nI 8 then hi 9 0 34 else -1
theorem c_X8_count (hnb : ab_n E < 2 ^ 31) (M : mok hi nR nH nW nV nL) {a : Int32} (h1 : Q (some (.inl (mCount hi nV a))) hi (mR hr) cn) : ab_Wm E (d + 1) nX8_count [mO, .inl a] hi (mR hr) cn Q := by
  obtain ⟨-, -, -, ⟨hcV, hV⟩, -⟩ := M
  refine ab_Wm_of gX8_count kX8_count 1 rfl rfl hnb (fun J step drop less => ?_)
  have hq := h1
  unfold mCount at hq
  refine step 0 _ _ _ _ _ _ _ ?_
  dsimp [ab_at, gX8_count, ab_vc, ab_v1, ab_lk, ab_st, ab_en, ab_cst, ab_mc, ab_mS, ab_tk, ab_ns, mR, mAr, ab_ia, ab_ra, ab_oa, ab_tg, ab_len, ab_uI, ab_sw]
  refine ⟨fun q => ?_, fun q => ?_, fun q => ?_, fun q => ?_, fun q => ?_, fun q => ?_, fun q => ?_, fun q => ?_, fun q => ?_, fun q => ?_, trivial⟩
  · rw [if_neg (sw_no q (by omega)), if_neg (sw_no q (by omega)), if_neg (sw_no q (by omega)), if_neg (sw_no q (by omega)), if_neg (sw_no q (by omega)), if_neg (sw_no q (by omega)), if_neg (sw_no q (by omega)), if_neg (sw_no q (by omega)), if_neg (sw_no q (by omega))] at hq
    refine step 129 _ _ _ _ _ _ _ ?_
    dsimp [ab_at, gX8_count, ab_vc, ab_v1, ab_lk, ab_st, ab_en, ab_cst, ab_mc, ab_mS, ab_tk, ab_ns, mR, mAr, ab_ia, ab_ra, ab_oa, ab_tg, ab_len, ab_uI]
    exact hq
  · subst q
    rw [if_pos rfl] at hq
    refine step 52 _ _ _ _ _ _ _ ?_
    dsimp [ab_at, gX8_count, ab_vc, ab_v1, ab_lk, ab_st, ab_en, ab_cst, ab_mc, ab_mS, ab_tk, ab_ns, mR, mAr, ab_ia, ab_ra, ab_oa, ab_tg, ab_len, ab_uI]
    exact hq
  · subst q
    rw [if_neg (by decide), if_pos rfl] at hq
    refine step 57 _ _ _ _ _ _ _ ?_
    dsimp [ab_at, gX8_count, ab_vc, ab_v1, ab_lk, ab_st, ab_en, ab_cst, ab_mc, ab_mS, ab_tk, ab_ns, mR, mAr, ab_ia, ab_ra, ab_oa, ab_tg, ab_len, ab_uI]
    exact hq
  · subst q
    rw [if_neg (by decide), if_neg (by decide), if_pos rfl] at hq
    refine step 62 _ _ _ _ _ _ _ ?_
    dsimp [ab_at, gX8_count, ab_vc, ab_v1, ab_lk, ab_st, ab_en, ab_cst, ab_mc, ab_mS, ab_tk, ab_ns, mR, mAr, ab_ia, ab_ra, ab_oa, ab_tg, ab_len, ab_uI]
    exact hq
  · subst q
    rw [if_neg (by decide), if_neg (by decide), if_neg (by decide), if_pos rfl] at hq
    refine step 67 _ _ _ _ _ _ _ ?_
    dsimp [ab_at, gX8_count, ab_vc, ab_v1, ab_lk, ab_st, ab_en, ab_cst, ab_mc, ab_mS, ab_tk, ab_ns, mR, mAr, ab_ia, ab_ra, ab_oa, ab_tg, ab_len, ab_uI]
    exact hq
  · subst q
    rw [if_neg (by decide), if_neg (by decide), if_neg (by decide), if_neg (by decide), if_pos rfl] at hq
    have loop : ∀ m k, k + m = nV → J 76 [(0, mO), (1, .inl (nI 4)), (2, .inl (mOpen hi k)), (3, .inl (nI k))] [] hi (mR hr) cn 0 0 := by
      intro m
      induction m with
      | zero =>
        intro k hk
        have hk : k = nV := by omega
        subst hk
        refine step 76 _ _ _ _ _ _ _ ?_
        dsimp [ab_at, gX8_count, ab_vc, ab_v1, ab_lk, ab_st, ab_en, ab_cst, ab_mc, ab_mS, ab_tk, ab_ns, mR, mAr, ab_ia, ab_ra, ab_oa, ab_tg, ab_len, ab_uI]
        refine ⟨fun _ => ?_, fun q => absurd (by rw [hcV]; exact Int32.le_refl _) q⟩
        refine step 107 _ _ _ _ _ _ _ ?_
        dsimp [ab_at, gX8_count, ab_vc, ab_v1, ab_lk, ab_st, ab_en, ab_cst, ab_mc, ab_mS, ab_tk, ab_ns, mR, mAr, ab_ia, ab_ra, ab_oa, ab_tg, ab_len, ab_uI]
        exact hq
      | succ m ih =>
        intro k hk
        have ik : ab_ix (nI k) = k := ab_ix_nI (by omega)
        have on : ∀ z, (if hi 56 0 k = nI 0 then nI 1 else nI 0) = z → J 99 [(0, mO), (1, .inl (nI 4)), (2, .inl (mOpen hi k)), (3, .inl (nI k))] [.inl z, .inl (mOpen hi k)] hi (mR hr) cn 0 0 := fun z hz => by
          subst hz
          refine step 99 _ _ _ _ _ _ _ ?_
          dsimp [ab_at, gX8_count, ab_vc, ab_v1, ab_lk, ab_st, ab_en, ab_cst, ab_mc, ab_mS, ab_tk, ab_ns, mR, mAr, ab_ia, ab_ra, ab_oa, ab_tg, ab_len, ab_uI]
          rw [nI_add]
          exact ih (k + 1) (by omega)
        refine step 76 _ _ _ _ _ _ _ ?_
        dsimp [ab_at, gX8_count, ab_vc, ab_v1, ab_lk, ab_st, ab_en, ab_cst, ab_mc, ab_mS, ab_tk, ab_ns, mR, mAr, ab_ia, ab_ra, ab_oa, ab_tg, ab_len, ab_uI]
        refine ⟨fun q => absurd (by rw [hcV] at q; exact (nI_leI (by omega) (by omega)).mp q) (by omega), fun _ => ⟨ab_inI (by omega) (by omega), ?_⟩⟩
        rw [ik]
        refine ⟨fun q => ?_, fun q => on _ (if_pos q)⟩
        refine step 98 _ _ _ _ _ _ _ ?_
        dsimp [ab_at, gX8_count, ab_vc, ab_v1, ab_lk, ab_st, ab_en, ab_cst, ab_mc, ab_mS, ab_tk, ab_ns, mR, mAr, ab_ia, ab_ra, ab_oa, ab_tg, ab_len, ab_uI]
        exact on _ (if_neg q)
    refine step 72 _ _ _ _ _ _ _ ?_
    dsimp [ab_at, gX8_count, ab_vc, ab_v1, ab_lk, ab_st, ab_en, ab_cst, ab_mc, ab_mS, ab_tk, ab_ns, mR, mAr, ab_ia, ab_ra, ab_oa, ab_tg, ab_len, ab_uI]
    exact loop nV 0 (by omega)
  · subst q
    rw [if_neg (by decide), if_neg (by decide), if_neg (by decide), if_neg (by decide), if_neg (by decide), if_pos rfl] at hq
    refine step 109 _ _ _ _ _ _ _ ?_
    dsimp [ab_at, gX8_count, ab_vc, ab_v1, ab_lk, ab_st, ab_en, ab_cst, ab_mc, ab_mS, ab_tk, ab_ns, mR, mAr, ab_ia, ab_ra, ab_oa, ab_tg, ab_len, ab_uI]
    exact hq
  · subst q
    rw [if_neg (by decide), if_neg (by decide), if_neg (by decide), if_neg (by decide), if_neg (by decide), if_neg (by decide), if_pos rfl] at hq
    refine step 114 _ _ _ _ _ _ _ ?_
    dsimp [ab_at, gX8_count, ab_vc, ab_v1, ab_lk, ab_st, ab_en, ab_cst, ab_mc, ab_mS, ab_tk, ab_ns, mR, mAr, ab_ia, ab_ra, ab_oa, ab_tg, ab_len, ab_uI]
    exact hq
  · subst q
    rw [if_neg (by decide), if_neg (by decide), if_neg (by decide), if_neg (by decide), if_neg (by decide), if_neg (by decide), if_neg (by decide), if_pos rfl] at hq
    refine step 119 _ _ _ _ _ _ _ ?_
    dsimp [ab_at, gX8_count, ab_vc, ab_v1, ab_lk, ab_st, ab_en, ab_cst, ab_mc, ab_mS, ab_tk, ab_ns, mR, mAr, ab_ia, ab_ra, ab_oa, ab_tg, ab_len, ab_uI]
    exact hq
  · subst q
    rw [if_neg (by decide), if_neg (by decide), if_neg (by decide), if_neg (by decide), if_neg (by decide), if_neg (by decide), if_neg (by decide), if_neg (by decide), if_pos rfl] at hq
    refine step 124 _ _ _ _ _ _ _ ?_
    dsimp [ab_at, gX8_count, ab_vc, ab_v1, ab_lk, ab_st, ab_en, ab_cst, ab_mc, ab_mS, ab_tk, ab_ns, mR, mAr, ab_ia, ab_ra, ab_oa, ab_tg, ab_len, ab_uI]
    exact hq
end MOD6
