/-- what always holds of the reference's state: how many rules, homes, works, wishes, looks; where their numbers go -/
def mok (hi : ab_I) (nR nH nW nV nL : Nat) : Prop :=
  (hi 9 0 3 = nI nR ∧ nR ≤ 60) ∧ (hi 9 0 10 = nI nH ∧ nH ≤ 20) ∧ (hi 9 0 23 = nI nW ∧ nW ≤ 40) ∧ (hi 9 0 30 = nI nV ∧ nV ≤ 200) ∧ (hi 9 0 34 = nI nL ∧ nL ≤ 300) ∧
  (∀ k, k < nV → ∃ h, h < nH ∧ hi 54 0 k = nI h) ∧ (∀ k, k < nV → ∃ w, w < nW ∧ hi 55 0 k = nI w) ∧
  (∀ w, w < nW → ∃ a, a < 10 ∧ hi 41 0 w = nI a) ∧ (∀ w, w < nW → ∃ t, t < 4 ∧ hi 45 0 w = nI t) ∧ (∀ w, w < nW → hi 43 0 w ≠ nI 0 → ∃ h, h < nH ∧ hi 44 0 w = nI h) ∧ (∀ h, h < nH → ∃ t, t < 4 ∧ hi 35 0 h = nI t)
theorem nxt_no {c : Nat → Bool} {r : Nat → Int32} {n : Nat} (h : c n = false) : nxt c r (n + 1) = nxt c r n := by
  show (if c n = true then _ else nxt c r n) = nxt c r n
  rw [if_neg (by rw [h]; decide)]
theorem nxt_first {c : Nat → Bool} {r : Nat → Int32} {n : Nat} (h : c n = true) (h2 : nxt c r n = none) : nxt c r (n + 1) = some n := by
  show (if c n = true then (match nxt c r n with | none => some n | some j => if r j < r n then some n else some j) else _) = _
  rw [if_pos h, h2]
theorem nxt_more {c : Nat → Bool} {r : Nat → Int32} {n j : Nat} (h : c n = true) (h2 : nxt c r n = some j) (h3 : r j < r n) : nxt c r (n + 1) = some n := by
  show (if c n = true then (match nxt c r n with | none => some n | some j => if r j < r n then some n else some j) else _) = _
  rw [if_pos h, h2]
  dsimp only
  rw [if_pos h3]
theorem nxt_less {c : Nat → Bool} {r : Nat → Int32} {n j : Nat} (h : c n = true) (h2 : nxt c r n = some j) (h3 : ¬ r j < r n) : nxt c r (n + 1) = some j := by
  show (if c n = true then (match nxt c r n with | none => some n | some j => if r j < r n then some n else some j) else _) = _
  rw [if_pos h, h2]
  dsimp only
  rw [if_neg h3]
section MOD2
variable {E : ab_E} {d : Nat} {hi : ab_I} {hr : ab_R} {cn : ab_C} {Q : ab_Q} {nR nH nW nV nL : Nat}
/-- room for a work in a home -/
def mroom (hi : ab_I) (nW : Nat) (h w : Nat) : Bool := decide (mlent hi (nI h) true nW + hi 42 0 w / nI 20 ≤ hi 36 0 h)
theorem c_X8_hasRoom (hnb : ab_n E < 2 ^ 31) (M : mok hi nR nH nW nV nL) {h w : Nat} (hh : h < nH) (hw : w < nW) (h1 : mroom hi nW h w = true → Q (some (.inl (nI 1))) hi (mR hr) cn) (h0 : mroom hi nW h w = false → Q (some (.inl (nI 0))) hi (mR hr) cn) : ab_Wm E (d + 3) nX8_hasRoom [mO, .inl (nI h), .inl (nI w)] hi (mR hr) cn Q := by
  obtain ⟨-, ⟨hcH, hH⟩, ⟨hcW, hW⟩, -⟩ := M
  refine ab_Wm_of gX8_hasRoom kX8_hasRoom 2 rfl rfl hnb (fun J step drop less => ?_)
  refine step 0 _ _ _ _ _ _ _ ?_
  dsimp [ab_at, gX8_hasRoom, ab_vc, ab_v1, ab_lk, ab_st, ab_en, ab_cst, ab_mc, ab_mS, ab_tk, ab_ns, mR, mAr, ab_ia, ab_ra, ab_oa, ab_tg, ab_len, ab_uI]
  refine c_X8_lent hnb hW hcW (p := true) rfl ?_
  refine step 6 _ _ _ _ _ _ _ ?_
  dsimp [ab_at, gX8_hasRoom, ab_vc, ab_v1, ab_lk, ab_st, ab_en, ab_cst, ab_mc, ab_mS, ab_tk, ab_ns, mR, mAr, ab_ia, ab_ra, ab_oa, ab_tg, ab_len, ab_uI]
  refine c_X8_points hnb (by omega) ?_
  refine step 11 _ _ _ _ _ _ _ ?_
  dsimp [ab_at, gX8_hasRoom, ab_vc, ab_v1, ab_lk, ab_st, ab_en, ab_cst, ab_mc, ab_mS, ab_tk, ab_ns, mR, mAr, ab_ia, ab_ra, ab_oa, ab_tg, ab_len, ab_uI]
  refine ⟨ab_inI (by omega) (by omega), ?_⟩
  rw [ab_ix_nI (by omega)]
  refine ⟨fun q => ?_, fun q => ?_⟩
  · refine step 25 _ _ _ _ _ _ _ ?_
    dsimp [ab_at, gX8_hasRoom, ab_vc, ab_v1, ab_lk, ab_st, ab_en, ab_cst, ab_mc, ab_mS, ab_tk, ab_ns, mR, mAr, ab_ia, ab_ra, ab_oa, ab_tg, ab_len, ab_uI]
    refine step 26 _ _ _ _ _ _ _ ?_
    dsimp [ab_at, gX8_hasRoom, ab_vc, ab_v1, ab_lk, ab_st, ab_en, ab_cst, ab_mc, ab_mS, ab_tk, ab_ns, mR, mAr, ab_ia, ab_ra, ab_oa, ab_tg, ab_len, ab_uI]
    exact ⟨Or.inl rfl, h0 (decide_eq_false (Int32.not_le.mpr q))⟩
  · refine step 26 _ _ _ _ _ _ _ ?_
    dsimp [ab_at, gX8_hasRoom, ab_vc, ab_v1, ab_lk, ab_st, ab_en, ab_cst, ab_mc, ab_mS, ab_tk, ab_ns, mR, mAr, ab_ia, ab_ra, ab_oa, ab_tg, ab_len, ab_uI]
    exact ⟨Or.inr rfl, h1 (decide_eq_true (Int32.not_lt.mp q))⟩
theorem c_X8_isOpen (hnb : ab_n E < 2 ^ 31) (M : mok hi nR nH nW nV nL) {x : Int32} (h1 : ∀ k, k < nV → x = nI k → hi 56 0 k = nI 0 → Q (some (.inl (nI 1))) hi (mR hr) cn) (h0 : (∀ k, k < nV → x = nI k → hi 56 0 k ≠ nI 0) → Q (some (.inl (nI 0))) hi (mR hr) cn) : ab_Wm E (d + 2) nX8_isOpen [mO, .inl x] hi (mR hr) cn Q := by
  obtain ⟨-, -, -, ⟨hcV, hV⟩, -⟩ := M
  refine ab_Wm_of gX8_isOpen kX8_isOpen 2 rfl rfl hnb (fun J step drop less => ?_)
  have r27 : (∀ k, k < nV → x = nI k → hi 56 0 k ≠ nI 0) → ∀ L ck cs, J 27 L [] hi (mR hr) cn ck cs := fun q L ck cs => by
    refine step 27 _ _ _ _ _ _ _ ?_
    dsimp [ab_at, gX8_isOpen, ab_vc, ab_v1, ab_lk, ab_st, ab_en, ab_cst, ab_mc, ab_mS, ab_tk, ab_ns, mR, mAr, ab_ia, ab_ra, ab_oa, ab_tg, ab_len, ab_uI]
    refine step 28 _ _ _ _ _ _ _ ?_
    dsimp [ab_at, gX8_isOpen, ab_vc, ab_v1, ab_lk, ab_st, ab_en, ab_cst, ab_mc, ab_mS, ab_tk, ab_ns, mR, mAr, ab_ia, ab_ra, ab_oa, ab_tg, ab_len, ab_uI]
    exact ⟨Or.inl rfl, h0 q⟩
  refine step 0 _ _ _ _ _ _ _ ?_
  dsimp [ab_at, gX8_isOpen, ab_vc, ab_v1, ab_lk, ab_st, ab_en, ab_cst, ab_mc, ab_mS, ab_tk, ab_ns, mR, mAr, ab_ia, ab_ra, ab_oa, ab_tg, ab_len, ab_uI]
  refine c_X8_in hnb (fun q1 q2 => ?_) (fun q => ?_)
  · rw [hcV] at q2
    obtain ⟨k, hk, rfl⟩ := ab_rng (by omega) q1 q2
    refine step 11 _ _ _ _ _ _ _ ?_
    dsimp [ab_at, gX8_isOpen, ab_vc, ab_v1, ab_lk, ab_st, ab_en, ab_cst, ab_mc, ab_mS, ab_tk, ab_ns, mR, mAr, ab_ia, ab_ra, ab_oa, ab_tg, ab_len, ab_uI]
    refine ⟨fun q => absurd q (by decide), fun _ => ⟨ab_inI (by omega) (by omega), ?_⟩⟩
    rw [ab_ix_nI (by omega)]
    refine ⟨fun q => r27 (fun k' hk' e => ?_) _ _ _, fun q => ?_⟩
    · have := (nI_eq (by omega) (by omega)).mp e
      subst this
      exact q
    · refine step 28 _ _ _ _ _ _ _ ?_
      dsimp [ab_at, gX8_isOpen, ab_vc, ab_v1, ab_lk, ab_st, ab_en, ab_cst, ab_mc, ab_mS, ab_tk, ab_ns, mR, mAr, ab_ia, ab_ra, ab_oa, ab_tg, ab_len, ab_uI]
      exact ⟨Or.inr rfl, h1 k hk rfl q⟩
  · refine step 11 _ _ _ _ _ _ _ ?_
    dsimp [ab_at, gX8_isOpen, ab_vc, ab_v1, ab_lk, ab_st, ab_en, ab_cst, ab_mc, ab_mS, ab_tk, ab_ns, mR, mAr, ab_ia, ab_ra, ab_oa, ab_tg, ab_len, ab_uI]
    refine ⟨fun _ => r27 (fun k hk e => ?_) _ _ _, fun q => absurd rfl q⟩
    rw [hcV] at q
    exact absurd (e ▸ ab_rngI hk (by omega)) q
theorem c_X8_openOf (hnb : ab_n E < 2 ^ 31) (M : mok hi nR nH nW nV nL) {x y : Int32} (h1 : ∀ k, k < nV → hi 56 0 k = nI 0 → hi 54 0 k = x → hi 55 0 k = y → Q (some (.inl (nI k))) hi (mR hr) cn) (h0 : (∀ k, k < nV → ¬ (hi 56 0 k = nI 0 ∧ hi 54 0 k = x ∧ hi 55 0 k = y)) → Q (some (.inl (-1))) hi (mR hr) cn) : ab_Wm E (d + 1) nX8_openOf [mO, .inl x, .inl y] hi (mR hr) cn Q := by
  obtain ⟨-, -, -, ⟨hcV, hV⟩, -⟩ := M
  refine ab_Wm_of gX8_openOf kX8_openOf 1 rfl rfl hnb (fun J step drop less => ?_)
  have loop : ∀ m k, k + m = nV → (∀ j, j < k → ¬ (hi 56 0 j = nI 0 ∧ hi 54 0 j = x ∧ hi 55 0 j = y)) → J 2 [(0, mO), (1, .inl x), (2, .inl y), (3, .inl (nI k))] [] hi (mR hr) cn 0 0 := by
    intro m
    induction m with
    | zero =>
      intro k hk hq
      have hk : k = nV := by omega
      subst hk
      refine step 2 _ _ _ _ _ _ _ ?_
      dsimp [ab_at, gX8_openOf, ab_vc, ab_v1, ab_lk, ab_st, ab_en, ab_cst, ab_mc, ab_mS, ab_tk, ab_ns, mR, mAr, ab_ia, ab_ra, ab_oa, ab_tg, ab_len, ab_uI]
      refine ⟨fun _ => ?_, fun q => absurd (by rw [hcV]; exact Int32.le_refl _) q⟩
      refine step 47 _ _ _ _ _ _ _ ?_
      dsimp [ab_at, gX8_openOf, ab_vc, ab_v1, ab_lk, ab_st, ab_en, ab_cst, ab_mc, ab_mS, ab_tk, ab_ns, mR, mAr, ab_ia, ab_ra, ab_oa, ab_tg, ab_len, ab_uI]
      exact h0 hq
    | succ m ih =>
      intro k hk hq
      have ik : ab_ix (nI k) = k := ab_ix_nI (by omega)
      have on : ¬ (hi 56 0 k = nI 0 ∧ hi 54 0 k = x ∧ hi 55 0 k = y) → J 41 [(0, mO), (1, .inl x), (2, .inl y), (3, .inl (nI k))] [] hi (mR hr) cn 0 0 := fun q => by
        refine step 41 _ _ _ _ _ _ _ ?_
        dsimp [ab_at, gX8_openOf, ab_vc, ab_v1, ab_lk, ab_st, ab_en, ab_cst, ab_mc, ab_mS, ab_tk, ab_ns, mR, mAr, ab_ia, ab_ra, ab_oa, ab_tg, ab_len, ab_uI]
        rw [nI_add]
        exact ih (k + 1) (by omega) (lt_s hq q)
      refine step 2 _ _ _ _ _ _ _ ?_
      dsimp [ab_at, gX8_openOf, ab_vc, ab_v1, ab_lk, ab_st, ab_en, ab_cst, ab_mc, ab_mS, ab_tk, ab_ns, mR, mAr, ab_ia, ab_ra, ab_oa, ab_tg, ab_len, ab_uI]
      refine ⟨fun q => absurd (by rw [hcV] at q; exact (nI_leI (by omega) (by omega)).mp q) (by omega), fun _ => ⟨ab_inI (by omega) (by omega), ?_⟩⟩
      rw [ik]
      refine ⟨fun q => on fun z => q z.1, fun q => ⟨ab_inI (by omega) (by omega), fun q2 => on fun z => q2 z.2.1, fun q2 => ⟨ab_inI (by omega) (by omega), fun q3 => on fun z => q3 z.2.2, fun q3 => ?_⟩⟩⟩
      exact h1 k (by omega) q q2 q3
  refine step 0 _ _ _ _ _ _ _ ?_
  dsimp [ab_at, gX8_openOf, ab_vc, ab_v1, ab_lk, ab_st, ab_en, ab_cst, ab_mc, ab_mS, ab_tk, ab_ns, mR, mAr, ab_ia, ab_ra, ab_oa, ab_tg, ab_len, ab_uI]
  exact loop nV 0 (by omega) (fun _ h => absurd h (by omega))
/-- a wish's rank -/
noncomputable def mrank (hi : ab_I) (nR k : Nat) : Int32 := mrule hi nR (hi 9 0 0) 1 * (hi 9 0 0 - hi 57 0 k) + mrule hi nR (hi 9 0 0) 2 * ((hi 9 0 0 - hi 37 0 (ab_ix (hi 54 0 k))) / nI 30)
theorem c_X8_rankOf (hnb : ab_n E < 2 ^ 31) (M : mok hi nR nH nW nV nL) {k : Nat} (hk : k < nV) (h : Q (some (.inl (mrank hi nR k))) hi (mR hr) cn) : ab_Wm E (d + 2) nX8_rankOf [mO, .inl (nI k)] hi (mR hr) cn Q := by
  obtain ⟨⟨hcR, hR⟩, ⟨hcH, hH⟩, -, ⟨hcV, hV⟩, -, mh, -⟩ := M
  obtain ⟨w, hw, ew⟩ := mh k hk
  have ik : ab_ix (nI k) = k := ab_ix_nI (by omega)
  refine ab_Wm_of gX8_rankOf kX8_rankOf 1 rfl rfl hnb (fun J step drop less => ?_)
  refine step 0 _ _ _ _ _ _ _ ?_
  dsimp [ab_at, gX8_rankOf, ab_vc, ab_v1, ab_lk, ab_st, ab_en, ab_cst, ab_mc, ab_mS, ab_tk, ab_ns, mR, mAr, ab_ia, ab_ra, ab_oa, ab_tg, ab_len, ab_uI]
  refine c_X8_ruled hnb (what := 1) (by omega) hR hcR ?_
  refine step 9 _ _ _ _ _ _ _ ?_
  dsimp [ab_at, gX8_rankOf, ab_vc, ab_v1, ab_lk, ab_st, ab_en, ab_cst, ab_mc, ab_mS, ab_tk, ab_ns, mR, mAr, ab_ia, ab_ra, ab_oa, ab_tg, ab_len, ab_uI]
  refine ⟨ab_inI (by omega) (by omega), ?_⟩
  rw [ik]
  refine c_X8_ruled hnb (what := 2) (by omega) hR hcR ?_
  refine step 30 _ _ _ _ _ _ _ ?_
  dsimp [ab_at, gX8_rankOf, ab_vc, ab_v1, ab_lk, ab_st, ab_en, ab_cst, ab_mc, ab_mS, ab_tk, ab_ns, mR, mAr, ab_ia, ab_ra, ab_oa, ab_tg, ab_len, ab_uI]
  refine ⟨ab_inI (by omega) (by omega), ?_⟩
  rw [ik]
  refine ⟨⟨w, by omega, by omega, ew⟩, by decide, ?_⟩
  exact h
theorem c_X8_rank (hnb : ab_n E < 2 ^ 31) (M : mok hi nR nH nW nV nL) {x : Int32} (h1 : ∀ k, k < nV → x = nI k → hi 56 0 k = nI 0 → Q (some (.inl (mrank hi nR k))) hi (mR hr) cn) (h0 : (∀ k, k < nV → x = nI k → hi 56 0 k ≠ nI 0) → Q (some (.inl (-1))) hi (mR hr) cn) : ab_Wm E (d + 3) nX8_rank [mO, .inl x] hi (mR hr) cn Q := by
  refine ab_Wm_of gX8_rank kX8_rank 1 rfl rfl hnb (fun J step drop less => ?_)
  refine step 0 _ _ _ _ _ _ _ ?_
  dsimp [ab_at, gX8_rank, ab_vc, ab_v1, ab_lk, ab_st, ab_en, ab_cst, ab_mc, ab_mS, ab_tk, ab_ns, mR, mAr, ab_ia, ab_ra, ab_oa, ab_tg, ab_len, ab_uI]
  refine c_X8_isOpen hnb M (fun k hk e q => ?_) (fun q => ?_)
  · subst e
    refine step 5 _ _ _ _ _ _ _ ?_
    dsimp [ab_at, gX8_rank, ab_vc, ab_v1, ab_lk, ab_st, ab_en, ab_cst, ab_mc, ab_mS, ab_tk, ab_ns, mR, mAr, ab_ia, ab_ra, ab_oa, ab_tg, ab_len, ab_uI]
    refine ⟨fun q => absurd q (by decide), fun _ => ?_⟩
    refine c_X8_rankOf hnb M hk ?_
    refine step 13 _ _ _ _ _ _ _ ?_
    dsimp [ab_at, gX8_rank, ab_vc, ab_v1, ab_lk, ab_st, ab_en, ab_cst, ab_mc, ab_mS, ab_tk, ab_ns, mR, mAr, ab_ia, ab_ra, ab_oa, ab_tg, ab_len, ab_uI]
    refine step 17 _ _ _ _ _ _ _ ?_
    dsimp [ab_at, gX8_rank, ab_vc, ab_v1, ab_lk, ab_st, ab_en, ab_cst, ab_mc, ab_mS, ab_tk, ab_ns, mR, mAr, ab_ia, ab_ra, ab_oa, ab_tg, ab_len, ab_uI]
    exact h1 k hk rfl q
  · refine step 5 _ _ _ _ _ _ _ ?_
    dsimp [ab_at, gX8_rank, ab_vc, ab_v1, ab_lk, ab_st, ab_en, ab_cst, ab_mc, ab_mS, ab_tk, ab_ns, mR, mAr, ab_ia, ab_ra, ab_oa, ab_tg, ab_len, ab_uI]
    refine ⟨fun _ => ?_, fun q => absurd rfl q⟩
    refine step 16 _ _ _ _ _ _ _ ?_
    dsimp [ab_at, gX8_rank, ab_vc, ab_v1, ab_lk, ab_st, ab_en, ab_cst, ab_mc, ab_mS, ab_tk, ab_ns, mR, mAr, ab_ia, ab_ra, ab_oa, ab_tg, ab_len, ab_uI]
    refine step 17 _ _ _ _ _ _ _ ?_
    dsimp [ab_at, gX8_rank, ab_vc, ab_v1, ab_lk, ab_st, ab_en, ab_cst, ab_mc, ab_mS, ab_tk, ab_ns, mR, mAr, ab_ia, ab_ra, ab_oa, ab_tg, ab_len, ab_uI]
    exact h0 q
/-- a wish may get a work now -/
noncomputable def mcand (hi : ab_I) (nW w k : Nat) : Bool := decide (hi 56 0 k = nI 0) && decide (hi 55 0 k = nI w) && !decide (hi 59 0 k = hi 9 0 0) && mroom hi nW (ab_ix (hi 54 0 k)) w
noncomputable def mnext (hi : ab_I) (nR nW w : Nat) : Nat → Option Nat := nxt (mcand hi nW w) (mrank hi nR)
def mnn : Option Nat → Int32
  | none => -1
  | some k => nI k
theorem mnn_ne {k : Nat} (h : k < 100000) : nI k ≠ -1 := fun e => by
  have := congrArg Int32.toInt e
  rw [nI_toInt (by omega)] at this
  have h2 : (-1 : Int32).toInt = -1 := by decide
  omega
theorem c_X8_next (hnb : ab_n E < 2 ^ 31) (M : mok hi nR nH nW nV nL) {x : Int32} (h1 : ∀ w, w < nW → x = nI w → hi 43 0 w = nI 0 → Q (some (.inl (mnn (mnext hi nR nW w nV)))) hi (mR hr) cn) (h0 : (∀ w, w < nW → x = nI w → hi 43 0 w ≠ nI 0) → Q (some (.inl (-1))) hi (mR hr) cn) : ab_Wm E (d + 4) nX8_next [mO, .inl x] hi (mR hr) cn Q := by
  have M' := M
  obtain ⟨⟨hcR, hR⟩, ⟨hcH, hH⟩, ⟨hcW, hW⟩, ⟨hcV, hV⟩, -, mh, -⟩ := M
  refine ab_Wm_of gX8_next kX8_next 1 rfl rfl hnb (fun J step drop less => ?_)
  have r17 : (∀ w, w < nW → x = nI w → hi 43 0 w ≠ nI 0) → ∀ L ck cs, J 17 L [] hi (mR hr) cn ck cs := fun q L ck cs => by
    refine step 17 _ _ _ _ _ _ _ ?_
    dsimp [ab_at, gX8_next, ab_vc, ab_v1, ab_lk, ab_st, ab_en, ab_cst, ab_mc, ab_mS, ab_tk, ab_ns, mR, mAr, ab_ia, ab_ra, ab_oa, ab_tg, ab_len, ab_uI]
    exact h0 q
  refine step 0 _ _ _ _ _ _ _ ?_
  dsimp [ab_at, gX8_next, ab_vc, ab_v1, ab_lk, ab_st, ab_en, ab_cst, ab_mc, ab_mS, ab_tk, ab_ns, mR, mAr, ab_ia, ab_ra, ab_oa, ab_tg, ab_len, ab_uI]
  refine c_X8_isWork hnb hW hcW (fun w hw e => ?_) (fun q => ?_)
  · subst e
    have iw : ab_ix (nI w) = w := ab_ix_nI (by omega)
    have loop : hi 43 0 w = nI 0 → ∀ m k, k + m = nV → J 23 [(0, mO), (1, .inl (nI w)), (2, .inl (mnn (mnext hi nR nW w k))), (3, .inl (nI k))] [] hi (mR hr) cn 0 0 := by
      intro hs m
      induction m with
      | zero =>
        intro k hk
        have hk : k = nV := by omega
        subst hk
        refine step 23 _ _ _ _ _ _ _ ?_
        dsimp [ab_at, gX8_next, ab_vc, ab_v1, ab_lk, ab_st, ab_en, ab_cst, ab_mc, ab_mS, ab_tk, ab_ns, mR, mAr, ab_ia, ab_ra, ab_oa, ab_tg, ab_len, ab_uI]
        refine ⟨fun _ => ?_, fun q => absurd (by rw [hcV]; exact Int32.le_refl _) q⟩
        refine step 106 _ _ _ _ _ _ _ ?_
        dsimp [ab_at, gX8_next, ab_vc, ab_v1, ab_lk, ab_st, ab_en, ab_cst, ab_mc, ab_mS, ab_tk, ab_ns, mR, mAr, ab_ia, ab_ra, ab_oa, ab_tg, ab_len, ab_uI]
        exact h1 w hw rfl hs
      | succ m ih =>
        intro k hk
        have ik : ab_ix (nI k) = k := ab_ix_nI (by omega)
        obtain ⟨g, hg, eg⟩ := mh k (by omega)
        have ig : ab_ix (nI g) = g := ab_ix_nI (by omega)
        have on : ∀ z, mnn (mnext hi nR nW w (k + 1)) = z → J 100 [(0, mO), (1, .inl (nI w)), (2, .inl z), (3, .inl (nI k))] [] hi (mR hr) cn 0 0 := fun z hz => by
          subst hz
          refine step 100 _ _ _ _ _ _ _ ?_
          dsimp [ab_at, gX8_next, ab_vc, ab_v1, ab_lk, ab_st, ab_en, ab_cst, ab_mc, ab_mS, ab_tk, ab_ns, mR, mAr, ab_ia, ab_ra, ab_oa, ab_tg, ab_len, ab_uI]
          rw [nI_add]
          exact ih (k + 1) (by omega)
        have no : mcand hi nW w k = false → mnext hi nR nW w (k + 1) = mnext hi nR nW w k := fun q => nxt_no q
        have r98 : mcand hi nW w k = true → (mnext hi nR nW w k = none ∨ ∃ j, mnext hi nR nW w k = some j ∧ mrank hi nR j < mrank hi nR k) → ∀ z, J 98 [(0, mO), (1, .inl (nI w)), (2, .inl z), (3, .inl (nI k))] [] hi (mR hr) cn 0 0 := fun q q2 z => by
          refine step 98 _ _ _ _ _ _ _ ?_
          dsimp [ab_at, gX8_next, ab_vc, ab_v1, ab_lk, ab_st, ab_en, ab_cst, ab_mc, ab_mS, ab_tk, ab_ns, mR, mAr, ab_ia, ab_ra, ab_oa, ab_tg, ab_len, ab_uI]
          refine on _ ?_
          have : mnext hi nR nW w (k + 1) = some k := by
            rcases q2 with q2 | ⟨j, q2, q3⟩
            · exact nxt_first q q2
            · exact nxt_more q q2 q3
          rw [this]
          rfl
        refine step 23 _ _ _ _ _ _ _ ?_
        dsimp [ab_at, gX8_next, ab_vc, ab_v1, ab_lk, ab_st, ab_en, ab_cst, ab_mc, ab_mS, ab_tk, ab_ns, mR, mAr, ab_ia, ab_ra, ab_oa, ab_tg, ab_len, ab_uI]
        refine ⟨fun q => absurd (by rw [hcV] at q; exact (nI_leI (by omega) (by omega)).mp q) (by omega), fun _ => ⟨ab_inI (by omega) (by omega), ?_⟩⟩
        rw [ik]
        refine ⟨fun q => on _ (by rw [no (by unfold mcand; rw [decide_eq_false (show ¬ hi 56 0 k = nI 0 from q)]; rfl)]), fun q => ⟨ab_inI (by omega) (by omega), fun q2 => on _ (by rw [no (by unfold mcand; rw [decide_eq_false q2]; simp)]), fun q2 => ⟨ab_inI (by omega) (by omega), fun q3 => on _ (by rw [no (by unfold mcand; rw [decide_eq_true q3]; simp)]), fun q3 => ⟨ab_inI (by omega) (by omega), ?_⟩⟩⟩⟩
        rw [eg]
        refine c_X8_hasRoom hnb M' hg hw (fun q4 => ?_) (fun q4 => ?_)
        · have hcd : mcand hi nW w k = true := by
            unfold mcand
            rw [decide_eq_true (show hi 56 0 k = nI 0 from q), decide_eq_true q2, decide_eq_false q3, eg, ig, q4]
            rfl
          refine step 74 _ _ _ _ _ _ _ ?_
          dsimp [ab_at, gX8_next, ab_vc, ab_v1, ab_lk, ab_st, ab_en, ab_cst, ab_mc, ab_mS, ab_tk, ab_ns, mR, mAr, ab_ia, ab_ra, ab_oa, ab_tg, ab_len, ab_uI]
          refine ⟨fun _ => ?_, fun q => absurd q (by decide)⟩
          rcases hb : mnext hi nR nW w k with _ | j
          · dsimp only [mnn]
            refine step 80 _ _ _ _ _ _ _ ?_
            dsimp [ab_at, gX8_next, ab_vc, ab_v1, ab_lk, ab_st, ab_en, ab_cst, ab_mc, ab_mS, ab_tk, ab_ns, mR, mAr, ab_ia, ab_ra, ab_oa, ab_tg, ab_len, ab_uI]
            exact ⟨fun _ => r98 hcd (Or.inl hb) _, fun q => absurd rfl q⟩
          · have hj := (nxt_lt hb).1
            dsimp only [mnn]
            refine step 80 _ _ _ _ _ _ _ ?_
            dsimp [ab_at, gX8_next, ab_vc, ab_v1, ab_lk, ab_st, ab_en, ab_cst, ab_mc, ab_mS, ab_tk, ab_ns, mR, mAr, ab_ia, ab_ra, ab_oa, ab_tg, ab_len, ab_uI]
            refine ⟨fun q => absurd q (mnn_ne (by omega)), fun _ => ?_⟩
            refine c_X8_rankOf hnb M' (by omega) ?_
            refine step 90 _ _ _ _ _ _ _ ?_
            dsimp [ab_at, gX8_next, ab_vc, ab_v1, ab_lk, ab_st, ab_en, ab_cst, ab_mc, ab_mS, ab_tk, ab_ns, mR, mAr, ab_ia, ab_ra, ab_oa, ab_tg, ab_len, ab_uI]
            refine c_X8_rankOf hnb M' (by omega) ?_
            refine step 95 _ _ _ _ _ _ _ ?_
            dsimp [ab_at, gX8_next, ab_vc, ab_v1, ab_lk, ab_st, ab_en, ab_cst, ab_mc, ab_mS, ab_tk, ab_ns, mR, mAr, ab_ia, ab_ra, ab_oa, ab_tg, ab_len, ab_uI]
            refine ⟨fun q5 => on _ ?_, fun q5 => r98 hcd (Or.inr ⟨j, hb, Int32.not_le.mp q5⟩) _⟩
            have : mnext hi nR nW w (k + 1) = some j := nxt_less hcd hb (Int32.not_lt.mpr q5)
            rw [this]
            rfl
        · have hcd : mcand hi nW w k = false := by
            unfold mcand
            rw [eg, ig, q4]
            simp
          refine step 74 _ _ _ _ _ _ _ ?_
          dsimp [ab_at, gX8_next, ab_vc, ab_v1, ab_lk, ab_st, ab_en, ab_cst, ab_mc, ab_mS, ab_tk, ab_ns, mR, mAr, ab_ia, ab_ra, ab_oa, ab_tg, ab_len, ab_uI]
          refine ⟨fun q => absurd rfl q, fun _ => on _ (by rw [no hcd])⟩
    refine step 5 _ _ _ _ _ _ _ ?_
    dsimp [ab_at, gX8_next, ab_vc, ab_v1, ab_lk, ab_st, ab_en, ab_cst, ab_mc, ab_mS, ab_tk, ab_ns, mR, mAr, ab_ia, ab_ra, ab_oa, ab_tg, ab_len, ab_uI]
    refine ⟨fun q => absurd q (by decide), fun _ => ⟨ab_inI (by omega) (by omega), ?_⟩⟩
    rw [iw]
    refine ⟨fun q => ?_, fun q => r17 (fun w' hw' e => ?_) _ _ _⟩
    · refine step 19 _ _ _ _ _ _ _ ?_
      dsimp [ab_at, gX8_next, ab_vc, ab_v1, ab_lk, ab_st, ab_en, ab_cst, ab_mc, ab_mS, ab_tk, ab_ns, mR, mAr, ab_ia, ab_ra, ab_oa, ab_tg, ab_len, ab_uI]
      exact loop q nV 0 (by omega)
    · have := (nI_eq (by omega) (by omega)).mp e
      subst this
      exact q
  · refine step 5 _ _ _ _ _ _ _ ?_
    dsimp [ab_at, gX8_next, ab_vc, ab_v1, ab_lk, ab_st, ab_en, ab_cst, ab_mc, ab_mS, ab_tk, ab_ns, mR, mAr, ab_ia, ab_ra, ab_oa, ab_tg, ab_len, ab_uI]
    exact ⟨fun _ => r17 (fun w hw e => absurd e (q w hw)) _ _ _, fun q => absurd rfl q⟩
theorem c_X8_isLent (hnb : ab_n E < 2 ^ 31) (M : mok hi nR nH nW nV nL) {x : Int32} (h1 : ∀ w, w < nW → x = nI w → hi 43 0 w = nI 1 → Q (some (.inl (nI 1))) hi (mR hr) cn) (h0 : (∀ w, w < nW → x = nI w → hi 43 0 w ≠ nI 1) → Q (some (.inl (nI 0))) hi (mR hr) cn) : ab_Wm E (d + 3) nX8_isLent [mO, .inl x] hi (mR hr) cn Q := by
  obtain ⟨-, -, ⟨hcW, hW⟩, -⟩ := M
  refine ab_Wm_of gX8_isLent kX8_isLent 2 rfl rfl hnb (fun J step drop less => ?_)
  have r22 : (∀ w, w < nW → x = nI w → hi 43 0 w ≠ nI 1) → ∀ L ck cs, J 22 L [] hi (mR hr) cn ck cs := fun q L ck cs => by
    refine step 22 _ _ _ _ _ _ _ ?_
    dsimp [ab_at, gX8_isLent, ab_vc, ab_v1, ab_lk, ab_st, ab_en, ab_cst, ab_mc, ab_mS, ab_tk, ab_ns, mR, mAr, ab_ia, ab_ra, ab_oa, ab_tg, ab_len, ab_uI]
    refine step 23 _ _ _ _ _ _ _ ?_
    dsimp [ab_at, gX8_isLent, ab_vc, ab_v1, ab_lk, ab_st, ab_en, ab_cst, ab_mc, ab_mS, ab_tk, ab_ns, mR, mAr, ab_ia, ab_ra, ab_oa, ab_tg, ab_len, ab_uI]
    exact ⟨Or.inl rfl, h0 q⟩
  refine step 0 _ _ _ _ _ _ _ ?_
  dsimp [ab_at, gX8_isLent, ab_vc, ab_v1, ab_lk, ab_st, ab_en, ab_cst, ab_mc, ab_mS, ab_tk, ab_ns, mR, mAr, ab_ia, ab_ra, ab_oa, ab_tg, ab_len, ab_uI]
  refine c_X8_isWork hnb hW hcW (fun w hw e => ?_) (fun q => ?_)
  · subst e
    refine step 5 _ _ _ _ _ _ _ ?_
    dsimp [ab_at, gX8_isLent, ab_vc, ab_v1, ab_lk, ab_st, ab_en, ab_cst, ab_mc, ab_mS, ab_tk, ab_ns, mR, mAr, ab_ia, ab_ra, ab_oa, ab_tg, ab_len, ab_uI]
    refine ⟨fun q => absurd q (by decide), fun _ => ⟨ab_inI (by omega) (by omega), ?_⟩⟩
    rw [ab_ix_nI (by omega)]
    refine ⟨fun q => r22 (fun w' hw' e => ?_) _ _ _, fun q => ?_⟩
    · have := (nI_eq (by omega) (by omega)).mp e
      subst this
      exact q
    · refine step 23 _ _ _ _ _ _ _ ?_
      dsimp [ab_at, gX8_isLent, ab_vc, ab_v1, ab_lk, ab_st, ab_en, ab_cst, ab_mc, ab_mS, ab_tk, ab_ns, mR, mAr, ab_ia, ab_ra, ab_oa, ab_tg, ab_len, ab_uI]
      exact ⟨Or.inr rfl, h1 w hw rfl q⟩
  · refine step 5 _ _ _ _ _ _ _ ?_
    dsimp [ab_at, gX8_isLent, ab_vc, ab_v1, ab_lk, ab_st, ab_en, ab_cst, ab_mc, ab_mS, ab_tk, ab_ns, mR, mAr, ab_ia, ab_ra, ab_oa, ab_tg, ab_len, ab_uI]
    exact ⟨fun _ => r22 (fun w hw e => absurd e (q w hw)) _ _ _, fun q => absurd rfl q⟩
end MOD2
