def cY (K : Nat) : Bool := K == 8 || K == 16 || K == 4 || K == 1 || K == 7
theorem cR_zR {hr : ab_R} {K i : Nat} (h : cY K = false) : ab_zR (cR hr) K i = cR (ab_zR hr K i) := by
  unfold cY at h
  simp only [Bool.or_eq_false_iff, beq_eq_false_iff_ne] at h
  obtain ⟨⟨⟨⟨h1, h2⟩, h3⟩, h4⟩, h5⟩ := h
  funext K' i' j'
  by_cases e : K' = K ∧ i' = i
  · obtain ⟨rfl, rfl⟩ := e
    unfold cR ab_zR
    simp only [h1, h2, h3, h4, h5, if_true, if_false]
  · have e1 : ∀ f : ab_R, ab_zR f K i K' i' j' = f K' i' j' := fun f => by
      unfold ab_zR
      repeat' split
      all_goals first | rfl | exact absurd ⟨‹_›, ‹_›⟩ e
    rw [e1]
    unfold cR
    rw [e1]
theorem cR_work {hr : ab_R} {n : Nat} : cWorkR (ab_zR (cR hr) 7 n) n = cR (cWorkR (ab_zR hr 7 n) n) := by
  funext K' i' j'
  unfold cWorkR
  by_cases e : K' = 7
  · subst e
    by_cases e2 : i' = n
    · subst e2
      by_cases e3 : j' = 4
      · subst e3
        simp [cR, ab_uR]
      · by_cases e4 : j' = 9
        · subst e4
          simp [cR, ab_uR]
        · by_cases e5 : j' = 14
          · subst e5
            simp [cR, ab_uR]
          · simp [cR, ab_uR, ab_zR, e3, e4, e5]
    · simp [cR, ab_uR, ab_zR, e2]
  · by_cases e2 : K' = 11
    · subst e2
      simp [cR, ab_uR, ab_zR]
    · simp [cR, ab_uR, ab_zR, e, e2]
section CLS5
variable {E : ab_E} {d : Nat} {hi : ab_I} {hr : ab_R} {cn : ab_C} {Q : ab_Q}
theorem c_X7_home (hnb : ab_n E < 2 ^ 31) {t l : Int32} {n : Nat} (hn : n ≤ 20) (C : cL hi (cR hr) cn 0 n (fun j => (2, j))) (hc : cn 2 = n)
    (h1 : okHome t l n → ∀ hi' hr' cn', adP 0 (cHome (ab_zI hi 2 n) n (nI n) t l (hi 8 0 8)) (cR (ab_zR hr 2 n)) (ab_uC cn 2 (n + 1)) hi' hr' cn' → cL hi' hr' cn' 0 (n + 1) (fun j => (2, j)) → Q (some (.inl (nI n))) hi' hr' cn')
    (h0 : ¬ okHome t l n → Q (some (.inl (-1))) hi (cR hr) cn) : ab_Wm E (d + 7) nX7_home [cO, .inl t, .inl l] hi (cR hr) cn Q := by
  refine ab_Wm_of gX7_home kX7_home 1 rfl rfl hnb (fun J step drop less => ?_)
  have r32 : ¬ okHome t l n → ∀ L ck cs, J 32 L [] hi (cR hr) cn ck cs := fun q L ck cs => by
    refine step 32 _ _ _ _ _ _ _ ?_
    dsimp [ab_at, gX7_home, nX7_home, ab_vc, ab_v1, ab_lk, ab_st, ab_en, ab_cst, ab_mc, ab_mS, ab_tk, ab_ns, cR, ab_ia, ab_ra, ab_oa, ab_tg, ab_len, ab_uI, ab_uR]
    exact h0 q
  refine step 0 _ _ _ _ _ _ _ ?_
  dsimp [ab_at, gX7_home, nX7_home, ab_vc, ab_v1, ab_lk, ab_st, ab_en, ab_cst, ab_mc, ab_mS, ab_tk, ab_ns, cR, ab_ia, ab_ra, ab_oa, ab_tg, ab_len, ab_uI, ab_uR]
  refine c_AL_size hnb C ?_
  refine step 7 _ _ _ _ _ _ _ ?_
  dsimp [ab_at, gX7_home, nX7_home, ab_vc, ab_v1, ab_lk, ab_st, ab_en, ab_cst, ab_mc, ab_mS, ab_tk, ab_ns, cR, ab_ia, ab_ra, ab_oa, ab_tg, ab_len, ab_uI, ab_uR]
  refine c_X7_isTown hnb (fun a1 => ?_) (fun q => ?_)
  · refine step 12 _ _ _ _ _ _ _ ?_
    dsimp [ab_at, gX7_home, nX7_home, ab_vc, ab_v1, ab_lk, ab_st, ab_en, ab_cst, ab_mc, ab_mS, ab_tk, ab_ns, cR, ab_ia, ab_ra, ab_oa, ab_tg, ab_len, ab_uI, ab_uR]
    refine ⟨fun q => absurd q (by decide), fun _ => ?_⟩
    refine c_X7_within hnb (fun b1 b2 => ?_) (fun q => ?_)
    · refine step 23 _ _ _ _ _ _ _ ?_
      dsimp [ab_at, gX7_home, nX7_home, ab_vc, ab_v1, ab_lk, ab_st, ab_en, ab_cst, ab_mc, ab_mS, ab_tk, ab_ns, cR, ab_ia, ab_ra, ab_oa, ab_tg, ab_len, ab_uI, ab_uR]
      refine ⟨fun q => absurd q (by decide), fun _ => ⟨fun q => ?_, fun q => r32 (fun z => q (nI_lt z.2.2 (by omega))) _ _ _⟩⟩
      have hlt := (nI_ltI (by omega) (by omega)).mp q
      refine step 34 _ _ _ _ _ _ _ ?_
      dsimp [ab_at, gX7_home, nX7_home, ab_vc, ab_v1, ab_lk, ab_st, ab_en, ab_cst, ab_mc, ab_mS, ab_tk, ab_ns, cR, ab_ia, ab_ra, ab_oa, ab_tg, ab_len, ab_uI, ab_uR, ab_zI, ab_zR, ab_uC, ab_nf]
      rw [hc]
      refine c_X1_init hnb ?_
      refine step 52 _ _ _ _ _ _ _ ?_
      dsimp [ab_at, gX7_home, nX7_home, ab_vc, ab_v1, ab_lk, ab_st, ab_en, ab_cst, ab_mc, ab_mS, ab_tk, ab_ns, cR, ab_ia, ab_ra, ab_oa, ab_tg, ab_len, ab_uI, ab_uR]
      have C' : cL (cHome (ab_zI hi 2 n) n (nI n) t l (hi 8 0 8)) (ab_zR (cR hr) 2 n) (ab_uC cn 2 (n + 1)) 0 n (fun j => (2, j)) := C
      refine c_AL_add (k := 0) (n := n) (KE := 2) (el := fun j => (2, j)) hnb (c_copyOf hnb) (by omega) (by omega) (by omega) (fun j => rfl) rfl C' rfl (fun hi' hr' cn' a1' a2' => ?_)
      rw [cR_zR rfl] at a1'
      refine step 55 _ _ _ _ _ _ _ ?_
      dsimp [ab_at, gX7_home, nX7_home, ab_vc, ab_v1, ab_lk, ab_st, ab_en, ab_cst, ab_mc, ab_mS, ab_tk, ab_ns, cR, ab_ia, ab_ra, ab_oa, ab_tg, ab_len, ab_uI, ab_uR]
      exact h1 ⟨a1, ⟨b1, b2⟩, hlt⟩ hi' hr' cn' a1' a2'
    · refine step 23 _ _ _ _ _ _ _ ?_
      dsimp [ab_at, gX7_home, nX7_home, ab_vc, ab_v1, ab_lk, ab_st, ab_en, ab_cst, ab_mc, ab_mS, ab_tk, ab_ns, cR, ab_ia, ab_ra, ab_oa, ab_tg, ab_len, ab_uI, ab_uR]
      exact ⟨fun _ => r32 (fun z => q z.2.1) _ _ _, fun q => absurd rfl q⟩
  · refine step 12 _ _ _ _ _ _ _ ?_
    dsimp [ab_at, gX7_home, nX7_home, ab_vc, ab_v1, ab_lk, ab_st, ab_en, ab_cst, ab_mc, ab_mS, ab_tk, ab_ns, cR, ab_ia, ab_ra, ab_oa, ab_tg, ab_len, ab_uI, ab_uR]
    exact ⟨fun _ => r32 (fun z => q z.1) _ _ _, fun q => absurd rfl q⟩
theorem c_X7_work (hnb : ab_n E < 2 ^ 31) {a w t : Int32} {n : Nat} (hn : n ≤ 40) (C : cL hi (cR hr) cn 1 n (fun j => (7, j))) (hc : cn 7 = n) (hc2 : cn 11 = n)
    (h1 : okWork a w t n → ∀ hi' hr' cn', adP 1 (cWork (ab_zI hi 7 n) n (nI n) a w t (hi 8 0 8)) (cR (cWorkR (ab_zR hr 7 n) n)) (ab_uC (ab_uC cn 7 (n + 1)) 11 (n + 1)) hi' hr' cn' → cL hi' hr' cn' 1 (n + 1) (fun j => (7, j)) → Q (some (.inl (nI n))) hi' hr' cn')
    (h0 : ¬ okWork a w t n → Q (some (.inl (-1))) hi (cR hr) cn) : ab_Wm E (d + 7) nX7_work [cO, .inl a, .inl w, .inl t] hi (cR hr) cn Q := by
  refine ab_Wm_of gX7_work kX7_work 1 rfl rfl hnb (fun J step drop less => ?_)
  have r42 : ¬ okWork a w t n → ∀ L ck cs, J 42 L [] hi (cR hr) cn ck cs := fun q L ck cs => by
    refine step 42 _ _ _ _ _ _ _ ?_
    dsimp [ab_at, gX7_work, nX7_work, ab_vc, ab_v1, ab_lk, ab_st, ab_en, ab_cst, ab_mc, ab_mS, ab_tk, ab_ns, cR, ab_ia, ab_ra, ab_oa, ab_tg, ab_len, ab_uI, ab_uR]
    exact h0 q
  refine step 0 _ _ _ _ _ _ _ ?_
  dsimp [ab_at, gX7_work, nX7_work, ab_vc, ab_v1, ab_lk, ab_st, ab_en, ab_cst, ab_mc, ab_mS, ab_tk, ab_ns, cR, ab_ia, ab_ra, ab_oa, ab_tg, ab_len, ab_uI, ab_uR]
  refine c_AL_size hnb C ?_
  refine step 7 _ _ _ _ _ _ _ ?_
  dsimp [ab_at, gX7_work, nX7_work, ab_vc, ab_v1, ab_lk, ab_st, ab_en, ab_cst, ab_mc, ab_mS, ab_tk, ab_ns, cR, ab_ia, ab_ra, ab_oa, ab_tg, ab_len, ab_uI, ab_uR]
  refine c_X7_isArtist hnb (fun a1 => ?_) (fun q => ?_)
  · refine step 13 _ _ _ _ _ _ _ ?_
    dsimp [ab_at, gX7_work, nX7_work, ab_vc, ab_v1, ab_lk, ab_st, ab_en, ab_cst, ab_mc, ab_mS, ab_tk, ab_ns, cR, ab_ia, ab_ra, ab_oa, ab_tg, ab_len, ab_uI, ab_uR]
    refine ⟨fun q => absurd q (by decide), fun _ => ?_⟩
    refine c_X7_within hnb (fun b1 b2 => ?_) (fun q => ?_)
    · refine step 25 _ _ _ _ _ _ _ ?_
      dsimp [ab_at, gX7_work, nX7_work, ab_vc, ab_v1, ab_lk, ab_st, ab_en, ab_cst, ab_mc, ab_mS, ab_tk, ab_ns, cR, ab_ia, ab_ra, ab_oa, ab_tg, ab_len, ab_uI, ab_uR]
      refine ⟨fun q => absurd q (by decide), fun _ => ?_⟩
      refine c_X7_isTown hnb (fun t1 => ?_) (fun q => ?_)
      · refine step 32 _ _ _ _ _ _ _ ?_
        dsimp [ab_at, gX7_work, nX7_work, ab_vc, ab_v1, ab_lk, ab_st, ab_en, ab_cst, ab_mc, ab_mS, ab_tk, ab_ns, cR, ab_ia, ab_ra, ab_oa, ab_tg, ab_len, ab_uI, ab_uR]
        refine ⟨fun q => absurd q (by decide), fun _ => ⟨fun q => ?_, fun q => r42 (fun z => q (nI_lt z.2.2.2 (by omega))) _ _ _⟩⟩
        have hlt := (nI_ltI (by omega) (by omega)).mp q
        refine step 44 _ _ _ _ _ _ _ ?_
        dsimp [ab_at, gX7_work, nX7_work, ab_vc, ab_v1, ab_lk, ab_st, ab_en, ab_cst, ab_mc, ab_mS, ab_tk, ab_ns, cR, ab_ia, ab_ra, ab_oa, ab_tg, ab_len, ab_uI, ab_uR, ab_zI, ab_zR, ab_uC, ab_nf]
        rw [hc]
        refine c_X6_init (w := n) hnb hc2 ?_
        refine step 64 _ _ _ _ _ _ _ ?_
        dsimp [ab_at, gX7_work, nX7_work, ab_vc, ab_v1, ab_lk, ab_st, ab_en, ab_cst, ab_mc, ab_mS, ab_tk, ab_ns, cR, ab_ia, ab_ra, ab_oa, ab_tg, ab_len, ab_uI, ab_uR]
        rw [cR_work]
        have C' : cL (cWork (ab_zI hi 7 n) n (nI n) a w t (hi 8 0 8)) (cR (cWorkR (ab_zR hr 7 n) n)) (ab_uC (ab_uC cn 7 (n + 1)) 11 (n + 1)) 1 n (fun j => (7, j)) := C
        refine c_AL_add (k := 1) (n := n) (KE := 7) (el := fun j => (7, j)) hnb (c_copyOf hnb) (by omega) (by omega) (by omega) (fun j => rfl) rfl C' rfl (fun hi' hr' cn' a1' a2' => ?_)
        refine step 67 _ _ _ _ _ _ _ ?_
        dsimp [ab_at, gX7_work, nX7_work, ab_vc, ab_v1, ab_lk, ab_st, ab_en, ab_cst, ab_mc, ab_mS, ab_tk, ab_ns, cR, ab_ia, ab_ra, ab_oa, ab_tg, ab_len, ab_uI, ab_uR]
        exact h1 ⟨a1, ⟨b1, b2⟩, t1, hlt⟩ hi' hr' cn' a1' a2'
      · refine step 32 _ _ _ _ _ _ _ ?_
        dsimp [ab_at, gX7_work, nX7_work, ab_vc, ab_v1, ab_lk, ab_st, ab_en, ab_cst, ab_mc, ab_mS, ab_tk, ab_ns, cR, ab_ia, ab_ra, ab_oa, ab_tg, ab_len, ab_uI, ab_uR]
        exact ⟨fun _ => r42 (fun z => q z.2.2.1) _ _ _, fun q => absurd rfl q⟩
    · refine step 25 _ _ _ _ _ _ _ ?_
      dsimp [ab_at, gX7_work, nX7_work, ab_vc, ab_v1, ab_lk, ab_st, ab_en, ab_cst, ab_mc, ab_mS, ab_tk, ab_ns, cR, ab_ia, ab_ra, ab_oa, ab_tg, ab_len, ab_uI, ab_uR]
      exact ⟨fun _ => r42 (fun z => q z.2.1) _ _ _, fun q => absurd rfl q⟩
  · refine step 13 _ _ _ _ _ _ _ ?_
    dsimp [ab_at, gX7_work, nX7_work, ab_vc, ab_v1, ab_lk, ab_st, ab_en, ab_cst, ab_mc, ab_mS, ab_tk, ab_ns, cR, ab_ia, ab_ra, ab_oa, ab_tg, ab_len, ab_uI, ab_uR]
    exact ⟨fun _ => r42 (fun z => q z.1) _ _ _, fun q => absurd rfl q⟩
def okRul (day what coins : Int32) (n : Nat) : Prop := okIn day 0 20000 ∧ okCan what coins ∧ n < 60
theorem c_X7_rule (hnb : ab_n E < 2 ^ 31) {day what coins : Int32} {n : Nat} (hn : n ≤ 60) (C : cL hi (cR hr) cn 3 n (fun j => (5, j + 1))) (hc : cn 5 = n + 1)
    (h1 : okRul day what coins n → ∀ hi' hr' cn', adP 3 (cRule (ab_zI hi 5 (n + 1)) (n + 1) day what coins) (cR (ab_zR hr 5 (n + 1))) (ab_uC cn 5 (n + 2)) hi' hr' cn' → cL hi' hr' cn' 3 (n + 1) (fun j => (5, j + 1)) → Q (some (.inl (nI 1))) hi' hr' cn')
    (h0 : ¬ okRul day what coins n → Q (some (.inl (nI 0))) hi (cR hr) cn) : ab_Wm E (d + 7) nX7_rule [cO, .inl day, .inl what, .inl coins] hi (cR hr) cn Q := by
  refine ab_Wm_of gX7_rule kX7_rule 2 rfl rfl hnb (fun J step drop less => ?_)
  have r31 : ¬ okRul day what coins n → ∀ L ck cs, J 31 L [] hi (cR hr) cn ck cs := fun q L ck cs => by
    refine step 31 _ _ _ _ _ _ _ ?_
    dsimp [ab_at, gX7_rule, nX7_rule, ab_vc, ab_v1, ab_lk, ab_st, ab_en, ab_cst, ab_mc, ab_mS, ab_tk, ab_ns, cR, ab_ia, ab_ra, ab_oa, ab_tg, ab_len, ab_uI, ab_uR]
    exact ⟨Or.inl rfl, h0 q⟩
  refine step 0 _ _ _ _ _ _ _ ?_
  dsimp [ab_at, gX7_rule, nX7_rule, ab_vc, ab_v1, ab_lk, ab_st, ab_en, ab_cst, ab_mc, ab_mS, ab_tk, ab_ns, cR, ab_ia, ab_ra, ab_oa, ab_tg, ab_len, ab_uI, ab_uR]
  refine c_X7_within hnb (fun b1 b2 => ?_) (fun q => ?_)
  · refine step 8 _ _ _ _ _ _ _ ?_
    dsimp [ab_at, gX7_rule, nX7_rule, ab_vc, ab_v1, ab_lk, ab_st, ab_en, ab_cst, ab_mc, ab_mS, ab_tk, ab_ns, cR, ab_ia, ab_ra, ab_oa, ab_tg, ab_len, ab_uI, ab_uR]
    refine ⟨fun q => absurd q (by decide), fun _ => ?_⟩
    refine c_X4_canBe hnb (fun a1 => ?_) (fun q => ?_)
    · refine step 16 _ _ _ _ _ _ _ ?_
      dsimp [ab_at, gX7_rule, nX7_rule, ab_vc, ab_v1, ab_lk, ab_st, ab_en, ab_cst, ab_mc, ab_mS, ab_tk, ab_ns, cR, ab_ia, ab_ra, ab_oa, ab_tg, ab_len, ab_uI, ab_uR]
      refine ⟨fun q => absurd q (by decide), fun _ => ?_⟩
      refine c_AL_size hnb C ?_
      refine step 26 _ _ _ _ _ _ _ ?_
      dsimp [ab_at, gX7_rule, nX7_rule, ab_vc, ab_v1, ab_lk, ab_st, ab_en, ab_cst, ab_mc, ab_mS, ab_tk, ab_ns, cR, ab_ia, ab_ra, ab_oa, ab_tg, ab_len, ab_uI, ab_uR]
      refine ⟨fun q => ?_, fun q => r31 (fun z => q (nI_lt z.2.2 (by omega))) _ _ _⟩
      have hlt := (nI_ltI (by omega) (by omega)).mp q
      refine step 33 _ _ _ _ _ _ _ ?_
      dsimp [ab_at, gX7_rule, nX7_rule, ab_vc, ab_v1, ab_lk, ab_st, ab_en, ab_cst, ab_mc, ab_mS, ab_tk, ab_ns, cR, ab_ia, ab_ra, ab_oa, ab_tg, ab_len, ab_uI, ab_uR, ab_zI, ab_zR, ab_uC, ab_nf]
      rw [hc]
      refine c_X4_init hnb ?_
      refine step 47 _ _ _ _ _ _ _ ?_
      dsimp [ab_at, gX7_rule, nX7_rule, ab_vc, ab_v1, ab_lk, ab_st, ab_en, ab_cst, ab_mc, ab_mS, ab_tk, ab_ns, cR, ab_ia, ab_ra, ab_oa, ab_tg, ab_len, ab_uI, ab_uR]
      have C' : cL (cRule (ab_zI hi 5 (n + 1)) (n + 1) day what coins) (ab_zR (cR hr) 5 (n + 1)) (ab_uC cn 5 (n + 1 + 1)) 3 n (fun j => (5, j + 1)) := C
      refine c_AL_add (k := 3) (n := n) (KE := 5) (el := fun j => (5, j + 1)) hnb (c_copyOf hnb) (by omega) (by omega) (by omega) (fun j => rfl) rfl C' rfl (fun hi' hr' cn' a1' a2' => ?_)
      rw [cR_zR rfl] at a1'
      refine step 50 _ _ _ _ _ _ _ ?_
      dsimp [ab_at, gX7_rule, nX7_rule, ab_vc, ab_v1, ab_lk, ab_st, ab_en, ab_cst, ab_mc, ab_mS, ab_tk, ab_ns, cR, ab_ia, ab_ra, ab_oa, ab_tg, ab_len, ab_uI, ab_uR]
      exact ⟨Or.inr rfl, h1 ⟨⟨b1, b2⟩, a1, hlt⟩ hi' hr' cn' a1' a2'⟩
    · refine step 16 _ _ _ _ _ _ _ ?_
      dsimp [ab_at, gX7_rule, nX7_rule, ab_vc, ab_v1, ab_lk, ab_st, ab_en, ab_cst, ab_mc, ab_mS, ab_tk, ab_ns, cR, ab_ia, ab_ra, ab_oa, ab_tg, ab_len, ab_uI, ab_uR]
      exact ⟨fun _ => r31 (fun z => q z.2.1) _ _ _, fun q => absurd rfl q⟩
  · refine step 8 _ _ _ _ _ _ _ ?_
    dsimp [ab_at, gX7_rule, nX7_rule, ab_vc, ab_v1, ab_lk, ab_st, ab_en, ab_cst, ab_mc, ab_mS, ab_tk, ab_ns, cR, ab_ia, ab_ra, ab_oa, ab_tg, ab_len, ab_uI, ab_uR]
    exact ⟨fun _ => r31 (fun z => q z.1) _ _ _, fun q => absurd rfl q⟩
def cOkW (hi : ab_I) (hr : ab_R) (n g w : Nat) : Prop := cMay hi hr w g ∧ (∀ k, k < n → ¬ (hi 6 k 3 = nI 0 ∧ hr 6 k 1 = some (2, g) ∧ hr 6 k 2 = some (7, w))) ∧ n < 200
theorem c_X7_wish (hnb : ab_n E < 2 ^ 31) {x y : Int32} {n nh nw : Nat} (hn : n ≤ 200) (hnh : nh ≤ 200) (hnw : nw ≤ 200) (CH : cL hi (cR hr) cn 0 nh (fun j => (2, j))) (CW : cL hi (cR hr) cn 1 nw (fun j => (7, j))) (C : cL hi (cR hr) cn 2 n (fun j => (6, j))) (hc : cn 6 = n) (hr1 : ∀ k, k < n → ∃ h, hr 6 k 1 = some (2, h)) (hr2 : ∀ k, k < n → ∃ h, hr 6 k 2 = some (7, h)) (hh : ∀ w, w < nw → ∀ K i, hr 7 w 9 = some (K, i) → K = 2)
    (h1 : ∀ g w, g < nh → w < nw → x = nI g → y = nI w → cOkW hi hr n g w → ∀ hi' hr' cn', adP 2 (cWish (ab_zI hi 6 n) n (nI n) (hi 8 0 8)) (cR (ab_uR (ab_uR (ab_zR hr 6 n) 6 n 1 (some (2, g))) 6 n 2 (some (7, w)))) (ab_uC cn 6 (n + 1)) hi' hr' cn' → cL hi' hr' cn' 2 (n + 1) (fun j => (6, j)) → Q (some (.inl (nI n))) hi' hr' cn')
    (h0 : (∀ g w, g < nh → w < nw → x = nI g → y = nI w → ¬ cOkW hi hr n g w) → Q (some (.inl (-1))) hi (cR hr) cn) : ab_Wm E (d + 7) nX7_wish [cO, .inl x, .inl y] hi (cR hr) cn Q := by
  refine ab_Wm_of gX7_wish kX7_wish 1 rfl rfl hnb (fun J step drop less => ?_)
  have r58 : (∀ g w, g < nh → w < nw → x = nI g → y = nI w → ¬ cOkW hi hr n g w) → ∀ L ck cs, J 58 L [] hi (cR hr) cn ck cs := fun q L ck cs => by
    refine step 58 _ _ _ _ _ _ _ ?_
    dsimp [ab_at, gX7_wish, nX7_wish, ab_vc, ab_v1, ab_lk, ab_st, ab_en, ab_cst, ab_mc, ab_mS, ab_tk, ab_ns, cR, ab_ia, ab_ra, ab_oa, ab_tg, ab_len, ab_uI, ab_uR]
    exact h0 q
  refine step 0 _ _ _ _ _ _ _ ?_
  dsimp [ab_at, gX7_wish, nX7_wish, ab_vc, ab_v1, ab_lk, ab_st, ab_en, ab_cst, ab_mc, ab_mS, ab_tk, ab_ns, cR, ab_ia, ab_ra, ab_oa, ab_tg, ab_len, ab_uI, ab_uR]
  refine c_X7_homeOf hnb hnh CH (fun g hg eg => ?_) (fun q => ?_)
  · refine step 5 _ _ _ _ _ _ _ ?_
    dsimp [ab_at, gX7_wish, nX7_wish, ab_vc, ab_v1, ab_lk, ab_st, ab_en, ab_cst, ab_mc, ab_mS, ab_tk, ab_ns, cR, ab_ia, ab_ra, ab_oa, ab_tg, ab_len, ab_uI, ab_uR]
    refine c_X7_workOf hnb hnw CW (fun w hw ew => ?_) (fun q => ?_)
    · have uni : ¬ cOkW hi hr n g w → ∀ g' w', g' < nh → w' < nw → x = nI g' → y = nI w' → ¬ cOkW hi hr n g' w' := fun q g' w' hg' hw' eg' ew' => by
        have e1 := (nI_eq (by omega) (by omega)).mp (eg.symm.trans eg')
        have e2 := (nI_eq (by omega) (by omega)).mp (ew.symm.trans ew')
        subst e1 e2
        exact q
      refine step 11 _ _ _ _ _ _ _ ?_
      dsimp [ab_at, gX7_wish, nX7_wish, ab_vc, ab_v1, ab_lk, ab_st, ab_en, ab_cst, ab_mc, ab_mS, ab_tk, ab_ns, cR, ab_ia, ab_ra, ab_oa, ab_tg, ab_len, ab_uI, ab_uR]
      refine c_AL_size hnb C ?_
      refine step 20 _ _ _ _ _ _ _ ?_
      dsimp [ab_at, gX7_wish, nX7_wish, ab_vc, ab_v1, ab_lk, ab_st, ab_en, ab_cst, ab_mc, ab_mS, ab_tk, ab_ns, cR, ab_ia, ab_ra, ab_oa, ab_tg, ab_len, ab_uI, ab_uR]
      refine ⟨fun q => (by cases q), fun _ => ⟨fun q => (by cases q), fun _ => ?_⟩⟩
      refine c_X6_canBeWishedBy hnb (hh w hw) (fun m1 => ?_) (fun q => ?_)
      · refine step 37 _ _ _ _ _ _ _ ?_
        dsimp [ab_at, gX7_wish, nX7_wish, ab_vc, ab_v1, ab_lk, ab_st, ab_en, ab_cst, ab_mc, ab_mS, ab_tk, ab_ns, cR, ab_ia, ab_ra, ab_oa, ab_tg, ab_len, ab_uI, ab_uR]
        refine ⟨fun q => absurd q (by decide), fun _ => ?_⟩
        refine c_X7_hasOpenWish hnb hn C hr1 hr2 (fun k hk e1 e2 e3 => ?_) (fun m2 => ?_)
        · refine step 47 _ _ _ _ _ _ _ ?_
          dsimp [ab_at, gX7_wish, nX7_wish, ab_vc, ab_v1, ab_lk, ab_st, ab_en, ab_cst, ab_mc, ab_mS, ab_tk, ab_ns, cR, ab_ia, ab_ra, ab_oa, ab_tg, ab_len, ab_uI, ab_uR]
          exact ⟨fun _ => r58 (uni fun z => z.2.1 k hk ⟨e1, e2, e3⟩) _ _ _, fun q => absurd q (by decide)⟩
        · refine step 47 _ _ _ _ _ _ _ ?_
          dsimp [ab_at, gX7_wish, nX7_wish, ab_vc, ab_v1, ab_lk, ab_st, ab_en, ab_cst, ab_mc, ab_mS, ab_tk, ab_ns, cR, ab_ia, ab_ra, ab_oa, ab_tg, ab_len, ab_uI, ab_uR]
          refine ⟨fun q => absurd rfl q, fun _ => ⟨fun q => ?_, fun q => r58 (uni fun z => q (nI_lt z.2.2 (by omega))) _ _ _⟩⟩
          have hlt := (nI_ltI (by omega) (by omega)).mp q
          refine step 60 _ _ _ _ _ _ _ ?_
          dsimp [ab_at, gX7_wish, nX7_wish, ab_vc, ab_v1, ab_lk, ab_st, ab_en, ab_cst, ab_mc, ab_mS, ab_tk, ab_ns, cR, ab_ia, ab_ra, ab_oa, ab_tg, ab_len, ab_uI, ab_uR, ab_zI, ab_zR, ab_uC, ab_nf]
          rw [hc]
          refine c_X5_init hnb ?_
          refine step 80 _ _ _ _ _ _ _ ?_
          dsimp [ab_at, gX7_wish, nX7_wish, ab_vc, ab_v1, ab_lk, ab_st, ab_en, ab_cst, ab_mc, ab_mS, ab_tk, ab_ns, cR, ab_ia, ab_ra, ab_oa, ab_tg, ab_len, ab_uI, ab_uR]
          rw [cR_zR rfl, cR_uR rfl, cR_uR rfl]
          have C' : cL (cWish (ab_zI hi 6 n) n (nI n) (hi 8 0 8)) (cR (ab_uR (ab_uR (ab_zR hr 6 n) 6 n 1 (some (2, g))) 6 n 2 (some (7, w)))) (ab_uC cn 6 (n + 1)) 2 n (fun j => (6, j)) := C
          refine c_AL_add (k := 2) (n := n) (KE := 6) (el := fun j => (6, j)) hnb (c_copyOf hnb) (by omega) (by omega) (by omega) (fun j => rfl) rfl C' rfl (fun hi' hr' cn' a1' a2' => ?_)
          refine step 83 _ _ _ _ _ _ _ ?_
          dsimp [ab_at, gX7_wish, nX7_wish, ab_vc, ab_v1, ab_lk, ab_st, ab_en, ab_cst, ab_mc, ab_mS, ab_tk, ab_ns, cR, ab_ia, ab_ra, ab_oa, ab_tg, ab_len, ab_uI, ab_uR]
          exact h1 g w hg hw eg ew ⟨m1, m2, hlt⟩ hi' hr' cn' a1' a2'
      · refine step 37 _ _ _ _ _ _ _ ?_
        dsimp [ab_at, gX7_wish, nX7_wish, ab_vc, ab_v1, ab_lk, ab_st, ab_en, ab_cst, ab_mc, ab_mS, ab_tk, ab_ns, cR, ab_ia, ab_ra, ab_oa, ab_tg, ab_len, ab_uI, ab_uR]
        exact ⟨fun _ => r58 (uni fun z => q z.1) _ _ _, fun q => absurd rfl q⟩
    · refine step 11 _ _ _ _ _ _ _ ?_
      dsimp [ab_at, gX7_wish, nX7_wish, ab_vc, ab_v1, ab_lk, ab_st, ab_en, ab_cst, ab_mc, ab_mS, ab_tk, ab_ns, cR, ab_ia, ab_ra, ab_oa, ab_tg, ab_len, ab_uI, ab_uR]
      refine c_AL_size hnb C ?_
      refine step 20 _ _ _ _ _ _ _ ?_
      dsimp [ab_at, gX7_wish, nX7_wish, ab_vc, ab_v1, ab_lk, ab_st, ab_en, ab_cst, ab_mc, ab_mS, ab_tk, ab_ns, cR, ab_ia, ab_ra, ab_oa, ab_tg, ab_len, ab_uI, ab_uR]
      exact ⟨fun q => (by cases q), fun _ => ⟨fun _ => r58 (fun g w _ hw _ ew => absurd ew (q w hw)) _ _ _, fun q => absurd rfl q⟩⟩
  · refine step 5 _ _ _ _ _ _ _ ?_
    dsimp [ab_at, gX7_wish, nX7_wish, ab_vc, ab_v1, ab_lk, ab_st, ab_en, ab_cst, ab_mc, ab_mS, ab_tk, ab_ns, cR, ab_ia, ab_ra, ab_oa, ab_tg, ab_len, ab_uI, ab_uR]
    refine c_X7_workOf hnb hnw CW (fun w hw ew => ?_) (fun q2 => ?_)
    · refine step 11 _ _ _ _ _ _ _ ?_
      dsimp [ab_at, gX7_wish, nX7_wish, ab_vc, ab_v1, ab_lk, ab_st, ab_en, ab_cst, ab_mc, ab_mS, ab_tk, ab_ns, cR, ab_ia, ab_ra, ab_oa, ab_tg, ab_len, ab_uI, ab_uR]
      refine c_AL_size hnb C ?_
      refine step 20 _ _ _ _ _ _ _ ?_
      dsimp [ab_at, gX7_wish, nX7_wish, ab_vc, ab_v1, ab_lk, ab_st, ab_en, ab_cst, ab_mc, ab_mS, ab_tk, ab_ns, cR, ab_ia, ab_ra, ab_oa, ab_tg, ab_len, ab_uI, ab_uR]
      exact ⟨fun _ => r58 (fun g w hg _ eg _ => absurd eg (q g hg)) _ _ _, fun q => absurd rfl q⟩
    · refine step 11 _ _ _ _ _ _ _ ?_
      dsimp [ab_at, gX7_wish, nX7_wish, ab_vc, ab_v1, ab_lk, ab_st, ab_en, ab_cst, ab_mc, ab_mS, ab_tk, ab_ns, cR, ab_ia, ab_ra, ab_oa, ab_tg, ab_len, ab_uI, ab_uR]
      refine c_AL_size hnb C ?_
      refine step 20 _ _ _ _ _ _ _ ?_
      dsimp [ab_at, gX7_wish, nX7_wish, ab_vc, ab_v1, ab_lk, ab_st, ab_en, ab_cst, ab_mc, ab_mS, ab_tk, ab_ns, cR, ab_ia, ab_ra, ab_oa, ab_tg, ab_len, ab_uI, ab_uR]
      exact ⟨fun _ => r58 (fun g w hg _ eg _ => absurd eg (q g hg)) _ _ _, fun q => absurd rfl q⟩
theorem cR_note {hr : ab_R} {l w : Nat} : cNoteR (cR hr) l w = cR (cNoteR hr l w) := by
  unfold cNoteR
  rw [cR_zR rfl, cR_uR rfl, cR_uR rfl]
  rfl
theorem c_X7_look (hnb : ab_n E < 2 ^ 31) {x m : Int32} {n l : Nat} (hn : n ≤ 200) (CW : cL hi (cR hr) cn 1 n (fun j => (7, j))) (hl : cn 3 = l) (hh : ∀ w, w < n → ∀ K i, hr 7 w 9 = some (K, i) → K = 2)
    (h1 : ∀ w g, w < n → x = nI w → ¬ (hi 7 w 5 = nI 2 ∨ hi 7 w 5 = nI 3) → okIn m 0 65535 → hi 8 0 12 < nI 300 → hi 7 w 5 = nI 1 → hr 7 w 9 = some (2, g) → Q (some (.inl (hi 7 w 13 + nI 1))) (cNote (ab_uI hi 8 0 12 (hi 8 0 12 + nI 1)) hr l w m (hi 2 g 0)) (cR (cNoteR hr l w)) (ab_uC cn 3 (l + 1)))
    (h2 : ∀ w, w < n → x = nI w → ¬ (hi 7 w 5 = nI 2 ∨ hi 7 w 5 = nI 3) → okIn m 0 65535 → hi 8 0 12 < nI 300 → ¬ (hi 7 w 5 = nI 1 ∧ hr 7 w 9 ≠ none) → Q (some (.inl (hi 7 w 13 + nI 1))) (cNote (ab_uI hi 8 0 12 (hi 8 0 12 + nI 1)) hr l w m (-1)) (cR (cNoteR hr l w)) (ab_uC cn 3 (l + 1)))
    (h0 : (∀ w, w < n → x = nI w → ¬ (¬ (hi 7 w 5 = nI 2 ∨ hi 7 w 5 = nI 3) ∧ okIn m 0 65535 ∧ hi 8 0 12 < nI 300)) → Q (some (.inl (-1))) hi (cR hr) cn) : ab_Wm E (d + 5) nX7_look [cO, .inl x, .inl m] hi (cR hr) cn Q := by
  refine ab_Wm_of gX7_look kX7_look 1 rfl rfl hnb (fun J step drop less => ?_)
  have r37 : (∀ w, w < n → x = nI w → ¬ (¬ (hi 7 w 5 = nI 2 ∨ hi 7 w 5 = nI 3) ∧ okIn m 0 65535 ∧ hi 8 0 12 < nI 300)) → ∀ L ck cs, J 37 L [] hi (cR hr) cn ck cs := fun q L ck cs => by
    refine step 37 _ _ _ _ _ _ _ ?_
    dsimp [ab_at, gX7_look, nX7_look, ab_vc, ab_v1, ab_lk, ab_st, ab_en, ab_cst, ab_mc, ab_mS, ab_tk, ab_ns, cR, ab_ia, ab_ra, ab_oa, ab_tg, ab_len, ab_uI, ab_uR]
    exact h0 q
  refine step 0 _ _ _ _ _ _ _ ?_
  dsimp [ab_at, gX7_look, nX7_look, ab_vc, ab_v1, ab_lk, ab_st, ab_en, ab_cst, ab_mc, ab_mS, ab_tk, ab_ns, cR, ab_ia, ab_ra, ab_oa, ab_tg, ab_len, ab_uI, ab_uR]
  refine c_X7_workOf hnb hn CW (fun w hw e => ?_) (fun q => ?_)
  · have uni : ¬ (¬ (hi 7 w 5 = nI 2 ∨ hi 7 w 5 = nI 3) ∧ okIn m 0 65535 ∧ hi 8 0 12 < nI 300) → ∀ w', w' < n → x = nI w' → ¬ (¬ (hi 7 w' 5 = nI 2 ∨ hi 7 w' 5 = nI 3) ∧ okIn m 0 65535 ∧ hi 8 0 12 < nI 300) := fun q w' hw' e' => by
      have e1 := (nI_eq (by omega) (by omega)).mp (e.symm.trans e')
      subst e1
      exact q
    refine step 5 _ _ _ _ _ _ _ ?_
    dsimp [ab_at, gX7_look, nX7_look, ab_vc, ab_v1, ab_lk, ab_st, ab_en, ab_cst, ab_mc, ab_mS, ab_tk, ab_ns, cR, ab_ia, ab_ra, ab_oa, ab_tg, ab_len, ab_uI, ab_uR]
    refine ⟨fun q => (by cases q), fun _ => ?_⟩
    refine c_X6_isGivenUp hnb (fun q => ?_) (fun q1 => ?_)
    · refine step 14 _ _ _ _ _ _ _ ?_
      dsimp [ab_at, gX7_look, nX7_look, ab_vc, ab_v1, ab_lk, ab_st, ab_en, ab_cst, ab_mc, ab_mS, ab_tk, ab_ns, cR, ab_ia, ab_ra, ab_oa, ab_tg, ab_len, ab_uI, ab_uR]
      exact ⟨fun _ => r37 (uni fun z => z.1 q) _ _ _, fun q => absurd q (by decide)⟩
    · refine step 14 _ _ _ _ _ _ _ ?_
      dsimp [ab_at, gX7_look, nX7_look, ab_vc, ab_v1, ab_lk, ab_st, ab_en, ab_cst, ab_mc, ab_mS, ab_tk, ab_ns, cR, ab_ia, ab_ra, ab_oa, ab_tg, ab_len, ab_uI, ab_uR]
      refine ⟨fun q => absurd rfl q, fun _ => ?_⟩
      refine c_X7_within hnb (fun b1 b2 => ?_) (fun q => ?_)
      · refine step 24 _ _ _ _ _ _ _ ?_
        dsimp [ab_at, gX7_look, nX7_look, ab_vc, ab_v1, ab_lk, ab_st, ab_en, ab_cst, ab_mc, ab_mS, ab_tk, ab_ns, cR, ab_ia, ab_ra, ab_oa, ab_tg, ab_len, ab_uI, ab_uR]
        refine ⟨fun q => absurd q (by decide), fun _ => ⟨fun q2 => ?_, fun q => r37 (uni fun z => q z.2.2) _ _ _⟩⟩
        refine step 39 _ _ _ _ _ _ _ ?_
        dsimp [ab_at, gX7_look, nX7_look, ab_vc, ab_v1, ab_lk, ab_st, ab_en, ab_cst, ab_mc, ab_mS, ab_tk, ab_ns, cR, ab_ia, ab_ra, ab_oa, ab_tg, ab_len, ab_uI, ab_uR]
        refine c_X6_noteLook hnb hl (hh w hw) (fun g q3 q4 => ?_) (fun q3 => ?_)
        · have hq := h1 w g hw e q1 ⟨b1, b2⟩ q2 q3 q4
          have e13 : ∀ y, cNote (ab_uI hi 8 0 12 (hi 8 0 12 + nI 1)) (cR hr) l w m y 7 w 13 = hi 7 w 13 + nI 1 := fun y => by
            unfold cNote
            rw [ab_uI_j (by omega), ab_uI_e]
            rfl
          have eB : ∀ y, cNote (ab_uI hi 8 0 12 (hi 8 0 12 + nI 1)) (cR hr) l w m y = cNote (ab_uI hi 8 0 12 (hi 8 0 12 + nI 1)) hr l w m y := fun y => rfl
          refine step 54 _ _ _ _ _ _ _ ?_
          dsimp [ab_at, gX7_look, nX7_look, ab_vc, ab_v1, ab_lk, ab_st, ab_en, ab_cst, ab_mc, ab_mS, ab_tk, ab_ns, cR, ab_ia, ab_ra, ab_oa, ab_tg, ab_len, ab_uI, ab_uR]
          rw [e13, cR_note, eB]
          exact hq
        · have hq := h2 w hw e q1 ⟨b1, b2⟩ q2 q3
          have e13 : ∀ y, cNote (ab_uI hi 8 0 12 (hi 8 0 12 + nI 1)) (cR hr) l w m y 7 w 13 = hi 7 w 13 + nI 1 := fun y => by
            unfold cNote
            rw [ab_uI_j (by omega), ab_uI_e]
            rfl
          have eB : ∀ y, cNote (ab_uI hi 8 0 12 (hi 8 0 12 + nI 1)) (cR hr) l w m y = cNote (ab_uI hi 8 0 12 (hi 8 0 12 + nI 1)) hr l w m y := fun y => rfl
          refine step 54 _ _ _ _ _ _ _ ?_
          dsimp [ab_at, gX7_look, nX7_look, ab_vc, ab_v1, ab_lk, ab_st, ab_en, ab_cst, ab_mc, ab_mS, ab_tk, ab_ns, cR, ab_ia, ab_ra, ab_oa, ab_tg, ab_len, ab_uI, ab_uR]
          rw [e13, cR_note, eB]
          exact hq
      · refine step 24 _ _ _ _ _ _ _ ?_
        dsimp [ab_at, gX7_look, nX7_look, ab_vc, ab_v1, ab_lk, ab_st, ab_en, ab_cst, ab_mc, ab_mS, ab_tk, ab_ns, cR, ab_ia, ab_ra, ab_oa, ab_tg, ab_len, ab_uI, ab_uR]
        exact ⟨fun _ => r37 (uni fun z => q z.2.1) _ _ _, fun q => absurd rfl q⟩
  · refine step 5 _ _ _ _ _ _ _ ?_
    dsimp [ab_at, gX7_look, nX7_look, ab_vc, ab_v1, ab_lk, ab_st, ab_en, ab_cst, ab_mc, ab_mS, ab_tk, ab_ns, cR, ab_ia, ab_ra, ab_oa, ab_tg, ab_len, ab_uI, ab_uR]
    exact ⟨fun _ => r37 (fun w hw e => absurd e (q w hw)) _ _ _, fun q => absurd rfl q⟩
/-- what is told -/
def cTold (hi : ab_I) (h : Int32) (w : Nat) (a : Int32) : Int32 :=
  if a = nI 0 then hi 7 w 5 else if a = nI 1 then h else if a = nI 2 then (if hi 7 w 5 = nI 0 then hi 7 w 6 else -1)
  else if a = nI 3 then (if hi 7 w 5 = nI 1 then hi 7 w 10 else -1)
  else if a = nI 4 then (if hi 7 w 5 = nI 1 then cLate hi w (hi 8 0 8) else nI 0)
  else if a = nI 5 then hi 7 w 12 else if a = nI 6 then cDays hi w (hi 8 0 8)
  else if a = nI 7 then hi 7 w 3 else -1
theorem c_X7_told (hnb : ab_n E < 2 ^ 31) {x a : Int32} {n : Nat} {ho : Nat → Int32} (hn : n ≤ 200) (CW : cL hi (cR hr) cn 1 n (fun j => (7, j))) (hh : ∀ w, w < n → hi 7 w 5 = nI 1 → hr 7 w 9 ≠ none) (hho : ∀ w, w < n → (hr 7 w 9 = none ∧ ho w = -1) ∨ ∃ g, hr 7 w 9 = some (2, g) ∧ hi 2 g 0 = ho w)
    (h1 : ∀ w, w < n → x = nI w → Q (some (.inl (cTold hi (ho w) w a))) hi (cR hr) cn) (h0 : (∀ w, w < n → x ≠ nI w) → Q (some (.inl (-1))) hi (cR hr) cn) : ab_Wm E (d + 5) nX7_told [cO, .inl x, .inl a] hi (cR hr) cn Q := by
  refine ab_Wm_of gX7_told kX7_told 1 rfl rfl hnb (fun J step drop less => ?_)
  refine step 0 _ _ _ _ _ _ _ ?_
  dsimp [ab_at, gX7_told, nX7_told, ab_vc, ab_v1, ab_lk, ab_st, ab_en, ab_cst, ab_mc, ab_mS, ab_tk, ab_ns, cR, ab_ia, ab_ra, ab_oa, ab_tg, ab_len, ab_uI, ab_uR]
  refine c_X7_workOf hnb hn CW (fun w hw e => ?_) (fun q => ?_)
  · have hq := h1 w hw e
    unfold cTold at hq
    refine step 5 _ _ _ _ _ _ _ ?_
    dsimp [ab_at, gX7_told, nX7_told, ab_vc, ab_v1, ab_lk, ab_st, ab_en, ab_cst, ab_mc, ab_mS, ab_tk, ab_ns, cR, ab_ia, ab_ra, ab_oa, ab_tg, ab_len, ab_uI, ab_uR]
    refine ⟨fun _ => ?_, fun q => (by cases q)⟩
    refine step 12 _ _ _ _ _ _ _ ?_
    dsimp [ab_at, gX7_told, nX7_told, ab_vc, ab_v1, ab_lk, ab_st, ab_en, ab_cst, ab_mc, ab_mS, ab_tk, ab_ns, cR, ab_ia, ab_ra, ab_oa, ab_tg, ab_len, ab_uI, ab_uR, ab_sw]
    refine ⟨fun q => ?_, fun q => ?_, fun q => ?_, fun q => ?_, fun q => ?_, fun q => ?_, fun q => ?_, fun q => ?_, fun q => ?_, trivial⟩
    · rw [if_neg (sw_no q (by omega)), if_neg (sw_no q (by omega)), if_neg (sw_no q (by omega)), if_neg (sw_no q (by omega)), if_neg (sw_no q (by omega)), if_neg (sw_no q (by omega)), if_neg (sw_no q (by omega)), if_neg (sw_no q (by omega))] at hq
      refine step 144 _ _ _ _ _ _ _ ?_
      dsimp [ab_at, gX7_told, nX7_told, ab_vc, ab_v1, ab_lk, ab_st, ab_en, ab_cst, ab_mc, ab_mS, ab_tk, ab_ns, cR, ab_ia, ab_ra, ab_oa, ab_tg, ab_len, ab_uI, ab_uR]
      exact hq
    · subst q
      rw [if_pos rfl] at hq
      refine step 60 _ _ _ _ _ _ _ ?_
      dsimp [ab_at, gX7_told, nX7_told, ab_vc, ab_v1, ab_lk, ab_st, ab_en, ab_cst, ab_mc, ab_mS, ab_tk, ab_ns, cR, ab_ia, ab_ra, ab_oa, ab_tg, ab_len, ab_uI, ab_uR]
      exact hq
    · subst q
      rw [if_neg (by decide), if_pos rfl] at hq
      rcases hho w hw with ⟨e9, eh⟩ | ⟨g, e9, eh⟩
      · rw [eh] at hq
        refine step 65 _ _ _ _ _ _ _ ?_
        dsimp [ab_at, gX7_told, nX7_told, ab_vc, ab_v1, ab_lk, ab_st, ab_en, ab_cst, ab_mc, ab_mS, ab_tk, ab_ns, cR, ab_ia, ab_ra, ab_oa, ab_tg, ab_len, ab_uI, ab_uR]
        rw [e9]
        refine ⟨fun q => absurd rfl q, fun _ => ?_⟩
        refine step 83 _ _ _ _ _ _ _ ?_
        dsimp [ab_at, gX7_told, nX7_told, ab_vc, ab_v1, ab_lk, ab_st, ab_en, ab_cst, ab_mc, ab_mS, ab_tk, ab_ns, cR, ab_ia, ab_ra, ab_oa, ab_tg, ab_len, ab_uI, ab_uR]
        exact hq
      · rw [← eh] at hq
        refine step 65 _ _ _ _ _ _ _ ?_
        dsimp [ab_at, gX7_told, nX7_told, ab_vc, ab_v1, ab_lk, ab_st, ab_en, ab_cst, ab_mc, ab_mS, ab_tk, ab_ns, cR, ab_ia, ab_ra, ab_oa, ab_tg, ab_len, ab_uI, ab_uR]
        rw [e9]
        refine ⟨fun _ => ?_, fun q => (by cases q)⟩
        refine step 76 _ _ _ _ _ _ _ ?_
        dsimp [ab_at, gX7_told, nX7_told, ab_vc, ab_v1, ab_lk, ab_st, ab_en, ab_cst, ab_mc, ab_mS, ab_tk, ab_ns, cR, ab_ia, ab_ra, ab_oa, ab_tg, ab_len, ab_uI, ab_uR]
        rw [e9]
        dsimp [ab_at, gX7_told, nX7_told, ab_vc, ab_v1, ab_lk, ab_st, ab_en, ab_cst, ab_mc, ab_mS, ab_tk, ab_ns, cR, ab_ia, ab_ra, ab_oa, ab_tg, ab_len, ab_uI, ab_uR]
        refine step 83 _ _ _ _ _ _ _ ?_
        dsimp [ab_at, gX7_told, nX7_told, ab_vc, ab_v1, ab_lk, ab_st, ab_en, ab_cst, ab_mc, ab_mS, ab_tk, ab_ns, cR, ab_ia, ab_ra, ab_oa, ab_tg, ab_len, ab_uI, ab_uR]
        exact hq
    · subst q
      rw [if_neg (by decide), if_neg (by decide), if_pos rfl] at hq
      refine step 84 _ _ _ _ _ _ _ ?_
      dsimp [ab_at, gX7_told, nX7_told, ab_vc, ab_v1, ab_lk, ab_st, ab_en, ab_cst, ab_mc, ab_mS, ab_tk, ab_ns, cR, ab_ia, ab_ra, ab_oa, ab_tg, ab_len, ab_uI, ab_uR]
      refine ⟨fun q => ?_, fun q => ?_⟩
      · rw [if_neg (show ¬ hi 7 w 5 = nI 0 from q)] at hq
        refine step 98 _ _ _ _ _ _ _ ?_
        dsimp [ab_at, gX7_told, nX7_told, ab_vc, ab_v1, ab_lk, ab_st, ab_en, ab_cst, ab_mc, ab_mS, ab_tk, ab_ns, cR, ab_ia, ab_ra, ab_oa, ab_tg, ab_len, ab_uI, ab_uR]
        refine step 99 _ _ _ _ _ _ _ ?_
        dsimp [ab_at, gX7_told, nX7_told, ab_vc, ab_v1, ab_lk, ab_st, ab_en, ab_cst, ab_mc, ab_mS, ab_tk, ab_ns, cR, ab_ia, ab_ra, ab_oa, ab_tg, ab_len, ab_uI, ab_uR]
        exact hq
      · rw [if_pos (show hi 7 w 5 = nI 0 from q)] at hq
        refine step 99 _ _ _ _ _ _ _ ?_
        dsimp [ab_at, gX7_told, nX7_told, ab_vc, ab_v1, ab_lk, ab_st, ab_en, ab_cst, ab_mc, ab_mS, ab_tk, ab_ns, cR, ab_ia, ab_ra, ab_oa, ab_tg, ab_len, ab_uI, ab_uR]
        exact hq
    · subst q
      rw [if_neg (by decide), if_neg (by decide), if_neg (by decide), if_pos rfl] at hq
      refine step 100 _ _ _ _ _ _ _ ?_
      dsimp [ab_at, gX7_told, nX7_told, ab_vc, ab_v1, ab_lk, ab_st, ab_en, ab_cst, ab_mc, ab_mS, ab_tk, ab_ns, cR, ab_ia, ab_ra, ab_oa, ab_tg, ab_len, ab_uI, ab_uR]
      refine c_X6_isLent hnb (fun q1 q2 => ?_) (fun q => ?_)
      · rw [if_pos q1] at hq
        refine step 104 _ _ _ _ _ _ _ ?_
        dsimp [ab_at, gX7_told, nX7_told, ab_vc, ab_v1, ab_lk, ab_st, ab_en, ab_cst, ab_mc, ab_mS, ab_tk, ab_ns, cR, ab_ia, ab_ra, ab_oa, ab_tg, ab_len, ab_uI, ab_uR]
        refine ⟨fun q => absurd q (by decide), fun _ => ?_⟩
        refine step 115 _ _ _ _ _ _ _ ?_
        dsimp [ab_at, gX7_told, nX7_told, ab_vc, ab_v1, ab_lk, ab_st, ab_en, ab_cst, ab_mc, ab_mS, ab_tk, ab_ns, cR, ab_ia, ab_ra, ab_oa, ab_tg, ab_len, ab_uI, ab_uR]
        exact hq
      · rw [if_neg (fun z => q ⟨z, hh w hw z⟩)] at hq
        refine step 104 _ _ _ _ _ _ _ ?_
        dsimp [ab_at, gX7_told, nX7_told, ab_vc, ab_v1, ab_lk, ab_st, ab_en, ab_cst, ab_mc, ab_mS, ab_tk, ab_ns, cR, ab_ia, ab_ra, ab_oa, ab_tg, ab_len, ab_uI, ab_uR]
        refine ⟨fun _ => ?_, fun q => absurd rfl q⟩
        refine step 114 _ _ _ _ _ _ _ ?_
        dsimp [ab_at, gX7_told, nX7_told, ab_vc, ab_v1, ab_lk, ab_st, ab_en, ab_cst, ab_mc, ab_mS, ab_tk, ab_ns, cR, ab_ia, ab_ra, ab_oa, ab_tg, ab_len, ab_uI, ab_uR]
        refine step 115 _ _ _ _ _ _ _ ?_
        dsimp [ab_at, gX7_told, nX7_told, ab_vc, ab_v1, ab_lk, ab_st, ab_en, ab_cst, ab_mc, ab_mS, ab_tk, ab_ns, cR, ab_ia, ab_ra, ab_oa, ab_tg, ab_len, ab_uI, ab_uR]
        exact hq
    · subst q
      rw [if_neg (by decide), if_neg (by decide), if_neg (by decide), if_neg (by decide), if_pos rfl] at hq
      refine step 116 _ _ _ _ _ _ _ ?_
      dsimp [ab_at, gX7_told, nX7_told, ab_vc, ab_v1, ab_lk, ab_st, ab_en, ab_cst, ab_mc, ab_mS, ab_tk, ab_ns, cR, ab_ia, ab_ra, ab_oa, ab_tg, ab_len, ab_uI, ab_uR]
      refine c_X6_daysLate hnb (hh w hw) (fun q => ?_) (fun q => ?_)
      · rw [if_pos q] at hq
        refine step 124 _ _ _ _ _ _ _ ?_
        dsimp [ab_at, gX7_told, nX7_told, ab_vc, ab_v1, ab_lk, ab_st, ab_en, ab_cst, ab_mc, ab_mS, ab_tk, ab_ns, cR, ab_ia, ab_ra, ab_oa, ab_tg, ab_len, ab_uI, ab_uR]
        exact hq
      · rw [if_neg q] at hq
        refine step 124 _ _ _ _ _ _ _ ?_
        dsimp [ab_at, gX7_told, nX7_told, ab_vc, ab_v1, ab_lk, ab_st, ab_en, ab_cst, ab_mc, ab_mS, ab_tk, ab_ns, cR, ab_ia, ab_ra, ab_oa, ab_tg, ab_len, ab_uI, ab_uR]
        exact hq
    · subst q
      rw [if_neg (by decide), if_neg (by decide), if_neg (by decide), if_neg (by decide), if_neg (by decide), if_pos rfl] at hq
      refine step 125 _ _ _ _ _ _ _ ?_
      dsimp [ab_at, gX7_told, nX7_told, ab_vc, ab_v1, ab_lk, ab_st, ab_en, ab_cst, ab_mc, ab_mS, ab_tk, ab_ns, cR, ab_ia, ab_ra, ab_oa, ab_tg, ab_len, ab_uI, ab_uR]
      exact hq
    · subst q
      rw [if_neg (by decide), if_neg (by decide), if_neg (by decide), if_neg (by decide), if_neg (by decide), if_neg (by decide), if_pos rfl] at hq
      refine step 130 _ _ _ _ _ _ _ ?_
      dsimp [ab_at, gX7_told, nX7_told, ab_vc, ab_v1, ab_lk, ab_st, ab_en, ab_cst, ab_mc, ab_mS, ab_tk, ab_ns, cR, ab_ia, ab_ra, ab_oa, ab_tg, ab_len, ab_uI, ab_uR]
      refine c_X6_daysInStores hnb ?_
      refine step 138 _ _ _ _ _ _ _ ?_
      dsimp [ab_at, gX7_told, nX7_told, ab_vc, ab_v1, ab_lk, ab_st, ab_en, ab_cst, ab_mc, ab_mS, ab_tk, ab_ns, cR, ab_ia, ab_ra, ab_oa, ab_tg, ab_len, ab_uI, ab_uR]
      exact hq
    · subst q
      rw [if_neg (by decide), if_neg (by decide), if_neg (by decide), if_neg (by decide), if_neg (by decide), if_neg (by decide), if_neg (by decide), if_pos rfl] at hq
      refine step 139 _ _ _ _ _ _ _ ?_
      dsimp [ab_at, gX7_told, nX7_told, ab_vc, ab_v1, ab_lk, ab_st, ab_en, ab_cst, ab_mc, ab_mS, ab_tk, ab_ns, cR, ab_ia, ab_ra, ab_oa, ab_tg, ab_len, ab_uI, ab_uR]
      exact hq
  · refine step 5 _ _ _ _ _ _ _ ?_
    dsimp [ab_at, gX7_told, nX7_told, ab_vc, ab_v1, ab_lk, ab_st, ab_en, ab_cst, ab_mc, ab_mS, ab_tk, ab_ns, cR, ab_ia, ab_ra, ab_oa, ab_tg, ab_len, ab_uI, ab_uR]
    exact ⟨fun q => absurd rfl q, fun _ => h0 q⟩
def cHomed (hi : ab_I) (g : Nat) (a : Int32) : Int32 :=
  if a = nI 0 then hi 2 g 1 else if a = nI 1 then hi 2 g 4 else if a = nI 2 then hi 2 g 6 else if a = nI 3 then hi 2 g 5 else if a = nI 4 then hi 2 g 7 else -1
theorem c_X7_homed (hnb : ab_n E < 2 ^ 31) {x a : Int32} {n : Nat} (hn : n ≤ 200) (CW : cL hi (cR hr) cn 0 n (fun j => (2, j))) (h1 : ∀ w, w < n → x = nI w → Q (some (.inl (cHomed hi w a))) hi (cR hr) cn) (h0 : (∀ w, w < n → x ≠ nI w) → Q (some (.inl (-1))) hi (cR hr) cn) : ab_Wm E (d + 5) nX7_homed [cO, .inl x, .inl a] hi (cR hr) cn Q := by
  refine ab_Wm_of gX7_homed kX7_homed 1 rfl rfl hnb (fun J step drop less => ?_)
  refine step 0 _ _ _ _ _ _ _ ?_
  dsimp [ab_at, gX7_homed, nX7_homed, ab_vc, ab_v1, ab_lk, ab_st, ab_en, ab_cst, ab_mc, ab_mS, ab_tk, ab_ns, cR, ab_ia, ab_ra, ab_oa, ab_tg, ab_len, ab_uI, ab_uR]
  refine c_X7_homeOf hnb hn CW (fun w hw e => ?_) (fun q => ?_)
  · have hq := h1 w hw e
    unfold cHomed at hq
    refine step 5 _ _ _ _ _ _ _ ?_
    dsimp [ab_at, gX7_homed, nX7_homed, ab_vc, ab_v1, ab_lk, ab_st, ab_en, ab_cst, ab_mc, ab_mS, ab_tk, ab_ns, cR, ab_ia, ab_ra, ab_oa, ab_tg, ab_len, ab_uI, ab_uR]
    refine ⟨fun _ => ?_, fun q => (by cases q)⟩
    refine step 12 _ _ _ _ _ _ _ ?_
    dsimp [ab_at, gX7_homed, nX7_homed, ab_vc, ab_v1, ab_lk, ab_st, ab_en, ab_cst, ab_mc, ab_mS, ab_tk, ab_ns, cR, ab_ia, ab_ra, ab_oa, ab_tg, ab_len, ab_uI, ab_uR, ab_sw]
    refine ⟨fun q => ?_, fun q => ?_, fun q => ?_, fun q => ?_, fun q => ?_, fun q => ?_, trivial⟩
    · rw [if_neg (sw_no q (by omega)), if_neg (sw_no q (by omega)), if_neg (sw_no q (by omega)), if_neg (sw_no q (by omega)), if_neg (sw_no q (by omega))] at hq
      refine step 73 _ _ _ _ _ _ _ ?_
      dsimp [ab_at, gX7_homed, nX7_homed, ab_vc, ab_v1, ab_lk, ab_st, ab_en, ab_cst, ab_mc, ab_mS, ab_tk, ab_ns, cR, ab_ia, ab_ra, ab_oa, ab_tg, ab_len, ab_uI, ab_uR]
      exact hq
    · subst q
      rw [if_pos rfl] at hq
      refine step 48 _ _ _ _ _ _ _ ?_
      dsimp [ab_at, gX7_homed, nX7_homed, ab_vc, ab_v1, ab_lk, ab_st, ab_en, ab_cst, ab_mc, ab_mS, ab_tk, ab_ns, cR, ab_ia, ab_ra, ab_oa, ab_tg, ab_len, ab_uI, ab_uR]
      exact hq
    · subst q
      rw [if_neg (by decide), if_pos rfl] at hq
      refine step 53 _ _ _ _ _ _ _ ?_
      dsimp [ab_at, gX7_homed, nX7_homed, ab_vc, ab_v1, ab_lk, ab_st, ab_en, ab_cst, ab_mc, ab_mS, ab_tk, ab_ns, cR, ab_ia, ab_ra, ab_oa, ab_tg, ab_len, ab_uI, ab_uR]
      exact hq
    · subst q
      rw [if_neg (by decide), if_neg (by decide), if_pos rfl] at hq
      refine step 58 _ _ _ _ _ _ _ ?_
      dsimp [ab_at, gX7_homed, nX7_homed, ab_vc, ab_v1, ab_lk, ab_st, ab_en, ab_cst, ab_mc, ab_mS, ab_tk, ab_ns, cR, ab_ia, ab_ra, ab_oa, ab_tg, ab_len, ab_uI, ab_uR]
      exact hq
    · subst q
      rw [if_neg (by decide), if_neg (by decide), if_neg (by decide), if_pos rfl] at hq
      refine step 63 _ _ _ _ _ _ _ ?_
      dsimp [ab_at, gX7_homed, nX7_homed, ab_vc, ab_v1, ab_lk, ab_st, ab_en, ab_cst, ab_mc, ab_mS, ab_tk, ab_ns, cR, ab_ia, ab_ra, ab_oa, ab_tg, ab_len, ab_uI, ab_uR]
      exact hq
    · subst q
      rw [if_neg (by decide), if_neg (by decide), if_neg (by decide), if_neg (by decide), if_pos rfl] at hq
      refine step 68 _ _ _ _ _ _ _ ?_
      dsimp [ab_at, gX7_homed, nX7_homed, ab_vc, ab_v1, ab_lk, ab_st, ab_en, ab_cst, ab_mc, ab_mS, ab_tk, ab_ns, cR, ab_ia, ab_ra, ab_oa, ab_tg, ab_len, ab_uI, ab_uR]
      exact hq
  · refine step 5 _ _ _ _ _ _ _ ?_
    dsimp [ab_at, gX7_homed, nX7_homed, ab_vc, ab_v1, ab_lk, ab_st, ab_en, ab_cst, ab_mc, ab_mS, ab_tk, ab_ns, cR, ab_ia, ab_ra, ab_oa, ab_tg, ab_len, ab_uI, ab_uR]
    exact ⟨fun q => absurd rfl q, fun _ => h0 q⟩
def cWished (hi : ab_I) (k : Nat) (a : Int32) : Int32 := if a = nI 0 then hi 6 k 3 else if a = nI 1 then hi 6 k 4 else if a = nI 2 then hi 6 k 5 else -1
theorem c_X7_wished (hnb : ab_n E < 2 ^ 31) {x a : Int32} {n : Nat} (hn : n ≤ 200) (CW : cL hi (cR hr) cn 2 n (fun j => (6, j))) (h1 : ∀ w, w < n → x = nI w → Q (some (.inl (cWished hi w a))) hi (cR hr) cn) (h0 : (∀ w, w < n → x ≠ nI w) → Q (some (.inl (-1))) hi (cR hr) cn) : ab_Wm E (d + 5) nX7_wished [cO, .inl x, .inl a] hi (cR hr) cn Q := by
  refine ab_Wm_of gX7_wished kX7_wished 1 rfl rfl hnb (fun J step drop less => ?_)
  refine step 0 _ _ _ _ _ _ _ ?_
  dsimp [ab_at, gX7_wished, nX7_wished, ab_vc, ab_v1, ab_lk, ab_st, ab_en, ab_cst, ab_mc, ab_mS, ab_tk, ab_ns, cR, ab_ia, ab_ra, ab_oa, ab_tg, ab_len, ab_uI, ab_uR]
  refine c_X7_wishOf hnb hn CW (fun w hw e => ?_) (fun q => ?_)
  · have hq := h1 w hw e
    unfold cWished at hq
    refine step 5 _ _ _ _ _ _ _ ?_
    dsimp [ab_at, gX7_wished, nX7_wished, ab_vc, ab_v1, ab_lk, ab_st, ab_en, ab_cst, ab_mc, ab_mS, ab_tk, ab_ns, cR, ab_ia, ab_ra, ab_oa, ab_tg, ab_len, ab_uI, ab_uR]
    refine ⟨fun _ => ?_, fun q => (by cases q)⟩
    refine step 12 _ _ _ _ _ _ _ ?_
    dsimp [ab_at, gX7_wished, nX7_wished, ab_vc, ab_v1, ab_lk, ab_st, ab_en, ab_cst, ab_mc, ab_mS, ab_tk, ab_ns, cR, ab_ia, ab_ra, ab_oa, ab_tg, ab_len, ab_uI, ab_uR, ab_sw]
    refine ⟨fun q => ?_, fun q => ?_, fun q => ?_, fun q => ?_, trivial⟩
    · rw [if_neg (sw_no q (by omega)), if_neg (sw_no q (by omega)), if_neg (sw_no q (by omega))] at hq
      refine step 55 _ _ _ _ _ _ _ ?_
      dsimp [ab_at, gX7_wished, nX7_wished, ab_vc, ab_v1, ab_lk, ab_st, ab_en, ab_cst, ab_mc, ab_mS, ab_tk, ab_ns, cR, ab_ia, ab_ra, ab_oa, ab_tg, ab_len, ab_uI, ab_uR]
      exact hq
    · subst q
      rw [if_pos rfl] at hq
      refine step 40 _ _ _ _ _ _ _ ?_
      dsimp [ab_at, gX7_wished, nX7_wished, ab_vc, ab_v1, ab_lk, ab_st, ab_en, ab_cst, ab_mc, ab_mS, ab_tk, ab_ns, cR, ab_ia, ab_ra, ab_oa, ab_tg, ab_len, ab_uI, ab_uR]
      exact hq
    · subst q
      rw [if_neg (by decide), if_pos rfl] at hq
      refine step 45 _ _ _ _ _ _ _ ?_
      dsimp [ab_at, gX7_wished, nX7_wished, ab_vc, ab_v1, ab_lk, ab_st, ab_en, ab_cst, ab_mc, ab_mS, ab_tk, ab_ns, cR, ab_ia, ab_ra, ab_oa, ab_tg, ab_len, ab_uI, ab_uR]
      exact hq
    · subst q
      rw [if_neg (by decide), if_neg (by decide), if_pos rfl] at hq
      refine step 50 _ _ _ _ _ _ _ ?_
      dsimp [ab_at, gX7_wished, nX7_wished, ab_vc, ab_v1, ab_lk, ab_st, ab_en, ab_cst, ab_mc, ab_mS, ab_tk, ab_ns, cR, ab_ia, ab_ra, ab_oa, ab_tg, ab_len, ab_uI, ab_uR]
      exact hq
  · refine step 5 _ _ _ _ _ _ _ ?_
    dsimp [ab_at, gX7_wished, nX7_wished, ab_vc, ab_v1, ab_lk, ab_st, ab_en, ab_cst, ab_mc, ab_mS, ab_tk, ab_ns, cR, ab_ia, ab_ra, ab_oa, ab_tg, ab_len, ab_uI, ab_uR]
    exact ⟨fun q => absurd rfl q, fun _ => h0 q⟩
theorem c_X7_artist (hnb : ab_n E < 2 ^ 31) {x : Int32} (h1 : okIn x 0 9 → Q (some (.inl (hi 10 0 (ab_ix x)))) hi (cR hr) cn) (h0 : ¬ okIn x 0 9 → Q (some (.inl (-1))) hi (cR hr) cn) : ab_Wm E (d + 3) nX7_artist [cO, .inl x] hi (cR hr) cn Q := by
  refine ab_Wm_of gX7_artist kX7_artist 1 rfl rfl hnb (fun J step drop less => ?_)
  refine step 0 _ _ _ _ _ _ _ ?_
  dsimp [ab_at, gX7_artist, nX7_artist, ab_vc, ab_v1, ab_lk, ab_st, ab_en, ab_cst, ab_mc, ab_mS, ab_tk, ab_ns, cR, ab_ia, ab_ra, ab_oa, ab_tg, ab_len, ab_uI, ab_uR]
  refine c_X7_isArtist hnb (fun q1 => ?_) (fun q => ?_)
  · refine step 4 _ _ _ _ _ _ _ ?_
    dsimp [ab_at, gX7_artist, nX7_artist, ab_vc, ab_v1, ab_lk, ab_st, ab_en, ab_cst, ab_mc, ab_mS, ab_tk, ab_ns, cR, ab_ia, ab_ra, ab_oa, ab_tg, ab_len, ab_uI, ab_uR]
    refine ⟨fun q => absurd q (by decide), fun _ => ⟨ab_inK (n := 9) (by omega) q1.1 q1.2, ?_⟩⟩
    refine step 17 _ _ _ _ _ _ _ ?_
    dsimp [ab_at, gX7_artist, nX7_artist, ab_vc, ab_v1, ab_lk, ab_st, ab_en, ab_cst, ab_mc, ab_mS, ab_tk, ab_ns, cR, ab_ia, ab_ra, ab_oa, ab_tg, ab_len, ab_uI, ab_uR]
    exact h1 q1
  · refine step 4 _ _ _ _ _ _ _ ?_
    dsimp [ab_at, gX7_artist, nX7_artist, ab_vc, ab_v1, ab_lk, ab_st, ab_en, ab_cst, ab_mc, ab_mS, ab_tk, ab_ns, cR, ab_ia, ab_ra, ab_oa, ab_tg, ab_len, ab_uI, ab_uR]
    refine ⟨fun _ => ?_, fun q => absurd rfl q⟩
    refine step 16 _ _ _ _ _ _ _ ?_
    dsimp [ab_at, gX7_artist, nX7_artist, ab_vc, ab_v1, ab_lk, ab_st, ab_en, ab_cst, ab_mc, ab_mS, ab_tk, ab_ns, cR, ab_ia, ab_ra, ab_oa, ab_tg, ab_len, ab_uI, ab_uR]
    refine step 17 _ _ _ _ _ _ _ ?_
    dsimp [ab_at, gX7_artist, nX7_artist, ab_vc, ab_v1, ab_lk, ab_st, ab_en, ab_cst, ab_mc, ab_mS, ab_tk, ab_ns, cR, ab_ia, ab_ra, ab_oa, ab_tg, ab_len, ab_uI, ab_uR]
    exact h0 q
def cCount (hi : ab_I) (nh nw n : Nat) (a : Int32) : Int32 :=
  if a = nI 0 then hi 8 0 8 else if a = nI 1 then nI nh else if a = nI 2 then nI nw else if a = nI 3 then nI n else if a = nI 4 then sumI (fun k => if hi 6 k 3 = nI 0 then nI 1 else nI 0) n else if a = nI 5 then hi 8 0 9 else if a = nI 6 then hi 8 0 10 else if a = nI 7 then hi 8 0 11 else if a = nI 8 then hi 8 0 12 else -1
theorem c_X7_count (hnb : ab_n E < 2 ^ 31) {a : Int32} {n nh nw : Nat} (hn : n ≤ 200) (CH : cL hi (cR hr) cn 0 nh (fun j => (2, j))) (CW : cL hi (cR hr) cn 1 nw (fun j => (7, j))) (C : cL hi (cR hr) cn 2 n (fun j => (6, j))) (h1 : Q (some (.inl (cCount hi nh nw n a))) hi (cR hr) cn) : ab_Wm E (d + 5) nX7_count [cO, .inl a] hi (cR hr) cn Q := by
  refine ab_Wm_of gX7_count kX7_count 1 rfl rfl hnb (fun J step drop less => ?_)
  have hq := h1
  unfold cCount at hq
  refine step 0 _ _ _ _ _ _ _ ?_
  dsimp [ab_at, gX7_count, nX7_count, ab_vc, ab_v1, ab_lk, ab_st, ab_en, ab_cst, ab_mc, ab_mS, ab_tk, ab_ns, cR, ab_ia, ab_ra, ab_oa, ab_tg, ab_len, ab_uI, ab_uR, ab_sw]
  refine ⟨fun q => ?_, fun q => ?_, fun q => ?_, fun q => ?_, fun q => ?_, fun q => ?_, fun q => ?_, fun q => ?_, fun q => ?_, fun q => ?_, trivial⟩
  · rw [if_neg (sw_no q (by omega)), if_neg (sw_no q (by omega)), if_neg (sw_no q (by omega)), if_neg (sw_no q (by omega)), if_neg (sw_no q (by omega)), if_neg (sw_no q (by omega)), if_neg (sw_no q (by omega)), if_neg (sw_no q (by omega)), if_neg (sw_no q (by omega))] at hq
    refine step 106 _ _ _ _ _ _ _ ?_
    dsimp [ab_at, gX7_count, nX7_count, ab_vc, ab_v1, ab_lk, ab_st, ab_en, ab_cst, ab_mc, ab_mS, ab_tk, ab_ns, cR, ab_ia, ab_ra, ab_oa, ab_tg, ab_len, ab_uI, ab_uR]
    exact hq
  · subst q
    rw [if_pos rfl] at hq
    refine step 52 _ _ _ _ _ _ _ ?_
    dsimp [ab_at, gX7_count, nX7_count, ab_vc, ab_v1, ab_lk, ab_st, ab_en, ab_cst, ab_mc, ab_mS, ab_tk, ab_ns, cR, ab_ia, ab_ra, ab_oa, ab_tg, ab_len, ab_uI, ab_uR]
    exact hq
  · subst q
    rw [if_neg (by decide), if_pos rfl] at hq
    refine step 57 _ _ _ _ _ _ _ ?_
    dsimp [ab_at, gX7_count, nX7_count, ab_vc, ab_v1, ab_lk, ab_st, ab_en, ab_cst, ab_mc, ab_mS, ab_tk, ab_ns, cR, ab_ia, ab_ra, ab_oa, ab_tg, ab_len, ab_uI, ab_uR]
    refine c_AL_size hnb CH ?_
    refine step 64 _ _ _ _ _ _ _ ?_
    dsimp [ab_at, gX7_count, nX7_count, ab_vc, ab_v1, ab_lk, ab_st, ab_en, ab_cst, ab_mc, ab_mS, ab_tk, ab_ns, cR, ab_ia, ab_ra, ab_oa, ab_tg, ab_len, ab_uI, ab_uR]
    exact hq
  · subst q
    rw [if_neg (by decide), if_neg (by decide), if_pos rfl] at hq
    refine step 65 _ _ _ _ _ _ _ ?_
    dsimp [ab_at, gX7_count, nX7_count, ab_vc, ab_v1, ab_lk, ab_st, ab_en, ab_cst, ab_mc, ab_mS, ab_tk, ab_ns, cR, ab_ia, ab_ra, ab_oa, ab_tg, ab_len, ab_uI, ab_uR]
    refine c_AL_size hnb CW ?_
    refine step 72 _ _ _ _ _ _ _ ?_
    dsimp [ab_at, gX7_count, nX7_count, ab_vc, ab_v1, ab_lk, ab_st, ab_en, ab_cst, ab_mc, ab_mS, ab_tk, ab_ns, cR, ab_ia, ab_ra, ab_oa, ab_tg, ab_len, ab_uI, ab_uR]
    exact hq
  · subst q
    rw [if_neg (by decide), if_neg (by decide), if_neg (by decide), if_pos rfl] at hq
    refine step 73 _ _ _ _ _ _ _ ?_
    dsimp [ab_at, gX7_count, nX7_count, ab_vc, ab_v1, ab_lk, ab_st, ab_en, ab_cst, ab_mc, ab_mS, ab_tk, ab_ns, cR, ab_ia, ab_ra, ab_oa, ab_tg, ab_len, ab_uI, ab_uR]
    refine c_AL_size hnb C ?_
    refine step 80 _ _ _ _ _ _ _ ?_
    dsimp [ab_at, gX7_count, nX7_count, ab_vc, ab_v1, ab_lk, ab_st, ab_en, ab_cst, ab_mc, ab_mS, ab_tk, ab_ns, cR, ab_ia, ab_ra, ab_oa, ab_tg, ab_len, ab_uI, ab_uR]
    exact hq
  · subst q
    rw [if_neg (by decide), if_neg (by decide), if_neg (by decide), if_neg (by decide), if_pos rfl] at hq
    refine step 81 _ _ _ _ _ _ _ ?_
    dsimp [ab_at, gX7_count, nX7_count, ab_vc, ab_v1, ab_lk, ab_st, ab_en, ab_cst, ab_mc, ab_mS, ab_tk, ab_ns, cR, ab_ia, ab_ra, ab_oa, ab_tg, ab_len, ab_uI, ab_uR]
    refine c_X7_openWishes hnb hn C ?_
    refine step 85 _ _ _ _ _ _ _ ?_
    dsimp [ab_at, gX7_count, nX7_count, ab_vc, ab_v1, ab_lk, ab_st, ab_en, ab_cst, ab_mc, ab_mS, ab_tk, ab_ns, cR, ab_ia, ab_ra, ab_oa, ab_tg, ab_len, ab_uI, ab_uR]
    exact hq
  · subst q
    rw [if_neg (by decide), if_neg (by decide), if_neg (by decide), if_neg (by decide), if_neg (by decide), if_pos rfl] at hq
    refine step 86 _ _ _ _ _ _ _ ?_
    dsimp [ab_at, gX7_count, nX7_count, ab_vc, ab_v1, ab_lk, ab_st, ab_en, ab_cst, ab_mc, ab_mS, ab_tk, ab_ns, cR, ab_ia, ab_ra, ab_oa, ab_tg, ab_len, ab_uI, ab_uR]
    exact hq
  · subst q
    rw [if_neg (by decide), if_neg (by decide), if_neg (by decide), if_neg (by decide), if_neg (by decide), if_neg (by decide), if_pos rfl] at hq
    refine step 91 _ _ _ _ _ _ _ ?_
    dsimp [ab_at, gX7_count, nX7_count, ab_vc, ab_v1, ab_lk, ab_st, ab_en, ab_cst, ab_mc, ab_mS, ab_tk, ab_ns, cR, ab_ia, ab_ra, ab_oa, ab_tg, ab_len, ab_uI, ab_uR]
    exact hq
  · subst q
    rw [if_neg (by decide), if_neg (by decide), if_neg (by decide), if_neg (by decide), if_neg (by decide), if_neg (by decide), if_neg (by decide), if_pos rfl] at hq
    refine step 96 _ _ _ _ _ _ _ ?_
    dsimp [ab_at, gX7_count, nX7_count, ab_vc, ab_v1, ab_lk, ab_st, ab_en, ab_cst, ab_mc, ab_mS, ab_tk, ab_ns, cR, ab_ia, ab_ra, ab_oa, ab_tg, ab_len, ab_uI, ab_uR]
    exact hq
  · subst q
    rw [if_neg (by decide), if_neg (by decide), if_neg (by decide), if_neg (by decide), if_neg (by decide), if_neg (by decide), if_neg (by decide), if_neg (by decide), if_pos rfl] at hq
    refine step 101 _ _ _ _ _ _ _ ?_
    dsimp [ab_at, gX7_count, nX7_count, ab_vc, ab_v1, ab_lk, ab_st, ab_en, ab_cst, ab_mc, ab_mS, ab_tk, ab_ns, cR, ab_ia, ab_ra, ab_oa, ab_tg, ab_len, ab_uI, ab_uR]
    exact hq
end CLS5
