theorem nI_sub {a b : Nat} (h : b ≤ a) : nI a - nI b = nI (a - b) := by
  have e : nI a = nI (a - b) + nI b := by
    rw [nI_add, show a - b + b = a by omega]
  rw [e]
  exact Int32.add_sub_cancel _ _
/-- the search alone has changed what it keeps -/
def pcS (hi0 : ab_I) (hr0 : ab_R) (hi : ab_I) (hr : ab_R) : Prop := (∀ K i j, ¬ (K = 4 ∧ (j = 3 ∨ j = 4)) → hi K i j = hi0 K i j) ∧ (∀ K i j, ¬ (K = 1 ∧ (j = 4 ∨ j = 5)) → hr K i j = hr0 K i j)
theorem pcS_R {hi0 hi : ab_I} {hr0 hr : ab_R} {i j : Nat} {x : Option (Nat × Nat)} (h : pcS hi0 hr0 hi hr) (hj : j = 4 ∨ j = 5) : pcS hi0 hr0 hi (ab_uR hr 1 i j x) := ⟨h.1, fun K' i' j' q => by
  have e : ab_uR hr 1 i j x K' i' j' = hr K' i' j' := by
    by_cases z : K' = 1
    · exact ab_uR_j (by omega)
    · exact ab_uR_k z
  rw [e]
  exact h.2 K' i' j' q⟩
theorem pcS_I {hi0 hi : ab_I} {hr0 hr : ab_R} {j : Nat} {x : Int32} (h : pcS hi0 hr0 hi hr) (hj : j = 3 ∨ j = 4) : pcS hi0 hr0 (ab_uI hi 4 0 j x) hr := ⟨fun K' i' j' q => by
  have e : ab_uI hi 4 0 j x K' i' j' = hi K' i' j' := by
    by_cases z : K' = 4
    · exact ab_uI_j (by omega)
    · exact ab_uI_k z
  rw [e]
  exact h.1 K' i' j' q, h.2⟩
def lnC (hr : ab_R) (s : Nat → Nat) (pre : List (Option Nat)) : Prop := ∀ i, i < pre.length → hr 1 (s i) 4 = wx (pre.getD i none)
def beC (hi : ab_I) (hr : ab_R) (n : Nat) (s : Nat → Nat) (b : pl_X) : Prop := hi 4 0 3 = nI b.1 ∧ hi 4 0 4 = nI b.2.1 ∧ b.1 ≤ 4 ∧ b.2.1 ≤ 2000 ∧ b.2.2.length = n ∧ ∀ i, i < n → hr 1 (s i) 5 = wx (b.2.2.getD i none)
theorem lnC_app {hr : ab_R} {s : Nat → Nat} {pre : List (Option Nat)} (h : lnC hr s pre) {k : Nat} (hk : pre.length = k) (hk4 : k < 4) (hs : ∀ p q, p < 4 → q < 4 → s p = s q → p = q) (o : Option Nat) {x : Option (Nat × Nat)} (hx : wx o = x) : lnC (ab_uR hr 1 (s k) 4 x) s (pre ++ [o]) := fun i hi' => by
  subst hx
  rw [List.length_append] at hi'
  have hi' : i < pre.length + 1 := hi'
  simp only [List.getD_eq_getElem?_getD]
  rcases Nat.lt_or_ge i pre.length with z | z
  · rw [ab_uR_i (fun e => by have := hs i k (by omega) (by omega) e; omega), h i z, List.getElem?_append_left z, List.getD_eq_getElem?_getD]
  · have : i = k := by omega
    subst this
    rw [ab_uR_e, List.getElem?_append_right z, hk, Nat.sub_self]
    rfl
theorem lnC_un {hr : ab_R} {s : Nat → Nat} {pre : List (Option Nat)} {o : Option Nat} (h : lnC hr s (pre ++ [o])) : lnC hr s pre := fun i hi' => by
  rw [h i (by rw [List.length_append]; omega)]
  simp only [List.getD_eq_getElem?_getD]
  rw [List.getElem?_append_left hi']
theorem beC_ln {hi : ab_I} {hr : ab_R} {n k : Nat} {s : Nat → Nat} {b : pl_X} {x : Option (Nat × Nat)} (h : beC hi hr n s b) : beC hi (ab_uR hr 1 (s k) 4 x) n s b := ⟨h.1, h.2.1, h.2.2.1, h.2.2.2.1, h.2.2.2.2.1, fun i hi' => by
  rw [ab_uR_j (by omega)]
  exact h.2.2.2.2.2 i hi'⟩
section SRC
variable {E : ab_E} {cn : ab_C}
theorem c_X3_keep (hnb : ab_n E < 2 ^ 31) {d : Nat} {hi hi0 : ab_I} {hr hr0 : ab_R} {Q : ab_Q} {n : Nat} {s : Nat → Nat} {b : pl_X} {sv mi : Nat} {pre : List (Option Nat)} (hn : n ≤ 4) (P : plP hr0 s) (e1 : hi0 4 0 1 = nI n) (hsv : sv ≤ 4) (hmi : mi ≤ 2000) (hpre : pre.length = n) (F : pcS hi0 hr0 hi hr) (L : lnC hr s pre) (B : beC hi hr n s b) (h : ∀ hi' hr', pcS hi0 hr0 hi' hr' → lnC hr' s pre → beC hi' hr' n s (if pl_bet (sv, mi, pre) b then (sv, mi, pre) else b) → Q none hi' (cR hr') cn) : ab_Wm E (d + 1) nX3_keepIfBetter [.inr (some (4, 0)), .inl (nI sv), .inl (nI mi)] hi (cR hr) cn Q := by
  obtain ⟨b1, b2, b3, b4, b5, b6⟩ := B
  refine ab_Wm_of gX3_keepIfBetter kX3_keepIfBetter 0 rfl rfl hnb (fun J step drop less => ?_)
  have stay : ¬ pl_bet (sv, mi, pre) b → ∀ L' ck cs, J 68 L' [] hi (cR hr) cn ck cs := fun q L' ck cs => by
    refine step 68 _ _ _ _ _ _ _ ?_
    dsimp [ab_at, gX3_keepIfBetter, nX3_keepIfBetter, ab_vc, ab_v1, ab_lk, ab_st, ab_en, ab_cst, ab_mc, ab_mS, ab_tk, ab_ns, cR, ab_ia, ab_ra, ab_oa, ab_tg, ab_len, ab_uI, ab_uR]
    refine h hi hr F L ?_
    rw [if_neg q]
    exact ⟨b1, b2, b3, b4, b5, b6⟩
  have take : pl_bet (sv, mi, pre) b → J 24 [(0, .inr (some (4, 0))), (1, .inl (nI sv)), (2, .inl (nI mi))] [] hi (cR hr) cn 0 0 := fun q => by
    have loop : ∀ mm i, i + mm = n → ∀ hi1 hr1, pcS hi0 hr0 hi1 hr1 → lnC hr1 s pre → hi1 4 0 3 = nI sv → hi1 4 0 4 = nI mi → (∀ i', i' < i → hr1 1 (s i') 5 = wx (pre.getD i' none)) → J 36 [(0, .inr (some (4, 0))), (1, .inl (nI sv)), (2, .inl (nI mi)), (3, .inl (nI i))] [] hi1 (cR hr1) cn 0 0 := by
      intro mm
      induction mm with
      | zero =>
        intro i hik hi1 hr1 s1 l1 e3 e4 hb1
        have hik : i = n := by omega
        have es : hi1 4 0 1 = nI n := (s1.1 4 0 1 (by omega)).trans e1
        refine step 36 _ _ _ _ _ _ _ ?_
        dsimp [ab_at, gX3_keepIfBetter, nX3_keepIfBetter, ab_vc, ab_v1, ab_lk, ab_st, ab_en, ab_cst, ab_mc, ab_mS, ab_tk, ab_ns, cR, ab_ia, ab_ra, ab_oa, ab_tg, ab_len, ab_uI, ab_uR]
        rw [es, hik]
        refine ⟨fun _ => ?_, fun q => absurd (Int32.le_refl _) q⟩
        refine step 68 _ _ _ _ _ _ _ ?_
        dsimp [ab_at, gX3_keepIfBetter, nX3_keepIfBetter, ab_vc, ab_v1, ab_lk, ab_st, ab_en, ab_cst, ab_mc, ab_mS, ab_tk, ab_ns, cR, ab_ia, ab_ra, ab_oa, ab_tg, ab_len, ab_uI, ab_uR]
        refine h hi1 hr1 s1 l1 ?_
        rw [if_pos q]
        exact ⟨e3, e4, hsv, hmi, hpre, hik ▸ hb1⟩
      | succ mm ih =>
        intro i hik hi1 hr1 s1 l1 e3 e4 hb1
        have ii : ab_ix (nI i) = i := ab_ix_nI (by omega)
        have es : hi1 4 0 1 = nI n := (s1.1 4 0 1 (by omega)).trans e1
        have e14 : hr1 14 0 i = some (1, s i) := (s1.2 14 0 i (by omega)).trans (P.1 i (by omega)).2
        refine step 36 _ _ _ _ _ _ _ ?_
        dsimp [ab_at, gX3_keepIfBetter, nX3_keepIfBetter, ab_vc, ab_v1, ab_lk, ab_st, ab_en, ab_cst, ab_mc, ab_mS, ab_tk, ab_ns, cR, ab_ia, ab_ra, ab_oa, ab_tg, ab_len, ab_uI, ab_uR]
        rw [es, ii, e14]
        dsimp [ab_at, gX3_keepIfBetter, nX3_keepIfBetter, ab_vc, ab_v1, ab_lk, ab_st, ab_en, ab_cst, ab_mc, ab_mS, ab_tk, ab_ns, cR, ab_ia, ab_ra, ab_oa, ab_tg, ab_len, ab_uI, ab_uR]
        refine ⟨fun q => absurd ((nI_leI (by omega) (by omega)).mp q) (by omega), fun _ => ⟨ab_inI (by omega) (by omega), ab_inI (by omega) (by omega), ?_⟩⟩
        rw [nI_add, cR_uR rfl]
        refine ih (i + 1) (by omega) hi1 _ (pcS_R s1 (Or.inr rfl)) (fun i' hi' => ?_) e3 e4 (fun i' hi' => ?_)
        · rw [ab_uR_j (by omega)]
          exact l1 i' hi'
        · by_cases z : i' = i
          · subst z
            rw [ab_uR_e]
            exact l1 i' (by omega)
          · rw [ab_uR_i (fun e => z (P.2 i' i (by omega) (by omega) e))]
            exact hb1 i' (by omega)
    refine step 24 _ _ _ _ _ _ _ ?_
    dsimp [ab_at, gX3_keepIfBetter, nX3_keepIfBetter, ab_vc, ab_v1, ab_lk, ab_st, ab_en, ab_cst, ab_mc, ab_mS, ab_tk, ab_ns, cR, ab_ia, ab_ra, ab_oa, ab_tg, ab_len, ab_uI, ab_uR]
    exact loop n 0 (by omega) _ hr (pcS_I (pcS_I F (Or.inl rfl)) (Or.inr rfl)) L rfl rfl (fun i' hi' => absurd hi' (by omega))
  refine step 0 _ _ _ _ _ _ _ ?_
  dsimp [ab_at, gX3_keepIfBetter, nX3_keepIfBetter, ab_vc, ab_v1, ab_lk, ab_st, ab_en, ab_cst, ab_mc, ab_mS, ab_tk, ab_ns, cR, ab_ia, ab_ra, ab_oa, ab_tg, ab_len, ab_uI, ab_uR]
  rw [b1, b2]
  refine ⟨fun q => take (Or.inl ((nI_ltI (by omega) (by omega)).mp q)), fun q => ⟨fun q2 => stay ?_ _ _ _, fun q2 => ⟨fun q3 => stay ?_ _ _ _, fun q3 => take ?_⟩⟩⟩
  · have q' : ¬ b.1 < sv := fun z => q ((nI_ltI (by omega) (by omega)).mpr z)
    have q2' : ¬ sv = b.1 := fun z => q2 (by rw [z])
    rintro (z | z)
    · exact q' z
    · exact q2' z.1.symm
  · have q' : ¬ b.1 < sv := fun z => q ((nI_ltI (by omega) (by omega)).mpr z)
    have q3' := (nI_leI (by omega) (by omega)).mp q3
    rintro (z | z)
    · exact q' z
    · have : mi < b.2.1 := z.2
      omega
  · have q2' := (nI_eq (by omega) (by omega)).mp q2
    have q3' : ¬ b.2.1 ≤ mi := fun z => q3 ((nI_leI (by omega) (by omega)).mpr z)
    exact Or.inr ⟨q2'.symm, by show mi < b.2.1; omega⟩
/-- the plan's problem, as it lies in the class -/
def plQ (hi0 : ab_I) (hr0 : ab_R) (n : Nat) (O : Nat → List Nat) (hm m : Nat → Nat) (s : Nat → Nat) : Prop := plP hr0 s ∧ hi0 4 0 1 = nI n ∧ (∀ k, k < n → chL hi0 hr0 (s k) m (O k)) ∧ ∀ k, k < n → ∀ v, v ∈ O k → hr0 6 v 1 = some (2, hm v) ∧ hi0 2 (hm v) 0 = nI (hm v) ∧ hm v < 20
theorem c_X3_choose (hnb : ab_n E < 2 ^ 31) {hi0 : ab_I} {hr0 : ab_R} {n : Nat} {O : Nat → List Nat} {hm m : Nat → Nat} {s : Nat → Nat} (hn : n ≤ 4) (P : plQ hi0 hr0 n O hm m s) : ∀ (mm k : Nat), k + mm = n → ∀ (d : Nat) (l : List Nat) (u : Int32) (sv mi : Nat) (pre : List (Option Nat)) (hi : ab_I) (hr : ab_R) (b : pl_X) (Q : ab_Q), pcS hi0 hr0 hi hr → bitR u l → sv ≤ k → mi ≤ 500 * k → pre.length = k → lnC hr s pre → beC hi hr n s b → (∀ hi' hr', pcS hi0 hr0 hi' hr' → lnC hr' s pre → beC hi' hr' n s (pl_gp O hm (fun _ v => m v) mm k l sv mi pre b) → Q none hi' (cR hr') cn) → ab_Wm E (d + mm + 2) nX3_choose [.inr (some (4, 0)), .inl (nI k), .inl (nI sv), .inl (nI mi), .inl u] hi (cR hr) cn Q := by
  obtain ⟨p1, p2, p3, p4⟩ := P
  intro mm
  induction mm with
  | zero =>
    intro k hk d l u sv mi pre hi hr b Q hs hu hsv hmi hpre hln hbe h
    have hk : k = n := by omega
    subst hk
    have es : hi 4 0 1 = nI k := (hs.1 4 0 1 (by omega)).trans p2
    unfold pl_gp at h
    refine ab_Wm_of gX3_choose kX3_choose 0 rfl rfl hnb (fun J step drop less => ?_)
    refine step 0 _ _ _ _ _ _ _ ?_
    dsimp [ab_at, gX3_choose, nX3_choose, ab_vc, ab_v1, ab_lk, ab_st, ab_en, ab_cst, ab_mc, ab_mS, ab_tk, ab_ns, cR, ab_ia, ab_ra, ab_oa, ab_tg, ab_len, ab_uI, ab_uR]
    rw [es, hbe.1, nI_add, nI_sub (by omega), show sv + k - k = sv by omega]
    have hb3 := hbe.2.2.1
    refine ⟨fun q => ?_, fun q => ?_⟩
    · have q' := (nI_leI (by omega) (by omega)).mp q
      rw [if_neg (by omega)] at h
      refine step 16 _ _ _ _ _ _ _ ?_
      dsimp [ab_at, gX3_choose, nX3_choose, ab_vc, ab_v1, ab_lk, ab_st, ab_en, ab_cst, ab_mc, ab_mS, ab_tk, ab_ns, cR, ab_ia, ab_ra, ab_oa, ab_tg, ab_len, ab_uI, ab_uR]
      rw [es]
      refine ⟨fun q => absurd ((nI_ltI (by omega) (by omega)).mp q) (by omega), fun _ => ?_⟩
      refine c_X3_keep hnb hn p1 p2 (by omega) (by omega) hpre hs hln hbe (fun hi' hr' s' l' b' => ?_)
      refine step 30 _ _ _ _ _ _ _ ?_
      dsimp [ab_at, gX3_choose, nX3_choose, ab_vc, ab_v1, ab_lk, ab_st, ab_en, ab_cst, ab_mc, ab_mS, ab_tk, ab_ns, cR, ab_ia, ab_ra, ab_oa, ab_tg, ab_len, ab_uI, ab_uR]
      exact h hi' hr' s' l' b'
    · have q' : ¬ b.1 ≤ sv := fun z => q ((nI_leI (by omega) (by omega)).mpr z)
      rw [if_pos (by omega)] at h
      exact h hi hr hs hln hbe
  | succ mm ih =>
    intro k hk d l u sv mi pre hi hr b Q hs hu hsv hmi hpre hln hbe h
    have ik : ab_ix (nI k) = k := ab_ix_nI (by omega)
    have es : hi 4 0 1 = nI n := (hs.1 4 0 1 (by omega)).trans p2
    have hb3 := hbe.2.2.1
    obtain ⟨o1, o2, o3⟩ := p3 k (by omega)
    unfold pl_gp at h
    refine ab_Wm_of gX3_choose kX3_choose 0 rfl rfl hnb (fun J step drop less => ?_)
    refine step 0 _ _ _ _ _ _ _ ?_
    dsimp [ab_at, gX3_choose, nX3_choose, ab_vc, ab_v1, ab_lk, ab_st, ab_en, ab_cst, ab_mc, ab_mS, ab_tk, ab_ns, cR, ab_ia, ab_ra, ab_oa, ab_tg, ab_len, ab_uI, ab_uR]
    rw [es, hbe.1, nI_add, nI_sub (by omega), show sv + n - k = sv + (mm + 1) by omega]
    refine ⟨fun q => ?_, fun q => ?_⟩
    · have q' := (nI_leI (by omega) (by omega)).mp q
      rw [if_neg (by omega)] at h
      have loop : ∀ (rest done : List Nat) (i : Nat) (hi1 : ab_I) (hr1 : ab_R) (b1 : pl_X), O k = done ++ rest → i = done.length → pcS hi0 hr0 hi1 hr1 → lnC hr1 s pre → beC hi1 hr1 n s b1 → rest.foldl (fun b v => if l.contains (hm v) = true then b else pl_gp O hm (fun _ v => m v) mm (k + 1) (hm v :: l) (sv + 1) (mi + m v) (pre ++ [some v]) b) b1 = (O k).foldl (fun b v => if l.contains (hm v) = true then b else pl_gp O hm (fun _ v => m v) mm (k + 1) (hm v :: l) (sv + 1) (mi + m v) (pre ++ [some v]) b) b → J 42 [(0, .inr (some (4, 0))), (1, .inl (nI k)), (2, .inl (nI sv)), (3, .inl (nI mi)), (4, .inl u), (5, .inr (some (1, s k))), (6, .inl (nI i))] [] hi1 (cR hr1) cn 0 0 := by
        intro rest
        induction rest with
        | nil =>
          intro done i hi1 hr1 b1 eO ei s1 l1 be1 ef
          have e3 : hi1 1 (s k) 3 = nI i := by
            rw [s1.1 1 (s k) 3 (by omega), o1, eO, ei, List.append_nil]
          refine step 42 _ _ _ _ _ _ _ ?_
          dsimp [ab_at, gX3_choose, nX3_choose, ab_vc, ab_v1, ab_lk, ab_st, ab_en, ab_cst, ab_mc, ab_mS, ab_tk, ab_ns, cR, ab_ia, ab_ra, ab_oa, ab_tg, ab_len, ab_uI, ab_uR]
          rw [e3]
          refine ⟨fun _ => ?_, fun q => absurd (Int32.le_refl _) q⟩
          refine step 122 _ _ _ _ _ _ _ ?_
          dsimp [ab_at, gX3_choose, nX3_choose, ab_vc, ab_v1, ab_lk, ab_st, ab_en, ab_cst, ab_mc, ab_mS, ab_tk, ab_ns, cR, ab_ia, ab_ra, ab_oa, ab_tg, ab_len, ab_uI, ab_uR]
          rw [nI_add, cR_uR rfl]
          refine ih (k + 1) (by omega) d l u sv mi (pre ++ [none]) hi1 _ b1 _ (pcS_R s1 (Or.inl rfl)) hu (by omega) (by omega) (by rw [List.length_append, hpre]; rfl) (lnC_app l1 hpre (by omega) p1.2 none rfl) (beC_ln be1) (fun hi' hr' s' l' be' => ?_)
          refine step 139 _ _ _ _ _ _ _ ?_
          dsimp [ab_at, gX3_choose, nX3_choose, ab_vc, ab_v1, ab_lk, ab_st, ab_en, ab_cst, ab_mc, ab_mS, ab_tk, ab_ns, cR, ab_ia, ab_ra, ab_oa, ab_tg, ab_len, ab_uI, ab_uR]
          refine h hi' hr' s' (lnC_un l') ?_
          rw [← ef]
          exact be'
        | cons v rest ihr =>
          intro done i hi1 hr1 b1 eO ei s1 l1 be1 ef
          have ev : (O k)[i]? = some v := by
            rw [eO, ei]
            simp
          have hlen : (O k).length = i + (rest.length + 1) := by
            rw [eO, ei, List.length_append]
            rfl
          have ii : ab_ix (nI i) = i := ab_ix_nI (by omega)
          obtain ⟨v1, v2, v3⟩ := o3 i v ev
          obtain ⟨w1, w2, w3⟩ := p4 k (by omega) v (List.mem_of_getElem? ev)
          have e3 : hi1 1 (s k) 3 = nI (O k).length := (s1.1 1 (s k) 3 (by omega)).trans o1
          have e15 : hr1 15 (s k) i = some (6, v) := (s1.2 15 (s k) i (by omega)).trans v1
          have e12 : hi1 12 (s k) i = nI (m v) := (s1.1 12 (s k) i (by omega)).trans v2
          have e6 : hr1 6 v 1 = some (2, hm v) := (s1.2 6 v 1 (by omega)).trans w1
          have e2 : hi1 2 (hm v) 0 = nI (hm v) := (s1.1 2 (hm v) 0 (by omega)).trans w2
          have ef2 : rest.foldl (fun b v => if l.contains (hm v) = true then b else pl_gp O hm (fun _ v => m v) mm (k + 1) (hm v :: l) (sv + 1) (mi + m v) (pre ++ [some v]) b) (if l.contains (hm v) = true then b1 else pl_gp O hm (fun _ v => m v) mm (k + 1) (hm v :: l) (sv + 1) (mi + m v) (pre ++ [some v]) b1) = (O k).foldl (fun b v => if l.contains (hm v) = true then b else pl_gp O hm (fun _ v => m v) mm (k + 1) (hm v :: l) (sv + 1) (mi + m v) (pre ++ [some v]) b) b := ef
          have on : ∀ hi2 hr2 b2 z, (if l.contains (hm v) = true then b1 else pl_gp O hm (fun _ v => m v) mm (k + 1) (hm v :: l) (sv + 1) (mi + m v) (pre ++ [some v]) b1) = b2 → pcS hi0 hr0 hi2 hr2 → lnC hr2 s pre → beC hi2 hr2 n s b2 → J 116 [(0, .inr (some (4, 0))), (1, .inl (nI k)), (2, .inl (nI sv)), (3, .inl (nI mi)), (4, .inl u), (5, .inr (some (1, s k))), (6, .inl (nI i)), (7, z)] [] hi2 (cR hr2) cn 0 0 := fun hi2 hr2 b2 z eb s2 l2 be2 => by
            refine step 116 _ _ _ _ _ _ _ ?_
            dsimp [ab_at, gX3_choose, nX3_choose, ab_vc, ab_v1, ab_lk, ab_st, ab_en, ab_cst, ab_mc, ab_mS, ab_tk, ab_ns, cR, ab_ia, ab_ra, ab_oa, ab_tg, ab_len, ab_uI, ab_uR]
            rw [nI_add]
            refine drop 42 _ _ _ _ _ _ _ _ (List.sublist_append_left [_, _, _, _, _, _, _] [_]) ?_
            refine ihr (done ++ [v]) (i + 1) hi2 hr2 b2 ?_ ?_ s2 l2 be2 ?_
            · rw [eO, List.append_assoc]
              rfl
            · rw [List.length_append, ei]
              rfl
            · rw [← eb]
              exact ef2
          refine step 42 _ _ _ _ _ _ _ ?_
          dsimp [ab_at, gX3_choose, nX3_choose, ab_vc, ab_v1, ab_lk, ab_st, ab_en, ab_cst, ab_mc, ab_mS, ab_tk, ab_ns, cR, ab_ia, ab_ra, ab_oa, ab_tg, ab_len, ab_uI, ab_uR]
          rw [e3, ii, e15]
          dsimp [ab_at, gX3_choose, nX3_choose, ab_vc, ab_v1, ab_lk, ab_st, ab_en, ab_cst, ab_mc, ab_mS, ab_tk, ab_ns, cR, ab_ia, ab_ra, ab_oa, ab_tg, ab_len, ab_uI, ab_uR]
          rw [e6]
          dsimp [ab_at, gX3_choose, nX3_choose, ab_vc, ab_v1, ab_lk, ab_st, ab_en, ab_cst, ab_mc, ab_mS, ab_tk, ab_ns, cR, ab_ia, ab_ra, ab_oa, ab_tg, ab_len, ab_uI, ab_uR]
          simp only [↓reduceIte]
          dsimp [ab_at, gX3_choose, nX3_choose, ab_vc, ab_v1, ab_lk, ab_st, ab_en, ab_cst, ab_mc, ab_mS, ab_tk, ab_ns, cR, ab_ia, ab_ra, ab_oa, ab_tg, ab_len, ab_uI, ab_uR]
          rw [e2, ii, e12]
          refine ⟨fun q => absurd ((nI_leI (by omega) (by omega)).mp q) (by omega), fun _ => ⟨ab_inI (by omega) (by omega), fun q => ?_, fun q => ⟨ab_inI (by omega) (by omega), ab_inI (by omega) (by omega), ?_⟩⟩⟩
          · have hc : l.contains (hm v) = true := by
              rw [← hu (hm v) w3]
              rcases hb : tb u (hm v) with _ | _
              · exact absurd ((tb_and w3).mpr hb) q
              · rfl
            rw [if_pos hc] at on
            exact on hi1 hr1 _ _ rfl s1 l1 be1
          · have hc : ¬ l.contains (hm v) = true := fun z => by
              rw [← hu (hm v) w3, (tb_and w3).mp q] at z
              cases z
            rw [if_neg hc] at on
            rw [nI_add, nI_add, nI_add, cR_uR rfl]
            refine ih (k + 1) (by omega) d (hm v :: l) _ (sv + 1) (mi + m v) (pre ++ [some v]) hi1 _ b1 _ (pcS_R s1 (Or.inl rfl)) (bitR_or hu w3) (by omega) (by omega) (by rw [List.length_append, hpre]; rfl) (lnC_app l1 hpre (by omega) p1.2 (some v) rfl) (beC_ln be1) (fun hi' hr' s' l' be' => ?_)
            exact on hi' hr' _ _ rfl s' (lnC_un l') be'
      have e14 : hr 14 0 k = some (1, s k) := (hs.2 14 0 k (by omega)).trans (p1.1 k (by omega)).2
      refine step 16 _ _ _ _ _ _ _ ?_
      dsimp [ab_at, gX3_choose, nX3_choose, ab_vc, ab_v1, ab_lk, ab_st, ab_en, ab_cst, ab_mc, ab_mS, ab_tk, ab_ns, cR, ab_ia, ab_ra, ab_oa, ab_tg, ab_len, ab_uI, ab_uR]
      rw [es]
      refine ⟨fun _ => ?_, fun q => absurd (nI_lt (by omega) (by omega)) q⟩
      refine step 31 _ _ _ _ _ _ _ ?_
      dsimp [ab_at, gX3_choose, nX3_choose, ab_vc, ab_v1, ab_lk, ab_st, ab_en, ab_cst, ab_mc, ab_mS, ab_tk, ab_ns, cR, ab_ia, ab_ra, ab_oa, ab_tg, ab_len, ab_uI, ab_uR]
      rw [ik, e14]
      refine ⟨ab_inI (by omega) (by omega), ?_⟩
      exact loop (O k) [] 0 hi hr b rfl rfl hs hln hbe rfl
    · have q' : ¬ b.1 ≤ sv + (mm + 1) := fun z => q ((nI_leI (by omega) (by omega)).mpr z)
      rw [if_pos (by omega)] at h
      exact h hi hr hs hln hbe
end SRC
