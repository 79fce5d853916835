section MOD8
variable {E : ab_E} {d : Nat} {hi : ab_I} {hr : ab_R} {cn : ab_C} {Q : ab_Q} {nR nH nW nV nL : Nat}
/-- a wish that a work could serve now -/
noncomputable def mcould (hi : ab_I) (nW w k : Nat) : Bool := decide (hi 56 0 k = nI 0) && decide (hi 55 0 k = nI w) && mroom hi nW (ab_ix (hi 54 0 k)) w
theorem c_X8_couldHave (hnb : ab_n E < 2 ^ 31) (M : mok hi nR nH nW nV nL) {k w : Nat} (hk : k < nV) (hw : w < nW) (h1 : mcould hi nW w k = true → Q (some (.inl (nI 1))) hi (mR hr) cn) (h0 : mcould hi nW w k = false → Q (some (.inl (nI 0))) hi (mR hr) cn) : ab_Wm E (d + 4) nX8_couldHave [mO, .inl (nI k), .inl (nI w)] hi (mR hr) cn Q := by
  have M' := M
  obtain ⟨-, ⟨hcH, hH⟩, ⟨hcW, hW⟩, ⟨hcV, hV⟩, -, mh, -⟩ := M
  have ik : ab_ix (nI k) = k := ab_ix_nI (by omega)
  obtain ⟨g, hg, eg⟩ := mh k hk
  have ig : ab_ix (nI g) = g := ab_ix_nI (by omega)
  refine ab_Wm_of gX8_couldHave kX8_couldHave 2 rfl rfl hnb (fun J step drop less => ?_)
  have r37 : mcould hi nW w k = false → ∀ L ck cs, J 37 L [] hi (mR hr) cn ck cs := fun q L ck cs => by
    refine step 37 _ _ _ _ _ _ _ ?_
    dsimp [ab_at, gX8_couldHave, ab_vc, ab_v1, ab_lk, ab_st, ab_en, ab_cst, ab_mc, ab_mS, ab_tk, ab_ns, mR, mAr, ab_ia, ab_ra, ab_oa, ab_tg, ab_len, ab_uI]
    refine step 38 _ _ _ _ _ _ _ ?_
    dsimp [ab_at, gX8_couldHave, ab_vc, ab_v1, ab_lk, ab_st, ab_en, ab_cst, ab_mc, ab_mS, ab_tk, ab_ns, mR, mAr, ab_ia, ab_ra, ab_oa, ab_tg, ab_len, ab_uI]
    exact ⟨Or.inl rfl, h0 q⟩
  refine step 0 _ _ _ _ _ _ _ ?_
  dsimp [ab_at, gX8_couldHave, ab_vc, ab_v1, ab_lk, ab_st, ab_en, ab_cst, ab_mc, ab_mS, ab_tk, ab_ns, mR, mAr, ab_ia, ab_ra, ab_oa, ab_tg, ab_len, ab_uI]
  rw [ik]
  refine ⟨ab_inI (by omega) (by omega), fun q => r37 ?_ _ _ _, fun q => ⟨ab_inI (by omega) (by omega), fun q2 => r37 ?_ _ _ _, fun q2 => ⟨ab_inI (by omega) (by omega), ?_⟩⟩⟩
  · unfold mcould
    rw [decide_eq_false (show ¬ hi 56 0 k = nI 0 from q)]
    rfl
  · unfold mcould
    rw [decide_eq_false q2]
    simp
  · rw [eg]
    refine c_X8_hasRoom hnb M' hg hw (fun q3 => ?_) (fun q3 => ?_)
    · refine step 30 _ _ _ _ _ _ _ ?_
      dsimp [ab_at, gX8_couldHave, ab_vc, ab_v1, ab_lk, ab_st, ab_en, ab_cst, ab_mc, ab_mS, ab_tk, ab_ns, mR, mAr, ab_ia, ab_ra, ab_oa, ab_tg, ab_len, ab_uI]
      refine ⟨fun q => absurd q (by decide), fun _ => ?_⟩
      refine step 38 _ _ _ _ _ _ _ ?_
      dsimp [ab_at, gX8_couldHave, ab_vc, ab_v1, ab_lk, ab_st, ab_en, ab_cst, ab_mc, ab_mS, ab_tk, ab_ns, mR, mAr, ab_ia, ab_ra, ab_oa, ab_tg, ab_len, ab_uI]
      refine ⟨Or.inr rfl, h1 ?_⟩
      unfold mcould
      rw [decide_eq_true (show hi 56 0 k = nI 0 from q), decide_eq_true q2, eg, ig, q3]
      rfl
    · refine step 30 _ _ _ _ _ _ _ ?_
      dsimp [ab_at, gX8_couldHave, ab_vc, ab_v1, ab_lk, ab_st, ab_en, ab_cst, ab_mc, ab_mS, ab_tk, ab_ns, mR, mAr, ab_ia, ab_ra, ab_oa, ab_tg, ab_len, ab_uI]
      refine ⟨fun _ => r37 ?_ _ _ _, fun q => absurd rfl q⟩
      unfold mcould
      rw [eg, ig, q3]
      simp
/-- all but the plan's own cells is as it was -/
def sam (hi0 hi : ab_I) : Prop := ∀ K i j, K ≠ 70 → K ≠ 71 → ¬ (K = 9 ∧ 45 ≤ j) → hi K i j = hi0 K i j
theorem sam_line {hi0 hi : ab_I} (h : sam hi0 hi) {j : Nat} {x : Int32} : sam hi0 (ab_uI hi 70 0 j x) := fun K i j' h1 h2 h3 => by
  rw [ab_uI_k h1]
  exact h K i j' h1 h2 h3
theorem sam_best {hi0 hi : ab_I} (h : sam hi0 hi) {j : Nat} {x : Int32} : sam hi0 (ab_uI hi 71 0 j x) := fun K i j' h1 h2 h3 => by
  rw [ab_uI_k h2]
  exact h K i j' h1 h2 h3
theorem sam_f {hi0 hi : ab_I} (h : sam hi0 hi) {j : Nat} (hj : 45 ≤ j) {x : Int32} : sam hi0 (ab_uI hi 9 0 j x) := fun K i j' h1 h2 h3 => by
  have : ab_uI hi 9 0 j x K i j' = hi K i j' := by
    unfold ab_uI
    split
    · split
      · split
        · exact absurd ⟨by assumption, by omega⟩ h3
        · rfl
      · rfl
    · rfl
  rw [this]
  exact h K i j' h1 h2 h3
def bitR (u : Int32) (l : List Nat) : Prop := ∀ h, h < 20 → tb u h = l.contains h
theorem bitR_or {u : Int32} {l : List Nat} (h : bitR u l) {g : Nat} (hg : g < 20) : bitR (u ||| nI 1 <<< (nI g &&& 31)) (g :: l) := fun j hj => by
  rw [tb_or, tb_bit g hg j hj, h j hj, List.contains_cons, Bool.or_comm]
  congr 1
def lnR (hi : ab_I) (pre : List (Option Nat)) : Prop := ∀ i, i < pre.length → hi 70 0 i = mnn (pre.getD i none)
def beR (hi : ab_I) (n : Nat) : Option pl_X → Prop
  | none => hi 9 0 45 = -1
  | some x => hi 9 0 45 = nI x.1 ∧ hi 9 0 46 = nI x.2.1 ∧ x.1 ≤ 4 ∧ x.2.1 ≤ 2000 ∧ x.2.2.length = n ∧ ∀ i, i < n → hi 71 0 i = mnn (x.2.2.getD i none)
theorem lnR_app {hi : ab_I} {pre : List (Option Nat)} (h : lnR hi pre) {k : Nat} (hk : pre.length = k) (o : Option Nat) {x : Int32} (hx : mnn o = x) : lnR (ab_uI hi 70 0 k x) (pre ++ [o]) := fun i hi' => by
  subst hx
  rw [List.length_append] at hi'
  have hi' : i < pre.length + 1 := hi'
  show (if 70 = 70 then if 0 = 0 then if i = k then mnn o else hi 70 0 i else hi 70 0 i else hi 70 0 i) = _
  rw [if_pos rfl, if_pos rfl]
  by_cases e : i = k
  · rw [if_pos e, e, ← hk]
    simp [List.getD_eq_getElem?_getD]
  · rw [if_neg e, h i (by omega)]
    simp only [List.getD_eq_getElem?_getD]
    rw [List.getElem?_append_left (by omega)]
theorem lnR_un {hi : ab_I} {pre : List (Option Nat)} {o : Option Nat} (h : lnR hi (pre ++ [o])) : lnR hi pre := fun i hi' => by
  rw [h i (by rw [List.length_append]; omega)]
  simp only [List.getD_eq_getElem?_getD]
  rw [List.getElem?_append_left hi']
theorem beR_line {hi : ab_I} {n : Nat} {b : Option pl_X} {j : Nat} {x : Int32} (h : beR hi n b) : beR (ab_uI hi 70 0 j x) n b := by
  rcases b with _ | b
  · exact h
  · exact h
/-- the plan's problem, as it lies in the reference's arrays -/
def plR (hi : ab_I) (n : Nat) (O : Nat → List Nat) (hm : Nat → Nat) (ml : Nat → Nat → Nat) : Prop :=
  hi 9 0 44 = nI n ∧ (∀ k, k < n → hi 72 0 k = nI (O k).length ∧ (O k).length ≤ 20) ∧
  ∀ k, k < n → ∀ i v, (O k)[i]? = some v → hi 123 k i = nI v ∧ v < 200 ∧ hi 54 0 v = nI (hm v) ∧ hm v < 20 ∧ ml k v ≤ 500 ∧ ∃ w s t, w < 40 ∧ s < 4 ∧ t < 4 ∧ hi 69 0 k = nI w ∧ hi 45 0 w = nI s ∧ hi 35 0 (hm v) = nI t ∧ hi 81 s t = nI (ml k v)
theorem c_X8_tries (hnb : ab_n E < 2 ^ 31) {hi0 : ab_I} {n : Nat} {O : Nat → List Nat} {hm : Nat → Nat} {ml : Nat → Nat → Nat} (hn : n ≤ 4) (P : plR hi0 n O hm ml) : ∀ (m k : Nat), k + m = n → ∀ (d : Nat) (l : List Nat) (u : Int32) (sv mi : Nat) (pre : List (Option Nat)) (hi : ab_I) (b : Option pl_X) (Q : ab_Q), sam hi0 hi → bitR u l → sv ≤ k → mi ≤ 500 * k → pre.length = k → lnR hi pre → beR hi n b → (∀ hi', sam hi0 hi' → lnR hi' pre → beR hi' n (pl_go O hm ml m k l sv mi pre b) → Q none hi' (mR hr) cn) → ab_Wm E (d + m + 1) nX8_tries [mO, .inl (nI k), .inl u, .inl (nI sv), .inl (nI mi)] hi (mR hr) cn Q := by
  obtain ⟨p1, p2, p3⟩ := P
  intro m
  induction m with
  | zero =>
    intro k hk d l u sv mi pre hi b Q hs hu hsv hmi hpre hln hbe h
    have hk : k = n := by omega
    subst hk
    refine ab_Wm_of gX8_tries kX8_tries 0 rfl rfl hnb (fun J step drop less => ?_)
    have e44 : hi 9 0 44 = nI k := (hs 9 0 44 (by omega) (by omega) (by omega)).trans p1
    have stay : pl_keep b (sv, mi, pre) = b → ∀ L ck cs, J 33 L [] hi (mR hr) cn ck cs := fun q L ck cs => by
      refine step 33 _ _ _ _ _ _ _ ?_
      dsimp [ab_at, gX8_tries, ab_vc, ab_v1, ab_lk, ab_st, ab_en, ab_cst, ab_mc, ab_mS, ab_tk, ab_ns, mR, mAr, ab_ia, ab_ra, ab_oa, ab_tg, ab_len, ab_uI]
      refine h hi hs hln ?_
      show beR hi k (pl_keep b (sv, mi, pre))
      rw [q]
      exact hbe
    have take : pl_keep b (sv, mi, pre) = some (sv, mi, pre) → J 34 [(0, mO), (1, .inl (nI k)), (2, .inl u), (3, .inl (nI sv)), (4, .inl (nI mi))] [] hi (mR hr) cn 0 0 := fun q => by
      have loop : ∀ mm i, i + mm = k → ∀ hi1, sam hi0 hi1 → lnR hi1 pre → hi1 9 0 45 = nI sv → hi1 9 0 46 = nI mi → (∀ i', i' < i → hi1 71 0 i' = mnn (pre.getD i' none)) → J 48 [(0, mO), (1, .inl (nI k)), (2, .inl u), (3, .inl (nI sv)), (4, .inl (nI mi)), (5, .inl (nI i))] [] hi1 (mR hr) cn 0 0 := by
        intro mm
        induction mm with
        | zero =>
          intro i hik hi1 s1 l1 e45 e46 hb1
          have hik : i = k := by omega
          subst hik
          refine step 48 _ _ _ _ _ _ _ ?_
          dsimp [ab_at, gX8_tries, ab_vc, ab_v1, ab_lk, ab_st, ab_en, ab_cst, ab_mc, ab_mS, ab_tk, ab_ns, mR, mAr, ab_ia, ab_ra, ab_oa, ab_tg, ab_len, ab_uI]
          refine ⟨fun _ => ?_, fun q => absurd (Int32.le_refl _) q⟩
          refine step 74 _ _ _ _ _ _ _ ?_
          dsimp [ab_at, gX8_tries, ab_vc, ab_v1, ab_lk, ab_st, ab_en, ab_cst, ab_mc, ab_mS, ab_tk, ab_ns, mR, mAr, ab_ia, ab_ra, ab_oa, ab_tg, ab_len, ab_uI]
          refine h hi1 s1 l1 ?_
          show beR hi1 i (pl_keep b (sv, mi, pre))
          rw [q]
          exact ⟨e45, e46, by show sv ≤ 4; omega, by show mi ≤ 2000; omega, hpre, hb1⟩
        | succ mm ih =>
          intro i hik hi1 s1 l1 e45 e46 hb1
          have ii : ab_ix (nI i) = i := ab_ix_nI (by omega)
          refine step 48 _ _ _ _ _ _ _ ?_
          dsimp [ab_at, gX8_tries, ab_vc, ab_v1, ab_lk, ab_st, ab_en, ab_cst, ab_mc, ab_mS, ab_tk, ab_ns, mR, mAr, ab_ia, ab_ra, ab_oa, ab_tg, ab_len, ab_uI]
          refine ⟨fun q => absurd ((nI_leI (by omega) (by omega)).mp q) (by omega), fun _ => ⟨ab_inI (by omega) (by omega), ab_inI (by omega) (by omega), ?_⟩⟩
          rw [ii, nI_add]
          refine ih (i + 1) (by omega) (ab_uI hi1 71 0 i (hi1 70 0 i)) (sam_best s1) l1 e45 e46 (fun i' hi' => ?_)
          show (if 71 = 71 then if 0 = 0 then if i' = i then hi1 70 0 i else hi1 71 0 i' else hi1 71 0 i' else hi1 71 0 i') = _
          rw [if_pos rfl, if_pos rfl]
          by_cases e : i' = i
          · rw [if_pos e, e]
            exact l1 i (by omega)
          · rw [if_neg e]
            exact hb1 i' (by omega)
      refine step 34 _ _ _ _ _ _ _ ?_
      dsimp [ab_at, gX8_tries, ab_vc, ab_v1, ab_lk, ab_st, ab_en, ab_cst, ab_mc, ab_mS, ab_tk, ab_ns, mR, mAr, ab_ia, ab_ra, ab_oa, ab_tg, ab_len, ab_uI]
      exact loop k 0 (by omega) (ab_uI (ab_uI hi 9 0 45 (nI sv)) 9 0 46 (nI mi)) (sam_f (sam_f hs (by omega)) (by omega)) hln rfl rfl (fun i' hi' => absurd hi' (by omega))
    refine step 0 _ _ _ _ _ _ _ ?_
    dsimp [ab_at, gX8_tries, ab_vc, ab_v1, ab_lk, ab_st, ab_en, ab_cst, ab_mc, ab_mS, ab_tk, ab_ns, mR, mAr, ab_ia, ab_ra, ab_oa, ab_tg, ab_len, ab_uI]
    rw [e44]
    refine ⟨fun q => absurd rfl q, fun _ => ?_⟩
    rcases b with _ | x
    · have e45 : hi 9 0 45 = -1 := hbe
      rw [e45]
      refine ⟨fun q => absurd q ?_, fun _ => ⟨fun _ => take rfl, fun q => absurd q (mnn_ne (by omega))⟩⟩
      intro q
      have := Int32.lt_of_le_of_lt (nI_pos' (show sv < 2 ^ 31 by omega)) q
      exact absurd this (by decide)
    · obtain ⟨e45, e46, b1, b2, b3, b4⟩ := hbe
      rw [e45, e46]
      refine ⟨fun q => stay ?_ _ _ _, fun q1 => ⟨fun q2 => take ?_, fun q2 => ⟨fun q3 => take ?_, fun q3 => stay ?_ _ _ _⟩⟩⟩
      · have := (nI_ltI (by omega) (by omega)).mp q
        show (if pl_bet (sv, mi, pre) x then some (sv, mi, pre) else some x) = some x
        rw [if_neg]
        rintro (z | z)
        · have : x.1 < sv := z
          omega
        · have : x.1 = sv := z.1
          omega
      · have q1' : ¬ sv < x.1 := fun z => q1 ((nI_ltI (by omega) (by omega)).mpr z)
        have q2' : ¬ sv = x.1 := fun z => q2 (by rw [z])
        show (if pl_bet (sv, mi, pre) x then some (sv, mi, pre) else some x) = some (sv, mi, pre)
        rw [if_pos]
        exact Or.inl (by show x.1 < sv; omega)
      · have q2' := (nI_eq (by omega) (by omega)).mp q2
        have q3' := (nI_ltI (by omega) (by omega)).mp q3
        show (if pl_bet (sv, mi, pre) x then some (sv, mi, pre) else some x) = some (sv, mi, pre)
        rw [if_pos]
        exact Or.inr ⟨q2'.symm, q3'⟩
      · have q2' := (nI_eq (by omega) (by omega)).mp q2
        have q3' : ¬ mi < x.2.1 := fun z => q3 ((nI_ltI (by omega) (by omega)).mpr z)
        show (if pl_bet (sv, mi, pre) x then some (sv, mi, pre) else some x) = some x
        rw [if_neg]
        rintro (z | z)
        · have : x.1 < sv := z
          omega
        · exact q3' z.2
  | succ m ih =>
    intro k hk d l u sv mi pre hi b Q hs hu hsv hmi hpre hln hbe h
    have ik : ab_ix (nI k) = k := ab_ix_nI (by omega)
    obtain ⟨o1, o2⟩ := p2 k (by omega)
    refine ab_Wm_of gX8_tries kX8_tries 0 rfl rfl hnb (fun J step drop less => ?_)
    have e44 : hi 9 0 44 = nI n := (hs 9 0 44 (by omega) (by omega) (by omega)).trans p1
    have loop : ∀ (rest done : List Nat) (i : Nat) (hi1 : ab_I) (b1 : Option pl_X), O k = done ++ rest → i = done.length → sam hi0 hi1 → lnR hi1 pre → beR hi1 n b1 → rest.foldl (fun b v => if l.contains (hm v) = true then b else pl_go O hm ml m (k + 1) (hm v :: l) (sv + 1) (mi + ml k v) (pre ++ [some v]) b) b1 = (O k).foldl (fun b v => if l.contains (hm v) = true then b else pl_go O hm ml m (k + 1) (hm v :: l) (sv + 1) (mi + ml k v) (pre ++ [some v]) b) b → J 78 [(0, mO), (1, .inl (nI k)), (2, .inl u), (3, .inl (nI sv)), (4, .inl (nI mi)), (5, .inl (nI i))] [] hi1 (mR hr) cn 0 0 := by
      intro rest
      induction rest with
      | nil =>
        intro done i hi1 b1 eO ei s1 l1 be1 ef
        have e72 : hi1 72 0 k = nI i := by
          rw [s1 72 0 k (by omega) (by omega) (by omega), o1, eO, ei, List.append_nil]
        have hil : i ≤ 20 := by
          rw [ei]
          rw [eO, List.append_nil] at o2
          exact o2
        refine step 78 _ _ _ _ _ _ _ ?_
        dsimp [ab_at, gX8_tries, ab_vc, ab_v1, ab_lk, ab_st, ab_en, ab_cst, ab_mc, ab_mS, ab_tk, ab_ns, mR, mAr, ab_ia, ab_ra, ab_oa, ab_tg, ab_len, ab_uI]
        rw [ik, e72]
        refine ⟨ab_inI (by omega) (by omega), fun _ => ?_, fun q => absurd (Int32.le_refl _) q⟩
        refine step 185 _ _ _ _ _ _ _ ?_
        dsimp [ab_at, gX8_tries, ab_vc, ab_v1, ab_lk, ab_st, ab_en, ab_cst, ab_mc, ab_mS, ab_tk, ab_ns, mR, mAr, ab_ia, ab_ra, ab_oa, ab_tg, ab_len, ab_uI]
        rw [ik, nI_add]
        refine ⟨ab_inI (by omega) (by omega), ?_⟩
        refine ih (k + 1) (by omega) d l u sv mi (pre ++ [none]) (ab_uI hi1 70 0 k (-1)) b1 _ (sam_line s1) hu (by omega) (by omega) (by rw [List.length_append, hpre]; rfl) (lnR_app l1 hpre none rfl) (beR_line be1) (fun hi' s' l' be' => ?_)
        refine step 203 _ _ _ _ _ _ _ ?_
        dsimp [ab_at, gX8_tries, ab_vc, ab_v1, ab_lk, ab_st, ab_en, ab_cst, ab_mc, ab_mS, ab_tk, ab_ns, mR, mAr, ab_ia, ab_ra, ab_oa, ab_tg, ab_len, ab_uI]
        refine h hi' s' (lnR_un l') ?_
        unfold pl_go
        rw [← ef]
        exact be'
      | cons v rest ihr =>
        intro done i hi1 b1 eO ei s1 l1 be1 ef
        have ev : (O k)[i]? = some v := by
          rw [eO, ei]
          simp
        obtain ⟨v1, v2, v3, v4, v5, w, s, t, w1, w2, w3, w4, w5, w6, w7⟩ := p3 k (by omega) i v ev
        have hlen : (O k).length = i + (rest.length + 1) := by
          rw [eO, ei, List.length_append]
          rfl
        have ii : ab_ix (nI i) = i := ab_ix_nI (by omega)
        have iv : ab_ix (nI v) = v := ab_ix_nI (by omega)
        have iw : ab_ix (nI w) = w := ab_ix_nI (by omega)
        have is' : ab_ix (nI s) = s := ab_ix_nI (by omega)
        have it' : ab_ix (nI t) = t := ab_ix_nI (by omega)
        have ig : ab_ix (nI (hm v)) = hm v := ab_ix_nI (by omega)
        have e72 : hi1 72 0 k = nI (O k).length := by rw [s1 72 0 k (by omega) (by omega) (by omega), o1]
        have e123 : hi1 123 k i = nI v := by rw [s1 123 k i (by omega) (by omega) (by omega), v1]
        have e54 : hi1 54 0 v = nI (hm v) := by rw [s1 54 0 v (by omega) (by omega) (by omega), v3]
        have e69 : hi1 69 0 k = nI w := by rw [s1 69 0 k (by omega) (by omega) (by omega), w4]
        have e45 : hi1 45 0 w = nI s := by rw [s1 45 0 w (by omega) (by omega) (by omega), w5]
        have e35 : hi1 35 0 (hm v) = nI t := by rw [s1 35 0 (hm v) (by omega) (by omega) (by omega), w6]
        have e81 : hi1 81 s t = nI (ml k v) := by rw [s1 81 s t (by omega) (by omega) (by omega), w7]
        have ef2 : rest.foldl (fun b v => if l.contains (hm v) = true then b else pl_go O hm ml m (k + 1) (hm v :: l) (sv + 1) (mi + ml k v) (pre ++ [some v]) b) (if l.contains (hm v) = true then b1 else pl_go O hm ml m (k + 1) (hm v :: l) (sv + 1) (mi + ml k v) (pre ++ [some v]) b1) = (O k).foldl (fun b v => if l.contains (hm v) = true then b else pl_go O hm ml m (k + 1) (hm v :: l) (sv + 1) (mi + ml k v) (pre ++ [some v]) b) b := ef
        have on : ∀ hi2 b2, (if l.contains (hm v) = true then b1 else pl_go O hm ml m (k + 1) (hm v :: l) (sv + 1) (mi + ml k v) (pre ++ [some v]) b1) = b2 → sam hi0 hi2 → lnR hi2 pre → beR hi2 n b2 → J 179 [(0, mO), (1, .inl (nI k)), (2, .inl u), (3, .inl (nI sv)), (4, .inl (nI mi)), (5, .inl (nI i)), (6, .inl (nI v))] [] hi2 (mR hr) cn 0 0 := fun hi2 b2 e2 s2 l2 be2 => by
          refine step 179 _ _ _ _ _ _ _ ?_
          dsimp [ab_at, gX8_tries, ab_vc, ab_v1, ab_lk, ab_st, ab_en, ab_cst, ab_mc, ab_mS, ab_tk, ab_ns, mR, mAr, ab_ia, ab_ra, ab_oa, ab_tg, ab_len, ab_uI]
          rw [nI_add]
          refine drop 78 _ _ _ _ _ _ _ _ ab_dr6 ?_
          refine ihr (done ++ [v]) (i + 1) hi2 b2 ?_ ?_ s2 l2 be2 ?_
          · rw [eO, List.append_assoc]
            rfl
          · rw [List.length_append, ei]
            rfl
          · rw [← e2]
            exact ef2
        refine step 78 _ _ _ _ _ _ _ ?_
        dsimp [ab_at, gX8_tries, ab_vc, ab_v1, ab_lk, ab_st, ab_en, ab_cst, ab_mc, ab_mS, ab_tk, ab_ns, mR, mAr, ab_ia, ab_ra, ab_oa, ab_tg, ab_len, ab_uI]
        rw [ik, ii, e72, e123, iv, e54]
        refine ⟨ab_inI (by omega) (by omega), fun q => absurd ((nI_leI (by omega) (by omega)).mp q) (by omega), fun _ => ⟨ab_inI (by omega) (by omega), ab_inI (by omega) (by omega), ab_inI (by omega) (by omega), fun q => ?_, fun q => ?_⟩⟩
        · have hc : ¬ l.contains (hm v) = true := fun z => q ((tb_shr (by omega)).mpr ((hu (hm v) v4).trans z))
          rw [if_neg hc] at on
          refine step 118 _ _ _ _ _ _ _ ?_
          dsimp [ab_at, gX8_tries, ab_vc, ab_v1, ab_lk, ab_st, ab_en, ab_cst, ab_mc, ab_mS, ab_tk, ab_ns, mR, mAr, ab_ia, ab_ra, ab_oa, ab_tg, ab_len, ab_uI]
          rw [ik, iv, e54, ig, e69, iw, e45, is', e35, it', e81, nI_add, nI_add, nI_add]
          refine ⟨ab_inI (by omega) (by omega), ab_inI (by omega) (by omega), ab_inI (by omega) (by omega), ab_inI (by omega) (by omega), ab_inI (by omega) (by omega), ab_inI (by omega) (by omega), ab_inI (by omega) (by omega), ab_inI (by omega) (by omega), ?_⟩
          refine ih (k + 1) (by omega) d (hm v :: l) _ (sv + 1) (mi + ml k v) (pre ++ [some v]) (ab_uI hi1 70 0 k (nI v)) b1 _ (sam_line s1) (bitR_or hu v4) (by omega) (by omega) (by rw [List.length_append, hpre]; rfl) (lnR_app l1 hpre (some v) rfl) (beR_line be1) (fun hi' s' l' be' => ?_)
          exact on hi' _ rfl s' (lnR_un l') be'
        · have hc : l.contains (hm v) = true := (hu (hm v) v4).symm.trans ((tb_shr (by omega)).mp q)
          rw [if_pos hc] at on
          exact on hi1 _ rfl s1 l1 be1
    refine step 0 _ _ _ _ _ _ _ ?_
    dsimp [ab_at, gX8_tries, ab_vc, ab_v1, ab_lk, ab_st, ab_en, ab_cst, ab_mc, ab_mS, ab_tk, ab_ns, mR, mAr, ab_ia, ab_ra, ab_oa, ab_tg, ab_len, ab_uI]
    rw [e44]
    refine ⟨fun _ => ?_, fun q => absurd ((nI_eq (by omega) (by omega)).mp q) (by omega)⟩
    refine step 75 _ _ _ _ _ _ _ ?_
    dsimp [ab_at, gX8_tries, ab_vc, ab_v1, ab_lk, ab_st, ab_en, ab_cst, ab_mc, ab_mS, ab_tk, ab_ns, mR, mAr, ab_ia, ab_ra, ab_oa, ab_tg, ab_len, ab_uI]
    exact loop (O k) [] 0 hi b rfl rfl hs hln hbe rfl
end MOD8
