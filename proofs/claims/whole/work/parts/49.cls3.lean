theorem ab_if {c : Prop} {i : Decidable c} {a b : Prop} (h : c) (ha : a) : @ite Prop c i a b := by
  rw [if_pos h]
  exact ha
section CLS3
variable {E : ab_E} {d : Nat} {hi : ab_I} {hr : ab_R} {cn : ab_C} {Q : ab_Q}
noncomputable def cFar (hi : ab_I) (a b x : Int32) : ab_I := ab_uI (ab_uI hi 13 (ab_ix a) (ab_ix b) x) 13 (ab_ix b) (ab_ix a) x
theorem c_X7_far (hnb : ab_n E < 2 ^ 31) {a b x : Int32} (h1 : okFar a b x → Q (some (.inl (nI 1))) (cFar hi a b x) (cR hr) cn) (h0 : ¬ okFar a b x → Q (some (.inl (nI 0))) hi (cR hr) cn) : ab_Wm E (d + 3) nX7_far [cO, .inl a, .inl b, .inl x] hi (cR hr) cn Q := by
  refine ab_Wm_of gX7_far kX7_far 2 rfl rfl hnb (fun J step drop less => ?_)
  have r30 : ¬ okFar a b x → ∀ L ck cs, J 30 L [] hi (cR hr) cn ck cs := fun q L ck cs => by
    refine step 30 _ _ _ _ _ _ _ ?_
    dsimp [ab_at, gX7_far, nX7_far, ab_vc, ab_v1, ab_lk, ab_st, ab_en, ab_cst, ab_mc, ab_mS, ab_tk, ab_ns, cR, ab_ia, ab_ra, ab_oa, ab_tg, ab_len, ab_uI, ab_uR]
    exact ⟨Or.inl rfl, h0 q⟩
  refine step 0 _ _ _ _ _ _ _ ?_
  dsimp [ab_at, gX7_far, nX7_far, ab_vc, ab_v1, ab_lk, ab_st, ab_en, ab_cst, ab_mc, ab_mS, ab_tk, ab_ns, cR, ab_ia, ab_ra, ab_oa, ab_tg, ab_len, ab_uI, ab_uR]
  refine c_X7_isTown hnb (fun a1 => ?_) (fun q => ?_)
  · refine step 4 _ _ _ _ _ _ _ ?_
    dsimp [ab_at, gX7_far, nX7_far, ab_vc, ab_v1, ab_lk, ab_st, ab_en, ab_cst, ab_mc, ab_mS, ab_tk, ab_ns, cR, ab_ia, ab_ra, ab_oa, ab_tg, ab_len, ab_uI, ab_uR]
    refine ⟨fun q => absurd q (by decide), fun _ => ?_⟩
    refine c_X7_isTown hnb (fun b1 => ?_) (fun q => ?_)
    · refine step 11 _ _ _ _ _ _ _ ?_
      dsimp [ab_at, gX7_far, nX7_far, ab_vc, ab_v1, ab_lk, ab_st, ab_en, ab_cst, ab_mc, ab_mS, ab_tk, ab_ns, cR, ab_ia, ab_ra, ab_oa, ab_tg, ab_len, ab_uI, ab_uR]
      refine ⟨fun q => absurd q (by decide), fun _ => ⟨fun q => r30 (fun z => z.2.2.1 q) _ _ _, fun ne => ?_⟩⟩
      refine c_X7_within hnb (fun x1 x2 => ?_) (fun q => ?_)
      · refine step 27 _ _ _ _ _ _ _ ?_
        dsimp [ab_at, gX7_far, nX7_far, ab_vc, ab_v1, ab_lk, ab_st, ab_en, ab_cst, ab_mc, ab_mS, ab_tk, ab_ns, cR, ab_ia, ab_ra, ab_oa, ab_tg, ab_len, ab_uI, ab_uR]
        refine ⟨fun _ => ?_, fun q => absurd q (by decide)⟩
        have ia := ab_inK (n := 3) (by omega) a1.1 a1.2
        have ib := ab_inK (n := 3) (by omega) b1.1 b1.2
        refine step 32 _ _ _ _ _ _ _ ?_
        dsimp [ab_at, gX7_far, nX7_far, ab_vc, ab_v1, ab_lk, ab_st, ab_en, ab_cst, ab_mc, ab_mS, ab_tk, ab_ns, cR, ab_ia, ab_ra, ab_oa, ab_tg, ab_len, ab_uI, ab_uR]
        exact ⟨ia, ib, ib, ia, Or.inr rfl, h1 ⟨a1, b1, ne, x1, x2⟩⟩
      · refine step 27 _ _ _ _ _ _ _ ?_
        dsimp [ab_at, gX7_far, nX7_far, ab_vc, ab_v1, ab_lk, ab_st, ab_en, ab_cst, ab_mc, ab_mS, ab_tk, ab_ns, cR, ab_ia, ab_ra, ab_oa, ab_tg, ab_len, ab_uI, ab_uR]
        exact ⟨fun q => absurd rfl q, fun _ => r30 (fun z => q z.2.2.2) _ _ _⟩
    · refine step 11 _ _ _ _ _ _ _ ?_
      dsimp [ab_at, gX7_far, nX7_far, ab_vc, ab_v1, ab_lk, ab_st, ab_en, ab_cst, ab_mc, ab_mS, ab_tk, ab_ns, cR, ab_ia, ab_ra, ab_oa, ab_tg, ab_len, ab_uI, ab_uR]
      exact ⟨fun _ => r30 (fun z => q z.2.1) _ _ _, fun q => absurd rfl q⟩
  · refine step 4 _ _ _ _ _ _ _ ?_
    dsimp [ab_at, gX7_far, nX7_far, ab_vc, ab_v1, ab_lk, ab_st, ab_en, ab_cst, ab_mc, ab_mS, ab_tk, ab_ns, cR, ab_ia, ab_ra, ab_oa, ab_tg, ab_len, ab_uI, ab_uR]
    exact ⟨fun _ => r30 (fun z => q z.1) _ _ _, fun q => absurd rfl q⟩
def cGo (hi : ab_I) (x : Int32) : Int32 := if hi 8 0 8 + x < nI 20000 then hi 8 0 8 + x else nI 20000
theorem c_X7_go (hnb : ab_n E < 2 ^ 31) {x : Int32} (h1 : okIn x 0 1000 → Q (some (.inl (cGo hi x))) (ab_uI hi 8 0 8 (cGo hi x)) (cR hr) cn) (h0 : ¬ okIn x 0 1000 → Q (some (.inl (-1))) hi (cR hr) cn) : ab_Wm E (d + 2) nX7_go [cO, .inl x] hi (cR hr) cn Q := by
  refine ab_Wm_of gX7_go kX7_go 1 rfl rfl hnb (fun J step drop less => ?_)
  refine step 0 _ _ _ _ _ _ _ ?_
  dsimp [ab_at, gX7_go, nX7_go, ab_vc, ab_v1, ab_lk, ab_st, ab_en, ab_cst, ab_mc, ab_mS, ab_tk, ab_ns, cR, ab_ia, ab_ra, ab_oa, ab_tg, ab_len, ab_uI, ab_uR]
  refine c_X7_within hnb (fun a1 a2 => ?_) (fun q => ?_)
  · refine step 8 _ _ _ _ _ _ _ ?_
    dsimp [ab_at, gX7_go, nX7_go, ab_vc, ab_v1, ab_lk, ab_st, ab_en, ab_cst, ab_mc, ab_mS, ab_tk, ab_ns, cR, ab_ia, ab_ra, ab_oa, ab_tg, ab_len, ab_uI, ab_uR]
    refine ⟨fun _ => ?_, fun q => absurd q (by decide)⟩
    refine step 13 _ _ _ _ _ _ _ ?_
    dsimp [ab_at, gX7_go, nX7_go, ab_vc, ab_v1, ab_lk, ab_st, ab_en, ab_cst, ab_mc, ab_mS, ab_tk, ab_ns, cR, ab_ia, ab_ra, ab_oa, ab_tg, ab_len, ab_uI, ab_uR]
    exact h1 ⟨a1, a2⟩
  · refine step 8 _ _ _ _ _ _ _ ?_
    dsimp [ab_at, gX7_go, nX7_go, ab_vc, ab_v1, ab_lk, ab_st, ab_en, ab_cst, ab_mc, ab_mS, ab_tk, ab_ns, cR, ab_ia, ab_ra, ab_oa, ab_tg, ab_len, ab_uI, ab_uR]
    exact ⟨fun q => absurd rfl q, fun _ => h0 q⟩
theorem c_X7_unwish (hnb : ab_n E < 2 ^ 31) {x : Int32} {n : Nat} (hn : n ≤ 200) (C : cL hi (cR hr) cn 2 n (fun j => (6, j))) (h1 : ∀ k, k < n → x = nI k → hi 6 k 3 = nI 0 → Q (some (.inl (nI 1))) (ab_uI hi 6 k 3 (nI 2)) (cR hr) cn) (h0 : (∀ k, k < n → x = nI k → hi 6 k 3 ≠ nI 0) → Q (some (.inl (nI 0))) hi (cR hr) cn) : ab_Wm E (d + 6) nX7_unwish [cO, .inl x] hi (cR hr) cn Q := by
  refine ab_Wm_of gX7_unwish kX7_unwish 2 rfl rfl hnb (fun J step drop less => ?_)
  refine step 0 _ _ _ _ _ _ _ ?_
  dsimp [ab_at, gX7_unwish, nX7_unwish, ab_vc, ab_v1, ab_lk, ab_st, ab_en, ab_cst, ab_mc, ab_mS, ab_tk, ab_ns, cR, ab_ia, ab_ra, ab_oa, ab_tg, ab_len, ab_uI, ab_uR]
  refine c_X7_openWish hnb hn C (fun k hk e q => ?_) (fun q => ?_)
  · refine step 5 _ _ _ _ _ _ _ ?_
    dsimp [ab_at, gX7_unwish, nX7_unwish, ab_vc, ab_v1, ab_lk, ab_st, ab_en, ab_cst, ab_mc, ab_mS, ab_tk, ab_ns, cR, ab_ia, ab_ra, ab_oa, ab_tg, ab_len, ab_uI, ab_uR]
    refine ⟨fun _ => ?_, fun q => (by cases q)⟩
    refine step 12 _ _ _ _ _ _ _ ?_
    dsimp [ab_at, gX7_unwish, nX7_unwish, ab_vc, ab_v1, ab_lk, ab_st, ab_en, ab_cst, ab_mc, ab_mS, ab_tk, ab_ns, cR, ab_ia, ab_ra, ab_oa, ab_tg, ab_len, ab_uI, ab_uR]
    exact ⟨Or.inr rfl, h1 k hk e q⟩
  · refine step 5 _ _ _ _ _ _ _ ?_
    dsimp [ab_at, gX7_unwish, nX7_unwish, ab_vc, ab_v1, ab_lk, ab_st, ab_en, ab_cst, ab_mc, ab_mS, ab_tk, ab_ns, cR, ab_ia, ab_ra, ab_oa, ab_tg, ab_len, ab_uI, ab_uR]
    exact ⟨fun q => absurd rfl q, fun _ => ⟨Or.inl rfl, h0 q⟩⟩
/-- the rules, as the class has them -/
def cRl (hi : ab_I) (n : Nat) : Prop := n ≤ 200 ∧ hi 5 0 0 = -1 ∧ ∀ k, k < n → nI 0 ≤ hi 5 (k + 1) 0
def crul (hi : ab_I) (n : Nat) (day : Int32) : Nat := crx (bR (fun k => hi 5 (k + 1) 0) day n)
theorem c_X7_rank (hnb : ab_n E < 2 ^ 31) {x : Int32} {n nr : Nat} {gh : Nat → Nat} (hn : n ≤ 200) (C : cL hi (cR hr) cn 2 n (fun j => (6, j))) (CR : cL hi (cR hr) cn 3 nr (fun j => (5, j + 1))) (RL : cRl hi nr) (hg : ∀ k, k < n → hr 6 k 1 = some (2, gh k)) (h1 : ∀ k, k < n → x = nI k → hi 6 k 3 = nI 0 → Q (some (.inl (cRank hi (crul hi nr (hi 8 0 8)) k (gh k) (hi 8 0 8)))) hi (cR hr) cn) (h0 : (∀ k, k < n → x = nI k → hi 6 k 3 ≠ nI 0) → Q (some (.inl (-1))) hi (cR hr) cn) : ab_Wm E (d + 6) nX7_rank [cO, .inl x] hi (cR hr) cn Q := by
  refine ab_Wm_of gX7_rank kX7_rank 1 rfl rfl hnb (fun J step drop less => ?_)
  refine step 0 _ _ _ _ _ _ _ ?_
  dsimp [ab_at, gX7_rank, nX7_rank, ab_vc, ab_v1, ab_lk, ab_st, ab_en, ab_cst, ab_mc, ab_mS, ab_tk, ab_ns, cR, ab_ia, ab_ra, ab_oa, ab_tg, ab_len, ab_uI, ab_uR]
  refine c_X7_openWish hnb hn C (fun k hk e q => ?_) (fun q => ?_)
  · refine step 5 _ _ _ _ _ _ _ ?_
    dsimp [ab_at, gX7_rank, nX7_rank, ab_vc, ab_v1, ab_lk, ab_st, ab_en, ab_cst, ab_mc, ab_mS, ab_tk, ab_ns, cR, ab_ia, ab_ra, ab_oa, ab_tg, ab_len, ab_uI, ab_uR]
    refine ⟨fun _ => ?_, fun q => (by cases q)⟩
    refine step 14 _ _ _ _ _ _ _ ?_
    dsimp [ab_at, gX7_rank, nX7_rank, ab_vc, ab_v1, ab_lk, ab_st, ab_en, ab_cst, ab_mc, ab_mS, ab_tk, ab_ns, cR, ab_ia, ab_ra, ab_oa, ab_tg, ab_len, ab_uI, ab_uR]
    refine c_X7_ruleOn hnb RL.1 CR RL.2.1 RL.2.2 ?_
    refine step 23 _ _ _ _ _ _ _ ?_
    dsimp [ab_at, gX7_rank, nX7_rank, ab_vc, ab_v1, ab_lk, ab_st, ab_en, ab_cst, ab_mc, ab_mS, ab_tk, ab_ns, cR, ab_ia, ab_ra, ab_oa, ab_tg, ab_len, ab_uI, ab_uR]
    refine c_X5_rankBy hnb (hg k hk) ?_
    refine step 30 _ _ _ _ _ _ _ ?_
    dsimp [ab_at, gX7_rank, nX7_rank, ab_vc, ab_v1, ab_lk, ab_st, ab_en, ab_cst, ab_mc, ab_mS, ab_tk, ab_ns, cR, ab_ia, ab_ra, ab_oa, ab_tg, ab_len, ab_uI, ab_uR]
    exact h1 k hk e q
  · refine step 5 _ _ _ _ _ _ _ ?_
    dsimp [ab_at, gX7_rank, nX7_rank, ab_vc, ab_v1, ab_lk, ab_st, ab_en, ab_cst, ab_mc, ab_mS, ab_tk, ab_ns, cR, ab_ia, ab_ra, ab_oa, ab_tg, ab_len, ab_uI, ab_uR]
    refine ⟨fun q => absurd rfl q, fun _ => ?_⟩
    refine step 30 _ _ _ _ _ _ _ ?_
    dsimp [ab_at, gX7_rank, nX7_rank, ab_vc, ab_v1, ab_lk, ab_st, ab_en, ab_cst, ab_mc, ab_mS, ab_tk, ab_ns, cR, ab_ia, ab_ra, ab_oa, ab_tg, ab_len, ab_uI, ab_uR]
    exact h0 q
/-- what may be served now, and its rank -/
def cCan (hi : ab_I) (gh gw : Nat → Nat) (W : Option Nat) (k : Nat) : Bool := decide (some (gw k) = W) && (decide (hi 6 k 3 = nI 0) && decide (hi 7 (gw k) 5 = nI 0) && decide (hi 2 (gh k) 4 + hi 7 (gw k) 3 ≤ hi 2 (gh k) 2)) && !decide (hi 6 k 6 = hi 8 0 8)
def wr : Option Nat → Option (Nat × Nat)
  | none => none
  | some w => some (7, w)
def wx : Option Nat → Option (Nat × Nat)
  | none => none
  | some k => some (6, k)
def nxr (r : Nat → Int32) : Option Nat → Int32
  | none => -1
  | some k => r k
theorem c_X7_nextFor (hnb : ab_n E < 2 ^ 31) {W : Option Nat} {n nr : Nat} {gh gw : Nat → Nat} (hn : n ≤ 200) (C : cL hi (cR hr) cn 2 n (fun j => (6, j))) (CR : cL hi (cR hr) cn 3 nr (fun j => (5, j + 1))) (RL : cRl hi nr) (hg : ∀ k, k < n → hr 6 k 1 = some (2, gh k)) (hw : ∀ k, k < n → hr 6 k 2 = some (7, gw k)) (hp : ∀ k, k < n → -1 < cRank hi (crul hi nr (hi 8 0 8)) k (gh k) (hi 8 0 8))
    (h : Q (some (.inr (wx (nxt (cCan hi gh gw W) (fun k => cRank hi (crul hi nr (hi 8 0 8)) k (gh k) (hi 8 0 8)) n)))) hi (cR hr) cn) : ab_Wm E (d + 5) nX7_nextFor [cO, .inr (wr W)] hi (cR hr) cn Q := by
  have hns : ab_ns (wr W) = true := by cases W <;> rfl
  have hwr : ∀ k, some (7, gw k) = wr W ↔ some (gw k) = W := fun k => by
    rcases W with _ | w
    · exact ⟨fun q => (by cases q), fun q => (by cases q)⟩
    · show some (7, gw k) = some (7, w) ↔ _
      simp
  refine ab_Wm_of gX7_nextFor kX7_nextFor 3 rfl rfl hnb (fun J step drop less => ?_)
  refine step 0 _ _ _ _ _ _ _ ?_
  dsimp [ab_at, gX7_nextFor, nX7_nextFor, ab_vc, ab_v1, ab_lk, ab_st, ab_en, ab_cst, ab_mc, ab_mS, ab_tk, ab_ns, cR, ab_ia, ab_ra, ab_oa, ab_tg, ab_len, ab_uI, ab_uR]
  refine c_X7_ruleOn hnb RL.1 CR RL.2.1 RL.2.2 ?_
  have er : crx (bR (fun k => hi 5 (k + 1) 0) (hi 8 0 8) nr) = crul hi nr (hi 8 0 8) := rfl
  rw [er]
  generalize crul hi nr (hi 8 0 8) = r at h hp ⊢
  have loop : ∀ m k, k + m = n → J 17 [(0, cO), (1, .inr (wr W)), (2, .inr (some (5, r))), (3, .inr (wx (nxt (cCan hi gh gw W) (fun k => cRank hi r k (gh k) (hi 8 0 8)) k))), (4, .inl (nxr (fun k => cRank hi r k (gh k) (hi 8 0 8)) (nxt (cCan hi gh gw W) (fun k => cRank hi r k (gh k) (hi 8 0 8)) k))), (5, .inl (nI k))] [] hi (cR hr) cn 0 0 := by
    intro m
    induction m with
    | zero =>
      intro k hk
      have hk : k = n := by omega
      subst hk
      refine step 17 _ _ _ _ _ _ _ ?_
      dsimp [ab_at, gX7_nextFor, nX7_nextFor, ab_vc, ab_v1, ab_lk, ab_st, ab_en, ab_cst, ab_mc, ab_mS, ab_tk, ab_ns, cR, ab_ia, ab_ra, ab_oa, ab_tg, ab_len, ab_uI, ab_uR]
      refine c_AL_size hnb C ?_
      refine step 26 _ _ _ _ _ _ _ ?_
      dsimp [ab_at, gX7_nextFor, nX7_nextFor, ab_vc, ab_v1, ab_lk, ab_st, ab_en, ab_cst, ab_mc, ab_mS, ab_tk, ab_ns, cR, ab_ia, ab_ra, ab_oa, ab_tg, ab_len, ab_uI, ab_uR]
      refine ⟨fun _ => ?_, fun q => absurd (Int32.le_refl _) q⟩
      refine step 104 _ _ _ _ _ _ _ ?_
      dsimp [ab_at, gX7_nextFor, nX7_nextFor, ab_vc, ab_v1, ab_lk, ab_st, ab_en, ab_cst, ab_mc, ab_mS, ab_tk, ab_ns, cR, ab_ia, ab_ra, ab_oa, ab_tg, ab_len, ab_uI, ab_uR]
      exact h
    | succ m ih =>
      intro k hk
      have eg := hg k (by omega)
      have ew := hw k (by omega)
      have ep := hp k (by omega)
      have on : ∀ f z L', nxt (cCan hi gh gw W) (fun k => cRank hi r k (gh k) (hi 8 0 8)) (k + 1) = f → nxr (fun k => cRank hi r k (gh k) (hi 8 0 8)) f = z → J 98 ([(0, cO), (1, .inr (wr W)), (2, .inr (some (5, r))), (3, .inr (wx f)), (4, .inl z), (5, .inl (nI k))] ++ L') [] hi (cR hr) cn 0 0 := fun f z L' hf hz => by
        subst hz hf
        refine drop _ _ _ _ _ _ _ _ _ (List.sublist_append_left _ L') ?_
        refine step 98 _ _ _ _ _ _ _ ?_
        dsimp [ab_at, gX7_nextFor, nX7_nextFor, ab_vc, ab_v1, ab_lk, ab_st, ab_en, ab_cst, ab_mc, ab_mS, ab_tk, ab_ns, cR, ab_ia, ab_ra, ab_oa, ab_tg, ab_len, ab_uI, ab_uR]
        rw [nI_add]
        exact ih (k + 1) (by omega)
      have no : cCan hi gh gw W k = false → ∀ L', J 98 ([(0, cO), (1, .inr (wr W)), (2, .inr (some (5, r))), (3, .inr (wx (nxt (cCan hi gh gw W) (fun k => cRank hi r k (gh k) (hi 8 0 8)) k))), (4, .inl (nxr (fun k => cRank hi r k (gh k) (hi 8 0 8)) (nxt (cCan hi gh gw W) (fun k => cRank hi r k (gh k) (hi 8 0 8)) k))), (5, .inl (nI k))] ++ L') [] hi (cR hr) cn 0 0 := fun q L' => on _ _ L' (nxt_no q) rfl
      refine step 17 _ _ _ _ _ _ _ ?_
      dsimp [ab_at, gX7_nextFor, nX7_nextFor, ab_vc, ab_v1, ab_lk, ab_st, ab_en, ab_cst, ab_mc, ab_mS, ab_tk, ab_ns, cR, ab_ia, ab_ra, ab_oa, ab_tg, ab_len, ab_uI, ab_uR]
      refine c_AL_size hnb C ?_
      refine step 26 _ _ _ _ _ _ _ ?_
      dsimp [ab_at, gX7_nextFor, nX7_nextFor, ab_vc, ab_v1, ab_lk, ab_st, ab_en, ab_cst, ab_mc, ab_mS, ab_tk, ab_ns, cR, ab_ia, ab_ra, ab_oa, ab_tg, ab_len, ab_uI, ab_uR]
      refine ⟨fun q => absurd ((nI_leI (by omega) (by omega)).mp q) (by omega), fun _ => ?_⟩
      refine c_AL_get hnb (by omega) (by omega) C (i := k) (by omega) ?_
      refine step 38 _ _ _ _ _ _ _ ?_
      dsimp [ab_at, gX7_nextFor, nX7_nextFor, ab_vc, ab_v1, ab_lk, ab_st, ab_en, ab_cst, ab_mc, ab_mS, ab_tk, ab_ns, cR, ab_ia, ab_ra, ab_oa, ab_tg, ab_len, ab_uI, ab_uR]
      rw [ew]
      refine ab_if rfl (ab_if hns ?_)
      refine ⟨fun q => no ?_ [_], fun q => ?_⟩
      · unfold cCan
        rw [decide_eq_false (fun z => q ((hwr k).mpr z))]
        rfl
      · have q' := (hwr k).mp q
        refine c_X5_canBeServed hnb eg ew (fun q2 => ?_) (fun q2 => ?_)
        · refine step 57 _ _ _ _ _ _ _ ?_
          dsimp [ab_at, gX7_nextFor, nX7_nextFor, ab_vc, ab_v1, ab_lk, ab_st, ab_en, ab_cst, ab_mc, ab_mS, ab_tk, ab_ns, cR, ab_ia, ab_ra, ab_oa, ab_tg, ab_len, ab_uI, ab_uR]
          refine ⟨fun q => absurd q (by decide), fun _ => ⟨fun q3 => no ?_ [_], fun q3 => ?_⟩⟩
          · unfold cCan
            rw [decide_eq_true q3]
            simp
          · have hc : cCan hi gh gw W k = true := by
              unfold cCan
              rw [decide_eq_true q', decide_eq_true q2.1, decide_eq_true q2.2.1, decide_eq_true q2.2.2, decide_eq_false q3]
              rfl
            refine c_X5_rankBy hnb eg ?_
            refine step 82 _ _ _ _ _ _ _ ?_
            dsimp [ab_at, gX7_nextFor, nX7_nextFor, ab_vc, ab_v1, ab_lk, ab_st, ab_en, ab_cst, ab_mc, ab_mS, ab_tk, ab_ns, cR, ab_ia, ab_ra, ab_oa, ab_tg, ab_len, ab_uI, ab_uR]
            rcases hb : nxt (cCan hi gh gw W) (fun k => cRank hi r k (gh k) (hi 8 0 8)) k with _ | j
            · refine ⟨fun q4 => ?_, fun q4 => ?_⟩
              · exact absurd ep (Int32.not_lt.mpr q4)
              · exact on (some k) _ [_, _] (nxt_first hc hb) rfl
            · refine ⟨fun q4 => ?_, fun q4 => ?_⟩
              · exact on (some j) _ [_, _] (nxt_less hc hb (Int32.not_lt.mpr q4)) rfl
              · exact on (some k) _ [_, _] (nxt_more hc hb (Int32.not_le.mp q4)) rfl
        · refine step 57 _ _ _ _ _ _ _ ?_
          dsimp [ab_at, gX7_nextFor, nX7_nextFor, ab_vc, ab_v1, ab_lk, ab_st, ab_en, ab_cst, ab_mc, ab_mS, ab_tk, ab_ns, cR, ab_ia, ab_ra, ab_oa, ab_tg, ab_len, ab_uI, ab_uR]
          refine ⟨fun _ => no ?_ [_], fun q => absurd rfl q⟩
          unfold cCan
          have : (decide (hi 6 k 3 = nI 0) && decide (hi 7 (gw k) 5 = nI 0) && decide (hi 2 (gh k) 4 + hi 7 (gw k) 3 ≤ hi 2 (gh k) 2)) = false := by
            rw [Bool.eq_false_iff]
            intro z
            rw [Bool.and_eq_true, Bool.and_eq_true, decide_eq_true_eq, decide_eq_true_eq, decide_eq_true_eq] at z
            exact q2 ⟨z.1.1, z.1.2, z.2⟩
          rw [this]
          simp
  refine step 8 _ _ _ _ _ _ _ ?_
  dsimp [ab_at, gX7_nextFor, nX7_nextFor, ab_vc, ab_v1, ab_lk, ab_st, ab_en, ab_cst, ab_mc, ab_mS, ab_tk, ab_ns, cR, ab_ia, ab_ra, ab_oa, ab_tg, ab_len, ab_uI, ab_uR]
  exact loop n 0 (by omega)
theorem c_X7_next (hnb : ab_n E < 2 ^ 31) {x : Int32} {n nr nw : Nat} {gh gw : Nat → Nat} (hn : n ≤ 200) (hnw : nw ≤ 200) (CW : cL hi (cR hr) cn 1 nw (fun j => (7, j))) (C : cL hi (cR hr) cn 2 n (fun j => (6, j))) (CR : cL hi (cR hr) cn 3 nr (fun j => (5, j + 1))) (RL : cRl hi nr) (hnum : ∀ k, k < n → hi 6 k 0 = nI k) (hg : ∀ k, k < n → hr 6 k 1 = some (2, gh k)) (hw : ∀ k, k < n → hr 6 k 2 = some (7, gw k)) (hp : ∀ k, k < n → -1 < cRank hi (crul hi nr (hi 8 0 8)) k (gh k) (hi 8 0 8))
    (h : ∀ W, ((∃ w, w < nw ∧ x = nI w ∧ W = some w) ∨ ((∀ w, w < nw → x ≠ nI w) ∧ W = none)) → Q (some (.inl (mnn (nxt (cCan hi gh gw W) (fun k => cRank hi (crul hi nr (hi 8 0 8)) k (gh k) (hi 8 0 8)) n)))) hi (cR hr) cn) : ab_Wm E (d + 6) nX7_next [cO, .inl x] hi (cR hr) cn Q := by
  refine ab_Wm_of gX7_next kX7_next 1 rfl rfl hnb (fun J step drop less => ?_)
  have go : ∀ W, ((∃ w, w < nw ∧ x = nI w ∧ W = some w) ∨ ((∀ w, w < nw → x ≠ nI w) ∧ W = none)) → J 6 [(0, cO), (1, .inl x)] [.inr (wr W), cO] hi (cR hr) cn 0 0 := fun W hW => by
    have hq := h W hW
    refine step 6 _ _ _ _ _ _ _ ?_
    dsimp [ab_at, gX7_next, nX7_next, ab_vc, ab_v1, ab_lk, ab_st, ab_en, ab_cst, ab_mc, ab_mS, ab_tk, ab_ns, cR, ab_ia, ab_ra, ab_oa, ab_tg, ab_len, ab_uI, ab_uR]
    refine c_X7_nextFor hnb hn C CR RL hg hw hp ?_
    rcases hb : nxt (cCan hi gh gw W) (fun k => cRank hi (crul hi nr (hi 8 0 8)) k (gh k) (hi 8 0 8)) n with _ | k
    · rw [hb] at hq
      refine step 9 _ _ _ _ _ _ _ ?_
      dsimp [ab_at, gX7_next, nX7_next, ab_vc, ab_v1, ab_lk, ab_st, ab_en, ab_cst, ab_mc, ab_mS, ab_tk, ab_ns, cR, ab_ia, ab_ra, ab_oa, ab_tg, ab_len, ab_uI, ab_uR, wx]
      refine ⟨fun q => absurd rfl q, fun _ => ?_⟩
      refine step 22 _ _ _ _ _ _ _ ?_
      dsimp [ab_at, gX7_next, nX7_next, ab_vc, ab_v1, ab_lk, ab_st, ab_en, ab_cst, ab_mc, ab_mS, ab_tk, ab_ns, cR, ab_ia, ab_ra, ab_oa, ab_tg, ab_len, ab_uI, ab_uR]
      exact hq
    · rw [hb] at hq
      refine step 9 _ _ _ _ _ _ _ ?_
      dsimp [ab_at, gX7_next, nX7_next, ab_vc, ab_v1, ab_lk, ab_st, ab_en, ab_cst, ab_mc, ab_mS, ab_tk, ab_ns, cR, ab_ia, ab_ra, ab_oa, ab_tg, ab_len, ab_uI, ab_uR, wx]
      refine ⟨fun _ => ?_, fun q => (by cases q)⟩
      refine step 18 _ _ _ _ _ _ _ ?_
      dsimp [ab_at, gX7_next, nX7_next, ab_vc, ab_v1, ab_lk, ab_st, ab_en, ab_cst, ab_mc, ab_mS, ab_tk, ab_ns, cR, ab_ia, ab_ra, ab_oa, ab_tg, ab_len, ab_uI, ab_uR]
      rw [hnum k (nxt_lt hb).1]
      refine step 22 _ _ _ _ _ _ _ ?_
      dsimp [ab_at, gX7_next, nX7_next, ab_vc, ab_v1, ab_lk, ab_st, ab_en, ab_cst, ab_mc, ab_mS, ab_tk, ab_ns, cR, ab_ia, ab_ra, ab_oa, ab_tg, ab_len, ab_uI, ab_uR]
      exact hq
  refine step 0 _ _ _ _ _ _ _ ?_
  dsimp [ab_at, gX7_next, nX7_next, ab_vc, ab_v1, ab_lk, ab_st, ab_en, ab_cst, ab_mc, ab_mS, ab_tk, ab_ns, cR, ab_ia, ab_ra, ab_oa, ab_tg, ab_len, ab_uI, ab_uR]
  refine c_X7_workOf hnb hnw CW (fun w hw e => ?_) (fun q => ?_)
  · exact go (some w) (Or.inl ⟨w, hw, e, rfl⟩)
  · exact go none (Or.inr ⟨q, rfl⟩)
/-- the next takes -/
def cTake (hi : ab_I) (k w g : Nat) (m t : Int32) : ab_I := cLend (ab_uI (ab_uI hi 8 0 9 (hi 8 0 9 + m)) 6 k 3 (nI 1)) w g (hi 8 0 8) t
theorem c_X7_offer (hnb : ab_n E < 2 ^ 31) {x y : Int32} {n nr nw : Nat} {gh gw st tt : Nat → Nat} (hn : n ≤ 200) (hnw : nw ≤ 200) (CW : cL hi (cR hr) cn 1 nw (fun j => (7, j))) (C : cL hi (cR hr) cn 2 n (fun j => (6, j))) (CR : cL hi (cR hr) cn 3 nr (fun j => (5, j + 1))) (RL : cRl hi nr) (hg : ∀ k, k < n → hr 6 k 1 = some (2, gh k)) (hw : ∀ k, k < n → hr 6 k 2 = some (7, gw k)) (hp : ∀ k, k < n → -1 < cRank hi (crul hi nr (hi 8 0 8)) k (gh k) (hi 8 0 8)) (hs : ∀ k, k < n → st k < 4 ∧ hi 7 (gw k) 6 = nI (st k)) (ht : ∀ k, k < n → tt k < 4 ∧ hi 2 (gh k) 1 = nI (tt k))
    (h1 : ∀ w k, w < nw → x = nI w → nxt (cCan hi gh gw (some w)) (fun k => cRank hi (crul hi nr (hi 8 0 8)) k (gh k) (hi 8 0 8)) n = some k → k < n → y ≠ nI 0 → Q (some (.inl (nI 1))) (cTake hi k (gw k) (gh k) (hi 13 (st k) (tt k)) (hi 5 (crul hi nr (hi 8 0 8)) 4)) (cR (ab_uR hr 7 (gw k) 9 (some (2, gh k)))) cn)
    (h2 : ∀ w k, w < nw → x = nI w → nxt (cCan hi gh gw (some w)) (fun k => cRank hi (crul hi nr (hi 8 0 8)) k (gh k) (hi 8 0 8)) n = some k → k < n → y = nI 0 → Q (some (.inl (nI 1))) (cRefuse hi k (hi 5 (crul hi nr (hi 8 0 8)) 3) (hi 8 0 8)) (cR hr) cn)
    (h0 : (∀ w, w < nw → x = nI w → nxt (cCan hi gh gw (some w)) (fun k => cRank hi (crul hi nr (hi 8 0 8)) k (gh k) (hi 8 0 8)) n = none) → Q (some (.inl (nI 0))) hi (cR hr) cn) : ab_Wm E (d + 6) nX7_offer [cO, .inl x, .inl y] hi (cR hr) cn Q := by
  have nn : nxt (cCan hi gh gw none) (fun k => cRank hi (crul hi nr (hi 8 0 8)) k (gh k) (hi 8 0 8)) n = none := by
    rcases hb : nxt (cCan hi gh gw none) (fun k => cRank hi (crul hi nr (hi 8 0 8)) k (gh k) (hi 8 0 8)) n with _ | k
    · rfl
    · have := (nxt_lt hb).2
      unfold cCan at this
      simp at this
  refine ab_Wm_of gX7_offer kX7_offer 2 rfl rfl hnb (fun J step drop less => ?_)
  refine step 0 _ _ _ _ _ _ _ ?_
  dsimp [ab_at, gX7_offer, nX7_offer, ab_vc, ab_v1, ab_lk, ab_st, ab_en, ab_cst, ab_mc, ab_mS, ab_tk, ab_ns, cR, ab_ia, ab_ra, ab_oa, ab_tg, ab_len, ab_uI, ab_uR]
  refine c_X7_workOf hnb hnw CW (fun w hwl e => ?_) (fun q => ?_)
  · refine step 6 _ _ _ _ _ _ _ ?_
    dsimp [ab_at, gX7_offer, nX7_offer, ab_vc, ab_v1, ab_lk, ab_st, ab_en, ab_cst, ab_mc, ab_mS, ab_tk, ab_ns, cR, ab_ia, ab_ra, ab_oa, ab_tg, ab_len, ab_uI, ab_uR]
    refine c_X7_nextFor (W := some w) hnb hn C CR RL hg hw hp ?_
    rcases hb : nxt (cCan hi gh gw (some w)) (fun k => cRank hi (crul hi nr (hi 8 0 8)) k (gh k) (hi 8 0 8)) n with _ | k
    · refine step 9 _ _ _ _ _ _ _ ?_
      dsimp [ab_at, gX7_offer, nX7_offer, ab_vc, ab_v1, ab_lk, ab_st, ab_en, ab_cst, ab_mc, ab_mS, ab_tk, ab_ns, cR, ab_ia, ab_ra, ab_oa, ab_tg, ab_len, ab_uI, ab_uR, wx]
      refine ⟨fun q => absurd rfl q, fun _ => ⟨Or.inl rfl, h0 fun w' hw' e' => ?_⟩⟩
      have := (nI_eq (by omega) (by omega)).mp (e.symm.trans e')
      subst this
      exact hb
    · have hk := (nxt_lt hb).1
      have eg := hg k hk
      have ew := hw k hk
      have h1' := h1 w k hwl e hb hk
      have h2' := h2 w k hwl e hb hk
      refine step 9 _ _ _ _ _ _ _ ?_
      dsimp [ab_at, gX7_offer, nX7_offer, ab_vc, ab_v1, ab_lk, ab_st, ab_en, ab_cst, ab_mc, ab_mS, ab_tk, ab_ns, cR, ab_ia, ab_ra, ab_oa, ab_tg, ab_len, ab_uI, ab_uR, wx]
      refine ⟨fun _ => ?_, fun q => (by cases q)⟩
      refine step 16 _ _ _ _ _ _ _ ?_
      dsimp [ab_at, gX7_offer, nX7_offer, ab_vc, ab_v1, ab_lk, ab_st, ab_en, ab_cst, ab_mc, ab_mS, ab_tk, ab_ns, cR, ab_ia, ab_ra, ab_oa, ab_tg, ab_len, ab_uI, ab_uR]
      refine ⟨fun q => ?_, fun q => ?_⟩
      · refine step 68 _ _ _ _ _ _ _ ?_
        dsimp [ab_at, gX7_offer, nX7_offer, ab_vc, ab_v1, ab_lk, ab_st, ab_en, ab_cst, ab_mc, ab_mS, ab_tk, ab_ns, cR, ab_ia, ab_ra, ab_oa, ab_tg, ab_len, ab_uI, ab_uR]
        refine c_X7_ruleOn hnb RL.1 CR RL.2.1 RL.2.2 ?_
        refine step 77 _ _ _ _ _ _ _ ?_
        dsimp [ab_at, gX7_offer, nX7_offer, ab_vc, ab_v1, ab_lk, ab_st, ab_en, ab_cst, ab_mc, ab_mS, ab_tk, ab_ns, cR, ab_ia, ab_ra, ab_oa, ab_tg, ab_len, ab_uI, ab_uR]
        refine c_X5_refuse hnb ?_
        refine step 87 _ _ _ _ _ _ _ ?_
        dsimp [ab_at, gX7_offer, nX7_offer, ab_vc, ab_v1, ab_lk, ab_st, ab_en, ab_cst, ab_mc, ab_mS, ab_tk, ab_ns, cR, ab_ia, ab_ra, ab_oa, ab_tg, ab_len, ab_uI, ab_uR]
        exact ⟨Or.inr rfl, h2' q⟩
      · refine c_X7_milesFor hnb eg ew (hs k hk).1 (ht k hk).1 (hs k hk).2 (ht k hk).2 ?_
        refine step 30 _ _ _ _ _ _ _ ?_
        dsimp [ab_at, gX7_offer, nX7_offer, ab_vc, ab_v1, ab_lk, ab_st, ab_en, ab_cst, ab_mc, ab_mS, ab_tk, ab_ns, cR, ab_ia, ab_ra, ab_oa, ab_tg, ab_len, ab_uI, ab_uR]
        rw [ew, eg]
        refine c_X7_ruleOn (n := nr) hnb RL.1 CR RL.2.1 RL.2.2 ?_
        refine step 59 _ _ _ _ _ _ _ ?_
        dsimp [ab_at, gX7_offer, nX7_offer, ab_vc, ab_v1, ab_lk, ab_st, ab_en, ab_cst, ab_mc, ab_mS, ab_tk, ab_ns, cR, ab_ia, ab_ra, ab_oa, ab_tg, ab_len, ab_uI, ab_uR]
        refine c_X6_lendTo hnb ?_
        refine step 65 _ _ _ _ _ _ _ ?_
        dsimp [ab_at, gX7_offer, nX7_offer, ab_vc, ab_v1, ab_lk, ab_st, ab_en, ab_cst, ab_mc, ab_mS, ab_tk, ab_ns, cR, ab_ia, ab_ra, ab_oa, ab_tg, ab_len, ab_uI, ab_uR]
        refine step 87 _ _ _ _ _ _ _ ?_
        dsimp [ab_at, gX7_offer, nX7_offer, ab_vc, ab_v1, ab_lk, ab_st, ab_en, ab_cst, ab_mc, ab_mS, ab_tk, ab_ns, cR, ab_ia, ab_ra, ab_oa, ab_tg, ab_len, ab_uI, ab_uR]
        rw [cR_uR rfl]
        exact ⟨Or.inr rfl, h1' q⟩
  · refine step 6 _ _ _ _ _ _ _ ?_
    dsimp [ab_at, gX7_offer, nX7_offer, ab_vc, ab_v1, ab_lk, ab_st, ab_en, ab_cst, ab_mc, ab_mS, ab_tk, ab_ns, cR, ab_ia, ab_ra, ab_oa, ab_tg, ab_len, ab_uI, ab_uR]
    refine c_X7_nextFor (W := none) hnb hn C CR RL hg hw hp ?_
    rw [nn]
    refine step 9 _ _ _ _ _ _ _ ?_
    dsimp [ab_at, gX7_offer, nX7_offer, ab_vc, ab_v1, ab_lk, ab_st, ab_en, ab_cst, ab_mc, ab_mS, ab_tk, ab_ns, cR, ab_ia, ab_ra, ab_oa, ab_tg, ab_len, ab_uI, ab_uR, wx]
    exact ⟨fun q => absurd rfl q, fun _ => ⟨Or.inl rfl, h0 fun w hw' e => absurd e (q w hw')⟩⟩
end CLS3
