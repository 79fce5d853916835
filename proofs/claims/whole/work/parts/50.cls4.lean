section CLS4
variable {E : ab_E} {d : Nat} {hi : ab_I} {hr : ab_R} {cn : ab_C} {Q : ab_Q}
/-- the rent is charged -/
def cChg (hi : ab_I) (w g a r2 : Nat) (rent : Int32) : ab_I := ab_uI (ab_uI (ab_uI (ab_uI (ab_uI hi 11 w g (hi 11 w g + rent)) 2 g 7 (hi 2 g 7 + rent)) 2 g 6 (hi 2 g 6 + rent)) 8 0 10 (hi 8 0 10 + rent)) 10 0 a (hi 10 0 a + rent * hi 5 r2 6 / nI 100)
theorem c_X7_chargeRent (hnb : ab_n E < 2 ^ 31) {w g a nr : Nat} (CR : cL hi (cR hr) cn 3 nr (fun j => (5, j + 1))) (RL : cRl hi nr) (hg : g < 20) (eg : hi 2 g 0 = nI g) (ha : a < 10) (ea : hi 7 w 1 = nI a)
    (h : Q (some (.inl (cRent hi w (crul hi nr (hi 7 w 10)) (hi 8 0 8)))) (cChg hi w g a (crul hi nr (hi 8 0 8)) (cRent hi w (crul hi nr (hi 7 w 10)) (hi 8 0 8))) (cR hr) cn) : ab_Wm E (d + 5) nX7_chargeRent [cO, .inr (some (7, w)), .inr (some (2, g))] hi (cR hr) cn Q := by
  have ig : ab_ix (nI g) = g := ab_ix_nI (by omega)
  have ia : ab_ix (nI a) = a := ab_ix_nI (by omega)
  unfold cChg at h
  refine ab_Wm_of gX7_chargeRent kX7_chargeRent 1 rfl rfl hnb (fun J step drop less => ?_)
  refine step 0 _ _ _ _ _ _ _ ?_
  dsimp [ab_at, gX7_chargeRent, nX7_chargeRent, ab_vc, ab_v1, ab_lk, ab_st, ab_en, ab_cst, ab_mc, ab_mS, ab_tk, ab_ns, cR, ab_ia, ab_ra, ab_oa, ab_tg, ab_len, ab_uI, ab_uR]
  refine c_X7_ruleOn hnb RL.1 CR RL.2.1 RL.2.2 ?_
  refine step 9 _ _ _ _ _ _ _ ?_
  dsimp [ab_at, gX7_chargeRent, nX7_chargeRent, ab_vc, ab_v1, ab_lk, ab_st, ab_en, ab_cst, ab_mc, ab_mS, ab_tk, ab_ns, cR, ab_ia, ab_ra, ab_oa, ab_tg, ab_len, ab_uI, ab_uR]
  refine c_X6_rentBy hnb ?_
  have er : crx (bR (fun k => hi 5 (k + 1) 0) (hi 7 w 10) nr) = crul hi nr (hi 7 w 10) := rfl
  rw [er]
  generalize cRent hi w (crul hi nr (hi 7 w 10)) (hi 8 0 8) = rent at h ⊢
  refine step 16 _ _ _ _ _ _ _ ?_
  dsimp [ab_at, gX7_chargeRent, nX7_chargeRent, ab_vc, ab_v1, ab_lk, ab_st, ab_en, ab_cst, ab_mc, ab_mS, ab_tk, ab_ns, cR, ab_ia, ab_ra, ab_oa, ab_tg, ab_len, ab_uI, ab_uR]
  rw [eg, ea, ig, ia]
  simp only [↓reduceIte]
  refine ⟨ab_inI hg (by omega), ab_inI hg (by omega), ab_inI ha (by omega), ?_⟩
  refine c_X7_ruleOn (n := nr) hnb RL.1 CR RL.2.1 RL.2.2 ?_
  refine step 79 _ _ _ _ _ _ _ ?_
  dsimp [ab_at, gX7_chargeRent, nX7_chargeRent, ab_vc, ab_v1, ab_lk, ab_st, ab_en, ab_cst, ab_mc, ab_mS, ab_tk, ab_ns, cR, ab_ia, ab_ra, ab_oa, ab_tg, ab_len, ab_uI, ab_uR]
  rw [ia]
  refine ⟨by decide, ab_inI ha (by omega), ?_⟩
  exact h
/-- the open wishes for a work go -/
def cGive (hi : ab_I) (gw : Nat → Nat) (w : Nat) : Nat → ab_I
  | 0 => hi
  | k + 1 => if gw k = w ∧ hi 6 k 3 = nI 0 then ab_uI (cGive hi gw w k) 6 k 3 (nI 2) else cGive hi gw w k
theorem cGive_ne {gw : Nat → Nat} {w K i j : Nat} (h : ¬ (K = 6 ∧ j = 3)) : ∀ k, cGive hi gw w k K i j = hi K i j
  | 0 => rfl
  | k + 1 => by
    unfold cGive
    split
    · have e : ab_uI (cGive hi gw w k) 6 k 3 (nI 2) K i j = cGive hi gw w k K i j := by
        by_cases z : K = 6
        · exact ab_uI_j fun y => h ⟨z, y⟩
        · exact ab_uI_k z
      rw [e]
      exact cGive_ne h k
    · exact cGive_ne h k
theorem cGive_at {gw : Nat → Nat} {w i : Nat} : ∀ k, cGive hi gw w k 6 i 3 = if i < k ∧ gw i = w ∧ hi 6 i 3 = nI 0 then nI 2 else hi 6 i 3
  | 0 => by
    rw [if_neg (fun z => absurd z.1 (by omega))]
    rfl
  | k + 1 => by
    unfold cGive
    by_cases e : i = k
    · subst e
      by_cases q : gw i = w ∧ hi 6 i 3 = nI 0
      · rw [if_pos q, if_pos ⟨by omega, q⟩]
        exact ab_uI_e
      · rw [if_neg q, if_neg (fun z => q z.2), cGive_at i, if_neg (fun z => absurd z.1 (by omega))]
    · have e2 : (if gw k = w ∧ hi 6 k 3 = nI 0 then ab_uI (cGive hi gw w k) 6 k 3 (nI 2) else cGive hi gw w k) 6 i 3 = cGive hi gw w k 6 i 3 := by
        split
        · exact ab_uI_i e
        · rfl
      rw [e2, cGive_at k]
      by_cases q : i < k
      · simp only [q, show i < k + 1 by omega]
      · rw [if_neg (fun z => q z.1), if_neg (fun z => q (by omega))]
theorem c_X7_giveUp (hnb : ab_n E < 2 ^ 31) {w g n : Nat} {gw : Nat → Nat} {st : Int32} (hn : n ≤ 200) (C : cL hi (cR hr) cn 2 n (fun j => (6, j))) (e : hr 7 w 9 = some (2, g)) (hw : ∀ k, k < n → hr 6 k 2 = some (7, gw k)) (h : Q none (cGive (cLeave hi w g st) gw w n) (cR hr) cn) : ab_Wm E (d + 4) nX7_giveUp [cO, .inr (some (7, w)), .inl st] hi (cR hr) cn Q := by
  have C1 : cL (cLeave hi w g st) (cR hr) cn 2 n (fun j => (6, j)) := C
  refine ab_Wm_of gX7_giveUp kX7_giveUp 0 rfl rfl hnb (fun J step drop less => ?_)
  refine step 0 _ _ _ _ _ _ _ ?_
  dsimp [ab_at, gX7_giveUp, nX7_giveUp, ab_vc, ab_v1, ab_lk, ab_st, ab_en, ab_cst, ab_mc, ab_mS, ab_tk, ab_ns, cR, ab_ia, ab_ra, ab_oa, ab_tg, ab_len, ab_uI, ab_uR]
  refine c_X6_leaveHome hnb e ?_
  generalize cLeave hi w g st = hi1 at h C1 ⊢
  have loop : ∀ m k, k + m = n → J 7 [(0, cO), (1, .inr (some (7, w))), (2, .inl st), (3, .inl (nI k))] [] (cGive hi1 gw w k) (cR hr) cn 0 0 := by
    intro m
    induction m with
    | zero =>
      intro k hk
      have hk : k = n := by omega
      subst hk
      have C2 : cL (cGive hi1 gw w k) (cR hr) cn 2 k (fun j => (6, j)) := ⟨(cGive_ne (by omega) k).trans C1.1, C1.2⟩
      refine step 7 _ _ _ _ _ _ _ ?_
      dsimp [ab_at, gX7_giveUp, nX7_giveUp, ab_vc, ab_v1, ab_lk, ab_st, ab_en, ab_cst, ab_mc, ab_mS, ab_tk, ab_ns, cR, ab_ia, ab_ra, ab_oa, ab_tg, ab_len, ab_uI, ab_uR]
      refine c_AL_size hnb C2 ?_
      refine step 15 _ _ _ _ _ _ _ ?_
      dsimp [ab_at, gX7_giveUp, nX7_giveUp, ab_vc, ab_v1, ab_lk, ab_st, ab_en, ab_cst, ab_mc, ab_mS, ab_tk, ab_ns, cR, ab_ia, ab_ra, ab_oa, ab_tg, ab_len, ab_uI, ab_uR]
      refine ⟨fun _ => ?_, fun q => absurd (Int32.le_refl _) q⟩
      refine step 60 _ _ _ _ _ _ _ ?_
      dsimp [ab_at, gX7_giveUp, nX7_giveUp, ab_vc, ab_v1, ab_lk, ab_st, ab_en, ab_cst, ab_mc, ab_mS, ab_tk, ab_ns, cR, ab_ia, ab_ra, ab_oa, ab_tg, ab_len, ab_uI, ab_uR]
      exact h
    | succ m ih =>
      intro k hk
      have C2 : cL (cGive hi1 gw w k) (cR hr) cn 2 n (fun j => (6, j)) := ⟨(cGive_ne (by omega) k).trans C1.1, C1.2⟩
      have on : ∀ hi2 v, cGive hi1 gw w (k + 1) = hi2 → J 54 [(0, cO), (1, .inr (some (7, w))), (2, .inl st), (3, .inl (nI k)), (4, v)] [] hi2 (cR hr) cn 0 0 := fun hi2 v he => by
        subst he
        refine step 54 _ _ _ _ _ _ _ ?_
        dsimp [ab_at, gX7_giveUp, nX7_giveUp, ab_vc, ab_v1, ab_lk, ab_st, ab_en, ab_cst, ab_mc, ab_mS, ab_tk, ab_ns, cR, ab_ia, ab_ra, ab_oa, ab_tg, ab_len, ab_uI, ab_uR]
        rw [nI_add]
        exact drop _ _ _ _ _ _ _ _ _ ab_dr4 (ih (k + 1) (by omega))
      have e3 : cGive hi1 gw w k 6 k 3 = hi1 6 k 3 := by
        rw [cGive_at, if_neg (fun z => absurd z.1 (by omega))]
      refine step 7 _ _ _ _ _ _ _ ?_
      dsimp [ab_at, gX7_giveUp, nX7_giveUp, ab_vc, ab_v1, ab_lk, ab_st, ab_en, ab_cst, ab_mc, ab_mS, ab_tk, ab_ns, cR, ab_ia, ab_ra, ab_oa, ab_tg, ab_len, ab_uI, ab_uR]
      refine c_AL_size hnb C2 ?_
      refine step 15 _ _ _ _ _ _ _ ?_
      dsimp [ab_at, gX7_giveUp, nX7_giveUp, ab_vc, ab_v1, ab_lk, ab_st, ab_en, ab_cst, ab_mc, ab_mS, ab_tk, ab_ns, cR, ab_ia, ab_ra, ab_oa, ab_tg, ab_len, ab_uI, ab_uR]
      refine ⟨fun q => absurd ((nI_leI (by omega) (by omega)).mp q) (by omega), fun _ => ?_⟩
      refine c_AL_get hnb (by omega) (by omega) C2 (i := k) (by omega) ?_
      refine step 26 _ _ _ _ _ _ _ ?_
      dsimp [ab_at, gX7_giveUp, nX7_giveUp, ab_vc, ab_v1, ab_lk, ab_st, ab_en, ab_cst, ab_mc, ab_mS, ab_tk, ab_ns, cR, ab_ia, ab_ra, ab_oa, ab_tg, ab_len, ab_uI, ab_uR]
      rw [hw k (by omega), e3]
      refine ab_if rfl ⟨fun q => on _ _ ?_, fun q => ⟨fun q2 => on _ _ ?_, fun q2 => on _ _ ?_⟩⟩
      · show (if _ then _ else _) = _
        rw [if_neg]
        intro z
        exact q (by rw [z.1])
      · show (if _ then _ else _) = _
        rw [if_neg fun z => q2 z.2]
      · show (if _ then _ else _) = _
        rw [if_pos ⟨by cases q; rfl, q2⟩]
  refine step 5 _ _ _ _ _ _ _ ?_
  dsimp [ab_at, gX7_giveUp, nX7_giveUp, ab_vc, ab_v1, ab_lk, ab_st, ab_en, ab_cst, ab_mc, ab_mS, ab_tk, ab_ns, cR, ab_ia, ab_ra, ab_oa, ab_tg, ab_len, ab_uI, ab_uR]
  exact loop n 0 (by omega)
theorem c_X7_back (hnb : ab_n E < 2 ^ 31) {x : Int32} {nr nw : Nat} {ho ar : Nat → Nat} (hnw : nw ≤ 200) (CW : cL hi (cR hr) cn 1 nw (fun j => (7, j))) (CR : cL hi (cR hr) cn 3 nr (fun j => (5, j + 1))) (RL : cRl hi nr) (hh : ∀ w, w < nw → hi 7 w 5 = nI 1 → hr 7 w 9 = some (2, ho w) ∧ ho w < 20 ∧ hi 2 (ho w) 0 = nI (ho w)) (ha : ∀ w, w < nw → ar w < 10 ∧ hi 7 w 1 = nI (ar w))
    (h1 : ∀ w, w < nw → x = nI w → hi 7 w 5 = nI 1 → Q (some (.inl (cRent hi w (crul hi nr (hi 7 w 10)) (hi 8 0 8)))) (cBack (cChg hi w (ho w) (ar w) (crul hi nr (hi 8 0 8)) (cRent hi w (crul hi nr (hi 7 w 10)) (hi 8 0 8))) w (ho w) (hi 8 0 8)) (cR (ab_uR hr 7 w 9 none)) cn)
    (h0 : (∀ w, w < nw → x = nI w → hi 7 w 5 ≠ nI 1) → Q (some (.inl (-1))) hi (cR hr) cn) : ab_Wm E (d + 6) nX7_back [cO, .inl x] hi (cR hr) cn Q := by
  refine ab_Wm_of gX7_back kX7_back 1 rfl rfl hnb (fun J step drop less => ?_)
  refine step 0 _ _ _ _ _ _ _ ?_
  dsimp [ab_at, gX7_back, nX7_back, ab_vc, ab_v1, ab_lk, ab_st, ab_en, ab_cst, ab_mc, ab_mS, ab_tk, ab_ns, cR, ab_ia, ab_ra, ab_oa, ab_tg, ab_len, ab_uI, ab_uR]
  refine c_X7_lentWork hnb hnw CW (fun w hw e => by rw [(hh w hw e).1]; exact fun z => (by cases z)) (fun w hw e q => ?_) (fun q => ?_)
  · obtain ⟨e9, hg, eg⟩ := hh w hw q
    obtain ⟨ha1, ea⟩ := ha w hw
    have hq := h1 w hw e q
    refine step 5 _ _ _ _ _ _ _ ?_
    dsimp [ab_at, gX7_back, nX7_back, ab_vc, ab_v1, ab_lk, ab_st, ab_en, ab_cst, ab_mc, ab_mS, ab_tk, ab_ns, cR, ab_ia, ab_ra, ab_oa, ab_tg, ab_len, ab_uI, ab_uR]
    refine ⟨fun _ => ?_, fun q => (by cases q)⟩
    refine step 12 _ _ _ _ _ _ _ ?_
    dsimp [ab_at, gX7_back, nX7_back, ab_vc, ab_v1, ab_lk, ab_st, ab_en, ab_cst, ab_mc, ab_mS, ab_tk, ab_ns, cR, ab_ia, ab_ra, ab_oa, ab_tg, ab_len, ab_uI, ab_uR]
    rw [e9]
    refine c_X7_chargeRent hnb CR RL hg eg ha1 ea ?_
    refine step 21 _ _ _ _ _ _ _ ?_
    dsimp [ab_at, gX7_back, nX7_back, ab_vc, ab_v1, ab_lk, ab_st, ab_en, ab_cst, ab_mc, ab_mS, ab_tk, ab_ns, cR, ab_ia, ab_ra, ab_oa, ab_tg, ab_len, ab_uI, ab_uR]
    have e8 : cChg hi w (ho w) (ar w) (crul hi nr (hi 8 0 8)) (cRent hi w (crul hi nr (hi 7 w 10)) (hi 8 0 8)) 8 0 8 = hi 8 0 8 := rfl
    rw [e8]
    refine c_X6_comeBack hnb e9 ?_
    refine step 30 _ _ _ _ _ _ _ ?_
    dsimp [ab_at, gX7_back, nX7_back, ab_vc, ab_v1, ab_lk, ab_st, ab_en, ab_cst, ab_mc, ab_mS, ab_tk, ab_ns, cR, ab_ia, ab_ra, ab_oa, ab_tg, ab_len, ab_uI, ab_uR]
    rw [cR_uR rfl]
    exact hq
  · refine step 5 _ _ _ _ _ _ _ ?_
    dsimp [ab_at, gX7_back, nX7_back, ab_vc, ab_v1, ab_lk, ab_st, ab_en, ab_cst, ab_mc, ab_mS, ab_tk, ab_ns, cR, ab_ia, ab_ra, ab_oa, ab_tg, ab_len, ab_uI, ab_uR]
    exact ⟨fun q => absurd rfl q, fun _ => h0 q⟩
def cSell (hi : ab_I) (w g : Nat) : ab_I := ab_uI (ab_uI hi 2 g 6 (hi 2 g 6 + cPrice hi w g)) 8 0 11 (hi 8 0 11 + cPrice hi w g)
def cLose (hi : ab_I) (w g : Nat) : ab_I := ab_uI hi 2 g 6 (hi 2 g 6 + hi 7 w 2)
theorem c_X7_sell (hnb : ab_n E < 2 ^ 31) {x : Int32} {n nr nw : Nat} {ho ar gw : Nat → Nat} (hn : n ≤ 200) (hnw : nw ≤ 200) (CW : cL hi (cR hr) cn 1 nw (fun j => (7, j))) (C : cL hi (cR hr) cn 2 n (fun j => (6, j))) (CR : cL hi (cR hr) cn 3 nr (fun j => (5, j + 1))) (RL : cRl hi nr) (hw6 : ∀ k, k < n → hr 6 k 2 = some (7, gw k)) (hh : ∀ w, w < nw → hi 7 w 5 = nI 1 → hr 7 w 9 = some (2, ho w) ∧ ho w < 20 ∧ hi 2 (ho w) 0 = nI (ho w)) (ha : ∀ w, w < nw → ar w < 10 ∧ hi 7 w 1 = nI (ar w))
    (h1 : ∀ w hi1, w < nw → x = nI w → hi 7 w 5 = nI 1 → hi1 = cChg hi w (ho w) (ar w) (crul hi nr (hi 8 0 8)) (cRent hi w (crul hi nr (hi 7 w 10)) (hi 8 0 8)) → Q (some (.inl (cPrice hi1 w (ho w)))) (cGive (cLeave (cSell hi1 w (ho w)) w (ho w) (nI 2)) gw w n) (cR hr) cn)
    (h0 : (∀ w, w < nw → x = nI w → hi 7 w 5 ≠ nI 1) → Q (some (.inl (-1))) hi (cR hr) cn) : ab_Wm E (d + 6) nX7_sell [cO, .inl x] hi (cR hr) cn Q := by
  refine ab_Wm_of gX7_sell kX7_sell 1 rfl rfl hnb (fun J step drop less => ?_)
  refine step 0 _ _ _ _ _ _ _ ?_
  dsimp [ab_at, gX7_sell, nX7_sell, ab_vc, ab_v1, ab_lk, ab_st, ab_en, ab_cst, ab_mc, ab_mS, ab_tk, ab_ns, cR, ab_ia, ab_ra, ab_oa, ab_tg, ab_len, ab_uI, ab_uR]
  refine c_X7_lentWork hnb hnw CW (fun w hw e => by rw [(hh w hw e).1]; exact fun z => (by cases z)) (fun w hw e q => ?_) (fun q => ?_)
  · obtain ⟨e9, hg, eg⟩ := hh w hw q
    obtain ⟨ha1, ea⟩ := ha w hw
    have hq := h1 w _ hw e q rfl
    refine step 5 _ _ _ _ _ _ _ ?_
    dsimp [ab_at, gX7_sell, nX7_sell, ab_vc, ab_v1, ab_lk, ab_st, ab_en, ab_cst, ab_mc, ab_mS, ab_tk, ab_ns, cR, ab_ia, ab_ra, ab_oa, ab_tg, ab_len, ab_uI, ab_uR]
    refine ⟨fun _ => ?_, fun q => (by cases q)⟩
    refine step 12 _ _ _ _ _ _ _ ?_
    dsimp [ab_at, gX7_sell, nX7_sell, ab_vc, ab_v1, ab_lk, ab_st, ab_en, ab_cst, ab_mc, ab_mS, ab_tk, ab_ns, cR, ab_ia, ab_ra, ab_oa, ab_tg, ab_len, ab_uI, ab_uR]
    rw [e9]
    refine c_X7_chargeRent hnb CR RL hg eg ha1 ea ?_
    have eg1 : cChg hi w (ho w) (ar w) (crul hi nr (hi 8 0 8)) (cRent hi w (crul hi nr (hi 7 w 10)) (hi 8 0 8)) 2 (ho w) 0 = nI (ho w) := by
      unfold cChg
      rw [ab_uI_k (by omega), ab_uI_k (by omega), ab_uI_j (by omega), ab_uI_j (by omega), ab_uI_k (by omega)]
      exact eg
    have C1 : cL (cChg hi w (ho w) (ar w) (crul hi nr (hi 8 0 8)) (cRent hi w (crul hi nr (hi 7 w 10)) (hi 8 0 8))) (cR hr) cn 2 n (fun j => (6, j)) := C
    generalize cChg hi w (ho w) (ar w) (crul hi nr (hi 8 0 8)) (cRent hi w (crul hi nr (hi 7 w 10)) (hi 8 0 8)) = hi1 at hq eg1 C1 ⊢
    generalize cRent hi w (crul hi nr (hi 7 w 10)) (hi 8 0 8) = rent
    refine step 23 _ _ _ _ _ _ _ ?_
    dsimp [ab_at, gX7_sell, nX7_sell, ab_vc, ab_v1, ab_lk, ab_st, ab_en, ab_cst, ab_mc, ab_mS, ab_tk, ab_ns, cR, ab_ia, ab_ra, ab_oa, ab_tg, ab_len, ab_uI, ab_uR]
    refine c_X6_priceFor hnb hg eg1 ?_
    unfold cSell at hq
    generalize cPrice hi1 w (ho w) = p at hq ⊢
    refine step 29 _ _ _ _ _ _ _ ?_
    dsimp [ab_at, gX7_sell, nX7_sell, ab_vc, ab_v1, ab_lk, ab_st, ab_en, ab_cst, ab_mc, ab_mS, ab_tk, ab_ns, cR, ab_ia, ab_ra, ab_oa, ab_tg, ab_len, ab_uI, ab_uR]
    refine c_X7_giveUp (n := n) hnb hn C1 e9 hw6 ?_
    refine step 59 _ _ _ _ _ _ _ ?_
    dsimp [ab_at, gX7_sell, nX7_sell, ab_vc, ab_v1, ab_lk, ab_st, ab_en, ab_cst, ab_mc, ab_mS, ab_tk, ab_ns, cR, ab_ia, ab_ra, ab_oa, ab_tg, ab_len, ab_uI, ab_uR]
    exact hq
  · refine step 5 _ _ _ _ _ _ _ ?_
    dsimp [ab_at, gX7_sell, nX7_sell, ab_vc, ab_v1, ab_lk, ab_st, ab_en, ab_cst, ab_mc, ab_mS, ab_tk, ab_ns, cR, ab_ia, ab_ra, ab_oa, ab_tg, ab_len, ab_uI, ab_uR]
    exact ⟨fun q => absurd rfl q, fun _ => h0 q⟩
theorem c_X7_lose (hnb : ab_n E < 2 ^ 31) {x : Int32} {n nr nw : Nat} {ho ar gw : Nat → Nat} (hn : n ≤ 200) (hnw : nw ≤ 200) (CW : cL hi (cR hr) cn 1 nw (fun j => (7, j))) (C : cL hi (cR hr) cn 2 n (fun j => (6, j))) (CR : cL hi (cR hr) cn 3 nr (fun j => (5, j + 1))) (RL : cRl hi nr) (hw6 : ∀ k, k < n → hr 6 k 2 = some (7, gw k)) (hh : ∀ w, w < nw → hi 7 w 5 = nI 1 → hr 7 w 9 = some (2, ho w) ∧ ho w < 20 ∧ hi 2 (ho w) 0 = nI (ho w)) (ha : ∀ w, w < nw → ar w < 10 ∧ hi 7 w 1 = nI (ar w))
    (h1 : ∀ w hi1, w < nw → x = nI w → hi 7 w 5 = nI 1 → hi1 = cChg hi w (ho w) (ar w) (crul hi nr (hi 8 0 8)) (cRent hi w (crul hi nr (hi 7 w 10)) (hi 8 0 8)) → Q (some (.inl (nI 1))) (cGive (cLeave (cLose hi1 w (ho w)) w (ho w) (nI 3)) gw w n) (cR hr) cn)
    (h0 : (∀ w, w < nw → x = nI w → hi 7 w 5 ≠ nI 1) → Q (some (.inl (nI 0))) hi (cR hr) cn) : ab_Wm E (d + 6) nX7_lose [cO, .inl x] hi (cR hr) cn Q := by
  refine ab_Wm_of gX7_lose kX7_lose 2 rfl rfl hnb (fun J step drop less => ?_)
  refine step 0 _ _ _ _ _ _ _ ?_
  dsimp [ab_at, gX7_lose, nX7_lose, ab_vc, ab_v1, ab_lk, ab_st, ab_en, ab_cst, ab_mc, ab_mS, ab_tk, ab_ns, cR, ab_ia, ab_ra, ab_oa, ab_tg, ab_len, ab_uI, ab_uR]
  refine c_X7_lentWork hnb hnw CW (fun w hw e => by rw [(hh w hw e).1]; exact fun z => (by cases z)) (fun w hw e q => ?_) (fun q => ?_)
  · obtain ⟨e9, hg, eg⟩ := hh w hw q
    obtain ⟨ha1, ea⟩ := ha w hw
    have hq := h1 w _ hw e q rfl
    refine step 5 _ _ _ _ _ _ _ ?_
    dsimp [ab_at, gX7_lose, nX7_lose, ab_vc, ab_v1, ab_lk, ab_st, ab_en, ab_cst, ab_mc, ab_mS, ab_tk, ab_ns, cR, ab_ia, ab_ra, ab_oa, ab_tg, ab_len, ab_uI, ab_uR]
    refine ⟨fun _ => ?_, fun q => (by cases q)⟩
    refine step 12 _ _ _ _ _ _ _ ?_
    dsimp [ab_at, gX7_lose, nX7_lose, ab_vc, ab_v1, ab_lk, ab_st, ab_en, ab_cst, ab_mc, ab_mS, ab_tk, ab_ns, cR, ab_ia, ab_ra, ab_oa, ab_tg, ab_len, ab_uI, ab_uR]
    rw [e9]
    refine c_X7_chargeRent hnb CR RL hg eg ha1 ea ?_
    have C1 : cL (cChg hi w (ho w) (ar w) (crul hi nr (hi 8 0 8)) (cRent hi w (crul hi nr (hi 7 w 10)) (hi 8 0 8))) (cR hr) cn 2 n (fun j => (6, j)) := C
    generalize cChg hi w (ho w) (ar w) (crul hi nr (hi 8 0 8)) (cRent hi w (crul hi nr (hi 7 w 10)) (hi 8 0 8)) = hi1 at hq C1 ⊢
    generalize cRent hi w (crul hi nr (hi 7 w 10)) (hi 8 0 8) = rent
    unfold cLose at hq
    refine step 23 _ _ _ _ _ _ _ ?_
    dsimp [ab_at, gX7_lose, nX7_lose, ab_vc, ab_v1, ab_lk, ab_st, ab_en, ab_cst, ab_mc, ab_mS, ab_tk, ab_ns, cR, ab_ia, ab_ra, ab_oa, ab_tg, ab_len, ab_uI, ab_uR]
    refine c_X7_giveUp (n := n) hnb hn C1 e9 hw6 ?_
    refine step 43 _ _ _ _ _ _ _ ?_
    dsimp [ab_at, gX7_lose, nX7_lose, ab_vc, ab_v1, ab_lk, ab_st, ab_en, ab_cst, ab_mc, ab_mS, ab_tk, ab_ns, cR, ab_ia, ab_ra, ab_oa, ab_tg, ab_len, ab_uI, ab_uR]
    exact ⟨Or.inr rfl, hq⟩
  · refine step 5 _ _ _ _ _ _ _ ?_
    dsimp [ab_at, gX7_lose, nX7_lose, ab_vc, ab_v1, ab_lk, ab_st, ab_en, ab_cst, ab_mc, ab_mS, ab_tk, ab_ns, cR, ab_ia, ab_ra, ab_oa, ab_tg, ab_len, ab_uI, ab_uR]
    exact ⟨fun q => absurd rfl q, fun _ => ⟨Or.inl rfl, h0 q⟩⟩
theorem c_X7_pay (hnb : ab_n E < 2 ^ 31) {x m : Int32} {n : Nat} (hn : n ≤ 200) (C : cL hi (cR hr) cn 0 n (fun j => (2, j))) (h1 : ∀ g, g < n → x = nI g → nI 1 ≤ m → m ≤ hi 2 g 6 → Q (some (.inl (hi 2 g 6 - m))) (ab_uI hi 2 g 6 (hi 2 g 6 - m)) (cR hr) cn) (h0 : (∀ g, g < n → x = nI g → ¬ (nI 1 ≤ m ∧ m ≤ hi 2 g 6)) → Q (some (.inl (-1))) hi (cR hr) cn) : ab_Wm E (d + 5) nX7_pay [cO, .inl x, .inl m] hi (cR hr) cn Q := by
  refine ab_Wm_of gX7_pay kX7_pay 1 rfl rfl hnb (fun J step drop less => ?_)
  have r22 : (∀ g, g < n → x = nI g → ¬ (nI 1 ≤ m ∧ m ≤ hi 2 g 6)) → ∀ L ck cs, J 22 L [] hi (cR hr) cn ck cs := fun q L ck cs => by
    refine step 22 _ _ _ _ _ _ _ ?_
    dsimp [ab_at, gX7_pay, nX7_pay, ab_vc, ab_v1, ab_lk, ab_st, ab_en, ab_cst, ab_mc, ab_mS, ab_tk, ab_ns, cR, ab_ia, ab_ra, ab_oa, ab_tg, ab_len, ab_uI, ab_uR]
    exact h0 q
  refine step 0 _ _ _ _ _ _ _ ?_
  dsimp [ab_at, gX7_pay, nX7_pay, ab_vc, ab_v1, ab_lk, ab_st, ab_en, ab_cst, ab_mc, ab_mS, ab_tk, ab_ns, cR, ab_ia, ab_ra, ab_oa, ab_tg, ab_len, ab_uI, ab_uR]
  refine c_X7_homeOf hnb hn C (fun g hg e => ?_) (fun q => ?_)
  · refine step 5 _ _ _ _ _ _ _ ?_
    dsimp [ab_at, gX7_pay, nX7_pay, ab_vc, ab_v1, ab_lk, ab_st, ab_en, ab_cst, ab_mc, ab_mS, ab_tk, ab_ns, cR, ab_ia, ab_ra, ab_oa, ab_tg, ab_len, ab_uI, ab_uR]
    refine ⟨fun q => (by cases q), fun _ => ?_⟩
    refine c_X7_within hnb (fun a1 a2 => ?_) (fun q => ?_)
    · refine step 19 _ _ _ _ _ _ _ ?_
      dsimp [ab_at, gX7_pay, nX7_pay, ab_vc, ab_v1, ab_lk, ab_st, ab_en, ab_cst, ab_mc, ab_mS, ab_tk, ab_ns, cR, ab_ia, ab_ra, ab_oa, ab_tg, ab_len, ab_uI, ab_uR]
      refine ⟨fun _ => ?_, fun q => absurd q (by decide)⟩
      refine step 24 _ _ _ _ _ _ _ ?_
      dsimp [ab_at, gX7_pay, nX7_pay, ab_vc, ab_v1, ab_lk, ab_st, ab_en, ab_cst, ab_mc, ab_mS, ab_tk, ab_ns, cR, ab_ia, ab_ra, ab_oa, ab_tg, ab_len, ab_uI, ab_uR]
      simp only [↓reduceIte]
      exact h1 g hg e a1 a2
    · refine step 19 _ _ _ _ _ _ _ ?_
      dsimp [ab_at, gX7_pay, nX7_pay, ab_vc, ab_v1, ab_lk, ab_st, ab_en, ab_cst, ab_mc, ab_mS, ab_tk, ab_ns, cR, ab_ia, ab_ra, ab_oa, ab_tg, ab_len, ab_uI, ab_uR]
      refine ⟨fun q => absurd rfl q, fun _ => r22 (fun g' hg' e' => ?_) _ _ _⟩
      have := (nI_eq (by omega) (by omega)).mp (e.symm.trans e')
      subst this
      exact q
  · refine step 5 _ _ _ _ _ _ _ ?_
    dsimp [ab_at, gX7_pay, nX7_pay, ab_vc, ab_v1, ab_lk, ab_st, ab_en, ab_cst, ab_mc, ab_mS, ab_tk, ab_ns, cR, ab_ia, ab_ra, ab_oa, ab_tg, ab_len, ab_uI, ab_uR]
    exact ⟨fun _ => r22 (fun g hg e => absurd e (q g hg)) _ _ _, fun q => absurd rfl q⟩
/-- who is blamed: the looks one behind another -/
def lr : Option Nat → Option (Nat × Nat)
  | none => none
  | some l => some (3, l)
def cShow (hi : ab_I) (p : Int32) (l : Nat) : Prop := hi 3 l 0 >>> (p &&& 31) &&& nI 1 = nI 1
theorem c_X7_blame (hnb : ab_n E < 2 ^ 31) {x p : Int32} {n : Nat} {f pv : Nat → Option Nat} (P : Nat → Nat → Prop) (hn : n ≤ 200) (CW : cL hi (cR hr) cn 1 n (fun j => (7, j))) (hf : ∀ w, w < n → hr 7 w 14 = lr (f w)) (hv : ∀ w l, P w l → hr 3 l 2 = lr (pv l)) (hlt : ∀ l l', pv l = some l' → l' < l)
    (h1 : ∀ w, w < n → x = nI w → okIn p 0 15 → (f w = none ∨ ∃ l, f w = some l ∧ ¬ cShow hi p l) → Q (some (.inl (-1))) hi (cR hr) cn)
    (hP0 : ∀ w l, w < n → x = nI w → okIn p 0 15 → f w = some l → cShow hi p l → P w l)
    (hP1 : ∀ w l l', P w l → pv l = some l' → cShow hi p l' → P w l')
    (h2 : ∀ w l, w < n → x = nI w → okIn p 0 15 → P w l → (pv l = none ∨ ∃ l', pv l = some l' ∧ ¬ cShow hi p l') → Q (some (.inl (hi 3 l 1))) hi (cR hr) cn)
    (h0 : ¬ ((∃ w, w < n ∧ x = nI w) ∧ okIn p 0 15) → Q (some (.inl (-1))) hi (cR hr) cn) : ab_Wm E (d + 5) nX7_blame [cO, .inl x, .inl p] hi (cR hr) cn Q := by
  refine ab_Wm_of gX7_blame kX7_blame 1 rfl rfl hnb (fun J step drop less => ?_)
  have r20 : ¬ ((∃ w, w < n ∧ x = nI w) ∧ okIn p 0 15) → ∀ L ck cs, J 20 L [] hi (cR hr) cn ck cs := fun q L ck cs => by
    refine step 20 _ _ _ _ _ _ _ ?_
    dsimp [ab_at, gX7_blame, nX7_blame, ab_vc, ab_v1, ab_lk, ab_st, ab_en, ab_cst, ab_mc, ab_mS, ab_tk, ab_ns, cR, ab_ia, ab_ra, ab_oa, ab_tg, ab_len, ab_uI, ab_uR]
    exact h0 q
  refine step 0 _ _ _ _ _ _ _ ?_
  dsimp [ab_at, gX7_blame, nX7_blame, ab_vc, ab_v1, ab_lk, ab_st, ab_en, ab_cst, ab_mc, ab_mS, ab_tk, ab_ns, cR, ab_ia, ab_ra, ab_oa, ab_tg, ab_len, ab_uI, ab_uR]
  refine c_X7_workOf hnb hn CW (fun w hw e => ?_) (fun q => ?_)
  · refine step 5 _ _ _ _ _ _ _ ?_
    dsimp [ab_at, gX7_blame, nX7_blame, ab_vc, ab_v1, ab_lk, ab_st, ab_en, ab_cst, ab_mc, ab_mS, ab_tk, ab_ns, cR, ab_ia, ab_ra, ab_oa, ab_tg, ab_len, ab_uI, ab_uR]
    refine ⟨fun q => (by cases q), fun _ => ?_⟩
    refine c_X7_within hnb (fun a1 a2 => ?_) (fun q => ?_)
    · have r42 : (f w = none ∨ ∃ l, f w = some l ∧ ¬ cShow hi p l) → ∀ L ck cs, J 42 L [] hi (cR hr) cn ck cs := fun q L ck cs => by
        refine step 42 _ _ _ _ _ _ _ ?_
        dsimp [ab_at, gX7_blame, nX7_blame, ab_vc, ab_v1, ab_lk, ab_st, ab_en, ab_cst, ab_mc, ab_mS, ab_tk, ab_ns, cR, ab_ia, ab_ra, ab_oa, ab_tg, ab_len, ab_uI, ab_uR]
        exact h1 w hw e ⟨a1, a2⟩ q
      have r74 : ∀ l, P w l → (pv l = none ∨ ∃ l', pv l = some l' ∧ ¬ cShow hi p l') → J 74 [(0, cO), (1, .inl x), (2, .inl p), (3, .inr (some (7, w))), (4, .inr (some (3, l)))] [] hi (cR hr) cn 0 0 := fun l hl q => by
        refine step 74 _ _ _ _ _ _ _ ?_
        dsimp [ab_at, gX7_blame, nX7_blame, ab_vc, ab_v1, ab_lk, ab_st, ab_en, ab_cst, ab_mc, ab_mS, ab_tk, ab_ns, cR, ab_ia, ab_ra, ab_oa, ab_tg, ab_len, ab_uI, ab_uR]
        exact h2 w l hw e ⟨a1, a2⟩ hl q
      have loop : ∀ m l, l < m → P w l → J 44 [(0, cO), (1, .inl x), (2, .inl p), (3, .inr (some (7, w))), (4, .inr (some (3, l)))] [] hi (cR hr) cn 0 0 := by
        intro m
        induction m with
        | zero =>
          intro l hl
          omega
        | succ m ih =>
          intro l hl hp
          have e1 := hv w l hp
          rcases hb : pv l with _ | l'
          · rw [hb] at e1
            refine step 44 _ _ _ _ _ _ _ ?_
            dsimp [ab_at, gX7_blame, nX7_blame, ab_vc, ab_v1, ab_lk, ab_st, ab_en, ab_cst, ab_mc, ab_mS, ab_tk, ab_ns, cR, ab_ia, ab_ra, ab_oa, ab_tg, ab_len, ab_uI, ab_uR]
            rw [e1]
            exact ⟨fun _ => r74 l hp (Or.inl hb), fun q => absurd rfl q⟩
          · rw [hb] at e1
            have hl' := hlt l l' hb
            refine step 44 _ _ _ _ _ _ _ ?_
            dsimp [ab_at, gX7_blame, nX7_blame, ab_vc, ab_v1, ab_lk, ab_st, ab_en, ab_cst, ab_mc, ab_mS, ab_tk, ab_ns, cR, ab_ia, ab_ra, ab_oa, ab_tg, ab_len, ab_uI, ab_uR]
            rw [e1]
            refine ⟨fun q => (by cases q), fun _ => ?_⟩
            refine c_X2_shows hnb (fun q => ?_) (fun q => ?_)
            · refine step 61 _ _ _ _ _ _ _ ?_
              dsimp [ab_at, gX7_blame, nX7_blame, ab_vc, ab_v1, ab_lk, ab_st, ab_en, ab_cst, ab_mc, ab_mS, ab_tk, ab_ns, cR, ab_ia, ab_ra, ab_oa, ab_tg, ab_len, ab_uI, ab_uR]
              rw [e1]
              refine ⟨fun q => absurd q (by decide), fun _ => ?_⟩
              exact ih l' (by omega) (hP1 w l l' hp hb q)
            · refine step 61 _ _ _ _ _ _ _ ?_
              dsimp [ab_at, gX7_blame, nX7_blame, ab_vc, ab_v1, ab_lk, ab_st, ab_en, ab_cst, ab_mc, ab_mS, ab_tk, ab_ns, cR, ab_ia, ab_ra, ab_oa, ab_tg, ab_len, ab_uI, ab_uR]
              exact ⟨fun _ => r74 l hp (Or.inr ⟨l', hb, q⟩), fun q => absurd rfl q⟩
      refine step 17 _ _ _ _ _ _ _ ?_
      dsimp [ab_at, gX7_blame, nX7_blame, ab_vc, ab_v1, ab_lk, ab_st, ab_en, ab_cst, ab_mc, ab_mS, ab_tk, ab_ns, cR, ab_ia, ab_ra, ab_oa, ab_tg, ab_len, ab_uI, ab_uR]
      refine ⟨fun _ => ?_, fun q => absurd q (by decide)⟩
      have e1 := hf w hw
      rcases hb : f w with _ | l
      · rw [hb] at e1
        refine step 22 _ _ _ _ _ _ _ ?_
        dsimp [ab_at, gX7_blame, nX7_blame, ab_vc, ab_v1, ab_lk, ab_st, ab_en, ab_cst, ab_mc, ab_mS, ab_tk, ab_ns, cR, ab_ia, ab_ra, ab_oa, ab_tg, ab_len, ab_uI, ab_uR]
        rw [e1]
        exact ⟨fun _ => r42 (Or.inl hb) _ _ _, fun q => absurd rfl q⟩
      · rw [hb] at e1
        refine step 22 _ _ _ _ _ _ _ ?_
        dsimp [ab_at, gX7_blame, nX7_blame, ab_vc, ab_v1, ab_lk, ab_st, ab_en, ab_cst, ab_mc, ab_mS, ab_tk, ab_ns, cR, ab_ia, ab_ra, ab_oa, ab_tg, ab_len, ab_uI, ab_uR]
        rw [e1]
        refine ⟨fun q => (by cases q), fun _ => ?_⟩
        refine c_X2_shows hnb (fun q => ?_) (fun q => ?_)
        · refine step 39 _ _ _ _ _ _ _ ?_
          dsimp [ab_at, gX7_blame, nX7_blame, ab_vc, ab_v1, ab_lk, ab_st, ab_en, ab_cst, ab_mc, ab_mS, ab_tk, ab_ns, cR, ab_ia, ab_ra, ab_oa, ab_tg, ab_len, ab_uI, ab_uR]
          refine ⟨fun _ => ?_, fun q => absurd q (by decide)⟩
          exact loop (l + 1) l (by omega) (hP0 w l hw e ⟨a1, a2⟩ hb q)
        · refine step 39 _ _ _ _ _ _ _ ?_
          dsimp [ab_at, gX7_blame, nX7_blame, ab_vc, ab_v1, ab_lk, ab_st, ab_en, ab_cst, ab_mc, ab_mS, ab_tk, ab_ns, cR, ab_ia, ab_ra, ab_oa, ab_tg, ab_len, ab_uI, ab_uR]
          exact ⟨fun q => absurd rfl q, fun _ => r42 (Or.inr ⟨l, hb, q⟩) _ _ _⟩
    · refine step 17 _ _ _ _ _ _ _ ?_
      dsimp [ab_at, gX7_blame, nX7_blame, ab_vc, ab_v1, ab_lk, ab_st, ab_en, ab_cst, ab_mc, ab_mS, ab_tk, ab_ns, cR, ab_ia, ab_ra, ab_oa, ab_tg, ab_len, ab_uI, ab_uR]
      exact ⟨fun q => absurd rfl q, fun _ => r20 (fun z => q z.2) _ _ _⟩
  · refine step 5 _ _ _ _ _ _ _ ?_
    dsimp [ab_at, gX7_blame, nX7_blame, ab_vc, ab_v1, ab_lk, ab_st, ab_en, ab_cst, ab_mc, ab_mS, ab_tk, ab_ns, cR, ab_ia, ab_ra, ab_oa, ab_tg, ab_len, ab_uI, ab_uR]
    exact ⟨fun _ => r20 (fun z => by obtain ⟨w, hw, e⟩ := z.1; exact q w hw e) _ _ _, fun q => absurd rfl q⟩
end CLS4
