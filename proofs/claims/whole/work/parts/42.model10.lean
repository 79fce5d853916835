section MOD10
variable {E : ab_E} {d : Nat} {hi : ab_I} {hr : ab_R} {cn : ab_C} {Q : ab_Q} {nR nH nW nV nL : Nat}
/-- the plan has been made -/
def mMade (hi : ab_I) (nW nV : Nat) (sv mi : Nat) (t : List (Option Nat)) : Prop := 0 < (mW hi nW nV).length ∧ (mW hi nW nV).length ≤ 4 ∧ pl_go (mO' hi nW nV) (mhm hi) (mml hi nW nV) (mW hi nW nV).length 0 [] 0 0 [] none = some (sv, mi, t)
theorem c_X8_miles (hnb : ab_n E < 2 ^ 31) (M : mok hi nR nH nW nV nL) (U : mU hi nV) (F : mF hi)
    (h1 : ∀ hi' t sv mi, scr hi hi' → mMade hi nW nV sv mi t → Q (some (.inl (nI mi))) hi' (mR hr) cn)
    (h0 : ∀ hi', scr hi hi' → ((mW hi nW nV).length = 0 ∨ 4 < (mW hi nW nV).length) → Q (some (.inl (-1))) hi' (mR hr) cn) : ab_Wm E (d + 7) nX8_miles [mO] hi (mR hr) cn Q := by
  refine ab_Wm_of gX8_miles kX8_miles 1 rfl rfl hnb (fun J step drop less => ?_)
  refine step 0 _ _ _ _ _ _ _ ?_
  dsimp [ab_at, gX8_miles, ab_vc, ab_v1, ab_lk, ab_st, ab_en, ab_cst, ab_mc, ab_mS, ab_tk, ab_ns, mR, mAr, ab_ia, ab_ra, ab_oa, ab_tg, ab_len, ab_uI]
  refine c_X8_plans hnb M U F (fun hi' t sv mi a1 a2 s' a3 a4 a5 a6 a7 => ?_) (fun hi' s' a => ?_)
  · refine step 4 _ _ _ _ _ _ _ ?_
    dsimp [ab_at, gX8_miles, ab_vc, ab_v1, ab_lk, ab_st, ab_en, ab_cst, ab_mc, ab_mS, ab_tk, ab_ns, mR, mAr, ab_ia, ab_ra, ab_oa, ab_tg, ab_len, ab_uI]
    refine ⟨fun q => absurd q (by decide), fun _ => ?_⟩
    refine step 15 _ _ _ _ _ _ _ ?_
    dsimp [ab_at, gX8_miles, ab_vc, ab_v1, ab_lk, ab_st, ab_en, ab_cst, ab_mc, ab_mS, ab_tk, ab_ns, mR, mAr, ab_ia, ab_ra, ab_oa, ab_tg, ab_len, ab_uI]
    rw [a6]
    exact h1 hi' t sv mi s' ⟨a1, a2, a3⟩
  · refine step 4 _ _ _ _ _ _ _ ?_
    dsimp [ab_at, gX8_miles, ab_vc, ab_v1, ab_lk, ab_st, ab_en, ab_cst, ab_mc, ab_mS, ab_tk, ab_ns, mR, mAr, ab_ia, ab_ra, ab_oa, ab_tg, ab_len, ab_uI]
    refine ⟨fun _ => ?_, fun q => absurd rfl q⟩
    refine step 14 _ _ _ _ _ _ _ ?_
    dsimp [ab_at, gX8_miles, ab_vc, ab_v1, ab_lk, ab_st, ab_en, ab_cst, ab_mc, ab_mS, ab_tk, ab_ns, mR, mAr, ab_ia, ab_ra, ab_oa, ab_tg, ab_len, ab_uI]
    refine step 15 _ _ _ _ _ _ _ ?_
    dsimp [ab_at, gX8_miles, ab_vc, ab_v1, ab_lk, ab_st, ab_en, ab_cst, ab_mc, ab_mS, ab_tk, ab_ns, mR, mAr, ab_ia, ab_ra, ab_oa, ab_tg, ab_len, ab_uI]
    exact h0 hi' s' a
theorem c_X8_planned (hnb : ab_n E < 2 ^ 31) (M : mok hi nR nH nW nV nL) (U : mU hi nV) (F : mF hi) {x : Int32}
    (h1 : ∀ w k hi' t sv mi, w < nW → x = nI w → scr hi hi' → mMade hi nW nV sv mi t → (mW hi nW nV)[k]? = some w → Q (some (.inl (mnn (t.getD k none)))) hi' (mR hr) cn)
    (h2 : ∀ w hi' t sv mi, w < nW → x = nI w → scr hi hi' → mMade hi nW nV sv mi t → w ∉ mW hi nW nV → Q (some (.inl (-1))) hi' (mR hr) cn)
    (h0 : ∀ hi', scr hi hi' → ((∀ w, w < nW → x ≠ nI w) ∨ (mW hi nW nV).length = 0 ∨ 4 < (mW hi nW nV).length) → Q (some (.inl (-1))) hi' (mR hr) cn) : ab_Wm E (d + 7) nX8_planned [mO, .inl x] hi (mR hr) cn Q := by
  have M' := M
  obtain ⟨-, -, ⟨hcW, hW⟩, -⟩ := M
  refine ab_Wm_of gX8_planned kX8_planned 1 rfl rfl hnb (fun J step drop less => ?_)
  have r15 : ∀ hi', scr hi hi' → ((∀ w, w < nW → x ≠ nI w) ∨ (mW hi nW nV).length = 0 ∨ 4 < (mW hi nW nV).length) → ∀ L ck cs, J 15 L [] hi' (mR hr) cn ck cs := fun hi' s' q L ck cs => by
    refine step 15 _ _ _ _ _ _ _ ?_
    dsimp [ab_at, gX8_planned, ab_vc, ab_v1, ab_lk, ab_st, ab_en, ab_cst, ab_mc, ab_mS, ab_tk, ab_ns, mR, mAr, ab_ia, ab_ra, ab_oa, ab_tg, ab_len, ab_uI]
    exact h0 hi' s' q
  refine step 0 _ _ _ _ _ _ _ ?_
  dsimp [ab_at, gX8_planned, ab_vc, ab_v1, ab_lk, ab_st, ab_en, ab_cst, ab_mc, ab_mS, ab_tk, ab_ns, mR, mAr, ab_ia, ab_ra, ab_oa, ab_tg, ab_len, ab_uI]
  refine c_X8_isWork hnb hW hcW (fun w hw e => ?_) (fun q => ?_)
  · subst e
    refine step 5 _ _ _ _ _ _ _ ?_
    dsimp [ab_at, gX8_planned, ab_vc, ab_v1, ab_lk, ab_st, ab_en, ab_cst, ab_mc, ab_mS, ab_tk, ab_ns, mR, mAr, ab_ia, ab_ra, ab_oa, ab_tg, ab_len, ab_uI]
    refine ⟨fun q => absurd q (by decide), fun _ => ?_⟩
    refine c_X8_plans hnb M' U F (fun hi' t sv mi a1 a2 s' a3 a4 a5 a6 a7 => ?_) (fun hi' s' a => ?_)
    · have loop : ∀ m k, k + m = (mW hi nW nV).length → (∀ j, j < k → (mW hi nW nV)[j]? ≠ some w) → J 19 [(0, mO), (1, .inl (nI w)), (2, .inl (nI k))] [] hi' (mR hr) cn 0 0 := by
        intro m
        induction m with
        | zero =>
          intro k hk hno
          have hk : k = (mW hi nW nV).length := by omega
          refine step 19 _ _ _ _ _ _ _ ?_
          dsimp [ab_at, gX8_planned, ab_vc, ab_v1, ab_lk, ab_st, ab_en, ab_cst, ab_mc, ab_mS, ab_tk, ab_ns, mR, mAr, ab_ia, ab_ra, ab_oa, ab_tg, ab_len, ab_uI]
          rw [a4, hk]
          refine ⟨fun _ => ?_, fun q => absurd (Int32.le_refl _) q⟩
          refine step 50 _ _ _ _ _ _ _ ?_
          dsimp [ab_at, gX8_planned, ab_vc, ab_v1, ab_lk, ab_st, ab_en, ab_cst, ab_mc, ab_mS, ab_tk, ab_ns, mR, mAr, ab_ia, ab_ra, ab_oa, ab_tg, ab_len, ab_uI]
          refine h2 w hi' t sv mi hw rfl s' ⟨a1, a2, a3⟩ (fun z => ?_)
          obtain ⟨j, hj⟩ := List.getElem?_of_mem z
          have : j < (mW hi nW nV).length := by
            rcases Nat.lt_or_ge j (mW hi nW nV).length with y | y
            · exact y
            · rw [List.getElem?_eq_none y] at hj
              cases hj
          exact hno j (by omega) hj
        | succ m ih =>
          intro k hk hno
          have ik : ab_ix (nI k) = k := ab_ix_nI (by omega)
          have eg : (mW hi nW nV)[k]? = some ((mW hi nW nV)[k]'(by omega)) := List.getElem?_eq_getElem (by omega)
          have hlt := (flt_mem.mp (List.mem_of_getElem? eg)).1
          have e69 := a5 k _ eg
          generalize (mW hi nW nV)[k]'(by omega) = a at eg e69 hlt
          refine step 19 _ _ _ _ _ _ _ ?_
          dsimp [ab_at, gX8_planned, ab_vc, ab_v1, ab_lk, ab_st, ab_en, ab_cst, ab_mc, ab_mS, ab_tk, ab_ns, mR, mAr, ab_ia, ab_ra, ab_oa, ab_tg, ab_len, ab_uI]
          rw [a4, ik, e69]
          refine ⟨fun q => absurd ((nI_leI (by omega) (by omega)).mp q) (by omega), fun _ => ⟨ab_inI (by omega) (by omega), fun q => ?_, fun q => ⟨ab_inI (by omega) (by omega), ?_⟩⟩⟩
          · refine step 44 _ _ _ _ _ _ _ ?_
            dsimp [ab_at, gX8_planned, ab_vc, ab_v1, ab_lk, ab_st, ab_en, ab_cst, ab_mc, ab_mS, ab_tk, ab_ns, mR, mAr, ab_ia, ab_ra, ab_oa, ab_tg, ab_len, ab_uI]
            rw [nI_add]
            refine ih (k + 1) (by omega) (fun j hj => ?_)
            rcases Nat.lt_or_ge j k with z | z
            · exact hno j z
            · rw [show j = k by omega, eg]
              intro e
              cases e
              exact q rfl
          · rw [a7 k (by omega)]
            have := (nI_eq (by omega) (by omega)).mp q
            subst this
            exact h1 a k hi' t sv mi hw rfl s' ⟨a1, a2, a3⟩ eg
      refine step 12 _ _ _ _ _ _ _ ?_
      dsimp [ab_at, gX8_planned, ab_vc, ab_v1, ab_lk, ab_st, ab_en, ab_cst, ab_mc, ab_mS, ab_tk, ab_ns, mR, mAr, ab_ia, ab_ra, ab_oa, ab_tg, ab_len, ab_uI]
      refine ⟨fun _ => ?_, fun q => absurd q (by decide)⟩
      refine step 17 _ _ _ _ _ _ _ ?_
      dsimp [ab_at, gX8_planned, ab_vc, ab_v1, ab_lk, ab_st, ab_en, ab_cst, ab_mc, ab_mS, ab_tk, ab_ns, mR, mAr, ab_ia, ab_ra, ab_oa, ab_tg, ab_len, ab_uI]
      exact loop _ 0 (Nat.zero_add _) (fun j hj => absurd hj (by omega))
    · refine step 12 _ _ _ _ _ _ _ ?_
      dsimp [ab_at, gX8_planned, ab_vc, ab_v1, ab_lk, ab_st, ab_en, ab_cst, ab_mc, ab_mS, ab_tk, ab_ns, mR, mAr, ab_ia, ab_ra, ab_oa, ab_tg, ab_len, ab_uI]
      exact ⟨fun q => absurd rfl q, fun _ => r15 hi' s' (Or.inr a) _ _ _⟩
  · refine step 5 _ _ _ _ _ _ _ ?_
    dsimp [ab_at, gX8_planned, ab_vc, ab_v1, ab_lk, ab_st, ab_en, ab_cst, ab_mc, ab_mS, ab_tk, ab_ns, mR, mAr, ab_ia, ab_ra, ab_oa, ab_tg, ab_len, ab_uI]
    exact ⟨fun _ => r15 hi scr_refl (Or.inl q) _ _ _, fun q => absurd rfl q⟩
end MOD10
