section MOD7
variable {E : ab_E} {d : Nat} {hi : ab_I} {hr : ab_R} {cn : ab_C} {Q : ab_Q} {nR nH nW nV nL : Nat}
theorem ab_dr6 {a b c d e f g : Nat × ab_V} : [a, b, c, d, e, f].Sublist [a, b, c, d, e, f, g] := List.sublist_append_left [a, b, c, d, e, f] [g]
theorem ab_dr5 {a b c d e f : Nat × ab_V} : [a, b, c, d, e].Sublist [a, b, c, d, e, f] := List.sublist_append_left [a, b, c, d, e] [f]
theorem ab_dr5_2 {a b c d e f g : Nat × ab_V} : [a, b, c, d, e].Sublist [a, b, c, d, e, f, g] := List.sublist_append_left [a, b, c, d, e] [f, g]
theorem ab_dr4 {a b c d e : Nat × ab_V} : [a, b, c, d].Sublist [a, b, c, d, e] := List.sublist_append_left [a, b, c, d] [e]
theorem ab_dr3 {a b c d : Nat × ab_V} : [a, b, c].Sublist [a, b, c, d] := List.sublist_append_left [a, b, c] [d]
theorem ab_dr2 {a b c : Nat × ab_V} : [a, b].Sublist [a, b, c] := List.sublist_append_left [a, b] [c]
theorem ab_dr2_2 {a b c d : Nat × ab_V} : [a, b].Sublist [a, b, c, d] := List.sublist_append_left [a, b] [c, d]
theorem ab_dr3_2 {a b c d e : Nat × ab_V} : [a, b, c].Sublist [a, b, c, d, e] := List.sublist_append_left [a, b, c] [d, e]
/-- who had a work: as bits, as one number -/
def hadBy (b y : Int32) : Prop := (b = nI 0 ∧ y = -1) ∨ (∃ h, h < 20 ∧ b = nI 1 <<< (nI h &&& 31) ∧ y = nI h) ∨ (b ≠ nI 0 ∧ b &&& (b - nI 1) ≠ nI 0 ∧ y = -2)
theorem bit_sh : ∀ h, h < 20 → ∀ j, j < 20 → ((nI 1 <<< (nI h &&& 31)) >>> (nI j &&& 31) = nI 1 ↔ j = h) := by decide +kernel
theorem bit_n0 : ∀ h, h < 20 → ¬ nI 1 <<< (nI h &&& 31) = nI 0 := by decide +kernel
theorem bit_m1 : ∀ h, h < 20 → nI 1 <<< (nI h &&& 31) &&& (nI 1 <<< (nI h &&& 31) - nI 1) = nI 0 := by decide +kernel
theorem nI_m1 (k : Nat) : nI k + -1 = nI k - nI 1 := by rw [Int32.sub_eq_add_neg]; rfl
def mShows (hi : ab_I) (p : Int32) (k : Nat) : Bool := decide (hi 62 0 k >>> (p &&& 31) &&& nI 1 = nI 1)
/-- the looks at a work from the latest on, while they show the mark -/
def mScan (hi : ab_I) (p : Int32) (w : Nat) : Nat → Option Nat → Option Nat × Bool
  | 0, cur => (cur, false)
  | k + 1, cur => if hi 61 0 k = nI w then (if mShows hi p k = true then mScan hi p w k (some k) else (cur, true)) else mScan hi p w k cur
theorem c_X8_blame (hnb : ab_n E < 2 ^ 31) (M : mok hi nR nH nW nV nL) {Y : Nat → Int32} (hY : ∀ l, l < nL → hadBy (hi 63 0 l) (Y l)) {x p : Int32}
    (h1 : ∀ w f a, w < nW → x = nI w → okIn p 0 15 → mScan hi p w nL none = (some f, a) → f < nL → Q (some (.inl (if a = true ∧ Y f ≠ -1 then Y f else -2))) hi (mR hr) cn)
    (h2 : ∀ w a, w < nW → x = nI w → okIn p 0 15 → mScan hi p w nL none = (none, a) → Q (some (.inl (-1))) hi (mR hr) cn)
    (h0 : ¬ ((∃ w, w < nW ∧ x = nI w) ∧ okIn p 0 15) → Q (some (.inl (-1))) hi (mR hr) cn) : ab_Wm E (d + 3) nX8_blame [mO, .inl x, .inl p] hi (mR hr) cn Q := by
  obtain ⟨-, -, ⟨hcW, hW⟩, -, ⟨hcL, hL⟩, -⟩ := M
  refine ab_Wm_of gX8_blame kX8_blame 1 rfl rfl hnb (fun J step drop less => ?_)
  have r18 : ¬ ((∃ w, w < nW ∧ x = nI w) ∧ okIn p 0 15) → ∀ L ck cs, J 18 L [] hi (mR hr) cn ck cs := fun q L ck cs => by
    refine step 18 _ _ _ _ _ _ _ ?_
    dsimp [ab_at, gX8_blame, ab_vc, ab_v1, ab_lk, ab_st, ab_en, ab_cst, ab_mc, ab_mS, ab_tk, ab_ns, mR, mAr, ab_ia, ab_ra, ab_oa, ab_tg, ab_len, ab_uI]
    exact h0 q
  refine step 0 _ _ _ _ _ _ _ ?_
  dsimp [ab_at, gX8_blame, ab_vc, ab_v1, ab_lk, ab_st, ab_en, ab_cst, ab_mc, ab_mS, ab_tk, ab_ns, mR, mAr, ab_ia, ab_ra, ab_oa, ab_tg, ab_len, ab_uI]
  refine c_X8_isWork hnb hW hcW (fun w hw e => ?_) (fun q => ?_)
  · subst e
    refine step 5 _ _ _ _ _ _ _ ?_
    dsimp [ab_at, gX8_blame, ab_vc, ab_v1, ab_lk, ab_st, ab_en, ab_cst, ab_mc, ab_mS, ab_tk, ab_ns, mR, mAr, ab_ia, ab_ra, ab_oa, ab_tg, ab_len, ab_uI]
    refine ⟨fun q => absurd q (by decide), fun _ => ?_⟩
    refine c_X8_in hnb (fun p1 p2 => ?_) (fun q => ?_)
    · have r146 : ∀ f a, mScan hi p w nL none = (some f, a) → f < nL → (a = false ∨ hi 63 0 f = nI 0 ∨ hi 63 0 f &&& (hi 63 0 f - nI 1) ≠ nI 0) → ∀ L ck cs, J 146 L [] hi (mR hr) cn ck cs := fun f a hs hf hc L ck cs => by
        have hq := h1 w f a hw rfl ⟨p1, p2⟩ hs hf
        have e2 : (if a = true ∧ Y f ≠ -1 then Y f else -2) = -2 := by
          rcases hc with rfl | hc | hc
          · rw [if_neg (fun z => by cases z.1)]
          · rcases hY f hf with ⟨-, y⟩ | ⟨h, hh, y, -⟩ | ⟨y, -⟩
            · rw [if_neg (fun z => z.2 y)]
            · exact absurd (y.symm.trans hc) (bit_n0 h hh)
            · exact absurd hc y
          · rcases hY f hf with ⟨-, y⟩ | ⟨h, hh, y, -⟩ | ⟨-, -, y⟩
            · rw [if_neg (fun z => z.2 y)]
            · rw [y] at hc
              exact absurd (bit_m1 h hh) hc
            · rw [y, ite_self]
        rw [e2] at hq
        refine step 146 _ _ _ _ _ _ _ ?_
        dsimp [ab_at, gX8_blame, ab_vc, ab_v1, ab_lk, ab_st, ab_en, ab_cst, ab_mc, ab_mS, ab_tk, ab_ns, mR, mAr, ab_ia, ab_ra, ab_oa, ab_tg, ab_len, ab_uI]
        exact hq
      have r111 : ∀ cur a v, mScan hi p w nL none = (cur, a) → (∀ f, cur = some f → f < nL) → J 111 [(0, mO), (1, .inl (nI w)), (2, .inl p), (3, .inl (mnn cur)), (4, .inl (if a = true then nI 1 else nI 0)), (5, .inl v)] [] hi (mR hr) cn 0 0 := by
        intro cur a v hs hc
        rcases cur with _ | f
        · dsimp only [mnn]
          refine step 111 _ _ _ _ _ _ _ ?_
          dsimp [ab_at, gX8_blame, ab_vc, ab_v1, ab_lk, ab_st, ab_en, ab_cst, ab_mc, ab_mS, ab_tk, ab_ns, mR, mAr, ab_ia, ab_ra, ab_oa, ab_tg, ab_len, ab_uI]
          exact ⟨fun q => absurd rfl q, fun _ => h2 w a hw rfl ⟨p1, p2⟩ hs⟩
        · have hf := hc f rfl
          have jf : ab_ix (nI f) = f := ab_ix_nI (by omega)
          dsimp only [mnn]
          refine step 111 _ _ _ _ _ _ _ ?_
          dsimp [ab_at, gX8_blame, ab_vc, ab_v1, ab_lk, ab_st, ab_en, ab_cst, ab_mc, ab_mS, ab_tk, ab_ns, mR, mAr, ab_ia, ab_ra, ab_oa, ab_tg, ab_len, ab_uI]
          refine ⟨fun _ => ?_, fun q => absurd q (mnn_ne (by omega))⟩
          refine step 118 _ _ _ _ _ _ _ ?_
          dsimp [ab_at, gX8_blame, ab_vc, ab_v1, ab_lk, ab_st, ab_en, ab_cst, ab_mc, ab_mS, ab_tk, ab_ns, mR, mAr, ab_ia, ab_ra, ab_oa, ab_tg, ab_len, ab_uI]
          rw [jf]
          refine ⟨ab_inI (by omega) (by omega), fun q => r146 f a hs hf (Or.inl (by cases a; rfl; exact absurd q (by decide))) _ _ _, fun q => ⟨fun q2 => r146 f a hs hf (Or.inr (Or.inl q2)) _ _ _, fun q2 => ⟨fun q3 => ?_, fun q3 => r146 f a hs hf (Or.inr (Or.inr q3)) _ _ _⟩⟩⟩
          have ha : a = true := by
            cases a
            · exact absurd rfl q
            · rfl
          subst ha
          rcases hY f hf with ⟨y, -⟩ | ⟨h, hh, y, y2⟩ | ⟨-, y, -⟩
          · exact absurd y q2
          · have hq := h1 w f true hw rfl ⟨p1, p2⟩ hs hf
            rw [if_pos ⟨rfl, by rw [y2]; exact mnn_ne (by omega)⟩, y2] at hq
            rw [y]
            have loop : ∀ m j, j + m = h → J 152 [(0, mO), (1, .inl (nI w)), (2, .inl p), (3, .inl (nI f)), (4, .inl (nI 1)), (5, .inl (nI 1 <<< (nI h &&& 31))), (6, .inl (nI j))] [] hi (mR hr) cn 0 0 := by
              intro m
              induction m with
              | zero =>
                intro j hj
                have hj : j = h := by omega
                subst hj
                refine step 152 _ _ _ _ _ _ _ ?_
                dsimp [ab_at, gX8_blame, ab_vc, ab_v1, ab_lk, ab_st, ab_en, ab_cst, ab_mc, ab_mS, ab_tk, ab_ns, mR, mAr, ab_ia, ab_ra, ab_oa, ab_tg, ab_len, ab_uI]
                refine ⟨fun _ => ?_, fun q => absurd ((bit_sh j hh j hh).mpr rfl) q⟩
                refine step 167 _ _ _ _ _ _ _ ?_
                dsimp [ab_at, gX8_blame, ab_vc, ab_v1, ab_lk, ab_st, ab_en, ab_cst, ab_mc, ab_mS, ab_tk, ab_ns, mR, mAr, ab_ia, ab_ra, ab_oa, ab_tg, ab_len, ab_uI]
                exact hq
              | succ m ih =>
                intro j hj
                refine step 152 _ _ _ _ _ _ _ ?_
                dsimp [ab_at, gX8_blame, ab_vc, ab_v1, ab_lk, ab_st, ab_en, ab_cst, ab_mc, ab_mS, ab_tk, ab_ns, mR, mAr, ab_ia, ab_ra, ab_oa, ab_tg, ab_len, ab_uI]
                refine ⟨fun q => absurd ((bit_sh h hh j (by omega)).mp q) (by omega), fun _ => ?_⟩
                rw [nI_add]
                exact ih (j + 1) (by omega)
            refine step 149 _ _ _ _ _ _ _ ?_
            dsimp [ab_at, gX8_blame, ab_vc, ab_v1, ab_lk, ab_st, ab_en, ab_cst, ab_mc, ab_mS, ab_tk, ab_ns, mR, mAr, ab_ia, ab_ra, ab_oa, ab_tg, ab_len, ab_uI]
            exact loop h 0 (by omega)
          · exact absurd q3 y
      have loop : ∀ k cur, k ≤ nL → mScan hi p w k cur = mScan hi p w nL none → (∀ f, cur = some f → f < nL) → J 33 [(0, mO), (1, .inl (nI w)), (2, .inl p), (3, .inl (mnn cur)), (4, .inl (nI 0)), (5, .inl (nI k - nI 1))] [] hi (mR hr) cn 0 0 := by
        intro k
        induction k with
        | zero =>
          intro cur hk hs hc
          refine step 33 _ _ _ _ _ _ _ ?_
          dsimp [ab_at, gX8_blame, ab_vc, ab_v1, ab_lk, ab_st, ab_en, ab_cst, ab_mc, ab_mS, ab_tk, ab_ns, mR, mAr, ab_ia, ab_ra, ab_oa, ab_tg, ab_len, ab_uI]
          refine ⟨fun _ => r111 cur false _ (hs.symm.trans rfl) hc, fun q => absurd (by decide) q⟩
        | succ k ih =>
          intro cur hk hs hc
          have ik : ab_ix (nI k) = k := ab_ix_nI (by omega)
          have ep : nI (k + 1) - nI 1 = nI k := nI_pred k
          rw [ep]
          have on : ∀ cur', mScan hi p w k cur' = mScan hi p w nL none → (∀ f, cur' = some f → f < nL) → J 105 [(0, mO), (1, .inl (nI w)), (2, .inl p), (3, .inl (mnn cur')), (4, .inl (nI 0)), (5, .inl (nI k))] [] hi (mR hr) cn 0 0 := fun cur' hs' hc' => by
            refine step 105 _ _ _ _ _ _ _ ?_
            dsimp [ab_at, gX8_blame, ab_vc, ab_v1, ab_lk, ab_st, ab_en, ab_cst, ab_mc, ab_mS, ab_tk, ab_ns, mR, mAr, ab_ia, ab_ra, ab_oa, ab_tg, ab_len, ab_uI]
            rw [nI_m1]
            exact ih cur' (by omega) hs' hc'
          have r77 : hi 61 0 k = nI w → ∀ z, (if mShows hi p k = true then nI 1 else nI 0) = z → J 77 [(0, mO), (1, .inl (nI w)), (2, .inl p), (3, .inl (mnn cur)), (4, .inl (nI 0)), (5, .inl (nI k))] [.inl z] hi (mR hr) cn 0 0 := fun hwk z hz => by
            have hs2 : (if mShows hi p k = true then mScan hi p w k (some k) else (cur, true)) = mScan hi p w nL none := by
              rw [← hs]
              show _ = if _ then _ else _
              rw [if_pos hwk]
            have r91 : J 91 [(0, mO), (1, .inl (nI w)), (2, .inl p), (3, .inl (mnn cur)), (4, .inl (nI 0)), (5, .inl (nI k)), (6, .inl z)] [] hi (mR hr) cn 0 0 := by
              refine step 91 _ _ _ _ _ _ _ ?_
              dsimp [ab_at, gX8_blame, ab_vc, ab_v1, ab_lk, ab_st, ab_en, ab_cst, ab_mc, ab_mS, ab_tk, ab_ns, mR, mAr, ab_ia, ab_ra, ab_oa, ab_tg, ab_len, ab_uI]
              refine ⟨fun q => ?_, fun q => ?_⟩
              · have hn : ¬ mShows hi p k = true := fun y => by
                  rw [if_pos y] at hz
                  exact absurd (hz.trans q) (by decide)
                rw [if_neg hn] at hs2
                refine step 102 _ _ _ _ _ _ _ ?_
                dsimp [ab_at, gX8_blame, ab_vc, ab_v1, ab_lk, ab_st, ab_en, ab_cst, ab_mc, ab_mS, ab_tk, ab_ns, mR, mAr, ab_ia, ab_ra, ab_oa, ab_tg, ab_len, ab_uI]
                refine step 105 _ _ _ _ _ _ _ ?_
                dsimp [ab_at, gX8_blame, ab_vc, ab_v1, ab_lk, ab_st, ab_en, ab_cst, ab_mc, ab_mS, ab_tk, ab_ns, mR, mAr, ab_ia, ab_ra, ab_oa, ab_tg, ab_len, ab_uI]
                rw [nI_m1]
                refine drop 33 _ _ _ _ _ _ _ _ ab_dr6 ?_
                refine step 33 _ _ _ _ _ _ _ ?_
                dsimp [ab_at, gX8_blame, ab_vc, ab_v1, ab_lk, ab_st, ab_en, ab_cst, ab_mc, ab_mS, ab_tk, ab_ns, mR, mAr, ab_ia, ab_ra, ab_oa, ab_tg, ab_len, ab_uI]
                refine ⟨fun _ => r111 cur true _ hs2.symm hc, fun _ => ⟨fun _ => r111 cur true _ hs2.symm hc, fun q => absurd q (by decide)⟩⟩
              · have hn : mShows hi p k = true := Classical.byContradiction fun y => by
                  rw [if_neg y] at hz
                  exact q hz.symm
                rw [if_pos hn] at hs2
                refine drop 105 _ _ _ _ _ _ _ _ ab_dr6 ?_
                exact on (some k) hs2 (fun f hf => by cases hf; omega)
            refine step 77 _ _ _ _ _ _ _ ?_
            dsimp [ab_at, gX8_blame, ab_vc, ab_v1, ab_lk, ab_st, ab_en, ab_cst, ab_mc, ab_mS, ab_tk, ab_ns, mR, mAr, ab_ia, ab_ra, ab_oa, ab_tg, ab_len, ab_uI]
            refine ⟨fun _ => r91, fun q => ⟨fun _ => r91, fun q2 => ?_⟩⟩
            have hn : ¬ mShows hi p k = true := fun y => by
              rw [if_pos y] at hz
              exact absurd (hz.trans q) (by decide)
            rw [if_neg hn] at hs2
            rcases cur with _ | f
            · exact h2 w true hw rfl ⟨p1, p2⟩ hs2.symm
            · have := hc f rfl
              exact absurd q2 (mnn_ne (by omega))
          refine step 33 _ _ _ _ _ _ _ ?_
          dsimp [ab_at, gX8_blame, ab_vc, ab_v1, ab_lk, ab_st, ab_en, ab_cst, ab_mc, ab_mS, ab_tk, ab_ns, mR, mAr, ab_ia, ab_ra, ab_oa, ab_tg, ab_len, ab_uI]
          refine ⟨fun q => absurd q (nI_pos (by omega)), fun _ => ⟨fun q => absurd rfl q, fun _ => ⟨ab_inI (by omega) (by omega), ?_⟩⟩⟩
          rw [ik]
          refine ⟨fun q => ?_, fun q => on cur ?_ hc⟩
          · refine step 57 _ _ _ _ _ _ _ ?_
            dsimp [ab_at, gX8_blame, ab_vc, ab_v1, ab_lk, ab_st, ab_en, ab_cst, ab_mc, ab_mS, ab_tk, ab_ns, mR, mAr, ab_ia, ab_ra, ab_oa, ab_tg, ab_len, ab_uI]
            rw [ik]
            refine ⟨ab_inI (by omega) (by omega), fun q2 => ?_, fun q2 => r77 q _ (if_pos (decide_eq_true q2))⟩
            refine step 76 _ _ _ _ _ _ _ ?_
            dsimp [ab_at, gX8_blame, ab_vc, ab_v1, ab_lk, ab_st, ab_en, ab_cst, ab_mc, ab_mS, ab_tk, ab_ns, mR, mAr, ab_ia, ab_ra, ab_oa, ab_tg, ab_len, ab_uI]
            exact r77 q _ (if_neg (fun z => q2 (of_decide_eq_true z)))
          · rw [← hs]
            show _ = if _ then _ else _
            rw [if_neg q]
      refine step 15 _ _ _ _ _ _ _ ?_
      dsimp [ab_at, gX8_blame, ab_vc, ab_v1, ab_lk, ab_st, ab_en, ab_cst, ab_mc, ab_mS, ab_tk, ab_ns, mR, mAr, ab_ia, ab_ra, ab_oa, ab_tg, ab_len, ab_uI]
      refine ⟨fun _ => ?_, fun q => absurd q (by decide)⟩
      refine step 20 _ _ _ _ _ _ _ ?_
      dsimp [ab_at, gX8_blame, ab_vc, ab_v1, ab_lk, ab_st, ab_en, ab_cst, ab_mc, ab_mS, ab_tk, ab_ns, mR, mAr, ab_ia, ab_ra, ab_oa, ab_tg, ab_len, ab_uI]
      rw [hcL]
      exact loop nL none (Nat.le_refl _) rfl (fun f q => by cases q)
    · refine step 15 _ _ _ _ _ _ _ ?_
      dsimp [ab_at, gX8_blame, ab_vc, ab_v1, ab_lk, ab_st, ab_en, ab_cst, ab_mc, ab_mS, ab_tk, ab_ns, mR, mAr, ab_ia, ab_ra, ab_oa, ab_tg, ab_len, ab_uI]
      exact ⟨fun q => absurd rfl q, fun _ => r18 (fun z => q z.2) _ _ _⟩
  · refine step 5 _ _ _ _ _ _ _ ?_
    dsimp [ab_at, gX8_blame, ab_vc, ab_v1, ab_lk, ab_st, ab_en, ab_cst, ab_mc, ab_mS, ab_tk, ab_ns, mR, mAr, ab_ia, ab_ra, ab_oa, ab_tg, ab_len, ab_uI]
    exact ⟨fun _ => r18 (fun ⟨⟨w, hw, e⟩, _⟩ => q w hw e) _ _ _, fun q => absurd rfl q⟩
end MOD7
