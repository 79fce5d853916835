theorem ab_uI_e {hi : ab_I} {K i j : Nat} {x : Int32} : ab_uI hi K i j x K i j = x := by
  unfold ab_uI
  rw [if_pos rfl, if_pos rfl, if_pos rfl]
theorem ab_uI_i {hi : ab_I} {K i j : Nat} {x : Int32} {K' i' j' : Nat} (h : i' ≠ i) : ab_uI hi K i j x K' i' j' = hi K' i' j' := by
  unfold ab_uI
  rw [if_neg h]
  split <;> rfl
theorem ab_uI_j {hi : ab_I} {K i j : Nat} {x : Int32} {K' i' j' : Nat} (h : j' ≠ j) : ab_uI hi K i j x K' i' j' = hi K' i' j' := by
  unfold ab_uI
  rw [if_neg h]
  split
  · split <;> rfl
  · rfl
def flt (c : Nat → Bool) (n : Nat) : List Nat := (List.range n).filter c
theorem flt_yes {c : Nat → Bool} {n : Nat} (h : c n = true) : flt c (n + 1) = flt c n ++ [n] := by
  unfold flt
  rw [List.range_succ, List.filter_append]
  simp [h]
theorem flt_no {c : Nat → Bool} {n : Nat} (h : c n = false) : flt c (n + 1) = flt c n := by
  unfold flt
  rw [List.range_succ, List.filter_append]
  simp [h]
theorem flt_mem {c : Nat → Bool} {n v : Nat} : v ∈ flt c n ↔ v < n ∧ c v = true := by
  unfold flt
  rw [List.mem_filter, List.mem_range]
theorem flt_sorted (c : Nat → Bool) (n : Nat) : (flt c n).Pairwise (· < ·) := List.Pairwise.filter _ List.pairwise_lt_range
theorem flt_len {c : Nat → Bool} : ∀ {m n : Nat}, (flt c n).length ≤ (flt c (n + m)).length
  | 0, _ => Nat.le_refl _
  | m + 1, n => by
    refine Nat.le_trans (flt_len (m := m)) ?_
    rw [show n + (m + 1) = n + m + 1 by omega]
    rcases e : c (n + m) with _ | _
    · rw [flt_no e]
      exact Nat.le_refl _
    · rw [flt_yes e, List.length_append]
      omega
theorem flt_nil {c : Nat → Bool} {n : Nat} (h : ∀ k, k < n → c k = false) : flt c n = [] := by
  rcases e : flt c n with _ | ⟨v, l⟩
  · rfl
  · have hv : v ∈ flt c n := by rw [e]; exact List.mem_cons_self
    have := flt_mem.mp hv
    rw [h v this.1] at this
    cases this.2
theorem flt_ne {c : Nat → Bool} {n k : Nat} (hk : k < n) (h : c k = true) : flt c n ≠ [] := fun e => by
  have : k ∈ flt c n := flt_mem.mpr ⟨hk, h⟩
  rw [e] at this
  cases this
section MOD9
variable {E : ab_E} {d : Nat} {hi : ab_I} {hr : ab_R} {cn : ab_C} {Q : ab_Q} {nR nH nW nV nL : Nat}
/-- a work that the plan asks for -/
noncomputable def mis (hi : ab_I) (nW nV w : Nat) : Bool := decide (hi 43 0 w = nI 0) && !(flt (mcould hi nW w) nV).isEmpty
theorem mis_yes {w k : Nat} (h1 : hi 43 0 w = nI 0) (hk : k < nV) (h2 : mcould hi nW w k = true) : mis hi nW nV w = true := by
  unfold mis
  rw [decide_eq_true h1, Bool.true_and]
  have := flt_ne hk h2
  rcases e : flt (mcould hi nW w) nV with _ | _
  · exact absurd e this
  · rfl
theorem mis_no {w : Nat} (h : ∀ k, k < nV → ¬ (hi 43 0 w = nI 0 ∧ mcould hi nW w k = true)) : mis hi nW nV w = false := by
  unfold mis
  by_cases e : hi 43 0 w = nI 0
  · rw [flt_nil (fun k hk => by
      rcases e2 : mcould hi nW w k with _ | _
      · rfl
      · exact absurd ⟨e, e2⟩ (h k hk))]
    simp
  · rw [decide_eq_false e]
    rfl
/-- all but what the plan writes is as it was -/
def scr (hi hi' : ab_I) : Prop := ∀ K i j, (K < 69 ∨ 72 < K) → K ≠ 123 → ¬ (K = 9 ∧ 44 ≤ j) → hi' K i j = hi K i j
theorem scr_refl : scr hi hi := fun _ _ _ _ _ _ => rfl
theorem scr_arr {hi hi1 : ab_I} (h : scr hi hi1) {K i j : Nat} (hK : (69 ≤ K ∧ K ≤ 72) ∨ K = 123) {x : Int32} : scr hi (ab_uI hi1 K i j x) := fun K' i' j' h1 h2 h3 => by
  rw [ab_uI_k (by omega)]
  exact h K' i' j' h1 h2 h3
theorem scr_f {hi hi1 : ab_I} (h : scr hi hi1) {j : Nat} (hj : 44 ≤ j) {x : Int32} : scr hi (ab_uI hi1 9 0 j x) := fun K i j' h1 h2 h3 => by
  have : ab_uI hi1 9 0 j x K i j' = hi1 K i j' := by
    unfold ab_uI
    split
    · split
      · split
        · exact absurd ⟨by assumption, by omega⟩ h3
        · rfl
      · rfl
    · rfl
  rw [this]
  exact h K i j' h1 h2 h3
theorem scr_mok {hi hi' : ab_I} (h : scr hi hi') (M : mok hi nR nH nW nV nL) : mok hi' nR nH nW nV nL := by
  unfold mok at M ⊢
  rw [h 9 0 3 (by omega) (by omega) (by omega), h 9 0 10 (by omega) (by omega) (by omega), h 9 0 23 (by omega) (by omega) (by omega), h 9 0 30 (by omega) (by omega) (by omega), h 9 0 34 (by omega) (by omega) (by omega)]
  have e54 : ∀ k, hi' 54 0 k = hi 54 0 k := fun k => h 54 0 k (by omega) (by omega) (by omega)
  have e55 : ∀ k, hi' 55 0 k = hi 55 0 k := fun k => h 55 0 k (by omega) (by omega) (by omega)
  have e41 : ∀ k, hi' 41 0 k = hi 41 0 k := fun k => h 41 0 k (by omega) (by omega) (by omega)
  have e45 : ∀ k, hi' 45 0 k = hi 45 0 k := fun k => h 45 0 k (by omega) (by omega) (by omega)
  have e43 : ∀ k, hi' 43 0 k = hi 43 0 k := fun k => h 43 0 k (by omega) (by omega) (by omega)
  have e44 : ∀ k, hi' 44 0 k = hi 44 0 k := fun k => h 44 0 k (by omega) (by omega) (by omega)
  have e35 : ∀ k, hi' 35 0 k = hi 35 0 k := fun k => h 35 0 k (by omega) (by omega) (by omega)
  simp only [e54, e55, e41, e45, e43, e44, e35]
  exact M
theorem scr_could {hi hi' : ab_I} (h : scr hi hi') (w k : Nat) : mcould hi' nW w k = mcould hi nW w k := by
  have e43 : ∀ k, hi' 43 0 k = hi 43 0 k := fun k => h 43 0 k (by omega) (by omega) (by omega)
  have e44 : ∀ k, hi' 44 0 k = hi 44 0 k := fun k => h 44 0 k (by omega) (by omega) (by omega)
  have e42 : ∀ k, hi' 42 0 k = hi 42 0 k := fun k => h 42 0 k (by omega) (by omega) (by omega)
  unfold mcould mroom mlent
  rw [h 56 0 k (by omega) (by omega) (by omega), h 55 0 k (by omega) (by omega) (by omega), h 54 0 k (by omega) (by omega) (by omega), h 36 0 _ (by omega) (by omega) (by omega)]
  simp only [e43, e44, e42]
/-- the plan's problem out of the reference's state -/
noncomputable def mW (hi : ab_I) (nW nV : Nat) : List Nat := flt (mis hi nW nV) nW
noncomputable def mO' (hi : ab_I) (nW nV k : Nat) : List Nat := if k < (mW hi nW nV).length then flt (mcould hi nW ((mW hi nW nV).getD k 0)) nV else []
noncomputable def mhm (hi : ab_I) (v : Nat) : Nat := ab_ix (hi 54 0 v)
noncomputable def mml (hi : ab_I) (nW nV k v : Nat) : Nat := ab_ix (hi 81 (ab_ix (hi 45 0 ((mW hi nW nV).getD k 0))) (ab_ix (hi 35 0 (mhm hi v))))
/-- no home wishes the same work twice -/
def mU (hi : ab_I) (nV : Nat) : Prop := ∀ k k', k < nV → k' < nV → hi 56 0 k = nI 0 → hi 56 0 k' = nI 0 → hi 54 0 k = hi 54 0 k' → hi 55 0 k = hi 55 0 k' → k = k'
/-- miles are between 0 and 500 -/
def mF (hi : ab_I) : Prop := ∀ a b, a < 4 → b < 4 → ∃ m, m ≤ 500 ∧ hi 81 a b = nI m
theorem mcould_e {w k : Nat} (h : mcould hi nW w k = true) : hi 56 0 k = nI 0 ∧ hi 55 0 k = nI w := by
  unfold mcould at h
  rw [Bool.and_eq_true, Bool.and_eq_true, decide_eq_true_eq, decide_eq_true_eq] at h
  exact h.1
theorem mopt_nd (M : mok hi nR nH nW nV nL) (U : mU hi nV) (w : Nat) : ((flt (mcould hi nW w) nV).map (mhm hi)).Nodup := by
  obtain ⟨-, ⟨hcH, hH⟩, ⟨hcW, hW⟩, ⟨hcV, hV⟩, -, mh, -⟩ := M
  show List.Pairwise _ _
  rw [List.pairwise_map]
  refine ((flt_sorted (mcould hi nW w) nV).imp_of_mem (fun {a b} ha hb hab => ?_))
  intro e
  have ha := flt_mem.mp ha
  have hb := flt_mem.mp hb
  have ca := mcould_e ha.2
  have cb := mcould_e hb.2
  obtain ⟨g, hg, eg⟩ := mh a ha.1
  obtain ⟨g', hg', eg'⟩ := mh b hb.1
  unfold mhm at e
  rw [eg, eg', ab_ix_nI (by omega), ab_ix_nI (by omega)] at e
  subst e
  have := U a b ha.1 hb.1 ca.1 cb.1 (eg.trans eg'.symm) (ca.2.trans cb.2.symm)
  omega
theorem mopt_20 (M : mok hi nR nH nW nV nL) (U : mU hi nV) (w : Nat) : (flt (mcould hi nW w) nV).length ≤ 20 := by
  have h1 := mopt_nd M U w
  have h2 := pl_pigeon _ (List.range 20) h1 (fun x hx => by
    obtain ⟨v, hv, rfl⟩ := List.mem_map.mp hx
    obtain ⟨-, ⟨hcH, hH⟩, -, -, -, mh, -⟩ := M
    obtain ⟨g, hg, eg⟩ := mh v (flt_mem.mp hv).1
    unfold mhm
    rw [eg, ab_ix_nI (by omega), List.mem_range]
    omega)
  rw [List.length_map, List.length_range] at h2
  exact h2
/-- what the reference has written for the works that it asks for -/
def minv (hi hi1 : ab_I) (nW nV : Nat) (A : List Nat) : Prop := scr hi hi1 ∧ hi1 9 0 44 = nI A.length ∧ ∀ k a, A[k]? = some a → hi1 69 0 k = nI a ∧ hi1 72 0 k = nI (flt (mcould hi nW a) nV).length ∧ ∀ i v, (flt (mcould hi nW a) nV)[i]? = some v → hi1 123 k i = nI v
theorem c_X8_plans (hnb : ab_n E < 2 ^ 31) (M : mok hi nR nH nW nV nL) (U : mU hi nV) (F : mF hi)
    (h1 : ∀ hi' t sv mi, 0 < (mW hi nW nV).length → (mW hi nW nV).length ≤ 4 → scr hi hi' → pl_go (mO' hi nW nV) (mhm hi) (mml hi nW nV) (mW hi nW nV).length 0 [] 0 0 [] none = some (sv, mi, t) → hi' 9 0 44 = nI (mW hi nW nV).length → (∀ k a, (mW hi nW nV)[k]? = some a → hi' 69 0 k = nI a) → hi' 9 0 46 = nI mi → (∀ k, k < (mW hi nW nV).length → hi' 71 0 k = mnn (t.getD k none)) → Q (some (.inl (nI 1))) hi' (mR hr) cn)
    (h0 : ∀ hi', scr hi hi' → ((mW hi nW nV).length = 0 ∨ 4 < (mW hi nW nV).length) → Q (some (.inl (nI 0))) hi' (mR hr) cn) : ab_Wm E (d + 6) nX8_plans [mO] hi (mR hr) cn Q := by
  have M' := M
  obtain ⟨-, ⟨hcH, hH⟩, ⟨hcW, hW⟩, ⟨hcV, hV⟩, -, mh, mw, ma, ms, mo, mt⟩ := M
  have f23 : ∀ {hi1}, scr hi hi1 → hi1 9 0 23 = nI nW := fun s => (s 9 0 23 (by omega) (by omega) (by omega)).trans hcW
  have f30 : ∀ {hi1}, scr hi hi1 → hi1 9 0 30 = nI nV := fun s => (s 9 0 30 (by omega) (by omega) (by omega)).trans hcV
  refine ab_Wm_of gX8_plans kX8_plans 2 rfl rfl hnb (fun J step drop less => ?_)
  have loop : ∀ m w, w + m = nW → ∀ hi1, (flt (mis hi nW nV) w).length ≤ 4 → minv hi hi1 nW nV (flt (mis hi nW nV) w) → J 7 [(0, mO), (1, .inl (nI w))] [] hi1 (mR hr) cn 0 0 := by
    intro m
    induction m with
    | zero =>
      intro w hw hi1 h4 I
      have hw : w = nW := by omega
      subst hw
      obtain ⟨s1, e44, I⟩ := I
      refine step 7 _ _ _ _ _ _ _ ?_
      dsimp [ab_at, gX8_plans, ab_vc, ab_v1, ab_lk, ab_st, ab_en, ab_cst, ab_mc, ab_mS, ab_tk, ab_ns, mR, mAr, ab_ia, ab_ra, ab_oa, ab_tg, ab_len, ab_uI]
      rw [f23 s1]
      refine ⟨fun _ => ?_, fun q => absurd (Int32.le_refl _) q⟩
      refine step 175 _ _ _ _ _ _ _ ?_
      dsimp [ab_at, gX8_plans, ab_vc, ab_v1, ab_lk, ab_st, ab_en, ab_cst, ab_mc, ab_mS, ab_tk, ab_ns, mR, mAr, ab_ia, ab_ra, ab_oa, ab_tg, ab_len, ab_uI]
      rw [e44]
      refine ⟨fun q => ?_, fun q => ⟨Or.inl rfl, h0 hi1 s1 (Or.inl ?_)⟩⟩
      · have hpos : 0 < (mW hi w nV).length := by
          rcases Nat.eq_zero_or_pos (mW hi w nV).length with z | z
          · refine absurd ?_ q
            show nI (mW hi w nV).length = 0
            rw [z]
            rfl
          · exact z
        have P : plR (ab_uI (ab_uI hi1 9 0 45 (-1)) 9 0 46 (nI 0)) (mW hi w nV).length (mO' hi w nV) (mhm hi) (mml hi w nV) := by
          refine ⟨e44, fun k hk => ?_, fun k hk i v hv => ?_⟩
          · have ek : mO' hi w nV k = flt (mcould hi w ((mW hi w nV).getD k 0)) nV := if_pos hk
            have eg : (mW hi w nV)[k]? = some ((mW hi w nV).getD k 0) := by
              rw [List.getD_eq_getElem?_getD, List.getElem?_eq_getElem hk]
              rfl
            have := I k _ eg
            rw [ek]
            exact ⟨this.2.1, mopt_20 M' U _⟩
          · have ek : mO' hi w nV k = flt (mcould hi w ((mW hi w nV).getD k 0)) nV := if_pos hk
            have eg : (mW hi w nV)[k]? = some ((mW hi w nV).getD k 0) := by
              rw [List.getD_eq_getElem?_getD, List.getElem?_eq_getElem hk]
              rfl
            have I' := I k _ eg
            rw [ek] at hv
            have hvm := flt_mem.mp (List.mem_of_getElem? hv)
            have ham := flt_mem.mp (List.mem_of_getElem? eg)
            obtain ⟨g, hg, eg2⟩ := mh v hvm.1
            obtain ⟨s, hs, es⟩ := ms _ ham.1
            obtain ⟨t, ht, et⟩ := mt g hg
            obtain ⟨x, hx, ex⟩ := F s t hs ht
            have ehm : mhm hi v = g := by
              unfold mhm
              rw [eg2, ab_ix_nI (by omega)]
            have eml : mml hi w nV k v = x := by
              unfold mml
              rw [ehm, es, et, ab_ix_nI (by omega), ab_ix_nI (by omega), ex, ab_ix_nI (by omega)]
            rw [ehm, eml]
            refine ⟨I'.2.2 i v hv, by omega, (s1 54 0 v (by omega) (by omega) (by omega)).trans eg2, by omega, hx, (mW hi w nV).getD k 0, s, t, by omega, hs, ht, I'.1, (s1 45 0 _ (by omega) (by omega) (by omega)).trans es, (s1 35 0 g (by omega) (by omega) (by omega)).trans et, (s1 81 s t (by omega) (by omega) (by omega)).trans ex⟩
        refine step 184 _ _ _ _ _ _ _ ?_
        dsimp [ab_at, gX8_plans, ab_vc, ab_v1, ab_lk, ab_st, ab_en, ab_cst, ab_mc, ab_mS, ab_tk, ab_ns, mR, mAr, ab_ia, ab_ra, ab_oa, ab_tg, ab_len, ab_uI]
        have hd : d + 5 = d + (4 - (mW hi w nV).length) + (mW hi w nV).length + 1 := by
          have : (mW hi w nV).length ≤ 4 := h4
          omega
        rw [hd]
        refine c_X8_tries hnb h4 P (mW hi w nV).length 0 (Nat.zero_add _) _ [] (nI 0) 0 0 [] _ none _ (fun _ _ _ _ _ _ => rfl) (fun h _ => tb_zero h) (by omega) (by omega) rfl (fun i hi' => absurd hi' (by show ¬ i < 0; omega)) rfl (fun hi' s' l' be' => ?_)
        have sc : scr hi hi' := fun K i j q1 q2 q3 => by
          rw [s' K i j (by omega) (by omega) (by omega)]
          exact scr_f (scr_f s1 (by omega)) (by omega) K i j q1 q2 q3
        refine step 202 _ _ _ _ _ _ _ ?_
        dsimp [ab_at, gX8_plans, ab_vc, ab_v1, ab_lk, ab_st, ab_en, ab_cst, ab_mc, ab_mS, ab_tk, ab_ns, mR, mAr, ab_ia, ab_ra, ab_oa, ab_tg, ab_len, ab_uI]
        rcases eb : pl_go (mO' hi w nV) (mhm hi) (mml hi w nV) (mW hi w nV).length 0 [] 0 0 [] none with _ | ⟨sv, mi, t⟩
        · exfalso
          rw [pl_go_eq] at eb
          have hnil : (pl_ls (mO' hi w nV) (mhm hi) (mW hi w nV).length 0 []).map (fun t => (0 + pl_sv t, 0 + pl_mi (mml hi w nV) 0 t, ([] : List (Option Nat)) ++ t)) ≠ [] := by
            have := (pl_mem (mO' hi w nV) (mhm hi) (mW hi w nV).length 0 [] _).mpr (pl_nones _ 0 [])
            intro e
            rw [List.map_eq_nil_iff] at e
            rw [e] at this
            cases this
          obtain ⟨x, _, _, e1, _⟩ := pl_find0 hnil
          rw [e1] at eb
          cases eb
        · rw [eb] at be'
          obtain ⟨-, b46, -, -, -, b71⟩ := be'
          refine ⟨Or.inr rfl, h1 hi' t sv mi hpos h4 sc eb ?_ (fun k a ea => ?_) b46 b71⟩
          · rw [s' 9 0 44 (by omega) (by omega) (by omega)]
            exact e44
          · rw [s' 69 0 k (by omega) (by omega) (by omega)]
            exact (I k a ea).1
      · rcases Nat.eq_zero_or_pos (mW hi w nV).length with z | z
        · exact z
        · have h4' : (mW hi w nV).length ≤ 4 := h4
          exact absurd q (nI_ne0 z (by omega))
    | succ m ih =>
      intro w hw hi1 h4 I
      have I0 := I
      obtain ⟨s1, e44, I⟩ := I
      have iw : ab_ix (nI w) = w := ab_ix_nI (by omega)
      have hwW : w < nW := by omega
      have ia : ab_ix (nI (flt (mis hi nW nV) w).length) = (flt (mis hi nW nV) w).length := ab_ix_nI (by omega)
      have on : ∀ hi2 L, (flt (mis hi nW nV) (w + 1)).length ≤ 4 → minv hi hi2 nW nV (flt (mis hi nW nV) (w + 1)) → J 169 ((0, mO) :: (1, .inl (nI w)) :: L) [] hi2 (mR hr) cn 0 0 := fun hi2 L h4' I' => by
        refine step 169 _ _ _ _ _ _ _ ?_
        dsimp [ab_at, gX8_plans, ab_vc, ab_v1, ab_lk, ab_st, ab_en, ab_cst, ab_mc, ab_mS, ab_tk, ab_ns, mR, mAr, ab_ia, ab_ra, ab_oa, ab_tg, ab_len, ab_uI]
        rw [nI_add]
        refine drop 7 _ [(0, mO), (1, .inl (nI (w + 1)))] _ _ _ _ _ _ (List.sublist_append_left [(0, mO), (1, .inl (nI (w + 1)))] L) ?_
        exact ih (w + 1) (by omega) hi2 h4' I'
      have r68 : mis hi nW nV w = true → ∀ x v, J 68 [(0, mO), (1, .inl (nI w)), (2, .inl x), (3, .inl v)] [] hi1 (mR hr) cn 0 0 := fun hmis x v => by
        refine step 68 _ _ _ _ _ _ _ ?_
        dsimp [ab_at, gX8_plans, ab_vc, ab_v1, ab_lk, ab_st, ab_en, ab_cst, ab_mc, ab_mS, ab_tk, ab_ns, mR, mAr, ab_ia, ab_ra, ab_oa, ab_tg, ab_len, ab_uI]
        rw [e44]
        refine ⟨fun q => ?_, fun q => ⟨Or.inl rfl, h0 hi1 s1 (Or.inr ?_)⟩⟩
        · have hlt : (flt (mis hi nW nV) w).length < 4 := by
            rcases Nat.lt_or_ge (flt (mis hi nW nV) w).length 4 with z | z
            · exact z
            · exact absurd (by rw [show (flt (mis hi nW nV) w).length = 4 by omega]) q
          have loop2 : ∀ mm k, k + mm = nV → ∀ hi2, minv hi hi2 nW nV (flt (mis hi nW nV) w) → hi2 69 0 (flt (mis hi nW nV) w).length = nI w → hi2 72 0 (flt (mis hi nW nV) w).length = nI (flt (mcould hi nW w) k).length → (∀ i v, (flt (mcould hi nW w) k)[i]? = some v → hi2 123 (flt (mis hi nW nV) w).length i = nI v) → J 100 [(0, mO), (1, .inl (nI w)), (2, .inl x), (3, .inl (nI k))] [] hi2 (mR hr) cn 0 0 := by
            intro mm
            induction mm with
            | zero =>
              intro k hk hi2 I2 e69 e72 e123
              have hk : k = nV := by omega
              subst hk
              obtain ⟨s2, e44', I2⟩ := I2
              refine step 100 _ _ _ _ _ _ _ ?_
              dsimp [ab_at, gX8_plans, ab_vc, ab_v1, ab_lk, ab_st, ab_en, ab_cst, ab_mc, ab_mS, ab_tk, ab_ns, mR, mAr, ab_ia, ab_ra, ab_oa, ab_tg, ab_len, ab_uI]
              rw [f30 s2]
              refine ⟨fun _ => ?_, fun q => absurd (Int32.le_refl _) q⟩
              refine step 159 _ _ _ _ _ _ _ ?_
              dsimp [ab_at, gX8_plans, ab_vc, ab_v1, ab_lk, ab_st, ab_en, ab_cst, ab_mc, ab_mS, ab_tk, ab_ns, mR, mAr, ab_ia, ab_ra, ab_oa, ab_tg, ab_len, ab_uI]
              rw [e44', nI_add]
              have el : (flt (mis hi nW k) w).length + 1 = (flt (mis hi nW k) (w + 1)).length := by
                rw [flt_yes hmis, List.length_append]
                rfl
              refine on _ _ (by omega) ⟨scr_f s2 (by omega), ?_, fun k' a ea => ?_⟩
              · rw [← el]
                rfl
              · rw [flt_yes hmis] at ea
                rcases Nat.lt_or_ge k' (flt (mis hi nW k) w).length with z | z
                · rw [List.getElem?_append_left z] at ea
                  exact I2 k' a ea
                · rw [List.getElem?_append_right z] at ea
                  have hz : k' = (flt (mis hi nW k) w).length := by
                    rcases Nat.eq_zero_or_pos (k' - (flt (mis hi nW k) w).length) with y | y
                    · omega
                    · rw [List.getElem?_eq_none (by show 1 ≤ _; omega)] at ea
                      cases ea
                  subst hz
                  rw [Nat.sub_self] at ea
                  cases ea
                  exact ⟨e69, e72, e123⟩
            | succ mm ih2 =>
              intro k hk hi2 I2 e69 e72 e123
              obtain ⟨s2, e44', I2'⟩ := I2
              have il : ab_ix (nI (flt (mcould hi nW w) k).length) = (flt (mcould hi nW w) k).length := ab_ix_nI (by
                have := mopt_20 M' U w
                have := flt_len (c := mcould hi nW w) (m := mm + 1) (n := k)
                rw [hk] at this
                omega)
              refine step 100 _ _ _ _ _ _ _ ?_
              dsimp [ab_at, gX8_plans, ab_vc, ab_v1, ab_lk, ab_st, ab_en, ab_cst, ab_mc, ab_mS, ab_tk, ab_ns, mR, mAr, ab_ia, ab_ra, ab_oa, ab_tg, ab_len, ab_uI]
              rw [f30 s2]
              refine ⟨fun q => absurd ((nI_leI (by omega) (by omega)).mp q) (by omega), fun _ => ?_⟩
              refine c_X8_couldHave hnb (scr_mok s2 M') (by omega) hwW (fun q => ?_) (fun q => ?_)
              · rw [scr_could s2] at q
                refine step 114 _ _ _ _ _ _ _ ?_
                dsimp [ab_at, gX8_plans, ab_vc, ab_v1, ab_lk, ab_st, ab_en, ab_cst, ab_mc, ab_mS, ab_tk, ab_ns, mR, mAr, ab_ia, ab_ra, ab_oa, ab_tg, ab_len, ab_uI]
                refine ⟨fun _ => ?_, fun q => absurd q (by decide)⟩
                have hlt20 : (flt (mcould hi nW w) k).length < 20 := by
                  have h20 := mopt_20 M' U w
                  have := flt_len (c := mcould hi nW w) (m := mm) (n := k + 1)
                  rw [show k + 1 + mm = nV by omega, flt_yes q, List.length_append] at this
                  have this : (flt (mcould hi nW w) k).length + 1 ≤ (flt (mcould hi nW w) nV).length := this
                  omega
                refine step 120 _ _ _ _ _ _ _ ?_
                dsimp [ab_at, gX8_plans, ab_vc, ab_v1, ab_lk, ab_st, ab_en, ab_cst, ab_mc, ab_mS, ab_tk, ab_ns, mR, mAr, ab_ia, ab_ra, ab_oa, ab_tg, ab_len, ab_uI]
                rw [e44', ia, e72, il, nI_add]
                refine ⟨ab_inI (by omega) (by omega), ab_inI (by omega) (by omega), ab_inI (by omega) (by omega), ab_inI (by omega) (by omega), ab_inI (by omega) (by omega), ?_⟩
                refine step 153 _ _ _ _ _ _ _ ?_
                dsimp [ab_at, gX8_plans, ab_vc, ab_v1, ab_lk, ab_st, ab_en, ab_cst, ab_mc, ab_mS, ab_tk, ab_ns, mR, mAr, ab_ia, ab_ra, ab_oa, ab_tg, ab_len, ab_uI]
                rw [nI_add]
                refine ih2 (k + 1) (by omega) _ ⟨scr_arr (scr_arr s2 (by omega)) (by omega), e44', fun k' a ea => ?_⟩ e69 ?_ (fun i v ev => ?_)
                · have hk' : k' < (flt (mis hi nW nV) w).length := by
                    rcases Nat.lt_or_ge k' (flt (mis hi nW nV) w).length with z | z
                    · exact z
                    · rw [List.getElem?_eq_none z] at ea
                      cases ea
                  obtain ⟨a1, a2, a3⟩ := I2' k' a ea
                  refine ⟨a1, ?_, fun i v ev => ?_⟩
                  · show (if 72 = 72 then if 0 = 0 then if k' = _ then _ else hi2 72 0 k' else hi2 72 0 k' else hi2 72 0 k') = _
                    rw [if_pos rfl, if_pos rfl, if_neg (by omega)]
                    exact a2
                  · show (if 123 = 123 then if k' = _ then if i = _ then _ else hi2 123 k' i else hi2 123 k' i else hi2 123 k' i) = _
                    rw [if_pos rfl, if_neg (by omega)]
                    exact a3 i v ev
                · show (if 72 = 72 then if 0 = 0 then if (flt (mis hi nW nV) w).length = (flt (mis hi nW nV) w).length then nI ((flt (mcould hi nW w) k).length + 1) else hi2 72 0 _ else hi2 72 0 _ else hi2 72 0 _) = _
                  rw [if_pos rfl, if_pos rfl, if_pos rfl, flt_yes q, List.length_append]
                  rfl
                · rw [ab_uI_k (by omega)]
                  rw [flt_yes q] at ev
                  rcases Nat.lt_or_ge i (flt (mcould hi nW w) k).length with z | z
                  · rw [List.getElem?_append_left z] at ev
                    rw [ab_uI_j (by omega)]
                    exact e123 i v ev
                  · rw [List.getElem?_append_right z] at ev
                    have hz : i = (flt (mcould hi nW w) k).length := by
                      rcases Nat.eq_zero_or_pos (i - (flt (mcould hi nW w) k).length) with y | y
                      · omega
                      · rw [List.getElem?_eq_none (by show 1 ≤ _; omega)] at ev
                        cases ev
                    subst hz
                    rw [Nat.sub_self] at ev
                    cases ev
                    exact ab_uI_e
              · rw [scr_could s2] at q
                refine step 114 _ _ _ _ _ _ _ ?_
                dsimp [ab_at, gX8_plans, ab_vc, ab_v1, ab_lk, ab_st, ab_en, ab_cst, ab_mc, ab_mS, ab_tk, ab_ns, mR, mAr, ab_ia, ab_ra, ab_oa, ab_tg, ab_len, ab_uI]
                refine ⟨fun q => absurd rfl q, fun _ => ?_⟩
                refine step 153 _ _ _ _ _ _ _ ?_
                dsimp [ab_at, gX8_plans, ab_vc, ab_v1, ab_lk, ab_st, ab_en, ab_cst, ab_mc, ab_mS, ab_tk, ab_ns, mR, mAr, ab_ia, ab_ra, ab_oa, ab_tg, ab_len, ab_uI]
                rw [nI_add]
                refine ih2 (k + 1) (by omega) _ ⟨s2, e44', I2'⟩ e69 ?_ ?_
                · rw [flt_no q]
                  exact e72
                · rw [flt_no q]
                  exact e123
          refine step 78 _ _ _ _ _ _ _ ?_
          dsimp [ab_at, gX8_plans, ab_vc, ab_v1, ab_lk, ab_st, ab_en, ab_cst, ab_mc, ab_mS, ab_tk, ab_ns, mR, mAr, ab_ia, ab_ra, ab_oa, ab_tg, ab_len, ab_uI]
          rw [e44, ia]
          refine ⟨ab_inI (by omega) (by omega), ab_inI (by omega) (by omega), ?_⟩
          refine loop2 nV 0 (by omega) _ ⟨scr_arr (scr_arr s1 (by omega)) (by omega), e44, fun k' a ea => ?_⟩ ?_ ?_ (fun i v ev => by cases ev)
          · have hk' : k' < (flt (mis hi nW nV) w).length := by
              rcases Nat.lt_or_ge k' (flt (mis hi nW nV) w).length with z | z
              · exact z
              · rw [List.getElem?_eq_none z] at ea
                cases ea
            obtain ⟨a1, a2, a3⟩ := I k' a ea
            refine ⟨?_, ?_, a3⟩
            · show (if 69 = 69 then if 0 = 0 then if k' = _ then _ else hi1 69 0 k' else hi1 69 0 k' else hi1 69 0 k') = _
              rw [if_pos rfl, if_pos rfl, if_neg (by omega)]
              exact a1
            · show (if 72 = 72 then if 0 = 0 then if k' = _ then _ else hi1 72 0 k' else hi1 72 0 k' else hi1 72 0 k') = _
              rw [if_pos rfl, if_pos rfl, if_neg (by omega)]
              exact a2
          · rw [ab_uI_k (by omega)]
            exact ab_uI_e
          · exact ab_uI_e
        · have e4 := (nI_eq (by omega) (by omega)).mp q
          have := flt_len (c := mis hi nW nV) (m := m) (n := w + 1)
          rw [show w + 1 + m = nW by omega, flt_yes hmis, List.length_append] at this
          have this : (flt (mis hi nW nV) w).length + 1 ≤ (mW hi nW nV).length := this
          omega
      have r61 : ∀ x v, x = (if mis hi nW nV w = true then nI 1 else nI 0) → J 61 [(0, mO), (1, .inl (nI w)), (2, .inl x), (3, .inl v)] [] hi1 (mR hr) cn 0 0 := fun x v hx => by
        subst hx
        refine step 61 _ _ _ _ _ _ _ ?_
        dsimp [ab_at, gX8_plans, ab_vc, ab_v1, ab_lk, ab_st, ab_en, ab_cst, ab_mc, ab_mS, ab_tk, ab_ns, mR, mAr, ab_ia, ab_ra, ab_oa, ab_tg, ab_len, ab_uI]
        by_cases hmis : mis hi nW nV w = true
        · rw [if_pos hmis]
          exact ⟨fun _ => r68 hmis _ _, fun q => absurd q (by decide)⟩
        · rw [if_neg hmis]
          have hf : mis hi nW nV w = false := by simpa using hmis
          refine ⟨fun q => absurd rfl q, fun _ => on _ _ ?_ ?_⟩
          · rw [flt_no hf]
            exact h4
          · rw [flt_no hf]
            exact I0
      have loop1 : ∀ mm k, k + mm = nV → (∀ j, j < k → ¬ (hi 43 0 w = nI 0 ∧ mcould hi nW w j = true)) → J 19 [(0, mO), (1, .inl (nI w)), (2, .inl (nI 0)), (3, .inl (nI k))] [] hi1 (mR hr) cn 0 0 := by
        intro mm
        induction mm with
        | zero =>
          intro k hk hno
          have hk : k = nV := by omega
          subst hk
          refine step 19 _ _ _ _ _ _ _ ?_
          dsimp [ab_at, gX8_plans, ab_vc, ab_v1, ab_lk, ab_st, ab_en, ab_cst, ab_mc, ab_mS, ab_tk, ab_ns, mR, mAr, ab_ia, ab_ra, ab_oa, ab_tg, ab_len, ab_uI]
          rw [f30 s1]
          refine ⟨fun _ => r61 _ _ ?_, fun q => absurd (Int32.le_refl _) q⟩
          rw [mis_no hno, if_neg (by decide)]
        | succ mm ih1 =>
          intro k hk hno
          have e43 : hi1 43 0 w = hi 43 0 w := s1 43 0 w (by omega) (by omega) (by omega)
          have no : ¬ (hi 43 0 w = nI 0 ∧ mcould hi nW w k = true) → J 54 [(0, mO), (1, .inl (nI w)), (2, .inl (nI 0)), (3, .inl (nI k))] [.inl (nI 0)] hi1 (mR hr) cn 0 0 := fun hn => by
            refine step 54 _ _ _ _ _ _ _ ?_
            dsimp [ab_at, gX8_plans, ab_vc, ab_v1, ab_lk, ab_st, ab_en, ab_cst, ab_mc, ab_mS, ab_tk, ab_ns, mR, mAr, ab_ia, ab_ra, ab_oa, ab_tg, ab_len, ab_uI]
            rw [nI_add]
            refine ih1 (k + 1) (by omega) (fun j hj => ?_)
            rcases Nat.lt_or_ge j k with z | z
            · exact hno j z
            · rw [show j = k by omega]
              exact hn
          refine step 19 _ _ _ _ _ _ _ ?_
          dsimp [ab_at, gX8_plans, ab_vc, ab_v1, ab_lk, ab_st, ab_en, ab_cst, ab_mc, ab_mS, ab_tk, ab_ns, mR, mAr, ab_ia, ab_ra, ab_oa, ab_tg, ab_len, ab_uI]
          rw [f30 s1, iw, e43]
          refine ⟨fun q => absurd ((nI_leI (by omega) (by omega)).mp q) (by omega), fun _ => ⟨fun q => absurd rfl q, fun _ => ⟨ab_inI (by omega) (by omega), fun q => ?_, fun q => ?_⟩⟩⟩
          · refine step 53 _ _ _ _ _ _ _ ?_
            dsimp [ab_at, gX8_plans, ab_vc, ab_v1, ab_lk, ab_st, ab_en, ab_cst, ab_mc, ab_mS, ab_tk, ab_ns, mR, mAr, ab_ia, ab_ra, ab_oa, ab_tg, ab_len, ab_uI]
            exact no (fun z => q z.1)
          · refine c_X8_couldHave hnb (scr_mok s1 M') (by omega) hwW (fun q2 => ?_) (fun q2 => ?_)
            · rw [scr_could s1] at q2
              have hmis := mis_yes q (show k < nV by omega) q2
              refine step 46 _ _ _ _ _ _ _ ?_
              dsimp [ab_at, gX8_plans, ab_vc, ab_v1, ab_lk, ab_st, ab_en, ab_cst, ab_mc, ab_mS, ab_tk, ab_ns, mR, mAr, ab_ia, ab_ra, ab_oa, ab_tg, ab_len, ab_uI]
              refine ⟨fun q => absurd q (by decide), fun _ => ?_⟩
              refine step 54 _ _ _ _ _ _ _ ?_
              dsimp [ab_at, gX8_plans, ab_vc, ab_v1, ab_lk, ab_st, ab_en, ab_cst, ab_mc, ab_mS, ab_tk, ab_ns, mR, mAr, ab_ia, ab_ra, ab_oa, ab_tg, ab_len, ab_uI]
              rw [nI_add]
              refine step 19 _ _ _ _ _ _ _ ?_
              dsimp [ab_at, gX8_plans, ab_vc, ab_v1, ab_lk, ab_st, ab_en, ab_cst, ab_mc, ab_mS, ab_tk, ab_ns, mR, mAr, ab_ia, ab_ra, ab_oa, ab_tg, ab_len, ab_uI]
              rw [f30 s1]
              exact ⟨fun _ => r61 _ _ (by rw [if_pos hmis]), fun _ => ⟨fun _ => r61 _ _ (by rw [if_pos hmis]), fun q => absurd q (by decide)⟩⟩
            · rw [scr_could s1] at q2
              refine step 46 _ _ _ _ _ _ _ ?_
              dsimp [ab_at, gX8_plans, ab_vc, ab_v1, ab_lk, ab_st, ab_en, ab_cst, ab_mc, ab_mS, ab_tk, ab_ns, mR, mAr, ab_ia, ab_ra, ab_oa, ab_tg, ab_len, ab_uI]
              refine ⟨fun _ => ?_, fun q => absurd rfl q⟩
              refine step 53 _ _ _ _ _ _ _ ?_
              dsimp [ab_at, gX8_plans, ab_vc, ab_v1, ab_lk, ab_st, ab_en, ab_cst, ab_mc, ab_mS, ab_tk, ab_ns, mR, mAr, ab_ia, ab_ra, ab_oa, ab_tg, ab_len, ab_uI]
              exact no (fun z => by rw [q2] at z; cases z.2)
      refine step 7 _ _ _ _ _ _ _ ?_
      dsimp [ab_at, gX8_plans, ab_vc, ab_v1, ab_lk, ab_st, ab_en, ab_cst, ab_mc, ab_mS, ab_tk, ab_ns, mR, mAr, ab_ia, ab_ra, ab_oa, ab_tg, ab_len, ab_uI]
      rw [f23 s1]
      refine ⟨fun q => absurd ((nI_leI (by omega) (by omega)).mp q) (by omega), fun _ => ?_⟩
      exact loop1 nV 0 (by omega) (fun j hj => absurd hj (by omega))
  refine step 0 _ _ _ _ _ _ _ ?_
  dsimp [ab_at, gX8_plans, ab_vc, ab_v1, ab_lk, ab_st, ab_en, ab_cst, ab_mc, ab_mS, ab_tk, ab_ns, mR, mAr, ab_ia, ab_ra, ab_oa, ab_tg, ab_len, ab_uI]
  exact loop nW 0 (by omega) _ (by show 0 ≤ 4; omega) ⟨scr_f scr_refl (by omega), rfl, fun k a ea => by cases ea⟩
end MOD9
