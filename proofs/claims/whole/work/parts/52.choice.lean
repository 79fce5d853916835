/-! CHOICES AND PLANS -/
theorem nI_sub1 {n : Nat} (h : 0 < n) : nI n - nI 1 = nI (n - 1) := by
  rcases n with _ | n
  · omega
  · exact nI_pred n
/-- a choice alone has changed -/
def chF (c : Nat) (hi : ab_I) (hr : ab_R) (hi' : ab_I) (hr' : ab_R) : Prop := (∀ K i j, ¬ (K = 12 ∧ i = c) → ¬ (K = 1 ∧ i = c ∧ j = 3) → hi' K i j = hi K i j) ∧ (∀ K i j, ¬ (K = 15 ∧ i = c) → hr' K i j = hr K i j)
theorem chF_rf {c : Nat} {hi : ab_I} {hr : ab_R} : chF c hi hr hi hr := ⟨fun _ _ _ _ _ => rfl, fun _ _ _ _ => rfl⟩
theorem chF_tr {c : Nat} {hi hi1 hi2 : ab_I} {hr hr1 hr2 : ab_R} (h : chF c hi hr hi1 hr1) (h' : chF c hi1 hr1 hi2 hr2) : chF c hi hr hi2 hr2 := ⟨fun K i j q1 q2 => (h'.1 K i j q1 q2).trans (h.1 K i j q1 q2), fun K i j q => (h'.2 K i j q).trans (h.2 K i j q)⟩
theorem chF_m {c j : Nat} {hi : ab_I} {hr : ab_R} {x : Int32} : chF c hi hr (ab_uI hi 12 c j x) hr := ⟨fun K i j' q1 q2 => by
  by_cases e : K = 12
  · exact ab_uI_i fun z => q1 ⟨e, z⟩
  · exact ab_uI_k e, fun _ _ _ _ => rfl⟩
theorem chF_s {c : Nat} {hi : ab_I} {hr : ab_R} {x : Int32} : chF c hi hr (ab_uI hi 1 c 3 x) hr := ⟨fun K i j' q1 q2 => by
  by_cases e : K = 1
  · by_cases e2 : i = c
    · exact ab_uI_j fun z => q2 ⟨e, e2, z⟩
    · exact ab_uI_i e2
  · exact ab_uI_k e, fun _ _ _ _ => rfl⟩
theorem chF_w {c j : Nat} {hi : ab_I} {hr : ab_R} {x : Option (Nat × Nat)} : chF c hi hr hi (ab_uR hr 15 c j x) := ⟨fun _ _ _ _ _ => rfl, fun K i j' q => by
  by_cases e : K = 15
  · exact ab_uR_i fun z => q ⟨e, z⟩
  · exact ab_uR_k e⟩
/-- the wishes of a choice, with their miles -/
def chL (hi : ab_I) (hr : ab_R) (c : Nat) (m : Nat → Nat) (N : List Nat) : Prop := hi 1 c 3 = nI N.length ∧ N.length ≤ 4 ∧ ∀ i u, N[i]? = some u → hr 15 c i = some (6, u) ∧ hi 12 c i = nI (m u) ∧ m u ≤ 500
/-- one more wish -/
def addN (m : Nat → Nat) (N : List Nat) (v : Nat) (N' : List Nat) : Prop := (N.length < 4 ∧ N' = N ++ [v]) ∨ (N.length = 4 ∧ ∃ (f x : Nat), N[f]? = some x ∧ (∀ (i u : Nat), N[i]? = some u → m u ≤ m x) ∧ (∀ (i u : Nat), f < i → N[i]? = some u → m u < m x) ∧ ((m x ≤ m v ∧ N' = N) ∨ (m v < m x ∧ N' = N.eraseIdx f ++ [v])))
section CH
variable {E : ab_E} {d : Nat} {hi : ab_I} {hr : ab_R} {cn : ab_C} {Q : ab_Q}
theorem c_X0_lof (hnb : ab_n E < 2 ^ 31) {c n : Nat} {mi : Nat → Nat} (hn : n ≤ 4) (h0 : 0 < n) (e3 : hi 1 c 3 = nI n) (em : ∀ i, i < n → hi 12 c i = nI (mi i) ∧ mi i ≤ 500) (h : ∀ f, f < n → (∀ i, i < n → mi i ≤ mi f) → (∀ i, f < i → i < n → mi i < mi f) → Q (some (.inl (nI f))) hi (cR hr) cn) : ab_Wm E (d + 1) nX0_lastOfFarthest [.inr (some (1, c))] hi (cR hr) cn Q := by
  refine ab_Wm_of gX0_lastOfFarthest kX0_lastOfFarthest 1 rfl rfl hnb (fun J step drop less => ?_)
  have loop : ∀ m k f, k + m = n → f < k → (∀ i, i < k → mi i ≤ mi f) → (∀ i, f < i → i < k → mi i < mi f) → J 4 [(0, .inr (some (1, c))), (1, .inl (nI f)), (2, .inl (nI k))] [] hi (cR hr) cn 0 0 := by
    intro m
    induction m with
    | zero =>
      intro k f hk hf a1 a2
      have hk : k = n := by omega
      subst hk
      refine step 4 _ _ _ _ _ _ _ ?_
      dsimp [ab_at, gX0_lastOfFarthest, nX0_lastOfFarthest, ab_vc, ab_v1, ab_lk, ab_st, ab_en, ab_cst, ab_mc, ab_mS, ab_tk, ab_ns, cR, ab_ia, ab_ra, ab_oa, ab_tg, ab_len, ab_uI, ab_uR]
      rw [e3]
      refine ⟨fun _ => ?_, fun q => absurd (Int32.le_refl _) q⟩
      refine step 35 _ _ _ _ _ _ _ ?_
      dsimp [ab_at, gX0_lastOfFarthest, nX0_lastOfFarthest, ab_vc, ab_v1, ab_lk, ab_st, ab_en, ab_cst, ab_mc, ab_mS, ab_tk, ab_ns, cR, ab_ia, ab_ra, ab_oa, ab_tg, ab_len, ab_uI, ab_uR]
      exact h f hf a1 a2
    | succ m ih =>
      intro k f hk hf a1 a2
      have ik : ab_ix (nI k) = k := ab_ix_nI (by omega)
      have jf : ab_ix (nI f) = f := ab_ix_nI (by omega)
      obtain ⟨m1, m2⟩ := em k (by omega)
      obtain ⟨m3, m4⟩ := em f (by omega)
      have on : ∀ f', f' < k + 1 → (∀ i, i < k + 1 → mi i ≤ mi f') → (∀ i, f' < i → i < k + 1 → mi i < mi f') → J 29 [(0, .inr (some (1, c))), (1, .inl (nI f')), (2, .inl (nI k))] [] hi (cR hr) cn 0 0 := fun f' b1 b2 b3 => by
        refine step 29 _ _ _ _ _ _ _ ?_
        dsimp [ab_at, gX0_lastOfFarthest, nX0_lastOfFarthest, ab_vc, ab_v1, ab_lk, ab_st, ab_en, ab_cst, ab_mc, ab_mS, ab_tk, ab_ns, cR, ab_ia, ab_ra, ab_oa, ab_tg, ab_len, ab_uI, ab_uR]
        rw [nI_add]
        exact ih (k + 1) f' (by omega) b1 b2 b3
      refine step 4 _ _ _ _ _ _ _ ?_
      dsimp [ab_at, gX0_lastOfFarthest, nX0_lastOfFarthest, ab_vc, ab_v1, ab_lk, ab_st, ab_en, ab_cst, ab_mc, ab_mS, ab_tk, ab_ns, cR, ab_ia, ab_ra, ab_oa, ab_tg, ab_len, ab_uI, ab_uR]
      rw [e3, ik, jf, m1, m3]
      refine ⟨fun q => absurd ((nI_leI (by omega) (by omega)).mp q) (by omega), fun _ => ⟨ab_inI (by omega) (by omega), ab_inI (by omega) (by omega), fun q => ?_, fun q => ?_⟩⟩
      · have q' := (nI_ltI (by omega) (by omega)).mp q
        refine on f (by omega) (fun i hi' => ?_) (fun i h1 h2 => ?_)
        · rcases Nat.lt_or_ge i k with z | z
          · exact a1 i z
          · rw [show i = k by omega]
            omega
        · rcases Nat.lt_or_ge i k with z | z
          · exact a2 i h1 z
          · rw [show i = k by omega]
            omega
      · have q' : ¬ mi k < mi f := fun z => q ((nI_ltI (by omega) (by omega)).mpr z)
        refine on k (by omega) (fun i hi' => ?_) (fun i h1 h2 => absurd h1 (by omega))
        rcases Nat.lt_or_ge i k with z | z
        · have := a1 i z
          omega
        · rw [show i = k by omega]
          omega
  refine step 0 _ _ _ _ _ _ _ ?_
  dsimp [ab_at, gX0_lastOfFarthest, nX0_lastOfFarthest, ab_vc, ab_v1, ab_lk, ab_st, ab_en, ab_cst, ab_mc, ab_mS, ab_tk, ab_ns, cR, ab_ia, ab_ra, ab_oa, ab_tg, ab_len, ab_uI, ab_uR]
  exact loop (n - 1) 1 0 (by omega) (by omega) (fun i hi' => by rw [show i = 0 by omega]; exact Nat.le_refl _) (fun i h1 h2 => absurd h1 (by omega))
theorem c_X0_drop (hnb : ab_n E < 2 ^ 31) {c n p : Nat} {v : Nat → Nat} {x : Nat → Int32} (hn : n ≤ 4) (hp : p < n) (e3 : hi 1 c 3 = nI n) (ev : ∀ i, i < n → hr 15 c i = some (6, v i)) (ex : ∀ i, i < n → hi 12 c i = x i) (h : ∀ hi' hr', chF c hi hr hi' hr' → hi' 1 c 3 = nI (n - 1) → (∀ i, i < n - 1 → hr' 15 c i = some (6, v (if i < p then i else i + 1)) ∧ hi' 12 c i = x (if i < p then i else i + 1)) → Q none hi' (cR hr') cn) : ab_Wm E (d + 1) nX0_drop [.inr (some (1, c)), .inl (nI p)] hi (cR hr) cn Q := by
  refine ab_Wm_of gX0_drop kX0_drop 0 rfl rfl hnb (fun J step drop less => ?_)
  have loop : ∀ m k, k + m = n - 1 → p ≤ k → ∀ hi1 hr1, chF c hi hr hi1 hr1 → hi1 1 c 3 = nI n → (∀ i, i < n → hr1 15 c i = some (6, v (if p ≤ i ∧ i < k then i + 1 else i)) ∧ hi1 12 c i = x (if p ≤ i ∧ i < k then i + 1 else i)) → J 2 [(0, .inr (some (1, c))), (1, .inl (nI p)), (2, .inl (nI k))] [] hi1 (cR hr1) cn 0 0 := by
    intro m
    induction m with
    | zero =>
      intro k hk hpk hi1 hr1 f1 s1 g1
      have hk : k = n - 1 := by omega
      subst hk
      refine step 2 _ _ _ _ _ _ _ ?_
      dsimp [ab_at, gX0_drop, nX0_drop, ab_vc, ab_v1, ab_lk, ab_st, ab_en, ab_cst, ab_mc, ab_mS, ab_tk, ab_ns, cR, ab_ia, ab_ra, ab_oa, ab_tg, ab_len, ab_uI, ab_uR]
      rw [s1, nI_sub1 (by omega)]
      refine ⟨fun _ => ?_, fun q => absurd (Int32.le_refl _) q⟩
      refine step 46 _ _ _ _ _ _ _ ?_
      dsimp [ab_at, gX0_drop, nX0_drop, ab_vc, ab_v1, ab_lk, ab_st, ab_en, ab_cst, ab_mc, ab_mS, ab_tk, ab_ns, cR, ab_ia, ab_ra, ab_oa, ab_tg, ab_len, ab_uI, ab_uR]
      rw [s1, nI_sub1 (by omega)]
      refine h _ hr1 (chF_tr f1 chF_s) ab_uI_e (fun i hi' => ?_)
      obtain ⟨g2, g3⟩ := g1 i (by omega)
      have ei : (if p ≤ i ∧ i < n - 1 then i + 1 else i) = (if i < p then i else i + 1) := by
        by_cases z : i < p
        · rw [if_pos z, if_neg (by omega)]
        · rw [if_neg z, if_pos (by omega)]
      rw [ei] at g2 g3
      exact ⟨g2, g3⟩
    | succ m ih =>
      intro k hk hpk hi1 hr1 f1 s1 g1
      have ik : ab_ix (nI k) = k := ab_ix_nI (by omega)
      have ik1 : ab_ix (nI (k + 1)) = k + 1 := ab_ix_nI (by omega)
      obtain ⟨g2, g3⟩ := g1 (k + 1) (by omega)
      rw [if_neg (by omega)] at g2 g3
      refine step 2 _ _ _ _ _ _ _ ?_
      dsimp [ab_at, gX0_drop, nX0_drop, ab_vc, ab_v1, ab_lk, ab_st, ab_en, ab_cst, ab_mc, ab_mS, ab_tk, ab_ns, cR, ab_ia, ab_ra, ab_oa, ab_tg, ab_len, ab_uI, ab_uR]
      rw [s1, nI_sub1 (by omega), nI_add, ik, ik1, g2, g3]
      refine ⟨fun q => absurd ((nI_leI (by omega) (by omega)).mp q) (by omega), fun _ => ⟨ab_inI (by omega) (by omega), ?_⟩⟩
      refine ⟨fun K i q => by cases q; exact ⟨by omega, fun z => by omega, fun _ => rfl⟩, ab_inI (by omega) (by omega), ab_inI (by omega) (by omega), ab_inI (by omega) (by omega), ?_⟩
      rw [cR_uR rfl]
      refine ih (k + 1) (by omega) (by omega) _ _ (chF_tr f1 (chF_tr chF_m chF_w)) s1 (fun i hi' => ?_)
      by_cases z : i = k
      · subst z
        rw [ab_uR_e, ab_uI_e, if_pos ⟨hpk, by omega⟩]
        exact ⟨rfl, rfl⟩
      · rw [ab_uR_j z, ab_uI_j z]
        obtain ⟨g4, g5⟩ := g1 i hi'
        have ei : (if p ≤ i ∧ i < k + 1 then i + 1 else i) = (if p ≤ i ∧ i < k then i + 1 else i) := by
          by_cases y : p ≤ i ∧ i < k
          · rw [if_pos y, if_pos (by omega)]
          · rw [if_neg y, if_neg (by omega)]
        rw [ei]
        exact ⟨g4, g5⟩
  refine step 0 _ _ _ _ _ _ _ ?_
  dsimp [ab_at, gX0_drop, nX0_drop, ab_vc, ab_v1, ab_lk, ab_st, ab_en, ab_cst, ab_mc, ab_mS, ab_tk, ab_ns, cR, ab_ia, ab_ra, ab_oa, ab_tg, ab_len, ab_uI, ab_uR]
  refine loop (n - 1 - p) p (by omega) (by omega) hi hr chF_rf e3 (fun i hi' => ?_)
  rw [if_neg (by omega)]
  exact ⟨ev i hi', ex i hi'⟩
theorem c_X0_add (hnb : ab_n E < 2 ^ 31) {c v : Nat} {m : Nat → Nat} {N : List Nat} (C : chL hi hr c m N) (hmv : m v ≤ 500) (h : ∀ hi' hr' N', chF c hi hr hi' hr' → addN m N v N' → chL hi' hr' c m N' → Q none hi' (cR hr') cn) : ab_Wm E (d + 2) nX0_add [.inr (some (1, c)), .inr (some (6, v)), .inl (nI (m v))] hi (cR hr) cn Q := by
  refine ab_Wm_of gX0_add kX0_add 0 rfl rfl hnb (fun J step drop less => ?_)
  have r29 : ∀ hi1 hr1 N1, chF c hi hr hi1 hr1 → chL hi1 hr1 c m N1 → N1.length < 4 → addN m N v (N1 ++ [v]) → J 29 [(0, .inr (some (1, c))), (1, .inr (some (6, v))), (2, .inl (nI (m v)))] [] hi1 (cR hr1) cn 0 0 := fun hi1 hr1 N1 f1 c1 l1 a1 => by
    obtain ⟨s1, -, g1⟩ := c1
    have il : ab_ix (nI N1.length) = N1.length := ab_ix_nI (by omega)
    refine step 29 _ _ _ _ _ _ _ ?_
    dsimp [ab_at, gX0_add, nX0_add, ab_vc, ab_v1, ab_lk, ab_st, ab_en, ab_cst, ab_mc, ab_mS, ab_tk, ab_ns, cR, ab_ia, ab_ra, ab_oa, ab_tg, ab_len, ab_uI, ab_uR]
    rw [s1, il, nI_add]
    refine ⟨fun K i q => by cases q; exact ⟨by omega, fun z => by omega, fun _ => rfl⟩, ab_inI (by omega) (by omega), ab_inI (by omega) (by omega), ?_⟩
    rw [cR_uR rfl]
    refine h _ _ (N1 ++ [v]) (chF_tr f1 (chF_tr chF_w (chF_tr chF_m chF_s))) a1 ⟨?_, ?_, fun i u hu => ?_⟩
    · rw [List.length_append]
      exact ab_uI_e
    · rw [List.length_append]
      show N1.length + 1 ≤ 4
      omega
    · show ab_uR hr1 15 c N1.length (some (6, v)) 15 c i = _ ∧ ab_uI (ab_uI hi1 12 c N1.length (nI (m v))) 1 c 3 _ 12 c i = _ ∧ _
      rw [ab_uI_k (by omega)]
      rcases Nat.lt_trichotomy i N1.length with z | z | z
      · rw [List.getElem?_append_left z] at hu
        rw [ab_uR_j (by omega), ab_uI_j (by omega)]
        exact g1 i u hu
      · subst z
        rw [List.getElem?_append_right (Nat.le_refl _), Nat.sub_self] at hu
        cases hu
        rw [ab_uR_e, ab_uI_e]
        exact ⟨rfl, rfl, hmv⟩
      · rw [List.getElem?_append_right (by omega), List.getElem?_eq_none (by show 1 ≤ _; omega)] at hu
        cases hu
  have C' := C
  obtain ⟨s0, l0, g0⟩ := C
  have gd : ∀ i, i < N.length → N[i]? = some (N.getD i 0) := fun i hi' => by
    rw [List.getD_eq_getElem?_getD, List.getElem?_eq_getElem hi']
    rfl
  refine step 0 _ _ _ _ _ _ _ ?_
  dsimp [ab_at, gX0_add, nX0_add, ab_vc, ab_v1, ab_lk, ab_st, ab_en, ab_cst, ab_mc, ab_mS, ab_tk, ab_ns, cR, ab_ia, ab_ra, ab_oa, ab_tg, ab_len, ab_uI, ab_uR]
  rw [s0]
  refine ⟨fun q => ?_, fun q => ?_⟩
  · have q' := (nI_ltI (by omega) (by omega)).mp q
    exact r29 hi hr N chF_rf C' q' (Or.inl ⟨q', rfl⟩)
  · have q' : ¬ N.length < 4 := fun z => q ((nI_ltI (by omega) (by omega)).mpr z)
    have l4 : N.length = 4 := by omega
    refine c_X0_lof hnb (n := 4) (mi := fun i => m (N.getD i 0)) (by omega) (by omega) (by rw [s0, l4]) (fun i hi' => ⟨(g0 i _ (gd i (by omega))).2.1, (g0 i _ (gd i (by omega))).2.2⟩) (fun f hf a1 a2 => ?_)
    have jf : ab_ix (nI f) = f := ab_ix_nI (by omega)
    have ef := gd f (by omega)
    obtain ⟨-, g2, g3⟩ := g0 f _ ef
    have b1 : ∀ i u, N[i]? = some u → m u ≤ m (N.getD f 0) := fun i u hu => by
      have hi' := (List.getElem?_eq_some_iff.mp hu).1
      have := a1 i (by omega)
      rw [gd i hi'] at hu
      cases hu
      exact this
    have b2 : ∀ i u, f < i → N[i]? = some u → m u < m (N.getD f 0) := fun i u hfi hu => by
      have hi' := (List.getElem?_eq_some_iff.mp hu).1
      have := a2 i hfi (by omega)
      rw [gd i hi'] at hu
      cases hu
      exact this
    refine step 12 _ _ _ _ _ _ _ ?_
    dsimp [ab_at, gX0_add, nX0_add, ab_vc, ab_v1, ab_lk, ab_st, ab_en, ab_cst, ab_mc, ab_mS, ab_tk, ab_ns, cR, ab_ia, ab_ra, ab_oa, ab_tg, ab_len, ab_uI, ab_uR]
    rw [jf, g2]
    refine ⟨ab_inI (by omega) (by omega), fun q2 => ?_, fun q2 => ?_⟩
    · have q2' := (nI_ltI (by omega) (by omega)).mp q2
      refine step 24 _ _ _ _ _ _ _ ?_
      dsimp [ab_at, gX0_add, nX0_add, ab_vc, ab_v1, ab_lk, ab_st, ab_en, ab_cst, ab_mc, ab_mS, ab_tk, ab_ns, cR, ab_ia, ab_ra, ab_oa, ab_tg, ab_len, ab_uI, ab_uR]
      refine c_X0_drop hnb (n := 4) (v := fun i => N.getD i 0) (x := fun i => hi 12 c i) (by omega) hf (by rw [s0, l4]) (fun i hi' => (g0 i _ (gd i (by omega))).1) (fun i hi' => rfl) (fun hi1 hr1 f1 s1 g4 => ?_)
      refine drop _ _ _ _ _ _ _ _ _ ab_dr3 ?_
      have le : (N.eraseIdx f).length = 3 := by
        rw [List.length_eraseIdx, if_pos (by omega), l4]
      refine r29 hi1 hr1 (N.eraseIdx f) f1 ⟨by rw [le]; exact s1, by omega, fun i u hu => ?_⟩ (by omega) (Or.inr ⟨l4, f, _, ef, b1, b2, Or.inr ⟨q2', rfl⟩⟩)
      have hi' : i < 3 := by
        have := (List.getElem?_eq_some_iff.mp hu).1
        omega
      obtain ⟨g5, g6⟩ := g4 i hi'
      rw [List.getElem?_eraseIdx] at hu
      have hu2 : N[if i < f then i else i + 1]? = some u := by
        by_cases z : i < f
        · rw [if_pos z] at hu ⊢
          exact hu
        · rw [if_neg z] at hu ⊢
          exact hu
      have hj : (if i < f then i else i + 1) < 4 := by
        split <;> omega
      rw [gd _ (by omega)] at hu2
      have hu3 : N.getD (if i < f then i else i + 1) 0 = u := by
        cases hu2
        rfl
      obtain ⟨-, g7, g8⟩ := g0 _ _ (gd (if i < f then i else i + 1) (by omega))
      rw [hu3] at g7 g8
      refine ⟨?_, ?_, g8⟩
      · rw [g5]
        show some (6, N.getD (if i < f then i else i + 1) 0) = _
        rw [hu3]
      · rw [g6]
        exact g7
    · have q2' : ¬ m v < m (N.getD f 0) := fun z => q2 ((nI_ltI (by omega) (by omega)).mpr z)
      exact h hi hr N chF_rf (Or.inr ⟨l4, f, _, ef, b1, b2, Or.inl ⟨by omega, rfl⟩⟩) C'
end CH
/-! the four nearest, one wish after another -/
theorem near_add {P N N' : List Nat} {v : Nat} {m : Nat → Nat} (hs : P.Pairwise (· < ·)) (hv : ∀ u ∈ P, u < v) (hn : pl_near P N m) (ha : addN m N v N') : pl_near (P ++ [v]) N' m := by
  obtain ⟨n1, n2⟩ := hn
  have hsN : N.Pairwise (· < ·) := hs.sublist n1
  rcases ha with ⟨a1, rfl⟩ | ⟨a1, f, x, a2, a3, a4, a5⟩
  · refine ⟨n1.append (List.Sublist.refl _), fun u hu hu' => ?_⟩
    rcases List.mem_append.mp hu with z | z
    · have := (n2 u z (fun y => hu' (List.mem_append.mpr (Or.inl y)))).1
      omega
    · exact absurd (List.mem_append.mpr (Or.inr z)) hu'
  · have hxN := List.mem_of_getElem? a2
    have hle : ∀ u ∈ N, m u ≤ m x := fun u hu => by
      obtain ⟨i, hi⟩ := List.getElem?_of_mem hu
      exact a3 i u hi
    rcases a5 with ⟨a5, rfl⟩ | ⟨a5, rfl⟩
    · refine ⟨n1.trans (List.sublist_append_left _ _), fun u hu hu' => ?_⟩
      rcases List.mem_append.mp hu with z | z
      · exact n2 u z hu'
      · rw [List.mem_singleton.mp z]
        refine ⟨a1, fun y hy => ?_⟩
        have h1 := hle y hy
        have h2 := hv y (n1.subset hy)
        omega
    · have hfl := (List.getElem?_eq_some_iff.mp a2).1
      have hlen : (N.eraseIdx f ++ [v]).length = 4 := by
        rw [List.length_append, List.length_eraseIdx, if_pos hfl, a1]
        rfl
      have hmem : ∀ y ∈ N.eraseIdx f, y ∈ N ∧ (m y < m x ∨ (m y = m x ∧ y < x)) := fun y hy => by
        have hyN := List.mem_of_mem_eraseIdx hy
        refine ⟨hyN, ?_⟩
        obtain ⟨i, hi⟩ := List.getElem?_of_mem hy
        rw [List.getElem?_eraseIdx] at hi
        by_cases z : i < f
        · rw [if_pos z] at hi
          have h1 := a3 i y hi
          have h2 : y < x := by
            obtain ⟨b1, b2⟩ := List.getElem?_eq_some_iff.mp hi
            obtain ⟨b3, b4⟩ := List.getElem?_eq_some_iff.mp a2
            rw [← b2, ← b4]
            exact List.pairwise_iff_getElem.mp hsN i f b1 b3 z
          omega
        · rw [if_neg z] at hi
          have h1 := a4 (i + 1) y (by omega) hi
          omega
      refine ⟨((List.eraseIdx_sublist N f).trans n1).append (List.Sublist.refl _), fun u hu hu' => ⟨hlen, fun y hy => ?_⟩⟩
      have huv : u ∈ P := by
        rcases List.mem_append.mp hu with z | z
        · exact z
        · exact absurd (List.mem_append.mpr (Or.inr z)) hu'
      by_cases huN : u ∈ N
      · -- u is the one that was dropped
        have hux : u = x := by
          obtain ⟨i, hi⟩ := List.getElem?_of_mem huN
          rcases Nat.lt_trichotomy i f with z | z | z
          · exact absurd (List.mem_append.mpr (Or.inl (List.mem_of_getElem? (i := i) (by rw [List.getElem?_eraseIdx, if_pos z]; exact hi)))) hu'
          · rw [z, a2] at hi
            cases hi
            rfl
          · refine absurd (List.mem_append.mpr (Or.inl (List.mem_of_getElem? (i := i - 1) ?_))) hu'
            rw [List.getElem?_eraseIdx, if_neg (by omega), show i - 1 + 1 = i by omega]
            exact hi
        subst hux
        rcases List.mem_append.mp hy with z | z
        · exact (hmem y z).2
        · rw [List.mem_singleton.mp z]
          exact Or.inl a5
      · obtain ⟨b1, b2⟩ := n2 u huv huN
        rcases List.mem_append.mp hy with z | z
        · exact b2 y (hmem y z).1
        · rw [List.mem_singleton.mp z]
          have := b2 x hxN
          omega

