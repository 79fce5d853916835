/-- the plan's places hold the four choices -/
def plP (hr : ab_R) (s : Nat → Nat) : Prop := (∀ p, p < 4 → s p < 4 ∧ hr 14 0 p = some (1, s p)) ∧ ∀ p q, p < 4 → q < 4 → s p = s q → p = q
/-- the plan: its works in order, the wishes of each -/
def plS (hi : ab_I) (hr : ab_R) (m : Nat → Nat) (ws : List Nat) (Ns : Nat → List Nat) (s : Nat → Nat) : Prop := plP hr s ∧ hi 4 0 1 = nI ws.length ∧ ws.length ≤ 4 ∧ ∀ (p w : Nat), ws[p]? = some w → hr 1 (s p) 2 = some (7, w) ∧ hr 1 (s p) 4 = none ∧ hr 1 (s p) 5 = none ∧ chL hi hr (s p) m (Ns w)
/-- the plan alone has changed -/
def plF (hi : ab_I) (hr : ab_R) (hi' : ab_I) (hr' : ab_R) : Prop := (∀ K i j, K ≠ 1 → K ≠ 4 → K ≠ 12 → hi' K i j = hi K i j) ∧ (∀ K i j, K ≠ 1 → K ≠ 14 → K ≠ 15 → hr' K i j = hr K i j)
theorem plF_rf {hi : ab_I} {hr : ab_R} : plF hi hr hi hr := ⟨fun _ _ _ _ _ _ => rfl, fun _ _ _ _ _ _ => rfl⟩
theorem plF_tr {hi hi1 hi2 : ab_I} {hr hr1 hr2 : ab_R} (h : plF hi hr hi1 hr1) (h' : plF hi1 hr1 hi2 hr2) : plF hi hr hi2 hr2 := ⟨fun K i j a b c => (h'.1 K i j a b c).trans (h.1 K i j a b c), fun K i j a b c => (h'.2 K i j a b c).trans (h.2 K i j a b c)⟩
theorem plF_I {hi : ab_I} {hr : ab_R} {K i j : Nat} {x : Int32} (hK : K = 1 ∨ K = 4 ∨ K = 12) : plF hi hr (ab_uI hi K i j x) hr := ⟨fun K' i' j' a b c => ab_uI_k (by omega), fun _ _ _ _ _ _ => rfl⟩
theorem plF_R {hi : ab_I} {hr : ab_R} {K i j : Nat} {x : Option (Nat × Nat)} (hK : K = 1 ∨ K = 14 ∨ K = 15) : plF hi hr hi (ab_uR hr K i j x) := ⟨fun _ _ _ _ _ _ => rfl, fun K' i' j' a b c => ab_uR_k (by omega)⟩
theorem plF_ch {hi hi' : ab_I} {hr hr' : ab_R} {c : Nat} (h : chF c hi hr hi' hr') : plF hi hr hi' hr' := ⟨fun K i j a b c' => h.1 K i j (fun z => c' z.1) (fun z => a z.1), fun K i j a b c' => h.2 K i j (fun z => c' z.1)⟩
def upN (Ns : Nat → List Nat) (w : Nat) (N : List Nat) (u : Nat) : List Nat := if u = w then N else Ns u
section PLN
variable {E : ab_E} {d : Nat} {hi : ab_I} {hr : ab_R} {cn : ab_C} {Q : ab_Q}
def cClear (hi : ab_I) : ab_I := ab_uI (ab_uI (ab_uI (ab_uI hi 4 0 1 (nI 0)) 4 0 2 (nI 0)) 4 0 3 (nI 0)) 4 0 4 (nI 0)
theorem c_X3_clear (hnb : ab_n E < 2 ^ 31) (h : Q none (cClear hi) hr cn) : ab_Wm E (d + 1) nX3_clear [.inr (some (4, 0))] hi hr cn Q := by
  refine ab_Wm_of gX3_clear kX3_clear 0 rfl rfl hnb (fun J step drop less => ?_)
  refine step 0 _ _ _ _ _ _ _ ?_
  dsimp [ab_at, gX3_clear, nX3_clear, ab_vc, ab_v1, ab_lk, ab_st, ab_en, ab_cst, ab_mc, ab_mS, ab_tk, ab_ns, cR, ab_ia, ab_ra, ab_oa, ab_tg, ab_len, ab_uI, ab_uR]
  exact ⟨Or.inl rfl, h⟩
theorem c_X3_canBeAsked (hnb : ab_n E < 2 ^ 31) (h1 : ¬ hi 4 0 1 ≤ 0 → hi 4 0 2 = nI 0 → Q (some (.inl (nI 1))) hi hr cn) (h0 : ¬ (¬ hi 4 0 1 ≤ 0 ∧ hi 4 0 2 = nI 0) → Q (some (.inl (nI 0))) hi hr cn) : ab_Wm E (d + 1) nX3_canBeAsked [.inr (some (4, 0))] hi hr cn Q := by
  refine ab_Wm_of gX3_canBeAsked kX3_canBeAsked 2 rfl rfl hnb (fun J step drop less => ?_)
  have r18 : ¬ (¬ hi 4 0 1 ≤ 0 ∧ hi 4 0 2 = nI 0) → ∀ L ck cs, J 18 L [] hi hr cn ck cs := fun q L ck cs => by
    refine step 18 _ _ _ _ _ _ _ ?_
    dsimp [ab_at, gX3_canBeAsked, nX3_canBeAsked, ab_vc, ab_v1, ab_lk, ab_st, ab_en, ab_cst, ab_mc, ab_mS, ab_tk, ab_ns, cR, ab_ia, ab_ra, ab_oa, ab_tg, ab_len, ab_uI, ab_uR]
    refine step 19 _ _ _ _ _ _ _ ?_
    dsimp [ab_at, gX3_canBeAsked, nX3_canBeAsked, ab_vc, ab_v1, ab_lk, ab_st, ab_en, ab_cst, ab_mc, ab_mS, ab_tk, ab_ns, cR, ab_ia, ab_ra, ab_oa, ab_tg, ab_len, ab_uI, ab_uR]
    exact ⟨Or.inl rfl, h0 q⟩
  refine step 0 _ _ _ _ _ _ _ ?_
  dsimp [ab_at, gX3_canBeAsked, nX3_canBeAsked, ab_vc, ab_v1, ab_lk, ab_st, ab_en, ab_cst, ab_mc, ab_mS, ab_tk, ab_ns, cR, ab_ia, ab_ra, ab_oa, ab_tg, ab_len, ab_uI, ab_uR]
  refine ⟨fun q => r18 (fun z => z.1 q) _ _ _, fun q => ⟨fun q2 => r18 (fun z => q2 z.2) _ _ _, fun q2 => ?_⟩⟩
  refine step 19 _ _ _ _ _ _ _ ?_
  dsimp [ab_at, gX3_canBeAsked, nX3_canBeAsked, ab_vc, ab_v1, ab_lk, ab_st, ab_en, ab_cst, ab_mc, ab_mS, ab_tk, ab_ns, cR, ab_ia, ab_ra, ab_oa, ab_tg, ab_len, ab_uI, ab_uR]
  exact ⟨Or.inr rfl, h1 q q2⟩
theorem c_X3_placeFor (hnb : ab_n E < 2 ^ 31) {m : Nat → Nat} {ws : List Nat} {Ns : Nat → List Nat} {s : Nat → Nat} {w : Nat} (S : plS hi hr m ws Ns s) (hw : hi 7 w 0 = nI w ∧ w < 200) (hws : ∀ u ∈ ws, hi 7 u 0 = nI u ∧ u < 200) (h : ∀ p, p ≤ ws.length → (∀ (i u : Nat), i < p → ws[i]? = some u → u < w) → (∀ u, ws[p]? = some u → w ≤ u) → Q (some (.inl (nI p))) hi (cR hr) cn) : ab_Wm E (d + 1) nX3_placeFor [.inr (some (4, 0)), .inr (some (7, w))] hi (cR hr) cn Q := by
  obtain ⟨s1, s2, s3, s4⟩ := S
  refine ab_Wm_of gX3_placeFor kX3_placeFor 1 rfl rfl hnb (fun J step drop less => ?_)
  have loop : ∀ mm k, k + mm = ws.length → (∀ (i u : Nat), i < k → ws[i]? = some u → u < w) → J 2 [(0, .inr (some (4, 0))), (1, .inr (some (7, w))), (2, .inl (nI k))] [] hi (cR hr) cn 0 0 := by
    intro mm
    induction mm with
    | zero =>
      intro k hk a1
      have hk : k = ws.length := by omega
      refine step 2 _ _ _ _ _ _ _ ?_
      dsimp [ab_at, gX3_placeFor, nX3_placeFor, ab_vc, ab_v1, ab_lk, ab_st, ab_en, ab_cst, ab_mc, ab_mS, ab_tk, ab_ns, cR, ab_ia, ab_ra, ab_oa, ab_tg, ab_len, ab_uI, ab_uR]
      rw [s2, hk]
      refine ⟨fun _ => ?_, fun q => absurd (Int32.le_refl _) q⟩
      refine step 35 _ _ _ _ _ _ _ ?_
      dsimp [ab_at, gX3_placeFor, nX3_placeFor, ab_vc, ab_v1, ab_lk, ab_st, ab_en, ab_cst, ab_mc, ab_mS, ab_tk, ab_ns, cR, ab_ia, ab_ra, ab_oa, ab_tg, ab_len, ab_uI, ab_uR]
      refine h _ (Nat.le_refl _) (hk ▸ a1) (fun u hu => ?_)
      rw [List.getElem?_eq_none (Nat.le_refl _)] at hu
      cases hu
    | succ mm ih =>
      intro k hk a1
      have ik : ab_ix (nI k) = k := ab_ix_nI (by omega)
      have eu : ws[k]? = some (ws[k]'(by omega)) := List.getElem?_eq_getElem (by omega)
      have hu := hws _ (List.mem_of_getElem? eu)
      have b1 := (s4 k _ eu).1
      generalize ws[k]'(by omega) = u at eu hu b1
      have b2 := (s1.1 k (by omega)).2
      refine step 2 _ _ _ _ _ _ _ ?_
      dsimp [ab_at, gX3_placeFor, nX3_placeFor, ab_vc, ab_v1, ab_lk, ab_st, ab_en, ab_cst, ab_mc, ab_mS, ab_tk, ab_ns, cR, ab_ia, ab_ra, ab_oa, ab_tg, ab_len, ab_uI, ab_uR]
      rw [s2, ik, b2]
      dsimp [ab_at, gX3_placeFor, nX3_placeFor, ab_vc, ab_v1, ab_lk, ab_st, ab_en, ab_cst, ab_mc, ab_mS, ab_tk, ab_ns, cR, ab_ia, ab_ra, ab_oa, ab_tg, ab_len, ab_uI, ab_uR]
      rw [b1]
      dsimp [ab_at, gX3_placeFor, nX3_placeFor, ab_vc, ab_v1, ab_lk, ab_st, ab_en, ab_cst, ab_mc, ab_mS, ab_tk, ab_ns, cR, ab_ia, ab_ra, ab_oa, ab_tg, ab_len, ab_uI, ab_uR]
      rw [hu.1, hw.1]
      refine ⟨fun q => absurd ((nI_leI (by omega) (by omega)).mp q) (by omega), fun _ => ⟨ab_inI (by omega) (by omega), fun q => ?_, fun q => ?_⟩⟩
      · have q' := (nI_leI (by omega) (by omega)).mp q
        refine step 35 _ _ _ _ _ _ _ ?_
        dsimp [ab_at, gX3_placeFor, nX3_placeFor, ab_vc, ab_v1, ab_lk, ab_st, ab_en, ab_cst, ab_mc, ab_mS, ab_tk, ab_ns, cR, ab_ia, ab_ra, ab_oa, ab_tg, ab_len, ab_uI, ab_uR]
        refine h k (by omega) a1 (fun u' hu' => ?_)
        rw [eu] at hu'
        cases hu'
        exact q'
      · have q' : ¬ w ≤ u := fun z => q ((nI_leI (by omega) (by omega)).mpr z)
        rw [nI_add]
        refine ih (k + 1) (by omega) (fun i u' hi' hu' => ?_)
        rcases Nat.lt_or_ge i k with z | z
        · exact a1 i u' z hu'
        · rw [show i = k by omega, eu] at hu'
          cases hu'
          omega
  refine step 0 _ _ _ _ _ _ _ ?_
  dsimp [ab_at, gX3_placeFor, nX3_placeFor, ab_vc, ab_v1, ab_lk, ab_st, ab_en, ab_cst, ab_mc, ab_mS, ab_tk, ab_ns, cR, ab_ia, ab_ra, ab_oa, ab_tg, ab_len, ab_uI, ab_uR]
  exact loop ws.length 0 (by omega) (fun i u hi' => absurd hi' (by omega))
def cStart (hi : ab_I) (c : Nat) : ab_I := ab_uI hi 1 c 3 (nI 0)
def cStartR (hr : ab_R) (c w : Nat) : ab_R := ab_uR (ab_uR (ab_uR hr 1 c 2 (some (7, w))) 1 c 4 none) 1 c 5 none
theorem c_X0_start (hnb : ab_n E < 2 ^ 31) {c w : Nat} (h : Q none (cStart hi c) (cR (cStartR hr c w)) cn) : ab_Wm E (d + 1) nX0_start [.inr (some (1, c)), .inr (some (7, w))] hi (cR hr) cn Q := by
  unfold cStartR at h
  refine ab_Wm_of gX0_start kX0_start 0 rfl rfl hnb (fun J step drop less => ?_)
  refine step 0 _ _ _ _ _ _ _ ?_
  dsimp [ab_at, gX0_start, nX0_start, ab_vc, ab_v1, ab_lk, ab_st, ab_en, ab_cst, ab_mc, ab_mS, ab_tk, ab_ns, cR, ab_ia, ab_ra, ab_oa, ab_tg, ab_len, ab_uI, ab_uR]
  rw [cR_uR rfl, cR_uR rfl, cR_uR rfl]
  exact h
/-- the places, one more in use -/
def sIns (s : Nat → Nat) (p n q : Nat) : Nat := if q < p then s q else if q = p then s n else if q ≤ n then s (q - 1) else s q
theorem c_X3_startAt (hnb : ab_n E < 2 ^ 31) {m : Nat → Nat} {ws : List Nat} {Ns : Nat → List Nat} {s : Nat → Nat} {w p : Nat} (S : plS hi hr m ws Ns s) (hl : ws.length < 4) (hp : p ≤ ws.length) (hw : w ∉ ws) (h : ∀ hi' hr', plF hi hr hi' hr' → (∀ j, j ≠ 1 → hi' 4 0 j = hi 4 0 j) → plS hi' hr' m (ws.insertIdx p w) (upN Ns w []) (sIns s p ws.length) → Q none hi' (cR hr') cn) : ab_Wm E (d + 2) nX3_startAt [.inr (some (4, 0)), .inl (nI p), .inr (some (7, w))] hi (cR hr) cn Q := by
  obtain ⟨s1, s2, s3, s4⟩ := S
  have il : ab_ix (nI ws.length) = ws.length := ab_ix_nI (by omega)
  have ip : ab_ix (nI p) = p := ab_ix_nI (by omega)
  have bl := s1.1 ws.length (by omega)
  refine ab_Wm_of gX3_startAt kX3_startAt 0 rfl rfl hnb (fun J step drop less => ?_)
  have loop : ∀ mm k, p + mm = k → k ≤ ws.length → ∀ hr1, plF hi hr hi hr1 → (∀ i j, hr1 1 i j = hr 1 i j) → (∀ i j, hr1 15 i j = hr 15 i j) → (∀ q, q < 4 → hr1 14 0 q = some (1, if k < q ∧ q ≤ ws.length then s (q - 1) else s q)) → J 16 [(0, .inr (some (4, 0))), (1, .inl (nI p)), (2, .inr (some (7, w))), (3, .inr (some (1, s ws.length))), (4, .inl (nI k))] [] hi (cR hr1) cn 0 0 := by
    intro mm
    induction mm with
    | zero =>
      intro k hk hkl hr1 f1 g1 g15 g2
      have hk : k = p := by omega
      subst hk
      refine step 16 _ _ _ _ _ _ _ ?_
      dsimp [ab_at, gX3_startAt, nX3_startAt, ab_vc, ab_v1, ab_lk, ab_st, ab_en, ab_cst, ab_mc, ab_mS, ab_tk, ab_ns, cR, ab_ia, ab_ra, ab_oa, ab_tg, ab_len, ab_uI, ab_uR]
      refine ⟨fun _ => ?_, fun q => absurd (Int32.le_refl _) q⟩
      refine step 44 _ _ _ _ _ _ _ ?_
      dsimp [ab_at, gX3_startAt, nX3_startAt, ab_vc, ab_v1, ab_lk, ab_st, ab_en, ab_cst, ab_mc, ab_mS, ab_tk, ab_ns, cR, ab_ia, ab_ra, ab_oa, ab_tg, ab_len, ab_uI, ab_uR]
      rw [ip]
      refine ⟨fun K i q => by cases q; exact ⟨by omega, fun _ => rfl, fun z => by omega⟩, ab_inI (by omega) (by omega), ?_⟩
      rw [cR_uR rfl]
      refine c_X0_start hnb ?_
      refine step 56 _ _ _ _ _ _ _ ?_
      dsimp [ab_at, gX3_startAt, nX3_startAt, ab_vc, ab_v1, ab_lk, ab_st, ab_en, ab_cst, ab_mc, ab_mS, ab_tk, ab_ns, cR, ab_ia, ab_ra, ab_oa, ab_tg, ab_len, ab_uI, ab_uR]
      have e1 : cStart hi (s ws.length) 4 0 1 = nI ws.length := s2
      rw [e1, nI_add]
      have hb := bl.1
      refine h _ _ (plF_tr f1 (plF_tr (plF_R (by omega)) (plF_tr (plF_tr (plF_R (by omega)) (plF_tr (plF_R (by omega)) (plF_R (by omega)))) (plF_tr (plF_I (by omega)) (plF_I (by omega)))))) (fun j hj => ?_) ⟨⟨fun q hq => ?_, fun q q' hq hq' e => ?_⟩, ?_, ?_, fun q u hu => ?_⟩
      · rw [ab_uI_j hj]
        rfl
      · -- the places
        have e14 : cStartR (ab_uR hr1 14 0 k (some (1, s ws.length))) (s ws.length) w 14 0 q = ab_uR hr1 14 0 k (some (1, s ws.length)) 14 0 q := rfl
        rw [e14]
        unfold sIns
        by_cases z : q = k
        · subst z
          rw [ab_uR_e, if_neg (by omega), if_pos rfl]
          exact ⟨hb, rfl⟩
        · rw [ab_uR_j z, g2 q hq]
          by_cases z2 : q < k
          · rw [if_pos z2, if_neg (by omega)]
            exact ⟨(s1.1 q hq).1, rfl⟩
          · rw [if_neg z2, if_neg z]
            by_cases z3 : q ≤ ws.length
            · rw [if_pos z3, if_pos ⟨by omega, z3⟩]
              exact ⟨(s1.1 (q - 1) (by omega)).1, rfl⟩
            · rw [if_neg z3, if_neg (by omega)]
              exact ⟨(s1.1 q hq).1, rfl⟩
      · -- no two alike
        have inj : ∀ a b, a < 4 → b < 4 → s a = s b → a = b := s1.2
        unfold sIns at e
        have key : ∀ a, a < 4 → ∃ b, b < 4 ∧ (if a < k then s a else if a = k then s ws.length else if a ≤ ws.length then s (a - 1) else s a) = s b ∧ b = (if a < k then a else if a = k then ws.length else if a ≤ ws.length then a - 1 else a) := fun a ha => by
          by_cases y1 : a < k
          · exact ⟨a, ha, by rw [if_pos y1], by rw [if_pos y1]⟩
          · by_cases y2 : a = k
            · exact ⟨ws.length, by omega, by rw [if_neg y1, if_pos y2], by rw [if_neg y1, if_pos y2]⟩
            · by_cases y3 : a ≤ ws.length
              · exact ⟨a - 1, by omega, by rw [if_neg y1, if_neg y2, if_pos y3], by rw [if_neg y1, if_neg y2, if_pos y3]⟩
              · exact ⟨a, ha, by rw [if_neg y1, if_neg y2, if_neg y3], by rw [if_neg y1, if_neg y2, if_neg y3]⟩
        obtain ⟨b, hb1, hb2, hb3⟩ := key q hq
        obtain ⟨b', hb1', hb2', hb3'⟩ := key q' hq'
        rw [hb2, hb2'] at e
        have := inj b b' hb1 hb1' e
        rw [hb3, hb3'] at this
        repeat' split at this
        all_goals omega
      · rw [List.length_insertIdx, if_pos hkl]
        exact ab_uI_e
      · rw [List.length_insertIdx, if_pos hkl]
        omega
      · -- the works and their wishes
        rw [List.getElem?_insertIdx] at hu
        have ne : ∀ a, a < ws.length → s a ≠ s ws.length := fun a ha e => by
          have := s1.2 a ws.length (by omega) (by omega) e
          omega
        have old : ∀ a u', ws[a]? = some u' → cStartR (ab_uR hr1 14 0 k (some (1, s ws.length))) (s ws.length) w 1 (s a) 2 = some (7, u') ∧ cStartR (ab_uR hr1 14 0 k (some (1, s ws.length))) (s ws.length) w 1 (s a) 4 = none ∧ cStartR (ab_uR hr1 14 0 k (some (1, s ws.length))) (s ws.length) w 1 (s a) 5 = none ∧ chL (ab_uI (cStart hi (s ws.length)) 4 0 1 (nI (ws.length + 1))) (cStartR (ab_uR hr1 14 0 k (some (1, s ws.length))) (s ws.length) w) (s a) m (upN Ns w [] u') := fun a u' ha => by
          have hal := (List.getElem?_eq_some_iff.mp ha).1
          have na := ne a hal
          obtain ⟨c1, c2, c3, c4⟩ := s4 a u' ha
          have e1 : ∀ j, cStartR (ab_uR hr1 14 0 k (some (1, s ws.length))) (s ws.length) w 1 (s a) j = hr 1 (s a) j := fun j => by
            unfold cStartR
            rw [ab_uR_i na, ab_uR_i na, ab_uR_i na, ab_uR_k (by omega), g1]
          have e15 : ∀ i j, cStartR (ab_uR hr1 14 0 k (some (1, s ws.length))) (s ws.length) w 15 i j = hr 15 i j := fun i j => by
            unfold cStartR
            rw [ab_uR_k (by omega), ab_uR_k (by omega), ab_uR_k (by omega), ab_uR_k (by omega), g15]
          have eN : upN Ns w [] u' = Ns u' := if_neg (show ¬ u' = w from fun z => hw (z ▸ List.mem_of_getElem? ha))
          rw [e1, e1, e1, eN]
          refine ⟨c1, c2, c3, ?_, c4.2.1, fun i x hx => ?_⟩
          · have e5 : ab_uI (cStart hi (s ws.length)) 4 0 1 (nI (ws.length + 1)) 1 (s a) 3 = hi 1 (s a) 3 := by
              unfold cStart
              rw [ab_uI_k (by omega), ab_uI_i na]
            rw [e5]
            exact c4.1
          · rw [e15]
            exact c4.2.2 i x hx
        unfold sIns
        by_cases z : q < k
        · rw [if_pos z] at hu
          rw [if_pos z]
          exact old q u hu
        · rw [if_neg z] at hu
          rw [if_neg z]
          by_cases z2 : q = k
          · rw [if_pos z2, if_pos (by omega)] at hu
            cases hu
            rw [if_pos z2]
            have eN : upN Ns w [] w = [] := if_pos rfl
            rw [eN]
            refine ⟨?_, ?_, ?_, ?_, Nat.zero_le _, fun i x hx => by cases hx⟩
            · unfold cStartR
              rw [ab_uR_j (by omega), ab_uR_j (by omega), ab_uR_e]
            · unfold cStartR
              rw [ab_uR_j (by omega), ab_uR_e]
            · unfold cStartR
              rw [ab_uR_e]
            · rw [ab_uI_k (by omega)]
              exact ab_uI_e
          · rw [if_neg z2] at hu
            rw [if_neg z2]
            have hq := (List.getElem?_eq_some_iff.mp hu).1
            rw [if_pos (by omega)]
            exact old (q - 1) u hu
    | succ mm ih =>
      intro k hk hkl hr1 f1 g1 g15 g2
      have ik : ab_ix (nI k) = k := ab_ix_nI (by omega)
      have ik1 : ab_ix (nI (k - 1)) = k - 1 := ab_ix_nI (by omega)
      have g3 := g2 (k - 1) (by omega)
      rw [if_neg (by omega)] at g3
      refine step 16 _ _ _ _ _ _ _ ?_
      dsimp [ab_at, gX3_startAt, nX3_startAt, ab_vc, ab_v1, ab_lk, ab_st, ab_en, ab_cst, ab_mc, ab_mS, ab_tk, ab_ns, cR, ab_ia, ab_ra, ab_oa, ab_tg, ab_len, ab_uI, ab_uR]
      rw [nI_m1, nI_sub1 (by omega), ik, ik1, g3]
      refine ⟨fun q => absurd ((nI_leI (by omega) (by omega)).mp q) (by omega), fun _ => ⟨ab_inI (by omega) (by omega), fun K i q => by cases q; exact ⟨by omega, fun _ => rfl, fun z => by omega⟩, ab_inI (by omega) (by omega), ?_⟩⟩
      rw [cR_uR rfl]
      refine ih (k - 1) (by omega) (by omega) _ (plF_tr f1 (plF_R (by omega))) (fun i j => ?_) (fun i j => ?_) (fun q hq => ?_)
      · rw [ab_uR_k (by omega), g1]
      · rw [ab_uR_k (by omega), g15]
      · by_cases z : q = k
        · subst z
          rw [ab_uR_e, if_pos (by omega)]
        · rw [ab_uR_j z, g2 q hq]
          have : (k < q ∧ q ≤ ws.length) ↔ (k - 1 < q ∧ q ≤ ws.length) := by omega
          simp only [this]
  refine step 0 _ _ _ _ _ _ _ ?_
  dsimp [ab_at, gX3_startAt, nX3_startAt, ab_vc, ab_v1, ab_lk, ab_st, ab_en, ab_cst, ab_mc, ab_mS, ab_tk, ab_ns, cR, ab_ia, ab_ra, ab_oa, ab_tg, ab_len, ab_uI, ab_uR]
  rw [s2, il, bl.2]
  refine ⟨ab_inI (by omega) (by omega), ?_⟩
  refine loop (ws.length - p) ws.length (by omega) (Nat.le_refl _) hr plF_rf (fun _ _ => rfl) (fun _ _ => rfl) (fun q hq => ?_)
  rw [if_neg (by omega)]
  exact (s1.1 q hq).2
end PLN
