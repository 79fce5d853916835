/-! THE REFERENCE, method by method: its arrays lie where they always lie -/
/-- the fields of the reference that are arrays -/
def mAr (j : Nat) : Bool := !(j == 0 || j == 3 || j == 10 || j == 23 || j == 30 || j == 34 || j == 36 || j == 37 || j == 38 || 44 ≤ j)
/-- references, with the reference's own where they always are -/
def mR (hr : ab_R) (K i j : Nat) : Option (Nat × Nat) :=
  if K = 9 then (if i = 0 then (if mAr j = true then some (30 + j, 0) else hr K i j) else hr K i j)
  else if K = 31 then (if i = 0 then some (81, j) else hr K i j)
  else if K = 32 then (if i = 0 then some (82, j) else hr K i j)
  else if K = 52 then (if i = 0 then some (102, j) else hr K i j)
  else if K = 73 then (if i = 0 then some (123, j) else hr K i j)
  else hr K i j
abbrev mO : ab_V := .inr (some (9, 0))
/-- an int between 0 and one below a count -/
theorem ab_rng {x : Int32} {n : Nat} (hn : n ≤ 100000) (h1 : nI 0 ≤ x) (h2 : x ≤ nI n - nI 1) : ∃ m : Nat, m < n ∧ x = nI m := by
  rw [Int32.le_iff_toInt_le] at h1 h2
  rw [nI_toInt (by omega)] at h1
  have e1 : (nI n - nI 1).toInt = (n : Int) - 1 := by
    rcases n with _ | n
    · rfl
    · rw [show nI (n + 1) - nI 1 = nI n from nI_pred n, nI_toInt (by omega)]
      omega
  rw [e1] at h2
  refine ⟨x.toInt.toNat, by omega, ?_⟩
  apply Int32.toInt_inj.mp
  rw [nI_toInt (by omega)]
  omega
theorem ab_rngI {m n : Nat} (h : m < n) (hn : n ≤ 100000) : nI 0 ≤ nI m ∧ nI m ≤ nI n - nI 1 := by
  constructor
  · exact nI_le (by omega) (by omega)
  · rcases n with _ | n
    · omega
    · rw [show nI (n + 1) - nI 1 = nI n from nI_pred n]
      exact nI_le (by omega) (by omega)
theorem ab_rngK {x : Int32} {n : Nat} (hn : n ≤ 100000) (h1 : nI 0 ≤ x) (h2 : x ≤ nI n) : ∃ m : Nat, m ≤ n ∧ x = nI m := by
  rw [Int32.le_iff_toInt_le] at h1 h2
  rw [nI_toInt (by omega)] at h1 h2
  refine ⟨x.toInt.toNat, by omega, ?_⟩
  apply Int32.toInt_inj.mp
  rw [nI_toInt (by omega)]
  omega
/-- of n rules by their days, the one in force on a day -/
def bR (f : Nat → Int32) (d : Int32) : Nat → Option Nat
  | 0 => none
  | n + 1 => match bR f d n with
    | none => if f n ≤ d then some n else none
    | some j => if f n ≤ d then (if f j ≤ f n then some n else some j) else some j
theorem bR_lt {f : Nat → Int32} {d : Int32} : ∀ {n j : Nat}, bR f d n = some j → j < n
  | 0, _, h => by cases h
  | n + 1, j, h => by
    unfold bR at h
    split at h
    · split at h
      · cases h; omega
      · cases h
    · rename_i j' hj
      have := bR_lt hj
      split at h
      · split at h
        · cases h; omega
        · cases h; omega
      · cases h; omega
def sumI (f : Nat → Int32) : Nat → Int32
  | 0 => nI 0
  | n + 1 => sumI f n + f n
/-- the first of the greatest ranks among the candidates -/
def nxt (c : Nat → Bool) (r : Nat → Int32) : Nat → Option Nat
  | 0 => none
  | n + 1 => if c n = true then (match nxt c r n with | none => some n | some j => if r j < r n then some n else some j) else nxt c r n
theorem nxt_lt {c : Nat → Bool} {r : Nat → Int32} : ∀ {n j : Nat}, nxt c r n = some j → j < n ∧ c j = true
  | 0, _, h => by cases h
  | n + 1, j, h => by
    unfold nxt at h
    split at h
    · rename_i hc
      split at h
      · cases h; exact ⟨by omega, hc⟩
      · rename_i j' hj
        have := nxt_lt hj
        split at h
        · cases h; exact ⟨by omega, hc⟩
        · cases h; exact ⟨by omega, this.2⟩
    · have := nxt_lt h
      exact ⟨by omega, this.2⟩
section MOD1
variable {E : ab_E} {d : Nat} {hi : ab_I} {hr : ab_R} {cn : ab_C} {Q : ab_Q}
theorem c_X8_in (hnb : ab_n E < 2 ^ 31) {v l h : Int32} (h1 : l ≤ v → v ≤ h → Q (some (.inl (nI 1))) hi hr cn) (h0 : ¬ (l ≤ v ∧ v ≤ h) → Q (some (.inl (nI 0))) hi hr cn) : ab_Wm E (d + 1) nX8_in [.inl v, .inl l, .inl h] hi hr cn Q := by
  refine ab_Wm_of gX8_in kX8_in 2 rfl rfl hnb (fun J step drop less => ?_)
  have r14 : ¬ (l ≤ v ∧ v ≤ h) → ∀ L ck cs, J 14 L [] hi hr cn ck cs := fun hn L ck cs => by
    refine step 14 _ _ _ _ _ _ _ ?_
    dsimp [ab_at, gX8_in, ab_vc, ab_v1, ab_cst]
    refine step 15 _ _ _ _ _ _ _ ?_
    dsimp [ab_at, gX8_in, ab_vc, ab_v1, ab_cst]
    exact ⟨Or.inl rfl, h0 hn⟩
  refine step 0 _ _ _ _ _ _ _ ?_
  dsimp [ab_at, gX8_in, ab_vc, ab_v1, ab_lk, ab_en, ab_cst]
  refine ⟨fun q => r14 (fun w => ?_) _ _ _, fun q => ⟨fun q2 => r14 (fun w => ?_) _ _ _, fun q2 => ?_⟩⟩
  · exact absurd q (Int32.not_lt.mpr w.1)
  · exact absurd q2 (Int32.not_lt.mpr w.2)
  · refine step 15 _ _ _ _ _ _ _ ?_
    dsimp [ab_at, gX8_in, ab_vc, ab_v1]
    exact ⟨Or.inr rfl, h1 (Int32.not_lt.mp q) (Int32.not_lt.mp q2)⟩
theorem c_X8_isHome (hnb : ab_n E < 2 ^ 31) {x : Int32} {n : Nat} (hn : n ≤ 20) (hc : hi 9 0 10 = nI n) (h1 : ∀ m, m < n → x = nI m → Q (some (.inl (nI 1))) hi hr cn) (h0 : (∀ m, m < n → x ≠ nI m) → Q (some (.inl (nI 0))) hi hr cn) : ab_Wm E (d + 2) nX8_isHome [mO, .inl x] hi hr cn Q := by
  refine ab_Wm_of gX8_isHome kX8_isHome 2 rfl rfl hnb (fun J step drop less => ?_)
  refine step 0 _ _ _ _ _ _ _ ?_
  dsimp [ab_at, gX8_isHome, ab_vc, ab_v1, ab_lk, ab_en, ab_cst, ab_mc, ab_mS, ab_tk]
  refine c_X8_in hnb (fun q1 q2 => ?_) (fun q => ?_)
  · refine step 11 _ _ _ _ _ _ _ ?_
    dsimp [ab_at, gX8_isHome, ab_vc, ab_v1]
    rw [hc] at q2
    obtain ⟨m, hm, rfl⟩ := ab_rng (by omega) q1 q2
    exact ⟨Or.inr rfl, h1 m hm rfl⟩
  · refine step 11 _ _ _ _ _ _ _ ?_
    dsimp [ab_at, gX8_isHome, ab_vc, ab_v1]
    rw [hc] at q
    exact ⟨Or.inl rfl, h0 fun m hm e => q (e ▸ ab_rngI hm (by omega))⟩
theorem c_X8_isWork (hnb : ab_n E < 2 ^ 31) {x : Int32} {n : Nat} (hn : n ≤ 40) (hc : hi 9 0 23 = nI n) (h1 : ∀ m, m < n → x = nI m → Q (some (.inl (nI 1))) hi hr cn) (h0 : (∀ m, m < n → x ≠ nI m) → Q (some (.inl (nI 0))) hi hr cn) : ab_Wm E (d + 2) nX8_isWork [mO, .inl x] hi hr cn Q := by
  refine ab_Wm_of gX8_isWork kX8_isWork 2 rfl rfl hnb (fun J step drop less => ?_)
  refine step 0 _ _ _ _ _ _ _ ?_
  dsimp [ab_at, gX8_isWork, ab_vc, ab_v1, ab_lk, ab_en, ab_cst, ab_mc, ab_mS, ab_tk]
  refine c_X8_in hnb (fun q1 q2 => ?_) (fun q => ?_)
  · refine step 11 _ _ _ _ _ _ _ ?_
    dsimp [ab_at, gX8_isWork, ab_vc, ab_v1]
    rw [hc] at q2
    obtain ⟨m, hm, rfl⟩ := ab_rng (by omega) q1 q2
    exact ⟨Or.inr rfl, h1 m hm rfl⟩
  · refine step 11 _ _ _ _ _ _ _ ?_
    dsimp [ab_at, gX8_isWork, ab_vc, ab_v1]
    rw [hc] at q
    exact ⟨Or.inl rfl, h0 fun m hm e => q (e ▸ ab_rngI hm (by omega))⟩
/-- the rule in force -/
def mrule (hi : ab_I) (n : Nat) (day : Int32) (what : Nat) : Int32 := match bR (fun k => hi 82 k 0) day n with
  | none => hi 34 0 what
  | some k => hi 82 k what
def mrr : Option Nat → Option (Nat × Nat)
  | none => none
  | some j => some (82, j)
theorem ab_inI {m n : Nat} (h : m < n) (h2 : m < 100000) : ab_in (nI m) n := ⟨m, h, h2, rfl⟩
theorem c_X8_ruled (hnb : ab_n E < 2 ^ 31) {day : Int32} {what n : Nat} (hw : what < 7) (hn : n ≤ 60) (hc : hi 9 0 3 = nI n) (h : Q (some (.inl (mrule hi n day what))) hi (mR hr) cn) : ab_Wm E (d + 1) nX8_ruled [mO, .inl day, .inl (nI what)] hi (mR hr) cn Q := by
  refine ab_Wm_of gX8_ruled kX8_ruled 1 rfl rfl hnb (fun J step drop less => ?_)
  have i0 : ab_ix (nI 0) = 0 := ab_ix_nI (by omega)
  have r76 : ∀ L ck cs, J 76 L [.inl (mrule hi n day what)] hi (mR hr) cn ck cs := fun L ck cs => by
    refine step 76 _ _ _ _ _ _ _ ?_
    dsimp [ab_at, gX8_ruled, ab_vc, ab_v1, ab_lk, ab_st, ab_en, ab_cst, ab_mc, ab_mS, ab_tk, ab_ns, mR, mAr, ab_ia, ab_ra, ab_oa, ab_tg, ab_len, ab_uI]
    exact h
  have loop : ∀ m k, k + m = n → J 5 [(0, mO), (1, .inl day), (2, .inl (nI what)), (3, .inr (mrr (bR (fun k => hi 82 k 0) day k))), (4, .inl (nI k))] [] hi (mR hr) cn 0 0 := by
    intro m
    induction m with
    | zero =>
      intro k hk
      have hk : k = n := by omega
      subst hk
      refine step 5 _ _ _ _ _ _ _ ?_
      dsimp [ab_at, gX8_ruled, ab_vc, ab_v1, ab_lk, ab_st, ab_en, ab_cst, ab_mc, ab_mS, ab_tk, ab_ns, mR, mAr, ab_ia, ab_ra, ab_oa, ab_tg, ab_len, ab_uI]
      refine ⟨fun _ => ?_, fun q => absurd (by rw [hc]; exact Int32.le_refl _) q⟩
      rcases hb : bR (fun k => hi 82 k 0) day k with _ | j
      · dsimp only [mrr]
        refine step 60 _ _ _ _ _ _ _ ?_
        dsimp [ab_at, gX8_ruled, ab_vc, ab_v1, ab_lk, ab_st, ab_en, ab_cst, ab_mc, ab_mS, ab_tk, ab_ns, mR, mAr, ab_ia, ab_ra, ab_oa, ab_tg, ab_len, ab_uI]
        refine ⟨fun q => absurd rfl q, fun _ => ⟨ab_inI hw (by omega), ?_⟩⟩
        have e : mrule hi k day what = hi 34 0 (ab_ix (nI what)) := by
          unfold mrule
          rw [hb, ab_ix_nI (by omega)]
        rw [← e]
        exact r76 _ _ _
      · dsimp only [mrr]
        refine step 60 _ _ _ _ _ _ _ ?_
        dsimp [ab_at, gX8_ruled, ab_vc, ab_v1, ab_lk, ab_st, ab_en, ab_cst, ab_mc, ab_mS, ab_tk, ab_ns, mR, mAr, ab_ia, ab_ra, ab_oa, ab_tg, ab_len, ab_uI]
        refine ⟨fun _ => ?_, fun q => by cases q⟩
        refine step 73 _ _ _ _ _ _ _ ?_
        dsimp [ab_at, gX8_ruled, ab_vc, ab_v1, ab_lk, ab_st, ab_en, ab_cst, ab_mc, ab_mS, ab_tk, ab_ns, mR, mAr, ab_ia, ab_ra, ab_oa, ab_tg, ab_len, ab_uI]
        refine ⟨ab_inI hw (by omega), ?_⟩
        have e : mrule hi k day what = hi 82 j (ab_ix (nI what)) := by
          unfold mrule
          rw [hb, ab_ix_nI (by omega)]
        rw [← e]
        exact r76 _ _ _
    | succ m ih =>
      intro k hk
      have ik : ab_ix (nI k) = k := ab_ix_nI (by omega)
      have on : ∀ r, mrr (bR (fun k => hi 82 k 0) day (k + 1)) = r → J 54 [(0, mO), (1, .inl day), (2, .inl (nI what)), (3, .inr r), (4, .inl (nI k))] [] hi (mR hr) cn 0 0 := fun r hr' => by
        subst hr'
        refine step 54 _ _ _ _ _ _ _ ?_
        dsimp [ab_at, gX8_ruled, ab_vc, ab_v1, ab_lk, ab_st, ab_en, ab_cst, ab_mc, ab_mS, ab_tk, ab_ns, mR, mAr, ab_ia, ab_ra, ab_oa, ab_tg, ab_len, ab_uI]
        rw [nI_add]
        exact ih (k + 1) (by omega)
      have r46 : ∀ r, mrr (bR (fun k => hi 82 k 0) day (k + 1)) = some (82, k) → J 46 [(0, mO), (1, .inl day), (2, .inl (nI what)), (3, .inr r), (4, .inl (nI k))] [] hi (mR hr) cn 0 0 := fun r hr' => by
        refine step 46 _ _ _ _ _ _ _ ?_
        dsimp [ab_at, gX8_ruled, ab_vc, ab_v1, ab_lk, ab_st, ab_en, ab_cst, ab_mc, ab_mS, ab_tk, ab_ns, mR, mAr, ab_ia, ab_ra, ab_oa, ab_tg, ab_len, ab_uI]
        refine ⟨ab_inI (by omega) (by omega), ?_⟩
        rw [ik]
        exact on _ hr'
      rcases hb : bR (fun k => hi 82 k 0) day k with _ | j
      · dsimp only [mrr]
        refine step 5 _ _ _ _ _ _ _ ?_
        dsimp [ab_at, gX8_ruled, ab_vc, ab_v1, ab_lk, ab_st, ab_en, ab_cst, ab_mc, ab_mS, ab_tk, ab_ns, mR, mAr, ab_ia, ab_ra, ab_oa, ab_tg, ab_len, ab_uI]
        refine ⟨fun q => absurd (by rw [hc] at q; exact (nI_leI (by omega) (by omega)).mp q) (by omega), fun _ => ⟨ab_inI (by omega) (by omega), ab_inI (by omega) (by omega), ?_⟩⟩
        rw [ik, i0]
        refine ⟨fun q => on _ ?_, fun q => ⟨fun _ => r46 _ ?_, fun q2 => absurd rfl q2⟩⟩
        · unfold bR
          rw [hb]
          dsimp only
          rw [if_neg (Int32.not_le.mpr q)]
          rfl
        · unfold bR
          rw [hb]
          dsimp only
          rw [if_pos (Int32.not_lt.mp q)]
          rfl
      · have hj := bR_lt hb
        dsimp only [mrr]
        refine step 5 _ _ _ _ _ _ _ ?_
        dsimp [ab_at, gX8_ruled, ab_vc, ab_v1, ab_lk, ab_st, ab_en, ab_cst, ab_mc, ab_mS, ab_tk, ab_ns, mR, mAr, ab_ia, ab_ra, ab_oa, ab_tg, ab_len, ab_uI]
        refine ⟨fun q => absurd (by rw [hc] at q; exact (nI_leI (by omega) (by omega)).mp q) (by omega), fun _ => ⟨ab_inI (by omega) (by omega), ab_inI (by omega) (by omega), ?_⟩⟩
        rw [ik, i0]
        refine ⟨fun q => on _ ?_, fun q => ⟨fun q2 => (by cases q2), fun _ => ⟨ab_inI (by omega) (by omega), ab_inI (by omega) (by omega), ab_inI (by omega) (by omega), fun q2 => on _ ?_, fun q2 => r46 _ ?_⟩⟩⟩
        · unfold bR
          rw [hb]
          dsimp only
          rw [if_neg (Int32.not_le.mpr q)]
          rfl
        · unfold bR
          rw [hb]
          dsimp only
          rw [if_pos (Int32.not_lt.mp q), if_neg (Int32.not_le.mpr q2)]
          rfl
        · unfold bR
          rw [hb]
          dsimp only
          rw [if_pos (Int32.not_lt.mp q), if_pos (Int32.not_lt.mp q2)]
          rfl
  refine step 0 _ _ _ _ _ _ _ ?_
  dsimp [ab_at, gX8_ruled, ab_vc, ab_v1, ab_lk, ab_st, ab_en, ab_cst, ab_mc, ab_mS, ab_tk, ab_ns, mR, mAr, ab_ia, ab_ra, ab_oa, ab_tg, ab_len, ab_uI]
  exact loop n 0 (by omega)
theorem c_X8_points (hnb : ab_n E < 2 ^ 31) {w : Nat} (hw : w < 40) (h : Q (some (.inl (hi 42 0 w / nI 20))) hi (mR hr) cn) : ab_Wm E (d + 1) nX8_points [mO, .inl (nI w)] hi (mR hr) cn Q := by
  refine ab_Wm_of gX8_points kX8_points 1 rfl rfl hnb (fun J step drop less => ?_)
  refine step 0 _ _ _ _ _ _ _ ?_
  dsimp [ab_at, gX8_points, ab_vc, ab_v1, ab_lk, ab_st, ab_en, ab_cst, ab_mc, ab_mS, ab_tk, ab_ns, mR, mAr, ab_ia, ab_ra, ab_oa, ab_tg, ab_len, ab_uI]
  refine ⟨ab_inI hw (by omega), by decide, ?_⟩
  rw [ab_ix_nI (by omega)]
  exact h
/-- what is lent to a home, in points or in works -/
def mlent (hi : ab_I) (x : Int32) (p : Bool) : Nat → Int32 := sumI (fun w => if hi 43 0 w = nI 1 ∧ hi 44 0 w = x then (if p = true then hi 42 0 w / nI 20 else nI 1) else nI 0)
theorem c_X8_lent (hnb : ab_n E < 2 ^ 31) {x y : Int32} {p : Bool} {n : Nat} (hn : n ≤ 40) (hc : hi 9 0 23 = nI n) (hp : y = if p = true then nI 1 else nI 0) (h : Q (some (.inl (mlent hi x p n))) hi (mR hr) cn) : ab_Wm E (d + 2) nX8_lent [mO, .inl x, .inl y] hi (mR hr) cn Q := by
  refine ab_Wm_of gX8_lent kX8_lent 1 rfl rfl hnb (fun J step drop less => ?_)
  have loop : ∀ m k, k + m = n → J 5 [(0, mO), (1, .inl x), (2, .inl y), (3, .inl (mlent hi x p k)), (4, .inl (nI k))] [] hi (mR hr) cn 0 0 := by
    intro m
    induction m with
    | zero =>
      intro k hk
      have hk : k = n := by omega
      subst hk
      refine step 5 _ _ _ _ _ _ _ ?_
      dsimp [ab_at, gX8_lent, ab_vc, ab_v1, ab_lk, ab_st, ab_en, ab_cst, ab_mc, ab_mS, ab_tk, ab_ns, mR, mAr, ab_ia, ab_ra, ab_oa, ab_tg, ab_len, ab_uI]
      refine ⟨fun _ => ?_, fun q => absurd (by rw [hc]; exact Int32.le_refl _) q⟩
      refine step 59 _ _ _ _ _ _ _ ?_
      dsimp [ab_at, gX8_lent, ab_vc, ab_v1, ab_lk, ab_st, ab_en, ab_cst, ab_mc, ab_mS, ab_tk, ab_ns, mR, mAr, ab_ia, ab_ra, ab_oa, ab_tg, ab_len, ab_uI]
      exact h
    | succ m ih =>
      intro k hk
      have ik : ab_ix (nI k) = k := ab_ix_nI (by omega)
      have on : ∀ z, mlent hi x p (k + 1) = z → J 53 [(0, mO), (1, .inl x), (2, .inl y), (3, .inl z), (4, .inl (nI k))] [] hi (mR hr) cn 0 0 := fun z hz => by
        subst hz
        refine step 53 _ _ _ _ _ _ _ ?_
        dsimp [ab_at, gX8_lent, ab_vc, ab_v1, ab_lk, ab_st, ab_en, ab_cst, ab_mc, ab_mS, ab_tk, ab_ns, mR, mAr, ab_ia, ab_ra, ab_oa, ab_tg, ab_len, ab_uI]
        rw [nI_add]
        exact ih (k + 1) (by omega)
      have add : ∀ z, mlent hi x p (k + 1) = mlent hi x p k + z → J 51 [(0, mO), (1, .inl x), (2, .inl y), (3, .inl (mlent hi x p k)), (4, .inl (nI k))] [.inl z, .inl (mlent hi x p k)] hi (mR hr) cn 0 0 := fun z hz => by
        refine step 51 _ _ _ _ _ _ _ ?_
        dsimp [ab_at, gX8_lent, ab_vc, ab_v1, ab_lk, ab_st, ab_en, ab_cst, ab_mc, ab_mS, ab_tk, ab_ns, mR, mAr, ab_ia, ab_ra, ab_oa, ab_tg, ab_len, ab_uI]
        exact on _ hz
      have no : ¬ (hi 43 0 k = nI 1 ∧ hi 44 0 k = x) → mlent hi x p (k + 1) = mlent hi x p k := fun q => by
        show _ + _ = _
        dsimp only
        rw [if_neg q]
        exact Int32.add_zero _
      refine step 5 _ _ _ _ _ _ _ ?_
      dsimp [ab_at, gX8_lent, ab_vc, ab_v1, ab_lk, ab_st, ab_en, ab_cst, ab_mc, ab_mS, ab_tk, ab_ns, mR, mAr, ab_ia, ab_ra, ab_oa, ab_tg, ab_len, ab_uI]
      refine ⟨fun q => absurd (by rw [hc] at q; exact (nI_leI (by omega) (by omega)).mp q) (by omega), fun _ => ⟨ab_inI (by omega) (by omega), ?_⟩⟩
      rw [ik]
      refine ⟨fun q => on _ (no fun z => q z.1), fun q => ⟨ab_inI (by omega) (by omega), fun q2 => on _ (no fun z => q2 z.2), fun q2 => ⟨fun q3 => ?_, fun q3 => ?_⟩⟩⟩
      · refine step 50 _ _ _ _ _ _ _ ?_
        dsimp [ab_at, gX8_lent, ab_vc, ab_v1, ab_lk, ab_st, ab_en, ab_cst, ab_mc, ab_mS, ab_tk, ab_ns, mR, mAr, ab_ia, ab_ra, ab_oa, ab_tg, ab_len, ab_uI]
        refine add _ ?_
        show _ + _ = _
        dsimp only
        rw [if_pos ⟨q, q2⟩]
        cases p
        · rfl
        · rw [hp] at q3
          exact absurd q3 (by decide)
      · refine c_X8_points hnb (by omega) ?_
        refine step 47 _ _ _ _ _ _ _ ?_
        dsimp [ab_at, gX8_lent, ab_vc, ab_v1, ab_lk, ab_st, ab_en, ab_cst, ab_mc, ab_mS, ab_tk, ab_ns, mR, mAr, ab_ia, ab_ra, ab_oa, ab_tg, ab_len, ab_uI]
        refine add _ ?_
        show _ + _ = _
        dsimp only
        rw [if_pos ⟨q, q2⟩]
        cases p
        · rw [hp] at q3
          exact absurd rfl q3
        · rfl
  refine step 0 _ _ _ _ _ _ _ ?_
  dsimp [ab_at, gX8_lent, ab_vc, ab_v1, ab_lk, ab_st, ab_en, ab_cst, ab_mc, ab_mS, ab_tk, ab_ns, mR, mAr, ab_ia, ab_ra, ab_oa, ab_tg, ab_len, ab_uI]
  exact loop n 0 (by omega)
end MOD1
