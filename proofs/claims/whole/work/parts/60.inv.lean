/-! CLASS AND REFERENCE SIDE BY SIDE -/
theorem cR_two (K i j : Nat) : (cX K j = true ∧ ∃ v, ∀ hr : ab_R, cR hr K i j = v) ∨ ∀ hr : ab_R, cR hr K i j = hr K i j := by
  by_cases h8 : K = 8
  · subst h8
    by_cases hi0 : i = 0
    · subst hi0
      rcases (show j = 0 ∨ j = 1 ∨ j = 2 ∨ j = 3 ∨ j = 4 ∨ j = 5 ∨ j = 6 ∨ j = 7 ∨ 8 ≤ j by omega) with rfl | rfl | rfl | rfl | rfl | rfl | rfl | rfl | h
      iterate 8 exact Or.inl ⟨rfl, _, fun _ => rfl⟩
      refine Or.inr fun hr => ?_
      unfold cR
      simp only [show ¬ j = 0 by omega, show ¬ j = 1 by omega, show ¬ j = 2 by omega, show ¬ j = 3 by omega, show ¬ j = 4 by omega, show ¬ j = 5 by omega, show ¬ j = 6 by omega, show ¬ j = 7 by omega, if_true, if_false]
    · exact Or.inr fun hr => by unfold cR; simp only [hi0, if_true, if_false]
  · by_cases h16 : K = 16
    · subst h16
      by_cases hi0 : i = 0
      · subst hi0
        exact Or.inl ⟨rfl, some (13, j), fun _ => rfl⟩
      · exact Or.inr fun hr => by simp [cR, hi0]
    · by_cases h4 : K = 4
      · subst h4
        by_cases hj : j = 0
        · subst hj
          exact Or.inl ⟨rfl, some (14, 0), fun _ => rfl⟩
        · exact Or.inr fun hr => by simp [cR, hj]
      · by_cases h1 : K = 1
        · subst h1
          rcases (show j = 0 ∨ j = 1 ∨ 2 ≤ j by omega) with rfl | rfl | h
          · exact Or.inl ⟨rfl, some (15, i), fun _ => rfl⟩
          · exact Or.inl ⟨rfl, some (12, i), fun _ => rfl⟩
          · exact Or.inr fun hr => by simp [cR, show ¬ j = 0 by omega, show ¬ j = 1 by omega]
        · by_cases h7 : K = 7
          · subst h7
            by_cases hj : j = 4
            · subst hj
              exact Or.inl ⟨rfl, some (11, i), fun _ => rfl⟩
            · exact Or.inr fun hr => by simp [cR, hj]
          · exact Or.inr fun hr => by simp [cR, h8, h16, h4, h1, h7]
theorem cR_fix {hr hr' : ab_R} (h : cR hr = hr) (e : ∀ K i j, cX K j = true → hr' K i j = hr K i j) : cR hr' = hr' := by
  funext K i j
  rcases cR_two K i j with ⟨q, v, hv⟩ | q
  · rw [hv, e K i j q, ← congrFun (congrFun (congrFun h K) i) j, hv]
  · exact q hr'
def mX (K : Nat) : Bool := K == 9 || K == 31 || K == 32 || K == 52 || K == 73
theorem mR_fix {hr hr' : ab_R} (h : mR hr = hr) (e : ∀ K i j, mX K = true → hr' K i j = hr K i j) : mR hr' = hr' := by
  funext K i j
  by_cases q : mX K = true
  · have h1 := congrFun (congrFun (congrFun h K) i) j
    rw [e K i j q, ← h1]
    unfold mR
    rw [e K i j q]
  · unfold mX at q
    simp only [Bool.or_eq_true, beq_iff_eq, not_or] at q
    unfold mR
    simp only [q, if_false]
theorem cR_id {hr : ab_R} : cR (cR hr) = cR hr := by
  funext K i j
  rcases cR_two K i j with ⟨-, v, hv⟩ | q
  · rw [hv, hv]
  · exact q (cR hr)
theorem cRw {E : ab_E} {d y : Nat} {as : List ab_V} {hi : ab_I} {hr : ab_R} {cn : ab_C} {Q : ab_Q} (h : cR hr = hr) (H : ab_Wm E d y as hi (cR hr) cn Q) : ab_Wm E d y as hi hr cn Q := by
  rw [h] at H
  exact H
theorem mRw {E : ab_E} {d y : Nat} {as : List ab_V} {hi : ab_I} {hr : ab_R} {cn : ab_C} {Q : ab_Q} (h : mR hr = hr) (H : ab_Wm E d y as hi (mR hr) cn Q) : ab_Wm E d y as hi hr cn Q := by
  rw [h] at H
  exact H
/-- the last of those that are so -/
def lst (c : Nat → Bool) : Nat → Option Nat
  | 0 => none
  | n + 1 => if c n = true then some n else lst c n
theorem lst_lt {c : Nat → Bool} : ∀ {n l : Nat}, lst c n = some l → l < n ∧ c l = true
  | 0, _, h => by cases h
  | n + 1, l, h => by
    unfold lst at h
    split at h
    · cases h
      exact ⟨by omega, ‹_›⟩
    · have := lst_lt h
      exact ⟨by omega, this.2⟩
theorem lst_congr {c c' : Nat → Bool} : ∀ {n : Nat}, (∀ l, l < n → c l = c' l) → lst c n = lst c' n
  | 0, _ => rfl
  | n + 1, h => by
    unfold lst
    rw [h n (by omega), lst_congr (fun l hl => h l (by omega))]
theorem sumI_congr {f f' : Nat → Int32} : ∀ {n : Nat}, (∀ j, j < n → f' j = f j) → sumI f' n = sumI f n
  | 0, _ => rfl
  | n + 1, h => by
    show sumI f' n + f' n = sumI f n + f n
    rw [h n (by omega), sumI_congr (fun j hj => h j (by omega))]
theorem sumI_set {f f' : Nat → Int32} {w : Nat} : ∀ {n : Nat}, w < n → (∀ j, j < n → j ≠ w → f' j = f j) → sumI f' n = sumI f n - f w + f' w
  | 0, hw, _ => by omega
  | n + 1, hw, h => by
    show sumI f' n + f' n = sumI f n + f n - f w + f' w
    by_cases e : w = n
    · subst e
      rw [sumI_congr (f := f) (fun j hj => h j (by omega) (by omega)), Int32.add_sub_cancel]
    · rw [sumI_set (f := f) (n := n) (by omega) (fun j hj => h j (by omega)), h n (by omega) (fun z => e z.symm)]
      simp only [Int32.sub_eq_add_neg]
      ac_rfl
theorem sumI_zero {f : Nat → Int32} : ∀ {n : Nat}, (∀ j, j < n → f j = nI 0) → sumI f n = nI 0
  | 0, _ => rfl
  | n + 1, h => by
    show sumI f n + f n = nI 0
    rw [h n (by omega), sumI_zero (fun j hj => h j (by omega))]
    rfl
theorem bR_congr {f f' : Nat → Int32} {d : Int32} : ∀ {n : Nat}, (∀ k, k < n → f k = f' k) → bR f d n = bR f' d n
  | 0, _ => rfl
  | n + 1, h => by
    unfold bR
    rw [← bR_congr (f := f) (f' := f') (d := d) (fun k hk => h k (by omega)), ← h n (by omega)]
    rcases hb : bR f d n with _ | j
    · rfl
    · dsimp only
      rw [← h j (by have := bR_lt hb; omega)]
theorem nxt_congr {c c' : Nat → Bool} {r r' : Nat → Int32} : ∀ {n : Nat}, (∀ k, k < n → c k = c' k ∧ r k = r' k) → nxt c r n = nxt c' r' n
  | 0, _ => rfl
  | n + 1, h => by
    unfold nxt
    rw [← nxt_congr (c := c) (c' := c') (r := r) (r' := r') (fun k hk => h k (by omega)), ← (h n (by omega)).1]
    rcases hb : nxt c r n with _ | j
    · rfl
    · dsimp only
      rw [← (h n (by omega)).2, ← (h j (by have := nxt_lt hb; omega)).2]
theorem nxt_none {c : Nat → Bool} {r : Nat → Int32} {n : Nat} (h : ∀ k, k < n → c k = false) : nxt c r n = none := by
  rcases hb : nxt c r n with _ | j
  · rfl
  · have := nxt_lt hb
    rw [h j this.1] at this
    cases this.2
theorem flt_congr {c c' : Nat → Bool} {n : Nat} (h : ∀ k, k < n → c k = c' k) : flt c n = flt c' n := by
  unfold flt
  exact List.filter_congr (fun k hk => h k (List.mem_range.mp hk))
/-! THE RELATION -/
def iFix (hr : ab_R) : Prop := cR hr = hr ∧ mR hr = hr
def iCn (cn : ab_C) (nR nH nW nV nL : Nat) : Prop := cn 2 = nH ∧ cn 3 = nL ∧ cn 5 = nR + 1 ∧ cn 6 = nV ∧ cn 7 = nW ∧ cn 11 = nW
def iLs (hi : ab_I) (hr : ab_R) (cn : ab_C) (nR nH nW nV : Nat) : Prop := cL hi hr cn 0 nH (fun j => (2, j)) ∧ cL hi hr cn 1 nW (fun j => (7, j)) ∧ cL hi hr cn 2 nV (fun j => (6, j)) ∧ cL hi hr cn 3 nR (fun j => (5, j + 1))
def iNow (hi : ab_I) : Prop := hi 8 0 8 = hi 9 0 0 ∧ ∃ t, t ≤ 20000 ∧ hi 9 0 0 = nI t
def iSum (hi : ab_I) : Prop := hi 8 0 9 = hi 9 0 36 ∧ hi 8 0 10 = hi 9 0 37 ∧ hi 8 0 11 = hi 9 0 38 ∧ hi 8 0 12 = hi 9 0 34 ∧ ∀ a, a < 10 → hi 10 0 a = hi 65 0 a
def iMi (hi : ab_I) : Prop := ∀ a b, a < 4 → b < 4 → hi 13 a b = hi 81 a b
def rlI (hi : ab_I) (k : Nat) : Prop := (∀ j, j < 7 → hi 5 (k + 1) j = hi 82 k j) ∧ nI 0 ≤ hi 82 k 0 ∧ (∃ a, a ≤ 9 ∧ hi 82 k 1 = nI a) ∧ ∃ b, b ≤ 9 ∧ hi 82 k 2 = nI b
def iRu (hi : ab_I) (nR : Nat) : Prop := hi 5 0 0 = -1 ∧ (∀ j, 1 ≤ j → j < 7 → hi 5 0 j = hi 34 0 j) ∧ (hi 34 0 1 = nI 1 ∧ hi 34 0 2 = nI 0) ∧ ∀ k, k < nR → rlI hi k
def hmI (hi : ab_I) (nW g : Nat) : Prop := hi 2 g 0 = nI g ∧ hi 2 g 1 = hi 35 0 g ∧ hi 2 g 2 = hi 36 0 g ∧ hi 2 g 3 = hi 37 0 g ∧ hi 2 g 4 = mlent hi (nI g) true nW ∧ hi 2 g 5 = mlent hi (nI g) false nW ∧ hi 2 g 6 = hi 38 0 g ∧ hi 2 g 7 = hi 39 0 g
def iHo (hi : ab_I) (nH nW : Nat) : Prop := (∀ g, g < nH → hmI hi nW g) ∧ ∀ g, nH ≤ g → g < 20 → hi 38 0 g = nI 0 ∧ hi 39 0 g = nI 0
def iTm (hi : ab_I) (x : Int32) : Prop := ∃ t u, t ≤ u ∧ u ≤ 20000 ∧ x = nI t ∧ hi 9 0 0 = nI u
def iHt (hi : ab_I) (nH : Nat) : Prop := ∀ g, g < nH → iTm hi (hi 37 0 g)
def wkI (hi : ab_I) (w : Nat) : Prop := hi 7 w 0 = nI w ∧ hi 7 w 1 = hi 41 0 w ∧ hi 7 w 2 = hi 42 0 w ∧ hi 7 w 3 = hi 42 0 w / nI 20 ∧ hi 7 w 5 = hi 43 0 w ∧ hi 7 w 6 = hi 45 0 w ∧ hi 7 w 7 = hi 50 0 w ∧ hi 7 w 8 = hi 49 0 w ∧ (hi 43 0 w ≠ nI 0 → hi 7 w 10 = hi 46 0 w) ∧ hi 7 w 11 = hi 47 0 w ∧ hi 7 w 12 = hi 48 0 w ∧ ∃ s, s ≤ 3 ∧ hi 43 0 w = nI s
def iWk (hi : ab_I) (nW : Nat) : Prop := (∀ w, w < nW → wkI hi w) ∧ ∀ w, nW ≤ w → w < 40 → hi 43 0 w = nI 0 ∧ hi 47 0 w = nI 0 ∧ hi 48 0 w = nI 0 ∧ hi 49 0 w = nI 0
def hdI (hi : ab_I) (hr : ab_R) (nH w : Nat) : Prop := (hi 43 0 w = nI 0 ∧ hi 44 0 w = -1 ∧ hr 7 w 9 = none) ∨ (hi 43 0 w ≠ nI 0 ∧ ∃ g, g < nH ∧ hi 44 0 w = nI g ∧ hr 7 w 9 = some (2, g))
def iHd (hi : ab_I) (hr : ab_R) (nH nW : Nat) : Prop := ∀ w, w < nW → hdI hi hr nH w
def iRn (hi : ab_I) (nW : Nat) : Prop := (∀ w g, w < nW → g < 20 → hi 11 w g = hi 102 g w) ∧ ∀ w g, nW ≤ w → w < 40 → g < 20 → hi 102 g w = nI 0
noncomputable def gH (hi : ab_I) (k : Nat) : Nat := ab_ix (hi 54 0 k)
noncomputable def gW (hi : ab_I) (k : Nat) : Nat := ab_ix (hi 55 0 k)
def wsI (hi : ab_I) (hr : ab_R) (k : Nat) : Prop := hi 6 k 0 = nI k ∧ hr 6 k 1 = some (2, gH hi k) ∧ hr 6 k 2 = some (7, gW hi k) ∧ hi 6 k 3 = hi 56 0 k ∧ hi 6 k 4 = hi 57 0 k ∧ hi 6 k 5 = hi 58 0 k ∧ hi 6 k 6 = hi 59 0 k
def iWs (hi : ab_I) (hr : ab_R) (nV : Nat) : Prop := (∀ k, k < nV → wsI hi hr k) ∧ ∀ k, nV ≤ k → k < 200 → hi 56 0 k = nI 0 ∧ hi 58 0 k = nI 0
def iWt (hi : ab_I) (nV : Nat) : Prop := ∀ k, k < nV → iTm hi (hi 57 0 k)
def lkP (hi : ab_I) (x : Int32) (n : Nat) : Option Nat := lst (fun l => decide (hi 61 0 l = x)) n
def lkI (hi : ab_I) (hr : ab_R) (nW l : Nat) : Prop := (∃ w, w < nW ∧ hi 61 0 l = nI w) ∧ hi 3 l 0 = hi 62 0 l ∧ hr 3 l 2 = lr (lkP hi (hi 61 0 l) l) ∧ ∃ Y, hadB (hi 63 0 l) Y ∧ hi 3 l 1 = if lkP hi (hi 61 0 l) l = none ∨ Y = -1 then -2 else Y
def lwI (hi : ab_I) (hr : ab_R) (nL w : Nat) : Prop := hi 7 w 13 = mLooks hi w nL ∧ hadB (hi 51 0 w) (hi 7 w 15) ∧ hr 7 w 14 = lr (lkP hi (nI w) nL)
def iLk (hi : ab_I) (hr : ab_R) (nW nL : Nat) : Prop := (∀ l, l < nL → lkI hi hr nW l) ∧ (∀ w, w < nW → lwI hi hr nL w) ∧ ∀ w, nW ≤ w → w < 40 → hi 51 0 w = nI 0
def inv (hi : ab_I) (hr : ab_R) (cn : ab_C) (nR nH nW nV nL : Nat) : Prop :=
  iFix hr ∧ iCn cn nR nH nW nV nL ∧ iLs hi hr cn nR nH nW nV ∧ mok hi nR nH nW nV nL ∧ (mU hi nV ∧ mF hi) ∧ iNow hi ∧ iSum hi ∧ iMi hi ∧ iRu hi nR ∧ iHo hi nH nW ∧ iHt hi nH ∧ iWk hi nW ∧ iHd hi hr nH nW ∧ iRn hi nW ∧ iWs hi hr nV ∧ iWt hi nV ∧ iLk hi hr nW nL ∧ ∃ s, plP hr s
def Inv (hi : ab_I) (hr : ab_R) (cn : ab_C) : Prop := ∃ nR nH nW nV nL, inv hi hr cn nR nH nW nV nL
/-- a call of the class and the same call of the reference: the same answer, the relation again -/
def stp (E : ab_E) (d yX yM : Nat) (as : List ab_V) (hi : ab_I) (hr : ab_R) (cn : ab_C) : Prop := ∀ Q : ab_Q, (∀ y hi1 hr1 cn1, (∀ Q' : ab_Q, (∀ hi2 hr2 cn2, Inv hi2 hr2 cn2 → Q' (some (.inl y)) hi2 hr2 cn2) → ab_Wm E d yM (mO :: as) hi1 hr1 cn1 Q') → Q (some (.inl y)) hi1 hr1 cn1) → ab_Wm E d yX (cO :: as) hi hr cn Q
section REL
variable {hi : ab_I} {hr : ab_R} {cn : ab_C} {nR nH nW nV nL : Nat}
theorem iRu_rl (h : iRu hi nR) (hn : nR ≤ 60) : cRl hi nR := ⟨by omega, h.1, fun k hk => by
  rw [(h.2.2.2 k hk).1 0 (by omega)]
  exact (h.2.2.2 k hk).2.1⟩
theorem iRu_at (h : iRu hi nR) (day : Int32) {j : Nat} (h1 : 1 ≤ j) (h7 : j < 7) : hi 5 (crul hi nR day) j = mrule hi nR day j := by
  unfold crul mrule
  rw [bR_congr (f' := fun k => hi 82 k 0) (fun k hk => (h.2.2.2 k hk).1 0 (by omega))]
  rcases hb : bR (fun k => hi 82 k 0) day nR with _ | k
  · exact h.2.1 j h1 h7
  · exact (h.2.2.2 k (bR_lt hb)).1 j h7
theorem iRu_age (h : iRu hi nR) (day : Int32) : (∃ a, a ≤ 9 ∧ mrule hi nR day 1 = nI a) ∧ ∃ b, b ≤ 9 ∧ mrule hi nR day 2 = nI b := by
  unfold mrule
  rcases hb : bR (fun k => hi 82 k 0) day nR with _ | k
  · exact ⟨⟨1, by omega, h.2.2.1.1⟩, 0, by omega, h.2.2.1.2⟩
  · exact ⟨(h.2.2.2 k (bR_lt hb)).2.2.1, (h.2.2.2 k (bR_lt hb)).2.2.2⟩
theorem nI_mul (a b : Nat) : nI a * nI b = nI (a * b) := by
  induction b with
  | zero =>
    show nI a * 0 = nI (a * 0)
    rw [Int32.mul_zero, Nat.mul_zero]
    rfl
  | succ b ih =>
    rw [nI_succ, Int32.mul_add, ih, Int32.mul_one, Nat.mul_succ, nI_add]
theorem nI_div {a b : Nat} (ha : a < 2 ^ 31) (hb : b < 2 ^ 31) : nI a / nI b = nI (a / b) := by
  apply Int32.toInt_inj.mp
  rw [Int32.toInt_div_of_ne_left _ _ (by
    intro e
    have := congrArg Int32.toInt e
    rw [nI_toInt ha] at this
    have h2 : Int32.minValue.toInt = -2147483648 := by decide
    omega), nI_toInt ha, nI_toInt hb, nI_toInt (Nat.lt_of_le_of_lt (Nat.div_le_self a b) ha)]
  exact Int.ofNat_tdiv a b
theorem ix_of {x : Int32} {n : Nat} (h : ∃ m, m < n ∧ x = nI m) (hn : n ≤ 1000) : ab_ix x < n ∧ x = nI (ab_ix x) := by
  obtain ⟨m, h1, rfl⟩ := h
  rw [ab_ix_nI (by omega)]
  exact ⟨h1, rfl⟩
theorem gH_of (M : mok hi nR nH nW nV nL) {k : Nat} (hk : k < nV) : gH hi k < nH ∧ hi 54 0 k = nI (gH hi k) := ix_of (M.2.2.2.2.2.1 k hk) (by have := M.2.1.2; omega)
theorem gW_of (M : mok hi nR nH nW nV nL) {k : Nat} (hk : k < nV) : gW hi k < nW ∧ hi 55 0 k = nI (gW hi k) := ix_of (M.2.2.2.2.2.2.1 k hk) (by have := M.2.2.1.2; omega)
theorem rank_eq (I : inv hi hr cn nR nH nW nV nL) {k : Nat} (hk : k < nV) : cRank hi (crul hi nR (hi 8 0 8)) k (gH hi k) (hi 8 0 8) = mrank hi nR k ∧ -1 < mrank hi nR k := by
  obtain ⟨-, -, -, M, -, ⟨n1, -⟩, -, -, ru, ho, ht, -, -, -, ws, wt, -⟩ := I
  obtain ⟨g1, g2⟩ := gH_of M hk
  have e1 : cRank hi (crul hi nR (hi 8 0 8)) k (gH hi k) (hi 8 0 8) = mrank hi nR k := by
    unfold cRank mrank
    rw [iRu_at ru _ (by omega) (by omega), iRu_at ru _ (by omega) (by omega), n1, (ws.1 k hk).2.2.2.2.1, (ho.1 _ g1).2.2.2.1]
    rfl
  refine ⟨e1, ?_⟩
  obtain ⟨⟨a, ha, ea⟩, b, hb, eb⟩ := iRu_age ru (hi 9 0 0)
  obtain ⟨t, u, h1, h2, h3, h4⟩ := wt k hk
  obtain ⟨t', u', h1', h2', h3', h4'⟩ := ht _ g1
  have eu : u' = u := (nI_eq (by omega) (by omega)).mp (h4'.symm.trans h4)
  subst eu
  unfold mrank
  rw [ea, eb, h3, show hi 37 0 (ab_ix (hi 54 0 k)) = nI t' from h3', h4, nI_sub h1, nI_sub h1', nI_div (by omega) (by omega), nI_mul, nI_mul, nI_add]
  have m1 : a * (u' - t) ≤ 9 * 20000 := Nat.mul_le_mul ha (by omega)
  have m2 : b * ((u' - t') / 30) ≤ 9 * 20000 := Nat.mul_le_mul hb (by omega)
  rw [Int32.lt_iff_toInt_lt, nI_toInt (by omega)]
  have h2 : (-1 : Int32).toInt = -1 := by decide
  omega
/-- of a wish: what the class and the reference see -/
theorem can_eq (I : inv hi hr cn nR nH nW nV nL) {k : Nat} (hk : k < nV) : (decide (hi 6 k 3 = nI 0) && decide (hi 7 (gW hi k) 5 = nI 0) && decide (hi 2 (gH hi k) 4 + hi 7 (gW hi k) 3 ≤ hi 2 (gH hi k) 2)) = (decide (hi 56 0 k = nI 0) && decide (hi 43 0 (gW hi k) = nI 0) && mroom hi nW (gH hi k) (gW hi k)) := by
  obtain ⟨-, -, -, M, -, -, -, -, -, ho, -, wk, -, -, ws, -, -⟩ := I
  obtain ⟨g1, g2⟩ := gH_of M hk
  obtain ⟨w1, w2⟩ := gW_of M hk
  unfold mroom
  rw [(ws.1 k hk).2.2.2.1, (wk.1 _ w1).2.2.2.2.1, (wk.1 _ w1).2.2.2.1, (ho.1 _ g1).2.2.2.2.1, (ho.1 _ g1).2.2.1]
theorem cand_eq (I : inv hi hr cn nR nH nW nV nL) {w k : Nat} (hw : w < nW) (hs : hi 43 0 w = nI 0) (hk : k < nV) : cCan hi (gH hi) (gW hi) (some w) k = mcand hi nW w k := by
  have I' := I
  obtain ⟨-, -, -, M, -, ⟨n1, -⟩, -, -, -, -, -, -, -, -, ws, -, -⟩ := I
  obtain ⟨w1, w2⟩ := gW_of M hk
  have hW := M.2.2.1.2
  unfold cCan mcand
  rw [can_eq I' hk, (ws.1 k hk).2.2.2.2.2.2, n1]
  by_cases e : gW hi k = w
  · rw [e, hs, w2, e]
    simp only [decide_true, Bool.true_and, Bool.and_true]
    rw [Bool.and_assoc, Bool.and_assoc, Bool.and_comm (mroom hi nW (gH hi k) w)]
    rfl
  · have e2 : ¬ nI (gW hi k) = nI w := fun z => e ((nI_eq (by omega) (by omega)).mp z)
    rw [decide_eq_false (show ¬ some (gW hi k) = some w from fun z => e (Option.some.inj z)), w2, decide_eq_false e2]
    simp
theorem cand_no (I : inv hi hr cn nR nH nW nV nL) {w k : Nat} (hs : hi 43 0 w ≠ nI 0) (hk : k < nV) : cCan hi (gH hi) (gW hi) (some w) k = false := by
  unfold cCan
  rw [can_eq I hk]
  by_cases e : gW hi k = w
  · rw [e, decide_eq_false hs]
    simp
  · rw [decide_eq_false (show ¬ some (gW hi k) = some w from fun z => e (Option.some.inj z))]
    rfl
theorem nxt_eq (I : inv hi hr cn nR nH nW nV nL) {w : Nat} (hw : w < nW) (hs : hi 43 0 w = nI 0) : nxt (cCan hi (gH hi) (gW hi) (some w)) (fun k => cRank hi (crul hi nR (hi 8 0 8)) k (gH hi k) (hi 8 0 8)) nV = mnext hi nR nW w nV := nxt_congr (fun k hk => ⟨cand_eq I hw hs hk, (rank_eq I hk).1⟩)
end REL
