section STEPS7
variable {E : ab_E} {d : Nat} {hi : ab_I} {hr : ab_R} {cn : ab_C} {nR nH nW nV nL : Nat}
/-- a work leaves its home -/
theorem leave_inv (I : inv hi hr cn nR nH nW nV nL) {w g : Nat} (hw : w < nW) (hg : g < nH) (es : hi 43 0 w = nI 1) (eg : hi 44 0 w = nI g) {hi2 : ab_I} {hr2 : ab_R} {st : Nat} (hst : st ≤ 3) (hst1 : st ≠ 1)
    (kK : ∀ K, ¬ (K = 2 ∨ K = 6 ∨ K = 7 ∨ K = 8 ∨ K = 9 ∨ K = 10 ∨ K = 11 ∨ K = 38 ∨ K = 39 ∨ K = 43 ∨ K = 44 ∨ K = 45 ∨ K = 50 ∨ K = 56 ∨ K = 65 ∨ K = 102) → hi2 K = hi K)
    (h2i : ∀ i j, i ≠ g → hi2 2 i j = hi 2 i j) (h2g : ∀ j, j ≤ 3 → hi2 2 g j = hi 2 g j) (h24 : hi2 2 g 4 = hi 2 g 4 - hi 7 w 3) (h25 : hi2 2 g 5 = hi 2 g 5 - nI 1) (h26 : hi2 2 g 6 = hi2 38 0 g) (h27 : hi2 2 g 7 = hi2 39 0 g) (h38 : ∀ i, i ≠ g → hi2 38 0 i = hi 38 0 i ∧ hi2 39 0 i = hi 39 0 i)
    (h7i : ∀ i j, i ≠ w → hi2 7 i j = hi 7 i j) (h7w : ∀ j, j ≠ 5 → j ≠ 6 → j ≠ 7 → hi2 7 w j = hi 7 w j) (h75 : hi2 7 w 5 = nI st) (h76 : hi2 7 w 6 = hi2 45 0 w) (h77 : hi2 7 w 7 = hi2 50 0 w)
    (hmi : ∀ K i, (K = 43 ∨ K = 44 ∨ K = 45 ∨ K = 50) → i ≠ w → hi2 K 0 i = hi K 0 i) (h43 : hi2 43 0 w = nI st) (h45 : ∃ t, t < 4 ∧ hi2 45 0 w = nI t)
    (hh : (st = 0 ∧ hi2 44 0 w = -1 ∧ hr2 7 w 9 = none) ∨ (st ≠ 0 ∧ hi2 44 0 w = hi 44 0 w ∧ hr2 7 w 9 = hr 7 w 9))
    (hrn : ∀ w' g', w' < nW → g' < 20 → hi2 11 w' g' = hi2 102 g' w') (hrf : ∀ w' g', nW ≤ w' → hi2 102 g' w' = hi 102 g' w')
    (hsum : iSum hi2) (h88 : hi2 8 0 8 = hi 8 0 8) (h9 : ∀ j, j ≠ 37 → j ≠ 38 → hi2 9 0 j = hi 9 0 j)
    (h6 : ∀ k j, j ≠ 3 → hi2 6 k j = hi 6 k j) (h63 : ∀ k, k < nV → hi2 6 k 3 = hi2 56 0 k) (h56 : ∀ k, hi2 56 0 k = nI 0 → hi 56 0 k = nI 0) (h56f : ∀ k, nV ≤ k → hi2 56 0 k = hi 56 0 k)
    (rK : ∀ K i j, ¬ (K = 7 ∧ i = w ∧ j = 9) → hr2 K i j = hr K i j) : inv hi2 hr2 cn nR nH nW nV nL := by
  have I' := I

  obtain ⟨⟨fc, fm⟩, ⟨c2, c3, c5, c6, c7, c11⟩, ⟨l0, l1, l2, l3⟩, M, ⟨mu, mf⟩, ⟨n1, n2⟩, ⟨s1, s2, s3, s4, s5⟩, mi, ru, ho, ht, wk, hd, rn, ws, wt, ⟨lk1, lk2, lk3⟩, pp⟩ := I
  have M' := M
  obtain ⟨⟨hcR, hR⟩, ⟨hcH, hH⟩, ⟨hcW, hW⟩, ⟨hcV, hV⟩, ⟨hcL, hL⟩, mh, mw, ma, ms, mo, mt⟩ := M'
  obtain ⟨x0, x1, x2, x3, x5, x6, x7, x8, x10, x11, x12, -⟩ := wk.1 w hw
  obtain ⟨y0, y1, y2, y3, y4, y5, y6, y7⟩ := ho.1 g hg
  have h43n : ¬ hi2 43 0 w = nI 1 := by
    rw [h43]
    exact fun z => hst1 ((nI_eq (by omega) (by omega)).mp z)
  have mw' : ∀ K i, 41 ≤ K → K ≤ 51 → i ≠ w → hi2 K 0 i = hi K 0 i := fun K i z1 z2 z => by
    by_cases z3 : K = 43 ∨ K = 44 ∨ K = 45 ∨ K = 50
    · exact hmi K i z3 z
    · rw [kK K (by omega)]
  have lent : ∀ g', g' < nH → ∀ p, mlent hi2 (nI g') p nW = mlent hi (nI g') p nW - (if g' = g then (if p = true then hi 42 0 w / nI 20 else nI 1) else nI 0) := fun g' hg' p => by
    have := sumI_set (f := fun w => if hi 43 0 w = nI 1 ∧ hi 44 0 w = nI g' then (if p = true then hi 42 0 w / nI 20 else nI 1) else nI 0) (f' := fun w => if hi2 43 0 w = nI 1 ∧ hi2 44 0 w = nI g' then (if p = true then hi2 42 0 w / nI 20 else nI 1) else nI 0) hw (fun j hj z => by
      rw [mw' 43 j (by omega) (by omega) z, mw' 44 j (by omega) (by omega) z, mw' 42 j (by omega) (by omega) z])
    unfold mlent
    rw [this, es, eg, if_neg (show ¬ (hi2 43 0 w = nI 1 ∧ hi2 44 0 w = nI g') from fun z => h43n z.1)]
    have e4 : nI g = nI g' ↔ g' = g := by
      rw [nI_eq (by omega) (by omega)]
      exact eq_comm
    have e5 : ∀ S : Int32, S + nI 0 = S := fun S => Int32.add_zero S
    rw [e5]
    congr 1
    by_cases z : g' = g
    · rw [if_pos ⟨rfl, e4.mpr z⟩, if_pos z]
    · rw [if_neg (fun y => z (e4.mp y.2)), if_neg z]
  refine ⟨⟨?_, ?_⟩, ⟨c2, c3, c5, c6, c7, c11⟩, ?_, ?_, ⟨?_, ?_⟩, ?_, hsum, ?_, ?_, ⟨?_, ?_⟩, ?_, ⟨?_, ?_⟩, ?_, ⟨hrn, ?_⟩, ⟨?_, ?_⟩, ?_, ⟨?_, ?_, ?_⟩, ?_⟩
  · exact cR_fix fc (fun K i j z => rK K i j (by rintro ⟨rfl, -, rfl⟩; cases z))
  · exact mR_fix fm (fun K i j z => rK K i j (by rintro ⟨rfl, -, rfl⟩; cases z))
  · have e0 : ∀ k, hi2 0 k 2 = hi 0 k 2 := fun k => by rw [kK 0 (by omega)]
    exact ⟨cL_congr (e0 0) (rK 0 0 1 (by omega)) (fun g j => rK _ g j (by omega)) rfl l0, cL_congr (e0 1) (rK 0 1 1 (by omega)) (fun g j => rK _ g j (by omega)) rfl l1, cL_congr (e0 2) (rK 0 2 1 (by omega)) (fun g j => rK _ g j (by omega)) rfl l2, cL_congr (e0 3) (rK 0 3 1 (by omega)) (fun g j => rK _ g j (by omega)) rfl l3⟩
  · unfold mok
    rw [h9 3 (by omega) (by omega), h9 10 (by omega) (by omega), h9 23 (by omega) (by omega), h9 30 (by omega) (by omega), h9 34 (by omega) (by omega), kK 54 (by omega), kK 55 (by omega), kK 41 (by omega), kK 35 (by omega)]
    refine ⟨⟨hcR, hR⟩, ⟨hcH, hH⟩, ⟨hcW, hW⟩, ⟨hcV, hV⟩, ⟨hcL, hL⟩, mh, mw, ma, fun w' hw' => ?_, fun w' hw' => ?_, mt⟩
    · by_cases z : w' = w
      · rw [z]
        exact h45
      · rw [mw' 45 w' (by omega) (by omega) z]
        exact ms w' hw'
    · by_cases z : w' = w
      · subst z
        rcases hh with ⟨z1, -, -⟩ | ⟨-, z2, -⟩
        · rw [h43, z1]
          exact fun y => absurd rfl y
        · exact fun _ => ⟨g, hg, z2.trans eg⟩
      · rw [mw' 43 w' (by omega) (by omega) z, mw' 44 w' (by omega) (by omega) z]
        exact mo w' hw'
  · intro a b ha hb h1 h2 h3 h4
    rw [kK 54 (by omega)] at h3
    rw [kK 55 (by omega)] at h4
    exact mu a b ha hb (h56 a h1) (h56 b h2) h3 h4
  · unfold mF
    rw [kK 81 (by omega)]
    exact mf
  · unfold iNow
    rw [h88, h9 0 (by omega) (by omega)]
    exact ⟨n1, n2⟩
  · unfold iMi
    rw [kK 13 (by omega), kK 81 (by omega)]
    exact mi
  · exact iRu_k (kK 5 (by omega)) (kK 82 (by omega)) (kK 34 (by omega)) ru
  · intro g' hg'
    by_cases z : g' = g
    · subst z
      unfold hmI
      rw [h2g 0 (by omega), h2g 1 (by omega), h2g 2 (by omega), h2g 3 (by omega), h24, h25, kK 35 (by omega), kK 36 (by omega), kK 37 (by omega), lent g' hg' true, lent g' hg' false, y4, y5, x3]
      exact ⟨y0, y1, y2, y3, by rw [if_pos rfl, if_pos rfl], by rw [if_pos rfl, if_neg (by decide)], h26, h27⟩
    · refine hmI_congr (hi := hi) (nW := nW) (fun j => h2i g' j z) (fun K h1 h2 => ?_) (fun p => ?_) (ho.1 g' hg')
      · rcases (show K = 38 ∨ K = 39 ∨ (K ≠ 38 ∧ K ≠ 39) by omega) with rfl | rfl | ⟨z1, z2⟩
        · exact (h38 g' z).1
        · exact (h38 g' z).2
        · rw [kK K (by omega)]
      · rw [lent g' hg' p, if_neg z]
        exact Int32.sub_zero _
  · intro g' h1 h2
    rw [(h38 g' (by omega)).1, (h38 g' (by omega)).2]
    exact ho.2 g' h1 h2
  · intro g' hg'
    rw [kK 37 (by omega)]
    exact iTm_k (h9 0 (by omega) (by omega)) (ht g' hg')
  · intro w' hw'
    by_cases z : w' = w
    · subst z
      unfold wkI
      rw [h7w 0 (by omega) (by omega) (by omega), h7w 1 (by omega) (by omega) (by omega), h7w 2 (by omega) (by omega) (by omega), h7w 3 (by omega) (by omega) (by omega), h75, h76, h77, h7w 8 (by omega) (by omega) (by omega), h7w 10 (by omega) (by omega) (by omega), h7w 11 (by omega) (by omega) (by omega), h7w 12 (by omega) (by omega) (by omega), kK 41 (by omega), kK 42 (by omega), h43, kK 46 (by omega), kK 47 (by omega), kK 48 (by omega), kK 49 (by omega)]
      exact ⟨x0, x1, x2, x3, rfl, rfl, rfl, x8, fun _ => x10 (by rw [es]; decide), x11, x12, st, hst, rfl⟩
    · exact wkI_congr (hi := hi) (fun j _ => h7i w' j z) (fun K h1 h2 => mw' K w' h1 (by omega) z) (wk.1 w' hw')
  · intro w' h1 h2
    rw [mw' 43 w' (by omega) (by omega) (by omega), mw' 47 w' (by omega) (by omega) (by omega), mw' 48 w' (by omega) (by omega) (by omega), mw' 49 w' (by omega) (by omega) (by omega)]
    exact wk.2 w' h1 h2
  · intro w' hw'
    by_cases z : w' = w
    · subst z
      rcases hh with ⟨z1, z2, z3⟩ | ⟨z1, z2, z3⟩
      · exact Or.inl ⟨by rw [h43, z1], z2, z3⟩
      · have : hr 7 w' 9 = some (2, g) := by
          rcases hd w' hw' with ⟨q, -⟩ | ⟨-, g', q1, q2, q3⟩
          · rw [es] at q
            exact absurd q (by decide)
          · rw [q3, (nI_eq (by omega) (by omega)).mp (q2.symm.trans eg)]
        exact Or.inr ⟨by rw [h43]; exact fun y => z1 ((nI_eq (by omega) (by omega)).mp y), g, hg, z2.trans eg, z3.trans this⟩
    · exact hdI_congr (hi := hi) (hr := hr) (mw' 43 w' (by omega) (by omega) z) (mw' 44 w' (by omega) (by omega) z) (rK 7 w' 9 (by omega)) (hd w' hw')
  · intro w' g' h1 h2 h3
    rw [hrf w' g' h1]
    exact rn.2 w' g' h1 h2 h3
  · intro k' hk'
    obtain ⟨v0, v1, v2, v3, v4, v5, v6⟩ := ws.1 k' hk'
    unfold wsI gH gW
    rw [h6 k' 0 (by omega), h63 k' hk', h6 k' 4 (by omega), h6 k' 5 (by omega), h6 k' 6 (by omega), kK 54 (by omega), kK 55 (by omega), kK 57 (by omega), kK 58 (by omega), kK 59 (by omega), rK 6 k' 1 (by omega), rK 6 k' 2 (by omega)]
    exact ⟨v0, v1, v2, rfl, v4, v5, v6⟩
  · intro k' h1 h2
    rw [h56f k' h1, kK 58 (by omega)]
    exact ws.2 k' h1 h2
  · intro k' hk'
    rw [kK 57 (by omega)]
    exact iTm_k (h9 0 (by omega) (by omega)) (wt k' hk')
  · exact fun l hl => lkI_congr (hi := hi) (hr := hr) (Nat.le_refl _) (fun j => by rw [kK 3 (by omega)]) (fun l' _ => by rw [kK 61 (by omega)]) (by rw [kK 62 (by omega)]) (by rw [kK 63 (by omega)]) (rK 3 l 2 (by omega)) (lk1 l hl)
  · intro w' hw'
    have e7 : ∀ j, j = 13 ∨ j = 15 → hi2 7 w' j = hi 7 w' j := fun j hj => by
      by_cases z : w' = w
      · subst z
        exact h7w j (by omega) (by omega) (by omega)
      · exact h7i w' j z
    exact lwI_congr (hi := hi) (hr := hr) (e7 13 (by omega)) (e7 15 (by omega)) (fun l _ => by rw [kK 61 (by omega)]) (by rw [kK 51 (by omega)]) (rK 7 w' 14 (by omega)) (lk2 w' hw')
  · intro w' h1 h2
    rw [kK 51 (by omega)]
    exact lk3 w' h1 h2
  · exact plP_k (fun p => rK 14 0 p (by omega)) pp
theorem rent_eq (I : inv hi hr cn nR nH nW nV nL) {w : Nat} (hw : w < nW) (es : hi 43 0 w = nI 1) : cRent hi w (crul hi nR (hi 7 w 10)) (hi 8 0 8) = mRent hi nR w := by
  obtain ⟨-, -, -, -, -, ⟨n1, -⟩, -, -, ru, -, -, wk, -⟩ := I
  obtain ⟨-, -, x2, -, -, -, -, -, x10, -⟩ := wk.1 w hw
  have e10 := x10 (by rw [es]; decide)
  have e30 : ∀ x : Int32, x + nI 30 - nI 1 = x + nI 29 := fun x => by
    rw [Int32.sub_eq_add_neg, Int32.add_assoc]
    rfl
  unfold cRent mRent
  rw [iRu_at ru _ (by omega) (by omega), e30, e10, x2, n1]
theorem mRent_q {hi hi' : ab_I} (e : mq hi hi') {nR w : Nat} : mRent hi' nR w = mRent hi nR w := by
  unfold mRent
  rw [mrule_q e, e 9 (by omega), e 46 (by omega), e 42 (by omega)]
theorem cChg_q {w g a r2 : Nat} {rent : Int32} {hi0 : ab_I} (h : mq hi0 hi) : mq hi0 (cChg hi w g a r2 rent) := by
  unfold cChg
  exact mq_u (mq_u (mq_u (mq_u (mq_u h (by omega)) (by omega)) (by omega)) (by omega)) (by omega)
theorem cLeave_q {w g : Nat} {st : Int32} {hi0 : ab_I} (h : mq hi0 hi) : mq hi0 (cLeave hi w g st) := by
  unfold cLeave
  exact mq_u (mq_u (mq_u h (by omega)) (by omega)) (by omega)
theorem cBack_q {w g : Nat} {day : Int32} {hi0 : ab_I} (h : mq hi0 hi) : mq hi0 (cBack hi w g day) := by
  unfold cBack
  exact mq_u (mq_u (cLeave_q h) (by omega)) (by omega)
theorem cSell_q {w g : Nat} {hi0 : ab_I} (h : mq hi0 hi) : mq hi0 (cSell hi w g) := by
  unfold cSell
  exact mq_u (mq_u h (by omega)) (by omega)
theorem cLose_q {w g : Nat} {hi0 : ab_I} (h : mq hi0 hi) : mq hi0 (cLose hi w g) := by
  unfold cLose
  exact mq_u h (by omega)
theorem cGive_q {gw : Nat → Nat} {w n : Nat} {hi0 : ab_I} (h : mq hi0 hi) : mq hi0 (cGive hi gw w n) := fun K hK => by
  funext i j
  rw [cGive_ne (by omega), h K hK]
/-- what the charge leaves, in the class -/
theorem cChg_at {w g a r2 : Nat} {rent : Int32} : cChg hi w g a r2 rent 2 g 6 = hi 2 g 6 + rent ∧ cChg hi w g a r2 rent 2 g 7 = hi 2 g 7 + rent ∧ cChg hi w g a r2 rent 8 0 10 = hi 8 0 10 + rent := by
  simp [cChg, ab_uI]
theorem cChg_2 {w g a r2 i j : Nat} {rent : Int32} (h : ¬ (i = g ∧ (j = 6 ∨ j = 7))) : cChg hi w g a r2 rent 2 i j = hi 2 i j := by
  unfold cChg
  rw [ab_uI_k (by omega), ab_uI_k (by omega), ab_uI_at, if_neg (by omega), ab_uI_at, if_neg (by omega), ab_uI_k (by omega)]
theorem cChg_8 {w g a r2 j : Nat} {rent : Int32} (h : j ≠ 10) : cChg hi w g a r2 rent 8 0 j = hi 8 0 j := by
  unfold cChg
  rw [ab_uI_k (by omega), ab_uI_j h, ab_uI_k (by omega), ab_uI_k (by omega), ab_uI_k (by omega)]
theorem cChg_k {w g a r2 K i j : Nat} {rent : Int32} (h : ¬ (K = 11 ∨ K = 2 ∨ K = 8 ∨ K = 10)) : cChg hi w g a r2 rent K i j = hi K i j := by
  unfold cChg
  rw [ab_uI_k (by omega), ab_uI_k (by omega), ab_uI_k (by omega), ab_uI_k (by omega), ab_uI_k (by omega)]
theorem cChg_11 {w g a r2 i j : Nat} {rent : Int32} : cChg hi w g a r2 rent 11 i j = if i = w ∧ j = g then hi 11 w g + rent else hi 11 i j := by
  unfold cChg
  rw [ab_uI_k (by omega), ab_uI_k (by omega), ab_uI_k (by omega), ab_uI_k (by omega), ab_uI_at]
theorem cChg_10 {w g a r2 i j : Nat} {rent : Int32} : cChg hi w g a r2 rent 10 i j = if i = 0 ∧ j = a then hi 10 0 a + rent * hi 5 r2 6 / nI 100 else hi 10 i j := by
  unfold cChg
  rw [ab_uI_at, ab_uI_k (by omega), ab_uI_k (by omega), ab_uI_k (by omega), ab_uI_k (by omega)]
/-- and in the reference -/
theorem mChg_at {nR w g : Nat} : mCharge hi nR w g 38 0 g = hi 38 0 g + mRent hi nR w ∧ mCharge hi nR w g 39 0 g = hi 39 0 g + mRent hi nR w ∧ mCharge hi nR w g 9 0 37 = hi 9 0 37 + mRent hi nR w := by
  simp [mCharge, ab_uI]
theorem mChg_38 {nR w g i : Nat} (h : i ≠ g) : mCharge hi nR w g 38 0 i = hi 38 0 i ∧ mCharge hi nR w g 39 0 i = hi 39 0 i := by
  simp [mCharge, ab_uI, h]
theorem mChg_102 {nR w g i j : Nat} : mCharge hi nR w g 102 i j = if i = g ∧ j = w then hi 102 g w + mRent hi nR w else hi 102 i j := by
  unfold mCharge
  rw [ab_uI_k (by omega), ab_uI_k (by omega), ab_uI_at, ab_uI_k (by omega), ab_uI_k (by omega)]
theorem mChg_65 {nR w g i j : Nat} : mCharge hi nR w g 65 i j = if i = 0 ∧ j = ab_ix (hi 41 0 w) then hi 65 0 (ab_ix (hi 41 0 w)) + mRent hi nR w * mrule hi nR (hi 9 0 0) 6 / nI 100 else hi 65 i j := by
  unfold mCharge
  rw [ab_uI_at, ab_uI_k (by omega), ab_uI_k (by omega), ab_uI_k (by omega), ab_uI_k (by omega)]
theorem mEnds_56 {w : Nat} {how : Int32} {i : Nat} : ∀ k, mEnds hi w how k 56 0 i = if i < k ∧ hi 56 0 i = nI 0 ∧ hi 55 0 i = nI w then nI 2 else hi 56 0 i
  | 0 => by
    rw [if_neg (fun z => absurd z.1 (by omega))]
    rfl
  | k + 1 => by
    unfold mEnds
    by_cases e : i = k
    · subst e
      have e0 : mEnds hi w how i 56 0 i = hi 56 0 i := by
        rw [mEnds_56 i, if_neg (fun z => absurd z.1 (by omega))]
      rw [e0]
      by_cases q : hi 56 0 i = nI 0 ∧ hi 55 0 i = nI w
      · rw [if_pos q, if_pos ⟨by omega, q⟩]
        exact ab_uI_e
      · rw [if_neg q, if_neg (fun z => q z.2)]
        exact e0
    · have e2 : ∀ P : Prop, ∀ _ : Decidable P, (if P then ab_uI (mEnds hi w how k) 56 0 k (nI 2) else mEnds hi w how k) 56 0 i = mEnds hi w how k 56 0 i := fun P _ => by
        split
        · exact ab_uI_j e
        · rfl
      rw [e2, mEnds_56 k]
      by_cases q : i < k
      · simp only [q, show i < k + 1 by omega]
      · rw [if_neg (fun z => q z.1), if_neg (fun z => q (by omega))]
theorem mEnds_43 {w : Nat} {how : Int32} {i : Nat} : ∀ k, mEnds hi w how k 43 0 i = if i = w then how else hi 43 0 i
  | 0 => by
    show ab_uI hi 43 0 w how 43 0 i = _
    rw [ab_uI_at]
    simp
  | k + 1 => by
    unfold mEnds
    split
    · rw [ab_uI_k (by omega)]
      exact mEnds_43 k
    · exact mEnds_43 k
end STEPS7
