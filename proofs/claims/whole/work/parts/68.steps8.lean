section STEPS8
variable {E : ab_E} {d : Nat} {hi : ab_I} {hr : ab_R} {cn : ab_C} {nR nH nW nV nL : Nat}
theorem cLeave_2 {w g i j : Nat} {st : Int32} : cLeave hi w g st 2 i j = if i = g ∧ j = 5 then hi 2 g 5 - nI 1 else if i = g ∧ j = 4 then hi 2 g 4 - hi 7 w 3 else hi 2 i j := by
  unfold cLeave
  rw [ab_uI_k (by omega), ab_uI_at, ab_uI_at]
theorem cLeave_7 {w g i j : Nat} {st : Int32} : cLeave hi w g st 7 i j = if i = w ∧ j = 5 then st else hi 7 i j := by
  unfold cLeave
  rw [ab_uI_at, ab_uI_k (by omega), ab_uI_k (by omega)]
theorem cLeave_k {w g K i j : Nat} {st : Int32} (h : K ≠ 2) (h2 : K ≠ 7) : cLeave hi w g st K i j = hi K i j := by
  unfold cLeave
  rw [ab_uI_k h2, ab_uI_k h, ab_uI_k h]
theorem cBack_7 {w g i j : Nat} {day : Int32} : cBack hi w g day 7 i j = if i = w ∧ j = 7 then day else if i = w ∧ j = 6 then hi 2 g 1 else if i = w ∧ j = 5 then nI 0 else hi 7 i j := by
  unfold cBack
  rw [ab_uI_at, ab_uI_at, cLeave_7]
theorem cBack_k {w g K i j : Nat} {day : Int32} (h : K ≠ 7) : cBack hi w g day K i j = cLeave hi w g (nI 0) K i j := by
  unfold cBack
  rw [ab_uI_k h, ab_uI_k h]
theorem cSell_2 {w g i j : Nat} : cSell hi w g 2 i j = if i = g ∧ j = 6 then hi 2 g 6 + cPrice hi w g else hi 2 i j := by
  unfold cSell
  rw [ab_uI_k (by omega), ab_uI_at]
theorem cSell_8 {w g i j : Nat} : cSell hi w g 8 i j = if i = 0 ∧ j = 11 then hi 8 0 11 + cPrice hi w g else hi 8 i j := by
  unfold cSell
  rw [ab_uI_at, ab_uI_k (by omega)]
theorem cSell_k {w g K i j : Nat} (h : K ≠ 2) (h2 : K ≠ 8) : cSell hi w g K i j = hi K i j := by
  unfold cSell
  rw [ab_uI_k h2, ab_uI_k h]
theorem cLose_2 {w g i j : Nat} : cLose hi w g 2 i j = if i = g ∧ j = 6 then hi 2 g 6 + hi 7 w 2 else hi 2 i j := by
  unfold cLose
  rw [ab_uI_at]
theorem cLose_k {w g K i j : Nat} (h : K ≠ 2) : cLose hi w g K i j = hi K i j := by
  unfold cLose
  rw [ab_uI_k h]
theorem mBack_at {w g K i : Nat} : mBack hi w g 43 0 w = nI 0 ∧ mBack hi w g 45 0 w = hi 35 0 g ∧ mBack hi w g 50 0 w = hi 9 0 0 ∧ mBack hi w g 44 0 w = -1 ∧ (i ≠ w → mBack hi w g K 0 i = hi K 0 i) := by
  refine ⟨by simp [mBack, ab_uI], by simp [mBack, ab_uI], by simp [mBack, ab_uI], by simp [mBack, ab_uI], fun h => ?_⟩
  unfold mBack
  rw [ab_uI_j h, ab_uI_j h, ab_uI_j h, ab_uI_j h]
theorem mBack_k {w g K i j : Nat} (h : ¬ (K = 43 ∨ K = 44 ∨ K = 45 ∨ K = 50)) : mBack hi w g K i j = hi K i j := by
  unfold mBack
  rw [ab_uI_k (by omega), ab_uI_k (by omega), ab_uI_k (by omega), ab_uI_k (by omega)]
theorem mSell_k {w g K i j : Nat} (h : ¬ (K = 38 ∧ i = 0 ∧ j = g)) (h2 : ¬ (K = 9 ∧ i = 0 ∧ j = 38)) : mSell hi w g K i j = hi K i j := by
  unfold mSell
  have e1 : ab_uI (ab_uI hi 38 0 g (hi 38 0 g + mPrice hi w g)) 9 0 38 (hi 9 0 38 + mPrice hi w g) K i j = ab_uI hi 38 0 g (hi 38 0 g + mPrice hi w g) K i j := by
    by_cases z : K = 9
    · rw [z, ab_uI_at, if_neg (fun y => h2 ⟨z, y.1, y.2⟩)]
    · exact ab_uI_k z
  rw [e1]
  by_cases z : K = 38
  · rw [z, ab_uI_at, if_neg (fun y => h ⟨z, y.1, y.2⟩)]
  · exact ab_uI_k z
theorem mLose_k {w g K i j : Nat} (h : ¬ (K = 38 ∧ i = 0 ∧ j = g)) : mLose hi w g K i j = hi K i j := by
  unfold mLose
  by_cases z : K = 38
  · rw [z, ab_uI_at, if_neg (fun y => h ⟨z, y.1, y.2⟩)]
  · exact ab_uI_k z
/-- the charge in the reference, over a heap whose class cells have changed -/
theorem chg_m {hi1 : ab_I} (q : mq hi hi1) {w g : Nat} {rent : Int32} (er : mRent hi nR w = rent) : (∀ K i j, ¬ (K = 38 ∨ K = 39 ∨ K = 102 ∨ K = 65 ∨ (K = 9 ∧ j = 37)) → mCharge hi1 nR w g K i j = hi1 K i j) ∧ mCharge hi1 nR w g 38 0 g = hi 38 0 g + rent ∧ mCharge hi1 nR w g 39 0 g = hi 39 0 g + rent ∧ mCharge hi1 nR w g 9 0 37 = hi 9 0 37 + rent ∧ (∀ i, i ≠ g → mCharge hi1 nR w g 38 0 i = hi 38 0 i ∧ mCharge hi1 nR w g 39 0 i = hi 39 0 i) ∧ (∀ i j, mCharge hi1 nR w g 102 i j = if i = g ∧ j = w then hi 102 g w + rent else hi 102 i j) ∧ (∀ j, mCharge hi1 nR w g 65 0 j = if j = ab_ix (hi 41 0 w) then hi 65 0 (ab_ix (hi 41 0 w)) + rent * mrule hi nR (hi 9 0 0) 6 / nI 100 else hi 65 0 j) := by
  have er' : mRent hi1 nR w = rent := (mRent_q q).trans er
  obtain ⟨a1, a2, a3⟩ := mChg_at (hi := hi1) (nR := nR) (w := w) (g := g)
  refine ⟨fun K i j z => mCharge_k (by omega) (by omega) (by omega) (by omega) (by omega), ?_, ?_, ?_, fun i z => ?_, fun i j => ?_, fun j => ?_⟩
  · rw [a1, er', q 38 (by omega)]
  · rw [a2, er', q 39 (by omega)]
  · rw [a3, er', q 9 (by omega)]
  · rw [(mChg_38 z).1, (mChg_38 z).2, q 38 (by omega), q 39 (by omega)]
    exact ⟨rfl, rfl⟩
  · rw [mChg_102, er', q 102 (by omega)]
  · rw [mChg_65, er', mrule_q q, q 65 (by omega), q 41 (by omega), q 9 (by omega)]
    by_cases z : j = ab_ix (hi 41 0 w)
    · rw [if_pos ⟨rfl, z⟩, if_pos z]
    · rw [if_neg (fun y => z y.2), if_neg z]
theorem chg_rn (I : inv hi hr cn nR nH nW nV nL) {w g a r2 : Nat} {rent : Int32} (hw : w < nW) (hg : g < 20) {w' g' : Nat} (hw' : w' < nW) (hg' : g' < 20) : cChg hi w g a r2 rent 11 w' g' = if g' = g ∧ w' = w then hi 102 g w + rent else hi 102 g' w' := by
  obtain ⟨-, -, -, -, -, -, -, -, -, -, -, -, -, rn, -⟩ := I
  rw [cChg_11]
  by_cases z : w' = w ∧ g' = g
  · rw [if_pos z, if_pos ⟨z.2, z.1⟩, rn.1 w g hw hg]
  · rw [if_neg z, if_neg (fun y => z ⟨y.2, y.1⟩), rn.1 w' g' hw' hg']
theorem chg_10 (I : inv hi hr cn nR nH nW nV nL) {w g : Nat} {rent : Int32} (hw : w < nW) {a' : Nat} (ha : a' < 10) : cChg hi w g (ab_ix (hi 41 0 w)) (crul hi nR (hi 8 0 8)) rent 10 0 a' = if a' = ab_ix (hi 41 0 w) then hi 65 0 (ab_ix (hi 41 0 w)) + rent * mrule hi nR (hi 9 0 0) 6 / nI 100 else hi 65 0 a' := by
  obtain ⟨-, -, -, M, -, ⟨n1, -⟩, ⟨-, -, -, -, s5⟩, -, ru, -⟩ := I
  obtain ⟨a1, a2⟩ := ix_of (M.2.2.2.2.2.2.2.1 w hw) (by omega)
  rw [cChg_10, iRu_at ru _ (by omega) (by omega), n1]
  by_cases z : a' = ab_ix (hi 41 0 w)
  · rw [if_pos ⟨rfl, z⟩, if_pos z, s5 _ a1]
  · rw [if_neg (fun y => z y.2), if_neg z, s5 a' ha]
theorem back_inv (I : inv hi hr cn nR nH nW nV nL) {w g : Nat} (hw : w < nW) (hg : g < nH) (es : hi 43 0 w = nI 1) (eg : hi 44 0 w = nI g) : inv (mBack (mCharge (cBack (cChg hi w g (ab_ix (hi 41 0 w)) (crul hi nR (hi 8 0 8)) (mRent hi nR w)) w g (hi 8 0 8)) nR w g) w g) (ab_uR hr 7 w 9 none) cn nR nH nW nV nL := by
  have I' := I

  obtain ⟨⟨fc, fm⟩, ⟨c2, c3, c5, c6, c7, c11⟩, ⟨l0, l1, l2, l3⟩, M, ⟨mu, mf⟩, ⟨n1, n2⟩, ⟨s1, s2, s3, s4, s5⟩, mi, ru, ho, ht, wk, hd, rn, ws, wt, ⟨lk1, lk2, lk3⟩, pp⟩ := I
  have M' := M
  obtain ⟨⟨hcR, hR⟩, ⟨hcH, hH⟩, ⟨hcW, hW⟩, ⟨hcV, hV⟩, ⟨hcL, hL⟩, mh, mw, ma, ms, mo, mt⟩ := M'
  obtain ⟨y0, y1, y2, y3, y4, y5, y6, y7⟩ := ho.1 g hg
  have rn' := fun w' g' (h1 : w' < nW) (h2 : g' < 20) => chg_rn I' (a := ab_ix (hi 41 0 w)) (r2 := crul hi nR (hi 8 0 8)) (rent := mRent hi nR w) hw (show g < 20 by omega) h1 h2
  have c10 := fun a' (h1 : a' < 10) => chg_10 I' (g := g) (rent := mRent hi nR w) hw h1
  generalize hr' : mRent hi nR w = rent at *
  generalize eC : cChg hi w g (ab_ix (hi 41 0 w)) (crul hi nR (hi 8 0 8)) rent = hiC at *
  have qC : mq hi hiC := by rw [← eC]; exact cChg_q mq_rf
  have q : mq hi (cBack hiC w g (hi 8 0 8)) := cBack_q qC
  have C2 : ∀ i j, ¬ (i = g ∧ (j = 6 ∨ j = 7)) → hiC 2 i j = hi 2 i j := fun i j z => by rw [← eC]; exact cChg_2 z
  have C8 : ∀ j, j ≠ 10 → hiC 8 0 j = hi 8 0 j := fun j z => by rw [← eC]; exact cChg_8 z
  have CK : ∀ K i j, ¬ (K = 11 ∨ K = 2 ∨ K = 8 ∨ K = 10) → hiC K i j = hi K i j := fun K i j z => by rw [← eC]; exact cChg_k z
  have CA : hiC 2 g 6 = hi 2 g 6 + rent ∧ hiC 2 g 7 = hi 2 g 7 + rent ∧ hiC 8 0 10 = hi 8 0 10 + rent := by rw [← eC]; exact cChg_at
  obtain ⟨Y0, Y38, Y39, Y37, Y38i, Y102, Y65⟩ := chg_m (nR := nR) q (w := w) (g := g) hr'
  generalize eB : cBack hiC w g (hi 8 0 8) = hi1 at *
  generalize eY : mCharge hi1 nR w g = Y at *
  have B7 : ∀ i j, hi1 7 i j = if i = w ∧ j = 7 then hi 8 0 8 else if i = w ∧ j = 6 then hiC 2 g 1 else if i = w ∧ j = 5 then nI 0 else hiC 7 i j := fun i j => by rw [← eB]; exact cBack_7
  have B2 : ∀ i j, hi1 2 i j = if i = g ∧ j = 5 then hiC 2 g 5 - nI 1 else if i = g ∧ j = 4 then hiC 2 g 4 - hiC 7 w 3 else hiC 2 i j := fun i j => by rw [← eB, cBack_k (by omega)]; exact cLeave_2
  have BK : ∀ K i j, K ≠ 2 → K ≠ 7 → hi1 K i j = hiC K i j := fun K i j z1 z2 => by rw [← eB, cBack_k z2]; exact cLeave_k z1 z2
  have Z0 : ∀ K i j, ¬ (K = 43 ∨ K = 44 ∨ K = 45 ∨ K = 50) → mBack Y w g K i j = Y K i j := fun K i j z => mBack_k z
  have Zc : ∀ K i j, K < 30 → K ≠ 9 → mBack Y w g K i j = hi1 K i j := fun K i j z1 z2 => by rw [Z0 K i j (by omega), Y0 K i j (by omega)]
  obtain ⟨Z43, Z45, Z50, Z44, -⟩ := mBack_at (hi := Y) (w := w) (g := g) (K := 0) (i := 0)
  have Zi : ∀ K i, i ≠ w → mBack Y w g K 0 i = Y K 0 i := fun K i z => (mBack_at (hi := Y) (w := w) (g := g) (K := K) (i := i)).2.2.2.2 z
  have Ym : ∀ K i j, ¬ (K = 38 ∨ K = 39 ∨ K = 102 ∨ K = 65 ∨ (K = 9 ∧ j = 37)) → (K = 9 ∨ 30 ≤ K) → Y K i j = hi K i j := fun K i j z1 z2 => by rw [Y0 K i j z1, q K z2]
  refine leave_inv I' hw hg es eg (st := 0) (by omega) (by omega) (fun K z => ?_) (fun i j z => ?_) (fun j z => ?_) ?_ ?_ ?_ ?_ (fun i z => ?_) (fun i j z => ?_) (fun j z1 z2 z3 => ?_) ?_ ?_ ?_ (fun K i z1 z2 => ?_) ?_ ?_ (Or.inl ⟨rfl, Z44, ab_uR_e⟩) (fun w' g' h1 h2 => ?_) (fun w' g' h1 => ?_) ?_ ?_ (fun j z1 z2 => ?_) (fun k j z => ?_) (fun k hk => ?_) (fun k z => ?_) (fun k z => ?_) (fun K i j z => ?_)
  · funext i j
    by_cases z2 : K < 30
    · rw [Zc K i j z2 (by omega), BK K i j (by omega) (by omega), CK K i j (by omega)]
    · rw [Z0 K i j (by omega), Ym K i j (by omega) (by omega)]
  · rw [Zc 2 i j (by omega) (by omega), B2, if_neg (by omega), if_neg (by omega), C2 i j (by omega)]
  · rw [Zc 2 g j (by omega) (by omega), B2, if_neg (by omega), if_neg (by omega), C2 g j (by omega)]
  · rw [Zc 2 g 4 (by omega) (by omega), B2, if_neg (by omega), if_pos (by omega), C2 g 4 (by omega), CK 7 w 3 (by omega)]
  · rw [Zc 2 g 5 (by omega) (by omega), B2, if_pos (by omega), C2 g 5 (by omega)]
  · rw [Zc 2 g 6 (by omega) (by omega), B2, if_neg (by omega), if_neg (by omega), CA.1, Z0 38 0 g (by omega), Y38, y6]
  · rw [Zc 2 g 7 (by omega) (by omega), B2, if_neg (by omega), if_neg (by omega), CA.2.1, Z0 39 0 g (by omega), Y39, y7]
  · rw [Z0 38 0 i (by omega), Z0 39 0 i (by omega)]
    exact Y38i i z
  · rw [Zc 7 i j (by omega) (by omega), B7, if_neg (by omega), if_neg (by omega), if_neg (by omega), CK 7 i j (by omega)]
  · rw [Zc 7 w j (by omega) (by omega), B7, if_neg (by omega), if_neg (by omega), if_neg (by omega), CK 7 w j (by omega)]
  · rw [Zc 7 w 5 (by omega) (by omega), B7, if_neg (by omega), if_neg (by omega), if_pos (by omega)]
  · rw [Zc 7 w 6 (by omega) (by omega), B7, if_neg (by omega), if_pos (by omega), Z45, C2 g 1 (by omega), y1, Ym 35 0 g (by omega) (by omega)]
  · rw [Zc 7 w 7 (by omega) (by omega), B7, if_pos (by omega), Z50, Ym 9 0 0 (by omega) (by omega), n1]
  · rw [Zi K i z2, Ym K 0 i (by omega) (by omega)]
  · exact Z43
  · obtain ⟨t, h1, h2⟩ := mt g hg
    exact ⟨t, h1, by rw [Z45, Ym 35 0 g (by omega) (by omega), h2]⟩
  · rw [Zc 11 w' g' (by omega) (by omega), BK 11 w' g' (by omega) (by omega), rn' w' g' h1 h2, Z0 102 g' w' (by omega), Y102]
  · rw [Z0 102 g' w' (by omega), Y102, if_neg (by omega)]
  · unfold iSum
    rw [Zc 8 0 9 (by omega) (by omega), Zc 8 0 10 (by omega) (by omega), Zc 8 0 11 (by omega) (by omega), Zc 8 0 12 (by omega) (by omega), BK 8 0 9 (by omega) (by omega), BK 8 0 10 (by omega) (by omega), BK 8 0 11 (by omega) (by omega), BK 8 0 12 (by omega) (by omega), C8 9 (by omega), CA.2.2, C8 11 (by omega), C8 12 (by omega), Z0 9 0 36 (by omega), Z0 9 0 37 (by omega), Z0 9 0 38 (by omega), Z0 9 0 34 (by omega), Ym 9 0 36 (by omega) (by omega), Y37, Ym 9 0 38 (by omega) (by omega), Ym 9 0 34 (by omega) (by omega), s2]
    refine ⟨s1, rfl, s3, s4, fun a' ha => ?_⟩
    rw [Zc 10 0 a' (by omega) (by omega), BK 10 0 a' (by omega) (by omega), c10 a' ha, Z0 65 0 a' (by omega), Y65]
  · rw [Zc 8 0 8 (by omega) (by omega), BK 8 0 8 (by omega) (by omega), C8 8 (by omega)]
  · rw [Z0 9 0 j (by omega), Ym 9 0 j (by omega) (by omega)]
  · rw [Zc 6 k j (by omega) (by omega), BK 6 k j (by omega) (by omega), CK 6 k j (by omega)]
  · rw [Zc 6 k 3 (by omega) (by omega), BK 6 k 3 (by omega) (by omega), CK 6 k 3 (by omega), Z0 56 0 k (by omega), Ym 56 0 k (by omega) (by omega)]
    exact (ws.1 k hk).2.2.2.1
  · rw [Z0 56 0 k (by omega), Ym 56 0 k (by omega) (by omega)] at z
    exact z
  · rw [Z0 56 0 k (by omega), Ym 56 0 k (by omega) (by omega)]
  · by_cases z1 : K = 7
    · by_cases z2 : i = w
      · exact ab_uR_j fun z3 => z ⟨z1, z2, z3⟩
      · exact ab_uR_i z2
    · exact ab_uR_k z1
theorem st_back (hnb : ab_n E < 2 ^ 31) (I : inv hi hr cn nR nH nW nV nL) {x : Int32} : stp E (d + 20) nX7_back nX8_back [.inl x] hi hr cn := by
  have I' := I
  obtain ⟨⟨fc, fm⟩, ⟨c2, c3, c5, c6, c7, c11⟩, ⟨l0, l1, l2, l3⟩, M, ⟨mu, mf⟩, ⟨n1, n2⟩, ⟨s1, s2, s3, s4, s5⟩, mi, ru, ho, ht, wk, hd, rn, ws, wt, ⟨lk1, lk2, lk3⟩, pp⟩ := I
  have M' := M
  obtain ⟨⟨hcR, hR⟩, ⟨hcH, hH⟩, ⟨hcW, hW⟩, ⟨hcV, hV⟩, ⟨hcL, hL⟩, mh, mw, ma, ms, mo, mt⟩ := M'
  have K : Inv hi hr cn := ⟨nR, nH, nW, nV, nL, I'⟩
  intro Q h
  refine cRw fc ?_
  have ia : ∀ w, w < nW → ab_ix (hi 41 0 w) < 10 ∧ hi 41 0 w = nI (ab_ix (hi 41 0 w)) := fun w hw => ix_of (ma w hw) (by omega)
  have hol : ∀ w, w < nW → hi 43 0 w = nI 1 → ab_ix (hi 44 0 w) < nH ∧ hi 44 0 w = nI (ab_ix (hi 44 0 w)) ∧ hr 7 w 9 = some (2, ab_ix (hi 44 0 w)) := fun w hw es => by
    rcases hd w hw with ⟨q, -⟩ | ⟨-, g, q1, q2, q3⟩
    · rw [es] at q
      exact absurd q (by decide)
    · rw [q2, ab_ix_nI (by omega)]
      exact ⟨q1, rfl, q3⟩
  refine c_X7_back (nr := nR) (nw := nW) (ho := fun w => ab_ix (hi 44 0 w)) (ar := fun w => ab_ix (hi 41 0 w)) hnb (by omega) (cLf fc l1) (cLf fc l3) (iRu_rl ru hR) (fun w hw e => ?_) (fun w hw => ⟨(ia w hw).1, (wk.1 w hw).2.1.trans (ia w hw).2⟩) (fun w hw e q => ?_) (fun q => ?_)
  · rw [(wk.1 w hw).2.2.2.2.1] at e
    obtain ⟨h1, h2, h3⟩ := hol w hw e
    exact ⟨h3, by omega, (ho.1 _ h1).1⟩
  · have es : hi 43 0 w = nI 1 := (wk.1 w hw).2.2.2.2.1.symm.trans q
    obtain ⟨h1, h2, h3⟩ := hol w hw es
    have J := back_inv I' hw h1 es h2
    rw [rent_eq I' hw es, ← cR_uR rfl, fc]
    refine h _ _ _ _ (fun Q' h' => mRw J.1.2 ?_)
    have q1 : mq hi (cBack (cChg hi w (ab_ix (hi 44 0 w)) (ab_ix (hi 41 0 w)) (crul hi nR (hi 8 0 8)) (mRent hi nR w)) w (ab_ix (hi 44 0 w)) (hi 8 0 8)) := cBack_q (cChg_q mq_rf)
    refine c_X8_back hnb (mok_q q1 M) (fun w' g' hw' hg' e' es' eg' => ?_) (fun q' => absurd (by rw [q1 43 (by omega)]; exact es) (q' w hw e))
    have ew := (nI_eq (by omega) (by omega)).mp (e'.symm.trans e)
    subst ew
    rw [q1 44 (by omega), h2] at eg'
    have eg := (nI_eq (by omega) (by omega)).mp eg'
    subst eg
    rw [mRent_q q1, J.1.2]
    exact h' _ _ _ ⟨nR, nH, nW, nV, nL, J⟩
  · rw [fc]
    refine h _ _ _ _ (fun Q' h' => mRw fm ?_)
    refine c_X8_back hnb M (fun w g hw hg e es eg => absurd ((wk.1 w hw).2.2.2.2.1.trans es) (q w hw e)) (fun _ => ?_)
    rw [fm]
    exact h' _ _ _ K
end STEPS8
