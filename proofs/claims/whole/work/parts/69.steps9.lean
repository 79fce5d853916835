section STEPS9
variable {E : ab_E} {d : Nat} {hi : ab_I} {hr : ab_R} {cn : ab_C} {nR nH nW nV nL : Nat}
theorem sell_inv (I : inv hi hr cn nR nH nW nV nL) {w g : Nat} (hw : w < nW) (hg : g < nH) (es : hi 43 0 w = nI 1) (eg : hi 44 0 w = nI g) {hiC hi1 Y : ab_I} (eC : hiC = cChg hi w g (ab_ix (hi 41 0 w)) (crul hi nR (hi 8 0 8)) (mRent hi nR w)) (e1 : hi1 = cGive (cLeave (cSell hiC w g) w g (nI 2)) (gW hi) w nV) (eY : Y = mCharge hi1 nR w g) : cPrice hiC w g = mPrice Y w g ∧ mq hi hi1 ∧ inv (mEnds (mSell Y w g) w (nI 2) nV) hr cn nR nH nW nV nL := by
  have I' := I
  obtain ⟨⟨fc, fm⟩, ⟨c2, c3, c5, c6, c7, c11⟩, ⟨l0, l1, l2, l3⟩, M, ⟨mu, mf⟩, ⟨n1, n2⟩, ⟨s1, s2, s3, s4, s5⟩, mi, ru, ho, ht, wk, hd, rn, ws, wt, ⟨lk1, lk2, lk3⟩, pp⟩ := I
  have M' := M
  obtain ⟨⟨hcR, hR⟩, ⟨hcH, hH⟩, ⟨hcW, hW⟩, ⟨hcV, hV⟩, ⟨hcL, hL⟩, mh, mw, ma, ms, mo, mt⟩ := M'
  obtain ⟨y0, y1, y2, y3, y4, y5, y6, y7⟩ := ho.1 g hg
  obtain ⟨x0, x1, x2, x3, x5, x6, x7, x8, x10, x11, x12, -⟩ := wk.1 w hw
  have rn' := fun w' g' (h1 : w' < nW) (h2 : g' < 20) => chg_rn I' (a := ab_ix (hi 41 0 w)) (r2 := crul hi nR (hi 8 0 8)) (rent := mRent hi nR w) hw (show g < 20 by omega) h1 h2
  have c10 := fun a' (h1 : a' < 10) => chg_10 I' (g := g) (rent := mRent hi nR w) hw h1
  generalize hr' : mRent hi nR w = rent at *
  rw [← eC] at rn' c10
  have qC : mq hi hiC := by rw [eC]; exact cChg_q mq_rf
  have q : mq hi hi1 := by rw [e1]; exact cGive_q (cLeave_q (cSell_q qC))
  have C2 : ∀ i j, ¬ (i = g ∧ (j = 6 ∨ j = 7)) → hiC 2 i j = hi 2 i j := fun i j z => by rw [eC]; exact cChg_2 z
  have C8 : ∀ j, j ≠ 10 → hiC 8 0 j = hi 8 0 j := fun j z => by rw [eC]; exact cChg_8 z
  have CK : ∀ K i j, ¬ (K = 11 ∨ K = 2 ∨ K = 8 ∨ K = 10) → hiC K i j = hi K i j := fun K i j z => by rw [eC]; exact cChg_k z
  have CA : hiC 2 g 6 = hi 2 g 6 + rent ∧ hiC 2 g 7 = hi 2 g 7 + rent ∧ hiC 8 0 10 = hi 8 0 10 + rent := by rw [eC]; exact cChg_at
  obtain ⟨Y0, Y38, Y39, Y37, Y38i, Y102, Y65⟩ := chg_m (nR := nR) q (w := w) (g := g) hr'
  rw [← eY] at Y0 Y38 Y39 Y37 Y38i Y102 Y65
  have Ym : ∀ K i j, ¬ (K = 38 ∨ K = 39 ∨ K = 102 ∨ K = 65 ∨ (K = 9 ∧ j = 37)) → (K = 9 ∨ 30 ≤ K) → Y K i j = hi K i j := fun K i j z1 z2 => by rw [Y0 K i j z1, q K z2]
  have ep : cPrice hiC w g = mPrice Y w g := by
    have eY1 : Y 102 g w = hi 102 g w + rent := by rw [Y102, if_pos ⟨rfl, rfl⟩]
    have eC1 : hiC 11 w g = hi 102 g w + rent := by rw [rn' w g hw (by omega), if_pos ⟨rfl, rfl⟩]
    unfold cPrice mPrice
    rw [CK 7 w 2 (by omega), x2, Ym 42 0 w (by omega) (by omega), eY1, eC1]
  refine ⟨ep, q, ?_⟩
  have S2 : ∀ i j, cSell hiC w g 2 i j = if i = g ∧ j = 6 then hiC 2 g 6 + mPrice Y w g else hiC 2 i j := fun i j => by rw [cSell_2, ep]
  have S8 : ∀ i j, cSell hiC w g 8 i j = if i = 0 ∧ j = 11 then hiC 8 0 11 + mPrice Y w g else hiC 8 i j := fun i j => by rw [cSell_8, ep]
  have SK : ∀ K i j, K ≠ 2 → K ≠ 8 → cSell hiC w g K i j = hiC K i j := fun K i j z1 z2 => cSell_k z1 z2
  have M38 : mSell Y w g 38 0 g = hi 38 0 g + rent + mPrice Y w g := by
    unfold mSell
    rw [ab_uI_k (by omega), ab_uI_e, Y38]
  have M938 : mSell Y w g 9 0 38 = hi 9 0 38 + mPrice Y w g := by
    unfold mSell
    rw [ab_uI_e, Ym 9 0 38 (by omega) (by omega)]
  have MK : ∀ K i j, ¬ (K = 38 ∧ i = 0 ∧ j = g) → ¬ (K = 9 ∧ i = 0 ∧ j = 38) → mSell Y w g K i j = Y K i j := fun K i j z1 z2 => mSell_k z1 z2
  generalize eS : cSell hiC w g = hiS at *
  generalize eZ : mSell Y w g = Z at *
  have B7 : ∀ i j, hi1 7 i j = if i = w ∧ j = 5 then nI 2 else hi 7 i j := fun i j => by rw [e1, cGive_ne (by omega), cLeave_7, SK 7 i j (by omega) (by omega), CK 7 i j (by omega)]
  have B2 : ∀ i j, hi1 2 i j = if i = g ∧ j = 5 then hiS 2 g 5 - nI 1 else if i = g ∧ j = 4 then hiS 2 g 4 - hi 7 w 3 else hiS 2 i j := fun i j => by rw [e1, cGive_ne (by omega), cLeave_2, SK 7 w 3 (by omega) (by omega), CK 7 w 3 (by omega)]
  have BK : ∀ K i j, K ≠ 2 → K ≠ 7 → K ≠ 6 → hi1 K i j = hiS K i j := fun K i j z1 z2 z3 => by rw [e1, cGive_ne (by omega), cLeave_k z1 z2]
  have B6 : ∀ k j, j ≠ 3 → hi1 6 k j = hi 6 k j := fun k j z => by rw [e1, cGive_ne (by omega), cLeave_k (by omega) (by omega), SK 6 k j (by omega) (by omega), CK 6 k j (by omega)]
  have B63 : ∀ k, hi1 6 k 3 = if k < nV ∧ gW hi k = w ∧ hi 6 k 3 = nI 0 then nI 2 else hi 6 k 3 := fun k => by rw [e1, cGive_at, cLeave_k (by omega) (by omega), SK 6 k 3 (by omega) (by omega), CK 6 k 3 (by omega)]
  have Z0 : ∀ K i j, ¬ (K = 43 ∨ K = 56) → mEnds Z w (nI 2) nV K i j = Z K i j := fun K i j z => mEnds_ne (by omega) (by omega) nV
  have Zc : ∀ K i j, K < 30 → K ≠ 9 → mEnds Z w (nI 2) nV K i j = hi1 K i j := fun K i j z1 z2 => by rw [Z0 K i j (by omega), MK K i j (by omega) (by omega), Y0 K i j (by omega)]
  have Zm : ∀ K i j, ¬ (K = 43 ∨ K = 56) → ¬ (K = 38 ∨ K = 39 ∨ K = 102 ∨ K = 65 ∨ (K = 9 ∧ (j = 37 ∨ j = 38))) → (K = 9 ∨ 30 ≤ K) → mEnds Z w (nI 2) nV K i j = hi K i j := fun K i j z1 z2 z3 => by rw [Z0 K i j z1, MK K i j (by omega) (by omega), Ym K i j (by omega) z3]
  have Z43 : ∀ i, mEnds Z w (nI 2) nV 43 0 i = if i = w then nI 2 else hi 43 0 i := fun i => by rw [mEnds_43, MK 43 0 i (by omega) (by omega), Ym 43 0 i (by omega) (by omega)]
  have Z56 : ∀ k, mEnds Z w (nI 2) nV 56 0 k = if k < nV ∧ hi 56 0 k = nI 0 ∧ hi 55 0 k = nI w then nI 2 else hi 56 0 k := fun k => by rw [mEnds_56, MK 56 0 k (by omega) (by omega), MK 55 0 k (by omega) (by omega), Ym 56 0 k (by omega) (by omega), Ym 55 0 k (by omega) (by omega)]
  refine leave_inv I' hw hg es eg (st := 2) (by omega) (by omega) (fun K z => ?_) (fun i j z => ?_) (fun j z => ?_) ?_ ?_ ?_ ?_ (fun i z => ?_) (fun i j z => ?_) (fun j z1 z2 z3 => ?_) ?_ ?_ ?_ (fun K i z1 z2 => ?_) ?_ ?_ (Or.inr ⟨by omega, ?_, rfl⟩) (fun w' g' h1 h2 => ?_) (fun w' g' h1 => ?_) ?_ ?_ (fun j z1 z2 => ?_) (fun k j z => ?_) (fun k hk => ?_) (fun k z => ?_) (fun k z => ?_) (fun K i j z => rfl)
  · funext i j
    by_cases z2 : K < 30
    · rw [Zc K i j z2 (by omega), BK K i j (by omega) (by omega) (by omega), SK K i j (by omega) (by omega), CK K i j (by omega)]
    · rw [Zm K i j (by omega) (by omega) (by omega)]
  · rw [Zc 2 i j (by omega) (by omega), B2, if_neg (by omega), if_neg (by omega), S2, if_neg (by omega), C2 i j (by omega)]
  · rw [Zc 2 g j (by omega) (by omega), B2, if_neg (by omega), if_neg (by omega), S2, if_neg (by omega), C2 g j (by omega)]
  · rw [Zc 2 g 4 (by omega) (by omega), B2, if_neg (by omega), if_pos (by omega), S2, if_neg (by omega), C2 g 4 (by omega)]
  · rw [Zc 2 g 5 (by omega) (by omega), B2, if_pos (by omega), S2, if_neg (by omega), C2 g 5 (by omega)]
  · rw [Zc 2 g 6 (by omega) (by omega), B2, if_neg (by omega), if_neg (by omega), S2, if_pos (by omega), CA.1, Z0 38 0 g (by omega), M38, y6]
  · rw [Zc 2 g 7 (by omega) (by omega), B2, if_neg (by omega), if_neg (by omega), S2, if_neg (by omega), CA.2.1, Z0 39 0 g (by omega), MK 39 0 g (by omega) (by omega), Y39, y7]
  · rw [Z0 38 0 i (by omega), Z0 39 0 i (by omega), MK 38 0 i (by omega) (by omega), MK 39 0 i (by omega) (by omega)]
    exact Y38i i z
  · rw [Zc 7 i j (by omega) (by omega), B7, if_neg (by omega)]
  · rw [Zc 7 w j (by omega) (by omega), B7, if_neg (by omega)]
  · rw [Zc 7 w 5 (by omega) (by omega), B7, if_pos (by omega)]
  · rw [Zc 7 w 6 (by omega) (by omega), B7, if_neg (by omega), x6, Zm 45 0 w (by omega) (by omega) (by omega)]
  · rw [Zc 7 w 7 (by omega) (by omega), B7, if_neg (by omega), x7, Zm 50 0 w (by omega) (by omega) (by omega)]
  · rcases z1 with rfl | z1
    · rw [Z43, if_neg z2]
    · rw [Zm K 0 i (by omega) (by omega) (by omega)]
  · rw [Z43, if_pos rfl]
  · rw [Zm 45 0 w (by omega) (by omega) (by omega)]
    exact ms w hw
  · rw [Zm 44 0 w (by omega) (by omega) (by omega)]
  · rw [Zc 11 w' g' (by omega) (by omega), BK 11 w' g' (by omega) (by omega) (by omega), SK 11 w' g' (by omega) (by omega), rn' w' g' h1 h2, Z0 102 g' w' (by omega), MK 102 g' w' (by omega) (by omega), Y102]
  · rw [Z0 102 g' w' (by omega), MK 102 g' w' (by omega) (by omega), Y102, if_neg (by omega)]
  · unfold iSum
    rw [Zc 8 0 9 (by omega) (by omega), Zc 8 0 10 (by omega) (by omega), Zc 8 0 11 (by omega) (by omega), Zc 8 0 12 (by omega) (by omega), BK 8 0 9 (by omega) (by omega) (by omega), BK 8 0 10 (by omega) (by omega) (by omega), BK 8 0 11 (by omega) (by omega) (by omega), BK 8 0 12 (by omega) (by omega) (by omega), S8, S8, S8, S8, if_neg (by omega), if_neg (by omega), if_pos (by omega), if_neg (by omega), C8 9 (by omega), CA.2.2, C8 11 (by omega), C8 12 (by omega), Z0 9 0 36 (by omega), Z0 9 0 37 (by omega), Z0 9 0 38 (by omega), Z0 9 0 34 (by omega), MK 9 0 36 (by omega) (by omega), MK 9 0 37 (by omega) (by omega), MK 9 0 34 (by omega) (by omega), Ym 9 0 36 (by omega) (by omega), Y37, M938, Ym 9 0 34 (by omega) (by omega), s2, s3]
    refine ⟨s1, rfl, rfl, s4, fun a' ha => ?_⟩
    rw [Zc 10 0 a' (by omega) (by omega), BK 10 0 a' (by omega) (by omega) (by omega), SK 10 0 a' (by omega) (by omega), c10 a' ha, Z0 65 0 a' (by omega), MK 65 0 a' (by omega) (by omega), Y65]
  · rw [Zc 8 0 8 (by omega) (by omega), BK 8 0 8 (by omega) (by omega) (by omega), S8, if_neg (by omega), C8 8 (by omega)]
  · rw [Zm 9 0 j (by omega) (by omega) (by omega)]
  · rw [Zc 6 k j (by omega) (by omega), B6 k j z]
  · obtain ⟨g1, g2⟩ := gW_of M hk
    rw [Zc 6 k 3 (by omega) (by omega), B63, Z56, (ws.1 k hk).2.2.2.1, g2]
    have e4 : gW hi k = w ↔ nI (gW hi k) = nI w := (nI_eq (by omega) (by omega)).symm
    by_cases z : gW hi k = w ∧ hi 56 0 k = nI 0
    · rw [if_pos ⟨hk, z⟩, if_pos ⟨hk, z.2, e4.mp z.1⟩]
    · rw [if_neg (fun y => z y.2), if_neg (fun y => z ⟨e4.mpr y.2.2, y.2.1⟩)]
  · rw [Z56] at z
    split at z
    · exact absurd z (by decide)
    · exact z
  · rw [Z56, if_neg (by omega)]
theorem lose_inv (I : inv hi hr cn nR nH nW nV nL) {w g : Nat} (hw : w < nW) (hg : g < nH) (es : hi 43 0 w = nI 1) (eg : hi 44 0 w = nI g) {hiC hi1 Y : ab_I} (eC : hiC = cChg hi w g (ab_ix (hi 41 0 w)) (crul hi nR (hi 8 0 8)) (mRent hi nR w)) (e1 : hi1 = cGive (cLeave (cLose hiC w g) w g (nI 3)) (gW hi) w nV) (eY : Y = mCharge hi1 nR w g) : mq hi hi1 ∧ inv (mEnds (mLose Y w g) w (nI 3) nV) hr cn nR nH nW nV nL := by
  have I' := I
  obtain ⟨⟨fc, fm⟩, ⟨c2, c3, c5, c6, c7, c11⟩, ⟨l0, l1, l2, l3⟩, M, ⟨mu, mf⟩, ⟨n1, n2⟩, ⟨s1, s2, s3, s4, s5⟩, mi, ru, ho, ht, wk, hd, rn, ws, wt, ⟨lk1, lk2, lk3⟩, pp⟩ := I
  have M' := M
  obtain ⟨⟨hcR, hR⟩, ⟨hcH, hH⟩, ⟨hcW, hW⟩, ⟨hcV, hV⟩, ⟨hcL, hL⟩, mh, mw, ma, ms, mo, mt⟩ := M'
  obtain ⟨y0, y1, y2, y3, y4, y5, y6, y7⟩ := ho.1 g hg
  obtain ⟨x0, x1, x2, x3, x5, x6, x7, x8, x10, x11, x12, -⟩ := wk.1 w hw
  have rn' := fun w' g' (h1 : w' < nW) (h2 : g' < 20) => chg_rn I' (a := ab_ix (hi 41 0 w)) (r2 := crul hi nR (hi 8 0 8)) (rent := mRent hi nR w) hw (show g < 20 by omega) h1 h2
  have c10 := fun a' (h1 : a' < 10) => chg_10 I' (g := g) (rent := mRent hi nR w) hw h1
  generalize hr' : mRent hi nR w = rent at *
  rw [← eC] at rn' c10
  have qC : mq hi hiC := by rw [eC]; exact cChg_q mq_rf
  have q : mq hi hi1 := by rw [e1]; exact cGive_q (cLeave_q (cLose_q qC))
  have C2 : ∀ i j, ¬ (i = g ∧ (j = 6 ∨ j = 7)) → hiC 2 i j = hi 2 i j := fun i j z => by rw [eC]; exact cChg_2 z
  have C8 : ∀ j, j ≠ 10 → hiC 8 0 j = hi 8 0 j := fun j z => by rw [eC]; exact cChg_8 z
  have CK : ∀ K i j, ¬ (K = 11 ∨ K = 2 ∨ K = 8 ∨ K = 10) → hiC K i j = hi K i j := fun K i j z => by rw [eC]; exact cChg_k z
  have CA : hiC 2 g 6 = hi 2 g 6 + rent ∧ hiC 2 g 7 = hi 2 g 7 + rent ∧ hiC 8 0 10 = hi 8 0 10 + rent := by rw [eC]; exact cChg_at
  obtain ⟨Y0, Y38, Y39, Y37, Y38i, Y102, Y65⟩ := chg_m (nR := nR) q (w := w) (g := g) hr'
  rw [← eY] at Y0 Y38 Y39 Y37 Y38i Y102 Y65
  have Ym : ∀ K i j, ¬ (K = 38 ∨ K = 39 ∨ K = 102 ∨ K = 65 ∨ (K = 9 ∧ j = 37)) → (K = 9 ∨ 30 ≤ K) → Y K i j = hi K i j := fun K i j z1 z2 => by rw [Y0 K i j z1, q K z2]
  refine ⟨q, ?_⟩
  have S2 : ∀ i j, cLose hiC w g 2 i j = if i = g ∧ j = 6 then hiC 2 g 6 + hi 42 0 w else hiC 2 i j := fun i j => by rw [cLose_2, CK 7 w 2 (by omega), x2]
  have S8 : ∀ i j, cLose hiC w g 8 i j = hiC 8 i j := fun i j => cLose_k (by omega)
  have SK : ∀ K i j, K ≠ 2 → K ≠ 8 → cLose hiC w g K i j = hiC K i j := fun K i j z1 z2 => cLose_k z1
  have M38 : mLose Y w g 38 0 g = hi 38 0 g + rent + hi 42 0 w := by
    unfold mLose
    rw [ab_uI_e, Y38, Ym 42 0 w (by omega) (by omega)]
  have MK : ∀ K i j, ¬ (K = 38 ∧ i = 0 ∧ j = g) → ¬ (K = 9 ∧ i = 0 ∧ j = 38) → mLose Y w g K i j = Y K i j := fun K i j z1 z2 => mLose_k z1
  have M938 : mLose Y w g 9 0 38 = hi 9 0 38 := by
    rw [mLose_k (by omega), Ym 9 0 38 (by omega) (by omega)]
  generalize eS : cLose hiC w g = hiS at *
  generalize eZ : mLose Y w g = Z at *
  have B7 : ∀ i j, hi1 7 i j = if i = w ∧ j = 5 then nI 3 else hi 7 i j := fun i j => by rw [e1, cGive_ne (by omega), cLeave_7, SK 7 i j (by omega) (by omega), CK 7 i j (by omega)]
  have B2 : ∀ i j, hi1 2 i j = if i = g ∧ j = 5 then hiS 2 g 5 - nI 1 else if i = g ∧ j = 4 then hiS 2 g 4 - hi 7 w 3 else hiS 2 i j := fun i j => by rw [e1, cGive_ne (by omega), cLeave_2, SK 7 w 3 (by omega) (by omega), CK 7 w 3 (by omega)]
  have BK : ∀ K i j, K ≠ 2 → K ≠ 7 → K ≠ 6 → hi1 K i j = hiS K i j := fun K i j z1 z2 z3 => by rw [e1, cGive_ne (by omega), cLeave_k z1 z2]
  have B6 : ∀ k j, j ≠ 3 → hi1 6 k j = hi 6 k j := fun k j z => by rw [e1, cGive_ne (by omega), cLeave_k (by omega) (by omega), SK 6 k j (by omega) (by omega), CK 6 k j (by omega)]
  have B63 : ∀ k, hi1 6 k 3 = if k < nV ∧ gW hi k = w ∧ hi 6 k 3 = nI 0 then nI 2 else hi 6 k 3 := fun k => by rw [e1, cGive_at, cLeave_k (by omega) (by omega), SK 6 k 3 (by omega) (by omega), CK 6 k 3 (by omega)]
  have Z0 : ∀ K i j, ¬ (K = 43 ∨ K = 56) → mEnds Z w (nI 3) nV K i j = Z K i j := fun K i j z => mEnds_ne (by omega) (by omega) nV
  have Zc : ∀ K i j, K < 30 → K ≠ 9 → mEnds Z w (nI 3) nV K i j = hi1 K i j := fun K i j z1 z2 => by rw [Z0 K i j (by omega), MK K i j (by omega) (by omega), Y0 K i j (by omega)]
  have Zm : ∀ K i j, ¬ (K = 43 ∨ K = 56) → ¬ (K = 38 ∨ K = 39 ∨ K = 102 ∨ K = 65 ∨ (K = 9 ∧ (j = 37 ∨ j = 38))) → (K = 9 ∨ 30 ≤ K) → mEnds Z w (nI 3) nV K i j = hi K i j := fun K i j z1 z2 z3 => by rw [Z0 K i j z1, MK K i j (by omega) (by omega), Ym K i j (by omega) z3]
  have Z43 : ∀ i, mEnds Z w (nI 3) nV 43 0 i = if i = w then nI 3 else hi 43 0 i := fun i => by rw [mEnds_43, MK 43 0 i (by omega) (by omega), Ym 43 0 i (by omega) (by omega)]
  have Z56 : ∀ k, mEnds Z w (nI 3) nV 56 0 k = if k < nV ∧ hi 56 0 k = nI 0 ∧ hi 55 0 k = nI w then nI 2 else hi 56 0 k := fun k => by rw [mEnds_56, MK 56 0 k (by omega) (by omega), MK 55 0 k (by omega) (by omega), Ym 56 0 k (by omega) (by omega), Ym 55 0 k (by omega) (by omega)]
  refine leave_inv I' hw hg es eg (st := 3) (by omega) (by omega) (fun K z => ?_) (fun i j z => ?_) (fun j z => ?_) ?_ ?_ ?_ ?_ (fun i z => ?_) (fun i j z => ?_) (fun j z1 z2 z3 => ?_) ?_ ?_ ?_ (fun K i z1 z2 => ?_) ?_ ?_ (Or.inr ⟨by omega, ?_, rfl⟩) (fun w' g' h1 h2 => ?_) (fun w' g' h1 => ?_) ?_ ?_ (fun j z1 z2 => ?_) (fun k j z => ?_) (fun k hk => ?_) (fun k z => ?_) (fun k z => ?_) (fun K i j z => rfl)
  · funext i j
    by_cases z2 : K < 30
    · rw [Zc K i j z2 (by omega), BK K i j (by omega) (by omega) (by omega), SK K i j (by omega) (by omega), CK K i j (by omega)]
    · rw [Zm K i j (by omega) (by omega) (by omega)]
  · rw [Zc 2 i j (by omega) (by omega), B2, if_neg (by omega), if_neg (by omega), S2, if_neg (by omega), C2 i j (by omega)]
  · rw [Zc 2 g j (by omega) (by omega), B2, if_neg (by omega), if_neg (by omega), S2, if_neg (by omega), C2 g j (by omega)]
  · rw [Zc 2 g 4 (by omega) (by omega), B2, if_neg (by omega), if_pos (by omega), S2, if_neg (by omega), C2 g 4 (by omega)]
  · rw [Zc 2 g 5 (by omega) (by omega), B2, if_pos (by omega), S2, if_neg (by omega), C2 g 5 (by omega)]
  · rw [Zc 2 g 6 (by omega) (by omega), B2, if_neg (by omega), if_neg (by omega), S2, if_pos (by omega), CA.1, Z0 38 0 g (by omega), M38, y6]
  · rw [Zc 2 g 7 (by omega) (by omega), B2, if_neg (by omega), if_neg (by omega), S2, if_neg (by omega), CA.2.1, Z0 39 0 g (by omega), MK 39 0 g (by omega) (by omega), Y39, y7]
  · rw [Z0 38 0 i (by omega), Z0 39 0 i (by omega), MK 38 0 i (by omega) (by omega), MK 39 0 i (by omega) (by omega)]
    exact Y38i i z
  · rw [Zc 7 i j (by omega) (by omega), B7, if_neg (by omega)]
  · rw [Zc 7 w j (by omega) (by omega), B7, if_neg (by omega)]
  · rw [Zc 7 w 5 (by omega) (by omega), B7, if_pos (by omega)]
  · rw [Zc 7 w 6 (by omega) (by omega), B7, if_neg (by omega), x6, Zm 45 0 w (by omega) (by omega) (by omega)]
  · rw [Zc 7 w 7 (by omega) (by omega), B7, if_neg (by omega), x7, Zm 50 0 w (by omega) (by omega) (by omega)]
  · rcases z1 with rfl | z1
    · rw [Z43, if_neg z2]
    · rw [Zm K 0 i (by omega) (by omega) (by omega)]
  · rw [Z43, if_pos rfl]
  · rw [Zm 45 0 w (by omega) (by omega) (by omega)]
    exact ms w hw
  · rw [Zm 44 0 w (by omega) (by omega) (by omega)]
  · rw [Zc 11 w' g' (by omega) (by omega), BK 11 w' g' (by omega) (by omega) (by omega), SK 11 w' g' (by omega) (by omega), rn' w' g' h1 h2, Z0 102 g' w' (by omega), MK 102 g' w' (by omega) (by omega), Y102]
  · rw [Z0 102 g' w' (by omega), MK 102 g' w' (by omega) (by omega), Y102, if_neg (by omega)]
  · unfold iSum
    rw [Zc 8 0 9 (by omega) (by omega), Zc 8 0 10 (by omega) (by omega), Zc 8 0 11 (by omega) (by omega), Zc 8 0 12 (by omega) (by omega), BK 8 0 9 (by omega) (by omega) (by omega), BK 8 0 10 (by omega) (by omega) (by omega), BK 8 0 11 (by omega) (by omega) (by omega), BK 8 0 12 (by omega) (by omega) (by omega), S8, S8, S8, S8, C8 9 (by omega), CA.2.2, C8 11 (by omega), C8 12 (by omega), Z0 9 0 36 (by omega), Z0 9 0 37 (by omega), Z0 9 0 38 (by omega), Z0 9 0 34 (by omega), MK 9 0 36 (by omega) (by omega), MK 9 0 37 (by omega) (by omega), MK 9 0 34 (by omega) (by omega), Ym 9 0 36 (by omega) (by omega), Y37, M938, Ym 9 0 34 (by omega) (by omega), s2, s3]
    refine ⟨s1, rfl, rfl, s4, fun a' ha => ?_⟩
    rw [Zc 10 0 a' (by omega) (by omega), BK 10 0 a' (by omega) (by omega) (by omega), SK 10 0 a' (by omega) (by omega), c10 a' ha, Z0 65 0 a' (by omega), MK 65 0 a' (by omega) (by omega), Y65]
  · rw [Zc 8 0 8 (by omega) (by omega), BK 8 0 8 (by omega) (by omega) (by omega), S8, C8 8 (by omega)]
  · rw [Zm 9 0 j (by omega) (by omega) (by omega)]
  · rw [Zc 6 k j (by omega) (by omega), B6 k j z]
  · obtain ⟨g1, g2⟩ := gW_of M hk
    rw [Zc 6 k 3 (by omega) (by omega), B63, Z56, (ws.1 k hk).2.2.2.1, g2]
    have e4 : gW hi k = w ↔ nI (gW hi k) = nI w := (nI_eq (by omega) (by omega)).symm
    by_cases z : gW hi k = w ∧ hi 56 0 k = nI 0
    · rw [if_pos ⟨hk, z⟩, if_pos ⟨hk, z.2, e4.mp z.1⟩]
    · rw [if_neg (fun y => z y.2), if_neg (fun y => z ⟨e4.mpr y.2.2, y.2.1⟩)]
  · rw [Z56] at z
    split at z
    · exact absurd z (by decide)
    · exact z
  · rw [Z56, if_neg (by omega)]
theorem st_sell (hnb : ab_n E < 2 ^ 31) (I : inv hi hr cn nR nH nW nV nL) {x : Int32} : stp E (d + 20) nX7_sell nX8_sell [.inl x] hi hr cn := by
  have I' := I
  obtain ⟨⟨fc, fm⟩, ⟨c2, c3, c5, c6, c7, c11⟩, ⟨l0, l1, l2, l3⟩, M, ⟨mu, mf⟩, ⟨n1, n2⟩, ⟨s1, s2, s3, s4, s5⟩, mi, ru, ho, ht, wk, hd, rn, ws, wt, ⟨lk1, lk2, lk3⟩, pp⟩ := I
  have M' := M
  obtain ⟨⟨hcR, hR⟩, ⟨hcH, hH⟩, ⟨hcW, hW⟩, ⟨hcV, hV⟩, ⟨hcL, hL⟩, mh, mw, ma, ms, mo, mt⟩ := M'
  have K : Inv hi hr cn := ⟨nR, nH, nW, nV, nL, I'⟩
  intro Q h
  refine cRw fc ?_
  have ia : ∀ w, w < nW → ab_ix (hi 41 0 w) < 10 ∧ hi 41 0 w = nI (ab_ix (hi 41 0 w)) := fun w hw => ix_of (ma w hw) (by omega)
  have hol : ∀ w, w < nW → hi 43 0 w = nI 1 → ab_ix (hi 44 0 w) < nH ∧ hi 44 0 w = nI (ab_ix (hi 44 0 w)) ∧ hr 7 w 9 = some (2, ab_ix (hi 44 0 w)) := fun w hw es => by
    rcases hd w hw with ⟨q, -⟩ | ⟨-, g, q1, q2, q3⟩
    · rw [es] at q
      exact absurd q (by decide)
    · rw [q2, ab_ix_nI (by omega)]
      exact ⟨q1, rfl, q3⟩
  refine c_X7_sell (n := nV) (nr := nR) (nw := nW) (ho := fun w => ab_ix (hi 44 0 w)) (ar := fun w => ab_ix (hi 41 0 w)) (gw := gW hi) hnb hV (by omega) (cLf fc l1) (cLf fc l2) (cLf fc l3) (iRu_rl ru hR) (fun k hk => (ws.1 k hk).2.2.1) (fun w hw e => ?_) (fun w hw => ⟨(ia w hw).1, (wk.1 w hw).2.1.trans (ia w hw).2⟩) (fun w hiC hw e q eC => ?_) (fun q => ?_)
  · rw [(wk.1 w hw).2.2.2.2.1] at e
    obtain ⟨h1, h2, h3⟩ := hol w hw e
    exact ⟨h3, by omega, (ho.1 _ h1).1⟩
  · have es : hi 43 0 w = nI 1 := (wk.1 w hw).2.2.2.2.1.symm.trans q
    obtain ⟨h1, h2, h3⟩ := hol w hw es
    rw [rent_eq I' hw es] at eC
    obtain ⟨ep, q1, J⟩ := sell_inv I' hw h1 es h2 eC rfl rfl
    rw [fc, ep]
    refine h _ _ _ _ (fun Q' h' => mRw fm ?_)
    refine c_X8_sell hnb (mok_q q1 M) (fun w' g' hw' hg' e' es' eg' => ?_) (fun q' => absurd (by rw [q1 43 (by omega)]; exact es) (q' w hw e))
    have ew := (nI_eq (by omega) (by omega)).mp (e'.symm.trans e)
    subst ew
    rw [q1 44 (by omega), h2] at eg'
    have eg := (nI_eq (by omega) (by omega)).mp eg'
    subst eg
    rw [fm]
    exact h' _ _ _ ⟨nR, nH, nW, nV, nL, J⟩
  · rw [fc]
    refine h _ _ _ _ (fun Q' h' => mRw fm ?_)
    refine c_X8_sell hnb M (fun w g hw hg e es eg => absurd ((wk.1 w hw).2.2.2.2.1.trans es) (q w hw e)) (fun _ => ?_)
    rw [fm]
    exact h' _ _ _ K
theorem st_lose (hnb : ab_n E < 2 ^ 31) (I : inv hi hr cn nR nH nW nV nL) {x : Int32} : stp E (d + 20) nX7_lose nX8_lose [.inl x] hi hr cn := by
  have I' := I
  obtain ⟨⟨fc, fm⟩, ⟨c2, c3, c5, c6, c7, c11⟩, ⟨l0, l1, l2, l3⟩, M, ⟨mu, mf⟩, ⟨n1, n2⟩, ⟨s1, s2, s3, s4, s5⟩, mi, ru, ho, ht, wk, hd, rn, ws, wt, ⟨lk1, lk2, lk3⟩, pp⟩ := I
  have M' := M
  obtain ⟨⟨hcR, hR⟩, ⟨hcH, hH⟩, ⟨hcW, hW⟩, ⟨hcV, hV⟩, ⟨hcL, hL⟩, mh, mw, ma, ms, mo, mt⟩ := M'
  have K : Inv hi hr cn := ⟨nR, nH, nW, nV, nL, I'⟩
  intro Q h
  refine cRw fc ?_
  have ia : ∀ w, w < nW → ab_ix (hi 41 0 w) < 10 ∧ hi 41 0 w = nI (ab_ix (hi 41 0 w)) := fun w hw => ix_of (ma w hw) (by omega)
  have hol : ∀ w, w < nW → hi 43 0 w = nI 1 → ab_ix (hi 44 0 w) < nH ∧ hi 44 0 w = nI (ab_ix (hi 44 0 w)) ∧ hr 7 w 9 = some (2, ab_ix (hi 44 0 w)) := fun w hw es => by
    rcases hd w hw with ⟨q, -⟩ | ⟨-, g, q1, q2, q3⟩
    · rw [es] at q
      exact absurd q (by decide)
    · rw [q2, ab_ix_nI (by omega)]
      exact ⟨q1, rfl, q3⟩
  refine c_X7_lose (n := nV) (nr := nR) (nw := nW) (ho := fun w => ab_ix (hi 44 0 w)) (ar := fun w => ab_ix (hi 41 0 w)) (gw := gW hi) hnb hV (by omega) (cLf fc l1) (cLf fc l2) (cLf fc l3) (iRu_rl ru hR) (fun k hk => (ws.1 k hk).2.2.1) (fun w hw e => ?_) (fun w hw => ⟨(ia w hw).1, (wk.1 w hw).2.1.trans (ia w hw).2⟩) (fun w hiC hw e q eC => ?_) (fun q => ?_)
  · rw [(wk.1 w hw).2.2.2.2.1] at e
    obtain ⟨h1, h2, h3⟩ := hol w hw e
    exact ⟨h3, by omega, (ho.1 _ h1).1⟩
  · have es : hi 43 0 w = nI 1 := (wk.1 w hw).2.2.2.2.1.symm.trans q
    obtain ⟨h1, h2, h3⟩ := hol w hw es
    rw [rent_eq I' hw es] at eC
    obtain ⟨q1, J⟩ := lose_inv I' hw h1 es h2 eC rfl rfl
    rw [fc]
    refine h _ _ _ _ (fun Q' h' => mRw fm ?_)
    refine c_X8_lose hnb (mok_q q1 M) (fun w' g' hw' hg' e' es' eg' => ?_) (fun q' => absurd (by rw [q1 43 (by omega)]; exact es) (q' w hw e))
    have ew := (nI_eq (by omega) (by omega)).mp (e'.symm.trans e)
    subst ew
    rw [q1 44 (by omega), h2] at eg'
    have eg := (nI_eq (by omega) (by omega)).mp eg'
    subst eg
    rw [fm]
    exact h' _ _ _ ⟨nR, nH, nW, nV, nL, J⟩
  · rw [fc]
    refine h _ _ _ _ (fun Q' h' => mRw fm ?_)
    refine c_X8_lose hnb M (fun w g hw hg e es eg => absurd ((wk.1 w hw).2.2.2.2.1.trans es) (q w hw e)) (fun _ => ?_)
    rw [fm]
    exact h' _ _ _ K
end STEPS9
