/-- the reference's cells are the same -/
def mq (hi hi' : ab_I) : Prop := ∀ K, (K = 9 ∨ 30 ≤ K) → hi' K = hi K
theorem mq_rf {hi : ab_I} : mq hi hi := fun _ _ => rfl
theorem mq_u {hi hi1 : ab_I} {K i j : Nat} {x : Int32} (h : mq hi hi1) (hK : K < 30 ∧ K ≠ 9) : mq hi (ab_uI hi1 K i j x) := fun K' h' => by
  funext i' j'
  rw [ab_uI_k (by omega), h K' h']
theorem mok_q {hi hi' : ab_I} {nR nH nW nV nL : Nat} (e : mq hi hi') (M : mok hi nR nH nW nV nL) : mok hi' nR nH nW nV nL := by
  unfold mok at *
  rw [e 9 (by omega), e 54 (by omega), e 55 (by omega), e 41 (by omega), e 45 (by omega), e 43 (by omega), e 44 (by omega), e 35 (by omega)]
  exact M
theorem mrule_q {hi hi' : ab_I} (e : mq hi hi') {nR : Nat} {day : Int32} {j : Nat} : mrule hi' nR day j = mrule hi nR day j := by
  unfold mrule
  rw [e 82 (by omega), e 34 (by omega)]
theorem mnext_q {hi hi' : ab_I} (e : mq hi hi') {nR nW w n : Nat} : mnext hi' nR nW w n = mnext hi nR nW w n := by
  unfold mnext mcand mrank mroom mlent
  simp only [mrule_q e]
  rw [e 56 (by omega), e 55 (by omega), e 59 (by omega), e 9 (by omega), e 54 (by omega), e 43 (by omega), e 44 (by omega), e 42 (by omega), e 36 (by omega), e 57 (by omega), e 37 (by omega)]
theorem cTake_q {hi : ab_I} {k w g : Nat} {m t : Int32} : mq hi (cTake hi k w g m t) := by
  unfold cTake cLend
  exact mq_u (mq_u (mq_u (mq_u (mq_u (mq_u (mq_u (mq_u (mq_u (mq_u (mq_u mq_rf (by omega)) (by omega)) (by omega)) (by omega)) (by omega)) (by omega)) (by omega)) (by omega)) (by omega)) (by omega)) (by omega)
theorem cTake_7 {hi : ab_I} {k w g : Nat} {m t : Int32} : cTake hi k w g m t 7 w 0 = hi 7 w 0 ∧ cTake hi k w g m t 7 w 1 = hi 7 w 1 ∧ cTake hi k w g m t 7 w 2 = hi 7 w 2 ∧ cTake hi k w g m t 7 w 3 = hi 7 w 3 ∧ cTake hi k w g m t 7 w 5 = nI 1 ∧ cTake hi k w g m t 7 w 6 = hi 7 w 6 ∧ cTake hi k w g m t 7 w 7 = hi 7 w 7 ∧ cTake hi k w g m t 7 w 8 = cDays hi w (hi 8 0 8) ∧ cTake hi k w g m t 7 w 10 = hi 8 0 8 ∧ cTake hi k w g m t 7 w 11 = t ∧ cTake hi k w g m t 7 w 12 = hi 7 w 12 + nI 1 ∧ cTake hi k w g m t 7 w 13 = hi 7 w 13 ∧ cTake hi k w g m t 7 w 15 = (if hi 7 w 15 = -1 ∨ hi 7 w 15 = hi 2 g 0 then hi 2 g 0 else -2) := by
  simp [cTake, cLend, cDays, ab_uI]
theorem cTake_7i {hi : ab_I} {k w g i j : Nat} {m t : Int32} (h : i ≠ w) : cTake hi k w g m t 7 i j = hi 7 i j := by
  unfold cTake cLend
  rw [ab_uI_k (by omega), ab_uI_k (by omega), ab_uI_k (by omega), ab_uI_i h, ab_uI_i h, ab_uI_i h, ab_uI_i h, ab_uI_i h, ab_uI_i h, ab_uI_k (by omega), ab_uI_k (by omega)]
theorem cTake_2 {hi : ab_I} {k w g : Nat} {m t : Int32} : cTake hi k w g m t 2 g 0 = hi 2 g 0 ∧ cTake hi k w g m t 2 g 1 = hi 2 g 1 ∧ cTake hi k w g m t 2 g 2 = hi 2 g 2 ∧ cTake hi k w g m t 2 g 3 = hi 8 0 8 ∧ cTake hi k w g m t 2 g 4 = hi 2 g 4 + hi 7 w 3 ∧ cTake hi k w g m t 2 g 5 = hi 2 g 5 + nI 1 ∧ cTake hi k w g m t 2 g 6 = hi 2 g 6 ∧ cTake hi k w g m t 2 g 7 = hi 2 g 7 := by
  simp [cTake, cLend, ab_uI]
theorem cTake_2i {hi : ab_I} {k w g i j : Nat} {m t : Int32} (h : i ≠ g) : cTake hi k w g m t 2 i j = hi 2 i j := by
  unfold cTake cLend
  rw [ab_uI_i h, ab_uI_i h, ab_uI_i h]
  rw [ab_uI_k (by omega), ab_uI_k (by omega), ab_uI_k (by omega), ab_uI_k (by omega), ab_uI_k (by omega), ab_uI_k (by omega), ab_uI_k (by omega), ab_uI_k (by omega)]
theorem cTake_6 {hi : ab_I} {k w g i j : Nat} {m t : Int32} : cTake hi k w g m t 6 i j = if i = k ∧ j = 3 then nI 1 else hi 6 i j := by
  unfold cTake cLend
  rw [ab_uI_k (by omega), ab_uI_k (by omega), ab_uI_k (by omega), ab_uI_k (by omega), ab_uI_k (by omega), ab_uI_k (by omega), ab_uI_k (by omega), ab_uI_k (by omega), ab_uI_k (by omega), ab_uI_at, ab_uI_k (by omega)]
theorem mTake_w {hi : ab_I} {nR w k g : Nat} : mTake hi nR w k g 43 0 w = nI 1 ∧ mTake hi nR w k g 44 0 w = nI g ∧ mTake hi nR w k g 46 0 w = hi 9 0 0 ∧ mTake hi nR w k g 47 0 w = mrule hi nR (hi 9 0 0) 4 ∧ mTake hi nR w k g 48 0 w = hi 48 0 w + nI 1 ∧ mTake hi nR w k g 49 0 w = hi 49 0 w + (hi 9 0 0 - hi 50 0 w) ∧ mTake hi nR w k g 51 0 w = hi 51 0 w ||| nI 1 <<< (nI g &&& 31) ∧ mTake hi nR w k g 37 0 g = hi 9 0 0 ∧ mTake hi nR w k g 56 0 k = nI 1 := by
  simp [mTake, ab_uI]
theorem mTake_i {hi : ab_I} {nR w k g K i : Nat} (h1 : 41 ≤ K) (h2 : K ≤ 51) (h : i ≠ w) : mTake hi nR w k g K 0 i = hi K 0 i := by
  unfold mTake
  rw [ab_uI_k (by omega), ab_uI_j h, ab_uI_j h, ab_uI_j h, ab_uI_j h, ab_uI_j h, ab_uI_j h, ab_uI_j h, ab_uI_k (by omega), ab_uI_k (by omega)]
theorem mTake_h {hi : ab_I} {nR w k g K i : Nat} (h1 : 35 ≤ K) (h2 : K ≤ 39) (h : i ≠ g) : mTake hi nR w k g K 0 i = hi K 0 i := by
  unfold mTake
  rw [ab_uI_j h, ab_uI_k (by omega), ab_uI_k (by omega), ab_uI_k (by omega), ab_uI_k (by omega), ab_uI_k (by omega), ab_uI_k (by omega), ab_uI_k (by omega), ab_uI_k (by omega), ab_uI_k (by omega)]
theorem mTake_s {hi : ab_I} {nR w k g K i : Nat} (h1 : 54 ≤ K) (h2 : K ≤ 59) (h : i ≠ k) : mTake hi nR w k g K 0 i = hi K 0 i := by
  unfold mTake
  rw [ab_uI_k (by omega), ab_uI_k (by omega), ab_uI_k (by omega), ab_uI_k (by omega), ab_uI_k (by omega), ab_uI_k (by omega), ab_uI_k (by omega), ab_uI_k (by omega), ab_uI_k (by omega), ab_uI_j h]
section STEPS6
variable {E : ab_E} {d : Nat} {hi : ab_I} {hr : ab_R} {cn : ab_C} {nR nH nW nV nL : Nat}
theorem take_inv (I : inv hi hr cn nR nH nW nV nL) {w k g s t : Nat} (hw : w < nW) (hk : k < nV) (hg : g < nH) (es : hi 43 0 w = nI 0) (e1 : hi 45 0 w = nI s) (e2 : hi 35 0 g = nI t) (hs : s < 4) (ht' : t < 4) : inv (mTake (cTake hi k w g (hi 13 s t) (mrule hi nR (hi 9 0 0) 4)) nR w k g) (ab_uR hr 7 w 9 (some (2, g))) cn nR nH nW nV nL := by
  have I' := I

  obtain ⟨⟨fc, fm⟩, ⟨c2, c3, c5, c6, c7, c11⟩, ⟨l0, l1, l2, l3⟩, M, ⟨mu, mf⟩, ⟨n1, n2⟩, ⟨s1, s2, s3, s4, s5⟩, mi, ru, ho, ht, wk, hd, rn, ws, wt, ⟨lk1, lk2, lk3⟩, pp⟩ := I
  have M' := M
  obtain ⟨⟨hcR, hR⟩, ⟨hcH, hH⟩, ⟨hcW, hW⟩, ⟨hcV, hV⟩, ⟨hcL, hL⟩, mh, mw, ma, ms, mo, mt⟩ := M'
  generalize eT : cTake hi k w g (hi 13 s t) (mrule hi nR (hi 9 0 0) 4) = hi1
  have q : mq hi hi1 := by rw [← eT]; exact cTake_q
  have t7 := cTake_7 (hi := hi) (k := k) (w := w) (g := g) (m := hi 13 s t) (t := mrule hi nR (hi 9 0 0) 4)
  have t2 := cTake_2 (hi := hi) (k := k) (w := w) (g := g) (m := hi 13 s t) (t := mrule hi nR (hi 9 0 0) 4)
  have t7i : ∀ i j, i ≠ w → hi1 7 i j = hi 7 i j := fun i j z => by rw [← eT]; exact cTake_7i z
  have t2i : ∀ i j, i ≠ g → hi1 2 i j = hi 2 i j := fun i j z => by rw [← eT]; exact cTake_2i z
  have t6 : ∀ i j, hi1 6 i j = if i = k ∧ j = 3 then nI 1 else hi 6 i j := fun i j => by rw [← eT]; exact cTake_6
  have tk : ∀ K, K ≠ 8 → K ≠ 2 → K ≠ 7 → K ≠ 6 → hi1 K = hi K := fun K z1 z2 z3 z4 => by
    funext i j
    rw [← eT]
    unfold cTake cLend
    rw [ab_uI_k z2, ab_uI_k z2, ab_uI_k z2, ab_uI_k z3, ab_uI_k z3, ab_uI_k z3, ab_uI_k z3, ab_uI_k z3, ab_uI_k z3, ab_uI_k z4, ab_uI_k z1]
  have t8 : ∀ j, j ≠ 9 → hi1 8 0 j = hi 8 0 j := fun j z => by
    rw [← eT]
    unfold cTake cLend
    rw [ab_uI_k (by omega), ab_uI_k (by omega), ab_uI_k (by omega), ab_uI_k (by omega), ab_uI_k (by omega), ab_uI_k (by omega), ab_uI_k (by omega), ab_uI_k (by omega), ab_uI_k (by omega), ab_uI_k (by omega), ab_uI_j z]
  have t89 : hi1 8 0 9 = hi 8 0 9 + hi 13 s t := by rw [← eT]; rfl
  rw [eT] at t7 t2
  obtain ⟨p0, p1, p2, p3, p5, p6, p7, p8, p10, p11, p12, p13, p15⟩ := t7
  obtain ⟨r0, r1, r2, r3, r4, r5, r6, r7⟩ := t2
  obtain ⟨w43, w44, w46, w47, w48, w49, w51, w37, w56⟩ := mTake_w (hi := hi1) (nR := nR) (w := w) (k := k) (g := g)
  have m9 : ∀ j, j ≠ 36 → mTake hi1 nR w k g 9 0 j = hi1 9 0 j := fun j z => by
    unfold mTake
    rw [ab_uI_k (by omega), ab_uI_k (by omega), ab_uI_k (by omega), ab_uI_k (by omega), ab_uI_k (by omega), ab_uI_k (by omega), ab_uI_k (by omega), ab_uI_k (by omega), ab_uI_j z, ab_uI_k (by omega)]
  have m936 : mTake hi1 nR w k g 9 0 36 = hi 9 0 36 + hi 81 s t := by
    have : mTake hi1 nR w k g 9 0 36 = hi1 9 0 36 + hi1 81 (ab_ix (hi1 45 0 w)) (ab_ix (hi1 35 0 g)) := rfl
    rw [this, q 9 (by omega), q 81 (by omega), q 45 (by omega), q 35 (by omega), e1, e2, ab_ix_nI (by omega), ab_ix_nI (by omega)]
  have mk : ∀ K, ¬ (K = 9 ∨ K = 37 ∨ (43 ≤ K ∧ K ≤ 51 ∧ K ≠ 45 ∧ K ≠ 50) ∨ K = 56) → mTake hi1 nR w k g K = hi1 K := fun K z => by
    funext i j
    unfold mTake
    rw [ab_uI_k (by omega), ab_uI_k (by omega), ab_uI_k (by omega), ab_uI_k (by omega), ab_uI_k (by omega), ab_uI_k (by omega), ab_uI_k (by omega), ab_uI_k (by omega), ab_uI_k (by omega), ab_uI_k (by omega)]
  have mi' : ∀ K i, 41 ≤ K → K ≤ 51 → i ≠ w → mTake hi1 nR w k g K 0 i = hi K 0 i := fun K i z1 z2 z => by rw [mTake_i z1 z2 z, q K (by omega)]
  have mh' : ∀ K i, 35 ≤ K → K ≤ 39 → i ≠ g → mTake hi1 nR w k g K 0 i = hi K 0 i := fun K i z1 z2 z => by rw [mTake_h z1 z2 z, q K (by omega)]
  have ms' : ∀ K i, 54 ≤ K → K ≤ 59 → i ≠ k → mTake hi1 nR w k g K 0 i = hi K 0 i := fun K i z1 z2 z => by rw [mTake_s z1 z2 z, q K (by omega)]
  generalize eh : mTake hi1 nR w k g = hi2 at *
  have kK : ∀ K, ¬ (K = 8 ∨ K = 2 ∨ K = 7 ∨ K = 6 ∨ K = 9 ∨ K = 37 ∨ (43 ≤ K ∧ K ≤ 51 ∧ K ≠ 45 ∧ K ≠ 50) ∨ K = 56) → hi2 K = hi K := fun K z => (mk K (by omega)).trans (tk K (by omega) (by omega) (by omega) (by omega))
  have cK : ∀ K, K = 8 ∨ K = 2 ∨ K = 7 ∨ K = 6 → hi2 K = hi1 K := fun K z => mk K (by omega)
  have f9 : ∀ j, j ≠ 36 → hi2 9 0 j = hi 9 0 j := fun j z => by rw [m9 j z, q 9 (by omega)]
  have rK : ∀ K i j, ¬ (K = 7 ∧ i = w ∧ j = 9) → ab_uR hr 7 w 9 (some (2, g)) K i j = hr K i j := fun K i j z => by
    by_cases z1 : K = 7
    · by_cases z2 : i = w
      · exact ab_uR_j fun z3 => z ⟨z1, z2, z3⟩
      · exact ab_uR_i z2
    · exact ab_uR_k z1
  have hgw := wk.1 w hw
  obtain ⟨x0, x1, x2, x3, x5, x6, x7, x8, x10, x11, x12, -⟩ := hgw
  obtain ⟨y0, y1, y2, y3, y4, y5, y6, y7⟩ := ho.1 g hg
  have lent : ∀ g' p, mlent hi2 (nI g') p nW = mlent hi (nI g') p nW + (if g' = g then (if p = true then hi 42 0 w / nI 20 else nI 1) else nI 0) ∨ 20 ≤ g' := fun g' p => by
    rcases Nat.lt_or_ge g' 20 with hg20 | hg20
    · left
      have := sumI_set (f := fun w => if hi 43 0 w = nI 1 ∧ hi 44 0 w = nI g' then (if p = true then hi 42 0 w / nI 20 else nI 1) else nI 0) (f' := fun w => if hi2 43 0 w = nI 1 ∧ hi2 44 0 w = nI g' then (if p = true then hi2 42 0 w / nI 20 else nI 1) else nI 0) hw (fun j hj z => by
        rw [mi' 43 j (by omega) (by omega) z, mi' 44 j (by omega) (by omega) z, mi' 42 j (by omega) (by omega) z])
      unfold mlent
      rw [this]
      rw [es, w43, w44, kK 42 (by omega), if_neg (fun z => absurd z.1 (by decide))]
      have e4 : nI g = nI g' ↔ g' = g := by
        rw [nI_eq (by omega) (by omega)]
        exact eq_comm
      have e5 : ∀ S X : Int32, S - nI 0 + X = S + X := fun S X => by rw [show S - nI 0 = S from Int32.sub_zero S]
      rw [e5]
      congr 1
      by_cases z : g' = g
      · rw [if_pos ⟨rfl, e4.mpr z⟩, if_pos z]
      · rw [if_neg (fun y => z (e4.mp y.2)), if_neg z]
    · exact Or.inr hg20
  refine ⟨⟨?_, ?_⟩, ⟨c2, c3, c5, c6, c7, c11⟩, ?_, ?_, ⟨?_, ?_⟩, ?_, ?_, ?_, ?_, ⟨?_, ?_⟩, ?_, ⟨?_, ?_⟩, ?_, ?_, ⟨?_, ?_⟩, ?_, ⟨?_, ?_, ?_⟩, ?_⟩
  · exact cR_fix fc (fun K i j z => rK K i j (by rintro ⟨rfl, -, rfl⟩; cases z))
  · exact mR_fix fm (fun K i j z => rK K i j (by rintro ⟨rfl, -, rfl⟩; cases z))
  · have e0 : ∀ k, hi2 0 k 2 = hi 0 k 2 := fun k => by rw [kK 0 (by omega)]
    exact ⟨cL_congr (e0 0) (rK 0 0 1 (by omega)) (fun g j => rK _ g j (by omega)) rfl l0, cL_congr (e0 1) (rK 0 1 1 (by omega)) (fun g j => rK _ g j (by omega)) rfl l1, cL_congr (e0 2) (rK 0 2 1 (by omega)) (fun g j => rK _ g j (by omega)) rfl l2, cL_congr (e0 3) (rK 0 3 1 (by omega)) (fun g j => rK _ g j (by omega)) rfl l3⟩
  · unfold mok
    rw [f9 3 (by omega), f9 10 (by omega), f9 23 (by omega), f9 30 (by omega), f9 34 (by omega), kK 54 (by omega), kK 55 (by omega), kK 41 (by omega), kK 45 (by omega), kK 35 (by omega)]
    refine ⟨⟨hcR, hR⟩, ⟨hcH, hH⟩, ⟨hcW, hW⟩, ⟨hcV, hV⟩, ⟨hcL, hL⟩, mh, mw, ma, ms, fun w' hw' => ?_, mt⟩
    by_cases z : w' = w
    · subst z
      exact fun _ => ⟨g, hg, w44⟩
    · rw [mi' 43 w' (by omega) (by omega) z, mi' 44 w' (by omega) (by omega) z]
      exact mo w' hw'
  · intro a b ha hb h1 h2 h3 h4
    rw [kK 54 (by omega)] at h3
    rw [kK 55 (by omega)] at h4
    have op : ∀ a, hi2 56 0 a = nI 0 → hi 56 0 a = nI 0 := fun a z => by
      by_cases z2 : a = k
      · rw [z2, w56] at z
        exact absurd z (by decide)
      · rw [ms' 56 a (by omega) (by omega) z2] at z
        exact z
    exact mu a b ha hb (op a h1) (op b h2) h3 h4
  · unfold mF
    rw [kK 81 (by omega)]
    exact mf
  · unfold iNow
    rw [cK 8 (by omega), t8 8 (by omega), f9 0 (by omega)]
    exact ⟨n1, n2⟩
  · unfold iSum
    rw [cK 8 (by omega), t89, t8 10 (by omega), t8 11 (by omega), t8 12 (by omega), m936, f9 37 (by omega), f9 38 (by omega), f9 34 (by omega), kK 10 (by omega), kK 65 (by omega), s1, mi s t hs ht']
    exact ⟨rfl, s2, s3, s4, s5⟩
  · unfold iMi
    rw [kK 13 (by omega), kK 81 (by omega)]
    exact mi
  · exact iRu_k (kK 5 (by omega)) (kK 82 (by omega)) (kK 34 (by omega)) ru
  · intro g' hg'
    by_cases z : g' = g
    · subst z
      unfold hmI
      rw [cK 2 (by omega), r0, r1, r2, r3, r4, r5, r6, r7, w37, q 9 (by omega), n1, kK 35 (by omega), kK 36 (by omega), kK 38 (by omega), kK 39 (by omega), (lent g' true).resolve_right (by omega), (lent g' false).resolve_right (by omega), y4, y5, x3]
      exact ⟨y0, y1, y2, rfl, by rw [if_pos rfl, if_pos rfl], by rw [if_pos rfl, if_neg (by decide)], y6, y7⟩
    · refine hmI_congr (hi := hi) (nW := nW) (fun j => by rw [cK 2 (by omega)]; exact t2i g' j z) (fun K h1 h2 => mh' K g' h1 h2 z) (fun p => ?_) (ho.1 g' hg')
      rw [(lent g' p).resolve_right (by omega), if_neg z]
      exact Int32.add_zero _
  · intro g' h1 h2
    rw [kK 38 (by omega), kK 39 (by omega)]
    exact ho.2 g' h1 h2
  · intro g' hg'
    by_cases z : g' = g
    · subst z
      obtain ⟨t', ht1, ht2⟩ := n2
      refine ⟨t', t', Nat.le_refl _, ht1, ?_, (f9 0 (by omega)).trans ht2⟩
      rw [w37, q 9 (by omega), ht2]
    · rw [mh' 37 g' (by omega) (by omega) z]
      exact iTm_k (f9 0 (by omega)) (ht g' hg')
  · intro w' hw'
    by_cases z : w' = w
    · subst z
      unfold wkI
      rw [cK 7 (by omega), p0, p1, p2, p3, p5, p6, p7, p8, p10, p11, p12, kK 41 (by omega), kK 42 (by omega), w43, kK 45 (by omega), kK 50 (by omega), w49, w46, w47, w48, q 9 (by omega), q 48 (by omega), q 49 (by omega), q 50 (by omega), mrule_q q, n1]
      refine ⟨x0, x1, x2, x3, rfl, x6, x7, ?_, fun _ => rfl, rfl, by rw [x12], 1, by omega, rfl⟩
      unfold cDays
      rw [x5, if_pos es, x8, x7, Int32.sub_eq_add_neg, Int32.sub_eq_add_neg, Int32.add_assoc]
    · exact wkI_congr (hi := hi) (fun j _ => by rw [cK 7 (by omega)]; exact t7i w' j z) (fun K h1 h2 => mi' K w' h1 (by omega) z) (wk.1 w' hw')
  · intro w' h1 h2
    rw [mi' 43 w' (by omega) (by omega) (by omega), mi' 47 w' (by omega) (by omega) (by omega), mi' 48 w' (by omega) (by omega) (by omega), mi' 49 w' (by omega) (by omega) (by omega)]
    exact wk.2 w' h1 h2
  · intro w' hw'
    by_cases z : w' = w
    · subst z
      exact Or.inr ⟨by rw [w43]; decide, g, hg, w44, ab_uR_e⟩
    · exact hdI_congr (hi := hi) (hr := hr) (mi' 43 w' (by omega) (by omega) z) (mi' 44 w' (by omega) (by omega) z) (rK 7 w' 9 (by omega)) (hd w' hw')
  · exact iRn_k (kK 11 (by omega)) (kK 102 (by omega)) rn
  · intro k' hk'
    by_cases z : k' = k
    · subst z
      obtain ⟨v0, v1, v2, v3, v4, v5, v6⟩ := ws.1 k' hk'
      unfold wsI gH gW
      rw [cK 6 (by omega), t6, t6, t6, t6, t6, w56, kK 54 (by omega), kK 55 (by omega), kK 57 (by omega), kK 58 (by omega), kK 59 (by omega), rK 6 k' 1 (by omega), rK 6 k' 2 (by omega), if_neg (by omega), if_pos (by omega), if_neg (by omega), if_neg (by omega), if_neg (by omega)]
      exact ⟨v0, v1, v2, rfl, v4, v5, v6⟩
    · exact wsI_congr (hi := hi) (hr := hr) (fun j => by rw [cK 6 (by omega), t6, if_neg (fun y => z y.1)]) (fun K h1 h2 => ms' K k' h1 h2 z) (fun j => rK 6 k' j (by omega)) (ws.1 k' hk')
  · intro k' h1 h2
    rw [ms' 56 k' (by omega) (by omega) (by omega), ms' 58 k' (by omega) (by omega) (by omega)]
    exact ws.2 k' h1 h2
  · intro k' hk'
    rw [kK 57 (by omega)]
    exact iTm_k (f9 0 (by omega)) (wt k' hk')
  · exact fun l hl => lkI_congr (hi := hi) (hr := hr) (Nat.le_refl _) (fun j => by rw [kK 3 (by omega)]) (fun l' _ => by rw [kK 61 (by omega)]) (by rw [kK 62 (by omega)]) (by rw [kK 63 (by omega)]) (rK 3 l 2 (by omega)) (lk1 l hl)
  · intro w' hw'
    by_cases z : w' = w
    · subst z
      obtain ⟨u1, u2, u3⟩ := lk2 w' hw'
      refine ⟨?_, ?_, ?_⟩
      · rw [cK 7 (by omega), p13, u1]
        exact (sumI_congr (fun l _ => by rw [kK 61 (by omega)])).symm
      · rw [cK 7 (by omega), p15, w51, q 51 (by omega), y0]
        exact hadB_or u2 (by omega)
      · rw [rK 7 w' 14 (by omega), u3, lkP_congr (hi := hi) (hi' := hi2) (fun l _ => by rw [kK 61 (by omega)])]
    · exact lwI_congr (hi := hi) (hr := hr) (by rw [cK 7 (by omega)]; exact t7i w' 13 z) (by rw [cK 7 (by omega)]; exact t7i w' 15 z) (fun l _ => by rw [kK 61 (by omega)]) (mi' 51 w' (by omega) (by omega) z) (rK 7 w' 14 (by omega)) (lk2 w' hw')
  · intro w' h1 h2
    rw [mi' 51 w' (by omega) (by omega) (by omega)]
    exact lk3 w' h1 h2
  · exact plP_k (fun p => rK 14 0 p (by omega)) pp
theorem cRefuse_q {k : Nat} {keep day : Int32} : mq hi (cRefuse hi k keep day) := by
  unfold cRefuse cRef1
  split
  · exact mq_u (mq_u mq_rf (by omega)) (by omega)
  · exact mq_u (mq_u (mq_u (mq_u mq_rf (by omega)) (by omega)) (by omega)) (by omega)
theorem refuse_inv (I : inv hi hr cn nR nH nW nV nL) {k : Nat} (hk : k < nV) : inv (mRefuse (cRefuse hi k (mrule hi nR (hi 9 0 0) 3) (hi 8 0 8)) nR k) hr cn nR nH nW nV nL := by
  have I' := I

  obtain ⟨⟨fc, fm⟩, ⟨c2, c3, c5, c6, c7, c11⟩, ⟨l0, l1, l2, l3⟩, M, ⟨mu, mf⟩, ⟨n1, n2⟩, ⟨s1, s2, s3, s4, s5⟩, mi, ru, ho, ht, wk, hd, rn, ws, wt, ⟨lk1, lk2, lk3⟩, pp⟩ := I
  have M' := M
  obtain ⟨⟨hcR, hR⟩, ⟨hcH, hH⟩, ⟨hcW, hW⟩, ⟨hcV, hV⟩, ⟨hcL, hL⟩, mh, mw, ma, ms, mo, mt⟩ := M'
  obtain ⟨v0, v1, v2, v3, v4, v5, v6⟩ := ws.1 k hk
  have q : mq hi (cRefuse hi k (mrule hi nR (hi 9 0 0) 3) (hi 8 0 8)) := cRefuse_q
  have ec : cRefuse hi k (mrule hi nR (hi 9 0 0) 3) (hi 8 0 8) = if hi 58 0 k + nI 1 ≤ mrule hi nR (hi 9 0 0) 3 then cRef1 hi k (hi 8 0 8) else ab_uI (ab_uI (cRef1 hi k (hi 8 0 8)) 6 k 5 (nI 0)) 6 k 4 (hi 8 0 8) := by
    unfold cRefuse
    rw [v5]
  have em : mRefuse (cRefuse hi k (mrule hi nR (hi 9 0 0) 3) (hi 8 0 8)) nR k = if hi 58 0 k + nI 1 ≤ mrule hi nR (hi 9 0 0) 3 then mRef1 (cRefuse hi k (mrule hi nR (hi 9 0 0) 3) (hi 8 0 8)) k else ab_uI (ab_uI (mRef1 (cRefuse hi k (mrule hi nR (hi 9 0 0) 3) (hi 8 0 8)) k) 58 0 k (nI 0)) 57 0 k (hi 9 0 0) := by
    unfold mRefuse
    rw [mrule_q q, q 58 (by omega), q 9 (by omega)]
  generalize cRefuse hi k (mrule hi nR (hi 9 0 0) 3) (hi 8 0 8) = hi1 at *
  generalize mRefuse hi1 nR k = hi2 at *
  -- what is the same, and what isn't
  have same : ∀ K i j, ¬ (K = 6 ∧ i = k) → ¬ (57 ≤ K ∧ K ≤ 59 ∧ j = k) → hi2 K i j = hi K i j := fun K i j z1 z2 => by
    have a1 : hi1 K i j = hi K i j := by
      rw [ec]
      unfold cRef1
      have u : ∀ (f : ab_I) a x, ab_uI f 6 k a x K i j = f K i j := fun f a x => by
        by_cases y : K = 6
        · exact ab_uI_i fun y2 => z1 ⟨y, y2⟩
        · exact ab_uI_k y
      split
      · rw [u, u]
      · rw [u, u, u, u]
    rw [em]
    unfold mRef1
    have u : ∀ (f : ab_I) a x, (57 ≤ a ∧ a ≤ 59) → ab_uI f a 0 k x K i j = f K i j := fun f a x ha => by
      by_cases y : K = a
      · exact ab_uI_j fun y2 => z2 ⟨by omega, by omega, y2⟩
      · exact ab_uI_k y
    split
    · rw [u _ _ _ (by omega), u _ _ _ (by omega), a1]
    · rw [u _ _ _ (by omega), u _ _ _ (by omega), u _ _ _ (by omega), u _ _ _ (by omega), a1]
  have c6' : ∀ j, hi2 6 k j = hi1 6 k j := fun j => by
    rw [em]
    unfold mRef1
    split <;> rfl
  have kK : ∀ K, ¬ (K = 6 ∨ (57 ≤ K ∧ K ≤ 59)) → hi2 K = hi K := fun K z => by
    funext i j
    exact same K i j (by omega) (by omega)
  have at57 : (hi2 6 k 4 = hi2 57 0 k ∧ hi2 6 k 5 = hi2 58 0 k ∧ hi2 6 k 6 = hi2 59 0 k ∧ hi2 6 k 0 = hi 6 k 0 ∧ hi2 6 k 3 = hi 6 k 3) ∧ (hi2 57 0 k = hi 57 0 k ∨ hi2 57 0 k = hi 9 0 0) := by
    rw [c6', c6', c6', c6', c6', em]
    unfold mRef1
    rw [q 9 (by omega), q 58 (by omega)]
    by_cases y : hi 58 0 k + nI 1 ≤ mrule hi nR (hi 9 0 0) 3
    · rw [if_pos y] at ec ⊢
      have e57 : hi1 57 0 k = hi 57 0 k := by rw [q 57 (by omega)]
      refine ⟨⟨?_, ?_, ?_, ?_, ?_⟩, Or.inl ?_⟩
      · rw [ab_uI_k (by omega), ab_uI_k (by omega), e57, ec]
        unfold cRef1
        rw [ab_uI_j (by omega), ab_uI_j (by omega)]
        exact v4
      · rw [ab_uI_e, ec]
        unfold cRef1
        rw [ab_uI_e, v5]
      · rw [ab_uI_k (by omega), ab_uI_e, ec]
        unfold cRef1
        rw [ab_uI_j (by omega), ab_uI_e, n1]
      · rw [ec]
        unfold cRef1
        rw [ab_uI_j (by omega), ab_uI_j (by omega)]
      · rw [ec]
        unfold cRef1
        rw [ab_uI_j (by omega), ab_uI_j (by omega)]
      · rw [ab_uI_k (by omega), ab_uI_k (by omega), e57]
    · rw [if_neg y] at ec ⊢
      refine ⟨⟨?_, ?_, ?_, ?_, ?_⟩, Or.inr ?_⟩
      · rw [ab_uI_e, ec, ab_uI_e, n1]
      · rw [ab_uI_k (by omega), ab_uI_e, ec, ab_uI_j (by omega), ab_uI_e]
      · rw [ab_uI_k (by omega), ab_uI_k (by omega), ab_uI_k (by omega), ab_uI_e, ec, ab_uI_j (by omega), ab_uI_j (by omega)]
        unfold cRef1
        rw [ab_uI_j (by omega), ab_uI_e, n1]
      · rw [ec, ab_uI_j (by omega), ab_uI_j (by omega)]
        unfold cRef1
        rw [ab_uI_j (by omega), ab_uI_j (by omega)]
      · rw [ec, ab_uI_j (by omega), ab_uI_j (by omega)]
        unfold cRef1
        rw [ab_uI_j (by omega), ab_uI_j (by omega)]
      · rw [ab_uI_e]
  obtain ⟨⟨b4, b5, b6, b0, b3⟩, b57⟩ := at57
  refine ⟨⟨fc, fm⟩, ⟨c2, c3, c5, c6, c7, c11⟩, ?_, ?_, ⟨?_, ?_⟩, ?_, ?_, ?_, ?_, ?_, ?_, ?_, ?_, ?_, ⟨?_, ?_⟩, ?_, ?_, pp⟩
  · have e0 : ∀ k, hi2 0 k 2 = hi 0 k 2 := fun k => by rw [kK 0 (by omega)]
    exact ⟨cL_congr (e0 0) rfl (fun g j => rfl) rfl l0, cL_congr (e0 1) rfl (fun g j => rfl) rfl l1, cL_congr (e0 2) rfl (fun g j => rfl) rfl l2, cL_congr (e0 3) rfl (fun g j => rfl) rfl l3⟩
  · unfold mok at *
    rw [kK 9 (by omega), kK 54 (by omega), kK 55 (by omega), kK 41 (by omega), kK 45 (by omega), kK 43 (by omega), kK 44 (by omega), kK 35 (by omega)]
    exact M
  · unfold mU
    rw [kK 54 (by omega), kK 55 (by omega), kK 56 (by omega)]
    exact mu
  · unfold mF
    rw [kK 81 (by omega)]
    exact mf
  · unfold iNow
    rw [kK 8 (by omega), kK 9 (by omega)]
    exact ⟨n1, n2⟩
  · exact iSum_k (fun j _ => by rw [kK 8 (by omega)]) (fun j _ _ => by rw [kK 9 (by omega)]) (kK 10 (by omega)) (kK 65 (by omega)) ⟨s1, s2, s3, s4, s5⟩
  · unfold iMi
    rw [kK 13 (by omega), kK 81 (by omega)]
    exact mi
  · exact iRu_k (kK 5 (by omega)) (kK 82 (by omega)) (kK 34 (by omega)) ru
  · exact ⟨fun g hg => hmI_congr (hi := hi) (nW := nW) (fun j => by rw [kK 2 (by omega)]) (fun K h1 h2 => by rw [kK K (by omega)]) (fun p => mlent_congr (fun w _ => by rw [kK 42 (by omega), kK 43 (by omega), kK 44 (by omega)]; exact ⟨rfl, rfl, rfl⟩)) (ho.1 g hg), fun g h1 h2 => by
      rw [kK 38 (by omega), kK 39 (by omega)]
      exact ho.2 g h1 h2⟩
  · intro g hg
    rw [kK 37 (by omega)]
    exact iTm_k (by rw [kK 9 (by omega)]) (ht g hg)
  · exact iWk_k (kK 7 (by omega)) (fun K h1 h2 => kK K (by omega)) wk
  · exact iHd_k (kK 43 (by omega)) (kK 44 (by omega)) (fun w => rfl) hd
  · exact iRn_k (kK 11 (by omega)) (kK 102 (by omega)) rn
  · intro k' hk'
    by_cases z : k' = k
    · subst z
      unfold wsI gH gW
      rw [b0, b3, b4, b5, b6, kK 54 (by omega), kK 55 (by omega), kK 56 (by omega)]
      exact ⟨v0, v1, v2, v3, rfl, rfl, rfl⟩
    · exact wsI_congr (hi := hi) (hr := hr) (fun j => same 6 k' j (by omega) (by omega)) (fun K h1 h2 => same K 0 k' (by omega) (by omega)) (fun j => rfl) (ws.1 k' hk')
  · intro k' h1 h2
    rw [same 56 0 k' (by omega) (by omega), same 58 0 k' (by omega) (by omega)]
    exact ws.2 k' h1 h2
  · intro k' hk'
    by_cases z : k' = k
    · subst z
      rcases b57 with y | y
      · rw [y]
        exact iTm_k (by rw [kK 9 (by omega)]) (wt k' hk')
      · obtain ⟨t', ht1, ht2⟩ := n2
        exact ⟨t', t', Nat.le_refl _, ht1, y.trans ht2, by rw [kK 9 (by omega)]; exact ht2⟩
    · rw [same 57 0 k' (by omega) (by omega)]
      exact iTm_k (by rw [kK 9 (by omega)]) (wt k' hk')
  · exact iLk_k (kK 3 (by omega)) (kK 61 (by omega)) (kK 62 (by omega)) (kK 63 (by omega)) (kK 51 (by omega)) (fun w => by rw [kK 7 (by omega)]; exact ⟨rfl, rfl⟩) (fun l => rfl) (fun w => rfl) ⟨lk1, lk2, lk3⟩
theorem st_offer (hnb : ab_n E < 2 ^ 31) (I : inv hi hr cn nR nH nW nV nL) {x y : Int32} : stp E (d + 20) nX7_offer nX8_offer [.inl x, .inl y] hi hr cn := by
  have I' := I
  obtain ⟨⟨fc, fm⟩, ⟨c2, c3, c5, c6, c7, c11⟩, ⟨l0, l1, l2, l3⟩, M, ⟨mu, mf⟩, ⟨n1, n2⟩, ⟨s1, s2, s3, s4, s5⟩, mi, ru, ho, ht, wk, hd, rn, ws, wt, ⟨lk1, lk2, lk3⟩, pp⟩ := I
  have M' := M
  obtain ⟨⟨hcR, hR⟩, ⟨hcH, hH⟩, ⟨hcW, hW⟩, ⟨hcV, hV⟩, ⟨hcL, hL⟩, mh, mw, ma, ms, mo, mt⟩ := M'
  have K : Inv hi hr cn := ⟨nR, nH, nW, nV, nL, I'⟩
  intro Q h
  refine cRw fc ?_
  have ix : ∀ w, w < nW → ab_ix (hi 45 0 w) < 4 ∧ hi 45 0 w = nI (ab_ix (hi 45 0 w)) := fun w hw => ix_of (ms w hw) (by omega)
  have it : ∀ g, g < nH → ab_ix (hi 35 0 g) < 4 ∧ hi 35 0 g = nI (ab_ix (hi 35 0 g)) := fun g hg => ix_of (mt g hg) (by omega)
  have rl : ∀ j, 1 ≤ j → j < 7 → hi 5 (crul hi nR (hi 8 0 8)) j = mrule hi nR (hi 9 0 0) j := fun j h1 h2 => by rw [iRu_at ru _ h1 h2, n1]
  refine c_X7_offer (gh := gH hi) (gw := gW hi) (st := fun k => ab_ix (hi 45 0 (gW hi k))) (tt := fun k => ab_ix (hi 35 0 (gH hi k))) (nr := nR) (nw := nW) hnb hV (by omega) (cLf fc l1) (cLf fc l2) (cLf fc l3) (iRu_rl ru hR) (fun k hk => (ws.1 k hk).2.1) (fun k hk => (ws.1 k hk).2.2.1) (fun k hk => by rw [(rank_eq I' hk).1]; exact (rank_eq I' hk).2) (fun k hk => ?_) (fun k hk => ?_) (fun w k hw e hn hk hy => ?_) (fun w k hw e hn hk hy => ?_) (fun q => ?_)
  · have hw := (gW_of M hk).1
    exact ⟨(ix _ hw).1, (wk.1 _ hw).2.2.2.2.2.1.trans (ix _ hw).2⟩
  · have hg := (gH_of M hk).1
    exact ⟨(it _ hg).1, (ho.1 _ hg).2.1.trans (it _ hg).2⟩
  · have hs : hi 43 0 w = nI 0 := Classical.byContradiction fun z => by
      rw [nxt_none (fun k hk => cand_no I' z hk)] at hn
      cases hn
    have hn' := hn
    rw [nxt_eq I' hw hs] at hn'
    have hc := (nxt_lt hn).2
    have ew : gW hi k = w := by
      unfold cCan at hc
      simp only [Bool.and_eq_true, decide_eq_true_eq, Option.some.injEq] at hc
      exact hc.1.1
    obtain ⟨g1, g2⟩ := gH_of M hk
    rw [ew, rl 4 (by omega) (by omega), ← cR_uR rfl, fc]
    have J := take_inv I' hw hk g1 hs (ix w hw).2 (it _ g1).2 (ix w hw).1 (it _ g1).1
    refine h _ _ _ _ (fun Q' h' => mRw J.1.2 ?_)
    refine c_X8_offer hnb (mok_q cTake_q M) (fun w' k' g' hw' e' hs' hn2 hk' hg' eg hy' => ?_) (fun w' k' hw' e' hs' hn2 hk' hy' => absurd hy' hy) (fun q => ?_)
    · have ew' := (nI_eq (by omega) (by omega)).mp (e'.symm.trans e)
      subst ew'
      rw [mnext_q cTake_q, hn'] at hn2
      cases hn2
      have eg' : g' = gH hi k := by
        rw [cTake_q 54 (by omega), g2] at eg
        exact ((nI_eq (by omega) (by omega)).mp eg).symm
      subst eg'
      rw [J.1.2]
      exact h' _ _ _ ⟨nR, nH, nW, nV, nL, J⟩
    · have := q w hw e (by rw [cTake_q 43 (by omega)]; exact hs)
      rw [mnext_q cTake_q, hn'] at this
      cases this
  · have hs : hi 43 0 w = nI 0 := Classical.byContradiction fun z => by
      rw [nxt_none (fun k hk => cand_no I' z hk)] at hn
      cases hn
    have hn' := hn
    rw [nxt_eq I' hw hs] at hn'
    rw [rl 3 (by omega) (by omega), fc]
    refine h _ _ _ _ (fun Q' h' => mRw fm ?_)
    refine c_X8_offer hnb (mok_q cRefuse_q M) (fun w' k' g' hw' e' hs' hn2 hk' hg' eg hy' => absurd hy hy') (fun w' k' hw' e' hs' hn2 hk' hy' => ?_) (fun q => ?_)
    · have ew' := (nI_eq (by omega) (by omega)).mp (e'.symm.trans e)
      subst ew'
      rw [mnext_q cRefuse_q, hn'] at hn2
      cases hn2
      rw [fm]
      exact h' _ _ _ ⟨nR, nH, nW, nV, nL, refuse_inv I' hk⟩
    · have := q w hw e (by rw [cRefuse_q 43 (by omega)]; exact hs)
      rw [mnext_q cRefuse_q, hn'] at this
      cases this
  · rw [fc]
    refine h _ _ _ _ (fun Q' h' => mRw fm ?_)
    have no : ∀ w, w < nW → x = nI w → hi 43 0 w = nI 0 → mnext hi nR nW w nV = none := fun w hw e hs => by
      rw [← nxt_eq I' hw hs]
      exact q w hw e
    refine c_X8_offer hnb M (fun w' k' g' hw' e' hs' hn2 _ _ _ _ => ?_) (fun w' k' hw' e' hs' hn2 _ _ => ?_) (fun q => ?_)
    · rw [no w' hw' e' hs'] at hn2
      cases hn2
    · rw [no w' hw' e' hs'] at hn2
      cases hn2
    · rw [fm]
      exact h' _ _ _ K
end STEPS6
