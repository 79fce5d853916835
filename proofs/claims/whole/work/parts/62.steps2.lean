theorem ab_uI_at {hi : ab_I} {K i j : Nat} {x : Int32} {i' j' : Nat} : ab_uI hi K i j x K i' j' = if i' = i ∧ j' = j then x else hi K i' j' := by
  by_cases e : i' = i ∧ j' = j
  · obtain ⟨rfl, rfl⟩ := e
    rw [if_pos ⟨rfl, rfl⟩]
    exact ab_uI_e
  · rw [if_neg e]
    unfold ab_uI
    rw [if_pos rfl]
    by_cases e1 : i' = i
    · rw [if_pos e1, if_neg (fun z => e ⟨e1, z⟩)]
    · rw [if_neg e1]
theorem wsI_congr {hi hi' : ab_I} {hr hr' : ab_R} {k : Nat} (e6 : ∀ j, hi' 6 k j = hi 6 k j) (e54 : ∀ K, 54 ≤ K → K ≤ 59 → hi' K 0 k = hi K 0 k) (er : ∀ j, hr' 6 k j = hr 6 k j) (h : wsI hi hr k) : wsI hi' hr' k := by
  unfold wsI gH gW at *
  rw [e6, e6, e6, e6, e6, er, er, e54 54 (by omega) (by omega), e54 55 (by omega) (by omega), e54 56 (by omega) (by omega), e54 57 (by omega) (by omega), e54 58 (by omega) (by omega), e54 59 (by omega) (by omega)]
  exact h
theorem hmI_congr {hi hi' : ab_I} {nW nW' g : Nat} (e2 : ∀ j, hi' 2 g j = hi 2 g j) (e35 : ∀ K, 35 ≤ K → K ≤ 39 → hi' K 0 g = hi K 0 g) (el : ∀ p, mlent hi' (nI g) p nW' = mlent hi (nI g) p nW) (h : hmI hi nW g) : hmI hi' nW' g := by
  unfold hmI at *
  rw [e2, e2, e2, e2, e2, e2, e2, e2, el, el, e35 35 (by omega) (by omega), e35 36 (by omega) (by omega), e35 37 (by omega) (by omega), e35 38 (by omega) (by omega), e35 39 (by omega) (by omega)]
  exact h
theorem wkI_congr {hi hi' : ab_I} {w : Nat} (e7 : ∀ j, j ≤ 12 → hi' 7 w j = hi 7 w j) (e41 : ∀ K, 41 ≤ K → K ≤ 50 → hi' K 0 w = hi K 0 w) (h : wkI hi w) : wkI hi' w := by
  unfold wkI at *
  rw [e7 0 (by omega), e7 1 (by omega), e7 2 (by omega), e7 3 (by omega), e7 5 (by omega), e7 6 (by omega), e7 7 (by omega), e7 8 (by omega), e7 10 (by omega), e7 11 (by omega), e7 12 (by omega), e41 41 (by omega) (by omega), e41 42 (by omega) (by omega), e41 43 (by omega) (by omega), e41 45 (by omega) (by omega), e41 46 (by omega) (by omega), e41 47 (by omega) (by omega), e41 48 (by omega) (by omega), e41 49 (by omega) (by omega), e41 50 (by omega) (by omega)]
  exact h
theorem hdI_congr {hi hi' : ab_I} {hr hr' : ab_R} {nH w : Nat} (e43 : hi' 43 0 w = hi 43 0 w) (e44 : hi' 44 0 w = hi 44 0 w) (er : hr' 7 w 9 = hr 7 w 9) (h : hdI hi hr nH w) : hdI hi' hr' nH w := by
  unfold hdI at *
  rw [e43, e44, er]
  exact h
theorem mlent_congr {hi hi' : ab_I} {x : Int32} {p : Bool} {nW : Nat} (e : ∀ w, w < nW → hi' 42 0 w = hi 42 0 w ∧ hi' 43 0 w = hi 43 0 w ∧ hi' 44 0 w = hi 44 0 w) : mlent hi' x p nW = mlent hi x p nW := sumI_congr (fun w hw => by
  obtain ⟨e1, e2, e3⟩ := e w hw
  rw [e1, e2, e3])
theorem lkP_congr {hi hi' : ab_I} {x : Int32} {n : Nat} (e : ∀ l, l < n → hi' 61 0 l = hi 61 0 l) : lkP hi' x n = lkP hi x n := lst_congr (fun l hl => by rw [e l hl])
section STEPS2
variable {E : ab_E} {d : Nat} {hi : ab_I} {hr : ab_R} {cn : ab_C} {nR nH nW nV nL : Nat}
theorem st_far (hnb : ab_n E < 2 ^ 31) (I : inv hi hr cn nR nH nW nV nL) {a b x : Int32} : stp E (d + 20) nX7_far nX8_far [.inl a, .inl b, .inl x] hi hr cn := by
  have I' := I
  obtain ⟨⟨fc, fm⟩, ⟨c2, c3, c5, c6, c7, c11⟩, ⟨l0, l1, l2, l3⟩, M, ⟨mu, mf⟩, ⟨n1, n2⟩, ⟨s1, s2, s3, s4, s5⟩, mi, ru, ho, ht, wk, hd, rn, ws, wt, ⟨lk1, lk2, lk3⟩, pp⟩ := I
  have M' := M
  obtain ⟨⟨hcR, hR⟩, ⟨hcH, hH⟩, ⟨hcW, hW⟩, ⟨hcV, hV⟩, ⟨hcL, hL⟩, mh, mw, ma, ms, mo, mt⟩ := M'
  have K : Inv hi hr cn := ⟨nR, nH, nW, nV, nL, I'⟩
  intro Q h
  refine cRw fc ?_
  refine c_X7_far hnb (fun q => ?_) (fun q => ?_)
  · rw [fc]
    refine h _ _ _ _ (fun Q' h' => mRw fm ?_)
    refine c_X8_far hnb (fun _ => ?_) (fun q' => absurd q q')
    rw [fm]
    refine h' _ _ _ ⟨nR, nH, nW, nV, nL, ⟨fc, fm⟩, ⟨c2, c3, c5, c6, c7, c11⟩, ⟨l0, l1, l2, l3⟩, M, ⟨mu, ?_⟩, ⟨n1, n2⟩, ⟨s1, s2, s3, s4, s5⟩, ?_, ru, ho, ht, wk, hd, rn, ws, wt, ⟨lk1, lk2, lk3⟩, pp⟩
    · intro a' b' ha hb
      obtain ⟨m, hm, em⟩ := ab_rngK (n := 500) (by omega) q.2.2.2.1 q.2.2.2.2
      unfold mFar
      rw [ab_uI_at, ab_uI_at]
      split
      · exact ⟨m, hm, em⟩
      · split
        · exact ⟨m, hm, em⟩
        · exact mf a' b' ha hb
    · intro a' b' ha hb
      have e1 : mFar (cFar hi a b x) a b x 13 a' b' = cFar hi a b x 13 a' b' := rfl
      have e2 : cFar hi a b x 81 a' b' = hi 81 a' b' := rfl
      rw [e1]
      unfold mFar
      rw [ab_uI_at, ab_uI_at, e2]
      unfold cFar
      rw [ab_uI_at, ab_uI_at, mi a' b' ha hb]
  · rw [fc]
    refine h _ _ _ _ (fun Q' h' => mRw fm ?_)
    refine c_X8_far hnb (fun q' => absurd q' q) (fun _ => ?_)
    rw [fm]
    exact h' _ _ _ K
theorem st_go (hnb : ab_n E < 2 ^ 31) (I : inv hi hr cn nR nH nW nV nL) {x : Int32} : stp E (d + 20) nX7_go nX8_go [.inl x] hi hr cn := by
  have I' := I
  obtain ⟨⟨fc, fm⟩, ⟨c2, c3, c5, c6, c7, c11⟩, ⟨l0, l1, l2, l3⟩, M, ⟨mu, mf⟩, ⟨n1, n2⟩, ⟨s1, s2, s3, s4, s5⟩, mi, ru, ho, ht, wk, hd, rn, ws, wt, ⟨lk1, lk2, lk3⟩, pp⟩ := I
  have M' := M
  obtain ⟨⟨hcR, hR⟩, ⟨hcH, hH⟩, ⟨hcW, hW⟩, ⟨hcV, hV⟩, ⟨hcL, hL⟩, mh, mw, ma, ms, mo, mt⟩ := M'
  have K : Inv hi hr cn := ⟨nR, nH, nW, nV, nL, I'⟩
  intro Q h
  refine cRw fc ?_
  refine c_X7_go hnb (fun q => ?_) (fun q => ?_)
  · have e1 : cGo hi x = mGo (ab_uI hi 8 0 8 (cGo hi x)) x := by
      have e2 : mGo (ab_uI hi 8 0 8 (cGo hi x)) x = mGo hi x := rfl
      rw [e2]
      unfold cGo mGo
      rw [n1]
    obtain ⟨t, ht1, ht2⟩ := n2
    obtain ⟨m, hm, em⟩ := ab_rngK (n := 1000) (by omega) q.1 q.2
    have e3 : ∃ u, t ≤ u ∧ u ≤ 20000 ∧ mGo (ab_uI hi 8 0 8 (cGo hi x)) x = nI u := by
      have e2 : mGo (ab_uI hi 8 0 8 (cGo hi x)) x = mGo hi x := rfl
      rw [e2]
      unfold mGo
      rw [ht2, em, nI_add]
      by_cases z : t + m < 20000
      · rw [if_pos (nI_lt z (by omega))]
        exact ⟨t + m, by omega, by omega, rfl⟩
      · rw [if_neg (fun y => z ((nI_ltI (by omega) (by omega)).mp y))]
        exact ⟨20000, by omega, by omega, rfl⟩
    obtain ⟨u, hu1, hu2, hu3⟩ := e3
    rw [fc]
    refine h _ _ _ _ (fun Q' h' => mRw fm ?_)
    refine c_X8_go hnb (fun _ => ?_) (fun q' => absurd q q')
    rw [fm, ← e1]
    rw [← e1] at hu3
    have tm : ∀ y, iTm hi y → iTm (ab_uI (ab_uI hi 8 0 8 (cGo hi x)) 9 0 0 (cGo hi x)) y := fun y ⟨a, b, h1, h2, h3, h4⟩ => by
      have eb : b = t := (nI_eq (by omega) (by omega)).mp (h4.symm.trans ht2)
      exact ⟨a, u, by omega, hu2, h3, hu3⟩
    exact h' _ _ _ ⟨nR, nH, nW, nV, nL, ⟨fc, fm⟩, ⟨c2, c3, c5, c6, c7, c11⟩, ⟨l0, l1, l2, l3⟩, M, ⟨mu, mf⟩, ⟨rfl, u, hu2, hu3⟩, ⟨s1, s2, s3, s4, s5⟩, mi, ru, ho, fun g hg => tm _ (ht g hg), wk, hd, rn, ws, fun k hk => tm _ (wt k hk), ⟨lk1, lk2, lk3⟩, pp⟩
  · rw [fc]
    refine h _ _ _ _ (fun Q' h' => mRw fm ?_)
    refine c_X8_go hnb (fun q' => absurd q' q) (fun _ => ?_)
    rw [fm]
    exact h' _ _ _ K
theorem st_unwish (hnb : ab_n E < 2 ^ 31) (I : inv hi hr cn nR nH nW nV nL) {x : Int32} : stp E (d + 20) nX7_unwish nX8_unwish [.inl x] hi hr cn := by
  have I' := I
  obtain ⟨⟨fc, fm⟩, ⟨c2, c3, c5, c6, c7, c11⟩, ⟨l0, l1, l2, l3⟩, M, ⟨mu, mf⟩, ⟨n1, n2⟩, ⟨s1, s2, s3, s4, s5⟩, mi, ru, ho, ht, wk, hd, rn, ws, wt, ⟨lk1, lk2, lk3⟩, pp⟩ := I
  have M' := M
  obtain ⟨⟨hcR, hR⟩, ⟨hcH, hH⟩, ⟨hcW, hW⟩, ⟨hcV, hV⟩, ⟨hcL, hL⟩, mh, mw, ma, ms, mo, mt⟩ := M'
  have K : Inv hi hr cn := ⟨nR, nH, nW, nV, nL, I'⟩
  intro Q h
  refine cRw fc ?_
  refine c_X7_unwish hnb hV (cLf fc l2) (fun k hk e q => ?_) (fun q => ?_)
  · rw [fc]
    refine h _ _ _ _ (fun Q' h' => mRw fm ?_)
    refine c_X8_unwish (hi := ab_uI hi 6 k 3 (nI 2)) hnb M (fun k' hk' e' q' => ?_) (fun q' => absurd ((ws.1 k hk).2.2.2.1.symm.trans q) (q' k hk e))
    have ek := (nI_eq (by omega) (by omega)).mp (e'.symm.trans e)
    subst ek
    rw [fm]
    refine h' _ _ _ ⟨nR, nH, nW, nV, nL, ⟨fc, fm⟩, ⟨c2, c3, c5, c6, c7, c11⟩, ⟨l0, l1, l2, l3⟩, M, ⟨?_, mf⟩, ⟨n1, n2⟩, ⟨s1, s2, s3, s4, s5⟩, mi, ru, ho, ht, wk, hd, rn, ⟨?_, ?_⟩, wt, ⟨lk1, lk2, lk3⟩, pp⟩
    · intro a b ha hb h1 h2 h3 h4
      have e1 : ∀ a, ab_uI (ab_uI hi 6 k' 3 (nI 2)) 56 0 k' (nI 2) 56 0 a = nI 0 → hi 56 0 a = nI 0 := fun a z => by
        rw [ab_uI_at] at z
        split at z
        · exact absurd z (by decide)
        · exact z
      exact mu a b ha hb (e1 a h1) (e1 b h2) h3 h4
    · intro a ha
      by_cases z : a = k'
      · subst z
        obtain ⟨w0, w1, w2, w3, w4, w5, w6⟩ := ws.1 a ha
        refine ⟨?_, w1, w2, ?_, ?_, ?_, ?_⟩
        · show ab_uI hi 6 a 3 (nI 2) 6 a 0 = _
          rw [ab_uI_j (by omega)]
          exact w0
        · show ab_uI hi 6 a 3 (nI 2) 6 a 3 = _
          rw [ab_uI_e, ab_uI_e]
        · show ab_uI hi 6 a 3 (nI 2) 6 a 4 = hi 57 0 a
          rw [ab_uI_j (by omega)]
          exact w4
        · show ab_uI hi 6 a 3 (nI 2) 6 a 5 = hi 58 0 a
          rw [ab_uI_j (by omega)]
          exact w5
        · show ab_uI hi 6 a 3 (nI 2) 6 a 6 = hi 59 0 a
          rw [ab_uI_j (by omega)]
          exact w6
      · refine wsI_congr (hi := hi) (hr := hr) (fun j => ?_) (fun K h1 h2 => ?_) (fun j => rfl) (ws.1 a ha)
        · rw [ab_uI_k (by omega), ab_uI_i z]
        · rw [ab_uI_j z, ab_uI_k (by omega)]
    · intro a h1 h2
      rw [ab_uI_j (by omega)]
      exact ws.2 a h1 h2
  · rw [fc]
    refine h _ _ _ _ (fun Q' h' => mRw fm ?_)
    refine c_X8_unwish hnb M (fun k hk e q' => absurd ((ws.1 k hk).2.2.2.1.trans q') (q k hk e)) (fun q' => ?_)
    rw [fm]
    exact h' _ _ _ K
theorem st_pay (hnb : ab_n E < 2 ^ 31) (I : inv hi hr cn nR nH nW nV nL) {x m : Int32} : stp E (d + 20) nX7_pay nX8_pay [.inl x, .inl m] hi hr cn := by
  have I' := I
  obtain ⟨⟨fc, fm⟩, ⟨c2, c3, c5, c6, c7, c11⟩, ⟨l0, l1, l2, l3⟩, M, ⟨mu, mf⟩, ⟨n1, n2⟩, ⟨s1, s2, s3, s4, s5⟩, mi, ru, ho, ht, wk, hd, rn, ws, wt, ⟨lk1, lk2, lk3⟩, pp⟩ := I
  have M' := M
  obtain ⟨⟨hcR, hR⟩, ⟨hcH, hH⟩, ⟨hcW, hW⟩, ⟨hcV, hV⟩, ⟨hcL, hL⟩, mh, mw, ma, ms, mo, mt⟩ := M'
  have K : Inv hi hr cn := ⟨nR, nH, nW, nV, nL, I'⟩
  intro Q h
  refine cRw fc ?_
  refine c_X7_pay (n := nH) hnb (by omega) (cLf fc l0) (fun g hg e q1 q2 => ?_) (fun q => ?_)
  · have e6 := (ho.1 g hg).2.2.2.2.2.2.1
    rw [fc]
    refine h _ _ _ _ (fun Q' h' => mRw fm ?_)
    refine c_X8_pay (hi := ab_uI hi 2 g 6 (hi 2 g 6 - m)) hnb M (fun g' hg' e' q1' q2' => ?_) (fun q' => absurd ⟨q1, by rw [ab_uI_k (by omega), ← e6]; exact q2⟩ (q' g hg e))
    have eg := (nI_eq (by omega) (by omega)).mp (e'.symm.trans e)
    subst eg
    have ev : ab_uI hi 2 g' 6 (hi 2 g' 6 - m) 38 0 g' - m = hi 2 g' 6 - m := by
      rw [ab_uI_k (by omega), e6]
    rw [fm, ev]
    refine h' _ _ _ ⟨nR, nH, nW, nV, nL, ⟨fc, fm⟩, ⟨c2, c3, c5, c6, c7, c11⟩, ⟨l0, l1, l2, l3⟩, M, ⟨mu, mf⟩, ⟨n1, n2⟩, ⟨s1, s2, s3, s4, s5⟩, mi, ru, ⟨?_, ?_⟩, ht, wk, hd, rn, ws, wt, ⟨lk1, lk2, lk3⟩, pp⟩
    · intro a ha
      by_cases z : a = g'
      · subst z
        obtain ⟨w0, w1, w2, w3, w4, w5, w6, w7⟩ := ho.1 a ha
        refine ⟨?_, ?_, ?_, ?_, ?_, ?_, ?_, ?_⟩
        · show ab_uI hi 2 a 6 _ 2 a 0 = _
          rw [ab_uI_j (by omega)]
          exact w0
        · show ab_uI hi 2 a 6 _ 2 a 1 = hi 35 0 a
          rw [ab_uI_j (by omega)]
          exact w1
        · show ab_uI hi 2 a 6 _ 2 a 2 = hi 36 0 a
          rw [ab_uI_j (by omega)]
          exact w2
        · show ab_uI hi 2 a 6 _ 2 a 3 = hi 37 0 a
          rw [ab_uI_j (by omega)]
          exact w3
        · show ab_uI hi 2 a 6 _ 2 a 4 = mlent hi (nI a) true nW
          rw [ab_uI_j (by omega)]
          exact w4
        · show ab_uI hi 2 a 6 _ 2 a 5 = mlent hi (nI a) false nW
          rw [ab_uI_j (by omega)]
          exact w5
        · show ab_uI hi 2 a 6 _ 2 a 6 = _
          rw [ab_uI_e, ab_uI_e]
        · show ab_uI hi 2 a 6 _ 2 a 7 = hi 39 0 a
          rw [ab_uI_j (by omega)]
          exact w7
      · refine hmI_congr (hi := hi) (nW := nW) (fun j => ?_) (fun K h1 h2 => ?_) (fun p => rfl) (ho.1 a ha)
        · rw [ab_uI_k (by omega), ab_uI_i z]
        · rw [ab_uI_j z, ab_uI_k (by omega)]
    · intro a h1 h2
      rw [ab_uI_j (by omega)]
      exact ho.2 a h1 h2
  · rw [fc]
    refine h _ _ _ _ (fun Q' h' => mRw fm ?_)
    refine c_X8_pay hnb M (fun g hg e q1 q2 => absurd ⟨q1, by rw [(ho.1 g hg).2.2.2.2.2.2.1]; exact q2⟩ (q g hg e)) (fun q' => ?_)
    rw [fm]
    exact h' _ _ _ K
end STEPS2
