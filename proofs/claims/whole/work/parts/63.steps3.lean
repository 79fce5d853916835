theorem cL_congr {hi hi' : ab_I} {hr hr' : ab_R} {cn cn' : ab_C} {k n : Nat} {el : Nat → Nat × Nat} (e1 : hi' 0 k 2 = hi 0 k 2) (e2 : hr' 0 k 1 = hr 0 k 1) (e3 : ∀ g j, hr' (17 + k) g j = hr (17 + k) g j) (e4 : cn' (17 + k) = cn (17 + k)) (h : cL hi hr cn k n el) : cL hi' hr' cn' k n el := by
  unfold cL at *
  rw [e1, e2, e4]
  simp only [e3]
  exact h
theorem iRu_k {hi hi' : ab_I} {nR : Nat} (e5 : hi' 5 = hi 5) (e82 : hi' 82 = hi 82) (e34 : hi' 34 = hi 34) (h : iRu hi nR) : iRu hi' nR := by
  unfold iRu rlI at *
  rw [e5, e82, e34]
  exact h
theorem iSum_k {hi hi' : ab_I} (e8 : ∀ j, 9 ≤ j → hi' 8 0 j = hi 8 0 j) (e9 : ∀ j, 34 ≤ j → j < 40 → hi' 9 0 j = hi 9 0 j) (e10 : hi' 10 = hi 10) (e65 : hi' 65 = hi 65) (h : iSum hi) : iSum hi' := by
  unfold iSum at *
  rw [e8 9 (by omega), e8 10 (by omega), e8 11 (by omega), e8 12 (by omega), e9 34 (by omega) (by omega), e9 36 (by omega) (by omega), e9 37 (by omega) (by omega), e9 38 (by omega) (by omega), e10, e65]
  exact h
theorem iTm_k {hi hi' : ab_I} {x : Int32} (e : hi' 9 0 0 = hi 9 0 0) (h : iTm hi x) : iTm hi' x := by
  unfold iTm at *
  rw [e]
  exact h
theorem iRn_k {hi hi' : ab_I} {nW : Nat} (e1 : hi' 11 = hi 11) (e2 : hi' 102 = hi 102) (h : iRn hi nW) : iRn hi' nW := by
  unfold iRn at *
  rw [e1, e2]
  exact h
theorem iWk_k {hi hi' : ab_I} {nW : Nat} (e7 : hi' 7 = hi 7) (e : ∀ K, 41 ≤ K → K ≤ 50 → hi' K = hi K) (h : iWk hi nW) : iWk hi' nW := by
  unfold iWk wkI at *
  rw [e7, e 41 (by omega) (by omega), e 42 (by omega) (by omega), e 43 (by omega) (by omega), e 45 (by omega) (by omega), e 46 (by omega) (by omega), e 47 (by omega) (by omega), e 48 (by omega) (by omega), e 49 (by omega) (by omega), e 50 (by omega) (by omega)]
  exact h
theorem iHd_k {hi hi' : ab_I} {hr hr' : ab_R} {nH nW : Nat} (e43 : hi' 43 = hi 43) (e44 : hi' 44 = hi 44) (er : ∀ w, hr' 7 w 9 = hr 7 w 9) (h : iHd hi hr nH nW) : iHd hi' hr' nH nW := fun w hw => hdI_congr (by rw [e43]) (by rw [e44]) (er w) (h w hw)
theorem iWs_k {hi hi' : ab_I} {hr hr' : ab_R} {nV : Nat} (e6 : hi' 6 = hi 6) (e : ∀ K, 54 ≤ K → K ≤ 59 → hi' K = hi K) (er : ∀ i j, hr' 6 i j = hr 6 i j) (h : iWs hi hr nV) : iWs hi' hr' nV := ⟨fun k hk => wsI_congr (fun j => by rw [e6]) (fun K h1 h2 => by rw [e K h1 h2]) (fun j => er k j) (h.1 k hk), by
  have := h.2
  rw [← e 56 (by omega) (by omega), ← e 58 (by omega) (by omega)] at this
  exact this⟩
theorem lkI_congr {hi hi' : ab_I} {hr hr' : ab_R} {nW nW' l : Nat} (hn : nW ≤ nW') (e3 : ∀ j, hi' 3 l j = hi 3 l j) (e61 : ∀ l', l' ≤ l → hi' 61 0 l' = hi 61 0 l') (e62 : hi' 62 0 l = hi 62 0 l) (e63 : hi' 63 0 l = hi 63 0 l) (er : hr' 3 l 2 = hr 3 l 2) (h : lkI hi hr nW l) : lkI hi' hr' nW' l := by
  unfold lkI at *
  rw [e3, e3, e62, e63, er, e61 l (by omega), lkP_congr (hi := hi) (fun l' hl => e61 l' (by omega))]
  obtain ⟨⟨w, h1, h2⟩, h3⟩ := h
  exact ⟨⟨w, by omega, h2⟩, h3⟩
theorem lwI_congr {hi hi' : ab_I} {hr hr' : ab_R} {nL w : Nat} (e13 : hi' 7 w 13 = hi 7 w 13) (e15 : hi' 7 w 15 = hi 7 w 15) (e61 : ∀ l, l < nL → hi' 61 0 l = hi 61 0 l) (e51 : hi' 51 0 w = hi 51 0 w) (er : hr' 7 w 14 = hr 7 w 14) (h : lwI hi hr nL w) : lwI hi' hr' nL w := by
  have e : mLooks hi' w nL = mLooks hi w nL := sumI_congr (fun l hl => by rw [e61 l hl])
  unfold lwI at *
  rw [e13, e15, e51, er, e, lkP_congr (hi := hi) e61]
  exact h
theorem iLk_k {hi hi' : ab_I} {hr hr' : ab_R} {nW nL : Nat} (e3 : hi' 3 = hi 3) (e61 : hi' 61 = hi 61) (e62 : hi' 62 = hi 62) (e63 : hi' 63 = hi 63) (e51 : hi' 51 = hi 51) (e7 : ∀ w, hi' 7 w 13 = hi 7 w 13 ∧ hi' 7 w 15 = hi 7 w 15) (er3 : ∀ l, hr' 3 l 2 = hr 3 l 2) (er7 : ∀ w, hr' 7 w 14 = hr 7 w 14) (h : iLk hi hr nW nL) : iLk hi' hr' nW nL := ⟨fun l hl => lkI_congr (Nat.le_refl _) (fun j => by rw [e3]) (fun l' _ => by rw [e61]) (by rw [e62]) (by rw [e63]) (er3 l) (h.1 l hl), fun w hw => lwI_congr (e7 w).1 (e7 w).2 (fun l _ => by rw [e61]) (by rw [e51]) (er7 w) (h.2.1 w hw), by
  have := h.2.2
  rw [← e51] at this
  exact this⟩
theorem plP_k {hr hr' : ab_R} (e : ∀ p, hr' 14 0 p = hr 14 0 p) (h : ∃ s, plP hr s) : ∃ s, plP hr' s := by
  obtain ⟨s, h1, h2⟩ := h
  exact ⟨s, fun p hp => ⟨(h1 p hp).1, (e p).trans (h1 p hp).2⟩, h2⟩
theorem cHome_at {hi : ab_I} {g : Nat} {n t l day : Int32} : cHome hi g n t l day 2 g 0 = n ∧ cHome hi g n t l day 2 g 1 = t ∧ cHome hi g n t l day 2 g 2 = l ∧ cHome hi g n t l day 2 g 3 = day ∧ cHome hi g n t l day 2 g 4 = nI 0 ∧ cHome hi g n t l day 2 g 5 = nI 0 ∧ cHome hi g n t l day 2 g 6 = nI 0 ∧ cHome hi g n t l day 2 g 7 = nI 0 := by
  simp [cHome, ab_uI]
theorem cHome_i {hi : ab_I} {g i j : Nat} {n t l day : Int32} (h : i ≠ g) : cHome (ab_zI hi 2 g) g n t l day 2 i j = hi 2 i j := by
  unfold cHome
  rw [ab_uI_i h, ab_uI_i h, ab_uI_i h, ab_uI_i h, ab_uI_i h, ab_uI_i h, ab_uI_i h, ab_uI_i h, ab_zI_i h]
theorem cHome_k {hi : ab_I} {g K i j : Nat} {n t l day : Int32} (h : K ≠ 2) : cHome (ab_zI hi 2 g) g n t l day K i j = hi K i j := by
  unfold cHome
  rw [ab_uI_k h, ab_uI_k h, ab_uI_k h, ab_uI_k h, ab_uI_k h, ab_uI_k h, ab_uI_k h, ab_uI_k h, ab_zI_k h]
section STEPS3
variable {E : ab_E} {d : Nat} {hi : ab_I} {hr : ab_R} {cn : ab_C} {nR nH nW nV nL : Nat}
theorem st_home (hnb : ab_n E < 2 ^ 31) (I : inv hi hr cn nR nH nW nV nL) {t l : Int32} : stp E (d + 20) nX7_home nX8_home [.inl t, .inl l] hi hr cn := by
  have I' := I
  obtain ⟨⟨fc, fm⟩, ⟨c2, c3, c5, c6, c7, c11⟩, ⟨l0, l1, l2, l3⟩, M, ⟨mu, mf⟩, ⟨n1, n2⟩, ⟨s1, s2, s3, s4, s5⟩, mi, ru, ho, ht, wk, hd, rn, ws, wt, ⟨lk1, lk2, lk3⟩, pp⟩ := I
  have M' := M
  obtain ⟨⟨hcR, hR⟩, ⟨hcH, hH⟩, ⟨hcW, hW⟩, ⟨hcV, hV⟩, ⟨hcL, hL⟩, mh, mw, ma, ms, mo, mt⟩ := M'
  have K : Inv hi hr cn := ⟨nR, nH, nW, nV, nL, I'⟩
  intro Q h
  refine cRw fc ?_
  refine c_X7_home (n := nH) hnb hH (cLf fc l0) c2 (fun q hi' hr' cn' a cl => ?_) (fun q => ?_)
  · rw [← cR_zR rfl, fc] at a
    obtain ⟨a1, a2, a3⟩ := a
    have hK : ∀ K i j, K ≠ 0 → K ≠ 17 → K ≠ 2 → hi' K i j = hi K i j := fun K i j z1 z2 z3 => (a1 K i j (fun z => z1 z.1) z2).trans (cHome_k z3)
    have rK : ∀ K i j, K ≠ 0 → K ≠ 17 → K ≠ 2 → hr' K i j = hr K i j := fun K i j z1 z2 z3 => (a2 K i j (fun z => z1 z.1) z2).trans (ab_zR_k z3)
    have fc' : cR hr' = hr' := cR_fix fc (fun K i j z => rK K i j (by rintro rfl; cases z) (by rintro rfl; cases z) (by rintro rfl; cases z))
    have fm' : mR hr' = hr' := mR_fix fm (fun K i j z => rK K i j (by rintro rfl; cases z) (by rintro rfl; cases z) (by rintro rfl; cases z))
    have h9 : ∀ j, hi' 9 0 j = hi 9 0 j := fun j => hK 9 0 j (by omega) (by omega) (by omega)
    have M1 : mok hi' nR nH nW nV nL := by
      unfold mok
      rw [h9, h9, h9, h9, h9]
      refine ⟨⟨hcR, hR⟩, ⟨hcH, hH⟩, ⟨hcW, hW⟩, ⟨hcV, hV⟩, ⟨hcL, hL⟩, ?_, ?_, ?_, ?_, ?_, ?_⟩
      · exact fun k hk => by rw [hK 54 0 k (by omega) (by omega) (by omega)]; exact mh k hk
      · exact fun k hk => by rw [hK 55 0 k (by omega) (by omega) (by omega)]; exact mw k hk
      · exact fun k hk => by rw [hK 41 0 k (by omega) (by omega) (by omega)]; exact ma k hk
      · exact fun k hk => by rw [hK 45 0 k (by omega) (by omega) (by omega)]; exact ms k hk
      · exact fun k hk => by rw [hK 43 0 k (by omega) (by omega) (by omega), hK 44 0 k (by omega) (by omega) (by omega)]; exact mo k hk
      · exact fun k hk => by rw [hK 35 0 k (by omega) (by omega) (by omega)]; exact mt k hk
    refine h _ _ _ _ (fun Q' h' => mRw fm' ?_)
    refine c_X8_home hnb M1 (fun _ => ?_) (fun q' => absurd q q')
    rw [fm']
    generalize eh : mHome hi' nH t l = hi2
    have k2 : ∀ K, K ≠ 0 → K ≠ 17 → K ≠ 2 → K ≠ 9 → K ≠ 35 → K ≠ 36 → K ≠ 37 → hi2 K = hi K := fun K z1 z2 z3 z4 z5 z6 z7 => by
      funext i j
      rw [← eh]
      unfold mHome
      rw [ab_uI_k z4, ab_uI_k z7, ab_uI_k z6, ab_uI_k z5]
      exact hK K i j z1 z2 z3
    have k9 : ∀ j, j ≠ 10 → hi2 9 0 j = hi 9 0 j := fun j z => by
      rw [← eh]
      unfold mHome
      rw [ab_uI_j z]
      exact h9 j
    have k910 : hi2 9 0 10 = nI (nH + 1) := by rw [← eh]; exact ab_uI_e
    have k35 : ∀ K, 35 ≤ K → K ≤ 39 → ∀ g, g ≠ nH → hi2 K 0 g = hi K 0 g := fun K z1 z2 g z => by
      rw [← eh]
      unfold mHome
      rw [ab_uI_k (by omega), ab_uI_j z, ab_uI_j z, ab_uI_j z]
      exact hK K 0 g (by omega) (by omega) (by omega)
    have h2i : ∀ g, g ≠ nH → ∀ j, hi2 2 g j = hi 2 g j := fun g z j => by
      rw [← eh]
      exact (a1 2 g j (by omega) (by omega)).trans (cHome_i z)
    have h2n : ∀ j, hi2 2 nH j = cHome (ab_zI hi 2 nH) nH (nI nH) t l (hi 8 0 8) 2 nH j := fun j => by
      rw [← eh]
      exact a1 2 nH j (by omega) (by omega)
    have hlt : nH < 20 := q.2.2
    have e8 : hi2 8 = hi 8 := k2 8 (by omega) (by omega) (by omega) (by omega) (by omega) (by omega) (by omega)
    refine h' _ _ _ ⟨nR, nH + 1, nW, nV, nL, ⟨fc', fm'⟩, ?_, ?_, ?_, ⟨?_, ?_⟩, ?_, ?_, ?_, ?_, ⟨?_, ?_⟩, ?_, ?_, ?_, ?_, ?_, ?_, ?_, ?_⟩
    · refine ⟨(a3 2 (by omega)).trans ab_uC_e, ?_, ?_, ?_, ?_, ?_⟩
      · rw [a3 3 (by omega), ab_uC_k (by omega)]; exact c3
      · rw [a3 5 (by omega), ab_uC_k (by omega)]; exact c5
      · rw [a3 6 (by omega), ab_uC_k (by omega)]; exact c6
      · rw [a3 7 (by omega), ab_uC_k (by omega)]; exact c7
      · rw [a3 11 (by omega), ab_uC_k (by omega)]; exact c11
    · have e0 : ∀ k, k ≠ 0 → hi2 0 k 2 = hi 0 k 2 := fun k z => by
        rw [← eh]
        exact (a1 0 k 2 (fun y => z y.2) (by omega)).trans (cHome_k (by omega))
      have r0 : ∀ k, k ≠ 0 → hr' 0 k 1 = hr 0 k 1 := fun k z => (a2 0 k 1 (fun y => z y.2) (by omega)).trans (ab_zR_k (by omega))
      have r1 : ∀ k, k ≠ 0 → ∀ g j, hr' (17 + k) g j = hr (17 + k) g j := fun k z g j => rK (17 + k) g j (by omega) (by omega) (by omega)
      have r2 : ∀ k, k ≠ 0 → cn' (17 + k) = cn (17 + k) := fun k z => (a3 (17 + k) (by omega)).trans (ab_uC_k (by omega))
      have e00 : hi2 0 0 2 = hi' 0 0 2 := by rw [← eh]; rfl
      exact ⟨cL_congr e00 rfl (fun _ _ => rfl) rfl cl, cL_congr (e0 1 (by omega)) (r0 1 (by omega)) (r1 1 (by omega)) (r2 1 (by omega)) l1, cL_congr (e0 2 (by omega)) (r0 2 (by omega)) (r1 2 (by omega)) (r2 2 (by omega)) l2, cL_congr (e0 3 (by omega)) (r0 3 (by omega)) (r1 3 (by omega)) (r2 3 (by omega)) l3⟩
    · unfold mok
      rw [k9 3 (by omega), k910, k9 23 (by omega), k9 30 (by omega), k9 34 (by omega), k2 54 (by omega) (by omega) (by omega) (by omega) (by omega) (by omega) (by omega), k2 55 (by omega) (by omega) (by omega) (by omega) (by omega) (by omega) (by omega), k2 41 (by omega) (by omega) (by omega) (by omega) (by omega) (by omega) (by omega), k2 45 (by omega) (by omega) (by omega) (by omega) (by omega) (by omega) (by omega), k2 43 (by omega) (by omega) (by omega) (by omega) (by omega) (by omega) (by omega), k2 44 (by omega) (by omega) (by omega) (by omega) (by omega) (by omega) (by omega)]
      refine ⟨⟨hcR, hR⟩, ⟨rfl, hlt⟩, ⟨hcW, hW⟩, ⟨hcV, hV⟩, ⟨hcL, hL⟩, ?_, mw, ma, ms, ?_, ?_⟩
      · exact fun k hk => by obtain ⟨g, h1, h2⟩ := mh k hk; exact ⟨g, by omega, h2⟩
      · exact fun k hk z => by obtain ⟨g, h1, h2⟩ := mo k hk z; exact ⟨g, by omega, h2⟩
      · intro g hg
        by_cases z : g = nH
        · subst z
          obtain ⟨m, hm, em⟩ := ab_rngK (n := 3) (by omega) q.1.1 q.1.2
          refine ⟨m, by omega, ?_⟩
          rw [← eh, ← em]
          unfold mHome
          rw [ab_uI_k (by omega), ab_uI_k (by omega), ab_uI_k (by omega), ab_uI_e]
        · rw [k35 35 (by omega) (by omega) g z]
          exact mt g (by omega)
    · unfold mU
      rw [k2 54 (by omega) (by omega) (by omega) (by omega) (by omega) (by omega) (by omega), k2 55 (by omega) (by omega) (by omega) (by omega) (by omega) (by omega) (by omega), k2 56 (by omega) (by omega) (by omega) (by omega) (by omega) (by omega) (by omega)]
      exact mu
    · unfold mF
      rw [k2 81 (by omega) (by omega) (by omega) (by omega) (by omega) (by omega) (by omega)]
      exact mf
    · unfold iNow
      rw [e8, k9 0 (by omega)]
      exact ⟨n1, n2⟩
    · exact iSum_k (fun j _ => by rw [e8]) (fun j h1 _ => k9 j (by omega)) (k2 10 (by omega) (by omega) (by omega) (by omega) (by omega) (by omega) (by omega)) (k2 65 (by omega) (by omega) (by omega) (by omega) (by omega) (by omega) (by omega)) ⟨s1, s2, s3, s4, s5⟩
    · unfold iMi
      rw [k2 13 (by omega) (by omega) (by omega) (by omega) (by omega) (by omega) (by omega), k2 81 (by omega) (by omega) (by omega) (by omega) (by omega) (by omega) (by omega)]
      exact mi
    · exact iRu_k (k2 5 (by omega) (by omega) (by omega) (by omega) (by omega) (by omega) (by omega)) (k2 82 (by omega) (by omega) (by omega) (by omega) (by omega) (by omega) (by omega)) (k2 34 (by omega) (by omega) (by omega) (by omega) (by omega) (by omega) (by omega)) ru
    · have el : ∀ x p, mlent hi2 x p nW = mlent hi x p nW := fun x p => mlent_congr (fun w _ => by rw [k2 42 (by omega) (by omega) (by omega) (by omega) (by omega) (by omega) (by omega), k2 43 (by omega) (by omega) (by omega) (by omega) (by omega) (by omega) (by omega), k2 44 (by omega) (by omega) (by omega) (by omega) (by omega) (by omega) (by omega)]; exact ⟨rfl, rfl, rfl⟩)
      intro g hg
      by_cases z : g = nH
      · subst z
        obtain ⟨b0, b1, b2, b3, b4, b5, b6, b7⟩ := cHome_at (hi := ab_zI hi 2 g) (g := g) (n := nI g) (t := t) (l := l) (day := hi 8 0 8)
        have zero : ∀ p, mlent hi (nI g) p nW = nI 0 := fun p => sumI_zero (fun w hw => by
          rw [if_neg]
          rintro ⟨y1, y2⟩
          obtain ⟨g', hg', eg'⟩ := mo w hw (by rw [y1]; decide)
          have := (nI_eq (by omega) (by omega)).mp (eg'.symm.trans y2)
          omega)
        unfold hmI
        rw [h2n, h2n, h2n, h2n, h2n, h2n, h2n, h2n, b0, b1, b2, b3, b4, b5, b6, b7, el, el, zero, zero, k2 38 (by omega) (by omega) (by omega) (by omega) (by omega) (by omega) (by omega), k2 39 (by omega) (by omega) (by omega) (by omega) (by omega) (by omega) (by omega), (ho.2 g (by omega) (by omega)).1, (ho.2 g (by omega) (by omega)).2]
        refine ⟨rfl, ?_, ?_, ?_, rfl, rfl, rfl, rfl⟩
        · rw [← eh]
          unfold mHome
          rw [ab_uI_k (by omega), ab_uI_k (by omega), ab_uI_k (by omega), ab_uI_e]
        · rw [← eh]
          unfold mHome
          rw [ab_uI_k (by omega), ab_uI_k (by omega), ab_uI_e]
        · rw [← eh]
          unfold mHome
          rw [ab_uI_k (by omega), ab_uI_e, h9, n1]
      · exact hmI_congr (hi := hi) (nW := nW) (h2i g z) (fun K h1 h2 => k35 K h1 h2 g z) (fun p => el _ p) (ho.1 g (by omega))
    · intro g h1 h2
      rw [k2 38 (by omega) (by omega) (by omega) (by omega) (by omega) (by omega) (by omega), k2 39 (by omega) (by omega) (by omega) (by omega) (by omega) (by omega) (by omega)]
      exact ho.2 g (by omega) h2
    · intro g hg
      by_cases z : g = nH
      · subst z
        obtain ⟨t', ht1, ht2⟩ := n2
        refine ⟨t', t', Nat.le_refl _, ht1, ?_, (k9 0 (by omega)).trans ht2⟩
        rw [← eh]
        unfold mHome
        rw [ab_uI_k (by omega), ab_uI_e, h9, ht2]
      · rw [k35 37 (by omega) (by omega) g z]
        exact iTm_k (k9 0 (by omega)) (ht g (by omega))
    · exact iWk_k (k2 7 (by omega) (by omega) (by omega) (by omega) (by omega) (by omega) (by omega)) (fun K h1 h2 => k2 K (by omega) (by omega) (by omega) (by omega) (by omega) (by omega) (by omega)) wk
    · intro w hw
      have := hdI_congr (hi' := hi2) (hr' := hr') (by rw [k2 43 (by omega) (by omega) (by omega) (by omega) (by omega) (by omega) (by omega)]) (by rw [k2 44 (by omega) (by omega) (by omega) (by omega) (by omega) (by omega) (by omega)]) (rK 7 w 9 (by omega) (by omega) (by omega)) (hd w hw)
      rcases this with y | ⟨y1, g, y2, y3⟩
      · exact Or.inl y
      · exact Or.inr ⟨y1, g, by omega, y3⟩
    · exact iRn_k (k2 11 (by omega) (by omega) (by omega) (by omega) (by omega) (by omega) (by omega)) (k2 102 (by omega) (by omega) (by omega) (by omega) (by omega) (by omega) (by omega)) rn
    · exact iWs_k (k2 6 (by omega) (by omega) (by omega) (by omega) (by omega) (by omega) (by omega)) (fun K h1 h2 => k2 K (by omega) (by omega) (by omega) (by omega) (by omega) (by omega) (by omega)) (fun i j => rK 6 i j (by omega) (by omega) (by omega)) ws
    · intro k hk
      rw [k2 57 (by omega) (by omega) (by omega) (by omega) (by omega) (by omega) (by omega)]
      exact iTm_k (k9 0 (by omega)) (wt k hk)
    · exact iLk_k (k2 3 (by omega) (by omega) (by omega) (by omega) (by omega) (by omega) (by omega)) (k2 61 (by omega) (by omega) (by omega) (by omega) (by omega) (by omega) (by omega)) (k2 62 (by omega) (by omega) (by omega) (by omega) (by omega) (by omega) (by omega)) (k2 63 (by omega) (by omega) (by omega) (by omega) (by omega) (by omega) (by omega)) (k2 51 (by omega) (by omega) (by omega) (by omega) (by omega) (by omega) (by omega)) (fun w => by rw [k2 7 (by omega) (by omega) (by omega) (by omega) (by omega) (by omega) (by omega)]; exact ⟨rfl, rfl⟩) (fun l => rK 3 l 2 (by omega) (by omega) (by omega)) (fun w => rK 7 w 14 (by omega) (by omega) (by omega)) ⟨lk1, lk2, lk3⟩
    · exact plP_k (fun p => rK 14 0 p (by omega) (by omega) (by omega)) pp
  · rw [fc]
    refine h _ _ _ _ (fun Q' h' => mRw fm ?_)
    refine c_X8_home hnb M (fun q' => absurd q' q) (fun _ => ?_)
    rw [fm]
    exact h' _ _ _ K
end STEPS3
