theorem cRule_at {hi : ab_I} {r : Nat} {day what coins : Int32} : cRule hi r day what coins 5 r 0 = day ∧ cRule hi r day what coins 5 r 1 = what / nI 1000000 ∧ cRule hi r day what coins 5 r 2 = what / nI 100000 - what / nI 100000 / nI 10 * nI 10 ∧ cRule hi r day what coins 5 r 3 = what / nI 10000 - what / nI 10000 / nI 10 * nI 10 ∧ cRule hi r day what coins 5 r 4 = what - what / nI 10000 * nI 10000 ∧ cRule hi r day what coins 5 r 5 = coins / nI 1000 ∧ cRule hi r day what coins 5 r 6 = coins - coins / nI 1000 * nI 1000 := by
  simp [cRule, ab_uI]
theorem mRule_at {hi : ab_I} {n : Nat} {day what coins : Int32} : mRule hi n day what coins 82 n 0 = day ∧ mRule hi n day what coins 82 n 1 = what / nI 1000000 ∧ mRule hi n day what coins 82 n 2 = what / nI 100000 - what / nI 100000 / nI 10 * nI 10 ∧ mRule hi n day what coins 82 n 3 = what / nI 10000 - what / nI 10000 / nI 10 * nI 10 ∧ mRule hi n day what coins 82 n 4 = what - what / nI 10000 * nI 10000 ∧ mRule hi n day what coins 82 n 5 = coins / nI 1000 ∧ mRule hi n day what coins 82 n 6 = coins - coins / nI 1000 * nI 1000 := by
  simp [mRule, ab_uI]
theorem cRule_i {hi : ab_I} {g i j : Nat} {a b c : Int32} (h : i ≠ g) : cRule (ab_zI hi 5 g) g a b c 5 i j = hi 5 i j := by
  unfold cRule
  rw [ab_uI_i h, ab_uI_i h, ab_uI_i h, ab_uI_i h, ab_uI_i h, ab_uI_i h, ab_uI_i h, ab_zI_i h]
theorem cRule_k {hi : ab_I} {g K i j : Nat} {a b c : Int32} (h : K ≠ 5) : cRule (ab_zI hi 5 g) g a b c K i j = hi K i j := by
  unfold cRule
  rw [ab_uI_k h, ab_uI_k h, ab_uI_k h, ab_uI_k h, ab_uI_k h, ab_uI_k h, ab_uI_k h, ab_zI_k h]
theorem lt9I : (nI 9 : Int32).toInt = 9 := rfl
theorem okRul_iff {day what coins : Int32} {n : Nat} : okRul day what coins n ↔ okRule day what coins n := by
  have key : nI 0 ≤ what → (what ≤ nI 9999999 ↔ ¬ nI 9 < what / nI 1000000) := fun h0 => by
    obtain ⟨k, hk, rfl⟩ := nI_of (Int32.not_lt.mpr h0)
    rw [nI_div hk (by omega), nI_leI hk (by omega), nI_ltI (by omega) (by omega)]
    omega
  unfold okRul okRule okCan okIn
  constructor
  · rintro ⟨h1, ⟨⟨h2, h3⟩, h4, h5, h6⟩, h7⟩
    exact ⟨h1, Int32.not_lt.mpr h2, (key h2).mp h3, h4, h5, h6, h7⟩
  · rintro ⟨h1, h2, h3, h4, h5, h6, h7⟩
    exact ⟨h1, ⟨⟨Int32.not_lt.mp h2, (key (Int32.not_lt.mp h2)).mpr h3⟩, h4, h5, h6⟩, h7⟩
theorem rem10 {k : Nat} (hk : k < 2 ^ 31) : nI k - nI k / nI 10 * nI 10 = nI (k % 10) := by
  rw [nI_div hk (by omega), nI_mul, nI_sub (by omega)]
  congr 1
  omega
section STEPS4
variable {E : ab_E} {d : Nat} {hi : ab_I} {hr : ab_R} {cn : ab_C} {nR nH nW nV nL : Nat}
theorem st_rule (hnb : ab_n E < 2 ^ 31) (I : inv hi hr cn nR nH nW nV nL) {day what coins : Int32} : stp E (d + 20) nX7_rule nX8_rule [.inl day, .inl what, .inl coins] hi hr cn := by
  have I' := I
  obtain ⟨⟨fc, fm⟩, ⟨c2, c3, c5, c6, c7, c11⟩, ⟨l0, l1, l2, l3⟩, M, ⟨mu, mf⟩, ⟨n1, n2⟩, ⟨s1, s2, s3, s4, s5⟩, mi, ru, ho, ht, wk, hd, rn, ws, wt, ⟨lk1, lk2, lk3⟩, pp⟩ := I
  have M' := M
  obtain ⟨⟨hcR, hR⟩, ⟨hcH, hH⟩, ⟨hcW, hW⟩, ⟨hcV, hV⟩, ⟨hcL, hL⟩, mh, mw, ma, ms, mo, mt⟩ := M'
  have K : Inv hi hr cn := ⟨nR, nH, nW, nV, nL, I'⟩
  intro Q h
  refine cRw fc ?_
  refine c_X7_rule (n := nR) hnb hR (cLf fc l3) c5 (fun q hi' hr' cn' a cl => ?_) (fun q => ?_)
  · rw [← cR_zR rfl, fc] at a
    obtain ⟨a1, a2, a3⟩ := a
    have hK : ∀ K i j, K ≠ 0 → K ≠ 20 → K ≠ 5 → hi' K i j = hi K i j := fun K i j z1 z2 z3 => (a1 K i j (fun z => z1 z.1) z2).trans (cRule_k z3)
    have rK : ∀ K i j, K ≠ 0 → K ≠ 20 → K ≠ 5 → hr' K i j = hr K i j := fun K i j z1 z2 z3 => (a2 K i j (fun z => z1 z.1) z2).trans (ab_zR_k z3)
    have fc' : cR hr' = hr' := cR_fix fc (fun K i j z => rK K i j (by rintro rfl; cases z) (by rintro rfl; cases z) (by rintro rfl; cases z))
    have fm' : mR hr' = hr' := mR_fix fm (fun K i j z => rK K i j (by rintro rfl; cases z) (by rintro rfl; cases z) (by rintro rfl; cases z))
    have h9 : ∀ j, hi' 9 0 j = hi 9 0 j := fun j => hK 9 0 j (by omega) (by omega) (by omega)
    have M1 : mok hi' nR nH nW nV nL := by
      unfold mok
      rw [h9, h9, h9, h9, h9]
      refine ⟨⟨hcR, hR⟩, ⟨hcH, hH⟩, ⟨hcW, hW⟩, ⟨hcV, hV⟩, ⟨hcL, hL⟩, ?_, ?_, ?_, ?_, ?_, ?_⟩
      · exact fun k hk => by rw [hK 54 0 k (by omega) (by omega) (by omega)]; exact mh k hk
      · exact fun k hk => by rw [hK 55 0 k (by omega) (by omega) (by omega)]; exact mw k hk
      · exact fun k hk => by rw [hK 41 0 k (by omega) (by omega) (by omega)]; exact ma k hk
      · exact fun k hk => by rw [hK 45 0 k (by omega) (by omega) (by omega)]; exact ms k hk
      · exact fun k hk => by rw [hK 43 0 k (by omega) (by omega) (by omega), hK 44 0 k (by omega) (by omega) (by omega)]; exact mo k hk
      · exact fun k hk => by rw [hK 35 0 k (by omega) (by omega) (by omega)]; exact mt k hk
    have q2 := okRul_iff.mp q
    refine h _ _ _ _ (fun Q' h' => mRw fm' ?_)
    refine c_X8_rule hnb M1 (fun _ => ?_) (fun q' => absurd q2 q')
    rw [fm']
    have hw0 := Int32.not_lt.mp q2.2.1
    obtain ⟨wn, hwn, ewn⟩ := nI_of q2.2.1
    obtain ⟨b0, b1, b2, b3, b4, b5, b6⟩ := cRule_at (hi := ab_zI hi 5 (nR + 1)) (r := nR + 1) (day := day) (what := what) (coins := coins)
    obtain ⟨d0, d1, d2, d3, d4, d5, d6⟩ := mRule_at (hi := ab_uI hi' 9 0 3 (nI (nR + 1))) (n := nR) (day := day) (what := what) (coins := coins)
    generalize eh : mRule hi' nR day what coins = hi2
    have k2 : ∀ K, K ≠ 0 → K ≠ 20 → K ≠ 5 → K ≠ 9 → K ≠ 82 → True → hi2 K = hi K := fun K z1 z2 z3 z4 z5 _ => by
      funext i j
      rw [← eh]
      unfold mRule
      rw [ab_uI_k z4, ab_uI_k z5, ab_uI_k z5, ab_uI_k z5, ab_uI_k z5, ab_uI_k z5, ab_uI_k z5, ab_uI_k z5]
      exact hK K i j z1 z2 z3
    have k9 : ∀ j, j ≠ 3 → hi2 9 0 j = hi 9 0 j := fun j z => by
      rw [← eh]
      unfold mRule
      rw [ab_uI_j z]
      exact h9 j
    have k93 : hi2 9 0 3 = nI (nR + 1) := by rw [← eh]; exact ab_uI_e
    have k82 : ∀ k, k ≠ nR → ∀ j, hi2 82 k j = hi 82 k j := fun k z j => by
      rw [← eh]
      unfold mRule
      rw [ab_uI_k (by omega), ab_uI_i z, ab_uI_i z, ab_uI_i z, ab_uI_i z, ab_uI_i z, ab_uI_i z, ab_uI_i z]
      exact hK 82 k j (by omega) (by omega) (by omega)
    have k82n : ∀ j, hi2 82 nR j = mRule (ab_uI hi' 9 0 3 (nI (nR + 1))) nR day what coins 82 nR j := fun j => by
      rw [← eh]
      rfl
    have h5i : ∀ g, g ≠ nR + 1 → ∀ j, hi2 5 g j = hi 5 g j := fun g z j => by
      rw [← eh]
      exact (a1 5 g j (by omega) (by omega)).trans (cRule_i z)
    have h5n : ∀ j, hi2 5 (nR + 1) j = cRule (ab_zI hi 5 (nR + 1)) (nR + 1) day what coins 5 (nR + 1) j := fun j => by
      rw [← eh]
      exact a1 5 (nR + 1) j (by omega) (by omega)
    have hlt : nR < 60 := q.2.2
    have e8 : hi2 8 = hi 8 := k2 8 (by omega) (by omega) (by omega) (by omega) (by omega) trivial
    refine h' _ _ _ ⟨nR + 1, nH, nW, nV, nL, ⟨fc', fm'⟩, ?_, ?_, ?_, ⟨?_, ?_⟩, ?_, ?_, ?_, ?_, ?_, ?_, ?_, ?_, ?_, ?_, ?_, ?_, ?_⟩
    · refine ⟨?_, ?_, (a3 5 (by omega)).trans ab_uC_e, ?_, ?_, ?_⟩
      · rw [a3 2 (by omega), ab_uC_k (by omega)]; exact c2
      · rw [a3 3 (by omega), ab_uC_k (by omega)]; exact c3
      · rw [a3 6 (by omega), ab_uC_k (by omega)]; exact c6
      · rw [a3 7 (by omega), ab_uC_k (by omega)]; exact c7
      · rw [a3 11 (by omega), ab_uC_k (by omega)]; exact c11
    · have e0 : ∀ k, k ≠ 3 → hi2 0 k 2 = hi 0 k 2 := fun k z => by
        rw [← eh]
        exact (a1 0 k 2 (fun y => z y.2) (by omega)).trans (cRule_k (by omega))
      have r0 : ∀ k, k ≠ 3 → hr' 0 k 1 = hr 0 k 1 := fun k z => (a2 0 k 1 (fun y => z y.2) (by omega)).trans (ab_zR_k (by omega))
      have r1 : ∀ k, k ≠ 3 → k < 4 → ∀ g j, hr' (17 + k) g j = hr (17 + k) g j := fun k z _ g j => rK (17 + k) g j (by omega) (by omega) (by omega)
      have r2 : ∀ k, k ≠ 3 → k < 4 → cn' (17 + k) = cn (17 + k) := fun k z _ => (a3 (17 + k) (by omega)).trans (ab_uC_k (by omega))
      have e00 : hi2 0 3 2 = hi' 0 3 2 := by rw [← eh]; rfl
      exact ⟨cL_congr (e0 0 (by omega)) (r0 0 (by omega)) (r1 0 (by omega) (by omega)) (r2 0 (by omega) (by omega)) l0, cL_congr (e0 1 (by omega)) (r0 1 (by omega)) (r1 1 (by omega) (by omega)) (r2 1 (by omega) (by omega)) l1, cL_congr (e0 2 (by omega)) (r0 2 (by omega)) (r1 2 (by omega) (by omega)) (r2 2 (by omega) (by omega)) l2, cL_congr e00 rfl (fun _ _ => rfl) rfl cl⟩
    · unfold mok
      rw [k93, k9 10 (by omega), k9 23 (by omega), k9 30 (by omega), k9 34 (by omega), k2 54 (by omega) (by omega) (by omega) (by omega) (by omega) trivial, k2 55 (by omega) (by omega) (by omega) (by omega) (by omega) trivial, k2 41 (by omega) (by omega) (by omega) (by omega) (by omega) trivial, k2 45 (by omega) (by omega) (by omega) (by omega) (by omega) trivial, k2 43 (by omega) (by omega) (by omega) (by omega) (by omega) trivial, k2 44 (by omega) (by omega) (by omega) (by omega) (by omega) trivial, k2 35 (by omega) (by omega) (by omega) (by omega) (by omega) trivial]
      exact ⟨⟨rfl, hlt⟩, ⟨hcH, hH⟩, ⟨hcW, hW⟩, ⟨hcV, hV⟩, ⟨hcL, hL⟩, mh, mw, ma, ms, mo, mt⟩
    · unfold mU
      rw [k2 54 (by omega) (by omega) (by omega) (by omega) (by omega) trivial, k2 55 (by omega) (by omega) (by omega) (by omega) (by omega) trivial, k2 56 (by omega) (by omega) (by omega) (by omega) (by omega) trivial]
      exact mu
    · unfold mF
      rw [k2 81 (by omega) (by omega) (by omega) (by omega) (by omega) trivial]
      exact mf
    · unfold iNow
      rw [e8, k9 0 (by omega)]
      exact ⟨n1, n2⟩
    · exact iSum_k (fun j _ => by rw [e8]) (fun j h1 _ => k9 j (by omega)) (k2 10 (by omega) (by omega) (by omega) (by omega) (by omega) trivial) (k2 65 (by omega) (by omega) (by omega) (by omega) (by omega) trivial) ⟨s1, s2, s3, s4, s5⟩
    · unfold iMi
      rw [k2 13 (by omega) (by omega) (by omega) (by omega) (by omega) trivial, k2 81 (by omega) (by omega) (by omega) (by omega) (by omega) trivial]
      exact mi
    · refine ⟨(h5i 0 (by omega) 0).trans ru.1, fun j h1 h2 => ?_, ?_, fun k hk => ?_⟩
      · rw [h5i 0 (by omega), k2 34 (by omega) (by omega) (by omega) (by omega) (by omega) trivial]
        exact ru.2.1 j h1 h2
      · rw [k2 34 (by omega) (by omega) (by omega) (by omega) (by omega) trivial]
        exact ru.2.2.1
      · by_cases z : k = nR
        · subst z
          refine ⟨fun j hj => ?_, ?_, ?_, ?_⟩
          · rw [h5n, k82n]
            rcases (show j = 0 ∨ j = 1 ∨ j = 2 ∨ j = 3 ∨ j = 4 ∨ j = 5 ∨ j = 6 by omega) with rfl | rfl | rfl | rfl | rfl | rfl | rfl
            · rw [b0, d0]
            · rw [b1, d1]
            · rw [b2, d2]
            · rw [b3, d3]
            · rw [b4, d4]
            · rw [b5, d5]
            · rw [b6, d6]
          · rw [k82n, d0]
            exact q.1.1
          · have := q2.2.2.1
            rw [ewn, nI_div hwn (by omega), nI_ltI (by omega) (by omega)] at this
            rw [k82n, d1, ewn, nI_div hwn (by omega)]
            exact ⟨wn / 1000000, by omega, rfl⟩
          · rw [k82n, d2, ewn, nI_div hwn (by omega), rem10 (by omega)]
            exact ⟨_, by omega, rfl⟩
        · have r := ru.2.2.2 k (by omega)
          unfold rlI at *
          rw [k82 k z, k82 k z, k82 k z]
          exact ⟨fun j hj => by rw [h5i (k + 1) (by omega), k82 k z]; exact r.1 j hj, r.2⟩
    · exact ⟨fun g hg => hmI_congr (hi := hi) (nW := nW) (fun j => by rw [k2 2 (by omega) (by omega) (by omega) (by omega) (by omega) trivial]) (fun K h1 h2 => by rw [k2 K (by omega) (by omega) (by omega) (by omega) (by omega) trivial]) (fun p => mlent_congr (fun w _ => by rw [k2 42 (by omega) (by omega) (by omega) (by omega) (by omega) trivial, k2 43 (by omega) (by omega) (by omega) (by omega) (by omega) trivial, k2 44 (by omega) (by omega) (by omega) (by omega) (by omega) trivial]; exact ⟨rfl, rfl, rfl⟩)) (ho.1 g hg), fun g h1 h2 => by
        rw [k2 38 (by omega) (by omega) (by omega) (by omega) (by omega) trivial, k2 39 (by omega) (by omega) (by omega) (by omega) (by omega) trivial]
        exact ho.2 g h1 h2⟩
    · intro g hg
      rw [k2 37 (by omega) (by omega) (by omega) (by omega) (by omega) trivial]
      exact iTm_k (k9 0 (by omega)) (ht g hg)
    · exact iWk_k (k2 7 (by omega) (by omega) (by omega) (by omega) (by omega) trivial) (fun K h1 h2 => k2 K (by omega) (by omega) (by omega) (by omega) (by omega) trivial) wk
    · exact iHd_k (k2 43 (by omega) (by omega) (by omega) (by omega) (by omega) trivial) (k2 44 (by omega) (by omega) (by omega) (by omega) (by omega) trivial) (fun w => rK 7 w 9 (by omega) (by omega) (by omega)) hd
    · exact iRn_k (k2 11 (by omega) (by omega) (by omega) (by omega) (by omega) trivial) (k2 102 (by omega) (by omega) (by omega) (by omega) (by omega) trivial) rn
    · exact iWs_k (k2 6 (by omega) (by omega) (by omega) (by omega) (by omega) trivial) (fun K h1 h2 => k2 K (by omega) (by omega) (by omega) (by omega) (by omega) trivial) (fun i j => rK 6 i j (by omega) (by omega) (by omega)) ws
    · intro k hk
      rw [k2 57 (by omega) (by omega) (by omega) (by omega) (by omega) trivial]
      exact iTm_k (k9 0 (by omega)) (wt k hk)
    · exact iLk_k (k2 3 (by omega) (by omega) (by omega) (by omega) (by omega) trivial) (k2 61 (by omega) (by omega) (by omega) (by omega) (by omega) trivial) (k2 62 (by omega) (by omega) (by omega) (by omega) (by omega) trivial) (k2 63 (by omega) (by omega) (by omega) (by omega) (by omega) trivial) (k2 51 (by omega) (by omega) (by omega) (by omega) (by omega) trivial) (fun w => by rw [k2 7 (by omega) (by omega) (by omega) (by omega) (by omega) trivial]; exact ⟨rfl, rfl⟩) (fun l => rK 3 l 2 (by omega) (by omega) (by omega)) (fun w => rK 7 w 14 (by omega) (by omega) (by omega)) ⟨lk1, lk2, lk3⟩
    · exact plP_k (fun p => rK 14 0 p (by omega) (by omega) (by omega)) pp
  · rw [fc]
    refine h _ _ _ _ (fun Q' h' => mRw fm ?_)
    refine c_X8_rule hnb M (fun q' => absurd (okRul_iff.mpr q') q) (fun _ => ?_)
    rw [fm]
    exact h' _ _ _ K
end STEPS4
