theorem cWork_at {hi : ab_I} {w : Nat} {n a worth t day : Int32} : cWork hi w n a worth t day 7 w 0 = n ∧ cWork hi w n a worth t day 7 w 1 = a ∧ cWork hi w n a worth t day 7 w 2 = worth ∧ cWork hi w n a worth t day 7 w 3 = worth / nI 20 ∧ cWork hi w n a worth t day 7 w 5 = nI 0 ∧ cWork hi w n a worth t day 7 w 6 = t ∧ cWork hi w n a worth t day 7 w 7 = day ∧ cWork hi w n a worth t day 7 w 8 = nI 0 ∧ cWork hi w n a worth t day 7 w 11 = nI 0 ∧ cWork hi w n a worth t day 7 w 12 = nI 0 ∧ cWork hi w n a worth t day 7 w 13 = nI 0 ∧ cWork hi w n a worth t day 7 w 15 = -1 := by
  simp [cWork, ab_uI]
theorem cWork_i {hi : ab_I} {w i j : Nat} {n a worth t day : Int32} (h : i ≠ w) : cWork (ab_zI hi 7 w) w n a worth t day 7 i j = hi 7 i j := by
  unfold cWork
  rw [ab_uI_i h, ab_uI_i h, ab_uI_i h, ab_uI_i h, ab_uI_i h, ab_uI_i h, ab_uI_i h, ab_uI_i h, ab_uI_i h, ab_uI_i h, ab_uI_i h, ab_uI_i h, ab_uI_i h, ab_zI_k (by omega), ab_zI_i h]
theorem cWork_k {hi : ab_I} {w K i j : Nat} {n a worth t day : Int32} (h : K ≠ 7) (h2 : K ≠ 11) : cWork (ab_zI hi 7 w) w n a worth t day K i j = hi K i j := by
  unfold cWork
  rw [ab_uI_k h, ab_uI_k h, ab_uI_k h, ab_uI_k h, ab_uI_k h, ab_uI_k h, ab_uI_k h, ab_uI_k h, ab_uI_k h, ab_uI_k h, ab_uI_k h, ab_uI_k h, ab_uI_k h, ab_zI_k h2, ab_zI_k h]
theorem cWork_11 {hi : ab_I} {w i j : Nat} {n a worth t day : Int32} : cWork (ab_zI hi 7 w) w n a worth t day 11 i j = if i = w then 0 else hi 11 i j := by
  unfold cWork
  rw [ab_uI_k (by omega), ab_uI_k (by omega), ab_uI_k (by omega), ab_uI_k (by omega), ab_uI_k (by omega), ab_uI_k (by omega), ab_uI_k (by omega), ab_uI_k (by omega), ab_uI_k (by omega), ab_uI_k (by omega), ab_uI_k (by omega), ab_uI_k (by omega), ab_uI_k (by omega)]
  unfold ab_zI
  rfl
theorem cWorkR_k {hr : ab_R} {w K i j : Nat} (h : K ≠ 7) (h2 : K ≠ 11) : cWorkR (ab_zR hr 7 w) w K i j = hr K i j := by
  unfold cWorkR
  rw [ab_uR_k h, ab_uR_k h, ab_uR_k h, ab_zR_k h2, ab_zR_k h]
theorem cWorkR_i {hr : ab_R} {w i j : Nat} (h : i ≠ w) : cWorkR (ab_zR hr 7 w) w 7 i j = hr 7 i j := by
  unfold cWorkR
  rw [ab_uR_i h, ab_uR_i h, ab_uR_i h, ab_zR_k (by omega), ab_zR_i h]
theorem cWorkR_at {hr : ab_R} {w : Nat} : cWorkR hr w 7 w 9 = none ∧ cWorkR hr w 7 w 14 = none := by
  simp [cWorkR, ab_uR]
theorem lst_none {c : Nat → Bool} : ∀ {n : Nat}, (∀ l, l < n → c l = false) → lst c n = none
  | 0, _ => rfl
  | n + 1, h => by
    unfold lst
    rw [h n (by omega), lst_none (fun l hl => h l (by omega))]
    rfl
theorem cWish_at {hi : ab_I} {k : Nat} {n day : Int32} : cWish hi k n day 6 k 0 = n ∧ cWish hi k n day 6 k 3 = nI 0 ∧ cWish hi k n day 6 k 4 = day ∧ cWish hi k n day 6 k 5 = nI 0 ∧ cWish hi k n day 6 k 6 = -1 := by
  simp [cWish, ab_uI]
theorem cWish_i {hi : ab_I} {k i j : Nat} {n day : Int32} (h : i ≠ k) : cWish (ab_zI hi 6 k) k n day 6 i j = hi 6 i j := by
  unfold cWish
  rw [ab_uI_i h, ab_uI_i h, ab_uI_i h, ab_uI_i h, ab_uI_i h, ab_zI_i h]
theorem cWish_k {hi : ab_I} {k K i j : Nat} {n day : Int32} (h : K ≠ 6) : cWish (ab_zI hi 6 k) k n day K i j = hi K i j := by
  unfold cWish
  rw [ab_uI_k h, ab_uI_k h, ab_uI_k h, ab_uI_k h, ab_uI_k h, ab_zI_k h]
section STEPS5
variable {E : ab_E} {d : Nat} {hi : ab_I} {hr : ab_R} {cn : ab_C} {nR nH nW nV nL : Nat}
theorem st_work (hnb : ab_n E < 2 ^ 31) (I : inv hi hr cn nR nH nW nV nL) {a w t : Int32} : stp E (d + 20) nX7_work nX8_work [.inl a, .inl w, .inl t] hi hr cn := by
  have I' := I
  obtain ⟨⟨fc, fm⟩, ⟨c2, c3, c5, c6, c7, c11⟩, ⟨l0, l1, l2, l3⟩, M, ⟨mu, mf⟩, ⟨n1, n2⟩, ⟨s1, s2, s3, s4, s5⟩, mi, ru, ho, ht, wk, hd, rn, ws, wt, ⟨lk1, lk2, lk3⟩, pp⟩ := I
  have M' := M
  obtain ⟨⟨hcR, hR⟩, ⟨hcH, hH⟩, ⟨hcW, hW⟩, ⟨hcV, hV⟩, ⟨hcL, hL⟩, mh, mw, ma, ms, mo, mt⟩ := M'
  have K : Inv hi hr cn := ⟨nR, nH, nW, nV, nL, I'⟩
  intro Q h
  refine cRw fc ?_
  refine c_X7_work (n := nW) hnb hW (cLf fc l1) c7 c11 (fun q hi' hr' cn' aa cl => ?_) (fun q => ?_)
  · rw [← cR_work, fc] at aa
    obtain ⟨a1, a2, a3⟩ := aa
    have hK : ∀ K i j, K ≠ 0 → K ≠ 18 → K ≠ 7 → K ≠ 11 → hi' K i j = hi K i j := fun K i j z1 z2 z3 z4 => (a1 K i j (fun z => z1 z.1) z2).trans (cWork_k z3 z4)
    have rK : ∀ K i j, K ≠ 0 → K ≠ 18 → K ≠ 7 → K ≠ 11 → hr' K i j = hr K i j := fun K i j z1 z2 z3 z4 => (a2 K i j (fun z => z1 z.1) z2).trans (cWorkR_k z3 z4)
    have r7 : ∀ i j, i ≠ nW → hr' 7 i j = hr 7 i j := fun i j z => (a2 7 i j (by omega) (by omega)).trans (cWorkR_i z)
    have fc' : cR hr' = hr' := by
      have f0 : cR (cWorkR (ab_zR hr 7 nW) nW) = cWorkR (ab_zR hr 7 nW) nW := by
        have := cR_work (hr := hr) (n := nW)
        rw [fc] at this
        exact this.symm
      exact cR_fix f0 (fun K i j z => a2 K i j (fun y => by rw [y.1] at z; cases z) (by rintro rfl; cases z))
    have fm' : mR hr' = hr' := mR_fix fm (fun K i j z => rK K i j (by rintro rfl; cases z) (by rintro rfl; cases z) (by rintro rfl; cases z) (by rintro rfl; cases z))
    have h9 : ∀ j, hi' 9 0 j = hi 9 0 j := fun j => hK 9 0 j (by omega) (by omega) (by omega) (by omega)
    have M1 : mok hi' nR nH nW nV nL := by
      unfold mok
      rw [h9, h9, h9, h9, h9]
      refine ⟨⟨hcR, hR⟩, ⟨hcH, hH⟩, ⟨hcW, hW⟩, ⟨hcV, hV⟩, ⟨hcL, hL⟩, ?_, ?_, ?_, ?_, ?_, ?_⟩
      · exact fun k hk => by rw [hK 54 0 k (by omega) (by omega) (by omega) (by omega)]; exact mh k hk
      · exact fun k hk => by rw [hK 55 0 k (by omega) (by omega) (by omega) (by omega)]; exact mw k hk
      · exact fun k hk => by rw [hK 41 0 k (by omega) (by omega) (by omega) (by omega)]; exact ma k hk
      · exact fun k hk => by rw [hK 45 0 k (by omega) (by omega) (by omega) (by omega)]; exact ms k hk
      · exact fun k hk => by rw [hK 43 0 k (by omega) (by omega) (by omega) (by omega), hK 44 0 k (by omega) (by omega) (by omega) (by omega)]; exact mo k hk
      · exact fun k hk => by rw [hK 35 0 k (by omega) (by omega) (by omega) (by omega)]; exact mt k hk
    refine h _ _ _ _ (fun Q' h' => mRw fm' ?_)
    refine c_X8_work hnb M1 (fun _ => ?_) (fun q' => absurd q q')
    rw [fm']
    obtain ⟨b0, b1, b2, b3, b5, b6, b7, b8, b11, b12, b13, b15⟩ := cWork_at (hi := ab_zI hi 7 nW) (w := nW) (n := nI nW) (a := a) (worth := w) (t := t) (day := hi 8 0 8)
    generalize eh : mWork hi' nW a w t = hi2
    have k2 : ∀ K, ¬ (K = 0 ∨ K = 18 ∨ K = 7 ∨ K = 11 ∨ K = 9 ∨ K = 41 ∨ K = 42 ∨ K = 44 ∨ K = 45 ∨ K = 50) → hi2 K = hi K := fun K z => by
      funext i j
      rw [← eh]
      unfold mWork
      rw [ab_uI_k (by omega), ab_uI_k (by omega), ab_uI_k (by omega), ab_uI_k (by omega), ab_uI_k (by omega), ab_uI_k (by omega)]
      exact hK K i j (by omega) (by omega) (by omega) (by omega)
    have k9 : ∀ j, j ≠ 23 → hi2 9 0 j = hi 9 0 j := fun j z => by
      rw [← eh]
      unfold mWork
      rw [ab_uI_j z]
      exact h9 j
    have k923 : hi2 9 0 23 = nI (nW + 1) := by rw [← eh]; exact ab_uI_e
    have kw : ∀ K, 41 ≤ K → K ≤ 51 → ∀ g, g ≠ nW → hi2 K 0 g = hi K 0 g := fun K z1 z2 g z => by
      rw [← eh]
      unfold mWork
      rw [ab_uI_k (by omega), ab_uI_j z, ab_uI_j z, ab_uI_j z, ab_uI_j z, ab_uI_j z]
      exact hK K 0 g (by omega) (by omega) (by omega) (by omega)
    have n41 : hi2 41 0 nW = a := by rw [← eh]; unfold mWork; rw [ab_uI_k (by omega), ab_uI_k (by omega), ab_uI_k (by omega), ab_uI_k (by omega), ab_uI_k (by omega), ab_uI_e]
    have n42 : hi2 42 0 nW = w := by rw [← eh]; unfold mWork; rw [ab_uI_k (by omega), ab_uI_k (by omega), ab_uI_k (by omega), ab_uI_k (by omega), ab_uI_e]
    have n44 : hi2 44 0 nW = -1 := by rw [← eh]; unfold mWork; rw [ab_uI_k (by omega), ab_uI_k (by omega), ab_uI_k (by omega), ab_uI_e]
    have n45 : hi2 45 0 nW = t := by rw [← eh]; unfold mWork; rw [ab_uI_k (by omega), ab_uI_k (by omega), ab_uI_e]
    have n50 : hi2 50 0 nW = hi 8 0 8 := by rw [← eh]; unfold mWork; rw [ab_uI_k (by omega), ab_uI_e, h9, n1]
    have h7i : ∀ g, g ≠ nW → ∀ j, hi2 7 g j = hi 7 g j := fun g z j => by
      rw [← eh]
      exact (a1 7 g j (by omega) (by omega)).trans (cWork_i z)
    have h7n : ∀ j, hi2 7 nW j = cWork (ab_zI hi 7 nW) nW (nI nW) a w t (hi 8 0 8) 7 nW j := fun j => by
      rw [← eh]
      exact a1 7 nW j (by omega) (by omega)
    have h11 : ∀ i j, hi2 11 i j = if i = nW then 0 else hi 11 i j := fun i j => by
      rw [← eh]
      exact (a1 11 i j (by omega) (by omega)).trans cWork_11
    have hlt : nW < 40 := q.2.2.2
    obtain ⟨f43, f47, f48, f49⟩ := wk.2 nW (Nat.le_refl _) hlt
    have e8 : hi2 8 = hi 8 := k2 8 (by omega)
    refine h' _ _ _ ⟨nR, nH, nW + 1, nV, nL, ⟨fc', fm'⟩, ?_, ?_, ?_, ⟨?_, ?_⟩, ?_, ?_, ?_, ?_, ?_, ?_, ⟨?_, ?_⟩, ?_, ⟨?_, ?_⟩, ?_, ?_, ⟨?_, ?_, ?_⟩, ?_⟩
    · refine ⟨?_, ?_, ?_, ?_, ?_, (a3 11 (by omega)).trans ab_uC_e⟩
      · rw [a3 2 (by omega), ab_uC_k (by omega), ab_uC_k (by omega)]; exact c2
      · rw [a3 3 (by omega), ab_uC_k (by omega), ab_uC_k (by omega)]; exact c3
      · rw [a3 5 (by omega), ab_uC_k (by omega), ab_uC_k (by omega)]; exact c5
      · rw [a3 6 (by omega), ab_uC_k (by omega), ab_uC_k (by omega)]; exact c6
      · rw [a3 7 (by omega), ab_uC_k (by omega), ab_uC_e]
    · have e0 : ∀ k, k ≠ 1 → hi2 0 k 2 = hi 0 k 2 := fun k z => by
        rw [← eh]
        exact (a1 0 k 2 (fun y => z y.2) (by omega)).trans (cWork_k (by omega) (by omega))
      have r0 : ∀ k, k ≠ 1 → hr' 0 k 1 = hr 0 k 1 := fun k z => (a2 0 k 1 (fun y => z y.2) (by omega)).trans (cWorkR_k (by omega) (by omega))
      have r1 : ∀ k, k ≠ 1 → k < 4 → ∀ g j, hr' (17 + k) g j = hr (17 + k) g j := fun k z _ g j => rK (17 + k) g j (by omega) (by omega) (by omega) (by omega)
      have r2 : ∀ k, k ≠ 1 → k < 4 → cn' (17 + k) = cn (17 + k) := fun k z _ => (a3 (17 + k) (by omega)).trans ((ab_uC_k (by omega)).trans (ab_uC_k (by omega)))
      have e00 : hi2 0 1 2 = hi' 0 1 2 := by rw [← eh]; rfl
      exact ⟨cL_congr (e0 0 (by omega)) (r0 0 (by omega)) (r1 0 (by omega) (by omega)) (r2 0 (by omega) (by omega)) l0, cL_congr e00 rfl (fun _ _ => rfl) rfl cl, cL_congr (e0 2 (by omega)) (r0 2 (by omega)) (r1 2 (by omega) (by omega)) (r2 2 (by omega) (by omega)) l2, cL_congr (e0 3 (by omega)) (r0 3 (by omega)) (r1 3 (by omega) (by omega)) (r2 3 (by omega) (by omega)) l3⟩
    · unfold mok
      rw [k9 3 (by omega), k9 10 (by omega), k923, k9 30 (by omega), k9 34 (by omega), k2 54 (by omega), k2 55 (by omega), k2 43 (by omega), k2 35 (by omega)]
      refine ⟨⟨hcR, hR⟩, ⟨hcH, hH⟩, ⟨rfl, hlt⟩, ⟨hcV, hV⟩, ⟨hcL, hL⟩, mh, ?_, ?_, ?_, ?_, mt⟩
      · exact fun k hk => by obtain ⟨g, h1, h2⟩ := mw k hk; exact ⟨g, by omega, h2⟩
      · intro g hg
        by_cases z : g = nW
        · subst z
          obtain ⟨m, hm, em⟩ := ab_rngK (n := 9) (by omega) q.1.1 q.1.2
          exact ⟨m, by omega, n41.trans em⟩
        · rw [kw 41 (by omega) (by omega) g z]
          exact ma g (by omega)
      · intro g hg
        by_cases z : g = nW
        · subst z
          obtain ⟨m, hm, em⟩ := ab_rngK (n := 3) (by omega) q.2.2.1.1 q.2.2.1.2
          exact ⟨m, by omega, n45.trans em⟩
        · rw [kw 45 (by omega) (by omega) g z]
          exact ms g (by omega)
      · intro g hg
        by_cases z : g = nW
        · subst z
          exact fun y => absurd f43 y
        · rw [kw 44 (by omega) (by omega) g z]
          exact mo g (by omega)
    · unfold mU
      rw [k2 54 (by omega), k2 55 (by omega), k2 56 (by omega)]
      exact mu
    · unfold mF
      rw [k2 81 (by omega)]
      exact mf
    · unfold iNow
      rw [e8, k9 0 (by omega)]
      exact ⟨n1, n2⟩
    · exact iSum_k (fun j _ => by rw [e8]) (fun j h1 _ => k9 j (by omega)) (k2 10 (by omega)) (k2 65 (by omega)) ⟨s1, s2, s3, s4, s5⟩
    · unfold iMi
      rw [k2 13 (by omega), k2 81 (by omega)]
      exact mi
    · exact iRu_k (k2 5 (by omega)) (k2 82 (by omega)) (k2 34 (by omega)) ru
    · have el : ∀ x p, mlent hi2 x p (nW + 1) = mlent hi x p nW := fun x p => by
        have e1 : mlent hi2 x p nW = mlent hi x p nW := mlent_congr (fun g hg => ⟨kw 42 (by omega) (by omega) g (by omega), kw 43 (by omega) (by omega) g (by omega), kw 44 (by omega) (by omega) g (by omega)⟩)
        show mlent hi2 x p nW + (if hi2 43 0 nW = nI 1 ∧ hi2 44 0 nW = x then (if p = true then hi2 42 0 nW / nI 20 else nI 1) else nI 0) = _
        rw [e1, k2 43 (by omega), f43, if_neg (fun z => absurd z.1 (by decide))]
        exact Int32.add_zero _
      exact ⟨fun g hg => hmI_congr (hi := hi) (nW := nW) (fun j => by rw [k2 2 (by omega)]) (fun K h1 h2 => by rw [k2 K (by omega)]) (fun p => el _ p) (ho.1 g hg), fun g h1 h2 => by
        rw [k2 38 (by omega), k2 39 (by omega)]
        exact ho.2 g h1 h2⟩
    · intro g hg
      rw [k2 37 (by omega)]
      exact iTm_k (k9 0 (by omega)) (ht g hg)
    · intro g hg
      by_cases z : g = nW
      · subst z
        unfold wkI
        rw [h7n, h7n, h7n, h7n, h7n, h7n, h7n, h7n, h7n, h7n, h7n, b0, b1, b2, b3, b5, b6, b7, b8, b11, b12, n41, n42, n45, n50, k2 43 (by omega), k2 47 (by omega), k2 48 (by omega), k2 49 (by omega), f43, f47, f48, f49]
        exact ⟨rfl, rfl, rfl, rfl, rfl, rfl, rfl, rfl, fun y => absurd rfl y, rfl, rfl, 0, by omega, rfl⟩
      · exact wkI_congr (hi := hi) (fun j _ => h7i g z j) (fun K h1 h2 => kw K h1 (by omega) g z) (wk.1 g (by omega))
    · intro g h1 h2
      rw [k2 43 (by omega), k2 47 (by omega), k2 48 (by omega), k2 49 (by omega)]
      exact wk.2 g (by omega) h2
    · intro g hg
      by_cases z : g = nW
      · subst z
        refine Or.inl ⟨?_, n44, ?_⟩
        · rw [k2 43 (by omega)]
          exact f43
        · exact (a2 7 g 9 (by omega) (by omega)).trans cWorkR_at.1
      · exact hdI_congr (hi := hi) (hr := hr) (kw 43 (by omega) (by omega) g z) (kw 44 (by omega) (by omega) g z) (r7 g 9 z) (hd g (by omega))
    · intro g x hg hx
      rw [h11, k2 102 (by omega)]
      by_cases z : g = nW
      · rw [if_pos z, z, rn.2 nW x (Nat.le_refl _) hlt hx]
        rfl
      · rw [if_neg z]
        exact rn.1 g x (by omega) hx
    · intro g x h1 h2 h3
      rw [k2 102 (by omega)]
      exact rn.2 g x (by omega) h2 h3
    · exact iWs_k (k2 6 (by omega)) (fun K h1 h2 => k2 K (by omega)) (fun i j => rK 6 i j (by omega) (by omega) (by omega) (by omega)) ws
    · intro k hk
      rw [k2 57 (by omega)]
      exact iTm_k (k9 0 (by omega)) (wt k hk)
    · exact fun l hl => lkI_congr (hi := hi) (hr := hr) (by omega) (fun j => by rw [k2 3 (by omega)]) (fun l' _ => by rw [k2 61 (by omega)]) (by rw [k2 62 (by omega)]) (by rw [k2 63 (by omega)]) (rK 3 l 2 (by omega) (by omega) (by omega) (by omega)) (lk1 l hl)
    · intro g hg
      by_cases z : g = nW
      · subst z
        have nol : ∀ l, l < nL → ¬ hi 61 0 l = nI g := fun l hl y => by
          obtain ⟨⟨u, hu, eu⟩, -⟩ := lk1 l hl
          have := (nI_eq (by omega) (by omega)).mp (eu.symm.trans y)
          omega
        refine ⟨?_, ?_, ?_⟩
        · rw [h7n, b13]
          refine (sumI_zero (fun l hl => ?_)).symm
          rw [k2 61 (by omega), if_neg (nol l hl)]
        · rw [h7n, b15, k2 51 (by omega), lk3 g (Nat.le_refl _) hlt]
          exact Or.inl ⟨rfl, rfl⟩
        · have en : lkP hi2 (nI g) nL = none := lst_none (fun l hl => by rw [k2 61 (by omega), decide_eq_false (nol l hl)])
          rw [en]
          exact (a2 7 g 14 (by omega) (by omega)).trans cWorkR_at.2
      · exact lwI_congr (hi := hi) (hr := hr) (h7i g z 13) (h7i g z 15) (fun l _ => by rw [k2 61 (by omega)]) (kw 51 (by omega) (by omega) g z) (r7 g 14 z) (lk2 g (by omega))
    · intro g h1 h2
      rw [k2 51 (by omega)]
      exact lk3 g (by omega) h2
    · exact plP_k (fun p => rK 14 0 p (by omega) (by omega) (by omega) (by omega)) pp
  · rw [fc]
    refine h _ _ _ _ (fun Q' h' => mRw fm ?_)
    refine c_X8_work hnb M (fun q' => absurd q' q) (fun _ => ?_)
    rw [fm]
    exact h' _ _ _ K
theorem okW_iff (I : inv hi hr cn nR nH nW nV nL) {g w : Nat} (hg : g < nH) (hw : w < nW) : cOkW hi hr nV g w ↔ okWish hi nV (nI g) (nI w) := by
  obtain ⟨-, -, -, M, -, -, -, -, -, -, -, wk, hd, -, ws, -, -⟩ := I
  have hH := M.2.1.2
  have hW := M.2.2.1.2
  obtain ⟨-, -, -, -, w5, -, -, -, -, -, -, s, hs, es⟩ := wk.1 w hw
  have e1 : cMay hi hr w g ↔ (¬ nI 1 < hi 43 0 w ∧ ¬ (hi 43 0 w = nI 1 ∧ hi 44 0 w = nI g)) := by
    unfold cMay
    rw [w5]
    rcases hd w hw with ⟨y1, y2, y3⟩ | ⟨y1, g', y2, y3, y4⟩
    · rw [y1]
      exact ⟨fun _ => ⟨by decide, fun z => absurd z.1 (by decide)⟩, fun _ => Or.inl rfl⟩
    · rw [y3, y4]
      have eg : nI g' = nI g ↔ (some (2, g') : Option (Nat × Nat)) = some (2, g) := by
        rw [nI_eq (by omega) (by omega)]
        simp
      constructor
      · rintro (z | ⟨z1, z2⟩)
        · exact absurd z y1
        · rw [z1]
          exact ⟨by decide, fun z => z2 (eg.mp z.2)⟩
      · rintro ⟨z1, z2⟩
        have : hi 43 0 w = nI 1 := by
          rw [es] at z1 y1 ⊢
          have z1' : ¬ 1 < s := fun z => z1 (nI_lt z (by omega))
          have y1' : s ≠ 0 := fun z => y1 (by rw [z])
          rw [show s = 1 by omega]
        exact Or.inr ⟨this, fun z => z2 ⟨this, eg.mpr z⟩⟩
  have e2 : (∀ k, k < nV → ¬ (hi 6 k 3 = nI 0 ∧ hr 6 k 1 = some (2, g) ∧ hr 6 k 2 = some (7, w))) ↔ ∀ k, k < nV → ¬ (hi 56 0 k = nI 0 ∧ hi 54 0 k = nI g ∧ hi 55 0 k = nI w) := by
    refine forall_congr' fun k => forall_congr' fun hk => not_congr ?_
    obtain ⟨-, b1, b2, b3, -⟩ := ws.1 k hk
    obtain ⟨g1, g2⟩ := gH_of M hk
    obtain ⟨w1, w2⟩ := gW_of M hk
    rw [b1, b2, b3, g2, w2, nI_eq (by omega) (by omega), nI_eq (by omega) (by omega)]
    simp
  unfold cOkW okWish
  rw [e1, e2, ab_ix_nI (by omega), and_assoc]
theorem st_wish (hnb : ab_n E < 2 ^ 31) (I : inv hi hr cn nR nH nW nV nL) {x y : Int32} : stp E (d + 20) nX7_wish nX8_wish [.inl x, .inl y] hi hr cn := by
  have I' := I
  obtain ⟨⟨fc, fm⟩, ⟨c2, c3, c5, c6, c7, c11⟩, ⟨l0, l1, l2, l3⟩, M, ⟨mu, mf⟩, ⟨n1, n2⟩, ⟨s1, s2, s3, s4, s5⟩, mi, ru, ho, ht, wk, hd, rn, ws, wt, ⟨lk1, lk2, lk3⟩, pp⟩ := I
  have M' := M
  obtain ⟨⟨hcR, hR⟩, ⟨hcH, hH⟩, ⟨hcW, hW⟩, ⟨hcV, hV⟩, ⟨hcL, hL⟩, mh, mw, ma, ms, mo, mt⟩ := M'
  have K : Inv hi hr cn := ⟨nR, nH, nW, nV, nL, I'⟩
  intro Q h
  refine cRw fc ?_
  refine c_X7_wish (n := nV) (nh := nH) (nw := nW) hnb hV (by omega) (by omega) (cLf fc l0) (cLf fc l1) (cLf fc l2) c6 (fun k hk => ⟨_, (ws.1 k hk).2.1⟩) (fun k hk => ⟨_, (ws.1 k hk).2.2.1⟩) (fun w hw K i e => ?_) (fun g w hg hw ex ey q hi' hr' cn' aa cl => ?_) (fun q => ?_)
  · rcases hd w hw with ⟨-, -, z⟩ | ⟨-, g, -, -, z⟩
    · rw [z] at e
      cases e
    · rw [z] at e
      cases e
      rfl
  · rw [← cR_uR rfl, ← cR_uR rfl, ← cR_zR rfl, fc] at aa
    obtain ⟨a1, a2, a3⟩ := aa
    have hK : ∀ K i j, K ≠ 0 → K ≠ 19 → K ≠ 6 → hi' K i j = hi K i j := fun K i j z1 z2 z3 => (a1 K i j (fun z => z1 z.1) z2).trans (cWish_k z3)
    have rK : ∀ K i j, K ≠ 0 → K ≠ 19 → K ≠ 6 → hr' K i j = hr K i j := fun K i j z1 z2 z3 => (a2 K i j (fun z => z1 z.1) z2).trans (by rw [ab_uR_k z3, ab_uR_k z3, ab_zR_k z3])
    have r6 : ∀ i j, i ≠ nV → hr' 6 i j = hr 6 i j := fun i j z => (a2 6 i j (by omega) (by omega)).trans (by rw [ab_uR_i z, ab_uR_i z, ab_zR_i z])
    have fc' : cR hr' = hr' := cR_fix fc (fun K i j z => rK K i j (by rintro rfl; cases z) (by rintro rfl; cases z) (by rintro rfl; cases z))
    have fm' : mR hr' = hr' := mR_fix fm (fun K i j z => rK K i j (by rintro rfl; cases z) (by rintro rfl; cases z) (by rintro rfl; cases z))
    have h9 : ∀ j, hi' 9 0 j = hi 9 0 j := fun j => hK 9 0 j (by omega) (by omega) (by omega)
    have M1 : mok hi' nR nH nW nV nL := by
      unfold mok
      rw [h9, h9, h9, h9, h9]
      refine ⟨⟨hcR, hR⟩, ⟨hcH, hH⟩, ⟨hcW, hW⟩, ⟨hcV, hV⟩, ⟨hcL, hL⟩, ?_, ?_, ?_, ?_, ?_, ?_⟩
      · exact fun k hk => by rw [hK 54 0 k (by omega) (by omega) (by omega)]; exact mh k hk
      · exact fun k hk => by rw [hK 55 0 k (by omega) (by omega) (by omega)]; exact mw k hk
      · exact fun k hk => by rw [hK 41 0 k (by omega) (by omega) (by omega)]; exact ma k hk
      · exact fun k hk => by rw [hK 45 0 k (by omega) (by omega) (by omega)]; exact ms k hk
      · exact fun k hk => by rw [hK 43 0 k (by omega) (by omega) (by omega), hK 44 0 k (by omega) (by omega) (by omega)]; exact mo k hk
      · exact fun k hk => by rw [hK 35 0 k (by omega) (by omega) (by omega)]; exact mt k hk
    have qm := (okW_iff I' hg hw).mp q
    have q1 : okWish hi' nV x y := by
      rw [ex, ey]
      unfold okWish at *
      rw [hK 43 0 _ (by omega) (by omega) (by omega), hK 44 0 _ (by omega) (by omega) (by omega)]
      exact ⟨qm.1, qm.2.1, fun k hk => by rw [hK 54 0 k (by omega) (by omega) (by omega), hK 55 0 k (by omega) (by omega) (by omega), hK 56 0 k (by omega) (by omega) (by omega)]; exact qm.2.2.1 k hk, qm.2.2.2⟩
    refine h _ _ _ _ (fun Q' h' => mRw fm' ?_)
    refine c_X8_wish hnb M1 (fun _ _ _ => ?_) (fun q' => absurd ⟨⟨g, hg, ex⟩, ⟨w, hw, ey⟩, q1⟩ q')
    rw [fm']
    obtain ⟨b0, b3, b4, b5, b6⟩ := cWish_at (hi := ab_zI hi 6 nV) (k := nV) (n := nI nV) (day := hi 8 0 8)
    generalize eh : mWish hi' nV x y = hi2
    have k2 : ∀ K, ¬ (K = 0 ∨ K = 19 ∨ K = 6 ∨ K = 9 ∨ K = 54 ∨ K = 55 ∨ K = 57 ∨ K = 59) → hi2 K = hi K := fun K z => by
      funext i j
      rw [← eh]
      unfold mWish
      rw [ab_uI_k (by omega), ab_uI_k (by omega), ab_uI_k (by omega), ab_uI_k (by omega), ab_uI_k (by omega)]
      exact hK K i j (by omega) (by omega) (by omega)
    have k9 : ∀ j, j ≠ 30 → hi2 9 0 j = hi 9 0 j := fun j z => by
      rw [← eh]
      unfold mWish
      rw [ab_uI_j z]
      exact h9 j
    have k930 : hi2 9 0 30 = nI (nV + 1) := by rw [← eh]; exact ab_uI_e
    have kw : ∀ K, 54 ≤ K → K ≤ 59 → ∀ k, k ≠ nV → hi2 K 0 k = hi K 0 k := fun K z1 z2 k z => by
      rw [← eh]
      unfold mWish
      rw [ab_uI_k (by omega), ab_uI_j z, ab_uI_j z, ab_uI_j z, ab_uI_j z]
      exact hK K 0 k (by omega) (by omega) (by omega)
    have n54 : hi2 54 0 nV = x := by rw [← eh]; unfold mWish; rw [ab_uI_k (by omega), ab_uI_k (by omega), ab_uI_k (by omega), ab_uI_k (by omega), ab_uI_e]
    have n55 : hi2 55 0 nV = y := by rw [← eh]; unfold mWish; rw [ab_uI_k (by omega), ab_uI_k (by omega), ab_uI_k (by omega), ab_uI_e]
    have n57 : hi2 57 0 nV = hi 9 0 0 := by rw [← eh]; unfold mWish; rw [ab_uI_k (by omega), ab_uI_k (by omega), ab_uI_e, h9]
    have n59 : hi2 59 0 nV = -1 := by rw [← eh]; unfold mWish; rw [ab_uI_k (by omega), ab_uI_e]
    have h6i : ∀ k, k ≠ nV → ∀ j, hi2 6 k j = hi 6 k j := fun k z j => by
      rw [← eh]
      exact (a1 6 k j (by omega) (by omega)).trans (cWish_i z)
    have h6n : ∀ j, hi2 6 nV j = cWish (ab_zI hi 6 nV) nV (nI nV) (hi 8 0 8) 6 nV j := fun j => by
      rw [← eh]
      exact a1 6 nV j (by omega) (by omega)
    have hlt : nV < 200 := q.2.2
    obtain ⟨f56, f58⟩ := ws.2 nV (Nat.le_refl _) hlt
    have e8 : hi2 8 = hi 8 := k2 8 (by omega)
    refine h' _ _ _ ⟨nR, nH, nW, nV + 1, nL, ⟨fc', fm'⟩, ?_, ?_, ?_, ⟨?_, ?_⟩, ?_, ?_, ?_, ?_, ?_, ?_, ?_, ?_, ?_, ⟨?_, ?_⟩, ?_, ?_, ?_⟩
    · refine ⟨?_, ?_, ?_, (a3 6 (by omega)).trans ab_uC_e, ?_, ?_⟩
      · rw [a3 2 (by omega), ab_uC_k (by omega)]; exact c2
      · rw [a3 3 (by omega), ab_uC_k (by omega)]; exact c3
      · rw [a3 5 (by omega), ab_uC_k (by omega)]; exact c5
      · rw [a3 7 (by omega), ab_uC_k (by omega)]; exact c7
      · rw [a3 11 (by omega), ab_uC_k (by omega)]; exact c11
    · have e0 : ∀ k, k ≠ 2 → hi2 0 k 2 = hi 0 k 2 := fun k z => by
        rw [← eh]
        exact (a1 0 k 2 (fun y => z y.2) (by omega)).trans (cWish_k (by omega))
      have r0 : ∀ k, k ≠ 2 → hr' 0 k 1 = hr 0 k 1 := fun k z => (a2 0 k 1 (fun y => z y.2) (by omega)).trans (by rw [ab_uR_k (by omega), ab_uR_k (by omega), ab_zR_k (by omega)])
      have r1 : ∀ k, k ≠ 2 → k < 4 → ∀ g j, hr' (17 + k) g j = hr (17 + k) g j := fun k z _ g j => rK (17 + k) g j (by omega) (by omega) (by omega)
      have r2 : ∀ k, k ≠ 2 → k < 4 → cn' (17 + k) = cn (17 + k) := fun k z _ => (a3 (17 + k) (by omega)).trans (ab_uC_k (by omega))
      have e00 : hi2 0 2 2 = hi' 0 2 2 := by rw [← eh]; rfl
      exact ⟨cL_congr (e0 0 (by omega)) (r0 0 (by omega)) (r1 0 (by omega) (by omega)) (r2 0 (by omega) (by omega)) l0, cL_congr (e0 1 (by omega)) (r0 1 (by omega)) (r1 1 (by omega) (by omega)) (r2 1 (by omega) (by omega)) l1, cL_congr e00 rfl (fun _ _ => rfl) rfl cl, cL_congr (e0 3 (by omega)) (r0 3 (by omega)) (r1 3 (by omega) (by omega)) (r2 3 (by omega) (by omega)) l3⟩
    · unfold mok
      rw [k9 3 (by omega), k9 10 (by omega), k9 23 (by omega), k930, k9 34 (by omega), k2 41 (by omega), k2 43 (by omega), k2 44 (by omega), k2 45 (by omega), k2 35 (by omega)]
      refine ⟨⟨hcR, hR⟩, ⟨hcH, hH⟩, ⟨hcW, hW⟩, ⟨rfl, hlt⟩, ⟨hcL, hL⟩, ?_, ?_, ma, ms, mo, mt⟩
      · intro k hk
        by_cases z : k = nV
        · rw [z]
          exact ⟨g, hg, n54.trans ex⟩
        · rw [kw 54 (by omega) (by omega) k z]
          exact mh k (by omega)
      · intro k hk
        by_cases z : k = nV
        · rw [z]
          exact ⟨w, hw, n55.trans ey⟩
        · rw [kw 55 (by omega) (by omega) k z]
          exact mw k (by omega)
    · intro k k' hk hk' p1 p2 p3 p4
      rw [k2 56 (by omega)] at p1 p2
      have no : ∀ k, k < nV → hi 56 0 k = nI 0 → hi 54 0 k = x → hi 55 0 k = y → False := fun k hk z1 z2 z3 => qm.2.2.1 k hk ⟨z1, z2.trans ex, z3.trans ey⟩
      by_cases z : k = nV
      · by_cases z' : k' = nV
        · omega
        · rw [z, n54, kw 54 (by omega) (by omega) k' z'] at p3
          rw [z, n55, kw 55 (by omega) (by omega) k' z'] at p4
          exact (no k' (by omega) p2 p3.symm p4.symm).elim
      · rw [kw 54 (by omega) (by omega) k z] at p3
        rw [kw 55 (by omega) (by omega) k z] at p4
        by_cases z' : k' = nV
        · rw [z', n54] at p3
          rw [z', n55] at p4
          exact (no k (by omega) p1 p3 p4).elim
        · rw [kw 54 (by omega) (by omega) k' z'] at p3
          rw [kw 55 (by omega) (by omega) k' z'] at p4
          exact mu k k' (by omega) (by omega) p1 p2 p3 p4
    · unfold mF
      rw [k2 81 (by omega)]
      exact mf
    · unfold iNow
      rw [e8, k9 0 (by omega)]
      exact ⟨n1, n2⟩
    · exact iSum_k (fun j _ => by rw [e8]) (fun j h1 _ => k9 j (by omega)) (k2 10 (by omega)) (k2 65 (by omega)) ⟨s1, s2, s3, s4, s5⟩
    · unfold iMi
      rw [k2 13 (by omega), k2 81 (by omega)]
      exact mi
    · exact iRu_k (k2 5 (by omega)) (k2 82 (by omega)) (k2 34 (by omega)) ru
    · exact ⟨fun g hg => hmI_congr (hi := hi) (nW := nW) (fun j => by rw [k2 2 (by omega)]) (fun K h1 h2 => by rw [k2 K (by omega)]) (fun p => mlent_congr (fun w _ => by rw [k2 42 (by omega), k2 43 (by omega), k2 44 (by omega)]; exact ⟨rfl, rfl, rfl⟩)) (ho.1 g hg), fun g h1 h2 => by
        rw [k2 38 (by omega), k2 39 (by omega)]
        exact ho.2 g h1 h2⟩
    · intro g hg
      rw [k2 37 (by omega)]
      exact iTm_k (k9 0 (by omega)) (ht g hg)
    · exact iWk_k (k2 7 (by omega)) (fun K h1 h2 => k2 K (by omega)) wk
    · exact iHd_k (k2 43 (by omega)) (k2 44 (by omega)) (fun w => rK 7 w 9 (by omega) (by omega) (by omega)) hd
    · exact iRn_k (k2 11 (by omega)) (k2 102 (by omega)) rn
    · intro k hk
      by_cases z : k = nV
      · subst z
        unfold wsI gH gW
        rw [h6n, h6n, h6n, h6n, h6n, b0, b3, b4, b5, b6, n54, n55, n57, n59, k2 56 (by omega), k2 58 (by omega), f56, f58, ex, ey, ab_ix_nI (by omega), ab_ix_nI (by omega), n1]
        refine ⟨rfl, ?_, ?_, rfl, rfl, rfl, rfl⟩
        · exact (a2 6 k 1 (by omega) (by omega)).trans (by rw [ab_uR_j (by omega), ab_uR_e])
        · exact (a2 6 k 2 (by omega) (by omega)).trans ab_uR_e
      · exact wsI_congr (hi := hi) (hr := hr) (h6i k z) (fun K h1 h2 => kw K h1 h2 k z) (fun j => r6 k j z) (ws.1 k (by omega))
    · intro k h1 h2
      rw [k2 56 (by omega), k2 58 (by omega)]
      exact ws.2 k (by omega) h2
    · intro k hk
      by_cases z : k = nV
      · subst z
        obtain ⟨t', ht1, ht2⟩ := n2
        exact ⟨t', t', Nat.le_refl _, ht1, n57.trans ht2, (k9 0 (by omega)).trans ht2⟩
      · rw [kw 57 (by omega) (by omega) k z]
        exact iTm_k (k9 0 (by omega)) (wt k (by omega))
    · exact iLk_k (k2 3 (by omega)) (k2 61 (by omega)) (k2 62 (by omega)) (k2 63 (by omega)) (k2 51 (by omega)) (fun w => by rw [k2 7 (by omega)]; exact ⟨rfl, rfl⟩) (fun l => rK 3 l 2 (by omega) (by omega) (by omega)) (fun w => rK 7 w 14 (by omega) (by omega) (by omega)) ⟨lk1, lk2, lk3⟩
    · exact plP_k (fun p => rK 14 0 p (by omega) (by omega) (by omega)) pp
  · rw [fc]
    refine h _ _ _ _ (fun Q' h' => mRw fm ?_)
    refine c_X8_wish hnb M (fun z1 z2 z3 => ?_) (fun _ => ?_)
    · obtain ⟨g, hg, ex⟩ := z1
      obtain ⟨w, hw, ey⟩ := z2
      rw [ex, ey] at z3
      exact absurd ((okW_iff I' hg hw).mpr z3) (q g w hg hw ex ey)
    · rw [fm]
      exact h' _ _ _ K
end STEPS5
