section STEPS10
variable {E : ab_E} {d : Nat} {hi : ab_I} {hr : ab_R} {cn : ab_C} {nR nH nW nV nL : Nat}
theorem cNote_7 {l w i j : Nat} {m y : Int32} : cNote hi hr l w m y 7 i j = if i = w ∧ j = 15 then y else if i = w ∧ j = 13 then hi 7 w 13 + nI 1 else hi 7 i j := by
  unfold cNote
  rw [ab_uI_at, ab_uI_at, ab_uI_k (by omega), ab_uI_k (by omega), ab_zI_k (by omega)]
theorem cNote_k {l w K i j : Nat} {m y : Int32} (h : K ≠ 3) (h2 : K ≠ 7) : cNote hi hr l w m y K i j = hi K i j := by
  unfold cNote
  rw [ab_uI_k h2, ab_uI_k h2, ab_uI_k h, ab_uI_k h, ab_zI_k h]
theorem cNote_3i {l w i j : Nat} {m y : Int32} (h : i ≠ l) : cNote hi hr l w m y 3 i j = hi 3 i j := by
  unfold cNote
  rw [ab_uI_k (by omega), ab_uI_k (by omega), ab_uI_i h, ab_uI_i h, ab_zI_i h]
theorem cNote_3 {l w : Nat} {m y : Int32} : cNote hi hr l w m y 3 l 0 = m ∧ cNote hi hr l w m y 3 l 1 = cBl hi hr w := by
  unfold cNote
  rw [ab_uI_k (by omega), ab_uI_k (by omega), ab_uI_j (by omega), ab_uI_e, ab_uI_k (by omega), ab_uI_k (by omega), ab_uI_e]
  exact ⟨rfl, rfl⟩
theorem cNoteR_k {l w K i j : Nat} (h : ¬ (K = 3 ∧ i = l)) (h2 : ¬ (K = 7 ∧ i = w ∧ j = 14)) : cNoteR hr l w K i j = hr K i j := by
  have e1 : ∀ f : ab_R, ab_uR f 7 w 14 (some (3, l)) K i j = f K i j := fun f => by
    by_cases z1 : K = 7
    · by_cases z2 : i = w
      · exact ab_uR_j fun z3 => h2 ⟨z1, z2, z3⟩
      · exact ab_uR_i z2
    · exact ab_uR_k z1
  unfold cNoteR
  rw [e1]
  by_cases z : K = 3
  · rw [ab_uR_i (fun y => h ⟨z, y⟩), ab_zR_i (fun y => h ⟨z, y⟩)]
  · rw [ab_uR_k z, ab_zR_k z]
theorem cNoteR_at {l w : Nat} : cNoteR hr l w 3 l 2 = hr 7 w 14 ∧ cNoteR hr l w 7 w 14 = some (3, l) := by
  unfold cNoteR
  rw [ab_uR_k (by omega), ab_uR_e, ab_uR_e]
  exact ⟨rfl, rfl⟩
theorem mLook_at {l w : Nat} {m : Int32} : mLook hi l w m 61 0 l = nI w ∧ mLook hi l w m 62 0 l = m ∧ mLook hi l w m 63 0 l = hi 51 0 w ∧ mLook hi l w m 9 0 34 = nI (l + 1) ∧ mLook hi l w m 51 0 w = if hi 43 0 w = nI 1 then nI 1 <<< (hi 44 0 w &&& 31) else nI 0 := by
  simp [mLook, ab_uI]
theorem mLook_l {l w K i : Nat} {m : Int32} (h1 : 61 ≤ K) (h2 : K ≤ 63) (h : i ≠ l) : mLook hi l w m K 0 i = hi K 0 i := by
  unfold mLook
  rw [ab_uI_k (by omega), ab_uI_k (by omega), ab_uI_j h, ab_uI_j h, ab_uI_j h]
theorem mLook_51 {l w i : Nat} {m : Int32} (h : i ≠ w) : mLook hi l w m 51 0 i = hi 51 0 i := by
  unfold mLook
  rw [ab_uI_j h, ab_uI_k (by omega), ab_uI_k (by omega), ab_uI_k (by omega), ab_uI_k (by omega)]
theorem mLook_9 {l w j : Nat} {m : Int32} (h : j ≠ 34) : mLook hi l w m 9 0 j = hi 9 0 j := by
  unfold mLook
  rw [ab_uI_k (by omega), ab_uI_j h, ab_uI_k (by omega), ab_uI_k (by omega), ab_uI_k (by omega)]
theorem mLook_k {l w K i j : Nat} {m : Int32} (h : ¬ (K = 61 ∨ K = 62 ∨ K = 63 ∨ K = 9 ∨ K = 51)) : mLook hi l w m K i j = hi K i j := by
  unfold mLook
  rw [ab_uI_k (by omega), ab_uI_k (by omega), ab_uI_k (by omega), ab_uI_k (by omega), ab_uI_k (by omega)]
theorem cNote_q {l w : Nat} {m y : Int32} {hi0 : ab_I} (h : mq hi0 hi) : mq hi0 (cNote hi hr l w m y) := fun K hK => by
  funext i j
  rw [cNote_k (by omega) (by omega), h K hK]
theorem look_inv (I : inv hi hr cn nR nH nW nV nL) {w : Nat} {m y : Int32} (hw : w < nW) (hl : nL < 300) (hy : hadB (if hi 43 0 w = nI 1 then nI 1 <<< (hi 44 0 w &&& 31) else nI 0) y) {hi1 : ab_I} (e1 : hi1 = cNote (ab_uI hi 8 0 12 (hi 8 0 12 + nI 1)) hr nL w m y) : mq hi hi1 ∧ hi 7 w 13 + nI 1 = mLooks (mLook hi1 nL w m) w (nL + 1) ∧ inv (mLook hi1 nL w m) (cNoteR hr nL w) (ab_uC cn 3 (nL + 1)) nR nH nW nV (nL + 1) := by
  have I' := I

  obtain ⟨⟨fc, fm⟩, ⟨c2, c3, c5, c6, c7, c11⟩, ⟨l0, l1, l2, l3⟩, M, ⟨mu, mf⟩, ⟨n1, n2⟩, ⟨s1, s2, s3, s4, s5⟩, mi, ru, ho, ht, wk, hd, rn, ws, wt, ⟨lk1, lk2, lk3⟩, pp⟩ := I
  have M' := M
  obtain ⟨⟨hcR, hR⟩, ⟨hcH, hH⟩, ⟨hcW, hW⟩, ⟨hcV, hV⟩, ⟨hcL, hL⟩, mh, mw, ma, ms, mo, mt⟩ := M'
  have q : mq hi hi1 := by rw [e1]; exact cNote_q (mq_u mq_rf (by omega))
  have B7 : ∀ i j, hi1 7 i j = if i = w ∧ j = 15 then y else if i = w ∧ j = 13 then hi 7 w 13 + nI 1 else hi 7 i j := fun i j => by rw [e1, cNote_7, ab_uI_k (by omega), ab_uI_k (by omega)]
  have BK : ∀ K i j, K ≠ 3 → K ≠ 7 → K ≠ 8 → hi1 K i j = hi K i j := fun K i j z1 z2 z3 => by rw [e1, cNote_k z1 z2, ab_uI_k z3]
  have B8 : ∀ j, j ≠ 12 → hi1 8 0 j = hi 8 0 j := fun j z => by rw [e1, cNote_k (by omega) (by omega), ab_uI_j z]
  have B812 : hi1 8 0 12 = hi 8 0 12 + nI 1 := by rw [e1, cNote_k (by omega) (by omega), ab_uI_e]
  have B3 : ∀ i j, i ≠ nL → hi1 3 i j = hi 3 i j := fun i j z => by rw [e1, cNote_3i z, ab_uI_k (by omega)]
  have B30 : hi1 3 nL 0 = m := by rw [e1]; exact cNote_3.1
  have B31 : hi1 3 nL 1 = cBl hi hr w := by rw [e1]; exact cNote_3.2
  obtain ⟨L61, L62, L63, L34, L51⟩ := mLook_at (hi := hi1) (l := nL) (w := w) (m := m)
  rw [q 51 (by omega)] at L63
  rw [q 43 (by omega), q 44 (by omega)] at L51
  have LL : ∀ K i, 61 ≤ K → K ≤ 63 → i ≠ nL → mLook hi1 nL w m K 0 i = hi K 0 i := fun K i z1 z2 z => by rw [mLook_l z1 z2 z, q K (by omega)]
  have L51i : ∀ i, i ≠ w → mLook hi1 nL w m 51 0 i = hi 51 0 i := fun i z => by rw [mLook_51 z, q 51 (by omega)]
  have L9 : ∀ j, j ≠ 34 → mLook hi1 nL w m 9 0 j = hi 9 0 j := fun j z => by rw [mLook_9 z, q 9 (by omega)]
  have LK : ∀ K, ¬ (K = 61 ∨ K = 62 ∨ K = 63 ∨ K = 9 ∨ K = 51) → mLook hi1 nL w m K = hi1 K := fun K z => by
    funext i j
    exact mLook_k z
  generalize eh : mLook hi1 nL w m = hi2 at *
  have kK : ∀ K, ¬ (K = 3 ∨ K = 7 ∨ K = 8 ∨ K = 61 ∨ K = 62 ∨ K = 63 ∨ K = 9 ∨ K = 51) → hi2 K = hi K := fun K z => by
    rw [LK K (by omega)]
    funext i j
    exact BK K i j (by omega) (by omega) (by omega)
  have k7 : ∀ i j, hi2 7 i j = if i = w ∧ j = 15 then y else if i = w ∧ j = 13 then hi 7 w 13 + nI 1 else hi 7 i j := fun i j => by rw [LK 7 (by omega), B7]
  have rK : ∀ K i j, ¬ (K = 3 ∧ i = nL) → ¬ (K = 7 ∧ i = w ∧ j = 14) → cNoteR hr nL w K i j = hr K i j := fun K i j z1 z2 => cNoteR_k z1 z2
  have looks : ∀ w', mLooks hi2 w' (nL + 1) = mLooks hi w' nL + (if nI w = nI w' then nI 1 else nI 0) := fun w' => by
    show mLooks hi2 w' nL + (if hi2 61 0 nL = nI w' then nI 1 else nI 0) = _
    rw [L61]
    congr 1
    exact sumI_congr (fun l hl => by rw [LL 61 l (by omega) (by omega) (by omega)])
  have lks : ∀ w', lkP hi2 (nI w') (nL + 1) = if nI w = nI w' then some nL else lkP hi (nI w') nL := fun w' => by
    show (if decide (hi2 61 0 nL = nI w') = true then some nL else lkP hi2 (nI w') nL) = _
    rw [L61, lkP_congr (hi := hi) (fun l hl => LL 61 l (by omega) (by omega) (by omega))]
    simp only [decide_eq_true_eq]
  obtain ⟨u1, u2, u3⟩ := lk2 w hw
  refine ⟨q, ?_, ⟨?_, ?_⟩, ?_, ?_, ?_, ⟨?_, ?_⟩, ?_, ?_, ?_, ?_, ?_, ?_, ?_, ?_, ?_, ?_, ?_, ⟨?_, ?_, ?_⟩, ?_⟩
  · rw [looks w, if_pos rfl, u1]
  · exact cR_fix fc (fun K i j z => rK K i j (by rintro ⟨rfl, -⟩; cases z) (by rintro ⟨rfl, -, rfl⟩; cases z))
  · exact mR_fix fm (fun K i j z => rK K i j (by rintro ⟨rfl, -⟩; cases z) (by rintro ⟨rfl, -, rfl⟩; cases z))
  · refine ⟨?_, ab_uC_e, ?_, ?_, ?_, ?_⟩
    · rw [ab_uC_k (by omega)]; exact c2
    · rw [ab_uC_k (by omega)]; exact c5
    · rw [ab_uC_k (by omega)]; exact c6
    · rw [ab_uC_k (by omega)]; exact c7
    · rw [ab_uC_k (by omega)]; exact c11
  · have e0 : ∀ k, hi2 0 k 2 = hi 0 k 2 := fun k => by rw [kK 0 (by omega)]
    exact ⟨cL_congr (e0 0) (rK 0 0 1 (by omega) (by omega)) (fun g j => rK _ g j (by omega) (by omega)) (ab_uC_k (by omega)) l0, cL_congr (e0 1) (rK 0 1 1 (by omega) (by omega)) (fun g j => rK _ g j (by omega) (by omega)) (ab_uC_k (by omega)) l1, cL_congr (e0 2) (rK 0 2 1 (by omega) (by omega)) (fun g j => rK _ g j (by omega) (by omega)) (ab_uC_k (by omega)) l2, cL_congr (e0 3) (rK 0 3 1 (by omega) (by omega)) (fun g j => rK _ g j (by omega) (by omega)) (ab_uC_k (by omega)) l3⟩
  · unfold mok
    rw [L9 3 (by omega), L9 10 (by omega), L9 23 (by omega), L9 30 (by omega), L34, kK 54 (by omega), kK 55 (by omega), kK 41 (by omega), kK 45 (by omega), kK 43 (by omega), kK 44 (by omega), kK 35 (by omega)]
    exact ⟨⟨hcR, hR⟩, ⟨hcH, hH⟩, ⟨hcW, hW⟩, ⟨hcV, hV⟩, ⟨rfl, hl⟩, mh, mw, ma, ms, mo, mt⟩
  · unfold mU
    rw [kK 54 (by omega), kK 55 (by omega), kK 56 (by omega)]
    exact mu
  · unfold mF
    rw [kK 81 (by omega)]
    exact mf
  · unfold iNow
    rw [LK 8 (by omega), B8 8 (by omega), L9 0 (by omega)]
    exact ⟨n1, n2⟩
  · unfold iSum
    rw [LK 8 (by omega), B8 9 (by omega), B8 10 (by omega), B8 11 (by omega), B812, L9 36 (by omega), L9 37 (by omega), L9 38 (by omega), L34, kK 10 (by omega), kK 65 (by omega), s4, hcL, nI_add]
    exact ⟨s1, s2, s3, rfl, s5⟩
  · unfold iMi
    rw [kK 13 (by omega), kK 81 (by omega)]
    exact mi
  · exact iRu_k (kK 5 (by omega)) (kK 82 (by omega)) (kK 34 (by omega)) ru
  · exact ⟨fun g hg => hmI_congr (hi := hi) (nW := nW) (fun j => by rw [kK 2 (by omega)]) (fun K h1 h2 => by rw [kK K (by omega)]) (fun p => mlent_congr (fun w _ => by rw [kK 42 (by omega), kK 43 (by omega), kK 44 (by omega)]; exact ⟨rfl, rfl, rfl⟩)) (ho.1 g hg), fun g h1 h2 => by
      rw [kK 38 (by omega), kK 39 (by omega)]
      exact ho.2 g h1 h2⟩
  · intro g hg
    rw [kK 37 (by omega)]
    exact iTm_k (L9 0 (by omega)) (ht g hg)
  · refine ⟨fun w' hw' => wkI_congr (hi := hi) (fun j hj => ?_) (fun K h1 h2 => by rw [kK K (by omega)]) (wk.1 w' hw'), fun w' h1 h2 => ?_⟩
    · rw [k7, if_neg (by omega), if_neg (by omega)]
    · rw [kK 43 (by omega), kK 47 (by omega), kK 48 (by omega), kK 49 (by omega)]
      exact wk.2 w' h1 h2
  · exact iHd_k (kK 43 (by omega)) (kK 44 (by omega)) (fun w' => rK 7 w' 9 (by omega) (by omega)) hd
  · exact iRn_k (kK 11 (by omega)) (kK 102 (by omega)) rn
  · exact iWs_k (kK 6 (by omega)) (fun K h1 h2 => kK K (by omega)) (fun i j => rK 6 i j (by omega) (by omega)) ws
  · intro k hk
    rw [kK 57 (by omega)]
    exact iTm_k (L9 0 (by omega)) (wt k hk)
  · intro l hl'
    by_cases z : l = nL
    · subst z
      have e3 : lkP hi2 (hi2 61 0 l) l = lkP hi (nI w) l := by
        rw [L61]
        exact lkP_congr (hi := hi) (fun l' hl' => LL 61 l' (by omega) (by omega) (by omega))
      refine ⟨⟨w, hw, L61⟩, ?_, ?_, hi 7 w 15, ?_, ?_⟩
      · rw [LK 3 (by omega), B30, L62]
      · rw [cNoteR_at.1, u3, e3]
      · rw [L63]
        exact u2
      · rw [LK 3 (by omega), B31, e3]
        unfold cBl
        rw [u3]
        have e4 : lr (lkP hi (nI w) l) = none ↔ lkP hi (nI w) l = none := by
          rcases lkP hi (nI w) l with _ | v
          · exact ⟨fun _ => rfl, fun _ => rfl⟩
          · exact ⟨fun z => (by cases z), fun z => (by cases z)⟩
        simp only [e4]
    · refine lkI_congr (hi := hi) (hr := hr) (Nat.le_refl _) (fun j => by rw [LK 3 (by omega)]; exact B3 l j z) (fun l' hl' => LL 61 l' (by omega) (by omega) (by omega)) (LL 62 l (by omega) (by omega) z) (LL 63 l (by omega) (by omega) z) (rK 3 l 2 (by omega) (by omega)) (lk1 l (by omega))
  · intro w' hw'
    by_cases z : w' = w
    · subst z
      refine ⟨?_, ?_, ?_⟩
      · rw [k7, if_neg (by omega), if_pos (by omega), looks w', if_pos rfl, u1]
      · rw [k7, if_pos (by omega), L51]
        exact hy
      · rw [cNoteR_at.2, lks w', if_pos rfl]
        rfl
    · have ne : ¬ nI w = nI w' := fun y => z ((nI_eq (by omega) (by omega)).mp y).symm
      obtain ⟨v1, v2, v3⟩ := lk2 w' hw'
      refine ⟨?_, ?_, ?_⟩
      · rw [k7, if_neg (by omega), if_neg (by omega), looks w', if_neg ne, v1]
        exact (Int32.add_zero _).symm
      · rw [k7, if_neg (by omega), if_neg (by omega), L51i w' z]
        exact v2
      · rw [rK 7 w' 14 (by omega) (by omega), lks w', if_neg ne]
        exact v3
  · intro w' h1 h2
    rw [L51i w' (by omega)]
    exact lk3 w' h1 h2
  · exact plP_k (fun p => rK 14 0 p (by omega) (by omega)) pp
theorem st_look (hnb : ab_n E < 2 ^ 31) (I : inv hi hr cn nR nH nW nV nL) {x m : Int32} : stp E (d + 20) nX7_look nX8_look [.inl x, .inl m] hi hr cn := by
  have I' := I
  obtain ⟨⟨fc, fm⟩, ⟨c2, c3, c5, c6, c7, c11⟩, ⟨l0, l1, l2, l3⟩, M, ⟨mu, mf⟩, ⟨n1, n2⟩, ⟨s1, s2, s3, s4, s5⟩, mi, ru, ho, ht, wk, hd, rn, ws, wt, ⟨lk1, lk2, lk3⟩, pp⟩ := I
  have M' := M
  obtain ⟨⟨hcR, hR⟩, ⟨hcH, hH⟩, ⟨hcW, hW⟩, ⟨hcV, hV⟩, ⟨hcL, hL⟩, mh, mw, ma, ms, mo, mt⟩ := M'
  have K : Inv hi hr cn := ⟨nR, nH, nW, nV, nL, I'⟩
  intro Q h
  refine cRw fc ?_
  have lim : hi 8 0 12 < nI 300 ↔ nL < 300 := by
    rw [s4, hcL]
    exact nI_ltI (by omega) (by omega)
  have stt : ∀ w, w < nW → (¬ (hi 7 w 5 = nI 2 ∨ hi 7 w 5 = nI 3) ↔ ¬ nI 1 < hi 43 0 w) := fun w hw => by
    obtain ⟨-, -, -, -, x5, -, -, -, -, -, -, s, hs, es⟩ := wk.1 w hw
    rw [x5, es, nI_eq (by omega) (by omega), nI_eq (by omega) (by omega), nI_ltI (by omega) (by omega)]
    omega
  have main : ∀ w y, w < nW → x = nI w → ¬ nI 1 < hi 43 0 w → okIn m 0 65535 → nL < 300 → hadB (if hi 43 0 w = nI 1 then nI 1 <<< (hi 44 0 w &&& 31) else nI 0) y → Q (some (.inl (hi 7 w 13 + nI 1))) (cNote (ab_uI hi 8 0 12 (hi 8 0 12 + nI 1)) hr nL w m y) (cR (cNoteR hr nL w)) (ab_uC cn 3 (nL + 1)) := fun w y hw e q1 q2 q3 hy => by
    obtain ⟨q, ea, J⟩ := look_inv I' (m := m) hw q3 hy rfl
    rw [J.1.1, ea]
    refine h _ _ _ _ (fun Q' h' => mRw J.1.2 ?_)
    refine c_X8_look hnb (mok_q q M) (fun w' hw' e' _ _ _ => ?_) (fun q' => absurd ⟨w, hw, e, by rw [q 43 (by omega)]; exact q1, q2, q3⟩ q')
    have ew := (nI_eq (by omega) (by omega)).mp (e'.symm.trans e)
    subst ew
    rw [J.1.2]
    exact h' _ _ _ ⟨nR, nH, nW, nV, nL + 1, J⟩
  refine c_X7_look (n := nW) (l := nL) hnb (by omega) (cLf fc l1) c3 (fun w hw K i e => ?_) (fun w g hw e q1 q2 q3 q4 q5 => ?_) (fun w hw e q1 q2 q3 q4 => ?_) (fun q => ?_)
  · rcases hd w hw with ⟨-, -, z⟩ | ⟨-, g, -, -, z⟩
    · rw [z] at e
      cases e
    · rw [z] at e
      cases e
      rfl
  · have es : hi 43 0 w = nI 1 := (wk.1 w hw).2.2.2.2.1.symm.trans q4
    refine main w (hi 2 g 0) hw e ((stt w hw).mp q1) q2 (lim.mp q3) ?_
    rcases hd w hw with ⟨z, -⟩ | ⟨-, g', z1, z2, z3⟩
    · rw [es] at z
      exact absurd z (by decide)
    · rw [q5] at z3
      cases z3
      rw [if_pos es, z2, (ho.1 g z1).1]
      exact Or.inr (Or.inl ⟨g, by omega, rfl, rfl⟩)
  · have es : ¬ hi 43 0 w = nI 1 := fun z => by
      apply q4
      refine ⟨(wk.1 w hw).2.2.2.2.1.trans z, ?_⟩
      rcases hd w hw with ⟨y, -⟩ | ⟨-, g', z1, z2, z3⟩
      · rw [z] at y
        exact absurd y (by decide)
      · rw [z3]
        exact fun y => by cases y
    refine main w (-1) hw e ((stt w hw).mp q1) q2 (lim.mp q3) ?_
    rw [if_neg es]
    exact Or.inl ⟨rfl, rfl⟩
  · rw [fc]
    refine h _ _ _ _ (fun Q' h' => mRw fm ?_)
    refine c_X8_look hnb M (fun w hw e q1 q2 q3 => absurd ⟨(stt w hw).mpr q1, q2, lim.mpr q3⟩ (q w hw e)) (fun _ => ?_)
    rw [fm]
    exact h' _ _ _ K
end STEPS10
