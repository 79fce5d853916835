theorem cLf {hi : ab_I} {hr : ab_R} {cn : ab_C} {k n : Nat} {el : Nat → Nat × Nat} (fc : cR hr = hr) (h : cL hi hr cn k n el) : cL hi (cR hr) cn k n el := by
  rw [fc]
  exact h
theorem scan_lk {hi : ab_I} {p : Int32} {w : Nat} : ∀ (n : Nat) (cur : Option Nat), mScan hi p w n cur = (match lkP hi (nI w) n with | none => (cur, false) | some l => if mShows hi p l = true then mScan hi p w l (some l) else (cur, true))
  | 0, _ => rfl
  | n + 1, cur => by
    have e : lkP hi (nI w) (n + 1) = if decide (hi 61 0 n = nI w) = true then some n else lkP hi (nI w) n := rfl
    have e0 : mScan hi p w (n + 1) cur = if hi 61 0 n = nI w then (if mShows hi p n = true then mScan hi p w n (some n) else (cur, true)) else mScan hi p w n cur := rfl
    rw [e0, e]
    by_cases q : hi 61 0 n = nI w
    · rw [if_pos q, if_pos (decide_eq_true q)]
    · rw [if_neg q, if_neg (by rw [decide_eq_true_eq]; exact q)]
      exact scan_lk n cur
section STEPS
variable {E : ab_E} {d : Nat} {hi : ab_I} {hr : ab_R} {cn : ab_C} {nR nH nW nV nL : Nat}
theorem st_rank (hnb : ab_n E < 2 ^ 31) (I : inv hi hr cn nR nH nW nV nL) {x : Int32} : stp E (d + 20) nX7_rank nX8_rank [.inl x] hi hr cn := by
  have I' := I
  obtain ⟨⟨fc, fm⟩, ⟨c2, c3, c5, c6, c7, c11⟩, ⟨l0, l1, l2, l3⟩, M, ⟨mu, mf⟩, ⟨n1, n2⟩, ⟨s1, s2, s3, s4, s5⟩, mi, ru, ho, ht, wk, hd, rn, ws, wt, ⟨lk1, lk2, lk3⟩, pp⟩ := I
  have M' := M
  obtain ⟨⟨hcR, hR⟩, ⟨hcH, hH⟩, ⟨hcW, hW⟩, ⟨hcV, hV⟩, ⟨hcL, hL⟩, mh, mw, ma, ms, mo, mt⟩ := M'
  have K : Inv hi hr cn := ⟨nR, nH, nW, nV, nL, I'⟩
  intro Q h
  refine cRw fc ?_
  refine c_X7_rank (gh := gH hi) (nr := nR) hnb hV (cLf fc l2) (cLf fc l3) (iRu_rl ru hR) (fun k hk => (ws.1 k hk).2.1) (fun k hk e q => ?_) (fun q => ?_)
  · rw [(rank_eq I' hk).1, fc]
    refine h _ _ _ _ (fun Q' h' => mRw fm ?_)
    refine c_X8_rank hnb M (fun k' hk' e' q' => ?_) (fun q' => absurd ((ws.1 k hk).2.2.2.1.symm.trans q) (q' k hk e))
    rw [fm, (nI_eq (by omega) (by omega)).mp (e'.symm.trans e)]
    exact h' _ _ _ K
  · rw [fc]
    refine h _ _ _ _ (fun Q' h' => mRw fm ?_)
    refine c_X8_rank hnb M (fun k hk e q' => absurd ((ws.1 k hk).2.2.2.1.trans q') (q k hk e)) (fun q' => ?_)
    rw [fm]
    exact h' _ _ _ K
theorem st_next (hnb : ab_n E < 2 ^ 31) (I : inv hi hr cn nR nH nW nV nL) {x : Int32} : stp E (d + 20) nX7_next nX8_next [.inl x] hi hr cn := by
  have I' := I
  obtain ⟨⟨fc, fm⟩, ⟨c2, c3, c5, c6, c7, c11⟩, ⟨l0, l1, l2, l3⟩, M, ⟨mu, mf⟩, ⟨n1, n2⟩, ⟨s1, s2, s3, s4, s5⟩, mi, ru, ho, ht, wk, hd, rn, ws, wt, ⟨lk1, lk2, lk3⟩, pp⟩ := I
  have M' := M
  obtain ⟨⟨hcR, hR⟩, ⟨hcH, hH⟩, ⟨hcW, hW⟩, ⟨hcV, hV⟩, ⟨hcL, hL⟩, mh, mw, ma, ms, mo, mt⟩ := M'
  have K : Inv hi hr cn := ⟨nR, nH, nW, nV, nL, I'⟩
  intro Q h
  refine cRw fc ?_
  refine c_X7_next (gh := gH hi) (gw := gW hi) (nr := nR) (nw := nW) hnb hV (by omega) (cLf fc l1) (cLf fc l2) (cLf fc l3) (iRu_rl ru hR) (fun k hk => (ws.1 k hk).1) (fun k hk => (ws.1 k hk).2.1) (fun k hk => (ws.1 k hk).2.2.1) (fun k hk => by rw [(rank_eq I' hk).1]; exact (rank_eq I' hk).2) (fun W hW' => ?_)
  rcases hW' with ⟨w, hw, e, rfl⟩ | ⟨q, rfl⟩
  · by_cases hs : hi 43 0 w = nI 0
    · rw [nxt_eq I' hw hs, fc]
      refine h _ _ _ _ (fun Q' h' => mRw fm ?_)
      refine c_X8_next hnb M (fun w' hw' e' q' => ?_) (fun q' => absurd hs (q' w hw e))
      rw [fm, (nI_eq (by omega) (by omega)).mp (e'.symm.trans e)]
      exact h' _ _ _ K
    · rw [nxt_none (fun k hk => cand_no I' hs hk), fc]
      refine h _ _ _ _ (fun Q' h' => mRw fm ?_)
      refine c_X8_next hnb M (fun w' hw' e' q' => ?_) (fun q' => ?_)
      · rw [(nI_eq (by omega) (by omega)).mp (e'.symm.trans e)] at q'
        exact absurd q' hs
      · rw [fm]
        exact h' _ _ _ K
  · rw [nxt_none (c := cCan hi (gH hi) (gW hi) none) (fun k hk => by unfold cCan; simp), fc]
    refine h _ _ _ _ (fun Q' h' => mRw fm ?_)
    refine c_X8_next hnb M (fun w hw e _ => absurd e (q w hw)) (fun q' => ?_)
    rw [fm]
    exact h' _ _ _ K
theorem told_eq (I : inv hi hr cn nR nH nW nV nL) {w : Nat} (hw : w < nW) (a : Int32) : cTold hi (hi 44 0 w) w a = mTold hi w a := by
  obtain ⟨-, -, -, -, -, ⟨n1, -⟩, -, -, -, -, -, wk, -⟩ := I
  obtain ⟨-, -, -, w3, w5, w6, w7, w8, w10, w11, w12, -⟩ := wk.1 w hw
  unfold cTold mTold cLate cDays
  rw [w3, w5, w6, w7, w8, w11, w12, n1]
  by_cases q : hi 43 0 w = nI 0
  · have q1 : ¬ hi 43 0 w = nI 1 := by rw [q]; decide
    simp only [if_pos q, if_neg q1, Int32.sub_eq_add_neg, Int32.add_assoc]
  · have z : ∀ x : Int32, x + nI 0 = x := fun x => Int32.add_zero x
    simp only [if_neg q, w10 q, z]
theorem st_told (hnb : ab_n E < 2 ^ 31) (I : inv hi hr cn nR nH nW nV nL) {x a : Int32} : stp E (d + 20) nX7_told nX8_told [.inl x, .inl a] hi hr cn := by
  have I' := I
  obtain ⟨⟨fc, fm⟩, ⟨c2, c3, c5, c6, c7, c11⟩, ⟨l0, l1, l2, l3⟩, M, ⟨mu, mf⟩, ⟨n1, n2⟩, ⟨s1, s2, s3, s4, s5⟩, mi, ru, ho, ht, wk, hd, rn, ws, wt, ⟨lk1, lk2, lk3⟩, pp⟩ := I
  have M' := M
  obtain ⟨⟨hcR, hR⟩, ⟨hcH, hH⟩, ⟨hcW, hW⟩, ⟨hcV, hV⟩, ⟨hcL, hL⟩, mh, mw, ma, ms, mo, mt⟩ := M'
  have K : Inv hi hr cn := ⟨nR, nH, nW, nV, nL, I'⟩
  intro Q h
  refine cRw fc ?_
  refine c_X7_told (ho := fun w => hi 44 0 w) (n := nW) hnb (by omega) (cLf fc l1) (fun w hw e => ?_) (fun w hw => ?_) (fun w hw e => ?_) (fun q => ?_)
  · rcases hd w hw with ⟨q, -⟩ | ⟨-, g, -, -, e9⟩
    · rw [(wk.1 w hw).2.2.2.2.1, q] at e
      exact absurd e (by decide)
    · rw [e9]
      exact fun z => by cases z
  · rcases hd w hw with ⟨-, q, e9⟩ | ⟨-, g, hg, e44, e9⟩
    · exact Or.inl ⟨e9, q⟩
    · exact Or.inr ⟨g, e9, (ho.1 g hg).1.trans e44.symm⟩
  · rw [told_eq I' hw, fc]
    refine h _ _ _ _ (fun Q' h' => mRw fm ?_)
    refine c_X8_told hnb M (fun w' hw' e' => ?_) (fun q' => absurd e (q' w hw))
    rw [fm, (nI_eq (by omega) (by omega)).mp (e'.symm.trans e)]
    exact h' _ _ _ K
  · rw [fc]
    refine h _ _ _ _ (fun Q' h' => mRw fm ?_)
    refine c_X8_told hnb M (fun w hw e => absurd e (q w hw)) (fun q' => ?_)
    rw [fm]
    exact h' _ _ _ K
theorem st_homed (hnb : ab_n E < 2 ^ 31) (I : inv hi hr cn nR nH nW nV nL) {x a : Int32} : stp E (d + 20) nX7_homed nX8_homed [.inl x, .inl a] hi hr cn := by
  have I' := I
  obtain ⟨⟨fc, fm⟩, ⟨c2, c3, c5, c6, c7, c11⟩, ⟨l0, l1, l2, l3⟩, M, ⟨mu, mf⟩, ⟨n1, n2⟩, ⟨s1, s2, s3, s4, s5⟩, mi, ru, ho, ht, wk, hd, rn, ws, wt, ⟨lk1, lk2, lk3⟩, pp⟩ := I
  have M' := M
  obtain ⟨⟨hcR, hR⟩, ⟨hcH, hH⟩, ⟨hcW, hW⟩, ⟨hcV, hV⟩, ⟨hcL, hL⟩, mh, mw, ma, ms, mo, mt⟩ := M'
  have K : Inv hi hr cn := ⟨nR, nH, nW, nV, nL, I'⟩
  intro Q h
  refine cRw fc ?_
  refine c_X7_homed (n := nH) hnb (by omega) (cLf fc l0) (fun w hw e => ?_) (fun q => ?_)
  · have e1 : cHomed hi w a = mHomed hi nW w a := by
      obtain ⟨-, h1, -, -, h4, h5, h6, h7⟩ := ho.1 w hw
      unfold cHomed mHomed
      rw [h1, h4, h5, h6, h7]
    rw [e1, fc]
    refine h _ _ _ _ (fun Q' h' => mRw fm ?_)
    refine c_X8_homed hnb M (fun w' hw' e' => ?_) (fun q' => absurd e (q' w hw))
    rw [fm, (nI_eq (by omega) (by omega)).mp (e'.symm.trans e)]
    exact h' _ _ _ K
  · rw [fc]
    refine h _ _ _ _ (fun Q' h' => mRw fm ?_)
    refine c_X8_homed hnb M (fun w hw e => absurd e (q w hw)) (fun q' => ?_)
    rw [fm]
    exact h' _ _ _ K
theorem st_wished (hnb : ab_n E < 2 ^ 31) (I : inv hi hr cn nR nH nW nV nL) {x a : Int32} : stp E (d + 20) nX7_wished nX8_wished [.inl x, .inl a] hi hr cn := by
  have I' := I
  obtain ⟨⟨fc, fm⟩, ⟨c2, c3, c5, c6, c7, c11⟩, ⟨l0, l1, l2, l3⟩, M, ⟨mu, mf⟩, ⟨n1, n2⟩, ⟨s1, s2, s3, s4, s5⟩, mi, ru, ho, ht, wk, hd, rn, ws, wt, ⟨lk1, lk2, lk3⟩, pp⟩ := I
  have M' := M
  obtain ⟨⟨hcR, hR⟩, ⟨hcH, hH⟩, ⟨hcW, hW⟩, ⟨hcV, hV⟩, ⟨hcL, hL⟩, mh, mw, ma, ms, mo, mt⟩ := M'
  have K : Inv hi hr cn := ⟨nR, nH, nW, nV, nL, I'⟩
  intro Q h
  refine cRw fc ?_
  refine c_X7_wished (n := nV) hnb (by omega) (cLf fc l2) (fun w hw e => ?_) (fun q => ?_)
  · have e1 : cWished hi w a = mWished hi w a := by
      obtain ⟨-, -, -, h3, h4, h5, -⟩ := ws.1 w hw
      unfold cWished mWished
      rw [h3, h4, h5]
    rw [e1, fc]
    refine h _ _ _ _ (fun Q' h' => mRw fm ?_)
    refine c_X8_wished hnb M (fun w' hw' e' => ?_) (fun q' => absurd e (q' w hw))
    rw [fm, (nI_eq (by omega) (by omega)).mp (e'.symm.trans e)]
    exact h' _ _ _ K
  · rw [fc]
    refine h _ _ _ _ (fun Q' h' => mRw fm ?_)
    refine c_X8_wished hnb M (fun w hw e => absurd e (q w hw)) (fun q' => ?_)
    rw [fm]
    exact h' _ _ _ K
theorem st_artist (hnb : ab_n E < 2 ^ 31) (I : inv hi hr cn nR nH nW nV nL) {x : Int32} : stp E (d + 20) nX7_artist nX8_artist [.inl x] hi hr cn := by
  have I' := I
  obtain ⟨⟨fc, fm⟩, ⟨c2, c3, c5, c6, c7, c11⟩, ⟨l0, l1, l2, l3⟩, M, ⟨mu, mf⟩, ⟨n1, n2⟩, ⟨s1, s2, s3, s4, s5⟩, mi, ru, ho, ht, wk, hd, rn, ws, wt, ⟨lk1, lk2, lk3⟩, pp⟩ := I
  have M' := M
  obtain ⟨⟨hcR, hR⟩, ⟨hcH, hH⟩, ⟨hcW, hW⟩, ⟨hcV, hV⟩, ⟨hcL, hL⟩, mh, mw, ma, ms, mo, mt⟩ := M'
  have K : Inv hi hr cn := ⟨nR, nH, nW, nV, nL, I'⟩
  intro Q h
  refine cRw fc ?_
  refine c_X7_artist hnb (fun q => ?_) (fun q => ?_)
  · obtain ⟨a, ha, ea⟩ := ab_rngK (n := 9) (by omega) q.1 q.2
    have e1 : hi 10 0 (ab_ix x) = hi 65 0 (ab_ix x) := by
      rw [ea, ab_ix_nI (by omega)]
      exact s5 a (by omega)
    rw [e1, fc]
    refine h _ _ _ _ (fun Q' h' => mRw fm ?_)
    refine c_X8_artist hnb (fun _ => ?_) (fun q' => absurd q q')
    rw [fm]
    exact h' _ _ _ K
  · rw [fc]
    refine h _ _ _ _ (fun Q' h' => mRw fm ?_)
    refine c_X8_artist hnb (fun q' => absurd q' q) (fun _ => ?_)
    rw [fm]
    exact h' _ _ _ K
theorem st_count (hnb : ab_n E < 2 ^ 31) (I : inv hi hr cn nR nH nW nV nL) {a : Int32} : stp E (d + 20) nX7_count nX8_count [.inl a] hi hr cn := by
  have I' := I
  obtain ⟨⟨fc, fm⟩, ⟨c2, c3, c5, c6, c7, c11⟩, ⟨l0, l1, l2, l3⟩, M, ⟨mu, mf⟩, ⟨n1, n2⟩, ⟨s1, s2, s3, s4, s5⟩, mi, ru, ho, ht, wk, hd, rn, ws, wt, ⟨lk1, lk2, lk3⟩, pp⟩ := I
  have M' := M
  obtain ⟨⟨hcR, hR⟩, ⟨hcH, hH⟩, ⟨hcW, hW⟩, ⟨hcV, hV⟩, ⟨hcL, hL⟩, mh, mw, ma, ms, mo, mt⟩ := M'
  have K : Inv hi hr cn := ⟨nR, nH, nW, nV, nL, I'⟩
  intro Q h
  refine cRw fc ?_
  refine c_X7_count (nh := nH) (nw := nW) (n := nV) hnb hV (cLf fc l0) (cLf fc l1) (cLf fc l2) ?_
  have e1 : cCount hi nH nW nV a = mCount hi nV a := by
    unfold cCount mCount mOpen
    rw [n1, s1, s2, s3, s4, hcH, hcW, hcV, sumI_congr (f := fun k => if hi 56 0 k = nI 0 then nI 1 else nI 0) (fun k hk => by rw [(ws.1 k hk).2.2.2.1])]
  rw [e1, fc]
  refine h _ _ _ _ (fun Q' h' => mRw fm ?_)
  refine c_X8_count hnb M ?_
  rw [fm]
  exact h' _ _ _ K
theorem st_blame (hnb : ab_n E < 2 ^ 31) (I : inv hi hr cn nR nH nW nV nL) {x p : Int32} : stp E (d + 20) nX7_blame nX8_blame [.inl x, .inl p] hi hr cn := by
  have I' := I
  obtain ⟨⟨fc, fm⟩, ⟨c2, c3, c5, c6, c7, c11⟩, ⟨l0, l1, l2, l3⟩, M, ⟨mu, mf⟩, ⟨n1, n2⟩, ⟨s1, s2, s3, s4, s5⟩, mi, ru, ho, ht, wk, hd, rn, ws, wt, ⟨lk1, lk2, lk3⟩, pp⟩ := I
  have M' := M
  obtain ⟨⟨hcR, hR⟩, ⟨hcH, hH⟩, ⟨hcW, hW⟩, ⟨hcV, hV⟩, ⟨hcL, hL⟩, mh, mw, ma, ms, mo, mt⟩ := M'
  have K : Inv hi hr cn := ⟨nR, nH, nW, nV, nL, I'⟩
  intro Q h
  refine cRw fc ?_
  have hY : ∃ Y : Nat → Int32, ∀ l, l < nL → hadB (hi 63 0 l) (Y l) ∧ hi 3 l 1 = if lkP hi (hi 61 0 l) l = none ∨ Y l = -1 then -2 else Y l := by
    refine ⟨fun l => @dite Int32 (l < nL) (Classical.propDecidable _) (fun hl => Classical.choose (lk1 l hl).2.2.2) (fun _ => 0), fun l hl => ?_⟩
    have := Classical.choose_spec (lk1 l hl).2.2.2
    simp only [dif_pos hl]
    exact this
  obtain ⟨Y, hY⟩ := hY
  have sh : ∀ l, l < nL → (cShow hi p l ↔ mShows hi p l = true) := fun l hl => by
    unfold cShow mShows
    rw [(lk1 l hl).2.1, decide_eq_true_eq]
  have lkl : ∀ y n l, lkP hi y n = some l → l < n ∧ hi 61 0 l = y := fun y n l q => by
    have := lst_lt q
    exact ⟨this.1, of_decide_eq_true this.2⟩
  refine c_X7_blame (f := fun w => lkP hi (nI w) nL) (pv := fun l => lkP hi (hi 61 0 l) l) (n := nW) hnb (fun w l => l < nL ∧ hi 61 0 l = nI w ∧ mScan hi p w nL none = mScan hi p w l (some l)) (by omega) (cLf fc l1) (fun w hw => (lk2 w hw).2.2) (fun w l hP => (lk1 l hP.1).2.2.1) (fun l l' q => (lkl _ _ _ q).1) (fun w hw e okp q => ?_) (fun w l hw e okp q1 q2 => ?_) (fun w l l' hP q1 q2 => ?_) (fun w l hw e okp hP q => ?_) (fun q => ?_)
  · have hs : ∃ a, mScan hi p w nL none = (none, a) := by
      rw [scan_lk]
      rcases q with q | ⟨l, q1, q2⟩
      · rw [show lkP hi (nI w) nL = none from q]
        exact ⟨_, rfl⟩
      · rw [show lkP hi (nI w) nL = some l from q1]
        dsimp only
        rw [if_neg (fun z => q2 ((sh l (lkl _ _ _ q1).1).mpr z))]
        exact ⟨_, rfl⟩
    obtain ⟨a, hs⟩ := hs
    rw [fc]
    refine h _ _ _ _ (fun Q' h' => mRw fm ?_)
    refine c_X8_blame (Y := Y) hnb M (fun l hl => hadB_by (hY l hl).1) (fun w' f a' hw' e' _ hs' _ => ?_) (fun w' a' hw' e' _ hs' => ?_) (fun q' => absurd ⟨⟨w, hw, e⟩, okp⟩ q')
    · rw [(nI_eq (by omega) (by omega)).mp (e'.symm.trans e), hs] at hs'
      cases hs'
    · rw [fm]
      exact h' _ _ _ K
  · obtain ⟨b1, b2⟩ := lkl _ _ _ q1
    refine ⟨b1, b2, ?_⟩
    rw [scan_lk, show lkP hi (nI w) nL = some l from q1]
    dsimp only
    rw [if_pos ((sh l b1).mp q2)]
  · obtain ⟨a1, a2, a3⟩ := hP
    obtain ⟨b1, b2⟩ := lkl _ _ _ q1
    refine ⟨by omega, b2.trans a2, ?_⟩
    rw [a3, scan_lk, ← a2, show lkP hi (hi 61 0 l) l = some l' from q1]
    dsimp only
    rw [if_pos ((sh l' (by omega)).mp q2)]
  · obtain ⟨a1, a2, a3⟩ := hP
    obtain ⟨y1, y2⟩ := hY l a1
    have hs : ∃ a, mScan hi p w nL none = (some l, a) ∧ (if a = true ∧ Y l ≠ -1 then Y l else -2) = hi 3 l 1 := by
      rw [a3, scan_lk, ← a2, y2]
      rcases q with q | ⟨l', q1, q2⟩
      · rw [show lkP hi (hi 61 0 l) l = none from q]
        refine ⟨false, rfl, ?_⟩
        rw [if_neg (fun z => by cases z.1), if_pos (Or.inl rfl)]
      · have b1 := (lkl _ _ _ q1).1
        rw [show lkP hi (hi 61 0 l) l = some l' from q1]
        dsimp only
        rw [if_neg (fun z => q2 ((sh l' (by omega)).mpr z))]
        refine ⟨true, rfl, ?_⟩
        by_cases y : Y l = -1
        · rw [if_neg (fun z => z.2 y), if_pos (Or.inr y)]
        · rw [if_pos ⟨rfl, y⟩, if_neg (fun z => z.elim (fun z => by cases z) y)]
    obtain ⟨a, hs, ea⟩ := hs
    rw [fc]
    refine h _ _ _ _ (fun Q' h' => mRw fm ?_)
    refine c_X8_blame (Y := Y) hnb M (fun l hl => hadB_by (hY l hl).1) (fun w' f a' hw' e' _ hs' _ => ?_) (fun w' a' hw' e' _ hs' => ?_) (fun q' => absurd ⟨⟨w, hw, e⟩, okp⟩ q')
    · rw [(nI_eq (by omega) (by omega)).mp (e'.symm.trans e), hs] at hs'
      cases hs'
      rw [ea, fm]
      exact h' _ _ _ K
    · rw [(nI_eq (by omega) (by omega)).mp (e'.symm.trans e), hs] at hs'
      cases hs'
  · rw [fc]
    refine h _ _ _ _ (fun Q' h' => mRw fm ?_)
    refine c_X8_blame (Y := Y) hnb M (fun l hl => hadB_by (hY l hl).1) (fun w f a hw e okp _ _ => absurd ⟨⟨w, hw, e⟩, okp⟩ q) (fun w a hw e okp _ => absurd ⟨⟨w, hw, e⟩, okp⟩ q) (fun q' => ?_)
    rw [fm]
    exact h' _ _ _ K
end STEPS
