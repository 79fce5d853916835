def plO (ws : List Nat) (Ns : Nat → List Nat) (k : Nat) : List Nat := if k < ws.length then Ns (ws.getD k 0) else []
/-- the plan has been made -/
def mkMade (hi : ab_I) (hr : ab_R) (n : Nat) (m : Nat → Nat) (cd : Nat → Nat → Bool) (gh : Nat → Nat) (hi' : ab_I) (hr' : ab_R) (ws : List Nat) (Ns : Nat → List Nat) (s : Nat → Nat) (b : pl_X) : Prop :=
  plF hi hr hi' hr' ∧ plP hr' s ∧ ws.Pairwise (· < ·) ∧ (0 < ws.length ∧ ws.length ≤ 4) ∧ (∀ w, w ∈ ws ↔ ∃ v, v < n ∧ cd w v = true) ∧ (∀ w ∈ ws, pl_near (flt (cd w) n) (Ns w) m) ∧ pl_go (plO ws Ns) gh (fun _ v => m v) ws.length 0 [] 0 0 [] (some (0, 0, List.replicate ws.length none)) = some b ∧ hi' 4 0 1 = nI ws.length ∧ hi' 4 0 4 = nI b.2.1 ∧ (∀ (p w : Nat), ws[p]? = some w → hr' 1 (s p) 2 = some (7, w) ∧ hr' 1 (s p) 5 = wx (b.2.2.getD p none))
/-- it can't be made -/
def mkNot (n nw : Nat) (cd : Nat → Nat → Bool) : Prop := (∀ w v, v < n → cd w v = false) ∨ ∃ l : List Nat, l.length = 5 ∧ l.Nodup ∧ ∀ w ∈ l, w < nw ∧ ∃ v, v < n ∧ cd w v = true
/-- what the class's plan rests on -/
def mkOn (hi : ab_I) (hr : ab_R) (cn : ab_C) (n nw : Nat) (gh gw st tt m : Nat → Nat) : Prop :=
  n ≤ 200 ∧ nw ≤ 200 ∧ cL hi (cR hr) cn 2 n (fun j => (6, j)) ∧ (∃ s, plP hr s) ∧ (∀ u, u < nw → hi 7 u 0 = nI u) ∧ (∀ k, k < n → hr 6 k 1 = some (2, gh k) ∧ gh k < 20 ∧ hi 2 (gh k) 0 = nI (gh k)) ∧ (∀ k, k < n → hr 6 k 2 = some (7, gw k) ∧ gw k < nw) ∧ (∀ k, k < n → st k < 4 ∧ hi 7 (gw k) 6 = nI (st k)) ∧ (∀ k, k < n → tt k < 4 ∧ hi 2 (gh k) 1 = nI (tt k)) ∧ ∀ k, k < n → hi 13 (st k) (tt k) = nI (m k) ∧ m k ≤ 500
theorem getD_at {ws : List Nat} {k : Nat} (h : k < ws.length) : ws[k]? = some (ws.getD k 0) := by
  rw [List.getD_eq_getElem?_getD, List.getElem?_eq_getElem h]
  rfl
section MKP
variable {E : ab_E} {d : Nat} {hi : ab_I} {hr : ab_R} {cn : ab_C} {Q : ab_Q}
theorem c_X3_make (hnb : ab_n E < 2 ^ 31) {R : ab_I → ab_R → ab_C → Prop} (H : ∀ Q' : ab_Q, (∀ hi' hr' cn', R hi' hr' cn' → Q' none hi' hr' cn') → ab_Wm E d nX3_choose [.inr (some (4, 0)), .inl (nI 0), .inl (nI 0), .inl (nI 0), .inl (nI 0)] hi hr cn Q') (h : ∀ hi' hr' cn', R hi' hr' cn' → Q none hi' hr' cn') : ab_Wm E (d + 1) nX3_make [.inr (some (4, 0))] hi hr cn Q := by
  refine ab_Wm_of gX3_make kX3_make 0 rfl rfl hnb (fun J step drop less => ?_)
  refine step 0 _ _ _ _ _ _ _ ?_
  dsimp [ab_at, gX3_make, nX3_make, ab_vc, ab_v1, ab_lk, ab_st, ab_en, ab_cst, ab_mc, ab_mS, ab_tk, ab_ns, cR, ab_ia, ab_ra, ab_oa, ab_tg, ab_len, ab_uI, ab_uR]
  refine H _ (fun hi' hr' cn' hq => ?_)
  refine step 8 _ _ _ _ _ _ _ ?_
  dsimp [ab_at, gX3_make, nX3_make, ab_vc, ab_v1, ab_lk, ab_st, ab_en, ab_cst, ab_mc, ab_mS, ab_tk, ab_ns, cR, ab_ia, ab_ra, ab_oa, ab_tg, ab_len, ab_uI, ab_uR]
  exact h hi' hr' cn' hq
theorem c_X7_makePlan (hnb : ab_n E < 2 ^ 31) {n nw : Nat} {gh gw st tt m : Nat → Nat} (M : mkOn hi hr cn n nw gh gw st tt m)
    (h1 : ∀ hi' hr' ws Ns s b, mkMade hi hr n m (cCd hi gh gw) gh hi' hr' ws Ns s b → Q (some (.inl (nI 1))) hi' (cR hr') cn)
    (h0 : ∀ hi' hr' s, plF hi hr hi' hr' → plP hr' s → mkNot n nw (cCd hi gh gw) → Q (some (.inl (nI 0))) hi' (cR hr') cn) : ab_Wm E (d + 8) nX7_makePlan [cO] hi (cR hr) cn Q := by
  obtain ⟨hn, hnw, C, ⟨s0, P0⟩, hnum, hg, hw, hs, ht, hm⟩ := M
  have CF : ∀ hi1 hr1, plF hi hr hi1 hr1 → cL hi1 (cR hr1) cn 2 n (fun j => (6, j)) := fun hi1 hr1 f => by
    have e2 : hr1 0 2 1 = hr 0 2 1 := f.2 0 2 1 (by omega) (by omega) (by omega)
    have e19 : ∀ g j, hr1 19 g j = hr 19 g j := fun g j => f.2 19 g j (by omega) (by omega) (by omega)
    refine ⟨(f.1 0 2 2 (by omega) (by omega) (by omega)).trans C.1, ?_⟩
    rcases C.2 with ⟨c1, c2, c3⟩ | ⟨g, c1, c2, c3, c4, c5⟩
    · exact Or.inl ⟨c1, e2.trans c2, c3⟩
    · exact Or.inr ⟨g, e2.trans c1, c2, c3, c4, fun j hj => (e19 g j).trans (c5 j hj)⟩
  refine ab_Wm_of gX7_makePlan kX7_makePlan 2 rfl rfl hnb (fun J step drop less => ?_)
  have loop : ∀ mm k, k + mm = n → ∀ hi1 hr1, mkI hi hr m (cCd hi gh gw) nw k hi1 hr1 → J 9 [(0, cO), (1, .inl (nI k))] [] hi1 (cR hr1) cn 0 0 := by
    intro mm
    induction mm with
    | zero =>
      intro k hk hi1 hr1 I
      have hk : k = n := by omega
      subst hk
      obtain ⟨ws, Ns, s, i1, i2, i3, i4, i5, i6, i7⟩ := I
      refine step 9 _ _ _ _ _ _ _ ?_
      dsimp [ab_at, gX7_makePlan, nX7_makePlan, ab_vc, ab_v1, ab_lk, ab_st, ab_en, ab_cst, ab_mc, ab_mS, ab_tk, ab_ns, cR, ab_ia, ab_ra, ab_oa, ab_tg, ab_len, ab_uI, ab_uR]
      refine c_AL_size hnb (CF hi1 hr1 i1) ?_
      refine step 17 _ _ _ _ _ _ _ ?_
      dsimp [ab_at, gX7_makePlan, nX7_makePlan, ab_vc, ab_v1, ab_lk, ab_st, ab_en, ab_cst, ab_mc, ab_mS, ab_tk, ab_ns, cR, ab_ia, ab_ra, ab_oa, ab_tg, ab_len, ab_uI, ab_uR]
      refine ⟨fun _ => ?_, fun q => absurd (Int32.le_refl _) q⟩
      refine step 58 _ _ _ _ _ _ _ ?_
      dsimp [ab_at, gX7_makePlan, nX7_makePlan, ab_vc, ab_v1, ab_lk, ab_st, ab_en, ab_cst, ab_mc, ab_mS, ab_tk, ab_ns, cR, ab_ia, ab_ra, ab_oa, ab_tg, ab_len, ab_uI, ab_uR]
      refine c_X3_canBeAsked hnb (fun q1 q2 => ?_) (fun q => ?_)
      · obtain ⟨t1, t2, t3, t4⟩ := i2
        have j : ∀ w v, v < k → cCd hi gh gw w v = true → w ∈ ws := by
          rcases i7 with ⟨-, j⟩ | ⟨j1, -⟩
          · exact j
          · rw [j1] at q2
            exact absurd q2 (by decide)
        have hpos : 0 < ws.length := by
          rcases Nat.eq_zero_or_pos ws.length with z | z
          · rw [t2, z] at q1
            exact absurd (Int32.le_refl _) q1
          · exact z
        have PQ : plQ hi1 hr1 ws.length (plO ws Ns) gh m s := by
          refine ⟨t1, t2, fun p hp => ?_, fun p hp v hv => ?_⟩
          · have := (t4 p _ (getD_at hp)).2.2.2
            unfold plO
            rw [if_pos hp]
            exact this
          · unfold plO at hv
            rw [if_pos hp] at hv
            have hin := List.mem_of_getElem? (getD_at hp)
            have hv' := (flt_mem.mp ((i6 _ hin).2.2.1.subset hv)).1
            obtain ⟨g1, g2, g3⟩ := hg v hv'
            exact ⟨(i1.2 6 v 1 (by omega) (by omega) (by omega)).trans g1, (i1.1 2 (gh v) 0 (by omega) (by omega) (by omega)).trans g3, g2⟩
        have B0 : beC hi1 hr1 ws.length s (0, 0, List.replicate ws.length none) := ⟨i4, i5, by show 0 ≤ 4; omega, by show 0 ≤ 2000; omega, List.length_replicate, fun p hp => by
          rw [(t4 p _ (getD_at hp)).2.2.1, List.getD_eq_getElem?_getD, List.getElem?_replicate, if_pos hp]
          rfl⟩
        refine step 65 _ _ _ _ _ _ _ ?_
        dsimp [ab_at, gX7_makePlan, nX7_makePlan, ab_vc, ab_v1, ab_lk, ab_st, ab_en, ab_cst, ab_mc, ab_mS, ab_tk, ab_ns, cR, ab_ia, ab_ra, ab_oa, ab_tg, ab_len, ab_uI, ab_uR]
        refine ⟨fun _ => ?_, fun q => absurd q (by decide)⟩
        refine step 70 _ _ _ _ _ _ _ ?_
        dsimp [ab_at, gX7_makePlan, nX7_makePlan, ab_vc, ab_v1, ab_lk, ab_st, ab_en, ab_cst, ab_mc, ab_mS, ab_tk, ab_ns, cR, ab_ia, ab_ra, ab_oa, ab_tg, ab_len, ab_uI, ab_uR]
        refine c_X3_make (R := fun hi' hr' cn' => cn' = cn ∧ ∃ hr2, hr' = cR hr2 ∧ pcS hi1 hr1 hi' hr2 ∧ beC hi' hr2 ws.length s (pl_gp (plO ws Ns) gh (fun _ v => m v) ws.length 0 [] 0 0 [] (0, 0, List.replicate ws.length none))) hnb (fun Q' hq' => ?_) (fun hi' hr' cn' hR => ?_)
        · have H := c_X3_choose (E := E) (cn := cn) hnb t3 PQ ws.length 0 (by omega) (d + (4 - ws.length)) [] (nI 0) 0 0 [] hi1 hr1 (0, 0, List.replicate ws.length none) Q' ⟨fun _ _ _ _ => rfl, fun _ _ _ _ => rfl⟩ (fun h _ => tb_zero h) (by omega) (by omega) rfl (fun i hi' => absurd hi' (by show ¬ i < 0; omega)) B0 (fun hi' hr' s' l' b' => hq' hi' (cR hr') cn ⟨rfl, hr', rfl, s', b'⟩)
          rw [show d + (4 - ws.length) + ws.length + 2 = d + 6 by omega] at H
          exact H
        · obtain ⟨rfl, hr2, rfl, s', b'⟩ := hR
          refine step 77 _ _ _ _ _ _ _ ?_
          dsimp [ab_at, gX7_makePlan, nX7_makePlan, ab_vc, ab_v1, ab_lk, ab_st, ab_en, ab_cst, ab_mc, ab_mS, ab_tk, ab_ns, cR, ab_ia, ab_ra, ab_oa, ab_tg, ab_len, ab_uI, ab_uR]
          refine ⟨Or.inr rfl, h1 hi' hr2 ws Ns s _ ⟨plF_tr i1 ⟨fun K i j a b c => s'.1 K i j (fun z => b z.1), fun K i j a b c => s'.2 K i j (fun z => a z.1)⟩, ⟨fun p hp => ⟨(t1.1 p hp).1, (s'.2 14 0 p (by omega)).trans (t1.1 p hp).2⟩, t1.2⟩, i3, ⟨hpos, t3⟩, fun w => ⟨fun hin => ?_, fun ⟨v, hv, hc⟩ => j w v hv hc⟩, fun w hin => (i6 w hin).2.2, pl_gp_eq _ _ _ _ _ _ _ _ _ _, (s'.1 4 0 1 (by omega)).trans t2, b'.2.1, fun p w hp => ⟨(s'.2 1 (s p) 2 (by omega)).trans (t4 p w hp).1, b'.2.2.2.2.2 p (List.getElem?_eq_some_iff.mp hp).1⟩⟩⟩
          obtain ⟨v, hv⟩ := List.exists_mem_of_ne_nil _ (i6 w hin).2.1
          exact ⟨v, flt_mem.mp hv⟩
      · refine step 65 _ _ _ _ _ _ _ ?_
        dsimp [ab_at, gX7_makePlan, nX7_makePlan, ab_vc, ab_v1, ab_lk, ab_st, ab_en, ab_cst, ab_mc, ab_mS, ab_tk, ab_ns, cR, ab_ia, ab_ra, ab_oa, ab_tg, ab_len, ab_uI, ab_uR]
        refine ⟨fun q => absurd rfl q, fun _ => ⟨Or.inl rfl, h0 hi1 hr1 s i1 i2.1 ?_⟩⟩
        rcases i7 with ⟨j1, j2⟩ | ⟨j1, j2, w, v, j3, j4, j5, j6⟩
        · left
          have hz : ws.length = 0 := by
            rcases Nat.eq_zero_or_pos ws.length with z | z
            · exact z
            · exfalso
              apply q
              have t3 := i2.2.2.1
              rw [i2.2.1]
              exact ⟨nI_nle z (by omega), j1⟩
          intro w v hv
          rw [Bool.eq_false_iff]
          intro hc
          have := j2 w v hv hc
          rw [List.eq_nil_of_length_eq_zero hz] at this
          cases this
        · right
          refine ⟨w :: ws, by show ws.length + 1 = 5; omega, ?_, fun u hu => ?_⟩
          · rw [List.nodup_cons]
            exact ⟨j6, srt_nd i3⟩
          · rcases List.mem_cons.mp hu with rfl | hu
            · exact ⟨j4, v, j3, j5⟩
            · obtain ⟨b1, b2, -⟩ := i6 u hu
              obtain ⟨v', hv'⟩ := List.exists_mem_of_ne_nil _ b2
              exact ⟨b1, v', flt_mem.mp hv'⟩
    | succ mm ih =>
      intro k hk hi1 hr1 I
      have f1 : plF hi hr hi1 hr1 := I.choose_spec.choose_spec.choose_spec.1
      obtain ⟨g1, g2, g3⟩ := hg k (by omega)
      obtain ⟨w1, w2⟩ := hw k (by omega)
      obtain ⟨a1, a2⟩ := hs k (by omega)
      obtain ⟨b1, b2⟩ := ht k (by omega)
      obtain ⟨m1, m2⟩ := hm k (by omega)
      have on : ∀ hi2 hr2 v, mkI hi hr m (cCd hi gh gw) nw (k + 1) hi2 hr2 → J 52 [(0, cO), (1, .inl (nI k)), (2, v)] [] hi2 (cR hr2) cn 0 0 := fun hi2 hr2 v I2 => by
        refine step 52 _ _ _ _ _ _ _ ?_
        dsimp [ab_at, gX7_makePlan, nX7_makePlan, ab_vc, ab_v1, ab_lk, ab_st, ab_en, ab_cst, ab_mc, ab_mS, ab_tk, ab_ns, cR, ab_ia, ab_ra, ab_oa, ab_tg, ab_len, ab_uI, ab_uR]
        rw [nI_add]
        exact drop _ _ _ _ _ _ _ _ _ ab_dr2 (ih (k + 1) (by omega) hi2 hr2 I2)
      have e1 : hr1 6 k 1 = some (2, gh k) := (f1.2 6 k 1 (by omega) (by omega) (by omega)).trans g1
      have e2 : hr1 6 k 2 = some (7, gw k) := (f1.2 6 k 2 (by omega) (by omega) (by omega)).trans w1
      have e3 : hi1 7 (gw k) 6 = nI (st k) := (f1.1 7 (gw k) 6 (by omega) (by omega) (by omega)).trans a2
      have e4 : hi1 2 (gh k) 1 = nI (tt k) := (f1.1 2 (gh k) 1 (by omega) (by omega) (by omega)).trans b2
      have e5 : hi1 13 (st k) (tt k) = nI (m k) := (f1.1 13 (st k) (tt k) (by omega) (by omega) (by omega)).trans m1
      have sv : cSv hi1 k (gh k) (gw k) ↔ (decide (hi 6 k 3 = nI 0) && decide (hi 7 (gw k) 5 = nI 0) && decide (hi 2 (gh k) 4 + hi 7 (gw k) 3 ≤ hi 2 (gh k) 2)) = true := by
        unfold cSv
        rw [f1.1 6 k 3 (by omega) (by omega) (by omega), f1.1 7 (gw k) 5 (by omega) (by omega) (by omega), f1.1 2 (gh k) 4 (by omega) (by omega) (by omega), f1.1 7 (gw k) 3 (by omega) (by omega) (by omega), f1.1 2 (gh k) 2 (by omega) (by omega) (by omega), Bool.and_eq_true, Bool.and_eq_true, decide_eq_true_eq, decide_eq_true_eq, decide_eq_true_eq, and_assoc]
      refine step 9 _ _ _ _ _ _ _ ?_
      dsimp [ab_at, gX7_makePlan, nX7_makePlan, ab_vc, ab_v1, ab_lk, ab_st, ab_en, ab_cst, ab_mc, ab_mS, ab_tk, ab_ns, cR, ab_ia, ab_ra, ab_oa, ab_tg, ab_len, ab_uI, ab_uR]
      refine c_AL_size hnb (CF hi1 hr1 f1) ?_
      refine step 17 _ _ _ _ _ _ _ ?_
      dsimp [ab_at, gX7_makePlan, nX7_makePlan, ab_vc, ab_v1, ab_lk, ab_st, ab_en, ab_cst, ab_mc, ab_mS, ab_tk, ab_ns, cR, ab_ia, ab_ra, ab_oa, ab_tg, ab_len, ab_uI, ab_uR]
      refine ⟨fun q => absurd ((nI_leI (by omega) (by omega)).mp q) (by omega), fun _ => ?_⟩
      refine c_AL_get hnb (by omega) (by omega) (CF hi1 hr1 f1) (i := k) (by omega) ?_
      refine step 28 _ _ _ _ _ _ _ ?_
      dsimp [ab_at, gX7_makePlan, nX7_makePlan, ab_vc, ab_v1, ab_lk, ab_st, ab_en, ab_cst, ab_mc, ab_mS, ab_tk, ab_ns, cR, ab_ia, ab_ra, ab_oa, ab_tg, ab_len, ab_uI, ab_uR]
      refine c_X5_canBeServed hnb e1 e2 (fun q => ?_) (fun q => ?_)
      · refine step 36 _ _ _ _ _ _ _ ?_
        dsimp [ab_at, gX7_makePlan, nX7_makePlan, ab_vc, ab_v1, ab_lk, ab_st, ab_en, ab_cst, ab_mc, ab_mS, ab_tk, ab_ns, cR, ab_ia, ab_ra, ab_oa, ab_tg, ab_len, ab_uI, ab_uR]
        refine ⟨fun q => absurd q (by decide), fun _ => ?_⟩
        refine c_X7_milesFor hnb e1 e2 a1 b1 e3 e4 ?_
        rw [e5]
        refine step 49 _ _ _ _ _ _ _ ?_
        dsimp [ab_at, gX7_makePlan, nX7_makePlan, ab_vc, ab_v1, ab_lk, ab_st, ab_en, ab_cst, ab_mc, ab_mS, ab_tk, ab_ns, cR, ab_ia, ab_ra, ab_oa, ab_tg, ab_len, ab_uI, ab_uR]
        refine c_X7_fill (nw := nw) (k := k) (w := gw k) hnb hnw hnum w2 w1 m2 (fun w' => ?_) I (fun hi' hr' I2 => ?_)
        · unfold cCd
          rw [sv.mp q, Bool.and_true, decide_eq_true_eq]
          exact eq_comm
        · exact on hi' hr' _ I2
      · refine step 36 _ _ _ _ _ _ _ ?_
        dsimp [ab_at, gX7_makePlan, nX7_makePlan, ab_vc, ab_v1, ab_lk, ab_st, ab_en, ab_cst, ab_mc, ab_mS, ab_tk, ab_ns, cR, ab_ia, ab_ra, ab_oa, ab_tg, ab_len, ab_uI, ab_uR]
        refine ⟨fun _ => on hi1 hr1 _ (mkI_no I fun w => ?_), fun q => absurd rfl q⟩
        unfold cCd
        have : (decide (hi 6 k 3 = nI 0) && decide (hi 7 (gw k) 5 = nI 0) && decide (hi 2 (gh k) 4 + hi 7 (gw k) 3 ≤ hi 2 (gh k) 2)) = false := by
          rw [Bool.eq_false_iff]
          exact fun z => q (sv.mpr z)
        rw [this, Bool.and_false]
  refine step 0 _ _ _ _ _ _ _ ?_
  dsimp [ab_at, gX7_makePlan, nX7_makePlan, ab_vc, ab_v1, ab_lk, ab_st, ab_en, ab_cst, ab_mc, ab_mS, ab_tk, ab_ns, cR, ab_ia, ab_ra, ab_oa, ab_tg, ab_len, ab_uI, ab_uR]
  refine c_X3_clear hnb ?_
  refine step 7 _ _ _ _ _ _ _ ?_
  dsimp [ab_at, gX7_makePlan, nX7_makePlan, ab_vc, ab_v1, ab_lk, ab_st, ab_en, ab_cst, ab_mc, ab_mS, ab_tk, ab_ns, cR, ab_ia, ab_ra, ab_oa, ab_tg, ab_len, ab_uI, ab_uR]
  refine loop n 0 (by omega) (cClear hi) hr ⟨[], fun _ => [], s0, plF_tr (plF_I (by omega)) (plF_tr (plF_I (by omega)) (plF_tr (plF_I (by omega)) (plF_I (by omega)))), ⟨P0, rfl, Nat.zero_le _, fun p w hp => by cases hp⟩, List.Pairwise.nil, rfl, rfl, fun w hw => (by cases hw), Or.inl ⟨rfl, fun w v hv => absurd hv (by omega)⟩⟩
theorem c_X3_wishFor (hnb : ab_n E < 2 ^ 31) {ws : List Nat} {s : Nat → Nat} {t : List (Option Nat)} {w : Nat} (P : plP hr s) (hl : ws.length ≤ 4) (e1 : hi 4 0 1 = nI ws.length) (hs : ∀ (p w : Nat), ws[p]? = some w → hr 1 (s p) 2 = some (7, w) ∧ hr 1 (s p) 5 = wx (t.getD p none)) (h1 : ∀ p, ws[p]? = some w → Q (some (.inr (wx (t.getD p none)))) hi (cR hr) cn) (h0 : w ∉ ws → Q (some (.inr none)) hi (cR hr) cn) : ab_Wm E (d + 1) nX3_wishFor [.inr (some (4, 0)), .inr (some (7, w))] hi (cR hr) cn Q := by
  refine ab_Wm_of gX3_wishFor kX3_wishFor 3 rfl rfl hnb (fun J step drop less => ?_)
  have loop : ∀ mm k, k + mm = ws.length → (∀ i, i < k → ws[i]? ≠ some w) → J 2 [(0, .inr (some (4, 0))), (1, .inr (some (7, w))), (2, .inl (nI k))] [] hi (cR hr) cn 0 0 := by
    intro mm
    induction mm with
    | zero =>
      intro k hk hno
      have hk : k = ws.length := by omega
      refine step 2 _ _ _ _ _ _ _ ?_
      dsimp [ab_at, gX3_wishFor, nX3_wishFor, ab_vc, ab_v1, ab_lk, ab_st, ab_en, ab_cst, ab_mc, ab_mS, ab_tk, ab_ns, cR, ab_ia, ab_ra, ab_oa, ab_tg, ab_len, ab_uI, ab_uR]
      rw [e1, hk]
      refine ⟨fun _ => ?_, fun q => absurd (Int32.le_refl _) q⟩
      refine step 39 _ _ _ _ _ _ _ ?_
      dsimp [ab_at, gX3_wishFor, nX3_wishFor, ab_vc, ab_v1, ab_lk, ab_st, ab_en, ab_cst, ab_mc, ab_mS, ab_tk, ab_ns, cR, ab_ia, ab_ra, ab_oa, ab_tg, ab_len, ab_uI, ab_uR]
      refine h0 fun z => ?_
      obtain ⟨i, hi'⟩ := List.getElem?_of_mem z
      exact hno i (by have := (List.getElem?_eq_some_iff.mp hi').1; omega) hi'
    | succ mm ih =>
      intro k hk hno
      have ik : ab_ix (nI k) = k := ab_ix_nI (by omega)
      have e0 := getD_at (ws := ws) (k := k) (by omega)
      obtain ⟨a1, a2⟩ := hs k _ e0
      generalize ws.getD k 0 = u at e0 a1
      refine step 2 _ _ _ _ _ _ _ ?_
      dsimp [ab_at, gX3_wishFor, nX3_wishFor, ab_vc, ab_v1, ab_lk, ab_st, ab_en, ab_cst, ab_mc, ab_mS, ab_tk, ab_ns, cR, ab_ia, ab_ra, ab_oa, ab_tg, ab_len, ab_uI, ab_uR]
      rw [e1, ik, (P.1 k (by omega)).2]
      dsimp [ab_at, gX3_wishFor, nX3_wishFor, ab_vc, ab_v1, ab_lk, ab_st, ab_en, ab_cst, ab_mc, ab_mS, ab_tk, ab_ns, cR, ab_ia, ab_ra, ab_oa, ab_tg, ab_len, ab_uI, ab_uR]
      rw [a1]
      refine ⟨fun q => absurd ((nI_leI (by omega) (by omega)).mp q) (by omega), fun _ => ⟨ab_inI (by omega) (by omega), ab_if rfl ⟨fun q => ?_, fun q => ⟨ab_inI (by omega) (by omega), ?_⟩⟩⟩⟩
      · refine step 33 _ _ _ _ _ _ _ ?_
        dsimp [ab_at, gX3_wishFor, nX3_wishFor, ab_vc, ab_v1, ab_lk, ab_st, ab_en, ab_cst, ab_mc, ab_mS, ab_tk, ab_ns, cR, ab_ia, ab_ra, ab_oa, ab_tg, ab_len, ab_uI, ab_uR]
        rw [nI_add]
        refine ih (k + 1) (by omega) (fun i hi' => ?_)
        rcases Nat.lt_or_ge i k with z | z
        · exact hno i z
        · rw [show i = k by omega, e0]
          intro e
          cases e
          exact q rfl
      · cases q
        rw [a2]
        exact h1 k e0
  refine step 0 _ _ _ _ _ _ _ ?_
  dsimp [ab_at, gX3_wishFor, nX3_wishFor, ab_vc, ab_v1, ab_lk, ab_st, ab_en, ab_cst, ab_mc, ab_mS, ab_tk, ab_ns, cR, ab_ia, ab_ra, ab_oa, ab_tg, ab_len, ab_uI, ab_uR]
  exact loop ws.length 0 (by omega) (fun i hi' => absurd hi' (by omega))
theorem c_X7_miles (hnb : ab_n E < 2 ^ 31) {n nw : Nat} {gh gw st tt m : Nat → Nat} (M : mkOn hi hr cn n nw gh gw st tt m)
    (h1 : ∀ hi' hr' ws Ns s b, mkMade hi hr n m (cCd hi gh gw) gh hi' hr' ws Ns s b → Q (some (.inl (nI b.2.1))) hi' (cR hr') cn)
    (h0 : ∀ hi' hr' s, plF hi hr hi' hr' → plP hr' s → mkNot n nw (cCd hi gh gw) → Q (some (.inl (-1))) hi' (cR hr') cn) : ab_Wm E (d + 9) nX7_miles [cO] hi (cR hr) cn Q := by
  refine ab_Wm_of gX7_miles kX7_miles 1 rfl rfl hnb (fun J step drop less => ?_)
  refine step 0 _ _ _ _ _ _ _ ?_
  dsimp [ab_at, gX7_miles, nX7_miles, ab_vc, ab_v1, ab_lk, ab_st, ab_en, ab_cst, ab_mc, ab_mS, ab_tk, ab_ns, cR, ab_ia, ab_ra, ab_oa, ab_tg, ab_len, ab_uI, ab_uR]
  refine c_X7_makePlan hnb M (fun hi' hr' ws Ns s b hm => ?_) (fun hi' hr' s f p q => ?_)
  · refine step 4 _ _ _ _ _ _ _ ?_
    dsimp [ab_at, gX7_miles, nX7_miles, ab_vc, ab_v1, ab_lk, ab_st, ab_en, ab_cst, ab_mc, ab_mS, ab_tk, ab_ns, cR, ab_ia, ab_ra, ab_oa, ab_tg, ab_len, ab_uI, ab_uR]
    refine ⟨fun q => absurd q (by decide), fun _ => ?_⟩
    rw [hm.2.2.2.2.2.2.2.2.1]
    refine step 18 _ _ _ _ _ _ _ ?_
    dsimp [ab_at, gX7_miles, nX7_miles, ab_vc, ab_v1, ab_lk, ab_st, ab_en, ab_cst, ab_mc, ab_mS, ab_tk, ab_ns, cR, ab_ia, ab_ra, ab_oa, ab_tg, ab_len, ab_uI, ab_uR]
    exact h1 hi' hr' ws Ns s b hm
  · refine step 4 _ _ _ _ _ _ _ ?_
    dsimp [ab_at, gX7_miles, nX7_miles, ab_vc, ab_v1, ab_lk, ab_st, ab_en, ab_cst, ab_mc, ab_mS, ab_tk, ab_ns, cR, ab_ia, ab_ra, ab_oa, ab_tg, ab_len, ab_uI, ab_uR]
    refine ⟨fun _ => ?_, fun q => absurd rfl q⟩
    refine step 17 _ _ _ _ _ _ _ ?_
    dsimp [ab_at, gX7_miles, nX7_miles, ab_vc, ab_v1, ab_lk, ab_st, ab_en, ab_cst, ab_mc, ab_mS, ab_tk, ab_ns, cR, ab_ia, ab_ra, ab_oa, ab_tg, ab_len, ab_uI, ab_uR]
    refine step 18 _ _ _ _ _ _ _ ?_
    dsimp [ab_at, gX7_miles, nX7_miles, ab_vc, ab_v1, ab_lk, ab_st, ab_en, ab_cst, ab_mc, ab_mS, ab_tk, ab_ns, cR, ab_ia, ab_ra, ab_oa, ab_tg, ab_len, ab_uI, ab_uR]
    exact h0 hi' hr' s f p q
theorem c_X7_planned (hnb : ab_n E < 2 ^ 31) {x : Int32} {n nw : Nat} {gh gw st tt m : Nat → Nat} (M : mkOn hi hr cn n nw gh gw st tt m) (CW : cL hi (cR hr) cn 1 nw (fun j => (7, j)))
    (h1 : ∀ w p hi' hr' ws Ns s b, w < nw → x = nI w → mkMade hi hr n m (cCd hi gh gw) gh hi' hr' ws Ns s b → ws[p]? = some w → Q (some (.inl (nxr (fun v => hi 6 v 0) (b.2.2.getD p none)))) hi' (cR hr') cn)
    (h2 : ∀ w hi' hr' ws Ns s b, w < nw → x = nI w → mkMade hi hr n m (cCd hi gh gw) gh hi' hr' ws Ns s b → w ∉ ws → Q (some (.inl (-1))) hi' (cR hr') cn)
    (h0 : ∀ hi' hr' s, plF hi hr hi' hr' → plP hr' s → ((∀ w, w < nw → x ≠ nI w) ∨ mkNot n nw (cCd hi gh gw)) → Q (some (.inl (-1))) hi' (cR hr') cn) : ab_Wm E (d + 9) nX7_planned [cO, .inl x] hi (cR hr) cn Q := by
  have M' := M
  obtain ⟨-, hnw, -, ⟨s0, P0⟩, -⟩ := M'
  refine ab_Wm_of gX7_planned kX7_planned 1 rfl rfl hnb (fun J step drop less => ?_)
  have r17 : ∀ hi' hr' s, plF hi hr hi' hr' → plP hr' s → ((∀ w, w < nw → x ≠ nI w) ∨ mkNot n nw (cCd hi gh gw)) → ∀ L ck cs, J 17 L [] hi' (cR hr') cn ck cs := fun hi' hr' s f p q L ck cs => by
    refine step 17 _ _ _ _ _ _ _ ?_
    dsimp [ab_at, gX7_planned, nX7_planned, ab_vc, ab_v1, ab_lk, ab_st, ab_en, ab_cst, ab_mc, ab_mS, ab_tk, ab_ns, cR, ab_ia, ab_ra, ab_oa, ab_tg, ab_len, ab_uI, ab_uR]
    exact h0 hi' hr' s f p q
  refine step 0 _ _ _ _ _ _ _ ?_
  dsimp [ab_at, gX7_planned, nX7_planned, ab_vc, ab_v1, ab_lk, ab_st, ab_en, ab_cst, ab_mc, ab_mS, ab_tk, ab_ns, cR, ab_ia, ab_ra, ab_oa, ab_tg, ab_len, ab_uI, ab_uR]
  refine c_X7_workOf hnb hnw CW (fun w hw e => ?_) (fun q => ?_)
  · refine step 5 _ _ _ _ _ _ _ ?_
    dsimp [ab_at, gX7_planned, nX7_planned, ab_vc, ab_v1, ab_lk, ab_st, ab_en, ab_cst, ab_mc, ab_mS, ab_tk, ab_ns, cR, ab_ia, ab_ra, ab_oa, ab_tg, ab_len, ab_uI, ab_uR]
    refine ⟨fun q => (by cases q), fun _ => ?_⟩
    refine c_X7_makePlan hnb M (fun hi' hr' ws Ns s b hm => ?_) (fun hi' hr' s f p q => ?_)
    · have hm' := hm
      obtain ⟨a1, a2, a3, a4, a5, a6, a7, a8, a9, a10⟩ := hm'
      refine step 14 _ _ _ _ _ _ _ ?_
      dsimp [ab_at, gX7_planned, nX7_planned, ab_vc, ab_v1, ab_lk, ab_st, ab_en, ab_cst, ab_mc, ab_mS, ab_tk, ab_ns, cR, ab_ia, ab_ra, ab_oa, ab_tg, ab_len, ab_uI, ab_uR]
      refine ⟨fun _ => ?_, fun q => absurd q (by decide)⟩
      refine step 19 _ _ _ _ _ _ _ ?_
      dsimp [ab_at, gX7_planned, nX7_planned, ab_vc, ab_v1, ab_lk, ab_st, ab_en, ab_cst, ab_mc, ab_mS, ab_tk, ab_ns, cR, ab_ia, ab_ra, ab_oa, ab_tg, ab_len, ab_uI, ab_uR]
      refine c_X3_wishFor hnb a2 a4.2 a8 a10 (fun p hp => ?_) (fun q => ?_)
      · have hq := h1 w p hi' hr' ws Ns s b hw e hm hp
        rcases hb : b.2.2.getD p none with _ | v
        · rw [hb] at hq
          refine step 27 _ _ _ _ _ _ _ ?_
          dsimp [ab_at, gX7_planned, nX7_planned, ab_vc, ab_v1, ab_lk, ab_st, ab_en, ab_cst, ab_mc, ab_mS, ab_tk, ab_ns, cR, ab_ia, ab_ra, ab_oa, ab_tg, ab_len, ab_uI, ab_uR, wx]
          refine ⟨fun q => absurd rfl q, fun _ => ?_⟩
          refine step 40 _ _ _ _ _ _ _ ?_
          dsimp [ab_at, gX7_planned, nX7_planned, ab_vc, ab_v1, ab_lk, ab_st, ab_en, ab_cst, ab_mc, ab_mS, ab_tk, ab_ns, cR, ab_ia, ab_ra, ab_oa, ab_tg, ab_len, ab_uI, ab_uR]
          exact hq
        · rw [hb] at hq
          refine step 27 _ _ _ _ _ _ _ ?_
          dsimp [ab_at, gX7_planned, nX7_planned, ab_vc, ab_v1, ab_lk, ab_st, ab_en, ab_cst, ab_mc, ab_mS, ab_tk, ab_ns, cR, ab_ia, ab_ra, ab_oa, ab_tg, ab_len, ab_uI, ab_uR, wx]
          refine ⟨fun _ => ?_, fun q => (by cases q)⟩
          refine step 36 _ _ _ _ _ _ _ ?_
          dsimp [ab_at, gX7_planned, nX7_planned, ab_vc, ab_v1, ab_lk, ab_st, ab_en, ab_cst, ab_mc, ab_mS, ab_tk, ab_ns, cR, ab_ia, ab_ra, ab_oa, ab_tg, ab_len, ab_uI, ab_uR]
          rw [a1.1 6 v 0 (by omega) (by omega) (by omega)]
          refine step 40 _ _ _ _ _ _ _ ?_
          dsimp [ab_at, gX7_planned, nX7_planned, ab_vc, ab_v1, ab_lk, ab_st, ab_en, ab_cst, ab_mc, ab_mS, ab_tk, ab_ns, cR, ab_ia, ab_ra, ab_oa, ab_tg, ab_len, ab_uI, ab_uR]
          exact hq
      · refine step 27 _ _ _ _ _ _ _ ?_
        dsimp [ab_at, gX7_planned, nX7_planned, ab_vc, ab_v1, ab_lk, ab_st, ab_en, ab_cst, ab_mc, ab_mS, ab_tk, ab_ns, cR, ab_ia, ab_ra, ab_oa, ab_tg, ab_len, ab_uI, ab_uR]
        refine ⟨fun q => absurd rfl q, fun _ => ?_⟩
        refine step 40 _ _ _ _ _ _ _ ?_
        dsimp [ab_at, gX7_planned, nX7_planned, ab_vc, ab_v1, ab_lk, ab_st, ab_en, ab_cst, ab_mc, ab_mS, ab_tk, ab_ns, cR, ab_ia, ab_ra, ab_oa, ab_tg, ab_len, ab_uI, ab_uR]
        exact h2 w hi' hr' ws Ns s b hw e hm q
    · refine step 14 _ _ _ _ _ _ _ ?_
      dsimp [ab_at, gX7_planned, nX7_planned, ab_vc, ab_v1, ab_lk, ab_st, ab_en, ab_cst, ab_mc, ab_mS, ab_tk, ab_ns, cR, ab_ia, ab_ra, ab_oa, ab_tg, ab_len, ab_uI, ab_uR]
      exact ⟨fun q => absurd rfl q, fun _ => r17 hi' hr' s f p (Or.inr q) _ _ _⟩
  · refine step 5 _ _ _ _ _ _ _ ?_
    dsimp [ab_at, gX7_planned, nX7_planned, ab_vc, ab_v1, ab_lk, ab_st, ab_en, ab_cst, ab_mc, ab_mS, ab_tk, ab_ns, cR, ab_ia, ab_ra, ab_oa, ab_tg, ab_len, ab_uI, ab_uR]
    exact ⟨fun _ => r17 hi hr s0 plF_rf P0 (Or.inl q) _ _ _, fun q => absurd rfl q⟩
end MKP
