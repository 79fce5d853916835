theorem srt_eq : ∀ {l l' : List Nat}, l.Pairwise (· < ·) → l'.Pairwise (· < ·) → (∀ x, x ∈ l ↔ x ∈ l') → l = l'
  | [], [], _, _, _ => rfl
  | [], b :: l', _, _, h => by
    have := (h b).mpr List.mem_cons_self
    cases this
  | a :: l, [], _, _, h => by
    have := (h a).mp List.mem_cons_self
    cases this
  | a :: l, b :: l', h1, h2, h => by
    rw [List.pairwise_cons] at h1 h2
    have hab : a = b := by
      rcases List.mem_cons.mp ((h a).mp List.mem_cons_self) with e | e
      · exact e
      · rcases List.mem_cons.mp ((h b).mpr List.mem_cons_self) with e' | e'
        · exact e'.symm
        · have := h2.1 a e
          have := h1.1 b e'
          omega
    subst hab
    congr 1
    refine srt_eq h1.2 h2.2 (fun x => ⟨fun hx => ?_, fun hx => ?_⟩)
    · rcases List.mem_cons.mp ((h x).mp (List.mem_cons_of_mem _ hx)) with e | e
      · have := h1.1 x hx
        omega
      · exact e
    · rcases List.mem_cons.mp ((h x).mpr (List.mem_cons_of_mem _ hx)) with e | e
      · have := h2.1 x hx
        omega
      · exact e
theorem foldl_eq {α β : Type} {f g : β → α → β} : ∀ {l : List α}, (∀ b a, a ∈ l → f b a = g b a) → ∀ b, l.foldl f b = l.foldl g b
  | [], _, _ => rfl
  | a :: l, h, b => by
    show l.foldl f (f b a) = l.foldl g (g b a)
    rw [h b a List.mem_cons_self]
    exact foldl_eq (fun b a ha => h b a (List.mem_cons_of_mem _ ha)) _
theorem pl_go_ml {O : Nat → List Nat} {hm : Nat → Nat} {ml ml' : Nat → Nat → Nat} (e : ∀ k v, v ∈ O k → ml k v = ml' k v) : ∀ (m k : Nat) (used : List Nat) (sv mi : Nat) (pre : List (Option Nat)) (b : Option pl_X), pl_go O hm ml m k used sv mi pre b = pl_go O hm ml' m k used sv mi pre b
  | 0, _, _, _, _, _, _ => rfl
  | m + 1, k, used, sv, mi, pre, b => by
    unfold pl_go
    rw [pl_go_ml e m]
    congr 1
    refine foldl_eq (fun b v hv => ?_) b
    rw [e k v hv, pl_go_ml e m]
theorem near_congr {P N : List Nat} {f f' : Nat → Nat} (e : ∀ v, v ∈ P → f v = f' v) (h : pl_near P N f) : pl_near P N f' := ⟨h.1, fun v hv hn => ⟨(h.2 v hv hn).1, fun u hu => by
  rw [← e u (h.1.subset hu), ← e v hv]
  exact (h.2 v hv hn).2 u hu⟩⟩
theorem mW_q {hi hi' : ab_I} (e : mq hi hi') {nW nV : Nat} : mW hi' nW nV = mW hi nW nV := by
  unfold mW mis mcould mroom mlent
  rw [e 56 (by omega), e 55 (by omega), e 54 (by omega), e 43 (by omega), e 44 (by omega), e 42 (by omega), e 36 (by omega)]
theorem mO_q {hi hi' : ab_I} (e : mq hi hi') {nW nV : Nat} : mO' hi' nW nV = mO' hi nW nV := by
  funext k
  unfold mO'
  rw [mW_q e]
  unfold mcould mroom mlent
  rw [e 56 (by omega), e 55 (by omega), e 54 (by omega), e 43 (by omega), e 44 (by omega), e 42 (by omega), e 36 (by omega)]
theorem mhm_q {hi hi' : ab_I} (e : mq hi hi') : mhm hi' = mhm hi := by
  funext v
  unfold mhm
  rw [e 54 (by omega)]
theorem mml_q {hi hi' : ab_I} (e : mq hi hi') {nW nV : Nat} : mml hi' nW nV = mml hi nW nV := by
  funext k v
  unfold mml
  rw [mW_q e, mhm_q e, e 81 (by omega), e 45 (by omega), e 35 (by omega)]
section STEPS11
variable {E : ab_E} {d : Nat} {hi : ab_I} {hr : ab_R} {cn : ab_C} {nR nH nW nV nL : Nat}
theorem mMade_q {hi hi' : ab_I} (e : mq hi hi') {sv mi : Nat} {t : List (Option Nat)} (h : mMade hi' nW nV sv mi t) : mMade hi nW nV sv mi t := by
  unfold mMade at *
  rw [mW_q e, mO_q e, mhm_q e, mml_q e] at h
  exact h
/-- the miles of a wish -/
noncomputable def mlv (hi : ab_I) (v : Nat) : Nat := ab_ix (hi 81 (ab_ix (hi 45 0 (gW hi v))) (ab_ix (hi 35 0 (gH hi v))))
theorem plan_inv (I : inv hi hr cn nR nH nW nV nL) {hi' hi2 : ab_I} {hr' : ab_R} {s : Nat → Nat} (f : plF hi hr hi' hr') (p : plP hr' s) (sc : scr hi' hi2) : inv hi2 (cR hr') cn nR nH nW nV nL := by
  have I' := I

  obtain ⟨⟨fc, fm⟩, ⟨c2, c3, c5, c6, c7, c11⟩, ⟨l0, l1, l2, l3⟩, M, ⟨mu, mf⟩, ⟨n1, n2⟩, ⟨s1, s2, s3, s4, s5⟩, mi, ru, ho, ht, wk, hd, rn, ws, wt, ⟨lk1, lk2, lk3⟩, pp⟩ := I
  have M' := M
  obtain ⟨⟨hcR, hR⟩, ⟨hcH, hH⟩, ⟨hcW, hW⟩, ⟨hcV, hV⟩, ⟨hcL, hL⟩, mh, mw, ma, ms, mo, mt⟩ := M'
  have kK : ∀ K, ¬ (K = 1 ∨ K = 4 ∨ K = 12 ∨ (69 ≤ K ∧ K ≤ 72) ∨ K = 123 ∨ K = 9) → hi2 K = hi K := fun K z => by
    funext i j
    rw [sc K i j (by omega) (by omega) (by omega), f.1 K i j (by omega) (by omega) (by omega)]
  have k9 : ∀ j, j < 44 → hi2 9 0 j = hi 9 0 j := fun j z => by
    rw [sc 9 0 j (by omega) (by omega) (by omega), f.1 9 0 j (by omega) (by omega) (by omega)]
  have rK : ∀ K i j, K ≠ 1 → K ≠ 14 → K ≠ 15 → cR hr' K i j = hr K i j := fun K i j z1 z2 z3 => by
    rcases cR_two K i j with ⟨-, v, hv⟩ | q
    · rw [hv, ← congrFun (congrFun (congrFun fc K) i) j, hv]
    · rw [q, f.2 K i j z1 z2 z3]
  refine ⟨⟨cR_id, ?_⟩, ⟨c2, c3, c5, c6, c7, c11⟩, ?_, ?_, ⟨?_, ?_⟩, ?_, ?_, ?_, ?_, ?_, ?_, ?_, ?_, ?_, ?_, ?_, ?_, s, p⟩
  · exact mR_fix fm (fun K i j z => rK K i j (by rintro rfl; cases z) (by rintro rfl; cases z) (by rintro rfl; cases z))
  · have e0 : ∀ k, hi2 0 k 2 = hi 0 k 2 := fun k => by rw [kK 0 (by omega)]
    exact ⟨cL_congr (e0 0) (rK 0 0 1 (by omega) (by omega) (by omega)) (fun g j => rK _ g j (by omega) (by omega) (by omega)) rfl l0, cL_congr (e0 1) (rK 0 1 1 (by omega) (by omega) (by omega)) (fun g j => rK _ g j (by omega) (by omega) (by omega)) rfl l1, cL_congr (e0 2) (rK 0 2 1 (by omega) (by omega) (by omega)) (fun g j => rK _ g j (by omega) (by omega) (by omega)) rfl l2, cL_congr (e0 3) (rK 0 3 1 (by omega) (by omega) (by omega)) (fun g j => rK _ g j (by omega) (by omega) (by omega)) rfl l3⟩
  · unfold mok
    rw [k9 3 (by omega), k9 10 (by omega), k9 23 (by omega), k9 30 (by omega), k9 34 (by omega), kK 54 (by omega), kK 55 (by omega), kK 41 (by omega), kK 45 (by omega), kK 43 (by omega), kK 44 (by omega), kK 35 (by omega)]
    exact ⟨⟨hcR, hR⟩, ⟨hcH, hH⟩, ⟨hcW, hW⟩, ⟨hcV, hV⟩, ⟨hcL, hL⟩, mh, mw, ma, ms, mo, mt⟩
  · unfold mU
    rw [kK 54 (by omega), kK 55 (by omega), kK 56 (by omega)]
    exact mu
  · unfold mF
    rw [kK 81 (by omega)]
    exact mf
  · unfold iNow
    rw [kK 8 (by omega), k9 0 (by omega)]
    exact ⟨n1, n2⟩
  · exact iSum_k (fun j _ => by rw [kK 8 (by omega)]) (fun j _ h2 => k9 j (by omega)) (kK 10 (by omega)) (kK 65 (by omega)) ⟨s1, s2, s3, s4, s5⟩
  · unfold iMi
    rw [kK 13 (by omega), kK 81 (by omega)]
    exact mi
  · exact iRu_k (kK 5 (by omega)) (kK 82 (by omega)) (kK 34 (by omega)) ru
  · exact ⟨fun g hg => hmI_congr (hi := hi) (nW := nW) (fun j => by rw [kK 2 (by omega)]) (fun K h1 h2 => by rw [kK K (by omega)]) (fun p => mlent_congr (fun w _ => by rw [kK 42 (by omega), kK 43 (by omega), kK 44 (by omega)]; exact ⟨rfl, rfl, rfl⟩)) (ho.1 g hg), fun g h1 h2 => by
      rw [kK 38 (by omega), kK 39 (by omega)]
      exact ho.2 g h1 h2⟩
  · intro g hg
    rw [kK 37 (by omega)]
    exact iTm_k (k9 0 (by omega)) (ht g hg)
  · exact iWk_k (kK 7 (by omega)) (fun K h1 h2 => kK K (by omega)) wk
  · exact iHd_k (kK 43 (by omega)) (kK 44 (by omega)) (fun w => rK 7 w 9 (by omega) (by omega) (by omega)) hd
  · exact iRn_k (kK 11 (by omega)) (kK 102 (by omega)) rn
  · exact iWs_k (kK 6 (by omega)) (fun K h1 h2 => kK K (by omega)) (fun i j => rK 6 i j (by omega) (by omega) (by omega)) ws
  · intro k hk
    rw [kK 57 (by omega)]
    exact iTm_k (k9 0 (by omega)) (wt k hk)
  · exact iLk_k (kK 3 (by omega)) (kK 61 (by omega)) (kK 62 (by omega)) (kK 63 (by omega)) (kK 51 (by omega)) (fun w => by rw [kK 7 (by omega)]; exact ⟨rfl, rfl⟩) (fun l => rK 3 l 2 (by omega) (by omega) (by omega)) (fun w => rK 7 w 14 (by omega) (by omega) (by omega)) ⟨lk1, lk2, lk3⟩
theorem plF_q {hi' : ab_I} {hr' : ab_R} (f : plF hi hr hi' hr') : mq hi hi' := fun K hK => by
  funext i j
  exact f.1 K i j (by omega) (by omega) (by omega)
theorem cd_iff (I : inv hi hr cn nR nH nW nV nL) {w v : Nat} (hv : v < nV) : cCd hi (gH hi) (gW hi) w v = true ↔ w < nW ∧ hi 43 0 w = nI 0 ∧ mcould hi nW w v = true := by
  have I' := I
  obtain ⟨-, -, -, M, -⟩ := I
  have hW := M.2.2.1.2
  obtain ⟨w1, w2⟩ := gW_of M hv
  unfold cCd mcould
  rw [can_eq I' hv, Bool.and_eq_true, Bool.and_eq_true, Bool.and_eq_true, Bool.and_eq_true, Bool.and_eq_true, decide_eq_true_eq, decide_eq_true_eq, decide_eq_true_eq, decide_eq_true_eq, w2]
  constructor
  · rintro ⟨rfl, ⟨h1, h2⟩, h3⟩
    exact ⟨w1, h2, ⟨h1, rfl⟩, h3⟩
  · rintro ⟨h0, h1, ⟨h2, h3⟩, h4⟩
    have e := (nI_eq (by omega) (by omega)).mp h3
    subst e
    exact ⟨rfl, ⟨h2, h1⟩, h4⟩
theorem mW_mem (I : inv hi hr cn nR nH nW nV nL) {w : Nat} : w ∈ mW hi nW nV ↔ ∃ v, v < nV ∧ cCd hi (gH hi) (gW hi) w v = true := by
  unfold mW
  rw [flt_mem]
  unfold mis
  rw [Bool.and_eq_true, decide_eq_true_eq]
  constructor
  · rintro ⟨h1, h2, h3⟩
    have : flt (mcould hi nW w) nV ≠ [] := fun e => by
      rw [e] at h3
      cases h3
    obtain ⟨v, hv⟩ := List.exists_mem_of_ne_nil _ this
    obtain ⟨hv1, hv2⟩ := flt_mem.mp hv
    exact ⟨v, hv1, (cd_iff I hv1).mpr ⟨h1, h2, hv2⟩⟩
  · rintro ⟨v, hv, hc⟩
    obtain ⟨h1, h2, h3⟩ := (cd_iff I hv).mp hc
    refine ⟨h1, h2, ?_⟩
    have := flt_ne hv h3
    rcases hb : flt (mcould hi nW w) nV with _ | ⟨a, l⟩
    · exact absurd hb this
    · rfl
theorem not_len (I : inv hi hr cn nR nH nW nV nL) (h : mkNot nV nW (cCd hi (gH hi) (gW hi))) : (mW hi nW nV).length = 0 ∨ 4 < (mW hi nW nV).length := by
  rcases h with h | ⟨l, h1, h2, h3⟩
  · left
    rcases hb : mW hi nW nV with _ | ⟨a, l⟩
    · rfl
    · obtain ⟨v, hv, hc⟩ := (mW_mem I (w := a)).mp (by rw [hb]; exact List.mem_cons_self)
      rw [h a v hv] at hc
      cases hc
  · right
    have := pl_pigeon l (mW hi nW nV) h2 (fun w hw => (mW_mem I).mpr (h3 w hw).2)
    omega
/-- the two plans -/
theorem made_eq (I : inv hi hr cn nR nH nW nV nL) {hi' : ab_I} {hr' : ab_R} {ws : List Nat} {Ns : Nat → List Nat} {s : Nat → Nat} {b : pl_X} (h : mkMade hi hr nV (mlv hi) (cCd hi (gH hi) (gW hi)) (gH hi) hi' hr' ws Ns s b) : ws = mW hi nW nV ∧ (0 < (mW hi nW nV).length ∧ (mW hi nW nV).length ≤ 4) ∧ (∀ (k v : Nat), b.2.2[k]? = some (some v) → v < nV) ∧ ∀ sv mi t, mMade hi nW nV sv mi t → b = (sv, mi, t) := by
  have I' := I
  obtain ⟨-, -, -, M, ⟨mu, mf⟩, -⟩ := I
  obtain ⟨h1, h2, h3, h4, h5, h6, h7, -⟩ := h
  have ew : ws = mW hi nW nV := srt_eq h3 (flt_sorted _ _) (fun w => (h5 w).trans (mW_mem I').symm)
  have hst : ∀ w, w ∈ ws → w < nW ∧ hi 43 0 w = nI 0 := fun w hw => by
    obtain ⟨v, hv, hc⟩ := (h5 w).mp hw
    exact ⟨((cd_iff I' hv).mp hc).1, ((cd_iff I' hv).mp hc).2.1⟩
  have hfl : ∀ w, w ∈ ws → flt (cCd hi (gH hi) (gW hi) w) nV = flt (mcould hi nW w) nV := fun w hw => flt_congr (fun v hv => by
    obtain ⟨z1, z2⟩ := hst w hw
    rw [Bool.eq_iff_iff, cd_iff I' hv]
    exact ⟨fun z => z.2.2, fun z => ⟨z1, z2, z⟩⟩)
  subst ew
  refine ⟨rfl, h4, ?_⟩
  have eO : ∀ k, k < (mW hi nW nV).length → mO' hi nW nV k = flt (mcould hi nW ((mW hi nW nV).getD k 0)) nV := fun k hk => by
    unfold mO'
    rw [if_pos hk]
  have eP : ∀ k, k < (mW hi nW nV).length → plO (mW hi nW nV) Ns k = Ns ((mW hi nW nV).getD k 0) := fun k hk => by
    unfold plO
    rw [if_pos hk]
  have mlE : ∀ k v, k < (mW hi nW nV).length → v ∈ mO' hi nW nV k → mml hi nW nV k v = mlv hi v := fun k v hk hv => by
    rw [eO k hk] at hv
    obtain ⟨hv1, hv2⟩ := flt_mem.mp hv
    have e55 := (mcould_e hv2).2
    have ewk : gW hi v = (mW hi nW nV).getD k 0 := by
      unfold gW
      rw [e55, ab_ix_nI]
      have := (hst _ (List.mem_of_getElem? (getD_at hk))).1
      have := M.2.2.1.2
      omega
    unfold mml mlv
    rw [ewk]
    rfl
  have near : ∀ k, pl_near (mO' hi nW nV k) (plO (mW hi nW nV) Ns k) (mml hi nW nV k) := fun k => by
    rcases Nat.lt_or_ge k (mW hi nW nV).length with hk | hk
    · have hin := List.mem_of_getElem? (getD_at hk)
      have := h6 _ hin
      rw [hfl _ hin] at this
      rw [eP k hk, eO k hk]
      exact near_congr (fun v hv => (mlE k v hk (by rw [eO k hk]; exact hv)).symm) this
    · have e1 : mO' hi nW nV k = [] := by
        unfold mO'
        rw [if_neg (by omega)]
      have e2 : plO (mW hi nW nV) Ns k = [] := by
        unfold plO
        rw [if_neg (by omega)]
      rw [e1, e2]
      exact ⟨List.Sublist.refl _, fun v hv => by cases hv⟩
  have srt : ∀ k, (mO' hi nW nV k).Pairwise (· < ·) := fun k => by
    unfold mO'
    split
    · exact flt_sorted _ _
    · exact List.Pairwise.nil
  have nd : ∀ k, ((mO' hi nW nV k).map (mhm hi)).Nodup := fun k => by
    unfold mO'
    split
    · exact mopt_nd M mu _
    · exact List.nodup_nil
  have ne0 : mO' hi nW nV 0 ≠ [] := by
    have hin := List.mem_of_getElem? (getD_at h4.1)
    obtain ⟨v, hv, hc⟩ := (h5 _).mp hin
    rw [eO 0 h4.1]
    exact flt_ne hv ((cd_iff I' hv).mp hc).2.2
  obtain ⟨t, t1, t2, t3⟩ := pl_four (O := mO' hi nW nV) (O' := plO (mW hi nW nV) Ns) (hm := mhm hi) (ml := mml hi nW nV) h4.2 h4.1 srt nd ne0 near
  have e7 : pl_go (plO (mW hi nW nV) Ns) (mhm hi) (mml hi nW nV) (mW hi nW nV).length 0 [] 0 0 [] (some (0, 0, List.replicate (mW hi nW nV).length none)) = some b := by
    rw [← h7]
    refine pl_go_ml (fun k v hv => ?_) _ _ _ _ _ _ _
    rcases Nat.lt_or_ge k (mW hi nW nV).length with hk | hk
    · exact mlE k v hk ((near k).1.subset hv)
    · unfold plO at hv
      rw [if_neg (by omega)] at hv
      cases hv
  have eb : b = (pl_sv t, pl_mi (mml hi nW nV) 0 t, t) := Option.some.inj (e7.symm.trans t3)
  refine ⟨fun k v hk => ?_, fun sv mi t' hm => ?_⟩
  · rw [eb] at hk
    have hv := pl_at _ 0 [] t t1 k v hk
    rw [Nat.zero_add] at hv
    have hkl : k < (mW hi nW nV).length := by
      rcases Nat.lt_or_ge k (mW hi nW nV).length with z | z
      · exact z
      · unfold mO' at hv
        rw [if_neg (by omega)] at hv
        cases hv
    rw [eO k hkl] at hv
    exact (flt_mem.mp hv).1
  · have := hm.2.2
    rw [t2] at this
    rw [eb]
    exact Option.some.inj this
theorem mk_on (I : inv hi hr cn nR nH nW nV nL) : mkOn hi hr cn nV nW (gH hi) (gW hi) (fun k => ab_ix (hi 45 0 (gW hi k))) (fun k => ab_ix (hi 35 0 (gH hi k))) (mlv hi) := by
  have I' := I

  obtain ⟨⟨fc, fm⟩, ⟨c2, c3, c5, c6, c7, c11⟩, ⟨l0, l1, l2, l3⟩, M, ⟨mu, mf⟩, ⟨n1, n2⟩, ⟨s1, s2, s3, s4, s5⟩, mi, ru, ho, ht, wk, hd, rn, ws, wt, ⟨lk1, lk2, lk3⟩, pp⟩ := I
  have M' := M
  obtain ⟨⟨hcR, hR⟩, ⟨hcH, hH⟩, ⟨hcW, hW⟩, ⟨hcV, hV⟩, ⟨hcL, hL⟩, mh, mw, ma, ms, mo, mt⟩ := M'
  have ix : ∀ w, w < nW → ab_ix (hi 45 0 w) < 4 ∧ hi 45 0 w = nI (ab_ix (hi 45 0 w)) := fun w hw => ix_of (ms w hw) (by omega)
  have it : ∀ g, g < nH → ab_ix (hi 35 0 g) < 4 ∧ hi 35 0 g = nI (ab_ix (hi 35 0 g)) := fun g hg => ix_of (mt g hg) (by omega)
  refine ⟨hV, by omega, cLf fc l2, pp, fun u hu => (wk.1 u hu).1, fun k hk => ?_, fun k hk => ⟨(ws.1 k hk).2.2.1, (gW_of M hk).1⟩, fun k hk => ?_, fun k hk => ?_, fun k hk => ?_⟩
  · have g1 := (gH_of M hk).1
    exact ⟨(ws.1 k hk).2.1, by omega, (ho.1 _ g1).1⟩
  · have w1 := (gW_of M hk).1
    exact ⟨(ix _ w1).1, (wk.1 _ w1).2.2.2.2.2.1.trans (ix _ w1).2⟩
  · have g1 := (gH_of M hk).1
    exact ⟨(it _ g1).1, (ho.1 _ g1).2.1.trans (it _ g1).2⟩
  · have g1 := (gH_of M hk).1
    have w1 := (gW_of M hk).1
    obtain ⟨m, hm, em⟩ := mf _ _ (ix _ w1).1 (it _ g1).1
    unfold mlv
    rw [mi _ _ (ix _ w1).1 (it _ g1).1, em, ab_ix_nI (by omega)]
    exact ⟨rfl, hm⟩
theorem fix_plan (fc : cR hr = hr) (fm : mR hr = hr) {hi' : ab_I} {hr' : ab_R} (f : plF hi hr hi' hr') : mR (cR hr') = cR hr' := mR_fix fm (fun K i j z => by
  rcases cR_two K i j with ⟨-, v, hv⟩ | q
  · rw [hv, ← congrFun (congrFun (congrFun fc K) i) j, hv]
  · rw [q, f.2 K i j (by rintro rfl; cases z) (by rintro rfl; cases z) (by rintro rfl; cases z)])
theorem st_miles (hnb : ab_n E < 2 ^ 31) (I : inv hi hr cn nR nH nW nV nL) : stp E (d + 20) nX7_miles nX8_miles [] hi hr cn := by
  have I' := I
  obtain ⟨⟨fc, fm⟩, ⟨c2, c3, c5, c6, c7, c11⟩, ⟨l0, l1, l2, l3⟩, M, ⟨mu, mf⟩, ⟨n1, n2⟩, ⟨s1, s2, s3, s4, s5⟩, mi, ru, ho, ht, wk, hd, rn, ws, wt, ⟨lk1, lk2, lk3⟩, pp⟩ := I
  have M' := M
  obtain ⟨⟨hcR, hR⟩, ⟨hcH, hH⟩, ⟨hcW, hW⟩, ⟨hcV, hV⟩, ⟨hcL, hL⟩, mh, mw, ma, ms, mo, mt⟩ := M'
  intro Q h
  refine cRw fc ?_
  refine c_X7_miles hnb (mk_on I') (fun hi' hr' ws' Ns s b hm => ?_) (fun hi' hr' s f p q => ?_)
  · obtain ⟨e1, e2, e3, e4⟩ := made_eq I' hm
    have f := hm.1
    have q1 := plF_q f
    have fm' := fix_plan fc fm f
    refine h _ _ _ _ (fun Q' h' => mRw fm' ?_)
    refine c_X8_miles hnb (mok_q q1 M) (by unfold mU; rw [q1 54 (by omega), q1 55 (by omega), q1 56 (by omega)]; exact mu) (by unfold mF; rw [q1 81 (by omega)]; exact mf) (fun hi2 t sv mi sc hd' => ?_) (fun hi2 sc hl => ?_)
    · rw [e4 sv mi t (mMade_q q1 hd')] at h'
      rw [fm']
      exact h' _ _ _ ⟨nR, nH, nW, nV, nL, plan_inv I' f hm.2.1 sc⟩
    · rw [mW_q q1] at hl
      omega
  · have q1 := plF_q f
    have fm' := fix_plan fc fm f
    have hl := not_len I' q
    refine h _ _ _ _ (fun Q' h' => mRw fm' ?_)
    refine c_X8_miles hnb (mok_q q1 M) (by unfold mU; rw [q1 54 (by omega), q1 55 (by omega), q1 56 (by omega)]; exact mu) (by unfold mF; rw [q1 81 (by omega)]; exact mf) (fun hi2 t sv mi sc hd' => ?_) (fun hi2 sc hl => ?_)
    · have := mMade_q q1 hd'
      have := this.1
      have := (mMade_q q1 hd').2.1
      omega
    · rw [fm']
      exact h' _ _ _ ⟨nR, nH, nW, nV, nL, plan_inv I' f p sc⟩
theorem st_planned (hnb : ab_n E < 2 ^ 31) (I : inv hi hr cn nR nH nW nV nL) {x : Int32} : stp E (d + 20) nX7_planned nX8_planned [.inl x] hi hr cn := by
  have I' := I
  obtain ⟨⟨fc, fm⟩, ⟨c2, c3, c5, c6, c7, c11⟩, ⟨l0, l1, l2, l3⟩, M, ⟨mu, mf⟩, ⟨n1, n2⟩, ⟨s1, s2, s3, s4, s5⟩, mi, ru, ho, ht, wk, hd, rn, ws, wt, ⟨lk1, lk2, lk3⟩, pp⟩ := I
  have M' := M
  obtain ⟨⟨hcR, hR⟩, ⟨hcH, hH⟩, ⟨hcW, hW⟩, ⟨hcV, hV⟩, ⟨hcL, hL⟩, mh, mw, ma, ms, mo, mt⟩ := M'
  have K : Inv hi hr cn := ⟨nR, nH, nW, nV, nL, I'⟩
  intro Q h
  refine cRw fc ?_
  have U1 : ∀ {hi' : ab_I}, mq hi hi' → mU hi' nV := fun q1 => by unfold mU; rw [q1 54 (by omega), q1 55 (by omega), q1 56 (by omega)]; exact mu
  have F1 : ∀ {hi' : ab_I}, mq hi hi' → mF hi' := fun q1 => by unfold mF; rw [q1 81 (by omega)]; exact mf
  refine c_X7_planned hnb (mk_on I') (cLf fc l1) (fun w p hi' hr' ws' Ns s b hw e hm hp => ?_) (fun w hi' hr' ws' Ns s b hw e hm hp => ?_) (fun hi' hr' s f p q => ?_)
  · obtain ⟨e1, e2, e3, e4⟩ := made_eq I' hm
    have f := hm.1
    have q1 := plF_q f
    have fm' := fix_plan fc fm f
    have ea : nxr (fun v => hi 6 v 0) (b.2.2.getD p none) = mnn (b.2.2.getD p none) := by
      rcases hb : b.2.2.getD p none with _ | v
      · rfl
      · have : b.2.2[p]? = some (some v) := by
          rw [List.getD_eq_getElem?_getD] at hb
          rcases hc : b.2.2[p]? with _ | o
          · rw [hc] at hb
            cases hb
          · rw [hc] at hb
            have hb' : o = some v := hb
            rw [hb']
        exact (ws.1 v (e3 p v this)).1
    rw [ea]
    refine h _ _ _ _ (fun Q' h' => mRw fm' ?_)
    refine c_X8_planned hnb (mok_q q1 M) (U1 q1) (F1 q1) (fun w' k hi2 t sv mi hw' e' sc hd' hk => ?_) (fun w' hi2 t sv mi hw' e' sc hd' hk => ?_) (fun hi2 sc hl => ?_)
    · have ew := (nI_eq (by omega) (by omega)).mp (e'.symm.trans e)
      subst ew
      rw [mW_q q1, ← e1] at hk
      have epk : k = p := by
        obtain ⟨x1, x2⟩ := List.getElem?_eq_some_iff.mp hk
        obtain ⟨y1, y2⟩ := List.getElem?_eq_some_iff.mp hp
        have srt := hm.2.2.1
        rcases Nat.lt_trichotomy k p with z | z | z
        · have := List.pairwise_iff_getElem.mp srt k p x1 y1 z
          omega
        · exact z
        · have := List.pairwise_iff_getElem.mp srt p k y1 x1 z
          omega
      subst epk
      have et := e4 sv mi t (mMade_q q1 hd')
      rw [et] at h'
      rw [fm']
      exact h' _ _ _ ⟨nR, nH, nW, nV, nL, plan_inv I' f hm.2.1 sc⟩
    · have ew := (nI_eq (by omega) (by omega)).mp (e'.symm.trans e)
      subst ew
      rw [mW_q q1, ← e1] at hk
      exact absurd (List.mem_of_getElem? hp) hk
    · rw [mW_q q1] at hl
      rcases hl with hl | hl
      · exact absurd e (hl w hw)
      · omega
  · obtain ⟨e1, e2, e3, e4⟩ := made_eq I' hm
    have f := hm.1
    have q1 := plF_q f
    have fm' := fix_plan fc fm f
    refine h _ _ _ _ (fun Q' h' => mRw fm' ?_)
    refine c_X8_planned hnb (mok_q q1 M) (U1 q1) (F1 q1) (fun w' k hi2 t sv mi hw' e' sc hd' hk => ?_) (fun w' hi2 t sv mi hw' e' sc hd' hk => ?_) (fun hi2 sc hl => ?_)
    · have ew := (nI_eq (by omega) (by omega)).mp (e'.symm.trans e)
      subst ew
      rw [mW_q q1, ← e1] at hk
      exact absurd (List.mem_of_getElem? hk) hp
    · rw [fm']
      exact h' _ _ _ ⟨nR, nH, nW, nV, nL, plan_inv I' f hm.2.1 sc⟩
    · rw [fm']
      exact h' _ _ _ ⟨nR, nH, nW, nV, nL, plan_inv I' f hm.2.1 sc⟩
  · have q1 := plF_q f
    have fm' := fix_plan fc fm f
    refine h _ _ _ _ (fun Q' h' => mRw fm' ?_)
    have no : ∀ w, w < nW → x = nI w → (mW hi nW nV).length = 0 ∨ 4 < (mW hi nW nV).length := fun w hw e => by
      rcases q with q | q
      · exact absurd e (q w hw)
      · exact not_len I' q
    refine c_X8_planned hnb (mok_q q1 M) (U1 q1) (F1 q1) (fun w' k hi2 t sv mi hw' e' sc hd' hk => ?_) (fun w' hi2 t sv mi hw' e' sc hd' hk => ?_) (fun hi2 sc hl => ?_)
    · have h1 := no w' hw' e'
      have h2 := (mMade_q q1 hd').1
      have h3 := (mMade_q q1 hd').2.1
      omega
    · rw [fm']
      exact h' _ _ _ ⟨nR, nH, nW, nV, nL, plan_inv I' f p sc⟩
    · rw [fm']
      exact h' _ _ _ ⟨nR, nH, nW, nV, nL, plan_inv I' f p sc⟩
end STEPS11
