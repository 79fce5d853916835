theorem ins_sorted {w : Nat} : ∀ (p : Nat) (ws : List Nat), ws.Pairwise (· < ·) → p ≤ ws.length → (∀ (i u : Nat), i < p → ws[i]? = some u → u < w) → (∀ u, ws[p]? = some u → w < u) → (ws.insertIdx p w).Pairwise (· < ·)
  | 0, ws, hs, _, _, h2 => by
    show (w :: ws).Pairwise (· < ·)
    rw [List.pairwise_cons]
    refine ⟨fun u hu => ?_, hs⟩
    rcases ws with _ | ⟨a, t⟩
    · cases hu
    · have ha := h2 a rfl
      rw [List.pairwise_cons] at hs
      rcases List.mem_cons.mp hu with z | z
      · rw [z]
        exact ha
      · exact Nat.lt_trans ha (hs.1 u z)
  | p + 1, [], _, hp, _, _ => by
    cases hp
  | p + 1, a :: t, hs, hp, h1, h2 => by
    rw [List.pairwise_cons] at hs
    show (a :: t.insertIdx p w).Pairwise (· < ·)
    rw [List.pairwise_cons]
    have hp' : p ≤ t.length := Nat.le_of_succ_le_succ hp
    refine ⟨fun u hu => ?_, ins_sorted p t hs.2 hp' (fun i u hi hu => h1 (i + 1) u (by omega) hu) (fun u hu => h2 u hu)⟩
    rcases (List.mem_insertIdx hp').mp hu with z | z
    · rw [z]
      exact h1 0 a (by omega) rfl
    · exact hs.1 u z
theorem srt_nd {ws : List Nat} (h : ws.Pairwise (· < ·)) : ws.Nodup := h.imp (fun {a b} q => by omega)
section PLN2
variable {E : ab_E} {d : Nat} {hi : ab_I} {hr : ab_R} {cn : ab_C} {Q : ab_Q}
theorem c_X3_add (hnb : ab_n E < 2 ^ 31) {m : Nat → Nat} {ws : List Nat} {Ns : Nat → List Nat} {s : Nat → Nat} {w v : Nat} (S : plS hi hr m ws Ns s) (hs : ws.Pairwise (· < ·)) (hw : hi 7 w 0 = nI w ∧ w < 200) (hws : ∀ u ∈ ws, hi 7 u 0 = nI u ∧ u < 200) (ev : hr 6 v 2 = some (7, w)) (hmv : m v ≤ 500)
    (h1 : ∀ hi' hr' N', w ∈ ws → plF hi hr hi' hr' → (∀ j, hi' 4 0 j = hi 4 0 j) → addN m (Ns w) v N' → plS hi' hr' m ws (upN Ns w N') s → Q none hi' (cR hr') cn)
    (h2 : ∀ hi' hr' p s', w ∉ ws → ws.length < 4 → p ≤ ws.length → (ws.insertIdx p w).Pairwise (· < ·) → plF hi hr hi' hr' → (∀ j, j ≠ 1 → hi' 4 0 j = hi 4 0 j) → plS hi' hr' m (ws.insertIdx p w) (upN Ns w [v]) s' → Q none hi' (cR hr') cn)
    (h3 : w ∉ ws → ws.length = 4 → Q none (ab_uI hi 4 0 2 (nI 1)) (cR hr) cn) : ab_Wm E (d + 3) nX3_add [.inr (some (4, 0)), .inr (some (6, v)), .inl (nI (m v))] hi (cR hr) cn Q := by
  have S' := S
  obtain ⟨s1, s2, s3, s4⟩ := S
  refine ab_Wm_of gX3_add kX3_add 0 rfl rfl hnb (fun J step drop less => ?_)
  have r56 : ∀ p hi1 hr1 ws1 Ns1 t, plS hi1 hr1 m ws1 Ns1 t → ws1.Nodup → ws1[p]? = some w → (∀ hi' hr' N', plF hi1 hr1 hi' hr' → (∀ j, hi' 4 0 j = hi1 4 0 j) → addN m (Ns1 w) v N' → plS hi' hr' m ws1 (upN Ns1 w N') t → Q none hi' (cR hr') cn) → J 56 [(0, .inr (some (4, 0))), (1, .inr (some (6, v))), (2, .inl (nI (m v))), (3, .inl (nI p))] [] hi1 (cR hr1) cn 0 0 := fun p hi1 hr1 ws1 Ns1 t T nd ep hq => by
    obtain ⟨t1, t2, t3, t4⟩ := T
    have hpl := (List.getElem?_eq_some_iff.mp ep).1
    have ip : ab_ix (nI p) = p := ab_ix_nI (by omega)
    obtain ⟨c1, c2, c3, c4⟩ := t4 p w ep
    refine step 56 _ _ _ _ _ _ _ ?_
    dsimp [ab_at, gX3_add, nX3_add, ab_vc, ab_v1, ab_lk, ab_st, ab_en, ab_cst, ab_mc, ab_mS, ab_tk, ab_ns, cR, ab_ia, ab_ra, ab_oa, ab_tg, ab_len, ab_uI, ab_uR]
    rw [ip, (t1.1 p (by omega)).2]
    refine ⟨ab_inI (by omega) (by omega), ?_⟩
    dsimp [ab_at, gX3_add, nX3_add, ab_vc, ab_v1, ab_lk, ab_st, ab_en, ab_cst, ab_mc, ab_mS, ab_tk, ab_ns, cR, ab_ia, ab_ra, ab_oa, ab_tg, ab_len, ab_uI, ab_uR]
    refine c_X0_add hnb c4 hmv (fun hi' hr' N' f1 a1 l1 => ?_)
    refine step 67 _ _ _ _ _ _ _ ?_
    dsimp [ab_at, gX3_add, nX3_add, ab_vc, ab_v1, ab_lk, ab_st, ab_en, ab_cst, ab_mc, ab_mS, ab_tk, ab_ns, cR, ab_ia, ab_ra, ab_oa, ab_tg, ab_len, ab_uI, ab_uR]
    have e1 : ∀ i j, hr' 1 i j = hr1 1 i j := fun i j => f1.2 1 i j (by omega)
    refine hq hi' hr' N' (plF_ch f1) (fun j => f1.1 4 0 j (by omega) (by omega)) a1 ⟨⟨fun q hq => ⟨(t1.1 q hq).1, (f1.2 14 0 q (by omega)).trans (t1.1 q hq).2⟩, t1.2⟩, (f1.1 4 0 1 (by omega) (by omega)).trans t2, t3, fun q u hu => ?_⟩
    obtain ⟨b1, b2, b3, b4⟩ := t4 q u hu
    rw [e1, e1, e1]
    refine ⟨b1, b2, b3, ?_⟩
    by_cases z : q = p
    · subst z
      rw [ep] at hu
      cases hu
      have eN : upN Ns1 w N' w = N' := if_pos rfl
      rw [eN]
      exact l1
    · have hql := (List.getElem?_eq_some_iff.mp hu).1
      have nu : u ≠ w := fun e => by
        subst e
        obtain ⟨x1, x2⟩ := List.getElem?_eq_some_iff.mp hu
        obtain ⟨y1, y2⟩ := List.getElem?_eq_some_iff.mp ep
        rcases Nat.lt_or_ge q p with y | y
        · exact List.pairwise_iff_getElem.mp nd q p x1 y1 y (x2.trans y2.symm)
        · exact List.pairwise_iff_getElem.mp nd p q y1 x1 (by omega) (y2.trans x2.symm)
      have ns : t q ≠ t p := fun e => z (t1.2 q p (by omega) (by omega) e)
      have eN : upN Ns1 w N' u = Ns1 u := if_neg nu
      rw [eN]
      refine ⟨(f1.1 1 (t q) 3 (by omega) (by omega)).trans b4.1, b4.2.1, fun i x hx => ?_⟩
      rw [f1.2 15 (t q) i (by omega), f1.1 12 (t q) i (by omega) (by omega)]
      exact b4.2.2 i x hx
  refine step 0 _ _ _ _ _ _ _ ?_
  dsimp [ab_at, gX3_add, nX3_add, ab_vc, ab_v1, ab_lk, ab_st, ab_en, ab_cst, ab_mc, ab_mS, ab_tk, ab_ns, cR, ab_ia, ab_ra, ab_oa, ab_tg, ab_len, ab_uI, ab_uR]
  rw [ev]
  refine c_X3_placeFor hnb S' hw hws (fun p hp a1 a2 => ?_)
  have ip : ab_ix (nI p) = p := ab_ix_nI (by omega)
  have r33 : (∀ u, ws[p]? = some u → u ≠ w) → J 33 [(0, .inr (some (4, 0))), (1, .inr (some (6, v))), (2, .inl (nI (m v))), (3, .inl (nI p))] [] hi (cR hr) cn 0 0 := fun q => by
    have hsi : (ws.insertIdx p w).Pairwise (· < ·) := ins_sorted p ws hs hp a1 (fun u hu => by
      have x1 := a2 u hu
      have x2 := q u hu
      omega)
    have nw : w ∉ ws := fun z => by
      obtain ⟨i, hi'⟩ := List.getElem?_of_mem z
      have nd := srt_nd hsi
      rcases Nat.lt_or_ge i p with y | y
      · have := a1 i w y hi'
        omega
      · rcases Nat.lt_or_ge p i with y2 | y2
        · obtain ⟨x1, x2⟩ := List.getElem?_eq_some_iff.mp hi'
          have e0 : ws[p]? = some (ws[p]'(by omega)) := List.getElem?_eq_getElem (by omega)
          have := a2 _ e0
          have := List.pairwise_iff_getElem.mp hs p i (by omega) x1 y2
          omega
        · exact q w (by rw [show p = i by omega]; exact hi') rfl
    refine step 33 _ _ _ _ _ _ _ ?_
    dsimp [ab_at, gX3_add, nX3_add, ab_vc, ab_v1, ab_lk, ab_st, ab_en, ab_cst, ab_mc, ab_mS, ab_tk, ab_ns, cR, ab_ia, ab_ra, ab_oa, ab_tg, ab_len, ab_uI, ab_uR]
    rw [s2]
    refine ⟨fun q2 => ?_, fun q2 => ?_⟩
    · have q2' := (nI_ltI (by omega) (by omega)).mp q2
      refine step 47 _ _ _ _ _ _ _ ?_
      dsimp [ab_at, gX3_add, nX3_add, ab_vc, ab_v1, ab_lk, ab_st, ab_en, ab_cst, ab_mc, ab_mS, ab_tk, ab_ns, cR, ab_ia, ab_ra, ab_oa, ab_tg, ab_len, ab_uI, ab_uR]
      rw [ev]
      refine c_X3_startAt hnb S' q2' hp nw (fun hi1 hr1 f1 g1 T => ?_)
      refine r56 p hi1 hr1 _ _ _ T (srt_nd hsi) ?_ (fun hi' hr' N' f2 g2 b2 T2 => ?_)
      · rw [List.getElem?_insertIdx, if_neg (by omega), if_pos rfl, if_pos hp]
      · have eN : upN Ns w [] w = [] := if_pos rfl
        rw [eN] at b2
        have eN' : N' = [v] := by
          rcases b2 with ⟨-, rfl⟩ | ⟨z, -⟩
          · rfl
          · cases z
        subst eN'
        have eU : upN (upN Ns w []) w [v] = upN Ns w [v] := by
          funext u
          unfold upN
          by_cases z : u = w
          · rw [if_pos z, if_pos z]
          · rw [if_neg z, if_neg z, if_neg z]
        rw [eU] at T2
        exact h2 hi' hr' p _ nw q2' hp hsi (plF_tr f1 f2) (fun j hj => (g2 j).trans (g1 j hj)) T2
    · have q2' : ¬ ws.length < 4 := fun z => q2 ((nI_ltI (by omega) (by omega)).mpr z)
      exact ⟨Or.inr rfl, h3 nw (by omega)⟩
  refine step 8 _ _ _ _ _ _ _ ?_
  dsimp [ab_at, gX3_add, nX3_add, ab_vc, ab_v1, ab_lk, ab_st, ab_en, ab_cst, ab_mc, ab_mS, ab_tk, ab_ns, cR, ab_ia, ab_ra, ab_oa, ab_tg, ab_len, ab_uI, ab_uR]
  rw [s2]
  refine ⟨fun q => r33 (fun u hu => ?_), fun q => ?_⟩
  · have q' := (nI_leI (by omega) (by omega)).mp q
    rw [List.getElem?_eq_none q'] at hu
    cases hu
  · have q' : ¬ ws.length ≤ p := fun z => q ((nI_leI (by omega) (by omega)).mpr z)
    have e0 : ws[p]? = some (ws[p]'(by omega)) := List.getElem?_eq_getElem (by omega)
    obtain ⟨c1, c2, c3, c4⟩ := s4 p _ e0
    generalize ws[p]'(by omega) = u at e0 c1
    rw [ip, (s1.1 p (by omega)).2]
    dsimp [ab_at, gX3_add, nX3_add, ab_vc, ab_v1, ab_lk, ab_st, ab_en, ab_cst, ab_mc, ab_mS, ab_tk, ab_ns, cR, ab_ia, ab_ra, ab_oa, ab_tg, ab_len, ab_uI, ab_uR]
    rw [c1, ev]
    refine ⟨ab_inI (by omega) (by omega), ab_if rfl (ab_if rfl ⟨fun q2 => ?_, fun q2 => r33 (fun u' hu' e => ?_)⟩)⟩
    · cases q2
      exact r56 p hi hr ws Ns s S' (srt_nd hs) e0 (fun hi' hr' N' f1 g1 b1 T => h1 hi' hr' N' (List.mem_of_getElem? e0) f1 g1 b1 T)
    · rw [e0] at hu'
      cases hu'
      exact q2 (by rw [e])
/-- a wish that can be served, for a work -/
def cCd (hi : ab_I) (gh gw : Nat → Nat) (w v : Nat) : Bool := decide (gw v = w) && (decide (hi 6 v 3 = nI 0) && decide (hi 7 (gw v) 5 = nI 0) && decide (hi 2 (gh v) 4 + hi 7 (gw v) 3 ≤ hi 2 (gh v) 2))
def mkI (hi : ab_I) (hr : ab_R) (m : Nat → Nat) (cd : Nat → Nat → Bool) (nw k : Nat) (hi1 : ab_I) (hr1 : ab_R) : Prop :=
  ∃ ws Ns s, plF hi hr hi1 hr1 ∧ plS hi1 hr1 m ws Ns s ∧ ws.Pairwise (· < ·) ∧ hi1 4 0 3 = nI 0 ∧ hi1 4 0 4 = nI 0 ∧ (∀ w ∈ ws, w < nw ∧ flt (cd w) k ≠ [] ∧ pl_near (flt (cd w) k) (Ns w) m) ∧
    ((hi1 4 0 2 = nI 0 ∧ ∀ w v, v < k → cd w v = true → w ∈ ws) ∨ (hi1 4 0 2 = nI 1 ∧ ws.length = 4 ∧ ∃ w v, v < k ∧ w < nw ∧ cd w v = true ∧ w ∉ ws))
theorem mkI_no {m : Nat → Nat} {cd : Nat → Nat → Bool} {nw k : Nat} {hi1 : ab_I} {hr1 : ab_R} (h : mkI hi hr m cd nw k hi1 hr1) (hno : ∀ w, cd w k = false) : mkI hi hr m cd nw (k + 1) hi1 hr1 := by
  obtain ⟨ws, Ns, s, i1, i2, i3, i4, i5, i6, i7⟩ := h
  refine ⟨ws, Ns, s, i1, i2, i3, i4, i5, fun w hw => by rw [flt_no (hno w)]; exact i6 w hw, ?_⟩
  rcases i7 with ⟨j1, j2⟩ | ⟨j1, j2, w, v, j3, j4, j5, j6⟩
  · refine Or.inl ⟨j1, fun w v hv hc => ?_⟩
    rcases Nat.lt_or_ge v k with z | z
    · exact j2 w v z hc
    · rw [show v = k by omega, hno w] at hc
      cases hc
  · exact Or.inr ⟨j1, j2, w, v, by omega, j4, j5, j6⟩
theorem c_X7_fill (hnb : ab_n E < 2 ^ 31) {m : Nat → Nat} {cd : Nat → Nat → Bool} {nw k w : Nat} {hi1 : ab_I} {hr1 : ab_R} (hnw : nw ≤ 200) (hnum : ∀ u, u < nw → hi 7 u 0 = nI u) (hw : w < nw) (ev : hr 6 k 2 = some (7, w)) (hmv : m k ≤ 500) (hc : ∀ w', cd w' k = true ↔ w' = w) (I : mkI hi hr m cd nw k hi1 hr1)
    (h : ∀ hi' hr', mkI hi hr m cd nw (k + 1) hi' hr' → Q none hi' (cR hr') cn) : ab_Wm E (d + 3) nX3_add [.inr (some (4, 0)), .inr (some (6, k)), .inl (nI (m k))] hi1 (cR hr1) cn Q := by
  obtain ⟨ws, Ns, s, i1, i2, i3, i4, i5, i6, i7⟩ := I
  have num : ∀ u, u < nw → hi1 7 u 0 = nI u ∧ u < 200 := fun u hu => ⟨(i1.1 7 u 0 (by omega) (by omega) (by omega)).trans (hnum u hu), by omega⟩
  have hcw : cd w k = true := (hc w).mpr rfl
  have hco : ∀ w', w' ≠ w → cd w' k = false := fun w' q => by
    rw [Bool.eq_false_iff]
    exact fun z => q ((hc w').mp z)
  have hlt : ∀ w' u, u ∈ flt (cd w') k → u < k := fun w' u hu => (flt_mem.mp hu).1
  refine c_X3_add hnb i2 i3 (num w hw) (fun u hu => num u (i6 u hu).1) ((i1.2 6 k 2 (by omega) (by omega) (by omega)).trans ev) hmv (fun hi' hr' N' hin f1 g1 a1 S1 => ?_) (fun hi' hr' p s' hin hl hp hsi f1 g1 S1 => ?_) (fun hin hl => ?_)
  · refine h hi' hr' ⟨ws, upN Ns w N', s, plF_tr i1 f1, S1, i3, (g1 3).trans i4, (g1 4).trans i5, fun u hu => ?_, ?_⟩
    · obtain ⟨b1, b2, b3⟩ := i6 u hu
      by_cases z : u = w
      · subst z
        have eN : upN Ns u N' u = N' := if_pos rfl
        rw [eN, flt_yes hcw]
        exact ⟨b1, by simp, near_add (flt_sorted _ _) (hlt u) b3 a1⟩
      · have eN : upN Ns w N' u = Ns u := if_neg z
        rw [eN, flt_no (hco u z)]
        exact ⟨b1, b2, b3⟩
    · rw [g1 2]
      rcases i7 with ⟨j1, j2⟩ | ⟨j1, j2, w', v, j3, j4, j5, j6⟩
      · refine Or.inl ⟨j1, fun w' v hv hcd => ?_⟩
        rcases Nat.lt_or_ge v k with z | z
        · exact j2 w' v z hcd
        · rw [show v = k by omega] at hcd
          rw [(hc w').mp hcd]
          exact hin
      · exact Or.inr ⟨j1, j2, w', v, by omega, j4, j5, j6⟩
  · have j : hi1 4 0 2 = nI 0 ∧ ∀ w v, v < k → cd w v = true → w ∈ ws := by
      rcases i7 with j | ⟨-, j2, -⟩
      · exact j
      · omega
    have hnil : flt (cd w) k = [] := flt_nil (fun v hv => by
      rw [Bool.eq_false_iff]
      exact fun z => hin (j.2 w v hv z))
    have mem : ∀ u, u ∈ ws.insertIdx p w ↔ u = w ∨ u ∈ ws := fun u => List.mem_insertIdx hp
    refine h hi' hr' ⟨ws.insertIdx p w, upN Ns w [k], s', plF_tr i1 f1, S1, hsi, (g1 3 (by omega)).trans i4, (g1 4 (by omega)).trans i5, fun u hu => ?_, Or.inl ⟨(g1 2 (by omega)).trans j.1, fun w' v hv hcd => ?_⟩⟩
    · by_cases z : u = w
      · subst z
        have eN : upN Ns u [k] u = [k] := if_pos rfl
        rw [eN, flt_yes hcw, hnil]
        refine ⟨hw, by simp, List.Sublist.refl _, fun v hv hv' => absurd hv hv'⟩
      · have hu' : u ∈ ws := ((mem u).mp hu).resolve_left z
        have eN : upN Ns w [k] u = Ns u := if_neg z
        rw [eN, flt_no (hco u z)]
        exact i6 u hu'
    · rw [mem]
      rcases Nat.lt_or_ge v k with z | z
      · exact Or.inr (j.2 w' v z hcd)
      · rw [show v = k by omega] at hcd
        exact Or.inl ((hc w').mp hcd)
  · refine h _ hr1 ⟨ws, Ns, s, plF_tr i1 (plF_I (by omega)), i2, i3, i4, i5, fun u hu => ?_, Or.inr ⟨rfl, hl, w, k, by omega, hw, hcw, hin⟩⟩
    have z : u ≠ w := fun e => hin (e ▸ hu)
    rw [flt_no (hco u z)]
    exact i6 u hu
end PLN2
