/-! THE LISTS -/
theorem kA_ra {K : Nat} (h1 : 17 ≤ K) (h2 : K ≤ 20) : ab_ra K = true := by
  rcases (show K = 17 ∨ K = 18 ∨ K = 19 ∨ K = 20 by omega) with rfl | rfl | rfl | rfl <;> rfl
theorem kA_oa {K : Nat} (h1 : 17 ≤ K) (h2 : K ≤ 20) : ab_oa K = true := by
  rcases (show K = 17 ∨ K = 18 ∨ K = 19 ∨ K = 20 by omega) with rfl | rfl | rfl | rfl <;> rfl
theorem kA_tg {K : Nat} (h1 : 17 ≤ K) (h2 : K ≤ 20) : ab_tg K = 4 := by
  rcases (show K = 17 ∨ K = 18 ∨ K = 19 ∨ K = 20 by omega) with rfl | rfl | rfl | rfl <;> rfl
theorem kA_len {K i : Nat} (h1 : 17 ≤ K) (h2 : K ≤ 20) : ab_len K i = ab_cap i := by
  rcases (show K = 17 ∨ K = 18 ∨ K = 19 ∨ K = 20 by omega) with rfl | rfl | rfl | rfl <;> rfl
theorem ab_cap_big : ∀ n, 244 ≤ ab_cap (8 + n)
  | 0 => by decide
  | n + 1 => by
    have := ab_cap_big n
    show 244 ≤ ab_cap (8 + n) + ab_cap (8 + n) / 2
    omega
theorem ab_cap_lt {g : Nat} (h : ab_cap g ≤ 200) : g < 8 := by
  rcases Nat.lt_or_ge g 8 with z | z
  · exact z
  · have := ab_cap_big (g - 8)
    rw [show 8 + (g - 8) = g by omega] at this
    omega
theorem ab_cap_pos : ∀ g, 0 < ab_cap g
  | 0 => by decide
  | g + 1 => by
    have := ab_cap_pos g
    show 0 < ab_cap g + ab_cap g / 2
    omega
theorem ab_cap_hi : ∀ g, g < 9 → ab_cap g ≤ 244 := by decide +kernel
theorem ab_cap_sh : ∀ g, g < 8 → nI (ab_cap g) >>> (nI 1 &&& 31) = nI (ab_cap g / 2) := by decide +kernel
theorem ab_cap_mx : ∀ g, g < 8 → ¬ ab_cap g / 2 < 1 := by decide +kernel
/-- a list: how many, what lies in it -/
def cL (hi : ab_I) (hr : ab_R) (cn : ab_C) (k n : Nat) (el : Nat → Nat × Nat) : Prop :=
  hi 0 k 2 = nI n ∧ ((n = 0 ∧ hr 0 k 1 = some (200, 0) ∧ cn (17 + k) = 0) ∨ ∃ g, hr 0 k 1 = some (17 + k, g) ∧ n ≤ ab_cap g ∧ g < 9 ∧ cn (17 + k) = g + 1 ∧ ∀ j, j < n → hr (17 + k) g j = some (el j))
section JDK
variable {E : ab_E} {d : Nat} {hi : ab_I} {hr : ab_R} {cn : ab_C} {Q : ab_Q}
theorem c_AL_size (hnb : ab_n E < 2 ^ 31) {k n : Nat} {el : Nat → Nat × Nat} (C : cL hi hr cn k n el) (h : Q (some (.inl (nI n))) hi hr cn) : ab_Wm E (d + 1) nJx4a65c_size_8abf5 [.inr (some (0, k))] hi hr cn Q := by
  refine ab_Wm_of gJx4a65c_size_8abf5 kJx4a65c_size_8abf5 1 rfl rfl hnb (fun J step drop less => ?_)
  refine step 0 _ _ _ _ _ _ _ ?_
  dsimp [ab_at, gJx4a65c_size_8abf5, nJx4a65c_size_8abf5, ab_vc, ab_v1, ab_lk, ab_st, ab_en, ab_cst, ab_mc, ab_mS, ab_tk, ab_ns]
  rw [C.1]
  exact h
theorem c_J3_check (hnb : ab_n E < 2 ^ 31) {i n : Nat} (hi' : i < n) (hn : n < 100000) (h : Q (some (.inl (nI i))) hi hr cn) : ab_Wm E (d + 1) nJ3_checkIndex_8e157 [.inl (nI i), .inl (nI n), .inr none] hi hr cn Q := by
  refine ab_Wm_of gJ3_checkIndex_8e157 kJ3_checkIndex_8e157 1 rfl rfl hnb (fun J step drop less => ?_)
  refine step 0 _ _ _ _ _ _ _ ?_
  dsimp [ab_at, gJ3_checkIndex_8e157, nJ3_checkIndex_8e157, ab_vc, ab_v1, ab_lk, ab_st, ab_en, ab_cst, ab_mc, ab_mS, ab_tk, ab_ns]
  refine ⟨fun q => absurd q (nI_pos (by omega)), fun _ => ⟨fun _ => ?_, fun q => absurd (nI_lt hi' (by omega)) q⟩⟩
  refine step 16 _ _ _ _ _ _ _ ?_
  dsimp [ab_at, gJ3_checkIndex_8e157, nJ3_checkIndex_8e157, ab_vc, ab_v1, ab_lk, ab_st, ab_en, ab_cst, ab_mc, ab_mS, ab_tk, ab_ns]
  exact h
theorem c_J15_check (hnb : ab_n E < 2 ^ 31) {i n : Nat} (hi' : i < n) (hn : n < 100000) (h : Q (some (.inl (nI i))) hi hr cn) : ab_Wm E (d + 2) nJ15_checkIndex_7cf53 [.inl (nI i), .inl (nI n)] hi hr cn Q := by
  refine ab_Wm_of gJ15_checkIndex_7cf53 kJ15_checkIndex_7cf53 1 rfl rfl hnb (fun J step drop less => ?_)
  refine step 0 _ _ _ _ _ _ _ ?_
  dsimp [ab_at, gJ15_checkIndex_7cf53, nJ15_checkIndex_7cf53, ab_vc, ab_v1, ab_lk, ab_st, ab_en, ab_cst, ab_mc, ab_mS, ab_tk, ab_ns]
  refine c_J3_check hnb hi' hn ?_
  refine step 6 _ _ _ _ _ _ _ ?_
  dsimp [ab_at, gJ15_checkIndex_7cf53, nJ15_checkIndex_7cf53, ab_vc, ab_v1, ab_lk, ab_st, ab_en, ab_cst, ab_mc, ab_mS, ab_tk, ab_ns]
  exact h
theorem c_AL_elem (hnb : ab_n E < 2 ^ 31) {k i K g : Nat} (h1 : 17 ≤ K) (h2 : K ≤ 20) (e : hr 0 k 1 = some (K, g)) (hg : i < ab_cap g) (hb : i < 100000) (h : Q (some (.inr (hr K g i))) hi hr cn) : ab_Wm E (d + 1) nJx4a65c_elementData_915e3 [.inr (some (0, k)), .inl (nI i)] hi hr cn Q := by
  refine ab_Wm_of gJx4a65c_elementData_915e3 kJx4a65c_elementData_915e3 3 rfl rfl hnb (fun J step drop less => ?_)
  refine step 0 _ _ _ _ _ _ _ ?_
  dsimp [ab_at, gJx4a65c_elementData_915e3, nJx4a65c_elementData_915e3, ab_vc, ab_v1, ab_lk, ab_st, ab_en, ab_cst, ab_mc, ab_mS, ab_tk, ab_ns]
  rw [e]
  dsimp [ab_at, gJx4a65c_elementData_915e3, nJx4a65c_elementData_915e3, ab_vc, ab_v1, ab_lk, ab_st, ab_en, ab_cst, ab_mc, ab_mS, ab_tk, ab_ns]
  rw [if_pos (kA_ra h1 h2), kA_len h1 h2, ab_ix_nI hb]
  exact ⟨ab_inI hg hb, h⟩
theorem c_AL_get (hnb : ab_n E < 2 ^ 31) {k n i : Nat} {el : Nat → Nat × Nat} (hk : k < 4) (hn : n ≤ 200) (C : cL hi hr cn k n el) (hi' : i < n) (h : Q (some (.inr (some (el i)))) hi hr cn) : ab_Wm E (d + 3) nJx4a65c_get_915e3 [.inr (some (0, k)), .inl (nI i)] hi hr cn Q := by
  obtain ⟨c1, c2⟩ := C
  rcases c2 with ⟨z, -⟩ | ⟨g, c2, c3, c3', c4, c5⟩
  · omega
  · refine ab_Wm_of gJx4a65c_get_915e3 kJx4a65c_get_915e3 3 rfl rfl hnb (fun J step drop less => ?_)
    refine step 0 _ _ _ _ _ _ _ ?_
    dsimp [ab_at, gJx4a65c_get_915e3, nJx4a65c_get_915e3, ab_vc, ab_v1, ab_lk, ab_st, ab_en, ab_cst, ab_mc, ab_mS, ab_tk, ab_ns]
    rw [c1]
    refine c_J15_check hnb hi' (by omega) ?_
    refine step 8 _ _ _ _ _ _ _ ?_
    dsimp [ab_at, gJx4a65c_get_915e3, nJx4a65c_get_915e3, ab_vc, ab_v1, ab_lk, ab_st, ab_en, ab_cst, ab_mc, ab_mS, ab_tk, ab_ns]
    refine c_AL_elem hnb (K := 17 + k) (by omega) (by omega) c2 (by omega) (by omega) ?_
    rw [c5 i hi']
    refine step 14 _ _ _ _ _ _ _ ?_
    dsimp [ab_at, gJx4a65c_get_915e3, nJx4a65c_get_915e3, ab_vc, ab_v1, ab_lk, ab_st, ab_en, ab_cst, ab_mc, ab_mS, ab_tk, ab_ns]
    exact h
theorem c_J8_newLength (hnb : ab_n E < 2 ^ 31) {g : Nat} (hg : g < 8) (h : Q (some (.inl (nI (ab_cap (g + 1))))) hi hr cn) : ab_Wm E (d + 1) nJ8_newLength_cabcc [.inl (nI (ab_cap g)), .inl (nI 1), .inl (nI (ab_cap g / 2))] hi hr cn Q := by
  have hm : (if nI 1 < nI (ab_cap g / 2) then nI (ab_cap g / 2) else nI 1) = nI (ab_cap g / 2) := by
    have h1 := ab_cap_hi g (by omega)
    have h2 := ab_cap_mx g hg
    by_cases e : nI 1 < nI (ab_cap g / 2)
    · rw [if_pos e]
    · rw [if_neg e]
      have : ¬ 1 < ab_cap g / 2 := fun z => e ((nI_ltI (by omega) (by omega)).mpr z)
      rw [show ab_cap g / 2 = 1 by omega]
  have e2 : ab_cap g + ab_cap g / 2 = ab_cap (g + 1) := rfl
  have h1 := ab_cap_hi (g + 1) (by omega)
  have h2 := ab_cap_pos (g + 1)
  refine ab_Wm_of gJ8_newLength_cabcc kJ8_newLength_cabcc 1 rfl rfl hnb (fun J step drop less => ?_)
  refine step 0 _ _ _ _ _ _ _ ?_
  dsimp [ab_at, gJ8_newLength_cabcc, nJ8_newLength_cabcc, ab_vc, ab_v1, ab_lk, ab_st, ab_en, ab_cst, ab_mc, ab_mS, ab_tk, ab_ns]
  rw [hm, nI_add, e2]
  refine ⟨fun q => absurd q ?_, fun _ => ⟨fun q => absurd q ?_, fun _ => h⟩⟩
  · exact fun q => absurd ((nI_leI (by omega) (by omega)).mp q) (by omega)
  · exact fun q => absurd ((nI_ltI (by omega) (by omega)).mp q) (by omega)
/-- a list's array, made greater -/
def cpR (hr : ab_R) (K g n : Nat) (K' i' j' : Nat) : Option (Nat × Nat) := if K' = K then (if i' = g + 1 then (if j' < n then hr K g j' else none) else hr K' i' j') else hr K' i' j'
def copyOf_ok (E : ab_E) (d : Nat) : Prop := ∀ (K g KE : Nat) (hi : ab_I) (hr : ab_R) (cn : ab_C) (Q : ab_Q), 17 ≤ K → K ≤ 20 → g < 8 → KE < 10 → cn K = g + 1 → (∀ j K' i', j < ab_cap g → hr K g j = some (K', i') → K' = KE) → Q (some (.inr (some (K, g + 1)))) (ab_zI hi K (g + 1)) (cpR hr K g (ab_cap g)) (ab_uC cn K (g + 2)) → ab_Wm E d nJ7_copyOf_1904c [.inr (some (K, g)), .inl (nI (ab_cap (g + 1)))] hi hr cn Q
/-- what a list's add leaves as it was -/
def adP (k : Nat) (hi : ab_I) (hr : ab_R) (cn : ab_C) (hi' : ab_I) (hr' : ab_R) (cn' : ab_C) : Prop :=
  (∀ K i j, ¬ (K = 0 ∧ i = k) → K ≠ 17 + k → hi' K i j = hi K i j) ∧ (∀ K i j, ¬ (K = 0 ∧ i = k) → K ≠ 17 + k → hr' K i j = hr K i j) ∧ ∀ K, K ≠ 17 + k → cn' K = cn K
theorem ab_cap_s1 : ∀ g, g < 8 → nI (ab_cap g + 1) - nI (ab_cap g) = nI 1 := by decide +kernel
theorem c_AL_growE (hnb : ab_n E < 2 ^ 31) {k : Nat} (hk : k < 4) (e : hr 0 k 1 = some (200, 0)) (hc : cn (17 + k) = 0) (h : Q (some (.inr (some (17 + k, 0)))) (ab_zI hi (17 + k) 0) (ab_uR (ab_zR hr (17 + k) 0) 0 k 1 (some (17 + k, 0))) (ab_uC cn (17 + k) 1)) : ab_Wm E (d + 1) nJx4a65c_grow_92f84 [.inr (some (0, k)), .inl (nI 1)] hi hr cn Q := by
  refine ab_Wm_of gJx4a65c_grow_92f84 kJx4a65c_grow_92f84 3 rfl rfl hnb (fun J step drop less => ?_)
  refine step 0 _ _ _ _ _ _ _ ?_
  dsimp [ab_at, gJx4a65c_grow_92f84, nJx4a65c_grow_92f84, ab_vc, ab_v1, ab_lk, ab_st, ab_en, ab_cst, ab_mc, ab_mS, ab_tk, ab_ns]
  rw [e]
  dsimp [ab_at, gJx4a65c_grow_92f84, nJx4a65c_grow_92f84, ab_vc, ab_v1, ab_lk, ab_st, ab_en, ab_cst, ab_mc, ab_mS, ab_tk, ab_ns]
  refine ⟨fun q => absurd q (by decide), fun _ => ⟨fun _ => ?_, fun q => absurd rfl q⟩⟩
  refine step 45 _ _ _ _ _ _ _ ?_
  dsimp [ab_at, gJx4a65c_grow_92f84, nJx4a65c_grow_92f84, ab_vc, ab_v1, ab_lk, ab_st, ab_en, ab_cst, ab_mc, ab_mS, ab_tk, ab_ns]
  refine ⟨17 + k, kA_oa (by omega) (by omega), kA_tg (by omega) (by omega), ?_, ?_, by decide, ?_, ?_⟩
  · rw [kA_len (by omega) (by omega), hc]
    decide
  · rw [kA_len (by omega) (by omega), hc]
    decide
  · rw [kA_len (by omega) (by omega), hc]
    decide
  · rw [hc]
    exact h
theorem c_AL_growF (hnb : ab_n E < 2 ^ 31) {d' : Nat} (HC : copyOf_ok E d) {k g KE : Nat} (hk : k < 4) (hg : g < 8) (hKE : KE < 10) (e : hr 0 k 1 = some (17 + k, g)) (hc : cn (17 + k) = g + 1) (hel : ∀ j K' i', j < ab_cap g → hr (17 + k) g j = some (K', i') → K' = KE) (hd : d = d' + 1) (h : Q (some (.inr (some (17 + k, g + 1)))) (ab_zI hi (17 + k) (g + 1)) (ab_uR (cpR hr (17 + k) g (ab_cap g)) 0 k 1 (some (17 + k, g + 1))) (ab_uC cn (17 + k) (g + 2))) : ab_Wm E (d + 1) nJx4a65c_grow_92f84 [.inr (some (0, k)), .inl (nI (ab_cap g + 1))] hi hr cn Q := by
  have hp := ab_cap_pos g
  have hh := ab_cap_hi g (by omega)
  refine ab_Wm_of gJx4a65c_grow_92f84 kJx4a65c_grow_92f84 3 rfl rfl hnb (fun J step drop less => ?_)
  refine step 0 _ _ _ _ _ _ _ ?_
  dsimp [ab_at, gJx4a65c_grow_92f84, nJx4a65c_grow_92f84, ab_vc, ab_v1, ab_lk, ab_st, ab_en, ab_cst, ab_mc, ab_mS, ab_tk, ab_ns]
  rw [e]
  dsimp [ab_at, gJx4a65c_grow_92f84, nJx4a65c_grow_92f84, ab_vc, ab_v1, ab_lk, ab_st, ab_en, ab_cst, ab_mc, ab_mS, ab_tk, ab_ns]
  rw [if_neg (by omega), if_neg (by omega), if_pos (by omega), if_pos (by omega), kA_len (by omega) (by omega)]
  refine ⟨fun _ => ?_, fun q => absurd (show (0 : Int32) < nI (ab_cap g) from nI_lt (a := 0) hp (by omega)) q⟩
  refine step 20 _ _ _ _ _ _ _ ?_
  dsimp [ab_at, gJx4a65c_grow_92f84, nJx4a65c_grow_92f84, ab_vc, ab_v1, ab_lk, ab_st, ab_en, ab_cst, ab_mc, ab_mS, ab_tk, ab_ns]
  rw [ab_cap_s1 g hg, ab_cap_sh g hg]
  subst hd
  refine c_J8_newLength hnb hg ?_
  refine step 30 _ _ _ _ _ _ _ ?_
  dsimp [ab_at, gJx4a65c_grow_92f84, nJx4a65c_grow_92f84, ab_vc, ab_v1, ab_lk, ab_st, ab_en, ab_cst, ab_mc, ab_mS, ab_tk, ab_ns]
  rw [e]
  refine HC (17 + k) g KE hi hr cn _ (by omega) (by omega) hg hKE hc hel ?_
  refine step 40 _ _ _ _ _ _ _ ?_
  dsimp [ab_at, gJx4a65c_grow_92f84, nJx4a65c_grow_92f84, ab_vc, ab_v1, ab_lk, ab_st, ab_en, ab_cst, ab_mc, ab_mS, ab_tk, ab_ns]
  exact h
theorem c_AL_grow0E (hnb : ab_n E < 2 ^ 31) {k : Nat} (hk : k < 4) (es : hi 0 k 2 = nI 0) (e : hr 0 k 1 = some (200, 0)) (hc : cn (17 + k) = 0) (h : Q (some (.inr (some (17 + k, 0)))) (ab_zI hi (17 + k) 0) (ab_uR (ab_zR hr (17 + k) 0) 0 k 1 (some (17 + k, 0))) (ab_uC cn (17 + k) 1)) : ab_Wm E (d + 2) nJx4a65c_grow_d5877 [.inr (some (0, k))] hi hr cn Q := by
  refine ab_Wm_of gJx4a65c_grow_d5877 kJx4a65c_grow_d5877 3 rfl rfl hnb (fun J step drop less => ?_)
  refine step 0 _ _ _ _ _ _ _ ?_
  dsimp [ab_at, gJx4a65c_grow_d5877, nJx4a65c_grow_d5877, ab_vc, ab_v1, ab_lk, ab_st, ab_en, ab_cst, ab_mc, ab_mS, ab_tk, ab_ns]
  rw [es, nI_add]
  refine c_AL_growE hnb hk e hc ?_
  refine step 10 _ _ _ _ _ _ _ ?_
  dsimp [ab_at, gJx4a65c_grow_d5877, nJx4a65c_grow_d5877, ab_vc, ab_v1, ab_lk, ab_st, ab_en, ab_cst, ab_mc, ab_mS, ab_tk, ab_ns]
  exact h
theorem c_AL_grow0F (hnb : ab_n E < 2 ^ 31) {d' : Nat} (HC : copyOf_ok E d) {k g KE : Nat} (hk : k < 4) (hg : g < 8) (hKE : KE < 10) (es : hi 0 k 2 = nI (ab_cap g)) (e : hr 0 k 1 = some (17 + k, g)) (hc : cn (17 + k) = g + 1) (hel : ∀ j K' i', j < ab_cap g → hr (17 + k) g j = some (K', i') → K' = KE) (hd : d = d' + 1) (h : Q (some (.inr (some (17 + k, g + 1)))) (ab_zI hi (17 + k) (g + 1)) (ab_uR (cpR hr (17 + k) g (ab_cap g)) 0 k 1 (some (17 + k, g + 1))) (ab_uC cn (17 + k) (g + 2))) : ab_Wm E (d + 2) nJx4a65c_grow_d5877 [.inr (some (0, k))] hi hr cn Q := by
  refine ab_Wm_of gJx4a65c_grow_d5877 kJx4a65c_grow_d5877 3 rfl rfl hnb (fun J step drop less => ?_)
  refine step 0 _ _ _ _ _ _ _ ?_
  dsimp [ab_at, gJx4a65c_grow_d5877, nJx4a65c_grow_d5877, ab_vc, ab_v1, ab_lk, ab_st, ab_en, ab_cst, ab_mc, ab_mS, ab_tk, ab_ns]
  rw [es, nI_add]
  refine c_AL_growF hnb HC hk hg hKE e hc hel hd ?_
  refine step 10 _ _ _ _ _ _ _ ?_
  dsimp [ab_at, gJx4a65c_grow_d5877, nJx4a65c_grow_d5877, ab_vc, ab_v1, ab_lk, ab_st, ab_en, ab_cst, ab_mc, ab_mS, ab_tk, ab_ns]
  exact h
theorem ab_uR_k {hr : ab_R} {K i j : Nat} {x : Option (Nat × Nat)} {K' i' j' : Nat} (h : K' ≠ K) : ab_uR hr K i j x K' i' j' = hr K' i' j' := if_neg h
theorem ab_uR_e {hr : ab_R} {K i j : Nat} {x : Option (Nat × Nat)} : ab_uR hr K i j x K i j = x := by
  unfold ab_uR
  rw [if_pos rfl, if_pos rfl, if_pos rfl]
theorem ab_uR_i {hr : ab_R} {K i j : Nat} {x : Option (Nat × Nat)} {K' i' j' : Nat} (h : i' ≠ i) : ab_uR hr K i j x K' i' j' = hr K' i' j' := by
  unfold ab_uR
  rw [if_neg h]
  split <;> rfl
theorem ab_uR_j {hr : ab_R} {K i j : Nat} {x : Option (Nat × Nat)} {K' i' j' : Nat} (h : j' ≠ j) : ab_uR hr K i j x K' i' j' = hr K' i' j' := by
  unfold ab_uR
  rw [if_neg h]
  split
  · split <;> rfl
  · rfl
theorem ab_zR_k {hr : ab_R} {K i : Nat} {K' i' j' : Nat} (h : K' ≠ K) : ab_zR hr K i K' i' j' = hr K' i' j' := if_neg h
theorem ab_zI_k {hi : ab_I} {K i : Nat} {K' i' j' : Nat} (h : K' ≠ K) : ab_zI hi K i K' i' j' = hi K' i' j' := if_neg h
theorem ab_zI_i {hi : ab_I} {K i : Nat} {K' i' j' : Nat} (h : i' ≠ i) : ab_zI hi K i K' i' j' = hi K' i' j' := by
  unfold ab_zI
  rw [if_neg h]
  split <;> rfl
theorem ab_zR_i {hr : ab_R} {K i : Nat} {K' i' j' : Nat} (h : i' ≠ i) : ab_zR hr K i K' i' j' = hr K' i' j' := by
  unfold ab_zR
  rw [if_neg h]
  split <;> rfl
theorem ab_uC_k {cn : ab_C} {K n K' : Nat} (h : K' ≠ K) : ab_uC cn K n K' = cn K' := if_neg h
theorem ab_uC_e {cn : ab_C} {K n : Nat} : ab_uC cn K n K = n := if_pos rfl
theorem cpR_k {hr : ab_R} {K g n K' i' j' : Nat} (h : K' ≠ K) : cpR hr K g n K' i' j' = hr K' i' j' := if_neg h
theorem c_AL_add3 (hnb : ab_n E < 2 ^ 31) {d' : Nat} (HC : copyOf_ok E d) {k n KE Kr ir : Nat} {el : Nat → Nat × Nat} (hk : k < 4) (hn : n < 200) (hKE : KE < 10) (hel : ∀ j, (el j).1 = KE) (hr0 : el n = (Kr, ir)) (C : cL hi hr cn k n el) (hd : d = d' + 1) {arr : Option (Nat × Nat)} (harr : hr 0 k 1 = arr)
    (h : ∀ hi' hr' cn', adP k hi hr cn hi' hr' cn' → hi' 0 k 1 = hi 0 k 1 → cL hi' hr' cn' k (n + 1) el → Q none hi' hr' cn') : ab_Wm E (d + 3) nJx4a65c_add_72be8 [.inr (some (0, k)), .inr (some (Kr, ir)), .inr arr, .inl (nI n)] hi hr cn Q := by
  obtain ⟨c1, c2⟩ := C
  have hKr : Kr = KE := by rw [← hel n, hr0]
  refine ab_Wm_of gJx4a65c_add_72be8 kJx4a65c_add_72be8 0 rfl rfl hnb (fun J step drop less => ?_)
  have fin : ∀ (hi1 : ab_I) (hr1 : ab_R) (cn1 : ab_C) (g ck cs : Nat), adP k hi hr cn hi1 hr1 cn1 → hi1 0 k 1 = hi 0 k 1 → hr1 0 k 1 = some (17 + k, g) → n < ab_cap g → g < 9 → cn1 (17 + k) = g + 1 → (∀ j, j < n → hr1 (17 + k) g j = some (el j)) → J 11 [(0, .inr (some (0, k))), (1, .inr (some (Kr, ir))), (2, .inr (some (17 + k, g))), (3, .inl (nI n))] [] hi1 hr1 cn1 ck cs := fun hi1 hr1 cn1 g ck cs a1 a0 a2 a3 a3' a4 a5 => by
    refine step 11 _ _ _ _ _ _ _ ?_
    dsimp [ab_at, gJx4a65c_add_72be8, nJx4a65c_add_72be8, ab_vc, ab_v1, ab_lk, ab_st, ab_en, ab_cst, ab_mc, ab_mS, ab_tk, ab_ns]
    rw [if_pos (kA_oa (by omega) (by omega)), kA_tg (by omega) (by omega), kA_len (by omega) (by omega), ab_ix_nI (by omega), nI_add]
    refine ⟨fun K' i' q => ?_, ab_inI a3 (by omega), ?_⟩
    · cases q
      exact ⟨by omega, fun z => by omega, fun z => by omega⟩
    · refine h _ _ _ ⟨fun K i j q1 q2 => ?_, fun K i j q1 q2 => ?_, a1.2.2⟩ ?_ ⟨?_, Or.inr ⟨g, ?_, by omega, a3', a4, fun j hj => ?_⟩⟩
      · have e1 : ab_uI hi1 0 k 2 (nI (n + 1)) K i j = hi1 K i j := by
          by_cases z : K = 0
          · exact ab_uI_i (fun y => q1 ⟨z, y⟩)
          · exact ab_uI_k z
        rw [e1]
        exact a1.1 K i j q1 q2
      · rw [ab_uR_k q2]
        exact a1.2.1 K i j q1 q2
      · rw [ab_uI_j (by omega)]
        exact a0
      · exact ab_uI_e
      · rw [ab_uR_k (by omega)]
        exact a2
      · by_cases z : j = n
        · rw [z, ab_uR_e, hr0]
        · rw [ab_uR_j z]
          exact a5 j (by omega)
  rcases c2 with ⟨z, c2, c4⟩ | ⟨g, c2, c3, c3', c4, c5⟩
  · subst z
    rw [c2] at harr
    subst harr
    refine step 0 _ _ _ _ _ _ _ ?_
    dsimp [ab_at, gJx4a65c_add_72be8, nJx4a65c_add_72be8, ab_vc, ab_v1, ab_lk, ab_st, ab_en, ab_cst, ab_mc, ab_mS, ab_tk, ab_ns]
    refine ⟨fun q => absurd rfl q, fun _ => ?_⟩
    refine c_AL_grow0E hnb hk c1 c2 c4 ?_
    refine step 10 _ _ _ _ _ _ _ ?_
    dsimp [ab_at, gJx4a65c_add_72be8, nJx4a65c_add_72be8, ab_vc, ab_v1, ab_lk, ab_st, ab_en, ab_cst, ab_mc, ab_mS, ab_tk, ab_ns]
    refine fin _ _ _ 0 _ _ ⟨fun K i j q1 q2 => ab_zI_k q2, fun K i j q1 q2 => ?_, fun K q => ab_uC_k q⟩ (ab_zI_k (by omega)) ab_uR_e (by decide) (by omega) ab_uC_e (fun j hj => absurd hj (by omega))
    have e1 : ab_uR (ab_zR hr (17 + k) 0) 0 k 1 (some (17 + k, 0)) K i j = ab_zR hr (17 + k) 0 K i j := by
      by_cases z : K = 0
      · exact ab_uR_i (fun y => q1 ⟨z, y⟩)
      · exact ab_uR_k z
    rw [e1, ab_zR_k q2]
  · rw [c2] at harr
    subst harr
    have hh := ab_cap_hi g (by omega)
    by_cases z : n = ab_cap g
    · have hg := ab_cap_lt (show ab_cap g ≤ 200 by omega)
      have hl : ∀ j K' i', j < ab_cap g → hr (17 + k) g j = some (K', i') → K' = KE := fun j K' i' hj q => by
        rw [c5 j (by omega)] at q
        have := hel j
        cases q' : el j with
        | mk a b =>
          rw [q'] at q this
          cases q
          exact this
      refine step 0 _ _ _ _ _ _ _ ?_
      dsimp [ab_at, gJx4a65c_add_72be8, nJx4a65c_add_72be8, ab_vc, ab_v1, ab_lk, ab_st, ab_en, ab_cst, ab_mc, ab_mS, ab_tk, ab_ns]
      rw [if_neg (by omega), if_neg (by omega), if_pos (by omega), if_pos (by omega), kA_len (by omega) (by omega)]
      refine ⟨fun q => absurd (by rw [z]) q, fun _ => ?_⟩
      refine c_AL_grow0F hnb HC hk hg hKE (by rw [c1, z]) c2 c4 hl hd ?_
      refine step 10 _ _ _ _ _ _ _ ?_
      dsimp [ab_at, gJx4a65c_add_72be8, nJx4a65c_add_72be8, ab_vc, ab_v1, ab_lk, ab_st, ab_en, ab_cst, ab_mc, ab_mS, ab_tk, ab_ns]
      refine fin _ _ _ (g + 1) _ _ ⟨fun K i j q1 q2 => ab_zI_k q2, fun K i j q1 q2 => ?_, fun K q => ab_uC_k q⟩ (ab_zI_k (by omega)) ab_uR_e ?_ (by omega) ab_uC_e (fun j hj => ?_)
      · have e1 : ab_uR (cpR hr (17 + k) g (ab_cap g)) 0 k 1 (some (17 + k, g + 1)) K i j = cpR hr (17 + k) g (ab_cap g) K i j := by
          by_cases z : K = 0
          · exact ab_uR_i (fun y => q1 ⟨z, y⟩)
          · exact ab_uR_k z
        rw [e1, cpR_k q2]
      · have h1 := ab_cap_mx g hg
        show n < ab_cap g + ab_cap g / 2
        omega
      · rw [ab_uR_k (by omega)]
        unfold cpR
        rw [if_pos rfl, if_pos rfl, if_pos (by omega)]
        exact c5 j hj
    · refine step 0 _ _ _ _ _ _ _ ?_
      dsimp [ab_at, gJx4a65c_add_72be8, nJx4a65c_add_72be8, ab_vc, ab_v1, ab_lk, ab_st, ab_en, ab_cst, ab_mc, ab_mS, ab_tk, ab_ns]
      rw [if_neg (by omega), if_neg (by omega), if_pos (by omega), if_pos (by omega), kA_len (by omega) (by omega)]
      refine ⟨fun _ => ?_, fun q => absurd ((nI_eq (by omega) (by omega)).mp q) z⟩
      exact fin _ _ _ g _ _ ⟨fun _ _ _ _ _ => rfl, fun _ _ _ _ _ => rfl, fun _ _ => rfl⟩ rfl c2 (by omega) c3' c4 c5
theorem c_AL_add (hnb : ab_n E < 2 ^ 31) {d' : Nat} (HC : copyOf_ok E d) {k n KE Kr ir : Nat} {el : Nat → Nat × Nat} (hk : k < 4) (hn : n < 200) (hKE : KE < 10) (hel : ∀ j, (el j).1 = KE) (hr0 : el n = (Kr, ir)) (C : cL hi hr cn k n el) (hd : d = d' + 1)
    (h : ∀ hi' hr' cn', adP k hi hr cn hi' hr' cn' → cL hi' hr' cn' k (n + 1) el → Q (some (.inl (nI 1))) hi' hr' cn') : ab_Wm E (d + 4) nJx4a65c_add_9ea2d [.inr (some (0, k)), .inr (some (Kr, ir))] hi hr cn Q := by
  have C' : cL (ab_uI hi 0 k 0 (hi 0 k 0 + nI 1)) hr cn k n el := ⟨(ab_uI_j (by omega)).trans C.1, C.2⟩
  refine ab_Wm_of gJx4a65c_add_9ea2d kJx4a65c_add_9ea2d 2 rfl rfl hnb (fun J step drop less => ?_)
  refine step 0 _ _ _ _ _ _ _ ?_
  dsimp [ab_at, gJx4a65c_add_9ea2d, nJx4a65c_add_9ea2d, ab_vc, ab_v1, ab_lk, ab_st, ab_en, ab_cst, ab_mc, ab_mS, ab_tk, ab_ns]
  rw [C'.1]
  refine c_AL_add3 hnb HC hk hn hKE hel hr0 C' hd rfl (fun hi' hr' cn' a1 a2 a3 => ?_)
  refine step 23 _ _ _ _ _ _ _ ?_
  dsimp [ab_at, gJx4a65c_add_9ea2d, nJx4a65c_add_9ea2d, ab_vc, ab_v1, ab_lk, ab_st, ab_en, ab_cst, ab_mc, ab_mS, ab_tk, ab_ns]
  refine ⟨Or.inr rfl, h hi' hr' cn' ⟨fun K i j q1 q2 => ?_, a1.2.1, a1.2.2⟩ a3⟩
  rw [a1.1 K i j q1 q2]
  by_cases z : K = 0
  · exact ab_uI_i (fun y => q1 ⟨z, y⟩)
  · exact ab_uI_k z
/-- a new list -/
theorem c_AL_init (hnb : ab_n E < 2 ^ 31) {k : Nat} (h : Q none (ab_uI hi 0 k 0 (nI 0)) (ab_uR hr 0 k 1 (some (200, 0))) cn) : ab_Wm E (d + 3) nJx4a65c_init_da8c8 [.inr (some (0, k))] hi hr cn Q := by
  have h1 : ∀ {Q' : ab_Q}, Q' none hi hr cn → ab_Wm E (d + 1) nJxa1e45_init_da8c8 [.inr (some (0, k))] hi hr cn Q' := fun {Q'} h => by
    refine ab_Wm_of gJxa1e45_init_da8c8 kJxa1e45_init_da8c8 0 rfl rfl hnb (fun J step drop less => ?_)
    refine step 0 _ _ _ _ _ _ _ ?_
    dsimp [ab_at, gJxa1e45_init_da8c8, nJxa1e45_init_da8c8, ab_vc, ab_v1, ab_lk, ab_st, ab_en, ab_cst, ab_mc, ab_mS, ab_tk, ab_ns]
    exact h
  have h2 : ∀ {Q' : ab_Q}, Q' none (ab_uI hi 0 k 0 (nI 0)) hr cn → ab_Wm E (d + 2) nJxc12de_init_da8c8 [.inr (some (0, k))] hi hr cn Q' := fun {Q'} h => by
    refine ab_Wm_of gJxc12de_init_da8c8 kJxc12de_init_da8c8 0 rfl rfl hnb (fun J step drop less => ?_)
    refine step 0 _ _ _ _ _ _ _ ?_
    dsimp [ab_at, gJxc12de_init_da8c8, nJxc12de_init_da8c8, ab_vc, ab_v1, ab_lk, ab_st, ab_en, ab_cst, ab_mc, ab_mS, ab_tk, ab_ns]
    refine h1 ?_
    refine step 4 _ _ _ _ _ _ _ ?_
    dsimp [ab_at, gJxc12de_init_da8c8, nJxc12de_init_da8c8, ab_vc, ab_v1, ab_lk, ab_st, ab_en, ab_cst, ab_mc, ab_mS, ab_tk, ab_ns]
    exact h
  refine ab_Wm_of gJx4a65c_init_da8c8 kJx4a65c_init_da8c8 0 rfl rfl hnb (fun J step drop less => ?_)
  refine step 0 _ _ _ _ _ _ _ ?_
  dsimp [ab_at, gJx4a65c_init_da8c8, nJx4a65c_init_da8c8, ab_vc, ab_v1, ab_lk, ab_st, ab_en, ab_cst, ab_mc, ab_mS, ab_tk, ab_ns]
  refine h2 ?_
  refine step 4 _ _ _ _ _ _ _ ?_
  dsimp [ab_at, gJx4a65c_init_da8c8, nJx4a65c_init_da8c8, ab_vc, ab_v1, ab_lk, ab_st, ab_en, ab_cst, ab_mc, ab_mS, ab_tk, ab_ns]
  exact h
end JDK
