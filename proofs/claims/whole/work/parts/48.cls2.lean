section CLS2
variable {E : ab_E} {d : Nat} {hi : ab_I} {hr : ab_R} {cn : ab_C} {Q : ab_Q}
/-- a new home -/
def cHome (hi : ab_I) (g : Nat) (n t l day : Int32) : ab_I := ab_uI (ab_uI (ab_uI (ab_uI (ab_uI (ab_uI (ab_uI (ab_uI hi 2 g 4 (nI 0)) 2 g 5 (nI 0)) 2 g 6 (nI 0)) 2 g 7 (nI 0)) 2 g 0 n) 2 g 1 t) 2 g 2 l) 2 g 3 day
theorem c_X1_init (hnb : ab_n E < 2 ^ 31) {g : Nat} {n t l day : Int32} (h : Q none (cHome hi g n t l day) hr cn) : ab_Wm E (d + 1) nX1_init [.inr (some (2, g)), .inl n, .inl t, .inl l, .inl day] hi hr cn Q := by
  refine ab_Wm_of gX1_init kX1_init 0 rfl rfl hnb (fun J step drop less => ?_)
  refine step 0 _ _ _ _ _ _ _ ?_
  dsimp [ab_at, gX1_init, nX1_init, ab_vc, ab_v1, ab_lk, ab_st, ab_en, ab_cst, ab_mc, ab_mS, ab_tk, ab_ns, cR, ab_ia, ab_ra, ab_oa, ab_tg, ab_len, ab_uI, ab_uR]
  exact h
/-- a new rule -/
def cRule (hi : ab_I) (r : Nat) (day what coins : Int32) : ab_I := ab_uI (ab_uI (ab_uI (ab_uI (ab_uI (ab_uI (ab_uI hi 5 r 0 day) 5 r 1 (what / nI 1000000)) 5 r 2 (what / nI 100000 - what / nI 100000 / nI 10 * nI 10)) 5 r 3 (what / nI 10000 - what / nI 10000 / nI 10 * nI 10)) 5 r 4 (what - what / nI 10000 * nI 10000)) 5 r 5 (coins / nI 1000)) 5 r 6 (coins - coins / nI 1000 * nI 1000)
theorem c_X4_init (hnb : ab_n E < 2 ^ 31) {r : Nat} {day what coins : Int32} (h : Q none (cRule hi r day what coins) hr cn) : ab_Wm E (d + 1) nX4_init [.inr (some (5, r)), .inl day, .inl what, .inl coins] hi hr cn Q := by
  refine ab_Wm_of gX4_init kX4_init 0 rfl rfl hnb (fun J step drop less => ?_)
  refine step 0 _ _ _ _ _ _ _ ?_
  dsimp [ab_at, gX4_init, nX4_init, ab_vc, ab_v1, ab_lk, ab_st, ab_en, ab_cst, ab_mc, ab_mS, ab_tk, ab_ns, cR, ab_ia, ab_ra, ab_oa, ab_tg, ab_len, ab_uI, ab_uR]
  exact ⟨by decide, by decide, by decide, by decide, by decide, by decide, by decide, by decide, h⟩
def okCan (what coins : Int32) : Prop := okIn what 0 9999999 ∧ okIn (what - what / nI 10000 * nI 10000) 1 400 ∧ okIn coins 0 99999 ∧ ¬ nI 100 < coins - coins / nI 1000 * nI 1000
theorem c_X4_canBe (hnb : ab_n E < 2 ^ 31) {what coins : Int32} (h1 : okCan what coins → Q (some (.inl (nI 1))) hi hr cn) (h0 : ¬ okCan what coins → Q (some (.inl (nI 0))) hi hr cn) : ab_Wm E (d + 2) nX4_canBe [.inl what, .inl coins] hi hr cn Q := by
  refine ab_Wm_of gX4_canBe kX4_canBe 2 rfl rfl hnb (fun J step drop less => ?_)
  have r49 : ¬ okCan what coins → ∀ L ck cs, J 49 L [] hi hr cn ck cs := fun hn L ck cs => by
    refine step 49 _ _ _ _ _ _ _ ?_
    dsimp [ab_at, gX4_canBe, nX4_canBe, ab_vc, ab_v1, ab_lk, ab_st, ab_en, ab_cst, ab_mc, ab_mS, ab_tk, ab_ns, cR, ab_ia, ab_ra, ab_oa, ab_tg, ab_len, ab_uI, ab_uR]
    refine step 50 _ _ _ _ _ _ _ ?_
    dsimp [ab_at, gX4_canBe, nX4_canBe, ab_vc, ab_v1, ab_lk, ab_st, ab_en, ab_cst, ab_mc, ab_mS, ab_tk, ab_ns, cR, ab_ia, ab_ra, ab_oa, ab_tg, ab_len, ab_uI, ab_uR]
    exact ⟨Or.inl rfl, h0 hn⟩
  refine step 0 _ _ _ _ _ _ _ ?_
  dsimp [ab_at, gX4_canBe, nX4_canBe, ab_vc, ab_v1, ab_lk, ab_st, ab_en, ab_cst, ab_mc, ab_mS, ab_tk, ab_ns, cR, ab_ia, ab_ra, ab_oa, ab_tg, ab_len, ab_uI, ab_uR]
  refine c_X7_within hnb (fun a1 a2 => ?_) (fun q => ?_)
  · refine step 7 _ _ _ _ _ _ _ ?_
    dsimp [ab_at, gX4_canBe, nX4_canBe, ab_vc, ab_v1, ab_lk, ab_st, ab_en, ab_cst, ab_mc, ab_mS, ab_tk, ab_ns, cR, ab_ia, ab_ra, ab_oa, ab_tg, ab_len, ab_uI, ab_uR]
    refine ⟨fun q => absurd q (by decide), fun _ => ⟨by decide, ?_⟩⟩
    refine c_X7_within hnb (fun b1 b2 => ?_) (fun q => ?_)
    · refine step 22 _ _ _ _ _ _ _ ?_
      dsimp [ab_at, gX4_canBe, nX4_canBe, ab_vc, ab_v1, ab_lk, ab_st, ab_en, ab_cst, ab_mc, ab_mS, ab_tk, ab_ns, cR, ab_ia, ab_ra, ab_oa, ab_tg, ab_len, ab_uI, ab_uR]
      refine ⟨fun q => absurd q (by decide), fun _ => ?_⟩
      refine c_X7_within hnb (fun c1 c2 => ?_) (fun q => ?_)
      · refine step 32 _ _ _ _ _ _ _ ?_
        dsimp [ab_at, gX4_canBe, nX4_canBe, ab_vc, ab_v1, ab_lk, ab_st, ab_en, ab_cst, ab_mc, ab_mS, ab_tk, ab_ns, cR, ab_ia, ab_ra, ab_oa, ab_tg, ab_len, ab_uI, ab_uR]
        refine ⟨fun q => absurd q (by decide), fun _ => ⟨by decide, fun q => r49 (fun z => z.2.2.2 q) _ _ _, fun q => ?_⟩⟩
        refine step 50 _ _ _ _ _ _ _ ?_
        dsimp [ab_at, gX4_canBe, nX4_canBe, ab_vc, ab_v1, ab_lk, ab_st, ab_en, ab_cst, ab_mc, ab_mS, ab_tk, ab_ns, cR, ab_ia, ab_ra, ab_oa, ab_tg, ab_len, ab_uI, ab_uR]
        exact ⟨Or.inr rfl, h1 ⟨⟨a1, a2⟩, ⟨b1, b2⟩, ⟨c1, c2⟩, q⟩⟩
      · refine step 32 _ _ _ _ _ _ _ ?_
        dsimp [ab_at, gX4_canBe, nX4_canBe, ab_vc, ab_v1, ab_lk, ab_st, ab_en, ab_cst, ab_mc, ab_mS, ab_tk, ab_ns, cR, ab_ia, ab_ra, ab_oa, ab_tg, ab_len, ab_uI, ab_uR]
        exact ⟨fun _ => r49 (fun z => q z.2.2.1) _ _ _, fun q => absurd rfl q⟩
    · refine step 22 _ _ _ _ _ _ _ ?_
      dsimp [ab_at, gX4_canBe, nX4_canBe, ab_vc, ab_v1, ab_lk, ab_st, ab_en, ab_cst, ab_mc, ab_mS, ab_tk, ab_ns, cR, ab_ia, ab_ra, ab_oa, ab_tg, ab_len, ab_uI, ab_uR]
      exact ⟨fun _ => r49 (fun z => q z.2.1) _ _ _, fun q => absurd rfl q⟩
  · refine step 7 _ _ _ _ _ _ _ ?_
    dsimp [ab_at, gX4_canBe, nX4_canBe, ab_vc, ab_v1, ab_lk, ab_st, ab_en, ab_cst, ab_mc, ab_mS, ab_tk, ab_ns, cR, ab_ia, ab_ra, ab_oa, ab_tg, ab_len, ab_uI, ab_uR]
    exact ⟨fun _ => r49 (fun z => q z.1) _ _ _, fun q => absurd rfl q⟩
/-- a new wish -/
def cWish (hi : ab_I) (k : Nat) (n day : Int32) : ab_I := ab_uI (ab_uI (ab_uI (ab_uI (ab_uI hi 6 k 3 (nI 0)) 6 k 5 (nI 0)) 6 k 6 (-1)) 6 k 0 n) 6 k 4 day
theorem c_X5_init (hnb : ab_n E < 2 ^ 31) {k : Nat} {n day : Int32} {r1 r2 : Option (Nat × Nat)} (h : Q none (cWish hi k n day) (ab_uR (ab_uR hr 6 k 1 r1) 6 k 2 r2) cn) : ab_Wm E (d + 1) nX5_init [.inr (some (6, k)), .inl n, .inr r1, .inr r2, .inl day] hi hr cn Q := by
  refine ab_Wm_of gX5_init kX5_init 0 rfl rfl hnb (fun J step drop less => ?_)
  refine step 0 _ _ _ _ _ _ _ ?_
  dsimp [ab_at, gX5_init, nX5_init, ab_vc, ab_v1, ab_lk, ab_st, ab_en, ab_cst, ab_mc, ab_mS, ab_tk, ab_ns, cR, ab_ia, ab_ra, ab_oa, ab_tg, ab_len, ab_uI, ab_uR]
  exact h
/-- a new work -/
def cWork (hi : ab_I) (w : Nat) (n a worth t day : Int32) : ab_I := ab_uI (ab_uI (ab_uI (ab_uI (ab_uI (ab_uI (ab_uI (ab_uI (ab_uI (ab_uI (ab_uI (ab_uI (ab_uI (ab_zI hi 11 w) 7 w 5 (nI 0)) 7 w 8 (nI 0)) 7 w 10 (-1)) 7 w 11 (nI 0)) 7 w 12 (nI 0)) 7 w 13 (nI 0)) 7 w 15 (-1)) 7 w 0 n) 7 w 1 a) 7 w 2 worth) 7 w 3 (worth / nI 20)) 7 w 6 t) 7 w 7 day
def cWorkR (hr : ab_R) (w : Nat) : ab_R := ab_uR (ab_uR (ab_uR (ab_zR hr 11 w) 7 w 4 (some (11, w))) 7 w 9 none) 7 w 14 none
theorem c_X6_init (hnb : ab_n E < 2 ^ 31) {w : Nat} {n a worth t day : Int32} (hc : cn 11 = w) (h : Q none (cWork hi w n a worth t day) (cWorkR hr w) (ab_uC cn 11 (w + 1))) : ab_Wm E (d + 1) nX6_init [.inr (some (7, w)), .inl n, .inl a, .inl worth, .inl t, .inl day] hi hr cn Q := by
  refine ab_Wm_of gX6_init kX6_init 0 rfl rfl hnb (fun J step drop less => ?_)
  refine step 0 _ _ _ _ _ _ _ ?_
  dsimp [ab_at, gX6_init, nX6_init, ab_vc, ab_v1, ab_lk, ab_st, ab_en, ab_cst, ab_mc, ab_mS, ab_tk, ab_ns, cR, ab_ia, ab_ra, ab_oa, ab_tg, ab_len, ab_uI, ab_uR]
  refine ⟨11, rfl, rfl, by decide, (show 20 ≤ 20 from Nat.le_refl 20), ?_⟩
  rw [hc]
  exact ⟨by decide, h⟩
theorem c_X2_init (hnb : ab_n E < 2 ^ 31) {l : Nat} {m b : Int32} {r : Option (Nat × Nat)} (h : Q none (ab_uI (ab_uI hi 3 l 0 m) 3 l 1 b) (ab_uR hr 3 l 2 r) cn) : ab_Wm E (d + 1) nX2_init [.inr (some (3, l)), .inl m, .inl b, .inr r] hi hr cn Q := by
  refine ab_Wm_of gX2_init kX2_init 0 rfl rfl hnb (fun J step drop less => ?_)
  refine step 0 _ _ _ _ _ _ _ ?_
  dsimp [ab_at, gX2_init, nX2_init, ab_vc, ab_v1, ab_lk, ab_st, ab_en, ab_cst, ab_mc, ab_mS, ab_tk, ab_ns, cR, ab_ia, ab_ra, ab_oa, ab_tg, ab_len, ab_uI, ab_uR]
  exact h
theorem c_X2_shows (hnb : ab_n E < 2 ^ 31) {l : Nat} {p : Int32} (h1 : hi 3 l 0 >>> (p &&& 31) &&& nI 1 = nI 1 → Q (some (.inl (nI 1))) hi hr cn) (h0 : ¬ hi 3 l 0 >>> (p &&& 31) &&& nI 1 = nI 1 → Q (some (.inl (nI 0))) hi hr cn) : ab_Wm E (d + 1) nX2_shows [.inr (some (3, l)), .inl p] hi hr cn Q := by
  refine ab_Wm_of gX2_shows kX2_shows 2 rfl rfl hnb (fun J step drop less => ?_)
  refine step 0 _ _ _ _ _ _ _ ?_
  dsimp [ab_at, gX2_shows, nX2_shows, ab_vc, ab_v1, ab_lk, ab_st, ab_en, ab_cst, ab_mc, ab_mS, ab_tk, ab_ns, cR, ab_ia, ab_ra, ab_oa, ab_tg, ab_len, ab_uI, ab_uR]
  refine ⟨fun q => ?_, fun q => ?_⟩
  · refine step 16 _ _ _ _ _ _ _ ?_
    dsimp [ab_at, gX2_shows, nX2_shows, ab_vc, ab_v1, ab_lk, ab_st, ab_en, ab_cst, ab_mc, ab_mS, ab_tk, ab_ns, cR, ab_ia, ab_ra, ab_oa, ab_tg, ab_len, ab_uI, ab_uR]
    refine step 17 _ _ _ _ _ _ _ ?_
    dsimp [ab_at, gX2_shows, nX2_shows, ab_vc, ab_v1, ab_lk, ab_st, ab_en, ab_cst, ab_mc, ab_mS, ab_tk, ab_ns, cR, ab_ia, ab_ra, ab_oa, ab_tg, ab_len, ab_uI, ab_uR]
    exact ⟨Or.inl rfl, h0 q⟩
  · refine step 17 _ _ _ _ _ _ _ ?_
    dsimp [ab_at, gX2_shows, nX2_shows, ab_vc, ab_v1, ab_lk, ab_st, ab_en, ab_cst, ab_mc, ab_mS, ab_tk, ab_ns, cR, ab_ia, ab_ra, ab_oa, ab_tg, ab_len, ab_uI, ab_uR]
    exact ⟨Or.inr rfl, h1 q⟩
theorem c_X1_hasRoomFor (hnb : ab_n E < 2 ^ 31) {g w : Nat} (h1 : hi 2 g 4 + hi 7 w 3 ≤ hi 2 g 2 → Q (some (.inl (nI 1))) hi hr cn) (h0 : ¬ hi 2 g 4 + hi 7 w 3 ≤ hi 2 g 2 → Q (some (.inl (nI 0))) hi hr cn) : ab_Wm E (d + 1) nX1_hasRoomFor [.inr (some (2, g)), .inr (some (7, w))] hi hr cn Q := by
  refine ab_Wm_of gX1_hasRoomFor kX1_hasRoomFor 2 rfl rfl hnb (fun J step drop less => ?_)
  refine step 0 _ _ _ _ _ _ _ ?_
  dsimp [ab_at, gX1_hasRoomFor, nX1_hasRoomFor, ab_vc, ab_v1, ab_lk, ab_st, ab_en, ab_cst, ab_mc, ab_mS, ab_tk, ab_ns, cR, ab_ia, ab_ra, ab_oa, ab_tg, ab_len, ab_uI, ab_uR]
  refine ⟨fun q => ?_, fun q => ?_⟩
  · refine step 20 _ _ _ _ _ _ _ ?_
    dsimp [ab_at, gX1_hasRoomFor, nX1_hasRoomFor, ab_vc, ab_v1, ab_lk, ab_st, ab_en, ab_cst, ab_mc, ab_mS, ab_tk, ab_ns, cR, ab_ia, ab_ra, ab_oa, ab_tg, ab_len, ab_uI, ab_uR]
    refine step 21 _ _ _ _ _ _ _ ?_
    dsimp [ab_at, gX1_hasRoomFor, nX1_hasRoomFor, ab_vc, ab_v1, ab_lk, ab_st, ab_en, ab_cst, ab_mc, ab_mS, ab_tk, ab_ns, cR, ab_ia, ab_ra, ab_oa, ab_tg, ab_len, ab_uI, ab_uR]
    exact ⟨Or.inl rfl, h0 (Int32.not_le.mpr q)⟩
  · refine step 21 _ _ _ _ _ _ _ ?_
    dsimp [ab_at, gX1_hasRoomFor, nX1_hasRoomFor, ab_vc, ab_v1, ab_lk, ab_st, ab_en, ab_cst, ab_mc, ab_mS, ab_tk, ab_ns, cR, ab_ia, ab_ra, ab_oa, ab_tg, ab_len, ab_uI, ab_uR]
    exact ⟨Or.inr rfl, h1 (Int32.not_lt.mp q)⟩
/-- a wish can be served -/
def cSv (hi : ab_I) (k g w : Nat) : Prop := hi 6 k 3 = nI 0 ∧ hi 7 w 5 = nI 0 ∧ hi 2 g 4 + hi 7 w 3 ≤ hi 2 g 2
theorem c_X5_canBeServed (hnb : ab_n E < 2 ^ 31) {k g w : Nat} (e1 : hr 6 k 1 = some (2, g)) (e2 : hr 6 k 2 = some (7, w)) (h1 : cSv hi k g w → Q (some (.inl (nI 1))) hi hr cn) (h0 : ¬ cSv hi k g w → Q (some (.inl (nI 0))) hi hr cn) : ab_Wm E (d + 2) nX5_canBeServed [.inr (some (6, k))] hi hr cn Q := by
  refine ab_Wm_of gX5_canBeServed kX5_canBeServed 2 rfl rfl hnb (fun J step drop less => ?_)
  have r35 : ¬ cSv hi k g w → ∀ L ck cs, J 35 L [] hi hr cn ck cs := fun hn L ck cs => by
    refine step 35 _ _ _ _ _ _ _ ?_
    dsimp [ab_at, gX5_canBeServed, nX5_canBeServed, ab_vc, ab_v1, ab_lk, ab_st, ab_en, ab_cst, ab_mc, ab_mS, ab_tk, ab_ns, cR, ab_ia, ab_ra, ab_oa, ab_tg, ab_len, ab_uI, ab_uR]
    refine step 36 _ _ _ _ _ _ _ ?_
    dsimp [ab_at, gX5_canBeServed, nX5_canBeServed, ab_vc, ab_v1, ab_lk, ab_st, ab_en, ab_cst, ab_mc, ab_mS, ab_tk, ab_ns, cR, ab_ia, ab_ra, ab_oa, ab_tg, ab_len, ab_uI, ab_uR]
    exact ⟨Or.inl rfl, h0 hn⟩
  refine step 0 _ _ _ _ _ _ _ ?_
  dsimp [ab_at, gX5_canBeServed, nX5_canBeServed, ab_vc, ab_v1, ab_lk, ab_st, ab_en, ab_cst, ab_mc, ab_mS, ab_tk, ab_ns, cR, ab_ia, ab_ra, ab_oa, ab_tg, ab_len, ab_uI, ab_uR]
  rw [e1, e2]
  dsimp [ab_at, gX5_canBeServed, nX5_canBeServed, ab_vc, ab_v1, ab_lk, ab_st, ab_en, ab_cst, ab_mc, ab_mS, ab_tk, ab_ns, cR, ab_ia, ab_ra, ab_oa, ab_tg, ab_len, ab_uI, ab_uR]
  refine ⟨fun q => r35 (fun z => q z.1) _ _ _, fun q => ⟨fun q2 => r35 (fun z => q2 z.2.1) _ _ _, fun q2 => ?_⟩⟩
  refine c_X1_hasRoomFor hnb (fun q3 => ?_) (fun q3 => ?_)
  · refine step 28 _ _ _ _ _ _ _ ?_
    dsimp [ab_at, gX5_canBeServed, nX5_canBeServed, ab_vc, ab_v1, ab_lk, ab_st, ab_en, ab_cst, ab_mc, ab_mS, ab_tk, ab_ns, cR, ab_ia, ab_ra, ab_oa, ab_tg, ab_len, ab_uI, ab_uR]
    refine ⟨fun q => absurd q (by decide), fun _ => ?_⟩
    refine step 36 _ _ _ _ _ _ _ ?_
    dsimp [ab_at, gX5_canBeServed, nX5_canBeServed, ab_vc, ab_v1, ab_lk, ab_st, ab_en, ab_cst, ab_mc, ab_mS, ab_tk, ab_ns, cR, ab_ia, ab_ra, ab_oa, ab_tg, ab_len, ab_uI, ab_uR]
    exact ⟨Or.inr rfl, h1 ⟨q, q2, q3⟩⟩
  · refine step 28 _ _ _ _ _ _ _ ?_
    dsimp [ab_at, gX5_canBeServed, nX5_canBeServed, ab_vc, ab_v1, ab_lk, ab_st, ab_en, ab_cst, ab_mc, ab_mS, ab_tk, ab_ns, cR, ab_ia, ab_ra, ab_oa, ab_tg, ab_len, ab_uI, ab_uR]
    exact ⟨fun _ => r35 (fun z => q3 z.2.2) _ _ _, fun q => absurd rfl q⟩
def cRank (hi : ab_I) (r k g : Nat) (day : Int32) : Int32 := hi 5 r 1 * (day - hi 6 k 4) + hi 5 r 2 * ((day - hi 2 g 3) / nI 30)
theorem c_X5_rankBy (hnb : ab_n E < 2 ^ 31) {k g r : Nat} {day : Int32} (e1 : hr 6 k 1 = some (2, g)) (h : Q (some (.inl (cRank hi r k g day))) hi hr cn) : ab_Wm E (d + 1) nX5_rankBy [.inr (some (6, k)), .inr (some (5, r)), .inl day] hi hr cn Q := by
  refine ab_Wm_of gX5_rankBy kX5_rankBy 1 rfl rfl hnb (fun J step drop less => ?_)
  refine step 0 _ _ _ _ _ _ _ ?_
  dsimp [ab_at, gX5_rankBy, nX5_rankBy, ab_vc, ab_v1, ab_lk, ab_st, ab_en, ab_cst, ab_mc, ab_mS, ab_tk, ab_ns, cR, ab_ia, ab_ra, ab_oa, ab_tg, ab_len, ab_uI, ab_uR]
  rw [e1]
  dsimp [ab_at, gX5_rankBy, nX5_rankBy, ab_vc, ab_v1, ab_lk, ab_st, ab_en, ab_cst, ab_mc, ab_mS, ab_tk, ab_ns, cR, ab_ia, ab_ra, ab_oa, ab_tg, ab_len, ab_uI, ab_uR]
  exact ⟨by decide, h⟩
def cRef1 (hi : ab_I) (k : Nat) (day : Int32) : ab_I := ab_uI (ab_uI hi 6 k 6 day) 6 k 5 (hi 6 k 5 + nI 1)
def cRefuse (hi : ab_I) (k : Nat) (keep day : Int32) : ab_I := if hi 6 k 5 + nI 1 ≤ keep then cRef1 hi k day else ab_uI (ab_uI (cRef1 hi k day) 6 k 5 (nI 0)) 6 k 4 day
theorem c_X5_refuse (hnb : ab_n E < 2 ^ 31) {k : Nat} {keep day : Int32} (h : Q none (cRefuse hi k keep day) hr cn) : ab_Wm E (d + 1) nX5_refuse [.inr (some (6, k)), .inl keep, .inl day] hi hr cn Q := by
  unfold cRefuse at h
  refine ab_Wm_of gX5_refuse kX5_refuse 0 rfl rfl hnb (fun J step drop less => ?_)
  refine step 0 _ _ _ _ _ _ _ ?_
  dsimp [ab_at, gX5_refuse, nX5_refuse, ab_vc, ab_v1, ab_lk, ab_st, ab_en, ab_cst, ab_mc, ab_mS, ab_tk, ab_ns, cR, ab_ia, ab_ra, ab_oa, ab_tg, ab_len, ab_uI, ab_uR]
  simp only [↓reduceIte]
  refine ⟨fun q => ?_, fun q => ?_⟩
  · rw [if_pos q] at h
    refine step 33 _ _ _ _ _ _ _ ?_
    dsimp [ab_at, gX5_refuse, nX5_refuse, ab_vc, ab_v1, ab_lk, ab_st, ab_en, ab_cst, ab_mc, ab_mS, ab_tk, ab_ns, cR, ab_ia, ab_ra, ab_oa, ab_tg, ab_len, ab_uI, ab_uR]
    exact h
  · rw [if_neg q] at h
    refine step 33 _ _ _ _ _ _ _ ?_
    dsimp [ab_at, gX5_refuse, nX5_refuse, ab_vc, ab_v1, ab_lk, ab_st, ab_en, ab_cst, ab_mc, ab_mS, ab_tk, ab_ns, cR, ab_ia, ab_ra, ab_oa, ab_tg, ab_len, ab_uI, ab_uR]
    exact h
theorem c_X6_isGivenUp (hnb : ab_n E < 2 ^ 31) {w : Nat} (h1 : hi 7 w 5 = nI 2 ∨ hi 7 w 5 = nI 3 → Q (some (.inl (nI 1))) hi hr cn) (h0 : ¬ (hi 7 w 5 = nI 2 ∨ hi 7 w 5 = nI 3) → Q (some (.inl (nI 0))) hi hr cn) : ab_Wm E (d + 1) nX6_isGivenUp [.inr (some (7, w))] hi hr cn Q := by
  refine ab_Wm_of gX6_isGivenUp kX6_isGivenUp 2 rfl rfl hnb (fun J step drop less => ?_)
  have r16 : (hi 7 w 5 = nI 2 ∨ hi 7 w 5 = nI 3) → ∀ L ck cs, J 16 L [] hi hr cn ck cs := fun hn L ck cs => by
    refine step 16 _ _ _ _ _ _ _ ?_
    dsimp [ab_at, gX6_isGivenUp, nX6_isGivenUp, ab_vc, ab_v1, ab_lk, ab_st, ab_en, ab_cst, ab_mc, ab_mS, ab_tk, ab_ns, cR, ab_ia, ab_ra, ab_oa, ab_tg, ab_len, ab_uI, ab_uR]
    refine step 21 _ _ _ _ _ _ _ ?_
    dsimp [ab_at, gX6_isGivenUp, nX6_isGivenUp, ab_vc, ab_v1, ab_lk, ab_st, ab_en, ab_cst, ab_mc, ab_mS, ab_tk, ab_ns, cR, ab_ia, ab_ra, ab_oa, ab_tg, ab_len, ab_uI, ab_uR]
    exact ⟨Or.inr rfl, h1 hn⟩
  refine step 0 _ _ _ _ _ _ _ ?_
  dsimp [ab_at, gX6_isGivenUp, nX6_isGivenUp, ab_vc, ab_v1, ab_lk, ab_st, ab_en, ab_cst, ab_mc, ab_mS, ab_tk, ab_ns, cR, ab_ia, ab_ra, ab_oa, ab_tg, ab_len, ab_uI, ab_uR]
  refine ⟨fun q => r16 (Or.inl q) _ _ _, fun q => ⟨fun q2 => ?_, fun q2 => r16 (Or.inr q2) _ _ _⟩⟩
  refine step 20 _ _ _ _ _ _ _ ?_
  dsimp [ab_at, gX6_isGivenUp, nX6_isGivenUp, ab_vc, ab_v1, ab_lk, ab_st, ab_en, ab_cst, ab_mc, ab_mS, ab_tk, ab_ns, cR, ab_ia, ab_ra, ab_oa, ab_tg, ab_len, ab_uI, ab_uR]
  refine step 21 _ _ _ _ _ _ _ ?_
  dsimp [ab_at, gX6_isGivenUp, nX6_isGivenUp, ab_vc, ab_v1, ab_lk, ab_st, ab_en, ab_cst, ab_mc, ab_mS, ab_tk, ab_ns, cR, ab_ia, ab_ra, ab_oa, ab_tg, ab_len, ab_uI, ab_uR]
  exact ⟨Or.inl rfl, h0 fun z => z.elim q q2⟩
def cMay (hi : ab_I) (hr : ab_R) (w g : Nat) : Prop := hi 7 w 5 = nI 0 ∨ (hi 7 w 5 = nI 1 ∧ hr 7 w 9 ≠ some (2, g))
theorem c_X6_canBeWishedBy (hnb : ab_n E < 2 ^ 31) {w g : Nat} (hh : ∀ K i, hr 7 w 9 = some (K, i) → K = 2) (h1 : cMay hi hr w g → Q (some (.inl (nI 1))) hi hr cn) (h0 : ¬ cMay hi hr w g → Q (some (.inl (nI 0))) hi hr cn) : ab_Wm E (d + 1) nX6_canBeWishedBy [.inr (some (7, w)), .inr (some (2, g))] hi hr cn Q := by
  refine ab_Wm_of gX6_canBeWishedBy kX6_canBeWishedBy 2 rfl rfl hnb (fun J step drop less => ?_)
  have r23 : cMay hi hr w g → ∀ L ck cs, J 23 L [] hi hr cn ck cs := fun hn L ck cs => by
    refine step 23 _ _ _ _ _ _ _ ?_
    dsimp [ab_at, gX6_canBeWishedBy, nX6_canBeWishedBy, ab_vc, ab_v1, ab_lk, ab_st, ab_en, ab_cst, ab_mc, ab_mS, ab_tk, ab_ns, cR, ab_ia, ab_ra, ab_oa, ab_tg, ab_len, ab_uI, ab_uR]
    refine step 28 _ _ _ _ _ _ _ ?_
    dsimp [ab_at, gX6_canBeWishedBy, nX6_canBeWishedBy, ab_vc, ab_v1, ab_lk, ab_st, ab_en, ab_cst, ab_mc, ab_mS, ab_tk, ab_ns, cR, ab_ia, ab_ra, ab_oa, ab_tg, ab_len, ab_uI, ab_uR]
    exact ⟨Or.inr rfl, h1 hn⟩
  have r27 : ¬ cMay hi hr w g → ∀ L ck cs, J 27 L [] hi hr cn ck cs := fun hn L ck cs => by
    refine step 27 _ _ _ _ _ _ _ ?_
    dsimp [ab_at, gX6_canBeWishedBy, nX6_canBeWishedBy, ab_vc, ab_v1, ab_lk, ab_st, ab_en, ab_cst, ab_mc, ab_mS, ab_tk, ab_ns, cR, ab_ia, ab_ra, ab_oa, ab_tg, ab_len, ab_uI, ab_uR]
    refine step 28 _ _ _ _ _ _ _ ?_
    dsimp [ab_at, gX6_canBeWishedBy, nX6_canBeWishedBy, ab_vc, ab_v1, ab_lk, ab_st, ab_en, ab_cst, ab_mc, ab_mS, ab_tk, ab_ns, cR, ab_ia, ab_ra, ab_oa, ab_tg, ab_len, ab_uI, ab_uR]
    exact ⟨Or.inl rfl, h0 hn⟩
  refine step 0 _ _ _ _ _ _ _ ?_
  dsimp [ab_at, gX6_canBeWishedBy, nX6_canBeWishedBy, ab_vc, ab_v1, ab_lk, ab_st, ab_en, ab_cst, ab_mc, ab_mS, ab_tk, ab_ns, cR, ab_ia, ab_ra, ab_oa, ab_tg, ab_len, ab_uI, ab_uR]
  refine ⟨fun q => r23 (Or.inl q) _ _ _, fun q => ⟨fun q2 => r27 (fun z => z.elim q (fun z => q2 z.1)) _ _ _, fun q2 => ?_⟩⟩
  rcases hb : hr 7 w 9 with _ | ⟨K, i⟩
  · dsimp [ab_at, gX6_canBeWishedBy, nX6_canBeWishedBy, ab_vc, ab_v1, ab_lk, ab_st, ab_en, ab_cst, ab_mc, ab_mS, ab_tk, ab_ns, cR, ab_ia, ab_ra, ab_oa, ab_tg, ab_len, ab_uI, ab_uR]
    refine ⟨fun q3 => (by cases q3), fun q3 => ?_⟩
    refine r23 (Or.inr ⟨q2, ?_⟩) _ _ _
    rw [hb]
    exact q3
  · have := hh K i hb
    subst this
    dsimp [ab_at, gX6_canBeWishedBy, nX6_canBeWishedBy, ab_vc, ab_v1, ab_lk, ab_st, ab_en, ab_cst, ab_mc, ab_mS, ab_tk, ab_ns, cR, ab_ia, ab_ra, ab_oa, ab_tg, ab_len, ab_uI, ab_uR]
    refine ⟨fun q3 => r27 (fun z => z.elim q (fun z => z.2 ?_)) _ _ _, fun q3 => ?_⟩
    · rw [hb]
      exact q3
    · refine r23 (Or.inr ⟨q2, ?_⟩) _ _ _
      rw [hb]
      exact q3
def cDays (hi : ab_I) (w : Nat) (day : Int32) : Int32 := if hi 7 w 5 = nI 0 then hi 7 w 8 + day - hi 7 w 7 else hi 7 w 8
theorem c_X6_daysInStores (hnb : ab_n E < 2 ^ 31) {w : Nat} {day : Int32} (h : Q (some (.inl (cDays hi w day))) hi hr cn) : ab_Wm E (d + 1) nX6_daysInStores [.inr (some (7, w)), .inl day] hi hr cn Q := by
  unfold cDays at h
  refine ab_Wm_of gX6_daysInStores kX6_daysInStores 1 rfl rfl hnb (fun J step drop less => ?_)
  refine step 0 _ _ _ _ _ _ _ ?_
  dsimp [ab_at, gX6_daysInStores, nX6_daysInStores, ab_vc, ab_v1, ab_lk, ab_st, ab_en, ab_cst, ab_mc, ab_mS, ab_tk, ab_ns, cR, ab_ia, ab_ra, ab_oa, ab_tg, ab_len, ab_uI, ab_uR]
  refine ⟨fun q => ?_, fun q => ?_⟩
  · rw [if_neg (show ¬ hi 7 w 5 = nI 0 from q)] at h
    refine step 21 _ _ _ _ _ _ _ ?_
    dsimp [ab_at, gX6_daysInStores, nX6_daysInStores, ab_vc, ab_v1, ab_lk, ab_st, ab_en, ab_cst, ab_mc, ab_mS, ab_tk, ab_ns, cR, ab_ia, ab_ra, ab_oa, ab_tg, ab_len, ab_uI, ab_uR]
    refine step 25 _ _ _ _ _ _ _ ?_
    dsimp [ab_at, gX6_daysInStores, nX6_daysInStores, ab_vc, ab_v1, ab_lk, ab_st, ab_en, ab_cst, ab_mc, ab_mS, ab_tk, ab_ns, cR, ab_ia, ab_ra, ab_oa, ab_tg, ab_len, ab_uI, ab_uR]
    exact h
  · rw [if_pos (show hi 7 w 5 = nI 0 from q)] at h
    refine step 25 _ _ _ _ _ _ _ ?_
    dsimp [ab_at, gX6_daysInStores, nX6_daysInStores, ab_vc, ab_v1, ab_lk, ab_st, ab_en, ab_cst, ab_mc, ab_mS, ab_tk, ab_ns, cR, ab_ia, ab_ra, ab_oa, ab_tg, ab_len, ab_uI, ab_uR]
    exact h
def cLend (hi : ab_I) (w g : Nat) (day days : Int32) : ab_I := ab_uI (ab_uI (ab_uI (ab_uI (ab_uI (ab_uI (ab_uI (ab_uI (ab_uI hi 7 w 8 (cDays hi w day)) 7 w 5 (nI 1)) 7 w 10 day) 7 w 11 days) 7 w 12 (hi 7 w 12 + nI 1)) 7 w 15 (if hi 7 w 15 = -1 ∨ hi 7 w 15 = hi 2 g 0 then hi 2 g 0 else -2)) 2 g 4 (hi 2 g 4 + hi 7 w 3)) 2 g 5 (hi 2 g 5 + nI 1)) 2 g 3 day
theorem c_X6_lendTo (hnb : ab_n E < 2 ^ 31) {w g : Nat} {day days : Int32} (h : Q none (cLend hi w g day days) (ab_uR hr 7 w 9 (some (2, g))) cn) : ab_Wm E (d + 2) nX6_lendTo [.inr (some (7, w)), .inr (some (2, g)), .inl day, .inl days] hi hr cn Q := by
  unfold cLend at h
  refine ab_Wm_of gX6_lendTo kX6_lendTo 0 rfl rfl hnb (fun J step drop less => ?_)
  refine step 0 _ _ _ _ _ _ _ ?_
  dsimp [ab_at, gX6_lendTo, nX6_lendTo, ab_vc, ab_v1, ab_lk, ab_st, ab_en, ab_cst, ab_mc, ab_mS, ab_tk, ab_ns, cR, ab_ia, ab_ra, ab_oa, ab_tg, ab_len, ab_uI, ab_uR]
  refine c_X6_daysInStores hnb ?_
  refine step 6 _ _ _ _ _ _ _ ?_
  dsimp [ab_at, gX6_lendTo, nX6_lendTo, ab_vc, ab_v1, ab_lk, ab_st, ab_en, ab_cst, ab_mc, ab_mS, ab_tk, ab_ns, cR, ab_ia, ab_ra, ab_oa, ab_tg, ab_len, ab_uI, ab_uR]
  simp only [↓reduceIte]
  generalize cDays hi w day = z at h ⊢
  have r59 : (hi 7 w 15 = -1 ∨ hi 7 w 15 = hi 2 g 0) → ∀ ck cs, J 59 [(0, .inr (some (7, w))), (1, .inr (some (2, g))), (2, .inl day), (3, .inl days)] [.inr (some (7, w))] (ab_uI (ab_uI (ab_uI (ab_uI (ab_uI hi 7 w 8 z) 7 w 5 (nI 1)) 7 w 10 day) 7 w 11 days) 7 w 12 (hi 7 w 12 + nI 1)) (ab_uR hr 7 w 9 (some (2, g))) cn ck cs := fun q ck cs => by
    rw [if_pos q] at h
    refine step 59 _ _ _ _ _ _ _ ?_
    dsimp [ab_at, gX6_lendTo, nX6_lendTo, ab_vc, ab_v1, ab_lk, ab_st, ab_en, ab_cst, ab_mc, ab_mS, ab_tk, ab_ns, cR, ab_ia, ab_ra, ab_oa, ab_tg, ab_len, ab_uI, ab_uR]
    refine step 68 _ _ _ _ _ _ _ ?_
    dsimp [ab_at, gX6_lendTo, nX6_lendTo, ab_vc, ab_v1, ab_lk, ab_st, ab_en, ab_cst, ab_mc, ab_mS, ab_tk, ab_ns, cR, ab_ia, ab_ra, ab_oa, ab_tg, ab_len, ab_uI, ab_uR]
    simp only [↓reduceIte]
    exact h
  refine ⟨fun q => r59 (Or.inl q) _ _, fun q => ⟨fun q2 => ?_, fun q2 => r59 (Or.inr q2) _ _⟩⟩
  rw [if_neg (fun z => z.elim q q2)] at h
  refine step 66 _ _ _ _ _ _ _ ?_
  dsimp [ab_at, gX6_lendTo, nX6_lendTo, ab_vc, ab_v1, ab_lk, ab_st, ab_en, ab_cst, ab_mc, ab_mS, ab_tk, ab_ns, cR, ab_ia, ab_ra, ab_oa, ab_tg, ab_len, ab_uI, ab_uR]
  refine step 68 _ _ _ _ _ _ _ ?_
  dsimp [ab_at, gX6_lendTo, nX6_lendTo, ab_vc, ab_v1, ab_lk, ab_st, ab_en, ab_cst, ab_mc, ab_mS, ab_tk, ab_ns, cR, ab_ia, ab_ra, ab_oa, ab_tg, ab_len, ab_uI, ab_uR]
  simp only [↓reduceIte]
  exact h
def cLeave (hi : ab_I) (w g : Nat) (st : Int32) : ab_I := ab_uI (ab_uI (ab_uI hi 2 g 4 (hi 2 g 4 - hi 7 w 3)) 2 g 5 (hi 2 g 5 - nI 1)) 7 w 5 st
theorem c_X6_leaveHome (hnb : ab_n E < 2 ^ 31) {w g : Nat} {st : Int32} (e : hr 7 w 9 = some (2, g)) (h : Q none (cLeave hi w g st) hr cn) : ab_Wm E (d + 1) nX6_leaveHome [.inr (some (7, w)), .inl st] hi hr cn Q := by
  unfold cLeave at h
  refine ab_Wm_of gX6_leaveHome kX6_leaveHome 0 rfl rfl hnb (fun J step drop less => ?_)
  refine step 0 _ _ _ _ _ _ _ ?_
  dsimp [ab_at, gX6_leaveHome, nX6_leaveHome, ab_vc, ab_v1, ab_lk, ab_st, ab_en, ab_cst, ab_mc, ab_mS, ab_tk, ab_ns, cR, ab_ia, ab_ra, ab_oa, ab_tg, ab_len, ab_uI, ab_uR]
  rw [e]
  dsimp [ab_at, gX6_leaveHome, nX6_leaveHome, ab_vc, ab_v1, ab_lk, ab_st, ab_en, ab_cst, ab_mc, ab_mS, ab_tk, ab_ns, cR, ab_ia, ab_ra, ab_oa, ab_tg, ab_len, ab_uI, ab_uR]
  simp only [↓reduceIte]
  refine ⟨fun q => (by cases q), fun _ => ?_⟩
  refine step 36 _ _ _ _ _ _ _ ?_
  dsimp [ab_at, gX6_leaveHome, nX6_leaveHome, ab_vc, ab_v1, ab_lk, ab_st, ab_en, ab_cst, ab_mc, ab_mS, ab_tk, ab_ns, cR, ab_ia, ab_ra, ab_oa, ab_tg, ab_len, ab_uI, ab_uR]
  exact h
def cBack (hi : ab_I) (w g : Nat) (day : Int32) : ab_I := ab_uI (ab_uI (cLeave hi w g (nI 0)) 7 w 6 (hi 2 g 1)) 7 w 7 day
theorem c_X6_comeBack (hnb : ab_n E < 2 ^ 31) {w g : Nat} {day : Int32} (e : hr 7 w 9 = some (2, g)) (h : Q none (cBack hi w g day) (ab_uR hr 7 w 9 none) cn) : ab_Wm E (d + 2) nX6_comeBack [.inr (some (7, w)), .inl day] hi hr cn Q := by
  have e1 : cLeave hi w g (nI 0) 2 g 1 = hi 2 g 1 := by
    unfold cLeave
    rw [ab_uI_k (by omega), ab_uI_j (by omega), ab_uI_j (by omega)]
  unfold cBack at h
  refine ab_Wm_of gX6_comeBack kX6_comeBack 0 rfl rfl hnb (fun J step drop less => ?_)
  refine step 0 _ _ _ _ _ _ _ ?_
  dsimp [ab_at, gX6_comeBack, nX6_comeBack, ab_vc, ab_v1, ab_lk, ab_st, ab_en, ab_cst, ab_mc, ab_mS, ab_tk, ab_ns, cR, ab_ia, ab_ra, ab_oa, ab_tg, ab_len, ab_uI, ab_uR]
  refine c_X6_leaveHome hnb e ?_
  generalize cLeave hi w g (nI 0) = hi1 at h e1 ⊢
  refine step 5 _ _ _ _ _ _ _ ?_
  dsimp [ab_at, gX6_comeBack, nX6_comeBack, ab_vc, ab_v1, ab_lk, ab_st, ab_en, ab_cst, ab_mc, ab_mS, ab_tk, ab_ns, cR, ab_ia, ab_ra, ab_oa, ab_tg, ab_len, ab_uI, ab_uR]
  rw [e]
  dsimp [ab_at, gX6_comeBack, nX6_comeBack, ab_vc, ab_v1, ab_lk, ab_st, ab_en, ab_cst, ab_mc, ab_mS, ab_tk, ab_ns, cR, ab_ia, ab_ra, ab_oa, ab_tg, ab_len, ab_uI, ab_uR]
  rw [e1]
  refine ⟨fun q => (by cases q), fun _ => ?_⟩
  refine step 23 _ _ _ _ _ _ _ ?_
  dsimp [ab_at, gX6_comeBack, nX6_comeBack, ab_vc, ab_v1, ab_lk, ab_st, ab_en, ab_cst, ab_mc, ab_mS, ab_tk, ab_ns, cR, ab_ia, ab_ra, ab_oa, ab_tg, ab_len, ab_uI, ab_uR]
  exact h
def cLate (hi : ab_I) (w : Nat) (day : Int32) : Int32 := if nI 0 < day - hi 7 w 10 - hi 7 w 11 then day - hi 7 w 10 - hi 7 w 11 else nI 0
theorem c_X6_daysLate (hnb : ab_n E < 2 ^ 31) {w : Nat} {day : Int32} (hh : hi 7 w 5 = nI 1 → hr 7 w 9 ≠ none) (h1 : hi 7 w 5 = nI 1 → Q (some (.inl (cLate hi w day))) hi hr cn) (h0 : hi 7 w 5 ≠ nI 1 → Q (some (.inl (nI 0))) hi hr cn) : ab_Wm E (d + 2) nX6_daysLate [.inr (some (7, w)), .inl day] hi hr cn Q := by
  unfold cLate at h1
  refine ab_Wm_of gX6_daysLate kX6_daysLate 1 rfl rfl hnb (fun J step drop less => ?_)
  refine step 0 _ _ _ _ _ _ _ ?_
  dsimp [ab_at, gX6_daysLate, nX6_daysLate, ab_vc, ab_v1, ab_lk, ab_st, ab_en, ab_cst, ab_mc, ab_mS, ab_tk, ab_ns, cR, ab_ia, ab_ra, ab_oa, ab_tg, ab_len, ab_uI, ab_uR]
  refine c_X6_isLent hnb (fun q1 q2 => ?_) (fun q => ?_)
  · refine step 4 _ _ _ _ _ _ _ ?_
    dsimp [ab_at, gX6_daysLate, nX6_daysLate, ab_vc, ab_v1, ab_lk, ab_st, ab_en, ab_cst, ab_mc, ab_mS, ab_tk, ab_ns, cR, ab_ia, ab_ra, ab_oa, ab_tg, ab_len, ab_uI, ab_uR]
    refine ⟨fun q => absurd q (by decide), fun _ => ?_⟩
    refine step 26 _ _ _ _ _ _ _ ?_
    dsimp [ab_at, gX6_daysLate, nX6_daysLate, ab_vc, ab_v1, ab_lk, ab_st, ab_en, ab_cst, ab_mc, ab_mS, ab_tk, ab_ns, cR, ab_ia, ab_ra, ab_oa, ab_tg, ab_len, ab_uI, ab_uR]
    exact h1 q1
  · refine step 4 _ _ _ _ _ _ _ ?_
    dsimp [ab_at, gX6_daysLate, nX6_daysLate, ab_vc, ab_v1, ab_lk, ab_st, ab_en, ab_cst, ab_mc, ab_mS, ab_tk, ab_ns, cR, ab_ia, ab_ra, ab_oa, ab_tg, ab_len, ab_uI, ab_uR]
    refine ⟨fun _ => ?_, fun q => absurd rfl q⟩
    refine step 25 _ _ _ _ _ _ _ ?_
    dsimp [ab_at, gX6_daysLate, nX6_daysLate, ab_vc, ab_v1, ab_lk, ab_st, ab_en, ab_cst, ab_mc, ab_mS, ab_tk, ab_ns, cR, ab_ia, ab_ra, ab_oa, ab_tg, ab_len, ab_uI, ab_uR]
    refine step 26 _ _ _ _ _ _ _ ?_
    dsimp [ab_at, gX6_daysLate, nX6_daysLate, ab_vc, ab_v1, ab_lk, ab_st, ab_en, ab_cst, ab_mc, ab_mS, ab_tk, ab_ns, cR, ab_ia, ab_ra, ab_oa, ab_tg, ab_len, ab_uI, ab_uR]
    exact h0 fun z => q ⟨z, hh z⟩
def cRent (hi : ab_I) (w r : Nat) (day : Int32) : Int32 := (if nI 1 < (day - hi 7 w 10 + nI 30 - nI 1) / nI 30 then (day - hi 7 w 10 + nI 30 - nI 1) / nI 30 else nI 1) * (hi 7 w 2 * hi 5 r 5 / nI 1000)
theorem c_X6_rentBy (hnb : ab_n E < 2 ^ 31) {w r : Nat} {day : Int32} (h : Q (some (.inl (cRent hi w r day))) hi hr cn) : ab_Wm E (d + 1) nX6_rentBy [.inr (some (7, w)), .inr (some (5, r)), .inl day] hi hr cn Q := by
  unfold cRent at h
  refine ab_Wm_of gX6_rentBy kX6_rentBy 1 rfl rfl hnb (fun J step drop less => ?_)
  refine step 0 _ _ _ _ _ _ _ ?_
  dsimp [ab_at, gX6_rentBy, nX6_rentBy, ab_vc, ab_v1, ab_lk, ab_st, ab_en, ab_cst, ab_mc, ab_mS, ab_tk, ab_ns, cR, ab_ia, ab_ra, ab_oa, ab_tg, ab_len, ab_uI, ab_uR]
  exact ⟨by decide, by decide, h⟩
def cPrice (hi : ab_I) (w g : Nat) : Int32 := if hi 7 w 2 / nI 2 < hi 7 w 2 - hi 11 w g / nI 2 then hi 7 w 2 - hi 11 w g / nI 2 else hi 7 w 2 / nI 2
theorem c_X6_priceFor (hnb : ab_n E < 2 ^ 31) {w g : Nat} (hg : g < 20) (e : hi 2 g 0 = nI g) (h : Q (some (.inl (cPrice hi w g))) hi (cR hr) cn) : ab_Wm E (d + 1) nX6_priceFor [.inr (some (7, w)), .inr (some (2, g))] hi (cR hr) cn Q := by
  unfold cPrice at h
  refine ab_Wm_of gX6_priceFor kX6_priceFor 1 rfl rfl hnb (fun J step drop less => ?_)
  refine step 0 _ _ _ _ _ _ _ ?_
  dsimp [ab_at, gX6_priceFor, nX6_priceFor, ab_vc, ab_v1, ab_lk, ab_st, ab_en, ab_cst, ab_mc, ab_mS, ab_tk, ab_ns, cR, ab_ia, ab_ra, ab_oa, ab_tg, ab_len, ab_uI, ab_uR]
  rw [e, ab_ix_nI (by omega)]
  exact ⟨by decide, ab_inI hg (by omega), by decide, h⟩
/-- a look is noted -/
def cBl (hi : ab_I) (hr : ab_R) (w : Nat) : Int32 := if hr 7 w 14 = none ∨ hi 7 w 15 = -1 then -2 else hi 7 w 15
def cNote (hi : ab_I) (hr : ab_R) (l w : Nat) (m y : Int32) : ab_I := ab_uI (ab_uI (ab_uI (ab_uI (ab_zI hi 3 l) 3 l 0 m) 3 l 1 (cBl hi hr w)) 7 w 13 (hi 7 w 13 + nI 1)) 7 w 15 y
def cNoteR (hr : ab_R) (l w : Nat) : ab_R := ab_uR (ab_uR (ab_zR hr 3 l) 3 l 2 (hr 7 w 14)) 7 w 14 (some (3, l))
theorem c_X6_noteLook (hnb : ab_n E < 2 ^ 31) {w l : Nat} {m : Int32} (hl : cn 3 = l) (hh : ∀ K i, hr 7 w 9 = some (K, i) → K = 2) (h1 : ∀ g, hi 7 w 5 = nI 1 → hr 7 w 9 = some (2, g) → Q none (cNote hi hr l w m (hi 2 g 0)) (cNoteR hr l w) (ab_uC cn 3 (l + 1))) (h0 : ¬ (hi 7 w 5 = nI 1 ∧ hr 7 w 9 ≠ none) → Q none (cNote hi hr l w m (-1)) (cNoteR hr l w) (ab_uC cn 3 (l + 1))) : ab_Wm E (d + 2) nX6_noteLook [.inr (some (7, w)), .inl m] hi hr cn Q := by
  unfold cNote at h1 h0
  refine ab_Wm_of gX6_noteLook kX6_noteLook 0 rfl rfl hnb (fun J step drop less => ?_)
  have e5 : ∀ (b y : Int32), ab_uI (ab_uI (ab_uI (ab_zI hi 3 l) 3 l 0 m) 3 l 1 b) 7 w 13 y 7 w 5 = hi 7 w 5 := fun b y => by
    rw [ab_uI_j (by omega)]
    rfl
  have e9 : ab_uR (ab_uR (ab_zR hr 3 l) 3 l 2 (hr 7 w 14)) 7 w 14 (some (3, l)) 7 w 9 = hr 7 w 9 := by
    rw [ab_uR_j (by omega)]
    rfl
  have r24 : ∀ b, cBl hi hr w = b → J 24 [(0, .inr (some (7, w))), (1, .inl m)] [.inl b] hi hr cn 1 3 := fun b hb => by
    subst hb
    generalize cBl hi hr w = b at h1 h0 ⊢
    refine step 24 _ _ _ _ _ _ _ ?_
    dsimp [ab_at, gX6_noteLook, nX6_noteLook, ab_vc, ab_v1, ab_lk, ab_st, ab_en, ab_cst, ab_mc, ab_mS, ab_tk, ab_ns, cR, ab_ia, ab_ra, ab_oa, ab_tg, ab_len, ab_uI, ab_uR, ab_zR, ab_zI, ab_uC]
    rw [hl]
    refine c_X2_init hnb ?_
    refine step 39 _ _ _ _ _ _ _ ?_
    dsimp [ab_at, gX6_noteLook, nX6_noteLook, ab_vc, ab_v1, ab_lk, ab_st, ab_en, ab_cst, ab_mc, ab_mS, ab_tk, ab_ns, cR, ab_ia, ab_ra, ab_oa, ab_tg, ab_len, ab_uI, ab_uR, ab_zR, ab_zI, ab_uC]
    refine c_X6_isLent hnb (fun q1 q2 => ?_) (fun q => ?_)
    · have q1' : hi 7 w 5 = nI 1 := (e5 _ _).symm.trans q1
      have q2' : hr 7 w 9 ≠ none := fun z => q2 (e9.trans z)
      rcases hg : hr 7 w 9 with _ | ⟨K, g⟩
      · exact absurd hg q2'
      · have := hh K g hg
        subst this
        refine step 57 _ _ _ _ _ _ _ ?_
        dsimp [ab_at, gX6_noteLook, nX6_noteLook, ab_vc, ab_v1, ab_lk, ab_st, ab_en, ab_cst, ab_mc, ab_mS, ab_tk, ab_ns, cR, ab_ia, ab_ra, ab_oa, ab_tg, ab_len, ab_uI, ab_uR, ab_zR, ab_zI, ab_uC]
        refine ⟨fun q => absurd q (by decide), fun _ => ?_⟩
        simp only [↓reduceIte]
        rw [hg]
        dsimp only
        refine step 71 _ _ _ _ _ _ _ ?_
        dsimp [ab_at, gX6_noteLook, nX6_noteLook, ab_vc, ab_v1, ab_lk, ab_st, ab_en, ab_cst, ab_mc, ab_mS, ab_tk, ab_ns, cR, ab_ia, ab_ra, ab_oa, ab_tg, ab_len, ab_uI, ab_uR]
        exact h1 g q1' hg
    · refine step 57 _ _ _ _ _ _ _ ?_
      dsimp [ab_at, gX6_noteLook, nX6_noteLook, ab_vc, ab_v1, ab_lk, ab_st, ab_en, ab_cst, ab_mc, ab_mS, ab_tk, ab_ns, cR, ab_ia, ab_ra, ab_oa, ab_tg, ab_len, ab_uI, ab_uR]
      refine ⟨fun _ => ?_, fun q => absurd rfl q⟩
      refine step 70 _ _ _ _ _ _ _ ?_
      dsimp [ab_at, gX6_noteLook, nX6_noteLook, ab_vc, ab_v1, ab_lk, ab_st, ab_en, ab_cst, ab_mc, ab_mS, ab_tk, ab_ns, cR, ab_ia, ab_ra, ab_oa, ab_tg, ab_len, ab_uI, ab_uR]
      refine step 71 _ _ _ _ _ _ _ ?_
      dsimp [ab_at, gX6_noteLook, nX6_noteLook, ab_vc, ab_v1, ab_lk, ab_st, ab_en, ab_cst, ab_mc, ab_mS, ab_tk, ab_ns, cR, ab_ia, ab_ra, ab_oa, ab_tg, ab_len, ab_uI, ab_uR]
      exact h0 fun z => q ⟨(e5 _ _).trans z.1, fun y => z.2 (e9.symm.trans y)⟩
  have r15 : (hr 7 w 14 = none ∨ hi 7 w 15 = -1) → J 15 [(0, .inr (some (7, w))), (1, .inl m)] [] hi hr cn 1 3 := fun q => by
    refine step 15 _ _ _ _ _ _ _ ?_
    dsimp [ab_at, gX6_noteLook, nX6_noteLook, ab_vc, ab_v1, ab_lk, ab_st, ab_en, ab_cst, ab_mc, ab_mS, ab_tk, ab_ns, cR, ab_ia, ab_ra, ab_oa, ab_tg, ab_len, ab_uI, ab_uR]
    exact r24 _ (if_pos q)
  refine step 0 _ _ _ _ _ _ _ ?_
  dsimp [ab_at, gX6_noteLook, nX6_noteLook, ab_vc, ab_v1, ab_lk, ab_st, ab_en, ab_cst, ab_mc, ab_mS, ab_tk, ab_ns, cR, ab_ia, ab_ra, ab_oa, ab_tg, ab_len, ab_uI, ab_uR]
  refine ⟨fun q => r15 (Or.inl q), fun q => ⟨fun q2 => ?_, fun q2 => r15 (Or.inr q2)⟩⟩
  refine step 20 _ _ _ _ _ _ _ ?_
  dsimp [ab_at, gX6_noteLook, nX6_noteLook, ab_vc, ab_v1, ab_lk, ab_st, ab_en, ab_cst, ab_mc, ab_mS, ab_tk, ab_ns, cR, ab_ia, ab_ra, ab_oa, ab_tg, ab_len, ab_uI, ab_uR]
  exact r24 _ (if_neg fun z => z.elim q q2)
end CLS2
