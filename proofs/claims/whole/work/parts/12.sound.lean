/-! A ROW OF INSTRUCTIONS DOES WHAT IT ASKS FOR -/
/-- what a program has looked up, checked -/
def ab_oks (own : String) (nL : Nat) (ini : Bool) (pc : Nat) (q : ab_P) : Bool :=
  match q.1 with
  | .iload _ => q.2.1 == 2
  | .iload_n i => q.2.1 == 1 && decide (i.val = q.2.2.1)
  | .aload _ => q.2.1 == 2
  | .aload_n i => q.2.1 == 1 && decide (i.val = q.2.2.1)
  | .istore i => q.2.1 == 2 && decide (i < nL)
  | .istore_n i => q.2.1 == 1 && decide (i.val < nL) && decide (i.val = q.2.2.1)
  | .astore i => q.2.1 == 2 && decide (i < nL)
  | .astore_n i => q.2.1 == 1 && decide (i.val < nL) && decide (i.val = q.2.2.1)
  | .iinc i n => q.2.1 == 3 && decide (i < nL) && decide (Int32.ofInt n = ab_cst q.2.2.2.2.1 q.2.2.1)
  | .iconst n => q.2.1 == 1 && decide (Int32.ofInt n = ab_cst q.2.2.2.2.1 q.2.2.1)
  | .bipush n => q.2.1 == 2 && decide ((Int8.ofInt n).toInt32 = ab_cst q.2.2.2.2.1 q.2.2.1)
  | .sipush n => q.2.1 == 3 && decide ((Int16.ofInt n).toInt32 = ab_cst q.2.2.2.2.1 q.2.2.1)
  | .ldc idx => q.2.1 == 2 && ab_wp (q.2.2.2.2.2.getD 0 0) (.constant own idx (nI q.2.2.1))
  | .goto off => q.2.1 == 3 && decide ((pc : Int) + off = (q.2.2.1 : Int))
  | .ifCond _ off => q.2.1 == 3 && decide ((pc : Int) + off = (q.2.2.1 : Int))
  | .if_icmp _ off => q.2.1 == 3 && decide ((pc : Int) + off = (q.2.2.1 : Int))
  | .ifnull off => q.2.1 == 3 && decide ((pc : Int) + off = (q.2.2.1 : Int))
  | .ifnonnull off => q.2.1 == 3 && decide ((pc : Int) + off = (q.2.2.1 : Int))
  | .if_acmp _ off => q.2.1 == 3 && decide ((pc : Int) + off = (q.2.2.1 : Int))
  | .tableswitch dflt lo hi offs => decide ((pc : Int) + dflt = (q.2.2.1 : Int)) && decide (lo = (q.2.2.2.1 : Int)) && decide (hi + 1 = (q.2.2.2.1 : Int) + (q.2.2.2.2.2.length : Int)) && decide (offs.toList.map (fun o => (pc : Int) + o) = q.2.2.2.2.2.map (fun t : Nat => (t : Int))) && decide (q.2.2.2.1 + q.2.2.2.2.2.length ≤ 1000)
  | .getfield idx => q.2.1 == 3 && decide (q.2.2.1 < 10) && decide (q.2.2.2.1 < ab_nf q.2.2.1) && q.2.2.2.2.1 == ab_ff q.2.2.1 q.2.2.2.1 && ab_wp (q.2.2.2.2.2.getD 0 0) (.fieldLink own idx (ab_ref own q.2.2.1 q.2.2.2.1) (ab_T q.2.2.1 q.2.2.2.1).2.1 (ab_T q.2.2.1 q.2.2.2.1).2.2.1)
  | .putfield idx => q.2.1 == 3 && decide (q.2.2.1 < 10) && decide (q.2.2.2.1 < ab_nf q.2.2.1) && q.2.2.2.2.1 == ab_ff q.2.2.1 q.2.2.2.1 && ab_wp (q.2.2.2.2.2.getD 0 0) (.fieldLink own idx (ab_ref own q.2.2.1 q.2.2.2.1) (ab_T q.2.2.1 q.2.2.2.1).2.1 (ab_T q.2.2.1 q.2.2.2.1).2.2.1) && (!(ab_T q.2.2.1 q.2.2.2.1).2.2.2 || (ini && decide ((ab_T q.2.2.1 q.2.2.2.1).1 = own)))
  | .getstatic idx => q.2.1 == 3 && ab_wp (q.2.2.2.2.2.getD 0 0) (.fieldLink own idx "java/util/ArrayList" "DEFAULTCAPACITY_EMPTY_ELEMENTDATA" "[Ljava/lang/Object;")
  | .new idx => q.2.1 == 3 && decide (q.2.2.1 < 10) && ab_wp (q.2.2.2.2.2.getD 0 0) (.classLink own idx (ab_N q.2.2.1)) && ab_wp (q.2.2.2.2.2.getD 1 0) (.instantiable (ab_N q.2.2.1) (ab_nf q.2.2.1)) && ab_wp (q.2.2.2.2.2.getD 2 0) (.initialized (ab_N q.2.2.1))
  | .newarray t => q.2.1 == 2 && decide (t = .int)
  | .anewarray idx => q.2.1 == 3 && ((q.2.2.1 == 2 && ab_wp (q.2.2.2.2.2.getD 0 0) (.classLink own idx RX0)) || (q.2.2.1 == 3 && ab_wp (q.2.2.2.2.2.getD 0 0) (.classLink own idx RX5)) || (q.2.2.1 == 4 && ab_wp (q.2.2.2.2.2.getD 0 0) (.classLink own idx "java/lang/Object")))
  | .multianewarray idx n => q.2.1 == 4 && n == 2 && ab_wp (q.2.2.2.2.2.getD 0 0) (.classLink own idx "[[I")
  | .checkcast idx => q.2.1 == 3 && decide (q.2.2.1 < 10) && ab_wp (q.2.2.2.2.2.getD 0 0) (.classLink own idx (ab_N q.2.2.1))
  | .invokevirtual idx => q.2.1 == 3 && ab_wp (q.2.2.2.2.2.getD 0 0) (.methodLink own idx (ab_mt q.2.2.1).1) && ab_wp (q.2.2.2.2.2.getD 1 0) (.instanceMethod (ab_mt q.2.2.1).1) && ab_wp (q.2.2.2.2.2.getD 2 0) (.selects (ab_mt q.2.2.1).1.cls (ab_mt q.2.2.1).1 (ab_mt q.2.2.1).1) && ab_mkb q && decide (q.2.2.2.2.1 < 10) && decide (ab_N q.2.2.2.2.1 = (ab_mt q.2.2.1).1.cls)
  | .invokestatic idx => q.2.1 == 3 && (if q.2.2.2.2.1 = 3 then ab_wp (q.2.2.2.2.2.getD 0 0) (.methodLink own idx Lib.Math.max.name) && ab_wp (q.2.2.2.2.2.getD 1 0) (.static Lib.Math.max.name) && ab_wp (q.2.2.2.2.2.getD 4 0) (.initialized "java/lang/Math") && ab_wp (q.2.2.2.2.2.getD 3 0) (.code Lib.Math.max.name Lib.Math.max.code 2 (some .int)) else if q.2.2.2.2.1 = 4 then ab_wp (q.2.2.2.2.2.getD 0 0) (.methodLink own idx Lib.Math.min.name) && ab_wp (q.2.2.2.2.2.getD 1 0) (.static Lib.Math.min.name) && ab_wp (q.2.2.2.2.2.getD 4 0) (.initialized "java/lang/Math") && ab_wp (q.2.2.2.2.2.getD 3 0) (.code Lib.Math.min.name Lib.Math.min.code 2 (some .int)) else (if q.2.2.2.2.1 = 2 then decide (own = RX4) && idx == 34 && decide ((ab_mt q.2.2.1).1 = yX7_within) else ab_wp (q.2.2.2.2.2.getD 0 0) (.methodLink own idx (ab_mt q.2.2.1).1)) && ab_wp (q.2.2.2.2.2.getD 1 0) (.static (ab_mt q.2.2.1).1) && ab_mkb q)
  | .invokespecial idx => q.2.1 == 3 && (if q.2.2.2.2.1 = 1 then ab_wp (q.2.2.2.2.2.getD 0 0) (.methodLink own idx objectInit) else (if q.2.2.2.2.1 = 2 then decide (own = RX3) && idx == 31 && decide ((ab_mt q.2.2.1).1 = yX0_init) else ab_wp (q.2.2.2.2.2.getD 0 0) (.methodLink own idx (ab_mt q.2.2.1).1)) && ab_wp (q.2.2.2.2.2.getD 1 0) (.instanceMethod (ab_mt q.2.2.1).1) && decide ((ab_mt q.2.2.1).2.2.2.1 = none) && decide ((ab_mt q.2.2.1).1.name = "<init>") && ab_mkb q)
  | _ => q.2.1 == 1
where
  ab_mkb (q : ab_P) : Bool := ab_wp (q.2.2.2.2.2.getD 3 0) (.code (ab_mt q.2.2.1).1 (ab_mt q.2.2.1).2.1 (ab_mt q.2.2.1).2.2.1 (ab_mt q.2.2.1).2.2.2.1) && ab_wp (q.2.2.2.2.2.getD 4 0) (.initialized (ab_mt q.2.2.1).1.cls) && decide ((ab_mt q.2.2.1).2.2.1 ≤ 21) && decide ((ab_mt q.2.2.1).1.cls ≠ "java/lang/invoke/MethodHandle") && decide ((ab_mt q.2.2.1).1.cls ≠ "java/lang/invoke/VarHandle") && decide ((parseMethodDescriptor (ab_mt q.2.2.1).1.desc).map (fun d => d.parameters.length) = some q.2.2.2.1)
def ab_okb (own : String) (nL : Nat) (ini : Bool) (cc : ByteArray) (pc : Nat) (q : ab_P) : Bool := decide (decode cc pc = .ok (q.1, q.2.1)) && ab_oks own nL ini pc q
theorem ab_mkb_ok {q : ab_P} (h : ab_oks.ab_mkb q = true) : ab_mk q.2.2.1 q.2.2.2.1 := by
  unfold ab_oks.ab_mkb at h
  simp only [Bool.and_eq_true, decide_eq_true_eq] at h
  obtain ⟨⟨⟨⟨⟨h1, h2⟩, h3⟩, h4⟩, h5⟩, h6⟩ := h
  exact ⟨ab_wp_in h1, ab_wp_in h2, h3, h4, h5, h6⟩
theorem ab_ifF {c P : Prop} {_ : Decidable c} (h : if c then P else False) : c ∧ P := by
  by_cases q : c
  · rw [if_pos q] at h; exact ⟨q, h⟩
  · rw [if_neg q] at h; exact h.elim
theorem ab_ia_ok {K : Nat} (h : ab_ia K = true) : 10 ≤ K ∧ K < 200 ∧ ab_tg K = 1 := by
  unfold ab_ia at h
  simp only [Bool.and_eq_true, decide_eq_true_eq, beq_iff_eq] at h
  exact ⟨h.1.1, h.1.2, h.2⟩
theorem ab_ra_ok {K : Nat} (h : ab_ra K = true) : 10 ≤ K ∧ K < 200 ∧ 2 ≤ ab_tg K := by
  unfold ab_ra at h
  simp only [Bool.and_eq_true, decide_eq_true_eq] at h
  exact ⟨h.1.1, h.1.2, h.2⟩
theorem ab_oa_ok {K : Nat} (h : ab_oa K = true) : 10 ≤ K ∧ K < 200 ∧ 2 ≤ ab_tg K ∧ ab_tg K ≤ 4 := by
  unfold ab_oa at h
  simp only [Bool.and_eq_true, decide_eq_true_eq] at h
  exact ⟨h.1.1.1, h.1.1.2, h.1.2, h.2⟩
theorem ab_tk_ok {b : Nat} {st as s : List ab_V} (h : ab_tk b st = some (as, s)) : st = as.reverse ++ s ∧ as.length = b := by
  unfold ab_tk at h
  by_cases h0 : b = 0
  · rw [if_pos h0] at h
    cases h
    exact ⟨rfl, h0.symm⟩
  rw [if_neg h0] at h
  by_cases h1 : b = 1
  · rw [if_pos h1] at h
    split at h
    · cases h; exact ⟨rfl, h1.symm⟩
    · cases h
  rw [if_neg h1] at h
  by_cases h2 : b = 2
  · rw [if_pos h2] at h
    split at h
    · cases h; exact ⟨rfl, h2.symm⟩
    · cases h
  rw [if_neg h2] at h
  by_cases h3 : b = 3
  · rw [if_pos h3] at h
    split at h
    · cases h; exact ⟨rfl, h3.symm⟩
    · cases h
  rw [if_neg h3] at h
  by_cases h4 : b = 4
  · rw [if_pos h4] at h
    split at h
    · cases h; exact ⟨rfl, h4.symm⟩
    · cases h
  rw [if_neg h4] at h
  by_cases h5 : b = 5
  · rw [if_pos h5] at h
    split at h
    · cases h; exact ⟨rfl, h5.symm⟩
    · cases h
  rw [if_neg h5] at h
  cases h
section ABV
variable {E : ab_E} {own : String} {cc : ByteArray} {nL : Nat} {p : Program} {e : Env} {R : Room} {s : State} {m : MethodId} {args : Array Value} {below : List Frame} {meth : Method} {c : Code} {Fin : State → Prop} {ad0 : ab_A} {cn0 : ab_C} {TC TS : Nat}
theorem ab_li {cn : ab_C} {x : Int32} : ab_lv cn (.inl x) := trivial
theorem ab_ln {cn : ab_C} : ab_lv cn (.inr none) := fun K i q => by cases q
theorem ab_tl {cn : ab_C} {v : ab_V} {st : List ab_V} (h : ∀ w ∈ v :: st, ab_lv cn w) : ∀ w ∈ st, ab_lv cn w := fun w hw => h w (List.mem_cons_of_mem _ hw)
theorem ab_hd {cn : ab_C} {v : ab_V} {st : List ab_V} (h : ∀ w ∈ v :: st, ab_lv cn w) : ab_lv cn v := h v List.mem_cons_self
theorem ab_sw_at {x : Int32} {J : Nat → Prop} : ∀ {ts : List Nat} {n j t : Nat}, ab_sw x J ts n → ts[j]? = some t → x = nI (n + j) → J t
  | [], _, _, _, _, h, _ => by simp at h
  | t0 :: ts, n, 0, t, hs, h, hx => by
    simp only [List.getElem?_cons_zero, Option.some.injEq] at h
    subst h
    exact hs.1 hx
  | t0 :: ts, n, j + 1, t, hs, h, hx => by
    simp only [List.getElem?_cons_succ] at h
    exact ab_sw_at hs.2 h (by rw [hx]; congr 1; omega)
theorem ab_acmp {ad : ab_A} {hi : ab_I} {hr : ab_R} {cn : ab_C} {H : Heap} (hR : ab_Rp E ad hi hr cn H) {x y : Option (Nat × Nat)} (hx : ab_lv cn (.inr x)) (hy : ab_lv cn (.inr y)) (nx : ab_ns x = true) (ny : ab_ns y = true) : ab_ar ad x = ab_ar ad y ↔ x = y := by
  refine ⟨fun h => ?_, fun h => by rw [h]⟩
  obtain ⟨ws, -, -, -, hinj, -, -, -, -, -, -, hbig⟩ := hR
  rcases x with _ | ⟨K, i⟩ <;> rcases y with _ | ⟨K', i'⟩
  · rfl
  · cases h
  · cases h
  · have h1 := hx K i rfl
    have h2 := hy K' i' rfl
    have k1 : K < 201 := by
      rcases Nat.lt_trichotomy K 201 with q | q | q
      · exact q
      · rw [q] at nx; cases nx
      · rw [hbig K q] at h1; omega
    have k2 : K' < 201 := by
      rcases Nat.lt_trichotomy K' 201 with q | q | q
      · exact q
      · rw [q] at ny; cases ny
      · rw [hbig K' q] at h2; omega
    have h' : ad K i = ad K' i' := Option.some.inj h
    obtain ⟨rfl, rfl⟩ := hinj K i K' i' h1 h2 k1 k2 h'
    rfl
set_option maxHeartbeats 4000000 in
theorem ab_v1_sound (X : ab_X E own cc nL p R s m args c TC TS) {d rk : Nat} {ini : Bool} (hf : d + 2 ≤ R.frames) (hlo : 40 * d + 80 ≤ R.locals) (hini : ini = true → meth.name = "<init>") (hnb : ab_n E < 2 ^ 31) {Q : ab_Q} {J : ab_J}
    (hJ : ∀ pc L st hi hr cn ck cs, J pc L st hi hr cn ck cs → ab_W E nL p e R s m args below meth c Fin ad0 cn0 TC TS pc L st hi hr cn ck cs)
    (hRI : ∀ pc L hi hr cn ck cs x, decode cc pc = .ok (.ireturn, 1) → (rk = 2 → x = 0 ∨ x = 1) → (rk = 1 ∨ rk = 2) → Q (some (.inl x)) hi hr cn → ab_W E nL p e R s m args below meth c Fin ad0 cn0 TC TS pc L [.inl x] hi hr cn ck cs)
    (hRA : ∀ pc L hi hr cn ck cs r, decode cc pc = .ok (.areturn, 1) → rk = 3 → Q (some (.inr r)) hi hr cn → ab_W E nL p e R s m args below meth c Fin ad0 cn0 TC TS pc L [.inr r] hi hr cn ck cs)
    (hRV : ∀ pc L hi hr cn ck cs, decode cc pc = .ok (.return_, 1) → rk = 0 → Q none hi hr cn → ab_W E nL p e R s m args below meth c Fin ad0 cn0 TC TS pc L [] hi hr cn ck cs)
    {pc : Nat} (q : ab_P) (L : ab_L) (st : List ab_V) (hi : ab_I) (hr : ab_R) (cn : ab_C) (ck cs : Nat) (k : ab_N1) (hok : ab_okb own nL ini cc pc q = true)
    (hk : ∀ L st hi hr cn ck cs, k L st hi hr cn ck cs → ab_W E nL p e R s m args below meth c Fin ad0 cn0 TC TS (pc + q.2.1) L st hi hr cn ck cs)
    (h : ab_v1 E d rk Q J q L st hi hr cn ck cs k) : ab_W E nL p e R s m args below meth c Fin ad0 cn0 TC TS pc L st hi hr cn ck cs := by
  unfold ab_okb at hok
  rw [Bool.and_eq_true, decide_eq_true_eq] at hok
  obtain ⟨hd, hs⟩ := hok
  have hx := X.1
  have hb := X.2.1
  obtain ⟨i, len, a, b, f, ts⟩ := q
  dsimp only at hd hk
  cases i with
  | iload i =>
    simp only [ab_oks, beq_iff_eq] at hs
    subst hs
    dsimp only [ab_v1] at h
    split at h
    · rename_i x hlk
      exact ab_pure (fun _ hv => ab_lv_cons ab_li hv) (fun ad H locs ls cells slots hl w => lv_iload hx hb hd (ab_lv_at hl hlk) w) (hk _ _ _ _ _ _ _ h)
    · exact h.elim
  | iload_n i =>
    simp only [ab_oks, Bool.and_eq_true, beq_iff_eq, decide_eq_true_eq] at hs
    obtain ⟨rfl, hia⟩ := hs
    dsimp only [ab_v1] at h
    split at h
    · rename_i x hlk
      exact ab_pure (fun _ hv => ab_lv_cons ab_li hv) (fun ad H locs ls cells slots hl w => lv_iload_n hx hb hd hia (ab_lv_at hl hlk) w) (hk _ _ _ _ _ _ _ h)
    · exact h.elim
  | aload i =>
    simp only [ab_oks, beq_iff_eq] at hs
    subst hs
    dsimp only [ab_v1] at h
    split at h
    · rename_i r hlk
      refine ab_pure (fun hL hv => ab_lv_cons (ab_lk_lv hlk hL) hv) (fun ad H locs ls cells slots hl w => ?_) (hk _ _ _ _ _ _ _ h)
      have hl' := ab_lv_at hl hlk
      rcases r with _ | ⟨K, j⟩
      · exact lv_aloadN hx hb hd hl' w
      · exact lv_aload hx hb hd hl' w
    · exact h.elim
  | aload_n i =>
    simp only [ab_oks, Bool.and_eq_true, beq_iff_eq, decide_eq_true_eq] at hs
    obtain ⟨rfl, hia⟩ := hs
    dsimp only [ab_v1] at h
    split at h
    · rename_i r hlk
      refine ab_pure (fun hL hv => ab_lv_cons (ab_lk_lv hlk hL) hv) (fun ad H locs ls cells slots hl w => ?_) (hk _ _ _ _ _ _ _ h)
      have hl' := ab_lv_at hl hlk
      rcases r with _ | ⟨K, j⟩
      · exact lv_aload_nN hx hb hd hia hl' w
      · exact lv_aload_n hx hb hd hia hl' w
    · exact h.elim
  | istore i =>
    simp only [ab_oks, Bool.and_eq_true, beq_iff_eq, decide_eq_true_eq] at hs
    obtain ⟨rfl, hn⟩ := hs
    rcases st with _ | ⟨x | r, st⟩
    · exact h.elim
    · exact ab_store (fun ad H locs ls cells slots hl w => lv_istore hx hb hd hl hn rfl w) (fun _ hv => ⟨ab_li, ab_tl hv⟩) (hk _ _ _ _ _ _ _ h)
    · exact h.elim
  | istore_n i =>
    simp only [ab_oks, Bool.and_eq_true, beq_iff_eq, decide_eq_true_eq] at hs
    obtain ⟨⟨rfl, hn⟩, hia⟩ := hs
    rw [hia] at hn
    rcases st with _ | ⟨x | r, st⟩
    · exact h.elim
    · exact ab_store (fun ad H locs ls cells slots hl w => lv_istore_n hx hb hd hia hl hn rfl w) (fun _ hv => ⟨ab_li, ab_tl hv⟩) (hk _ _ _ _ _ _ _ h)
    · exact h.elim
  | astore i =>
    simp only [ab_oks, Bool.and_eq_true, beq_iff_eq, decide_eq_true_eq] at hs
    obtain ⟨rfl, hn⟩ := hs
    rcases st with _ | ⟨x | r, st⟩
    · exact h.elim
    · exact h.elim
    · refine ab_store (v := .inr r) (fun ad H locs ls cells slots hl w => ?_) (fun _ hv => ⟨ab_hd hv, ab_tl hv⟩) (hk _ _ _ _ _ _ _ h)
      rcases r with _ | ⟨K, j⟩
      · exact lv_astoreN hx hb hd hl hn rfl w
      · exact lv_astore hx hb hd hl hn rfl w
  | astore_n i =>
    simp only [ab_oks, Bool.and_eq_true, beq_iff_eq, decide_eq_true_eq] at hs
    obtain ⟨⟨rfl, hn⟩, hia⟩ := hs
    rw [hia] at hn
    rcases st with _ | ⟨x | r, st⟩
    · exact h.elim
    · exact h.elim
    · refine ab_store (v := .inr r) (fun ad H locs ls cells slots hl w => ?_) (fun _ hv => ⟨ab_hd hv, ab_tl hv⟩) (hk _ _ _ _ _ _ _ h)
      rcases r with _ | ⟨K, j⟩
      · exact lv_astore_nN hx hb hd hia hl hn rfl w
      · exact lv_astore_n hx hb hd hia hl hn rfl w
  | iinc i n =>
    simp only [ab_oks, Bool.and_eq_true, beq_iff_eq, decide_eq_true_eq] at hs
    obtain ⟨⟨rfl, hn⟩, he⟩ := hs
    dsimp only [ab_v1] at h
    split at h
    · rename_i x hlk
      obtain ⟨j, hj⟩ := List.getElem?_of_mem (ab_lk_mem hlk)
      refine ab_store (v := .inl (x + ab_cst f a)) (fun ad H locs ls cells slots hl w => ?_) (fun _ hv => ⟨ab_li, hv⟩) (hk _ _ _ _ _ _ _ h)
      exact lv_iinc (k := j) hx hb hd hl (by rw [List.getElem?_map, hj]; rfl) (by rw [he]) hn rfl w
    · exact h.elim
  | iconst n =>
    simp only [ab_oks, Bool.and_eq_true, beq_iff_eq, decide_eq_true_eq] at hs
    obtain ⟨rfl, he⟩ := hs
    exact ab_pure (fun _ hv => ab_lv_cons ab_li hv) (fun ad H locs ls cells slots hl w => lv_iconst hx hb hd he w) (hk _ _ _ _ _ _ _ h)
  | bipush n =>
    simp only [ab_oks, Bool.and_eq_true, beq_iff_eq, decide_eq_true_eq] at hs
    obtain ⟨rfl, he⟩ := hs
    exact ab_pure (fun _ hv => ab_lv_cons ab_li hv) (fun ad H locs ls cells slots hl w => lv_bipush hx hb hd he w) (hk _ _ _ _ _ _ _ h)
  | sipush n =>
    simp only [ab_oks, Bool.and_eq_true, beq_iff_eq, decide_eq_true_eq] at hs
    obtain ⟨rfl, he⟩ := hs
    exact ab_pure (fun _ hv => ab_lv_cons ab_li hv) (fun ad H locs ls cells slots hl w => lv_sipush hx hb hd he w) (hk _ _ _ _ _ _ _ h)
  | ldc idx =>
    simp only [ab_oks, Bool.and_eq_true, beq_iff_eq] at hs
    obtain ⟨rfl, he⟩ := hs
    exact ab_pure (fun _ hv => ab_lv_cons ab_li hv) (fun ad H locs ls cells slots hl w => lv_ldc hx hb X.2.2.2.1 (X.2.2.2.2.1 _ (ab_wp_in he)) hd w) (hk _ _ _ _ _ _ _ h)
  | aconst_null =>
    simp only [ab_oks, beq_iff_eq] at hs
    subst hs
    exact ab_pure (fun _ hv => ab_lv_cons ab_ln hv) (fun ad H locs ls cells slots hl w => lv_null hx hb hd w) (hk _ _ _ _ _ _ _ h)
  | iadd =>
    simp only [ab_oks, beq_iff_eq] at hs
    subst hs
    rcases st with _ | ⟨y | r, _ | ⟨x | r', st⟩⟩
    all_goals first | exact h.elim | skip
    exact ab_pure (fun _ hv => ab_lv_cons ab_li (ab_tl (ab_tl hv))) (fun ad H locs ls cells slots hl w => lv_iadd hx hb hd w) (hk _ _ _ _ _ _ _ h)
  | isub =>
    simp only [ab_oks, beq_iff_eq] at hs
    subst hs
    rcases st with _ | ⟨y | r, _ | ⟨x | r', st⟩⟩
    all_goals first | exact h.elim | skip
    exact ab_pure (fun _ hv => ab_lv_cons ab_li (ab_tl (ab_tl hv))) (fun ad H locs ls cells slots hl w => lv_isub hx hb hd w) (hk _ _ _ _ _ _ _ h)
  | imul =>
    simp only [ab_oks, beq_iff_eq] at hs
    subst hs
    rcases st with _ | ⟨y | r, _ | ⟨x | r', st⟩⟩
    all_goals first | exact h.elim | skip
    exact ab_pure (fun _ hv => ab_lv_cons ab_li (ab_tl (ab_tl hv))) (fun ad H locs ls cells slots hl w => lv_imul hx hb hd w) (hk _ _ _ _ _ _ _ h)
  | iand =>
    simp only [ab_oks, beq_iff_eq] at hs
    subst hs
    rcases st with _ | ⟨y | r, _ | ⟨x | r', st⟩⟩
    all_goals first | exact h.elim | skip
    exact ab_pure (fun _ hv => ab_lv_cons ab_li (ab_tl (ab_tl hv))) (fun ad H locs ls cells slots hl w => lv_iand hx hb hd w) (hk _ _ _ _ _ _ _ h)
  | ior =>
    simp only [ab_oks, beq_iff_eq] at hs
    subst hs
    rcases st with _ | ⟨y | r, _ | ⟨x | r', st⟩⟩
    all_goals first | exact h.elim | skip
    exact ab_pure (fun _ hv => ab_lv_cons ab_li (ab_tl (ab_tl hv))) (fun ad H locs ls cells slots hl w => lv_ior hx hb hd w) (hk _ _ _ _ _ _ _ h)
  | ishl =>
    simp only [ab_oks, beq_iff_eq] at hs
    subst hs
    rcases st with _ | ⟨y | r, _ | ⟨x | r', st⟩⟩
    all_goals first | exact h.elim | skip
    exact ab_pure (fun _ hv => ab_lv_cons ab_li (ab_tl (ab_tl hv))) (fun ad H locs ls cells slots hl w => lv_ishl hx hb hd w) (hk _ _ _ _ _ _ _ h)
  | ishr =>
    simp only [ab_oks, beq_iff_eq] at hs
    subst hs
    rcases st with _ | ⟨y | r, _ | ⟨x | r', st⟩⟩
    all_goals first | exact h.elim | skip
    exact ab_pure (fun _ hv => ab_lv_cons ab_li (ab_tl (ab_tl hv))) (fun ad H locs ls cells slots hl w => lv_ishr hx hb hd w) (hk _ _ _ _ _ _ _ h)
  | idiv =>
    simp only [ab_oks, beq_iff_eq] at hs
    subst hs
    rcases st with _ | ⟨y | r, _ | ⟨x | r', st⟩⟩
    all_goals first | exact h.elim | skip
    exact ab_pure (fun _ hv => ab_lv_cons ab_li (ab_tl (ab_tl hv))) (fun ad H locs ls cells slots hl w => lv_idiv hx hb hd h.1 w) (hk _ _ _ _ _ _ _ h.2)
  | irem =>
    simp only [ab_oks, beq_iff_eq] at hs
    subst hs
    rcases st with _ | ⟨y | r, _ | ⟨x | r', st⟩⟩
    all_goals first | exact h.elim | skip
    exact ab_pure (fun _ hv => ab_lv_cons ab_li (ab_tl (ab_tl hv))) (fun ad H locs ls cells slots hl w => lv_irem hx hb hd h.1 w) (hk _ _ _ _ _ _ _ h.2)
  | dup =>
    simp only [ab_oks, beq_iff_eq] at hs
    subst hs
    rcases st with _ | ⟨v, st⟩
    · exact h.elim
    · exact ab_pure (fun _ hv => ab_lv_cons (ab_hd hv) hv) (fun ad H locs ls cells slots hl w => lv_dup hx hb hd (ab_cat ad v) w) (hk _ _ _ _ _ _ _ h)
  | dup_x1 =>
    simp only [ab_oks, beq_iff_eq] at hs
    subst hs
    rcases st with _ | ⟨v, _ | ⟨u, st⟩⟩
    · exact h.elim
    · exact h.elim
    · exact ab_pure (fun _ hv => ab_lv_cons (ab_hd hv) (ab_lv_cons (ab_hd (ab_tl hv)) (ab_lv_cons (ab_hd hv) (ab_tl (ab_tl hv))))) (fun ad H locs ls cells slots hl w => lv_dup_x1 hx hb hd (ab_cat ad v) (ab_cat ad u) w) (hk _ _ _ _ _ _ _ h)
  | dup2 =>
    simp only [ab_oks, beq_iff_eq] at hs
    subst hs
    rcases st with _ | ⟨v, _ | ⟨u, st⟩⟩
    · exact h.elim
    · exact h.elim
    · exact ab_pure (fun _ hv => ab_lv_cons (ab_hd hv) (ab_lv_cons (ab_hd (ab_tl hv)) hv)) (fun ad H locs ls cells slots hl w => lv_dup2_11 hx hb hd (ab_cat ad v) (ab_cat ad u) w) (hk _ _ _ _ _ _ _ h)
  | pop =>
    simp only [ab_oks, beq_iff_eq] at hs
    subst hs
    rcases st with _ | ⟨v, st⟩
    · exact h.elim
    · exact ab_pure (fun _ hv => ab_tl hv) (fun ad H locs ls cells slots hl w => lv_pop hx hb hd (ab_cat ad v) w) (hk _ _ _ _ _ _ _ h)
  | goto off =>
    simp only [ab_oks, Bool.and_eq_true, beq_iff_eq, decide_eq_true_eq] at hs
    obtain ⟨rfl, he⟩ := hs
    exact ab_pure (fun _ hv => hv) (fun ad H locs ls cells slots hl w => lv_goto hx hb hd he w) (hJ _ _ _ _ _ _ _ _ h)
  | ifCond cd off =>
    simp only [ab_oks, Bool.and_eq_true, beq_iff_eq, decide_eq_true_eq] at hs
    obtain ⟨rfl, he⟩ := hs
    rcases st with _ | ⟨x | r, st⟩
    · cases cd <;> exact h.elim
    · intro ad H locs ls cells slots hR hN hL hst hl hS hc hs' hx'
      cases cd with
      | eq => exact lv_if_eq hx hb hd he (fun z => hJ _ _ _ _ _ _ _ _ (h.1 z) ad H locs ls cells slots hR hN hL (ab_tl hst) hl hS hc hs' hx') (fun z => hk _ _ _ _ _ _ _ (h.2 z) ad H locs ls cells slots hR hN hL (ab_tl hst) hl hS hc hs' hx')
      | ne => exact lv_if_ne hx hb hd he (fun z => hJ _ _ _ _ _ _ _ _ (h.1 z) ad H locs ls cells slots hR hN hL (ab_tl hst) hl hS hc hs' hx') (fun z => hk _ _ _ _ _ _ _ (h.2 z) ad H locs ls cells slots hR hN hL (ab_tl hst) hl hS hc hs' hx')
      | lt => exact lv_if_lt hx hb hd he (fun z => hJ _ _ _ _ _ _ _ _ (h.1 z) ad H locs ls cells slots hR hN hL (ab_tl hst) hl hS hc hs' hx') (fun z => hk _ _ _ _ _ _ _ (h.2 z) ad H locs ls cells slots hR hN hL (ab_tl hst) hl hS hc hs' hx')
      | ge => exact lv_if_ge hx hb hd he (fun z => hJ _ _ _ _ _ _ _ _ (h.1 z) ad H locs ls cells slots hR hN hL (ab_tl hst) hl hS hc hs' hx') (fun z => hk _ _ _ _ _ _ _ (h.2 z) ad H locs ls cells slots hR hN hL (ab_tl hst) hl hS hc hs' hx')
      | gt => exact lv_if_gt hx hb hd he (fun z => hJ _ _ _ _ _ _ _ _ (h.1 z) ad H locs ls cells slots hR hN hL (ab_tl hst) hl hS hc hs' hx') (fun z => hk _ _ _ _ _ _ _ (h.2 z) ad H locs ls cells slots hR hN hL (ab_tl hst) hl hS hc hs' hx')
      | le => exact lv_if_le hx hb hd he (fun z => hJ _ _ _ _ _ _ _ _ (h.1 z) ad H locs ls cells slots hR hN hL (ab_tl hst) hl hS hc hs' hx') (fun z => hk _ _ _ _ _ _ _ (h.2 z) ad H locs ls cells slots hR hN hL (ab_tl hst) hl hS hc hs' hx')
    · cases cd <;> exact h.elim
  | if_icmp cd off =>
    simp only [ab_oks, Bool.and_eq_true, beq_iff_eq, decide_eq_true_eq] at hs
    obtain ⟨rfl, he⟩ := hs
    rcases st with _ | ⟨y | r, _ | ⟨x | r', st⟩⟩
    all_goals first | (cases cd <;> exact h.elim) | skip
    intro ad H locs ls cells slots hR hN hL hst hl hS hc hs' hx'
    have hst' := ab_tl (ab_tl hst)
    cases cd with
    | eq => exact lv_icmp_eq hx hb hd he (fun z => hJ _ _ _ _ _ _ _ _ (h.1 z) ad H locs ls cells slots hR hN hL hst' hl hS hc hs' hx') (fun z => hk _ _ _ _ _ _ _ (h.2 z) ad H locs ls cells slots hR hN hL hst' hl hS hc hs' hx')
    | ne => exact lv_icmp_ne hx hb hd he (fun z => hJ _ _ _ _ _ _ _ _ (h.1 z) ad H locs ls cells slots hR hN hL hst' hl hS hc hs' hx') (fun z => hk _ _ _ _ _ _ _ (h.2 z) ad H locs ls cells slots hR hN hL hst' hl hS hc hs' hx')
    | lt => exact lv_icmp_lt hx hb hd he (fun z => hJ _ _ _ _ _ _ _ _ (h.1 z) ad H locs ls cells slots hR hN hL hst' hl hS hc hs' hx') (fun z => hk _ _ _ _ _ _ _ (h.2 z) ad H locs ls cells slots hR hN hL hst' hl hS hc hs' hx')
    | ge => exact lv_icmp_ge hx hb hd he (fun z => hJ _ _ _ _ _ _ _ _ (h.1 z) ad H locs ls cells slots hR hN hL hst' hl hS hc hs' hx') (fun z => hk _ _ _ _ _ _ _ (h.2 z) ad H locs ls cells slots hR hN hL hst' hl hS hc hs' hx')
    | gt => exact lv_icmp_gt hx hb hd he (fun z => hJ _ _ _ _ _ _ _ _ (h.1 z) ad H locs ls cells slots hR hN hL hst' hl hS hc hs' hx') (fun z => hk _ _ _ _ _ _ _ (h.2 z) ad H locs ls cells slots hR hN hL hst' hl hS hc hs' hx')
    | le => exact lv_icmp_le hx hb hd he (fun z => hJ _ _ _ _ _ _ _ _ (h.1 z) ad H locs ls cells slots hR hN hL hst' hl hS hc hs' hx') (fun z => hk _ _ _ _ _ _ _ (h.2 z) ad H locs ls cells slots hR hN hL hst' hl hS hc hs' hx')
  | ifnull off =>
    simp only [ab_oks, Bool.and_eq_true, beq_iff_eq, decide_eq_true_eq] at hs
    obtain ⟨rfl, he⟩ := hs
    rcases st with _ | ⟨x | r, st⟩
    · exact h.elim
    · exact h.elim
    · intro ad H locs ls cells slots hR hN hL hst hl hS hc hs' hx'
      rcases r with _ | ⟨K, j⟩
      · exact lv_ifnullN hx hb hd he (hJ _ _ _ _ _ _ _ _ (h.1 rfl) ad H locs ls cells slots hR hN hL (ab_tl hst) hl hS hc hs' hx')
      · exact lv_ifnull hx hb hd (hk _ _ _ _ _ _ _ (h.2 (fun z => by cases z)) ad H locs ls cells slots hR hN hL (ab_tl hst) hl hS hc hs' hx')
  | ifnonnull off =>
    simp only [ab_oks, Bool.and_eq_true, beq_iff_eq, decide_eq_true_eq] at hs
    obtain ⟨rfl, he⟩ := hs
    rcases st with _ | ⟨x | r, st⟩
    · exact h.elim
    · exact h.elim
    · intro ad H locs ls cells slots hR hN hL hst hl hS hc hs' hx'
      rcases r with _ | ⟨K, j⟩
      · exact lv_ifnonnullN hx hb hd (hk _ _ _ _ _ _ _ (h.2 rfl) ad H locs ls cells slots hR hN hL (ab_tl hst) hl hS hc hs' hx')
      · exact lv_ifnonnull hx hb hd he (hJ _ _ _ _ _ _ _ _ (h.1 (fun z => by cases z)) ad H locs ls cells slots hR hN hL (ab_tl hst) hl hS hc hs' hx')
  | if_acmp cd off =>
    simp only [ab_oks, Bool.and_eq_true, beq_iff_eq, decide_eq_true_eq] at hs
    obtain ⟨rfl, he⟩ := hs
    rcases st with _ | ⟨y | r, _ | ⟨x | r', st⟩⟩
    all_goals first | (cases cd <;> exact h.elim) | skip
    intro ad H locs ls cells slots hR hN hL hst hl hS hc hs' hx'
    have hst' := ab_tl (ab_tl hst)
    cases cd with
    | eq =>
      replace h := ab_ifF h
      obtain ⟨w1, h⟩ := h
      replace h := ab_ifF h
      obtain ⟨w2, h⟩ := h
      have hi := ab_acmp hR (ab_hd (ab_tl hst)) (ab_hd hst) w1 w2
      exact lv_acmp_eq hx hb hd he (fun z => hJ _ _ _ _ _ _ _ _ (h.1 (hi.mp z)) ad H locs ls cells slots hR hN hL hst' hl hS hc hs' hx') (fun z => hk _ _ _ _ _ _ _ (h.2 (fun w => z (hi.mpr w))) ad H locs ls cells slots hR hN hL hst' hl hS hc hs' hx')
    | ne =>
      replace h := ab_ifF h
      obtain ⟨w1, h⟩ := h
      replace h := ab_ifF h
      obtain ⟨w2, h⟩ := h
      have hi := ab_acmp hR (ab_hd (ab_tl hst)) (ab_hd hst) w1 w2
      exact lv_acmp_ne hx hb hd he (fun z => hJ _ _ _ _ _ _ _ _ (h.1 (fun w => z (hi.mpr w))) ad H locs ls cells slots hR hN hL hst' hl hS hc hs' hx') (fun z => hk _ _ _ _ _ _ _ (h.2 (hi.mp z)) ad H locs ls cells slots hR hN hL hst' hl hS hc hs' hx')
  | tableswitch dflt lo hi0 offs =>
    simp only [ab_oks, Bool.and_eq_true, decide_eq_true_eq] at hs
    obtain ⟨⟨⟨⟨s1, s2⟩, s3⟩, s4⟩, s5⟩ := hs
    rcases st with _ | ⟨x | r, st⟩
    · exact h.elim
    · intro ad H locs ls cells slots hR hN hL hst hl hS hc hs' hx'
      by_cases hin : x.toInt < lo ∨ hi0 < x.toInt
      · refine lv_tableOut hx hb hd hin s1 (hJ _ _ _ _ _ _ _ _ (h.1 fun j hj hxj => ?_) ad H locs ls cells slots hR hN hL (ab_tl hst) hl hS hc hs' hx')
        dsimp only at hj hxj s2 s3 s5
        rw [hxj, nI_toInt (by omega)] at hin
        omega
      · have h1 : ¬ x.toInt < lo := fun z => hin (Or.inl z)
        have h2 : ¬ hi0 < x.toInt := fun z => hin (Or.inr z)
        have hlen : (x.toInt - lo).toNat < ts.length := by omega
        have e1 : offs.toList.length = ts.length := by
          have := congrArg List.length s4
          simpa using this
        have hlo : (x.toInt - lo).toNat < offs.toList.length := by omega
        have e2 : (pc : Int) + offs.toList[(x.toInt - lo).toNat] = (ts[(x.toInt - lo).toNat] : Int) := by
          have := congrArg (fun l => l[(x.toInt - lo).toNat]?) s4
          simp only [List.getElem?_map, List.getElem?_eq_getElem hlo, List.getElem?_eq_getElem hlen, Option.map_some, Option.some.injEq] at this
          exact this
        have hsw : ab_sw x (fun t => J t L st hi hr cn ck cs) ts b := h.2
        have key : J ts[(x.toInt - lo).toNat] L st hi hr cn ck cs := ab_sw_at (J := fun t => J t L st hi hr cn ck cs) hsw (j := (x.toInt - lo).toNat) (List.getElem?_eq_getElem hlen) (by
          apply Int32.toInt_inj.mp
          rw [nI_toInt (by omega)]
          omega)
        exact lv_tableIn hx hb hd h1 h2 (off := offs.toList[(x.toInt - lo).toNat]) (by rw [← Array.getElem?_toList]; exact List.getElem?_eq_getElem hlo) e2 (hJ _ _ _ _ _ _ _ _ key ad H locs ls cells slots hR hN hL (ab_tl hst) hl hS hc hs' hx')
    · exact h.elim
  | getfield idx =>
    simp only [ab_oks, Bool.and_eq_true, beq_iff_eq, decide_eq_true_eq] at hs
    obtain ⟨⟨⟨⟨rfl, s1⟩, s2⟩, s3⟩, s4⟩ := hs
    rcases st with _ | ⟨x | _ | ⟨K, i⟩, st⟩
    · exact h.elim
    · exact h.elim
    · exact h.elim
    · replace h := ab_ifF h
      obtain ⟨e0, h⟩ := h
      dsimp only at e0 h s1 s2 s3 s4
      subst e0
      refine ab_getfield X s1 s2 (ab_wp_in s4) hd (hk _ _ _ _ _ _ _ ?_)
      rcases ab_ff_lt (K := K) (j := b) with z | z | z | z
      · rw [if_neg (by rw [ab_fi_0 z]; decide)]
        rw [if_pos (s3.trans z)] at h
        exact h
      · rw [if_pos (ab_fi_1 z)]
        rw [if_neg (by omega)] at h
        exact h
      · rw [if_pos (ab_fi_2 z)]
        rw [if_neg (by omega)] at h
        exact h
      · exact absurd z (ab_ff_ok s1 b s2)
  | putfield idx =>
    simp only [ab_oks, Bool.and_eq_true, beq_iff_eq, decide_eq_true_eq, Bool.or_eq_true, Bool.not_eq_true'] at hs
    obtain ⟨⟨⟨⟨⟨rfl, s1⟩, s2⟩, s3⟩, s4⟩, s5⟩ := hs
    have hfin : (ab_T a b).2.2.2 = false ∨ ((ab_T a b).2.2.2 = true ∧ meth.name = "<init>" ∧ (ab_T a b).1 = own) := by
      rcases s5 with z | z
      · exact Or.inl z
      · by_cases w : (ab_T a b).2.2.2 = true
        · exact Or.inr ⟨w, hini z.1, z.2⟩
        · exact Or.inl (by simpa using w)
    rcases ab_ff_lt (K := a) (j := b) with z | z | z | z
    · have hf0 : f = 0 := s3.trans z
      subst hf0
      rcases st with _ | ⟨x | r, _ | ⟨x' | _ | ⟨K, i⟩, st⟩⟩
      all_goals first | exact h.elim | skip
      replace h := ab_ifF h
      obtain ⟨e0, h⟩ := h
      dsimp only at e0
      subst e0
      exact ab_putR X s1 s2 (ab_wp_in s4) hfin hd z (hk _ _ _ _ _ _ _ h)
    · have hf0 : f = 1 := s3.trans z
      subst hf0
      rcases st with _ | ⟨x | r, _ | ⟨x' | _ | ⟨K, i⟩, st⟩⟩
      all_goals first | exact h.elim | skip
      replace h := ab_ifF h
      obtain ⟨e0, h⟩ := h
      dsimp only at e0
      subst e0
      exact ab_putI X s1 s2 (ab_wp_in s4) hfin hd (Or.inl z) (hk _ _ _ _ _ _ _ h)
    · have hf0 : f = 2 := s3.trans z
      subst hf0
      rcases st with _ | ⟨x | r, _ | ⟨x' | _ | ⟨K, i⟩, st⟩⟩
      all_goals first | exact h.elim | skip
      replace h := ab_ifF h
      obtain ⟨e0, h01, h⟩ := h
      dsimp only at e0
      subst e0
      exact ab_putI X s1 s2 (ab_wp_in s4) hfin hd (Or.inr ⟨z, h01⟩) (hk _ _ _ _ _ _ _ h)
    · exact absurd z (ab_ff_ok s1 b s2)
  | getstatic idx =>
    simp only [ab_oks, Bool.and_eq_true, beq_iff_eq] at hs
    obtain ⟨rfl, s1⟩ := hs
    exact ab_gets X (ab_wp_in s1) hd (hk _ _ _ _ _ _ _ h)
  | iaload =>
    simp only [ab_oks, beq_iff_eq] at hs
    subst hs
    rcases st with _ | ⟨j | r, _ | ⟨x' | _ | ⟨K, i⟩, st⟩⟩
    all_goals first | exact h.elim | skip
    dsimp only [ab_v1] at h
    by_cases hK : K = 201
    · rw [if_pos hK] at h
      subst hK
      obtain ⟨⟨n, h1, h0, rfl⟩, h⟩ := h
      rw [ab_ix_nI h0] at h
      exact ab_sload X h1 hnb hd (hk _ _ _ _ _ _ _ h)
    · rw [if_neg hK] at h
      replace h := ab_ifF h
      obtain ⟨w, ⟨n, h4, h0, rfl⟩, h⟩ := h
      rw [ab_ix_nI h0] at h
      obtain ⟨h1, h2, h3⟩ := ab_ia_ok w
      exact ab_iaload X h1 h2 h3 h4 hd (hk _ _ _ _ _ _ _ h)
  | iastore =>
    simp only [ab_oks, beq_iff_eq] at hs
    subst hs
    rcases st with _ | ⟨x | r, _ | ⟨j | r', _ | ⟨x' | _ | ⟨K, i⟩, st⟩⟩⟩
    all_goals first | exact h.elim | skip
    replace h := ab_ifF h
    obtain ⟨w, ⟨n, h4, h0, rfl⟩, h⟩ := h
    rw [ab_ix_nI h0] at h
    obtain ⟨h1, h2, h3⟩ := ab_ia_ok w
    exact ab_iastore X h1 h2 h3 h4 hd (hk _ _ _ _ _ _ _ h)
  | aaload =>
    simp only [ab_oks, beq_iff_eq] at hs
    subst hs
    rcases st with _ | ⟨j | r, _ | ⟨x' | _ | ⟨K, i⟩, st⟩⟩
    all_goals first | exact h.elim | skip
    replace h := ab_ifF h
    obtain ⟨w, ⟨n, h4, h5, rfl⟩, h⟩ := h
    rw [ab_ix_nI h5] at h
    obtain ⟨h1, h2, h3⟩ := ab_ra_ok w
    exact ab_aaload X h1 h2 h3 h5 h4 hd (hk _ _ _ _ _ _ _ h)
  | aastore =>
    simp only [ab_oks, beq_iff_eq] at hs
    subst hs
    rcases st with _ | ⟨x | r, _ | ⟨j | r', _ | ⟨x' | _ | ⟨K, i⟩, st⟩⟩⟩
    all_goals first | exact h.elim | skip
    replace h := ab_ifF h
    obtain ⟨w, h6, ⟨n, h4, h7, rfl⟩, h⟩ := h
    rw [ab_ix_nI h7] at h
    obtain ⟨h1, h2, h3, h5⟩ := ab_oa_ok w
    exact ab_aastore X h1 h2 h3 h5 h6 h7 h4 hd (hk _ _ _ _ _ _ _ h)
  | arraylength =>
    simp only [ab_oks, beq_iff_eq] at hs
    subst hs
    rcases st with _ | ⟨x | _ | ⟨K, i⟩, st⟩
    all_goals first | exact h.elim | skip
    dsimp only [ab_v1] at h
    by_cases hK : K = 201
    · rw [if_pos hK] at h
      subst hK
      exact ab_slen X hd (hk _ _ _ _ _ _ _ h)
    · rw [if_neg hK] at h
      by_cases hK2 : K = 200
      · rw [if_pos hK2] at h
        subst hK2
        exact ab_elen X hd (hk _ _ _ _ _ _ _ h)
      · rw [if_neg hK2] at h
        replace h := ab_ifF h
        obtain ⟨w1, h⟩ := h
        replace h := ab_ifF h
        obtain ⟨w2, h⟩ := h
        exact ab_alen X w1 w2 hd (hk _ _ _ _ _ _ _ h)
  | new idx =>
    simp only [ab_oks, Bool.and_eq_true, beq_iff_eq, decide_eq_true_eq] at hs
    obtain ⟨⟨⟨⟨rfl, s1⟩, s2⟩, s3⟩, s4⟩ := hs
    replace h := ab_ifF h
    obtain ⟨w1, h⟩ := h
    replace h := ab_ifF h
    obtain ⟨w2, h⟩ := h
    exact ab_new X s1 (ab_wp_in s2) (ab_wp_in s3) (ab_wp_in s4) w1 w2 hd (hk _ _ _ _ _ _ _ h)
  | newarray t =>
    simp only [ab_oks, Bool.and_eq_true, beq_iff_eq, decide_eq_true_eq] at hs
    obtain ⟨rfl, rfl⟩ := hs
    rcases st with _ | ⟨j | r, st⟩
    all_goals first | exact h.elim | skip
    obtain ⟨K, w, rfl, h5, h6, h⟩ := h
    obtain ⟨h1, h2, h3⟩ := ab_ia_ok w
    exact ab_newarray X h1 h2 h3 h5 h6 hd (hk _ _ _ _ _ _ _ h)
  | anewarray idx =>
    simp only [ab_oks, Bool.and_eq_true, beq_iff_eq, Bool.or_eq_true] at hs
    obtain ⟨rfl, s1⟩ := hs
    rcases st with _ | ⟨j | r, st⟩
    all_goals first | exact h.elim | skip
    obtain ⟨K, w, h3, h4, rfl, h5, h6, h⟩ := h
    obtain ⟨h1, h2, -, -⟩ := ab_oa_ok w
    have hKs := X.2.2.2.2.2.1
    dsimp only at s1 h3
    rcases s1 with (⟨z, s1⟩ | ⟨z, s1⟩) | ⟨z, s1⟩
    · exact ab_anewarray X h1 h2 (by omega) (by rw [h3, z]; rfl) hKs.2.2.2.2.2.2.2.1 (ab_wp_in s1) h4 h5 h6 hd (hk _ _ _ _ _ _ _ h)
    · exact ab_anewarray X h1 h2 (by omega) (by rw [h3, z]; rfl) hKs.2.2.2.2.2.2.2.2.1 (ab_wp_in s1) h4 h5 h6 hd (hk _ _ _ _ _ _ _ h)
    · exact ab_anewarray X h1 h2 (by omega) (by rw [h3, z]; rfl) hKs.2.2.2.2.2.2.2.2.2.1 (ab_wp_in s1) h4 h5 h6 hd (hk _ _ _ _ _ _ _ h)
  | multianewarray idx n =>
    simp only [ab_oks, Bool.and_eq_true, beq_iff_eq] at hs
    obtain ⟨⟨rfl, rfl⟩, s1⟩ := hs
    rcases st with _ | ⟨j2 | r, _ | ⟨j1 | r', st⟩⟩
    all_goals first | exact h.elim | skip
    obtain ⟨K, Kr, n2, h1, h2, h3, h4, h5, h6, h7, h8, h9, rfl, rfl, h10, h11, h12, h⟩ := h
    exact ab_mna X h1 h2 h3 h4 h5 h6 h7 h8 h9 h10 (ab_wp_in s1) h11 h12 hd (hk _ _ _ _ _ _ _ h)
  | checkcast idx =>
    simp only [ab_oks, Bool.and_eq_true, beq_iff_eq, decide_eq_true_eq] at hs
    obtain ⟨⟨rfl, s1⟩, s2⟩ := hs
    rcases st with _ | ⟨x | _ | ⟨K, j⟩, st⟩
    · exact h.elim
    · exact h.elim
    · exact ab_cast X s1 (ab_wp_in s2) (fun _ _ z => by cases z) hd (hk _ _ _ _ _ _ _ h)
    · replace h := ab_ifF h
      obtain ⟨w, h⟩ := h
      exact ab_cast X s1 (ab_wp_in s2) (fun _ _ z => by cases z; exact w) hd (hk _ _ _ _ _ _ _ h)
  | invokevirtual idx =>
    simp only [ab_oks, Bool.and_eq_true, beq_iff_eq, decide_eq_true_eq] at hs
    obtain ⟨⟨⟨⟨⟨⟨rfl, s1⟩, s2⟩, s3⟩, s4⟩, s5⟩, s6⟩ := hs
    dsimp only [ab_v1] at h
    split at h
    · rename_i as K i st' htk
      replace h := ab_ifF h
      obtain ⟨e0, h⟩ := h
      replace h := ab_ifF h
      obtain ⟨h3, h⟩ := h
      replace h := ab_ifF h
      obtain ⟨h4, h⟩ := h
      replace h := ab_ifF h
      obtain ⟨h5, h6⟩ := h
      subst e0
      have hmk := ab_mkb_ok s4
      dsimp only at hmk
      obtain ⟨rfl, hlen⟩ := ab_tk_ok htk
      exact ab_callV X hf hlo s5 s6 (by rw [hlen]; exact hmk) (ab_wp_in s1) (ab_wp_in s2) (ab_wp_in s3) h3 h4 h5 hd h6 (fun v hi' hr' cn' hq => hk _ _ _ _ _ _ _ hq)
    · exact h.elim
  | invokestatic idx =>
    simp only [ab_oks, Bool.and_eq_true, beq_iff_eq] at hs
    obtain ⟨rfl, s1⟩ := hs
    dsimp only [ab_v1] at h
    by_cases hn3 : f = 3
    · rw [if_pos hn3] at h s1
      simp only [Bool.and_eq_true] at s1
      obtain ⟨⟨⟨w1, w2⟩, w3⟩, w4⟩ := s1
      rcases st with _ | ⟨y | r, _ | ⟨x | r', st⟩⟩
      all_goals first | exact h.elim | skip
      have hts := X.2.2.2.2.1
      have hRc := X.2.2.2.2.2.2.1
      have hRs := X.2.2.2.2.2.2.2
      replace h := ab_ifF h
      obtain ⟨w0, h⟩ := h
      intro ad H locs ls cells slots hR hN hL hst hl hS hc hs' hx'
      refine va_mmax hx hb (X.2.2.1.trans hl.1.symm) X.2.2.2.1 (hts _ (ab_wp_in w1)) (hts _ (ab_wp_in w2)) (hts _ (ab_wp_in w3)) (hts _ (ab_wp_in w4)) (by omega) ?_ (by omega) (by omega) hd (hk _ _ _ _ _ _ _ h ad H locs ls cells slots hR hN hL (ab_lv_cons ab_li (ab_tl (ab_tl hst))) hl hS hc hs' hx')
      rw [ab_cat_sum]
      omega
    rw [if_neg hn3] at h s1
    by_cases hn4 : f = 4
    · rw [if_pos hn4] at h s1
      simp only [Bool.and_eq_true] at s1
      obtain ⟨⟨⟨w1, w2⟩, w3⟩, w4⟩ := s1
      rcases st with _ | ⟨y | r, _ | ⟨x | r', st⟩⟩
      all_goals first | exact h.elim | skip
      have hts := X.2.2.2.2.1
      have hRc := X.2.2.2.2.2.2.1
      have hRs := X.2.2.2.2.2.2.2
      replace h := ab_ifF h
      obtain ⟨w0, h⟩ := h
      intro ad H locs ls cells slots hR hN hL hst hl hS hc hs' hx'
      refine va_mmin hx hb (X.2.2.1.trans hl.1.symm) X.2.2.2.1 (hts _ (ab_wp_in w1)) (hts _ (ab_wp_in w2)) (hts _ (ab_wp_in w3)) (hts _ (ab_wp_in w4)) (by omega) ?_ (by omega) (by omega) hd (hk _ _ _ _ _ _ _ h ad H locs ls cells slots hR hN hL (ab_lv_cons ab_li (ab_tl (ab_tl hst))) hl hS hc hs' hx')
      rw [ab_cat_sum]
      omega
    rw [if_neg hn4] at h s1
    simp only [Bool.and_eq_true] at s1
    obtain ⟨⟨s1, s2⟩, s4⟩ := s1
    split at h
    · rename_i as st' htk
      replace h := ab_ifF h
      obtain ⟨h3, h⟩ := h
      replace h := ab_ifF h
      obtain ⟨h4, h⟩ := h
      replace h := ab_ifF h
      obtain ⟨h5, h6⟩ := h
      have hmk := ab_mkb_ok s4
      dsimp only at hmk s1 s2
      obtain ⟨rfl, hlen⟩ := ab_tk_ok htk
      by_cases hf2 : f = 2
      · rw [if_pos hf2] at s1
        simp only [Bool.and_eq_true, beq_iff_eq, decide_eq_true_eq] at s1
        obtain ⟨⟨s1a, s1b⟩, z⟩ := s1
        refine ab_callSN X hf hlo (by rw [hlen]; exact hmk) (host := RX7) (by rw [z, s1a, s1b]; exact X.2.2.2.2.2.1.2.2.2.2.2.2.1) (ab_wp_in s2) h3 h4 h5 hd h6 (fun v hi' hr' cn' hq => hk _ _ _ _ _ _ _ hq)
      · rw [if_neg hf2] at s1
        exact ab_callS X hf hlo (by rw [hlen]; exact hmk) (ab_wp_in s1) (ab_wp_in s2) h3 h4 h5 hd h6 (fun v hi' hr' cn' hq => hk _ _ _ _ _ _ _ hq)
    · exact h.elim
  | invokespecial idx =>
    simp only [ab_oks, Bool.and_eq_true, beq_iff_eq] at hs
    obtain ⟨rfl, s1⟩ := hs
    dsimp only [ab_v1] at h
    by_cases hf1 : f = 1
    · rw [if_pos hf1] at h s1
      rcases st with _ | ⟨x | _ | ⟨K, i⟩, st⟩
      all_goals first | exact h.elim | skip
      replace h := ab_ifF h
      obtain ⟨w0, h⟩ := h
      exact ab_objInit X (by omega) (by omega) (ab_wp_in s1) w0 hd (hk _ _ _ _ _ _ _ h)
    · rw [if_neg hf1] at h s1
      simp only [Bool.and_eq_true, decide_eq_true_eq] at s1
      obtain ⟨⟨⟨⟨s1, s2⟩, s3⟩, s5⟩, s4⟩ := s1
      split at h
      · rename_i as K i st' htk
        replace h := ab_ifF h
        obtain ⟨h3, h⟩ := h
        replace h := ab_ifF h
        obtain ⟨h4, h⟩ := h
        replace h := ab_ifF h
        obtain ⟨h5, h6⟩ := h
        have hmk := ab_mkb_ok s4
        dsimp only at hmk
        obtain ⟨rfl, hlen⟩ := ab_tk_ok htk
        by_cases hf2 : f = 2
        · rw [if_pos hf2] at s1
          simp only [Bool.and_eq_true, beq_iff_eq, decide_eq_true_eq] at s1
          obtain ⟨⟨s1a, s1b⟩, z⟩ := s1
          exact ab_callIN X hf hlo (by rw [hlen]; exact hmk) s3 s5 (host := RX7) (by rw [z, s1a, s1b]; exact X.2.2.2.2.2.1.2.2.2.2.2.1) (ab_wp_in s2) h3 h4 h5 hd h6 (fun v hi' hr' cn' hq => hk _ _ _ _ _ _ _ hq)
        · rw [if_neg hf2] at s1
          exact ab_callI X hf hlo (by rw [hlen]; exact hmk) s3 s5 (ab_wp_in s1) (ab_wp_in s2) h3 h4 h5 hd h6 (fun v hi' hr' cn' hq => hk _ _ _ _ _ _ _ hq)
      · exact h.elim
  | ireturn =>
    simp only [ab_oks, beq_iff_eq] at hs
    subst hs
    rcases st with _ | ⟨x | r, _ | ⟨v, st⟩⟩
    all_goals first | exact h.elim | skip
    dsimp only [ab_v1] at h
    by_cases z1 : rk = 1
    · rw [if_pos z1] at h
      exact hRI _ _ _ _ _ _ _ _ hd (fun z => by omega) (Or.inl z1) h
    · rw [if_neg z1] at h
      replace h := ab_ifF h
      exact hRI _ _ _ _ _ _ _ _ hd (fun _ => h.2.1) (Or.inr h.1) h.2.2
  | areturn =>
    simp only [ab_oks, beq_iff_eq] at hs
    subst hs
    rcases st with _ | ⟨x | r, _ | ⟨v, st⟩⟩
    all_goals first | exact h.elim | skip
    dsimp only [ab_v1] at h
    replace h := ab_ifF h
    exact hRA _ _ _ _ _ _ _ _ hd h.1 h.2
  | return_ =>
    simp only [ab_oks, beq_iff_eq] at hs
    subst hs
    rcases st with _ | ⟨v, st⟩
    all_goals first | exact h.elim | skip
    dsimp only [ab_v1] at h
    replace h := ab_ifF h
    exact hRV _ _ _ _ _ _ _ hd h.1 h.2
  | _ => exact h.elim
end ABV
