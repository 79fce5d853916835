/-! A METHOD OUT OF ITS ROWS -/
def ab_seg (own : String) (nL : Nat) (ini : Bool) (cc : ByteArray) : Nat → List ab_P → Bool
  | _, [] => true
  | pc, q :: qs => ab_okb own nL ini cc pc q && ab_seg own nL ini cc (pc + q.2.1) qs
/-- what a method answers, by its mark -/
def ab_rko (r : Option FieldType) (rk : Nat) : Bool := match r with
  | none => rk == 0
  | some .int => rk == 1
  | some .boolean => rk == 2
  | some (.object _) => rk == 3
  | some (.array _) => rk == 3
  | _ => false
def ab_code (M : ab_M) (g : ab_G) : Bool := plainName M.1.cls && ab_rko M.2.2.2.1 M.2.2.2.2 && g.all (fun x => ab_seg M.1.cls M.2.2.1 (decide (M.1.name = "<init>")) M.2.1 x.1 x.2)
theorem ab_at_ok {own : String} {nL : Nat} {ini : Bool} {cc : ByteArray} : ∀ {g : ab_G}, g.all (fun x => ab_seg own nL ini cc x.1 x.2) = true → ∀ pc, ab_seg own nL ini cc pc (ab_at g pc) = true
  | [], _, _ => rfl
  | x :: xs, h, pc => by
    rw [List.all_cons, Bool.and_eq_true] at h
    unfold ab_at
    by_cases e : x.1 = pc
    · rw [if_pos e, ← e]
      exact h.1
    · rw [if_neg e]
      exact ab_at_ok h.2 pc
theorem ab_en_map (ad : ab_A) : ∀ (i : Nat) (as : List ab_V), (ab_en i as).map (fun q => (q.1, ab_cv ad q.2)) = lv_args i (as.map (ab_cv ad))
  | _, [] => rfl
  | i, v :: vs => by
    show (i, ab_cv ad v) :: _ = (i, ab_cv ad v) :: lv_args (if (ab_cv ad v).category = 2 then i + 2 else i + 1) (vs.map (ab_cv ad))
    rw [ab_cat, if_neg (by decide), ← ab_en_map ad (i + 1) vs]
theorem ab_en_key : ∀ (i : Nat) (as : List ab_V) (q : Nat × ab_V), q ∈ ab_en i as → i ≤ q.1 ∧ q.2 ∈ as
  | _, [], _, h => by cases h
  | i, v :: vs, q, h => by
    rcases List.mem_cons.mp h with rfl | h
    · exact ⟨Nat.le_refl _, List.mem_cons_self⟩
    · obtain ⟨h1, h2⟩ := ab_en_key (i + 1) vs q h
      exact ⟨by omega, List.mem_cons_of_mem _ h2⟩
theorem ab_en_nd : ∀ (i : Nat) (as : List ab_V), ((ab_en i as).map (·.1)).Nodup
  | _, [] => List.nodup_nil
  | i, v :: vs => by
    show (i :: (ab_en (i + 1) vs).map (·.1)).Nodup
    rw [List.nodup_cons]
    refine ⟨fun h => ?_, ab_en_nd (i + 1) vs⟩
    obtain ⟨q, h1, h2⟩ := List.mem_map.mp h
    have := (ab_en_key (i + 1) vs q h1).1
    omega
theorem ab_sl_len (ad : ab_A) : ∀ as : List ab_V, (lg_sl (as.map (ab_cv ad))).length = as.length
  | [] => rfl
  | v :: vs => by
    have := ab_sl_len ad vs
    unfold lg_sl at this ⊢
    rw [List.map_cons, List.flatMap_cons, ab_cat, if_neg (by decide), List.length_append, this]
    show 1 + vs.length = vs.length + 1
    omega
section ABM
variable {E : ab_E} {own : String} {cc : ByteArray} {nL : Nat} {p : Program} {e : Env} {R : Room} {s : State} {m : MethodId} {args : Array Value} {below : List Frame} {meth : Method} {c : Code} {Fin : State → Prop} {ad0 : ab_A} {cn0 : ab_C} {TC TS : Nat}
theorem ab_vc_sound (X : ab_X E own cc nL p R s m args c TC TS) {d rk : Nat} {ini : Bool} (hf : d + 2 ≤ R.frames) (hlo : 40 * d + 80 ≤ R.locals) (hini : ini = true → meth.name = "<init>") (hnb : ab_n E < 2 ^ 31) {Q : ab_Q} {J : ab_J}
    (hJ : ∀ pc L st hi hr cn ck cs, J pc L st hi hr cn ck cs → ab_W E nL p e R s m args below meth c Fin ad0 cn0 TC TS pc L st hi hr cn ck cs)
    (hRI : ∀ pc L hi hr cn ck cs x, decode cc pc = .ok (.ireturn, 1) → (rk = 2 → x = 0 ∨ x = 1) → (rk = 1 ∨ rk = 2) → Q (some (.inl x)) hi hr cn → ab_W E nL p e R s m args below meth c Fin ad0 cn0 TC TS pc L [.inl x] hi hr cn ck cs)
    (hRA : ∀ pc L hi hr cn ck cs r, decode cc pc = .ok (.areturn, 1) → rk = 3 → Q (some (.inr r)) hi hr cn → ab_W E nL p e R s m args below meth c Fin ad0 cn0 TC TS pc L [.inr r] hi hr cn ck cs)
    (hRV : ∀ pc L hi hr cn ck cs, decode cc pc = .ok (.return_, 1) → rk = 0 → Q none hi hr cn → ab_W E nL p e R s m args below meth c Fin ad0 cn0 TC TS pc L [] hi hr cn ck cs) :
    ∀ (qs : List ab_P) (pc : Nat) (L : ab_L) (st : List ab_V) (hi : ab_I) (hr : ab_R) (cn : ab_C) (ck cs : Nat), ab_seg own nL ini cc pc qs = true → ab_vc E d rk Q J qs pc L st hi hr cn ck cs → ab_W E nL p e R s m args below meth c Fin ad0 cn0 TC TS pc L st hi hr cn ck cs
  | [], pc, L, st, hi, hr, cn, ck, cs, _, h => hJ pc L st hi hr cn ck cs h
  | q :: qs, pc, L, st, hi, hr, cn, ck, cs, hs, h => by
    unfold ab_seg at hs
    rw [Bool.and_eq_true] at hs
    exact ab_v1_sound X hf hlo hini hnb hJ hRI hRA hRV q L st hi hr cn ck cs _ hs.1 (fun L st hi hr cn ck cs hk => ab_vc_sound X hf hlo hini hnb hJ hRI hRA hRV qs (pc + q.2.1) L st hi hr cn ck cs hs.2 hk) h
end ABM
/-- THE METHOD'S LAW: J is any picture of its places that is closed under its rows -/
theorem ab_Wm_of {E : ab_E} {d y : Nat} {as : List ab_V} {hi : ab_I} {hr : ab_R} {cn : ab_C} {Q : ab_Q} (g : ab_G) (hg : ab_code (ab_mt y) g = true) (rk : Nat) (hrk0 : (ab_mt y).2.2.2.2 = rk) (hcode : Nat.ble as.length (ab_mt y).2.2.1 = true) (hnb : ab_n E < 2 ^ 31)
    (h : ∀ J : ab_J, (∀ pc L st hi hr cn ck cs, ab_vc E d rk Q J (ab_at g pc) pc L st hi hr cn ck cs → J pc L st hi hr cn ck cs) → (∀ pc L L' st hi hr cn ck cs, L'.Sublist L → J pc L' st hi hr cn ck cs → J pc L st hi hr cn ck cs) → (∀ pc L st hi hr cn ck cs ck' cs', ck' ≤ ck → cs' ≤ cs → J pc L st hi hr cn ck' cs' → J pc L st hi hr cn ck cs) → J 0 (ab_en 0 as) [] hi hr cn (ab_mc y) (ab_mS y)) :
    ab_Wm E (d + 1) y as hi hr cn Q := by
  intro ad
  subst hrk0
  have hcode := Nat.le_of_ble_eq_true hcode
  unfold ab_code at hg
  rw [Bool.and_eq_true, Bool.and_eq_true] at hg
  obtain ⟨⟨hpl, hrk⟩, hall⟩ := hg
  refine Met.ofW (cc := (ab_mt y).2.1) (maxL := (ab_mt y).2.2.1) (ret := (ab_mt y).2.2.2.1) hpl rfl ?_
  intro p e s m args below meth c s₁ B hml hv
  obtain ⟨rfl, hR, hK, has⟩ := hv
  have hx := B.exec
  have hb := B.bytes
  have hret := B.returns
  have hts0 := atoms_spec (ws := ab_ws (ab_mt y)) B.pre
  have hts : ∀ w ∈ ab_ALL, w.before (as.map (ab_cv ad)).toArray s = true := fun w hw => hts0 w (List.mem_cons_of_mem _ hw)
  have hown : s.vm.findClass (ab_mt y).1.cls = some m.cls := findClass_of_methodNamed B.named
  have hlocks := B.notSynchronized
  have hini : decide ((ab_mt y).1.name = "<init>") = true → meth.name = "<init>" := fun q => by
    rw [← of_decide_eq_true q]
    exact (name_of_methodNamed B.named B.method).1
  have X : ab_X E (ab_mt y).1.cls (ab_mt y).2.1 (ab_mt y).2.2.1 p (headSpec (ab_ws (ab_mt y)) (ab_rm (d + 1) (ab_mc y) (ab_mS y))).room s m (as.map (ab_cv ad)).toArray c (ab_mc y) (ab_mS y) := ⟨hx, hb, hml, hown, hts, hK, Nat.le_refl _, Nat.le_refl _⟩
  have hl := lv_entry (as.map (ab_cv ad)) (n := (ab_mt y).2.2.1) (by rw [ab_sl_len]; exact hcode)
  rw [lg_entry_eq]
  generalize (lg_sl (as.map (ab_cv ad)) ++ List.replicate ((ab_mt y).2.2.1 - (lg_sl (as.map (ab_cv ad))).length) Slot.unset).toArray = ls at hl ⊢
  rw [← ab_en_map] at hl
  have post : ∀ (ad1 : ab_A) (hi1 : ab_I) (hr1 : ab_R) (cn1 : ab_C) (v : Option ab_V) (H : Heap) (locs : List Loc), ab_Rp E ad1 hi1 hr1 cn1 H → ab_ext ad cn ad1 cn1 → (∀ w, v = some w → ab_lv cn1 w) → va_S (fun q => ab_lo E ≤ q) s.heap H locs → Q v hi1 hr1 cn1 → ∀ t : State, t.heap = H → s.WarmedH t.vm → ab_Qc E ad cn Q (as.map (ab_cv ad)).toArray s (.returned (v.map (ab_cv ad1))) t := by
    intro ad1 hi1 hr1 cn1 v H locs q1 q2 q3 q4 q5 t ht _
    exact ⟨⟨v, hi1, hr1, cn1, ad1, rfl, q5, by rw [ht]; exact q1, q2, q3⟩, q4.F ht⟩
  have key := h (ab_W E (ab_mt y).2.2.1 p e (headSpec (ab_ws (ab_mt y)) (ab_rm (d + 1) (ab_mc y) (ab_mS y))).room s m (as.map (ab_cv ad)).toArray below meth c (MQ below (ab_Qc E ad cn Q) (as.map (ab_cv ad)).toArray s (ab_mc y) (ab_mS y) (fun q => ab_lo E ≤ q)) ad cn (ab_mc y) (ab_mS y)) (fun pc L st hi hr cn ck cs hv => ?_) (fun pc L L' st hi hr cn ck cs hs k => ab_drop hs k) (fun pc L st hi hr cn ck cs ck' cs' h1 h2 k => ab_less h1 h2 k)
  · exact key ad s.heap [] ls 0 0 hR (ab_en_nd 0 as) (fun q hq => has _ (ab_en_key 0 as q hq).2) (fun v hv => by cases hv) hl va_S.rf (by omega) (by omega) (ab_ext.rf ad cn)
  · refine ab_vc_sound X (d := d) (rk := (ab_mt y).2.2.2.2) (by show d + 2 ≤ d + 1 + 1; omega) (by show 40 * d + 80 ≤ 40 * (d + 1) + 40; omega) hini hnb (fun _ _ _ _ _ _ _ _ k => k) ?_ ?_ ?_ (ab_at g pc) pc L st hi hr cn ck cs (ab_at_ok hall pc) hv
    · intro pc L hi1 hr1 cn1 ck cs x hd h2 h12 hq ad1 H locs ls cells slots g1 g2 g3 g4 g5 g6 g7 g8 g9
      refine W.widen (k := ab_mc y) (n := ab_mS y) (by omega) (by omega) ?_
      rcases h12 with e1 | e2
      · have hr0 : (ab_mt y).2.2.2.1 = some .int := by
          unfold ab_rko at hrk
          rw [e1] at hrk
          split at hrk <;> simp_all
        exact W.iret hx hb (hret.trans hr0) (post ad1 hi1 hr1 cn1 (some (.inl x)) H locs g1 g9 (fun w q => by cases q; trivial) g6 hq) g6.2.2 hd
      · have hr0 : (ab_mt y).2.2.2.1 = some .boolean := by
          unfold ab_rko at hrk
          rw [e2] at hrk
          split at hrk <;> simp_all
        exact W.zret hx hb (hret.trans hr0) (by rcases h2 e2 with rfl | rfl <;> rfl) (post ad1 hi1 hr1 cn1 (some (.inl x)) H locs g1 g9 (fun w q => by cases q; trivial) g6 hq) g6.2.2 hd
    · intro pc L hi1 hr1 cn1 ck cs r hd h3 hq ad1 H locs ls cells slots g1 g2 g3 g4 g5 g6 g7 g8 g9
      refine W.widen (k := ab_mc y) (n := ab_mS y) (by omega) (by omega) ?_
      have hr0 : ∃ rt, (ab_mt y).2.2.2.1 = some rt ∧ ((∃ n, rt = .object n) ∨ ∃ t, rt = .array t) := by
        unfold ab_rko at hrk
        rw [h3] at hrk
        split at hrk <;> simp_all
      obtain ⟨rt, hr1', hr2⟩ := hr0
      refine W.aret hx hb (hret.trans hr1') hr2 ?_ (post ad1 hi1 hr1 cn1 (some (.inr r)) H locs g1 g9 (fun w q => by cases q; exact g4 _ List.mem_cons_self) g6 hq) g6.2.2 hd
      rcases r with _ | r
      · exact Or.inl rfl
      · exact Or.inr ⟨_, rfl⟩
    · intro pc L hi1 hr1 cn1 ck cs hd h0 hq ad1 H locs ls cells slots g1 g2 g3 g4 g5 g6 g7 g8 g9
      refine W.widen (k := ab_mc y) (n := ab_mS y) (by omega) (by omega) ?_
      have hr0 : (ab_mt y).2.2.2.1 = none := by
        unfold ab_rko at hrk
        rw [h0] at hrk
        split at hrk <;> simp_all
      exact W.vret hx hb (hret.trans hr0) (post ad1 hi1 hr1 cn1 none H locs g1 g9 (fun w q => by cases q) g6 hq) g6.2.2 hd
