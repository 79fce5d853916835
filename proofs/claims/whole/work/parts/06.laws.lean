/-! THE ABSTRACT MACHINE'S STEPS ARE THE MACHINE'S -/
theorem ab_cat (ad : ab_A) (v : ab_V) : (ab_cv ad v).category = 1 := by
  rcases v with x | r
  · rfl
  · rcases r with _ | r <;> rfl
theorem ab_cat_sum (ad : ab_A) (st : List ab_V) : ((st.map (ab_cv ad)).map fun v => v.category).sum = st.length := by
  induction st with
  | nil => rfl
  | cons v st ih => simp only [List.map_cons, List.sum_cons, ih, ab_cat, List.length_cons]; omega
theorem ab_lv.mono {cn cn' : ab_C} (h : ∀ K, cn K ≤ cn' K) {v : ab_V} (hv : ab_lv cn v) : ab_lv cn' v := by
  rcases v with x | r
  · trivial
  · exact fun K i e => Nat.lt_of_lt_of_le (hv K i e) (h K)
theorem ab_cv.ext {ad ad' : ab_A} {cn : ab_C} (h : ∀ K i, i < cn K → ad' K i = ad K i) {v : ab_V} (hv : ab_lv cn v) : ab_cv ad' v = ab_cv ad v := by
  rcases v with x | r
  · rfl
  · rcases r with _ | ⟨K, i⟩
    · rfl
    · show va_rf (some (ad' K i)) = va_rf (some (ad K i))
      rw [h K i (hv K i rfl)]
theorem ab_ext.rf (ad : ab_A) (cn : ab_C) : ab_ext ad cn ad cn := ⟨fun _ _ _ => rfl, fun _ => Nat.le_refl _⟩
theorem ab_ext.tr {ad ad' ad'' : ab_A} {cn cn' cn'' : ab_C} (h : ab_ext ad cn ad' cn') (h' : ab_ext ad' cn' ad'' cn'') : ab_ext ad cn ad'' cn'' := ⟨fun K i hi => (h'.1 K i (Nat.lt_of_lt_of_le hi (h.2 K))).trans (h.1 K i hi), fun K => Nat.le_trans (h.2 K) (h'.2 K)⟩
theorem ab_lk_mem {L : ab_L} {i : Nat} {v : ab_V} (h : ab_lk L i = some v) : (i, v) ∈ L := by
  induction L with
  | nil => cases h
  | cons q L ih =>
    unfold ab_lk at h
    by_cases e : q.1 = i
    · rw [if_pos e] at h
      cases h
      subst e
      exact List.mem_cons_self
    · rw [if_neg e] at h
      exact List.mem_cons_of_mem _ (ih h)
theorem ab_st_mem {L : ab_L} {i : Nat} {v : ab_V} {q : Nat × ab_V} (h : q ∈ ab_st L i v) : q = (i, v) ∨ q ∈ L := by
  induction L with
  | nil => exact Or.inl (List.mem_singleton.mp h)
  | cons p L ih =>
    unfold ab_st at h
    by_cases e : p.1 = i
    · rw [if_pos e] at h
      rcases List.mem_cons.mp h with h | h
      · exact Or.inl h
      · exact Or.inr (List.mem_cons_of_mem _ h)
    · rw [if_neg e] at h
      rcases List.mem_cons.mp h with h | h
      · exact Or.inr (h ▸ List.mem_cons_self)
      · rcases ih h with h | h
        · exact Or.inl h
        · exact Or.inr (List.mem_cons_of_mem _ h)
/-- the keys of the locals are apart -/
def ab_kd (L : ab_L) : Prop := ∀ (i : Nat) (v w : ab_V), (i, v) ∈ L → (i, w) ∈ L → v = w
theorem ab_st_kd {L : ab_L} {i : Nat} {v : ab_V} {j : Nat} {w : ab_V} (hk : (L.map (·.1)).Nodup) (h : (j, w) ∈ ab_st L i v) : (j = i ∧ w = v) ∨ (j ≠ i ∧ (j, w) ∈ L) := by
  induction L with
  | nil =>
    have := List.mem_singleton.mp h
    cases this
    exact Or.inl ⟨rfl, rfl⟩
  | cons p L ih =>
    rw [List.map_cons, List.nodup_cons] at hk
    unfold ab_st at h
    by_cases e : p.1 = i
    · rw [if_pos e] at h
      rcases List.mem_cons.mp h with h | h
      · cases h
        exact Or.inl ⟨rfl, rfl⟩
      · refine Or.inr ⟨fun ej => hk.1 ?_, List.mem_cons_of_mem _ h⟩
        rw [e, ← ej]
        exact List.mem_map.mpr ⟨_, h, rfl⟩
    · rw [if_neg e] at h
      rcases List.mem_cons.mp h with h | h
      · subst h
        exact Or.inr ⟨e, List.mem_cons_self⟩
      · rcases ih hk.2 h with h | h
        · exact Or.inl h
        · exact Or.inr ⟨h.1, List.mem_cons_of_mem _ h.2⟩
theorem ab_st_nd {L : ab_L} {i : Nat} {v : ab_V} (hk : (L.map (·.1)).Nodup) : ((ab_st L i v).map (·.1)).Nodup := by
  induction L with
  | nil => simp [ab_st]
  | cons p L ih =>
    rw [List.map_cons, List.nodup_cons] at hk
    unfold ab_st
    by_cases e : p.1 = i
    · rw [if_pos e, List.map_cons, List.nodup_cons]
      exact ⟨by rw [← e]; exact hk.1, hk.2⟩
    · rw [if_neg e, List.map_cons, List.nodup_cons]
      refine ⟨fun h => ?_, ih hk.2⟩
      obtain ⟨q, hq, hq2⟩ := List.mem_map.mp h
      rcases ab_st_mem hq with h1 | h1
      · rw [h1] at hq2
        exact e hq2.symm
      · exact hk.1 (List.mem_map.mpr ⟨q, h1, hq2⟩)
/-- what stands of the frame at a place of the method -/
def ab_W (E : ab_E) (nL : Nat) (p : Program) (e : Env) (R : Room) (s : State) (m : MethodId) (args : Array Value) (below : List Frame) (meth : Method) (c : Code) (Fin : State → Prop) (ad0 : ab_A) (cn0 : ab_C) (TC TS : Nat) (pc : Nat) (L : ab_L) (st : List ab_V) (hi : ab_I) (hr : ab_R) (cn : ab_C) (ck cs : Nat) : Prop :=
  ∀ (ad : ab_A) (H : Heap) (locs : List Loc) (ls : Array Slot) (cells slots : Nat), ab_Rp E ad hi hr cn H → (L.map (·.1)).Nodup → (∀ q ∈ L, ab_lv cn q.2) → (∀ v ∈ st, ab_lv cn v) → lv_has ls nL (L.map (fun q => (q.1, ab_cv ad q.2))) → va_S (fun q => ab_lo E ≤ q) s.heap H locs → cells + ck ≤ TC → slots + cs ≤ TS → ab_ext ad0 cn0 ad cn →
    W p (ab_l E) e R s m args below meth c H locs cells slots Fin (F0 m pc ls (st.map (ab_cv ad)))
def ab_X (E : ab_E) (own : String) (cc : ByteArray) (nL : Nat) (p : Program) (R : Room) (s : State) (m : MethodId) (args : Array Value) (c : Code) (TC TS : Nat) : Prop :=
  p.tables.exec = Jvm.exec ∧ c.code = cc ∧ c.maxLocals = nL ∧ s.vm.findClass own = some m.cls ∧ (∀ w ∈ ab_ALL, w.before args s = true) ∧ ab_K E s s.heap ∧ TC ≤ R.cells ∧ TS ≤ R.slots
section ABL
variable {E : ab_E} {own : String} {cc : ByteArray} {nL : Nat} {p : Program} {e : Env} {R : Room} {s : State} {m : MethodId} {args : Array Value} {below : List Frame} {meth : Method} {c : Code} {Fin : State → Prop} {ad0 : ab_A} {cn0 : ab_C} {TC TS pc pc' : Nat} {L : ab_L} {st st' : List ab_V} {hi : ab_I} {hr : ab_R} {cn : ab_C} {ck cs : Nat}
theorem ab_lv_cons {cn : ab_C} {v : ab_V} {st : List ab_V} (hv : ab_lv cn v) (h : ∀ w ∈ st, ab_lv cn w) : ∀ w ∈ v :: st, ab_lv cn w := fun w hw => (List.mem_cons.mp hw).elim (fun e => e ▸ hv) (h w)
/-- an instruction that moves the stack alone -/
theorem ab_pure (hv : (∀ q ∈ L, ab_lv cn q.2) → (∀ v ∈ st, ab_lv cn v) → ∀ v ∈ st', ab_lv cn v)
    (h : ∀ (ad : ab_A) (H : Heap) (locs : List Loc) (ls : Array Slot) (cells slots : Nat), lv_has ls nL (L.map (fun q => (q.1, ab_cv ad q.2))) → W p (ab_l E) e R s m args below meth c H locs cells slots Fin (F0 m pc' ls (st'.map (ab_cv ad))) → W p (ab_l E) e R s m args below meth c H locs cells slots Fin (F0 m pc ls (st.map (ab_cv ad))))
    (k : ab_W E nL p e R s m args below meth c Fin ad0 cn0 TC TS pc' L st' hi hr cn ck cs) : ab_W E nL p e R s m args below meth c Fin ad0 cn0 TC TS pc L st hi hr cn ck cs := by
  intro ad H locs ls cells slots hR hN hL hst hl hS hc hs hx
  exact h ad H locs ls cells slots hl (k ad H locs ls cells slots hR hN hL (hv hL hst) hl hS hc hs hx)
theorem ab_lv_at {ls : Array Slot} {ad : ab_A} {i : Nat} {v : ab_V} (hl : lv_has ls nL (L.map (fun q => (q.1, ab_cv ad q.2)))) (h : ab_lk L i = some v) : ls[i]? = some (.val (ab_cv ad v)) := hl.2.2 (i, ab_cv ad v) (List.mem_map.mpr ⟨(i, v), ab_lk_mem h, rfl⟩)
theorem ab_lk_lv {i : Nat} {v : ab_V} (h : ab_lk L i = some v) (hL : ∀ q ∈ L, ab_lv cn q.2) : ab_lv cn v := hL _ (ab_lk_mem h)
/-- storing: the new locals -/
theorem ab_lv_st {ls' : Array Slot} {ad : ab_A} {i : Nat} {v : ab_V} (hN : (L.map (·.1)).Nodup) (h : lv_has ls' nL ((i, ab_cv ad v) :: (L.map (fun q => (q.1, ab_cv ad q.2))).filter (fun q => !(q.1 == i) && !(q.1 + 1 == i && q.2.category == 2)))) : lv_has ls' nL ((ab_st L i v).map (fun q => (q.1, ab_cv ad q.2))) := by
  refine ⟨h.1, h.2.1, fun q hq => ?_⟩
  obtain ⟨⟨j, w⟩, h1, rfl⟩ := List.mem_map.mp hq
  refine h.2.2 _ ?_
  rcases ab_st_kd hN h1 with ⟨rfl, rfl⟩ | ⟨h2, h3⟩
  · exact List.mem_cons_self
  · refine List.mem_cons_of_mem _ (List.mem_filter.mpr ⟨List.mem_map.mpr ⟨_, h3, rfl⟩, ?_⟩)
    simp [h2, ab_cat]
theorem ab_st_lv {i : Nat} {v : ab_V} (hv : ab_lv cn v) (hL : ∀ q ∈ L, ab_lv cn q.2) : ∀ q ∈ ab_st L i v, ab_lv cn q.2 := fun q hq => (ab_st_mem hq).elim (fun e => by rw [e]; exact hv) (hL q)
/-- an instruction that stores the top in a local -/
theorem ab_store {i : Nat} {v : ab_V}
    (h : ∀ (ad : ab_A) (H : Heap) (locs : List Loc) (ls : Array Slot) (cells slots : Nat), lv_has ls nL (L.map (fun q => (q.1, ab_cv ad q.2))) → (∀ ls' : Array Slot, lv_has ls' nL ((i, ab_cv ad v) :: (L.map (fun q => (q.1, ab_cv ad q.2))).filter (fun q => !(q.1 == i) && !(q.1 + 1 == i && q.2.category == 2))) → W p (ab_l E) e R s m args below meth c H locs cells slots Fin (F0 m pc' ls' (st'.map (ab_cv ad)))) → W p (ab_l E) e R s m args below meth c H locs cells slots Fin (F0 m pc ls (st.map (ab_cv ad))))
    (hst' : (∀ q ∈ L, ab_lv cn q.2) → (∀ w ∈ st, ab_lv cn w) → ab_lv cn v ∧ ∀ w ∈ st', ab_lv cn w)
    (k : ab_W E nL p e R s m args below meth c Fin ad0 cn0 TC TS pc' (ab_st L i v) st' hi hr cn ck cs) : ab_W E nL p e R s m args below meth c Fin ad0 cn0 TC TS pc L st hi hr cn ck cs := by
  intro ad H locs ls cells slots hR hN hL hst hl hS hc hs hx
  refine h ad H locs ls cells slots hl (fun ls' hl' => ?_)
  exact k ad H locs ls' cells slots hR (ab_st_nd hN) (ab_st_lv (hst' hL hst).1 hL) (hst' hL hst).2 (ab_lv_st hN hl') hS hc hs hx
/-- fewer locals -/
theorem ab_drop {L' : ab_L} (hs : L'.Sublist L) (k : ab_W E nL p e R s m args below meth c Fin ad0 cn0 TC TS pc L' st hi hr cn ck cs) : ab_W E nL p e R s m args below meth c Fin ad0 cn0 TC TS pc L st hi hr cn ck cs := by
  intro ad H locs ls cells slots hR hN hL hst hl hS hc hs' hx
  exact k ad H locs ls cells slots hR ((hs.map _).nodup hN) (fun q hq => hL q (hs.subset hq)) hst ⟨hl.1, hl.2.1, fun q hq => hl.2.2 q ((hs.map _).subset hq)⟩ hS hc hs' hx
/-- less to be made -/
theorem ab_less {ck' cs' : Nat} (h1 : ck' ≤ ck) (h2 : cs' ≤ cs) (k : ab_W E nL p e R s m args below meth c Fin ad0 cn0 TC TS pc L st hi hr cn ck' cs') : ab_W E nL p e R s m args below meth c Fin ad0 cn0 TC TS pc L st hi hr cn ck cs := by
  intro ad H locs ls cells slots hR hN hL hst hl hS hc hs' hx
  exact k ad H locs ls cells slots hR hN hL hst hl hS (by omega) (by omega) hx
end ABL
