/-! THE ABSTRACT MACHINE: values are ints and references to cells (kind, number); the heap is two functions (ints, references) of kind, number and place, and how many cells of each kind there are -/
abbrev ab_V : Type := Int32 ⊕ Option (Nat × Nat)
abbrev ab_I : Type := Nat → Nat → Nat → Int32
abbrev ab_R : Type := Nat → Nat → Nat → Option (Nat × Nat)
abbrev ab_C : Type := Nat → Nat
abbrev ab_A : Type := Nat → Nat → Nat
abbrev ab_L : Type := List (Nat × ab_V)
/-- launch, class numbers, array classes, the heap's size at the law's start, the script's cell, its length, its ints, the cell of ArrayList's empty array -/
abbrev ab_E : Type := Launch × va_G × (Nat → ClassId) × Nat × Nat × Nat × (Nat → Int32) × Nat
abbrev ab_l (E : ab_E) : Launch := E.1
abbrev ab_D (E : ab_E) : va_G := E.2.1
abbrev ab_cy (E : ab_E) : Nat → ClassId := E.2.2.1
abbrev ab_lo (E : ab_E) : Nat := E.2.2.2.1
abbrev ab_b (E : ab_E) : Nat := E.2.2.2.2.1
abbrev ab_n (E : ab_E) : Nat := E.2.2.2.2.2.1
abbrev ab_xs (E : ab_E) : Nat → Int32 := E.2.2.2.2.2.2.1
abbrev ab_ea (E : ab_E) : Nat := E.2.2.2.2.2.2.2
/-- the lengths of a list's arrays, one after another -/
def ab_cap : Nat → Nat
  | 0 => 10
  | n + 1 => ab_cap n + ab_cap n / 2
/-- what a kind is: 0 an object, 1 ints, 2 Choices, 3 Wishes, 4 Objects, 5 rows of ints -/
def ab_tg (K : Nat) : Nat := if K < 10 then 0 else if K < 14 then 1 else if K = 14 then 2 else if K = 15 then 3 else if K = 16 then 5 else if K < 21 then 4 else if K = 31 then 5 else if K = 32 then 5 else if K = 52 then 5 else if K = 73 then 5 else 1
def ab_len (K i : Nat) : Nat := if K = 10 then 10 else if K = 11 then 20 else if K < 17 then 4 else if K < 21 then ab_cap i else if K = 31 then 4 else if K = 32 then 60 else if K = 34 then 7 else if K < 40 then 20 else if K < 52 then 40 else if K = 52 then 20 else if K < 60 then 200 else if K < 65 then 300 else if K = 65 then 10 else if K < 82 then 4 else if K = 82 then 7 else if K = 102 then 40 else 20
def ab_ty (K : Nat) : Nat → FieldType := match K with
  | 0 => tyJx4a65c
  | 1 => tyX0
  | 2 => tyX1
  | 3 => tyX2
  | 4 => tyX3
  | 5 => tyX4
  | 6 => tyX5
  | 7 => tyX6
  | 8 => tyX7
  | _ => tyX8
def ab_T (K : Nat) : u_T := match K with
  | 0 => TJx4a65c
  | 1 => TX0
  | 2 => TX1
  | 3 => TX2
  | 4 => TX3
  | 5 => TX4
  | 6 => TX5
  | 7 => TX6
  | 8 => TX7
  | _ => TX8
def ab_N (K : Nat) : String := match K with
  | 0 => RJx4a65c
  | 1 => RX0
  | 2 => RX1
  | 3 => RX2
  | 4 => RX3
  | 5 => RX4
  | 6 => RX5
  | 7 => RX6
  | 8 => RX7
  | _ => RX8
def ab_nf (K : Nat) : Nat := match K with
  | 0 => 3
  | 1 => 6
  | 2 => 8
  | 3 => 3
  | 4 => 5
  | 5 => 7
  | 6 => 7
  | 7 => 16
  | 8 => 13
  | _ => 47
theorem ab_lt10 {P : Nat → Prop} (h0 : P 0) (h1 : P 1) (h2 : P 2) (h3 : P 3) (h4 : P 4) (h5 : P 5) (h6 : P 6) (h7 : P 7) (h8 : P 8) (h9 : P 9) {K : Nat} (h : K < 10) : P K := by
  rcases (show K = 0 ∨ K = 1 ∨ K = 2 ∨ K = 3 ∨ K = 4 ∨ K = 5 ∨ K = 6 ∨ K = 7 ∨ K = 8 ∨ K = 9 by omega) with rfl | rfl | rfl | rfl | rfl | rfl | rfl | rfl | rfl | rfl <;> assumption
theorem ab_cl {K : Nat} (h : K < 10) : vwCl[K]? = some (ab_N K, ab_T K, ab_nf K) := ab_lt10 (P := fun K => vwCl[K]? = some (ab_N K, ab_T K, ab_nf K)) rfl rfl rfl rfl rfl rfl rfl rfl rfl rfl h
theorem ab_ty_ok {K : Nat} (h : K < 10) : ∀ k, k < ab_nf K → parseFieldDescriptor (ab_T K k).2.2.1 = some (ab_ty K k) := ab_lt10 (P := fun K => ∀ k, k < ab_nf K → parseFieldDescriptor (ab_T K k).2.2.1 = some (ab_ty K k)) tyJx4a65c_ok tyX0_ok tyX1_ok tyX2_ok tyX3_ok tyX4_ok tyX5_ok tyX6_ok tyX7_ok tyX8_ok h
theorem ab_nm {K : Nat} (h : K < 10) : ∀ a, a < ab_nf K → ∀ b, b < ab_nf K → a ≠ b → (ab_T K a).2.1 ≠ (ab_T K b).2.1 := ab_lt10 (P := fun K => ∀ a, a < ab_nf K → ∀ b, b < ab_nf K → a ≠ b → (ab_T K a).2.1 ≠ (ab_T K b).2.1) nmJx4a65c nmX0 nmX1 nmX2 nmX3 nmX4 nmX5 nmX6 nmX7 nmX8 h
/-- an int (or a boolean) is held at this place of the kind -/
def ab_fi (K j : Nat) : Bool := match ab_ty K j with
  | .int => true
  | .boolean => true
  | _ => false
def ab_ar (ad : ab_A) (r : Option (Nat × Nat)) : Option Nat := r.map (fun a => ad a.1 a.2)
def ab_cv (ad : ab_A) : ab_V → Value
  | .inl x => .int x
  | .inr r => va_rf (ab_ar ad r)
def ab_lv (cn : ab_C) : ab_V → Prop
  | .inl _ => True
  | .inr r => ∀ K i, r = some (K, i) → i < cn K
def ab_fv (ad : ab_A) (hi : ab_I) (hr : ab_R) (K i j : Nat) : Value := if ab_fi K j = true then .int (hi K i j) else va_rf (ab_ar ad (hr K i j))
def ab_fs (ad : ab_A) (hi : ab_I) (hr : ab_R) (K i : Nat) : List Value := (List.range (ab_nf K)).map (ab_fv ad hi hr K i)
/-- the cell (K, i) as it lies in the heap -/
def ab_cE (E : ab_E) (ad : ab_A) (hi : ab_I) (hr : ab_R) (K i : Nat) : va_E :=
  if K < 10 then .inr (K, ab_fs ad hi hr K i)
  else if ab_tg K = 1 then .inl (ab_cy E 1, ab_len K i, .inl (hi K i))
  else .inl (ab_cy E (ab_tg K), ab_len K i, .inr (.inr (.inr (.inr (fun j => if j < ab_len K i then ab_ar ad (hr K i j) else none)))))
/-- how many places a cell has -/
def ab_pl (K i : Nat) : Nat := if K < 10 then ab_nf K else ab_len K i
abbrev ab_tys (E : ab_E) : List (ClassId × FieldType) := [(ab_cy E 1, .int), (ab_cy E 2, .object RX0), (ab_cy E 3, .object RX5), (ab_cy E 4, .object "java/lang/Object"), (ab_cy E 5, .array .int)]
/-- the heap holds the abstract heap: every cell that is there lies at an address of its own, none below the law's start; references go to cells that are there -/
def ab_Rp (E : ab_E) (ad : ab_A) (hi : ab_I) (hr : ab_R) (cn : ab_C) (H : Heap) : Prop :=
  ∃ ws : va_W, va_P (ab_D E) vwCl ws H ∧ va_D (fun q => ab_lo E ≤ q) ws ∧
    (∀ K i, i < cn K → K < 200 → ∃ q : Nat, ws[q]? = some (ad K i, ab_cE E ad hi hr K i)) ∧
    (∀ K i K' i', i < cn K → i' < cn K' → K < 201 → K' < 201 → ad K i = ad K' i' → K = K' ∧ i = i') ∧
    (∀ K i, i < cn K → ∀ j, j < ab_pl K i → ∀ K' i', hr K i j = some (K', i') → i' < cn K') ∧
    ad 200 0 = ab_ea E ∧ ad 201 0 = ab_b E ∧ cn 200 = 1 ∧ cn 201 = 1 ∧ ab_ea E < ab_lo E ∧ ∀ K, 201 < K → cn K = 0
/-- the words that hold, and stay -/
def ab_ALL : List Cond := lw_tbl.filter goodWord
theorem ab_all_in {w : Cond} (h : w ∈ lw_tbl) (hg : goodWord w = true) : w ∈ ab_ALL := List.mem_filter.mpr ⟨h, hg⟩
theorem ab_all_good {ws : List Cond} (h : ∀ w ∈ ws, w ∈ ab_ALL) {big : List Cond} (hb : ∀ w ∈ ab_ALL, w ∈ big) : GoodIn big ws := fun w hw => ⟨hb w (h w hw), good_of_word (List.mem_filter.mp (h w hw)).2⟩
theorem ab_AOA_moved {u U : State} (hvm : u.vm.Alike U.vm) (h : va_AOA .int u) : va_AOA .int U := by
  unfold va_AOA Cond.before at h
  simp only [Cond.holds, Cond.value, beq_iff_eq] at h
  cases hc : u.vm.findClass (FieldType.array .int).toString with
  | none => simp [hc] at h
  | some comp =>
    simp only [hc, Option.bind_some, Option.bind_eq_some_iff, Option.map_eq_some_iff] at h
    obtain ⟨c, h2, k, h3, h4⟩ := h
    obtain ⟨k', hk', he⟩ := hvm.2.2 _ _ h3
    have hi : (U.vm.classes.findIdx? fun (x : Class) => match x.kind with | .array component _ => component == comp | _ => false) = some c := by
      have e1 := va_idx_bare U.vm comp
      have e2 : U.vm.bare = u.vm.bare := by first | exact hvm.bare_eq | exact hvm.bare_eq.symm
      rw [e2] at e1
      exact e1.symm.trans ((va_idx_bare u.vm comp).trans h2)
    have hkk : k'.kind = k.kind := by rw [he]
    have f1 : U.vm.findClass (FieldType.array .int).toString = some comp := by rw [hvm.findClass]; exact hc
    have f2 : U.vm.findClass ("[" ++ (FieldType.array .int).toString) = u.vm.findClass ("[" ++ (FieldType.array .int).toString) := by rw [hvm.findClass]
    unfold va_AOA Cond.before Cond.holds
    simp only [Cond.value]
    rw [f1, Option.bind_some]
    refine (congrArg (fun o : Option Nat => (o.bind (fun c => (U.vm.classes[c]?).map fun (k : Class) => match k.kind with | .array _ ty => decide (ty = FieldType.array .int) && decide (U.vm.findClass ("[" ++ (FieldType.array .int).toString) = some c) | _ => false) == some true)) hi).trans ?_
    simp only [Option.bind_some, hk', Option.map_some, hkk, f2]
    exact (congrArg (fun b : Bool => (some b == some true)) h4).trans rfl
/-- what the tables and the cells from before the law's start say -/
def ab_K (E : ab_E) (U : State) (H : Heap) : Prop :=
  va_K (ab_D E) vwCl (ab_tys E) U ∧ va_X (ab_b E) (ab_n E) (ab_xs E) U H ∧ ab_b E < ab_lo E ∧
  va_Z "java/util/ArrayList" "DEFAULTCAPACITY_EMPTY_ELEMENTDATA" "[Ljava/lang/Object;" (.ref (ab_ea E)) (fun q => ab_lo E ≤ q) U H ∧
  va_T (.object "java/lang/Object") (ab_ea E) 0 (fun _ => .null) (fun q => ab_lo E ≤ q) U H ∧
  va_Nw (.methodLinkNest RX3 31 yX0_init RX7) U ∧ va_Nw (.methodLinkNest RX4 34 yX7_within RX7) U ∧
  va_AO RX0 U ∧ va_AO RX5 U ∧ va_AO "java/lang/Object" U ∧
  ((∀ K, K < 10 → va_Nw (.castable (ab_N K) "java/lang/Object") U) ∧ va_AOA .int U ∧ (∃ mi : Nat, va_Mi "[Ljava/lang/Object;" mi U) ∧ va_Dc U) ∧ ab_lo E ≤ H.size
theorem ab_K.step {E : ab_E} {s U : State} {H : Heap} (h : ab_K E s s.heap) (hW : s.WarmedH U.vm) {locs : List Loc} (hS : va_S (fun q => ab_lo E ≤ q) s.heap H locs) : ab_K E U H := by
  obtain ⟨h1, h2, h3, h4, h5, h6, h7, h8, h9, h10, h11, h12⟩ := h
  have hq : ∀ a : Nat, a < s.heap.size → ¬ ab_lo E ≤ a → H[a]? = s.heap[a]? := hS.2.1
  exact ⟨h1.moved hW.alike, (h2.kept (hq _ (Nat.lt_of_lt_of_le h3 h12) (Nat.not_le.mpr h3))).moved hW.alike, h3, (h4.kept hq).moved hW.alike, (h5.kept hq).moved hW.alike, h6.warmM hW, h7.warmM hW, h8.moved hW.alike, h9.moved hW.alike, h10.moved hW.alike, ⟨fun K hK => (h11.1 K hK).warmC hW, ab_AOA_moved hW.alike h11.2.1, ⟨_, h11.2.2.1.choose_spec.moved hW.alike⟩, h11.2.2.2.moved hW.alike⟩, Nat.le_trans h12 hS.1⟩
