/-! THE PLAN, as lists: all that the works may get, in the order of the tries; the first of the best -/
abbrev pl_X : Type := Nat × Nat × List (Option Nat)
abbrev pl_bet (x y : pl_X) : Prop := y.1 < x.1 ∨ (y.1 = x.1 ∧ x.2.1 < y.2.1)
def pl_keep : Option pl_X → pl_X → Option pl_X
  | none, x => some x
  | some y, x => if pl_bet x y then some x else some y
section PLAN
variable (O : Nat → List Nat) (hm : Nat → Nat) (ml : Nat → Nat → Nat)
/-- the lines from place k on -/
def pl_ls : Nat → Nat → List Nat → List (List (Option Nat))
  | 0, _, _ => [[]]
  | m + 1, k, used => (O k).flatMap (fun v => if used.contains (hm v) = true then [] else (pl_ls m (k + 1) (hm v :: used)).map (fun t => some v :: t)) ++ (pl_ls m (k + 1) used).map (fun t => none :: t)
def pl_sv : List (Option Nat) → Nat
  | [] => 0
  | none :: t => pl_sv t
  | some _ :: t => pl_sv t + 1
def pl_mi : Nat → List (Option Nat) → Nat
  | _, [] => 0
  | k, none :: t => pl_mi (k + 1) t
  | k, some v :: t => ml k v + pl_mi (k + 1) t
/-- the search as it runs -/
def pl_go : Nat → Nat → List Nat → Nat → Nat → List (Option Nat) → Option pl_X → Option pl_X
  | 0, _, _, sv, mi, pre, b => pl_keep b (sv, mi, pre)
  | m + 1, k, used, sv, mi, pre, b => pl_go m (k + 1) used sv mi (pre ++ [none]) ((O k).foldl (fun b v => if used.contains (hm v) = true then b else pl_go m (k + 1) (hm v :: used) (sv + 1) (mi + ml k v) (pre ++ [some v]) b) b)
theorem pl_foldl_flat {α β γ : Type} (f : α → List β) (g : γ → β → γ) : ∀ (l : List α) (b : γ), (l.flatMap f).foldl g b = l.foldl (fun b v => (f v).foldl g b) b
  | [], _ => rfl
  | a :: l, b => by
    rw [List.flatMap_cons, List.foldl_append, pl_foldl_flat f g l]
    rfl
theorem pl_go_eq : ∀ (m k : Nat) (used : List Nat) (sv mi : Nat) (pre : List (Option Nat)) (b : Option pl_X), pl_go O hm ml m k used sv mi pre b = ((pl_ls O hm m k used).map (fun t => (sv + pl_sv t, mi + pl_mi ml k t, pre ++ t))).foldl pl_keep b
  | 0, k, used, sv, mi, pre, b => by
    show pl_keep b (sv, mi, pre) = pl_keep b (sv + 0, mi + 0, pre ++ [])
    rw [Nat.add_zero, Nat.add_zero, List.append_nil]
  | m + 1, k, used, sv, mi, pre, b => by
    unfold pl_go pl_ls
    rw [List.map_append, List.foldl_append, List.map_flatMap, pl_foldl_flat, pl_go_eq m, List.map_map]
    congr 1
    · congr 1
      funext b v
      split
      · rfl
      · rw [pl_go_eq m, List.map_map]
        congr 1
        apply List.map_congr_left
        intro t _
        show (_, _, _) = (_, _, _)
        dsimp only [pl_sv, pl_mi]
        rw [List.append_assoc]
        congr 1
        · omega
        · congr 1
          omega
    · apply List.map_congr_left
      intro t _
      show (_, _, _) = (_, _, _)
      rw [List.append_assoc]
      rfl
/-- a line that may be -/
def pl_ok : Nat → List Nat → Nat → List (Option Nat) → Prop
  | _, _, 0, [] => True
  | k, used, m + 1, none :: t => pl_ok (k + 1) used m t
  | k, used, m + 1, some v :: t => v ∈ O k ∧ hm v ∉ used ∧ pl_ok (k + 1) (hm v :: used) m t
  | _, _, _, _ => False
theorem pl_mem : ∀ (m k : Nat) (used : List Nat) (t : List (Option Nat)), t ∈ pl_ls O hm m k used ↔ pl_ok O hm k used m t
  | 0, k, used, [] => by simp [pl_ls, pl_ok]
  | 0, k, used, a :: t => by simp [pl_ls, pl_ok]
  | m + 1, k, used, [] => by
    simp only [pl_ls, pl_ok, List.mem_append, List.mem_flatMap, List.mem_map]
    constructor
    · rintro (⟨v, -, h⟩ | ⟨t, -, h⟩)
      · split at h
        · cases h
        · obtain ⟨t, -, h⟩ := List.mem_map.mp h
          cases h
      · cases h
    · intro h
      cases h
  | m + 1, k, used, none :: t => by
    simp only [pl_ls, pl_ok, List.mem_append, List.mem_flatMap, List.mem_map]
    rw [← pl_mem m (k + 1) used t]
    constructor
    · rintro (⟨v, -, h⟩ | ⟨t', h', h⟩)
      · split at h
        · cases h
        · obtain ⟨t, -, h⟩ := List.mem_map.mp h
          cases h
      · cases h
        exact h'
    · intro h
      exact Or.inr ⟨t, h, rfl⟩
  | m + 1, k, used, some v :: t => by
    simp only [pl_ls, pl_ok, List.mem_append, List.mem_flatMap, List.mem_map]
    rw [← pl_mem m (k + 1) (hm v :: used) t]
    constructor
    · rintro (⟨v', hv, h⟩ | ⟨t', h', h⟩)
      · split at h
        · cases h
        · rename_i hc
          obtain ⟨t', h', h⟩ := List.mem_map.mp h
          cases h
          exact ⟨hv, fun z => hc (List.contains_iff_mem.mpr z), h'⟩
      · cases h
    · rintro ⟨h1, h2, h3⟩
      refine Or.inl ⟨v, h1, ?_⟩
      rw [if_neg (fun z => h2 (List.contains_iff_mem.mp z))]
      exact List.mem_map.mpr ⟨t, h3, rfl⟩
theorem pl_ok_len : ∀ (m k : Nat) (used : List Nat) (t : List (Option Nat)), pl_ok O hm k used m t → t.length = m
  | 0, _, _, [], _ => rfl
  | 0, _, _, _ :: _, h => by cases h
  | m + 1, _, _, [], h => by cases h
  | m + 1, k, used, none :: t, h => by
    show t.length + 1 = m + 1
    rw [pl_ok_len m (k + 1) used t h]
  | m + 1, k, used, some v :: t, h => by
    show t.length + 1 = m + 1
    rw [pl_ok_len m (k + 1) _ t h.2.2]
theorem pl_sv_le : ∀ t : List (Option Nat), pl_sv t ≤ t.length
  | [] => Nat.le_refl _
  | none :: t => Nat.le_succ_of_le (pl_sv_le t)
  | some _ :: t => Nat.succ_le_succ (pl_sv_le t)
theorem pl_used : ∀ (m k : Nat) (used : List Nat) (t : List (Option Nat)), pl_ok O hm k used m t → ∀ x, some x ∈ t → hm x ∉ used
  | 0, _, _, [], _, x, hx => by cases hx
  | 0, _, _, _ :: _, h, _, _ => by cases h
  | m + 1, _, _, [], h, _, _ => by cases h
  | m + 1, k, used, none :: t, h, x, hx => by
    rcases List.mem_cons.mp hx with e | hx
    · cases e
    · exact pl_used m (k + 1) used t h x hx
  | m + 1, k, used, some v :: t, h, x, hx => by
    rcases List.mem_cons.mp hx with e | hx
    · cases e
      exact h.2.1
    · exact fun z => pl_used m (k + 1) _ t h.2.2 x hx (List.mem_cons_of_mem _ z)
theorem pl_reuse : ∀ (m k : Nat) (A B : List Nat) (t : List (Option Nat)), pl_ok O hm k A m t → (∀ x, some x ∈ t → hm x ∉ B) → pl_ok O hm k B m t
  | 0, _, _, _, [], _, _ => trivial
  | 0, _, _, _, _ :: _, h, _ => by cases h
  | m + 1, _, _, _, [], h, _ => by cases h
  | m + 1, k, A, B, none :: t, h, hB => pl_reuse m (k + 1) A B t h (fun x hx => hB x (List.mem_cons_of_mem _ hx))
  | m + 1, k, A, B, some v :: t, h, hB => by
    refine ⟨h.1, hB v List.mem_cons_self, pl_reuse m (k + 1) _ _ t h.2.2 (fun x hx z => ?_)⟩
    rcases List.mem_cons.mp z with e | z
    · exact pl_used O hm m (k + 1) _ t h.2.2 x hx (e ▸ List.mem_cons_self)
    · exact hB x (List.mem_cons_of_mem _ hx) z
/-- another wish in one place -/
theorem pl_swap : ∀ (j m k : Nat) (used : List Nat) (t : List (Option Nat)) (u v : Nat), pl_ok O hm k used m t → t[j]? = some (some v) → u ∈ O (k + j) → hm u ∉ used → (∀ i, i ≠ j → ∀ x, t[i]? = some (some x) → hm x ≠ hm u) → pl_ok O hm k used m (t.set j (some u))
  | _, 0, _, _, [], _, _, _, e, _, _, _ => by cases e
  | _, 0, _, _, _ :: _, _, _, h, _, _, _, _ => by cases h
  | _, _ + 1, _, _, [], _, _, h, _, _, _, _ => by cases h
  | 0, m + 1, k, used, none :: t, u, v, h, e, hu, hn, hx => by cases e
  | 0, m + 1, k, used, some w :: t, u, v, h, e, hu, hn, hx => by
    refine ⟨hu, hn, pl_reuse O hm m (k + 1) _ _ t h.2.2 (fun x hxt z => ?_)⟩
    rcases List.mem_cons.mp z with e | z
    · obtain ⟨i, hi⟩ := List.getElem?_of_mem hxt
      exact hx (i + 1) (by omega) x (by rw [List.getElem?_cons_succ]; exact hi) e
    · exact pl_used O hm m (k + 1) _ t h.2.2 x hxt (List.mem_cons_of_mem _ z)
  | j + 1, m + 1, k, used, none :: t, u, v, h, e, hu, hn, hx => by
    rw [List.getElem?_cons_succ] at e
    exact pl_swap j m (k + 1) used t u v h e (by rw [show k + 1 + j = k + (j + 1) by omega]; exact hu) hn (fun i hi x ex => hx (i + 1) (by omega) x (by rw [List.getElem?_cons_succ]; exact ex))
  | j + 1, m + 1, k, used, some w :: t, u, v, h, e, hu, hn, hx => by
    rw [List.getElem?_cons_succ] at e
    refine ⟨h.1, h.2.1, pl_swap j m (k + 1) _ t u v h.2.2 e (by rw [show k + 1 + j = k + (j + 1) by omega]; exact hu) (fun z => ?_) (fun i hi x ex => hx (i + 1) (by omega) x (by rw [List.getElem?_cons_succ]; exact ex))⟩
    rcases List.mem_cons.mp z with z | z
    · exact hx 0 (by omega) w rfl z.symm
    · exact hn z
theorem pl_swap_sv : ∀ (j : Nat) (t : List (Option Nat)) (u v : Nat), t[j]? = some (some v) → pl_sv (t.set j (some u)) = pl_sv t
  | _, [], _, _, e => by cases e
  | 0, none :: t, _, _, e => by cases e
  | 0, some _ :: t, _, _, _ => rfl
  | j + 1, none :: t, u, v, e => by
    rw [List.getElem?_cons_succ] at e
    exact pl_swap_sv j t u v e
  | j + 1, some w :: t, u, v, e => by
    rw [List.getElem?_cons_succ] at e
    show pl_sv _ + 1 = pl_sv _ + 1
    rw [pl_swap_sv j t u v e]
theorem pl_swap_mi : ∀ (j k : Nat) (t : List (Option Nat)) (u v : Nat), t[j]? = some (some v) → pl_mi ml k (t.set j (some u)) + ml (k + j) v = pl_mi ml k t + ml (k + j) u
  | _, _, [], _, _, e => by cases e
  | 0, _, none :: t, _, _, e => by cases e
  | 0, k, some w :: t, u, v, e => by
    cases e
    show ml k u + _ + ml k w = ml k w + _ + ml k u
    omega
  | j + 1, k, none :: t, u, v, e => by
    rw [List.getElem?_cons_succ] at e
    have := pl_swap_mi j (k + 1) t u v e
    rw [show k + 1 + j = k + (j + 1) by omega] at this
    exact this
  | j + 1, k, some w :: t, u, v, e => by
    rw [List.getElem?_cons_succ] at e
    have := pl_swap_mi j (k + 1) t u v e
    rw [show k + 1 + j = k + (j + 1) by omega] at this
    show ml k w + _ + _ = ml k w + _ + _
    omega
/-- which line is tried first -/
def lx : List (Option Nat) → List (Option Nat) → Prop
  | some u :: s, some v :: t => u < v ∨ (u = v ∧ lx s t)
  | some _ :: _, none :: _ => True
  | none :: s, none :: t => lx s t
  | _, _ => False
theorem lx_irr : ∀ t, ¬ lx t t
  | [], h => h
  | none :: t, h => lx_irr t h
  | some u :: t, h => by
    rcases h with h | h
    · exact absurd h (Nat.lt_irrefl _)
    · exact lx_irr t h.2
theorem lx_asym : ∀ s t, lx s t → ¬ lx t s
  | [], _, h => by cases h
  | none :: _, [], h => by cases h
  | some _ :: _, [], h => by cases h
  | none :: s, none :: t, h => lx_asym s t h
  | none :: _, some _ :: _, h => by cases h
  | some _ :: _, none :: _, _ => fun h => h
  | some u :: s, some v :: t, h => by
    rintro (h' | h')
    · rcases h with h | h <;> omega
    · rcases h with h | h
      · omega
      · exact lx_asym s t h.2 h'.2
theorem lx_swap : ∀ (j : Nat) (t : List (Option Nat)) (u v : Nat), t[j]? = some (some v) → u < v → lx (t.set j (some u)) t
  | _, [], _, _, e, _ => by cases e
  | 0, none :: t, _, _, e, _ => by cases e
  | 0, some _ :: t, _, _, e, h => by
    cases e
    exact Or.inl h
  | j + 1, none :: t, u, v, e, h => by
    rw [List.getElem?_cons_succ] at e
    exact lx_swap j t u v e h
  | j + 1, some w :: t, u, v, e, h => by
    rw [List.getElem?_cons_succ] at e
    exact Or.inr ⟨rfl, lx_swap j t u v e h⟩
theorem pl_sorted (hO : ∀ k, (O k).Pairwise (· < ·)) : ∀ (m k : Nat) (used : List Nat), (pl_ls O hm m k used).Pairwise lx
  | 0, _, _ => List.pairwise_singleton _ _
  | m + 1, k, used => by
    unfold pl_ls
    rw [List.pairwise_append]
    refine ⟨?_, ?_, ?_⟩
    · rw [List.pairwise_flatMap]
      refine ⟨fun v _ => ?_, (hO k).imp (fun {u v} huv s hs t ht => ?_)⟩
      · split
        · exact List.Pairwise.nil
        · rw [List.pairwise_map]
          exact (pl_sorted hO m (k + 1) _).imp (fun h => Or.inr ⟨rfl, h⟩)
      · split at hs
        · cases hs
        · split at ht
          · cases ht
          · obtain ⟨s', -, rfl⟩ := List.mem_map.mp hs
            obtain ⟨t', -, rfl⟩ := List.mem_map.mp ht
            exact Or.inl huv
    · rw [List.pairwise_map]
      exact pl_sorted hO m (k + 1) used
    · intro s hs t ht
      obtain ⟨t', -, rfl⟩ := List.mem_map.mp ht
      obtain ⟨v, -, hs⟩ := List.mem_flatMap.mp hs
      split at hs
      · cases hs
      · obtain ⟨s', -, rfl⟩ := List.mem_map.mp hs
        trivial
end PLAN
theorem pl_flat_sub {α β : Type} {f g : α → List β} (h : ∀ a, (f a).Sublist (g a)) : ∀ {l l' : List α}, l.Sublist l' → (l.flatMap f).Sublist (l'.flatMap g) := by
  intro l l' hs
  induction hs with
  | slnil => exact List.Sublist.refl _
  | cons a _ ih =>
    rw [List.flatMap_cons]
    exact ih.trans (List.sublist_append_right _ _)
  | cons_cons a _ ih =>
    rw [List.flatMap_cons, List.flatMap_cons]
    exact (h a).append ih
theorem pl_ls_sub {O O' : Nat → List Nat} {hm : Nat → Nat} (h : ∀ k, (O' k).Sublist (O k)) : ∀ (m k : Nat) (used : List Nat), (pl_ls O' hm m k used).Sublist (pl_ls O hm m k used)
  | 0, _, _ => List.Sublist.refl _
  | m + 1, k, used => by
    unfold pl_ls
    refine List.Sublist.append (pl_flat_sub (fun v => ?_) (h k)) ((pl_ls_sub h m (k + 1) used).map _)
    split
    · exact List.Sublist.refl _
    · exact (pl_ls_sub h m (k + 1) _).map _
