/-! THE PLAN: four wishes of a work are enough -/
theorem pl_keep_or {b : Option pl_X} {x : pl_X} : pl_keep b x = some x ∨ pl_keep b x = b := by
  rcases b with _ | y
  · exact Or.inl rfl
  · show (if pl_bet x y then some x else some y) = some x ∨ (if pl_bet x y then some x else some y) = some y
    by_cases h : pl_bet x y
    · rw [if_pos h]
      exact Or.inl rfl
    · rw [if_neg h]
      exact Or.inr rfl
theorem pl_bet_trans {x y z : pl_X} (h1 : pl_bet x y) (h2 : pl_bet y z) : pl_bet x z := by
  rcases h1 with h1 | h1 <;> rcases h2 with h2 | h2
  · exact Or.inl (by omega)
  · exact Or.inl (by omega)
  · exact Or.inl (by omega)
  · exact Or.inr (by omega)
theorem pl_nb_trans {x y z : pl_X} (h1 : ¬ pl_bet x y) (h2 : ¬ pl_bet y z) : ¬ pl_bet x z := by
  rintro (h | h)
  · apply h1
    rcases Nat.lt_or_ge y.1 x.1 with l | l
    · exact Or.inl l
    · exact absurd (Or.inl (by omega)) h2
  · rcases Nat.lt_or_ge y.1 x.1 with l | l
    · exact h1 (Or.inl l)
    · rcases Nat.lt_or_ge z.1 y.1 with l2 | l2
      · exact h2 (Or.inl l2)
      · rcases Nat.lt_or_ge x.2.1 y.2.1 with l3 | l3
        · exact h1 (Or.inr ⟨by omega, l3⟩)
        · exact h2 (Or.inr ⟨by omega, by omega⟩)
theorem pl_stay : ∀ (l : List pl_X) (x : pl_X), (∀ y ∈ l, ¬ pl_bet y x) → l.foldl pl_keep (some x) = some x
  | [], _, _ => rfl
  | y :: l, x, h => by
    show l.foldl pl_keep (if pl_bet y x then some y else some x) = some x
    rw [if_neg (h y List.mem_cons_self)]
    exact pl_stay l x (fun z hz => h z (List.mem_cons_of_mem _ hz))
/-- the first of the best is kept -/
theorem pl_first : ∀ (pre post : List pl_X) (x : pl_X) (b : Option pl_X), (∀ y ∈ pre, pl_bet x y) → (∀ y ∈ post, ¬ pl_bet y x) → (∀ y, b = some y → pl_bet x y) → (pre ++ x :: post).foldl pl_keep b = some x
  | [], post, x, b, _, h2, h3 => by
    show post.foldl pl_keep (pl_keep b x) = some x
    have e : pl_keep b x = some x := by
      rcases b with _ | y
      · rfl
      · show (if pl_bet x y then some x else some y) = some x
        rw [if_pos (h3 y rfl)]
    rw [e]
    exact pl_stay post x h2
  | z :: pre, post, x, b, h1, h2, h3 => by
    show (pre ++ x :: post).foldl pl_keep (pl_keep b z) = some x
    refine pl_first pre post x _ (fun y hy => h1 y (List.mem_cons_of_mem _ hy)) h2 (fun y hy => ?_)
    rcases pl_keep_or (b := b) (x := z) with e | e
    · rw [e] at hy
      cases hy
      exact h1 z List.mem_cons_self
    · rw [e] at hy
      exact h3 y hy
theorem pl_find : ∀ (l : List pl_X) (b : pl_X), ∃ x, l.foldl pl_keep (some b) = some x ∧ ((x = b ∧ ∀ y ∈ l, ¬ pl_bet y b) ∨ (pl_bet x b ∧ ∃ pre post, l = pre ++ x :: post ∧ (∀ y ∈ pre, pl_bet x y) ∧ ∀ y ∈ post, ¬ pl_bet y x))
  | [], b => ⟨b, rfl, Or.inl ⟨rfl, fun y hy => by cases hy⟩⟩
  | z :: l, b => by
    by_cases hz : pl_bet z b
    · obtain ⟨x, h1, h2⟩ := pl_find l z
      refine ⟨x, ?_, Or.inr ?_⟩
      · show l.foldl pl_keep (if pl_bet z b then some z else some b) = some x
        rw [if_pos hz]
        exact h1
      · rcases h2 with ⟨rfl, h2⟩ | ⟨h2, pre, post, rfl, h3, h4⟩
        · exact ⟨hz, [], l, rfl, fun y hy => (by cases hy), h2⟩
        · refine ⟨pl_bet_trans h2 hz, z :: pre, post, rfl, fun y hy => ?_, h4⟩
          rcases List.mem_cons.mp hy with rfl | hy
          · exact h2
          · exact h3 y hy
    · obtain ⟨x, h1, h2⟩ := pl_find l b
      refine ⟨x, ?_, ?_⟩
      · show l.foldl pl_keep (if pl_bet z b then some z else some b) = some x
        rw [if_neg hz]
        exact h1
      · rcases h2 with ⟨rfl, h2⟩ | ⟨h2, pre, post, rfl, h3, h4⟩
        · refine Or.inl ⟨rfl, fun y hy => ?_⟩
          rcases List.mem_cons.mp hy with rfl | hy
          · exact hz
          · exact h2 y hy
        · refine Or.inr ⟨h2, z :: pre, post, rfl, fun y hy => ?_, h4⟩
          rcases List.mem_cons.mp hy with rfl | hy
          · by_cases e : pl_bet x y
            · exact e
            · exact absurd h2 (pl_nb_trans e hz)
          · exact h3 y hy
theorem pl_find0 {l : List pl_X} (h : l ≠ []) : ∃ x pre post, l.foldl pl_keep none = some x ∧ l = pre ++ x :: post ∧ (∀ y ∈ pre, pl_bet x y) ∧ ∀ y ∈ post, ¬ pl_bet y x := by
  rcases l with _ | ⟨z, l⟩
  · exact absurd rfl h
  · obtain ⟨x, h1, h2⟩ := pl_find l z
    rcases h2 with ⟨rfl, h2⟩ | ⟨h2, pre, post, rfl, h3, h4⟩
    · exact ⟨x, [], l, h1, rfl, fun y hy => (by cases hy), h2⟩
    · refine ⟨x, z :: pre, post, h1, rfl, fun y hy => ?_, h4⟩
      rcases List.mem_cons.mp hy with rfl | hy
      · exact h2
      · exact h3 y hy
theorem pl_pigeon : ∀ (l H : List Nat), l.Nodup → (∀ x ∈ l, x ∈ H) → l.length ≤ H.length
  | [], _, _, _ => Nat.zero_le _
  | a :: l, H, hn, hs => by
    rw [List.nodup_cons] at hn
    have ha := hs a List.mem_cons_self
    have := pl_pigeon l (H.erase a) hn.2 (fun x hx => (List.mem_erase_of_ne (fun e : x = a => hn.1 (e ▸ hx))).mpr (hs x (List.mem_cons_of_mem _ hx)))
    rw [List.length_erase_of_mem ha] at this
    have hp : 0 < H.length := List.length_pos_of_mem ha
    show l.length + 1 ≤ H.length
    omega
/-- of a list of wishes, those four that are nearest -/
def pl_near (P N : List Nat) (f : Nat → Nat) : Prop := N.Sublist P ∧ ∀ v ∈ P, v ∉ N → N.length = 4 ∧ ∀ u ∈ N, f u < f v ∨ (f u = f v ∧ u < v)
theorem pl_in' {O O' : Nat → List Nat} {hm : Nat → Nat} : ∀ (m k : Nat) (used : List Nat) (t : List (Option Nat)), pl_ok O hm k used m t → (∀ j v, t[j]? = some (some v) → v ∈ O' (k + j)) → pl_ok O' hm k used m t
  | 0, _, _, [], _, _ => trivial
  | 0, _, _, _ :: _, h, _ => by cases h
  | m + 1, _, _, [], h, _ => by cases h
  | m + 1, k, used, none :: t, h, hj => pl_in' m (k + 1) used t h (fun j v e => by
      have := hj (j + 1) v (by rw [List.getElem?_cons_succ]; exact e)
      rw [show k + 1 + j = k + (j + 1) by omega]
      exact this)
  | m + 1, k, used, some w :: t, h, hj => ⟨hj 0 w rfl, h.2.1, pl_in' m (k + 1) _ t h.2.2 (fun j v e => by
      have := hj (j + 1) v (by rw [List.getElem?_cons_succ]; exact e)
      rw [show k + 1 + j = k + (j + 1) by omega]
      exact this)⟩
theorem pl_at : ∀ {O : Nat → List Nat} {hm : Nat → Nat} (m k : Nat) (used : List Nat) (t : List (Option Nat)), pl_ok O hm k used m t → ∀ j v, t[j]? = some (some v) → v ∈ O (k + j)
  | _, _, 0, _, _, [], _, _, _, e => by cases e
  | _, _, 0, _, _, _ :: _, h, _, _, _ => by cases h
  | _, _, m + 1, _, _, [], h, _, _, _ => by cases h
  | O, hm, m + 1, k, used, none :: t, h, j, v, e => by
    rcases j with _ | j
    · cases e
    · rw [List.getElem?_cons_succ] at e
      rw [show k + (j + 1) = k + 1 + j by omega]
      exact pl_at m (k + 1) used t h j v e
  | O, hm, m + 1, k, used, some w :: t, h, j, v, e => by
    rcases j with _ | j
    · cases e
      exact h.1
    · rw [List.getElem?_cons_succ] at e
      rw [show k + (j + 1) = k + 1 + j by omega]
      exact pl_at m (k + 1) _ t h.2.2 j v e
theorem pl_nones {O : Nat → List Nat} {hm : Nat → Nat} : ∀ (m k : Nat) (used : List Nat), pl_ok O hm k used m (List.replicate m none)
  | 0, _, _ => trivial
  | m + 1, k, used => pl_nones m (k + 1) used
theorem pl_nones_sv : ∀ m, pl_sv (List.replicate m none) = 0
  | 0 => rfl
  | m + 1 => pl_nones_sv m
/-- the homes of a line's other places -/
def pl_oth (hm : Nat → Nat) : Nat → List (Option Nat) → List Nat
  | _, [] => []
  | 0, _ :: t => (t.filterMap id).map hm
  | j + 1, none :: t => pl_oth hm j t
  | j + 1, some v :: t => hm v :: pl_oth hm j t
theorem pl_oth_len (hm : Nat → Nat) : ∀ (j : Nat) (t : List (Option Nat)), j < t.length → (pl_oth hm j t).length + 1 ≤ t.length
  | _, [], h => by cases h
  | 0, _ :: t, _ => by
    show ((t.filterMap id).map hm).length + 1 ≤ t.length + 1
    rw [List.length_map]
    have := List.length_filterMap_le id t
    omega
  | j + 1, none :: t, h => by
    have := pl_oth_len hm j t (by simpa using h)
    show (pl_oth hm j t).length + 1 ≤ t.length + 1
    omega
  | j + 1, some v :: t, h => by
    have := pl_oth_len hm j t (by simpa using h)
    show (pl_oth hm j t).length + 1 + 1 ≤ t.length + 1
    omega
theorem pl_oth_in (hm : Nat → Nat) : ∀ (j : Nat) (t : List (Option Nat)) (i : Nat), i ≠ j → ∀ x, t[i]? = some (some x) → hm x ∈ pl_oth hm j t
  | _, [], _, _, _, e => by cases e
  | 0, _ :: t, 0, h, _, _ => absurd rfl h
  | 0, _ :: t, i + 1, _, x, e => by
    rw [List.getElem?_cons_succ] at e
    exact List.mem_map.mpr ⟨x, List.mem_filterMap.mpr ⟨some x, List.mem_of_getElem? e, rfl⟩, rfl⟩
  | j + 1, none :: t, 0, _, _, e => by cases e
  | j + 1, none :: t, i + 1, h, x, e => by
    rw [List.getElem?_cons_succ] at e
    exact pl_oth_in hm j t i (by omega) x e
  | j + 1, some v :: t, 0, _, x, e => by
    cases e
    exact List.mem_cons_self
  | j + 1, some v :: t, i + 1, h, x, e => by
    rw [List.getElem?_cons_succ] at e
    exact List.mem_cons_of_mem _ (pl_oth_in hm j t i (by omega) x e)
/-- FOUR ARE ENOUGH -/
theorem pl_four {O O' : Nat → List Nat} {hm : Nat → Nat} {ml : Nat → Nat → Nat} {n : Nat} (hn : n ≤ 4) (h0 : 0 < n) (hO : ∀ k, (O k).Pairwise (· < ·)) (hd : ∀ k, ((O k).map hm).Nodup) (hne : O 0 ≠ []) (hN : ∀ k, pl_near (O k) (O' k) (ml k)) :
    ∃ t, pl_ok O hm 0 [] n t ∧ pl_go O hm ml n 0 [] 0 0 [] none = some (pl_sv t, pl_mi ml 0 t, t) ∧ pl_go O' hm ml n 0 [] 0 0 [] (some (0, 0, List.replicate n none)) = some (pl_sv t, pl_mi ml 0 t, t) := by
  have eF : ∀ A b, pl_go A hm ml n 0 [] 0 0 [] b = ((pl_ls A hm n 0 []).map (fun t => (pl_sv t, pl_mi ml 0 t, t))).foldl pl_keep b := fun A b => by
    rw [pl_go_eq]
    congr 1
    apply List.map_congr_left
    intro t _
    rw [Nat.zero_add, Nat.zero_add, List.nil_append]
  have hnil : (pl_ls O hm n 0 []).map (fun t => (pl_sv t, pl_mi ml 0 t, t)) ≠ [] := by
    have := (pl_mem O hm n 0 [] _).mpr (pl_nones n 0 [])
    intro e
    rw [List.map_eq_nil_iff] at e
    rw [e] at this
    cases this
  obtain ⟨x, pre, post, e1, e2, e3, e4⟩ := pl_find0 hnil
  obtain ⟨A, B', eA, eP, eB'⟩ := List.map_eq_append_iff.mp e2
  obtain ⟨t, B, rfl, ex, eB⟩ := List.map_eq_cons_iff.mp eB'
  have hs := pl_sorted O hm hO n 0 []
  rw [eA, List.pairwise_append] at hs
  obtain ⟨-, hs2, hs3⟩ := hs
  rw [List.pairwise_cons] at hs2
  have hmem : t ∈ pl_ls O hm n 0 [] := by rw [eA]; simp
  have hok := (pl_mem O hm n 0 [] t).mp hmem
  have hlen := pl_ok_len O hm n 0 [] t hok
  -- nothing is better, and nothing as good is tried before
  have hbest : ∀ s, pl_ok O hm 0 [] n s → ¬ pl_bet (pl_sv s, pl_mi ml 0 s, s) x ∧ (lx s t → pl_bet x (pl_sv s, pl_mi ml 0 s, s)) := by
    intro s hso
    have hsm := (pl_mem O hm n 0 [] s).mpr hso
    rw [eA] at hsm
    rcases List.mem_append.mp hsm with hsm | hsm
    · have hb : pl_bet x (pl_sv s, pl_mi ml 0 s, s) := e3 _ (by rw [← eP]; exact List.mem_map.mpr ⟨s, hsm, rfl⟩)
      refine ⟨fun z => ?_, fun _ => hb⟩
      have := pl_bet_trans hb z
      rcases this with q | q <;> omega
    · rcases List.mem_cons.mp hsm with rfl | hsm
      · refine ⟨fun z => ?_, fun z => absurd z (lx_irr s)⟩
        rw [← ex] at z
        rcases z with q | q <;> omega
      · refine ⟨e4 _ (by rw [← eB]; exact List.mem_map.mpr ⟨s, hsm, rfl⟩), fun z => absurd z (lx_asym _ _ (hs2.1 s hsm))⟩
  -- the exchange
  have hin : ∀ j v, t[j]? = some (some v) → v ∈ O' (0 + j) := by
    intro j v ej
    rw [Nat.zero_add]
    have hvO := pl_at n 0 [] t hok j v ej
    rw [Nat.zero_add] at hvO
    refine Classical.byContradiction fun hv => ?_
    obtain ⟨h4, hnear⟩ := (hN j).2 v hvO hv
    have hjl : j < t.length := by
      rcases Nat.lt_or_ge j t.length with z | z
      · exact z
      · rw [List.getElem?_eq_none z] at ej
        cases ej
    have hpig : ∃ u, u ∈ O' j ∧ hm u ∉ pl_oth hm j t := by
      refine Classical.byContradiction fun hno => ?_
      have hall : ∀ y ∈ (O' j).map hm, y ∈ pl_oth hm j t := by
        intro y hy
        obtain ⟨u, hu, rfl⟩ := List.mem_map.mp hy
        exact Classical.byContradiction fun z => hno ⟨u, hu, z⟩
      have hnd : ((O' j).map hm).Nodup := List.Sublist.nodup ((hN j).1.map hm) (hd j)
      have := pl_pigeon _ _ hnd hall
      rw [List.length_map, h4] at this
      have := pl_oth_len hm j t hjl
      omega
    obtain ⟨u, hu, hfree⟩ := hpig
    have huO : u ∈ O (0 + j) := by
      rw [Nat.zero_add]
      exact (hN j).1.subset hu
    have hok' := pl_swap O hm j n 0 [] t u v hok ej huO (fun z => by cases z) (fun i hi x ex z => hfree (z ▸ pl_oth_in hm j t i hi x ex))
    have hb := hbest _ hok'
    have esv := pl_swap_sv j t u v ej
    have emi := pl_swap_mi ml j 0 t u v ej
    rw [Nat.zero_add] at emi
    rcases hnear u hu with q | ⟨q, q2⟩
    · apply hb.1
      rw [← ex]
      exact Or.inr ⟨esv.symm, by show pl_mi ml 0 (t.set j (some u)) < pl_mi ml 0 t; omega⟩
    · have hb2 := hb.2 (lx_swap j t u v ej q2)
      rw [← ex] at hb2
      rcases hb2 with z | z
      · have : pl_sv (t.set j (some u)) < pl_sv t := z
        omega
      · have : pl_mi ml 0 t < pl_mi ml 0 (t.set j (some u)) := z.2
        omega
  have hok2 := pl_in' n 0 [] t hok hin
  have hmem2 := (pl_mem O' hm n 0 [] t).mpr hok2
  have hsub := pl_ls_sub (hm := hm) (fun k => (hN k).1) n 0 []
  refine ⟨t, hok, ?_, ?_⟩
  · rw [eF, e1, ← ex]
  · rw [eF]
    rw [eA] at hsub
    obtain ⟨l1, l2, el, s1, s2⟩ := List.sublist_append_iff.mp hsub
    rw [el] at hmem2
    have hx1 : ∀ y ∈ pre, pl_bet x y := e3
    have htA : t ∉ A := fun z => lx_irr t (hs3 t z t List.mem_cons_self)
    have htB : t ∉ B := fun z => lx_irr t (hs2.1 t z)
    have ht2 : ∃ l3, l2 = t :: l3 ∧ l3.Sublist B := by
      rcases List.mem_append.mp hmem2 with z | z
      · exact absurd (s1.subset z) htA
      · rcases List.sublist_cons_iff.mp s2 with q | ⟨r, rfl, q⟩
        · exact absurd (q.subset z) htB
        · exact ⟨r, rfl, q⟩
    obtain ⟨l3, rfl, s3⟩ := ht2
    rw [el, List.map_append, List.map_cons, ex]
    refine pl_first _ _ _ _ (fun y hy => ?_) (fun y hy => ?_) (fun y hy => ?_)
    · obtain ⟨s, hs', rfl⟩ := List.mem_map.mp hy
      exact e3 _ (by rw [← eP]; exact List.mem_map.mpr ⟨s, s1.subset hs', rfl⟩)
    · obtain ⟨s, hs', rfl⟩ := List.mem_map.mp hy
      exact e4 _ (by rw [← eB]; exact List.mem_map.mpr ⟨s, s3.subset hs', rfl⟩)
    · cases hy
      rcases n with _ | n
      · omega
      · obtain ⟨v, hv⟩ := List.exists_mem_of_ne_nil _ hne
        have hone : pl_ok O hm 0 [] (n + 1) (some v :: List.replicate n none) := ⟨hv, (fun z => by cases z), pl_nones n 1 _⟩
        have := (hbest _ hone).1
        left
        rcases Nat.eq_zero_or_pos x.1 with z | z
        · exact absurd (Or.inl (by rw [z]; show 0 < pl_sv _ + 1; omega)) this
        · exact z
/-- the search that cuts what can't be better -/
def pl_gp (O : Nat → List Nat) (hm : Nat → Nat) (ml : Nat → Nat → Nat) : Nat → Nat → List Nat → Nat → Nat → List (Option Nat) → pl_X → pl_X
  | 0, _, _, sv, mi, pre, b => if sv + 0 < b.1 then b else (if pl_bet (sv, mi, pre) b then (sv, mi, pre) else b)
  | m + 1, k, used, sv, mi, pre, b => if sv + (m + 1) < b.1 then b else pl_gp O hm ml m (k + 1) used sv mi (pre ++ [none]) ((O k).foldl (fun b v => if used.contains (hm v) = true then b else pl_gp O hm ml m (k + 1) (hm v :: used) (sv + 1) (mi + ml k v) (pre ++ [some v]) b) b)
theorem pl_fold_some {α : Type} (f : pl_X → α → pl_X) (g : Option pl_X → α → Option pl_X) (h : ∀ b a, g (some b) a = some (f b a)) : ∀ (l : List α) (b : pl_X), l.foldl g (some b) = some (l.foldl f b)
  | [], _ => rfl
  | a :: l, b => by
    show l.foldl g (g (some b) a) = some (l.foldl f (f b a))
    rw [h]
    exact pl_fold_some f g h l _
theorem pl_gp_eq (O : Nat → List Nat) (hm : Nat → Nat) (ml : Nat → Nat → Nat) : ∀ (m k : Nat) (used : List Nat) (sv mi : Nat) (pre : List (Option Nat)) (b : pl_X), pl_go O hm ml m k used sv mi pre (some b) = some (pl_gp O hm ml m k used sv mi pre b)
  | 0, k, used, sv, mi, pre, b => by
    show (if pl_bet (sv, mi, pre) b then some (sv, mi, pre) else some b) = some (if sv + 0 < b.1 then b else (if pl_bet (sv, mi, pre) b then (sv, mi, pre) else b))
    by_cases h : sv + 0 < b.1
    · rw [if_pos h, if_neg]
      rintro (z | z)
      · have : b.1 < sv := z
        omega
      · have : b.1 = sv := z.1
        omega
    · rw [if_neg h]
      split <;> rfl
  | m + 1, k, used, sv, mi, pre, b => by
    by_cases h : sv + (m + 1) < b.1
    · unfold pl_gp
      rw [if_pos h, pl_go_eq]
      refine pl_stay _ _ (fun y hy => ?_)
      obtain ⟨t, ht, rfl⟩ := List.mem_map.mp hy
      have h1 := pl_ok_len O hm _ _ _ t ((pl_mem O hm _ _ _ t).mp ht)
      have h2 := pl_sv_le t
      rintro (z | z)
      · have : b.1 < sv + pl_sv t := z
        omega
      · have : b.1 = sv + pl_sv t := z.1
        omega
    · unfold pl_gp
      rw [if_neg h]
      unfold pl_go
      rw [pl_fold_some (fun b v => if used.contains (hm v) = true then b else pl_gp O hm ml m (k + 1) (hm v :: used) (sv + 1) (mi + ml k v) (pre ++ [some v]) b) _ (fun b v => ?_), pl_gp_eq O hm ml m]
      split
      · rfl
      · exact pl_gp_eq O hm ml m _ _ _ _ _ _
