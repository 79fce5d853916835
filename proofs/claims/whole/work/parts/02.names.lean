/-! ===== BEGIN words of one list among another's, by their places ===== -/
theorem goodIn_r {big : List Cond} (ws : List Cond) (ps : List Nat) (hp : ws = ps.filterMap (fun i => big[i]?)) (h : ws.all goodWord = true) : GoodIn big ws := by
  intro w hw
  have h1 := List.all_eq_true.mp h w hw
  rw [hp] at hw
  obtain ⟨i, -, hi⟩ := List.mem_filterMap.mp hw
  have hm : w ∈ big := by first | exact List.mem_of_getElem? hi | exact List.getElem?_mem hi
  exact ⟨hm, good_of_word h1⟩
theorem goodIn_app {big a b : List Cond} (ha : GoodIn big a) (hb : GoodIn big b) : GoodIn big (a ++ b) := fun w h => (List.mem_append.mp h).elim (ha w) (hb w)
theorem goodIn_ca {big a b : List Cond} {c : Cond} (ha : GoodIn big (c :: a)) (hb : GoodIn big b) : GoodIn big (c :: (a ++ b)) := fun w h => (List.mem_cons.mp h).elim (fun e => ha w (List.mem_cons.mpr (Or.inl e))) (fun h => (List.mem_append.mp h).elim (fun h => ha w (List.mem_cons.mpr (Or.inr h))) (hb w))
theorem goodIn_sub {big ws : List Cond} (hm : ∀ w ∈ ws, w ∈ big) (h : ws.all goodWord = true) : GoodIn big ws := fun w hw => ⟨hm w hw, good_of_word (List.all_eq_true.mp h w hw)⟩
/-! ===== END ===== -/

/-- the tables know the arrays of arrays of t -/
def va_AOA (t : FieldType) (U : State) : Prop := (Cond.arrayOver (.array t)).before #[] U = true
theorem va_AOA.use {t : FieldType} {A : Array Value} {U : State} (h : va_AOA t U) : (Cond.arrayOver (.array t)).before A U = true := h
/-! ===== BEGIN new T[n][m]: the outer array a place, the inner ones among the pooled ===== -/
/-- f, but v at every address of l -/
def vr_up {α : Type} (f : Nat → α) (l : List Nat) (v : α) : Nat → α := fun a => if a ∈ l then v else f a
theorem vr_up_in {α : Type} {f : Nat → α} {l : List Nat} {v : α} {a : Nat} (h : a ∈ l) : vr_up f l v a = v := if_pos h
theorem vr_up_ne {α : Type} {f : Nat → α} {l : List Nat} {v : α} {a : Nat} (h : a ∉ l) : vr_up f l v a = f a := if_neg h
theorem vr_rows {L l : List Nat} {f : Nat → va_E} {e : va_E} (h : ∀ a, a ∈ l → a ∉ L) : va_pl L f ++ l.map (fun a => (a, e)) = va_pl (L ++ l) (vr_up f l e) := by
  unfold va_pl
  rw [List.map_append]
  congr 1
  · apply List.map_congr_left
    intro a ha
    rw [vr_up_ne (fun q => h a q ha)]
  · apply List.map_congr_left
    intro a ha
    rw [vr_up_in ha]
theorem vr_lay {X rows : va_W} {x : Nat × va_E} {pl : va_W} {D : va_G} {cl : List vw_C} {H : Heap} (hP : va_P D cl (((X ++ pl) ++ [x]) ++ rows) H) : va_P D cl ((X ++ [x]) ++ (pl ++ rows)) H := by
  rw [List.append_assoc (X ++ pl)] at hP
  have h := va_P.swap hP
  rw [← List.append_assoc X] at h
  have h2 := va_P.swap h
  rw [List.append_assoc (X ++ [x])] at h2
  exact h2
theorem vr_layD {X rows : va_W} {x : Nat × va_E} {pl : va_W} {A : Nat → Prop} (hD : va_D A (((X ++ pl) ++ [x]) ++ rows)) : va_D A ((X ++ [x]) ++ (pl ++ rows)) := by
  rw [List.append_assoc (X ++ pl)] at hD
  have h := va_D.swap hD
  rw [← List.append_assoc X] at h
  have h2 := va_D.swap h
  rw [List.append_assoc (X ++ [x])] at h2
  exact h2
theorem vr_outer (c : ClassId) (N h0 : Nat) : ∀ i : Nat, Jvm.Free.Multi.outerC c N h0 i = arrV c N (fun j => va_rf (if j < i then some (h0 + 1 + j) else none))
  | 0 => by
    show ({ cls := c, slots := Array.replicate N .null, vm := .none } : Cell) = _
    rw [arrV_new]
    refine congrArg (arrV c N) (funext fun j => ?_)
    simp [va_rf]
  | i + 1 => by
    show (Jvm.Free.Multi.outerC c N h0 i).setSlot i (.ref (h0 + 1 + i)) = _
    rw [vr_outer c N h0 i, arrV_store]
    refine congrArg (arrV c N) (funext fun j => ?_)
    by_cases e : j = i
    · subst e
      simp [updV, va_rf]
    · by_cases h : j < i
      · simp [updV, e, h, Nat.lt_succ_of_lt h]
      · simp [updV, e, h, show ¬ j < i + 1 by omega]
section VGM
variable {p : Program} {l : Launch} {e : Env} {R : Room} {s : State} {m : MethodId} {args : Array Value} {below : List Frame} {meth : Method} {c : Code} {H : Heap} {locs : List Loc} {cells slots : Nat} {Q : State → Prop}
variable {cc : ByteArray} {pc : Nat} {ls : Array Slot} {rest : List Value} {D : va_G} {cl : List vw_C} {A : Nat → Prop} {a : Nat} {tys : List (ClassId × FieldType)} {ws : va_W} {H0 : Heap}
theorem va_mna {X : va_W} {L : List Nat} {f : Nat → va_E} {cc : ByteArray} (hexec : p.tables.exec = Jvm.exec) (hb : c.code = cc) {own : String} {index : Nat} {ty : FieldType} {cy : ClassId} (hown : s.vm.findClass own = some m.cls) (hclink : (Cond.classLink own index ("[" ++ (FieldType.array ty).toString)).before args s = true) (hover : va_AOA ty s) (harr : (Cond.arrayClass ty).before args s = true) (hcy : s.vm.findClass (FieldType.array ty).toString = some cy)
    (hK : va_K D cl tys s) (hP : va_P D cl (X ++ va_pl L f) H) (hD : va_D A (X ++ va_pl L f)) (hS : va_S A H0 H locs) (hA : ∀ q, H0.size ≤ q → A q) {n k : Int32} {N' K' : Nat} {z : vp_A} (hn : ¬ n < 0) (hk : ¬ k < 0) (hN : n.toNatClampNeg = N') (hM : k.toNatClampNeg = K')
    (hb1 : N' * 4 ≤ 536870912) (hb2 : K' * componentBytes ty ≤ 536870912) (hb3 : K' ≤ 536870912) (hdf : fits ty (defaultValue ty) = true) (hdd : (defaultValue ty).isDefault = true) (hcells : cells + (1 + N') ≤ R.cells) (hslots : slots + (N' + N' * K') ≤ R.slots) (hz : ∀ c : ClassId, Jvm.Free.Multi.innerC c K' (defaultValue ty) = vp_cell c z) (hdg : decode cc pc = .ok (.multianewarray index 2, 4))
    (kk : ∀ (q : Nat) (r : Nat → Nat) (cA : ClassId) (H1 : Heap), (∀ i j : Nat, i < N' → j < N' → r i = r j → i = j) → (∀ i : Nat, i < N' → r i ∉ L) → va_K D cl (tys ++ [(cA, .array ty)]) s →
      va_P D cl ((X ++ [(q, .inl (cA, N', .inr (.inr (.inr (.inr (fun i => if i < N' then some (r i) else none))))))]) ++ va_pl (L ++ (List.range N').map r) (vr_up f ((List.range N').map r) (.inl (cy, z)))) H1 → va_D A ((X ++ [(q, .inl (cA, N', .inr (.inr (.inr (.inr (fun i => if i < N' then some (r i) else none))))))]) ++ va_pl (L ++ (List.range N').map r) (vr_up f ((List.range N').map r) (.inl (cy, z)))) → va_S A H0 H1 locs →
      W p l e R s m args below meth c H1 locs (cells + 1 + N') (slots + N' + N' * K') Q (F0 m (pc + 4) ls (.ref q :: rest))) : W p l e R s m args below meth c H locs cells slots Q (F0 m pc ls (.int k :: .int n :: rest)) := by
  subst hN
  subst hM
  intro T hT Xs
  obtain ⟨vm₁, cA, comp, -, fA, fC, hO, -, X', step⟩ := Xs.multianewarray2F hexec hown hclink (va_AOA.use hover) harr (g := F0 m pc ls (.int k :: .int n :: rest)) rfl (by rw [hb]; exact hdg) rfl hn hk hb1 hb2 hb3 hdf hdd hcells hslots
  have ec : some cy = some comp := hcy.symm.trans fC
  cases ec
  generalize hF : Jvm.Free.Multi.fill (T.setVm vm₁) cA cy n.toNatClampNeg k.toNatClampNeg (defaultValue ty) n.toNatClampNeg = F at X' step
  have hTh : (T.setVm vm₁).heap = H := hT
  obtain ⟨f1, f2, -, -⟩ := Jvm.Free.Multi.fill_facts (T.setVm vm₁) cA cy n.toNatClampNeg k.toNatClampNeg (defaultValue ty) n.toNatClampNeg
  rw [hF, hTh] at f1 f2
  have hold : ∀ x : Nat, x < H.size → F.heap[x]? = H[x]? := fun x hx => by
    have := Jvm.Free.Multi.fill_old (T.setVm vm₁) cA cy n.toNatClampNeg k.toNatClampNeg (defaultValue ty) (a := x) (by rw [hTh]; exact hx) n.toNatClampNeg
    rw [hF, hTh] at this
    exact this
  have hrow : ∀ j : Nat, j < n.toNatClampNeg → F.heap[H.size + 1 + j]? = some (vp_cell cy z) := fun j hj => by
    have := Jvm.Free.Multi.fill_inner (T.setVm vm₁) cA cy n.toNatClampNeg k.toNatClampNeg (defaultValue ty) n.toNatClampNeg j hj
    rw [hF, hTh, hz] at this
    exact this
  have hout : Jvm.Free.Multi.outerC cA n.toNatClampNeg H.size n.toNatClampNeg = vp_cell cA (n.toNatClampNeg, .inr (.inr (.inr (.inr (fun i => if i < n.toNatClampNeg then some (H.size + 1 + i) else none))))) := by
    rw [vp_cell_q]
    exact vr_outer cA n.toNatClampNeg H.size n.toNatClampNeg
  rw [hout] at f2
  have hlt : ∀ a, a ∈ L → a < H.size := fun a ha => by
    obtain ⟨k9, hk9⟩ := va_pl_get (X := X) (f := f) ha
    exact (hP k9 _ hk9).lt
  have hnl : ∀ i : Nat, i < n.toNatClampNeg → H.size + 1 + i ∉ L := fun i _ h => by
    have := hlt _ h
    omega
  have hnm : ∀ a, a ∈ (List.range n.toNatClampNeg).map (fun i => H.size + 1 + i) → a ∉ L := fun a ha h => by
    obtain ⟨i, -, rfl⟩ := List.mem_map.mp ha
    have := hlt _ h
    omega
  have hP0 : va_P D cl (X ++ va_pl L f) F.heap := hP.kept (fun k9 x hx => hold x.1 ((hP k9 x hx).lt))
  have hP1 : va_P D cl ((X ++ va_pl L f) ++ [(H.size, .inl (cA, n.toNatClampNeg, .inr (.inr (.inr (.inr (fun i => if i < n.toNatClampNeg then some (H.size + 1 + i) else none))))))]) F.heap := hP0.app (fun k9 x hx => by
    have h0 : k9 < 1 := (List.getElem?_eq_some_iff.mp hx).1
    rw [show k9 = 0 by omega] at hx
    cases hx
    exact f2)
  have hP2 : va_P D cl (((X ++ va_pl L f) ++ [(H.size, .inl (cA, n.toNatClampNeg, .inr (.inr (.inr (.inr (fun i => if i < n.toNatClampNeg then some (H.size + 1 + i) else none))))))]) ++ ((List.range n.toNatClampNeg).map (fun i => H.size + 1 + i)).map (fun a => (a, .inl (cy, z)))) F.heap := hP1.app (fun k9 x hx => by
    obtain ⟨a, ha, rfl⟩ := List.mem_map.mp (List.mem_of_getElem? hx)
    obtain ⟨i, hi, rfl⟩ := List.mem_map.mp ha
    exact hrow i (List.mem_range.mp hi))
  have hD2 : va_D A (((X ++ va_pl L f) ++ [(H.size, .inl (cA, n.toNatClampNeg, .inr (.inr (.inr (.inr (fun i => if i < n.toNatClampNeg then some (H.size + 1 + i) else none))))))]) ++ ((List.range n.toNatClampNeg).map (fun i => H.size + 1 + i)).map (fun a => (a, .inl (cy, z)))) := by
    have hD1 := hD.push (e := .inl (cA, n.toNatClampNeg, .inr (.inr (.inr (.inr (fun i => if i < n.toNatClampNeg then some (H.size + 1 + i) else none)))))) hP rfl (hA _ hS.1)
    generalize hW1 : (X ++ va_pl L f) ++ [(H.size, .inl (cA, n.toNatClampNeg, .inr (.inr (.inr (.inr (fun i => if i < n.toNatClampNeg then some (H.size + 1 + i) else none))))))] = W1 at hD1 hP1 ⊢
    have hle : ∀ (k9 : Nat) (x : Nat × va_E), W1[k9]? = some x → x.1 ≤ H.size := fun k9 x hx => by
      rw [← hW1] at hx
      by_cases hl : k9 < (X ++ va_pl L f).length
      · rw [List.getElem?_append_left hl] at hx
        exact Nat.le_of_lt ((hP k9 x hx).lt)
      · rw [List.getElem?_append_right (by omega)] at hx
        have h0 : k9 - (X ++ va_pl L f).length < 1 := (List.getElem?_eq_some_iff.mp hx).1
        rw [show k9 - (X ++ va_pl L f).length = 0 by omega] at hx
        cases hx
        exact Nat.le_refl _
    have hr : ∀ (k9 : Nat) (x : Nat × va_E), (((List.range n.toNatClampNeg).map (fun i => H.size + 1 + i)).map (fun a => ((a, .inl (cy, z)) : Nat × va_E)))[k9]? = some x → x.1 = H.size + 1 + k9 := fun k9 x hx => by
      rw [List.getElem?_map, List.getElem?_map] at hx
      by_cases h9 : k9 < n.toNatClampNeg
      · rw [List.getElem?_range h9] at hx
        cases hx
        rfl
      · have hn0 : (List.range n.toNatClampNeg)[k9]? = none := List.getElem?_eq_none (by rw [List.length_range]; omega)
        rw [hn0] at hx
        cases hx
    refine ⟨fun i j x y hi hj hxy => ?_, fun k9 x hx => ?_⟩
    · by_cases h1 : i < W1.length <;> by_cases h2 : j < W1.length
      · rw [List.getElem?_append_left h1] at hi
        rw [List.getElem?_append_left h2] at hj
        exact hD1.1 i j x y hi hj hxy
      · rw [List.getElem?_append_left h1] at hi
        rw [List.getElem?_append_right (by omega)] at hj
        have := hle _ _ hi
        have := hr _ _ hj
        omega
      · rw [List.getElem?_append_right (by omega)] at hi
        rw [List.getElem?_append_left h2] at hj
        have := hle _ _ hj
        have := hr _ _ hi
        omega
      · rw [List.getElem?_append_right (by omega)] at hi hj
        have := hr _ _ hi
        have := hr _ _ hj
        omega
    · by_cases h1 : k9 < W1.length
      · rw [List.getElem?_append_left h1] at hx
        exact hD1.2 k9 x hx
      · rw [List.getElem?_append_right (by omega)] at hx
        have := hr _ _ hx
        exact hA _ (by have := hS.1; omega)
  have hAr : ArrOfT s cA (.array ty) := fun N9 z9 => by
    obtain ⟨-, k9, hk9, cm9, hkk9⟩ := (hO 0 0 0).1
    exact ⟨(fun q hq => by cases hq), k9, hk9, cm9, hkk9⟩
  have hK2 : va_K D cl (tys ++ [(cA, .array ty)]) s := ⟨hK.1, fun k9 x hx => by
    by_cases hl : k9 < tys.length
    · rw [List.getElem?_append_left hl] at hx
      exact hK.2 k9 x hx
    · rw [List.getElem?_append_right (by omega)] at hx
      have h0 : k9 - tys.length < 1 := (List.getElem?_eq_some_iff.mp hx).1
      rw [show k9 - tys.length = 0 by omega] at hx
      cases hx
      exact ⟨hAr, fA⟩⟩
  obtain ⟨t, a1, b1⟩ := kk H.size (fun i => H.size + 1 + i) cA F.heap (fun i j _ _ h => by have h9 : H.size + 1 + i = H.size + 1 + j := h; omega) hnl hK2 (by rw [← vr_rows hnm]; exact vr_lay hP2) (by rw [← vr_rows hnm]; exact vr_layD hD2) ⟨by rw [f1]; have := hS.1; omega, fun x h1 h2 => (hold x (Nat.lt_of_lt_of_le h1 hS.1)).trans (hS.2.1 x h1 h2), hS.2.2⟩ F rfl X'
  refine ⟨t, step t ?_, b1⟩
  have e : T.heap.size = H.size := by rw [hT]
  rw [e]
  exact a1
end VGM
/-! ===== END ===== -/

/-! ===== BEGIN printed: names, fields, word lists, decode rows ===== -/
def RX0 : String := "PicturesLent$Choice"
def TX0 : u_T := fun k => match k with
  | 0 => ("PicturesLent$Choice", "wishes", "[LPicturesLent$Wish;", true)
  | 1 => ("PicturesLent$Choice", "milesOf", "[I", true)
  | 2 => ("PicturesLent$Choice", "work", "LPicturesLent$Work;", false)
  | 3 => ("PicturesLent$Choice", "size", "I", false)
  | 4 => ("PicturesLent$Choice", "tried", "LPicturesLent$Wish;", false)
  | _ => ("PicturesLent$Choice", "best", "LPicturesLent$Wish;", false)
def tyX0 : Nat → FieldType := fun k => match k with
  | 0 => .array (.object "PicturesLent$Wish")
  | 1 => .array .int
  | 2 => .object "PicturesLent$Work"
  | 3 => .int
  | 4 => .object "PicturesLent$Wish"
  | _ => .object "PicturesLent$Wish"
abbrev wsX00 : List Cond := u_ws RX0 TX0 6
theorem nmX0 : ∀ a, a < 6 → ∀ b, b < 6 → a ≠ b → (TX0 a).2.1 ≠ (TX0 b).2.1 := by decide +kernel
theorem tyX0_ok : ∀ k, k < 6 → parseFieldDescriptor (TX0 k).2.2.1 = some (tyX0 k) := by decide +kernel
abbrev cX0_init : ByteArray := prog_2_method_1_code
def yX0_init : MethodName := ⟨RX0, "<init>", "()V"⟩
abbrev cX0_start : ByteArray := prog_2_method_2_code
def yX0_start : MethodName := ⟨RX0, "start", "(LPicturesLent$Work;)V"⟩
abbrev cX0_add : ByteArray := prog_2_method_3_code
def yX0_add : MethodName := ⟨RX0, "add", "(LPicturesLent$Wish;I)V"⟩
abbrev cX0_lastOfFarthest : ByteArray := prog_2_method_4_code
def yX0_lastOfFarthest : MethodName := ⟨RX0, "lastOfFarthest", "()I"⟩
abbrev cX0_drop : ByteArray := prog_2_method_5_code
def yX0_drop : MethodName := ⟨RX0, "drop", "(I)V"⟩
def RX1 : String := "PicturesLent$Home"
def TX1 : u_T := fun k => match k with
  | 0 => ("PicturesLent$Home", "number", "I", true)
  | 1 => ("PicturesLent$Home", "town", "I", true)
  | 2 => ("PicturesLent$Home", "limit", "I", true)
  | 3 => ("PicturesLent$Home", "gotLastOn", "I", false)
  | 4 => ("PicturesLent$Home", "pointsLent", "I", false)
  | 5 => ("PicturesLent$Home", "worksLent", "I", false)
  | 6 => ("PicturesLent$Home", "owes", "I", false)
  | _ => ("PicturesLent$Home", "rents", "I", false)
def tyX1 : Nat → FieldType := fun k => match k with
  | 0 => .int
  | 1 => .int
  | 2 => .int
  | 3 => .int
  | 4 => .int
  | 5 => .int
  | 6 => .int
  | _ => .int
abbrev wsX10 : List Cond := u_ws RX1 TX1 8
theorem nmX1 : ∀ a, a < 8 → ∀ b, b < 8 → a ≠ b → (TX1 a).2.1 ≠ (TX1 b).2.1 := by decide +kernel
theorem tyX1_ok : ∀ k, k < 8 → parseFieldDescriptor (TX1 k).2.2.1 = some (tyX1 k) := by decide +kernel
abbrev cX1_init : ByteArray := prog_3_method_1_code
def yX1_init : MethodName := ⟨RX1, "<init>", "(IIII)V"⟩
abbrev cX1_hasRoomFor : ByteArray := prog_3_method_2_code
def yX1_hasRoomFor : MethodName := ⟨RX1, "hasRoomFor", "(LPicturesLent$Work;)Z"⟩
def RX2 : String := "PicturesLent$Look"
def TX2 : u_T := fun k => match k with
  | 0 => ("PicturesLent$Look", "marks", "I", true)
  | 1 => ("PicturesLent$Look", "blamed", "I", true)
  | _ => ("PicturesLent$Look", "ahead", "LPicturesLent$Look;", true)
def tyX2 : Nat → FieldType := fun k => match k with
  | 0 => .int
  | 1 => .int
  | _ => .object "PicturesLent$Look"
abbrev wsX20 : List Cond := u_ws RX2 TX2 3
theorem nmX2 : ∀ a, a < 3 → ∀ b, b < 3 → a ≠ b → (TX2 a).2.1 ≠ (TX2 b).2.1 := by decide +kernel
theorem tyX2_ok : ∀ k, k < 3 → parseFieldDescriptor (TX2 k).2.2.1 = some (tyX2 k) := by decide +kernel
abbrev cX2_init : ByteArray := prog_4_method_1_code
def yX2_init : MethodName := ⟨RX2, "<init>", "(IILPicturesLent$Look;)V"⟩
abbrev cX2_shows : ByteArray := prog_4_method_2_code
def yX2_shows : MethodName := ⟨RX2, "shows", "(I)Z"⟩
def RX3 : String := "PicturesLent$Plan"
def TX3 : u_T := fun k => match k with
  | 0 => ("PicturesLent$Plan", "choices", "[LPicturesLent$Choice;", true)
  | 1 => ("PicturesLent$Plan", "size", "I", false)
  | 2 => ("PicturesLent$Plan", "tooMany", "Z", false)
  | 3 => ("PicturesLent$Plan", "bestServed", "I", false)
  | _ => ("PicturesLent$Plan", "bestMiles", "I", false)
def tyX3 : Nat → FieldType := fun k => match k with
  | 0 => .array (.object "PicturesLent$Choice")
  | 1 => .int
  | 2 => .boolean
  | 3 => .int
  | _ => .int
abbrev wsX30 : List Cond := u_ws RX3 TX3 5
theorem nmX3 : ∀ a, a < 5 → ∀ b, b < 5 → a ≠ b → (TX3 a).2.1 ≠ (TX3 b).2.1 := by decide +kernel
theorem tyX3_ok : ∀ k, k < 5 → parseFieldDescriptor (TX3 k).2.2.1 = some (tyX3 k) := by decide +kernel
abbrev cX3_init : ByteArray := prog_5_method_1_code
def yX3_init : MethodName := ⟨RX3, "<init>", "()V"⟩
abbrev cX3_clear : ByteArray := prog_5_method_2_code
def yX3_clear : MethodName := ⟨RX3, "clear", "()V"⟩
abbrev cX3_canBeAsked : ByteArray := prog_5_method_3_code
def yX3_canBeAsked : MethodName := ⟨RX3, "canBeAsked", "()Z"⟩
abbrev cX3_add : ByteArray := prog_5_method_4_code
def yX3_add : MethodName := ⟨RX3, "add", "(LPicturesLent$Wish;I)V"⟩
abbrev cX3_placeFor : ByteArray := prog_5_method_5_code
def yX3_placeFor : MethodName := ⟨RX3, "placeFor", "(LPicturesLent$Work;)I"⟩
abbrev cX3_startAt : ByteArray := prog_5_method_6_code
def yX3_startAt : MethodName := ⟨RX3, "startAt", "(ILPicturesLent$Work;)V"⟩
abbrev cX3_make : ByteArray := prog_5_method_7_code
def yX3_make : MethodName := ⟨RX3, "make", "()V"⟩
abbrev cX3_choose : ByteArray := prog_5_method_8_code
def yX3_choose : MethodName := ⟨RX3, "choose", "(IIII)V"⟩
abbrev cX3_keepIfBetter : ByteArray := prog_5_method_9_code
def yX3_keepIfBetter : MethodName := ⟨RX3, "keepIfBetter", "(II)V"⟩
abbrev cX3_wishFor : ByteArray := prog_5_method_10_code
def yX3_wishFor : MethodName := ⟨RX3, "wishFor", "(LPicturesLent$Work;)LPicturesLent$Wish;"⟩
def RX4 : String := "PicturesLent$Rule"
def TX4 : u_T := fun k => match k with
  | 0 => ("PicturesLent$Rule", "day", "I", true)
  | 1 => ("PicturesLent$Rule", "age", "I", true)
  | 2 => ("PicturesLent$Rule", "rest", "I", true)
  | 3 => ("PicturesLent$Rule", "keep", "I", true)
  | 4 => ("PicturesLent$Rule", "term", "I", true)
  | 5 => ("PicturesLent$Rule", "rate", "I", true)
  | _ => ("PicturesLent$Rule", "part", "I", true)
def tyX4 : Nat → FieldType := fun k => match k with
  | 0 => .int
  | 1 => .int
  | 2 => .int
  | 3 => .int
  | 4 => .int
  | 5 => .int
  | _ => .int
abbrev wsX40 : List Cond := u_ws RX4 TX4 7
theorem nmX4 : ∀ a, a < 7 → ∀ b, b < 7 → a ≠ b → (TX4 a).2.1 ≠ (TX4 b).2.1 := by decide +kernel
theorem tyX4_ok : ∀ k, k < 7 → parseFieldDescriptor (TX4 k).2.2.1 = some (tyX4 k) := by decide +kernel
abbrev cX4_init : ByteArray := prog_6_method_1_code
def yX4_init : MethodName := ⟨RX4, "<init>", "(III)V"⟩
abbrev cX4_canBe : ByteArray := prog_6_method_2_code
def yX4_canBe : MethodName := ⟨RX4, "canBe", "(II)Z"⟩
def RX5 : String := "PicturesLent$Wish"
def TX5 : u_T := fun k => match k with
  | 0 => ("PicturesLent$Wish", "number", "I", true)
  | 1 => ("PicturesLent$Wish", "home", "LPicturesLent$Home;", true)
  | 2 => ("PicturesLent$Wish", "work", "LPicturesLent$Work;", true)
  | 3 => ("PicturesLent$Wish", "state", "I", false)
  | 4 => ("PicturesLent$Wish", "standsSince", "I", false)
  | 5 => ("PicturesLent$Wish", "refusals", "I", false)
  | _ => ("PicturesLent$Wish", "refusedOn", "I", false)
def tyX5 : Nat → FieldType := fun k => match k with
  | 0 => .int
  | 1 => .object "PicturesLent$Home"
  | 2 => .object "PicturesLent$Work"
  | 3 => .int
  | 4 => .int
  | 5 => .int
  | _ => .int
abbrev wsX50 : List Cond := u_ws RX5 TX5 7
theorem nmX5 : ∀ a, a < 7 → ∀ b, b < 7 → a ≠ b → (TX5 a).2.1 ≠ (TX5 b).2.1 := by decide +kernel
theorem tyX5_ok : ∀ k, k < 7 → parseFieldDescriptor (TX5 k).2.2.1 = some (tyX5 k) := by decide +kernel
abbrev cX5_init : ByteArray := prog_7_method_1_code
def yX5_init : MethodName := ⟨RX5, "<init>", "(ILPicturesLent$Home;LPicturesLent$Work;I)V"⟩
abbrev cX5_canBeServed : ByteArray := prog_7_method_2_code
def yX5_canBeServed : MethodName := ⟨RX5, "canBeServed", "()Z"⟩
abbrev cX5_rankBy : ByteArray := prog_7_method_3_code
def yX5_rankBy : MethodName := ⟨RX5, "rankBy", "(LPicturesLent$Rule;I)I"⟩
abbrev cX5_refuse : ByteArray := prog_7_method_4_code
def yX5_refuse : MethodName := ⟨RX5, "refuse", "(II)V"⟩
def RX6 : String := "PicturesLent$Work"
def TX6 : u_T := fun k => match k with
  | 0 => ("PicturesLent$Work", "number", "I", true)
  | 1 => ("PicturesLent$Work", "artist", "I", true)
  | 2 => ("PicturesLent$Work", "worth", "I", true)
  | 3 => ("PicturesLent$Work", "points", "I", true)
  | 4 => ("PicturesLent$Work", "rentsOf", "[I", true)
  | 5 => ("PicturesLent$Work", "state", "I", false)
  | 6 => ("PicturesLent$Work", "town", "I", false)
  | 7 => ("PicturesLent$Work", "storedOn", "I", false)
  | 8 => ("PicturesLent$Work", "storeDays", "I", false)
  | 9 => ("PicturesLent$Work", "home", "LPicturesLent$Home;", false)
  | 10 => ("PicturesLent$Work", "lentOn", "I", false)
  | 11 => ("PicturesLent$Work", "term", "I", false)
  | 12 => ("PicturesLent$Work", "timesLent", "I", false)
  | 13 => ("PicturesLent$Work", "looks", "I", false)
  | 14 => ("PicturesLent$Work", "latestLook", "LPicturesLent$Look;", false)
  | _ => ("PicturesLent$Work", "hadBy", "I", false)
def tyX6 : Nat → FieldType := fun k => match k with
  | 0 => .int
  | 1 => .int
  | 2 => .int
  | 3 => .int
  | 4 => .array .int
  | 5 => .int
  | 6 => .int
  | 7 => .int
  | 8 => .int
  | 9 => .object "PicturesLent$Home"
  | 10 => .int
  | 11 => .int
  | 12 => .int
  | 13 => .int
  | 14 => .object "PicturesLent$Look"
  | _ => .int
abbrev wsX60 : List Cond := u_ws RX6 TX6 16
theorem nmX6 : ∀ a, a < 16 → ∀ b, b < 16 → a ≠ b → (TX6 a).2.1 ≠ (TX6 b).2.1 := by decide +kernel
theorem tyX6_ok : ∀ k, k < 16 → parseFieldDescriptor (TX6 k).2.2.1 = some (tyX6 k) := by decide +kernel
abbrev cX6_init : ByteArray := prog_8_method_1_code
def yX6_init : MethodName := ⟨RX6, "<init>", "(IIIII)V"⟩
abbrev cX6_isLent : ByteArray := prog_8_method_2_code
def yX6_isLent : MethodName := ⟨RX6, "isLent", "()Z"⟩
abbrev cX6_isGivenUp : ByteArray := prog_8_method_3_code
def yX6_isGivenUp : MethodName := ⟨RX6, "isGivenUp", "()Z"⟩
abbrev cX6_canBeWishedBy : ByteArray := prog_8_method_4_code
def yX6_canBeWishedBy : MethodName := ⟨RX6, "canBeWishedBy", "(LPicturesLent$Home;)Z"⟩
abbrev cX6_lendTo : ByteArray := prog_8_method_5_code
def yX6_lendTo : MethodName := ⟨RX6, "lendTo", "(LPicturesLent$Home;II)V"⟩
abbrev cX6_leaveHome : ByteArray := prog_8_method_6_code
def yX6_leaveHome : MethodName := ⟨RX6, "leaveHome", "(I)V"⟩
abbrev cX6_comeBack : ByteArray := prog_8_method_7_code
def yX6_comeBack : MethodName := ⟨RX6, "comeBack", "(I)V"⟩
abbrev cX6_daysInStores : ByteArray := prog_8_method_8_code
def yX6_daysInStores : MethodName := ⟨RX6, "daysInStores", "(I)I"⟩
abbrev cX6_daysLate : ByteArray := prog_8_method_9_code
def yX6_daysLate : MethodName := ⟨RX6, "daysLate", "(I)I"⟩
abbrev cX6_rentBy : ByteArray := prog_8_method_10_code
def yX6_rentBy : MethodName := ⟨RX6, "rentBy", "(LPicturesLent$Rule;I)I"⟩
abbrev cX6_priceFor : ByteArray := prog_8_method_11_code
def yX6_priceFor : MethodName := ⟨RX6, "priceFor", "(LPicturesLent$Home;)I"⟩
abbrev cX6_noteLook : ByteArray := prog_8_method_12_code
def yX6_noteLook : MethodName := ⟨RX6, "noteLook", "(I)V"⟩
def RX7 : String := "PicturesLent"
def TX7 : u_T := fun k => match k with
  | 0 => ("PicturesLent", "milesBetween", "[[I", true)
  | 1 => ("PicturesLent", "homes", "Ljava/util/ArrayList;", true)
  | 2 => ("PicturesLent", "works", "Ljava/util/ArrayList;", true)
  | 3 => ("PicturesLent", "wishes", "Ljava/util/ArrayList;", true)
  | 4 => ("PicturesLent", "rules", "Ljava/util/ArrayList;", true)
  | 5 => ("PicturesLent", "ruleAtFirst", "LPicturesLent$Rule;", true)
  | 6 => ("PicturesLent", "artistCoins", "[I", true)
  | 7 => ("PicturesLent", "plan", "LPicturesLent$Plan;", true)
  | 8 => ("PicturesLent", "now", "I", false)
  | 9 => ("PicturesLent", "milesDriven", "I", false)
  | 10 => ("PicturesLent", "allRents", "I", false)
  | 11 => ("PicturesLent", "allSales", "I", false)
  | _ => ("PicturesLent", "allLooks", "I", false)
def tyX7 : Nat → FieldType := fun k => match k with
  | 0 => .array (.array .int)
  | 1 => .object "java/util/ArrayList"
  | 2 => .object "java/util/ArrayList"
  | 3 => .object "java/util/ArrayList"
  | 4 => .object "java/util/ArrayList"
  | 5 => .object "PicturesLent$Rule"
  | 6 => .array .int
  | 7 => .object "PicturesLent$Plan"
  | 8 => .int
  | 9 => .int
  | 10 => .int
  | 11 => .int
  | _ => .int
abbrev wsX70 : List Cond := u_ws RX7 TX7 13
theorem nmX7 : ∀ a, a < 13 → ∀ b, b < 13 → a ≠ b → (TX7 a).2.1 ≠ (TX7 b).2.1 := by decide +kernel
theorem tyX7_ok : ∀ k, k < 13 → parseFieldDescriptor (TX7 k).2.2.1 = some (tyX7 k) := by decide +kernel
abbrev cX7_init : ByteArray := prog_1_method_1_code
def yX7_init : MethodName := ⟨RX7, "<init>", "()V"⟩
abbrev cX7_far : ByteArray := prog_1_method_2_code
def yX7_far : MethodName := ⟨RX7, "far", "(III)Z"⟩
abbrev cX7_home : ByteArray := prog_1_method_3_code
def yX7_home : MethodName := ⟨RX7, "home", "(II)I"⟩
abbrev cX7_work : ByteArray := prog_1_method_4_code
def yX7_work : MethodName := ⟨RX7, "work", "(III)I"⟩
abbrev cX7_rule : ByteArray := prog_1_method_5_code
def yX7_rule : MethodName := ⟨RX7, "rule", "(III)Z"⟩
abbrev cX7_go : ByteArray := prog_1_method_6_code
def yX7_go : MethodName := ⟨RX7, "go", "(I)I"⟩
abbrev cX7_wish : ByteArray := prog_1_method_7_code
def yX7_wish : MethodName := ⟨RX7, "wish", "(II)I"⟩
abbrev cX7_unwish : ByteArray := prog_1_method_8_code
def yX7_unwish : MethodName := ⟨RX7, "unwish", "(I)Z"⟩
abbrev cX7_rank : ByteArray := prog_1_method_9_code
def yX7_rank : MethodName := ⟨RX7, "rank", "(I)I"⟩
abbrev cX7_next : ByteArray := prog_1_method_10_code
def yX7_next : MethodName := ⟨RX7, "next", "(I)I"⟩
abbrev cX7_offer : ByteArray := prog_1_method_11_code
def yX7_offer : MethodName := ⟨RX7, "offer", "(IZ)Z"⟩
abbrev cX7_back : ByteArray := prog_1_method_12_code
def yX7_back : MethodName := ⟨RX7, "back", "(I)I"⟩
abbrev cX7_sell : ByteArray := prog_1_method_13_code
def yX7_sell : MethodName := ⟨RX7, "sell", "(I)I"⟩
abbrev cX7_lose : ByteArray := prog_1_method_14_code
def yX7_lose : MethodName := ⟨RX7, "lose", "(I)Z"⟩
abbrev cX7_pay : ByteArray := prog_1_method_15_code
def yX7_pay : MethodName := ⟨RX7, "pay", "(II)I"⟩
abbrev cX7_look : ByteArray := prog_1_method_16_code
def yX7_look : MethodName := ⟨RX7, "look", "(II)I"⟩
abbrev cX7_blame : ByteArray := prog_1_method_17_code
def yX7_blame : MethodName := ⟨RX7, "blame", "(II)I"⟩
abbrev cX7_planned : ByteArray := prog_1_method_18_code
def yX7_planned : MethodName := ⟨RX7, "planned", "(I)I"⟩
abbrev cX7_miles : ByteArray := prog_1_method_19_code
def yX7_miles : MethodName := ⟨RX7, "miles", "()I"⟩
abbrev cX7_told : ByteArray := prog_1_method_20_code
def yX7_told : MethodName := ⟨RX7, "told", "(II)I"⟩
abbrev cX7_homed : ByteArray := prog_1_method_21_code
def yX7_homed : MethodName := ⟨RX7, "homed", "(II)I"⟩
abbrev cX7_wished : ByteArray := prog_1_method_22_code
def yX7_wished : MethodName := ⟨RX7, "wished", "(II)I"⟩
abbrev cX7_artist : ByteArray := prog_1_method_23_code
def yX7_artist : MethodName := ⟨RX7, "artist", "(I)I"⟩
abbrev cX7_count : ByteArray := prog_1_method_24_code
def yX7_count : MethodName := ⟨RX7, "count", "(I)I"⟩
abbrev cX7_within : ByteArray := prog_1_method_25_code
def yX7_within : MethodName := ⟨RX7, "within", "(III)Z"⟩
abbrev cX7_isTown : ByteArray := prog_1_method_26_code
def yX7_isTown : MethodName := ⟨RX7, "isTown", "(I)Z"⟩
abbrev cX7_isArtist : ByteArray := prog_1_method_27_code
def yX7_isArtist : MethodName := ⟨RX7, "isArtist", "(I)Z"⟩
abbrev cX7_homeOf : ByteArray := prog_1_method_28_code
def yX7_homeOf : MethodName := ⟨RX7, "homeOf", "(I)LPicturesLent$Home;"⟩
abbrev cX7_workOf : ByteArray := prog_1_method_29_code
def yX7_workOf : MethodName := ⟨RX7, "workOf", "(I)LPicturesLent$Work;"⟩
abbrev cX7_lentWork : ByteArray := prog_1_method_30_code
def yX7_lentWork : MethodName := ⟨RX7, "lentWork", "(I)LPicturesLent$Work;"⟩
abbrev cX7_wishOf : ByteArray := prog_1_method_31_code
def yX7_wishOf : MethodName := ⟨RX7, "wishOf", "(I)LPicturesLent$Wish;"⟩
abbrev cX7_openWish : ByteArray := prog_1_method_32_code
def yX7_openWish : MethodName := ⟨RX7, "openWish", "(I)LPicturesLent$Wish;"⟩
abbrev cX7_ruleOn : ByteArray := prog_1_method_33_code
def yX7_ruleOn : MethodName := ⟨RX7, "ruleOn", "(I)LPicturesLent$Rule;"⟩
abbrev cX7_hasOpenWish : ByteArray := prog_1_method_34_code
def yX7_hasOpenWish : MethodName := ⟨RX7, "hasOpenWish", "(LPicturesLent$Home;LPicturesLent$Work;)Z"⟩
abbrev cX7_openWishes : ByteArray := prog_1_method_35_code
def yX7_openWishes : MethodName := ⟨RX7, "openWishes", "()I"⟩
abbrev cX7_nextFor : ByteArray := prog_1_method_36_code
def yX7_nextFor : MethodName := ⟨RX7, "nextFor", "(LPicturesLent$Work;)LPicturesLent$Wish;"⟩
abbrev cX7_milesFor : ByteArray := prog_1_method_37_code
def yX7_milesFor : MethodName := ⟨RX7, "milesFor", "(LPicturesLent$Wish;)I"⟩
abbrev cX7_chargeRent : ByteArray := prog_1_method_38_code
def yX7_chargeRent : MethodName := ⟨RX7, "chargeRent", "(LPicturesLent$Work;LPicturesLent$Home;)I"⟩
abbrev cX7_giveUp : ByteArray := prog_1_method_39_code
def yX7_giveUp : MethodName := ⟨RX7, "giveUp", "(LPicturesLent$Work;I)V"⟩
abbrev cX7_makePlan : ByteArray := prog_1_method_40_code
def yX7_makePlan : MethodName := ⟨RX7, "makePlan", "()Z"⟩
def RX8 : String := "PicturesLentModel"
def TX8 : u_T := fun k => match k with
  | 0 => ("PicturesLentModel", "now", "I", false)
  | 1 => ("PicturesLentModel", "far", "[[I", true)
  | 2 => ("PicturesLentModel", "rules", "[[I", true)
  | 3 => ("PicturesLentModel", "ruleMany", "I", false)
  | 4 => ("PicturesLentModel", "plain", "[I", true)
  | 5 => ("PicturesLentModel", "town", "[I", true)
  | 6 => ("PicturesLentModel", "most", "[I", true)
  | 7 => ("PicturesLentModel", "gotOn", "[I", true)
  | 8 => ("PicturesLentModel", "owes", "[I", true)
  | 9 => ("PicturesLentModel", "rentsOf", "[I", true)
  | 10 => ("PicturesLentModel", "homes", "I", false)
  | 11 => ("PicturesLentModel", "artist", "[I", true)
  | 12 => ("PicturesLentModel", "worth", "[I", true)
  | 13 => ("PicturesLentModel", "state", "[I", true)
  | 14 => ("PicturesLentModel", "holder", "[I", true)
  | 15 => ("PicturesLentModel", "store", "[I", true)
  | 16 => ("PicturesLentModel", "lentOn", "[I", true)
  | 17 => ("PicturesLentModel", "term", "[I", true)
  | 18 => ("PicturesLentModel", "lentMany", "[I", true)
  | 19 => ("PicturesLentModel", "stored", "[I", true)
  | 20 => ("PicturesLentModel", "storedOn", "[I", true)
  | 21 => ("PicturesLentModel", "hadSince", "[I", true)
  | 22 => ("PicturesLentModel", "rents", "[[I", true)
  | 23 => ("PicturesLentModel", "works", "I", false)
  | 24 => ("PicturesLentModel", "wishHome", "[I", true)
  | 25 => ("PicturesLentModel", "wishWork", "[I", true)
  | 26 => ("PicturesLentModel", "wishState", "[I", true)
  | 27 => ("PicturesLentModel", "since", "[I", true)
  | 28 => ("PicturesLentModel", "refusals", "[I", true)
  | 29 => ("PicturesLentModel", "refusedOn", "[I", true)
  | 30 => ("PicturesLentModel", "wishes", "I", false)
  | 31 => ("PicturesLentModel", "lookWork", "[I", true)
  | 32 => ("PicturesLentModel", "lookMarks", "[I", true)
  | 33 => ("PicturesLentModel", "lookHad", "[I", true)
  | 34 => ("PicturesLentModel", "looks", "I", false)
  | 35 => ("PicturesLentModel", "got", "[I", true)
  | 36 => ("PicturesLentModel", "driven", "I", false)
  | 37 => ("PicturesLentModel", "rentsAll", "I", false)
  | 38 => ("PicturesLentModel", "sales", "I", false)
  | 39 => ("PicturesLentModel", "asked", "[I", true)
  | 40 => ("PicturesLentModel", "line", "[I", true)
  | 41 => ("PicturesLentModel", "bestLine", "[I", true)
  | 42 => ("PicturesLentModel", "optionMany", "[I", true)
  | 43 => ("PicturesLentModel", "options", "[[I", true)
  | 44 => ("PicturesLentModel", "askedMany", "I", false)
  | 45 => ("PicturesLentModel", "bestServed", "I", false)
  | _ => ("PicturesLentModel", "bestMiles", "I", false)
def tyX8 : Nat → FieldType := fun k => match k with
  | 0 => .int
  | 1 => .array (.array .int)
  | 2 => .array (.array .int)
  | 3 => .int
  | 4 => .array .int
  | 5 => .array .int
  | 6 => .array .int
  | 7 => .array .int
  | 8 => .array .int
  | 9 => .array .int
  | 10 => .int
  | 11 => .array .int
  | 12 => .array .int
  | 13 => .array .int
  | 14 => .array .int
  | 15 => .array .int
  | 16 => .array .int
  | 17 => .array .int
  | 18 => .array .int
  | 19 => .array .int
  | 20 => .array .int
  | 21 => .array .int
  | 22 => .array (.array .int)
  | 23 => .int
  | 24 => .array .int
  | 25 => .array .int
  | 26 => .array .int
  | 27 => .array .int
  | 28 => .array .int
  | 29 => .array .int
  | 30 => .int
  | 31 => .array .int
  | 32 => .array .int
  | 33 => .array .int
  | 34 => .int
  | 35 => .array .int
  | 36 => .int
  | 37 => .int
  | 38 => .int
  | 39 => .array .int
  | 40 => .array .int
  | 41 => .array .int
  | 42 => .array .int
  | 43 => .array (.array .int)
  | 44 => .int
  | 45 => .int
  | _ => .int
abbrev wsX80 : List Cond := u_ws RX8 TX8 47
theorem nmX8 : ∀ a, a < 47 → ∀ b, b < 47 → a ≠ b → (TX8 a).2.1 ≠ (TX8 b).2.1 := by decide +kernel
theorem tyX8_ok : ∀ k, k < 47 → parseFieldDescriptor (TX8 k).2.2.1 = some (tyX8 k) := by decide +kernel
abbrev cX8_init : ByteArray := prog_10_method_1_code
def yX8_init : MethodName := ⟨RX8, "<init>", "()V"⟩
abbrev cX8_in : ByteArray := prog_10_method_2_code
def yX8_in : MethodName := ⟨RX8, "in", "(III)Z"⟩
abbrev cX8_isHome : ByteArray := prog_10_method_3_code
def yX8_isHome : MethodName := ⟨RX8, "isHome", "(I)Z"⟩
abbrev cX8_isWork : ByteArray := prog_10_method_4_code
def yX8_isWork : MethodName := ⟨RX8, "isWork", "(I)Z"⟩
abbrev cX8_far : ByteArray := prog_10_method_5_code
def yX8_far : MethodName := ⟨RX8, "far", "(III)Z"⟩
abbrev cX8_home : ByteArray := prog_10_method_6_code
def yX8_home : MethodName := ⟨RX8, "home", "(II)I"⟩
abbrev cX8_work : ByteArray := prog_10_method_7_code
def yX8_work : MethodName := ⟨RX8, "work", "(III)I"⟩
abbrev cX8_rule : ByteArray := prog_10_method_8_code
def yX8_rule : MethodName := ⟨RX8, "rule", "(III)Z"⟩
abbrev cX8_ruled : ByteArray := prog_10_method_9_code
def yX8_ruled : MethodName := ⟨RX8, "ruled", "(II)I"⟩
abbrev cX8_go : ByteArray := prog_10_method_10_code
def yX8_go : MethodName := ⟨RX8, "go", "(I)I"⟩
abbrev cX8_openOf : ByteArray := prog_10_method_11_code
def yX8_openOf : MethodName := ⟨RX8, "openOf", "(II)I"⟩
abbrev cX8_wish : ByteArray := prog_10_method_12_code
def yX8_wish : MethodName := ⟨RX8, "wish", "(II)I"⟩
abbrev cX8_isOpen : ByteArray := prog_10_method_13_code
def yX8_isOpen : MethodName := ⟨RX8, "isOpen", "(I)Z"⟩
abbrev cX8_unwish : ByteArray := prog_10_method_14_code
def yX8_unwish : MethodName := ⟨RX8, "unwish", "(I)Z"⟩
abbrev cX8_rankOf : ByteArray := prog_10_method_15_code
def yX8_rankOf : MethodName := ⟨RX8, "rankOf", "(I)I"⟩
abbrev cX8_rank : ByteArray := prog_10_method_16_code
def yX8_rank : MethodName := ⟨RX8, "rank", "(I)I"⟩
abbrev cX8_points : ByteArray := prog_10_method_17_code
def yX8_points : MethodName := ⟨RX8, "points", "(I)I"⟩
abbrev cX8_lent : ByteArray := prog_10_method_18_code
def yX8_lent : MethodName := ⟨RX8, "lent", "(IZ)I"⟩
abbrev cX8_hasRoom : ByteArray := prog_10_method_19_code
def yX8_hasRoom : MethodName := ⟨RX8, "hasRoom", "(II)Z"⟩
abbrev cX8_next : ByteArray := prog_10_method_20_code
def yX8_next : MethodName := ⟨RX8, "next", "(I)I"⟩
abbrev cX8_offer : ByteArray := prog_10_method_21_code
def yX8_offer : MethodName := ⟨RX8, "offer", "(IZ)Z"⟩
abbrev cX8_rented : ByteArray := prog_10_method_22_code
def yX8_rented : MethodName := ⟨RX8, "rented", "(I)I"⟩
abbrev cX8_isLent : ByteArray := prog_10_method_23_code
def yX8_isLent : MethodName := ⟨RX8, "isLent", "(I)Z"⟩
abbrev cX8_back : ByteArray := prog_10_method_24_code
def yX8_back : MethodName := ⟨RX8, "back", "(I)I"⟩
abbrev cX8_ends : ByteArray := prog_10_method_25_code
def yX8_ends : MethodName := ⟨RX8, "ends", "(II)V"⟩
abbrev cX8_sell : ByteArray := prog_10_method_26_code
def yX8_sell : MethodName := ⟨RX8, "sell", "(I)I"⟩
abbrev cX8_lose : ByteArray := prog_10_method_27_code
def yX8_lose : MethodName := ⟨RX8, "lose", "(I)Z"⟩
abbrev cX8_pay : ByteArray := prog_10_method_28_code
def yX8_pay : MethodName := ⟨RX8, "pay", "(II)I"⟩
abbrev cX8_look : ByteArray := prog_10_method_29_code
def yX8_look : MethodName := ⟨RX8, "look", "(II)I"⟩
abbrev cX8_blame : ByteArray := prog_10_method_30_code
def yX8_blame : MethodName := ⟨RX8, "blame", "(II)I"⟩
abbrev cX8_couldHave : ByteArray := prog_10_method_31_code
def yX8_couldHave : MethodName := ⟨RX8, "couldHave", "(II)Z"⟩
abbrev cX8_tries : ByteArray := prog_10_method_32_code
def yX8_tries : MethodName := ⟨RX8, "tries", "(IIII)V"⟩
abbrev cX8_plans : ByteArray := prog_10_method_33_code
def yX8_plans : MethodName := ⟨RX8, "plans", "()Z"⟩
abbrev cX8_planned : ByteArray := prog_10_method_34_code
def yX8_planned : MethodName := ⟨RX8, "planned", "(I)I"⟩
abbrev cX8_miles : ByteArray := prog_10_method_35_code
def yX8_miles : MethodName := ⟨RX8, "miles", "()I"⟩
abbrev cX8_told : ByteArray := prog_10_method_36_code
def yX8_told : MethodName := ⟨RX8, "told", "(II)I"⟩
abbrev cX8_homed : ByteArray := prog_10_method_37_code
def yX8_homed : MethodName := ⟨RX8, "homed", "(II)I"⟩
abbrev cX8_wished : ByteArray := prog_10_method_38_code
def yX8_wished : MethodName := ⟨RX8, "wished", "(II)I"⟩
abbrev cX8_artist : ByteArray := prog_10_method_39_code
def yX8_artist : MethodName := ⟨RX8, "artist", "(I)I"⟩
abbrev cX8_count : ByteArray := prog_10_method_40_code
def yX8_count : MethodName := ⟨RX8, "count", "(I)I"⟩
def RJx145de : String := "java/io/Serializable"
def TJx145de : u_T := fun k => match k with
  | _ => ("", "", "", false)
def tyJx145de : Nat → FieldType := fun k => match k with
  | _ => .int
abbrev wsJx145de0 : List Cond := u_ws RJx145de TJx145de 0
theorem nmJx145de : ∀ a, a < 0 → ∀ b, b < 0 → a ≠ b → (TJx145de a).2.1 ≠ (TJx145de b).2.1 := by decide +kernel
theorem tyJx145de_ok : ∀ k, k < 0 → parseFieldDescriptor (TJx145de k).2.2.1 = some (tyJx145de k) := by decide +kernel
def RJx8e188 : String := "java/lang/Cloneable"
def TJx8e188 : u_T := fun k => match k with
  | _ => ("", "", "", false)
def tyJx8e188 : Nat → FieldType := fun k => match k with
  | _ => .int
abbrev wsJx8e1880 : List Cond := u_ws RJx8e188 TJx8e188 0
theorem nmJx8e188 : ∀ a, a < 0 → ∀ b, b < 0 → a ≠ b → (TJx8e188 a).2.1 ≠ (TJx8e188 b).2.1 := by decide +kernel
theorem tyJx8e188_ok : ∀ k, k < 0 → parseFieldDescriptor (TJx8e188 k).2.2.1 = some (tyJx8e188 k) := by decide +kernel
def RJxab1ab : String := "java/lang/Iterable"
def TJxab1ab : u_T := fun k => match k with
  | _ => ("", "", "", false)
def tyJxab1ab : Nat → FieldType := fun k => match k with
  | _ => .int
abbrev wsJxab1ab0 : List Cond := u_ws RJxab1ab TJxab1ab 0
theorem nmJxab1ab : ∀ a, a < 0 → ∀ b, b < 0 → a ≠ b → (TJxab1ab a).2.1 ≠ (TJxab1ab b).2.1 := by decide +kernel
theorem tyJxab1ab_ok : ∀ k, k < 0 → parseFieldDescriptor (TJxab1ab k).2.2.1 = some (tyJxab1ab k) := by decide +kernel
def RJ9 : String := "java/lang/Math"
def TJ9 : u_T := fun k => match k with
  | _ => ("", "", "", false)
def tyJ9 : Nat → FieldType := fun k => match k with
  | _ => .int
abbrev wsJ90 : List Cond := u_ws RJ9 TJ9 0
theorem nmJ9 : ∀ a, a < 0 → ∀ b, b < 0 → a ≠ b → (TJ9 a).2.1 ≠ (TJ9 b).2.1 := by decide +kernel
theorem tyJ9_ok : ∀ k, k < 0 → parseFieldDescriptor (TJ9 k).2.2.1 = some (tyJ9 k) := by decide +kernel
abbrev cJ9_max_7cf53 : ByteArray := prog_14_method_65_code
def yJ9_max_7cf53 : MethodName := ⟨RJ9, "max", "(II)I"⟩
abbrev cJ9_min_7cf53 : ByteArray := prog_14_method_69_code
def yJ9_min_7cf53 : MethodName := ⟨RJ9, "min", "(II)I"⟩
def RJ10 : String := "java/lang/System"
def TJ10 : u_T := fun k => match k with
  | _ => ("", "", "", false)
def tyJ10 : Nat → FieldType := fun k => match k with
  | _ => .int
abbrev wsJ100 : List Cond := u_ws RJ10 TJ10 0
theorem nmJ10 : ∀ a, a < 0 → ∀ b, b < 0 → a ≠ b → (TJ10 a).2.1 ≠ (TJ10 b).2.1 := by decide +kernel
theorem tyJ10_ok : ∀ k, k < 0 → parseFieldDescriptor (TJ10 k).2.2.1 = some (tyJ10 k) := by decide +kernel
def RJxa1e45 : String := "java/util/AbstractCollection"
def TJxa1e45 : u_T := fun k => match k with
  | _ => ("", "", "", false)
def tyJxa1e45 : Nat → FieldType := fun k => match k with
  | _ => .int
abbrev wsJxa1e450 : List Cond := u_ws RJxa1e45 TJxa1e45 0
theorem nmJxa1e45 : ∀ a, a < 0 → ∀ b, b < 0 → a ≠ b → (TJxa1e45 a).2.1 ≠ (TJxa1e45 b).2.1 := by decide +kernel
theorem tyJxa1e45_ok : ∀ k, k < 0 → parseFieldDescriptor (TJxa1e45 k).2.2.1 = some (tyJxa1e45 k) := by decide +kernel
abbrev cJxa1e45_init_da8c8 : ByteArray := prog_16_method_1_code
def yJxa1e45_init_da8c8 : MethodName := ⟨RJxa1e45, "<init>", "()V"⟩
def RJxc12de : String := "java/util/AbstractList"
def TJxc12de : u_T := fun k => match k with
  | _ => ("", "", "", false)
def tyJxc12de : Nat → FieldType := fun k => match k with
  | _ => .int
abbrev wsJxc12de0 : List Cond := u_ws RJxc12de TJxc12de 0
theorem nmJxc12de : ∀ a, a < 0 → ∀ b, b < 0 → a ≠ b → (TJxc12de a).2.1 ≠ (TJxc12de b).2.1 := by decide +kernel
theorem tyJxc12de_ok : ∀ k, k < 0 → parseFieldDescriptor (TJxc12de k).2.2.1 = some (tyJxc12de k) := by decide +kernel
abbrev cJxc12de_init_da8c8 : ByteArray := prog_17_method_1_code
def yJxc12de_init_da8c8 : MethodName := ⟨RJxc12de, "<init>", "()V"⟩
def RJx4a65c : String := "java/util/ArrayList"
def TJx4a65c : u_T := fun k => match k with
  | 0 => ("java/util/AbstractList", "modCount", "I", false)
  | 1 => ("java/util/ArrayList", "elementData", "[Ljava/lang/Object;", false)
  | _ => ("java/util/ArrayList", "size", "I", false)
def tyJx4a65c : Nat → FieldType := fun k => match k with
  | 0 => .int
  | 1 => .array (.object "java/lang/Object")
  | _ => .int
abbrev wsJx4a65c0 : List Cond := u_ws RJx4a65c TJx4a65c 3
theorem nmJx4a65c : ∀ a, a < 3 → ∀ b, b < 3 → a ≠ b → (TJx4a65c a).2.1 ≠ (TJx4a65c b).2.1 := by decide +kernel
theorem tyJx4a65c_ok : ∀ k, k < 3 → parseFieldDescriptor (TJx4a65c k).2.2.1 = some (tyJx4a65c k) := by decide +kernel
abbrev cJx4a65c_init_da8c8 : ByteArray := prog_18_method_2_code
def yJx4a65c_init_da8c8 : MethodName := ⟨RJx4a65c, "<init>", "()V"⟩
abbrev cJx4a65c_grow_92f84 : ByteArray := prog_18_method_6_code
def yJx4a65c_grow_92f84 : MethodName := ⟨RJx4a65c, "grow", "(I)[Ljava/lang/Object;"⟩
abbrev cJx4a65c_grow_d5877 : ByteArray := prog_18_method_7_code
def yJx4a65c_grow_d5877 : MethodName := ⟨RJx4a65c, "grow", "()[Ljava/lang/Object;"⟩
abbrev cJx4a65c_size_8abf5 : ByteArray := prog_18_method_8_code
def yJx4a65c_size_8abf5 : MethodName := ⟨RJx4a65c, "size", "()I"⟩
abbrev cJx4a65c_elementData_915e3 : ByteArray := prog_18_method_18_code
def yJx4a65c_elementData_915e3 : MethodName := ⟨RJx4a65c, "elementData", "(I)Ljava/lang/Object;"⟩
abbrev cJx4a65c_get_915e3 : ByteArray := prog_18_method_20_code
def yJx4a65c_get_915e3 : MethodName := ⟨RJx4a65c, "get", "(I)Ljava/lang/Object;"⟩
abbrev cJx4a65c_add_72be8 : ByteArray := prog_18_method_24_code
def yJx4a65c_add_72be8 : MethodName := ⟨RJx4a65c, "add", "(Ljava/lang/Object;[Ljava/lang/Object;I)V"⟩
abbrev cJx4a65c_add_9ea2d : ByteArray := prog_18_method_25_code
def yJx4a65c_add_9ea2d : MethodName := ⟨RJx4a65c, "add", "(Ljava/lang/Object;)Z"⟩
def RJ7 : String := "java/util/Arrays"
def TJ7 : u_T := fun k => match k with
  | _ => ("", "", "", false)
def tyJ7 : Nat → FieldType := fun k => match k with
  | _ => .int
abbrev wsJ70 : List Cond := u_ws RJ7 TJ7 0
theorem nmJ7 : ∀ a, a < 0 → ∀ b, b < 0 → a ≠ b → (TJ7 a).2.1 ≠ (TJ7 b).2.1 := by decide +kernel
theorem tyJ7_ok : ∀ k, k < 0 → parseFieldDescriptor (TJ7 k).2.2.1 = some (tyJ7 k) := by decide +kernel
abbrev cJ7_copyOf_1904c : ByteArray := prog_19_method_119_code
def yJ7_copyOf_1904c : MethodName := ⟨RJ7, "copyOf", "([Ljava/lang/Object;I)[Ljava/lang/Object;"⟩
abbrev cJ7_copyOf_6403c : ByteArray := prog_19_method_120_code
def yJ7_copyOf_6403c : MethodName := ⟨RJ7, "copyOf", "([Ljava/lang/Object;ILjava/lang/Class;)[Ljava/lang/Object;"⟩
def RJx5ef63 : String := "java/util/Collection"
def TJx5ef63 : u_T := fun k => match k with
  | _ => ("", "", "", false)
def tyJx5ef63 : Nat → FieldType := fun k => match k with
  | _ => .int
abbrev wsJx5ef630 : List Cond := u_ws RJx5ef63 TJx5ef63 0
theorem nmJx5ef63 : ∀ a, a < 0 → ∀ b, b < 0 → a ≠ b → (TJx5ef63 a).2.1 ≠ (TJx5ef63 b).2.1 := by decide +kernel
theorem tyJx5ef63_ok : ∀ k, k < 0 → parseFieldDescriptor (TJx5ef63 k).2.2.1 = some (tyJx5ef63 k) := by decide +kernel
def RJxbd725 : String := "java/util/List"
def TJxbd725 : u_T := fun k => match k with
  | _ => ("", "", "", false)
def tyJxbd725 : Nat → FieldType := fun k => match k with
  | _ => .int
abbrev wsJxbd7250 : List Cond := u_ws RJxbd725 TJxbd725 0
theorem nmJxbd725 : ∀ a, a < 0 → ∀ b, b < 0 → a ≠ b → (TJxbd725 a).2.1 ≠ (TJxbd725 b).2.1 := by decide +kernel
theorem tyJxbd725_ok : ∀ k, k < 0 → parseFieldDescriptor (TJxbd725 k).2.2.1 = some (tyJxbd725 k) := by decide +kernel
def RJ15 : String := "java/util/Objects"
def TJ15 : u_T := fun k => match k with
  | _ => ("", "", "", false)
def tyJ15 : Nat → FieldType := fun k => match k with
  | _ => .int
abbrev wsJ150 : List Cond := u_ws RJ15 TJ15 0
theorem nmJ15 : ∀ a, a < 0 → ∀ b, b < 0 → a ≠ b → (TJ15 a).2.1 ≠ (TJ15 b).2.1 := by decide +kernel
theorem tyJ15_ok : ∀ k, k < 0 → parseFieldDescriptor (TJ15 k).2.2.1 = some (tyJ15 k) := by decide +kernel
abbrev cJ15_checkIndex_7cf53 : ByteArray := prog_22_method_17_code
def yJ15_checkIndex_7cf53 : MethodName := ⟨RJ15, "checkIndex", "(II)I"⟩
def RJxf0a74 : String := "java/util/RandomAccess"
def TJxf0a74 : u_T := fun k => match k with
  | _ => ("", "", "", false)
def tyJxf0a74 : Nat → FieldType := fun k => match k with
  | _ => .int
abbrev wsJxf0a740 : List Cond := u_ws RJxf0a74 TJxf0a74 0
theorem nmJxf0a74 : ∀ a, a < 0 → ∀ b, b < 0 → a ≠ b → (TJxf0a74 a).2.1 ≠ (TJxf0a74 b).2.1 := by decide +kernel
theorem tyJxf0a74_ok : ∀ k, k < 0 → parseFieldDescriptor (TJxf0a74 k).2.2.1 = some (tyJxf0a74 k) := by decide +kernel
def RJxa66e6 : String := "java/util/SequencedCollection"
def TJxa66e6 : u_T := fun k => match k with
  | _ => ("", "", "", false)
def tyJxa66e6 : Nat → FieldType := fun k => match k with
  | _ => .int
abbrev wsJxa66e60 : List Cond := u_ws RJxa66e6 TJxa66e6 0
theorem nmJxa66e6 : ∀ a, a < 0 → ∀ b, b < 0 → a ≠ b → (TJxa66e6 a).2.1 ≠ (TJxa66e6 b).2.1 := by decide +kernel
theorem tyJxa66e6_ok : ∀ k, k < 0 → parseFieldDescriptor (TJxa66e6 k).2.2.1 = some (tyJxa66e6 k) := by decide +kernel
def RJ8 : String := "jdk/internal/util/ArraysSupport"
def TJ8 : u_T := fun k => match k with
  | _ => ("", "", "", false)
def tyJ8 : Nat → FieldType := fun k => match k with
  | _ => .int
abbrev wsJ80 : List Cond := u_ws RJ8 TJ8 0
theorem nmJ8 : ∀ a, a < 0 → ∀ b, b < 0 → a ≠ b → (TJ8 a).2.1 ≠ (TJ8 b).2.1 := by decide +kernel
theorem tyJ8_ok : ∀ k, k < 0 → parseFieldDescriptor (TJ8 k).2.2.1 = some (tyJ8 k) := by decide +kernel
abbrev cJ8_newLength_cabcc : ByteArray := prog_25_method_27_code
def yJ8_newLength_cabcc : MethodName := ⟨RJ8, "newLength", "(III)I"⟩
abbrev cJ8_hugeLength_7cf53 : ByteArray := prog_25_method_28_code
def yJ8_hugeLength_7cf53 : MethodName := ⟨RJ8, "hugeLength", "(II)I"⟩
def RJ3 : String := "jdk/internal/util/Preconditions"
def TJ3 : u_T := fun k => match k with
  | _ => ("", "", "", false)
def tyJ3 : Nat → FieldType := fun k => match k with
  | _ => .int
abbrev wsJ30 : List Cond := u_ws RJ3 TJ3 0
theorem nmJ3 : ∀ a, a < 0 → ∀ b, b < 0 → a ≠ b → (TJ3 a).2.1 ≠ (TJ3 b).2.1 := by decide +kernel
theorem tyJ3_ok : ∀ k, k < 0 → parseFieldDescriptor (TJ3 k).2.2.1 = some (tyJ3 k) := by decide +kernel
abbrev cJ3_checkIndex_8e157 : ByteArray := prog_26_method_11_code
def yJ3_checkIndex_8e157 : MethodName := ⟨RJ3, "checkIndex", "(IILjava/util/function/BiFunction;)I"⟩
def RL : String := "PicturesLentLaw"
abbrev cL_law : ByteArray := code
def yL_law : MethodName := ⟨RL, "law", "([I)Z"⟩
abbrev vwCl : List vw_C := [(RJx4a65c, TJx4a65c, 3), (RX0, TX0, 6), (RX1, TX1, 8), (RX2, TX2, 3), (RX3, TX3, 5), (RX4, TX4, 7), (RX5, TX5, 7), (RX6, TX6, 16), (RX7, TX7, 13), (RX8, TX8, 47)]
