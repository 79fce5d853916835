/-! WHAT A ROW OF INSTRUCTIONS ASKS FOR, over the abstract machine -/
def ab_uI (hi : ab_I) (K i j : Nat) (x : Int32) (K' i' j' : Nat) : Int32 := if K' = K then (if i' = i then (if j' = j then x else hi K' i' j') else hi K' i' j') else hi K' i' j'
def ab_uR (hr : ab_R) (K i j : Nat) (r : Option (Nat × Nat)) (K' i' j' : Nat) : Option (Nat × Nat) := if K' = K then (if i' = i then (if j' = j then r else hr K' i' j') else hr K' i' j') else hr K' i' j'
def ab_zI (hi : ab_I) (K i : Nat) (K' i' j' : Nat) : Int32 := if K' = K then (if i' = i then 0 else hi K' i' j') else hi K' i' j'
def ab_zR (hr : ab_R) (K i : Nat) (K' i' j' : Nat) : Option (Nat × Nat) := if K' = K then (if i' = i then none else hr K' i' j') else hr K' i' j'
def ab_uC (cn : ab_C) (K n K' : Nat) : Nat := if K' = K then n else cn K'
/-- new T[n][m]: the outer array and n rows -/
def ab_mI (hi : ab_I) (cn : ab_C) (K Kr n : Nat) (K' i' j' : Nat) : Int32 := if K' = K ∧ i' = cn K then 0 else if K' = Kr ∧ cn Kr ≤ i' ∧ i' < cn Kr + n then 0 else hi K' i' j'
def ab_mR (hr : ab_R) (cn : ab_C) (K Kr n : Nat) (K' i' j' : Nat) : Option (Nat × Nat) := if K' = K ∧ i' = cn K then some (Kr, cn Kr + j') else if K' = Kr ∧ cn Kr ≤ i' ∧ i' < cn Kr + n then none else hr K' i' j'
def ab_lk : ab_L → Nat → Option ab_V
  | [], _ => none
  | q :: L, i => if q.1 = i then some q.2 else ab_lk L i
def ab_st : ab_L → Nat → ab_V → ab_L
  | [], i, v => [(i, v)]
  | q :: L, i, v => if q.1 = i then (i, v) :: L else q :: ab_st L i v
def ab_cst (f a : Nat) : Int32 := if f = 0 then nI a else if f = 1 then -1 else -2
def ab_ext (ad : ab_A) (cn : ab_C) (ad' : ab_A) (cn' : ab_C) : Prop := (∀ K i, i < cn K → ad' K i = ad K i) ∧ ∀ K, cn K ≤ cn' K
abbrev ab_Q : Type := Option ab_V → ab_I → ab_R → ab_C → Prop
/-- a place in a method: its locals, stack, heap, and what cells it may still make -/
abbrev ab_J : Type := Nat → ab_L → List ab_V → ab_I → ab_R → ab_C → Nat → Nat → Prop
abbrev ab_N1 : Type := ab_L → List ab_V → ab_I → ab_R → ab_C → Nat → Nat → Prop
def ab_rm (d mc ms : Nat) : Room := { frames := d + 1, cells := mc, slots := ms, locals := 40 * d + 40 }
def ab_ws (M : ab_M) : List Cond := Cond.code M.1 M.2.1 M.2.2.1 M.2.2.2.1 :: ab_ALL
def ab_Pc (E : ab_E) (ad : ab_A) (as : List ab_V) (hi : ab_I) (hr : ab_R) (cn : ab_C) : Array Value → State → Prop := va_Pc (as.map (ab_cv ad)) (fun U => ab_Rp E ad hi hr cn U.heap ∧ ab_K E U U.heap ∧ ∀ v ∈ as, ab_lv cn v)
def ab_Qc (E : ab_E) (ad : ab_A) (cn : ab_C) (Q : ab_Q) : Array Value → State → Outcome → State → Prop := fun _ st oc t =>
  (∃ (v : Option ab_V) (hi' : ab_I) (hr' : ab_R) (cn' : ab_C) (ad' : ab_A), oc = .returned (v.map (ab_cv ad')) ∧ Q v hi' hr' cn' ∧ ab_Rp E ad' hi' hr' cn' t.heap ∧ ab_ext ad cn ad' cn' ∧ ∀ w, v = some w → ab_lv cn' w) ∧ va_F (fun q => ab_lo E ≤ q) st t
/-- METHOD y, from these arguments and this heap, comes to its end, with Q; d: how deep its calls may go -/
def ab_Wm (E : ab_E) (d y : Nat) (as : List ab_V) (hi : ab_I) (hr : ab_R) (cn : ab_C) (Q : ab_Q) : Prop :=
  ∀ ad : ab_A, Met (ab_l E) (ab_mt y).1 (ab_ws (ab_mt y)) (ab_rm d (ab_mc y) (ab_mS y)) (ab_Pc E ad as hi hr cn) (ab_Qc E ad cn Q) (ab_mc y) (ab_mS y) (fun q => ab_lo E ≤ q)
/-- instruction, length, and what a program has looked up: two numbers, a mark, places of words (or a switch's targets) -/
abbrev ab_P : Type := Instr × Nat × Nat × Nat × Nat × List Nat
def ab_ns : Option (Nat × Nat) → Bool
  | none => true
  | some (K, _) => K != 201
/-- the kinds that are arrays of ints; of references; of references to objects -/
def ab_ia (K : Nat) : Bool := decide (10 ≤ K) && decide (K < 200) && ab_tg K == 1
def ab_ra (K : Nat) : Bool := decide (10 ≤ K) && decide (K < 200) && decide (2 ≤ ab_tg K)
def ab_oa (K : Nat) : Bool := decide (10 ≤ K) && decide (K < 200) && decide (2 ≤ ab_tg K) && decide (ab_tg K ≤ 4)
/-- the arguments of a call off the stack -/
def ab_tk (b : Nat) (st : List ab_V) : Option (List ab_V × List ab_V) :=
  if b = 0 then some ([], st)
  else if b = 1 then (match st with | x1 :: s => some ([x1], s) | _ => none)
  else if b = 2 then (match st with | x2 :: x1 :: s => some ([x1, x2], s) | _ => none)
  else if b = 3 then (match st with | x3 :: x2 :: x1 :: s => some ([x1, x2, x3], s) | _ => none)
  else if b = 4 then (match st with | x4 :: x3 :: x2 :: x1 :: s => some ([x1, x2, x3, x4], s) | _ => none)
  else if b = 5 then (match st with | x5 :: x4 :: x3 :: x2 :: x1 :: s => some ([x1, x2, x3, x4, x5], s) | _ => none)
  else none
def ab_sw (x : Int32) (J : Nat → Prop) : List Nat → Nat → Prop
  | [], _ => True
  | t :: ts, n => (x = nI n → J t) ∧ ab_sw x J ts (n + 1)
/-- an index within; the place that it names -/
def ab_in (x : Int32) (n : Nat) : Prop := ∃ m : Nat, m < n ∧ m < 100000 ∧ x = nI m
noncomputable def ab_ix (x : Int32) : Nat := @dite Nat (∃ m : Nat, m < 100000 ∧ x = nI m) (Classical.propDecidable _) (fun h => Classical.choose h) (fun _ => 0)
theorem ab_ix_nI {m : Nat} (h : m < 100000) : ab_ix (nI m) = m := by
  have hex : ∃ m' : Nat, m' < 100000 ∧ nI m = nI m' := ⟨m, h, rfl⟩
  unfold ab_ix
  rw [dif_pos hex]
  have hs := Classical.choose_spec hex
  exact ((nI_eq (by omega) (by omega)).mp hs.2).symm
def ab_fitA (t : Nat) (r : Option (Nat × Nat)) : Prop := ∀ K i, r = some (K, i) → K < 10 ∧ (t = 2 → K = 1) ∧ (t = 3 → K = 6)
def ab_v1 (E : ab_E) (d rk : Nat) (Q : ab_Q) (J : ab_J) (q : ab_P) (L : ab_L) (st : List ab_V) (hi : ab_I) (hr : ab_R) (cn : ab_C) (ck cs : Nat) (k : ab_N1) : Prop :=
  match q.1 with
  | .iload i => (match ab_lk L i with | some (.inl x) => k L (.inl x :: st) hi hr cn ck cs | _ => False)
  | .iload_n _ => (match ab_lk L q.2.2.1 with | some (.inl x) => k L (.inl x :: st) hi hr cn ck cs | _ => False)
  | .aload i => (match ab_lk L i with | some (.inr r) => k L (.inr r :: st) hi hr cn ck cs | _ => False)
  | .aload_n _ => (match ab_lk L q.2.2.1 with | some (.inr r) => k L (.inr r :: st) hi hr cn ck cs | _ => False)
  | .istore i => (match st with | .inl x :: s => k (ab_st L i (.inl x)) s hi hr cn ck cs | _ => False)
  | .istore_n _ => (match st with | .inl x :: s => k (ab_st L q.2.2.1 (.inl x)) s hi hr cn ck cs | _ => False)
  | .astore i => (match st with | .inr r :: s => k (ab_st L i (.inr r)) s hi hr cn ck cs | _ => False)
  | .astore_n _ => (match st with | .inr r :: s => k (ab_st L q.2.2.1 (.inr r)) s hi hr cn ck cs | _ => False)
  | .iinc i _ => (match ab_lk L i with | some (.inl x) => k (ab_st L i (.inl (x + ab_cst q.2.2.2.2.1 q.2.2.1))) st hi hr cn ck cs | _ => False)
  | .iconst _ => k L (.inl (ab_cst q.2.2.2.2.1 q.2.2.1) :: st) hi hr cn ck cs
  | .bipush _ => k L (.inl (ab_cst q.2.2.2.2.1 q.2.2.1) :: st) hi hr cn ck cs
  | .sipush _ => k L (.inl (ab_cst q.2.2.2.2.1 q.2.2.1) :: st) hi hr cn ck cs
  | .ldc _ => k L (.inl (nI q.2.2.1) :: st) hi hr cn ck cs
  | .aconst_null => k L (.inr none :: st) hi hr cn ck cs
  | .iadd => (match st with | .inl y :: .inl x :: s => k L (.inl (x + y) :: s) hi hr cn ck cs | _ => False)
  | .isub => (match st with | .inl y :: .inl x :: s => k L (.inl (x - y) :: s) hi hr cn ck cs | _ => False)
  | .imul => (match st with | .inl y :: .inl x :: s => k L (.inl (x * y) :: s) hi hr cn ck cs | _ => False)
  | .iand => (match st with | .inl y :: .inl x :: s => k L (.inl (x &&& y) :: s) hi hr cn ck cs | _ => False)
  | .ior => (match st with | .inl y :: .inl x :: s => k L (.inl (x ||| y) :: s) hi hr cn ck cs | _ => False)
  | .ishl => (match st with | .inl y :: .inl x :: s => k L (.inl (x <<< (y &&& 31)) :: s) hi hr cn ck cs | _ => False)
  | .ishr => (match st with | .inl y :: .inl x :: s => k L (.inl (x >>> (y &&& 31)) :: s) hi hr cn ck cs | _ => False)
  | .idiv => (match st with | .inl y :: .inl x :: s => ¬ y = 0 ∧ k L (.inl (x / y) :: s) hi hr cn ck cs | _ => False)
  | .irem => (match st with | .inl y :: .inl x :: s => ¬ y = 0 ∧ k L (.inl (x - x / y * y) :: s) hi hr cn ck cs | _ => False)
  | .dup => (match st with | v :: s => k L (v :: v :: s) hi hr cn ck cs | _ => False)
  | .dup_x1 => (match st with | v :: w :: s => k L (v :: w :: v :: s) hi hr cn ck cs | _ => False)
  | .dup2 => (match st with | v :: w :: s => k L (v :: w :: v :: w :: s) hi hr cn ck cs | _ => False)
  | .pop => (match st with | _ :: s => k L s hi hr cn ck cs | _ => False)
  | .goto _ => J q.2.2.1 L st hi hr cn ck cs
  | .ifCond .eq _ => (match st with | .inl x :: s => (x = 0 → J q.2.2.1 L s hi hr cn ck cs) ∧ (¬ x = 0 → k L s hi hr cn ck cs) | _ => False)
  | .ifCond .ne _ => (match st with | .inl x :: s => (¬ x = 0 → J q.2.2.1 L s hi hr cn ck cs) ∧ (x = 0 → k L s hi hr cn ck cs) | _ => False)
  | .ifCond .lt _ => (match st with | .inl x :: s => (x < 0 → J q.2.2.1 L s hi hr cn ck cs) ∧ (¬ x < 0 → k L s hi hr cn ck cs) | _ => False)
  | .ifCond .ge _ => (match st with | .inl x :: s => (0 ≤ x → J q.2.2.1 L s hi hr cn ck cs) ∧ (¬ 0 ≤ x → k L s hi hr cn ck cs) | _ => False)
  | .ifCond .gt _ => (match st with | .inl x :: s => (0 < x → J q.2.2.1 L s hi hr cn ck cs) ∧ (¬ 0 < x → k L s hi hr cn ck cs) | _ => False)
  | .ifCond .le _ => (match st with | .inl x :: s => (x ≤ 0 → J q.2.2.1 L s hi hr cn ck cs) ∧ (¬ x ≤ 0 → k L s hi hr cn ck cs) | _ => False)
  | .if_icmp .eq _ => (match st with | .inl y :: .inl x :: s => (x = y → J q.2.2.1 L s hi hr cn ck cs) ∧ (¬ x = y → k L s hi hr cn ck cs) | _ => False)
  | .if_icmp .ne _ => (match st with | .inl y :: .inl x :: s => (¬ x = y → J q.2.2.1 L s hi hr cn ck cs) ∧ (x = y → k L s hi hr cn ck cs) | _ => False)
  | .if_icmp .lt _ => (match st with | .inl y :: .inl x :: s => (x < y → J q.2.2.1 L s hi hr cn ck cs) ∧ (¬ x < y → k L s hi hr cn ck cs) | _ => False)
  | .if_icmp .ge _ => (match st with | .inl y :: .inl x :: s => (y ≤ x → J q.2.2.1 L s hi hr cn ck cs) ∧ (¬ y ≤ x → k L s hi hr cn ck cs) | _ => False)
  | .if_icmp .gt _ => (match st with | .inl y :: .inl x :: s => (y < x → J q.2.2.1 L s hi hr cn ck cs) ∧ (¬ y < x → k L s hi hr cn ck cs) | _ => False)
  | .if_icmp .le _ => (match st with | .inl y :: .inl x :: s => (x ≤ y → J q.2.2.1 L s hi hr cn ck cs) ∧ (¬ x ≤ y → k L s hi hr cn ck cs) | _ => False)
  | .ifnull _ => (match st with | .inr r :: s => (r = none → J q.2.2.1 L s hi hr cn ck cs) ∧ (¬ r = none → k L s hi hr cn ck cs) | _ => False)
  | .ifnonnull _ => (match st with | .inr r :: s => (¬ r = none → J q.2.2.1 L s hi hr cn ck cs) ∧ (r = none → k L s hi hr cn ck cs) | _ => False)
  | .if_acmp .eq _ => (match st with | .inr y :: .inr x :: s => if ab_ns x = true then (if ab_ns y = true then (x = y → J q.2.2.1 L s hi hr cn ck cs) ∧ (¬ x = y → k L s hi hr cn ck cs) else False) else False | _ => False)
  | .if_acmp .ne _ => (match st with | .inr y :: .inr x :: s => if ab_ns x = true then (if ab_ns y = true then (¬ x = y → J q.2.2.1 L s hi hr cn ck cs) ∧ (x = y → k L s hi hr cn ck cs) else False) else False | _ => False)
  | .tableswitch _ _ _ _ => (match st with | .inl x :: s => ((∀ j, j < q.2.2.2.2.2.length → ¬ x = nI (q.2.2.2.1 + j)) → J q.2.2.1 L s hi hr cn ck cs) ∧ ab_sw x (fun t => J t L s hi hr cn ck cs) q.2.2.2.2.2 q.2.2.2.1 | _ => False)
  | .getfield _ => (match st with | .inr (some (K, i)) :: s => if K = q.2.2.1 then (if q.2.2.2.2.1 = 0 then k L (.inr (hr K i q.2.2.2.1) :: s) hi hr cn ck cs else k L (.inl (hi K i q.2.2.2.1) :: s) hi hr cn ck cs) else False | _ => False)
  | .putfield _ => if q.2.2.2.2.1 = 0 then (match st with | .inr r :: .inr (some (K, i)) :: s => if K = q.2.2.1 then k L s hi (ab_uR hr K i q.2.2.2.1 r) cn ck cs else False | _ => False)
    else if q.2.2.2.2.1 = 1 then (match st with | .inl x :: .inr (some (K, i)) :: s => if K = q.2.2.1 then k L s (ab_uI hi K i q.2.2.2.1 x) hr cn ck cs else False | _ => False)
    else (match st with | .inl x :: .inr (some (K, i)) :: s => if K = q.2.2.1 then (x = 0 ∨ x = 1) ∧ k L s (ab_uI hi K i q.2.2.2.1 x) hr cn ck cs else False | _ => False)
  | .getstatic _ => k L (.inr (some (200, 0)) :: st) hi hr cn ck cs
  | .iaload => (match st with | .inl j :: .inr (some (K, i)) :: s => if K = 201 then ab_in j (ab_n E) ∧ k L (.inl (ab_xs E (ab_ix j)) :: s) hi hr cn ck cs else if ab_ia K = true then ab_in j (ab_len K i) ∧ k L (.inl (hi K i (ab_ix j)) :: s) hi hr cn ck cs else False | _ => False)
  | .iastore => (match st with | .inl x :: .inl j :: .inr (some (K, i)) :: s => if ab_ia K = true then ab_in j (ab_len K i) ∧ k L s (ab_uI hi K i (ab_ix j) x) hr cn ck cs else False | _ => False)
  | .aaload => (match st with | .inl j :: .inr (some (K, i)) :: s => if ab_ra K = true then ab_in j (ab_len K i) ∧ k L (.inr (hr K i (ab_ix j)) :: s) hi hr cn ck cs else False | _ => False)
  | .aastore => (match st with | .inr r :: .inl j :: .inr (some (K, i)) :: s => if ab_oa K = true then ab_fitA (ab_tg K) r ∧ ab_in j (ab_len K i) ∧ k L s hi (ab_uR hr K i (ab_ix j) r) cn ck cs else False | _ => False)
  | .arraylength => (match st with | .inr (some (K, i)) :: s => if K = 201 then k L (.inl (nI (ab_n E)) :: s) hi hr cn ck cs else if K = 200 then k L (.inl (nI 0) :: s) hi hr cn ck cs else if 10 ≤ K then (if K < 200 then k L (.inl (nI (ab_len K i)) :: s) hi hr cn ck cs else False) else False | _ => False)
  | .new _ => if 1 ≤ ck then (if ab_nf q.2.2.1 ≤ cs then k L (.inr (some (q.2.2.1, cn q.2.2.1)) :: st) (ab_zI hi q.2.2.1 (cn q.2.2.1)) (ab_zR hr q.2.2.1 (cn q.2.2.1)) (ab_uC cn q.2.2.1 (cn q.2.2.1 + 1)) (ck - 1) (cs - ab_nf q.2.2.1) else False) else False
  | .newarray _ => (match st with | .inl j :: s => ∃ K : Nat, ab_ia K = true ∧ j = nI (ab_len K (cn K)) ∧ 1 ≤ ck ∧ ab_len K (cn K) ≤ cs ∧ k L (.inr (some (K, cn K)) :: s) (ab_zI hi K (cn K)) (ab_zR hr K (cn K)) (ab_uC cn K (cn K + 1)) (ck - 1) (cs - ab_len K (cn K)) | _ => False)
  | .anewarray _ => (match st with | .inl j :: s => ∃ K : Nat, ab_oa K = true ∧ ab_tg K = q.2.2.1 ∧ ab_len K (cn K) ≤ 100000 ∧ j = nI (ab_len K (cn K)) ∧ 1 ≤ ck ∧ ab_len K (cn K) ≤ cs ∧ k L (.inr (some (K, cn K)) :: s) (ab_zI hi K (cn K)) (ab_zR hr K (cn K)) (ab_uC cn K (cn K + 1)) (ck - 1) (cs - ab_len K (cn K)) | _ => False)
  | .multianewarray _ _ => (match st with | .inl j2 :: .inl j1 :: s => ∃ K Kr n2 : Nat, 10 ≤ K ∧ K < 200 ∧ 10 ≤ Kr ∧ Kr < 200 ∧ K ≠ Kr ∧ ab_tg K = 5 ∧ ab_tg Kr = 1 ∧ ab_len K (cn K) ≤ 1000 ∧ n2 ≤ 1000 ∧ j1 = nI (ab_len K (cn K)) ∧ j2 = nI n2 ∧ (∀ i, i < ab_len K (cn K) → ab_len Kr (cn Kr + i) = n2) ∧ 1 + ab_len K (cn K) ≤ ck ∧ ab_len K (cn K) + ab_len K (cn K) * n2 ≤ cs ∧ k L (.inr (some (K, cn K)) :: s) (ab_mI hi cn K Kr (ab_len K (cn K))) (ab_mR hr cn K Kr (ab_len K (cn K))) (ab_uC (ab_uC cn K (cn K + 1)) Kr (cn Kr + ab_len K (cn K))) (ck - (1 + ab_len K (cn K))) (cs - (ab_len K (cn K) + ab_len K (cn K) * n2)) | _ => False)
  | .checkcast _ => (match st with | .inr none :: s => k L (.inr none :: s) hi hr cn ck cs | .inr (some (K, i)) :: s => if K = q.2.2.1 then k L (.inr (some (K, i)) :: s) hi hr cn ck cs else False | _ => False)
  | .invokevirtual _ => (match ab_tk q.2.2.2.1 st with | some (as, .inr (some (K, i)) :: s) => if K = q.2.2.2.2.1 then (if s.length ≤ 8 then (if ab_mc q.2.2.1 ≤ ck then (if ab_mS q.2.2.1 ≤ cs then ab_Wm E d q.2.2.1 (.inr (some (K, i)) :: as) hi hr cn (fun v hi' hr' cn' => k L (v.toList ++ s) hi' hr' cn' (ck - ab_mc q.2.2.1) (cs - ab_mS q.2.2.1)) else False) else False) else False) else False | _ => False)
  | .invokestatic _ => if q.2.2.2.2.1 = 3 then (match st with | .inl y :: .inl x :: s => if s.length ≤ 8 then k L (.inl (if x < y then y else x) :: s) hi hr cn ck cs else False | _ => False)
    else if q.2.2.2.2.1 = 4 then (match st with | .inl y :: .inl x :: s => if s.length ≤ 8 then k L (.inl (if y < x then y else x) :: s) hi hr cn ck cs else False | _ => False)
    else (match ab_tk q.2.2.2.1 st with | some (as, s) => if s.length ≤ 8 then (if ab_mc q.2.2.1 ≤ ck then (if ab_mS q.2.2.1 ≤ cs then ab_Wm E d q.2.2.1 as hi hr cn (fun v hi' hr' cn' => k L (v.toList ++ s) hi' hr' cn' (ck - ab_mc q.2.2.1) (cs - ab_mS q.2.2.1)) else False) else False) else False | _ => False)
  | .invokespecial _ => if q.2.2.2.2.1 = 1 then (match st with | .inr (some _) :: s => if s.length ≤ 8 then k L s hi hr cn ck cs else False | _ => False)
    else (match ab_tk q.2.2.2.1 st with | some (as, .inr (some (K, i)) :: s) => if s.length ≤ 8 then (if ab_mc q.2.2.1 ≤ ck then (if ab_mS q.2.2.1 ≤ cs then ab_Wm E d q.2.2.1 (.inr (some (K, i)) :: as) hi hr cn (fun v hi' hr' cn' => k L (v.toList ++ s) hi' hr' cn' (ck - ab_mc q.2.2.1) (cs - ab_mS q.2.2.1)) else False) else False) else False | _ => False)
  | .ireturn => (match st with | [.inl x] => if rk = 1 then Q (some (.inl x)) hi hr cn else if rk = 2 then (x = 0 ∨ x = 1) ∧ Q (some (.inl x)) hi hr cn else False | _ => False)
  | .areturn => (match st with | [.inr r] => if rk = 3 then Q (some (.inr r)) hi hr cn else False | _ => False)
  | .return_ => (match st with | [] => if rk = 0 then Q none hi hr cn else False | _ => False)
  | _ => False
def ab_vc (E : ab_E) (d rk : Nat) (Q : ab_Q) (J : ab_J) : List ab_P → Nat → ab_N1
  | [], pc => J pc
  | q :: qs, pc => fun L st hi hr cn ck cs => ab_v1 E d rk Q J q L st hi hr cn ck cs (ab_vc E d rk Q J qs (pc + q.2.1))
/-- a method's code: rows of instructions by where they begin -/
abbrev ab_G : Type := List (Nat × List ab_P)
def ab_at : ab_G → Nat → List ab_P
  | [], _ => []
  | x :: xs, pc => if x.1 = pc then x.2 else ab_at xs pc
/-- arguments as locals -/
def ab_en : Nat → List ab_V → ab_L
  | _, [] => []
  | i, v :: vs => (i, v) :: ab_en (i + 1) vs
