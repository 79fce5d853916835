/-! BITS -/
def tb (x : Int32) (j : Nat) : Bool := x.toBitVec.getLsbD j
theorem tb_or (x y : Int32) (j : Nat) : tb (x ||| y) j = (tb x j || tb y j) := by
  unfold tb
  rw [Int32.toBitVec_or, BitVec.getLsbD_or]
theorem tb_bit : ∀ h, h < 20 → ∀ j, j < 20 → tb (nI 1 <<< (nI h &&& 31)) j = decide (j = h) := by decide +kernel
theorem tb_zero (j : Nat) : tb (nI 0) j = false := by
  show (0#32).getLsbD j = false
  simp
theorem bv_one (v : BitVec 32) : v &&& 1#32 = 1#32 ↔ v.getLsbD 0 = true := by
  constructor
  · intro h
    have := congrArg (fun z : BitVec 32 => z.getLsbD 0) h
    simpa using this
  · intro h
    apply BitVec.eq_of_getLsbD_eq
    intro i hi
    rw [BitVec.getLsbD_and]
    rcases Nat.eq_zero_or_pos i with rfl | hp
    · rw [h]; rfl
    · have : (1#32).getLsbD i = false := by
        rw [BitVec.getLsbD_one]
        simp
        omega
      rw [this, Bool.and_false]
theorem sh_amt : ∀ j, j < 32 → ((nI j &&& 31).toBitVec.smod 32).toNat = j := by decide +kernel
theorem tb_shr {x : Int32} {j : Nat} (hj : j < 32) : x >>> (nI j &&& 31) &&& nI 1 = nI 1 ↔ tb x j = true := by
  rw [← Int32.toBitVec_inj, Int32.toBitVec_and, Int32.toBitVec_shiftRight]
  show _ &&& 1#32 = 1#32 ↔ _
  rw [bv_one, BitVec.getLsbD_sshiftRight', sh_amt j hj]
  unfold tb
  simp [hj]
theorem tb_and {x : Int32} {h : Nat} (hh : h < 20) : x &&& nI 1 <<< (nI h &&& 31) = nI 0 ↔ tb x h = false := by
  have hb : ∀ h, h < 20 → ∀ j, j < 32 → (nI 1 <<< (nI h &&& 31)).toBitVec.getLsbD j = decide (j = h) := by decide +kernel
  rw [← Int32.toBitVec_inj, Int32.toBitVec_and]
  constructor
  · intro e
    have := congrArg (fun z : BitVec 32 => z.getLsbD h) e
    rw [BitVec.getLsbD_and, hb h hh h (by omega), decide_eq_true rfl, Bool.and_true] at this
    unfold tb
    rw [this]
    show (0#32).getLsbD h = false
    simp
  · intro e
    apply BitVec.eq_of_getLsbD_eq
    intro i hi
    rw [BitVec.getLsbD_and, hb h hh i hi]
    show _ = (0#32).getLsbD i
    by_cases e2 : i = h
    · subst e2
      unfold tb at e
      rw [e]
      simp
    · simp [e2]
theorem nat_pred_bit {n i j : Nat} (hij : i < j) (h1 : n.testBit i = true) : (n - 1).testBit j = n.testBit j := by
  have e : ∀ m : Nat, m.testBit j = (m / 2 ^ (i + 1)).testBit (j - (i + 1)) := fun m => by
    rw [Nat.testBit_div_two_pow]
    congr 1
    omega
  have hr : 0 < n % 2 ^ (i + 1) := by
    rcases Nat.eq_zero_or_pos (n % 2 ^ (i + 1)) with z | z
    · have := Nat.testBit_mod_two_pow n (i + 1) i
      rw [z, h1] at this
      simp at this
    · exact z
  rw [e, e n]
  congr 1
  have hp : 0 < 2 ^ (i + 1) := Nat.two_pow_pos _
  have hd := Nat.div_add_mod n (2 ^ (i + 1))
  have hlt := Nat.mod_lt n hp
  have e3 : n - 1 = 2 ^ (i + 1) * (n / 2 ^ (i + 1)) + (n % 2 ^ (i + 1) - 1) := by omega
  have e4 : (n % 2 ^ (i + 1) - 1) / 2 ^ (i + 1) = 0 := by
    generalize 2 ^ (i + 1) = P at hp hlt hr
    exact Nat.div_eq_of_lt (by omega)
  rw [e3, Nat.mul_add_div hp, e4, Nat.add_zero]
theorem tb_two {x : Int32} {i j : Nat} (hij : i < j) (hj : j < 32) (h1 : tb x i = true) (h2 : tb x j = true) : x ≠ nI 0 ∧ x &&& (x - nI 1) ≠ nI 0 := by
  have h0 : x ≠ nI 0 := fun e => by
    rw [e, tb_zero] at h1
    cases h1
  refine ⟨h0, fun e => ?_⟩
  rw [← Int32.toBitVec_inj, Int32.toBitVec_and, Int32.toBitVec_sub] at e
  have e2 := congrArg (fun z : BitVec 32 => z.getLsbD j) e
  unfold tb at h1 h2
  have hn : 1 ≤ x.toBitVec.toNat := by
    rcases Nat.eq_zero_or_pos x.toBitVec.toNat with z | z
    · rw [BitVec.getLsbD, z] at h1
      simp at h1
    · exact z
  have hlt := x.toBitVec.isLt
  have e3 : (x.toBitVec - (nI 1).toBitVec).toNat = x.toBitVec.toNat - 1 := by
    have e4 : (nI 1).toBitVec.toNat = 1 := rfl
    rw [BitVec.toNat_sub, e4]
    omega
  rw [BitVec.getLsbD_and, h2, Bool.true_and, BitVec.getLsbD, e3, nat_pred_bit hij h1] at e2
  rw [BitVec.getLsbD] at h2
  rw [h2] at e2
  have e5 : (nI 0).toBitVec.getLsbD j = false := tb_zero j
  rw [e5] at e2
  cases e2
/-- who had a work, with the bits told -/
def hadB (b y : Int32) : Prop := (b = nI 0 ∧ y = -1) ∨ (∃ h, h < 20 ∧ b = nI 1 <<< (nI h &&& 31) ∧ y = nI h) ∨ (∃ i j, i < j ∧ j < 20 ∧ tb b i = true ∧ tb b j = true ∧ y = -2)
theorem hadB_by {b y : Int32} (h : hadB b y) : hadBy b y := by
  rcases h with h | h | ⟨i, j, h1, h2, h3, h4, h5⟩
  · exact Or.inl h
  · exact Or.inr (Or.inl h)
  · have := tb_two h1 (by omega) h3 h4
    exact Or.inr (Or.inr ⟨this.1, this.2, h5⟩)
theorem hadB_or {b y : Int32} (h : hadB b y) {g : Nat} (hg : g < 20) : hadB (b ||| nI 1 <<< (nI g &&& 31)) (if y = -1 ∨ y = nI g then nI g else -2) := by
  rcases h with ⟨rfl, rfl⟩ | ⟨k, hk, rfl, rfl⟩ | ⟨i, j, h1, h2, h3, h4, rfl⟩
  · refine Or.inr (Or.inl ⟨g, hg, ?_, if_pos (Or.inl rfl)⟩)
    exact Int32.zero_or
  · by_cases e : k = g
    · subst e
      exact Or.inr (Or.inl ⟨k, hk, Int32.or_self, if_pos (Or.inr rfl)⟩)
    · refine Or.inr (Or.inr ?_)
      have ne : ¬ (nI k = -1 ∨ nI k = nI g) := by
        rintro (z | z)
        · exact mnn_ne (by omega) z
        · exact e ((nI_eq (by omega) (by omega)).mp z)
      rcases Nat.lt_or_gt_of_ne e with l | l
      · refine ⟨k, g, l, hg, ?_, ?_, if_neg ne⟩
        · rw [tb_or, tb_bit k hk k hk]; simp
        · rw [tb_or, tb_bit g hg g hg]; simp
      · refine ⟨g, k, l, hk, ?_, ?_, if_neg ne⟩
        · rw [tb_or, tb_bit g hg g hg]; simp
        · rw [tb_or, tb_bit k hk k hk]; simp
  · refine Or.inr (Or.inr ⟨i, j, h1, h2, by rw [tb_or, h3]; rfl, by rw [tb_or, h4]; rfl, ?_⟩)
    split
    · rename_i z
      rcases z with z | z
      · exact absurd z (by decide)
      · exfalso
        have : ∀ g, g < 20 → ¬ (-2 : Int32) = nI g := by decide +kernel
        exact this g hg z
    · rfl
