/-! what a trial takes -/
theorem bit_bv (x : BitVec 32) (k : Nat) (hk : k < 32) : (x &&& BitVec.twoPow 32 k = 0#32 ↔ x.getLsbD k = false) ∧ ((x.sshiftRight k) &&& 1#32 = 1#32 ↔ x.getLsbD k = true) := by
  refine ⟨?_, ?_⟩
  · rw [BitVec.and_twoPow]
    by_cases h : x.getLsbD k = true
    · rw [if_pos h, h]
      constructor
      · intro e
        have := congrArg (fun y : BitVec 32 => y.getLsbD k) e
        simp [BitVec.getLsbD_twoPow, hk] at this
      · intro e; cases e
    · rw [if_neg h]
      exact ⟨fun _ => Bool.eq_false_iff.mpr h, fun _ => rfl⟩
  · rw [BitVec.and_one_eq_setWidth_ofBool_getLsbD]
    have e : (x.sshiftRight k).getLsbD 0 = x.getLsbD k := by
      rw [BitVec.getLsbD_sshiftRight]
      simp [hk]
    rw [e]
    cases x.getLsbD k <;> decide
theorem bit_or (x y z : BitVec 32) : x &&& (y ||| z) = 0#32 ↔ x &&& y = 0#32 ∧ x &&& z = 0#32 := by
  constructor
  · intro h
    constructor
    · apply BitVec.eq_of_getLsbD_eq
      intro i hi
      have := congrArg (fun w : BitVec 32 => w.getLsbD i) h
      simp at this ⊢
      intro h1
      have := this h1
      exact this.1
    · apply BitVec.eq_of_getLsbD_eq
      intro i hi
      have := congrArg (fun w : BitVec 32 => w.getLsbD i) h
      simp at this ⊢
      intro h1
      have := this h1
      exact this.2
  · rintro ⟨h1, h2⟩
    rw [show x &&& (y ||| z) = (x &&& y) ||| (x &&& z) by
      apply BitVec.eq_of_getLsbD_eq
      intro i hi
      simp
      cases x.getLsbD i <;> rfl, h1, h2]
    rfl
theorem i0 (a : Int32) : a = 0 ↔ a.toBitVec = 0#32 := ⟨fun h => by rw [h]; rfl, fun h => Int32.toBitVec_inj.mp h⟩
theorem i1 (a : Int32) : a = 1 ↔ a.toBitVec = 1#32 := ⟨fun h => by rw [h]; rfl, fun h => Int32.toBitVec_inj.mp h⟩
/-- one bit, read both ways -/
theorem bit_k (a : Int32) : ∀ k : Nat, k < 11 → ((a &&& ((1 : Int32) <<< (nI k &&& 31)) = 0 ↔ ¬ (a >>> (nI k &&& 31)) &&& 1 = 1)) := by
  intro k hk
  have e1 : ((1 : Int32) <<< (nI k &&& 31)).toBitVec = BitVec.twoPow 32 k := by
    have : ∀ k, k < 11 → ((1 : Int32) <<< (nI k &&& 31)).toBitVec = BitVec.twoPow 32 k := by decide +kernel
    exact this k hk
  have e2 : (a >>> (nI k &&& 31)).toBitVec = a.toBitVec.sshiftRight k := by
    have h : ∀ k, k < 11 → ((nI k &&& 31).toBitVec.smod 32).toNat = k := by decide +kernel
    rw [Int32.toBitVec_shiftRight]
    unfold BitVec.sshiftRight'
    rw [h k hk]
  obtain ⟨b1, b2⟩ := bit_bv a.toBitVec k (by omega)
  rw [i0, i1, Int32.toBitVec_and, Int32.toBitVec_and, e1, e2, b1]
  rw [show (1 : Int32).toBitVec = 1#32 from rfl, b2]
  cases a.toBitVec.getLsbD k <;> simp
theorem and_or0 (a b c : Int32) : a &&& (b ||| c) = 0 ↔ a &&& b = 0 ∧ a &&& c = 0 := by
  rw [i0, i0, i0, Int32.toBitVec_and, Int32.toBitVec_or, Int32.toBitVec_and, Int32.toBitVec_and]
  exact bit_or _ _ _
