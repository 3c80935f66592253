/-! floats and doubles: a long to the nearest one and back -/
theorem fl_round {f : FP.Core.Fmt} {m L : Nat} (s : Bool) (lo hi : Int) (hp : 1 ≤ f.p) (h1 : m < 2 ^ (L + f.p)) (h2 : 2 ^ (L + f.p - 1) ≤ m) (hmin : f.qmin ≤ L) (hmax : (L : Int) + 1 ≤ f.qmax) : FP.Core.toInt lo hi (FP.Core.round f (.fin s m 0)) = max lo (min hi (FP.Core.signed s (FP.Core.nearest m (2 ^ L) * 2 ^ L : Nat))) := by
  have m0 : 0 < m := Nat.lt_of_lt_of_le (Nat.two_pow_pos _) h2
  have eq : FP.Core.quantum f m 1 0 = (L : Int) := by
    refine FP.Core.quantum_eq m0 (by decide) hmin ?_ (Or.inr ?_)
    · rw [show (L : Int) - 0 + f.p = ((L + f.p : Nat) : Int) - ((0 : Nat) : Int) by omega, FP.Core.below_iff]
      omega
    · rw [show (L : Int) - 0 + ((f.p : Int) - 1) = ((L + f.p - 1 : Nat) : Int) - ((0 : Nat) : Int) by omega, FP.Core.below_iff]
      omega
  have ec : FP.Core.nearest m (2 ^ L) ≤ 2 ^ f.p := by
    refine FP.Core.nearest_le (Nat.two_pow_pos _) ?_
    rw [← Nat.pow_add, Nat.add_comm]
    omega
  have e : FP.Core.round f (.fin s m 0) = FP.Core.settle f s (FP.Core.nearest m (2 ^ L)) (L : Int) := by
    show FP.Core.roundRatio f s m 1 0 = _
    unfold FP.Core.roundRatio
    rw [if_neg (by omega), eq]
    unfold FP.Core.roundAt FP.Core.unitsNum FP.Core.unitsDen
    rw [show ((0 : Int) - (L : Int)).toNat = 0 by omega, show ((L : Int) - 0).toNat = L by omega, Nat.pow_zero, Nat.mul_one, Nat.one_mul]
  rw [e]
  generalize FP.Core.nearest m (2 ^ L) = c at ec
  unfold FP.Core.settle FP.Core.bound
  by_cases z : c < 2 ^ f.p
  · rw [if_pos z, if_pos (by omega)]
    show max lo (min hi (FP.Core.signed s (c * 2 ^ (L : Int).toNat / 2 ^ (-(L : Int)).toNat))) = _
    rw [show (L : Int).toNat = L by omega, show (-(L : Int)).toNat = 0 by omega, Nat.pow_zero, Nat.div_one]
  · rw [if_neg z, if_pos (by omega)]
    have ec' : c = 2 ^ f.p := by omega
    show max lo (min hi (FP.Core.signed s (f.tails * 2 ^ ((L : Int) + 1).toNat / 2 ^ (-((L : Int) + 1)).toNat))) = _
    rw [show ((L : Int) + 1).toNat = L + 1 by omega, show (-((L : Int) + 1)).toNat = 0 by omega, Nat.pow_zero, Nat.div_one, ec']
    unfold FP.Core.Fmt.tails
    rw [← Nat.pow_add, ← Nat.pow_add, show f.p - 1 + (L + 1) = f.p + L by omega]
