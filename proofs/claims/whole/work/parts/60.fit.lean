/-! what a row has when a number is put there, on both sides -/
theorem rnd_le {m L : Nat} (hL : L < 64) (hm : m ≤ 2 ^ 63) : FP.Core.nearest m (2 ^ L) * 2 ^ L ≤ 2 ^ 63 := by
  have e : 2 ^ 63 = 2 ^ (63 - L) * 2 ^ L := by rw [← Nat.pow_add]; congr 1; omega
  rw [e] at hm ⊢
  exact Nat.mul_le_mul_right _ (FP.Core.nearest_le (Nat.two_pow_pos L) hm)
theorem rnd_int {v : Int64} {n : Nat} (hn : n ≤ 2 ^ 63) : Int64.ofInt (max (-2 ^ 63) (min (2 ^ 63 - 1) (FP.Core.signed (decide (v.toInt < 0)) n))) = rnd v n := by
  unfold rnd
  by_cases z : v.toInt < 0
  · rw [if_pos z, decide_eq_true z]
    have e : max (-2 ^ 63) (min (2 ^ 63 - 1) (FP.Core.signed true n)) = -(n : Int) := by
      show max (-2 ^ 63) (min (2 ^ 63 - 1) (-(n : Int))) = -(n : Int)
      omega
    rw [e, Int64.ofInt_neg, Int64.ofInt_eq_ofNat]
    rfl
  · rw [if_neg z, decide_eq_false z]
    by_cases y : 2 ^ 63 ≤ n
    · rw [if_pos y]
      have e : max (-2 ^ 63) (min (2 ^ 63 - 1) (FP.Core.signed false n)) = 9223372036854775807 := by
        show max (-2 ^ 63) (min (2 ^ 63 - 1) (n : Int)) = 9223372036854775807
        omega
      rw [e]; rfl
    · rw [if_neg y]
      have e : max (-2 ^ 63) (min (2 ^ 63 - 1) (FP.Core.signed false n)) = (n : Int) := by
        show max (-2 ^ 63) (min (2 ^ 63 - 1) (n : Int)) = (n : Int)
        omega
      rw [e, Int64.ofInt_eq_ofNat]
      rfl
theorem v_abs (v : Int64) : v.toInt.natAbs ≤ 2 ^ 63 := by
  have := v.toInt_lt
  have := v.le_toInt
  omega
theorem fit_24 {v : Int64} {S : Sg} {Q : Int64 → Sg → Prop} (h : Q (FP.f2l (FP.l2f v)) S) : wX11_rounded v 24 S Q := by
  refine r_rounded (b := 24) (by omega) (by omega) (fun w => ?_) (fun L l1 l2 l3 l4 => ⟨rnd_le (by omega) (v_abs v), ?_⟩)
  · have e : FP.f2l (FP.l2f v) = v := FP.Core.f2l_int (a := v) (by
      unfold FP.Core.FInt
      rw [FP.Core.val32_l2f]
      exact FP.Core.whole_round FP.Core.good_b32 FP.Core.wide_b32 (show _ ≤ 2 ^ 24 by omega) (FP.Core.whole_ofInt _))
    rw [e] at h
    exact h
  · have e : FP.f2l (FP.l2f v) = rnd v (FP.Core.nearest v.toInt.natAbs (2 ^ L) * 2 ^ L) := by
      show Int64.ofInt (FP.Core.toInt (-2 ^ 63) (2 ^ 63 - 1) (FP.Core.val32 (FP.Core.l2f v))) = _
      rw [FP.Core.val32_l2f, ← rnd_int (rnd_le (by omega) (v_abs v))]
      unfold FP.Core.ofInt
      rw [fl_round (f := FP.Core.b32) (L := L) _ _ _ (by decide) l4 l3 (by have : FP.Core.b32.qmin ≤ 0 := (by decide); omega) (by have : 60 ≤ FP.Core.b32.qmax := (by decide); omega)]
    rw [e] at h
    exact h
theorem fit_53 {v : Int64} {S : Sg} {Q : Int64 → Sg → Prop} (h : Q (FP.d2l (FP.l2d v)) S) : wX11_rounded v 53 S Q := by
  refine r_rounded (b := 53) (by omega) (by omega) (fun w => ?_) (fun L l1 l2 l3 l4 => ⟨rnd_le (by omega) (v_abs v), ?_⟩)
  · have e : FP.d2l (FP.l2d v) = v := FP.Core.d2l_l2d (by omega)
    rw [e] at h
    exact h
  · have e : FP.d2l (FP.l2d v) = rnd v (FP.Core.nearest v.toInt.natAbs (2 ^ L) * 2 ^ L) := by
      show Int64.ofInt (FP.Core.toInt (-2 ^ 63) (2 ^ 63 - 1) (FP.Core.val64 (FP.Core.l2d v))) = _
      rw [FP.Core.val64_l2d, ← rnd_int (rnd_le (by omega) (v_abs v))]
      unfold FP.Core.ofInt
      rw [fl_round (f := FP.Core.b64) (L := L) _ _ _ (by decide) l4 l3 (by have : FP.Core.b64.qmin ≤ 0 := (by decide); omega) (by have : 60 ≤ FP.Core.b64.qmax := (by decide); omega)]
    rw [e] at h
    exact h
theorem toInt_shlr (v c : Int64) (k : Nat) (hk : k < 64) (hc : c.toBitVec.smod 64 = BitVec.ofNat 64 k) : ((v <<< c) >>> c).toInt = ((v.toBitVec.toNat * 2 ^ k : Nat) : Int).bmod (2 ^ 64) / ((2 ^ k : Nat) : Int) := by
  show ((v <<< c) >>> c).toBitVec.toInt = _
  rw [Int64.toBitVec_shiftRight, Int64.toBitVec_shiftLeft, hc]
  show ((v.toBitVec <<< (BitVec.ofNat 64 k).toNat).sshiftRight (BitVec.ofNat 64 k).toNat).toInt = _
  rw [BitVec.toNat_ofNat, Nat.mod_eq_of_lt (show k < 2 ^ 64 by omega), BitVec.toInt_sshiftRight, BitVec.toInt_shiftLeft, Int.shiftRight_eq_div_pow, Nat.shiftLeft_eq]
theorem v_bmod (v : Int64) : v.toInt = (v.toBitVec.toNat : Int).bmod (2 ^ 64) := BitVec.toInt_eq_toNat_bmod _
theorem fit_8 (v : Int64) : ((v.toInt32).toInt8.toInt32).toInt64 = (v <<< (((56 : Int32)).toInt64 &&& 63)) >>> (((56 : Int32)).toInt64 &&& 63) := by
  apply Int64.toInt_inj.mp
  rw [toInt_shlr v _ 56 (by omega) (by decide +kernel), Int32.toInt_toInt64, Int8.toInt_toInt32, Int32.toInt_toInt8, Int64.toInt_toInt32, v_bmod]
  have := v.toBitVec.isLt
  generalize v.toBitVec.toNat = N at *
  simp only [Int.bmod_def]
  omega
theorem fit_16 (v : Int64) : ((v.toInt32).toInt16.toInt32).toInt64 = (v <<< (((48 : Int32)).toInt64 &&& 63)) >>> (((48 : Int32)).toInt64 &&& 63) := by
  apply Int64.toInt_inj.mp
  rw [toInt_shlr v _ 48 (by omega) (by decide +kernel), Int32.toInt_toInt64, Int16.toInt_toInt32, Int32.toInt_toInt16, Int64.toInt_toInt32, v_bmod]
  have := v.toBitVec.isLt
  generalize v.toBitVec.toNat = N at *
  simp only [Int.bmod_def]
  omega
theorem fit_32 (v : Int64) : (v.toInt32).toInt64 = (v <<< (((32 : Int32)).toInt64 &&& 63)) >>> (((32 : Int32)).toInt64 &&& 63) := by
  apply Int64.toInt_inj.mp
  rw [toInt_shlr v _ 32 (by omega) (by decide +kernel), Int32.toInt_toInt64, Int64.toInt_toInt32, v_bmod]
  have := v.toBitVec.isLt
  generalize v.toBitVec.toNat = N at *
  simp only [Int.bmod_def]
  omega
theorem nI_L {k : Nat} (h : k < 2147483648) : (nI k).toInt64 = nL k := by
  apply Int64.toInt_inj.mp
  rw [Int32.toInt_toInt64, nI_toInt (by omega), nL_int (by omega)]
theorem fit_c (v : Int64) : ((((v.toInt32).toUInt32 % 65536).toInt32)).toInt64 = v &&& 65535 := by
  have e0 : v = nL v.toUInt64.toNat := u_nL v.toUInt64
  have hN : v.toUInt64.toNat < 2 ^ 64 := v.toUInt64.toNat_lt
  have e1 : v &&& 65535 = nL (v.toUInt64.toNat % 2 ^ 16) := by
    have := nL_and (m := v.toUInt64.toNat) (k := 16) hN (by omega)
    rw [← e0] at this
    exact this
  have e2 : ((v.toInt32).toUInt32).toNat = v.toUInt64.toNat % 2 ^ 32 := by
    have h1 : v.toInt32.toInt = v.toInt.bmod (2 ^ 32) := Int64.toInt_toInt32 v
    have h2 : v.toInt32.toInt = (v.toInt32.toUInt32.toNat : Int).bmod (2 ^ 32) := BitVec.toInt_eq_toNat_bmod _
    have h3 : v.toInt = (v.toUInt64.toNat : Int).bmod (2 ^ 64) := BitVec.toInt_eq_toNat_bmod _
    have h4 := v.toInt32.toUInt32.toNat_lt
    rw [h2, h3] at h1
    generalize v.toInt32.toUInt32.toNat = a at *
    generalize v.toUInt64.toNat = b at *
    have h5 := congrArg (fun z : Int => z % ((2 ^ 32 : Nat) : Int)) h1
    simp only [Int.bmod_emod] at h5
    rw [Int.bmod_def] at h5
    omega
  rw [e1]
  have e3 : ((v.toInt32).toUInt32 % 65536).toNat = v.toUInt64.toNat % 2 ^ 16 := by
    rw [UInt32.toNat_mod, e2]
    show v.toUInt64.toNat % 2 ^ 32 % 65536 = _
    omega
  have e4 : ((v.toInt32).toUInt32 % 65536).toInt32 = nI (v.toUInt64.toNat % 2 ^ 16) := by
    rw [← e3]
    apply Int32.toBitVec_inj.mp
    show ((v.toInt32).toUInt32 % 65536).toBitVec = BitVec.ofNat 32 ((v.toInt32).toUInt32 % 65536).toNat
    apply BitVec.eq_of_toNat_eq
    rw [BitVec.toNat_ofNat, Nat.mod_eq_of_lt ((v.toInt32).toUInt32 % 65536).toNat_lt]
    rfl
  rw [e4]
  exact nI_L (by omega)
/-- both sides fit alike -/
def fitv (s : Nat) (v : Int64) : Int64 := if s = 0 then ((v.toInt32).toInt8.toInt32).toInt64 else if s = 1 then ((((v.toInt32).toUInt32 % 65536).toInt32)).toInt64 else if s = 2 then ((v.toInt32).toInt16.toInt32).toInt64 else if s = 3 then (v.toInt32).toInt64 else if s = 5 then FP.f2l (FP.l2f v) else if s = 6 then FP.d2l (FP.l2d v) else v
theorem r_narrowed {q s : Nat} {v : Int64} {S : Sg} {Q : Int64 → Sg → Prop} (hs : s < 8) (h : fI S 320 q = nI s) (hQ : Q (fitv s v) S) : wX5_narrowed q v S Q := by
  have c : s = 0 ∨ s = 1 ∨ s = 2 ∨ s = 3 ∨ s = 4 ∨ s = 5 ∨ s = 6 ∨ s = 7 := by omega
  unfold wX5_narrowed
  rw [h]
  rcases c with rfl | rfl | rfl | rfl | rfl | rfl | rfl | rfl <;> (repeat (first | rw [if_pos (by decide)] | rw [if_neg (by decide)])) <;> exact hQ
theorem r_fitted {m s : Nat} {v : Int64} {T : Sg} {Q : Int64 → Sg → Prop} (hs : s < 8) (hQ : Q (fitv s v) T) : wX11_fitted (nI s) v T Q := by
  have c : s = 0 ∨ s = 1 ∨ s = 2 ∨ s = 3 ∨ s = 4 ∨ s = 5 ∨ s = 6 ∨ s = 7 := by omega
  unfold wX11_fitted
  rcases c with rfl | rfl | rfl | rfl | rfl | rfl | rfl | rfl <;> (repeat (first | rw [if_pos (by decide)] | rw [if_neg (by decide)]))
  · rw [← fit_8]; exact hQ
  · rw [← fit_c]; exact hQ
  · rw [← fit_16]; exact hQ
  · rw [← fit_32]; exact hQ
  · exact hQ
  · exact fit_24 hQ
  · exact fit_53 hQ
  · exact hQ
