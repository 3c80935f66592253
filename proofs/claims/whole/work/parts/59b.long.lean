/-! longs by their numbers; the reference's rounding -/
def nL (n : Nat) : Int64 := Int64.ofNat n
theorem nL_int {n : Nat} (h : n < 2 ^ 63) : (nL n).toInt = n := Int64.toInt_ofNat_of_lt h
theorem u_nL (u : UInt64) : u.toInt64 = nL u.toNat := by
  apply Int64.toBitVec_inj.mp
  show u.toBitVec = BitVec.ofNat 64 u.toNat
  apply BitVec.eq_of_toNat_eq
  rw [BitVec.toNat_ofNat, Nat.mod_eq_of_lt u.toNat_lt]
  rfl
theorem nL_u {m : Nat} (h : m < 2 ^ 64) : (nL m).toUInt64.toNat = m := by
  show (BitVec.ofNat 64 m).toNat = m
  rw [BitVec.toNat_ofNat, Nat.mod_eq_of_lt h]
theorem sh_k : ∀ k, k < 64 → ((nI k).toInt64.toUInt64 &&& Int64.toUInt64 63).toNat % 64 = k := by decide +kernel
theorem nL_shr {m k : Nat} (hm : m < 2 ^ 64) (hk : k < 64) : ((nL m).toUInt64 >>> ((nI k).toInt64.toUInt64 &&& Int64.toUInt64 63)).toInt64 = nL (m / 2 ^ k) := by
  rw [u_nL, UInt64.toNat_shiftRight, nL_u hm, sh_k k hk, Nat.shiftRight_eq_div_pow]
theorem sm_k : ∀ k, k < 64 → ((nI k).toInt64 &&& 63).toBitVec.smod 64 = BitVec.ofNat 64 k := by decide +kernel
theorem nL_shl {c k : Nat} (hk : k < 64) : nL c <<< ((nI k).toInt64 &&& 63) = nL (c * 2 ^ k) := by
  apply Int64.toBitVec_inj.mp
  rw [Int64.toBitVec_shiftLeft, sm_k k hk]
  apply BitVec.eq_of_toNat_eq
  show (BitVec.ofNat 64 c <<< (BitVec.ofNat 64 k).toNat).toNat = (BitVec.ofNat 64 (c * 2 ^ k)).toNat
  rw [BitVec.toNat_shiftLeft, BitVec.toNat_ofNat, BitVec.toNat_ofNat, BitVec.toNat_ofNat, Nat.mod_eq_of_lt (show k < 2 ^ 64 by omega), Nat.shiftLeft_eq, Nat.mul_mod, Nat.mod_mod, ← Nat.mul_mod]
theorem nL_1 (a : Nat) : nL a + 1 = nL (a + 1) := (Int64.ofNat_add a 1).symm
theorem nL_s1 {a : Nat} (h : 1 ≤ a) : nL a - 1 = nL (a - 1) := by
  have e : nL a = nL (a - 1) + 1 := by rw [nL_1]; congr 1; omega
  rw [e, Int64.add_sub_cancel]
theorem nL_and {m k : Nat} (hm : m < 2 ^ 64) (hk : k < 64) : nL m &&& nL (2 ^ k - 1) = nL (m % 2 ^ k) := by
  apply Int64.toBitVec_inj.mp
  apply BitVec.eq_of_toNat_eq
  show (BitVec.ofNat 64 m &&& BitVec.ofNat 64 (2 ^ k - 1)).toNat = (BitVec.ofNat 64 (m % 2 ^ k)).toNat
  have h1 : 2 ^ k < 2 ^ 64 := Nat.pow_lt_pow_right (by decide) hk
  have h2 : m % 2 ^ k < 2 ^ k := Nat.mod_lt _ (Nat.two_pow_pos k)
  rw [BitVec.toNat_and, BitVec.toNat_ofNat, BitVec.toNat_ofNat, BitVec.toNat_ofNat, Nat.mod_eq_of_lt hm, Nat.mod_eq_of_lt (show 2 ^ k - 1 < 2 ^ 64 by omega), Nat.mod_eq_of_lt (show m % 2 ^ k < 2 ^ 64 by omega), Nat.and_two_pow_sub_one_eq_mod]
theorem lg_pos (a b : Int64) : 0 < lg_cmp a b ↔ b.toInt < a.toInt := by
  unfold lg_cmp
  by_cases h1 : a > b
  · rw [if_pos h1]
    exact ⟨fun _ => Int64.lt_iff_toInt_lt.mp h1, fun _ => by decide⟩
  · rw [if_neg h1]
    have h1' : ¬ b.toInt < a.toInt := fun w => h1 (Int64.lt_iff_toInt_lt.mpr w)
    by_cases h2 : a = b
    · rw [if_pos h2]; exact ⟨fun h => absurd h (by decide), fun h => absurd h h1'⟩
    · rw [if_neg h2]; exact ⟨fun h => absurd h (by decide), fun h => absurd h h1'⟩
theorem lg_nn (a b : Int64) : 0 ≤ lg_cmp a b ↔ b.toInt ≤ a.toInt := by
  unfold lg_cmp
  by_cases h1 : a > b
  · rw [if_pos h1]
    exact ⟨fun _ => Int.le_of_lt (Int64.lt_iff_toInt_lt.mp h1), fun _ => by decide⟩
  · rw [if_neg h1]
    have h1' : ¬ b.toInt < a.toInt := fun w => h1 (Int64.lt_iff_toInt_lt.mpr w)
    by_cases h2 : a = b
    · rw [if_pos h2]; exact ⟨fun _ => by rw [h2]; exact Int.le_refl _, fun _ => by decide⟩
    · rw [if_neg h2]
      have h3 : a.toInt ≠ b.toInt := fun w => h2 (Int64.toInt_inj.mp w)
      exact ⟨fun h => absurd h (by decide), fun h => by omega⟩
theorem nL_eq {a b : Nat} (ha : a < 2 ^ 63) (hb : b < 2 ^ 63) : nL a = nL b ↔ a = b := by
  constructor
  · intro h
    have := congrArg Int64.toInt h
    rw [nL_int ha, nL_int hb] at this
    omega
  · intro h; rw [h]
theorem nL_eq0 {a : Nat} (ha : a < 2 ^ 64) : nL a = 0 ↔ a = 0 := by
  constructor
  · intro h
    have := congrArg (fun x : Int64 => x.toUInt64.toNat) h
    rw [nL_u ha] at this
    exact this
  · intro h; rw [h]; rfl
/-- the magnitude -/
theorem mag_pos {v : Int64} (h : 0 ≤ v.toInt) : v = nL v.toInt.natAbs := by
  apply Int64.toInt_inj.mp
  have := v.toInt_lt
  rw [nL_int (by omega)]
  omega
theorem mag_neg {v : Int64} (h : v.toInt < 0) : -v = nL v.toInt.natAbs := by
  have h2 := v.le_toInt
  have e : Int64.ofInt (-v.toInt) = -v := by rw [Int64.ofInt_neg, Int64.ofInt_toInt]
  rw [← e]
  have : -v.toInt = ((v.toInt.natAbs : Nat) : Int) := by omega
  rw [this, Int64.ofInt_eq_ofNat]
  rfl
theorem nI_sub {a b : Nat} (h : b ≤ a) : nI a - nI b = nI (a - b) := by
  have e : nI a = nI (a - b) + nI b := by rw [nI_add]; congr 1; omega
  rw [e, Int32.add_sub_cancel]
def rnd (v : Int64) (n : Nat) : Int64 := if v.toInt < 0 then -(nL n) else if 2 ^ 63 ≤ n then 9223372036854775807 else nL n
theorem r_b104 {v : Int64} {L c : Nat} {S : Sg} {Q : Int64 → Sg → Prop} (hL : L < 64) (hc : c * 2 ^ L ≤ 2 ^ 63) (h : Q (rnd v (c * 2 ^ L)) S) : wX11_rounded_b104 v (nI L) (nL c) S Q := by
  unfold wX11_rounded_b104
  rw [nL_shl hL]
  refine nm_e ?_
  unfold rnd at h
  by_cases z : v.toInt < 0
  · rw [if_pos z] at h
    rw [if_neg (by rw [lg_nn]; show ¬ (0 : Int) ≤ _; omega)]
    exact h
  · rw [if_neg z] at h
    rw [if_pos (by rw [lg_nn]; show (0 : Int) ≤ _; omega)]
    by_cases y : 2 ^ 63 ≤ c * 2 ^ L
    · rw [if_pos y] at h
      have e : c * 2 ^ L = 2 ^ 63 := by omega
      rw [e, if_neg (by decide)]
      exact h
    · rw [if_neg y] at h
      rw [if_pos (by rw [lg_nn, nL_int (by omega)]; show (0 : Int) ≤ _; omega)]
      exact h
theorem r_b42 {v : Int64} {m L b : Nat} {S : Sg} {Q : Int64 → Sg → Prop} (hm : m ≤ 2 ^ 63) (hL : 1 ≤ L) (hL2 : L < 63) (h : Q (rnd v (FP.Core.nearest m (2 ^ L) * 2 ^ L)) S) (hn : FP.Core.nearest m (2 ^ L) * 2 ^ L ≤ 2 ^ 63) : wX11_rounded_b42 v (nL m) (nI L) S Q := by
  unfold wX11_rounded_b42
  rw [if_neg (nI_ne0 (by omega) (by omega))]
  have hp : 2 ^ L < 2 ^ 63 := Nat.pow_lt_pow_right (by decide) hL2
  have hp2 : 2 ^ (L - 1) < 2 ^ 63 := Nat.pow_lt_pow_right (by decide) (by omega)
  have hpp : 2 * 2 ^ (L - 1) = 2 ^ L := by rw [← Nat.pow_succ']; congr 1; omega
  have e1 : ∀ k, k < 64 → (1 : Int64) <<< ((nI k).toInt64 &&& 63) = nL (2 ^ k) := fun k hk => by
    have := nL_shl (c := 1) hk
    rw [Nat.one_mul] at this
    exact this
  rw [e1 L (by omega), nL_s1 (Nat.two_pow_pos L), nL_and (by omega) (by omega), show nI L - 1 = nI (L - 1) from nI_sub hL, e1 (L - 1) (by omega), nL_shr (by omega) (by omega)]
  refine nm_e (nm_e (nm_e ?_))
  have hr : m % 2 ^ L < 2 ^ L := Nat.mod_lt _ (Nat.two_pow_pos L)
  have hq : m / 2 ^ L ≤ 2 ^ 62 := by
    have : 2 ^ 1 ≤ 2 ^ L := Nat.pow_le_pow_right (by decide) hL
    have h2 : m / 2 ^ L ≤ m / 2 ^ 1 := Nat.div_le_div_left this (by decide)
    omega
  have up : FP.Core.nearest m (2 ^ L) = m / 2 ^ L + 1 → wX11_rounded_b98 v (nI L) (nL (m / 2 ^ L)) S Q := by
    intro e
    unfold wX11_rounded_b98
    rw [nL_1]
    refine nm_e (r_b104 (by omega) (by rw [← e]; exact hn) ?_)
    rw [← e]; exact h
  have down : FP.Core.nearest m (2 ^ L) = m / 2 ^ L → wX11_rounded_b104 v (nI L) (nL (m / 2 ^ L)) S Q := by
    intro e
    refine r_b104 (by omega) (by rw [← e]; exact hn) ?_
    rw [← e]; exact h
  by_cases c1 : 2 ^ (L - 1) < m % 2 ^ L
  · rw [if_pos (by rw [lg_pos, nL_int (by omega), nL_int (by omega)]; omega)]
    refine up ?_
    unfold FP.Core.nearest
    rw [if_neg (by omega), if_pos (by omega)]
  rw [if_neg (by rw [lg_pos, nL_int (by omega), nL_int (by omega)]; omega)]
  by_cases c2 : m % 2 ^ L = 2 ^ (L - 1)
  · rw [if_pos (by rw [lg_eq, nL_eq (by omega) (by omega)]; exact c2)]
    have ea : nL (m / 2 ^ L) &&& 1 = nL (m / 2 ^ L % 2) := nL_and (k := 1) (by omega) (by omega)
    rw [ea, show (1 : Int64) = nL 1 from rfl]
    by_cases c3 : m / 2 ^ L % 2 = 1
    · rw [if_pos (by rw [lg_eq, nL_eq (by omega) (by omega)]; exact c3)]
      refine up ?_
      unfold FP.Core.nearest
      rw [if_neg (by omega), if_neg (by omega), c3]
    · rw [if_neg (by rw [lg_eq, nL_eq (by omega) (by omega)]; exact c3)]
      refine down ?_
      unfold FP.Core.nearest
      rw [if_neg (by omega), if_neg (by omega)]
      omega
  · rw [if_neg (by rw [lg_eq, nL_eq (by omega) (by omega)]; exact c2)]
    refine down ?_
    unfold FP.Core.nearest
    rw [if_pos (by omega)]
/-- the reference's rounding to b digits -/
theorem r_rounded {v : Int64} {b : Nat} {S : Sg} {Q : Int64 → Sg → Prop} (hb : 2 ≤ b) (hb2 : b ≤ 62) (h0 : v.toInt.natAbs < 2 ^ b → Q v S) (h1 : ∀ L, 1 ≤ L → L + b ≤ 64 → 2 ^ (L + b - 1) ≤ v.toInt.natAbs → v.toInt.natAbs < 2 ^ (L + b) → FP.Core.nearest v.toInt.natAbs (2 ^ L) * 2 ^ L ≤ 2 ^ 63 ∧ Q (rnd v (FP.Core.nearest v.toInt.natAbs (2 ^ L) * 2 ^ L)) S) : wX11_rounded v (nI b) S Q := by
  have hm : v.toInt.natAbs ≤ 2 ^ 63 := by
    have := v.toInt_lt
    have := v.le_toInt
    omega
  have hpos : 0 ≤ v.toInt → v = nL v.toInt.natAbs := mag_pos
  have hneg : v.toInt < 0 → -v = nL v.toInt.natAbs := mag_neg
  generalize v.toInt.natAbs = m at *
  have fin : ∀ L, L + b ≤ 64 → (L = 0 ∨ 2 ^ (L + b - 1) ≤ m) → m < 2 ^ (L + b) → wX11_rounded_b42 v (nL m) (nI L) S Q := by
    intro L hLb hlo hhi
    rcases Nat.eq_zero_or_pos L with z | z
    · subst z
      unfold wX11_rounded_b42
      rw [if_pos (show nI 0 = 0 from rfl)]
      rw [Nat.zero_add] at hhi
      exact h0 hhi
    · rcases hlo with w | w
      · omega
      · obtain ⟨u1, u2⟩ := h1 L z hLb w hhi
        exact r_b42 (b := b) hm z (by omega) u2 u1
  have key : ∀ d L, L + d = 64 - b → (L = 0 ∨ 2 ^ (L + b - 1) ≤ m) → wX11_rounded_b16 (d + 1) v (nI b) (nL m) (nI L) S Q := by
    intro d
    induction d with
    | zero =>
      intro L hL hlo
      unfold wX11_rounded_b16
      rw [show (64 : Int32) = nI 64 from rfl, nI_sub (by omega), if_pos (by rw [n_le (by omega) (by omega)]; omega)]
      refine fin L (by omega) hlo ?_
      rw [show L + b = 64 by omega]
      omega
    | succ d ih =>
      intro L hL hlo
      unfold wX11_rounded_b16
      rw [show (64 : Int32) = nI 64 from rfl, nI_sub (by omega), if_neg (by rw [n_le (by omega) (by omega)]; omega), nI_add, nL_shr (by omega) (by omega)]
      have hd : m / 2 ^ (b + L) ≤ m := Nat.div_le_self _ _
      by_cases c : m / 2 ^ (b + L) = 0
      · rw [if_pos (by rw [lg_eq, nL_eq0 (by omega)]; exact c)]
        refine fin L (by omega) hlo ?_
        rw [Nat.add_comm]
        exact (Nat.div_eq_zero_iff_lt (Nat.two_pow_pos _)).mp c
      · rw [if_neg (by rw [lg_eq, nL_eq0 (by omega)]; exact c), nI_1]
        refine nm_e (ih (L + 1) (by omega) (Or.inr ?_))
        rw [show L + 1 + b - 1 = b + L by omega]
        rcases Nat.lt_or_ge m (2 ^ (b + L)) with w | w
        · exact absurd (Nat.div_eq_of_lt w) c
        · exact w
  have b12 : ∀ q0 : Int64, q0 = nL m → wX11_rounded_b12 v (nI b) q0 S Q := by
    intro q0 e
    rw [e]
    exact ⟨_, key (64 - b) 0 (by omega) (Or.inl rfl)⟩
  unfold wX11_rounded
  by_cases z : 0 ≤ lg_cmp v 0
  · rw [if_pos z]
    exact b12 v (hpos ((lg_nn _ _).mp z))
  · rw [if_neg z]
    have z2 : ¬ (0 : Int64).toInt ≤ v.toInt := fun w => z ((lg_nn _ _).mpr w)
    have z3 : (0 : Int64).toInt = 0 := rfl
    exact b12 _ (hneg (by omega))
