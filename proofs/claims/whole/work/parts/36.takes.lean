/-- the trial takes the kind -/
def tkn (a : Int32) (K : Nat) : Prop := (a >>> (nI 10 &&& 31)) &&& 1 = 1 ∨ (a >>> (nI K &&& 31)) &&& 1 = 1 ∨ (K < 3 ∧ ∃ i, i < K ∧ (a >>> (nI i &&& 31)) &&& 1 = 1)
theorem tkn_bits (a : Int32) (K : Nat) (hK : K ≤ 9) : ¬ tkn a K ↔ a &&& ((1 : Int32) <<< (nI 10 &&& 31)) = 0 ∧ a &&& ((1 : Int32) <<< (nI K &&& 31)) = 0 ∧ (K < 3 → ∀ i, i < K → a &&& ((1 : Int32) <<< (nI i &&& 31)) = 0) := by
  unfold tkn
  rw [bit_k a 10 (by omega), bit_k a K (by omega)]
  constructor
  · intro h
    refine ⟨fun q => h (Or.inl q), fun q => h (Or.inr (Or.inl q)), fun h3 i hi => ?_⟩
    rw [bit_k a i (by omega)]
    exact fun q => h (Or.inr (Or.inr ⟨h3, i, hi, q⟩))
  · rintro ⟨h1, h2, h3⟩ (q | q | ⟨q1, i, q2, q3⟩)
    · exact h1 q
    · exact h2 q
    · have := h3 q1 i q2
      rw [bit_k a i (by omega)] at this
      exact this q3
theorem r_isTaken {a : Int32} {K : Nat} {S : Sg} {Q : Int32 → Sg → Prop} (hK : K ≤ 9) (h1 : tkn a K → Q 1 S) (h0 : ¬ tkn a K → Q 0 S) : wX11_isTaken a (nI K) S Q := by
  have e10 : (10 : Int32) &&& 31 = nI 10 &&& 31 := rfl
  -- the loop, given what is known so far
  have lp : ∀ q : Int32, (q = 1 ∧ tkn a K) ∨ (q = 0 ∧ ¬ (a >>> (nI 10 &&& 31)) &&& 1 = 1 ∧ ¬ (a >>> (nI K &&& 31)) &&& 1 = 1) → wX11_isTaken_b24 a (nI K) q S Q := by
    intro q hq
    unfold wX11_isTaken_b24
    have end1 : tkn a K → ((1 : Int32) = 0 ∨ (1 : Int32) = 1) ∧ Q 1 S := fun h => ⟨Or.inr rfl, h1 h⟩
    have end0 : ¬ tkn a K → ((0 : Int32) = 0 ∨ (0 : Int32) = 1) ∧ Q 0 S := fun h => ⟨Or.inl rfl, h0 h⟩
    by_cases big : K = 0 ∨ 3 ≤ K
    · refine ⟨1, ?_⟩
      have fin : (q = 0 ∨ q = 1) ∧ Q q S := by
        rcases hq with ⟨rfl, h⟩ | ⟨rfl, g1, g2⟩
        · exact end1 h
        · refine end0 ?_
          rintro (w | w | ⟨w1, i, w2, w3⟩)
          · exact g1 w
          · exact g2 w
          · omega
      unfold wX11_isTaken_b27
      by_cases z : nI K ≤ 0
      · rw [if_pos z]; exact fin
      · rw [if_neg z, if_pos ?_]
        · exact fin
        · rw [show (3 : Int32) = nI 3 from rfl, n_le (by omega) (by omega)]
          rcases big with w | w
          · exfalso; apply z; rw [w]; decide
          · exact w
    · have hK' : K = 1 ∨ K = 2 := by omega
      rcases hK' with rfl | rfl
      · refine ⟨2, ?_⟩
        unfold wX11_isTaken_b27
        rw [if_neg (by decide), if_neg (by decide)]
        have stop : ∀ q' : Int32, (q' = 0 ∨ q' = 1) ∧ Q q' S → ∀ y : Int32, y = 0 + (1) → wX11_isTaken_b27 1 a (nI 1) q' y S Q := by
          intro q' hq' y ey
          rw [ey]
          unfold wX11_isTaken_b27
          rw [if_pos (by decide)]; exact hq'
        rcases hq with ⟨rfl, h⟩ | ⟨rfl, g1, g2⟩
        · rw [if_neg (by decide)]
          exact stop 1 (end1 h)
        · rw [if_pos rfl]
          by_cases z : (a >>> ((0 : Int32) &&& 31)) &&& 1 = 1
          · rw [if_pos z]
            exact stop 1 (end1 (Or.inr (Or.inr ⟨by omega, 0, by omega, z⟩)))
          · rw [if_neg z]
            refine stop 0 (end0 ?_)
            rintro (w | w | ⟨w1, i, w2, w3⟩)
            · exact g1 w
            · exact g2 w
            · have : i = 0 := by omega
              subst this
              exact z w3
      · refine ⟨3, ?_⟩
        have stop : ∀ q' : Int32, (q' = 0 ∨ q' = 1) ∧ Q q' S → ∀ y : Int32, y = 1 + (1) → wX11_isTaken_b27 1 a (nI 2) q' y S Q := by
          intro q' hq' y ey
          rw [ey]
          unfold wX11_isTaken_b27
          rw [if_pos (by decide)]; exact hq'
        have mid : ∀ q' : Int32, (q' = 1 ∧ tkn a 2) ∨ (q' = 0 ∧ ¬ (a >>> (nI 10 &&& 31)) &&& 1 = 1 ∧ ¬ (a >>> (nI 2 &&& 31)) &&& 1 = 1 ∧ ¬ (a >>> (nI 0 &&& 31)) &&& 1 = 1) → ∀ y : Int32, y = 0 + (1) → wX11_isTaken_b27 2 a (nI 2) q' y S Q := by
          intro q' hq' y ey
          rw [ey]
          unfold wX11_isTaken_b27
          rw [if_neg (by decide), if_neg (by decide)]
          rcases hq' with ⟨rfl, h⟩ | ⟨rfl, g1, g2, g3⟩
          · rw [if_neg (by decide)]
            exact stop 1 (end1 h)
          · rw [if_pos rfl]
            by_cases z : (a >>> ((0 + (1) : Int32) &&& 31)) &&& 1 = 1
            · rw [if_pos z]
              exact stop 1 (end1 (Or.inr (Or.inr ⟨by omega, 1, by omega, z⟩)))
            · rw [if_neg z]
              refine stop 0 (end0 ?_)
              rintro (w | w | ⟨w1, i, w2, w3⟩)
              · exact g1 w
              · exact g2 w
              · have : i = 0 ∨ i = 1 := by omega
                rcases this with rfl | rfl
                · exact g3 w3
                · exact z w3
        unfold wX11_isTaken_b27
        rw [if_neg (by decide), if_neg (by decide)]
        rcases hq with ⟨rfl, h⟩ | ⟨rfl, g1, g2⟩
        · rw [if_neg (by decide)]
          exact mid 1 (Or.inl ⟨rfl, h⟩)
        · rw [if_pos rfl]
          by_cases z : (a >>> ((0 : Int32) &&& 31)) &&& 1 = 1
          · rw [if_pos z]
            exact mid 1 (Or.inl ⟨rfl, Or.inr (Or.inr ⟨by omega, 0, by omega, z⟩)⟩)
          · rw [if_neg z]
            exact mid 0 (Or.inr ⟨rfl, g1, g2, z⟩)
  unfold wX11_isTaken
  rw [e10]
  by_cases z1 : (a >>> (nI 10 &&& 31)) &&& 1 = 1
  · rw [if_pos z1]; unfold wX11_isTaken_b19; exact lp 1 (Or.inl ⟨rfl, Or.inl z1⟩)
  · rw [if_neg z1]
    by_cases z2 : (a >>> (nI K &&& 31)) &&& 1 = 1
    · rw [if_pos z2]; unfold wX11_isTaken_b19; exact lp 1 (Or.inl ⟨rfl, Or.inr (Or.inl z2)⟩)
    · rw [if_neg z2]; exact lp 0 (Or.inr ⟨rfl, z1, z2⟩)
/-- the class's takes -/
theorem r_ctakes {b q K : Nat} {a : Int32} {o : Option Nat} {S : Sg} {Q : Int32 → Sg → Prop} (hK : K ≤ 9) (hb : tg S b = 8) (h450 : fI S 450 b = a) (h454 : fI S 454 b = opI o) (ho : ∀ v, o = some v → v < 2147483648) (hq : tg S q = 1) (h0 : fI S 0 q = nI K) (g1 : o ≠ none → tkn a K → Q 1 S) (g0 : (o = none ∨ ¬ tkn a K) → Q 0 S) : wX9_takes (some b) (some q) S Q := by
  have fin : ∀ x3 : Int32, (o ≠ none) → (a &&& x3 = 0 ↔ ¬ tkn a K) → wX9_takes_b49 (some b) x3 S Q := by
    intro x3 hn hx
    unfold wX9_takes_b49
    refine ⟨b, rfl, hb, ?_⟩
    rw [h450]
    by_cases z : a &&& x3 = 0
    · rw [if_pos z]; exact g0 (Or.inr (hx.mp z))
    · rw [if_neg z]; exact g1 hn (Classical.byContradiction (fun w => z (hx.mpr w)))
  unfold wX9_takes
  refine ⟨b, rfl, hb, ?_⟩
  rw [h454]
  by_cases z : o = none
  · rw [if_pos ((opI_neg ho).mpr z)]; exact g0 (Or.inl z)
  · rw [if_neg (fun w => z ((opI_neg ho).mp w)), if_neg (fun w => by cases w)]
    refine ⟨q, rfl, hq, nm_e (nm_e ?_)⟩
    rw [h0]
    have t := tkn_bits a K hK
    have e1024 : (1024 : Int32) = (1 : Int32) <<< (nI 10 &&& 31) := by decide
    have e1 : (1 : Int32) = (1 : Int32) <<< (nI 0 &&& 31) := by decide
    have e2 : (2 : Int32) = (1 : Int32) <<< (nI 1 &&& 31) := by decide
    by_cases k1 : K = 1
    · subst k1
      rw [if_pos (by decide)]
      unfold wX9_takes_b36
      refine nm_e ?_
      unfold wX9_takes_b40
      rw [if_neg (by decide)]
      refine fin _ z ?_
      rw [and_or0, and_or0, t, ← e1024]
      constructor
      · rintro ⟨⟨w1, w2⟩, w3⟩
        refine ⟨w1, w2, fun _ i hi => ?_⟩
        have : i = 0 := by omega
        subst this
        rw [← e1]; exact w3
      · rintro ⟨w1, w2, w3⟩
        refine ⟨⟨w1, w2⟩, ?_⟩
        have := w3 (by omega) 0 (by omega)
        rw [← e1] at this; exact this
    by_cases k2 : K = 2
    · subst k2
      rw [if_neg (by decide), if_pos (by decide)]
      unfold wX9_takes_b36
      refine nm_e ?_
      unfold wX9_takes_b40
      rw [if_pos (by decide)]
      refine nm_e (fin _ z ?_)
      rw [and_or0, and_or0, and_or0, t, ← e1024]
      constructor
      · rintro ⟨⟨⟨w1, w2⟩, w3⟩, w4⟩
        refine ⟨w1, w2, fun _ i hi => ?_⟩
        have : i = 0 ∨ i = 1 := by omega
        rcases this with rfl | rfl
        · rw [← e1]; exact w3
        · rw [← e2]; exact w4
      · rintro ⟨w1, w2, w3⟩
        have a0 := w3 (by omega) 0 (by omega)
        have a1 := w3 (by omega) 1 (by omega)
        rw [← e1] at a0
        rw [← e2] at a1
        exact ⟨⟨⟨w1, w2⟩, a0⟩, a1⟩
    have n1 : ¬ nI K = 1 := by rw [show (1 : Int32) = nI 1 from rfl, n_eq (by omega) (by omega)]; exact k1
    have n2 : ¬ nI K = 2 := by rw [show (2 : Int32) = nI 2 from rfl, n_eq (by omega) (by omega)]; exact k2
    rw [if_neg n1, if_neg n2]
    unfold wX9_takes_b40
    rw [if_neg n2]
    refine fin _ z ?_
    rw [and_or0, t, ← e1024]
    constructor
    · rintro ⟨w1, w2⟩
      exact ⟨w1, w2, fun h i hi => by omega⟩
    · rintro ⟨w1, w2, w3⟩
      exact ⟨w1, w2⟩
