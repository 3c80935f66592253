theorem i_nle (a b : Int32) : ¬ a ≤ b ↔ b < a := by
  rw [Int32.le_iff_toInt_le, Int32.lt_iff_toInt_lt]; omega
theorem i_nlt (a b : Int32) : ¬ a < b ↔ b ≤ a := by
  rw [Int32.le_iff_toInt_le, Int32.lt_iff_toInt_lt]; omega
theorem step_grid {x m n nn a : Nat} {st : Nat → Nat} {op oa ob oc : Nat → Int32} {N : Nat} {th ra rb rc : Nat → Nat} {F : Nat} {fa : Nat → Nat} {f : FrT} {L : List FrT} {p left took i : Nat} {S T0 : Sg} (h0 : TK x m n nn a st op oa ob oc N th ra rb rc F fa f L p left took S T0) (hi : op p = nI i) (i1 : 11 ≤ i) (i2 : i ≤ 13) : StepS x m n nn a st op oa ob oc N th ra rb rc F fa f L p left took S := by
  obtain ⟨hp, hn⟩ := TK_p h0
  obtain ⟨s1, s2, s3, s4, s5, s6, s7, s8, s9, s10, -⟩ := St_st h0.1.1 hp
  have hS := h0.1.1.1
  obtain ⟨ja, hja, eja⟩ := and7_of (oa p)
  obtain ⟨jb, hjb, ejb⟩ := and7_of (ob p)
  obtain ⟨jc, hjc, ejc⟩ := and7_of (oc p)
  generalize hX : (aL S (x + 5) ja).toInt32 = X
  generalize hY : (aL S (x + 5) jb).toInt32 = Y
  have lt : ∀ k, k < 36 → k ≠ i → ¬ nI i = nI k := fun k hk h => n_ne (by omega) (by omega) (fun e => h e.symm)
  have cls : ∀ Q : Int32 → Sg → Prop, (if i = 11 then (if X < 0 then Q 7 S else if 0 ≤ Y then wX2_make (x + 8) (X &&& 7) (Y &&& 7) S (fun S27 => Q (-1) S27) else Q 7 S) else (if fI S 129 (x + 8) = 0 then Q 6 S else wX2_has (x + 8) X Y S (fun (r9 : Int32) (S10 : Sg) => if r9 = 0 then Q 5 S10 else (if (fI S10 449 (st p)) = (12 : Int32) then ∃ a18 : Nat, (fR S10 195 (x + 4)) = some a18 ∧ tg S10 a18 = 3 ∧ wX2_cellAt a18 X Y S10 (fun (r19 : Int32) (S20 : Sg) => wX3_setNumber (x + 4) (fI S10 452 (st p)) ((r19).toInt64) S20 (fun (S22 : Sg) => Q (-1 : Int32) S22)) else wX3_intOf (x + 4) (fI S10 452 (st p)) S10 (fun (r13 : Int32) (S14 : Sg) => ∃ a15 : Nat, (fR S10 195 (x + 4)) = some a15 ∧ tg S14 a15 = 3 ∧ wX2_putCell a15 X Y r13 S14 (fun (S17 : Sg) => Q (-1 : Int32) S17)))))) → wX3_workStep (x + 4) (some (st p)) S Q := by
    intro Q hQ
    unfold wX3_workStep
    refine ⟨st p, rfl, s2, ?_⟩
    rw [s5, hi, if_pos (by rw [show (6 : Int32) = nI 6 from rfl, n_lt (by omega) (by omega)]; omega), if_neg (show ¬ nI i = 7 from lt 7 (by omega) (by omega)), if_pos (by rw [show (10 : Int32) = nI 10 from rfl, n_lt (by omega) (by omega)]; omega), if_neg (by rw [show (13 : Int32) = nI 13 from rfl, n_lt (by omega) (by omega)]; omega)]
    unfold wX3_workGrid
    refine ⟨st p, rfl, s2, ?_⟩
    rw [s6]
    refine r_intOf hS eja hja ?_
    rw [s7]
    refine r_intOf hS ejb hjb ?_
    rw [hX, hY]
    by_cases c : i = 11
    · rw [if_pos c] at hQ
      rw [s5, hi, c, if_pos (show nI 11 = 11 from rfl)]
      by_cases c1 : X < 0
      · rw [if_pos c1] at hQ ⊢; exact hQ
      · rw [if_neg c1] at hQ ⊢
        by_cases c2 : 0 ≤ Y
        · rw [if_pos c2] at hQ ⊢
          exact ⟨x + 8, SX_r195 hS, SX_t8 hS, hQ⟩
        · rw [if_neg c2] at hQ ⊢; exact hQ
    · rw [if_neg c] at hQ
      rw [s5, hi, if_neg (show ¬ nI i = 11 from lt 11 (by omega) (by omega))]
      exact ⟨x + 8, SX_r195 hS, SX_t8 hS, hQ⟩
  -- the reference's side
  have ref : ∀ T, TK x m n nn a st op oa ob oc N th ra rb rc F fa f L p left took S T → ∀ Q : Int32 → Sg → Prop, (if i = 11 then (if X < 0 then Q 8 T else if 0 ≤ Y then ∃ fu43 : Nat, wX11_grids_b68 fu43 m (0 : Int32) (sFI (sFI (sFI T 725 m 1) 726 m (X &&& 7)) 727 m (Y &&& 7)) (fun r S => Q r S) else Q 8 T) else if fI T 725 m = 0 then Q 7 T else if X < 0 then Q 6 T else if fI T 726 m ≤ X then Q 6 T else if Y < 0 then Q 6 T else if Y < fI T 727 m then (vp_in (8 * X + Y) 64 ∧ if i = 12 then Q 0 (sAL T (m + 12) jc (aI T (m + 19) (8 * X + Y).toNatClampNeg).toInt64) else Q 0 (sAI T (m + 19) (8 * X + Y).toNatClampNeg (aL T (m + 12) jc).toInt32)) else Q 6 T) → hB m (nI p) (op p) T Q := by
    intro T hT Q hQ
    have hM := hT.1.1.2.1
    have hNu := hT.1.2.1.2.1
    obtain ⟨-, -, -, -, -, f1, f2, f3, f4⟩ := hT.1.1
    have v1 : vp_in (nI p) (ln T (m + 1)) := by rw [MX_l1 hM]; exact vp_n (by omega) (by omega)
    unfold hB
    rw [hi, if_pos (by rw [show (7 : Int32) = nI 7 from rfl, n_le (by omega) (by omega)]; omega), if_neg (by rw [show (14 : Int32) = nI 14 from rfl, n_le (by omega) (by omega)]; omega)]
    unfold wX11_rows
    refine ⟨m + 1, MX_r704 hM, MX_t1 hM, v1, ?_⟩
    rw [n_cl (by omega), f1, hi]
    refine nm_e ?_
    rw [if_neg (by rw [show (10 : Int32) = nI 10 from rfl, n_le (by omega) (by omega)]; omega)]
    unfold wX11_grids
    refine ⟨m + 2, MX_r705 hM, MX_t2 hM, by rw [MX_l2 hM]; exact vp_n (by omega) (by omega), ?_⟩
    rw [n_cl (by omega), f2]
    refine r_mIntOf hM eja hja ?_
    refine ⟨m + 3, MX_r706 hM, MX_t3 hM, by rw [MX_l3 hM]; exact vp_n (by omega) (by omega), ?_⟩
    rw [f3]
    refine r_mIntOf hM ejb hjb ?_
    rw [← hNu ja hja, ← hNu jb hjb, hX, hY]
    refine ⟨m + 1, MX_r704 hM, MX_t1 hM, v1, ?_⟩
    rw [f1, hi]
    by_cases c : i = 11
    · rw [if_pos c] at hQ
      rw [c, if_pos (show nI 11 = 11 from rfl)]
      by_cases c1 : X < 0
      · rw [if_pos c1] at hQ ⊢; exact hQ
      · rw [if_neg c1] at hQ ⊢
        by_cases c2 : 0 ≤ Y
        · rw [if_pos c2] at hQ ⊢
          exact nm_e (nm_e (nm_e hQ))
        · rw [if_neg c2] at hQ ⊢; exact hQ
    · rw [if_neg c] at hQ
      rw [if_neg (show ¬ nI i = 11 from lt 11 (by omega) (by omega))]
      by_cases c0 : fI T 725 m = 0
      · rw [if_pos c0] at hQ ⊢; exact hQ
      rw [if_neg c0] at hQ ⊢
      by_cases c1 : X < 0
      · rw [if_pos c1] at hQ ⊢; exact hQ
      rw [if_neg c1] at hQ ⊢
      by_cases c2 : fI T 726 m ≤ X
      · rw [if_pos c2] at hQ ⊢; exact hQ
      rw [if_neg c2] at hQ ⊢
      by_cases c3 : Y < 0
      · rw [if_pos c3] at hQ ⊢; exact hQ
      rw [if_neg c3] at hQ ⊢
      by_cases c4 : Y < fI T 727 m
      · rw [if_pos c4] at hQ ⊢
        refine ⟨v1, ?_⟩
        obtain ⟨hv, hQ⟩ := hQ
        have hv' : vp_in (8 * X + Y) (ln T (m + 19)) := by rw [MX_l19 hM]; exact hv
        by_cases c5 : i = 12
        · rw [if_pos c5] at hQ
          rw [c5, if_pos (show nI 12 = 12 from rfl)]
          refine ⟨m + 4, MX_r707 hM, MX_t4 hM, by rw [MX_l4 hM]; exact vp_n (by omega) (by omega), m + 19, MX_r728 hM, MX_t19 hM, hv', m + 12, MX_r717 hM, MX_t12 hM, ?_⟩
          rw [f4, ejc, n_cl (by omega)]
          exact ⟨by rw [MX_l12 hM]; exact vp_n hjc (by omega), nm_e hQ⟩
        · rw [if_neg c5] at hQ
          rw [if_neg (show ¬ nI i = 12 from lt 12 (by omega) (by omega))]
          refine ⟨m + 4, MX_r707 hM, MX_t4 hM, by rw [MX_l4 hM]; exact vp_n (by omega) (by omega), ?_⟩
          rw [f4]
          refine r_mIntOf hM ejc hjc ⟨m + 19, MX_r728 hM, MX_t19 hM, hv', nm_e hQ⟩
      · rw [if_neg c4] at hQ ⊢; exact hQ
  have hG : ∀ T, TK x m n nn a st op oa ob oc N th ra rb rc F fa f L p left took S T → fI T 725 m = fI S 129 (x + 8) ∧ fI T 726 m = fI S 130 (x + 8) ∧ fI T 727 m = fI S 131 (x + 8) := by
    intro T hT
    obtain ⟨q1, q2, ⟨g, c, k1, k2, k3, k4, k5, k6, -⟩, -⟩ := hT.1.2.1.2.2.2.2
    exact ⟨q1.symm, k4.trans k3.symm, k6.trans k5.symm⟩
  by_cases c11 : i = 11
  · by_cases c1 : X < 0
    · exact StepS_bad (k := 7) h0 hi (by omega) (by omega) (by omega) (fun Q hQ => cls Q (by rw [if_pos c11, if_pos c1]; exact hQ)) (fun T hT Q hQ => ref T hT Q (by rw [if_pos c11, if_pos c1]; exact hQ))
    by_cases c2 : 0 ≤ Y
    · obtain ⟨g, hg, eg⟩ := and7_of X
      obtain ⟨q, hq, eq⟩ := and7_of Y
      refine StepS_ok (S1 := sGr x g q S) h0 hi (by omega) (by omega) ?_ (fun Q hQ => cls Q ?_) (fun T hT => ⟨tGr m g q T, fun Q hQ => ref T hT Q ?_, Mid_grid hT.1 hg hq, ?_, ?_, ?_⟩)
      · unfold sGr; simp only [zI_at, gs_FI]; rw [if_neg (by omega), if_neg (by omega), if_neg (by omega)]; exact h0.2.1.2.1
      · rw [if_pos c11, if_neg c1, if_pos c2, eg, eq]
        unfold wX2_make
        intro S1 e1 S2 e2 S3 e3
        have hS3 : SX x S3 := by rw [e3, e2, e1]; exact hS
        rw [SX_r128 hS3]
        refine r_fillI (n := 49) (by omega) (SX_t9 hS3) (SX_l9 hS3) ?_
        rw [e3, e2, e1]
        exact hQ
      · rw [if_pos c11, if_neg c1, if_pos c2, eg, eq]
        exact r_grids0 (by simp only [MX_sFI]; exact hT.1.1.2.1) hQ
      · unfold sGr; simp only [zI_at, gs_FI]; rw [if_neg (by omega), if_neg (by omega), if_neg (by omega)]; exact hT.2.1.1
      · unfold sGr; simp only [zI_at, gs_FI]; exact hT.2.1.2.2.2.2
      · unfold tGr; simp only [zI_at, gs_FI]; rw [if_neg (by omega), if_neg (by omega), if_neg (by omega)]; exact hT.2.1.2.2.2.1
    · exact StepS_bad (k := 7) h0 hi (by omega) (by omega) (by omega) (fun Q hQ => cls Q (by rw [if_pos c11, if_neg c1, if_neg c2]; exact hQ)) (fun T hT Q hQ => ref T hT Q (by rw [if_pos c11, if_neg c1, if_neg c2]; exact hQ))
  by_cases c0 : fI S 129 (x + 8) = 0
  · exact StepS_bad (k := 6) h0 hi (by omega) (by omega) (by omega) (fun Q hQ => cls Q (by rw [if_neg c11, if_pos c0]; exact hQ)) (fun T hT Q hQ => ref T hT Q (by rw [if_neg c11, if_pos ((hG T hT).1.trans c0)]; exact hQ))
  have n0 : ∀ T, TK x m n nn a st op oa ob oc N th ra rb rc F fa f L p left took S T → ¬ fI T 725 m = 0 := fun T hT w => c0 ((hG T hT).1.symm.trans w)
  by_cases c1 : X < 0
  · exact StepS_bad (k := 5) h0 hi (by omega) (by omega) (by omega) (fun Q hQ => cls Q (by rw [if_neg c11, if_neg c0]; unfold wX2_has; rw [if_pos c1]; dsimp only; rw [if_pos rfl]; exact hQ)) (fun T hT Q hQ => ref T hT Q (by rw [if_neg c11, if_neg (n0 T hT), if_pos c1]; exact hQ))
  by_cases c2 : fI S 130 (x + 8) ≤ X
  · exact StepS_bad (k := 5) h0 hi (by omega) (by omega) (by omega) (fun Q hQ => cls Q (by rw [if_neg c11, if_neg c0]; unfold wX2_has; rw [if_neg c1, if_pos c2]; dsimp only; rw [if_pos rfl]; exact hQ)) (fun T hT Q hQ => ref T hT Q (by rw [if_neg c11, if_neg (n0 T hT), if_neg c1, (hG T hT).2.1, if_pos c2]; exact hQ))
  by_cases c3 : Y < 0
  · exact StepS_bad (k := 5) h0 hi (by omega) (by omega) (by omega) (fun Q hQ => cls Q (by rw [if_neg c11, if_neg c0]; unfold wX2_has; rw [if_neg c1, if_neg c2, if_pos c3]; dsimp only; rw [if_pos rfl]; exact hQ)) (fun T hT Q hQ => ref T hT Q (by rw [if_neg c11, if_neg (n0 T hT), if_neg c1, (hG T hT).2.1, if_neg c2, if_pos c3]; exact hQ))
  by_cases c4 : fI S 131 (x + 8) ≤ Y
  · exact StepS_bad (k := 5) h0 hi (by omega) (by omega) (by omega) (fun Q hQ => cls Q (by rw [if_neg c11, if_neg c0]; unfold wX2_has; rw [if_neg c1, if_neg c2, if_neg c3, if_pos c4]; dsimp only; rw [if_pos rfl]; exact hQ)) (fun T hT Q hQ => ref T hT Q (by rw [if_neg c11, if_neg (n0 T hT), if_neg c1, (hG T hT).2.1, if_neg c2, if_neg c3, (hG T hT).2.2, if_neg (by rw [i_nlt]; exact c4)]; exact hQ))
  -- there is such a place
  obtain ⟨-, -, ⟨g, c, k1, k2, k3, -, k5, -, -⟩, -⟩ := h0.1.2.1.2.2.2.2
  obtain ⟨r, hr, er⟩ := i_lt (b := g) (by omega) c1 (by rw [← k3]; exact c2)
  obtain ⟨q, hq, eq⟩ := i_lt (b := c) (by omega) c3 (by rw [← k5]; exact c4)
  have e8 : 8 * X + Y = nI (8 * r + q) := by rw [er, eq]; exact m8 (by omega) (by omega)
  have e7 : X * 7 + Y = nI (r * 7 + q) := by rw [er, eq, show (7 : Int32) = nI 7 from rfl, pk_mul, nI_add]
  have hv8 : vp_in (8 * X + Y) 64 := by rw [e8]; exact vp_n (by omega) (by omega)
  have e8' : (8 * X + Y).toNatClampNeg = 8 * r + q := by rw [e8]; exact n_cl (by omega)
  have yes : ∀ T, TK x m n nn a st op oa ob oc N th ra rb rc F fa f L p left took S T → ∀ Q : Int32 → Sg → Prop, (if i = 12 then Q 0 (sAL T (m + 12) jc (aI T (m + 19) (8 * r + q)).toInt64) else Q 0 (sAI T (m + 19) (8 * r + q) (aL T (m + 12) jc).toInt32)) → hB m (nI p) (op p) T Q := by
    intro T hT Q hQ
    refine ref T hT Q ?_
    rw [if_neg c11, if_neg (n0 T hT), if_neg c1, (hG T hT).2.1, if_neg c2, if_neg c3, (hG T hT).2.2, if_pos ((i_nle _ _).mp c4), e8']
    exact ⟨hv8, hQ⟩
  have yesC : ∀ Q : Int32 → Sg → Prop, (if i = 12 then Q (-1) (sAL S (x + 5) jc (aI S (x + 9) (r * 7 + q)).toInt64) else Q (-1) (sAI S (x + 9) (r * 7 + q) (aL S (x + 5) jc).toInt32)) → wX3_workStep (x + 4) (some (st p)) S Q := by
    intro Q hQ
    refine cls Q ?_
    rw [if_neg c11, if_neg c0]
    unfold wX2_has
    rw [if_neg c1, if_neg c2, if_neg c3, if_neg c4]
    dsimp only
    rw [if_neg (by decide)]
    by_cases c12 : i = 12
    · rw [if_pos c12] at hQ
      rw [s5, hi, c12, if_pos (show nI 12 = 12 from rfl), s8]
      refine ⟨x + 8, SX_r195 hS, SX_t8 hS, ?_⟩
      unfold wX2_cellAt
      rw [e7]
      refine nm_e ?_
      rw [if_neg (n_neg (by omega))]
      refine ⟨x + 9, SX_r128 hS, SX_t9 hS, ?_⟩
      rw [SX_l9 hS, if_neg (by rw [n_le (by omega) (by omega)]; omega), n_cl (by omega)]
      exact ⟨vp_n (by omega) (by omega), r_setNumber hS ejc hjc hQ⟩
    · rw [if_neg c12] at hQ
      rw [s5, hi, if_neg (show ¬ nI i = 12 from lt 12 (by omega) (by omega)), s8]
      refine r_intOf hS ejc hjc ⟨x + 8, SX_r195 hS, SX_t8 hS, ?_⟩
      unfold wX2_putCell
      rw [e7]
      refine nm_e ?_
      rw [if_neg (n_neg (by omega))]
      refine ⟨x + 9, SX_r128 hS, SX_t9 hS, ?_⟩
      rw [SX_l9 hS, if_neg (by rw [n_le (by omega) (by omega)]; omega), n_cl (by omega)]
      exact ⟨vp_n (by omega) (by omega), nm_e hQ⟩
  have hcell : ∀ T, TK x m n nn a st op oa ob oc N th ra rb rc F fa f L p left took S T → aI S (x + 9) (r * 7 + q) = aI T (m + 19) (8 * r + q) := fun T hT => hT.1.2.1.2.2.2.2.2.2.2 r q (by omega) (by omega)
  by_cases c12 : i = 12
  · exact StepS_num h0 hi (by omega) (by omega) hjc (fun Q hQ => yesC Q (by rw [if_pos c12]; exact hQ)) (fun T hT Q hQ => yes T hT Q (by rw [if_pos c12, ← hcell T hT]; exact hQ))
  · refine StepS_ok (S1 := sAI S (x + 9) (r * 7 + q) (aL S (x + 5) jc).toInt32) h0 hi (by omega) (by omega) ?_ (fun Q hQ => yesC Q (by rw [if_neg c12]; exact hQ)) (fun T hT => ⟨_, fun Q hQ => yes T hT Q (by rw [if_neg c12, ← hT.1.2.1.2.1 jc hjc]; exact hQ), Mid_cell hT.1 (by omega) (by omega), ?_, ?_, ?_⟩)
    · simp only [gs_AI]; exact h0.2.1.2.1
    · simp only [gs_AI]; exact hT.2.1.1
    · simp only [gs_AI]; exact hT.2.1.2.2.2.2
    · simp only [gs_AI]; exact hT.2.1.2.2.2.1
