/-! steps of the house -/
def hB (m : Nat) (y7 y10 : Int32) (T : Sg) (Q : Int32 → Sg → Prop) : Prop := if (7 : Int32) ≤ y10 then (if (14 : Int32) ≤ y10 then wX11_withThings m y7 T Q else wX11_rows m y7 T Q) else wX11_reckons m y7 T Q
theorem lit_le {i k : Nat} (hi : i < 2147483648) (hk : k < 2147483648) : (nI k ≤ nI i ↔ k ≤ i) := n_le hk hi
theorem house_cls {x p i n : Nat} {st : Nat → Nat} {o1 : Option Nat} {S : Sg} {Q : Sg → Prop} (hS : SX x S) (h2 : tg S (st p) = 8) {v : Int32} (h5 : fI S 449 (st p) = v) (hv : v = nI i) (i1 : 1 ≤ i) (i2 : i ≤ 21) (h : wX3_workStep (x + 4) (some (st p)) S (fun r S53 => wX9_goBehind (x + 13) r S53 (fun S => Q S))) : wX9_workStep (x + 13) o1 (some (st p)) S Q := by
  unfold wX9_workStep
  refine ⟨st p, rfl, h2, ?_⟩
  have ne : ∀ k, k < 36 → k ≠ i → ¬ nI i = nI k := fun k hk h => n_ne (by omega) (by omega) (fun e => h e.symm)
  rw [h5, hv, if_neg (show ¬ nI i = 0 from ne 0 (by omega) (by omega)), if_neg (show ¬ nI i = 22 from ne 22 (by omega) (by omega)), if_neg (show ¬ nI i = 23 from ne 23 (by omega) (by omega)), if_neg (show ¬ nI i = 24 from ne 24 (by omega) (by omega)), if_neg (show ¬ nI i = 25 from ne 25 (by omega) (by omega)), if_neg (show ¬ nI i = 26 from ne 26 (by omega) (by omega)), if_neg (show ¬ nI i = 27 from ne 27 (by omega) (by omega)), if_neg (show ¬ nI i = 28 from ne 28 (by omega) (by omega)), if_neg (show ¬ nI i = 29 from ne 29 (by omega) (by omega)), if_neg (show ¬ nI i = 30 from ne 30 (by omega) (by omega)), if_neg (show ¬ nI i = 31 from ne 31 (by omega) (by omega)), if_neg (show ¬ nI i = 32 from ne 32 (by omega) (by omega)), if_neg (show ¬ nI i = 33 from ne 33 (by omega) (by omega)), if_neg (show ¬ nI i = 34 from ne 34 (by omega) (by omega)), if_neg (show ¬ nI i = 35 from ne 35 (by omega) (by omega))]
  exact ⟨x + 4, SX_r577 hS, SX_t4 hS, h⟩
theorem house_ref {m i : Nat} {y v : Int32} {T : Sg} {Q : Sg → Prop} (hv : v = nI i) (i2 : i ≤ 21) (h : hB m y v T (fun r S => wX11_goOn m y r S (fun S => Q S))) : goB m y v T Q := by
  unfold goB
  unfold hB at h
  rw [if_neg (by rw [hv, show (25 : Int32) = nI 25 from rfl, n_le (by omega) (by omega)]; omega)]
  by_cases c : (7 : Int32) ≤ v
  · rw [if_pos c] at h ⊢
    by_cases c2 : (14 : Int32) ≤ v
    · rw [if_pos c2] at h ⊢
      rw [if_neg (by rw [hv, show (22 : Int32) = nI 22 from rfl, n_le (by omega) (by omega)]; omega)]
      exact h
    · rw [if_neg c2] at h ⊢
      exact h
  · rw [if_neg c] at h ⊢
    exact h
theorem StepS_ok {x m n nn a : Nat} {st : Nat → Nat} {op oa ob oc : Nat → Int32} {N : Nat} {th ra rb rc : Nat → Nat} {F : Nat} {fa : Nat → Nat} {f : FrT} {L : List FrT} {p left took i : Nat} {S T0 : Sg} (h0 : TK x m n nn a st op oa ob oc N th ra rb rc F fa f L p left took S T0) (hi : op p = nI i) (i1 : 1 ≤ i) (i2 : i ≤ 21) {S1 : Sg} {N' : Nat} {th' ra' rb' rc' : Nat → Nat} (h582 : fI S1 582 (x + 13) = nI p) (hw : ∀ Q : Int32 → Sg → Prop, Q (-1) S1 → wX3_workStep (x + 4) (some (st p)) S Q)
    (h : ∀ T, TK x m n nn a st op oa ob oc N th ra rb rc F fa f L p left took S T → ∃ T1, (∀ Q : Int32 → Sg → Prop, Q 0 T1 → hB m (nI p) (op p) T Q) ∧ Mid x m n nn a st op oa ob oc N' th' ra' rb' rc' F fa (f :: L) left took S1 T1 ∧ fI S1 584 (x + 13) = 0 ∧ fR S1 580 (x + 13) = some f.1 ∧ fI T1 739 m = 1) : StepS x m n nn a st op oa ob oc N th ra rb rc F fa f L p left took S := by
  obtain ⟨hp, hn⟩ := TK_p h0
  obtain ⟨s1, s2, s3, s4, s5, -⟩ := St_st h0.1.1 hp
  refine StepS_on (S1 := S1) (N' := N') (th' := th') (ra' := ra') (rb' := rb') (rc' := rc') (F' := F) (fa' := fa) (fun Q hQ => house_cls (n := n) h0.1.1.1 s2 s5 hi i1 i2 (hw _ ?_)) (fun T hT => ?_)
  · unfold wX9_goBehind
    rw [if_pos rfl, h582, nI_1]
    exact nm_e hQ
  · obtain ⟨T1, w1, w2⟩ := h T hT
    exact ⟨T1, fun Q hQ => house_ref hi i2 (w1 _ (r_goOn0 rfl hQ)), w2⟩
theorem StepS_bad {x m n nn a : Nat} {st : Nat → Nat} {op oa ob oc : Nat → Int32} {N : Nat} {th ra rb rc : Nat → Nat} {F : Nat} {fa : Nat → Nat} {f : FrT} {L : List FrT} {p left took i : Nat} {S T0 : Sg} (h0 : TK x m n nn a st op oa ob oc N th ra rb rc F fa f L p left took S T0) (hi : op p = nI i) (i1 : 1 ≤ i) (i2 : i ≤ 21) {k : Nat} (hk : k ≤ 9) (hw : ∀ Q : Int32 → Sg → Prop, Q (nI k) S → wX3_workStep (x + 4) (some (st p)) S Q)
    (h : ∀ T, TK x m n nn a st op oa ob oc N th ra rb rc F fa f L p left took S T → ∀ Q : Int32 → Sg → Prop, Q (nI (k + 1)) T → hB m (nI p) (op p) T Q) : StepS x m n nn a st op oa ob oc N th ra rb rc F fa f L p left took S := by
  obtain ⟨hp, hn⟩ := TK_p h0
  obtain ⟨s1, s2, s3, s4, s5, -⟩ := St_st h0.1.1 hp
  refine StepS_fail (k := k) (o := none) h0 hk (fun Q hQ => house_cls (n := n) h0.1.1.1 s2 s5 hi i1 i2 (hw _ ?_)) (fun T hT => ⟨0, Or.inl ⟨rfl, rfl⟩, fun Q hQ => house_ref hi i2 (h T hT _ ?_)⟩)
  · unfold wX9_goBehind
    rw [if_neg (n_ne1 (by omega))]
    exact r_fail hQ
  · exact r_goOnK hT.1.1.2.1 hT.1.2.2.1.2.2 hT.1.2.2.1.1.1 hk hQ
/-- a number is set -/
theorem StepS_num {x m n nn a : Nat} {st : Nat → Nat} {op oa ob oc : Nat → Int32} {N : Nat} {th ra rb rc : Nat → Nat} {F : Nat} {fa : Nat → Nat} {f : FrT} {L : List FrT} {p left took i j : Nat} {v : Int64} {S T0 : Sg} (h0 : TK x m n nn a st op oa ob oc N th ra rb rc F fa f L p left took S T0) (hi : op p = nI i) (i1 : 1 ≤ i) (i2 : i ≤ 21) (hj : j < 8) (hw : ∀ Q : Int32 → Sg → Prop, Q (-1) (sAL S (x + 5) j v) → wX3_workStep (x + 4) (some (st p)) S Q)
    (h : ∀ T, TK x m n nn a st op oa ob oc N th ra rb rc F fa f L p left took S T → ∀ Q : Int32 → Sg → Prop, Q 0 (sAL T (m + 12) j v) → hB m (nI p) (op p) T Q) : StepS x m n nn a st op oa ob oc N th ra rb rc F fa f L p left took S := by
  refine StepS_ok h0 hi i1 i2 ?_ hw (fun T hT => ⟨_, h T hT, Mid_num hT.1 hj, ?_, ?_, ?_⟩)
  · simp only [gs_AL]; exact h0.2.1.2.1
  · simp only [gs_AL]; exact hT.2.1.1
  · simp only [gs_AL]; exact hT.2.1.2.2.2.2
  · simp only [gs_AL]; exact hT.2.1.2.2.2.1
theorem r_setNumber {x : Nat} {S : Sg} {i : Int32} {j : Nat} {v : Int64} {Q : Sg → Prop} (hS : SX x S) (h : i &&& 7 = nI j) (hj : j < 8) (hq : Q (sAL S (x + 5) j v)) : wX3_setNumber (x + 4) i v S Q := by
  unfold wX3_setNumber
  refine ⟨x + 5, SX_r192 hS, SX_t5 hS, ?_⟩
  rw [h, n_cl (by omega)]
  exact ⟨by rw [SX_l5 hS]; exact vp_n hj (by omega), nm_e hq⟩
theorem r_intOf {x : Nat} {S : Sg} {i : Int32} {j : Nat} {Q : Int32 → Sg → Prop} (hS : SX x S) (h : i &&& 7 = nI j) (hj : j < 8) (hq : Q (aL S (x + 5) j).toInt32 S) : wX3_intOf (x + 4) i S Q := by
  unfold wX3_intOf
  exact r_numberOf hS h hj hq
theorem lg_eq (a b : Int64) : lg_cmp a b = 0 ↔ a = b := by
  unfold lg_cmp
  by_cases h1 : a > b
  · rw [if_pos h1]
    refine ⟨fun h => absurd h (by decide), fun h => ?_⟩
    subst h
    exact absurd (Int64.lt_iff_toInt_lt.mp h1) (by omega)
  · rw [if_neg h1]
    by_cases h2 : a = b
    · rw [if_pos h2]; exact ⟨fun _ => h2, fun _ => rfl⟩
    · rw [if_neg h2]
      exact ⟨fun h => absurd h (by decide), fun h => absurd h h2⟩
theorem div_m1 (a : Int64) : a / (-1) = -a := by
  apply Int64.toInt_inj.mp
  rw [Int64.toInt_div, show (-1 : Int64).toInt = -1 from by decide, Int.tdiv_neg, Int.tdiv_one, Int64.toInt_neg]
theorem step_reckon {x m n nn a : Nat} {st : Nat → Nat} {op oa ob oc : Nat → Int32} {N : Nat} {th ra rb rc : Nat → Nat} {F : Nat} {fa : Nat → Nat} {f : FrT} {L : List FrT} {p left took i : Nat} {S T0 : Sg} (h0 : TK x m n nn a st op oa ob oc N th ra rb rc F fa f L p left took S T0) (hi : op p = nI i) (i1 : 1 ≤ i) (i2 : i ≤ 6) : StepS x m n nn a st op oa ob oc N th ra rb rc F fa f L p left took S := by
  obtain ⟨hp, hn⟩ := TK_p h0
  obtain ⟨s1, s2, s3, s4, s5, s6, s7, s8, s9, s10, -⟩ := St_st h0.1.1 hp
  have hS := h0.1.1.1
  obtain ⟨j, hj, ej⟩ := and7_of (oa p)
  obtain ⟨jb, hjb, ejb⟩ := and7_of (ob p)
  obtain ⟨jc, hjc, ejc⟩ := and7_of (oc p)
  have lt : ∀ k, k < 36 → k ≠ i → ¬ nI i = nI k := fun k hk h => n_ne (by omega) (by omega) (fun e => h e.symm)
  -- the class's side
  have cls : ∀ Q : Int32 → Sg → Prop, (if aL S (x + 5) jc = 0 ∧ 5 ≤ i then Q 4 S else wX3_reckon_b36 (x + 4) (some (st p)) (aL S (x + 5) jb) (aL S (x + 5) jc) S Q) → wX3_workStep (x + 4) (some (st p)) S Q := by
    intro Q hQ
    unfold wX3_workStep
    refine ⟨st p, rfl, s2, ?_⟩
    rw [s5, hi, if_neg (by rw [show (6 : Int32) = nI 6 from rfl, n_lt (by omega) (by omega)]; omega)]
    unfold wX3_reckon
    refine ⟨st p, rfl, s2, ?_⟩
    rw [s7]
    refine r_numberOf hS ejb hjb ?_
    rw [s8]
    refine r_numberOf hS ejc hjc ?_
    by_cases c : aL S (x + 5) jc = 0
    · rw [if_pos ((lg_eq _ _).mpr c), s5, hi]
      by_cases c5 : 5 ≤ i
      · rw [if_pos ⟨c, c5⟩] at hQ
        rw [if_neg (by rw [show (5 : Int32) = nI 5 from rfl, n_lt (by omega) (by omega)]; omega)]
        exact hQ
      · rw [if_neg (fun w => c5 w.2)] at hQ
        rw [if_pos (by rw [show (5 : Int32) = nI 5 from rfl, n_lt (by omega) (by omega)]; omega)]
        exact hQ
    · rw [if_neg (fun w => c w.1)] at hQ
      rw [if_neg (fun w => c ((lg_eq _ _).mp w))]
      exact hQ
  have b36 : ∀ (v : Int64) (Q : Int32 → Sg → Prop), (∀ Q' : Int64 → Sg → Prop, Q' v S → wX3_reckoned (some (st p)) (aL S (x + 5) jb) (aL S (x + 5) jc) S Q') → Q (-1) (sAL S (x + 5) j v) → wX3_reckon_b36 (x + 4) (some (st p)) (aL S (x + 5) jb) (aL S (x + 5) jc) S Q := by
    intro v Q h1 hQ
    unfold wX3_reckon_b36
    refine ⟨st p, rfl, s2, h1 _ ?_⟩
    rw [s6]
    exact r_setNumber hS ej hj hQ
  -- the reference's side
  have ref : ∀ T, TK x m n nn a st op oa ob oc N th ra rb rc F fa f L p left took S T → ∀ Q : Int32 → Sg → Prop, (if i = 1 then Q 0 (sAL T (m + 12) j (ob p).toInt64) else if i = 2 then Q 0 (sAL T (m + 12) j (aL S (x + 5) jb + aL S (x + 5) jc)) else if i = 3 then Q 0 (sAL T (m + 12) j (aL S (x + 5) jb - aL S (x + 5) jc)) else if i = 4 then Q 0 (sAL T (m + 12) j (aL S (x + 5) jb * aL S (x + 5) jc)) else if aL S (x + 5) jc = 0 then Q 5 T else if i = 5 then Q 0 (sAL T (m + 12) j (aL S (x + 5) jb / aL S (x + 5) jc)) else Q 0 (sAL T (m + 12) j (aL S (x + 5) jb - aL S (x + 5) jb / aL S (x + 5) jc * aL S (x + 5) jc))) → hB m (nI p) (op p) T Q := by
    intro T hT Q hQ
    have hM := hT.1.1.2.1
    unfold hB
    rw [hi, if_neg (by rw [show (7 : Int32) = nI 7 from rfl, n_le (by omega) (by omega)]; omega)]
    obtain ⟨-, -, -, -, -, f1, f2, f3, f4⟩ := hT.1.1
    refine r_reckons (o := nI i) hM (by omega) (by rw [f1]; exact hi) (by rw [f2]; exact ej) (by rw [f3]) ejb (by rw [f4]; exact ejc) hj hjb hjc ?_
    rw [← hT.1.2.1.2.1 jb hjb, ← hT.1.2.1.2.1 jc hjc]
    rw [if_neg (show ¬ nI i = 0 from lt 0 (by omega) (by omega))]
    by_cases c1 : i = 1
    · rw [if_pos c1] at hQ; rw [c1, if_pos (show nI 1 = 1 from rfl)]; exact hQ
    rw [if_neg c1] at hQ; rw [if_neg (show ¬ nI i = 1 from lt 1 (by omega) (by omega))]
    by_cases c2 : i = 2
    · rw [if_pos c2] at hQ; rw [c2, if_pos (show nI 2 = 2 from rfl)]; exact hQ
    rw [if_neg c2] at hQ; rw [if_neg (show ¬ nI i = 2 from lt 2 (by omega) (by omega))]
    by_cases c3 : i = 3
    · rw [if_pos c3] at hQ; rw [c3, if_pos (show nI 3 = 3 from rfl)]; exact hQ
    rw [if_neg c3] at hQ; rw [if_neg (show ¬ nI i = 3 from lt 3 (by omega) (by omega))]
    by_cases c4 : i = 4
    · rw [if_pos c4] at hQ; rw [c4, if_pos (show nI 4 = 4 from rfl)]; exact hQ
    rw [if_neg c4] at hQ; rw [if_neg (show ¬ nI i = 4 from lt 4 (by omega) (by omega))]
    unfold wX11_divides
    by_cases c : aL S (x + 5) jc = 0
    · rw [if_pos c] at hQ; rw [if_pos ((lg_eq _ _).mpr c)]; exact hQ
    rw [if_neg c] at hQ; rw [if_neg (fun w => c ((lg_eq _ _).mp w))]
    have b27 : ∀ q0 : Int64, q0 = aL S (x + 5) jb / aL S (x + 5) jc → wX11_divides_b27 m (nI p) (nI j) (aL S (x + 5) jb) (aL S (x + 5) jc) q0 T (fun r S => Q r S) := by
      intro q0 e0
      subst e0
      unfold wX11_divides_b27
      refine ⟨m + 1, MX_r704 hM, MX_t1 hM, by rw [MX_l1 hM]; exact vp_n (by omega) (by omega), ?_⟩
      rw [n_cl (by omega), f1, hi]
      by_cases c5 : i = 5
      · rw [if_pos c5] at hQ
        rw [c5, if_pos (show nI 5 = 5 from rfl)]
        refine ⟨m + 12, MX_r717 hM, MX_t12 hM, by rw [MX_l12 hM]; exact vp_n hj (by omega), ?_⟩
        rw [n_cl (by omega)]
        exact nm_e hQ
      · rw [if_neg c5] at hQ
        rw [if_neg (show ¬ nI i = 5 from lt 5 (by omega) (by omega))]
        refine ⟨m + 12, MX_r717 hM, MX_t12 hM, by rw [MX_l12 hM]; exact vp_n hj (by omega), ?_⟩
        rw [n_cl (by omega)]
        exact nm_e hQ
    by_cases c9 : aL S (x + 5) jc = -1
    · rw [if_pos ((lg_eq _ _).mpr c9)]
      exact b27 _ (by rw [c9]; exact (div_m1 _).symm)
    · rw [if_neg (fun w => c9 ((lg_eq _ _).mp w))]
      exact ⟨c, b27 _ rfl⟩
  have rk : ∀ (v : Int64), (if i = 1 then v = (ob p).toInt64 else if i = 2 then v = aL S (x + 5) jb + aL S (x + 5) jc else if i = 3 then v = aL S (x + 5) jb - aL S (x + 5) jc else if i = 4 then v = aL S (x + 5) jb * aL S (x + 5) jc else ¬ aL S (x + 5) jc = 0 ∧ if i = 5 then v = aL S (x + 5) jb / aL S (x + 5) jc else v = aL S (x + 5) jb - aL S (x + 5) jb / aL S (x + 5) jc * aL S (x + 5) jc) → ∀ Q' : Int64 → Sg → Prop, Q' v S → wX3_reckoned (some (st p)) (aL S (x + 5) jb) (aL S (x + 5) jc) S Q' := by
    intro v hv Q' hQ
    unfold wX3_reckoned
    refine ⟨st p, rfl, s2, ?_⟩
    rw [s5, hi, s7]
    by_cases c1 : i = 1
    · rw [if_pos c1] at hv; rw [c1, if_pos (show nI 1 = 1 from rfl), ← hv]; exact hQ
    rw [if_neg c1] at hv; rw [if_neg (show ¬ nI i = 1 from lt 1 (by omega) (by omega))]
    by_cases c2 : i = 2
    · rw [if_pos c2] at hv; rw [c2, if_pos (show nI 2 = 2 from rfl), ← hv]; exact hQ
    rw [if_neg c2] at hv; rw [if_neg (show ¬ nI i = 2 from lt 2 (by omega) (by omega))]
    by_cases c3 : i = 3
    · rw [if_pos c3] at hv; rw [c3, if_pos (show nI 3 = 3 from rfl), ← hv]; exact hQ
    rw [if_neg c3] at hv; rw [if_neg (show ¬ nI i = 3 from lt 3 (by omega) (by omega))]
    by_cases c4 : i = 4
    · rw [if_pos c4] at hv; rw [c4, if_pos (show nI 4 = 4 from rfl), ← hv]; exact hQ
    rw [if_neg c4] at hv; rw [if_neg (show ¬ nI i = 4 from lt 4 (by omega) (by omega))]
    obtain ⟨c, hv⟩ := hv
    by_cases c5 : i = 5
    · rw [if_pos c5] at hv
      rw [c5, if_pos (show nI 5 = 5 from rfl), if_neg (fun w => c ((lg_eq _ _).mp w)), ← hv]
      exact ⟨c, hQ⟩
    · rw [if_neg c5] at hv
      rw [if_neg (show ¬ nI i = 5 from lt 5 (by omega) (by omega)), if_neg (fun w => c ((lg_eq _ _).mp w)), ← hv]
      exact ⟨c, hQ⟩
  have num : ∀ v : Int64, (∀ Q' : Int64 → Sg → Prop, Q' v S → wX3_reckoned (some (st p)) (aL S (x + 5) jb) (aL S (x + 5) jc) S Q') → ¬ (aL S (x + 5) jc = 0 ∧ 5 ≤ i) → (∀ T, TK x m n nn a st op oa ob oc N th ra rb rc F fa f L p left took S T → ∀ Q : Int32 → Sg → Prop, Q 0 (sAL T (m + 12) j v) → hB m (nI p) (op p) T Q) → StepS x m n nn a st op oa ob oc N th ra rb rc F fa f L p left took S := by
    intro v h1 h2 h3
    exact StepS_num h0 hi i1 (by omega) hj (fun Q hQ => cls Q (by rw [if_neg h2]; exact b36 v Q h1 hQ)) h3
  by_cases c1 : i = 1
  · exact num _ (rk _ (by rw [if_pos c1])) (by omega) (fun T hT Q hQ => ref T hT Q (by rw [if_pos c1]; exact hQ))
  by_cases c2 : i = 2
  · exact num _ (rk _ (by rw [if_neg c1, if_pos c2])) (by omega) (fun T hT Q hQ => ref T hT Q (by rw [if_neg c1, if_pos c2]; exact hQ))
  by_cases c3 : i = 3
  · exact num _ (rk _ (by rw [if_neg c1, if_neg c2, if_pos c3])) (by omega) (fun T hT Q hQ => ref T hT Q (by rw [if_neg c1, if_neg c2, if_pos c3]; exact hQ))
  by_cases c4 : i = 4
  · exact num _ (rk _ (by rw [if_neg c1, if_neg c2, if_neg c3, if_pos c4])) (by omega) (fun T hT Q hQ => ref T hT Q (by rw [if_neg c1, if_neg c2, if_neg c3, if_pos c4]; exact hQ))
  by_cases c : aL S (x + 5) jc = 0
  · exact StepS_bad (k := 4) h0 hi i1 (by omega) (by omega) (fun Q hQ => cls Q (by rw [if_pos ⟨c, by omega⟩]; exact hQ)) (fun T hT Q hQ => ref T hT Q (by rw [if_neg c1, if_neg c2, if_neg c3, if_neg c4, if_pos c]; exact hQ))
  by_cases c5 : i = 5
  · exact num _ (rk _ (by rw [if_neg c1, if_neg c2, if_neg c3, if_neg c4, if_pos c5]; exact ⟨c, rfl⟩)) (fun w => c w.1) (fun T hT Q hQ => ref T hT Q (by rw [if_neg c1, if_neg c2, if_neg c3, if_neg c4, if_neg c, if_pos c5]; exact hQ))
  · exact num _ (rk _ (by rw [if_neg c1, if_neg c2, if_neg c3, if_neg c4, if_neg c5]; exact ⟨c, rfl⟩)) (fun w => c w.1) (fun T hT Q hQ => ref T hT Q (by rw [if_neg c1, if_neg c2, if_neg c3, if_neg c4, if_neg c, if_neg c5]; exact hQ))
