/-! steps that do nothing, steps that leave, TELL -/
theorem step_skip {x m n nn a : Nat} {st : Nat → Nat} {op oa ob oc : Nat → Int32} {N : Nat} {th ra rb rc : Nat → Nat} {F : Nat} {fa : Nat → Nat} {f : FrT} {L : List FrT} {p left took : Nat} {S T0 : Sg} (h0 : TK x m n nn a st op oa ob oc N th ra rb rc F fa f L p left took S T0) (ho : op p = 26 ∨ op p = 27 ∨ op p = 28 ∨ op p = 31) : StepS x m n nn a st op oa ob oc N th ra rb rc F fa f L p left took S := by
  obtain ⟨hp, hn⟩ := TK_p h0
  obtain ⟨s1, s2, s3, s4, s5, s6, s7, s8, s9, s10, -⟩ := St_st h0.1.1 hp
  have h582 := h0.2.1.2.1
  refine StepS_on (S1 := S) (N' := N) (th' := th) (ra' := ra) (rb' := rb) (rc' := rc) (F' := F) (fa' := fa) (fun Q hQ => ?_) (fun T hT => ⟨T, fun Q hQ => ?_, hT.1, hT.2.1.1, hT.2.1.2.2.2.2, hT.2.1.2.2.2.1⟩)
  · unfold wX9_workStep
    refine ⟨st p, rfl, s2, ?_⟩
    rw [s5]
    rcases ho with h | h | h | h <;> rw [h] <;> (repeat rw [if_neg (by decide)]) <;> rw [if_pos rfl, h582, nI_1] <;> exact nm_e hQ
  · unfold goB
    rcases ho with h | h | h | h <;> rw [h, if_pos (by decide)] <;> (repeat rw [if_neg (by decide)]) <;> rw [hT.2.1.2.2.1, nI_1] <;> exact nm_e hQ
theorem step_break {x m n nn a : Nat} {st : Nat → Nat} {op oa ob oc : Nat → Int32} {N : Nat} {th ra rb rc : Nat → Nat} {F : Nat} {fa : Nat → Nat} {f : FrT} {L : List FrT} {p left took : Nat} {S T0 : Sg} (h0 : TK x m n nn a st op oa ob oc N th ra rb rc F fa f L p left took S T0) (v : Int32) (hv : v = 3 ∨ v = 4) (ho : (op p = 32 ∧ v = 3) ∨ (op p = 33 ∧ v = 4)) : StepS x m n nn a st op oa ob oc N th ra rb rc F fa f L p left took S := by
  obtain ⟨hp, hn⟩ := TK_p h0
  obtain ⟨s1, s2, s3, s4, s5, s6, s7, s8, s9, s10, -⟩ := St_st h0.1.1 hp
  refine StepS_come (S1 := sFI S 584 (x + 13) v) (N' := N) (th' := th) (ra' := ra) (rb' := rb) (rc' := rc) (F' := F) (fa' := fa) h0 (fun Q hQ => ?_) (fun T hT => ⟨sFL (sFI T 740 m v) 741 m 0, fun Q hQ => ?_, Mid_W hT.1 (WS_FI (by unfold wK; omega)) (WT_tr (WT_FI (by unfold tK; omega)) (WT_FL (by unfold tK; omega))), ?_, ?_, ?_, fun w => by cases w⟩)
  · unfold wX9_workStep
    refine ⟨st p, rfl, s2, ?_⟩
    rw [s5]
    rcases ho with ⟨h, rfl⟩ | ⟨h, rfl⟩ <;> rw [h] <;> (repeat rw [if_neg (by decide)]) <;> rw [if_pos rfl] <;> exact nm_e hQ
  · unfold goB
    rcases ho with ⟨h, rfl⟩ | ⟨h, rfl⟩ <;> rw [h, if_pos (by decide)] <;> (repeat rw [if_neg (by decide)]) <;> rw [if_pos rfl] <;> unfold wX11_goes_b163
    · rw [if_pos rfl]
      unfold wX11_goes_b185
      refine ⟨m, rfl, MX_t0 hT.1.1.2.1, nm_e ?_⟩
      rw [if_neg (by decide)]
      exact nm_e hQ
    · rw [if_neg (by decide), if_pos rfl]
      unfold wX11_goes_b185
      refine ⟨m, rfl, MX_t0 hT.1.1.2.1, nm_e ?_⟩
      rw [if_neg (by decide)]
      exact nm_e hQ
  · have e1 : fI (sFI S 584 (x + 13) v) 584 (x + 13) = v := by simp only [gs_FI]; rw [if_pos ⟨trivial, trivial⟩]
    have e2 : fI (sFL (sFI T 740 m v) 741 m 0) 740 m = v := by simp only [gs_FL, gs_FI]; rw [if_pos ⟨trivial, trivial⟩]
    rw [e1, e2]
    rcases hv with rfl | rfl
    · exact Or.inr (Or.inr (Or.inl ⟨rfl, rfl⟩))
    · exact Or.inr (Or.inr (Or.inr (Or.inl ⟨rfl, rfl⟩)))
  · simp only [gs_FL, gs_FI]; rw [if_neg (by omega)]; exact hT.2.1.2.2.2.1
  · simp only [gs_FI]; exact hT.2.1.2.2.2.2
theorem step_return {x m n nn a : Nat} {st : Nat → Nat} {op oa ob oc : Nat → Int32} {N : Nat} {th ra rb rc : Nat → Nat} {F : Nat} {fa : Nat → Nat} {f : FrT} {L : List FrT} {p left took : Nat} {S T0 : Sg} (h0 : TK x m n nn a st op oa ob oc N th ra rb rc F fa f L p left took S T0) (h : op p = 34) : StepS x m n nn a st op oa ob oc N th ra rb rc F fa f L p left took S := by
  obtain ⟨hp, hn⟩ := TK_p h0
  obtain ⟨s1, s2, s3, s4, s5, s6, s7, s8, s9, s10, -⟩ := St_st h0.1.1 hp
  have hS := h0.1.1.1
  obtain ⟨j, hj, ej⟩ := and7_of (oa p)
  refine StepS_come (S1 := sFL (sFI S 584 (x + 13) 5) 585 (x + 13) (aL S (x + 5) j)) (N' := N) (th' := th) (ra' := ra) (rb' := rb) (rc' := rc) (F' := F) (fa' := fa) h0 (fun Q hQ => ?_) (fun T hT => ⟨sFL (sFI T 740 m 1) 741 m (aL T (m + 12) j), fun Q hQ => ?_, Mid_W hT.1 (WS_tr (WS_FI (by unfold wK; omega)) (WS_FL (by unfold wK; omega))) (WT_tr (WT_FI (by unfold tK; omega)) (WT_FL (by unfold tK; omega))), ?_, ?_, ?_, fun w => by cases w⟩)
  · unfold wX9_workStep
    refine ⟨st p, rfl, s2, ?_⟩
    rw [s5, h]
    repeat rw [if_neg (by decide)]
    rw [if_pos rfl]
    intro S43 e43
    have hS43 : SX x S43 := by rw [e43]; exact (SX_sFI _ _ _).mpr hS
    have g450 : fI S43 450 (st p) = oa p := by rw [e43]; simp only [gs_FI]; rw [if_neg (by omega)]; exact s6
    refine ⟨x + 4, SX_r577 hS43, SX_t4 hS43, ?_⟩
    rw [g450]
    refine r_numberOf hS43 ej hj ?_
    have ea : aL S43 (x + 5) j = aL S (x + 5) j := by rw [e43]; simp only [gs_FI]
    rw [ea, e43]
    exact nm_e hQ
  · have hM := hT.1.1.2.1
    have e2 : aI T (m + 2) p = oa p := by rw [hT.1.1.2.2.2.2.2.2.1]
    unfold goB
    rw [h, if_pos (by decide)]
    repeat rw [if_neg (by decide)]
    rw [if_pos rfl]
    unfold wX11_goes_b163
    repeat rw [if_neg (by decide)]
    unfold wX11_goes_b185
    refine ⟨m, rfl, MX_t0 hM, ?_⟩
    intro S24 e24
    have hM24 : MX m S24 := by rw [e24]; exact (MX_sFI _ _ _).mpr hM
    have g2 : aI S24 (m + 2) p = oa p := by rw [e24]; simp only [gs_FI]; exact e2
    have g12 : aL S24 (m + 12) j = aL T (m + 12) j := by rw [e24]; simp only [gs_FI]
    rw [if_pos rfl]
    refine ⟨m + 2, MX_r705 hM24, MX_t2 hM24, by rw [MX_l2 hM24]; exact vp_n (by omega) (by omega), ?_⟩
    rw [n_cl (by omega), g2, ej, n_cl (by omega)]
    refine ⟨m + 12, MX_r717 hM24, MX_t12 hM24, by rw [MX_l12 hM24]; exact vp_n (by omega) (by omega), ?_⟩
    rw [g12, e24]
    exact nm_e hQ
  · refine Or.inr (Or.inr (Or.inr (Or.inr ⟨?_, ?_, ?_⟩)))
    · simp only [gs_FL, gs_FI]; rw [if_pos ⟨trivial, trivial⟩]
    · simp only [gs_FL, gs_FI]; rw [if_pos ⟨trivial, trivial⟩]
    · simp only [gs_FL]; rw [if_pos ⟨trivial, trivial⟩, if_pos ⟨trivial, trivial⟩]; exact hT.1.2.1.2.1 j hj
  · simp only [gs_FL, gs_FI]; rw [if_neg (by omega)]; exact hT.2.1.2.2.2.1
  · simp only [gs_FL, gs_FI]; exact hT.2.1.2.2.2.2
