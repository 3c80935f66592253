theorem trial_sim {x m n nn a : Nat} {st : Nat → Nat} {op oa ob oc : Nat → Int32} {N : Nat} {th ra rb rc : Nat → Nat} {F : Nat} {fa : Nat → Nat} {q r g : Nat} {L : List FrT} {left took k : Nat} {S T0 : Sg} (h0 : MC x m n nn a st op oa ob oc N th ra rb rc F fa ((q, r, some k, g) :: L) left took S T0) (h25 : op k = 25) : SimS x m n nn a st op oa ob oc N th ra rb rc F fa (q, r, some k, g) L left took S := by
  have hB : kd op (some k) ≠ 0 := kd_isB.mpr (Or.inl h25)
  have hkd : kd op (some k) = 1 := by unfold kd; dsimp only; rw [h25]; rfl
  have hS := h0.1.1.1
  obtain ⟨c1, c2, c3, c4, c5, c6, c7, c8, c9, c10, c11, -⟩ := fr_blk (k := k) h0.1.1 h0.1.2.2.2.2.2.2.1.1 rfl hB
  dsimp only at c3 c6
  have hd : L.length + 1 ≤ 200 := h0.1.2.2.2.2.1.2.2.2.2.2.2.2
  obtain ⟨⟨-, -, -, -, a5⟩, ⟨-, b2, -, -, -⟩, -⟩ := h0.1.2.2.2.2.2.2.1.1
  dsimp only at a5 b2
  have cls : ∀ Q : Sg → Prop, wX9_settleTrial (x + 13) (some q) S Q → wX9_settle (x + 13) (some q) S Q := by
    intro Q hQ
    unfold wX9_settle
    refine ⟨q, rfl, c3, st k, c6, c7, ?_⟩
    rw [c8, h25, if_pos rfl]
    exact hQ
  have ref : ∀ T, MC x m n nn a st op oa ob oc N th ra rb rc F fa ((q, r, some k, g) :: L) left took S T → ∀ Q : Int32 → Sg → Prop, wX11_comesOfTrial m (nI L.length) T Q → cBd m (nI L.length) (aI T (m + 20) L.length) T Q := by
    intro T hT Q hQ
    obtain ⟨-, -, -, -, -, -, -, -, -, -, -, d1, -⟩ := fr_blk (k := k) hT.1.1 hT.1.2.2.2.2.2.2.1.1 rfl hB
    rw [d1, hkd]
    unfold cBd
    rw [if_neg (by decide), if_pos (by decide)]
    exact hQ
  have hT23 : ∀ T, MC x m n nn a st op oa ob oc N th ra rb rc F fa ((q, r, some k, g) :: L) left took S T → aI T (m + 23) L.length = nI g ∧ aI T (m + 21) L.length = nI k := by
    intro T hT
    obtain ⟨-, -, -, -, -, -, -, -, -, -, -, d1, d2, -⟩ := fr_blk (k := k) hT.1.1 hT.1.2.2.2.2.2.2.1.1 rfl hB
    exact ⟨hT.1.2.2.2.2.2.2.1.1.2.1.2.2.2.1, d2⟩
  by_cases z2 : g = 2
  · subst z2
    have h25' : ∀ T, MC x m n nn a st op oa ob oc N th ra rb rc F fa ((q, r, some k, 2) :: L) left took S T → CV F fa (fI S 70 q) (fL S 71 q) (fR S 72 q) (aI T (m + 25) L.length) (aL T (m + 26) L.length) (aI T (m + 27) L.length) := fun T hT => hT.1.2.2.2.2.2.2.1.1.2.2.2.2.2.2 rfl
    by_cases zc : fI S 584 (x + 13) = 2
    · obtain ⟨S', o, p, q1, q2, q3⟩ := leave_sim h0 (k := k) rfl hB
      refine ⟨S', o, L, p, left, took, fun Q hQ => cls Q ?_, fun _ => ⟨rfl, rfl, rfl⟩, fun _ => ⟨Nat.le_of_lt mu_pop, fun _ => mu_pop⟩, fun T hT => ?_⟩
      · unfold wX9_settleTrial
        refine ⟨q, rfl, c3, ?_⟩
        rw [a5, if_pos (show nI 2 = 2 from rfl), if_pos zc]
        exact q1 Q hQ
      · obtain ⟨T', r1, r2⟩ := q3 T hT
        obtain ⟨w1, w2⟩ := hT23 T hT
        have hM := hT.1.1.2.1
        refine ⟨T', fun Q hQ => ref T hT Q ?_, r2⟩
        unfold wX11_comesOfTrial
        refine ⟨m + 21, MX_r730 hM, MX_t21 hM, by rw [MX_l21 hM]; exact vp_n (by omega) (by omega), nm_e ⟨m + 23, MX_r732 hM, MX_t23 hM, by rw [MX_l23 hM]; exact vp_n (by omega) (by omega), ?_⟩⟩
        rw [n_cl (by omega), w1, if_pos (show nI 2 = 2 from rfl), if_pos ((CV_1 hT.2.1).2.1.mp zc)]
        exact r1 _ (if_r (P := fun r => Q r T') q2 hQ)
    · -- what was held goes on
      have hW : WS x S (sFR (sFL (sFI S 584 (x + 13) (fI S 70 q)) 585 (x + 13) (fL S 71 q)) 586 (x + 13) (fR S 72 q)) := WS_tr (WS_FI (by unfold wK; omega)) (WS_tr (WS_FL (by unfold wK; omega)) (WS_FR (by unfold wK; omega)))
      have hWT : ∀ T, WT m T (sFI (sFL (sFI T 740 m (aI T (m + 25) L.length)) 741 m (aL T (m + 26) L.length)) 742 m (aI T (m + 27) L.length)) := fun T => WT_tr (WT_FI (by unfold tK; omega)) (WT_tr (WT_FL (by unfold tK; omega)) (WT_FI (by unfold tK; omega)))
      have hC : ∀ T, MC x m n nn a st op oa ob oc N th ra rb rc F fa ((q, r, some k, 2) :: L) left took S T → MC x m n nn a st op oa ob oc N th ra rb rc F fa ((q, r, some k, 2) :: L) left took (sFR (sFL (sFI S 584 (x + 13) (fI S 70 q)) 585 (x + 13) (fL S 71 q)) 586 (x + 13) (fR S 72 q)) (sFI (sFL (sFI T 740 m (aI T (m + 25) L.length)) 741 m (aL T (m + 26) L.length)) 742 m (aI T (m + 27) L.length)) := by
        intro T hT
        refine ⟨Mid_W hT.1 hW (hWT T), ?_, ?_, ?_, hT.2.2.2.2⟩
        · have := h25' T hT
          simp only [gs_FI, gs_FL, gs_FR]
          rw [if_pos ⟨trivial, trivial⟩, if_pos ⟨trivial, trivial⟩, if_pos ⟨trivial, trivial⟩, if_neg (by omega), if_pos ⟨trivial, trivial⟩, if_pos ⟨trivial, trivial⟩, if_pos ⟨trivial, trivial⟩]
          exact this
        · simp only [gs_FI, gs_FL]; rw [if_neg (by omega), if_neg (by omega)]; exact hT.2.2.1
        · simp only [gs_FI, gs_FL, gs_FR]; rw [if_neg (by omega)]; exact hT.2.2.2.1
      obtain ⟨S', o, p, q1, q2, q3⟩ := leave_sim (hC T0 h0) (k := k) rfl hB
      refine ⟨S', o, L, p, left, took, fun Q hQ => cls Q ?_, fun _ => ⟨rfl, rfl, rfl⟩, fun _ => ⟨Nat.le_of_lt mu_pop, fun _ => mu_pop⟩, fun T hT => ?_⟩
      · unfold wX9_settleTrial
        refine ⟨q, rfl, c3, ?_⟩
        rw [a5, if_pos (show nI 2 = 2 from rfl), if_neg zc]
        intro S20 e20 S21 e21 S22 e22
        have f1 : fL S20 71 q = fL S 71 q := by rw [e20]; simp only [gs_FI]
        have f2 : fR S21 72 q = fR S 72 q := by rw [e21, e20]; simp only [gs_FI, gs_FL]
        rw [f1] at e21
        rw [f2] at e22
        rw [e22, e21, e20]
        exact q1 Q hQ
      · obtain ⟨T', r1, r2⟩ := q3 _ (hC T hT)
        obtain ⟨w1, w2⟩ := hT23 T hT
        have hM := hT.1.1.2.1
        refine ⟨T', fun Q hQ => ref T hT Q ?_, r2⟩
        unfold wX11_comesOfTrial
        refine ⟨m + 21, MX_r730 hM, MX_t21 hM, by rw [MX_l21 hM]; exact vp_n (by omega) (by omega), nm_e ⟨m + 23, MX_r732 hM, MX_t23 hM, by rw [MX_l23 hM]; exact vp_n (by omega) (by omega), ?_⟩⟩
        rw [n_cl (by omega), w1, if_pos (show nI 2 = 2 from rfl), if_neg (fun w => zc ((CV_1 hT.2.1).2.1.mpr w))]
        refine ⟨m + 25, MX_r734 hM, MX_t25 hM, by rw [MX_l25 hM]; exact vp_n (by omega) (by omega), ?_⟩
        intro S61 e61
        have hM61 : MX m S61 := by rw [e61]; simp only [MX_sFI]; exact hM
        refine ⟨m + 26, MX_r735 hM61, MX_t26 hM61, by rw [MX_l26 hM61]; exact vp_n (by omega) (by omega), ?_⟩
        intro S64 e64
        have hM64 : MX m S64 := by rw [e64]; simp only [MX_sFL]; exact hM61
        refine ⟨m + 27, MX_r736 hM64, MX_t27 hM64, by rw [MX_l27 hM64]; exact vp_n (by omega) (by omega), ?_⟩
        intro S67 e67
        have f1 : aL S61 (m + 26) L.length = aL T (m + 26) L.length := by rw [e61]; simp only [gs_FI]
        have f2 : aI S64 (m + 27) L.length = aI T (m + 27) L.length := by rw [e64, e61]; simp only [gs_FI, gs_FL]
        rw [f1] at e64
        rw [f2] at e67
        rw [e67, e64, e61]
        exact r1 _ (if_r (P := fun r => Q r T') q2 hQ)
  · have hg : g ≤ 1 := by omega
    have ng : ¬ nI g = 2 := by rw [show (2 : Int32) = nI 2 from rfl, n_eq (by omega) (by omega)]; exact z2
    -- the rest
    have rest : (∀ Q : Sg → Prop, wX9_settleTrial_b85 (x + 13) (some q) S Q → wX9_settleTrial (x + 13) (some q) S Q) → (∀ T, MC x m n nn a st op oa ob oc N th ra rb rc F fa ((q, r, some k, g) :: L) left took S T → ∀ Q : Int32 → Sg → Prop, wX11_comesOfTrial_b149 m (nI L.length) (nI k) T Q → wX11_comesOfTrial m (nI L.length) T Q) → SimS x m n nn a st op oa ob oc N th ra rb rc F fa (q, r, some k, g) L left took S := by
      intro w1 w2
      obtain ⟨S', o, L', p, q1, q2, q3, q4⟩ := rest_sim h0 h25 hg
      have hmu : o = 1 → mu op left L' < mu op left ((q, r, some k, g) :: L) := fun ho => by have := q3 ho; unfold mu; omega
      refine ⟨S', o, L', p, left, took, fun Q hQ => cls Q (w1 Q (q1 Q hQ)), fun ho => ⟨q2 ho, rfl, rfl⟩, fun ho => ⟨Nat.le_of_lt (hmu ho), fun _ => hmu ho⟩, fun T hT => ?_⟩
      obtain ⟨T', r1, r2⟩ := q4 T hT
      exact ⟨T', fun Q hQ => ref T hT Q (w2 T hT Q (r1 Q hQ)), r2⟩
    sorry
