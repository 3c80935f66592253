/-! what comes to a routine -/
theorem rout_T {m F : Nat} {fa : Nat → Nat} {S T : Sg} {x : Nat} (hC : CV F fa (fI S 584 (x + 13)) (fL S 585 (x + 13)) (fR S 586 (x + 13)) (fI T 740 m) (fL T 741 m) (fI T 742 m)) (y : Int32) : ∃ T1, WT m T T1 ∧ (∀ Q : Int32 → Sg → Prop, wX11_comesOfRoutine_b26 m y T1 Q → wX11_comesOfRoutine m y T Q) ∧ fI T1 738 m = fI T 738 m ∧ fI T1 739 m = fI T 739 m ∧ fI T1 742 m = fI T 742 m ∧ (fI S 584 (x + 13) = 2 → T1 = T) ∧
    fI T1 740 m = (if fI S 584 (x + 13) = 1 then 0 else if fI S 584 (x + 13) = 2 then 2 else 1) ∧ (if fI T1 740 m = 1 then fL T1 741 m else 0) = (if fI S 584 (x + 13) = 5 then fL S 585 (x + 13) else 0) := by
  have other : ∀ v : Int32, (v = 3 ∨ v = 4) → fI T 740 m = v → fI S 584 (x + 13) = v → ∃ T1, WT m T T1 ∧ (∀ Q : Int32 → Sg → Prop, wX11_comesOfRoutine_b26 m y T1 Q → wX11_comesOfRoutine m y T Q) ∧ fI T1 738 m = fI T 738 m ∧ fI T1 739 m = fI T 739 m ∧ fI T1 742 m = fI T 742 m ∧ (fI S 584 (x + 13) = 2 → T1 = T) ∧
    fI T1 740 m = (if fI S 584 (x + 13) = 1 then 0 else if fI S 584 (x + 13) = 2 then 2 else 1) ∧ (if fI T1 740 m = 1 then fL T1 741 m else 0) = (if fI S 584 (x + 13) = 5 then fL S 585 (x + 13) else 0) := by
    intro v hv h1 h2
    refine ⟨sFL (sFI T 740 m 1) 741 m 0, WT_tr (WT_FI (by unfold tK; omega)) (WT_FL (by unfold tK; omega)), fun Q hQ => ?_, ?_, ?_, ?_, ?_, ?_, ?_⟩
    · unfold wX11_comesOfRoutine
      rw [h1]
      rcases hv with rfl | rfl
      · rw [if_pos rfl]
        exact nm_e (nm_e hQ)
      · rw [if_neg (by decide), if_pos rfl]
        exact nm_e (nm_e hQ)
    · simp only [gs_FL, gs_FI]; rw [if_neg (by omega)]
    · simp only [gs_FL, gs_FI]; rw [if_neg (by omega)]
    · simp only [gs_FL, gs_FI]; rw [if_neg (by omega)]
    · intro w; rw [h2] at w; rcases hv with rfl | rfl <;> exact absurd w (by decide)
    · rw [h2]; simp only [gs_FL, gs_FI]; rcases hv with rfl | rfl <;> rw [if_pos ⟨trivial, trivial⟩] <;> decide
    · rw [h2]
      rcases hv with rfl | rfl <;> simp [gs_FL, gs_FI]
  have same : ∀ v : Int32, ¬ v = 3 → ¬ v = 4 → fI T 740 m = v → fI T 740 m = (if fI S 584 (x + 13) = 1 then 0 else if fI S 584 (x + 13) = 2 then 2 else 1) → (if fI T 740 m = 1 then fL T 741 m else 0) = (if fI S 584 (x + 13) = 5 then fL S 585 (x + 13) else 0) → ∃ T1, WT m T T1 ∧ (∀ Q : Int32 → Sg → Prop, wX11_comesOfRoutine_b26 m y T1 Q → wX11_comesOfRoutine m y T Q) ∧ fI T1 738 m = fI T 738 m ∧ fI T1 739 m = fI T 739 m ∧ fI T1 742 m = fI T 742 m ∧ (fI S 584 (x + 13) = 2 → T1 = T) ∧
    fI T1 740 m = (if fI S 584 (x + 13) = 1 then 0 else if fI S 584 (x + 13) = 2 then 2 else 1) ∧ (if fI T1 740 m = 1 then fL T1 741 m else 0) = (if fI S 584 (x + 13) = 5 then fL S 585 (x + 13) else 0) := by
    intro v v3 v4 h1 h2 h3
    refine ⟨T, WT_rf, fun Q hQ => ?_, rfl, rfl, rfl, fun _ => rfl, h2, h3⟩
    unfold wX11_comesOfRoutine
    rw [h1, if_neg v3, if_neg v4]
    exact hQ
  rcases hC with ⟨h1, h2⟩ | ⟨h1, h2, -⟩ | ⟨h1, h2⟩ | ⟨h1, h2⟩ | ⟨h1, h2, h3⟩
  · exact same 0 (by decide) (by decide) h2 (by rw [h1, h2]; decide) (by rw [h1, h2]; rfl)
  · exact same 2 (by decide) (by decide) h2 (by rw [h1, h2]; decide) (by rw [h1, h2]; rfl)
  · exact other 3 (Or.inl rfl) h2 h1
  · exact other 4 (Or.inr rfl) h2 h1
  · exact same 1 (by decide) (by decide) h2 (by rw [h1, h2]; decide) (by rw [h1, h2, if_pos rfl, if_pos rfl]; exact h3.symm)
theorem rout_sim {x m n nn a : Nat} {st : Nat → Nat} {op oa ob oc : Nat → Int32} {N : Nat} {th ra rb rc : Nat → Nat} {F : Nat} {fa : Nat → Nat} {f : FrT} {L : List FrT} {left took : Nat} {S T0 : Sg} (h0 : MC x m n nn a st op oa ob oc N th ra rb rc F fa (f :: L) left took S T0) (hk : kd op f.2.2.1 = 0) : SimS x m n nn a st op oa ob oc N th ra rb rc F fa f L left took S := by
  have hS := h0.1.1.1
  obtain ⟨⟨a1, a2, a3, a4, a5⟩, ⟨b1, b2, b3, b4, b5⟩, -, d1, e1, -, -⟩ := h0.1.2.2.2.2.2.2.1.1
  have hlnk := h0.1.2.2.2.2.2.2.1.2.2.1
  have hd : L.length + 1 ≤ 200 := h0.1.2.2.2.2.1.2.2.2.2.2.2.2
  obtain ⟨k1, k2, k3, k4, k5, k6, k7, k8⟩ := h0.1.2.2.2.2.1
  have k6 : fI S 581 (x + 13) = nI (L.length + 1) := k6
  -- the step's words
  have hstep : ∃ b, fR S 64 f.1 = some b ∧ tg S b = 8 ∧ (∀ k, f.2.2.1 = some k → b = st k) ∧ fI S 449 b = 35 := by
    cases ho : f.2.2.1 with
    | none => exact ⟨x + 14, d1 ho, SX_t14 hS, fun k h => (by cases h), h0.1.1.2.2.2.1.1⟩
    | some k =>
      obtain ⟨u1, u2, u3, u4, u5⟩ := e1 k ho
      have s := St_st h0.1.1 u1
      refine ⟨st k, u2, s.2.1, fun k' h => (by cases h; rfl), ?_⟩
      rw [s.2.2.2.2.1]
      rw [ho] at hk
      have nB : ¬ isB (op k) := fun w => kd_isB.mpr w hk
      rcases u4 with q | q | q | q
      · exact absurd (Or.inl q) nB
      · exact absurd (Or.inr (Or.inl q)) nB
      · exact absurd (Or.inr (Or.inr q)) nB
      · exact q
  obtain ⟨b, hb1, hb2, hb3, hb4⟩ := hstep
  have clsS : ∀ Q : Sg → Prop, (∀ S3 : Sg, S3 = sPop x (L.head?.map (·.1)) L.length S → (if (fR S3 580 (x + 13)) = none then wX9_reportEnd (x + 13) S3 (fun (S16 : Sg) => Q S16) else (if (fI S3 584 (x + 13)) = (2 : Int32) then Q S3 else ∃ a6 : Nat, (fR S3 64 f.1) = some a6 ∧ tg S3 a6 = 8 ∧ (if (fI S3 584 (x + 13)) = (5 : Int32) then wX9_settleRoutine_b67 (x + 13) (some f.1) (fR S3 577 (x + 13)) (fI S3 451 a6) (fL S3 585 (x + 13)) S3 Q else wX9_settleRoutine_b67 (x + 13) (some f.1) (fR S3 577 (x + 13)) (fI S3 451 a6) (0 : Int64) S3 Q)))) → wX9_settle (x + 13) (some f.1) S Q := by
    intro Q hQ
    unfold wX9_settle
    refine ⟨f.1, rfl, a1, b, hb1, hb2, ?_⟩
    rw [hb4, if_neg (by decide), if_neg (by decide), if_neg (by decide)]
    unfold wX9_settleRoutine
    refine ⟨f.1, rfl, a1, ?_⟩
    intro S2 e2 S3 e3
    have f2 : fI S2 581 (x + 13) = nI (L.length + 1) := by rw [e2]; simp only [gs_FR]; exact k6
    rw [f2, nI_s1] at e3
    rw [a2] at e2
    exact hQ S3 (by rw [e3, e2]; rfl)
  have ref : ∀ T, MC x m n nn a st op oa ob oc N th ra rb rc F fa (f :: L) left took S T → ∀ Q : Int32 → Sg → Prop, wX11_comesOfRoutine m (nI L.length) T Q → cBd m (nI L.length) (aI T (m + 20) L.length) T Q := by
    intro T hT Q hQ
    obtain ⟨-, ⟨-, -, w3, -, -⟩, -⟩ := hT.1.2.2.2.2.2.2.1.1
    rw [w3, hk]
    unfold cBd
    rw [if_pos (show nI 0 = 0 from rfl)]
    exact hQ
  have hpI : ∀ k' q, (k' ≠ 581 ∨ q ≠ x + 13) → fI (sPop x (L.head?.map (·.1)) L.length S) k' q = fI S k' q := fun k' q hk' => by unfold sPop; simp only [gs_FI, gs_FR]; rw [if_neg (by omega)]
  have hpL : fL (sPop x (L.head?.map (·.1)) L.length S) = fL S := by unfold sPop; simp only [gs_FI, gs_FR]
  have hpR : ∀ k' q, (k' ≠ 580 ∨ q ≠ x + 13) → fR (sPop x (L.head?.map (·.1)) L.length S) k' q = fR S k' q := fun k' q hk' => by unfold sPop; simp only [gs_FI, gs_FR]; rw [if_neg (by omega)]
  have hp580 : fR (sPop x (L.head?.map (·.1)) L.length S) 580 (x + 13) = L.head?.map (·.1) := by unfold sPop; simp only [gs_FI, gs_FR]; rw [if_pos ⟨trivial, trivial⟩]
  have hpO : tg (sPop x (L.head?.map (·.1)) L.length S) = tg S ∧ ln (sPop x (L.head?.map (·.1)) L.length S) = ln S ∧ aI (sPop x (L.head?.map (·.1)) L.length S) = aI S ∧ aL (sPop x (L.head?.map (·.1)) L.length S) = aL S ∧ aR (sPop x (L.head?.map (·.1)) L.length S) = aR S ∧ sz (sPop x (L.head?.map (·.1)) L.length S) = sz S := by unfold sPop; simp only [gs_FI, gs_FR]; exact ⟨trivial, trivial, trivial, trivial, trivial, trivial⟩
  have hmid : ∀ T, Mid x m n nn a st op oa ob oc N th ra rb rc F fa (f :: L) left took S T → Mid x m n nn a st op oa ob oc N th ra rb rc F fa L left took (sPop x (L.head?.map (·.1)) L.length S) (sFI T 737 m (nI L.length)) := fun T h => by
    unfold sPop
    exact Mid_pop (Mid_W h (WS_FR (by unfold wK; omega)) WT_rf)
  generalize sPop x (L.head?.map (·.1)) L.length S = SP at *
  have hSP : SX x SP := (hmid T0 h0.1).1.1
  cases L with
  | cons g L' =>
    obtain ⟨k, ek, lk1, lk2, lk3⟩ := hlnk
    obtain ⟨u1, u2, u3, u4, u5⟩ := e1 k ek
    have s := St_st h0.1.1 u1
    have ebk := hb3 k ek
    subst ebk
    have hn5 : fR SP 580 (x + 13) ≠ none := by rw [hp580]; exact fun z => by cases z
    have pg : fS op oc n g ≤ k + 1 ∧ k + 1 ≤ fE op oc n g := ⟨by omega, lk2⟩
    obtain ⟨j, hj, ej⟩ := and7_of (ob k)
    by_cases z2 : fI S 584 (x + 13) = 2
    · refine ⟨SP, 0, g :: L', 0, left, took, fun Q hQ => clsS Q (fun S3 e3 => ?_), fun _ => ⟨rfl, rfl, rfl⟩, fun z => absurd z (by decide), fun T hT => ?_⟩
      · rw [e3, if_neg hn5, if_pos (by rw [hpI _ _ (by omega)]; exact z2)]
        exact hQ
      · obtain ⟨T1, w1, w2, w3, w4, w5, w6, w7, w8⟩ := rout_T hT.2.1 (nI (g :: L').length)
        have eT := w6 z2
        subst eT
        rw [if_neg (by rw [z2]; decide), if_pos z2] at w7
        refine ⟨sFI T1 737 m (nI (g :: L').length), fun Q hQ => ref T1 hT Q (w2 Q ?_), Or.inl ⟨rfl, hmid T1 hT.1, ?_, ?_, hp580, fun z => by cases z⟩⟩
        · rw [if_pos rfl] at hQ
          have hM := hT.1.1.2.1
          obtain ⟨-, -, -, -, we, -⟩ := hT.1.2.2.2.2.2.2.1.1
          unfold wX11_comesOfRoutine_b26
          rw [if_neg (by rw [show (0 : Int32) = nI 0 from rfl, n_eq (by omega) (by omega)]; exact fun z => by cases z)]
          refine ⟨m + 21, MX_r730 hM, MX_t21 hM, by rw [MX_l21 hM]; exact vp_n (by omega) (by omega), nm_e ?_⟩
          intro S8 e8
          have g740 : fI S8 740 m = 2 := by rw [e8]; simp only [gs_FI]; rw [if_neg (by omega)]; exact w7
          rw [if_pos g740, e8]
          exact hQ
        · have hC := hT.2.1
          have g1 : ∀ k', k' ≠ 737 → fI (sFI T1 737 m (nI (g :: L').length)) k' m = fI T1 k' m := fun k' hk' => by simp only [gs_FI]; rw [if_neg (by omega)]
          rw [hpI _ _ (by omega), hpL, hpR _ _ (by omega), g1 740 (by omega), g1 742 (by omega)]
          simp only [gs_FI]
          exact hC
        · simp only [gs_FI]; rw [if_neg (by omega)]; exact hT.2.2.1
    · have e64 : fR SP 64 f.1 = some (st k) := by rw [hpR _ _ (by omega)]; exact u2
      have e8 : tg SP (st k) = 8 := by rw [hpO.1]; exact s.2.1
      have e451 : fI SP 451 (st k) = ob k := by rw [hpI _ _ (by omega)]; exact s.2.2.2.2.2.2.1
      have e448 : fI SP 448 (st k) = nI k := by rw [hpI _ _ (by omega)]; exact s.2.2.2.1
      have ef : tg SP f.1 = 2 := by rw [hpO.1]; exact a1
      have b67 : ∀ (v : Int64) (Q : Sg → Prop), Q (sGo x (k + 1) (sAL SP (x + 5) j v)) → wX9_settleRoutine_b67 (x + 13) (some f.1) (fR SP 577 (x + 13)) (fI SP 451 (st k)) v SP Q := by
        intro v Q hQ
        unfold wX9_settleRoutine_b67
        refine ⟨x + 4, SX_r577 hSP, SX_t4 hSP, x + 5, SX_r192 hSP, SX_t5 hSP, by rw [e451, ej, SX_l5 hSP]; exact vp_n hj (by omega), ?_⟩
        rw [e451, ej, n_cl (by omega)]
        refine nm_e ⟨f.1, rfl, by simp only [gs_AL]; exact ef, st k, by simp only [gs_AL]; exact e64, by simp only [gs_AL]; exact e8, ?_⟩
        intro S13 e13 S14 e14
        have e4 : fI (sAL SP (x + 5) j v) 448 (st k) = nI k := by simp only [gs_AL]; exact e448
        rw [e4, nI_1] at e13
        unfold sGo at hQ
        rw [e14, e13]; exact hQ
      refine ⟨sGo x (k + 1) (sAL SP (x + 5) j (if fI S 584 (x + 13) = 5 then fL S 585 (x + 13) else 0)), 1, g :: L', k + 1, left, took, fun Q hQ => clsS Q (fun S3 e3 => ?_), fun z => absurd z (by decide), fun _ => ⟨Nat.le_of_lt mu_pop, fun _ => mu_pop, Nat.le_refl _⟩, fun T hT => ?_⟩
      · rw [e3, if_neg hn5, if_neg (by rw [hpI _ _ (by omega)]; exact z2)]
        refine ⟨st k, e64, e8, ?_⟩
        rw [hpI 584 (x + 13) (by omega)]
        by_cases z5 : fI S 584 (x + 13) = 5
        · rw [if_pos z5, hpL]
          rw [if_pos z5] at hQ
          exact b67 _ Q hQ
        · rw [if_neg z5]
          rw [if_neg z5] at hQ
          exact b67 _ Q hQ
      · obtain ⟨T1, w1, w2, w3, w4, w5, w6, w7, w8⟩ := rout_T hT.2.1 (nI (g :: L').length)
        have hM1 : Mid x m n nn a st op oa ob oc N th ra rb rc F fa (f :: g :: L') left took S T1 := Mid_W hT.1 WS_rf w1
        have hM := hM1.1.2.1
        rw [← w8]
        have nw2 : ¬ fI T1 740 m = 2 := by
          rw [w7]
          by_cases z1 : fI S 584 (x + 13) = 1
          · rw [if_pos z1]; decide
          · rw [if_neg z1, if_neg z2]; decide
        refine ⟨sFI (sAL (sFI T1 737 m (nI (g :: L').length)) (m + 12) j (if fI T1 740 m = 1 then fL T1 741 m else 0)) 738 m (nI (k + 1)), fun Q hQ => ref T hT Q (w2 Q ?_), Or.inr (Or.inl ⟨rfl, ?_, ?_, ?_, ?_, ?_, ?_, g, L', rfl, pg⟩)⟩
        · rw [if_neg (by decide)] at hQ
          obtain ⟨-, -, -, -, we, -⟩ := hM1.2.2.2.2.2.2.1.1
          obtain ⟨v1, v2, v3, -⟩ := we k ek
          unfold wX11_comesOfRoutine_b26
          rw [if_neg (by rw [show (0 : Int32) = nI 0 from rfl, n_eq (by omega) (by omega)]; exact fun z => by cases z)]
          refine ⟨m + 21, MX_r730 hM, MX_t21 hM, by rw [MX_l21 hM]; exact vp_n (by omega) (by omega), nm_e ?_⟩
          rw [n_cl (by omega), v3]
          intro S8 e8
          have hM8 : MX m S8 := by rw [e8]; simp only [MX_sFI]; exact hM
          have g740 : fI S8 740 m = fI T1 740 m := by rw [e8]; simp only [gs_FI]; rw [if_neg (by omega)]
          have g741 : fL S8 741 m = fL T1 741 m := by rw [e8]; simp only [gs_FI]
          have g3 : aI S8 (m + 3) k = ob k := by rw [e8]; simp only [gs_FI]; rw [hM1.1.2.2.2.2.2.2.2.1]
          have hn := (St_n h0.1.1).1
          rw [g740, if_neg nw2]
          refine ⟨m + 3, MX_r706 hM8, MX_t3 hM8, by rw [MX_l3 hM8]; exact vp_n (by omega) (by omega), ?_⟩
          rw [n_cl (by omega), g3, ej, g741, nI_1, n_cl (by omega)]
          by_cases z : fI T1 740 m = 1
          · rw [if_pos z]
            rw [if_pos z] at hQ
            refine ⟨m + 12, MX_r717 hM8, MX_t12 hM8, by rw [MX_l12 hM8]; exact vp_n hj (by omega), nm_e (nm_e ?_)⟩
            rw [e8]; exact hQ
          · rw [if_neg z]
            rw [if_neg z] at hQ
            refine ⟨m + 12, MX_r717 hM8, MX_t12 hM8, by rw [MX_l12 hM8]; exact vp_n hj (by omega), nm_e (nm_e ?_)⟩
            rw [e8]; exact hQ
        · unfold sGo
          exact Mid_W (Mid_num (hmid T1 hM1) hj) (WS_tr (WS_FI (by unfold wK; omega)) (WS_FI (by unfold wK; omega))) (WT_FI (by unfold tK; omega))
        · unfold sGo; simp only [gs_FI]; rw [if_pos ⟨trivial, trivial⟩]
        · unfold sGo; simp only [gs_FI]; rw [if_neg (by omega), if_pos ⟨trivial, trivial⟩]
        · simp only [gs_FI]; rw [if_pos ⟨trivial, trivial⟩]
        · simp only [gs_FI, gs_AL]; rw [if_neg (by omega), if_neg (by omega)]; exact w4.trans hT.2.2.1
        · unfold sGo; simp only [gs_FI, gs_AL]; exact hp580
  | nil =>
    have h5n : fR SP 580 (x + 13) = none := hp580
    have e584 : fI SP 584 (x + 13) = fI S 584 (x + 13) := hpI _ _ (by omega)
    -- the end on the reference's side
    have rT : ∀ T, MC x m n nn a st op oa ob oc N th ra rb rc F fa [f] left took S T → ∃ T1 T', (∀ Q : Int32 → Sg → Prop, Q 0 T' → cBd m (nI ([] : List FrT).length) (aI T (m + 20) ([] : List FrT).length) T Q) ∧ Mid x m n nn a st op oa ob oc N th ra rb rc F fa [f] left took S T1 ∧ VT m T1 T' ∧ fI T' 739 m = 0 ∧ fI T' 750 m = (if fI S 584 (x + 13) = 1 then 0 else if fI S 584 (x + 13) = 2 then 2 else 1) ∧ fL T' 751 m = (if fI S 584 (x + 13) = 5 then fL S 585 (x + 13) else 0) ∧ fI T' 752 m = (if fI S 584 (x + 13) = 2 then fI T 742 m else 0) := by
      intro T hT
      obtain ⟨T1, w1, w2, w3, w4, w5, w6, w7, w8⟩ := rout_T hT.2.1 (nI ([] : List FrT).length)
      have hM1 : Mid x m n nn a st op oa ob oc N th ra rb rc F fa [f] left took S T1 := Mid_W hT.1 WS_rf w1
      have hM := hM1.1.2.1
      have e2 : fI T1 740 m = 2 ↔ fI S 584 (x + 13) = 2 := by
        rw [w7]
        by_cases z1 : fI S 584 (x + 13) = 1
        · rw [if_pos z1, z1]; decide
        · rw [if_neg z1]
          by_cases z2 : fI S 584 (x + 13) = 2
          · rw [if_pos z2]; exact ⟨fun _ => z2, fun _ => rfl⟩
          · rw [if_neg z2]; exact ⟨fun w => absurd w (by decide), fun w => absurd w z2⟩
      have hg : ∀ T3 : Sg, T3 = sFL (tStop m (fI T1 740 m) T1) 751 m (if fI T1 740 m = 1 then fL T1 741 m else 0) → tg T3 = tg T1 ∧ ln T3 = ln T1 ∧ aI T3 = aI T1 ∧ aL T3 = aL T1 ∧ aR T3 = aR T1 ∧ fR T3 = fR T1 ∧ (∀ k, k ≠ 750 → k ≠ 739 → fI T3 k m = fI T1 k m) ∧ fI T3 750 m = fI T1 740 m ∧ fI T3 739 m = 0 ∧ fL T3 751 m = (if fI T1 740 m = 1 then fL T1 741 m else 0) := by
        intro T3 e3
        rw [e3]
        unfold tStop
        simp only [gs_FL, gs_FI]
        refine ⟨trivial, trivial, trivial, trivial, trivial, trivial, fun k q1 q2 => by rw [if_neg (by omega), if_neg (by omega)], by rw [if_neg (by omega), if_pos ⟨trivial, trivial⟩], by rw [if_pos ⟨trivial, trivial⟩], by rw [if_pos ⟨trivial, trivial⟩]⟩
      have hst : ∀ k, k ≠ 750 → k ≠ 739 → fI (tStop m (fI T1 740 m) T1) k m = fI T1 k m := fun k q1 q2 => by unfold tStop; simp only [gs_FI]; rw [if_neg (by omega), if_neg (by omega)]
      have hsl : fL (tStop m (fI T1 740 m) T1) 741 m = fL T1 741 m := by unfold tStop; simp only [gs_FI]
      have hst0 : tg (tStop m (fI T1 740 m) T1) m = 12 := by unfold tStop; simp only [gs_FI]; exact MX_t0 hM
      obtain ⟨T3, e3⟩ : ∃ T3, T3 = sFL (tStop m (fI T1 740 m) T1) 751 m (if fI T1 740 m = 1 then fL T1 741 m else 0) := ⟨_, rfl⟩
      obtain ⟨x1, x2, x3, x4, x5, x6, x7, x8, x9, x10⟩ := hg T3 e3
      refine ⟨T1, sFI T3 752 m (if fI S 584 (x + 13) = 2 then fI T 742 m else 0), fun Q hQ => ref T hT Q (w2 Q ?_), hM1, ⟨by simp only [gs_FI]; exact x1, by simp only [gs_FI]; exact x2, by simp only [gs_FI]; exact x3, by simp only [gs_FI]; exact x4, by simp only [gs_FI]; exact x5, by simp only [gs_FI]; exact x6, fun k hk' => ?_⟩, ?_, ?_, ?_, ?_⟩
      · have b55 : wX11_comesOfRoutine_b55 m (some m) (if fI T1 740 m = 1 then fL T1 741 m else 0) (tStop m (fI T1 740 m) T1) Q := by
          unfold wX11_comesOfRoutine_b55
          refine ⟨m, rfl, hst0, ?_⟩
          intro S25 e25
          rw [← e3] at e25
          subst e25
          rw [x7 740 (by omega) (by omega), x7 742 (by omega) (by omega)]
          by_cases z : fI S 584 (x + 13) = 2
          · rw [if_pos (e2.mpr z)]
            rw [if_pos z] at hQ
            rw [w5]
            exact nm_e hQ
          · rw [if_neg (fun w => z (e2.mp w))]
            rw [if_neg z] at hQ
            exact nm_e hQ
        unfold wX11_comesOfRoutine_b26
        rw [if_pos (show nI ([] : List FrT).length = 0 from rfl)]
        refine r_mstop ?_
        rw [hst 740 (by omega) (by omega), hsl]
        by_cases z : fI T1 740 m = 1
        · rw [if_pos z] at b55 ⊢; exact b55
        · rw [if_neg z] at b55 ⊢; exact b55
      · simp only [gs_FI]
        unfold uK at hk'
        rw [if_neg (by omega)]; exact x7 k (by omega) (by omega)
      · simp only [gs_FI]; rw [if_neg (by omega)]; exact x9
      · simp only [gs_FI]; rw [if_neg (by omega)]; exact x8.trans w7
      · simp only [gs_FI]; exact x10.trans w8
      · simp only [gs_FI]; rw [if_pos ⟨trivial, trivial⟩]
    obtain ⟨c1, c2, c3, c4, c5, -⟩ := h0.1.2.2.2.1
    by_cases z2 : fI S 584 (x + 13) = 2
    · refine ⟨sFR (sFI SP 258 (x + 10) 2) 260 (x + 10) (fR S 586 (x + 13)), 2, [], 0, left, took, fun Q hQ => clsS Q (fun S3 e3 => ?_), fun z => absurd z (by decide), fun z => absurd z (by decide), fun T hT => ?_⟩
      · rw [e3, if_pos h5n]
        unfold wX9_reportEnd
        rw [e584, if_pos z2]
        refine ⟨x + 10, SX_r578 hSP, SX_t10 hSP, ?_⟩
        intro S11 e11 S13 e13
        have : fR S11 586 (x + 13) = fR S 586 (x + 13) := by rw [e11]; simp only [gs_FI]; exact hpR _ _ (by omega)
        rw [this] at e13
        rw [e13, e11]; exact hQ
      · obtain ⟨T1, T', r1, r2, r3, r4, r5, r6, r7⟩ := rT T hT
        refine ⟨T', fun Q hQ => r1 Q (by rw [if_neg (by decide)] at hQ; exact hQ), Or.inr (Or.inr ⟨rfl, Ov_fin r2 ⟨?_, ?_, ?_, ?_, ?_, ?_, fun k q hkq => ?_⟩ r3 ?_ ?_ ?_ ?_ r4⟩)⟩
        · simp only [gs_FR, gs_FI]; exact hpO.1
        · simp only [gs_FR, gs_FI]; exact hpO.2.1
        · simp only [gs_FR, gs_FI]; exact hpO.2.2.1
        · simp only [gs_FR, gs_FI]; exact hpO.2.2.2.1
        · simp only [gs_FR, gs_FI]; exact hpO.2.2.2.2.1
        · simp only [gs_FR, gs_FI]; exact hpO.2.2.2.2.2
        · unfold vK at hkq
          simp only [gs_FR, gs_FI]
          refine ⟨by rw [if_neg (by omega), hpI _ _ (by omega)], by rw [hpL], by rw [if_neg (by omega), hpR _ _ (by omega)]⟩
        · simp only [gs_FR, gs_FI]; rw [if_pos ⟨trivial, trivial⟩, r5, z2]; decide
        · simp only [gs_FR, gs_FI]; rw [hpL, c2, r6, z2]; rfl
        · simp only [gs_FR, gs_FI]; rw [if_pos ⟨trivial, trivial⟩, r7, if_pos z2]
          rcases hT.2.1 with ⟨q, -⟩ | ⟨-, -, j, j1, j2, j3, j4⟩ | ⟨q, -⟩ | ⟨q, -⟩ | ⟨q, -⟩
          · rw [z2] at q; exact absurd q (by decide)
          · exact Or.inr ⟨j, j1, j2, j3, j4⟩
          · rw [z2] at q; exact absurd q (by decide)
          · rw [z2] at q; exact absurd q (by decide)
          · rw [z2] at q; exact absurd q (by decide)
        · simp only [gs_FR, gs_FI]; rw [if_neg (by omega)]; exact h5n
    · by_cases z1 : fI S 584 (x + 13) = 1
      · refine ⟨SP, 2, [], 0, left, took, fun Q hQ => clsS Q (fun S3 e3 => ?_), fun z => absurd z (by decide), fun z => absurd z (by decide), fun T hT => ?_⟩
        · rw [e3, if_pos h5n]
          unfold wX9_reportEnd
          rw [e584, if_neg z2, if_pos z1]
          exact hQ
        · obtain ⟨T1, T', r1, r2, r3, r4, r5, r6, r7⟩ := rT T hT
          refine ⟨T', fun Q hQ => r1 Q (by rw [if_neg (by decide)] at hQ; exact hQ), Or.inr (Or.inr ⟨rfl, Ov_fin r2 ⟨hpO.1, hpO.2.1, hpO.2.2.1, hpO.2.2.2.1, hpO.2.2.2.2.1, hpO.2.2.2.2.2, fun k q hkq => ?_⟩ r3 ?_ ?_ ?_ h5n r4⟩)⟩
          · unfold vK at hkq
            exact ⟨hpI _ _ (by omega), by rw [hpL], hpR _ _ (by omega)⟩
          · rw [hpI _ _ (by omega), c1, r5, if_pos z1]
          · rw [hpL, c2, r6, z1]; rfl
          · rw [hpR _ _ (by omega), c3, r7, if_neg z2]; exact Or.inl ⟨rfl, rfl⟩
      · refine ⟨sFL (sFI SP 258 (x + 10) 1) 259 (x + 10) (if fI S 584 (x + 13) = 5 then fL S 585 (x + 13) else 0), 2, [], 0, left, took, fun Q hQ => clsS Q (fun S3 e3 => ?_), fun z => absurd z (by decide), fun z => absurd z (by decide), fun T hT => ?_⟩
        · rw [e3, if_pos h5n]
          unfold wX9_reportEnd
          rw [e584, if_neg z2, if_neg z1]
          refine ⟨x + 10, SX_r578 hSP, SX_t10 hSP, ?_⟩
          intro S4 e4
          have g1 : fI S4 584 (x + 13) = fI S 584 (x + 13) := by rw [e4]; simp only [gs_FI]; rw [if_neg (by omega)]; exact e584
          have g2 : fL S4 585 (x + 13) = fL S 585 (x + 13) := by rw [e4]; simp only [gs_FI]; rw [hpL]
          rw [g1, g2]
          by_cases z5 : fI S 584 (x + 13) = 5
          · rw [if_pos z5] at hQ ⊢
            refine nm_e ?_
            rw [e4]; exact hQ
          · rw [if_neg z5] at hQ ⊢
            refine nm_e ?_
            rw [e4]; exact hQ
        · obtain ⟨T1, T', r1, r2, r3, r4, r5, r6, r7⟩ := rT T hT
          refine ⟨T', fun Q hQ => r1 Q (by rw [if_neg (by decide)] at hQ; exact hQ), Or.inr (Or.inr ⟨rfl, Ov_fin r2 ⟨?_, ?_, ?_, ?_, ?_, ?_, fun k q hkq => ?_⟩ r3 ?_ ?_ ?_ ?_ r4⟩)⟩
          · simp only [gs_FL, gs_FI]; exact hpO.1
          · simp only [gs_FL, gs_FI]; exact hpO.2.1
          · simp only [gs_FL, gs_FI]; exact hpO.2.2.1
          · simp only [gs_FL, gs_FI]; exact hpO.2.2.2.1
          · simp only [gs_FL, gs_FI]; exact hpO.2.2.2.2.1
          · simp only [gs_FL, gs_FI]; exact hpO.2.2.2.2.2
          · unfold vK at hkq
            simp only [gs_FL, gs_FI]
            refine ⟨by rw [if_neg (by omega), hpI _ _ (by omega)], by rw [if_neg (by omega), hpL], hpR _ _ (by omega)⟩
          · simp only [gs_FL, gs_FI]; rw [if_pos ⟨trivial, trivial⟩, r5, if_neg z1, if_neg z2]
          · simp only [gs_FL, gs_FI]; rw [if_pos ⟨trivial, trivial⟩, r6]
          · simp only [gs_FL, gs_FI]; rw [hpR _ _ (by omega), c3, r7, if_neg z2]; exact Or.inl ⟨rfl, rfl⟩
          · simp only [gs_FL, gs_FI]; exact h5n
