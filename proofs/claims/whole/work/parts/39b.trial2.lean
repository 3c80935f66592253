theorem trial_sim {x m n nn a : Nat} {st : Nat → Nat} {op oa ob oc : Nat → Int32} {N : Nat} {th ra rb rc : Nat → Nat} {F : Nat} {fa : Nat → Nat} {q r g : Nat} {L : List FrT} {left took k : Nat} {S T0 : Sg} (h0 : MC x m n nn a st op oa ob oc N th ra rb rc F fa ((q, r, some k, g) :: L) left took S T0) (h25 : op k = 25) : SimS x m n nn a st op oa ob oc N th ra rb rc F fa (q, r, some k, g) L left took S := by
  have hB : kd op (some k) ≠ 0 := kd_isB.mpr (Or.inl h25)
  have hkd : kd op (some k) = 1 := by unfold kd; dsimp only; rw [h25]; rfl
  have hS := h0.1.1.1
  obtain ⟨c1, c2, c3, c4, c5, c6, c7, c8, c9, c10, c11, -⟩ := fr_blk (k := k) h0.1.1 h0.1.2.2.2.2.2.2.1.1 rfl hB
  dsimp only at c3 c6
  have hd : L.length + 1 ≤ 200 := h0.1.2.2.2.2.1.2.2.2.2.2.2.2
  obtain ⟨⟨-, -, -, -, a5⟩, ⟨-, b2, -, -, -⟩, -⟩ := h0.1.2.2.2.2.2.2.1.1
  dsimp only at a5 b2
  have cls : ∀ Q : Sg → Prop, wX9_settleTrial (x + 13) (some q) S Q → wX9_settle (x + 13) (some q) S Q := by
    intro Q hQ
    unfold wX9_settle
    refine ⟨q, rfl, c3, st k, c6, c7, ?_⟩
    rw [c8, h25, if_pos rfl]
    exact hQ
  have ref : ∀ T, MC x m n nn a st op oa ob oc N th ra rb rc F fa ((q, r, some k, g) :: L) left took S T → ∀ Q : Int32 → Sg → Prop, wX11_comesOfTrial m (nI L.length) T Q → cBd m (nI L.length) (aI T (m + 20) L.length) T Q := by
    intro T hT Q hQ
    obtain ⟨-, -, -, -, -, -, -, -, -, -, -, d1, -⟩ := fr_blk (k := k) hT.1.1 hT.1.2.2.2.2.2.2.1.1 rfl hB
    rw [d1, hkd]
    unfold cBd
    rw [if_neg (by decide), if_pos (by decide)]
    exact hQ
  have hT23 : ∀ T, MC x m n nn a st op oa ob oc N th ra rb rc F fa ((q, r, some k, g) :: L) left took S T → aI T (m + 23) L.length = nI g ∧ aI T (m + 21) L.length = nI k := by
    intro T hT
    obtain ⟨-, -, -, -, -, -, -, -, -, -, -, d1, d2, -⟩ := fr_blk (k := k) hT.1.1 hT.1.2.2.2.2.2.2.1.1 rfl hB
    exact ⟨hT.1.2.2.2.2.2.2.1.1.2.1.2.2.2.1, d2⟩
  by_cases z2 : g = 2
  · subst z2
    have h25' : ∀ T, MC x m n nn a st op oa ob oc N th ra rb rc F fa ((q, r, some k, 2) :: L) left took S T → CV F fa (fI S 70 q) (fL S 71 q) (fR S 72 q) (aI T (m + 25) L.length) (aL T (m + 26) L.length) (aI T (m + 27) L.length) := fun T hT => hT.1.2.2.2.2.2.2.1.1.2.2.2.2.2.2 rfl
    by_cases zc : fI S 584 (x + 13) = 2
    · obtain ⟨S', o, p, q1, q2, q3⟩ := leave_sim h0 (k := k) rfl hB
      refine ⟨S', o, L, p, left, took, fun Q hQ => cls Q ?_, fun _ => ⟨rfl, rfl, rfl⟩, fun _ => ⟨Nat.le_of_lt mu_pop, fun _ => mu_pop, Nat.le_refl _⟩, fun T hT => ?_⟩
      · unfold wX9_settleTrial
        refine ⟨q, rfl, c3, ?_⟩
        rw [a5, if_pos (show nI 2 = 2 from rfl), if_pos zc]
        exact q1 Q hQ
      · obtain ⟨T', r1, r2⟩ := q3 T hT
        obtain ⟨w1, w2⟩ := hT23 T hT
        have hM := hT.1.1.2.1
        refine ⟨T', fun Q hQ => ref T hT Q ?_, r2⟩
        unfold wX11_comesOfTrial
        refine ⟨m + 21, MX_r730 hM, MX_t21 hM, by rw [MX_l21 hM]; exact vp_n (by omega) (by omega), nm_e ⟨m + 23, MX_r732 hM, MX_t23 hM, by rw [MX_l23 hM]; exact vp_n (by omega) (by omega), ?_⟩⟩
        rw [n_cl (by omega), w1, if_pos (show nI 2 = 2 from rfl), if_pos ((CV_1 hT.2.1).2.1.mp zc)]
        exact r1 _ (if_r (P := fun r => Q r T') q2 hQ)
    · -- what was held goes on
      have hW : WS x S (sFR (sFL (sFI S 584 (x + 13) (fI S 70 q)) 585 (x + 13) (fL S 71 q)) 586 (x + 13) (fR S 72 q)) := WS_tr (WS_FI (by unfold wK; omega)) (WS_tr (WS_FL (by unfold wK; omega)) (WS_FR (by unfold wK; omega)))
      have hWT : ∀ T, WT m T (sFI (sFL (sFI T 740 m (aI T (m + 25) L.length)) 741 m (aL T (m + 26) L.length)) 742 m (aI T (m + 27) L.length)) := fun T => WT_tr (WT_FI (by unfold tK; omega)) (WT_tr (WT_FL (by unfold tK; omega)) (WT_FI (by unfold tK; omega)))
      have hC : ∀ T, MC x m n nn a st op oa ob oc N th ra rb rc F fa ((q, r, some k, 2) :: L) left took S T → MC x m n nn a st op oa ob oc N th ra rb rc F fa ((q, r, some k, 2) :: L) left took (sFR (sFL (sFI S 584 (x + 13) (fI S 70 q)) 585 (x + 13) (fL S 71 q)) 586 (x + 13) (fR S 72 q)) (sFI (sFL (sFI T 740 m (aI T (m + 25) L.length)) 741 m (aL T (m + 26) L.length)) 742 m (aI T (m + 27) L.length)) := by
        intro T hT
        refine ⟨Mid_W hT.1 hW (hWT T), ?_, ?_, ?_, hT.2.2.2.2⟩
        · have := h25' T hT
          simp only [gs_FI, gs_FL, gs_FR]
          rw [if_pos ⟨trivial, trivial⟩, if_pos ⟨trivial, trivial⟩, if_pos ⟨trivial, trivial⟩, if_neg (by omega), if_pos ⟨trivial, trivial⟩, if_pos ⟨trivial, trivial⟩, if_pos ⟨trivial, trivial⟩]
          exact this
        · simp only [gs_FI, gs_FL]; rw [if_neg (by omega), if_neg (by omega)]; exact hT.2.2.1
        · simp only [gs_FI, gs_FL, gs_FR]; rw [if_neg (by omega)]; exact hT.2.2.2.1
      obtain ⟨S', o, p, q1, q2, q3⟩ := leave_sim (hC T0 h0) (k := k) rfl hB
      refine ⟨S', o, L, p, left, took, fun Q hQ => cls Q ?_, fun _ => ⟨rfl, rfl, rfl⟩, fun _ => ⟨Nat.le_of_lt mu_pop, fun _ => mu_pop, Nat.le_refl _⟩, fun T hT => ?_⟩
      · unfold wX9_settleTrial
        refine ⟨q, rfl, c3, ?_⟩
        rw [a5, if_pos (show nI 2 = 2 from rfl), if_neg zc]
        intro S20 e20 S21 e21 S22 e22
        have f1 : fL S20 71 q = fL S 71 q := by rw [e20]; simp only [gs_FI]
        have f2 : fR S21 72 q = fR S 72 q := by rw [e21, e20]; simp only [gs_FI, gs_FL]
        rw [f1] at e21
        rw [f2] at e22
        rw [e22, e21, e20]
        exact q1 Q hQ
      · obtain ⟨T', r1, r2⟩ := q3 _ (hC T hT)
        obtain ⟨w1, w2⟩ := hT23 T hT
        have hM := hT.1.1.2.1
        refine ⟨T', fun Q hQ => ref T hT Q ?_, r2⟩
        unfold wX11_comesOfTrial
        refine ⟨m + 21, MX_r730 hM, MX_t21 hM, by rw [MX_l21 hM]; exact vp_n (by omega) (by omega), nm_e ⟨m + 23, MX_r732 hM, MX_t23 hM, by rw [MX_l23 hM]; exact vp_n (by omega) (by omega), ?_⟩⟩
        rw [n_cl (by omega), w1, if_pos (show nI 2 = 2 from rfl), if_neg (fun w => zc ((CV_1 hT.2.1).2.1.mpr w))]
        refine ⟨m + 25, MX_r734 hM, MX_t25 hM, by rw [MX_l25 hM]; exact vp_n (by omega) (by omega), ?_⟩
        intro S61 e61
        have hM61 : MX m S61 := by rw [e61]; simp only [MX_sFI]; exact hM
        refine ⟨m + 26, MX_r735 hM61, MX_t26 hM61, by rw [MX_l26 hM61]; exact vp_n (by omega) (by omega), ?_⟩
        intro S64 e64
        have hM64 : MX m S64 := by rw [e64]; simp only [MX_sFL]; exact hM61
        refine ⟨m + 27, MX_r736 hM64, MX_t27 hM64, by rw [MX_l27 hM64]; exact vp_n (by omega) (by omega), ?_⟩
        intro S67 e67
        have f1 : aL S61 (m + 26) L.length = aL T (m + 26) L.length := by rw [e61]; simp only [gs_FI]
        have f2 : aI S64 (m + 27) L.length = aI T (m + 27) L.length := by rw [e64, e61]; simp only [gs_FI, gs_FL]
        rw [f1] at e64
        rw [f2] at e67
        rw [e67, e64, e61]
        exact r1 _ (if_r (P := fun r => Q r T') q2 hQ)
  · have hg : g ≤ 1 := by omega
    have ng : ¬ nI g = 2 := by rw [show (2 : Int32) = nI 2 from rfl, n_eq (by omega) (by omega)]; exact z2
    -- the rest
    have rest : (∀ Q : Sg → Prop, wX9_settleTrial_b85 (x + 13) (some q) S Q → wX9_settleTrial (x + 13) (some q) S Q) → (∀ T, MC x m n nn a st op oa ob oc N th ra rb rc F fa ((q, r, some k, g) :: L) left took S T → ∀ Q : Int32 → Sg → Prop, wX11_comesOfTrial_b149 m (nI L.length) (nI k) T Q → wX11_comesOfTrial m (nI L.length) T Q) → SimS x m n nn a st op oa ob oc N th ra rb rc F fa (q, r, some k, g) L left took S := by
      intro w1 w2
      obtain ⟨S', o, L', p, q1, q2, q3, q4⟩ := rest_sim h0 h25 hg
      have hmu : o = 1 → mu op left L' < mu op left ((q, r, some k, g) :: L) := fun ho => by have := q3 ho; unfold mu; omega
      refine ⟨S', o, L', p, left, took, fun Q hQ => cls Q (w1 Q (q1 Q hQ)), fun ho => ⟨q2 ho, rfl, rfl⟩, fun ho => ⟨Nat.le_of_lt (hmu ho), fun _ => hmu ho, Nat.le_refl _⟩, fun T hT => ?_⟩
      obtain ⟨T', r1, r2⟩ := q4 T hT
      exact ⟨T', fun Q hQ => ref T hT Q (w2 T hT Q (r1 Q hQ)), r2⟩
    have head : ∀ T, MC x m n nn a st op oa ob oc N th ra rb rc F fa ((q, r, some k, g) :: L) left took S T → ∀ Q : Int32 → Sg → Prop, (¬ (g = 0 ∧ fI S 584 (x + 13) = 2) → wX11_comesOfTrial_b149 m (nI L.length) (nI k) T Q) → ((g = 0 ∧ fI S 584 (x + 13) = 2) → ∃ a35 : Nat, (fR T 710 m) = some a35 ∧ tg T a35 = 13 ∧ vp_in (nI k) (ln T a35) ∧ (if (aI T a35 (nI k).toNatClampNeg) < 0 then wX11_comesOfTrial_b149 m (nI L.length) (nI k) T Q else ∃ a38 : Nat, (fR T 705 m) = some a38 ∧ tg T a38 = 13 ∧ vp_in (nI k) (ln T a38) ∧ ∃ a40 : Nat, (fR T 743 m) = some a40 ∧ tg T a40 = 13 ∧ vp_in (fI T 742 m) (ln T a40) ∧ wX11_isTaken (aI T a38 (nI k).toNatClampNeg) (aI T a40 ((fI T 742 m)).toNatClampNeg) T (fun (r42 : Int32) (S43 : Sg) => (if r42 = 0 then wX11_comesOfTrial_b149 m (nI L.length) (nI k) S43 Q else ∃ a45 : Nat, (fR S43 732 m) = some a45 ∧ tg S43 a45 = 13 ∧ vp_in (nI L.length) (ln S43 a45) ∧ ∀ S47 : Sg, S47 = sAI S43 a45 (nI L.length).toNatClampNeg (1 : Int32) → ∃ a48 : Nat, (fR S47 733 m) = some a48 ∧ tg S47 a48 = 13 ∧ vp_in (nI L.length) (ln S47 a48) ∧ ∀ S50 : Sg, S50 = sAI S47 a48 (nI L.length).toNatClampNeg (fI S47 742 m) → ∀ S51 : Sg, S51 = sFI S50 757 m ((fI S50 757 m) + (1 : Int32)) → ∃ a52 : Nat, (fR S51 710 m) = some a52 ∧ tg S51 a52 = 13 ∧ vp_in (nI k) (ln S51 a52) ∧ ∀ S54 : Sg, S54 = sFI S51 738 m ((aI S51 a52 (nI k).toNatClampNeg) + (1 : Int32)) → Q (0 : Int32) S54)))) → wX11_comesOfTrial m (nI L.length) T Q := by
      intro T hT Q g1 g2
      obtain ⟨w1, w2⟩ := hT23 T hT
      have hM := hT.1.1.2.1
      have hc2 := (CV_1 hT.2.1).2.1
      unfold wX11_comesOfTrial
      refine ⟨m + 21, MX_r730 hM, MX_t21 hM, by rw [MX_l21 hM]; exact vp_n (by omega) (by omega), nm_e ⟨m + 23, MX_r732 hM, MX_t23 hM, by rw [MX_l23 hM]; exact vp_n (by omega) (by omega), ?_⟩⟩
      rw [n_cl (by omega), w1, w2, if_neg ng]
      refine ⟨by rw [MX_l23 hM]; exact vp_n (by omega) (by omega), ?_⟩
      by_cases z0 : g = 0
      · subst z0
        rw [if_pos (show nI 0 = 0 from rfl)]
        by_cases zc : fI S 584 (x + 13) = 2
        · rw [if_pos (hc2.mp zc)]
          have := g2 ⟨rfl, zc⟩
          rw [n_cl (n := L.length) (by omega)] at this
          exact this
        · rw [if_neg (fun w => zc (hc2.mpr w))]
          exact g1 (fun w => zc w.2)
      · rw [if_neg (by rw [show (0 : Int32) = nI 0 from rfl, n_eq (by omega) (by omega)]; exact z0)]
        exact g1 (fun w => z0 w.1)
    by_cases zf : g = 0 ∧ fI S 584 (x + 13) = 2
    · obtain ⟨rfl, zc⟩ := zf
      have hj : ∀ T, MC x m n nn a st op oa ob oc N th ra rb rc F fa ((q, r, some k, 0) :: L) left took S T → ∃ j, 1 ≤ j ∧ j ≤ F ∧ fR S 586 (x + 13) = some (fa j) ∧ fI T 742 m = nI j := by
        intro T hT
        rcases hT.2.1 with ⟨w, -⟩ | ⟨-, -, w⟩ | ⟨w, -⟩ | ⟨w, -⟩ | ⟨w, -⟩
        · rw [zc] at w; exact absurd w (by decide)
        · exact w
        · rw [zc] at w; exact absurd w (by decide)
        · rw [zc] at w; exact absurd w (by decide)
        · rw [zc] at w; exact absurd w (by decide)
      obtain ⟨j0, i1, i2, i3, -⟩ := hj T0 h0
      obtain ⟨f1, f2, -, K, hK, f4⟩ := h0.1.2.2.1.1.2.2 j0 i1 i2
      have hkind : fI S 0 (fa j0) = nI K := f2.trans f4
      have h450 := (St_st h0.1.1 c1).2.2.2.2.2.1
      have ctk : ∀ Q : Sg → Prop, (((b_at op oc n).2.1 k ≠ none ∧ tkn (oa k) K) → wX9_beginTaker (x + 13) (some q) S Q) → (¬ ((b_at op oc n).2.1 k ≠ none ∧ tkn (oa k) K) → wX9_settleTrial_b85 (x + 13) (some q) S Q) → wX9_settleTrial (x + 13) (some q) S Q := by
        intro Q g1 g2
        unfold wX9_settleTrial
        refine ⟨q, rfl, c3, ?_⟩
        rw [a5, if_neg (by decide), if_pos (show nI 0 = 0 from rfl), if_pos zc, c6, i3]
        refine r_ctakes hK c7 h450 c9 (fun v hv => by have := b_vn.1 v hv; omega) f1 hkind (fun w1 w2 => ?_) (fun w => ?_)
        · rw [if_neg (by decide)]
          exact g1 ⟨w1, w2⟩
        · rw [if_pos rfl]
          refine g2 (fun v => ?_)
          rcases w with w | w
          · exact v.1 w
          · exact w v.2
      have rtk : ∀ T, MC x m n nn a st op oa ob oc N th ra rb rc F fa ((q, r, some k, 0) :: L) left took S T → ∀ Q : Int32 → Sg → Prop, (¬ ((b_at op oc n).2.1 k ≠ none ∧ tkn (oa k) K) → wX11_comesOfTrial_b149 m (nI L.length) (nI k) T Q) → (((b_at op oc n).2.1 k ≠ none ∧ tkn (oa k) K) → ∃ a45 : Nat, (fR T 732 m) = some a45 ∧ tg T a45 = 13 ∧ vp_in (nI L.length) (ln T a45) ∧ ∀ S47 : Sg, S47 = sAI T a45 (nI L.length).toNatClampNeg (1 : Int32) → ∃ a48 : Nat, (fR S47 733 m) = some a48 ∧ tg S47 a48 = 13 ∧ vp_in (nI L.length) (ln S47 a48) ∧ ∀ S50 : Sg, S50 = sAI S47 a48 (nI L.length).toNatClampNeg (fI S47 742 m) → ∀ S51 : Sg, S51 = sFI S50 757 m ((fI S50 757 m) + (1 : Int32)) → ∃ a52 : Nat, (fR S51 710 m) = some a52 ∧ tg S51 a52 = 13 ∧ vp_in (nI k) (ln S51 a52) ∧ ∀ S54 : Sg, S54 = sFI S51 738 m ((aI S51 a52 (nI k).toNatClampNeg) + (1 : Int32)) → Q (0 : Int32) S54) → wX11_comesOfTrial m (nI L.length) T Q := by
        intro T hT Q g1 g2
        refine head T hT Q (fun w => absurd ⟨rfl, zc⟩ w) (fun _ => ?_)
        have hM := hT.1.1.2.1
        obtain ⟨-, -, -, -, -, -, -, -, -, -, -, d1, d2, d3, d4, -⟩ := fr_blk (k := k) hT.1.1 hT.1.2.2.2.2.2.2.1.1 rfl hB
        obtain ⟨j, j1, j2, j3, j4⟩ := hj T hT
        have hF := hT.1.2.2.1.1.1
        have ej : fa j = fa j0 := (Option.some.inj (i3.symm.trans j3)).symm
        have e28 : aI T (m + 28) j = nI K := by
          have := (hT.1.2.2.1.1.2.2 j j1 j2).2.1
          rw [ej, hkind] at this; exact this.symm
        have e2 : aI T (m + 2) k = oa k := by rw [hT.1.1.2.2.2.2.2.2.1]
        refine ⟨m + 6, MX_r710 hM, MX_t6 hM, by rw [MX_l6 hM]; exact vp_n (by omega) (by omega), ?_⟩
        rw [n_cl (by omega), d3]
        by_cases zn : (b_at op oc n).2.1 k = none
        · rw [if_pos ((opI_neg (fun v hv => by have := b_vn.1 v hv; omega)).mpr zn)]
          exact g1 (fun w => w.1 zn)
        · rw [if_neg (fun w => zn ((opI_neg (fun v hv => by have := b_vn.1 v hv; omega)).mp w))]
          refine ⟨m + 2, MX_r705 hM, MX_t2 hM, by rw [MX_l2 hM]; exact vp_n (by omega) (by omega), m + 28, MX_r743 hM, MX_t28 hM, by rw [j4, MX_l28 hM]; exact vp_n (by omega) (by omega), ?_⟩
          rw [e2, j4, n_cl (by omega), e28]
          refine r_isTaken hK (fun w => ?_) (fun w => ?_)
          · rw [if_neg (by decide)]
            have := g2 ⟨zn, w⟩
            rw [n_cl (n := k) (by omega)] at this
            exact this
          · rw [if_pos rfl]
            exact g1 (fun v => w v.2)
      by_cases zt : (b_at op oc n).2.1 k ≠ none ∧ tkn (oa k) K
      · cases hp : (b_at op oc n).2.1 k with
        | none => exact absurd hp zt.1
        | some p =>
          obtain ⟨S', q1, q2⟩ := taker_sim h0 h25 hp zc
          refine ⟨S', 1, (q, r, some k, 1) :: L, p + 1, left, took, fun Q hQ => cls Q (ctk Q (fun _ => q1 Q hQ) (fun w => absurd zt w)), fun z => absurd z (by decide), fun _ => ⟨?_, fun w => by rw [zc] at w; exact absurd w (by decide), Nat.le_refl _⟩, fun T hT => ?_⟩
          · have e1 : wt1 op (q, r, some k, 1) = 2 := by unfold wt1; dsimp only; rw [if_pos ⟨hkd, by omega⟩]
            have e2 : wt1 op (q, r, some k, 0) = 2 := by unfold wt1; dsimp only; rw [if_pos ⟨hkd, by omega⟩]
            show 3 * left + (wt1 op (q, r, some k, 1) + wtL op L) ≤ 3 * left + (wt1 op (q, r, some k, 0) + wtL op L)
            omega
          · obtain ⟨r1, r2⟩ := q2 T hT
            exact ⟨_, fun Q hQ => ref T hT Q (rtk T hT Q (fun w => absurd zt w) (fun _ => r1 Q hQ)), Or.inr (Or.inl ⟨rfl, r2⟩)⟩
      · exact rest (fun Q hQ => ctk Q (fun w => absurd w zt) (fun _ => hQ)) (fun T hT Q hQ => rtk T hT Q (fun _ => hQ) (fun w => absurd w zt))
    · refine rest (fun Q hQ => ?_) (fun T hT Q hQ => head T hT Q (fun _ => hQ) (fun w => absurd w zf))
      unfold wX9_settleTrial
      refine ⟨q, rfl, c3, ?_⟩
      rw [a5, if_neg ng]
      by_cases z0 : g = 0
      · subst z0
        rw [if_pos (show nI 0 = 0 from rfl), if_neg (fun w => zf ⟨rfl, w⟩)]
        exact hQ
      · rw [if_neg (by rw [show (0 : Int32) = nI 0 from rfl, n_eq (by omega) (by omega)]; exact z0)]
        exact hQ
