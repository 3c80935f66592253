/-! turns of the class; what comes goes down -/
def cR (x w t : Nat) (nv : Int32) (S S' : Sg) : Prop := ∀ (fu g j : Nat) (Q : Int32 → Sg → Prop), j + t ≤ 1000000 → wX9_workRun_b33 fu g (x + 13) nv (nI (j + t)) S' Q → ∃ fu', wX9_workRun_b33 fu' (g + w) (x + 13) nv (nI j) S Q
theorem cR_rf {x : Nat} {nv : Int32} {S : Sg} : cR x 0 0 nv S S := fun fu g j Q _ h => ⟨fu, h⟩
theorem cR_tr {x w1 w2 t1 t2 : Nat} {nv : Int32} {S S1 S2 : Sg} (h1 : cR x w1 t1 nv S S1) (h2 : cR x w2 t2 nv S1 S2) : cR x (w1 + w2) (t1 + t2) nv S S2 := by
  intro fu g j Q hj h
  obtain ⟨f1, q1⟩ := h2 fu g (j + t1) Q (by omega) (by rw [Nat.add_assoc]; exact h)
  obtain ⟨f2, q2⟩ := h1 f1 (g + w2) j Q (by omega) q1
  exact ⟨f2, by rw [show g + (w1 + w2) = g + w2 + w1 by omega]; exact q2⟩
theorem r_stepAt {x : Nat} {S : Sg} {p : Int32} {Q : Option Nat → Sg → Prop} (hS : SX x S) (h : ∀ o, Q o S) : wX6_stepAt (x + 1) p S Q := by
  unfold wX6_stepAt
  by_cases c1 : p < 0
  · rw [if_pos c1]; exact h _
  rw [if_neg c1]
  by_cases c2 : fI S 387 (x + 1) ≤ p
  · rw [if_pos c2]; exact h _
  rw [if_neg c2]
  by_cases c3 : (2000 : Int32) ≤ p
  · rw [if_pos c3]; exact h _
  rw [if_neg c3]
  obtain ⟨j, j1, rfl⟩ := i_lt (b := 2000) (by omega) c1 c3
  exact ⟨x + 2, SX_r384 hS, SX_t2 hS, by rw [SX_l2 hS]; exact vp_n j1 (by omega), h _⟩
theorem no_M {j : Nat} (h : j < 1000000) : ¬ (1000000 : Int32) ≤ nI j := by
  rw [show (1000000 : Int32) = nI 1000000 from rfl, n_le (by omega) (by omega)]
  omega
theorem turn_settle {x q : Nat} {nv : Int32} {S S' : Sg} (hS : SX x S) (h580 : fR S 580 (x + 13) = some q) (hq : tg S q = 2) (h584 : ¬ fI S 584 (x + 13) = 0) (h : ∀ Q : Sg → Prop, Q S' → wX9_settle (x + 13) (some q) S Q) : cR x 0 1 nv S S' := by
  intro fu g j Q hj hQ
  refine ⟨fu + 1, ?_⟩
  unfold wX9_workRun_b33
  rw [if_neg (no_M (by omega)), if_neg (by rw [h580]; exact fun w => by cases w), h580]
  intro y11 e11
  subst e11
  have st : wX9_settle (x + 13) (some q) S (fun S19 => ∀ y20 : Int32, y20 = nI j + (1) → wX9_workRun_b33 fu (g + 0) (x + 13) nv y20 S19 Q) := by
    refine h _ ?_
    rw [nI_1]
    exact nm_e hQ
  refine ⟨q, rfl, hq, ?_⟩
  by_cases c : fI S 67 q ≤ fI S 582 (x + 13)
  · rw [if_pos c, if_neg h584]; exact st
  · rw [if_neg c]
    refine ⟨x + 1, SX_r576 hS, SX_t1 hS, r_stepAt hS (fun o => ?_)⟩
    rw [if_neg h584]; exact st
theorem settle_sim {x m n nn a : Nat} {st : Nat → Nat} {op oa ob oc : Nat → Int32} {N : Nat} {th ra rb rc : Nat → Nat} {F : Nat} {fa : Nat → Nat} {f : FrT} {L : List FrT} {left took : Nat} {S T0 : Sg} (h0 : MC x m n nn a st op oa ob oc N th ra rb rc F fa (f :: L) left took S T0) : SimS x m n nn a st op oa ob oc N th ra rb rc F fa f L left took S := by
  by_cases c : kd op f.2.2.1 = 0
  · exact rout_sim h0 c
  · obtain ⟨q, r, o, g⟩ := f
    cases o with
    | none => exact absurd rfl c
    | some k =>
      rcases kd_isB.mp c with h | h | h
      · exact trial_sim h0 h
      · exact loop_sim h0 rfl h
      · exact if_sim h0 rfl h
theorem comes_step {m fu L : Nat} {j : Nat} {T T' : Sg} {r : Int32} {Q : Sg → Prop} (hM : MX m T) (hL : L < 201) (h737 : fI T 737 m = nI (L + 1)) (hj : j < 500) (hc : ∀ Q : Int32 → Sg → Prop, Q r T' → cBd m (nI L) (aI T (m + 20) L) T Q) (hQ : wX11_comes_b4 fu m r (nI (j + 1)) T' Q) : wX11_comes_b4 (fu + 1) m 1 (nI j) T Q := by
  unfold wX11_comes_b4
  rw [if_neg (by rw [show (500 : Int32) = nI 500 from rfl, n_le (by omega) (by omega)]; omega), if_neg (by decide), h737, nI_s1]
  refine nm_e ⟨m + 20, MX_r729 hM, MX_t20 hM, by rw [MX_l20 hM]; exact vp_n (by omega) (by omega), ?_⟩
  rw [n_cl (by omega), nI_1]
  have := hc (fun r3 S3 => ∀ y : Int32, y = nI (j + 1) → wX11_comes_b4 fu m r3 y S3 Q) (nm_e hQ)
  unfold cBd at this
  exact nm_e this
theorem comes_sim {x m n nn a : Nat} {st : Nat → Nat} {op oa ob oc : Nat → Int32} {N : Nat} {th ra rb rc : Nat → Nat} {F : Nat} {fa : Nat → Nat} (nv : Int32) : ∀ (L : List FrT) (left took : Nat) (S T0 : Sg), MC x m n nn a st op oa ob oc N th ra rb rc F fa L left took S T0 →
    ∃ S' o L' p left' took' t, cR x 0 t nv S S' ∧ t ≤ L.length ∧ (o = 1 ∨ o = 2) ∧ (o = 1 → mu op left' L' ≤ mu op left L ∧ (fI S 584 (x + 13) = 1 → mu op left' L' < mu op left L) ∧ left' ≤ left) ∧ ∀ T, MC x m n nn a st op oa ob oc N th ra rb rc F fa L left took S T → ∃ T', (∀ j, j + L.length < 500 → ∀ Q : Sg → Prop, Q T' → ∃ fu, wX11_comes_b4 fu m 1 (nI j) T Q) ∧ Res x m n nn a st op oa ob oc N th ra rb rc F fa o L' p left' took' S' T' := by
  intro L
  induction L with
  | nil => exact fun _ _ _ _ h => absurd rfl h.2.2.2.2
  | cons f L ih =>
    intro left took S T0 h0
    have hS := h0.1.1.1
    have hL : L.length + 1 ≤ 200 := h0.1.2.2.2.2.1.2.2.2.2.2.2.2
    obtain ⟨S1, o, L1, p, left1, took1, q1, q2, q3, q4⟩ := settle_sim h0
    have turn : cR x 0 1 nv S S1 := turn_settle hS h0.2.2.2.1 h0.1.2.2.2.2.2.2.1.1.1.1 (CV_1 h0.2.1).2.2.2.2.2 q1
    have stp : ∀ T T1, MC x m n nn a st op oa ob oc N th ra rb rc F fa (f :: L) left took S T → (∀ Q : Int32 → Sg → Prop, Q (if o = 0 then 1 else 0) T1 → cBd m (nI L.length) (aI T (m + 20) L.length) T Q) → ∀ j fu, j < 500 → ∀ Q : Sg → Prop, wX11_comes_b4 fu m (if o = 0 then 1 else 0) (nI (j + 1)) T1 Q → wX11_comes_b4 (fu + 1) m 1 (nI j) T Q :=
      fun T T1 hT hc j fu hj Q hQ => comes_step hT.1.1.2.1 (by omega) hT.1.2.2.2.2.1.2.2.2.2.2.2.1 hj hc hQ
    obtain ⟨T1', -, r2⟩ := q4 T0 h0
    by_cases ho : o = 0
    · subst ho
      obtain ⟨rfl, rfl, rfl⟩ := q2 rfl
      have hmc : ∀ T', Res x m n nn a st op oa ob oc N th ra rb rc F fa 0 L1 p left1 took1 S1 T' → MC x m n nn a st op oa ob oc N th ra rb rc F fa L1 left1 took1 S1 T' := by
        intro T' hr
        rcases hr with ⟨-, h⟩ | ⟨h, -⟩ | ⟨h, -⟩
        · exact h
        · exact absurd h (by decide)
        · exact absurd h (by decide)
      obtain ⟨S', o', L', p', left', took', t, u1, u2, u3, u4, u5⟩ := ih left1 took1 S1 T1' (hmc _ r2)
      refine ⟨S', o', L', p', left', took', 1 + t, cR_tr turn u1, by rw [List.length_cons]; omega, u3, fun ho => ?_, fun T hT => ?_⟩
      · obtain ⟨v1, v2, v3⟩ := u4 ho
        have := mu_pop (op := op) (left := left1) (f := f) (L := L1)
        exact ⟨by omega, fun _ => by omega, v3⟩
      · obtain ⟨T1, w1, w2⟩ := q4 T hT
        obtain ⟨T', w3, w4⟩ := u5 T1 (hmc _ w2)
        refine ⟨T', fun j hj Q hQ => ?_, w4⟩
        rw [List.length_cons] at hj
        obtain ⟨fu, hfu⟩ := w3 (j + 1) (by omega) Q hQ
        exact ⟨fu + 1, stp T T1 hT w1 j fu (by omega) Q hfu⟩
    · have ho' : o = 1 ∨ o = 2 := by
        rcases r2 with ⟨h, -⟩ | ⟨h, -⟩ | ⟨h, -⟩
        · exact absurd h ho
        · exact Or.inl h
        · exact Or.inr h
      refine ⟨S1, o, L1, p, left1, took1, 1, turn, by rw [List.length_cons]; omega, ho', q3, fun T hT => ?_⟩
      obtain ⟨T1, w1, w2⟩ := q4 T hT
      refine ⟨T1, fun j hj Q hQ => ⟨2, stp T T1 hT w1 j 1 (by omega) Q ?_⟩, w2⟩
      rw [if_neg ho]
      unfold wX11_comes_b4
      by_cases c : (500 : Int32) ≤ nI (j + 1)
      · rw [if_pos c]; exact hQ
      · rw [if_neg c, if_pos rfl]; exact hQ
