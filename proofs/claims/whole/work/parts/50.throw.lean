theorem nI_m1 (n : Nat) : nI n + -1 = nI n - 1 := by rw [Int32.sub_eq_add_neg]
/-- the failure at work -/
theorem work_fail {x m n : Nat} {st : Nat → Nat} {op oc : Nat → Int32} {F : Nat} {fa : Nat → Nat} {S T0 : Sg} (hF : F ≤ 1000) : ∀ L : List FrT, StkR x m n st op oc F fa S T0 L → ∃ o, (∀ Q : Option Nat → Sg → Prop, Q o S → ∃ fu, wX9_failureAtWork_b5 fu (x + 13) (L.head?.map (·.1)) S Q) ∧ ∀ T, MX m T → L.length ≤ 200 → StkR x m n st op oc F fa S T L → ∃ c, hrel F fa o c ∧ ∀ (Q : Int32 → Sg → Prop) (y : Int32), wX11_throwsAt_b90 m y c T Q → ∃ fu, wX11_throwsAt_b45 fu m y 0 (nI L.length - 1) T Q := by
  intro L
  induction L with
  | nil =>
    intro _
    refine ⟨none, fun Q hQ => ⟨1, ?_⟩, fun T hM _ _ => ⟨0, Or.inl ⟨rfl, rfl⟩, fun Q y hQ => ⟨1, ?_⟩⟩⟩
    · show wX9_failureAtWork_b5 1 (x + 13) none S Q
      unfold wX9_failureAtWork_b5
      rw [if_pos rfl]; exact hQ
    · unfold wX11_throwsAt_b45
      rw [if_pos (by decide)]; exact hQ
  | cons f L ih =>
    intro h
    obtain ⟨o', i1, i2⟩ := ih h.2.2.2
    obtain ⟨a1, a2, a3, a4, a5⟩ := h.1.1
    by_cases g : f.2.2.2 = 1
    · obtain ⟨j0, j1, j2, j3, -⟩ := h.1.2.2.2.2.2.1 g
      refine ⟨some (fa j0), fun Q hQ => ⟨1, ?_⟩, fun T hM hL hT => ?_⟩
      · unfold wX9_failureAtWork_b5
        rw [if_neg (by intro w; cases w)]
        refine ⟨f.1, rfl, a1, ?_⟩
        rw [a5, g, if_pos (show nI 1 = 1 from rfl), j3]; exact hQ
      · obtain ⟨j, k1, k2, k3, k4⟩ := hT.1.2.2.2.2.2.1 g
        obtain ⟨b1, b2, b3, b4, b5⟩ := hT.1.2.1
        have hL : L.length + 1 ≤ 200 := hL
        have hkd : kd op f.2.2.1 = 1 := b5 (by omega)
        refine ⟨nI j, Or.inr ⟨j, k1, k2, j3.symm.trans k3, rfl⟩, fun Q y hQ => ⟨2, ?_⟩⟩
        rw [List.length_cons, nI_s1]
        unfold wX11_throwsAt_b45
        rw [if_neg (n_neg (by omega)), if_pos rfl]
        refine ⟨m + 20, MX_r729 hM, MX_t20 hM, by rw [MX_l20 hM]; exact vp_n (by omega) (by omega), ?_⟩
        rw [n_cl (by omega), b3, hkd, if_pos (show nI 1 = 1 from rfl)]
        refine ⟨m + 23, MX_r732 hM, MX_t23 hM, by rw [MX_l23 hM]; exact vp_n (by omega) (by omega), ?_⟩
        rw [b4, g, if_pos (show nI 1 = 1 from rfl)]
        refine ⟨m + 24, MX_r733 hM, MX_t24 hM, by rw [MX_l24 hM]; exact vp_n (by omega) (by omega), ?_⟩
        rw [k4]
        refine nm_e (nm_e ?_)
        unfold wX11_throwsAt_b45
        rw [nI_m1]
        rcases Classical.em (nI L.length - 1 < 0) with z | z
        · rw [if_pos z]; exact hQ
        · rw [if_neg z, if_neg (nI_ne0 (by omega) (by omega))]; exact hQ
    · refine ⟨o', fun Q hQ => ?_, fun T hM hL hT => ?_⟩
      · obtain ⟨fu, hfu⟩ := i1 Q hQ
        refine ⟨fu + 1, ?_⟩
        unfold wX9_failureAtWork_b5
        rw [if_neg (by intro w; cases w)]
        refine ⟨f.1, rfl, a1, ?_⟩
        have hg2 := h.1.2.1.2.1
        rw [a5, if_neg (show ¬ nI f.2.2.2 = 1 from n_ne (k := 1) (by omega) (by omega) g), a2]
        exact nm_e hfu
      · have hL : L.length + 1 ≤ 200 := hL
        obtain ⟨c, c1, c2⟩ := i2 T hM (by omega) hT.2.2.2
        obtain ⟨b1, b2, b3, b4, b5⟩ := hT.1.2.1
        refine ⟨c, c1, fun Q y hQ => ?_⟩
        obtain ⟨fu, hfu⟩ := c2 Q y hQ
        refine ⟨fu + 1, ?_⟩
        rw [List.length_cons, nI_s1]
        unfold wX11_throwsAt_b45
        rw [if_neg (n_neg (by omega)), if_pos rfl]
        refine ⟨m + 20, MX_r729 hM, MX_t20 hM, by rw [MX_l20 hM]; exact vp_n (by omega) (by omega), ?_⟩
        rw [n_cl (by omega), b3, nI_m1]
        by_cases z : nI (kd op f.2.2.1) = 1
        · rw [if_pos z]
          refine ⟨m + 23, MX_r732 hM, MX_t23 hM, by rw [MX_l23 hM]; exact vp_n (by omega) (by omega), ?_⟩
          rw [b4, if_neg (show ¬ nI f.2.2.2 = 1 from n_ne (k := 1) (by omega) (by omega) g)]
          exact nm_e hfu
        · rw [if_neg z]
          exact nm_e hfu
theorem and3_of (i : Int32) : ∃ j : Nat, j < 4 ∧ i &&& 3 = nI j := pk_andE i 2 (by decide)
theorem step_throw {x m n nn a : Nat} {st : Nat → Nat} {op oa ob oc : Nat → Int32} {N : Nat} {th ra rb rc : Nat → Nat} {F : Nat} {fa : Nat → Nat} {f : FrT} {L : List FrT} {p left took : Nat} {S T0 : Sg} (h0 : TK x m n nn a st op oa ob oc N th ra rb rc F fa f L p left took S T0) (ho : op p = 22 ∨ op p = 23 ∨ op p = 24) : StepS x m n nn a st op oa ob oc N th ra rb rc F fa f L p left took S := by
  obtain ⟨hp, hn⟩ := TK_p h0
  obtain ⟨s1, s2, s3, s4, s5, s6, s7, s8, s9, s10, -⟩ := St_st h0.1.1 hp
  have hd : L.length + 1 ≤ 200 := h0.1.2.2.2.2.1.2.2.2.2.2.2.2
  obtain ⟨k, hk, ek⟩ := and3_of (oa p)
  have thr : ∀ T, TK x m n nn a st op oa ob oc N th ra rb rc F fa f L p left took S T → ∀ Q : Int32 → Sg → Prop, (if op p = 23 then Q 7 T else if op p = 22 then Q (nI (k + 1)) T else ∃ fu25 : Nat, wX11_throwsAt_b45 fu25 m (nI p) (0 : Int32) (nI (L.length + 1) - 1) T Q) → wX11_throwsAt m (nI p) T Q := by
    intro T hT Q hQ
    have hM := hT.1.1.2.1
    have e1 : aI T (m + 1) p = op p := by rw [hT.1.1.2.2.2.2.2.1]
    have e2 : aI T (m + 2) p = oa p := by rw [hT.1.1.2.2.2.2.2.2.1]
    have v1 : vp_in (nI p) (ln T (m + 1)) := by rw [MX_l1 hM]; exact vp_n (by omega) (by omega)
    unfold wX11_throwsAt
    refine ⟨m + 1, MX_r704 hM, MX_t1 hM, v1, ?_⟩
    rw [n_cl (by omega), e1]
    by_cases c : op p = 23
    · rw [if_pos c] at hQ ⊢; exact hQ
    · rw [if_neg c] at hQ ⊢
      refine ⟨v1, ?_⟩
      by_cases c2 : op p = 22
      · rw [if_pos c2] at hQ ⊢
        refine ⟨m + 2, MX_r705 hM, MX_t2 hM, by rw [MX_l2 hM]; exact vp_n (by omega) (by omega), ?_⟩
        rw [e2, ek, nI_1]; exact hQ
      · rw [if_neg c2] at hQ ⊢
        rw [hT.1.2.2.2.2.1.2.2.2.2.2.2.1]
        exact nm_e hQ
  have ref : ∀ T, TK x m n nn a st op oa ob oc N th ra rb rc F fa f L p left took S T → ∀ Q : Sg → Prop, wX11_throwsAt m (nI p) T (fun r S => wX11_goOn m (nI p) r S (fun S => Q S)) → goB m (nI p) (op p) T Q := by
    intro T hT Q hQ
    unfold goB
    rcases ho with h | h | h <;> rw [h, if_neg (by decide), if_pos (by decide), if_pos (by decide), if_pos (by decide)] <;> exact hQ
  rcases ho with h | h | h
  · refine StepS_fail (k := k) (o := none) h0 (by omega) (fun Q hQ => ?_) (fun T hT => ⟨0, Or.inl ⟨rfl, rfl⟩, fun Q hQ => ref T hT Q (thr T hT _ ?_)⟩)
    · unfold wX9_workStep
      refine ⟨st p, rfl, s2, ?_⟩
      rw [s5, h, if_neg (by decide), if_pos rfl, s6, ek]
      exact r_fail hQ
    · rw [h, if_neg (by decide), if_pos rfl]
      exact r_goOnK hT.1.1.2.1 hT.1.2.2.1.2.2 hT.1.2.2.1.1.1 (by omega) hQ
  · refine StepS_fail (k := 6) (o := none) h0 (by omega) (fun Q hQ => ?_) (fun T hT => ⟨0, Or.inl ⟨rfl, rfl⟩, fun Q hQ => ref T hT Q (thr T hT _ ?_)⟩)
    · unfold wX9_workStep
      refine ⟨st p, rfl, s2, ?_⟩
      rw [s5, h, if_neg (by decide), if_neg (by decide), if_pos rfl]
      exact r_fail hQ
    · rw [h, if_pos rfl]
      exact r_goOnK (k := 6) hT.1.1.2.1 hT.1.2.2.1.2.2 hT.1.2.2.1.1.1 (by omega) hQ
  · obtain ⟨o, q1, q2⟩ := work_fail h0.1.2.2.1.1.1 _ h0.1.2.2.2.2.2.2.1
    refine StepS_fail (k := k) (o := o) h0 (by omega) (fun Q hQ => ?_) (fun T hT => ?_)
    · unfold wX9_workStep
      refine ⟨st p, rfl, s2, ?_⟩
      rw [s5, h, if_neg (by decide), if_neg (by decide), if_neg (by decide), if_pos rfl]
      unfold wX9_failureAtWork
      rw [h0.2.1.2.2.2.2, s6, ek]
      exact nm_e (q1 _ (r_fail hQ))
    · have hM := hT.1.1.2.1
      have e2 : aI T (m + 2) p = oa p := by rw [hT.1.1.2.2.2.2.2.2.1]
      obtain ⟨c, c1, c2⟩ := q2 T hM hd hT.1.2.2.2.2.2.2.1
      refine ⟨c, c1, fun Q hQ => ref T hT Q (thr T hT _ ?_)⟩
      rw [h, if_neg (by decide), if_neg (by decide)]
      refine c2 _ _ ?_
      unfold wX11_throwsAt_b90
      refine ⟨m + 2, MX_r705 hM, MX_t2 hM, by rw [MX_l2 hM]; exact vp_n (by omega) (by omega), ?_⟩
      rw [n_cl (by omega), e2, ek]
      exact r_mfail hM hT.1.2.2.1.2.2 hT.1.2.2.1.1.1 (r_goOnM hQ)
