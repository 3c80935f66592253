/-! one step, whatever it is; one turn of the reference -/
theorem step_all {x m n nn a : Nat} {st : Nat → Nat} {op oa ob oc : Nat → Int32} {N : Nat} {th ra rb rc : Nat → Nat} {F : Nat} {fa : Nat → Nat} {f : FrT} {L : List FrT} {p left took : Nat} {S T0 : Sg} (h0 : TK x m n nn a st op oa ob oc N th ra rb rc F fa f L p left took S T0) : StepS x m n nn a st op oa ob oc N th ra rb rc F fa f L p left took S := by
  obtain ⟨hp, hn⟩ := TK_p h0
  obtain ⟨s1, s2, s3, s4, s5, s6, s7, s8, s9, s10, -⟩ := St_st h0.1.1 hp
  obtain ⟨i, i1, hi⟩ := nI_of2 (M := 35) (n := 35) rfl (x := op p) (by rw [i_nlt]; exact s9) s10
  have lit : ∀ k : Nat, i = k → op p = nI k := fun k hk => by rw [hi, hk]
  by_cases c0 : i = 0
  · exact step_tell h0 (lit 0 c0)
  by_cases c1 : i ≤ 6
  · exact step_reckon h0 hi (by omega) c1
  by_cases c2 : i = 7
  · exact step_make h0 (lit 7 c2)
  by_cases c3 : i ≤ 10
  · exact step_row h0 hi (by omega) c3
  by_cases c4 : i ≤ 13
  · exact step_grid h0 hi (by omega) c4
  by_cases c5 : i ≤ 18
  · exact step_hand h0 hi (by omega) c5
  by_cases c6 : i ≤ 21
  · exact step_tool h0 hi (by omega) c6
  by_cases c22 : i = 22
  · exact step_throw h0 (Or.inl (lit 22 c22))
  by_cases c23 : i = 23
  · exact step_throw h0 (Or.inr (Or.inl (lit 23 c23)))
  by_cases c24 : i = 24
  · exact step_throw h0 (Or.inr (Or.inr (lit 24 c24)))
  by_cases c25 : i = 25
  · exact step_block h0 (Or.inl (lit 25 c25))
  by_cases c26 : i = 26
  · exact step_skip h0 (Or.inl (lit 26 c26))
  by_cases c27 : i = 27
  · exact step_skip h0 (Or.inr (Or.inl (lit 27 c27)))
  by_cases c28 : i = 28
  · exact step_skip h0 (Or.inr (Or.inr (Or.inl (lit 28 c28))))
  by_cases c29 : i = 29
  · exact step_block h0 (Or.inr (Or.inl (lit 29 c29)))
  by_cases c30 : i = 30
  · exact step_block h0 (Or.inr (Or.inr (lit 30 c30)))
  by_cases c31 : i = 31
  · exact step_skip h0 (Or.inr (Or.inr (Or.inr (lit 31 c31))))
  by_cases c32 : i = 32
  · exact step_break h0 3 (Or.inl rfl) (Or.inl ⟨lit 32 c32, rfl⟩)
  by_cases c33 : i = 33
  · exact step_break h0 4 (Or.inr rfl) (Or.inr ⟨lit 33 c33, rfl⟩)
  by_cases c34 : i = 34
  · exact step_return h0 (lit 34 c34)
  · exact step_call h0 (lit 35 (by omega))
theorem r_partEnd {x m n nn a : Nat} {st : Nat → Nat} {op oa ob oc : Nat → Int32} {N : Nat} {th ra rb rc : Nat → Nat} {F : Nat} {fa : Nat → Nat} {f : FrT} {L : List FrT} {left took : Nat} {S T : Sg} (h : Mid x m n nn a st op oa ob oc N th ra rb rc F fa (f :: L) left took S T) {Q : Int32 → Sg → Prop} (hQ : Q (nI (fE op oc n f)) T) : wX11_partEnd m T Q := by
  have hM := h.1.2.1
  have hd : L.length + 1 ≤ 200 := h.2.2.2.2.1.2.2.2.2.2.2.2
  have h737 : fI T 737 m = nI (L.length + 1) := h.2.2.2.2.1.2.2.2.2.2.2.1
  have hFR := h.2.2.2.2.2.2.1.1
  obtain ⟨-, ⟨b1, b2, b3, b4, b5⟩, c22, -, ee, -, -⟩ := id hFR
  have v20 : vp_in (nI L.length) (ln T (m + 20)) := by rw [MX_l20 hM]; exact vp_n (by omega) (by omega)
  have v21 : vp_in (nI L.length) (ln T (m + 21)) := by rw [MX_l21 hM]; exact vp_n (by omega) (by omega)
  have v22 : vp_in (nI L.length) (ln T (m + 22)) := by rw [MX_l22 hM]; exact vp_n (by omega) (by omega)
  have v23 : vp_in (nI L.length) (ln T (m + 23)) := by rw [MX_l23 hM]; exact vp_n (by omega) (by omega)
  unfold wX11_partEnd
  rw [h737, nI_s1]
  refine nm_e ⟨m + 20, MX_r729 hM, MX_t20 hM, v20, ?_⟩
  rw [n_cl (by omega), b3]
  by_cases k0 : kd op f.2.2.1 = 0
  · rw [k0, if_pos (show nI 0 = 0 from rfl)]
    refine ⟨m + 22, MX_r731 hM, MX_t22 hM, v22, ?_⟩
    rw [c22 k0]
    have e : fE op oc n f = rH op oc n f.2.1 := by
      obtain ⟨q, r, o, g⟩ := f
      cases o with
      | none => rfl
      | some k => unfold fE; dsimp only; rw [if_pos k0]
    rw [e] at hQ
    exact hQ
  · obtain ⟨q, r, o, g⟩ := f
    cases o with
    | none => exact absurd rfl k0
    | some k =>
      dsimp only at *
      obtain ⟨c1, c2, c3, c4, c5, c6, c7, c8, c9, c10, c11, d1, d2, d3, d4, d5, d6, d7, d8, d9⟩ := fr_blk (k := k) h.1 hFR rfl k0
      dsimp only at d5 d7 d8 d9
      have hkd : kd op (some k) ≤ 3 := by
        unfold kd; dsimp only
        split
        · omega
        · split
          · omega
          · split <;> omega
      have eF : fE op oc n (q, r, some k, g) = pE (rH op oc n r) (b_at op oc n) k g := by unfold fE; dsimp only; rw [if_neg k0]
      rw [eF] at hQ
      rw [if_neg (show ¬ nI (kd op (some k)) = 0 from n_ne (k := 0) (by omega) (by omega) k0)]
      refine ⟨m + 21, MX_r730 hM, MX_t21 hM, v21, ?_⟩
      rw [d2]
      refine nm_e ⟨m + 5, MX_r709 hM, MX_t5 hM, by rw [MX_l5 hM]; exact vp_n (by omega) (by omega), ?_⟩
      rw [n_cl (by omega), d5]
      refine nm_e ⟨v20, ?_⟩
      by_cases k1 : kd op (some k) = 1
      · rw [k1, if_pos (show nI 1 = 1 from rfl)]
        refine ⟨m + 23, MX_r732 hM, MX_t23 hM, v23, ?_⟩
        rw [b4]
        by_cases g2 : g = 2
        · subst g2
          rw [if_pos (show nI 2 = 2 from rfl)]
          exact hQ
        · rw [if_neg (show ¬ nI g = 2 from n_ne (k := 2) (by omega) (by omega) g2)]
          refine ⟨m + 7, MX_r711 hM, MX_t7 hM, by rw [MX_l7 hM]; exact vp_n (by omega) (by omega), ?_⟩
          rw [d4]
          have b78 : ∀ v : Int32, v = nI (tE (rH op oc n r) (b_at op oc n) k) → wX11_partEnd_b78 m (nI L.length) (nI k) v T Q := by
            intro v hv
            unfold wX11_partEnd_b78
            refine ⟨m + 23, MX_r732 hM, MX_t23 hM, v23, ?_⟩
            rw [n_cl (by omega), b4]
            by_cases g0 : g = 0
            · subst g0
              rw [if_pos (show nI 0 = 0 from rfl)]
              refine ⟨m + 6, MX_r710 hM, MX_t6 hM, by rw [MX_l6 hM]; exact vp_n (by omega) (by omega), ?_⟩
              rw [n_cl (by omega), d3]
              unfold pE at hQ
              rw [if_pos rfl] at hQ
              cases z : (b_at op oc n).2.1 k with
              | none =>
                rw [z] at hQ
                rw [if_pos (by decide), hv]
                exact hQ
              | some e =>
                rw [z] at hQ
                have := b_vn.1 e z
                rw [show opI (some e) = nI e from rfl, if_neg (n_neg (by omega))]
                exact ⟨by rw [MX_l6 hM]; exact vp_n (by omega) (by omega), hQ⟩
            · rw [if_neg (show ¬ nI g = 0 from n_ne (k := 0) (by omega) (by omega) g0), hv]
              unfold pE at hQ
              rw [if_neg g0, if_pos (by omega)] at hQ
              exact hQ
          cases z : (b_at op oc n).2.2.1 k with
          | none =>
            rw [if_pos (by decide)]
            exact b78 _ (by unfold tE; rw [z]; rfl)
          | some e =>
            have := b_vn.2.1 e z
            rw [show opI (some e) = nI e from rfl, if_neg (n_neg (by omega))]
            exact ⟨by rw [MX_l7 hM]; exact vp_n (by omega) (by omega), b78 _ (by unfold tE; rw [z]; rfl)⟩
      · rw [if_neg (show ¬ nI (kd op (some k)) = 1 from n_ne (k := 1) (by omega) (by omega) k1)]
        have g0 : g = 0 := by
          rcases Nat.eq_zero_or_pos g with y | y
          · exact y
          · exact absurd (b5 (by omega)) k1
        subst g0
        have n25 : ¬ op k = 25 := by
          intro y
          apply k1
          unfold kd; dsimp only; rw [if_pos y]
        obtain ⟨-, t1, t2⟩ := bR_of d7 k d9
        have z1 : (b_at op oc n).2.1 k = none := by
          cases y : (b_at op oc n).2.1 k with
          | none => rfl
          | some e => exact absurd (t1 e y).1 n25
        have z2 : (b_at op oc n).2.2.1 k = none := by
          cases y : (b_at op oc n).2.2.1 k with
          | none => rfl
          | some e => exact absurd (t2 e y).1 n25
        unfold pE tE at hQ
        rw [if_pos rfl, z1, z2] at hQ
        exact hQ
theorem turn_plain {x q : Nat} {nv : Int32} {S : Sg} (h580 : fR S 580 (x + 13) = some q) (hq : tg S q = 2) (h584 : fI S 584 (x + 13) = 0) (h : fI S 67 q ≤ fI S 582 (x + 13)) : cR x 0 1 nv S (sFI S 584 (x + 13) 1) := by
  intro fu g j Q hj hQ
  refine ⟨fu + 1, ?_⟩
  unfold wX9_workRun_b33
  rw [if_neg (no_M (by omega)), if_neg (by rw [h580]; exact fun w => by cases w), h580]
  intro y11 e11
  subst e11
  refine ⟨q, rfl, hq, ?_⟩
  rw [if_pos h, if_pos h584, nI_1]
  exact nm_e (nm_e hQ)
theorem turn_step {x q p e n sp left : Nat} {nv : Int32} {S : Sg} (hS : SX x S) (h580 : fR S 580 (x + 13) = some q) (hq : tg S q = 2) (h584 : fI S 584 (x + 13) = 0) (h67 : fI S 67 q = nI e) (h582 : fI S 582 (x + 13) = nI p) (hpe : p < e) (he : e ≤ 2000) (h387 : fI S 387 (x + 1) = nI n) (hpn : p < n) (hn : n ≤ 2000) (hsp : aR S (x + 2) p = some sp) (h583 : fI S 583 (x + 13) = nI left) (hl : left ≤ 1000) : (left = 0 → cR x 0 1 nv S (sStop x 3 S)) ∧ ∀ l S1, left = l + 1 → (∀ Q : Sg → Prop, Q S1 → wX9_workStep (x + 13) (some q) (some sp) (sFI S 583 (x + 13) (nI l)) Q) → cR x 1 1 nv S S1 := by
  have head : ∀ (fu g j : Nat) (Q : Int32 → Sg → Prop), j < 1000000 → wX9_takeStep (x + 13) S (fun (r26 : Int32) (S27 : Sg) => (if r26 = 0 then ∀ y29 : Int32, y29 = nI j + (1) → wX9_workRun_b33 fu g (x + 13) nv y29 S27 Q else ∃ g30 : Nat, g = g30 + 1 ∧ wX9_workStep (x + 13) (some q) (some sp) S27 (fun (S32 : Sg) => ∀ y33 : Int32, y33 = nI j + (1) → wX9_workRun_b33 fu g30 (x + 13) nv y33 S32 Q))) → wX9_workRun_b33 (fu + 1) g (x + 13) nv (nI j) S Q := by
    intro fu g j Q hj hQ
    unfold wX9_workRun_b33
    rw [if_neg (no_M hj), if_neg (by rw [h580]; exact fun w => by cases w), h580]
    intro y11 e11
    subst e11
    refine ⟨q, rfl, hq, ?_⟩
    rw [h67, h582, if_neg (by rw [n_le (by omega) (by omega)]; omega)]
    refine ⟨x + 1, SX_r576 hS, SX_t1 hS, ?_⟩
    unfold wX6_stepAt
    rw [if_neg (n_neg (by omega)), h387, if_neg (by rw [n_le (by omega) (by omega)]; omega), if_neg (by rw [show (2000 : Int32) = nI 2000 from rfl, n_le (by omega) (by omega)]; omega)]
    refine ⟨x + 2, SX_r384 hS, SX_t2 hS, by rw [SX_l2 hS]; exact vp_n (by omega) (by omega), ?_⟩
    rw [n_cl (by omega), hsp]
    dsimp only
    rw [if_pos h584, if_neg (by intro w; cases w)]
    exact hQ
  constructor
  · intro hl0 fu g j Q hj hQ
    refine ⟨fu + 1, head fu (g + 0) j Q (by omega) (r_takeStep hS (by omega) h583 (fun l w => by omega) (fun _ => ?_))⟩
    rw [if_pos rfl, nI_1]
    exact nm_e hQ
  · intro l S1 hl1 hw fu g j Q hj hQ
    refine ⟨fu + 1, head fu (g + 1) j Q (by omega) (r_takeStep hS (by omega) h583 (fun l' w => ?_) (fun w => by omega))⟩
    have el : l' = l := by omega
    subst el
    rw [if_neg (by decide), nI_1]
    exact ⟨g, rfl, hw _ (nm_e hQ)⟩
theorem goes_sim {x m n nn a : Nat} {st : Nat → Nat} {op oa ob oc : Nat → Int32} {N : Nat} {th ra rb rc : Nat → Nat} {F : Nat} {fa : Nat → Nat} {L : List FrT} {p left took : Nat} {S T0 : Sg} (h0 : MW x m n nn a st op oa ob oc N th ra rb rc F fa L p left took S T0) :
    ∃ S' o N' th' ra' rb' rc' F' fa' L' p' left' took' w t, cR x w t (nI nn) S S' ∧ t ≤ 203 ∧ (o = 1 ∨ o = 2) ∧ w ≤ left ∧ (o = 1 → mu op left' L' < mu op left L ∧ w + left' ≤ left) ∧ ∀ T, MW x m n nn a st op oa ob oc N th ra rb rc F fa L p left took S T → ∃ T', (∀ Q : Sg → Prop, Q T' → wX11_goes m T Q) ∧ Res x m n nn a st op oa ob oc N' th' ra' rb' rc' F' fa' o L' p' left' took' S' T' := by
  obtain ⟨hM0, w1, w2, w3, w4, w5, f, L0, rfl, w6, w7⟩ := id h0
  have hS := hM0.1.1
  have hstk := hM0.2.2.2.2.2.2.1
  have hd : L0.length + 1 ≤ 200 := hM0.2.2.2.2.1.2.2.2.2.2.2.2
  obtain ⟨p1, p2, p3, p4, p5⟩ := fr_part hstk.1
  obtain ⟨n1, n2, -⟩ := St_n hM0.1
  have h580 : fR S 580 (x + 13) = some f.1 := w5
  have ht := hstk.1.1.1
  have h67 := hstk.1.1.2.2.2.1
  by_cases c : p = fE op oc n f
  · -- the part is over
    have t1 : cR x 0 1 (nI nn) S (sFI S 584 (x + 13) 1) := turn_plain h580 ht w1 (by rw [h67, w2, c, n_le (by omega) (by omega)]; omega)
    have hMC : ∀ T, MW x m n nn a st op oa ob oc N th ra rb rc F fa (f :: L0) p left took S T → MC x m n nn a st op oa ob oc N th ra rb rc F fa (f :: L0) left took (sFI S 584 (x + 13) 1) (sFI T 740 m 0) := by
      intro T hT
      refine ⟨Mid_W hT.1 (WS_FI (by unfold wK; omega)) (WT_FI (by unfold tK; omega)), Or.inl ⟨?_, ?_⟩, ?_, ?_, fun w => by cases w⟩
      · simp only [gs_FI]; rw [if_pos ⟨trivial, trivial⟩]
      · simp only [gs_FI]; rw [if_pos ⟨trivial, trivial⟩]
      · simp only [gs_FI]; rw [if_neg (by omega)]; exact hT.2.2.2.2.1
      · simp only [gs_FI]; exact h580
    obtain ⟨S', o, L', p', left', took', t, q1, q2, q3, q4, q5⟩ := comes_sim (nI nn) _ _ _ _ _ (hMC T0 h0)
    rw [List.length_cons] at q2
    refine ⟨S', o, N, th, ra, rb, rc, F, fa, L', p', left', took', 0 + 0, 1 + t, cR_tr t1 q1, by omega, q3, by omega, fun ho => ?_, fun T hT => ?_⟩
    · obtain ⟨v1, v2, v3⟩ := q4 ho
      exact ⟨v2 (by simp only [gs_FI]; rw [if_pos ⟨trivial, trivial⟩]), by omega⟩
    · obtain ⟨T', r1, r2⟩ := q5 _ (hMC T hT)
      refine ⟨T', fun Q hQ => ?_, r2⟩
      unfold wX11_goes
      refine r_partEnd hT.1 ?_
      rw [hT.2.2.2.1, c, if_pos rfl]
      refine nm_e ?_
      unfold wX11_comes
      exact r1 0 (by rw [List.length_cons]; omega) _ hQ
  · have hpe : p < fE op oc n f := by omega
    obtain ⟨k1, k2, k3, k4, k5, -⟩ := hM0.2.2.2.2.1
    obtain ⟨s1, s2, s3, s4, s5, -⟩ := St_st hM0.1 (show p < n by omega)
    obtain ⟨ts0, ts1⟩ := turn_step (nv := nI nn) hS h580 ht w1 h67 w2 hpe (by omega) n2 (show p < n by omega) n1 s1 k3 (by omega)
    have ref : ∀ T, MW x m n nn a st op oa ob oc N th ra rb rc F fa (f :: L0) p left took S T → ∀ Q : Sg → Prop, wX11_takes m T (fun (r4 : Int32) (S5 : Sg) => (if r4 = 0 then Q S5 else ∀ y7 : Int32, y7 = (fI S5 738 m) → ∃ a8 : Nat, (fR S5 704 m) = some a8 ∧ tg S5 a8 = 13 ∧ vp_in y7 (ln S5 a8) ∧ ∀ y10 : Int32, y10 = (aI S5 a8 (y7).toNatClampNeg) → goB m y7 y10 S5 Q)) → wX11_goes m T Q := by
      intro T hT Q hQ
      unfold wX11_goes
      refine r_partEnd hT.1 ?_
      rw [hT.2.2.2.1, if_neg (n_ne (by omega) (by omega) c)]
      exact hQ
    cases left with
    | zero =>
      refine ⟨sStop x 3 S, 2, N, th, ra, rb, rc, F, fa, f :: L0, p, 0, took, 0, 1, ts0 rfl, by omega, Or.inr rfl, by omega, fun w => absurd w (by decide), fun T hT => ⟨tStop m 3 T, fun Q hQ => ref T hT Q ?_, Or.inr (Or.inr ⟨rfl, stop_rel 3 hT.1⟩)⟩⟩
      obtain ⟨-, -, -, e4, e5, -⟩ := hT.1.2.2.2.2.1
      refine r_takes (by omega) e4 e5 (fun l hl => by omega) (fun _ => ?_)
      rw [if_pos rfl]
      exact hQ
    | succ l =>
      have hTK : ∀ T, MW x m n nn a st op oa ob oc N th ra rb rc F fa (f :: L0) p (l + 1) took S T → TK x m n nn a st op oa ob oc N th ra rb rc F fa f L0 p l (took + 1) (sFI S 583 (x + 13) (nI l)) (sFI (sFI T 746 m (nI l)) 747 m (nI (took + 1))) := by
        intro T hT
        obtain ⟨q, q1, q2, q3, -⟩ := hT.1.2.2.2.1.2.2.2.2.2.2.1
        have hF := hT.1.2.2.1.2.1
        have hN := hT.1.2.2.2.2.2.1.2.2.2.1
        refine ⟨Mid_take hT.1, ⟨?_, ?_, ?_, ?_, ?_⟩, ⟨w6, hpe⟩, by omega, by omega, q, by omega, ?_⟩
        · simp only [gs_FI]; rw [if_neg (by omega)]; exact w1
        · simp only [gs_FI]; rw [if_neg (by omega)]; exact w2
        · simp only [gs_FI]; rw [if_neg (by omega), if_neg (by omega)]; exact hT.2.2.2.1
        · simp only [gs_FI]; rw [if_neg (by omega), if_neg (by omega)]; exact hT.2.2.2.2.1
        · simp only [gs_FI]; exact h580
        · simp only [gs_FI]; rw [if_neg (by omega), if_neg (by omega)]; exact q3
      obtain ⟨S1, S', t, o, N', th', ra', rb', rc', F', fa', L', p', left', took', q1, q2, q3, q4, q5, q6⟩ := step_all (hTK T0 h0)
      refine ⟨S', o, N', th', ra', rb', rc', F', fa', L', p', left', took', 1 + 0, 1 + t, cR_tr (ts1 l S1 rfl q1) q2, by omega, q4, by omega, fun ho => ?_, fun T hT => ?_⟩
      · obtain ⟨v1, v2⟩ := q5 ho
        unfold mu at v1 ⊢
        exact ⟨by omega, by omega⟩
      · obtain ⟨T', r1, r2⟩ := q6 _ (hTK T hT)
        refine ⟨T', fun Q hQ => ref T hT Q ?_, r2⟩
        obtain ⟨-, -, -, e4, e5, -⟩ := hT.1.2.2.2.2.1
        refine r_takes (by omega) e4 e5 (fun l' hl => ?_) (fun w => by omega)
        have el : l' = l := by omega
        subst el
        rw [if_neg (by decide)]
        have hM5 : MX m (sFI (sFI T 746 m (nI l')) 747 m (nI (took + 1))) := (hTK T hT).1.1.2.1
        rw [(hTK T hT).2.1.2.2.1]
        refine nm_e ⟨m + 1, MX_r704 hM5, MX_t1 hM5, by rw [MX_l1 hM5]; exact vp_n (by omega) (by omega), ?_⟩
        rw [n_cl (by omega), (hTK T hT).1.1.2.2.2.2.2.1]
        exact nm_e (r1 Q hQ)
