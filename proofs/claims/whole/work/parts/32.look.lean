/-! stop, take a step, a number set -/
def sStop (x : Nat) (v : Int32) (S : Sg) : Sg := sFR (sFI S 258 (x + 10) v) 580 (x + 13) none
def tStop (m : Nat) (v : Int32) (T : Sg) : Sg := sFI (sFI T 750 m v) 739 m 0
theorem r_stop {x : Nat} {v : Int32} {S : Sg} {Q : Sg → Prop} (hS : SX x S) (h : Q (sStop x v S)) : wX9_stop (x + 13) v S Q := by
  unfold sStop at h
  exact ⟨x + 10, SX_r578 hS, SX_t10 hS, nm_e (nm_e h)⟩
theorem r_mstop {m : Nat} {v : Int32} {T : Sg} {Q : Sg → Prop} (h : Q (tStop m v T)) : wX11_stop m v T Q := by
  unfold tStop at h
  exact nm_e (nm_e h)
theorem stop_rel {x m n nn a : Nat} {st : Nat → Nat} {op oa ob oc : Nat → Int32} {N : Nat} {th ra rb rc : Nat → Nat} {F : Nat} {fa : Nat → Nat} {L : List FrT} {left took : Nat} {S T : Sg} (v : Int32) (h : Mid x m n nn a st op oa ob oc N th ra rb rc F fa L left took S T) : Ov x m n nn a st op oa ob oc left took (sStop x v S) (tStop m v T) := by
  obtain ⟨c1, c2, c3, c4, c5, -⟩ := h.2.2.2.1
  refine Ov_fin h ⟨rfl, rfl, rfl, rfl, rfl, rfl, fun k q hk => ?_⟩ ⟨rfl, rfl, rfl, rfl, rfl, rfl, fun k hk => ?_⟩ ?_ ?_ ?_ ?_ ?_
  · unfold sStop
    simp only [gs_FR, gs_FI]
    unfold vK at hk
    refine ⟨by rw [if_neg (by omega)], trivial, by rw [if_neg (by omega)]⟩
  · unfold tStop
    simp only [gs_FI]
    unfold uK at hk
    rw [if_neg (by omega), if_neg (by omega)]
  · unfold sStop tStop
    simp only [gs_FR, gs_FI]
    rw [if_pos ⟨trivial, trivial⟩, if_neg (by omega), if_pos ⟨trivial, trivial⟩]
  · unfold sStop tStop
    simp only [gs_FR, gs_FI]
    rw [c2, c4]
  · unfold sStop tStop
    simp only [gs_FR, gs_FI]
    rw [if_neg (by omega), if_neg (by omega), if_neg (by omega)]
    exact Or.inl ⟨c3, c5⟩
  · unfold sStop
    simp only [gs_FR, gs_FI]
    rw [if_pos ⟨trivial, trivial⟩]
  · unfold tStop
    simp only [gs_FI]
    rw [if_pos ⟨trivial, trivial⟩]
theorem nI_s1 (n : Nat) : nI (n + 1) - 1 = nI n := by rw [← nI_1]; simp
theorem r_takeStep {x left : Nat} {S : Sg} {Q : Int32 → Sg → Prop} (hS : SX x S) (hl : left < 2147483648) (h583 : fI S 583 (x + 13) = nI left) (h1 : ∀ l, left = l + 1 → Q 1 (sFI S 583 (x + 13) (nI l))) (h0 : left = 0 → Q 0 (sStop x 3 S)) : wX9_takeStep (x + 13) S Q := by
  unfold wX9_takeStep
  rw [h583]
  cases left with
  | zero =>
    rw [if_neg (by decide)]
    exact r_stop hS (h0 rfl)
  | succ l =>
    rw [if_pos (by rw [show (0 : Int32) = nI 0 from rfl, n_lt (by omega) (by omega)]; omega), nI_s1]
    exact nm_e (h1 l rfl)
theorem r_takes {m left took : Nat} {T : Sg} {Q : Int32 → Sg → Prop} (hl : left < 2147483648) (h746 : fI T 746 m = nI left) (h747 : fI T 747 m = nI took) (h1 : ∀ l, left = l + 1 → Q 1 (sFI (sFI T 746 m (nI l)) 747 m (nI (took + 1)))) (h0 : left = 0 → Q 0 (tStop m 3 T)) : wX11_takes m T Q := by
  unfold wX11_takes
  rw [h746]
  cases left with
  | zero =>
    rw [if_pos (by decide)]
    exact r_mstop (h0 rfl)
  | succ l =>
    rw [if_neg (by rw [show (0 : Int32) = nI 0 from rfl, n_eq (by omega) (by omega)]; omega), nI_s1]
    refine nm_e ?_
    have e : fI (sFI T 746 m (nI l)) 747 m = nI took := by simp only [gs_FI]; rw [if_neg (by omega)]; exact h747
    rw [e, nI_1]
    exact nm_e (h1 l rfl)
theorem Mid_num {x m n nn a : Nat} {st : Nat → Nat} {op oa ob oc : Nat → Int32} {N : Nat} {th ra rb rc : Nat → Nat} {F : Nat} {fa : Nat → Nat} {L : List FrT} {left took j : Nat} {v : Int64} {S T : Sg} (h : Mid x m n nn a st op oa ob oc N th ra rb rc F fa L left took S T) (hj : j < 8) : Mid x m n nn a st op oa ob oc N th ra rb rc F fa L left took (sAL S (x + 5) j v) (sAL T (m + 12) j v) := by
  obtain ⟨hTh, hNu, hHa, hRo, hGr⟩ := h.2.1
  refine Mid_H h ((SX_sAL _ _ _).mpr h.1.1) ⟨fun _ _ => ⟨rfl, rfl⟩, fun _ _ _ _ => ⟨rfl, rfl, rfl⟩, fun _ _ _ _ => rfl, fun i => ?_, fun _ => rfl⟩ ⟨rfl, rfl, rfl, fun _ _ _ _ _ => rfl, fun _ => rfl, fun _ _ => rfl, ?_, ?_⟩ h.2.2.2.2.2.2.2 h.2.2.2.2.2.1.2.2.2.1 ⟨⟨hTh.1, hTh.2.1, fun j' q1 q2 => ?_, hTh.2.2.2⟩, fun i hi => ?_, hHa, ⟨fun i hi => ?_, hRo.2⟩, hGr⟩
  · exact if_neg (fun z => by omega)
  · funext i; exact if_neg (fun z => by omega)
  · funext i; exact if_neg (fun z => by omega)
  · have e : aL (sAL T (m + 12) j v) (m + 15) j' = aL T (m + 15) j' := if_neg (fun z => by omega)
    rw [e]; exact hTh.2.2.1 j' q1 q2
  · simp only [gs_AL]
    by_cases z : i = j
    · rw [if_pos ⟨trivial, z⟩, if_pos ⟨trivial, z⟩]
    · rw [if_neg (fun w => z w.2), if_neg (fun w => z w.2)]; exact hNu i hi
  · unfold RRo1
    simp only [gs_AL]
    rcases hRo.1 i hi with q | ⟨q1, q2, q3, q4, r1, r2, r3, r4, r5, r6, r7, r8, r9, r10, r11⟩
    · exact Or.inl q
    · refine Or.inr ⟨q1, q2, q3, q4, r1, r2, r3, r4, r5, r6, r7, r8, r9, fun h => ?_, fun h => ?_⟩
      · obtain ⟨u1, u2, u3⟩ := r10 h
        exact ⟨u1, u2, fun j' hj' => by rw [if_neg (fun z => q2 z.1), if_neg (by omega)]; exact u3 j' hj'⟩
      · obtain ⟨u1, u2, u3⟩ := r11 h
        exact ⟨u1, u2, fun j' hj' => by rw [if_neg (by omega)]; exact u3 j' hj'⟩
/-! leaving with nothing to tell -/
theorem lv_go {x m n nn a : Nat} {st : Nat → Nat} {op oa ob oc : Nat → Int32} {N : Nat} {th ra rb rc : Nat → Nat} {F : Nat} {fa : Nat → Nat} {f : FrT} {L : List FrT} {left took k : Nat} {S T : Sg} (h : Mid x m n nn a st op oa ob oc N th ra rb rc F fa (f :: L) left took S T) (hk : f.2.2.1 = some k) (hB : kd op (some k) ≠ 0) (h739 : fI T 739 m = 1) : MW x m n nn a st op oa ob oc N th ra rb rc F fa L (bH (rH op oc n f.2.1) (b_at op oc n) k) left took (sGo x (bH (rH op oc n f.2.1) (b_at op oc n) k) (sPop x (L.head?.map (·.1)) L.length S)) (tOver m L.length (bH (rH op oc n f.2.1) (b_at op oc n) k) T) := by
  obtain ⟨g, L', eL, er, ep1, ep2⟩ := lv_link h.2.2.2.2.2.2.1 hk hB
  refine ⟨?_, ?_, ?_, ?_, ?_, ?_, g, L', eL, ep1, ep2⟩
  · unfold sGo sPop tOver
    exact Mid_W (Mid_pop (Mid_W h (WS_FR (by unfold wK; omega)) WT_rf)) (WS_tr (WS_FI (by unfold wK; omega)) (WS_FI (by unfold wK; omega))) (WT_FI (by unfold tK; omega))
  · unfold sGo; simp only [gs_FI]; rw [if_pos ⟨trivial, trivial⟩]
  · unfold sGo; simp only [gs_FI]; rw [if_neg (by omega), if_pos ⟨trivial, trivial⟩]
  · unfold tOver; simp only [gs_FI]; rw [if_pos ⟨trivial, trivial⟩]
  · unfold tOver; simp only [gs_FI]; rw [if_neg (by omega), if_neg (by omega)]; exact h739
  · unfold sGo sPop; simp only [gs_FI, gs_FR]; rw [if_pos ⟨trivial, trivial⟩]
theorem lv_class {x m n nn a : Nat} {st : Nat → Nat} {op oa ob oc : Nat → Int32} {N : Nat} {th ra rb rc : Nat → Nat} {F : Nat} {fa : Nat → Nat} {f : FrT} {L : List FrT} {left took k : Nat} {S T : Sg} (h : Mid x m n nn a st op oa ob oc N th ra rb rc F fa (f :: L) left took S T) (hk : f.2.2.1 = some k) (hB : kd op (some k) ≠ 0) (h584 : fI S 584 (x + 13) = 1) {Q : Sg → Prop} (hQ : Q (sGo x (bH (rH op oc n f.2.1) (b_at op oc n) k) (sPop x (L.head?.map (·.1)) L.length S))) : wX9_leaveBlock (x + 13) (some f.1) S Q := by
  obtain ⟨c1, c2, c3, c4, c5, c6, c7, c8, c9, c10, c11, -⟩ := fr_blk h.1 h.2.2.2.2.2.2.1.1 hk hB
  exact r_leave c3 c4 h.2.2.2.2.1.2.2.2.2.2.1 c6 c7 c11 (fun e he => by have := b_vn.2.2 e he; omega) c5 (fun _ => hQ) (fun w => absurd h584 w)
/-- a LOOP looks -/
theorem look_sim {x m n nn a : Nat} {st : Nat → Nat} {op oa ob oc : Nat → Int32} {N : Nat} {th ra rb rc : Nat → Nat} {F : Nat} {fa : Nat → Nat} {f : FrT} {L : List FrT} {left took k : Nat} {S T0 : Sg} (h0 : Mid x m n nn a st op oa ob oc N th ra rb rc F fa (f :: L) left took S T0) (hk : f.2.2.1 = some k) (h29 : op k = 29) (h580 : fR S 580 (x + 13) = some f.1) :
    ∃ S' L' p, (∀ Q : Sg → Prop, Q S' → wX9_look (x + 13) (some f.1) S Q) ∧ wtL op L' ≤ wtL op (f :: L) ∧ ∀ T, Mid x m n nn a st op oa ob oc N th ra rb rc F fa (f :: L) left took S T → fI T 739 m = 1 → ∃ T', (∀ Q : Sg → Prop, Q T' → wX11_looks m (nI k) T Q) ∧ MW x m n nn a st op oa ob oc N th ra rb rc F fa L' p left took S' T' := by
  have hB : kd op (some k) ≠ 0 := kd_isB.mpr (Or.inr (Or.inl h29))
  have hS := h0.1.1
  obtain ⟨c1, c2, c3, c4, c5, c6, c7, c8, c9, c10, c11, -⟩ := fr_blk h0.1 h0.2.2.2.2.2.2.1.1 hk hB
  obtain ⟨s1, s2, s3, s4, s5, s6, s7, s8, s9, s10, s11, s12, s13⟩ := St_st h0.1 c1
  obtain ⟨j, hj, ej⟩ := and7_of (oa k)
  have hd : L.length + 1 ≤ 200 := h0.2.2.2.2.1.2.2.2.2.2.2.2
  have cls : ∀ Q : Sg → Prop, (lg_cmp (aL S (x + 5) j) 0 ≤ 0 → wX9_leaveBlock (x + 13) (some f.1) (sFI S 584 (x + 13) 1) Q) → (¬ lg_cmp (aL S (x + 5) j) 0 ≤ 0 → Q (sGo x (k + 1) (sAL S (x + 5) j (aL S (x + 5) j - 1)))) → wX9_look (x + 13) (some f.1) S Q := by
    intro Q q1 q2
    unfold wX9_look
    refine ⟨f.1, rfl, c3, nm_e ⟨st k, c6, c7, x + 4, SX_r577 hS, SX_t4 hS, ?_⟩⟩
    rw [s6]
    refine r_numberOf hS ej hj ?_
    by_cases z : lg_cmp (aL S (x + 5) j) 0 ≤ 0
    · rw [if_pos z]
      exact nm_e (q1 z)
    · rw [if_neg z]
      refine ⟨x + 4, SX_r577 hS, SX_t4 hS, x + 5, SX_r192 hS, SX_t5 hS, ?_, ?_⟩
      · rw [s6, ej, SX_l5 hS]; exact vp_n hj (by omega)
      · rw [s6, ej, n_cl (by omega)]
        refine nm_e ?_
        intro S14 e14 S15 e15
        have e448 : fI (sAL S (x + 5) j (aL S (x + 5) j - 1)) 448 (st k) = nI k := by simp only [gs_AL]; exact s4
        rw [e448, nI_1] at e14
        have := q2 z
        unfold sGo at this
        rw [e15, e14]; exact this
  have ref : ∀ T, Mid x m n nn a st op oa ob oc N th ra rb rc F fa (f :: L) left took S T → ∀ Q : Sg → Prop, (lg_cmp (aL S (x + 5) j) 0 ≤ 0 → Q (tOver m L.length (bH (rH op oc n f.2.1) (b_at op oc n) k) T)) → (¬ lg_cmp (aL S (x + 5) j) 0 ≤ 0 → Q (sFI (sAL T (m + 12) j (aL S (x + 5) j - 1)) 738 m (nI (k + 1)))) → wX11_looks m (nI k) T Q := by
    intro T hT Q q1 q2
    have hM := hT.1.2.1
    obtain ⟨-, -, -, -, -, -, -, -, -, -, -, d1, d2, d3, d4, d5, d6, -⟩ := fr_blk hT.1 hT.2.2.2.2.2.2.1.1 hk hB
    have h2 : aI T (m + 2) k = oa k := by rw [hT.1.2.2.2.2.2.2.1]
    have hNu : aL S (x + 5) j = aL T (m + 12) j := hT.2.1.2.1 j hj
    have h737 : fI T 737 m = nI (L.length + 1) := hT.2.2.2.2.1.2.2.2.2.2.2.1
    unfold wX11_looks
    refine ⟨m + 2, MX_r705 hM, MX_t2 hM, by rw [MX_l2 hM]; exact vp_n (by omega) (by omega), nm_e ⟨m + 12, MX_r717 hM, MX_t12 hM, ?_, ?_⟩⟩
    · rw [n_cl (by omega), h2, ej, MX_l12 hM]; exact vp_n hj (by omega)
    · rw [n_cl (by omega), h2, ej, n_cl (by omega), ← hNu]
      by_cases z : lg_cmp (aL S (x + 5) j) 0 ≤ 0
      · rw [if_pos z, h737, nI_s1]
        intro S7 e7
        have hM7 : MX m S7 := by rw [e7]; simp only [MX_sFI]; exact hM
        refine ⟨m + 8, MX_r712 hM7, MX_t8 hM7, by rw [MX_l8 hM7]; exact vp_n (by omega) (by omega), ?_⟩
        have g8 : aI S7 (m + 8) k = nI (bH (rH op oc n f.2.1) (b_at op oc n) k) := by rw [e7]; simp only [gs_FI]; exact d6
        rw [g8]
        intro S10 e10
        have := q1 z
        unfold tOver at this
        rw [e10, e7]; exact this
      · rw [if_neg z]
        refine ⟨by rw [MX_l12 hM]; exact vp_n hj (by omega), by rw [MX_l12 hM]; exact vp_n hj (by omega), ?_⟩
        rw [nI_1]
        exact nm_e (nm_e (q2 z))
  by_cases z : lg_cmp (aL S (x + 5) j) 0 ≤ 0
  · have hW : WS x S (sFI S 584 (x + 13) 1) := WS_FI (by unfold wK; omega)
    have e584 : fI (sFI S 584 (x + 13) 1) 584 (x + 13) = 1 := by simp only [gs_FI]; rw [if_pos ⟨trivial, trivial⟩]
    have cl : ∀ Q : Sg → Prop, Q (sGo x (bH (rH op oc n f.2.1) (b_at op oc n) k) (sPop x (L.head?.map (·.1)) L.length (sFI S 584 (x + 13) 1))) → wX9_look (x + 13) (some f.1) S Q := fun Q hQ => cls Q (fun _ => lv_class (Mid_W h0 hW WT_rf) hk hB e584 hQ) (fun w => absurd z w)
    have re : ∀ T, Mid x m n nn a st op oa ob oc N th ra rb rc F fa (f :: L) left took S T → fI T 739 m = 1 → MW x m n nn a st op oa ob oc N th ra rb rc F fa L (bH (rH op oc n f.2.1) (b_at op oc n) k) left took (sGo x (bH (rH op oc n f.2.1) (b_at op oc n) k) (sPop x (L.head?.map (·.1)) L.length (sFI S 584 (x + 13) 1))) (tOver m L.length (bH (rH op oc n f.2.1) (b_at op oc n) k) T) := fun T hT h739 => lv_go (Mid_W hT hW WT_rf) hk hB h739
    refine ⟨_, L, _, cl, ?_, fun T hT h739 => ⟨_, fun Q hQ => ref T hT Q (fun _ => hQ) (fun w => absurd z w), re T hT h739⟩⟩
    show wtL op L ≤ wt1 op f + wtL op L
    omega
  · refine ⟨sGo x (k + 1) (sAL S (x + 5) j (aL S (x + 5) j - 1)), f :: L, k + 1, fun Q hQ => cls Q (fun w => absurd w z) (fun _ => hQ), Nat.le_refl _, fun T hT h739 => ⟨_, fun Q hQ => ref T hT Q (fun w => absurd w z) (fun _ => hQ), ?_, ?_, ?_, ?_, ?_, ?_, f, L, rfl, ?_⟩⟩
    · unfold sGo
      exact Mid_W (Mid_num hT hj) (WS_tr (WS_FI (by unfold wK; omega)) (WS_FI (by unfold wK; omega))) (WT_FI (by unfold tK; omega))
    · unfold sGo; simp only [gs_FI]; rw [if_pos ⟨trivial, trivial⟩]
    · unfold sGo; simp only [gs_FI]; rw [if_neg (by omega), if_pos ⟨trivial, trivial⟩]
    · simp only [gs_FI]; rw [if_pos ⟨trivial, trivial⟩]
    · simp only [gs_FI, gs_AL]; rw [if_neg (by omega)]; exact h739
    · unfold sGo; simp only [gs_FI, gs_AL]; exact h580
    · obtain ⟨-, ⟨b1, b2, b3, b4, b5⟩, -, -, ee, -, -⟩ := hT.2.2.2.2.2.2.1.1
      have g0 : f.2.2.2 = 0 := by
        rcases Nat.eq_zero_or_pos f.2.2.2 with q | q
        · exact q
        · have := b5 (by omega)
          rw [hk] at this
          unfold kd at this
          dsimp only at this
          rw [h29] at this
          exact absurd this (by decide)
      obtain ⟨-, -, -, -, e5, e6, e7⟩ := ee k hk
      obtain ⟨e8, e9⟩ := e5 hB
      obtain ⟨p1, p2, p3, p4⟩ := bR_part (bR_of b1) e9 b2 e6 e7
      obtain ⟨q, r, o, g⟩ := f
      dsimp only at *
      subst hk
      subst g0
      have w1 : fS op oc n (q, r, some k, 0) = pS (b_at op oc n) k 0 := by unfold fS; dsimp only; rw [if_neg hB]
      have w2 : fE op oc n (q, r, some k, 0) = pE (rH op oc n r) (b_at op oc n) k 0 := by unfold fE; dsimp only; rw [if_neg hB]
      rw [w1, w2]
      exact ⟨Nat.le_refl _, p2⟩
