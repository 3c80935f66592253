/-! a step is taken; the house changes; the run ends -/
theorem Mid_take {x m n nn a : Nat} {st : Nat → Nat} {op oa ob oc : Nat → Int32} {N : Nat} {th ra rb rc : Nat → Nat} {F : Nat} {fa : Nat → Nat} {L : List FrT} {l took : Nat} {S T : Sg} (h : Mid x m n nn a st op oa ob oc N th ra rb rc F fa L (l + 1) took S T) : Mid x m n nn a st op oa ob oc N th ra rb rc F fa L l (took + 1) (sFI S 583 (x + 13) (nI l)) (sFI (sFI T 746 m (nI l)) 747 m (nI (took + 1))) := by
  obtain ⟨h1, h2, ⟨h3, h3', h3''⟩, h4, h5, h6, h7, h8⟩ := h
  have hS := h1.1
  have cs : CAg x S (sFI S 583 (x + 13) (nI l)) := CAg_FI (by unfold cK; omega)
  have ct : TCA m T (sFI (sFI T 746 m (nI l)) 747 m (nI (took + 1))) := TCA_tr (TCA_FI (by decide)) (TCA_FI (by decide))
  have ni : ∀ k q, (k ≠ 583 ∨ q ≠ x + 13) → fI (sFI S 583 (x + 13) (nI l)) k q = fI S k q := fun k q hk => by simp only [gs_FI]; rw [if_neg (by omega)]
  have nt : ∀ k, k ≠ 746 → k ≠ 747 → fI (sFI (sFI T 746 m (nI l)) 747 m (nI (took + 1))) k m = fI T k m := fun k hk hk2 => by simp only [gs_FI]; rw [if_neg (by omega), if_neg (by omega)]
  have si : fI (sFI S 583 (x + 13) (nI l)) 583 (x + 13) = nI l := by simp only [gs_FI]; rw [if_pos ⟨trivial, trivial⟩]
  have ti : fI (sFI (sFI T 746 m (nI l)) 747 m (nI (took + 1))) 746 m = nI l := by simp only [gs_FI]; rw [if_neg (by omega), if_pos ⟨trivial, trivial⟩]
  have ti2 : fI (sFI (sFI T 746 m (nI l)) 747 m (nI (took + 1))) 747 m = nI (took + 1) := by simp only [gs_FI]; rw [if_pos ⟨trivial, trivial⟩]
  have gs := gs_FI S 583 (x + 13) (nI l)
  have gt : tg (sFI (sFI T 746 m (nI l)) 747 m (nI (took + 1))) = tg T ∧ fL (sFI (sFI T 746 m (nI l)) 747 m (nI (took + 1))) = fL T ∧ aI (sFI (sFI T 746 m (nI l)) 747 m (nI (took + 1))) = aI T ∧ aL (sFI (sFI T 746 m (nI l)) 747 m (nI (took + 1))) = aL T := by simp only [gs_FI]; exact ⟨trivial, trivial, trivial, trivial⟩
  have hS' : SX x (sFI S 583 (x + 13) (nI l)) := (SX_sFI _ _ _).mpr hS
  generalize sFI S 583 (x + 13) (nI l) = S' at *
  generalize sFI (sFI T 746 m (nI l)) 747 m (nI (took + 1)) = T' at *
  obtain ⟨g1, g2, g3, g4, g5, g6, g7, g8, -⟩ := gs
  obtain ⟨k1, k3, k5, k6⟩ := gt
  refine ⟨St_C h1 hS' cs ct, Ho_C h2 hS cs ct, ⟨RFa_keep h3 (fun q hq => ⟨by rw [g1]; exact hq, ni _ _ (by omega), by rw [g4]⟩) ⟨by rw [k5], by rw [k5]⟩, by omega, (nt 745 (by omega) (by omega)).trans h3''⟩, ?_, ?_, ?_, ?_, ?_⟩
  · obtain ⟨c1, c2, c3, c4, c5, ⟨o, o1, o2, o3, o4⟩, ⟨q, q1, q2, q3, q4⟩, c8, c9⟩ := h4
    refine ⟨(ni _ _ (by omega)).trans c1, by rw [g3]; exact c2, by rw [g4]; exact c3, by rw [k3]; exact c4, (nt _ (by omega) (by omega)).trans c5, ⟨o, o1, (ni _ _ (by omega)).trans o2, (nt _ (by omega) (by omega)).trans o3, fun i hi => by rw [g6, k6]; exact o4 i hi⟩, ⟨q, by omega, (ni _ _ (by omega)).trans q2, (nt _ (by omega) (by omega)).trans q3, fun i hi => by rw [g5, k5]; exact q4 i hi⟩, ?_, ?_⟩
    · rw [ni _ _ (by omega), nt _ (by omega) (by omega)]; exact c8
    · rw [ni _ _ (by omega), nt _ (by omega) (by omega)]; exact c9
  · obtain ⟨c1, c2, c3, c4, c5, c6, c7, c8⟩ := h5
    exact ⟨by omega, c2, si, ti, ti2, (ni _ _ (by omega)).trans c6, (nt _ (by omega) (by omega)).trans c7, c8⟩
  · obtain ⟨c1, c2, c3, c4, c5⟩ := h6
    refine ⟨(ni _ _ (by omega)).trans c1, (nt _ (by omega) (by omega)).trans c2, c3, by omega, ?_⟩
    rw [ni _ _ (by omega), nt _ (by omega) (by omega)]; exact c5
  · refine StkR_keep (Nat.le_refl _) (fun _ _ _ => rfl) L (fun g hg => ⟨by rw [g1], fun k _ _ => ⟨ni _ _ (by omega), by rw [g3], by rw [g4]⟩⟩) (fun i _ => ⟨fun k _ _ => by rw [k5], by rw [k6]⟩) h7
  · unfold fre; rw [g1, g8]; exact h8
def hK (k : Nat) : Prop := k < 128 ∨ (256 ≤ k ∧ k < 320) ∨ (384 ≤ k ∧ k < 512) ∨ 576 ≤ k
/-- a change of the house -/
def HAg (x : Nat) (S S' : Sg) : Prop := (∀ q, tg S q ≠ 0 → tg S' q = tg S q ∧ ln S' q = ln S q) ∧ (∀ k q, tg S q ≠ 0 → hK k → fI S' k q = fI S k q ∧ fL S' k q = fL S k q ∧ fR S' k q = fR S k q) ∧ (∀ q i, tg S q ≠ 0 → q ≠ x + 9 → aI S' q i = aI S q i) ∧ (∀ i, aL S' (x + 11) i = aL S (x + 11) i) ∧ (∀ i, aR S' (x + 2) i = aR S (x + 2) i)
def THA (m : Nat) (T T' : Sg) : Prop := tg T' = tg T ∧ ln T' = ln T ∧ fR T' = fR T ∧ (∀ k, k ≠ 721 → k ≠ 725 → k ≠ 726 → k ≠ 727 → fI T' k m = fI T k m) ∧ (∀ k, fL T' k m = fL T k m) ∧ (∀ k, k ∉ [13, 14, 16, 17, 19] → aI T' (m + k) = aI T (m + k)) ∧ aL T' (m + 26) = aL T (m + 26) ∧ aL T' (m + 30) = aL T (m + 30)
theorem MX_THA {m : Nat} {T T' : Sg} (h : THA m T T') (hM : MX m T) : MX m T' := by
  obtain ⟨a1, a2, a3, -⟩ := h
  unfold MX
  rw [a1, a2, a3]
  exact hM
theorem St_H {x m n : Nat} {st : Nat → Nat} {op oa ob oc : Nat → Int32} {S S' T T' : Sg} (h : St x m n st op oa ob oc S T) (hS : SX x S') (hc : HAg x S S') (ht : THA m T T') : St x m n st op oa ob oc S' T' := by
  obtain ⟨h1, h2, h3, h4, h5, h6, h7, h8, h9⟩ := h
  have hM' := MX_THA ht h2
  obtain ⟨a1, a2, a3, a4, a4', a5, a6, a7⟩ := ht
  obtain ⟨c1, c2, c3, c4, c5⟩ := hc
  have t1 : tg S (x + 1) ≠ 0 := by rw [SX_t1 h1]; decide
  have t3 : tg S (x + 3) ≠ 0 := by rw [SX_t3 h1]; decide
  have t14 : tg S (x + 14) ≠ 0 := by rw [SX_t14 h1]; decide
  have f : ∀ k q, tg S q ≠ 0 → 384 ≤ k → k < 512 → fI S' k q = fI S k q := fun k q q1 q2 q3 => (c2 k q q1 (by unfold hK; omega)).1
  have fr : ∀ k q, tg S q ≠ 0 → 384 ≤ k → k < 512 → fR S' k q = fR S k q := fun k q q1 q2 q3 => (c2 k q q1 (by unfold hK; omega)).2.2
  have ts : ∀ i, i < n → tg S (st i) ≠ 0 := fun i hi => by rw [(h3.2.2.2.1 i hi).2.1]; decide
  have b : ∀ k, 1 ≤ k → k ≤ 12 → aI T' (m + k) = aI T (m + k) := fun k q1 q2 => a5 k (by simp; omega)
  refine ⟨hS, hM', ?_, ?_, ?_, (b 1 (by omega) (by omega)).trans h6, (b 2 (by omega) (by omega)).trans h7, (b 3 (by omega) (by omega)).trans h8, (b 4 (by omega) (by omega)).trans h9⟩
  · obtain ⟨s1, s2, s3, s4, s5⟩ := h3
    refine ⟨s1, (f _ _ t1 (by omega) (by omega)).trans s2, (a4 708 (by omega) (by omega) (by omega) (by omega)).trans s3, fun i hi => ?_, s5⟩
    obtain ⟨u1, u2, u3, u4, u5, u6, u7, u8, u9⟩ := s4 i hi
    have tq := ts i hi
    rw [c5, (c1 _ tq).1, f _ _ tq (by omega) (by omega), f _ _ tq (by omega) (by omega), f _ _ tq (by omega) (by omega), f _ _ tq (by omega) (by omega), f _ _ tq (by omega) (by omega), b 1 (by omega) (by omega), b 2 (by omega) (by omega), b 3 (by omega) (by omega), b 4 (by omega) (by omega)]
    exact ⟨u1, u2, u3, u4, u5, u6, u7, u8, u9⟩
  · unfold RBl at h4 ⊢
    rw [b 1 (by omega) (by omega), b 4 (by omega) (by omega)]
    obtain ⟨b0, b1, b2, b3, b4⟩ := h4
    refine ⟨(f _ _ t14 (by omega) (by omega)).trans b0, ?_, fun i hi => ?_, (f _ _ t1 (by omega) (by omega)).trans b3, fun r hr => (c3 _ _ t3 (by omega)).trans (b4 r hr)⟩
    · rw [fr _ _ t1 (by omega) (by omega)]
      exact chn_cong _ _ (fun z hz => ⟨rfl, fr _ _ (ts z ((b_lt _ _ n).1 z hz)) (by omega) (by omega)⟩) b1
    · have tq := ts i hi
      rw [f _ _ tq (by omega) (by omega), f _ _ tq (by omega) (by omega), f _ _ tq (by omega) (by omega)]
      exact b2 i hi
  · unfold LY LYr LYb bW at h5 ⊢
    rw [a4 716 (by omega) (by omega) (by omega) (by omega), b 1 (by omega) (by omega), b 4 (by omega) (by omega), b 5 (by omega) (by omega), b 6 (by omega) (by omega), b 7 (by omega) (by omega), b 8 (by omega) (by omega), b 10 (by omega) (by omega), b 11 (by omega) (by omega)]
    exact h5
theorem Mid_H {x m n nn a : Nat} {st : Nat → Nat} {op oa ob oc : Nat → Int32} {N N' : Nat} {th ra rb rc th' ra' rb' rc' : Nat → Nat} {F : Nat} {fa : Nat → Nat} {L : List FrT} {left took : Nat} {S S' T T' : Sg} (h : Mid x m n nn a st op oa ob oc N th ra rb rc F fa L left took S T) (hS' : SX x S') (hs : HAg x S S') (ht : THA m T T') (hf' : fre S') (hN : N' ≤ a + took) (hH : Ho x m N' th' ra' rb' rc' S' T') : Mid x m n nn a st op oa ob oc N' th' ra' rb' rc' F fa L left took S' T' := by
  obtain ⟨h1, h2, ⟨h3, h3', h3''⟩, h4, h5, h6, h7, h8⟩ := h
  have hS := h1.1
  have hSt := St_H h1 hS' hs ht
  obtain ⟨b1, b2, b3, b4, b4', b5, b6, b7⟩ := ht
  obtain ⟨c1, c2, c3, c4, c5⟩ := hs
  have t0 : tg S x ≠ 0 := by rw [SX_t0 hS]; decide
  have t10 : tg S (x + 10) ≠ 0 := by rw [SX_t10 hS]; decide
  have t12 : tg S (x + 12) ≠ 0 := by rw [SX_t12 hS]; decide
  have t13 : tg S (x + 13) ≠ 0 := by rw [SX_t13 hS]; decide
  have it : ∀ k, k ≠ 721 → k ≠ 725 → k ≠ 726 → k ≠ 727 → fI T' k m = fI T k m := b4
  have i10 : ∀ k, 256 ≤ k → k < 320 → fI S' k (x + 10) = fI S k (x + 10) := fun k q1 q2 => (c2 k _ t10 (by unfold hK; omega)).1
  have i13 : ∀ k, 576 ≤ k → fI S' k (x + 13) = fI S k (x + 13) := fun k q1 => (c2 k _ t13 (by unfold hK; omega)).1
  have ai : ∀ k, 20 ≤ k → aI T' (m + k) = aI T (m + k) := fun k hk => b5 k (by simp; omega)
  refine ⟨hSt, hH, ⟨RFa_keep h3 (fun q hq => ?_) ⟨ai 28 (by omega), ai 29 (by omega)⟩, h3', (it 745 (by omega) (by omega) (by omega) (by omega)).trans h3''⟩, ?_, ?_, ?_, ?_, hf'⟩
  · have tq : tg S q ≠ 0 := by rw [hq]; decide
    exact ⟨(c1 q tq).1.trans hq, (c2 0 q tq (by unfold hK; omega)).1, (c2 1 q tq (by unfold hK; omega)).2.2⟩
  · obtain ⟨d1, d2, d3, d4, d5, ⟨o, o1, o2, o3, o4⟩, ⟨q, q1, q2, q3, q4⟩, d8, d9⟩ := h4
    refine ⟨(i10 258 (by omega) (by omega)).trans d1, (c2 259 _ t10 (by unfold hK; omega)).2.1.trans d2, (c2 260 _ t10 (by unfold hK; omega)).2.2.trans d3, (b4' 751).trans d4, (it 752 (by omega) (by omega) (by omega) (by omega)).trans d5, ⟨o, o1, (i10 261 (by omega) (by omega)).trans o2, (it 754 (by omega) (by omega) (by omega) (by omega)).trans o3, fun i hi => by rw [c4, b7]; exact o4 i hi⟩, ⟨q, q1, (i10 262 (by omega) (by omega)).trans q2, (it 756 (by omega) (by omega) (by omega) (by omega)).trans q3, fun i hi => by rw [c3 _ _ t12 (by omega), ai 31 (by omega)]; exact q4 i hi⟩, ?_, ?_⟩
    · rw [i10 263 (by omega) (by omega), it 758 (by omega) (by omega) (by omega) (by omega)]; exact d8
    · rw [i10 264 (by omega) (by omega), it 757 (by omega) (by omega) (by omega) (by omega)]; exact d9
  · obtain ⟨d1, d2, d3, d4, d5, d6, d7, d8⟩ := h5
    exact ⟨d1, d2, (i13 583 (by omega)).trans d3, (it 746 (by omega) (by omega) (by omega) (by omega)).trans d4, (it 747 (by omega) (by omega) (by omega) (by omega)).trans d5, (i13 581 (by omega)).trans d6, (it 737 (by omega) (by omega) (by omega) (by omega)).trans d7, d8⟩
  · obtain ⟨d1, d2, d3, d4, d5⟩ := h6
    refine ⟨(c2 644 x t0 (by unfold hK; omega)).1.trans d1, (it 749 (by omega) (by omega) (by omega) (by omega)).trans d2, d3, hN, ?_⟩
    rw [(c2 645 x t0 (by unfold hK; omega)).1, it 748 (by omega) (by omega) (by omega) (by omega)]; exact d5
  · refine StkR_keep (Nat.le_refl _) (fun _ _ _ => rfl) L (fun g hg => ?_) (fun i _ => ⟨fun k q1 _ => by rw [ai k q1], by rw [b6]⟩) h7
    have tq : tg S g.1 ≠ 0 := by rw [StkR_tg L h7 g hg]; decide
    exact ⟨(c1 _ tq).1, fun k q1 q2 => c2 k _ tq (by unfold hK; omega)⟩
/-- what the end of a run may change -/
def vK (x k q : Nat) : Prop := (q = x + 13 ∧ (k = 580 ∨ k = 581 ∨ k = 582 ∨ k = 584 ∨ k = 585 ∨ k = 586)) ∨ (q = x + 10 ∧ (k = 258 ∨ k = 259 ∨ k = 260))
def VS (x : Nat) (S S' : Sg) : Prop := tg S' = tg S ∧ ln S' = ln S ∧ aI S' = aI S ∧ aL S' = aL S ∧ aR S' = aR S ∧ sz S' = sz S ∧ ∀ k q, ¬ vK x k q → fI S' k q = fI S k q ∧ fL S' k q = fL S k q ∧ fR S' k q = fR S k q
def uK (k : Nat) : Prop := (737 ≤ k ∧ k ≤ 742) ∨ (750 ≤ k ∧ k ≤ 752)
def VT (m : Nat) (T T' : Sg) : Prop := tg T' = tg T ∧ ln T' = ln T ∧ aI T' = aI T ∧ aL T' = aL T ∧ aR T' = aR T ∧ fR T' = fR T ∧ ∀ k, ¬ uK k → fI T' k m = fI T k m
theorem Ov_fin {x m n nn a : Nat} {st : Nat → Nat} {op oa ob oc : Nat → Int32} {N : Nat} {th ra rb rc : Nat → Nat} {F : Nat} {fa : Nat → Nat} {L : List FrT} {left took : Nat} {S S' T T' : Sg} (h : Mid x m n nn a st op oa ob oc N th ra rb rc F fa L left took S T) (hs : VS x S S') (ht : VT m T T') (e1 : fI S' 258 (x + 10) = fI T' 750 m) (e2 : fL S' 259 (x + 10) = fL T' 751 m) (e3 : hrel F fa (fR S' 260 (x + 10)) (fI T' 752 m)) (e4 : fR S' 580 (x + 13) = none) (e5 : fI T' 739 m = 0) : Ov x m n nn a st op oa ob oc left took S' T' := by
  obtain ⟨h1, h2, ⟨h3, h3', h3''⟩, h4, h5, h6, h7, h8⟩ := h
  have hS := h1.1
  obtain ⟨a1, a2, a3, a4, a5, a6, a7⟩ := hs
  obtain ⟨b1, b2, b3, b4, b5, b6, b7⟩ := ht
  have cs : CAg x S S' := by
    refine ⟨fun q _ => ⟨by rw [a1], by rw [a2]⟩, fun k q _ hk => a7 k q ?_, fun q i _ _ => by rw [a3], fun q i _ _ => by rw [a4], fun q i _ => by rw [a5]⟩
    unfold cK at hk; unfold vK; omega
  have ct : TCA m T T' := by
    refine ⟨b1, b2, b6, fun k hk => b7 k ?_, fun k _ => by rw [b3], fun k _ => by rw [b4]⟩
    simp only [List.mem_cons, List.not_mem_nil, or_false] at hk
    unfold uK; omega
  have hS' : SX x S' := by
    refine SX_ag hS (fun q _ => ⟨by rw [a1], by rw [a2]⟩) (fun k q _ hk => (a7 k q ?_).2.2)
    simp only [List.mem_cons, List.not_mem_nil, or_false] at hk
    unfold vK; omega
  refine ⟨N, th, ra, rb, rc, F, fa, St_C h1 hS' cs ct, Ho_C h2 hS cs ct, RFa_keep h3 (fun q hq => ?_) ⟨by rw [b3], by rw [b3]⟩, ⟨e1, e2, e3, ?_, ?_, ?_, ?_⟩, ?_, ?_, e4, e5, ?_⟩
  · have q1 : q ≠ x + 13 := fun e => by rw [e, SX_t13 hS] at hq; exact absurd hq (by decide)
    have q2 : q ≠ x + 10 := fun e => by rw [e, SX_t10 hS] at hq; exact absurd hq (by decide)
    exact ⟨by rw [a1]; exact hq, (a7 0 q (by unfold vK; omega)).1, (a7 1 q (by unfold vK; omega)).2.2⟩
  · obtain ⟨d1, d2, d3, d4, d5, ⟨o, o1, o2, o3, o4⟩, -⟩ := h4
    exact ⟨o, o1, (a7 261 _ (by unfold vK; omega)).1.trans o2, (b7 754 (by unfold uK; omega)).trans o3, fun i hi => by rw [a4, b4]; exact o4 i hi⟩
  · obtain ⟨d1, d2, d3, d4, d5, -, ⟨q, q1, q2, q3, q4⟩, -⟩ := h4
    have := h5.1
    have := h5.2.1
    exact ⟨q, by omega, (a7 262 _ (by unfold vK; omega)).1.trans q2, (b7 756 (by unfold uK; omega)).trans q3, fun i hi => by rw [a3, b3]; exact q4 i hi⟩
  · rw [(a7 263 _ (by unfold vK; omega)).1, b7 758 (by unfold uK; omega)]; exact h4.2.2.2.2.2.2.2.1
  · rw [(a7 264 _ (by unfold vK; omega)).1, b7 757 (by unfold uK; omega)]; exact h4.2.2.2.2.2.2.2.2
  · obtain ⟨c1, c2, c3, c4, c5⟩ := h6
    refine ⟨(a7 644 _ (by unfold vK; omega)).1.trans c1, (b7 749 (by unfold uK; omega)).trans c2, c3, c4, ?_⟩
    rw [(a7 645 _ (by unfold vK; omega)).1, b7 748 (by unfold uK; omega)]; exact c5
  · exact ⟨h5.1, (a7 583 _ (by unfold vK; omega)).1.trans h5.2.2.1, (b7 747 (by unfold uK; omega)).trans h5.2.2.2.2.1⟩
  · unfold fre; rw [a1, a6]; exact h8
