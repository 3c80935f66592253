/-! changes of the worker's own words alone -/
def wK (k : Nat) : Prop := k = 580 ∨ k = 582 ∨ k = 584 ∨ k = 585 ∨ k = 586
def WS (x : Nat) (S S' : Sg) : Prop := tg S' = tg S ∧ ln S' = ln S ∧ aI S' = aI S ∧ aL S' = aL S ∧ aR S' = aR S ∧ sz S' = sz S ∧ ∀ k q, (q ≠ x + 13 ∨ ¬ wK k) → fI S' k q = fI S k q ∧ fL S' k q = fL S k q ∧ fR S' k q = fR S k q
def tK (k : Nat) : Prop := k = 738 ∨ k = 739 ∨ k = 740 ∨ k = 741 ∨ k = 742
def WT (m : Nat) (T T' : Sg) : Prop := tg T' = tg T ∧ ln T' = ln T ∧ aI T' = aI T ∧ aL T' = aL T ∧ aR T' = aR T ∧ fR T' = fR T ∧ ∀ k, ¬ tK k → fI T' k m = fI T k m ∧ fL T' k m = fL T k m
theorem WS_rf {x : Nat} {S : Sg} : WS x S S := ⟨rfl, rfl, rfl, rfl, rfl, rfl, fun _ _ _ => ⟨rfl, rfl, rfl⟩⟩
theorem WS_tr {x : Nat} {S S1 S2 : Sg} (h1 : WS x S S1) (h2 : WS x S1 S2) : WS x S S2 := by
  obtain ⟨a1, a2, a3, a4, a5, a6, a7⟩ := h1
  obtain ⟨b1, b2, b3, b4, b5, b6, b7⟩ := h2
  exact ⟨b1.trans a1, b2.trans a2, b3.trans a3, b4.trans a4, b5.trans a5, b6.trans a6, fun k q h => ⟨(b7 k q h).1.trans (a7 k q h).1, (b7 k q h).2.1.trans (a7 k q h).2.1, (b7 k q h).2.2.trans (a7 k q h).2.2⟩⟩
theorem WS_FI {x k : Nat} {S : Sg} {v : Int32} (hk : wK k) : WS x S (sFI S k (x + 13) v) :=
  ⟨rfl, rfl, rfl, rfl, rfl, rfl, fun k' q h => ⟨if_neg (fun z => by rcases h with h | h; exact h z.2; exact h (by rw [z.1]; exact hk)), rfl, rfl⟩⟩
theorem WS_FL {x k : Nat} {S : Sg} {v : Int64} (hk : wK k) : WS x S (sFL S k (x + 13) v) :=
  ⟨rfl, rfl, rfl, rfl, rfl, rfl, fun k' q h => ⟨rfl, if_neg (fun z => by rcases h with h | h; exact h z.2; exact h (by rw [z.1]; exact hk)), rfl⟩⟩
theorem WS_FR {x k : Nat} {S : Sg} {v : Option Nat} (hk : wK k) : WS x S (sFR S k (x + 13) v) :=
  ⟨rfl, rfl, rfl, rfl, rfl, rfl, fun k' q h => ⟨rfl, rfl, if_neg (fun z => by rcases h with h | h; exact h z.2; exact h (by rw [z.1]; exact hk))⟩⟩
theorem WT_rf {m : Nat} {T : Sg} : WT m T T := ⟨rfl, rfl, rfl, rfl, rfl, rfl, fun _ _ => ⟨rfl, rfl⟩⟩
theorem WT_tr {m : Nat} {T T1 T2 : Sg} (h1 : WT m T T1) (h2 : WT m T1 T2) : WT m T T2 := by
  obtain ⟨a1, a2, a3, a4, a5, a6, a7⟩ := h1
  obtain ⟨b1, b2, b3, b4, b5, b6, b7⟩ := h2
  exact ⟨b1.trans a1, b2.trans a2, b3.trans a3, b4.trans a4, b5.trans a5, b6.trans a6, fun k h => ⟨(b7 k h).1.trans (a7 k h).1, (b7 k h).2.trans (a7 k h).2⟩⟩
theorem WT_FI {m k : Nat} {T : Sg} {v : Int32} (hk : tK k) : WT m T (sFI T k m v) :=
  ⟨rfl, rfl, rfl, rfl, rfl, rfl, fun k' h => ⟨if_neg (fun z => h (by rw [z.1]; exact hk)), rfl⟩⟩
theorem WT_FL {m k : Nat} {T : Sg} {v : Int64} (hk : tK k) : WT m T (sFL T k m v) :=
  ⟨rfl, rfl, rfl, rfl, rfl, rfl, fun k' h => ⟨rfl, if_neg (fun z => h (by rw [z.1]; exact hk))⟩⟩
theorem CAg_WS {x : Nat} {S S' : Sg} (h : WS x S S') : CAg x S S' := by
  obtain ⟨a1, a2, a3, a4, a5, a6, a7⟩ := h
  refine ⟨fun q _ => ⟨by rw [a1], by rw [a2]⟩, fun k q _ hk => a7 k q (Or.inr ?_), fun q i _ _ => by rw [a3], fun q i _ _ => by rw [a4], fun q i _ => by rw [a5]⟩
  unfold cK at hk; unfold wK; omega
theorem TCA_WT {m : Nat} {T T' : Sg} (h : WT m T T') : TCA m T T' := by
  obtain ⟨a1, a2, a3, a4, a5, a6, a7⟩ := h
  refine ⟨a1, a2, a6, fun k hk => (a7 k ?_).1, fun k _ => by rw [a3], fun k _ => by rw [a4]⟩
  simp only [List.mem_cons, List.not_mem_nil, or_false] at hk
  unfold tK; omega
theorem SX_WS {x : Nat} {S S' : Sg} (h : WS x S S') (hS : SX x S) : SX x S' := by
  obtain ⟨a1, a2, a3, a4, a5, a6, a7⟩ := h
  refine SX_ag hS (fun q _ => ⟨by rw [a1], by rw [a2]⟩) (fun k q _ hk => (a7 k q (Or.inr ?_)).2.2)
  simp only [List.mem_cons, List.not_mem_nil, or_false] at hk
  unfold wK; omega
theorem fre_WS {x : Nat} {S S' : Sg} (h : WS x S S') (hf : fre S) : fre S' := by
  unfold fre
  rw [h.1, h.2.2.2.2.2.1]; exact hf
theorem RFa_keep {m F : Nat} {fa : Nat → Nat} {S S' T T' : Sg} (h : RFa m F fa S T) (h1 : ∀ q, tg S q = 1 → tg S' q = 1 ∧ fI S' 0 q = fI S 0 q ∧ fR S' 1 q = fR S 1 q) (h2 : aI T' (m + 28) = aI T (m + 28) ∧ aI T' (m + 29) = aI T (m + 29)) : RFa m F fa S' T' := by
  unfold RFa
  rw [h2.1, h2.2]
  refine ⟨h.1, h.2.1, fun j j1 j2 => ?_⟩
  obtain ⟨a1, a2, a3, a4⟩ := h.2.2 j j1 j2
  obtain ⟨b1, b2, b3⟩ := h1 _ a1
  exact ⟨b1, b2.trans a2, by rw [b3]; exact a3, a4⟩
theorem Mid_W {x m n nn a : Nat} {st : Nat → Nat} {op oa ob oc : Nat → Int32} {N : Nat} {th ra rb rc : Nat → Nat} {F : Nat} {fa : Nat → Nat} {L : List FrT} {left took : Nat} {S S' T T' : Sg} (h : Mid x m n nn a st op oa ob oc N th ra rb rc F fa L left took S T) (hs : WS x S S') (ht : WT m T T') : Mid x m n nn a st op oa ob oc N th ra rb rc F fa L left took S' T' := by
  obtain ⟨h1, h2, ⟨h3, h3', h3''⟩, h4, h5, h6, h7, h8⟩ := h
  have hS := h1.1
  have cs := CAg_WS hs
  have ct := TCA_WT ht
  have hS' := SX_WS hs hS
  have hf' := fre_WS hs h8
  obtain ⟨a1, a2, a3, a4, a5, a6, a7⟩ := hs
  obtain ⟨b1, b2, b3, b4, b5, b6, b7⟩ := ht
  have i10 : ∀ k, fI S' k (x + 10) = fI S k (x + 10) := fun k => (a7 k _ (Or.inl (by omega))).1
  have it : ∀ k, ¬ tK k → fI T' k m = fI T k m := fun k hk => (b7 k hk).1
  refine ⟨St_C h1 hS' cs ct, Ho_C h2 hS cs ct, ⟨RFa_keep h3 (fun q hq => ?_) ⟨by rw [b3], by rw [b3]⟩, h3', (it 745 (by unfold tK; omega)).trans h3''⟩, ?_, ?_, ?_, ?_, hf'⟩
  · have hq' : q ≠ x + 13 := fun e => by rw [e, SX_t13 hS] at hq; exact absurd hq (by decide)
    exact ⟨by rw [a1]; exact hq, (a7 0 q (Or.inl hq')).1, (a7 1 q (Or.inl hq')).2.2⟩
  · obtain ⟨c1, c2, c3, c4, c5, ⟨o, o1, o2, o3, o4⟩, ⟨q, q1, q2, q3, q4⟩, c8, c9⟩ := h4
    refine ⟨(i10 258).trans c1, (a7 259 _ (Or.inl (by omega))).2.1.trans c2, (a7 260 _ (Or.inl (by omega))).2.2.trans c3, (b7 751 (by unfold tK; omega)).2.trans c4, (it 752 (by unfold tK; omega)).trans c5, ⟨o, o1, (i10 261).trans o2, (it 754 (by unfold tK; omega)).trans o3, fun i hi => by rw [a4, b4]; exact o4 i hi⟩, ⟨q, q1, (i10 262).trans q2, (it 756 (by unfold tK; omega)).trans q3, fun i hi => by rw [a3, b3]; exact q4 i hi⟩, ?_, ?_⟩
    · rw [i10, it 758 (by unfold tK; omega)]; exact c8
    · rw [i10, it 757 (by unfold tK; omega)]; exact c9
  · obtain ⟨c1, c2, c3, c4, c5, c6, c7, c8⟩ := h5
    have i13 : ∀ k, ¬ wK k → fI S' k (x + 13) = fI S k (x + 13) := fun k hk => (a7 k _ (Or.inr hk)).1
    exact ⟨c1, c2, (i13 583 (by unfold wK; omega)).trans c3, (it 746 (by unfold tK; omega)).trans c4, (it 747 (by unfold tK; omega)).trans c5, (i13 581 (by unfold wK; omega)).trans c6, (it 737 (by unfold tK; omega)).trans c7, c8⟩
  · obtain ⟨c1, c2, c3, c4, c5⟩ := h6
    refine ⟨(a7 644 x (Or.inl (by omega))).1.trans c1, (it 749 (by unfold tK; omega)).trans c2, c3, c4, ?_⟩
    rw [(a7 645 x (Or.inl (by omega))).1, it 748 (by unfold tK; omega)]; exact c5
  · refine StkR_keep (Nat.le_refl _) (fun _ _ _ => rfl) L (fun g hg => ⟨by rw [a1], fun k _ _ => a7 k g.1 (Or.inl ?_)⟩) (fun i _ => ⟨fun k _ _ => by rw [b3], by rw [b4]⟩) h7
    intro e
    have := StkR_tg L h7 g hg
    rw [e, SX_t13 hS] at this
    exact absurd this (by decide)
/-- the top is left -/
theorem Mid_pop {x m n nn a : Nat} {st : Nat → Nat} {op oa ob oc : Nat → Int32} {N : Nat} {th ra rb rc : Nat → Nat} {F : Nat} {fa : Nat → Nat} {f : FrT} {L : List FrT} {left took : Nat} {S T : Sg} (h : Mid x m n nn a st op oa ob oc N th ra rb rc F fa (f :: L) left took S T) : Mid x m n nn a st op oa ob oc N th ra rb rc F fa L left took (sFI S 581 (x + 13) (nI L.length)) (sFI T 737 m (nI L.length)) := by
  obtain ⟨h1, h2, ⟨h3, h3', h3''⟩, h4, h5, h6, h7, h8⟩ := h
  have hS := h1.1
  have cs : CAg x S (sFI S 581 (x + 13) (nI L.length)) := CAg_FI (by unfold cK; omega)
  have ct : TCA m T (sFI T 737 m (nI L.length)) := TCA_FI (by decide)
  have ni : ∀ k q, (k ≠ 581 ∨ q ≠ x + 13) → fI (sFI S 581 (x + 13) (nI L.length)) k q = fI S k q := fun k q hk => by simp only [gs_FI]; rw [if_neg (by omega)]
  have nt : ∀ k, k ≠ 737 → fI (sFI T 737 m (nI L.length)) k m = fI T k m := fun k hk => by simp only [gs_FI]; rw [if_neg (by omega)]
  have si : fI (sFI S 581 (x + 13) (nI L.length)) 581 (x + 13) = nI L.length := by simp only [gs_FI]; rw [if_pos ⟨trivial, trivial⟩]
  have ti : fI (sFI T 737 m (nI L.length)) 737 m = nI L.length := by simp only [gs_FI]; rw [if_pos ⟨trivial, trivial⟩]
  have gs := gs_FI S 581 (x + 13) (nI L.length)
  have gt := gs_FI T 737 m (nI L.length)
  have hS' : SX x (sFI S 581 (x + 13) (nI L.length)) := (SX_sFI _ _ _).mpr hS
  generalize sFI S 581 (x + 13) (nI L.length) = S' at *
  generalize sFI T 737 m (nI L.length) = T' at *
  obtain ⟨g1, g2, g3, g4, g5, g6, g7, g8, -⟩ := gs
  obtain ⟨k1, k2, k3, k4, k5, k6, k7, k8, -⟩ := gt
  refine ⟨St_C h1 hS' cs ct, Ho_C h2 hS cs ct, ⟨RFa_keep h3 (fun q hq => ⟨by rw [g1]; exact hq, ni _ _ (by omega), by rw [g4]⟩) ⟨by rw [k5], by rw [k5]⟩, h3', (nt 745 (by omega)).trans h3''⟩, ?_, ?_, ?_, ?_, ?_⟩
  · obtain ⟨c1, c2, c3, c4, c5, ⟨o, o1, o2, o3, o4⟩, ⟨q, q1, q2, q3, q4⟩, c8, c9⟩ := h4
    have q1 : q + ((if kd op f.2.2.1 = 1 ∧ f.2.2.2 ≤ 1 then 1 else 0) + ctL op L) ≤ took := q1
    refine ⟨(ni _ _ (by omega)).trans c1, by rw [g3]; exact c2, by rw [g4]; exact c3, by rw [k3]; exact c4, (nt _ (by omega)).trans c5, ⟨o, o1, (ni _ _ (by omega)).trans o2, (nt _ (by omega)).trans o3, fun i hi => by rw [g6, k6]; exact o4 i hi⟩, ⟨q, by omega, (ni _ _ (by omega)).trans q2, (nt _ (by omega)).trans q3, fun i hi => by rw [g5, k5]; exact q4 i hi⟩, ?_, ?_⟩
    · rw [ni _ _ (by omega), nt _ (by omega)]; exact c8
    · rw [ni _ _ (by omega), nt _ (by omega)]; exact c9
  · obtain ⟨c1, c2, c3, c4, c5, c6, c7, c8⟩ := h5
    have c8 : L.length + 1 ≤ 200 := c8
    exact ⟨c1, c2, (ni _ _ (by omega)).trans c3, (nt _ (by omega)).trans c4, (nt _ (by omega)).trans c5, si, ti, by omega⟩
  · obtain ⟨c1, c2, c3, c4, c5⟩ := h6
    refine ⟨(ni _ _ (by omega)).trans c1, (nt _ (by omega)).trans c2, c3, c4, ?_⟩
    rw [ni _ _ (by omega), nt _ (by omega)]; exact c5
  · refine StkR_keep (Nat.le_refl _) (fun _ _ _ => rfl) L (fun g hg => ⟨by rw [g1], fun k _ _ => ⟨ni _ _ (by omega), by rw [g3], by rw [g4]⟩⟩) (fun i _ => ⟨fun k _ _ => by rw [k5], by rw [k6]⟩) h7.2.2.2
  · unfold fre; rw [g1, g8]; exact h8
