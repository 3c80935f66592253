/-! a new object; a failure -/
def Ext (t : Nat) (S S1 : Sg) : Prop := sz S1 = sz S + 1 ∧ tg S1 (sz S) = t ∧ ∀ q, q ≠ sz S → tg S1 q = tg S q ∧ ln S1 q = ln S q ∧ (∀ k, fI S1 k q = fI S k q ∧ fL S1 k q = fL S k q ∧ fR S1 k q = fR S k q) ∧ ∀ i, aI S1 q i = aI S q i ∧ aL S1 q i = aL S q i ∧ aR S1 q i = aR S q i
theorem Ext_nw {S : Sg} {t n : Nat} : Ext t S (nw S t n) :=
  ⟨rfl, if_pos rfl, fun q hq => ⟨if_neg hq, if_neg hq, fun k => ⟨if_neg hq, if_neg hq, if_neg hq⟩, fun i => ⟨if_neg hq, if_neg hq, if_neg hq⟩⟩⟩
theorem Ext_FI {t : Nat} {S S1 : Sg} {k : Nat} {v : Int32} (h : Ext t S S1) : Ext t S (sFI S1 k (sz S) v) := by
  obtain ⟨h1, h2, h3⟩ := h
  refine ⟨h1, h2, fun q hq => ?_⟩
  obtain ⟨a, b, c, d⟩ := h3 q hq
  exact ⟨a, b, fun k' => ⟨(if_neg (fun z => hq z.2)).trans (c k').1, (c k').2⟩, d⟩
theorem Ext_FL {t : Nat} {S S1 : Sg} {k : Nat} {v : Int64} (h : Ext t S S1) : Ext t S (sFL S1 k (sz S) v) := by
  obtain ⟨h1, h2, h3⟩ := h
  refine ⟨h1, h2, fun q hq => ?_⟩
  obtain ⟨a, b, c, d⟩ := h3 q hq
  exact ⟨a, b, fun k' => ⟨(c k').1, (if_neg (fun z => hq z.2)).trans (c k').2.1, (c k').2.2⟩, d⟩
theorem Ext_FR {t : Nat} {S S1 : Sg} {k : Nat} {v : Option Nat} (h : Ext t S S1) : Ext t S (sFR S1 k (sz S) v) := by
  obtain ⟨h1, h2, h3⟩ := h
  refine ⟨h1, h2, fun q hq => ?_⟩
  obtain ⟨a, b, c, d⟩ := h3 q hq
  exact ⟨a, b, fun k' => ⟨(c k').1, (c k').2.1, (if_neg (fun z => hq z.2)).trans (c k').2.2⟩, d⟩
theorem fre_ne {S : Sg} (hf : fre S) {q : Nat} (h : tg S q ≠ 0) : q ≠ sz S := Nat.ne_of_lt (hf q h)
theorem CAg_ext {x t : Nat} {S S1 : Sg} (hf : fre S) (h : Ext t S S1) : CAg x S S1 :=
  ⟨fun q hq => ⟨(h.2.2 q (fre_ne hf hq)).1, (h.2.2 q (fre_ne hf hq)).2.1⟩, fun k q hq _ => (h.2.2 q (fre_ne hf hq)).2.2.1 k, fun q i hq _ => ((h.2.2 q (fre_ne hf hq)).2.2.2 i).1, fun q i hq _ => ((h.2.2 q (fre_ne hf hq)).2.2.2 i).2.1, fun q i hq => ((h.2.2 q (fre_ne hf hq)).2.2.2 i).2.2⟩
theorem SX_ext {x t : Nat} {S S1 : Sg} (hf : fre S) (h : Ext t S S1) (hS : SX x S) : SX x S1 :=
  SX_ag hS (fun q hq => ⟨(h.2.2 q (fre_ne hf hq)).1, (h.2.2 q (fre_ne hf hq)).2.1⟩) (fun k q hq _ => ((h.2.2 q (fre_ne hf hq)).2.2.1 k).2.2)
theorem fre_ext {t : Nat} {S S1 : Sg} (hf : fre S) (h : Ext t S S1) : fre S1 := by
  intro q hq
  by_cases c : q = sz S
  · rw [c, h.1]; omega
  · rw [(h.2.2 q c).1] at hq
    have := hf q hq
    rw [h.1]; omega
/-- all but the failures and the reference's side is kept by a new object -/
theorem Mid_ext' {x m n nn a : Nat} {st : Nat → Nat} {op oa ob oc : Nat → Int32} {N : Nat} {th ra rb rc : Nat → Nat} {F F' : Nat} {fa fa' : Nat → Nat} {L : List FrT} {left took t : Nat} {S S1 T T' : Sg} (h : Mid x m n nn a st op oa ob oc N th ra rb rc F fa L left took S T) (he : Ext t S S1) (ht : TCA m T T') (hF : F ≤ F') (hfa : ∀ j, 1 ≤ j → j ≤ F → fa' j = fa j) (hR : RFa m F' fa' S1 T') (hF2 : F' ≤ took) (h745 : fI T' 745 m = nI F') (hi : ∀ k, k ∈ [737, 746, 747, 748, 749, 752, 754, 756, 757, 758] → fI T' k m = fI T k m) (hl : fL T' = fL T) (ha : ∀ k, k ≤ 27 ∨ 30 ≤ k → aI T' (m + k) = aI T (m + k)) (hal : aL T' = aL T) : Mid x m n nn a st op oa ob oc N th ra rb rc F' fa' L left took S1 T' := by
  obtain ⟨h1, h2, -, h4, h5, h6, h7, h8⟩ := h
  have hS := h1.1
  have o : ∀ q, tg S q ≠ 0 → tg S1 q = tg S q ∧ ln S1 q = ln S q ∧ (∀ k, fI S1 k q = fI S k q ∧ fL S1 k q = fL S k q ∧ fR S1 k q = fR S k q) ∧ ∀ i, aI S1 q i = aI S q i ∧ aL S1 q i = aL S q i ∧ aR S1 q i = aR S q i := fun q hq => he.2.2 q (fre_ne h8 hq)
  have o0 := o x (by rw [SX_t0 hS]; decide)
  have o10 := o (x + 10) (by rw [SX_t10 hS]; decide)
  have o11 := o (x + 11) (by rw [SX_t11 hS]; decide)
  have o12 := o (x + 12) (by rw [SX_t12 hS]; decide)
  have o13 := o (x + 13) (by rw [SX_t13 hS]; decide)
  refine ⟨St_C h1 (SX_ext h8 he hS) (CAg_ext h8 he) ht, Ho_C h2 hS (CAg_ext h8 he) ht, ⟨hR, hF2, h745⟩, ?_, ?_, ?_, ?_, fre_ext h8 he⟩
  · obtain ⟨c1, c2, c3, c4, c5, ⟨o, o1, o2, o3, o4⟩, ⟨q, q1, q2, q3, q4⟩, c8, c9⟩ := h4
    refine ⟨(o10.2.2.1 258).1.trans c1, (o10.2.2.1 259).2.1.trans c2, (o10.2.2.1 260).2.2.trans c3, by rw [hl]; exact c4, (hi 752 (by decide)).trans c5, ⟨o, o1, (o10.2.2.1 261).1.trans o2, (hi 754 (by decide)).trans o3, fun i hi => by rw [(o11.2.2.2 i).2.1, hal]; exact o4 i hi⟩, ⟨q, q1, (o10.2.2.1 262).1.trans q2, (hi 756 (by decide)).trans q3, fun i hi => by rw [(o12.2.2.2 i).1, ha 31 (by omega)]; exact q4 i hi⟩, ?_, ?_⟩
    · rw [(o10.2.2.1 263).1, hi 758 (by decide)]; exact c8
    · rw [(o10.2.2.1 264).1, hi 757 (by decide)]; exact c9
  · obtain ⟨c1, c2, c3, c4, c5, c6, c7, c8⟩ := h5
    exact ⟨c1, c2, (o13.2.2.1 583).1.trans c3, (hi 746 (by decide)).trans c4, (hi 747 (by decide)).trans c5, (o13.2.2.1 581).1.trans c6, (hi 737 (by decide)).trans c7, c8⟩
  · obtain ⟨c1, c2, c3, c4, c5⟩ := h6
    refine ⟨(o0.2.2.1 644).1.trans c1, (hi 749 (by decide)).trans c2, c3, c4, ?_⟩
    rw [(o0.2.2.1 645).1, hi 748 (by decide)]; exact c5
  · refine StkR_keep hF hfa L (fun g hg => ?_) (fun i _ => ⟨fun k _ _ => by rw [ha k (by omega)], by rw [hal]⟩) h7
    have := o g.1 (by rw [StkR_tg L h7 g hg]; decide)
    exact ⟨this.1, fun k _ _ => this.2.2.1 k⟩
theorem Mid_ext {x m n nn a : Nat} {st : Nat → Nat} {op oa ob oc : Nat → Int32} {N : Nat} {th ra rb rc : Nat → Nat} {F : Nat} {fa : Nat → Nat} {L : List FrT} {left took t : Nat} {S S1 T : Sg} (h : Mid x m n nn a st op oa ob oc N th ra rb rc F fa L left took S T) (he : Ext t S S1) : Mid x m n nn a st op oa ob oc N th ra rb rc F fa L left took S1 T := by
  have h3 := h.2.2.1
  have h8 : fre S := h.2.2.2.2.2.2.2
  refine Mid_ext' h he TCA_rf (Nat.le_refl _) (fun _ _ _ => rfl) (RFa_keep h3.1 (fun q hq => ?_) ⟨rfl, rfl⟩) h3.2.1 h3.2.2 (fun _ _ => rfl) rfl (fun _ _ => rfl) rfl
  have := he.2.2 q (fre_ne h8 (by rw [hq]; decide))
  exact ⟨this.1.trans hq, (this.2.2.1 0).1, (this.2.2.1 1).2.2⟩
def sFa (K : Int32) (o : Option Nat) (S : Sg) : Sg := sFR (sFI (nw S 1 0) 0 (sz S) K) 1 (sz S) o
def sFail (x : Nat) (K : Int32) (o : Option Nat) (S : Sg) : Sg := sFI (sFR (sFa K o S) 586 (x + 13) (some (sz S))) 584 (x + 13) 2
def tFail (m F : Nat) (K c : Int32) (T : Sg) : Sg := sFI (sAI (sAI (sFI T 745 m (nI (F + 1))) (m + 28) (F + 1) K) (m + 29) (F + 1) c) 742 m (nI (F + 1))
theorem r_fail {x : Nat} {K : Int32} {o : Option Nat} {S : Sg} {Q : Sg → Prop} (h : Q (sFail x K o S)) : wX9_fail (x + 13) K o S Q := by
  unfold wX9_fail wX0_init
  intro S2 e2 S3 e3 S4 e4 S5 e5 S6 e6
  unfold sFail sFa at h
  rw [e6, e5, e4, e3, e2]
  exact h
theorem r_mfail {m F : Nat} {K c : Int32} {T : Sg} {Q : Sg → Prop} (hM : MX m T) (h745 : fI T 745 m = nI F) (hF : F ≤ 1000) (h : Q (tFail m F K c T)) : wX11_makeFailure m K c T Q := by
  unfold wX11_makeFailure
  intro S1 e1
  rw [h745, nI_1] at e1
  have hM1 : MX m S1 := by rw [e1]; simp only [MX_sFI]; exact hM
  have g1 : fI S1 745 m = nI (F + 1) := by rw [e1]; simp only [gs_FI]; rw [if_pos ⟨trivial, trivial⟩]
  rw [g1]
  refine ⟨m + 28, MX_r743 hM1, MX_t28 hM1, by rw [MX_l28 hM1]; exact vp_n (by omega) (by omega), ?_⟩
  intro S4 e4
  rw [n_cl (by omega)] at e4
  have hM4 : MX m S4 := by rw [e4]; simp only [MX_sAI]; exact hM1
  have g4 : fI S4 745 m = nI (F + 1) := by rw [e4]; simp only [gs_AI]; exact g1
  rw [g4]
  refine ⟨m + 29, MX_r744 hM4, MX_t29 hM4, by rw [MX_l29 hM4]; exact vp_n (by omega) (by omega), ?_⟩
  intro S7 e7
  rw [n_cl (by omega)] at e7
  have g7 : fI S7 745 m = nI (F + 1) := by rw [e7]; simp only [gs_AI]; exact g4
  rw [g7]
  intro S8 e8
  unfold tFail at h
  rw [e8, e7, e4, e1]
  exact h
theorem hrel_cong {N : Nat} {th th' : Nat → Nat} {o : Option Nat} {v : Int32} (ht : ∀ j, 1 ≤ j → j ≤ N → th' j = th j) (h : hrel N th o v) : hrel N th' o v := by
  rcases h with h | ⟨j, j1, j2, j3, j4⟩
  · exact Or.inl h
  · exact Or.inr ⟨j, j1, j2, by rw [ht j j1 j2]; exact j3, j4⟩
theorem fail_MC {x m n nn a : Nat} {st : Nat → Nat} {op oa ob oc : Nat → Int32} {N : Nat} {th ra rb rc : Nat → Nat} {F : Nat} {fa : Nat → Nat} {L : List FrT} {left took k : Nat} {o : Option Nat} {c : Int32} {S T : Sg} (h : Mid x m n nn a st op oa ob oc N th ra rb rc F fa L left took S T) (hF : F + 1 ≤ took) (hk : k ≤ 9) (hr : hrel F fa o c) (h739 : fI T 739 m = 1) (h580 : fR S 580 (x + 13) = L.head?.map (·.1)) (hL : L ≠ []) :
    MC x m n nn a st op oa ob oc N th ra rb rc (F + 1) (fun j => if j = F + 1 then sz S else fa j) L left took (sFail x (nI k) o S) (sFI (tFail m F (nI k) c T) 740 m 2) := by
  have h3 := h.2.2.1
  have h5 := h.2.2.2.2.1
  have h8 : fre S := h.2.2.2.2.2.2.2
  have hS := h.1.1
  have hnn : took ≤ 1000 := by have := h5.1; have := h5.2.1; omega
  have he : Ext 1 S (sFa (nI k) o S) := by unfold sFa; exact Ext_FR (Ext_FI Ext_nw)
  have s0 : fI (sFa (nI k) o S) 0 (sz S) = nI k := by unfold sFa; simp only [gs_FR, gs_FI]; rw [if_pos ⟨trivial, trivial⟩]
  have s1 : fR (sFa (nI k) o S) 1 (sz S) = o := by unfold sFa; simp only [gs_FR, gs_FI]; rw [if_pos ⟨trivial, trivial⟩]
  have tI : ∀ k', k' ≠ 742 → k' ≠ 745 → fI (tFail m F (nI k) c T) k' m = fI T k' m := fun k' w1 w2 => by unfold tFail; simp only [gs_FI, gs_AI]; rw [if_neg (by omega), if_neg (by omega)]
  have t745 : fI (tFail m F (nI k) c T) 745 m = nI (F + 1) := by unfold tFail; simp only [gs_FI, gs_AI]; rw [if_neg (by omega), if_pos ⟨trivial, trivial⟩]
  have t742 : fI (tFail m F (nI k) c T) 742 m = nI (F + 1) := by unfold tFail; simp only [gs_FI, gs_AI]; rw [if_pos ⟨trivial, trivial⟩]
  have tL : fL (tFail m F (nI k) c T) = fL T ∧ aL (tFail m F (nI k) c T) = aL T := by unfold tFail; simp only [gs_FI, gs_AI]; exact ⟨trivial, trivial⟩
  have tA : ∀ q i, aI (tFail m F (nI k) c T) q i = if q = m + 29 ∧ i = F + 1 then c else if q = m + 28 ∧ i = F + 1 then nI k else aI T q i := fun q i => by unfold tFail; simp only [gs_FI, gs_AI]
  have ct : TCA m T (tFail m F (nI k) c T) := by
    unfold tFail
    exact TCA_tr (TCA_FI (by decide)) (TCA_tr (TCA_AI (by omega)) (TCA_tr (TCA_AI (by omega)) (TCA_FI (by decide))))
  have hmid : Mid x m n nn a st op oa ob oc N th ra rb rc (F + 1) (fun j => if j = F + 1 then sz S else fa j) L left took (sFa (nI k) o S) (tFail m F (nI k) c T) := by
    have hfa : ∀ j, 1 ≤ j → j ≤ F → (if j = F + 1 then sz S else fa j) = fa j := fun j _ w => if_neg (by omega)
    refine Mid_ext' h he ct (Nat.le_succ _) hfa ⟨by omega, ?_, fun j j1 j2 => ?_⟩ hF t745 (fun k' hk' => ?_) tL.1 (fun k' hk' => funext fun i => ?_) tL.2
    · rw [tA, if_neg (by omega), if_neg (by omega)]; exact h3.1.2.1
    · by_cases cj : j = F + 1
      · subst cj
        simp only [if_true]
        refine ⟨he.2.1, ?_, ?_, k, hk, ?_⟩
        · rw [s0, tA, if_neg (by omega), if_pos ⟨rfl, rfl⟩]
        · rw [s1, tA, if_pos ⟨rfl, rfl⟩]; exact hrel_cong hfa hr
        · rw [tA, if_neg (by omega), if_pos ⟨rfl, rfl⟩]
      · obtain ⟨f1, f2, f3, f4⟩ := h3.1.2.2 j j1 (by omega)
        have ho := he.2.2 (fa j) (fre_ne h8 (by rw [f1]; decide))
        simp only [cj, if_false]
        rw [tA, if_neg (by omega), if_neg (by omega), tA, if_neg (by omega), if_neg (by omega)]
        refine ⟨ho.1.trans f1, (ho.2.2.1 0).1.trans f2, ?_, f4⟩
        rw [(ho.2.2.1 1).2.2]
        exact hrel_cong (fun i i1 i2 => if_neg (by omega)) f3
    · simp only [List.mem_cons, List.not_mem_nil, or_false] at hk'
      exact tI _ (by omega) (by omega)
    · rw [tA, if_neg (by omega), if_neg (by omega)]
  have hW : WS x (sFa (nI k) o S) (sFail x (nI k) o S) := by
    unfold sFail
    exact WS_tr (WS_FR (by unfold wK; omega)) (WS_FI (by unfold wK; omega))
  refine ⟨Mid_W hmid hW (WT_FI (by unfold tK; omega)), ?_, ?_, ?_, hL⟩
  · refine Or.inr (Or.inl ⟨?_, ?_, F + 1, by omega, by omega, ?_, ?_⟩)
    · unfold sFail; simp only [gs_FI]; rw [if_pos ⟨trivial, trivial⟩]
    · simp only [gs_FI]; rw [if_pos ⟨trivial, trivial⟩]
    · unfold sFail; simp only [gs_FI, gs_FR]; rw [if_pos ⟨trivial, trivial⟩, if_pos trivial]
    · simp only [gs_FI]; rw [if_neg (by omega)]; exact t742
  · simp only [gs_FI]; rw [if_neg (by omega), tI 739 (by omega) (by omega)]; exact h739
  · have ho := he.2.2 (x + 13) (fre_ne h8 (by rw [SX_t13 hS]; decide))
    unfold sFail; simp only [gs_FI, gs_FR]; rw [if_neg (by omega)]
    exact (ho.2.2.1 580).2.2.trans h580
