/-! what comes to a frame -/
def mu (op : Nat → Int32) (left : Nat) (L : List FrT) : Nat := 3 * left + wtL op L
theorem wt1_pos (op : Nat → Int32) (f : FrT) : 1 ≤ wt1 op f ∧ wt1 op f ≤ 2 := by
  unfold wt1; split <;> omega
def MC (x m n nn a : Nat) (st : Nat → Nat) (op oa ob oc : Nat → Int32) (N : Nat) (th ra rb rc : Nat → Nat) (F : Nat) (fa : Nat → Nat) (L : List FrT) (left took : Nat) (S T : Sg) : Prop := Mid x m n nn a st op oa ob oc N th ra rb rc F fa L left took S T ∧ Cm x m F fa L S T
def MW (x m n nn a : Nat) (st : Nat → Nat) (op oa ob oc : Nat → Int32) (N : Nat) (th ra rb rc : Nat → Nat) (F : Nat) (fa : Nat → Nat) (L : List FrT) (p left took : Nat) (S T : Sg) : Prop := Mid x m n nn a st op oa ob oc N th ra rb rc F fa L left took S T ∧ Wk x m op oc n L p S T
/-- what a turn ends in: 0 it goes down further, 1 it works on, 2 the run is over -/
def Res (x m n nn a : Nat) (st : Nat → Nat) (op oa ob oc : Nat → Int32) (N : Nat) (th ra rb rc : Nat → Nat) (F : Nat) (fa : Nat → Nat) (o : Nat) (L : List FrT) (p left took : Nat) (S T : Sg) : Prop :=
  (o = 0 ∧ MC x m n nn a st op oa ob oc N th ra rb rc F fa L left took S T) ∨ (o = 1 ∧ MW x m n nn a st op oa ob oc N th ra rb rc F fa L p left took S T) ∨ (o = 2 ∧ Ov x m n nn a st op oa ob oc left took S T)
theorem lv_link {x m n : Nat} {st : Nat → Nat} {op oc : Nat → Int32} {F : Nat} {fa : Nat → Nat} {f : FrT} {L : List FrT} {S T : Sg} {k : Nat} (h : StkR x m n st op oc F fa S T (f :: L)) (hk : f.2.2.1 = some k) (hB : kd op (some k) ≠ 0) : ∃ g L', L = g :: L' ∧ f.2.1 = g.2.1 ∧ fS op oc n g ≤ bH (rH op oc n f.2.1) (b_at op oc n) k ∧ bH (rH op oc n f.2.1) (b_at op oc n) k ≤ fE op oc n g := by
  obtain ⟨q1, q2, q3, q4⟩ := h
  cases L with
  | nil =>
    have q3 : f.2.2.1 = none := q3
    rw [hk] at q3; cases q3
  | cons g L' =>
    obtain ⟨k', e1, e2, e3, e4⟩ := q3
    rw [hk] at e1
    cases e1
    have e := e4 hB
    obtain ⟨p1, p2, p3, p4, p5⟩ := fr_part q4.1
    obtain ⟨-, ⟨b1, -⟩, -, -, ee, -⟩ := q1
    obtain ⟨-, -, -, -, r1, -⟩ := ee k hk
    obtain ⟨r2, r3⟩ := r1 hB
    refine ⟨g, L', rfl, e, ?_, ?_⟩
    · have := (bR_1 (bR_of b1) r3).2.2.1
      unfold rH
      omega
    · rw [e]
      exact p5 k e2 e3 (kd_isB.mp hB)
/-- the words of a block's frame -/
theorem fr_blk {x m n : Nat} {st : Nat → Nat} {op oa ob oc : Nat → Int32} {F : Nat} {fa : Nat → Nat} {i : Nat} {ar : Option Nat} {f : FrT} {S T : Sg} {k : Nat} (hSt : St x m n st op oa ob oc S T) (h : FR1 x m n st op oc F fa i ar f S T) (hk : f.2.2.1 = some k) (hB : kd op (some k) ≠ 0) :
    k < n ∧ n ≤ 2000 ∧ tg S f.1 = 2 ∧ fR S 65 f.1 = ar ∧ fI S 66 f.1 = nI (rH op oc n f.2.1) ∧ fR S 64 f.1 = some (st k) ∧ tg S (st k) = 8 ∧ fI S 449 (st k) = op k ∧ fI S 454 (st k) = opI ((b_at op oc n).2.1 k) ∧ fI S 455 (st k) = opI ((b_at op oc n).2.2.1 k) ∧ fI S 456 (st k) = opI ((b_at op oc n).2.2.2 k) ∧
    aI T (m + 20) i = nI (kd op (some k)) ∧ aI T (m + 21) i = nI k ∧ aI T (m + 6) k = opI ((b_at op oc n).2.1 k) ∧ aI T (m + 7) k = opI ((b_at op oc n).2.2.1 k) ∧ aI T (m + 5) k = nI (bE (rH op oc n f.2.1) (b_at op oc n) k) ∧ aI T (m + 8) k = nI (bH (rH op oc n f.2.1) (b_at op oc n) k) ∧ f.2.1 < (mk_l op oc n).length ∧ rL op oc n f.2.1 ≤ k ∧ k < rH op oc n f.2.1 := by
  obtain ⟨⟨a1, a2, a3, a4, a5⟩, ⟨b1, b2, b3, b4, b5⟩, c, d, e, g, h⟩ := h
  obtain ⟨e1, e2, e3, e4, e5, e6, e7⟩ := e k hk
  obtain ⟨e8, e9⟩ := e5 hB
  obtain ⟨w1, w2, w3, w4⟩ := St_bW hSt b1 e8 e9 (kd_isB.mp hB)
  obtain ⟨s1, s2, s3, s4, s5, s6, s7, s8, s9, s10, s11, s12, s13⟩ := St_st hSt e1
  rw [hk] at b3
  exact ⟨e1, (St_n hSt).1, a1, a2, a3, e2, s2, s5, s11, s12, s13, b3, e3, w1, w2, w3, w4, b1, e8, e9⟩
theorem CV_1 {F : Nat} {fa : Nat → Nat} {cc : Int32} {v : Int64} {o : Option Nat} {wc : Int32} {v' : Int64} {j' : Int32} (h : CV F fa cc v o wc v' j') : (cc = 1 ↔ wc = 0) ∧ (cc = 2 ↔ wc = 2) ∧ (cc = 3 ↔ wc = 3) ∧ (cc = 4 ↔ wc = 4) ∧ (cc = 5 ↔ wc = 1) ∧ cc ≠ 0 := by
  rcases h with ⟨rfl, rfl⟩ | ⟨rfl, rfl, -⟩ | ⟨rfl, rfl⟩ | ⟨rfl, rfl⟩ | ⟨rfl, rfl, -⟩ <;> decide
theorem leave_sim {x m n nn a : Nat} {st : Nat → Nat} {op oa ob oc : Nat → Int32} {N : Nat} {th ra rb rc : Nat → Nat} {F : Nat} {fa : Nat → Nat} {f : FrT} {L : List FrT} {left took k : Nat} {S T0 : Sg} (h0 : MC x m n nn a st op oa ob oc N th ra rb rc F fa (f :: L) left took S T0) (hk : f.2.2.1 = some k) (hB : kd op (some k) ≠ 0) :
    ∃ S' o p, (∀ Q : Sg → Prop, Q S' → wX9_leaveBlock (x + 13) (some f.1) S Q) ∧ (o = 0 ∨ o = 1) ∧ ∀ T, MC x m n nn a st op oa ob oc N th ra rb rc F fa (f :: L) left took S T → ∃ T', (∀ Q : Int32 → Sg → Prop, Q (if o = 0 then 1 else 0) T' → wX11_over m (nI L.length) T Q) ∧ Res x m n nn a st op oa ob oc N th ra rb rc F fa o L p left took S' T' := by
  obtain ⟨hM0, hC0⟩ := h0
  obtain ⟨g, L', eL, er, ep1, ep2⟩ := lv_link hM0.2.2.2.2.2.2.1 hk hB
  obtain ⟨c1, c2, c3, c4, c5, c6, c7, c8, c9, c10, c11, -⟩ := fr_blk hM0.1 hM0.2.2.2.2.2.2.1.1 hk hB
  have hd : L.length + 1 ≤ 200 := hM0.2.2.2.2.1.2.2.2.2.2.2.2
  have h581 : fI S 581 (x + 13) = nI (L.length + 1) := hM0.2.2.2.2.1.2.2.2.2.2.1
  have hv : ∀ e, (b_at op oc n).2.2.2 k = some e → e < 2000 := fun e he => by have := b_vn.2.2 e he; omega
  have har : L.head?.map (·.1) = some g.1 := by rw [eL]; rfl
  have hW : WS x S (sFR S 580 (x + 13) (L.head?.map (·.1))) := WS_FR (by unfold wK; omega)
  have hp0 : fR (sPop x (L.head?.map (·.1)) L.length S) 580 (x + 13) = L.head?.map (·.1) := by unfold sPop; simp only [gs_FI, gs_FR]; rw [if_pos ⟨trivial, trivial⟩]
  have hsI : ∀ k', k' ≠ 581 → fI (sPop x (L.head?.map (·.1)) L.length S) k' (x + 13) = fI S k' (x + 13) := fun k' hk' => by unfold sPop; simp only [gs_FI, gs_FR]; rw [if_neg (by omega)]
  have hsL : fL (sPop x (L.head?.map (·.1)) L.length S) 585 (x + 13) = fL S 585 (x + 13) := by unfold sPop; simp only [gs_FI, gs_FR]
  have hsR : fR (sPop x (L.head?.map (·.1)) L.length S) 586 (x + 13) = fR S 586 (x + 13) := by unfold sPop; simp only [gs_FI, gs_FR]; rw [if_neg (by omega)]
  have mid : ∀ T, Mid x m n nn a st op oa ob oc N th ra rb rc F fa (f :: L) left took S T → ∀ p, Mid x m n nn a st op oa ob oc N th ra rb rc F fa L left took (sPop x (L.head?.map (·.1)) L.length S) (tOver m L.length p T) := fun T h p => Mid_W (Mid_pop (Mid_W h hW WT_rf)) WS_rf (WT_FI (by unfold tK; omega))
  have tov : ∀ T p, fI (tOver m L.length p T) 738 m = nI p ∧ (∀ k', k' ≠ 737 → k' ≠ 738 → fI (tOver m L.length p T) k' m = fI T k' m) ∧ fL (tOver m L.length p T) 741 m = fL T 741 m := by
    intro T p
    unfold tOver
    simp only [gs_FI]
    exact ⟨by rw [if_pos ⟨trivial, trivial⟩], fun k' q1 q2 => by rw [if_neg (by omega), if_neg (by omega)], trivial⟩
  generalize hSP : sPop x (L.head?.map (·.1)) L.length S = SP at *
  have hSP' : sPop x (some g.1) L.length S = SP := by rw [← har]; exact hSP
  by_cases z : fI S 584 (x + 13) = 1
  · refine ⟨sGo x (bH (rH op oc n f.2.1) (b_at op oc n) k) SP, 1, bH (rH op oc n f.2.1) (b_at op oc n) k, fun Q hQ => r_leave c3 c4 h581 c6 c7 c11 hv c5 (fun _ => ?_) (fun w => absurd z w), Or.inr rfl, fun T h => ?_⟩
    · rw [hSP]; exact hQ
    · obtain ⟨hM, hC⟩ := h
      obtain ⟨-, -, -, -, -, -, -, -, -, -, -, d1, d2, d3, d4, d5, d6, -⟩ := fr_blk hM.1 hM.2.2.2.2.2.2.1.1 hk hB
      have w0 : fI T 740 m = 0 := (CV_1 hC.1).1.mp z
      refine ⟨tOver m L.length (bH (rH op oc n f.2.1) (b_at op oc n) k) T, fun Q hQ => r_over hM.1.2.1 (by omega) d2 (by omega) d6 (by rw [if_pos w0]; rw [if_neg (by decide)] at hQ; exact hQ), Or.inr (Or.inl ⟨rfl, ?_, ?_⟩)⟩
      · unfold sGo
        exact Mid_W (mid T hM _) (WS_tr (WS_FI (by unfold wK; omega)) (WS_FI (by unfold wK; omega))) WT_rf
      · obtain ⟨t1, t2, t3⟩ := tov T (bH (rH op oc n f.2.1) (b_at op oc n) k)
        refine ⟨?_, ?_, t1, (t2 739 (by omega) (by omega)).trans hC.2.1, ?_, g, L', eL, ep1, ep2⟩
        · unfold sGo; simp only [gs_FI]; rw [if_pos ⟨trivial, trivial⟩]
        · unfold sGo; simp only [gs_FI]; rw [if_neg (by omega), if_pos ⟨trivial, trivial⟩]
        · unfold sGo; simp only [gs_FI]; exact hp0
  · refine ⟨SP, 0, 0, fun Q hQ => r_leave c3 c4 h581 c6 c7 c11 hv c5 (fun w => absurd w z) (fun _ => ?_), Or.inl rfl, fun T h => ?_⟩
    · rw [hSP]; exact hQ
    · obtain ⟨hM, hC⟩ := h
      obtain ⟨-, -, -, -, -, -, -, -, -, -, -, d1, d2, d3, d4, d5, d6, -⟩ := fr_blk hM.1 hM.2.2.2.2.2.2.1.1 hk hB
      have w0 : ¬ fI T 740 m = 0 := fun w => z ((CV_1 hC.1).1.mpr w)
      refine ⟨tOver m L.length (bH (rH op oc n f.2.1) (b_at op oc n) k) T, fun Q hQ => r_over hM.1.2.1 (by omega) d2 (by omega) d6 (by rw [if_neg w0]; rw [if_pos rfl] at hQ; exact hQ), Or.inl ⟨rfl, mid T hM _, ?_⟩⟩
      obtain ⟨t1, t2, t3⟩ := tov T (bH (rH op oc n f.2.1) (b_at op oc n) k)
      refine ⟨?_, (t2 739 (by omega) (by omega)).trans hC.2.1, hp0, by rw [eL]; exact fun w => by cases w⟩
      rw [hsI 584 (by omega), hsL, hsR, t2 740 (by omega) (by omega), t3, t2 742 (by omega) (by omega)]
      exact hC.1
