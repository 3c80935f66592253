/-! what comes to an IF, to a LOOP -/
def cBd (m : Nat) (y3 y6 : Int32) (T : Sg) (Q : Int32 → Sg → Prop) : Prop := if y6 = 0 then wX11_comesOfRoutine m y3 T Q else if y6 = 1 then wX11_comesOfTrial m y3 T Q else if y6 = 2 then wX11_comesOfLoop m y3 T Q else wX11_over m y3 T Q
/-- one frame's turn, on both sides -/
def SimS (x m n nn a : Nat) (st : Nat → Nat) (op oa ob oc : Nat → Int32) (N : Nat) (th ra rb rc : Nat → Nat) (F : Nat) (fa : Nat → Nat) (f : FrT) (L : List FrT) (left took : Nat) (S : Sg) : Prop :=
  ∃ S' o L' p left' took', (∀ Q : Sg → Prop, Q S' → wX9_settle (x + 13) (some f.1) S Q) ∧ (o = 0 → L' = L ∧ left' = left ∧ took' = took) ∧ (o = 1 → mu op left' L' ≤ mu op left (f :: L) ∧ (fI S 584 (x + 13) = 1 → mu op left' L' < mu op left (f :: L)) ∧ left' ≤ left) ∧
    ∀ T, MC x m n nn a st op oa ob oc N th ra rb rc F fa (f :: L) left took S T → ∃ T', (∀ Q : Int32 → Sg → Prop, Q (if o = 0 then 1 else 0) T' → cBd m (nI L.length) (aI T (m + 20) L.length) T Q) ∧ Res x m n nn a st op oa ob oc N th ra rb rc F fa o L' p left' took' S' T'
theorem mu_pop {op : Nat → Int32} {left : Nat} {f : FrT} {L : List FrT} : mu op left L < mu op left (f :: L) := by
  have h : wtL op (f :: L) = wt1 op f + wtL op L := rfl
  have := (wt1_pos op f).1
  unfold mu
  omega
theorem if_sim {x m n nn a : Nat} {st : Nat → Nat} {op oa ob oc : Nat → Int32} {N : Nat} {th ra rb rc : Nat → Nat} {F : Nat} {fa : Nat → Nat} {f : FrT} {L : List FrT} {left took k : Nat} {S T0 : Sg} (h0 : MC x m n nn a st op oa ob oc N th ra rb rc F fa (f :: L) left took S T0) (hk : f.2.2.1 = some k) (h30 : op k = 30) : SimS x m n nn a st op oa ob oc N th ra rb rc F fa f L left took S := by
  have hB : kd op (some k) ≠ 0 := kd_isB.mpr (Or.inr (Or.inr h30))
  have hkd : kd op (some k) = 3 := by unfold kd; dsimp only; rw [h30]; rfl
  obtain ⟨c1, c2, c3, c4, c5, c6, c7, c8, c9, c10, c11, -⟩ := fr_blk h0.1.1 h0.1.2.2.2.2.2.2.1.1 hk hB
  obtain ⟨S', o, p, q1, q2, q3⟩ := leave_sim h0 hk hB
  refine ⟨S', o, L, p, left, took, fun Q hQ => ?_, fun _ => ⟨rfl, rfl, rfl⟩, fun _ => ⟨Nat.le_of_lt mu_pop, fun _ => mu_pop, Nat.le_refl _⟩, fun T hT => ?_⟩
  · unfold wX9_settle
    refine ⟨f.1, rfl, c3, st k, c6, c7, ?_⟩
    rw [c8, h30, if_neg (by decide), if_neg (by decide), if_pos rfl]
    exact q1 Q hQ
  · obtain ⟨T', r1, r2⟩ := q3 T hT
    refine ⟨T', fun Q hQ => ?_, r2⟩
    obtain ⟨-, -, -, -, -, -, -, -, -, -, -, d1, -⟩ := fr_blk hT.1.1 hT.1.2.2.2.2.2.2.1.1 hk hB
    rw [d1, hkd]
    unfold cBd
    rw [if_neg (by decide), if_neg (by decide), if_neg (by decide)]
    exact r1 Q hQ
theorem if_r {o : Nat} {P : Int32 → Prop} (ho : o = 0 ∨ o = 1) (h : P (if o = 0 then 1 else 0)) : ((if o = 0 then (1 : Int32) else 0) = 0 ∨ (if o = 0 then (1 : Int32) else 0) = 1) ∧ P (if o = 0 then 1 else 0) := by
  refine ⟨?_, h⟩
  rcases ho with rfl | rfl
  · exact Or.inr rfl
  · exact Or.inl rfl
theorem loop_sim {x m n nn a : Nat} {st : Nat → Nat} {op oa ob oc : Nat → Int32} {N : Nat} {th ra rb rc : Nat → Nat} {F : Nat} {fa : Nat → Nat} {f : FrT} {L : List FrT} {left took k : Nat} {S T0 : Sg} (h0 : MC x m n nn a st op oa ob oc N th ra rb rc F fa (f :: L) left took S T0) (hk : f.2.2.1 = some k) (h29 : op k = 29) : SimS x m n nn a st op oa ob oc N th ra rb rc F fa f L left took S := by
  have hB : kd op (some k) ≠ 0 := kd_isB.mpr (Or.inr (Or.inl h29))
  have hkd : kd op (some k) = 2 := by unfold kd; dsimp only; rw [h29]; rfl
  have hS := h0.1.1.1
  obtain ⟨c1, c2, c3, c4, c5, c6, c7, c8, c9, c10, c11, -⟩ := fr_blk h0.1.1 h0.1.2.2.2.2.2.2.1.1 hk hB
  have hd : L.length + 1 ≤ 200 := h0.1.2.2.2.2.1.2.2.2.2.2.2.2
  obtain ⟨k1, k2, k3, k4, k5, k6, k7, k8⟩ := h0.1.2.2.2.2.1
  have h580 : fR S 580 (x + 13) = some f.1 := h0.2.2.2.1
  -- the class comes here
  have cls : ∀ Q : Sg → Prop, wX9_settleLoop (x + 13) (some f.1) S Q → wX9_settle (x + 13) (some f.1) S Q := by
    intro Q hQ
    unfold wX9_settle
    refine ⟨f.1, rfl, c3, st k, c6, c7, ?_⟩
    rw [c8, h29, if_neg (by decide), if_pos rfl]
    exact hQ
  have ref : ∀ T, MC x m n nn a st op oa ob oc N th ra rb rc F fa (f :: L) left took S T → ∀ Q : Int32 → Sg → Prop, (if (fI T 740 m) = 0 then wX11_takes m T (fun (r5 : Int32) (S6 : Sg) => (if r5 = 0 then Q (0 : Int32) S6 else wX11_looks m (nI k) S6 (fun (S9 : Sg) => Q (0 : Int32) S9))) else (if (fI T 740 m) = (4 : Int32) then wX11_takes m T (fun (r19 : Int32) (S20 : Sg) => (if r19 = 0 then Q (0 : Int32) S20 else wX11_looks m (nI k) S20 (fun (S23 : Sg) => Q (0 : Int32) S23))) else (if (fI T 740 m) = (3 : Int32) then ∀ S15 : Sg, S15 = sFI T 740 m (0 : Int32) → wX11_over m (nI L.length) S15 (fun (r16 : Int32) (S17 : Sg) => (r16 = 0 ∨ r16 = 1) ∧ Q r16 S17) else wX11_over m (nI L.length) T (fun (r12 : Int32) (S13 : Sg) => (r12 = 0 ∨ r12 = 1) ∧ Q r12 S13)))) → cBd m (nI L.length) (aI T (m + 20) L.length) T Q := by
    intro T hT Q hQ
    have hM := hT.1.1.2.1
    obtain ⟨-, -, -, -, -, -, -, -, -, -, -, d1, d2, -⟩ := fr_blk hT.1.1 hT.1.2.2.2.2.2.2.1.1 hk hB
    rw [d1, hkd]
    unfold cBd
    rw [if_neg (by decide), if_neg (by decide), if_pos (by decide)]
    unfold wX11_comesOfLoop
    refine ⟨m + 21, MX_r730 hM, MX_t21 hM, by rw [MX_l21 hM]; exact vp_n (by omega) (by omega), nm_e ?_⟩
    rw [n_cl (by omega), d2]
    exact hQ
  -- a step and a look
  have turn : (fI S 584 (x + 13) = 1 ∨ fI S 584 (x + 13) = 4) → SimS x m n nn a st op oa ob oc N th ra rb rc F fa f L left took S := by
    intro hc
    have clt : ∀ Q : Sg → Prop, wX9_takeStep (x + 13) S (fun (r2 : Int32) (S3 : Sg) => (if r2 = 0 then Q S3 else wX9_look (x + 13) (some f.1) S3 (fun (S6 : Sg) => Q S6))) → wX9_settleLoop (x + 13) (some f.1) S Q := by
      intro Q hQ
      unfold wX9_settleLoop
      by_cases z : fI S 584 (x + 13) = 1
      · rw [if_pos z]; exact hQ
      · rw [if_neg z, if_pos (hc.resolve_left z)]; exact hQ
    have ret : ∀ T, MC x m n nn a st op oa ob oc N th ra rb rc F fa (f :: L) left took S T → ∀ Q : Int32 → Sg → Prop, wX11_takes m T (fun (r5 : Int32) (S6 : Sg) => (if r5 = 0 then Q (0 : Int32) S6 else wX11_looks m (nI k) S6 (fun (S9 : Sg) => Q (0 : Int32) S9))) → cBd m (nI L.length) (aI T (m + 20) L.length) T Q := by
      intro T hT Q hQ
      refine ref T hT Q ?_
      obtain ⟨v1, v2, v3, v4, v5, v6⟩ := CV_1 hT.2.1
      rcases hc with z | z
      · rw [if_pos (v1.mp z)]; exact hQ
      · rw [if_neg (fun w => by rw [v1.mpr w] at z; exact absurd z (by decide)), if_pos (v4.mp z)]; exact hQ
    cases left with
    | zero =>
      refine ⟨sStop x 3 S, 2, L, 0, 0, took, fun Q hQ => cls Q (clt Q (r_takeStep hS (by omega) k3 (fun l hl => by omega) (fun _ => ?_))), fun z => absurd z (by decide), fun z => absurd z (by decide), fun T hT => ⟨tStop m 3 T, fun Q hQ => ret T hT Q ?_, Or.inr (Or.inr ⟨rfl, stop_rel 3 hT.1⟩)⟩⟩
      · rw [if_pos rfl]; exact hQ
      · obtain ⟨-, -, -, e4, e5, -⟩ := hT.1.2.2.2.2.1
        refine r_takes (by omega) e4 e5 (fun l hl => by omega) (fun _ => ?_)
        rw [if_pos rfl]
        rw [if_neg (by decide)] at hQ
        exact hQ
    | succ l =>
      have hM1 := Mid_take h0.1
      have h580' : fR (sFI S 583 (x + 13) (nI l)) 580 (x + 13) = some f.1 := by simp only [gs_FI]; exact h580
      obtain ⟨S', L', p, q1, q2, q3⟩ := look_sim hM1 hk h29 h580'
      have hmu : mu op l L' < mu op (l + 1) (f :: L) := by unfold mu; omega
      refine ⟨S', 1, L', p, l, took + 1, fun Q hQ => cls Q (clt Q (r_takeStep hS (by omega) k3 (fun l' hl => ?_) (fun z => by omega))), fun z => absurd z (by decide), fun _ => ⟨Nat.le_of_lt hmu, fun _ => hmu, Nat.le_succ _⟩, fun T hT => ?_⟩
      · have e : l' = l := by omega
        subst e
        rw [if_neg (by decide)]
        exact q1 Q hQ
      · obtain ⟨-, -, -, e4, e5, -⟩ := hT.1.2.2.2.2.1
        have e739 : fI (sFI (sFI T 746 m (nI l)) 747 m (nI (took + 1))) 739 m = 1 := by simp only [gs_FI]; rw [if_neg (by omega), if_neg (by omega)]; exact hT.2.2.1
        obtain ⟨T', r1, r2⟩ := q3 _ (Mid_take hT.1) e739
        refine ⟨T', fun Q hQ => ret T hT Q (r_takes (by omega) e4 e5 (fun l' hl => ?_) (fun z => by omega)), Or.inr (Or.inl ⟨rfl, r2⟩)⟩
        have e : l' = l := by omega
        subst e
        rw [if_neg (by decide)]
        rw [if_neg (by decide)] at hQ
        exact r1 (fun S9 => Q 0 S9) hQ
  by_cases z1 : fI S 584 (x + 13) = 1
  · exact turn (Or.inl z1)
  by_cases z4 : fI S 584 (x + 13) = 4
  · exact turn (Or.inr z4)
  clear turn
  by_cases z3 : fI S 584 (x + 13) = 3
  · -- BREAK
    have hW : WS x S (sFI S 584 (x + 13) 1) := WS_FI (by unfold wK; omega)
    have hWT : ∀ T, WT m T (sFI T 740 m 0) := fun T => WT_FI (by unfold tK; omega)
    have hC : ∀ T, MC x m n nn a st op oa ob oc N th ra rb rc F fa (f :: L) left took S T → MC x m n nn a st op oa ob oc N th ra rb rc F fa (f :: L) left took (sFI S 584 (x + 13) 1) (sFI T 740 m 0) := by
      intro T hT
      refine ⟨Mid_W hT.1 hW (hWT T), ?_, ?_, ?_, hT.2.2.2.2⟩
      · refine Or.inl ⟨?_, ?_⟩
        · simp only [gs_FI]; rw [if_pos ⟨trivial, trivial⟩]
        · simp only [gs_FI]; rw [if_pos ⟨trivial, trivial⟩]
      · simp only [gs_FI]; rw [if_neg (by omega)]; exact hT.2.2.1
      · simp only [gs_FI]; exact hT.2.2.2.1
    obtain ⟨S', o, p, q1, q2, q3⟩ := leave_sim (hC T0 h0) hk hB
    refine ⟨S', o, L, p, left, took, fun Q hQ => cls Q ?_, fun _ => ⟨rfl, rfl, rfl⟩, fun _ => ⟨Nat.le_of_lt mu_pop, fun _ => mu_pop, Nat.le_refl _⟩, fun T hT => ?_⟩
    · unfold wX9_settleLoop
      rw [if_neg z1, if_neg z4, if_pos z3]
      exact nm_e (q1 Q hQ)
    · obtain ⟨T', r1, r2⟩ := q3 _ (hC T hT)
      obtain ⟨v1, v2, v3, v4, v5, v6⟩ := CV_1 hT.2.1
      refine ⟨T', fun Q hQ => ref T hT Q ?_, r2⟩
      rw [if_neg (fun w => z1 (v1.mpr w)), if_neg (fun w => z4 (v4.mpr w)), if_pos (v3.mp z3)]
      exact nm_e (r1 _ (if_r (P := fun r => Q r T') q2 hQ))
  · obtain ⟨S', o, p, q1, q2, q3⟩ := leave_sim h0 hk hB
    refine ⟨S', o, L, p, left, took, fun Q hQ => cls Q ?_, fun _ => ⟨rfl, rfl, rfl⟩, fun _ => ⟨Nat.le_of_lt mu_pop, fun _ => mu_pop, Nat.le_refl _⟩, fun T hT => ?_⟩
    · unfold wX9_settleLoop
      rw [if_neg z1, if_neg z4, if_neg z3]
      exact q1 Q hQ
    · obtain ⟨T', r1, r2⟩ := q3 _ hT
      obtain ⟨v1, v2, v3, v4, v5, v6⟩ := CV_1 hT.2.1
      refine ⟨T', fun Q hQ => ref T hT Q ?_, r2⟩
      rw [if_neg (fun w => z1 (v1.mpr w)), if_neg (fun w => z4 (v4.mpr w)), if_neg (fun w => z3 (v3.mpr w))]
      exact r1 _ (if_r (P := fun r => Q r T') q2 hQ)
