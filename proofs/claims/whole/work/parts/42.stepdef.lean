/-! one step of a run, on both sides -/
def goB (m : Nat) (y7 y10 : Int32) (S : Sg) (Q : Sg → Prop) : Prop := (if (25 : Int32) ≤ y10 then (if y10 = (25 : Int32) then wX11_block m y7 y10 S (fun (S14 : Sg) => Q S14) else (if y10 = (29 : Int32) then wX11_block m y7 y10 S (fun (S17 : Sg) => Q S17) else (if y10 = (30 : Int32) then wX11_block m y7 y10 S (fun (S42 : Sg) => Q S42) else (if y10 = (35 : Int32) then wX11_call m y7 S (fun (S40 : Sg) => Q S40) else (if y10 = (32 : Int32) then wX11_goes_b163 m y7 y10 S Q else (if y10 = (33 : Int32) then wX11_goes_b163 m y7 y10 S Q else (if y10 = (34 : Int32) then wX11_goes_b163 m y7 y10 S Q else ∀ S38 : Sg, S38 = sFI S 738 m ((fI S 738 m) + (1 : Int32)) → Q S38))))))) else (if (7 : Int32) ≤ y10 then (if (14 : Int32) ≤ y10 then (if (22 : Int32) ≤ y10 then wX11_throwsAt m y7 S (fun (r46 : Int32) (S47 : Sg) => wX11_goOn m y7 r46 S47 (fun (S49 : Sg) => Q S49)) else wX11_withThings m y7 S (fun (r50 : Int32) (S51 : Sg) => wX11_goOn m y7 r50 S51 (fun (S53 : Sg) => Q S53))) else wX11_rows m y7 S (fun (r54 : Int32) (S55 : Sg) => wX11_goOn m y7 r54 S55 (fun (S57 : Sg) => Q S57))) else wX11_reckons m y7 S (fun (r58 : Int32) (S59 : Sg) => wX11_goOn m y7 r58 S59 (fun (S61 : Sg) => Q S61))))
/-- a step is taken, and is to be worked -/
def TK (x m n nn a : Nat) (st : Nat → Nat) (op oa ob oc : Nat → Int32) (N : Nat) (th ra rb rc : Nat → Nat) (F : Nat) (fa : Nat → Nat) (f : FrT) (L : List FrT) (p left took : Nat) (S T : Sg) : Prop := Mid x m n nn a st op oa ob oc N th ra rb rc F fa (f :: L) left took S T ∧ (fI S 584 (x + 13) = 0 ∧ fI S 582 (x + 13) = nI p ∧ fI T 738 m = nI p ∧ fI T 739 m = 1 ∧ fR S 580 (x + 13) = some f.1) ∧ (fS op oc n f ≤ p ∧ p < fE op oc n f) ∧ F + 1 ≤ took ∧ N + 1 ≤ a + took ∧ ∃ q, q + (ctL op (f :: L) + 1) ≤ took ∧ fI T 756 m = nI q
def StepS (x m n nn a : Nat) (st : Nat → Nat) (op oa ob oc : Nat → Int32) (N : Nat) (th ra rb rc : Nat → Nat) (F : Nat) (fa : Nat → Nat) (f : FrT) (L : List FrT) (p left took : Nat) (S : Sg) : Prop :=
  ∃ S1 S' t o N' th' ra' rb' rc' F' fa' L' p' left' took', (∀ Q : Sg → Prop, Q S1 → wX9_workStep (x + 13) (some f.1) (some (st p)) S Q) ∧ cR x 0 t (nI nn) S1 S' ∧ t ≤ 201 ∧ (o = 1 ∨ o = 2) ∧ (o = 1 → mu op left' L' ≤ mu op left (f :: L) + 2 ∧ left' ≤ left) ∧
    ∀ T, TK x m n nn a st op oa ob oc N th ra rb rc F fa f L p left took S T → ∃ T', (∀ Q : Sg → Prop, Q T' → goB m (nI p) (op p) T Q) ∧ Res x m n nn a st op oa ob oc N' th' ra' rb' rc' F' fa' o L' p' left' took' S' T'
theorem TK_p {x m n nn a : Nat} {st : Nat → Nat} {op oa ob oc : Nat → Int32} {N : Nat} {th ra rb rc : Nat → Nat} {F : Nat} {fa : Nat → Nat} {f : FrT} {L : List FrT} {p left took : Nat} {S T : Sg} (h : TK x m n nn a st op oa ob oc N th ra rb rc F fa f L p left took S T) : p < n ∧ n ≤ 2000 := by
  obtain ⟨-, -, p3, p4, -⟩ := fr_part h.1.2.2.2.2.2.2.1.1
  have := h.2.2.1.2
  exact ⟨by omega, (St_n h.1.1).1⟩
/-- what comes of the step goes down -/
theorem StepS_come {x m n nn a : Nat} {st : Nat → Nat} {op oa ob oc : Nat → Int32} {N : Nat} {th ra rb rc : Nat → Nat} {F : Nat} {fa : Nat → Nat} {f : FrT} {L : List FrT} {p left took : Nat} {S T0 : Sg} (h0 : TK x m n nn a st op oa ob oc N th ra rb rc F fa f L p left took S T0) {S1 : Sg} {N' : Nat} {th' ra' rb' rc' : Nat → Nat} {F' : Nat} {fa' : Nat → Nat} (hw : ∀ Q : Sg → Prop, Q S1 → wX9_workStep (x + 13) (some f.1) (some (st p)) S Q)
    (h : ∀ T, TK x m n nn a st op oa ob oc N th ra rb rc F fa f L p left took S T → ∃ T1, (∀ Q : Sg → Prop, wX11_comes m T1 (fun S => Q S) → goB m (nI p) (op p) T Q) ∧ MC x m n nn a st op oa ob oc N' th' ra' rb' rc' F' fa' (f :: L) left took S1 T1) : StepS x m n nn a st op oa ob oc N th ra rb rc F fa f L p left took S := by
  obtain ⟨T1, -, hm⟩ := h T0 h0
  obtain ⟨S', o, L', p', left', took', t, q1, q2, q3, q4, q5⟩ := comes_sim (nI nn) _ _ _ _ _ hm
  have hL : L.length + 1 ≤ 200 := h0.1.2.2.2.2.1.2.2.2.2.2.2.2
  rw [List.length_cons] at q2
  refine ⟨S1, S', t, o, N', th', ra', rb', rc', F', fa', L', p', left', took', hw, q1, by omega, q3, fun ho => ?_, fun T hT => ?_⟩
  · obtain ⟨v1, v2, v3⟩ := q4 ho
    exact ⟨by omega, v3⟩
  · obtain ⟨T1, w1, w2⟩ := h T hT
    obtain ⟨T', w3, w4⟩ := q5 T1 w2
    refine ⟨T', fun Q hQ => w1 Q ?_, w4⟩
    unfold wX11_comes
    exact w3 0 (by rw [List.length_cons]; omega) _ hQ
/-- the step is over, and the next one is at p + 1 -/
theorem StepS_on {x m n nn a : Nat} {st : Nat → Nat} {op oa ob oc : Nat → Int32} {N : Nat} {th ra rb rc : Nat → Nat} {F : Nat} {fa : Nat → Nat} {f : FrT} {L : List FrT} {p left took : Nat} {S : Sg} {S1 : Sg} {N' : Nat} {th' ra' rb' rc' : Nat → Nat} {F' : Nat} {fa' : Nat → Nat} (hw : ∀ Q : Sg → Prop, Q (sFI S1 582 (x + 13) (nI (p + 1))) → wX9_workStep (x + 13) (some f.1) (some (st p)) S Q)
    (h : ∀ T, TK x m n nn a st op oa ob oc N th ra rb rc F fa f L p left took S T → ∃ T1, (∀ Q : Sg → Prop, Q (sFI T1 738 m (nI (p + 1))) → goB m (nI p) (op p) T Q) ∧ Mid x m n nn a st op oa ob oc N' th' ra' rb' rc' F' fa' (f :: L) left took S1 T1 ∧ fI S1 584 (x + 13) = 0 ∧ fR S1 580 (x + 13) = some f.1 ∧ fI T1 739 m = 1) : StepS x m n nn a st op oa ob oc N th ra rb rc F fa f L p left took S := by
  refine ⟨_, _, 0, 1, N', th', ra', rb', rc', F', fa', f :: L, p + 1, left, took, hw, cR_rf, by omega, Or.inl rfl, fun _ => ⟨by omega, Nat.le_refl _⟩, fun T hT => ?_⟩
  obtain ⟨T1, w1, w2, w3, w4, w5⟩ := h T hT
  refine ⟨_, w1, Or.inr (Or.inl ⟨rfl, Mid_W w2 (WS_FI (by unfold wK; omega)) (WT_FI (by unfold tK; omega)), ?_, ?_, ?_, ?_, ?_, f, L, rfl, ?_, ?_⟩)⟩
  · simp only [gs_FI]; rw [if_neg (by omega)]; exact w3
  · simp only [gs_FI]; rw [if_pos ⟨trivial, trivial⟩]
  · simp only [gs_FI]; rw [if_pos ⟨trivial, trivial⟩]
  · simp only [gs_FI]; rw [if_neg (by omega)]; exact w5
  · simp only [gs_FI]; exact w4
  · have := hT.2.2.1; omega
  · have := hT.2.2.1; omega
theorem r_goOn0 {m p : Nat} {w : Int32} {T : Sg} {Q : Sg → Prop} (hw : w = 0) (h : Q (sFI T 738 m (nI (p + 1)))) : wX11_goOn m (nI p) w T Q := by
  unfold wX11_goOn
  rw [if_pos hw, nI_1]
  exact nm_e h
theorem r_goOnK {m F k : Nat} {T : Sg} {y : Int32} {Q : Sg → Prop} (hM : MX m T) (h745 : fI T 745 m = nI F) (hF : F ≤ 1000) (hk : k ≤ 9) (h : wX11_comes m (sFI (tFail m F (nI k) 0 T) 740 m 2) (fun S => Q S)) : wX11_goOn m y (nI (k + 1)) T Q := by
  unfold wX11_goOn
  rw [if_neg (nI_ne0 (by omega) (by omega)), if_neg (by rw [show (0 : Int32) = nI 0 from rfl, n_le (by omega) (by omega)]; omega), nI_s1]
  exact r_mfail hM h745 hF (nm_e h)
theorem r_goOnM {m : Nat} {T : Sg} {y : Int32} {Q : Sg → Prop} (h : wX11_comes m (sFI T 740 m 2) (fun S => Q S)) : wX11_goOn m y (-1) T Q := by
  unfold wX11_goOn
  rw [if_neg (by decide), if_pos (by decide)]
  exact nm_e h
/-- a step fails -/
theorem StepS_fail {x m n nn a : Nat} {st : Nat → Nat} {op oa ob oc : Nat → Int32} {N : Nat} {th ra rb rc : Nat → Nat} {F : Nat} {fa : Nat → Nat} {f : FrT} {L : List FrT} {p left took : Nat} {S T0 : Sg} (h0 : TK x m n nn a st op oa ob oc N th ra rb rc F fa f L p left took S T0) {k : Nat} (hk : k ≤ 9) {o : Option Nat} (hw : ∀ Q : Sg → Prop, Q (sFail x (nI k) o S) → wX9_workStep (x + 13) (some f.1) (some (st p)) S Q)
    (h : ∀ T, TK x m n nn a st op oa ob oc N th ra rb rc F fa f L p left took S T → ∃ c, hrel F fa o c ∧ ∀ Q : Sg → Prop, wX11_comes m (sFI (tFail m F (nI k) c T) 740 m 2) (fun S => Q S) → goB m (nI p) (op p) T Q) : StepS x m n nn a st op oa ob oc N th ra rb rc F fa f L p left took S := by
  refine StepS_come (N' := N) (th' := th) (ra' := ra) (rb' := rb) (rc' := rc) (F' := F + 1) (fa' := fun j => if j = F + 1 then sz S else fa j) h0 hw (fun T hT => ?_)
  obtain ⟨c, w1, w2⟩ := h T hT
  exact ⟨_, w2, fail_MC hT.1 hT.2.2.2.1 hk w1 hT.2.1.2.2.2.1 hT.2.1.2.2.2.2 (fun w => by cases w)⟩
