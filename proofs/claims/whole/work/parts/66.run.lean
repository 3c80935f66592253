/-! the layout is there; the run -/
theorem lay_ex {m n : Nat} (T : Sg) : ∃ T0, LA m T T0 ∧ LY m n T0 := by
  let op := aI T (m + 1)
  let c := aI T (m + 4)
  let ml := mk_l op c n
  have hto : ∀ b, ∃ e, ∀ r, r < ml.length → ml.getD r 0 < b → b < rE n ml r → e = rE n ml r := by
    intro b
    by_cases h : ∃ r, r < ml.length ∧ ml.getD r 0 < b ∧ b < rE n ml r
    · obtain ⟨r, h1, h2, h3⟩ := h
      refine ⟨rE n ml r, fun r' k1 k2 k3 => ?_⟩
      rcases Nat.lt_trichotomy r r' with w | w | w
      · have := mk_dis (op := op) (c := c) (n := n) w k1
        have e1 : rE n ml r ≤ ml.getD r' 0 := this
        omega
      · rw [w]
      · have := mk_dis (op := op) (c := c) (n := n) w h1
        have e1 : rE n ml r' ≤ ml.getD r 0 := this
        omega
    · exact ⟨0, fun r k1 k2 k3 => absurd ⟨r, k1, k2, k3⟩ h⟩
  obtain ⟨to, hto⟩ := Classical.axiomOfChoice hto
  let s := b_at op c n
  let A : Nat → Nat → Int32 := fun q i => if q = m + 5 then eV (to i) (s.2.2.2 i) else if q = m + 6 then opI (s.2.1 i) else if q = m + 7 then opI (s.2.2.1 i) else if q = m + 8 then hV (to i) (s.2.2.2 i) else if q = m + 10 then nI (ml.getD i 0 + 1) else if q = m + 11 then nI (rE n ml i) else aI T q i
  have a1 : A (m + 1) = op := funext fun i => by
    show (if _ then _ else _) = _
    rw [if_neg (by omega), if_neg (by omega), if_neg (by omega), if_neg (by omega), if_neg (by omega), if_neg (by omega)]
  have a4 : A (m + 4) = c := funext fun i => by
    show (if _ then _ else _) = _
    rw [if_neg (by omega), if_neg (by omega), if_neg (by omega), if_neg (by omega), if_neg (by omega), if_neg (by omega)]
  have a5 : ∀ i, A (m + 5) i = eV (to i) (s.2.2.2 i) := fun i => by
    show (if _ then _ else _) = _
    rw [if_pos rfl]
  have a6 : ∀ i, A (m + 6) i = opI (s.2.1 i) := fun i => by
    show (if _ then _ else _) = _
    rw [if_neg (by omega), if_pos rfl]
  have a7 : ∀ i, A (m + 7) i = opI (s.2.2.1 i) := fun i => by
    show (if _ then _ else _) = _
    rw [if_neg (by omega), if_neg (by omega), if_pos rfl]
  have a8 : ∀ i, A (m + 8) i = hV (to i) (s.2.2.2 i) := fun i => by
    show (if _ then _ else _) = _
    rw [if_neg (by omega), if_neg (by omega), if_neg (by omega), if_pos rfl]
  have a10 : ∀ i, A (m + 10) i = nI (ml.getD i 0 + 1) := fun i => by
    show (if _ then _ else _) = _
    rw [if_neg (by omega), if_neg (by omega), if_neg (by omega), if_neg (by omega), if_pos rfl]
  have a11 : ∀ i, A (m + 11) i = nI (rE n ml i) := fun i => by
    show (if _ then _ else _) = _
    rw [if_neg (by omega), if_neg (by omega), if_neg (by omega), if_neg (by omega), if_neg (by omega), if_pos rfl]
  have aO : ∀ q i, (q < m + 5 ∨ m + 11 < q) → A q i = aI T q i := fun q i h => by
    show (if _ then _ else _) = _
    rw [if_neg (by omega), if_neg (by omega), if_neg (by omega), if_neg (by omega), if_neg (by omega), if_neg (by omega)]
  clear_value A
  refine ⟨(tg T, ln T, fun k q => if k = 716 ∧ q = m then nI ml.length else fI T k q, fL T, fR T, A, aL T, aR T, sz T), ⟨rfl, rfl, rfl, rfl, rfl, rfl, rfl, fun k q h => if_neg (by omega), aO⟩, ?_⟩
  show LY m n (tg T, ln T, fun k q => if k = 716 ∧ q = m then nI ml.length else fI T k q, fL T, fR T, A, aL T, aR T, sz T)
  have e1 : aI (tg T, ln T, (fun k q => if k = 716 ∧ q = m then nI ml.length else fI T k q), fL T, fR T, A, aL T, aR T, sz T) = A := rfl
  have e2 : fI (tg T, ln T, (fun k q => if k = 716 ∧ q = m then nI ml.length else fI T k q), fL T, fR T, A, aL T, aR T, sz T) 716 m = nI ml.length := if_pos ⟨rfl, rfl⟩
  generalize (tg T, ln T, (fun k q => if k = 716 ∧ q = m then nI ml.length else fI T k q), fL T, fR T, A, aL T, aR T, sz T) = T0 at *
  unfold LY LYr LYb bW
  rw [e1, e2, a1, a4]
  refine ⟨rfl, fun r _ => ⟨a10 r, a11 r⟩, fun r hr b h1 h2 _ => ⟨a6 b, a7 b, ?_, ?_⟩⟩
  · rw [a5, hto b r hr h1 h2]
  · rw [a8, hto b r hr h1 h2]
theorem run_sim {x m n nn a : Nat} {st : Nat → Nat} {op oa ob oc : Nat → Int32} : ∀ (M : Nat) (N : Nat) (th ra rb rc : Nat → Nat) (F : Nat) (fa : Nat → Nat) (L : List FrT) (p left took : Nat) (S T0 : Sg), mu op left L ≤ M → MW x m n nn a st op oa ob oc N th ra rb rc F fa L p left took S T0 →
    ∃ S' left' took' w t, cR x w t (nI nn) S S' ∧ t ≤ 203 * M ∧ w ≤ left ∧ ∀ T, MW x m n nn a st op oa ob oc N th ra rb rc F fa L p left took S T → ∃ T', (∀ k, k + M ≤ 5000 → ∀ Q : Int32 → Sg → Prop, wX11_run_b85 m T' Q → ∃ fu, wX11_run_b61 fu m (nI k) T Q) ∧ Ov x m n nn a st op oa ob oc left' took' S' T' := by
  intro M
  induction M with
  | zero =>
    intro N th ra rb rc F fa L p left took S T0 hM h
    obtain ⟨-, -, -, -, -, -, f, L', rfl, -⟩ := h
    have h1 : wtL op (f :: L') = wt1 op f + wtL op L' := rfl
    have := (wt1_pos op f).1
    unfold mu at hM
    omega
  | succ M ih =>
    intro N th ra rb rc F fa L p left took S T0 hM h
    obtain ⟨S1, o, N1, th1, ra1, rb1, rc1, F1, fa1, L1, p1, left1, took1, w, t, q1, q2, q3, q4, q5, q6⟩ := goes_sim h
    have stp : ∀ T T1, MW x m n nn a st op oa ob oc N th ra rb rc F fa L p left took S T → (∀ Q : Sg → Prop, Q T1 → wX11_goes m T Q) → ∀ k fu, k + (M + 1) ≤ 5000 → ∀ Q : Int32 → Sg → Prop, wX11_run_b61 fu m (nI (k + 1)) T1 Q → wX11_run_b61 (fu + 1) m (nI k) T Q := by
      intro T T1 hT hg k fu hk Q hQ
      unfold wX11_run_b61
      rw [if_neg (by rw [show (5000 : Int32) = nI 5000 from rfl, n_le (by omega) (by omega)]; omega), hT.2.2.2.2.1, if_neg (by decide), nI_1]
      exact hg _ (nm_e hQ)
    obtain ⟨T1, -, r2⟩ := q6 T0 h
    rcases q3 with rfl | rfl
    · obtain ⟨v1, v2⟩ := q5 rfl
      have hmw : ∀ T', Res x m n nn a st op oa ob oc N1 th1 ra1 rb1 rc1 F1 fa1 1 L1 p1 left1 took1 S1 T' → MW x m n nn a st op oa ob oc N1 th1 ra1 rb1 rc1 F1 fa1 L1 p1 left1 took1 S1 T' := by
        intro T' hr
        rcases hr with ⟨h, -⟩ | ⟨-, h⟩ | ⟨h, -⟩
        · exact absurd h (by decide)
        · exact h
        · exact absurd h (by decide)
      obtain ⟨S', left', took', w', t', u1, u2, u3, u4⟩ := ih N1 th1 ra1 rb1 rc1 F1 fa1 L1 p1 left1 took1 S1 T1 (by omega) (hmw T1 r2)
      refine ⟨S', left', took', w + w', t + t', cR_tr q1 u1, by omega, by omega, fun T hT => ?_⟩
      obtain ⟨T2, g1, g2⟩ := q6 T hT
      obtain ⟨T', g3, g4⟩ := u4 T2 (hmw T2 g2)
      refine ⟨T', fun k hk Q hQ => ?_, g4⟩
      obtain ⟨fu, hfu⟩ := g3 (k + 1) (by omega) Q hQ
      exact ⟨fu + 1, stp T T2 hT g1 k fu hk Q hfu⟩
    · refine ⟨S1, left1, took1, w, t, q1, by omega, q4, fun T hT => ?_⟩
      obtain ⟨T2, g1, g2⟩ := q6 T hT
      have hov : Ov x m n nn a st op oa ob oc left1 took1 S1 T2 := by
        rcases g2 with ⟨h, -⟩ | ⟨h, -⟩ | ⟨-, h⟩
        · exact absurd h (by decide)
        · exact absurd h (by decide)
        · exact h
      refine ⟨T2, fun k hk Q hQ => ⟨2, stp T T2 hT g1 k 1 hk Q ?_⟩, hov⟩
      obtain ⟨_, _, _, _, _, _, _, -, -, -, -, -, -, -, h739, -⟩ := hov
      unfold wX11_run_b61
      by_cases c : (5000 : Int32) ≤ nI (k + 1)
      · rw [if_pos c]; exact hQ
      · rw [if_neg c, if_pos h739]; exact hQ
