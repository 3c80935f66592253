/-! what comes to a trial -/
theorem rest_sim {x m n nn a : Nat} {st : Nat → Nat} {op oa ob oc : Nat → Int32} {N : Nat} {th ra rb rc : Nat → Nat} {F : Nat} {fa : Nat → Nat} {q r g : Nat} {L : List FrT} {left took k : Nat} {S T0 : Sg} (h0 : MC x m n nn a st op oa ob oc N th ra rb rc F fa ((q, r, some k, g) :: L) left took S T0) (h25 : op k = 25) (hg : g ≤ 1) :
    ∃ S' o L' p, (∀ Q : Sg → Prop, Q S' → wX9_settleTrial_b85 (x + 13) (some q) S Q) ∧ (o = 0 → L' = L) ∧ (o = 1 → wtL op L' < wtL op ((q, r, some k, g) :: L)) ∧ ∀ T, MC x m n nn a st op oa ob oc N th ra rb rc F fa ((q, r, some k, g) :: L) left took S T → ∃ T', (∀ Q : Int32 → Sg → Prop, Q (if o = 0 then 1 else 0) T' → wX11_comesOfTrial_b149 m (nI L.length) (nI k) T Q) ∧ Res x m n nn a st op oa ob oc N th ra rb rc F fa o L' p left took S' T' := by
  have hB : kd op (some k) ≠ 0 := kd_isB.mpr (Or.inl h25)
  have hkd : kd op (some k) = 1 := by unfold kd; dsimp only; rw [h25]; rfl
  obtain ⟨c1, c2, c3, c4, c5, c6, c7, c8, c9, c10, c11, -⟩ := fr_blk (k := k) h0.1.1 h0.1.2.2.2.2.2.2.1.1 rfl hB
  dsimp only at c3 c6
  cases he : (b_at op oc n).2.2.1 k with
  | none =>
    obtain ⟨S', o, p, q1, q2, q3⟩ := leave_sim h0 (k := k) rfl hB
    refine ⟨S', o, L, p, fun Q hQ => ?_, fun _ => rfl, fun _ => ?_, fun T hT => ?_⟩
    · unfold wX9_settleTrial_b85
      refine ⟨q, rfl, c3, st k, c6, c7, ?_⟩
      rw [c10, he, if_pos (by decide)]
      exact q1 Q hQ
    · show wtL op L < wt1 op (q, r, some k, g) + wtL op L
      have := (wt1_pos op (q, r, some k, g)).1
      omega
    · obtain ⟨T', r1, r2⟩ := q3 T hT
      refine ⟨T', fun Q hQ => ?_, r2⟩
      have hM := hT.1.1.2.1
      obtain ⟨-, -, -, -, -, -, -, -, -, -, -, d1, d2, d3, d4, -⟩ := fr_blk (k := k) hT.1.1 hT.1.2.2.2.2.2.2.1.1 rfl hB
      unfold wX11_comesOfTrial_b149
      refine ⟨m + 7, MX_r711 hM, MX_t7 hM, by rw [MX_l7 hM]; exact vp_n (by omega) (by omega), ?_⟩
      rw [n_cl (by omega), d4, he, if_neg (by decide)]
      exact r1 _ (if_r (P := fun r => Q r T') q2 hQ)
  | some e =>
    obtain ⟨S', q1, q3⟩ := finish_sim h0 h25 hg he
    refine ⟨S', 1, (q, r, some k, 2) :: L, e + 1, q1, fun z => absurd z (by decide), fun _ => ?_, fun T hT => ?_⟩
    · show wt1 op (q, r, some k, 2) + wtL op L < wt1 op (q, r, some k, g) + wtL op L
      have e1 : wt1 op (q, r, some k, 2) = 1 := by unfold wt1; dsimp only; rw [if_neg (by omega)]
      have e2 : wt1 op (q, r, some k, g) = 2 := by unfold wt1; dsimp only; rw [if_pos ⟨hkd, hg⟩]
      omega
    · obtain ⟨T', r1, r2⟩ := q3 T hT
      exact ⟨T', r1, Or.inr (Or.inl ⟨rfl, r2⟩)⟩
