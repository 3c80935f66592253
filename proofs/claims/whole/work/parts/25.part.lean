/-! the parts of a block in its routine -/
def bE (hi : Nat) (s : bS) (k : Nat) : Nat := (s.2.2.2 k).getD hi
def tE (hi : Nat) (s : bS) (k : Nat) : Nat := (s.2.2.1 k).getD (bE hi s k)
def pE (hi : Nat) (s : bS) (k g : Nat) : Nat := if g = 0 then (s.2.1 k).getD (tE hi s k) else if g = 1 then tE hi s k else bE hi s k
def pS (s : bS) (k g : Nat) : Nat := if g = 0 then k + 1 else if g = 1 then (s.2.1 k).getD 0 + 1 else (s.2.2.1 k).getD 0 + 1
def bH (hi : Nat) (s : bS) (k : Nat) : Nat := match s.2.2.2 k with
  | none => hi
  | some e => e + 1
theorem eV_bE (hi : Nat) (s : bS) (k : Nat) : eV hi (s.2.2.2 k) = nI (bE hi s k) := by
  unfold bE
  cases s.2.2.2 k <;> rfl
theorem hV_bH (hi : Nat) (s : bS) (k : Nat) : hV hi (s.2.2.2 k) = nI (bH hi s k) := by
  unfold bH
  cases s.2.2.2 k <;> rfl
def bR (op : Nat → Int32) (hi : Nat) (s : bS) : Prop := ∀ b, b < hi →
  (∀ e, s.2.2.2 b = some e → b < e ∧ e < hi ∧ nI1 op s b e ∧ (∀ p, s.2.1 b = some p → p < e) ∧ ∀ f, s.2.2.1 b = some f → f < e) ∧
  (∀ p, s.2.1 b = some p → op b = 25 ∧ b < p ∧ p < hi ∧ nI1 op s b p ∧ ∀ f, s.2.2.1 b = some f → p < f) ∧
  (∀ f, s.2.2.1 b = some f → op b = 25 ∧ b < f ∧ f < hi ∧ nI1 op s b f)
theorem bR_of {op c : Nat → Int32} {n r : Nat} (hr : r < (mk_l op c n).length) : bR op (rE n (mk_l op c n) r) (b_at op c n) := by
  intro b hb
  have he : ∀ k, k < rE n (mk_l op c n) r → _ := fun k hk => b_end (k := k) hr hk
  obtain ⟨-, -, i3, i4, i5, -⟩ := bN_at op c (rE n (mk_l op c n) r)
  generalize rE n (mk_l op c n) r = hi at *
  have tr : ∀ b v, v < hi → nI1 op (b_at op c hi) b v → nI1 op (b_at op c n) b v := by
    intro b v hv h k q1 q2 q3
    obtain ⟨e, e1, e2⟩ := h k q1 q2 q3
    exact ⟨e, (he k (by omega)).2.2.trans e1, e2⟩
  obtain ⟨h1, h2, h3⟩ := he b hb
  rw [h1, h2, h3]
  refine ⟨fun e q => ?_, fun p q => ?_, fun f q => ?_⟩
  · obtain ⟨a1, a2, a3, a4⟩ := i3 b e q
    exact ⟨a1, a2, tr _ _ a2 a3, a4⟩
  · obtain ⟨a1, a2, a3, a4, a5⟩ := i4 b p q
    exact ⟨a1, a2, a3, tr _ _ a3 a4, a5⟩
  · obtain ⟨a1, a2, a3, a4⟩ := i5 b f q
    exact ⟨a1, a2, a3, tr _ _ a3 a4⟩
theorem bR_1 {op : Nat → Int32} {hi k : Nat} {s : bS} (h : bR op hi s) (hk : k < hi) : k < bE hi s k ∧ bE hi s k ≤ hi ∧ k < bH hi s k ∧ bH hi s k ≤ hi ∧ bE hi s k ≤ bH hi s k ∧ k < tE hi s k ∧ tE hi s k ≤ bE hi s k ∧ k < pE hi s k 0 ∧ pE hi s k 0 ≤ tE hi s k := by
  obtain ⟨h3, h1, h2⟩ := h k hk
  have g : k < bE hi s k ∧ bE hi s k ≤ hi ∧ k < bH hi s k ∧ bH hi s k ≤ hi ∧ bE hi s k ≤ bH hi s k ∧ (∀ p, s.2.1 k = some p → p < bE hi s k) ∧ ∀ f, s.2.2.1 k = some f → f < bE hi s k := by
    unfold bE bH
    cases q : s.2.2.2 k with
    | none => exact ⟨hk, Nat.le_refl _, hk, Nat.le_refl _, Nat.le_refl _, fun p hp => (h1 p hp).2.2.1, fun f hf => (h2 f hf).2.2.1⟩
    | some e =>
      obtain ⟨a1, a2, -, a4, a5⟩ := h3 e q
      exact ⟨a1, Nat.le_of_lt a2, Nat.lt_succ_of_lt a1, a2, Nat.le_succ _, a4, a5⟩
  obtain ⟨g1, g2, g3, g4, g5, g6, g7⟩ := g
  have t : k < tE hi s k ∧ tE hi s k ≤ bE hi s k ∧ ∀ p, s.2.1 k = some p → p < tE hi s k := by
    unfold tE
    cases q : s.2.2.1 k with
    | none => exact ⟨g1, Nat.le_refl _, g6⟩
    | some f => exact ⟨(h2 f q).2.1, Nat.le_of_lt (g7 f q), fun p hp => (h1 p hp).2.2.2.2 f q⟩
  refine ⟨g1, g2, g3, g4, g5, t.1, t.2.1, ?_, ?_⟩
  · unfold pE
    rw [if_pos rfl]
    cases q : s.2.1 k with
    | none => exact t.1
    | some p => exact (h1 p q).2.1
  · unfold pE
    rw [if_pos rfl]
    cases q : s.2.1 k with
    | none => exact Nat.le_refl _
    | some p => exact Nat.le_of_lt (t.2.2 p q)
theorem bR_part {op : Nat → Int32} {hi k g : Nat} {s : bS} (h : bR op hi s) (hk : k < hi) (hg : g ≤ 2) (g1 : g = 1 → ∃ p, s.2.1 k = some p) (g2 : g = 2 → ∃ f, s.2.2.1 k = some f) : k < pS s k g ∧ pS s k g ≤ pE hi s k g ∧ pE hi s k g ≤ hi ∧ ∀ k', pS s k g ≤ k' → k' < pE hi s k g → isB (op k') → bH hi s k' ≤ pE hi s k g := by
  obtain ⟨a1, a2, a3, a4, a5, a6, a7, a8, a9⟩ := bR_1 h hk
  obtain ⟨h3, h1, h2⟩ := h k hk
  have ins : ∀ v k', nI1 op s k v → k < k' → k' < v → isB (op k') → bH hi s k' ≤ v := by
    intro v k' q1 q2 q3 q4
    obtain ⟨e, e1, e2⟩ := q1 k' q2 q3 q4
    unfold bH; rw [e1]; exact e2
  have inB : ∀ k', k < k' → k' < bE hi s k → isB (op k') → bH hi s k' ≤ bE hi s k := by
    intro k' q2 q3 q4
    cases q : s.2.2.2 k with
    | none =>
      have e : bE hi s k = hi := by unfold bE; rw [q]; rfl
      rw [e] at q3 ⊢
      exact (bR_1 h q3).2.2.2.1
    | some e =>
      have e' : bE hi s k = e := by unfold bE; rw [q]; rfl
      rw [e'] at q3 ⊢
      exact ins e k' (h3 e q).2.2.1 q2 q3 q4
  have inT : ∀ k', k < k' → k' < tE hi s k → isB (op k') → bH hi s k' ≤ tE hi s k := by
    intro k' q2 q3 q4
    cases q : s.2.2.1 k with
    | none =>
      have e : tE hi s k = bE hi s k := by unfold tE; rw [q]; rfl
      rw [e] at q3 ⊢
      exact inB k' q2 q3 q4
    | some f =>
      have e' : tE hi s k = f := by unfold tE; rw [q]; rfl
      rw [e'] at q3 ⊢
      exact ins f k' (h2 f q).2.2.2 q2 q3 q4
  have hg' : g = 0 ∨ g = 1 ∨ g = 2 := by omega
  rcases hg' with rfl | rfl | rfl
  · refine ⟨Nat.lt_succ_self _, a8, by omega, fun k' q1 q2 q3 => ?_⟩
    have q1 : k + 1 ≤ k' := q1
    cases q : s.2.1 k with
    | none =>
      have e : pE hi s k 0 = tE hi s k := by unfold pE; rw [q]; rfl
      rw [e] at q2 ⊢
      exact inT k' q1 q2 q3
    | some p =>
      have e : pE hi s k 0 = p := by unfold pE; rw [q]; rfl
      rw [e] at q2 ⊢
      exact ins p k' (h1 p q).2.2.2.1 q1 q2 q3
  · obtain ⟨p, hp⟩ := g1 rfl
    have e1 : pS s k 1 = p + 1 := by unfold pS; rw [hp]; rfl
    have e2 : pE hi s k 1 = tE hi s k := rfl
    have hpt : p < tE hi s k := by
      have e : pE hi s k 0 = p := by unfold pE; rw [hp]; rfl
      rw [e] at a9
      rcases Nat.lt_or_eq_of_le a9 with z | z
      · exact z
      · exfalso
        unfold tE at z
        cases q : s.2.2.1 k with
        | some f => rw [q] at z; have := (h1 p hp).2.2.2.2 f q; simp at z; omega
        | none =>
          rw [q] at z
          have z : p = bE hi s k := z
          unfold bE at z
          cases q' : s.2.2.2 k with
          | some e => rw [q'] at z; have := (h3 e q').2.2.2.1 p hp; simp at z; omega
          | none => rw [q'] at z; have := (h1 p hp).2.2.1; simp at z; omega
    rw [e1, e2]
    exact ⟨by have := (h1 p hp).2.1; omega, hpt, by omega, fun k' q1 q2 q3 => inT k' (by have := (h1 p hp).2.1; omega) q2 q3⟩
  · obtain ⟨f, hf⟩ := g2 rfl
    have e1 : pS s k 2 = f + 1 := by unfold pS; rw [hf]; rfl
    have e2 : pE hi s k 2 = bE hi s k := rfl
    have hfb : f < bE hi s k := by
      have e : tE hi s k = f := by unfold tE; rw [hf]; rfl
      rw [e] at a7
      rcases Nat.lt_or_eq_of_le a7 with z | z
      · exact z
      · exfalso
        unfold bE at z
        cases q' : s.2.2.2 k with
        | some e => rw [q'] at z; have := (h3 e q').2.2.2.2 f hf; simp at z; omega
        | none => rw [q'] at z; have := (h2 f hf).2.2.1; simp at z; omega
    rw [e1, e2]
    exact ⟨by have := (h2 f hf).2.1; omega, hfb, a2, fun k' q1 q2 q3 => inB k' (by have := (h2 f hf).2.1; omega) q2 q3⟩
