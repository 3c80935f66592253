/-! how blocks lie in one another -/
def nI1 (op : Nat → Int32) (s : bS) (b v : Nat) : Prop := ∀ k, b < k → k < v → isB (op k) → ∃ e, s.2.2.2 k = some e ∧ e < v
/-- one time's facts: the stack goes down, ends lie behind beginnings, parts lie in order, what begins in a part ends there -/
def bN (op c : Nat → Int32) (j : Nat) (s : bS) : Prop :=
  s.1.Pairwise (fun a b => b < a) ∧ (∀ z ∈ s.1, z < j ∧ s.2.2.2 z = none ∧ isB (op z) ∧ ∀ k, z ≤ k → k < j → ¬ (op k = 35 ∧ c k &&& 1 = 0)) ∧
  (∀ b e, s.2.2.2 b = some e → b < e ∧ e < j ∧ nI1 op s b e ∧ (∀ p, s.2.1 b = some p → p < e) ∧ ∀ f, s.2.2.1 b = some f → f < e) ∧
  (∀ b p, s.2.1 b = some p → op b = 25 ∧ b < p ∧ p < j ∧ nI1 op s b p ∧ ∀ f, s.2.2.1 b = some f → p < f) ∧
  (∀ b f, s.2.2.1 b = some f → op b = 25 ∧ b < f ∧ f < j ∧ nI1 op s b f) ∧
  (∀ k, k < j → isB (op k) → (∀ i, k ≤ i → i < j → ¬ (op i = 35 ∧ c i &&& 1 = 0)) → k ∈ s.1 ∨ ∃ e, s.2.2.2 k = some e)
theorem isB_no {o : Int32} (h : isB o) (v : Int32) (hv : v ≠ 25 ∧ v ≠ 29 ∧ v ≠ 30) : ¬ o = v := by
  intro e
  rcases h with h | h | h
  · exact hv.1 (e.symm.trans h)
  · exact hv.2.1 (e.symm.trans h)
  · exact hv.2.2 (e.symm.trans h)
theorem bN_at (op c : Nat → Int32) : ∀ j, bN op c j (b_at op c j) := by
  intro j
  induction j with
  | zero => exact ⟨List.Pairwise.nil, fun z hz => absurd hz List.not_mem_nil, fun b e h => (by cases h), fun b e h => (by cases h), fun b e h => (by cases h), fun k hk => absurd hk (by omega)⟩
  | succ j ih =>
    show bN op c (j + 1) (b_st op c j (b_at op c j))
    have hlt := b_lt op c j
    generalize b_at op c j = s at ih hlt
    obtain ⟨l, t1, t2, t3⟩ := s
    obtain ⟨i1, i2, i3, i4, i5, i6⟩ := ih
    dsimp only at i1 i2 i3 i4 i5 i6 hlt
    have up0 : ∀ (t : Nat → Option Nat) (b v : Nat), va_up t b (some v) b = some v := fun t b v => if_pos rfl
    have upn : ∀ (t : Nat → Option Nat) (b v k : Nat), k ≠ b → va_up t b (some v) k = t k := fun t b v k h => if_neg h
    have later : ∀ (l' : List Nat) (t1' t2' t3' : Nat → Option Nat) (b v : Nat), (∀ k e, t3 k = some e → t3' k = some e) → nI1 op (l, t1, t2, t3) b v → nI1 op (l', t1', t2', t3') b v := by
      intro l' t1' t2' t3' b v h h2 k q1 q2 q3
      obtain ⟨e, e1, e2⟩ := h2 k q1 q2 q3
      exact ⟨e, h k e e1, e2⟩
    -- what was begun behind the top of the stack is ended
    have inner : ∀ b r, l = b :: r → nI1 op (l, t1, t2, t3) b j := by
      intro b r hl k q1 q2 q3
      have hb := i2 b (by rw [hl]; exact List.mem_cons_self)
      rcases i6 k q2 q3 (fun i h1 h2 => hb.2.2.2 i (by omega) h2) with q | ⟨e, q⟩
      · exfalso
        rw [hl] at q i1
        rcases List.mem_cons.mp q with q | q
        · omega
        · have := (List.pairwise_cons.mp i1).1 k q; omega
      · exact ⟨e, q, (i3 k e q).2.1⟩
    rcases b_shape op c j (l, t1, t2, t3) with ⟨h, e⟩ | ⟨b, r, hs, h1, h2, h3, h4, e⟩ | ⟨b, r, hs, h1, h2, h3, e⟩ | ⟨b, r, hs, h1, e⟩ | ⟨h, e⟩ | ⟨h, h', e, -⟩
    · rw [e]
      have hm : ¬ (op j = 35 ∧ c j &&& 1 = 0) := fun q => isB_no h 35 (by decide) q.1
      have ext : ∀ k, k < j + 1 → (∀ i, k ≤ i → i < j → ¬ (op i = 35 ∧ c i &&& 1 = 0)) → ∀ i, k ≤ i → i < j + 1 → ¬ (op i = 35 ∧ c i &&& 1 = 0) := by
        intro k _ hk i a1 a2
        by_cases z : i = j
        · rw [z]; exact hm
        · exact hk i a1 (by omega)
      refine ⟨List.pairwise_cons.mpr ⟨fun z hz => (i2 z hz).1, i1⟩, fun z hz => ?_, fun b e' hb => ?_, fun b p hb => ?_, fun b f hb => ?_, fun k hk hB hno => ?_⟩
      · rcases List.mem_cons.mp hz with q | q
        · subst q
          refine ⟨by omega, (hlt.2 z (Nat.le_refl _)).2.2, h, fun k a1 a2 => ?_⟩
          have : k = z := by omega
          rw [this]; exact hm
        · obtain ⟨a1, a2, a3, a4⟩ := i2 z q
          exact ⟨by omega, a2, a3, ext z (by omega) a4⟩
      · obtain ⟨a1, a2, a3, a4⟩ := i3 b e' hb
        exact ⟨a1, by omega, later _ _ _ _ _ _ (fun _ _ q => q) a3, a4⟩
      · obtain ⟨a1, a2, a3, a4, a5⟩ := i4 b p hb
        exact ⟨a1, a2, by omega, later _ _ _ _ _ _ (fun _ _ q => q) a4, a5⟩
      · obtain ⟨a1, a2, a3, a4⟩ := i5 b f hb
        exact ⟨a1, a2, by omega, later _ _ _ _ _ _ (fun _ _ q => q) a4⟩
      · by_cases z : k = j
        · exact Or.inl (by rw [z]; exact List.mem_cons_self)
        · rcases i6 k (by omega) hB (fun i a1 a2 => hno i a1 (by omega)) with q | q
          · exact Or.inl (List.mem_cons_of_mem _ q)
          · exact Or.inr q
    · -- TAKER
      rw [e]
      dsimp only at hs h3 h4 ⊢
      have hb := i2 b (by rw [hs]; exact List.mem_cons_self)
      have hm : ¬ (op j = 35 ∧ c j &&& 1 = 0) := fun q => by rw [h1] at q; exact absurd q.1 (by decide)
      refine ⟨i1, fun z hz => ?_, fun b' e' hb' => ?_, fun b' p hb' => ?_, fun b' f hb' => ?_, fun k hk hB hno => ?_⟩
      · obtain ⟨a1, a2, a3, a4⟩ := i2 z hz
        refine ⟨by omega, a2, a3, fun i q1 q2 => ?_⟩
        by_cases z : i = j
        · rw [z]; exact hm
        · exact a4 i q1 (by omega)
      · obtain ⟨a1, a2, a3, a4, a5⟩ := i3 b' e' hb'
        refine ⟨a1, by omega, later _ _ _ _ _ _ (fun _ _ q => q) a3, fun p hp => ?_, a5⟩
        have hp : va_up t1 b (some j) b' = some p := hp
        by_cases z : b' = b
        · subst z
          exact absurd (hb.2.1.symm.trans hb') (fun q => by cases q)
        · rw [upn _ _ _ _ z] at hp; exact a4 p hp
      · have hp : va_up t1 b (some j) b' = some p := hb'
        by_cases z : b' = b
        · subst z
          rw [up0] at hp
          cases hp
          exact ⟨h2, hb.1, by omega, later _ _ _ _ _ _ (fun _ _ q => q) (inner b' r hs), fun f hf => by rw [show t2 b' = some f from hf] at h4; cases h4⟩
        · rw [upn _ _ _ _ z] at hp
          obtain ⟨a1, a2, a3, a4, a5⟩ := i4 b' p hp
          exact ⟨a1, a2, by omega, later _ _ _ _ _ _ (fun _ _ q => q) a4, a5⟩
      · obtain ⟨a1, a2, a3, a4⟩ := i5 b' f hb'
        exact ⟨a1, a2, by omega, later _ _ _ _ _ _ (fun _ _ q => q) a4⟩
      · by_cases z : k = j
        · subst z; exact absurd h1 (isB_no hB 26 (by decide))
        · exact i6 k (by omega) hB (fun i a1 a2 => hno i a1 (by omega))
    · -- FINISH
      rw [e]
      dsimp only at hs h3 ⊢
      have hb := i2 b (by rw [hs]; exact List.mem_cons_self)
      have hm : ¬ (op j = 35 ∧ c j &&& 1 = 0) := fun q => by rw [h1] at q; exact absurd q.1 (by decide)
      refine ⟨i1, fun z hz => ?_, fun b' e' hb' => ?_, fun b' p hb' => ?_, fun b' f hb' => ?_, fun k hk hB hno => ?_⟩
      · obtain ⟨a1, a2, a3, a4⟩ := i2 z hz
        refine ⟨by omega, a2, a3, fun i q1 q2 => ?_⟩
        by_cases z : i = j
        · rw [z]; exact hm
        · exact a4 i q1 (by omega)
      · obtain ⟨a1, a2, a3, a4, a5⟩ := i3 b' e' hb'
        refine ⟨a1, by omega, later _ _ _ _ _ _ (fun _ _ q => q) a3, a4, fun f hf => ?_⟩
        have hf : va_up t2 b (some j) b' = some f := hf
        by_cases z : b' = b
        · subst z
          exact absurd (hb.2.1.symm.trans hb') (fun q => by cases q)
        · rw [upn _ _ _ _ z] at hf; exact a5 f hf
      · obtain ⟨a1, a2, a3, a4, a5⟩ := i4 b' p hb'
        refine ⟨a1, a2, by omega, later _ _ _ _ _ _ (fun _ _ q => q) a4, fun f hf => ?_⟩
        have hf : va_up t2 b (some j) b' = some f := hf
        by_cases z : b' = b
        · subst z
          rw [up0] at hf
          cases hf
          exact a3
        · rw [upn _ _ _ _ z] at hf; exact a5 f hf
      · have hf : va_up t2 b (some j) b' = some f := hb'
        by_cases z : b' = b
        · subst z
          rw [up0] at hf
          cases hf
          exact ⟨h2, hb.1, by omega, later _ _ _ _ _ _ (fun _ _ q => q) (inner b' r hs)⟩
        · rw [upn _ _ _ _ z] at hf
          obtain ⟨a1, a2, a3, a4⟩ := i5 b' f hf
          exact ⟨a1, a2, by omega, later _ _ _ _ _ _ (fun _ _ q => q) a4⟩
      · by_cases z : k = j
        · subst z; exact absurd h1 (isB_no hB 27 (by decide))
        · exact i6 k (by omega) hB (fun i a1 a2 => hno i a1 (by omega))
    · -- CLOSE, END
      rw [e]
      dsimp only at hs ⊢
      have hb := i2 b (by rw [hs]; exact List.mem_cons_self)
      have hm : ¬ (op j = 35 ∧ c j &&& 1 = 0) := fun q => by
        rcases h1 with h1 | h1 <;> rw [h1.1] at q <;> exact absurd q.1 (by decide)
      have hnB : ¬ isB (op j) := fun q => by
        rcases h1 with h1 | h1
        · exact isB_no q 28 (by decide) h1.1
        · exact isB_no q 31 (by decide) h1.1
      have keep : ∀ k e', t3 k = some e' → va_up t3 b (some j) k = some e' := by
        intro k e' hk
        by_cases z : k = b
        · subst z; rw [hb.2.1] at hk; cases hk
        · rw [upn _ _ _ _ z]; exact hk
      rw [hs] at i1
      obtain ⟨j1, j2⟩ := List.pairwise_cons.mp i1
      refine ⟨j2, fun z hz => ?_, fun b' e' hb' => ?_, fun b' p hb' => ?_, fun b' f hb' => ?_, fun k hk hB hno => ?_⟩
      · obtain ⟨a1, a2, a3, a4⟩ := i2 z (by rw [hs]; exact List.mem_cons_of_mem _ hz)
        refine ⟨by omega, ?_, a3, fun i q1 q2 => ?_⟩
        · have := j1 z hz
          exact (upn t3 b j z (by omega)).trans a2
        · by_cases z : i = j
          · rw [z]; exact hm
          · exact a4 i q1 (by omega)
      · have hb' : va_up t3 b (some j) b' = some e' := hb'
        by_cases z : b' = b
        · subst z
          rw [up0] at hb'
          cases hb'
          exact ⟨hb.1, by omega, later _ _ _ _ _ _ keep (inner b' r hs), fun p hp => (i4 b' p hp).2.2.1, fun f hf => (i5 b' f hf).2.2.1⟩
        · rw [upn _ _ _ _ z] at hb'
          obtain ⟨a1, a2, a3, a4, a5⟩ := i3 b' e' hb'
          exact ⟨a1, by omega, later _ _ _ _ _ _ keep a3, a4, a5⟩
      · obtain ⟨a1, a2, a3, a4, a5⟩ := i4 b' p hb'
        exact ⟨a1, a2, by omega, later _ _ _ _ _ _ keep a4, a5⟩
      · obtain ⟨a1, a2, a3, a4⟩ := i5 b' f hb'
        exact ⟨a1, a2, by omega, later _ _ _ _ _ _ keep a4⟩
      · by_cases z : k = j
        · subst z; exact absurd hB hnB
        · rcases i6 k (by omega) hB (fun i a1 a2 => hno i a1 (by omega)) with q | ⟨e', q⟩
          · rw [hs] at q
            rcases List.mem_cons.mp q with q | q
            · subst q; exact Or.inr ⟨j, up0 _ _ _⟩
            · exact Or.inl q
          · exact Or.inr ⟨e', keep k e' q⟩
    · rw [e]
      refine ⟨List.Pairwise.nil, fun z hz => absurd hz List.not_mem_nil, fun b' e' hb' => ?_, fun b' p hb' => ?_, fun b' f hb' => ?_, fun k hk hB hno => ?_⟩
      · obtain ⟨a1, a2, a3, a4⟩ := i3 b' e' hb'
        exact ⟨a1, by omega, later _ _ _ _ _ _ (fun _ _ q => q) a3, a4⟩
      · obtain ⟨a1, a2, a3, a4, a5⟩ := i4 b' p hb'
        exact ⟨a1, a2, by omega, later _ _ _ _ _ _ (fun _ _ q => q) a4, a5⟩
      · obtain ⟨a1, a2, a3, a4⟩ := i5 b' f hb'
        exact ⟨a1, a2, by omega, later _ _ _ _ _ _ (fun _ _ q => q) a4⟩
      · by_cases z : k = j
        · subst z; exact absurd h.1 (isB_no hB 35 (by decide))
        · exact absurd h (hno j (by omega) (by omega))
    · rw [e]
      refine ⟨i1, fun z hz => ?_, fun b' e' hb' => ?_, fun b' p hb' => ?_, fun b' f hb' => ?_, fun k hk hB hno => ?_⟩
      · obtain ⟨a1, a2, a3, a4⟩ := i2 z hz
        refine ⟨by omega, a2, a3, fun i q1 q2 => ?_⟩
        by_cases z : i = j
        · rw [z]; exact h'
        · exact a4 i q1 (by omega)
      · obtain ⟨a1, a2, a3, a4⟩ := i3 b' e' hb'
        exact ⟨a1, by omega, a3, a4⟩
      · obtain ⟨a1, a2, a3, a4, a5⟩ := i4 b' p hb'
        exact ⟨a1, a2, by omega, a4, a5⟩
      · obtain ⟨a1, a2, a3, a4⟩ := i5 b' f hb'
        exact ⟨a1, a2, by omega, a4⟩
      · by_cases z : k = j
        · subst z; exact absurd hB h
        · exact i6 k (by omega) hB (fun i a1 a2 => hno i a1 (by omega))
