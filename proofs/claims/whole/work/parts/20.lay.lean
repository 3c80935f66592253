/-! THE LAYOUT: the reference's view of the script is the class's -/
theorem b_shape (op c : Nat → Int32) (k : Nat) (s : bS) :
    ((op k = 25 ∨ op k = 29 ∨ op k = 30) ∧ b_st op c k s = (k :: s.1, s.2)) ∨
    (∃ b r, s.1 = b :: r ∧ op k = 26 ∧ op b = 25 ∧ s.2.1 b = none ∧ s.2.2.1 b = none ∧ b_st op c k s = (s.1, va_up s.2.1 b (some k), s.2.2)) ∨
    (∃ b r, s.1 = b :: r ∧ op k = 27 ∧ op b = 25 ∧ s.2.2.1 b = none ∧ b_st op c k s = (s.1, s.2.1, va_up s.2.2.1 b (some k), s.2.2.2)) ∨
    (∃ b r, s.1 = b :: r ∧ (op k = 28 ∧ op b = 25 ∨ op k = 31 ∧ ¬ op b = 25) ∧ b_st op c k s = (r, s.2.1, s.2.2.1, va_up s.2.2.2 b (some k))) ∨
    ((op k = 35 ∧ c k &&& 1 = 0) ∧ b_st op c k s = ([], s.2)) ∨
    (¬ (op k = 25 ∨ op k = 29 ∨ op k = 30) ∧ ¬ (op k = 35 ∧ c k &&& 1 = 0) ∧ b_st op c k s = s ∧ ∀ b r, s.1 = b :: r → ¬ (op k = 26 ∧ op b = 25 ∧ s.2.1 b = none ∧ s.2.2.1 b = none) ∧ ¬ (op k = 27 ∧ op b = 25 ∧ s.2.2.1 b = none) ∧ ¬ (op k = 28 ∧ op b = 25 ∨ op k = 31 ∧ ¬ op b = 25)) := by
  obtain ⟨l, t1, t2, t3⟩ := s
  dsimp only
  by_cases c0 : op k = 25 ∨ op k = 29 ∨ op k = 30
  · exact Or.inl ⟨c0, by unfold b_st; rw [if_pos c0]⟩
  have no35 : ∀ v : Int32, v ≠ 35 → op k = v → ¬ (op k = 35 ∧ c k &&& 1 = 0) := fun v hv h q => hv (h.symm.trans q.1)
  by_cases c1 : op k = 26
  · have d : b_st op c k (l, t1, t2, t3) = (match l with
      | b :: _ => if op b = 25 ∧ t1 b = none ∧ t2 b = none then (l, va_up t1 b (some k), t2, t3) else (l, t1, t2, t3)
      | [] => (l, t1, t2, t3)) := by unfold b_st; rw [if_neg c0, if_pos c1]; cases l <;> rfl
    rw [d]
    cases l with
    | nil => exact Or.inr (Or.inr (Or.inr (Or.inr (Or.inr ⟨c0, no35 26 (by decide) c1, rfl, fun b r h => by cases h⟩))))
    | cons b r =>
      dsimp only
      by_cases e : op b = 25 ∧ t1 b = none ∧ t2 b = none
      · rw [if_pos e]
        exact Or.inr (Or.inl ⟨b, r, rfl, c1, e.1, e.2.1, e.2.2, rfl⟩)
      · rw [if_neg e]
        refine Or.inr (Or.inr (Or.inr (Or.inr (Or.inr ⟨c0, no35 26 (by decide) c1, rfl, fun b' r' h => ?_⟩))))
        cases h
        refine ⟨fun q => e q.2, fun q => ?_, fun q => ?_⟩
        · rw [c1] at q; exact absurd q.1 (by decide)
        · rw [c1] at q; rcases q with q | q <;> exact absurd q.1 (by decide)
  by_cases c2 : op k = 27
  · have d : b_st op c k (l, t1, t2, t3) = (match l with
      | b :: _ => if op b = 25 ∧ t2 b = none then (l, t1, va_up t2 b (some k), t3) else (l, t1, t2, t3)
      | [] => (l, t1, t2, t3)) := by unfold b_st; rw [if_neg c0, if_neg c1, if_pos c2]; cases l <;> rfl
    rw [d]
    cases l with
    | nil => exact Or.inr (Or.inr (Or.inr (Or.inr (Or.inr ⟨c0, no35 27 (by decide) c2, rfl, fun b r h => by cases h⟩))))
    | cons b r =>
      dsimp only
      by_cases e : op b = 25 ∧ t2 b = none
      · rw [if_pos e]
        exact Or.inr (Or.inr (Or.inl ⟨b, r, rfl, c2, e.1, e.2, rfl⟩))
      · rw [if_neg e]
        refine Or.inr (Or.inr (Or.inr (Or.inr (Or.inr ⟨c0, no35 27 (by decide) c2, rfl, fun b' r' h => ?_⟩))))
        cases h
        refine ⟨fun q => ?_, fun q => e q.2, fun q => ?_⟩
        · rw [c2] at q; exact absurd q.1 (by decide)
        · rw [c2] at q; rcases q with q | q <;> exact absurd q.1 (by decide)
  by_cases c3 : op k = 28
  · have d : b_st op c k (l, t1, t2, t3) = (match l with
      | b :: r => if op b = 25 then (r, t1, t2, va_up t3 b (some k)) else (l, t1, t2, t3)
      | [] => (l, t1, t2, t3)) := by unfold b_st; rw [if_neg c0, if_neg c1, if_neg c2, if_pos c3]; cases l <;> rfl
    rw [d]
    cases l with
    | nil => exact Or.inr (Or.inr (Or.inr (Or.inr (Or.inr ⟨c0, no35 28 (by decide) c3, rfl, fun b r h => by cases h⟩))))
    | cons b r =>
      dsimp only
      by_cases e : op b = 25
      · rw [if_pos e]
        exact Or.inr (Or.inr (Or.inr (Or.inl ⟨b, r, rfl, Or.inl ⟨c3, e⟩, rfl⟩)))
      · rw [if_neg e]
        refine Or.inr (Or.inr (Or.inr (Or.inr (Or.inr ⟨c0, no35 28 (by decide) c3, rfl, fun b' r' h => ?_⟩))))
        cases h
        refine ⟨fun q => ?_, fun q => ?_, fun q => ?_⟩
        · rw [c3] at q; exact absurd q.1 (by decide)
        · rw [c3] at q; exact absurd q.1 (by decide)
        · rcases q with q | q
          · exact e q.2
          · rw [c3] at q; exact absurd q.1 (by decide)
  by_cases c4 : op k = 31
  · have d : b_st op c k (l, t1, t2, t3) = (match l with
      | b :: r => if op b = 25 then (l, t1, t2, t3) else (r, t1, t2, va_up t3 b (some k))
      | [] => (l, t1, t2, t3)) := by unfold b_st; rw [if_neg c0, if_neg c1, if_neg c2, if_neg c3, if_pos c4]; cases l <;> rfl
    rw [d]
    cases l with
    | nil => exact Or.inr (Or.inr (Or.inr (Or.inr (Or.inr ⟨c0, no35 31 (by decide) c4, rfl, fun b r h => by cases h⟩))))
    | cons b r =>
      dsimp only
      by_cases e : op b = 25
      · rw [if_pos e]
        refine Or.inr (Or.inr (Or.inr (Or.inr (Or.inr ⟨c0, no35 31 (by decide) c4, rfl, fun b' r' h => ?_⟩))))
        cases h
        refine ⟨fun q => ?_, fun q => ?_, fun q => ?_⟩
        · rw [c4] at q; exact absurd q.1 (by decide)
        · rw [c4] at q; exact absurd q.1 (by decide)
        · rcases q with q | q
          · rw [c4] at q; exact absurd q.1 (by decide)
          · exact q.2 e
      · rw [if_neg e]
        exact Or.inr (Or.inr (Or.inr (Or.inl ⟨b, r, rfl, Or.inr ⟨c4, e⟩, rfl⟩)))
  by_cases c5 : op k = 35 ∧ c k &&& 1 = 0
  · exact Or.inr (Or.inr (Or.inr (Or.inr (Or.inl ⟨c5, by unfold b_st; rw [if_neg c0, if_neg c1, if_neg c2, if_neg c3, if_neg c4, if_pos c5]⟩))))
  · refine Or.inr (Or.inr (Or.inr (Or.inr (Or.inr ⟨c0, c5, by unfold b_st; rw [if_neg c0, if_neg c1, if_neg c2, if_neg c3, if_neg c4, if_neg c5], fun b r h => ⟨fun q => c1 q.1, fun q => c2 q.1, fun q => ?_⟩⟩))))
    rcases q with q | q
    · exact c3 q.1
    · exact c4 q.1
/-- what lies ahead of all that is on the stack stays as it is -/
theorem b_fro (op c : Nat → Int32) (b0 : Nat) : ∀ d k0, b0 ≤ k0 → (∀ z ∈ (b_at op c k0).1, b0 ≤ z) → (∀ z ∈ (b_at op c (k0 + d)).1, b0 ≤ z) ∧ ∀ j, j < b0 → (b_at op c (k0 + d)).2.1 j = (b_at op c k0).2.1 j ∧ (b_at op c (k0 + d)).2.2.1 j = (b_at op c k0).2.2.1 j ∧ (b_at op c (k0 + d)).2.2.2 j = (b_at op c k0).2.2.2 j := by
  intro d
  induction d with
  | zero => exact fun k0 _ h => ⟨h, fun j _ => ⟨rfl, rfl, rfl⟩⟩
  | succ d ih =>
    intro k0 hk h
    obtain ⟨i1, i2⟩ := ih k0 hk h
    show (∀ z ∈ (b_st op c (k0 + d) (b_at op c (k0 + d))).1, b0 ≤ z) ∧ ∀ j, j < b0 → (b_st op c (k0 + d) (b_at op c (k0 + d))).2.1 j = _ ∧ (b_st op c (k0 + d) (b_at op c (k0 + d))).2.2.1 j = _ ∧ (b_st op c (k0 + d) (b_at op c (k0 + d))).2.2.2 j = _
    generalize b_at op c (k0 + d) = s at i1 i2
    have up : ∀ (f : Nat → Option Nat) (b v j : Nat), b0 ≤ b → j < b0 → va_up f b (some v) j = f j := fun f b v j hb hj => if_neg (by omega)
    rcases b_shape op c (k0 + d) s with ⟨-, e⟩ | ⟨b, r, hs, -, -, -, -, e⟩ | ⟨b, r, hs, -, -, -, e⟩ | ⟨b, r, hs, -, e⟩ | ⟨-, e⟩ | ⟨-, -, e, -⟩
    · rw [e]
      refine ⟨fun z hz => ?_, i2⟩
      rcases List.mem_cons.mp hz with q | q
      · omega
      · exact i1 z q
    · rw [e]
      have hb : b0 ≤ b := i1 b (by rw [hs]; exact List.mem_cons_self)
      exact ⟨i1, fun j hj => ⟨(up _ _ _ _ hb hj).trans (i2 j hj).1, (i2 j hj).2⟩⟩
    · rw [e]
      have hb : b0 ≤ b := i1 b (by rw [hs]; exact List.mem_cons_self)
      exact ⟨i1, fun j hj => ⟨(i2 j hj).1, (up _ _ _ _ hb hj).trans (i2 j hj).2.1, (i2 j hj).2.2⟩⟩
    · rw [e]
      have hb : b0 ≤ b := i1 b (by rw [hs]; exact List.mem_cons_self)
      exact ⟨fun z hz => i1 z (by rw [hs]; exact List.mem_cons_of_mem _ hz), fun j hj => ⟨(i2 j hj).1, (i2 j hj).2.1, (up _ _ _ _ hb hj).trans (i2 j hj).2.2⟩⟩
    · rw [e]
      exact ⟨fun z hz => absurd hz List.not_mem_nil, i2⟩
    · rw [e]
      exact ⟨i1, i2⟩
/-! the marks -/
theorem mk_in (op c : Nat → Int32) : ∀ k i, i ∈ mk_l op c k ↔ i < k ∧ op i = 35 ∧ c i &&& 1 = 0 := by
  intro k
  induction k with
  | zero => exact fun i => ⟨fun h => absurd h List.not_mem_nil, fun h => absurd h.1 (by omega)⟩
  | succ k ih =>
    intro i
    show i ∈ mk_l op c k ++ (if op k = 35 ∧ c k &&& 1 = 0 then [k] else []) ↔ _
    rw [List.mem_append, ih]
    by_cases e : op k = 35 ∧ c k &&& 1 = 0
    · rw [if_pos e, List.mem_singleton]
      constructor
      · rintro (q | q)
        · exact ⟨by omega, q.2⟩
        · subst q; exact ⟨by omega, e⟩
      · rintro ⟨q1, q2⟩
        by_cases z : i = k
        · exact Or.inr z
        · exact Or.inl ⟨by omega, q2⟩
    · rw [if_neg e]
      constructor
      · rintro (q | q)
        · exact ⟨by omega, q.2⟩
        · cases q
      · rintro ⟨q1, q2⟩
        refine Or.inl ⟨?_, q2⟩
        by_cases z : i = k
        · subst z; exact absurd q2 e
        · omega
theorem mk_get {op c : Nat → Int32} {k r : Nat} (h : r < (mk_l op c k).length) : (mk_l op c k).getD r 0 < k ∧ op ((mk_l op c k).getD r 0) = 35 ∧ c ((mk_l op c k).getD r 0) &&& 1 = 0 := by
  rw [← mk_in]
  rw [List.getD_eq_getElem?_getD, List.getElem?_eq_getElem h]
  exact List.getElem_mem h
theorem mk_inc (op c : Nat → Int32) : ∀ k i j, i < j → j < (mk_l op c k).length → (mk_l op c k).getD i 0 < (mk_l op c k).getD j 0 := by
  intro k
  induction k with
  | zero => exact fun i j _ h => absurd h (by show ¬ j < 0; omega)
  | succ k ih =>
    intro i j hij hj
    by_cases e : op k = 35 ∧ c k &&& 1 = 0
    · have d : mk_l op c (k + 1) = mk_l op c k ++ [k] := by show mk_l op c k ++ _ = _; rw [if_pos e]
      rw [d] at hj ⊢
      rw [List.length_append] at hj
      simp only [List.length_cons, List.length_nil] at hj
      rw [List.getD_eq_getElem?_getD, List.getD_eq_getElem?_getD, List.getElem?_append_left (by omega), ← List.getD_eq_getElem?_getD]
      by_cases z : j = (mk_l op c k).length
      · rw [z, List.getElem?_append_right (Nat.le_refl _)]
        have := (mk_get (op := op) (c := c) (k := k) (r := i) (by omega)).1
        simpa using this
      · rw [List.getElem?_append_left (by omega), ← List.getD_eq_getElem?_getD]
        exact ih i j hij (by omega)
    · have d : mk_l op c (k + 1) = mk_l op c k := by show mk_l op c k ++ _ = _; rw [if_neg e, List.append_nil]
      rw [d] at hj ⊢
      exact ih i j hij hj
/-- the place behind a routine -/
def rE (n : Nat) (ml : List Nat) (r : Nat) : Nat := if r + 1 < ml.length then ml.getD (r + 1) 0 else n
theorem rE_lt {op c : Nat → Int32} {n r : Nat} (h : r < (mk_l op c n).length) : (mk_l op c n).getD r 0 < rE n (mk_l op c n) r ∧ rE n (mk_l op c n) r ≤ n := by
  unfold rE
  by_cases e : r + 1 < (mk_l op c n).length
  · rw [if_pos e]; exact ⟨mk_inc op c n _ _ (by omega) e, Nat.le_of_lt (mk_get e).1⟩
  · rw [if_neg e]; exact ⟨(mk_get h).1, Nat.le_refl _⟩
theorem mk_no {op c : Nat → Int32} {n r i : Nat} (h : r < (mk_l op c n).length) (h1 : (mk_l op c n).getD r 0 < i) (h2 : i < rE n (mk_l op c n) r) : ¬ (op i = 35 ∧ c i &&& 1 = 0) := by
  intro e
  have hi : i ∈ mk_l op c n := (mk_in op c n i).mpr ⟨Nat.lt_of_lt_of_le h2 (rE_lt h).2, e⟩
  obtain ⟨j, hj, ej⟩ := List.getElem_of_mem hi
  have gj : (mk_l op c n).getD j 0 = i := by rw [List.getD_eq_getElem?_getD, List.getElem?_eq_getElem hj]; exact ej
  have hr : r < j := by
    rcases Nat.lt_or_ge r j with q | q
    · exact q
    · exfalso
      rcases Nat.lt_or_eq_of_le q with q | q
      · have := mk_inc op c n j r q h; omega
      · subst q; omega
  unfold rE at h2
  by_cases e2 : r + 1 < (mk_l op c n).length
  · rw [if_pos e2] at h2
    rcases Nat.lt_or_eq_of_le (show r + 1 ≤ j from hr) with q | q
    · have := mk_inc op c n _ _ q hj; omega
    · subst q; omega
  · omega
theorem mk_dis {op c : Nat → Int32} {n r s : Nat} (hr : r < s) (hs : s < (mk_l op c n).length) : rE n (mk_l op c n) r ≤ (mk_l op c n).getD s 0 := by
  unfold rE
  rw [if_pos (by omega)]
  rcases Nat.lt_or_eq_of_le (show r + 1 ≤ s from hr) with q | q
  · exact Nat.le_of_lt (mk_inc op c n _ _ q hs)
  · subst q; exact Nat.le_refl _
/-- a mark begins anew -/
theorem b_mark {op c : Nat → Int32} {k : Nat} (h : op k = 35 ∧ c k &&& 1 = 0) : b_at op c (k + 1) = ([], (b_at op c k).2) := by
  show b_st op c k (b_at op c k) = _
  unfold b_st
  rw [h.1, h.2]
  rw [if_neg (by decide), if_neg (by decide), if_neg (by decide), if_neg (by decide), if_neg (by decide), if_pos ⟨rfl, rfl⟩]
/-- at the routine's end its blocks are what they stay -/
theorem b_end {op c : Nat → Int32} {n r k : Nat} (h : r < (mk_l op c n).length) (hk : k < rE n (mk_l op c n) r) : (b_at op c n).2.1 k = (b_at op c (rE n (mk_l op c n) r)).2.1 k ∧ (b_at op c n).2.2.1 k = (b_at op c (rE n (mk_l op c n) r)).2.2.1 k ∧ (b_at op c n).2.2.2 k = (b_at op c (rE n (mk_l op c n) r)).2.2.2 k := by
  unfold rE at hk ⊢
  by_cases e : r + 1 < (mk_l op c n).length
  · rw [if_pos e] at hk ⊢
    obtain ⟨g1, g2⟩ := mk_get e
    generalize (mk_l op c n).getD (r + 1) 0 = q at hk g1 g2
    have hm := b_mark g2
    obtain ⟨-, f⟩ := b_fro op c (q + 1) (n - (q + 1)) (q + 1) (Nat.le_refl _) (by rw [hm]; exact fun z hz => absurd hz List.not_mem_nil)
    rw [show q + 1 + (n - (q + 1)) = n by omega] at f
    have := f k (by omega)
    rw [hm] at this
    exact this
  · rw [if_neg e]; exact ⟨rfl, rfl, rfl⟩
theorem b_len (op c : Nat → Int32) : ∀ k, (b_at op c k).1.length ≤ k := by
  intro k
  induction k with
  | zero => exact Nat.le_refl _
  | succ k ih =>
    show (b_st op c k (b_at op c k)).1.length ≤ k + 1
    generalize b_at op c k = s at ih
    rcases b_shape op c k s with ⟨h, e⟩ | ⟨b, r, hs, -, -, -, -, e⟩ | ⟨b, r, hs, -, -, -, e⟩ | ⟨b, r, hs, -, e⟩ | ⟨-, e⟩ | ⟨-, -, e, -⟩
    · rw [e]; exact Nat.succ_le_succ ih
    · rw [e]; exact Nat.le_succ_of_le ih
    · rw [e]; exact Nat.le_succ_of_le ih
    · rw [e]; rw [hs, List.length_cons] at ih; exact Nat.le_trans (Nat.le_succ _) (Nat.le_succ_of_le ih)
    · rw [e]; exact Nat.zero_le _
    · rw [e]; exact Nat.le_succ_of_le ih
