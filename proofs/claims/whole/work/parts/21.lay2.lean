/-! the layout's writing, on the reference's state -/
def LA (m : Nat) (T T' : Sg) : Prop := tg T' = tg T ∧ ln T' = ln T ∧ fL T' = fL T ∧ fR T' = fR T ∧ aL T' = aL T ∧ aR T' = aR T ∧ sz T' = sz T ∧ (∀ k q, (k ≠ 716 ∨ q ≠ m) → fI T' k q = fI T k q) ∧ ∀ q i, (q < m + 5 ∨ m + 11 < q) → aI T' q i = aI T q i
theorem LA_rf {m : Nat} {T : Sg} : LA m T T := ⟨rfl, rfl, rfl, rfl, rfl, rfl, rfl, fun _ _ _ => rfl, fun _ _ _ => rfl⟩
theorem LA_tr {m : Nat} {T T1 T2 : Sg} (h1 : LA m T T1) (h2 : LA m T1 T2) : LA m T T2 := by
  obtain ⟨a1, a2, a3, a4, a5, a6, a7, a8, a9⟩ := h1
  obtain ⟨b1, b2, b3, b4, b5, b6, b7, b8, b9⟩ := h2
  exact ⟨b1.trans a1, b2.trans a2, b3.trans a3, b4.trans a4, b5.trans a5, b6.trans a6, b7.trans a7, fun k q h => (b8 k q h).trans (a8 k q h), fun q i h => (b9 q i h).trans (a9 q i h)⟩
theorem LA_716 {m : Nat} {T : Sg} {v : Int32} : LA m T (sFI T 716 m v) := by
  refine ⟨rfl, rfl, rfl, rfl, rfl, rfl, rfl, fun k q h => ?_, fun _ _ _ => rfl⟩
  simp only [gs_FI]
  rw [if_neg (by omega)]
theorem LA_AI {m k i : Nat} {T : Sg} {v : Int32} (h1 : 5 ≤ k) (h2 : k ≤ 11) : LA m T (sAI T (m + k) i v) := by
  refine ⟨rfl, rfl, rfl, rfl, rfl, rfl, rfl, fun _ _ _ => rfl, fun q j h => ?_⟩
  simp only [gs_AI]
  rw [if_neg (by omega)]
theorem LA_op {m : Nat} {T T' : Sg} (h : LA m T T') : aI T' (m + 1) = aI T (m + 1) ∧ aI T' (m + 2) = aI T (m + 2) ∧ aI T' (m + 3) = aI T (m + 3) ∧ aI T' (m + 4) = aI T (m + 4) := by
  have a9 := h.2.2.2.2.2.2.2.2
  exact ⟨funext fun i => a9 _ i (by omega), funext fun i => a9 _ i (by omega), funext fun i => a9 _ i (by omega), funext fun i => a9 _ i (by omega)⟩
theorem MX_LA {m : Nat} {T T' : Sg} (h : LA m T T') (hM : MX m T) : MX m T' := by
  obtain ⟨a1, a2, a3, a4, a5, a6, a7, a8, a9⟩ := h
  unfold MX
  rw [a1, a2, a4]
  exact hM
theorem RA_LA {x m n : Nat} {st : Nat → Nat} {N : Nat} {th : Nat → Nat} {F : Nat} {fa ra rb rc : Nat → Nat} {S T T' : Sg} (h : LA m T T') (hR : RA x m n st N th F fa ra rb rc S T) : RA x m n st N th F fa ra rb rc S T' := by
  obtain ⟨hS, hM, hSc, hBl, hTh, hNu, hHa, hRo, hGr, hFa, hRe, hTo⟩ := hR
  have hM' := MX_LA h hM
  obtain ⟨o1, o2, o3, o4⟩ := LA_op h
  obtain ⟨a1, a2, a3, a4, a5, a6, a7, a8, a9⟩ := h
  have f : ∀ k, k ≠ 716 → fI T' k m = fI T k m := fun k hk => a8 k m (Or.inl hk)
  have a : ∀ k i, 12 ≤ k → aI T' (m + k) i = aI T (m + k) i := fun k i hk => a9 _ i (by omega)
  refine ⟨hS, hM', ?_, ?_, ?_, ?_, ?_, ?_, ?_, ?_, ?_, ?_⟩
  · unfold RSc; rw [o1, o2, o3, o4, f 708 (by decide)]; exact hSc
  · unfold RBl; rw [o1, o4]; exact hBl
  · refine ⟨hTh.1, by rw [f 721 (by decide)]; exact hTh.2.1, fun j h1 h2 => ?_, hTh.2.2.2⟩
    rw [a 14 j (by decide), a5]; exact hTh.2.2.1 j h1 h2
  · unfold RNu; rw [a5]; exact hNu
  · intro i hi
    rw [a 13 i (by decide)]; exact hHa i hi
  · refine ⟨fun i hi => ?_, hRo.2⟩
    unfold RRo1
    rw [a 16 i (by decide), a 17 i (by decide), a5]
    exact hRo.1 i hi
  · refine ⟨by rw [f 725 (by decide)]; exact hGr.1, by rw [f 725 (by decide)]; exact hGr.2.1, by rw [f 725 (by decide), f 726 (by decide), f 727 (by decide)]; exact hGr.2.2.1, fun r p hr hp => ?_⟩
    rw [a 19 _ (by decide)]; exact hGr.2.2.2 r p hr hp
  · refine ⟨hFa.1, by rw [a 29 0 (by decide)]; exact hFa.2.1, fun j h1 h2 => ?_⟩
    rw [a 28 j (by decide), a 29 j (by decide)]; exact hFa.2.2 j h1 h2
  · obtain ⟨e1, e2, e3, e4, ⟨q, q1, q2, q3, q4⟩, e6, e7⟩ := hRe
    refine ⟨by rw [f 750 (by decide)]; exact e1, by rw [a3]; exact e2, by rw [f 752 (by decide)]; exact e3, by rw [f 754 (by decide), a5]; exact e4, ⟨q, q1, q2, by rw [f 756 (by decide)]; exact q3, fun i hi => by rw [a 31 i (by decide)]; exact q4 i hi⟩, by rw [f 758 (by decide)]; exact e6, by rw [f 757 (by decide)]; exact e7⟩
  · unfold RTo; rw [f 749 (by decide), f 748 (by decide)]; exact hTo
/-- the reference's word on a step and the innermost block -/
theorem r_belongs {m k b : Nat} {S : Sg} {ok : Int32} {Q : Int32 → Sg → Prop} (hM : MX m S) (hb : b < 2000)
    (h26 : ok = 26 → aI S (m + 1) b = 25 → aI S (m + 6) b < 0 → aI S (m + 7) b < 0 → Q 0 (sAI S (m + 6) b (nI k)))
    (h27 : ok = 27 → aI S (m + 1) b = 25 → aI S (m + 7) b < 0 → Q 0 (sAI S (m + 7) b (nI k)))
    (hend : (ok = 28 ∧ aI S (m + 1) b = 25 ∨ ok = 31 ∧ ¬ aI S (m + 1) b = 25) → Q 1 (sAI (sAI S (m + 5) b (nI k)) (m + 8) b (nI (k + 1))))
    (hno : ¬ (ok = 26 ∧ aI S (m + 1) b = 25 ∧ aI S (m + 6) b < 0 ∧ aI S (m + 7) b < 0) → ¬ (ok = 27 ∧ aI S (m + 1) b = 25 ∧ aI S (m + 7) b < 0) → ¬ (ok = 28 ∧ aI S (m + 1) b = 25 ∨ ok = 31 ∧ ¬ aI S (m + 1) b = 25) → Q 0 S) : wX11_belongs m (nI k) ok (nI b) S Q := by
  have cb : (nI b).toNatClampNeg = b := n_cl (by omega)
  have vb : ∀ N, 2000 ≤ N → N < 2147483648 → vp_in (nI b) N := fun N h1 h2 => vp_n (by omega) h2
  -- the ends
  have b107 : ∀ S' : Sg, Q 0 S' → wX11_belongs_b107 m (nI k) (nI b) S' Q := by
    intro S' h
    unfold wX11_belongs_b107 wX11_belongs_b108
    rw [if_pos rfl]; exact ⟨Or.inl rfl, h⟩
  have b103 : Q 1 (sAI (sAI S (m + 5) b (nI k)) (m + 8) b (nI (k + 1))) → wX11_belongs_b103 m (nI k) (nI b) S Q := by
    intro h
    unfold wX11_belongs_b103 wX11_belongs_b108
    rw [if_neg (by decide)]
    refine ⟨m + 5, MX_r709 hM, MX_t5 hM, by rw [MX_l5 hM]; exact vb _ (by omega) (by omega), nm_e ?_⟩
    rw [cb]
    refine ⟨m + 8, by simp only [gs_AI]; exact MX_r712 hM, by simp only [gs_AI]; exact MX_t8 hM, by simp only [gs_AI]; rw [MX_l8 hM]; exact vb _ (by omega) (by omega), nm_e ⟨Or.inr rfl, ?_⟩⟩
    rw [nI_1]; exact h
  have b92 : ∀ (x4 : Int32) (S' : Sg), (ok = 31 → x4 = 0 → wX11_belongs_b103 m (nI k) (nI b) S' Q) → (¬ (ok = 31 ∧ x4 = 0) → Q 0 S') → wX11_belongs_b92 m (nI k) ok (nI b) x4 S' Q := by
    intro x4 S' h1 h2
    unfold wX11_belongs_b92
    by_cases c1 : ok = 31
    · rw [if_pos c1]
      by_cases c2 : x4 = 0
      · rw [if_pos c2]; exact h1 c1 c2
      · rw [if_neg c2]; exact b107 _ (h2 (fun q => c2 q.2))
    · rw [if_neg c1]; exact b107 _ (h2 (fun q => c1 q.1))
  have b81 : ∀ (x4 : Int32) (S' : Sg), ((ok = 28 ∧ ¬ x4 = 0 ∨ ok = 31 ∧ x4 = 0) → wX11_belongs_b103 m (nI k) (nI b) S' Q) → (¬ (ok = 28 ∧ ¬ x4 = 0 ∨ ok = 31 ∧ x4 = 0) → Q 0 S') → wX11_belongs_b81 m (nI k) ok (nI b) x4 S' Q := by
    intro x4 S' h1 h2
    unfold wX11_belongs_b81
    by_cases c1 : ok = 28
    · rw [if_pos c1]
      by_cases c2 : x4 = 0
      · rw [if_pos c2]
        exact b92 _ _ (fun q1 q2 => h1 (Or.inr ⟨q1, q2⟩)) (fun q => h2 (by
          rintro (z | z)
          · exact z.2 c2
          · exact q z))
      · rw [if_neg c2]; exact h1 (Or.inl ⟨c1, c2⟩)
    · rw [if_neg c1]
      exact b92 _ _ (fun q1 q2 => h1 (Or.inr ⟨q1, q2⟩)) (fun q => h2 (by
          rintro (z | z)
          · exact c1 z.1
          · exact q z))
  unfold wX11_belongs
  refine ⟨m + 1, MX_r704 hM, MX_t1 hM, by rw [MX_l1 hM]; exact vb _ (by omega) (by omega), ?_⟩
  rw [cb]
  generalize hob : aI S (m + 1) b = ob at h26 h27 hend hno
  -- off TAKER and FINISH
  have b54 : ∀ x4 : Int32, (x4 = 0 ↔ ¬ ob = 25) → (¬ (ok = 26 ∧ ob = 25 ∧ aI S (m + 6) b < 0 ∧ aI S (m + 7) b < 0)) → wX11_belongs_b54 m (nI k) ok (nI b) x4 S Q := by
    intro x4 hx hn26
    have tail : ¬ (ok = 27 ∧ ob = 25 ∧ aI S (m + 7) b < 0) → wX11_belongs_b81 m (nI k) ok (nI b) x4 S Q := by
      intro hn27
      refine b81 _ _ (fun q => b103 (hend ?_)) (fun q => hno hn26 hn27 (fun z => q ?_))
      · rcases q with q | q
        · refine Or.inl ⟨q.1, ?_⟩
          rw [hx] at q
          exact Decidable.not_not.mp q.2
        · exact Or.inr ⟨q.1, hx.mp q.2⟩
      · rcases z with z | z
        · exact Or.inl ⟨z.1, fun w => (hx.mp w) z.2⟩
        · exact Or.inr ⟨z.1, hx.mpr z.2⟩
    unfold wX11_belongs_b54
    by_cases c1 : ok = 27
    · rw [if_pos c1]
      by_cases c2 : x4 = 0
      · rw [if_pos c2]
        exact tail (fun z => hx.mp c2 z.2.1)
      · rw [if_neg c2]
        have h25 : ob = 25 := Decidable.not_not.mp (fun z => c2 (hx.mpr z))
        refine ⟨m + 7, MX_r711 hM, MX_t7 hM, by rw [MX_l7 hM]; exact vb _ (by omega) (by omega), ?_⟩
        rw [cb]
        by_cases c3 : 0 ≤ aI S (m + 7) b
        · rw [if_pos c3]
          exact tail (fun z => absurd z.2.2 (Int32.not_lt.mpr c3))
        · rw [if_neg c3]
          refine ⟨by rw [MX_l7 hM]; exact vb _ (by omega) (by omega), nm_e ?_⟩
          refine b81 _ _ (fun q => ?_) (fun _ => h27 c1 h25 (Int32.not_le.mp c3))
          rcases q with q | q
          · rw [c1] at q; exact absurd q.1 (by decide)
          · rw [c1] at q; exact absurd q.1 (by decide)
    · rw [if_neg c1]
      exact tail (fun z => c1 z.1)
  have b16 : ∀ x4 : Int32, (x4 = 0 ↔ ¬ ob = 25) → wX11_belongs_b16 m (nI k) ok (nI b) x4 S Q := by
    intro x4 hx
    unfold wX11_belongs_b16
    by_cases c1 : ok = 26
    · rw [if_pos c1]
      by_cases c2 : x4 = 0
      · rw [if_pos c2]; exact b54 _ hx (fun z => hx.mp c2 z.2.1)
      · rw [if_neg c2]
        have h25 : ob = 25 := Decidable.not_not.mp (fun z => c2 (hx.mpr z))
        refine ⟨m + 6, MX_r710 hM, MX_t6 hM, by rw [MX_l6 hM]; exact vb _ (by omega) (by omega), ?_⟩
        rw [cb]
        by_cases c3 : 0 ≤ aI S (m + 6) b
        · rw [if_pos c3]; exact b54 _ hx (fun z => absurd z.2.2.1 (Int32.not_lt.mpr c3))
        · rw [if_neg c3]
          refine ⟨m + 7, MX_r711 hM, MX_t7 hM, by rw [MX_l7 hM]; exact vb _ (by omega) (by omega), ?_⟩
          by_cases c4 : 0 ≤ aI S (m + 7) b
          · rw [if_pos c4]; exact b54 _ hx (fun z => absurd z.2.2.2 (Int32.not_lt.mpr c4))
          · rw [if_neg c4]
            refine ⟨by rw [MX_l6 hM]; exact vb _ (by omega) (by omega), nm_e ?_⟩
            unfold wX11_belongs_b54
            rw [if_neg (by rw [c1]; decide)]
            refine b81 _ _ (fun q => ?_) (fun _ => h26 c1 h25 (Int32.not_le.mp c3) (Int32.not_le.mp c4))
            rcases q with q | q
            · rw [c1] at q; exact absurd q.1 (by decide)
            · rw [c1] at q; exact absurd q.1 (by decide)
    · rw [if_neg c1]; exact b54 _ hx (fun z => c1 z.1)
  by_cases c : ob = 25
  · rw [if_pos c]; exact b16 1 ⟨fun z => absurd z (by decide), fun z => absurd c z⟩
  · rw [if_neg c]; exact b16 0 ⟨fun _ => c, fun _ => rfl⟩
