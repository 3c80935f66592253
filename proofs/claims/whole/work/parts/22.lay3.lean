/-! one routine laid out -/
def isB (o : Int32) : Prop := o = 25 ∨ o = 29 ∨ o = 30
def eV (to : Nat) : Option Nat → Int32 := fun o => match o with
  | none => nI to
  | some e => nI e
def hV (to : Nat) : Option Nat → Int32 := fun o => match o with
  | none => nI to
  | some e => nI (e + 1)
theorem b_isB (op c : Nat → Int32) : ∀ k, ∀ z ∈ (b_at op c k).1, isB (op z) := by
  intro k
  induction k with
  | zero => exact fun z hz => absurd (show z ∈ ([] : List Nat) from hz) List.not_mem_nil
  | succ k ih =>
    show ∀ z ∈ (b_st op c k (b_at op c k)).1, isB (op z)
    generalize b_at op c k = s at ih
    rcases b_shape op c k s with ⟨h, e⟩ | ⟨b, r, hs, -, -, -, -, e⟩ | ⟨b, r, hs, -, -, -, e⟩ | ⟨b, r, hs, -, e⟩ | ⟨-, e⟩ | ⟨-, -, e, -⟩
    · rw [e]
      intro z hz
      rcases List.mem_cons.mp hz with q | q
      · rw [q]; exact h
      · exact ih z q
    · rw [e]; exact ih
    · rw [e]; exact ih
    · rw [e]; exact fun z hz => ih z (by rw [hs]; exact List.mem_cons_of_mem _ hz)
    · rw [e]; exact fun z hz => absurd hz List.not_mem_nil
    · rw [e]; exact ih
/-- the words of a laid-out block -/
def bW (m to : Nat) (s : bS) (S : Sg) (b : Nat) : Prop := aI S (m + 6) b = opI (s.2.1 b) ∧ aI S (m + 7) b = opI (s.2.2.1 b) ∧ aI S (m + 5) b = eV to (s.2.2.2 b) ∧ aI S (m + 8) b = hV to (s.2.2.2 b)
def LI (m fr to : Nat) (T : Sg) (k : Nat) (s : bS) (S : Sg) : Prop := LA m T S ∧ fI S 716 m = fI T 716 m ∧ (∀ i, aI S (m + 10) i = aI T (m + 10) i ∧ aI S (m + 11) i = aI T (m + 11) i) ∧ (∀ q, (q < fr ∨ to ≤ q) → aI S (m + 5) q = aI T (m + 5) q ∧ aI S (m + 6) q = aI T (m + 6) q ∧ aI S (m + 7) q = aI T (m + 7) q ∧ aI S (m + 8) q = aI T (m + 8) q) ∧
  (∀ i, i < s.1.length → aI S (m + 9) i = nI (s.1.getD (s.1.length - 1 - i) 0)) ∧ ∀ b, fr ≤ b → b < k → isB (aI T (m + 1) b) → bW m to s S b
theorem r_layR {m fr to : Nat} {T : Sg} {Q : Sg → Prop} (hM : MX m T) (hto : to ≤ 2000) (hst : ∀ k, fr ≤ k → ∀ z ∈ (b_at (aI T (m + 1)) (aI T (m + 4)) k).1, fr ≤ z) (hno : ∀ k, fr ≤ k → k < to → ¬ (aI T (m + 1) k = 35 ∧ aI T (m + 4) k &&& 1 = 0)) (hq : ∀ S, LI m fr to T to (b_at (aI T (m + 1)) (aI T (m + 4)) to) S → Q S) : ∀ d k (S : Sg), k + d = to → fr ≤ k → LI m fr to T k (b_at (aI T (m + 1)) (aI T (m + 4)) k) S → wX11_layOutRoutine_b5 (d + 1) m (nI to) (nI (b_at (aI T (m + 1)) (aI T (m + 4)) k).1.length) (nI k) S Q := by
  intro d
  induction d with
  | zero =>
    intro k S hk hf h
    unfold wX11_layOutRoutine_b5
    rw [if_pos (by rw [n_le (by omega) (by omega)]; omega)]
    have : k = to := by omega
    subst this
    exact hq S h
  | succ d ih =>
    intro k S hk hf h
    have hnok := hno k hf (by omega)
    have hstk := hst k hf
    have hstk1 := hst (k + 1) (by omega)
    have hlt := b_lt (aI T (m + 1)) (aI T (m + 4)) k
    have hbv := b_val (aI T (m + 1)) (aI T (m + 4)) k
    have hib := b_isB (aI T (m + 1)) (aI T (m + 4)) k
    have ihk := ih (k + 1)
    have e1 : b_at (aI T (m + 1)) (aI T (m + 4)) (k + 1) = b_st (aI T (m + 1)) (aI T (m + 4)) k (b_at (aI T (m + 1)) (aI T (m + 4)) k) := rfl
    rw [e1] at ihk hstk1
    have hlen : (b_at (aI T (m + 1)) (aI T (m + 4)) k).1.length ≤ k := b_len _ _ k
    generalize b_at (aI T (m + 1)) (aI T (m + 4)) k = s at h hstk hstk1 hlt hbv hib ihk hlen
    obtain ⟨hA, h716, hrt, hout, hbeg, hbw⟩ := h
    have hMS := MX_LA hA hM
    have hop := (LA_op hA).1
    have c0 : (nI k).toNatClampNeg = k := n_cl (by omega)
    unfold wX11_layOutRoutine_b5
    rw [if_neg (by rw [n_le (by omega) (by omega)]; omega)]
    refine ⟨m + 1, MX_r704 hMS, MX_t1 hMS, by rw [MX_l1 hMS]; exact vp_n (by omega) (by omega), nm_e ⟨m + 5, MX_r709 hMS, MX_t5 hMS, by rw [MX_l5 hMS]; exact vp_n (by omega) (by omega), ?_⟩⟩
    intro S7 eS7
    rw [c0] at eS7 ⊢
    rw [hop]
    -- the state behind the first writing
    have hA7 : LA m T S7 := by rw [eS7]; exact LA_tr hA (LA_AI (by omega) (by omega))
    have hM7 := MX_LA hA7 hM
    have a7 : ∀ q i, ¬ (q = m + 5 ∧ i = k) → aI S7 q i = aI S q i := fun q i hn => by rw [eS7]; simp only [gs_AI]; rw [if_neg hn]
    have f7 : fI S7 716 m = fI T 716 m := by rw [eS7]; simp only [gs_AI]; exact h716
    have r7 : ∀ i, aI S7 (m + 10) i = aI T (m + 10) i ∧ aI S7 (m + 11) i = aI T (m + 11) i := fun i => ⟨by rw [a7 _ _ (by omega)]; exact (hrt i).1, by rw [a7 _ _ (by omega)]; exact (hrt i).2⟩
    have o7 : ∀ q, (q < fr ∨ to ≤ q) → aI S7 (m + 5) q = aI T (m + 5) q ∧ aI S7 (m + 6) q = aI T (m + 6) q ∧ aI S7 (m + 7) q = aI T (m + 7) q ∧ aI S7 (m + 8) q = aI T (m + 8) q := fun q hq' => by
      rw [a7 _ _ (by omega), a7 _ _ (by omega), a7 _ _ (by omega), a7 _ _ (by omega)]; exact hout q hq'
    have b7 : ∀ i, i < s.1.length → aI S7 (m + 9) i = nI (s.1.getD (s.1.length - 1 - i) 0) := fun i hi => by rw [a7 _ _ (by omega)]; exact hbeg i hi
    have w7 : ∀ b, fr ≤ b → b < k → isB (aI T (m + 1) b) → bW m to s S7 b := fun b g1 g2 g3 => by
      unfold bW
      rw [a7 _ _ (by omega), a7 _ _ (by omega), a7 _ _ (by omega), a7 _ _ (by omega)]
      exact hbw b g1 g2 g3
    clear hbw hbeg hout hrt h716 eS7 a7
    -- nothing of it
    have skip : ¬ isB (aI T (m + 1) k) → b_st (aI T (m + 1)) (aI T (m + 4)) k s = s → wX11_layOutRoutine_b5 (d + 1) m (nI to) (nI s.1.length) (nI (k + 1)) S7 Q := by
      intro hnb he
      rw [he] at ihk
      refine ihk S7 (by omega) (by omega) ⟨hA7, f7, r7, o7, b7, fun b g1 g2 g3 => ?_⟩
      by_cases z : b = k
      · subst z; exact absurd g3 hnb
      · exact w7 b g1 (by omega) g3
    have blk : isB (aI T (m + 1) k) → ∃ a9 : Nat, (fR S7 713 m) = some a9 ∧ tg S7 a9 = 13 ∧ vp_in (nI s.1.length) (ln S7 a9) ∧ ∀ S11 : Sg, S11 = sAI S7 a9 (nI s.1.length).toNatClampNeg (nI k) → ∀ y12 : Int32, y12 = nI s.1.length + (1) → ∃ a13 : Nat, (fR S11 710 m) = some a13 ∧ tg S11 a13 = 13 ∧ vp_in (nI k) (ln S11 a13) ∧ ∀ S15 : Sg, S15 = sAI S11 a13 k (-1 : Int32) → ∃ a16 : Nat, (fR S15 711 m) = some a16 ∧ tg S15 a16 = 13 ∧ vp_in (nI k) (ln S15 a16) ∧ ∀ S18 : Sg, S18 = sAI S15 a16 k (-1 : Int32) → vp_in (nI k) (ln S18 (m + 5)) ∧ ∀ S21 : Sg, S21 = sAI S18 (m + 5) k (nI to) → ∃ a22 : Nat, (fR S21 712 m) = some a22 ∧ tg S21 a22 = 13 ∧ vp_in (nI k) (ln S21 a22) ∧ ∀ S24 : Sg, S24 = sAI S21 a22 k (nI to) → ∀ y25 : Int32, y25 = nI k + (1) → wX11_layOutRoutine_b5 (d + 1) m (nI to) y12 y25 S24 Q := by
      intro hb
      have he : b_st (aI T (m + 1)) (aI T (m + 4)) k s = (k :: s.1, s.2) := by
        unfold isB at hb
        unfold b_st; rw [if_pos hb]
      rw [he] at ihk
      refine ⟨m + 9, MX_r713 hM7, MX_t9 hM7, by rw [MX_l9 hM7]; exact vp_n (by omega) (by omega), ?_⟩
      intro S11 e11 y ey
      rw [n_cl (by omega)] at e11
      rw [ey, nI_1]
      refine ⟨m + 6, by rw [e11]; simp only [gs_AI]; exact MX_r710 hM7, by rw [e11]; simp only [gs_AI]; exact MX_t6 hM7, by rw [e11]; simp only [gs_AI]; rw [MX_l6 hM7]; exact vp_n (by omega) (by omega), ?_⟩
      intro S15 e15
      refine ⟨m + 7, by rw [e15, e11]; simp only [gs_AI]; exact MX_r711 hM7, by rw [e15, e11]; simp only [gs_AI]; exact MX_t7 hM7, by rw [e15, e11]; simp only [gs_AI]; rw [MX_l7 hM7]; exact vp_n (by omega) (by omega), ?_⟩
      intro S18 e18
      refine ⟨by rw [e18, e15, e11]; simp only [gs_AI]; rw [MX_l5 hM7]; exact vp_n (by omega) (by omega), ?_⟩
      intro S21 e21
      refine ⟨m + 8, by rw [e21, e18, e15, e11]; simp only [gs_AI]; exact MX_r712 hM7, by rw [e21, e18, e15, e11]; simp only [gs_AI]; exact MX_t8 hM7, by rw [e21, e18, e15, e11]; simp only [gs_AI]; rw [MX_l8 hM7]; exact vp_n (by omega) (by omega), ?_⟩
      intro S24 e24 y2 ey2
      rw [ey2, nI_1]
      have av : ∀ q i, aI S24 q i = if q = m + 8 ∧ i = k then nI to else if q = m + 5 ∧ i = k then nI to else if q = m + 7 ∧ i = k then -1 else if q = m + 6 ∧ i = k then -1 else if q = m + 9 ∧ i = s.1.length then nI k else aI S7 q i := by
        intro q i
        rw [e24, e21, e18, e15, e11]; simp only [gs_AI]
      have hA24 : LA m T S24 := by
        rw [e24, e21, e18, e15, e11]
        exact LA_tr hA7 (LA_tr (LA_AI (by omega) (by omega)) (LA_tr (LA_AI (by omega) (by omega)) (LA_tr (LA_AI (by omega) (by omega)) (LA_tr (LA_AI (by omega) (by omega)) (LA_AI (by omega) (by omega))))))
      have f24 : fI S24 716 m = fI T 716 m := by rw [e24, e21, e18, e15, e11]; simp only [gs_AI]; exact f7
      clear e24 e21 e18 e15 e11
      have ao : ∀ q i, ¬ ((q = m + 5 ∨ q = m + 6 ∨ q = m + 7 ∨ q = m + 8) ∧ i = k) → ¬ (q = m + 9 ∧ i = s.1.length) → aI S24 q i = aI S7 q i := by
        intro q i g1 g2
        rw [av, if_neg (by omega), if_neg (by omega), if_neg (by omega), if_neg (by omega), if_neg (by omega)]
      have key : LI m fr to T (k + 1) (k :: s.1, s.2) S24 := by
        refine ⟨hA24, f24, fun i => ?_, fun q hq' => ?_, fun i hi => ?_, fun b g1 g2 g3 => ?_⟩
        · rw [ao _ _ (by omega) (by omega), ao _ _ (by omega) (by omega)]; exact r7 i
        · rw [ao _ _ (by omega) (by omega), ao _ _ (by omega) (by omega), ao _ _ (by omega) (by omega), ao _ _ (by omega) (by omega)]; exact o7 q hq'
        · have hi' : i < s.1.length + 1 := hi
          show aI S24 (m + 9) i = nI ((k :: s.1).getD (s.1.length + 1 - 1 - i) 0)
          by_cases z : i = s.1.length
          · rw [av, if_neg (by omega), if_neg (by omega), if_neg (by omega), if_neg (by omega), if_pos ⟨rfl, z⟩, z, show s.1.length + 1 - 1 - s.1.length = 0 by omega]
            rfl
          · rw [ao _ _ (by omega) (by omega), b7 i (by omega), show s.1.length + 1 - 1 - i = (s.1.length - 1 - i) + 1 by omega]
            rfl
        · by_cases z : b = k
          · subst z
            obtain ⟨z1, z2, z3⟩ := hlt.2 b (Nat.le_refl _)
            unfold bW
            dsimp only
            rw [z1, z2, z3]
            refine ⟨?_, ?_, ?_, ?_⟩
            · rw [av, if_neg (by omega), if_neg (by omega), if_neg (by omega), if_pos (by omega)]; rfl
            · rw [av, if_neg (by omega), if_neg (by omega), if_pos (by omega)]; rfl
            · rw [av, if_neg (by omega), if_pos (by omega)]; rfl
            · rw [av, if_pos (by omega)]; rfl
          · unfold bW
            rw [ao _ _ (by omega) (by omega), ao _ _ (by omega) (by omega), ao _ _ (by omega) (by omega), ao _ _ (by omega) (by omega)]
            exact w7 b g1 (by omega) g3
      exact ihk S24 (by omega) (by omega) key
    generalize hov : aI T (m + 1) k = ov at blk skip hnok
    by_cases q1 : ov = 25
    · rw [if_pos q1]; exact blk (Or.inl q1)
    rw [if_neg q1]
    by_cases q2 : ov = 29
    · rw [if_pos q2]; exact blk (Or.inr (Or.inl q2))
    rw [if_neg q2]
    by_cases q3 : ov = 30
    · rw [if_pos q3]; exact blk (Or.inr (Or.inr q3))
    rw [if_neg q3]
    have nb : ¬ isB ov := by
      rintro (z | z | z)
      · exact q1 z
      · exact q2 z
      · exact q3 z
    clear blk
    by_cases q4 : s.1.length = 0
    · rw [if_pos (by rw [q4]; decide)]
      intro y ey
      rw [ey, nI_1]
      refine skip nb ?_
      have hnil : s.1 = [] := List.length_eq_zero_iff.mp q4
      rcases b_shape (aI T (m + 1)) (aI T (m + 4)) k s with ⟨h, e⟩ | ⟨b, r, hs, -, -, -, -, e⟩ | ⟨b, r, hs, -, -, -, e⟩ | ⟨b, r, hs, -, e⟩ | ⟨h, e⟩ | ⟨-, -, e, -⟩
      · rw [hov] at h; exact absurd h nb
      · rw [hnil] at hs; cases hs
      · rw [hnil] at hs; cases hs
      · rw [hnil] at hs; cases hs
      · rw [hov] at h; exact absurd h hnok
      · exact e
    have hpos : 0 < s.1.length := Nat.pos_of_ne_zero q4
    have esub : nI s.1.length - 1 = nI (s.1.length - 1) := by
      rw [show s.1.length = (s.1.length - 1) + 1 by omega, ← nI_1]
      simp
    rw [if_neg (by rw [show (0 : Int32) = nI 0 from rfl, n_le (by omega) (by omega)]; omega), esub]
    refine ⟨m + 9, MX_r713 hM7, MX_t9 hM7, by rw [MX_l9 hM7]; exact vp_n (by omega) (by omega), ?_⟩
    rw [n_cl (by omega), b7 _ (by omega), show s.1.length - 1 - (s.1.length - 1) = 0 by omega]
    obtain ⟨l, t1, t2, t3⟩ := s
    dsimp only at *
    cases l with
    | nil => exact absurd hpos (by show ¬ 0 < 0; omega)
    | cons b r =>
      have gb : (b :: r).getD 0 0 = b := rfl
      rw [gb]
      have hbk : b < k := hlt.1 b List.mem_cons_self
      have hbf : fr ≤ b := hstk b List.mem_cons_self
      have hbB := hib b List.mem_cons_self
      obtain ⟨u1, u2, u3, u4⟩ := w7 b hbf hbk hbB
      dsimp only at u1 u2 u3 u4
      have p1 : aI S7 (m + 6) b < 0 ↔ t1 b = none := by rw [u1]; exact opI_neg (fun v hv => by have := hbv b v (Or.inl hv); omega)
      have p2 : aI S7 (m + 7) b < 0 ↔ t2 b = none := by rw [u2]; exact opI_neg (fun v hv => by have := hbv b v (Or.inr (Or.inl hv)); omega)
      have ob : aI S7 (m + 1) b = aI T (m + 1) b := by rw [(LA_op hA7).1]
      -- what one writing leaves
      have rest : ∀ (S' : Sg) (l' : List Nat) (t1' t2' t3' : Nat → Option Nat), LA m T S' → fI S' 716 m = fI T 716 m → (∀ q i, ¬ ((q = m + 5 ∨ q = m + 6 ∨ q = m + 7 ∨ q = m + 8) ∧ i = b) → aI S' q i = aI S7 q i) → (∀ i, i < l'.length → (b :: r).getD (r.length - i) 0 = l'.getD (l'.length - 1 - i) 0) → l'.length ≤ (b :: r).length → (∀ i, i ≠ b → t1' i = t1 i ∧ t2' i = t2 i ∧ t3' i = t3 i) → bW m to (l', t1', t2', t3') S' b → LI m fr to T (k + 1) (l', t1', t2', t3') S' := by
        intro S' l' t1' t2' t3' g1 g2 g3 g4 g5 g6 g7
        refine ⟨g1, g2, fun i => ?_, fun q hq' => ?_, fun i hi => ?_, fun b' h1 h2 h3 => ?_⟩
        · rw [g3 _ _ (by omega), g3 _ _ (by omega)]; exact r7 i
        · rw [g3 _ _ (by omega), g3 _ _ (by omega), g3 _ _ (by omega), g3 _ _ (by omega)]; exact o7 q hq'
        · have hi' : i < l'.length := hi
          show aI S' (m + 9) i = nI (l'.getD (l'.length - 1 - i) 0)
          rw [g3 _ _ (by omega), b7 i (by omega), ← g4 i hi']
          rfl
        · by_cases z : b' = b
          · subst z; exact g7
          · by_cases z2 : b' = k
            · subst z2; rw [hov] at h3; exact absurd h3 nb
            · obtain ⟨v1, v2, v3⟩ := g6 b' z
              unfold bW
              dsimp only
              rw [v1, v2, v3, g3 _ _ (by omega), g3 _ _ (by omega), g3 _ _ (by omega), g3 _ _ (by omega)]
              exact w7 b' h1 (by omega) h3
      have same : ∀ i, i < (b :: r).length → (b :: r).getD (r.length - i) 0 = (b :: r).getD ((b :: r).length - 1 - i) 0 := fun i _ => rfl
      have upo : ∀ (t : Nat → Option Nat) (i : Nat), i ≠ b → va_up t b (some k) i = t i := fun t i hi => if_neg hi
      have upb : ∀ (t : Nat → Option Nat), va_up t b (some k) b = some k := fun t => if_pos rfl
      have nn : ∀ v : Int32, nI (b :: r).length + -1 = nI r.length := fun _ => by
        rw [List.length_cons, ← nI_1]
        rw [Int32.add_assoc]; simp
      refine r_belongs hM7 (by omega) ?_ ?_ ?_ ?_
      · intro g1 g2 g3 g4
        rw [ob] at g2; rw [p1] at g3; rw [p2] at g4
        have he : b_st (aI T (m + 1)) (aI T (m + 4)) k (b :: r, t1, t2, t3) = (b :: r, va_up t1 b (some k), t2, t3) := by
          rcases b_shape (aI T (m + 1)) (aI T (m + 4)) k (b :: r, t1, t2, t3) with ⟨h, e⟩ | ⟨b', r', hs, -, -, -, -, e⟩ | ⟨b', r', hs, z, -, -, e⟩ | ⟨b', r', hs, z, e⟩ | ⟨h, e⟩ | ⟨-, -, e, z⟩
          · rw [hov] at h; exact absurd h nb
          · cases hs; exact e
          · rw [hov, g1] at z; exact absurd z (by decide)
          · rw [hov, g1] at z; rcases z with z | z <;> exact absurd z.1 (by decide)
          · rw [hov] at h; exact absurd h hnok
          · exact absurd ⟨hov.trans g1, g2, g3, g4⟩ (z b r rfl).1
        rw [he] at ihk
        rw [if_pos rfl]
        intro y ey
        rw [ey, nI_1]
        refine ihk _ (by omega) (by omega) (rest _ _ _ _ _ (LA_tr hA7 (LA_AI (by omega) (by omega))) ?_ ?_ same (Nat.le_refl _) (fun i hi => ⟨upo _ i hi, rfl, rfl⟩) ?_)
        · simp only [gs_AI]; exact f7
        · intro q i hn
          simp only [gs_AI]; rw [if_neg (by omega)]
        · unfold bW
          dsimp only
          rw [upb]
          simp only [gs_AI]
          refine ⟨by rw [if_pos ⟨trivial, trivial⟩]; rfl, by rw [if_neg (by omega)]; exact u2, by rw [if_neg (by omega)]; exact u3, by rw [if_neg (by omega)]; exact u4⟩
      · intro g1 g2 g4
        rw [ob] at g2; rw [p2] at g4
        have he : b_st (aI T (m + 1)) (aI T (m + 4)) k (b :: r, t1, t2, t3) = (b :: r, t1, va_up t2 b (some k), t3) := by
          rcases b_shape (aI T (m + 1)) (aI T (m + 4)) k (b :: r, t1, t2, t3) with ⟨h, e⟩ | ⟨b', r', hs, z, -, -, -, e⟩ | ⟨b', r', hs, z, -, -, e⟩ | ⟨b', r', hs, z, e⟩ | ⟨h, e⟩ | ⟨-, -, e, z⟩
          · rw [hov] at h; exact absurd h nb
          · rw [hov, g1] at z; exact absurd z (by decide)
          · cases hs; exact e
          · rw [hov, g1] at z; rcases z with z | z <;> exact absurd z.1 (by decide)
          · rw [hov] at h; exact absurd h hnok
          · exact absurd ⟨hov.trans g1, g2, g4⟩ (z b r rfl).2.1
        rw [he] at ihk
        rw [if_pos rfl]
        intro y ey
        rw [ey, nI_1]
        refine ihk _ (by omega) (by omega) (rest _ _ _ _ _ (LA_tr hA7 (LA_AI (by omega) (by omega))) ?_ ?_ same (Nat.le_refl _) (fun i hi => ⟨rfl, upo _ i hi, rfl⟩) ?_)
        · simp only [gs_AI]; exact f7
        · intro q i hn
          simp only [gs_AI]; rw [if_neg (by omega)]
        · unfold bW
          dsimp only
          rw [upb]
          simp only [gs_AI]
          refine ⟨by rw [if_neg (by omega)]; exact u1, by rw [if_pos ⟨trivial, trivial⟩]; rfl, by rw [if_neg (by omega)]; exact u3, by rw [if_neg (by omega)]; exact u4⟩
      · intro g
        rw [ob] at g
        have he : b_st (aI T (m + 1)) (aI T (m + 4)) k (b :: r, t1, t2, t3) = (r, t1, t2, va_up t3 b (some k)) := by
          rcases b_shape (aI T (m + 1)) (aI T (m + 4)) k (b :: r, t1, t2, t3) with ⟨h, e⟩ | ⟨b', r', hs, z, -, -, -, e⟩ | ⟨b', r', hs, z, -, -, e⟩ | ⟨b', r', hs, z, e⟩ | ⟨h, e⟩ | ⟨-, -, e, z⟩
          · rw [hov] at h; exact absurd h nb
          · rw [hov] at z; rcases g with g | g <;> rw [g.1] at z <;> exact absurd z (by decide)
          · rw [hov] at z; rcases g with g | g <;> rw [g.1] at z <;> exact absurd z (by decide)
          · cases hs; exact e
          · rw [hov] at h; exact absurd h hnok
          · refine absurd ?_ (z b r rfl).2.2
            rw [hov]; exact g
        rw [he] at ihk
        rw [if_neg (by decide)]
        intro y ey y2 ey2
        rw [ey, ey2, nI_1, nn 0]
        refine ihk _ (by omega) (by omega) (rest _ _ _ _ _ (LA_tr hA7 (LA_tr (LA_AI (by omega) (by omega)) (LA_AI (by omega) (by omega)))) ?_ ?_ ?_ (Nat.le_succ _) (fun i hi => ⟨rfl, rfl, upo _ i hi⟩) ?_)
        · simp only [gs_AI]; exact f7
        · intro q i hn
          simp only [gs_AI]; rw [if_neg (by omega), if_neg (by omega)]
        · intro i hi
          rw [show r.length - i = (r.length - 1 - i) + 1 by omega]
          rfl
        · unfold bW
          dsimp only
          rw [upb]
          simp only [gs_AI]
          refine ⟨by rw [if_neg (by omega), if_neg (by omega)]; exact u1, by rw [if_neg (by omega), if_neg (by omega)]; exact u2, by rw [if_neg (by omega), if_pos ⟨trivial, trivial⟩]; rfl, by rw [if_pos ⟨trivial, trivial⟩]; rfl⟩
      · intro g1 g2 g3
        rw [if_pos rfl]
        intro y ey
        rw [ey, nI_1]
        refine skip nb ?_
        rw [ob, p1, p2] at g1
        rw [ob, p2] at g2
        rw [ob] at g3
        rcases b_shape (aI T (m + 1)) (aI T (m + 4)) k (b :: r, t1, t2, t3) with ⟨h, e⟩ | ⟨b', r', hs, z1, z2, z3, z4, e⟩ | ⟨b', r', hs, z1, z2, z3, e⟩ | ⟨b', r', hs, z, e⟩ | ⟨h, e⟩ | ⟨-, -, e, z⟩
        · rw [hov] at h; exact absurd h nb
        · cases hs; exact absurd ⟨hov.symm.trans z1, z2, z3, z4⟩ g1
        · cases hs; exact absurd ⟨hov.symm.trans z1, z2, z3⟩ g2
        · cases hs; rw [hov] at z; exact absurd z g3
        · rw [hov] at h; exact absurd h hnok
        · exact e
