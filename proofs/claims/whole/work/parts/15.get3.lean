theorem i64_32 (v : Int32) : (v.toInt64).toInt32 = v := by simp
theorem lgc_0 (v : Int32) : lg_cmp v.toInt64 0 = 0 ↔ v = 0 := by
  have key : v.toInt64 = 0 ↔ v = 0 := by
    constructor
    · intro h
      have := congrArg Int64.toInt32 h
      rw [i64_32] at this
      exact this
    · intro h; subst h; rfl
  unfold lg_cmp
  by_cases h1 : v.toInt64 > 0
  · rw [if_pos h1]
    constructor
    · intro h; exact absurd h (by decide)
    · intro h; subst h; exact absurd h1 (by decide)
  · rw [if_neg h1]
    by_cases h2 : v.toInt64 = 0
    · rw [if_pos h2]; exact ⟨fun _ => key.mp h2, fun _ => rfl⟩
    · rw [if_neg h2]
      constructor
      · intro h; exact absurd h (by decide)
      · intro h; exact absurd (key.mpr h) h2
theorem ix64 {k j : Nat} (hk : k < 64) (hj : j < 64) {a b : Nat} (ha : a < 8) (hb : b < 8) (e : k = 8 * a + b) : ((64 : Int32) * ((8 : Int32) * nI a + nI b)) + nI j = nI (64 * k + j) := by
  rw [m8 ha hb, show (64 : Int32) = nI 64 from rfl, pk_mul, nI_add, e]
theorem p_value : PL_value RR := by
  intro x m i j z S T hR hf
  obtain ⟨n, st, N, th, F, fa, ra, rb, rc, h⟩ := id hR
  obtain ⟨hS, hM, hSc, hBl, hTh, hNu, hHa, hRo, hGr, hFa, hRe, hTo⟩ := h
  have hN := hTh.1
  have bad : (¬ ∃ a b : Nat, a < 8 ∧ b < 8 ∧ i = nI a ∧ j = nI b) → wX10_value_b26 x i z S (fun r S1 => ∀ n2, (∀ q, tg T q ≠ 0 → q < n2) → wX11_value m i j z (rz T n2) (fun r2 S2 => r = r2 ∧ RR x m S1 S2)) := by
    intro hno
    unfold wX10_value_b26 wX10_value_b27
    rw [if_pos rfl]
    intro n2 hn
    unfold wX11_value
    refine r_size (m := m) (T := rz T n2) hM (fun _ => ?_) (fun a b ha hb e1 e2 => absurd ⟨a, b, ha, hb, e1, e2⟩ hno)
    dsimp only
    by_cases c0 : z < 0
    · rw [if_pos c0]; exact ⟨rfl, RR_rz2 hR⟩
    · rw [if_neg c0, if_neg ?_]
      · exact ⟨rfl, RR_rz2 hR⟩
      · intro c1
        obtain ⟨k, hk, rfl⟩ := nI_of c0
        rw [Int32.lt_iff_toInt_lt, nI_toInt hk] at c1
        have : (-2 : Int32).toInt = -2 := by decide
        omega
  unfold wX10_value
  refine r_isOfEight (fun hc => ?_) (fun a ha e => ?_)
  · rw [if_pos rfl]
    refine bad (fun ⟨a, b, ha, hb, e1, e2⟩ => ?_)
    subst e1
    rcases hc with c | c
    · exact absurd c (n_neg (by omega))
    · rw [show (8 : Int32) = nI 8 from rfl, n_le (by omega) (by omega)] at c; omega
  · rw [if_neg (by decide)]
    refine r_isOfEight (fun hc => ?_) (fun b hb e2 => ?_)
    · rw [if_pos rfl]
      refine bad (fun ⟨a, b, ha, hb, e1, e2⟩ => ?_)
      subst e2
      rcases hc with c | c
      · exact absurd c (n_neg (by omega))
      · rw [show (8 : Int32) = nI 8 from rfl, n_le (by omega) (by omega)] at c; omega
    · rw [if_neg (by decide)]
      subst e
      subst e2
      refine ⟨x + 4, SX_r641 hS, SX_t4 hS, r_rowOf hS (row_ix a ha b hb) (by omega) ?_⟩
      obtain ⟨k, hk⟩ : ∃ k, k = 8 * a + b := ⟨_, rfl⟩
      have hk64 : k < 64 := by omega
      rw [← hk]
      -- the reference, of a size that is known
      have ref : ∀ (p : Int32) (P : Int64 → Sg → Prop) (n2 : Nat), aI T (m + 16) k = p → (z < 0 ∨ ¬ z < p → P 0 (rz T n2)) → (∀ q : Nat, z = nI q → z < p → ¬ z < 0 → q < 63 → (a < 7 → P (aL T (m + 18) (64 * k + q)) (rz T n2)) ∧ (¬ a < 7 → (lg_cmp (aL T (m + 18) (64 * k + q)) 0 = 0 → P (-1) (rz T n2)) ∧ (¬ lg_cmp (aL T (m + 18) (64 * k + q)) 0 = 0 → ∃ t : Nat, t ≤ 8000 ∧ (aL T (m + 18) (64 * k + q)).toInt32 = nI t ∧ P (aI T (m + 14) t).toInt64 (rz T n2)))) → (z < p → ¬ z < 0 → ∃ q : Nat, z = nI q ∧ q < 63) → wX11_value m (nI a) (nI b) z (rz T n2) P := by
        intro p P n2 hp h0 h1 h2
        unfold wX11_value
        refine r_size (m := m) (T := rz T n2) hM (fun hno => absurd ⟨a, b, ha, hb, rfl, rfl⟩ hno) (fun a' b' ha' hb' e1 e2 => ?_)
        have q1 := (n_eq (by omega) (by omega)).mp e1
        have q2 := (n_eq (by omega) (by omega)).mp e2
        subst q1; subst q2
        rw [show aI (rz T n2) (m + 16) (8 * a + b) = p from by rw [← hp, hk]; rfl]
        by_cases c0 : z < 0
        · rw [if_pos c0]; exact h0 (Or.inl c0)
        · rw [if_neg c0]
          by_cases c1 : z < p
          · rw [if_pos c1]
            obtain ⟨q, hq, hq63⟩ := h2 c1 c0
            obtain ⟨g1, g2⟩ := h1 q hq c1 c0 hq63
            subst hq
            have e64 := ix64 hk64 (show q < 64 by omega) ha hb hk
            refine ⟨m + 18, MX_r724 hM, MX_t18 hM, by rw [e64]; show vp_in _ (ln T (m + 18)); rw [MX_l18 hM]; exact vp_n (by omega) (by omega), ?_⟩
            intro y7 hy
            have hy7 : y7 = aL T (m + 18) (64 * k + q) := by rw [hy, e64, n_cl (by omega)]; rfl
            rw [hy7]
            by_cases c7 : a < 7
            · rw [if_neg (by rw [show (7 : Int32) = nI 7 from rfl, n_le (by omega) (by omega)]; omega)]
              exact g1 c7
            · rw [if_pos (by rw [show (7 : Int32) = nI 7 from rfl, n_le (by omega) (by omega)]; omega)]
              by_cases c8 : lg_cmp (aL T (m + 18) (64 * k + q)) 0 = 0
              · rw [if_pos c8]; exact (g2 c7).1 c8
              · rw [if_neg c8]
                obtain ⟨t, ht, et, hP⟩ := (g2 c7).2 c8
                refine ⟨m + 14, MX_r719 hM, MX_t14 hM, by rw [et]; show vp_in _ (ln T (m + 14)); rw [MX_l14 hM]; exact vp_n (by omega) (by omega), ?_⟩
                rw [et, n_cl (by omega)]
                exact hP
          · rw [if_neg c1]; exact h0 (Or.inr c1)
      unfold wX10_value_b27
      rcases hRo.1 k hk64 with ⟨o1, o2⟩ | ⟨o1, -, -, -, o2⟩
      · rw [if_pos o1]
        intro n2 hn
        have hcon : z < -1 → ¬ z < 0 → False := by
          intro c1 c0
          obtain ⟨k', hk', rfl⟩ := nI_of c0
          rw [Int32.lt_iff_toInt_lt, nI_toInt hk'] at c1
          have : (-1 : Int32).toInt = -1 := by decide
          omega
        exact ref (-1) _ n2 o2 (fun _ => ⟨rfl, RR_rz2 hR⟩) (fun q _ c1 c0 _ => (hcon c1 c0).elim) (fun c1 c0 => (hcon c1 c0).elim)
      · rw [if_neg (by rw [o1]; exact fun z => by cases z)]
        obtain ⟨t1, t2, t3, t4, t5, t6, ⟨p, p1, p2, p3⟩, t7, t8, t9, t10⟩ := o2
        refine ⟨ra k, o1, t1, ?_⟩
        unfold wX5_has
        have hz : z < nI p → ¬ z < 0 → ∃ q : Nat, z = nI q ∧ q < 63 := by
          intro c1 c0
          obtain ⟨q, hq, rfl⟩ := nI_of c0
          rw [n_lt (by omega) (by omega)] at c1
          exact ⟨q, rfl, by omega⟩
        by_cases c0 : z < 0
        · rw [if_pos c0]
          dsimp only
          rw [if_pos rfl]
          intro n2 hn
          exact ref (nI p) _ n2 p3 (fun _ => ⟨rfl, RR_rz2 hR⟩) (fun q _ _ c1 _ => absurd c0 c1) hz
        · rw [if_neg c0]
          by_cases c1 : nI p ≤ z
          · rw [if_pos (by rw [p2]; exact c1)]
            dsimp only
            rw [if_pos rfl]
            intro n2 hn
            have c2 : ¬ z < nI p := Int32.not_lt.mpr c1
            exact ref (nI p) _ n2 p3 (fun _ => ⟨rfl, RR_rz2 hR⟩) (fun q _ c3 _ _ => absurd c3 c2) hz
          · rw [if_neg (by rw [p2]; exact c1)]
            dsimp only
            rw [if_neg (by decide)]
            obtain ⟨q, hq, rfl⟩ := i_lt (by omega) c0 c1
            have c2 : nI q < nI p := (n_lt (by omega) (by omega)).mpr hq
            by_cases c7 : a < 7
            · rw [if_neg (by rw [show (7 : Int32) = nI 7 from rfl, n_eq (by omega) (by omega)]; omega)]
              obtain ⟨l1, l2, l3⟩ := t9 (by omega)
              unfold wX5_numberAt
              rw [if_neg c0]
              refine ⟨rb k, t3, t4, ?_⟩
              rw [if_neg (by rw [l1, n_le (by omega) (by omega)]; omega)]
              refine ⟨by rw [l1]; exact vp_n (by omega) (by omega), fun n2 hn => ?_⟩
              refine ref (nI p) _ n2 p3 (fun hh => ?_) (fun q' hq' _ _ hq63 => ⟨fun _ => ⟨?_, RR_rz2 hR⟩, fun hh => absurd c7 hh⟩) hz
              · rcases hh with hh | hh
                · exact absurd hh c0
                · exact absurd c2 hh
              · have := (n_eq (by omega) (by omega)).mp hq'
                subst this
                rw [n_cl (by omega)]
                exact l3 q (by omega)
            · rw [if_pos (by rw [show (7 : Int32) = nI 7 from rfl, n_eq (by omega) (by omega)]; omega)]
              obtain ⟨l1, l2, l3⟩ := t10 (by omega)
              unfold wX5_thingAt
              rw [if_neg c0]
              refine ⟨rc k, t5, t6, ?_⟩
              rw [if_neg (by rw [l2, n_le (by omega) (by omega)]; omega)]
              refine ⟨by rw [l2]; exact vp_n (by omega) (by omega), ?_⟩
              rw [n_cl (by omega)]
              obtain ⟨v, v1, v2⟩ := l3 q (by omega)
              have hh0 : ¬ (nI q < 0 ∨ ¬ nI q < nI p) := by
                rintro (hh | hh)
                · exact c0 hh
                · exact hh c2
              rcases v2 with ⟨w1, w2⟩ | ⟨t, w0, w1, w2, w3⟩
              · rw [w1]
                unfold wX10_kindOf
                rw [if_pos rfl]
                intro n2 hn
                refine ref (nI p) _ n2 p3 (fun hh => absurd hh hh0) (fun q' hq' _ _ hq63 => ⟨fun hh => absurd hh c7, fun _ => ⟨fun _ => ⟨by decide, RR_rz2 hR⟩, fun hh => ?_⟩⟩) hz
                have := (n_eq (by omega) (by omega)).mp hq'
                subst this
                exact absurd ((v1 ▸ (lgc_0 v).mpr w2 : _)) hh
              · obtain ⟨h1, h2, h3, h4⟩ := hTh.2.2.1 t w0 w1
                rw [w2]
                unfold wX10_kindOf
                rw [if_neg (fun z => by cases z)]
                refine ⟨th t, rfl, h1, fun n2 hn => ?_⟩
                refine ref (nI p) _ n2 p3 (fun hh => absurd hh hh0) (fun q' hq' _ _ hq63 => ⟨fun hh => absurd hh c7, fun _ => ⟨fun hh => ?_, fun _ => ⟨t, by omega, ?_, ?_, RR_rz2 hR⟩⟩⟩) hz
                · have := (n_eq (by omega) (by omega)).mp hq'
                  subst this
                  rw [v1, lgc_0, w3] at hh
                  exact absurd hh (nI_ne0 (by omega) (by omega))
                · have := (n_eq (by omega) (by omega)).mp hq'
                  subst this
                  rw [v1, i64_32, w3]
                · rw [h2]
theorem r_cause {x m F : Nat} {fa : Nat → Nat} {S T : Sg} (hFa : RFa m F fa S T) {I : Nat} (hI : I < 2147483648) : ∀ (J : Nat), J ≤ F → ∀ (k : Nat) (o : Option Nat) (v : Int32), hrel J fa o v → k ≤ I → k + J ≤ 2000 → ∃ res : Int32, (∀ Q : Int32 → Sg → Prop, Q res S → ∃ fu, wX10_cause_b29 fu x (nI I) o (nI k) S Q) ∧ (∀ T' : Sg, MX m T' → aI T' = aI T → ∀ Q : Int32 → Sg → Prop, Q res T' → ∃ fu, wX11_cause_b7 fu m (nI I) v (nI (k + 1)) T' Q) := by
  intro J
  induction J using Nat.strongRecOn with
  | ind J ih =>
    intro hJ k o v hr hk hkJ
    have hF := hFa.1
    -- what is answered at the end
    have tail : ∀ (T' : Sg), MX m T' → aI T' = aI T → ∀ (Q : Int32 → Sg → Prop) (res : Int32), (v = 0 → res = -1) → (∀ j, 1 ≤ j → j ≤ F → v = nI j → res = aI T (m + 28) j) → Q res T' → wX11_cause_b29 m (nI I) v T' Q := by
      intro T' hM' hA Q res h0 h1 hq
      unfold wX11_cause_b29
      rw [if_neg (n_neg (by omega))]
      rcases hr with ⟨-, h2⟩ | ⟨j, j1, j2, j3, j4⟩
      · rw [if_pos h2, ← h0 h2]; exact hq
      · rw [if_neg (by rw [j4]; exact nI_ne0 (by omega) (by omega))]
        refine ⟨m + 28, MX_r743 hM', MX_t28 hM', by rw [j4, MX_l28 hM']; exact vp_n (by omega) (by omega), ?_⟩
        rw [j4, n_cl (by omega), hA, ← h1 j j1 (by omega) j4]
        exact hq
    by_cases hkI : k = I
    · subst hkI
      have hstop : ∀ (T' : Sg) (Q : Int32 → Sg → Prop), wX11_cause_b29 m (nI k) v T' Q → ∃ fu, wX11_cause_b7 fu m (nI k) v (nI (k + 1)) T' Q := by
        intro T' Q hq
        by_cases hb : k + 1 < 2147483648
        · refine ⟨1, ?_⟩
          unfold wX11_cause_b7
          rw [if_pos ((n_lt hI hb).mpr (by omega))]
          exact hq
        · omega
      rcases hr with ⟨h1, h2⟩ | ⟨j, j1, j2, j3, j4⟩
      · refine ⟨-1, fun Q hq => ⟨1, ?_⟩, fun T' hM' hA Q hq => hstop T' Q (tail T' hM' hA Q (-1) (fun _ => rfl) (fun j j1 j2 j3 => ?_) hq)⟩
        · unfold wX10_cause_b29
          rw [if_pos ((n_le hI hI).mpr (Nat.le_refl _)), if_pos h1]
          exact hq
        · rw [h2] at j3; exact absurd j3.symm (nI_ne0 (by omega) (by omega))
      · obtain ⟨f1, f2, f3, f4⟩ := hFa.2.2 j j1 (by omega)
        refine ⟨fI S 0 (fa j), fun Q hq => ⟨1, ?_⟩, fun T' hM' hA Q hq => hstop T' Q (tail T' hM' hA Q _ (fun h0 => ?_) (fun j' j1' j2' j3' => ?_) hq)⟩
        · unfold wX10_cause_b29
          rw [if_pos ((n_le hI hI).mpr (Nat.le_refl _)), if_neg (by rw [j3]; exact fun z => by cases z)]
          exact ⟨fa j, j3, f1, hq⟩
        · rw [j4] at h0; exact absurd h0 (nI_ne0 (by omega) (by omega))
        · rw [j4] at j3'
          have := (n_eq (by omega) (by omega)).mp j3'
          subst this
          exact f2
    · have hlt : k + 1 ≤ I := by omega
      rcases hr with ⟨h1, h2⟩ | ⟨j, j1, j2, j3, j4⟩
      · refine ⟨-1, fun Q hq => ⟨1, ?_⟩, fun T' hM' hA Q hq => ⟨1, ?_⟩⟩
        · unfold wX10_cause_b29
          rw [if_neg (by rw [n_le hI (by omega)]; omega), if_pos h1, if_pos h1]
          exact hq
        · unfold wX11_cause_b7
          rw [if_neg (by rw [n_lt hI (by omega)]; omega), if_pos (by rw [h2]; decide)]
          refine tail T' hM' hA Q (-1) (fun _ => rfl) (fun j j1 j2 j3 => ?_) hq
          rw [h2] at j3; exact absurd j3.symm (nI_ne0 (by omega) (by omega))
      · obtain ⟨f1, f2, f3, f4⟩ := hFa.2.2 j j1 (by omega)
        obtain ⟨res, g1, g2⟩ := ih (j - 1) (by omega) (by omega) (k + 1) _ _ f3 (by omega) (by omega)
        refine ⟨res, fun Q hq => ?_, fun T' hM' hA Q hq => ?_⟩
        · obtain ⟨fu, hfu⟩ := g1 Q hq
          refine ⟨fu + 1, ?_⟩
          unfold wX10_cause_b29
          rw [if_neg (by rw [n_le hI (by omega)]; omega), if_neg (by rw [j3]; exact fun z => by cases z)]
          refine ⟨fa j, j3, f1, ?_⟩
          rintro y13 rfl y14 rfl
          rw [nI_1]
          exact hfu
        · obtain ⟨fu, hfu⟩ := g2 T' hM' hA Q hq
          refine ⟨fu + 1, ?_⟩
          unfold wX11_cause_b7
          rw [if_neg (by rw [n_lt hI (by omega)]; omega), if_neg (by rw [j4]; exact nI_nle (by omega) (by omega))]
          refine ⟨m + 29, MX_r744 hM', MX_t29 hM', by rw [j4, MX_l29 hM']; exact vp_n (by omega) (by omega), ?_⟩
          rintro y10 rfl y11 rfl
          rw [nI_1, j4, n_cl (by omega), hA]
          exact hfu
theorem p_cause : PL_cause RR := by
  intro x m i S T hR hf
  obtain ⟨n, st, N, th, F, fa, ra, rb, rc, h⟩ := id hR
  obtain ⟨hS, hM, hSc, hBl, hTh, hNu, hHa, hRo, hGr, hFa, hRe, hTo⟩ := h
  have hF := hFa.1
  unfold wX10_cause
  by_cases c0 : i < 0
  · rw [if_pos c0]
    intro n2 hn
    unfold wX11_cause
    rintro y1 rfl
    refine ⟨1, ?_⟩
    unfold wX11_cause_b7 wX11_cause_b29
    rw [if_pos c0, if_pos c0]
    exact ⟨rfl, RR_rz2 hR⟩
  · rw [if_neg c0]
    obtain ⟨I, hI, rfl⟩ := nI_of c0
    refine ⟨x + 10, SX_r642 hS, SX_t10 hS, ?_⟩
    rcases hRe.2.2.1 with ⟨o1, o2⟩ | ⟨j, j1, j2, o1, o2⟩
    · rw [if_pos o1]
      intro n2 hn
      unfold wX11_cause
      rintro y1 rfl
      refine ⟨1, ?_⟩
      unfold wX11_cause_b7 wX11_cause_b29
      rw [if_neg c0, if_pos (by show fI T 752 m ≤ 0; rw [o2]; decide), if_neg c0, if_pos (show fI (rz T n2) 752 m = 0 from o2)]
      exact ⟨rfl, RR_rz2 hR⟩
    · obtain ⟨f1, f2, f3, f4⟩ := hFa.2.2 j j1 j2
      rw [if_neg (by rw [o1]; exact fun z => by cases z)]
      refine ⟨fa j, o1, f1, ?_⟩
      rintro y5 rfl
      obtain ⟨res, g1, g4⟩ := r_cause (x := x) hFa (I := I) (by omega) (j - 1) (by omega) 0 _ _ f3 (by omega) (by omega)
      refine g1 _ (fun n2 hn => ?_)
      unfold wX11_cause
      rintro y1 rfl
      obtain ⟨fu, hfu⟩ := g4 (rz T n2) hM rfl (fun r2 S2 => res = r2 ∧ RR x m S S2) ⟨rfl, RR_rz2 hR⟩
      refine ⟨fu + 1, ?_⟩
      unfold wX11_cause_b7
      have e752 : fI (rz T n2) 752 m = nI j := o2
      rw [if_neg c0, e752, if_neg (nI_nle (by omega) (by omega))]
      refine ⟨m + 29, MX_r744 hM, MX_t29 hM, by show vp_in _ (ln T (m + 29)); rw [MX_l29 hM]; exact vp_n (by omega) (by omega), ?_⟩
      rintro y10 rfl y11 rfl
      rw [n_cl (by omega)]
      exact hfu
/-- CAUSES along the failure, counted by both -/
theorem r_causes {x m F : Nat} {fa : Nat → Nat} {S T : Sg} (hFa : RFa m F fa S T) : ∀ (J : Nat), 1 ≤ J → J ≤ F → ∀ (k : Nat), k + J ≤ F → ∃ res : Int32, (∀ Q : Int32 → Sg → Prop, Q res S → ∃ fu, wX4_countCauses_b7 fu x (nI k) (some (fa J)) S Q) ∧ (∀ T' : Sg, MX m T' → aI T' = aI T → ∀ Q : Int32 → Sg → Prop, Q res T' → ∃ fu, wX11_causes_b12 fu m (nI k) (aI T (m + 29) J) T' Q) := by
  intro J
  induction J using Nat.strongRecOn with
  | ind J ih =>
    intro hJ1 hJ k hk
    have hF := hFa.1
    obtain ⟨f1, f2, f3, f4⟩ := hFa.2.2 J hJ1 hJ
    rcases f3 with ⟨h1, h2⟩ | ⟨j, j1, j2, j3, j4⟩
    · refine ⟨nI k, fun Q hq => ⟨1, ?_⟩, fun T' hM' hA Q hq => ⟨1, ?_⟩⟩
      · unfold wX4_countCauses_b7
        rw [if_neg (fun z => by cases z)]
        refine ⟨fa J, rfl, f1, ?_⟩
        rw [if_pos h1]
        exact hq
      · unfold wX11_causes_b12
        rw [if_pos (by rw [h2]; decide)]
        exact hq
    · obtain ⟨res, g1, g2⟩ := ih j (by omega) j1 (by omega) (k + 1) (by omega)
      refine ⟨res, fun Q hq => ?_, fun T' hM' hA Q hq => ?_⟩
      · obtain ⟨fu, hfu⟩ := g1 Q hq
        refine ⟨fu + 1, ?_⟩
        unfold wX4_countCauses_b7
        rw [if_neg (fun z => by cases z)]
        refine ⟨fa J, rfl, f1, ?_⟩
        rw [if_neg (by rw [j3]; exact fun z => by cases z)]
        rintro y5 rfl y6 rfl
        rw [nI_1, j3]
        exact hfu
      · obtain ⟨fu, hfu⟩ := g2 T' hM' hA Q hq
        refine ⟨fu + 1, ?_⟩
        unfold wX11_causes_b12
        rw [if_neg (by rw [j4]; exact nI_nle (by omega) (by omega)), if_neg (by rw [show (1000 : Int32) = nI 1000 from rfl, n_le (by omega) (by omega)]; omega)]
        rintro y6 rfl
        refine ⟨m + 29, MX_r744 hM', MX_t29 hM', by rw [j4, MX_l29 hM']; exact vp_n (by omega) (by omega), ?_⟩
        rintro y9 rfl
        rw [nI_1, j4, n_cl (by omega), hA]
        exact hfu
