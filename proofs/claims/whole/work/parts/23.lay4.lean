/-! the whole layout -/
def LYr (m n : Nat) (ml : List Nat) (S : Sg) : Prop := ∀ r, r < ml.length → aI S (m + 10) r = nI (ml.getD r 0 + 1) ∧ aI S (m + 11) r = nI (rE n ml r)
def LYb (m n : Nat) (op : Nat → Int32) (s : bS) (ml : List Nat) (k : Nat) (S : Sg) : Prop := ∀ r, r < k → ∀ b, ml.getD r 0 < b → b < rE n ml r → isB (op b) → bW m (rE n ml r) s S b
def LY (m n : Nat) (S : Sg) : Prop := fI S 716 m = nI (mk_l (aI S (m + 1)) (aI S (m + 4)) n).length ∧ LYr m n (mk_l (aI S (m + 1)) (aI S (m + 4)) n) S ∧ LYb m n (aI S (m + 1)) (b_at (aI S (m + 1)) (aI S (m + 4)) n) (mk_l (aI S (m + 1)) (aI S (m + 4)) n) (mk_l (aI S (m + 1)) (aI S (m + 4)) n).length S
theorem r_lay2 {m n : Nat} {T : Sg} {op c : Nat → Int32} {Q : Sg → Prop} (hn : n ≤ 2000) (hq : ∀ S, LA m T S → LY m n S → Q S) : ∀ d r (S : Sg), r + d = (mk_l op c n).length → MX m S → LA m T S → aI S (m + 1) = op → aI S (m + 4) = c → fI S 716 m = nI (mk_l op c n).length → LYr m n (mk_l op c n) S → LYb m n op (b_at op c n) (mk_l op c n) r S → wX11_layOut_b85 (d + 1) m (nI r) S Q := by
  have hml := mk_len op c n
  intro d
  induction d with
  | zero =>
    intro r S hr hM hA ho hc h716 hyr hyb
    unfold wX11_layOut_b85
    rw [if_pos (by rw [h716, n_le (by omega) (by omega)]; omega)]
    refine hq S hA ⟨by rw [ho, hc]; exact h716, by rw [ho, hc]; exact hyr, ?_⟩
    rw [ho, hc]
    have : r = (mk_l op c n).length := by omega
    rw [this] at hyb
    exact hyb
  | succ d ih =>
    intro r S hr hM hA ho hc h716 hyr hyb
    have hrl : r < (mk_l op c n).length := by omega
    obtain ⟨y1, y2⟩ := hyr r hrl
    obtain ⟨g1, g2⟩ := mk_get hrl
    obtain ⟨e1, e2⟩ := rE_lt hrl
    unfold wX11_layOut_b85
    rw [if_neg (by rw [h716, n_le (by omega) (by omega)]; omega)]
    refine ⟨m + 10, MX_r714 hM, MX_t10 hM, by rw [MX_l10 hM]; exact vp_n (by omega) (by omega), m + 11, MX_r715 hM, MX_t11 hM, by rw [MX_l11 hM]; exact vp_n (by omega) (by omega), ?_⟩
    rw [n_cl (by omega), y1, y2]
    have hno : ∀ k, (mk_l op c n).getD r 0 + 1 ≤ k → k < rE n (mk_l op c n) r → ¬ (op k = 35 ∧ c k &&& 1 = 0) := fun k q1 q2 => mk_no hrl (by omega) q2
    have hst : ∀ k, (mk_l op c n).getD r 0 + 1 ≤ k → ∀ z ∈ (b_at op c k).1, (mk_l op c n).getD r 0 + 1 ≤ z := by
      intro k hk
      have hm := b_mark g2
      have := (b_fro op c ((mk_l op c n).getD r 0 + 1) (k - ((mk_l op c n).getD r 0 + 1)) ((mk_l op c n).getD r 0 + 1) (Nat.le_refl _) (by rw [hm]; exact fun z hz => absurd hz List.not_mem_nil)).1
      rw [show (mk_l op c n).getD r 0 + 1 + (k - ((mk_l op c n).getD r 0 + 1)) = k by omega] at this
      exact this
    have hb0 : (b_at op c ((mk_l op c n).getD r 0 + 1)).1 = [] := by rw [b_mark g2]
    have hbe : ∀ k, k < rE n (mk_l op c n) r → (b_at op c n).2.1 k = (b_at op c (rE n (mk_l op c n) r)).2.1 k ∧ (b_at op c n).2.2.1 k = (b_at op c (rE n (mk_l op c n) r)).2.2.1 k ∧ (b_at op c n).2.2.2 k = (b_at op c (rE n (mk_l op c n) r)).2.2.2 k := fun k hk => b_end hrl hk
    have hdis : ∀ r', r' < r → rE n (mk_l op c n) r' ≤ (mk_l op c n).getD r 0 := fun r' h => mk_dis h hrl
    generalize hto : rE n (mk_l op c n) r = to at *
    generalize hfr : (mk_l op c n).getD r 0 = fr at *
    unfold wX11_layOutRoutine
    refine ⟨(to - (fr + 1)) + 1, ?_⟩
    have key := r_layR (m := m) (fr := fr + 1) (to := to) (T := S) (Q := fun S9 => ∀ y10 : Int32, y10 = nI r + (1) → wX11_layOut_b85 (d + 1) m y10 S9 Q) hM (by omega) (by rw [ho, hc]; exact hst) (by rw [ho, hc]; exact hno) ?_ (to - (fr + 1)) (fr + 1) S (by omega) (Nat.le_refl _) ⟨LA_rf, rfl, fun _ => ⟨rfl, rfl⟩, fun _ _ => ⟨rfl, rfl, rfl, rfl⟩, fun i hi => absurd hi (by rw [ho, hc, hb0]; show ¬ i < 0; omega), fun b q1 q2 => by omega⟩
    · rw [ho, hc, hb0] at key
      exact key
    · intro S' h' y ey
      rw [ey, nI_1]
      obtain ⟨i1, i2, i3, i4, i5, i6⟩ := h'
      rw [ho, hc] at i5 i6
      obtain ⟨o1, -, -, o4⟩ := LA_op i1
      refine ih (r + 1) S' (by omega) (MX_LA i1 hM) (LA_tr hA i1) (o1.trans ho) (o4.trans hc) (i2.trans h716) (fun r' h => ⟨(i3 r').1.trans (hyr r' h).1, (i3 r').2.trans (hyr r' h).2⟩) (fun r' h b q1 q2 q3 => ?_)
      by_cases z : r' = r
      · subst z
        rw [hto] at q2 ⊢
        rw [hfr] at q1
        obtain ⟨u1, u2, u3, u4⟩ := i6 b (by omega) q2 q3
        obtain ⟨v1, v2, v3⟩ := hbe b q2
        exact ⟨by rw [v1]; exact u1, by rw [v2]; exact u2, by rw [v3]; exact u3, by rw [v3]; exact u4⟩
      · have hd := hdis r' (by omega)
        obtain ⟨u1, u2, u3, u4⟩ := hyb r' (by omega) b q1 q2 q3
        obtain ⟨v5, v6, v7, v8⟩ := i4 b (by omega)
        exact ⟨v6.trans u1, v7.trans u2, v5.trans u3, v8.trans u4⟩
theorem r_lay1 {m n : Nat} {T : Sg} {op c : Nat → Int32} {Q : Sg → Prop} (hn : n ≤ 2000) (hq : ∀ S, LA m T S → LY m n S → Q S) : ∀ d k (S : Sg), k + d = n → MX m S → LA m T S → fI S 708 m = nI n → aI S (m + 1) = op → aI S (m + 4) = c → fI S 716 m = nI (mk_l op c k).length → LYr m n (mk_l op c k) S → wX11_layOut_b7 (d + 1) m (nI k) S Q := by
  intro d
  induction d with
  | zero =>
    intro k S hk hM hA h708 ho hc h716 hyr
    unfold wX11_layOut_b7
    rw [if_pos (by rw [h708, n_le (by omega) (by omega)]; omega)]
    have : k = n := by omega
    subst this
    exact ⟨(mk_l op c k).length + 1, r_lay2 hn hq (mk_l op c k).length 0 S (by omega) hM hA ho hc h716 hyr (fun r h => absurd h (by omega))⟩
  | succ d ih =>
    intro k S hk hM hA h708 ho hc h716 hyr
    have hml := mk_len op c k
    have ihk := ih (k + 1)
    have e1 : mk_l op c (k + 1) = mk_l op c k ++ (if op k = 35 ∧ c k &&& 1 = 0 then [k] else []) := rfl
    rw [e1] at ihk
    generalize mk_l op c k = ml at *
    have c0 : (nI k).toNatClampNeg = k := n_cl (by omega)
    unfold wX11_layOut_b7
    rw [if_neg (by rw [h708, n_le (by omega) (by omega)]; omega)]
    have no : ¬ (op k = 35 ∧ c k &&& 1 = 0) → (if (0 : Int32) = 0 then ∀ y15 : Int32, y15 = nI k + (1) → wX11_layOut_b7 (d + 1) m y15 S Q else True) := by
      intro z
      rw [if_pos rfl]
      intro y ey
      rw [ey, nI_1]
      rw [if_neg z, List.append_nil] at ihk
      exact ihk S (by omega) hM hA h708 ho hc h716 hyr
    rw [if_pos rfl] at no
    unfold wX11_isMark
    refine ⟨m + 1, MX_r704 hM, MX_t1 hM, by rw [MX_l1 hM]; exact vp_n (by omega) (by omega), ?_⟩
    rw [c0, ho]
    by_cases q1 : op k = 35
    · rw [if_pos q1]
      refine ⟨m + 4, MX_r707 hM, MX_t4 hM, by rw [MX_l4 hM]; exact vp_n (by omega) (by omega), ?_⟩
      rw [hc]
      by_cases q2 : c k &&& 1 = 0
      · rw [if_pos q2]
        dsimp only
        rw [if_neg (by decide)]
        rw [if_pos ⟨q1, q2⟩] at ihk
        refine ⟨m + 10, MX_r714 hM, MX_t10 hM, by rw [h716, MX_l10 hM]; exact vp_n (by omega) (by omega), ?_⟩
        intro S18 e18
        rw [h716, n_cl (by omega), nI_1] at e18
        refine ⟨m + 11, by rw [e18]; simp only [gs_AI]; exact MX_r715 hM, by rw [e18]; simp only [gs_AI]; exact MX_t11 hM, by rw [e18]; simp only [gs_AI]; rw [h716, MX_l11 hM]; exact vp_n (by omega) (by omega), ?_⟩
        intro S21 e21
        have f18 : fI S18 716 m = nI ml.length ∧ fI S18 708 m = nI n := by rw [e18]; simp only [gs_AI]; exact ⟨h716, h708⟩
        rw [f18.1, f18.2, n_cl (by omega)] at e21
        have f21 : fI S21 716 m = nI ml.length := by rw [e21]; simp only [gs_AI]; exact f18.1
        have av : ∀ q i, aI S21 q i = if q = m + 11 ∧ i = ml.length then nI n else if q = m + 10 ∧ i = ml.length then nI (k + 1) else aI S q i := by
          intro q i; rw [e21, e18]; simp only [gs_AI]
        have hA21 : LA m T S21 := by rw [e21, e18]; exact LA_tr hA (LA_tr (LA_AI (by omega) (by omega)) (LA_AI (by omega) (by omega)))
        have hM21 : MX m S21 := by rw [e21, e18]; simp only [MX_sAI]; exact hM
        have h708' : fI S21 708 m = nI n := by rw [e21]; simp only [gs_AI]; exact f18.2
        clear e21 e18 f18
        have g : ∀ i, (ml ++ [k]).getD i 0 = if i = ml.length then k else ml.getD i 0 := by
          intro i
          rw [List.getD_eq_getElem?_getD, List.getD_eq_getElem?_getD]
          by_cases z : i = ml.length
          · rw [if_pos z, z, List.getElem?_append_right (Nat.le_refl _)]; simp
          · rw [if_neg z]
            by_cases z2 : i < ml.length
            · rw [List.getElem?_append_left z2]
            · rw [List.getElem?_eq_none (l := ml) (by omega), List.getElem?_eq_none (l := ml ++ [k]) (by rw [List.length_append, List.length_singleton]; omega)]
        have gl : (ml ++ [k]).length = ml.length + 1 := by rw [List.length_append]; rfl
        -- the rows, when both writings are done
        have fin : ∀ S28 : Sg, (∀ q i, q ≠ m + 11 ∨ i ≠ ml.length - 1 ∨ ml.length = 0 → aI S28 q i = aI S21 q i) → (0 < ml.length → aI S28 (m + 11) (ml.length - 1) = nI k) → LYr m n (ml ++ [k]) S28 := by
          intro S28 w1 w2 r hr
          rw [gl] at hr
          unfold rE
          rw [g, g, gl]
          rw [w1 (m + 10) r (Or.inl (by omega)), av, if_neg (by omega)]
          by_cases z : r = ml.length
          · rw [if_pos ⟨rfl, z⟩, if_pos z, if_neg (by omega), w1 (m + 11) r (by omega), av, if_pos ⟨rfl, z⟩]
            exact ⟨rfl, rfl⟩
          · rw [if_neg (by omega), if_neg z, if_pos (by omega)]
            obtain ⟨v1, v2⟩ := hyr r (by omega)
            refine ⟨v1, ?_⟩
            by_cases z2 : r + 1 = ml.length
            · rw [if_pos z2, show r = ml.length - 1 by omega]
              exact w2 (by omega)
            · rw [if_neg z2, w1 _ _ (by omega), av, if_neg (by omega), if_neg (by omega), v2]
              unfold rE
              rw [if_pos (by omega)]
        have glast : nI ml.length + 1 = nI (ml ++ [k]).length := by rw [gl, nI_1]
        obtain ⟨o1, -, -, o4⟩ := LA_op hA21
        obtain ⟨p1, -, -, p4⟩ := LA_op hA
        by_cases q3 : ml.length = 0
        · rw [if_pos (by rw [f21, q3]; decide)]
          intro S23 e23 y ey
          rw [ey, nI_1]
          rw [f21, glast] at e23
          refine ihk S23 (by omega) (by rw [e23]; simp only [MX_sFI]; exact hM21) (by rw [e23]; exact LA_tr hA21 LA_716) (by rw [e23]; simp only [gs_FI]; rw [if_neg (by omega)]; exact h708') ?_ ?_ (by rw [e23]; simp only [gs_FI]; rw [if_pos ⟨trivial, trivial⟩]) (fin S23 (fun q i _ => by rw [e23]; simp only [gs_FI]) (fun z => by omega))
          · rw [e23]; simp only [gs_FI]; rw [o1, ← p1]; exact ho
          · rw [e23]; simp only [gs_FI]; rw [o4, ← p4]; exact hc
        · have esub : nI ml.length - 1 = nI (ml.length - 1) := by
            rw [show ml.length = (ml.length - 1) + 1 by omega, ← nI_1]
            simp
          rw [if_neg (by rw [f21, show (0 : Int32) = nI 0 from rfl, n_le (by omega) (by omega)]; omega), f21, esub]
          refine ⟨by rw [MX_l11 hM21]; exact vp_n (by omega) (by omega), ?_⟩
          rw [n_cl (by omega)]
          intro S27 e27 S28 e28 y ey
          have f27 : fI S27 716 m = nI ml.length := by rw [e27]; simp only [gs_AI]; exact f21
          rw [ey, nI_1]
          rw [f27, glast] at e28
          have av2 : ∀ q i, aI S28 q i = if q = m + 11 ∧ i = ml.length - 1 then nI k else aI S21 q i := by
            intro q i; rw [e28, e27]; simp only [gs_AI, gs_FI]
          refine ihk S28 (by omega) (by rw [e28, e27]; simp only [MX_sFI, MX_sAI]; exact hM21) (by rw [e28, e27]; exact LA_tr hA21 (LA_tr (LA_AI (by omega) (by omega)) LA_716)) (by rw [e28, e27]; simp only [gs_FI, gs_AI]; rw [if_neg (by omega)]; exact h708') ?_ ?_ (by rw [e28]; simp only [gs_FI]; rw [if_pos ⟨trivial, trivial⟩]) (fin S28 (fun q i z => by rw [av2, if_neg (by omega)]) (fun z => by rw [av2, if_pos ⟨rfl, rfl⟩]))
          · rw [e28, e27]; simp only [gs_FI]; rw [← ho]; funext i; simp only [gs_AI]; rw [if_neg (by omega), o1, ← p1]
          · rw [e28, e27]; simp only [gs_FI]; rw [← hc]; funext i; simp only [gs_AI]; rw [if_neg (by omega), o4, ← p4]
      · rw [if_neg q2]
        dsimp only
        rw [if_pos rfl]
        exact no (fun z => q2 z.2)
    · rw [if_neg q1]
      dsimp only
      rw [if_pos rfl]
      exact no (fun z => q1 z.1)
theorem r_layOut {m n : Nat} {T : Sg} {Q : Sg → Prop} (hM : MX m T) (hn : n ≤ 2000) (h708 : fI T 708 m = nI n) (hq : ∀ S, LA m T S → LY m n S → Q S) : wX11_layOut m T Q := by
  unfold wX11_layOut
  refine nm_e ⟨n + 1, ?_⟩
  refine r_lay1 (op := aI T (m + 1)) (c := aI T (m + 4)) hn hq n 0 _ (by omega) (by simp only [MX_sFI]; exact hM) LA_716 (by simp only [gs_FI]; rw [if_neg (by omega)]; exact h708) (by simp only [gs_FI]) (by simp only [gs_FI]) (by simp only [gs_FI]; rw [if_pos ⟨trivial, trivial⟩]; rfl) (fun r hr => absurd hr (by show ¬ r < 0; omega))
theorem p_status : PL_status RR := by
  intro x m a S T hR hf
  obtain ⟨n, st, N, th, F, fa, ra, rb, rc, h⟩ := id hR
  obtain ⟨hS, hM, hSc, hBl, hTh, hNu, hHa, hRo, hGr, hFa, hRe, hTo⟩ := id h
  unfold wX10_status
  by_cases c0 : a = 0
  · rw [if_pos c0]
    refine ⟨x + 1, SX_r640 hS, SX_t1 hS, fun n2 hn => ?_⟩
    unfold wX11_status
    rw [if_pos c0]
    exact ⟨hSc.2.1.trans hSc.2.2.1.symm, RR_rz2 hR⟩
  rw [if_neg c0]
  by_cases c1 : a = 1
  · rw [if_pos c1]
    refine ⟨x + 1, SX_r640 hS, SX_t1 hS, fun n2 hn => ?_⟩
    unfold wX11_status
    rw [if_neg c0, if_pos c1]
    refine r_layOut (n := n) ((MX_rz n2).mpr hM) hSc.1 hSc.2.2.1 (fun S' hA hY => ?_)
    refine ⟨?_, n, st, N, th, F, fa, ra, rb, rc, RA_LA hA (x := x) (S := S) (show RA x m n st N th F fa ra rb rc S (rz T n2) from h)⟩
    rw [hY.1, (LA_op hA).1, (LA_op hA).2.2.2]
    exact hBl.2.2.2.1
  rw [if_neg c1]
  by_cases c2 : a = 2
  · rw [if_pos c2]
    intro n2 hn
    unfold wX11_status
    rw [if_neg c0, if_neg c1, if_pos c2]
    obtain ⟨⟨v, v1, v2, v3, v4⟩, v5⟩ := hTo
    exact ⟨v3.trans v4.symm, RR_rz2 hR⟩
  rw [if_neg c2]
  by_cases c3 : a = 3
  · rw [if_pos c3]
    intro n2 hn
    unfold wX11_status
    rw [if_neg c0, if_neg c1, if_neg c2, if_pos c3]
    exact ⟨hTo.2, RR_rz2 hR⟩
  rw [if_neg c3]
  obtain ⟨e1, e2, e3, ⟨o, o1, o2, o3, o4⟩, ⟨p, p1, p2, p3, p4⟩, e6, e7⟩ := hRe
  by_cases c4 : a = 4
  · rw [if_pos c4]
    refine ⟨x + 10, SX_r642 hS, SX_t10 hS, fun n2 hn => ?_⟩
    unfold wX11_status
    rw [if_neg c0, if_neg c1, if_neg c2, if_neg c3, if_pos c4]
    exact ⟨o2.trans o3.symm, RR_rz2 hR⟩
  rw [if_neg c4]
  by_cases c5 : a = 5
  · rw [if_pos c5]
    refine ⟨x + 10, SX_r642 hS, SX_t10 hS, fun n2 hn => ?_⟩
    unfold wX11_status
    rw [if_neg c0, if_neg c1, if_neg c2, if_neg c3, if_neg c4, if_pos c5]
    exact ⟨p2.trans p3.symm, RR_rz2 hR⟩
  rw [if_neg c5]
  by_cases c6 : a = 6
  · rw [if_pos c6]
    refine ⟨x + 10, SX_r642 hS, SX_t10 hS, ?_⟩
    have other : ∀ n2, ∀ v : Int32, (∀ Q : Int32 → Sg → Prop, Q v (rz T n2) → wX11_causes m (rz T n2) Q) → wX11_status m a (rz T n2) (fun r2 S2 => v = r2 ∧ RR x m S S2) := by
      intro n2 v hv
      unfold wX11_status
      rw [if_neg c0, if_neg c1, if_neg c2, if_neg c3, if_neg c4, if_neg c5, if_pos c6]
      exact hv _ ⟨rfl, RR_rz2 hR⟩
    unfold wX4_countCauses
    refine nm_e ?_
    rcases e3 with ⟨q1, q2⟩ | ⟨j, j1, j2, j3, j4⟩
    · refine ⟨1, ?_⟩
      unfold wX4_countCauses_b7
      rw [if_pos q1]
      intro n2 hn
      refine other n2 _ (fun Q hQ => ?_)
      unfold wX11_causes
      refine ⟨m + 29, MX_r744 hM, MX_t29 hM, by simp only [gs_rz]; rw [q2, MX_l29 hM]; exact vp_n (n := 0) (by omega) (by omega), nm_e ?_⟩
      simp only [gs_rz]
      rw [q2, show (0 : Int32).toNatClampNeg = 0 by decide, hFa.2.1]
      refine ⟨1, ?_⟩
      unfold wX11_causes_b12
      rw [if_pos (by decide)]
      exact hQ
    · obtain ⟨res, g1, g2⟩ := r_causes (x := x + 10) hFa j j1 j2 0 (by omega)
      rw [j3]
      refine g1 _ (fun n2 hn => other n2 res (fun Q hQ => ?_))
      unfold wX11_causes
      refine ⟨m + 29, MX_r744 hM, MX_t29 hM, by simp only [gs_rz]; rw [j4, MX_l29 hM]; exact vp_n (by have := hFa.1; omega) (by omega), nm_e ?_⟩
      simp only [gs_rz]
      rw [j4, n_cl (by have := hFa.1; omega)]
      exact g2 (rz T n2) ((MX_rz n2).mpr hM) rfl Q hQ
  rw [if_neg c6]
  by_cases c7 : a = 7
  · rw [if_pos c7]
    refine ⟨x + 10, SX_r642 hS, SX_t10 hS, fun n2 hn => ?_⟩
    unfold wX11_status
    rw [if_neg c0, if_neg c1, if_neg c2, if_neg c3, if_neg c4, if_neg c5, if_neg c6, if_pos c7]
    exact ⟨e7, RR_rz2 hR⟩
  rw [if_neg c7]
  intro n2 hn
  unfold wX11_status
  rw [if_neg c0, if_neg c1, if_neg c2, if_neg c3, if_neg c4, if_neg c5, if_neg c6, if_neg c7]
  exact ⟨rfl, RR_rz2 hR⟩
