/-! routines: a CALL, a run's beginning -/
theorem r_hasR {x len : Nat} {i : Int32} {S : Sg} {Q : Int32 → Sg → Prop} (h388 : fI S 388 (x + 1) = nI len) (hl : len ≤ 2000) (h1 : ∀ r, r < len → i = nI r → Q 1 S) (h0 : (∀ r, r < len → i ≠ nI r) → Q 0 S) : wX6_hasRoutine (x + 1) i S Q := by
  unfold wX6_hasRoutine
  rcases i_cs i with c | ⟨r, hr, rfl⟩
  · rw [if_pos c]
    exact h0 (fun r hr e => by rw [e] at c; exact absurd c (n_neg (by omega)))
  · rw [if_neg (n_neg hr), h388]
    by_cases c : r < len
    · rw [if_neg (by rw [n_le (by omega) hr]; omega), if_neg (by rw [show (2000 : Int32) = nI 2000 from rfl, n_le (by omega) hr]; omega)]
      exact h1 r c rfl
    · rw [if_pos (by rw [n_le (by omega) hr]; omega)]
      exact h0 (fun r' hr' e => by have := (n_eq hr (by omega)).mp e; omega)
theorem r_enterRoutine {x m n r : Nat} {st : Nat → Nat} {op oa ob oc : Nat → Int32} {o : Option Nat} {S T : Sg} {Q : Sg → Prop} (h : St x m n st op oa ob oc S T) (hf : fre S) (hr : r < (mk_l op oc n).length) (hQ : ∀ S7, S7 = sFr o (fR S 580 (x + 13)) (nI (rH op oc n r)) S → wX9_enter (x + 13) (some (sz S)) (nI (rL op oc n r)) S7 (fun _ S12 => Q S12)) : wX9_enterRoutine (x + 13) (nI r) o S Q := by
  have hS := h.1
  obtain ⟨n1, n2, -, n4, n5, -⟩ := St_n h
  have hxs : ∀ i, tg S (x + i) ≠ 0 → x + i ≠ sz S := fun i hi => fre_ne hf hi
  unfold wX9_enterRoutine
  intro S2 e2
  have eN : Ext 2 S S2 := by rw [e2]; exact Ext_nw
  have hS2 : SX x S2 := SX_ext hf eN hS
  have o1 := eN.2.2 (x + 1) (hxs 1 (by rw [SX_t1 hS]; decide))
  have o3 := eN.2.2 (x + 3) (hxs 3 (by rw [SX_t3 hS]; decide))
  have o13 := eN.2.2 (x + 13) (hxs 13 (by rw [SX_t13 hS]; decide))
  have h388 : fI S2 388 (x + 1) = nI (mk_l op oc n).length := (o1.2.2.1 388).1.trans n5
  refine ⟨x + 1, SX_r576 hS2, SX_t1 hS2, ?_⟩
  have rest : ∀ v : Int32, v = nI (rH op oc n r) → wX1_init (sz S) o (fR S2 580 (x + 13)) v S2 (fun (S7 : Sg) => ∃ a8 : Nat, (fR S7 576 (x + 13)) = some a8 ∧ tg S7 a8 = 7 ∧ wX6_firstPlaceOf a8 (nI r) S7 (fun (r9 : Int32) (S10 : Sg) => wX9_enter (x + 13) (some (sz S)) r9 S10 (fun (r11 : Int32) (S12 : Sg) => Q S12))) := by
    intro v hv
    rw [hv, (o13.2.2.1 580).2.2]
    refine r_finit e2 ?_
    have eF := sFr_ext (b := o) (ar := fR S 580 (x + 13)) (re := nI (rH op oc n r)) (S := S)
    have q := hQ _ rfl
    have hS7 : SX x (sFr o (fR S 580 (x + 13)) (nI (rH op oc n r)) S) := SX_ext hf eF hS
    generalize sFr o (fR S 580 (x + 13)) (nI (rH op oc n r)) S = S7 at *
    have p1 := eF.2.2 (x + 1) (hxs 1 (by rw [SX_t1 hS]; decide))
    have p3 := eF.2.2 (x + 3) (hxs 3 (by rw [SX_t3 hS]; decide))
    refine ⟨x + 1, SX_r576 hS7, SX_t1 hS7, ?_⟩
    unfold wX6_firstPlaceOf
    refine r_hasR ((p1.2.2.1 388).1.trans n5) (by omega) (fun r' hr' e' => ?_) (fun w => absurd rfl (w r hr))
    rw [if_neg (by decide)]
    refine ⟨x + 3, SX_r385 hS7, SX_t3 hS7, by rw [SX_l3 hS7]; exact vp_n (by omega) (by omega), ?_⟩
    rw [n_cl (by omega), (p3.2.2.2 r).1, (St_rt h hr).1, nI_1]
    exact q
  unfold wX6_placeBehind
  rw [nI_1]
  refine r_hasR h388 (by omega) (fun r' hr' e' => ?_) (fun w => ?_)
  · have er : r + 1 = r' := (n_eq (by omega) (by omega)).mp e'
    rw [if_neg (by decide)]
    refine ⟨x + 3, SX_r385 hS2, SX_t3 hS2, by rw [SX_l3 hS2]; exact vp_n (by omega) (by omega), ?_⟩
    rw [n_cl (by omega)]
    refine rest _ ?_
    rw [(o3.2.2.2 (r + 1)).1, (St_rt h (by omega)).1]
    unfold rH rE
    rw [if_pos (by omega)]
  · rw [if_pos rfl]
    refine rest _ ?_
    rw [(o1.2.2.1 387).1, n2]
    unfold rH rE
    rw [if_neg (fun z => w (r + 1) z rfl)]
/-- a routine is entered, on both sides -/
theorem enterR_sim {x m n nn a : Nat} {st : Nat → Nat} {op oa ob oc : Nat → Int32} {N : Nat} {th ra rb rc : Nat → Nat} {F : Nat} {fa : Nat → Nat} {L : List FrT} {left took r : Nat} {o ob' : Option Nat} {kv : Int32} {S T0 : Sg} (hS : SX x S) (hf : fre S) (hst : St x m n st op oa ob oc S T0) (h581 : fI S 581 (x + 13) = nI L.length) (hd : L.length ≤ 200) (h580 : fR S 580 (x + 13) = L.head?.map (·.1)) (htg : ∀ g ∈ L, tg S g.1 = 2) (hr : r < (mk_l op oc n).length) (hkd : kd op o = 0)
    (ho : o = none → ob' = some (x + 14)) (hk : ∀ k, o = some k → k < n ∧ ob' = some (st k) ∧ kv = nI k ∧ op k = 35) (hl : lnk op oc n (sz S, r, o, 0) L) :
    ∃ S', (∀ Q : Sg → Prop, Q S' → wX9_enterRoutine (x + 13) (nI r) ob' S Q) ∧ ∀ T, Mid x m n nn a st op oa ob oc N th ra rb rc F fa L left took S T → (∃ w, w + ctL op L ≤ took ∧ fI T 756 m = nI w) → fI T 739 m = 1 → ∃ T', (∀ Q : Sg → Prop, Q T' → wX11_enter m (nI r) kv T Q) ∧ ((L.length < 200 ∧ MW x m n nn a st op oa ob oc N th ra rb rc F fa ((sz S, r, o, 0) :: L) (rL op oc n r) left took S' T') ∨ (L.length = 200 ∧ Ov x m n nn a st op oa ob oc left took S' T')) := by
  have hxs : ∀ i, tg S (x + i) ≠ 0 → x + i ≠ sz S := fun i hi => fre_ne hf hi
  have n4 := (St_n hst).2.2.2.1
  have n1 := (St_n hst).1
  have eF := sFr_ext (b := ob') (ar := fR S 580 (x + 13)) (re := nI (rH op oc n r)) (S := S)
  obtain ⟨b1, b2, b3, b4, b5⟩ := sFr_at (b := ob') (ar := fR S 580 (x + 13)) (re := nI (rH op oc n r)) (S := S)
  have hS7 : SX x (sFr ob' (fR S 580 (x + 13)) (nI (rH op oc n r)) S) := SX_ext hf eF hS
  have o13 := eF.2.2 (x + 13) (hxs 13 (by rw [SX_t13 hS]; decide))
  have o10 := eF.2.2 (x + 10) (hxs 10 (by rw [SX_t10 hS]; decide))
  have cls : ∀ Q : Sg → Prop, (∀ S7, S7 = sFr ob' (fR S 580 (x + 13)) (nI (rH op oc n r)) S → wX9_enter (x + 13) (some (sz S)) (nI (rL op oc n r)) S7 (fun _ S12 => Q S12)) → wX9_enterRoutine (x + 13) (nI r) ob' S Q := fun Q hQ => r_enterRoutine hst hf hr hQ
  have ref : ∀ T, Mid x m n nn a st op oa ob oc N th ra rb rc F fa L left took S T → ∀ Q : Sg → Prop, (L.length < 200 → Q (sFI (tEnt m L.length (nI (kd op o)) kv (nI (rH op oc n r)) (mxd L.length (fI T 758 m)) T) 738 m (nI (rL op oc n r)))) → (L.length = 200 → Q (tStop m 4 T)) → wX11_enter m (nI r) kv T Q := by
    intro T hT Q g1 g0
    have hM := hT.1.2.1
    have hrt := St_rt hT.1 hr
    unfold wX11_enter
    refine ⟨m + 11, MX_r715 hM, MX_t11 hM, by rw [MX_l11 hM]; exact vp_n (by omega) (by omega), ?_⟩
    rw [n_cl (by omega), hrt.2.2]
    refine r_opens hM hT.2.2.2.2.1.2.2.2.2.2.2.1 hd (fun c => ?_) (fun c => ?_)
    · rw [if_neg (by decide)]
      obtain ⟨-, -, tA, -, tM⟩ := tEnt_at (m := m) (d := L.length) (kind := 0) (k := kv) (e := nI (rH op oc n r)) (v := mxd L.length (fI T 758 m)) (T := T)
      have hM1 := tM hM
      have := g1 c
      rw [hkd, show nI 0 = 0 from rfl] at this
      generalize tEnt m L.length 0 kv (nI (rH op oc n r)) (mxd L.length (fI T 758 m)) T = T1 at *
      refine ⟨m + 10, MX_r714 hM1, MX_t10 hM1, by rw [MX_l10 hM1]; exact vp_n (by omega) (by omega), ?_⟩
      rw [tA 10 (by omega), hrt.2.1]
      exact nm_e this
    · rw [if_pos rfl]; exact g0 c
  by_cases c : L.length < 200
  · refine ⟨sEnt x (sz S) L.length (rL op oc n r) (mxd L.length (fI S 263 (x + 10))) (sFr ob' (fR S 580 (x + 13)) (nI (rH op oc n r)) S), fun Q hQ => cls Q (fun S7 e7 => ?_), fun T hT hw h739 => ⟨_, fun Q hQ => ref T hT Q (fun _ => hQ) (fun w => by omega), Or.inl ⟨c, ?_⟩⟩⟩
    · subst e7
      refine r_enter hS7 ((o13.2.2.1 581).1.trans h581) hd (fun _ => ?_) (fun w => by omega)
      rw [(o10.2.2.1 263).1]; exact hQ
    · have h263 : fI S 263 (x + 10) = fI T 758 m := hT.2.2.2.1.2.2.2.2.2.2.2.1
      have hM7 := Mid_ext hT eF
      have fe : ∀ b : Nat, fE op oc n (sz S, r, o, 0) = rH op oc n r ∧ fS op oc n (sz S, r, o, 0) = rL op oc n r := by
        intro _
        cases o with
        | none => exact ⟨rfl, rfl⟩
        | some k => exact ⟨by unfold fE; dsimp only; rw [if_pos hkd], by unfold fS; dsimp only; rw [if_pos hkd]⟩
      have hMp := push_Mid (p := rL op oc n r) (v := mxd L.length (fI S 263 (x + 10))) (e := nI (rH op oc n r)) (kv := kv) (q := sz S) (r := r) (o := o) hM7 c (by obtain ⟨w, u1, u2⟩ := hw; exact ⟨w, by rw [ctl_0 L hkd]; exact u1, u2⟩) eF.2.1 (b5.trans h580) b1 (by rw [b2, (fe 0).1]) b3 hr (fun w => b4.trans (ho w)) (fun k w => by
        obtain ⟨k1, k2, k3, k4⟩ := hk k w
        exact ⟨k1, b4.trans k2, k3, Or.inr (Or.inr (Or.inr k4)), fun z => absurd (by rw [← w]; exact hkd) z⟩) (fun _ => rfl) (fun g hg => fre_ne hf (by rw [htg g hg]; decide)) hl
      rw [h263] at hMp ⊢
      obtain ⟨s1, s2, s3, -⟩ := sEnt_at (x := x) (q := sz S) (d := L.length) (p := rL op oc n r) (v := mxd L.length (fI T 758 m)) (S := sFr ob' (fR S 580 (x + 13)) (nI (rH op oc n r)) S)
      refine ⟨Mid_W hMp WS_rf (WT_FI (by unfold tK; omega)), s1, s2, ?_, ?_, s3, _, _, rfl, ?_⟩
      · simp only [gs_FI]; rw [if_pos ⟨trivial, trivial⟩]
      · simp only [gs_FI]; rw [if_neg (by omega)]
        exact tEnt_at.1.trans h739
      · rw [(fe 0).1, (fe 0).2]
        exact ⟨Nat.le_refl _, (rE_lt hr).1⟩
  · refine ⟨sStop x 4 (sFr ob' (fR S 580 (x + 13)) (nI (rH op oc n r)) S), fun Q hQ => cls Q (fun S7 e7 => ?_), fun T hT hw h739 => ⟨_, fun Q hQ => ref T hT Q (fun w => absurd w c) (fun _ => hQ), Or.inr ⟨by omega, stop_rel 4 (Mid_ext hT eF)⟩⟩⟩
    subst e7
    exact r_enter hS7 ((o13.2.2.1 581).1.trans h581) hd (fun w => absurd w c) (fun _ => hQ)
theorem step_call {x m n nn a : Nat} {st : Nat → Nat} {op oa ob oc : Nat → Int32} {N : Nat} {th ra rb rc : Nat → Nat} {F : Nat} {fa : Nat → Nat} {f : FrT} {L : List FrT} {p left took : Nat} {S T0 : Sg} (h0 : TK x m n nn a st op oa ob oc N th ra rb rc F fa f L p left took S T0) (h35 : op p = 35) : StepS x m n nn a st op oa ob oc N th ra rb rc F fa f L p left took S := by
  obtain ⟨hp, hn⟩ := TK_p h0
  obtain ⟨s1, s2, s3, s4, s5, s6, s7, s8, s9, s10, s11, s12, s13⟩ := St_st h0.1.1 hp
  obtain ⟨n1, n2, -, n4, n5, -⟩ := St_n h0.1.1
  have hS := h0.1.1.1
  have hf : fre S := h0.1.2.2.2.2.2.2.2
  have hstk := h0.1.2.2.2.2.2.2.1
  have hd : L.length + 1 ≤ 200 := h0.1.2.2.2.2.1.2.2.2.2.2.2.2
  have h581 : fI S 581 (x + 13) = nI (L.length + 1) := h0.1.2.2.2.2.1.2.2.2.2.2.1
  have cls : ∀ Q : Sg → Prop, wX9_callRoutine (x + 13) (some (st p)) S (fun S => Q S) → wX9_workStep (x + 13) (some f.1) (some (st p)) S Q := by
    intro Q hQ
    unfold wX9_workStep
    refine ⟨st p, rfl, s2, ?_⟩
    rw [s5, h35]
    repeat rw [if_neg (by decide)]
    rw [if_pos rfl]
    exact hQ
  have ref : ∀ T, TK x m n nn a st op oa ob oc N th ra rb rc F fa f L p left took S T → ∀ Q : Sg → Prop, wX11_call m (nI p) T (fun S => Q S) → goB m (nI p) (op p) T Q := by
    intro T _ Q hQ
    unfold goB
    rw [h35, if_pos (by decide), if_neg (by decide), if_neg (by decide), if_neg (by decide), if_pos rfl]
    exact hQ
  have ecall : ∀ T, TK x m n nn a st op oa ob oc N th ra rb rc F fa f L p left took S T → ∀ Q : Sg → Prop, (if oa p < 0 then wX11_goOn m (nI p) 7 T (fun S => Q S) else if oa p < nI (mk_l op oc n).length then wX11_enter m (oa p) (nI p) T (fun S => Q S) else wX11_goOn m (nI p) 7 T (fun S => Q S)) → wX11_call m (nI p) T (fun S => Q S) := by
    intro T hT Q hQ
    have hM := hT.1.1.2.1
    have e2 : aI T (m + 2) p = oa p := by rw [hT.1.1.2.2.2.2.2.2.1]
    unfold wX11_call
    refine ⟨m + 2, MX_r705 hM, MX_t2 hM, by rw [MX_l2 hM]; exact vp_n (by omega) (by omega), ?_⟩
    rw [n_cl (by omega), e2, (St_n hT.1.1).2.2.2.2.2]
    exact nm_e hQ
  have hkd : kd op (some p) = 0 := by unfold kd; dsimp only; rw [h35]; rfl
  by_cases c : ∃ r, r < (mk_l op oc n).length ∧ oa p = nI r
  · obtain ⟨r, hr, er⟩ := c
    obtain ⟨S', q1, q2⟩ := enterR_sim (nn := nn) (a := a) (N := N) (th := th) (ra := ra) (rb := rb) (rc := rc) (F := F) (fa := fa) (left := left) (took := took) (L := f :: L) (r := r) (o := some p) (ob' := some (st p)) (kv := nI p) hS hf h0.1.1 h581 hd h0.2.1.2.2.2.2 (StkR_tg _ hstk) hr hkd (fun w => by cases w) (fun k w => by cases w; exact ⟨hp, rfl, rfl, h35⟩) ⟨p, rfl, h0.2.2.1.1, h0.2.2.1.2, fun w => absurd hkd w⟩
    refine ⟨S', S', 0, if L.length + 1 < 200 then 1 else 2, N, th, ra, rb, rc, F, fa, (sz S, r, some p, 0) :: f :: L, rL op oc n r, left, took, fun Q hQ => cls Q ?_, cR_rf, by omega, by split <;> simp, fun _ => ⟨?_, Nat.le_refl _⟩, fun T hT => ?_⟩
    · unfold wX9_callRoutine
      refine ⟨st p, rfl, s2, x + 1, SX_r576 hS, SX_t1 hS, ?_⟩
      rw [s6]
      refine r_hasR n5 (by omega) (fun r' _ _ => ?_) (fun w => absurd er (w r hr))
      rw [if_neg (by decide), s6, er]
      exact q1 Q hQ
    · have := wt1_le2 op (sz S, r, some p, 0) (f :: L)
      unfold mu; omega
    · obtain ⟨T', r1, r2⟩ := q2 T hT.1 (by obtain ⟨w, u1, u2⟩ := hT.2.2.2.2.2; exact ⟨w, by omega, u2⟩) hT.2.1.2.2.2.1
      refine ⟨T', fun Q hQ => ref T hT Q (ecall T hT Q ?_), ?_⟩
      · rw [er, if_neg (n_neg (by omega)), if_pos ((n_lt (by omega) (by omega)).mpr hr)]
        exact r1 Q hQ
      · rcases r2 with ⟨w1, w2⟩ | ⟨w1, w2⟩
        · rw [if_pos (by rw [List.length_cons] at w1; exact w1)]
          exact Or.inr (Or.inl ⟨rfl, w2⟩)
        · rw [if_neg (by rw [List.length_cons] at w1; omega)]
          exact Or.inr (Or.inr ⟨rfl, w2⟩)
  · refine StepS_fail (k := 6) (o := none) h0 (by omega) (fun Q hQ => cls Q ?_) (fun T hT => ⟨0, Or.inl ⟨rfl, rfl⟩, fun Q hQ => ref T hT Q (ecall T hT Q ?_)⟩)
    · unfold wX9_callRoutine
      refine ⟨st p, rfl, s2, x + 1, SX_r576 hS, SX_t1 hS, ?_⟩
      rw [s6]
      refine r_hasR n5 (by omega) (fun r' w1 w2 => absurd ⟨r', w1, w2⟩ c) (fun w => ?_)
      rw [if_pos rfl]
      exact r_fail hQ
    · have go : wX11_goOn m (nI p) 7 T (fun S => Q S) := r_goOnK (k := 6) hT.1.1.2.1 hT.1.2.2.1.2.2 (hT.1.2.2.1.1.1) (by omega) hQ
      by_cases z : oa p < 0
      · rw [if_pos z]; exact go
      · rw [if_neg z]
        by_cases z2 : oa p < nI (mk_l op oc n).length
        · rcases i_cs (oa p) with w | ⟨r', w1, w2⟩
          · exact absurd w z
          · rw [w2] at z2
            exact absurd ⟨r', (n_lt w1 (by omega)).mp z2, w2⟩ c
        · rw [if_neg z2]; exact go
