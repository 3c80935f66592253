/-! reading the script, on both sides -/
theorem kd_isB {op : Nat → Int32} {k : Nat} : kd op (some k) ≠ 0 ↔ isB (op k) := by
  unfold kd isB
  dsimp only
  by_cases c1 : op k = 25
  · rw [if_pos c1]; exact ⟨fun _ => Or.inl c1, fun _ => by decide⟩
  rw [if_neg c1]
  by_cases c2 : op k = 29
  · rw [if_pos c2]; exact ⟨fun _ => Or.inr (Or.inl c2), fun _ => by decide⟩
  rw [if_neg c2]
  by_cases c3 : op k = 30
  · rw [if_pos c3]; exact ⟨fun _ => Or.inr (Or.inr c3), fun _ => by decide⟩
  rw [if_neg c3]
  constructor
  · intro h; exact absurd rfl h
  · rintro (h | h | h)
    · exact absurd h c1
    · exact absurd h c2
    · exact absurd h c3
theorem St_st {x m n : Nat} {st : Nat → Nat} {op oa ob oc : Nat → Int32} {S T : Sg} (h : St x m n st op oa ob oc S T) {k : Nat} (hk : k < n) : aR S (x + 2) k = some (st k) ∧ tg S (st k) = 8 ∧ st k ≠ x + 14 ∧ fI S 448 (st k) = nI k ∧ fI S 449 (st k) = op k ∧ fI S 450 (st k) = oa k ∧ fI S 451 (st k) = ob k ∧ fI S 452 (st k) = oc k ∧ 0 ≤ op k ∧ op k ≤ 35 ∧ fI S 454 (st k) = opI ((b_at op oc n).2.1 k) ∧ fI S 455 (st k) = opI ((b_at op oc n).2.2.1 k) ∧ fI S 456 (st k) = opI ((b_at op oc n).2.2.2 k) := by
  obtain ⟨h1, h2, h3, h4, h5, h6, h7, h8, h9⟩ := h
  obtain ⟨u1, u2, u3, u4, u5, u6, u7, u8, u9, u10⟩ := h3.2.2.2.1 k hk
  obtain ⟨v1, v2, v3⟩ := h4.2.2.1 k hk
  rw [h6] at u5 u9 u10
  rw [h7] at u6
  rw [h8] at u7
  rw [h9] at u8
  rw [h6, h9] at v1 v2 v3
  exact ⟨u1, u2, u3, u4, u5, u6, u7, u8, u9, u10, v1, v2, v3⟩
theorem St_n {x m n : Nat} {st : Nat → Nat} {op oa ob oc : Nat → Int32} {S T : Sg} (h : St x m n st op oa ob oc S T) : n ≤ 2000 ∧ fI S 387 (x + 1) = nI n ∧ fI T 708 m = nI n ∧ (mk_l op oc n).length ≤ n ∧ fI S 388 (x + 1) = nI (mk_l op oc n).length ∧ fI T 716 m = nI (mk_l op oc n).length := by
  obtain ⟨h1, h2, h3, h4, h5, h6, h7, h8, h9⟩ := h
  have a := h4.2.2.2.1
  have b := h5.1
  rw [h6, h9] at a b
  exact ⟨h3.1, h3.2.1, h3.2.2.1, mk_len _ _ _, a, b⟩
theorem St_rt {x m n : Nat} {st : Nat → Nat} {op oa ob oc : Nat → Int32} {S T : Sg} (h : St x m n st op oa ob oc S T) {r : Nat} (hr : r < (mk_l op oc n).length) : aI S (x + 3) r = nI ((mk_l op oc n).getD r 0) ∧ aI T (m + 10) r = nI (rL op oc n r) ∧ aI T (m + 11) r = nI (rH op oc n r) := by
  obtain ⟨h1, h2, h3, h4, h5, h6, h7, h8, h9⟩ := h
  have a := h4.2.2.2.2
  have b := h5.2.1
  rw [h6, h9] at a b
  exact ⟨a r hr, (b r hr).1, (b r hr).2⟩
theorem St_bW {x m n : Nat} {st : Nat → Nat} {op oa ob oc : Nat → Int32} {S T : Sg} (h : St x m n st op oa ob oc S T) {r k : Nat} (hr : r < (mk_l op oc n).length) (h1 : rL op oc n r ≤ k) (h2 : k < rH op oc n r) (hB : isB (op k)) : aI T (m + 6) k = opI ((b_at op oc n).2.1 k) ∧ aI T (m + 7) k = opI ((b_at op oc n).2.2.1 k) ∧ aI T (m + 5) k = nI (bE (rH op oc n r) (b_at op oc n) k) ∧ aI T (m + 8) k = nI (bH (rH op oc n r) (b_at op oc n) k) := by
  obtain ⟨-, -, -, -, h5, h6, -, -, h9⟩ := h
  have b := h5.2.2
  rw [h6, h9] at b
  have := b r hr k h1 h2 hB
  unfold bW at this
  rw [eV_bE, hV_bH] at this
  exact this
theorem b_vn {op oc : Nat → Int32} {n k : Nat} : (∀ v, (b_at op oc n).2.1 k = some v → v < n) ∧ (∀ v, (b_at op oc n).2.2.1 k = some v → v < n) ∧ ∀ v, (b_at op oc n).2.2.2 k = some v → v < n :=
  ⟨fun v h => b_val op oc n k v (Or.inl h), fun v h => b_val op oc n k v (Or.inr (Or.inl h)), fun v h => b_val op oc n k v (Or.inr (Or.inr h))⟩
/-- the part at work of a frame -/
theorem fr_part {x m n : Nat} {st : Nat → Nat} {op oc : Nat → Int32} {F : Nat} {fa : Nat → Nat} {i : Nat} {ar : Option Nat} {f : FrT} {S T : Sg} (h : FR1 x m n st op oc F fa i ar f S T) : rL op oc n f.2.1 ≤ fS op oc n f ∧ fS op oc n f ≤ fE op oc n f ∧ fE op oc n f ≤ rH op oc n f.2.1 ∧ rH op oc n f.2.1 ≤ n ∧ ∀ k, fS op oc n f ≤ k → k < fE op oc n f → isB (op k) → bH (rH op oc n f.2.1) (b_at op oc n) k ≤ fE op oc n f := by
  obtain ⟨-, ⟨b1, b2, -, -, b5⟩, -, -, e, -, -⟩ := h
  obtain ⟨l1, l2⟩ := rE_lt b1
  have hR := bR_of b1
  have whole : fS op oc n f = rL op oc n f.2.1 → fE op oc n f = rH op oc n f.2.1 → rL op oc n f.2.1 ≤ fS op oc n f ∧ fS op oc n f ≤ fE op oc n f ∧ fE op oc n f ≤ rH op oc n f.2.1 ∧ rH op oc n f.2.1 ≤ n ∧ ∀ k, fS op oc n f ≤ k → k < fE op oc n f → isB (op k) → bH (rH op oc n f.2.1) (b_at op oc n) k ≤ fE op oc n f := by
    intro w1 w2
    rw [w1, w2]
    exact ⟨Nat.le_refl _, l1, Nat.le_refl _, l2, fun k _ q2 _ => (bR_1 hR q2).2.2.2.1⟩
  obtain ⟨q, r, o, g⟩ := f
  dsimp only at *
  cases o with
  | none => exact whole rfl rfl
  | some k =>
    by_cases c : kd op (some k) = 0
    · exact whole (by unfold fS; dsimp only; rw [if_pos c]) (by unfold fE; dsimp only; rw [if_pos c])
    · obtain ⟨-, -, -, -, e5, e6, e7⟩ := e k rfl
      obtain ⟨e8, e9⟩ := e5 c
      obtain ⟨p1, p2, p3, p4⟩ := bR_part hR e9 b2 e6 e7
      have w1 : fS op oc n (q, r, some k, g) = pS (b_at op oc n) k g := by unfold fS; dsimp only; rw [if_neg c]
      have w2 : fE op oc n (q, r, some k, g) = pE (rH op oc n r) (b_at op oc n) k g := by unfold fE; dsimp only; rw [if_neg c]
      rw [w1, w2]
      exact ⟨by omega, p2, p3, l2, p4⟩
/-! leaving a block -/
def sPop (x : Nat) (ar : Option Nat) (d : Nat) (S : Sg) : Sg := sFI (sFR S 580 (x + 13) ar) 581 (x + 13) (nI d)
def sGo (x p : Nat) (S : Sg) : Sg := sFI (sFI S 582 (x + 13) (nI p)) 584 (x + 13) 0
def tOver (m d p : Nat) (T : Sg) : Sg := sFI (sFI T 737 m (nI d)) 738 m (nI p)
theorem r_leave {x k d hi q b : Nat} {ar : Option Nat} {s : bS} {S : Sg} {Q : Sg → Prop} (hq : tg S q = 2) (h65 : fR S 65 q = ar) (h581 : fI S 581 (x + 13) = nI (d + 1)) (h64 : fR S 64 q = some b) (hb : tg S b = 8) (h456 : fI S 456 b = opI (s.2.2.2 k)) (hv : ∀ e, s.2.2.2 k = some e → e < 2000) (h66 : fI S 66 q = nI hi)
    (h1 : fI S 584 (x + 13) = 1 → Q (sGo x (bH hi s k) (sPop x ar d S))) (h2 : ¬ fI S 584 (x + 13) = 1 → Q (sPop x ar d S)) : wX9_leaveBlock (x + 13) (some q) S Q := by
  unfold wX9_leaveBlock
  refine ⟨q, rfl, hq, ?_⟩
  intro S2 e2 S3 e3
  have f2 : fI S2 581 (x + 13) = nI (d + 1) := by rw [e2]; simp only [gs_FR]; exact h581
  have es : nI (d + 1) - 1 = nI d := by rw [← nI_1]; simp
  rw [f2, es] at e3
  rw [h65] at e2
  have e3' : S3 = sPop x ar d S := by rw [e3, e2]; rfl
  have c : fI S3 584 (x + 13) = fI S 584 (x + 13) := by rw [e3, e2]; simp only [gs_FI, gs_FR]; rw [if_neg (by omega)]
  have g64 : fR S3 64 q = some b := by rw [e3, e2]; simp only [gs_FI, gs_FR]; rw [if_neg (by omega)]; exact h64
  have gb : tg S3 b = 8 := by rw [e3, e2]; simp only [gs_FI, gs_FR]; exact hb
  have g456 : fI S3 456 b = opI (s.2.2.2 k) := by rw [e3, e2]; simp only [gs_FI, gs_FR]; rw [if_neg (by omega)]; exact h456
  have g66 : fI S3 66 q = nI hi := by rw [e3, e2]; simp only [gs_FI, gs_FR]; rw [if_neg (by omega)]; exact h66
  rw [c]
  by_cases z : fI S 584 (x + 13) = 1
  · rw [if_pos z]
    have h1 := h1 z
    rw [← e3'] at h1
    clear e3 e2 e3'
    unfold wX1_placeBehind
    refine ⟨b, g64, gb, ?_⟩
    rw [g456]
    have fin : ∀ v : Int32, v = nI (bH hi s k) → ∀ S7 : Sg, S7 = sFI S3 582 (x + 13) v → ∀ S8 : Sg, S8 = sFI S7 584 (x + 13) (0 : Int32) → Q S8 := by
      intro v hv S7 e7 S8 e8
      rw [e8, e7, hv]; exact h1
    by_cases z2 : s.2.2.2 k = none
    · rw [if_pos ((opI_neg (fun e he => by have := hv e he; omega)).mpr z2)]
      exact fin _ (by rw [g66]; unfold bH; rw [z2])
    · rw [if_neg (fun w => z2 ((opI_neg (fun e he => by have := hv e he; omega)).mp w))]
      refine fin _ ?_
      cases z3 : s.2.2.2 k with
      | none => exact absurd z3 z2
      | some e =>
        unfold bH
        rw [z3]
        exact nI_1 e
  · rw [if_neg z, e3']
    exact h2 z
theorem r_over {m d k p : Nat} {T : Sg} {Q : Int32 → Sg → Prop} (hM : MX m T) (hd : d < 201) (h21 : aI T (m + 21) d = nI k) (hk : k < 2000) (h8 : aI T (m + 8) k = nI p) (hq : Q (if fI T 740 m = 0 then 0 else 1) (tOver m d p T)) : wX11_over m (nI d) T Q := by
  unfold wX11_over
  intro S1 e1
  have hM1 : MX m S1 := by rw [e1]; simp only [MX_sFI]; exact hM
  have g21 : aI S1 (m + 21) d = nI k := by rw [e1]; simp only [gs_FI]; exact h21
  have g8 : aI S1 (m + 8) k = nI p := by rw [e1]; simp only [gs_FI]; exact h8
  have g740 : fI S1 740 m = fI T 740 m := by rw [e1]; simp only [gs_FI]; rw [if_neg (by omega)]
  refine ⟨m + 21, MX_r730 hM1, MX_t21 hM1, by rw [MX_l21 hM1]; exact vp_n hd (by omega), m + 8, MX_r712 hM1, MX_t8 hM1, ?_, ?_⟩
  · rw [n_cl (by omega), g21, MX_l8 hM1]; exact vp_n hk (by omega)
  · rw [n_cl (by omega), g21, n_cl (by omega), g8]
    intro S6 e6
    have g : fI S6 740 m = fI T 740 m := by rw [e6]; simp only [gs_FI]; rw [if_neg (by omega)]; exact g740
    have e : S6 = tOver m d p T := by rw [e6, e1]; rfl
    rw [g]
    by_cases z : fI T 740 m = 0
    · rw [if_pos z] at hq ⊢; rw [e]; exact hq
    · rw [if_neg z] at hq ⊢; rw [e]; exact hq
