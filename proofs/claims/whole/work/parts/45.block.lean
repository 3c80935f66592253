/-! OPEN, LOOP, IF -/
theorem sFI_id {S : Sg} {k a : Nat} {v : Int32} (h : fI S k a = v) : sFI S k a v = S := by
  have e : g_u (fI S) k a v = fI S := by
    funext k' a'
    unfold g_u
    by_cases c : k' = k ∧ a' = a
    · rw [if_pos c, c.1, c.2]; exact h.symm
    · rw [if_neg c]
  show (tg S, ln S, g_u (fI S) k a v, fL S, fR S, aI S, aL S, aR S, sz S) = S
  rw [e]
  rfl
theorem sFI_comm {S : Sg} {k k' a a' : Nat} {v v' : Int32} (h : k ≠ k') : sFI (sFI S k a v) k' a' v' = sFI (sFI S k' a' v') k a v := by
  have e : g_u (g_u (fI S) k a v) k' a' v' = g_u (g_u (fI S) k' a' v') k a v := by
    funext k1 a1
    unfold g_u
    by_cases c : k1 = k'
    · subst c
      by_cases d : a1 = a'
      · rw [if_pos ⟨rfl, d⟩, if_neg (fun w => h w.1.symm), if_pos ⟨rfl, d⟩]
      · rw [if_neg (fun w => d w.2)]
        by_cases c2 : k1 = k ∧ a1 = a
        · rw [if_pos c2, if_pos c2]
        · rw [if_neg c2, if_neg c2, if_neg (fun w => d w.2)]
    · rw [if_neg (fun w => c w.1)]
      by_cases c2 : k1 = k ∧ a1 = a
      · rw [if_pos c2, if_pos c2]
      · rw [if_neg c2, if_neg c2, if_neg (fun w => c w.1)]
  show (tg S, ln S, g_u (g_u (fI S) k a v) k' a' v', fL S, fR S, aI S, aL S, aR S, sz S) = (tg S, ln S, g_u (g_u (fI S) k' a' v') k a v, fL S, fR S, aI S, aL S, aR S, sz S)
  rw [e]
/-- a new frame -/
def sFr (b ar : Option Nat) (re : Int32) (S : Sg) : Sg := sFI (sFI (sFR (sFR (sFI (nw S 2 0) 68 (sz S) 0) 64 (sz S) b) 65 (sz S) ar) 66 (sz S) re) 67 (sz S) re
theorem r_finit {S S' : Sg} {b ar : Option Nat} {re : Int32} {Q : Sg → Prop} (e : S' = nw S 2 0) (h : Q (sFr b ar re S)) : wX1_init (sz S) b ar re S' Q := by
  unfold wX1_init
  unfold sFr at h
  intro S1 e1 S2 e2 S3 e3 S4 e4 S5 e5
  rw [e5, e4, e3, e2, e1, e]
  exact h
theorem sFr_ext {b ar : Option Nat} {re : Int32} {S : Sg} : Ext 2 S (sFr b ar re S) := by unfold sFr; exact Ext_FI (Ext_FI (Ext_FR (Ext_FR (Ext_FI Ext_nw))))
theorem sFr_at {b ar : Option Nat} {re : Int32} {S : Sg} : fI (sFr b ar re S) 66 (sz S) = re ∧ fI (sFr b ar re S) 67 (sz S) = re ∧ fI (sFr b ar re S) 68 (sz S) = 0 ∧ fR (sFr b ar re S) 64 (sz S) = b ∧ fR (sFr b ar re S) 65 (sz S) = ar := by
  unfold sFr
  simp only [gs_FI, gs_FR]
  refine ⟨?_, ?_, ?_, ?_, ?_⟩
  · rw [if_neg (by omega), if_pos ⟨trivial, trivial⟩]
  · rw [if_pos ⟨trivial, trivial⟩]
  · rw [if_neg (by omega), if_neg (by omega), if_pos ⟨trivial, trivial⟩]
  · rw [if_neg (by omega), if_pos ⟨trivial, trivial⟩]
  · rw [if_pos ⟨trivial, trivial⟩]
def sBk (b ar : Option Nat) (re u : Int32) (S : Sg) : Sg := sFI (sFr b ar re S) 67 (sz S) u
theorem sBk_ext {b ar : Option Nat} {re u : Int32} {S : Sg} : Ext 2 S (sBk b ar re u S) := by unfold sBk; exact Ext_FI sFr_ext
theorem sBk_at {b ar : Option Nat} {re u : Int32} {S : Sg} : fI (sBk b ar re u S) 66 (sz S) = re ∧ fI (sBk b ar re u S) 67 (sz S) = u ∧ fI (sBk b ar re u S) 68 (sz S) = 0 ∧ fR (sBk b ar re u S) 64 (sz S) = b ∧ fR (sBk b ar re u S) 65 (sz S) = ar := by
  obtain ⟨h1, h2, h3, h4, h5⟩ := sFr_at (b := b) (ar := ar) (re := re) (S := S)
  unfold sBk
  simp only [gs_FI]
  refine ⟨?_, ?_, ?_, h4, h5⟩
  · rw [if_neg (by omega)]; exact h1
  · rw [if_pos ⟨trivial, trivial⟩]
  · rw [if_neg (by omega)]; exact h3
/-- the class begins a block -/
theorem r_begin {x n p q r d : Nat} {st : Nat → Nat} {op oc : Nat → Int32} {S : Sg} {Q : Sg → Prop} (hS : SX x S) (hf : fre S) (hn : n ≤ 2000) (hpn : p < n) (hq : tg S q = 2) (h66 : fI S 66 q = nI (rH op oc n r)) (h581 : fI S 581 (x + 13) = nI d) (hd : d ≤ 200)
    (hs : tg S (st p) = 8 ∧ fI S 448 (st p) = nI p ∧ fI S 449 (st p) = op p ∧ fI S 454 (st p) = opI ((b_at op oc n).2.1 p) ∧ fI S 455 (st p) = opI ((b_at op oc n).2.2.1 p) ∧ fI S 456 (st p) = opI ((b_at op oc n).2.2.2 p)) (S9 : Sg) (e9 : S9 = sBk (some (st p)) (some q) (nI (rH op oc n r)) (nI (pE (rH op oc n r) (b_at op oc n) p 0)) S)
    (h0 : d = 200 → Q (sStop x 4 S9)) (h1 : d < 200 → ∀ S12, S12 = sEnt x (sz S) d (p + 1) (mxd d (fI S 263 (x + 10))) S9 → (if op p = 29 then wX9_look (x + 13) (some (sz S)) S12 (fun S => Q S) else if op p = 30 then ∃ a16 : Nat, (fR S12 577 (x + 13)) = some a16 ∧ tg S12 a16 = 4 ∧ wX3_numberOf a16 (fI S12 450 (st p)) S12 (fun (r17 : Int64) (S18 : Sg) => ∃ a19 : Nat, (fR S18 577 (x + 13)) = some a19 ∧ tg S18 a19 = 4 ∧ wX3_numberOf a19 (fI S18 451 (st p)) S18 (fun (r20 : Int64) (S21 : Sg) => (if (lg_cmp r17 r20) < 0 then Q S21 else ∀ S23 : Sg, S23 = sFI S21 584 (x + 13) (1 : Int32) → Q S23))) else Q S12)) : wX9_beginBlock (x + 13) (some q) (some (st p)) S Q := by
  obtain ⟨s1, s2, s3, s4, s5, s6⟩ := hs
  unfold wX9_beginBlock
  intro S2 e2
  have hqs : q ≠ sz S := fre_ne hf (by rw [hq]; decide)
  have hps : st p ≠ sz S := fre_ne hf (by rw [s1]; decide)
  have hxs : ∀ i, tg S (x + i) ≠ 0 → x + i ≠ sz S := fun i hi => fre_ne hf hi
  have eN : Ext 2 S S2 := by rw [e2]; exact Ext_nw
  have g66 : fI S2 66 q = nI (rH op oc n r) := ((eN.2.2 q hqs).2.2.1 66).1.trans h66
  refine ⟨q, rfl, (eN.2.2 q hqs).1.trans hq, ?_⟩
  rw [g66]
  refine r_finit e2 ?_
  intro y6 e6
  subst e6
  have eF : Ext 2 S (sFr (some (st p)) (some q) (nI (rH op oc n r)) S) := sFr_ext
  obtain ⟨f1, f2, f3, f4, f5⟩ := sFr_at (b := some (st p)) (ar := some q) (re := nI (rH op oc n r)) (S := S)
  have o := eF.2.2 (st p) hps
  refine r_bodyEnd (k := p) (s := b_at op oc n) (hi := rH op oc n r) f4 (o.1.trans s1) ((o.2.2.1 454).1.trans s4) ((o.2.2.1 455).1.trans s5) ((o.2.2.1 456).1.trans s6) (fun e he => by have := b_vn.1 e he; omega) (fun e he => by have := b_vn.2.1 e he; omega) (fun e he => by have := b_vn.2.2 e he; omega) f1 ?_
  intro S9' e9'
  have ee : S9' = S9 := by rw [e9', e9]; rfl
  clear e9'
  subst ee
  have e9x : Ext 2 S S9' := by rw [e9]; exact sBk_ext
  have o9 := e9x.2.2 (st p) hps
  have hS9 : SX x S9' := SX_ext hf e9x hS
  refine ⟨st p, rfl, o9.1.trans s1, ?_⟩
  have o13 := e9x.2.2 (x + 13) (hxs 13 (by rw [SX_t13 hS]; decide))
  have o10 := e9x.2.2 (x + 10) (hxs 10 (by rw [SX_t10 hS]; decide))
  rw [(o9.2.2.1 448).1, s2, nI_1]
  refine r_enter hS9 ((o13.2.2.1 581).1.trans h581) hd (fun hd' => ?_) (fun hd' => ?_)
  · rw [if_neg (by decide), (o10.2.2.1 263).1]
    have := h1 hd' _ rfl
    have g449 : fI (sEnt x (sz S) d (p + 1) (mxd d (fI S 263 (x + 10))) S9') 449 (st p) = op p := by
      unfold sEnt; simp only [gs_FI, gs_FR]
      rw [if_neg (by omega), if_neg (by omega), if_neg (by omega), if_neg (by omega)]
      exact (o9.2.2.1 449).1.trans s3
    rw [g449]
    exact this
  · rw [if_pos rfl]
    exact h0 hd'
