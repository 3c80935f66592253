/-! THE LAW: two states side by side, the class's and the reference's -/
def rz (S : Sg) (n : Nat) : Sg := (tg S, ln S, fI S, fL S, fR S, aI S, aL S, aR S, n)
def ze (n : Nat) : Sg := (fun _ => 0, fun _ => 0, fun _ _ => 0, fun _ _ => 0, fun _ _ => none, fun _ _ => 0, fun _ _ => 0, fun _ _ => none, n)
def gP (D : va_G) (cy : Nat → ClassId) (H0 : Heap) (S S' : Sg) (H : Heap) : Prop := gH D cy S H ∧ gH D cy S' H ∧ (∀ q, tg S q ≠ 0 → tg S' q = 0) ∧ (∀ q, tg S q ≠ 0 → H0.size ≤ q) ∧ (∀ q, tg S' q ≠ 0 → H0.size ≤ q) ∧ va_S (fun q => H0.size ≤ q) H0 H []
theorem gH_lt {D : va_G} {cy : Nat → ClassId} {S : Sg} {H : Heap} (h : gH D cy S H) {q : Nat} (hq : tg S q ≠ 0) : q < H.size := by
  obtain ⟨t, ht⟩ : ∃ t, tg S q = t + 1 := ⟨tg S q - 1, by omega⟩
  exact (h q t ht).lt
theorem gP_swap {D : va_G} {cy : Nat → ClassId} {H0 : Heap} {S S' : Sg} {H : Heap} (h : gP D cy H0 S S' H) : gP D cy H0 S' S H := by
  obtain ⟨h1, h2, h3, h4, h5, h6⟩ := h
  exact ⟨h2, h1, fun q hq => by
    by_cases e : tg S q = 0
    · exact e
    · exact absurd (h3 q e) hq, h5, h4, h6⟩
theorem gP_lt {D : va_G} {cy : Nat → ClassId} {H0 : Heap} {S S' : Sg} {H : Heap} (h : gP D cy H0 S S' H) : ∀ q, tg (rz S H.size) q ≠ 0 → q < sz (rz S H.size) := fun q hq => gH_lt h.1 hq
theorem gP_tl {D : va_G} {cy : Nat → ClassId} {H0 : Heap} {S S' : Sg} {H : Heap} (h : gP D cy H0 S S' H) : ∀ q, tg S q ≠ 0 → q < H.size := fun q hq => gH_lt h.1 hq
theorem gP_W {D : va_G} {cy : Nat → ClassId} {H0 : Heap} {S S' : Sg} {H : Heap} (h : gP D cy H0 S S' H) : gW D cy (gA (rz S H.size)) (tg S) H (rz S H.size) H [] := ⟨h.1, rfl, va_S.rf, fun q hq => Or.inl hq, fun q hq => Or.inr hq, fun _ _ h => h⟩
theorem gP_back {D : va_G} {cy : Nat → ClassId} {H0 : Heap} {S S' S1 : Sg} {H H1 : Heap} {locs1 : List Loc} {M : Nat → Nat} (h : gP D cy H0 S S' H) (hW : gW D cy (gA (rz S H.size)) M H S1 H1 locs1) : gP D cy H0 S1 S' H1 ∧ ∀ q ∈ locs1, H0.size ≤ q.base := by
  obtain ⟨h1, h2, h3, h4, h5, h6⟩ := h
  obtain ⟨g1, g2, g3, g4, g5, g6⟩ := hW
  have hlow : ∀ q, gA (rz S H.size) q → H0.size ≤ q := by
    intro q hq
    rcases hq with hq | hq
    · exact h4 q hq
    · exact Nat.le_trans h6.1 hq
  have hoff : ∀ q, tg S' q ≠ 0 → ¬ gA (rz S H.size) q := by
    intro q hq hA
    have hl := gH_lt h2 hq
    rcases hA with hA | hA
    · exact hq (h3 q hA)
    · exact absurd hl (Nat.not_lt.mpr hA)
  refine ⟨⟨g1, fun a t ht => ?_, fun q hq => ?_, fun q hq => hlow q (g4 q hq), h5, ⟨Nat.le_trans h6.1 g3.1, fun q hq hA => ?_, fun _ h => by cases h⟩⟩, fun q hq => hlow _ (g3.2.2 q hq)⟩
  · have ha : tg S' a ≠ 0 := by omega
    exact (h2 a t ht).kept (g3.2.1 a (gH_lt h2 ha) (hoff a ha))
  · by_cases e : tg S' q = 0
    · exact e
    · exact absurd (g4 q hq) (hoff q e)
  · have hn : ¬ gA (rz S H.size) q := fun z => hA (hlow q z)
    rw [g3.2.1 q (Nat.lt_of_lt_of_le hq h6.1) hn]
    exact h6.2.1 q hq hA
theorem lg_self (x : Int64) : lg_cmp x x = 0 := by
  unfold lg_cmp
  rw [if_neg (by show ¬ x < x; exact Int64.lt_irrefl), if_pos rfl]
section GL
variable {p : Program} {l : Launch} {e : Env} {R : Room} {s : State} {m : MethodId} {args : Array Value} {below : List Frame} {meth : Method} {c : Code} {H : Heap} {cells slots mc ms : Nat} {Q : State → Prop}
variable {cc : ByteArray} {nL : Nat} {own nm : String} {ret : Option FieldType} {pc : Nat} {ls : Array Slot} {rest st : List Value} {D : va_G} {cy : Nat → ClassId} {S S' : Sg} {a0 : Array Value}
theorem gl_ci (C : gC p s m args meth c D cy cc nL own ret nm) {post : Int32 → Sg → Prop} (hP : gP D cy s.heap S S' H) (hr : va_Run p l e R s m args below meth c H [] cells slots mc ms (F0 m pc ls st) rest (va_Qi post (gB D cy (rz S H.size)) (gA (rz S H.size)) a0) (gA (rz S H.size)))
    (kk : ∀ (r : Int32) (S1 : Sg) (H1 : Heap), gP D cy s.heap S1 S' H1 → post r S1 → W p l e R s m args below meth c H1 [] (cells + mc) (slots + ms) Q (F0 m (pc + 3) ls (.int r :: rest))) : W p l e R s m args below meth c H [] cells slots Q (F0 m pc ls st) := by
  refine gx_ci hr (gP_W hP) (fun r S1 H1 locs1 hW hm hp => ?_)
  obtain ⟨h1, h2⟩ := gP_back hP hW
  exact va_forget h2 (kk r S1 H1 h1 hp)
theorem gl_cl (C : gC p s m args meth c D cy cc nL own ret nm) {post : Int64 → Sg → Prop} (hP : gP D cy s.heap S S' H) (hr : va_Run p l e R s m args below meth c H [] cells slots mc ms (F0 m pc ls st) rest (va_Ql post (gB D cy (rz S H.size)) (gA (rz S H.size)) a0) (gA (rz S H.size)))
    (kk : ∀ (r : Int64) (S1 : Sg) (H1 : Heap), gP D cy s.heap S1 S' H1 → post r S1 → W p l e R s m args below meth c H1 [] (cells + mc) (slots + ms) Q (F0 m (pc + 3) ls (.long r :: rest))) : W p l e R s m args below meth c H [] cells slots Q (F0 m pc ls st) := by
  refine gx_cl hr (gP_W hP) (fun r S1 H1 locs1 hW hm hp => ?_)
  obtain ⟨h1, h2⟩ := gP_back hP hW
  exact va_forget h2 (kk r S1 H1 h1 hp)
end GL
def PL_step (RR : Nat → Nat → Sg → Sg → Prop) : Prop := ∀ (x m : Nat) (a b c d : Int32) (Sx Sm : Sg), RR x m Sx Sm → (∀ q, tg Sx q ≠ 0 → q < sz Sx) → wX10_step x a b c d Sx (fun (r : Int32) (S1 : Sg) => ∀ n2, (∀ q, tg Sm q ≠ 0 → q < n2) → wX11_step m a b c d (rz Sm n2) (fun (r2 : Int32) (S2 : Sg) => r = r2 ∧ RR x m S1 S2))
def PL_wipe (RR : Nat → Nat → Sg → Sg → Prop) : Prop := ∀ (x m : Nat) (Sx Sm : Sg), RR x m Sx Sm → (∀ q, tg Sx q ≠ 0 → q < sz Sx) → wX10_wipe x Sx (fun (r : Int32) (S1 : Sg) => ∀ n2, (∀ q, tg Sm q ≠ 0 → q < n2) → wX11_wipe m (rz Sm n2) (fun (r2 : Int32) (S2 : Sg) => r = r2 ∧ RR x m S1 S2))
def PL_run (RR : Nat → Nat → Sg → Sg → Prop) : Prop := ∀ (x m : Nat) (a b : Int32) (Sx Sm : Sg), RR x m Sx Sm → (∀ q, tg Sx q ≠ 0 → q < sz Sx) → wX10_run x a b Sx (fun (r : Int32) (S1 : Sg) => ∀ n2, (∀ q, tg Sm q ≠ 0 → q < n2) → wX11_run m a b (rz Sm n2) (fun (r2 : Int32) (S2 : Sg) => r = r2 ∧ RR x m S1 S2))
def PL_end (RR : Nat → Nat → Sg → Sg → Prop) : Prop := ∀ (x m : Nat) (Sx Sm : Sg), RR x m Sx Sm → (∀ q, tg Sx q ≠ 0 → q < sz Sx) → wX10_end x Sx (fun (r : Int32) (S1 : Sg) => ∀ n2, (∀ q, tg Sm q ≠ 0 → q < n2) → wX11_end m (rz Sm n2) (fun (r2 : Int32) (S2 : Sg) => r = r2 ∧ RR x m S1 S2))
def PL_result (RR : Nat → Nat → Sg → Sg → Prop) : Prop := ∀ (x m : Nat) (Sx Sm : Sg), RR x m Sx Sm → (∀ q, tg Sx q ≠ 0 → q < sz Sx) → wX10_result x Sx (fun (r : Int64) (S1 : Sg) => ∀ n2, (∀ q, tg Sm q ≠ 0 → q < n2) → wX11_result m (rz Sm n2) (fun (r2 : Int64) (S2 : Sg) => r = r2 ∧ RR x m S1 S2))
def PL_kind (RR : Nat → Nat → Sg → Sg → Prop) : Prop := ∀ (x m : Nat) (Sx Sm : Sg), RR x m Sx Sm → (∀ q, tg Sx q ≠ 0 → q < sz Sx) → wX10_kind x Sx (fun (r : Int32) (S1 : Sg) => ∀ n2, (∀ q, tg Sm q ≠ 0 → q < n2) → wX11_kind m (rz Sm n2) (fun (r2 : Int32) (S2 : Sg) => r = r2 ∧ RR x m S1 S2))
def PL_cause (RR : Nat → Nat → Sg → Sg → Prop) : Prop := ∀ (x m : Nat) (a : Int32) (Sx Sm : Sg), RR x m Sx Sm → (∀ q, tg Sx q ≠ 0 → q < sz Sx) → wX10_cause x a Sx (fun (r : Int32) (S1 : Sg) => ∀ n2, (∀ q, tg Sm q ≠ 0 → q < n2) → wX11_cause m a (rz Sm n2) (fun (r2 : Int32) (S2 : Sg) => r = r2 ∧ RR x m S1 S2))
def PL_out (RR : Nat → Nat → Sg → Sg → Prop) : Prop := ∀ (x m : Nat) (a : Int32) (Sx Sm : Sg), RR x m Sx Sm → (∀ q, tg Sx q ≠ 0 → q < sz Sx) → wX10_out x a Sx (fun (r : Int64) (S1 : Sg) => ∀ n2, (∀ q, tg Sm q ≠ 0 → q < n2) → wX11_out m a (rz Sm n2) (fun (r2 : Int64) (S2 : Sg) => r = r2 ∧ RR x m S1 S2))
def PL_finished (RR : Nat → Nat → Sg → Sg → Prop) : Prop := ∀ (x m : Nat) (a : Int32) (Sx Sm : Sg), RR x m Sx Sm → (∀ q, tg Sx q ≠ 0 → q < sz Sx) → wX10_finished x a Sx (fun (r : Int32) (S1 : Sg) => ∀ n2, (∀ q, tg Sm q ≠ 0 → q < n2) → wX11_finished m a (rz Sm n2) (fun (r2 : Int32) (S2 : Sg) => r = r2 ∧ RR x m S1 S2))
def PL_depth (RR : Nat → Nat → Sg → Sg → Prop) : Prop := ∀ (x m : Nat) (Sx Sm : Sg), RR x m Sx Sm → (∀ q, tg Sx q ≠ 0 → q < sz Sx) → wX10_depth x Sx (fun (r : Int32) (S1 : Sg) => ∀ n2, (∀ q, tg Sm q ≠ 0 → q < n2) → wX11_depth m (rz Sm n2) (fun (r2 : Int32) (S2 : Sg) => r = r2 ∧ RR x m S1 S2))
def PL_status (RR : Nat → Nat → Sg → Sg → Prop) : Prop := ∀ (x m : Nat) (a : Int32) (Sx Sm : Sg), RR x m Sx Sm → (∀ q, tg Sx q ≠ 0 → q < sz Sx) → wX10_status x a Sx (fun (r : Int32) (S1 : Sg) => ∀ n2, (∀ q, tg Sm q ≠ 0 → q < n2) → wX11_status m a (rz Sm n2) (fun (r2 : Int32) (S2 : Sg) => r = r2 ∧ RR x m S1 S2))
def PL_number (RR : Nat → Nat → Sg → Sg → Prop) : Prop := ∀ (x m : Nat) (a : Int32) (Sx Sm : Sg), RR x m Sx Sm → (∀ q, tg Sx q ≠ 0 → q < sz Sx) → wX10_number x a Sx (fun (r : Int64) (S1 : Sg) => ∀ n2, (∀ q, tg Sm q ≠ 0 → q < n2) → wX11_number m a (rz Sm n2) (fun (r2 : Int64) (S2 : Sg) => r = r2 ∧ RR x m S1 S2))
def PL_hand (RR : Nat → Nat → Sg → Sg → Prop) : Prop := ∀ (x m : Nat) (a : Int32) (Sx Sm : Sg), RR x m Sx Sm → (∀ q, tg Sx q ≠ 0 → q < sz Sx) → wX10_hand x a Sx (fun (r : Int32) (S1 : Sg) => ∀ n2, (∀ q, tg Sm q ≠ 0 → q < n2) → wX11_hand m a (rz Sm n2) (fun (r2 : Int32) (S2 : Sg) => r = r2 ∧ RR x m S1 S2))
def PL_mark (RR : Nat → Nat → Sg → Sg → Prop) : Prop := ∀ (x m : Nat) (a : Int32) (Sx Sm : Sg), RR x m Sx Sm → (∀ q, tg Sx q ≠ 0 → q < sz Sx) → wX10_mark x a Sx (fun (r : Int64) (S1 : Sg) => ∀ n2, (∀ q, tg Sm q ≠ 0 → q < n2) → wX11_mark m a (rz Sm n2) (fun (r2 : Int64) (S2 : Sg) => r = r2 ∧ RR x m S1 S2))
def PL_size (RR : Nat → Nat → Sg → Sg → Prop) : Prop := ∀ (x m : Nat) (a b : Int32) (Sx Sm : Sg), RR x m Sx Sm → (∀ q, tg Sx q ≠ 0 → q < sz Sx) → wX10_size x a b Sx (fun (r : Int32) (S1 : Sg) => ∀ n2, (∀ q, tg Sm q ≠ 0 → q < n2) → wX11_size m a b (rz Sm n2) (fun (r2 : Int32) (S2 : Sg) => r = r2 ∧ RR x m S1 S2))
def PL_value (RR : Nat → Nat → Sg → Sg → Prop) : Prop := ∀ (x m : Nat) (a b c : Int32) (Sx Sm : Sg), RR x m Sx Sm → (∀ q, tg Sx q ≠ 0 → q < sz Sx) → wX10_value x a b c Sx (fun (r : Int64) (S1 : Sg) => ∀ n2, (∀ q, tg Sm q ≠ 0 → q < n2) → wX11_value m a b c (rz Sm n2) (fun (r2 : Int64) (S2 : Sg) => r = r2 ∧ RR x m S1 S2))
def PL_grid (RR : Nat → Nat → Sg → Sg → Prop) : Prop := ∀ (x m : Nat) (a b : Int32) (Sx Sm : Sg), RR x m Sx Sm → (∀ q, tg Sx q ≠ 0 → q < sz Sx) → wX10_grid x a b Sx (fun (r : Int32) (S1 : Sg) => ∀ n2, (∀ q, tg Sm q ≠ 0 → q < n2) → wX11_grid m a b (rz Sm n2) (fun (r2 : Int32) (S2 : Sg) => r = r2 ∧ RR x m S1 S2))
set_option maxHeartbeats 4000000 in
set_option maxRecDepth 100000 in
theorem law_step {RR : Nat → Nat → Sg → Sg → Prop} (hz : ∀ {x m : Nat} (S S2 : Sg) (n : Nat), RR x m S S2 → RR x m (rz S n) S2) (hp : PL_step RR) {p : Program} {l : Launch} {e : Env} {s : State} {m : MethodId} {below : List Frame} {meth : Method} {c : Code} {D : va_G} {cy : Nat → ClassId} {b L : Nat} {xs : Nat → Int32} {nm : String} {Q : State → Prop} (C : gC p s m #[Value.ref b] meth c D cy cL_law 4 RL (some .boolean) nm) (hX : va_X b L xs s s.heap) (hbl : b < s.heap.size) (hbA : ¬ (fun q => s.heap.size ≤ q) b) {i : Int32} (h1 : vp_in (i + 1) L) (h2 : vp_in (i + 2) L) (h3 : vp_in (i + 3) L) (h4 : vp_in (i + 4) L) {x y : Nat} {S S2 : Sg} {H : Heap} {kc ks : Nat} {ls : Array Slot} (hl : lv_has ls 4 [(0, .ref b), (1, va_rf (some x)), (2, va_rf (some y)), (3, .int i)]) (hkc : kc + 4001 ≤ 600000 ∧ ks + 70009 ≤ 7302250) (ht : tg S x = 11 ∧ tg S2 y = 12) (hR : RR x y S S2) (hP : gP D cy s.heap S S2 H)
    (kk : ∀ (S S2 : Sg) (H : Heap) (dc ds : Nat), dc ≤ 4001 → ds ≤ 70009 → RR x y S S2 → gP D cy s.heap S S2 H → W p l e room_1 s m #[Value.ref b] below meth c H [] (kc + dc + 0) (ks + ds + 0) Q (F0 m 542 ls [])) : W p l e room_1 s m #[Value.ref b] below meth c H [] kc ks Q (F0 m 116 ls []) := by
  have hx := C.1
  have hb := C.2.1
  have hp := @hp x y
  refine gx_aload_n hx hb dL_law_116 rfl (lv_at hl 1 rfl) ?_
  refine lv_aload_n hx hb dL_law_117 rfl (lv_at hl 0 rfl) ?_
  refine lv_iload_n hx hb dL_law_118 rfl (lv_at hl 3 rfl) ?_
  refine lv_iconst (v := 1) hx hb dL_law_119 (by decide) ?_
  refine lv_iadd hx hb dL_law_120 ?_
  refine va_sld hx hb hX hbl hbA hP.2.2.2.2.2 h1 dL_law_121 ?_
  refine lv_aload_n hx hb dL_law_122 rfl (lv_at hl 0 rfl) ?_
  refine lv_iload_n hx hb dL_law_123 rfl (lv_at hl 3 rfl) ?_
  refine lv_iconst (v := 2) hx hb dL_law_124 (by decide) ?_
  refine lv_iadd hx hb dL_law_125 ?_
  refine va_sld hx hb hX hbl hbA hP.2.2.2.2.2 h2 dL_law_126 ?_
  refine lv_aload_n hx hb dL_law_127 rfl (lv_at hl 0 rfl) ?_
  refine lv_iload_n hx hb dL_law_128 rfl (lv_at hl 3 rfl) ?_
  refine lv_iconst (v := 3) hx hb dL_law_129 (by decide) ?_
  refine lv_iadd hx hb dL_law_130 ?_
  refine va_sld hx hb hX hbl hbA hP.2.2.2.2.2 h3 dL_law_131 ?_
  refine lv_aload_n hx hb dL_law_132 rfl (lv_at hl 0 rfl) ?_
  refine lv_iload_n hx hb dL_law_133 rfl (lv_at hl 3 rfl) ?_
  refine lv_iconst (v := 4) hx hb dL_law_134 (by decide) ?_
  refine lv_iadd hx hb dL_law_135 ?_
  refine va_sld hx hb hX hbl hbA hP.2.2.2.2.2 h4 dL_law_136 ?_
  have hw := hp (xs (i + 1).toNatClampNeg) (xs (i + 2).toNatClampNeg) (xs (i + 3).toNatClampNeg) (xs (i + 4).toNatClampNeg) (rz S H.size) S2 (hz S S2 H.size hR) (gP_lt hP)
  refine gl_ci C hP (gx_rV C (gP_W hP) ML_13 (mX10_step l D cy _ _ _ _ _ _ _ ht.1 hw) rfl rfl ⟨Nat.le_of_ble_eq_true rfl, Nat.le_of_ble_eq_true rfl⟩ rfl ht.1 (by decide) rfl rfl hl.1 rfl (gx_room0 (n := 4) (Nat.le_of_ble_eq_true rfl)) dL_law_137 ⟨by show _ ≤ 600000; omega, by show _ ≤ 7302250; omega⟩) (fun r S1 H1 hP1 hw => ?_)
  have hP := gP_swap hP1
  have hw := hw H1.size (gP_tl hP)
  refine gx_aload_n hx hb dL_law_140 rfl (lv_at hl 2 rfl) ?_
  refine lv_aload_n hx hb dL_law_141 rfl (lv_at hl 0 rfl) ?_
  refine lv_iload_n hx hb dL_law_142 rfl (lv_at hl 3 rfl) ?_
  refine lv_iconst (v := 1) hx hb dL_law_143 (by decide) ?_
  refine lv_iadd hx hb dL_law_144 ?_
  refine va_sld hx hb hX hbl hbA hP.2.2.2.2.2 h1 dL_law_145 ?_
  refine lv_aload_n hx hb dL_law_146 rfl (lv_at hl 0 rfl) ?_
  refine lv_iload_n hx hb dL_law_147 rfl (lv_at hl 3 rfl) ?_
  refine lv_iconst (v := 2) hx hb dL_law_148 (by decide) ?_
  refine lv_iadd hx hb dL_law_149 ?_
  refine va_sld hx hb hX hbl hbA hP.2.2.2.2.2 h2 dL_law_150 ?_
  refine lv_aload_n hx hb dL_law_151 rfl (lv_at hl 0 rfl) ?_
  refine lv_iload_n hx hb dL_law_152 rfl (lv_at hl 3 rfl) ?_
  refine lv_iconst (v := 3) hx hb dL_law_153 (by decide) ?_
  refine lv_iadd hx hb dL_law_154 ?_
  refine va_sld hx hb hX hbl hbA hP.2.2.2.2.2 h3 dL_law_155 ?_
  refine lv_aload_n hx hb dL_law_156 rfl (lv_at hl 0 rfl) ?_
  refine lv_iload_n hx hb dL_law_157 rfl (lv_at hl 3 rfl) ?_
  refine lv_iconst (v := 4) hx hb dL_law_158 (by decide) ?_
  refine lv_iadd hx hb dL_law_159 ?_
  refine va_sld hx hb hX hbl hbA hP.2.2.2.2.2 h4 dL_law_160 ?_
  refine gl_ci C hP (gx_rV C (gP_W hP) ML_17 (mX11_step l D cy _ _ _ _ _ _ _ ht.2 hw) rfl rfl ⟨Nat.le_of_ble_eq_true rfl, Nat.le_of_ble_eq_true rfl⟩ rfl ht.2 (by decide) rfl rfl hl.1 rfl (gx_room0 (n := 4) (Nat.le_of_ble_eq_true rfl)) dL_law_161 ⟨by show _ ≤ 600000; omega, by show _ ≤ 7302250; omega⟩) (fun r2 S3 H2 hP2 hw => ?_)
  obtain ⟨rfl, hR⟩ := hw
  have hP := gP_swap hP2
  refine lv_icmp_eq (tgt := 542) hx hb dL_law_164 (by decide) (fun _ => ?_) (fun hn => absurd rfl hn)
  exact kk _ _ _ 1 9 (by decide) (by decide) hR hP
set_option maxHeartbeats 4000000 in
set_option maxRecDepth 100000 in
theorem law_wipe {RR : Nat → Nat → Sg → Sg → Prop} (hz : ∀ {x m : Nat} (S S2 : Sg) (n : Nat), RR x m S S2 → RR x m (rz S n) S2) (hp : PL_wipe RR) {p : Program} {l : Launch} {e : Env} {s : State} {m : MethodId} {below : List Frame} {meth : Method} {c : Code} {D : va_G} {cy : Nat → ClassId} {b L : Nat} {xs : Nat → Int32} {nm : String} {Q : State → Prop} (C : gC p s m #[Value.ref b] meth c D cy cL_law 4 RL (some .boolean) nm) (hX : va_X b L xs s s.heap) (hbl : b < s.heap.size) (hbA : ¬ (fun q => s.heap.size ≤ q) b) {i : Int32} (h1 : vp_in (i + 1) L) (h2 : vp_in (i + 2) L) (h3 : vp_in (i + 3) L) (h4 : vp_in (i + 4) L) {x y : Nat} {S S2 : Sg} {H : Heap} {kc ks : Nat} {ls : Array Slot} (hl : lv_has ls 4 [(0, .ref b), (1, va_rf (some x)), (2, va_rf (some y)), (3, .int i)]) (hkc : kc + 4001 ≤ 600000 ∧ ks + 70009 ≤ 7302250) (ht : tg S x = 11 ∧ tg S2 y = 12) (hR : RR x y S S2) (hP : gP D cy s.heap S S2 H)
    (kk : ∀ (S S2 : Sg) (H : Heap) (dc ds : Nat), dc ≤ 4001 → ds ≤ 70009 → RR x y S S2 → gP D cy s.heap S S2 H → W p l e room_1 s m #[Value.ref b] below meth c H [] (kc + dc + 0) (ks + ds + 0) Q (F0 m 542 ls [])) : W p l e room_1 s m #[Value.ref b] below meth c H [] kc ks Q (F0 m 169 ls []) := by
  have hx := C.1
  have hb := C.2.1
  have hp := @hp x y
  refine gx_aload_n hx hb dL_law_169 rfl (lv_at hl 1 rfl) ?_
  have hw := hp (rz S H.size) S2 (hz S S2 H.size hR) (gP_lt hP)
  refine gl_ci C hP (gx_rV C (gP_W hP) ML_18 (mX10_wipe l D cy _ _ _ ht.1 hw) rfl rfl ⟨Nat.le_of_ble_eq_true rfl, Nat.le_of_ble_eq_true rfl⟩ rfl ht.1 (by decide) rfl rfl hl.1 rfl (gx_room0 (n := 4) (Nat.le_of_ble_eq_true rfl)) dL_law_170 ⟨by show _ ≤ 600000; omega, by show _ ≤ 7302250; omega⟩) (fun r S1 H1 hP1 hw => ?_)
  have hP := gP_swap hP1
  have hw := hw H1.size (gP_tl hP)
  refine gx_aload_n hx hb dL_law_173 rfl (lv_at hl 2 rfl) ?_
  refine gl_ci C hP (gx_rV C (gP_W hP) ML_22 (mX11_wipe l D cy _ _ _ ht.2 hw) rfl rfl ⟨Nat.le_of_ble_eq_true rfl, Nat.le_of_ble_eq_true rfl⟩ rfl ht.2 (by decide) rfl rfl hl.1 rfl (gx_room0 (n := 4) (Nat.le_of_ble_eq_true rfl)) dL_law_174 ⟨by show _ ≤ 600000; omega, by show _ ≤ 7302250; omega⟩) (fun r2 S3 H2 hP2 hw => ?_)
  obtain ⟨rfl, hR⟩ := hw
  have hP := gP_swap hP2
  refine lv_icmp_eq (tgt := 542) hx hb dL_law_177 (by decide) (fun _ => ?_) (fun hn => absurd rfl hn)
  exact kk _ _ _ 0 0 (by decide) (by decide) hR hP
set_option maxHeartbeats 4000000 in
set_option maxRecDepth 100000 in
theorem law_run {RR : Nat → Nat → Sg → Sg → Prop} (hz : ∀ {x m : Nat} (S S2 : Sg) (n : Nat), RR x m S S2 → RR x m (rz S n) S2) (hp : PL_run RR) {p : Program} {l : Launch} {e : Env} {s : State} {m : MethodId} {below : List Frame} {meth : Method} {c : Code} {D : va_G} {cy : Nat → ClassId} {b L : Nat} {xs : Nat → Int32} {nm : String} {Q : State → Prop} (C : gC p s m #[Value.ref b] meth c D cy cL_law 4 RL (some .boolean) nm) (hX : va_X b L xs s s.heap) (hbl : b < s.heap.size) (hbA : ¬ (fun q => s.heap.size ≤ q) b) {i : Int32} (h1 : vp_in (i + 1) L) (h2 : vp_in (i + 2) L) (h3 : vp_in (i + 3) L) (h4 : vp_in (i + 4) L) {x y : Nat} {S S2 : Sg} {H : Heap} {kc ks : Nat} {ls : Array Slot} (hl : lv_has ls 4 [(0, .ref b), (1, va_rf (some x)), (2, va_rf (some y)), (3, .int i)]) (hkc : kc + 4001 ≤ 600000 ∧ ks + 70009 ≤ 7302250) (ht : tg S x = 11 ∧ tg S2 y = 12) (hR : RR x y S S2) (hP : gP D cy s.heap S S2 H)
    (kk : ∀ (S S2 : Sg) (H : Heap) (dc ds : Nat), dc ≤ 4001 → ds ≤ 70009 → RR x y S S2 → gP D cy s.heap S S2 H → W p l e room_1 s m #[Value.ref b] below meth c H [] (kc + dc + 0) (ks + ds + 0) Q (F0 m 542 ls [])) : W p l e room_1 s m #[Value.ref b] below meth c H [] kc ks Q (F0 m 182 ls []) := by
  have hx := C.1
  have hb := C.2.1
  have hp := @hp x y
  refine gx_aload_n hx hb dL_law_182 rfl (lv_at hl 1 rfl) ?_
  refine lv_aload_n hx hb dL_law_183 rfl (lv_at hl 0 rfl) ?_
  refine lv_iload_n hx hb dL_law_184 rfl (lv_at hl 3 rfl) ?_
  refine lv_iconst (v := 1) hx hb dL_law_185 (by decide) ?_
  refine lv_iadd hx hb dL_law_186 ?_
  refine va_sld hx hb hX hbl hbA hP.2.2.2.2.2 h1 dL_law_187 ?_
  refine lv_aload_n hx hb dL_law_188 rfl (lv_at hl 0 rfl) ?_
  refine lv_iload_n hx hb dL_law_189 rfl (lv_at hl 3 rfl) ?_
  refine lv_iconst (v := 2) hx hb dL_law_190 (by decide) ?_
  refine lv_iadd hx hb dL_law_191 ?_
  refine va_sld hx hb hX hbl hbA hP.2.2.2.2.2 h2 dL_law_192 ?_
  have hw := hp (xs (i + 1).toNatClampNeg) (xs (i + 2).toNatClampNeg) (rz S H.size) S2 (hz S S2 H.size hR) (gP_lt hP)
  refine gl_ci C hP (gx_rV C (gP_W hP) ML_23 (mX10_run l D cy _ _ _ _ _ ht.1 hw) rfl rfl ⟨Nat.le_of_ble_eq_true rfl, Nat.le_of_ble_eq_true rfl⟩ rfl ht.1 (by decide) rfl rfl hl.1 rfl (gx_room0 (n := 4) (Nat.le_of_ble_eq_true rfl)) dL_law_193 ⟨by show _ ≤ 600000; omega, by show _ ≤ 7302250; omega⟩) (fun r S1 H1 hP1 hw => ?_)
  have hP := gP_swap hP1
  have hw := hw H1.size (gP_tl hP)
  refine gx_aload_n hx hb dL_law_196 rfl (lv_at hl 2 rfl) ?_
  refine lv_aload_n hx hb dL_law_197 rfl (lv_at hl 0 rfl) ?_
  refine lv_iload_n hx hb dL_law_198 rfl (lv_at hl 3 rfl) ?_
  refine lv_iconst (v := 1) hx hb dL_law_199 (by decide) ?_
  refine lv_iadd hx hb dL_law_200 ?_
  refine va_sld hx hb hX hbl hbA hP.2.2.2.2.2 h1 dL_law_201 ?_
  refine lv_aload_n hx hb dL_law_202 rfl (lv_at hl 0 rfl) ?_
  refine lv_iload_n hx hb dL_law_203 rfl (lv_at hl 3 rfl) ?_
  refine lv_iconst (v := 2) hx hb dL_law_204 (by decide) ?_
  refine lv_iadd hx hb dL_law_205 ?_
  refine va_sld hx hb hX hbl hbA hP.2.2.2.2.2 h2 dL_law_206 ?_
  refine gl_ci C hP (gx_rV C (gP_W hP) ML_27 (mX11_run l D cy _ _ _ _ _ ht.2 hw) rfl rfl ⟨Nat.le_of_ble_eq_true rfl, Nat.le_of_ble_eq_true rfl⟩ rfl ht.2 (by decide) rfl rfl hl.1 rfl (gx_room0 (n := 4) (Nat.le_of_ble_eq_true rfl)) dL_law_207 ⟨by show _ ≤ 600000; omega, by show _ ≤ 7302250; omega⟩) (fun r2 S3 H2 hP2 hw => ?_)
  obtain ⟨rfl, hR⟩ := hw
  have hP := gP_swap hP2
  refine lv_icmp_eq (tgt := 542) hx hb dL_law_210 (by decide) (fun _ => ?_) (fun hn => absurd rfl hn)
  exact kk _ _ _ 4001 70009 (by decide) (by decide) hR hP
set_option maxHeartbeats 4000000 in
set_option maxRecDepth 100000 in
theorem law_end {RR : Nat → Nat → Sg → Sg → Prop} (hz : ∀ {x m : Nat} (S S2 : Sg) (n : Nat), RR x m S S2 → RR x m (rz S n) S2) (hp : PL_end RR) {p : Program} {l : Launch} {e : Env} {s : State} {m : MethodId} {below : List Frame} {meth : Method} {c : Code} {D : va_G} {cy : Nat → ClassId} {b L : Nat} {xs : Nat → Int32} {nm : String} {Q : State → Prop} (C : gC p s m #[Value.ref b] meth c D cy cL_law 4 RL (some .boolean) nm) (hX : va_X b L xs s s.heap) (hbl : b < s.heap.size) (hbA : ¬ (fun q => s.heap.size ≤ q) b) {i : Int32} (h1 : vp_in (i + 1) L) (h2 : vp_in (i + 2) L) (h3 : vp_in (i + 3) L) (h4 : vp_in (i + 4) L) {x y : Nat} {S S2 : Sg} {H : Heap} {kc ks : Nat} {ls : Array Slot} (hl : lv_has ls 4 [(0, .ref b), (1, va_rf (some x)), (2, va_rf (some y)), (3, .int i)]) (hkc : kc + 4001 ≤ 600000 ∧ ks + 70009 ≤ 7302250) (ht : tg S x = 11 ∧ tg S2 y = 12) (hR : RR x y S S2) (hP : gP D cy s.heap S S2 H)
    (kk : ∀ (S S2 : Sg) (H : Heap) (dc ds : Nat), dc ≤ 4001 → ds ≤ 70009 → RR x y S S2 → gP D cy s.heap S S2 H → W p l e room_1 s m #[Value.ref b] below meth c H [] (kc + dc + 0) (ks + ds + 0) Q (F0 m 542 ls [])) : W p l e room_1 s m #[Value.ref b] below meth c H [] kc ks Q (F0 m 215 ls []) := by
  have hx := C.1
  have hb := C.2.1
  have hp := @hp x y
  refine gx_aload_n hx hb dL_law_215 rfl (lv_at hl 1 rfl) ?_
  have hw := hp (rz S H.size) S2 (hz S S2 H.size hR) (gP_lt hP)
  refine gl_ci C hP (gx_rV C (gP_W hP) ML_28 (mX10_end l D cy _ _ _ ht.1 hw) rfl rfl ⟨Nat.le_of_ble_eq_true rfl, Nat.le_of_ble_eq_true rfl⟩ rfl ht.1 (by decide) rfl rfl hl.1 rfl (gx_room0 (n := 4) (Nat.le_of_ble_eq_true rfl)) dL_law_216 ⟨by show _ ≤ 600000; omega, by show _ ≤ 7302250; omega⟩) (fun r S1 H1 hP1 hw => ?_)
  have hP := gP_swap hP1
  have hw := hw H1.size (gP_tl hP)
  refine gx_aload_n hx hb dL_law_219 rfl (lv_at hl 2 rfl) ?_
  refine gl_ci C hP (gx_rV C (gP_W hP) ML_31 (mX11_end l D cy _ _ _ ht.2 hw) rfl rfl ⟨Nat.le_of_ble_eq_true rfl, Nat.le_of_ble_eq_true rfl⟩ rfl ht.2 (by decide) rfl rfl hl.1 rfl (gx_room0 (n := 4) (Nat.le_of_ble_eq_true rfl)) dL_law_220 ⟨by show _ ≤ 600000; omega, by show _ ≤ 7302250; omega⟩) (fun r2 S3 H2 hP2 hw => ?_)
  obtain ⟨rfl, hR⟩ := hw
  have hP := gP_swap hP2
  refine lv_icmp_eq (tgt := 542) hx hb dL_law_223 (by decide) (fun _ => ?_) (fun hn => absurd rfl hn)
  exact kk _ _ _ 0 0 (by decide) (by decide) hR hP
set_option maxHeartbeats 4000000 in
set_option maxRecDepth 100000 in
theorem law_result {RR : Nat → Nat → Sg → Sg → Prop} (hz : ∀ {x m : Nat} (S S2 : Sg) (n : Nat), RR x m S S2 → RR x m (rz S n) S2) (hp : PL_result RR) {p : Program} {l : Launch} {e : Env} {s : State} {m : MethodId} {below : List Frame} {meth : Method} {c : Code} {D : va_G} {cy : Nat → ClassId} {b L : Nat} {xs : Nat → Int32} {nm : String} {Q : State → Prop} (C : gC p s m #[Value.ref b] meth c D cy cL_law 4 RL (some .boolean) nm) (hX : va_X b L xs s s.heap) (hbl : b < s.heap.size) (hbA : ¬ (fun q => s.heap.size ≤ q) b) {i : Int32} (h1 : vp_in (i + 1) L) (h2 : vp_in (i + 2) L) (h3 : vp_in (i + 3) L) (h4 : vp_in (i + 4) L) {x y : Nat} {S S2 : Sg} {H : Heap} {kc ks : Nat} {ls : Array Slot} (hl : lv_has ls 4 [(0, .ref b), (1, va_rf (some x)), (2, va_rf (some y)), (3, .int i)]) (hkc : kc + 4001 ≤ 600000 ∧ ks + 70009 ≤ 7302250) (ht : tg S x = 11 ∧ tg S2 y = 12) (hR : RR x y S S2) (hP : gP D cy s.heap S S2 H)
    (kk : ∀ (S S2 : Sg) (H : Heap) (dc ds : Nat), dc ≤ 4001 → ds ≤ 70009 → RR x y S S2 → gP D cy s.heap S S2 H → W p l e room_1 s m #[Value.ref b] below meth c H [] (kc + dc + 0) (ks + ds + 0) Q (F0 m 542 ls [])) : W p l e room_1 s m #[Value.ref b] below meth c H [] kc ks Q (F0 m 228 ls []) := by
  have hx := C.1
  have hb := C.2.1
  have hp := @hp x y
  refine gx_aload_n hx hb dL_law_228 rfl (lv_at hl 1 rfl) ?_
  have hw := hp (rz S H.size) S2 (hz S S2 H.size hR) (gP_lt hP)
  refine gl_cl C hP (gx_rV C (gP_W hP) ML_32 (mX10_result l D cy _ _ _ ht.1 hw) rfl rfl ⟨Nat.le_of_ble_eq_true rfl, Nat.le_of_ble_eq_true rfl⟩ rfl ht.1 (by decide) rfl rfl hl.1 rfl (gx_room0 (n := 4) (Nat.le_of_ble_eq_true rfl)) dL_law_229 ⟨by show _ ≤ 600000; omega, by show _ ≤ 7302250; omega⟩) (fun r S1 H1 hP1 hw => ?_)
  have hP := gP_swap hP1
  have hw := hw H1.size (gP_tl hP)
  refine gx_aload_n hx hb dL_law_232 rfl (lv_at hl 2 rfl) ?_
  refine gl_cl C hP (gx_rV C (gP_W hP) ML_36 (mX11_result l D cy _ _ _ ht.2 hw) rfl rfl ⟨Nat.le_of_ble_eq_true rfl, Nat.le_of_ble_eq_true rfl⟩ rfl ht.2 (by decide) rfl rfl hl.1 rfl (gx_room0 (n := 4) (Nat.le_of_ble_eq_true rfl)) dL_law_233 ⟨by show _ ≤ 600000; omega, by show _ ≤ 7302250; omega⟩) (fun r2 S3 H2 hP2 hw => ?_)
  obtain ⟨rfl, hR⟩ := hw
  have hP := gP_swap hP2
  refine W.lcmp hx hb dL_law_236 ?_
  refine lv_if_eq (tgt := 542) hx hb dL_law_237 (by decide) (fun _ => ?_) (fun hn => absurd (lg_self _) hn)
  exact kk _ _ _ 0 0 (by decide) (by decide) hR hP
set_option maxHeartbeats 4000000 in
set_option maxRecDepth 100000 in
theorem law_kind {RR : Nat → Nat → Sg → Sg → Prop} (hz : ∀ {x m : Nat} (S S2 : Sg) (n : Nat), RR x m S S2 → RR x m (rz S n) S2) (hp : PL_kind RR) {p : Program} {l : Launch} {e : Env} {s : State} {m : MethodId} {below : List Frame} {meth : Method} {c : Code} {D : va_G} {cy : Nat → ClassId} {b L : Nat} {xs : Nat → Int32} {nm : String} {Q : State → Prop} (C : gC p s m #[Value.ref b] meth c D cy cL_law 4 RL (some .boolean) nm) (hX : va_X b L xs s s.heap) (hbl : b < s.heap.size) (hbA : ¬ (fun q => s.heap.size ≤ q) b) {i : Int32} (h1 : vp_in (i + 1) L) (h2 : vp_in (i + 2) L) (h3 : vp_in (i + 3) L) (h4 : vp_in (i + 4) L) {x y : Nat} {S S2 : Sg} {H : Heap} {kc ks : Nat} {ls : Array Slot} (hl : lv_has ls 4 [(0, .ref b), (1, va_rf (some x)), (2, va_rf (some y)), (3, .int i)]) (hkc : kc + 4001 ≤ 600000 ∧ ks + 70009 ≤ 7302250) (ht : tg S x = 11 ∧ tg S2 y = 12) (hR : RR x y S S2) (hP : gP D cy s.heap S S2 H)
    (kk : ∀ (S S2 : Sg) (H : Heap) (dc ds : Nat), dc ≤ 4001 → ds ≤ 70009 → RR x y S S2 → gP D cy s.heap S S2 H → W p l e room_1 s m #[Value.ref b] below meth c H [] (kc + dc + 0) (ks + ds + 0) Q (F0 m 542 ls [])) : W p l e room_1 s m #[Value.ref b] below meth c H [] kc ks Q (F0 m 242 ls []) := by
  have hx := C.1
  have hb := C.2.1
  have hp := @hp x y
  refine gx_aload_n hx hb dL_law_242 rfl (lv_at hl 1 rfl) ?_
  have hw := hp (rz S H.size) S2 (hz S S2 H.size hR) (gP_lt hP)
  refine gl_ci C hP (gx_rV C (gP_W hP) ML_37 (mX10_kind l D cy _ _ _ ht.1 hw) rfl rfl ⟨Nat.le_of_ble_eq_true rfl, Nat.le_of_ble_eq_true rfl⟩ rfl ht.1 (by decide) rfl rfl hl.1 rfl (gx_room0 (n := 4) (Nat.le_of_ble_eq_true rfl)) dL_law_243 ⟨by show _ ≤ 600000; omega, by show _ ≤ 7302250; omega⟩) (fun r S1 H1 hP1 hw => ?_)
  have hP := gP_swap hP1
  have hw := hw H1.size (gP_tl hP)
  refine gx_aload_n hx hb dL_law_246 rfl (lv_at hl 2 rfl) ?_
  refine gl_ci C hP (gx_rV C (gP_W hP) ML_40 (mX11_kind l D cy _ _ _ ht.2 hw) rfl rfl ⟨Nat.le_of_ble_eq_true rfl, Nat.le_of_ble_eq_true rfl⟩ rfl ht.2 (by decide) rfl rfl hl.1 rfl (gx_room0 (n := 4) (Nat.le_of_ble_eq_true rfl)) dL_law_247 ⟨by show _ ≤ 600000; omega, by show _ ≤ 7302250; omega⟩) (fun r2 S3 H2 hP2 hw => ?_)
  obtain ⟨rfl, hR⟩ := hw
  have hP := gP_swap hP2
  refine lv_icmp_eq (tgt := 542) hx hb dL_law_250 (by decide) (fun _ => ?_) (fun hn => absurd rfl hn)
  exact kk _ _ _ 0 0 (by decide) (by decide) hR hP
set_option maxHeartbeats 4000000 in
set_option maxRecDepth 100000 in
theorem law_cause {RR : Nat → Nat → Sg → Sg → Prop} (hz : ∀ {x m : Nat} (S S2 : Sg) (n : Nat), RR x m S S2 → RR x m (rz S n) S2) (hp : PL_cause RR) {p : Program} {l : Launch} {e : Env} {s : State} {m : MethodId} {below : List Frame} {meth : Method} {c : Code} {D : va_G} {cy : Nat → ClassId} {b L : Nat} {xs : Nat → Int32} {nm : String} {Q : State → Prop} (C : gC p s m #[Value.ref b] meth c D cy cL_law 4 RL (some .boolean) nm) (hX : va_X b L xs s s.heap) (hbl : b < s.heap.size) (hbA : ¬ (fun q => s.heap.size ≤ q) b) {i : Int32} (h1 : vp_in (i + 1) L) (h2 : vp_in (i + 2) L) (h3 : vp_in (i + 3) L) (h4 : vp_in (i + 4) L) {x y : Nat} {S S2 : Sg} {H : Heap} {kc ks : Nat} {ls : Array Slot} (hl : lv_has ls 4 [(0, .ref b), (1, va_rf (some x)), (2, va_rf (some y)), (3, .int i)]) (hkc : kc + 4001 ≤ 600000 ∧ ks + 70009 ≤ 7302250) (ht : tg S x = 11 ∧ tg S2 y = 12) (hR : RR x y S S2) (hP : gP D cy s.heap S S2 H)
    (kk : ∀ (S S2 : Sg) (H : Heap) (dc ds : Nat), dc ≤ 4001 → ds ≤ 70009 → RR x y S S2 → gP D cy s.heap S S2 H → W p l e room_1 s m #[Value.ref b] below meth c H [] (kc + dc + 0) (ks + ds + 0) Q (F0 m 542 ls [])) : W p l e room_1 s m #[Value.ref b] below meth c H [] kc ks Q (F0 m 255 ls []) := by
  have hx := C.1
  have hb := C.2.1
  have hp := @hp x y
  refine gx_aload_n hx hb dL_law_255 rfl (lv_at hl 1 rfl) ?_
  refine lv_aload_n hx hb dL_law_256 rfl (lv_at hl 0 rfl) ?_
  refine lv_iload_n hx hb dL_law_257 rfl (lv_at hl 3 rfl) ?_
  refine lv_iconst (v := 1) hx hb dL_law_258 (by decide) ?_
  refine lv_iadd hx hb dL_law_259 ?_
  refine va_sld hx hb hX hbl hbA hP.2.2.2.2.2 h1 dL_law_260 ?_
  have hw := hp (xs (i + 1).toNatClampNeg) (rz S H.size) S2 (hz S S2 H.size hR) (gP_lt hP)
  refine gl_ci C hP (gx_rV C (gP_W hP) ML_41 (mX10_cause l D cy _ _ _ _ ht.1 hw) rfl rfl ⟨Nat.le_of_ble_eq_true rfl, Nat.le_of_ble_eq_true rfl⟩ rfl ht.1 (by decide) rfl rfl hl.1 rfl (gx_room0 (n := 4) (Nat.le_of_ble_eq_true rfl)) dL_law_261 ⟨by show _ ≤ 600000; omega, by show _ ≤ 7302250; omega⟩) (fun r S1 H1 hP1 hw => ?_)
  have hP := gP_swap hP1
  have hw := hw H1.size (gP_tl hP)
  refine gx_aload_n hx hb dL_law_264 rfl (lv_at hl 2 rfl) ?_
  refine lv_aload_n hx hb dL_law_265 rfl (lv_at hl 0 rfl) ?_
  refine lv_iload_n hx hb dL_law_266 rfl (lv_at hl 3 rfl) ?_
  refine lv_iconst (v := 1) hx hb dL_law_267 (by decide) ?_
  refine lv_iadd hx hb dL_law_268 ?_
  refine va_sld hx hb hX hbl hbA hP.2.2.2.2.2 h1 dL_law_269 ?_
  refine gl_ci C hP (gx_rV C (gP_W hP) ML_45 (mX11_cause l D cy _ _ _ _ ht.2 hw) rfl rfl ⟨Nat.le_of_ble_eq_true rfl, Nat.le_of_ble_eq_true rfl⟩ rfl ht.2 (by decide) rfl rfl hl.1 rfl (gx_room0 (n := 4) (Nat.le_of_ble_eq_true rfl)) dL_law_270 ⟨by show _ ≤ 600000; omega, by show _ ≤ 7302250; omega⟩) (fun r2 S3 H2 hP2 hw => ?_)
  obtain ⟨rfl, hR⟩ := hw
  have hP := gP_swap hP2
  refine lv_icmp_eq (tgt := 542) hx hb dL_law_273 (by decide) (fun _ => ?_) (fun hn => absurd rfl hn)
  exact kk _ _ _ 0 0 (by decide) (by decide) hR hP
set_option maxHeartbeats 4000000 in
set_option maxRecDepth 100000 in
theorem law_out {RR : Nat → Nat → Sg → Sg → Prop} (hz : ∀ {x m : Nat} (S S2 : Sg) (n : Nat), RR x m S S2 → RR x m (rz S n) S2) (hp : PL_out RR) {p : Program} {l : Launch} {e : Env} {s : State} {m : MethodId} {below : List Frame} {meth : Method} {c : Code} {D : va_G} {cy : Nat → ClassId} {b L : Nat} {xs : Nat → Int32} {nm : String} {Q : State → Prop} (C : gC p s m #[Value.ref b] meth c D cy cL_law 4 RL (some .boolean) nm) (hX : va_X b L xs s s.heap) (hbl : b < s.heap.size) (hbA : ¬ (fun q => s.heap.size ≤ q) b) {i : Int32} (h1 : vp_in (i + 1) L) (h2 : vp_in (i + 2) L) (h3 : vp_in (i + 3) L) (h4 : vp_in (i + 4) L) {x y : Nat} {S S2 : Sg} {H : Heap} {kc ks : Nat} {ls : Array Slot} (hl : lv_has ls 4 [(0, .ref b), (1, va_rf (some x)), (2, va_rf (some y)), (3, .int i)]) (hkc : kc + 4001 ≤ 600000 ∧ ks + 70009 ≤ 7302250) (ht : tg S x = 11 ∧ tg S2 y = 12) (hR : RR x y S S2) (hP : gP D cy s.heap S S2 H)
    (kk : ∀ (S S2 : Sg) (H : Heap) (dc ds : Nat), dc ≤ 4001 → ds ≤ 70009 → RR x y S S2 → gP D cy s.heap S S2 H → W p l e room_1 s m #[Value.ref b] below meth c H [] (kc + dc + 0) (ks + ds + 0) Q (F0 m 542 ls [])) : W p l e room_1 s m #[Value.ref b] below meth c H [] kc ks Q (F0 m 278 ls []) := by
  have hx := C.1
  have hb := C.2.1
  have hp := @hp x y
  refine gx_aload_n hx hb dL_law_278 rfl (lv_at hl 1 rfl) ?_
  refine lv_aload_n hx hb dL_law_279 rfl (lv_at hl 0 rfl) ?_
  refine lv_iload_n hx hb dL_law_280 rfl (lv_at hl 3 rfl) ?_
  refine lv_iconst (v := 1) hx hb dL_law_281 (by decide) ?_
  refine lv_iadd hx hb dL_law_282 ?_
  refine va_sld hx hb hX hbl hbA hP.2.2.2.2.2 h1 dL_law_283 ?_
  have hw := hp (xs (i + 1).toNatClampNeg) (rz S H.size) S2 (hz S S2 H.size hR) (gP_lt hP)
  refine gl_cl C hP (gx_rV C (gP_W hP) ML_46 (mX10_out l D cy _ _ _ _ ht.1 hw) rfl rfl ⟨Nat.le_of_ble_eq_true rfl, Nat.le_of_ble_eq_true rfl⟩ rfl ht.1 (by decide) rfl rfl hl.1 rfl (gx_room0 (n := 4) (Nat.le_of_ble_eq_true rfl)) dL_law_284 ⟨by show _ ≤ 600000; omega, by show _ ≤ 7302250; omega⟩) (fun r S1 H1 hP1 hw => ?_)
  have hP := gP_swap hP1
  have hw := hw H1.size (gP_tl hP)
  refine gx_aload_n hx hb dL_law_287 rfl (lv_at hl 2 rfl) ?_
  refine lv_aload_n hx hb dL_law_288 rfl (lv_at hl 0 rfl) ?_
  refine lv_iload_n hx hb dL_law_289 rfl (lv_at hl 3 rfl) ?_
  refine lv_iconst (v := 1) hx hb dL_law_290 (by decide) ?_
  refine lv_iadd hx hb dL_law_291 ?_
  refine va_sld hx hb hX hbl hbA hP.2.2.2.2.2 h1 dL_law_292 ?_
  refine gl_cl C hP (gx_rV C (gP_W hP) ML_50 (mX11_out l D cy _ _ _ _ ht.2 hw) rfl rfl ⟨Nat.le_of_ble_eq_true rfl, Nat.le_of_ble_eq_true rfl⟩ rfl ht.2 (by decide) rfl rfl hl.1 rfl (gx_room0 (n := 4) (Nat.le_of_ble_eq_true rfl)) dL_law_293 ⟨by show _ ≤ 600000; omega, by show _ ≤ 7302250; omega⟩) (fun r2 S3 H2 hP2 hw => ?_)
  obtain ⟨rfl, hR⟩ := hw
  have hP := gP_swap hP2
  refine W.lcmp hx hb dL_law_296 ?_
  refine lv_if_eq (tgt := 542) hx hb dL_law_297 (by decide) (fun _ => ?_) (fun hn => absurd (lg_self _) hn)
  exact kk _ _ _ 0 0 (by decide) (by decide) hR hP
set_option maxHeartbeats 4000000 in
set_option maxRecDepth 100000 in
theorem law_finished {RR : Nat → Nat → Sg → Sg → Prop} (hz : ∀ {x m : Nat} (S S2 : Sg) (n : Nat), RR x m S S2 → RR x m (rz S n) S2) (hp : PL_finished RR) {p : Program} {l : Launch} {e : Env} {s : State} {m : MethodId} {below : List Frame} {meth : Method} {c : Code} {D : va_G} {cy : Nat → ClassId} {b L : Nat} {xs : Nat → Int32} {nm : String} {Q : State → Prop} (C : gC p s m #[Value.ref b] meth c D cy cL_law 4 RL (some .boolean) nm) (hX : va_X b L xs s s.heap) (hbl : b < s.heap.size) (hbA : ¬ (fun q => s.heap.size ≤ q) b) {i : Int32} (h1 : vp_in (i + 1) L) (h2 : vp_in (i + 2) L) (h3 : vp_in (i + 3) L) (h4 : vp_in (i + 4) L) {x y : Nat} {S S2 : Sg} {H : Heap} {kc ks : Nat} {ls : Array Slot} (hl : lv_has ls 4 [(0, .ref b), (1, va_rf (some x)), (2, va_rf (some y)), (3, .int i)]) (hkc : kc + 4001 ≤ 600000 ∧ ks + 70009 ≤ 7302250) (ht : tg S x = 11 ∧ tg S2 y = 12) (hR : RR x y S S2) (hP : gP D cy s.heap S S2 H)
    (kk : ∀ (S S2 : Sg) (H : Heap) (dc ds : Nat), dc ≤ 4001 → ds ≤ 70009 → RR x y S S2 → gP D cy s.heap S S2 H → W p l e room_1 s m #[Value.ref b] below meth c H [] (kc + dc + 0) (ks + ds + 0) Q (F0 m 542 ls [])) : W p l e room_1 s m #[Value.ref b] below meth c H [] kc ks Q (F0 m 302 ls []) := by
  have hx := C.1
  have hb := C.2.1
  have hp := @hp x y
  refine gx_aload_n hx hb dL_law_302 rfl (lv_at hl 1 rfl) ?_
  refine lv_aload_n hx hb dL_law_303 rfl (lv_at hl 0 rfl) ?_
  refine lv_iload_n hx hb dL_law_304 rfl (lv_at hl 3 rfl) ?_
  refine lv_iconst (v := 1) hx hb dL_law_305 (by decide) ?_
  refine lv_iadd hx hb dL_law_306 ?_
  refine va_sld hx hb hX hbl hbA hP.2.2.2.2.2 h1 dL_law_307 ?_
  have hw := hp (xs (i + 1).toNatClampNeg) (rz S H.size) S2 (hz S S2 H.size hR) (gP_lt hP)
  refine gl_ci C hP (gx_rV C (gP_W hP) ML_51 (mX10_finished l D cy _ _ _ _ ht.1 hw) rfl rfl ⟨Nat.le_of_ble_eq_true rfl, Nat.le_of_ble_eq_true rfl⟩ rfl ht.1 (by decide) rfl rfl hl.1 rfl (gx_room0 (n := 4) (Nat.le_of_ble_eq_true rfl)) dL_law_308 ⟨by show _ ≤ 600000; omega, by show _ ≤ 7302250; omega⟩) (fun r S1 H1 hP1 hw => ?_)
  have hP := gP_swap hP1
  have hw := hw H1.size (gP_tl hP)
  refine gx_aload_n hx hb dL_law_311 rfl (lv_at hl 2 rfl) ?_
  refine lv_aload_n hx hb dL_law_312 rfl (lv_at hl 0 rfl) ?_
  refine lv_iload_n hx hb dL_law_313 rfl (lv_at hl 3 rfl) ?_
  refine lv_iconst (v := 1) hx hb dL_law_314 (by decide) ?_
  refine lv_iadd hx hb dL_law_315 ?_
  refine va_sld hx hb hX hbl hbA hP.2.2.2.2.2 h1 dL_law_316 ?_
  refine gl_ci C hP (gx_rV C (gP_W hP) ML_54 (mX11_finished l D cy _ _ _ _ ht.2 hw) rfl rfl ⟨Nat.le_of_ble_eq_true rfl, Nat.le_of_ble_eq_true rfl⟩ rfl ht.2 (by decide) rfl rfl hl.1 rfl (gx_room0 (n := 4) (Nat.le_of_ble_eq_true rfl)) dL_law_317 ⟨by show _ ≤ 600000; omega, by show _ ≤ 7302250; omega⟩) (fun r2 S3 H2 hP2 hw => ?_)
  obtain ⟨rfl, hR⟩ := hw
  have hP := gP_swap hP2
  refine lv_icmp_eq (tgt := 542) hx hb dL_law_320 (by decide) (fun _ => ?_) (fun hn => absurd rfl hn)
  exact kk _ _ _ 0 0 (by decide) (by decide) hR hP
set_option maxHeartbeats 4000000 in
set_option maxRecDepth 100000 in
theorem law_depth {RR : Nat → Nat → Sg → Sg → Prop} (hz : ∀ {x m : Nat} (S S2 : Sg) (n : Nat), RR x m S S2 → RR x m (rz S n) S2) (hp : PL_depth RR) {p : Program} {l : Launch} {e : Env} {s : State} {m : MethodId} {below : List Frame} {meth : Method} {c : Code} {D : va_G} {cy : Nat → ClassId} {b L : Nat} {xs : Nat → Int32} {nm : String} {Q : State → Prop} (C : gC p s m #[Value.ref b] meth c D cy cL_law 4 RL (some .boolean) nm) (hX : va_X b L xs s s.heap) (hbl : b < s.heap.size) (hbA : ¬ (fun q => s.heap.size ≤ q) b) {i : Int32} (h1 : vp_in (i + 1) L) (h2 : vp_in (i + 2) L) (h3 : vp_in (i + 3) L) (h4 : vp_in (i + 4) L) {x y : Nat} {S S2 : Sg} {H : Heap} {kc ks : Nat} {ls : Array Slot} (hl : lv_has ls 4 [(0, .ref b), (1, va_rf (some x)), (2, va_rf (some y)), (3, .int i)]) (hkc : kc + 4001 ≤ 600000 ∧ ks + 70009 ≤ 7302250) (ht : tg S x = 11 ∧ tg S2 y = 12) (hR : RR x y S S2) (hP : gP D cy s.heap S S2 H)
    (kk : ∀ (S S2 : Sg) (H : Heap) (dc ds : Nat), dc ≤ 4001 → ds ≤ 70009 → RR x y S S2 → gP D cy s.heap S S2 H → W p l e room_1 s m #[Value.ref b] below meth c H [] (kc + dc + 0) (ks + ds + 0) Q (F0 m 542 ls [])) : W p l e room_1 s m #[Value.ref b] below meth c H [] kc ks Q (F0 m 325 ls []) := by
  have hx := C.1
  have hb := C.2.1
  have hp := @hp x y
  refine gx_aload_n hx hb dL_law_325 rfl (lv_at hl 1 rfl) ?_
  have hw := hp (rz S H.size) S2 (hz S S2 H.size hR) (gP_lt hP)
  refine gl_ci C hP (gx_rV C (gP_W hP) ML_55 (mX10_depth l D cy _ _ _ ht.1 hw) rfl rfl ⟨Nat.le_of_ble_eq_true rfl, Nat.le_of_ble_eq_true rfl⟩ rfl ht.1 (by decide) rfl rfl hl.1 rfl (gx_room0 (n := 4) (Nat.le_of_ble_eq_true rfl)) dL_law_326 ⟨by show _ ≤ 600000; omega, by show _ ≤ 7302250; omega⟩) (fun r S1 H1 hP1 hw => ?_)
  have hP := gP_swap hP1
  have hw := hw H1.size (gP_tl hP)
  refine gx_aload_n hx hb dL_law_329 rfl (lv_at hl 2 rfl) ?_
  refine gl_ci C hP (gx_rV C (gP_W hP) ML_58 (mX11_depth l D cy _ _ _ ht.2 hw) rfl rfl ⟨Nat.le_of_ble_eq_true rfl, Nat.le_of_ble_eq_true rfl⟩ rfl ht.2 (by decide) rfl rfl hl.1 rfl (gx_room0 (n := 4) (Nat.le_of_ble_eq_true rfl)) dL_law_330 ⟨by show _ ≤ 600000; omega, by show _ ≤ 7302250; omega⟩) (fun r2 S3 H2 hP2 hw => ?_)
  obtain ⟨rfl, hR⟩ := hw
  have hP := gP_swap hP2
  refine lv_icmp_eq (tgt := 542) hx hb dL_law_333 (by decide) (fun _ => ?_) (fun hn => absurd rfl hn)
  exact kk _ _ _ 0 0 (by decide) (by decide) hR hP
set_option maxHeartbeats 4000000 in
set_option maxRecDepth 100000 in
theorem law_status {RR : Nat → Nat → Sg → Sg → Prop} (hz : ∀ {x m : Nat} (S S2 : Sg) (n : Nat), RR x m S S2 → RR x m (rz S n) S2) (hp : PL_status RR) {p : Program} {l : Launch} {e : Env} {s : State} {m : MethodId} {below : List Frame} {meth : Method} {c : Code} {D : va_G} {cy : Nat → ClassId} {b L : Nat} {xs : Nat → Int32} {nm : String} {Q : State → Prop} (C : gC p s m #[Value.ref b] meth c D cy cL_law 4 RL (some .boolean) nm) (hX : va_X b L xs s s.heap) (hbl : b < s.heap.size) (hbA : ¬ (fun q => s.heap.size ≤ q) b) {i : Int32} (h1 : vp_in (i + 1) L) (h2 : vp_in (i + 2) L) (h3 : vp_in (i + 3) L) (h4 : vp_in (i + 4) L) {x y : Nat} {S S2 : Sg} {H : Heap} {kc ks : Nat} {ls : Array Slot} (hl : lv_has ls 4 [(0, .ref b), (1, va_rf (some x)), (2, va_rf (some y)), (3, .int i)]) (hkc : kc + 4001 ≤ 600000 ∧ ks + 70009 ≤ 7302250) (ht : tg S x = 11 ∧ tg S2 y = 12) (hR : RR x y S S2) (hP : gP D cy s.heap S S2 H)
    (kk : ∀ (S S2 : Sg) (H : Heap) (dc ds : Nat), dc ≤ 4001 → ds ≤ 70009 → RR x y S S2 → gP D cy s.heap S S2 H → W p l e room_1 s m #[Value.ref b] below meth c H [] (kc + dc + 0) (ks + ds + 0) Q (F0 m 542 ls [])) : W p l e room_1 s m #[Value.ref b] below meth c H [] kc ks Q (F0 m 338 ls []) := by
  have hx := C.1
  have hb := C.2.1
  have hp := @hp x y
  refine gx_aload_n hx hb dL_law_338 rfl (lv_at hl 1 rfl) ?_
  refine lv_aload_n hx hb dL_law_339 rfl (lv_at hl 0 rfl) ?_
  refine lv_iload_n hx hb dL_law_340 rfl (lv_at hl 3 rfl) ?_
  refine lv_iconst (v := 1) hx hb dL_law_341 (by decide) ?_
  refine lv_iadd hx hb dL_law_342 ?_
  refine va_sld hx hb hX hbl hbA hP.2.2.2.2.2 h1 dL_law_343 ?_
  have hw := hp (xs (i + 1).toNatClampNeg) (rz S H.size) S2 (hz S S2 H.size hR) (gP_lt hP)
  refine gl_ci C hP (gx_rV C (gP_W hP) ML_59 (mX10_status l D cy _ _ _ _ ht.1 hw) rfl rfl ⟨Nat.le_of_ble_eq_true rfl, Nat.le_of_ble_eq_true rfl⟩ rfl ht.1 (by decide) rfl rfl hl.1 rfl (gx_room0 (n := 4) (Nat.le_of_ble_eq_true rfl)) dL_law_344 ⟨by show _ ≤ 600000; omega, by show _ ≤ 7302250; omega⟩) (fun r S1 H1 hP1 hw => ?_)
  have hP := gP_swap hP1
  have hw := hw H1.size (gP_tl hP)
  refine gx_aload_n hx hb dL_law_347 rfl (lv_at hl 2 rfl) ?_
  refine lv_aload_n hx hb dL_law_348 rfl (lv_at hl 0 rfl) ?_
  refine lv_iload_n hx hb dL_law_349 rfl (lv_at hl 3 rfl) ?_
  refine lv_iconst (v := 1) hx hb dL_law_350 (by decide) ?_
  refine lv_iadd hx hb dL_law_351 ?_
  refine va_sld hx hb hX hbl hbA hP.2.2.2.2.2 h1 dL_law_352 ?_
  refine gl_ci C hP (gx_rV C (gP_W hP) ML_62 (mX11_status l D cy _ _ _ _ ht.2 hw) rfl rfl ⟨Nat.le_of_ble_eq_true rfl, Nat.le_of_ble_eq_true rfl⟩ rfl ht.2 (by decide) rfl rfl hl.1 rfl (gx_room0 (n := 4) (Nat.le_of_ble_eq_true rfl)) dL_law_353 ⟨by show _ ≤ 600000; omega, by show _ ≤ 7302250; omega⟩) (fun r2 S3 H2 hP2 hw => ?_)
  obtain ⟨rfl, hR⟩ := hw
  have hP := gP_swap hP2
  refine lv_icmp_eq (tgt := 542) hx hb dL_law_356 (by decide) (fun _ => ?_) (fun hn => absurd rfl hn)
  exact kk _ _ _ 0 0 (by decide) (by decide) hR hP
set_option maxHeartbeats 4000000 in
set_option maxRecDepth 100000 in
theorem law_number {RR : Nat → Nat → Sg → Sg → Prop} (hz : ∀ {x m : Nat} (S S2 : Sg) (n : Nat), RR x m S S2 → RR x m (rz S n) S2) (hp : PL_number RR) {p : Program} {l : Launch} {e : Env} {s : State} {m : MethodId} {below : List Frame} {meth : Method} {c : Code} {D : va_G} {cy : Nat → ClassId} {b L : Nat} {xs : Nat → Int32} {nm : String} {Q : State → Prop} (C : gC p s m #[Value.ref b] meth c D cy cL_law 4 RL (some .boolean) nm) (hX : va_X b L xs s s.heap) (hbl : b < s.heap.size) (hbA : ¬ (fun q => s.heap.size ≤ q) b) {i : Int32} (h1 : vp_in (i + 1) L) (h2 : vp_in (i + 2) L) (h3 : vp_in (i + 3) L) (h4 : vp_in (i + 4) L) {x y : Nat} {S S2 : Sg} {H : Heap} {kc ks : Nat} {ls : Array Slot} (hl : lv_has ls 4 [(0, .ref b), (1, va_rf (some x)), (2, va_rf (some y)), (3, .int i)]) (hkc : kc + 4001 ≤ 600000 ∧ ks + 70009 ≤ 7302250) (ht : tg S x = 11 ∧ tg S2 y = 12) (hR : RR x y S S2) (hP : gP D cy s.heap S S2 H)
    (kk : ∀ (S S2 : Sg) (H : Heap) (dc ds : Nat), dc ≤ 4001 → ds ≤ 70009 → RR x y S S2 → gP D cy s.heap S S2 H → W p l e room_1 s m #[Value.ref b] below meth c H [] (kc + dc + 0) (ks + ds + 0) Q (F0 m 542 ls [])) : W p l e room_1 s m #[Value.ref b] below meth c H [] kc ks Q (F0 m 361 ls []) := by
  have hx := C.1
  have hb := C.2.1
  have hp := @hp x y
  refine gx_aload_n hx hb dL_law_361 rfl (lv_at hl 1 rfl) ?_
  refine lv_aload_n hx hb dL_law_362 rfl (lv_at hl 0 rfl) ?_
  refine lv_iload_n hx hb dL_law_363 rfl (lv_at hl 3 rfl) ?_
  refine lv_iconst (v := 1) hx hb dL_law_364 (by decide) ?_
  refine lv_iadd hx hb dL_law_365 ?_
  refine va_sld hx hb hX hbl hbA hP.2.2.2.2.2 h1 dL_law_366 ?_
  have hw := hp (xs (i + 1).toNatClampNeg) (rz S H.size) S2 (hz S S2 H.size hR) (gP_lt hP)
  refine gl_cl C hP (gx_rV C (gP_W hP) ML_63 (mX10_number l D cy _ _ _ _ ht.1 hw) rfl rfl ⟨Nat.le_of_ble_eq_true rfl, Nat.le_of_ble_eq_true rfl⟩ rfl ht.1 (by decide) rfl rfl hl.1 rfl (gx_room0 (n := 4) (Nat.le_of_ble_eq_true rfl)) dL_law_367 ⟨by show _ ≤ 600000; omega, by show _ ≤ 7302250; omega⟩) (fun r S1 H1 hP1 hw => ?_)
  have hP := gP_swap hP1
  have hw := hw H1.size (gP_tl hP)
  refine gx_aload_n hx hb dL_law_370 rfl (lv_at hl 2 rfl) ?_
  refine lv_aload_n hx hb dL_law_371 rfl (lv_at hl 0 rfl) ?_
  refine lv_iload_n hx hb dL_law_372 rfl (lv_at hl 3 rfl) ?_
  refine lv_iconst (v := 1) hx hb dL_law_373 (by decide) ?_
  refine lv_iadd hx hb dL_law_374 ?_
  refine va_sld hx hb hX hbl hbA hP.2.2.2.2.2 h1 dL_law_375 ?_
  refine gl_cl C hP (gx_rV C (gP_W hP) ML_66 (mX11_number l D cy _ _ _ _ ht.2 hw) rfl rfl ⟨Nat.le_of_ble_eq_true rfl, Nat.le_of_ble_eq_true rfl⟩ rfl ht.2 (by decide) rfl rfl hl.1 rfl (gx_room0 (n := 4) (Nat.le_of_ble_eq_true rfl)) dL_law_376 ⟨by show _ ≤ 600000; omega, by show _ ≤ 7302250; omega⟩) (fun r2 S3 H2 hP2 hw => ?_)
  obtain ⟨rfl, hR⟩ := hw
  have hP := gP_swap hP2
  refine W.lcmp hx hb dL_law_379 ?_
  refine lv_if_eq (tgt := 542) hx hb dL_law_380 (by decide) (fun _ => ?_) (fun hn => absurd (lg_self _) hn)
  exact kk _ _ _ 0 0 (by decide) (by decide) hR hP
set_option maxHeartbeats 4000000 in
set_option maxRecDepth 100000 in
theorem law_hand {RR : Nat → Nat → Sg → Sg → Prop} (hz : ∀ {x m : Nat} (S S2 : Sg) (n : Nat), RR x m S S2 → RR x m (rz S n) S2) (hp : PL_hand RR) {p : Program} {l : Launch} {e : Env} {s : State} {m : MethodId} {below : List Frame} {meth : Method} {c : Code} {D : va_G} {cy : Nat → ClassId} {b L : Nat} {xs : Nat → Int32} {nm : String} {Q : State → Prop} (C : gC p s m #[Value.ref b] meth c D cy cL_law 4 RL (some .boolean) nm) (hX : va_X b L xs s s.heap) (hbl : b < s.heap.size) (hbA : ¬ (fun q => s.heap.size ≤ q) b) {i : Int32} (h1 : vp_in (i + 1) L) (h2 : vp_in (i + 2) L) (h3 : vp_in (i + 3) L) (h4 : vp_in (i + 4) L) {x y : Nat} {S S2 : Sg} {H : Heap} {kc ks : Nat} {ls : Array Slot} (hl : lv_has ls 4 [(0, .ref b), (1, va_rf (some x)), (2, va_rf (some y)), (3, .int i)]) (hkc : kc + 4001 ≤ 600000 ∧ ks + 70009 ≤ 7302250) (ht : tg S x = 11 ∧ tg S2 y = 12) (hR : RR x y S S2) (hP : gP D cy s.heap S S2 H)
    (kk : ∀ (S S2 : Sg) (H : Heap) (dc ds : Nat), dc ≤ 4001 → ds ≤ 70009 → RR x y S S2 → gP D cy s.heap S S2 H → W p l e room_1 s m #[Value.ref b] below meth c H [] (kc + dc + 0) (ks + ds + 0) Q (F0 m 542 ls [])) : W p l e room_1 s m #[Value.ref b] below meth c H [] kc ks Q (F0 m 385 ls []) := by
  have hx := C.1
  have hb := C.2.1
  have hp := @hp x y
  refine gx_aload_n hx hb dL_law_385 rfl (lv_at hl 1 rfl) ?_
  refine lv_aload_n hx hb dL_law_386 rfl (lv_at hl 0 rfl) ?_
  refine lv_iload_n hx hb dL_law_387 rfl (lv_at hl 3 rfl) ?_
  refine lv_iconst (v := 1) hx hb dL_law_388 (by decide) ?_
  refine lv_iadd hx hb dL_law_389 ?_
  refine va_sld hx hb hX hbl hbA hP.2.2.2.2.2 h1 dL_law_390 ?_
  have hw := hp (xs (i + 1).toNatClampNeg) (rz S H.size) S2 (hz S S2 H.size hR) (gP_lt hP)
  refine gl_ci C hP (gx_rV C (gP_W hP) ML_67 (mX10_hand l D cy _ _ _ _ ht.1 hw) rfl rfl ⟨Nat.le_of_ble_eq_true rfl, Nat.le_of_ble_eq_true rfl⟩ rfl ht.1 (by decide) rfl rfl hl.1 rfl (gx_room0 (n := 4) (Nat.le_of_ble_eq_true rfl)) dL_law_391 ⟨by show _ ≤ 600000; omega, by show _ ≤ 7302250; omega⟩) (fun r S1 H1 hP1 hw => ?_)
  have hP := gP_swap hP1
  have hw := hw H1.size (gP_tl hP)
  refine gx_aload_n hx hb dL_law_394 rfl (lv_at hl 2 rfl) ?_
  refine lv_aload_n hx hb dL_law_395 rfl (lv_at hl 0 rfl) ?_
  refine lv_iload_n hx hb dL_law_396 rfl (lv_at hl 3 rfl) ?_
  refine lv_iconst (v := 1) hx hb dL_law_397 (by decide) ?_
  refine lv_iadd hx hb dL_law_398 ?_
  refine va_sld hx hb hX hbl hbA hP.2.2.2.2.2 h1 dL_law_399 ?_
  refine gl_ci C hP (gx_rV C (gP_W hP) ML_70 (mX11_hand l D cy _ _ _ _ ht.2 hw) rfl rfl ⟨Nat.le_of_ble_eq_true rfl, Nat.le_of_ble_eq_true rfl⟩ rfl ht.2 (by decide) rfl rfl hl.1 rfl (gx_room0 (n := 4) (Nat.le_of_ble_eq_true rfl)) dL_law_400 ⟨by show _ ≤ 600000; omega, by show _ ≤ 7302250; omega⟩) (fun r2 S3 H2 hP2 hw => ?_)
  obtain ⟨rfl, hR⟩ := hw
  have hP := gP_swap hP2
  refine lv_icmp_eq (tgt := 542) hx hb dL_law_403 (by decide) (fun _ => ?_) (fun hn => absurd rfl hn)
  exact kk _ _ _ 0 0 (by decide) (by decide) hR hP
set_option maxHeartbeats 4000000 in
set_option maxRecDepth 100000 in
theorem law_mark {RR : Nat → Nat → Sg → Sg → Prop} (hz : ∀ {x m : Nat} (S S2 : Sg) (n : Nat), RR x m S S2 → RR x m (rz S n) S2) (hp : PL_mark RR) {p : Program} {l : Launch} {e : Env} {s : State} {m : MethodId} {below : List Frame} {meth : Method} {c : Code} {D : va_G} {cy : Nat → ClassId} {b L : Nat} {xs : Nat → Int32} {nm : String} {Q : State → Prop} (C : gC p s m #[Value.ref b] meth c D cy cL_law 4 RL (some .boolean) nm) (hX : va_X b L xs s s.heap) (hbl : b < s.heap.size) (hbA : ¬ (fun q => s.heap.size ≤ q) b) {i : Int32} (h1 : vp_in (i + 1) L) (h2 : vp_in (i + 2) L) (h3 : vp_in (i + 3) L) (h4 : vp_in (i + 4) L) {x y : Nat} {S S2 : Sg} {H : Heap} {kc ks : Nat} {ls : Array Slot} (hl : lv_has ls 4 [(0, .ref b), (1, va_rf (some x)), (2, va_rf (some y)), (3, .int i)]) (hkc : kc + 4001 ≤ 600000 ∧ ks + 70009 ≤ 7302250) (ht : tg S x = 11 ∧ tg S2 y = 12) (hR : RR x y S S2) (hP : gP D cy s.heap S S2 H)
    (kk : ∀ (S S2 : Sg) (H : Heap) (dc ds : Nat), dc ≤ 4001 → ds ≤ 70009 → RR x y S S2 → gP D cy s.heap S S2 H → W p l e room_1 s m #[Value.ref b] below meth c H [] (kc + dc + 0) (ks + ds + 0) Q (F0 m 542 ls [])) : W p l e room_1 s m #[Value.ref b] below meth c H [] kc ks Q (F0 m 408 ls []) := by
  have hx := C.1
  have hb := C.2.1
  have hp := @hp x y
  refine gx_aload_n hx hb dL_law_408 rfl (lv_at hl 1 rfl) ?_
  refine lv_aload_n hx hb dL_law_409 rfl (lv_at hl 0 rfl) ?_
  refine lv_iload_n hx hb dL_law_410 rfl (lv_at hl 3 rfl) ?_
  refine lv_iconst (v := 1) hx hb dL_law_411 (by decide) ?_
  refine lv_iadd hx hb dL_law_412 ?_
  refine va_sld hx hb hX hbl hbA hP.2.2.2.2.2 h1 dL_law_413 ?_
  have hw := hp (xs (i + 1).toNatClampNeg) (rz S H.size) S2 (hz S S2 H.size hR) (gP_lt hP)
  refine gl_cl C hP (gx_rV C (gP_W hP) ML_71 (mX10_mark l D cy _ _ _ _ ht.1 hw) rfl rfl ⟨Nat.le_of_ble_eq_true rfl, Nat.le_of_ble_eq_true rfl⟩ rfl ht.1 (by decide) rfl rfl hl.1 rfl (gx_room0 (n := 4) (Nat.le_of_ble_eq_true rfl)) dL_law_414 ⟨by show _ ≤ 600000; omega, by show _ ≤ 7302250; omega⟩) (fun r S1 H1 hP1 hw => ?_)
  have hP := gP_swap hP1
  have hw := hw H1.size (gP_tl hP)
  refine gx_aload_n hx hb dL_law_417 rfl (lv_at hl 2 rfl) ?_
  refine lv_aload_n hx hb dL_law_418 rfl (lv_at hl 0 rfl) ?_
  refine lv_iload_n hx hb dL_law_419 rfl (lv_at hl 3 rfl) ?_
  refine lv_iconst (v := 1) hx hb dL_law_420 (by decide) ?_
  refine lv_iadd hx hb dL_law_421 ?_
  refine va_sld hx hb hX hbl hbA hP.2.2.2.2.2 h1 dL_law_422 ?_
  refine gl_cl C hP (gx_rV C (gP_W hP) ML_74 (mX11_mark l D cy _ _ _ _ ht.2 hw) rfl rfl ⟨Nat.le_of_ble_eq_true rfl, Nat.le_of_ble_eq_true rfl⟩ rfl ht.2 (by decide) rfl rfl hl.1 rfl (gx_room0 (n := 4) (Nat.le_of_ble_eq_true rfl)) dL_law_423 ⟨by show _ ≤ 600000; omega, by show _ ≤ 7302250; omega⟩) (fun r2 S3 H2 hP2 hw => ?_)
  obtain ⟨rfl, hR⟩ := hw
  have hP := gP_swap hP2
  refine W.lcmp hx hb dL_law_426 ?_
  refine lv_if_eq (tgt := 542) hx hb dL_law_427 (by decide) (fun _ => ?_) (fun hn => absurd (lg_self _) hn)
  exact kk _ _ _ 0 0 (by decide) (by decide) hR hP
set_option maxHeartbeats 4000000 in
set_option maxRecDepth 100000 in
theorem law_size {RR : Nat → Nat → Sg → Sg → Prop} (hz : ∀ {x m : Nat} (S S2 : Sg) (n : Nat), RR x m S S2 → RR x m (rz S n) S2) (hp : PL_size RR) {p : Program} {l : Launch} {e : Env} {s : State} {m : MethodId} {below : List Frame} {meth : Method} {c : Code} {D : va_G} {cy : Nat → ClassId} {b L : Nat} {xs : Nat → Int32} {nm : String} {Q : State → Prop} (C : gC p s m #[Value.ref b] meth c D cy cL_law 4 RL (some .boolean) nm) (hX : va_X b L xs s s.heap) (hbl : b < s.heap.size) (hbA : ¬ (fun q => s.heap.size ≤ q) b) {i : Int32} (h1 : vp_in (i + 1) L) (h2 : vp_in (i + 2) L) (h3 : vp_in (i + 3) L) (h4 : vp_in (i + 4) L) {x y : Nat} {S S2 : Sg} {H : Heap} {kc ks : Nat} {ls : Array Slot} (hl : lv_has ls 4 [(0, .ref b), (1, va_rf (some x)), (2, va_rf (some y)), (3, .int i)]) (hkc : kc + 4001 ≤ 600000 ∧ ks + 70009 ≤ 7302250) (ht : tg S x = 11 ∧ tg S2 y = 12) (hR : RR x y S S2) (hP : gP D cy s.heap S S2 H)
    (kk : ∀ (S S2 : Sg) (H : Heap) (dc ds : Nat), dc ≤ 4001 → ds ≤ 70009 → RR x y S S2 → gP D cy s.heap S S2 H → W p l e room_1 s m #[Value.ref b] below meth c H [] (kc + dc + 0) (ks + ds + 0) Q (F0 m 542 ls [])) : W p l e room_1 s m #[Value.ref b] below meth c H [] kc ks Q (F0 m 432 ls []) := by
  have hx := C.1
  have hb := C.2.1
  have hp := @hp x y
  refine gx_aload_n hx hb dL_law_432 rfl (lv_at hl 1 rfl) ?_
  refine lv_aload_n hx hb dL_law_433 rfl (lv_at hl 0 rfl) ?_
  refine lv_iload_n hx hb dL_law_434 rfl (lv_at hl 3 rfl) ?_
  refine lv_iconst (v := 1) hx hb dL_law_435 (by decide) ?_
  refine lv_iadd hx hb dL_law_436 ?_
  refine va_sld hx hb hX hbl hbA hP.2.2.2.2.2 h1 dL_law_437 ?_
  refine lv_aload_n hx hb dL_law_438 rfl (lv_at hl 0 rfl) ?_
  refine lv_iload_n hx hb dL_law_439 rfl (lv_at hl 3 rfl) ?_
  refine lv_iconst (v := 2) hx hb dL_law_440 (by decide) ?_
  refine lv_iadd hx hb dL_law_441 ?_
  refine va_sld hx hb hX hbl hbA hP.2.2.2.2.2 h2 dL_law_442 ?_
  have hw := hp (xs (i + 1).toNatClampNeg) (xs (i + 2).toNatClampNeg) (rz S H.size) S2 (hz S S2 H.size hR) (gP_lt hP)
  refine gl_ci C hP (gx_rV C (gP_W hP) ML_75 (mX10_size l D cy _ _ _ _ _ ht.1 hw) rfl rfl ⟨Nat.le_of_ble_eq_true rfl, Nat.le_of_ble_eq_true rfl⟩ rfl ht.1 (by decide) rfl rfl hl.1 rfl (gx_room0 (n := 4) (Nat.le_of_ble_eq_true rfl)) dL_law_443 ⟨by show _ ≤ 600000; omega, by show _ ≤ 7302250; omega⟩) (fun r S1 H1 hP1 hw => ?_)
  have hP := gP_swap hP1
  have hw := hw H1.size (gP_tl hP)
  refine gx_aload_n hx hb dL_law_446 rfl (lv_at hl 2 rfl) ?_
  refine lv_aload_n hx hb dL_law_447 rfl (lv_at hl 0 rfl) ?_
  refine lv_iload_n hx hb dL_law_448 rfl (lv_at hl 3 rfl) ?_
  refine lv_iconst (v := 1) hx hb dL_law_449 (by decide) ?_
  refine lv_iadd hx hb dL_law_450 ?_
  refine va_sld hx hb hX hbl hbA hP.2.2.2.2.2 h1 dL_law_451 ?_
  refine lv_aload_n hx hb dL_law_452 rfl (lv_at hl 0 rfl) ?_
  refine lv_iload_n hx hb dL_law_453 rfl (lv_at hl 3 rfl) ?_
  refine lv_iconst (v := 2) hx hb dL_law_454 (by decide) ?_
  refine lv_iadd hx hb dL_law_455 ?_
  refine va_sld hx hb hX hbl hbA hP.2.2.2.2.2 h2 dL_law_456 ?_
  refine gl_ci C hP (gx_rV C (gP_W hP) ML_78 (mX11_size l D cy _ _ _ _ _ ht.2 hw) rfl rfl ⟨Nat.le_of_ble_eq_true rfl, Nat.le_of_ble_eq_true rfl⟩ rfl ht.2 (by decide) rfl rfl hl.1 rfl (gx_room0 (n := 4) (Nat.le_of_ble_eq_true rfl)) dL_law_457 ⟨by show _ ≤ 600000; omega, by show _ ≤ 7302250; omega⟩) (fun r2 S3 H2 hP2 hw => ?_)
  obtain ⟨rfl, hR⟩ := hw
  have hP := gP_swap hP2
  refine lv_icmp_eq (tgt := 542) hx hb dL_law_460 (by decide) (fun _ => ?_) (fun hn => absurd rfl hn)
  exact kk _ _ _ 0 0 (by decide) (by decide) hR hP
set_option maxHeartbeats 4000000 in
set_option maxRecDepth 100000 in
theorem law_value {RR : Nat → Nat → Sg → Sg → Prop} (hz : ∀ {x m : Nat} (S S2 : Sg) (n : Nat), RR x m S S2 → RR x m (rz S n) S2) (hp : PL_value RR) {p : Program} {l : Launch} {e : Env} {s : State} {m : MethodId} {below : List Frame} {meth : Method} {c : Code} {D : va_G} {cy : Nat → ClassId} {b L : Nat} {xs : Nat → Int32} {nm : String} {Q : State → Prop} (C : gC p s m #[Value.ref b] meth c D cy cL_law 4 RL (some .boolean) nm) (hX : va_X b L xs s s.heap) (hbl : b < s.heap.size) (hbA : ¬ (fun q => s.heap.size ≤ q) b) {i : Int32} (h1 : vp_in (i + 1) L) (h2 : vp_in (i + 2) L) (h3 : vp_in (i + 3) L) (h4 : vp_in (i + 4) L) {x y : Nat} {S S2 : Sg} {H : Heap} {kc ks : Nat} {ls : Array Slot} (hl : lv_has ls 4 [(0, .ref b), (1, va_rf (some x)), (2, va_rf (some y)), (3, .int i)]) (hkc : kc + 4001 ≤ 600000 ∧ ks + 70009 ≤ 7302250) (ht : tg S x = 11 ∧ tg S2 y = 12) (hR : RR x y S S2) (hP : gP D cy s.heap S S2 H)
    (kk : ∀ (S S2 : Sg) (H : Heap) (dc ds : Nat), dc ≤ 4001 → ds ≤ 70009 → RR x y S S2 → gP D cy s.heap S S2 H → W p l e room_1 s m #[Value.ref b] below meth c H [] (kc + dc + 0) (ks + ds + 0) Q (F0 m 542 ls [])) : W p l e room_1 s m #[Value.ref b] below meth c H [] kc ks Q (F0 m 465 ls []) := by
  have hx := C.1
  have hb := C.2.1
  have hp := @hp x y
  refine gx_aload_n hx hb dL_law_465 rfl (lv_at hl 1 rfl) ?_
  refine lv_aload_n hx hb dL_law_466 rfl (lv_at hl 0 rfl) ?_
  refine lv_iload_n hx hb dL_law_467 rfl (lv_at hl 3 rfl) ?_
  refine lv_iconst (v := 1) hx hb dL_law_468 (by decide) ?_
  refine lv_iadd hx hb dL_law_469 ?_
  refine va_sld hx hb hX hbl hbA hP.2.2.2.2.2 h1 dL_law_470 ?_
  refine lv_aload_n hx hb dL_law_471 rfl (lv_at hl 0 rfl) ?_
  refine lv_iload_n hx hb dL_law_472 rfl (lv_at hl 3 rfl) ?_
  refine lv_iconst (v := 2) hx hb dL_law_473 (by decide) ?_
  refine lv_iadd hx hb dL_law_474 ?_
  refine va_sld hx hb hX hbl hbA hP.2.2.2.2.2 h2 dL_law_475 ?_
  refine lv_aload_n hx hb dL_law_476 rfl (lv_at hl 0 rfl) ?_
  refine lv_iload_n hx hb dL_law_477 rfl (lv_at hl 3 rfl) ?_
  refine lv_iconst (v := 3) hx hb dL_law_478 (by decide) ?_
  refine lv_iadd hx hb dL_law_479 ?_
  refine va_sld hx hb hX hbl hbA hP.2.2.2.2.2 h3 dL_law_480 ?_
  have hw := hp (xs (i + 1).toNatClampNeg) (xs (i + 2).toNatClampNeg) (xs (i + 3).toNatClampNeg) (rz S H.size) S2 (hz S S2 H.size hR) (gP_lt hP)
  refine gl_cl C hP (gx_rV C (gP_W hP) ML_79 (mX10_value l D cy _ _ _ _ _ _ ht.1 hw) rfl rfl ⟨Nat.le_of_ble_eq_true rfl, Nat.le_of_ble_eq_true rfl⟩ rfl ht.1 (by decide) rfl rfl hl.1 rfl (gx_room0 (n := 4) (Nat.le_of_ble_eq_true rfl)) dL_law_481 ⟨by show _ ≤ 600000; omega, by show _ ≤ 7302250; omega⟩) (fun r S1 H1 hP1 hw => ?_)
  have hP := gP_swap hP1
  have hw := hw H1.size (gP_tl hP)
  refine gx_aload_n hx hb dL_law_484 rfl (lv_at hl 2 rfl) ?_
  refine lv_aload_n hx hb dL_law_485 rfl (lv_at hl 0 rfl) ?_
  refine lv_iload_n hx hb dL_law_486 rfl (lv_at hl 3 rfl) ?_
  refine lv_iconst (v := 1) hx hb dL_law_487 (by decide) ?_
  refine lv_iadd hx hb dL_law_488 ?_
  refine va_sld hx hb hX hbl hbA hP.2.2.2.2.2 h1 dL_law_489 ?_
  refine lv_aload_n hx hb dL_law_490 rfl (lv_at hl 0 rfl) ?_
  refine lv_iload_n hx hb dL_law_491 rfl (lv_at hl 3 rfl) ?_
  refine lv_iconst (v := 2) hx hb dL_law_492 (by decide) ?_
  refine lv_iadd hx hb dL_law_493 ?_
  refine va_sld hx hb hX hbl hbA hP.2.2.2.2.2 h2 dL_law_494 ?_
  refine lv_aload_n hx hb dL_law_495 rfl (lv_at hl 0 rfl) ?_
  refine lv_iload_n hx hb dL_law_496 rfl (lv_at hl 3 rfl) ?_
  refine lv_iconst (v := 3) hx hb dL_law_497 (by decide) ?_
  refine lv_iadd hx hb dL_law_498 ?_
  refine va_sld hx hb hX hbl hbA hP.2.2.2.2.2 h3 dL_law_499 ?_
  refine gl_cl C hP (gx_rV C (gP_W hP) ML_83 (mX11_value l D cy _ _ _ _ _ _ ht.2 hw) rfl rfl ⟨Nat.le_of_ble_eq_true rfl, Nat.le_of_ble_eq_true rfl⟩ rfl ht.2 (by decide) rfl rfl hl.1 rfl (gx_room0 (n := 4) (Nat.le_of_ble_eq_true rfl)) dL_law_500 ⟨by show _ ≤ 600000; omega, by show _ ≤ 7302250; omega⟩) (fun r2 S3 H2 hP2 hw => ?_)
  obtain ⟨rfl, hR⟩ := hw
  have hP := gP_swap hP2
  refine W.lcmp hx hb dL_law_503 ?_
  refine lv_if_eq (tgt := 542) hx hb dL_law_504 (by decide) (fun _ => ?_) (fun hn => absurd (lg_self _) hn)
  exact kk _ _ _ 0 0 (by decide) (by decide) hR hP
set_option maxHeartbeats 4000000 in
set_option maxRecDepth 100000 in
theorem law_grid {RR : Nat → Nat → Sg → Sg → Prop} (hz : ∀ {x m : Nat} (S S2 : Sg) (n : Nat), RR x m S S2 → RR x m (rz S n) S2) (hp : PL_grid RR) {p : Program} {l : Launch} {e : Env} {s : State} {m : MethodId} {below : List Frame} {meth : Method} {c : Code} {D : va_G} {cy : Nat → ClassId} {b L : Nat} {xs : Nat → Int32} {nm : String} {Q : State → Prop} (C : gC p s m #[Value.ref b] meth c D cy cL_law 4 RL (some .boolean) nm) (hX : va_X b L xs s s.heap) (hbl : b < s.heap.size) (hbA : ¬ (fun q => s.heap.size ≤ q) b) {i : Int32} (h1 : vp_in (i + 1) L) (h2 : vp_in (i + 2) L) (h3 : vp_in (i + 3) L) (h4 : vp_in (i + 4) L) {x y : Nat} {S S2 : Sg} {H : Heap} {kc ks : Nat} {ls : Array Slot} (hl : lv_has ls 4 [(0, .ref b), (1, va_rf (some x)), (2, va_rf (some y)), (3, .int i)]) (hkc : kc + 4001 ≤ 600000 ∧ ks + 70009 ≤ 7302250) (ht : tg S x = 11 ∧ tg S2 y = 12) (hR : RR x y S S2) (hP : gP D cy s.heap S S2 H)
    (kk : ∀ (S S2 : Sg) (H : Heap) (dc ds : Nat), dc ≤ 4001 → ds ≤ 70009 → RR x y S S2 → gP D cy s.heap S S2 H → W p l e room_1 s m #[Value.ref b] below meth c H [] (kc + dc + 0) (ks + ds + 0) Q (F0 m 542 ls [])) : W p l e room_1 s m #[Value.ref b] below meth c H [] kc ks Q (F0 m 509 ls []) := by
  have hx := C.1
  have hb := C.2.1
  have hp := @hp x y
  refine gx_aload_n hx hb dL_law_509 rfl (lv_at hl 1 rfl) ?_
  refine lv_aload_n hx hb dL_law_510 rfl (lv_at hl 0 rfl) ?_
  refine lv_iload_n hx hb dL_law_511 rfl (lv_at hl 3 rfl) ?_
  refine lv_iconst (v := 1) hx hb dL_law_512 (by decide) ?_
  refine lv_iadd hx hb dL_law_513 ?_
  refine va_sld hx hb hX hbl hbA hP.2.2.2.2.2 h1 dL_law_514 ?_
  refine lv_aload_n hx hb dL_law_515 rfl (lv_at hl 0 rfl) ?_
  refine lv_iload_n hx hb dL_law_516 rfl (lv_at hl 3 rfl) ?_
  refine lv_iconst (v := 2) hx hb dL_law_517 (by decide) ?_
  refine lv_iadd hx hb dL_law_518 ?_
  refine va_sld hx hb hX hbl hbA hP.2.2.2.2.2 h2 dL_law_519 ?_
  have hw := hp (xs (i + 1).toNatClampNeg) (xs (i + 2).toNatClampNeg) (rz S H.size) S2 (hz S S2 H.size hR) (gP_lt hP)
  refine gl_ci C hP (gx_rV C (gP_W hP) ML_84 (mX10_grid l D cy _ _ _ _ _ ht.1 hw) rfl rfl ⟨Nat.le_of_ble_eq_true rfl, Nat.le_of_ble_eq_true rfl⟩ rfl ht.1 (by decide) rfl rfl hl.1 rfl (gx_room0 (n := 4) (Nat.le_of_ble_eq_true rfl)) dL_law_520 ⟨by show _ ≤ 600000; omega, by show _ ≤ 7302250; omega⟩) (fun r S1 H1 hP1 hw => ?_)
  have hP := gP_swap hP1
  have hw := hw H1.size (gP_tl hP)
  refine gx_aload_n hx hb dL_law_523 rfl (lv_at hl 2 rfl) ?_
  refine lv_aload_n hx hb dL_law_524 rfl (lv_at hl 0 rfl) ?_
  refine lv_iload_n hx hb dL_law_525 rfl (lv_at hl 3 rfl) ?_
  refine lv_iconst (v := 1) hx hb dL_law_526 (by decide) ?_
  refine lv_iadd hx hb dL_law_527 ?_
  refine va_sld hx hb hX hbl hbA hP.2.2.2.2.2 h1 dL_law_528 ?_
  refine lv_aload_n hx hb dL_law_529 rfl (lv_at hl 0 rfl) ?_
  refine lv_iload_n hx hb dL_law_530 rfl (lv_at hl 3 rfl) ?_
  refine lv_iconst (v := 2) hx hb dL_law_531 (by decide) ?_
  refine lv_iadd hx hb dL_law_532 ?_
  refine va_sld hx hb hX hbl hbA hP.2.2.2.2.2 h2 dL_law_533 ?_
  refine gl_ci C hP (gx_rV C (gP_W hP) ML_87 (mX11_grid l D cy _ _ _ _ _ ht.2 hw) rfl rfl ⟨Nat.le_of_ble_eq_true rfl, Nat.le_of_ble_eq_true rfl⟩ rfl ht.2 (by decide) rfl rfl hl.1 rfl (gx_room0 (n := 4) (Nat.le_of_ble_eq_true rfl)) dL_law_534 ⟨by show _ ≤ 600000; omega, by show _ ≤ 7302250; omega⟩) (fun r2 S3 H2 hP2 hw => ?_)
  obtain ⟨rfl, hR⟩ := hw
  have hP := gP_swap hP2
  refine lv_icmp_eq (tgt := 542) hx hb dL_law_537 (by decide) (fun _ => ?_) (fun hn => absurd rfl hn)
  exact kk _ _ _ 0 0 (by decide) (by decide) hR hP
