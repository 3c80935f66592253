/-! TrialStair$Row.<init> -/
def wX5_init (x0 : Nat) (x1 : Int32) (S0 : Sg) (Q : Sg → Prop) : Prop := ∀ S1 : Sg, S1 = sFI S0 320 x0 x1 → (if x1 = (7 : Int32) then ∀ S11 : Sg, S11 = nw S1 14 0 → ∀ S12 : Sg, S12 = sFR S11 321 x0 (some (sz S1)) → ∀ S15 : Sg, S15 = nw S12 18 63 → ∀ S16 : Sg, S16 = sFR S15 322 x0 (some (sz S12)) → Q S16 else ∀ S4 : Sg, S4 = nw S1 14 63 → ∀ S5 : Sg, S5 = sFR S4 321 x0 (some (sz S1)) → ∀ S8 : Sg, S8 = nw S5 18 0 → ∀ S9 : Sg, S9 = sFR S8 322 x0 (some (sz S5)) → Q S9)
set_option maxHeartbeats 4000000 in
set_option maxRecDepth 100000 in
theorem mX5_init (l : Launch) (D : va_G) (cy : Nat → ClassId) (x0 : Nat) (x1 : Int32) (S0 : Sg) (Q : Sg → Prop) (t0 : tg S0 x0 = 6) (hw : wX5_init x0 x1 S0 Q) : Met l yX5_init (.code yX5_init cX5_init 2 none :: wsL_law) { frames := 1, cells := 2, slots := 63, locals := 20 } (gPc D cy [va_rf (some x0), .int x1] S0) (va_Qv Q (gB D cy S0) (gA S0)) 2 63 (gA S0) := by
  refine gx_met (by decide) (Nat.le_of_ble_eq_true rfl) ?_
  intro p e s m args below meth c ls C hW hl
  have hx := C.1
  have hb := C.2.1
  have hl : lv_has ls 2 [(0, va_rf (some x0)), (1, .int x1)] := hl
  unfold wX5_init at hw
  refine gx_aload_n hx hb dX5_init_0 rfl (lv_at hl 0 rfl) ?_
  refine gx_objInit C (List.mem_of_getElem? (i := 404) (by decide +kernel)) (List.mem_of_getElem? (i := 10) (by decide +kernel)) (List.mem_of_getElem? (i := 11) (by decide +kernel)) rfl hl.1 dX5_init_1 (Nat.le_of_ble_eq_true rfl) (Nat.le_of_ble_eq_true rfl) (Nat.le_of_ble_eq_true rfl) ?_
  refine gx_aload_n hx hb dX5_init_4 rfl (lv_at hl 0 rfl) ?_
  refine lv_iload_n hx hb dX5_init_5 rfl (lv_at hl 1 rfl) ?_
  refine gx_putI (k := 320) C hW F5_9 (Or.inr ⟨rfl, rfl, rfl⟩) rfl t0 rfl rfl rfl dX5_init_6 (fun H locs S1 eS1 hW hm => ?_)
  have hw := hw S1 eS1
  have t0 := hm _ _ t0
  refine gx_aload_n hx hb dX5_init_9 rfl (lv_at hl 0 rfl) ?_
  refine lv_iload_n hx hb dX5_init_10 rfl (lv_at hl 1 rfl) ?_
  refine lv_bipush (v := 7) hx hb dX5_init_11 (by decide) ?_
  refine lv_icmp_ne (tgt := 20) hx hb dX5_init_13 (by decide) (fun c2 => ?_) (fun c2 => ?_)
  · have hw := w_f hw c2
    refine lv_bipush (v := 63) hx hb dX5_init_20 (by decide) ?_
    refine gx_newa (at0 := .long) (k := 1) (K := 63) (N := 63) C hW (List.mem_of_getElem? (i := 38) (by decide +kernel)) (Or.inr (Or.inl ⟨rfl, rfl⟩)) (by decide) (by decide) (by decide) (by decide) (Nat.le_of_ble_eq_true rfl) (Nat.le_of_ble_eq_true rfl) dX5_init_22 (fun H S4 eS4 hW hm t3 => ?_)
    have hw := hw S4 eS4
    have t0 := hm _ _ t0
    refine gx_putR (k := 321) C hW F5_15 (Or.inr ⟨rfl, rfl, rfl⟩) rfl rfl t0 rfl dX5_init_24 (fun H locs S5 eS5 hW hm => ?_)
    have hw := hw S5 eS5
    have t0 := hm _ _ t0
    have t3 := hm _ _ t3
    refine gx_aload_n hx hb dX5_init_27 rfl (lv_at hl 0 rfl) ?_
    refine lv_iload_n hx hb dX5_init_28 rfl (lv_at hl 1 rfl) ?_
    refine lv_bipush (v := 7) hx hb dX5_init_29 (by decide) ?_
    refine lv_icmp_ne (tgt := 39) hx hb dX5_init_31 (by decide) (fun c6 => ?_) (fun c6 => ?_)
    · refine lv_iconst (v := 0) hx hb dX5_init_39 (by decide) ?_
      refine gx_newq (Cn := RX8) (k := 5) (K := 0) (N := 0) C hW (List.mem_of_getElem? (i := 407) (by decide +kernel)) (Or.inr (Or.inr ⟨rfl, rfl⟩)) (by decide) (by decide) (by decide) (by decide) (Nat.le_of_ble_eq_true rfl) (Nat.le_of_ble_eq_true rfl) dX5_init_40 (fun H S8 eS8 hW hm t7 => ?_)
      have hw := hw S8 eS8
      have t0 := hm _ _ t0
      have t3 := hm _ _ t3
      refine gx_putR (k := 322) C hW F5_21 (Or.inr ⟨rfl, rfl, rfl⟩) rfl rfl t0 rfl dX5_init_43 (fun H locs S9 eS9 hW hm => ?_)
      have hw := hw S9 eS9
      have t0 := hm _ _ t0
      have t3 := hm _ _ t3
      have t7 := hm _ _ t7
      exact gx_vret C hW (Nat.le_of_ble_eq_true rfl) (Nat.le_of_ble_eq_true rfl) hw dX5_init_46
    · exact absurd c6 c2
  · have hw := w_t hw c2
    refine lv_iconst (v := 0) hx hb dX5_init_16 (by decide) ?_
    refine lv_goto (tgt := 22) hx hb dX5_init_17 (by decide) ?_
    refine gx_newa (at0 := .long) (k := 1) (K := 0) (N := 0) C hW (List.mem_of_getElem? (i := 38) (by decide +kernel)) (Or.inr (Or.inl ⟨rfl, rfl⟩)) (by decide) (by decide) (by decide) (by decide) (Nat.le_of_ble_eq_true rfl) (Nat.le_of_ble_eq_true rfl) dX5_init_22 (fun H S11 eS11 hW hm t10 => ?_)
    have hw := hw S11 eS11
    have t0 := hm _ _ t0
    refine gx_putR (k := 321) C hW F5_15 (Or.inr ⟨rfl, rfl, rfl⟩) rfl rfl t0 rfl dX5_init_24 (fun H locs S12 eS12 hW hm => ?_)
    have hw := hw S12 eS12
    have t0 := hm _ _ t0
    have t10 := hm _ _ t10
    refine gx_aload_n hx hb dX5_init_27 rfl (lv_at hl 0 rfl) ?_
    refine lv_iload_n hx hb dX5_init_28 rfl (lv_at hl 1 rfl) ?_
    refine lv_bipush (v := 7) hx hb dX5_init_29 (by decide) ?_
    refine lv_icmp_ne (tgt := 39) hx hb dX5_init_31 (by decide) (fun c13 => ?_) (fun c13 => ?_)
    · exact absurd c2 c13
    · refine lv_bipush (v := 63) hx hb dX5_init_34 (by decide) ?_
      refine lv_goto (tgt := 40) hx hb dX5_init_36 (by decide) ?_
      refine gx_newq (Cn := RX8) (k := 5) (K := 63) (N := 63) C hW (List.mem_of_getElem? (i := 407) (by decide +kernel)) (Or.inr (Or.inr ⟨rfl, rfl⟩)) (by decide) (by decide) (by decide) (by decide) (Nat.le_of_ble_eq_true rfl) (Nat.le_of_ble_eq_true rfl) dX5_init_40 (fun H S15 eS15 hW hm t14 => ?_)
      have hw := hw S15 eS15
      have t0 := hm _ _ t0
      have t10 := hm _ _ t10
      refine gx_putR (k := 322) C hW F5_21 (Or.inr ⟨rfl, rfl, rfl⟩) rfl rfl t0 rfl dX5_init_43 (fun H locs S16 eS16 hW hm => ?_)
      have hw := hw S16 eS16
      have t0 := hm _ _ t0
      have t10 := hm _ _ t10
      have t14 := hm _ _ t14
      exact gx_vret C hW (Nat.le_of_ble_eq_true rfl) (Nat.le_of_ble_eq_true rfl) hw dX5_init_46
/-! TrialStair$Row.empty -/
def wX5_empty_b20 : Nat → (Nat) → (Int32) → Sg → (Sg → Prop) → Prop
  | 0, _, _, _, _ => False
  | fu + 1, x0, x3, S, Q => ∃ a6 : Nat, (fR S 322 x0) = some a6 ∧ tg S a6 = 18 ∧ (if (nI (ln S a6)) ≤ x3 then Q S else vp_in x3 (ln S a6) ∧ ∀ S9 : Sg, S9 = sAR S a6 (x3).toNatClampNeg none → ∀ y10 : Int32, y10 = x3 + (1) → wX5_empty_b20 fu x0 y10 S9 Q)
def wX5_empty (x0 : Nat) (x1 : Int32) (x2 : Int32) (S0 : Sg) (Q : Sg → Prop) : Prop := ∀ S1 : Sg, S1 = sFI S0 323 x0 x1 → (x2 = 0 ∨ x2 = 1) ∧ ∀ S3 : Sg, S3 = sFI S1 324 x0 x2 → wJ7_fill_d0a16 (fR S3 321 x0) (0 : Int64) S3 (fun (S5 : Sg) => ∃ fu11 : Nat, wX5_empty_b20 fu11 x0 (0 : Int32) S5 Q)
set_option maxHeartbeats 4000000 in
set_option maxRecDepth 100000 in
theorem kX5_empty_l20 {p : Program} {l : Launch} {e : Env} {s : State} {m : MethodId} {args : Array Value} {below : List Frame} {meth : Method} {c : Code} {D : va_G} {cy : Nat → ClassId} {S0 : Sg} (C : gC p s m args meth c D cy cX5_empty 4 yX5_empty.cls none yX5_empty.name) {x0 : Nat} {Q : Sg → Prop} : ∀ (fu : Nat) (x3 : Int32) (S : Sg) (H : Heap) (locs : List Loc) (ls : Array Slot) (hW : gW D cy (gA S0) (tg S0) s.heap S H locs) (t0 : tg S x0 = 6) (hl : lv_has ls 4 [(0, va_rf (some x0)), (3, .int x3)]) (hw : wX5_empty_b20 fu x0 x3 S Q), W p l e { frames := 1, cells := 0, slots := 0, locals := 24 } s m args below meth c H locs 0 0 (MQ below (va_Qv Q (gB D cy S0) (gA S0)) args s 0 0 (gA S0)) (F0 m 20 ls []) := by
  have hx := C.1
  have hb := C.2.1
  intro fu
  induction fu with
  | zero =>
    intro x3 S H locs ls hW t0 hl hw
    unfold wX5_empty_b20 at hw
    exact hw.elim
  | succ fu ih =>
    intro x3 S H locs ls hW t0 hl hw
    unfold wX5_empty_b20 at hw
    refine lv_iload_n hx hb dX5_empty_20 rfl (lv_at hl 1 rfl) ?_
    refine gx_aload_n hx hb dX5_empty_21 rfl (lv_at hl 0 rfl) ?_
    refine gx_getR C hW F5_21 (k := 322) rfl t0 rfl dX5_empty_22 ?_
    obtain ⟨a6, ha6, ta6, hw⟩ := hw
    refine gx_alen C hW ha6 (Or.inr (Or.inr (Or.inr (Or.inr (Or.inr ta6))))) dX5_empty_25 ?_
    refine lv_icmp_ge (tgt := 42) hx hb dX5_empty_26 (by decide) (fun c7 => ?_) (fun c7 => ?_)
    · have hw := w_t hw c7
      exact gx_vret C hW (Nat.le_of_ble_eq_true rfl) (Nat.le_of_ble_eq_true rfl) hw dX5_empty_42
    · have hw := w_f hw c7
      refine gx_aload_n hx hb dX5_empty_29 rfl (lv_at hl 0 rfl) ?_
      refine gx_getR C hW F5_21 (k := 322) rfl t0 rfl dX5_empty_30 ?_
      refine lv_iload_n hx hb dX5_empty_33 rfl (lv_at hl 1 rfl) ?_
      refine gx_null hx hb dX5_empty_34 ?_
      obtain ⟨i8, hw⟩ := hw
      refine gx_aastN C hW ha6 (Or.inr (Or.inr ta6)) i8 dX5_empty_35 (fun H locs S9 eS9 hW hm => ?_)
      have hw := hw S9 eS9
      have t0 := hm _ _ t0
      have ta6 := hm _ _ ta6
      obtain ⟨y10, ey10⟩ : ∃ z : Int32, z = x3 + (1) := ⟨_, rfl⟩
      have hw := hw y10 ey10
      refine lv_iinc (v := y10) (lv' := [(3, .int y10), (0, va_rf (some x0))]) hx hb dX5_empty_36 hl (k := 1) rfl (by rw [ey10]; rfl) (by decide) rfl (fun ls hl => ?_)
      refine lv_goto (tgt := 20) hx hb dX5_empty_39 (by decide) ?_
      exact ih _ _ _ _ _ hW t0 (lv_sub hl [1, 0] rfl) hw
theorem kX5_empty_b20 {p : Program} {l : Launch} {e : Env} {s : State} {m : MethodId} {args : Array Value} {below : List Frame} {meth : Method} {c : Code} {D : va_G} {cy : Nat → ClassId} {S0 : Sg} (C : gC p s m args meth c D cy cX5_empty 4 yX5_empty.cls none yX5_empty.name) {H : Heap} {locs : List Loc} {ls : Array Slot} {x0 : Nat} {x3 : Int32} {S : Sg} {Q : Sg → Prop} (fu : Nat) (hW : gW D cy (gA S0) (tg S0) s.heap S H locs) (t0 : tg S x0 = 6) (hl : lv_has ls 4 [(0, va_rf (some x0)), (3, .int x3)]) (hw : wX5_empty_b20 fu x0 x3 S Q) : W p l e { frames := 1, cells := 0, slots := 0, locals := 24 } s m args below meth c H locs 0 0 (MQ below (va_Qv Q (gB D cy S0) (gA S0)) args s 0 0 (gA S0)) (F0 m 20 ls []) := kX5_empty_l20 C fu _ _ _ _ _ hW t0 hl hw
set_option maxHeartbeats 4000000 in
set_option maxRecDepth 100000 in
theorem mX5_empty (l : Launch) (D : va_G) (cy : Nat → ClassId) (x0 : Nat) (x1 : Int32) (x2 : Int32) (S0 : Sg) (Q : Sg → Prop) (t0 : tg S0 x0 = 6) (hw : wX5_empty x0 x1 x2 S0 Q) : Met l yX5_empty (.code yX5_empty cX5_empty 4 none :: wsL_law) { frames := 1, cells := 0, slots := 0, locals := 24 } (gPc D cy [va_rf (some x0), .int x1, .int x2] S0) (va_Qv Q (gB D cy S0) (gA S0)) 0 0 (gA S0) := by
  refine gx_met (by decide) (Nat.le_of_ble_eq_true rfl) ?_
  intro p e s m args below meth c ls C hW hl
  have hx := C.1
  have hb := C.2.1
  have hl : lv_has ls 4 [(0, va_rf (some x0)), (1, .int x1), (2, .int x2)] := hl
  unfold wX5_empty at hw
  refine gx_aload_n hx hb dX5_empty_0 rfl (lv_at hl 0 rfl) ?_
  refine lv_iload_n hx hb dX5_empty_1 rfl (lv_at hl 1 rfl) ?_
  refine gx_putI (k := 323) C hW F5_25 (Or.inl rfl) rfl t0 rfl rfl rfl dX5_empty_2 (fun H locs S1 eS1 hW hm => ?_)
  have hw := hw S1 eS1
  have t0 := hm _ _ t0
  refine gx_aload_n hx hb dX5_empty_5 rfl (lv_at hl 0 rfl) ?_
  refine lv_iload_n hx hb dX5_empty_6 rfl (lv_at hl 2 rfl) ?_
  obtain ⟨z2, hw⟩ := hw
  refine gx_putI (k := 324) C hW F5_28 (Or.inl rfl) rfl t0 rfl (bz_n z2) (bz_f z2) dX5_empty_7 (fun H locs S3 eS3 hW hm => ?_)
  have hw := hw S3 eS3
  have t0 := hm _ _ t0
  refine gx_aload_n hx hb dX5_empty_10 rfl (lv_at hl 0 rfl) ?_
  refine gx_getR C hW F5_15 (k := 321) rfl t0 rfl dX5_empty_11 ?_
  refine lv_lconst (v := 0) hx hb dX5_empty_14 (by decide) ?_
  refine gx_cv (gx_rS C hW M5_32 (mJ7_fill_d0a16 l D cy _ _ _ _  hw) rfl rfl ⟨Nat.le_of_ble_eq_true rfl, Nat.le_of_ble_eq_true rfl⟩ rfl hl.1 rfl (gx_room0 (n := 4) (Nat.le_of_ble_eq_true rfl)) dX5_empty_15 ⟨Nat.le_of_ble_eq_true rfl, Nat.le_of_ble_eq_true rfl⟩) hW (fun S5 H locs hW hm hw => ?_)
  have t0 := hm _ _ t0
  refine lv_iconst (v := 0) hx hb dX5_empty_18 (by decide) ?_
  refine lv_istore_n (i := 3) (lv' := [(3, .int (0 : Int32)), (0, va_rf (some x0)), (1, .int x1), (2, .int x2)]) hx hb dX5_empty_19 rfl hl (by decide) rfl (fun ls hl => ?_)
  obtain ⟨fu11, hw⟩ := hw
  exact kX5_empty_b20 C fu11 hW t0 (lv_sub hl [1, 0] rfl) hw
/-! TrialStair$Row.has -/
def wX5_has (x0 : Nat) (x1 : Int32) (S0 : Sg) (Q : Int32 → Sg → Prop) : Prop := (if x1 < 0 then Q (0 : Int32) S0 else (if (fI S0 323 x0) ≤ x1 then Q (0 : Int32) S0 else Q (1 : Int32) S0))
set_option maxHeartbeats 4000000 in
set_option maxRecDepth 100000 in
theorem mX5_has (l : Launch) (D : va_G) (cy : Nat → ClassId) (x0 : Nat) (x1 : Int32) (S0 : Sg) (Q : Int32 → Sg → Prop) (t0 : tg S0 x0 = 6) (hw : wX5_has x0 x1 S0 Q) : Met l yX5_has (.code yX5_has cX5_has 2 (some .boolean) :: wsL_law) { frames := 0, cells := 0, slots := 0, locals := 0 } (gPc D cy [va_rf (some x0), .int x1] S0) (va_Qi Q (gB D cy S0) (gA S0)) 0 0 (gA S0) := by
  refine gx_met (by decide) (Nat.le_of_ble_eq_true rfl) ?_
  intro p e s m args below meth c ls C hW hl
  have hx := C.1
  have hb := C.2.1
  have hl : lv_has ls 2 [(0, va_rf (some x0)), (1, .int x1)] := hl
  unfold wX5_has at hw
  refine lv_iload_n hx hb dX5_has_0 rfl (lv_at hl 1 rfl) ?_
  refine lv_if_lt (tgt := 16) hx hb dX5_has_1 (by decide) (fun c1 => ?_) (fun c1 => ?_)
  · have hw := w_t hw c1
    refine lv_iconst (v := 0) hx hb dX5_has_16 (by decide) ?_
    exact gx_iret C hW (Nat.le_of_ble_eq_true rfl) (Nat.le_of_ble_eq_true rfl) rfl hw dX5_has_17
  · have hw := w_f hw c1
    refine lv_iload_n hx hb dX5_has_4 rfl (lv_at hl 1 rfl) ?_
    refine gx_aload_n hx hb dX5_has_5 rfl (lv_at hl 0 rfl) ?_
    refine gx_getI C hW F5_25 (k := 323) rfl t0 rfl dX5_has_6 ?_
    refine lv_icmp_ge (tgt := 16) hx hb dX5_has_9 (by decide) (fun c2 => ?_) (fun c2 => ?_)
    · have hw := w_t hw c2
      refine lv_iconst (v := 0) hx hb dX5_has_16 (by decide) ?_
      exact gx_iret C hW (Nat.le_of_ble_eq_true rfl) (Nat.le_of_ble_eq_true rfl) rfl hw dX5_has_17
    · have hw := w_f hw c2
      refine lv_iconst (v := 1) hx hb dX5_has_12 (by decide) ?_
      refine lv_goto (tgt := 17) hx hb dX5_has_13 (by decide) ?_
      exact gx_iret C hW (Nat.le_of_ble_eq_true rfl) (Nat.le_of_ble_eq_true rfl) rfl hw dX5_has_17
/-! TrialStair$Row.numberAt -/
def wX5_numberAt (x0 : Nat) (x1 : Int32) (S0 : Sg) (Q : Int64 → Sg → Prop) : Prop := (if x1 < 0 then Q (0 : Int64) S0 else ∃ a2 : Nat, (fR S0 321 x0) = some a2 ∧ tg S0 a2 = 14 ∧ (if (nI (ln S0 a2)) ≤ x1 then Q (0 : Int64) S0 else vp_in x1 (ln S0 a2) ∧ Q (aL S0 a2 (x1).toNatClampNeg) S0))
set_option maxHeartbeats 4000000 in
set_option maxRecDepth 100000 in
theorem mX5_numberAt (l : Launch) (D : va_G) (cy : Nat → ClassId) (x0 : Nat) (x1 : Int32) (S0 : Sg) (Q : Int64 → Sg → Prop) (t0 : tg S0 x0 = 6) (hw : wX5_numberAt x0 x1 S0 Q) : Met l yX5_numberAt (.code yX5_numberAt cX5_numberAt 2 (some .long) :: wsL_law) { frames := 0, cells := 0, slots := 0, locals := 0 } (gPc D cy [va_rf (some x0), .int x1] S0) (va_Ql Q (gB D cy S0) (gA S0)) 0 0 (gA S0) := by
  refine gx_met (by decide) (Nat.le_of_ble_eq_true rfl) ?_
  intro p e s m args below meth c ls C hW hl
  have hx := C.1
  have hb := C.2.1
  have hl : lv_has ls 2 [(0, va_rf (some x0)), (1, .int x1)] := hl
  unfold wX5_numberAt at hw
  refine lv_iload_n hx hb dX5_numberAt_0 rfl (lv_at hl 1 rfl) ?_
  refine lv_if_lt (tgt := 22) hx hb dX5_numberAt_1 (by decide) (fun c1 => ?_) (fun c1 => ?_)
  · have hw := w_t hw c1
    refine lv_lconst (v := 0) hx hb dX5_numberAt_22 (by decide) ?_
    exact gx_lret C hW (Nat.le_of_ble_eq_true rfl) (Nat.le_of_ble_eq_true rfl) hw dX5_numberAt_23
  · have hw := w_f hw c1
    refine lv_iload_n hx hb dX5_numberAt_4 rfl (lv_at hl 1 rfl) ?_
    refine gx_aload_n hx hb dX5_numberAt_5 rfl (lv_at hl 0 rfl) ?_
    refine gx_getR C hW F5_15 (k := 321) rfl t0 rfl dX5_numberAt_6 ?_
    obtain ⟨a2, ha2, ta2, hw⟩ := hw
    refine gx_alen C hW ha2 (Or.inr (Or.inl ta2)) dX5_numberAt_9 ?_
    refine lv_icmp_ge (tgt := 22) hx hb dX5_numberAt_10 (by decide) (fun c3 => ?_) (fun c3 => ?_)
    · have hw := w_t hw c3
      refine lv_lconst (v := 0) hx hb dX5_numberAt_22 (by decide) ?_
      exact gx_lret C hW (Nat.le_of_ble_eq_true rfl) (Nat.le_of_ble_eq_true rfl) hw dX5_numberAt_23
    · have hw := w_f hw c3
      refine gx_aload_n hx hb dX5_numberAt_13 rfl (lv_at hl 0 rfl) ?_
      refine gx_getR C hW F5_15 (k := 321) rfl t0 rfl dX5_numberAt_14 ?_
      refine lv_iload_n hx hb dX5_numberAt_17 rfl (lv_at hl 1 rfl) ?_
      obtain ⟨i4, hw⟩ := hw
      refine gx_lald C hW ha2 ta2 i4 dX5_numberAt_18 ?_
      refine lv_goto (tgt := 23) hx hb dX5_numberAt_19 (by decide) ?_
      exact gx_lret C hW (Nat.le_of_ble_eq_true rfl) (Nat.le_of_ble_eq_true rfl) hw dX5_numberAt_23
/-! TrialStair$Row.thingAt -/
def wX5_thingAt (x0 : Nat) (x1 : Int32) (S0 : Sg) (Q : Option Nat → Sg → Prop) : Prop := (if x1 < 0 then Q none S0 else ∃ a2 : Nat, (fR S0 322 x0) = some a2 ∧ tg S0 a2 = 18 ∧ (if (nI (ln S0 a2)) ≤ x1 then Q none S0 else vp_in x1 (ln S0 a2) ∧ Q (aR S0 a2 (x1).toNatClampNeg) S0))
set_option maxHeartbeats 4000000 in
set_option maxRecDepth 100000 in
theorem mX5_thingAt (l : Launch) (D : va_G) (cy : Nat → ClassId) (x0 : Nat) (x1 : Int32) (S0 : Sg) (Q : Option Nat → Sg → Prop) (t0 : tg S0 x0 = 6) (hw : wX5_thingAt x0 x1 S0 Q) : Met l yX5_thingAt (.code yX5_thingAt cX5_thingAt 2 (some (.object "TrialStair$Thing")) :: wsL_law) { frames := 0, cells := 0, slots := 0, locals := 0 } (gPc D cy [va_rf (some x0), .int x1] S0) (va_Qq Q (gB D cy S0) (gA S0)) 0 0 (gA S0) := by
  refine gx_met (by decide) (Nat.le_of_ble_eq_true rfl) ?_
  intro p e s m args below meth c ls C hW hl
  have hx := C.1
  have hb := C.2.1
  have hl : lv_has ls 2 [(0, va_rf (some x0)), (1, .int x1)] := hl
  unfold wX5_thingAt at hw
  refine lv_iload_n hx hb dX5_thingAt_0 rfl (lv_at hl 1 rfl) ?_
  refine lv_if_lt (tgt := 22) hx hb dX5_thingAt_1 (by decide) (fun c1 => ?_) (fun c1 => ?_)
  · have hw := w_t hw c1
    refine gx_null hx hb dX5_thingAt_22 ?_
    exact gx_aret C hW (Nat.le_of_ble_eq_true rfl) (Nat.le_of_ble_eq_true rfl) hw dX5_thingAt_23
  · have hw := w_f hw c1
    refine lv_iload_n hx hb dX5_thingAt_4 rfl (lv_at hl 1 rfl) ?_
    refine gx_aload_n hx hb dX5_thingAt_5 rfl (lv_at hl 0 rfl) ?_
    refine gx_getR C hW F5_21 (k := 322) rfl t0 rfl dX5_thingAt_6 ?_
    obtain ⟨a2, ha2, ta2, hw⟩ := hw
    refine gx_alen C hW ha2 (Or.inr (Or.inr (Or.inr (Or.inr (Or.inr ta2))))) dX5_thingAt_9 ?_
    refine lv_icmp_ge (tgt := 22) hx hb dX5_thingAt_10 (by decide) (fun c3 => ?_) (fun c3 => ?_)
    · have hw := w_t hw c3
      refine gx_null hx hb dX5_thingAt_22 ?_
      exact gx_aret C hW (Nat.le_of_ble_eq_true rfl) (Nat.le_of_ble_eq_true rfl) hw dX5_thingAt_23
    · have hw := w_f hw c3
      refine gx_aload_n hx hb dX5_thingAt_13 rfl (lv_at hl 0 rfl) ?_
      refine gx_getR C hW F5_21 (k := 322) rfl t0 rfl dX5_thingAt_14 ?_
      refine lv_iload_n hx hb dX5_thingAt_17 rfl (lv_at hl 1 rfl) ?_
      obtain ⟨i4, hw⟩ := hw
      refine gx_aald C hW ha2 (Or.inr (Or.inr ta2)) i4 dX5_thingAt_18 ?_
      refine lv_goto (tgt := 23) hx hb dX5_thingAt_19 (by decide) ?_
      exact gx_aret C hW (Nat.le_of_ble_eq_true rfl) (Nat.le_of_ble_eq_true rfl) hw dX5_thingAt_23
/-! TrialStair$Row.narrowed -/
def wX5_narrowed (x0 : Nat) (x1 : Int64) (S0 : Sg) (Q : Int64 → Sg → Prop) : Prop := (if (fI S0 320 x0) = 0 then Q ((((((x1).toInt32)).toInt8.toInt32)).toInt64) S0 else (if (fI S0 320 x0) = 1 then Q (((((((x1).toInt32)).toUInt32 % 65536).toInt32)).toInt64) S0 else (if (fI S0 320 x0) = 2 then Q ((((((x1).toInt32)).toInt16.toInt32)).toInt64) S0 else (if (fI S0 320 x0) = 3 then Q ((((x1).toInt32)).toInt64) S0 else (if (fI S0 320 x0) = 5 then Q (FP.f2l (FP.l2f x1)) S0 else (if (fI S0 320 x0) = 6 then Q (FP.d2l (FP.l2d x1)) S0 else Q x1 S0))))))
set_option maxHeartbeats 4000000 in
set_option maxRecDepth 100000 in
theorem mX5_narrowed (l : Launch) (D : va_G) (cy : Nat → ClassId) (x0 : Nat) (x1 : Int64) (S0 : Sg) (Q : Int64 → Sg → Prop) (t0 : tg S0 x0 = 6) (hw : wX5_narrowed x0 x1 S0 Q) : Met l yX5_narrowed (.code yX5_narrowed cX5_narrowed 3 (some .long) :: wsL_law) { frames := 0, cells := 0, slots := 0, locals := 0 } (gPc D cy [va_rf (some x0), .long x1] S0) (va_Ql Q (gB D cy S0) (gA S0)) 0 0 (gA S0) := by
  refine gx_met (by decide) (Nat.le_of_ble_eq_true rfl) ?_
  intro p e s m args below meth c ls C hW hl
  have hx := C.1
  have hb := C.2.1
  have hl : lv_has ls 3 [(0, va_rf (some x0)), (1, .long x1)] := hl
  unfold wX5_narrowed at hw
  refine gx_aload_n hx hb dX5_narrowed_0 rfl (lv_at hl 0 rfl) ?_
  refine gx_getI C hW F5_9 (k := 320) rfl t0 rfl dX5_narrowed_1 ?_
  by_cases c1 : (fI S0 320 x0) = (0 : Int32)
  · have hw := w_t hw c1
    refine lv_tableIn (off := 44) (tgt := 48) hx hb dX5_narrowed_4 (by rw [c1]; decide) (by rw [c1]; decide) (by rw [c1]; rfl) (by decide) ?_
    refine lv_lload_n hx hb dX5_narrowed_48 rfl (lv_at hl 1 rfl) ?_
    refine lv_l2i (v := _) hx hb dX5_narrowed_49 rfl ?_
    refine lv_i2b (v := _) hx hb dX5_narrowed_50 rfl ?_
    refine lv_i2l (v := _) hx hb dX5_narrowed_51 rfl ?_
    exact gx_lret C hW (Nat.le_of_ble_eq_true rfl) (Nat.le_of_ble_eq_true rfl) hw dX5_narrowed_52
  · have hw := w_f hw c1
    by_cases c2 : (fI S0 320 x0) = (1 : Int32)
    · have hw := w_t hw c2
      refine lv_tableIn (off := 49) (tgt := 53) hx hb dX5_narrowed_4 (by rw [c2]; decide) (by rw [c2]; decide) (by rw [c2]; rfl) (by decide) ?_
      refine lv_lload_n hx hb dX5_narrowed_53 rfl (lv_at hl 1 rfl) ?_
      refine lv_l2i (v := _) hx hb dX5_narrowed_54 rfl ?_
      refine lv_i2c (v := _) hx hb dX5_narrowed_55 rfl ?_
      refine lv_i2l (v := _) hx hb dX5_narrowed_56 rfl ?_
      exact gx_lret C hW (Nat.le_of_ble_eq_true rfl) (Nat.le_of_ble_eq_true rfl) hw dX5_narrowed_57
    · have hw := w_f hw c2
      by_cases c3 : (fI S0 320 x0) = (2 : Int32)
      · have hw := w_t hw c3
        refine lv_tableIn (off := 54) (tgt := 58) hx hb dX5_narrowed_4 (by rw [c3]; decide) (by rw [c3]; decide) (by rw [c3]; rfl) (by decide) ?_
        refine lv_lload_n hx hb dX5_narrowed_58 rfl (lv_at hl 1 rfl) ?_
        refine lv_l2i (v := _) hx hb dX5_narrowed_59 rfl ?_
        refine lv_i2s (v := _) hx hb dX5_narrowed_60 rfl ?_
        refine lv_i2l (v := _) hx hb dX5_narrowed_61 rfl ?_
        exact gx_lret C hW (Nat.le_of_ble_eq_true rfl) (Nat.le_of_ble_eq_true rfl) hw dX5_narrowed_62
      · have hw := w_f hw c3
        by_cases c4 : (fI S0 320 x0) = (3 : Int32)
        · have hw := w_t hw c4
          refine lv_tableIn (off := 59) (tgt := 63) hx hb dX5_narrowed_4 (by rw [c4]; decide) (by rw [c4]; decide) (by rw [c4]; rfl) (by decide) ?_
          refine lv_lload_n hx hb dX5_narrowed_63 rfl (lv_at hl 1 rfl) ?_
          refine lv_l2i (v := _) hx hb dX5_narrowed_64 rfl ?_
          refine lv_i2l (v := _) hx hb dX5_narrowed_65 rfl ?_
          exact gx_lret C hW (Nat.le_of_ble_eq_true rfl) (Nat.le_of_ble_eq_true rfl) hw dX5_narrowed_66
        · have hw := w_f hw c4
          by_cases c5 : (fI S0 320 x0) = (5 : Int32)
          · have hw := w_t hw c5
            refine lv_tableIn (off := 63) (tgt := 67) hx hb dX5_narrowed_4 (by rw [c5]; decide) (by rw [c5]; decide) (by rw [c5]; rfl) (by decide) ?_
            refine lv_lload_n hx hb dX5_narrowed_67 rfl (lv_at hl 1 rfl) ?_
            refine lv_l2f hx hb dX5_narrowed_68 ?_
            refine lv_f2l hx hb dX5_narrowed_69 ?_
            exact gx_lret C hW (Nat.le_of_ble_eq_true rfl) (Nat.le_of_ble_eq_true rfl) hw dX5_narrowed_70
          · have hw := w_f hw c5
            by_cases c6 : (fI S0 320 x0) = (6 : Int32)
            · have hw := w_t hw c6
              refine lv_tableIn (off := 67) (tgt := 71) hx hb dX5_narrowed_4 (by rw [c6]; decide) (by rw [c6]; decide) (by rw [c6]; rfl) (by decide) ?_
              refine lv_lload_n hx hb dX5_narrowed_71 rfl (lv_at hl 1 rfl) ?_
              refine lv_l2d hx hb dX5_narrowed_72 ?_
              refine lv_d2l hx hb dX5_narrowed_73 ?_
              exact gx_lret C hW (Nat.le_of_ble_eq_true rfl) (Nat.le_of_ble_eq_true rfl) hw dX5_narrowed_74
            · have hw := w_f hw c6
              refine gx_tdef (n := 7) (tgt := 75) hx hb dX5_narrowed_4 (by decide) (by decide) (lt_s (lt_s (lt_s (lt_s (lt_s (lt_s (lt_s (lt_0) (fun hx9 => tb_ne c1 (by decide) hx9)) (fun hx9 => tb_ne c2 (by decide) hx9)) (fun hx9 => tb_ne c3 (by decide) hx9)) (fun hx9 => tb_ne c4 (by decide) hx9)) (fun hx9 => rfl)) (fun hx9 => tb_ne c5 (by decide) hx9)) (fun hx9 => tb_ne c6 (by decide) hx9)) ?_
              refine lv_lload_n hx hb dX5_narrowed_75 rfl (lv_at hl 1 rfl) ?_
              exact gx_lret C hW (Nat.le_of_ble_eq_true rfl) (Nat.le_of_ble_eq_true rfl) hw dX5_narrowed_76
/-! TrialStair$Row.putNumber -/
def wX5_putNumber (x0 : Nat) (x1 : Int32) (x2 : Int64) (S0 : Sg) (Q : Sg → Prop) : Prop := (if x1 < 0 then Q S0 else ∃ a2 : Nat, (fR S0 321 x0) = some a2 ∧ tg S0 a2 = 14 ∧ (if (nI (ln S0 a2)) ≤ x1 then Q S0 else wX5_narrowed x0 x2 S0 (fun (r4 : Int64) (S5 : Sg) => vp_in x1 (ln S5 a2) ∧ ∀ S7 : Sg, S7 = sAL S5 a2 (x1).toNatClampNeg r4 → Q S7)))
set_option maxHeartbeats 4000000 in
set_option maxRecDepth 100000 in
theorem mX5_putNumber (l : Launch) (D : va_G) (cy : Nat → ClassId) (x0 : Nat) (x1 : Int32) (x2 : Int64) (S0 : Sg) (Q : Sg → Prop) (t0 : tg S0 x0 = 6) (hw : wX5_putNumber x0 x1 x2 S0 Q) : Met l yX5_putNumber (.code yX5_putNumber cX5_putNumber 4 none :: wsL_law) { frames := 1, cells := 0, slots := 0, locals := 22 } (gPc D cy [va_rf (some x0), .int x1, .long x2] S0) (va_Qv Q (gB D cy S0) (gA S0)) 0 0 (gA S0) := by
  refine gx_met (by decide) (Nat.le_of_ble_eq_true rfl) ?_
  intro p e s m args below meth c ls C hW hl
  have hx := C.1
  have hb := C.2.1
  have hl : lv_has ls 4 [(0, va_rf (some x0)), (1, .int x1), (2, .long x2)] := hl
  unfold wX5_putNumber at hw
  refine lv_iload_n hx hb dX5_putNumber_0 rfl (lv_at hl 1 rfl) ?_
  refine lv_if_lt (tgt := 24) hx hb dX5_putNumber_1 (by decide) (fun c1 => ?_) (fun c1 => ?_)
  · have hw := w_t hw c1
    exact gx_vret C hW (Nat.le_of_ble_eq_true rfl) (Nat.le_of_ble_eq_true rfl) hw dX5_putNumber_24
  · have hw := w_f hw c1
    refine lv_iload_n hx hb dX5_putNumber_4 rfl (lv_at hl 1 rfl) ?_
    refine gx_aload_n hx hb dX5_putNumber_5 rfl (lv_at hl 0 rfl) ?_
    refine gx_getR C hW F5_15 (k := 321) rfl t0 rfl dX5_putNumber_6 ?_
    obtain ⟨a2, ha2, ta2, hw⟩ := hw
    refine gx_alen C hW ha2 (Or.inr (Or.inl ta2)) dX5_putNumber_9 ?_
    refine lv_icmp_ge (tgt := 24) hx hb dX5_putNumber_10 (by decide) (fun c3 => ?_) (fun c3 => ?_)
    · have hw := w_t hw c3
      exact gx_vret C hW (Nat.le_of_ble_eq_true rfl) (Nat.le_of_ble_eq_true rfl) hw dX5_putNumber_24
    · have hw := w_f hw c3
      refine gx_aload_n hx hb dX5_putNumber_13 rfl (lv_at hl 0 rfl) ?_
      refine gx_getR C hW F5_15 (k := 321) rfl t0 rfl dX5_putNumber_14 ?_
      refine lv_iload_n hx hb dX5_putNumber_17 rfl (lv_at hl 1 rfl) ?_
      refine gx_aload_n hx hb dX5_putNumber_18 rfl (lv_at hl 0 rfl) ?_
      refine lv_lload_n hx hb dX5_putNumber_19 rfl (lv_at hl 2 rfl) ?_
      refine gx_cl (gx_rV C hW M5_38 (mX5_narrowed l D cy _ _ _ _ t0 hw) rfl rfl ⟨Nat.le_of_ble_eq_true rfl, Nat.le_of_ble_eq_true rfl⟩ rfl t0 (by decide) rfl rfl hl.1 rfl (gx_room0 (n := 4) (Nat.le_of_ble_eq_true rfl)) dX5_putNumber_20 ⟨Nat.le_of_ble_eq_true rfl, Nat.le_of_ble_eq_true rfl⟩) hW (fun r4 S5 H locs hW hm hw => ?_)
      have t0 := hm _ _ t0
      have ta2 := hm _ _ ta2
      obtain ⟨i6, hw⟩ := hw
      refine gx_last C hW ha2 ta2 i6 dX5_putNumber_23 (fun H locs S7 eS7 hW hm => ?_)
      have hw := hw S7 eS7
      have t0 := hm _ _ t0
      have ta2 := hm _ _ ta2
      exact gx_vret C hW (Nat.le_of_ble_eq_true rfl) (Nat.le_of_ble_eq_true rfl) hw dX5_putNumber_24
/-! TrialStair$Row.putThing -/
def wX5_putThing (x0 : Nat) (x1 : Int32) (x2 : Option Nat) (S0 : Sg) (Q : Sg → Prop) : Prop := (if x1 < 0 then Q S0 else ∃ a2 : Nat, (fR S0 322 x0) = some a2 ∧ tg S0 a2 = 18 ∧ (if (nI (ln S0 a2)) ≤ x1 then Q S0 else vp_in x1 (ln S0 a2) ∧ (∀ v, x2 = some v → tg S0 v = 9) ∧ ∀ S5 : Sg, S5 = sAR S0 a2 (x1).toNatClampNeg x2 → Q S5))
set_option maxHeartbeats 4000000 in
set_option maxRecDepth 100000 in
theorem mX5_putThing (l : Launch) (D : va_G) (cy : Nat → ClassId) (x0 : Nat) (x1 : Int32) (x2 : Option Nat) (S0 : Sg) (Q : Sg → Prop) (t0 : tg S0 x0 = 6) (hw : wX5_putThing x0 x1 x2 S0 Q) : Met l yX5_putThing (.code yX5_putThing cX5_putThing 3 none :: wsL_law) { frames := 0, cells := 0, slots := 0, locals := 0 } (gPc D cy [va_rf (some x0), .int x1, va_rf x2] S0) (va_Qv Q (gB D cy S0) (gA S0)) 0 0 (gA S0) := by
  refine gx_met (by decide) (by simp [lg_sl, va_rf_cat, cat_i, cat_l]) ?_
  intro p e s m args below meth c ls C hW hl
  have hx := C.1
  have hb := C.2.1
  have hl : lv_has ls 3 [(0, va_rf (some x0)), (1, .int x1), (2, va_rf x2)] := by simpa [lv_args, va_rf_cat, cat_i, cat_l] using hl
  unfold wX5_putThing at hw
  refine lv_iload_n hx hb dX5_putThing_0 rfl (lv_at hl 1 rfl) ?_
  refine lv_if_lt (tgt := 20) hx hb dX5_putThing_1 (by decide) (fun c1 => ?_) (fun c1 => ?_)
  · have hw := w_t hw c1
    exact gx_vret C hW (Nat.le_of_ble_eq_true rfl) (Nat.le_of_ble_eq_true rfl) hw dX5_putThing_20
  · have hw := w_f hw c1
    refine lv_iload_n hx hb dX5_putThing_4 rfl (lv_at hl 1 rfl) ?_
    refine gx_aload_n hx hb dX5_putThing_5 rfl (lv_at hl 0 rfl) ?_
    refine gx_getR C hW F5_21 (k := 322) rfl t0 rfl dX5_putThing_6 ?_
    obtain ⟨a2, ha2, ta2, hw⟩ := hw
    refine gx_alen C hW ha2 (Or.inr (Or.inr (Or.inr (Or.inr (Or.inr ta2))))) dX5_putThing_9 ?_
    refine lv_icmp_ge (tgt := 20) hx hb dX5_putThing_10 (by decide) (fun c3 => ?_) (fun c3 => ?_)
    · have hw := w_t hw c3
      exact gx_vret C hW (Nat.le_of_ble_eq_true rfl) (Nat.le_of_ble_eq_true rfl) hw dX5_putThing_20
    · have hw := w_f hw c3
      refine gx_aload_n hx hb dX5_putThing_13 rfl (lv_at hl 0 rfl) ?_
      refine gx_getR C hW F5_21 (k := 322) rfl t0 rfl dX5_putThing_14 ?_
      refine lv_iload_n hx hb dX5_putThing_17 rfl (lv_at hl 1 rfl) ?_
      refine gx_aload_n hx hb dX5_putThing_18 rfl (lv_at hl 2 rfl) ?_
      obtain ⟨i4, hw⟩ := hw
      obtain ⟨v6, hw⟩ := hw
      refine gx_aast5 C hW ha2 ta2 v6 i4 dX5_putThing_19 (fun H locs S5 eS5 hW hm => ?_)
      have hw := hw S5 eS5
      have t0 := hm _ _ t0
      have ta2 := hm _ _ ta2
      exact gx_vret C hW (Nat.le_of_ble_eq_true rfl) (Nat.le_of_ble_eq_true rfl) hw dX5_putThing_20
/-! TrialStair$Script.<init> -/
def wX6_init (x0 : Nat) (S0 : Sg) (Q : Sg → Prop) : Prop := ∀ S2 : Sg, S2 = nw S0 17 2000 → ∀ S3 : Sg, S3 = sFR S2 384 x0 (some (sz S0)) → ∀ S5 : Sg, S5 = nw S3 13 2000 → ∀ S6 : Sg, S6 = sFR S5 385 x0 (some (sz S3)) → Q S6
set_option maxHeartbeats 4000000 in
set_option maxRecDepth 100000 in
theorem mX6_init (l : Launch) (D : va_G) (cy : Nat → ClassId) (x0 : Nat) (S0 : Sg) (Q : Sg → Prop) (t0 : tg S0 x0 = 7) (hw : wX6_init x0 S0 Q) : Met l yX6_init (.code yX6_init cX6_init 1 none :: wsL_law) { frames := 1, cells := 2, slots := 4000, locals := 20 } (gPc D cy [va_rf (some x0)] S0) (va_Qv Q (gB D cy S0) (gA S0)) 2 4000 (gA S0) := by
  refine gx_met (by decide) (Nat.le_of_ble_eq_true rfl) ?_
  intro p e s m args below meth c ls C hW hl
  have hx := C.1
  have hb := C.2.1
  have hl : lv_has ls 1 [(0, va_rf (some x0))] := hl
  unfold wX6_init at hw
  refine gx_aload_n hx hb dX6_init_0 rfl (lv_at hl 0 rfl) ?_
  refine gx_objInit C (List.mem_of_getElem? (i := 30) (by decide +kernel)) (List.mem_of_getElem? (i := 10) (by decide +kernel)) (List.mem_of_getElem? (i := 11) (by decide +kernel)) rfl hl.1 dX6_init_1 (Nat.le_of_ble_eq_true rfl) (Nat.le_of_ble_eq_true rfl) (Nat.le_of_ble_eq_true rfl) ?_
  refine gx_aload_n hx hb dX6_init_4 rfl (lv_at hl 0 rfl) ?_
  refine lv_sipush (v := 2000) hx hb dX6_init_5 (by decide) ?_
  refine gx_newq (Cn := RX7) (k := 4) (K := 2000) (N := 2000) C hW (List.mem_of_getElem? (i := 31) (by decide +kernel)) (Or.inr (Or.inl ⟨rfl, rfl⟩)) (by decide) (by decide) (by decide) (by decide) (Nat.le_of_ble_eq_true rfl) (Nat.le_of_ble_eq_true rfl) dX6_init_8 (fun H S2 eS2 hW hm t1 => ?_)
  have hw := hw S2 eS2
  have t0 := hm _ _ t0
  refine gx_putR (k := 384) C hW F6_11 (Or.inr ⟨rfl, rfl, rfl⟩) rfl rfl t0 rfl dX6_init_11 (fun H locs S3 eS3 hW hm => ?_)
  have hw := hw S3 eS3
  have t0 := hm _ _ t0
  have t1 := hm _ _ t1
  refine gx_aload_n hx hb dX6_init_14 rfl (lv_at hl 0 rfl) ?_
  refine lv_sipush (v := 2000) hx hb dX6_init_15 (by decide) ?_
  refine gx_newa (at0 := .int) (k := 0) (K := 2000) (N := 2000) C hW (List.mem_of_getElem? (i := 33) (by decide +kernel)) (Or.inl ⟨rfl, rfl⟩) (by decide) (by decide) (by decide) (by decide) (Nat.le_of_ble_eq_true rfl) (Nat.le_of_ble_eq_true rfl) dX6_init_18 (fun H S5 eS5 hW hm t4 => ?_)
  have hw := hw S5 eS5
  have t0 := hm _ _ t0
  have t1 := hm _ _ t1
  refine gx_putR (k := 385) C hW F6_17 (Or.inr ⟨rfl, rfl, rfl⟩) rfl rfl t0 rfl dX6_init_20 (fun H locs S6 eS6 hW hm => ?_)
  have hw := hw S6 eS6
  have t0 := hm _ _ t0
  have t1 := hm _ _ t1
  have t4 := hm _ _ t4
  exact gx_vret C hW (Nat.le_of_ble_eq_true rfl) (Nat.le_of_ble_eq_true rfl) hw dX6_init_23
/-! TrialStair$Script.clear -/
def wX6_clear (x0 : Nat) (S0 : Sg) (Q : Sg → Prop) : Prop := ∀ S1 : Sg, S1 = sFI S0 387 x0 (0 : Int32) → ∀ S2 : Sg, S2 = sFI S1 388 x0 (0 : Int32) → ∀ S3 : Sg, S3 = sFR S2 386 x0 none → Q S3
set_option maxHeartbeats 4000000 in
set_option maxRecDepth 100000 in
theorem mX6_clear (l : Launch) (D : va_G) (cy : Nat → ClassId) (x0 : Nat) (S0 : Sg) (Q : Sg → Prop) (t0 : tg S0 x0 = 7) (hw : wX6_clear x0 S0 Q) : Met l yX6_clear (.code yX6_clear cX6_clear 1 none :: wsL_law) { frames := 0, cells := 0, slots := 0, locals := 0 } (gPc D cy [va_rf (some x0)] S0) (va_Qv Q (gB D cy S0) (gA S0)) 0 0 (gA S0) := by
  refine gx_met (by decide) (Nat.le_of_ble_eq_true rfl) ?_
  intro p e s m args below meth c ls C hW hl
  have hx := C.1
  have hb := C.2.1
  have hl : lv_has ls 1 [(0, va_rf (some x0))] := hl
  unfold wX6_clear at hw
  refine gx_aload_n hx hb dX6_clear_0 rfl (lv_at hl 0 rfl) ?_
  refine lv_iconst (v := 0) hx hb dX6_clear_1 (by decide) ?_
  refine gx_putI (k := 387) C hW F6_21 (Or.inl rfl) rfl t0 rfl rfl rfl dX6_clear_2 (fun H locs S1 eS1 hW hm => ?_)
  have hw := hw S1 eS1
  have t0 := hm _ _ t0
  refine gx_aload_n hx hb dX6_clear_5 rfl (lv_at hl 0 rfl) ?_
  refine lv_iconst (v := 0) hx hb dX6_clear_6 (by decide) ?_
  refine gx_putI (k := 388) C hW F6_25 (Or.inl rfl) rfl t0 rfl rfl rfl dX6_clear_7 (fun H locs S2 eS2 hW hm => ?_)
  have hw := hw S2 eS2
  have t0 := hm _ _ t0
  refine gx_aload_n hx hb dX6_clear_10 rfl (lv_at hl 0 rfl) ?_
  refine gx_null hx hb dX6_clear_11 ?_
  refine gx_putR (k := 386) C hW F6_28 (Or.inl rfl) rfl rfl t0 rfl dX6_clear_12 (fun H locs S3 eS3 hW hm => ?_)
  have hw := hw S3 eS3
  have t0 := hm _ _ t0
  exact gx_vret C hW (Nat.le_of_ble_eq_true rfl) (Nat.le_of_ble_eq_true rfl) hw dX6_clear_15
/-! TrialStair$Script.fit -/
def wX6_fit_b37 (x0 : Nat) (x1 : Option Nat) (x2 : Option Nat) (q0 : Int32) (q1 : Int32) (S : Sg) (Q : Sg → Prop) : Prop := (if q0 = q1 then Q S else ∃ a8 : Nat, x1 = some a8 ∧ tg S a8 = 8 ∧ (if (fI S 449 a8) = (26 : Int32) then ∃ a17 : Nat, x2 = some a17 ∧ tg S a17 = 8 ∧ (if 0 ≤ (fI S 454 a17) then Q S else (if 0 ≤ (fI S 455 a17) then Q S else ∀ S20 : Sg, S20 = sFI S 454 a17 (fI S 448 a8) → Q S20)) else (if (fI S 449 a8) = (27 : Int32) then ∃ a14 : Nat, x2 = some a14 ∧ tg S a14 = 8 ∧ (if 0 ≤ (fI S 455 a14) then Q S else ∀ S16 : Sg, S16 = sFI S 455 a14 (fI S 448 a8) → Q S16) else ∃ a11 : Nat, x2 = some a11 ∧ tg S a11 = 8 ∧ ∀ S12 : Sg, S12 = sFI S 456 a11 (fI S 448 a8) → ∀ S13 : Sg, S13 = sFR S12 386 x0 (fR S12 453 a11) → Q S13)))
def wX6_fit_b23 (x0 : Nat) (x1 : Option Nat) (x2 : Option Nat) (q0 : Int32) (S : Sg) (Q : Sg → Prop) : Prop := ∃ a5 : Nat, x1 = some a5 ∧ tg S a5 = 8 ∧ (if (fI S 449 a5) = (31 : Int32) then wX6_fit_b37 x0 x1 x2 q0 (1 : Int32) S Q else wX6_fit_b37 x0 x1 x2 q0 (0 : Int32) S Q)
def wX6_fit (x0 : Nat) (x1 : Option Nat) (S0 : Sg) (Q : Sg → Prop) : Prop := ∀ y1 : Option Nat, y1 = (fR S0 386 x0) → (if y1 = none then Q S0 else ∃ a3 : Nat, y1 = some a3 ∧ tg S0 a3 = 8 ∧ (if (fI S0 449 a3) = (25 : Int32) then wX6_fit_b23 x0 x1 y1 (1 : Int32) S0 Q else wX6_fit_b23 x0 x1 y1 (0 : Int32) S0 Q))
set_option maxHeartbeats 4000000 in
set_option maxRecDepth 100000 in
theorem kX6_fit_b37 {p : Program} {l : Launch} {e : Env} {s : State} {m : MethodId} {args : Array Value} {below : List Frame} {meth : Method} {c : Code} {D : va_G} {cy : Nat → ClassId} {S0 : Sg} (C : gC p s m args meth c D cy cX6_fit 3 yX6_fit.cls none yX6_fit.name) {H : Heap} {locs : List Loc} {ls : Array Slot} {x0 : Nat} {x1 : Option Nat} {x2 : Option Nat} {q0 : Int32} {q1 : Int32} {S : Sg} {Q : Sg → Prop} (hW : gW D cy (gA S0) (tg S0) s.heap S H locs) (t0 : tg S x0 = 7) (hl : lv_has ls 3 [(0, va_rf (some x0)), (1, va_rf x1), (2, va_rf x2)]) (hw : wX6_fit_b37 x0 x1 x2 q0 q1 S Q) : W p l e { frames := 0, cells := 0, slots := 0, locals := 0 } s m args below meth c H locs 0 0 (MQ below (va_Qv Q (gB D cy S0) (gA S0)) args s 0 0 (gA S0)) (F0 m 37 ls [.int q1, .int q0]) := by
  have hx := C.1
  have hb := C.2.1
  unfold wX6_fit_b37 at hw
  refine lv_icmp_ne (tgt := 41) hx hb dX6_fit_37 (by decide) (fun c7 => ?_) (fun c7 => ?_)
  · have hw := w_f hw c7
    refine gx_aload_n hx hb dX6_fit_41 rfl (lv_at hl 1 rfl) ?_
    obtain ⟨a8, ha8, ta8, hw⟩ := hw
    refine gx_getI C hW F6_49 (k := 449) ha8 ta8 rfl dX6_fit_42 ?_
    refine lv_bipush (v := 26) hx hb dX6_fit_45 (by decide) ?_
    refine lv_icmp_ne (tgt := 75) hx hb dX6_fit_47 (by decide) (fun c9 => ?_) (fun c9 => ?_)
    · have hw := w_f hw c9
      refine gx_aload_n hx hb dX6_fit_75 rfl (lv_at hl 1 rfl) ?_
      refine gx_getI C hW F6_49 (k := 449) ha8 ta8 rfl dX6_fit_76 ?_
      refine lv_bipush (v := 27) hx hb dX6_fit_79 (by decide) ?_
      refine lv_icmp_ne (tgt := 102) hx hb dX6_fit_81 (by decide) (fun c10 => ?_) (fun c10 => ?_)
      · have hw := w_f hw c10
        refine gx_aload_n hx hb dX6_fit_102 rfl (lv_at hl 2 rfl) ?_
        refine gx_aload_n hx hb dX6_fit_103 rfl (lv_at hl 1 rfl) ?_
        refine gx_getI C hW F6_42 (k := 448) ha8 ta8 rfl dX6_fit_104 ?_
        obtain ⟨a11, ha11, ta11, hw⟩ := hw
        refine gx_putI (k := 456) C hW F6_58 (Or.inl rfl) ha11 ta11 rfl rfl rfl dX6_fit_107 (fun H locs S12 eS12 hW hm => ?_)
        have hw := hw S12 eS12
        have t0 := hm _ _ t0
        have ta8 := hm _ _ ta8
        have ta11 := hm _ _ ta11
        refine gx_aload_n hx hb dX6_fit_110 rfl (lv_at hl 0 rfl) ?_
        refine gx_aload_n hx hb dX6_fit_111 rfl (lv_at hl 2 rfl) ?_
        refine gx_getR C hW F6_35 (k := 453) ha11 ta11 rfl dX6_fit_112 ?_
        refine gx_putR (k := 386) C hW F6_28 (Or.inl rfl) rfl rfl t0 rfl dX6_fit_115 (fun H locs S13 eS13 hW hm => ?_)
        have hw := hw S13 eS13
        have t0 := hm _ _ t0
        have ta8 := hm _ _ ta8
        have ta11 := hm _ _ ta11
        exact gx_vret C hW (Nat.le_of_ble_eq_true rfl) (Nat.le_of_ble_eq_true rfl) hw dX6_fit_118
      · have hw := w_t hw c10
        refine gx_aload_n hx hb dX6_fit_84 rfl (lv_at hl 2 rfl) ?_
        obtain ⟨a14, ha14, ta14, hw⟩ := hw
        refine gx_getI C hW F6_55 (k := 455) ha14 ta14 rfl dX6_fit_85 ?_
        refine lv_if_ge (tgt := 118) hx hb dX6_fit_88 (by decide) (fun c15 => ?_) (fun c15 => ?_)
        · have hw := w_t hw c15
          exact gx_vret C hW (Nat.le_of_ble_eq_true rfl) (Nat.le_of_ble_eq_true rfl) hw dX6_fit_118
        · have hw := w_f hw c15
          refine gx_aload_n hx hb dX6_fit_91 rfl (lv_at hl 2 rfl) ?_
          refine gx_aload_n hx hb dX6_fit_92 rfl (lv_at hl 1 rfl) ?_
          refine gx_getI C hW F6_42 (k := 448) ha8 ta8 rfl dX6_fit_93 ?_
          refine gx_putI (k := 455) C hW F6_55 (Or.inl rfl) ha14 ta14 rfl rfl rfl dX6_fit_96 (fun H locs S16 eS16 hW hm => ?_)
          have hw := hw S16 eS16
          have t0 := hm _ _ t0
          have ta8 := hm _ _ ta8
          have ta14 := hm _ _ ta14
          refine lv_goto (tgt := 118) hx hb dX6_fit_99 (by decide) ?_
          exact gx_vret C hW (Nat.le_of_ble_eq_true rfl) (Nat.le_of_ble_eq_true rfl) hw dX6_fit_118
    · have hw := w_t hw c9
      refine gx_aload_n hx hb dX6_fit_50 rfl (lv_at hl 2 rfl) ?_
      obtain ⟨a17, ha17, ta17, hw⟩ := hw
      refine gx_getI C hW F6_52 (k := 454) ha17 ta17 rfl dX6_fit_51 ?_
      refine lv_if_ge (tgt := 118) hx hb dX6_fit_54 (by decide) (fun c18 => ?_) (fun c18 => ?_)
      · have hw := w_t hw c18
        exact gx_vret C hW (Nat.le_of_ble_eq_true rfl) (Nat.le_of_ble_eq_true rfl) hw dX6_fit_118
      · have hw := w_f hw c18
        refine gx_aload_n hx hb dX6_fit_57 rfl (lv_at hl 2 rfl) ?_
        refine gx_getI C hW F6_55 (k := 455) ha17 ta17 rfl dX6_fit_58 ?_
        refine lv_if_ge (tgt := 118) hx hb dX6_fit_61 (by decide) (fun c19 => ?_) (fun c19 => ?_)
        · have hw := w_t hw c19
          exact gx_vret C hW (Nat.le_of_ble_eq_true rfl) (Nat.le_of_ble_eq_true rfl) hw dX6_fit_118
        · have hw := w_f hw c19
          refine gx_aload_n hx hb dX6_fit_64 rfl (lv_at hl 2 rfl) ?_
          refine gx_aload_n hx hb dX6_fit_65 rfl (lv_at hl 1 rfl) ?_
          refine gx_getI C hW F6_42 (k := 448) ha8 ta8 rfl dX6_fit_66 ?_
          refine gx_putI (k := 454) C hW F6_52 (Or.inl rfl) ha17 ta17 rfl rfl rfl dX6_fit_69 (fun H locs S20 eS20 hW hm => ?_)
          have hw := hw S20 eS20
          have t0 := hm _ _ t0
          have ta8 := hm _ _ ta8
          have ta17 := hm _ _ ta17
          refine lv_goto (tgt := 118) hx hb dX6_fit_72 (by decide) ?_
          exact gx_vret C hW (Nat.le_of_ble_eq_true rfl) (Nat.le_of_ble_eq_true rfl) hw dX6_fit_118
  · have hw := w_t hw c7
    exact gx_vret C hW (Nat.le_of_ble_eq_true rfl) (Nat.le_of_ble_eq_true rfl) hw dX6_fit_40
set_option maxHeartbeats 4000000 in
set_option maxRecDepth 100000 in
theorem kX6_fit_b23 {p : Program} {l : Launch} {e : Env} {s : State} {m : MethodId} {args : Array Value} {below : List Frame} {meth : Method} {c : Code} {D : va_G} {cy : Nat → ClassId} {S0 : Sg} (C : gC p s m args meth c D cy cX6_fit 3 yX6_fit.cls none yX6_fit.name) {H : Heap} {locs : List Loc} {ls : Array Slot} {x0 : Nat} {x1 : Option Nat} {x2 : Option Nat} {q0 : Int32} {S : Sg} {Q : Sg → Prop} (hW : gW D cy (gA S0) (tg S0) s.heap S H locs) (t0 : tg S x0 = 7) (hl : lv_has ls 3 [(0, va_rf (some x0)), (1, va_rf x1), (2, va_rf x2)]) (hw : wX6_fit_b23 x0 x1 x2 q0 S Q) : W p l e { frames := 0, cells := 0, slots := 0, locals := 0 } s m args below meth c H locs 0 0 (MQ below (va_Qv Q (gB D cy S0) (gA S0)) args s 0 0 (gA S0)) (F0 m 23 ls [.int q0]) := by
  have hx := C.1
  have hb := C.2.1
  unfold wX6_fit_b23 at hw
  refine gx_aload_n hx hb dX6_fit_23 rfl (lv_at hl 1 rfl) ?_
  obtain ⟨a5, ha5, ta5, hw⟩ := hw
  refine gx_getI C hW F6_49 (k := 449) ha5 ta5 rfl dX6_fit_24 ?_
  refine lv_bipush (v := 31) hx hb dX6_fit_27 (by decide) ?_
  refine lv_icmp_ne (tgt := 36) hx hb dX6_fit_29 (by decide) (fun c6 => ?_) (fun c6 => ?_)
  · have hw := w_f hw c6
    refine lv_iconst (v := 0) hx hb dX6_fit_36 (by decide) ?_
    exact kX6_fit_b37 C hW t0 (lv_sub hl [0, 1, 2] rfl) hw
  · have hw := w_t hw c6
    refine lv_iconst (v := 1) hx hb dX6_fit_32 (by decide) ?_
    refine lv_goto (tgt := 37) hx hb dX6_fit_33 (by decide) ?_
    exact kX6_fit_b37 C hW t0 (lv_sub hl [0, 1, 2] rfl) hw
set_option maxHeartbeats 4000000 in
set_option maxRecDepth 100000 in
theorem mX6_fit (l : Launch) (D : va_G) (cy : Nat → ClassId) (x0 : Nat) (x1 : Option Nat) (S0 : Sg) (Q : Sg → Prop) (t0 : tg S0 x0 = 7) (hw : wX6_fit x0 x1 S0 Q) : Met l yX6_fit (.code yX6_fit cX6_fit 3 none :: wsL_law) { frames := 0, cells := 0, slots := 0, locals := 0 } (gPc D cy [va_rf (some x0), va_rf x1] S0) (va_Qv Q (gB D cy S0) (gA S0)) 0 0 (gA S0) := by
  refine gx_met (by decide) (by simp [lg_sl, va_rf_cat, cat_i, cat_l]) ?_
  intro p e s m args below meth c ls C hW hl
  have hx := C.1
  have hb := C.2.1
  have hl : lv_has ls 3 [(0, va_rf (some x0)), (1, va_rf x1)] := by simpa [lv_args, va_rf_cat, cat_i, cat_l] using hl
  unfold wX6_fit at hw
  refine gx_aload_n hx hb dX6_fit_0 rfl (lv_at hl 0 rfl) ?_
  refine gx_getR C hW F6_28 (k := 386) rfl t0 rfl dX6_fit_1 ?_
  refine gx_topr (fun y1 ey1 => ?_)
  have hw := hw y1 ey1
  refine gx_astore_n (i := 2) (lv' := [(2, va_rf y1), (0, va_rf (some x0)), (1, va_rf x1)]) hx hb dX6_fit_4 rfl hl (by decide) (by simp [List.filter, va_rf_cat, cat_i, cat_l]) (fun ls hl => ?_)
  refine gx_aload_n hx hb dX6_fit_5 rfl (lv_at hl 0 rfl) ?_
  refine gx_ifnull (tgt := 40) hx hb dX6_fit_6 (by decide) (fun c2 => ?_) (fun c2 => ?_)
  · have hw := w_t hw c2
    exact gx_vret C hW (Nat.le_of_ble_eq_true rfl) (Nat.le_of_ble_eq_true rfl) hw dX6_fit_40
  · have hw := w_f hw c2
    refine gx_aload_n hx hb dX6_fit_9 rfl (lv_at hl 0 rfl) ?_
    obtain ⟨a3, ha3, ta3, hw⟩ := hw
    refine gx_getI C hW F6_49 (k := 449) ha3 ta3 rfl dX6_fit_10 ?_
    refine lv_bipush (v := 25) hx hb dX6_fit_13 (by decide) ?_
    refine lv_icmp_ne (tgt := 22) hx hb dX6_fit_15 (by decide) (fun c4 => ?_) (fun c4 => ?_)
    · have hw := w_f hw c4
      refine lv_iconst (v := 0) hx hb dX6_fit_22 (by decide) ?_
      exact kX6_fit_b23 C hW t0 (lv_sub hl [1, 2, 0] rfl) hw
    · have hw := w_t hw c4
      refine lv_iconst (v := 1) hx hb dX6_fit_18 (by decide) ?_
      refine lv_goto (tgt := 23) hx hb dX6_fit_19 (by decide) ?_
      exact kX6_fit_b23 C hW t0 (lv_sub hl [1, 2, 0] rfl) hw
/-! TrialStair$Script.beginRoutine -/
def wX6_beginRoutine (x0 : Nat) (x1 : Int32) (S0 : Sg) (Q : Sg → Prop) : Prop := (if (fI S0 388 x0) < 0 then Q S0 else (if (fI S0 388 x0) < (2000 : Int32) then ∃ a3 : Nat, (fR S0 385 x0) = some a3 ∧ tg S0 a3 = 13 ∧ vp_in (fI S0 388 x0) (ln S0 a3) ∧ ∀ S5 : Sg, S5 = sAI S0 a3 ((fI S0 388 x0)).toNatClampNeg x1 → ∀ S6 : Sg, S6 = sFI S5 388 x0 ((fI S5 388 x0) + (1 : Int32)) → ∀ S7 : Sg, S7 = sFR S6 386 x0 none → Q S7 else Q S0))
set_option maxHeartbeats 4000000 in
set_option maxRecDepth 100000 in
theorem mX6_beginRoutine (l : Launch) (D : va_G) (cy : Nat → ClassId) (x0 : Nat) (x1 : Int32) (S0 : Sg) (Q : Sg → Prop) (t0 : tg S0 x0 = 7) (hw : wX6_beginRoutine x0 x1 S0 Q) : Met l yX6_beginRoutine (.code yX6_beginRoutine cX6_beginRoutine 2 none :: wsL_law) { frames := 0, cells := 0, slots := 0, locals := 0 } (gPc D cy [va_rf (some x0), .int x1] S0) (va_Qv Q (gB D cy S0) (gA S0)) 0 0 (gA S0) := by
  refine gx_met (by decide) (Nat.le_of_ble_eq_true rfl) ?_
  intro p e s m args below meth c ls C hW hl
  have hx := C.1
  have hb := C.2.1
  have hl : lv_has ls 2 [(0, va_rf (some x0)), (1, .int x1)] := hl
  unfold wX6_beginRoutine at hw
  refine gx_aload_n hx hb dX6_beginRoutine_0 rfl (lv_at hl 0 rfl) ?_
  refine gx_getI C hW F6_25 (k := 388) rfl t0 rfl dX6_beginRoutine_1 ?_
  refine lv_if_lt (tgt := 17) hx hb dX6_beginRoutine_4 (by decide) (fun c1 => ?_) (fun c1 => ?_)
  · have hw := w_t hw c1
    exact gx_vret C hW (Nat.le_of_ble_eq_true rfl) (Nat.le_of_ble_eq_true rfl) hw dX6_beginRoutine_17
  · have hw := w_f hw c1
    refine gx_aload_n hx hb dX6_beginRoutine_7 rfl (lv_at hl 0 rfl) ?_
    refine gx_getI C hW F6_25 (k := 388) rfl t0 rfl dX6_beginRoutine_8 ?_
    refine lv_sipush (v := 2000) hx hb dX6_beginRoutine_11 (by decide) ?_
    refine lv_icmp_lt (tgt := 18) hx hb dX6_beginRoutine_14 (by decide) (fun c2 => ?_) (fun c2 => ?_)
    · have hw := w_t hw c2
      refine gx_aload_n hx hb dX6_beginRoutine_18 rfl (lv_at hl 0 rfl) ?_
      refine gx_getR C hW F6_17 (k := 385) rfl t0 rfl dX6_beginRoutine_19 ?_
      refine gx_aload_n hx hb dX6_beginRoutine_22 rfl (lv_at hl 0 rfl) ?_
      refine gx_getI C hW F6_25 (k := 388) rfl t0 rfl dX6_beginRoutine_23 ?_
      refine lv_iload_n hx hb dX6_beginRoutine_26 rfl (lv_at hl 1 rfl) ?_
      obtain ⟨a3, ha3, ta3, hw⟩ := hw
      obtain ⟨i4, hw⟩ := hw
      refine gx_iast C hW ha3 ta3 i4 dX6_beginRoutine_27 (fun H locs S5 eS5 hW hm => ?_)
      have hw := hw S5 eS5
      have t0 := hm _ _ t0
      have ta3 := hm _ _ ta3
      refine gx_aload_n hx hb dX6_beginRoutine_28 rfl (lv_at hl 0 rfl) ?_
      refine lv_dup hx hb dX6_beginRoutine_29 (va_rf_cat _) ?_
      refine gx_getI C hW F6_25 (k := 388) rfl t0 rfl dX6_beginRoutine_30 ?_
      refine lv_iconst (v := 1) hx hb dX6_beginRoutine_33 (by decide) ?_
      refine lv_iadd hx hb dX6_beginRoutine_34 ?_
      refine gx_putI (k := 388) C hW F6_25 (Or.inl rfl) rfl t0 rfl rfl rfl dX6_beginRoutine_35 (fun H locs S6 eS6 hW hm => ?_)
      have hw := hw S6 eS6
      have t0 := hm _ _ t0
      have ta3 := hm _ _ ta3
      refine gx_aload_n hx hb dX6_beginRoutine_38 rfl (lv_at hl 0 rfl) ?_
      refine gx_null hx hb dX6_beginRoutine_39 ?_
      refine gx_putR (k := 386) C hW F6_28 (Or.inl rfl) rfl rfl t0 rfl dX6_beginRoutine_40 (fun H locs S7 eS7 hW hm => ?_)
      have hw := hw S7 eS7
      have t0 := hm _ _ t0
      have ta3 := hm _ _ ta3
      exact gx_vret C hW (Nat.le_of_ble_eq_true rfl) (Nat.le_of_ble_eq_true rfl) hw dX6_beginRoutine_43
    · have hw := w_f hw c2
      exact gx_vret C hW (Nat.le_of_ble_eq_true rfl) (Nat.le_of_ble_eq_true rfl) hw dX6_beginRoutine_17
/-! TrialStair$Script.add -/
def wX6_add_b75 (x0 : Nat) (x5 : Option Nat) (S : Sg) (Q : Sg → Prop) : Prop := ∃ a13 : Nat, x5 = some a13 ∧ tg S a13 = 8 ∧ ∀ S14 : Sg, S14 = sFR S 453 a13 (fR S 386 x0) → ∀ S15 : Sg, S15 = sFR S14 386 x0 x5 → Q S15
def wX6_add_b114 (x0 : Nat) (x1 : Int32) (x4 : Int32) (x5 : Option Nat) (S : Sg) (Q : Sg → Prop) : Prop := (if x1 = (35 : Int32) then (if (x4 &&& (1 : Int32)) = 0 then ∃ a21 : Nat, x5 = some a21 ∧ tg S a21 = 8 ∧ wX6_beginRoutine x0 (fI S 448 a21) S (fun (S23 : Sg) => Q S23) else Q S) else Q S)
def wX6_add (x0 : Nat) (x1 : Int32) (x2 : Int32) (x3 : Int32) (x4 : Int32) (S0 : Sg) (Q : Sg → Prop) : Prop := (if (fI S0 387 x0) < 0 then Q S0 else (if (fI S0 387 x0) < (2000 : Int32) then ∀ S4 : Sg, S4 = nw S0 8 0 → wX7_init (sz S0) (fI S4 387 x0) x1 x2 x3 x4 S4 (fun (S6 : Sg) => ∀ y7 : Option Nat, y7 = (some (sz S0)) → ∃ a8 : Nat, (fR S6 384 x0) = some a8 ∧ tg S6 a8 = 17 ∧ vp_in (fI S6 387 x0) (ln S6 a8) ∧ ∀ S10 : Sg, S10 = sAR S6 a8 ((fI S6 387 x0)).toNatClampNeg (some (sz S0)) → ∀ S11 : Sg, S11 = sFI S10 387 x0 ((fI S10 387 x0) + (1 : Int32)) → (if x1 = (25 : Int32) then wX6_add_b75 x0 y7 S11 Q else (if x1 = (29 : Int32) then wX6_add_b75 x0 y7 S11 Q else (if x1 = (30 : Int32) then wX6_add_b75 x0 y7 S11 Q else (if x1 < (26 : Int32) then wX6_add_b114 x0 x1 x4 y7 S11 Q else (if (31 : Int32) < x1 then wX6_add_b114 x0 x1 x4 y7 S11 Q else wX6_fit x0 y7 S11 (fun (S26 : Sg) => Q S26))))))) else Q S0))
set_option maxHeartbeats 4000000 in
set_option maxRecDepth 100000 in
theorem kX6_add_b75 {p : Program} {l : Launch} {e : Env} {s : State} {m : MethodId} {args : Array Value} {below : List Frame} {meth : Method} {c : Code} {D : va_G} {cy : Nat → ClassId} {S0 : Sg} (C : gC p s m args meth c D cy cX6_add 6 yX6_add.cls none yX6_add.name) {H : Heap} {locs : List Loc} {ls : Array Slot} {x0 : Nat} {x5 : Option Nat} {S : Sg} {Q : Sg → Prop} (hW : gW D cy (gA S0) (tg S0) s.heap S H locs) (t0 : tg S x0 = 7) (hl : lv_has ls 6 [(0, va_rf (some x0)), (5, va_rf x5)]) (hw : wX6_add_b75 x0 x5 S Q) : W p l e { frames := 2, cells := 1, slots := 9, locals := 45 } s m args below meth c H locs 1 9 (MQ below (va_Qv Q (gB D cy S0) (gA S0)) args s 1 9 (gA S0)) (F0 m 75 ls []) := by
  have hx := C.1
  have hb := C.2.1
  unfold wX6_add_b75 at hw
  refine gx_aload hx hb dX6_add_75 (lv_at hl 1 rfl) ?_
  refine gx_aload_n hx hb dX6_add_77 rfl (lv_at hl 0 rfl) ?_
  refine gx_getR C hW F6_28 (k := 386) rfl t0 rfl dX6_add_78 ?_
  obtain ⟨a13, ha13, ta13, hw⟩ := hw
  refine gx_putR (k := 453) C hW F6_35 (Or.inl rfl) rfl ha13 ta13 rfl dX6_add_81 (fun H locs S14 eS14 hW hm => ?_)
  have hw := hw S14 eS14
  have t0 := hm _ _ t0
  have ta13 := hm _ _ ta13
  refine gx_aload_n hx hb dX6_add_84 rfl (lv_at hl 0 rfl) ?_
  refine gx_aload hx hb dX6_add_85 (lv_at hl 1 rfl) ?_
  refine gx_putR (k := 386) C hW F6_28 (Or.inl rfl) rfl rfl t0 rfl dX6_add_87 (fun H locs S15 eS15 hW hm => ?_)
  have hw := hw S15 eS15
  have t0 := hm _ _ t0
  have ta13 := hm _ _ ta13
  refine lv_goto (tgt := 136) hx hb dX6_add_90 (by decide) ?_
  exact gx_vret C hW (Nat.le_of_ble_eq_true rfl) (Nat.le_of_ble_eq_true rfl) hw dX6_add_136
set_option maxHeartbeats 4000000 in
set_option maxRecDepth 100000 in
theorem kX6_add_b114 {p : Program} {l : Launch} {e : Env} {s : State} {m : MethodId} {args : Array Value} {below : List Frame} {meth : Method} {c : Code} {D : va_G} {cy : Nat → ClassId} {S0 : Sg} (C : gC p s m args meth c D cy cX6_add 6 yX6_add.cls none yX6_add.name) {H : Heap} {locs : List Loc} {ls : Array Slot} {x0 : Nat} {x1 : Int32} {x4 : Int32} {x5 : Option Nat} {S : Sg} {Q : Sg → Prop} (hW : gW D cy (gA S0) (tg S0) s.heap S H locs) (t0 : tg S x0 = 7) (hl : lv_has ls 6 [(0, va_rf (some x0)), (1, .int x1), (4, .int x4), (5, va_rf x5)]) (hw : wX6_add_b114 x0 x1 x4 x5 S Q) : W p l e { frames := 2, cells := 1, slots := 9, locals := 45 } s m args below meth c H locs 1 9 (MQ below (va_Qv Q (gB D cy S0) (gA S0)) args s 1 9 (gA S0)) (F0 m 114 ls []) := by
  have hx := C.1
  have hb := C.2.1
  unfold wX6_add_b114 at hw
  refine lv_iload_n hx hb dX6_add_114 rfl (lv_at hl 1 rfl) ?_
  refine lv_bipush (v := 35) hx hb dX6_add_115 (by decide) ?_
  refine lv_icmp_ne (tgt := 136) hx hb dX6_add_117 (by decide) (fun c19 => ?_) (fun c19 => ?_)
  · have hw := w_f hw c19
    exact gx_vret C hW (Nat.le_of_ble_eq_true rfl) (Nat.le_of_ble_eq_true rfl) hw dX6_add_136
  · have hw := w_t hw c19
    refine lv_iload hx hb dX6_add_120 (lv_at hl 2 rfl) ?_
    refine lv_iconst (v := 1) hx hb dX6_add_122 (by decide) ?_
    refine lv_iand hx hb dX6_add_123 ?_
    refine lv_if_ne (tgt := 136) hx hb dX6_add_124 (by decide) (fun c20 => ?_) (fun c20 => ?_)
    · have hw := w_f hw c20
      exact gx_vret C hW (Nat.le_of_ble_eq_true rfl) (Nat.le_of_ble_eq_true rfl) hw dX6_add_136
    · have hw := w_t hw c20
      refine gx_aload_n hx hb dX6_add_127 rfl (lv_at hl 0 rfl) ?_
      refine gx_aload hx hb dX6_add_128 (lv_at hl 3 rfl) ?_
      obtain ⟨a21, ha21, ta21, hw⟩ := hw
      refine gx_getI C hW F6_42 (k := 448) ha21 ta21 rfl dX6_add_130 ?_
      refine gx_cv (gx_rV C hW M6_45 (mX6_beginRoutine l D cy _ _ _ _ t0 hw) rfl rfl ⟨Nat.le_of_ble_eq_true rfl, Nat.le_of_ble_eq_true rfl⟩ rfl t0 (by decide) rfl rfl hl.1 rfl (gx_room0 (n := 4) (Nat.le_of_ble_eq_true rfl)) dX6_add_133 ⟨Nat.le_of_ble_eq_true rfl, Nat.le_of_ble_eq_true rfl⟩) hW (fun S23 H locs hW hm hw => ?_)
      have t0 := hm _ _ t0
      have ta21 := hm _ _ ta21
      exact gx_vret C hW (Nat.le_of_ble_eq_true rfl) (Nat.le_of_ble_eq_true rfl) hw dX6_add_136
set_option maxHeartbeats 4000000 in
set_option maxRecDepth 100000 in
theorem mX6_add (l : Launch) (D : va_G) (cy : Nat → ClassId) (x0 : Nat) (x1 : Int32) (x2 : Int32) (x3 : Int32) (x4 : Int32) (S0 : Sg) (Q : Sg → Prop) (t0 : tg S0 x0 = 7) (hw : wX6_add x0 x1 x2 x3 x4 S0 Q) : Met l yX6_add (.code yX6_add cX6_add 6 none :: wsL_law) { frames := 2, cells := 1, slots := 9, locals := 45 } (gPc D cy [va_rf (some x0), .int x1, .int x2, .int x3, .int x4] S0) (va_Qv Q (gB D cy S0) (gA S0)) 1 9 (gA S0) := by
  refine gx_met (by decide) (Nat.le_of_ble_eq_true rfl) ?_
  intro p e s m args below meth c ls C hW hl
  have hx := C.1
  have hb := C.2.1
  have hl : lv_has ls 6 [(0, va_rf (some x0)), (1, .int x1), (2, .int x2), (3, .int x3), (4, .int x4)] := hl
  unfold wX6_add at hw
  refine gx_aload_n hx hb dX6_add_0 rfl (lv_at hl 0 rfl) ?_
  refine gx_getI C hW F6_21 (k := 387) rfl t0 rfl dX6_add_1 ?_
  refine lv_if_lt (tgt := 17) hx hb dX6_add_4 (by decide) (fun c1 => ?_) (fun c1 => ?_)
  · have hw := w_t hw c1
    exact gx_vret C hW (Nat.le_of_ble_eq_true rfl) (Nat.le_of_ble_eq_true rfl) hw dX6_add_17
  · have hw := w_f hw c1
    refine gx_aload_n hx hb dX6_add_7 rfl (lv_at hl 0 rfl) ?_
    refine gx_getI C hW F6_21 (k := 387) rfl t0 rfl dX6_add_8 ?_
    refine lv_sipush (v := 2000) hx hb dX6_add_11 (by decide) ?_
    refine lv_icmp_lt (tgt := 18) hx hb dX6_add_14 (by decide) (fun c2 => ?_) (fun c2 => ?_)
    · have hw := w_t hw c2
      refine gx_new C hW N6_9 (Nat.le_of_ble_eq_true rfl) (Nat.le_of_ble_eq_true rfl) dX6_add_18 (fun H S4 eS4 hW hm t3 => ?_)
      have hw := hw S4 eS4
      have t0 := hm _ _ t0
      refine lv_dup hx hb dX6_add_21 (va_rf_cat _) ?_
      refine gx_aload_n hx hb dX6_add_22 rfl (lv_at hl 0 rfl) ?_
      refine gx_getI C hW F6_21 (k := 387) rfl t0 rfl dX6_add_23 ?_
      refine lv_iload_n hx hb dX6_add_26 rfl (lv_at hl 1 rfl) ?_
      refine lv_iload_n hx hb dX6_add_27 rfl (lv_at hl 2 rfl) ?_
      refine lv_iload_n hx hb dX6_add_28 rfl (lv_at hl 3 rfl) ?_
      refine lv_iload hx hb dX6_add_29 (lv_at hl 4 rfl) ?_
      refine gx_cv (gx_rI C hW M6_32 (mX7_init l D cy _ _ _ _ _ _ _ _ t3 hw) rfl rfl ⟨Nat.le_of_ble_eq_true rfl, Nat.le_of_ble_eq_true rfl⟩ rfl rfl hl.1 rfl (gx_room0 (n := 4) (Nat.le_of_ble_eq_true rfl)) dX6_add_31 ⟨Nat.le_of_ble_eq_true rfl, Nat.le_of_ble_eq_true rfl⟩) hW (fun S6 H locs hW hm hw => ?_)
      have t0 := hm _ _ t0
      have t3 := hm _ _ t3
      refine gx_topr (fun y7 ey7 => ?_)
      have hw := hw y7 ey7
      refine gx_astore (lv' := [(5, va_rf y7), (0, va_rf (some x0)), (1, .int x1), (2, .int x2), (3, .int x3), (4, .int x4)]) hx hb dX6_add_34 hl (by decide) rfl (fun ls hl => ?_)
      refine gx_aload_n hx hb dX6_add_36 rfl (lv_at hl 1 rfl) ?_
      refine gx_getR C hW F6_11 (k := 384) rfl t0 rfl dX6_add_37 ?_
      refine gx_aload_n hx hb dX6_add_40 rfl (lv_at hl 1 rfl) ?_
      refine gx_getI C hW F6_21 (k := 387) rfl t0 rfl dX6_add_41 ?_
      refine gx_aload hx hb dX6_add_44 (lv_at hl 0 rfl) ?_
      obtain ⟨a8, ha8, ta8, hw⟩ := hw
      obtain ⟨i9, hw⟩ := hw
      refine gx_aast4 C hW ha8 ey7 ta8 t3 i9 dX6_add_46 (fun H locs S10 eS10 hW hm => ?_)
      have hw := hw S10 eS10
      have t0 := hm _ _ t0
      have t3 := hm _ _ t3
      have ta8 := hm _ _ ta8
      refine gx_aload_n hx hb dX6_add_47 rfl (lv_at hl 1 rfl) ?_
      refine lv_dup hx hb dX6_add_48 (va_rf_cat _) ?_
      refine gx_getI C hW F6_21 (k := 387) rfl t0 rfl dX6_add_49 ?_
      refine lv_iconst (v := 1) hx hb dX6_add_52 (by decide) ?_
      refine lv_iadd hx hb dX6_add_53 ?_
      refine gx_putI (k := 387) C hW F6_21 (Or.inl rfl) rfl t0 rfl rfl rfl dX6_add_54 (fun H locs S11 eS11 hW hm => ?_)
      have hw := hw S11 eS11
      have t0 := hm _ _ t0
      have t3 := hm _ _ t3
      have ta8 := hm _ _ ta8
      refine lv_iload_n hx hb dX6_add_57 rfl (lv_at hl 2 rfl) ?_
      refine lv_bipush (v := 25) hx hb dX6_add_58 (by decide) ?_
      refine lv_icmp_eq (tgt := 75) hx hb dX6_add_60 (by decide) (fun c12 => ?_) (fun c12 => ?_)
      · have hw := w_t hw c12
        exact kX6_add_b75 C hW t0 (lv_sub hl [1, 0] rfl) hw
      · have hw := w_f hw c12
        refine lv_iload_n hx hb dX6_add_63 rfl (lv_at hl 2 rfl) ?_
        refine lv_bipush (v := 29) hx hb dX6_add_64 (by decide) ?_
        refine lv_icmp_eq (tgt := 75) hx hb dX6_add_66 (by decide) (fun c16 => ?_) (fun c16 => ?_)
        · have hw := w_t hw c16
          exact kX6_add_b75 C hW t0 (lv_sub hl [1, 0] rfl) hw
        · have hw := w_f hw c16
          refine lv_iload_n hx hb dX6_add_69 rfl (lv_at hl 2 rfl) ?_
          refine lv_bipush (v := 30) hx hb dX6_add_70 (by decide) ?_
          refine lv_icmp_ne (tgt := 93) hx hb dX6_add_72 (by decide) (fun c17 => ?_) (fun c17 => ?_)
          · have hw := w_f hw c17
            refine lv_iload_n hx hb dX6_add_93 rfl (lv_at hl 2 rfl) ?_
            refine lv_bipush (v := 26) hx hb dX6_add_94 (by decide) ?_
            refine lv_icmp_lt (tgt := 114) hx hb dX6_add_96 (by decide) (fun c18 => ?_) (fun c18 => ?_)
            · have hw := w_t hw c18
              exact kX6_add_b114 C hW t0 (lv_sub hl [1, 2, 5, 0] rfl) hw
            · have hw := w_f hw c18
              refine lv_iload_n hx hb dX6_add_99 rfl (lv_at hl 2 rfl) ?_
              refine lv_bipush (v := 31) hx hb dX6_add_100 (by decide) ?_
              refine lv_icmp_gt (tgt := 114) hx hb dX6_add_102 (by decide) (fun c24 => ?_) (fun c24 => ?_)
              · have hw := w_t hw c24
                exact kX6_add_b114 C hW t0 (lv_sub hl [1, 2, 5, 0] rfl) hw
              · have hw := w_f hw c24
                refine gx_aload_n hx hb dX6_add_105 rfl (lv_at hl 1 rfl) ?_
                refine gx_aload hx hb dX6_add_106 (lv_at hl 0 rfl) ?_
                refine gx_cv (gx_rV C hW M6_38 (mX6_fit l D cy _ _ _ _ t0 hw) rfl rfl ⟨Nat.le_of_ble_eq_true rfl, Nat.le_of_ble_eq_true rfl⟩ rfl t0 (by decide) rfl rfl hl.1 rfl (gx_room0 (n := 4) (Nat.le_of_ble_eq_true rfl)) dX6_add_108 ⟨Nat.le_of_ble_eq_true rfl, Nat.le_of_ble_eq_true rfl⟩) hW (fun S26 H locs hW hm hw => ?_)
                have t0 := hm _ _ t0
                have t3 := hm _ _ t3
                have ta8 := hm _ _ ta8
                refine lv_goto (tgt := 136) hx hb dX6_add_111 (by decide) ?_
                exact gx_vret C hW (Nat.le_of_ble_eq_true rfl) (Nat.le_of_ble_eq_true rfl) hw dX6_add_136
          · have hw := w_t hw c17
            exact kX6_add_b75 C hW t0 (lv_sub hl [1, 0] rfl) hw
    · have hw := w_f hw c2
      exact gx_vret C hW (Nat.le_of_ble_eq_true rfl) (Nat.le_of_ble_eq_true rfl) hw dX6_add_17
/-! TrialStair$Script.hasRoutine -/
def wX6_hasRoutine (x0 : Nat) (x1 : Int32) (S0 : Sg) (Q : Int32 → Sg → Prop) : Prop := (if x1 < 0 then Q (0 : Int32) S0 else (if (fI S0 388 x0) ≤ x1 then Q (0 : Int32) S0 else (if (2000 : Int32) ≤ x1 then Q (0 : Int32) S0 else Q (1 : Int32) S0)))
set_option maxHeartbeats 4000000 in
set_option maxRecDepth 100000 in
theorem mX6_hasRoutine (l : Launch) (D : va_G) (cy : Nat → ClassId) (x0 : Nat) (x1 : Int32) (S0 : Sg) (Q : Int32 → Sg → Prop) (t0 : tg S0 x0 = 7) (hw : wX6_hasRoutine x0 x1 S0 Q) : Met l yX6_hasRoutine (.code yX6_hasRoutine cX6_hasRoutine 2 (some .boolean) :: wsL_law) { frames := 0, cells := 0, slots := 0, locals := 0 } (gPc D cy [va_rf (some x0), .int x1] S0) (va_Qi Q (gB D cy S0) (gA S0)) 0 0 (gA S0) := by
  refine gx_met (by decide) (Nat.le_of_ble_eq_true rfl) ?_
  intro p e s m args below meth c ls C hW hl
  have hx := C.1
  have hb := C.2.1
  have hl : lv_has ls 2 [(0, va_rf (some x0)), (1, .int x1)] := hl
  unfold wX6_hasRoutine at hw
  refine lv_iload_n hx hb dX6_hasRoutine_0 rfl (lv_at hl 1 rfl) ?_
  refine lv_if_lt (tgt := 23) hx hb dX6_hasRoutine_1 (by decide) (fun c1 => ?_) (fun c1 => ?_)
  · have hw := w_t hw c1
    refine lv_iconst (v := 0) hx hb dX6_hasRoutine_23 (by decide) ?_
    exact gx_iret C hW (Nat.le_of_ble_eq_true rfl) (Nat.le_of_ble_eq_true rfl) rfl hw dX6_hasRoutine_24
  · have hw := w_f hw c1
    refine lv_iload_n hx hb dX6_hasRoutine_4 rfl (lv_at hl 1 rfl) ?_
    refine gx_aload_n hx hb dX6_hasRoutine_5 rfl (lv_at hl 0 rfl) ?_
    refine gx_getI C hW F6_25 (k := 388) rfl t0 rfl dX6_hasRoutine_6 ?_
    refine lv_icmp_ge (tgt := 23) hx hb dX6_hasRoutine_9 (by decide) (fun c2 => ?_) (fun c2 => ?_)
    · have hw := w_t hw c2
      refine lv_iconst (v := 0) hx hb dX6_hasRoutine_23 (by decide) ?_
      exact gx_iret C hW (Nat.le_of_ble_eq_true rfl) (Nat.le_of_ble_eq_true rfl) rfl hw dX6_hasRoutine_24
    · have hw := w_f hw c2
      refine lv_iload_n hx hb dX6_hasRoutine_12 rfl (lv_at hl 1 rfl) ?_
      refine lv_sipush (v := 2000) hx hb dX6_hasRoutine_13 (by decide) ?_
      refine lv_icmp_ge (tgt := 23) hx hb dX6_hasRoutine_16 (by decide) (fun c3 => ?_) (fun c3 => ?_)
      · have hw := w_t hw c3
        refine lv_iconst (v := 0) hx hb dX6_hasRoutine_23 (by decide) ?_
        exact gx_iret C hW (Nat.le_of_ble_eq_true rfl) (Nat.le_of_ble_eq_true rfl) rfl hw dX6_hasRoutine_24
      · have hw := w_f hw c3
        refine lv_iconst (v := 1) hx hb dX6_hasRoutine_19 (by decide) ?_
        refine lv_goto (tgt := 24) hx hb dX6_hasRoutine_20 (by decide) ?_
        exact gx_iret C hW (Nat.le_of_ble_eq_true rfl) (Nat.le_of_ble_eq_true rfl) rfl hw dX6_hasRoutine_24
/-! TrialStair$Script.firstPlaceOf -/
def wX6_firstPlaceOf (x0 : Nat) (x1 : Int32) (S0 : Sg) (Q : Int32 → Sg → Prop) : Prop := wX6_hasRoutine x0 x1 S0 (fun (r1 : Int32) (S2 : Sg) => (if r1 = 0 then Q (fI S2 387 x0) S2 else ∃ a4 : Nat, (fR S2 385 x0) = some a4 ∧ tg S2 a4 = 13 ∧ vp_in x1 (ln S2 a4) ∧ Q ((aI S2 a4 (x1).toNatClampNeg) + (1 : Int32)) S2))
set_option maxHeartbeats 4000000 in
set_option maxRecDepth 100000 in
theorem mX6_firstPlaceOf (l : Launch) (D : va_G) (cy : Nat → ClassId) (x0 : Nat) (x1 : Int32) (S0 : Sg) (Q : Int32 → Sg → Prop) (t0 : tg S0 x0 = 7) (hw : wX6_firstPlaceOf x0 x1 S0 Q) : Met l yX6_firstPlaceOf (.code yX6_firstPlaceOf cX6_firstPlaceOf 2 (some .int) :: wsL_law) { frames := 1, cells := 0, slots := 0, locals := 21 } (gPc D cy [va_rf (some x0), .int x1] S0) (va_Qi Q (gB D cy S0) (gA S0)) 0 0 (gA S0) := by
  refine gx_met (by decide) (Nat.le_of_ble_eq_true rfl) ?_
  intro p e s m args below meth c ls C hW hl
  have hx := C.1
  have hb := C.2.1
  have hl : lv_has ls 2 [(0, va_rf (some x0)), (1, .int x1)] := hl
  unfold wX6_firstPlaceOf at hw
  refine gx_aload_n hx hb dX6_firstPlaceOf_0 rfl (lv_at hl 0 rfl) ?_
  refine lv_iload_n hx hb dX6_firstPlaceOf_1 rfl (lv_at hl 1 rfl) ?_
  refine gx_ci (gx_rV C hW M6_61 (mX6_hasRoutine l D cy _ _ _ _ t0 hw) rfl rfl ⟨Nat.le_of_ble_eq_true rfl, Nat.le_of_ble_eq_true rfl⟩ rfl t0 (by decide) rfl rfl hl.1 rfl (gx_room0 (n := 4) (Nat.le_of_ble_eq_true rfl)) dX6_firstPlaceOf_2 ⟨Nat.le_of_ble_eq_true rfl, Nat.le_of_ble_eq_true rfl⟩) hW (fun r1 S2 H locs hW hm hw => ?_)
  have t0 := hm _ _ t0
  refine lv_if_eq (tgt := 19) hx hb dX6_firstPlaceOf_5 (by decide) (fun c3 => ?_) (fun c3 => ?_)
  · have hw := w_t hw c3
    refine gx_aload_n hx hb dX6_firstPlaceOf_19 rfl (lv_at hl 0 rfl) ?_
    refine gx_getI C hW F6_21 (k := 387) rfl t0 rfl dX6_firstPlaceOf_20 ?_
    exact gx_iret C hW (Nat.le_of_ble_eq_true rfl) (Nat.le_of_ble_eq_true rfl) rfl hw dX6_firstPlaceOf_23
  · have hw := w_f hw c3
    refine gx_aload_n hx hb dX6_firstPlaceOf_8 rfl (lv_at hl 0 rfl) ?_
    refine gx_getR C hW F6_17 (k := 385) rfl t0 rfl dX6_firstPlaceOf_9 ?_
    refine lv_iload_n hx hb dX6_firstPlaceOf_12 rfl (lv_at hl 1 rfl) ?_
    obtain ⟨a4, ha4, ta4, hw⟩ := hw
    obtain ⟨i5, hw⟩ := hw
    refine gx_iald C hW ha4 ta4 i5 dX6_firstPlaceOf_13 ?_
    refine lv_iconst (v := 1) hx hb dX6_firstPlaceOf_14 (by decide) ?_
    refine lv_iadd hx hb dX6_firstPlaceOf_15 ?_
    refine lv_goto (tgt := 23) hx hb dX6_firstPlaceOf_16 (by decide) ?_
    exact gx_iret C hW (Nat.le_of_ble_eq_true rfl) (Nat.le_of_ble_eq_true rfl) rfl hw dX6_firstPlaceOf_23
/-! TrialStair$Script.placeBehind -/
def wX6_placeBehind (x0 : Nat) (x1 : Int32) (S0 : Sg) (Q : Int32 → Sg → Prop) : Prop := wX6_hasRoutine x0 (x1 + (1 : Int32)) S0 (fun (r1 : Int32) (S2 : Sg) => (if r1 = 0 then Q (fI S2 387 x0) S2 else ∃ a4 : Nat, (fR S2 385 x0) = some a4 ∧ tg S2 a4 = 13 ∧ vp_in (x1 + (1 : Int32)) (ln S2 a4) ∧ Q (aI S2 a4 ((x1 + (1 : Int32))).toNatClampNeg) S2))
set_option maxHeartbeats 4000000 in
set_option maxRecDepth 100000 in
theorem mX6_placeBehind (l : Launch) (D : va_G) (cy : Nat → ClassId) (x0 : Nat) (x1 : Int32) (S0 : Sg) (Q : Int32 → Sg → Prop) (t0 : tg S0 x0 = 7) (hw : wX6_placeBehind x0 x1 S0 Q) : Met l yX6_placeBehind (.code yX6_placeBehind cX6_placeBehind 2 (some .int) :: wsL_law) { frames := 1, cells := 0, slots := 0, locals := 21 } (gPc D cy [va_rf (some x0), .int x1] S0) (va_Qi Q (gB D cy S0) (gA S0)) 0 0 (gA S0) := by
  refine gx_met (by decide) (Nat.le_of_ble_eq_true rfl) ?_
  intro p e s m args below meth c ls C hW hl
  have hx := C.1
  have hb := C.2.1
  have hl : lv_has ls 2 [(0, va_rf (some x0)), (1, .int x1)] := hl
  unfold wX6_placeBehind at hw
  refine gx_aload_n hx hb dX6_placeBehind_0 rfl (lv_at hl 0 rfl) ?_
  refine lv_iload_n hx hb dX6_placeBehind_1 rfl (lv_at hl 1 rfl) ?_
  refine lv_iconst (v := 1) hx hb dX6_placeBehind_2 (by decide) ?_
  refine lv_iadd hx hb dX6_placeBehind_3 ?_
  refine gx_ci (gx_rV C hW M6_61 (mX6_hasRoutine l D cy _ _ _ _ t0 hw) rfl rfl ⟨Nat.le_of_ble_eq_true rfl, Nat.le_of_ble_eq_true rfl⟩ rfl t0 (by decide) rfl rfl hl.1 rfl (gx_room0 (n := 4) (Nat.le_of_ble_eq_true rfl)) dX6_placeBehind_4 ⟨Nat.le_of_ble_eq_true rfl, Nat.le_of_ble_eq_true rfl⟩) hW (fun r1 S2 H locs hW hm hw => ?_)
  have t0 := hm _ _ t0
  refine lv_if_eq (tgt := 21) hx hb dX6_placeBehind_7 (by decide) (fun c3 => ?_) (fun c3 => ?_)
  · have hw := w_t hw c3
    refine gx_aload_n hx hb dX6_placeBehind_21 rfl (lv_at hl 0 rfl) ?_
    refine gx_getI C hW F6_21 (k := 387) rfl t0 rfl dX6_placeBehind_22 ?_
    exact gx_iret C hW (Nat.le_of_ble_eq_true rfl) (Nat.le_of_ble_eq_true rfl) rfl hw dX6_placeBehind_25
  · have hw := w_f hw c3
    refine gx_aload_n hx hb dX6_placeBehind_10 rfl (lv_at hl 0 rfl) ?_
    refine gx_getR C hW F6_17 (k := 385) rfl t0 rfl dX6_placeBehind_11 ?_
    refine lv_iload_n hx hb dX6_placeBehind_14 rfl (lv_at hl 1 rfl) ?_
    refine lv_iconst (v := 1) hx hb dX6_placeBehind_15 (by decide) ?_
    refine lv_iadd hx hb dX6_placeBehind_16 ?_
    obtain ⟨a4, ha4, ta4, hw⟩ := hw
    obtain ⟨i5, hw⟩ := hw
    refine gx_iald C hW ha4 ta4 i5 dX6_placeBehind_17 ?_
    refine lv_goto (tgt := 25) hx hb dX6_placeBehind_18 (by decide) ?_
    exact gx_iret C hW (Nat.le_of_ble_eq_true rfl) (Nat.le_of_ble_eq_true rfl) rfl hw dX6_placeBehind_25
/-! TrialStair$Script.stepAt -/
def wX6_stepAt (x0 : Nat) (x1 : Int32) (S0 : Sg) (Q : Option Nat → Sg → Prop) : Prop := (if x1 < 0 then Q none S0 else (if (fI S0 387 x0) ≤ x1 then Q none S0 else (if (2000 : Int32) ≤ x1 then Q none S0 else ∃ a4 : Nat, (fR S0 384 x0) = some a4 ∧ tg S0 a4 = 17 ∧ vp_in x1 (ln S0 a4) ∧ Q (aR S0 a4 (x1).toNatClampNeg) S0)))
set_option maxHeartbeats 4000000 in
set_option maxRecDepth 100000 in
theorem mX6_stepAt (l : Launch) (D : va_G) (cy : Nat → ClassId) (x0 : Nat) (x1 : Int32) (S0 : Sg) (Q : Option Nat → Sg → Prop) (t0 : tg S0 x0 = 7) (hw : wX6_stepAt x0 x1 S0 Q) : Met l yX6_stepAt (.code yX6_stepAt cX6_stepAt 2 (some (.object "TrialStair$Step")) :: wsL_law) { frames := 0, cells := 0, slots := 0, locals := 0 } (gPc D cy [va_rf (some x0), .int x1] S0) (va_Qq Q (gB D cy S0) (gA S0)) 0 0 (gA S0) := by
  refine gx_met (by decide) (Nat.le_of_ble_eq_true rfl) ?_
  intro p e s m args below meth c ls C hW hl
  have hx := C.1
  have hb := C.2.1
  have hl : lv_has ls 2 [(0, va_rf (some x0)), (1, .int x1)] := hl
  unfold wX6_stepAt at hw
  refine lv_iload_n hx hb dX6_stepAt_0 rfl (lv_at hl 1 rfl) ?_
  refine lv_if_lt (tgt := 28) hx hb dX6_stepAt_1 (by decide) (fun c1 => ?_) (fun c1 => ?_)
  · have hw := w_t hw c1
    refine gx_null hx hb dX6_stepAt_28 ?_
    exact gx_aret C hW (Nat.le_of_ble_eq_true rfl) (Nat.le_of_ble_eq_true rfl) hw dX6_stepAt_29
  · have hw := w_f hw c1
    refine lv_iload_n hx hb dX6_stepAt_4 rfl (lv_at hl 1 rfl) ?_
    refine gx_aload_n hx hb dX6_stepAt_5 rfl (lv_at hl 0 rfl) ?_
    refine gx_getI C hW F6_21 (k := 387) rfl t0 rfl dX6_stepAt_6 ?_
    refine lv_icmp_ge (tgt := 28) hx hb dX6_stepAt_9 (by decide) (fun c2 => ?_) (fun c2 => ?_)
    · have hw := w_t hw c2
      refine gx_null hx hb dX6_stepAt_28 ?_
      exact gx_aret C hW (Nat.le_of_ble_eq_true rfl) (Nat.le_of_ble_eq_true rfl) hw dX6_stepAt_29
    · have hw := w_f hw c2
      refine lv_iload_n hx hb dX6_stepAt_12 rfl (lv_at hl 1 rfl) ?_
      refine lv_sipush (v := 2000) hx hb dX6_stepAt_13 (by decide) ?_
      refine lv_icmp_ge (tgt := 28) hx hb dX6_stepAt_16 (by decide) (fun c3 => ?_) (fun c3 => ?_)
      · have hw := w_t hw c3
        refine gx_null hx hb dX6_stepAt_28 ?_
        exact gx_aret C hW (Nat.le_of_ble_eq_true rfl) (Nat.le_of_ble_eq_true rfl) hw dX6_stepAt_29
      · have hw := w_f hw c3
        refine gx_aload_n hx hb dX6_stepAt_19 rfl (lv_at hl 0 rfl) ?_
        refine gx_getR C hW F6_11 (k := 384) rfl t0 rfl dX6_stepAt_20 ?_
        refine lv_iload_n hx hb dX6_stepAt_23 rfl (lv_at hl 1 rfl) ?_
        obtain ⟨a4, ha4, ta4, hw⟩ := hw
        obtain ⟨i5, hw⟩ := hw
        refine gx_aald C hW ha4 (Or.inr (Or.inl ta4)) i5 dX6_stepAt_24 ?_
        refine lv_goto (tgt := 29) hx hb dX6_stepAt_25 (by decide) ?_
        exact gx_aret C hW (Nat.le_of_ble_eq_true rfl) (Nat.le_of_ble_eq_true rfl) hw dX6_stepAt_29
