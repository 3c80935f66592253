/-! TrialStair$Failure.<init> -/
def wX0_init (x0 : Nat) (x1 : Int32) (x2 : Option Nat) (S0 : Sg) (Q : Sg → Prop) : Prop := ∀ S1 : Sg, S1 = sFI S0 0 x0 x1 → ∀ S2 : Sg, S2 = sFR S1 1 x0 x2 → Q S2
set_option maxHeartbeats 4000000 in
set_option maxRecDepth 100000 in
theorem mX0_init (l : Launch) (D : va_G) (cy : Nat → ClassId) (x0 : Nat) (x1 : Int32) (x2 : Option Nat) (S0 : Sg) (Q : Sg → Prop) (t0 : tg S0 x0 = 1) (hw : wX0_init x0 x1 x2 S0 Q) : Met l yX0_init (.code yX0_init cX0_init 3 none :: wsL_law) { frames := 1, cells := 0, slots := 0, locals := 20 } (gPc D cy [va_rf (some x0), .int x1, va_rf x2] S0) (va_Qv Q (gB D cy S0) (gA S0)) 0 0 (gA S0) := by
  refine gx_met (by decide) (by simp [lg_sl, va_rf_cat, cat_i, cat_l]) ?_
  intro p e s m args below meth c ls C hW hl
  have hx := C.1
  have hb := C.2.1
  have hl : lv_has ls 3 [(0, va_rf (some x0)), (1, .int x1), (2, va_rf x2)] := by simpa [lv_args, va_rf_cat, cat_i, cat_l] using hl
  unfold wX0_init at hw
  refine gx_aload_n hx hb dX0_init_0 rfl (lv_at hl 0 rfl) ?_
  refine gx_objInit C (List.mem_of_getElem? (i := 347) (by decide +kernel)) (List.mem_of_getElem? (i := 10) (by decide +kernel)) (List.mem_of_getElem? (i := 11) (by decide +kernel)) rfl hl.1 dX0_init_1 (Nat.le_of_ble_eq_true rfl) (Nat.le_of_ble_eq_true rfl) (Nat.le_of_ble_eq_true rfl) ?_
  refine gx_aload_n hx hb dX0_init_4 rfl (lv_at hl 0 rfl) ?_
  refine lv_iload_n hx hb dX0_init_5 rfl (lv_at hl 1 rfl) ?_
  refine gx_putI (k := 0) C hW F0_7 (Or.inr ⟨rfl, rfl, rfl⟩) rfl t0 rfl rfl rfl dX0_init_6 (fun H locs S1 eS1 hW hm => ?_)
  have hw := hw S1 eS1
  have t0 := hm _ _ t0
  refine gx_aload_n hx hb dX0_init_9 rfl (lv_at hl 0 rfl) ?_
  refine gx_aload_n hx hb dX0_init_10 rfl (lv_at hl 2 rfl) ?_
  refine gx_putR (k := 1) C hW F0_13 (Or.inr ⟨rfl, rfl, rfl⟩) rfl rfl t0 rfl dX0_init_11 (fun H locs S2 eS2 hW hm => ?_)
  have hw := hw S2 eS2
  have t0 := hm _ _ t0
  exact gx_vret C hW (Nat.le_of_ble_eq_true rfl) (Nat.le_of_ble_eq_true rfl) hw dX0_init_14
/-! TrialStair$Step.<init> -/
def wX7_init (x0 : Nat) (x1 : Int32) (x2 : Int32) (x3 : Int32) (x4 : Int32) (x5 : Int32) (S0 : Sg) (Q : Sg → Prop) : Prop := ∀ S1 : Sg, S1 = sFI S0 454 x0 (-1 : Int32) → ∀ S2 : Sg, S2 = sFI S1 455 x0 (-1 : Int32) → ∀ S3 : Sg, S3 = sFI S2 456 x0 (-1 : Int32) → ∀ S4 : Sg, S4 = sFI S3 448 x0 x1 → ∀ S5 : Sg, S5 = sFI S4 449 x0 x2 → ∀ S6 : Sg, S6 = sFI S5 450 x0 x3 → ∀ S7 : Sg, S7 = sFI S6 451 x0 x4 → ∀ S8 : Sg, S8 = sFI S7 452 x0 x5 → Q S8
set_option maxHeartbeats 4000000 in
set_option maxRecDepth 100000 in
theorem mX7_init (l : Launch) (D : va_G) (cy : Nat → ClassId) (x0 : Nat) (x1 : Int32) (x2 : Int32) (x3 : Int32) (x4 : Int32) (x5 : Int32) (S0 : Sg) (Q : Sg → Prop) (t0 : tg S0 x0 = 8) (hw : wX7_init x0 x1 x2 x3 x4 x5 S0 Q) : Met l yX7_init (.code yX7_init cX7_init 6 none :: wsL_law) { frames := 1, cells := 0, slots := 0, locals := 20 } (gPc D cy [va_rf (some x0), .int x1, .int x2, .int x3, .int x4, .int x5] S0) (va_Qv Q (gB D cy S0) (gA S0)) 0 0 (gA S0) := by
  refine gx_met (by decide) (Nat.le_of_ble_eq_true rfl) ?_
  intro p e s m args below meth c ls C hW hl
  have hx := C.1
  have hb := C.2.1
  have hl : lv_has ls 6 [(0, va_rf (some x0)), (1, .int x1), (2, .int x2), (3, .int x3), (4, .int x4), (5, .int x5)] := hl
  unfold wX7_init at hw
  refine gx_aload_n hx hb dX7_init_0 rfl (lv_at hl 0 rfl) ?_
  refine gx_objInit C (List.mem_of_getElem? (i := 72) (by decide +kernel)) (List.mem_of_getElem? (i := 10) (by decide +kernel)) (List.mem_of_getElem? (i := 11) (by decide +kernel)) rfl hl.1 dX7_init_1 (Nat.le_of_ble_eq_true rfl) (Nat.le_of_ble_eq_true rfl) (Nat.le_of_ble_eq_true rfl) ?_
  refine gx_aload_n hx hb dX7_init_4 rfl (lv_at hl 0 rfl) ?_
  refine lv_iconst (v := -1) hx hb dX7_init_5 (by decide) ?_
  refine gx_putI (k := 454) C hW F7_7 (Or.inl rfl) rfl t0 rfl rfl rfl dX7_init_6 (fun H locs S1 eS1 hW hm => ?_)
  have hw := hw S1 eS1
  have t0 := hm _ _ t0
  refine gx_aload_n hx hb dX7_init_9 rfl (lv_at hl 0 rfl) ?_
  refine lv_iconst (v := -1) hx hb dX7_init_10 (by decide) ?_
  refine gx_putI (k := 455) C hW F7_13 (Or.inl rfl) rfl t0 rfl rfl rfl dX7_init_11 (fun H locs S2 eS2 hW hm => ?_)
  have hw := hw S2 eS2
  have t0 := hm _ _ t0
  refine gx_aload_n hx hb dX7_init_14 rfl (lv_at hl 0 rfl) ?_
  refine lv_iconst (v := -1) hx hb dX7_init_15 (by decide) ?_
  refine gx_putI (k := 456) C hW F7_16 (Or.inl rfl) rfl t0 rfl rfl rfl dX7_init_16 (fun H locs S3 eS3 hW hm => ?_)
  have hw := hw S3 eS3
  have t0 := hm _ _ t0
  refine gx_aload_n hx hb dX7_init_19 rfl (lv_at hl 0 rfl) ?_
  refine lv_iload_n hx hb dX7_init_20 rfl (lv_at hl 1 rfl) ?_
  refine gx_putI (k := 448) C hW F7_19 (Or.inr ⟨rfl, rfl, rfl⟩) rfl t0 rfl rfl rfl dX7_init_21 (fun H locs S4 eS4 hW hm => ?_)
  have hw := hw S4 eS4
  have t0 := hm _ _ t0
  refine gx_aload_n hx hb dX7_init_24 rfl (lv_at hl 0 rfl) ?_
  refine lv_iload_n hx hb dX7_init_25 rfl (lv_at hl 2 rfl) ?_
  refine gx_putI (k := 449) C hW F7_22 (Or.inr ⟨rfl, rfl, rfl⟩) rfl t0 rfl rfl rfl dX7_init_26 (fun H locs S5 eS5 hW hm => ?_)
  have hw := hw S5 eS5
  have t0 := hm _ _ t0
  refine gx_aload_n hx hb dX7_init_29 rfl (lv_at hl 0 rfl) ?_
  refine lv_iload_n hx hb dX7_init_30 rfl (lv_at hl 3 rfl) ?_
  refine gx_putI (k := 450) C hW F7_25 (Or.inr ⟨rfl, rfl, rfl⟩) rfl t0 rfl rfl rfl dX7_init_31 (fun H locs S6 eS6 hW hm => ?_)
  have hw := hw S6 eS6
  have t0 := hm _ _ t0
  refine gx_aload_n hx hb dX7_init_34 rfl (lv_at hl 0 rfl) ?_
  refine lv_iload hx hb dX7_init_35 (lv_at hl 4 rfl) ?_
  refine gx_putI (k := 451) C hW F7_28 (Or.inr ⟨rfl, rfl, rfl⟩) rfl t0 rfl rfl rfl dX7_init_37 (fun H locs S7 eS7 hW hm => ?_)
  have hw := hw S7 eS7
  have t0 := hm _ _ t0
  refine gx_aload_n hx hb dX7_init_40 rfl (lv_at hl 0 rfl) ?_
  refine lv_iload hx hb dX7_init_41 (lv_at hl 5 rfl) ?_
  refine gx_putI (k := 452) C hW F7_31 (Or.inr ⟨rfl, rfl, rfl⟩) rfl t0 rfl rfl rfl dX7_init_43 (fun H locs S8 eS8 hW hm => ?_)
  have hw := hw S8 eS8
  have t0 := hm _ _ t0
  exact gx_vret C hW (Nat.le_of_ble_eq_true rfl) (Nat.le_of_ble_eq_true rfl) hw dX7_init_46
/-! TrialStair$Step.fill -/
def wJ7_fill_53178_b5 : Nat → (Option Nat) → (Int32) → (Int32) → (Int32) → Sg → (Sg → Prop) → Prop
  | 0, _, _, _, _, _, _ => False
  | fu + 1, x0, x1, x2, x3, S, Q => (if x3 ≤ x2 then Q S else ∃ a4 : Nat, x0 = some a4 ∧ tg S a4 = 13 ∧ vp_in x2 (ln S a4) ∧ ∀ S6 : Sg, S6 = sAI S a4 (x2).toNatClampNeg x1 → ∀ y7 : Int32, y7 = x2 + (1) → wJ7_fill_53178_b5 fu x0 x1 y7 x3 S6 Q)
def wJ7_fill_53178 (x0 : Option Nat) (x1 : Int32) (S0 : Sg) (Q : Sg → Prop) : Prop := ∃ a1 : Nat, x0 = some a1 ∧ tg S0 a1 = 13 ∧ ∀ y2 : Int32, y2 = (nI (ln S0 a1)) → ∃ fu8 : Nat, wJ7_fill_53178_b5 fu8 x0 x1 (0 : Int32) y2 S0 Q
set_option maxHeartbeats 4000000 in
set_option maxRecDepth 100000 in
theorem kJ7_fill_53178_l5 {p : Program} {l : Launch} {e : Env} {s : State} {m : MethodId} {args : Array Value} {below : List Frame} {meth : Method} {c : Code} {D : va_G} {cy : Nat → ClassId} {S0 : Sg} (C : gC p s m args meth c D cy cJ7_fill_53178 4 yJ7_fill_53178.cls none yJ7_fill_53178.name) {x0 : Option Nat} {Q : Sg → Prop} : ∀ (fu : Nat) (x1 : Int32) (x2 : Int32) (x3 : Int32) (S : Sg) (H : Heap) (locs : List Loc) (ls : Array Slot) (hW : gW D cy (gA S0) (tg S0) s.heap S H locs) (hl : lv_has ls 4 [(0, va_rf x0), (1, .int x1), (2, .int x2), (3, .int x3)]) (hw : wJ7_fill_53178_b5 fu x0 x1 x2 x3 S Q), W p l e { frames := 0, cells := 0, slots := 0, locals := 0 } s m args below meth c H locs 0 0 (MQ below (va_Qv Q (gB D cy S0) (gA S0)) args s 0 0 (gA S0)) (F0 m 5 ls []) := by
  have hx := C.1
  have hb := C.2.1
  intro fu
  induction fu with
  | zero =>
    intro x1 x2 x3 S H locs ls hW hl hw
    unfold wJ7_fill_53178_b5 at hw
    exact hw.elim
  | succ fu ih =>
    intro x1 x2 x3 S H locs ls hW hl hw
    unfold wJ7_fill_53178_b5 at hw
    refine lv_iload_n hx hb dJ7_fill_53178_5 rfl (lv_at hl 2 rfl) ?_
    refine lv_iload_n hx hb dJ7_fill_53178_6 rfl (lv_at hl 3 rfl) ?_
    refine lv_icmp_ge (tgt := 20) hx hb dJ7_fill_53178_7 (by decide) (fun c3 => ?_) (fun c3 => ?_)
    · have hw := w_t hw c3
      exact gx_vret C hW (Nat.le_of_ble_eq_true rfl) (Nat.le_of_ble_eq_true rfl) hw dJ7_fill_53178_20
    · have hw := w_f hw c3
      refine gx_aload_n hx hb dJ7_fill_53178_10 rfl (lv_at hl 0 rfl) ?_
      refine lv_iload_n hx hb dJ7_fill_53178_11 rfl (lv_at hl 2 rfl) ?_
      refine lv_iload_n hx hb dJ7_fill_53178_12 rfl (lv_at hl 1 rfl) ?_
      obtain ⟨a4, ha4, ta4, hw⟩ := hw
      obtain ⟨i5, hw⟩ := hw
      refine gx_iast C hW ha4 ta4 i5 dJ7_fill_53178_13 (fun H locs S6 eS6 hW hm => ?_)
      have hw := hw S6 eS6
      have ta4 := hm _ _ ta4
      obtain ⟨y7, ey7⟩ : ∃ z : Int32, z = x2 + (1) := ⟨_, rfl⟩
      have hw := hw y7 ey7
      refine lv_iinc (v := y7) (lv' := [(2, .int y7), (0, va_rf x0), (1, .int x1), (3, .int x3)]) hx hb dJ7_fill_53178_14 hl (k := 2) rfl (by rw [ey7]; rfl) (by decide) rfl (fun ls hl => ?_)
      refine lv_goto (tgt := 5) hx hb dJ7_fill_53178_17 (by decide) ?_
      exact ih _ _ _ _ _ _ _ hW (lv_sub hl [1, 2, 0, 3] rfl) hw
theorem kJ7_fill_53178_b5 {p : Program} {l : Launch} {e : Env} {s : State} {m : MethodId} {args : Array Value} {below : List Frame} {meth : Method} {c : Code} {D : va_G} {cy : Nat → ClassId} {S0 : Sg} (C : gC p s m args meth c D cy cJ7_fill_53178 4 yJ7_fill_53178.cls none yJ7_fill_53178.name) {H : Heap} {locs : List Loc} {ls : Array Slot} {x0 : Option Nat} {x1 : Int32} {x2 : Int32} {x3 : Int32} {S : Sg} {Q : Sg → Prop} (fu : Nat) (hW : gW D cy (gA S0) (tg S0) s.heap S H locs) (hl : lv_has ls 4 [(0, va_rf x0), (1, .int x1), (2, .int x2), (3, .int x3)]) (hw : wJ7_fill_53178_b5 fu x0 x1 x2 x3 S Q) : W p l e { frames := 0, cells := 0, slots := 0, locals := 0 } s m args below meth c H locs 0 0 (MQ below (va_Qv Q (gB D cy S0) (gA S0)) args s 0 0 (gA S0)) (F0 m 5 ls []) := kJ7_fill_53178_l5 C fu _ _ _ _ _ _ _ hW hl hw
set_option maxHeartbeats 4000000 in
set_option maxRecDepth 100000 in
theorem mJ7_fill_53178 (l : Launch) (D : va_G) (cy : Nat → ClassId) (x0 : Option Nat) (x1 : Int32) (S0 : Sg) (Q : Sg → Prop) (hw : wJ7_fill_53178 x0 x1 S0 Q) : Met l yJ7_fill_53178 (.code yJ7_fill_53178 cJ7_fill_53178 4 none :: wsL_law) { frames := 0, cells := 0, slots := 0, locals := 0 } (gPc D cy [va_rf x0, .int x1] S0) (va_Qv Q (gB D cy S0) (gA S0)) 0 0 (gA S0) := by
  refine gx_met (by decide) (by simp [lg_sl, va_rf_cat, cat_i, cat_l]) ?_
  intro p e s m args below meth c ls C hW hl
  have hx := C.1
  have hb := C.2.1
  have hl : lv_has ls 4 [(0, va_rf x0), (1, .int x1)] := by simpa [lv_args, va_rf_cat, cat_i, cat_l] using hl
  unfold wJ7_fill_53178 at hw
  refine lv_iconst (v := 0) hx hb dJ7_fill_53178_0 (by decide) ?_
  refine lv_istore_n (i := 2) (lv' := [(2, .int (0 : Int32)), (0, va_rf x0), (1, .int x1)]) hx hb dJ7_fill_53178_1 rfl hl (by decide) rfl (fun ls hl => ?_)
  refine gx_aload_n hx hb dJ7_fill_53178_2 rfl (lv_at hl 1 rfl) ?_
  obtain ⟨a1, ha1, ta1, hw⟩ := hw
  refine gx_alen C hW ha1 (Or.inl ta1) dJ7_fill_53178_3 ?_
  refine lv_topi (fun y2 ey2 => ?_)
  have hw := hw y2 ey2
  refine lv_istore_n (i := 3) (lv' := [(3, .int y2), (2, .int (0 : Int32)), (0, va_rf x0), (1, .int x1)]) hx hb dJ7_fill_53178_4 rfl hl (by decide) rfl (fun ls hl => ?_)
  obtain ⟨fu8, hw⟩ := hw
  exact kJ7_fill_53178_b5 C fu8 hW (lv_sub hl [2, 3, 1, 0] rfl) hw
/-! TrialStair$Step.fill -/
def wJ7_fill_d0a16_b6 : Nat → (Option Nat) → (Int64) → (Int32) → (Int32) → Sg → (Sg → Prop) → Prop
  | 0, _, _, _, _, _, _ => False
  | fu + 1, x0, x1, x3, x4, S, Q => (if x4 ≤ x3 then Q S else ∃ a4 : Nat, x0 = some a4 ∧ tg S a4 = 14 ∧ vp_in x3 (ln S a4) ∧ ∀ S6 : Sg, S6 = sAL S a4 (x3).toNatClampNeg x1 → ∀ y7 : Int32, y7 = x3 + (1) → wJ7_fill_d0a16_b6 fu x0 x1 y7 x4 S6 Q)
def wJ7_fill_d0a16 (x0 : Option Nat) (x1 : Int64) (S0 : Sg) (Q : Sg → Prop) : Prop := ∃ a1 : Nat, x0 = some a1 ∧ tg S0 a1 = 14 ∧ ∀ y2 : Int32, y2 = (nI (ln S0 a1)) → ∃ fu8 : Nat, wJ7_fill_d0a16_b6 fu8 x0 x1 (0 : Int32) y2 S0 Q
set_option maxHeartbeats 4000000 in
set_option maxRecDepth 100000 in
theorem kJ7_fill_d0a16_l6 {p : Program} {l : Launch} {e : Env} {s : State} {m : MethodId} {args : Array Value} {below : List Frame} {meth : Method} {c : Code} {D : va_G} {cy : Nat → ClassId} {S0 : Sg} (C : gC p s m args meth c D cy cJ7_fill_d0a16 5 yJ7_fill_d0a16.cls none yJ7_fill_d0a16.name) {x0 : Option Nat} {Q : Sg → Prop} : ∀ (fu : Nat) (x1 : Int64) (x3 : Int32) (x4 : Int32) (S : Sg) (H : Heap) (locs : List Loc) (ls : Array Slot) (hW : gW D cy (gA S0) (tg S0) s.heap S H locs) (hl : lv_has ls 5 [(0, va_rf x0), (1, .long x1), (3, .int x3), (4, .int x4)]) (hw : wJ7_fill_d0a16_b6 fu x0 x1 x3 x4 S Q), W p l e { frames := 0, cells := 0, slots := 0, locals := 0 } s m args below meth c H locs 0 0 (MQ below (va_Qv Q (gB D cy S0) (gA S0)) args s 0 0 (gA S0)) (F0 m 6 ls []) := by
  have hx := C.1
  have hb := C.2.1
  intro fu
  induction fu with
  | zero =>
    intro x1 x3 x4 S H locs ls hW hl hw
    unfold wJ7_fill_d0a16_b6 at hw
    exact hw.elim
  | succ fu ih =>
    intro x1 x3 x4 S H locs ls hW hl hw
    unfold wJ7_fill_d0a16_b6 at hw
    refine lv_iload_n hx hb dJ7_fill_d0a16_6 rfl (lv_at hl 2 rfl) ?_
    refine lv_iload hx hb dJ7_fill_d0a16_7 (lv_at hl 3 rfl) ?_
    refine lv_icmp_ge (tgt := 22) hx hb dJ7_fill_d0a16_9 (by decide) (fun c3 => ?_) (fun c3 => ?_)
    · have hw := w_t hw c3
      exact gx_vret C hW (Nat.le_of_ble_eq_true rfl) (Nat.le_of_ble_eq_true rfl) hw dJ7_fill_d0a16_22
    · have hw := w_f hw c3
      refine gx_aload_n hx hb dJ7_fill_d0a16_12 rfl (lv_at hl 0 rfl) ?_
      refine lv_iload_n hx hb dJ7_fill_d0a16_13 rfl (lv_at hl 2 rfl) ?_
      refine lv_lload_n hx hb dJ7_fill_d0a16_14 rfl (lv_at hl 1 rfl) ?_
      obtain ⟨a4, ha4, ta4, hw⟩ := hw
      obtain ⟨i5, hw⟩ := hw
      refine gx_last C hW ha4 ta4 i5 dJ7_fill_d0a16_15 (fun H locs S6 eS6 hW hm => ?_)
      have hw := hw S6 eS6
      have ta4 := hm _ _ ta4
      obtain ⟨y7, ey7⟩ : ∃ z : Int32, z = x3 + (1) := ⟨_, rfl⟩
      have hw := hw y7 ey7
      refine lv_iinc (v := y7) (lv' := [(3, .int y7), (0, va_rf x0), (1, .long x1), (4, .int x4)]) hx hb dJ7_fill_d0a16_16 hl (k := 2) rfl (by rw [ey7]; rfl) (by decide) rfl (fun ls hl => ?_)
      refine lv_goto (tgt := 6) hx hb dJ7_fill_d0a16_19 (by decide) ?_
      exact ih _ _ _ _ _ _ _ hW (lv_sub hl [1, 2, 0, 3] rfl) hw
theorem kJ7_fill_d0a16_b6 {p : Program} {l : Launch} {e : Env} {s : State} {m : MethodId} {args : Array Value} {below : List Frame} {meth : Method} {c : Code} {D : va_G} {cy : Nat → ClassId} {S0 : Sg} (C : gC p s m args meth c D cy cJ7_fill_d0a16 5 yJ7_fill_d0a16.cls none yJ7_fill_d0a16.name) {H : Heap} {locs : List Loc} {ls : Array Slot} {x0 : Option Nat} {x1 : Int64} {x3 : Int32} {x4 : Int32} {S : Sg} {Q : Sg → Prop} (fu : Nat) (hW : gW D cy (gA S0) (tg S0) s.heap S H locs) (hl : lv_has ls 5 [(0, va_rf x0), (1, .long x1), (3, .int x3), (4, .int x4)]) (hw : wJ7_fill_d0a16_b6 fu x0 x1 x3 x4 S Q) : W p l e { frames := 0, cells := 0, slots := 0, locals := 0 } s m args below meth c H locs 0 0 (MQ below (va_Qv Q (gB D cy S0) (gA S0)) args s 0 0 (gA S0)) (F0 m 6 ls []) := kJ7_fill_d0a16_l6 C fu _ _ _ _ _ _ _ hW hl hw
set_option maxHeartbeats 4000000 in
set_option maxRecDepth 100000 in
theorem mJ7_fill_d0a16 (l : Launch) (D : va_G) (cy : Nat → ClassId) (x0 : Option Nat) (x1 : Int64) (S0 : Sg) (Q : Sg → Prop) (hw : wJ7_fill_d0a16 x0 x1 S0 Q) : Met l yJ7_fill_d0a16 (.code yJ7_fill_d0a16 cJ7_fill_d0a16 5 none :: wsL_law) { frames := 0, cells := 0, slots := 0, locals := 0 } (gPc D cy [va_rf x0, .long x1] S0) (va_Qv Q (gB D cy S0) (gA S0)) 0 0 (gA S0) := by
  refine gx_met (by decide) (by simp [lg_sl, va_rf_cat, cat_i, cat_l]) ?_
  intro p e s m args below meth c ls C hW hl
  have hx := C.1
  have hb := C.2.1
  have hl : lv_has ls 5 [(0, va_rf x0), (1, .long x1)] := by simpa [lv_args, va_rf_cat, cat_i, cat_l] using hl
  unfold wJ7_fill_d0a16 at hw
  refine lv_iconst (v := 0) hx hb dJ7_fill_d0a16_0 (by decide) ?_
  refine lv_istore_n (i := 3) (lv' := [(3, .int (0 : Int32)), (0, va_rf x0), (1, .long x1)]) hx hb dJ7_fill_d0a16_1 rfl hl (by decide) rfl (fun ls hl => ?_)
  refine gx_aload_n hx hb dJ7_fill_d0a16_2 rfl (lv_at hl 1 rfl) ?_
  obtain ⟨a1, ha1, ta1, hw⟩ := hw
  refine gx_alen C hW ha1 (Or.inr (Or.inl ta1)) dJ7_fill_d0a16_3 ?_
  refine lv_topi (fun y2 ey2 => ?_)
  have hw := hw y2 ey2
  refine lv_istore (lv' := [(4, .int y2), (3, .int (0 : Int32)), (0, va_rf x0), (1, .long x1)]) hx hb dJ7_fill_d0a16_4 hl (by decide) rfl (fun ls hl => ?_)
  obtain ⟨fu8, hw⟩ := hw
  exact kJ7_fill_d0a16_b6 C fu8 hW (lv_sub hl [2, 3, 1, 0] rfl) hw
/-! TrialStair$Thing.<init> -/
def wX8_init (x0 : Nat) (x1 : Int32) (x2 : Int64) (S0 : Sg) (Q : Sg → Prop) : Prop := ∀ S1 : Sg, S1 = sFI S0 512 x0 x1 → ∀ S2 : Sg, S2 = sFL S1 513 x0 x2 → Q S2
set_option maxHeartbeats 4000000 in
set_option maxRecDepth 100000 in
theorem mX8_init (l : Launch) (D : va_G) (cy : Nat → ClassId) (x0 : Nat) (x1 : Int32) (x2 : Int64) (S0 : Sg) (Q : Sg → Prop) (t0 : tg S0 x0 = 9) (hw : wX8_init x0 x1 x2 S0 Q) : Met l yX8_init (.code yX8_init cX8_init 4 none :: wsL_law) { frames := 1, cells := 0, slots := 0, locals := 20 } (gPc D cy [va_rf (some x0), .int x1, .long x2] S0) (va_Qv Q (gB D cy S0) (gA S0)) 0 0 (gA S0) := by
  refine gx_met (by decide) (Nat.le_of_ble_eq_true rfl) ?_
  intro p e s m args below meth c ls C hW hl
  have hx := C.1
  have hb := C.2.1
  have hl : lv_has ls 4 [(0, va_rf (some x0)), (1, .int x1), (2, .long x2)] := hl
  unfold wX8_init at hw
  refine gx_aload_n hx hb dX8_init_0 rfl (lv_at hl 0 rfl) ?_
  refine gx_objInit C (List.mem_of_getElem? (i := 501) (by decide +kernel)) (List.mem_of_getElem? (i := 10) (by decide +kernel)) (List.mem_of_getElem? (i := 11) (by decide +kernel)) rfl hl.1 dX8_init_1 (Nat.le_of_ble_eq_true rfl) (Nat.le_of_ble_eq_true rfl) (Nat.le_of_ble_eq_true rfl) ?_
  refine gx_aload_n hx hb dX8_init_4 rfl (lv_at hl 0 rfl) ?_
  refine lv_iload_n hx hb dX8_init_5 rfl (lv_at hl 1 rfl) ?_
  refine gx_putI (k := 512) C hW F8_9 (Or.inr ⟨rfl, rfl, rfl⟩) rfl t0 rfl rfl rfl dX8_init_6 (fun H locs S1 eS1 hW hm => ?_)
  have hw := hw S1 eS1
  have t0 := hm _ _ t0
  refine gx_aload_n hx hb dX8_init_9 rfl (lv_at hl 0 rfl) ?_
  refine lv_lload_n hx hb dX8_init_10 rfl (lv_at hl 2 rfl) ?_
  refine gx_putL (k := 513) C hW F8_15 (Or.inl rfl) rfl t0 rfl dX8_init_11 (fun H locs S2 eS2 hW hm => ?_)
  have hw := hw S2 eS2
  have t0 := hm _ _ t0
  exact gx_vret C hW (Nat.le_of_ble_eq_true rfl) (Nat.le_of_ble_eq_true rfl) hw dX8_init_14
/-! TrialStair$Thing.rings -/
def wX8_rings (x0 : Nat) (S0 : Sg) (Q : Int32 → Sg → Prop) : Prop := (if (fI S0 512 x0) = (1 : Int32) then Q (1 : Int32) S0 else (if (fI S0 512 x0) = (2 : Int32) then Q (1 : Int32) S0 else Q (0 : Int32) S0))
set_option maxHeartbeats 4000000 in
set_option maxRecDepth 100000 in
theorem mX8_rings (l : Launch) (D : va_G) (cy : Nat → ClassId) (x0 : Nat) (S0 : Sg) (Q : Int32 → Sg → Prop) (t0 : tg S0 x0 = 9) (hw : wX8_rings x0 S0 Q) : Met l yX8_rings (.code yX8_rings cX8_rings 1 (some .boolean) :: wsL_law) { frames := 0, cells := 0, slots := 0, locals := 0 } (gPc D cy [va_rf (some x0)] S0) (va_Qi Q (gB D cy S0) (gA S0)) 0 0 (gA S0) := by
  refine gx_met (by decide) (Nat.le_of_ble_eq_true rfl) ?_
  intro p e s m args below meth c ls C hW hl
  have hx := C.1
  have hb := C.2.1
  have hl : lv_has ls 1 [(0, va_rf (some x0))] := hl
  unfold wX8_rings at hw
  refine gx_aload_n hx hb dX8_rings_0 rfl (lv_at hl 0 rfl) ?_
  refine gx_getI C hW F8_9 (k := 512) rfl t0 rfl dX8_rings_1 ?_
  refine lv_iconst (v := 1) hx hb dX8_rings_4 (by decide) ?_
  refine lv_icmp_eq (tgt := 16) hx hb dX8_rings_5 (by decide) (fun c1 => ?_) (fun c1 => ?_)
  · have hw := w_t hw c1
    refine lv_iconst (v := 1) hx hb dX8_rings_16 (by decide) ?_
    refine lv_goto (tgt := 21) hx hb dX8_rings_17 (by decide) ?_
    exact gx_iret C hW (Nat.le_of_ble_eq_true rfl) (Nat.le_of_ble_eq_true rfl) rfl hw dX8_rings_21
  · have hw := w_f hw c1
    refine gx_aload_n hx hb dX8_rings_8 rfl (lv_at hl 0 rfl) ?_
    refine gx_getI C hW F8_9 (k := 512) rfl t0 rfl dX8_rings_9 ?_
    refine lv_iconst (v := 2) hx hb dX8_rings_12 (by decide) ?_
    refine lv_icmp_ne (tgt := 20) hx hb dX8_rings_13 (by decide) (fun c2 => ?_) (fun c2 => ?_)
    · have hw := w_f hw c2
      refine lv_iconst (v := 0) hx hb dX8_rings_20 (by decide) ?_
      exact gx_iret C hW (Nat.le_of_ble_eq_true rfl) (Nat.le_of_ble_eq_true rfl) rfl hw dX8_rings_21
    · have hw := w_t hw c2
      refine lv_iconst (v := 1) hx hb dX8_rings_16 (by decide) ?_
      refine lv_goto (tgt := 21) hx hb dX8_rings_17 (by decide) ?_
      exact gx_iret C hW (Nat.le_of_ble_eq_true rfl) (Nat.le_of_ble_eq_true rfl) rfl hw dX8_rings_21
/-! TrialStair$Thing.isCastAs -/
def wX8_isCastAs (x0 : Nat) (x1 : Int32) (S0 : Sg) (Q : Int32 → Sg → Prop) : Prop := (if x1 = 0 then (if (fI S0 512 x0) = 0 then Q (1 : Int32) S0 else Q (0 : Int32) S0) else (if x1 = 2 then (if (fI S0 512 x0) = (2 : Int32) then Q (1 : Int32) S0 else Q (0 : Int32) S0) else wX8_rings x0  S0 (fun (r5 : Int32) (S6 : Sg) => (r5 = 0 ∨ r5 = 1) ∧ Q r5 S6)))
set_option maxHeartbeats 4000000 in
set_option maxRecDepth 100000 in
theorem mX8_isCastAs (l : Launch) (D : va_G) (cy : Nat → ClassId) (x0 : Nat) (x1 : Int32) (S0 : Sg) (Q : Int32 → Sg → Prop) (t0 : tg S0 x0 = 9) (hw : wX8_isCastAs x0 x1 S0 Q) : Met l yX8_isCastAs (.code yX8_isCastAs cX8_isCastAs 2 (some .boolean) :: wsL_law) { frames := 1, cells := 0, slots := 0, locals := 20 } (gPc D cy [va_rf (some x0), .int x1] S0) (va_Qi Q (gB D cy S0) (gA S0)) 0 0 (gA S0) := by
  refine gx_met (by decide) (Nat.le_of_ble_eq_true rfl) ?_
  intro p e s m args below meth c ls C hW hl
  have hx := C.1
  have hb := C.2.1
  have hl : lv_has ls 2 [(0, va_rf (some x0)), (1, .int x1)] := hl
  unfold wX8_isCastAs at hw
  refine lv_iload_n hx hb dX8_isCastAs_0 rfl (lv_at hl 1 rfl) ?_
  by_cases c1 : x1 = (0 : Int32)
  · have hw := w_t hw c1
    refine lv_lookup (off := 27) (tgt := 28) hx hb dX8_isCastAs_1 (by decide) (by rw [c1]; rfl) (by decide) ?_
    refine gx_aload_n hx hb dX8_isCastAs_28 rfl (lv_at hl 0 rfl) ?_
    refine gx_getI C hW F8_9 (k := 512) rfl t0 rfl dX8_isCastAs_29 ?_
    refine lv_if_ne (tgt := 39) hx hb dX8_isCastAs_32 (by decide) (fun c2 => ?_) (fun c2 => ?_)
    · have hw := w_f hw c2
      refine lv_iconst (v := 0) hx hb dX8_isCastAs_39 (by decide) ?_
      exact gx_iret C hW (Nat.le_of_ble_eq_true rfl) (Nat.le_of_ble_eq_true rfl) rfl hw dX8_isCastAs_40
    · have hw := w_t hw c2
      refine lv_iconst (v := 1) hx hb dX8_isCastAs_35 (by decide) ?_
      refine lv_goto (tgt := 40) hx hb dX8_isCastAs_36 (by decide) ?_
      exact gx_iret C hW (Nat.le_of_ble_eq_true rfl) (Nat.le_of_ble_eq_true rfl) rfl hw dX8_isCastAs_40
  · have hw := w_f hw c1
    by_cases c3 : x1 = (2 : Int32)
    · have hw := w_t hw c3
      refine lv_lookup (off := 40) (tgt := 41) hx hb dX8_isCastAs_1 (by decide) (by rw [c3]; rfl) (by decide) ?_
      refine gx_aload_n hx hb dX8_isCastAs_41 rfl (lv_at hl 0 rfl) ?_
      refine gx_getI C hW F8_9 (k := 512) rfl t0 rfl dX8_isCastAs_42 ?_
      refine lv_iconst (v := 2) hx hb dX8_isCastAs_45 (by decide) ?_
      refine lv_icmp_ne (tgt := 53) hx hb dX8_isCastAs_46 (by decide) (fun c4 => ?_) (fun c4 => ?_)
      · have hw := w_f hw c4
        refine lv_iconst (v := 0) hx hb dX8_isCastAs_53 (by decide) ?_
        exact gx_iret C hW (Nat.le_of_ble_eq_true rfl) (Nat.le_of_ble_eq_true rfl) rfl hw dX8_isCastAs_54
      · have hw := w_t hw c4
        refine lv_iconst (v := 1) hx hb dX8_isCastAs_49 (by decide) ?_
        refine lv_goto (tgt := 54) hx hb dX8_isCastAs_50 (by decide) ?_
        exact gx_iret C hW (Nat.le_of_ble_eq_true rfl) (Nat.le_of_ble_eq_true rfl) rfl hw dX8_isCastAs_54
    · have hw := w_f hw c3
      refine lv_lookup (off := 54) (tgt := 55) hx hb dX8_isCastAs_1 (by decide) (by show Op.lookupswitch.offset [(0, 27), (2, 40)] 54 _ = 54; simp only [Op.lookupswitch.offset, if_neg (tb_nei (z := 0) c1 (by decide)), if_neg (tb_nei (z := 2) c3 (by decide))]) (by decide) ?_
      refine gx_aload_n hx hb dX8_isCastAs_55 rfl (lv_at hl 0 rfl) ?_
      refine gx_ci (gx_rV C hW M8_19 (mX8_rings l D cy _ _ _ t0 hw) rfl rfl ⟨Nat.le_of_ble_eq_true rfl, Nat.le_of_ble_eq_true rfl⟩ rfl t0 (by decide) rfl rfl hl.1 rfl (gx_room0 (n := 4) (Nat.le_of_ble_eq_true rfl)) dX8_isCastAs_56 ⟨Nat.le_of_ble_eq_true rfl, Nat.le_of_ble_eq_true rfl⟩) hW (fun r5 S6 H locs hW hm hw => ?_)
      have t0 := hm _ _ t0
      obtain ⟨z7, hw⟩ := hw
      exact gx_iret C hW (Nat.le_of_ble_eq_true rfl) (Nat.le_of_ble_eq_true rfl) (bz_n z7) hw dX8_isCastAs_59
/-! TrialStair$Thing.use -/
def wX8_use (x0 : Nat) (x1 : Int64) (S0 : Sg) (Q : Int64 → Sg → Prop) : Prop := (if (fI S0 512 x0) = 0 then Q ((fL S0 513 x0) + x1) S0 else (if (fI S0 512 x0) = 1 then Q ((fL S0 513 x0) - x1) S0 else Q ((2 : Int64) * ((fL S0 513 x0) - x1)) S0))
set_option maxHeartbeats 4000000 in
set_option maxRecDepth 100000 in
theorem mX8_use (l : Launch) (D : va_G) (cy : Nat → ClassId) (x0 : Nat) (x1 : Int64) (S0 : Sg) (Q : Int64 → Sg → Prop) (t0 : tg S0 x0 = 9) (hw : wX8_use x0 x1 S0 Q) : Met l yX8_use (.code yX8_use cX8_use 3 (some .long) :: wsL_law) { frames := 0, cells := 0, slots := 0, locals := 0 } (gPc D cy [va_rf (some x0), .long x1] S0) (va_Ql Q (gB D cy S0) (gA S0)) 0 0 (gA S0) := by
  refine gx_met (by decide) (Nat.le_of_ble_eq_true rfl) ?_
  intro p e s m args below meth c ls C hW hl
  have hx := C.1
  have hb := C.2.1
  have hl : lv_has ls 3 [(0, va_rf (some x0)), (1, .long x1)] := hl
  unfold wX8_use at hw
  refine gx_aload_n hx hb dX8_use_0 rfl (lv_at hl 0 rfl) ?_
  refine gx_getI C hW F8_9 (k := 512) rfl t0 rfl dX8_use_1 ?_
  by_cases c1 : (fI S0 512 x0) = (0 : Int32)
  · have hw := w_t hw c1
    refine lv_lookup (off := 28) (tgt := 32) hx hb dX8_use_4 (by decide) (by rw [c1]; rfl) (by decide) ?_
    refine gx_aload_n hx hb dX8_use_32 rfl (lv_at hl 0 rfl) ?_
    refine gx_getL C hW F8_15 (k := 513) rfl t0 rfl dX8_use_33 ?_
    refine lv_lload_n hx hb dX8_use_36 rfl (lv_at hl 1 rfl) ?_
    refine lv_ladd hx hb dX8_use_37 ?_
    exact gx_lret C hW (Nat.le_of_ble_eq_true rfl) (Nat.le_of_ble_eq_true rfl) hw dX8_use_38
  · have hw := w_f hw c1
    by_cases c2 : (fI S0 512 x0) = (1 : Int32)
    · have hw := w_t hw c2
      refine lv_lookup (off := 35) (tgt := 39) hx hb dX8_use_4 (by decide) (by rw [c2]; rfl) (by decide) ?_
      refine gx_aload_n hx hb dX8_use_39 rfl (lv_at hl 0 rfl) ?_
      refine gx_getL C hW F8_15 (k := 513) rfl t0 rfl dX8_use_40 ?_
      refine lv_lload_n hx hb dX8_use_43 rfl (lv_at hl 1 rfl) ?_
      refine lv_lsub hx hb dX8_use_44 ?_
      exact gx_lret C hW (Nat.le_of_ble_eq_true rfl) (Nat.le_of_ble_eq_true rfl) hw dX8_use_45
    · have hw := w_f hw c2
      refine lv_lookup (off := 42) (tgt := 46) hx hb dX8_use_4 (by decide) (by show Op.lookupswitch.offset [(0, 28), (1, 35)] 42 _ = 42; simp only [Op.lookupswitch.offset, if_neg (tb_nei (z := 0) c1 (by decide)), if_neg (tb_nei (z := 1) c2 (by decide))]) (by decide) ?_
      refine lv_ldc2 (v := 2) hx hb C.2.2.2.1 (C.2.2.2.2.1 _ (List.mem_of_getElem? (i := 526) (by decide +kernel))) dX8_use_46 ?_
      refine gx_aload_n hx hb dX8_use_49 rfl (lv_at hl 0 rfl) ?_
      refine gx_getL C hW F8_15 (k := 513) rfl t0 rfl dX8_use_50 ?_
      refine lv_lload_n hx hb dX8_use_53 rfl (lv_at hl 1 rfl) ?_
      refine lv_lsub hx hb dX8_use_54 ?_
      refine lv_lmul hx hb dX8_use_55 ?_
      exact gx_lret C hW (Nat.le_of_ble_eq_true rfl) (Nat.le_of_ble_eq_true rfl) hw dX8_use_56
/-! TrialStair$Thing.ring -/
def wX8_ring (x0 : Nat) (x1 : Int64) (S0 : Sg) (Q : Int64 → Sg → Prop) : Prop := ∀ y1 : Int64, y1 = ((fL S0 513 x0) ^^^ x1) → (if (fI S0 512 x0) = (2 : Int32) then Q (y1 + (1 : Int64)) S0 else Q y1 S0)
set_option maxHeartbeats 4000000 in
set_option maxRecDepth 100000 in
theorem mX8_ring (l : Launch) (D : va_G) (cy : Nat → ClassId) (x0 : Nat) (x1 : Int64) (S0 : Sg) (Q : Int64 → Sg → Prop) (t0 : tg S0 x0 = 9) (hw : wX8_ring x0 x1 S0 Q) : Met l yX8_ring (.code yX8_ring cX8_ring 5 (some .long) :: wsL_law) { frames := 0, cells := 0, slots := 0, locals := 0 } (gPc D cy [va_rf (some x0), .long x1] S0) (va_Ql Q (gB D cy S0) (gA S0)) 0 0 (gA S0) := by
  refine gx_met (by decide) (Nat.le_of_ble_eq_true rfl) ?_
  intro p e s m args below meth c ls C hW hl
  have hx := C.1
  have hb := C.2.1
  have hl : lv_has ls 5 [(0, va_rf (some x0)), (1, .long x1)] := hl
  unfold wX8_ring at hw
  refine gx_aload_n hx hb dX8_ring_0 rfl (lv_at hl 0 rfl) ?_
  refine gx_getL C hW F8_15 (k := 513) rfl t0 rfl dX8_ring_1 ?_
  refine lv_lload_n hx hb dX8_ring_4 rfl (lv_at hl 1 rfl) ?_
  refine lv_lxor hx hb dX8_ring_5 ?_
  refine lv_topl (fun y1 ey1 => ?_)
  have hw := hw y1 ey1
  refine lv_lstore_n (i := 3) (lv' := [(3, .long y1), (0, va_rf (some x0)), (1, .long x1)]) hx hb dX8_ring_6 rfl hl (by decide) rfl (fun ls hl => ?_)
  refine gx_aload_n hx hb dX8_ring_7 rfl (lv_at hl 1 rfl) ?_
  refine gx_getI C hW F8_9 (k := 512) rfl t0 rfl dX8_ring_8 ?_
  refine lv_iconst (v := 2) hx hb dX8_ring_11 (by decide) ?_
  refine lv_icmp_ne (tgt := 21) hx hb dX8_ring_12 (by decide) (fun c2 => ?_) (fun c2 => ?_)
  · have hw := w_f hw c2
    refine lv_lload_n hx hb dX8_ring_21 rfl (lv_at hl 0 rfl) ?_
    exact gx_lret C hW (Nat.le_of_ble_eq_true rfl) (Nat.le_of_ble_eq_true rfl) hw dX8_ring_22
  · have hw := w_t hw c2
    refine lv_lload_n hx hb dX8_ring_15 rfl (lv_at hl 0 rfl) ?_
    refine lv_lconst (v := 1) hx hb dX8_ring_16 (by decide) ?_
    refine lv_ladd hx hb dX8_ring_17 ?_
    refine lv_goto (tgt := 22) hx hb dX8_ring_18 (by decide) ?_
    exact gx_lret C hW (Nat.le_of_ble_eq_true rfl) (Nat.le_of_ble_eq_true rfl) hw dX8_ring_22
/-! TrialStair$Grid.<init> -/
def wX2_init (x0 : Nat) (S0 : Sg) (Q : Sg → Prop) : Prop := ∀ S2 : Sg, S2 = nw S0 13 49 → ∀ S3 : Sg, S3 = sFR S2 128 x0 (some (sz S0)) → Q S3
set_option maxHeartbeats 4000000 in
set_option maxRecDepth 100000 in
theorem mX2_init (l : Launch) (D : va_G) (cy : Nat → ClassId) (x0 : Nat) (S0 : Sg) (Q : Sg → Prop) (t0 : tg S0 x0 = 3) (hw : wX2_init x0 S0 Q) : Met l yX2_init (.code yX2_init cX2_init 1 none :: wsL_law) { frames := 1, cells := 1, slots := 49, locals := 20 } (gPc D cy [va_rf (some x0)] S0) (va_Qv Q (gB D cy S0) (gA S0)) 1 49 (gA S0) := by
  refine gx_met (by decide) (Nat.le_of_ble_eq_true rfl) ?_
  intro p e s m args below meth c ls C hW hl
  have hx := C.1
  have hb := C.2.1
  have hl : lv_has ls 1 [(0, va_rf (some x0))] := hl
  unfold wX2_init at hw
  refine gx_aload_n hx hb dX2_init_0 rfl (lv_at hl 0 rfl) ?_
  refine gx_objInit C (List.mem_of_getElem? (i := 50) (by decide +kernel)) (List.mem_of_getElem? (i := 10) (by decide +kernel)) (List.mem_of_getElem? (i := 11) (by decide +kernel)) rfl hl.1 dX2_init_1 (Nat.le_of_ble_eq_true rfl) (Nat.le_of_ble_eq_true rfl) (Nat.le_of_ble_eq_true rfl) ?_
  refine gx_aload_n hx hb dX2_init_4 rfl (lv_at hl 0 rfl) ?_
  refine lv_bipush (v := 49) hx hb dX2_init_5 (by decide) ?_
  refine gx_newa (at0 := .int) (k := 0) (K := 49) (N := 49) C hW (List.mem_of_getElem? (i := 33) (by decide +kernel)) (Or.inl ⟨rfl, rfl⟩) (by decide) (by decide) (by decide) (by decide) (Nat.le_of_ble_eq_true rfl) (Nat.le_of_ble_eq_true rfl) dX2_init_7 (fun H S2 eS2 hW hm t1 => ?_)
  have hw := hw S2 eS2
  have t0 := hm _ _ t0
  refine gx_putR (k := 128) C hW F2_9 (Or.inr ⟨rfl, rfl, rfl⟩) rfl rfl t0 rfl dX2_init_9 (fun H locs S3 eS3 hW hm => ?_)
  have hw := hw S3 eS3
  have t0 := hm _ _ t0
  have t1 := hm _ _ t1
  exact gx_vret C hW (Nat.le_of_ble_eq_true rfl) (Nat.le_of_ble_eq_true rfl) hw dX2_init_12
/-! TrialStair$Grid.make -/
def wX2_make (x0 : Nat) (x1 : Int32) (x2 : Int32) (S0 : Sg) (Q : Sg → Prop) : Prop := ∀ S1 : Sg, S1 = sFI S0 129 x0 (1 : Int32) → ∀ S2 : Sg, S2 = sFI S1 130 x0 x1 → ∀ S3 : Sg, S3 = sFI S2 131 x0 x2 → wJ7_fill_53178 (fR S3 128 x0) (0 : Int32) S3 (fun (S5 : Sg) => Q S5)
set_option maxHeartbeats 4000000 in
set_option maxRecDepth 100000 in
theorem mX2_make (l : Launch) (D : va_G) (cy : Nat → ClassId) (x0 : Nat) (x1 : Int32) (x2 : Int32) (S0 : Sg) (Q : Sg → Prop) (t0 : tg S0 x0 = 3) (hw : wX2_make x0 x1 x2 S0 Q) : Met l yX2_make (.code yX2_make cX2_make 3 none :: wsL_law) { frames := 1, cells := 0, slots := 0, locals := 23 } (gPc D cy [va_rf (some x0), .int x1, .int x2] S0) (va_Qv Q (gB D cy S0) (gA S0)) 0 0 (gA S0) := by
  refine gx_met (by decide) (Nat.le_of_ble_eq_true rfl) ?_
  intro p e s m args below meth c ls C hW hl
  have hx := C.1
  have hb := C.2.1
  have hl : lv_has ls 3 [(0, va_rf (some x0)), (1, .int x1), (2, .int x2)] := hl
  unfold wX2_make at hw
  refine gx_aload_n hx hb dX2_make_0 rfl (lv_at hl 0 rfl) ?_
  refine lv_iconst (v := 1) hx hb dX2_make_1 (by decide) ?_
  refine gx_putI (k := 129) C hW F2_15 (Or.inl rfl) rfl t0 rfl rfl rfl dX2_make_2 (fun H locs S1 eS1 hW hm => ?_)
  have hw := hw S1 eS1
  have t0 := hm _ _ t0
  refine gx_aload_n hx hb dX2_make_5 rfl (lv_at hl 0 rfl) ?_
  refine lv_iload_n hx hb dX2_make_6 rfl (lv_at hl 1 rfl) ?_
  refine gx_putI (k := 130) C hW F2_19 (Or.inl rfl) rfl t0 rfl rfl rfl dX2_make_7 (fun H locs S2 eS2 hW hm => ?_)
  have hw := hw S2 eS2
  have t0 := hm _ _ t0
  refine gx_aload_n hx hb dX2_make_10 rfl (lv_at hl 0 rfl) ?_
  refine lv_iload_n hx hb dX2_make_11 rfl (lv_at hl 2 rfl) ?_
  refine gx_putI (k := 131) C hW F2_23 (Or.inl rfl) rfl t0 rfl rfl rfl dX2_make_12 (fun H locs S3 eS3 hW hm => ?_)
  have hw := hw S3 eS3
  have t0 := hm _ _ t0
  refine gx_aload_n hx hb dX2_make_15 rfl (lv_at hl 0 rfl) ?_
  refine gx_getR C hW F2_9 (k := 128) rfl t0 rfl dX2_make_16 ?_
  refine lv_iconst (v := 0) hx hb dX2_make_19 (by decide) ?_
  refine gx_cv (gx_rS C hW M2_26 (mJ7_fill_53178 l D cy _ _ _ _  hw) rfl rfl ⟨Nat.le_of_ble_eq_true rfl, Nat.le_of_ble_eq_true rfl⟩ rfl hl.1 rfl (gx_room0 (n := 4) (Nat.le_of_ble_eq_true rfl)) dX2_make_20 ⟨Nat.le_of_ble_eq_true rfl, Nat.le_of_ble_eq_true rfl⟩) hW (fun S5 H locs hW hm hw => ?_)
  have t0 := hm _ _ t0
  exact gx_vret C hW (Nat.le_of_ble_eq_true rfl) (Nat.le_of_ble_eq_true rfl) hw dX2_make_23
/-! TrialStair$Grid.has -/
def wX2_has (x0 : Nat) (x1 : Int32) (x2 : Int32) (S0 : Sg) (Q : Int32 → Sg → Prop) : Prop := (if x1 < 0 then Q (0 : Int32) S0 else (if (fI S0 130 x0) ≤ x1 then Q (0 : Int32) S0 else (if x2 < 0 then Q (0 : Int32) S0 else (if (fI S0 131 x0) ≤ x2 then Q (0 : Int32) S0 else Q (1 : Int32) S0))))
set_option maxHeartbeats 4000000 in
set_option maxRecDepth 100000 in
theorem mX2_has (l : Launch) (D : va_G) (cy : Nat → ClassId) (x0 : Nat) (x1 : Int32) (x2 : Int32) (S0 : Sg) (Q : Int32 → Sg → Prop) (t0 : tg S0 x0 = 3) (hw : wX2_has x0 x1 x2 S0 Q) : Met l yX2_has (.code yX2_has cX2_has 3 (some .boolean) :: wsL_law) { frames := 0, cells := 0, slots := 0, locals := 0 } (gPc D cy [va_rf (some x0), .int x1, .int x2] S0) (va_Qi Q (gB D cy S0) (gA S0)) 0 0 (gA S0) := by
  refine gx_met (by decide) (Nat.le_of_ble_eq_true rfl) ?_
  intro p e s m args below meth c ls C hW hl
  have hx := C.1
  have hb := C.2.1
  have hl : lv_has ls 3 [(0, va_rf (some x0)), (1, .int x1), (2, .int x2)] := hl
  unfold wX2_has at hw
  refine lv_iload_n hx hb dX2_has_0 rfl (lv_at hl 1 rfl) ?_
  refine lv_if_lt (tgt := 28) hx hb dX2_has_1 (by decide) (fun c1 => ?_) (fun c1 => ?_)
  · have hw := w_t hw c1
    refine lv_iconst (v := 0) hx hb dX2_has_28 (by decide) ?_
    exact gx_iret C hW (Nat.le_of_ble_eq_true rfl) (Nat.le_of_ble_eq_true rfl) rfl hw dX2_has_29
  · have hw := w_f hw c1
    refine lv_iload_n hx hb dX2_has_4 rfl (lv_at hl 1 rfl) ?_
    refine gx_aload_n hx hb dX2_has_5 rfl (lv_at hl 0 rfl) ?_
    refine gx_getI C hW F2_19 (k := 130) rfl t0 rfl dX2_has_6 ?_
    refine lv_icmp_ge (tgt := 28) hx hb dX2_has_9 (by decide) (fun c2 => ?_) (fun c2 => ?_)
    · have hw := w_t hw c2
      refine lv_iconst (v := 0) hx hb dX2_has_28 (by decide) ?_
      exact gx_iret C hW (Nat.le_of_ble_eq_true rfl) (Nat.le_of_ble_eq_true rfl) rfl hw dX2_has_29
    · have hw := w_f hw c2
      refine lv_iload_n hx hb dX2_has_12 rfl (lv_at hl 2 rfl) ?_
      refine lv_if_lt (tgt := 28) hx hb dX2_has_13 (by decide) (fun c3 => ?_) (fun c3 => ?_)
      · have hw := w_t hw c3
        refine lv_iconst (v := 0) hx hb dX2_has_28 (by decide) ?_
        exact gx_iret C hW (Nat.le_of_ble_eq_true rfl) (Nat.le_of_ble_eq_true rfl) rfl hw dX2_has_29
      · have hw := w_f hw c3
        refine lv_iload_n hx hb dX2_has_16 rfl (lv_at hl 2 rfl) ?_
        refine gx_aload_n hx hb dX2_has_17 rfl (lv_at hl 0 rfl) ?_
        refine gx_getI C hW F2_23 (k := 131) rfl t0 rfl dX2_has_18 ?_
        refine lv_icmp_ge (tgt := 28) hx hb dX2_has_21 (by decide) (fun c4 => ?_) (fun c4 => ?_)
        · have hw := w_t hw c4
          refine lv_iconst (v := 0) hx hb dX2_has_28 (by decide) ?_
          exact gx_iret C hW (Nat.le_of_ble_eq_true rfl) (Nat.le_of_ble_eq_true rfl) rfl hw dX2_has_29
        · have hw := w_f hw c4
          refine lv_iconst (v := 1) hx hb dX2_has_24 (by decide) ?_
          refine lv_goto (tgt := 29) hx hb dX2_has_25 (by decide) ?_
          exact gx_iret C hW (Nat.le_of_ble_eq_true rfl) (Nat.le_of_ble_eq_true rfl) rfl hw dX2_has_29
/-! TrialStair$Grid.cellAt -/
def wX2_cellAt (x0 : Nat) (x1 : Int32) (x2 : Int32) (S0 : Sg) (Q : Int32 → Sg → Prop) : Prop := ∀ y1 : Int32, y1 = ((x1 * (7 : Int32)) + x2) → (if y1 < 0 then Q (0 : Int32) S0 else ∃ a3 : Nat, (fR S0 128 x0) = some a3 ∧ tg S0 a3 = 13 ∧ (if (nI (ln S0 a3)) ≤ y1 then Q (0 : Int32) S0 else vp_in y1 (ln S0 a3) ∧ Q (aI S0 a3 (y1).toNatClampNeg) S0))
set_option maxHeartbeats 4000000 in
set_option maxRecDepth 100000 in
theorem mX2_cellAt (l : Launch) (D : va_G) (cy : Nat → ClassId) (x0 : Nat) (x1 : Int32) (x2 : Int32) (S0 : Sg) (Q : Int32 → Sg → Prop) (t0 : tg S0 x0 = 3) (hw : wX2_cellAt x0 x1 x2 S0 Q) : Met l yX2_cellAt (.code yX2_cellAt cX2_cellAt 4 (some .int) :: wsL_law) { frames := 0, cells := 0, slots := 0, locals := 0 } (gPc D cy [va_rf (some x0), .int x1, .int x2] S0) (va_Qi Q (gB D cy S0) (gA S0)) 0 0 (gA S0) := by
  refine gx_met (by decide) (Nat.le_of_ble_eq_true rfl) ?_
  intro p e s m args below meth c ls C hW hl
  have hx := C.1
  have hb := C.2.1
  have hl : lv_has ls 4 [(0, va_rf (some x0)), (1, .int x1), (2, .int x2)] := hl
  unfold wX2_cellAt at hw
  refine lv_iload_n hx hb dX2_cellAt_0 rfl (lv_at hl 1 rfl) ?_
  refine lv_bipush (v := 7) hx hb dX2_cellAt_1 (by decide) ?_
  refine lv_imul hx hb dX2_cellAt_3 ?_
  refine lv_iload_n hx hb dX2_cellAt_4 rfl (lv_at hl 2 rfl) ?_
  refine lv_iadd hx hb dX2_cellAt_5 ?_
  refine lv_topi (fun y1 ey1 => ?_)
  have hw := hw y1 ey1
  refine lv_istore_n (i := 3) (lv' := [(3, .int y1), (0, va_rf (some x0)), (1, .int x1), (2, .int x2)]) hx hb dX2_cellAt_6 rfl hl (by decide) rfl (fun ls hl => ?_)
  refine lv_iload_n hx hb dX2_cellAt_7 rfl (lv_at hl 0 rfl) ?_
  refine lv_if_lt (tgt := 29) hx hb dX2_cellAt_8 (by decide) (fun c2 => ?_) (fun c2 => ?_)
  · have hw := w_t hw c2
    refine lv_iconst (v := 0) hx hb dX2_cellAt_29 (by decide) ?_
    exact gx_iret C hW (Nat.le_of_ble_eq_true rfl) (Nat.le_of_ble_eq_true rfl) rfl hw dX2_cellAt_30
  · have hw := w_f hw c2
    refine lv_iload_n hx hb dX2_cellAt_11 rfl (lv_at hl 0 rfl) ?_
    refine gx_aload_n hx hb dX2_cellAt_12 rfl (lv_at hl 1 rfl) ?_
    refine gx_getR C hW F2_9 (k := 128) rfl t0 rfl dX2_cellAt_13 ?_
    obtain ⟨a3, ha3, ta3, hw⟩ := hw
    refine gx_alen C hW ha3 (Or.inl ta3) dX2_cellAt_16 ?_
    refine lv_icmp_ge (tgt := 29) hx hb dX2_cellAt_17 (by decide) (fun c4 => ?_) (fun c4 => ?_)
    · have hw := w_t hw c4
      refine lv_iconst (v := 0) hx hb dX2_cellAt_29 (by decide) ?_
      exact gx_iret C hW (Nat.le_of_ble_eq_true rfl) (Nat.le_of_ble_eq_true rfl) rfl hw dX2_cellAt_30
    · have hw := w_f hw c4
      refine gx_aload_n hx hb dX2_cellAt_20 rfl (lv_at hl 1 rfl) ?_
      refine gx_getR C hW F2_9 (k := 128) rfl t0 rfl dX2_cellAt_21 ?_
      refine lv_iload_n hx hb dX2_cellAt_24 rfl (lv_at hl 0 rfl) ?_
      obtain ⟨i5, hw⟩ := hw
      refine gx_iald C hW ha3 ta3 i5 dX2_cellAt_25 ?_
      refine lv_goto (tgt := 30) hx hb dX2_cellAt_26 (by decide) ?_
      exact gx_iret C hW (Nat.le_of_ble_eq_true rfl) (Nat.le_of_ble_eq_true rfl) rfl hw dX2_cellAt_30
/-! TrialStair$Grid.putCell -/
def wX2_putCell (x0 : Nat) (x1 : Int32) (x2 : Int32) (x3 : Int32) (S0 : Sg) (Q : Sg → Prop) : Prop := ∀ y1 : Int32, y1 = ((x1 * (7 : Int32)) + x2) → (if y1 < 0 then Q S0 else ∃ a3 : Nat, (fR S0 128 x0) = some a3 ∧ tg S0 a3 = 13 ∧ (if (nI (ln S0 a3)) ≤ y1 then Q S0 else vp_in y1 (ln S0 a3) ∧ ∀ S6 : Sg, S6 = sAI S0 a3 (y1).toNatClampNeg x3 → Q S6))
set_option maxHeartbeats 4000000 in
set_option maxRecDepth 100000 in
theorem mX2_putCell (l : Launch) (D : va_G) (cy : Nat → ClassId) (x0 : Nat) (x1 : Int32) (x2 : Int32) (x3 : Int32) (S0 : Sg) (Q : Sg → Prop) (t0 : tg S0 x0 = 3) (hw : wX2_putCell x0 x1 x2 x3 S0 Q) : Met l yX2_putCell (.code yX2_putCell cX2_putCell 5 none :: wsL_law) { frames := 0, cells := 0, slots := 0, locals := 0 } (gPc D cy [va_rf (some x0), .int x1, .int x2, .int x3] S0) (va_Qv Q (gB D cy S0) (gA S0)) 0 0 (gA S0) := by
  refine gx_met (by decide) (Nat.le_of_ble_eq_true rfl) ?_
  intro p e s m args below meth c ls C hW hl
  have hx := C.1
  have hb := C.2.1
  have hl : lv_has ls 5 [(0, va_rf (some x0)), (1, .int x1), (2, .int x2), (3, .int x3)] := hl
  unfold wX2_putCell at hw
  refine lv_iload_n hx hb dX2_putCell_0 rfl (lv_at hl 1 rfl) ?_
  refine lv_bipush (v := 7) hx hb dX2_putCell_1 (by decide) ?_
  refine lv_imul hx hb dX2_putCell_3 ?_
  refine lv_iload_n hx hb dX2_putCell_4 rfl (lv_at hl 2 rfl) ?_
  refine lv_iadd hx hb dX2_putCell_5 ?_
  refine lv_topi (fun y1 ey1 => ?_)
  have hw := hw y1 ey1
  refine lv_istore (lv' := [(4, .int y1), (0, va_rf (some x0)), (1, .int x1), (2, .int x2), (3, .int x3)]) hx hb dX2_putCell_6 hl (by decide) rfl (fun ls hl => ?_)
  refine lv_iload hx hb dX2_putCell_8 (lv_at hl 0 rfl) ?_
  refine lv_if_lt (tgt := 31) hx hb dX2_putCell_10 (by decide) (fun c2 => ?_) (fun c2 => ?_)
  · have hw := w_t hw c2
    exact gx_vret C hW (Nat.le_of_ble_eq_true rfl) (Nat.le_of_ble_eq_true rfl) hw dX2_putCell_31
  · have hw := w_f hw c2
    refine lv_iload hx hb dX2_putCell_13 (lv_at hl 0 rfl) ?_
    refine gx_aload_n hx hb dX2_putCell_15 rfl (lv_at hl 1 rfl) ?_
    refine gx_getR C hW F2_9 (k := 128) rfl t0 rfl dX2_putCell_16 ?_
    obtain ⟨a3, ha3, ta3, hw⟩ := hw
    refine gx_alen C hW ha3 (Or.inl ta3) dX2_putCell_19 ?_
    refine lv_icmp_ge (tgt := 31) hx hb dX2_putCell_20 (by decide) (fun c4 => ?_) (fun c4 => ?_)
    · have hw := w_t hw c4
      exact gx_vret C hW (Nat.le_of_ble_eq_true rfl) (Nat.le_of_ble_eq_true rfl) hw dX2_putCell_31
    · have hw := w_f hw c4
      refine gx_aload_n hx hb dX2_putCell_23 rfl (lv_at hl 1 rfl) ?_
      refine gx_getR C hW F2_9 (k := 128) rfl t0 rfl dX2_putCell_24 ?_
      refine lv_iload hx hb dX2_putCell_27 (lv_at hl 0 rfl) ?_
      refine lv_iload_n hx hb dX2_putCell_29 rfl (lv_at hl 4 rfl) ?_
      obtain ⟨i5, hw⟩ := hw
      refine gx_iast C hW ha3 ta3 i5 dX2_putCell_30 (fun H locs S6 eS6 hW hm => ?_)
      have hw := hw S6 eS6
      have t0 := hm _ _ t0
      have ta3 := hm _ _ ta3
      exact gx_vret C hW (Nat.le_of_ble_eq_true rfl) (Nat.le_of_ble_eq_true rfl) hw dX2_putCell_31
/-! TrialStair$Report.<init> -/
def wX4_init (x0 : Nat) (S0 : Sg) (Q : Sg → Prop) : Prop := ∀ S2 : Sg, S2 = nw S0 14 500 → ∀ S3 : Sg, S3 = sFR S2 256 x0 (some (sz S0)) → ∀ S5 : Sg, S5 = nw S3 13 1000 → ∀ S6 : Sg, S6 = sFR S5 257 x0 (some (sz S3)) → ∀ S7 : Sg, S7 = sFI S6 258 x0 (-1 : Int32) → Q S7
set_option maxHeartbeats 4000000 in
set_option maxRecDepth 100000 in
theorem mX4_init (l : Launch) (D : va_G) (cy : Nat → ClassId) (x0 : Nat) (S0 : Sg) (Q : Sg → Prop) (t0 : tg S0 x0 = 5) (hw : wX4_init x0 S0 Q) : Met l yX4_init (.code yX4_init cX4_init 1 none :: wsL_law) { frames := 1, cells := 2, slots := 1500, locals := 20 } (gPc D cy [va_rf (some x0)] S0) (va_Qv Q (gB D cy S0) (gA S0)) 2 1500 (gA S0) := by
  refine gx_met (by decide) (Nat.le_of_ble_eq_true rfl) ?_
  intro p e s m args below meth c ls C hW hl
  have hx := C.1
  have hb := C.2.1
  have hl : lv_has ls 1 [(0, va_rf (some x0))] := hl
  unfold wX4_init at hw
  refine gx_aload_n hx hb dX4_init_0 rfl (lv_at hl 0 rfl) ?_
  refine gx_objInit C (List.mem_of_getElem? (i := 54) (by decide +kernel)) (List.mem_of_getElem? (i := 10) (by decide +kernel)) (List.mem_of_getElem? (i := 11) (by decide +kernel)) rfl hl.1 dX4_init_1 (Nat.le_of_ble_eq_true rfl) (Nat.le_of_ble_eq_true rfl) (Nat.le_of_ble_eq_true rfl) ?_
  refine gx_aload_n hx hb dX4_init_4 rfl (lv_at hl 0 rfl) ?_
  refine lv_sipush (v := 500) hx hb dX4_init_5 (by decide) ?_
  refine gx_newa (at0 := .long) (k := 1) (K := 500) (N := 500) C hW (List.mem_of_getElem? (i := 38) (by decide +kernel)) (Or.inr (Or.inl ⟨rfl, rfl⟩)) (by decide) (by decide) (by decide) (by decide) (Nat.le_of_ble_eq_true rfl) (Nat.le_of_ble_eq_true rfl) dX4_init_8 (fun H S2 eS2 hW hm t1 => ?_)
  have hw := hw S2 eS2
  have t0 := hm _ _ t0
  refine gx_putR (k := 256) C hW F4_9 (Or.inr ⟨rfl, rfl, rfl⟩) rfl rfl t0 rfl dX4_init_10 (fun H locs S3 eS3 hW hm => ?_)
  have hw := hw S3 eS3
  have t0 := hm _ _ t0
  have t1 := hm _ _ t1
  refine gx_aload_n hx hb dX4_init_13 rfl (lv_at hl 0 rfl) ?_
  refine lv_sipush (v := 1000) hx hb dX4_init_14 (by decide) ?_
  refine gx_newa (at0 := .int) (k := 0) (K := 1000) (N := 1000) C hW (List.mem_of_getElem? (i := 33) (by decide +kernel)) (Or.inl ⟨rfl, rfl⟩) (by decide) (by decide) (by decide) (by decide) (Nat.le_of_ble_eq_true rfl) (Nat.le_of_ble_eq_true rfl) dX4_init_17 (fun H S5 eS5 hW hm t4 => ?_)
  have hw := hw S5 eS5
  have t0 := hm _ _ t0
  have t1 := hm _ _ t1
  refine gx_putR (k := 257) C hW F4_15 (Or.inr ⟨rfl, rfl, rfl⟩) rfl rfl t0 rfl dX4_init_19 (fun H locs S6 eS6 hW hm => ?_)
  have hw := hw S6 eS6
  have t0 := hm _ _ t0
  have t1 := hm _ _ t1
  have t4 := hm _ _ t4
  refine gx_aload_n hx hb dX4_init_22 rfl (lv_at hl 0 rfl) ?_
  refine lv_iconst (v := -1) hx hb dX4_init_23 (by decide) ?_
  refine gx_putI (k := 258) C hW F4_19 (Or.inl rfl) rfl t0 rfl rfl rfl dX4_init_24 (fun H locs S7 eS7 hW hm => ?_)
  have hw := hw S7 eS7
  have t0 := hm _ _ t0
  have t1 := hm _ _ t1
  have t4 := hm _ _ t4
  exact gx_vret C hW (Nat.le_of_ble_eq_true rfl) (Nat.le_of_ble_eq_true rfl) hw dX4_init_27
/-! TrialStair$Report.begin -/
def wX4_begin (x0 : Nat) (S0 : Sg) (Q : Sg → Prop) : Prop := ∀ S1 : Sg, S1 = sFI S0 258 x0 (0 : Int32) → ∀ S2 : Sg, S2 = sFL S1 259 x0 (0 : Int64) → ∀ S3 : Sg, S3 = sFR S2 260 x0 none → ∀ S4 : Sg, S4 = sFI S3 261 x0 (0 : Int32) → ∀ S5 : Sg, S5 = sFI S4 262 x0 (0 : Int32) → ∀ S6 : Sg, S6 = sFI S5 263 x0 (0 : Int32) → ∀ S7 : Sg, S7 = sFI S6 264 x0 (0 : Int32) → Q S7
set_option maxHeartbeats 4000000 in
set_option maxRecDepth 100000 in
theorem mX4_begin (l : Launch) (D : va_G) (cy : Nat → ClassId) (x0 : Nat) (S0 : Sg) (Q : Sg → Prop) (t0 : tg S0 x0 = 5) (hw : wX4_begin x0 S0 Q) : Met l yX4_begin (.code yX4_begin cX4_begin 1 none :: wsL_law) { frames := 0, cells := 0, slots := 0, locals := 0 } (gPc D cy [va_rf (some x0)] S0) (va_Qv Q (gB D cy S0) (gA S0)) 0 0 (gA S0) := by
  refine gx_met (by decide) (Nat.le_of_ble_eq_true rfl) ?_
  intro p e s m args below meth c ls C hW hl
  have hx := C.1
  have hb := C.2.1
  have hl : lv_has ls 1 [(0, va_rf (some x0))] := hl
  unfold wX4_begin at hw
  refine gx_aload_n hx hb dX4_begin_0 rfl (lv_at hl 0 rfl) ?_
  refine lv_iconst (v := 0) hx hb dX4_begin_1 (by decide) ?_
  refine gx_putI (k := 258) C hW F4_19 (Or.inl rfl) rfl t0 rfl rfl rfl dX4_begin_2 (fun H locs S1 eS1 hW hm => ?_)
  have hw := hw S1 eS1
  have t0 := hm _ _ t0
  refine gx_aload_n hx hb dX4_begin_5 rfl (lv_at hl 0 rfl) ?_
  refine lv_lconst (v := 0) hx hb dX4_begin_6 (by decide) ?_
  refine gx_putL (k := 259) C hW F4_23 (Or.inl rfl) rfl t0 rfl dX4_begin_7 (fun H locs S2 eS2 hW hm => ?_)
  have hw := hw S2 eS2
  have t0 := hm _ _ t0
  refine gx_aload_n hx hb dX4_begin_10 rfl (lv_at hl 0 rfl) ?_
  refine gx_null hx hb dX4_begin_11 ?_
  refine gx_putR (k := 260) C hW F4_27 (Or.inl rfl) rfl rfl t0 rfl dX4_begin_12 (fun H locs S3 eS3 hW hm => ?_)
  have hw := hw S3 eS3
  have t0 := hm _ _ t0
  refine gx_aload_n hx hb dX4_begin_15 rfl (lv_at hl 0 rfl) ?_
  refine lv_iconst (v := 0) hx hb dX4_begin_16 (by decide) ?_
  refine gx_putI (k := 261) C hW F4_31 (Or.inl rfl) rfl t0 rfl rfl rfl dX4_begin_17 (fun H locs S4 eS4 hW hm => ?_)
  have hw := hw S4 eS4
  have t0 := hm _ _ t0
  refine gx_aload_n hx hb dX4_begin_20 rfl (lv_at hl 0 rfl) ?_
  refine lv_iconst (v := 0) hx hb dX4_begin_21 (by decide) ?_
  refine gx_putI (k := 262) C hW F4_34 (Or.inl rfl) rfl t0 rfl rfl rfl dX4_begin_22 (fun H locs S5 eS5 hW hm => ?_)
  have hw := hw S5 eS5
  have t0 := hm _ _ t0
  refine gx_aload_n hx hb dX4_begin_25 rfl (lv_at hl 0 rfl) ?_
  refine lv_iconst (v := 0) hx hb dX4_begin_26 (by decide) ?_
  refine gx_putI (k := 263) C hW F4_37 (Or.inl rfl) rfl t0 rfl rfl rfl dX4_begin_27 (fun H locs S6 eS6 hW hm => ?_)
  have hw := hw S6 eS6
  have t0 := hm _ _ t0
  refine gx_aload_n hx hb dX4_begin_30 rfl (lv_at hl 0 rfl) ?_
  refine lv_iconst (v := 0) hx hb dX4_begin_31 (by decide) ?_
  refine gx_putI (k := 264) C hW F4_40 (Or.inl rfl) rfl t0 rfl rfl rfl dX4_begin_32 (fun H locs S7 eS7 hW hm => ?_)
  have hw := hw S7 eS7
  have t0 := hm _ _ t0
  exact gx_vret C hW (Nat.le_of_ble_eq_true rfl) (Nat.le_of_ble_eq_true rfl) hw dX4_begin_35
/-! TrialStair$Report.tell -/
def wX4_tell (x0 : Nat) (x1 : Int64) (S0 : Sg) (Q : Sg → Prop) : Prop := (if (fI S0 261 x0) < 0 then Q S0 else ∃ a2 : Nat, (fR S0 256 x0) = some a2 ∧ tg S0 a2 = 14 ∧ (if (nI (ln S0 a2)) ≤ (fI S0 261 x0) then Q S0 else vp_in (fI S0 261 x0) (ln S0 a2) ∧ ∀ S5 : Sg, S5 = sAL S0 a2 ((fI S0 261 x0)).toNatClampNeg x1 → ∀ S6 : Sg, S6 = sFI S5 261 x0 ((fI S5 261 x0) + (1 : Int32)) → Q S6))
set_option maxHeartbeats 4000000 in
set_option maxRecDepth 100000 in
theorem mX4_tell (l : Launch) (D : va_G) (cy : Nat → ClassId) (x0 : Nat) (x1 : Int64) (S0 : Sg) (Q : Sg → Prop) (t0 : tg S0 x0 = 5) (hw : wX4_tell x0 x1 S0 Q) : Met l yX4_tell (.code yX4_tell cX4_tell 3 none :: wsL_law) { frames := 0, cells := 0, slots := 0, locals := 0 } (gPc D cy [va_rf (some x0), .long x1] S0) (va_Qv Q (gB D cy S0) (gA S0)) 0 0 (gA S0) := by
  refine gx_met (by decide) (Nat.le_of_ble_eq_true rfl) ?_
  intro p e s m args below meth c ls C hW hl
  have hx := C.1
  have hb := C.2.1
  have hl : lv_has ls 3 [(0, va_rf (some x0)), (1, .long x1)] := hl
  unfold wX4_tell at hw
  refine gx_aload_n hx hb dX4_tell_0 rfl (lv_at hl 0 rfl) ?_
  refine gx_getI C hW F4_31 (k := 261) rfl t0 rfl dX4_tell_1 ?_
  refine lv_if_lt (tgt := 39) hx hb dX4_tell_4 (by decide) (fun c1 => ?_) (fun c1 => ?_)
  · have hw := w_t hw c1
    exact gx_vret C hW (Nat.le_of_ble_eq_true rfl) (Nat.le_of_ble_eq_true rfl) hw dX4_tell_39
  · have hw := w_f hw c1
    refine gx_aload_n hx hb dX4_tell_7 rfl (lv_at hl 0 rfl) ?_
    refine gx_getI C hW F4_31 (k := 261) rfl t0 rfl dX4_tell_8 ?_
    refine gx_aload_n hx hb dX4_tell_11 rfl (lv_at hl 0 rfl) ?_
    refine gx_getR C hW F4_9 (k := 256) rfl t0 rfl dX4_tell_12 ?_
    obtain ⟨a2, ha2, ta2, hw⟩ := hw
    refine gx_alen C hW ha2 (Or.inr (Or.inl ta2)) dX4_tell_15 ?_
    refine lv_icmp_ge (tgt := 39) hx hb dX4_tell_16 (by decide) (fun c3 => ?_) (fun c3 => ?_)
    · have hw := w_t hw c3
      exact gx_vret C hW (Nat.le_of_ble_eq_true rfl) (Nat.le_of_ble_eq_true rfl) hw dX4_tell_39
    · have hw := w_f hw c3
      refine gx_aload_n hx hb dX4_tell_19 rfl (lv_at hl 0 rfl) ?_
      refine gx_getR C hW F4_9 (k := 256) rfl t0 rfl dX4_tell_20 ?_
      refine gx_aload_n hx hb dX4_tell_23 rfl (lv_at hl 0 rfl) ?_
      refine gx_getI C hW F4_31 (k := 261) rfl t0 rfl dX4_tell_24 ?_
      refine lv_lload_n hx hb dX4_tell_27 rfl (lv_at hl 1 rfl) ?_
      obtain ⟨i4, hw⟩ := hw
      refine gx_last C hW ha2 ta2 i4 dX4_tell_28 (fun H locs S5 eS5 hW hm => ?_)
      have hw := hw S5 eS5
      have t0 := hm _ _ t0
      have ta2 := hm _ _ ta2
      refine gx_aload_n hx hb dX4_tell_29 rfl (lv_at hl 0 rfl) ?_
      refine lv_dup hx hb dX4_tell_30 (va_rf_cat _) ?_
      refine gx_getI C hW F4_31 (k := 261) rfl t0 rfl dX4_tell_31 ?_
      refine lv_iconst (v := 1) hx hb dX4_tell_34 (by decide) ?_
      refine lv_iadd hx hb dX4_tell_35 ?_
      refine gx_putI (k := 261) C hW F4_31 (Or.inl rfl) rfl t0 rfl rfl rfl dX4_tell_36 (fun H locs S6 eS6 hW hm => ?_)
      have hw := hw S6 eS6
      have t0 := hm _ _ t0
      have ta2 := hm _ _ ta2
      exact gx_vret C hW (Nat.le_of_ble_eq_true rfl) (Nat.le_of_ble_eq_true rfl) hw dX4_tell_39
/-! TrialStair$Report.noteFinish -/
def wX4_noteFinish (x0 : Nat) (x1 : Int32) (S0 : Sg) (Q : Sg → Prop) : Prop := (if (fI S0 262 x0) < 0 then Q S0 else ∃ a2 : Nat, (fR S0 257 x0) = some a2 ∧ tg S0 a2 = 13 ∧ (if (nI (ln S0 a2)) ≤ (fI S0 262 x0) then Q S0 else vp_in (fI S0 262 x0) (ln S0 a2) ∧ ∀ S5 : Sg, S5 = sAI S0 a2 ((fI S0 262 x0)).toNatClampNeg x1 → ∀ S6 : Sg, S6 = sFI S5 262 x0 ((fI S5 262 x0) + (1 : Int32)) → Q S6))
set_option maxHeartbeats 4000000 in
set_option maxRecDepth 100000 in
theorem mX4_noteFinish (l : Launch) (D : va_G) (cy : Nat → ClassId) (x0 : Nat) (x1 : Int32) (S0 : Sg) (Q : Sg → Prop) (t0 : tg S0 x0 = 5) (hw : wX4_noteFinish x0 x1 S0 Q) : Met l yX4_noteFinish (.code yX4_noteFinish cX4_noteFinish 2 none :: wsL_law) { frames := 0, cells := 0, slots := 0, locals := 0 } (gPc D cy [va_rf (some x0), .int x1] S0) (va_Qv Q (gB D cy S0) (gA S0)) 0 0 (gA S0) := by
  refine gx_met (by decide) (Nat.le_of_ble_eq_true rfl) ?_
  intro p e s m args below meth c ls C hW hl
  have hx := C.1
  have hb := C.2.1
  have hl : lv_has ls 2 [(0, va_rf (some x0)), (1, .int x1)] := hl
  unfold wX4_noteFinish at hw
  refine gx_aload_n hx hb dX4_noteFinish_0 rfl (lv_at hl 0 rfl) ?_
  refine gx_getI C hW F4_34 (k := 262) rfl t0 rfl dX4_noteFinish_1 ?_
  refine lv_if_lt (tgt := 39) hx hb dX4_noteFinish_4 (by decide) (fun c1 => ?_) (fun c1 => ?_)
  · have hw := w_t hw c1
    exact gx_vret C hW (Nat.le_of_ble_eq_true rfl) (Nat.le_of_ble_eq_true rfl) hw dX4_noteFinish_39
  · have hw := w_f hw c1
    refine gx_aload_n hx hb dX4_noteFinish_7 rfl (lv_at hl 0 rfl) ?_
    refine gx_getI C hW F4_34 (k := 262) rfl t0 rfl dX4_noteFinish_8 ?_
    refine gx_aload_n hx hb dX4_noteFinish_11 rfl (lv_at hl 0 rfl) ?_
    refine gx_getR C hW F4_15 (k := 257) rfl t0 rfl dX4_noteFinish_12 ?_
    obtain ⟨a2, ha2, ta2, hw⟩ := hw
    refine gx_alen C hW ha2 (Or.inl ta2) dX4_noteFinish_15 ?_
    refine lv_icmp_ge (tgt := 39) hx hb dX4_noteFinish_16 (by decide) (fun c3 => ?_) (fun c3 => ?_)
    · have hw := w_t hw c3
      exact gx_vret C hW (Nat.le_of_ble_eq_true rfl) (Nat.le_of_ble_eq_true rfl) hw dX4_noteFinish_39
    · have hw := w_f hw c3
      refine gx_aload_n hx hb dX4_noteFinish_19 rfl (lv_at hl 0 rfl) ?_
      refine gx_getR C hW F4_15 (k := 257) rfl t0 rfl dX4_noteFinish_20 ?_
      refine gx_aload_n hx hb dX4_noteFinish_23 rfl (lv_at hl 0 rfl) ?_
      refine gx_getI C hW F4_34 (k := 262) rfl t0 rfl dX4_noteFinish_24 ?_
      refine lv_iload_n hx hb dX4_noteFinish_27 rfl (lv_at hl 1 rfl) ?_
      obtain ⟨i4, hw⟩ := hw
      refine gx_iast C hW ha2 ta2 i4 dX4_noteFinish_28 (fun H locs S5 eS5 hW hm => ?_)
      have hw := hw S5 eS5
      have t0 := hm _ _ t0
      have ta2 := hm _ _ ta2
      refine gx_aload_n hx hb dX4_noteFinish_29 rfl (lv_at hl 0 rfl) ?_
      refine lv_dup hx hb dX4_noteFinish_30 (va_rf_cat _) ?_
      refine gx_getI C hW F4_34 (k := 262) rfl t0 rfl dX4_noteFinish_31 ?_
      refine lv_iconst (v := 1) hx hb dX4_noteFinish_34 (by decide) ?_
      refine lv_iadd hx hb dX4_noteFinish_35 ?_
      refine gx_putI (k := 262) C hW F4_34 (Or.inl rfl) rfl t0 rfl rfl rfl dX4_noteFinish_36 (fun H locs S6 eS6 hW hm => ?_)
      have hw := hw S6 eS6
      have t0 := hm _ _ t0
      have ta2 := hm _ _ ta2
      exact gx_vret C hW (Nat.le_of_ble_eq_true rfl) (Nat.le_of_ble_eq_true rfl) hw dX4_noteFinish_39
/-! TrialStair$Report.countCauses -/
def wX4_countCauses_b7 : Nat → (Nat) → (Int32) → (Option Nat) → Sg → (Int32 → Sg → Prop) → Prop
  | 0, _, _, _, _, _ => False
  | fu + 1, x0, x1, x2, S, Q => (if x2 = none then Q x1 S else ∃ a3 : Nat, x2 = some a3 ∧ tg S a3 = 1 ∧ (if (fR S 1 a3) = none then Q x1 S else ∀ y5 : Int32, y5 = x1 + (1) → ∀ y6 : Option Nat, y6 = (fR S 1 a3) → wX4_countCauses_b7 fu x0 y5 y6 S Q))
def wX4_countCauses (x0 : Nat) (S0 : Sg) (Q : Int32 → Sg → Prop) : Prop := ∀ y1 : Option Nat, y1 = (fR S0 260 x0) → ∃ fu7 : Nat, wX4_countCauses_b7 fu7 x0 (0 : Int32) y1 S0 Q
set_option maxHeartbeats 4000000 in
set_option maxRecDepth 100000 in
theorem kX4_countCauses_l7 {p : Program} {l : Launch} {e : Env} {s : State} {m : MethodId} {args : Array Value} {below : List Frame} {meth : Method} {c : Code} {D : va_G} {cy : Nat → ClassId} {S0 : Sg} (C : gC p s m args meth c D cy cX4_countCauses 3 yX4_countCauses.cls (some .int) yX4_countCauses.name) {x0 : Nat} {Q : Int32 → Sg → Prop} : ∀ (fu : Nat) (x1 : Int32) (x2 : Option Nat) (S : Sg) (H : Heap) (locs : List Loc) (ls : Array Slot) (hW : gW D cy (gA S0) (tg S0) s.heap S H locs) (t0 : tg S x0 = 5) (hl : lv_has ls 3 [(0, va_rf (some x0)), (1, .int x1), (2, va_rf x2)]) (hw : wX4_countCauses_b7 fu x0 x1 x2 S Q), W p l e { frames := 0, cells := 0, slots := 0, locals := 0 } s m args below meth c H locs 0 0 (MQ below (va_Qi Q (gB D cy S0) (gA S0)) args s 0 0 (gA S0)) (F0 m 7 ls []) := by
  have hx := C.1
  have hb := C.2.1
  intro fu
  induction fu with
  | zero =>
    intro x1 x2 S H locs ls hW t0 hl hw
    unfold wX4_countCauses_b7 at hw
    exact hw.elim
  | succ fu ih =>
    intro x1 x2 S H locs ls hW t0 hl hw
    unfold wX4_countCauses_b7 at hw
    refine gx_aload_n hx hb dX4_countCauses_7 rfl (lv_at hl 2 rfl) ?_
    refine gx_ifnull (tgt := 29) hx hb dX4_countCauses_8 (by decide) (fun c2 => ?_) (fun c2 => ?_)
    · have hw := w_t hw c2
      refine lv_iload_n hx hb dX4_countCauses_29 rfl (lv_at hl 1 rfl) ?_
      exact gx_iret C hW (Nat.le_of_ble_eq_true rfl) (Nat.le_of_ble_eq_true rfl) rfl hw dX4_countCauses_30
    · have hw := w_f hw c2
      refine gx_aload_n hx hb dX4_countCauses_11 rfl (lv_at hl 2 rfl) ?_
      obtain ⟨a3, ha3, ta3, hw⟩ := hw
      refine gx_getR C hW F4_43 (k := 1) ha3 ta3 rfl dX4_countCauses_12 ?_
      refine gx_ifnull (tgt := 29) hx hb dX4_countCauses_15 (by decide) (fun c4 => ?_) (fun c4 => ?_)
      · have hw := w_t hw c4
        refine lv_iload_n hx hb dX4_countCauses_29 rfl (lv_at hl 1 rfl) ?_
        exact gx_iret C hW (Nat.le_of_ble_eq_true rfl) (Nat.le_of_ble_eq_true rfl) rfl hw dX4_countCauses_30
      · have hw := w_f hw c4
        obtain ⟨y5, ey5⟩ : ∃ z : Int32, z = x1 + (1) := ⟨_, rfl⟩
        have hw := hw y5 ey5
        refine lv_iinc (v := y5) (lv' := [(1, .int y5), (0, va_rf (some x0)), (2, va_rf x2)]) hx hb dX4_countCauses_18 hl (k := 1) rfl (by rw [ey5]; rfl) (by decide) rfl (fun ls hl => ?_)
        refine gx_aload_n hx hb dX4_countCauses_21 rfl (lv_at hl 2 rfl) ?_
        refine gx_getR C hW F4_43 (k := 1) ha3 ta3 rfl dX4_countCauses_22 ?_
        refine gx_topr (fun y6 ey6 => ?_)
        have hw := hw y6 ey6
        refine gx_astore_n (i := 2) (lv' := [(2, va_rf y6), (1, .int y5), (0, va_rf (some x0))]) hx hb dX4_countCauses_25 rfl hl (by decide) rfl (fun ls hl => ?_)
        refine lv_goto (tgt := 7) hx hb dX4_countCauses_26 (by decide) ?_
        exact ih _ _ _ _ _ _ hW t0 (lv_sub hl [2, 1, 0] rfl) hw
theorem kX4_countCauses_b7 {p : Program} {l : Launch} {e : Env} {s : State} {m : MethodId} {args : Array Value} {below : List Frame} {meth : Method} {c : Code} {D : va_G} {cy : Nat → ClassId} {S0 : Sg} (C : gC p s m args meth c D cy cX4_countCauses 3 yX4_countCauses.cls (some .int) yX4_countCauses.name) {H : Heap} {locs : List Loc} {ls : Array Slot} {x0 : Nat} {x1 : Int32} {x2 : Option Nat} {S : Sg} {Q : Int32 → Sg → Prop} (fu : Nat) (hW : gW D cy (gA S0) (tg S0) s.heap S H locs) (t0 : tg S x0 = 5) (hl : lv_has ls 3 [(0, va_rf (some x0)), (1, .int x1), (2, va_rf x2)]) (hw : wX4_countCauses_b7 fu x0 x1 x2 S Q) : W p l e { frames := 0, cells := 0, slots := 0, locals := 0 } s m args below meth c H locs 0 0 (MQ below (va_Qi Q (gB D cy S0) (gA S0)) args s 0 0 (gA S0)) (F0 m 7 ls []) := kX4_countCauses_l7 C fu _ _ _ _ _ _ hW t0 hl hw
set_option maxHeartbeats 4000000 in
set_option maxRecDepth 100000 in
theorem mX4_countCauses (l : Launch) (D : va_G) (cy : Nat → ClassId) (x0 : Nat) (S0 : Sg) (Q : Int32 → Sg → Prop) (t0 : tg S0 x0 = 5) (hw : wX4_countCauses x0 S0 Q) : Met l yX4_countCauses (.code yX4_countCauses cX4_countCauses 3 (some .int) :: wsL_law) { frames := 0, cells := 0, slots := 0, locals := 0 } (gPc D cy [va_rf (some x0)] S0) (va_Qi Q (gB D cy S0) (gA S0)) 0 0 (gA S0) := by
  refine gx_met (by decide) (Nat.le_of_ble_eq_true rfl) ?_
  intro p e s m args below meth c ls C hW hl
  have hx := C.1
  have hb := C.2.1
  have hl : lv_has ls 3 [(0, va_rf (some x0))] := hl
  unfold wX4_countCauses at hw
  refine lv_iconst (v := 0) hx hb dX4_countCauses_0 (by decide) ?_
  refine lv_istore_n (i := 1) (lv' := [(1, .int (0 : Int32)), (0, va_rf (some x0))]) hx hb dX4_countCauses_1 rfl hl (by decide) rfl (fun ls hl => ?_)
  refine gx_aload_n hx hb dX4_countCauses_2 rfl (lv_at hl 1 rfl) ?_
  refine gx_getR C hW F4_27 (k := 260) rfl t0 rfl dX4_countCauses_3 ?_
  refine gx_topr (fun y1 ey1 => ?_)
  have hw := hw y1 ey1
  refine gx_astore_n (i := 2) (lv' := [(2, va_rf y1), (1, .int (0 : Int32)), (0, va_rf (some x0))]) hx hb dX4_countCauses_6 rfl hl (by decide) rfl (fun ls hl => ?_)
  obtain ⟨fu7, hw⟩ := hw
  exact kX4_countCauses_b7 C fu7 hW t0 (lv_sub hl [2, 1, 0] rfl) hw
/-! TrialStair$Frame.<init> -/
def wX1_init (x0 : Nat) (x1 : Option Nat) (x2 : Option Nat) (x3 : Int32) (S0 : Sg) (Q : Sg → Prop) : Prop := ∀ S1 : Sg, S1 = sFI S0 68 x0 (0 : Int32) → ∀ S2 : Sg, S2 = sFR S1 64 x0 x1 → ∀ S3 : Sg, S3 = sFR S2 65 x0 x2 → ∀ S4 : Sg, S4 = sFI S3 66 x0 x3 → ∀ S5 : Sg, S5 = sFI S4 67 x0 x3 → Q S5
set_option maxHeartbeats 4000000 in
set_option maxRecDepth 100000 in
theorem mX1_init (l : Launch) (D : va_G) (cy : Nat → ClassId) (x0 : Nat) (x1 : Option Nat) (x2 : Option Nat) (x3 : Int32) (S0 : Sg) (Q : Sg → Prop) (t0 : tg S0 x0 = 2) (hw : wX1_init x0 x1 x2 x3 S0 Q) : Met l yX1_init (.code yX1_init cX1_init 4 none :: wsL_law) { frames := 1, cells := 0, slots := 0, locals := 20 } (gPc D cy [va_rf (some x0), va_rf x1, va_rf x2, .int x3] S0) (va_Qv Q (gB D cy S0) (gA S0)) 0 0 (gA S0) := by
  refine gx_met (by decide) (by simp [lg_sl, va_rf_cat, cat_i, cat_l]) ?_
  intro p e s m args below meth c ls C hW hl
  have hx := C.1
  have hb := C.2.1
  have hl : lv_has ls 4 [(0, va_rf (some x0)), (1, va_rf x1), (2, va_rf x2), (3, .int x3)] := by simpa [lv_args, va_rf_cat, cat_i, cat_l] using hl
  unfold wX1_init at hw
  refine gx_aload_n hx hb dX1_init_0 rfl (lv_at hl 0 rfl) ?_
  refine gx_objInit C (List.mem_of_getElem? (i := 208) (by decide +kernel)) (List.mem_of_getElem? (i := 10) (by decide +kernel)) (List.mem_of_getElem? (i := 11) (by decide +kernel)) rfl hl.1 dX1_init_1 (Nat.le_of_ble_eq_true rfl) (Nat.le_of_ble_eq_true rfl) (Nat.le_of_ble_eq_true rfl) ?_
  refine gx_aload_n hx hb dX1_init_4 rfl (lv_at hl 0 rfl) ?_
  refine lv_iconst (v := 0) hx hb dX1_init_5 (by decide) ?_
  refine gx_putI (k := 68) C hW F1_9 (Or.inl rfl) rfl t0 rfl rfl rfl dX1_init_6 (fun H locs S1 eS1 hW hm => ?_)
  have hw := hw S1 eS1
  have t0 := hm _ _ t0
  refine gx_aload_n hx hb dX1_init_9 rfl (lv_at hl 0 rfl) ?_
  refine gx_aload_n hx hb dX1_init_10 rfl (lv_at hl 1 rfl) ?_
  refine gx_putR (k := 64) C hW F1_15 (Or.inr ⟨rfl, rfl, rfl⟩) rfl rfl t0 rfl dX1_init_11 (fun H locs S2 eS2 hW hm => ?_)
  have hw := hw S2 eS2
  have t0 := hm _ _ t0
  refine gx_aload_n hx hb dX1_init_14 rfl (lv_at hl 0 rfl) ?_
  refine gx_aload_n hx hb dX1_init_15 rfl (lv_at hl 2 rfl) ?_
  refine gx_putR (k := 65) C hW F1_19 (Or.inr ⟨rfl, rfl, rfl⟩) rfl rfl t0 rfl dX1_init_16 (fun H locs S3 eS3 hW hm => ?_)
  have hw := hw S3 eS3
  have t0 := hm _ _ t0
  refine gx_aload_n hx hb dX1_init_19 rfl (lv_at hl 0 rfl) ?_
  refine lv_iload_n hx hb dX1_init_20 rfl (lv_at hl 3 rfl) ?_
  refine gx_putI (k := 66) C hW F1_23 (Or.inr ⟨rfl, rfl, rfl⟩) rfl t0 rfl rfl rfl dX1_init_21 (fun H locs S4 eS4 hW hm => ?_)
  have hw := hw S4 eS4
  have t0 := hm _ _ t0
  refine gx_aload_n hx hb dX1_init_24 rfl (lv_at hl 0 rfl) ?_
  refine lv_iload_n hx hb dX1_init_25 rfl (lv_at hl 3 rfl) ?_
  refine gx_putI (k := 67) C hW F1_26 (Or.inl rfl) rfl t0 rfl rfl rfl dX1_init_26 (fun H locs S5 eS5 hW hm => ?_)
  have hw := hw S5 eS5
  have t0 := hm _ _ t0
  exact gx_vret C hW (Nat.le_of_ble_eq_true rfl) (Nat.le_of_ble_eq_true rfl) hw dX1_init_29
/-! TrialStair$Frame.blockEnd -/
def wX1_blockEnd (x0 : Nat) (S0 : Sg) (Q : Int32 → Sg → Prop) : Prop := ∃ a1 : Nat, (fR S0 64 x0) = some a1 ∧ tg S0 a1 = 8 ∧ (if (fI S0 456 a1) < 0 then Q (fI S0 66 x0) S0 else Q (fI S0 456 a1) S0)
set_option maxHeartbeats 4000000 in
set_option maxRecDepth 100000 in
theorem mX1_blockEnd (l : Launch) (D : va_G) (cy : Nat → ClassId) (x0 : Nat) (S0 : Sg) (Q : Int32 → Sg → Prop) (t0 : tg S0 x0 = 2) (hw : wX1_blockEnd x0 S0 Q) : Met l yX1_blockEnd (.code yX1_blockEnd cX1_blockEnd 1 (some .int) :: wsL_law) { frames := 0, cells := 0, slots := 0, locals := 0 } (gPc D cy [va_rf (some x0)] S0) (va_Qi Q (gB D cy S0) (gA S0)) 0 0 (gA S0) := by
  refine gx_met (by decide) (Nat.le_of_ble_eq_true rfl) ?_
  intro p e s m args below meth c ls C hW hl
  have hx := C.1
  have hb := C.2.1
  have hl : lv_has ls 1 [(0, va_rf (some x0))] := hl
  unfold wX1_blockEnd at hw
  refine gx_aload_n hx hb dX1_blockEnd_0 rfl (lv_at hl 0 rfl) ?_
  refine gx_getR C hW F1_15 (k := 64) rfl t0 rfl dX1_blockEnd_1 ?_
  obtain ⟨a1, ha1, ta1, hw⟩ := hw
  refine gx_getI C hW F1_29 (k := 456) ha1 ta1 rfl dX1_blockEnd_4 ?_
  refine lv_if_lt (tgt := 20) hx hb dX1_blockEnd_7 (by decide) (fun c2 => ?_) (fun c2 => ?_)
  · have hw := w_t hw c2
    refine gx_aload_n hx hb dX1_blockEnd_20 rfl (lv_at hl 0 rfl) ?_
    refine gx_getI C hW F1_23 (k := 66) rfl t0 rfl dX1_blockEnd_21 ?_
    exact gx_iret C hW (Nat.le_of_ble_eq_true rfl) (Nat.le_of_ble_eq_true rfl) rfl hw dX1_blockEnd_24
  · have hw := w_f hw c2
    refine gx_aload_n hx hb dX1_blockEnd_10 rfl (lv_at hl 0 rfl) ?_
    refine gx_getR C hW F1_15 (k := 64) rfl t0 rfl dX1_blockEnd_11 ?_
    refine gx_getI C hW F1_29 (k := 456) ha1 ta1 rfl dX1_blockEnd_14 ?_
    refine lv_goto (tgt := 24) hx hb dX1_blockEnd_17 (by decide) ?_
    exact gx_iret C hW (Nat.le_of_ble_eq_true rfl) (Nat.le_of_ble_eq_true rfl) rfl hw dX1_blockEnd_24
/-! TrialStair$Frame.placeBehind -/
def wX1_placeBehind (x0 : Nat) (S0 : Sg) (Q : Int32 → Sg → Prop) : Prop := ∃ a1 : Nat, (fR S0 64 x0) = some a1 ∧ tg S0 a1 = 8 ∧ (if (fI S0 456 a1) < 0 then Q (fI S0 66 x0) S0 else Q ((fI S0 456 a1) + (1 : Int32)) S0)
set_option maxHeartbeats 4000000 in
set_option maxRecDepth 100000 in
theorem mX1_placeBehind (l : Launch) (D : va_G) (cy : Nat → ClassId) (x0 : Nat) (S0 : Sg) (Q : Int32 → Sg → Prop) (t0 : tg S0 x0 = 2) (hw : wX1_placeBehind x0 S0 Q) : Met l yX1_placeBehind (.code yX1_placeBehind cX1_placeBehind 1 (some .int) :: wsL_law) { frames := 0, cells := 0, slots := 0, locals := 0 } (gPc D cy [va_rf (some x0)] S0) (va_Qi Q (gB D cy S0) (gA S0)) 0 0 (gA S0) := by
  refine gx_met (by decide) (Nat.le_of_ble_eq_true rfl) ?_
  intro p e s m args below meth c ls C hW hl
  have hx := C.1
  have hb := C.2.1
  have hl : lv_has ls 1 [(0, va_rf (some x0))] := hl
  unfold wX1_placeBehind at hw
  refine gx_aload_n hx hb dX1_placeBehind_0 rfl (lv_at hl 0 rfl) ?_
  refine gx_getR C hW F1_15 (k := 64) rfl t0 rfl dX1_placeBehind_1 ?_
  obtain ⟨a1, ha1, ta1, hw⟩ := hw
  refine gx_getI C hW F1_29 (k := 456) ha1 ta1 rfl dX1_placeBehind_4 ?_
  refine lv_if_lt (tgt := 22) hx hb dX1_placeBehind_7 (by decide) (fun c2 => ?_) (fun c2 => ?_)
  · have hw := w_t hw c2
    refine gx_aload_n hx hb dX1_placeBehind_22 rfl (lv_at hl 0 rfl) ?_
    refine gx_getI C hW F1_23 (k := 66) rfl t0 rfl dX1_placeBehind_23 ?_
    exact gx_iret C hW (Nat.le_of_ble_eq_true rfl) (Nat.le_of_ble_eq_true rfl) rfl hw dX1_placeBehind_26
  · have hw := w_f hw c2
    refine gx_aload_n hx hb dX1_placeBehind_10 rfl (lv_at hl 0 rfl) ?_
    refine gx_getR C hW F1_15 (k := 64) rfl t0 rfl dX1_placeBehind_11 ?_
    refine gx_getI C hW F1_29 (k := 456) ha1 ta1 rfl dX1_placeBehind_14 ?_
    refine lv_iconst (v := 1) hx hb dX1_placeBehind_17 (by decide) ?_
    refine lv_iadd hx hb dX1_placeBehind_18 ?_
    refine lv_goto (tgt := 26) hx hb dX1_placeBehind_19 (by decide) ?_
    exact gx_iret C hW (Nat.le_of_ble_eq_true rfl) (Nat.le_of_ble_eq_true rfl) rfl hw dX1_placeBehind_26
/-! TrialStair$Frame.takerEnd -/
def wX1_takerEnd (x0 : Nat) (S0 : Sg) (Q : Int32 → Sg → Prop) : Prop := ∃ a1 : Nat, (fR S0 64 x0) = some a1 ∧ tg S0 a1 = 8 ∧ (if (fI S0 455 a1) < 0 then wX1_blockEnd x0  S0 (fun (r3 : Int32) (S4 : Sg) => Q r3 S4) else Q (fI S0 455 a1) S0)
set_option maxHeartbeats 4000000 in
set_option maxRecDepth 100000 in
theorem mX1_takerEnd (l : Launch) (D : va_G) (cy : Nat → ClassId) (x0 : Nat) (S0 : Sg) (Q : Int32 → Sg → Prop) (t0 : tg S0 x0 = 2) (hw : wX1_takerEnd x0 S0 Q) : Met l yX1_takerEnd (.code yX1_takerEnd cX1_takerEnd 1 (some .int) :: wsL_law) { frames := 1, cells := 0, slots := 0, locals := 20 } (gPc D cy [va_rf (some x0)] S0) (va_Qi Q (gB D cy S0) (gA S0)) 0 0 (gA S0) := by
  refine gx_met (by decide) (Nat.le_of_ble_eq_true rfl) ?_
  intro p e s m args below meth c ls C hW hl
  have hx := C.1
  have hb := C.2.1
  have hl : lv_has ls 1 [(0, va_rf (some x0))] := hl
  unfold wX1_takerEnd at hw
  refine gx_aload_n hx hb dX1_takerEnd_0 rfl (lv_at hl 0 rfl) ?_
  refine gx_getR C hW F1_15 (k := 64) rfl t0 rfl dX1_takerEnd_1 ?_
  obtain ⟨a1, ha1, ta1, hw⟩ := hw
  refine gx_getI C hW F1_34 (k := 455) ha1 ta1 rfl dX1_takerEnd_4 ?_
  refine lv_if_lt (tgt := 20) hx hb dX1_takerEnd_7 (by decide) (fun c2 => ?_) (fun c2 => ?_)
  · have hw := w_t hw c2
    refine gx_aload_n hx hb dX1_takerEnd_20 rfl (lv_at hl 0 rfl) ?_
    refine gx_ci (gx_rV C hW M1_37 (mX1_blockEnd l D cy _ _ _ t0 hw) rfl rfl ⟨Nat.le_of_ble_eq_true rfl, Nat.le_of_ble_eq_true rfl⟩ rfl t0 (by decide) rfl rfl hl.1 rfl (gx_room0 (n := 4) (Nat.le_of_ble_eq_true rfl)) dX1_takerEnd_21 ⟨Nat.le_of_ble_eq_true rfl, Nat.le_of_ble_eq_true rfl⟩) hW (fun r3 S4 H locs hW hm hw => ?_)
    have t0 := hm _ _ t0
    have ta1 := hm _ _ ta1
    exact gx_iret C hW (Nat.le_of_ble_eq_true rfl) (Nat.le_of_ble_eq_true rfl) rfl hw dX1_takerEnd_24
  · have hw := w_f hw c2
    refine gx_aload_n hx hb dX1_takerEnd_10 rfl (lv_at hl 0 rfl) ?_
    refine gx_getR C hW F1_15 (k := 64) rfl t0 rfl dX1_takerEnd_11 ?_
    refine gx_getI C hW F1_34 (k := 455) ha1 ta1 rfl dX1_takerEnd_14 ?_
    refine lv_goto (tgt := 24) hx hb dX1_takerEnd_17 (by decide) ?_
    exact gx_iret C hW (Nat.le_of_ble_eq_true rfl) (Nat.le_of_ble_eq_true rfl) rfl hw dX1_takerEnd_24
/-! TrialStair$Frame.bodyEnd -/
def wX1_bodyEnd (x0 : Nat) (S0 : Sg) (Q : Int32 → Sg → Prop) : Prop := ∃ a1 : Nat, (fR S0 64 x0) = some a1 ∧ tg S0 a1 = 8 ∧ (if (fI S0 454 a1) < 0 then wX1_takerEnd x0  S0 (fun (r3 : Int32) (S4 : Sg) => Q r3 S4) else Q (fI S0 454 a1) S0)
set_option maxHeartbeats 4000000 in
set_option maxRecDepth 100000 in
theorem mX1_bodyEnd (l : Launch) (D : va_G) (cy : Nat → ClassId) (x0 : Nat) (S0 : Sg) (Q : Int32 → Sg → Prop) (t0 : tg S0 x0 = 2) (hw : wX1_bodyEnd x0 S0 Q) : Met l yX1_bodyEnd (.code yX1_bodyEnd cX1_bodyEnd 1 (some .int) :: wsL_law) { frames := 2, cells := 0, slots := 0, locals := 40 } (gPc D cy [va_rf (some x0)] S0) (va_Qi Q (gB D cy S0) (gA S0)) 0 0 (gA S0) := by
  refine gx_met (by decide) (Nat.le_of_ble_eq_true rfl) ?_
  intro p e s m args below meth c ls C hW hl
  have hx := C.1
  have hb := C.2.1
  have hl : lv_has ls 1 [(0, va_rf (some x0))] := hl
  unfold wX1_bodyEnd at hw
  refine gx_aload_n hx hb dX1_bodyEnd_0 rfl (lv_at hl 0 rfl) ?_
  refine gx_getR C hW F1_15 (k := 64) rfl t0 rfl dX1_bodyEnd_1 ?_
  obtain ⟨a1, ha1, ta1, hw⟩ := hw
  refine gx_getI C hW F1_41 (k := 454) ha1 ta1 rfl dX1_bodyEnd_4 ?_
  refine lv_if_lt (tgt := 20) hx hb dX1_bodyEnd_7 (by decide) (fun c2 => ?_) (fun c2 => ?_)
  · have hw := w_t hw c2
    refine gx_aload_n hx hb dX1_bodyEnd_20 rfl (lv_at hl 0 rfl) ?_
    refine gx_ci (gx_rV C hW M1_44 (mX1_takerEnd l D cy _ _ _ t0 hw) rfl rfl ⟨Nat.le_of_ble_eq_true rfl, Nat.le_of_ble_eq_true rfl⟩ rfl t0 (by decide) rfl rfl hl.1 rfl (gx_room0 (n := 4) (Nat.le_of_ble_eq_true rfl)) dX1_bodyEnd_21 ⟨Nat.le_of_ble_eq_true rfl, Nat.le_of_ble_eq_true rfl⟩) hW (fun r3 S4 H locs hW hm hw => ?_)
    have t0 := hm _ _ t0
    have ta1 := hm _ _ ta1
    exact gx_iret C hW (Nat.le_of_ble_eq_true rfl) (Nat.le_of_ble_eq_true rfl) rfl hw dX1_bodyEnd_24
  · have hw := w_f hw c2
    refine gx_aload_n hx hb dX1_bodyEnd_10 rfl (lv_at hl 0 rfl) ?_
    refine gx_getR C hW F1_15 (k := 64) rfl t0 rfl dX1_bodyEnd_11 ?_
    refine gx_getI C hW F1_41 (k := 454) ha1 ta1 rfl dX1_bodyEnd_14 ?_
    refine lv_goto (tgt := 24) hx hb dX1_bodyEnd_17 (by decide) ?_
    exact gx_iret C hW (Nat.le_of_ble_eq_true rfl) (Nat.le_of_ble_eq_true rfl) rfl hw dX1_bodyEnd_24
