/-! TrialStair$Worker.<init> -/
def wX9_init (x0 : Nat) (x1 : Option Nat) (x2 : Option Nat) (x3 : Option Nat) (S0 : Sg) (Q : Sg → Prop) : Prop := ∀ S2 : Sg, S2 = nw S0 8 0 → wX7_init (sz S0) (-1 : Int32) (35 : Int32) (0 : Int32) (0 : Int32) (1 : Int32) S2 (fun (S4 : Sg) => ∀ S5 : Sg, S5 = sFR S4 579 x0 (some (sz S0)) → ∀ S6 : Sg, S6 = sFR S5 576 x0 x1 → ∀ S7 : Sg, S7 = sFR S6 577 x0 x2 → ∀ S8 : Sg, S8 = sFR S7 578 x0 x3 → Q S8)
set_option maxHeartbeats 4000000 in
set_option maxRecDepth 100000 in
theorem mX9_init (l : Launch) (D : va_G) (cy : Nat → ClassId) (x0 : Nat) (x1 : Option Nat) (x2 : Option Nat) (x3 : Option Nat) (S0 : Sg) (Q : Sg → Prop) (t0 : tg S0 x0 = 10) (hw : wX9_init x0 x1 x2 x3 S0 Q) : Met l yX9_init (.code yX9_init cX9_init 4 none :: wsL_law) { frames := 2, cells := 1, slots := 9, locals := 45 } (gPc D cy [va_rf (some x0), va_rf x1, va_rf x2, va_rf x3] S0) (va_Qv Q (gB D cy S0) (gA S0)) 1 9 (gA S0) := by
  refine gx_met (by decide) (by simp [lg_sl, va_rf_cat, cat_i, cat_l]) ?_
  intro p e s m args below meth c ls C hW hl
  have hx := C.1
  have hb := C.2.1
  have hl : lv_has ls 4 [(0, va_rf (some x0)), (1, va_rf x1), (2, va_rf x2), (3, va_rf x3)] := by simpa [lv_args, va_rf_cat, cat_i, cat_l] using hl
  unfold wX9_init at hw
  refine gx_aload_n hx hb dX9_init_0 rfl (lv_at hl 0 rfl) ?_
  refine gx_objInit C (List.mem_of_getElem? (i := 61) (by decide +kernel)) (List.mem_of_getElem? (i := 10) (by decide +kernel)) (List.mem_of_getElem? (i := 11) (by decide +kernel)) rfl hl.1 dX9_init_1 (Nat.le_of_ble_eq_true rfl) (Nat.le_of_ble_eq_true rfl) (Nat.le_of_ble_eq_true rfl) ?_
  refine gx_aload_n hx hb dX9_init_4 rfl (lv_at hl 0 rfl) ?_
  refine gx_new C hW N9_9 (Nat.le_of_ble_eq_true rfl) (Nat.le_of_ble_eq_true rfl) dX9_init_5 (fun H S2 eS2 hW hm t1 => ?_)
  have hw := hw S2 eS2
  have t0 := hm _ _ t0
  refine lv_dup hx hb dX9_init_8 (va_rf_cat _) ?_
  refine lv_iconst (v := -1) hx hb dX9_init_9 (by decide) ?_
  refine lv_bipush (v := 35) hx hb dX9_init_10 (by decide) ?_
  refine lv_iconst (v := 0) hx hb dX9_init_12 (by decide) ?_
  refine lv_iconst (v := 0) hx hb dX9_init_13 (by decide) ?_
  refine lv_iconst (v := 1) hx hb dX9_init_14 (by decide) ?_
  refine gx_cv (gx_rI C hW M9_11 (mX7_init l D cy _ _ _ _ _ _ _ _ t1 hw) rfl rfl ⟨Nat.le_of_ble_eq_true rfl, Nat.le_of_ble_eq_true rfl⟩ rfl rfl hl.1 rfl (gx_room0 (n := 4) (Nat.le_of_ble_eq_true rfl)) dX9_init_15 ⟨Nat.le_of_ble_eq_true rfl, Nat.le_of_ble_eq_true rfl⟩) hW (fun S4 H locs hW hm hw => ?_)
  have t0 := hm _ _ t0
  have t1 := hm _ _ t1
  refine gx_putR (k := 579) C hW F9_14 (Or.inr ⟨rfl, rfl, rfl⟩) rfl rfl t0 rfl dX9_init_18 (fun H locs S5 eS5 hW hm => ?_)
  have hw := hw S5 eS5
  have t0 := hm _ _ t0
  have t1 := hm _ _ t1
  refine gx_aload_n hx hb dX9_init_21 rfl (lv_at hl 0 rfl) ?_
  refine gx_aload_n hx hb dX9_init_22 rfl (lv_at hl 1 rfl) ?_
  refine gx_putR (k := 576) C hW F9_20 (Or.inr ⟨rfl, rfl, rfl⟩) rfl rfl t0 rfl dX9_init_23 (fun H locs S6 eS6 hW hm => ?_)
  have hw := hw S6 eS6
  have t0 := hm _ _ t0
  have t1 := hm _ _ t1
  refine gx_aload_n hx hb dX9_init_26 rfl (lv_at hl 0 rfl) ?_
  refine gx_aload_n hx hb dX9_init_27 rfl (lv_at hl 2 rfl) ?_
  refine gx_putR (k := 577) C hW F9_24 (Or.inr ⟨rfl, rfl, rfl⟩) rfl rfl t0 rfl dX9_init_28 (fun H locs S7 eS7 hW hm => ?_)
  have hw := hw S7 eS7
  have t0 := hm _ _ t0
  have t1 := hm _ _ t1
  refine gx_aload_n hx hb dX9_init_31 rfl (lv_at hl 0 rfl) ?_
  refine gx_aload_n hx hb dX9_init_32 rfl (lv_at hl 3 rfl) ?_
  refine gx_putR (k := 578) C hW F9_28 (Or.inr ⟨rfl, rfl, rfl⟩) rfl rfl t0 rfl dX9_init_33 (fun H locs S8 eS8 hW hm => ?_)
  have hw := hw S8 eS8
  have t0 := hm _ _ t0
  have t1 := hm _ _ t1
  exact gx_vret C hW (Nat.le_of_ble_eq_true rfl) (Nat.le_of_ble_eq_true rfl) hw dX9_init_36
/-! TrialStair$Worker.stop -/
def wX9_stop (x0 : Nat) (x1 : Int32) (S0 : Sg) (Q : Sg → Prop) : Prop := ∃ a1 : Nat, (fR S0 578 x0) = some a1 ∧ tg S0 a1 = 5 ∧ ∀ S2 : Sg, S2 = sFI S0 258 a1 x1 → ∀ S3 : Sg, S3 = sFR S2 580 x0 none → Q S3
set_option maxHeartbeats 4000000 in
set_option maxRecDepth 100000 in
theorem mX9_stop (l : Launch) (D : va_G) (cy : Nat → ClassId) (x0 : Nat) (x1 : Int32) (S0 : Sg) (Q : Sg → Prop) (t0 : tg S0 x0 = 10) (hw : wX9_stop x0 x1 S0 Q) : Met l yX9_stop (.code yX9_stop cX9_stop 2 none :: wsL_law) { frames := 0, cells := 0, slots := 0, locals := 0 } (gPc D cy [va_rf (some x0), .int x1] S0) (va_Qv Q (gB D cy S0) (gA S0)) 0 0 (gA S0) := by
  refine gx_met (by decide) (Nat.le_of_ble_eq_true rfl) ?_
  intro p e s m args below meth c ls C hW hl
  have hx := C.1
  have hb := C.2.1
  have hl : lv_has ls 2 [(0, va_rf (some x0)), (1, .int x1)] := hl
  unfold wX9_stop at hw
  refine gx_aload_n hx hb dX9_stop_0 rfl (lv_at hl 0 rfl) ?_
  refine gx_getR C hW F9_28 (k := 578) rfl t0 rfl dX9_stop_1 ?_
  refine lv_iload_n hx hb dX9_stop_4 rfl (lv_at hl 1 rfl) ?_
  obtain ⟨a1, ha1, ta1, hw⟩ := hw
  refine gx_putI (k := 258) C hW F9_86 (Or.inl rfl) ha1 ta1 rfl rfl rfl dX9_stop_5 (fun H locs S2 eS2 hW hm => ?_)
  have hw := hw S2 eS2
  have t0 := hm _ _ t0
  have ta1 := hm _ _ ta1
  refine gx_aload_n hx hb dX9_stop_8 rfl (lv_at hl 0 rfl) ?_
  refine gx_null hx hb dX9_stop_9 ?_
  refine gx_putR (k := 580) C hW F9_44 (Or.inl rfl) rfl rfl t0 rfl dX9_stop_10 (fun H locs S3 eS3 hW hm => ?_)
  have hw := hw S3 eS3
  have t0 := hm _ _ t0
  have ta1 := hm _ _ ta1
  exact gx_vret C hW (Nat.le_of_ble_eq_true rfl) (Nat.le_of_ble_eq_true rfl) hw dX9_stop_13
/-! TrialStair$Worker.enter -/
def wX9_enter (x0 : Nat) (x1 : Option Nat) (x2 : Int32) (S0 : Sg) (Q : Int32 → Sg → Prop) : Prop := (if (fI S0 581 x0) < (200 : Int32) then ∀ S2 : Sg, S2 = sFI S0 581 x0 ((fI S0 581 x0) + (1 : Int32)) → ∃ a3 : Nat, (fR S2 578 x0) = some a3 ∧ tg S2 a3 = 5 ∧ ∀ S4 : Sg, S4 = sFI S2 263 a3 (if (fI S2 263 a3) < (fI S2 581 x0) then (fI S2 581 x0) else (fI S2 263 a3)) → ∀ S5 : Sg, S5 = sFR S4 580 x0 x1 → ∀ S6 : Sg, S6 = sFI S5 582 x0 x2 → ∀ S7 : Sg, S7 = sFI S6 584 x0 (0 : Int32) → Q (1 : Int32) S7 else wX9_stop x0 (4 : Int32) S0 (fun (S9 : Sg) => Q (0 : Int32) S9))
set_option maxHeartbeats 4000000 in
set_option maxRecDepth 100000 in
theorem mX9_enter (l : Launch) (D : va_G) (cy : Nat → ClassId) (x0 : Nat) (x1 : Option Nat) (x2 : Int32) (S0 : Sg) (Q : Int32 → Sg → Prop) (t0 : tg S0 x0 = 10) (hw : wX9_enter x0 x1 x2 S0 Q) : Met l yX9_enter (.code yX9_enter cX9_enter 3 (some .boolean) :: wsL_law) { frames := 1, cells := 0, slots := 0, locals := 21 } (gPc D cy [va_rf (some x0), va_rf x1, .int x2] S0) (va_Qi Q (gB D cy S0) (gA S0)) 0 0 (gA S0) := by
  refine gx_met (by decide) (by simp [lg_sl, va_rf_cat, cat_i, cat_l]) ?_
  intro p e s m args below meth c ls C hW hl
  have hx := C.1
  have hb := C.2.1
  have hl : lv_has ls 3 [(0, va_rf (some x0)), (1, va_rf x1), (2, .int x2)] := by simpa [lv_args, va_rf_cat, cat_i, cat_l] using hl
  unfold wX9_enter at hw
  refine gx_aload_n hx hb dX9_enter_0 rfl (lv_at hl 0 rfl) ?_
  refine gx_getI C hW F9_41 (k := 581) rfl t0 rfl dX9_enter_1 ?_
  refine lv_sipush (v := 200) hx hb dX9_enter_4 (by decide) ?_
  refine lv_icmp_lt (tgt := 17) hx hb dX9_enter_7 (by decide) (fun c1 => ?_) (fun c1 => ?_)
  · have hw := w_t hw c1
    refine gx_aload_n hx hb dX9_enter_17 rfl (lv_at hl 0 rfl) ?_
    refine lv_dup hx hb dX9_enter_18 (va_rf_cat _) ?_
    refine gx_getI C hW F9_41 (k := 581) rfl t0 rfl dX9_enter_19 ?_
    refine lv_iconst (v := 1) hx hb dX9_enter_22 (by decide) ?_
    refine lv_iadd hx hb dX9_enter_23 ?_
    refine gx_putI (k := 581) C hW F9_41 (Or.inl rfl) rfl t0 rfl rfl rfl dX9_enter_24 (fun H locs S2 eS2 hW hm => ?_)
    have hw := hw S2 eS2
    have t0 := hm _ _ t0
    refine gx_aload_n hx hb dX9_enter_27 rfl (lv_at hl 0 rfl) ?_
    refine gx_getR C hW F9_28 (k := 578) rfl t0 rfl dX9_enter_28 ?_
    refine gx_aload_n hx hb dX9_enter_31 rfl (lv_at hl 0 rfl) ?_
    refine gx_getR C hW F9_28 (k := 578) rfl t0 rfl dX9_enter_32 ?_
    obtain ⟨a3, ha3, ta3, hw⟩ := hw
    refine gx_getI C hW F9_179 (k := 263) ha3 ta3 rfl dX9_enter_35 ?_
    refine gx_aload_n hx hb dX9_enter_38 rfl (lv_at hl 0 rfl) ?_
    refine gx_getI C hW F9_41 (k := 581) rfl t0 rfl dX9_enter_39 ?_
    refine gx_mmax C (List.mem_of_getElem? (i := 223) (by decide +kernel)) (List.mem_of_getElem? (i := 224) (by decide +kernel)) (List.mem_of_getElem? (i := 225) (by decide +kernel)) (List.mem_of_getElem? (i := 226) (by decide +kernel)) hl.1 (Nat.le_of_ble_eq_true rfl) (Nat.le_of_ble_eq_true rfl) (Nat.le_of_ble_eq_true rfl) (Nat.le_of_ble_eq_true rfl) (Nat.le_of_ble_eq_true rfl) dX9_enter_42 ?_
    refine gx_putI (k := 263) C hW F9_179 (Or.inl rfl) ha3 ta3 rfl rfl rfl dX9_enter_45 (fun H locs S4 eS4 hW hm => ?_)
    have hw := hw S4 eS4
    have t0 := hm _ _ t0
    have ta3 := hm _ _ ta3
    refine gx_aload_n hx hb dX9_enter_48 rfl (lv_at hl 0 rfl) ?_
    refine gx_aload_n hx hb dX9_enter_49 rfl (lv_at hl 1 rfl) ?_
    refine gx_putR (k := 580) C hW F9_44 (Or.inl rfl) rfl rfl t0 rfl dX9_enter_50 (fun H locs S5 eS5 hW hm => ?_)
    have hw := hw S5 eS5
    have t0 := hm _ _ t0
    have ta3 := hm _ _ ta3
    refine gx_aload_n hx hb dX9_enter_53 rfl (lv_at hl 0 rfl) ?_
    refine lv_iload_n hx hb dX9_enter_54 rfl (lv_at hl 2 rfl) ?_
    refine gx_putI (k := 582) C hW F9_53 (Or.inl rfl) rfl t0 rfl rfl rfl dX9_enter_55 (fun H locs S6 eS6 hW hm => ?_)
    have hw := hw S6 eS6
    have t0 := hm _ _ t0
    have ta3 := hm _ _ ta3
    refine gx_aload_n hx hb dX9_enter_58 rfl (lv_at hl 0 rfl) ?_
    refine lv_iconst (v := 0) hx hb dX9_enter_59 (by decide) ?_
    refine gx_putI (k := 584) C hW F9_67 (Or.inl rfl) rfl t0 rfl rfl rfl dX9_enter_60 (fun H locs S7 eS7 hW hm => ?_)
    have hw := hw S7 eS7
    have t0 := hm _ _ t0
    have ta3 := hm _ _ ta3
    refine lv_iconst (v := 1) hx hb dX9_enter_63 (by decide) ?_
    exact gx_iret C hW (Nat.le_of_ble_eq_true rfl) (Nat.le_of_ble_eq_true rfl) rfl hw dX9_enter_64
  · have hw := w_f hw c1
    refine gx_aload_n hx hb dX9_enter_10 rfl (lv_at hl 0 rfl) ?_
    refine lv_iconst (v := 4) hx hb dX9_enter_11 (by decide) ?_
    refine gx_cv (gx_rV C hW M9_82 (mX9_stop l D cy _ _ _ _ t0 hw) rfl rfl ⟨Nat.le_of_ble_eq_true rfl, Nat.le_of_ble_eq_true rfl⟩ rfl t0 (by decide) rfl rfl hl.1 rfl (gx_room0 (n := 4) (Nat.le_of_ble_eq_true rfl)) dX9_enter_12 ⟨Nat.le_of_ble_eq_true rfl, Nat.le_of_ble_eq_true rfl⟩) hW (fun S9 H locs hW hm hw => ?_)
    have t0 := hm _ _ t0
    refine lv_iconst (v := 0) hx hb dX9_enter_15 (by decide) ?_
    exact gx_iret C hW (Nat.le_of_ble_eq_true rfl) (Nat.le_of_ble_eq_true rfl) rfl hw dX9_enter_16
/-! TrialStair$Worker.enterRoutine -/
def wX9_enterRoutine (x0 : Nat) (x1 : Int32) (x2 : Option Nat) (S0 : Sg) (Q : Sg → Prop) : Prop := ∀ S2 : Sg, S2 = nw S0 2 0 → ∃ a3 : Nat, (fR S2 576 x0) = some a3 ∧ tg S2 a3 = 7 ∧ wX6_placeBehind a3 x1 S2 (fun (r4 : Int32) (S5 : Sg) => wX1_init (sz S0) x2 (fR S2 580 x0) r4 S5 (fun (S7 : Sg) => ∃ a8 : Nat, (fR S7 576 x0) = some a8 ∧ tg S7 a8 = 7 ∧ wX6_firstPlaceOf a8 x1 S7 (fun (r9 : Int32) (S10 : Sg) => wX9_enter x0 (some (sz S0)) r9 S10 (fun (r11 : Int32) (S12 : Sg) => Q S12))))
set_option maxHeartbeats 4000000 in
set_option maxRecDepth 100000 in
theorem mX9_enterRoutine (l : Launch) (D : va_G) (cy : Nat → ClassId) (x0 : Nat) (x1 : Int32) (x2 : Option Nat) (S0 : Sg) (Q : Sg → Prop) (t0 : tg S0 x0 = 10) (hw : wX9_enterRoutine x0 x1 x2 S0 Q) : Met l yX9_enterRoutine (.code yX9_enterRoutine cX9_enterRoutine 3 none :: wsL_law) { frames := 2, cells := 1, slots := 9, locals := 43 } (gPc D cy [va_rf (some x0), .int x1, va_rf x2] S0) (va_Qv Q (gB D cy S0) (gA S0)) 1 9 (gA S0) := by
  refine gx_met (by decide) (by simp [lg_sl, va_rf_cat, cat_i, cat_l]) ?_
  intro p e s m args below meth c ls C hW hl
  have hx := C.1
  have hb := C.2.1
  have hl : lv_has ls 3 [(0, va_rf (some x0)), (1, .int x1), (2, va_rf x2)] := by simpa [lv_args, va_rf_cat, cat_i, cat_l] using hl
  unfold wX9_enterRoutine at hw
  refine gx_aload_n hx hb dX9_enterRoutine_0 rfl (lv_at hl 0 rfl) ?_
  refine gx_new C hW N9_57 (Nat.le_of_ble_eq_true rfl) (Nat.le_of_ble_eq_true rfl) dX9_enterRoutine_1 (fun H S2 eS2 hW hm t1 => ?_)
  have hw := hw S2 eS2
  have t0 := hm _ _ t0
  refine lv_dup hx hb dX9_enterRoutine_4 (va_rf_cat _) ?_
  refine gx_aload_n hx hb dX9_enterRoutine_5 rfl (lv_at hl 2 rfl) ?_
  refine gx_aload_n hx hb dX9_enterRoutine_6 rfl (lv_at hl 0 rfl) ?_
  refine gx_getR C hW F9_44 (k := 580) rfl t0 rfl dX9_enterRoutine_7 ?_
  refine gx_aload_n hx hb dX9_enterRoutine_10 rfl (lv_at hl 0 rfl) ?_
  refine gx_getR C hW F9_20 (k := 576) rfl t0 rfl dX9_enterRoutine_11 ?_
  refine lv_iload_n hx hb dX9_enterRoutine_14 rfl (lv_at hl 1 rfl) ?_
  obtain ⟨a3, ha3, ta3, hw⟩ := hw
  refine gx_ci (gx_rV C hW M9_151 (mX6_placeBehind l D cy _ _ _ _ ta3 hw) rfl rfl ⟨Nat.le_of_ble_eq_true rfl, Nat.le_of_ble_eq_true rfl⟩ ha3 ta3 (by decide) rfl rfl hl.1 rfl (by simp [va_rf_cat, cat_i, cat_l]) dX9_enterRoutine_15 ⟨Nat.le_of_ble_eq_true rfl, Nat.le_of_ble_eq_true rfl⟩) hW (fun r4 S5 H locs hW hm hw => ?_)
  have t0 := hm _ _ t0
  have t1 := hm _ _ t1
  have ta3 := hm _ _ ta3
  refine gx_cv (gx_rI C hW M9_155 (mX1_init l D cy _ _ _ _ _ _ t1 hw) rfl rfl ⟨Nat.le_of_ble_eq_true rfl, Nat.le_of_ble_eq_true rfl⟩ rfl rfl hl.1 rfl (gx_room0 (n := 4) (Nat.le_of_ble_eq_true rfl)) dX9_enterRoutine_18 ⟨Nat.le_of_ble_eq_true rfl, Nat.le_of_ble_eq_true rfl⟩) hW (fun S7 H locs hW hm hw => ?_)
  have t0 := hm _ _ t0
  have t1 := hm _ _ t1
  have ta3 := hm _ _ ta3
  refine gx_aload_n hx hb dX9_enterRoutine_21 rfl (lv_at hl 0 rfl) ?_
  refine gx_getR C hW F9_20 (k := 576) rfl t0 rfl dX9_enterRoutine_22 ?_
  refine lv_iload_n hx hb dX9_enterRoutine_25 rfl (lv_at hl 1 rfl) ?_
  obtain ⟨a8, ha8, ta8, hw⟩ := hw
  refine gx_ci (gx_rV C hW M9_158 (mX6_firstPlaceOf l D cy _ _ _ _ ta8 hw) rfl rfl ⟨Nat.le_of_ble_eq_true rfl, Nat.le_of_ble_eq_true rfl⟩ ha8 ta8 (by decide) rfl rfl hl.1 rfl (gx_room0 (n := 4) (Nat.le_of_ble_eq_true rfl)) dX9_enterRoutine_26 ⟨Nat.le_of_ble_eq_true rfl, Nat.le_of_ble_eq_true rfl⟩) hW (fun r9 S10 H locs hW hm hw => ?_)
  have t0 := hm _ _ t0
  have t1 := hm _ _ t1
  have ta3 := hm _ _ ta3
  have ta8 := hm _ _ ta8
  refine gx_ci (gx_rV C hW M9_161 (mX9_enter l D cy _ _ _ _ _ t0 hw) rfl rfl ⟨Nat.le_of_ble_eq_true rfl, Nat.le_of_ble_eq_true rfl⟩ rfl t0 (by decide) rfl rfl hl.1 rfl (gx_room0 (n := 4) (Nat.le_of_ble_eq_true rfl)) dX9_enterRoutine_29 ⟨Nat.le_of_ble_eq_true rfl, Nat.le_of_ble_eq_true rfl⟩) hW (fun r11 S12 H locs hW hm hw => ?_)
  have t0 := hm _ _ t0
  have t1 := hm _ _ t1
  have ta3 := hm _ _ ta3
  have ta8 := hm _ _ ta8
  refine lv_pop hx hb dX9_enterRoutine_32 rfl ?_
  exact gx_vret C hW (Nat.le_of_ble_eq_true rfl) (Nat.le_of_ble_eq_true rfl) hw dX9_enterRoutine_33
/-! TrialStair$Worker.leaveBlock -/
def wX9_leaveBlock (x0 : Nat) (x1 : Option Nat) (S0 : Sg) (Q : Sg → Prop) : Prop := ∃ a1 : Nat, x1 = some a1 ∧ tg S0 a1 = 2 ∧ ∀ S2 : Sg, S2 = sFR S0 580 x0 (fR S0 65 a1) → ∀ S3 : Sg, S3 = sFI S2 581 x0 ((fI S2 581 x0) - (1 : Int32)) → (if (fI S3 584 x0) = (1 : Int32) then wX1_placeBehind a1  S3 (fun (r5 : Int32) (S6 : Sg) => ∀ S7 : Sg, S7 = sFI S6 582 x0 r5 → ∀ S8 : Sg, S8 = sFI S7 584 x0 (0 : Int32) → Q S8) else Q S3)
set_option maxHeartbeats 4000000 in
set_option maxRecDepth 100000 in
theorem mX9_leaveBlock (l : Launch) (D : va_G) (cy : Nat → ClassId) (x0 : Nat) (x1 : Option Nat) (S0 : Sg) (Q : Sg → Prop) (t0 : tg S0 x0 = 10) (hw : wX9_leaveBlock x0 x1 S0 Q) : Met l yX9_leaveBlock (.code yX9_leaveBlock cX9_leaveBlock 2 none :: wsL_law) { frames := 1, cells := 0, slots := 0, locals := 20 } (gPc D cy [va_rf (some x0), va_rf x1] S0) (va_Qv Q (gB D cy S0) (gA S0)) 0 0 (gA S0) := by
  refine gx_met (by decide) (by simp [lg_sl, va_rf_cat, cat_i, cat_l]) ?_
  intro p e s m args below meth c ls C hW hl
  have hx := C.1
  have hb := C.2.1
  have hl : lv_has ls 2 [(0, va_rf (some x0)), (1, va_rf x1)] := by simpa [lv_args, va_rf_cat, cat_i, cat_l] using hl
  unfold wX9_leaveBlock at hw
  refine gx_aload_n hx hb dX9_leaveBlock_0 rfl (lv_at hl 0 rfl) ?_
  refine gx_aload_n hx hb dX9_leaveBlock_1 rfl (lv_at hl 1 rfl) ?_
  obtain ⟨a1, ha1, ta1, hw⟩ := hw
  refine gx_getR C hW F9_144 (k := 65) ha1 ta1 rfl dX9_leaveBlock_2 ?_
  refine gx_putR (k := 580) C hW F9_44 (Or.inl rfl) rfl rfl t0 rfl dX9_leaveBlock_5 (fun H locs S2 eS2 hW hm => ?_)
  have hw := hw S2 eS2
  have t0 := hm _ _ t0
  have ta1 := hm _ _ ta1
  refine gx_aload_n hx hb dX9_leaveBlock_8 rfl (lv_at hl 0 rfl) ?_
  refine lv_dup hx hb dX9_leaveBlock_9 (va_rf_cat _) ?_
  refine gx_getI C hW F9_41 (k := 581) rfl t0 rfl dX9_leaveBlock_10 ?_
  refine lv_iconst (v := 1) hx hb dX9_leaveBlock_13 (by decide) ?_
  refine lv_isub hx hb dX9_leaveBlock_14 ?_
  refine gx_putI (k := 581) C hW F9_41 (Or.inl rfl) rfl t0 rfl rfl rfl dX9_leaveBlock_15 (fun H locs S3 eS3 hW hm => ?_)
  have hw := hw S3 eS3
  have t0 := hm _ _ t0
  have ta1 := hm _ _ ta1
  refine gx_aload_n hx hb dX9_leaveBlock_18 rfl (lv_at hl 0 rfl) ?_
  refine gx_getI C hW F9_67 (k := 584) rfl t0 rfl dX9_leaveBlock_19 ?_
  refine lv_iconst (v := 1) hx hb dX9_leaveBlock_22 (by decide) ?_
  refine lv_icmp_ne (tgt := 39) hx hb dX9_leaveBlock_23 (by decide) (fun c4 => ?_) (fun c4 => ?_)
  · have hw := w_f hw c4
    exact gx_vret C hW (Nat.le_of_ble_eq_true rfl) (Nat.le_of_ble_eq_true rfl) hw dX9_leaveBlock_39
  · have hw := w_t hw c4
    refine gx_aload_n hx hb dX9_leaveBlock_26 rfl (lv_at hl 0 rfl) ?_
    refine gx_aload_n hx hb dX9_leaveBlock_27 rfl (lv_at hl 1 rfl) ?_
    refine gx_ci (gx_rV C hW M9_207 (mX1_placeBehind l D cy _ _ _ ta1 hw) rfl rfl ⟨Nat.le_of_ble_eq_true rfl, Nat.le_of_ble_eq_true rfl⟩ ha1 ta1 (by decide) rfl rfl hl.1 rfl (gx_room0 (n := 4) (Nat.le_of_ble_eq_true rfl)) dX9_leaveBlock_28 ⟨Nat.le_of_ble_eq_true rfl, Nat.le_of_ble_eq_true rfl⟩) hW (fun r5 S6 H locs hW hm hw => ?_)
    have t0 := hm _ _ t0
    have ta1 := hm _ _ ta1
    refine gx_putI (k := 582) C hW F9_53 (Or.inl rfl) rfl t0 rfl rfl rfl dX9_leaveBlock_31 (fun H locs S7 eS7 hW hm => ?_)
    have hw := hw S7 eS7
    have t0 := hm _ _ t0
    have ta1 := hm _ _ ta1
    refine gx_aload_n hx hb dX9_leaveBlock_34 rfl (lv_at hl 0 rfl) ?_
    refine lv_iconst (v := 0) hx hb dX9_leaveBlock_35 (by decide) ?_
    refine gx_putI (k := 584) C hW F9_67 (Or.inl rfl) rfl t0 rfl rfl rfl dX9_leaveBlock_36 (fun H locs S8 eS8 hW hm => ?_)
    have hw := hw S8 eS8
    have t0 := hm _ _ t0
    have ta1 := hm _ _ ta1
    exact gx_vret C hW (Nat.le_of_ble_eq_true rfl) (Nat.le_of_ble_eq_true rfl) hw dX9_leaveBlock_39
/-! TrialStair$Worker.takes -/
def wX9_takes_b49 (x0 : Option Nat) (x3 : Int32) (S : Sg) (Q : Int32 → Sg → Prop) : Prop := ∃ a10 : Nat, x0 = some a10 ∧ tg S a10 = 8 ∧ (if ((fI S 450 a10) &&& x3) = 0 then Q (0 : Int32) S else Q (1 : Int32) S)
def wX9_takes_b40 (x0 : Option Nat) (x2 : Int32) (x3 : Int32) (S : Sg) (Q : Int32 → Sg → Prop) : Prop := (if x2 = (2 : Int32) then ∀ y12 : Int32, y12 = (x3 ||| (2 : Int32)) → wX9_takes_b49 x0 y12 S Q else wX9_takes_b49 x0 x3 S Q)
def wX9_takes_b36 (x0 : Option Nat) (x2 : Int32) (x3 : Int32) (S : Sg) (Q : Int32 → Sg → Prop) : Prop := ∀ y8 : Int32, y8 = (x3 ||| (1 : Int32)) → wX9_takes_b40 x0 x2 y8 S Q
def wX9_takes (x0 : Option Nat) (x1 : Option Nat) (S0 : Sg) (Q : Int32 → Sg → Prop) : Prop := ∃ a1 : Nat, x0 = some a1 ∧ tg S0 a1 = 8 ∧ (if (fI S0 454 a1) < 0 then Q (0 : Int32) S0 else (if x1 = none then Q (0 : Int32) S0 else ∃ a4 : Nat, x1 = some a4 ∧ tg S0 a4 = 1 ∧ ∀ y5 : Int32, y5 = (fI S0 0 a4) → ∀ y6 : Int32, y6 = ((1024 : Int32) ||| ((1 : Int32) <<< (y5 &&& 31))) → (if y5 = (1 : Int32) then wX9_takes_b36 x0 y5 y6 S0 Q else (if y5 = (2 : Int32) then wX9_takes_b36 x0 y5 y6 S0 Q else wX9_takes_b40 x0 y5 y6 S0 Q))))
set_option maxHeartbeats 4000000 in
set_option maxRecDepth 100000 in
theorem kX9_takes_b49 {p : Program} {l : Launch} {e : Env} {s : State} {m : MethodId} {args : Array Value} {below : List Frame} {meth : Method} {c : Code} {D : va_G} {cy : Nat → ClassId} {S0 : Sg} (C : gC p s m args meth c D cy cX9_takes 4 yX9_takes.cls (some .boolean) yX9_takes.name) {H : Heap} {locs : List Loc} {ls : Array Slot} {x0 : Option Nat} {x3 : Int32} {S : Sg} {Q : Int32 → Sg → Prop} (hW : gW D cy (gA S0) (tg S0) s.heap S H locs) (hl : lv_has ls 4 [(0, va_rf x0), (3, .int x3)]) (hw : wX9_takes_b49 x0 x3 S Q) : W p l e { frames := 0, cells := 0, slots := 0, locals := 0 } s m args below meth c H locs 0 0 (MQ below (va_Qi Q (gB D cy S0) (gA S0)) args s 0 0 (gA S0)) (F0 m 49 ls []) := by
  have hx := C.1
  have hb := C.2.1
  unfold wX9_takes_b49 at hw
  refine gx_aload_n hx hb dX9_takes_49 rfl (lv_at hl 0 rfl) ?_
  obtain ⟨a10, ha10, ta10, hw⟩ := hw
  refine gx_getI C hW F9_92 (k := 450) ha10 ta10 rfl dX9_takes_50 ?_
  refine lv_iload_n hx hb dX9_takes_53 rfl (lv_at hl 1 rfl) ?_
  refine lv_iand hx hb dX9_takes_54 ?_
  refine lv_if_eq (tgt := 62) hx hb dX9_takes_55 (by decide) (fun c11 => ?_) (fun c11 => ?_)
  · have hw := w_t hw c11
    refine lv_iconst (v := 0) hx hb dX9_takes_62 (by decide) ?_
    exact gx_iret C hW (Nat.le_of_ble_eq_true rfl) (Nat.le_of_ble_eq_true rfl) rfl hw dX9_takes_63
  · have hw := w_f hw c11
    refine lv_iconst (v := 1) hx hb dX9_takes_58 (by decide) ?_
    refine lv_goto (tgt := 63) hx hb dX9_takes_59 (by decide) ?_
    exact gx_iret C hW (Nat.le_of_ble_eq_true rfl) (Nat.le_of_ble_eq_true rfl) rfl hw dX9_takes_63
set_option maxHeartbeats 4000000 in
set_option maxRecDepth 100000 in
theorem kX9_takes_b40 {p : Program} {l : Launch} {e : Env} {s : State} {m : MethodId} {args : Array Value} {below : List Frame} {meth : Method} {c : Code} {D : va_G} {cy : Nat → ClassId} {S0 : Sg} (C : gC p s m args meth c D cy cX9_takes 4 yX9_takes.cls (some .boolean) yX9_takes.name) {H : Heap} {locs : List Loc} {ls : Array Slot} {x0 : Option Nat} {x2 : Int32} {x3 : Int32} {S : Sg} {Q : Int32 → Sg → Prop} (hW : gW D cy (gA S0) (tg S0) s.heap S H locs) (hl : lv_has ls 4 [(0, va_rf x0), (2, .int x2), (3, .int x3)]) (hw : wX9_takes_b40 x0 x2 x3 S Q) : W p l e { frames := 0, cells := 0, slots := 0, locals := 0 } s m args below meth c H locs 0 0 (MQ below (va_Qi Q (gB D cy S0) (gA S0)) args s 0 0 (gA S0)) (F0 m 40 ls []) := by
  have hx := C.1
  have hb := C.2.1
  unfold wX9_takes_b40 at hw
  refine lv_iload_n hx hb dX9_takes_40 rfl (lv_at hl 1 rfl) ?_
  refine lv_iconst (v := 2) hx hb dX9_takes_41 (by decide) ?_
  refine lv_icmp_ne (tgt := 49) hx hb dX9_takes_42 (by decide) (fun c9 => ?_) (fun c9 => ?_)
  · have hw := w_f hw c9
    exact kX9_takes_b49 C hW (lv_sub hl [0, 2] rfl) hw
  · have hw := w_t hw c9
    refine lv_iload_n hx hb dX9_takes_45 rfl (lv_at hl 2 rfl) ?_
    refine lv_iconst (v := 2) hx hb dX9_takes_46 (by decide) ?_
    refine lv_ior hx hb dX9_takes_47 ?_
    refine lv_topi (fun y12 ey12 => ?_)
    have hw := hw y12 ey12
    refine lv_istore_n (i := 3) (lv' := [(3, .int y12), (0, va_rf x0), (2, .int x2)]) hx hb dX9_takes_48 rfl hl (by decide) rfl (fun ls hl => ?_)
    exact kX9_takes_b49 C hW (lv_sub hl [1, 0] rfl) hw
set_option maxHeartbeats 4000000 in
set_option maxRecDepth 100000 in
theorem kX9_takes_b36 {p : Program} {l : Launch} {e : Env} {s : State} {m : MethodId} {args : Array Value} {below : List Frame} {meth : Method} {c : Code} {D : va_G} {cy : Nat → ClassId} {S0 : Sg} (C : gC p s m args meth c D cy cX9_takes 4 yX9_takes.cls (some .boolean) yX9_takes.name) {H : Heap} {locs : List Loc} {ls : Array Slot} {x0 : Option Nat} {x2 : Int32} {x3 : Int32} {S : Sg} {Q : Int32 → Sg → Prop} (hW : gW D cy (gA S0) (tg S0) s.heap S H locs) (hl : lv_has ls 4 [(0, va_rf x0), (2, .int x2), (3, .int x3)]) (hw : wX9_takes_b36 x0 x2 x3 S Q) : W p l e { frames := 0, cells := 0, slots := 0, locals := 0 } s m args below meth c H locs 0 0 (MQ below (va_Qi Q (gB D cy S0) (gA S0)) args s 0 0 (gA S0)) (F0 m 36 ls []) := by
  have hx := C.1
  have hb := C.2.1
  unfold wX9_takes_b36 at hw
  refine lv_iload_n hx hb dX9_takes_36 rfl (lv_at hl 2 rfl) ?_
  refine lv_iconst (v := 1) hx hb dX9_takes_37 (by decide) ?_
  refine lv_ior hx hb dX9_takes_38 ?_
  refine lv_topi (fun y8 ey8 => ?_)
  have hw := hw y8 ey8
  refine lv_istore_n (i := 3) (lv' := [(3, .int y8), (0, va_rf x0), (2, .int x2)]) hx hb dX9_takes_39 rfl hl (by decide) rfl (fun ls hl => ?_)
  exact kX9_takes_b40 C hW (lv_sub hl [1, 2, 0] rfl) hw
set_option maxHeartbeats 4000000 in
set_option maxRecDepth 100000 in
theorem mX9_takes (l : Launch) (D : va_G) (cy : Nat → ClassId) (x0 : Option Nat) (x1 : Option Nat) (S0 : Sg) (Q : Int32 → Sg → Prop) (hw : wX9_takes x0 x1 S0 Q) : Met l yX9_takes (.code yX9_takes cX9_takes 4 (some .boolean) :: wsL_law) { frames := 0, cells := 0, slots := 0, locals := 0 } (gPc D cy [va_rf x0, va_rf x1] S0) (va_Qi Q (gB D cy S0) (gA S0)) 0 0 (gA S0) := by
  refine gx_met (by decide) (by simp [lg_sl, va_rf_cat, cat_i, cat_l]) ?_
  intro p e s m args below meth c ls C hW hl
  have hx := C.1
  have hb := C.2.1
  have hl : lv_has ls 4 [(0, va_rf x0), (1, va_rf x1)] := by simpa [lv_args, va_rf_cat, cat_i, cat_l] using hl
  unfold wX9_takes at hw
  refine gx_aload_n hx hb dX9_takes_0 rfl (lv_at hl 0 rfl) ?_
  obtain ⟨a1, ha1, ta1, hw⟩ := hw
  refine gx_getI C hW F9_231 (k := 454) ha1 ta1 rfl dX9_takes_1 ?_
  refine lv_if_lt (tgt := 11) hx hb dX9_takes_4 (by decide) (fun c2 => ?_) (fun c2 => ?_)
  · have hw := w_t hw c2
    refine lv_iconst (v := 0) hx hb dX9_takes_11 (by decide) ?_
    exact gx_iret C hW (Nat.le_of_ble_eq_true rfl) (Nat.le_of_ble_eq_true rfl) rfl hw dX9_takes_12
  · have hw := w_f hw c2
    refine gx_aload_n hx hb dX9_takes_7 rfl (lv_at hl 1 rfl) ?_
    refine gx_ifnonnull (tgt := 13) hx hb dX9_takes_8 (by decide) (fun c3 => ?_) (fun c3 => ?_)
    · have hw := w_f hw c3
      refine gx_aload_n hx hb dX9_takes_13 rfl (lv_at hl 1 rfl) ?_
      obtain ⟨a4, ha4, ta4, hw⟩ := hw
      refine gx_getI C hW F9_234 (k := 0) ha4 ta4 rfl dX9_takes_14 ?_
      refine lv_topi (fun y5 ey5 => ?_)
      have hw := hw y5 ey5
      refine lv_istore_n (i := 2) (lv' := [(2, .int y5), (0, va_rf x0), (1, va_rf x1)]) hx hb dX9_takes_17 rfl hl (by decide) (by simp [List.filter, va_rf_cat, cat_i, cat_l]) (fun ls hl => ?_)
      refine lv_sipush (v := 1024) hx hb dX9_takes_18 (by decide) ?_
      refine lv_iconst (v := 1) hx hb dX9_takes_21 (by decide) ?_
      refine lv_iload_n hx hb dX9_takes_22 rfl (lv_at hl 0 rfl) ?_
      refine lv_ishl hx hb dX9_takes_23 ?_
      refine lv_ior hx hb dX9_takes_24 ?_
      refine lv_topi (fun y6 ey6 => ?_)
      have hw := hw y6 ey6
      refine lv_istore_n (i := 3) (lv' := [(3, .int y6), (2, .int y5), (0, va_rf x0), (1, va_rf x1)]) hx hb dX9_takes_25 rfl hl (by decide) rfl (fun ls hl => ?_)
      refine lv_iload_n hx hb dX9_takes_26 rfl (lv_at hl 1 rfl) ?_
      refine lv_iconst (v := 1) hx hb dX9_takes_27 (by decide) ?_
      refine lv_icmp_eq (tgt := 36) hx hb dX9_takes_28 (by decide) (fun c7 => ?_) (fun c7 => ?_)
      · have hw := w_t hw c7
        exact kX9_takes_b36 C hW (lv_sub hl [2, 1, 0] rfl) hw
      · have hw := w_f hw c7
        refine lv_iload_n hx hb dX9_takes_31 rfl (lv_at hl 1 rfl) ?_
        refine lv_iconst (v := 2) hx hb dX9_takes_32 (by decide) ?_
        refine lv_icmp_ne (tgt := 40) hx hb dX9_takes_33 (by decide) (fun c13 => ?_) (fun c13 => ?_)
        · have hw := w_f hw c13
          exact kX9_takes_b40 C hW (lv_sub hl [2, 1, 0] rfl) hw
        · have hw := w_t hw c13
          exact kX9_takes_b36 C hW (lv_sub hl [2, 1, 0] rfl) hw
    · have hw := w_t hw c3
      refine lv_iconst (v := 0) hx hb dX9_takes_11 (by decide) ?_
      exact gx_iret C hW (Nat.le_of_ble_eq_true rfl) (Nat.le_of_ble_eq_true rfl) rfl hw dX9_takes_12
/-! TrialStair$Worker.beginPart -/
def wX9_beginPart (x0 : Nat) (x1 : Option Nat) (x2 : Int32) (x3 : Int32) (x4 : Int32) (S0 : Sg) (Q : Sg → Prop) : Prop := ∃ a1 : Nat, x1 = some a1 ∧ tg S0 a1 = 2 ∧ ∀ S2 : Sg, S2 = sFI S0 68 a1 x2 → ∀ S3 : Sg, S3 = sFI S2 67 a1 x4 → ∀ S4 : Sg, S4 = sFI S3 582 x0 x3 → ∀ S5 : Sg, S5 = sFI S4 584 x0 (0 : Int32) → Q S5
set_option maxHeartbeats 4000000 in
set_option maxRecDepth 100000 in
theorem mX9_beginPart (l : Launch) (D : va_G) (cy : Nat → ClassId) (x0 : Nat) (x1 : Option Nat) (x2 : Int32) (x3 : Int32) (x4 : Int32) (S0 : Sg) (Q : Sg → Prop) (t0 : tg S0 x0 = 10) (hw : wX9_beginPart x0 x1 x2 x3 x4 S0 Q) : Met l yX9_beginPart (.code yX9_beginPart cX9_beginPart 5 none :: wsL_law) { frames := 0, cells := 0, slots := 0, locals := 0 } (gPc D cy [va_rf (some x0), va_rf x1, .int x2, .int x3, .int x4] S0) (va_Qv Q (gB D cy S0) (gA S0)) 0 0 (gA S0) := by
  refine gx_met (by decide) (by simp [lg_sl, va_rf_cat, cat_i, cat_l]) ?_
  intro p e s m args below meth c ls C hW hl
  have hx := C.1
  have hb := C.2.1
  have hl : lv_has ls 5 [(0, va_rf (some x0)), (1, va_rf x1), (2, .int x2), (3, .int x3), (4, .int x4)] := by simpa [lv_args, va_rf_cat, cat_i, cat_l] using hl
  unfold wX9_beginPart at hw
  refine gx_aload_n hx hb dX9_beginPart_0 rfl (lv_at hl 1 rfl) ?_
  refine lv_iload_n hx hb dX9_beginPart_1 rfl (lv_at hl 2 rfl) ?_
  obtain ⟨a1, ha1, ta1, hw⟩ := hw
  refine gx_putI (k := 68) C hW F9_138 (Or.inl rfl) ha1 ta1 rfl rfl rfl dX9_beginPart_2 (fun H locs S2 eS2 hW hm => ?_)
  have hw := hw S2 eS2
  have t0 := hm _ _ t0
  have ta1 := hm _ _ ta1
  refine gx_aload_n hx hb dX9_beginPart_5 rfl (lv_at hl 1 rfl) ?_
  refine lv_iload hx hb dX9_beginPart_6 (lv_at hl 4 rfl) ?_
  refine gx_putI (k := 67) C hW F9_56 (Or.inl rfl) ha1 ta1 rfl rfl rfl dX9_beginPart_8 (fun H locs S3 eS3 hW hm => ?_)
  have hw := hw S3 eS3
  have t0 := hm _ _ t0
  have ta1 := hm _ _ ta1
  refine gx_aload_n hx hb dX9_beginPart_11 rfl (lv_at hl 0 rfl) ?_
  refine lv_iload_n hx hb dX9_beginPart_12 rfl (lv_at hl 3 rfl) ?_
  refine gx_putI (k := 582) C hW F9_53 (Or.inl rfl) rfl t0 rfl rfl rfl dX9_beginPart_13 (fun H locs S4 eS4 hW hm => ?_)
  have hw := hw S4 eS4
  have t0 := hm _ _ t0
  have ta1 := hm _ _ ta1
  refine gx_aload_n hx hb dX9_beginPart_16 rfl (lv_at hl 0 rfl) ?_
  refine lv_iconst (v := 0) hx hb dX9_beginPart_17 (by decide) ?_
  refine gx_putI (k := 584) C hW F9_67 (Or.inl rfl) rfl t0 rfl rfl rfl dX9_beginPart_18 (fun H locs S5 eS5 hW hm => ?_)
  have hw := hw S5 eS5
  have t0 := hm _ _ t0
  have ta1 := hm _ _ ta1
  exact gx_vret C hW (Nat.le_of_ble_eq_true rfl) (Nat.le_of_ble_eq_true rfl) hw dX9_beginPart_21
/-! TrialStair$Worker.beginTaker -/
def wX9_beginTaker (x0 : Nat) (x1 : Option Nat) (S0 : Sg) (Q : Sg → Prop) : Prop := ∃ a1 : Nat, (fR S0 578 x0) = some a1 ∧ tg S0 a1 = 5 ∧ ∀ S2 : Sg, S2 = sFI S0 264 a1 ((fI S0 264 a1) + (1 : Int32)) → ∃ a3 : Nat, x1 = some a3 ∧ tg S2 a3 = 2 ∧ ∀ S4 : Sg, S4 = sFR S2 69 a3 (fR S2 586 x0) → ∃ a5 : Nat, (fR S4 64 a3) = some a5 ∧ tg S4 a5 = 8 ∧ wX1_takerEnd a3  S4 (fun (r6 : Int32) (S7 : Sg) => wX9_beginPart x0 x1 (1 : Int32) ((fI S4 454 a5) + (1 : Int32)) r6 S7 (fun (S9 : Sg) => Q S9))
set_option maxHeartbeats 4000000 in
set_option maxRecDepth 100000 in
theorem mX9_beginTaker (l : Launch) (D : va_G) (cy : Nat → ClassId) (x0 : Nat) (x1 : Option Nat) (S0 : Sg) (Q : Sg → Prop) (t0 : tg S0 x0 = 10) (hw : wX9_beginTaker x0 x1 S0 Q) : Met l yX9_beginTaker (.code yX9_beginTaker cX9_beginTaker 2 none :: wsL_law) { frames := 2, cells := 0, slots := 0, locals := 40 } (gPc D cy [va_rf (some x0), va_rf x1] S0) (va_Qv Q (gB D cy S0) (gA S0)) 0 0 (gA S0) := by
  refine gx_met (by decide) (by simp [lg_sl, va_rf_cat, cat_i, cat_l]) ?_
  intro p e s m args below meth c ls C hW hl
  have hx := C.1
  have hb := C.2.1
  have hl : lv_has ls 2 [(0, va_rf (some x0)), (1, va_rf x1)] := by simpa [lv_args, va_rf_cat, cat_i, cat_l] using hl
  unfold wX9_beginTaker at hw
  refine gx_aload_n hx hb dX9_beginTaker_0 rfl (lv_at hl 0 rfl) ?_
  refine gx_getR C hW F9_28 (k := 578) rfl t0 rfl dX9_beginTaker_1 ?_
  refine lv_dup hx hb dX9_beginTaker_4 (va_rf_cat _) ?_
  obtain ⟨a1, ha1, ta1, hw⟩ := hw
  refine gx_getI C hW F9_237 (k := 264) ha1 ta1 rfl dX9_beginTaker_5 ?_
  refine lv_iconst (v := 1) hx hb dX9_beginTaker_8 (by decide) ?_
  refine lv_iadd hx hb dX9_beginTaker_9 ?_
  refine gx_putI (k := 264) C hW F9_237 (Or.inl rfl) ha1 ta1 rfl rfl rfl dX9_beginTaker_10 (fun H locs S2 eS2 hW hm => ?_)
  have hw := hw S2 eS2
  have t0 := hm _ _ t0
  have ta1 := hm _ _ ta1
  refine gx_aload_n hx hb dX9_beginTaker_13 rfl (lv_at hl 1 rfl) ?_
  refine gx_aload_n hx hb dX9_beginTaker_14 rfl (lv_at hl 0 rfl) ?_
  refine gx_getR C hW F9_134 (k := 586) rfl t0 rfl dX9_beginTaker_15 ?_
  obtain ⟨a3, ha3, ta3, hw⟩ := hw
  refine gx_putR (k := 69) C hW F9_141 (Or.inl rfl) rfl ha3 ta3 rfl dX9_beginTaker_18 (fun H locs S4 eS4 hW hm => ?_)
  have hw := hw S4 eS4
  have t0 := hm _ _ t0
  have ta1 := hm _ _ ta1
  have ta3 := hm _ _ ta3
  refine gx_aload_n hx hb dX9_beginTaker_21 rfl (lv_at hl 0 rfl) ?_
  refine gx_aload_n hx hb dX9_beginTaker_22 rfl (lv_at hl 1 rfl) ?_
  refine lv_iconst (v := 1) hx hb dX9_beginTaker_23 (by decide) ?_
  refine gx_aload_n hx hb dX9_beginTaker_24 rfl (lv_at hl 1 rfl) ?_
  refine gx_getR C hW F9_188 (k := 64) ha3 ta3 rfl dX9_beginTaker_25 ?_
  obtain ⟨a5, ha5, ta5, hw⟩ := hw
  refine gx_getI C hW F9_231 (k := 454) ha5 ta5 rfl dX9_beginTaker_28 ?_
  refine lv_iconst (v := 1) hx hb dX9_beginTaker_31 (by decide) ?_
  refine lv_iadd hx hb dX9_beginTaker_32 ?_
  refine gx_aload_n hx hb dX9_beginTaker_33 rfl (lv_at hl 1 rfl) ?_
  refine gx_ci (gx_rV C hW M9_239 (mX1_takerEnd l D cy _ _ _ ta3 hw) rfl rfl ⟨Nat.le_of_ble_eq_true rfl, Nat.le_of_ble_eq_true rfl⟩ ha3 ta3 (by decide) rfl rfl hl.1 rfl (gx_room0 (n := 4) (Nat.le_of_ble_eq_true rfl)) dX9_beginTaker_34 ⟨Nat.le_of_ble_eq_true rfl, Nat.le_of_ble_eq_true rfl⟩) hW (fun r6 S7 H locs hW hm hw => ?_)
  have t0 := hm _ _ t0
  have ta1 := hm _ _ ta1
  have ta3 := hm _ _ ta3
  have ta5 := hm _ _ ta5
  refine gx_cv (gx_rV C hW M9_242 (mX9_beginPart l D cy _ _ _ _ _ _ _ t0 hw) rfl rfl ⟨Nat.le_of_ble_eq_true rfl, Nat.le_of_ble_eq_true rfl⟩ rfl t0 (by decide) rfl rfl hl.1 rfl (gx_room0 (n := 4) (Nat.le_of_ble_eq_true rfl)) dX9_beginTaker_37 ⟨Nat.le_of_ble_eq_true rfl, Nat.le_of_ble_eq_true rfl⟩) hW (fun S9 H locs hW hm hw => ?_)
  have t0 := hm _ _ t0
  have ta1 := hm _ _ ta1
  have ta3 := hm _ _ ta3
  have ta5 := hm _ _ ta5
  exact gx_vret C hW (Nat.le_of_ble_eq_true rfl) (Nat.le_of_ble_eq_true rfl) hw dX9_beginTaker_40
/-! TrialStair$Worker.beginFinish -/
def wX9_beginFinish (x0 : Nat) (x1 : Option Nat) (S0 : Sg) (Q : Sg → Prop) : Prop := ∃ a1 : Nat, x1 = some a1 ∧ tg S0 a1 = 2 ∧ ∃ a2 : Nat, (fR S0 64 a1) = some a2 ∧ tg S0 a2 = 8 ∧ ∃ a3 : Nat, (fR S0 578 x0) = some a3 ∧ tg S0 a3 = 5 ∧ wX4_noteFinish a3 (fI S0 448 a2) S0 (fun (S5 : Sg) => ∀ S6 : Sg, S6 = sFI S5 70 a1 (fI S5 584 x0) → ∀ S7 : Sg, S7 = sFL S6 71 a1 (fL S6 585 x0) → ∀ S8 : Sg, S8 = sFR S7 72 a1 (fR S7 586 x0) → ∃ a9 : Nat, (fR S8 64 a1) = some a9 ∧ tg S8 a9 = 8 ∧ wX1_blockEnd a1  S8 (fun (r10 : Int32) (S11 : Sg) => wX9_beginPart x0 x1 (2 : Int32) ((fI S8 455 a9) + (1 : Int32)) r10 S11 (fun (S13 : Sg) => Q S13)))
set_option maxHeartbeats 4000000 in
set_option maxRecDepth 100000 in
theorem mX9_beginFinish (l : Launch) (D : va_G) (cy : Nat → ClassId) (x0 : Nat) (x1 : Option Nat) (S0 : Sg) (Q : Sg → Prop) (t0 : tg S0 x0 = 10) (hw : wX9_beginFinish x0 x1 S0 Q) : Met l yX9_beginFinish (.code yX9_beginFinish cX9_beginFinish 2 none :: wsL_law) { frames := 1, cells := 0, slots := 0, locals := 24 } (gPc D cy [va_rf (some x0), va_rf x1] S0) (va_Qv Q (gB D cy S0) (gA S0)) 0 0 (gA S0) := by
  refine gx_met (by decide) (by simp [lg_sl, va_rf_cat, cat_i, cat_l]) ?_
  intro p e s m args below meth c ls C hW hl
  have hx := C.1
  have hb := C.2.1
  have hl : lv_has ls 2 [(0, va_rf (some x0)), (1, va_rf x1)] := by simpa [lv_args, va_rf_cat, cat_i, cat_l] using hl
  unfold wX9_beginFinish at hw
  refine gx_aload_n hx hb dX9_beginFinish_0 rfl (lv_at hl 0 rfl) ?_
  refine gx_getR C hW F9_28 (k := 578) rfl t0 rfl dX9_beginFinish_1 ?_
  refine gx_aload_n hx hb dX9_beginFinish_4 rfl (lv_at hl 1 rfl) ?_
  obtain ⟨a1, ha1, ta1, hw⟩ := hw
  refine gx_getR C hW F9_188 (k := 64) ha1 ta1 rfl dX9_beginFinish_5 ?_
  obtain ⟨a2, ha2, ta2, hw⟩ := hw
  refine gx_getI C hW F9_172 (k := 448) ha2 ta2 rfl dX9_beginFinish_8 ?_
  obtain ⟨a3, ha3, ta3, hw⟩ := hw
  refine gx_cv (gx_rV C hW M9_246 (mX4_noteFinish l D cy _ _ _ _ ta3 hw) rfl rfl ⟨Nat.le_of_ble_eq_true rfl, Nat.le_of_ble_eq_true rfl⟩ ha3 ta3 (by decide) rfl rfl hl.1 rfl (gx_room0 (n := 4) (Nat.le_of_ble_eq_true rfl)) dX9_beginFinish_11 ⟨Nat.le_of_ble_eq_true rfl, Nat.le_of_ble_eq_true rfl⟩) hW (fun S5 H locs hW hm hw => ?_)
  have t0 := hm _ _ t0
  have ta1 := hm _ _ ta1
  have ta2 := hm _ _ ta2
  have ta3 := hm _ _ ta3
  refine gx_aload_n hx hb dX9_beginFinish_14 rfl (lv_at hl 1 rfl) ?_
  refine gx_aload_n hx hb dX9_beginFinish_15 rfl (lv_at hl 0 rfl) ?_
  refine gx_getI C hW F9_67 (k := 584) rfl t0 rfl dX9_beginFinish_16 ?_
  refine gx_putI (k := 70) C hW F9_209 (Or.inl rfl) ha1 ta1 rfl rfl rfl dX9_beginFinish_19 (fun H locs S6 eS6 hW hm => ?_)
  have hw := hw S6 eS6
  have t0 := hm _ _ t0
  have ta1 := hm _ _ ta1
  have ta2 := hm _ _ ta2
  have ta3 := hm _ _ ta3
  refine gx_aload_n hx hb dX9_beginFinish_22 rfl (lv_at hl 1 rfl) ?_
  refine gx_aload_n hx hb dX9_beginFinish_23 rfl (lv_at hl 0 rfl) ?_
  refine gx_getL C hW F9_116 (k := 585) rfl t0 rfl dX9_beginFinish_24 ?_
  refine gx_putL (k := 71) C hW F9_212 (Or.inl rfl) ha1 ta1 rfl dX9_beginFinish_27 (fun H locs S7 eS7 hW hm => ?_)
  have hw := hw S7 eS7
  have t0 := hm _ _ t0
  have ta1 := hm _ _ ta1
  have ta2 := hm _ _ ta2
  have ta3 := hm _ _ ta3
  refine gx_aload_n hx hb dX9_beginFinish_30 rfl (lv_at hl 1 rfl) ?_
  refine gx_aload_n hx hb dX9_beginFinish_31 rfl (lv_at hl 0 rfl) ?_
  refine gx_getR C hW F9_134 (k := 586) rfl t0 rfl dX9_beginFinish_32 ?_
  refine gx_putR (k := 72) C hW F9_215 (Or.inl rfl) rfl ha1 ta1 rfl dX9_beginFinish_35 (fun H locs S8 eS8 hW hm => ?_)
  have hw := hw S8 eS8
  have t0 := hm _ _ t0
  have ta1 := hm _ _ ta1
  have ta2 := hm _ _ ta2
  have ta3 := hm _ _ ta3
  refine gx_aload_n hx hb dX9_beginFinish_38 rfl (lv_at hl 0 rfl) ?_
  refine gx_aload_n hx hb dX9_beginFinish_39 rfl (lv_at hl 1 rfl) ?_
  refine lv_iconst (v := 2) hx hb dX9_beginFinish_40 (by decide) ?_
  refine gx_aload_n hx hb dX9_beginFinish_41 rfl (lv_at hl 1 rfl) ?_
  refine gx_getR C hW F9_188 (k := 64) ha1 ta1 rfl dX9_beginFinish_42 ?_
  obtain ⟨a9, ha9, ta9, hw⟩ := hw
  refine gx_getI C hW F9_225 (k := 455) ha9 ta9 rfl dX9_beginFinish_45 ?_
  refine lv_iconst (v := 1) hx hb dX9_beginFinish_48 (by decide) ?_
  refine lv_iadd hx hb dX9_beginFinish_49 ?_
  refine gx_aload_n hx hb dX9_beginFinish_50 rfl (lv_at hl 1 rfl) ?_
  refine gx_ci (gx_rV C hW M9_249 (mX1_blockEnd l D cy _ _ _ ta1 hw) rfl rfl ⟨Nat.le_of_ble_eq_true rfl, Nat.le_of_ble_eq_true rfl⟩ ha1 ta1 (by decide) rfl rfl hl.1 rfl (gx_room0 (n := 4) (Nat.le_of_ble_eq_true rfl)) dX9_beginFinish_51 ⟨Nat.le_of_ble_eq_true rfl, Nat.le_of_ble_eq_true rfl⟩) hW (fun r10 S11 H locs hW hm hw => ?_)
  have t0 := hm _ _ t0
  have ta1 := hm _ _ ta1
  have ta2 := hm _ _ ta2
  have ta3 := hm _ _ ta3
  have ta9 := hm _ _ ta9
  refine gx_cv (gx_rV C hW M9_242 (mX9_beginPart l D cy _ _ _ _ _ _ _ t0 hw) rfl rfl ⟨Nat.le_of_ble_eq_true rfl, Nat.le_of_ble_eq_true rfl⟩ rfl t0 (by decide) rfl rfl hl.1 rfl (gx_room0 (n := 4) (Nat.le_of_ble_eq_true rfl)) dX9_beginFinish_54 ⟨Nat.le_of_ble_eq_true rfl, Nat.le_of_ble_eq_true rfl⟩) hW (fun S13 H locs hW hm hw => ?_)
  have t0 := hm _ _ t0
  have ta1 := hm _ _ ta1
  have ta2 := hm _ _ ta2
  have ta3 := hm _ _ ta3
  have ta9 := hm _ _ ta9
  exact gx_vret C hW (Nat.le_of_ble_eq_true rfl) (Nat.le_of_ble_eq_true rfl) hw dX9_beginFinish_57
/-! TrialStair$Worker.settleTrial -/
def wX9_settleTrial_b85 (x0 : Nat) (x1 : Option Nat) (S : Sg) (Q : Sg → Prop) : Prop := ∃ a4 : Nat, x1 = some a4 ∧ tg S a4 = 2 ∧ ∃ a5 : Nat, (fR S 64 a4) = some a5 ∧ tg S a5 = 8 ∧ (if (fI S 455 a5) < 0 then wX9_leaveBlock x0 x1 S (fun (S8 : Sg) => Q S8) else wX9_beginFinish x0 x1 S (fun (S10 : Sg) => Q S10))
def wX9_settleTrial (x0 : Nat) (x1 : Option Nat) (S0 : Sg) (Q : Sg → Prop) : Prop := ∃ a1 : Nat, x1 = some a1 ∧ tg S0 a1 = 2 ∧ (if (fI S0 68 a1) = (2 : Int32) then (if (fI S0 584 x0) = (2 : Int32) then wX9_leaveBlock x0 x1 S0 (fun (S19 : Sg) => Q S19) else ∀ S20 : Sg, S20 = sFI S0 584 x0 (fI S0 70 a1) → ∀ S21 : Sg, S21 = sFL S20 585 x0 (fL S20 71 a1) → ∀ S22 : Sg, S22 = sFR S21 586 x0 (fR S21 72 a1) → wX9_leaveBlock x0 x1 S22 (fun (S24 : Sg) => Q S24)) else (if (fI S0 68 a1) = 0 then (if (fI S0 584 x0) = (2 : Int32) then wX9_takes (fR S0 64 a1) (fR S0 586 x0) S0 (fun (r12 : Int32) (S13 : Sg) => (if r12 = 0 then wX9_settleTrial_b85 x0 x1 S13 Q else wX9_beginTaker x0 x1 S13 (fun (S16 : Sg) => Q S16))) else wX9_settleTrial_b85 x0 x1 S0 Q) else wX9_settleTrial_b85 x0 x1 S0 Q))
set_option maxHeartbeats 4000000 in
set_option maxRecDepth 100000 in
theorem kX9_settleTrial_b85 {p : Program} {l : Launch} {e : Env} {s : State} {m : MethodId} {args : Array Value} {below : List Frame} {meth : Method} {c : Code} {D : va_G} {cy : Nat → ClassId} {S0 : Sg} (C : gC p s m args meth c D cy cX9_settleTrial 2 yX9_settleTrial.cls none yX9_settleTrial.name) {H : Heap} {locs : List Loc} {ls : Array Slot} {x0 : Nat} {x1 : Option Nat} {S : Sg} {Q : Sg → Prop} (hW : gW D cy (gA S0) (tg S0) s.heap S H locs) (t0 : tg S x0 = 10) (hl : lv_has ls 2 [(0, va_rf (some x0)), (1, va_rf x1)]) (hw : wX9_settleTrial_b85 x0 x1 S Q) : W p l e { frames := 3, cells := 0, slots := 0, locals := 61 } s m args below meth c H locs 0 0 (MQ below (va_Qv Q (gB D cy S0) (gA S0)) args s 0 0 (gA S0)) (F0 m 85 ls []) := by
  have hx := C.1
  have hb := C.2.1
  unfold wX9_settleTrial_b85 at hw
  refine gx_aload_n hx hb dX9_settleTrial_85 rfl (lv_at hl 1 rfl) ?_
  obtain ⟨a4, ha4, ta4, hw⟩ := hw
  refine gx_getR C hW F9_188 (k := 64) ha4 ta4 rfl dX9_settleTrial_86 ?_
  obtain ⟨a5, ha5, ta5, hw⟩ := hw
  refine gx_getI C hW F9_225 (k := 455) ha5 ta5 rfl dX9_settleTrial_89 ?_
  refine lv_if_lt (tgt := 103) hx hb dX9_settleTrial_92 (by decide) (fun c6 => ?_) (fun c6 => ?_)
  · have hw := w_t hw c6
    refine gx_aload_n hx hb dX9_settleTrial_103 rfl (lv_at hl 0 rfl) ?_
    refine gx_aload_n hx hb dX9_settleTrial_104 rfl (lv_at hl 1 rfl) ?_
    refine gx_cv (gx_rV C hW M9_195 (mX9_leaveBlock l D cy _ _ _ _ t0 hw) rfl rfl ⟨Nat.le_of_ble_eq_true rfl, Nat.le_of_ble_eq_true rfl⟩ rfl t0 (by decide) rfl rfl hl.1 rfl (gx_room0 (n := 4) (Nat.le_of_ble_eq_true rfl)) dX9_settleTrial_105 ⟨Nat.le_of_ble_eq_true rfl, Nat.le_of_ble_eq_true rfl⟩) hW (fun S8 H locs hW hm hw => ?_)
    have t0 := hm _ _ t0
    have ta4 := hm _ _ ta4
    have ta5 := hm _ _ ta5
    exact gx_vret C hW (Nat.le_of_ble_eq_true rfl) (Nat.le_of_ble_eq_true rfl) hw dX9_settleTrial_108
  · have hw := w_f hw c6
    refine gx_aload_n hx hb dX9_settleTrial_95 rfl (lv_at hl 0 rfl) ?_
    refine gx_aload_n hx hb dX9_settleTrial_96 rfl (lv_at hl 1 rfl) ?_
    refine gx_cv (gx_rV C hW M9_228 (mX9_beginFinish l D cy _ _ _ _ t0 hw) rfl rfl ⟨Nat.le_of_ble_eq_true rfl, Nat.le_of_ble_eq_true rfl⟩ rfl t0 (by decide) rfl rfl hl.1 rfl (gx_room0 (n := 4) (Nat.le_of_ble_eq_true rfl)) dX9_settleTrial_97 ⟨Nat.le_of_ble_eq_true rfl, Nat.le_of_ble_eq_true rfl⟩) hW (fun S10 H locs hW hm hw => ?_)
    have t0 := hm _ _ t0
    have ta4 := hm _ _ ta4
    have ta5 := hm _ _ ta5
    refine lv_goto (tgt := 108) hx hb dX9_settleTrial_100 (by decide) ?_
    exact gx_vret C hW (Nat.le_of_ble_eq_true rfl) (Nat.le_of_ble_eq_true rfl) hw dX9_settleTrial_108
set_option maxHeartbeats 4000000 in
set_option maxRecDepth 100000 in
theorem mX9_settleTrial (l : Launch) (D : va_G) (cy : Nat → ClassId) (x0 : Nat) (x1 : Option Nat) (S0 : Sg) (Q : Sg → Prop) (t0 : tg S0 x0 = 10) (hw : wX9_settleTrial x0 x1 S0 Q) : Met l yX9_settleTrial (.code yX9_settleTrial cX9_settleTrial 2 none :: wsL_law) { frames := 3, cells := 0, slots := 0, locals := 61 } (gPc D cy [va_rf (some x0), va_rf x1] S0) (va_Qv Q (gB D cy S0) (gA S0)) 0 0 (gA S0) := by
  refine gx_met (by decide) (by simp [lg_sl, va_rf_cat, cat_i, cat_l]) ?_
  intro p e s m args below meth c ls C hW hl
  have hx := C.1
  have hb := C.2.1
  have hl : lv_has ls 2 [(0, va_rf (some x0)), (1, va_rf x1)] := by simpa [lv_args, va_rf_cat, cat_i, cat_l] using hl
  unfold wX9_settleTrial at hw
  refine gx_aload_n hx hb dX9_settleTrial_0 rfl (lv_at hl 1 rfl) ?_
  obtain ⟨a1, ha1, ta1, hw⟩ := hw
  refine gx_getI C hW F9_138 (k := 68) ha1 ta1 rfl dX9_settleTrial_1 ?_
  refine lv_iconst (v := 2) hx hb dX9_settleTrial_4 (by decide) ?_
  refine lv_icmp_ne (tgt := 48) hx hb dX9_settleTrial_5 (by decide) (fun c2 => ?_) (fun c2 => ?_)
  · have hw := w_f hw c2
    refine gx_aload_n hx hb dX9_settleTrial_48 rfl (lv_at hl 1 rfl) ?_
    refine gx_getI C hW F9_138 (k := 68) ha1 ta1 rfl dX9_settleTrial_49 ?_
    refine lv_if_ne (tgt := 85) hx hb dX9_settleTrial_52 (by decide) (fun c3 => ?_) (fun c3 => ?_)
    · have hw := w_f hw c3
      exact kX9_settleTrial_b85 C hW t0 (lv_sub hl [0, 1] rfl) hw
    · have hw := w_t hw c3
      refine gx_aload_n hx hb dX9_settleTrial_55 rfl (lv_at hl 0 rfl) ?_
      refine gx_getI C hW F9_67 (k := 584) rfl t0 rfl dX9_settleTrial_56 ?_
      refine lv_iconst (v := 2) hx hb dX9_settleTrial_59 (by decide) ?_
      refine lv_icmp_ne (tgt := 85) hx hb dX9_settleTrial_60 (by decide) (fun c11 => ?_) (fun c11 => ?_)
      · have hw := w_f hw c11
        exact kX9_settleTrial_b85 C hW t0 (lv_sub hl [0, 1] rfl) hw
      · have hw := w_t hw c11
        refine gx_aload_n hx hb dX9_settleTrial_63 rfl (lv_at hl 1 rfl) ?_
        refine gx_getR C hW F9_188 (k := 64) ha1 ta1 rfl dX9_settleTrial_64 ?_
        refine gx_aload_n hx hb dX9_settleTrial_67 rfl (lv_at hl 0 rfl) ?_
        refine gx_getR C hW F9_134 (k := 586) rfl t0 rfl dX9_settleTrial_68 ?_
        refine gx_ci (gx_rS C hW M9_218 (mX9_takes l D cy _ _ _ _  hw) rfl rfl ⟨Nat.le_of_ble_eq_true rfl, Nat.le_of_ble_eq_true rfl⟩ rfl hl.1 rfl (gx_room0 (n := 4) (Nat.le_of_ble_eq_true rfl)) dX9_settleTrial_71 ⟨Nat.le_of_ble_eq_true rfl, Nat.le_of_ble_eq_true rfl⟩) hW (fun r12 S13 H locs hW hm hw => ?_)
        have t0 := hm _ _ t0
        have ta1 := hm _ _ ta1
        refine lv_if_eq (tgt := 85) hx hb dX9_settleTrial_74 (by decide) (fun c14 => ?_) (fun c14 => ?_)
        · have hw := w_t hw c14
          exact kX9_settleTrial_b85 C hW t0 (lv_sub hl [0, 1] rfl) hw
        · have hw := w_f hw c14
          refine gx_aload_n hx hb dX9_settleTrial_77 rfl (lv_at hl 0 rfl) ?_
          refine gx_aload_n hx hb dX9_settleTrial_78 rfl (lv_at hl 1 rfl) ?_
          refine gx_cv (gx_rV C hW M9_222 (mX9_beginTaker l D cy _ _ _ _ t0 hw) rfl rfl ⟨Nat.le_of_ble_eq_true rfl, Nat.le_of_ble_eq_true rfl⟩ rfl t0 (by decide) rfl rfl hl.1 rfl (gx_room0 (n := 4) (Nat.le_of_ble_eq_true rfl)) dX9_settleTrial_79 ⟨Nat.le_of_ble_eq_true rfl, Nat.le_of_ble_eq_true rfl⟩) hW (fun S16 H locs hW hm hw => ?_)
          have t0 := hm _ _ t0
          have ta1 := hm _ _ ta1
          refine lv_goto (tgt := 108) hx hb dX9_settleTrial_82 (by decide) ?_
          exact gx_vret C hW (Nat.le_of_ble_eq_true rfl) (Nat.le_of_ble_eq_true rfl) hw dX9_settleTrial_108
  · have hw := w_t hw c2
    refine gx_aload_n hx hb dX9_settleTrial_8 rfl (lv_at hl 0 rfl) ?_
    refine gx_getI C hW F9_67 (k := 584) rfl t0 rfl dX9_settleTrial_9 ?_
    refine lv_iconst (v := 2) hx hb dX9_settleTrial_12 (by decide) ?_
    refine lv_icmp_eq (tgt := 40) hx hb dX9_settleTrial_13 (by decide) (fun c17 => ?_) (fun c17 => ?_)
    · have hw := w_t hw c17
      refine gx_aload_n hx hb dX9_settleTrial_40 rfl (lv_at hl 0 rfl) ?_
      refine gx_aload_n hx hb dX9_settleTrial_41 rfl (lv_at hl 1 rfl) ?_
      refine gx_cv (gx_rV C hW M9_195 (mX9_leaveBlock l D cy _ _ _ _ t0 hw) rfl rfl ⟨Nat.le_of_ble_eq_true rfl, Nat.le_of_ble_eq_true rfl⟩ rfl t0 (by decide) rfl rfl hl.1 rfl (gx_room0 (n := 4) (Nat.le_of_ble_eq_true rfl)) dX9_settleTrial_42 ⟨Nat.le_of_ble_eq_true rfl, Nat.le_of_ble_eq_true rfl⟩) hW (fun S19 H locs hW hm hw => ?_)
      have t0 := hm _ _ t0
      have ta1 := hm _ _ ta1
      refine lv_goto (tgt := 108) hx hb dX9_settleTrial_45 (by decide) ?_
      exact gx_vret C hW (Nat.le_of_ble_eq_true rfl) (Nat.le_of_ble_eq_true rfl) hw dX9_settleTrial_108
    · have hw := w_f hw c17
      refine gx_aload_n hx hb dX9_settleTrial_16 rfl (lv_at hl 0 rfl) ?_
      refine gx_aload_n hx hb dX9_settleTrial_17 rfl (lv_at hl 1 rfl) ?_
      refine gx_getI C hW F9_209 (k := 70) ha1 ta1 rfl dX9_settleTrial_18 ?_
      refine gx_putI (k := 584) C hW F9_67 (Or.inl rfl) rfl t0 rfl rfl rfl dX9_settleTrial_21 (fun H locs S20 eS20 hW hm => ?_)
      have hw := hw S20 eS20
      have t0 := hm _ _ t0
      have ta1 := hm _ _ ta1
      refine gx_aload_n hx hb dX9_settleTrial_24 rfl (lv_at hl 0 rfl) ?_
      refine gx_aload_n hx hb dX9_settleTrial_25 rfl (lv_at hl 1 rfl) ?_
      refine gx_getL C hW F9_212 (k := 71) ha1 ta1 rfl dX9_settleTrial_26 ?_
      refine gx_putL (k := 585) C hW F9_116 (Or.inl rfl) rfl t0 rfl dX9_settleTrial_29 (fun H locs S21 eS21 hW hm => ?_)
      have hw := hw S21 eS21
      have t0 := hm _ _ t0
      have ta1 := hm _ _ ta1
      refine gx_aload_n hx hb dX9_settleTrial_32 rfl (lv_at hl 0 rfl) ?_
      refine gx_aload_n hx hb dX9_settleTrial_33 rfl (lv_at hl 1 rfl) ?_
      refine gx_getR C hW F9_215 (k := 72) ha1 ta1 rfl dX9_settleTrial_34 ?_
      refine gx_putR (k := 586) C hW F9_134 (Or.inl rfl) rfl rfl t0 rfl dX9_settleTrial_37 (fun H locs S22 eS22 hW hm => ?_)
      have hw := hw S22 eS22
      have t0 := hm _ _ t0
      have ta1 := hm _ _ ta1
      refine gx_aload_n hx hb dX9_settleTrial_40 rfl (lv_at hl 0 rfl) ?_
      refine gx_aload_n hx hb dX9_settleTrial_41 rfl (lv_at hl 1 rfl) ?_
      refine gx_cv (gx_rV C hW M9_195 (mX9_leaveBlock l D cy _ _ _ _ t0 hw) rfl rfl ⟨Nat.le_of_ble_eq_true rfl, Nat.le_of_ble_eq_true rfl⟩ rfl t0 (by decide) rfl rfl hl.1 rfl (gx_room0 (n := 4) (Nat.le_of_ble_eq_true rfl)) dX9_settleTrial_42 ⟨Nat.le_of_ble_eq_true rfl, Nat.le_of_ble_eq_true rfl⟩) hW (fun S24 H locs hW hm hw => ?_)
      have t0 := hm _ _ t0
      have ta1 := hm _ _ ta1
      refine lv_goto (tgt := 108) hx hb dX9_settleTrial_45 (by decide) ?_
      exact gx_vret C hW (Nat.le_of_ble_eq_true rfl) (Nat.le_of_ble_eq_true rfl) hw dX9_settleTrial_108
/-! TrialStair$Worker.takeStep -/
def wX9_takeStep (x0 : Nat) (S0 : Sg) (Q : Int32 → Sg → Prop) : Prop := (if 0 < (fI S0 583 x0) then ∀ S2 : Sg, S2 = sFI S0 583 x0 ((fI S0 583 x0) - (1 : Int32)) → Q (1 : Int32) S2 else wX9_stop x0 (3 : Int32) S0 (fun (S4 : Sg) => Q (0 : Int32) S4))
set_option maxHeartbeats 4000000 in
set_option maxRecDepth 100000 in
theorem mX9_takeStep (l : Launch) (D : va_G) (cy : Nat → ClassId) (x0 : Nat) (S0 : Sg) (Q : Int32 → Sg → Prop) (t0 : tg S0 x0 = 10) (hw : wX9_takeStep x0 S0 Q) : Met l yX9_takeStep (.code yX9_takeStep cX9_takeStep 1 (some .boolean) :: wsL_law) { frames := 1, cells := 0, slots := 0, locals := 21 } (gPc D cy [va_rf (some x0)] S0) (va_Qi Q (gB D cy S0) (gA S0)) 0 0 (gA S0) := by
  refine gx_met (by decide) (Nat.le_of_ble_eq_true rfl) ?_
  intro p e s m args below meth c ls C hW hl
  have hx := C.1
  have hb := C.2.1
  have hl : lv_has ls 1 [(0, va_rf (some x0))] := hl
  unfold wX9_takeStep at hw
  refine gx_aload_n hx hb dX9_takeStep_0 rfl (lv_at hl 0 rfl) ?_
  refine gx_getI C hW F9_37 (k := 583) rfl t0 rfl dX9_takeStep_1 ?_
  refine lv_if_gt (tgt := 14) hx hb dX9_takeStep_4 (by decide) (fun c1 => ?_) (fun c1 => ?_)
  · have hw := w_t hw c1
    refine gx_aload_n hx hb dX9_takeStep_14 rfl (lv_at hl 0 rfl) ?_
    refine lv_dup hx hb dX9_takeStep_15 (va_rf_cat _) ?_
    refine gx_getI C hW F9_37 (k := 583) rfl t0 rfl dX9_takeStep_16 ?_
    refine lv_iconst (v := 1) hx hb dX9_takeStep_19 (by decide) ?_
    refine lv_isub hx hb dX9_takeStep_20 ?_
    refine gx_putI (k := 583) C hW F9_37 (Or.inl rfl) rfl t0 rfl rfl rfl dX9_takeStep_21 (fun H locs S2 eS2 hW hm => ?_)
    have hw := hw S2 eS2
    have t0 := hm _ _ t0
    refine lv_iconst (v := 1) hx hb dX9_takeStep_24 (by decide) ?_
    exact gx_iret C hW (Nat.le_of_ble_eq_true rfl) (Nat.le_of_ble_eq_true rfl) rfl hw dX9_takeStep_25
  · have hw := w_f hw c1
    refine gx_aload_n hx hb dX9_takeStep_7 rfl (lv_at hl 0 rfl) ?_
    refine lv_iconst (v := 3) hx hb dX9_takeStep_8 (by decide) ?_
    refine gx_cv (gx_rV C hW M9_82 (mX9_stop l D cy _ _ _ _ t0 hw) rfl rfl ⟨Nat.le_of_ble_eq_true rfl, Nat.le_of_ble_eq_true rfl⟩ rfl t0 (by decide) rfl rfl hl.1 rfl (gx_room0 (n := 4) (Nat.le_of_ble_eq_true rfl)) dX9_takeStep_9 ⟨Nat.le_of_ble_eq_true rfl, Nat.le_of_ble_eq_true rfl⟩) hW (fun S4 H locs hW hm hw => ?_)
    have t0 := hm _ _ t0
    refine lv_iconst (v := 0) hx hb dX9_takeStep_12 (by decide) ?_
    exact gx_iret C hW (Nat.le_of_ble_eq_true rfl) (Nat.le_of_ble_eq_true rfl) rfl hw dX9_takeStep_13
/-! TrialStair$Worker.look -/
def wX9_look (x0 : Nat) (x1 : Option Nat) (S0 : Sg) (Q : Sg → Prop) : Prop := ∃ a1 : Nat, x1 = some a1 ∧ tg S0 a1 = 2 ∧ ∀ y2 : Option Nat, y2 = (fR S0 64 a1) → ∃ a3 : Nat, y2 = some a3 ∧ tg S0 a3 = 8 ∧ ∃ a4 : Nat, (fR S0 577 x0) = some a4 ∧ tg S0 a4 = 4 ∧ wX3_numberOf a4 (fI S0 450 a3) S0 (fun (r5 : Int64) (S6 : Sg) => (if (lg_cmp r5 (0 : Int64)) ≤ 0 then ∀ S8 : Sg, S8 = sFI S6 584 x0 (1 : Int32) → wX9_leaveBlock x0 x1 S8 (fun (S10 : Sg) => Q S10) else ∃ a11 : Nat, (fR S6 577 x0) = some a11 ∧ tg S6 a11 = 4 ∧ wX3_setNumber a11 (fI S6 450 a3) (r5 - (1 : Int64)) S6 (fun (S13 : Sg) => ∀ S14 : Sg, S14 = sFI S13 582 x0 ((fI S13 448 a3) + (1 : Int32)) → ∀ S15 : Sg, S15 = sFI S14 584 x0 (0 : Int32) → Q S15)))
set_option maxHeartbeats 4000000 in
set_option maxRecDepth 100000 in
theorem mX9_look (l : Launch) (D : va_G) (cy : Nat → ClassId) (x0 : Nat) (x1 : Option Nat) (S0 : Sg) (Q : Sg → Prop) (t0 : tg S0 x0 = 10) (hw : wX9_look x0 x1 S0 Q) : Met l yX9_look (.code yX9_look cX9_look 5 none :: wsL_law) { frames := 2, cells := 0, slots := 0, locals := 41 } (gPc D cy [va_rf (some x0), va_rf x1] S0) (va_Qv Q (gB D cy S0) (gA S0)) 0 0 (gA S0) := by
  refine gx_met (by decide) (by simp [lg_sl, va_rf_cat, cat_i, cat_l]) ?_
  intro p e s m args below meth c ls C hW hl
  have hx := C.1
  have hb := C.2.1
  have hl : lv_has ls 5 [(0, va_rf (some x0)), (1, va_rf x1)] := by simpa [lv_args, va_rf_cat, cat_i, cat_l] using hl
  unfold wX9_look at hw
  refine gx_aload_n hx hb dX9_look_0 rfl (lv_at hl 1 rfl) ?_
  obtain ⟨a1, ha1, ta1, hw⟩ := hw
  refine gx_getR C hW F9_188 (k := 64) ha1 ta1 rfl dX9_look_1 ?_
  refine gx_topr (fun y2 ey2 => ?_)
  have hw := hw y2 ey2
  refine gx_astore_n (i := 2) (lv' := [(2, va_rf y2), (0, va_rf (some x0)), (1, va_rf x1)]) hx hb dX9_look_4 rfl hl (by decide) (by simp [List.filter, va_rf_cat, cat_i, cat_l]) (fun ls hl => ?_)
  refine gx_aload_n hx hb dX9_look_5 rfl (lv_at hl 1 rfl) ?_
  refine gx_getR C hW F9_24 (k := 577) rfl t0 rfl dX9_look_6 ?_
  refine gx_aload_n hx hb dX9_look_9 rfl (lv_at hl 0 rfl) ?_
  obtain ⟨a3, ha3, ta3, hw⟩ := hw
  refine gx_getI C hW F9_92 (k := 450) ha3 ta3 rfl dX9_look_10 ?_
  obtain ⟨a4, ha4, ta4, hw⟩ := hw
  refine gx_cl (gx_rV C hW M9_95 (mX3_numberOf l D cy _ _ _ _ ta4 hw) rfl rfl ⟨Nat.le_of_ble_eq_true rfl, Nat.le_of_ble_eq_true rfl⟩ ha4 ta4 (by decide) rfl rfl hl.1 rfl (gx_room0 (n := 4) (Nat.le_of_ble_eq_true rfl)) dX9_look_13 ⟨Nat.le_of_ble_eq_true rfl, Nat.le_of_ble_eq_true rfl⟩) hW (fun r5 S6 H locs hW hm hw => ?_)
  have t0 := hm _ _ t0
  have ta1 := hm _ _ ta1
  have ta3 := hm _ _ ta3
  have ta4 := hm _ _ ta4
  refine lv_lstore_n (i := 3) (lv' := [(3, .long r5), (2, va_rf y2), (0, va_rf (some x0)), (1, va_rf x1)]) hx hb dX9_look_16 rfl hl (by decide) (by simp [List.filter, va_rf_cat, cat_i, cat_l]) (fun ls hl => ?_)
  refine lv_lload_n hx hb dX9_look_17 rfl (lv_at hl 0 rfl) ?_
  refine lv_lconst (v := 0) hx hb dX9_look_18 (by decide) ?_
  refine W.lcmp hx hb dX9_look_19 ?_
  refine lv_if_le (tgt := 55) hx hb dX9_look_20 (by decide) (fun c7 => ?_) (fun c7 => ?_)
  · have hw := w_t hw c7
    refine gx_aload_n hx hb dX9_look_55 rfl (lv_at hl 2 rfl) ?_
    refine lv_iconst (v := 1) hx hb dX9_look_56 (by decide) ?_
    refine gx_putI (k := 584) C hW F9_67 (Or.inl rfl) rfl t0 rfl rfl rfl dX9_look_57 (fun H locs S8 eS8 hW hm => ?_)
    have hw := hw S8 eS8
    have t0 := hm _ _ t0
    have ta1 := hm _ _ ta1
    have ta3 := hm _ _ ta3
    have ta4 := hm _ _ ta4
    refine gx_aload_n hx hb dX9_look_60 rfl (lv_at hl 2 rfl) ?_
    refine gx_aload_n hx hb dX9_look_61 rfl (lv_at hl 3 rfl) ?_
    refine gx_cv (gx_rV C hW M9_195 (mX9_leaveBlock l D cy _ _ _ _ t0 hw) rfl rfl ⟨Nat.le_of_ble_eq_true rfl, Nat.le_of_ble_eq_true rfl⟩ rfl t0 (by decide) rfl rfl hl.1 rfl (gx_room0 (n := 4) (Nat.le_of_ble_eq_true rfl)) dX9_look_62 ⟨Nat.le_of_ble_eq_true rfl, Nat.le_of_ble_eq_true rfl⟩) hW (fun S10 H locs hW hm hw => ?_)
    have t0 := hm _ _ t0
    have ta1 := hm _ _ ta1
    have ta3 := hm _ _ ta3
    have ta4 := hm _ _ ta4
    exact gx_vret C hW (Nat.le_of_ble_eq_true rfl) (Nat.le_of_ble_eq_true rfl) hw dX9_look_65
  · have hw := w_f hw c7
    refine gx_aload_n hx hb dX9_look_23 rfl (lv_at hl 2 rfl) ?_
    refine gx_getR C hW F9_24 (k := 577) rfl t0 rfl dX9_look_24 ?_
    refine gx_aload_n hx hb dX9_look_27 rfl (lv_at hl 1 rfl) ?_
    refine gx_getI C hW F9_92 (k := 450) ha3 ta3 rfl dX9_look_28 ?_
    refine lv_lload_n hx hb dX9_look_31 rfl (lv_at hl 0 rfl) ?_
    refine lv_lconst (v := 1) hx hb dX9_look_32 (by decide) ?_
    refine lv_lsub hx hb dX9_look_33 ?_
    obtain ⟨a11, ha11, ta11, hw⟩ := hw
    refine gx_cv (gx_rV C hW M9_191 (mX3_setNumber l D cy _ _ _ _ _ ta11 hw) rfl rfl ⟨Nat.le_of_ble_eq_true rfl, Nat.le_of_ble_eq_true rfl⟩ ha11 ta11 (by decide) rfl rfl hl.1 rfl (gx_room0 (n := 4) (Nat.le_of_ble_eq_true rfl)) dX9_look_34 ⟨Nat.le_of_ble_eq_true rfl, Nat.le_of_ble_eq_true rfl⟩) hW (fun S13 H locs hW hm hw => ?_)
    have t0 := hm _ _ t0
    have ta1 := hm _ _ ta1
    have ta3 := hm _ _ ta3
    have ta4 := hm _ _ ta4
    have ta11 := hm _ _ ta11
    refine gx_aload_n hx hb dX9_look_37 rfl (lv_at hl 2 rfl) ?_
    refine gx_aload_n hx hb dX9_look_38 rfl (lv_at hl 1 rfl) ?_
    refine gx_getI C hW F9_172 (k := 448) ha3 ta3 rfl dX9_look_39 ?_
    refine lv_iconst (v := 1) hx hb dX9_look_42 (by decide) ?_
    refine lv_iadd hx hb dX9_look_43 ?_
    refine gx_putI (k := 582) C hW F9_53 (Or.inl rfl) rfl t0 rfl rfl rfl dX9_look_44 (fun H locs S14 eS14 hW hm => ?_)
    have hw := hw S14 eS14
    have t0 := hm _ _ t0
    have ta1 := hm _ _ ta1
    have ta3 := hm _ _ ta3
    have ta4 := hm _ _ ta4
    have ta11 := hm _ _ ta11
    refine gx_aload_n hx hb dX9_look_47 rfl (lv_at hl 2 rfl) ?_
    refine lv_iconst (v := 0) hx hb dX9_look_48 (by decide) ?_
    refine gx_putI (k := 584) C hW F9_67 (Or.inl rfl) rfl t0 rfl rfl rfl dX9_look_49 (fun H locs S15 eS15 hW hm => ?_)
    have hw := hw S15 eS15
    have t0 := hm _ _ t0
    have ta1 := hm _ _ ta1
    have ta3 := hm _ _ ta3
    have ta4 := hm _ _ ta4
    have ta11 := hm _ _ ta11
    refine lv_goto (tgt := 65) hx hb dX9_look_52 (by decide) ?_
    exact gx_vret C hW (Nat.le_of_ble_eq_true rfl) (Nat.le_of_ble_eq_true rfl) hw dX9_look_65
/-! TrialStair$Worker.settleLoop -/
def wX9_settleLoop (x0 : Nat) (x1 : Option Nat) (S0 : Sg) (Q : Sg → Prop) : Prop := (if (fI S0 584 x0) = (1 : Int32) then wX9_takeStep x0  S0 (fun (r2 : Int32) (S3 : Sg) => (if r2 = 0 then Q S3 else wX9_look x0 x1 S3 (fun (S6 : Sg) => Q S6))) else (if (fI S0 584 x0) = (4 : Int32) then wX9_takeStep x0  S0 (fun (r14 : Int32) (S15 : Sg) => (if r14 = 0 then Q S15 else wX9_look x0 x1 S15 (fun (S18 : Sg) => Q S18))) else (if (fI S0 584 x0) = (3 : Int32) then ∀ S11 : Sg, S11 = sFI S0 584 x0 (1 : Int32) → wX9_leaveBlock x0 x1 S11 (fun (S13 : Sg) => Q S13) else wX9_leaveBlock x0 x1 S0 (fun (S10 : Sg) => Q S10))))
set_option maxHeartbeats 4000000 in
set_option maxRecDepth 100000 in
theorem mX9_settleLoop (l : Launch) (D : va_G) (cy : Nat → ClassId) (x0 : Nat) (x1 : Option Nat) (S0 : Sg) (Q : Sg → Prop) (t0 : tg S0 x0 = 10) (hw : wX9_settleLoop x0 x1 S0 Q) : Met l yX9_settleLoop (.code yX9_settleLoop cX9_settleLoop 2 none :: wsL_law) { frames := 3, cells := 0, slots := 0, locals := 65 } (gPc D cy [va_rf (some x0), va_rf x1] S0) (va_Qv Q (gB D cy S0) (gA S0)) 0 0 (gA S0) := by
  refine gx_met (by decide) (by simp [lg_sl, va_rf_cat, cat_i, cat_l]) ?_
  intro p e s m args below meth c ls C hW hl
  have hx := C.1
  have hb := C.2.1
  have hl : lv_has ls 2 [(0, va_rf (some x0)), (1, va_rf x1)] := by simpa [lv_args, va_rf_cat, cat_i, cat_l] using hl
  unfold wX9_settleLoop at hw
  refine gx_aload_n hx hb dX9_settleLoop_0 rfl (lv_at hl 0 rfl) ?_
  refine gx_getI C hW F9_67 (k := 584) rfl t0 rfl dX9_settleLoop_1 ?_
  refine lv_iconst (v := 1) hx hb dX9_settleLoop_4 (by decide) ?_
  refine lv_icmp_eq (tgt := 16) hx hb dX9_settleLoop_5 (by decide) (fun c1 => ?_) (fun c1 => ?_)
  · have hw := w_t hw c1
    refine gx_aload_n hx hb dX9_settleLoop_16 rfl (lv_at hl 0 rfl) ?_
    refine gx_ci (gx_rV C hW M9_74 (mX9_takeStep l D cy _ _ _ t0 hw) rfl rfl ⟨Nat.le_of_ble_eq_true rfl, Nat.le_of_ble_eq_true rfl⟩ rfl t0 (by decide) rfl rfl hl.1 rfl (gx_room0 (n := 4) (Nat.le_of_ble_eq_true rfl)) dX9_settleLoop_17 ⟨Nat.le_of_ble_eq_true rfl, Nat.le_of_ble_eq_true rfl⟩) hW (fun r2 S3 H locs hW hm hw => ?_)
    have t0 := hm _ _ t0
    refine lv_if_eq (tgt := 28) hx hb dX9_settleLoop_20 (by decide) (fun c4 => ?_) (fun c4 => ?_)
    · have hw := w_t hw c4
      exact gx_vret C hW (Nat.le_of_ble_eq_true rfl) (Nat.le_of_ble_eq_true rfl) hw dX9_settleLoop_28
    · have hw := w_f hw c4
      refine gx_aload_n hx hb dX9_settleLoop_23 rfl (lv_at hl 0 rfl) ?_
      refine gx_aload_n hx hb dX9_settleLoop_24 rfl (lv_at hl 1 rfl) ?_
      refine gx_cv (gx_rV C hW M9_173 (mX9_look l D cy _ _ _ _ t0 hw) rfl rfl ⟨Nat.le_of_ble_eq_true rfl, Nat.le_of_ble_eq_true rfl⟩ rfl t0 (by decide) rfl rfl hl.1 rfl (gx_room0 (n := 4) (Nat.le_of_ble_eq_true rfl)) dX9_settleLoop_25 ⟨Nat.le_of_ble_eq_true rfl, Nat.le_of_ble_eq_true rfl⟩) hW (fun S6 H locs hW hm hw => ?_)
      have t0 := hm _ _ t0
      exact gx_vret C hW (Nat.le_of_ble_eq_true rfl) (Nat.le_of_ble_eq_true rfl) hw dX9_settleLoop_28
  · have hw := w_f hw c1
    refine gx_aload_n hx hb dX9_settleLoop_8 rfl (lv_at hl 0 rfl) ?_
    refine gx_getI C hW F9_67 (k := 584) rfl t0 rfl dX9_settleLoop_9 ?_
    refine lv_iconst (v := 4) hx hb dX9_settleLoop_12 (by decide) ?_
    refine lv_icmp_ne (tgt := 29) hx hb dX9_settleLoop_13 (by decide) (fun c7 => ?_) (fun c7 => ?_)
    · have hw := w_f hw c7
      refine gx_aload_n hx hb dX9_settleLoop_29 rfl (lv_at hl 0 rfl) ?_
      refine gx_getI C hW F9_67 (k := 584) rfl t0 rfl dX9_settleLoop_30 ?_
      refine lv_iconst (v := 3) hx hb dX9_settleLoop_33 (by decide) ?_
      refine lv_icmp_ne (tgt := 42) hx hb dX9_settleLoop_34 (by decide) (fun c8 => ?_) (fun c8 => ?_)
      · have hw := w_f hw c8
        refine gx_aload_n hx hb dX9_settleLoop_42 rfl (lv_at hl 0 rfl) ?_
        refine gx_aload_n hx hb dX9_settleLoop_43 rfl (lv_at hl 1 rfl) ?_
        refine gx_cv (gx_rV C hW M9_195 (mX9_leaveBlock l D cy _ _ _ _ t0 hw) rfl rfl ⟨Nat.le_of_ble_eq_true rfl, Nat.le_of_ble_eq_true rfl⟩ rfl t0 (by decide) rfl rfl hl.1 rfl (gx_room0 (n := 4) (Nat.le_of_ble_eq_true rfl)) dX9_settleLoop_44 ⟨Nat.le_of_ble_eq_true rfl, Nat.le_of_ble_eq_true rfl⟩) hW (fun S10 H locs hW hm hw => ?_)
        have t0 := hm _ _ t0
        exact gx_vret C hW (Nat.le_of_ble_eq_true rfl) (Nat.le_of_ble_eq_true rfl) hw dX9_settleLoop_47
      · have hw := w_t hw c8
        refine gx_aload_n hx hb dX9_settleLoop_37 rfl (lv_at hl 0 rfl) ?_
        refine lv_iconst (v := 1) hx hb dX9_settleLoop_38 (by decide) ?_
        refine gx_putI (k := 584) C hW F9_67 (Or.inl rfl) rfl t0 rfl rfl rfl dX9_settleLoop_39 (fun H locs S11 eS11 hW hm => ?_)
        have hw := hw S11 eS11
        have t0 := hm _ _ t0
        refine gx_aload_n hx hb dX9_settleLoop_42 rfl (lv_at hl 0 rfl) ?_
        refine gx_aload_n hx hb dX9_settleLoop_43 rfl (lv_at hl 1 rfl) ?_
        refine gx_cv (gx_rV C hW M9_195 (mX9_leaveBlock l D cy _ _ _ _ t0 hw) rfl rfl ⟨Nat.le_of_ble_eq_true rfl, Nat.le_of_ble_eq_true rfl⟩ rfl t0 (by decide) rfl rfl hl.1 rfl (gx_room0 (n := 4) (Nat.le_of_ble_eq_true rfl)) dX9_settleLoop_44 ⟨Nat.le_of_ble_eq_true rfl, Nat.le_of_ble_eq_true rfl⟩) hW (fun S13 H locs hW hm hw => ?_)
        have t0 := hm _ _ t0
        exact gx_vret C hW (Nat.le_of_ble_eq_true rfl) (Nat.le_of_ble_eq_true rfl) hw dX9_settleLoop_47
    · have hw := w_t hw c7
      refine gx_aload_n hx hb dX9_settleLoop_16 rfl (lv_at hl 0 rfl) ?_
      refine gx_ci (gx_rV C hW M9_74 (mX9_takeStep l D cy _ _ _ t0 hw) rfl rfl ⟨Nat.le_of_ble_eq_true rfl, Nat.le_of_ble_eq_true rfl⟩ rfl t0 (by decide) rfl rfl hl.1 rfl (gx_room0 (n := 4) (Nat.le_of_ble_eq_true rfl)) dX9_settleLoop_17 ⟨Nat.le_of_ble_eq_true rfl, Nat.le_of_ble_eq_true rfl⟩) hW (fun r14 S15 H locs hW hm hw => ?_)
      have t0 := hm _ _ t0
      refine lv_if_eq (tgt := 28) hx hb dX9_settleLoop_20 (by decide) (fun c16 => ?_) (fun c16 => ?_)
      · have hw := w_t hw c16
        exact gx_vret C hW (Nat.le_of_ble_eq_true rfl) (Nat.le_of_ble_eq_true rfl) hw dX9_settleLoop_28
      · have hw := w_f hw c16
        refine gx_aload_n hx hb dX9_settleLoop_23 rfl (lv_at hl 0 rfl) ?_
        refine gx_aload_n hx hb dX9_settleLoop_24 rfl (lv_at hl 1 rfl) ?_
        refine gx_cv (gx_rV C hW M9_173 (mX9_look l D cy _ _ _ _ t0 hw) rfl rfl ⟨Nat.le_of_ble_eq_true rfl, Nat.le_of_ble_eq_true rfl⟩ rfl t0 (by decide) rfl rfl hl.1 rfl (gx_room0 (n := 4) (Nat.le_of_ble_eq_true rfl)) dX9_settleLoop_25 ⟨Nat.le_of_ble_eq_true rfl, Nat.le_of_ble_eq_true rfl⟩) hW (fun S18 H locs hW hm hw => ?_)
        have t0 := hm _ _ t0
        exact gx_vret C hW (Nat.le_of_ble_eq_true rfl) (Nat.le_of_ble_eq_true rfl) hw dX9_settleLoop_28
/-! TrialStair$Worker.reportEnd -/
def wX9_reportEnd (x0 : Nat) (S0 : Sg) (Q : Sg → Prop) : Prop := (if (fI S0 584 x0) = (2 : Int32) then ∃ a10 : Nat, (fR S0 578 x0) = some a10 ∧ tg S0 a10 = 5 ∧ ∀ S11 : Sg, S11 = sFI S0 258 a10 (2 : Int32) → ∀ S13 : Sg, S13 = sFR S11 260 a10 (fR S11 586 x0) → Q S13 else (if (fI S0 584 x0) = (1 : Int32) then Q S0 else ∃ a3 : Nat, (fR S0 578 x0) = some a3 ∧ tg S0 a3 = 5 ∧ ∀ S4 : Sg, S4 = sFI S0 258 a3 (1 : Int32) → (if (fI S4 584 x0) = (5 : Int32) then ∀ S9 : Sg, S9 = sFL S4 259 a3 (fL S4 585 x0) → Q S9 else ∀ S7 : Sg, S7 = sFL S4 259 a3 (0 : Int64) → Q S7)))
set_option maxHeartbeats 4000000 in
set_option maxRecDepth 100000 in
theorem mX9_reportEnd (l : Launch) (D : va_G) (cy : Nat → ClassId) (x0 : Nat) (S0 : Sg) (Q : Sg → Prop) (t0 : tg S0 x0 = 10) (hw : wX9_reportEnd x0 S0 Q) : Met l yX9_reportEnd (.code yX9_reportEnd cX9_reportEnd 1 none :: wsL_law) { frames := 0, cells := 0, slots := 0, locals := 0 } (gPc D cy [va_rf (some x0)] S0) (va_Qv Q (gB D cy S0) (gA S0)) 0 0 (gA S0) := by
  refine gx_met (by decide) (Nat.le_of_ble_eq_true rfl) ?_
  intro p e s m args below meth c ls C hW hl
  have hx := C.1
  have hb := C.2.1
  have hl : lv_has ls 1 [(0, va_rf (some x0))] := hl
  unfold wX9_reportEnd at hw
  refine gx_aload_n hx hb dX9_reportEnd_0 rfl (lv_at hl 0 rfl) ?_
  refine gx_getI C hW F9_67 (k := 584) rfl t0 rfl dX9_reportEnd_1 ?_
  refine lv_iconst (v := 2) hx hb dX9_reportEnd_4 (by decide) ?_
  refine lv_icmp_ne (tgt := 30) hx hb dX9_reportEnd_5 (by decide) (fun c1 => ?_) (fun c1 => ?_)
  · have hw := w_f hw c1
    refine gx_aload_n hx hb dX9_reportEnd_30 rfl (lv_at hl 0 rfl) ?_
    refine gx_getI C hW F9_67 (k := 584) rfl t0 rfl dX9_reportEnd_31 ?_
    refine lv_iconst (v := 1) hx hb dX9_reportEnd_34 (by decide) ?_
    refine lv_icmp_eq (tgt := 69) hx hb dX9_reportEnd_35 (by decide) (fun c2 => ?_) (fun c2 => ?_)
    · have hw := w_t hw c2
      exact gx_vret C hW (Nat.le_of_ble_eq_true rfl) (Nat.le_of_ble_eq_true rfl) hw dX9_reportEnd_69
    · have hw := w_f hw c2
      refine gx_aload_n hx hb dX9_reportEnd_38 rfl (lv_at hl 0 rfl) ?_
      refine gx_getR C hW F9_28 (k := 578) rfl t0 rfl dX9_reportEnd_39 ?_
      refine lv_iconst (v := 1) hx hb dX9_reportEnd_42 (by decide) ?_
      obtain ⟨a3, ha3, ta3, hw⟩ := hw
      refine gx_putI (k := 258) C hW F9_86 (Or.inl rfl) ha3 ta3 rfl rfl rfl dX9_reportEnd_43 (fun H locs S4 eS4 hW hm => ?_)
      have hw := hw S4 eS4
      have t0 := hm _ _ t0
      have ta3 := hm _ _ ta3
      refine gx_aload_n hx hb dX9_reportEnd_46 rfl (lv_at hl 0 rfl) ?_
      refine gx_getR C hW F9_28 (k := 578) rfl t0 rfl dX9_reportEnd_47 ?_
      refine gx_aload_n hx hb dX9_reportEnd_50 rfl (lv_at hl 0 rfl) ?_
      refine gx_getI C hW F9_67 (k := 584) rfl t0 rfl dX9_reportEnd_51 ?_
      refine lv_iconst (v := 5) hx hb dX9_reportEnd_54 (by decide) ?_
      refine lv_icmp_ne (tgt := 65) hx hb dX9_reportEnd_55 (by decide) (fun c5 => ?_) (fun c5 => ?_)
      · have hw := w_f hw c5
        refine lv_lconst (v := 0) hx hb dX9_reportEnd_65 (by decide) ?_
        have h6 : (fR S4 578 x0) = some a3 := ((congrArg (fun z => fR z 578 x0) eS4).trans ha3)
        refine gx_putL (k := 259) C hW F9_256 (Or.inl rfl) h6 ta3 rfl dX9_reportEnd_66 (fun H locs S7 eS7 hW hm => ?_)
        have hw := hw S7 eS7
        have t0 := hm _ _ t0
        have ta3 := hm _ _ ta3
        exact gx_vret C hW (Nat.le_of_ble_eq_true rfl) (Nat.le_of_ble_eq_true rfl) hw dX9_reportEnd_69
      · have hw := w_t hw c5
        refine gx_aload_n hx hb dX9_reportEnd_58 rfl (lv_at hl 0 rfl) ?_
        refine gx_getL C hW F9_116 (k := 585) rfl t0 rfl dX9_reportEnd_59 ?_
        refine lv_goto (tgt := 66) hx hb dX9_reportEnd_62 (by decide) ?_
        have h8 : (fR S4 578 x0) = some a3 := ((congrArg (fun z => fR z 578 x0) eS4).trans ha3)
        refine gx_putL (k := 259) C hW F9_256 (Or.inl rfl) h8 ta3 rfl dX9_reportEnd_66 (fun H locs S9 eS9 hW hm => ?_)
        have hw := hw S9 eS9
        have t0 := hm _ _ t0
        have ta3 := hm _ _ ta3
        exact gx_vret C hW (Nat.le_of_ble_eq_true rfl) (Nat.le_of_ble_eq_true rfl) hw dX9_reportEnd_69
  · have hw := w_t hw c1
    refine gx_aload_n hx hb dX9_reportEnd_8 rfl (lv_at hl 0 rfl) ?_
    refine gx_getR C hW F9_28 (k := 578) rfl t0 rfl dX9_reportEnd_9 ?_
    refine lv_iconst (v := 2) hx hb dX9_reportEnd_12 (by decide) ?_
    obtain ⟨a10, ha10, ta10, hw⟩ := hw
    refine gx_putI (k := 258) C hW F9_86 (Or.inl rfl) ha10 ta10 rfl rfl rfl dX9_reportEnd_13 (fun H locs S11 eS11 hW hm => ?_)
    have hw := hw S11 eS11
    have t0 := hm _ _ t0
    have ta10 := hm _ _ ta10
    refine gx_aload_n hx hb dX9_reportEnd_16 rfl (lv_at hl 0 rfl) ?_
    refine gx_getR C hW F9_28 (k := 578) rfl t0 rfl dX9_reportEnd_17 ?_
    refine gx_aload_n hx hb dX9_reportEnd_20 rfl (lv_at hl 0 rfl) ?_
    refine gx_getR C hW F9_134 (k := 586) rfl t0 rfl dX9_reportEnd_21 ?_
    have h12 : (fR S11 578 x0) = some a10 := ((congrArg (fun z => fR z 578 x0) eS11).trans ha10)
    refine gx_putR (k := 260) C hW F9_255 (Or.inl rfl) rfl h12 ta10 rfl dX9_reportEnd_24 (fun H locs S13 eS13 hW hm => ?_)
    have hw := hw S13 eS13
    have t0 := hm _ _ t0
    have ta10 := hm _ _ ta10
    refine lv_goto (tgt := 69) hx hb dX9_reportEnd_27 (by decide) ?_
    exact gx_vret C hW (Nat.le_of_ble_eq_true rfl) (Nat.le_of_ble_eq_true rfl) hw dX9_reportEnd_69
/-! TrialStair$Worker.settleRoutine -/
def wX9_settleRoutine_b67 (x0 : Nat) (x1 : Option Nat) (q0 : Option Nat) (q1 : Int32) (q2 : Int64) (S : Sg) (Q : Sg → Prop) : Prop := ∃ a8 : Nat, q0 = some a8 ∧ tg S a8 = 4 ∧ wX3_setNumber a8 q1 q2 S (fun (S10 : Sg) => ∃ a11 : Nat, x1 = some a11 ∧ tg S10 a11 = 2 ∧ ∃ a12 : Nat, (fR S10 64 a11) = some a12 ∧ tg S10 a12 = 8 ∧ ∀ S13 : Sg, S13 = sFI S10 582 x0 ((fI S10 448 a12) + (1 : Int32)) → ∀ S14 : Sg, S14 = sFI S13 584 x0 (0 : Int32) → Q S14)
def wX9_settleRoutine (x0 : Nat) (x1 : Option Nat) (S0 : Sg) (Q : Sg → Prop) : Prop := ∃ a1 : Nat, x1 = some a1 ∧ tg S0 a1 = 2 ∧ ∀ S2 : Sg, S2 = sFR S0 580 x0 (fR S0 65 a1) → ∀ S3 : Sg, S3 = sFI S2 581 x0 ((fI S2 581 x0) - (1 : Int32)) → (if (fR S3 580 x0) = none then wX9_reportEnd x0  S3 (fun (S16 : Sg) => Q S16) else (if (fI S3 584 x0) = (2 : Int32) then Q S3 else ∃ a6 : Nat, (fR S3 64 a1) = some a6 ∧ tg S3 a6 = 8 ∧ (if (fI S3 584 x0) = (5 : Int32) then wX9_settleRoutine_b67 x0 x1 (fR S3 577 x0) (fI S3 451 a6) (fL S3 585 x0) S3 Q else wX9_settleRoutine_b67 x0 x1 (fR S3 577 x0) (fI S3 451 a6) (0 : Int64) S3 Q)))
set_option maxHeartbeats 4000000 in
set_option maxRecDepth 100000 in
theorem kX9_settleRoutine_b67 {p : Program} {l : Launch} {e : Env} {s : State} {m : MethodId} {args : Array Value} {below : List Frame} {meth : Method} {c : Code} {D : va_G} {cy : Nat → ClassId} {S0 : Sg} (C : gC p s m args meth c D cy cX9_settleRoutine 2 yX9_settleRoutine.cls none yX9_settleRoutine.name) {H : Heap} {locs : List Loc} {ls : Array Slot} {x0 : Nat} {x1 : Option Nat} {q0 : Option Nat} {q1 : Int32} {q2 : Int64} {S : Sg} {Q : Sg → Prop} (hW : gW D cy (gA S0) (tg S0) s.heap S H locs) (t0 : tg S x0 = 10) (hl : lv_has ls 2 [(0, va_rf (some x0)), (1, va_rf x1)]) (hw : wX9_settleRoutine_b67 x0 x1 q0 q1 q2 S Q) : W p l e { frames := 1, cells := 0, slots := 0, locals := 23 } s m args below meth c H locs 0 0 (MQ below (va_Qv Q (gB D cy S0) (gA S0)) args s 0 0 (gA S0)) (F0 m 67 ls [.long q2, .int q1, va_rf q0]) := by
  have hx := C.1
  have hb := C.2.1
  unfold wX9_settleRoutine_b67 at hw
  obtain ⟨a8, ha8, ta8, hw⟩ := hw
  refine gx_cv (gx_rV C hW M9_191 (mX3_setNumber l D cy _ _ _ _ _ ta8 hw) rfl rfl ⟨Nat.le_of_ble_eq_true rfl, Nat.le_of_ble_eq_true rfl⟩ ha8 ta8 (by decide) rfl rfl hl.1 rfl (gx_room0 (n := 4) (Nat.le_of_ble_eq_true rfl)) dX9_settleRoutine_67 ⟨Nat.le_of_ble_eq_true rfl, Nat.le_of_ble_eq_true rfl⟩) hW (fun S10 H locs hW hm hw => ?_)
  have t0 := hm _ _ t0
  have ta8 := hm _ _ ta8
  refine gx_aload_n hx hb dX9_settleRoutine_70 rfl (lv_at hl 0 rfl) ?_
  refine gx_aload_n hx hb dX9_settleRoutine_71 rfl (lv_at hl 1 rfl) ?_
  obtain ⟨a11, ha11, ta11, hw⟩ := hw
  refine gx_getR C hW F9_188 (k := 64) ha11 ta11 rfl dX9_settleRoutine_72 ?_
  obtain ⟨a12, ha12, ta12, hw⟩ := hw
  refine gx_getI C hW F9_172 (k := 448) ha12 ta12 rfl dX9_settleRoutine_75 ?_
  refine lv_iconst (v := 1) hx hb dX9_settleRoutine_78 (by decide) ?_
  refine lv_iadd hx hb dX9_settleRoutine_79 ?_
  refine gx_putI (k := 582) C hW F9_53 (Or.inl rfl) rfl t0 rfl rfl rfl dX9_settleRoutine_80 (fun H locs S13 eS13 hW hm => ?_)
  have hw := hw S13 eS13
  have t0 := hm _ _ t0
  have ta8 := hm _ _ ta8
  have ta11 := hm _ _ ta11
  have ta12 := hm _ _ ta12
  refine gx_aload_n hx hb dX9_settleRoutine_83 rfl (lv_at hl 0 rfl) ?_
  refine lv_iconst (v := 0) hx hb dX9_settleRoutine_84 (by decide) ?_
  refine gx_putI (k := 584) C hW F9_67 (Or.inl rfl) rfl t0 rfl rfl rfl dX9_settleRoutine_85 (fun H locs S14 eS14 hW hm => ?_)
  have hw := hw S14 eS14
  have t0 := hm _ _ t0
  have ta8 := hm _ _ ta8
  have ta11 := hm _ _ ta11
  have ta12 := hm _ _ ta12
  exact gx_vret C hW (Nat.le_of_ble_eq_true rfl) (Nat.le_of_ble_eq_true rfl) hw dX9_settleRoutine_88
set_option maxHeartbeats 4000000 in
set_option maxRecDepth 100000 in
theorem mX9_settleRoutine (l : Launch) (D : va_G) (cy : Nat → ClassId) (x0 : Nat) (x1 : Option Nat) (S0 : Sg) (Q : Sg → Prop) (t0 : tg S0 x0 = 10) (hw : wX9_settleRoutine x0 x1 S0 Q) : Met l yX9_settleRoutine (.code yX9_settleRoutine cX9_settleRoutine 2 none :: wsL_law) { frames := 1, cells := 0, slots := 0, locals := 23 } (gPc D cy [va_rf (some x0), va_rf x1] S0) (va_Qv Q (gB D cy S0) (gA S0)) 0 0 (gA S0) := by
  refine gx_met (by decide) (by simp [lg_sl, va_rf_cat, cat_i, cat_l]) ?_
  intro p e s m args below meth c ls C hW hl
  have hx := C.1
  have hb := C.2.1
  have hl : lv_has ls 2 [(0, va_rf (some x0)), (1, va_rf x1)] := by simpa [lv_args, va_rf_cat, cat_i, cat_l] using hl
  unfold wX9_settleRoutine at hw
  refine gx_aload_n hx hb dX9_settleRoutine_0 rfl (lv_at hl 0 rfl) ?_
  refine gx_aload_n hx hb dX9_settleRoutine_1 rfl (lv_at hl 1 rfl) ?_
  obtain ⟨a1, ha1, ta1, hw⟩ := hw
  refine gx_getR C hW F9_144 (k := 65) ha1 ta1 rfl dX9_settleRoutine_2 ?_
  refine gx_putR (k := 580) C hW F9_44 (Or.inl rfl) rfl rfl t0 rfl dX9_settleRoutine_5 (fun H locs S2 eS2 hW hm => ?_)
  have hw := hw S2 eS2
  have t0 := hm _ _ t0
  have ta1 := hm _ _ ta1
  refine gx_aload_n hx hb dX9_settleRoutine_8 rfl (lv_at hl 0 rfl) ?_
  refine lv_dup hx hb dX9_settleRoutine_9 (va_rf_cat _) ?_
  refine gx_getI C hW F9_41 (k := 581) rfl t0 rfl dX9_settleRoutine_10 ?_
  refine lv_iconst (v := 1) hx hb dX9_settleRoutine_13 (by decide) ?_
  refine lv_isub hx hb dX9_settleRoutine_14 ?_
  refine gx_putI (k := 581) C hW F9_41 (Or.inl rfl) rfl t0 rfl rfl rfl dX9_settleRoutine_15 (fun H locs S3 eS3 hW hm => ?_)
  have hw := hw S3 eS3
  have t0 := hm _ _ t0
  have ta1 := hm _ _ ta1
  refine gx_aload_n hx hb dX9_settleRoutine_18 rfl (lv_at hl 0 rfl) ?_
  refine gx_getR C hW F9_44 (k := 580) rfl t0 rfl dX9_settleRoutine_19 ?_
  refine gx_ifnonnull (tgt := 32) hx hb dX9_settleRoutine_22 (by decide) (fun c4 => ?_) (fun c4 => ?_)
  · have hw := w_f hw c4
    refine gx_aload_n hx hb dX9_settleRoutine_32 rfl (lv_at hl 0 rfl) ?_
    refine gx_getI C hW F9_67 (k := 584) rfl t0 rfl dX9_settleRoutine_33 ?_
    refine lv_iconst (v := 2) hx hb dX9_settleRoutine_36 (by decide) ?_
    refine lv_icmp_eq (tgt := 88) hx hb dX9_settleRoutine_37 (by decide) (fun c5 => ?_) (fun c5 => ?_)
    · have hw := w_t hw c5
      exact gx_vret C hW (Nat.le_of_ble_eq_true rfl) (Nat.le_of_ble_eq_true rfl) hw dX9_settleRoutine_88
    · have hw := w_f hw c5
      refine gx_aload_n hx hb dX9_settleRoutine_40 rfl (lv_at hl 0 rfl) ?_
      refine gx_getR C hW F9_24 (k := 577) rfl t0 rfl dX9_settleRoutine_41 ?_
      refine gx_aload_n hx hb dX9_settleRoutine_44 rfl (lv_at hl 1 rfl) ?_
      refine gx_getR C hW F9_188 (k := 64) ha1 ta1 rfl dX9_settleRoutine_45 ?_
      obtain ⟨a6, ha6, ta6, hw⟩ := hw
      refine gx_getI C hW F9_176 (k := 451) ha6 ta6 rfl dX9_settleRoutine_48 ?_
      refine gx_aload_n hx hb dX9_settleRoutine_51 rfl (lv_at hl 0 rfl) ?_
      refine gx_getI C hW F9_67 (k := 584) rfl t0 rfl dX9_settleRoutine_52 ?_
      refine lv_iconst (v := 5) hx hb dX9_settleRoutine_55 (by decide) ?_
      refine lv_icmp_ne (tgt := 66) hx hb dX9_settleRoutine_56 (by decide) (fun c7 => ?_) (fun c7 => ?_)
      · have hw := w_f hw c7
        refine lv_lconst (v := 0) hx hb dX9_settleRoutine_66 (by decide) ?_
        exact kX9_settleRoutine_b67 C hW t0 (lv_sub hl [0, 1] rfl) hw
      · have hw := w_t hw c7
        refine gx_aload_n hx hb dX9_settleRoutine_59 rfl (lv_at hl 0 rfl) ?_
        refine gx_getL C hW F9_116 (k := 585) rfl t0 rfl dX9_settleRoutine_60 ?_
        refine lv_goto (tgt := 67) hx hb dX9_settleRoutine_63 (by decide) ?_
        exact kX9_settleRoutine_b67 C hW t0 (lv_sub hl [0, 1] rfl) hw
  · have hw := w_t hw c4
    refine gx_aload_n hx hb dX9_settleRoutine_25 rfl (lv_at hl 0 rfl) ?_
    refine gx_cv (gx_rV C hW M9_252 (mX9_reportEnd l D cy _ _ _ t0 hw) rfl rfl ⟨Nat.le_of_ble_eq_true rfl, Nat.le_of_ble_eq_true rfl⟩ rfl t0 (by decide) rfl rfl hl.1 rfl (gx_room0 (n := 4) (Nat.le_of_ble_eq_true rfl)) dX9_settleRoutine_26 ⟨Nat.le_of_ble_eq_true rfl, Nat.le_of_ble_eq_true rfl⟩) hW (fun S16 H locs hW hm hw => ?_)
    have t0 := hm _ _ t0
    have ta1 := hm _ _ ta1
    refine lv_goto (tgt := 88) hx hb dX9_settleRoutine_29 (by decide) ?_
    exact gx_vret C hW (Nat.le_of_ble_eq_true rfl) (Nat.le_of_ble_eq_true rfl) hw dX9_settleRoutine_88
/-! TrialStair$Worker.settle -/
def wX9_settle (x0 : Nat) (x1 : Option Nat) (S0 : Sg) (Q : Sg → Prop) : Prop := ∃ a1 : Nat, x1 = some a1 ∧ tg S0 a1 = 2 ∧ ∃ a2 : Nat, (fR S0 64 a1) = some a2 ∧ tg S0 a2 = 8 ∧ (if (fI S0 449 a2) = 25 then wX9_settleTrial x0 x1 S0 (fun (S5 : Sg) => Q S5) else (if (fI S0 449 a2) = 29 then wX9_settleLoop x0 x1 S0 (fun (S8 : Sg) => Q S8) else (if (fI S0 449 a2) = 30 then wX9_leaveBlock x0 x1 S0 (fun (S11 : Sg) => Q S11) else wX9_settleRoutine x0 x1 S0 (fun (S13 : Sg) => Q S13))))
set_option maxHeartbeats 4000000 in
set_option maxRecDepth 100000 in
theorem mX9_settle (l : Launch) (D : va_G) (cy : Nat → ClassId) (x0 : Nat) (x1 : Option Nat) (S0 : Sg) (Q : Sg → Prop) (t0 : tg S0 x0 = 10) (hw : wX9_settle x0 x1 S0 Q) : Met l yX9_settle (.code yX9_settle cX9_settle 2 none :: wsL_law) { frames := 4, cells := 0, slots := 0, locals := 86 } (gPc D cy [va_rf (some x0), va_rf x1] S0) (va_Qv Q (gB D cy S0) (gA S0)) 0 0 (gA S0) := by
  refine gx_met (by decide) (by simp [lg_sl, va_rf_cat, cat_i, cat_l]) ?_
  intro p e s m args below meth c ls C hW hl
  have hx := C.1
  have hb := C.2.1
  have hl : lv_has ls 2 [(0, va_rf (some x0)), (1, va_rf x1)] := by simpa [lv_args, va_rf_cat, cat_i, cat_l] using hl
  unfold wX9_settle at hw
  refine gx_aload_n hx hb dX9_settle_0 rfl (lv_at hl 1 rfl) ?_
  obtain ⟨a1, ha1, ta1, hw⟩ := hw
  refine gx_getR C hW F9_188 (k := 64) ha1 ta1 rfl dX9_settle_1 ?_
  obtain ⟨a2, ha2, ta2, hw⟩ := hw
  refine gx_getI C hW F9_89 (k := 449) ha2 ta2 rfl dX9_settle_4 ?_
  by_cases c3 : (fI S0 449 a2) = (25 : Int32)
  · have hw := w_t hw c3
    refine lv_lookup (off := 33) (tgt := 40) hx hb dX9_settle_7 (by decide) (by rw [c3]; rfl) (by decide) ?_
    refine gx_aload_n hx hb dX9_settle_40 rfl (lv_at hl 0 rfl) ?_
    refine gx_aload_n hx hb dX9_settle_41 rfl (lv_at hl 1 rfl) ?_
    refine gx_cv (gx_rV C hW M9_198 (mX9_settleTrial l D cy _ _ _ _ t0 hw) rfl rfl ⟨Nat.le_of_ble_eq_true rfl, Nat.le_of_ble_eq_true rfl⟩ rfl t0 (by decide) rfl rfl hl.1 rfl (gx_room0 (n := 4) (Nat.le_of_ble_eq_true rfl)) dX9_settle_42 ⟨Nat.le_of_ble_eq_true rfl, Nat.le_of_ble_eq_true rfl⟩) hW (fun S5 H locs hW hm hw => ?_)
    have t0 := hm _ _ t0
    have ta1 := hm _ _ ta1
    have ta2 := hm _ _ ta2
    refine lv_goto (tgt := 69) hx hb dX9_settle_45 (by decide) ?_
    exact gx_vret C hW (Nat.le_of_ble_eq_true rfl) (Nat.le_of_ble_eq_true rfl) hw dX9_settle_69
  · have hw := w_f hw c3
    by_cases c6 : (fI S0 449 a2) = (29 : Int32)
    · have hw := w_t hw c6
      refine lv_lookup (off := 41) (tgt := 48) hx hb dX9_settle_7 (by decide) (by rw [c6]; rfl) (by decide) ?_
      refine gx_aload_n hx hb dX9_settle_48 rfl (lv_at hl 0 rfl) ?_
      refine gx_aload_n hx hb dX9_settle_49 rfl (lv_at hl 1 rfl) ?_
      refine gx_cv (gx_rV C hW M9_201 (mX9_settleLoop l D cy _ _ _ _ t0 hw) rfl rfl ⟨Nat.le_of_ble_eq_true rfl, Nat.le_of_ble_eq_true rfl⟩ rfl t0 (by decide) rfl rfl hl.1 rfl (gx_room0 (n := 4) (Nat.le_of_ble_eq_true rfl)) dX9_settle_50 ⟨Nat.le_of_ble_eq_true rfl, Nat.le_of_ble_eq_true rfl⟩) hW (fun S8 H locs hW hm hw => ?_)
      have t0 := hm _ _ t0
      have ta1 := hm _ _ ta1
      have ta2 := hm _ _ ta2
      refine lv_goto (tgt := 69) hx hb dX9_settle_53 (by decide) ?_
      exact gx_vret C hW (Nat.le_of_ble_eq_true rfl) (Nat.le_of_ble_eq_true rfl) hw dX9_settle_69
    · have hw := w_f hw c6
      by_cases c9 : (fI S0 449 a2) = (30 : Int32)
      · have hw := w_t hw c9
        refine lv_lookup (off := 49) (tgt := 56) hx hb dX9_settle_7 (by decide) (by rw [c9]; rfl) (by decide) ?_
        refine gx_aload_n hx hb dX9_settle_56 rfl (lv_at hl 0 rfl) ?_
        refine gx_aload_n hx hb dX9_settle_57 rfl (lv_at hl 1 rfl) ?_
        refine gx_cv (gx_rV C hW M9_195 (mX9_leaveBlock l D cy _ _ _ _ t0 hw) rfl rfl ⟨Nat.le_of_ble_eq_true rfl, Nat.le_of_ble_eq_true rfl⟩ rfl t0 (by decide) rfl rfl hl.1 rfl (gx_room0 (n := 4) (Nat.le_of_ble_eq_true rfl)) dX9_settle_58 ⟨Nat.le_of_ble_eq_true rfl, Nat.le_of_ble_eq_true rfl⟩) hW (fun S11 H locs hW hm hw => ?_)
        have t0 := hm _ _ t0
        have ta1 := hm _ _ ta1
        have ta2 := hm _ _ ta2
        refine lv_goto (tgt := 69) hx hb dX9_settle_61 (by decide) ?_
        exact gx_vret C hW (Nat.le_of_ble_eq_true rfl) (Nat.le_of_ble_eq_true rfl) hw dX9_settle_69
      · have hw := w_f hw c9
        refine lv_lookup (off := 57) (tgt := 64) hx hb dX9_settle_7 (by decide) (by show Op.lookupswitch.offset [(25, 33), (29, 41), (30, 49)] 57 _ = 57; simp only [Op.lookupswitch.offset, if_neg (tb_nei (z := 25) c3 (by decide)), if_neg (tb_nei (z := 29) c6 (by decide)), if_neg (tb_nei (z := 30) c9 (by decide))]) (by decide) ?_
        refine gx_aload_n hx hb dX9_settle_64 rfl (lv_at hl 0 rfl) ?_
        refine gx_aload_n hx hb dX9_settle_65 rfl (lv_at hl 1 rfl) ?_
        refine gx_cv (gx_rV C hW M9_204 (mX9_settleRoutine l D cy _ _ _ _ t0 hw) rfl rfl ⟨Nat.le_of_ble_eq_true rfl, Nat.le_of_ble_eq_true rfl⟩ rfl t0 (by decide) rfl rfl hl.1 rfl (gx_room0 (n := 4) (Nat.le_of_ble_eq_true rfl)) dX9_settle_66 ⟨Nat.le_of_ble_eq_true rfl, Nat.le_of_ble_eq_true rfl⟩) hW (fun S13 H locs hW hm hw => ?_)
        have t0 := hm _ _ t0
        have ta1 := hm _ _ ta1
        have ta2 := hm _ _ ta2
        exact gx_vret C hW (Nat.le_of_ble_eq_true rfl) (Nat.le_of_ble_eq_true rfl) hw dX9_settle_69
/-! TrialStair$Worker.fail -/
def wX9_fail (x0 : Nat) (x1 : Int32) (x2 : Option Nat) (S0 : Sg) (Q : Sg → Prop) : Prop := ∀ S2 : Sg, S2 = nw S0 1 0 → wX0_init (sz S0) x1 x2 S2 (fun (S4 : Sg) => ∀ S5 : Sg, S5 = sFR S4 586 x0 (some (sz S0)) → ∀ S6 : Sg, S6 = sFI S5 584 x0 (2 : Int32) → Q S6)
set_option maxHeartbeats 4000000 in
set_option maxRecDepth 100000 in
theorem mX9_fail (l : Launch) (D : va_G) (cy : Nat → ClassId) (x0 : Nat) (x1 : Int32) (x2 : Option Nat) (S0 : Sg) (Q : Sg → Prop) (t0 : tg S0 x0 = 10) (hw : wX9_fail x0 x1 x2 S0 Q) : Met l yX9_fail (.code yX9_fail cX9_fail 3 none :: wsL_law) { frames := 2, cells := 1, slots := 2, locals := 42 } (gPc D cy [va_rf (some x0), .int x1, va_rf x2] S0) (va_Qv Q (gB D cy S0) (gA S0)) 1 2 (gA S0) := by
  refine gx_met (by decide) (by simp [lg_sl, va_rf_cat, cat_i, cat_l]) ?_
  intro p e s m args below meth c ls C hW hl
  have hx := C.1
  have hb := C.2.1
  have hl : lv_has ls 3 [(0, va_rf (some x0)), (1, .int x1), (2, va_rf x2)] := by simpa [lv_args, va_rf_cat, cat_i, cat_l] using hl
  unfold wX9_fail at hw
  refine gx_aload_n hx hb dX9_fail_0 rfl (lv_at hl 0 rfl) ?_
  refine gx_new C hW N9_130 (Nat.le_of_ble_eq_true rfl) (Nat.le_of_ble_eq_true rfl) dX9_fail_1 (fun H S2 eS2 hW hm t1 => ?_)
  have hw := hw S2 eS2
  have t0 := hm _ _ t0
  refine lv_dup hx hb dX9_fail_4 (va_rf_cat _) ?_
  refine lv_iload_n hx hb dX9_fail_5 rfl (lv_at hl 1 rfl) ?_
  refine gx_aload_n hx hb dX9_fail_6 rfl (lv_at hl 2 rfl) ?_
  refine gx_cv (gx_rI C hW M9_132 (mX0_init l D cy _ _ _ _ _ t1 hw) rfl rfl ⟨Nat.le_of_ble_eq_true rfl, Nat.le_of_ble_eq_true rfl⟩ rfl rfl hl.1 rfl (gx_room0 (n := 4) (Nat.le_of_ble_eq_true rfl)) dX9_fail_7 ⟨Nat.le_of_ble_eq_true rfl, Nat.le_of_ble_eq_true rfl⟩) hW (fun S4 H locs hW hm hw => ?_)
  have t0 := hm _ _ t0
  have t1 := hm _ _ t1
  refine gx_putR (k := 586) C hW F9_134 (Or.inl rfl) rfl rfl t0 rfl dX9_fail_10 (fun H locs S5 eS5 hW hm => ?_)
  have hw := hw S5 eS5
  have t0 := hm _ _ t0
  have t1 := hm _ _ t1
  refine gx_aload_n hx hb dX9_fail_13 rfl (lv_at hl 0 rfl) ?_
  refine lv_iconst (v := 2) hx hb dX9_fail_14 (by decide) ?_
  refine gx_putI (k := 584) C hW F9_67 (Or.inl rfl) rfl t0 rfl rfl rfl dX9_fail_15 (fun H locs S6 eS6 hW hm => ?_)
  have hw := hw S6 eS6
  have t0 := hm _ _ t0
  have t1 := hm _ _ t1
  exact gx_vret C hW (Nat.le_of_ble_eq_true rfl) (Nat.le_of_ble_eq_true rfl) hw dX9_fail_18
/-! TrialStair$Worker.failureAtWork -/
def wX9_failureAtWork_b5 : Nat → (Nat) → (Option Nat) → Sg → (Option Nat → Sg → Prop) → Prop
  | 0, _, _, _, _ => False
  | fu + 1, x0, x1, S, Q => (if x1 = none then Q none S else ∃ a3 : Nat, x1 = some a3 ∧ tg S a3 = 2 ∧ (if (fI S 68 a3) = (1 : Int32) then Q (fR S 69 a3) S else ∀ y5 : Option Nat, y5 = (fR S 65 a3) → wX9_failureAtWork_b5 fu x0 y5 S Q))
def wX9_failureAtWork (x0 : Nat) (S0 : Sg) (Q : Option Nat → Sg → Prop) : Prop := ∀ y1 : Option Nat, y1 = (fR S0 580 x0) → ∃ fu6 : Nat, wX9_failureAtWork_b5 fu6 x0 y1 S0 Q
set_option maxHeartbeats 4000000 in
set_option maxRecDepth 100000 in
theorem kX9_failureAtWork_l5 {p : Program} {l : Launch} {e : Env} {s : State} {m : MethodId} {args : Array Value} {below : List Frame} {meth : Method} {c : Code} {D : va_G} {cy : Nat → ClassId} {S0 : Sg} (C : gC p s m args meth c D cy cX9_failureAtWork 2 yX9_failureAtWork.cls (some (.object "TrialStair$Failure")) yX9_failureAtWork.name) {x0 : Nat} {Q : Option Nat → Sg → Prop} : ∀ (fu : Nat) (x1 : Option Nat) (S : Sg) (H : Heap) (locs : List Loc) (ls : Array Slot) (hW : gW D cy (gA S0) (tg S0) s.heap S H locs) (t0 : tg S x0 = 10) (hl : lv_has ls 2 [(0, va_rf (some x0)), (1, va_rf x1)]) (hw : wX9_failureAtWork_b5 fu x0 x1 S Q), W p l e { frames := 0, cells := 0, slots := 0, locals := 0 } s m args below meth c H locs 0 0 (MQ below (va_Qq Q (gB D cy S0) (gA S0)) args s 0 0 (gA S0)) (F0 m 5 ls []) := by
  have hx := C.1
  have hb := C.2.1
  intro fu
  induction fu with
  | zero =>
    intro x1 S H locs ls hW t0 hl hw
    unfold wX9_failureAtWork_b5 at hw
    exact hw.elim
  | succ fu ih =>
    intro x1 S H locs ls hW t0 hl hw
    unfold wX9_failureAtWork_b5 at hw
    refine gx_aload_n hx hb dX9_failureAtWork_5 rfl (lv_at hl 1 rfl) ?_
    refine gx_ifnull (tgt := 30) hx hb dX9_failureAtWork_6 (by decide) (fun c2 => ?_) (fun c2 => ?_)
    · have hw := w_t hw c2
      refine gx_null hx hb dX9_failureAtWork_30 ?_
      exact gx_aret C hW (Nat.le_of_ble_eq_true rfl) (Nat.le_of_ble_eq_true rfl) hw dX9_failureAtWork_31
    · have hw := w_f hw c2
      refine gx_aload_n hx hb dX9_failureAtWork_9 rfl (lv_at hl 1 rfl) ?_
      obtain ⟨a3, ha3, ta3, hw⟩ := hw
      refine gx_getI C hW F9_138 (k := 68) ha3 ta3 rfl dX9_failureAtWork_10 ?_
      refine lv_iconst (v := 1) hx hb dX9_failureAtWork_13 (by decide) ?_
      refine lv_icmp_ne (tgt := 22) hx hb dX9_failureAtWork_14 (by decide) (fun c4 => ?_) (fun c4 => ?_)
      · have hw := w_f hw c4
        refine gx_aload_n hx hb dX9_failureAtWork_22 rfl (lv_at hl 1 rfl) ?_
        refine gx_getR C hW F9_144 (k := 65) ha3 ta3 rfl dX9_failureAtWork_23 ?_
        refine gx_topr (fun y5 ey5 => ?_)
        have hw := hw y5 ey5
        refine gx_astore_n (i := 1) (lv' := [(1, va_rf y5), (0, va_rf (some x0))]) hx hb dX9_failureAtWork_26 rfl hl (by decide) rfl (fun ls hl => ?_)
        refine lv_goto (tgt := 5) hx hb dX9_failureAtWork_27 (by decide) ?_
        exact ih _ _ _ _ _ hW t0 (lv_sub hl [1, 0] rfl) hw
      · have hw := w_t hw c4
        refine gx_aload_n hx hb dX9_failureAtWork_17 rfl (lv_at hl 1 rfl) ?_
        refine gx_getR C hW F9_141 (k := 69) ha3 ta3 rfl dX9_failureAtWork_18 ?_
        exact gx_aret C hW (Nat.le_of_ble_eq_true rfl) (Nat.le_of_ble_eq_true rfl) hw dX9_failureAtWork_21
theorem kX9_failureAtWork_b5 {p : Program} {l : Launch} {e : Env} {s : State} {m : MethodId} {args : Array Value} {below : List Frame} {meth : Method} {c : Code} {D : va_G} {cy : Nat → ClassId} {S0 : Sg} (C : gC p s m args meth c D cy cX9_failureAtWork 2 yX9_failureAtWork.cls (some (.object "TrialStair$Failure")) yX9_failureAtWork.name) {H : Heap} {locs : List Loc} {ls : Array Slot} {x0 : Nat} {x1 : Option Nat} {S : Sg} {Q : Option Nat → Sg → Prop} (fu : Nat) (hW : gW D cy (gA S0) (tg S0) s.heap S H locs) (t0 : tg S x0 = 10) (hl : lv_has ls 2 [(0, va_rf (some x0)), (1, va_rf x1)]) (hw : wX9_failureAtWork_b5 fu x0 x1 S Q) : W p l e { frames := 0, cells := 0, slots := 0, locals := 0 } s m args below meth c H locs 0 0 (MQ below (va_Qq Q (gB D cy S0) (gA S0)) args s 0 0 (gA S0)) (F0 m 5 ls []) := kX9_failureAtWork_l5 C fu _ _ _ _ _ hW t0 hl hw
set_option maxHeartbeats 4000000 in
set_option maxRecDepth 100000 in
theorem mX9_failureAtWork (l : Launch) (D : va_G) (cy : Nat → ClassId) (x0 : Nat) (S0 : Sg) (Q : Option Nat → Sg → Prop) (t0 : tg S0 x0 = 10) (hw : wX9_failureAtWork x0 S0 Q) : Met l yX9_failureAtWork (.code yX9_failureAtWork cX9_failureAtWork 2 (some (.object "TrialStair$Failure")) :: wsL_law) { frames := 0, cells := 0, slots := 0, locals := 0 } (gPc D cy [va_rf (some x0)] S0) (va_Qq Q (gB D cy S0) (gA S0)) 0 0 (gA S0) := by
  refine gx_met (by decide) (Nat.le_of_ble_eq_true rfl) ?_
  intro p e s m args below meth c ls C hW hl
  have hx := C.1
  have hb := C.2.1
  have hl : lv_has ls 2 [(0, va_rf (some x0))] := hl
  unfold wX9_failureAtWork at hw
  refine gx_aload_n hx hb dX9_failureAtWork_0 rfl (lv_at hl 0 rfl) ?_
  refine gx_getR C hW F9_44 (k := 580) rfl t0 rfl dX9_failureAtWork_1 ?_
  refine gx_topr (fun y1 ey1 => ?_)
  have hw := hw y1 ey1
  refine gx_astore_n (i := 1) (lv' := [(1, va_rf y1), (0, va_rf (some x0))]) hx hb dX9_failureAtWork_4 rfl hl (by decide) rfl (fun ls hl => ?_)
  obtain ⟨fu6, hw⟩ := hw
  exact kX9_failureAtWork_b5 C fu6 hW t0 (lv_sub hl [1, 0] rfl) hw
/-! TrialStair$Worker.beginBlock -/
def wX9_beginBlock (x0 : Nat) (x1 : Option Nat) (x2 : Option Nat) (S0 : Sg) (Q : Sg → Prop) : Prop := ∀ S2 : Sg, S2 = nw S0 2 0 → ∃ a3 : Nat, x1 = some a3 ∧ tg S2 a3 = 2 ∧ wX1_init (sz S0) x2 x1 (fI S2 66 a3) S2 (fun (S5 : Sg) => ∀ y6 : Option Nat, y6 = (some (sz S0)) → wX1_bodyEnd (sz S0)  S5 (fun (r7 : Int32) (S8 : Sg) => ∀ S9 : Sg, S9 = sFI S8 67 (sz S0) r7 → ∃ a10 : Nat, x2 = some a10 ∧ tg S9 a10 = 8 ∧ wX9_enter x0 y6 ((fI S9 448 a10) + (1 : Int32)) S9 (fun (r11 : Int32) (S12 : Sg) => (if r11 = 0 then Q S12 else (if (fI S12 449 a10) = (29 : Int32) then wX9_look x0 y6 S12 (fun (S25 : Sg) => Q S25) else (if (fI S12 449 a10) = (30 : Int32) then ∃ a16 : Nat, (fR S12 577 x0) = some a16 ∧ tg S12 a16 = 4 ∧ wX3_numberOf a16 (fI S12 450 a10) S12 (fun (r17 : Int64) (S18 : Sg) => ∃ a19 : Nat, (fR S18 577 x0) = some a19 ∧ tg S18 a19 = 4 ∧ wX3_numberOf a19 (fI S18 451 a10) S18 (fun (r20 : Int64) (S21 : Sg) => (if (lg_cmp r17 r20) < 0 then Q S21 else ∀ S23 : Sg, S23 = sFI S21 584 x0 (1 : Int32) → Q S23))) else Q S12))))))
set_option maxHeartbeats 4000000 in
set_option maxRecDepth 100000 in
theorem mX9_beginBlock (l : Launch) (D : va_G) (cy : Nat → ClassId) (x0 : Nat) (x1 : Option Nat) (x2 : Option Nat) (S0 : Sg) (Q : Sg → Prop) (t0 : tg S0 x0 = 10) (hw : wX9_beginBlock x0 x1 x2 S0 Q) : Met l yX9_beginBlock (.code yX9_beginBlock cX9_beginBlock 4 none :: wsL_law) { frames := 3, cells := 1, slots := 9, locals := 65 } (gPc D cy [va_rf (some x0), va_rf x1, va_rf x2] S0) (va_Qv Q (gB D cy S0) (gA S0)) 1 9 (gA S0) := by
  refine gx_met (by decide) (by simp [lg_sl, va_rf_cat, cat_i, cat_l]) ?_
  intro p e s m args below meth c ls C hW hl
  have hx := C.1
  have hb := C.2.1
  have hl : lv_has ls 4 [(0, va_rf (some x0)), (1, va_rf x1), (2, va_rf x2)] := by simpa [lv_args, va_rf_cat, cat_i, cat_l] using hl
  unfold wX9_beginBlock at hw
  refine gx_new C hW N9_57 (Nat.le_of_ble_eq_true rfl) (Nat.le_of_ble_eq_true rfl) dX9_beginBlock_0 (fun H S2 eS2 hW hm t1 => ?_)
  have hw := hw S2 eS2
  have t0 := hm _ _ t0
  refine lv_dup hx hb dX9_beginBlock_3 (va_rf_cat _) ?_
  refine gx_aload_n hx hb dX9_beginBlock_4 rfl (lv_at hl 2 rfl) ?_
  refine gx_aload_n hx hb dX9_beginBlock_5 rfl (lv_at hl 1 rfl) ?_
  refine gx_aload_n hx hb dX9_beginBlock_6 rfl (lv_at hl 1 rfl) ?_
  obtain ⟨a3, ha3, ta3, hw⟩ := hw
  refine gx_getI C hW F9_165 (k := 66) ha3 ta3 rfl dX9_beginBlock_7 ?_
  refine gx_cv (gx_rI C hW M9_155 (mX1_init l D cy _ _ _ _ _ _ t1 hw) rfl rfl ⟨Nat.le_of_ble_eq_true rfl, Nat.le_of_ble_eq_true rfl⟩ rfl rfl hl.1 rfl (gx_room0 (n := 4) (Nat.le_of_ble_eq_true rfl)) dX9_beginBlock_10 ⟨Nat.le_of_ble_eq_true rfl, Nat.le_of_ble_eq_true rfl⟩) hW (fun S5 H locs hW hm hw => ?_)
  have t0 := hm _ _ t0
  have t1 := hm _ _ t1
  have ta3 := hm _ _ ta3
  refine gx_topr (fun y6 ey6 => ?_)
  have hw := hw y6 ey6
  refine gx_astore_n (i := 3) (lv' := [(3, va_rf y6), (0, va_rf (some x0)), (1, va_rf x1), (2, va_rf x2)]) hx hb dX9_beginBlock_13 rfl hl (by decide) (by simp [List.filter, va_rf_cat, cat_i, cat_l]) (fun ls hl => ?_)
  refine gx_aload_n hx hb dX9_beginBlock_14 rfl (lv_at hl 0 rfl) ?_
  refine gx_aload_n hx hb dX9_beginBlock_15 rfl (lv_at hl 0 rfl) ?_
  refine gx_ci (gx_rV C hW M9_168 (mX1_bodyEnd l D cy _ _ _ t1 hw) rfl rfl ⟨Nat.le_of_ble_eq_true rfl, Nat.le_of_ble_eq_true rfl⟩ ey6 t1 (by decide) rfl rfl hl.1 rfl (gx_room0 (n := 4) (Nat.le_of_ble_eq_true rfl)) dX9_beginBlock_16 ⟨Nat.le_of_ble_eq_true rfl, Nat.le_of_ble_eq_true rfl⟩) hW (fun r7 S8 H locs hW hm hw => ?_)
  have t0 := hm _ _ t0
  have t1 := hm _ _ t1
  have ta3 := hm _ _ ta3
  refine gx_putI (k := 67) C hW F9_56 (Or.inl rfl) ey6 t1 rfl rfl rfl dX9_beginBlock_19 (fun H locs S9 eS9 hW hm => ?_)
  have hw := hw S9 eS9
  have t0 := hm _ _ t0
  have t1 := hm _ _ t1
  have ta3 := hm _ _ ta3
  refine gx_aload_n hx hb dX9_beginBlock_22 rfl (lv_at hl 1 rfl) ?_
  refine gx_aload_n hx hb dX9_beginBlock_23 rfl (lv_at hl 0 rfl) ?_
  refine gx_aload_n hx hb dX9_beginBlock_24 rfl (lv_at hl 3 rfl) ?_
  obtain ⟨a10, ha10, ta10, hw⟩ := hw
  refine gx_getI C hW F9_172 (k := 448) ha10 ta10 rfl dX9_beginBlock_25 ?_
  refine lv_iconst (v := 1) hx hb dX9_beginBlock_28 (by decide) ?_
  refine lv_iadd hx hb dX9_beginBlock_29 ?_
  refine gx_ci (gx_rV C hW M9_161 (mX9_enter l D cy _ _ _ _ _ t0 hw) rfl rfl ⟨Nat.le_of_ble_eq_true rfl, Nat.le_of_ble_eq_true rfl⟩ rfl t0 (by decide) rfl rfl hl.1 rfl (gx_room0 (n := 4) (Nat.le_of_ble_eq_true rfl)) dX9_beginBlock_30 ⟨Nat.le_of_ble_eq_true rfl, Nat.le_of_ble_eq_true rfl⟩) hW (fun r11 S12 H locs hW hm hw => ?_)
  have t0 := hm _ _ t0
  have t1 := hm _ _ t1
  have ta3 := hm _ _ ta3
  have ta10 := hm _ _ ta10
  refine lv_if_ne (tgt := 37) hx hb dX9_beginBlock_33 (by decide) (fun c13 => ?_) (fun c13 => ?_)
  · have hw := w_f hw c13
    refine gx_aload_n hx hb dX9_beginBlock_37 rfl (lv_at hl 3 rfl) ?_
    refine gx_getI C hW F9_89 (k := 449) ha10 ta10 rfl dX9_beginBlock_38 ?_
    refine lv_bipush (v := 29) hx hb dX9_beginBlock_41 (by decide) ?_
    refine lv_icmp_ne (tgt := 54) hx hb dX9_beginBlock_43 (by decide) (fun c14 => ?_) (fun c14 => ?_)
    · have hw := w_f hw c14
      refine gx_aload_n hx hb dX9_beginBlock_54 rfl (lv_at hl 3 rfl) ?_
      refine gx_getI C hW F9_89 (k := 449) ha10 ta10 rfl dX9_beginBlock_55 ?_
      refine lv_bipush (v := 30) hx hb dX9_beginBlock_58 (by decide) ?_
      refine lv_icmp_ne (tgt := 94) hx hb dX9_beginBlock_60 (by decide) (fun c15 => ?_) (fun c15 => ?_)
      · have hw := w_f hw c15
        exact gx_vret C hW (Nat.le_of_ble_eq_true rfl) (Nat.le_of_ble_eq_true rfl) hw dX9_beginBlock_94
      · have hw := w_t hw c15
        refine gx_aload_n hx hb dX9_beginBlock_63 rfl (lv_at hl 1 rfl) ?_
        refine gx_getR C hW F9_24 (k := 577) rfl t0 rfl dX9_beginBlock_64 ?_
        refine gx_aload_n hx hb dX9_beginBlock_67 rfl (lv_at hl 3 rfl) ?_
        refine gx_getI C hW F9_92 (k := 450) ha10 ta10 rfl dX9_beginBlock_68 ?_
        obtain ⟨a16, ha16, ta16, hw⟩ := hw
        refine gx_cl (gx_rV C hW M9_95 (mX3_numberOf l D cy _ _ _ _ ta16 hw) rfl rfl ⟨Nat.le_of_ble_eq_true rfl, Nat.le_of_ble_eq_true rfl⟩ ha16 ta16 (by decide) rfl rfl hl.1 rfl (gx_room0 (n := 4) (Nat.le_of_ble_eq_true rfl)) dX9_beginBlock_71 ⟨Nat.le_of_ble_eq_true rfl, Nat.le_of_ble_eq_true rfl⟩) hW (fun r17 S18 H locs hW hm hw => ?_)
        have t0 := hm _ _ t0
        have t1 := hm _ _ t1
        have ta3 := hm _ _ ta3
        have ta10 := hm _ _ ta10
        have ta16 := hm _ _ ta16
        refine gx_aload_n hx hb dX9_beginBlock_74 rfl (lv_at hl 1 rfl) ?_
        refine gx_getR C hW F9_24 (k := 577) rfl t0 rfl dX9_beginBlock_75 ?_
        refine gx_aload_n hx hb dX9_beginBlock_78 rfl (lv_at hl 3 rfl) ?_
        refine gx_getI C hW F9_176 (k := 451) ha10 ta10 rfl dX9_beginBlock_79 ?_
        obtain ⟨a19, ha19, ta19, hw⟩ := hw
        refine gx_cl (gx_rV C hW M9_95 (mX3_numberOf l D cy _ _ _ _ ta19 hw) rfl rfl ⟨Nat.le_of_ble_eq_true rfl, Nat.le_of_ble_eq_true rfl⟩ ha19 ta19 (by decide) rfl rfl hl.1 rfl (gx_room0 (n := 4) (Nat.le_of_ble_eq_true rfl)) dX9_beginBlock_82 ⟨Nat.le_of_ble_eq_true rfl, Nat.le_of_ble_eq_true rfl⟩) hW (fun r20 S21 H locs hW hm hw => ?_)
        have t0 := hm _ _ t0
        have t1 := hm _ _ t1
        have ta3 := hm _ _ ta3
        have ta10 := hm _ _ ta10
        have ta16 := hm _ _ ta16
        have ta19 := hm _ _ ta19
        refine W.lcmp hx hb dX9_beginBlock_85 ?_
        refine lv_if_lt (tgt := 94) hx hb dX9_beginBlock_86 (by decide) (fun c22 => ?_) (fun c22 => ?_)
        · have hw := w_t hw c22
          exact gx_vret C hW (Nat.le_of_ble_eq_true rfl) (Nat.le_of_ble_eq_true rfl) hw dX9_beginBlock_94
        · have hw := w_f hw c22
          refine gx_aload_n hx hb dX9_beginBlock_89 rfl (lv_at hl 1 rfl) ?_
          refine lv_iconst (v := 1) hx hb dX9_beginBlock_90 (by decide) ?_
          refine gx_putI (k := 584) C hW F9_67 (Or.inl rfl) rfl t0 rfl rfl rfl dX9_beginBlock_91 (fun H locs S23 eS23 hW hm => ?_)
          have hw := hw S23 eS23
          have t0 := hm _ _ t0
          have t1 := hm _ _ t1
          have ta3 := hm _ _ ta3
          have ta10 := hm _ _ ta10
          have ta16 := hm _ _ ta16
          have ta19 := hm _ _ ta19
          exact gx_vret C hW (Nat.le_of_ble_eq_true rfl) (Nat.le_of_ble_eq_true rfl) hw dX9_beginBlock_94
    · have hw := w_t hw c14
      refine gx_aload_n hx hb dX9_beginBlock_46 rfl (lv_at hl 1 rfl) ?_
      refine gx_aload_n hx hb dX9_beginBlock_47 rfl (lv_at hl 0 rfl) ?_
      refine gx_cv (gx_rV C hW M9_173 (mX9_look l D cy _ _ _ _ t0 hw) rfl rfl ⟨Nat.le_of_ble_eq_true rfl, Nat.le_of_ble_eq_true rfl⟩ rfl t0 (by decide) rfl rfl hl.1 rfl (gx_room0 (n := 4) (Nat.le_of_ble_eq_true rfl)) dX9_beginBlock_48 ⟨Nat.le_of_ble_eq_true rfl, Nat.le_of_ble_eq_true rfl⟩) hW (fun S25 H locs hW hm hw => ?_)
      have t0 := hm _ _ t0
      have t1 := hm _ _ t1
      have ta3 := hm _ _ ta3
      have ta10 := hm _ _ ta10
      refine lv_goto (tgt := 94) hx hb dX9_beginBlock_51 (by decide) ?_
      exact gx_vret C hW (Nat.le_of_ble_eq_true rfl) (Nat.le_of_ble_eq_true rfl) hw dX9_beginBlock_94
  · have hw := w_t hw c13
    exact gx_vret C hW (Nat.le_of_ble_eq_true rfl) (Nat.le_of_ble_eq_true rfl) hw dX9_beginBlock_36
/-! TrialStair$Worker.callRoutine -/
def wX9_callRoutine (x0 : Nat) (x1 : Option Nat) (S0 : Sg) (Q : Sg → Prop) : Prop := ∃ a1 : Nat, x1 = some a1 ∧ tg S0 a1 = 8 ∧ ∃ a2 : Nat, (fR S0 576 x0) = some a2 ∧ tg S0 a2 = 7 ∧ wX6_hasRoutine a2 (fI S0 450 a1) S0 (fun (r3 : Int32) (S4 : Sg) => (if r3 = 0 then wX9_fail x0 (6 : Int32) none S4 (fun (S7 : Sg) => Q S7) else wX9_enterRoutine x0 (fI S4 450 a1) x1 S4 (fun (S9 : Sg) => Q S9)))
set_option maxHeartbeats 4000000 in
set_option maxRecDepth 100000 in
theorem mX9_callRoutine (l : Launch) (D : va_G) (cy : Nat → ClassId) (x0 : Nat) (x1 : Option Nat) (S0 : Sg) (Q : Sg → Prop) (t0 : tg S0 x0 = 10) (hw : wX9_callRoutine x0 x1 S0 Q) : Met l yX9_callRoutine (.code yX9_callRoutine cX9_callRoutine 2 none :: wsL_law) { frames := 3, cells := 1, slots := 9, locals := 65 } (gPc D cy [va_rf (some x0), va_rf x1] S0) (va_Qv Q (gB D cy S0) (gA S0)) 1 9 (gA S0) := by
  refine gx_met (by decide) (by simp [lg_sl, va_rf_cat, cat_i, cat_l]) ?_
  intro p e s m args below meth c ls C hW hl
  have hx := C.1
  have hb := C.2.1
  have hl : lv_has ls 2 [(0, va_rf (some x0)), (1, va_rf x1)] := by simpa [lv_args, va_rf_cat, cat_i, cat_l] using hl
  unfold wX9_callRoutine at hw
  refine gx_aload_n hx hb dX9_callRoutine_0 rfl (lv_at hl 0 rfl) ?_
  refine gx_getR C hW F9_20 (k := 576) rfl t0 rfl dX9_callRoutine_1 ?_
  refine gx_aload_n hx hb dX9_callRoutine_4 rfl (lv_at hl 1 rfl) ?_
  obtain ⟨a1, ha1, ta1, hw⟩ := hw
  refine gx_getI C hW F9_92 (k := 450) ha1 ta1 rfl dX9_callRoutine_5 ?_
  obtain ⟨a2, ha2, ta2, hw⟩ := hw
  refine gx_ci (gx_rV C hW M9_147 (mX6_hasRoutine l D cy _ _ _ _ ta2 hw) rfl rfl ⟨Nat.le_of_ble_eq_true rfl, Nat.le_of_ble_eq_true rfl⟩ ha2 ta2 (by decide) rfl rfl hl.1 rfl (gx_room0 (n := 4) (Nat.le_of_ble_eq_true rfl)) dX9_callRoutine_8 ⟨Nat.le_of_ble_eq_true rfl, Nat.le_of_ble_eq_true rfl⟩) hW (fun r3 S4 H locs hW hm hw => ?_)
  have t0 := hm _ _ t0
  have ta1 := hm _ _ ta1
  have ta2 := hm _ _ ta2
  refine lv_if_eq (tgt := 26) hx hb dX9_callRoutine_11 (by decide) (fun c5 => ?_) (fun c5 => ?_)
  · have hw := w_t hw c5
    refine gx_aload_n hx hb dX9_callRoutine_26 rfl (lv_at hl 0 rfl) ?_
    refine lv_bipush (v := 6) hx hb dX9_callRoutine_27 (by decide) ?_
    refine gx_null hx hb dX9_callRoutine_29 ?_
    refine gx_cv (gx_rV C hW M9_105 (mX9_fail l D cy _ _ _ _ _ t0 hw) rfl rfl ⟨Nat.le_of_ble_eq_true rfl, Nat.le_of_ble_eq_true rfl⟩ rfl t0 (by decide) rfl rfl hl.1 rfl (gx_room0 (n := 4) (Nat.le_of_ble_eq_true rfl)) dX9_callRoutine_30 ⟨Nat.le_of_ble_eq_true rfl, Nat.le_of_ble_eq_true rfl⟩) hW (fun S7 H locs hW hm hw => ?_)
    have t0 := hm _ _ t0
    have ta1 := hm _ _ ta1
    have ta2 := hm _ _ ta2
    exact gx_vret C hW (Nat.le_of_ble_eq_true rfl) (Nat.le_of_ble_eq_true rfl) hw dX9_callRoutine_33
  · have hw := w_f hw c5
    refine gx_aload_n hx hb dX9_callRoutine_14 rfl (lv_at hl 0 rfl) ?_
    refine gx_aload_n hx hb dX9_callRoutine_15 rfl (lv_at hl 1 rfl) ?_
    refine gx_getI C hW F9_92 (k := 450) ha1 ta1 rfl dX9_callRoutine_16 ?_
    refine gx_aload_n hx hb dX9_callRoutine_19 rfl (lv_at hl 1 rfl) ?_
    refine gx_cv (gx_rV C hW M9_48 (mX9_enterRoutine l D cy _ _ _ _ _ t0 hw) rfl rfl ⟨Nat.le_of_ble_eq_true rfl, Nat.le_of_ble_eq_true rfl⟩ rfl t0 (by decide) rfl rfl hl.1 rfl (gx_room0 (n := 4) (Nat.le_of_ble_eq_true rfl)) dX9_callRoutine_20 ⟨Nat.le_of_ble_eq_true rfl, Nat.le_of_ble_eq_true rfl⟩) hW (fun S9 H locs hW hm hw => ?_)
    have t0 := hm _ _ t0
    have ta1 := hm _ _ ta1
    have ta2 := hm _ _ ta2
    refine lv_goto (tgt := 33) hx hb dX9_callRoutine_23 (by decide) ?_
    exact gx_vret C hW (Nat.le_of_ble_eq_true rfl) (Nat.le_of_ble_eq_true rfl) hw dX9_callRoutine_33
/-! TrialStair$Worker.goBehind -/
def wX9_goBehind (x0 : Nat) (x1 : Int32) (S0 : Sg) (Q : Sg → Prop) : Prop := (if x1 = (-1 : Int32) then ∀ S4 : Sg, S4 = sFI S0 582 x0 ((fI S0 582 x0) + (1 : Int32)) → Q S4 else wX9_fail x0 x1 none S0 (fun (S3 : Sg) => Q S3))
set_option maxHeartbeats 4000000 in
set_option maxRecDepth 100000 in
theorem mX9_goBehind (l : Launch) (D : va_G) (cy : Nat → ClassId) (x0 : Nat) (x1 : Int32) (S0 : Sg) (Q : Sg → Prop) (t0 : tg S0 x0 = 10) (hw : wX9_goBehind x0 x1 S0 Q) : Met l yX9_goBehind (.code yX9_goBehind cX9_goBehind 2 none :: wsL_law) { frames := 3, cells := 1, slots := 2, locals := 64 } (gPc D cy [va_rf (some x0), .int x1] S0) (va_Qv Q (gB D cy S0) (gA S0)) 1 2 (gA S0) := by
  refine gx_met (by decide) (Nat.le_of_ble_eq_true rfl) ?_
  intro p e s m args below meth c ls C hW hl
  have hx := C.1
  have hb := C.2.1
  have hl : lv_has ls 2 [(0, va_rf (some x0)), (1, .int x1)] := hl
  unfold wX9_goBehind at hw
  refine lv_iload_n hx hb dX9_goBehind_0 rfl (lv_at hl 1 rfl) ?_
  refine lv_iconst (v := -1) hx hb dX9_goBehind_1 (by decide) ?_
  refine lv_icmp_ne (tgt := 18) hx hb dX9_goBehind_2 (by decide) (fun c1 => ?_) (fun c1 => ?_)
  · have hw := w_f hw c1
    refine gx_aload_n hx hb dX9_goBehind_18 rfl (lv_at hl 0 rfl) ?_
    refine lv_iload_n hx hb dX9_goBehind_19 rfl (lv_at hl 1 rfl) ?_
    refine gx_null hx hb dX9_goBehind_20 ?_
    refine gx_cv (gx_rV C hW M9_105 (mX9_fail l D cy _ _ _ _ _ t0 hw) rfl rfl ⟨Nat.le_of_ble_eq_true rfl, Nat.le_of_ble_eq_true rfl⟩ rfl t0 (by decide) rfl rfl hl.1 rfl (gx_room0 (n := 4) (Nat.le_of_ble_eq_true rfl)) dX9_goBehind_21 ⟨Nat.le_of_ble_eq_true rfl, Nat.le_of_ble_eq_true rfl⟩) hW (fun S3 H locs hW hm hw => ?_)
    have t0 := hm _ _ t0
    exact gx_vret C hW (Nat.le_of_ble_eq_true rfl) (Nat.le_of_ble_eq_true rfl) hw dX9_goBehind_24
  · have hw := w_t hw c1
    refine gx_aload_n hx hb dX9_goBehind_5 rfl (lv_at hl 0 rfl) ?_
    refine lv_dup hx hb dX9_goBehind_6 (va_rf_cat _) ?_
    refine gx_getI C hW F9_53 (k := 582) rfl t0 rfl dX9_goBehind_7 ?_
    refine lv_iconst (v := 1) hx hb dX9_goBehind_10 (by decide) ?_
    refine lv_iadd hx hb dX9_goBehind_11 ?_
    refine gx_putI (k := 582) C hW F9_53 (Or.inl rfl) rfl t0 rfl rfl rfl dX9_goBehind_12 (fun H locs S4 eS4 hW hm => ?_)
    have hw := hw S4 eS4
    have t0 := hm _ _ t0
    refine lv_goto (tgt := 24) hx hb dX9_goBehind_15 (by decide) ?_
    exact gx_vret C hW (Nat.le_of_ble_eq_true rfl) (Nat.le_of_ble_eq_true rfl) hw dX9_goBehind_24
/-! TrialStair$Worker.workStep -/
def wX9_workStep (x0 : Nat) (x1 : Option Nat) (x2 : Option Nat) (S0 : Sg) (Q : Sg → Prop) : Prop := ∃ a1 : Nat, x2 = some a1 ∧ tg S0 a1 = 8 ∧ (if (fI S0 449 a1) = 0 then ∃ a3 : Nat, (fR S0 577 x0) = some a3 ∧ tg S0 a3 = 4 ∧ wX3_numberOf a3 (fI S0 450 a1) S0 (fun (r4 : Int64) (S5 : Sg) => ∃ a6 : Nat, (fR S0 578 x0) = some a6 ∧ tg S5 a6 = 5 ∧ wX4_tell a6 r4 S5 (fun (S8 : Sg) => ∀ S9 : Sg, S9 = sFI S8 582 x0 ((fI S8 582 x0) + (1 : Int32)) → Q S9)) else (if (fI S0 449 a1) = 22 then wX9_fail x0 ((fI S0 450 a1) &&& (3 : Int32)) none S0 (fun (S12 : Sg) => Q S12) else (if (fI S0 449 a1) = 23 then wX9_fail x0 (6 : Int32) none S0 (fun (S15 : Sg) => Q S15) else (if (fI S0 449 a1) = 24 then wX9_failureAtWork x0  S0 (fun (r17 : Option Nat) (S18 : Sg) => wX9_fail x0 ((fI S0 450 a1) &&& (3 : Int32)) r17 S18 (fun (S20 : Sg) => Q S20)) else (if (fI S0 449 a1) = 25 then wX9_beginBlock x0 x1 x2 S0 (fun (S23 : Sg) => Q S23) else (if (fI S0 449 a1) = 26 then ∀ S25 : Sg, S25 = sFI S0 582 x0 ((fI S0 582 x0) + (1 : Int32)) → Q S25 else (if (fI S0 449 a1) = 27 then ∀ S27 : Sg, S27 = sFI S0 582 x0 ((fI S0 582 x0) + (1 : Int32)) → Q S27 else (if (fI S0 449 a1) = 28 then ∀ S29 : Sg, S29 = sFI S0 582 x0 ((fI S0 582 x0) + (1 : Int32)) → Q S29 else (if (fI S0 449 a1) = 29 then wX9_beginBlock x0 x1 x2 S0 (fun (S32 : Sg) => Q S32) else (if (fI S0 449 a1) = 30 then wX9_beginBlock x0 x1 x2 S0 (fun (S35 : Sg) => Q S35) else (if (fI S0 449 a1) = 31 then ∀ S37 : Sg, S37 = sFI S0 582 x0 ((fI S0 582 x0) + (1 : Int32)) → Q S37 else (if (fI S0 449 a1) = 32 then ∀ S39 : Sg, S39 = sFI S0 584 x0 (3 : Int32) → Q S39 else (if (fI S0 449 a1) = 33 then ∀ S41 : Sg, S41 = sFI S0 584 x0 (4 : Int32) → Q S41 else (if (fI S0 449 a1) = 34 then ∀ S43 : Sg, S43 = sFI S0 584 x0 (5 : Int32) → ∃ a44 : Nat, (fR S43 577 x0) = some a44 ∧ tg S43 a44 = 4 ∧ wX3_numberOf a44 (fI S43 450 a1) S43 (fun (r45 : Int64) (S46 : Sg) => ∀ S47 : Sg, S47 = sFL S46 585 x0 r45 → Q S47) else (if (fI S0 449 a1) = 35 then wX9_callRoutine x0 x2 S0 (fun (S50 : Sg) => Q S50) else ∃ a51 : Nat, (fR S0 577 x0) = some a51 ∧ tg S0 a51 = 4 ∧ wX3_workStep a51 x2 S0 (fun (r52 : Int32) (S53 : Sg) => wX9_goBehind x0 r52 S53 (fun (S55 : Sg) => Q S55)))))))))))))))))
set_option maxHeartbeats 4000000 in
set_option maxRecDepth 100000 in
theorem mX9_workStep (l : Launch) (D : va_G) (cy : Nat → ClassId) (x0 : Nat) (x1 : Option Nat) (x2 : Option Nat) (S0 : Sg) (Q : Sg → Prop) (t0 : tg S0 x0 = 10) (hw : wX9_workStep x0 x1 x2 S0 Q) : Met l yX9_workStep (.code yX9_workStep cX9_workStep 3 none :: wsL_law) { frames := 5, cells := 4, slots := 70, locals := 108 } (gPc D cy [va_rf (some x0), va_rf x1, va_rf x2] S0) (va_Qv Q (gB D cy S0) (gA S0)) 4 70 (gA S0) := by
  refine gx_met (by decide) (by simp [lg_sl, va_rf_cat, cat_i, cat_l]) ?_
  intro p e s m args below meth c ls C hW hl
  have hx := C.1
  have hb := C.2.1
  have hl : lv_has ls 3 [(0, va_rf (some x0)), (1, va_rf x1), (2, va_rf x2)] := by simpa [lv_args, va_rf_cat, cat_i, cat_l] using hl
  unfold wX9_workStep at hw
  refine gx_aload_n hx hb dX9_workStep_0 rfl (lv_at hl 2 rfl) ?_
  obtain ⟨a1, ha1, ta1, hw⟩ := hw
  refine gx_getI C hW F9_89 (k := 449) ha1 ta1 rfl dX9_workStep_1 ?_
  by_cases c2 : (fI S0 449 a1) = (0 : Int32)
  · have hw := w_t hw c2
    refine lv_tableIn (off := 160) (tgt := 164) hx hb dX9_workStep_4 (by rw [c2]; decide) (by rw [c2]; decide) (by rw [c2]; rfl) (by decide) ?_
    refine gx_aload_n hx hb dX9_workStep_164 rfl (lv_at hl 0 rfl) ?_
    refine gx_getR C hW F9_28 (k := 578) rfl t0 rfl dX9_workStep_165 ?_
    refine gx_aload_n hx hb dX9_workStep_168 rfl (lv_at hl 0 rfl) ?_
    refine gx_getR C hW F9_24 (k := 577) rfl t0 rfl dX9_workStep_169 ?_
    refine gx_aload_n hx hb dX9_workStep_172 rfl (lv_at hl 2 rfl) ?_
    refine gx_getI C hW F9_92 (k := 450) ha1 ta1 rfl dX9_workStep_173 ?_
    obtain ⟨a3, ha3, ta3, hw⟩ := hw
    refine gx_cl (gx_rV C hW M9_95 (mX3_numberOf l D cy _ _ _ _ ta3 hw) rfl rfl ⟨Nat.le_of_ble_eq_true rfl, Nat.le_of_ble_eq_true rfl⟩ ha3 ta3 (by decide) rfl rfl hl.1 rfl (gx_room0 (n := 4) (Nat.le_of_ble_eq_true rfl)) dX9_workStep_176 ⟨Nat.le_of_ble_eq_true rfl, Nat.le_of_ble_eq_true rfl⟩) hW (fun r4 S5 H locs hW hm hw => ?_)
    have t0 := hm _ _ t0
    have ta1 := hm _ _ ta1
    have ta3 := hm _ _ ta3
    obtain ⟨a6, ha6, ta6, hw⟩ := hw
    refine gx_cv (gx_rV C hW M9_101 (mX4_tell l D cy _ _ _ _ ta6 hw) rfl rfl ⟨Nat.le_of_ble_eq_true rfl, Nat.le_of_ble_eq_true rfl⟩ ha6 ta6 (by decide) rfl rfl hl.1 rfl (gx_room0 (n := 4) (Nat.le_of_ble_eq_true rfl)) dX9_workStep_179 ⟨Nat.le_of_ble_eq_true rfl, Nat.le_of_ble_eq_true rfl⟩) hW (fun S8 H locs hW hm hw => ?_)
    have t0 := hm _ _ t0
    have ta1 := hm _ _ ta1
    have ta3 := hm _ _ ta3
    have ta6 := hm _ _ ta6
    refine gx_aload_n hx hb dX9_workStep_182 rfl (lv_at hl 0 rfl) ?_
    refine lv_dup hx hb dX9_workStep_183 (va_rf_cat _) ?_
    refine gx_getI C hW F9_53 (k := 582) rfl t0 rfl dX9_workStep_184 ?_
    refine lv_iconst (v := 1) hx hb dX9_workStep_187 (by decide) ?_
    refine lv_iadd hx hb dX9_workStep_188 ?_
    refine gx_putI (k := 582) C hW F9_53 (Or.inl rfl) rfl t0 rfl rfl rfl dX9_workStep_189 (fun H locs S9 eS9 hW hm => ?_)
    have hw := hw S9 eS9
    have t0 := hm _ _ t0
    have ta1 := hm _ _ ta1
    have ta3 := hm _ _ ta3
    have ta6 := hm _ _ ta6
    refine lv_goto (tgt := 317) hx hb dX9_workStep_192 (by decide) ?_
    exact gx_vret C hW (Nat.le_of_ble_eq_true rfl) (Nat.le_of_ble_eq_true rfl) hw dX9_workStep_317
  · have hw := w_f hw c2
    by_cases c10 : (fI S0 449 a1) = (22 : Int32)
    · have hw := w_t hw c10
      refine lv_tableIn (off := 191) (tgt := 195) hx hb dX9_workStep_4 (by rw [c10]; decide) (by rw [c10]; decide) (by rw [c10]; rfl) (by decide) ?_
      refine gx_aload_n hx hb dX9_workStep_195 rfl (lv_at hl 0 rfl) ?_
      refine gx_aload_n hx hb dX9_workStep_196 rfl (lv_at hl 2 rfl) ?_
      refine gx_getI C hW F9_92 (k := 450) ha1 ta1 rfl dX9_workStep_197 ?_
      refine lv_iconst (v := 3) hx hb dX9_workStep_200 (by decide) ?_
      refine lv_iand hx hb dX9_workStep_201 ?_
      refine gx_null hx hb dX9_workStep_202 ?_
      refine gx_cv (gx_rV C hW M9_105 (mX9_fail l D cy _ _ _ _ _ t0 hw) rfl rfl ⟨Nat.le_of_ble_eq_true rfl, Nat.le_of_ble_eq_true rfl⟩ rfl t0 (by decide) rfl rfl hl.1 rfl (gx_room0 (n := 4) (Nat.le_of_ble_eq_true rfl)) dX9_workStep_203 ⟨Nat.le_of_ble_eq_true rfl, Nat.le_of_ble_eq_true rfl⟩) hW (fun S12 H locs hW hm hw => ?_)
      have t0 := hm _ _ t0
      have ta1 := hm _ _ ta1
      refine lv_goto (tgt := 317) hx hb dX9_workStep_206 (by decide) ?_
      exact gx_vret C hW (Nat.le_of_ble_eq_true rfl) (Nat.le_of_ble_eq_true rfl) hw dX9_workStep_317
    · have hw := w_f hw c10
      by_cases c13 : (fI S0 449 a1) = (23 : Int32)
      · have hw := w_t hw c13
        refine lv_tableIn (off := 205) (tgt := 209) hx hb dX9_workStep_4 (by rw [c13]; decide) (by rw [c13]; decide) (by rw [c13]; rfl) (by decide) ?_
        refine gx_aload_n hx hb dX9_workStep_209 rfl (lv_at hl 0 rfl) ?_
        refine lv_bipush (v := 6) hx hb dX9_workStep_210 (by decide) ?_
        refine gx_null hx hb dX9_workStep_212 ?_
        refine gx_cv (gx_rV C hW M9_105 (mX9_fail l D cy _ _ _ _ _ t0 hw) rfl rfl ⟨Nat.le_of_ble_eq_true rfl, Nat.le_of_ble_eq_true rfl⟩ rfl t0 (by decide) rfl rfl hl.1 rfl (gx_room0 (n := 4) (Nat.le_of_ble_eq_true rfl)) dX9_workStep_213 ⟨Nat.le_of_ble_eq_true rfl, Nat.le_of_ble_eq_true rfl⟩) hW (fun S15 H locs hW hm hw => ?_)
        have t0 := hm _ _ t0
        have ta1 := hm _ _ ta1
        refine lv_goto (tgt := 317) hx hb dX9_workStep_216 (by decide) ?_
        exact gx_vret C hW (Nat.le_of_ble_eq_true rfl) (Nat.le_of_ble_eq_true rfl) hw dX9_workStep_317
      · have hw := w_f hw c13
        by_cases c16 : (fI S0 449 a1) = (24 : Int32)
        · have hw := w_t hw c16
          refine lv_tableIn (off := 215) (tgt := 219) hx hb dX9_workStep_4 (by rw [c16]; decide) (by rw [c16]; decide) (by rw [c16]; rfl) (by decide) ?_
          refine gx_aload_n hx hb dX9_workStep_219 rfl (lv_at hl 0 rfl) ?_
          refine gx_aload_n hx hb dX9_workStep_220 rfl (lv_at hl 2 rfl) ?_
          refine gx_getI C hW F9_92 (k := 450) ha1 ta1 rfl dX9_workStep_221 ?_
          refine lv_iconst (v := 3) hx hb dX9_workStep_224 (by decide) ?_
          refine lv_iand hx hb dX9_workStep_225 ?_
          refine gx_aload_n hx hb dX9_workStep_226 rfl (lv_at hl 0 rfl) ?_
          refine gx_cq (gx_rV C hW M9_109 (mX9_failureAtWork l D cy _ _ _ t0 hw) rfl rfl ⟨Nat.le_of_ble_eq_true rfl, Nat.le_of_ble_eq_true rfl⟩ rfl t0 (by decide) rfl rfl hl.1 rfl (gx_room0 (n := 4) (Nat.le_of_ble_eq_true rfl)) dX9_workStep_227 ⟨Nat.le_of_ble_eq_true rfl, Nat.le_of_ble_eq_true rfl⟩) hW (fun r17 S18 H locs hW hm hw => ?_)
          have t0 := hm _ _ t0
          have ta1 := hm _ _ ta1
          refine gx_cv (gx_rV C hW M9_105 (mX9_fail l D cy _ _ _ _ _ t0 hw) rfl rfl ⟨Nat.le_of_ble_eq_true rfl, Nat.le_of_ble_eq_true rfl⟩ rfl t0 (by decide) rfl rfl hl.1 rfl (gx_room0 (n := 4) (Nat.le_of_ble_eq_true rfl)) dX9_workStep_230 ⟨Nat.le_of_ble_eq_true rfl, Nat.le_of_ble_eq_true rfl⟩) hW (fun S20 H locs hW hm hw => ?_)
          have t0 := hm _ _ t0
          have ta1 := hm _ _ ta1
          refine lv_goto (tgt := 317) hx hb dX9_workStep_233 (by decide) ?_
          exact gx_vret C hW (Nat.le_of_ble_eq_true rfl) (Nat.le_of_ble_eq_true rfl) hw dX9_workStep_317
        · have hw := w_f hw c16
          by_cases c21 : (fI S0 449 a1) = (25 : Int32)
          · have hw := w_t hw c21
            refine lv_tableIn (off := 232) (tgt := 236) hx hb dX9_workStep_4 (by rw [c21]; decide) (by rw [c21]; decide) (by rw [c21]; rfl) (by decide) ?_
            refine gx_aload_n hx hb dX9_workStep_236 rfl (lv_at hl 0 rfl) ?_
            refine gx_aload_n hx hb dX9_workStep_237 rfl (lv_at hl 1 rfl) ?_
            refine gx_aload_n hx hb dX9_workStep_238 rfl (lv_at hl 2 rfl) ?_
            refine gx_cv (gx_rV C hW M9_113 (mX9_beginBlock l D cy _ _ _ _ _ t0 hw) rfl rfl ⟨Nat.le_of_ble_eq_true rfl, Nat.le_of_ble_eq_true rfl⟩ rfl t0 (by decide) rfl rfl hl.1 rfl (gx_room0 (n := 4) (Nat.le_of_ble_eq_true rfl)) dX9_workStep_239 ⟨Nat.le_of_ble_eq_true rfl, Nat.le_of_ble_eq_true rfl⟩) hW (fun S23 H locs hW hm hw => ?_)
            have t0 := hm _ _ t0
            have ta1 := hm _ _ ta1
            refine lv_goto (tgt := 317) hx hb dX9_workStep_242 (by decide) ?_
            exact gx_vret C hW (Nat.le_of_ble_eq_true rfl) (Nat.le_of_ble_eq_true rfl) hw dX9_workStep_317
          · have hw := w_f hw c21
            by_cases c24 : (fI S0 449 a1) = (26 : Int32)
            · have hw := w_t hw c24
              refine lv_tableIn (off := 288) (tgt := 292) hx hb dX9_workStep_4 (by rw [c24]; decide) (by rw [c24]; decide) (by rw [c24]; rfl) (by decide) ?_
              refine gx_aload_n hx hb dX9_workStep_292 rfl (lv_at hl 0 rfl) ?_
              refine lv_dup hx hb dX9_workStep_293 (va_rf_cat _) ?_
              refine gx_getI C hW F9_53 (k := 582) rfl t0 rfl dX9_workStep_294 ?_
              refine lv_iconst (v := 1) hx hb dX9_workStep_297 (by decide) ?_
              refine lv_iadd hx hb dX9_workStep_298 ?_
              refine gx_putI (k := 582) C hW F9_53 (Or.inl rfl) rfl t0 rfl rfl rfl dX9_workStep_299 (fun H locs S25 eS25 hW hm => ?_)
              have hw := hw S25 eS25
              have t0 := hm _ _ t0
              have ta1 := hm _ _ ta1
              refine lv_goto (tgt := 317) hx hb dX9_workStep_302 (by decide) ?_
              exact gx_vret C hW (Nat.le_of_ble_eq_true rfl) (Nat.le_of_ble_eq_true rfl) hw dX9_workStep_317
            · have hw := w_f hw c24
              by_cases c26 : (fI S0 449 a1) = (27 : Int32)
              · have hw := w_t hw c26
                refine lv_tableIn (off := 288) (tgt := 292) hx hb dX9_workStep_4 (by rw [c26]; decide) (by rw [c26]; decide) (by rw [c26]; rfl) (by decide) ?_
                refine gx_aload_n hx hb dX9_workStep_292 rfl (lv_at hl 0 rfl) ?_
                refine lv_dup hx hb dX9_workStep_293 (va_rf_cat _) ?_
                refine gx_getI C hW F9_53 (k := 582) rfl t0 rfl dX9_workStep_294 ?_
                refine lv_iconst (v := 1) hx hb dX9_workStep_297 (by decide) ?_
                refine lv_iadd hx hb dX9_workStep_298 ?_
                refine gx_putI (k := 582) C hW F9_53 (Or.inl rfl) rfl t0 rfl rfl rfl dX9_workStep_299 (fun H locs S27 eS27 hW hm => ?_)
                have hw := hw S27 eS27
                have t0 := hm _ _ t0
                have ta1 := hm _ _ ta1
                refine lv_goto (tgt := 317) hx hb dX9_workStep_302 (by decide) ?_
                exact gx_vret C hW (Nat.le_of_ble_eq_true rfl) (Nat.le_of_ble_eq_true rfl) hw dX9_workStep_317
              · have hw := w_f hw c26
                by_cases c28 : (fI S0 449 a1) = (28 : Int32)
                · have hw := w_t hw c28
                  refine lv_tableIn (off := 288) (tgt := 292) hx hb dX9_workStep_4 (by rw [c28]; decide) (by rw [c28]; decide) (by rw [c28]; rfl) (by decide) ?_
                  refine gx_aload_n hx hb dX9_workStep_292 rfl (lv_at hl 0 rfl) ?_
                  refine lv_dup hx hb dX9_workStep_293 (va_rf_cat _) ?_
                  refine gx_getI C hW F9_53 (k := 582) rfl t0 rfl dX9_workStep_294 ?_
                  refine lv_iconst (v := 1) hx hb dX9_workStep_297 (by decide) ?_
                  refine lv_iadd hx hb dX9_workStep_298 ?_
                  refine gx_putI (k := 582) C hW F9_53 (Or.inl rfl) rfl t0 rfl rfl rfl dX9_workStep_299 (fun H locs S29 eS29 hW hm => ?_)
                  have hw := hw S29 eS29
                  have t0 := hm _ _ t0
                  have ta1 := hm _ _ ta1
                  refine lv_goto (tgt := 317) hx hb dX9_workStep_302 (by decide) ?_
                  exact gx_vret C hW (Nat.le_of_ble_eq_true rfl) (Nat.le_of_ble_eq_true rfl) hw dX9_workStep_317
                · have hw := w_f hw c28
                  by_cases c30 : (fI S0 449 a1) = (29 : Int32)
                  · have hw := w_t hw c30
                    refine lv_tableIn (off := 232) (tgt := 236) hx hb dX9_workStep_4 (by rw [c30]; decide) (by rw [c30]; decide) (by rw [c30]; rfl) (by decide) ?_
                    refine gx_aload_n hx hb dX9_workStep_236 rfl (lv_at hl 0 rfl) ?_
                    refine gx_aload_n hx hb dX9_workStep_237 rfl (lv_at hl 1 rfl) ?_
                    refine gx_aload_n hx hb dX9_workStep_238 rfl (lv_at hl 2 rfl) ?_
                    refine gx_cv (gx_rV C hW M9_113 (mX9_beginBlock l D cy _ _ _ _ _ t0 hw) rfl rfl ⟨Nat.le_of_ble_eq_true rfl, Nat.le_of_ble_eq_true rfl⟩ rfl t0 (by decide) rfl rfl hl.1 rfl (gx_room0 (n := 4) (Nat.le_of_ble_eq_true rfl)) dX9_workStep_239 ⟨Nat.le_of_ble_eq_true rfl, Nat.le_of_ble_eq_true rfl⟩) hW (fun S32 H locs hW hm hw => ?_)
                    have t0 := hm _ _ t0
                    have ta1 := hm _ _ ta1
                    refine lv_goto (tgt := 317) hx hb dX9_workStep_242 (by decide) ?_
                    exact gx_vret C hW (Nat.le_of_ble_eq_true rfl) (Nat.le_of_ble_eq_true rfl) hw dX9_workStep_317
                  · have hw := w_f hw c30
                    by_cases c33 : (fI S0 449 a1) = (30 : Int32)
                    · have hw := w_t hw c33
                      refine lv_tableIn (off := 232) (tgt := 236) hx hb dX9_workStep_4 (by rw [c33]; decide) (by rw [c33]; decide) (by rw [c33]; rfl) (by decide) ?_
                      refine gx_aload_n hx hb dX9_workStep_236 rfl (lv_at hl 0 rfl) ?_
                      refine gx_aload_n hx hb dX9_workStep_237 rfl (lv_at hl 1 rfl) ?_
                      refine gx_aload_n hx hb dX9_workStep_238 rfl (lv_at hl 2 rfl) ?_
                      refine gx_cv (gx_rV C hW M9_113 (mX9_beginBlock l D cy _ _ _ _ _ t0 hw) rfl rfl ⟨Nat.le_of_ble_eq_true rfl, Nat.le_of_ble_eq_true rfl⟩ rfl t0 (by decide) rfl rfl hl.1 rfl (gx_room0 (n := 4) (Nat.le_of_ble_eq_true rfl)) dX9_workStep_239 ⟨Nat.le_of_ble_eq_true rfl, Nat.le_of_ble_eq_true rfl⟩) hW (fun S35 H locs hW hm hw => ?_)
                      have t0 := hm _ _ t0
                      have ta1 := hm _ _ ta1
                      refine lv_goto (tgt := 317) hx hb dX9_workStep_242 (by decide) ?_
                      exact gx_vret C hW (Nat.le_of_ble_eq_true rfl) (Nat.le_of_ble_eq_true rfl) hw dX9_workStep_317
                    · have hw := w_f hw c33
                      by_cases c36 : (fI S0 449 a1) = (31 : Int32)
                      · have hw := w_t hw c36
                        refine lv_tableIn (off := 288) (tgt := 292) hx hb dX9_workStep_4 (by rw [c36]; decide) (by rw [c36]; decide) (by rw [c36]; rfl) (by decide) ?_
                        refine gx_aload_n hx hb dX9_workStep_292 rfl (lv_at hl 0 rfl) ?_
                        refine lv_dup hx hb dX9_workStep_293 (va_rf_cat _) ?_
                        refine gx_getI C hW F9_53 (k := 582) rfl t0 rfl dX9_workStep_294 ?_
                        refine lv_iconst (v := 1) hx hb dX9_workStep_297 (by decide) ?_
                        refine lv_iadd hx hb dX9_workStep_298 ?_
                        refine gx_putI (k := 582) C hW F9_53 (Or.inl rfl) rfl t0 rfl rfl rfl dX9_workStep_299 (fun H locs S37 eS37 hW hm => ?_)
                        have hw := hw S37 eS37
                        have t0 := hm _ _ t0
                        have ta1 := hm _ _ ta1
                        refine lv_goto (tgt := 317) hx hb dX9_workStep_302 (by decide) ?_
                        exact gx_vret C hW (Nat.le_of_ble_eq_true rfl) (Nat.le_of_ble_eq_true rfl) hw dX9_workStep_317
                      · have hw := w_f hw c36
                        by_cases c38 : (fI S0 449 a1) = (32 : Int32)
                        · have hw := w_t hw c38
                          refine lv_tableIn (off := 241) (tgt := 245) hx hb dX9_workStep_4 (by rw [c38]; decide) (by rw [c38]; decide) (by rw [c38]; rfl) (by decide) ?_
                          refine gx_aload_n hx hb dX9_workStep_245 rfl (lv_at hl 0 rfl) ?_
                          refine lv_iconst (v := 3) hx hb dX9_workStep_246 (by decide) ?_
                          refine gx_putI (k := 584) C hW F9_67 (Or.inl rfl) rfl t0 rfl rfl rfl dX9_workStep_247 (fun H locs S39 eS39 hW hm => ?_)
                          have hw := hw S39 eS39
                          have t0 := hm _ _ t0
                          have ta1 := hm _ _ ta1
                          refine lv_goto (tgt := 317) hx hb dX9_workStep_250 (by decide) ?_
                          exact gx_vret C hW (Nat.le_of_ble_eq_true rfl) (Nat.le_of_ble_eq_true rfl) hw dX9_workStep_317
                        · have hw := w_f hw c38
                          by_cases c40 : (fI S0 449 a1) = (33 : Int32)
                          · have hw := w_t hw c40
                            refine lv_tableIn (off := 249) (tgt := 253) hx hb dX9_workStep_4 (by rw [c40]; decide) (by rw [c40]; decide) (by rw [c40]; rfl) (by decide) ?_
                            refine gx_aload_n hx hb dX9_workStep_253 rfl (lv_at hl 0 rfl) ?_
                            refine lv_iconst (v := 4) hx hb dX9_workStep_254 (by decide) ?_
                            refine gx_putI (k := 584) C hW F9_67 (Or.inl rfl) rfl t0 rfl rfl rfl dX9_workStep_255 (fun H locs S41 eS41 hW hm => ?_)
                            have hw := hw S41 eS41
                            have t0 := hm _ _ t0
                            have ta1 := hm _ _ ta1
                            refine lv_goto (tgt := 317) hx hb dX9_workStep_258 (by decide) ?_
                            exact gx_vret C hW (Nat.le_of_ble_eq_true rfl) (Nat.le_of_ble_eq_true rfl) hw dX9_workStep_317
                          · have hw := w_f hw c40
                            by_cases c42 : (fI S0 449 a1) = (34 : Int32)
                            · have hw := w_t hw c42
                              refine lv_tableIn (off := 257) (tgt := 261) hx hb dX9_workStep_4 (by rw [c42]; decide) (by rw [c42]; decide) (by rw [c42]; rfl) (by decide) ?_
                              refine gx_aload_n hx hb dX9_workStep_261 rfl (lv_at hl 0 rfl) ?_
                              refine lv_iconst (v := 5) hx hb dX9_workStep_262 (by decide) ?_
                              refine gx_putI (k := 584) C hW F9_67 (Or.inl rfl) rfl t0 rfl rfl rfl dX9_workStep_263 (fun H locs S43 eS43 hW hm => ?_)
                              have hw := hw S43 eS43
                              have t0 := hm _ _ t0
                              have ta1 := hm _ _ ta1
                              refine gx_aload_n hx hb dX9_workStep_266 rfl (lv_at hl 0 rfl) ?_
                              refine gx_aload_n hx hb dX9_workStep_267 rfl (lv_at hl 0 rfl) ?_
                              refine gx_getR C hW F9_24 (k := 577) rfl t0 rfl dX9_workStep_268 ?_
                              refine gx_aload_n hx hb dX9_workStep_271 rfl (lv_at hl 2 rfl) ?_
                              refine gx_getI C hW F9_92 (k := 450) ha1 ta1 rfl dX9_workStep_272 ?_
                              obtain ⟨a44, ha44, ta44, hw⟩ := hw
                              refine gx_cl (gx_rV C hW M9_95 (mX3_numberOf l D cy _ _ _ _ ta44 hw) rfl rfl ⟨Nat.le_of_ble_eq_true rfl, Nat.le_of_ble_eq_true rfl⟩ ha44 ta44 (by decide) rfl rfl hl.1 rfl (gx_room0 (n := 4) (Nat.le_of_ble_eq_true rfl)) dX9_workStep_275 ⟨Nat.le_of_ble_eq_true rfl, Nat.le_of_ble_eq_true rfl⟩) hW (fun r45 S46 H locs hW hm hw => ?_)
                              have t0 := hm _ _ t0
                              have ta1 := hm _ _ ta1
                              have ta44 := hm _ _ ta44
                              refine gx_putL (k := 585) C hW F9_116 (Or.inl rfl) rfl t0 rfl dX9_workStep_278 (fun H locs S47 eS47 hW hm => ?_)
                              have hw := hw S47 eS47
                              have t0 := hm _ _ t0
                              have ta1 := hm _ _ ta1
                              have ta44 := hm _ _ ta44
                              refine lv_goto (tgt := 317) hx hb dX9_workStep_281 (by decide) ?_
                              exact gx_vret C hW (Nat.le_of_ble_eq_true rfl) (Nat.le_of_ble_eq_true rfl) hw dX9_workStep_317
                            · have hw := w_f hw c42
                              by_cases c48 : (fI S0 449 a1) = (35 : Int32)
                              · have hw := w_t hw c48
                                refine lv_tableIn (off := 280) (tgt := 284) hx hb dX9_workStep_4 (by rw [c48]; decide) (by rw [c48]; decide) (by rw [c48]; rfl) (by decide) ?_
                                refine gx_aload_n hx hb dX9_workStep_284 rfl (lv_at hl 0 rfl) ?_
                                refine gx_aload_n hx hb dX9_workStep_285 rfl (lv_at hl 2 rfl) ?_
                                refine gx_cv (gx_rV C hW M9_120 (mX9_callRoutine l D cy _ _ _ _ t0 hw) rfl rfl ⟨Nat.le_of_ble_eq_true rfl, Nat.le_of_ble_eq_true rfl⟩ rfl t0 (by decide) rfl rfl hl.1 rfl (gx_room0 (n := 4) (Nat.le_of_ble_eq_true rfl)) dX9_workStep_286 ⟨Nat.le_of_ble_eq_true rfl, Nat.le_of_ble_eq_true rfl⟩) hW (fun S50 H locs hW hm hw => ?_)
                                have t0 := hm _ _ t0
                                have ta1 := hm _ _ ta1
                                refine lv_goto (tgt := 317) hx hb dX9_workStep_289 (by decide) ?_
                                exact gx_vret C hW (Nat.le_of_ble_eq_true rfl) (Nat.le_of_ble_eq_true rfl) hw dX9_workStep_317
                              · have hw := w_f hw c48
                                refine gx_tdef (n := 36) (tgt := 305) hx hb dX9_workStep_4 (by decide) (by decide) (lt_s (lt_s (lt_s (lt_s (lt_s (lt_s (lt_s (lt_s (lt_s (lt_s (lt_s (lt_s (lt_s (lt_s (lt_s (lt_s (lt_s (lt_s (lt_s (lt_s (lt_s (lt_s (lt_s (lt_s (lt_s (lt_s (lt_s (lt_s (lt_s (lt_s (lt_s (lt_s (lt_s (lt_s (lt_s (lt_s (lt_0) (fun hx9 => tb_ne c2 (by decide) hx9)) (fun hx9 => rfl)) (fun hx9 => rfl)) (fun hx9 => rfl)) (fun hx9 => rfl)) (fun hx9 => rfl)) (fun hx9 => rfl)) (fun hx9 => rfl)) (fun hx9 => rfl)) (fun hx9 => rfl)) (fun hx9 => rfl)) (fun hx9 => rfl)) (fun hx9 => rfl)) (fun hx9 => rfl)) (fun hx9 => rfl)) (fun hx9 => rfl)) (fun hx9 => rfl)) (fun hx9 => rfl)) (fun hx9 => rfl)) (fun hx9 => rfl)) (fun hx9 => rfl)) (fun hx9 => rfl)) (fun hx9 => tb_ne c10 (by decide) hx9)) (fun hx9 => tb_ne c13 (by decide) hx9)) (fun hx9 => tb_ne c16 (by decide) hx9)) (fun hx9 => tb_ne c21 (by decide) hx9)) (fun hx9 => tb_ne c24 (by decide) hx9)) (fun hx9 => tb_ne c26 (by decide) hx9)) (fun hx9 => tb_ne c28 (by decide) hx9)) (fun hx9 => tb_ne c30 (by decide) hx9)) (fun hx9 => tb_ne c33 (by decide) hx9)) (fun hx9 => tb_ne c36 (by decide) hx9)) (fun hx9 => tb_ne c38 (by decide) hx9)) (fun hx9 => tb_ne c40 (by decide) hx9)) (fun hx9 => tb_ne c42 (by decide) hx9)) (fun hx9 => tb_ne c48 (by decide) hx9)) ?_
                                refine gx_aload_n hx hb dX9_workStep_305 rfl (lv_at hl 0 rfl) ?_
                                refine gx_aload_n hx hb dX9_workStep_306 rfl (lv_at hl 0 rfl) ?_
                                refine gx_getR C hW F9_24 (k := 577) rfl t0 rfl dX9_workStep_307 ?_
                                refine gx_aload_n hx hb dX9_workStep_310 rfl (lv_at hl 2 rfl) ?_
                                obtain ⟨a51, ha51, ta51, hw⟩ := hw
                                refine gx_ci (gx_rV C hW M9_124 (mX3_workStep l D cy _ _ _ _ ta51 hw) rfl rfl ⟨Nat.le_of_ble_eq_true rfl, Nat.le_of_ble_eq_true rfl⟩ ha51 ta51 (by decide) rfl rfl hl.1 rfl (gx_room0 (n := 4) (Nat.le_of_ble_eq_true rfl)) dX9_workStep_311 ⟨Nat.le_of_ble_eq_true rfl, Nat.le_of_ble_eq_true rfl⟩) hW (fun r52 S53 H locs hW hm hw => ?_)
                                have t0 := hm _ _ t0
                                have ta1 := hm _ _ ta1
                                have ta51 := hm _ _ ta51
                                refine gx_cv (gx_rV C hW M9_127 (mX9_goBehind l D cy _ _ _ _ t0 hw) rfl rfl ⟨Nat.le_of_ble_eq_true rfl, Nat.le_of_ble_eq_true rfl⟩ rfl t0 (by decide) rfl rfl hl.1 rfl (gx_room0 (n := 4) (Nat.le_of_ble_eq_true rfl)) dX9_workStep_314 ⟨Nat.le_of_ble_eq_true rfl, Nat.le_of_ble_eq_true rfl⟩) hW (fun S55 H locs hW hm hw => ?_)
                                have t0 := hm _ _ t0
                                have ta1 := hm _ _ ta1
                                have ta51 := hm _ _ ta51
                                exact gx_vret C hW (Nat.le_of_ble_eq_true rfl) (Nat.le_of_ble_eq_true rfl) hw dX9_workStep_317
/-! TrialStair$Worker.workRun -/
def wX9_workRun_b33 : Nat → Nat → (Nat) → (Int32) → (Int32) → Sg → (Int32 → Sg → Prop) → Prop
  | 0, _, _, _, _, _, _ => False
  | fu + 1, g, x0, x2, x3, S, Q => (if (1000000 : Int32) ≤ x3 then Q (x2 - (fI S 583 x0)) S else (if (fR S 580 x0) = none then Q (x2 - (fI S 583 x0)) S else ∀ y11 : Option Nat, y11 = (fR S 580 x0) → ∃ a12 : Nat, y11 = some a12 ∧ tg S a12 = 2 ∧ (if (fI S 67 a12) ≤ (fI S 582 x0) then (if (fI S 584 x0) = 0 then ∀ S16 : Sg, S16 = sFI S 584 x0 (1 : Int32) → ∀ y17 : Int32, y17 = x3 + (1) → wX9_workRun_b33 fu g x0 x2 y17 S16 Q else wX9_settle x0 y11 S (fun (S19 : Sg) => ∀ y20 : Int32, y20 = x3 + (1) → wX9_workRun_b33 fu g x0 x2 y20 S19 Q)) else ∃ a21 : Nat, (fR S 576 x0) = some a21 ∧ tg S a21 = 7 ∧ wX6_stepAt a21 (fI S 582 x0) S (fun (r22 : Option Nat) (S23 : Sg) => (if (fI S23 584 x0) = 0 then (if r22 = none then ∀ S34 : Sg, S34 = sFI S23 584 x0 (1 : Int32) → ∀ y35 : Int32, y35 = x3 + (1) → wX9_workRun_b33 fu g x0 x2 y35 S34 Q else wX9_takeStep x0  S23 (fun (r26 : Int32) (S27 : Sg) => (if r26 = 0 then ∀ y29 : Int32, y29 = x3 + (1) → wX9_workRun_b33 fu g x0 x2 y29 S27 Q else ∃ g30 : Nat, g = g30 + 1 ∧ wX9_workStep x0 y11 r22 S27 (fun (S32 : Sg) => ∀ y33 : Int32, y33 = x3 + (1) → wX9_workRun_b33 fu g30 x0 x2 y33 S32 Q)))) else wX9_settle x0 y11 S23 (fun (S37 : Sg) => ∀ y38 : Int32, y38 = x3 + (1) → wX9_workRun_b33 fu g x0 x2 y38 S37 Q))))))
def wX9_workRun (x0 : Nat) (x1 : Int32) (x2 : Int32) (S0 : Sg) (Q : Int32 → Sg → Prop) : Prop := ∃ a1 : Nat, (fR S0 578 x0) = some a1 ∧ tg S0 a1 = 5 ∧ wX4_begin a1  S0 (fun (S3 : Sg) => ∀ S4 : Sg, S4 = sFI S3 583 x0 x2 → ∀ S5 : Sg, S5 = sFI S4 581 x0 (0 : Int32) → ∀ S6 : Sg, S6 = sFR S5 580 x0 none → wX9_enterRoutine x0 x1 (fR S6 579 x0) S6 (fun (S8 : Sg) => ∃ fu39 : Nat, ∃ g : Nat, g ≤ 1000 ∧ wX9_workRun_b33 fu39 g x0 x2 (0 : Int32) S8 Q))
set_option maxHeartbeats 4000000 in
set_option maxRecDepth 100000 in
theorem kX9_workRun_l33 {p : Program} {l : Launch} {e : Env} {s : State} {m : MethodId} {args : Array Value} {below : List Frame} {meth : Method} {c : Code} {D : va_G} {cy : Nat → ClassId} {S0 : Sg} (C : gC p s m args meth c D cy cX9_workRun 6 yX9_workRun.cls (some .int) yX9_workRun.name) {x0 : Nat} {Q : Int32 → Sg → Prop} : ∀ (fu g : Nat) (x2 : Int32) (x3 : Int32) (S : Sg) (H : Heap) (locs : List Loc) (ls : Array Slot) (kc ks : Nat) (hk : kc + 4 * g ≤ 4001 ∧ ks + 70 * g ≤ 70009) (hW : gW D cy (gA S0) (tg S0) s.heap S H locs) (t0 : tg S x0 = 10) (hl : lv_has ls 6 [(0, va_rf (some x0)), (2, .int x2), (3, .int x3)]) (hw : wX9_workRun_b33 fu g x0 x2 x3 S Q), W p l e { frames := 6, cells := 4001, slots := 70009, locals := 130 } s m args below meth c H locs kc ks (MQ below (va_Qi Q (gB D cy S0) (gA S0)) args s 4001 70009 (gA S0)) (F0 m 33 ls []) := by
  have hx := C.1
  have hb := C.2.1
  intro fu
  induction fu with
  | zero =>
    intro g x2 x3 S H locs ls kc ks hk hW t0 hl hw
    unfold wX9_workRun_b33 at hw
    exact hw.elim
  | succ fu ih =>
    intro g x2 x3 S H locs ls kc ks hk hW t0 hl hw
    unfold wX9_workRun_b33 at hw
    refine lv_iload_n hx hb dX9_workRun_33 rfl (lv_at hl 2 rfl) ?_
    refine lv_ldc (v := 1000000) hx hb C.2.2.2.1 (C.2.2.2.2.1 _ (List.mem_of_getElem? (i := 179) (by decide +kernel))) dX9_workRun_34 ?_
    refine lv_icmp_ge (tgt := 131) hx hb dX9_workRun_36 (by decide) (fun c9 => ?_) (fun c9 => ?_)
    · have hw := w_t hw c9
      refine lv_iload_n hx hb dX9_workRun_131 rfl (lv_at hl 1 rfl) ?_
      refine gx_aload_n hx hb dX9_workRun_132 rfl (lv_at hl 0 rfl) ?_
      refine gx_getI C hW F9_37 (k := 583) rfl t0 rfl dX9_workRun_133 ?_
      refine lv_isub hx hb dX9_workRun_136 ?_
      exact gx_iret C hW (by omega) (by omega) rfl hw dX9_workRun_137
    · have hw := w_f hw c9
      refine gx_aload_n hx hb dX9_workRun_39 rfl (lv_at hl 0 rfl) ?_
      refine gx_getR C hW F9_44 (k := 580) rfl t0 rfl dX9_workRun_40 ?_
      refine gx_ifnull (tgt := 131) hx hb dX9_workRun_43 (by decide) (fun c10 => ?_) (fun c10 => ?_)
      · have hw := w_t hw c10
        refine lv_iload_n hx hb dX9_workRun_131 rfl (lv_at hl 1 rfl) ?_
        refine gx_aload_n hx hb dX9_workRun_132 rfl (lv_at hl 0 rfl) ?_
        refine gx_getI C hW F9_37 (k := 583) rfl t0 rfl dX9_workRun_133 ?_
        refine lv_isub hx hb dX9_workRun_136 ?_
        exact gx_iret C hW (by omega) (by omega) rfl hw dX9_workRun_137
      · have hw := w_f hw c10
        refine gx_aload_n hx hb dX9_workRun_46 rfl (lv_at hl 0 rfl) ?_
        refine gx_getR C hW F9_44 (k := 580) rfl t0 rfl dX9_workRun_47 ?_
        refine gx_topr (fun y11 ey11 => ?_)
        have hw := hw y11 ey11
        refine gx_astore (lv' := [(4, va_rf y11), (0, va_rf (some x0)), (2, .int x2), (3, .int x3)]) hx hb dX9_workRun_50 hl (by decide) rfl (fun ls hl => ?_)
        refine gx_aload_n hx hb dX9_workRun_52 rfl (lv_at hl 1 rfl) ?_
        refine gx_getI C hW F9_53 (k := 582) rfl t0 rfl dX9_workRun_53 ?_
        refine gx_aload hx hb dX9_workRun_56 (lv_at hl 0 rfl) ?_
        obtain ⟨a12, ha12, ta12, hw⟩ := hw
        refine gx_getI C hW F9_56 (k := 67) ha12 ta12 rfl dX9_workRun_58 ?_
        refine lv_icmp_ge (tgt := 78) hx hb dX9_workRun_61 (by decide) (fun c13 => ?_) (fun c13 => ?_)
        · have hw := w_t hw c13
          refine gx_null hx hb dX9_workRun_78 ?_
          refine gx_astore (lv' := [(5, va_rf none), (4, va_rf y11), (0, va_rf (some x0)), (2, .int x2), (3, .int x3)]) hx hb dX9_workRun_79 hl (by decide) (by simp [List.filter, va_rf_cat, cat_i, cat_l]) (fun ls hl => ?_)
          refine gx_aload_n hx hb dX9_workRun_81 rfl (lv_at hl 2 rfl) ?_
          refine gx_getI C hW F9_67 (k := 584) rfl t0 rfl dX9_workRun_82 ?_
          refine lv_if_eq (tgt := 97) hx hb dX9_workRun_85 (by decide) (fun c14 => ?_) (fun c14 => ?_)
          · have hw := w_t hw c14
            refine gx_aload hx hb dX9_workRun_97 (lv_at hl 0 rfl) ?_
            refine gx_ifnonnull (tgt := 110) hx hb dX9_workRun_99 (by decide) (fun c15 => ?_) (fun c15 => ?_)
            · exact absurd rfl c15
            · refine gx_aload_n hx hb dX9_workRun_102 rfl (lv_at hl 2 rfl) ?_
              refine lv_iconst (v := 1) hx hb dX9_workRun_103 (by decide) ?_
              refine gx_putI (k := 584) C hW F9_67 (Or.inl rfl) rfl t0 rfl rfl rfl dX9_workRun_104 (fun H locs S16 eS16 hW hm => ?_)
              have hw := hw S16 eS16
              have t0 := hm _ _ t0
              have ta12 := hm _ _ ta12
              refine lv_goto (tgt := 125) hx hb dX9_workRun_107 (by decide) ?_
              obtain ⟨y17, ey17⟩ : ∃ z : Int32, z = x3 + (1) := ⟨_, rfl⟩
              have hw := hw y17 ey17
              refine lv_iinc (v := y17) (lv' := [(3, .int y17), (5, va_rf none), (4, va_rf y11), (0, va_rf (some x0)), (2, .int x2)]) hx hb dX9_workRun_125 hl (k := 4) rfl (by rw [ey17]; rfl) (by decide) rfl (fun ls hl => ?_)
              refine lv_goto (tgt := 33) hx hb dX9_workRun_128 (by decide) ?_
              exact ih g _ _ _ _ _ _ _ _ ⟨by omega, by omega⟩ hW t0 (lv_sub hl [3, 4, 0] rfl) hw
          · have hw := w_f hw c14
            refine gx_aload_n hx hb dX9_workRun_88 rfl (lv_at hl 2 rfl) ?_
            refine gx_aload hx hb dX9_workRun_89 (lv_at hl 1 rfl) ?_
            refine gx_cv (gx_rV C hW M9_70 (mX9_settle l D cy _ _ _ _ t0 hw) rfl rfl ⟨Nat.le_of_ble_eq_true rfl, Nat.le_of_ble_eq_true rfl⟩ rfl t0 (by decide) rfl rfl hl.1 rfl (gx_room0 (n := 4) (Nat.le_of_ble_eq_true rfl)) dX9_workRun_91 ⟨(by show _ ≤ 4001; omega), (by show _ ≤ 70009; omega)⟩) hW (fun S19 H locs hW hm hw => ?_)
            have t0 := hm _ _ t0
            have ta12 := hm _ _ ta12
            refine lv_goto (tgt := 125) hx hb dX9_workRun_94 (by decide) ?_
            obtain ⟨y20, ey20⟩ : ∃ z : Int32, z = x3 + (1) := ⟨_, rfl⟩
            have hw := hw y20 ey20
            refine lv_iinc (v := y20) (lv' := [(3, .int y20), (5, va_rf none), (4, va_rf y11), (0, va_rf (some x0)), (2, .int x2)]) hx hb dX9_workRun_125 hl (k := 4) rfl (by rw [ey20]; rfl) (by decide) rfl (fun ls hl => ?_)
            refine lv_goto (tgt := 33) hx hb dX9_workRun_128 (by decide) ?_
            exact ih g _ _ _ _ _ _ _ _ ⟨by omega, by omega⟩ hW t0 (lv_sub hl [3, 4, 0] rfl) hw
        · have hw := w_f hw c13
          refine gx_aload_n hx hb dX9_workRun_64 rfl (lv_at hl 1 rfl) ?_
          refine gx_getR C hW F9_20 (k := 576) rfl t0 rfl dX9_workRun_65 ?_
          refine gx_aload_n hx hb dX9_workRun_68 rfl (lv_at hl 1 rfl) ?_
          refine gx_getI C hW F9_53 (k := 582) rfl t0 rfl dX9_workRun_69 ?_
          obtain ⟨a21, ha21, ta21, hw⟩ := hw
          refine gx_cq (gx_rV C hW M9_61 (mX6_stepAt l D cy _ _ _ _ ta21 hw) rfl rfl ⟨Nat.le_of_ble_eq_true rfl, Nat.le_of_ble_eq_true rfl⟩ ha21 ta21 (by decide) rfl rfl hl.1 rfl (gx_room0 (n := 4) (Nat.le_of_ble_eq_true rfl)) dX9_workRun_72 ⟨(by show _ ≤ 4001; omega), (by show _ ≤ 70009; omega)⟩) hW (fun r22 S23 H locs hW hm hw => ?_)
          have t0 := hm _ _ t0
          have ta12 := hm _ _ ta12
          have ta21 := hm _ _ ta21
          refine lv_goto (tgt := 79) hx hb dX9_workRun_75 (by decide) ?_
          refine gx_astore (lv' := [(5, va_rf r22), (4, va_rf y11), (0, va_rf (some x0)), (2, .int x2), (3, .int x3)]) hx hb dX9_workRun_79 hl (by decide) (by simp [List.filter, va_rf_cat, cat_i, cat_l]) (fun ls hl => ?_)
          refine gx_aload_n hx hb dX9_workRun_81 rfl (lv_at hl 2 rfl) ?_
          refine gx_getI C hW F9_67 (k := 584) rfl t0 rfl dX9_workRun_82 ?_
          refine lv_if_eq (tgt := 97) hx hb dX9_workRun_85 (by decide) (fun c24 => ?_) (fun c24 => ?_)
          · have hw := w_t hw c24
            refine gx_aload hx hb dX9_workRun_97 (lv_at hl 0 rfl) ?_
            refine gx_ifnonnull (tgt := 110) hx hb dX9_workRun_99 (by decide) (fun c25 => ?_) (fun c25 => ?_)
            · have hw := w_f hw c25
              refine gx_aload_n hx hb dX9_workRun_110 rfl (lv_at hl 2 rfl) ?_
              refine gx_ci (gx_rV C hW M9_74 (mX9_takeStep l D cy _ _ _ t0 hw) rfl rfl ⟨Nat.le_of_ble_eq_true rfl, Nat.le_of_ble_eq_true rfl⟩ rfl t0 (by decide) rfl rfl hl.1 rfl (gx_room0 (n := 4) (Nat.le_of_ble_eq_true rfl)) dX9_workRun_111 ⟨(by show _ ≤ 4001; omega), (by show _ ≤ 70009; omega)⟩) hW (fun r26 S27 H locs hW hm hw => ?_)
              have t0 := hm _ _ t0
              have ta12 := hm _ _ ta12
              have ta21 := hm _ _ ta21
              refine lv_if_eq (tgt := 125) hx hb dX9_workRun_114 (by decide) (fun c28 => ?_) (fun c28 => ?_)
              · have hw := w_t hw c28
                obtain ⟨y29, ey29⟩ : ∃ z : Int32, z = x3 + (1) := ⟨_, rfl⟩
                have hw := hw y29 ey29
                refine lv_iinc (v := y29) (lv' := [(3, .int y29), (5, va_rf r22), (4, va_rf y11), (0, va_rf (some x0)), (2, .int x2)]) hx hb dX9_workRun_125 hl (k := 4) rfl (by rw [ey29]; rfl) (by decide) rfl (fun ls hl => ?_)
                refine lv_goto (tgt := 33) hx hb dX9_workRun_128 (by decide) ?_
                exact ih g _ _ _ _ _ _ _ _ ⟨by omega, by omega⟩ hW t0 (lv_sub hl [3, 4, 0] rfl) hw
              · have hw := w_f hw c28
                refine gx_aload_n hx hb dX9_workRun_117 rfl (lv_at hl 2 rfl) ?_
                refine gx_aload hx hb dX9_workRun_118 (lv_at hl 1 rfl) ?_
                refine gx_aload hx hb dX9_workRun_120 (lv_at hl 0 rfl) ?_
                obtain ⟨g30, eg30, hw⟩ := hw
                refine gx_cv (gx_rV C hW M9_78 (mX9_workStep l D cy _ _ _ _ _ t0 hw) rfl rfl ⟨Nat.le_of_ble_eq_true rfl, Nat.le_of_ble_eq_true rfl⟩ rfl t0 (by decide) rfl rfl hl.1 rfl (gx_room0 (n := 4) (Nat.le_of_ble_eq_true rfl)) dX9_workRun_122 ⟨(by show _ ≤ 4001; omega), (by show _ ≤ 70009; omega)⟩) hW (fun S32 H locs hW hm hw => ?_)
                have t0 := hm _ _ t0
                have ta12 := hm _ _ ta12
                have ta21 := hm _ _ ta21
                obtain ⟨y33, ey33⟩ : ∃ z : Int32, z = x3 + (1) := ⟨_, rfl⟩
                have hw := hw y33 ey33
                refine lv_iinc (v := y33) (lv' := [(3, .int y33), (5, va_rf r22), (4, va_rf y11), (0, va_rf (some x0)), (2, .int x2)]) hx hb dX9_workRun_125 hl (k := 4) rfl (by rw [ey33]; rfl) (by decide) rfl (fun ls hl => ?_)
                refine lv_goto (tgt := 33) hx hb dX9_workRun_128 (by decide) ?_
                exact ih g30 _ _ _ _ _ _ _ _ ⟨by omega, by omega⟩ hW t0 (lv_sub hl [3, 4, 0] rfl) hw
            · have hw := w_t hw c25
              refine gx_aload_n hx hb dX9_workRun_102 rfl (lv_at hl 2 rfl) ?_
              refine lv_iconst (v := 1) hx hb dX9_workRun_103 (by decide) ?_
              refine gx_putI (k := 584) C hW F9_67 (Or.inl rfl) rfl t0 rfl rfl rfl dX9_workRun_104 (fun H locs S34 eS34 hW hm => ?_)
              have hw := hw S34 eS34
              have t0 := hm _ _ t0
              have ta12 := hm _ _ ta12
              have ta21 := hm _ _ ta21
              refine lv_goto (tgt := 125) hx hb dX9_workRun_107 (by decide) ?_
              obtain ⟨y35, ey35⟩ : ∃ z : Int32, z = x3 + (1) := ⟨_, rfl⟩
              have hw := hw y35 ey35
              refine lv_iinc (v := y35) (lv' := [(3, .int y35), (5, va_rf r22), (4, va_rf y11), (0, va_rf (some x0)), (2, .int x2)]) hx hb dX9_workRun_125 hl (k := 4) rfl (by rw [ey35]; rfl) (by decide) rfl (fun ls hl => ?_)
              refine lv_goto (tgt := 33) hx hb dX9_workRun_128 (by decide) ?_
              exact ih g _ _ _ _ _ _ _ _ ⟨by omega, by omega⟩ hW t0 (lv_sub hl [3, 4, 0] rfl) hw
          · have hw := w_f hw c24
            refine gx_aload_n hx hb dX9_workRun_88 rfl (lv_at hl 2 rfl) ?_
            refine gx_aload hx hb dX9_workRun_89 (lv_at hl 1 rfl) ?_
            refine gx_cv (gx_rV C hW M9_70 (mX9_settle l D cy _ _ _ _ t0 hw) rfl rfl ⟨Nat.le_of_ble_eq_true rfl, Nat.le_of_ble_eq_true rfl⟩ rfl t0 (by decide) rfl rfl hl.1 rfl (gx_room0 (n := 4) (Nat.le_of_ble_eq_true rfl)) dX9_workRun_91 ⟨(by show _ ≤ 4001; omega), (by show _ ≤ 70009; omega)⟩) hW (fun S37 H locs hW hm hw => ?_)
            have t0 := hm _ _ t0
            have ta12 := hm _ _ ta12
            have ta21 := hm _ _ ta21
            refine lv_goto (tgt := 125) hx hb dX9_workRun_94 (by decide) ?_
            obtain ⟨y38, ey38⟩ : ∃ z : Int32, z = x3 + (1) := ⟨_, rfl⟩
            have hw := hw y38 ey38
            refine lv_iinc (v := y38) (lv' := [(3, .int y38), (5, va_rf r22), (4, va_rf y11), (0, va_rf (some x0)), (2, .int x2)]) hx hb dX9_workRun_125 hl (k := 4) rfl (by rw [ey38]; rfl) (by decide) rfl (fun ls hl => ?_)
            refine lv_goto (tgt := 33) hx hb dX9_workRun_128 (by decide) ?_
            exact ih g _ _ _ _ _ _ _ _ ⟨by omega, by omega⟩ hW t0 (lv_sub hl [3, 4, 0] rfl) hw
set_option maxHeartbeats 4000000 in
set_option maxRecDepth 100000 in
theorem mX9_workRun (l : Launch) (D : va_G) (cy : Nat → ClassId) (x0 : Nat) (x1 : Int32) (x2 : Int32) (S0 : Sg) (Q : Int32 → Sg → Prop) (t0 : tg S0 x0 = 10) (hw : wX9_workRun x0 x1 x2 S0 Q) : Met l yX9_workRun (.code yX9_workRun cX9_workRun 6 (some .int) :: wsL_law) { frames := 6, cells := 4001, slots := 70009, locals := 130 } (gPc D cy [va_rf (some x0), .int x1, .int x2] S0) (va_Qi Q (gB D cy S0) (gA S0)) 4001 70009 (gA S0) := by
  refine gx_met (by decide) (Nat.le_of_ble_eq_true rfl) ?_
  intro p e s m args below meth c ls C hW hl
  have hx := C.1
  have hb := C.2.1
  have hl : lv_has ls 6 [(0, va_rf (some x0)), (1, .int x1), (2, .int x2)] := hl
  unfold wX9_workRun at hw
  refine gx_aload_n hx hb dX9_workRun_0 rfl (lv_at hl 0 rfl) ?_
  refine gx_getR C hW F9_28 (k := 578) rfl t0 rfl dX9_workRun_1 ?_
  obtain ⟨a1, ha1, ta1, hw⟩ := hw
  refine gx_cv (gx_rV C hW M9_32 (mX4_begin l D cy _ _ _ ta1 hw) rfl rfl ⟨Nat.le_of_ble_eq_true rfl, Nat.le_of_ble_eq_true rfl⟩ ha1 ta1 (by decide) rfl rfl hl.1 rfl (gx_room0 (n := 4) (Nat.le_of_ble_eq_true rfl)) dX9_workRun_4 ⟨Nat.le_of_ble_eq_true rfl, Nat.le_of_ble_eq_true rfl⟩) hW (fun S3 H locs hW hm hw => ?_)
  have t0 := hm _ _ t0
  have ta1 := hm _ _ ta1
  refine gx_aload_n hx hb dX9_workRun_7 rfl (lv_at hl 0 rfl) ?_
  refine lv_iload_n hx hb dX9_workRun_8 rfl (lv_at hl 2 rfl) ?_
  refine gx_putI (k := 583) C hW F9_37 (Or.inl rfl) rfl t0 rfl rfl rfl dX9_workRun_9 (fun H locs S4 eS4 hW hm => ?_)
  have hw := hw S4 eS4
  have t0 := hm _ _ t0
  have ta1 := hm _ _ ta1
  refine gx_aload_n hx hb dX9_workRun_12 rfl (lv_at hl 0 rfl) ?_
  refine lv_iconst (v := 0) hx hb dX9_workRun_13 (by decide) ?_
  refine gx_putI (k := 581) C hW F9_41 (Or.inl rfl) rfl t0 rfl rfl rfl dX9_workRun_14 (fun H locs S5 eS5 hW hm => ?_)
  have hw := hw S5 eS5
  have t0 := hm _ _ t0
  have ta1 := hm _ _ ta1
  refine gx_aload_n hx hb dX9_workRun_17 rfl (lv_at hl 0 rfl) ?_
  refine gx_null hx hb dX9_workRun_18 ?_
  refine gx_putR (k := 580) C hW F9_44 (Or.inl rfl) rfl rfl t0 rfl dX9_workRun_19 (fun H locs S6 eS6 hW hm => ?_)
  have hw := hw S6 eS6
  have t0 := hm _ _ t0
  have ta1 := hm _ _ ta1
  refine gx_aload_n hx hb dX9_workRun_22 rfl (lv_at hl 0 rfl) ?_
  refine lv_iload_n hx hb dX9_workRun_23 rfl (lv_at hl 1 rfl) ?_
  refine gx_aload_n hx hb dX9_workRun_24 rfl (lv_at hl 0 rfl) ?_
  refine gx_getR C hW F9_14 (k := 579) rfl t0 rfl dX9_workRun_25 ?_
  refine gx_cv (gx_rV C hW M9_48 (mX9_enterRoutine l D cy _ _ _ _ _ t0 hw) rfl rfl ⟨Nat.le_of_ble_eq_true rfl, Nat.le_of_ble_eq_true rfl⟩ rfl t0 (by decide) rfl rfl hl.1 rfl (gx_room0 (n := 4) (Nat.le_of_ble_eq_true rfl)) dX9_workRun_28 ⟨Nat.le_of_ble_eq_true rfl, Nat.le_of_ble_eq_true rfl⟩) hW (fun S8 H locs hW hm hw => ?_)
  have t0 := hm _ _ t0
  have ta1 := hm _ _ ta1
  refine lv_iconst (v := 0) hx hb dX9_workRun_31 (by decide) ?_
  refine lv_istore_n (i := 3) (lv' := [(3, .int (0 : Int32)), (0, va_rf (some x0)), (1, .int x1), (2, .int x2)]) hx hb dX9_workRun_32 rfl hl (by decide) rfl (fun ls hl => ?_)
  obtain ⟨fu39, hw⟩ := hw
  obtain ⟨g, hg, hw⟩ := hw
  exact kX9_workRun_l33 C fu39 g _ _ _ _ _ _ _ _ ⟨by omega, by omega⟩ hW t0 (lv_sub hl [1, 3, 0] rfl) hw
