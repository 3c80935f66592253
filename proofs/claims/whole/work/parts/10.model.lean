/-! TrialStairModel.<init> -/
def wX11_init_b285 : Nat → (Nat) → (Int32) → Sg → (Sg → Prop) → Prop
  | 0, _, _, _, _ => False
  | fu + 1, x0, x1, S, Q => (if (64 : Int32) ≤ x1 then Q S else ∃ a96 : Nat, (fR S 722 x0) = some a96 ∧ tg S a96 = 13 ∧ vp_in x1 (ln S a96) ∧ ∀ S98 : Sg, S98 = sAI S a96 (x1).toNatClampNeg (-1 : Int32) → ∀ y99 : Int32, y99 = x1 + (1) → wX11_init_b285 fu x0 y99 S98 Q)
def wX11_init (x0 : Nat) (S0 : Sg) (Q : Sg → Prop) : Prop := ∀ S2 : Sg, S2 = nw S0 13 2000 → ∀ S3 : Sg, S3 = sFR S2 704 x0 (some (sz S0)) → ∀ S5 : Sg, S5 = nw S3 13 2000 → ∀ S6 : Sg, S6 = sFR S5 705 x0 (some (sz S3)) → ∀ S8 : Sg, S8 = nw S6 13 2000 → ∀ S9 : Sg, S9 = sFR S8 706 x0 (some (sz S6)) → ∀ S11 : Sg, S11 = nw S9 13 2000 → ∀ S12 : Sg, S12 = sFR S11 707 x0 (some (sz S9)) → ∀ S14 : Sg, S14 = nw S12 13 2000 → ∀ S15 : Sg, S15 = sFR S14 709 x0 (some (sz S12)) → ∀ S17 : Sg, S17 = nw S15 13 2000 → ∀ S18 : Sg, S18 = sFR S17 710 x0 (some (sz S15)) → ∀ S20 : Sg, S20 = nw S18 13 2000 → ∀ S21 : Sg, S21 = sFR S20 711 x0 (some (sz S18)) → ∀ S23 : Sg, S23 = nw S21 13 2000 → ∀ S24 : Sg, S24 = sFR S23 712 x0 (some (sz S21)) → ∀ S26 : Sg, S26 = nw S24 13 2000 → ∀ S27 : Sg, S27 = sFR S26 713 x0 (some (sz S24)) → ∀ S29 : Sg, S29 = nw S27 13 2000 → ∀ S30 : Sg, S30 = sFR S29 714 x0 (some (sz S27)) → ∀ S32 : Sg, S32 = nw S30 13 2000 → ∀ S33 : Sg, S33 = sFR S32 715 x0 (some (sz S30)) → ∀ S35 : Sg, S35 = nw S33 14 8 → ∀ S36 : Sg, S36 = sFR S35 717 x0 (some (sz S33)) → ∀ S38 : Sg, S38 = nw S36 13 8 → ∀ S39 : Sg, S39 = sFR S38 718 x0 (some (sz S36)) → ∀ S41 : Sg, S41 = nw S39 13 8001 → ∀ S42 : Sg, S42 = sFR S41 719 x0 (some (sz S39)) → ∀ S44 : Sg, S44 = nw S42 14 8001 → ∀ S45 : Sg, S45 = sFR S44 720 x0 (some (sz S42)) → ∀ S47 : Sg, S47 = nw S45 13 64 → ∀ S48 : Sg, S48 = sFR S47 722 x0 (some (sz S45)) → ∀ S50 : Sg, S50 = nw S48 15 64 → ∀ S51 : Sg, S51 = sFR S50 723 x0 (some (sz S48)) → ∀ S53 : Sg, S53 = nw S51 14 4096 → ∀ S54 : Sg, S54 = sFR S53 724 x0 (some (sz S51)) → ∀ S56 : Sg, S56 = nw S54 13 64 → ∀ S57 : Sg, S57 = sFR S56 728 x0 (some (sz S54)) → ∀ S59 : Sg, S59 = nw S57 13 201 → ∀ S60 : Sg, S60 = sFR S59 729 x0 (some (sz S57)) → ∀ S62 : Sg, S62 = nw S60 13 201 → ∀ S63 : Sg, S63 = sFR S62 730 x0 (some (sz S60)) → ∀ S65 : Sg, S65 = nw S63 13 201 → ∀ S66 : Sg, S66 = sFR S65 731 x0 (some (sz S63)) → ∀ S68 : Sg, S68 = nw S66 13 201 → ∀ S69 : Sg, S69 = sFR S68 732 x0 (some (sz S66)) → ∀ S71 : Sg, S71 = nw S69 13 201 → ∀ S72 : Sg, S72 = sFR S71 733 x0 (some (sz S69)) → ∀ S74 : Sg, S74 = nw S72 13 201 → ∀ S75 : Sg, S75 = sFR S74 734 x0 (some (sz S72)) → ∀ S77 : Sg, S77 = nw S75 14 201 → ∀ S78 : Sg, S78 = sFR S77 735 x0 (some (sz S75)) → ∀ S80 : Sg, S80 = nw S78 13 201 → ∀ S81 : Sg, S81 = sFR S80 736 x0 (some (sz S78)) → ∀ S83 : Sg, S83 = nw S81 13 1002 → ∀ S84 : Sg, S84 = sFR S83 743 x0 (some (sz S81)) → ∀ S86 : Sg, S86 = nw S84 13 1002 → ∀ S87 : Sg, S87 = sFR S86 744 x0 (some (sz S84)) → ∀ S88 : Sg, S88 = sFI S87 750 x0 (-1 : Int32) → ∀ S90 : Sg, S90 = nw S88 14 500 → ∀ S91 : Sg, S91 = sFR S90 753 x0 (some (sz S88)) → ∀ S93 : Sg, S93 = nw S91 13 1002 → ∀ S94 : Sg, S94 = sFR S93 755 x0 (some (sz S91)) → ∃ fu100 : Nat, wX11_init_b285 fu100 x0 (0 : Int32) S94 Q
set_option maxHeartbeats 4000000 in
set_option maxRecDepth 100000 in
theorem kX11_init_l285 {p : Program} {l : Launch} {e : Env} {s : State} {m : MethodId} {args : Array Value} {below : List Frame} {meth : Method} {c : Code} {D : va_G} {cy : Nat → ClassId} {S0 : Sg} (C : gC p s m args meth c D cy cX11_init 2 yX11_init.cls none yX11_init.name) {x0 : Nat} {Q : Sg → Prop} : ∀ (fu : Nat) (x1 : Int32) (S : Sg) (H : Heap) (locs : List Loc) (ls : Array Slot) (hW : gW D cy (gA S0) (tg S0) s.heap S H locs) (t0 : tg S x0 = 12) (hl : lv_has ls 2 [(0, va_rf (some x0)), (1, .int x1)]) (hw : wX11_init_b285 fu x0 x1 S Q), W p l e { frames := 1, cells := 31, slots := 47420, locals := 20 } s m args below meth c H locs 31 47420 (MQ below (va_Qv Q (gB D cy S0) (gA S0)) args s 31 47420 (gA S0)) (F0 m 285 ls []) := by
  have hx := C.1
  have hb := C.2.1
  intro fu
  induction fu with
  | zero =>
    intro x1 S H locs ls hW t0 hl hw
    unfold wX11_init_b285 at hw
    exact hw.elim
  | succ fu ih =>
    intro x1 S H locs ls hW t0 hl hw
    unfold wX11_init_b285 at hw
    refine lv_iload_n hx hb dX11_init_285 rfl (lv_at hl 1 rfl) ?_
    refine lv_bipush (v := 64) hx hb dX11_init_286 (by decide) ?_
    refine lv_icmp_ge (tgt := 304) hx hb dX11_init_288 (by decide) (fun c95 => ?_) (fun c95 => ?_)
    · have hw := w_t hw c95
      exact gx_vret C hW (Nat.le_of_ble_eq_true rfl) (Nat.le_of_ble_eq_true rfl) hw dX11_init_304
    · have hw := w_f hw c95
      refine gx_aload_n hx hb dX11_init_291 rfl (lv_at hl 0 rfl) ?_
      refine gx_getR C hW F11_56 (k := 722) rfl t0 rfl dX11_init_292 ?_
      refine lv_iload_n hx hb dX11_init_295 rfl (lv_at hl 1 rfl) ?_
      refine lv_iconst (v := -1) hx hb dX11_init_296 (by decide) ?_
      obtain ⟨a96, ha96, ta96, hw⟩ := hw
      obtain ⟨i97, hw⟩ := hw
      refine gx_iast C hW ha96 ta96 i97 dX11_init_297 (fun H locs S98 eS98 hW hm => ?_)
      have hw := hw S98 eS98
      have t0 := hm _ _ t0
      have ta96 := hm _ _ ta96
      obtain ⟨y99, ey99⟩ : ∃ z : Int32, z = x1 + (1) := ⟨_, rfl⟩
      have hw := hw y99 ey99
      refine lv_iinc (v := y99) (lv' := [(1, .int y99), (0, va_rf (some x0))]) hx hb dX11_init_298 hl (k := 1) rfl (by rw [ey99]; rfl) (by decide) rfl (fun ls hl => ?_)
      refine lv_goto (tgt := 285) hx hb dX11_init_301 (by decide) ?_
      exact ih _ _ _ _ _ hW t0 (lv_sub hl [1, 0] rfl) hw
theorem kX11_init_b285 {p : Program} {l : Launch} {e : Env} {s : State} {m : MethodId} {args : Array Value} {below : List Frame} {meth : Method} {c : Code} {D : va_G} {cy : Nat → ClassId} {S0 : Sg} (C : gC p s m args meth c D cy cX11_init 2 yX11_init.cls none yX11_init.name) {H : Heap} {locs : List Loc} {ls : Array Slot} {x0 : Nat} {x1 : Int32} {S : Sg} {Q : Sg → Prop} (fu : Nat) (hW : gW D cy (gA S0) (tg S0) s.heap S H locs) (t0 : tg S x0 = 12) (hl : lv_has ls 2 [(0, va_rf (some x0)), (1, .int x1)]) (hw : wX11_init_b285 fu x0 x1 S Q) : W p l e { frames := 1, cells := 31, slots := 47420, locals := 20 } s m args below meth c H locs 31 47420 (MQ below (va_Qv Q (gB D cy S0) (gA S0)) args s 31 47420 (gA S0)) (F0 m 285 ls []) := kX11_init_l285 C fu _ _ _ _ _ hW t0 hl hw
set_option maxHeartbeats 4000000 in
set_option maxRecDepth 100000 in
theorem mX11_init (l : Launch) (D : va_G) (cy : Nat → ClassId) (x0 : Nat) (S0 : Sg) (Q : Sg → Prop) (t0 : tg S0 x0 = 12) (hw : wX11_init x0 S0 Q) : Met l yX11_init (.code yX11_init cX11_init 2 none :: wsL_law) { frames := 1, cells := 31, slots := 47420, locals := 20 } (gPc D cy [va_rf (some x0)] S0) (va_Qv Q (gB D cy S0) (gA S0)) 31 47420 (gA S0) := by
  refine gx_met (by decide) (Nat.le_of_ble_eq_true rfl) ?_
  intro p e s m args below meth c ls C hW hl
  have hx := C.1
  have hb := C.2.1
  have hl : lv_has ls 2 [(0, va_rf (some x0))] := hl
  unfold wX11_init at hw
  refine gx_aload_n hx hb dX11_init_0 rfl (lv_at hl 0 rfl) ?_
  refine gx_objInit C (List.mem_of_getElem? (i := 84) (by decide +kernel)) (List.mem_of_getElem? (i := 10) (by decide +kernel)) (List.mem_of_getElem? (i := 11) (by decide +kernel)) rfl hl.1 dX11_init_1 (Nat.le_of_ble_eq_true rfl) (Nat.le_of_ble_eq_true rfl) (Nat.le_of_ble_eq_true rfl) ?_
  refine gx_aload_n hx hb dX11_init_4 rfl (lv_at hl 0 rfl) ?_
  refine lv_sipush (v := 2000) hx hb dX11_init_5 (by decide) ?_
  refine gx_newa (at0 := .int) (k := 0) (K := 2000) (N := 2000) C hW (List.mem_of_getElem? (i := 33) (by decide +kernel)) (Or.inl ⟨rfl, rfl⟩) (by decide) (by decide) (by decide) (by decide) (Nat.le_of_ble_eq_true rfl) (Nat.le_of_ble_eq_true rfl) dX11_init_8 (fun H S2 eS2 hW hm t1 => ?_)
  have hw := hw S2 eS2
  have t0 := hm _ _ t0
  refine gx_putR (k := 704) C hW F11_7 (Or.inr ⟨rfl, rfl, rfl⟩) rfl rfl t0 rfl dX11_init_10 (fun H locs S3 eS3 hW hm => ?_)
  have hw := hw S3 eS3
  have t0 := hm _ _ t0
  have t1 := hm _ _ t1
  refine gx_aload_n hx hb dX11_init_13 rfl (lv_at hl 0 rfl) ?_
  refine lv_sipush (v := 2000) hx hb dX11_init_14 (by decide) ?_
  refine gx_newa (at0 := .int) (k := 0) (K := 2000) (N := 2000) C hW (List.mem_of_getElem? (i := 33) (by decide +kernel)) (Or.inl ⟨rfl, rfl⟩) (by decide) (by decide) (by decide) (by decide) (Nat.le_of_ble_eq_true rfl) (Nat.le_of_ble_eq_true rfl) dX11_init_17 (fun H S5 eS5 hW hm t4 => ?_)
  have hw := hw S5 eS5
  have t0 := hm _ _ t0
  have t1 := hm _ _ t1
  refine gx_putR (k := 705) C hW F11_13 (Or.inr ⟨rfl, rfl, rfl⟩) rfl rfl t0 rfl dX11_init_19 (fun H locs S6 eS6 hW hm => ?_)
  have hw := hw S6 eS6
  have t0 := hm _ _ t0
  have t1 := hm _ _ t1
  have t4 := hm _ _ t4
  refine gx_aload_n hx hb dX11_init_22 rfl (lv_at hl 0 rfl) ?_
  refine lv_sipush (v := 2000) hx hb dX11_init_23 (by decide) ?_
  refine gx_newa (at0 := .int) (k := 0) (K := 2000) (N := 2000) C hW (List.mem_of_getElem? (i := 33) (by decide +kernel)) (Or.inl ⟨rfl, rfl⟩) (by decide) (by decide) (by decide) (by decide) (Nat.le_of_ble_eq_true rfl) (Nat.le_of_ble_eq_true rfl) dX11_init_26 (fun H S8 eS8 hW hm t7 => ?_)
  have hw := hw S8 eS8
  have t0 := hm _ _ t0
  have t1 := hm _ _ t1
  have t4 := hm _ _ t4
  refine gx_putR (k := 706) C hW F11_16 (Or.inr ⟨rfl, rfl, rfl⟩) rfl rfl t0 rfl dX11_init_28 (fun H locs S9 eS9 hW hm => ?_)
  have hw := hw S9 eS9
  have t0 := hm _ _ t0
  have t1 := hm _ _ t1
  have t4 := hm _ _ t4
  have t7 := hm _ _ t7
  refine gx_aload_n hx hb dX11_init_31 rfl (lv_at hl 0 rfl) ?_
  refine lv_sipush (v := 2000) hx hb dX11_init_32 (by decide) ?_
  refine gx_newa (at0 := .int) (k := 0) (K := 2000) (N := 2000) C hW (List.mem_of_getElem? (i := 33) (by decide +kernel)) (Or.inl ⟨rfl, rfl⟩) (by decide) (by decide) (by decide) (by decide) (Nat.le_of_ble_eq_true rfl) (Nat.le_of_ble_eq_true rfl) dX11_init_35 (fun H S11 eS11 hW hm t10 => ?_)
  have hw := hw S11 eS11
  have t0 := hm _ _ t0
  have t1 := hm _ _ t1
  have t4 := hm _ _ t4
  have t7 := hm _ _ t7
  refine gx_putR (k := 707) C hW F11_19 (Or.inr ⟨rfl, rfl, rfl⟩) rfl rfl t0 rfl dX11_init_37 (fun H locs S12 eS12 hW hm => ?_)
  have hw := hw S12 eS12
  have t0 := hm _ _ t0
  have t1 := hm _ _ t1
  have t4 := hm _ _ t4
  have t7 := hm _ _ t7
  have t10 := hm _ _ t10
  refine gx_aload_n hx hb dX11_init_40 rfl (lv_at hl 0 rfl) ?_
  refine lv_sipush (v := 2000) hx hb dX11_init_41 (by decide) ?_
  refine gx_newa (at0 := .int) (k := 0) (K := 2000) (N := 2000) C hW (List.mem_of_getElem? (i := 33) (by decide +kernel)) (Or.inl ⟨rfl, rfl⟩) (by decide) (by decide) (by decide) (by decide) (Nat.le_of_ble_eq_true rfl) (Nat.le_of_ble_eq_true rfl) dX11_init_44 (fun H S14 eS14 hW hm t13 => ?_)
  have hw := hw S14 eS14
  have t0 := hm _ _ t0
  have t1 := hm _ _ t1
  have t4 := hm _ _ t4
  have t7 := hm _ _ t7
  have t10 := hm _ _ t10
  refine gx_putR (k := 709) C hW F11_22 (Or.inr ⟨rfl, rfl, rfl⟩) rfl rfl t0 rfl dX11_init_46 (fun H locs S15 eS15 hW hm => ?_)
  have hw := hw S15 eS15
  have t0 := hm _ _ t0
  have t1 := hm _ _ t1
  have t4 := hm _ _ t4
  have t7 := hm _ _ t7
  have t10 := hm _ _ t10
  have t13 := hm _ _ t13
  refine gx_aload_n hx hb dX11_init_49 rfl (lv_at hl 0 rfl) ?_
  refine lv_sipush (v := 2000) hx hb dX11_init_50 (by decide) ?_
  refine gx_newa (at0 := .int) (k := 0) (K := 2000) (N := 2000) C hW (List.mem_of_getElem? (i := 33) (by decide +kernel)) (Or.inl ⟨rfl, rfl⟩) (by decide) (by decide) (by decide) (by decide) (Nat.le_of_ble_eq_true rfl) (Nat.le_of_ble_eq_true rfl) dX11_init_53 (fun H S17 eS17 hW hm t16 => ?_)
  have hw := hw S17 eS17
  have t0 := hm _ _ t0
  have t1 := hm _ _ t1
  have t4 := hm _ _ t4
  have t7 := hm _ _ t7
  have t10 := hm _ _ t10
  have t13 := hm _ _ t13
  refine gx_putR (k := 710) C hW F11_25 (Or.inr ⟨rfl, rfl, rfl⟩) rfl rfl t0 rfl dX11_init_55 (fun H locs S18 eS18 hW hm => ?_)
  have hw := hw S18 eS18
  have t0 := hm _ _ t0
  have t1 := hm _ _ t1
  have t4 := hm _ _ t4
  have t7 := hm _ _ t7
  have t10 := hm _ _ t10
  have t13 := hm _ _ t13
  have t16 := hm _ _ t16
  refine gx_aload_n hx hb dX11_init_58 rfl (lv_at hl 0 rfl) ?_
  refine lv_sipush (v := 2000) hx hb dX11_init_59 (by decide) ?_
  refine gx_newa (at0 := .int) (k := 0) (K := 2000) (N := 2000) C hW (List.mem_of_getElem? (i := 33) (by decide +kernel)) (Or.inl ⟨rfl, rfl⟩) (by decide) (by decide) (by decide) (by decide) (Nat.le_of_ble_eq_true rfl) (Nat.le_of_ble_eq_true rfl) dX11_init_62 (fun H S20 eS20 hW hm t19 => ?_)
  have hw := hw S20 eS20
  have t0 := hm _ _ t0
  have t1 := hm _ _ t1
  have t4 := hm _ _ t4
  have t7 := hm _ _ t7
  have t10 := hm _ _ t10
  have t13 := hm _ _ t13
  have t16 := hm _ _ t16
  refine gx_putR (k := 711) C hW F11_28 (Or.inr ⟨rfl, rfl, rfl⟩) rfl rfl t0 rfl dX11_init_64 (fun H locs S21 eS21 hW hm => ?_)
  have hw := hw S21 eS21
  have t0 := hm _ _ t0
  have t1 := hm _ _ t1
  have t4 := hm _ _ t4
  have t7 := hm _ _ t7
  have t10 := hm _ _ t10
  have t13 := hm _ _ t13
  have t16 := hm _ _ t16
  have t19 := hm _ _ t19
  refine gx_aload_n hx hb dX11_init_67 rfl (lv_at hl 0 rfl) ?_
  refine lv_sipush (v := 2000) hx hb dX11_init_68 (by decide) ?_
  refine gx_newa (at0 := .int) (k := 0) (K := 2000) (N := 2000) C hW (List.mem_of_getElem? (i := 33) (by decide +kernel)) (Or.inl ⟨rfl, rfl⟩) (by decide) (by decide) (by decide) (by decide) (Nat.le_of_ble_eq_true rfl) (Nat.le_of_ble_eq_true rfl) dX11_init_71 (fun H S23 eS23 hW hm t22 => ?_)
  have hw := hw S23 eS23
  have t0 := hm _ _ t0
  have t1 := hm _ _ t1
  have t4 := hm _ _ t4
  have t7 := hm _ _ t7
  have t10 := hm _ _ t10
  have t13 := hm _ _ t13
  have t16 := hm _ _ t16
  have t19 := hm _ _ t19
  refine gx_putR (k := 712) C hW F11_31 (Or.inr ⟨rfl, rfl, rfl⟩) rfl rfl t0 rfl dX11_init_73 (fun H locs S24 eS24 hW hm => ?_)
  have hw := hw S24 eS24
  have t0 := hm _ _ t0
  have t1 := hm _ _ t1
  have t4 := hm _ _ t4
  have t7 := hm _ _ t7
  have t10 := hm _ _ t10
  have t13 := hm _ _ t13
  have t16 := hm _ _ t16
  have t19 := hm _ _ t19
  have t22 := hm _ _ t22
  refine gx_aload_n hx hb dX11_init_76 rfl (lv_at hl 0 rfl) ?_
  refine lv_sipush (v := 2000) hx hb dX11_init_77 (by decide) ?_
  refine gx_newa (at0 := .int) (k := 0) (K := 2000) (N := 2000) C hW (List.mem_of_getElem? (i := 33) (by decide +kernel)) (Or.inl ⟨rfl, rfl⟩) (by decide) (by decide) (by decide) (by decide) (Nat.le_of_ble_eq_true rfl) (Nat.le_of_ble_eq_true rfl) dX11_init_80 (fun H S26 eS26 hW hm t25 => ?_)
  have hw := hw S26 eS26
  have t0 := hm _ _ t0
  have t1 := hm _ _ t1
  have t4 := hm _ _ t4
  have t7 := hm _ _ t7
  have t10 := hm _ _ t10
  have t13 := hm _ _ t13
  have t16 := hm _ _ t16
  have t19 := hm _ _ t19
  have t22 := hm _ _ t22
  refine gx_putR (k := 713) C hW F11_34 (Or.inr ⟨rfl, rfl, rfl⟩) rfl rfl t0 rfl dX11_init_82 (fun H locs S27 eS27 hW hm => ?_)
  have hw := hw S27 eS27
  have t0 := hm _ _ t0
  have t1 := hm _ _ t1
  have t4 := hm _ _ t4
  have t7 := hm _ _ t7
  have t10 := hm _ _ t10
  have t13 := hm _ _ t13
  have t16 := hm _ _ t16
  have t19 := hm _ _ t19
  have t22 := hm _ _ t22
  have t25 := hm _ _ t25
  refine gx_aload_n hx hb dX11_init_85 rfl (lv_at hl 0 rfl) ?_
  refine lv_sipush (v := 2000) hx hb dX11_init_86 (by decide) ?_
  refine gx_newa (at0 := .int) (k := 0) (K := 2000) (N := 2000) C hW (List.mem_of_getElem? (i := 33) (by decide +kernel)) (Or.inl ⟨rfl, rfl⟩) (by decide) (by decide) (by decide) (by decide) (Nat.le_of_ble_eq_true rfl) (Nat.le_of_ble_eq_true rfl) dX11_init_89 (fun H S29 eS29 hW hm t28 => ?_)
  have hw := hw S29 eS29
  have t0 := hm _ _ t0
  have t1 := hm _ _ t1
  have t4 := hm _ _ t4
  have t7 := hm _ _ t7
  have t10 := hm _ _ t10
  have t13 := hm _ _ t13
  have t16 := hm _ _ t16
  have t19 := hm _ _ t19
  have t22 := hm _ _ t22
  have t25 := hm _ _ t25
  refine gx_putR (k := 714) C hW F11_37 (Or.inr ⟨rfl, rfl, rfl⟩) rfl rfl t0 rfl dX11_init_91 (fun H locs S30 eS30 hW hm => ?_)
  have hw := hw S30 eS30
  have t0 := hm _ _ t0
  have t1 := hm _ _ t1
  have t4 := hm _ _ t4
  have t7 := hm _ _ t7
  have t10 := hm _ _ t10
  have t13 := hm _ _ t13
  have t16 := hm _ _ t16
  have t19 := hm _ _ t19
  have t22 := hm _ _ t22
  have t25 := hm _ _ t25
  have t28 := hm _ _ t28
  refine gx_aload_n hx hb dX11_init_94 rfl (lv_at hl 0 rfl) ?_
  refine lv_sipush (v := 2000) hx hb dX11_init_95 (by decide) ?_
  refine gx_newa (at0 := .int) (k := 0) (K := 2000) (N := 2000) C hW (List.mem_of_getElem? (i := 33) (by decide +kernel)) (Or.inl ⟨rfl, rfl⟩) (by decide) (by decide) (by decide) (by decide) (Nat.le_of_ble_eq_true rfl) (Nat.le_of_ble_eq_true rfl) dX11_init_98 (fun H S32 eS32 hW hm t31 => ?_)
  have hw := hw S32 eS32
  have t0 := hm _ _ t0
  have t1 := hm _ _ t1
  have t4 := hm _ _ t4
  have t7 := hm _ _ t7
  have t10 := hm _ _ t10
  have t13 := hm _ _ t13
  have t16 := hm _ _ t16
  have t19 := hm _ _ t19
  have t22 := hm _ _ t22
  have t25 := hm _ _ t25
  have t28 := hm _ _ t28
  refine gx_putR (k := 715) C hW F11_40 (Or.inr ⟨rfl, rfl, rfl⟩) rfl rfl t0 rfl dX11_init_100 (fun H locs S33 eS33 hW hm => ?_)
  have hw := hw S33 eS33
  have t0 := hm _ _ t0
  have t1 := hm _ _ t1
  have t4 := hm _ _ t4
  have t7 := hm _ _ t7
  have t10 := hm _ _ t10
  have t13 := hm _ _ t13
  have t16 := hm _ _ t16
  have t19 := hm _ _ t19
  have t22 := hm _ _ t22
  have t25 := hm _ _ t25
  have t28 := hm _ _ t28
  have t31 := hm _ _ t31
  refine gx_aload_n hx hb dX11_init_103 rfl (lv_at hl 0 rfl) ?_
  refine lv_bipush (v := 8) hx hb dX11_init_104 (by decide) ?_
  refine gx_newa (at0 := .long) (k := 1) (K := 8) (N := 8) C hW (List.mem_of_getElem? (i := 38) (by decide +kernel)) (Or.inr (Or.inl ⟨rfl, rfl⟩)) (by decide) (by decide) (by decide) (by decide) (Nat.le_of_ble_eq_true rfl) (Nat.le_of_ble_eq_true rfl) dX11_init_106 (fun H S35 eS35 hW hm t34 => ?_)
  have hw := hw S35 eS35
  have t0 := hm _ _ t0
  have t1 := hm _ _ t1
  have t4 := hm _ _ t4
  have t7 := hm _ _ t7
  have t10 := hm _ _ t10
  have t13 := hm _ _ t13
  have t16 := hm _ _ t16
  have t19 := hm _ _ t19
  have t22 := hm _ _ t22
  have t25 := hm _ _ t25
  have t28 := hm _ _ t28
  have t31 := hm _ _ t31
  refine gx_putR (k := 717) C hW F11_43 (Or.inr ⟨rfl, rfl, rfl⟩) rfl rfl t0 rfl dX11_init_108 (fun H locs S36 eS36 hW hm => ?_)
  have hw := hw S36 eS36
  have t0 := hm _ _ t0
  have t1 := hm _ _ t1
  have t4 := hm _ _ t4
  have t7 := hm _ _ t7
  have t10 := hm _ _ t10
  have t13 := hm _ _ t13
  have t16 := hm _ _ t16
  have t19 := hm _ _ t19
  have t22 := hm _ _ t22
  have t25 := hm _ _ t25
  have t28 := hm _ _ t28
  have t31 := hm _ _ t31
  have t34 := hm _ _ t34
  refine gx_aload_n hx hb dX11_init_111 rfl (lv_at hl 0 rfl) ?_
  refine lv_bipush (v := 8) hx hb dX11_init_112 (by decide) ?_
  refine gx_newa (at0 := .int) (k := 0) (K := 8) (N := 8) C hW (List.mem_of_getElem? (i := 33) (by decide +kernel)) (Or.inl ⟨rfl, rfl⟩) (by decide) (by decide) (by decide) (by decide) (Nat.le_of_ble_eq_true rfl) (Nat.le_of_ble_eq_true rfl) dX11_init_114 (fun H S38 eS38 hW hm t37 => ?_)
  have hw := hw S38 eS38
  have t0 := hm _ _ t0
  have t1 := hm _ _ t1
  have t4 := hm _ _ t4
  have t7 := hm _ _ t7
  have t10 := hm _ _ t10
  have t13 := hm _ _ t13
  have t16 := hm _ _ t16
  have t19 := hm _ _ t19
  have t22 := hm _ _ t22
  have t25 := hm _ _ t25
  have t28 := hm _ _ t28
  have t31 := hm _ _ t31
  have t34 := hm _ _ t34
  refine gx_putR (k := 718) C hW F11_47 (Or.inr ⟨rfl, rfl, rfl⟩) rfl rfl t0 rfl dX11_init_116 (fun H locs S39 eS39 hW hm => ?_)
  have hw := hw S39 eS39
  have t0 := hm _ _ t0
  have t1 := hm _ _ t1
  have t4 := hm _ _ t4
  have t7 := hm _ _ t7
  have t10 := hm _ _ t10
  have t13 := hm _ _ t13
  have t16 := hm _ _ t16
  have t19 := hm _ _ t19
  have t22 := hm _ _ t22
  have t25 := hm _ _ t25
  have t28 := hm _ _ t28
  have t31 := hm _ _ t31
  have t34 := hm _ _ t34
  have t37 := hm _ _ t37
  refine gx_aload_n hx hb dX11_init_119 rfl (lv_at hl 0 rfl) ?_
  refine lv_sipush (v := 8001) hx hb dX11_init_120 (by decide) ?_
  refine gx_newa (at0 := .int) (k := 0) (K := 8001) (N := 8001) C hW (List.mem_of_getElem? (i := 33) (by decide +kernel)) (Or.inl ⟨rfl, rfl⟩) (by decide) (by decide) (by decide) (by decide) (Nat.le_of_ble_eq_true rfl) (Nat.le_of_ble_eq_true rfl) dX11_init_123 (fun H S41 eS41 hW hm t40 => ?_)
  have hw := hw S41 eS41
  have t0 := hm _ _ t0
  have t1 := hm _ _ t1
  have t4 := hm _ _ t4
  have t7 := hm _ _ t7
  have t10 := hm _ _ t10
  have t13 := hm _ _ t13
  have t16 := hm _ _ t16
  have t19 := hm _ _ t19
  have t22 := hm _ _ t22
  have t25 := hm _ _ t25
  have t28 := hm _ _ t28
  have t31 := hm _ _ t31
  have t34 := hm _ _ t34
  have t37 := hm _ _ t37
  refine gx_putR (k := 719) C hW F11_50 (Or.inr ⟨rfl, rfl, rfl⟩) rfl rfl t0 rfl dX11_init_125 (fun H locs S42 eS42 hW hm => ?_)
  have hw := hw S42 eS42
  have t0 := hm _ _ t0
  have t1 := hm _ _ t1
  have t4 := hm _ _ t4
  have t7 := hm _ _ t7
  have t10 := hm _ _ t10
  have t13 := hm _ _ t13
  have t16 := hm _ _ t16
  have t19 := hm _ _ t19
  have t22 := hm _ _ t22
  have t25 := hm _ _ t25
  have t28 := hm _ _ t28
  have t31 := hm _ _ t31
  have t34 := hm _ _ t34
  have t37 := hm _ _ t37
  have t40 := hm _ _ t40
  refine gx_aload_n hx hb dX11_init_128 rfl (lv_at hl 0 rfl) ?_
  refine lv_sipush (v := 8001) hx hb dX11_init_129 (by decide) ?_
  refine gx_newa (at0 := .long) (k := 1) (K := 8001) (N := 8001) C hW (List.mem_of_getElem? (i := 38) (by decide +kernel)) (Or.inr (Or.inl ⟨rfl, rfl⟩)) (by decide) (by decide) (by decide) (by decide) (Nat.le_of_ble_eq_true rfl) (Nat.le_of_ble_eq_true rfl) dX11_init_132 (fun H S44 eS44 hW hm t43 => ?_)
  have hw := hw S44 eS44
  have t0 := hm _ _ t0
  have t1 := hm _ _ t1
  have t4 := hm _ _ t4
  have t7 := hm _ _ t7
  have t10 := hm _ _ t10
  have t13 := hm _ _ t13
  have t16 := hm _ _ t16
  have t19 := hm _ _ t19
  have t22 := hm _ _ t22
  have t25 := hm _ _ t25
  have t28 := hm _ _ t28
  have t31 := hm _ _ t31
  have t34 := hm _ _ t34
  have t37 := hm _ _ t37
  have t40 := hm _ _ t40
  refine gx_putR (k := 720) C hW F11_53 (Or.inr ⟨rfl, rfl, rfl⟩) rfl rfl t0 rfl dX11_init_134 (fun H locs S45 eS45 hW hm => ?_)
  have hw := hw S45 eS45
  have t0 := hm _ _ t0
  have t1 := hm _ _ t1
  have t4 := hm _ _ t4
  have t7 := hm _ _ t7
  have t10 := hm _ _ t10
  have t13 := hm _ _ t13
  have t16 := hm _ _ t16
  have t19 := hm _ _ t19
  have t22 := hm _ _ t22
  have t25 := hm _ _ t25
  have t28 := hm _ _ t28
  have t31 := hm _ _ t31
  have t34 := hm _ _ t34
  have t37 := hm _ _ t37
  have t40 := hm _ _ t40
  have t43 := hm _ _ t43
  refine gx_aload_n hx hb dX11_init_137 rfl (lv_at hl 0 rfl) ?_
  refine lv_bipush (v := 64) hx hb dX11_init_138 (by decide) ?_
  refine gx_newa (at0 := .int) (k := 0) (K := 64) (N := 64) C hW (List.mem_of_getElem? (i := 33) (by decide +kernel)) (Or.inl ⟨rfl, rfl⟩) (by decide) (by decide) (by decide) (by decide) (Nat.le_of_ble_eq_true rfl) (Nat.le_of_ble_eq_true rfl) dX11_init_140 (fun H S47 eS47 hW hm t46 => ?_)
  have hw := hw S47 eS47
  have t0 := hm _ _ t0
  have t1 := hm _ _ t1
  have t4 := hm _ _ t4
  have t7 := hm _ _ t7
  have t10 := hm _ _ t10
  have t13 := hm _ _ t13
  have t16 := hm _ _ t16
  have t19 := hm _ _ t19
  have t22 := hm _ _ t22
  have t25 := hm _ _ t25
  have t28 := hm _ _ t28
  have t31 := hm _ _ t31
  have t34 := hm _ _ t34
  have t37 := hm _ _ t37
  have t40 := hm _ _ t40
  have t43 := hm _ _ t43
  refine gx_putR (k := 722) C hW F11_56 (Or.inr ⟨rfl, rfl, rfl⟩) rfl rfl t0 rfl dX11_init_142 (fun H locs S48 eS48 hW hm => ?_)
  have hw := hw S48 eS48
  have t0 := hm _ _ t0
  have t1 := hm _ _ t1
  have t4 := hm _ _ t4
  have t7 := hm _ _ t7
  have t10 := hm _ _ t10
  have t13 := hm _ _ t13
  have t16 := hm _ _ t16
  have t19 := hm _ _ t19
  have t22 := hm _ _ t22
  have t25 := hm _ _ t25
  have t28 := hm _ _ t28
  have t31 := hm _ _ t31
  have t34 := hm _ _ t34
  have t37 := hm _ _ t37
  have t40 := hm _ _ t40
  have t43 := hm _ _ t43
  have t46 := hm _ _ t46
  refine gx_aload_n hx hb dX11_init_145 rfl (lv_at hl 0 rfl) ?_
  refine lv_bipush (v := 64) hx hb dX11_init_146 (by decide) ?_
  refine gx_newa (at0 := .boolean) (k := 2) (K := 64) (N := 64) C hW (List.mem_of_getElem? (i := 101) (by decide +kernel)) (Or.inr (Or.inr ⟨rfl, rfl⟩)) (by decide) (by decide) (by decide) (by decide) (Nat.le_of_ble_eq_true rfl) (Nat.le_of_ble_eq_true rfl) dX11_init_148 (fun H S50 eS50 hW hm t49 => ?_)
  have hw := hw S50 eS50
  have t0 := hm _ _ t0
  have t1 := hm _ _ t1
  have t4 := hm _ _ t4
  have t7 := hm _ _ t7
  have t10 := hm _ _ t10
  have t13 := hm _ _ t13
  have t16 := hm _ _ t16
  have t19 := hm _ _ t19
  have t22 := hm _ _ t22
  have t25 := hm _ _ t25
  have t28 := hm _ _ t28
  have t31 := hm _ _ t31
  have t34 := hm _ _ t34
  have t37 := hm _ _ t37
  have t40 := hm _ _ t40
  have t43 := hm _ _ t43
  have t46 := hm _ _ t46
  refine gx_putR (k := 723) C hW F11_59 (Or.inr ⟨rfl, rfl, rfl⟩) rfl rfl t0 rfl dX11_init_150 (fun H locs S51 eS51 hW hm => ?_)
  have hw := hw S51 eS51
  have t0 := hm _ _ t0
  have t1 := hm _ _ t1
  have t4 := hm _ _ t4
  have t7 := hm _ _ t7
  have t10 := hm _ _ t10
  have t13 := hm _ _ t13
  have t16 := hm _ _ t16
  have t19 := hm _ _ t19
  have t22 := hm _ _ t22
  have t25 := hm _ _ t25
  have t28 := hm _ _ t28
  have t31 := hm _ _ t31
  have t34 := hm _ _ t34
  have t37 := hm _ _ t37
  have t40 := hm _ _ t40
  have t43 := hm _ _ t43
  have t46 := hm _ _ t46
  have t49 := hm _ _ t49
  refine gx_aload_n hx hb dX11_init_153 rfl (lv_at hl 0 rfl) ?_
  refine lv_sipush (v := 4096) hx hb dX11_init_154 (by decide) ?_
  refine gx_newa (at0 := .long) (k := 1) (K := 4096) (N := 4096) C hW (List.mem_of_getElem? (i := 38) (by decide +kernel)) (Or.inr (Or.inl ⟨rfl, rfl⟩)) (by decide) (by decide) (by decide) (by decide) (Nat.le_of_ble_eq_true rfl) (Nat.le_of_ble_eq_true rfl) dX11_init_157 (fun H S53 eS53 hW hm t52 => ?_)
  have hw := hw S53 eS53
  have t0 := hm _ _ t0
  have t1 := hm _ _ t1
  have t4 := hm _ _ t4
  have t7 := hm _ _ t7
  have t10 := hm _ _ t10
  have t13 := hm _ _ t13
  have t16 := hm _ _ t16
  have t19 := hm _ _ t19
  have t22 := hm _ _ t22
  have t25 := hm _ _ t25
  have t28 := hm _ _ t28
  have t31 := hm _ _ t31
  have t34 := hm _ _ t34
  have t37 := hm _ _ t37
  have t40 := hm _ _ t40
  have t43 := hm _ _ t43
  have t46 := hm _ _ t46
  have t49 := hm _ _ t49
  refine gx_putR (k := 724) C hW F11_63 (Or.inr ⟨rfl, rfl, rfl⟩) rfl rfl t0 rfl dX11_init_159 (fun H locs S54 eS54 hW hm => ?_)
  have hw := hw S54 eS54
  have t0 := hm _ _ t0
  have t1 := hm _ _ t1
  have t4 := hm _ _ t4
  have t7 := hm _ _ t7
  have t10 := hm _ _ t10
  have t13 := hm _ _ t13
  have t16 := hm _ _ t16
  have t19 := hm _ _ t19
  have t22 := hm _ _ t22
  have t25 := hm _ _ t25
  have t28 := hm _ _ t28
  have t31 := hm _ _ t31
  have t34 := hm _ _ t34
  have t37 := hm _ _ t37
  have t40 := hm _ _ t40
  have t43 := hm _ _ t43
  have t46 := hm _ _ t46
  have t49 := hm _ _ t49
  have t52 := hm _ _ t52
  refine gx_aload_n hx hb dX11_init_162 rfl (lv_at hl 0 rfl) ?_
  refine lv_bipush (v := 64) hx hb dX11_init_163 (by decide) ?_
  refine gx_newa (at0 := .int) (k := 0) (K := 64) (N := 64) C hW (List.mem_of_getElem? (i := 33) (by decide +kernel)) (Or.inl ⟨rfl, rfl⟩) (by decide) (by decide) (by decide) (by decide) (Nat.le_of_ble_eq_true rfl) (Nat.le_of_ble_eq_true rfl) dX11_init_165 (fun H S56 eS56 hW hm t55 => ?_)
  have hw := hw S56 eS56
  have t0 := hm _ _ t0
  have t1 := hm _ _ t1
  have t4 := hm _ _ t4
  have t7 := hm _ _ t7
  have t10 := hm _ _ t10
  have t13 := hm _ _ t13
  have t16 := hm _ _ t16
  have t19 := hm _ _ t19
  have t22 := hm _ _ t22
  have t25 := hm _ _ t25
  have t28 := hm _ _ t28
  have t31 := hm _ _ t31
  have t34 := hm _ _ t34
  have t37 := hm _ _ t37
  have t40 := hm _ _ t40
  have t43 := hm _ _ t43
  have t46 := hm _ _ t46
  have t49 := hm _ _ t49
  have t52 := hm _ _ t52
  refine gx_putR (k := 728) C hW F11_66 (Or.inr ⟨rfl, rfl, rfl⟩) rfl rfl t0 rfl dX11_init_167 (fun H locs S57 eS57 hW hm => ?_)
  have hw := hw S57 eS57
  have t0 := hm _ _ t0
  have t1 := hm _ _ t1
  have t4 := hm _ _ t4
  have t7 := hm _ _ t7
  have t10 := hm _ _ t10
  have t13 := hm _ _ t13
  have t16 := hm _ _ t16
  have t19 := hm _ _ t19
  have t22 := hm _ _ t22
  have t25 := hm _ _ t25
  have t28 := hm _ _ t28
  have t31 := hm _ _ t31
  have t34 := hm _ _ t34
  have t37 := hm _ _ t37
  have t40 := hm _ _ t40
  have t43 := hm _ _ t43
  have t46 := hm _ _ t46
  have t49 := hm _ _ t49
  have t52 := hm _ _ t52
  have t55 := hm _ _ t55
  refine gx_aload_n hx hb dX11_init_170 rfl (lv_at hl 0 rfl) ?_
  refine lv_sipush (v := 201) hx hb dX11_init_171 (by decide) ?_
  refine gx_newa (at0 := .int) (k := 0) (K := 201) (N := 201) C hW (List.mem_of_getElem? (i := 33) (by decide +kernel)) (Or.inl ⟨rfl, rfl⟩) (by decide) (by decide) (by decide) (by decide) (Nat.le_of_ble_eq_true rfl) (Nat.le_of_ble_eq_true rfl) dX11_init_174 (fun H S59 eS59 hW hm t58 => ?_)
  have hw := hw S59 eS59
  have t0 := hm _ _ t0
  have t1 := hm _ _ t1
  have t4 := hm _ _ t4
  have t7 := hm _ _ t7
  have t10 := hm _ _ t10
  have t13 := hm _ _ t13
  have t16 := hm _ _ t16
  have t19 := hm _ _ t19
  have t22 := hm _ _ t22
  have t25 := hm _ _ t25
  have t28 := hm _ _ t28
  have t31 := hm _ _ t31
  have t34 := hm _ _ t34
  have t37 := hm _ _ t37
  have t40 := hm _ _ t40
  have t43 := hm _ _ t43
  have t46 := hm _ _ t46
  have t49 := hm _ _ t49
  have t52 := hm _ _ t52
  have t55 := hm _ _ t55
  refine gx_putR (k := 729) C hW F11_69 (Or.inr ⟨rfl, rfl, rfl⟩) rfl rfl t0 rfl dX11_init_176 (fun H locs S60 eS60 hW hm => ?_)
  have hw := hw S60 eS60
  have t0 := hm _ _ t0
  have t1 := hm _ _ t1
  have t4 := hm _ _ t4
  have t7 := hm _ _ t7
  have t10 := hm _ _ t10
  have t13 := hm _ _ t13
  have t16 := hm _ _ t16
  have t19 := hm _ _ t19
  have t22 := hm _ _ t22
  have t25 := hm _ _ t25
  have t28 := hm _ _ t28
  have t31 := hm _ _ t31
  have t34 := hm _ _ t34
  have t37 := hm _ _ t37
  have t40 := hm _ _ t40
  have t43 := hm _ _ t43
  have t46 := hm _ _ t46
  have t49 := hm _ _ t49
  have t52 := hm _ _ t52
  have t55 := hm _ _ t55
  have t58 := hm _ _ t58
  refine gx_aload_n hx hb dX11_init_179 rfl (lv_at hl 0 rfl) ?_
  refine lv_sipush (v := 201) hx hb dX11_init_180 (by decide) ?_
  refine gx_newa (at0 := .int) (k := 0) (K := 201) (N := 201) C hW (List.mem_of_getElem? (i := 33) (by decide +kernel)) (Or.inl ⟨rfl, rfl⟩) (by decide) (by decide) (by decide) (by decide) (Nat.le_of_ble_eq_true rfl) (Nat.le_of_ble_eq_true rfl) dX11_init_183 (fun H S62 eS62 hW hm t61 => ?_)
  have hw := hw S62 eS62
  have t0 := hm _ _ t0
  have t1 := hm _ _ t1
  have t4 := hm _ _ t4
  have t7 := hm _ _ t7
  have t10 := hm _ _ t10
  have t13 := hm _ _ t13
  have t16 := hm _ _ t16
  have t19 := hm _ _ t19
  have t22 := hm _ _ t22
  have t25 := hm _ _ t25
  have t28 := hm _ _ t28
  have t31 := hm _ _ t31
  have t34 := hm _ _ t34
  have t37 := hm _ _ t37
  have t40 := hm _ _ t40
  have t43 := hm _ _ t43
  have t46 := hm _ _ t46
  have t49 := hm _ _ t49
  have t52 := hm _ _ t52
  have t55 := hm _ _ t55
  have t58 := hm _ _ t58
  refine gx_putR (k := 730) C hW F11_72 (Or.inr ⟨rfl, rfl, rfl⟩) rfl rfl t0 rfl dX11_init_185 (fun H locs S63 eS63 hW hm => ?_)
  have hw := hw S63 eS63
  have t0 := hm _ _ t0
  have t1 := hm _ _ t1
  have t4 := hm _ _ t4
  have t7 := hm _ _ t7
  have t10 := hm _ _ t10
  have t13 := hm _ _ t13
  have t16 := hm _ _ t16
  have t19 := hm _ _ t19
  have t22 := hm _ _ t22
  have t25 := hm _ _ t25
  have t28 := hm _ _ t28
  have t31 := hm _ _ t31
  have t34 := hm _ _ t34
  have t37 := hm _ _ t37
  have t40 := hm _ _ t40
  have t43 := hm _ _ t43
  have t46 := hm _ _ t46
  have t49 := hm _ _ t49
  have t52 := hm _ _ t52
  have t55 := hm _ _ t55
  have t58 := hm _ _ t58
  have t61 := hm _ _ t61
  refine gx_aload_n hx hb dX11_init_188 rfl (lv_at hl 0 rfl) ?_
  refine lv_sipush (v := 201) hx hb dX11_init_189 (by decide) ?_
  refine gx_newa (at0 := .int) (k := 0) (K := 201) (N := 201) C hW (List.mem_of_getElem? (i := 33) (by decide +kernel)) (Or.inl ⟨rfl, rfl⟩) (by decide) (by decide) (by decide) (by decide) (Nat.le_of_ble_eq_true rfl) (Nat.le_of_ble_eq_true rfl) dX11_init_192 (fun H S65 eS65 hW hm t64 => ?_)
  have hw := hw S65 eS65
  have t0 := hm _ _ t0
  have t1 := hm _ _ t1
  have t4 := hm _ _ t4
  have t7 := hm _ _ t7
  have t10 := hm _ _ t10
  have t13 := hm _ _ t13
  have t16 := hm _ _ t16
  have t19 := hm _ _ t19
  have t22 := hm _ _ t22
  have t25 := hm _ _ t25
  have t28 := hm _ _ t28
  have t31 := hm _ _ t31
  have t34 := hm _ _ t34
  have t37 := hm _ _ t37
  have t40 := hm _ _ t40
  have t43 := hm _ _ t43
  have t46 := hm _ _ t46
  have t49 := hm _ _ t49
  have t52 := hm _ _ t52
  have t55 := hm _ _ t55
  have t58 := hm _ _ t58
  have t61 := hm _ _ t61
  refine gx_putR (k := 731) C hW F11_75 (Or.inr ⟨rfl, rfl, rfl⟩) rfl rfl t0 rfl dX11_init_194 (fun H locs S66 eS66 hW hm => ?_)
  have hw := hw S66 eS66
  have t0 := hm _ _ t0
  have t1 := hm _ _ t1
  have t4 := hm _ _ t4
  have t7 := hm _ _ t7
  have t10 := hm _ _ t10
  have t13 := hm _ _ t13
  have t16 := hm _ _ t16
  have t19 := hm _ _ t19
  have t22 := hm _ _ t22
  have t25 := hm _ _ t25
  have t28 := hm _ _ t28
  have t31 := hm _ _ t31
  have t34 := hm _ _ t34
  have t37 := hm _ _ t37
  have t40 := hm _ _ t40
  have t43 := hm _ _ t43
  have t46 := hm _ _ t46
  have t49 := hm _ _ t49
  have t52 := hm _ _ t52
  have t55 := hm _ _ t55
  have t58 := hm _ _ t58
  have t61 := hm _ _ t61
  have t64 := hm _ _ t64
  refine gx_aload_n hx hb dX11_init_197 rfl (lv_at hl 0 rfl) ?_
  refine lv_sipush (v := 201) hx hb dX11_init_198 (by decide) ?_
  refine gx_newa (at0 := .int) (k := 0) (K := 201) (N := 201) C hW (List.mem_of_getElem? (i := 33) (by decide +kernel)) (Or.inl ⟨rfl, rfl⟩) (by decide) (by decide) (by decide) (by decide) (Nat.le_of_ble_eq_true rfl) (Nat.le_of_ble_eq_true rfl) dX11_init_201 (fun H S68 eS68 hW hm t67 => ?_)
  have hw := hw S68 eS68
  have t0 := hm _ _ t0
  have t1 := hm _ _ t1
  have t4 := hm _ _ t4
  have t7 := hm _ _ t7
  have t10 := hm _ _ t10
  have t13 := hm _ _ t13
  have t16 := hm _ _ t16
  have t19 := hm _ _ t19
  have t22 := hm _ _ t22
  have t25 := hm _ _ t25
  have t28 := hm _ _ t28
  have t31 := hm _ _ t31
  have t34 := hm _ _ t34
  have t37 := hm _ _ t37
  have t40 := hm _ _ t40
  have t43 := hm _ _ t43
  have t46 := hm _ _ t46
  have t49 := hm _ _ t49
  have t52 := hm _ _ t52
  have t55 := hm _ _ t55
  have t58 := hm _ _ t58
  have t61 := hm _ _ t61
  have t64 := hm _ _ t64
  refine gx_putR (k := 732) C hW F11_78 (Or.inr ⟨rfl, rfl, rfl⟩) rfl rfl t0 rfl dX11_init_203 (fun H locs S69 eS69 hW hm => ?_)
  have hw := hw S69 eS69
  have t0 := hm _ _ t0
  have t1 := hm _ _ t1
  have t4 := hm _ _ t4
  have t7 := hm _ _ t7
  have t10 := hm _ _ t10
  have t13 := hm _ _ t13
  have t16 := hm _ _ t16
  have t19 := hm _ _ t19
  have t22 := hm _ _ t22
  have t25 := hm _ _ t25
  have t28 := hm _ _ t28
  have t31 := hm _ _ t31
  have t34 := hm _ _ t34
  have t37 := hm _ _ t37
  have t40 := hm _ _ t40
  have t43 := hm _ _ t43
  have t46 := hm _ _ t46
  have t49 := hm _ _ t49
  have t52 := hm _ _ t52
  have t55 := hm _ _ t55
  have t58 := hm _ _ t58
  have t61 := hm _ _ t61
  have t64 := hm _ _ t64
  have t67 := hm _ _ t67
  refine gx_aload_n hx hb dX11_init_206 rfl (lv_at hl 0 rfl) ?_
  refine lv_sipush (v := 201) hx hb dX11_init_207 (by decide) ?_
  refine gx_newa (at0 := .int) (k := 0) (K := 201) (N := 201) C hW (List.mem_of_getElem? (i := 33) (by decide +kernel)) (Or.inl ⟨rfl, rfl⟩) (by decide) (by decide) (by decide) (by decide) (Nat.le_of_ble_eq_true rfl) (Nat.le_of_ble_eq_true rfl) dX11_init_210 (fun H S71 eS71 hW hm t70 => ?_)
  have hw := hw S71 eS71
  have t0 := hm _ _ t0
  have t1 := hm _ _ t1
  have t4 := hm _ _ t4
  have t7 := hm _ _ t7
  have t10 := hm _ _ t10
  have t13 := hm _ _ t13
  have t16 := hm _ _ t16
  have t19 := hm _ _ t19
  have t22 := hm _ _ t22
  have t25 := hm _ _ t25
  have t28 := hm _ _ t28
  have t31 := hm _ _ t31
  have t34 := hm _ _ t34
  have t37 := hm _ _ t37
  have t40 := hm _ _ t40
  have t43 := hm _ _ t43
  have t46 := hm _ _ t46
  have t49 := hm _ _ t49
  have t52 := hm _ _ t52
  have t55 := hm _ _ t55
  have t58 := hm _ _ t58
  have t61 := hm _ _ t61
  have t64 := hm _ _ t64
  have t67 := hm _ _ t67
  refine gx_putR (k := 733) C hW F11_81 (Or.inr ⟨rfl, rfl, rfl⟩) rfl rfl t0 rfl dX11_init_212 (fun H locs S72 eS72 hW hm => ?_)
  have hw := hw S72 eS72
  have t0 := hm _ _ t0
  have t1 := hm _ _ t1
  have t4 := hm _ _ t4
  have t7 := hm _ _ t7
  have t10 := hm _ _ t10
  have t13 := hm _ _ t13
  have t16 := hm _ _ t16
  have t19 := hm _ _ t19
  have t22 := hm _ _ t22
  have t25 := hm _ _ t25
  have t28 := hm _ _ t28
  have t31 := hm _ _ t31
  have t34 := hm _ _ t34
  have t37 := hm _ _ t37
  have t40 := hm _ _ t40
  have t43 := hm _ _ t43
  have t46 := hm _ _ t46
  have t49 := hm _ _ t49
  have t52 := hm _ _ t52
  have t55 := hm _ _ t55
  have t58 := hm _ _ t58
  have t61 := hm _ _ t61
  have t64 := hm _ _ t64
  have t67 := hm _ _ t67
  have t70 := hm _ _ t70
  refine gx_aload_n hx hb dX11_init_215 rfl (lv_at hl 0 rfl) ?_
  refine lv_sipush (v := 201) hx hb dX11_init_216 (by decide) ?_
  refine gx_newa (at0 := .int) (k := 0) (K := 201) (N := 201) C hW (List.mem_of_getElem? (i := 33) (by decide +kernel)) (Or.inl ⟨rfl, rfl⟩) (by decide) (by decide) (by decide) (by decide) (Nat.le_of_ble_eq_true rfl) (Nat.le_of_ble_eq_true rfl) dX11_init_219 (fun H S74 eS74 hW hm t73 => ?_)
  have hw := hw S74 eS74
  have t0 := hm _ _ t0
  have t1 := hm _ _ t1
  have t4 := hm _ _ t4
  have t7 := hm _ _ t7
  have t10 := hm _ _ t10
  have t13 := hm _ _ t13
  have t16 := hm _ _ t16
  have t19 := hm _ _ t19
  have t22 := hm _ _ t22
  have t25 := hm _ _ t25
  have t28 := hm _ _ t28
  have t31 := hm _ _ t31
  have t34 := hm _ _ t34
  have t37 := hm _ _ t37
  have t40 := hm _ _ t40
  have t43 := hm _ _ t43
  have t46 := hm _ _ t46
  have t49 := hm _ _ t49
  have t52 := hm _ _ t52
  have t55 := hm _ _ t55
  have t58 := hm _ _ t58
  have t61 := hm _ _ t61
  have t64 := hm _ _ t64
  have t67 := hm _ _ t67
  have t70 := hm _ _ t70
  refine gx_putR (k := 734) C hW F11_84 (Or.inr ⟨rfl, rfl, rfl⟩) rfl rfl t0 rfl dX11_init_221 (fun H locs S75 eS75 hW hm => ?_)
  have hw := hw S75 eS75
  have t0 := hm _ _ t0
  have t1 := hm _ _ t1
  have t4 := hm _ _ t4
  have t7 := hm _ _ t7
  have t10 := hm _ _ t10
  have t13 := hm _ _ t13
  have t16 := hm _ _ t16
  have t19 := hm _ _ t19
  have t22 := hm _ _ t22
  have t25 := hm _ _ t25
  have t28 := hm _ _ t28
  have t31 := hm _ _ t31
  have t34 := hm _ _ t34
  have t37 := hm _ _ t37
  have t40 := hm _ _ t40
  have t43 := hm _ _ t43
  have t46 := hm _ _ t46
  have t49 := hm _ _ t49
  have t52 := hm _ _ t52
  have t55 := hm _ _ t55
  have t58 := hm _ _ t58
  have t61 := hm _ _ t61
  have t64 := hm _ _ t64
  have t67 := hm _ _ t67
  have t70 := hm _ _ t70
  have t73 := hm _ _ t73
  refine gx_aload_n hx hb dX11_init_224 rfl (lv_at hl 0 rfl) ?_
  refine lv_sipush (v := 201) hx hb dX11_init_225 (by decide) ?_
  refine gx_newa (at0 := .long) (k := 1) (K := 201) (N := 201) C hW (List.mem_of_getElem? (i := 38) (by decide +kernel)) (Or.inr (Or.inl ⟨rfl, rfl⟩)) (by decide) (by decide) (by decide) (by decide) (Nat.le_of_ble_eq_true rfl) (Nat.le_of_ble_eq_true rfl) dX11_init_228 (fun H S77 eS77 hW hm t76 => ?_)
  have hw := hw S77 eS77
  have t0 := hm _ _ t0
  have t1 := hm _ _ t1
  have t4 := hm _ _ t4
  have t7 := hm _ _ t7
  have t10 := hm _ _ t10
  have t13 := hm _ _ t13
  have t16 := hm _ _ t16
  have t19 := hm _ _ t19
  have t22 := hm _ _ t22
  have t25 := hm _ _ t25
  have t28 := hm _ _ t28
  have t31 := hm _ _ t31
  have t34 := hm _ _ t34
  have t37 := hm _ _ t37
  have t40 := hm _ _ t40
  have t43 := hm _ _ t43
  have t46 := hm _ _ t46
  have t49 := hm _ _ t49
  have t52 := hm _ _ t52
  have t55 := hm _ _ t55
  have t58 := hm _ _ t58
  have t61 := hm _ _ t61
  have t64 := hm _ _ t64
  have t67 := hm _ _ t67
  have t70 := hm _ _ t70
  have t73 := hm _ _ t73
  refine gx_putR (k := 735) C hW F11_87 (Or.inr ⟨rfl, rfl, rfl⟩) rfl rfl t0 rfl dX11_init_230 (fun H locs S78 eS78 hW hm => ?_)
  have hw := hw S78 eS78
  have t0 := hm _ _ t0
  have t1 := hm _ _ t1
  have t4 := hm _ _ t4
  have t7 := hm _ _ t7
  have t10 := hm _ _ t10
  have t13 := hm _ _ t13
  have t16 := hm _ _ t16
  have t19 := hm _ _ t19
  have t22 := hm _ _ t22
  have t25 := hm _ _ t25
  have t28 := hm _ _ t28
  have t31 := hm _ _ t31
  have t34 := hm _ _ t34
  have t37 := hm _ _ t37
  have t40 := hm _ _ t40
  have t43 := hm _ _ t43
  have t46 := hm _ _ t46
  have t49 := hm _ _ t49
  have t52 := hm _ _ t52
  have t55 := hm _ _ t55
  have t58 := hm _ _ t58
  have t61 := hm _ _ t61
  have t64 := hm _ _ t64
  have t67 := hm _ _ t67
  have t70 := hm _ _ t70
  have t73 := hm _ _ t73
  have t76 := hm _ _ t76
  refine gx_aload_n hx hb dX11_init_233 rfl (lv_at hl 0 rfl) ?_
  refine lv_sipush (v := 201) hx hb dX11_init_234 (by decide) ?_
  refine gx_newa (at0 := .int) (k := 0) (K := 201) (N := 201) C hW (List.mem_of_getElem? (i := 33) (by decide +kernel)) (Or.inl ⟨rfl, rfl⟩) (by decide) (by decide) (by decide) (by decide) (Nat.le_of_ble_eq_true rfl) (Nat.le_of_ble_eq_true rfl) dX11_init_237 (fun H S80 eS80 hW hm t79 => ?_)
  have hw := hw S80 eS80
  have t0 := hm _ _ t0
  have t1 := hm _ _ t1
  have t4 := hm _ _ t4
  have t7 := hm _ _ t7
  have t10 := hm _ _ t10
  have t13 := hm _ _ t13
  have t16 := hm _ _ t16
  have t19 := hm _ _ t19
  have t22 := hm _ _ t22
  have t25 := hm _ _ t25
  have t28 := hm _ _ t28
  have t31 := hm _ _ t31
  have t34 := hm _ _ t34
  have t37 := hm _ _ t37
  have t40 := hm _ _ t40
  have t43 := hm _ _ t43
  have t46 := hm _ _ t46
  have t49 := hm _ _ t49
  have t52 := hm _ _ t52
  have t55 := hm _ _ t55
  have t58 := hm _ _ t58
  have t61 := hm _ _ t61
  have t64 := hm _ _ t64
  have t67 := hm _ _ t67
  have t70 := hm _ _ t70
  have t73 := hm _ _ t73
  have t76 := hm _ _ t76
  refine gx_putR (k := 736) C hW F11_90 (Or.inr ⟨rfl, rfl, rfl⟩) rfl rfl t0 rfl dX11_init_239 (fun H locs S81 eS81 hW hm => ?_)
  have hw := hw S81 eS81
  have t0 := hm _ _ t0
  have t1 := hm _ _ t1
  have t4 := hm _ _ t4
  have t7 := hm _ _ t7
  have t10 := hm _ _ t10
  have t13 := hm _ _ t13
  have t16 := hm _ _ t16
  have t19 := hm _ _ t19
  have t22 := hm _ _ t22
  have t25 := hm _ _ t25
  have t28 := hm _ _ t28
  have t31 := hm _ _ t31
  have t34 := hm _ _ t34
  have t37 := hm _ _ t37
  have t40 := hm _ _ t40
  have t43 := hm _ _ t43
  have t46 := hm _ _ t46
  have t49 := hm _ _ t49
  have t52 := hm _ _ t52
  have t55 := hm _ _ t55
  have t58 := hm _ _ t58
  have t61 := hm _ _ t61
  have t64 := hm _ _ t64
  have t67 := hm _ _ t67
  have t70 := hm _ _ t70
  have t73 := hm _ _ t73
  have t76 := hm _ _ t76
  have t79 := hm _ _ t79
  refine gx_aload_n hx hb dX11_init_242 rfl (lv_at hl 0 rfl) ?_
  refine lv_sipush (v := 1002) hx hb dX11_init_243 (by decide) ?_
  refine gx_newa (at0 := .int) (k := 0) (K := 1002) (N := 1002) C hW (List.mem_of_getElem? (i := 33) (by decide +kernel)) (Or.inl ⟨rfl, rfl⟩) (by decide) (by decide) (by decide) (by decide) (Nat.le_of_ble_eq_true rfl) (Nat.le_of_ble_eq_true rfl) dX11_init_246 (fun H S83 eS83 hW hm t82 => ?_)
  have hw := hw S83 eS83
  have t0 := hm _ _ t0
  have t1 := hm _ _ t1
  have t4 := hm _ _ t4
  have t7 := hm _ _ t7
  have t10 := hm _ _ t10
  have t13 := hm _ _ t13
  have t16 := hm _ _ t16
  have t19 := hm _ _ t19
  have t22 := hm _ _ t22
  have t25 := hm _ _ t25
  have t28 := hm _ _ t28
  have t31 := hm _ _ t31
  have t34 := hm _ _ t34
  have t37 := hm _ _ t37
  have t40 := hm _ _ t40
  have t43 := hm _ _ t43
  have t46 := hm _ _ t46
  have t49 := hm _ _ t49
  have t52 := hm _ _ t52
  have t55 := hm _ _ t55
  have t58 := hm _ _ t58
  have t61 := hm _ _ t61
  have t64 := hm _ _ t64
  have t67 := hm _ _ t67
  have t70 := hm _ _ t70
  have t73 := hm _ _ t73
  have t76 := hm _ _ t76
  have t79 := hm _ _ t79
  refine gx_putR (k := 743) C hW F11_93 (Or.inr ⟨rfl, rfl, rfl⟩) rfl rfl t0 rfl dX11_init_248 (fun H locs S84 eS84 hW hm => ?_)
  have hw := hw S84 eS84
  have t0 := hm _ _ t0
  have t1 := hm _ _ t1
  have t4 := hm _ _ t4
  have t7 := hm _ _ t7
  have t10 := hm _ _ t10
  have t13 := hm _ _ t13
  have t16 := hm _ _ t16
  have t19 := hm _ _ t19
  have t22 := hm _ _ t22
  have t25 := hm _ _ t25
  have t28 := hm _ _ t28
  have t31 := hm _ _ t31
  have t34 := hm _ _ t34
  have t37 := hm _ _ t37
  have t40 := hm _ _ t40
  have t43 := hm _ _ t43
  have t46 := hm _ _ t46
  have t49 := hm _ _ t49
  have t52 := hm _ _ t52
  have t55 := hm _ _ t55
  have t58 := hm _ _ t58
  have t61 := hm _ _ t61
  have t64 := hm _ _ t64
  have t67 := hm _ _ t67
  have t70 := hm _ _ t70
  have t73 := hm _ _ t73
  have t76 := hm _ _ t76
  have t79 := hm _ _ t79
  have t82 := hm _ _ t82
  refine gx_aload_n hx hb dX11_init_251 rfl (lv_at hl 0 rfl) ?_
  refine lv_sipush (v := 1002) hx hb dX11_init_252 (by decide) ?_
  refine gx_newa (at0 := .int) (k := 0) (K := 1002) (N := 1002) C hW (List.mem_of_getElem? (i := 33) (by decide +kernel)) (Or.inl ⟨rfl, rfl⟩) (by decide) (by decide) (by decide) (by decide) (Nat.le_of_ble_eq_true rfl) (Nat.le_of_ble_eq_true rfl) dX11_init_255 (fun H S86 eS86 hW hm t85 => ?_)
  have hw := hw S86 eS86
  have t0 := hm _ _ t0
  have t1 := hm _ _ t1
  have t4 := hm _ _ t4
  have t7 := hm _ _ t7
  have t10 := hm _ _ t10
  have t13 := hm _ _ t13
  have t16 := hm _ _ t16
  have t19 := hm _ _ t19
  have t22 := hm _ _ t22
  have t25 := hm _ _ t25
  have t28 := hm _ _ t28
  have t31 := hm _ _ t31
  have t34 := hm _ _ t34
  have t37 := hm _ _ t37
  have t40 := hm _ _ t40
  have t43 := hm _ _ t43
  have t46 := hm _ _ t46
  have t49 := hm _ _ t49
  have t52 := hm _ _ t52
  have t55 := hm _ _ t55
  have t58 := hm _ _ t58
  have t61 := hm _ _ t61
  have t64 := hm _ _ t64
  have t67 := hm _ _ t67
  have t70 := hm _ _ t70
  have t73 := hm _ _ t73
  have t76 := hm _ _ t76
  have t79 := hm _ _ t79
  have t82 := hm _ _ t82
  refine gx_putR (k := 744) C hW F11_96 (Or.inr ⟨rfl, rfl, rfl⟩) rfl rfl t0 rfl dX11_init_257 (fun H locs S87 eS87 hW hm => ?_)
  have hw := hw S87 eS87
  have t0 := hm _ _ t0
  have t1 := hm _ _ t1
  have t4 := hm _ _ t4
  have t7 := hm _ _ t7
  have t10 := hm _ _ t10
  have t13 := hm _ _ t13
  have t16 := hm _ _ t16
  have t19 := hm _ _ t19
  have t22 := hm _ _ t22
  have t25 := hm _ _ t25
  have t28 := hm _ _ t28
  have t31 := hm _ _ t31
  have t34 := hm _ _ t34
  have t37 := hm _ _ t37
  have t40 := hm _ _ t40
  have t43 := hm _ _ t43
  have t46 := hm _ _ t46
  have t49 := hm _ _ t49
  have t52 := hm _ _ t52
  have t55 := hm _ _ t55
  have t58 := hm _ _ t58
  have t61 := hm _ _ t61
  have t64 := hm _ _ t64
  have t67 := hm _ _ t67
  have t70 := hm _ _ t70
  have t73 := hm _ _ t73
  have t76 := hm _ _ t76
  have t79 := hm _ _ t79
  have t82 := hm _ _ t82
  have t85 := hm _ _ t85
  refine gx_aload_n hx hb dX11_init_260 rfl (lv_at hl 0 rfl) ?_
  refine lv_iconst (v := -1) hx hb dX11_init_261 (by decide) ?_
  refine gx_putI (k := 750) C hW F11_99 (Or.inl rfl) rfl t0 rfl rfl rfl dX11_init_262 (fun H locs S88 eS88 hW hm => ?_)
  have hw := hw S88 eS88
  have t0 := hm _ _ t0
  have t1 := hm _ _ t1
  have t4 := hm _ _ t4
  have t7 := hm _ _ t7
  have t10 := hm _ _ t10
  have t13 := hm _ _ t13
  have t16 := hm _ _ t16
  have t19 := hm _ _ t19
  have t22 := hm _ _ t22
  have t25 := hm _ _ t25
  have t28 := hm _ _ t28
  have t31 := hm _ _ t31
  have t34 := hm _ _ t34
  have t37 := hm _ _ t37
  have t40 := hm _ _ t40
  have t43 := hm _ _ t43
  have t46 := hm _ _ t46
  have t49 := hm _ _ t49
  have t52 := hm _ _ t52
  have t55 := hm _ _ t55
  have t58 := hm _ _ t58
  have t61 := hm _ _ t61
  have t64 := hm _ _ t64
  have t67 := hm _ _ t67
  have t70 := hm _ _ t70
  have t73 := hm _ _ t73
  have t76 := hm _ _ t76
  have t79 := hm _ _ t79
  have t82 := hm _ _ t82
  have t85 := hm _ _ t85
  refine gx_aload_n hx hb dX11_init_265 rfl (lv_at hl 0 rfl) ?_
  refine lv_sipush (v := 500) hx hb dX11_init_266 (by decide) ?_
  refine gx_newa (at0 := .long) (k := 1) (K := 500) (N := 500) C hW (List.mem_of_getElem? (i := 38) (by decide +kernel)) (Or.inr (Or.inl ⟨rfl, rfl⟩)) (by decide) (by decide) (by decide) (by decide) (Nat.le_of_ble_eq_true rfl) (Nat.le_of_ble_eq_true rfl) dX11_init_269 (fun H S90 eS90 hW hm t89 => ?_)
  have hw := hw S90 eS90
  have t0 := hm _ _ t0
  have t1 := hm _ _ t1
  have t4 := hm _ _ t4
  have t7 := hm _ _ t7
  have t10 := hm _ _ t10
  have t13 := hm _ _ t13
  have t16 := hm _ _ t16
  have t19 := hm _ _ t19
  have t22 := hm _ _ t22
  have t25 := hm _ _ t25
  have t28 := hm _ _ t28
  have t31 := hm _ _ t31
  have t34 := hm _ _ t34
  have t37 := hm _ _ t37
  have t40 := hm _ _ t40
  have t43 := hm _ _ t43
  have t46 := hm _ _ t46
  have t49 := hm _ _ t49
  have t52 := hm _ _ t52
  have t55 := hm _ _ t55
  have t58 := hm _ _ t58
  have t61 := hm _ _ t61
  have t64 := hm _ _ t64
  have t67 := hm _ _ t67
  have t70 := hm _ _ t70
  have t73 := hm _ _ t73
  have t76 := hm _ _ t76
  have t79 := hm _ _ t79
  have t82 := hm _ _ t82
  have t85 := hm _ _ t85
  refine gx_putR (k := 753) C hW F11_103 (Or.inr ⟨rfl, rfl, rfl⟩) rfl rfl t0 rfl dX11_init_271 (fun H locs S91 eS91 hW hm => ?_)
  have hw := hw S91 eS91
  have t0 := hm _ _ t0
  have t1 := hm _ _ t1
  have t4 := hm _ _ t4
  have t7 := hm _ _ t7
  have t10 := hm _ _ t10
  have t13 := hm _ _ t13
  have t16 := hm _ _ t16
  have t19 := hm _ _ t19
  have t22 := hm _ _ t22
  have t25 := hm _ _ t25
  have t28 := hm _ _ t28
  have t31 := hm _ _ t31
  have t34 := hm _ _ t34
  have t37 := hm _ _ t37
  have t40 := hm _ _ t40
  have t43 := hm _ _ t43
  have t46 := hm _ _ t46
  have t49 := hm _ _ t49
  have t52 := hm _ _ t52
  have t55 := hm _ _ t55
  have t58 := hm _ _ t58
  have t61 := hm _ _ t61
  have t64 := hm _ _ t64
  have t67 := hm _ _ t67
  have t70 := hm _ _ t70
  have t73 := hm _ _ t73
  have t76 := hm _ _ t76
  have t79 := hm _ _ t79
  have t82 := hm _ _ t82
  have t85 := hm _ _ t85
  have t89 := hm _ _ t89
  refine gx_aload_n hx hb dX11_init_274 rfl (lv_at hl 0 rfl) ?_
  refine lv_sipush (v := 1002) hx hb dX11_init_275 (by decide) ?_
  refine gx_newa (at0 := .int) (k := 0) (K := 1002) (N := 1002) C hW (List.mem_of_getElem? (i := 33) (by decide +kernel)) (Or.inl ⟨rfl, rfl⟩) (by decide) (by decide) (by decide) (by decide) (Nat.le_of_ble_eq_true rfl) (Nat.le_of_ble_eq_true rfl) dX11_init_278 (fun H S93 eS93 hW hm t92 => ?_)
  have hw := hw S93 eS93
  have t0 := hm _ _ t0
  have t1 := hm _ _ t1
  have t4 := hm _ _ t4
  have t7 := hm _ _ t7
  have t10 := hm _ _ t10
  have t13 := hm _ _ t13
  have t16 := hm _ _ t16
  have t19 := hm _ _ t19
  have t22 := hm _ _ t22
  have t25 := hm _ _ t25
  have t28 := hm _ _ t28
  have t31 := hm _ _ t31
  have t34 := hm _ _ t34
  have t37 := hm _ _ t37
  have t40 := hm _ _ t40
  have t43 := hm _ _ t43
  have t46 := hm _ _ t46
  have t49 := hm _ _ t49
  have t52 := hm _ _ t52
  have t55 := hm _ _ t55
  have t58 := hm _ _ t58
  have t61 := hm _ _ t61
  have t64 := hm _ _ t64
  have t67 := hm _ _ t67
  have t70 := hm _ _ t70
  have t73 := hm _ _ t73
  have t76 := hm _ _ t76
  have t79 := hm _ _ t79
  have t82 := hm _ _ t82
  have t85 := hm _ _ t85
  have t89 := hm _ _ t89
  refine gx_putR (k := 755) C hW F11_106 (Or.inr ⟨rfl, rfl, rfl⟩) rfl rfl t0 rfl dX11_init_280 (fun H locs S94 eS94 hW hm => ?_)
  have hw := hw S94 eS94
  have t0 := hm _ _ t0
  have t1 := hm _ _ t1
  have t4 := hm _ _ t4
  have t7 := hm _ _ t7
  have t10 := hm _ _ t10
  have t13 := hm _ _ t13
  have t16 := hm _ _ t16
  have t19 := hm _ _ t19
  have t22 := hm _ _ t22
  have t25 := hm _ _ t25
  have t28 := hm _ _ t28
  have t31 := hm _ _ t31
  have t34 := hm _ _ t34
  have t37 := hm _ _ t37
  have t40 := hm _ _ t40
  have t43 := hm _ _ t43
  have t46 := hm _ _ t46
  have t49 := hm _ _ t49
  have t52 := hm _ _ t52
  have t55 := hm _ _ t55
  have t58 := hm _ _ t58
  have t61 := hm _ _ t61
  have t64 := hm _ _ t64
  have t67 := hm _ _ t67
  have t70 := hm _ _ t70
  have t73 := hm _ _ t73
  have t76 := hm _ _ t76
  have t79 := hm _ _ t79
  have t82 := hm _ _ t82
  have t85 := hm _ _ t85
  have t89 := hm _ _ t89
  have t92 := hm _ _ t92
  refine lv_iconst (v := 0) hx hb dX11_init_283 (by decide) ?_
  refine lv_istore_n (i := 1) (lv' := [(1, .int (0 : Int32)), (0, va_rf (some x0))]) hx hb dX11_init_284 rfl hl (by decide) rfl (fun ls hl => ?_)
  obtain ⟨fu100, hw⟩ := hw
  exact kX11_init_b285 C fu100 hW t0 (lv_sub hl [1, 0] rfl) hw
/-! TrialStairModel.step -/
def wX11_step (x0 : Nat) (x1 : Int32) (x2 : Int32) (x3 : Int32) (x4 : Int32) (S0 : Sg) (Q : Int32 → Sg → Prop) : Prop := (if x1 < 0 then Q (-1 : Int32) S0 else (if x1 ≤ (35 : Int32) then (if (fI S0 708 x0) = (2000 : Int32) then Q (-2 : Int32) S0 else ∃ a4 : Nat, (fR S0 704 x0) = some a4 ∧ tg S0 a4 = 13 ∧ vp_in (fI S0 708 x0) (ln S0 a4) ∧ ∀ S6 : Sg, S6 = sAI S0 a4 ((fI S0 708 x0)).toNatClampNeg x1 → ∃ a7 : Nat, (fR S6 705 x0) = some a7 ∧ tg S6 a7 = 13 ∧ vp_in (fI S6 708 x0) (ln S6 a7) ∧ ∀ S9 : Sg, S9 = sAI S6 a7 ((fI S6 708 x0)).toNatClampNeg x2 → ∃ a10 : Nat, (fR S9 706 x0) = some a10 ∧ tg S9 a10 = 13 ∧ vp_in (fI S9 708 x0) (ln S9 a10) ∧ ∀ S12 : Sg, S12 = sAI S9 a10 ((fI S9 708 x0)).toNatClampNeg x3 → ∃ a13 : Nat, (fR S12 707 x0) = some a13 ∧ tg S12 a13 = 13 ∧ vp_in (fI S12 708 x0) (ln S12 a13) ∧ ∀ S15 : Sg, S15 = sAI S12 a13 ((fI S12 708 x0)).toNatClampNeg x4 → ∀ S16 : Sg, S16 = sFI S15 708 x0 ((fI S15 708 x0) + (1 : Int32)) → Q (fI S16 708 x0) S16) else Q (-1 : Int32) S0))
set_option maxHeartbeats 4000000 in
set_option maxRecDepth 100000 in
theorem mX11_step (l : Launch) (D : va_G) (cy : Nat → ClassId) (x0 : Nat) (x1 : Int32) (x2 : Int32) (x3 : Int32) (x4 : Int32) (S0 : Sg) (Q : Int32 → Sg → Prop) (t0 : tg S0 x0 = 12) (hw : wX11_step x0 x1 x2 x3 x4 S0 Q) : Met l yX11_step (.code yX11_step cX11_step 5 (some .int) :: wsL_law) { frames := 0, cells := 0, slots := 0, locals := 0 } (gPc D cy [va_rf (some x0), .int x1, .int x2, .int x3, .int x4] S0) (va_Qi Q (gB D cy S0) (gA S0)) 0 0 (gA S0) := by
  refine gx_met (by decide) (Nat.le_of_ble_eq_true rfl) ?_
  intro p e s m args below meth c ls C hW hl
  have hx := C.1
  have hb := C.2.1
  have hl : lv_has ls 5 [(0, va_rf (some x0)), (1, .int x1), (2, .int x2), (3, .int x3), (4, .int x4)] := hl
  unfold wX11_step at hw
  refine lv_iload_n hx hb dX11_step_0 rfl (lv_at hl 1 rfl) ?_
  refine lv_if_lt (tgt := 10) hx hb dX11_step_1 (by decide) (fun c1 => ?_) (fun c1 => ?_)
  · have hw := w_t hw c1
    refine lv_iconst (v := -1) hx hb dX11_step_10 (by decide) ?_
    exact gx_iret C hW (Nat.le_of_ble_eq_true rfl) (Nat.le_of_ble_eq_true rfl) rfl hw dX11_step_11
  · have hw := w_f hw c1
    refine lv_iload_n hx hb dX11_step_4 rfl (lv_at hl 1 rfl) ?_
    refine lv_bipush (v := 35) hx hb dX11_step_5 (by decide) ?_
    refine lv_icmp_le (tgt := 12) hx hb dX11_step_7 (by decide) (fun c2 => ?_) (fun c2 => ?_)
    · have hw := w_t hw c2
      refine gx_aload_n hx hb dX11_step_12 rfl (lv_at hl 0 rfl) ?_
      refine gx_getI C hW F11_109 (k := 708) rfl t0 rfl dX11_step_13 ?_
      refine lv_sipush (v := 2000) hx hb dX11_step_16 (by decide) ?_
      refine lv_icmp_ne (tgt := 25) hx hb dX11_step_19 (by decide) (fun c3 => ?_) (fun c3 => ?_)
      · have hw := w_f hw c3
        refine gx_aload_n hx hb dX11_step_25 rfl (lv_at hl 0 rfl) ?_
        refine gx_getR C hW F11_7 (k := 704) rfl t0 rfl dX11_step_26 ?_
        refine gx_aload_n hx hb dX11_step_29 rfl (lv_at hl 0 rfl) ?_
        refine gx_getI C hW F11_109 (k := 708) rfl t0 rfl dX11_step_30 ?_
        refine lv_iload_n hx hb dX11_step_33 rfl (lv_at hl 1 rfl) ?_
        obtain ⟨a4, ha4, ta4, hw⟩ := hw
        obtain ⟨i5, hw⟩ := hw
        refine gx_iast C hW ha4 ta4 i5 dX11_step_34 (fun H locs S6 eS6 hW hm => ?_)
        have hw := hw S6 eS6
        have t0 := hm _ _ t0
        have ta4 := hm _ _ ta4
        refine gx_aload_n hx hb dX11_step_35 rfl (lv_at hl 0 rfl) ?_
        refine gx_getR C hW F11_13 (k := 705) rfl t0 rfl dX11_step_36 ?_
        refine gx_aload_n hx hb dX11_step_39 rfl (lv_at hl 0 rfl) ?_
        refine gx_getI C hW F11_109 (k := 708) rfl t0 rfl dX11_step_40 ?_
        refine lv_iload_n hx hb dX11_step_43 rfl (lv_at hl 2 rfl) ?_
        obtain ⟨a7, ha7, ta7, hw⟩ := hw
        obtain ⟨i8, hw⟩ := hw
        refine gx_iast C hW ha7 ta7 i8 dX11_step_44 (fun H locs S9 eS9 hW hm => ?_)
        have hw := hw S9 eS9
        have t0 := hm _ _ t0
        have ta4 := hm _ _ ta4
        have ta7 := hm _ _ ta7
        refine gx_aload_n hx hb dX11_step_45 rfl (lv_at hl 0 rfl) ?_
        refine gx_getR C hW F11_16 (k := 706) rfl t0 rfl dX11_step_46 ?_
        refine gx_aload_n hx hb dX11_step_49 rfl (lv_at hl 0 rfl) ?_
        refine gx_getI C hW F11_109 (k := 708) rfl t0 rfl dX11_step_50 ?_
        refine lv_iload_n hx hb dX11_step_53 rfl (lv_at hl 3 rfl) ?_
        obtain ⟨a10, ha10, ta10, hw⟩ := hw
        obtain ⟨i11, hw⟩ := hw
        refine gx_iast C hW ha10 ta10 i11 dX11_step_54 (fun H locs S12 eS12 hW hm => ?_)
        have hw := hw S12 eS12
        have t0 := hm _ _ t0
        have ta4 := hm _ _ ta4
        have ta7 := hm _ _ ta7
        have ta10 := hm _ _ ta10
        refine gx_aload_n hx hb dX11_step_55 rfl (lv_at hl 0 rfl) ?_
        refine gx_getR C hW F11_19 (k := 707) rfl t0 rfl dX11_step_56 ?_
        refine gx_aload_n hx hb dX11_step_59 rfl (lv_at hl 0 rfl) ?_
        refine gx_getI C hW F11_109 (k := 708) rfl t0 rfl dX11_step_60 ?_
        refine lv_iload hx hb dX11_step_63 (lv_at hl 4 rfl) ?_
        obtain ⟨a13, ha13, ta13, hw⟩ := hw
        obtain ⟨i14, hw⟩ := hw
        refine gx_iast C hW ha13 ta13 i14 dX11_step_65 (fun H locs S15 eS15 hW hm => ?_)
        have hw := hw S15 eS15
        have t0 := hm _ _ t0
        have ta4 := hm _ _ ta4
        have ta7 := hm _ _ ta7
        have ta10 := hm _ _ ta10
        have ta13 := hm _ _ ta13
        refine gx_aload_n hx hb dX11_step_66 rfl (lv_at hl 0 rfl) ?_
        refine lv_dup hx hb dX11_step_67 (va_rf_cat _) ?_
        refine gx_getI C hW F11_109 (k := 708) rfl t0 rfl dX11_step_68 ?_
        refine lv_iconst (v := 1) hx hb dX11_step_71 (by decide) ?_
        refine lv_iadd hx hb dX11_step_72 ?_
        refine gx_putI (k := 708) C hW F11_109 (Or.inl rfl) rfl t0 rfl rfl rfl dX11_step_73 (fun H locs S16 eS16 hW hm => ?_)
        have hw := hw S16 eS16
        have t0 := hm _ _ t0
        have ta4 := hm _ _ ta4
        have ta7 := hm _ _ ta7
        have ta10 := hm _ _ ta10
        have ta13 := hm _ _ ta13
        refine gx_aload_n hx hb dX11_step_76 rfl (lv_at hl 0 rfl) ?_
        refine gx_getI C hW F11_109 (k := 708) rfl t0 rfl dX11_step_77 ?_
        exact gx_iret C hW (Nat.le_of_ble_eq_true rfl) (Nat.le_of_ble_eq_true rfl) rfl hw dX11_step_80
      · have hw := w_t hw c3
        refine lv_bipush (v := -2) hx hb dX11_step_22 (by decide) ?_
        exact gx_iret C hW (Nat.le_of_ble_eq_true rfl) (Nat.le_of_ble_eq_true rfl) rfl hw dX11_step_24
    · have hw := w_f hw c2
      refine lv_iconst (v := -1) hx hb dX11_step_10 (by decide) ?_
      exact gx_iret C hW (Nat.le_of_ble_eq_true rfl) (Nat.le_of_ble_eq_true rfl) rfl hw dX11_step_11
/-! TrialStairModel.wipe -/
def wX11_wipe (x0 : Nat) (S0 : Sg) (Q : Int32 → Sg → Prop) : Prop := ∀ y1 : Int32, y1 = (fI S0 708 x0) → ∀ S2 : Sg, S2 = sFI S0 708 x0 (0 : Int32) → Q y1 S2
set_option maxHeartbeats 4000000 in
set_option maxRecDepth 100000 in
theorem mX11_wipe (l : Launch) (D : va_G) (cy : Nat → ClassId) (x0 : Nat) (S0 : Sg) (Q : Int32 → Sg → Prop) (t0 : tg S0 x0 = 12) (hw : wX11_wipe x0 S0 Q) : Met l yX11_wipe (.code yX11_wipe cX11_wipe 2 (some .int) :: wsL_law) { frames := 0, cells := 0, slots := 0, locals := 0 } (gPc D cy [va_rf (some x0)] S0) (va_Qi Q (gB D cy S0) (gA S0)) 0 0 (gA S0) := by
  refine gx_met (by decide) (Nat.le_of_ble_eq_true rfl) ?_
  intro p e s m args below meth c ls C hW hl
  have hx := C.1
  have hb := C.2.1
  have hl : lv_has ls 2 [(0, va_rf (some x0))] := hl
  unfold wX11_wipe at hw
  refine gx_aload_n hx hb dX11_wipe_0 rfl (lv_at hl 0 rfl) ?_
  refine gx_getI C hW F11_109 (k := 708) rfl t0 rfl dX11_wipe_1 ?_
  refine lv_topi (fun y1 ey1 => ?_)
  have hw := hw y1 ey1
  refine lv_istore_n (i := 1) (lv' := [(1, .int y1), (0, va_rf (some x0))]) hx hb dX11_wipe_4 rfl hl (by decide) rfl (fun ls hl => ?_)
  refine gx_aload_n hx hb dX11_wipe_5 rfl (lv_at hl 1 rfl) ?_
  refine lv_iconst (v := 0) hx hb dX11_wipe_6 (by decide) ?_
  refine gx_putI (k := 708) C hW F11_109 (Or.inl rfl) rfl t0 rfl rfl rfl dX11_wipe_7 (fun H locs S2 eS2 hW hm => ?_)
  have hw := hw S2 eS2
  have t0 := hm _ _ t0
  refine lv_iload_n hx hb dX11_wipe_10 rfl (lv_at hl 0 rfl) ?_
  exact gx_iret C hW (Nat.le_of_ble_eq_true rfl) (Nat.le_of_ble_eq_true rfl) rfl hw dX11_wipe_11
/-! TrialStairModel.isMark -/
def wX11_isMark (x0 : Nat) (x1 : Int32) (S0 : Sg) (Q : Int32 → Sg → Prop) : Prop := ∃ a1 : Nat, (fR S0 704 x0) = some a1 ∧ tg S0 a1 = 13 ∧ vp_in x1 (ln S0 a1) ∧ (if (aI S0 a1 (x1).toNatClampNeg) = (35 : Int32) then ∃ a4 : Nat, (fR S0 707 x0) = some a4 ∧ tg S0 a4 = 13 ∧ vp_in x1 (ln S0 a4) ∧ (if ((aI S0 a4 (x1).toNatClampNeg) &&& (1 : Int32)) = 0 then Q (1 : Int32) S0 else Q (0 : Int32) S0) else Q (0 : Int32) S0)
set_option maxHeartbeats 4000000 in
set_option maxRecDepth 100000 in
theorem mX11_isMark (l : Launch) (D : va_G) (cy : Nat → ClassId) (x0 : Nat) (x1 : Int32) (S0 : Sg) (Q : Int32 → Sg → Prop) (t0 : tg S0 x0 = 12) (hw : wX11_isMark x0 x1 S0 Q) : Met l yX11_isMark (.code yX11_isMark cX11_isMark 2 (some .boolean) :: wsL_law) { frames := 0, cells := 0, slots := 0, locals := 0 } (gPc D cy [va_rf (some x0), .int x1] S0) (va_Qi Q (gB D cy S0) (gA S0)) 0 0 (gA S0) := by
  refine gx_met (by decide) (Nat.le_of_ble_eq_true rfl) ?_
  intro p e s m args below meth c ls C hW hl
  have hx := C.1
  have hb := C.2.1
  have hl : lv_has ls 2 [(0, va_rf (some x0)), (1, .int x1)] := hl
  unfold wX11_isMark at hw
  refine gx_aload_n hx hb dX11_isMark_0 rfl (lv_at hl 0 rfl) ?_
  refine gx_getR C hW F11_7 (k := 704) rfl t0 rfl dX11_isMark_1 ?_
  refine lv_iload_n hx hb dX11_isMark_4 rfl (lv_at hl 1 rfl) ?_
  obtain ⟨a1, ha1, ta1, hw⟩ := hw
  obtain ⟨i2, hw⟩ := hw
  refine gx_iald C hW ha1 ta1 i2 dX11_isMark_5 ?_
  refine lv_bipush (v := 35) hx hb dX11_isMark_6 (by decide) ?_
  refine lv_icmp_ne (tgt := 26) hx hb dX11_isMark_8 (by decide) (fun c3 => ?_) (fun c3 => ?_)
  · have hw := w_f hw c3
    refine lv_iconst (v := 0) hx hb dX11_isMark_26 (by decide) ?_
    exact gx_iret C hW (Nat.le_of_ble_eq_true rfl) (Nat.le_of_ble_eq_true rfl) rfl hw dX11_isMark_27
  · have hw := w_t hw c3
    refine gx_aload_n hx hb dX11_isMark_11 rfl (lv_at hl 0 rfl) ?_
    refine gx_getR C hW F11_19 (k := 707) rfl t0 rfl dX11_isMark_12 ?_
    refine lv_iload_n hx hb dX11_isMark_15 rfl (lv_at hl 1 rfl) ?_
    obtain ⟨a4, ha4, ta4, hw⟩ := hw
    obtain ⟨i5, hw⟩ := hw
    refine gx_iald C hW ha4 ta4 i5 dX11_isMark_16 ?_
    refine lv_iconst (v := 1) hx hb dX11_isMark_17 (by decide) ?_
    refine lv_iand hx hb dX11_isMark_18 ?_
    refine lv_if_ne (tgt := 26) hx hb dX11_isMark_19 (by decide) (fun c6 => ?_) (fun c6 => ?_)
    · have hw := w_f hw c6
      refine lv_iconst (v := 0) hx hb dX11_isMark_26 (by decide) ?_
      exact gx_iret C hW (Nat.le_of_ble_eq_true rfl) (Nat.le_of_ble_eq_true rfl) rfl hw dX11_isMark_27
    · have hw := w_t hw c6
      refine lv_iconst (v := 1) hx hb dX11_isMark_22 (by decide) ?_
      refine lv_goto (tgt := 27) hx hb dX11_isMark_23 (by decide) ?_
      exact gx_iret C hW (Nat.le_of_ble_eq_true rfl) (Nat.le_of_ble_eq_true rfl) rfl hw dX11_isMark_27
/-! TrialStairModel.belongs -/
def wX11_belongs_b108 (x0 : Nat) (x1 : Int32) (x3 : Int32) (q0 : Int32) (S : Sg) (Q : Int32 → Sg → Prop) : Prop := (if q0 = 0 then (q0 = 0 ∨ q0 = 1) ∧ Q q0 S else ∃ a10 : Nat, (fR S 709 x0) = some a10 ∧ tg S a10 = 13 ∧ vp_in x3 (ln S a10) ∧ ∀ S12 : Sg, S12 = sAI S a10 (x3).toNatClampNeg x1 → ∃ a13 : Nat, (fR S12 712 x0) = some a13 ∧ tg S12 a13 = 13 ∧ vp_in x3 (ln S12 a13) ∧ ∀ S15 : Sg, S15 = sAI S12 a13 (x3).toNatClampNeg (x1 + (1 : Int32)) → (q0 = 0 ∨ q0 = 1) ∧ Q q0 S15)
def wX11_belongs_b107 (x0 : Nat) (x1 : Int32) (x3 : Int32) (S : Sg) (Q : Int32 → Sg → Prop) : Prop := wX11_belongs_b108 x0 x1 x3 (0 : Int32) S Q
def wX11_belongs_b103 (x0 : Nat) (x1 : Int32) (x3 : Int32) (S : Sg) (Q : Int32 → Sg → Prop) : Prop := wX11_belongs_b108 x0 x1 x3 (1 : Int32) S Q
def wX11_belongs_b92 (x0 : Nat) (x1 : Int32) (x2 : Int32) (x3 : Int32) (x4 : Int32) (S : Sg) (Q : Int32 → Sg → Prop) : Prop := (if x2 = (31 : Int32) then (if x4 = 0 then wX11_belongs_b103 x0 x1 x3 S Q else wX11_belongs_b107 x0 x1 x3 S Q) else wX11_belongs_b107 x0 x1 x3 S Q)
def wX11_belongs_b81 (x0 : Nat) (x1 : Int32) (x2 : Int32) (x3 : Int32) (x4 : Int32) (S : Sg) (Q : Int32 → Sg → Prop) : Prop := (if x2 = (28 : Int32) then (if x4 = 0 then wX11_belongs_b92 x0 x1 x2 x3 x4 S Q else wX11_belongs_b103 x0 x1 x3 S Q) else wX11_belongs_b92 x0 x1 x2 x3 x4 S Q)
def wX11_belongs_b54 (x0 : Nat) (x1 : Int32) (x2 : Int32) (x3 : Int32) (x4 : Int32) (S : Sg) (Q : Int32 → Sg → Prop) : Prop := (if x2 = (27 : Int32) then (if x4 = 0 then wX11_belongs_b81 x0 x1 x2 x3 x4 S Q else ∃ a20 : Nat, (fR S 711 x0) = some a20 ∧ tg S a20 = 13 ∧ vp_in x3 (ln S a20) ∧ (if 0 ≤ (aI S a20 (x3).toNatClampNeg) then wX11_belongs_b81 x0 x1 x2 x3 x4 S Q else vp_in x3 (ln S a20) ∧ ∀ S24 : Sg, S24 = sAI S a20 (x3).toNatClampNeg x1 → wX11_belongs_b81 x0 x1 x2 x3 x4 S24 Q)) else wX11_belongs_b81 x0 x1 x2 x3 x4 S Q)
def wX11_belongs_b16 (x0 : Nat) (x1 : Int32) (x2 : Int32) (x3 : Int32) (q0 : Int32) (S : Sg) (Q : Int32 → Sg → Prop) : Prop := (if x2 = (26 : Int32) then (if q0 = 0 then wX11_belongs_b54 x0 x1 x2 x3 q0 S Q else ∃ a26 : Nat, (fR S 710 x0) = some a26 ∧ tg S a26 = 13 ∧ vp_in x3 (ln S a26) ∧ (if 0 ≤ (aI S a26 (x3).toNatClampNeg) then wX11_belongs_b54 x0 x1 x2 x3 q0 S Q else ∃ a29 : Nat, (fR S 711 x0) = some a29 ∧ tg S a29 = 13 ∧ vp_in x3 (ln S a29) ∧ (if 0 ≤ (aI S a29 (x3).toNatClampNeg) then wX11_belongs_b54 x0 x1 x2 x3 q0 S Q else vp_in x3 (ln S a26) ∧ ∀ S33 : Sg, S33 = sAI S a26 (x3).toNatClampNeg x1 → wX11_belongs_b54 x0 x1 x2 x3 q0 S33 Q))) else wX11_belongs_b54 x0 x1 x2 x3 q0 S Q)
def wX11_belongs (x0 : Nat) (x1 : Int32) (x2 : Int32) (x3 : Int32) (S0 : Sg) (Q : Int32 → Sg → Prop) : Prop := ∃ a1 : Nat, (fR S0 704 x0) = some a1 ∧ tg S0 a1 = 13 ∧ vp_in x3 (ln S0 a1) ∧ (if (aI S0 a1 (x3).toNatClampNeg) = (25 : Int32) then wX11_belongs_b16 x0 x1 x2 x3 (1 : Int32) S0 Q else wX11_belongs_b16 x0 x1 x2 x3 (0 : Int32) S0 Q)
set_option maxHeartbeats 4000000 in
set_option maxRecDepth 100000 in
theorem kX11_belongs_b108 {p : Program} {l : Launch} {e : Env} {s : State} {m : MethodId} {args : Array Value} {below : List Frame} {meth : Method} {c : Code} {D : va_G} {cy : Nat → ClassId} {S0 : Sg} (C : gC p s m args meth c D cy cX11_belongs 6 yX11_belongs.cls (some .boolean) yX11_belongs.name) {H : Heap} {locs : List Loc} {ls : Array Slot} {x0 : Nat} {x1 : Int32} {x3 : Int32} {q0 : Int32} {S : Sg} {Q : Int32 → Sg → Prop} (hW : gW D cy (gA S0) (tg S0) s.heap S H locs) (t0 : tg S x0 = 12) (hl : lv_has ls 6 [(0, va_rf (some x0)), (1, .int x1), (3, .int x3)]) (hw : wX11_belongs_b108 x0 x1 x3 q0 S Q) : W p l e { frames := 0, cells := 0, slots := 0, locals := 0 } s m args below meth c H locs 0 0 (MQ below (va_Qi Q (gB D cy S0) (gA S0)) args s 0 0 (gA S0)) (F0 m 108 ls [.int q0]) := by
  have hx := C.1
  have hb := C.2.1
  unfold wX11_belongs_b108 at hw
  refine lv_istore (lv' := [(5, .int q0), (0, va_rf (some x0)), (1, .int x1), (3, .int x3)]) hx hb dX11_belongs_108 hl (by decide) rfl (fun ls hl => ?_)
  refine lv_iload hx hb dX11_belongs_110 (lv_at hl 0 rfl) ?_
  refine lv_if_eq (tgt := 131) hx hb dX11_belongs_112 (by decide) (fun c8 => ?_) (fun c8 => ?_)
  · have hw := w_t hw c8
    refine lv_iload hx hb dX11_belongs_131 (lv_at hl 0 rfl) ?_
    obtain ⟨z9, hw⟩ := hw
    exact gx_iret C hW (Nat.le_of_ble_eq_true rfl) (Nat.le_of_ble_eq_true rfl) (bz_n z9) hw dX11_belongs_133
  · have hw := w_f hw c8
    refine gx_aload_n hx hb dX11_belongs_115 rfl (lv_at hl 1 rfl) ?_
    refine gx_getR C hW F11_22 (k := 709) rfl t0 rfl dX11_belongs_116 ?_
    refine lv_iload_n hx hb dX11_belongs_119 rfl (lv_at hl 3 rfl) ?_
    refine lv_iload_n hx hb dX11_belongs_120 rfl (lv_at hl 2 rfl) ?_
    obtain ⟨a10, ha10, ta10, hw⟩ := hw
    obtain ⟨i11, hw⟩ := hw
    refine gx_iast C hW ha10 ta10 i11 dX11_belongs_121 (fun H locs S12 eS12 hW hm => ?_)
    have hw := hw S12 eS12
    have t0 := hm _ _ t0
    have ta10 := hm _ _ ta10
    refine gx_aload_n hx hb dX11_belongs_122 rfl (lv_at hl 1 rfl) ?_
    refine gx_getR C hW F11_31 (k := 712) rfl t0 rfl dX11_belongs_123 ?_
    refine lv_iload_n hx hb dX11_belongs_126 rfl (lv_at hl 3 rfl) ?_
    refine lv_iload_n hx hb dX11_belongs_127 rfl (lv_at hl 2 rfl) ?_
    refine lv_iconst (v := 1) hx hb dX11_belongs_128 (by decide) ?_
    refine lv_iadd hx hb dX11_belongs_129 ?_
    obtain ⟨a13, ha13, ta13, hw⟩ := hw
    obtain ⟨i14, hw⟩ := hw
    refine gx_iast C hW ha13 ta13 i14 dX11_belongs_130 (fun H locs S15 eS15 hW hm => ?_)
    have hw := hw S15 eS15
    have t0 := hm _ _ t0
    have ta10 := hm _ _ ta10
    have ta13 := hm _ _ ta13
    refine lv_iload hx hb dX11_belongs_131 (lv_at hl 0 rfl) ?_
    obtain ⟨z16, hw⟩ := hw
    exact gx_iret C hW (Nat.le_of_ble_eq_true rfl) (Nat.le_of_ble_eq_true rfl) (bz_n z16) hw dX11_belongs_133
set_option maxHeartbeats 4000000 in
set_option maxRecDepth 100000 in
theorem kX11_belongs_b107 {p : Program} {l : Launch} {e : Env} {s : State} {m : MethodId} {args : Array Value} {below : List Frame} {meth : Method} {c : Code} {D : va_G} {cy : Nat → ClassId} {S0 : Sg} (C : gC p s m args meth c D cy cX11_belongs 6 yX11_belongs.cls (some .boolean) yX11_belongs.name) {H : Heap} {locs : List Loc} {ls : Array Slot} {x0 : Nat} {x1 : Int32} {x3 : Int32} {S : Sg} {Q : Int32 → Sg → Prop} (hW : gW D cy (gA S0) (tg S0) s.heap S H locs) (t0 : tg S x0 = 12) (hl : lv_has ls 6 [(0, va_rf (some x0)), (1, .int x1), (3, .int x3)]) (hw : wX11_belongs_b107 x0 x1 x3 S Q) : W p l e { frames := 0, cells := 0, slots := 0, locals := 0 } s m args below meth c H locs 0 0 (MQ below (va_Qi Q (gB D cy S0) (gA S0)) args s 0 0 (gA S0)) (F0 m 107 ls []) := by
  have hx := C.1
  have hb := C.2.1
  unfold wX11_belongs_b107 at hw
  refine lv_iconst (v := 0) hx hb dX11_belongs_107 (by decide) ?_
  exact kX11_belongs_b108 C hW t0 (lv_sub hl [0, 1, 2] rfl) hw
set_option maxHeartbeats 4000000 in
set_option maxRecDepth 100000 in
theorem kX11_belongs_b103 {p : Program} {l : Launch} {e : Env} {s : State} {m : MethodId} {args : Array Value} {below : List Frame} {meth : Method} {c : Code} {D : va_G} {cy : Nat → ClassId} {S0 : Sg} (C : gC p s m args meth c D cy cX11_belongs 6 yX11_belongs.cls (some .boolean) yX11_belongs.name) {H : Heap} {locs : List Loc} {ls : Array Slot} {x0 : Nat} {x1 : Int32} {x3 : Int32} {S : Sg} {Q : Int32 → Sg → Prop} (hW : gW D cy (gA S0) (tg S0) s.heap S H locs) (t0 : tg S x0 = 12) (hl : lv_has ls 6 [(0, va_rf (some x0)), (1, .int x1), (3, .int x3)]) (hw : wX11_belongs_b103 x0 x1 x3 S Q) : W p l e { frames := 0, cells := 0, slots := 0, locals := 0 } s m args below meth c H locs 0 0 (MQ below (va_Qi Q (gB D cy S0) (gA S0)) args s 0 0 (gA S0)) (F0 m 103 ls []) := by
  have hx := C.1
  have hb := C.2.1
  unfold wX11_belongs_b103 at hw
  refine lv_iconst (v := 1) hx hb dX11_belongs_103 (by decide) ?_
  refine lv_goto (tgt := 108) hx hb dX11_belongs_104 (by decide) ?_
  exact kX11_belongs_b108 C hW t0 (lv_sub hl [0, 1, 2] rfl) hw
set_option maxHeartbeats 4000000 in
set_option maxRecDepth 100000 in
theorem kX11_belongs_b92 {p : Program} {l : Launch} {e : Env} {s : State} {m : MethodId} {args : Array Value} {below : List Frame} {meth : Method} {c : Code} {D : va_G} {cy : Nat → ClassId} {S0 : Sg} (C : gC p s m args meth c D cy cX11_belongs 6 yX11_belongs.cls (some .boolean) yX11_belongs.name) {H : Heap} {locs : List Loc} {ls : Array Slot} {x0 : Nat} {x1 : Int32} {x2 : Int32} {x3 : Int32} {x4 : Int32} {S : Sg} {Q : Int32 → Sg → Prop} (hW : gW D cy (gA S0) (tg S0) s.heap S H locs) (t0 : tg S x0 = 12) (hl : lv_has ls 6 [(0, va_rf (some x0)), (1, .int x1), (2, .int x2), (3, .int x3), (4, .int x4)]) (hw : wX11_belongs_b92 x0 x1 x2 x3 x4 S Q) : W p l e { frames := 0, cells := 0, slots := 0, locals := 0 } s m args below meth c H locs 0 0 (MQ below (va_Qi Q (gB D cy S0) (gA S0)) args s 0 0 (gA S0)) (F0 m 92 ls []) := by
  have hx := C.1
  have hb := C.2.1
  unfold wX11_belongs_b92 at hw
  refine lv_iload_n hx hb dX11_belongs_92 rfl (lv_at hl 2 rfl) ?_
  refine lv_bipush (v := 31) hx hb dX11_belongs_93 (by decide) ?_
  refine lv_icmp_ne (tgt := 107) hx hb dX11_belongs_95 (by decide) (fun c7 => ?_) (fun c7 => ?_)
  · have hw := w_f hw c7
    exact kX11_belongs_b107 C hW t0 (lv_sub hl [0, 1, 3] rfl) hw
  · have hw := w_t hw c7
    refine lv_iload hx hb dX11_belongs_98 (lv_at hl 4 rfl) ?_
    refine lv_if_ne (tgt := 107) hx hb dX11_belongs_100 (by decide) (fun c17 => ?_) (fun c17 => ?_)
    · have hw := w_f hw c17
      exact kX11_belongs_b107 C hW t0 (lv_sub hl [0, 1, 3] rfl) hw
    · have hw := w_t hw c17
      exact kX11_belongs_b103 C hW t0 (lv_sub hl [0, 1, 3] rfl) hw
set_option maxHeartbeats 4000000 in
set_option maxRecDepth 100000 in
theorem kX11_belongs_b81 {p : Program} {l : Launch} {e : Env} {s : State} {m : MethodId} {args : Array Value} {below : List Frame} {meth : Method} {c : Code} {D : va_G} {cy : Nat → ClassId} {S0 : Sg} (C : gC p s m args meth c D cy cX11_belongs 6 yX11_belongs.cls (some .boolean) yX11_belongs.name) {H : Heap} {locs : List Loc} {ls : Array Slot} {x0 : Nat} {x1 : Int32} {x2 : Int32} {x3 : Int32} {x4 : Int32} {S : Sg} {Q : Int32 → Sg → Prop} (hW : gW D cy (gA S0) (tg S0) s.heap S H locs) (t0 : tg S x0 = 12) (hl : lv_has ls 6 [(0, va_rf (some x0)), (1, .int x1), (2, .int x2), (3, .int x3), (4, .int x4)]) (hw : wX11_belongs_b81 x0 x1 x2 x3 x4 S Q) : W p l e { frames := 0, cells := 0, slots := 0, locals := 0 } s m args below meth c H locs 0 0 (MQ below (va_Qi Q (gB D cy S0) (gA S0)) args s 0 0 (gA S0)) (F0 m 81 ls []) := by
  have hx := C.1
  have hb := C.2.1
  unfold wX11_belongs_b81 at hw
  refine lv_iload_n hx hb dX11_belongs_81 rfl (lv_at hl 2 rfl) ?_
  refine lv_bipush (v := 28) hx hb dX11_belongs_82 (by decide) ?_
  refine lv_icmp_ne (tgt := 92) hx hb dX11_belongs_84 (by decide) (fun c6 => ?_) (fun c6 => ?_)
  · have hw := w_f hw c6
    exact kX11_belongs_b92 C hW t0 (lv_sub hl [0, 1, 2, 3, 4] rfl) hw
  · have hw := w_t hw c6
    refine lv_iload hx hb dX11_belongs_87 (lv_at hl 4 rfl) ?_
    refine lv_if_ne (tgt := 103) hx hb dX11_belongs_89 (by decide) (fun c18 => ?_) (fun c18 => ?_)
    · have hw := w_f hw c18
      exact kX11_belongs_b103 C hW t0 (lv_sub hl [0, 1, 3] rfl) hw
    · have hw := w_t hw c18
      exact kX11_belongs_b92 C hW t0 (lv_sub hl [0, 1, 2, 3, 4] rfl) hw
set_option maxHeartbeats 4000000 in
set_option maxRecDepth 100000 in
theorem kX11_belongs_b54 {p : Program} {l : Launch} {e : Env} {s : State} {m : MethodId} {args : Array Value} {below : List Frame} {meth : Method} {c : Code} {D : va_G} {cy : Nat → ClassId} {S0 : Sg} (C : gC p s m args meth c D cy cX11_belongs 6 yX11_belongs.cls (some .boolean) yX11_belongs.name) {H : Heap} {locs : List Loc} {ls : Array Slot} {x0 : Nat} {x1 : Int32} {x2 : Int32} {x3 : Int32} {x4 : Int32} {S : Sg} {Q : Int32 → Sg → Prop} (hW : gW D cy (gA S0) (tg S0) s.heap S H locs) (t0 : tg S x0 = 12) (hl : lv_has ls 6 [(0, va_rf (some x0)), (1, .int x1), (2, .int x2), (3, .int x3), (4, .int x4)]) (hw : wX11_belongs_b54 x0 x1 x2 x3 x4 S Q) : W p l e { frames := 0, cells := 0, slots := 0, locals := 0 } s m args below meth c H locs 0 0 (MQ below (va_Qi Q (gB D cy S0) (gA S0)) args s 0 0 (gA S0)) (F0 m 54 ls []) := by
  have hx := C.1
  have hb := C.2.1
  unfold wX11_belongs_b54 at hw
  refine lv_iload_n hx hb dX11_belongs_54 rfl (lv_at hl 2 rfl) ?_
  refine lv_bipush (v := 27) hx hb dX11_belongs_55 (by decide) ?_
  refine lv_icmp_ne (tgt := 81) hx hb dX11_belongs_57 (by decide) (fun c5 => ?_) (fun c5 => ?_)
  · have hw := w_f hw c5
    exact kX11_belongs_b81 C hW t0 (lv_sub hl [0, 1, 2, 3, 4] rfl) hw
  · have hw := w_t hw c5
    refine lv_iload hx hb dX11_belongs_60 (lv_at hl 4 rfl) ?_
    refine lv_if_eq (tgt := 81) hx hb dX11_belongs_62 (by decide) (fun c19 => ?_) (fun c19 => ?_)
    · have hw := w_t hw c19
      exact kX11_belongs_b81 C hW t0 (lv_sub hl [0, 1, 2, 3, 4] rfl) hw
    · have hw := w_f hw c19
      refine gx_aload_n hx hb dX11_belongs_65 rfl (lv_at hl 0 rfl) ?_
      refine gx_getR C hW F11_28 (k := 711) rfl t0 rfl dX11_belongs_66 ?_
      refine lv_iload_n hx hb dX11_belongs_69 rfl (lv_at hl 3 rfl) ?_
      obtain ⟨a20, ha20, ta20, hw⟩ := hw
      obtain ⟨i21, hw⟩ := hw
      refine gx_iald C hW ha20 ta20 i21 dX11_belongs_70 ?_
      refine lv_if_ge (tgt := 81) hx hb dX11_belongs_71 (by decide) (fun c22 => ?_) (fun c22 => ?_)
      · have hw := w_t hw c22
        exact kX11_belongs_b81 C hW t0 (lv_sub hl [0, 1, 2, 3, 4] rfl) hw
      · have hw := w_f hw c22
        refine gx_aload_n hx hb dX11_belongs_74 rfl (lv_at hl 0 rfl) ?_
        refine gx_getR C hW F11_28 (k := 711) rfl t0 rfl dX11_belongs_75 ?_
        refine lv_iload_n hx hb dX11_belongs_78 rfl (lv_at hl 3 rfl) ?_
        refine lv_iload_n hx hb dX11_belongs_79 rfl (lv_at hl 1 rfl) ?_
        obtain ⟨i23, hw⟩ := hw
        refine gx_iast C hW ha20 ta20 i23 dX11_belongs_80 (fun H locs S24 eS24 hW hm => ?_)
        have hw := hw S24 eS24
        have t0 := hm _ _ t0
        have ta20 := hm _ _ ta20
        exact kX11_belongs_b81 C hW t0 (lv_sub hl [0, 1, 2, 3, 4] rfl) hw
set_option maxHeartbeats 4000000 in
set_option maxRecDepth 100000 in
theorem kX11_belongs_b16 {p : Program} {l : Launch} {e : Env} {s : State} {m : MethodId} {args : Array Value} {below : List Frame} {meth : Method} {c : Code} {D : va_G} {cy : Nat → ClassId} {S0 : Sg} (C : gC p s m args meth c D cy cX11_belongs 6 yX11_belongs.cls (some .boolean) yX11_belongs.name) {H : Heap} {locs : List Loc} {ls : Array Slot} {x0 : Nat} {x1 : Int32} {x2 : Int32} {x3 : Int32} {q0 : Int32} {S : Sg} {Q : Int32 → Sg → Prop} (hW : gW D cy (gA S0) (tg S0) s.heap S H locs) (t0 : tg S x0 = 12) (hl : lv_has ls 6 [(0, va_rf (some x0)), (1, .int x1), (2, .int x2), (3, .int x3)]) (hw : wX11_belongs_b16 x0 x1 x2 x3 q0 S Q) : W p l e { frames := 0, cells := 0, slots := 0, locals := 0 } s m args below meth c H locs 0 0 (MQ below (va_Qi Q (gB D cy S0) (gA S0)) args s 0 0 (gA S0)) (F0 m 16 ls [.int q0]) := by
  have hx := C.1
  have hb := C.2.1
  unfold wX11_belongs_b16 at hw
  refine lv_istore (lv' := [(4, .int q0), (0, va_rf (some x0)), (1, .int x1), (2, .int x2), (3, .int x3)]) hx hb dX11_belongs_16 hl (by decide) rfl (fun ls hl => ?_)
  refine lv_iload_n hx hb dX11_belongs_18 rfl (lv_at hl 3 rfl) ?_
  refine lv_bipush (v := 26) hx hb dX11_belongs_19 (by decide) ?_
  refine lv_icmp_ne (tgt := 54) hx hb dX11_belongs_21 (by decide) (fun c4 => ?_) (fun c4 => ?_)
  · have hw := w_f hw c4
    exact kX11_belongs_b54 C hW t0 (lv_sub hl [1, 2, 3, 4, 0] rfl) hw
  · have hw := w_t hw c4
    refine lv_iload hx hb dX11_belongs_24 (lv_at hl 0 rfl) ?_
    refine lv_if_eq (tgt := 54) hx hb dX11_belongs_26 (by decide) (fun c25 => ?_) (fun c25 => ?_)
    · have hw := w_t hw c25
      exact kX11_belongs_b54 C hW t0 (lv_sub hl [1, 2, 3, 4, 0] rfl) hw
    · have hw := w_f hw c25
      refine gx_aload_n hx hb dX11_belongs_29 rfl (lv_at hl 1 rfl) ?_
      refine gx_getR C hW F11_25 (k := 710) rfl t0 rfl dX11_belongs_30 ?_
      refine lv_iload_n hx hb dX11_belongs_33 rfl (lv_at hl 4 rfl) ?_
      obtain ⟨a26, ha26, ta26, hw⟩ := hw
      obtain ⟨i27, hw⟩ := hw
      refine gx_iald C hW ha26 ta26 i27 dX11_belongs_34 ?_
      refine lv_if_ge (tgt := 54) hx hb dX11_belongs_35 (by decide) (fun c28 => ?_) (fun c28 => ?_)
      · have hw := w_t hw c28
        exact kX11_belongs_b54 C hW t0 (lv_sub hl [1, 2, 3, 4, 0] rfl) hw
      · have hw := w_f hw c28
        refine gx_aload_n hx hb dX11_belongs_38 rfl (lv_at hl 1 rfl) ?_
        refine gx_getR C hW F11_28 (k := 711) rfl t0 rfl dX11_belongs_39 ?_
        refine lv_iload_n hx hb dX11_belongs_42 rfl (lv_at hl 4 rfl) ?_
        obtain ⟨a29, ha29, ta29, hw⟩ := hw
        obtain ⟨i30, hw⟩ := hw
        refine gx_iald C hW ha29 ta29 i30 dX11_belongs_43 ?_
        refine lv_if_ge (tgt := 54) hx hb dX11_belongs_44 (by decide) (fun c31 => ?_) (fun c31 => ?_)
        · have hw := w_t hw c31
          exact kX11_belongs_b54 C hW t0 (lv_sub hl [1, 2, 3, 4, 0] rfl) hw
        · have hw := w_f hw c31
          refine gx_aload_n hx hb dX11_belongs_47 rfl (lv_at hl 1 rfl) ?_
          refine gx_getR C hW F11_25 (k := 710) rfl t0 rfl dX11_belongs_48 ?_
          refine lv_iload_n hx hb dX11_belongs_51 rfl (lv_at hl 4 rfl) ?_
          refine lv_iload_n hx hb dX11_belongs_52 rfl (lv_at hl 2 rfl) ?_
          obtain ⟨i32, hw⟩ := hw
          refine gx_iast C hW ha26 ta26 i32 dX11_belongs_53 (fun H locs S33 eS33 hW hm => ?_)
          have hw := hw S33 eS33
          have t0 := hm _ _ t0
          have ta26 := hm _ _ ta26
          have ta29 := hm _ _ ta29
          exact kX11_belongs_b54 C hW t0 (lv_sub hl [1, 2, 3, 4, 0] rfl) hw
set_option maxHeartbeats 4000000 in
set_option maxRecDepth 100000 in
theorem mX11_belongs (l : Launch) (D : va_G) (cy : Nat → ClassId) (x0 : Nat) (x1 : Int32) (x2 : Int32) (x3 : Int32) (S0 : Sg) (Q : Int32 → Sg → Prop) (t0 : tg S0 x0 = 12) (hw : wX11_belongs x0 x1 x2 x3 S0 Q) : Met l yX11_belongs (.code yX11_belongs cX11_belongs 6 (some .boolean) :: wsL_law) { frames := 0, cells := 0, slots := 0, locals := 0 } (gPc D cy [va_rf (some x0), .int x1, .int x2, .int x3] S0) (va_Qi Q (gB D cy S0) (gA S0)) 0 0 (gA S0) := by
  refine gx_met (by decide) (Nat.le_of_ble_eq_true rfl) ?_
  intro p e s m args below meth c ls C hW hl
  have hx := C.1
  have hb := C.2.1
  have hl : lv_has ls 6 [(0, va_rf (some x0)), (1, .int x1), (2, .int x2), (3, .int x3)] := hl
  unfold wX11_belongs at hw
  refine gx_aload_n hx hb dX11_belongs_0 rfl (lv_at hl 0 rfl) ?_
  refine gx_getR C hW F11_7 (k := 704) rfl t0 rfl dX11_belongs_1 ?_
  refine lv_iload_n hx hb dX11_belongs_4 rfl (lv_at hl 3 rfl) ?_
  obtain ⟨a1, ha1, ta1, hw⟩ := hw
  obtain ⟨i2, hw⟩ := hw
  refine gx_iald C hW ha1 ta1 i2 dX11_belongs_5 ?_
  refine lv_bipush (v := 25) hx hb dX11_belongs_6 (by decide) ?_
  refine lv_icmp_ne (tgt := 15) hx hb dX11_belongs_8 (by decide) (fun c3 => ?_) (fun c3 => ?_)
  · have hw := w_f hw c3
    refine lv_iconst (v := 0) hx hb dX11_belongs_15 (by decide) ?_
    exact kX11_belongs_b16 C hW t0 (lv_sub hl [0, 1, 2, 3] rfl) hw
  · have hw := w_t hw c3
    refine lv_iconst (v := 1) hx hb dX11_belongs_11 (by decide) ?_
    refine lv_goto (tgt := 16) hx hb dX11_belongs_12 (by decide) ?_
    exact kX11_belongs_b16 C hW t0 (lv_sub hl [0, 1, 2, 3] rfl) hw
/-! TrialStairModel.layOutRoutine -/
def wX11_layOutRoutine_b5 : Nat → (Nat) → (Int32) → (Int32) → (Int32) → Sg → (Sg → Prop) → Prop
  | 0, _, _, _, _, _, _ => False
  | fu + 1, x0, x2, x3, x4, S, Q => (if x2 ≤ x4 then Q S else ∃ a2 : Nat, (fR S 704 x0) = some a2 ∧ tg S a2 = 13 ∧ vp_in x4 (ln S a2) ∧ ∀ y4 : Int32, y4 = (aI S a2 (x4).toNatClampNeg) → ∃ a5 : Nat, (fR S 709 x0) = some a5 ∧ tg S a5 = 13 ∧ vp_in x4 (ln S a5) ∧ ∀ S7 : Sg, S7 = sAI S a5 (x4).toNatClampNeg (-1 : Int32) → (if y4 = (25 : Int32) then ∃ a9 : Nat, (fR S7 713 x0) = some a9 ∧ tg S7 a9 = 13 ∧ vp_in x3 (ln S7 a9) ∧ ∀ S11 : Sg, S11 = sAI S7 a9 (x3).toNatClampNeg x4 → ∀ y12 : Int32, y12 = x3 + (1) → ∃ a13 : Nat, (fR S11 710 x0) = some a13 ∧ tg S11 a13 = 13 ∧ vp_in x4 (ln S11 a13) ∧ ∀ S15 : Sg, S15 = sAI S11 a13 (x4).toNatClampNeg (-1 : Int32) → ∃ a16 : Nat, (fR S15 711 x0) = some a16 ∧ tg S15 a16 = 13 ∧ vp_in x4 (ln S15 a16) ∧ ∀ S18 : Sg, S18 = sAI S15 a16 (x4).toNatClampNeg (-1 : Int32) → vp_in x4 (ln S18 a5) ∧ ∀ S21 : Sg, S21 = sAI S18 a5 (x4).toNatClampNeg x2 → ∃ a22 : Nat, (fR S21 712 x0) = some a22 ∧ tg S21 a22 = 13 ∧ vp_in x4 (ln S21 a22) ∧ ∀ S24 : Sg, S24 = sAI S21 a22 (x4).toNatClampNeg x2 → ∀ y25 : Int32, y25 = x4 + (1) → wX11_layOutRoutine_b5 fu x0 x2 y12 y25 S24 Q else (if y4 = (29 : Int32) then ∃ a27 : Nat, (fR S7 713 x0) = some a27 ∧ tg S7 a27 = 13 ∧ vp_in x3 (ln S7 a27) ∧ ∀ S29 : Sg, S29 = sAI S7 a27 (x3).toNatClampNeg x4 → ∀ y30 : Int32, y30 = x3 + (1) → ∃ a31 : Nat, (fR S29 710 x0) = some a31 ∧ tg S29 a31 = 13 ∧ vp_in x4 (ln S29 a31) ∧ ∀ S33 : Sg, S33 = sAI S29 a31 (x4).toNatClampNeg (-1 : Int32) → ∃ a34 : Nat, (fR S33 711 x0) = some a34 ∧ tg S33 a34 = 13 ∧ vp_in x4 (ln S33 a34) ∧ ∀ S36 : Sg, S36 = sAI S33 a34 (x4).toNatClampNeg (-1 : Int32) → vp_in x4 (ln S36 a5) ∧ ∀ S39 : Sg, S39 = sAI S36 a5 (x4).toNatClampNeg x2 → ∃ a40 : Nat, (fR S39 712 x0) = some a40 ∧ tg S39 a40 = 13 ∧ vp_in x4 (ln S39 a40) ∧ ∀ S42 : Sg, S42 = sAI S39 a40 (x4).toNatClampNeg x2 → ∀ y43 : Int32, y43 = x4 + (1) → wX11_layOutRoutine_b5 fu x0 x2 y30 y43 S42 Q else (if y4 = (30 : Int32) then ∃ a55 : Nat, (fR S7 713 x0) = some a55 ∧ tg S7 a55 = 13 ∧ vp_in x3 (ln S7 a55) ∧ ∀ S57 : Sg, S57 = sAI S7 a55 (x3).toNatClampNeg x4 → ∀ y58 : Int32, y58 = x3 + (1) → ∃ a59 : Nat, (fR S57 710 x0) = some a59 ∧ tg S57 a59 = 13 ∧ vp_in x4 (ln S57 a59) ∧ ∀ S61 : Sg, S61 = sAI S57 a59 (x4).toNatClampNeg (-1 : Int32) → ∃ a62 : Nat, (fR S61 711 x0) = some a62 ∧ tg S61 a62 = 13 ∧ vp_in x4 (ln S61 a62) ∧ ∀ S64 : Sg, S64 = sAI S61 a62 (x4).toNatClampNeg (-1 : Int32) → vp_in x4 (ln S64 a5) ∧ ∀ S67 : Sg, S67 = sAI S64 a5 (x4).toNatClampNeg x2 → ∃ a68 : Nat, (fR S67 712 x0) = some a68 ∧ tg S67 a68 = 13 ∧ vp_in x4 (ln S67 a68) ∧ ∀ S70 : Sg, S70 = sAI S67 a68 (x4).toNatClampNeg x2 → ∀ y71 : Int32, y71 = x4 + (1) → wX11_layOutRoutine_b5 fu x0 x2 y58 y71 S70 Q else (if x3 ≤ 0 then ∀ y46 : Int32, y46 = x4 + (1) → wX11_layOutRoutine_b5 fu x0 x2 x3 y46 S7 Q else ∃ a47 : Nat, (fR S7 713 x0) = some a47 ∧ tg S7 a47 = 13 ∧ vp_in (x3 - (1 : Int32)) (ln S7 a47) ∧ wX11_belongs x0 x4 y4 (aI S7 a47 ((x3 - (1 : Int32))).toNatClampNeg) S7 (fun (r49 : Int32) (S50 : Sg) => (if r49 = 0 then ∀ y52 : Int32, y52 = x4 + (1) → wX11_layOutRoutine_b5 fu x0 x2 x3 y52 S50 Q else ∀ y53 : Int32, y53 = x3 + (-1) → ∀ y54 : Int32, y54 = x4 + (1) → wX11_layOutRoutine_b5 fu x0 x2 y53 y54 S50 Q)))))))
def wX11_layOutRoutine (x0 : Nat) (x1 : Int32) (x2 : Int32) (S0 : Sg) (Q : Sg → Prop) : Prop := ∃ fu72 : Nat, wX11_layOutRoutine_b5 fu72 x0 x2 (0 : Int32) x1 S0 Q
set_option maxHeartbeats 4000000 in
set_option maxRecDepth 100000 in
theorem kX11_layOutRoutine_l5 {p : Program} {l : Launch} {e : Env} {s : State} {m : MethodId} {args : Array Value} {below : List Frame} {meth : Method} {c : Code} {D : va_G} {cy : Nat → ClassId} {S0 : Sg} (C : gC p s m args meth c D cy cX11_layOutRoutine 6 yX11_layOutRoutine.cls none yX11_layOutRoutine.name) {x0 : Nat} {Q : Sg → Prop} : ∀ (fu : Nat) (x2 : Int32) (x3 : Int32) (x4 : Int32) (S : Sg) (H : Heap) (locs : List Loc) (ls : Array Slot) (hW : gW D cy (gA S0) (tg S0) s.heap S H locs) (t0 : tg S x0 = 12) (hl : lv_has ls 6 [(0, va_rf (some x0)), (2, .int x2), (3, .int x3), (4, .int x4)]) (hw : wX11_layOutRoutine_b5 fu x0 x2 x3 x4 S Q), W p l e { frames := 1, cells := 0, slots := 0, locals := 25 } s m args below meth c H locs 0 0 (MQ below (va_Qv Q (gB D cy S0) (gA S0)) args s 0 0 (gA S0)) (F0 m 5 ls []) := by
  have hx := C.1
  have hb := C.2.1
  intro fu
  induction fu with
  | zero =>
    intro x2 x3 x4 S H locs ls hW t0 hl hw
    unfold wX11_layOutRoutine_b5 at hw
    exact hw.elim
  | succ fu ih =>
    intro x2 x3 x4 S H locs ls hW t0 hl hw
    unfold wX11_layOutRoutine_b5 at hw
    refine lv_iload hx hb dX11_layOutRoutine_5 (lv_at hl 3 rfl) ?_
    refine lv_iload_n hx hb dX11_layOutRoutine_7 rfl (lv_at hl 1 rfl) ?_
    refine lv_icmp_ge (tgt := 127) hx hb dX11_layOutRoutine_8 (by decide) (fun c1 => ?_) (fun c1 => ?_)
    · have hw := w_t hw c1
      exact gx_vret C hW (Nat.le_of_ble_eq_true rfl) (Nat.le_of_ble_eq_true rfl) hw dX11_layOutRoutine_127
    · have hw := w_f hw c1
      refine gx_aload_n hx hb dX11_layOutRoutine_11 rfl (lv_at hl 0 rfl) ?_
      refine gx_getR C hW F11_7 (k := 704) rfl t0 rfl dX11_layOutRoutine_12 ?_
      refine lv_iload hx hb dX11_layOutRoutine_15 (lv_at hl 3 rfl) ?_
      obtain ⟨a2, ha2, ta2, hw⟩ := hw
      obtain ⟨i3, hw⟩ := hw
      refine gx_iald C hW ha2 ta2 i3 dX11_layOutRoutine_17 ?_
      refine lv_topi (fun y4 ey4 => ?_)
      have hw := hw y4 ey4
      refine lv_istore (lv' := [(5, .int y4), (0, va_rf (some x0)), (2, .int x2), (3, .int x3), (4, .int x4)]) hx hb dX11_layOutRoutine_18 hl (by decide) rfl (fun ls hl => ?_)
      refine gx_aload_n hx hb dX11_layOutRoutine_20 rfl (lv_at hl 1 rfl) ?_
      refine gx_getR C hW F11_22 (k := 709) rfl t0 rfl dX11_layOutRoutine_21 ?_
      refine lv_iload hx hb dX11_layOutRoutine_24 (lv_at hl 4 rfl) ?_
      refine lv_iconst (v := -1) hx hb dX11_layOutRoutine_26 (by decide) ?_
      obtain ⟨a5, ha5, ta5, hw⟩ := hw
      obtain ⟨i6, hw⟩ := hw
      refine gx_iast C hW ha5 ta5 i6 dX11_layOutRoutine_27 (fun H locs S7 eS7 hW hm => ?_)
      have hw := hw S7 eS7
      have t0 := hm _ _ t0
      have ta2 := hm _ _ ta2
      have ta5 := hm _ _ ta5
      refine lv_iload hx hb dX11_layOutRoutine_28 (lv_at hl 0 rfl) ?_
      refine lv_bipush (v := 25) hx hb dX11_layOutRoutine_30 (by decide) ?_
      refine lv_icmp_eq (tgt := 49) hx hb dX11_layOutRoutine_32 (by decide) (fun c8 => ?_) (fun c8 => ?_)
      · have hw := w_t hw c8
        refine gx_aload_n hx hb dX11_layOutRoutine_49 rfl (lv_at hl 1 rfl) ?_
        refine gx_getR C hW F11_34 (k := 713) rfl t0 rfl dX11_layOutRoutine_50 ?_
        refine lv_iload_n hx hb dX11_layOutRoutine_53 rfl (lv_at hl 3 rfl) ?_
        refine lv_iload hx hb dX11_layOutRoutine_54 (lv_at hl 4 rfl) ?_
        obtain ⟨a9, ha9, ta9, hw⟩ := hw
        obtain ⟨i10, hw⟩ := hw
        refine gx_iast C hW ha9 ta9 i10 dX11_layOutRoutine_56 (fun H locs S11 eS11 hW hm => ?_)
        have hw := hw S11 eS11
        have t0 := hm _ _ t0
        have ta2 := hm _ _ ta2
        have ta5 := hm _ _ ta5
        have ta9 := hm _ _ ta9
        obtain ⟨y12, ey12⟩ : ∃ z : Int32, z = x3 + (1) := ⟨_, rfl⟩
        have hw := hw y12 ey12
        refine lv_iinc (v := y12) (lv' := [(3, .int y12), (5, .int y4), (0, va_rf (some x0)), (2, .int x2), (4, .int x4)]) hx hb dX11_layOutRoutine_57 hl (k := 3) rfl (by rw [ey12]; rfl) (by decide) rfl (fun ls hl => ?_)
        refine gx_aload_n hx hb dX11_layOutRoutine_60 rfl (lv_at hl 2 rfl) ?_
        refine gx_getR C hW F11_25 (k := 710) rfl t0 rfl dX11_layOutRoutine_61 ?_
        refine lv_iload hx hb dX11_layOutRoutine_64 (lv_at hl 4 rfl) ?_
        refine lv_iconst (v := -1) hx hb dX11_layOutRoutine_66 (by decide) ?_
        obtain ⟨a13, ha13, ta13, hw⟩ := hw
        obtain ⟨i14, hw⟩ := hw
        refine gx_iast C hW ha13 ta13 i14 dX11_layOutRoutine_67 (fun H locs S15 eS15 hW hm => ?_)
        have hw := hw S15 eS15
        have t0 := hm _ _ t0
        have ta2 := hm _ _ ta2
        have ta5 := hm _ _ ta5
        have ta9 := hm _ _ ta9
        have ta13 := hm _ _ ta13
        refine gx_aload_n hx hb dX11_layOutRoutine_68 rfl (lv_at hl 2 rfl) ?_
        refine gx_getR C hW F11_28 (k := 711) rfl t0 rfl dX11_layOutRoutine_69 ?_
        refine lv_iload hx hb dX11_layOutRoutine_72 (lv_at hl 4 rfl) ?_
        refine lv_iconst (v := -1) hx hb dX11_layOutRoutine_74 (by decide) ?_
        obtain ⟨a16, ha16, ta16, hw⟩ := hw
        obtain ⟨i17, hw⟩ := hw
        refine gx_iast C hW ha16 ta16 i17 dX11_layOutRoutine_75 (fun H locs S18 eS18 hW hm => ?_)
        have hw := hw S18 eS18
        have t0 := hm _ _ t0
        have ta2 := hm _ _ ta2
        have ta5 := hm _ _ ta5
        have ta9 := hm _ _ ta9
        have ta13 := hm _ _ ta13
        have ta16 := hm _ _ ta16
        refine gx_aload_n hx hb dX11_layOutRoutine_76 rfl (lv_at hl 2 rfl) ?_
        refine gx_getR C hW F11_22 (k := 709) rfl t0 rfl dX11_layOutRoutine_77 ?_
        refine lv_iload hx hb dX11_layOutRoutine_80 (lv_at hl 4 rfl) ?_
        refine lv_iload_n hx hb dX11_layOutRoutine_82 rfl (lv_at hl 3 rfl) ?_
        have h19 : (fR S18 709 x0) = some a5 := ((congrArg (fun z => fR z 709 x0) eS18).trans ((congrArg (fun z => fR z 709 x0) eS15).trans ((congrArg (fun z => fR z 709 x0) eS11).trans ((congrArg (fun z => fR z 709 x0) eS7).trans ha5))))
        obtain ⟨i20, hw⟩ := hw
        refine gx_iast C hW h19 ta5 i20 dX11_layOutRoutine_83 (fun H locs S21 eS21 hW hm => ?_)
        have hw := hw S21 eS21
        have t0 := hm _ _ t0
        have ta2 := hm _ _ ta2
        have ta5 := hm _ _ ta5
        have ta9 := hm _ _ ta9
        have ta13 := hm _ _ ta13
        have ta16 := hm _ _ ta16
        refine gx_aload_n hx hb dX11_layOutRoutine_84 rfl (lv_at hl 2 rfl) ?_
        refine gx_getR C hW F11_31 (k := 712) rfl t0 rfl dX11_layOutRoutine_85 ?_
        refine lv_iload hx hb dX11_layOutRoutine_88 (lv_at hl 4 rfl) ?_
        refine lv_iload_n hx hb dX11_layOutRoutine_90 rfl (lv_at hl 3 rfl) ?_
        obtain ⟨a22, ha22, ta22, hw⟩ := hw
        obtain ⟨i23, hw⟩ := hw
        refine gx_iast C hW ha22 ta22 i23 dX11_layOutRoutine_91 (fun H locs S24 eS24 hW hm => ?_)
        have hw := hw S24 eS24
        have t0 := hm _ _ t0
        have ta2 := hm _ _ ta2
        have ta5 := hm _ _ ta5
        have ta9 := hm _ _ ta9
        have ta13 := hm _ _ ta13
        have ta16 := hm _ _ ta16
        have ta22 := hm _ _ ta22
        refine lv_goto (tgt := 121) hx hb dX11_layOutRoutine_92 (by decide) ?_
        obtain ⟨y25, ey25⟩ : ∃ z : Int32, z = x4 + (1) := ⟨_, rfl⟩
        have hw := hw y25 ey25
        refine lv_iinc (v := y25) (lv' := [(4, .int y25), (3, .int y12), (5, .int y4), (0, va_rf (some x0)), (2, .int x2)]) hx hb dX11_layOutRoutine_121 hl (k := 4) rfl (by rw [ey25]; rfl) (by decide) rfl (fun ls hl => ?_)
        refine lv_goto (tgt := 5) hx hb dX11_layOutRoutine_124 (by decide) ?_
        exact ih _ _ _ _ _ _ _ hW t0 (lv_sub hl [3, 4, 1, 0] rfl) hw
      · have hw := w_f hw c8
        refine lv_iload hx hb dX11_layOutRoutine_35 (lv_at hl 0 rfl) ?_
        refine lv_bipush (v := 29) hx hb dX11_layOutRoutine_37 (by decide) ?_
        refine lv_icmp_eq (tgt := 49) hx hb dX11_layOutRoutine_39 (by decide) (fun c26 => ?_) (fun c26 => ?_)
        · have hw := w_t hw c26
          refine gx_aload_n hx hb dX11_layOutRoutine_49 rfl (lv_at hl 1 rfl) ?_
          refine gx_getR C hW F11_34 (k := 713) rfl t0 rfl dX11_layOutRoutine_50 ?_
          refine lv_iload_n hx hb dX11_layOutRoutine_53 rfl (lv_at hl 3 rfl) ?_
          refine lv_iload hx hb dX11_layOutRoutine_54 (lv_at hl 4 rfl) ?_
          obtain ⟨a27, ha27, ta27, hw⟩ := hw
          obtain ⟨i28, hw⟩ := hw
          refine gx_iast C hW ha27 ta27 i28 dX11_layOutRoutine_56 (fun H locs S29 eS29 hW hm => ?_)
          have hw := hw S29 eS29
          have t0 := hm _ _ t0
          have ta2 := hm _ _ ta2
          have ta5 := hm _ _ ta5
          have ta27 := hm _ _ ta27
          obtain ⟨y30, ey30⟩ : ∃ z : Int32, z = x3 + (1) := ⟨_, rfl⟩
          have hw := hw y30 ey30
          refine lv_iinc (v := y30) (lv' := [(3, .int y30), (5, .int y4), (0, va_rf (some x0)), (2, .int x2), (4, .int x4)]) hx hb dX11_layOutRoutine_57 hl (k := 3) rfl (by rw [ey30]; rfl) (by decide) rfl (fun ls hl => ?_)
          refine gx_aload_n hx hb dX11_layOutRoutine_60 rfl (lv_at hl 2 rfl) ?_
          refine gx_getR C hW F11_25 (k := 710) rfl t0 rfl dX11_layOutRoutine_61 ?_
          refine lv_iload hx hb dX11_layOutRoutine_64 (lv_at hl 4 rfl) ?_
          refine lv_iconst (v := -1) hx hb dX11_layOutRoutine_66 (by decide) ?_
          obtain ⟨a31, ha31, ta31, hw⟩ := hw
          obtain ⟨i32, hw⟩ := hw
          refine gx_iast C hW ha31 ta31 i32 dX11_layOutRoutine_67 (fun H locs S33 eS33 hW hm => ?_)
          have hw := hw S33 eS33
          have t0 := hm _ _ t0
          have ta2 := hm _ _ ta2
          have ta5 := hm _ _ ta5
          have ta27 := hm _ _ ta27
          have ta31 := hm _ _ ta31
          refine gx_aload_n hx hb dX11_layOutRoutine_68 rfl (lv_at hl 2 rfl) ?_
          refine gx_getR C hW F11_28 (k := 711) rfl t0 rfl dX11_layOutRoutine_69 ?_
          refine lv_iload hx hb dX11_layOutRoutine_72 (lv_at hl 4 rfl) ?_
          refine lv_iconst (v := -1) hx hb dX11_layOutRoutine_74 (by decide) ?_
          obtain ⟨a34, ha34, ta34, hw⟩ := hw
          obtain ⟨i35, hw⟩ := hw
          refine gx_iast C hW ha34 ta34 i35 dX11_layOutRoutine_75 (fun H locs S36 eS36 hW hm => ?_)
          have hw := hw S36 eS36
          have t0 := hm _ _ t0
          have ta2 := hm _ _ ta2
          have ta5 := hm _ _ ta5
          have ta27 := hm _ _ ta27
          have ta31 := hm _ _ ta31
          have ta34 := hm _ _ ta34
          refine gx_aload_n hx hb dX11_layOutRoutine_76 rfl (lv_at hl 2 rfl) ?_
          refine gx_getR C hW F11_22 (k := 709) rfl t0 rfl dX11_layOutRoutine_77 ?_
          refine lv_iload hx hb dX11_layOutRoutine_80 (lv_at hl 4 rfl) ?_
          refine lv_iload_n hx hb dX11_layOutRoutine_82 rfl (lv_at hl 3 rfl) ?_
          have h37 : (fR S36 709 x0) = some a5 := ((congrArg (fun z => fR z 709 x0) eS36).trans ((congrArg (fun z => fR z 709 x0) eS33).trans ((congrArg (fun z => fR z 709 x0) eS29).trans ((congrArg (fun z => fR z 709 x0) eS7).trans ha5))))
          obtain ⟨i38, hw⟩ := hw
          refine gx_iast C hW h37 ta5 i38 dX11_layOutRoutine_83 (fun H locs S39 eS39 hW hm => ?_)
          have hw := hw S39 eS39
          have t0 := hm _ _ t0
          have ta2 := hm _ _ ta2
          have ta5 := hm _ _ ta5
          have ta27 := hm _ _ ta27
          have ta31 := hm _ _ ta31
          have ta34 := hm _ _ ta34
          refine gx_aload_n hx hb dX11_layOutRoutine_84 rfl (lv_at hl 2 rfl) ?_
          refine gx_getR C hW F11_31 (k := 712) rfl t0 rfl dX11_layOutRoutine_85 ?_
          refine lv_iload hx hb dX11_layOutRoutine_88 (lv_at hl 4 rfl) ?_
          refine lv_iload_n hx hb dX11_layOutRoutine_90 rfl (lv_at hl 3 rfl) ?_
          obtain ⟨a40, ha40, ta40, hw⟩ := hw
          obtain ⟨i41, hw⟩ := hw
          refine gx_iast C hW ha40 ta40 i41 dX11_layOutRoutine_91 (fun H locs S42 eS42 hW hm => ?_)
          have hw := hw S42 eS42
          have t0 := hm _ _ t0
          have ta2 := hm _ _ ta2
          have ta5 := hm _ _ ta5
          have ta27 := hm _ _ ta27
          have ta31 := hm _ _ ta31
          have ta34 := hm _ _ ta34
          have ta40 := hm _ _ ta40
          refine lv_goto (tgt := 121) hx hb dX11_layOutRoutine_92 (by decide) ?_
          obtain ⟨y43, ey43⟩ : ∃ z : Int32, z = x4 + (1) := ⟨_, rfl⟩
          have hw := hw y43 ey43
          refine lv_iinc (v := y43) (lv' := [(4, .int y43), (3, .int y30), (5, .int y4), (0, va_rf (some x0)), (2, .int x2)]) hx hb dX11_layOutRoutine_121 hl (k := 4) rfl (by rw [ey43]; rfl) (by decide) rfl (fun ls hl => ?_)
          refine lv_goto (tgt := 5) hx hb dX11_layOutRoutine_124 (by decide) ?_
          exact ih _ _ _ _ _ _ _ hW t0 (lv_sub hl [3, 4, 1, 0] rfl) hw
        · have hw := w_f hw c26
          refine lv_iload hx hb dX11_layOutRoutine_42 (lv_at hl 0 rfl) ?_
          refine lv_bipush (v := 30) hx hb dX11_layOutRoutine_44 (by decide) ?_
          refine lv_icmp_ne (tgt := 95) hx hb dX11_layOutRoutine_46 (by decide) (fun c44 => ?_) (fun c44 => ?_)
          · have hw := w_f hw c44
            refine lv_iload_n hx hb dX11_layOutRoutine_95 rfl (lv_at hl 3 rfl) ?_
            refine lv_if_le (tgt := 121) hx hb dX11_layOutRoutine_96 (by decide) (fun c45 => ?_) (fun c45 => ?_)
            · have hw := w_t hw c45
              obtain ⟨y46, ey46⟩ : ∃ z : Int32, z = x4 + (1) := ⟨_, rfl⟩
              have hw := hw y46 ey46
              refine lv_iinc (v := y46) (lv' := [(4, .int y46), (5, .int y4), (0, va_rf (some x0)), (2, .int x2), (3, .int x3)]) hx hb dX11_layOutRoutine_121 hl (k := 4) rfl (by rw [ey46]; rfl) (by decide) rfl (fun ls hl => ?_)
              refine lv_goto (tgt := 5) hx hb dX11_layOutRoutine_124 (by decide) ?_
              exact ih _ _ _ _ _ _ _ hW t0 (lv_sub hl [2, 3, 4, 0] rfl) hw
            · have hw := w_f hw c45
              refine gx_aload_n hx hb dX11_layOutRoutine_99 rfl (lv_at hl 1 rfl) ?_
              refine lv_iload hx hb dX11_layOutRoutine_100 (lv_at hl 4 rfl) ?_
              refine lv_iload hx hb dX11_layOutRoutine_102 (lv_at hl 0 rfl) ?_
              refine gx_aload_n hx hb dX11_layOutRoutine_104 rfl (lv_at hl 1 rfl) ?_
              refine gx_getR C hW F11_34 (k := 713) rfl t0 rfl dX11_layOutRoutine_105 ?_
              refine lv_iload_n hx hb dX11_layOutRoutine_108 rfl (lv_at hl 3 rfl) ?_
              refine lv_iconst (v := 1) hx hb dX11_layOutRoutine_109 (by decide) ?_
              refine lv_isub hx hb dX11_layOutRoutine_110 ?_
              obtain ⟨a47, ha47, ta47, hw⟩ := hw
              obtain ⟨i48, hw⟩ := hw
              refine gx_iald C hW ha47 ta47 i48 dX11_layOutRoutine_111 ?_
              refine gx_ci (gx_rV C hW M11_123 (mX11_belongs l D cy _ _ _ _ _ _ t0 hw) rfl rfl ⟨Nat.le_of_ble_eq_true rfl, Nat.le_of_ble_eq_true rfl⟩ rfl t0 (by decide) rfl rfl hl.1 rfl (gx_room0 (n := 4) (Nat.le_of_ble_eq_true rfl)) dX11_layOutRoutine_112 ⟨Nat.le_of_ble_eq_true rfl, Nat.le_of_ble_eq_true rfl⟩) hW (fun r49 S50 H locs hW hm hw => ?_)
              have t0 := hm _ _ t0
              have ta2 := hm _ _ ta2
              have ta5 := hm _ _ ta5
              have ta47 := hm _ _ ta47
              refine lv_if_eq (tgt := 121) hx hb dX11_layOutRoutine_115 (by decide) (fun c51 => ?_) (fun c51 => ?_)
              · have hw := w_t hw c51
                obtain ⟨y52, ey52⟩ : ∃ z : Int32, z = x4 + (1) := ⟨_, rfl⟩
                have hw := hw y52 ey52
                refine lv_iinc (v := y52) (lv' := [(4, .int y52), (5, .int y4), (0, va_rf (some x0)), (2, .int x2), (3, .int x3)]) hx hb dX11_layOutRoutine_121 hl (k := 4) rfl (by rw [ey52]; rfl) (by decide) rfl (fun ls hl => ?_)
                refine lv_goto (tgt := 5) hx hb dX11_layOutRoutine_124 (by decide) ?_
                exact ih _ _ _ _ _ _ _ hW t0 (lv_sub hl [2, 3, 4, 0] rfl) hw
              · have hw := w_f hw c51
                obtain ⟨y53, ey53⟩ : ∃ z : Int32, z = x3 + (-1) := ⟨_, rfl⟩
                have hw := hw y53 ey53
                refine lv_iinc (v := y53) (lv' := [(3, .int y53), (5, .int y4), (0, va_rf (some x0)), (2, .int x2), (4, .int x4)]) hx hb dX11_layOutRoutine_118 hl (k := 3) rfl (by rw [ey53]; rfl) (by decide) rfl (fun ls hl => ?_)
                obtain ⟨y54, ey54⟩ : ∃ z : Int32, z = x4 + (1) := ⟨_, rfl⟩
                have hw := hw y54 ey54
                refine lv_iinc (v := y54) (lv' := [(4, .int y54), (3, .int y53), (5, .int y4), (0, va_rf (some x0)), (2, .int x2)]) hx hb dX11_layOutRoutine_121 hl (k := 4) rfl (by rw [ey54]; rfl) (by decide) rfl (fun ls hl => ?_)
                refine lv_goto (tgt := 5) hx hb dX11_layOutRoutine_124 (by decide) ?_
                exact ih _ _ _ _ _ _ _ hW t0 (lv_sub hl [3, 4, 1, 0] rfl) hw
          · have hw := w_t hw c44
            refine gx_aload_n hx hb dX11_layOutRoutine_49 rfl (lv_at hl 1 rfl) ?_
            refine gx_getR C hW F11_34 (k := 713) rfl t0 rfl dX11_layOutRoutine_50 ?_
            refine lv_iload_n hx hb dX11_layOutRoutine_53 rfl (lv_at hl 3 rfl) ?_
            refine lv_iload hx hb dX11_layOutRoutine_54 (lv_at hl 4 rfl) ?_
            obtain ⟨a55, ha55, ta55, hw⟩ := hw
            obtain ⟨i56, hw⟩ := hw
            refine gx_iast C hW ha55 ta55 i56 dX11_layOutRoutine_56 (fun H locs S57 eS57 hW hm => ?_)
            have hw := hw S57 eS57
            have t0 := hm _ _ t0
            have ta2 := hm _ _ ta2
            have ta5 := hm _ _ ta5
            have ta55 := hm _ _ ta55
            obtain ⟨y58, ey58⟩ : ∃ z : Int32, z = x3 + (1) := ⟨_, rfl⟩
            have hw := hw y58 ey58
            refine lv_iinc (v := y58) (lv' := [(3, .int y58), (5, .int y4), (0, va_rf (some x0)), (2, .int x2), (4, .int x4)]) hx hb dX11_layOutRoutine_57 hl (k := 3) rfl (by rw [ey58]; rfl) (by decide) rfl (fun ls hl => ?_)
            refine gx_aload_n hx hb dX11_layOutRoutine_60 rfl (lv_at hl 2 rfl) ?_
            refine gx_getR C hW F11_25 (k := 710) rfl t0 rfl dX11_layOutRoutine_61 ?_
            refine lv_iload hx hb dX11_layOutRoutine_64 (lv_at hl 4 rfl) ?_
            refine lv_iconst (v := -1) hx hb dX11_layOutRoutine_66 (by decide) ?_
            obtain ⟨a59, ha59, ta59, hw⟩ := hw
            obtain ⟨i60, hw⟩ := hw
            refine gx_iast C hW ha59 ta59 i60 dX11_layOutRoutine_67 (fun H locs S61 eS61 hW hm => ?_)
            have hw := hw S61 eS61
            have t0 := hm _ _ t0
            have ta2 := hm _ _ ta2
            have ta5 := hm _ _ ta5
            have ta55 := hm _ _ ta55
            have ta59 := hm _ _ ta59
            refine gx_aload_n hx hb dX11_layOutRoutine_68 rfl (lv_at hl 2 rfl) ?_
            refine gx_getR C hW F11_28 (k := 711) rfl t0 rfl dX11_layOutRoutine_69 ?_
            refine lv_iload hx hb dX11_layOutRoutine_72 (lv_at hl 4 rfl) ?_
            refine lv_iconst (v := -1) hx hb dX11_layOutRoutine_74 (by decide) ?_
            obtain ⟨a62, ha62, ta62, hw⟩ := hw
            obtain ⟨i63, hw⟩ := hw
            refine gx_iast C hW ha62 ta62 i63 dX11_layOutRoutine_75 (fun H locs S64 eS64 hW hm => ?_)
            have hw := hw S64 eS64
            have t0 := hm _ _ t0
            have ta2 := hm _ _ ta2
            have ta5 := hm _ _ ta5
            have ta55 := hm _ _ ta55
            have ta59 := hm _ _ ta59
            have ta62 := hm _ _ ta62
            refine gx_aload_n hx hb dX11_layOutRoutine_76 rfl (lv_at hl 2 rfl) ?_
            refine gx_getR C hW F11_22 (k := 709) rfl t0 rfl dX11_layOutRoutine_77 ?_
            refine lv_iload hx hb dX11_layOutRoutine_80 (lv_at hl 4 rfl) ?_
            refine lv_iload_n hx hb dX11_layOutRoutine_82 rfl (lv_at hl 3 rfl) ?_
            have h65 : (fR S64 709 x0) = some a5 := ((congrArg (fun z => fR z 709 x0) eS64).trans ((congrArg (fun z => fR z 709 x0) eS61).trans ((congrArg (fun z => fR z 709 x0) eS57).trans ((congrArg (fun z => fR z 709 x0) eS7).trans ha5))))
            obtain ⟨i66, hw⟩ := hw
            refine gx_iast C hW h65 ta5 i66 dX11_layOutRoutine_83 (fun H locs S67 eS67 hW hm => ?_)
            have hw := hw S67 eS67
            have t0 := hm _ _ t0
            have ta2 := hm _ _ ta2
            have ta5 := hm _ _ ta5
            have ta55 := hm _ _ ta55
            have ta59 := hm _ _ ta59
            have ta62 := hm _ _ ta62
            refine gx_aload_n hx hb dX11_layOutRoutine_84 rfl (lv_at hl 2 rfl) ?_
            refine gx_getR C hW F11_31 (k := 712) rfl t0 rfl dX11_layOutRoutine_85 ?_
            refine lv_iload hx hb dX11_layOutRoutine_88 (lv_at hl 4 rfl) ?_
            refine lv_iload_n hx hb dX11_layOutRoutine_90 rfl (lv_at hl 3 rfl) ?_
            obtain ⟨a68, ha68, ta68, hw⟩ := hw
            obtain ⟨i69, hw⟩ := hw
            refine gx_iast C hW ha68 ta68 i69 dX11_layOutRoutine_91 (fun H locs S70 eS70 hW hm => ?_)
            have hw := hw S70 eS70
            have t0 := hm _ _ t0
            have ta2 := hm _ _ ta2
            have ta5 := hm _ _ ta5
            have ta55 := hm _ _ ta55
            have ta59 := hm _ _ ta59
            have ta62 := hm _ _ ta62
            have ta68 := hm _ _ ta68
            refine lv_goto (tgt := 121) hx hb dX11_layOutRoutine_92 (by decide) ?_
            obtain ⟨y71, ey71⟩ : ∃ z : Int32, z = x4 + (1) := ⟨_, rfl⟩
            have hw := hw y71 ey71
            refine lv_iinc (v := y71) (lv' := [(4, .int y71), (3, .int y58), (5, .int y4), (0, va_rf (some x0)), (2, .int x2)]) hx hb dX11_layOutRoutine_121 hl (k := 4) rfl (by rw [ey71]; rfl) (by decide) rfl (fun ls hl => ?_)
            refine lv_goto (tgt := 5) hx hb dX11_layOutRoutine_124 (by decide) ?_
            exact ih _ _ _ _ _ _ _ hW t0 (lv_sub hl [3, 4, 1, 0] rfl) hw
theorem kX11_layOutRoutine_b5 {p : Program} {l : Launch} {e : Env} {s : State} {m : MethodId} {args : Array Value} {below : List Frame} {meth : Method} {c : Code} {D : va_G} {cy : Nat → ClassId} {S0 : Sg} (C : gC p s m args meth c D cy cX11_layOutRoutine 6 yX11_layOutRoutine.cls none yX11_layOutRoutine.name) {H : Heap} {locs : List Loc} {ls : Array Slot} {x0 : Nat} {x2 : Int32} {x3 : Int32} {x4 : Int32} {S : Sg} {Q : Sg → Prop} (fu : Nat) (hW : gW D cy (gA S0) (tg S0) s.heap S H locs) (t0 : tg S x0 = 12) (hl : lv_has ls 6 [(0, va_rf (some x0)), (2, .int x2), (3, .int x3), (4, .int x4)]) (hw : wX11_layOutRoutine_b5 fu x0 x2 x3 x4 S Q) : W p l e { frames := 1, cells := 0, slots := 0, locals := 25 } s m args below meth c H locs 0 0 (MQ below (va_Qv Q (gB D cy S0) (gA S0)) args s 0 0 (gA S0)) (F0 m 5 ls []) := kX11_layOutRoutine_l5 C fu _ _ _ _ _ _ _ hW t0 hl hw
set_option maxHeartbeats 4000000 in
set_option maxRecDepth 100000 in
theorem mX11_layOutRoutine (l : Launch) (D : va_G) (cy : Nat → ClassId) (x0 : Nat) (x1 : Int32) (x2 : Int32) (S0 : Sg) (Q : Sg → Prop) (t0 : tg S0 x0 = 12) (hw : wX11_layOutRoutine x0 x1 x2 S0 Q) : Met l yX11_layOutRoutine (.code yX11_layOutRoutine cX11_layOutRoutine 6 none :: wsL_law) { frames := 1, cells := 0, slots := 0, locals := 25 } (gPc D cy [va_rf (some x0), .int x1, .int x2] S0) (va_Qv Q (gB D cy S0) (gA S0)) 0 0 (gA S0) := by
  refine gx_met (by decide) (Nat.le_of_ble_eq_true rfl) ?_
  intro p e s m args below meth c ls C hW hl
  have hx := C.1
  have hb := C.2.1
  have hl : lv_has ls 6 [(0, va_rf (some x0)), (1, .int x1), (2, .int x2)] := hl
  unfold wX11_layOutRoutine at hw
  refine lv_iconst (v := 0) hx hb dX11_layOutRoutine_0 (by decide) ?_
  refine lv_istore_n (i := 3) (lv' := [(3, .int (0 : Int32)), (0, va_rf (some x0)), (1, .int x1), (2, .int x2)]) hx hb dX11_layOutRoutine_1 rfl hl (by decide) rfl (fun ls hl => ?_)
  refine lv_iload_n hx hb dX11_layOutRoutine_2 rfl (lv_at hl 2 rfl) ?_
  refine lv_istore (lv' := [(4, .int x1), (3, .int (0 : Int32)), (0, va_rf (some x0)), (1, .int x1), (2, .int x2)]) hx hb dX11_layOutRoutine_3 hl (by decide) rfl (fun ls hl => ?_)
  obtain ⟨fu72, hw⟩ := hw
  exact kX11_layOutRoutine_b5 C fu72 hW t0 (lv_sub hl [2, 4, 1, 0] rfl) hw
/-! TrialStairModel.layOut -/
def wX11_layOut_b85 : Nat → (Nat) → (Int32) → Sg → (Sg → Prop) → Prop
  | 0, _, _, _, _ => False
  | fu + 1, x0, x1, S, Q => (if (fI S 716 x0) ≤ x1 then Q S else ∃ a4 : Nat, (fR S 714 x0) = some a4 ∧ tg S a4 = 13 ∧ vp_in x1 (ln S a4) ∧ ∃ a6 : Nat, (fR S 715 x0) = some a6 ∧ tg S a6 = 13 ∧ vp_in x1 (ln S a6) ∧ wX11_layOutRoutine x0 (aI S a4 (x1).toNatClampNeg) (aI S a6 (x1).toNatClampNeg) S (fun (S9 : Sg) => ∀ y10 : Int32, y10 = x1 + (1) → wX11_layOut_b85 fu x0 y10 S9 Q))
def wX11_layOut_b7 : Nat → (Nat) → (Int32) → Sg → (Sg → Prop) → Prop
  | 0, _, _, _, _ => False
  | fu + 1, x0, x1, S, Q => (if (fI S 708 x0) ≤ x1 then ∃ fu11 : Nat, wX11_layOut_b85 fu11 x0 (0 : Int32) S Q else wX11_isMark x0 x1 S (fun (r12 : Int32) (S13 : Sg) => (if r12 = 0 then ∀ y15 : Int32, y15 = x1 + (1) → wX11_layOut_b7 fu x0 y15 S13 Q else ∃ a16 : Nat, (fR S13 714 x0) = some a16 ∧ tg S13 a16 = 13 ∧ vp_in (fI S13 716 x0) (ln S13 a16) ∧ ∀ S18 : Sg, S18 = sAI S13 a16 ((fI S13 716 x0)).toNatClampNeg (x1 + (1 : Int32)) → ∃ a19 : Nat, (fR S18 715 x0) = some a19 ∧ tg S18 a19 = 13 ∧ vp_in (fI S18 716 x0) (ln S18 a19) ∧ ∀ S21 : Sg, S21 = sAI S18 a19 ((fI S18 716 x0)).toNatClampNeg (fI S18 708 x0) → (if (fI S21 716 x0) ≤ 0 then ∀ S23 : Sg, S23 = sFI S21 716 x0 ((fI S21 716 x0) + (1 : Int32)) → ∀ y24 : Int32, y24 = x1 + (1) → wX11_layOut_b7 fu x0 y24 S23 Q else vp_in ((fI S21 716 x0) - (1 : Int32)) (ln S21 a19) ∧ ∀ S27 : Sg, S27 = sAI S21 a19 (((fI S21 716 x0) - (1 : Int32))).toNatClampNeg x1 → ∀ S28 : Sg, S28 = sFI S27 716 x0 ((fI S27 716 x0) + (1 : Int32)) → ∀ y29 : Int32, y29 = x1 + (1) → wX11_layOut_b7 fu x0 y29 S28 Q))))
def wX11_layOut (x0 : Nat) (S0 : Sg) (Q : Sg → Prop) : Prop := ∀ S1 : Sg, S1 = sFI S0 716 x0 (0 : Int32) → ∃ fu30 : Nat, wX11_layOut_b7 fu30 x0 (0 : Int32) S1 Q
set_option maxHeartbeats 4000000 in
set_option maxRecDepth 100000 in
theorem kX11_layOut_l85 {p : Program} {l : Launch} {e : Env} {s : State} {m : MethodId} {args : Array Value} {below : List Frame} {meth : Method} {c : Code} {D : va_G} {cy : Nat → ClassId} {S0 : Sg} (C : gC p s m args meth c D cy cX11_layOut 2 yX11_layOut.cls none yX11_layOut.name) {x0 : Nat} {Q : Sg → Prop} : ∀ (fu : Nat) (x1 : Int32) (S : Sg) (H : Heap) (locs : List Loc) (ls : Array Slot) (hW : gW D cy (gA S0) (tg S0) s.heap S H locs) (t0 : tg S x0 = 12) (hl : lv_has ls 2 [(0, va_rf (some x0)), (1, .int x1)]) (hw : wX11_layOut_b85 fu x0 x1 S Q), W p l e { frames := 2, cells := 0, slots := 0, locals := 50 } s m args below meth c H locs 0 0 (MQ below (va_Qv Q (gB D cy S0) (gA S0)) args s 0 0 (gA S0)) (F0 m 85 ls []) := by
  have hx := C.1
  have hb := C.2.1
  intro fu
  induction fu with
  | zero =>
    intro x1 S H locs ls hW t0 hl hw
    unfold wX11_layOut_b85 at hw
    exact hw.elim
  | succ fu ih =>
    intro x1 S H locs ls hW t0 hl hw
    unfold wX11_layOut_b85 at hw
    refine lv_iload_n hx hb dX11_layOut_85 rfl (lv_at hl 1 rfl) ?_
    refine gx_aload_n hx hb dX11_layOut_86 rfl (lv_at hl 0 rfl) ?_
    refine gx_getI C hW F11_112 (k := 716) rfl t0 rfl dX11_layOut_87 ?_
    refine lv_icmp_ge (tgt := 115) hx hb dX11_layOut_90 (by decide) (fun c3 => ?_) (fun c3 => ?_)
    · have hw := w_t hw c3
      exact gx_vret C hW (Nat.le_of_ble_eq_true rfl) (Nat.le_of_ble_eq_true rfl) hw dX11_layOut_115
    · have hw := w_f hw c3
      refine gx_aload_n hx hb dX11_layOut_93 rfl (lv_at hl 0 rfl) ?_
      refine gx_aload_n hx hb dX11_layOut_94 rfl (lv_at hl 0 rfl) ?_
      refine gx_getR C hW F11_37 (k := 714) rfl t0 rfl dX11_layOut_95 ?_
      refine lv_iload_n hx hb dX11_layOut_98 rfl (lv_at hl 1 rfl) ?_
      obtain ⟨a4, ha4, ta4, hw⟩ := hw
      obtain ⟨i5, hw⟩ := hw
      refine gx_iald C hW ha4 ta4 i5 dX11_layOut_99 ?_
      refine gx_aload_n hx hb dX11_layOut_100 rfl (lv_at hl 0 rfl) ?_
      refine gx_getR C hW F11_40 (k := 715) rfl t0 rfl dX11_layOut_101 ?_
      refine lv_iload_n hx hb dX11_layOut_104 rfl (lv_at hl 1 rfl) ?_
      obtain ⟨a6, ha6, ta6, hw⟩ := hw
      obtain ⟨i7, hw⟩ := hw
      refine gx_iald C hW ha6 ta6 i7 dX11_layOut_105 ?_
      refine gx_cv (gx_rV C hW M11_119 (mX11_layOutRoutine l D cy _ _ _ _ _ t0 hw) rfl rfl ⟨Nat.le_of_ble_eq_true rfl, Nat.le_of_ble_eq_true rfl⟩ rfl t0 (by decide) rfl rfl hl.1 rfl (gx_room0 (n := 4) (Nat.le_of_ble_eq_true rfl)) dX11_layOut_106 ⟨Nat.le_of_ble_eq_true rfl, Nat.le_of_ble_eq_true rfl⟩) hW (fun S9 H locs hW hm hw => ?_)
      have t0 := hm _ _ t0
      have ta4 := hm _ _ ta4
      have ta6 := hm _ _ ta6
      obtain ⟨y10, ey10⟩ : ∃ z : Int32, z = x1 + (1) := ⟨_, rfl⟩
      have hw := hw y10 ey10
      refine lv_iinc (v := y10) (lv' := [(1, .int y10), (0, va_rf (some x0))]) hx hb dX11_layOut_109 hl (k := 1) rfl (by rw [ey10]; rfl) (by decide) rfl (fun ls hl => ?_)
      refine lv_goto (tgt := 85) hx hb dX11_layOut_112 (by decide) ?_
      exact ih _ _ _ _ _ hW t0 (lv_sub hl [1, 0] rfl) hw
theorem kX11_layOut_b85 {p : Program} {l : Launch} {e : Env} {s : State} {m : MethodId} {args : Array Value} {below : List Frame} {meth : Method} {c : Code} {D : va_G} {cy : Nat → ClassId} {S0 : Sg} (C : gC p s m args meth c D cy cX11_layOut 2 yX11_layOut.cls none yX11_layOut.name) {H : Heap} {locs : List Loc} {ls : Array Slot} {x0 : Nat} {x1 : Int32} {S : Sg} {Q : Sg → Prop} (fu : Nat) (hW : gW D cy (gA S0) (tg S0) s.heap S H locs) (t0 : tg S x0 = 12) (hl : lv_has ls 2 [(0, va_rf (some x0)), (1, .int x1)]) (hw : wX11_layOut_b85 fu x0 x1 S Q) : W p l e { frames := 2, cells := 0, slots := 0, locals := 50 } s m args below meth c H locs 0 0 (MQ below (va_Qv Q (gB D cy S0) (gA S0)) args s 0 0 (gA S0)) (F0 m 85 ls []) := kX11_layOut_l85 C fu _ _ _ _ _ hW t0 hl hw
set_option maxHeartbeats 4000000 in
set_option maxRecDepth 100000 in
theorem kX11_layOut_l7 {p : Program} {l : Launch} {e : Env} {s : State} {m : MethodId} {args : Array Value} {below : List Frame} {meth : Method} {c : Code} {D : va_G} {cy : Nat → ClassId} {S0 : Sg} (C : gC p s m args meth c D cy cX11_layOut 2 yX11_layOut.cls none yX11_layOut.name) {x0 : Nat} {Q : Sg → Prop} : ∀ (fu : Nat) (x1 : Int32) (S : Sg) (H : Heap) (locs : List Loc) (ls : Array Slot) (hW : gW D cy (gA S0) (tg S0) s.heap S H locs) (t0 : tg S x0 = 12) (hl : lv_has ls 2 [(0, va_rf (some x0)), (1, .int x1)]) (hw : wX11_layOut_b7 fu x0 x1 S Q), W p l e { frames := 2, cells := 0, slots := 0, locals := 50 } s m args below meth c H locs 0 0 (MQ below (va_Qv Q (gB D cy S0) (gA S0)) args s 0 0 (gA S0)) (F0 m 7 ls []) := by
  have hx := C.1
  have hb := C.2.1
  intro fu
  induction fu with
  | zero =>
    intro x1 S H locs ls hW t0 hl hw
    unfold wX11_layOut_b7 at hw
    exact hw.elim
  | succ fu ih =>
    intro x1 S H locs ls hW t0 hl hw
    unfold wX11_layOut_b7 at hw
    refine lv_iload_n hx hb dX11_layOut_7 rfl (lv_at hl 1 rfl) ?_
    refine gx_aload_n hx hb dX11_layOut_8 rfl (lv_at hl 0 rfl) ?_
    refine gx_getI C hW F11_109 (k := 708) rfl t0 rfl dX11_layOut_9 ?_
    refine lv_icmp_ge (tgt := 83) hx hb dX11_layOut_12 (by decide) (fun c2 => ?_) (fun c2 => ?_)
    · have hw := w_t hw c2
      refine lv_iconst (v := 0) hx hb dX11_layOut_83 (by decide) ?_
      refine lv_istore_n (i := 1) (lv' := [(1, .int (0 : Int32)), (0, va_rf (some x0))]) hx hb dX11_layOut_84 rfl hl (by decide) rfl (fun ls hl => ?_)
      obtain ⟨fu11, hw⟩ := hw
      exact kX11_layOut_b85 C fu11 hW t0 (lv_sub hl [1, 0] rfl) hw
    · have hw := w_f hw c2
      refine gx_aload_n hx hb dX11_layOut_15 rfl (lv_at hl 0 rfl) ?_
      refine lv_iload_n hx hb dX11_layOut_16 rfl (lv_at hl 1 rfl) ?_
      refine gx_ci (gx_rV C hW M11_115 (mX11_isMark l D cy _ _ _ _ t0 hw) rfl rfl ⟨Nat.le_of_ble_eq_true rfl, Nat.le_of_ble_eq_true rfl⟩ rfl t0 (by decide) rfl rfl hl.1 rfl (gx_room0 (n := 4) (Nat.le_of_ble_eq_true rfl)) dX11_layOut_17 ⟨Nat.le_of_ble_eq_true rfl, Nat.le_of_ble_eq_true rfl⟩) hW (fun r12 S13 H locs hW hm hw => ?_)
      have t0 := hm _ _ t0
      refine lv_if_eq (tgt := 77) hx hb dX11_layOut_20 (by decide) (fun c14 => ?_) (fun c14 => ?_)
      · have hw := w_t hw c14
        obtain ⟨y15, ey15⟩ : ∃ z : Int32, z = x1 + (1) := ⟨_, rfl⟩
        have hw := hw y15 ey15
        refine lv_iinc (v := y15) (lv' := [(1, .int y15), (0, va_rf (some x0))]) hx hb dX11_layOut_77 hl (k := 1) rfl (by rw [ey15]; rfl) (by decide) rfl (fun ls hl => ?_)
        refine lv_goto (tgt := 7) hx hb dX11_layOut_80 (by decide) ?_
        exact ih _ _ _ _ _ hW t0 (lv_sub hl [1, 0] rfl) hw
      · have hw := w_f hw c14
        refine gx_aload_n hx hb dX11_layOut_23 rfl (lv_at hl 0 rfl) ?_
        refine gx_getR C hW F11_37 (k := 714) rfl t0 rfl dX11_layOut_24 ?_
        refine gx_aload_n hx hb dX11_layOut_27 rfl (lv_at hl 0 rfl) ?_
        refine gx_getI C hW F11_112 (k := 716) rfl t0 rfl dX11_layOut_28 ?_
        refine lv_iload_n hx hb dX11_layOut_31 rfl (lv_at hl 1 rfl) ?_
        refine lv_iconst (v := 1) hx hb dX11_layOut_32 (by decide) ?_
        refine lv_iadd hx hb dX11_layOut_33 ?_
        obtain ⟨a16, ha16, ta16, hw⟩ := hw
        obtain ⟨i17, hw⟩ := hw
        refine gx_iast C hW ha16 ta16 i17 dX11_layOut_34 (fun H locs S18 eS18 hW hm => ?_)
        have hw := hw S18 eS18
        have t0 := hm _ _ t0
        have ta16 := hm _ _ ta16
        refine gx_aload_n hx hb dX11_layOut_35 rfl (lv_at hl 0 rfl) ?_
        refine gx_getR C hW F11_40 (k := 715) rfl t0 rfl dX11_layOut_36 ?_
        refine gx_aload_n hx hb dX11_layOut_39 rfl (lv_at hl 0 rfl) ?_
        refine gx_getI C hW F11_112 (k := 716) rfl t0 rfl dX11_layOut_40 ?_
        refine gx_aload_n hx hb dX11_layOut_43 rfl (lv_at hl 0 rfl) ?_
        refine gx_getI C hW F11_109 (k := 708) rfl t0 rfl dX11_layOut_44 ?_
        obtain ⟨a19, ha19, ta19, hw⟩ := hw
        obtain ⟨i20, hw⟩ := hw
        refine gx_iast C hW ha19 ta19 i20 dX11_layOut_47 (fun H locs S21 eS21 hW hm => ?_)
        have hw := hw S21 eS21
        have t0 := hm _ _ t0
        have ta16 := hm _ _ ta16
        have ta19 := hm _ _ ta19
        refine gx_aload_n hx hb dX11_layOut_48 rfl (lv_at hl 0 rfl) ?_
        refine gx_getI C hW F11_112 (k := 716) rfl t0 rfl dX11_layOut_49 ?_
        refine lv_if_le (tgt := 67) hx hb dX11_layOut_52 (by decide) (fun c22 => ?_) (fun c22 => ?_)
        · have hw := w_t hw c22
          refine gx_aload_n hx hb dX11_layOut_67 rfl (lv_at hl 0 rfl) ?_
          refine lv_dup hx hb dX11_layOut_68 (va_rf_cat _) ?_
          refine gx_getI C hW F11_112 (k := 716) rfl t0 rfl dX11_layOut_69 ?_
          refine lv_iconst (v := 1) hx hb dX11_layOut_72 (by decide) ?_
          refine lv_iadd hx hb dX11_layOut_73 ?_
          refine gx_putI (k := 716) C hW F11_112 (Or.inl rfl) rfl t0 rfl rfl rfl dX11_layOut_74 (fun H locs S23 eS23 hW hm => ?_)
          have hw := hw S23 eS23
          have t0 := hm _ _ t0
          have ta16 := hm _ _ ta16
          have ta19 := hm _ _ ta19
          obtain ⟨y24, ey24⟩ : ∃ z : Int32, z = x1 + (1) := ⟨_, rfl⟩
          have hw := hw y24 ey24
          refine lv_iinc (v := y24) (lv' := [(1, .int y24), (0, va_rf (some x0))]) hx hb dX11_layOut_77 hl (k := 1) rfl (by rw [ey24]; rfl) (by decide) rfl (fun ls hl => ?_)
          refine lv_goto (tgt := 7) hx hb dX11_layOut_80 (by decide) ?_
          exact ih _ _ _ _ _ hW t0 (lv_sub hl [1, 0] rfl) hw
        · have hw := w_f hw c22
          refine gx_aload_n hx hb dX11_layOut_55 rfl (lv_at hl 0 rfl) ?_
          refine gx_getR C hW F11_40 (k := 715) rfl t0 rfl dX11_layOut_56 ?_
          refine gx_aload_n hx hb dX11_layOut_59 rfl (lv_at hl 0 rfl) ?_
          refine gx_getI C hW F11_112 (k := 716) rfl t0 rfl dX11_layOut_60 ?_
          refine lv_iconst (v := 1) hx hb dX11_layOut_63 (by decide) ?_
          refine lv_isub hx hb dX11_layOut_64 ?_
          refine lv_iload_n hx hb dX11_layOut_65 rfl (lv_at hl 1 rfl) ?_
          have h25 : (fR S21 715 x0) = some a19 := ((congrArg (fun z => fR z 715 x0) eS21).trans ha19)
          obtain ⟨i26, hw⟩ := hw
          refine gx_iast C hW h25 ta19 i26 dX11_layOut_66 (fun H locs S27 eS27 hW hm => ?_)
          have hw := hw S27 eS27
          have t0 := hm _ _ t0
          have ta16 := hm _ _ ta16
          have ta19 := hm _ _ ta19
          refine gx_aload_n hx hb dX11_layOut_67 rfl (lv_at hl 0 rfl) ?_
          refine lv_dup hx hb dX11_layOut_68 (va_rf_cat _) ?_
          refine gx_getI C hW F11_112 (k := 716) rfl t0 rfl dX11_layOut_69 ?_
          refine lv_iconst (v := 1) hx hb dX11_layOut_72 (by decide) ?_
          refine lv_iadd hx hb dX11_layOut_73 ?_
          refine gx_putI (k := 716) C hW F11_112 (Or.inl rfl) rfl t0 rfl rfl rfl dX11_layOut_74 (fun H locs S28 eS28 hW hm => ?_)
          have hw := hw S28 eS28
          have t0 := hm _ _ t0
          have ta16 := hm _ _ ta16
          have ta19 := hm _ _ ta19
          obtain ⟨y29, ey29⟩ : ∃ z : Int32, z = x1 + (1) := ⟨_, rfl⟩
          have hw := hw y29 ey29
          refine lv_iinc (v := y29) (lv' := [(1, .int y29), (0, va_rf (some x0))]) hx hb dX11_layOut_77 hl (k := 1) rfl (by rw [ey29]; rfl) (by decide) rfl (fun ls hl => ?_)
          refine lv_goto (tgt := 7) hx hb dX11_layOut_80 (by decide) ?_
          exact ih _ _ _ _ _ hW t0 (lv_sub hl [1, 0] rfl) hw
theorem kX11_layOut_b7 {p : Program} {l : Launch} {e : Env} {s : State} {m : MethodId} {args : Array Value} {below : List Frame} {meth : Method} {c : Code} {D : va_G} {cy : Nat → ClassId} {S0 : Sg} (C : gC p s m args meth c D cy cX11_layOut 2 yX11_layOut.cls none yX11_layOut.name) {H : Heap} {locs : List Loc} {ls : Array Slot} {x0 : Nat} {x1 : Int32} {S : Sg} {Q : Sg → Prop} (fu : Nat) (hW : gW D cy (gA S0) (tg S0) s.heap S H locs) (t0 : tg S x0 = 12) (hl : lv_has ls 2 [(0, va_rf (some x0)), (1, .int x1)]) (hw : wX11_layOut_b7 fu x0 x1 S Q) : W p l e { frames := 2, cells := 0, slots := 0, locals := 50 } s m args below meth c H locs 0 0 (MQ below (va_Qv Q (gB D cy S0) (gA S0)) args s 0 0 (gA S0)) (F0 m 7 ls []) := kX11_layOut_l7 C fu _ _ _ _ _ hW t0 hl hw
set_option maxHeartbeats 4000000 in
set_option maxRecDepth 100000 in
theorem mX11_layOut (l : Launch) (D : va_G) (cy : Nat → ClassId) (x0 : Nat) (S0 : Sg) (Q : Sg → Prop) (t0 : tg S0 x0 = 12) (hw : wX11_layOut x0 S0 Q) : Met l yX11_layOut (.code yX11_layOut cX11_layOut 2 none :: wsL_law) { frames := 2, cells := 0, slots := 0, locals := 50 } (gPc D cy [va_rf (some x0)] S0) (va_Qv Q (gB D cy S0) (gA S0)) 0 0 (gA S0) := by
  refine gx_met (by decide) (Nat.le_of_ble_eq_true rfl) ?_
  intro p e s m args below meth c ls C hW hl
  have hx := C.1
  have hb := C.2.1
  have hl : lv_has ls 2 [(0, va_rf (some x0))] := hl
  unfold wX11_layOut at hw
  refine gx_aload_n hx hb dX11_layOut_0 rfl (lv_at hl 0 rfl) ?_
  refine lv_iconst (v := 0) hx hb dX11_layOut_1 (by decide) ?_
  refine gx_putI (k := 716) C hW F11_112 (Or.inl rfl) rfl t0 rfl rfl rfl dX11_layOut_2 (fun H locs S1 eS1 hW hm => ?_)
  have hw := hw S1 eS1
  have t0 := hm _ _ t0
  refine lv_iconst (v := 0) hx hb dX11_layOut_5 (by decide) ?_
  refine lv_istore_n (i := 1) (lv' := [(1, .int (0 : Int32)), (0, va_rf (some x0))]) hx hb dX11_layOut_6 rfl hl (by decide) rfl (fun ls hl => ?_)
  obtain ⟨fu30, hw⟩ := hw
  exact kX11_layOut_b7 C fu30 hW t0 (lv_sub hl [1, 0] rfl) hw
/-! TrialStairModel.begin -/
def wX11_begin (x0 : Nat) (x1 : Int32) (S0 : Sg) (Q : Sg → Prop) : Prop := ∀ S1 : Sg, S1 = sFI S0 746 x0 x1 → ∀ S2 : Sg, S2 = sFI S1 747 x0 (0 : Int32) → ∀ S3 : Sg, S3 = sFI S2 737 x0 (0 : Int32) → ∀ S4 : Sg, S4 = sFI S3 745 x0 (0 : Int32) → ∀ S5 : Sg, S5 = sFI S4 754 x0 (0 : Int32) → ∀ S6 : Sg, S6 = sFI S5 756 x0 (0 : Int32) → ∀ S7 : Sg, S7 = sFI S6 757 x0 (0 : Int32) → ∀ S8 : Sg, S8 = sFI S7 758 x0 (0 : Int32) → ∀ S9 : Sg, S9 = sFL S8 751 x0 (0 : Int64) → ∀ S10 : Sg, S10 = sFI S9 752 x0 (0 : Int32) → ∀ S11 : Sg, S11 = sFI S10 739 x0 (1 : Int32) → Q S11
set_option maxHeartbeats 4000000 in
set_option maxRecDepth 100000 in
theorem mX11_begin (l : Launch) (D : va_G) (cy : Nat → ClassId) (x0 : Nat) (x1 : Int32) (S0 : Sg) (Q : Sg → Prop) (t0 : tg S0 x0 = 12) (hw : wX11_begin x0 x1 S0 Q) : Met l yX11_begin (.code yX11_begin cX11_begin 2 none :: wsL_law) { frames := 0, cells := 0, slots := 0, locals := 0 } (gPc D cy [va_rf (some x0), .int x1] S0) (va_Qv Q (gB D cy S0) (gA S0)) 0 0 (gA S0) := by
  refine gx_met (by decide) (Nat.le_of_ble_eq_true rfl) ?_
  intro p e s m args below meth c ls C hW hl
  have hx := C.1
  have hb := C.2.1
  have hl : lv_has ls 2 [(0, va_rf (some x0)), (1, .int x1)] := hl
  unfold wX11_begin at hw
  refine gx_aload_n hx hb dX11_begin_0 rfl (lv_at hl 0 rfl) ?_
  refine lv_iload_n hx hb dX11_begin_1 rfl (lv_at hl 1 rfl) ?_
  refine gx_putI (k := 746) C hW F11_153 (Or.inl rfl) rfl t0 rfl rfl rfl dX11_begin_2 (fun H locs S1 eS1 hW hm => ?_)
  have hw := hw S1 eS1
  have t0 := hm _ _ t0
  refine gx_aload_n hx hb dX11_begin_5 rfl (lv_at hl 0 rfl) ?_
  refine lv_iconst (v := 0) hx hb dX11_begin_6 (by decide) ?_
  refine gx_putI (k := 747) C hW F11_150 (Or.inl rfl) rfl t0 rfl rfl rfl dX11_begin_7 (fun H locs S2 eS2 hW hm => ?_)
  have hw := hw S2 eS2
  have t0 := hm _ _ t0
  refine gx_aload_n hx hb dX11_begin_10 rfl (lv_at hl 0 rfl) ?_
  refine lv_iconst (v := 0) hx hb dX11_begin_11 (by decide) ?_
  refine gx_putI (k := 737) C hW F11_156 (Or.inl rfl) rfl t0 rfl rfl rfl dX11_begin_12 (fun H locs S3 eS3 hW hm => ?_)
  have hw := hw S3 eS3
  have t0 := hm _ _ t0
  refine gx_aload_n hx hb dX11_begin_15 rfl (lv_at hl 0 rfl) ?_
  refine lv_iconst (v := 0) hx hb dX11_begin_16 (by decide) ?_
  refine gx_putI (k := 745) C hW F11_159 (Or.inl rfl) rfl t0 rfl rfl rfl dX11_begin_17 (fun H locs S4 eS4 hW hm => ?_)
  have hw := hw S4 eS4
  have t0 := hm _ _ t0
  refine gx_aload_n hx hb dX11_begin_20 rfl (lv_at hl 0 rfl) ?_
  refine lv_iconst (v := 0) hx hb dX11_begin_21 (by decide) ?_
  refine gx_putI (k := 754) C hW F11_162 (Or.inl rfl) rfl t0 rfl rfl rfl dX11_begin_22 (fun H locs S5 eS5 hW hm => ?_)
  have hw := hw S5 eS5
  have t0 := hm _ _ t0
  refine gx_aload_n hx hb dX11_begin_25 rfl (lv_at hl 0 rfl) ?_
  refine lv_iconst (v := 0) hx hb dX11_begin_26 (by decide) ?_
  refine gx_putI (k := 756) C hW F11_165 (Or.inl rfl) rfl t0 rfl rfl rfl dX11_begin_27 (fun H locs S6 eS6 hW hm => ?_)
  have hw := hw S6 eS6
  have t0 := hm _ _ t0
  refine gx_aload_n hx hb dX11_begin_30 rfl (lv_at hl 0 rfl) ?_
  refine lv_iconst (v := 0) hx hb dX11_begin_31 (by decide) ?_
  refine gx_putI (k := 757) C hW F11_168 (Or.inl rfl) rfl t0 rfl rfl rfl dX11_begin_32 (fun H locs S7 eS7 hW hm => ?_)
  have hw := hw S7 eS7
  have t0 := hm _ _ t0
  refine gx_aload_n hx hb dX11_begin_35 rfl (lv_at hl 0 rfl) ?_
  refine lv_iconst (v := 0) hx hb dX11_begin_36 (by decide) ?_
  refine gx_putI (k := 758) C hW F11_171 (Or.inl rfl) rfl t0 rfl rfl rfl dX11_begin_37 (fun H locs S8 eS8 hW hm => ?_)
  have hw := hw S8 eS8
  have t0 := hm _ _ t0
  refine gx_aload_n hx hb dX11_begin_40 rfl (lv_at hl 0 rfl) ?_
  refine lv_lconst (v := 0) hx hb dX11_begin_41 (by decide) ?_
  refine gx_putL (k := 751) C hW F11_174 (Or.inl rfl) rfl t0 rfl dX11_begin_42 (fun H locs S9 eS9 hW hm => ?_)
  have hw := hw S9 eS9
  have t0 := hm _ _ t0
  refine gx_aload_n hx hb dX11_begin_45 rfl (lv_at hl 0 rfl) ?_
  refine lv_iconst (v := 0) hx hb dX11_begin_46 (by decide) ?_
  refine gx_putI (k := 752) C hW F11_178 (Or.inl rfl) rfl t0 rfl rfl rfl dX11_begin_47 (fun H locs S10 eS10 hW hm => ?_)
  have hw := hw S10 eS10
  have t0 := hm _ _ t0
  refine gx_aload_n hx hb dX11_begin_50 rfl (lv_at hl 0 rfl) ?_
  refine lv_iconst (v := 1) hx hb dX11_begin_51 (by decide) ?_
  refine gx_putI (k := 739) C hW F11_140 (Or.inl rfl) rfl t0 rfl rfl rfl dX11_begin_52 (fun H locs S11 eS11 hW hm => ?_)
  have hw := hw S11 eS11
  have t0 := hm _ _ t0
  exact gx_vret C hW (Nat.le_of_ble_eq_true rfl) (Nat.le_of_ble_eq_true rfl) hw dX11_begin_55
/-! TrialStairModel.stop -/
def wX11_stop (x0 : Nat) (x1 : Int32) (S0 : Sg) (Q : Sg → Prop) : Prop := ∀ S1 : Sg, S1 = sFI S0 750 x0 x1 → ∀ S2 : Sg, S2 = sFI S1 739 x0 (0 : Int32) → Q S2
set_option maxHeartbeats 4000000 in
set_option maxRecDepth 100000 in
theorem mX11_stop (l : Launch) (D : va_G) (cy : Nat → ClassId) (x0 : Nat) (x1 : Int32) (S0 : Sg) (Q : Sg → Prop) (t0 : tg S0 x0 = 12) (hw : wX11_stop x0 x1 S0 Q) : Met l yX11_stop (.code yX11_stop cX11_stop 2 none :: wsL_law) { frames := 0, cells := 0, slots := 0, locals := 0 } (gPc D cy [va_rf (some x0), .int x1] S0) (va_Qv Q (gB D cy S0) (gA S0)) 0 0 (gA S0) := by
  refine gx_met (by decide) (Nat.le_of_ble_eq_true rfl) ?_
  intro p e s m args below meth c ls C hW hl
  have hx := C.1
  have hb := C.2.1
  have hl : lv_has ls 2 [(0, va_rf (some x0)), (1, .int x1)] := hl
  unfold wX11_stop at hw
  refine gx_aload_n hx hb dX11_stop_0 rfl (lv_at hl 0 rfl) ?_
  refine lv_iload_n hx hb dX11_stop_1 rfl (lv_at hl 1 rfl) ?_
  refine gx_putI (k := 750) C hW F11_99 (Or.inl rfl) rfl t0 rfl rfl rfl dX11_stop_2 (fun H locs S1 eS1 hW hm => ?_)
  have hw := hw S1 eS1
  have t0 := hm _ _ t0
  refine gx_aload_n hx hb dX11_stop_5 rfl (lv_at hl 0 rfl) ?_
  refine lv_iconst (v := 0) hx hb dX11_stop_6 (by decide) ?_
  refine gx_putI (k := 739) C hW F11_140 (Or.inl rfl) rfl t0 rfl rfl rfl dX11_stop_7 (fun H locs S2 eS2 hW hm => ?_)
  have hw := hw S2 eS2
  have t0 := hm _ _ t0
  exact gx_vret C hW (Nat.le_of_ble_eq_true rfl) (Nat.le_of_ble_eq_true rfl) hw dX11_stop_10
/-! TrialStairModel.opens -/
def wX11_opens (x0 : Nat) (x1 : Int32) (x2 : Int32) (x3 : Int32) (S0 : Sg) (Q : Int32 → Sg → Prop) : Prop := (if (fI S0 737 x0) = (200 : Int32) then wX11_stop x0 (4 : Int32) S0 (fun (S22 : Sg) => Q (0 : Int32) S22) else ∃ a2 : Nat, (fR S0 729 x0) = some a2 ∧ tg S0 a2 = 13 ∧ vp_in (fI S0 737 x0) (ln S0 a2) ∧ ∀ S4 : Sg, S4 = sAI S0 a2 ((fI S0 737 x0)).toNatClampNeg x1 → ∃ a5 : Nat, (fR S4 730 x0) = some a5 ∧ tg S4 a5 = 13 ∧ vp_in (fI S4 737 x0) (ln S4 a5) ∧ ∀ S7 : Sg, S7 = sAI S4 a5 ((fI S4 737 x0)).toNatClampNeg x2 → ∃ a8 : Nat, (fR S7 731 x0) = some a8 ∧ tg S7 a8 = 13 ∧ vp_in (fI S7 737 x0) (ln S7 a8) ∧ ∀ S10 : Sg, S10 = sAI S7 a8 ((fI S7 737 x0)).toNatClampNeg x3 → ∃ a11 : Nat, (fR S10 732 x0) = some a11 ∧ tg S10 a11 = 13 ∧ vp_in (fI S10 737 x0) (ln S10 a11) ∧ ∀ S13 : Sg, S13 = sAI S10 a11 ((fI S10 737 x0)).toNatClampNeg (0 : Int32) → ∃ a14 : Nat, (fR S13 733 x0) = some a14 ∧ tg S13 a14 = 13 ∧ vp_in (fI S13 737 x0) (ln S13 a14) ∧ ∀ S16 : Sg, S16 = sAI S13 a14 ((fI S13 737 x0)).toNatClampNeg (0 : Int32) → ∀ S17 : Sg, S17 = sFI S16 737 x0 ((fI S16 737 x0) + (1 : Int32)) → (if (fI S17 737 x0) ≤ (fI S17 758 x0) then ∀ S19 : Sg, S19 = sFI S17 758 x0 (fI S17 758 x0) → Q (1 : Int32) S19 else ∀ S20 : Sg, S20 = sFI S17 758 x0 (fI S17 737 x0) → Q (1 : Int32) S20))
set_option maxHeartbeats 4000000 in
set_option maxRecDepth 100000 in
theorem mX11_opens (l : Launch) (D : va_G) (cy : Nat → ClassId) (x0 : Nat) (x1 : Int32) (x2 : Int32) (x3 : Int32) (S0 : Sg) (Q : Int32 → Sg → Prop) (t0 : tg S0 x0 = 12) (hw : wX11_opens x0 x1 x2 x3 S0 Q) : Met l yX11_opens (.code yX11_opens cX11_opens 4 (some .boolean) :: wsL_law) { frames := 1, cells := 0, slots := 0, locals := 21 } (gPc D cy [va_rf (some x0), .int x1, .int x2, .int x3] S0) (va_Qi Q (gB D cy S0) (gA S0)) 0 0 (gA S0) := by
  refine gx_met (by decide) (Nat.le_of_ble_eq_true rfl) ?_
  intro p e s m args below meth c ls C hW hl
  have hx := C.1
  have hb := C.2.1
  have hl : lv_has ls 4 [(0, va_rf (some x0)), (1, .int x1), (2, .int x2), (3, .int x3)] := hl
  unfold wX11_opens at hw
  refine gx_aload_n hx hb dX11_opens_0 rfl (lv_at hl 0 rfl) ?_
  refine gx_getI C hW F11_156 (k := 737) rfl t0 rfl dX11_opens_1 ?_
  refine lv_sipush (v := 200) hx hb dX11_opens_4 (by decide) ?_
  refine lv_icmp_ne (tgt := 17) hx hb dX11_opens_7 (by decide) (fun c1 => ?_) (fun c1 => ?_)
  · have hw := w_f hw c1
    refine gx_aload_n hx hb dX11_opens_17 rfl (lv_at hl 0 rfl) ?_
    refine gx_getR C hW F11_69 (k := 729) rfl t0 rfl dX11_opens_18 ?_
    refine gx_aload_n hx hb dX11_opens_21 rfl (lv_at hl 0 rfl) ?_
    refine gx_getI C hW F11_156 (k := 737) rfl t0 rfl dX11_opens_22 ?_
    refine lv_iload_n hx hb dX11_opens_25 rfl (lv_at hl 1 rfl) ?_
    obtain ⟨a2, ha2, ta2, hw⟩ := hw
    obtain ⟨i3, hw⟩ := hw
    refine gx_iast C hW ha2 ta2 i3 dX11_opens_26 (fun H locs S4 eS4 hW hm => ?_)
    have hw := hw S4 eS4
    have t0 := hm _ _ t0
    have ta2 := hm _ _ ta2
    refine gx_aload_n hx hb dX11_opens_27 rfl (lv_at hl 0 rfl) ?_
    refine gx_getR C hW F11_72 (k := 730) rfl t0 rfl dX11_opens_28 ?_
    refine gx_aload_n hx hb dX11_opens_31 rfl (lv_at hl 0 rfl) ?_
    refine gx_getI C hW F11_156 (k := 737) rfl t0 rfl dX11_opens_32 ?_
    refine lv_iload_n hx hb dX11_opens_35 rfl (lv_at hl 2 rfl) ?_
    obtain ⟨a5, ha5, ta5, hw⟩ := hw
    obtain ⟨i6, hw⟩ := hw
    refine gx_iast C hW ha5 ta5 i6 dX11_opens_36 (fun H locs S7 eS7 hW hm => ?_)
    have hw := hw S7 eS7
    have t0 := hm _ _ t0
    have ta2 := hm _ _ ta2
    have ta5 := hm _ _ ta5
    refine gx_aload_n hx hb dX11_opens_37 rfl (lv_at hl 0 rfl) ?_
    refine gx_getR C hW F11_75 (k := 731) rfl t0 rfl dX11_opens_38 ?_
    refine gx_aload_n hx hb dX11_opens_41 rfl (lv_at hl 0 rfl) ?_
    refine gx_getI C hW F11_156 (k := 737) rfl t0 rfl dX11_opens_42 ?_
    refine lv_iload_n hx hb dX11_opens_45 rfl (lv_at hl 3 rfl) ?_
    obtain ⟨a8, ha8, ta8, hw⟩ := hw
    obtain ⟨i9, hw⟩ := hw
    refine gx_iast C hW ha8 ta8 i9 dX11_opens_46 (fun H locs S10 eS10 hW hm => ?_)
    have hw := hw S10 eS10
    have t0 := hm _ _ t0
    have ta2 := hm _ _ ta2
    have ta5 := hm _ _ ta5
    have ta8 := hm _ _ ta8
    refine gx_aload_n hx hb dX11_opens_47 rfl (lv_at hl 0 rfl) ?_
    refine gx_getR C hW F11_78 (k := 732) rfl t0 rfl dX11_opens_48 ?_
    refine gx_aload_n hx hb dX11_opens_51 rfl (lv_at hl 0 rfl) ?_
    refine gx_getI C hW F11_156 (k := 737) rfl t0 rfl dX11_opens_52 ?_
    refine lv_iconst (v := 0) hx hb dX11_opens_55 (by decide) ?_
    obtain ⟨a11, ha11, ta11, hw⟩ := hw
    obtain ⟨i12, hw⟩ := hw
    refine gx_iast C hW ha11 ta11 i12 dX11_opens_56 (fun H locs S13 eS13 hW hm => ?_)
    have hw := hw S13 eS13
    have t0 := hm _ _ t0
    have ta2 := hm _ _ ta2
    have ta5 := hm _ _ ta5
    have ta8 := hm _ _ ta8
    have ta11 := hm _ _ ta11
    refine gx_aload_n hx hb dX11_opens_57 rfl (lv_at hl 0 rfl) ?_
    refine gx_getR C hW F11_81 (k := 733) rfl t0 rfl dX11_opens_58 ?_
    refine gx_aload_n hx hb dX11_opens_61 rfl (lv_at hl 0 rfl) ?_
    refine gx_getI C hW F11_156 (k := 737) rfl t0 rfl dX11_opens_62 ?_
    refine lv_iconst (v := 0) hx hb dX11_opens_65 (by decide) ?_
    obtain ⟨a14, ha14, ta14, hw⟩ := hw
    obtain ⟨i15, hw⟩ := hw
    refine gx_iast C hW ha14 ta14 i15 dX11_opens_66 (fun H locs S16 eS16 hW hm => ?_)
    have hw := hw S16 eS16
    have t0 := hm _ _ t0
    have ta2 := hm _ _ ta2
    have ta5 := hm _ _ ta5
    have ta8 := hm _ _ ta8
    have ta11 := hm _ _ ta11
    have ta14 := hm _ _ ta14
    refine gx_aload_n hx hb dX11_opens_67 rfl (lv_at hl 0 rfl) ?_
    refine lv_dup hx hb dX11_opens_68 (va_rf_cat _) ?_
    refine gx_getI C hW F11_156 (k := 737) rfl t0 rfl dX11_opens_69 ?_
    refine lv_iconst (v := 1) hx hb dX11_opens_72 (by decide) ?_
    refine lv_iadd hx hb dX11_opens_73 ?_
    refine gx_putI (k := 737) C hW F11_156 (Or.inl rfl) rfl t0 rfl rfl rfl dX11_opens_74 (fun H locs S17 eS17 hW hm => ?_)
    have hw := hw S17 eS17
    have t0 := hm _ _ t0
    have ta2 := hm _ _ ta2
    have ta5 := hm _ _ ta5
    have ta8 := hm _ _ ta8
    have ta11 := hm _ _ ta11
    have ta14 := hm _ _ ta14
    refine gx_aload_n hx hb dX11_opens_77 rfl (lv_at hl 0 rfl) ?_
    refine gx_aload_n hx hb dX11_opens_78 rfl (lv_at hl 0 rfl) ?_
    refine gx_getI C hW F11_156 (k := 737) rfl t0 rfl dX11_opens_79 ?_
    refine gx_aload_n hx hb dX11_opens_82 rfl (lv_at hl 0 rfl) ?_
    refine gx_getI C hW F11_171 (k := 758) rfl t0 rfl dX11_opens_83 ?_
    refine lv_icmp_le (tgt := 96) hx hb dX11_opens_86 (by decide) (fun c18 => ?_) (fun c18 => ?_)
    · have hw := w_t hw c18
      refine gx_aload_n hx hb dX11_opens_96 rfl (lv_at hl 0 rfl) ?_
      refine gx_getI C hW F11_171 (k := 758) rfl t0 rfl dX11_opens_97 ?_
      refine gx_putI (k := 758) C hW F11_171 (Or.inl rfl) rfl t0 rfl rfl rfl dX11_opens_100 (fun H locs S19 eS19 hW hm => ?_)
      have hw := hw S19 eS19
      have t0 := hm _ _ t0
      have ta2 := hm _ _ ta2
      have ta5 := hm _ _ ta5
      have ta8 := hm _ _ ta8
      have ta11 := hm _ _ ta11
      have ta14 := hm _ _ ta14
      refine lv_iconst (v := 1) hx hb dX11_opens_103 (by decide) ?_
      exact gx_iret C hW (Nat.le_of_ble_eq_true rfl) (Nat.le_of_ble_eq_true rfl) rfl hw dX11_opens_104
    · have hw := w_f hw c18
      refine gx_aload_n hx hb dX11_opens_89 rfl (lv_at hl 0 rfl) ?_
      refine gx_getI C hW F11_156 (k := 737) rfl t0 rfl dX11_opens_90 ?_
      refine lv_goto (tgt := 100) hx hb dX11_opens_93 (by decide) ?_
      refine gx_putI (k := 758) C hW F11_171 (Or.inl rfl) rfl t0 rfl rfl rfl dX11_opens_100 (fun H locs S20 eS20 hW hm => ?_)
      have hw := hw S20 eS20
      have t0 := hm _ _ t0
      have ta2 := hm _ _ ta2
      have ta5 := hm _ _ ta5
      have ta8 := hm _ _ ta8
      have ta11 := hm _ _ ta11
      have ta14 := hm _ _ ta14
      refine lv_iconst (v := 1) hx hb dX11_opens_103 (by decide) ?_
      exact gx_iret C hW (Nat.le_of_ble_eq_true rfl) (Nat.le_of_ble_eq_true rfl) rfl hw dX11_opens_104
  · have hw := w_t hw c1
    refine gx_aload_n hx hb dX11_opens_10 rfl (lv_at hl 0 rfl) ?_
    refine lv_iconst (v := 4) hx hb dX11_opens_11 (by decide) ?_
    refine gx_cv (gx_rV C hW M11_181 (mX11_stop l D cy _ _ _ _ t0 hw) rfl rfl ⟨Nat.le_of_ble_eq_true rfl, Nat.le_of_ble_eq_true rfl⟩ rfl t0 (by decide) rfl rfl hl.1 rfl (gx_room0 (n := 4) (Nat.le_of_ble_eq_true rfl)) dX11_opens_12 ⟨Nat.le_of_ble_eq_true rfl, Nat.le_of_ble_eq_true rfl⟩) hW (fun S22 H locs hW hm hw => ?_)
    have t0 := hm _ _ t0
    refine lv_iconst (v := 0) hx hb dX11_opens_15 (by decide) ?_
    exact gx_iret C hW (Nat.le_of_ble_eq_true rfl) (Nat.le_of_ble_eq_true rfl) rfl hw dX11_opens_16
/-! TrialStairModel.enter -/
def wX11_enter (x0 : Nat) (x1 : Int32) (x2 : Int32) (S0 : Sg) (Q : Sg → Prop) : Prop := ∃ a1 : Nat, (fR S0 715 x0) = some a1 ∧ tg S0 a1 = 13 ∧ vp_in x1 (ln S0 a1) ∧ wX11_opens x0 (0 : Int32) x2 (aI S0 a1 (x1).toNatClampNeg) S0 (fun (r3 : Int32) (S4 : Sg) => (if r3 = 0 then Q S4 else ∃ a6 : Nat, (fR S4 714 x0) = some a6 ∧ tg S4 a6 = 13 ∧ vp_in x1 (ln S4 a6) ∧ ∀ S8 : Sg, S8 = sFI S4 738 x0 (aI S4 a6 (x1).toNatClampNeg) → Q S8))
set_option maxHeartbeats 4000000 in
set_option maxRecDepth 100000 in
theorem mX11_enter (l : Launch) (D : va_G) (cy : Nat → ClassId) (x0 : Nat) (x1 : Int32) (x2 : Int32) (S0 : Sg) (Q : Sg → Prop) (t0 : tg S0 x0 = 12) (hw : wX11_enter x0 x1 x2 S0 Q) : Met l yX11_enter (.code yX11_enter cX11_enter 3 none :: wsL_law) { frames := 2, cells := 0, slots := 0, locals := 44 } (gPc D cy [va_rf (some x0), .int x1, .int x2] S0) (va_Qv Q (gB D cy S0) (gA S0)) 0 0 (gA S0) := by
  refine gx_met (by decide) (Nat.le_of_ble_eq_true rfl) ?_
  intro p e s m args below meth c ls C hW hl
  have hx := C.1
  have hb := C.2.1
  have hl : lv_has ls 3 [(0, va_rf (some x0)), (1, .int x1), (2, .int x2)] := hl
  unfold wX11_enter at hw
  refine gx_aload_n hx hb dX11_enter_0 rfl (lv_at hl 0 rfl) ?_
  refine lv_iconst (v := 0) hx hb dX11_enter_1 (by decide) ?_
  refine lv_iload_n hx hb dX11_enter_2 rfl (lv_at hl 2 rfl) ?_
  refine gx_aload_n hx hb dX11_enter_3 rfl (lv_at hl 0 rfl) ?_
  refine gx_getR C hW F11_40 (k := 715) rfl t0 rfl dX11_enter_4 ?_
  refine lv_iload_n hx hb dX11_enter_7 rfl (lv_at hl 1 rfl) ?_
  obtain ⟨a1, ha1, ta1, hw⟩ := hw
  obtain ⟨i2, hw⟩ := hw
  refine gx_iald C hW ha1 ta1 i2 dX11_enter_8 ?_
  refine gx_ci (gx_rV C hW M11_184 (mX11_opens l D cy _ _ _ _ _ _ t0 hw) rfl rfl ⟨Nat.le_of_ble_eq_true rfl, Nat.le_of_ble_eq_true rfl⟩ rfl t0 (by decide) rfl rfl hl.1 rfl (gx_room0 (n := 4) (Nat.le_of_ble_eq_true rfl)) dX11_enter_9 ⟨Nat.le_of_ble_eq_true rfl, Nat.le_of_ble_eq_true rfl⟩) hW (fun r3 S4 H locs hW hm hw => ?_)
  have t0 := hm _ _ t0
  have ta1 := hm _ _ ta1
  refine lv_if_eq (tgt := 25) hx hb dX11_enter_12 (by decide) (fun c5 => ?_) (fun c5 => ?_)
  · have hw := w_t hw c5
    exact gx_vret C hW (Nat.le_of_ble_eq_true rfl) (Nat.le_of_ble_eq_true rfl) hw dX11_enter_25
  · have hw := w_f hw c5
    refine gx_aload_n hx hb dX11_enter_15 rfl (lv_at hl 0 rfl) ?_
    refine gx_aload_n hx hb dX11_enter_16 rfl (lv_at hl 0 rfl) ?_
    refine gx_getR C hW F11_37 (k := 714) rfl t0 rfl dX11_enter_17 ?_
    refine lv_iload_n hx hb dX11_enter_20 rfl (lv_at hl 1 rfl) ?_
    obtain ⟨a6, ha6, ta6, hw⟩ := hw
    obtain ⟨i7, hw⟩ := hw
    refine gx_iald C hW ha6 ta6 i7 dX11_enter_21 ?_
    refine gx_putI (k := 738) C hW F11_187 (Or.inl rfl) rfl t0 rfl rfl rfl dX11_enter_22 (fun H locs S8 eS8 hW hm => ?_)
    have hw := hw S8 eS8
    have t0 := hm _ _ t0
    have ta1 := hm _ _ ta1
    have ta6 := hm _ _ ta6
    exact gx_vret C hW (Nat.le_of_ble_eq_true rfl) (Nat.le_of_ble_eq_true rfl) hw dX11_enter_25
/-! TrialStairModel.partEnd -/
def wX11_partEnd_b78 (x0 : Nat) (x1 : Int32) (x2 : Int32) (q0 : Int32) (S : Sg) (Q : Int32 → Sg → Prop) : Prop := ∃ a19 : Nat, (fR S 732 x0) = some a19 ∧ tg S a19 = 13 ∧ vp_in x1 (ln S a19) ∧ (if (aI S a19 (x1).toNatClampNeg) = 0 then ∃ a22 : Nat, (fR S 710 x0) = some a22 ∧ tg S a22 = 13 ∧ vp_in x2 (ln S a22) ∧ (if (aI S a22 (x2).toNatClampNeg) < 0 then Q q0 S else vp_in x2 (ln S a22) ∧ Q (aI S a22 (x2).toNatClampNeg) S) else Q q0 S)
def wX11_partEnd (x0 : Nat) (S0 : Sg) (Q : Int32 → Sg → Prop) : Prop := ∀ y1 : Int32, y1 = ((fI S0 737 x0) - (1 : Int32)) → ∃ a2 : Nat, (fR S0 729 x0) = some a2 ∧ tg S0 a2 = 13 ∧ vp_in y1 (ln S0 a2) ∧ (if (aI S0 a2 (y1).toNatClampNeg) = 0 then ∃ a27 : Nat, (fR S0 731 x0) = some a27 ∧ tg S0 a27 = 13 ∧ vp_in y1 (ln S0 a27) ∧ Q (aI S0 a27 (y1).toNatClampNeg) S0 else ∃ a5 : Nat, (fR S0 730 x0) = some a5 ∧ tg S0 a5 = 13 ∧ vp_in y1 (ln S0 a5) ∧ ∀ y7 : Int32, y7 = (aI S0 a5 (y1).toNatClampNeg) → ∃ a8 : Nat, (fR S0 709 x0) = some a8 ∧ tg S0 a8 = 13 ∧ vp_in y7 (ln S0 a8) ∧ ∀ y10 : Int32, y10 = (aI S0 a8 (y7).toNatClampNeg) → vp_in y1 (ln S0 a2) ∧ (if (aI S0 a2 (y1).toNatClampNeg) = (1 : Int32) then ∃ a13 : Nat, (fR S0 732 x0) = some a13 ∧ tg S0 a13 = 13 ∧ vp_in y1 (ln S0 a13) ∧ (if (aI S0 a13 (y1).toNatClampNeg) = (2 : Int32) then Q y10 S0 else ∃ a16 : Nat, (fR S0 711 x0) = some a16 ∧ tg S0 a16 = 13 ∧ vp_in y7 (ln S0 a16) ∧ (if (aI S0 a16 (y7).toNatClampNeg) < 0 then wX11_partEnd_b78 x0 y1 y7 y10 S0 Q else vp_in y7 (ln S0 a16) ∧ wX11_partEnd_b78 x0 y1 y7 (aI S0 a16 (y7).toNatClampNeg) S0 Q)) else Q y10 S0))
set_option maxHeartbeats 4000000 in
set_option maxRecDepth 100000 in
theorem kX11_partEnd_b78 {p : Program} {l : Launch} {e : Env} {s : State} {m : MethodId} {args : Array Value} {below : List Frame} {meth : Method} {c : Code} {D : va_G} {cy : Nat → ClassId} {S0 : Sg} (C : gC p s m args meth c D cy cX11_partEnd 4 yX11_partEnd.cls (some .int) yX11_partEnd.name) {H : Heap} {locs : List Loc} {ls : Array Slot} {x0 : Nat} {x1 : Int32} {x2 : Int32} {q0 : Int32} {S : Sg} {Q : Int32 → Sg → Prop} (hW : gW D cy (gA S0) (tg S0) s.heap S H locs) (t0 : tg S x0 = 12) (hl : lv_has ls 4 [(0, va_rf (some x0)), (1, .int x1), (2, .int x2)]) (hw : wX11_partEnd_b78 x0 x1 x2 q0 S Q) : W p l e { frames := 0, cells := 0, slots := 0, locals := 0 } s m args below meth c H locs 0 0 (MQ below (va_Qi Q (gB D cy S0) (gA S0)) args s 0 0 (gA S0)) (F0 m 78 ls [.int q0]) := by
  have hx := C.1
  have hb := C.2.1
  unfold wX11_partEnd_b78 at hw
  refine lv_istore_n (i := 3) (lv' := [(3, .int q0), (0, va_rf (some x0)), (1, .int x1), (2, .int x2)]) hx hb dX11_partEnd_78 rfl hl (by decide) rfl (fun ls hl => ?_)
  refine gx_aload_n hx hb dX11_partEnd_79 rfl (lv_at hl 1 rfl) ?_
  refine gx_getR C hW F11_78 (k := 732) rfl t0 rfl dX11_partEnd_80 ?_
  refine lv_iload_n hx hb dX11_partEnd_83 rfl (lv_at hl 2 rfl) ?_
  obtain ⟨a19, ha19, ta19, hw⟩ := hw
  obtain ⟨i20, hw⟩ := hw
  refine gx_iald C hW ha19 ta19 i20 dX11_partEnd_84 ?_
  refine lv_if_ne (tgt := 106) hx hb dX11_partEnd_85 (by decide) (fun c21 => ?_) (fun c21 => ?_)
  · have hw := w_f hw c21
    refine lv_iload_n hx hb dX11_partEnd_106 rfl (lv_at hl 0 rfl) ?_
    exact gx_iret C hW (Nat.le_of_ble_eq_true rfl) (Nat.le_of_ble_eq_true rfl) rfl hw dX11_partEnd_107
  · have hw := w_t hw c21
    refine gx_aload_n hx hb dX11_partEnd_88 rfl (lv_at hl 1 rfl) ?_
    refine gx_getR C hW F11_25 (k := 710) rfl t0 rfl dX11_partEnd_89 ?_
    refine lv_iload_n hx hb dX11_partEnd_92 rfl (lv_at hl 3 rfl) ?_
    obtain ⟨a22, ha22, ta22, hw⟩ := hw
    obtain ⟨i23, hw⟩ := hw
    refine gx_iald C hW ha22 ta22 i23 dX11_partEnd_93 ?_
    refine lv_if_lt (tgt := 106) hx hb dX11_partEnd_94 (by decide) (fun c24 => ?_) (fun c24 => ?_)
    · have hw := w_t hw c24
      refine lv_iload_n hx hb dX11_partEnd_106 rfl (lv_at hl 0 rfl) ?_
      exact gx_iret C hW (Nat.le_of_ble_eq_true rfl) (Nat.le_of_ble_eq_true rfl) rfl hw dX11_partEnd_107
    · have hw := w_f hw c24
      refine gx_aload_n hx hb dX11_partEnd_97 rfl (lv_at hl 1 rfl) ?_
      refine gx_getR C hW F11_25 (k := 710) rfl t0 rfl dX11_partEnd_98 ?_
      refine lv_iload_n hx hb dX11_partEnd_101 rfl (lv_at hl 3 rfl) ?_
      obtain ⟨i25, hw⟩ := hw
      refine gx_iald C hW ha22 ta22 i25 dX11_partEnd_102 ?_
      refine lv_goto (tgt := 107) hx hb dX11_partEnd_103 (by decide) ?_
      exact gx_iret C hW (Nat.le_of_ble_eq_true rfl) (Nat.le_of_ble_eq_true rfl) rfl hw dX11_partEnd_107
set_option maxHeartbeats 4000000 in
set_option maxRecDepth 100000 in
theorem mX11_partEnd (l : Launch) (D : va_G) (cy : Nat → ClassId) (x0 : Nat) (S0 : Sg) (Q : Int32 → Sg → Prop) (t0 : tg S0 x0 = 12) (hw : wX11_partEnd x0 S0 Q) : Met l yX11_partEnd (.code yX11_partEnd cX11_partEnd 4 (some .int) :: wsL_law) { frames := 0, cells := 0, slots := 0, locals := 0 } (gPc D cy [va_rf (some x0)] S0) (va_Qi Q (gB D cy S0) (gA S0)) 0 0 (gA S0) := by
  refine gx_met (by decide) (Nat.le_of_ble_eq_true rfl) ?_
  intro p e s m args below meth c ls C hW hl
  have hx := C.1
  have hb := C.2.1
  have hl : lv_has ls 4 [(0, va_rf (some x0))] := hl
  unfold wX11_partEnd at hw
  refine gx_aload_n hx hb dX11_partEnd_0 rfl (lv_at hl 0 rfl) ?_
  refine gx_getI C hW F11_156 (k := 737) rfl t0 rfl dX11_partEnd_1 ?_
  refine lv_iconst (v := 1) hx hb dX11_partEnd_4 (by decide) ?_
  refine lv_isub hx hb dX11_partEnd_5 ?_
  refine lv_topi (fun y1 ey1 => ?_)
  have hw := hw y1 ey1
  refine lv_istore_n (i := 1) (lv' := [(1, .int y1), (0, va_rf (some x0))]) hx hb dX11_partEnd_6 rfl hl (by decide) rfl (fun ls hl => ?_)
  refine gx_aload_n hx hb dX11_partEnd_7 rfl (lv_at hl 1 rfl) ?_
  refine gx_getR C hW F11_69 (k := 729) rfl t0 rfl dX11_partEnd_8 ?_
  refine lv_iload_n hx hb dX11_partEnd_11 rfl (lv_at hl 0 rfl) ?_
  obtain ⟨a2, ha2, ta2, hw⟩ := hw
  obtain ⟨i3, hw⟩ := hw
  refine gx_iald C hW ha2 ta2 i3 dX11_partEnd_12 ?_
  refine lv_if_ne (tgt := 23) hx hb dX11_partEnd_13 (by decide) (fun c4 => ?_) (fun c4 => ?_)
  · have hw := w_f hw c4
    refine gx_aload_n hx hb dX11_partEnd_23 rfl (lv_at hl 1 rfl) ?_
    refine gx_getR C hW F11_72 (k := 730) rfl t0 rfl dX11_partEnd_24 ?_
    refine lv_iload_n hx hb dX11_partEnd_27 rfl (lv_at hl 0 rfl) ?_
    obtain ⟨a5, ha5, ta5, hw⟩ := hw
    obtain ⟨i6, hw⟩ := hw
    refine gx_iald C hW ha5 ta5 i6 dX11_partEnd_28 ?_
    refine lv_topi (fun y7 ey7 => ?_)
    have hw := hw y7 ey7
    refine lv_istore_n (i := 2) (lv' := [(2, .int y7), (1, .int y1), (0, va_rf (some x0))]) hx hb dX11_partEnd_29 rfl hl (by decide) rfl (fun ls hl => ?_)
    refine gx_aload_n hx hb dX11_partEnd_30 rfl (lv_at hl 2 rfl) ?_
    refine gx_getR C hW F11_22 (k := 709) rfl t0 rfl dX11_partEnd_31 ?_
    refine lv_iload_n hx hb dX11_partEnd_34 rfl (lv_at hl 0 rfl) ?_
    obtain ⟨a8, ha8, ta8, hw⟩ := hw
    obtain ⟨i9, hw⟩ := hw
    refine gx_iald C hW ha8 ta8 i9 dX11_partEnd_35 ?_
    refine lv_topi (fun y10 ey10 => ?_)
    have hw := hw y10 ey10
    refine lv_istore_n (i := 3) (lv' := [(3, .int y10), (2, .int y7), (1, .int y1), (0, va_rf (some x0))]) hx hb dX11_partEnd_36 rfl hl (by decide) rfl (fun ls hl => ?_)
    refine gx_aload_n hx hb dX11_partEnd_37 rfl (lv_at hl 3 rfl) ?_
    refine gx_getR C hW F11_69 (k := 729) rfl t0 rfl dX11_partEnd_38 ?_
    refine lv_iload_n hx hb dX11_partEnd_41 rfl (lv_at hl 2 rfl) ?_
    obtain ⟨i11, hw⟩ := hw
    refine gx_iald C hW ha2 ta2 i11 dX11_partEnd_42 ?_
    refine lv_iconst (v := 1) hx hb dX11_partEnd_43 (by decide) ?_
    refine lv_icmp_ne (tgt := 57) hx hb dX11_partEnd_44 (by decide) (fun c12 => ?_) (fun c12 => ?_)
    · have hw := w_f hw c12
      refine lv_iload_n hx hb dX11_partEnd_57 rfl (lv_at hl 0 rfl) ?_
      exact gx_iret C hW (Nat.le_of_ble_eq_true rfl) (Nat.le_of_ble_eq_true rfl) rfl hw dX11_partEnd_58
    · have hw := w_t hw c12
      refine gx_aload_n hx hb dX11_partEnd_47 rfl (lv_at hl 3 rfl) ?_
      refine gx_getR C hW F11_78 (k := 732) rfl t0 rfl dX11_partEnd_48 ?_
      refine lv_iload_n hx hb dX11_partEnd_51 rfl (lv_at hl 2 rfl) ?_
      obtain ⟨a13, ha13, ta13, hw⟩ := hw
      obtain ⟨i14, hw⟩ := hw
      refine gx_iald C hW ha13 ta13 i14 dX11_partEnd_52 ?_
      refine lv_iconst (v := 2) hx hb dX11_partEnd_53 (by decide) ?_
      refine lv_icmp_ne (tgt := 59) hx hb dX11_partEnd_54 (by decide) (fun c15 => ?_) (fun c15 => ?_)
      · have hw := w_f hw c15
        refine gx_aload_n hx hb dX11_partEnd_59 rfl (lv_at hl 3 rfl) ?_
        refine gx_getR C hW F11_28 (k := 711) rfl t0 rfl dX11_partEnd_60 ?_
        refine lv_iload_n hx hb dX11_partEnd_63 rfl (lv_at hl 1 rfl) ?_
        obtain ⟨a16, ha16, ta16, hw⟩ := hw
        obtain ⟨i17, hw⟩ := hw
        refine gx_iald C hW ha16 ta16 i17 dX11_partEnd_64 ?_
        refine lv_if_lt (tgt := 77) hx hb dX11_partEnd_65 (by decide) (fun c18 => ?_) (fun c18 => ?_)
        · have hw := w_t hw c18
          refine lv_iload_n hx hb dX11_partEnd_77 rfl (lv_at hl 0 rfl) ?_
          exact kX11_partEnd_b78 C hW t0 (lv_sub hl [3, 2, 1] rfl) hw
        · have hw := w_f hw c18
          refine gx_aload_n hx hb dX11_partEnd_68 rfl (lv_at hl 3 rfl) ?_
          refine gx_getR C hW F11_28 (k := 711) rfl t0 rfl dX11_partEnd_69 ?_
          refine lv_iload_n hx hb dX11_partEnd_72 rfl (lv_at hl 1 rfl) ?_
          obtain ⟨i26, hw⟩ := hw
          refine gx_iald C hW ha16 ta16 i26 dX11_partEnd_73 ?_
          refine lv_goto (tgt := 78) hx hb dX11_partEnd_74 (by decide) ?_
          exact kX11_partEnd_b78 C hW t0 (lv_sub hl [3, 2, 1] rfl) hw
      · have hw := w_t hw c15
        refine lv_iload_n hx hb dX11_partEnd_57 rfl (lv_at hl 0 rfl) ?_
        exact gx_iret C hW (Nat.le_of_ble_eq_true rfl) (Nat.le_of_ble_eq_true rfl) rfl hw dX11_partEnd_58
  · have hw := w_t hw c4
    refine gx_aload_n hx hb dX11_partEnd_16 rfl (lv_at hl 1 rfl) ?_
    refine gx_getR C hW F11_75 (k := 731) rfl t0 rfl dX11_partEnd_17 ?_
    refine lv_iload_n hx hb dX11_partEnd_20 rfl (lv_at hl 0 rfl) ?_
    obtain ⟨a27, ha27, ta27, hw⟩ := hw
    obtain ⟨i28, hw⟩ := hw
    refine gx_iald C hW ha27 ta27 i28 dX11_partEnd_21 ?_
    exact gx_iret C hW (Nat.le_of_ble_eq_true rfl) (Nat.le_of_ble_eq_true rfl) rfl hw dX11_partEnd_22
/-! TrialStairModel.comesOfRoutine -/
def wX11_comesOfRoutine_b55 (x0 : Nat) (q0 : Option Nat) (q1 : Int64) (S : Sg) (Q : Int32 → Sg → Prop) : Prop := ∃ a24 : Nat, q0 = some a24 ∧ tg S a24 = 12 ∧ ∀ S25 : Sg, S25 = sFL S 751 a24 q1 → (if (fI S25 740 x0) = (2 : Int32) then ∀ S28 : Sg, S28 = sFI S25 752 x0 (fI S25 742 x0) → Q (0 : Int32) S28 else ∀ S27 : Sg, S27 = sFI S25 752 x0 (0 : Int32) → Q (0 : Int32) S27)
def wX11_comesOfRoutine_b26 (x0 : Nat) (x1 : Int32) (S : Sg) (Q : Int32 → Sg → Prop) : Prop := (if x1 = 0 then wX11_stop x0 (fI S 740 x0) S (fun (S22 : Sg) => (if (fI S22 740 x0) = (1 : Int32) then wX11_comesOfRoutine_b55 x0 (some x0) (fL S22 741 x0) S22 Q else wX11_comesOfRoutine_b55 x0 (some x0) (0 : Int64) S22 Q)) else ∃ a5 : Nat, (fR S 730 x0) = some a5 ∧ tg S a5 = 13 ∧ vp_in x1 (ln S a5) ∧ ∀ y7 : Int32, y7 = (aI S a5 (x1).toNatClampNeg) → ∀ S8 : Sg, S8 = sFI S 737 x0 x1 → (if (fI S8 740 x0) = (2 : Int32) then Q (1 : Int32) S8 else ∃ a10 : Nat, (fR S8 706 x0) = some a10 ∧ tg S8 a10 = 13 ∧ vp_in y7 (ln S8 a10) ∧ (if (fI S8 740 x0) = (1 : Int32) then ∃ a17 : Nat, (fR S8 717 x0) = some a17 ∧ tg S8 a17 = 14 ∧ vp_in ((aI S8 a10 (y7).toNatClampNeg) &&& (7 : Int32)) (ln S8 a17) ∧ ∀ S19 : Sg, S19 = sAL S8 a17 (((aI S8 a10 (y7).toNatClampNeg) &&& (7 : Int32))).toNatClampNeg (fL S8 741 x0) → ∀ S20 : Sg, S20 = sFI S19 738 x0 (y7 + (1 : Int32)) → Q (0 : Int32) S20 else ∃ a13 : Nat, (fR S8 717 x0) = some a13 ∧ tg S8 a13 = 14 ∧ vp_in ((aI S8 a10 (y7).toNatClampNeg) &&& (7 : Int32)) (ln S8 a13) ∧ ∀ S15 : Sg, S15 = sAL S8 a13 (((aI S8 a10 (y7).toNatClampNeg) &&& (7 : Int32))).toNatClampNeg (0 : Int64) → ∀ S16 : Sg, S16 = sFI S15 738 x0 (y7 + (1 : Int32)) → Q (0 : Int32) S16)))
def wX11_comesOfRoutine_b16 (x0 : Nat) (x1 : Int32) (S : Sg) (Q : Int32 → Sg → Prop) : Prop := ∀ S2 : Sg, S2 = sFI S 740 x0 (1 : Int32) → ∀ S3 : Sg, S3 = sFL S2 741 x0 (0 : Int64) → wX11_comesOfRoutine_b26 x0 x1 S3 Q
def wX11_comesOfRoutine (x0 : Nat) (x1 : Int32) (S0 : Sg) (Q : Int32 → Sg → Prop) : Prop := (if (fI S0 740 x0) = (3 : Int32) then wX11_comesOfRoutine_b16 x0 x1 S0 Q else (if (fI S0 740 x0) = (4 : Int32) then wX11_comesOfRoutine_b16 x0 x1 S0 Q else wX11_comesOfRoutine_b26 x0 x1 S0 Q))
set_option maxHeartbeats 4000000 in
set_option maxRecDepth 100000 in
theorem kX11_comesOfRoutine_b55 {p : Program} {l : Launch} {e : Env} {s : State} {m : MethodId} {args : Array Value} {below : List Frame} {meth : Method} {c : Code} {D : va_G} {cy : Nat → ClassId} {S0 : Sg} (C : gC p s m args meth c D cy cX11_comesOfRoutine 3 yX11_comesOfRoutine.cls (some .boolean) yX11_comesOfRoutine.name) {H : Heap} {locs : List Loc} {ls : Array Slot} {x0 : Nat} {q0 : Option Nat} {q1 : Int64} {S : Sg} {Q : Int32 → Sg → Prop} (hW : gW D cy (gA S0) (tg S0) s.heap S H locs) (t0 : tg S x0 = 12) (hl : lv_has ls 3 [(0, va_rf (some x0))]) (hw : wX11_comesOfRoutine_b55 x0 q0 q1 S Q) : W p l e { frames := 1, cells := 0, slots := 0, locals := 21 } s m args below meth c H locs 0 0 (MQ below (va_Qi Q (gB D cy S0) (gA S0)) args s 0 0 (gA S0)) (F0 m 55 ls [.long q1, va_rf q0]) := by
  have hx := C.1
  have hb := C.2.1
  unfold wX11_comesOfRoutine_b55 at hw
  obtain ⟨a24, ha24, ta24, hw⟩ := hw
  refine gx_putL (k := 751) C hW F11_174 (Or.inl rfl) ha24 ta24 rfl dX11_comesOfRoutine_55 (fun H locs S25 eS25 hW hm => ?_)
  have hw := hw S25 eS25
  have t0 := hm _ _ t0
  have ta24 := hm _ _ ta24
  refine gx_aload_n hx hb dX11_comesOfRoutine_58 rfl (lv_at hl 0 rfl) ?_
  refine gx_aload_n hx hb dX11_comesOfRoutine_59 rfl (lv_at hl 0 rfl) ?_
  refine gx_getI C hW F11_194 (k := 740) rfl t0 rfl dX11_comesOfRoutine_60 ?_
  refine lv_iconst (v := 2) hx hb dX11_comesOfRoutine_63 (by decide) ?_
  refine lv_icmp_ne (tgt := 74) hx hb dX11_comesOfRoutine_64 (by decide) (fun c26 => ?_) (fun c26 => ?_)
  · have hw := w_f hw c26
    refine lv_iconst (v := 0) hx hb dX11_comesOfRoutine_74 (by decide) ?_
    refine gx_putI (k := 752) C hW F11_178 (Or.inl rfl) rfl t0 rfl rfl rfl dX11_comesOfRoutine_75 (fun H locs S27 eS27 hW hm => ?_)
    have hw := hw S27 eS27
    have t0 := hm _ _ t0
    have ta24 := hm _ _ ta24
    refine lv_iconst (v := 0) hx hb dX11_comesOfRoutine_78 (by decide) ?_
    exact gx_iret C hW (Nat.le_of_ble_eq_true rfl) (Nat.le_of_ble_eq_true rfl) rfl hw dX11_comesOfRoutine_79
  · have hw := w_t hw c26
    refine gx_aload_n hx hb dX11_comesOfRoutine_67 rfl (lv_at hl 0 rfl) ?_
    refine gx_getI C hW F11_232 (k := 742) rfl t0 rfl dX11_comesOfRoutine_68 ?_
    refine lv_goto (tgt := 75) hx hb dX11_comesOfRoutine_71 (by decide) ?_
    refine gx_putI (k := 752) C hW F11_178 (Or.inl rfl) rfl t0 rfl rfl rfl dX11_comesOfRoutine_75 (fun H locs S28 eS28 hW hm => ?_)
    have hw := hw S28 eS28
    have t0 := hm _ _ t0
    have ta24 := hm _ _ ta24
    refine lv_iconst (v := 0) hx hb dX11_comesOfRoutine_78 (by decide) ?_
    exact gx_iret C hW (Nat.le_of_ble_eq_true rfl) (Nat.le_of_ble_eq_true rfl) rfl hw dX11_comesOfRoutine_79
set_option maxHeartbeats 4000000 in
set_option maxRecDepth 100000 in
theorem kX11_comesOfRoutine_b26 {p : Program} {l : Launch} {e : Env} {s : State} {m : MethodId} {args : Array Value} {below : List Frame} {meth : Method} {c : Code} {D : va_G} {cy : Nat → ClassId} {S0 : Sg} (C : gC p s m args meth c D cy cX11_comesOfRoutine 3 yX11_comesOfRoutine.cls (some .boolean) yX11_comesOfRoutine.name) {H : Heap} {locs : List Loc} {ls : Array Slot} {x0 : Nat} {x1 : Int32} {S : Sg} {Q : Int32 → Sg → Prop} (hW : gW D cy (gA S0) (tg S0) s.heap S H locs) (t0 : tg S x0 = 12) (hl : lv_has ls 3 [(0, va_rf (some x0)), (1, .int x1)]) (hw : wX11_comesOfRoutine_b26 x0 x1 S Q) : W p l e { frames := 1, cells := 0, slots := 0, locals := 21 } s m args below meth c H locs 0 0 (MQ below (va_Qi Q (gB D cy S0) (gA S0)) args s 0 0 (gA S0)) (F0 m 26 ls []) := by
  have hx := C.1
  have hb := C.2.1
  unfold wX11_comesOfRoutine_b26 at hw
  refine lv_iload_n hx hb dX11_comesOfRoutine_26 rfl (lv_at hl 1 rfl) ?_
  refine lv_if_ne (tgt := 80) hx hb dX11_comesOfRoutine_27 (by decide) (fun c4 => ?_) (fun c4 => ?_)
  · have hw := w_f hw c4
    refine gx_aload_n hx hb dX11_comesOfRoutine_80 rfl (lv_at hl 0 rfl) ?_
    refine gx_getR C hW F11_72 (k := 730) rfl t0 rfl dX11_comesOfRoutine_81 ?_
    refine lv_iload_n hx hb dX11_comesOfRoutine_84 rfl (lv_at hl 1 rfl) ?_
    obtain ⟨a5, ha5, ta5, hw⟩ := hw
    obtain ⟨i6, hw⟩ := hw
    refine gx_iald C hW ha5 ta5 i6 dX11_comesOfRoutine_85 ?_
    refine lv_topi (fun y7 ey7 => ?_)
    have hw := hw y7 ey7
    refine lv_istore_n (i := 2) (lv' := [(2, .int y7), (0, va_rf (some x0)), (1, .int x1)]) hx hb dX11_comesOfRoutine_86 rfl hl (by decide) rfl (fun ls hl => ?_)
    refine gx_aload_n hx hb dX11_comesOfRoutine_87 rfl (lv_at hl 1 rfl) ?_
    refine lv_iload_n hx hb dX11_comesOfRoutine_88 rfl (lv_at hl 2 rfl) ?_
    refine gx_putI (k := 737) C hW F11_156 (Or.inl rfl) rfl t0 rfl rfl rfl dX11_comesOfRoutine_89 (fun H locs S8 eS8 hW hm => ?_)
    have hw := hw S8 eS8
    have t0 := hm _ _ t0
    have ta5 := hm _ _ ta5
    refine gx_aload_n hx hb dX11_comesOfRoutine_92 rfl (lv_at hl 1 rfl) ?_
    refine gx_getI C hW F11_194 (k := 740) rfl t0 rfl dX11_comesOfRoutine_93 ?_
    refine lv_iconst (v := 2) hx hb dX11_comesOfRoutine_96 (by decide) ?_
    refine lv_icmp_ne (tgt := 102) hx hb dX11_comesOfRoutine_97 (by decide) (fun c9 => ?_) (fun c9 => ?_)
    · have hw := w_f hw c9
      refine gx_aload_n hx hb dX11_comesOfRoutine_102 rfl (lv_at hl 1 rfl) ?_
      refine gx_getR C hW F11_43 (k := 717) rfl t0 rfl dX11_comesOfRoutine_103 ?_
      refine gx_aload_n hx hb dX11_comesOfRoutine_106 rfl (lv_at hl 1 rfl) ?_
      refine gx_getR C hW F11_16 (k := 706) rfl t0 rfl dX11_comesOfRoutine_107 ?_
      refine lv_iload_n hx hb dX11_comesOfRoutine_110 rfl (lv_at hl 0 rfl) ?_
      obtain ⟨a10, ha10, ta10, hw⟩ := hw
      obtain ⟨i11, hw⟩ := hw
      refine gx_iald C hW ha10 ta10 i11 dX11_comesOfRoutine_111 ?_
      refine lv_bipush (v := 7) hx hb dX11_comesOfRoutine_112 (by decide) ?_
      refine lv_iand hx hb dX11_comesOfRoutine_114 ?_
      refine gx_aload_n hx hb dX11_comesOfRoutine_115 rfl (lv_at hl 1 rfl) ?_
      refine gx_getI C hW F11_194 (k := 740) rfl t0 rfl dX11_comesOfRoutine_116 ?_
      refine lv_iconst (v := 1) hx hb dX11_comesOfRoutine_119 (by decide) ?_
      refine lv_icmp_ne (tgt := 130) hx hb dX11_comesOfRoutine_120 (by decide) (fun c12 => ?_) (fun c12 => ?_)
      · have hw := w_f hw c12
        refine lv_lconst (v := 0) hx hb dX11_comesOfRoutine_130 (by decide) ?_
        obtain ⟨a13, ha13, ta13, hw⟩ := hw
        obtain ⟨i14, hw⟩ := hw
        refine gx_last C hW ha13 ta13 i14 dX11_comesOfRoutine_131 (fun H locs S15 eS15 hW hm => ?_)
        have hw := hw S15 eS15
        have t0 := hm _ _ t0
        have ta5 := hm _ _ ta5
        have ta10 := hm _ _ ta10
        have ta13 := hm _ _ ta13
        refine gx_aload_n hx hb dX11_comesOfRoutine_132 rfl (lv_at hl 1 rfl) ?_
        refine lv_iload_n hx hb dX11_comesOfRoutine_133 rfl (lv_at hl 0 rfl) ?_
        refine lv_iconst (v := 1) hx hb dX11_comesOfRoutine_134 (by decide) ?_
        refine lv_iadd hx hb dX11_comesOfRoutine_135 ?_
        refine gx_putI (k := 738) C hW F11_187 (Or.inl rfl) rfl t0 rfl rfl rfl dX11_comesOfRoutine_136 (fun H locs S16 eS16 hW hm => ?_)
        have hw := hw S16 eS16
        have t0 := hm _ _ t0
        have ta5 := hm _ _ ta5
        have ta10 := hm _ _ ta10
        have ta13 := hm _ _ ta13
        refine lv_iconst (v := 0) hx hb dX11_comesOfRoutine_139 (by decide) ?_
        exact gx_iret C hW (Nat.le_of_ble_eq_true rfl) (Nat.le_of_ble_eq_true rfl) rfl hw dX11_comesOfRoutine_140
      · have hw := w_t hw c12
        refine gx_aload_n hx hb dX11_comesOfRoutine_123 rfl (lv_at hl 1 rfl) ?_
        refine gx_getL C hW F11_226 (k := 741) rfl t0 rfl dX11_comesOfRoutine_124 ?_
        refine lv_goto (tgt := 131) hx hb dX11_comesOfRoutine_127 (by decide) ?_
        obtain ⟨a17, ha17, ta17, hw⟩ := hw
        obtain ⟨i18, hw⟩ := hw
        refine gx_last C hW ha17 ta17 i18 dX11_comesOfRoutine_131 (fun H locs S19 eS19 hW hm => ?_)
        have hw := hw S19 eS19
        have t0 := hm _ _ t0
        have ta5 := hm _ _ ta5
        have ta10 := hm _ _ ta10
        have ta17 := hm _ _ ta17
        refine gx_aload_n hx hb dX11_comesOfRoutine_132 rfl (lv_at hl 1 rfl) ?_
        refine lv_iload_n hx hb dX11_comesOfRoutine_133 rfl (lv_at hl 0 rfl) ?_
        refine lv_iconst (v := 1) hx hb dX11_comesOfRoutine_134 (by decide) ?_
        refine lv_iadd hx hb dX11_comesOfRoutine_135 ?_
        refine gx_putI (k := 738) C hW F11_187 (Or.inl rfl) rfl t0 rfl rfl rfl dX11_comesOfRoutine_136 (fun H locs S20 eS20 hW hm => ?_)
        have hw := hw S20 eS20
        have t0 := hm _ _ t0
        have ta5 := hm _ _ ta5
        have ta10 := hm _ _ ta10
        have ta17 := hm _ _ ta17
        refine lv_iconst (v := 0) hx hb dX11_comesOfRoutine_139 (by decide) ?_
        exact gx_iret C hW (Nat.le_of_ble_eq_true rfl) (Nat.le_of_ble_eq_true rfl) rfl hw dX11_comesOfRoutine_140
    · have hw := w_t hw c9
      refine lv_iconst (v := 1) hx hb dX11_comesOfRoutine_100 (by decide) ?_
      exact gx_iret C hW (Nat.le_of_ble_eq_true rfl) (Nat.le_of_ble_eq_true rfl) rfl hw dX11_comesOfRoutine_101
  · have hw := w_t hw c4
    refine gx_aload_n hx hb dX11_comesOfRoutine_30 rfl (lv_at hl 0 rfl) ?_
    refine gx_aload_n hx hb dX11_comesOfRoutine_31 rfl (lv_at hl 0 rfl) ?_
    refine gx_getI C hW F11_194 (k := 740) rfl t0 rfl dX11_comesOfRoutine_32 ?_
    refine gx_cv (gx_rV C hW M11_181 (mX11_stop l D cy _ _ _ _ t0 hw) rfl rfl ⟨Nat.le_of_ble_eq_true rfl, Nat.le_of_ble_eq_true rfl⟩ rfl t0 (by decide) rfl rfl hl.1 rfl (gx_room0 (n := 4) (Nat.le_of_ble_eq_true rfl)) dX11_comesOfRoutine_35 ⟨Nat.le_of_ble_eq_true rfl, Nat.le_of_ble_eq_true rfl⟩) hW (fun S22 H locs hW hm hw => ?_)
    have t0 := hm _ _ t0
    refine gx_aload_n hx hb dX11_comesOfRoutine_38 rfl (lv_at hl 0 rfl) ?_
    refine gx_aload_n hx hb dX11_comesOfRoutine_39 rfl (lv_at hl 0 rfl) ?_
    refine gx_getI C hW F11_194 (k := 740) rfl t0 rfl dX11_comesOfRoutine_40 ?_
    refine lv_iconst (v := 1) hx hb dX11_comesOfRoutine_43 (by decide) ?_
    refine lv_icmp_ne (tgt := 54) hx hb dX11_comesOfRoutine_44 (by decide) (fun c23 => ?_) (fun c23 => ?_)
    · have hw := w_f hw c23
      refine lv_lconst (v := 0) hx hb dX11_comesOfRoutine_54 (by decide) ?_
      exact kX11_comesOfRoutine_b55 C hW t0 (lv_sub hl [0] rfl) hw
    · have hw := w_t hw c23
      refine gx_aload_n hx hb dX11_comesOfRoutine_47 rfl (lv_at hl 0 rfl) ?_
      refine gx_getL C hW F11_226 (k := 741) rfl t0 rfl dX11_comesOfRoutine_48 ?_
      refine lv_goto (tgt := 55) hx hb dX11_comesOfRoutine_51 (by decide) ?_
      exact kX11_comesOfRoutine_b55 C hW t0 (lv_sub hl [0] rfl) hw
set_option maxHeartbeats 4000000 in
set_option maxRecDepth 100000 in
theorem kX11_comesOfRoutine_b16 {p : Program} {l : Launch} {e : Env} {s : State} {m : MethodId} {args : Array Value} {below : List Frame} {meth : Method} {c : Code} {D : va_G} {cy : Nat → ClassId} {S0 : Sg} (C : gC p s m args meth c D cy cX11_comesOfRoutine 3 yX11_comesOfRoutine.cls (some .boolean) yX11_comesOfRoutine.name) {H : Heap} {locs : List Loc} {ls : Array Slot} {x0 : Nat} {x1 : Int32} {S : Sg} {Q : Int32 → Sg → Prop} (hW : gW D cy (gA S0) (tg S0) s.heap S H locs) (t0 : tg S x0 = 12) (hl : lv_has ls 3 [(0, va_rf (some x0)), (1, .int x1)]) (hw : wX11_comesOfRoutine_b16 x0 x1 S Q) : W p l e { frames := 1, cells := 0, slots := 0, locals := 21 } s m args below meth c H locs 0 0 (MQ below (va_Qi Q (gB D cy S0) (gA S0)) args s 0 0 (gA S0)) (F0 m 16 ls []) := by
  have hx := C.1
  have hb := C.2.1
  unfold wX11_comesOfRoutine_b16 at hw
  refine gx_aload_n hx hb dX11_comesOfRoutine_16 rfl (lv_at hl 0 rfl) ?_
  refine lv_iconst (v := 1) hx hb dX11_comesOfRoutine_17 (by decide) ?_
  refine gx_putI (k := 740) C hW F11_194 (Or.inl rfl) rfl t0 rfl rfl rfl dX11_comesOfRoutine_18 (fun H locs S2 eS2 hW hm => ?_)
  have hw := hw S2 eS2
  have t0 := hm _ _ t0
  refine gx_aload_n hx hb dX11_comesOfRoutine_21 rfl (lv_at hl 0 rfl) ?_
  refine lv_lconst (v := 0) hx hb dX11_comesOfRoutine_22 (by decide) ?_
  refine gx_putL (k := 741) C hW F11_226 (Or.inl rfl) rfl t0 rfl dX11_comesOfRoutine_23 (fun H locs S3 eS3 hW hm => ?_)
  have hw := hw S3 eS3
  have t0 := hm _ _ t0
  exact kX11_comesOfRoutine_b26 C hW t0 (lv_sub hl [0, 1] rfl) hw
set_option maxHeartbeats 4000000 in
set_option maxRecDepth 100000 in
theorem mX11_comesOfRoutine (l : Launch) (D : va_G) (cy : Nat → ClassId) (x0 : Nat) (x1 : Int32) (S0 : Sg) (Q : Int32 → Sg → Prop) (t0 : tg S0 x0 = 12) (hw : wX11_comesOfRoutine x0 x1 S0 Q) : Met l yX11_comesOfRoutine (.code yX11_comesOfRoutine cX11_comesOfRoutine 3 (some .boolean) :: wsL_law) { frames := 1, cells := 0, slots := 0, locals := 21 } (gPc D cy [va_rf (some x0), .int x1] S0) (va_Qi Q (gB D cy S0) (gA S0)) 0 0 (gA S0) := by
  refine gx_met (by decide) (Nat.le_of_ble_eq_true rfl) ?_
  intro p e s m args below meth c ls C hW hl
  have hx := C.1
  have hb := C.2.1
  have hl : lv_has ls 3 [(0, va_rf (some x0)), (1, .int x1)] := hl
  unfold wX11_comesOfRoutine at hw
  refine gx_aload_n hx hb dX11_comesOfRoutine_0 rfl (lv_at hl 0 rfl) ?_
  refine gx_getI C hW F11_194 (k := 740) rfl t0 rfl dX11_comesOfRoutine_1 ?_
  refine lv_iconst (v := 3) hx hb dX11_comesOfRoutine_4 (by decide) ?_
  refine lv_icmp_eq (tgt := 16) hx hb dX11_comesOfRoutine_5 (by decide) (fun c1 => ?_) (fun c1 => ?_)
  · have hw := w_t hw c1
    exact kX11_comesOfRoutine_b16 C hW t0 (lv_sub hl [0, 1] rfl) hw
  · have hw := w_f hw c1
    refine gx_aload_n hx hb dX11_comesOfRoutine_8 rfl (lv_at hl 0 rfl) ?_
    refine gx_getI C hW F11_194 (k := 740) rfl t0 rfl dX11_comesOfRoutine_9 ?_
    refine lv_iconst (v := 4) hx hb dX11_comesOfRoutine_12 (by decide) ?_
    refine lv_icmp_ne (tgt := 26) hx hb dX11_comesOfRoutine_13 (by decide) (fun c29 => ?_) (fun c29 => ?_)
    · have hw := w_f hw c29
      exact kX11_comesOfRoutine_b26 C hW t0 (lv_sub hl [0, 1] rfl) hw
    · have hw := w_t hw c29
      exact kX11_comesOfRoutine_b16 C hW t0 (lv_sub hl [0, 1] rfl) hw
/-! TrialStairModel.over -/
def wX11_over (x0 : Nat) (x1 : Int32) (S0 : Sg) (Q : Int32 → Sg → Prop) : Prop := ∀ S1 : Sg, S1 = sFI S0 737 x0 x1 → ∃ a2 : Nat, (fR S1 730 x0) = some a2 ∧ tg S1 a2 = 13 ∧ vp_in x1 (ln S1 a2) ∧ ∃ a4 : Nat, (fR S1 712 x0) = some a4 ∧ tg S1 a4 = 13 ∧ vp_in (aI S1 a2 (x1).toNatClampNeg) (ln S1 a4) ∧ ∀ S6 : Sg, S6 = sFI S1 738 x0 (aI S1 a4 ((aI S1 a2 (x1).toNatClampNeg)).toNatClampNeg) → (if (fI S6 740 x0) = 0 then Q (0 : Int32) S6 else Q (1 : Int32) S6)
set_option maxHeartbeats 4000000 in
set_option maxRecDepth 100000 in
theorem mX11_over (l : Launch) (D : va_G) (cy : Nat → ClassId) (x0 : Nat) (x1 : Int32) (S0 : Sg) (Q : Int32 → Sg → Prop) (t0 : tg S0 x0 = 12) (hw : wX11_over x0 x1 S0 Q) : Met l yX11_over (.code yX11_over cX11_over 2 (some .boolean) :: wsL_law) { frames := 0, cells := 0, slots := 0, locals := 0 } (gPc D cy [va_rf (some x0), .int x1] S0) (va_Qi Q (gB D cy S0) (gA S0)) 0 0 (gA S0) := by
  refine gx_met (by decide) (Nat.le_of_ble_eq_true rfl) ?_
  intro p e s m args below meth c ls C hW hl
  have hx := C.1
  have hb := C.2.1
  have hl : lv_has ls 2 [(0, va_rf (some x0)), (1, .int x1)] := hl
  unfold wX11_over at hw
  refine gx_aload_n hx hb dX11_over_0 rfl (lv_at hl 0 rfl) ?_
  refine lv_iload_n hx hb dX11_over_1 rfl (lv_at hl 1 rfl) ?_
  refine gx_putI (k := 737) C hW F11_156 (Or.inl rfl) rfl t0 rfl rfl rfl dX11_over_2 (fun H locs S1 eS1 hW hm => ?_)
  have hw := hw S1 eS1
  have t0 := hm _ _ t0
  refine gx_aload_n hx hb dX11_over_5 rfl (lv_at hl 0 rfl) ?_
  refine gx_aload_n hx hb dX11_over_6 rfl (lv_at hl 0 rfl) ?_
  refine gx_getR C hW F11_31 (k := 712) rfl t0 rfl dX11_over_7 ?_
  refine gx_aload_n hx hb dX11_over_10 rfl (lv_at hl 0 rfl) ?_
  refine gx_getR C hW F11_72 (k := 730) rfl t0 rfl dX11_over_11 ?_
  refine lv_iload_n hx hb dX11_over_14 rfl (lv_at hl 1 rfl) ?_
  obtain ⟨a2, ha2, ta2, hw⟩ := hw
  obtain ⟨i3, hw⟩ := hw
  refine gx_iald C hW ha2 ta2 i3 dX11_over_15 ?_
  obtain ⟨a4, ha4, ta4, hw⟩ := hw
  obtain ⟨i5, hw⟩ := hw
  refine gx_iald C hW ha4 ta4 i5 dX11_over_16 ?_
  refine gx_putI (k := 738) C hW F11_187 (Or.inl rfl) rfl t0 rfl rfl rfl dX11_over_17 (fun H locs S6 eS6 hW hm => ?_)
  have hw := hw S6 eS6
  have t0 := hm _ _ t0
  have ta2 := hm _ _ ta2
  have ta4 := hm _ _ ta4
  refine gx_aload_n hx hb dX11_over_20 rfl (lv_at hl 0 rfl) ?_
  refine gx_getI C hW F11_194 (k := 740) rfl t0 rfl dX11_over_21 ?_
  refine lv_if_eq (tgt := 31) hx hb dX11_over_24 (by decide) (fun c7 => ?_) (fun c7 => ?_)
  · have hw := w_t hw c7
    refine lv_iconst (v := 0) hx hb dX11_over_31 (by decide) ?_
    exact gx_iret C hW (Nat.le_of_ble_eq_true rfl) (Nat.le_of_ble_eq_true rfl) rfl hw dX11_over_32
  · have hw := w_f hw c7
    refine lv_iconst (v := 1) hx hb dX11_over_27 (by decide) ?_
    refine lv_goto (tgt := 32) hx hb dX11_over_28 (by decide) ?_
    exact gx_iret C hW (Nat.le_of_ble_eq_true rfl) (Nat.le_of_ble_eq_true rfl) rfl hw dX11_over_32
/-! TrialStairModel.isTaken -/
def wX11_isTaken_b27 : Nat → (Int32) → (Int32) → (Int32) → (Int32) → Sg → (Int32 → Sg → Prop) → Prop
  | 0, _, _, _, _, _, _ => False
  | fu + 1, x0, x1, x2, x3, S, Q => (if x1 ≤ x3 then (x2 = 0 ∨ x2 = 1) ∧ Q x2 S else (if (3 : Int32) ≤ x1 then (x2 = 0 ∨ x2 = 1) ∧ Q x2 S else (if x2 = 0 then (if ((x0 >>> (x3 &&& 31)) &&& (1 : Int32)) = (1 : Int32) then ∀ y10 : Int32, y10 = x3 + (1) → wX11_isTaken_b27 fu x0 x1 (1 : Int32) y10 S Q else ∀ y9 : Int32, y9 = x3 + (1) → wX11_isTaken_b27 fu x0 x1 (0 : Int32) y9 S Q) else ∀ y7 : Int32, y7 = x3 + (1) → wX11_isTaken_b27 fu x0 x1 (1 : Int32) y7 S Q)))
def wX11_isTaken_b24 (x0 : Int32) (x1 : Int32) (q0 : Int32) (S : Sg) (Q : Int32 → Sg → Prop) : Prop := ∃ fu11 : Nat, wX11_isTaken_b27 fu11 x0 x1 q0 (0 : Int32) S Q
def wX11_isTaken_b19 (x0 : Int32) (x1 : Int32) (S : Sg) (Q : Int32 → Sg → Prop) : Prop := wX11_isTaken_b24 x0 x1 (1 : Int32) S Q
def wX11_isTaken (x0 : Int32) (x1 : Int32) (S0 : Sg) (Q : Int32 → Sg → Prop) : Prop := (if ((x0 >>> ((10 : Int32) &&& 31)) &&& (1 : Int32)) = (1 : Int32) then wX11_isTaken_b19 x0 x1 S0 Q else (if ((x0 >>> (x1 &&& 31)) &&& (1 : Int32)) = (1 : Int32) then wX11_isTaken_b19 x0 x1 S0 Q else wX11_isTaken_b24 x0 x1 (0 : Int32) S0 Q))
set_option maxHeartbeats 4000000 in
set_option maxRecDepth 100000 in
theorem kX11_isTaken_l27 {p : Program} {l : Launch} {e : Env} {s : State} {m : MethodId} {args : Array Value} {below : List Frame} {meth : Method} {c : Code} {D : va_G} {cy : Nat → ClassId} {S0 : Sg} (C : gC p s m args meth c D cy cX11_isTaken 4 yX11_isTaken.cls (some .boolean) yX11_isTaken.name) {x0 : Int32} {Q : Int32 → Sg → Prop} : ∀ (fu : Nat) (x1 : Int32) (x2 : Int32) (x3 : Int32) (S : Sg) (H : Heap) (locs : List Loc) (ls : Array Slot) (hW : gW D cy (gA S0) (tg S0) s.heap S H locs) (hl : lv_has ls 4 [(0, .int x0), (1, .int x1), (2, .int x2), (3, .int x3)]) (hw : wX11_isTaken_b27 fu x0 x1 x2 x3 S Q), W p l e { frames := 0, cells := 0, slots := 0, locals := 0 } s m args below meth c H locs 0 0 (MQ below (va_Qi Q (gB D cy S0) (gA S0)) args s 0 0 (gA S0)) (F0 m 27 ls []) := by
  have hx := C.1
  have hb := C.2.1
  intro fu
  induction fu with
  | zero =>
    intro x1 x2 x3 S H locs ls hW hl hw
    unfold wX11_isTaken_b27 at hw
    exact hw.elim
  | succ fu ih =>
    intro x1 x2 x3 S H locs ls hW hl hw
    unfold wX11_isTaken_b27 at hw
    refine lv_iload_n hx hb dX11_isTaken_27 rfl (lv_at hl 3 rfl) ?_
    refine lv_iload_n hx hb dX11_isTaken_28 rfl (lv_at hl 1 rfl) ?_
    refine lv_icmp_ge (tgt := 62) hx hb dX11_isTaken_29 (by decide) (fun c2 => ?_) (fun c2 => ?_)
    · have hw := w_t hw c2
      refine lv_iload_n hx hb dX11_isTaken_62 rfl (lv_at hl 2 rfl) ?_
      obtain ⟨z3, hw⟩ := hw
      exact gx_iret C hW (Nat.le_of_ble_eq_true rfl) (Nat.le_of_ble_eq_true rfl) (bz_n z3) hw dX11_isTaken_63
    · have hw := w_f hw c2
      refine lv_iload_n hx hb dX11_isTaken_32 rfl (lv_at hl 1 rfl) ?_
      refine lv_iconst (v := 3) hx hb dX11_isTaken_33 (by decide) ?_
      refine lv_icmp_ge (tgt := 62) hx hb dX11_isTaken_34 (by decide) (fun c4 => ?_) (fun c4 => ?_)
      · have hw := w_t hw c4
        refine lv_iload_n hx hb dX11_isTaken_62 rfl (lv_at hl 2 rfl) ?_
        obtain ⟨z5, hw⟩ := hw
        exact gx_iret C hW (Nat.le_of_ble_eq_true rfl) (Nat.le_of_ble_eq_true rfl) (bz_n z5) hw dX11_isTaken_63
      · have hw := w_f hw c4
        refine lv_iload_n hx hb dX11_isTaken_37 rfl (lv_at hl 2 rfl) ?_
        refine lv_if_ne (tgt := 50) hx hb dX11_isTaken_38 (by decide) (fun c6 => ?_) (fun c6 => ?_)
        · have hw := w_f hw c6
          refine lv_iconst (v := 1) hx hb dX11_isTaken_50 (by decide) ?_
          refine lv_goto (tgt := 55) hx hb dX11_isTaken_51 (by decide) ?_
          refine lv_istore_n (i := 2) (lv' := [(2, .int (1 : Int32)), (0, .int x0), (1, .int x1), (3, .int x3)]) hx hb dX11_isTaken_55 rfl hl (by decide) rfl (fun ls hl => ?_)
          obtain ⟨y7, ey7⟩ : ∃ z : Int32, z = x3 + (1) := ⟨_, rfl⟩
          have hw := hw y7 ey7
          refine lv_iinc (v := y7) (lv' := [(3, .int y7), (2, .int (1 : Int32)), (0, .int x0), (1, .int x1)]) hx hb dX11_isTaken_56 hl (k := 3) rfl (by rw [ey7]; rfl) (by decide) rfl (fun ls hl => ?_)
          refine lv_goto (tgt := 27) hx hb dX11_isTaken_59 (by decide) ?_
          exact ih _ _ _ _ _ _ _ hW (lv_sub hl [2, 3, 1, 0] rfl) hw
        · have hw := w_t hw c6
          refine lv_iload_n hx hb dX11_isTaken_41 rfl (lv_at hl 0 rfl) ?_
          refine lv_iload_n hx hb dX11_isTaken_42 rfl (lv_at hl 3 rfl) ?_
          refine lv_ishr hx hb dX11_isTaken_43 ?_
          refine lv_iconst (v := 1) hx hb dX11_isTaken_44 (by decide) ?_
          refine lv_iand hx hb dX11_isTaken_45 ?_
          refine lv_iconst (v := 1) hx hb dX11_isTaken_46 (by decide) ?_
          refine lv_icmp_ne (tgt := 54) hx hb dX11_isTaken_47 (by decide) (fun c8 => ?_) (fun c8 => ?_)
          · have hw := w_f hw c8
            refine lv_iconst (v := 0) hx hb dX11_isTaken_54 (by decide) ?_
            refine lv_istore_n (i := 2) (lv' := [(2, .int (0 : Int32)), (0, .int x0), (1, .int x1), (3, .int x3)]) hx hb dX11_isTaken_55 rfl hl (by decide) rfl (fun ls hl => ?_)
            obtain ⟨y9, ey9⟩ : ∃ z : Int32, z = x3 + (1) := ⟨_, rfl⟩
            have hw := hw y9 ey9
            refine lv_iinc (v := y9) (lv' := [(3, .int y9), (2, .int (0 : Int32)), (0, .int x0), (1, .int x1)]) hx hb dX11_isTaken_56 hl (k := 3) rfl (by rw [ey9]; rfl) (by decide) rfl (fun ls hl => ?_)
            refine lv_goto (tgt := 27) hx hb dX11_isTaken_59 (by decide) ?_
            exact ih _ _ _ _ _ _ _ hW (lv_sub hl [2, 3, 1, 0] rfl) hw
          · have hw := w_t hw c8
            refine lv_iconst (v := 1) hx hb dX11_isTaken_50 (by decide) ?_
            refine lv_goto (tgt := 55) hx hb dX11_isTaken_51 (by decide) ?_
            refine lv_istore_n (i := 2) (lv' := [(2, .int (1 : Int32)), (0, .int x0), (1, .int x1), (3, .int x3)]) hx hb dX11_isTaken_55 rfl hl (by decide) rfl (fun ls hl => ?_)
            obtain ⟨y10, ey10⟩ : ∃ z : Int32, z = x3 + (1) := ⟨_, rfl⟩
            have hw := hw y10 ey10
            refine lv_iinc (v := y10) (lv' := [(3, .int y10), (2, .int (1 : Int32)), (0, .int x0), (1, .int x1)]) hx hb dX11_isTaken_56 hl (k := 3) rfl (by rw [ey10]; rfl) (by decide) rfl (fun ls hl => ?_)
            refine lv_goto (tgt := 27) hx hb dX11_isTaken_59 (by decide) ?_
            exact ih _ _ _ _ _ _ _ hW (lv_sub hl [2, 3, 1, 0] rfl) hw
theorem kX11_isTaken_b27 {p : Program} {l : Launch} {e : Env} {s : State} {m : MethodId} {args : Array Value} {below : List Frame} {meth : Method} {c : Code} {D : va_G} {cy : Nat → ClassId} {S0 : Sg} (C : gC p s m args meth c D cy cX11_isTaken 4 yX11_isTaken.cls (some .boolean) yX11_isTaken.name) {H : Heap} {locs : List Loc} {ls : Array Slot} {x0 : Int32} {x1 : Int32} {x2 : Int32} {x3 : Int32} {S : Sg} {Q : Int32 → Sg → Prop} (fu : Nat) (hW : gW D cy (gA S0) (tg S0) s.heap S H locs) (hl : lv_has ls 4 [(0, .int x0), (1, .int x1), (2, .int x2), (3, .int x3)]) (hw : wX11_isTaken_b27 fu x0 x1 x2 x3 S Q) : W p l e { frames := 0, cells := 0, slots := 0, locals := 0 } s m args below meth c H locs 0 0 (MQ below (va_Qi Q (gB D cy S0) (gA S0)) args s 0 0 (gA S0)) (F0 m 27 ls []) := kX11_isTaken_l27 C fu _ _ _ _ _ _ _ hW hl hw
set_option maxHeartbeats 4000000 in
set_option maxRecDepth 100000 in
theorem kX11_isTaken_b24 {p : Program} {l : Launch} {e : Env} {s : State} {m : MethodId} {args : Array Value} {below : List Frame} {meth : Method} {c : Code} {D : va_G} {cy : Nat → ClassId} {S0 : Sg} (C : gC p s m args meth c D cy cX11_isTaken 4 yX11_isTaken.cls (some .boolean) yX11_isTaken.name) {H : Heap} {locs : List Loc} {ls : Array Slot} {x0 : Int32} {x1 : Int32} {q0 : Int32} {S : Sg} {Q : Int32 → Sg → Prop} (hW : gW D cy (gA S0) (tg S0) s.heap S H locs) (hl : lv_has ls 4 [(0, .int x0), (1, .int x1)]) (hw : wX11_isTaken_b24 x0 x1 q0 S Q) : W p l e { frames := 0, cells := 0, slots := 0, locals := 0 } s m args below meth c H locs 0 0 (MQ below (va_Qi Q (gB D cy S0) (gA S0)) args s 0 0 (gA S0)) (F0 m 24 ls [.int q0]) := by
  have hx := C.1
  have hb := C.2.1
  unfold wX11_isTaken_b24 at hw
  refine lv_istore_n (i := 2) (lv' := [(2, .int q0), (0, .int x0), (1, .int x1)]) hx hb dX11_isTaken_24 rfl hl (by decide) rfl (fun ls hl => ?_)
  refine lv_iconst (v := 0) hx hb dX11_isTaken_25 (by decide) ?_
  refine lv_istore_n (i := 3) (lv' := [(3, .int (0 : Int32)), (2, .int q0), (0, .int x0), (1, .int x1)]) hx hb dX11_isTaken_26 rfl hl (by decide) rfl (fun ls hl => ?_)
  obtain ⟨fu11, hw⟩ := hw
  exact kX11_isTaken_b27 C fu11 hW (lv_sub hl [2, 3, 1, 0] rfl) hw
set_option maxHeartbeats 4000000 in
set_option maxRecDepth 100000 in
theorem kX11_isTaken_b19 {p : Program} {l : Launch} {e : Env} {s : State} {m : MethodId} {args : Array Value} {below : List Frame} {meth : Method} {c : Code} {D : va_G} {cy : Nat → ClassId} {S0 : Sg} (C : gC p s m args meth c D cy cX11_isTaken 4 yX11_isTaken.cls (some .boolean) yX11_isTaken.name) {H : Heap} {locs : List Loc} {ls : Array Slot} {x0 : Int32} {x1 : Int32} {S : Sg} {Q : Int32 → Sg → Prop} (hW : gW D cy (gA S0) (tg S0) s.heap S H locs) (hl : lv_has ls 4 [(0, .int x0), (1, .int x1)]) (hw : wX11_isTaken_b19 x0 x1 S Q) : W p l e { frames := 0, cells := 0, slots := 0, locals := 0 } s m args below meth c H locs 0 0 (MQ below (va_Qi Q (gB D cy S0) (gA S0)) args s 0 0 (gA S0)) (F0 m 19 ls []) := by
  have hx := C.1
  have hb := C.2.1
  unfold wX11_isTaken_b19 at hw
  refine lv_iconst (v := 1) hx hb dX11_isTaken_19 (by decide) ?_
  refine lv_goto (tgt := 24) hx hb dX11_isTaken_20 (by decide) ?_
  exact kX11_isTaken_b24 C hW (lv_sub hl [0, 1] rfl) hw
set_option maxHeartbeats 4000000 in
set_option maxRecDepth 100000 in
theorem mX11_isTaken (l : Launch) (D : va_G) (cy : Nat → ClassId) (x0 : Int32) (x1 : Int32) (S0 : Sg) (Q : Int32 → Sg → Prop) (hw : wX11_isTaken x0 x1 S0 Q) : Met l yX11_isTaken (.code yX11_isTaken cX11_isTaken 4 (some .boolean) :: wsL_law) { frames := 0, cells := 0, slots := 0, locals := 0 } (gPc D cy [.int x0, .int x1] S0) (va_Qi Q (gB D cy S0) (gA S0)) 0 0 (gA S0) := by
  refine gx_met (by decide) (Nat.le_of_ble_eq_true rfl) ?_
  intro p e s m args below meth c ls C hW hl
  have hx := C.1
  have hb := C.2.1
  have hl : lv_has ls 4 [(0, .int x0), (1, .int x1)] := hl
  unfold wX11_isTaken at hw
  refine lv_iload_n hx hb dX11_isTaken_0 rfl (lv_at hl 0 rfl) ?_
  refine lv_bipush (v := 10) hx hb dX11_isTaken_1 (by decide) ?_
  refine lv_ishr hx hb dX11_isTaken_3 ?_
  refine lv_iconst (v := 1) hx hb dX11_isTaken_4 (by decide) ?_
  refine lv_iand hx hb dX11_isTaken_5 ?_
  refine lv_iconst (v := 1) hx hb dX11_isTaken_6 (by decide) ?_
  refine lv_icmp_eq (tgt := 19) hx hb dX11_isTaken_7 (by decide) (fun c1 => ?_) (fun c1 => ?_)
  · have hw := w_t hw c1
    exact kX11_isTaken_b19 C hW (lv_sub hl [0, 1] rfl) hw
  · have hw := w_f hw c1
    refine lv_iload_n hx hb dX11_isTaken_10 rfl (lv_at hl 0 rfl) ?_
    refine lv_iload_n hx hb dX11_isTaken_11 rfl (lv_at hl 1 rfl) ?_
    refine lv_ishr hx hb dX11_isTaken_12 ?_
    refine lv_iconst (v := 1) hx hb dX11_isTaken_13 (by decide) ?_
    refine lv_iand hx hb dX11_isTaken_14 ?_
    refine lv_iconst (v := 1) hx hb dX11_isTaken_15 (by decide) ?_
    refine lv_icmp_ne (tgt := 23) hx hb dX11_isTaken_16 (by decide) (fun c12 => ?_) (fun c12 => ?_)
    · have hw := w_f hw c12
      refine lv_iconst (v := 0) hx hb dX11_isTaken_23 (by decide) ?_
      exact kX11_isTaken_b24 C hW (lv_sub hl [0, 1] rfl) hw
    · have hw := w_t hw c12
      exact kX11_isTaken_b19 C hW (lv_sub hl [0, 1] rfl) hw
/-! TrialStairModel.comesOfTrial -/
def wX11_comesOfTrial_b149 (x0 : Nat) (x1 : Int32) (x2 : Int32) (S : Sg) (Q : Int32 → Sg → Prop) : Prop := ∃ a9 : Nat, (fR S 711 x0) = some a9 ∧ tg S a9 = 13 ∧ vp_in x2 (ln S a9) ∧ (if 0 ≤ (aI S a9 (x2).toNatClampNeg) then ∃ a12 : Nat, (fR S 732 x0) = some a12 ∧ tg S a12 = 13 ∧ vp_in x1 (ln S a12) ∧ ∀ S14 : Sg, S14 = sAI S a12 (x1).toNatClampNeg (2 : Int32) → ∃ a15 : Nat, (fR S14 734 x0) = some a15 ∧ tg S14 a15 = 13 ∧ vp_in x1 (ln S14 a15) ∧ ∀ S17 : Sg, S17 = sAI S14 a15 (x1).toNatClampNeg (fI S14 740 x0) → ∃ a18 : Nat, (fR S17 735 x0) = some a18 ∧ tg S17 a18 = 14 ∧ vp_in x1 (ln S17 a18) ∧ ∀ S20 : Sg, S20 = sAL S17 a18 (x1).toNatClampNeg (fL S17 741 x0) → ∃ a21 : Nat, (fR S20 736 x0) = some a21 ∧ tg S20 a21 = 13 ∧ vp_in x1 (ln S20 a21) ∧ ∀ S23 : Sg, S23 = sAI S20 a21 (x1).toNatClampNeg (fI S20 742 x0) → ∃ a24 : Nat, (fR S23 755 x0) = some a24 ∧ tg S23 a24 = 13 ∧ vp_in (fI S23 756 x0) (ln S23 a24) ∧ ∀ S26 : Sg, S26 = sAI S23 a24 ((fI S23 756 x0)).toNatClampNeg x2 → ∀ S27 : Sg, S27 = sFI S26 756 x0 ((fI S26 756 x0) + (1 : Int32)) → vp_in x2 (ln S27 a9) ∧ ∀ S30 : Sg, S30 = sFI S27 738 x0 ((aI S27 a9 (x2).toNatClampNeg) + (1 : Int32)) → Q (0 : Int32) S30 else wX11_over x0 x1 S (fun (r31 : Int32) (S32 : Sg) => (r31 = 0 ∨ r31 = 1) ∧ Q r31 S32))
def wX11_comesOfTrial (x0 : Nat) (x1 : Int32) (S0 : Sg) (Q : Int32 → Sg → Prop) : Prop := ∃ a1 : Nat, (fR S0 730 x0) = some a1 ∧ tg S0 a1 = 13 ∧ vp_in x1 (ln S0 a1) ∧ ∀ y3 : Int32, y3 = (aI S0 a1 (x1).toNatClampNeg) → ∃ a4 : Nat, (fR S0 732 x0) = some a4 ∧ tg S0 a4 = 13 ∧ vp_in x1 (ln S0 a4) ∧ (if (aI S0 a4 (x1).toNatClampNeg) = (2 : Int32) then (if (fI S0 740 x0) = (2 : Int32) then wX11_over x0 x1 S0 (fun (r56 : Int32) (S57 : Sg) => (r56 = 0 ∨ r56 = 1) ∧ Q r56 S57) else ∃ a59 : Nat, (fR S0 734 x0) = some a59 ∧ tg S0 a59 = 13 ∧ vp_in x1 (ln S0 a59) ∧ ∀ S61 : Sg, S61 = sFI S0 740 x0 (aI S0 a59 (x1).toNatClampNeg) → ∃ a62 : Nat, (fR S61 735 x0) = some a62 ∧ tg S61 a62 = 14 ∧ vp_in x1 (ln S61 a62) ∧ ∀ S64 : Sg, S64 = sFL S61 741 x0 (aL S61 a62 (x1).toNatClampNeg) → ∃ a65 : Nat, (fR S64 736 x0) = some a65 ∧ tg S64 a65 = 13 ∧ vp_in x1 (ln S64 a65) ∧ ∀ S67 : Sg, S67 = sFI S64 742 x0 (aI S64 a65 (x1).toNatClampNeg) → wX11_over x0 x1 S67 (fun (r68 : Int32) (S69 : Sg) => (r68 = 0 ∨ r68 = 1) ∧ Q r68 S69)) else vp_in x1 (ln S0 a4) ∧ (if (aI S0 a4 (x1).toNatClampNeg) = 0 then (if (fI S0 740 x0) = (2 : Int32) then ∃ a35 : Nat, (fR S0 710 x0) = some a35 ∧ tg S0 a35 = 13 ∧ vp_in y3 (ln S0 a35) ∧ (if (aI S0 a35 (y3).toNatClampNeg) < 0 then wX11_comesOfTrial_b149 x0 x1 y3 S0 Q else ∃ a38 : Nat, (fR S0 705 x0) = some a38 ∧ tg S0 a38 = 13 ∧ vp_in y3 (ln S0 a38) ∧ ∃ a40 : Nat, (fR S0 743 x0) = some a40 ∧ tg S0 a40 = 13 ∧ vp_in (fI S0 742 x0) (ln S0 a40) ∧ wX11_isTaken (aI S0 a38 (y3).toNatClampNeg) (aI S0 a40 ((fI S0 742 x0)).toNatClampNeg) S0 (fun (r42 : Int32) (S43 : Sg) => (if r42 = 0 then wX11_comesOfTrial_b149 x0 x1 y3 S43 Q else ∃ a45 : Nat, (fR S43 732 x0) = some a45 ∧ tg S43 a45 = 13 ∧ vp_in x1 (ln S43 a45) ∧ ∀ S47 : Sg, S47 = sAI S43 a45 (x1).toNatClampNeg (1 : Int32) → ∃ a48 : Nat, (fR S47 733 x0) = some a48 ∧ tg S47 a48 = 13 ∧ vp_in x1 (ln S47 a48) ∧ ∀ S50 : Sg, S50 = sAI S47 a48 (x1).toNatClampNeg (fI S47 742 x0) → ∀ S51 : Sg, S51 = sFI S50 757 x0 ((fI S50 757 x0) + (1 : Int32)) → ∃ a52 : Nat, (fR S51 710 x0) = some a52 ∧ tg S51 a52 = 13 ∧ vp_in y3 (ln S51 a52) ∧ ∀ S54 : Sg, S54 = sFI S51 738 x0 ((aI S51 a52 (y3).toNatClampNeg) + (1 : Int32)) → Q (0 : Int32) S54))) else wX11_comesOfTrial_b149 x0 x1 y3 S0 Q) else wX11_comesOfTrial_b149 x0 x1 y3 S0 Q))
set_option maxHeartbeats 4000000 in
set_option maxRecDepth 100000 in
theorem kX11_comesOfTrial_b149 {p : Program} {l : Launch} {e : Env} {s : State} {m : MethodId} {args : Array Value} {below : List Frame} {meth : Method} {c : Code} {D : va_G} {cy : Nat → ClassId} {S0 : Sg} (C : gC p s m args meth c D cy cX11_comesOfTrial 3 yX11_comesOfTrial.cls (some .boolean) yX11_comesOfTrial.name) {H : Heap} {locs : List Loc} {ls : Array Slot} {x0 : Nat} {x1 : Int32} {x2 : Int32} {S : Sg} {Q : Int32 → Sg → Prop} (hW : gW D cy (gA S0) (tg S0) s.heap S H locs) (t0 : tg S x0 = 12) (hl : lv_has ls 3 [(0, va_rf (some x0)), (1, .int x1), (2, .int x2)]) (hw : wX11_comesOfTrial_b149 x0 x1 x2 S Q) : W p l e { frames := 1, cells := 0, slots := 0, locals := 23 } s m args below meth c H locs 0 0 (MQ below (va_Qi Q (gB D cy S0) (gA S0)) args s 0 0 (gA S0)) (F0 m 149 ls []) := by
  have hx := C.1
  have hb := C.2.1
  unfold wX11_comesOfTrial_b149 at hw
  refine gx_aload_n hx hb dX11_comesOfTrial_149 rfl (lv_at hl 0 rfl) ?_
  refine gx_getR C hW F11_28 (k := 711) rfl t0 rfl dX11_comesOfTrial_150 ?_
  refine lv_iload_n hx hb dX11_comesOfTrial_153 rfl (lv_at hl 2 rfl) ?_
  obtain ⟨a9, ha9, ta9, hw⟩ := hw
  obtain ⟨i10, hw⟩ := hw
  refine gx_iald C hW ha9 ta9 i10 dX11_comesOfTrial_154 ?_
  refine lv_if_ge (tgt := 164) hx hb dX11_comesOfTrial_155 (by decide) (fun c11 => ?_) (fun c11 => ?_)
  · have hw := w_t hw c11
    refine gx_aload_n hx hb dX11_comesOfTrial_164 rfl (lv_at hl 0 rfl) ?_
    refine gx_getR C hW F11_78 (k := 732) rfl t0 rfl dX11_comesOfTrial_165 ?_
    refine lv_iload_n hx hb dX11_comesOfTrial_168 rfl (lv_at hl 1 rfl) ?_
    refine lv_iconst (v := 2) hx hb dX11_comesOfTrial_169 (by decide) ?_
    obtain ⟨a12, ha12, ta12, hw⟩ := hw
    obtain ⟨i13, hw⟩ := hw
    refine gx_iast C hW ha12 ta12 i13 dX11_comesOfTrial_170 (fun H locs S14 eS14 hW hm => ?_)
    have hw := hw S14 eS14
    have t0 := hm _ _ t0
    have ta9 := hm _ _ ta9
    have ta12 := hm _ _ ta12
    refine gx_aload_n hx hb dX11_comesOfTrial_171 rfl (lv_at hl 0 rfl) ?_
    refine gx_getR C hW F11_84 (k := 734) rfl t0 rfl dX11_comesOfTrial_172 ?_
    refine lv_iload_n hx hb dX11_comesOfTrial_175 rfl (lv_at hl 1 rfl) ?_
    refine gx_aload_n hx hb dX11_comesOfTrial_176 rfl (lv_at hl 0 rfl) ?_
    refine gx_getI C hW F11_194 (k := 740) rfl t0 rfl dX11_comesOfTrial_177 ?_
    obtain ⟨a15, ha15, ta15, hw⟩ := hw
    obtain ⟨i16, hw⟩ := hw
    refine gx_iast C hW ha15 ta15 i16 dX11_comesOfTrial_180 (fun H locs S17 eS17 hW hm => ?_)
    have hw := hw S17 eS17
    have t0 := hm _ _ t0
    have ta9 := hm _ _ ta9
    have ta12 := hm _ _ ta12
    have ta15 := hm _ _ ta15
    refine gx_aload_n hx hb dX11_comesOfTrial_181 rfl (lv_at hl 0 rfl) ?_
    refine gx_getR C hW F11_87 (k := 735) rfl t0 rfl dX11_comesOfTrial_182 ?_
    refine lv_iload_n hx hb dX11_comesOfTrial_185 rfl (lv_at hl 1 rfl) ?_
    refine gx_aload_n hx hb dX11_comesOfTrial_186 rfl (lv_at hl 0 rfl) ?_
    refine gx_getL C hW F11_226 (k := 741) rfl t0 rfl dX11_comesOfTrial_187 ?_
    obtain ⟨a18, ha18, ta18, hw⟩ := hw
    obtain ⟨i19, hw⟩ := hw
    refine gx_last C hW ha18 ta18 i19 dX11_comesOfTrial_190 (fun H locs S20 eS20 hW hm => ?_)
    have hw := hw S20 eS20
    have t0 := hm _ _ t0
    have ta9 := hm _ _ ta9
    have ta12 := hm _ _ ta12
    have ta15 := hm _ _ ta15
    have ta18 := hm _ _ ta18
    refine gx_aload_n hx hb dX11_comesOfTrial_191 rfl (lv_at hl 0 rfl) ?_
    refine gx_getR C hW F11_90 (k := 736) rfl t0 rfl dX11_comesOfTrial_192 ?_
    refine lv_iload_n hx hb dX11_comesOfTrial_195 rfl (lv_at hl 1 rfl) ?_
    refine gx_aload_n hx hb dX11_comesOfTrial_196 rfl (lv_at hl 0 rfl) ?_
    refine gx_getI C hW F11_232 (k := 742) rfl t0 rfl dX11_comesOfTrial_197 ?_
    obtain ⟨a21, ha21, ta21, hw⟩ := hw
    obtain ⟨i22, hw⟩ := hw
    refine gx_iast C hW ha21 ta21 i22 dX11_comesOfTrial_200 (fun H locs S23 eS23 hW hm => ?_)
    have hw := hw S23 eS23
    have t0 := hm _ _ t0
    have ta9 := hm _ _ ta9
    have ta12 := hm _ _ ta12
    have ta15 := hm _ _ ta15
    have ta18 := hm _ _ ta18
    have ta21 := hm _ _ ta21
    refine gx_aload_n hx hb dX11_comesOfTrial_201 rfl (lv_at hl 0 rfl) ?_
    refine gx_getR C hW F11_106 (k := 755) rfl t0 rfl dX11_comesOfTrial_202 ?_
    refine gx_aload_n hx hb dX11_comesOfTrial_205 rfl (lv_at hl 0 rfl) ?_
    refine gx_getI C hW F11_165 (k := 756) rfl t0 rfl dX11_comesOfTrial_206 ?_
    refine lv_iload_n hx hb dX11_comesOfTrial_209 rfl (lv_at hl 2 rfl) ?_
    obtain ⟨a24, ha24, ta24, hw⟩ := hw
    obtain ⟨i25, hw⟩ := hw
    refine gx_iast C hW ha24 ta24 i25 dX11_comesOfTrial_210 (fun H locs S26 eS26 hW hm => ?_)
    have hw := hw S26 eS26
    have t0 := hm _ _ t0
    have ta9 := hm _ _ ta9
    have ta12 := hm _ _ ta12
    have ta15 := hm _ _ ta15
    have ta18 := hm _ _ ta18
    have ta21 := hm _ _ ta21
    have ta24 := hm _ _ ta24
    refine gx_aload_n hx hb dX11_comesOfTrial_211 rfl (lv_at hl 0 rfl) ?_
    refine lv_dup hx hb dX11_comesOfTrial_212 (va_rf_cat _) ?_
    refine gx_getI C hW F11_165 (k := 756) rfl t0 rfl dX11_comesOfTrial_213 ?_
    refine lv_iconst (v := 1) hx hb dX11_comesOfTrial_216 (by decide) ?_
    refine lv_iadd hx hb dX11_comesOfTrial_217 ?_
    refine gx_putI (k := 756) C hW F11_165 (Or.inl rfl) rfl t0 rfl rfl rfl dX11_comesOfTrial_218 (fun H locs S27 eS27 hW hm => ?_)
    have hw := hw S27 eS27
    have t0 := hm _ _ t0
    have ta9 := hm _ _ ta9
    have ta12 := hm _ _ ta12
    have ta15 := hm _ _ ta15
    have ta18 := hm _ _ ta18
    have ta21 := hm _ _ ta21
    have ta24 := hm _ _ ta24
    refine gx_aload_n hx hb dX11_comesOfTrial_221 rfl (lv_at hl 0 rfl) ?_
    refine gx_aload_n hx hb dX11_comesOfTrial_222 rfl (lv_at hl 0 rfl) ?_
    refine gx_getR C hW F11_28 (k := 711) rfl t0 rfl dX11_comesOfTrial_223 ?_
    refine lv_iload_n hx hb dX11_comesOfTrial_226 rfl (lv_at hl 2 rfl) ?_
    have h28 : (fR S27 711 x0) = some a9 := ((congrArg (fun z => fR z 711 x0) eS27).trans ((congrArg (fun z => fR z 711 x0) eS26).trans ((congrArg (fun z => fR z 711 x0) eS23).trans ((congrArg (fun z => fR z 711 x0) eS20).trans ((congrArg (fun z => fR z 711 x0) eS17).trans ((congrArg (fun z => fR z 711 x0) eS14).trans ha9))))))
    obtain ⟨i29, hw⟩ := hw
    refine gx_iald C hW h28 ta9 i29 dX11_comesOfTrial_227 ?_
    refine lv_iconst (v := 1) hx hb dX11_comesOfTrial_228 (by decide) ?_
    refine lv_iadd hx hb dX11_comesOfTrial_229 ?_
    refine gx_putI (k := 738) C hW F11_187 (Or.inl rfl) rfl t0 rfl rfl rfl dX11_comesOfTrial_230 (fun H locs S30 eS30 hW hm => ?_)
    have hw := hw S30 eS30
    have t0 := hm _ _ t0
    have ta9 := hm _ _ ta9
    have ta12 := hm _ _ ta12
    have ta15 := hm _ _ ta15
    have ta18 := hm _ _ ta18
    have ta21 := hm _ _ ta21
    have ta24 := hm _ _ ta24
    refine lv_iconst (v := 0) hx hb dX11_comesOfTrial_233 (by decide) ?_
    exact gx_iret C hW (Nat.le_of_ble_eq_true rfl) (Nat.le_of_ble_eq_true rfl) rfl hw dX11_comesOfTrial_234
  · have hw := w_f hw c11
    refine gx_aload_n hx hb dX11_comesOfTrial_158 rfl (lv_at hl 0 rfl) ?_
    refine lv_iload_n hx hb dX11_comesOfTrial_159 rfl (lv_at hl 1 rfl) ?_
    refine gx_ci (gx_rV C hW M11_247 (mX11_over l D cy _ _ _ _ t0 hw) rfl rfl ⟨Nat.le_of_ble_eq_true rfl, Nat.le_of_ble_eq_true rfl⟩ rfl t0 (by decide) rfl rfl hl.1 rfl (gx_room0 (n := 4) (Nat.le_of_ble_eq_true rfl)) dX11_comesOfTrial_160 ⟨Nat.le_of_ble_eq_true rfl, Nat.le_of_ble_eq_true rfl⟩) hW (fun r31 S32 H locs hW hm hw => ?_)
    have t0 := hm _ _ t0
    have ta9 := hm _ _ ta9
    obtain ⟨z33, hw⟩ := hw
    exact gx_iret C hW (Nat.le_of_ble_eq_true rfl) (Nat.le_of_ble_eq_true rfl) (bz_n z33) hw dX11_comesOfTrial_163
set_option maxHeartbeats 4000000 in
set_option maxRecDepth 100000 in
theorem mX11_comesOfTrial (l : Launch) (D : va_G) (cy : Nat → ClassId) (x0 : Nat) (x1 : Int32) (S0 : Sg) (Q : Int32 → Sg → Prop) (t0 : tg S0 x0 = 12) (hw : wX11_comesOfTrial x0 x1 S0 Q) : Met l yX11_comesOfTrial (.code yX11_comesOfTrial cX11_comesOfTrial 3 (some .boolean) :: wsL_law) { frames := 1, cells := 0, slots := 0, locals := 23 } (gPc D cy [va_rf (some x0), .int x1] S0) (va_Qi Q (gB D cy S0) (gA S0)) 0 0 (gA S0) := by
  refine gx_met (by decide) (Nat.le_of_ble_eq_true rfl) ?_
  intro p e s m args below meth c ls C hW hl
  have hx := C.1
  have hb := C.2.1
  have hl : lv_has ls 3 [(0, va_rf (some x0)), (1, .int x1)] := hl
  unfold wX11_comesOfTrial at hw
  refine gx_aload_n hx hb dX11_comesOfTrial_0 rfl (lv_at hl 0 rfl) ?_
  refine gx_getR C hW F11_72 (k := 730) rfl t0 rfl dX11_comesOfTrial_1 ?_
  refine lv_iload_n hx hb dX11_comesOfTrial_4 rfl (lv_at hl 1 rfl) ?_
  obtain ⟨a1, ha1, ta1, hw⟩ := hw
  obtain ⟨i2, hw⟩ := hw
  refine gx_iald C hW ha1 ta1 i2 dX11_comesOfTrial_5 ?_
  refine lv_topi (fun y3 ey3 => ?_)
  have hw := hw y3 ey3
  refine lv_istore_n (i := 2) (lv' := [(2, .int y3), (0, va_rf (some x0)), (1, .int x1)]) hx hb dX11_comesOfTrial_6 rfl hl (by decide) rfl (fun ls hl => ?_)
  refine gx_aload_n hx hb dX11_comesOfTrial_7 rfl (lv_at hl 1 rfl) ?_
  refine gx_getR C hW F11_78 (k := 732) rfl t0 rfl dX11_comesOfTrial_8 ?_
  refine lv_iload_n hx hb dX11_comesOfTrial_11 rfl (lv_at hl 2 rfl) ?_
  obtain ⟨a4, ha4, ta4, hw⟩ := hw
  obtain ⟨i5, hw⟩ := hw
  refine gx_iald C hW ha4 ta4 i5 dX11_comesOfTrial_12 ?_
  refine lv_iconst (v := 2) hx hb dX11_comesOfTrial_13 (by decide) ?_
  refine lv_icmp_ne (tgt := 61) hx hb dX11_comesOfTrial_14 (by decide) (fun c6 => ?_) (fun c6 => ?_)
  · have hw := w_f hw c6
    refine gx_aload_n hx hb dX11_comesOfTrial_61 rfl (lv_at hl 1 rfl) ?_
    refine gx_getR C hW F11_78 (k := 732) rfl t0 rfl dX11_comesOfTrial_62 ?_
    refine lv_iload_n hx hb dX11_comesOfTrial_65 rfl (lv_at hl 2 rfl) ?_
    obtain ⟨i7, hw⟩ := hw
    refine gx_iald C hW ha4 ta4 i7 dX11_comesOfTrial_66 ?_
    refine lv_if_ne (tgt := 149) hx hb dX11_comesOfTrial_67 (by decide) (fun c8 => ?_) (fun c8 => ?_)
    · have hw := w_f hw c8
      exact kX11_comesOfTrial_b149 C hW t0 (lv_sub hl [1, 2, 0] rfl) hw
    · have hw := w_t hw c8
      refine gx_aload_n hx hb dX11_comesOfTrial_70 rfl (lv_at hl 1 rfl) ?_
      refine gx_getI C hW F11_194 (k := 740) rfl t0 rfl dX11_comesOfTrial_71 ?_
      refine lv_iconst (v := 2) hx hb dX11_comesOfTrial_74 (by decide) ?_
      refine lv_icmp_ne (tgt := 149) hx hb dX11_comesOfTrial_75 (by decide) (fun c34 => ?_) (fun c34 => ?_)
      · have hw := w_f hw c34
        exact kX11_comesOfTrial_b149 C hW t0 (lv_sub hl [1, 2, 0] rfl) hw
      · have hw := w_t hw c34
        refine gx_aload_n hx hb dX11_comesOfTrial_78 rfl (lv_at hl 1 rfl) ?_
        refine gx_getR C hW F11_25 (k := 710) rfl t0 rfl dX11_comesOfTrial_79 ?_
        refine lv_iload_n hx hb dX11_comesOfTrial_82 rfl (lv_at hl 0 rfl) ?_
        obtain ⟨a35, ha35, ta35, hw⟩ := hw
        obtain ⟨i36, hw⟩ := hw
        refine gx_iald C hW ha35 ta35 i36 dX11_comesOfTrial_83 ?_
        refine lv_if_lt (tgt := 149) hx hb dX11_comesOfTrial_84 (by decide) (fun c37 => ?_) (fun c37 => ?_)
        · have hw := w_t hw c37
          exact kX11_comesOfTrial_b149 C hW t0 (lv_sub hl [1, 2, 0] rfl) hw
        · have hw := w_f hw c37
          refine gx_aload_n hx hb dX11_comesOfTrial_87 rfl (lv_at hl 1 rfl) ?_
          refine gx_getR C hW F11_13 (k := 705) rfl t0 rfl dX11_comesOfTrial_88 ?_
          refine lv_iload_n hx hb dX11_comesOfTrial_91 rfl (lv_at hl 0 rfl) ?_
          obtain ⟨a38, ha38, ta38, hw⟩ := hw
          obtain ⟨i39, hw⟩ := hw
          refine gx_iald C hW ha38 ta38 i39 dX11_comesOfTrial_92 ?_
          refine gx_aload_n hx hb dX11_comesOfTrial_93 rfl (lv_at hl 1 rfl) ?_
          refine gx_getR C hW F11_93 (k := 743) rfl t0 rfl dX11_comesOfTrial_94 ?_
          refine gx_aload_n hx hb dX11_comesOfTrial_97 rfl (lv_at hl 1 rfl) ?_
          refine gx_getI C hW F11_232 (k := 742) rfl t0 rfl dX11_comesOfTrial_98 ?_
          obtain ⟨a40, ha40, ta40, hw⟩ := hw
          obtain ⟨i41, hw⟩ := hw
          refine gx_iald C hW ha40 ta40 i41 dX11_comesOfTrial_101 ?_
          refine gx_ci (gx_rS C hW M11_250 (mX11_isTaken l D cy _ _ _ _  hw) rfl rfl ⟨Nat.le_of_ble_eq_true rfl, Nat.le_of_ble_eq_true rfl⟩ rfl hl.1 rfl (gx_room0 (n := 4) (Nat.le_of_ble_eq_true rfl)) dX11_comesOfTrial_102 ⟨Nat.le_of_ble_eq_true rfl, Nat.le_of_ble_eq_true rfl⟩) hW (fun r42 S43 H locs hW hm hw => ?_)
          have t0 := hm _ _ t0
          have ta1 := hm _ _ ta1
          have ta4 := hm _ _ ta4
          have ta35 := hm _ _ ta35
          have ta38 := hm _ _ ta38
          have ta40 := hm _ _ ta40
          refine lv_if_eq (tgt := 149) hx hb dX11_comesOfTrial_105 (by decide) (fun c44 => ?_) (fun c44 => ?_)
          · have hw := w_t hw c44
            exact kX11_comesOfTrial_b149 C hW t0 (lv_sub hl [1, 2, 0] rfl) hw
          · have hw := w_f hw c44
            refine gx_aload_n hx hb dX11_comesOfTrial_108 rfl (lv_at hl 1 rfl) ?_
            refine gx_getR C hW F11_78 (k := 732) rfl t0 rfl dX11_comesOfTrial_109 ?_
            refine lv_iload_n hx hb dX11_comesOfTrial_112 rfl (lv_at hl 2 rfl) ?_
            refine lv_iconst (v := 1) hx hb dX11_comesOfTrial_113 (by decide) ?_
            obtain ⟨a45, ha45, ta45, hw⟩ := hw
            obtain ⟨i46, hw⟩ := hw
            refine gx_iast C hW ha45 ta45 i46 dX11_comesOfTrial_114 (fun H locs S47 eS47 hW hm => ?_)
            have hw := hw S47 eS47
            have t0 := hm _ _ t0
            have ta1 := hm _ _ ta1
            have ta4 := hm _ _ ta4
            have ta35 := hm _ _ ta35
            have ta38 := hm _ _ ta38
            have ta40 := hm _ _ ta40
            have ta45 := hm _ _ ta45
            refine gx_aload_n hx hb dX11_comesOfTrial_115 rfl (lv_at hl 1 rfl) ?_
            refine gx_getR C hW F11_81 (k := 733) rfl t0 rfl dX11_comesOfTrial_116 ?_
            refine lv_iload_n hx hb dX11_comesOfTrial_119 rfl (lv_at hl 2 rfl) ?_
            refine gx_aload_n hx hb dX11_comesOfTrial_120 rfl (lv_at hl 1 rfl) ?_
            refine gx_getI C hW F11_232 (k := 742) rfl t0 rfl dX11_comesOfTrial_121 ?_
            obtain ⟨a48, ha48, ta48, hw⟩ := hw
            obtain ⟨i49, hw⟩ := hw
            refine gx_iast C hW ha48 ta48 i49 dX11_comesOfTrial_124 (fun H locs S50 eS50 hW hm => ?_)
            have hw := hw S50 eS50
            have t0 := hm _ _ t0
            have ta1 := hm _ _ ta1
            have ta4 := hm _ _ ta4
            have ta35 := hm _ _ ta35
            have ta38 := hm _ _ ta38
            have ta40 := hm _ _ ta40
            have ta45 := hm _ _ ta45
            have ta48 := hm _ _ ta48
            refine gx_aload_n hx hb dX11_comesOfTrial_125 rfl (lv_at hl 1 rfl) ?_
            refine lv_dup hx hb dX11_comesOfTrial_126 (va_rf_cat _) ?_
            refine gx_getI C hW F11_168 (k := 757) rfl t0 rfl dX11_comesOfTrial_127 ?_
            refine lv_iconst (v := 1) hx hb dX11_comesOfTrial_130 (by decide) ?_
            refine lv_iadd hx hb dX11_comesOfTrial_131 ?_
            refine gx_putI (k := 757) C hW F11_168 (Or.inl rfl) rfl t0 rfl rfl rfl dX11_comesOfTrial_132 (fun H locs S51 eS51 hW hm => ?_)
            have hw := hw S51 eS51
            have t0 := hm _ _ t0
            have ta1 := hm _ _ ta1
            have ta4 := hm _ _ ta4
            have ta35 := hm _ _ ta35
            have ta38 := hm _ _ ta38
            have ta40 := hm _ _ ta40
            have ta45 := hm _ _ ta45
            have ta48 := hm _ _ ta48
            refine gx_aload_n hx hb dX11_comesOfTrial_135 rfl (lv_at hl 1 rfl) ?_
            refine gx_aload_n hx hb dX11_comesOfTrial_136 rfl (lv_at hl 1 rfl) ?_
            refine gx_getR C hW F11_25 (k := 710) rfl t0 rfl dX11_comesOfTrial_137 ?_
            refine lv_iload_n hx hb dX11_comesOfTrial_140 rfl (lv_at hl 0 rfl) ?_
            obtain ⟨a52, ha52, ta52, hw⟩ := hw
            obtain ⟨i53, hw⟩ := hw
            refine gx_iald C hW ha52 ta52 i53 dX11_comesOfTrial_141 ?_
            refine lv_iconst (v := 1) hx hb dX11_comesOfTrial_142 (by decide) ?_
            refine lv_iadd hx hb dX11_comesOfTrial_143 ?_
            refine gx_putI (k := 738) C hW F11_187 (Or.inl rfl) rfl t0 rfl rfl rfl dX11_comesOfTrial_144 (fun H locs S54 eS54 hW hm => ?_)
            have hw := hw S54 eS54
            have t0 := hm _ _ t0
            have ta1 := hm _ _ ta1
            have ta4 := hm _ _ ta4
            have ta35 := hm _ _ ta35
            have ta38 := hm _ _ ta38
            have ta40 := hm _ _ ta40
            have ta45 := hm _ _ ta45
            have ta48 := hm _ _ ta48
            have ta52 := hm _ _ ta52
            refine lv_iconst (v := 0) hx hb dX11_comesOfTrial_147 (by decide) ?_
            exact gx_iret C hW (Nat.le_of_ble_eq_true rfl) (Nat.le_of_ble_eq_true rfl) rfl hw dX11_comesOfTrial_148
  · have hw := w_t hw c6
    refine gx_aload_n hx hb dX11_comesOfTrial_17 rfl (lv_at hl 1 rfl) ?_
    refine gx_getI C hW F11_194 (k := 740) rfl t0 rfl dX11_comesOfTrial_18 ?_
    refine lv_iconst (v := 2) hx hb dX11_comesOfTrial_21 (by decide) ?_
    refine lv_icmp_eq (tgt := 55) hx hb dX11_comesOfTrial_22 (by decide) (fun c55 => ?_) (fun c55 => ?_)
    · have hw := w_t hw c55
      refine gx_aload_n hx hb dX11_comesOfTrial_55 rfl (lv_at hl 1 rfl) ?_
      refine lv_iload_n hx hb dX11_comesOfTrial_56 rfl (lv_at hl 2 rfl) ?_
      refine gx_ci (gx_rV C hW M11_247 (mX11_over l D cy _ _ _ _ t0 hw) rfl rfl ⟨Nat.le_of_ble_eq_true rfl, Nat.le_of_ble_eq_true rfl⟩ rfl t0 (by decide) rfl rfl hl.1 rfl (gx_room0 (n := 4) (Nat.le_of_ble_eq_true rfl)) dX11_comesOfTrial_57 ⟨Nat.le_of_ble_eq_true rfl, Nat.le_of_ble_eq_true rfl⟩) hW (fun r56 S57 H locs hW hm hw => ?_)
      have t0 := hm _ _ t0
      have ta1 := hm _ _ ta1
      have ta4 := hm _ _ ta4
      obtain ⟨z58, hw⟩ := hw
      exact gx_iret C hW (Nat.le_of_ble_eq_true rfl) (Nat.le_of_ble_eq_true rfl) (bz_n z58) hw dX11_comesOfTrial_60
    · have hw := w_f hw c55
      refine gx_aload_n hx hb dX11_comesOfTrial_25 rfl (lv_at hl 1 rfl) ?_
      refine gx_aload_n hx hb dX11_comesOfTrial_26 rfl (lv_at hl 1 rfl) ?_
      refine gx_getR C hW F11_84 (k := 734) rfl t0 rfl dX11_comesOfTrial_27 ?_
      refine lv_iload_n hx hb dX11_comesOfTrial_30 rfl (lv_at hl 2 rfl) ?_
      obtain ⟨a59, ha59, ta59, hw⟩ := hw
      obtain ⟨i60, hw⟩ := hw
      refine gx_iald C hW ha59 ta59 i60 dX11_comesOfTrial_31 ?_
      refine gx_putI (k := 740) C hW F11_194 (Or.inl rfl) rfl t0 rfl rfl rfl dX11_comesOfTrial_32 (fun H locs S61 eS61 hW hm => ?_)
      have hw := hw S61 eS61
      have t0 := hm _ _ t0
      have ta1 := hm _ _ ta1
      have ta4 := hm _ _ ta4
      have ta59 := hm _ _ ta59
      refine gx_aload_n hx hb dX11_comesOfTrial_35 rfl (lv_at hl 1 rfl) ?_
      refine gx_aload_n hx hb dX11_comesOfTrial_36 rfl (lv_at hl 1 rfl) ?_
      refine gx_getR C hW F11_87 (k := 735) rfl t0 rfl dX11_comesOfTrial_37 ?_
      refine lv_iload_n hx hb dX11_comesOfTrial_40 rfl (lv_at hl 2 rfl) ?_
      obtain ⟨a62, ha62, ta62, hw⟩ := hw
      obtain ⟨i63, hw⟩ := hw
      refine gx_lald C hW ha62 ta62 i63 dX11_comesOfTrial_41 ?_
      refine gx_putL (k := 741) C hW F11_226 (Or.inl rfl) rfl t0 rfl dX11_comesOfTrial_42 (fun H locs S64 eS64 hW hm => ?_)
      have hw := hw S64 eS64
      have t0 := hm _ _ t0
      have ta1 := hm _ _ ta1
      have ta4 := hm _ _ ta4
      have ta59 := hm _ _ ta59
      have ta62 := hm _ _ ta62
      refine gx_aload_n hx hb dX11_comesOfTrial_45 rfl (lv_at hl 1 rfl) ?_
      refine gx_aload_n hx hb dX11_comesOfTrial_46 rfl (lv_at hl 1 rfl) ?_
      refine gx_getR C hW F11_90 (k := 736) rfl t0 rfl dX11_comesOfTrial_47 ?_
      refine lv_iload_n hx hb dX11_comesOfTrial_50 rfl (lv_at hl 2 rfl) ?_
      obtain ⟨a65, ha65, ta65, hw⟩ := hw
      obtain ⟨i66, hw⟩ := hw
      refine gx_iald C hW ha65 ta65 i66 dX11_comesOfTrial_51 ?_
      refine gx_putI (k := 742) C hW F11_232 (Or.inl rfl) rfl t0 rfl rfl rfl dX11_comesOfTrial_52 (fun H locs S67 eS67 hW hm => ?_)
      have hw := hw S67 eS67
      have t0 := hm _ _ t0
      have ta1 := hm _ _ ta1
      have ta4 := hm _ _ ta4
      have ta59 := hm _ _ ta59
      have ta62 := hm _ _ ta62
      have ta65 := hm _ _ ta65
      refine gx_aload_n hx hb dX11_comesOfTrial_55 rfl (lv_at hl 1 rfl) ?_
      refine lv_iload_n hx hb dX11_comesOfTrial_56 rfl (lv_at hl 2 rfl) ?_
      refine gx_ci (gx_rV C hW M11_247 (mX11_over l D cy _ _ _ _ t0 hw) rfl rfl ⟨Nat.le_of_ble_eq_true rfl, Nat.le_of_ble_eq_true rfl⟩ rfl t0 (by decide) rfl rfl hl.1 rfl (gx_room0 (n := 4) (Nat.le_of_ble_eq_true rfl)) dX11_comesOfTrial_57 ⟨Nat.le_of_ble_eq_true rfl, Nat.le_of_ble_eq_true rfl⟩) hW (fun r68 S69 H locs hW hm hw => ?_)
      have t0 := hm _ _ t0
      have ta1 := hm _ _ ta1
      have ta4 := hm _ _ ta4
      have ta59 := hm _ _ ta59
      have ta62 := hm _ _ ta62
      have ta65 := hm _ _ ta65
      obtain ⟨z70, hw⟩ := hw
      exact gx_iret C hW (Nat.le_of_ble_eq_true rfl) (Nat.le_of_ble_eq_true rfl) (bz_n z70) hw dX11_comesOfTrial_60
/-! TrialStairModel.takes -/
def wX11_takes (x0 : Nat) (S0 : Sg) (Q : Int32 → Sg → Prop) : Prop := (if (fI S0 746 x0) = 0 then wX11_stop x0 (3 : Int32) S0 (fun (S5 : Sg) => Q (0 : Int32) S5) else ∀ S2 : Sg, S2 = sFI S0 746 x0 ((fI S0 746 x0) - (1 : Int32)) → ∀ S3 : Sg, S3 = sFI S2 747 x0 ((fI S2 747 x0) + (1 : Int32)) → Q (1 : Int32) S3)
set_option maxHeartbeats 4000000 in
set_option maxRecDepth 100000 in
theorem mX11_takes (l : Launch) (D : va_G) (cy : Nat → ClassId) (x0 : Nat) (S0 : Sg) (Q : Int32 → Sg → Prop) (t0 : tg S0 x0 = 12) (hw : wX11_takes x0 S0 Q) : Met l yX11_takes (.code yX11_takes cX11_takes 1 (some .boolean) :: wsL_law) { frames := 1, cells := 0, slots := 0, locals := 21 } (gPc D cy [va_rf (some x0)] S0) (va_Qi Q (gB D cy S0) (gA S0)) 0 0 (gA S0) := by
  refine gx_met (by decide) (Nat.le_of_ble_eq_true rfl) ?_
  intro p e s m args below meth c ls C hW hl
  have hx := C.1
  have hb := C.2.1
  have hl : lv_has ls 1 [(0, va_rf (some x0))] := hl
  unfold wX11_takes at hw
  refine gx_aload_n hx hb dX11_takes_0 rfl (lv_at hl 0 rfl) ?_
  refine gx_getI C hW F11_153 (k := 746) rfl t0 rfl dX11_takes_1 ?_
  refine lv_if_ne (tgt := 14) hx hb dX11_takes_4 (by decide) (fun c1 => ?_) (fun c1 => ?_)
  · have hw := w_f hw c1
    refine gx_aload_n hx hb dX11_takes_14 rfl (lv_at hl 0 rfl) ?_
    refine lv_dup hx hb dX11_takes_15 (va_rf_cat _) ?_
    refine gx_getI C hW F11_153 (k := 746) rfl t0 rfl dX11_takes_16 ?_
    refine lv_iconst (v := 1) hx hb dX11_takes_19 (by decide) ?_
    refine lv_isub hx hb dX11_takes_20 ?_
    refine gx_putI (k := 746) C hW F11_153 (Or.inl rfl) rfl t0 rfl rfl rfl dX11_takes_21 (fun H locs S2 eS2 hW hm => ?_)
    have hw := hw S2 eS2
    have t0 := hm _ _ t0
    refine gx_aload_n hx hb dX11_takes_24 rfl (lv_at hl 0 rfl) ?_
    refine lv_dup hx hb dX11_takes_25 (va_rf_cat _) ?_
    refine gx_getI C hW F11_150 (k := 747) rfl t0 rfl dX11_takes_26 ?_
    refine lv_iconst (v := 1) hx hb dX11_takes_29 (by decide) ?_
    refine lv_iadd hx hb dX11_takes_30 ?_
    refine gx_putI (k := 747) C hW F11_150 (Or.inl rfl) rfl t0 rfl rfl rfl dX11_takes_31 (fun H locs S3 eS3 hW hm => ?_)
    have hw := hw S3 eS3
    have t0 := hm _ _ t0
    refine lv_iconst (v := 1) hx hb dX11_takes_34 (by decide) ?_
    exact gx_iret C hW (Nat.le_of_ble_eq_true rfl) (Nat.le_of_ble_eq_true rfl) rfl hw dX11_takes_35
  · have hw := w_t hw c1
    refine gx_aload_n hx hb dX11_takes_7 rfl (lv_at hl 0 rfl) ?_
    refine lv_iconst (v := 3) hx hb dX11_takes_8 (by decide) ?_
    refine gx_cv (gx_rV C hW M11_181 (mX11_stop l D cy _ _ _ _ t0 hw) rfl rfl ⟨Nat.le_of_ble_eq_true rfl, Nat.le_of_ble_eq_true rfl⟩ rfl t0 (by decide) rfl rfl hl.1 rfl (gx_room0 (n := 4) (Nat.le_of_ble_eq_true rfl)) dX11_takes_9 ⟨Nat.le_of_ble_eq_true rfl, Nat.le_of_ble_eq_true rfl⟩) hW (fun S5 H locs hW hm hw => ?_)
    have t0 := hm _ _ t0
    refine lv_iconst (v := 0) hx hb dX11_takes_12 (by decide) ?_
    exact gx_iret C hW (Nat.le_of_ble_eq_true rfl) (Nat.le_of_ble_eq_true rfl) rfl hw dX11_takes_13
/-! TrialStairModel.looks -/
def wX11_looks (x0 : Nat) (x1 : Int32) (S0 : Sg) (Q : Sg → Prop) : Prop := ∃ a1 : Nat, (fR S0 705 x0) = some a1 ∧ tg S0 a1 = 13 ∧ vp_in x1 (ln S0 a1) ∧ ∀ y3 : Int32, y3 = ((aI S0 a1 (x1).toNatClampNeg) &&& (7 : Int32)) → ∃ a4 : Nat, (fR S0 717 x0) = some a4 ∧ tg S0 a4 = 14 ∧ vp_in y3 (ln S0 a4) ∧ (if (lg_cmp (aL S0 a4 (y3).toNatClampNeg) (0 : Int64)) ≤ 0 then ∀ S7 : Sg, S7 = sFI S0 737 x0 ((fI S0 737 x0) - (1 : Int32)) → ∃ a8 : Nat, (fR S7 712 x0) = some a8 ∧ tg S7 a8 = 13 ∧ vp_in x1 (ln S7 a8) ∧ ∀ S10 : Sg, S10 = sFI S7 738 x0 (aI S7 a8 (x1).toNatClampNeg) → Q S10 else vp_in y3 (ln S0 a4) ∧ vp_in y3 (ln S0 a4) ∧ ∀ S13 : Sg, S13 = sAL S0 a4 (y3).toNatClampNeg ((aL S0 a4 (y3).toNatClampNeg) - (1 : Int64)) → ∀ S14 : Sg, S14 = sFI S13 738 x0 (x1 + (1 : Int32)) → Q S14)
set_option maxHeartbeats 4000000 in
set_option maxRecDepth 100000 in
theorem mX11_looks (l : Launch) (D : va_G) (cy : Nat → ClassId) (x0 : Nat) (x1 : Int32) (S0 : Sg) (Q : Sg → Prop) (t0 : tg S0 x0 = 12) (hw : wX11_looks x0 x1 S0 Q) : Met l yX11_looks (.code yX11_looks cX11_looks 3 none :: wsL_law) { frames := 0, cells := 0, slots := 0, locals := 0 } (gPc D cy [va_rf (some x0), .int x1] S0) (va_Qv Q (gB D cy S0) (gA S0)) 0 0 (gA S0) := by
  refine gx_met (by decide) (Nat.le_of_ble_eq_true rfl) ?_
  intro p e s m args below meth c ls C hW hl
  have hx := C.1
  have hb := C.2.1
  have hl : lv_has ls 3 [(0, va_rf (some x0)), (1, .int x1)] := hl
  unfold wX11_looks at hw
  refine gx_aload_n hx hb dX11_looks_0 rfl (lv_at hl 0 rfl) ?_
  refine gx_getR C hW F11_13 (k := 705) rfl t0 rfl dX11_looks_1 ?_
  refine lv_iload_n hx hb dX11_looks_4 rfl (lv_at hl 1 rfl) ?_
  obtain ⟨a1, ha1, ta1, hw⟩ := hw
  obtain ⟨i2, hw⟩ := hw
  refine gx_iald C hW ha1 ta1 i2 dX11_looks_5 ?_
  refine lv_bipush (v := 7) hx hb dX11_looks_6 (by decide) ?_
  refine lv_iand hx hb dX11_looks_8 ?_
  refine lv_topi (fun y3 ey3 => ?_)
  have hw := hw y3 ey3
  refine lv_istore_n (i := 2) (lv' := [(2, .int y3), (0, va_rf (some x0)), (1, .int x1)]) hx hb dX11_looks_9 rfl hl (by decide) rfl (fun ls hl => ?_)
  refine gx_aload_n hx hb dX11_looks_10 rfl (lv_at hl 1 rfl) ?_
  refine gx_getR C hW F11_43 (k := 717) rfl t0 rfl dX11_looks_11 ?_
  refine lv_iload_n hx hb dX11_looks_14 rfl (lv_at hl 0 rfl) ?_
  obtain ⟨a4, ha4, ta4, hw⟩ := hw
  obtain ⟨i5, hw⟩ := hw
  refine gx_lald C hW ha4 ta4 i5 dX11_looks_15 ?_
  refine lv_lconst (v := 0) hx hb dX11_looks_16 (by decide) ?_
  refine W.lcmp hx hb dX11_looks_17 ?_
  refine lv_if_le (tgt := 39) hx hb dX11_looks_18 (by decide) (fun c6 => ?_) (fun c6 => ?_)
  · have hw := w_t hw c6
    refine gx_aload_n hx hb dX11_looks_39 rfl (lv_at hl 1 rfl) ?_
    refine lv_dup hx hb dX11_looks_40 (va_rf_cat _) ?_
    refine gx_getI C hW F11_156 (k := 737) rfl t0 rfl dX11_looks_41 ?_
    refine lv_iconst (v := 1) hx hb dX11_looks_44 (by decide) ?_
    refine lv_isub hx hb dX11_looks_45 ?_
    refine gx_putI (k := 737) C hW F11_156 (Or.inl rfl) rfl t0 rfl rfl rfl dX11_looks_46 (fun H locs S7 eS7 hW hm => ?_)
    have hw := hw S7 eS7
    have t0 := hm _ _ t0
    have ta1 := hm _ _ ta1
    have ta4 := hm _ _ ta4
    refine gx_aload_n hx hb dX11_looks_49 rfl (lv_at hl 1 rfl) ?_
    refine gx_aload_n hx hb dX11_looks_50 rfl (lv_at hl 1 rfl) ?_
    refine gx_getR C hW F11_31 (k := 712) rfl t0 rfl dX11_looks_51 ?_
    refine lv_iload_n hx hb dX11_looks_54 rfl (lv_at hl 2 rfl) ?_
    obtain ⟨a8, ha8, ta8, hw⟩ := hw
    obtain ⟨i9, hw⟩ := hw
    refine gx_iald C hW ha8 ta8 i9 dX11_looks_55 ?_
    refine gx_putI (k := 738) C hW F11_187 (Or.inl rfl) rfl t0 rfl rfl rfl dX11_looks_56 (fun H locs S10 eS10 hW hm => ?_)
    have hw := hw S10 eS10
    have t0 := hm _ _ t0
    have ta1 := hm _ _ ta1
    have ta4 := hm _ _ ta4
    have ta8 := hm _ _ ta8
    exact gx_vret C hW (Nat.le_of_ble_eq_true rfl) (Nat.le_of_ble_eq_true rfl) hw dX11_looks_59
  · have hw := w_f hw c6
    refine gx_aload_n hx hb dX11_looks_21 rfl (lv_at hl 1 rfl) ?_
    refine gx_getR C hW F11_43 (k := 717) rfl t0 rfl dX11_looks_22 ?_
    refine lv_iload_n hx hb dX11_looks_25 rfl (lv_at hl 0 rfl) ?_
    refine lv_dup2_11 hx hb dX11_looks_26 rfl (va_rf_cat _) ?_
    obtain ⟨i11, hw⟩ := hw
    refine gx_lald C hW ha4 ta4 i11 dX11_looks_27 ?_
    refine lv_lconst (v := 1) hx hb dX11_looks_28 (by decide) ?_
    refine lv_lsub hx hb dX11_looks_29 ?_
    obtain ⟨i12, hw⟩ := hw
    refine gx_last C hW ha4 ta4 i12 dX11_looks_30 (fun H locs S13 eS13 hW hm => ?_)
    have hw := hw S13 eS13
    have t0 := hm _ _ t0
    have ta1 := hm _ _ ta1
    have ta4 := hm _ _ ta4
    refine gx_aload_n hx hb dX11_looks_31 rfl (lv_at hl 1 rfl) ?_
    refine lv_iload_n hx hb dX11_looks_32 rfl (lv_at hl 2 rfl) ?_
    refine lv_iconst (v := 1) hx hb dX11_looks_33 (by decide) ?_
    refine lv_iadd hx hb dX11_looks_34 ?_
    refine gx_putI (k := 738) C hW F11_187 (Or.inl rfl) rfl t0 rfl rfl rfl dX11_looks_35 (fun H locs S14 eS14 hW hm => ?_)
    have hw := hw S14 eS14
    have t0 := hm _ _ t0
    have ta1 := hm _ _ ta1
    have ta4 := hm _ _ ta4
    exact gx_vret C hW (Nat.le_of_ble_eq_true rfl) (Nat.le_of_ble_eq_true rfl) hw dX11_looks_38
/-! TrialStairModel.comesOfLoop -/
def wX11_comesOfLoop (x0 : Nat) (x1 : Int32) (S0 : Sg) (Q : Int32 → Sg → Prop) : Prop := ∃ a1 : Nat, (fR S0 730 x0) = some a1 ∧ tg S0 a1 = 13 ∧ vp_in x1 (ln S0 a1) ∧ ∀ y3 : Int32, y3 = (aI S0 a1 (x1).toNatClampNeg) → (if (fI S0 740 x0) = 0 then wX11_takes x0  S0 (fun (r5 : Int32) (S6 : Sg) => (if r5 = 0 then Q (0 : Int32) S6 else wX11_looks x0 y3 S6 (fun (S9 : Sg) => Q (0 : Int32) S9))) else (if (fI S0 740 x0) = (4 : Int32) then wX11_takes x0  S0 (fun (r19 : Int32) (S20 : Sg) => (if r19 = 0 then Q (0 : Int32) S20 else wX11_looks x0 y3 S20 (fun (S23 : Sg) => Q (0 : Int32) S23))) else (if (fI S0 740 x0) = (3 : Int32) then ∀ S15 : Sg, S15 = sFI S0 740 x0 (0 : Int32) → wX11_over x0 x1 S15 (fun (r16 : Int32) (S17 : Sg) => (r16 = 0 ∨ r16 = 1) ∧ Q r16 S17) else wX11_over x0 x1 S0 (fun (r12 : Int32) (S13 : Sg) => (r12 = 0 ∨ r12 = 1) ∧ Q r12 S13))))
set_option maxHeartbeats 4000000 in
set_option maxRecDepth 100000 in
theorem mX11_comesOfLoop (l : Launch) (D : va_G) (cy : Nat → ClassId) (x0 : Nat) (x1 : Int32) (S0 : Sg) (Q : Int32 → Sg → Prop) (t0 : tg S0 x0 = 12) (hw : wX11_comesOfLoop x0 x1 S0 Q) : Met l yX11_comesOfLoop (.code yX11_comesOfLoop cX11_comesOfLoop 3 (some .boolean) :: wsL_law) { frames := 2, cells := 0, slots := 0, locals := 41 } (gPc D cy [va_rf (some x0), .int x1] S0) (va_Qi Q (gB D cy S0) (gA S0)) 0 0 (gA S0) := by
  refine gx_met (by decide) (Nat.le_of_ble_eq_true rfl) ?_
  intro p e s m args below meth c ls C hW hl
  have hx := C.1
  have hb := C.2.1
  have hl : lv_has ls 3 [(0, va_rf (some x0)), (1, .int x1)] := hl
  unfold wX11_comesOfLoop at hw
  refine gx_aload_n hx hb dX11_comesOfLoop_0 rfl (lv_at hl 0 rfl) ?_
  refine gx_getR C hW F11_72 (k := 730) rfl t0 rfl dX11_comesOfLoop_1 ?_
  refine lv_iload_n hx hb dX11_comesOfLoop_4 rfl (lv_at hl 1 rfl) ?_
  obtain ⟨a1, ha1, ta1, hw⟩ := hw
  obtain ⟨i2, hw⟩ := hw
  refine gx_iald C hW ha1 ta1 i2 dX11_comesOfLoop_5 ?_
  refine lv_topi (fun y3 ey3 => ?_)
  have hw := hw y3 ey3
  refine lv_istore_n (i := 2) (lv' := [(2, .int y3), (0, va_rf (some x0)), (1, .int x1)]) hx hb dX11_comesOfLoop_6 rfl hl (by decide) rfl (fun ls hl => ?_)
  refine gx_aload_n hx hb dX11_comesOfLoop_7 rfl (lv_at hl 1 rfl) ?_
  refine gx_getI C hW F11_194 (k := 740) rfl t0 rfl dX11_comesOfLoop_8 ?_
  refine lv_if_eq (tgt := 22) hx hb dX11_comesOfLoop_11 (by decide) (fun c4 => ?_) (fun c4 => ?_)
  · have hw := w_t hw c4
    refine gx_aload_n hx hb dX11_comesOfLoop_22 rfl (lv_at hl 1 rfl) ?_
    refine gx_ci (gx_rV C hW M11_200 (mX11_takes l D cy _ _ _ t0 hw) rfl rfl ⟨Nat.le_of_ble_eq_true rfl, Nat.le_of_ble_eq_true rfl⟩ rfl t0 (by decide) rfl rfl hl.1 rfl (gx_room0 (n := 4) (Nat.le_of_ble_eq_true rfl)) dX11_comesOfLoop_23 ⟨Nat.le_of_ble_eq_true rfl, Nat.le_of_ble_eq_true rfl⟩) hW (fun r5 S6 H locs hW hm hw => ?_)
    have t0 := hm _ _ t0
    have ta1 := hm _ _ ta1
    refine lv_if_eq (tgt := 34) hx hb dX11_comesOfLoop_26 (by decide) (fun c7 => ?_) (fun c7 => ?_)
    · have hw := w_t hw c7
      refine lv_iconst (v := 0) hx hb dX11_comesOfLoop_34 (by decide) ?_
      exact gx_iret C hW (Nat.le_of_ble_eq_true rfl) (Nat.le_of_ble_eq_true rfl) rfl hw dX11_comesOfLoop_35
    · have hw := w_f hw c7
      refine gx_aload_n hx hb dX11_comesOfLoop_29 rfl (lv_at hl 1 rfl) ?_
      refine lv_iload_n hx hb dX11_comesOfLoop_30 rfl (lv_at hl 0 rfl) ?_
      refine gx_cv (gx_rV C hW M11_235 (mX11_looks l D cy _ _ _ _ t0 hw) rfl rfl ⟨Nat.le_of_ble_eq_true rfl, Nat.le_of_ble_eq_true rfl⟩ rfl t0 (by decide) rfl rfl hl.1 rfl (gx_room0 (n := 4) (Nat.le_of_ble_eq_true rfl)) dX11_comesOfLoop_31 ⟨Nat.le_of_ble_eq_true rfl, Nat.le_of_ble_eq_true rfl⟩) hW (fun S9 H locs hW hm hw => ?_)
      have t0 := hm _ _ t0
      have ta1 := hm _ _ ta1
      refine lv_iconst (v := 0) hx hb dX11_comesOfLoop_34 (by decide) ?_
      exact gx_iret C hW (Nat.le_of_ble_eq_true rfl) (Nat.le_of_ble_eq_true rfl) rfl hw dX11_comesOfLoop_35
  · have hw := w_f hw c4
    refine gx_aload_n hx hb dX11_comesOfLoop_14 rfl (lv_at hl 1 rfl) ?_
    refine gx_getI C hW F11_194 (k := 740) rfl t0 rfl dX11_comesOfLoop_15 ?_
    refine lv_iconst (v := 4) hx hb dX11_comesOfLoop_18 (by decide) ?_
    refine lv_icmp_ne (tgt := 36) hx hb dX11_comesOfLoop_19 (by decide) (fun c10 => ?_) (fun c10 => ?_)
    · have hw := w_f hw c10
      refine gx_aload_n hx hb dX11_comesOfLoop_36 rfl (lv_at hl 1 rfl) ?_
      refine gx_getI C hW F11_194 (k := 740) rfl t0 rfl dX11_comesOfLoop_37 ?_
      refine lv_iconst (v := 3) hx hb dX11_comesOfLoop_40 (by decide) ?_
      refine lv_icmp_ne (tgt := 49) hx hb dX11_comesOfLoop_41 (by decide) (fun c11 => ?_) (fun c11 => ?_)
      · have hw := w_f hw c11
        refine gx_aload_n hx hb dX11_comesOfLoop_49 rfl (lv_at hl 1 rfl) ?_
        refine lv_iload_n hx hb dX11_comesOfLoop_50 rfl (lv_at hl 2 rfl) ?_
        refine gx_ci (gx_rV C hW M11_247 (mX11_over l D cy _ _ _ _ t0 hw) rfl rfl ⟨Nat.le_of_ble_eq_true rfl, Nat.le_of_ble_eq_true rfl⟩ rfl t0 (by decide) rfl rfl hl.1 rfl (gx_room0 (n := 4) (Nat.le_of_ble_eq_true rfl)) dX11_comesOfLoop_51 ⟨Nat.le_of_ble_eq_true rfl, Nat.le_of_ble_eq_true rfl⟩) hW (fun r12 S13 H locs hW hm hw => ?_)
        have t0 := hm _ _ t0
        have ta1 := hm _ _ ta1
        obtain ⟨z14, hw⟩ := hw
        exact gx_iret C hW (Nat.le_of_ble_eq_true rfl) (Nat.le_of_ble_eq_true rfl) (bz_n z14) hw dX11_comesOfLoop_54
      · have hw := w_t hw c11
        refine gx_aload_n hx hb dX11_comesOfLoop_44 rfl (lv_at hl 1 rfl) ?_
        refine lv_iconst (v := 0) hx hb dX11_comesOfLoop_45 (by decide) ?_
        refine gx_putI (k := 740) C hW F11_194 (Or.inl rfl) rfl t0 rfl rfl rfl dX11_comesOfLoop_46 (fun H locs S15 eS15 hW hm => ?_)
        have hw := hw S15 eS15
        have t0 := hm _ _ t0
        have ta1 := hm _ _ ta1
        refine gx_aload_n hx hb dX11_comesOfLoop_49 rfl (lv_at hl 1 rfl) ?_
        refine lv_iload_n hx hb dX11_comesOfLoop_50 rfl (lv_at hl 2 rfl) ?_
        refine gx_ci (gx_rV C hW M11_247 (mX11_over l D cy _ _ _ _ t0 hw) rfl rfl ⟨Nat.le_of_ble_eq_true rfl, Nat.le_of_ble_eq_true rfl⟩ rfl t0 (by decide) rfl rfl hl.1 rfl (gx_room0 (n := 4) (Nat.le_of_ble_eq_true rfl)) dX11_comesOfLoop_51 ⟨Nat.le_of_ble_eq_true rfl, Nat.le_of_ble_eq_true rfl⟩) hW (fun r16 S17 H locs hW hm hw => ?_)
        have t0 := hm _ _ t0
        have ta1 := hm _ _ ta1
        obtain ⟨z18, hw⟩ := hw
        exact gx_iret C hW (Nat.le_of_ble_eq_true rfl) (Nat.le_of_ble_eq_true rfl) (bz_n z18) hw dX11_comesOfLoop_54
    · have hw := w_t hw c10
      refine gx_aload_n hx hb dX11_comesOfLoop_22 rfl (lv_at hl 1 rfl) ?_
      refine gx_ci (gx_rV C hW M11_200 (mX11_takes l D cy _ _ _ t0 hw) rfl rfl ⟨Nat.le_of_ble_eq_true rfl, Nat.le_of_ble_eq_true rfl⟩ rfl t0 (by decide) rfl rfl hl.1 rfl (gx_room0 (n := 4) (Nat.le_of_ble_eq_true rfl)) dX11_comesOfLoop_23 ⟨Nat.le_of_ble_eq_true rfl, Nat.le_of_ble_eq_true rfl⟩) hW (fun r19 S20 H locs hW hm hw => ?_)
      have t0 := hm _ _ t0
      have ta1 := hm _ _ ta1
      refine lv_if_eq (tgt := 34) hx hb dX11_comesOfLoop_26 (by decide) (fun c21 => ?_) (fun c21 => ?_)
      · have hw := w_t hw c21
        refine lv_iconst (v := 0) hx hb dX11_comesOfLoop_34 (by decide) ?_
        exact gx_iret C hW (Nat.le_of_ble_eq_true rfl) (Nat.le_of_ble_eq_true rfl) rfl hw dX11_comesOfLoop_35
      · have hw := w_f hw c21
        refine gx_aload_n hx hb dX11_comesOfLoop_29 rfl (lv_at hl 1 rfl) ?_
        refine lv_iload_n hx hb dX11_comesOfLoop_30 rfl (lv_at hl 0 rfl) ?_
        refine gx_cv (gx_rV C hW M11_235 (mX11_looks l D cy _ _ _ _ t0 hw) rfl rfl ⟨Nat.le_of_ble_eq_true rfl, Nat.le_of_ble_eq_true rfl⟩ rfl t0 (by decide) rfl rfl hl.1 rfl (gx_room0 (n := 4) (Nat.le_of_ble_eq_true rfl)) dX11_comesOfLoop_31 ⟨Nat.le_of_ble_eq_true rfl, Nat.le_of_ble_eq_true rfl⟩) hW (fun S23 H locs hW hm hw => ?_)
        have t0 := hm _ _ t0
        have ta1 := hm _ _ ta1
        refine lv_iconst (v := 0) hx hb dX11_comesOfLoop_34 (by decide) ?_
        exact gx_iret C hW (Nat.le_of_ble_eq_true rfl) (Nat.le_of_ble_eq_true rfl) rfl hw dX11_comesOfLoop_35
/-! TrialStairModel.comes -/
def wX11_comes_b4 : Nat → (Nat) → (Int32) → (Int32) → Sg → (Sg → Prop) → Prop
  | 0, _, _, _, _, _ => False
  | fu + 1, x0, x1, x2, S, Q => (if (500 : Int32) ≤ x2 then Q S else (if x1 = 0 then Q S else ∀ y3 : Int32, y3 = ((fI S 737 x0) - (1 : Int32)) → ∃ a4 : Nat, (fR S 729 x0) = some a4 ∧ tg S a4 = 13 ∧ vp_in y3 (ln S a4) ∧ ∀ y6 : Int32, y6 = (aI S a4 (y3).toNatClampNeg) → (if y6 = 0 then wX11_comesOfRoutine x0 y3 S (fun (r19 : Int32) (S20 : Sg) => ∀ y21 : Int32, y21 = x2 + (1) → wX11_comes_b4 fu x0 r19 y21 S20 Q) else (if y6 = (1 : Int32) then wX11_comesOfTrial x0 y3 S (fun (r16 : Int32) (S17 : Sg) => ∀ y18 : Int32, y18 = x2 + (1) → wX11_comes_b4 fu x0 r16 y18 S17 Q) else (if y6 = (2 : Int32) then wX11_comesOfLoop x0 y3 S (fun (r13 : Int32) (S14 : Sg) => ∀ y15 : Int32, y15 = x2 + (1) → wX11_comes_b4 fu x0 r13 y15 S14 Q) else wX11_over x0 y3 S (fun (r10 : Int32) (S11 : Sg) => ∀ y12 : Int32, y12 = x2 + (1) → wX11_comes_b4 fu x0 r10 y12 S11 Q))))))
def wX11_comes (x0 : Nat) (S0 : Sg) (Q : Sg → Prop) : Prop := ∃ fu22 : Nat, wX11_comes_b4 fu22 x0 (1 : Int32) (0 : Int32) S0 Q
set_option maxHeartbeats 4000000 in
set_option maxRecDepth 100000 in
theorem kX11_comes_l4 {p : Program} {l : Launch} {e : Env} {s : State} {m : MethodId} {args : Array Value} {below : List Frame} {meth : Method} {c : Code} {D : va_G} {cy : Nat → ClassId} {S0 : Sg} (C : gC p s m args meth c D cy cX11_comes 5 yX11_comes.cls none yX11_comes.name) {x0 : Nat} {Q : Sg → Prop} : ∀ (fu : Nat) (x1 : Int32) (x2 : Int32) (S : Sg) (H : Heap) (locs : List Loc) (ls : Array Slot) (hW : gW D cy (gA S0) (tg S0) s.heap S H locs) (t0 : tg S x0 = 12) (hl : lv_has ls 5 [(0, va_rf (some x0)), (1, .int x1), (2, .int x2)]) (hw : wX11_comes_b4 fu x0 x1 x2 S Q), W p l e { frames := 3, cells := 0, slots := 0, locals := 63 } s m args below meth c H locs 0 0 (MQ below (va_Qv Q (gB D cy S0) (gA S0)) args s 0 0 (gA S0)) (F0 m 4 ls []) := by
  have hx := C.1
  have hb := C.2.1
  intro fu
  induction fu with
  | zero =>
    intro x1 x2 S H locs ls hW t0 hl hw
    unfold wX11_comes_b4 at hw
    exact hw.elim
  | succ fu ih =>
    intro x1 x2 S H locs ls hW t0 hl hw
    unfold wX11_comes_b4 at hw
    refine lv_iload_n hx hb dX11_comes_4 rfl (lv_at hl 2 rfl) ?_
    refine lv_sipush (v := 500) hx hb dX11_comes_5 (by decide) ?_
    refine lv_icmp_ge (tgt := 86) hx hb dX11_comes_8 (by decide) (fun c1 => ?_) (fun c1 => ?_)
    · have hw := w_t hw c1
      exact gx_vret C hW (Nat.le_of_ble_eq_true rfl) (Nat.le_of_ble_eq_true rfl) hw dX11_comes_86
    · have hw := w_f hw c1
      refine lv_iload_n hx hb dX11_comes_11 rfl (lv_at hl 1 rfl) ?_
      refine lv_if_eq (tgt := 86) hx hb dX11_comes_12 (by decide) (fun c2 => ?_) (fun c2 => ?_)
      · have hw := w_t hw c2
        exact gx_vret C hW (Nat.le_of_ble_eq_true rfl) (Nat.le_of_ble_eq_true rfl) hw dX11_comes_86
      · have hw := w_f hw c2
        refine gx_aload_n hx hb dX11_comes_15 rfl (lv_at hl 0 rfl) ?_
        refine gx_getI C hW F11_156 (k := 737) rfl t0 rfl dX11_comes_16 ?_
        refine lv_iconst (v := 1) hx hb dX11_comes_19 (by decide) ?_
        refine lv_isub hx hb dX11_comes_20 ?_
        refine lv_topi (fun y3 ey3 => ?_)
        have hw := hw y3 ey3
        refine lv_istore_n (i := 3) (lv' := [(3, .int y3), (0, va_rf (some x0)), (1, .int x1), (2, .int x2)]) hx hb dX11_comes_21 rfl hl (by decide) rfl (fun ls hl => ?_)
        refine gx_aload_n hx hb dX11_comes_22 rfl (lv_at hl 1 rfl) ?_
        refine gx_getR C hW F11_69 (k := 729) rfl t0 rfl dX11_comes_23 ?_
        refine lv_iload_n hx hb dX11_comes_26 rfl (lv_at hl 0 rfl) ?_
        obtain ⟨a4, ha4, ta4, hw⟩ := hw
        obtain ⟨i5, hw⟩ := hw
        refine gx_iald C hW ha4 ta4 i5 dX11_comes_27 ?_
        refine lv_topi (fun y6 ey6 => ?_)
        have hw := hw y6 ey6
        refine lv_istore (lv' := [(4, .int y6), (3, .int y3), (0, va_rf (some x0)), (1, .int x1), (2, .int x2)]) hx hb dX11_comes_28 hl (by decide) rfl (fun ls hl => ?_)
        refine lv_iload hx hb dX11_comes_30 (lv_at hl 0 rfl) ?_
        refine lv_if_ne (tgt := 44) hx hb dX11_comes_32 (by decide) (fun c7 => ?_) (fun c7 => ?_)
        · have hw := w_f hw c7
          refine lv_iload hx hb dX11_comes_44 (lv_at hl 0 rfl) ?_
          refine lv_iconst (v := 1) hx hb dX11_comes_46 (by decide) ?_
          refine lv_icmp_ne (tgt := 59) hx hb dX11_comes_47 (by decide) (fun c8 => ?_) (fun c8 => ?_)
          · have hw := w_f hw c8
            refine lv_iload hx hb dX11_comes_59 (lv_at hl 0 rfl) ?_
            refine lv_iconst (v := 2) hx hb dX11_comes_61 (by decide) ?_
            refine lv_icmp_ne (tgt := 74) hx hb dX11_comes_62 (by decide) (fun c9 => ?_) (fun c9 => ?_)
            · have hw := w_f hw c9
              refine gx_aload_n hx hb dX11_comes_74 rfl (lv_at hl 2 rfl) ?_
              refine lv_iload_n hx hb dX11_comes_75 rfl (lv_at hl 1 rfl) ?_
              refine gx_ci (gx_rV C hW M11_247 (mX11_over l D cy _ _ _ _ t0 hw) rfl rfl ⟨Nat.le_of_ble_eq_true rfl, Nat.le_of_ble_eq_true rfl⟩ rfl t0 (by decide) rfl rfl hl.1 rfl (gx_room0 (n := 4) (Nat.le_of_ble_eq_true rfl)) dX11_comes_76 ⟨Nat.le_of_ble_eq_true rfl, Nat.le_of_ble_eq_true rfl⟩) hW (fun r10 S11 H locs hW hm hw => ?_)
              have t0 := hm _ _ t0
              have ta4 := hm _ _ ta4
              refine lv_istore_n (i := 1) (lv' := [(1, .int r10), (4, .int y6), (3, .int y3), (0, va_rf (some x0)), (2, .int x2)]) hx hb dX11_comes_79 rfl hl (by decide) rfl (fun ls hl => ?_)
              obtain ⟨y12, ey12⟩ : ∃ z : Int32, z = x2 + (1) := ⟨_, rfl⟩
              have hw := hw y12 ey12
              refine lv_iinc (v := y12) (lv' := [(2, .int y12), (1, .int r10), (4, .int y6), (3, .int y3), (0, va_rf (some x0))]) hx hb dX11_comes_80 hl (k := 4) rfl (by rw [ey12]; rfl) (by decide) rfl (fun ls hl => ?_)
              refine lv_goto (tgt := 4) hx hb dX11_comes_83 (by decide) ?_
              exact ih _ _ _ _ _ _ hW t0 (lv_sub hl [4, 1, 0] rfl) hw
            · have hw := w_t hw c9
              refine gx_aload_n hx hb dX11_comes_65 rfl (lv_at hl 2 rfl) ?_
              refine lv_iload_n hx hb dX11_comes_66 rfl (lv_at hl 1 rfl) ?_
              refine gx_ci (gx_rV C hW M11_244 (mX11_comesOfLoop l D cy _ _ _ _ t0 hw) rfl rfl ⟨Nat.le_of_ble_eq_true rfl, Nat.le_of_ble_eq_true rfl⟩ rfl t0 (by decide) rfl rfl hl.1 rfl (gx_room0 (n := 4) (Nat.le_of_ble_eq_true rfl)) dX11_comes_67 ⟨Nat.le_of_ble_eq_true rfl, Nat.le_of_ble_eq_true rfl⟩) hW (fun r13 S14 H locs hW hm hw => ?_)
              have t0 := hm _ _ t0
              have ta4 := hm _ _ ta4
              refine lv_istore_n (i := 1) (lv' := [(1, .int r13), (4, .int y6), (3, .int y3), (0, va_rf (some x0)), (2, .int x2)]) hx hb dX11_comes_70 rfl hl (by decide) rfl (fun ls hl => ?_)
              refine lv_goto (tgt := 80) hx hb dX11_comes_71 (by decide) ?_
              obtain ⟨y15, ey15⟩ : ∃ z : Int32, z = x2 + (1) := ⟨_, rfl⟩
              have hw := hw y15 ey15
              refine lv_iinc (v := y15) (lv' := [(2, .int y15), (1, .int r13), (4, .int y6), (3, .int y3), (0, va_rf (some x0))]) hx hb dX11_comes_80 hl (k := 4) rfl (by rw [ey15]; rfl) (by decide) rfl (fun ls hl => ?_)
              refine lv_goto (tgt := 4) hx hb dX11_comes_83 (by decide) ?_
              exact ih _ _ _ _ _ _ hW t0 (lv_sub hl [4, 1, 0] rfl) hw
          · have hw := w_t hw c8
            refine gx_aload_n hx hb dX11_comes_50 rfl (lv_at hl 2 rfl) ?_
            refine lv_iload_n hx hb dX11_comes_51 rfl (lv_at hl 1 rfl) ?_
            refine gx_ci (gx_rV C hW M11_241 (mX11_comesOfTrial l D cy _ _ _ _ t0 hw) rfl rfl ⟨Nat.le_of_ble_eq_true rfl, Nat.le_of_ble_eq_true rfl⟩ rfl t0 (by decide) rfl rfl hl.1 rfl (gx_room0 (n := 4) (Nat.le_of_ble_eq_true rfl)) dX11_comes_52 ⟨Nat.le_of_ble_eq_true rfl, Nat.le_of_ble_eq_true rfl⟩) hW (fun r16 S17 H locs hW hm hw => ?_)
            have t0 := hm _ _ t0
            have ta4 := hm _ _ ta4
            refine lv_istore_n (i := 1) (lv' := [(1, .int r16), (4, .int y6), (3, .int y3), (0, va_rf (some x0)), (2, .int x2)]) hx hb dX11_comes_55 rfl hl (by decide) rfl (fun ls hl => ?_)
            refine lv_goto (tgt := 80) hx hb dX11_comes_56 (by decide) ?_
            obtain ⟨y18, ey18⟩ : ∃ z : Int32, z = x2 + (1) := ⟨_, rfl⟩
            have hw := hw y18 ey18
            refine lv_iinc (v := y18) (lv' := [(2, .int y18), (1, .int r16), (4, .int y6), (3, .int y3), (0, va_rf (some x0))]) hx hb dX11_comes_80 hl (k := 4) rfl (by rw [ey18]; rfl) (by decide) rfl (fun ls hl => ?_)
            refine lv_goto (tgt := 4) hx hb dX11_comes_83 (by decide) ?_
            exact ih _ _ _ _ _ _ hW t0 (lv_sub hl [4, 1, 0] rfl) hw
        · have hw := w_t hw c7
          refine gx_aload_n hx hb dX11_comes_35 rfl (lv_at hl 2 rfl) ?_
          refine lv_iload_n hx hb dX11_comes_36 rfl (lv_at hl 1 rfl) ?_
          refine gx_ci (gx_rV C hW M11_238 (mX11_comesOfRoutine l D cy _ _ _ _ t0 hw) rfl rfl ⟨Nat.le_of_ble_eq_true rfl, Nat.le_of_ble_eq_true rfl⟩ rfl t0 (by decide) rfl rfl hl.1 rfl (gx_room0 (n := 4) (Nat.le_of_ble_eq_true rfl)) dX11_comes_37 ⟨Nat.le_of_ble_eq_true rfl, Nat.le_of_ble_eq_true rfl⟩) hW (fun r19 S20 H locs hW hm hw => ?_)
          have t0 := hm _ _ t0
          have ta4 := hm _ _ ta4
          refine lv_istore_n (i := 1) (lv' := [(1, .int r19), (4, .int y6), (3, .int y3), (0, va_rf (some x0)), (2, .int x2)]) hx hb dX11_comes_40 rfl hl (by decide) rfl (fun ls hl => ?_)
          refine lv_goto (tgt := 80) hx hb dX11_comes_41 (by decide) ?_
          obtain ⟨y21, ey21⟩ : ∃ z : Int32, z = x2 + (1) := ⟨_, rfl⟩
          have hw := hw y21 ey21
          refine lv_iinc (v := y21) (lv' := [(2, .int y21), (1, .int r19), (4, .int y6), (3, .int y3), (0, va_rf (some x0))]) hx hb dX11_comes_80 hl (k := 4) rfl (by rw [ey21]; rfl) (by decide) rfl (fun ls hl => ?_)
          refine lv_goto (tgt := 4) hx hb dX11_comes_83 (by decide) ?_
          exact ih _ _ _ _ _ _ hW t0 (lv_sub hl [4, 1, 0] rfl) hw
theorem kX11_comes_b4 {p : Program} {l : Launch} {e : Env} {s : State} {m : MethodId} {args : Array Value} {below : List Frame} {meth : Method} {c : Code} {D : va_G} {cy : Nat → ClassId} {S0 : Sg} (C : gC p s m args meth c D cy cX11_comes 5 yX11_comes.cls none yX11_comes.name) {H : Heap} {locs : List Loc} {ls : Array Slot} {x0 : Nat} {x1 : Int32} {x2 : Int32} {S : Sg} {Q : Sg → Prop} (fu : Nat) (hW : gW D cy (gA S0) (tg S0) s.heap S H locs) (t0 : tg S x0 = 12) (hl : lv_has ls 5 [(0, va_rf (some x0)), (1, .int x1), (2, .int x2)]) (hw : wX11_comes_b4 fu x0 x1 x2 S Q) : W p l e { frames := 3, cells := 0, slots := 0, locals := 63 } s m args below meth c H locs 0 0 (MQ below (va_Qv Q (gB D cy S0) (gA S0)) args s 0 0 (gA S0)) (F0 m 4 ls []) := kX11_comes_l4 C fu _ _ _ _ _ _ hW t0 hl hw
set_option maxHeartbeats 4000000 in
set_option maxRecDepth 100000 in
theorem mX11_comes (l : Launch) (D : va_G) (cy : Nat → ClassId) (x0 : Nat) (S0 : Sg) (Q : Sg → Prop) (t0 : tg S0 x0 = 12) (hw : wX11_comes x0 S0 Q) : Met l yX11_comes (.code yX11_comes cX11_comes 5 none :: wsL_law) { frames := 3, cells := 0, slots := 0, locals := 63 } (gPc D cy [va_rf (some x0)] S0) (va_Qv Q (gB D cy S0) (gA S0)) 0 0 (gA S0) := by
  refine gx_met (by decide) (Nat.le_of_ble_eq_true rfl) ?_
  intro p e s m args below meth c ls C hW hl
  have hx := C.1
  have hb := C.2.1
  have hl : lv_has ls 5 [(0, va_rf (some x0))] := hl
  unfold wX11_comes at hw
  refine lv_iconst (v := 1) hx hb dX11_comes_0 (by decide) ?_
  refine lv_istore_n (i := 1) (lv' := [(1, .int (1 : Int32)), (0, va_rf (some x0))]) hx hb dX11_comes_1 rfl hl (by decide) rfl (fun ls hl => ?_)
  refine lv_iconst (v := 0) hx hb dX11_comes_2 (by decide) ?_
  refine lv_istore_n (i := 2) (lv' := [(2, .int (0 : Int32)), (1, .int (1 : Int32)), (0, va_rf (some x0))]) hx hb dX11_comes_3 rfl hl (by decide) rfl (fun ls hl => ?_)
  obtain ⟨fu22, hw⟩ := hw
  exact kX11_comes_b4 C fu22 hW t0 (lv_sub hl [2, 1, 0] rfl) hw
/-! TrialStairModel.divides -/
def wX11_divides_b27 (x0 : Nat) (x1 : Int32) (x2 : Int32) (x3 : Int64) (x5 : Int64) (q0 : Int64) (S : Sg) (Q : Int32 → Sg → Prop) : Prop := ∃ a4 : Nat, (fR S 704 x0) = some a4 ∧ tg S a4 = 13 ∧ vp_in x1 (ln S a4) ∧ (if (aI S a4 (x1).toNatClampNeg) = (5 : Int32) then ∃ a10 : Nat, (fR S 717 x0) = some a10 ∧ tg S a10 = 14 ∧ vp_in x2 (ln S a10) ∧ ∀ S12 : Sg, S12 = sAL S a10 (x2).toNatClampNeg q0 → Q (0 : Int32) S12 else ∃ a7 : Nat, (fR S 717 x0) = some a7 ∧ tg S a7 = 14 ∧ vp_in x2 (ln S a7) ∧ ∀ S9 : Sg, S9 = sAL S a7 (x2).toNatClampNeg (x3 - (q0 * x5)) → Q (0 : Int32) S9)
def wX11_divides (x0 : Nat) (x1 : Int32) (x2 : Int32) (x3 : Int64) (x5 : Int64) (S0 : Sg) (Q : Int32 → Sg → Prop) : Prop := (if (lg_cmp x5 (0 : Int64)) = 0 then Q (5 : Int32) S0 else (if (lg_cmp x5 (-1 : Int64)) = 0 then wX11_divides_b27 x0 x1 x2 x3 x5 (-x3) S0 Q else ¬ x5 = 0 ∧ wX11_divides_b27 x0 x1 x2 x3 x5 (x3 / x5) S0 Q))
set_option maxHeartbeats 4000000 in
set_option maxRecDepth 100000 in
theorem kX11_divides_b27 {p : Program} {l : Launch} {e : Env} {s : State} {m : MethodId} {args : Array Value} {below : List Frame} {meth : Method} {c : Code} {D : va_G} {cy : Nat → ClassId} {S0 : Sg} (C : gC p s m args meth c D cy cX11_divides 9 yX11_divides.cls (some .int) yX11_divides.name) {H : Heap} {locs : List Loc} {ls : Array Slot} {x0 : Nat} {x1 : Int32} {x2 : Int32} {x3 : Int64} {x5 : Int64} {q0 : Int64} {S : Sg} {Q : Int32 → Sg → Prop} (hW : gW D cy (gA S0) (tg S0) s.heap S H locs) (t0 : tg S x0 = 12) (hl : lv_has ls 9 [(0, va_rf (some x0)), (1, .int x1), (2, .int x2), (3, .long x3), (5, .long x5)]) (hw : wX11_divides_b27 x0 x1 x2 x3 x5 q0 S Q) : W p l e { frames := 0, cells := 0, slots := 0, locals := 0 } s m args below meth c H locs 0 0 (MQ below (va_Qi Q (gB D cy S0) (gA S0)) args s 0 0 (gA S0)) (F0 m 27 ls [.long q0]) := by
  have hx := C.1
  have hb := C.2.1
  unfold wX11_divides_b27 at hw
  refine lv_lstore (lv' := [(7, .long q0), (0, va_rf (some x0)), (1, .int x1), (2, .int x2), (3, .long x3), (5, .long x5)]) hx hb dX11_divides_27 hl (by decide) rfl (fun ls hl => ?_)
  refine gx_aload_n hx hb dX11_divides_29 rfl (lv_at hl 1 rfl) ?_
  refine gx_getR C hW F11_43 (k := 717) rfl t0 rfl dX11_divides_30 ?_
  refine lv_iload_n hx hb dX11_divides_33 rfl (lv_at hl 3 rfl) ?_
  refine gx_aload_n hx hb dX11_divides_34 rfl (lv_at hl 1 rfl) ?_
  refine gx_getR C hW F11_7 (k := 704) rfl t0 rfl dX11_divides_35 ?_
  refine lv_iload_n hx hb dX11_divides_38 rfl (lv_at hl 2 rfl) ?_
  obtain ⟨a4, ha4, ta4, hw⟩ := hw
  obtain ⟨i5, hw⟩ := hw
  refine gx_iald C hW ha4 ta4 i5 dX11_divides_39 ?_
  refine lv_iconst (v := 5) hx hb dX11_divides_40 (by decide) ?_
  refine lv_icmp_ne (tgt := 49) hx hb dX11_divides_41 (by decide) (fun c6 => ?_) (fun c6 => ?_)
  · have hw := w_f hw c6
    refine lv_lload_n hx hb dX11_divides_49 rfl (lv_at hl 4 rfl) ?_
    refine lv_lload hx hb dX11_divides_50 (lv_at hl 0 rfl) ?_
    refine lv_lload hx hb dX11_divides_52 (lv_at hl 5 rfl) ?_
    refine lv_lmul hx hb dX11_divides_54 ?_
    refine lv_lsub hx hb dX11_divides_55 ?_
    obtain ⟨a7, ha7, ta7, hw⟩ := hw
    obtain ⟨i8, hw⟩ := hw
    refine gx_last C hW ha7 ta7 i8 dX11_divides_56 (fun H locs S9 eS9 hW hm => ?_)
    have hw := hw S9 eS9
    have t0 := hm _ _ t0
    have ta4 := hm _ _ ta4
    have ta7 := hm _ _ ta7
    refine lv_iconst (v := 0) hx hb dX11_divides_57 (by decide) ?_
    exact gx_iret C hW (Nat.le_of_ble_eq_true rfl) (Nat.le_of_ble_eq_true rfl) rfl hw dX11_divides_58
  · have hw := w_t hw c6
    refine lv_lload hx hb dX11_divides_44 (lv_at hl 0 rfl) ?_
    refine lv_goto (tgt := 56) hx hb dX11_divides_46 (by decide) ?_
    obtain ⟨a10, ha10, ta10, hw⟩ := hw
    obtain ⟨i11, hw⟩ := hw
    refine gx_last C hW ha10 ta10 i11 dX11_divides_56 (fun H locs S12 eS12 hW hm => ?_)
    have hw := hw S12 eS12
    have t0 := hm _ _ t0
    have ta4 := hm _ _ ta4
    have ta10 := hm _ _ ta10
    refine lv_iconst (v := 0) hx hb dX11_divides_57 (by decide) ?_
    exact gx_iret C hW (Nat.le_of_ble_eq_true rfl) (Nat.le_of_ble_eq_true rfl) rfl hw dX11_divides_58
set_option maxHeartbeats 4000000 in
set_option maxRecDepth 100000 in
theorem mX11_divides (l : Launch) (D : va_G) (cy : Nat → ClassId) (x0 : Nat) (x1 : Int32) (x2 : Int32) (x3 : Int64) (x5 : Int64) (S0 : Sg) (Q : Int32 → Sg → Prop) (t0 : tg S0 x0 = 12) (hw : wX11_divides x0 x1 x2 x3 x5 S0 Q) : Met l yX11_divides (.code yX11_divides cX11_divides 9 (some .int) :: wsL_law) { frames := 0, cells := 0, slots := 0, locals := 0 } (gPc D cy [va_rf (some x0), .int x1, .int x2, .long x3, .long x5] S0) (va_Qi Q (gB D cy S0) (gA S0)) 0 0 (gA S0) := by
  refine gx_met (by decide) (Nat.le_of_ble_eq_true rfl) ?_
  intro p e s m args below meth c ls C hW hl
  have hx := C.1
  have hb := C.2.1
  have hl : lv_has ls 9 [(0, va_rf (some x0)), (1, .int x1), (2, .int x2), (3, .long x3), (5, .long x5)] := hl
  unfold wX11_divides at hw
  refine lv_lload hx hb dX11_divides_0 (lv_at hl 4 rfl) ?_
  refine lv_lconst (v := 0) hx hb dX11_divides_2 (by decide) ?_
  refine W.lcmp hx hb dX11_divides_3 ?_
  refine lv_if_ne (tgt := 9) hx hb dX11_divides_4 (by decide) (fun c1 => ?_) (fun c1 => ?_)
  · have hw := w_f hw c1
    refine lv_lload hx hb dX11_divides_9 (lv_at hl 4 rfl) ?_
    refine lv_ldc2 (v := -1) hx hb C.2.2.2.1 (C.2.2.2.2.1 _ (List.mem_of_getElem? (i := 637) (by decide +kernel))) dX11_divides_11 ?_
    refine W.lcmp hx hb dX11_divides_14 ?_
    refine lv_if_ne (tgt := 23) hx hb dX11_divides_15 (by decide) (fun c2 => ?_) (fun c2 => ?_)
    · have hw := w_f hw c2
      refine lv_lload_n hx hb dX11_divides_23 rfl (lv_at hl 3 rfl) ?_
      refine lv_lload hx hb dX11_divides_24 (lv_at hl 4 rfl) ?_
      obtain ⟨n3, hw⟩ := hw
      refine lv_ldiv hx hb dX11_divides_26 n3 ?_
      exact kX11_divides_b27 C hW t0 (lv_sub hl [0, 1, 2, 3, 4] rfl) hw
    · have hw := w_t hw c2
      refine lv_lload_n hx hb dX11_divides_18 rfl (lv_at hl 3 rfl) ?_
      refine lv_lneg hx hb dX11_divides_19 ?_
      refine lv_goto (tgt := 27) hx hb dX11_divides_20 (by decide) ?_
      exact kX11_divides_b27 C hW t0 (lv_sub hl [0, 1, 2, 3, 4] rfl) hw
  · have hw := w_t hw c1
    refine lv_iconst (v := 5) hx hb dX11_divides_7 (by decide) ?_
    exact gx_iret C hW (Nat.le_of_ble_eq_true rfl) (Nat.le_of_ble_eq_true rfl) rfl hw dX11_divides_8
/-! TrialStairModel.reckons -/
def wX11_reckons (x0 : Nat) (x1 : Int32) (S0 : Sg) (Q : Int32 → Sg → Prop) : Prop := ∃ a1 : Nat, (fR S0 705 x0) = some a1 ∧ tg S0 a1 = 13 ∧ vp_in x1 (ln S0 a1) ∧ ∀ y3 : Int32, y3 = ((aI S0 a1 (x1).toNatClampNeg) &&& (7 : Int32)) → ∃ a4 : Nat, (fR S0 706 x0) = some a4 ∧ tg S0 a4 = 13 ∧ vp_in x1 (ln S0 a4) ∧ ∃ a6 : Nat, (fR S0 717 x0) = some a6 ∧ tg S0 a6 = 14 ∧ vp_in ((aI S0 a4 (x1).toNatClampNeg) &&& (7 : Int32)) (ln S0 a6) ∧ ∀ y8 : Int64, y8 = (aL S0 a6 (((aI S0 a4 (x1).toNatClampNeg) &&& (7 : Int32))).toNatClampNeg) → ∃ a9 : Nat, (fR S0 707 x0) = some a9 ∧ tg S0 a9 = 13 ∧ vp_in x1 (ln S0 a9) ∧ vp_in ((aI S0 a9 (x1).toNatClampNeg) &&& (7 : Int32)) (ln S0 a6) ∧ ∀ y12 : Int64, y12 = (aL S0 a6 (((aI S0 a9 (x1).toNatClampNeg) &&& (7 : Int32))).toNatClampNeg) → ∃ a13 : Nat, (fR S0 704 x0) = some a13 ∧ tg S0 a13 = 13 ∧ vp_in x1 (ln S0 a13) ∧ (if (aI S0 a13 (x1).toNatClampNeg) = 0 then (if (500 : Int32) ≤ (fI S0 754 x0) then Q (0 : Int32) S0 else vp_in y3 (ln S0 a6) ∧ ∃ a18 : Nat, (fR S0 753 x0) = some a18 ∧ tg S0 a18 = 14 ∧ vp_in (fI S0 754 x0) (ln S0 a18) ∧ ∀ S20 : Sg, S20 = sAL S0 a18 ((fI S0 754 x0)).toNatClampNeg (aL S0 a6 (y3).toNatClampNeg) → ∀ S21 : Sg, S21 = sFI S20 754 x0 ((fI S20 754 x0) + (1 : Int32)) → Q (0 : Int32) S21) else (if (aI S0 a13 (x1).toNatClampNeg) = 1 then vp_in x1 (ln S0 a4) ∧ vp_in y3 (ln S0 a6) ∧ ∀ S25 : Sg, S25 = sAL S0 a6 (y3).toNatClampNeg (((aI S0 a4 (x1).toNatClampNeg)).toInt64) → Q (0 : Int32) S25 else (if (aI S0 a13 (x1).toNatClampNeg) = 2 then vp_in y3 (ln S0 a6) ∧ ∀ S28 : Sg, S28 = sAL S0 a6 (y3).toNatClampNeg (y8 + y12) → Q (0 : Int32) S28 else (if (aI S0 a13 (x1).toNatClampNeg) = 3 then vp_in y3 (ln S0 a6) ∧ ∀ S31 : Sg, S31 = sAL S0 a6 (y3).toNatClampNeg (y8 - y12) → Q (0 : Int32) S31 else (if (aI S0 a13 (x1).toNatClampNeg) = 4 then vp_in y3 (ln S0 a6) ∧ ∀ S34 : Sg, S34 = sAL S0 a6 (y3).toNatClampNeg (y8 * y12) → Q (0 : Int32) S34 else wX11_divides x0 x1 y3 y8 y12 S0 (fun (r35 : Int32) (S36 : Sg) => Q r35 S36))))))
set_option maxHeartbeats 4000000 in
set_option maxRecDepth 100000 in
theorem mX11_reckons (l : Launch) (D : va_G) (cy : Nat → ClassId) (x0 : Nat) (x1 : Int32) (S0 : Sg) (Q : Int32 → Sg → Prop) (t0 : tg S0 x0 = 12) (hw : wX11_reckons x0 x1 S0 Q) : Met l yX11_reckons (.code yX11_reckons cX11_reckons 7 (some .int) :: wsL_law) { frames := 1, cells := 0, slots := 0, locals := 28 } (gPc D cy [va_rf (some x0), .int x1] S0) (va_Qi Q (gB D cy S0) (gA S0)) 0 0 (gA S0) := by
  refine gx_met (by decide) (Nat.le_of_ble_eq_true rfl) ?_
  intro p e s m args below meth c ls C hW hl
  have hx := C.1
  have hb := C.2.1
  have hl : lv_has ls 7 [(0, va_rf (some x0)), (1, .int x1)] := hl
  unfold wX11_reckons at hw
  refine gx_aload_n hx hb dX11_reckons_0 rfl (lv_at hl 0 rfl) ?_
  refine gx_getR C hW F11_13 (k := 705) rfl t0 rfl dX11_reckons_1 ?_
  refine lv_iload_n hx hb dX11_reckons_4 rfl (lv_at hl 1 rfl) ?_
  obtain ⟨a1, ha1, ta1, hw⟩ := hw
  obtain ⟨i2, hw⟩ := hw
  refine gx_iald C hW ha1 ta1 i2 dX11_reckons_5 ?_
  refine lv_bipush (v := 7) hx hb dX11_reckons_6 (by decide) ?_
  refine lv_iand hx hb dX11_reckons_8 ?_
  refine lv_topi (fun y3 ey3 => ?_)
  have hw := hw y3 ey3
  refine lv_istore_n (i := 2) (lv' := [(2, .int y3), (0, va_rf (some x0)), (1, .int x1)]) hx hb dX11_reckons_9 rfl hl (by decide) rfl (fun ls hl => ?_)
  refine gx_aload_n hx hb dX11_reckons_10 rfl (lv_at hl 1 rfl) ?_
  refine gx_getR C hW F11_43 (k := 717) rfl t0 rfl dX11_reckons_11 ?_
  refine gx_aload_n hx hb dX11_reckons_14 rfl (lv_at hl 1 rfl) ?_
  refine gx_getR C hW F11_16 (k := 706) rfl t0 rfl dX11_reckons_15 ?_
  refine lv_iload_n hx hb dX11_reckons_18 rfl (lv_at hl 2 rfl) ?_
  obtain ⟨a4, ha4, ta4, hw⟩ := hw
  obtain ⟨i5, hw⟩ := hw
  refine gx_iald C hW ha4 ta4 i5 dX11_reckons_19 ?_
  refine lv_bipush (v := 7) hx hb dX11_reckons_20 (by decide) ?_
  refine lv_iand hx hb dX11_reckons_22 ?_
  obtain ⟨a6, ha6, ta6, hw⟩ := hw
  obtain ⟨i7, hw⟩ := hw
  refine gx_lald C hW ha6 ta6 i7 dX11_reckons_23 ?_
  refine lv_topl (fun y8 ey8 => ?_)
  have hw := hw y8 ey8
  refine lv_lstore_n (i := 3) (lv' := [(3, .long y8), (2, .int y3), (0, va_rf (some x0)), (1, .int x1)]) hx hb dX11_reckons_24 rfl hl (by decide) rfl (fun ls hl => ?_)
  refine gx_aload_n hx hb dX11_reckons_25 rfl (lv_at hl 2 rfl) ?_
  refine gx_getR C hW F11_43 (k := 717) rfl t0 rfl dX11_reckons_26 ?_
  refine gx_aload_n hx hb dX11_reckons_29 rfl (lv_at hl 2 rfl) ?_
  refine gx_getR C hW F11_19 (k := 707) rfl t0 rfl dX11_reckons_30 ?_
  refine lv_iload_n hx hb dX11_reckons_33 rfl (lv_at hl 3 rfl) ?_
  obtain ⟨a9, ha9, ta9, hw⟩ := hw
  obtain ⟨i10, hw⟩ := hw
  refine gx_iald C hW ha9 ta9 i10 dX11_reckons_34 ?_
  refine lv_bipush (v := 7) hx hb dX11_reckons_35 (by decide) ?_
  refine lv_iand hx hb dX11_reckons_37 ?_
  obtain ⟨i11, hw⟩ := hw
  refine gx_lald C hW ha6 ta6 i11 dX11_reckons_38 ?_
  refine lv_topl (fun y12 ey12 => ?_)
  have hw := hw y12 ey12
  refine lv_lstore (lv' := [(5, .long y12), (3, .long y8), (2, .int y3), (0, va_rf (some x0)), (1, .int x1)]) hx hb dX11_reckons_39 hl (by decide) rfl (fun ls hl => ?_)
  refine gx_aload_n hx hb dX11_reckons_41 rfl (lv_at hl 3 rfl) ?_
  refine gx_getR C hW F11_7 (k := 704) rfl t0 rfl dX11_reckons_42 ?_
  refine lv_iload_n hx hb dX11_reckons_45 rfl (lv_at hl 4 rfl) ?_
  obtain ⟨a13, ha13, ta13, hw⟩ := hw
  obtain ⟨i14, hw⟩ := hw
  refine gx_iald C hW ha13 ta13 i14 dX11_reckons_46 ?_
  by_cases c15 : (aI S0 a13 (x1).toNatClampNeg) = (0 : Int32)
  · have hw := w_t hw c15
    refine lv_tableIn (off := 33) (tgt := 80) hx hb dX11_reckons_47 (by rw [c15]; decide) (by rw [c15]; decide) (by rw [c15]; rfl) (by decide) ?_
    refine gx_aload_n hx hb dX11_reckons_80 rfl (lv_at hl 3 rfl) ?_
    refine gx_getI C hW F11_162 (k := 754) rfl t0 rfl dX11_reckons_81 ?_
    refine lv_sipush (v := 500) hx hb dX11_reckons_84 (by decide) ?_
    refine lv_icmp_ge (tgt := 115) hx hb dX11_reckons_87 (by decide) (fun c16 => ?_) (fun c16 => ?_)
    · have hw := w_t hw c16
      refine lv_iconst (v := 0) hx hb dX11_reckons_115 (by decide) ?_
      exact gx_iret C hW (Nat.le_of_ble_eq_true rfl) (Nat.le_of_ble_eq_true rfl) rfl hw dX11_reckons_116
    · have hw := w_f hw c16
      refine gx_aload_n hx hb dX11_reckons_90 rfl (lv_at hl 3 rfl) ?_
      refine gx_getR C hW F11_103 (k := 753) rfl t0 rfl dX11_reckons_91 ?_
      refine gx_aload_n hx hb dX11_reckons_94 rfl (lv_at hl 3 rfl) ?_
      refine gx_getI C hW F11_162 (k := 754) rfl t0 rfl dX11_reckons_95 ?_
      refine gx_aload_n hx hb dX11_reckons_98 rfl (lv_at hl 3 rfl) ?_
      refine gx_getR C hW F11_43 (k := 717) rfl t0 rfl dX11_reckons_99 ?_
      refine lv_iload_n hx hb dX11_reckons_102 rfl (lv_at hl 2 rfl) ?_
      obtain ⟨i17, hw⟩ := hw
      refine gx_lald C hW ha6 ta6 i17 dX11_reckons_103 ?_
      obtain ⟨a18, ha18, ta18, hw⟩ := hw
      obtain ⟨i19, hw⟩ := hw
      refine gx_last C hW ha18 ta18 i19 dX11_reckons_104 (fun H locs S20 eS20 hW hm => ?_)
      have hw := hw S20 eS20
      have t0 := hm _ _ t0
      have ta1 := hm _ _ ta1
      have ta4 := hm _ _ ta4
      have ta6 := hm _ _ ta6
      have ta9 := hm _ _ ta9
      have ta13 := hm _ _ ta13
      have ta18 := hm _ _ ta18
      refine gx_aload_n hx hb dX11_reckons_105 rfl (lv_at hl 3 rfl) ?_
      refine lv_dup hx hb dX11_reckons_106 (va_rf_cat _) ?_
      refine gx_getI C hW F11_162 (k := 754) rfl t0 rfl dX11_reckons_107 ?_
      refine lv_iconst (v := 1) hx hb dX11_reckons_110 (by decide) ?_
      refine lv_iadd hx hb dX11_reckons_111 ?_
      refine gx_putI (k := 754) C hW F11_162 (Or.inl rfl) rfl t0 rfl rfl rfl dX11_reckons_112 (fun H locs S21 eS21 hW hm => ?_)
      have hw := hw S21 eS21
      have t0 := hm _ _ t0
      have ta1 := hm _ _ ta1
      have ta4 := hm _ _ ta4
      have ta6 := hm _ _ ta6
      have ta9 := hm _ _ ta9
      have ta13 := hm _ _ ta13
      have ta18 := hm _ _ ta18
      refine lv_iconst (v := 0) hx hb dX11_reckons_115 (by decide) ?_
      exact gx_iret C hW (Nat.le_of_ble_eq_true rfl) (Nat.le_of_ble_eq_true rfl) rfl hw dX11_reckons_116
  · have hw := w_f hw c15
    by_cases c22 : (aI S0 a13 (x1).toNatClampNeg) = (1 : Int32)
    · have hw := w_t hw c22
      refine lv_tableIn (off := 70) (tgt := 117) hx hb dX11_reckons_47 (by rw [c22]; decide) (by rw [c22]; decide) (by rw [c22]; rfl) (by decide) ?_
      refine gx_aload_n hx hb dX11_reckons_117 rfl (lv_at hl 3 rfl) ?_
      refine gx_getR C hW F11_43 (k := 717) rfl t0 rfl dX11_reckons_118 ?_
      refine lv_iload_n hx hb dX11_reckons_121 rfl (lv_at hl 2 rfl) ?_
      refine gx_aload_n hx hb dX11_reckons_122 rfl (lv_at hl 3 rfl) ?_
      refine gx_getR C hW F11_16 (k := 706) rfl t0 rfl dX11_reckons_123 ?_
      refine lv_iload_n hx hb dX11_reckons_126 rfl (lv_at hl 4 rfl) ?_
      obtain ⟨i23, hw⟩ := hw
      refine gx_iald C hW ha4 ta4 i23 dX11_reckons_127 ?_
      refine lv_i2l (v := _) hx hb dX11_reckons_128 rfl ?_
      obtain ⟨i24, hw⟩ := hw
      refine gx_last C hW ha6 ta6 i24 dX11_reckons_129 (fun H locs S25 eS25 hW hm => ?_)
      have hw := hw S25 eS25
      have t0 := hm _ _ t0
      have ta1 := hm _ _ ta1
      have ta4 := hm _ _ ta4
      have ta6 := hm _ _ ta6
      have ta9 := hm _ _ ta9
      have ta13 := hm _ _ ta13
      refine lv_iconst (v := 0) hx hb dX11_reckons_130 (by decide) ?_
      exact gx_iret C hW (Nat.le_of_ble_eq_true rfl) (Nat.le_of_ble_eq_true rfl) rfl hw dX11_reckons_131
    · have hw := w_f hw c22
      by_cases c26 : (aI S0 a13 (x1).toNatClampNeg) = (2 : Int32)
      · have hw := w_t hw c26
        refine lv_tableIn (off := 85) (tgt := 132) hx hb dX11_reckons_47 (by rw [c26]; decide) (by rw [c26]; decide) (by rw [c26]; rfl) (by decide) ?_
        refine gx_aload_n hx hb dX11_reckons_132 rfl (lv_at hl 3 rfl) ?_
        refine gx_getR C hW F11_43 (k := 717) rfl t0 rfl dX11_reckons_133 ?_
        refine lv_iload_n hx hb dX11_reckons_136 rfl (lv_at hl 2 rfl) ?_
        refine lv_lload_n hx hb dX11_reckons_137 rfl (lv_at hl 1 rfl) ?_
        refine lv_lload hx hb dX11_reckons_138 (lv_at hl 0 rfl) ?_
        refine lv_ladd hx hb dX11_reckons_140 ?_
        obtain ⟨i27, hw⟩ := hw
        refine gx_last C hW ha6 ta6 i27 dX11_reckons_141 (fun H locs S28 eS28 hW hm => ?_)
        have hw := hw S28 eS28
        have t0 := hm _ _ t0
        have ta1 := hm _ _ ta1
        have ta4 := hm _ _ ta4
        have ta6 := hm _ _ ta6
        have ta9 := hm _ _ ta9
        have ta13 := hm _ _ ta13
        refine lv_iconst (v := 0) hx hb dX11_reckons_142 (by decide) ?_
        exact gx_iret C hW (Nat.le_of_ble_eq_true rfl) (Nat.le_of_ble_eq_true rfl) rfl hw dX11_reckons_143
      · have hw := w_f hw c26
        by_cases c29 : (aI S0 a13 (x1).toNatClampNeg) = (3 : Int32)
        · have hw := w_t hw c29
          refine lv_tableIn (off := 97) (tgt := 144) hx hb dX11_reckons_47 (by rw [c29]; decide) (by rw [c29]; decide) (by rw [c29]; rfl) (by decide) ?_
          refine gx_aload_n hx hb dX11_reckons_144 rfl (lv_at hl 3 rfl) ?_
          refine gx_getR C hW F11_43 (k := 717) rfl t0 rfl dX11_reckons_145 ?_
          refine lv_iload_n hx hb dX11_reckons_148 rfl (lv_at hl 2 rfl) ?_
          refine lv_lload_n hx hb dX11_reckons_149 rfl (lv_at hl 1 rfl) ?_
          refine lv_lload hx hb dX11_reckons_150 (lv_at hl 0 rfl) ?_
          refine lv_lsub hx hb dX11_reckons_152 ?_
          obtain ⟨i30, hw⟩ := hw
          refine gx_last C hW ha6 ta6 i30 dX11_reckons_153 (fun H locs S31 eS31 hW hm => ?_)
          have hw := hw S31 eS31
          have t0 := hm _ _ t0
          have ta1 := hm _ _ ta1
          have ta4 := hm _ _ ta4
          have ta6 := hm _ _ ta6
          have ta9 := hm _ _ ta9
          have ta13 := hm _ _ ta13
          refine lv_iconst (v := 0) hx hb dX11_reckons_154 (by decide) ?_
          exact gx_iret C hW (Nat.le_of_ble_eq_true rfl) (Nat.le_of_ble_eq_true rfl) rfl hw dX11_reckons_155
        · have hw := w_f hw c29
          by_cases c32 : (aI S0 a13 (x1).toNatClampNeg) = (4 : Int32)
          · have hw := w_t hw c32
            refine lv_tableIn (off := 109) (tgt := 156) hx hb dX11_reckons_47 (by rw [c32]; decide) (by rw [c32]; decide) (by rw [c32]; rfl) (by decide) ?_
            refine gx_aload_n hx hb dX11_reckons_156 rfl (lv_at hl 3 rfl) ?_
            refine gx_getR C hW F11_43 (k := 717) rfl t0 rfl dX11_reckons_157 ?_
            refine lv_iload_n hx hb dX11_reckons_160 rfl (lv_at hl 2 rfl) ?_
            refine lv_lload_n hx hb dX11_reckons_161 rfl (lv_at hl 1 rfl) ?_
            refine lv_lload hx hb dX11_reckons_162 (lv_at hl 0 rfl) ?_
            refine lv_lmul hx hb dX11_reckons_164 ?_
            obtain ⟨i33, hw⟩ := hw
            refine gx_last C hW ha6 ta6 i33 dX11_reckons_165 (fun H locs S34 eS34 hW hm => ?_)
            have hw := hw S34 eS34
            have t0 := hm _ _ t0
            have ta1 := hm _ _ ta1
            have ta4 := hm _ _ ta4
            have ta6 := hm _ _ ta6
            have ta9 := hm _ _ ta9
            have ta13 := hm _ _ ta13
            refine lv_iconst (v := 0) hx hb dX11_reckons_166 (by decide) ?_
            exact gx_iret C hW (Nat.le_of_ble_eq_true rfl) (Nat.le_of_ble_eq_true rfl) rfl hw dX11_reckons_167
          · have hw := w_f hw c32
            refine gx_tdef (n := 5) (tgt := 168) hx hb dX11_reckons_47 (by decide) (by decide) (lt_s (lt_s (lt_s (lt_s (lt_s (lt_0) (fun hx9 => tb_ne c15 (by decide) hx9)) (fun hx9 => tb_ne c22 (by decide) hx9)) (fun hx9 => tb_ne c26 (by decide) hx9)) (fun hx9 => tb_ne c29 (by decide) hx9)) (fun hx9 => tb_ne c32 (by decide) hx9)) ?_
            refine gx_aload_n hx hb dX11_reckons_168 rfl (lv_at hl 3 rfl) ?_
            refine lv_iload_n hx hb dX11_reckons_169 rfl (lv_at hl 4 rfl) ?_
            refine lv_iload_n hx hb dX11_reckons_170 rfl (lv_at hl 2 rfl) ?_
            refine lv_lload_n hx hb dX11_reckons_171 rfl (lv_at hl 1 rfl) ?_
            refine lv_lload hx hb dX11_reckons_172 (lv_at hl 0 rfl) ?_
            refine gx_ci (gx_rV C hW M11_254 (mX11_divides l D cy _ _ _ _ _ _ _ t0 hw) rfl rfl ⟨Nat.le_of_ble_eq_true rfl, Nat.le_of_ble_eq_true rfl⟩ rfl t0 (by decide) rfl rfl hl.1 rfl (gx_room0 (n := 4) (Nat.le_of_ble_eq_true rfl)) dX11_reckons_174 ⟨Nat.le_of_ble_eq_true rfl, Nat.le_of_ble_eq_true rfl⟩) hW (fun r35 S36 H locs hW hm hw => ?_)
            have t0 := hm _ _ t0
            have ta1 := hm _ _ ta1
            have ta4 := hm _ _ ta4
            have ta6 := hm _ _ ta6
            have ta9 := hm _ _ ta9
            have ta13 := hm _ _ ta13
            exact gx_iret C hW (Nat.le_of_ble_eq_true rfl) (Nat.le_of_ble_eq_true rfl) rfl hw dX11_reckons_177
/-! TrialStairModel.intOf -/
def wX11_intOf (x0 : Nat) (x1 : Int32) (S0 : Sg) (Q : Int32 → Sg → Prop) : Prop := ∃ a1 : Nat, (fR S0 717 x0) = some a1 ∧ tg S0 a1 = 14 ∧ vp_in (x1 &&& (7 : Int32)) (ln S0 a1) ∧ Q (((aL S0 a1 ((x1 &&& (7 : Int32))).toNatClampNeg)).toInt32) S0
set_option maxHeartbeats 4000000 in
set_option maxRecDepth 100000 in
theorem mX11_intOf (l : Launch) (D : va_G) (cy : Nat → ClassId) (x0 : Nat) (x1 : Int32) (S0 : Sg) (Q : Int32 → Sg → Prop) (t0 : tg S0 x0 = 12) (hw : wX11_intOf x0 x1 S0 Q) : Met l yX11_intOf (.code yX11_intOf cX11_intOf 2 (some .int) :: wsL_law) { frames := 0, cells := 0, slots := 0, locals := 0 } (gPc D cy [va_rf (some x0), .int x1] S0) (va_Qi Q (gB D cy S0) (gA S0)) 0 0 (gA S0) := by
  refine gx_met (by decide) (Nat.le_of_ble_eq_true rfl) ?_
  intro p e s m args below meth c ls C hW hl
  have hx := C.1
  have hb := C.2.1
  have hl : lv_has ls 2 [(0, va_rf (some x0)), (1, .int x1)] := hl
  unfold wX11_intOf at hw
  refine gx_aload_n hx hb dX11_intOf_0 rfl (lv_at hl 0 rfl) ?_
  refine gx_getR C hW F11_43 (k := 717) rfl t0 rfl dX11_intOf_1 ?_
  refine lv_iload_n hx hb dX11_intOf_4 rfl (lv_at hl 1 rfl) ?_
  refine lv_bipush (v := 7) hx hb dX11_intOf_5 (by decide) ?_
  refine lv_iand hx hb dX11_intOf_7 ?_
  obtain ⟨a1, ha1, ta1, hw⟩ := hw
  obtain ⟨i2, hw⟩ := hw
  refine gx_lald C hW ha1 ta1 i2 dX11_intOf_8 ?_
  refine lv_l2i (v := _) hx hb dX11_intOf_9 rfl ?_
  exact gx_iret C hW (Nat.le_of_ble_eq_true rfl) (Nat.le_of_ble_eq_true rfl) rfl hw dX11_intOf_10
/-! TrialStairModel.grids -/
def wX11_grids_b68 : Nat → (Nat) → (Int32) → Sg → (Int32 → Sg → Prop) → Prop
  | 0, _, _, _, _ => False
  | fu + 1, x0, x4, S, Q => (if (64 : Int32) ≤ x4 then Q (0 : Int32) S else ∃ a39 : Nat, (fR S 728 x0) = some a39 ∧ tg S a39 = 13 ∧ vp_in x4 (ln S a39) ∧ ∀ S41 : Sg, S41 = sAI S a39 (x4).toNatClampNeg (0 : Int32) → ∀ y42 : Int32, y42 = x4 + (1) → wX11_grids_b68 fu x0 y42 S41 Q)
def wX11_grids (x0 : Nat) (x1 : Int32) (S0 : Sg) (Q : Int32 → Sg → Prop) : Prop := ∃ a1 : Nat, (fR S0 705 x0) = some a1 ∧ tg S0 a1 = 13 ∧ vp_in x1 (ln S0 a1) ∧ wX11_intOf x0 (aI S0 a1 (x1).toNatClampNeg) S0 (fun (r3 : Int32) (S4 : Sg) => ∃ a5 : Nat, (fR S4 706 x0) = some a5 ∧ tg S4 a5 = 13 ∧ vp_in x1 (ln S4 a5) ∧ wX11_intOf x0 (aI S4 a5 (x1).toNatClampNeg) S4 (fun (r7 : Int32) (S8 : Sg) => ∃ a9 : Nat, (fR S8 704 x0) = some a9 ∧ tg S8 a9 = 13 ∧ vp_in x1 (ln S8 a9) ∧ (if (aI S8 a9 (x1).toNatClampNeg) = (11 : Int32) then (if r3 < 0 then Q (8 : Int32) S8 else (if 0 ≤ r7 then ∀ S35 : Sg, S35 = sFI S8 725 x0 (1 : Int32) → ∀ S36 : Sg, S36 = sFI S35 726 x0 (r3 &&& (7 : Int32)) → ∀ S37 : Sg, S37 = sFI S36 727 x0 (r7 &&& (7 : Int32)) → ∃ fu43 : Nat, wX11_grids_b68 fu43 x0 (0 : Int32) S37 Q else Q (8 : Int32) S8)) else (if (fI S8 725 x0) = 0 then Q (7 : Int32) S8 else (if r3 < 0 then Q (6 : Int32) S8 else (if (fI S8 726 x0) ≤ r3 then Q (6 : Int32) S8 else (if r7 < 0 then Q (6 : Int32) S8 else (if r7 < (fI S8 727 x0) then vp_in x1 (ln S8 a9) ∧ (if (aI S8 a9 (x1).toNatClampNeg) = (12 : Int32) then ∃ a26 : Nat, (fR S8 707 x0) = some a26 ∧ tg S8 a26 = 13 ∧ vp_in x1 (ln S8 a26) ∧ ∃ a28 : Nat, (fR S8 728 x0) = some a28 ∧ tg S8 a28 = 13 ∧ vp_in (((8 : Int32) * r3) + r7) (ln S8 a28) ∧ ∃ a30 : Nat, (fR S8 717 x0) = some a30 ∧ tg S8 a30 = 14 ∧ vp_in ((aI S8 a26 (x1).toNatClampNeg) &&& (7 : Int32)) (ln S8 a30) ∧ ∀ S32 : Sg, S32 = sAL S8 a30 (((aI S8 a26 (x1).toNatClampNeg) &&& (7 : Int32))).toNatClampNeg (((aI S8 a28 ((((8 : Int32) * r3) + r7)).toNatClampNeg)).toInt64) → Q (0 : Int32) S32 else ∃ a19 : Nat, (fR S8 707 x0) = some a19 ∧ tg S8 a19 = 13 ∧ vp_in x1 (ln S8 a19) ∧ wX11_intOf x0 (aI S8 a19 (x1).toNatClampNeg) S8 (fun (r21 : Int32) (S22 : Sg) => ∃ a23 : Nat, (fR S8 728 x0) = some a23 ∧ tg S22 a23 = 13 ∧ vp_in (((8 : Int32) * r3) + r7) (ln S22 a23) ∧ ∀ S25 : Sg, S25 = sAI S22 a23 ((((8 : Int32) * r3) + r7)).toNatClampNeg r21 → Q (0 : Int32) S25)) else Q (6 : Int32) S8))))))))
set_option maxHeartbeats 4000000 in
set_option maxRecDepth 100000 in
theorem kX11_grids_l68 {p : Program} {l : Launch} {e : Env} {s : State} {m : MethodId} {args : Array Value} {below : List Frame} {meth : Method} {c : Code} {D : va_G} {cy : Nat → ClassId} {S0 : Sg} (C : gC p s m args meth c D cy cX11_grids 5 yX11_grids.cls (some .int) yX11_grids.name) {x0 : Nat} {Q : Int32 → Sg → Prop} : ∀ (fu : Nat) (x4 : Int32) (S : Sg) (H : Heap) (locs : List Loc) (ls : Array Slot) (hW : gW D cy (gA S0) (tg S0) s.heap S H locs) (t0 : tg S x0 = 12) (hl : lv_has ls 5 [(0, va_rf (some x0)), (4, .int x4)]) (hw : wX11_grids_b68 fu x0 x4 S Q), W p l e { frames := 1, cells := 0, slots := 0, locals := 21 } s m args below meth c H locs 0 0 (MQ below (va_Qi Q (gB D cy S0) (gA S0)) args s 0 0 (gA S0)) (F0 m 68 ls []) := by
  have hx := C.1
  have hb := C.2.1
  intro fu
  induction fu with
  | zero =>
    intro x4 S H locs ls hW t0 hl hw
    unfold wX11_grids_b68 at hw
    exact hw.elim
  | succ fu ih =>
    intro x4 S H locs ls hW t0 hl hw
    unfold wX11_grids_b68 at hw
    refine lv_iload hx hb dX11_grids_68 (lv_at hl 1 rfl) ?_
    refine lv_bipush (v := 64) hx hb dX11_grids_70 (by decide) ?_
    refine lv_icmp_ge (tgt := 89) hx hb dX11_grids_72 (by decide) (fun c38 => ?_) (fun c38 => ?_)
    · have hw := w_t hw c38
      refine lv_iconst (v := 0) hx hb dX11_grids_89 (by decide) ?_
      exact gx_iret C hW (Nat.le_of_ble_eq_true rfl) (Nat.le_of_ble_eq_true rfl) rfl hw dX11_grids_90
    · have hw := w_f hw c38
      refine gx_aload_n hx hb dX11_grids_75 rfl (lv_at hl 0 rfl) ?_
      refine gx_getR C hW F11_66 (k := 728) rfl t0 rfl dX11_grids_76 ?_
      refine lv_iload hx hb dX11_grids_79 (lv_at hl 1 rfl) ?_
      refine lv_iconst (v := 0) hx hb dX11_grids_81 (by decide) ?_
      obtain ⟨a39, ha39, ta39, hw⟩ := hw
      obtain ⟨i40, hw⟩ := hw
      refine gx_iast C hW ha39 ta39 i40 dX11_grids_82 (fun H locs S41 eS41 hW hm => ?_)
      have hw := hw S41 eS41
      have t0 := hm _ _ t0
      have ta39 := hm _ _ ta39
      obtain ⟨y42, ey42⟩ : ∃ z : Int32, z = x4 + (1) := ⟨_, rfl⟩
      have hw := hw y42 ey42
      refine lv_iinc (v := y42) (lv' := [(4, .int y42), (0, va_rf (some x0))]) hx hb dX11_grids_83 hl (k := 1) rfl (by rw [ey42]; rfl) (by decide) rfl (fun ls hl => ?_)
      refine lv_goto (tgt := 68) hx hb dX11_grids_86 (by decide) ?_
      exact ih _ _ _ _ _ hW t0 (lv_sub hl [1, 0] rfl) hw
theorem kX11_grids_b68 {p : Program} {l : Launch} {e : Env} {s : State} {m : MethodId} {args : Array Value} {below : List Frame} {meth : Method} {c : Code} {D : va_G} {cy : Nat → ClassId} {S0 : Sg} (C : gC p s m args meth c D cy cX11_grids 5 yX11_grids.cls (some .int) yX11_grids.name) {H : Heap} {locs : List Loc} {ls : Array Slot} {x0 : Nat} {x4 : Int32} {S : Sg} {Q : Int32 → Sg → Prop} (fu : Nat) (hW : gW D cy (gA S0) (tg S0) s.heap S H locs) (t0 : tg S x0 = 12) (hl : lv_has ls 5 [(0, va_rf (some x0)), (4, .int x4)]) (hw : wX11_grids_b68 fu x0 x4 S Q) : W p l e { frames := 1, cells := 0, slots := 0, locals := 21 } s m args below meth c H locs 0 0 (MQ below (va_Qi Q (gB D cy S0) (gA S0)) args s 0 0 (gA S0)) (F0 m 68 ls []) := kX11_grids_l68 C fu _ _ _ _ _ hW t0 hl hw
set_option maxHeartbeats 4000000 in
set_option maxRecDepth 100000 in
theorem mX11_grids (l : Launch) (D : va_G) (cy : Nat → ClassId) (x0 : Nat) (x1 : Int32) (S0 : Sg) (Q : Int32 → Sg → Prop) (t0 : tg S0 x0 = 12) (hw : wX11_grids x0 x1 S0 Q) : Met l yX11_grids (.code yX11_grids cX11_grids 5 (some .int) :: wsL_law) { frames := 1, cells := 0, slots := 0, locals := 21 } (gPc D cy [va_rf (some x0), .int x1] S0) (va_Qi Q (gB D cy S0) (gA S0)) 0 0 (gA S0) := by
  refine gx_met (by decide) (Nat.le_of_ble_eq_true rfl) ?_
  intro p e s m args below meth c ls C hW hl
  have hx := C.1
  have hb := C.2.1
  have hl : lv_has ls 5 [(0, va_rf (some x0)), (1, .int x1)] := hl
  unfold wX11_grids at hw
  refine gx_aload_n hx hb dX11_grids_0 rfl (lv_at hl 0 rfl) ?_
  refine gx_aload_n hx hb dX11_grids_1 rfl (lv_at hl 0 rfl) ?_
  refine gx_getR C hW F11_13 (k := 705) rfl t0 rfl dX11_grids_2 ?_
  refine lv_iload_n hx hb dX11_grids_5 rfl (lv_at hl 1 rfl) ?_
  obtain ⟨a1, ha1, ta1, hw⟩ := hw
  obtain ⟨i2, hw⟩ := hw
  refine gx_iald C hW ha1 ta1 i2 dX11_grids_6 ?_
  refine gx_ci (gx_rV C hW M11_267 (mX11_intOf l D cy _ _ _ _ t0 hw) rfl rfl ⟨Nat.le_of_ble_eq_true rfl, Nat.le_of_ble_eq_true rfl⟩ rfl t0 (by decide) rfl rfl hl.1 rfl (gx_room0 (n := 4) (Nat.le_of_ble_eq_true rfl)) dX11_grids_7 ⟨Nat.le_of_ble_eq_true rfl, Nat.le_of_ble_eq_true rfl⟩) hW (fun r3 S4 H locs hW hm hw => ?_)
  have t0 := hm _ _ t0
  have ta1 := hm _ _ ta1
  refine lv_istore_n (i := 2) (lv' := [(2, .int r3), (0, va_rf (some x0)), (1, .int x1)]) hx hb dX11_grids_10 rfl hl (by decide) rfl (fun ls hl => ?_)
  refine gx_aload_n hx hb dX11_grids_11 rfl (lv_at hl 1 rfl) ?_
  refine gx_aload_n hx hb dX11_grids_12 rfl (lv_at hl 1 rfl) ?_
  refine gx_getR C hW F11_16 (k := 706) rfl t0 rfl dX11_grids_13 ?_
  refine lv_iload_n hx hb dX11_grids_16 rfl (lv_at hl 2 rfl) ?_
  obtain ⟨a5, ha5, ta5, hw⟩ := hw
  obtain ⟨i6, hw⟩ := hw
  refine gx_iald C hW ha5 ta5 i6 dX11_grids_17 ?_
  refine gx_ci (gx_rV C hW M11_267 (mX11_intOf l D cy _ _ _ _ t0 hw) rfl rfl ⟨Nat.le_of_ble_eq_true rfl, Nat.le_of_ble_eq_true rfl⟩ rfl t0 (by decide) rfl rfl hl.1 rfl (gx_room0 (n := 4) (Nat.le_of_ble_eq_true rfl)) dX11_grids_18 ⟨Nat.le_of_ble_eq_true rfl, Nat.le_of_ble_eq_true rfl⟩) hW (fun r7 S8 H locs hW hm hw => ?_)
  have t0 := hm _ _ t0
  have ta1 := hm _ _ ta1
  have ta5 := hm _ _ ta5
  refine lv_istore_n (i := 3) (lv' := [(3, .int r7), (2, .int r3), (0, va_rf (some x0)), (1, .int x1)]) hx hb dX11_grids_21 rfl hl (by decide) rfl (fun ls hl => ?_)
  refine gx_aload_n hx hb dX11_grids_22 rfl (lv_at hl 2 rfl) ?_
  refine gx_getR C hW F11_7 (k := 704) rfl t0 rfl dX11_grids_23 ?_
  refine lv_iload_n hx hb dX11_grids_26 rfl (lv_at hl 3 rfl) ?_
  obtain ⟨a9, ha9, ta9, hw⟩ := hw
  obtain ⟨i10, hw⟩ := hw
  refine gx_iald C hW ha9 ta9 i10 dX11_grids_27 ?_
  refine lv_bipush (v := 11) hx hb dX11_grids_28 (by decide) ?_
  refine lv_icmp_ne (tgt := 91) hx hb dX11_grids_30 (by decide) (fun c11 => ?_) (fun c11 => ?_)
  · have hw := w_f hw c11
    refine gx_aload_n hx hb dX11_grids_91 rfl (lv_at hl 2 rfl) ?_
    refine gx_getI C hW F11_289 (k := 725) rfl t0 rfl dX11_grids_92 ?_
    refine lv_if_ne (tgt := 101) hx hb dX11_grids_95 (by decide) (fun c12 => ?_) (fun c12 => ?_)
    · have hw := w_f hw c12
      refine lv_iload_n hx hb dX11_grids_101 rfl (lv_at hl 1 rfl) ?_
      refine lv_if_lt (tgt := 125) hx hb dX11_grids_102 (by decide) (fun c13 => ?_) (fun c13 => ?_)
      · have hw := w_t hw c13
        refine lv_bipush (v := 6) hx hb dX11_grids_125 (by decide) ?_
        exact gx_iret C hW (Nat.le_of_ble_eq_true rfl) (Nat.le_of_ble_eq_true rfl) rfl hw dX11_grids_127
      · have hw := w_f hw c13
        refine lv_iload_n hx hb dX11_grids_105 rfl (lv_at hl 1 rfl) ?_
        refine gx_aload_n hx hb dX11_grids_106 rfl (lv_at hl 2 rfl) ?_
        refine gx_getI C hW F11_292 (k := 726) rfl t0 rfl dX11_grids_107 ?_
        refine lv_icmp_ge (tgt := 125) hx hb dX11_grids_110 (by decide) (fun c14 => ?_) (fun c14 => ?_)
        · have hw := w_t hw c14
          refine lv_bipush (v := 6) hx hb dX11_grids_125 (by decide) ?_
          exact gx_iret C hW (Nat.le_of_ble_eq_true rfl) (Nat.le_of_ble_eq_true rfl) rfl hw dX11_grids_127
        · have hw := w_f hw c14
          refine lv_iload_n hx hb dX11_grids_113 rfl (lv_at hl 0 rfl) ?_
          refine lv_if_lt (tgt := 125) hx hb dX11_grids_114 (by decide) (fun c15 => ?_) (fun c15 => ?_)
          · have hw := w_t hw c15
            refine lv_bipush (v := 6) hx hb dX11_grids_125 (by decide) ?_
            exact gx_iret C hW (Nat.le_of_ble_eq_true rfl) (Nat.le_of_ble_eq_true rfl) rfl hw dX11_grids_127
          · have hw := w_f hw c15
            refine lv_iload_n hx hb dX11_grids_117 rfl (lv_at hl 0 rfl) ?_
            refine gx_aload_n hx hb dX11_grids_118 rfl (lv_at hl 2 rfl) ?_
            refine gx_getI C hW F11_295 (k := 727) rfl t0 rfl dX11_grids_119 ?_
            refine lv_icmp_lt (tgt := 128) hx hb dX11_grids_122 (by decide) (fun c16 => ?_) (fun c16 => ?_)
            · have hw := w_t hw c16
              refine gx_aload_n hx hb dX11_grids_128 rfl (lv_at hl 2 rfl) ?_
              refine gx_getR C hW F11_7 (k := 704) rfl t0 rfl dX11_grids_129 ?_
              refine lv_iload_n hx hb dX11_grids_132 rfl (lv_at hl 3 rfl) ?_
              obtain ⟨i17, hw⟩ := hw
              refine gx_iald C hW ha9 ta9 i17 dX11_grids_133 ?_
              refine lv_bipush (v := 12) hx hb dX11_grids_134 (by decide) ?_
              refine lv_icmp_ne (tgt := 168) hx hb dX11_grids_136 (by decide) (fun c18 => ?_) (fun c18 => ?_)
              · have hw := w_f hw c18
                refine gx_aload_n hx hb dX11_grids_168 rfl (lv_at hl 2 rfl) ?_
                refine gx_getR C hW F11_66 (k := 728) rfl t0 rfl dX11_grids_169 ?_
                refine lv_bipush (v := 8) hx hb dX11_grids_172 (by decide) ?_
                refine lv_iload_n hx hb dX11_grids_174 rfl (lv_at hl 1 rfl) ?_
                refine lv_imul hx hb dX11_grids_175 ?_
                refine lv_iload_n hx hb dX11_grids_176 rfl (lv_at hl 0 rfl) ?_
                refine lv_iadd hx hb dX11_grids_177 ?_
                refine gx_aload_n hx hb dX11_grids_178 rfl (lv_at hl 2 rfl) ?_
                refine gx_aload_n hx hb dX11_grids_179 rfl (lv_at hl 2 rfl) ?_
                refine gx_getR C hW F11_19 (k := 707) rfl t0 rfl dX11_grids_180 ?_
                refine lv_iload_n hx hb dX11_grids_183 rfl (lv_at hl 3 rfl) ?_
                obtain ⟨a19, ha19, ta19, hw⟩ := hw
                obtain ⟨i20, hw⟩ := hw
                refine gx_iald C hW ha19 ta19 i20 dX11_grids_184 ?_
                refine gx_ci (gx_rV C hW M11_267 (mX11_intOf l D cy _ _ _ _ t0 hw) rfl rfl ⟨Nat.le_of_ble_eq_true rfl, Nat.le_of_ble_eq_true rfl⟩ rfl t0 (by decide) rfl rfl hl.1 rfl (gx_room0 (n := 4) (Nat.le_of_ble_eq_true rfl)) dX11_grids_185 ⟨Nat.le_of_ble_eq_true rfl, Nat.le_of_ble_eq_true rfl⟩) hW (fun r21 S22 H locs hW hm hw => ?_)
                have t0 := hm _ _ t0
                have ta1 := hm _ _ ta1
                have ta5 := hm _ _ ta5
                have ta9 := hm _ _ ta9
                have ta19 := hm _ _ ta19
                obtain ⟨a23, ha23, ta23, hw⟩ := hw
                obtain ⟨i24, hw⟩ := hw
                refine gx_iast C hW ha23 ta23 i24 dX11_grids_188 (fun H locs S25 eS25 hW hm => ?_)
                have hw := hw S25 eS25
                have t0 := hm _ _ t0
                have ta1 := hm _ _ ta1
                have ta5 := hm _ _ ta5
                have ta9 := hm _ _ ta9
                have ta19 := hm _ _ ta19
                have ta23 := hm _ _ ta23
                refine lv_iconst (v := 0) hx hb dX11_grids_189 (by decide) ?_
                exact gx_iret C hW (Nat.le_of_ble_eq_true rfl) (Nat.le_of_ble_eq_true rfl) rfl hw dX11_grids_190
              · have hw := w_t hw c18
                refine gx_aload_n hx hb dX11_grids_139 rfl (lv_at hl 2 rfl) ?_
                refine gx_getR C hW F11_43 (k := 717) rfl t0 rfl dX11_grids_140 ?_
                refine gx_aload_n hx hb dX11_grids_143 rfl (lv_at hl 2 rfl) ?_
                refine gx_getR C hW F11_19 (k := 707) rfl t0 rfl dX11_grids_144 ?_
                refine lv_iload_n hx hb dX11_grids_147 rfl (lv_at hl 3 rfl) ?_
                obtain ⟨a26, ha26, ta26, hw⟩ := hw
                obtain ⟨i27, hw⟩ := hw
                refine gx_iald C hW ha26 ta26 i27 dX11_grids_148 ?_
                refine lv_bipush (v := 7) hx hb dX11_grids_149 (by decide) ?_
                refine lv_iand hx hb dX11_grids_151 ?_
                refine gx_aload_n hx hb dX11_grids_152 rfl (lv_at hl 2 rfl) ?_
                refine gx_getR C hW F11_66 (k := 728) rfl t0 rfl dX11_grids_153 ?_
                refine lv_bipush (v := 8) hx hb dX11_grids_156 (by decide) ?_
                refine lv_iload_n hx hb dX11_grids_158 rfl (lv_at hl 1 rfl) ?_
                refine lv_imul hx hb dX11_grids_159 ?_
                refine lv_iload_n hx hb dX11_grids_160 rfl (lv_at hl 0 rfl) ?_
                refine lv_iadd hx hb dX11_grids_161 ?_
                obtain ⟨a28, ha28, ta28, hw⟩ := hw
                obtain ⟨i29, hw⟩ := hw
                refine gx_iald C hW ha28 ta28 i29 dX11_grids_162 ?_
                refine lv_i2l (v := _) hx hb dX11_grids_163 rfl ?_
                obtain ⟨a30, ha30, ta30, hw⟩ := hw
                obtain ⟨i31, hw⟩ := hw
                refine gx_last C hW ha30 ta30 i31 dX11_grids_164 (fun H locs S32 eS32 hW hm => ?_)
                have hw := hw S32 eS32
                have t0 := hm _ _ t0
                have ta1 := hm _ _ ta1
                have ta5 := hm _ _ ta5
                have ta9 := hm _ _ ta9
                have ta26 := hm _ _ ta26
                have ta28 := hm _ _ ta28
                have ta30 := hm _ _ ta30
                refine lv_goto (tgt := 189) hx hb dX11_grids_165 (by decide) ?_
                refine lv_iconst (v := 0) hx hb dX11_grids_189 (by decide) ?_
                exact gx_iret C hW (Nat.le_of_ble_eq_true rfl) (Nat.le_of_ble_eq_true rfl) rfl hw dX11_grids_190
            · have hw := w_f hw c16
              refine lv_bipush (v := 6) hx hb dX11_grids_125 (by decide) ?_
              exact gx_iret C hW (Nat.le_of_ble_eq_true rfl) (Nat.le_of_ble_eq_true rfl) rfl hw dX11_grids_127
    · have hw := w_t hw c12
      refine lv_bipush (v := 7) hx hb dX11_grids_98 (by decide) ?_
      exact gx_iret C hW (Nat.le_of_ble_eq_true rfl) (Nat.le_of_ble_eq_true rfl) rfl hw dX11_grids_100
  · have hw := w_t hw c11
    refine lv_iload_n hx hb dX11_grids_33 rfl (lv_at hl 1 rfl) ?_
    refine lv_if_lt (tgt := 41) hx hb dX11_grids_34 (by decide) (fun c33 => ?_) (fun c33 => ?_)
    · have hw := w_t hw c33
      refine lv_bipush (v := 8) hx hb dX11_grids_41 (by decide) ?_
      exact gx_iret C hW (Nat.le_of_ble_eq_true rfl) (Nat.le_of_ble_eq_true rfl) rfl hw dX11_grids_43
    · have hw := w_f hw c33
      refine lv_iload_n hx hb dX11_grids_37 rfl (lv_at hl 0 rfl) ?_
      refine lv_if_ge (tgt := 44) hx hb dX11_grids_38 (by decide) (fun c34 => ?_) (fun c34 => ?_)
      · have hw := w_t hw c34
        refine gx_aload_n hx hb dX11_grids_44 rfl (lv_at hl 2 rfl) ?_
        refine lv_iconst (v := 1) hx hb dX11_grids_45 (by decide) ?_
        refine gx_putI (k := 725) C hW F11_289 (Or.inl rfl) rfl t0 rfl rfl rfl dX11_grids_46 (fun H locs S35 eS35 hW hm => ?_)
        have hw := hw S35 eS35
        have t0 := hm _ _ t0
        have ta1 := hm _ _ ta1
        have ta5 := hm _ _ ta5
        have ta9 := hm _ _ ta9
        refine gx_aload_n hx hb dX11_grids_49 rfl (lv_at hl 2 rfl) ?_
        refine lv_iload_n hx hb dX11_grids_50 rfl (lv_at hl 1 rfl) ?_
        refine lv_bipush (v := 7) hx hb dX11_grids_51 (by decide) ?_
        refine lv_iand hx hb dX11_grids_53 ?_
        refine gx_putI (k := 726) C hW F11_292 (Or.inl rfl) rfl t0 rfl rfl rfl dX11_grids_54 (fun H locs S36 eS36 hW hm => ?_)
        have hw := hw S36 eS36
        have t0 := hm _ _ t0
        have ta1 := hm _ _ ta1
        have ta5 := hm _ _ ta5
        have ta9 := hm _ _ ta9
        refine gx_aload_n hx hb dX11_grids_57 rfl (lv_at hl 2 rfl) ?_
        refine lv_iload_n hx hb dX11_grids_58 rfl (lv_at hl 0 rfl) ?_
        refine lv_bipush (v := 7) hx hb dX11_grids_59 (by decide) ?_
        refine lv_iand hx hb dX11_grids_61 ?_
        refine gx_putI (k := 727) C hW F11_295 (Or.inl rfl) rfl t0 rfl rfl rfl dX11_grids_62 (fun H locs S37 eS37 hW hm => ?_)
        have hw := hw S37 eS37
        have t0 := hm _ _ t0
        have ta1 := hm _ _ ta1
        have ta5 := hm _ _ ta5
        have ta9 := hm _ _ ta9
        refine lv_iconst (v := 0) hx hb dX11_grids_65 (by decide) ?_
        refine lv_istore (lv' := [(4, .int (0 : Int32)), (3, .int r7), (2, .int r3), (0, va_rf (some x0)), (1, .int x1)]) hx hb dX11_grids_66 hl (by decide) rfl (fun ls hl => ?_)
        obtain ⟨fu43, hw⟩ := hw
        exact kX11_grids_b68 C fu43 hW t0 (lv_sub hl [3, 0] rfl) hw
      · have hw := w_f hw c34
        refine lv_bipush (v := 8) hx hb dX11_grids_41 (by decide) ?_
        exact gx_iret C hW (Nat.le_of_ble_eq_true rfl) (Nat.le_of_ble_eq_true rfl) rfl hw dX11_grids_43
/-! TrialStairModel.makes -/
def wX11_makes_b60 : Nat → (Nat) → (Int32) → (Int32) → Sg → (Int32 → Sg → Prop) → Prop
  | 0, _, _, _, _, _ => False
  | fu + 1, x0, x2, x4, S, Q => (if (64 : Int32) ≤ x4 then Q (0 : Int32) S else ∃ a14 : Nat, (fR S 724 x0) = some a14 ∧ tg S a14 = 14 ∧ vp_in (((64 : Int32) * x2) + x4) (ln S a14) ∧ ∀ S16 : Sg, S16 = sAL S a14 ((((64 : Int32) * x2) + x4)).toNatClampNeg (0 : Int64) → ∀ y17 : Int32, y17 = x4 + (1) → wX11_makes_b60 fu x0 x2 y17 S16 Q)
def wX11_makes_b56 (x0 : Nat) (x2 : Int32) (q0 : Option Nat) (q1 : Int32) (q2 : Int32) (S : Sg) (Q : Int32 → Sg → Prop) : Prop := ∃ a10 : Nat, q0 = some a10 ∧ tg S a10 = 15 ∧ vp_in q1 (ln S a10) ∧ ∀ S12 : Sg, S12 = sAI S a10 (q1).toNatClampNeg (vp_nar .boolean q2) → ∃ fu18 : Nat, wX11_makes_b60 fu18 x0 x2 (0 : Int32) S12 Q
def wX11_makes_b55 (x0 : Nat) (x2 : Int32) (q0 : Option Nat) (q1 : Int32) (S : Sg) (Q : Int32 → Sg → Prop) : Prop := wX11_makes_b56 x0 x2 q0 q1 (0 : Int32) S Q
def wX11_makes (x0 : Nat) (x1 : Int32) (x2 : Int32) (S0 : Sg) (Q : Int32 → Sg → Prop) : Prop := ∃ a1 : Nat, (fR S0 706 x0) = some a1 ∧ tg S0 a1 = 13 ∧ vp_in x1 (ln S0 a1) ∧ wX11_intOf x0 (aI S0 a1 (x1).toNatClampNeg) S0 (fun (r3 : Int32) (S4 : Sg) => (if 0 ≤ r3 then ∃ a6 : Nat, (fR S4 722 x0) = some a6 ∧ tg S4 a6 = 13 ∧ vp_in x2 (ln S4 a6) ∧ ∀ S8 : Sg, S8 = sAI S4 a6 (x2).toNatClampNeg (r3 &&& (63 : Int32)) → (if x2 < (56 : Int32) then wX11_makes_b55 x0 x2 (fR S8 723 x0) x2 S8 Q else ∃ a19 : Nat, (fR S8 707 x0) = some a19 ∧ tg S8 a19 = 13 ∧ vp_in x1 (ln S8 a19) ∧ (if ((aI S8 a19 (x1).toNatClampNeg) &&& (1 : Int32)) = (1 : Int32) then wX11_makes_b56 x0 x2 (fR S8 723 x0) x2 (1 : Int32) S8 Q else wX11_makes_b55 x0 x2 (fR S8 723 x0) x2 S8 Q)) else Q (8 : Int32) S4))
set_option maxHeartbeats 4000000 in
set_option maxRecDepth 100000 in
theorem kX11_makes_l60 {p : Program} {l : Launch} {e : Env} {s : State} {m : MethodId} {args : Array Value} {below : List Frame} {meth : Method} {c : Code} {D : va_G} {cy : Nat → ClassId} {S0 : Sg} (C : gC p s m args meth c D cy cX11_makes 5 yX11_makes.cls (some .int) yX11_makes.name) {x0 : Nat} {Q : Int32 → Sg → Prop} : ∀ (fu : Nat) (x2 : Int32) (x4 : Int32) (S : Sg) (H : Heap) (locs : List Loc) (ls : Array Slot) (hW : gW D cy (gA S0) (tg S0) s.heap S H locs) (t0 : tg S x0 = 12) (hl : lv_has ls 5 [(0, va_rf (some x0)), (2, .int x2), (4, .int x4)]) (hw : wX11_makes_b60 fu x0 x2 x4 S Q), W p l e { frames := 1, cells := 0, slots := 0, locals := 21 } s m args below meth c H locs 0 0 (MQ below (va_Qi Q (gB D cy S0) (gA S0)) args s 0 0 (gA S0)) (F0 m 60 ls []) := by
  have hx := C.1
  have hb := C.2.1
  intro fu
  induction fu with
  | zero =>
    intro x2 x4 S H locs ls hW t0 hl hw
    unfold wX11_makes_b60 at hw
    exact hw.elim
  | succ fu ih =>
    intro x2 x4 S H locs ls hW t0 hl hw
    unfold wX11_makes_b60 at hw
    refine lv_iload hx hb dX11_makes_60 (lv_at hl 2 rfl) ?_
    refine lv_bipush (v := 64) hx hb dX11_makes_62 (by decide) ?_
    refine lv_icmp_ge (tgt := 86) hx hb dX11_makes_64 (by decide) (fun c13 => ?_) (fun c13 => ?_)
    · have hw := w_t hw c13
      refine lv_iconst (v := 0) hx hb dX11_makes_86 (by decide) ?_
      exact gx_iret C hW (Nat.le_of_ble_eq_true rfl) (Nat.le_of_ble_eq_true rfl) rfl hw dX11_makes_87
    · have hw := w_f hw c13
      refine gx_aload_n hx hb dX11_makes_67 rfl (lv_at hl 0 rfl) ?_
      refine gx_getR C hW F11_63 (k := 724) rfl t0 rfl dX11_makes_68 ?_
      refine lv_bipush (v := 64) hx hb dX11_makes_71 (by decide) ?_
      refine lv_iload_n hx hb dX11_makes_73 rfl (lv_at hl 1 rfl) ?_
      refine lv_imul hx hb dX11_makes_74 ?_
      refine lv_iload hx hb dX11_makes_75 (lv_at hl 2 rfl) ?_
      refine lv_iadd hx hb dX11_makes_77 ?_
      refine lv_lconst (v := 0) hx hb dX11_makes_78 (by decide) ?_
      obtain ⟨a14, ha14, ta14, hw⟩ := hw
      obtain ⟨i15, hw⟩ := hw
      refine gx_last C hW ha14 ta14 i15 dX11_makes_79 (fun H locs S16 eS16 hW hm => ?_)
      have hw := hw S16 eS16
      have t0 := hm _ _ t0
      have ta14 := hm _ _ ta14
      obtain ⟨y17, ey17⟩ : ∃ z : Int32, z = x4 + (1) := ⟨_, rfl⟩
      have hw := hw y17 ey17
      refine lv_iinc (v := y17) (lv' := [(4, .int y17), (0, va_rf (some x0)), (2, .int x2)]) hx hb dX11_makes_80 hl (k := 2) rfl (by rw [ey17]; rfl) (by decide) rfl (fun ls hl => ?_)
      refine lv_goto (tgt := 60) hx hb dX11_makes_83 (by decide) ?_
      exact ih _ _ _ _ _ _ hW t0 (lv_sub hl [1, 2, 0] rfl) hw
theorem kX11_makes_b60 {p : Program} {l : Launch} {e : Env} {s : State} {m : MethodId} {args : Array Value} {below : List Frame} {meth : Method} {c : Code} {D : va_G} {cy : Nat → ClassId} {S0 : Sg} (C : gC p s m args meth c D cy cX11_makes 5 yX11_makes.cls (some .int) yX11_makes.name) {H : Heap} {locs : List Loc} {ls : Array Slot} {x0 : Nat} {x2 : Int32} {x4 : Int32} {S : Sg} {Q : Int32 → Sg → Prop} (fu : Nat) (hW : gW D cy (gA S0) (tg S0) s.heap S H locs) (t0 : tg S x0 = 12) (hl : lv_has ls 5 [(0, va_rf (some x0)), (2, .int x2), (4, .int x4)]) (hw : wX11_makes_b60 fu x0 x2 x4 S Q) : W p l e { frames := 1, cells := 0, slots := 0, locals := 21 } s m args below meth c H locs 0 0 (MQ below (va_Qi Q (gB D cy S0) (gA S0)) args s 0 0 (gA S0)) (F0 m 60 ls []) := kX11_makes_l60 C fu _ _ _ _ _ _ hW t0 hl hw
set_option maxHeartbeats 4000000 in
set_option maxRecDepth 100000 in
theorem kX11_makes_b56 {p : Program} {l : Launch} {e : Env} {s : State} {m : MethodId} {args : Array Value} {below : List Frame} {meth : Method} {c : Code} {D : va_G} {cy : Nat → ClassId} {S0 : Sg} (C : gC p s m args meth c D cy cX11_makes 5 yX11_makes.cls (some .int) yX11_makes.name) {H : Heap} {locs : List Loc} {ls : Array Slot} {x0 : Nat} {x2 : Int32} {q0 : Option Nat} {q1 : Int32} {q2 : Int32} {S : Sg} {Q : Int32 → Sg → Prop} (hW : gW D cy (gA S0) (tg S0) s.heap S H locs) (t0 : tg S x0 = 12) (hl : lv_has ls 5 [(0, va_rf (some x0)), (2, .int x2)]) (hw : wX11_makes_b56 x0 x2 q0 q1 q2 S Q) : W p l e { frames := 1, cells := 0, slots := 0, locals := 21 } s m args below meth c H locs 0 0 (MQ below (va_Qi Q (gB D cy S0) (gA S0)) args s 0 0 (gA S0)) (F0 m 56 ls [.int q2, .int q1, va_rf q0]) := by
  have hx := C.1
  have hb := C.2.1
  unfold wX11_makes_b56 at hw
  obtain ⟨a10, ha10, ta10, hw⟩ := hw
  obtain ⟨i11, hw⟩ := hw
  refine gx_zast C hW ha10 ta10 i11 dX11_makes_56 (fun H locs S12 eS12 hW hm => ?_)
  have hw := hw S12 eS12
  have t0 := hm _ _ t0
  have ta10 := hm _ _ ta10
  refine lv_iconst (v := 0) hx hb dX11_makes_57 (by decide) ?_
  refine lv_istore (lv' := [(4, .int (0 : Int32)), (0, va_rf (some x0)), (2, .int x2)]) hx hb dX11_makes_58 hl (by decide) rfl (fun ls hl => ?_)
  obtain ⟨fu18, hw⟩ := hw
  exact kX11_makes_b60 C fu18 hW t0 (lv_sub hl [1, 2, 0] rfl) hw
set_option maxHeartbeats 4000000 in
set_option maxRecDepth 100000 in
theorem kX11_makes_b55 {p : Program} {l : Launch} {e : Env} {s : State} {m : MethodId} {args : Array Value} {below : List Frame} {meth : Method} {c : Code} {D : va_G} {cy : Nat → ClassId} {S0 : Sg} (C : gC p s m args meth c D cy cX11_makes 5 yX11_makes.cls (some .int) yX11_makes.name) {H : Heap} {locs : List Loc} {ls : Array Slot} {x0 : Nat} {x2 : Int32} {q0 : Option Nat} {q1 : Int32} {S : Sg} {Q : Int32 → Sg → Prop} (hW : gW D cy (gA S0) (tg S0) s.heap S H locs) (t0 : tg S x0 = 12) (hl : lv_has ls 5 [(0, va_rf (some x0)), (2, .int x2)]) (hw : wX11_makes_b55 x0 x2 q0 q1 S Q) : W p l e { frames := 1, cells := 0, slots := 0, locals := 21 } s m args below meth c H locs 0 0 (MQ below (va_Qi Q (gB D cy S0) (gA S0)) args s 0 0 (gA S0)) (F0 m 55 ls [.int q1, va_rf q0]) := by
  have hx := C.1
  have hb := C.2.1
  unfold wX11_makes_b55 at hw
  refine lv_iconst (v := 0) hx hb dX11_makes_55 (by decide) ?_
  exact kX11_makes_b56 C hW t0 (lv_sub hl [0, 1] rfl) hw
set_option maxHeartbeats 4000000 in
set_option maxRecDepth 100000 in
theorem mX11_makes (l : Launch) (D : va_G) (cy : Nat → ClassId) (x0 : Nat) (x1 : Int32) (x2 : Int32) (S0 : Sg) (Q : Int32 → Sg → Prop) (t0 : tg S0 x0 = 12) (hw : wX11_makes x0 x1 x2 S0 Q) : Met l yX11_makes (.code yX11_makes cX11_makes 5 (some .int) :: wsL_law) { frames := 1, cells := 0, slots := 0, locals := 21 } (gPc D cy [va_rf (some x0), .int x1, .int x2] S0) (va_Qi Q (gB D cy S0) (gA S0)) 0 0 (gA S0) := by
  refine gx_met (by decide) (Nat.le_of_ble_eq_true rfl) ?_
  intro p e s m args below meth c ls C hW hl
  have hx := C.1
  have hb := C.2.1
  have hl : lv_has ls 5 [(0, va_rf (some x0)), (1, .int x1), (2, .int x2)] := hl
  unfold wX11_makes at hw
  refine gx_aload_n hx hb dX11_makes_0 rfl (lv_at hl 0 rfl) ?_
  refine gx_aload_n hx hb dX11_makes_1 rfl (lv_at hl 0 rfl) ?_
  refine gx_getR C hW F11_16 (k := 706) rfl t0 rfl dX11_makes_2 ?_
  refine lv_iload_n hx hb dX11_makes_5 rfl (lv_at hl 1 rfl) ?_
  obtain ⟨a1, ha1, ta1, hw⟩ := hw
  obtain ⟨i2, hw⟩ := hw
  refine gx_iald C hW ha1 ta1 i2 dX11_makes_6 ?_
  refine gx_ci (gx_rV C hW M11_267 (mX11_intOf l D cy _ _ _ _ t0 hw) rfl rfl ⟨Nat.le_of_ble_eq_true rfl, Nat.le_of_ble_eq_true rfl⟩ rfl t0 (by decide) rfl rfl hl.1 rfl (gx_room0 (n := 4) (Nat.le_of_ble_eq_true rfl)) dX11_makes_7 ⟨Nat.le_of_ble_eq_true rfl, Nat.le_of_ble_eq_true rfl⟩) hW (fun r3 S4 H locs hW hm hw => ?_)
  have t0 := hm _ _ t0
  have ta1 := hm _ _ ta1
  refine lv_istore_n (i := 3) (lv' := [(3, .int r3), (0, va_rf (some x0)), (1, .int x1), (2, .int x2)]) hx hb dX11_makes_10 rfl hl (by decide) rfl (fun ls hl => ?_)
  refine lv_iload_n hx hb dX11_makes_11 rfl (lv_at hl 0 rfl) ?_
  refine lv_if_ge (tgt := 18) hx hb dX11_makes_12 (by decide) (fun c5 => ?_) (fun c5 => ?_)
  · have hw := w_t hw c5
    refine gx_aload_n hx hb dX11_makes_18 rfl (lv_at hl 1 rfl) ?_
    refine gx_getR C hW F11_56 (k := 722) rfl t0 rfl dX11_makes_19 ?_
    refine lv_iload_n hx hb dX11_makes_22 rfl (lv_at hl 3 rfl) ?_
    refine lv_iload_n hx hb dX11_makes_23 rfl (lv_at hl 0 rfl) ?_
    refine lv_bipush (v := 63) hx hb dX11_makes_24 (by decide) ?_
    refine lv_iand hx hb dX11_makes_26 ?_
    obtain ⟨a6, ha6, ta6, hw⟩ := hw
    obtain ⟨i7, hw⟩ := hw
    refine gx_iast C hW ha6 ta6 i7 dX11_makes_27 (fun H locs S8 eS8 hW hm => ?_)
    have hw := hw S8 eS8
    have t0 := hm _ _ t0
    have ta1 := hm _ _ ta1
    have ta6 := hm _ _ ta6
    refine gx_aload_n hx hb dX11_makes_28 rfl (lv_at hl 1 rfl) ?_
    refine gx_getR C hW F11_59 (k := 723) rfl t0 rfl dX11_makes_29 ?_
    refine lv_iload_n hx hb dX11_makes_32 rfl (lv_at hl 3 rfl) ?_
    refine lv_iload_n hx hb dX11_makes_33 rfl (lv_at hl 3 rfl) ?_
    refine lv_bipush (v := 56) hx hb dX11_makes_34 (by decide) ?_
    refine lv_icmp_lt (tgt := 55) hx hb dX11_makes_36 (by decide) (fun c9 => ?_) (fun c9 => ?_)
    · have hw := w_t hw c9
      exact kX11_makes_b55 C hW t0 (lv_sub hl [1, 3] rfl) hw
    · have hw := w_f hw c9
      refine gx_aload_n hx hb dX11_makes_39 rfl (lv_at hl 1 rfl) ?_
      refine gx_getR C hW F11_19 (k := 707) rfl t0 rfl dX11_makes_40 ?_
      refine lv_iload_n hx hb dX11_makes_43 rfl (lv_at hl 2 rfl) ?_
      obtain ⟨a19, ha19, ta19, hw⟩ := hw
      obtain ⟨i20, hw⟩ := hw
      refine gx_iald C hW ha19 ta19 i20 dX11_makes_44 ?_
      refine lv_iconst (v := 1) hx hb dX11_makes_45 (by decide) ?_
      refine lv_iand hx hb dX11_makes_46 ?_
      refine lv_iconst (v := 1) hx hb dX11_makes_47 (by decide) ?_
      refine lv_icmp_ne (tgt := 55) hx hb dX11_makes_48 (by decide) (fun c21 => ?_) (fun c21 => ?_)
      · have hw := w_f hw c21
        exact kX11_makes_b55 C hW t0 (lv_sub hl [1, 3] rfl) hw
      · have hw := w_t hw c21
        refine lv_iconst (v := 1) hx hb dX11_makes_51 (by decide) ?_
        refine lv_goto (tgt := 56) hx hb dX11_makes_52 (by decide) ?_
        exact kX11_makes_b56 C hW t0 (lv_sub hl [1, 3] rfl) hw
  · have hw := w_f hw c5
    refine lv_bipush (v := 8) hx hb dX11_makes_15 (by decide) ?_
    exact gx_iret C hW (Nat.le_of_ble_eq_true rfl) (Nat.le_of_ble_eq_true rfl) rfl hw dX11_makes_17
/-! TrialStairModel.looksAt -/
def wX11_looksAt (x0 : Nat) (x1 : Int32) (x2 : Int32) (x3 : Int32) (S0 : Sg) (Q : Int32 → Sg → Prop) : Prop := ∃ a1 : Nat, (fR S0 724 x0) = some a1 ∧ tg S0 a1 = 14 ∧ vp_in (((64 : Int32) * x2) + x3) (ln S0 a1) ∧ ∀ y3 : Int64, y3 = (aL S0 a1 ((((64 : Int32) * x2) + x3)).toNatClampNeg) → (if x2 < (56 : Int32) then ∃ a5 : Nat, (fR S0 707 x0) = some a5 ∧ tg S0 a5 = 13 ∧ vp_in x1 (ln S0 a5) ∧ ∃ a7 : Nat, (fR S0 717 x0) = some a7 ∧ tg S0 a7 = 14 ∧ vp_in ((aI S0 a5 (x1).toNatClampNeg) &&& (7 : Int32)) (ln S0 a7) ∧ ∀ S9 : Sg, S9 = sAL S0 a7 (((aI S0 a5 (x1).toNatClampNeg) &&& (7 : Int32))).toNatClampNeg y3 → Q (0 : Int32) S9 else ∃ a10 : Nat, (fR S0 707 x0) = some a10 ∧ tg S0 a10 = 13 ∧ vp_in x1 (ln S0 a10) ∧ ∃ a12 : Nat, (fR S0 718 x0) = some a12 ∧ tg S0 a12 = 13 ∧ vp_in ((aI S0 a10 (x1).toNatClampNeg) &&& (7 : Int32)) (ln S0 a12) ∧ ∀ S14 : Sg, S14 = sAI S0 a12 (((aI S0 a10 (x1).toNatClampNeg) &&& (7 : Int32))).toNatClampNeg ((y3).toInt32) → Q (0 : Int32) S14)
set_option maxHeartbeats 4000000 in
set_option maxRecDepth 100000 in
theorem mX11_looksAt (l : Launch) (D : va_G) (cy : Nat → ClassId) (x0 : Nat) (x1 : Int32) (x2 : Int32) (x3 : Int32) (S0 : Sg) (Q : Int32 → Sg → Prop) (t0 : tg S0 x0 = 12) (hw : wX11_looksAt x0 x1 x2 x3 S0 Q) : Met l yX11_looksAt (.code yX11_looksAt cX11_looksAt 6 (some .int) :: wsL_law) { frames := 0, cells := 0, slots := 0, locals := 0 } (gPc D cy [va_rf (some x0), .int x1, .int x2, .int x3] S0) (va_Qi Q (gB D cy S0) (gA S0)) 0 0 (gA S0) := by
  refine gx_met (by decide) (Nat.le_of_ble_eq_true rfl) ?_
  intro p e s m args below meth c ls C hW hl
  have hx := C.1
  have hb := C.2.1
  have hl : lv_has ls 6 [(0, va_rf (some x0)), (1, .int x1), (2, .int x2), (3, .int x3)] := hl
  unfold wX11_looksAt at hw
  refine gx_aload_n hx hb dX11_looksAt_0 rfl (lv_at hl 0 rfl) ?_
  refine gx_getR C hW F11_63 (k := 724) rfl t0 rfl dX11_looksAt_1 ?_
  refine lv_bipush (v := 64) hx hb dX11_looksAt_4 (by decide) ?_
  refine lv_iload_n hx hb dX11_looksAt_6 rfl (lv_at hl 2 rfl) ?_
  refine lv_imul hx hb dX11_looksAt_7 ?_
  refine lv_iload_n hx hb dX11_looksAt_8 rfl (lv_at hl 3 rfl) ?_
  refine lv_iadd hx hb dX11_looksAt_9 ?_
  obtain ⟨a1, ha1, ta1, hw⟩ := hw
  obtain ⟨i2, hw⟩ := hw
  refine gx_lald C hW ha1 ta1 i2 dX11_looksAt_10 ?_
  refine lv_topl (fun y3 ey3 => ?_)
  have hw := hw y3 ey3
  refine lv_lstore (lv' := [(4, .long y3), (0, va_rf (some x0)), (1, .int x1), (2, .int x2), (3, .int x3)]) hx hb dX11_looksAt_11 hl (by decide) rfl (fun ls hl => ?_)
  refine lv_iload_n hx hb dX11_looksAt_13 rfl (lv_at hl 3 rfl) ?_
  refine lv_bipush (v := 56) hx hb dX11_looksAt_14 (by decide) ?_
  refine lv_icmp_lt (tgt := 39) hx hb dX11_looksAt_16 (by decide) (fun c4 => ?_) (fun c4 => ?_)
  · have hw := w_t hw c4
    refine gx_aload_n hx hb dX11_looksAt_39 rfl (lv_at hl 1 rfl) ?_
    refine gx_getR C hW F11_43 (k := 717) rfl t0 rfl dX11_looksAt_40 ?_
    refine gx_aload_n hx hb dX11_looksAt_43 rfl (lv_at hl 1 rfl) ?_
    refine gx_getR C hW F11_19 (k := 707) rfl t0 rfl dX11_looksAt_44 ?_
    refine lv_iload_n hx hb dX11_looksAt_47 rfl (lv_at hl 2 rfl) ?_
    obtain ⟨a5, ha5, ta5, hw⟩ := hw
    obtain ⟨i6, hw⟩ := hw
    refine gx_iald C hW ha5 ta5 i6 dX11_looksAt_48 ?_
    refine lv_bipush (v := 7) hx hb dX11_looksAt_49 (by decide) ?_
    refine lv_iand hx hb dX11_looksAt_51 ?_
    refine lv_lload hx hb dX11_looksAt_52 (lv_at hl 0 rfl) ?_
    obtain ⟨a7, ha7, ta7, hw⟩ := hw
    obtain ⟨i8, hw⟩ := hw
    refine gx_last C hW ha7 ta7 i8 dX11_looksAt_54 (fun H locs S9 eS9 hW hm => ?_)
    have hw := hw S9 eS9
    have t0 := hm _ _ t0
    have ta1 := hm _ _ ta1
    have ta5 := hm _ _ ta5
    have ta7 := hm _ _ ta7
    refine lv_iconst (v := 0) hx hb dX11_looksAt_55 (by decide) ?_
    exact gx_iret C hW (Nat.le_of_ble_eq_true rfl) (Nat.le_of_ble_eq_true rfl) rfl hw dX11_looksAt_56
  · have hw := w_f hw c4
    refine gx_aload_n hx hb dX11_looksAt_19 rfl (lv_at hl 1 rfl) ?_
    refine gx_getR C hW F11_47 (k := 718) rfl t0 rfl dX11_looksAt_20 ?_
    refine gx_aload_n hx hb dX11_looksAt_23 rfl (lv_at hl 1 rfl) ?_
    refine gx_getR C hW F11_19 (k := 707) rfl t0 rfl dX11_looksAt_24 ?_
    refine lv_iload_n hx hb dX11_looksAt_27 rfl (lv_at hl 2 rfl) ?_
    obtain ⟨a10, ha10, ta10, hw⟩ := hw
    obtain ⟨i11, hw⟩ := hw
    refine gx_iald C hW ha10 ta10 i11 dX11_looksAt_28 ?_
    refine lv_bipush (v := 7) hx hb dX11_looksAt_29 (by decide) ?_
    refine lv_iand hx hb dX11_looksAt_31 ?_
    refine lv_lload hx hb dX11_looksAt_32 (lv_at hl 0 rfl) ?_
    refine lv_l2i (v := _) hx hb dX11_looksAt_34 rfl ?_
    obtain ⟨a12, ha12, ta12, hw⟩ := hw
    obtain ⟨i13, hw⟩ := hw
    refine gx_iast C hW ha12 ta12 i13 dX11_looksAt_35 (fun H locs S14 eS14 hW hm => ?_)
    have hw := hw S14 eS14
    have t0 := hm _ _ t0
    have ta1 := hm _ _ ta1
    have ta10 := hm _ _ ta10
    have ta12 := hm _ _ ta12
    refine lv_goto (tgt := 55) hx hb dX11_looksAt_36 (by decide) ?_
    refine lv_iconst (v := 0) hx hb dX11_looksAt_55 (by decide) ?_
    exact gx_iret C hW (Nat.le_of_ble_eq_true rfl) (Nat.le_of_ble_eq_true rfl) rfl hw dX11_looksAt_56
/-! TrialStairModel.rounded -/
def wX11_rounded_b104 (x0 : Int64) (x5 : Int32) (x10 : Int64) (S : Sg) (Q : Int64 → Sg → Prop) : Prop := ∀ y9 : Int64, y9 = (x10 <<< ((x5).toInt64 &&& 63)) → (if 0 ≤ (lg_cmp x0 (0 : Int64)) then (if 0 ≤ (lg_cmp y9 (0 : Int64)) then Q y9 S else Q (9223372036854775807 : Int64) S) else Q (-y9) S)
def wX11_rounded_b98 (x0 : Int64) (x5 : Int32) (x10 : Int64) (S : Sg) (Q : Int64 → Sg → Prop) : Prop := ∀ y8 : Int64, y8 = (x10 + (1 : Int64)) → wX11_rounded_b104 x0 x5 y8 S Q
def wX11_rounded_b42 (x0 : Int64) (x3 : Int64) (x5 : Int32) (S : Sg) (Q : Int64 → Sg → Prop) : Prop := (if x5 = 0 then Q x0 S else ∀ y4 : Int64, y4 = (x3 &&& (((1 : Int64) <<< ((x5).toInt64 &&& 63)) - (1 : Int64))) → ∀ y5 : Int64, y5 = ((1 : Int64) <<< (((x5 - (1 : Int32))).toInt64 &&& 63)) → ∀ y6 : Int64, y6 = (((x3).toUInt64 >>> ((x5).toInt64.toUInt64 &&& Int64.toUInt64 63)).toInt64) → (if 0 < (lg_cmp y4 y5) then wX11_rounded_b98 x0 x5 y6 S Q else (if (lg_cmp y4 y5) = 0 then (if (lg_cmp (y6 &&& (1 : Int64)) (1 : Int64)) = 0 then wX11_rounded_b98 x0 x5 y6 S Q else wX11_rounded_b104 x0 x5 y6 S Q) else wX11_rounded_b104 x0 x5 y6 S Q)))
def wX11_rounded_b16 : Nat → (Int64) → (Int32) → (Int64) → (Int32) → Sg → (Int64 → Sg → Prop) → Prop
  | 0, _, _, _, _, _, _ => False
  | fu + 1, x0, x2, x3, x5, S, Q => (if ((64 : Int32) - x2) ≤ x5 then wX11_rounded_b42 x0 x3 x5 S Q else (if (lg_cmp (((x3).toUInt64 >>> (((x2 + x5)).toInt64.toUInt64 &&& Int64.toUInt64 63)).toInt64) (0 : Int64)) = 0 then wX11_rounded_b42 x0 x3 x5 S Q else ∀ y15 : Int32, y15 = x5 + (1) → wX11_rounded_b16 fu x0 x2 x3 y15 S Q))
def wX11_rounded_b12 (x0 : Int64) (x2 : Int32) (q0 : Int64) (S : Sg) (Q : Int64 → Sg → Prop) : Prop := ∃ fu16 : Nat, wX11_rounded_b16 fu16 x0 x2 q0 (0 : Int32) S Q
def wX11_rounded (x0 : Int64) (x2 : Int32) (S0 : Sg) (Q : Int64 → Sg → Prop) : Prop := (if 0 ≤ (lg_cmp x0 (0 : Int64)) then wX11_rounded_b12 x0 x2 x0 S0 Q else wX11_rounded_b12 x0 x2 (-x0) S0 Q)
set_option maxHeartbeats 4000000 in
set_option maxRecDepth 100000 in
theorem kX11_rounded_b104 {p : Program} {l : Launch} {e : Env} {s : State} {m : MethodId} {args : Array Value} {below : List Frame} {meth : Method} {c : Code} {D : va_G} {cy : Nat → ClassId} {S0 : Sg} (C : gC p s m args meth c D cy cX11_rounded 14 yX11_rounded.cls (some .long) yX11_rounded.name) {H : Heap} {locs : List Loc} {ls : Array Slot} {x0 : Int64} {x5 : Int32} {x10 : Int64} {S : Sg} {Q : Int64 → Sg → Prop} (hW : gW D cy (gA S0) (tg S0) s.heap S H locs) (hl : lv_has ls 14 [(0, .long x0), (5, .int x5), (10, .long x10)]) (hw : wX11_rounded_b104 x0 x5 x10 S Q) : W p l e { frames := 0, cells := 0, slots := 0, locals := 0 } s m args below meth c H locs 0 0 (MQ below (va_Ql Q (gB D cy S0) (gA S0)) args s 0 0 (gA S0)) (F0 m 104 ls []) := by
  have hx := C.1
  have hb := C.2.1
  unfold wX11_rounded_b104 at hw
  refine lv_lload hx hb dX11_rounded_104 (lv_at hl 2 rfl) ?_
  refine lv_iload hx hb dX11_rounded_106 (lv_at hl 1 rfl) ?_
  refine lv_lshl (v := _) hx hb dX11_rounded_108 rfl ?_
  refine lv_topl (fun y9 ey9 => ?_)
  have hw := hw y9 ey9
  refine lv_lstore (lv' := [(12, .long y9), (0, .long x0), (5, .int x5), (10, .long x10)]) hx hb dX11_rounded_109 hl (by decide) rfl (fun ls hl => ?_)
  refine lv_lload_n hx hb dX11_rounded_111 rfl (lv_at hl 1 rfl) ?_
  refine lv_lconst (v := 0) hx hb dX11_rounded_112 (by decide) ?_
  refine W.lcmp hx hb dX11_rounded_113 ?_
  refine lv_if_ge (tgt := 121) hx hb dX11_rounded_114 (by decide) (fun c10 => ?_) (fun c10 => ?_)
  · have hw := w_t hw c10
    refine lv_lload hx hb dX11_rounded_121 (lv_at hl 0 rfl) ?_
    refine lv_lconst (v := 0) hx hb dX11_rounded_123 (by decide) ?_
    refine W.lcmp hx hb dX11_rounded_124 ?_
    refine lv_if_ge (tgt := 134) hx hb dX11_rounded_125 (by decide) (fun c11 => ?_) (fun c11 => ?_)
    · have hw := w_t hw c11
      refine lv_lload hx hb dX11_rounded_134 (lv_at hl 0 rfl) ?_
      exact gx_lret C hW (Nat.le_of_ble_eq_true rfl) (Nat.le_of_ble_eq_true rfl) hw dX11_rounded_136
    · have hw := w_f hw c11
      refine lv_ldc2 (v := 9223372036854775807) hx hb C.2.2.2.1 (C.2.2.2.2.1 _ (List.mem_of_getElem? (i := 672) (by decide +kernel))) dX11_rounded_128 ?_
      refine lv_goto (tgt := 136) hx hb dX11_rounded_131 (by decide) ?_
      exact gx_lret C hW (Nat.le_of_ble_eq_true rfl) (Nat.le_of_ble_eq_true rfl) hw dX11_rounded_136
  · have hw := w_f hw c10
    refine lv_lload hx hb dX11_rounded_117 (lv_at hl 0 rfl) ?_
    refine lv_lneg hx hb dX11_rounded_119 ?_
    exact gx_lret C hW (Nat.le_of_ble_eq_true rfl) (Nat.le_of_ble_eq_true rfl) hw dX11_rounded_120
set_option maxHeartbeats 4000000 in
set_option maxRecDepth 100000 in
theorem kX11_rounded_b98 {p : Program} {l : Launch} {e : Env} {s : State} {m : MethodId} {args : Array Value} {below : List Frame} {meth : Method} {c : Code} {D : va_G} {cy : Nat → ClassId} {S0 : Sg} (C : gC p s m args meth c D cy cX11_rounded 14 yX11_rounded.cls (some .long) yX11_rounded.name) {H : Heap} {locs : List Loc} {ls : Array Slot} {x0 : Int64} {x5 : Int32} {x10 : Int64} {S : Sg} {Q : Int64 → Sg → Prop} (hW : gW D cy (gA S0) (tg S0) s.heap S H locs) (hl : lv_has ls 14 [(0, .long x0), (5, .int x5), (10, .long x10)]) (hw : wX11_rounded_b98 x0 x5 x10 S Q) : W p l e { frames := 0, cells := 0, slots := 0, locals := 0 } s m args below meth c H locs 0 0 (MQ below (va_Ql Q (gB D cy S0) (gA S0)) args s 0 0 (gA S0)) (F0 m 98 ls []) := by
  have hx := C.1
  have hb := C.2.1
  unfold wX11_rounded_b98 at hw
  refine lv_lload hx hb dX11_rounded_98 (lv_at hl 2 rfl) ?_
  refine lv_lconst (v := 1) hx hb dX11_rounded_100 (by decide) ?_
  refine lv_ladd hx hb dX11_rounded_101 ?_
  refine lv_topl (fun y8 ey8 => ?_)
  have hw := hw y8 ey8
  refine lv_lstore (lv' := [(10, .long y8), (0, .long x0), (5, .int x5)]) hx hb dX11_rounded_102 hl (by decide) rfl (fun ls hl => ?_)
  exact kX11_rounded_b104 C hW (lv_sub hl [1, 2, 0] rfl) hw
set_option maxHeartbeats 4000000 in
set_option maxRecDepth 100000 in
theorem kX11_rounded_b42 {p : Program} {l : Launch} {e : Env} {s : State} {m : MethodId} {args : Array Value} {below : List Frame} {meth : Method} {c : Code} {D : va_G} {cy : Nat → ClassId} {S0 : Sg} (C : gC p s m args meth c D cy cX11_rounded 14 yX11_rounded.cls (some .long) yX11_rounded.name) {H : Heap} {locs : List Loc} {ls : Array Slot} {x0 : Int64} {x3 : Int64} {x5 : Int32} {S : Sg} {Q : Int64 → Sg → Prop} (hW : gW D cy (gA S0) (tg S0) s.heap S H locs) (hl : lv_has ls 14 [(0, .long x0), (3, .long x3), (5, .int x5)]) (hw : wX11_rounded_b42 x0 x3 x5 S Q) : W p l e { frames := 0, cells := 0, slots := 0, locals := 0 } s m args below meth c H locs 0 0 (MQ below (va_Ql Q (gB D cy S0) (gA S0)) args s 0 0 (gA S0)) (F0 m 42 ls []) := by
  have hx := C.1
  have hb := C.2.1
  unfold wX11_rounded_b42 at hw
  refine lv_iload hx hb dX11_rounded_42 (lv_at hl 2 rfl) ?_
  refine lv_if_ne (tgt := 49) hx hb dX11_rounded_44 (by decide) (fun c3 => ?_) (fun c3 => ?_)
  · have hw := w_f hw c3
    refine lv_lload_n hx hb dX11_rounded_49 rfl (lv_at hl 1 rfl) ?_
    refine lv_lconst (v := 1) hx hb dX11_rounded_50 (by decide) ?_
    refine lv_iload hx hb dX11_rounded_51 (lv_at hl 2 rfl) ?_
    refine lv_lshl (v := _) hx hb dX11_rounded_53 rfl ?_
    refine lv_lconst (v := 1) hx hb dX11_rounded_54 (by decide) ?_
    refine lv_lsub hx hb dX11_rounded_55 ?_
    refine lv_land hx hb dX11_rounded_56 ?_
    refine lv_topl (fun y4 ey4 => ?_)
    have hw := hw y4 ey4
    refine lv_lstore (lv' := [(6, .long y4), (0, .long x0), (3, .long x3), (5, .int x5)]) hx hb dX11_rounded_57 hl (by decide) rfl (fun ls hl => ?_)
    refine lv_lconst (v := 1) hx hb dX11_rounded_59 (by decide) ?_
    refine lv_iload hx hb dX11_rounded_60 (lv_at hl 3 rfl) ?_
    refine lv_iconst (v := 1) hx hb dX11_rounded_62 (by decide) ?_
    refine lv_isub hx hb dX11_rounded_63 ?_
    refine lv_lshl (v := _) hx hb dX11_rounded_64 rfl ?_
    refine lv_topl (fun y5 ey5 => ?_)
    have hw := hw y5 ey5
    refine lv_lstore (lv' := [(8, .long y5), (6, .long y4), (0, .long x0), (3, .long x3), (5, .int x5)]) hx hb dX11_rounded_65 hl (by decide) rfl (fun ls hl => ?_)
    refine lv_lload_n hx hb dX11_rounded_67 rfl (lv_at hl 3 rfl) ?_
    refine lv_iload hx hb dX11_rounded_68 (lv_at hl 4 rfl) ?_
    refine lv_lushr (v := _) hx hb dX11_rounded_70 rfl ?_
    refine lv_topl (fun y6 ey6 => ?_)
    have hw := hw y6 ey6
    refine lv_lstore (lv' := [(10, .long y6), (8, .long y5), (6, .long y4), (0, .long x0), (3, .long x3), (5, .int x5)]) hx hb dX11_rounded_71 hl (by decide) rfl (fun ls hl => ?_)
    refine lv_lload hx hb dX11_rounded_73 (lv_at hl 2 rfl) ?_
    refine lv_lload hx hb dX11_rounded_75 (lv_at hl 1 rfl) ?_
    refine W.lcmp hx hb dX11_rounded_77 ?_
    refine lv_if_gt (tgt := 98) hx hb dX11_rounded_78 (by decide) (fun c7 => ?_) (fun c7 => ?_)
    · have hw := w_t hw c7
      exact kX11_rounded_b98 C hW (lv_sub hl [3, 5, 0] rfl) hw
    · have hw := w_f hw c7
      refine lv_lload hx hb dX11_rounded_81 (lv_at hl 2 rfl) ?_
      refine lv_lload hx hb dX11_rounded_83 (lv_at hl 1 rfl) ?_
      refine W.lcmp hx hb dX11_rounded_85 ?_
      refine lv_if_ne (tgt := 104) hx hb dX11_rounded_86 (by decide) (fun c12 => ?_) (fun c12 => ?_)
      · have hw := w_f hw c12
        exact kX11_rounded_b104 C hW (lv_sub hl [3, 5, 0] rfl) hw
      · have hw := w_t hw c12
        refine lv_lload hx hb dX11_rounded_89 (lv_at hl 0 rfl) ?_
        refine lv_lconst (v := 1) hx hb dX11_rounded_91 (by decide) ?_
        refine lv_land hx hb dX11_rounded_92 ?_
        refine lv_lconst (v := 1) hx hb dX11_rounded_93 (by decide) ?_
        refine W.lcmp hx hb dX11_rounded_94 ?_
        refine lv_if_ne (tgt := 104) hx hb dX11_rounded_95 (by decide) (fun c13 => ?_) (fun c13 => ?_)
        · have hw := w_f hw c13
          exact kX11_rounded_b104 C hW (lv_sub hl [3, 5, 0] rfl) hw
        · have hw := w_t hw c13
          exact kX11_rounded_b98 C hW (lv_sub hl [3, 5, 0] rfl) hw
  · have hw := w_t hw c3
    refine lv_lload_n hx hb dX11_rounded_47 rfl (lv_at hl 0 rfl) ?_
    exact gx_lret C hW (Nat.le_of_ble_eq_true rfl) (Nat.le_of_ble_eq_true rfl) hw dX11_rounded_48
set_option maxHeartbeats 4000000 in
set_option maxRecDepth 100000 in
theorem kX11_rounded_l16 {p : Program} {l : Launch} {e : Env} {s : State} {m : MethodId} {args : Array Value} {below : List Frame} {meth : Method} {c : Code} {D : va_G} {cy : Nat → ClassId} {S0 : Sg} (C : gC p s m args meth c D cy cX11_rounded 14 yX11_rounded.cls (some .long) yX11_rounded.name) {x0 : Int64} {Q : Int64 → Sg → Prop} : ∀ (fu : Nat) (x2 : Int32) (x3 : Int64) (x5 : Int32) (S : Sg) (H : Heap) (locs : List Loc) (ls : Array Slot) (hW : gW D cy (gA S0) (tg S0) s.heap S H locs) (hl : lv_has ls 14 [(0, .long x0), (2, .int x2), (3, .long x3), (5, .int x5)]) (hw : wX11_rounded_b16 fu x0 x2 x3 x5 S Q), W p l e { frames := 0, cells := 0, slots := 0, locals := 0 } s m args below meth c H locs 0 0 (MQ below (va_Ql Q (gB D cy S0) (gA S0)) args s 0 0 (gA S0)) (F0 m 16 ls []) := by
  have hx := C.1
  have hb := C.2.1
  intro fu
  induction fu with
  | zero =>
    intro x2 x3 x5 S H locs ls hW hl hw
    unfold wX11_rounded_b16 at hw
    exact hw.elim
  | succ fu ih =>
    intro x2 x3 x5 S H locs ls hW hl hw
    unfold wX11_rounded_b16 at hw
    refine lv_iload hx hb dX11_rounded_16 (lv_at hl 3 rfl) ?_
    refine lv_bipush (v := 64) hx hb dX11_rounded_18 (by decide) ?_
    refine lv_iload_n hx hb dX11_rounded_20 rfl (lv_at hl 1 rfl) ?_
    refine lv_isub hx hb dX11_rounded_21 ?_
    refine lv_icmp_ge (tgt := 42) hx hb dX11_rounded_22 (by decide) (fun c2 => ?_) (fun c2 => ?_)
    · have hw := w_t hw c2
      exact kX11_rounded_b42 C hW (lv_sub hl [0, 2, 3] rfl) hw
    · have hw := w_f hw c2
      refine lv_lload_n hx hb dX11_rounded_25 rfl (lv_at hl 2 rfl) ?_
      refine lv_iload_n hx hb dX11_rounded_26 rfl (lv_at hl 1 rfl) ?_
      refine lv_iload hx hb dX11_rounded_27 (lv_at hl 3 rfl) ?_
      refine lv_iadd hx hb dX11_rounded_29 ?_
      refine lv_lushr (v := _) hx hb dX11_rounded_30 rfl ?_
      refine lv_lconst (v := 0) hx hb dX11_rounded_31 (by decide) ?_
      refine W.lcmp hx hb dX11_rounded_32 ?_
      refine lv_if_eq (tgt := 42) hx hb dX11_rounded_33 (by decide) (fun c14 => ?_) (fun c14 => ?_)
      · have hw := w_t hw c14
        exact kX11_rounded_b42 C hW (lv_sub hl [0, 2, 3] rfl) hw
      · have hw := w_f hw c14
        obtain ⟨y15, ey15⟩ : ∃ z : Int32, z = x5 + (1) := ⟨_, rfl⟩
        have hw := hw y15 ey15
        refine lv_iinc (v := y15) (lv' := [(5, .int y15), (0, .long x0), (2, .int x2), (3, .long x3)]) hx hb dX11_rounded_36 hl (k := 3) rfl (by rw [ey15]; rfl) (by decide) rfl (fun ls hl => ?_)
        refine lv_goto (tgt := 16) hx hb dX11_rounded_39 (by decide) ?_
        exact ih _ _ _ _ _ _ _ hW (lv_sub hl [1, 2, 3, 0] rfl) hw
theorem kX11_rounded_b16 {p : Program} {l : Launch} {e : Env} {s : State} {m : MethodId} {args : Array Value} {below : List Frame} {meth : Method} {c : Code} {D : va_G} {cy : Nat → ClassId} {S0 : Sg} (C : gC p s m args meth c D cy cX11_rounded 14 yX11_rounded.cls (some .long) yX11_rounded.name) {H : Heap} {locs : List Loc} {ls : Array Slot} {x0 : Int64} {x2 : Int32} {x3 : Int64} {x5 : Int32} {S : Sg} {Q : Int64 → Sg → Prop} (fu : Nat) (hW : gW D cy (gA S0) (tg S0) s.heap S H locs) (hl : lv_has ls 14 [(0, .long x0), (2, .int x2), (3, .long x3), (5, .int x5)]) (hw : wX11_rounded_b16 fu x0 x2 x3 x5 S Q) : W p l e { frames := 0, cells := 0, slots := 0, locals := 0 } s m args below meth c H locs 0 0 (MQ below (va_Ql Q (gB D cy S0) (gA S0)) args s 0 0 (gA S0)) (F0 m 16 ls []) := kX11_rounded_l16 C fu _ _ _ _ _ _ _ hW hl hw
set_option maxHeartbeats 4000000 in
set_option maxRecDepth 100000 in
theorem kX11_rounded_b12 {p : Program} {l : Launch} {e : Env} {s : State} {m : MethodId} {args : Array Value} {below : List Frame} {meth : Method} {c : Code} {D : va_G} {cy : Nat → ClassId} {S0 : Sg} (C : gC p s m args meth c D cy cX11_rounded 14 yX11_rounded.cls (some .long) yX11_rounded.name) {H : Heap} {locs : List Loc} {ls : Array Slot} {x0 : Int64} {x2 : Int32} {q0 : Int64} {S : Sg} {Q : Int64 → Sg → Prop} (hW : gW D cy (gA S0) (tg S0) s.heap S H locs) (hl : lv_has ls 14 [(0, .long x0), (2, .int x2)]) (hw : wX11_rounded_b12 x0 x2 q0 S Q) : W p l e { frames := 0, cells := 0, slots := 0, locals := 0 } s m args below meth c H locs 0 0 (MQ below (va_Ql Q (gB D cy S0) (gA S0)) args s 0 0 (gA S0)) (F0 m 12 ls [.long q0]) := by
  have hx := C.1
  have hb := C.2.1
  unfold wX11_rounded_b12 at hw
  refine lv_lstore_n (i := 3) (lv' := [(3, .long q0), (0, .long x0), (2, .int x2)]) hx hb dX11_rounded_12 rfl hl (by decide) rfl (fun ls hl => ?_)
  refine lv_iconst (v := 0) hx hb dX11_rounded_13 (by decide) ?_
  refine lv_istore (lv' := [(5, .int (0 : Int32)), (3, .long q0), (0, .long x0), (2, .int x2)]) hx hb dX11_rounded_14 hl (by decide) rfl (fun ls hl => ?_)
  obtain ⟨fu16, hw⟩ := hw
  exact kX11_rounded_b16 C fu16 hW (lv_sub hl [2, 3, 1, 0] rfl) hw
set_option maxHeartbeats 4000000 in
set_option maxRecDepth 100000 in
theorem mX11_rounded (l : Launch) (D : va_G) (cy : Nat → ClassId) (x0 : Int64) (x2 : Int32) (S0 : Sg) (Q : Int64 → Sg → Prop) (hw : wX11_rounded x0 x2 S0 Q) : Met l yX11_rounded (.code yX11_rounded cX11_rounded 14 (some .long) :: wsL_law) { frames := 0, cells := 0, slots := 0, locals := 0 } (gPc D cy [.long x0, .int x2] S0) (va_Ql Q (gB D cy S0) (gA S0)) 0 0 (gA S0) := by
  refine gx_met (by decide) (Nat.le_of_ble_eq_true rfl) ?_
  intro p e s m args below meth c ls C hW hl
  have hx := C.1
  have hb := C.2.1
  have hl : lv_has ls 14 [(0, .long x0), (2, .int x2)] := hl
  unfold wX11_rounded at hw
  refine lv_lload_n hx hb dX11_rounded_0 rfl (lv_at hl 0 rfl) ?_
  refine lv_lconst (v := 0) hx hb dX11_rounded_1 (by decide) ?_
  refine W.lcmp hx hb dX11_rounded_2 ?_
  refine lv_if_ge (tgt := 11) hx hb dX11_rounded_3 (by decide) (fun c1 => ?_) (fun c1 => ?_)
  · have hw := w_t hw c1
    refine lv_lload_n hx hb dX11_rounded_11 rfl (lv_at hl 0 rfl) ?_
    exact kX11_rounded_b12 C hW (lv_sub hl [0, 1] rfl) hw
  · have hw := w_f hw c1
    refine lv_lload_n hx hb dX11_rounded_6 rfl (lv_at hl 0 rfl) ?_
    refine lv_lneg hx hb dX11_rounded_7 ?_
    refine lv_goto (tgt := 12) hx hb dX11_rounded_8 (by decide) ?_
    exact kX11_rounded_b12 C hW (lv_sub hl [0, 1] rfl) hw
/-! TrialStairModel.fitted -/
def wX11_fitted (x0 : Int32) (x1 : Int64) (S0 : Sg) (Q : Int64 → Sg → Prop) : Prop := (if x0 = 0 then Q ((x1 <<< (((56 : Int32)).toInt64 &&& 63)) >>> (((56 : Int32)).toInt64 &&& 63)) S0 else (if x0 = 1 then Q (x1 &&& (65535 : Int64)) S0 else (if x0 = 2 then Q ((x1 <<< (((48 : Int32)).toInt64 &&& 63)) >>> (((48 : Int32)).toInt64 &&& 63)) S0 else (if x0 = 3 then Q ((x1 <<< (((32 : Int32)).toInt64 &&& 63)) >>> (((32 : Int32)).toInt64 &&& 63)) S0 else (if x0 = 5 then wX11_rounded x1 (24 : Int32) S0 (fun (r6 : Int64) (S7 : Sg) => Q r6 S7) else (if x0 = 6 then wX11_rounded x1 (53 : Int32) S0 (fun (r9 : Int64) (S10 : Sg) => Q r9 S10) else Q x1 S0))))))
set_option maxHeartbeats 4000000 in
set_option maxRecDepth 100000 in
theorem mX11_fitted (l : Launch) (D : va_G) (cy : Nat → ClassId) (x0 : Int32) (x1 : Int64) (S0 : Sg) (Q : Int64 → Sg → Prop) (hw : wX11_fitted x0 x1 S0 Q) : Met l yX11_fitted (.code yX11_fitted cX11_fitted 3 (some .long) :: wsL_law) { frames := 1, cells := 0, slots := 0, locals := 33 } (gPc D cy [.int x0, .long x1] S0) (va_Ql Q (gB D cy S0) (gA S0)) 0 0 (gA S0) := by
  refine gx_met (by decide) (Nat.le_of_ble_eq_true rfl) ?_
  intro p e s m args below meth c ls C hW hl
  have hx := C.1
  have hb := C.2.1
  have hl : lv_has ls 3 [(0, .int x0), (1, .long x1)] := hl
  unfold wX11_fitted at hw
  refine lv_iload_n hx hb dX11_fitted_0 rfl (lv_at hl 0 rfl) ?_
  by_cases c1 : x0 = (0 : Int32)
  · have hw := w_t hw c1
    refine lv_tableIn (off := 43) (tgt := 44) hx hb dX11_fitted_1 (by rw [c1]; decide) (by rw [c1]; decide) (by rw [c1]; rfl) (by decide) ?_
    refine lv_lload_n hx hb dX11_fitted_44 rfl (lv_at hl 1 rfl) ?_
    refine lv_bipush (v := 56) hx hb dX11_fitted_45 (by decide) ?_
    refine lv_lshl (v := _) hx hb dX11_fitted_47 rfl ?_
    refine lv_bipush (v := 56) hx hb dX11_fitted_48 (by decide) ?_
    refine lv_lshr (v := _) hx hb dX11_fitted_50 rfl ?_
    exact gx_lret C hW (Nat.le_of_ble_eq_true rfl) (Nat.le_of_ble_eq_true rfl) hw dX11_fitted_51
  · have hw := w_f hw c1
    by_cases c2 : x0 = (1 : Int32)
    · have hw := w_t hw c2
      refine lv_tableIn (off := 51) (tgt := 52) hx hb dX11_fitted_1 (by rw [c2]; decide) (by rw [c2]; decide) (by rw [c2]; rfl) (by decide) ?_
      refine lv_lload_n hx hb dX11_fitted_52 rfl (lv_at hl 1 rfl) ?_
      refine lv_ldc2 (v := 65535) hx hb C.2.2.2.1 (C.2.2.2.2.1 _ (List.mem_of_getElem? (i := 668) (by decide +kernel))) dX11_fitted_53 ?_
      refine lv_land hx hb dX11_fitted_56 ?_
      exact gx_lret C hW (Nat.le_of_ble_eq_true rfl) (Nat.le_of_ble_eq_true rfl) hw dX11_fitted_57
    · have hw := w_f hw c2
      by_cases c3 : x0 = (2 : Int32)
      · have hw := w_t hw c3
        refine lv_tableIn (off := 57) (tgt := 58) hx hb dX11_fitted_1 (by rw [c3]; decide) (by rw [c3]; decide) (by rw [c3]; rfl) (by decide) ?_
        refine lv_lload_n hx hb dX11_fitted_58 rfl (lv_at hl 1 rfl) ?_
        refine lv_bipush (v := 48) hx hb dX11_fitted_59 (by decide) ?_
        refine lv_lshl (v := _) hx hb dX11_fitted_61 rfl ?_
        refine lv_bipush (v := 48) hx hb dX11_fitted_62 (by decide) ?_
        refine lv_lshr (v := _) hx hb dX11_fitted_64 rfl ?_
        exact gx_lret C hW (Nat.le_of_ble_eq_true rfl) (Nat.le_of_ble_eq_true rfl) hw dX11_fitted_65
      · have hw := w_f hw c3
        by_cases c4 : x0 = (3 : Int32)
        · have hw := w_t hw c4
          refine lv_tableIn (off := 65) (tgt := 66) hx hb dX11_fitted_1 (by rw [c4]; decide) (by rw [c4]; decide) (by rw [c4]; rfl) (by decide) ?_
          refine lv_lload_n hx hb dX11_fitted_66 rfl (lv_at hl 1 rfl) ?_
          refine lv_bipush (v := 32) hx hb dX11_fitted_67 (by decide) ?_
          refine lv_lshl (v := _) hx hb dX11_fitted_69 rfl ?_
          refine lv_bipush (v := 32) hx hb dX11_fitted_70 (by decide) ?_
          refine lv_lshr (v := _) hx hb dX11_fitted_72 rfl ?_
          exact gx_lret C hW (Nat.le_of_ble_eq_true rfl) (Nat.le_of_ble_eq_true rfl) hw dX11_fitted_73
        · have hw := w_f hw c4
          by_cases c5 : x0 = (5 : Int32)
          · have hw := w_t hw c5
            refine lv_tableIn (off := 73) (tgt := 74) hx hb dX11_fitted_1 (by rw [c5]; decide) (by rw [c5]; decide) (by rw [c5]; rfl) (by decide) ?_
            refine lv_lload_n hx hb dX11_fitted_74 rfl (lv_at hl 1 rfl) ?_
            refine lv_bipush (v := 24) hx hb dX11_fitted_75 (by decide) ?_
            refine gx_cl (gx_rS C hW M11_283 (mX11_rounded l D cy _ _ _ _  hw) rfl rfl ⟨Nat.le_of_ble_eq_true rfl, Nat.le_of_ble_eq_true rfl⟩ rfl hl.1 rfl (gx_room0 (n := 4) (Nat.le_of_ble_eq_true rfl)) dX11_fitted_77 ⟨Nat.le_of_ble_eq_true rfl, Nat.le_of_ble_eq_true rfl⟩) hW (fun r6 S7 H locs hW hm hw => ?_)
            exact gx_lret C hW (Nat.le_of_ble_eq_true rfl) (Nat.le_of_ble_eq_true rfl) hw dX11_fitted_80
          · have hw := w_f hw c5
            by_cases c8 : x0 = (6 : Int32)
            · have hw := w_t hw c8
              refine lv_tableIn (off := 80) (tgt := 81) hx hb dX11_fitted_1 (by rw [c8]; decide) (by rw [c8]; decide) (by rw [c8]; rfl) (by decide) ?_
              refine lv_lload_n hx hb dX11_fitted_81 rfl (lv_at hl 1 rfl) ?_
              refine lv_bipush (v := 53) hx hb dX11_fitted_82 (by decide) ?_
              refine gx_cl (gx_rS C hW M11_283 (mX11_rounded l D cy _ _ _ _  hw) rfl rfl ⟨Nat.le_of_ble_eq_true rfl, Nat.le_of_ble_eq_true rfl⟩ rfl hl.1 rfl (gx_room0 (n := 4) (Nat.le_of_ble_eq_true rfl)) dX11_fitted_84 ⟨Nat.le_of_ble_eq_true rfl, Nat.le_of_ble_eq_true rfl⟩) hW (fun r9 S10 H locs hW hm hw => ?_)
              exact gx_lret C hW (Nat.le_of_ble_eq_true rfl) (Nat.le_of_ble_eq_true rfl) hw dX11_fitted_87
            · have hw := w_f hw c8
              refine gx_tdef (n := 7) (tgt := 88) hx hb dX11_fitted_1 (by decide) (by decide) (lt_s (lt_s (lt_s (lt_s (lt_s (lt_s (lt_s (lt_0) (fun hx9 => tb_ne c1 (by decide) hx9)) (fun hx9 => tb_ne c2 (by decide) hx9)) (fun hx9 => tb_ne c3 (by decide) hx9)) (fun hx9 => tb_ne c4 (by decide) hx9)) (fun hx9 => rfl)) (fun hx9 => tb_ne c5 (by decide) hx9)) (fun hx9 => tb_ne c8 (by decide) hx9)) ?_
              refine lv_lload_n hx hb dX11_fitted_88 rfl (lv_at hl 1 rfl) ?_
              exact gx_lret C hW (Nat.le_of_ble_eq_true rfl) (Nat.le_of_ble_eq_true rfl) hw dX11_fitted_89
/-! TrialStairModel.puts -/
def wX11_puts_b76 (x0 : Nat) (x2 : Int32) (x3 : Int32) (x4 : Int32) (x5 : Int64) (S : Sg) (Q : Int32 → Sg → Prop) : Prop := wX11_fitted x4 x5 S (fun (r8 : Int64) (S9 : Sg) => ∃ a10 : Nat, (fR S 724 x0) = some a10 ∧ tg S9 a10 = 14 ∧ vp_in (((64 : Int32) * x2) + x3) (ln S9 a10) ∧ ∀ S12 : Sg, S12 = sAL S9 a10 ((((64 : Int32) * x2) + x3)).toNatClampNeg r8 → Q (0 : Int32) S12)
def wX11_puts_b71 (x0 : Nat) (x2 : Int32) (x3 : Int32) (x4 : Int32) (x7 : Int32) (S : Sg) (Q : Int32 → Sg → Prop) : Prop := ∀ y20 : Int64, y20 = ((x7).toInt64) → wX11_puts_b76 x0 x2 x3 x4 y20 S Q
def wX11_puts (x0 : Nat) (x1 : Int32) (x2 : Int32) (x3 : Int32) (S0 : Sg) (Q : Int32 → Sg → Prop) : Prop := ∀ y1 : Int32, y1 = (x2 >>> ((3 : Int32) &&& 31)) → ∃ a2 : Nat, (fR S0 707 x0) = some a2 ∧ tg S0 a2 = 13 ∧ vp_in x1 (ln S0 a2) ∧ ∃ a4 : Nat, (fR S0 717 x0) = some a4 ∧ tg S0 a4 = 14 ∧ vp_in ((aI S0 a2 (x1).toNatClampNeg) &&& (7 : Int32)) (ln S0 a4) ∧ ∀ y6 : Int64, y6 = (aL S0 a4 (((aI S0 a2 (x1).toNatClampNeg) &&& (7 : Int32))).toNatClampNeg) → (if y1 = (7 : Int32) then vp_in x1 (ln S0 a2) ∧ ∃ a14 : Nat, (fR S0 718 x0) = some a14 ∧ tg S0 a14 = 13 ∧ vp_in ((aI S0 a2 (x1).toNatClampNeg) &&& (7 : Int32)) (ln S0 a14) ∧ ∀ y16 : Int32, y16 = (aI S0 a14 (((aI S0 a2 (x1).toNatClampNeg) &&& (7 : Int32))).toNatClampNeg) → ∃ a17 : Nat, (fR S0 723 x0) = some a17 ∧ tg S0 a17 = 15 ∧ vp_in x2 (ln S0 a17) ∧ (if (aI S0 a17 (x2).toNatClampNeg) = 0 then wX11_puts_b71 x0 x2 x3 y1 y16 S0 Q else (if y16 ≤ 0 then wX11_puts_b71 x0 x2 x3 y1 y16 S0 Q else ∃ a22 : Nat, (fR S0 719 x0) = some a22 ∧ tg S0 a22 = 13 ∧ vp_in y16 (ln S0 a22) ∧ (if (aI S0 a22 (y16).toNatClampNeg) = 0 then Q (10 : Int32) S0 else wX11_puts_b71 x0 x2 x3 y1 y16 S0 Q))) else wX11_puts_b76 x0 x2 x3 y1 y6 S0 Q)
set_option maxHeartbeats 4000000 in
set_option maxRecDepth 100000 in
theorem kX11_puts_b76 {p : Program} {l : Launch} {e : Env} {s : State} {m : MethodId} {args : Array Value} {below : List Frame} {meth : Method} {c : Code} {D : va_G} {cy : Nat → ClassId} {S0 : Sg} (C : gC p s m args meth c D cy cX11_puts 8 yX11_puts.cls (some .int) yX11_puts.name) {H : Heap} {locs : List Loc} {ls : Array Slot} {x0 : Nat} {x2 : Int32} {x3 : Int32} {x4 : Int32} {x5 : Int64} {S : Sg} {Q : Int32 → Sg → Prop} (hW : gW D cy (gA S0) (tg S0) s.heap S H locs) (t0 : tg S x0 = 12) (hl : lv_has ls 8 [(0, va_rf (some x0)), (2, .int x2), (3, .int x3), (4, .int x4), (5, .long x5)]) (hw : wX11_puts_b76 x0 x2 x3 x4 x5 S Q) : W p l e { frames := 2, cells := 0, slots := 0, locals := 55 } s m args below meth c H locs 0 0 (MQ below (va_Qi Q (gB D cy S0) (gA S0)) args s 0 0 (gA S0)) (F0 m 76 ls []) := by
  have hx := C.1
  have hb := C.2.1
  unfold wX11_puts_b76 at hw
  refine gx_aload_n hx hb dX11_puts_76 rfl (lv_at hl 0 rfl) ?_
  refine gx_getR C hW F11_63 (k := 724) rfl t0 rfl dX11_puts_77 ?_
  refine lv_bipush (v := 64) hx hb dX11_puts_80 (by decide) ?_
  refine lv_iload_n hx hb dX11_puts_82 rfl (lv_at hl 1 rfl) ?_
  refine lv_imul hx hb dX11_puts_83 ?_
  refine lv_iload_n hx hb dX11_puts_84 rfl (lv_at hl 2 rfl) ?_
  refine lv_iadd hx hb dX11_puts_85 ?_
  refine lv_iload hx hb dX11_puts_86 (lv_at hl 3 rfl) ?_
  refine lv_lload hx hb dX11_puts_88 (lv_at hl 4 rfl) ?_
  refine gx_cl (gx_rS C hW M11_277 (mX11_fitted l D cy _ _ _ _  hw) rfl rfl ⟨Nat.le_of_ble_eq_true rfl, Nat.le_of_ble_eq_true rfl⟩ rfl hl.1 rfl (gx_room0 (n := 4) (Nat.le_of_ble_eq_true rfl)) dX11_puts_90 ⟨Nat.le_of_ble_eq_true rfl, Nat.le_of_ble_eq_true rfl⟩) hW (fun r8 S9 H locs hW hm hw => ?_)
  have t0 := hm _ _ t0
  obtain ⟨a10, ha10, ta10, hw⟩ := hw
  obtain ⟨i11, hw⟩ := hw
  refine gx_last C hW ha10 ta10 i11 dX11_puts_93 (fun H locs S12 eS12 hW hm => ?_)
  have hw := hw S12 eS12
  have t0 := hm _ _ t0
  have ta10 := hm _ _ ta10
  refine lv_iconst (v := 0) hx hb dX11_puts_94 (by decide) ?_
  exact gx_iret C hW (Nat.le_of_ble_eq_true rfl) (Nat.le_of_ble_eq_true rfl) rfl hw dX11_puts_95
set_option maxHeartbeats 4000000 in
set_option maxRecDepth 100000 in
theorem kX11_puts_b71 {p : Program} {l : Launch} {e : Env} {s : State} {m : MethodId} {args : Array Value} {below : List Frame} {meth : Method} {c : Code} {D : va_G} {cy : Nat → ClassId} {S0 : Sg} (C : gC p s m args meth c D cy cX11_puts 8 yX11_puts.cls (some .int) yX11_puts.name) {H : Heap} {locs : List Loc} {ls : Array Slot} {x0 : Nat} {x2 : Int32} {x3 : Int32} {x4 : Int32} {x7 : Int32} {S : Sg} {Q : Int32 → Sg → Prop} (hW : gW D cy (gA S0) (tg S0) s.heap S H locs) (t0 : tg S x0 = 12) (hl : lv_has ls 8 [(0, va_rf (some x0)), (2, .int x2), (3, .int x3), (4, .int x4), (7, .int x7)]) (hw : wX11_puts_b71 x0 x2 x3 x4 x7 S Q) : W p l e { frames := 2, cells := 0, slots := 0, locals := 55 } s m args below meth c H locs 0 0 (MQ below (va_Qi Q (gB D cy S0) (gA S0)) args s 0 0 (gA S0)) (F0 m 71 ls []) := by
  have hx := C.1
  have hb := C.2.1
  unfold wX11_puts_b71 at hw
  refine lv_iload hx hb dX11_puts_71 (lv_at hl 4 rfl) ?_
  refine lv_i2l (v := _) hx hb dX11_puts_73 rfl ?_
  refine lv_topl (fun y20 ey20 => ?_)
  have hw := hw y20 ey20
  refine lv_lstore (lv' := [(5, .long y20), (0, va_rf (some x0)), (2, .int x2), (3, .int x3), (4, .int x4), (7, .int x7)]) hx hb dX11_puts_74 hl (by decide) rfl (fun ls hl => ?_)
  exact kX11_puts_b76 C hW t0 (lv_sub hl [1, 2, 3, 4, 0] rfl) hw
set_option maxHeartbeats 4000000 in
set_option maxRecDepth 100000 in
theorem mX11_puts (l : Launch) (D : va_G) (cy : Nat → ClassId) (x0 : Nat) (x1 : Int32) (x2 : Int32) (x3 : Int32) (S0 : Sg) (Q : Int32 → Sg → Prop) (t0 : tg S0 x0 = 12) (hw : wX11_puts x0 x1 x2 x3 S0 Q) : Met l yX11_puts (.code yX11_puts cX11_puts 8 (some .int) :: wsL_law) { frames := 2, cells := 0, slots := 0, locals := 55 } (gPc D cy [va_rf (some x0), .int x1, .int x2, .int x3] S0) (va_Qi Q (gB D cy S0) (gA S0)) 0 0 (gA S0) := by
  refine gx_met (by decide) (Nat.le_of_ble_eq_true rfl) ?_
  intro p e s m args below meth c ls C hW hl
  have hx := C.1
  have hb := C.2.1
  have hl : lv_has ls 8 [(0, va_rf (some x0)), (1, .int x1), (2, .int x2), (3, .int x3)] := hl
  unfold wX11_puts at hw
  refine lv_iload_n hx hb dX11_puts_0 rfl (lv_at hl 2 rfl) ?_
  refine lv_iconst (v := 3) hx hb dX11_puts_1 (by decide) ?_
  refine lv_ishr hx hb dX11_puts_2 ?_
  refine lv_topi (fun y1 ey1 => ?_)
  have hw := hw y1 ey1
  refine lv_istore (lv' := [(4, .int y1), (0, va_rf (some x0)), (1, .int x1), (2, .int x2), (3, .int x3)]) hx hb dX11_puts_3 hl (by decide) rfl (fun ls hl => ?_)
  refine gx_aload_n hx hb dX11_puts_5 rfl (lv_at hl 1 rfl) ?_
  refine gx_getR C hW F11_43 (k := 717) rfl t0 rfl dX11_puts_6 ?_
  refine gx_aload_n hx hb dX11_puts_9 rfl (lv_at hl 1 rfl) ?_
  refine gx_getR C hW F11_19 (k := 707) rfl t0 rfl dX11_puts_10 ?_
  refine lv_iload_n hx hb dX11_puts_13 rfl (lv_at hl 2 rfl) ?_
  obtain ⟨a2, ha2, ta2, hw⟩ := hw
  obtain ⟨i3, hw⟩ := hw
  refine gx_iald C hW ha2 ta2 i3 dX11_puts_14 ?_
  refine lv_bipush (v := 7) hx hb dX11_puts_15 (by decide) ?_
  refine lv_iand hx hb dX11_puts_17 ?_
  obtain ⟨a4, ha4, ta4, hw⟩ := hw
  obtain ⟨i5, hw⟩ := hw
  refine gx_lald C hW ha4 ta4 i5 dX11_puts_18 ?_
  refine lv_topl (fun y6 ey6 => ?_)
  have hw := hw y6 ey6
  refine lv_lstore (lv' := [(5, .long y6), (4, .int y1), (0, va_rf (some x0)), (1, .int x1), (2, .int x2), (3, .int x3)]) hx hb dX11_puts_19 hl (by decide) rfl (fun ls hl => ?_)
  refine lv_iload hx hb dX11_puts_21 (lv_at hl 1 rfl) ?_
  refine lv_bipush (v := 7) hx hb dX11_puts_23 (by decide) ?_
  refine lv_icmp_ne (tgt := 76) hx hb dX11_puts_25 (by decide) (fun c7 => ?_) (fun c7 => ?_)
  · have hw := w_f hw c7
    exact kX11_puts_b76 C hW t0 (lv_sub hl [2, 4, 5, 1, 0] rfl) hw
  · have hw := w_t hw c7
    refine gx_aload_n hx hb dX11_puts_28 rfl (lv_at hl 2 rfl) ?_
    refine gx_getR C hW F11_47 (k := 718) rfl t0 rfl dX11_puts_29 ?_
    refine gx_aload_n hx hb dX11_puts_32 rfl (lv_at hl 2 rfl) ?_
    refine gx_getR C hW F11_19 (k := 707) rfl t0 rfl dX11_puts_33 ?_
    refine lv_iload_n hx hb dX11_puts_36 rfl (lv_at hl 3 rfl) ?_
    obtain ⟨i13, hw⟩ := hw
    refine gx_iald C hW ha2 ta2 i13 dX11_puts_37 ?_
    refine lv_bipush (v := 7) hx hb dX11_puts_38 (by decide) ?_
    refine lv_iand hx hb dX11_puts_40 ?_
    obtain ⟨a14, ha14, ta14, hw⟩ := hw
    obtain ⟨i15, hw⟩ := hw
    refine gx_iald C hW ha14 ta14 i15 dX11_puts_41 ?_
    refine lv_topi (fun y16 ey16 => ?_)
    have hw := hw y16 ey16
    refine lv_istore (lv' := [(7, .int y16), (5, .long y6), (4, .int y1), (0, va_rf (some x0)), (1, .int x1), (2, .int x2), (3, .int x3)]) hx hb dX11_puts_42 hl (by decide) rfl (fun ls hl => ?_)
    refine gx_aload_n hx hb dX11_puts_44 rfl (lv_at hl 3 rfl) ?_
    refine gx_getR C hW F11_59 (k := 723) rfl t0 rfl dX11_puts_45 ?_
    refine lv_iload_n hx hb dX11_puts_48 rfl (lv_at hl 5 rfl) ?_
    obtain ⟨a17, ha17, ta17, hw⟩ := hw
    obtain ⟨i18, hw⟩ := hw
    refine gx_zald C hW ha17 ta17 i18 dX11_puts_49 ?_
    refine lv_if_eq (tgt := 71) hx hb dX11_puts_50 (by decide) (fun c19 => ?_) (fun c19 => ?_)
    · have hw := w_t hw c19
      exact kX11_puts_b71 C hW t0 (lv_sub hl [3, 5, 6, 2, 0] rfl) hw
    · have hw := w_f hw c19
      refine lv_iload hx hb dX11_puts_53 (lv_at hl 0 rfl) ?_
      refine lv_if_le (tgt := 71) hx hb dX11_puts_55 (by decide) (fun c21 => ?_) (fun c21 => ?_)
      · have hw := w_t hw c21
        exact kX11_puts_b71 C hW t0 (lv_sub hl [3, 5, 6, 2, 0] rfl) hw
      · have hw := w_f hw c21
        refine gx_aload_n hx hb dX11_puts_58 rfl (lv_at hl 3 rfl) ?_
        refine gx_getR C hW F11_50 (k := 719) rfl t0 rfl dX11_puts_59 ?_
        refine lv_iload hx hb dX11_puts_62 (lv_at hl 0 rfl) ?_
        obtain ⟨a22, ha22, ta22, hw⟩ := hw
        obtain ⟨i23, hw⟩ := hw
        refine gx_iald C hW ha22 ta22 i23 dX11_puts_64 ?_
        refine lv_if_ne (tgt := 71) hx hb dX11_puts_65 (by decide) (fun c24 => ?_) (fun c24 => ?_)
        · have hw := w_f hw c24
          exact kX11_puts_b71 C hW t0 (lv_sub hl [3, 5, 6, 2, 0] rfl) hw
        · have hw := w_t hw c24
          refine lv_bipush (v := 10) hx hb dX11_puts_68 (by decide) ?_
          exact gx_iret C hW (Nat.le_of_ble_eq_true rfl) (Nat.le_of_ble_eq_true rfl) rfl hw dX11_puts_70
/-! TrialStairModel.rows -/
def wX11_rows (x0 : Nat) (x1 : Int32) (S0 : Sg) (Q : Int32 → Sg → Prop) : Prop := ∃ a1 : Nat, (fR S0 704 x0) = some a1 ∧ tg S0 a1 = 13 ∧ vp_in x1 (ln S0 a1) ∧ ∀ y3 : Int32, y3 = (aI S0 a1 (x1).toNatClampNeg) → (if y3 ≤ (10 : Int32) then ∃ a5 : Nat, (fR S0 705 x0) = some a5 ∧ tg S0 a5 = 13 ∧ vp_in x1 (ln S0 a5) ∧ ∀ y7 : Int32, y7 = ((aI S0 a5 (x1).toNatClampNeg) &&& (63 : Int32)) → (if y3 = (7 : Int32) then wX11_makes x0 x1 y7 S0 (fun (r32 : Int32) (S33 : Sg) => Q r32 S33) else ∃ a9 : Nat, (fR S0 722 x0) = some a9 ∧ tg S0 a9 = 13 ∧ vp_in y7 (ln S0 a9) ∧ (if 0 ≤ (aI S0 a9 (y7).toNatClampNeg) then (if y3 = (10 : Int32) then ∃ a26 : Nat, (fR S0 706 x0) = some a26 ∧ tg S0 a26 = 13 ∧ vp_in x1 (ln S0 a26) ∧ vp_in y7 (ln S0 a9) ∧ ∃ a29 : Nat, (fR S0 717 x0) = some a29 ∧ tg S0 a29 = 14 ∧ vp_in ((aI S0 a26 (x1).toNatClampNeg) &&& (7 : Int32)) (ln S0 a29) ∧ ∀ S31 : Sg, S31 = sAL S0 a29 (((aI S0 a26 (x1).toNatClampNeg) &&& (7 : Int32))).toNatClampNeg (((aI S0 a9 (y7).toNatClampNeg)).toInt64) → Q (0 : Int32) S31 else ∃ a13 : Nat, (fR S0 706 x0) = some a13 ∧ tg S0 a13 = 13 ∧ vp_in x1 (ln S0 a13) ∧ wX11_intOf x0 (aI S0 a13 (x1).toNatClampNeg) S0 (fun (r15 : Int32) (S16 : Sg) => (if r15 < 0 then Q (6 : Int32) S16 else ∃ a18 : Nat, (fR S16 722 x0) = some a18 ∧ tg S16 a18 = 13 ∧ vp_in y7 (ln S16 a18) ∧ (if r15 < (aI S16 a18 (y7).toNatClampNeg) then (if y3 = (8 : Int32) then wX11_looksAt x0 x1 y7 r15 S16 (fun (r24 : Int32) (S25 : Sg) => Q r24 S25) else wX11_puts x0 x1 y7 r15 S16 (fun (r22 : Int32) (S23 : Sg) => Q r22 S23)) else Q (6 : Int32) S16)))) else Q (7 : Int32) S0)) else wX11_grids x0 x1 S0 (fun (r34 : Int32) (S35 : Sg) => Q r34 S35))
set_option maxHeartbeats 4000000 in
set_option maxRecDepth 100000 in
theorem mX11_rows (l : Launch) (D : va_G) (cy : Nat → ClassId) (x0 : Nat) (x1 : Int32) (S0 : Sg) (Q : Int32 → Sg → Prop) (t0 : tg S0 x0 = 12) (hw : wX11_rows x0 x1 S0 Q) : Met l yX11_rows (.code yX11_rows cX11_rows 5 (some .int) :: wsL_law) { frames := 3, cells := 0, slots := 0, locals := 82 } (gPc D cy [va_rf (some x0), .int x1] S0) (va_Qi Q (gB D cy S0) (gA S0)) 0 0 (gA S0) := by
  refine gx_met (by decide) (Nat.le_of_ble_eq_true rfl) ?_
  intro p e s m args below meth c ls C hW hl
  have hx := C.1
  have hb := C.2.1
  have hl : lv_has ls 5 [(0, va_rf (some x0)), (1, .int x1)] := hl
  unfold wX11_rows at hw
  refine gx_aload_n hx hb dX11_rows_0 rfl (lv_at hl 0 rfl) ?_
  refine gx_getR C hW F11_7 (k := 704) rfl t0 rfl dX11_rows_1 ?_
  refine lv_iload_n hx hb dX11_rows_4 rfl (lv_at hl 1 rfl) ?_
  obtain ⟨a1, ha1, ta1, hw⟩ := hw
  obtain ⟨i2, hw⟩ := hw
  refine gx_iald C hW ha1 ta1 i2 dX11_rows_5 ?_
  refine lv_topi (fun y3 ey3 => ?_)
  have hw := hw y3 ey3
  refine lv_istore_n (i := 2) (lv' := [(2, .int y3), (0, va_rf (some x0)), (1, .int x1)]) hx hb dX11_rows_6 rfl hl (by decide) rfl (fun ls hl => ?_)
  refine lv_iload_n hx hb dX11_rows_7 rfl (lv_at hl 0 rfl) ?_
  refine lv_bipush (v := 10) hx hb dX11_rows_8 (by decide) ?_
  refine lv_icmp_le (tgt := 19) hx hb dX11_rows_10 (by decide) (fun c4 => ?_) (fun c4 => ?_)
  · have hw := w_t hw c4
    refine gx_aload_n hx hb dX11_rows_19 rfl (lv_at hl 1 rfl) ?_
    refine gx_getR C hW F11_13 (k := 705) rfl t0 rfl dX11_rows_20 ?_
    refine lv_iload_n hx hb dX11_rows_23 rfl (lv_at hl 2 rfl) ?_
    obtain ⟨a5, ha5, ta5, hw⟩ := hw
    obtain ⟨i6, hw⟩ := hw
    refine gx_iald C hW ha5 ta5 i6 dX11_rows_24 ?_
    refine lv_bipush (v := 63) hx hb dX11_rows_25 (by decide) ?_
    refine lv_iand hx hb dX11_rows_27 ?_
    refine lv_topi (fun y7 ey7 => ?_)
    have hw := hw y7 ey7
    refine lv_istore_n (i := 3) (lv' := [(3, .int y7), (2, .int y3), (0, va_rf (some x0)), (1, .int x1)]) hx hb dX11_rows_28 rfl hl (by decide) rfl (fun ls hl => ?_)
    refine lv_iload_n hx hb dX11_rows_29 rfl (lv_at hl 1 rfl) ?_
    refine lv_bipush (v := 7) hx hb dX11_rows_30 (by decide) ?_
    refine lv_icmp_ne (tgt := 42) hx hb dX11_rows_32 (by decide) (fun c8 => ?_) (fun c8 => ?_)
    · have hw := w_f hw c8
      refine gx_aload_n hx hb dX11_rows_42 rfl (lv_at hl 2 rfl) ?_
      refine gx_getR C hW F11_56 (k := 722) rfl t0 rfl dX11_rows_43 ?_
      refine lv_iload_n hx hb dX11_rows_46 rfl (lv_at hl 0 rfl) ?_
      obtain ⟨a9, ha9, ta9, hw⟩ := hw
      obtain ⟨i10, hw⟩ := hw
      refine gx_iald C hW ha9 ta9 i10 dX11_rows_47 ?_
      refine lv_if_ge (tgt := 54) hx hb dX11_rows_48 (by decide) (fun c11 => ?_) (fun c11 => ?_)
      · have hw := w_t hw c11
        refine lv_iload_n hx hb dX11_rows_54 rfl (lv_at hl 1 rfl) ?_
        refine lv_bipush (v := 10) hx hb dX11_rows_55 (by decide) ?_
        refine lv_icmp_ne (tgt := 83) hx hb dX11_rows_57 (by decide) (fun c12 => ?_) (fun c12 => ?_)
        · have hw := w_f hw c12
          refine gx_aload_n hx hb dX11_rows_83 rfl (lv_at hl 2 rfl) ?_
          refine gx_aload_n hx hb dX11_rows_84 rfl (lv_at hl 2 rfl) ?_
          refine gx_getR C hW F11_16 (k := 706) rfl t0 rfl dX11_rows_85 ?_
          refine lv_iload_n hx hb dX11_rows_88 rfl (lv_at hl 3 rfl) ?_
          obtain ⟨a13, ha13, ta13, hw⟩ := hw
          obtain ⟨i14, hw⟩ := hw
          refine gx_iald C hW ha13 ta13 i14 dX11_rows_89 ?_
          refine gx_ci (gx_rV C hW M11_267 (mX11_intOf l D cy _ _ _ _ t0 hw) rfl rfl ⟨Nat.le_of_ble_eq_true rfl, Nat.le_of_ble_eq_true rfl⟩ rfl t0 (by decide) rfl rfl hl.1 rfl (gx_room0 (n := 4) (Nat.le_of_ble_eq_true rfl)) dX11_rows_90 ⟨Nat.le_of_ble_eq_true rfl, Nat.le_of_ble_eq_true rfl⟩) hW (fun r15 S16 H locs hW hm hw => ?_)
          have t0 := hm _ _ t0
          have ta1 := hm _ _ ta1
          have ta5 := hm _ _ ta5
          have ta9 := hm _ _ ta9
          have ta13 := hm _ _ ta13
          refine lv_istore (lv' := [(4, .int r15), (3, .int y7), (2, .int y3), (0, va_rf (some x0)), (1, .int x1)]) hx hb dX11_rows_93 hl (by decide) rfl (fun ls hl => ?_)
          refine lv_iload hx hb dX11_rows_95 (lv_at hl 0 rfl) ?_
          refine lv_if_lt (tgt := 111) hx hb dX11_rows_97 (by decide) (fun c17 => ?_) (fun c17 => ?_)
          · have hw := w_t hw c17
            refine lv_bipush (v := 6) hx hb dX11_rows_111 (by decide) ?_
            exact gx_iret C hW (Nat.le_of_ble_eq_true rfl) (Nat.le_of_ble_eq_true rfl) rfl hw dX11_rows_113
          · have hw := w_f hw c17
            refine lv_iload hx hb dX11_rows_100 (lv_at hl 0 rfl) ?_
            refine gx_aload_n hx hb dX11_rows_102 rfl (lv_at hl 3 rfl) ?_
            refine gx_getR C hW F11_56 (k := 722) rfl t0 rfl dX11_rows_103 ?_
            refine lv_iload_n hx hb dX11_rows_106 rfl (lv_at hl 1 rfl) ?_
            obtain ⟨a18, ha18, ta18, hw⟩ := hw
            obtain ⟨i19, hw⟩ := hw
            refine gx_iald C hW ha18 ta18 i19 dX11_rows_107 ?_
            refine lv_icmp_lt (tgt := 114) hx hb dX11_rows_108 (by decide) (fun c20 => ?_) (fun c20 => ?_)
            · have hw := w_t hw c20
              refine lv_iload_n hx hb dX11_rows_114 rfl (lv_at hl 2 rfl) ?_
              refine lv_bipush (v := 8) hx hb dX11_rows_115 (by decide) ?_
              refine lv_icmp_ne (tgt := 131) hx hb dX11_rows_117 (by decide) (fun c21 => ?_) (fun c21 => ?_)
              · have hw := w_f hw c21
                refine gx_aload_n hx hb dX11_rows_131 rfl (lv_at hl 3 rfl) ?_
                refine lv_iload_n hx hb dX11_rows_132 rfl (lv_at hl 4 rfl) ?_
                refine lv_iload_n hx hb dX11_rows_133 rfl (lv_at hl 1 rfl) ?_
                refine lv_iload hx hb dX11_rows_134 (lv_at hl 0 rfl) ?_
                refine gx_ci (gx_rV C hW M11_274 (mX11_puts l D cy _ _ _ _ _ _ t0 hw) rfl rfl ⟨Nat.le_of_ble_eq_true rfl, Nat.le_of_ble_eq_true rfl⟩ rfl t0 (by decide) rfl rfl hl.1 rfl (gx_room0 (n := 4) (Nat.le_of_ble_eq_true rfl)) dX11_rows_136 ⟨Nat.le_of_ble_eq_true rfl, Nat.le_of_ble_eq_true rfl⟩) hW (fun r22 S23 H locs hW hm hw => ?_)
                have t0 := hm _ _ t0
                have ta1 := hm _ _ ta1
                have ta5 := hm _ _ ta5
                have ta9 := hm _ _ ta9
                have ta13 := hm _ _ ta13
                have ta18 := hm _ _ ta18
                exact gx_iret C hW (Nat.le_of_ble_eq_true rfl) (Nat.le_of_ble_eq_true rfl) rfl hw dX11_rows_139
              · have hw := w_t hw c21
                refine gx_aload_n hx hb dX11_rows_120 rfl (lv_at hl 3 rfl) ?_
                refine lv_iload_n hx hb dX11_rows_121 rfl (lv_at hl 4 rfl) ?_
                refine lv_iload_n hx hb dX11_rows_122 rfl (lv_at hl 1 rfl) ?_
                refine lv_iload hx hb dX11_rows_123 (lv_at hl 0 rfl) ?_
                refine gx_ci (gx_rV C hW M11_270 (mX11_looksAt l D cy _ _ _ _ _ _ t0 hw) rfl rfl ⟨Nat.le_of_ble_eq_true rfl, Nat.le_of_ble_eq_true rfl⟩ rfl t0 (by decide) rfl rfl hl.1 rfl (gx_room0 (n := 4) (Nat.le_of_ble_eq_true rfl)) dX11_rows_125 ⟨Nat.le_of_ble_eq_true rfl, Nat.le_of_ble_eq_true rfl⟩) hW (fun r24 S25 H locs hW hm hw => ?_)
                have t0 := hm _ _ t0
                have ta1 := hm _ _ ta1
                have ta5 := hm _ _ ta5
                have ta9 := hm _ _ ta9
                have ta13 := hm _ _ ta13
                have ta18 := hm _ _ ta18
                refine lv_goto (tgt := 139) hx hb dX11_rows_128 (by decide) ?_
                exact gx_iret C hW (Nat.le_of_ble_eq_true rfl) (Nat.le_of_ble_eq_true rfl) rfl hw dX11_rows_139
            · have hw := w_f hw c20
              refine lv_bipush (v := 6) hx hb dX11_rows_111 (by decide) ?_
              exact gx_iret C hW (Nat.le_of_ble_eq_true rfl) (Nat.le_of_ble_eq_true rfl) rfl hw dX11_rows_113
        · have hw := w_t hw c12
          refine gx_aload_n hx hb dX11_rows_60 rfl (lv_at hl 2 rfl) ?_
          refine gx_getR C hW F11_43 (k := 717) rfl t0 rfl dX11_rows_61 ?_
          refine gx_aload_n hx hb dX11_rows_64 rfl (lv_at hl 2 rfl) ?_
          refine gx_getR C hW F11_16 (k := 706) rfl t0 rfl dX11_rows_65 ?_
          refine lv_iload_n hx hb dX11_rows_68 rfl (lv_at hl 3 rfl) ?_
          obtain ⟨a26, ha26, ta26, hw⟩ := hw
          obtain ⟨i27, hw⟩ := hw
          refine gx_iald C hW ha26 ta26 i27 dX11_rows_69 ?_
          refine lv_bipush (v := 7) hx hb dX11_rows_70 (by decide) ?_
          refine lv_iand hx hb dX11_rows_72 ?_
          refine gx_aload_n hx hb dX11_rows_73 rfl (lv_at hl 2 rfl) ?_
          refine gx_getR C hW F11_56 (k := 722) rfl t0 rfl dX11_rows_74 ?_
          refine lv_iload_n hx hb dX11_rows_77 rfl (lv_at hl 0 rfl) ?_
          obtain ⟨i28, hw⟩ := hw
          refine gx_iald C hW ha9 ta9 i28 dX11_rows_78 ?_
          refine lv_i2l (v := _) hx hb dX11_rows_79 rfl ?_
          obtain ⟨a29, ha29, ta29, hw⟩ := hw
          obtain ⟨i30, hw⟩ := hw
          refine gx_last C hW ha29 ta29 i30 dX11_rows_80 (fun H locs S31 eS31 hW hm => ?_)
          have hw := hw S31 eS31
          have t0 := hm _ _ t0
          have ta1 := hm _ _ ta1
          have ta5 := hm _ _ ta5
          have ta9 := hm _ _ ta9
          have ta26 := hm _ _ ta26
          have ta29 := hm _ _ ta29
          refine lv_iconst (v := 0) hx hb dX11_rows_81 (by decide) ?_
          exact gx_iret C hW (Nat.le_of_ble_eq_true rfl) (Nat.le_of_ble_eq_true rfl) rfl hw dX11_rows_82
      · have hw := w_f hw c11
        refine lv_bipush (v := 7) hx hb dX11_rows_51 (by decide) ?_
        exact gx_iret C hW (Nat.le_of_ble_eq_true rfl) (Nat.le_of_ble_eq_true rfl) rfl hw dX11_rows_53
    · have hw := w_t hw c8
      refine gx_aload_n hx hb dX11_rows_35 rfl (lv_at hl 2 rfl) ?_
      refine lv_iload_n hx hb dX11_rows_36 rfl (lv_at hl 3 rfl) ?_
      refine lv_iload_n hx hb dX11_rows_37 rfl (lv_at hl 0 rfl) ?_
      refine gx_ci (gx_rV C hW M11_263 (mX11_makes l D cy _ _ _ _ _ t0 hw) rfl rfl ⟨Nat.le_of_ble_eq_true rfl, Nat.le_of_ble_eq_true rfl⟩ rfl t0 (by decide) rfl rfl hl.1 rfl (gx_room0 (n := 4) (Nat.le_of_ble_eq_true rfl)) dX11_rows_38 ⟨Nat.le_of_ble_eq_true rfl, Nat.le_of_ble_eq_true rfl⟩) hW (fun r32 S33 H locs hW hm hw => ?_)
      have t0 := hm _ _ t0
      have ta1 := hm _ _ ta1
      have ta5 := hm _ _ ta5
      exact gx_iret C hW (Nat.le_of_ble_eq_true rfl) (Nat.le_of_ble_eq_true rfl) rfl hw dX11_rows_41
  · have hw := w_f hw c4
    refine gx_aload_n hx hb dX11_rows_13 rfl (lv_at hl 1 rfl) ?_
    refine lv_iload_n hx hb dX11_rows_14 rfl (lv_at hl 2 rfl) ?_
    refine gx_ci (gx_rV C hW M11_260 (mX11_grids l D cy _ _ _ _ t0 hw) rfl rfl ⟨Nat.le_of_ble_eq_true rfl, Nat.le_of_ble_eq_true rfl⟩ rfl t0 (by decide) rfl rfl hl.1 rfl (gx_room0 (n := 4) (Nat.le_of_ble_eq_true rfl)) dX11_rows_15 ⟨Nat.le_of_ble_eq_true rfl, Nat.le_of_ble_eq_true rfl⟩) hW (fun r34 S35 H locs hW hm hw => ?_)
    have t0 := hm _ _ t0
    have ta1 := hm _ _ ta1
    exact gx_iret C hW (Nat.le_of_ble_eq_true rfl) (Nat.le_of_ble_eq_true rfl) rfl hw dX11_rows_18
/-! TrialStairModel.newThing -/
def wX11_newThing (x0 : Nat) (x1 : Int32) (x2 : Int64) (S0 : Sg) (Q : Int32 → Sg → Prop) : Prop := (if x1 = (3 : Int32) then Q (0 : Int32) S0 else ∀ S2 : Sg, S2 = sFI S0 721 x0 ((fI S0 721 x0) + (1 : Int32)) → ∃ a3 : Nat, (fR S2 719 x0) = some a3 ∧ tg S2 a3 = 13 ∧ vp_in (fI S2 721 x0) (ln S2 a3) ∧ ∀ S5 : Sg, S5 = sAI S2 a3 ((fI S2 721 x0)).toNatClampNeg x1 → ∃ a6 : Nat, (fR S5 720 x0) = some a6 ∧ tg S5 a6 = 14 ∧ vp_in (fI S5 721 x0) (ln S5 a6) ∧ ∀ S8 : Sg, S8 = sAL S5 a6 ((fI S5 721 x0)).toNatClampNeg x2 → Q (fI S8 721 x0) S8)
set_option maxHeartbeats 4000000 in
set_option maxRecDepth 100000 in
theorem mX11_newThing (l : Launch) (D : va_G) (cy : Nat → ClassId) (x0 : Nat) (x1 : Int32) (x2 : Int64) (S0 : Sg) (Q : Int32 → Sg → Prop) (t0 : tg S0 x0 = 12) (hw : wX11_newThing x0 x1 x2 S0 Q) : Met l yX11_newThing (.code yX11_newThing cX11_newThing 4 (some .int) :: wsL_law) { frames := 0, cells := 0, slots := 0, locals := 0 } (gPc D cy [va_rf (some x0), .int x1, .long x2] S0) (va_Qi Q (gB D cy S0) (gA S0)) 0 0 (gA S0) := by
  refine gx_met (by decide) (Nat.le_of_ble_eq_true rfl) ?_
  intro p e s m args below meth c ls C hW hl
  have hx := C.1
  have hb := C.2.1
  have hl : lv_has ls 4 [(0, va_rf (some x0)), (1, .int x1), (2, .long x2)] := hl
  unfold wX11_newThing at hw
  refine lv_iload_n hx hb dX11_newThing_0 rfl (lv_at hl 1 rfl) ?_
  refine lv_iconst (v := 3) hx hb dX11_newThing_1 (by decide) ?_
  refine lv_icmp_ne (tgt := 7) hx hb dX11_newThing_2 (by decide) (fun c1 => ?_) (fun c1 => ?_)
  · have hw := w_f hw c1
    refine gx_aload_n hx hb dX11_newThing_7 rfl (lv_at hl 0 rfl) ?_
    refine lv_dup hx hb dX11_newThing_8 (va_rf_cat _) ?_
    refine gx_getI C hW F11_308 (k := 721) rfl t0 rfl dX11_newThing_9 ?_
    refine lv_iconst (v := 1) hx hb dX11_newThing_12 (by decide) ?_
    refine lv_iadd hx hb dX11_newThing_13 ?_
    refine gx_putI (k := 721) C hW F11_308 (Or.inl rfl) rfl t0 rfl rfl rfl dX11_newThing_14 (fun H locs S2 eS2 hW hm => ?_)
    have hw := hw S2 eS2
    have t0 := hm _ _ t0
    refine gx_aload_n hx hb dX11_newThing_17 rfl (lv_at hl 0 rfl) ?_
    refine gx_getR C hW F11_50 (k := 719) rfl t0 rfl dX11_newThing_18 ?_
    refine gx_aload_n hx hb dX11_newThing_21 rfl (lv_at hl 0 rfl) ?_
    refine gx_getI C hW F11_308 (k := 721) rfl t0 rfl dX11_newThing_22 ?_
    refine lv_iload_n hx hb dX11_newThing_25 rfl (lv_at hl 1 rfl) ?_
    obtain ⟨a3, ha3, ta3, hw⟩ := hw
    obtain ⟨i4, hw⟩ := hw
    refine gx_iast C hW ha3 ta3 i4 dX11_newThing_26 (fun H locs S5 eS5 hW hm => ?_)
    have hw := hw S5 eS5
    have t0 := hm _ _ t0
    have ta3 := hm _ _ ta3
    refine gx_aload_n hx hb dX11_newThing_27 rfl (lv_at hl 0 rfl) ?_
    refine gx_getR C hW F11_53 (k := 720) rfl t0 rfl dX11_newThing_28 ?_
    refine gx_aload_n hx hb dX11_newThing_31 rfl (lv_at hl 0 rfl) ?_
    refine gx_getI C hW F11_308 (k := 721) rfl t0 rfl dX11_newThing_32 ?_
    refine lv_lload_n hx hb dX11_newThing_35 rfl (lv_at hl 2 rfl) ?_
    obtain ⟨a6, ha6, ta6, hw⟩ := hw
    obtain ⟨i7, hw⟩ := hw
    refine gx_last C hW ha6 ta6 i7 dX11_newThing_36 (fun H locs S8 eS8 hW hm => ?_)
    have hw := hw S8 eS8
    have t0 := hm _ _ t0
    have ta3 := hm _ _ ta3
    have ta6 := hm _ _ ta6
    refine gx_aload_n hx hb dX11_newThing_37 rfl (lv_at hl 0 rfl) ?_
    refine gx_getI C hW F11_308 (k := 721) rfl t0 rfl dX11_newThing_38 ?_
    exact gx_iret C hW (Nat.le_of_ble_eq_true rfl) (Nat.le_of_ble_eq_true rfl) rfl hw dX11_newThing_41
  · have hw := w_t hw c1
    refine lv_iconst (v := 0) hx hb dX11_newThing_5 (by decide) ?_
    exact gx_iret C hW (Nat.le_of_ble_eq_true rfl) (Nat.le_of_ble_eq_true rfl) rfl hw dX11_newThing_6
/-! TrialStairModel.casts -/
def wX11_casts_b61 (x0 : Nat) (x1 : Int32) (x2 : Int32) (q0 : Int32) (S : Sg) (Q : Int32 → Sg → Prop) : Prop := (if q0 = 0 then Q (9 : Int32) S else ∃ a9 : Nat, (fR S 707 x0) = some a9 ∧ tg S a9 = 13 ∧ vp_in x1 (ln S a9) ∧ ∃ a11 : Nat, (fR S 718 x0) = some a11 ∧ tg S a11 = 13 ∧ vp_in ((aI S a9 (x1).toNatClampNeg) &&& (7 : Int32)) (ln S a11) ∧ ∀ S13 : Sg, S13 = sAI S a11 (((aI S a9 (x1).toNatClampNeg) &&& (7 : Int32))).toNatClampNeg x2 → Q (0 : Int32) S13)
def wX11_casts_b56 (x0 : Nat) (x1 : Int32) (x2 : Int32) (S : Sg) (Q : Int32 → Sg → Prop) : Prop := wX11_casts_b61 x0 x1 x2 (1 : Int32) S Q
def wX11_casts_b60 (x0 : Nat) (x1 : Int32) (x2 : Int32) (S : Sg) (Q : Int32 → Sg → Prop) : Prop := wX11_casts_b61 x0 x1 x2 (0 : Int32) S Q
def wX11_casts_b46 (x0 : Nat) (x1 : Int32) (x2 : Int32) (x3 : Int32) (x4 : Int32) (S : Sg) (Q : Int32 → Sg → Prop) : Prop := (if x3 ≤ 0 then wX11_casts_b60 x0 x1 x2 S Q else (if x4 = (3 : Int32) then wX11_casts_b56 x0 x1 x2 S Q else wX11_casts_b60 x0 x1 x2 S Q))
def wX11_casts_b14 (x0 : Nat) (x1 : Int32) (x2 : Int32) (q0 : Int32) (S : Sg) (Q : Int32 → Sg → Prop) : Prop := ∃ a4 : Nat, (fR S 706 x0) = some a4 ∧ tg S a4 = 13 ∧ vp_in x1 (ln S a4) ∧ ∀ y6 : Int32, y6 = ((aI S a4 (x1).toNatClampNeg) &&& (3 : Int32)) → (if q0 < 0 then wX11_casts_b56 x0 x1 x2 S Q else (if q0 = y6 then wX11_casts_b56 x0 x1 x2 S Q else (if q0 = (2 : Int32) then (if y6 = (1 : Int32) then wX11_casts_b56 x0 x1 x2 S Q else wX11_casts_b46 x0 x1 x2 q0 y6 S Q) else wX11_casts_b46 x0 x1 x2 q0 y6 S Q)))
def wX11_casts (x0 : Nat) (x1 : Int32) (x2 : Int32) (S0 : Sg) (Q : Int32 → Sg → Prop) : Prop := (if x2 = 0 then wX11_casts_b14 x0 x1 x2 (-1 : Int32) S0 Q else ∃ a2 : Nat, (fR S0 719 x0) = some a2 ∧ tg S0 a2 = 13 ∧ vp_in x2 (ln S0 a2) ∧ wX11_casts_b14 x0 x1 x2 (aI S0 a2 (x2).toNatClampNeg) S0 Q)
set_option maxHeartbeats 4000000 in
set_option maxRecDepth 100000 in
theorem kX11_casts_b61 {p : Program} {l : Launch} {e : Env} {s : State} {m : MethodId} {args : Array Value} {below : List Frame} {meth : Method} {c : Code} {D : va_G} {cy : Nat → ClassId} {S0 : Sg} (C : gC p s m args meth c D cy cX11_casts 6 yX11_casts.cls (some .int) yX11_casts.name) {H : Heap} {locs : List Loc} {ls : Array Slot} {x0 : Nat} {x1 : Int32} {x2 : Int32} {q0 : Int32} {S : Sg} {Q : Int32 → Sg → Prop} (hW : gW D cy (gA S0) (tg S0) s.heap S H locs) (t0 : tg S x0 = 12) (hl : lv_has ls 6 [(0, va_rf (some x0)), (1, .int x1), (2, .int x2)]) (hw : wX11_casts_b61 x0 x1 x2 q0 S Q) : W p l e { frames := 0, cells := 0, slots := 0, locals := 0 } s m args below meth c H locs 0 0 (MQ below (va_Qi Q (gB D cy S0) (gA S0)) args s 0 0 (gA S0)) (F0 m 61 ls [.int q0]) := by
  have hx := C.1
  have hb := C.2.1
  unfold wX11_casts_b61 at hw
  refine lv_istore (lv' := [(5, .int q0), (0, va_rf (some x0)), (1, .int x1), (2, .int x2)]) hx hb dX11_casts_61 hl (by decide) rfl (fun ls hl => ?_)
  refine lv_iload hx hb dX11_casts_63 (lv_at hl 0 rfl) ?_
  refine lv_if_ne (tgt := 71) hx hb dX11_casts_65 (by decide) (fun c8 => ?_) (fun c8 => ?_)
  · have hw := w_f hw c8
    refine gx_aload_n hx hb dX11_casts_71 rfl (lv_at hl 1 rfl) ?_
    refine gx_getR C hW F11_47 (k := 718) rfl t0 rfl dX11_casts_72 ?_
    refine gx_aload_n hx hb dX11_casts_75 rfl (lv_at hl 1 rfl) ?_
    refine gx_getR C hW F11_19 (k := 707) rfl t0 rfl dX11_casts_76 ?_
    refine lv_iload_n hx hb dX11_casts_79 rfl (lv_at hl 2 rfl) ?_
    obtain ⟨a9, ha9, ta9, hw⟩ := hw
    obtain ⟨i10, hw⟩ := hw
    refine gx_iald C hW ha9 ta9 i10 dX11_casts_80 ?_
    refine lv_bipush (v := 7) hx hb dX11_casts_81 (by decide) ?_
    refine lv_iand hx hb dX11_casts_83 ?_
    refine lv_iload_n hx hb dX11_casts_84 rfl (lv_at hl 3 rfl) ?_
    obtain ⟨a11, ha11, ta11, hw⟩ := hw
    obtain ⟨i12, hw⟩ := hw
    refine gx_iast C hW ha11 ta11 i12 dX11_casts_85 (fun H locs S13 eS13 hW hm => ?_)
    have hw := hw S13 eS13
    have t0 := hm _ _ t0
    have ta9 := hm _ _ ta9
    have ta11 := hm _ _ ta11
    refine lv_iconst (v := 0) hx hb dX11_casts_86 (by decide) ?_
    exact gx_iret C hW (Nat.le_of_ble_eq_true rfl) (Nat.le_of_ble_eq_true rfl) rfl hw dX11_casts_87
  · have hw := w_t hw c8
    refine lv_bipush (v := 9) hx hb dX11_casts_68 (by decide) ?_
    exact gx_iret C hW (Nat.le_of_ble_eq_true rfl) (Nat.le_of_ble_eq_true rfl) rfl hw dX11_casts_70
set_option maxHeartbeats 4000000 in
set_option maxRecDepth 100000 in
theorem kX11_casts_b56 {p : Program} {l : Launch} {e : Env} {s : State} {m : MethodId} {args : Array Value} {below : List Frame} {meth : Method} {c : Code} {D : va_G} {cy : Nat → ClassId} {S0 : Sg} (C : gC p s m args meth c D cy cX11_casts 6 yX11_casts.cls (some .int) yX11_casts.name) {H : Heap} {locs : List Loc} {ls : Array Slot} {x0 : Nat} {x1 : Int32} {x2 : Int32} {S : Sg} {Q : Int32 → Sg → Prop} (hW : gW D cy (gA S0) (tg S0) s.heap S H locs) (t0 : tg S x0 = 12) (hl : lv_has ls 6 [(0, va_rf (some x0)), (1, .int x1), (2, .int x2)]) (hw : wX11_casts_b56 x0 x1 x2 S Q) : W p l e { frames := 0, cells := 0, slots := 0, locals := 0 } s m args below meth c H locs 0 0 (MQ below (va_Qi Q (gB D cy S0) (gA S0)) args s 0 0 (gA S0)) (F0 m 56 ls []) := by
  have hx := C.1
  have hb := C.2.1
  unfold wX11_casts_b56 at hw
  refine lv_iconst (v := 1) hx hb dX11_casts_56 (by decide) ?_
  refine lv_goto (tgt := 61) hx hb dX11_casts_57 (by decide) ?_
  exact kX11_casts_b61 C hW t0 (lv_sub hl [0, 1, 2] rfl) hw
set_option maxHeartbeats 4000000 in
set_option maxRecDepth 100000 in
theorem kX11_casts_b60 {p : Program} {l : Launch} {e : Env} {s : State} {m : MethodId} {args : Array Value} {below : List Frame} {meth : Method} {c : Code} {D : va_G} {cy : Nat → ClassId} {S0 : Sg} (C : gC p s m args meth c D cy cX11_casts 6 yX11_casts.cls (some .int) yX11_casts.name) {H : Heap} {locs : List Loc} {ls : Array Slot} {x0 : Nat} {x1 : Int32} {x2 : Int32} {S : Sg} {Q : Int32 → Sg → Prop} (hW : gW D cy (gA S0) (tg S0) s.heap S H locs) (t0 : tg S x0 = 12) (hl : lv_has ls 6 [(0, va_rf (some x0)), (1, .int x1), (2, .int x2)]) (hw : wX11_casts_b60 x0 x1 x2 S Q) : W p l e { frames := 0, cells := 0, slots := 0, locals := 0 } s m args below meth c H locs 0 0 (MQ below (va_Qi Q (gB D cy S0) (gA S0)) args s 0 0 (gA S0)) (F0 m 60 ls []) := by
  have hx := C.1
  have hb := C.2.1
  unfold wX11_casts_b60 at hw
  refine lv_iconst (v := 0) hx hb dX11_casts_60 (by decide) ?_
  exact kX11_casts_b61 C hW t0 (lv_sub hl [0, 1, 2] rfl) hw
set_option maxHeartbeats 4000000 in
set_option maxRecDepth 100000 in
theorem kX11_casts_b46 {p : Program} {l : Launch} {e : Env} {s : State} {m : MethodId} {args : Array Value} {below : List Frame} {meth : Method} {c : Code} {D : va_G} {cy : Nat → ClassId} {S0 : Sg} (C : gC p s m args meth c D cy cX11_casts 6 yX11_casts.cls (some .int) yX11_casts.name) {H : Heap} {locs : List Loc} {ls : Array Slot} {x0 : Nat} {x1 : Int32} {x2 : Int32} {x3 : Int32} {x4 : Int32} {S : Sg} {Q : Int32 → Sg → Prop} (hW : gW D cy (gA S0) (tg S0) s.heap S H locs) (t0 : tg S x0 = 12) (hl : lv_has ls 6 [(0, va_rf (some x0)), (1, .int x1), (2, .int x2), (3, .int x3), (4, .int x4)]) (hw : wX11_casts_b46 x0 x1 x2 x3 x4 S Q) : W p l e { frames := 0, cells := 0, slots := 0, locals := 0 } s m args below meth c H locs 0 0 (MQ below (va_Qi Q (gB D cy S0) (gA S0)) args s 0 0 (gA S0)) (F0 m 46 ls []) := by
  have hx := C.1
  have hb := C.2.1
  unfold wX11_casts_b46 at hw
  refine lv_iload_n hx hb dX11_casts_46 rfl (lv_at hl 3 rfl) ?_
  refine lv_if_le (tgt := 60) hx hb dX11_casts_47 (by decide) (fun c16 => ?_) (fun c16 => ?_)
  · have hw := w_t hw c16
    exact kX11_casts_b60 C hW t0 (lv_sub hl [0, 1, 2] rfl) hw
  · have hw := w_f hw c16
    refine lv_iload hx hb dX11_casts_50 (lv_at hl 4 rfl) ?_
    refine lv_iconst (v := 3) hx hb dX11_casts_52 (by decide) ?_
    refine lv_icmp_ne (tgt := 60) hx hb dX11_casts_53 (by decide) (fun c17 => ?_) (fun c17 => ?_)
    · have hw := w_f hw c17
      exact kX11_casts_b60 C hW t0 (lv_sub hl [0, 1, 2] rfl) hw
    · have hw := w_t hw c17
      exact kX11_casts_b56 C hW t0 (lv_sub hl [0, 1, 2] rfl) hw
set_option maxHeartbeats 4000000 in
set_option maxRecDepth 100000 in
theorem kX11_casts_b14 {p : Program} {l : Launch} {e : Env} {s : State} {m : MethodId} {args : Array Value} {below : List Frame} {meth : Method} {c : Code} {D : va_G} {cy : Nat → ClassId} {S0 : Sg} (C : gC p s m args meth c D cy cX11_casts 6 yX11_casts.cls (some .int) yX11_casts.name) {H : Heap} {locs : List Loc} {ls : Array Slot} {x0 : Nat} {x1 : Int32} {x2 : Int32} {q0 : Int32} {S : Sg} {Q : Int32 → Sg → Prop} (hW : gW D cy (gA S0) (tg S0) s.heap S H locs) (t0 : tg S x0 = 12) (hl : lv_has ls 6 [(0, va_rf (some x0)), (1, .int x1), (2, .int x2)]) (hw : wX11_casts_b14 x0 x1 x2 q0 S Q) : W p l e { frames := 0, cells := 0, slots := 0, locals := 0 } s m args below meth c H locs 0 0 (MQ below (va_Qi Q (gB D cy S0) (gA S0)) args s 0 0 (gA S0)) (F0 m 14 ls [.int q0]) := by
  have hx := C.1
  have hb := C.2.1
  unfold wX11_casts_b14 at hw
  refine lv_istore_n (i := 3) (lv' := [(3, .int q0), (0, va_rf (some x0)), (1, .int x1), (2, .int x2)]) hx hb dX11_casts_14 rfl hl (by decide) rfl (fun ls hl => ?_)
  refine gx_aload_n hx hb dX11_casts_15 rfl (lv_at hl 1 rfl) ?_
  refine gx_getR C hW F11_16 (k := 706) rfl t0 rfl dX11_casts_16 ?_
  refine lv_iload_n hx hb dX11_casts_19 rfl (lv_at hl 2 rfl) ?_
  obtain ⟨a4, ha4, ta4, hw⟩ := hw
  obtain ⟨i5, hw⟩ := hw
  refine gx_iald C hW ha4 ta4 i5 dX11_casts_20 ?_
  refine lv_iconst (v := 3) hx hb dX11_casts_21 (by decide) ?_
  refine lv_iand hx hb dX11_casts_22 ?_
  refine lv_topi (fun y6 ey6 => ?_)
  have hw := hw y6 ey6
  refine lv_istore (lv' := [(4, .int y6), (3, .int q0), (0, va_rf (some x0)), (1, .int x1), (2, .int x2)]) hx hb dX11_casts_23 hl (by decide) rfl (fun ls hl => ?_)
  refine lv_iload_n hx hb dX11_casts_25 rfl (lv_at hl 1 rfl) ?_
  refine lv_if_lt (tgt := 56) hx hb dX11_casts_26 (by decide) (fun c7 => ?_) (fun c7 => ?_)
  · have hw := w_t hw c7
    exact kX11_casts_b56 C hW t0 (lv_sub hl [2, 3, 4] rfl) hw
  · have hw := w_f hw c7
    refine lv_iload_n hx hb dX11_casts_29 rfl (lv_at hl 1 rfl) ?_
    refine lv_iload hx hb dX11_casts_30 (lv_at hl 0 rfl) ?_
    refine lv_icmp_eq (tgt := 56) hx hb dX11_casts_32 (by decide) (fun c14 => ?_) (fun c14 => ?_)
    · have hw := w_t hw c14
      exact kX11_casts_b56 C hW t0 (lv_sub hl [2, 3, 4] rfl) hw
    · have hw := w_f hw c14
      refine lv_iload_n hx hb dX11_casts_35 rfl (lv_at hl 1 rfl) ?_
      refine lv_iconst (v := 2) hx hb dX11_casts_36 (by decide) ?_
      refine lv_icmp_ne (tgt := 46) hx hb dX11_casts_37 (by decide) (fun c15 => ?_) (fun c15 => ?_)
      · have hw := w_f hw c15
        exact kX11_casts_b46 C hW t0 (lv_sub hl [2, 3, 4, 1, 0] rfl) hw
      · have hw := w_t hw c15
        refine lv_iload hx hb dX11_casts_40 (lv_at hl 0 rfl) ?_
        refine lv_iconst (v := 1) hx hb dX11_casts_42 (by decide) ?_
        refine lv_icmp_eq (tgt := 56) hx hb dX11_casts_43 (by decide) (fun c18 => ?_) (fun c18 => ?_)
        · have hw := w_t hw c18
          exact kX11_casts_b56 C hW t0 (lv_sub hl [2, 3, 4] rfl) hw
        · have hw := w_f hw c18
          exact kX11_casts_b46 C hW t0 (lv_sub hl [2, 3, 4, 1, 0] rfl) hw
set_option maxHeartbeats 4000000 in
set_option maxRecDepth 100000 in
theorem mX11_casts (l : Launch) (D : va_G) (cy : Nat → ClassId) (x0 : Nat) (x1 : Int32) (x2 : Int32) (S0 : Sg) (Q : Int32 → Sg → Prop) (t0 : tg S0 x0 = 12) (hw : wX11_casts x0 x1 x2 S0 Q) : Met l yX11_casts (.code yX11_casts cX11_casts 6 (some .int) :: wsL_law) { frames := 0, cells := 0, slots := 0, locals := 0 } (gPc D cy [va_rf (some x0), .int x1, .int x2] S0) (va_Qi Q (gB D cy S0) (gA S0)) 0 0 (gA S0) := by
  refine gx_met (by decide) (Nat.le_of_ble_eq_true rfl) ?_
  intro p e s m args below meth c ls C hW hl
  have hx := C.1
  have hb := C.2.1
  have hl : lv_has ls 6 [(0, va_rf (some x0)), (1, .int x1), (2, .int x2)] := hl
  unfold wX11_casts at hw
  refine lv_iload_n hx hb dX11_casts_0 rfl (lv_at hl 2 rfl) ?_
  refine lv_if_ne (tgt := 8) hx hb dX11_casts_1 (by decide) (fun c1 => ?_) (fun c1 => ?_)
  · have hw := w_f hw c1
    refine gx_aload_n hx hb dX11_casts_8 rfl (lv_at hl 0 rfl) ?_
    refine gx_getR C hW F11_50 (k := 719) rfl t0 rfl dX11_casts_9 ?_
    refine lv_iload_n hx hb dX11_casts_12 rfl (lv_at hl 2 rfl) ?_
    obtain ⟨a2, ha2, ta2, hw⟩ := hw
    obtain ⟨i3, hw⟩ := hw
    refine gx_iald C hW ha2 ta2 i3 dX11_casts_13 ?_
    exact kX11_casts_b14 C hW t0 (lv_sub hl [0, 1, 2] rfl) hw
  · have hw := w_t hw c1
    refine lv_iconst (v := -1) hx hb dX11_casts_4 (by decide) ?_
    refine lv_goto (tgt := 14) hx hb dX11_casts_5 (by decide) ?_
    exact kX11_casts_b14 C hW t0 (lv_sub hl [0, 1, 2] rfl) hw
/-! TrialStairModel.makesOf -/
def wX11_makesOf_b129 (x0 : Nat) (x1 : Int32) (x9 : Int64) (S : Sg) (Q : Int32 → Sg → Prop) : Prop := ∃ a16 : Nat, (fR S 707 x0) = some a16 ∧ tg S a16 = 13 ∧ vp_in x1 (ln S a16) ∧ ∃ a18 : Nat, (fR S 717 x0) = some a18 ∧ tg S a18 = 14 ∧ vp_in ((aI S a16 (x1).toNatClampNeg) &&& (7 : Int32)) (ln S a18) ∧ ∀ S20 : Sg, S20 = sAL S a18 (((aI S a16 (x1).toNatClampNeg) &&& (7 : Int32))).toNatClampNeg x9 → Q (0 : Int32) S20
def wX11_makesOf_b126 (x0 : Nat) (x1 : Int32) (q0 : Int64) (q1 : Int64) (S : Sg) (Q : Int32 → Sg → Prop) : Prop := ∀ y22 : Int64, y22 = (q0 + q1) → wX11_makesOf_b129 x0 x1 y22 S Q
def wX11_makesOf_b99 (x0 : Nat) (x1 : Int32) (q0 : Int64) (S : Sg) (Q : Int32 → Sg → Prop) : Prop := wX11_makesOf_b129 x0 x1 q0 S Q
def wX11_makesOf_b46 (x0 : Nat) (x1 : Int32) (x2 : Int32) (x4 : Int64) (x6 : Int64) (x8 : Int32) (S : Sg) (Q : Int32 → Sg → Prop) : Prop := ∀ y13 : Int64, y13 = (((3 : Int64) * x4) + x6) → (if x2 = (19 : Int32) then (if x8 = 0 then wX11_makesOf_b99 x0 x1 (x6 + x4) S Q else (if x8 = (1 : Int32) then wX11_makesOf_b99 x0 x1 (x6 - x4) S Q else wX11_makesOf_b99 x0 x1 ((2 : Int64) * (x6 - x4)) S Q)) else (if x2 = (20 : Int32) then (if x8 = (2 : Int32) then wX11_makesOf_b126 x0 x1 (x6 ^^^ x4) (1 : Int64) S Q else wX11_makesOf_b126 x0 x1 (x6 ^^^ x4) (0 : Int64) S Q) else wX11_makesOf_b129 x0 x1 y13 S Q))
def wX11_makesOf (x0 : Nat) (x1 : Int32) (x2 : Int32) (x3 : Int32) (S0 : Sg) (Q : Int32 → Sg → Prop) : Prop := ∃ a1 : Nat, (fR S0 706 x0) = some a1 ∧ tg S0 a1 = 13 ∧ vp_in x1 (ln S0 a1) ∧ ∃ a3 : Nat, (fR S0 717 x0) = some a3 ∧ tg S0 a3 = 14 ∧ vp_in ((aI S0 a1 (x1).toNatClampNeg) &&& (7 : Int32)) (ln S0 a3) ∧ ∀ y5 : Int64, y5 = (aL S0 a3 (((aI S0 a1 (x1).toNatClampNeg) &&& (7 : Int32))).toNatClampNeg) → ∃ a6 : Nat, (fR S0 720 x0) = some a6 ∧ tg S0 a6 = 14 ∧ vp_in x3 (ln S0 a6) ∧ ∀ y8 : Int64, y8 = (aL S0 a6 (x3).toNatClampNeg) → ∃ a9 : Nat, (fR S0 719 x0) = some a9 ∧ tg S0 a9 = 13 ∧ vp_in x3 (ln S0 a9) ∧ ∀ y11 : Int32, y11 = (aI S0 a9 (x3).toNatClampNeg) → (if x2 = (20 : Int32) then (if y11 = 0 then Q (9 : Int32) S0 else wX11_makesOf_b46 x0 x1 x2 y5 y8 y11 S0 Q) else wX11_makesOf_b46 x0 x1 x2 y5 y8 y11 S0 Q)
set_option maxHeartbeats 4000000 in
set_option maxRecDepth 100000 in
theorem kX11_makesOf_b129 {p : Program} {l : Launch} {e : Env} {s : State} {m : MethodId} {args : Array Value} {below : List Frame} {meth : Method} {c : Code} {D : va_G} {cy : Nat → ClassId} {S0 : Sg} (C : gC p s m args meth c D cy cX11_makesOf 11 yX11_makesOf.cls (some .int) yX11_makesOf.name) {H : Heap} {locs : List Loc} {ls : Array Slot} {x0 : Nat} {x1 : Int32} {x9 : Int64} {S : Sg} {Q : Int32 → Sg → Prop} (hW : gW D cy (gA S0) (tg S0) s.heap S H locs) (t0 : tg S x0 = 12) (hl : lv_has ls 11 [(0, va_rf (some x0)), (1, .int x1), (9, .long x9)]) (hw : wX11_makesOf_b129 x0 x1 x9 S Q) : W p l e { frames := 0, cells := 0, slots := 0, locals := 0 } s m args below meth c H locs 0 0 (MQ below (va_Qi Q (gB D cy S0) (gA S0)) args s 0 0 (gA S0)) (F0 m 129 ls []) := by
  have hx := C.1
  have hb := C.2.1
  unfold wX11_makesOf_b129 at hw
  refine gx_aload_n hx hb dX11_makesOf_129 rfl (lv_at hl 0 rfl) ?_
  refine gx_getR C hW F11_43 (k := 717) rfl t0 rfl dX11_makesOf_130 ?_
  refine gx_aload_n hx hb dX11_makesOf_133 rfl (lv_at hl 0 rfl) ?_
  refine gx_getR C hW F11_19 (k := 707) rfl t0 rfl dX11_makesOf_134 ?_
  refine lv_iload_n hx hb dX11_makesOf_137 rfl (lv_at hl 1 rfl) ?_
  obtain ⟨a16, ha16, ta16, hw⟩ := hw
  obtain ⟨i17, hw⟩ := hw
  refine gx_iald C hW ha16 ta16 i17 dX11_makesOf_138 ?_
  refine lv_bipush (v := 7) hx hb dX11_makesOf_139 (by decide) ?_
  refine lv_iand hx hb dX11_makesOf_141 ?_
  refine lv_lload hx hb dX11_makesOf_142 (lv_at hl 2 rfl) ?_
  obtain ⟨a18, ha18, ta18, hw⟩ := hw
  obtain ⟨i19, hw⟩ := hw
  refine gx_last C hW ha18 ta18 i19 dX11_makesOf_144 (fun H locs S20 eS20 hW hm => ?_)
  have hw := hw S20 eS20
  have t0 := hm _ _ t0
  have ta16 := hm _ _ ta16
  have ta18 := hm _ _ ta18
  refine lv_iconst (v := 0) hx hb dX11_makesOf_145 (by decide) ?_
  exact gx_iret C hW (Nat.le_of_ble_eq_true rfl) (Nat.le_of_ble_eq_true rfl) rfl hw dX11_makesOf_146
set_option maxHeartbeats 4000000 in
set_option maxRecDepth 100000 in
theorem kX11_makesOf_b126 {p : Program} {l : Launch} {e : Env} {s : State} {m : MethodId} {args : Array Value} {below : List Frame} {meth : Method} {c : Code} {D : va_G} {cy : Nat → ClassId} {S0 : Sg} (C : gC p s m args meth c D cy cX11_makesOf 11 yX11_makesOf.cls (some .int) yX11_makesOf.name) {H : Heap} {locs : List Loc} {ls : Array Slot} {x0 : Nat} {x1 : Int32} {q0 : Int64} {q1 : Int64} {S : Sg} {Q : Int32 → Sg → Prop} (hW : gW D cy (gA S0) (tg S0) s.heap S H locs) (t0 : tg S x0 = 12) (hl : lv_has ls 11 [(0, va_rf (some x0)), (1, .int x1)]) (hw : wX11_makesOf_b126 x0 x1 q0 q1 S Q) : W p l e { frames := 0, cells := 0, slots := 0, locals := 0 } s m args below meth c H locs 0 0 (MQ below (va_Qi Q (gB D cy S0) (gA S0)) args s 0 0 (gA S0)) (F0 m 126 ls [.long q1, .long q0]) := by
  have hx := C.1
  have hb := C.2.1
  unfold wX11_makesOf_b126 at hw
  refine lv_ladd hx hb dX11_makesOf_126 ?_
  refine lv_topl (fun y22 ey22 => ?_)
  have hw := hw y22 ey22
  refine lv_lstore (lv' := [(9, .long y22), (0, va_rf (some x0)), (1, .int x1)]) hx hb dX11_makesOf_127 hl (by decide) rfl (fun ls hl => ?_)
  exact kX11_makesOf_b129 C hW t0 (lv_sub hl [1, 2, 0] rfl) hw
set_option maxHeartbeats 4000000 in
set_option maxRecDepth 100000 in
theorem kX11_makesOf_b99 {p : Program} {l : Launch} {e : Env} {s : State} {m : MethodId} {args : Array Value} {below : List Frame} {meth : Method} {c : Code} {D : va_G} {cy : Nat → ClassId} {S0 : Sg} (C : gC p s m args meth c D cy cX11_makesOf 11 yX11_makesOf.cls (some .int) yX11_makesOf.name) {H : Heap} {locs : List Loc} {ls : Array Slot} {x0 : Nat} {x1 : Int32} {q0 : Int64} {S : Sg} {Q : Int32 → Sg → Prop} (hW : gW D cy (gA S0) (tg S0) s.heap S H locs) (t0 : tg S x0 = 12) (hl : lv_has ls 11 [(0, va_rf (some x0)), (1, .int x1)]) (hw : wX11_makesOf_b99 x0 x1 q0 S Q) : W p l e { frames := 0, cells := 0, slots := 0, locals := 0 } s m args below meth c H locs 0 0 (MQ below (va_Qi Q (gB D cy S0) (gA S0)) args s 0 0 (gA S0)) (F0 m 99 ls [.long q0]) := by
  have hx := C.1
  have hb := C.2.1
  unfold wX11_makesOf_b99 at hw
  refine lv_lstore (lv' := [(9, .long q0), (0, va_rf (some x0)), (1, .int x1)]) hx hb dX11_makesOf_99 hl (by decide) rfl (fun ls hl => ?_)
  refine lv_goto (tgt := 129) hx hb dX11_makesOf_101 (by decide) ?_
  exact kX11_makesOf_b129 C hW t0 (lv_sub hl [1, 2, 0] rfl) hw
set_option maxHeartbeats 4000000 in
set_option maxRecDepth 100000 in
theorem kX11_makesOf_b46 {p : Program} {l : Launch} {e : Env} {s : State} {m : MethodId} {args : Array Value} {below : List Frame} {meth : Method} {c : Code} {D : va_G} {cy : Nat → ClassId} {S0 : Sg} (C : gC p s m args meth c D cy cX11_makesOf 11 yX11_makesOf.cls (some .int) yX11_makesOf.name) {H : Heap} {locs : List Loc} {ls : Array Slot} {x0 : Nat} {x1 : Int32} {x2 : Int32} {x4 : Int64} {x6 : Int64} {x8 : Int32} {S : Sg} {Q : Int32 → Sg → Prop} (hW : gW D cy (gA S0) (tg S0) s.heap S H locs) (t0 : tg S x0 = 12) (hl : lv_has ls 11 [(0, va_rf (some x0)), (1, .int x1), (2, .int x2), (4, .long x4), (6, .long x6), (8, .int x8)]) (hw : wX11_makesOf_b46 x0 x1 x2 x4 x6 x8 S Q) : W p l e { frames := 0, cells := 0, slots := 0, locals := 0 } s m args below meth c H locs 0 0 (MQ below (va_Qi Q (gB D cy S0) (gA S0)) args s 0 0 (gA S0)) (F0 m 46 ls []) := by
  have hx := C.1
  have hb := C.2.1
  unfold wX11_makesOf_b46 at hw
  refine lv_ldc2 (v := 3) hx hb C.2.2.2.1 (C.2.2.2.2.1 _ (List.mem_of_getElem? (i := 690) (by decide +kernel))) dX11_makesOf_46 ?_
  refine lv_lload hx hb dX11_makesOf_49 (lv_at hl 3 rfl) ?_
  refine lv_lmul hx hb dX11_makesOf_51 ?_
  refine lv_lload hx hb dX11_makesOf_52 (lv_at hl 4 rfl) ?_
  refine lv_ladd hx hb dX11_makesOf_54 ?_
  refine lv_topl (fun y13 ey13 => ?_)
  have hw := hw y13 ey13
  refine lv_lstore (lv' := [(9, .long y13), (0, va_rf (some x0)), (1, .int x1), (2, .int x2), (4, .long x4), (6, .long x6), (8, .int x8)]) hx hb dX11_makesOf_55 hl (by decide) rfl (fun ls hl => ?_)
  refine lv_iload_n hx hb dX11_makesOf_57 rfl (lv_at hl 3 rfl) ?_
  refine lv_bipush (v := 19) hx hb dX11_makesOf_58 (by decide) ?_
  refine lv_icmp_ne (tgt := 104) hx hb dX11_makesOf_60 (by decide) (fun c14 => ?_) (fun c14 => ?_)
  · have hw := w_f hw c14
    refine lv_iload_n hx hb dX11_makesOf_104 rfl (lv_at hl 3 rfl) ?_
    refine lv_bipush (v := 20) hx hb dX11_makesOf_105 (by decide) ?_
    refine lv_icmp_ne (tgt := 129) hx hb dX11_makesOf_107 (by decide) (fun c15 => ?_) (fun c15 => ?_)
    · have hw := w_f hw c15
      exact kX11_makesOf_b129 C hW t0 (lv_sub hl [1, 2, 0] rfl) hw
    · have hw := w_t hw c15
      refine lv_lload hx hb dX11_makesOf_110 (lv_at hl 5 rfl) ?_
      refine lv_lload hx hb dX11_makesOf_112 (lv_at hl 4 rfl) ?_
      refine lv_lxor hx hb dX11_makesOf_114 ?_
      refine lv_iload hx hb dX11_makesOf_115 (lv_at hl 6 rfl) ?_
      refine lv_iconst (v := 2) hx hb dX11_makesOf_117 (by decide) ?_
      refine lv_icmp_ne (tgt := 125) hx hb dX11_makesOf_118 (by decide) (fun c21 => ?_) (fun c21 => ?_)
      · have hw := w_f hw c21
        refine lv_lconst (v := 0) hx hb dX11_makesOf_125 (by decide) ?_
        exact kX11_makesOf_b126 C hW t0 (lv_sub hl [1, 2] rfl) hw
      · have hw := w_t hw c21
        refine lv_lconst (v := 1) hx hb dX11_makesOf_121 (by decide) ?_
        refine lv_goto (tgt := 126) hx hb dX11_makesOf_122 (by decide) ?_
        exact kX11_makesOf_b126 C hW t0 (lv_sub hl [1, 2] rfl) hw
  · have hw := w_t hw c14
    refine lv_iload hx hb dX11_makesOf_63 (lv_at hl 6 rfl) ?_
    refine lv_if_ne (tgt := 76) hx hb dX11_makesOf_65 (by decide) (fun c23 => ?_) (fun c23 => ?_)
    · have hw := w_f hw c23
      refine lv_iload hx hb dX11_makesOf_76 (lv_at hl 6 rfl) ?_
      refine lv_iconst (v := 1) hx hb dX11_makesOf_78 (by decide) ?_
      refine lv_icmp_ne (tgt := 90) hx hb dX11_makesOf_79 (by decide) (fun c24 => ?_) (fun c24 => ?_)
      · have hw := w_f hw c24
        refine lv_ldc2 (v := 2) hx hb C.2.2.2.1 (C.2.2.2.2.1 _ (List.mem_of_getElem? (i := 691) (by decide +kernel))) dX11_makesOf_90 ?_
        refine lv_lload hx hb dX11_makesOf_93 (lv_at hl 5 rfl) ?_
        refine lv_lload hx hb dX11_makesOf_95 (lv_at hl 4 rfl) ?_
        refine lv_lsub hx hb dX11_makesOf_97 ?_
        refine lv_lmul hx hb dX11_makesOf_98 ?_
        exact kX11_makesOf_b99 C hW t0 (lv_sub hl [1, 2] rfl) hw
      · have hw := w_t hw c24
        refine lv_lload hx hb dX11_makesOf_82 (lv_at hl 5 rfl) ?_
        refine lv_lload hx hb dX11_makesOf_84 (lv_at hl 4 rfl) ?_
        refine lv_lsub hx hb dX11_makesOf_86 ?_
        refine lv_goto (tgt := 99) hx hb dX11_makesOf_87 (by decide) ?_
        exact kX11_makesOf_b99 C hW t0 (lv_sub hl [1, 2] rfl) hw
    · have hw := w_t hw c23
      refine lv_lload hx hb dX11_makesOf_68 (lv_at hl 5 rfl) ?_
      refine lv_lload hx hb dX11_makesOf_70 (lv_at hl 4 rfl) ?_
      refine lv_ladd hx hb dX11_makesOf_72 ?_
      refine lv_goto (tgt := 99) hx hb dX11_makesOf_73 (by decide) ?_
      exact kX11_makesOf_b99 C hW t0 (lv_sub hl [1, 2] rfl) hw
set_option maxHeartbeats 4000000 in
set_option maxRecDepth 100000 in
theorem mX11_makesOf (l : Launch) (D : va_G) (cy : Nat → ClassId) (x0 : Nat) (x1 : Int32) (x2 : Int32) (x3 : Int32) (S0 : Sg) (Q : Int32 → Sg → Prop) (t0 : tg S0 x0 = 12) (hw : wX11_makesOf x0 x1 x2 x3 S0 Q) : Met l yX11_makesOf (.code yX11_makesOf cX11_makesOf 11 (some .int) :: wsL_law) { frames := 0, cells := 0, slots := 0, locals := 0 } (gPc D cy [va_rf (some x0), .int x1, .int x2, .int x3] S0) (va_Qi Q (gB D cy S0) (gA S0)) 0 0 (gA S0) := by
  refine gx_met (by decide) (Nat.le_of_ble_eq_true rfl) ?_
  intro p e s m args below meth c ls C hW hl
  have hx := C.1
  have hb := C.2.1
  have hl : lv_has ls 11 [(0, va_rf (some x0)), (1, .int x1), (2, .int x2), (3, .int x3)] := hl
  unfold wX11_makesOf at hw
  refine gx_aload_n hx hb dX11_makesOf_0 rfl (lv_at hl 0 rfl) ?_
  refine gx_getR C hW F11_43 (k := 717) rfl t0 rfl dX11_makesOf_1 ?_
  refine gx_aload_n hx hb dX11_makesOf_4 rfl (lv_at hl 0 rfl) ?_
  refine gx_getR C hW F11_16 (k := 706) rfl t0 rfl dX11_makesOf_5 ?_
  refine lv_iload_n hx hb dX11_makesOf_8 rfl (lv_at hl 1 rfl) ?_
  obtain ⟨a1, ha1, ta1, hw⟩ := hw
  obtain ⟨i2, hw⟩ := hw
  refine gx_iald C hW ha1 ta1 i2 dX11_makesOf_9 ?_
  refine lv_bipush (v := 7) hx hb dX11_makesOf_10 (by decide) ?_
  refine lv_iand hx hb dX11_makesOf_12 ?_
  obtain ⟨a3, ha3, ta3, hw⟩ := hw
  obtain ⟨i4, hw⟩ := hw
  refine gx_lald C hW ha3 ta3 i4 dX11_makesOf_13 ?_
  refine lv_topl (fun y5 ey5 => ?_)
  have hw := hw y5 ey5
  refine lv_lstore (lv' := [(4, .long y5), (0, va_rf (some x0)), (1, .int x1), (2, .int x2), (3, .int x3)]) hx hb dX11_makesOf_14 hl (by decide) rfl (fun ls hl => ?_)
  refine gx_aload_n hx hb dX11_makesOf_16 rfl (lv_at hl 1 rfl) ?_
  refine gx_getR C hW F11_53 (k := 720) rfl t0 rfl dX11_makesOf_17 ?_
  refine lv_iload_n hx hb dX11_makesOf_20 rfl (lv_at hl 4 rfl) ?_
  obtain ⟨a6, ha6, ta6, hw⟩ := hw
  obtain ⟨i7, hw⟩ := hw
  refine gx_lald C hW ha6 ta6 i7 dX11_makesOf_21 ?_
  refine lv_topl (fun y8 ey8 => ?_)
  have hw := hw y8 ey8
  refine lv_lstore (lv' := [(6, .long y8), (4, .long y5), (0, va_rf (some x0)), (1, .int x1), (2, .int x2), (3, .int x3)]) hx hb dX11_makesOf_22 hl (by decide) rfl (fun ls hl => ?_)
  refine gx_aload_n hx hb dX11_makesOf_24 rfl (lv_at hl 2 rfl) ?_
  refine gx_getR C hW F11_50 (k := 719) rfl t0 rfl dX11_makesOf_25 ?_
  refine lv_iload_n hx hb dX11_makesOf_28 rfl (lv_at hl 5 rfl) ?_
  obtain ⟨a9, ha9, ta9, hw⟩ := hw
  obtain ⟨i10, hw⟩ := hw
  refine gx_iald C hW ha9 ta9 i10 dX11_makesOf_29 ?_
  refine lv_topi (fun y11 ey11 => ?_)
  have hw := hw y11 ey11
  refine lv_istore (lv' := [(8, .int y11), (6, .long y8), (4, .long y5), (0, va_rf (some x0)), (1, .int x1), (2, .int x2), (3, .int x3)]) hx hb dX11_makesOf_30 hl (by decide) rfl (fun ls hl => ?_)
  refine lv_iload_n hx hb dX11_makesOf_32 rfl (lv_at hl 5 rfl) ?_
  refine lv_bipush (v := 20) hx hb dX11_makesOf_33 (by decide) ?_
  refine lv_icmp_ne (tgt := 46) hx hb dX11_makesOf_35 (by decide) (fun c12 => ?_) (fun c12 => ?_)
  · have hw := w_f hw c12
    exact kX11_makesOf_b46 C hW t0 (lv_sub hl [3, 4, 5, 2, 1, 0] rfl) hw
  · have hw := w_t hw c12
    refine lv_iload hx hb dX11_makesOf_38 (lv_at hl 0 rfl) ?_
    refine lv_if_ne (tgt := 46) hx hb dX11_makesOf_40 (by decide) (fun c25 => ?_) (fun c25 => ?_)
    · have hw := w_f hw c25
      exact kX11_makesOf_b46 C hW t0 (lv_sub hl [3, 4, 5, 2, 1, 0] rfl) hw
    · have hw := w_t hw c25
      refine lv_bipush (v := 9) hx hb dX11_makesOf_43 (by decide) ?_
      exact gx_iret C hW (Nat.le_of_ble_eq_true rfl) (Nat.le_of_ble_eq_true rfl) rfl hw dX11_makesOf_45
/-! TrialStairModel.withThings -/
def wX11_withThings (x0 : Nat) (x1 : Int32) (S0 : Sg) (Q : Int32 → Sg → Prop) : Prop := ∃ a1 : Nat, (fR S0 704 x0) = some a1 ∧ tg S0 a1 = 13 ∧ vp_in x1 (ln S0 a1) ∧ ∀ y3 : Int32, y3 = (aI S0 a1 (x1).toNatClampNeg) → ∃ a4 : Nat, (fR S0 705 x0) = some a4 ∧ tg S0 a4 = 13 ∧ vp_in x1 (ln S0 a4) ∧ ∃ a6 : Nat, (fR S0 718 x0) = some a6 ∧ tg S0 a6 = 13 ∧ vp_in ((aI S0 a4 (x1).toNatClampNeg) &&& (7 : Int32)) (ln S0 a6) ∧ ∀ y8 : Int32, y8 = (aI S0 a6 (((aI S0 a4 (x1).toNatClampNeg) &&& (7 : Int32))).toNatClampNeg) → (if y3 = (14 : Int32) then vp_in x1 (ln S0 a4) ∧ ∃ a38 : Nat, (fR S0 706 x0) = some a38 ∧ tg S0 a38 = 13 ∧ vp_in x1 (ln S0 a38) ∧ ∃ a40 : Nat, (fR S0 707 x0) = some a40 ∧ tg S0 a40 = 13 ∧ vp_in x1 (ln S0 a40) ∧ ∃ a42 : Nat, (fR S0 717 x0) = some a42 ∧ tg S0 a42 = 14 ∧ vp_in ((aI S0 a40 (x1).toNatClampNeg) &&& (7 : Int32)) (ln S0 a42) ∧ wX11_newThing x0 ((aI S0 a38 (x1).toNatClampNeg) &&& (3 : Int32)) (aL S0 a42 (((aI S0 a40 (x1).toNatClampNeg) &&& (7 : Int32))).toNatClampNeg) S0 (fun (r44 : Int32) (S45 : Sg) => vp_in ((aI S0 a4 (x1).toNatClampNeg) &&& (7 : Int32)) (ln S45 a6) ∧ ∀ S47 : Sg, S47 = sAI S45 a6 (((aI S0 a4 (x1).toNatClampNeg) &&& (7 : Int32))).toNatClampNeg r44 → Q (0 : Int32) S47) else (if y3 = (15 : Int32) then ∃ a33 : Nat, (fR S0 706 x0) = some a33 ∧ tg S0 a33 = 13 ∧ vp_in x1 (ln S0 a33) ∧ vp_in ((aI S0 a33 (x1).toNatClampNeg) &&& (7 : Int32)) (ln S0 a6) ∧ ∀ S36 : Sg, S36 = sAI S0 a6 (((aI S0 a33 (x1).toNatClampNeg) &&& (7 : Int32))).toNatClampNeg y8 → Q (0 : Int32) S36 else (if y3 = (18 : Int32) then wX11_casts x0 x1 y8 S0 (fun (r31 : Int32) (S32 : Sg) => Q r31 S32) else (if y8 = 0 then Q (7 : Int32) S0 else (if y3 = (16 : Int32) then ∃ a24 : Nat, (fR S0 706 x0) = some a24 ∧ tg S0 a24 = 13 ∧ vp_in x1 (ln S0 a24) ∧ ∃ a26 : Nat, (fR S0 720 x0) = some a26 ∧ tg S0 a26 = 14 ∧ vp_in y8 (ln S0 a26) ∧ ∃ a28 : Nat, (fR S0 717 x0) = some a28 ∧ tg S0 a28 = 14 ∧ vp_in ((aI S0 a24 (x1).toNatClampNeg) &&& (7 : Int32)) (ln S0 a28) ∧ ∀ S30 : Sg, S30 = sAL S0 a28 (((aI S0 a24 (x1).toNatClampNeg) &&& (7 : Int32))).toNatClampNeg (aL S0 a26 (y8).toNatClampNeg) → Q (0 : Int32) S30 else (if y3 = (17 : Int32) then ∃ a17 : Nat, (fR S0 706 x0) = some a17 ∧ tg S0 a17 = 13 ∧ vp_in x1 (ln S0 a17) ∧ ∃ a19 : Nat, (fR S0 717 x0) = some a19 ∧ tg S0 a19 = 14 ∧ vp_in ((aI S0 a17 (x1).toNatClampNeg) &&& (7 : Int32)) (ln S0 a19) ∧ ∃ a21 : Nat, (fR S0 720 x0) = some a21 ∧ tg S0 a21 = 14 ∧ vp_in y8 (ln S0 a21) ∧ ∀ S23 : Sg, S23 = sAL S0 a21 (y8).toNatClampNeg (aL S0 a19 (((aI S0 a17 (x1).toNatClampNeg) &&& (7 : Int32))).toNatClampNeg) → Q (0 : Int32) S23 else wX11_makesOf x0 x1 y3 y8 S0 (fun (r15 : Int32) (S16 : Sg) => Q r15 S16)))))))
set_option maxHeartbeats 4000000 in
set_option maxRecDepth 100000 in
theorem mX11_withThings (l : Launch) (D : va_G) (cy : Nat → ClassId) (x0 : Nat) (x1 : Int32) (S0 : Sg) (Q : Int32 → Sg → Prop) (t0 : tg S0 x0 = 12) (hw : wX11_withThings x0 x1 S0 Q) : Met l yX11_withThings (.code yX11_withThings cX11_withThings 4 (some .int) :: wsL_law) { frames := 1, cells := 0, slots := 0, locals := 30 } (gPc D cy [va_rf (some x0), .int x1] S0) (va_Qi Q (gB D cy S0) (gA S0)) 0 0 (gA S0) := by
  refine gx_met (by decide) (Nat.le_of_ble_eq_true rfl) ?_
  intro p e s m args below meth c ls C hW hl
  have hx := C.1
  have hb := C.2.1
  have hl : lv_has ls 4 [(0, va_rf (some x0)), (1, .int x1)] := hl
  unfold wX11_withThings at hw
  refine gx_aload_n hx hb dX11_withThings_0 rfl (lv_at hl 0 rfl) ?_
  refine gx_getR C hW F11_7 (k := 704) rfl t0 rfl dX11_withThings_1 ?_
  refine lv_iload_n hx hb dX11_withThings_4 rfl (lv_at hl 1 rfl) ?_
  obtain ⟨a1, ha1, ta1, hw⟩ := hw
  obtain ⟨i2, hw⟩ := hw
  refine gx_iald C hW ha1 ta1 i2 dX11_withThings_5 ?_
  refine lv_topi (fun y3 ey3 => ?_)
  have hw := hw y3 ey3
  refine lv_istore_n (i := 2) (lv' := [(2, .int y3), (0, va_rf (some x0)), (1, .int x1)]) hx hb dX11_withThings_6 rfl hl (by decide) rfl (fun ls hl => ?_)
  refine gx_aload_n hx hb dX11_withThings_7 rfl (lv_at hl 1 rfl) ?_
  refine gx_getR C hW F11_47 (k := 718) rfl t0 rfl dX11_withThings_8 ?_
  refine gx_aload_n hx hb dX11_withThings_11 rfl (lv_at hl 1 rfl) ?_
  refine gx_getR C hW F11_13 (k := 705) rfl t0 rfl dX11_withThings_12 ?_
  refine lv_iload_n hx hb dX11_withThings_15 rfl (lv_at hl 2 rfl) ?_
  obtain ⟨a4, ha4, ta4, hw⟩ := hw
  obtain ⟨i5, hw⟩ := hw
  refine gx_iald C hW ha4 ta4 i5 dX11_withThings_16 ?_
  refine lv_bipush (v := 7) hx hb dX11_withThings_17 (by decide) ?_
  refine lv_iand hx hb dX11_withThings_19 ?_
  obtain ⟨a6, ha6, ta6, hw⟩ := hw
  obtain ⟨i7, hw⟩ := hw
  refine gx_iald C hW ha6 ta6 i7 dX11_withThings_20 ?_
  refine lv_topi (fun y8 ey8 => ?_)
  have hw := hw y8 ey8
  refine lv_istore_n (i := 3) (lv' := [(3, .int y8), (2, .int y3), (0, va_rf (some x0)), (1, .int x1)]) hx hb dX11_withThings_21 rfl hl (by decide) rfl (fun ls hl => ?_)
  refine lv_iload_n hx hb dX11_withThings_22 rfl (lv_at hl 1 rfl) ?_
  refine lv_bipush (v := 14) hx hb dX11_withThings_23 (by decide) ?_
  refine lv_icmp_ne (tgt := 70) hx hb dX11_withThings_25 (by decide) (fun c9 => ?_) (fun c9 => ?_)
  · have hw := w_f hw c9
    refine lv_iload_n hx hb dX11_withThings_70 rfl (lv_at hl 1 rfl) ?_
    refine lv_bipush (v := 15) hx hb dX11_withThings_71 (by decide) ?_
    refine lv_icmp_ne (tgt := 93) hx hb dX11_withThings_73 (by decide) (fun c10 => ?_) (fun c10 => ?_)
    · have hw := w_f hw c10
      refine lv_iload_n hx hb dX11_withThings_93 rfl (lv_at hl 1 rfl) ?_
      refine lv_bipush (v := 18) hx hb dX11_withThings_94 (by decide) ?_
      refine lv_icmp_ne (tgt := 106) hx hb dX11_withThings_96 (by decide) (fun c11 => ?_) (fun c11 => ?_)
      · have hw := w_f hw c11
        refine lv_iload_n hx hb dX11_withThings_106 rfl (lv_at hl 0 rfl) ?_
        refine lv_if_ne (tgt := 113) hx hb dX11_withThings_107 (by decide) (fun c12 => ?_) (fun c12 => ?_)
        · have hw := w_f hw c12
          refine lv_iload_n hx hb dX11_withThings_113 rfl (lv_at hl 1 rfl) ?_
          refine lv_bipush (v := 16) hx hb dX11_withThings_114 (by decide) ?_
          refine lv_icmp_ne (tgt := 142) hx hb dX11_withThings_116 (by decide) (fun c13 => ?_) (fun c13 => ?_)
          · have hw := w_f hw c13
            refine lv_iload_n hx hb dX11_withThings_142 rfl (lv_at hl 1 rfl) ?_
            refine lv_bipush (v := 17) hx hb dX11_withThings_143 (by decide) ?_
            refine lv_icmp_ne (tgt := 171) hx hb dX11_withThings_145 (by decide) (fun c14 => ?_) (fun c14 => ?_)
            · have hw := w_f hw c14
              refine gx_aload_n hx hb dX11_withThings_171 rfl (lv_at hl 2 rfl) ?_
              refine lv_iload_n hx hb dX11_withThings_172 rfl (lv_at hl 3 rfl) ?_
              refine lv_iload_n hx hb dX11_withThings_173 rfl (lv_at hl 1 rfl) ?_
              refine lv_iload_n hx hb dX11_withThings_174 rfl (lv_at hl 0 rfl) ?_
              refine gx_ci (gx_rV C hW M11_305 (mX11_makesOf l D cy _ _ _ _ _ _ t0 hw) rfl rfl ⟨Nat.le_of_ble_eq_true rfl, Nat.le_of_ble_eq_true rfl⟩ rfl t0 (by decide) rfl rfl hl.1 rfl (gx_room0 (n := 4) (Nat.le_of_ble_eq_true rfl)) dX11_withThings_175 ⟨Nat.le_of_ble_eq_true rfl, Nat.le_of_ble_eq_true rfl⟩) hW (fun r15 S16 H locs hW hm hw => ?_)
              have t0 := hm _ _ t0
              have ta1 := hm _ _ ta1
              have ta4 := hm _ _ ta4
              have ta6 := hm _ _ ta6
              exact gx_iret C hW (Nat.le_of_ble_eq_true rfl) (Nat.le_of_ble_eq_true rfl) rfl hw dX11_withThings_178
            · have hw := w_t hw c14
              refine gx_aload_n hx hb dX11_withThings_148 rfl (lv_at hl 2 rfl) ?_
              refine gx_getR C hW F11_53 (k := 720) rfl t0 rfl dX11_withThings_149 ?_
              refine lv_iload_n hx hb dX11_withThings_152 rfl (lv_at hl 0 rfl) ?_
              refine gx_aload_n hx hb dX11_withThings_153 rfl (lv_at hl 2 rfl) ?_
              refine gx_getR C hW F11_43 (k := 717) rfl t0 rfl dX11_withThings_154 ?_
              refine gx_aload_n hx hb dX11_withThings_157 rfl (lv_at hl 2 rfl) ?_
              refine gx_getR C hW F11_16 (k := 706) rfl t0 rfl dX11_withThings_158 ?_
              refine lv_iload_n hx hb dX11_withThings_161 rfl (lv_at hl 3 rfl) ?_
              obtain ⟨a17, ha17, ta17, hw⟩ := hw
              obtain ⟨i18, hw⟩ := hw
              refine gx_iald C hW ha17 ta17 i18 dX11_withThings_162 ?_
              refine lv_bipush (v := 7) hx hb dX11_withThings_163 (by decide) ?_
              refine lv_iand hx hb dX11_withThings_165 ?_
              obtain ⟨a19, ha19, ta19, hw⟩ := hw
              obtain ⟨i20, hw⟩ := hw
              refine gx_lald C hW ha19 ta19 i20 dX11_withThings_166 ?_
              obtain ⟨a21, ha21, ta21, hw⟩ := hw
              obtain ⟨i22, hw⟩ := hw
              refine gx_last C hW ha21 ta21 i22 dX11_withThings_167 (fun H locs S23 eS23 hW hm => ?_)
              have hw := hw S23 eS23
              have t0 := hm _ _ t0
              have ta1 := hm _ _ ta1
              have ta4 := hm _ _ ta4
              have ta6 := hm _ _ ta6
              have ta17 := hm _ _ ta17
              have ta19 := hm _ _ ta19
              have ta21 := hm _ _ ta21
              refine lv_goto (tgt := 179) hx hb dX11_withThings_168 (by decide) ?_
              refine lv_iconst (v := 0) hx hb dX11_withThings_179 (by decide) ?_
              exact gx_iret C hW (Nat.le_of_ble_eq_true rfl) (Nat.le_of_ble_eq_true rfl) rfl hw dX11_withThings_180
          · have hw := w_t hw c13
            refine gx_aload_n hx hb dX11_withThings_119 rfl (lv_at hl 2 rfl) ?_
            refine gx_getR C hW F11_43 (k := 717) rfl t0 rfl dX11_withThings_120 ?_
            refine gx_aload_n hx hb dX11_withThings_123 rfl (lv_at hl 2 rfl) ?_
            refine gx_getR C hW F11_16 (k := 706) rfl t0 rfl dX11_withThings_124 ?_
            refine lv_iload_n hx hb dX11_withThings_127 rfl (lv_at hl 3 rfl) ?_
            obtain ⟨a24, ha24, ta24, hw⟩ := hw
            obtain ⟨i25, hw⟩ := hw
            refine gx_iald C hW ha24 ta24 i25 dX11_withThings_128 ?_
            refine lv_bipush (v := 7) hx hb dX11_withThings_129 (by decide) ?_
            refine lv_iand hx hb dX11_withThings_131 ?_
            refine gx_aload_n hx hb dX11_withThings_132 rfl (lv_at hl 2 rfl) ?_
            refine gx_getR C hW F11_53 (k := 720) rfl t0 rfl dX11_withThings_133 ?_
            refine lv_iload_n hx hb dX11_withThings_136 rfl (lv_at hl 0 rfl) ?_
            obtain ⟨a26, ha26, ta26, hw⟩ := hw
            obtain ⟨i27, hw⟩ := hw
            refine gx_lald C hW ha26 ta26 i27 dX11_withThings_137 ?_
            obtain ⟨a28, ha28, ta28, hw⟩ := hw
            obtain ⟨i29, hw⟩ := hw
            refine gx_last C hW ha28 ta28 i29 dX11_withThings_138 (fun H locs S30 eS30 hW hm => ?_)
            have hw := hw S30 eS30
            have t0 := hm _ _ t0
            have ta1 := hm _ _ ta1
            have ta4 := hm _ _ ta4
            have ta6 := hm _ _ ta6
            have ta24 := hm _ _ ta24
            have ta26 := hm _ _ ta26
            have ta28 := hm _ _ ta28
            refine lv_goto (tgt := 179) hx hb dX11_withThings_139 (by decide) ?_
            refine lv_iconst (v := 0) hx hb dX11_withThings_179 (by decide) ?_
            exact gx_iret C hW (Nat.le_of_ble_eq_true rfl) (Nat.le_of_ble_eq_true rfl) rfl hw dX11_withThings_180
        · have hw := w_t hw c12
          refine lv_bipush (v := 7) hx hb dX11_withThings_110 (by decide) ?_
          exact gx_iret C hW (Nat.le_of_ble_eq_true rfl) (Nat.le_of_ble_eq_true rfl) rfl hw dX11_withThings_112
      · have hw := w_t hw c11
        refine gx_aload_n hx hb dX11_withThings_99 rfl (lv_at hl 2 rfl) ?_
        refine lv_iload_n hx hb dX11_withThings_100 rfl (lv_at hl 3 rfl) ?_
        refine lv_iload_n hx hb dX11_withThings_101 rfl (lv_at hl 0 rfl) ?_
        refine gx_ci (gx_rV C hW M11_302 (mX11_casts l D cy _ _ _ _ _ t0 hw) rfl rfl ⟨Nat.le_of_ble_eq_true rfl, Nat.le_of_ble_eq_true rfl⟩ rfl t0 (by decide) rfl rfl hl.1 rfl (gx_room0 (n := 4) (Nat.le_of_ble_eq_true rfl)) dX11_withThings_102 ⟨Nat.le_of_ble_eq_true rfl, Nat.le_of_ble_eq_true rfl⟩) hW (fun r31 S32 H locs hW hm hw => ?_)
        have t0 := hm _ _ t0
        have ta1 := hm _ _ ta1
        have ta4 := hm _ _ ta4
        have ta6 := hm _ _ ta6
        exact gx_iret C hW (Nat.le_of_ble_eq_true rfl) (Nat.le_of_ble_eq_true rfl) rfl hw dX11_withThings_105
    · have hw := w_t hw c10
      refine gx_aload_n hx hb dX11_withThings_76 rfl (lv_at hl 2 rfl) ?_
      refine gx_getR C hW F11_47 (k := 718) rfl t0 rfl dX11_withThings_77 ?_
      refine gx_aload_n hx hb dX11_withThings_80 rfl (lv_at hl 2 rfl) ?_
      refine gx_getR C hW F11_16 (k := 706) rfl t0 rfl dX11_withThings_81 ?_
      refine lv_iload_n hx hb dX11_withThings_84 rfl (lv_at hl 3 rfl) ?_
      obtain ⟨a33, ha33, ta33, hw⟩ := hw
      obtain ⟨i34, hw⟩ := hw
      refine gx_iald C hW ha33 ta33 i34 dX11_withThings_85 ?_
      refine lv_bipush (v := 7) hx hb dX11_withThings_86 (by decide) ?_
      refine lv_iand hx hb dX11_withThings_88 ?_
      refine lv_iload_n hx hb dX11_withThings_89 rfl (lv_at hl 0 rfl) ?_
      obtain ⟨i35, hw⟩ := hw
      refine gx_iast C hW ha6 ta6 i35 dX11_withThings_90 (fun H locs S36 eS36 hW hm => ?_)
      have hw := hw S36 eS36
      have t0 := hm _ _ t0
      have ta1 := hm _ _ ta1
      have ta4 := hm _ _ ta4
      have ta6 := hm _ _ ta6
      have ta33 := hm _ _ ta33
      refine lv_iconst (v := 0) hx hb dX11_withThings_91 (by decide) ?_
      exact gx_iret C hW (Nat.le_of_ble_eq_true rfl) (Nat.le_of_ble_eq_true rfl) rfl hw dX11_withThings_92
  · have hw := w_t hw c9
    refine gx_aload_n hx hb dX11_withThings_28 rfl (lv_at hl 2 rfl) ?_
    refine gx_getR C hW F11_47 (k := 718) rfl t0 rfl dX11_withThings_29 ?_
    refine gx_aload_n hx hb dX11_withThings_32 rfl (lv_at hl 2 rfl) ?_
    refine gx_getR C hW F11_13 (k := 705) rfl t0 rfl dX11_withThings_33 ?_
    refine lv_iload_n hx hb dX11_withThings_36 rfl (lv_at hl 3 rfl) ?_
    obtain ⟨i37, hw⟩ := hw
    refine gx_iald C hW ha4 ta4 i37 dX11_withThings_37 ?_
    refine lv_bipush (v := 7) hx hb dX11_withThings_38 (by decide) ?_
    refine lv_iand hx hb dX11_withThings_40 ?_
    refine gx_aload_n hx hb dX11_withThings_41 rfl (lv_at hl 2 rfl) ?_
    refine gx_aload_n hx hb dX11_withThings_42 rfl (lv_at hl 2 rfl) ?_
    refine gx_getR C hW F11_16 (k := 706) rfl t0 rfl dX11_withThings_43 ?_
    refine lv_iload_n hx hb dX11_withThings_46 rfl (lv_at hl 3 rfl) ?_
    obtain ⟨a38, ha38, ta38, hw⟩ := hw
    obtain ⟨i39, hw⟩ := hw
    refine gx_iald C hW ha38 ta38 i39 dX11_withThings_47 ?_
    refine lv_iconst (v := 3) hx hb dX11_withThings_48 (by decide) ?_
    refine lv_iand hx hb dX11_withThings_49 ?_
    refine gx_aload_n hx hb dX11_withThings_50 rfl (lv_at hl 2 rfl) ?_
    refine gx_getR C hW F11_43 (k := 717) rfl t0 rfl dX11_withThings_51 ?_
    refine gx_aload_n hx hb dX11_withThings_54 rfl (lv_at hl 2 rfl) ?_
    refine gx_getR C hW F11_19 (k := 707) rfl t0 rfl dX11_withThings_55 ?_
    refine lv_iload_n hx hb dX11_withThings_58 rfl (lv_at hl 3 rfl) ?_
    obtain ⟨a40, ha40, ta40, hw⟩ := hw
    obtain ⟨i41, hw⟩ := hw
    refine gx_iald C hW ha40 ta40 i41 dX11_withThings_59 ?_
    refine lv_bipush (v := 7) hx hb dX11_withThings_60 (by decide) ?_
    refine lv_iand hx hb dX11_withThings_62 ?_
    obtain ⟨a42, ha42, ta42, hw⟩ := hw
    obtain ⟨i43, hw⟩ := hw
    refine gx_lald C hW ha42 ta42 i43 dX11_withThings_63 ?_
    refine gx_ci (gx_rV C hW M11_298 (mX11_newThing l D cy _ _ _ _ _ t0 hw) rfl rfl ⟨Nat.le_of_ble_eq_true rfl, Nat.le_of_ble_eq_true rfl⟩ rfl t0 (by decide) rfl rfl hl.1 rfl (gx_room0 (n := 4) (Nat.le_of_ble_eq_true rfl)) dX11_withThings_64 ⟨Nat.le_of_ble_eq_true rfl, Nat.le_of_ble_eq_true rfl⟩) hW (fun r44 S45 H locs hW hm hw => ?_)
    have t0 := hm _ _ t0
    have ta1 := hm _ _ ta1
    have ta4 := hm _ _ ta4
    have ta6 := hm _ _ ta6
    have ta38 := hm _ _ ta38
    have ta40 := hm _ _ ta40
    have ta42 := hm _ _ ta42
    obtain ⟨i46, hw⟩ := hw
    refine gx_iast C hW ha6 ta6 i46 dX11_withThings_67 (fun H locs S47 eS47 hW hm => ?_)
    have hw := hw S47 eS47
    have t0 := hm _ _ t0
    have ta1 := hm _ _ ta1
    have ta4 := hm _ _ ta4
    have ta6 := hm _ _ ta6
    have ta38 := hm _ _ ta38
    have ta40 := hm _ _ ta40
    have ta42 := hm _ _ ta42
    refine lv_iconst (v := 0) hx hb dX11_withThings_68 (by decide) ?_
    exact gx_iret C hW (Nat.le_of_ble_eq_true rfl) (Nat.le_of_ble_eq_true rfl) rfl hw dX11_withThings_69
/-! TrialStairModel.makeFailure -/
def wX11_makeFailure (x0 : Nat) (x1 : Int32) (x2 : Int32) (S0 : Sg) (Q : Sg → Prop) : Prop := ∀ S1 : Sg, S1 = sFI S0 745 x0 ((fI S0 745 x0) + (1 : Int32)) → ∃ a2 : Nat, (fR S1 743 x0) = some a2 ∧ tg S1 a2 = 13 ∧ vp_in (fI S1 745 x0) (ln S1 a2) ∧ ∀ S4 : Sg, S4 = sAI S1 a2 ((fI S1 745 x0)).toNatClampNeg x1 → ∃ a5 : Nat, (fR S4 744 x0) = some a5 ∧ tg S4 a5 = 13 ∧ vp_in (fI S4 745 x0) (ln S4 a5) ∧ ∀ S7 : Sg, S7 = sAI S4 a5 ((fI S4 745 x0)).toNatClampNeg x2 → ∀ S8 : Sg, S8 = sFI S7 742 x0 (fI S7 745 x0) → Q S8
set_option maxHeartbeats 4000000 in
set_option maxRecDepth 100000 in
theorem mX11_makeFailure (l : Launch) (D : va_G) (cy : Nat → ClassId) (x0 : Nat) (x1 : Int32) (x2 : Int32) (S0 : Sg) (Q : Sg → Prop) (t0 : tg S0 x0 = 12) (hw : wX11_makeFailure x0 x1 x2 S0 Q) : Met l yX11_makeFailure (.code yX11_makeFailure cX11_makeFailure 3 none :: wsL_law) { frames := 0, cells := 0, slots := 0, locals := 0 } (gPc D cy [va_rf (some x0), .int x1, .int x2] S0) (va_Qv Q (gB D cy S0) (gA S0)) 0 0 (gA S0) := by
  refine gx_met (by decide) (Nat.le_of_ble_eq_true rfl) ?_
  intro p e s m args below meth c ls C hW hl
  have hx := C.1
  have hb := C.2.1
  have hl : lv_has ls 3 [(0, va_rf (some x0)), (1, .int x1), (2, .int x2)] := hl
  unfold wX11_makeFailure at hw
  refine gx_aload_n hx hb dX11_makeFailure_0 rfl (lv_at hl 0 rfl) ?_
  refine lv_dup hx hb dX11_makeFailure_1 (va_rf_cat _) ?_
  refine gx_getI C hW F11_159 (k := 745) rfl t0 rfl dX11_makeFailure_2 ?_
  refine lv_iconst (v := 1) hx hb dX11_makeFailure_5 (by decide) ?_
  refine lv_iadd hx hb dX11_makeFailure_6 ?_
  refine gx_putI (k := 745) C hW F11_159 (Or.inl rfl) rfl t0 rfl rfl rfl dX11_makeFailure_7 (fun H locs S1 eS1 hW hm => ?_)
  have hw := hw S1 eS1
  have t0 := hm _ _ t0
  refine gx_aload_n hx hb dX11_makeFailure_10 rfl (lv_at hl 0 rfl) ?_
  refine gx_getR C hW F11_93 (k := 743) rfl t0 rfl dX11_makeFailure_11 ?_
  refine gx_aload_n hx hb dX11_makeFailure_14 rfl (lv_at hl 0 rfl) ?_
  refine gx_getI C hW F11_159 (k := 745) rfl t0 rfl dX11_makeFailure_15 ?_
  refine lv_iload_n hx hb dX11_makeFailure_18 rfl (lv_at hl 1 rfl) ?_
  obtain ⟨a2, ha2, ta2, hw⟩ := hw
  obtain ⟨i3, hw⟩ := hw
  refine gx_iast C hW ha2 ta2 i3 dX11_makeFailure_19 (fun H locs S4 eS4 hW hm => ?_)
  have hw := hw S4 eS4
  have t0 := hm _ _ t0
  have ta2 := hm _ _ ta2
  refine gx_aload_n hx hb dX11_makeFailure_20 rfl (lv_at hl 0 rfl) ?_
  refine gx_getR C hW F11_96 (k := 744) rfl t0 rfl dX11_makeFailure_21 ?_
  refine gx_aload_n hx hb dX11_makeFailure_24 rfl (lv_at hl 0 rfl) ?_
  refine gx_getI C hW F11_159 (k := 745) rfl t0 rfl dX11_makeFailure_25 ?_
  refine lv_iload_n hx hb dX11_makeFailure_28 rfl (lv_at hl 2 rfl) ?_
  obtain ⟨a5, ha5, ta5, hw⟩ := hw
  obtain ⟨i6, hw⟩ := hw
  refine gx_iast C hW ha5 ta5 i6 dX11_makeFailure_29 (fun H locs S7 eS7 hW hm => ?_)
  have hw := hw S7 eS7
  have t0 := hm _ _ t0
  have ta2 := hm _ _ ta2
  have ta5 := hm _ _ ta5
  refine gx_aload_n hx hb dX11_makeFailure_30 rfl (lv_at hl 0 rfl) ?_
  refine gx_aload_n hx hb dX11_makeFailure_31 rfl (lv_at hl 0 rfl) ?_
  refine gx_getI C hW F11_159 (k := 745) rfl t0 rfl dX11_makeFailure_32 ?_
  refine gx_putI (k := 742) C hW F11_232 (Or.inl rfl) rfl t0 rfl rfl rfl dX11_makeFailure_35 (fun H locs S8 eS8 hW hm => ?_)
  have hw := hw S8 eS8
  have t0 := hm _ _ t0
  have ta2 := hm _ _ ta2
  have ta5 := hm _ _ ta5
  exact gx_vret C hW (Nat.le_of_ble_eq_true rfl) (Nat.le_of_ble_eq_true rfl) hw dX11_makeFailure_38
/-! TrialStairModel.throwsAt -/
def wX11_throwsAt_b90 (x0 : Nat) (x1 : Int32) (x2 : Int32) (S : Sg) (Q : Int32 → Sg → Prop) : Prop := ∃ a8 : Nat, (fR S 705 x0) = some a8 ∧ tg S a8 = 13 ∧ vp_in x1 (ln S a8) ∧ wX11_makeFailure x0 ((aI S a8 (x1).toNatClampNeg) &&& (3 : Int32)) x2 S (fun (S11 : Sg) => Q (-1 : Int32) S11)
def wX11_throwsAt_b45 : Nat → (Nat) → (Int32) → (Int32) → (Int32) → Sg → (Int32 → Sg → Prop) → Prop
  | 0, _, _, _, _, _, _ => False
  | fu + 1, x0, x1, x2, x3, S, Q => (if x3 < 0 then wX11_throwsAt_b90 x0 x1 x2 S Q else (if x2 = 0 then ∃ a13 : Nat, (fR S 729 x0) = some a13 ∧ tg S a13 = 13 ∧ vp_in x3 (ln S a13) ∧ (if (aI S a13 (x3).toNatClampNeg) = (1 : Int32) then ∃ a17 : Nat, (fR S 732 x0) = some a17 ∧ tg S a17 = 13 ∧ vp_in x3 (ln S a17) ∧ (if (aI S a17 (x3).toNatClampNeg) = (1 : Int32) then ∃ a21 : Nat, (fR S 733 x0) = some a21 ∧ tg S a21 = 13 ∧ vp_in x3 (ln S a21) ∧ ∀ y23 : Int32, y23 = (aI S a21 (x3).toNatClampNeg) → ∀ y24 : Int32, y24 = x3 + (-1) → wX11_throwsAt_b45 fu x0 x1 y23 y24 S Q else ∀ y20 : Int32, y20 = x3 + (-1) → wX11_throwsAt_b45 fu x0 x1 (0 : Int32) y20 S Q) else ∀ y16 : Int32, y16 = x3 + (-1) → wX11_throwsAt_b45 fu x0 x1 (0 : Int32) y16 S Q) else wX11_throwsAt_b90 x0 x1 x2 S Q))
def wX11_throwsAt (x0 : Nat) (x1 : Int32) (S0 : Sg) (Q : Int32 → Sg → Prop) : Prop := ∃ a1 : Nat, (fR S0 704 x0) = some a1 ∧ tg S0 a1 = 13 ∧ vp_in x1 (ln S0 a1) ∧ (if (aI S0 a1 (x1).toNatClampNeg) = (23 : Int32) then Q (7 : Int32) S0 else vp_in x1 (ln S0 a1) ∧ (if (aI S0 a1 (x1).toNatClampNeg) = (22 : Int32) then ∃ a26 : Nat, (fR S0 705 x0) = some a26 ∧ tg S0 a26 = 13 ∧ vp_in x1 (ln S0 a26) ∧ Q (((aI S0 a26 (x1).toNatClampNeg) &&& (3 : Int32)) + (1 : Int32)) S0 else ∀ y6 : Int32, y6 = ((fI S0 737 x0) - (1 : Int32)) → ∃ fu25 : Nat, wX11_throwsAt_b45 fu25 x0 x1 (0 : Int32) y6 S0 Q))
set_option maxHeartbeats 4000000 in
set_option maxRecDepth 100000 in
theorem kX11_throwsAt_b90 {p : Program} {l : Launch} {e : Env} {s : State} {m : MethodId} {args : Array Value} {below : List Frame} {meth : Method} {c : Code} {D : va_G} {cy : Nat → ClassId} {S0 : Sg} (C : gC p s m args meth c D cy cX11_throwsAt 4 yX11_throwsAt.cls (some .int) yX11_throwsAt.name) {H : Heap} {locs : List Loc} {ls : Array Slot} {x0 : Nat} {x1 : Int32} {x2 : Int32} {S : Sg} {Q : Int32 → Sg → Prop} (hW : gW D cy (gA S0) (tg S0) s.heap S H locs) (t0 : tg S x0 = 12) (hl : lv_has ls 4 [(0, va_rf (some x0)), (1, .int x1), (2, .int x2)]) (hw : wX11_throwsAt_b90 x0 x1 x2 S Q) : W p l e { frames := 1, cells := 0, slots := 0, locals := 22 } s m args below meth c H locs 0 0 (MQ below (va_Qi Q (gB D cy S0) (gA S0)) args s 0 0 (gA S0)) (F0 m 90 ls []) := by
  have hx := C.1
  have hb := C.2.1
  unfold wX11_throwsAt_b90 at hw
  refine gx_aload_n hx hb dX11_throwsAt_90 rfl (lv_at hl 0 rfl) ?_
  refine gx_aload_n hx hb dX11_throwsAt_91 rfl (lv_at hl 0 rfl) ?_
  refine gx_getR C hW F11_13 (k := 705) rfl t0 rfl dX11_throwsAt_92 ?_
  refine lv_iload_n hx hb dX11_throwsAt_95 rfl (lv_at hl 1 rfl) ?_
  obtain ⟨a8, ha8, ta8, hw⟩ := hw
  obtain ⟨i9, hw⟩ := hw
  refine gx_iald C hW ha8 ta8 i9 dX11_throwsAt_96 ?_
  refine lv_iconst (v := 3) hx hb dX11_throwsAt_97 (by decide) ?_
  refine lv_iand hx hb dX11_throwsAt_98 ?_
  refine lv_iload_n hx hb dX11_throwsAt_99 rfl (lv_at hl 2 rfl) ?_
  refine gx_cv (gx_rV C hW M11_229 (mX11_makeFailure l D cy _ _ _ _ _ t0 hw) rfl rfl ⟨Nat.le_of_ble_eq_true rfl, Nat.le_of_ble_eq_true rfl⟩ rfl t0 (by decide) rfl rfl hl.1 rfl (gx_room0 (n := 4) (Nat.le_of_ble_eq_true rfl)) dX11_throwsAt_100 ⟨Nat.le_of_ble_eq_true rfl, Nat.le_of_ble_eq_true rfl⟩) hW (fun S11 H locs hW hm hw => ?_)
  have t0 := hm _ _ t0
  have ta8 := hm _ _ ta8
  refine lv_iconst (v := -1) hx hb dX11_throwsAt_103 (by decide) ?_
  exact gx_iret C hW (Nat.le_of_ble_eq_true rfl) (Nat.le_of_ble_eq_true rfl) rfl hw dX11_throwsAt_104
set_option maxHeartbeats 4000000 in
set_option maxRecDepth 100000 in
theorem kX11_throwsAt_l45 {p : Program} {l : Launch} {e : Env} {s : State} {m : MethodId} {args : Array Value} {below : List Frame} {meth : Method} {c : Code} {D : va_G} {cy : Nat → ClassId} {S0 : Sg} (C : gC p s m args meth c D cy cX11_throwsAt 4 yX11_throwsAt.cls (some .int) yX11_throwsAt.name) {x0 : Nat} {Q : Int32 → Sg → Prop} : ∀ (fu : Nat) (x1 : Int32) (x2 : Int32) (x3 : Int32) (S : Sg) (H : Heap) (locs : List Loc) (ls : Array Slot) (hW : gW D cy (gA S0) (tg S0) s.heap S H locs) (t0 : tg S x0 = 12) (hl : lv_has ls 4 [(0, va_rf (some x0)), (1, .int x1), (2, .int x2), (3, .int x3)]) (hw : wX11_throwsAt_b45 fu x0 x1 x2 x3 S Q), W p l e { frames := 1, cells := 0, slots := 0, locals := 22 } s m args below meth c H locs 0 0 (MQ below (va_Qi Q (gB D cy S0) (gA S0)) args s 0 0 (gA S0)) (F0 m 45 ls []) := by
  have hx := C.1
  have hb := C.2.1
  intro fu
  induction fu with
  | zero =>
    intro x1 x2 x3 S H locs ls hW t0 hl hw
    unfold wX11_throwsAt_b45 at hw
    exact hw.elim
  | succ fu ih =>
    intro x1 x2 x3 S H locs ls hW t0 hl hw
    unfold wX11_throwsAt_b45 at hw
    refine lv_iload_n hx hb dX11_throwsAt_45 rfl (lv_at hl 3 rfl) ?_
    refine lv_if_lt (tgt := 90) hx hb dX11_throwsAt_46 (by decide) (fun c7 => ?_) (fun c7 => ?_)
    · have hw := w_t hw c7
      exact kX11_throwsAt_b90 C hW t0 (lv_sub hl [0, 1, 2] rfl) hw
    · have hw := w_f hw c7
      refine lv_iload_n hx hb dX11_throwsAt_49 rfl (lv_at hl 2 rfl) ?_
      refine lv_if_ne (tgt := 90) hx hb dX11_throwsAt_50 (by decide) (fun c12 => ?_) (fun c12 => ?_)
      · have hw := w_f hw c12
        exact kX11_throwsAt_b90 C hW t0 (lv_sub hl [0, 1, 2] rfl) hw
      · have hw := w_t hw c12
        refine gx_aload_n hx hb dX11_throwsAt_53 rfl (lv_at hl 0 rfl) ?_
        refine gx_getR C hW F11_69 (k := 729) rfl t0 rfl dX11_throwsAt_54 ?_
        refine lv_iload_n hx hb dX11_throwsAt_57 rfl (lv_at hl 3 rfl) ?_
        obtain ⟨a13, ha13, ta13, hw⟩ := hw
        obtain ⟨i14, hw⟩ := hw
        refine gx_iald C hW ha13 ta13 i14 dX11_throwsAt_58 ?_
        refine lv_iconst (v := 1) hx hb dX11_throwsAt_59 (by decide) ?_
        refine lv_icmp_ne (tgt := 82) hx hb dX11_throwsAt_60 (by decide) (fun c15 => ?_) (fun c15 => ?_)
        · have hw := w_f hw c15
          refine lv_iconst (v := 0) hx hb dX11_throwsAt_82 (by decide) ?_
          refine lv_istore_n (i := 2) (lv' := [(2, .int (0 : Int32)), (0, va_rf (some x0)), (1, .int x1), (3, .int x3)]) hx hb dX11_throwsAt_83 rfl hl (by decide) rfl (fun ls hl => ?_)
          obtain ⟨y16, ey16⟩ : ∃ z : Int32, z = x3 + (-1) := ⟨_, rfl⟩
          have hw := hw y16 ey16
          refine lv_iinc (v := y16) (lv' := [(3, .int y16), (2, .int (0 : Int32)), (0, va_rf (some x0)), (1, .int x1)]) hx hb dX11_throwsAt_84 hl (k := 3) rfl (by rw [ey16]; rfl) (by decide) rfl (fun ls hl => ?_)
          refine lv_goto (tgt := 45) hx hb dX11_throwsAt_87 (by decide) ?_
          exact ih _ _ _ _ _ _ _ hW t0 (lv_sub hl [2, 3, 1, 0] rfl) hw
        · have hw := w_t hw c15
          refine gx_aload_n hx hb dX11_throwsAt_63 rfl (lv_at hl 0 rfl) ?_
          refine gx_getR C hW F11_78 (k := 732) rfl t0 rfl dX11_throwsAt_64 ?_
          refine lv_iload_n hx hb dX11_throwsAt_67 rfl (lv_at hl 3 rfl) ?_
          obtain ⟨a17, ha17, ta17, hw⟩ := hw
          obtain ⟨i18, hw⟩ := hw
          refine gx_iald C hW ha17 ta17 i18 dX11_throwsAt_68 ?_
          refine lv_iconst (v := 1) hx hb dX11_throwsAt_69 (by decide) ?_
          refine lv_icmp_ne (tgt := 82) hx hb dX11_throwsAt_70 (by decide) (fun c19 => ?_) (fun c19 => ?_)
          · have hw := w_f hw c19
            refine lv_iconst (v := 0) hx hb dX11_throwsAt_82 (by decide) ?_
            refine lv_istore_n (i := 2) (lv' := [(2, .int (0 : Int32)), (0, va_rf (some x0)), (1, .int x1), (3, .int x3)]) hx hb dX11_throwsAt_83 rfl hl (by decide) rfl (fun ls hl => ?_)
            obtain ⟨y20, ey20⟩ : ∃ z : Int32, z = x3 + (-1) := ⟨_, rfl⟩
            have hw := hw y20 ey20
            refine lv_iinc (v := y20) (lv' := [(3, .int y20), (2, .int (0 : Int32)), (0, va_rf (some x0)), (1, .int x1)]) hx hb dX11_throwsAt_84 hl (k := 3) rfl (by rw [ey20]; rfl) (by decide) rfl (fun ls hl => ?_)
            refine lv_goto (tgt := 45) hx hb dX11_throwsAt_87 (by decide) ?_
            exact ih _ _ _ _ _ _ _ hW t0 (lv_sub hl [2, 3, 1, 0] rfl) hw
          · have hw := w_t hw c19
            refine gx_aload_n hx hb dX11_throwsAt_73 rfl (lv_at hl 0 rfl) ?_
            refine gx_getR C hW F11_81 (k := 733) rfl t0 rfl dX11_throwsAt_74 ?_
            refine lv_iload_n hx hb dX11_throwsAt_77 rfl (lv_at hl 3 rfl) ?_
            obtain ⟨a21, ha21, ta21, hw⟩ := hw
            obtain ⟨i22, hw⟩ := hw
            refine gx_iald C hW ha21 ta21 i22 dX11_throwsAt_78 ?_
            refine lv_goto (tgt := 83) hx hb dX11_throwsAt_79 (by decide) ?_
            refine lv_topi (fun y23 ey23 => ?_)
            have hw := hw y23 ey23
            refine lv_istore_n (i := 2) (lv' := [(2, .int y23), (0, va_rf (some x0)), (1, .int x1), (3, .int x3)]) hx hb dX11_throwsAt_83 rfl hl (by decide) rfl (fun ls hl => ?_)
            obtain ⟨y24, ey24⟩ : ∃ z : Int32, z = x3 + (-1) := ⟨_, rfl⟩
            have hw := hw y24 ey24
            refine lv_iinc (v := y24) (lv' := [(3, .int y24), (2, .int y23), (0, va_rf (some x0)), (1, .int x1)]) hx hb dX11_throwsAt_84 hl (k := 3) rfl (by rw [ey24]; rfl) (by decide) rfl (fun ls hl => ?_)
            refine lv_goto (tgt := 45) hx hb dX11_throwsAt_87 (by decide) ?_
            exact ih _ _ _ _ _ _ _ hW t0 (lv_sub hl [2, 3, 1, 0] rfl) hw
theorem kX11_throwsAt_b45 {p : Program} {l : Launch} {e : Env} {s : State} {m : MethodId} {args : Array Value} {below : List Frame} {meth : Method} {c : Code} {D : va_G} {cy : Nat → ClassId} {S0 : Sg} (C : gC p s m args meth c D cy cX11_throwsAt 4 yX11_throwsAt.cls (some .int) yX11_throwsAt.name) {H : Heap} {locs : List Loc} {ls : Array Slot} {x0 : Nat} {x1 : Int32} {x2 : Int32} {x3 : Int32} {S : Sg} {Q : Int32 → Sg → Prop} (fu : Nat) (hW : gW D cy (gA S0) (tg S0) s.heap S H locs) (t0 : tg S x0 = 12) (hl : lv_has ls 4 [(0, va_rf (some x0)), (1, .int x1), (2, .int x2), (3, .int x3)]) (hw : wX11_throwsAt_b45 fu x0 x1 x2 x3 S Q) : W p l e { frames := 1, cells := 0, slots := 0, locals := 22 } s m args below meth c H locs 0 0 (MQ below (va_Qi Q (gB D cy S0) (gA S0)) args s 0 0 (gA S0)) (F0 m 45 ls []) := kX11_throwsAt_l45 C fu _ _ _ _ _ _ _ hW t0 hl hw
set_option maxHeartbeats 4000000 in
set_option maxRecDepth 100000 in
theorem mX11_throwsAt (l : Launch) (D : va_G) (cy : Nat → ClassId) (x0 : Nat) (x1 : Int32) (S0 : Sg) (Q : Int32 → Sg → Prop) (t0 : tg S0 x0 = 12) (hw : wX11_throwsAt x0 x1 S0 Q) : Met l yX11_throwsAt (.code yX11_throwsAt cX11_throwsAt 4 (some .int) :: wsL_law) { frames := 1, cells := 0, slots := 0, locals := 22 } (gPc D cy [va_rf (some x0), .int x1] S0) (va_Qi Q (gB D cy S0) (gA S0)) 0 0 (gA S0) := by
  refine gx_met (by decide) (Nat.le_of_ble_eq_true rfl) ?_
  intro p e s m args below meth c ls C hW hl
  have hx := C.1
  have hb := C.2.1
  have hl : lv_has ls 4 [(0, va_rf (some x0)), (1, .int x1)] := hl
  unfold wX11_throwsAt at hw
  refine gx_aload_n hx hb dX11_throwsAt_0 rfl (lv_at hl 0 rfl) ?_
  refine gx_getR C hW F11_7 (k := 704) rfl t0 rfl dX11_throwsAt_1 ?_
  refine lv_iload_n hx hb dX11_throwsAt_4 rfl (lv_at hl 1 rfl) ?_
  obtain ⟨a1, ha1, ta1, hw⟩ := hw
  obtain ⟨i2, hw⟩ := hw
  refine gx_iald C hW ha1 ta1 i2 dX11_throwsAt_5 ?_
  refine lv_bipush (v := 23) hx hb dX11_throwsAt_6 (by decide) ?_
  refine lv_icmp_ne (tgt := 14) hx hb dX11_throwsAt_8 (by decide) (fun c3 => ?_) (fun c3 => ?_)
  · have hw := w_f hw c3
    refine gx_aload_n hx hb dX11_throwsAt_14 rfl (lv_at hl 0 rfl) ?_
    refine gx_getR C hW F11_7 (k := 704) rfl t0 rfl dX11_throwsAt_15 ?_
    refine lv_iload_n hx hb dX11_throwsAt_18 rfl (lv_at hl 1 rfl) ?_
    obtain ⟨i4, hw⟩ := hw
    refine gx_iald C hW ha1 ta1 i4 dX11_throwsAt_19 ?_
    refine lv_bipush (v := 22) hx hb dX11_throwsAt_20 (by decide) ?_
    refine lv_icmp_ne (tgt := 36) hx hb dX11_throwsAt_22 (by decide) (fun c5 => ?_) (fun c5 => ?_)
    · have hw := w_f hw c5
      refine lv_iconst (v := 0) hx hb dX11_throwsAt_36 (by decide) ?_
      refine lv_istore_n (i := 2) (lv' := [(2, .int (0 : Int32)), (0, va_rf (some x0)), (1, .int x1)]) hx hb dX11_throwsAt_37 rfl hl (by decide) rfl (fun ls hl => ?_)
      refine gx_aload_n hx hb dX11_throwsAt_38 rfl (lv_at hl 1 rfl) ?_
      refine gx_getI C hW F11_156 (k := 737) rfl t0 rfl dX11_throwsAt_39 ?_
      refine lv_iconst (v := 1) hx hb dX11_throwsAt_42 (by decide) ?_
      refine lv_isub hx hb dX11_throwsAt_43 ?_
      refine lv_topi (fun y6 ey6 => ?_)
      have hw := hw y6 ey6
      refine lv_istore_n (i := 3) (lv' := [(3, .int y6), (2, .int (0 : Int32)), (0, va_rf (some x0)), (1, .int x1)]) hx hb dX11_throwsAt_44 rfl hl (by decide) rfl (fun ls hl => ?_)
      obtain ⟨fu25, hw⟩ := hw
      exact kX11_throwsAt_b45 C fu25 hW t0 (lv_sub hl [2, 3, 1, 0] rfl) hw
    · have hw := w_t hw c5
      refine gx_aload_n hx hb dX11_throwsAt_25 rfl (lv_at hl 0 rfl) ?_
      refine gx_getR C hW F11_13 (k := 705) rfl t0 rfl dX11_throwsAt_26 ?_
      refine lv_iload_n hx hb dX11_throwsAt_29 rfl (lv_at hl 1 rfl) ?_
      obtain ⟨a26, ha26, ta26, hw⟩ := hw
      obtain ⟨i27, hw⟩ := hw
      refine gx_iald C hW ha26 ta26 i27 dX11_throwsAt_30 ?_
      refine lv_iconst (v := 3) hx hb dX11_throwsAt_31 (by decide) ?_
      refine lv_iand hx hb dX11_throwsAt_32 ?_
      refine lv_iconst (v := 1) hx hb dX11_throwsAt_33 (by decide) ?_
      refine lv_iadd hx hb dX11_throwsAt_34 ?_
      exact gx_iret C hW (Nat.le_of_ble_eq_true rfl) (Nat.le_of_ble_eq_true rfl) rfl hw dX11_throwsAt_35
  · have hw := w_t hw c3
    refine lv_bipush (v := 7) hx hb dX11_throwsAt_11 (by decide) ?_
    exact gx_iret C hW (Nat.le_of_ble_eq_true rfl) (Nat.le_of_ble_eq_true rfl) rfl hw dX11_throwsAt_13
/-! TrialStairModel.goOn -/
def wX11_goOn (x0 : Nat) (x1 : Int32) (x2 : Int32) (S0 : Sg) (Q : Sg → Prop) : Prop := (if x2 = 0 then ∀ S11 : Sg, S11 = sFI S0 738 x0 (x1 + (1 : Int32)) → Q S11 else (if x2 ≤ 0 then ∀ S3 : Sg, S3 = sFI S0 740 x0 (2 : Int32) → wX11_comes x0  S3 (fun (S5 : Sg) => Q S5) else wX11_makeFailure x0 (x2 - (1 : Int32)) (0 : Int32) S0 (fun (S7 : Sg) => ∀ S8 : Sg, S8 = sFI S7 740 x0 (2 : Int32) → wX11_comes x0  S8 (fun (S10 : Sg) => Q S10))))
set_option maxHeartbeats 4000000 in
set_option maxRecDepth 100000 in
theorem mX11_goOn (l : Launch) (D : va_G) (cy : Nat → ClassId) (x0 : Nat) (x1 : Int32) (x2 : Int32) (S0 : Sg) (Q : Sg → Prop) (t0 : tg S0 x0 = 12) (hw : wX11_goOn x0 x1 x2 S0 Q) : Met l yX11_goOn (.code yX11_goOn cX11_goOn 3 none :: wsL_law) { frames := 4, cells := 0, slots := 0, locals := 87 } (gPc D cy [va_rf (some x0), .int x1, .int x2] S0) (va_Qv Q (gB D cy S0) (gA S0)) 0 0 (gA S0) := by
  refine gx_met (by decide) (Nat.le_of_ble_eq_true rfl) ?_
  intro p e s m args below meth c ls C hW hl
  have hx := C.1
  have hb := C.2.1
  have hl : lv_has ls 3 [(0, va_rf (some x0)), (1, .int x1), (2, .int x2)] := hl
  unfold wX11_goOn at hw
  refine lv_iload_n hx hb dX11_goOn_0 rfl (lv_at hl 2 rfl) ?_
  refine lv_if_ne (tgt := 12) hx hb dX11_goOn_1 (by decide) (fun c1 => ?_) (fun c1 => ?_)
  · have hw := w_f hw c1
    refine lv_iload_n hx hb dX11_goOn_12 rfl (lv_at hl 2 rfl) ?_
    refine lv_if_le (tgt := 24) hx hb dX11_goOn_13 (by decide) (fun c2 => ?_) (fun c2 => ?_)
    · have hw := w_t hw c2
      refine gx_aload_n hx hb dX11_goOn_24 rfl (lv_at hl 0 rfl) ?_
      refine lv_iconst (v := 2) hx hb dX11_goOn_25 (by decide) ?_
      refine gx_putI (k := 740) C hW F11_194 (Or.inl rfl) rfl t0 rfl rfl rfl dX11_goOn_26 (fun H locs S3 eS3 hW hm => ?_)
      have hw := hw S3 eS3
      have t0 := hm _ _ t0
      refine gx_aload_n hx hb dX11_goOn_29 rfl (lv_at hl 0 rfl) ?_
      refine gx_cv (gx_rV C hW M11_197 (mX11_comes l D cy _ _ _ t0 hw) rfl rfl ⟨Nat.le_of_ble_eq_true rfl, Nat.le_of_ble_eq_true rfl⟩ rfl t0 (by decide) rfl rfl hl.1 rfl (gx_room0 (n := 4) (Nat.le_of_ble_eq_true rfl)) dX11_goOn_30 ⟨Nat.le_of_ble_eq_true rfl, Nat.le_of_ble_eq_true rfl⟩) hW (fun S5 H locs hW hm hw => ?_)
      have t0 := hm _ _ t0
      exact gx_vret C hW (Nat.le_of_ble_eq_true rfl) (Nat.le_of_ble_eq_true rfl) hw dX11_goOn_33
    · have hw := w_f hw c2
      refine gx_aload_n hx hb dX11_goOn_16 rfl (lv_at hl 0 rfl) ?_
      refine lv_iload_n hx hb dX11_goOn_17 rfl (lv_at hl 2 rfl) ?_
      refine lv_iconst (v := 1) hx hb dX11_goOn_18 (by decide) ?_
      refine lv_isub hx hb dX11_goOn_19 ?_
      refine lv_iconst (v := 0) hx hb dX11_goOn_20 (by decide) ?_
      refine gx_cv (gx_rV C hW M11_229 (mX11_makeFailure l D cy _ _ _ _ _ t0 hw) rfl rfl ⟨Nat.le_of_ble_eq_true rfl, Nat.le_of_ble_eq_true rfl⟩ rfl t0 (by decide) rfl rfl hl.1 rfl (gx_room0 (n := 4) (Nat.le_of_ble_eq_true rfl)) dX11_goOn_21 ⟨Nat.le_of_ble_eq_true rfl, Nat.le_of_ble_eq_true rfl⟩) hW (fun S7 H locs hW hm hw => ?_)
      have t0 := hm _ _ t0
      refine gx_aload_n hx hb dX11_goOn_24 rfl (lv_at hl 0 rfl) ?_
      refine lv_iconst (v := 2) hx hb dX11_goOn_25 (by decide) ?_
      refine gx_putI (k := 740) C hW F11_194 (Or.inl rfl) rfl t0 rfl rfl rfl dX11_goOn_26 (fun H locs S8 eS8 hW hm => ?_)
      have hw := hw S8 eS8
      have t0 := hm _ _ t0
      refine gx_aload_n hx hb dX11_goOn_29 rfl (lv_at hl 0 rfl) ?_
      refine gx_cv (gx_rV C hW M11_197 (mX11_comes l D cy _ _ _ t0 hw) rfl rfl ⟨Nat.le_of_ble_eq_true rfl, Nat.le_of_ble_eq_true rfl⟩ rfl t0 (by decide) rfl rfl hl.1 rfl (gx_room0 (n := 4) (Nat.le_of_ble_eq_true rfl)) dX11_goOn_30 ⟨Nat.le_of_ble_eq_true rfl, Nat.le_of_ble_eq_true rfl⟩) hW (fun S10 H locs hW hm hw => ?_)
      have t0 := hm _ _ t0
      exact gx_vret C hW (Nat.le_of_ble_eq_true rfl) (Nat.le_of_ble_eq_true rfl) hw dX11_goOn_33
  · have hw := w_t hw c1
    refine gx_aload_n hx hb dX11_goOn_4 rfl (lv_at hl 0 rfl) ?_
    refine lv_iload_n hx hb dX11_goOn_5 rfl (lv_at hl 1 rfl) ?_
    refine lv_iconst (v := 1) hx hb dX11_goOn_6 (by decide) ?_
    refine lv_iadd hx hb dX11_goOn_7 ?_
    refine gx_putI (k := 738) C hW F11_187 (Or.inl rfl) rfl t0 rfl rfl rfl dX11_goOn_8 (fun H locs S11 eS11 hW hm => ?_)
    have hw := hw S11 eS11
    have t0 := hm _ _ t0
    exact gx_vret C hW (Nat.le_of_ble_eq_true rfl) (Nat.le_of_ble_eq_true rfl) hw dX11_goOn_11
/-! TrialStairModel.block -/
def wX11_block_b104 (x0 : Nat) (x3 : Int32) (q0 : Option Nat) (q1 : Int32) (S : Sg) (Q : Sg → Prop) : Prop := ∃ a12 : Nat, q0 = some a12 ∧ tg S a12 = 12 ∧ ∀ S13 : Sg, S13 = sFI S 738 a12 q1 → (if x3 = 0 then ∀ S15 : Sg, S15 = sFI S13 737 x0 ((fI S13 737 x0) - (1 : Int32)) → Q S15 else ∀ S16 : Sg, S16 = sFI S13 737 x0 ((fI S13 737 x0) - (0 : Int32)) → Q S16)
def wX11_block_b86 (x0 : Nat) (x1 : Int32) (q0 : Int32) (S : Sg) (Q : Sg → Prop) : Prop := (if q0 = 0 then ∃ a10 : Nat, (fR S 712 x0) = some a10 ∧ tg S a10 = 13 ∧ vp_in x1 (ln S a10) ∧ wX11_block_b104 x0 q0 (some x0) (aI S a10 (x1).toNatClampNeg) S Q else wX11_block_b104 x0 q0 (some x0) (x1 + (1 : Int32)) S Q)
def wX11_block_b81 (x0 : Nat) (x1 : Int32) (S : Sg) (Q : Sg → Prop) : Prop := wX11_block_b86 x0 x1 (1 : Int32) S Q
def wX11_block_b22 (x0 : Nat) (x1 : Int32) (x2 : Int32) (q0 : Option Nat) (q1 : Int32) (S : Sg) (Q : Sg → Prop) : Prop := ∃ a3 : Nat, q0 = some a3 ∧ tg S a3 = 12 ∧ wX11_opens a3 q1 x1 (0 : Int32) S (fun (r4 : Int32) (S5 : Sg) => (if r4 = 0 then Q S5 else (if x2 = (29 : Int32) then wX11_looks x0 x1 S5 (fun (S26 : Sg) => Q S26) else (if x2 = (25 : Int32) then wX11_block_b81 x0 x1 S5 Q else ∃ a17 : Nat, (fR S5 705 x0) = some a17 ∧ tg S5 a17 = 13 ∧ vp_in x1 (ln S5 a17) ∧ ∃ a19 : Nat, (fR S5 717 x0) = some a19 ∧ tg S5 a19 = 14 ∧ vp_in ((aI S5 a17 (x1).toNatClampNeg) &&& (7 : Int32)) (ln S5 a19) ∧ ∃ a21 : Nat, (fR S5 706 x0) = some a21 ∧ tg S5 a21 = 13 ∧ vp_in x1 (ln S5 a21) ∧ vp_in ((aI S5 a21 (x1).toNatClampNeg) &&& (7 : Int32)) (ln S5 a19) ∧ (if 0 ≤ (lg_cmp (aL S5 a19 (((aI S5 a17 (x1).toNatClampNeg) &&& (7 : Int32))).toNatClampNeg) (aL S5 a19 (((aI S5 a21 (x1).toNatClampNeg) &&& (7 : Int32))).toNatClampNeg)) then wX11_block_b86 x0 x1 (0 : Int32) S5 Q else wX11_block_b81 x0 x1 S5 Q)))))
def wX11_block (x0 : Nat) (x1 : Int32) (x2 : Int32) (S0 : Sg) (Q : Sg → Prop) : Prop := (if x2 = (25 : Int32) then wX11_block_b22 x0 x1 x2 (some x0) (1 : Int32) S0 Q else (if x2 = (29 : Int32) then wX11_block_b22 x0 x1 x2 (some x0) (2 : Int32) S0 Q else wX11_block_b22 x0 x1 x2 (some x0) (3 : Int32) S0 Q))
set_option maxHeartbeats 4000000 in
set_option maxRecDepth 100000 in
theorem kX11_block_b104 {p : Program} {l : Launch} {e : Env} {s : State} {m : MethodId} {args : Array Value} {below : List Frame} {meth : Method} {c : Code} {D : va_G} {cy : Nat → ClassId} {S0 : Sg} (C : gC p s m args meth c D cy cX11_block 4 yX11_block.cls none yX11_block.name) {H : Heap} {locs : List Loc} {ls : Array Slot} {x0 : Nat} {x3 : Int32} {q0 : Option Nat} {q1 : Int32} {S : Sg} {Q : Sg → Prop} (hW : gW D cy (gA S0) (tg S0) s.heap S H locs) (t0 : tg S x0 = 12) (hl : lv_has ls 4 [(0, va_rf (some x0)), (3, .int x3)]) (hw : wX11_block_b104 x0 x3 q0 q1 S Q) : W p l e { frames := 2, cells := 0, slots := 0, locals := 44 } s m args below meth c H locs 0 0 (MQ below (va_Qv Q (gB D cy S0) (gA S0)) args s 0 0 (gA S0)) (F0 m 104 ls [.int q1, va_rf q0]) := by
  have hx := C.1
  have hb := C.2.1
  unfold wX11_block_b104 at hw
  obtain ⟨a12, ha12, ta12, hw⟩ := hw
  refine gx_putI (k := 738) C hW F11_187 (Or.inl rfl) ha12 ta12 rfl rfl rfl dX11_block_104 (fun H locs S13 eS13 hW hm => ?_)
  have hw := hw S13 eS13
  have t0 := hm _ _ t0
  have ta12 := hm _ _ ta12
  refine gx_aload_n hx hb dX11_block_107 rfl (lv_at hl 0 rfl) ?_
  refine lv_dup hx hb dX11_block_108 (va_rf_cat _) ?_
  refine gx_getI C hW F11_156 (k := 737) rfl t0 rfl dX11_block_109 ?_
  refine lv_iload_n hx hb dX11_block_112 rfl (lv_at hl 1 rfl) ?_
  refine lv_if_eq (tgt := 120) hx hb dX11_block_113 (by decide) (fun c14 => ?_) (fun c14 => ?_)
  · have hw := w_t hw c14
    refine lv_iconst (v := 1) hx hb dX11_block_120 (by decide) ?_
    refine lv_isub hx hb dX11_block_121 ?_
    refine gx_putI (k := 737) C hW F11_156 (Or.inl rfl) rfl t0 rfl rfl rfl dX11_block_122 (fun H locs S15 eS15 hW hm => ?_)
    have hw := hw S15 eS15
    have t0 := hm _ _ t0
    have ta12 := hm _ _ ta12
    exact gx_vret C hW (Nat.le_of_ble_eq_true rfl) (Nat.le_of_ble_eq_true rfl) hw dX11_block_125
  · have hw := w_f hw c14
    refine lv_iconst (v := 0) hx hb dX11_block_116 (by decide) ?_
    refine lv_goto (tgt := 121) hx hb dX11_block_117 (by decide) ?_
    refine lv_isub hx hb dX11_block_121 ?_
    refine gx_putI (k := 737) C hW F11_156 (Or.inl rfl) rfl t0 rfl rfl rfl dX11_block_122 (fun H locs S16 eS16 hW hm => ?_)
    have hw := hw S16 eS16
    have t0 := hm _ _ t0
    have ta12 := hm _ _ ta12
    exact gx_vret C hW (Nat.le_of_ble_eq_true rfl) (Nat.le_of_ble_eq_true rfl) hw dX11_block_125
set_option maxHeartbeats 4000000 in
set_option maxRecDepth 100000 in
theorem kX11_block_b86 {p : Program} {l : Launch} {e : Env} {s : State} {m : MethodId} {args : Array Value} {below : List Frame} {meth : Method} {c : Code} {D : va_G} {cy : Nat → ClassId} {S0 : Sg} (C : gC p s m args meth c D cy cX11_block 4 yX11_block.cls none yX11_block.name) {H : Heap} {locs : List Loc} {ls : Array Slot} {x0 : Nat} {x1 : Int32} {q0 : Int32} {S : Sg} {Q : Sg → Prop} (hW : gW D cy (gA S0) (tg S0) s.heap S H locs) (t0 : tg S x0 = 12) (hl : lv_has ls 4 [(0, va_rf (some x0)), (1, .int x1)]) (hw : wX11_block_b86 x0 x1 q0 S Q) : W p l e { frames := 2, cells := 0, slots := 0, locals := 44 } s m args below meth c H locs 0 0 (MQ below (va_Qv Q (gB D cy S0) (gA S0)) args s 0 0 (gA S0)) (F0 m 86 ls [.int q0]) := by
  have hx := C.1
  have hb := C.2.1
  unfold wX11_block_b86 at hw
  refine lv_istore_n (i := 3) (lv' := [(3, .int q0), (0, va_rf (some x0)), (1, .int x1)]) hx hb dX11_block_86 rfl hl (by decide) rfl (fun ls hl => ?_)
  refine gx_aload_n hx hb dX11_block_87 rfl (lv_at hl 1 rfl) ?_
  refine lv_iload_n hx hb dX11_block_88 rfl (lv_at hl 0 rfl) ?_
  refine lv_if_eq (tgt := 98) hx hb dX11_block_89 (by decide) (fun c9 => ?_) (fun c9 => ?_)
  · have hw := w_t hw c9
    refine gx_aload_n hx hb dX11_block_98 rfl (lv_at hl 1 rfl) ?_
    refine gx_getR C hW F11_31 (k := 712) rfl t0 rfl dX11_block_99 ?_
    refine lv_iload_n hx hb dX11_block_102 rfl (lv_at hl 2 rfl) ?_
    obtain ⟨a10, ha10, ta10, hw⟩ := hw
    obtain ⟨i11, hw⟩ := hw
    refine gx_iald C hW ha10 ta10 i11 dX11_block_103 ?_
    exact kX11_block_b104 C hW t0 (lv_sub hl [1, 0] rfl) hw
  · have hw := w_f hw c9
    refine lv_iload_n hx hb dX11_block_92 rfl (lv_at hl 2 rfl) ?_
    refine lv_iconst (v := 1) hx hb dX11_block_93 (by decide) ?_
    refine lv_iadd hx hb dX11_block_94 ?_
    refine lv_goto (tgt := 104) hx hb dX11_block_95 (by decide) ?_
    exact kX11_block_b104 C hW t0 (lv_sub hl [1, 0] rfl) hw
set_option maxHeartbeats 4000000 in
set_option maxRecDepth 100000 in
theorem kX11_block_b81 {p : Program} {l : Launch} {e : Env} {s : State} {m : MethodId} {args : Array Value} {below : List Frame} {meth : Method} {c : Code} {D : va_G} {cy : Nat → ClassId} {S0 : Sg} (C : gC p s m args meth c D cy cX11_block 4 yX11_block.cls none yX11_block.name) {H : Heap} {locs : List Loc} {ls : Array Slot} {x0 : Nat} {x1 : Int32} {S : Sg} {Q : Sg → Prop} (hW : gW D cy (gA S0) (tg S0) s.heap S H locs) (t0 : tg S x0 = 12) (hl : lv_has ls 4 [(0, va_rf (some x0)), (1, .int x1)]) (hw : wX11_block_b81 x0 x1 S Q) : W p l e { frames := 2, cells := 0, slots := 0, locals := 44 } s m args below meth c H locs 0 0 (MQ below (va_Qv Q (gB D cy S0) (gA S0)) args s 0 0 (gA S0)) (F0 m 81 ls []) := by
  have hx := C.1
  have hb := C.2.1
  unfold wX11_block_b81 at hw
  refine lv_iconst (v := 1) hx hb dX11_block_81 (by decide) ?_
  refine lv_goto (tgt := 86) hx hb dX11_block_82 (by decide) ?_
  exact kX11_block_b86 C hW t0 (lv_sub hl [0, 1] rfl) hw
set_option maxHeartbeats 4000000 in
set_option maxRecDepth 100000 in
theorem kX11_block_b22 {p : Program} {l : Launch} {e : Env} {s : State} {m : MethodId} {args : Array Value} {below : List Frame} {meth : Method} {c : Code} {D : va_G} {cy : Nat → ClassId} {S0 : Sg} (C : gC p s m args meth c D cy cX11_block 4 yX11_block.cls none yX11_block.name) {H : Heap} {locs : List Loc} {ls : Array Slot} {x0 : Nat} {x1 : Int32} {x2 : Int32} {q0 : Option Nat} {q1 : Int32} {S : Sg} {Q : Sg → Prop} (hW : gW D cy (gA S0) (tg S0) s.heap S H locs) (t0 : tg S x0 = 12) (hl : lv_has ls 4 [(0, va_rf (some x0)), (1, .int x1), (2, .int x2)]) (hw : wX11_block_b22 x0 x1 x2 q0 q1 S Q) : W p l e { frames := 2, cells := 0, slots := 0, locals := 44 } s m args below meth c H locs 0 0 (MQ below (va_Qv Q (gB D cy S0) (gA S0)) args s 0 0 (gA S0)) (F0 m 22 ls [.int q1, va_rf q0]) := by
  have hx := C.1
  have hb := C.2.1
  unfold wX11_block_b22 at hw
  refine lv_iload_n hx hb dX11_block_22 rfl (lv_at hl 1 rfl) ?_
  refine lv_iconst (v := 0) hx hb dX11_block_23 (by decide) ?_
  obtain ⟨a3, ha3, ta3, hw⟩ := hw
  refine gx_ci (gx_rV C hW M11_184 (mX11_opens l D cy _ _ _ _ _ _ ta3 hw) rfl rfl ⟨Nat.le_of_ble_eq_true rfl, Nat.le_of_ble_eq_true rfl⟩ ha3 ta3 (by decide) rfl rfl hl.1 rfl (gx_room0 (n := 4) (Nat.le_of_ble_eq_true rfl)) dX11_block_24 ⟨Nat.le_of_ble_eq_true rfl, Nat.le_of_ble_eq_true rfl⟩) hW (fun r4 S5 H locs hW hm hw => ?_)
  have t0 := hm _ _ t0
  have ta3 := hm _ _ ta3
  refine lv_if_ne (tgt := 31) hx hb dX11_block_27 (by decide) (fun c6 => ?_) (fun c6 => ?_)
  · have hw := w_f hw c6
    refine lv_iload_n hx hb dX11_block_31 rfl (lv_at hl 2 rfl) ?_
    refine lv_bipush (v := 29) hx hb dX11_block_32 (by decide) ?_
    refine lv_icmp_ne (tgt := 43) hx hb dX11_block_34 (by decide) (fun c7 => ?_) (fun c7 => ?_)
    · have hw := w_f hw c7
      refine lv_iload_n hx hb dX11_block_43 rfl (lv_at hl 2 rfl) ?_
      refine lv_bipush (v := 25) hx hb dX11_block_44 (by decide) ?_
      refine lv_icmp_eq (tgt := 81) hx hb dX11_block_46 (by decide) (fun c8 => ?_) (fun c8 => ?_)
      · have hw := w_t hw c8
        exact kX11_block_b81 C hW t0 (lv_sub hl [0, 1] rfl) hw
      · have hw := w_f hw c8
        refine gx_aload_n hx hb dX11_block_49 rfl (lv_at hl 0 rfl) ?_
        refine gx_getR C hW F11_43 (k := 717) rfl t0 rfl dX11_block_50 ?_
        refine gx_aload_n hx hb dX11_block_53 rfl (lv_at hl 0 rfl) ?_
        refine gx_getR C hW F11_13 (k := 705) rfl t0 rfl dX11_block_54 ?_
        refine lv_iload_n hx hb dX11_block_57 rfl (lv_at hl 1 rfl) ?_
        obtain ⟨a17, ha17, ta17, hw⟩ := hw
        obtain ⟨i18, hw⟩ := hw
        refine gx_iald C hW ha17 ta17 i18 dX11_block_58 ?_
        refine lv_bipush (v := 7) hx hb dX11_block_59 (by decide) ?_
        refine lv_iand hx hb dX11_block_61 ?_
        obtain ⟨a19, ha19, ta19, hw⟩ := hw
        obtain ⟨i20, hw⟩ := hw
        refine gx_lald C hW ha19 ta19 i20 dX11_block_62 ?_
        refine gx_aload_n hx hb dX11_block_63 rfl (lv_at hl 0 rfl) ?_
        refine gx_getR C hW F11_43 (k := 717) rfl t0 rfl dX11_block_64 ?_
        refine gx_aload_n hx hb dX11_block_67 rfl (lv_at hl 0 rfl) ?_
        refine gx_getR C hW F11_16 (k := 706) rfl t0 rfl dX11_block_68 ?_
        refine lv_iload_n hx hb dX11_block_71 rfl (lv_at hl 1 rfl) ?_
        obtain ⟨a21, ha21, ta21, hw⟩ := hw
        obtain ⟨i22, hw⟩ := hw
        refine gx_iald C hW ha21 ta21 i22 dX11_block_72 ?_
        refine lv_bipush (v := 7) hx hb dX11_block_73 (by decide) ?_
        refine lv_iand hx hb dX11_block_75 ?_
        obtain ⟨i23, hw⟩ := hw
        refine gx_lald C hW ha19 ta19 i23 dX11_block_76 ?_
        refine W.lcmp hx hb dX11_block_77 ?_
        refine lv_if_ge (tgt := 85) hx hb dX11_block_78 (by decide) (fun c24 => ?_) (fun c24 => ?_)
        · have hw := w_t hw c24
          refine lv_iconst (v := 0) hx hb dX11_block_85 (by decide) ?_
          exact kX11_block_b86 C hW t0 (lv_sub hl [0, 1] rfl) hw
        · have hw := w_f hw c24
          exact kX11_block_b81 C hW t0 (lv_sub hl [0, 1] rfl) hw
    · have hw := w_t hw c7
      refine gx_aload_n hx hb dX11_block_37 rfl (lv_at hl 0 rfl) ?_
      refine lv_iload_n hx hb dX11_block_38 rfl (lv_at hl 1 rfl) ?_
      refine gx_cv (gx_rV C hW M11_235 (mX11_looks l D cy _ _ _ _ t0 hw) rfl rfl ⟨Nat.le_of_ble_eq_true rfl, Nat.le_of_ble_eq_true rfl⟩ rfl t0 (by decide) rfl rfl hl.1 rfl (gx_room0 (n := 4) (Nat.le_of_ble_eq_true rfl)) dX11_block_39 ⟨Nat.le_of_ble_eq_true rfl, Nat.le_of_ble_eq_true rfl⟩) hW (fun S26 H locs hW hm hw => ?_)
      have t0 := hm _ _ t0
      have ta3 := hm _ _ ta3
      exact gx_vret C hW (Nat.le_of_ble_eq_true rfl) (Nat.le_of_ble_eq_true rfl) hw dX11_block_42
  · have hw := w_t hw c6
    exact gx_vret C hW (Nat.le_of_ble_eq_true rfl) (Nat.le_of_ble_eq_true rfl) hw dX11_block_30
set_option maxHeartbeats 4000000 in
set_option maxRecDepth 100000 in
theorem mX11_block (l : Launch) (D : va_G) (cy : Nat → ClassId) (x0 : Nat) (x1 : Int32) (x2 : Int32) (S0 : Sg) (Q : Sg → Prop) (t0 : tg S0 x0 = 12) (hw : wX11_block x0 x1 x2 S0 Q) : Met l yX11_block (.code yX11_block cX11_block 4 none :: wsL_law) { frames := 2, cells := 0, slots := 0, locals := 44 } (gPc D cy [va_rf (some x0), .int x1, .int x2] S0) (va_Qv Q (gB D cy S0) (gA S0)) 0 0 (gA S0) := by
  refine gx_met (by decide) (Nat.le_of_ble_eq_true rfl) ?_
  intro p e s m args below meth c ls C hW hl
  have hx := C.1
  have hb := C.2.1
  have hl : lv_has ls 4 [(0, va_rf (some x0)), (1, .int x1), (2, .int x2)] := hl
  unfold wX11_block at hw
  refine gx_aload_n hx hb dX11_block_0 rfl (lv_at hl 0 rfl) ?_
  refine lv_iload_n hx hb dX11_block_1 rfl (lv_at hl 2 rfl) ?_
  refine lv_bipush (v := 25) hx hb dX11_block_2 (by decide) ?_
  refine lv_icmp_ne (tgt := 11) hx hb dX11_block_4 (by decide) (fun c1 => ?_) (fun c1 => ?_)
  · have hw := w_f hw c1
    refine lv_iload_n hx hb dX11_block_11 rfl (lv_at hl 2 rfl) ?_
    refine lv_bipush (v := 29) hx hb dX11_block_12 (by decide) ?_
    refine lv_icmp_ne (tgt := 21) hx hb dX11_block_14 (by decide) (fun c2 => ?_) (fun c2 => ?_)
    · have hw := w_f hw c2
      refine lv_iconst (v := 3) hx hb dX11_block_21 (by decide) ?_
      exact kX11_block_b22 C hW t0 (lv_sub hl [0, 1, 2] rfl) hw
    · have hw := w_t hw c2
      refine lv_iconst (v := 2) hx hb dX11_block_17 (by decide) ?_
      refine lv_goto (tgt := 22) hx hb dX11_block_18 (by decide) ?_
      exact kX11_block_b22 C hW t0 (lv_sub hl [0, 1, 2] rfl) hw
  · have hw := w_t hw c1
    refine lv_iconst (v := 1) hx hb dX11_block_7 (by decide) ?_
    refine lv_goto (tgt := 22) hx hb dX11_block_8 (by decide) ?_
    exact kX11_block_b22 C hW t0 (lv_sub hl [0, 1, 2] rfl) hw
/-! TrialStairModel.call -/
def wX11_call (x0 : Nat) (x1 : Int32) (S0 : Sg) (Q : Sg → Prop) : Prop := ∃ a1 : Nat, (fR S0 705 x0) = some a1 ∧ tg S0 a1 = 13 ∧ vp_in x1 (ln S0 a1) ∧ ∀ y3 : Int32, y3 = (aI S0 a1 (x1).toNatClampNeg) → (if y3 < 0 then wX11_goOn x0 x1 (7 : Int32) S0 (fun (S6 : Sg) => Q S6) else (if y3 < (fI S0 716 x0) then wX11_enter x0 y3 x1 S0 (fun (S9 : Sg) => Q S9) else wX11_goOn x0 x1 (7 : Int32) S0 (fun (S11 : Sg) => Q S11)))
set_option maxHeartbeats 4000000 in
set_option maxRecDepth 100000 in
theorem mX11_call (l : Launch) (D : va_G) (cy : Nat → ClassId) (x0 : Nat) (x1 : Int32) (S0 : Sg) (Q : Sg → Prop) (t0 : tg S0 x0 = 12) (hw : wX11_call x0 x1 S0 Q) : Met l yX11_call (.code yX11_call cX11_call 3 none :: wsL_law) { frames := 5, cells := 0, slots := 0, locals := 109 } (gPc D cy [va_rf (some x0), .int x1] S0) (va_Qv Q (gB D cy S0) (gA S0)) 0 0 (gA S0) := by
  refine gx_met (by decide) (Nat.le_of_ble_eq_true rfl) ?_
  intro p e s m args below meth c ls C hW hl
  have hx := C.1
  have hb := C.2.1
  have hl : lv_has ls 3 [(0, va_rf (some x0)), (1, .int x1)] := hl
  unfold wX11_call at hw
  refine gx_aload_n hx hb dX11_call_0 rfl (lv_at hl 0 rfl) ?_
  refine gx_getR C hW F11_13 (k := 705) rfl t0 rfl dX11_call_1 ?_
  refine lv_iload_n hx hb dX11_call_4 rfl (lv_at hl 1 rfl) ?_
  obtain ⟨a1, ha1, ta1, hw⟩ := hw
  obtain ⟨i2, hw⟩ := hw
  refine gx_iald C hW ha1 ta1 i2 dX11_call_5 ?_
  refine lv_topi (fun y3 ey3 => ?_)
  have hw := hw y3 ey3
  refine lv_istore_n (i := 2) (lv' := [(2, .int y3), (0, va_rf (some x0)), (1, .int x1)]) hx hb dX11_call_6 rfl hl (by decide) rfl (fun ls hl => ?_)
  refine lv_iload_n hx hb dX11_call_7 rfl (lv_at hl 0 rfl) ?_
  refine lv_if_lt (tgt := 19) hx hb dX11_call_8 (by decide) (fun c4 => ?_) (fun c4 => ?_)
  · have hw := w_t hw c4
    refine gx_aload_n hx hb dX11_call_19 rfl (lv_at hl 1 rfl) ?_
    refine lv_iload_n hx hb dX11_call_20 rfl (lv_at hl 2 rfl) ?_
    refine lv_bipush (v := 7) hx hb dX11_call_21 (by decide) ?_
    refine gx_cv (gx_rV C hW M11_217 (mX11_goOn l D cy _ _ _ _ _ t0 hw) rfl rfl ⟨Nat.le_of_ble_eq_true rfl, Nat.le_of_ble_eq_true rfl⟩ rfl t0 (by decide) rfl rfl hl.1 rfl (gx_room0 (n := 4) (Nat.le_of_ble_eq_true rfl)) dX11_call_23 ⟨Nat.le_of_ble_eq_true rfl, Nat.le_of_ble_eq_true rfl⟩) hW (fun S6 H locs hW hm hw => ?_)
    have t0 := hm _ _ t0
    have ta1 := hm _ _ ta1
    exact gx_vret C hW (Nat.le_of_ble_eq_true rfl) (Nat.le_of_ble_eq_true rfl) hw dX11_call_26
  · have hw := w_f hw c4
    refine lv_iload_n hx hb dX11_call_11 rfl (lv_at hl 0 rfl) ?_
    refine gx_aload_n hx hb dX11_call_12 rfl (lv_at hl 1 rfl) ?_
    refine gx_getI C hW F11_112 (k := 716) rfl t0 rfl dX11_call_13 ?_
    refine lv_icmp_lt (tgt := 27) hx hb dX11_call_16 (by decide) (fun c7 => ?_) (fun c7 => ?_)
    · have hw := w_t hw c7
      refine gx_aload_n hx hb dX11_call_27 rfl (lv_at hl 1 rfl) ?_
      refine lv_iload_n hx hb dX11_call_28 rfl (lv_at hl 0 rfl) ?_
      refine lv_iload_n hx hb dX11_call_29 rfl (lv_at hl 2 rfl) ?_
      refine gx_cv (gx_rV C hW M11_137 (mX11_enter l D cy _ _ _ _ _ t0 hw) rfl rfl ⟨Nat.le_of_ble_eq_true rfl, Nat.le_of_ble_eq_true rfl⟩ rfl t0 (by decide) rfl rfl hl.1 rfl (gx_room0 (n := 4) (Nat.le_of_ble_eq_true rfl)) dX11_call_30 ⟨Nat.le_of_ble_eq_true rfl, Nat.le_of_ble_eq_true rfl⟩) hW (fun S9 H locs hW hm hw => ?_)
      have t0 := hm _ _ t0
      have ta1 := hm _ _ ta1
      exact gx_vret C hW (Nat.le_of_ble_eq_true rfl) (Nat.le_of_ble_eq_true rfl) hw dX11_call_33
    · have hw := w_f hw c7
      refine gx_aload_n hx hb dX11_call_19 rfl (lv_at hl 1 rfl) ?_
      refine lv_iload_n hx hb dX11_call_20 rfl (lv_at hl 2 rfl) ?_
      refine lv_bipush (v := 7) hx hb dX11_call_21 (by decide) ?_
      refine gx_cv (gx_rV C hW M11_217 (mX11_goOn l D cy _ _ _ _ _ t0 hw) rfl rfl ⟨Nat.le_of_ble_eq_true rfl, Nat.le_of_ble_eq_true rfl⟩ rfl t0 (by decide) rfl rfl hl.1 rfl (gx_room0 (n := 4) (Nat.le_of_ble_eq_true rfl)) dX11_call_23 ⟨Nat.le_of_ble_eq_true rfl, Nat.le_of_ble_eq_true rfl⟩) hW (fun S11 H locs hW hm hw => ?_)
      have t0 := hm _ _ t0
      have ta1 := hm _ _ ta1
      exact gx_vret C hW (Nat.le_of_ble_eq_true rfl) (Nat.le_of_ble_eq_true rfl) hw dX11_call_26
/-! TrialStairModel.goes -/
def wX11_goes_b185 (x0 : Nat) (x1 : Int32) (x2 : Int32) (q0 : Option Nat) (q1 : Int32) (S : Sg) (Q : Sg → Prop) : Prop := ∃ a23 : Nat, q0 = some a23 ∧ tg S a23 = 12 ∧ ∀ S24 : Sg, S24 = sFI S 740 a23 q1 → (if x2 = (34 : Int32) then ∃ a29 : Nat, (fR S24 705 x0) = some a29 ∧ tg S24 a29 = 13 ∧ vp_in x1 (ln S24 a29) ∧ ∃ a31 : Nat, (fR S24 717 x0) = some a31 ∧ tg S24 a31 = 14 ∧ vp_in ((aI S24 a29 (x1).toNatClampNeg) &&& (7 : Int32)) (ln S24 a31) ∧ ∀ S33 : Sg, S33 = sFL S24 741 x0 (aL S24 a31 (((aI S24 a29 (x1).toNatClampNeg) &&& (7 : Int32))).toNatClampNeg) → wX11_comes x0  S33 (fun (S35 : Sg) => Q S35) else ∀ S26 : Sg, S26 = sFL S24 741 x0 (0 : Int64) → wX11_comes x0  S26 (fun (S28 : Sg) => Q S28))
def wX11_goes_b163 (x0 : Nat) (x1 : Int32) (x2 : Int32) (S : Sg) (Q : Sg → Prop) : Prop := (if x2 = (32 : Int32) then wX11_goes_b185 x0 x1 x2 (some x0) (3 : Int32) S Q else (if x2 = (33 : Int32) then wX11_goes_b185 x0 x1 x2 (some x0) (4 : Int32) S Q else wX11_goes_b185 x0 x1 x2 (some x0) (1 : Int32) S Q))
def wX11_goes (x0 : Nat) (S0 : Sg) (Q : Sg → Prop) : Prop := wX11_partEnd x0  S0 (fun (r1 : Int32) (S2 : Sg) => (if (fI S0 738 x0) = r1 then ∀ S62 : Sg, S62 = sFI S2 740 x0 (0 : Int32) → wX11_comes x0  S62 (fun (S64 : Sg) => Q S64) else wX11_takes x0  S2 (fun (r4 : Int32) (S5 : Sg) => (if r4 = 0 then Q S5 else ∀ y7 : Int32, y7 = (fI S5 738 x0) → ∃ a8 : Nat, (fR S5 704 x0) = some a8 ∧ tg S5 a8 = 13 ∧ vp_in y7 (ln S5 a8) ∧ ∀ y10 : Int32, y10 = (aI S5 a8 (y7).toNatClampNeg) → (if (25 : Int32) ≤ y10 then (if y10 = (25 : Int32) then wX11_block x0 y7 y10 S5 (fun (S14 : Sg) => Q S14) else (if y10 = (29 : Int32) then wX11_block x0 y7 y10 S5 (fun (S17 : Sg) => Q S17) else (if y10 = (30 : Int32) then wX11_block x0 y7 y10 S5 (fun (S42 : Sg) => Q S42) else (if y10 = (35 : Int32) then wX11_call x0 y7 S5 (fun (S40 : Sg) => Q S40) else (if y10 = (32 : Int32) then wX11_goes_b163 x0 y7 y10 S5 Q else (if y10 = (33 : Int32) then wX11_goes_b163 x0 y7 y10 S5 Q else (if y10 = (34 : Int32) then wX11_goes_b163 x0 y7 y10 S5 Q else ∀ S38 : Sg, S38 = sFI S5 738 x0 ((fI S5 738 x0) + (1 : Int32)) → Q S38))))))) else (if (7 : Int32) ≤ y10 then (if (14 : Int32) ≤ y10 then (if (22 : Int32) ≤ y10 then wX11_throwsAt x0 y7 S5 (fun (r46 : Int32) (S47 : Sg) => wX11_goOn x0 y7 r46 S47 (fun (S49 : Sg) => Q S49)) else wX11_withThings x0 y7 S5 (fun (r50 : Int32) (S51 : Sg) => wX11_goOn x0 y7 r50 S51 (fun (S53 : Sg) => Q S53))) else wX11_rows x0 y7 S5 (fun (r54 : Int32) (S55 : Sg) => wX11_goOn x0 y7 r54 S55 (fun (S57 : Sg) => Q S57))) else wX11_reckons x0 y7 S5 (fun (r58 : Int32) (S59 : Sg) => wX11_goOn x0 y7 r58 S59 (fun (S61 : Sg) => Q S61))))))))
set_option maxHeartbeats 4000000 in
set_option maxRecDepth 100000 in
theorem kX11_goes_b185 {p : Program} {l : Launch} {e : Env} {s : State} {m : MethodId} {args : Array Value} {below : List Frame} {meth : Method} {c : Code} {D : va_G} {cy : Nat → ClassId} {S0 : Sg} (C : gC p s m args meth c D cy cX11_goes 4 yX11_goes.cls none yX11_goes.name) {H : Heap} {locs : List Loc} {ls : Array Slot} {x0 : Nat} {x1 : Int32} {x2 : Int32} {q0 : Option Nat} {q1 : Int32} {S : Sg} {Q : Sg → Prop} (hW : gW D cy (gA S0) (tg S0) s.heap S H locs) (t0 : tg S x0 = 12) (hl : lv_has ls 4 [(0, va_rf (some x0)), (1, .int x1), (2, .int x2)]) (hw : wX11_goes_b185 x0 x1 x2 q0 q1 S Q) : W p l e { frames := 6, cells := 0, slots := 0, locals := 131 } s m args below meth c H locs 0 0 (MQ below (va_Qv Q (gB D cy S0) (gA S0)) args s 0 0 (gA S0)) (F0 m 185 ls [.int q1, va_rf q0]) := by
  have hx := C.1
  have hb := C.2.1
  unfold wX11_goes_b185 at hw
  obtain ⟨a23, ha23, ta23, hw⟩ := hw
  refine gx_putI (k := 740) C hW F11_194 (Or.inl rfl) ha23 ta23 rfl rfl rfl dX11_goes_185 (fun H locs S24 eS24 hW hm => ?_)
  have hw := hw S24 eS24
  have t0 := hm _ _ t0
  have ta23 := hm _ _ ta23
  refine gx_aload_n hx hb dX11_goes_188 rfl (lv_at hl 0 rfl) ?_
  refine lv_iload_n hx hb dX11_goes_189 rfl (lv_at hl 2 rfl) ?_
  refine lv_bipush (v := 34) hx hb dX11_goes_190 (by decide) ?_
  refine lv_icmp_ne (tgt := 212) hx hb dX11_goes_192 (by decide) (fun c25 => ?_) (fun c25 => ?_)
  · have hw := w_f hw c25
    refine lv_lconst (v := 0) hx hb dX11_goes_212 (by decide) ?_
    refine gx_putL (k := 741) C hW F11_226 (Or.inl rfl) rfl t0 rfl dX11_goes_213 (fun H locs S26 eS26 hW hm => ?_)
    have hw := hw S26 eS26
    have t0 := hm _ _ t0
    have ta23 := hm _ _ ta23
    refine gx_aload_n hx hb dX11_goes_216 rfl (lv_at hl 0 rfl) ?_
    refine gx_cv (gx_rV C hW M11_197 (mX11_comes l D cy _ _ _ t0 hw) rfl rfl ⟨Nat.le_of_ble_eq_true rfl, Nat.le_of_ble_eq_true rfl⟩ rfl t0 (by decide) rfl rfl hl.1 rfl (gx_room0 (n := 4) (Nat.le_of_ble_eq_true rfl)) dX11_goes_217 ⟨Nat.le_of_ble_eq_true rfl, Nat.le_of_ble_eq_true rfl⟩) hW (fun S28 H locs hW hm hw => ?_)
    have t0 := hm _ _ t0
    have ta23 := hm _ _ ta23
    refine lv_goto (tgt := 233) hx hb dX11_goes_220 (by decide) ?_
    exact gx_vret C hW (Nat.le_of_ble_eq_true rfl) (Nat.le_of_ble_eq_true rfl) hw dX11_goes_233
  · have hw := w_t hw c25
    refine gx_aload_n hx hb dX11_goes_195 rfl (lv_at hl 0 rfl) ?_
    refine gx_getR C hW F11_43 (k := 717) rfl t0 rfl dX11_goes_196 ?_
    refine gx_aload_n hx hb dX11_goes_199 rfl (lv_at hl 0 rfl) ?_
    refine gx_getR C hW F11_13 (k := 705) rfl t0 rfl dX11_goes_200 ?_
    refine lv_iload_n hx hb dX11_goes_203 rfl (lv_at hl 1 rfl) ?_
    obtain ⟨a29, ha29, ta29, hw⟩ := hw
    obtain ⟨i30, hw⟩ := hw
    refine gx_iald C hW ha29 ta29 i30 dX11_goes_204 ?_
    refine lv_bipush (v := 7) hx hb dX11_goes_205 (by decide) ?_
    refine lv_iand hx hb dX11_goes_207 ?_
    obtain ⟨a31, ha31, ta31, hw⟩ := hw
    obtain ⟨i32, hw⟩ := hw
    refine gx_lald C hW ha31 ta31 i32 dX11_goes_208 ?_
    refine lv_goto (tgt := 213) hx hb dX11_goes_209 (by decide) ?_
    refine gx_putL (k := 741) C hW F11_226 (Or.inl rfl) rfl t0 rfl dX11_goes_213 (fun H locs S33 eS33 hW hm => ?_)
    have hw := hw S33 eS33
    have t0 := hm _ _ t0
    have ta23 := hm _ _ ta23
    have ta29 := hm _ _ ta29
    have ta31 := hm _ _ ta31
    refine gx_aload_n hx hb dX11_goes_216 rfl (lv_at hl 0 rfl) ?_
    refine gx_cv (gx_rV C hW M11_197 (mX11_comes l D cy _ _ _ t0 hw) rfl rfl ⟨Nat.le_of_ble_eq_true rfl, Nat.le_of_ble_eq_true rfl⟩ rfl t0 (by decide) rfl rfl hl.1 rfl (gx_room0 (n := 4) (Nat.le_of_ble_eq_true rfl)) dX11_goes_217 ⟨Nat.le_of_ble_eq_true rfl, Nat.le_of_ble_eq_true rfl⟩) hW (fun S35 H locs hW hm hw => ?_)
    have t0 := hm _ _ t0
    have ta23 := hm _ _ ta23
    have ta29 := hm _ _ ta29
    have ta31 := hm _ _ ta31
    refine lv_goto (tgt := 233) hx hb dX11_goes_220 (by decide) ?_
    exact gx_vret C hW (Nat.le_of_ble_eq_true rfl) (Nat.le_of_ble_eq_true rfl) hw dX11_goes_233
set_option maxHeartbeats 4000000 in
set_option maxRecDepth 100000 in
theorem kX11_goes_b163 {p : Program} {l : Launch} {e : Env} {s : State} {m : MethodId} {args : Array Value} {below : List Frame} {meth : Method} {c : Code} {D : va_G} {cy : Nat → ClassId} {S0 : Sg} (C : gC p s m args meth c D cy cX11_goes 4 yX11_goes.cls none yX11_goes.name) {H : Heap} {locs : List Loc} {ls : Array Slot} {x0 : Nat} {x1 : Int32} {x2 : Int32} {S : Sg} {Q : Sg → Prop} (hW : gW D cy (gA S0) (tg S0) s.heap S H locs) (t0 : tg S x0 = 12) (hl : lv_has ls 4 [(0, va_rf (some x0)), (1, .int x1), (2, .int x2)]) (hw : wX11_goes_b163 x0 x1 x2 S Q) : W p l e { frames := 6, cells := 0, slots := 0, locals := 131 } s m args below meth c H locs 0 0 (MQ below (va_Qv Q (gB D cy S0) (gA S0)) args s 0 0 (gA S0)) (F0 m 163 ls []) := by
  have hx := C.1
  have hb := C.2.1
  unfold wX11_goes_b163 at hw
  refine gx_aload_n hx hb dX11_goes_163 rfl (lv_at hl 0 rfl) ?_
  refine lv_iload_n hx hb dX11_goes_164 rfl (lv_at hl 2 rfl) ?_
  refine lv_bipush (v := 32) hx hb dX11_goes_165 (by decide) ?_
  refine lv_icmp_ne (tgt := 174) hx hb dX11_goes_167 (by decide) (fun c21 => ?_) (fun c21 => ?_)
  · have hw := w_f hw c21
    refine lv_iload_n hx hb dX11_goes_174 rfl (lv_at hl 2 rfl) ?_
    refine lv_bipush (v := 33) hx hb dX11_goes_175 (by decide) ?_
    refine lv_icmp_ne (tgt := 184) hx hb dX11_goes_177 (by decide) (fun c22 => ?_) (fun c22 => ?_)
    · have hw := w_f hw c22
      refine lv_iconst (v := 1) hx hb dX11_goes_184 (by decide) ?_
      exact kX11_goes_b185 C hW t0 (lv_sub hl [0, 1, 2] rfl) hw
    · have hw := w_t hw c22
      refine lv_iconst (v := 4) hx hb dX11_goes_180 (by decide) ?_
      refine lv_goto (tgt := 185) hx hb dX11_goes_181 (by decide) ?_
      exact kX11_goes_b185 C hW t0 (lv_sub hl [0, 1, 2] rfl) hw
  · have hw := w_t hw c21
    refine lv_iconst (v := 3) hx hb dX11_goes_170 (by decide) ?_
    refine lv_goto (tgt := 185) hx hb dX11_goes_171 (by decide) ?_
    exact kX11_goes_b185 C hW t0 (lv_sub hl [0, 1, 2] rfl) hw
set_option maxHeartbeats 4000000 in
set_option maxRecDepth 100000 in
theorem mX11_goes (l : Launch) (D : va_G) (cy : Nat → ClassId) (x0 : Nat) (S0 : Sg) (Q : Sg → Prop) (t0 : tg S0 x0 = 12) (hw : wX11_goes x0 S0 Q) : Met l yX11_goes (.code yX11_goes cX11_goes 4 none :: wsL_law) { frames := 6, cells := 0, slots := 0, locals := 131 } (gPc D cy [va_rf (some x0)] S0) (va_Qv Q (gB D cy S0) (gA S0)) 0 0 (gA S0) := by
  refine gx_met (by decide) (Nat.le_of_ble_eq_true rfl) ?_
  intro p e s m args below meth c ls C hW hl
  have hx := C.1
  have hb := C.2.1
  have hl : lv_has ls 4 [(0, va_rf (some x0))] := hl
  unfold wX11_goes at hw
  refine gx_aload_n hx hb dX11_goes_0 rfl (lv_at hl 0 rfl) ?_
  refine gx_getI C hW F11_187 (k := 738) rfl t0 rfl dX11_goes_1 ?_
  refine gx_aload_n hx hb dX11_goes_4 rfl (lv_at hl 0 rfl) ?_
  refine gx_ci (gx_rV C hW M11_190 (mX11_partEnd l D cy _ _ _ t0 hw) rfl rfl ⟨Nat.le_of_ble_eq_true rfl, Nat.le_of_ble_eq_true rfl⟩ rfl t0 (by decide) rfl rfl hl.1 rfl (gx_room0 (n := 4) (Nat.le_of_ble_eq_true rfl)) dX11_goes_5 ⟨Nat.le_of_ble_eq_true rfl, Nat.le_of_ble_eq_true rfl⟩) hW (fun r1 S2 H locs hW hm hw => ?_)
  have t0 := hm _ _ t0
  refine lv_icmp_ne (tgt := 21) hx hb dX11_goes_8 (by decide) (fun c3 => ?_) (fun c3 => ?_)
  · have hw := w_f hw c3
    refine gx_aload_n hx hb dX11_goes_21 rfl (lv_at hl 0 rfl) ?_
    refine gx_ci (gx_rV C hW M11_200 (mX11_takes l D cy _ _ _ t0 hw) rfl rfl ⟨Nat.le_of_ble_eq_true rfl, Nat.le_of_ble_eq_true rfl⟩ rfl t0 (by decide) rfl rfl hl.1 rfl (gx_room0 (n := 4) (Nat.le_of_ble_eq_true rfl)) dX11_goes_22 ⟨Nat.le_of_ble_eq_true rfl, Nat.le_of_ble_eq_true rfl⟩) hW (fun r4 S5 H locs hW hm hw => ?_)
    have t0 := hm _ _ t0
    refine lv_if_ne (tgt := 29) hx hb dX11_goes_25 (by decide) (fun c6 => ?_) (fun c6 => ?_)
    · have hw := w_f hw c6
      refine gx_aload_n hx hb dX11_goes_29 rfl (lv_at hl 0 rfl) ?_
      refine gx_getI C hW F11_187 (k := 738) rfl t0 rfl dX11_goes_30 ?_
      refine lv_topi (fun y7 ey7 => ?_)
      have hw := hw y7 ey7
      refine lv_istore_n (i := 1) (lv' := [(1, .int y7), (0, va_rf (some x0))]) hx hb dX11_goes_33 rfl hl (by decide) rfl (fun ls hl => ?_)
      refine gx_aload_n hx hb dX11_goes_34 rfl (lv_at hl 1 rfl) ?_
      refine gx_getR C hW F11_7 (k := 704) rfl t0 rfl dX11_goes_35 ?_
      refine lv_iload_n hx hb dX11_goes_38 rfl (lv_at hl 0 rfl) ?_
      obtain ⟨a8, ha8, ta8, hw⟩ := hw
      obtain ⟨i9, hw⟩ := hw
      refine gx_iald C hW ha8 ta8 i9 dX11_goes_39 ?_
      refine lv_topi (fun y10 ey10 => ?_)
      have hw := hw y10 ey10
      refine lv_istore_n (i := 2) (lv' := [(2, .int y10), (1, .int y7), (0, va_rf (some x0))]) hx hb dX11_goes_40 rfl hl (by decide) rfl (fun ls hl => ?_)
      refine lv_iload_n hx hb dX11_goes_41 rfl (lv_at hl 0 rfl) ?_
      refine lv_bipush (v := 25) hx hb dX11_goes_42 (by decide) ?_
      refine lv_icmp_ge (tgt := 104) hx hb dX11_goes_44 (by decide) (fun c11 => ?_) (fun c11 => ?_)
      · have hw := w_t hw c11
        refine lv_iload_n hx hb dX11_goes_104 rfl (lv_at hl 0 rfl) ?_
        refine lv_bipush (v := 25) hx hb dX11_goes_105 (by decide) ?_
        refine lv_icmp_eq (tgt := 122) hx hb dX11_goes_107 (by decide) (fun c12 => ?_) (fun c12 => ?_)
        · have hw := w_t hw c12
          refine gx_aload_n hx hb dX11_goes_122 rfl (lv_at hl 2 rfl) ?_
          refine lv_iload_n hx hb dX11_goes_123 rfl (lv_at hl 1 rfl) ?_
          refine lv_iload_n hx hb dX11_goes_124 rfl (lv_at hl 0 rfl) ?_
          refine gx_cv (gx_rV C hW M11_220 (mX11_block l D cy _ _ _ _ _ t0 hw) rfl rfl ⟨Nat.le_of_ble_eq_true rfl, Nat.le_of_ble_eq_true rfl⟩ rfl t0 (by decide) rfl rfl hl.1 rfl (gx_room0 (n := 4) (Nat.le_of_ble_eq_true rfl)) dX11_goes_125 ⟨Nat.le_of_ble_eq_true rfl, Nat.le_of_ble_eq_true rfl⟩) hW (fun S14 H locs hW hm hw => ?_)
          have t0 := hm _ _ t0
          have ta8 := hm _ _ ta8
          refine lv_goto (tgt := 233) hx hb dX11_goes_128 (by decide) ?_
          exact gx_vret C hW (Nat.le_of_ble_eq_true rfl) (Nat.le_of_ble_eq_true rfl) hw dX11_goes_233
        · have hw := w_f hw c12
          refine lv_iload_n hx hb dX11_goes_110 rfl (lv_at hl 0 rfl) ?_
          refine lv_bipush (v := 29) hx hb dX11_goes_111 (by decide) ?_
          refine lv_icmp_eq (tgt := 122) hx hb dX11_goes_113 (by decide) (fun c15 => ?_) (fun c15 => ?_)
          · have hw := w_t hw c15
            refine gx_aload_n hx hb dX11_goes_122 rfl (lv_at hl 2 rfl) ?_
            refine lv_iload_n hx hb dX11_goes_123 rfl (lv_at hl 1 rfl) ?_
            refine lv_iload_n hx hb dX11_goes_124 rfl (lv_at hl 0 rfl) ?_
            refine gx_cv (gx_rV C hW M11_220 (mX11_block l D cy _ _ _ _ _ t0 hw) rfl rfl ⟨Nat.le_of_ble_eq_true rfl, Nat.le_of_ble_eq_true rfl⟩ rfl t0 (by decide) rfl rfl hl.1 rfl (gx_room0 (n := 4) (Nat.le_of_ble_eq_true rfl)) dX11_goes_125 ⟨Nat.le_of_ble_eq_true rfl, Nat.le_of_ble_eq_true rfl⟩) hW (fun S17 H locs hW hm hw => ?_)
            have t0 := hm _ _ t0
            have ta8 := hm _ _ ta8
            refine lv_goto (tgt := 233) hx hb dX11_goes_128 (by decide) ?_
            exact gx_vret C hW (Nat.le_of_ble_eq_true rfl) (Nat.le_of_ble_eq_true rfl) hw dX11_goes_233
          · have hw := w_f hw c15
            refine lv_iload_n hx hb dX11_goes_116 rfl (lv_at hl 0 rfl) ?_
            refine lv_bipush (v := 30) hx hb dX11_goes_117 (by decide) ?_
            refine lv_icmp_ne (tgt := 131) hx hb dX11_goes_119 (by decide) (fun c18 => ?_) (fun c18 => ?_)
            · have hw := w_f hw c18
              refine lv_iload_n hx hb dX11_goes_131 rfl (lv_at hl 0 rfl) ?_
              refine lv_bipush (v := 35) hx hb dX11_goes_132 (by decide) ?_
              refine lv_icmp_ne (tgt := 145) hx hb dX11_goes_134 (by decide) (fun c19 => ?_) (fun c19 => ?_)
              · have hw := w_f hw c19
                refine lv_iload_n hx hb dX11_goes_145 rfl (lv_at hl 0 rfl) ?_
                refine lv_bipush (v := 32) hx hb dX11_goes_146 (by decide) ?_
                refine lv_icmp_eq (tgt := 163) hx hb dX11_goes_148 (by decide) (fun c20 => ?_) (fun c20 => ?_)
                · have hw := w_t hw c20
                  exact kX11_goes_b163 C hW t0 (lv_sub hl [2, 1, 0] rfl) hw
                · have hw := w_f hw c20
                  refine lv_iload_n hx hb dX11_goes_151 rfl (lv_at hl 0 rfl) ?_
                  refine lv_bipush (v := 33) hx hb dX11_goes_152 (by decide) ?_
                  refine lv_icmp_eq (tgt := 163) hx hb dX11_goes_154 (by decide) (fun c36 => ?_) (fun c36 => ?_)
                  · have hw := w_t hw c36
                    exact kX11_goes_b163 C hW t0 (lv_sub hl [2, 1, 0] rfl) hw
                  · have hw := w_f hw c36
                    refine lv_iload_n hx hb dX11_goes_157 rfl (lv_at hl 0 rfl) ?_
                    refine lv_bipush (v := 34) hx hb dX11_goes_158 (by decide) ?_
                    refine lv_icmp_ne (tgt := 223) hx hb dX11_goes_160 (by decide) (fun c37 => ?_) (fun c37 => ?_)
                    · have hw := w_f hw c37
                      refine gx_aload_n hx hb dX11_goes_223 rfl (lv_at hl 2 rfl) ?_
                      refine lv_dup hx hb dX11_goes_224 (va_rf_cat _) ?_
                      refine gx_getI C hW F11_187 (k := 738) rfl t0 rfl dX11_goes_225 ?_
                      refine lv_iconst (v := 1) hx hb dX11_goes_228 (by decide) ?_
                      refine lv_iadd hx hb dX11_goes_229 ?_
                      refine gx_putI (k := 738) C hW F11_187 (Or.inl rfl) rfl t0 rfl rfl rfl dX11_goes_230 (fun H locs S38 eS38 hW hm => ?_)
                      have hw := hw S38 eS38
                      have t0 := hm _ _ t0
                      have ta8 := hm _ _ ta8
                      exact gx_vret C hW (Nat.le_of_ble_eq_true rfl) (Nat.le_of_ble_eq_true rfl) hw dX11_goes_233
                    · have hw := w_t hw c37
                      exact kX11_goes_b163 C hW t0 (lv_sub hl [2, 1, 0] rfl) hw
              · have hw := w_t hw c19
                refine gx_aload_n hx hb dX11_goes_137 rfl (lv_at hl 2 rfl) ?_
                refine lv_iload_n hx hb dX11_goes_138 rfl (lv_at hl 1 rfl) ?_
                refine gx_cv (gx_rV C hW M11_223 (mX11_call l D cy _ _ _ _ t0 hw) rfl rfl ⟨Nat.le_of_ble_eq_true rfl, Nat.le_of_ble_eq_true rfl⟩ rfl t0 (by decide) rfl rfl hl.1 rfl (gx_room0 (n := 4) (Nat.le_of_ble_eq_true rfl)) dX11_goes_139 ⟨Nat.le_of_ble_eq_true rfl, Nat.le_of_ble_eq_true rfl⟩) hW (fun S40 H locs hW hm hw => ?_)
                have t0 := hm _ _ t0
                have ta8 := hm _ _ ta8
                refine lv_goto (tgt := 233) hx hb dX11_goes_142 (by decide) ?_
                exact gx_vret C hW (Nat.le_of_ble_eq_true rfl) (Nat.le_of_ble_eq_true rfl) hw dX11_goes_233
            · have hw := w_t hw c18
              refine gx_aload_n hx hb dX11_goes_122 rfl (lv_at hl 2 rfl) ?_
              refine lv_iload_n hx hb dX11_goes_123 rfl (lv_at hl 1 rfl) ?_
              refine lv_iload_n hx hb dX11_goes_124 rfl (lv_at hl 0 rfl) ?_
              refine gx_cv (gx_rV C hW M11_220 (mX11_block l D cy _ _ _ _ _ t0 hw) rfl rfl ⟨Nat.le_of_ble_eq_true rfl, Nat.le_of_ble_eq_true rfl⟩ rfl t0 (by decide) rfl rfl hl.1 rfl (gx_room0 (n := 4) (Nat.le_of_ble_eq_true rfl)) dX11_goes_125 ⟨Nat.le_of_ble_eq_true rfl, Nat.le_of_ble_eq_true rfl⟩) hW (fun S42 H locs hW hm hw => ?_)
              have t0 := hm _ _ t0
              have ta8 := hm _ _ ta8
              refine lv_goto (tgt := 233) hx hb dX11_goes_128 (by decide) ?_
              exact gx_vret C hW (Nat.le_of_ble_eq_true rfl) (Nat.le_of_ble_eq_true rfl) hw dX11_goes_233
      · have hw := w_f hw c11
        refine lv_iload_n hx hb dX11_goes_47 rfl (lv_at hl 0 rfl) ?_
        refine lv_bipush (v := 7) hx hb dX11_goes_48 (by decide) ?_
        refine lv_icmp_ge (tgt := 61) hx hb dX11_goes_50 (by decide) (fun c43 => ?_) (fun c43 => ?_)
        · have hw := w_t hw c43
          refine lv_iload_n hx hb dX11_goes_61 rfl (lv_at hl 0 rfl) ?_
          refine lv_bipush (v := 14) hx hb dX11_goes_62 (by decide) ?_
          refine lv_icmp_ge (tgt := 75) hx hb dX11_goes_64 (by decide) (fun c44 => ?_) (fun c44 => ?_)
          · have hw := w_t hw c44
            refine lv_iload_n hx hb dX11_goes_75 rfl (lv_at hl 0 rfl) ?_
            refine lv_bipush (v := 22) hx hb dX11_goes_76 (by decide) ?_
            refine lv_icmp_ge (tgt := 89) hx hb dX11_goes_78 (by decide) (fun c45 => ?_) (fun c45 => ?_)
            · have hw := w_t hw c45
              refine gx_aload_n hx hb dX11_goes_89 rfl (lv_at hl 2 rfl) ?_
              refine lv_iload_n hx hb dX11_goes_90 rfl (lv_at hl 1 rfl) ?_
              refine gx_ci (gx_rV C hW M11_214 (mX11_throwsAt l D cy _ _ _ _ t0 hw) rfl rfl ⟨Nat.le_of_ble_eq_true rfl, Nat.le_of_ble_eq_true rfl⟩ rfl t0 (by decide) rfl rfl hl.1 rfl (gx_room0 (n := 4) (Nat.le_of_ble_eq_true rfl)) dX11_goes_91 ⟨Nat.le_of_ble_eq_true rfl, Nat.le_of_ble_eq_true rfl⟩) hW (fun r46 S47 H locs hW hm hw => ?_)
              have t0 := hm _ _ t0
              have ta8 := hm _ _ ta8
              refine lv_istore_n (i := 3) (lv' := [(3, .int r46), (2, .int y10), (1, .int y7), (0, va_rf (some x0))]) hx hb dX11_goes_94 rfl hl (by decide) rfl (fun ls hl => ?_)
              refine gx_aload_n hx hb dX11_goes_95 rfl (lv_at hl 3 rfl) ?_
              refine lv_iload_n hx hb dX11_goes_96 rfl (lv_at hl 2 rfl) ?_
              refine lv_iload_n hx hb dX11_goes_97 rfl (lv_at hl 0 rfl) ?_
              refine gx_cv (gx_rV C hW M11_217 (mX11_goOn l D cy _ _ _ _ _ t0 hw) rfl rfl ⟨Nat.le_of_ble_eq_true rfl, Nat.le_of_ble_eq_true rfl⟩ rfl t0 (by decide) rfl rfl hl.1 rfl (gx_room0 (n := 4) (Nat.le_of_ble_eq_true rfl)) dX11_goes_98 ⟨Nat.le_of_ble_eq_true rfl, Nat.le_of_ble_eq_true rfl⟩) hW (fun S49 H locs hW hm hw => ?_)
              have t0 := hm _ _ t0
              have ta8 := hm _ _ ta8
              refine lv_goto (tgt := 233) hx hb dX11_goes_101 (by decide) ?_
              exact gx_vret C hW (Nat.le_of_ble_eq_true rfl) (Nat.le_of_ble_eq_true rfl) hw dX11_goes_233
            · have hw := w_f hw c45
              refine gx_aload_n hx hb dX11_goes_81 rfl (lv_at hl 2 rfl) ?_
              refine lv_iload_n hx hb dX11_goes_82 rfl (lv_at hl 1 rfl) ?_
              refine gx_ci (gx_rV C hW M11_211 (mX11_withThings l D cy _ _ _ _ t0 hw) rfl rfl ⟨Nat.le_of_ble_eq_true rfl, Nat.le_of_ble_eq_true rfl⟩ rfl t0 (by decide) rfl rfl hl.1 rfl (gx_room0 (n := 4) (Nat.le_of_ble_eq_true rfl)) dX11_goes_83 ⟨Nat.le_of_ble_eq_true rfl, Nat.le_of_ble_eq_true rfl⟩) hW (fun r50 S51 H locs hW hm hw => ?_)
              have t0 := hm _ _ t0
              have ta8 := hm _ _ ta8
              refine lv_goto (tgt := 94) hx hb dX11_goes_86 (by decide) ?_
              refine lv_istore_n (i := 3) (lv' := [(3, .int r50), (2, .int y10), (1, .int y7), (0, va_rf (some x0))]) hx hb dX11_goes_94 rfl hl (by decide) rfl (fun ls hl => ?_)
              refine gx_aload_n hx hb dX11_goes_95 rfl (lv_at hl 3 rfl) ?_
              refine lv_iload_n hx hb dX11_goes_96 rfl (lv_at hl 2 rfl) ?_
              refine lv_iload_n hx hb dX11_goes_97 rfl (lv_at hl 0 rfl) ?_
              refine gx_cv (gx_rV C hW M11_217 (mX11_goOn l D cy _ _ _ _ _ t0 hw) rfl rfl ⟨Nat.le_of_ble_eq_true rfl, Nat.le_of_ble_eq_true rfl⟩ rfl t0 (by decide) rfl rfl hl.1 rfl (gx_room0 (n := 4) (Nat.le_of_ble_eq_true rfl)) dX11_goes_98 ⟨Nat.le_of_ble_eq_true rfl, Nat.le_of_ble_eq_true rfl⟩) hW (fun S53 H locs hW hm hw => ?_)
              have t0 := hm _ _ t0
              have ta8 := hm _ _ ta8
              refine lv_goto (tgt := 233) hx hb dX11_goes_101 (by decide) ?_
              exact gx_vret C hW (Nat.le_of_ble_eq_true rfl) (Nat.le_of_ble_eq_true rfl) hw dX11_goes_233
          · have hw := w_f hw c44
            refine gx_aload_n hx hb dX11_goes_67 rfl (lv_at hl 2 rfl) ?_
            refine lv_iload_n hx hb dX11_goes_68 rfl (lv_at hl 1 rfl) ?_
            refine gx_ci (gx_rV C hW M11_208 (mX11_rows l D cy _ _ _ _ t0 hw) rfl rfl ⟨Nat.le_of_ble_eq_true rfl, Nat.le_of_ble_eq_true rfl⟩ rfl t0 (by decide) rfl rfl hl.1 rfl (gx_room0 (n := 4) (Nat.le_of_ble_eq_true rfl)) dX11_goes_69 ⟨Nat.le_of_ble_eq_true rfl, Nat.le_of_ble_eq_true rfl⟩) hW (fun r54 S55 H locs hW hm hw => ?_)
            have t0 := hm _ _ t0
            have ta8 := hm _ _ ta8
            refine lv_goto (tgt := 94) hx hb dX11_goes_72 (by decide) ?_
            refine lv_istore_n (i := 3) (lv' := [(3, .int r54), (2, .int y10), (1, .int y7), (0, va_rf (some x0))]) hx hb dX11_goes_94 rfl hl (by decide) rfl (fun ls hl => ?_)
            refine gx_aload_n hx hb dX11_goes_95 rfl (lv_at hl 3 rfl) ?_
            refine lv_iload_n hx hb dX11_goes_96 rfl (lv_at hl 2 rfl) ?_
            refine lv_iload_n hx hb dX11_goes_97 rfl (lv_at hl 0 rfl) ?_
            refine gx_cv (gx_rV C hW M11_217 (mX11_goOn l D cy _ _ _ _ _ t0 hw) rfl rfl ⟨Nat.le_of_ble_eq_true rfl, Nat.le_of_ble_eq_true rfl⟩ rfl t0 (by decide) rfl rfl hl.1 rfl (gx_room0 (n := 4) (Nat.le_of_ble_eq_true rfl)) dX11_goes_98 ⟨Nat.le_of_ble_eq_true rfl, Nat.le_of_ble_eq_true rfl⟩) hW (fun S57 H locs hW hm hw => ?_)
            have t0 := hm _ _ t0
            have ta8 := hm _ _ ta8
            refine lv_goto (tgt := 233) hx hb dX11_goes_101 (by decide) ?_
            exact gx_vret C hW (Nat.le_of_ble_eq_true rfl) (Nat.le_of_ble_eq_true rfl) hw dX11_goes_233
        · have hw := w_f hw c43
          refine gx_aload_n hx hb dX11_goes_53 rfl (lv_at hl 2 rfl) ?_
          refine lv_iload_n hx hb dX11_goes_54 rfl (lv_at hl 1 rfl) ?_
          refine gx_ci (gx_rV C hW M11_204 (mX11_reckons l D cy _ _ _ _ t0 hw) rfl rfl ⟨Nat.le_of_ble_eq_true rfl, Nat.le_of_ble_eq_true rfl⟩ rfl t0 (by decide) rfl rfl hl.1 rfl (gx_room0 (n := 4) (Nat.le_of_ble_eq_true rfl)) dX11_goes_55 ⟨Nat.le_of_ble_eq_true rfl, Nat.le_of_ble_eq_true rfl⟩) hW (fun r58 S59 H locs hW hm hw => ?_)
          have t0 := hm _ _ t0
          have ta8 := hm _ _ ta8
          refine lv_goto (tgt := 94) hx hb dX11_goes_58 (by decide) ?_
          refine lv_istore_n (i := 3) (lv' := [(3, .int r58), (2, .int y10), (1, .int y7), (0, va_rf (some x0))]) hx hb dX11_goes_94 rfl hl (by decide) rfl (fun ls hl => ?_)
          refine gx_aload_n hx hb dX11_goes_95 rfl (lv_at hl 3 rfl) ?_
          refine lv_iload_n hx hb dX11_goes_96 rfl (lv_at hl 2 rfl) ?_
          refine lv_iload_n hx hb dX11_goes_97 rfl (lv_at hl 0 rfl) ?_
          refine gx_cv (gx_rV C hW M11_217 (mX11_goOn l D cy _ _ _ _ _ t0 hw) rfl rfl ⟨Nat.le_of_ble_eq_true rfl, Nat.le_of_ble_eq_true rfl⟩ rfl t0 (by decide) rfl rfl hl.1 rfl (gx_room0 (n := 4) (Nat.le_of_ble_eq_true rfl)) dX11_goes_98 ⟨Nat.le_of_ble_eq_true rfl, Nat.le_of_ble_eq_true rfl⟩) hW (fun S61 H locs hW hm hw => ?_)
          have t0 := hm _ _ t0
          have ta8 := hm _ _ ta8
          refine lv_goto (tgt := 233) hx hb dX11_goes_101 (by decide) ?_
          exact gx_vret C hW (Nat.le_of_ble_eq_true rfl) (Nat.le_of_ble_eq_true rfl) hw dX11_goes_233
    · have hw := w_t hw c6
      exact gx_vret C hW (Nat.le_of_ble_eq_true rfl) (Nat.le_of_ble_eq_true rfl) hw dX11_goes_28
  · have hw := w_t hw c3
    refine gx_aload_n hx hb dX11_goes_11 rfl (lv_at hl 0 rfl) ?_
    refine lv_iconst (v := 0) hx hb dX11_goes_12 (by decide) ?_
    refine gx_putI (k := 740) C hW F11_194 (Or.inl rfl) rfl t0 rfl rfl rfl dX11_goes_13 (fun H locs S62 eS62 hW hm => ?_)
    have hw := hw S62 eS62
    have t0 := hm _ _ t0
    refine gx_aload_n hx hb dX11_goes_16 rfl (lv_at hl 0 rfl) ?_
    refine gx_cv (gx_rV C hW M11_197 (mX11_comes l D cy _ _ _ t0 hw) rfl rfl ⟨Nat.le_of_ble_eq_true rfl, Nat.le_of_ble_eq_true rfl⟩ rfl t0 (by decide) rfl rfl hl.1 rfl (gx_room0 (n := 4) (Nat.le_of_ble_eq_true rfl)) dX11_goes_17 ⟨Nat.le_of_ble_eq_true rfl, Nat.le_of_ble_eq_true rfl⟩) hW (fun S64 H locs hW hm hw => ?_)
    have t0 := hm _ _ t0
    exact gx_vret C hW (Nat.le_of_ble_eq_true rfl) (Nat.le_of_ble_eq_true rfl) hw dX11_goes_20
/-! TrialStairModel.run -/
def wX11_run_b85 (x0 : Nat) (S : Sg) (Q : Int32 → Sg → Prop) : Prop := ∀ S13 : Sg, S13 = sFI S 748 x0 ((fI S 748 x0) + (1 : Int32)) → ∀ S14 : Sg, S14 = sFI S13 749 x0 ((fI S13 749 x0) + (fI S13 747 x0)) → Q (fI S14 747 x0) S14
def wX11_run_b61 : Nat → (Nat) → (Int32) → Sg → (Int32 → Sg → Prop) → Prop
  | 0, _, _, _, _ => False
  | fu + 1, x0, x3, S, Q => (if (5000 : Int32) ≤ x3 then wX11_run_b85 x0 S Q else (if (fI S 739 x0) = 0 then wX11_run_b85 x0 S Q else wX11_goes x0  S (fun (S17 : Sg) => ∀ y18 : Int32, y18 = x3 + (1) → wX11_run_b61 fu x0 y18 S17 Q)))
def wX11_run (x0 : Nat) (x1 : Int32) (x2 : Int32) (S0 : Sg) (Q : Int32 → Sg → Prop) : Prop := wX11_layOut x0  S0 (fun (S2 : Sg) => (if x1 < 0 then Q (-1 : Int32) S2 else (if x1 < (fI S2 716 x0) then (if x2 < (1 : Int32) then Q (-2 : Int32) S2 else (if x2 ≤ (1000 : Int32) then (if (fI S2 749 x0) ≤ ((8000 : Int32) - x2) then wX11_begin x0 x2 S2 (fun (S9 : Sg) => wX11_enter x0 x1 (-1 : Int32) S9 (fun (S11 : Sg) => ∃ fu19 : Nat, wX11_run_b61 fu19 x0 (0 : Int32) S11 Q)) else Q (-3 : Int32) S2) else Q (-2 : Int32) S2)) else Q (-1 : Int32) S2)))
set_option maxHeartbeats 4000000 in
set_option maxRecDepth 100000 in
theorem kX11_run_b85 {p : Program} {l : Launch} {e : Env} {s : State} {m : MethodId} {args : Array Value} {below : List Frame} {meth : Method} {c : Code} {D : va_G} {cy : Nat → ClassId} {S0 : Sg} (C : gC p s m args meth c D cy cX11_run 4 yX11_run.cls (some .int) yX11_run.name) {H : Heap} {locs : List Loc} {ls : Array Slot} {x0 : Nat} {S : Sg} {Q : Int32 → Sg → Prop} (hW : gW D cy (gA S0) (tg S0) s.heap S H locs) (t0 : tg S x0 = 12) (hl : lv_has ls 4 [(0, va_rf (some x0))]) (hw : wX11_run_b85 x0 S Q) : W p l e { frames := 7, cells := 0, slots := 0, locals := 154 } s m args below meth c H locs 0 0 (MQ below (va_Qi Q (gB D cy S0) (gA S0)) args s 0 0 (gA S0)) (F0 m 85 ls []) := by
  have hx := C.1
  have hb := C.2.1
  unfold wX11_run_b85 at hw
  refine gx_aload_n hx hb dX11_run_85 rfl (lv_at hl 0 rfl) ?_
  refine lv_dup hx hb dX11_run_86 (va_rf_cat _) ?_
  refine gx_getI C hW F11_147 (k := 748) rfl t0 rfl dX11_run_87 ?_
  refine lv_iconst (v := 1) hx hb dX11_run_90 (by decide) ?_
  refine lv_iadd hx hb dX11_run_91 ?_
  refine gx_putI (k := 748) C hW F11_147 (Or.inl rfl) rfl t0 rfl rfl rfl dX11_run_92 (fun H locs S13 eS13 hW hm => ?_)
  have hw := hw S13 eS13
  have t0 := hm _ _ t0
  refine gx_aload_n hx hb dX11_run_95 rfl (lv_at hl 0 rfl) ?_
  refine lv_dup hx hb dX11_run_96 (va_rf_cat _) ?_
  refine gx_getI C hW F11_130 (k := 749) rfl t0 rfl dX11_run_97 ?_
  refine gx_aload_n hx hb dX11_run_100 rfl (lv_at hl 0 rfl) ?_
  refine gx_getI C hW F11_150 (k := 747) rfl t0 rfl dX11_run_101 ?_
  refine lv_iadd hx hb dX11_run_104 ?_
  refine gx_putI (k := 749) C hW F11_130 (Or.inl rfl) rfl t0 rfl rfl rfl dX11_run_105 (fun H locs S14 eS14 hW hm => ?_)
  have hw := hw S14 eS14
  have t0 := hm _ _ t0
  refine gx_aload_n hx hb dX11_run_108 rfl (lv_at hl 0 rfl) ?_
  refine gx_getI C hW F11_150 (k := 747) rfl t0 rfl dX11_run_109 ?_
  exact gx_iret C hW (Nat.le_of_ble_eq_true rfl) (Nat.le_of_ble_eq_true rfl) rfl hw dX11_run_112
set_option maxHeartbeats 4000000 in
set_option maxRecDepth 100000 in
theorem kX11_run_l61 {p : Program} {l : Launch} {e : Env} {s : State} {m : MethodId} {args : Array Value} {below : List Frame} {meth : Method} {c : Code} {D : va_G} {cy : Nat → ClassId} {S0 : Sg} (C : gC p s m args meth c D cy cX11_run 4 yX11_run.cls (some .int) yX11_run.name) {x0 : Nat} {Q : Int32 → Sg → Prop} : ∀ (fu : Nat) (x3 : Int32) (S : Sg) (H : Heap) (locs : List Loc) (ls : Array Slot) (hW : gW D cy (gA S0) (tg S0) s.heap S H locs) (t0 : tg S x0 = 12) (hl : lv_has ls 4 [(0, va_rf (some x0)), (3, .int x3)]) (hw : wX11_run_b61 fu x0 x3 S Q), W p l e { frames := 7, cells := 0, slots := 0, locals := 154 } s m args below meth c H locs 0 0 (MQ below (va_Qi Q (gB D cy S0) (gA S0)) args s 0 0 (gA S0)) (F0 m 61 ls []) := by
  have hx := C.1
  have hb := C.2.1
  intro fu
  induction fu with
  | zero =>
    intro x3 S H locs ls hW t0 hl hw
    unfold wX11_run_b61 at hw
    exact hw.elim
  | succ fu ih =>
    intro x3 S H locs ls hW t0 hl hw
    unfold wX11_run_b61 at hw
    refine lv_iload_n hx hb dX11_run_61 rfl (lv_at hl 1 rfl) ?_
    refine lv_sipush (v := 5000) hx hb dX11_run_62 (by decide) ?_
    refine lv_icmp_ge (tgt := 85) hx hb dX11_run_65 (by decide) (fun c12 => ?_) (fun c12 => ?_)
    · have hw := w_t hw c12
      exact kX11_run_b85 C hW t0 (lv_sub hl [0] rfl) hw
    · have hw := w_f hw c12
      refine gx_aload_n hx hb dX11_run_68 rfl (lv_at hl 0 rfl) ?_
      refine gx_getI C hW F11_140 (k := 739) rfl t0 rfl dX11_run_69 ?_
      refine lv_if_eq (tgt := 85) hx hb dX11_run_72 (by decide) (fun c15 => ?_) (fun c15 => ?_)
      · have hw := w_t hw c15
        exact kX11_run_b85 C hW t0 (lv_sub hl [0] rfl) hw
      · have hw := w_f hw c15
        refine gx_aload_n hx hb dX11_run_75 rfl (lv_at hl 0 rfl) ?_
        refine gx_cv (gx_rV C hW M11_144 (mX11_goes l D cy _ _ _ t0 hw) rfl rfl ⟨Nat.le_of_ble_eq_true rfl, Nat.le_of_ble_eq_true rfl⟩ rfl t0 (by decide) rfl rfl hl.1 rfl (gx_room0 (n := 4) (Nat.le_of_ble_eq_true rfl)) dX11_run_76 ⟨Nat.le_of_ble_eq_true rfl, Nat.le_of_ble_eq_true rfl⟩) hW (fun S17 H locs hW hm hw => ?_)
        have t0 := hm _ _ t0
        obtain ⟨y18, ey18⟩ : ∃ z : Int32, z = x3 + (1) := ⟨_, rfl⟩
        have hw := hw y18 ey18
        refine lv_iinc (v := y18) (lv' := [(3, .int y18), (0, va_rf (some x0))]) hx hb dX11_run_79 hl (k := 1) rfl (by rw [ey18]; rfl) (by decide) rfl (fun ls hl => ?_)
        refine lv_goto (tgt := 61) hx hb dX11_run_82 (by decide) ?_
        exact ih _ _ _ _ _ hW t0 (lv_sub hl [1, 0] rfl) hw
theorem kX11_run_b61 {p : Program} {l : Launch} {e : Env} {s : State} {m : MethodId} {args : Array Value} {below : List Frame} {meth : Method} {c : Code} {D : va_G} {cy : Nat → ClassId} {S0 : Sg} (C : gC p s m args meth c D cy cX11_run 4 yX11_run.cls (some .int) yX11_run.name) {H : Heap} {locs : List Loc} {ls : Array Slot} {x0 : Nat} {x3 : Int32} {S : Sg} {Q : Int32 → Sg → Prop} (fu : Nat) (hW : gW D cy (gA S0) (tg S0) s.heap S H locs) (t0 : tg S x0 = 12) (hl : lv_has ls 4 [(0, va_rf (some x0)), (3, .int x3)]) (hw : wX11_run_b61 fu x0 x3 S Q) : W p l e { frames := 7, cells := 0, slots := 0, locals := 154 } s m args below meth c H locs 0 0 (MQ below (va_Qi Q (gB D cy S0) (gA S0)) args s 0 0 (gA S0)) (F0 m 61 ls []) := kX11_run_l61 C fu _ _ _ _ _ hW t0 hl hw
set_option maxHeartbeats 4000000 in
set_option maxRecDepth 100000 in
theorem mX11_run (l : Launch) (D : va_G) (cy : Nat → ClassId) (x0 : Nat) (x1 : Int32) (x2 : Int32) (S0 : Sg) (Q : Int32 → Sg → Prop) (t0 : tg S0 x0 = 12) (hw : wX11_run x0 x1 x2 S0 Q) : Met l yX11_run (.code yX11_run cX11_run 4 (some .int) :: wsL_law) { frames := 7, cells := 0, slots := 0, locals := 154 } (gPc D cy [va_rf (some x0), .int x1, .int x2] S0) (va_Qi Q (gB D cy S0) (gA S0)) 0 0 (gA S0) := by
  refine gx_met (by decide) (Nat.le_of_ble_eq_true rfl) ?_
  intro p e s m args below meth c ls C hW hl
  have hx := C.1
  have hb := C.2.1
  have hl : lv_has ls 4 [(0, va_rf (some x0)), (1, .int x1), (2, .int x2)] := hl
  unfold wX11_run at hw
  refine gx_aload_n hx hb dX11_run_0 rfl (lv_at hl 0 rfl) ?_
  refine gx_cv (gx_rV C hW M11_127 (mX11_layOut l D cy _ _ _ t0 hw) rfl rfl ⟨Nat.le_of_ble_eq_true rfl, Nat.le_of_ble_eq_true rfl⟩ rfl t0 (by decide) rfl rfl hl.1 rfl (gx_room0 (n := 4) (Nat.le_of_ble_eq_true rfl)) dX11_run_1 ⟨Nat.le_of_ble_eq_true rfl, Nat.le_of_ble_eq_true rfl⟩) hW (fun S2 H locs hW hm hw => ?_)
  have t0 := hm _ _ t0
  refine lv_iload_n hx hb dX11_run_4 rfl (lv_at hl 1 rfl) ?_
  refine lv_if_lt (tgt := 16) hx hb dX11_run_5 (by decide) (fun c3 => ?_) (fun c3 => ?_)
  · have hw := w_t hw c3
    refine lv_iconst (v := -1) hx hb dX11_run_16 (by decide) ?_
    exact gx_iret C hW (Nat.le_of_ble_eq_true rfl) (Nat.le_of_ble_eq_true rfl) rfl hw dX11_run_17
  · have hw := w_f hw c3
    refine lv_iload_n hx hb dX11_run_8 rfl (lv_at hl 1 rfl) ?_
    refine gx_aload_n hx hb dX11_run_9 rfl (lv_at hl 0 rfl) ?_
    refine gx_getI C hW F11_112 (k := 716) rfl t0 rfl dX11_run_10 ?_
    refine lv_icmp_lt (tgt := 18) hx hb dX11_run_13 (by decide) (fun c4 => ?_) (fun c4 => ?_)
    · have hw := w_t hw c4
      refine lv_iload_n hx hb dX11_run_18 rfl (lv_at hl 2 rfl) ?_
      refine lv_iconst (v := 1) hx hb dX11_run_19 (by decide) ?_
      refine lv_icmp_lt (tgt := 30) hx hb dX11_run_20 (by decide) (fun c5 => ?_) (fun c5 => ?_)
      · have hw := w_t hw c5
        refine lv_bipush (v := -2) hx hb dX11_run_30 (by decide) ?_
        exact gx_iret C hW (Nat.le_of_ble_eq_true rfl) (Nat.le_of_ble_eq_true rfl) rfl hw dX11_run_32
      · have hw := w_f hw c5
        refine lv_iload_n hx hb dX11_run_23 rfl (lv_at hl 2 rfl) ?_
        refine lv_sipush (v := 1000) hx hb dX11_run_24 (by decide) ?_
        refine lv_icmp_le (tgt := 33) hx hb dX11_run_27 (by decide) (fun c6 => ?_) (fun c6 => ?_)
        · have hw := w_t hw c6
          refine gx_aload_n hx hb dX11_run_33 rfl (lv_at hl 0 rfl) ?_
          refine gx_getI C hW F11_130 (k := 749) rfl t0 rfl dX11_run_34 ?_
          refine lv_sipush (v := 8000) hx hb dX11_run_37 (by decide) ?_
          refine lv_iload_n hx hb dX11_run_40 rfl (lv_at hl 2 rfl) ?_
          refine lv_isub hx hb dX11_run_41 ?_
          refine lv_icmp_le (tgt := 48) hx hb dX11_run_42 (by decide) (fun c7 => ?_) (fun c7 => ?_)
          · have hw := w_t hw c7
            refine gx_aload_n hx hb dX11_run_48 rfl (lv_at hl 0 rfl) ?_
            refine lv_iload_n hx hb dX11_run_49 rfl (lv_at hl 2 rfl) ?_
            refine gx_cv (gx_rV C hW M11_133 (mX11_begin l D cy _ _ _ _ t0 hw) rfl rfl ⟨Nat.le_of_ble_eq_true rfl, Nat.le_of_ble_eq_true rfl⟩ rfl t0 (by decide) rfl rfl hl.1 rfl (gx_room0 (n := 4) (Nat.le_of_ble_eq_true rfl)) dX11_run_50 ⟨Nat.le_of_ble_eq_true rfl, Nat.le_of_ble_eq_true rfl⟩) hW (fun S9 H locs hW hm hw => ?_)
            have t0 := hm _ _ t0
            refine gx_aload_n hx hb dX11_run_53 rfl (lv_at hl 0 rfl) ?_
            refine lv_iload_n hx hb dX11_run_54 rfl (lv_at hl 1 rfl) ?_
            refine lv_iconst (v := -1) hx hb dX11_run_55 (by decide) ?_
            refine gx_cv (gx_rV C hW M11_137 (mX11_enter l D cy _ _ _ _ _ t0 hw) rfl rfl ⟨Nat.le_of_ble_eq_true rfl, Nat.le_of_ble_eq_true rfl⟩ rfl t0 (by decide) rfl rfl hl.1 rfl (gx_room0 (n := 4) (Nat.le_of_ble_eq_true rfl)) dX11_run_56 ⟨Nat.le_of_ble_eq_true rfl, Nat.le_of_ble_eq_true rfl⟩) hW (fun S11 H locs hW hm hw => ?_)
            have t0 := hm _ _ t0
            refine lv_iconst (v := 0) hx hb dX11_run_59 (by decide) ?_
            refine lv_istore_n (i := 3) (lv' := [(3, .int (0 : Int32)), (0, va_rf (some x0)), (1, .int x1), (2, .int x2)]) hx hb dX11_run_60 rfl hl (by decide) rfl (fun ls hl => ?_)
            obtain ⟨fu19, hw⟩ := hw
            exact kX11_run_b61 C fu19 hW t0 (lv_sub hl [1, 0] rfl) hw
          · have hw := w_f hw c7
            refine lv_bipush (v := -3) hx hb dX11_run_45 (by decide) ?_
            exact gx_iret C hW (Nat.le_of_ble_eq_true rfl) (Nat.le_of_ble_eq_true rfl) rfl hw dX11_run_47
        · have hw := w_f hw c6
          refine lv_bipush (v := -2) hx hb dX11_run_30 (by decide) ?_
          exact gx_iret C hW (Nat.le_of_ble_eq_true rfl) (Nat.le_of_ble_eq_true rfl) rfl hw dX11_run_32
    · have hw := w_f hw c4
      refine lv_iconst (v := -1) hx hb dX11_run_16 (by decide) ?_
      exact gx_iret C hW (Nat.le_of_ble_eq_true rfl) (Nat.le_of_ble_eq_true rfl) rfl hw dX11_run_17
/-! TrialStairModel.end -/
def wX11_end (x0 : Nat) (S0 : Sg) (Q : Int32 → Sg → Prop) : Prop := Q (fI S0 750 x0) S0
set_option maxHeartbeats 4000000 in
set_option maxRecDepth 100000 in
theorem mX11_end (l : Launch) (D : va_G) (cy : Nat → ClassId) (x0 : Nat) (S0 : Sg) (Q : Int32 → Sg → Prop) (t0 : tg S0 x0 = 12) (hw : wX11_end x0 S0 Q) : Met l yX11_end (.code yX11_end cX11_end 1 (some .int) :: wsL_law) { frames := 0, cells := 0, slots := 0, locals := 0 } (gPc D cy [va_rf (some x0)] S0) (va_Qi Q (gB D cy S0) (gA S0)) 0 0 (gA S0) := by
  refine gx_met (by decide) (Nat.le_of_ble_eq_true rfl) ?_
  intro p e s m args below meth c ls C hW hl
  have hx := C.1
  have hb := C.2.1
  have hl : lv_has ls 1 [(0, va_rf (some x0))] := hl
  unfold wX11_end at hw
  refine gx_aload_n hx hb dX11_end_0 rfl (lv_at hl 0 rfl) ?_
  refine gx_getI C hW F11_99 (k := 750) rfl t0 rfl dX11_end_1 ?_
  exact gx_iret C hW (Nat.le_of_ble_eq_true rfl) (Nat.le_of_ble_eq_true rfl) rfl hw dX11_end_4
/-! TrialStairModel.result -/
def wX11_result (x0 : Nat) (S0 : Sg) (Q : Int64 → Sg → Prop) : Prop := Q (fL S0 751 x0) S0
set_option maxHeartbeats 4000000 in
set_option maxRecDepth 100000 in
theorem mX11_result (l : Launch) (D : va_G) (cy : Nat → ClassId) (x0 : Nat) (S0 : Sg) (Q : Int64 → Sg → Prop) (t0 : tg S0 x0 = 12) (hw : wX11_result x0 S0 Q) : Met l yX11_result (.code yX11_result cX11_result 1 (some .long) :: wsL_law) { frames := 0, cells := 0, slots := 0, locals := 0 } (gPc D cy [va_rf (some x0)] S0) (va_Ql Q (gB D cy S0) (gA S0)) 0 0 (gA S0) := by
  refine gx_met (by decide) (Nat.le_of_ble_eq_true rfl) ?_
  intro p e s m args below meth c ls C hW hl
  have hx := C.1
  have hb := C.2.1
  have hl : lv_has ls 1 [(0, va_rf (some x0))] := hl
  unfold wX11_result at hw
  refine gx_aload_n hx hb dX11_result_0 rfl (lv_at hl 0 rfl) ?_
  refine gx_getL C hW F11_174 (k := 751) rfl t0 rfl dX11_result_1 ?_
  exact gx_lret C hW (Nat.le_of_ble_eq_true rfl) (Nat.le_of_ble_eq_true rfl) hw dX11_result_4
/-! TrialStairModel.kind -/
def wX11_kind (x0 : Nat) (S0 : Sg) (Q : Int32 → Sg → Prop) : Prop := (if (fI S0 752 x0) = 0 then Q (-1 : Int32) S0 else ∃ a2 : Nat, (fR S0 743 x0) = some a2 ∧ tg S0 a2 = 13 ∧ vp_in (fI S0 752 x0) (ln S0 a2) ∧ Q (aI S0 a2 ((fI S0 752 x0)).toNatClampNeg) S0)
set_option maxHeartbeats 4000000 in
set_option maxRecDepth 100000 in
theorem mX11_kind (l : Launch) (D : va_G) (cy : Nat → ClassId) (x0 : Nat) (S0 : Sg) (Q : Int32 → Sg → Prop) (t0 : tg S0 x0 = 12) (hw : wX11_kind x0 S0 Q) : Met l yX11_kind (.code yX11_kind cX11_kind 1 (some .int) :: wsL_law) { frames := 0, cells := 0, slots := 0, locals := 0 } (gPc D cy [va_rf (some x0)] S0) (va_Qi Q (gB D cy S0) (gA S0)) 0 0 (gA S0) := by
  refine gx_met (by decide) (Nat.le_of_ble_eq_true rfl) ?_
  intro p e s m args below meth c ls C hW hl
  have hx := C.1
  have hb := C.2.1
  have hl : lv_has ls 1 [(0, va_rf (some x0))] := hl
  unfold wX11_kind at hw
  refine gx_aload_n hx hb dX11_kind_0 rfl (lv_at hl 0 rfl) ?_
  refine gx_getI C hW F11_178 (k := 752) rfl t0 rfl dX11_kind_1 ?_
  refine lv_if_ne (tgt := 11) hx hb dX11_kind_4 (by decide) (fun c1 => ?_) (fun c1 => ?_)
  · have hw := w_f hw c1
    refine gx_aload_n hx hb dX11_kind_11 rfl (lv_at hl 0 rfl) ?_
    refine gx_getR C hW F11_93 (k := 743) rfl t0 rfl dX11_kind_12 ?_
    refine gx_aload_n hx hb dX11_kind_15 rfl (lv_at hl 0 rfl) ?_
    refine gx_getI C hW F11_178 (k := 752) rfl t0 rfl dX11_kind_16 ?_
    obtain ⟨a2, ha2, ta2, hw⟩ := hw
    obtain ⟨i3, hw⟩ := hw
    refine gx_iald C hW ha2 ta2 i3 dX11_kind_19 ?_
    exact gx_iret C hW (Nat.le_of_ble_eq_true rfl) (Nat.le_of_ble_eq_true rfl) rfl hw dX11_kind_20
  · have hw := w_t hw c1
    refine lv_iconst (v := -1) hx hb dX11_kind_7 (by decide) ?_
    refine lv_goto (tgt := 20) hx hb dX11_kind_8 (by decide) ?_
    exact gx_iret C hW (Nat.le_of_ble_eq_true rfl) (Nat.le_of_ble_eq_true rfl) rfl hw dX11_kind_20
/-! TrialStairModel.cause -/
def wX11_cause_b29 (x0 : Nat) (x1 : Int32) (x2 : Int32) (S : Sg) (Q : Int32 → Sg → Prop) : Prop := (if x1 < 0 then Q (-1 : Int32) S else (if x2 = 0 then Q (-1 : Int32) S else ∃ a5 : Nat, (fR S 743 x0) = some a5 ∧ tg S a5 = 13 ∧ vp_in x2 (ln S a5) ∧ Q (aI S a5 (x2).toNatClampNeg) S))
def wX11_cause_b7 : Nat → (Nat) → (Int32) → (Int32) → (Int32) → Sg → (Int32 → Sg → Prop) → Prop
  | 0, _, _, _, _, _, _ => False
  | fu + 1, x0, x1, x2, x3, S, Q => (if x1 < x3 then wX11_cause_b29 x0 x1 x2 S Q else (if x2 ≤ 0 then wX11_cause_b29 x0 x1 x2 S Q else ∃ a8 : Nat, (fR S 744 x0) = some a8 ∧ tg S a8 = 13 ∧ vp_in x2 (ln S a8) ∧ ∀ y10 : Int32, y10 = (aI S a8 (x2).toNatClampNeg) → ∀ y11 : Int32, y11 = x3 + (1) → wX11_cause_b7 fu x0 x1 y10 y11 S Q))
def wX11_cause (x0 : Nat) (x1 : Int32) (S0 : Sg) (Q : Int32 → Sg → Prop) : Prop := ∀ y1 : Int32, y1 = (fI S0 752 x0) → ∃ fu12 : Nat, wX11_cause_b7 fu12 x0 x1 y1 (0 : Int32) S0 Q
set_option maxHeartbeats 4000000 in
set_option maxRecDepth 100000 in
theorem kX11_cause_b29 {p : Program} {l : Launch} {e : Env} {s : State} {m : MethodId} {args : Array Value} {below : List Frame} {meth : Method} {c : Code} {D : va_G} {cy : Nat → ClassId} {S0 : Sg} (C : gC p s m args meth c D cy cX11_cause 4 yX11_cause.cls (some .int) yX11_cause.name) {H : Heap} {locs : List Loc} {ls : Array Slot} {x0 : Nat} {x1 : Int32} {x2 : Int32} {S : Sg} {Q : Int32 → Sg → Prop} (hW : gW D cy (gA S0) (tg S0) s.heap S H locs) (t0 : tg S x0 = 12) (hl : lv_has ls 4 [(0, va_rf (some x0)), (1, .int x1), (2, .int x2)]) (hw : wX11_cause_b29 x0 x1 x2 S Q) : W p l e { frames := 0, cells := 0, slots := 0, locals := 0 } s m args below meth c H locs 0 0 (MQ below (va_Qi Q (gB D cy S0) (gA S0)) args s 0 0 (gA S0)) (F0 m 29 ls []) := by
  have hx := C.1
  have hb := C.2.1
  unfold wX11_cause_b29 at hw
  refine lv_iload_n hx hb dX11_cause_29 rfl (lv_at hl 1 rfl) ?_
  refine lv_if_lt (tgt := 37) hx hb dX11_cause_30 (by decide) (fun c3 => ?_) (fun c3 => ?_)
  · have hw := w_t hw c3
    refine lv_iconst (v := -1) hx hb dX11_cause_37 (by decide) ?_
    refine lv_goto (tgt := 47) hx hb dX11_cause_38 (by decide) ?_
    exact gx_iret C hW (Nat.le_of_ble_eq_true rfl) (Nat.le_of_ble_eq_true rfl) rfl hw dX11_cause_47
  · have hw := w_f hw c3
    refine lv_iload_n hx hb dX11_cause_33 rfl (lv_at hl 2 rfl) ?_
    refine lv_if_ne (tgt := 41) hx hb dX11_cause_34 (by decide) (fun c4 => ?_) (fun c4 => ?_)
    · have hw := w_f hw c4
      refine gx_aload_n hx hb dX11_cause_41 rfl (lv_at hl 0 rfl) ?_
      refine gx_getR C hW F11_93 (k := 743) rfl t0 rfl dX11_cause_42 ?_
      refine lv_iload_n hx hb dX11_cause_45 rfl (lv_at hl 2 rfl) ?_
      obtain ⟨a5, ha5, ta5, hw⟩ := hw
      obtain ⟨i6, hw⟩ := hw
      refine gx_iald C hW ha5 ta5 i6 dX11_cause_46 ?_
      exact gx_iret C hW (Nat.le_of_ble_eq_true rfl) (Nat.le_of_ble_eq_true rfl) rfl hw dX11_cause_47
    · have hw := w_t hw c4
      refine lv_iconst (v := -1) hx hb dX11_cause_37 (by decide) ?_
      refine lv_goto (tgt := 47) hx hb dX11_cause_38 (by decide) ?_
      exact gx_iret C hW (Nat.le_of_ble_eq_true rfl) (Nat.le_of_ble_eq_true rfl) rfl hw dX11_cause_47
set_option maxHeartbeats 4000000 in
set_option maxRecDepth 100000 in
theorem kX11_cause_l7 {p : Program} {l : Launch} {e : Env} {s : State} {m : MethodId} {args : Array Value} {below : List Frame} {meth : Method} {c : Code} {D : va_G} {cy : Nat → ClassId} {S0 : Sg} (C : gC p s m args meth c D cy cX11_cause 4 yX11_cause.cls (some .int) yX11_cause.name) {x0 : Nat} {Q : Int32 → Sg → Prop} : ∀ (fu : Nat) (x1 : Int32) (x2 : Int32) (x3 : Int32) (S : Sg) (H : Heap) (locs : List Loc) (ls : Array Slot) (hW : gW D cy (gA S0) (tg S0) s.heap S H locs) (t0 : tg S x0 = 12) (hl : lv_has ls 4 [(0, va_rf (some x0)), (1, .int x1), (2, .int x2), (3, .int x3)]) (hw : wX11_cause_b7 fu x0 x1 x2 x3 S Q), W p l e { frames := 0, cells := 0, slots := 0, locals := 0 } s m args below meth c H locs 0 0 (MQ below (va_Qi Q (gB D cy S0) (gA S0)) args s 0 0 (gA S0)) (F0 m 7 ls []) := by
  have hx := C.1
  have hb := C.2.1
  intro fu
  induction fu with
  | zero =>
    intro x1 x2 x3 S H locs ls hW t0 hl hw
    unfold wX11_cause_b7 at hw
    exact hw.elim
  | succ fu ih =>
    intro x1 x2 x3 S H locs ls hW t0 hl hw
    unfold wX11_cause_b7 at hw
    refine lv_iload_n hx hb dX11_cause_7 rfl (lv_at hl 3 rfl) ?_
    refine lv_iload_n hx hb dX11_cause_8 rfl (lv_at hl 1 rfl) ?_
    refine lv_icmp_gt (tgt := 29) hx hb dX11_cause_9 (by decide) (fun c2 => ?_) (fun c2 => ?_)
    · have hw := w_t hw c2
      exact kX11_cause_b29 C hW t0 (lv_sub hl [0, 1, 2] rfl) hw
    · have hw := w_f hw c2
      refine lv_iload_n hx hb dX11_cause_12 rfl (lv_at hl 2 rfl) ?_
      refine lv_if_le (tgt := 29) hx hb dX11_cause_13 (by decide) (fun c7 => ?_) (fun c7 => ?_)
      · have hw := w_t hw c7
        exact kX11_cause_b29 C hW t0 (lv_sub hl [0, 1, 2] rfl) hw
      · have hw := w_f hw c7
        refine gx_aload_n hx hb dX11_cause_16 rfl (lv_at hl 0 rfl) ?_
        refine gx_getR C hW F11_96 (k := 744) rfl t0 rfl dX11_cause_17 ?_
        refine lv_iload_n hx hb dX11_cause_20 rfl (lv_at hl 2 rfl) ?_
        obtain ⟨a8, ha8, ta8, hw⟩ := hw
        obtain ⟨i9, hw⟩ := hw
        refine gx_iald C hW ha8 ta8 i9 dX11_cause_21 ?_
        refine lv_topi (fun y10 ey10 => ?_)
        have hw := hw y10 ey10
        refine lv_istore_n (i := 2) (lv' := [(2, .int y10), (0, va_rf (some x0)), (1, .int x1), (3, .int x3)]) hx hb dX11_cause_22 rfl hl (by decide) rfl (fun ls hl => ?_)
        obtain ⟨y11, ey11⟩ : ∃ z : Int32, z = x3 + (1) := ⟨_, rfl⟩
        have hw := hw y11 ey11
        refine lv_iinc (v := y11) (lv' := [(3, .int y11), (2, .int y10), (0, va_rf (some x0)), (1, .int x1)]) hx hb dX11_cause_23 hl (k := 3) rfl (by rw [ey11]; rfl) (by decide) rfl (fun ls hl => ?_)
        refine lv_goto (tgt := 7) hx hb dX11_cause_26 (by decide) ?_
        exact ih _ _ _ _ _ _ _ hW t0 (lv_sub hl [2, 3, 1, 0] rfl) hw
theorem kX11_cause_b7 {p : Program} {l : Launch} {e : Env} {s : State} {m : MethodId} {args : Array Value} {below : List Frame} {meth : Method} {c : Code} {D : va_G} {cy : Nat → ClassId} {S0 : Sg} (C : gC p s m args meth c D cy cX11_cause 4 yX11_cause.cls (some .int) yX11_cause.name) {H : Heap} {locs : List Loc} {ls : Array Slot} {x0 : Nat} {x1 : Int32} {x2 : Int32} {x3 : Int32} {S : Sg} {Q : Int32 → Sg → Prop} (fu : Nat) (hW : gW D cy (gA S0) (tg S0) s.heap S H locs) (t0 : tg S x0 = 12) (hl : lv_has ls 4 [(0, va_rf (some x0)), (1, .int x1), (2, .int x2), (3, .int x3)]) (hw : wX11_cause_b7 fu x0 x1 x2 x3 S Q) : W p l e { frames := 0, cells := 0, slots := 0, locals := 0 } s m args below meth c H locs 0 0 (MQ below (va_Qi Q (gB D cy S0) (gA S0)) args s 0 0 (gA S0)) (F0 m 7 ls []) := kX11_cause_l7 C fu _ _ _ _ _ _ _ hW t0 hl hw
set_option maxHeartbeats 4000000 in
set_option maxRecDepth 100000 in
theorem mX11_cause (l : Launch) (D : va_G) (cy : Nat → ClassId) (x0 : Nat) (x1 : Int32) (S0 : Sg) (Q : Int32 → Sg → Prop) (t0 : tg S0 x0 = 12) (hw : wX11_cause x0 x1 S0 Q) : Met l yX11_cause (.code yX11_cause cX11_cause 4 (some .int) :: wsL_law) { frames := 0, cells := 0, slots := 0, locals := 0 } (gPc D cy [va_rf (some x0), .int x1] S0) (va_Qi Q (gB D cy S0) (gA S0)) 0 0 (gA S0) := by
  refine gx_met (by decide) (Nat.le_of_ble_eq_true rfl) ?_
  intro p e s m args below meth c ls C hW hl
  have hx := C.1
  have hb := C.2.1
  have hl : lv_has ls 4 [(0, va_rf (some x0)), (1, .int x1)] := hl
  unfold wX11_cause at hw
  refine gx_aload_n hx hb dX11_cause_0 rfl (lv_at hl 0 rfl) ?_
  refine gx_getI C hW F11_178 (k := 752) rfl t0 rfl dX11_cause_1 ?_
  refine lv_topi (fun y1 ey1 => ?_)
  have hw := hw y1 ey1
  refine lv_istore_n (i := 2) (lv' := [(2, .int y1), (0, va_rf (some x0)), (1, .int x1)]) hx hb dX11_cause_4 rfl hl (by decide) rfl (fun ls hl => ?_)
  refine lv_iconst (v := 0) hx hb dX11_cause_5 (by decide) ?_
  refine lv_istore_n (i := 3) (lv' := [(3, .int (0 : Int32)), (2, .int y1), (0, va_rf (some x0)), (1, .int x1)]) hx hb dX11_cause_6 rfl hl (by decide) rfl (fun ls hl => ?_)
  obtain ⟨fu12, hw⟩ := hw
  exact kX11_cause_b7 C fu12 hW t0 (lv_sub hl [2, 3, 1, 0] rfl) hw
/-! TrialStairModel.out -/
def wX11_out (x0 : Nat) (x1 : Int32) (S0 : Sg) (Q : Int64 → Sg → Prop) : Prop := (if x1 < 0 then Q (0 : Int64) S0 else (if (fI S0 754 x0) ≤ x1 then Q (0 : Int64) S0 else ∃ a3 : Nat, (fR S0 753 x0) = some a3 ∧ tg S0 a3 = 14 ∧ vp_in x1 (ln S0 a3) ∧ Q (aL S0 a3 (x1).toNatClampNeg) S0))
set_option maxHeartbeats 4000000 in
set_option maxRecDepth 100000 in
theorem mX11_out (l : Launch) (D : va_G) (cy : Nat → ClassId) (x0 : Nat) (x1 : Int32) (S0 : Sg) (Q : Int64 → Sg → Prop) (t0 : tg S0 x0 = 12) (hw : wX11_out x0 x1 S0 Q) : Met l yX11_out (.code yX11_out cX11_out 2 (some .long) :: wsL_law) { frames := 0, cells := 0, slots := 0, locals := 0 } (gPc D cy [va_rf (some x0), .int x1] S0) (va_Ql Q (gB D cy S0) (gA S0)) 0 0 (gA S0) := by
  refine gx_met (by decide) (Nat.le_of_ble_eq_true rfl) ?_
  intro p e s m args below meth c ls C hW hl
  have hx := C.1
  have hb := C.2.1
  have hl : lv_has ls 2 [(0, va_rf (some x0)), (1, .int x1)] := hl
  unfold wX11_out at hw
  refine lv_iload_n hx hb dX11_out_0 rfl (lv_at hl 1 rfl) ?_
  refine lv_if_lt (tgt := 21) hx hb dX11_out_1 (by decide) (fun c1 => ?_) (fun c1 => ?_)
  · have hw := w_t hw c1
    refine lv_lconst (v := 0) hx hb dX11_out_21 (by decide) ?_
    exact gx_lret C hW (Nat.le_of_ble_eq_true rfl) (Nat.le_of_ble_eq_true rfl) hw dX11_out_22
  · have hw := w_f hw c1
    refine lv_iload_n hx hb dX11_out_4 rfl (lv_at hl 1 rfl) ?_
    refine gx_aload_n hx hb dX11_out_5 rfl (lv_at hl 0 rfl) ?_
    refine gx_getI C hW F11_162 (k := 754) rfl t0 rfl dX11_out_6 ?_
    refine lv_icmp_ge (tgt := 21) hx hb dX11_out_9 (by decide) (fun c2 => ?_) (fun c2 => ?_)
    · have hw := w_t hw c2
      refine lv_lconst (v := 0) hx hb dX11_out_21 (by decide) ?_
      exact gx_lret C hW (Nat.le_of_ble_eq_true rfl) (Nat.le_of_ble_eq_true rfl) hw dX11_out_22
    · have hw := w_f hw c2
      refine gx_aload_n hx hb dX11_out_12 rfl (lv_at hl 0 rfl) ?_
      refine gx_getR C hW F11_103 (k := 753) rfl t0 rfl dX11_out_13 ?_
      refine lv_iload_n hx hb dX11_out_16 rfl (lv_at hl 1 rfl) ?_
      obtain ⟨a3, ha3, ta3, hw⟩ := hw
      obtain ⟨i4, hw⟩ := hw
      refine gx_lald C hW ha3 ta3 i4 dX11_out_17 ?_
      refine lv_goto (tgt := 22) hx hb dX11_out_18 (by decide) ?_
      exact gx_lret C hW (Nat.le_of_ble_eq_true rfl) (Nat.le_of_ble_eq_true rfl) hw dX11_out_22
/-! TrialStairModel.finished -/
def wX11_finished (x0 : Nat) (x1 : Int32) (S0 : Sg) (Q : Int32 → Sg → Prop) : Prop := (if x1 < 0 then Q (-1 : Int32) S0 else (if (fI S0 756 x0) ≤ x1 then Q (-1 : Int32) S0 else ∃ a3 : Nat, (fR S0 755 x0) = some a3 ∧ tg S0 a3 = 13 ∧ vp_in x1 (ln S0 a3) ∧ Q (aI S0 a3 (x1).toNatClampNeg) S0))
set_option maxHeartbeats 4000000 in
set_option maxRecDepth 100000 in
theorem mX11_finished (l : Launch) (D : va_G) (cy : Nat → ClassId) (x0 : Nat) (x1 : Int32) (S0 : Sg) (Q : Int32 → Sg → Prop) (t0 : tg S0 x0 = 12) (hw : wX11_finished x0 x1 S0 Q) : Met l yX11_finished (.code yX11_finished cX11_finished 2 (some .int) :: wsL_law) { frames := 0, cells := 0, slots := 0, locals := 0 } (gPc D cy [va_rf (some x0), .int x1] S0) (va_Qi Q (gB D cy S0) (gA S0)) 0 0 (gA S0) := by
  refine gx_met (by decide) (Nat.le_of_ble_eq_true rfl) ?_
  intro p e s m args below meth c ls C hW hl
  have hx := C.1
  have hb := C.2.1
  have hl : lv_has ls 2 [(0, va_rf (some x0)), (1, .int x1)] := hl
  unfold wX11_finished at hw
  refine lv_iload_n hx hb dX11_finished_0 rfl (lv_at hl 1 rfl) ?_
  refine lv_if_lt (tgt := 21) hx hb dX11_finished_1 (by decide) (fun c1 => ?_) (fun c1 => ?_)
  · have hw := w_t hw c1
    refine lv_iconst (v := -1) hx hb dX11_finished_21 (by decide) ?_
    exact gx_iret C hW (Nat.le_of_ble_eq_true rfl) (Nat.le_of_ble_eq_true rfl) rfl hw dX11_finished_22
  · have hw := w_f hw c1
    refine lv_iload_n hx hb dX11_finished_4 rfl (lv_at hl 1 rfl) ?_
    refine gx_aload_n hx hb dX11_finished_5 rfl (lv_at hl 0 rfl) ?_
    refine gx_getI C hW F11_165 (k := 756) rfl t0 rfl dX11_finished_6 ?_
    refine lv_icmp_ge (tgt := 21) hx hb dX11_finished_9 (by decide) (fun c2 => ?_) (fun c2 => ?_)
    · have hw := w_t hw c2
      refine lv_iconst (v := -1) hx hb dX11_finished_21 (by decide) ?_
      exact gx_iret C hW (Nat.le_of_ble_eq_true rfl) (Nat.le_of_ble_eq_true rfl) rfl hw dX11_finished_22
    · have hw := w_f hw c2
      refine gx_aload_n hx hb dX11_finished_12 rfl (lv_at hl 0 rfl) ?_
      refine gx_getR C hW F11_106 (k := 755) rfl t0 rfl dX11_finished_13 ?_
      refine lv_iload_n hx hb dX11_finished_16 rfl (lv_at hl 1 rfl) ?_
      obtain ⟨a3, ha3, ta3, hw⟩ := hw
      obtain ⟨i4, hw⟩ := hw
      refine gx_iald C hW ha3 ta3 i4 dX11_finished_17 ?_
      refine lv_goto (tgt := 22) hx hb dX11_finished_18 (by decide) ?_
      exact gx_iret C hW (Nat.le_of_ble_eq_true rfl) (Nat.le_of_ble_eq_true rfl) rfl hw dX11_finished_22
/-! TrialStairModel.depth -/
def wX11_depth (x0 : Nat) (S0 : Sg) (Q : Int32 → Sg → Prop) : Prop := Q (fI S0 758 x0) S0
set_option maxHeartbeats 4000000 in
set_option maxRecDepth 100000 in
theorem mX11_depth (l : Launch) (D : va_G) (cy : Nat → ClassId) (x0 : Nat) (S0 : Sg) (Q : Int32 → Sg → Prop) (t0 : tg S0 x0 = 12) (hw : wX11_depth x0 S0 Q) : Met l yX11_depth (.code yX11_depth cX11_depth 1 (some .int) :: wsL_law) { frames := 0, cells := 0, slots := 0, locals := 0 } (gPc D cy [va_rf (some x0)] S0) (va_Qi Q (gB D cy S0) (gA S0)) 0 0 (gA S0) := by
  refine gx_met (by decide) (Nat.le_of_ble_eq_true rfl) ?_
  intro p e s m args below meth c ls C hW hl
  have hx := C.1
  have hb := C.2.1
  have hl : lv_has ls 1 [(0, va_rf (some x0))] := hl
  unfold wX11_depth at hw
  refine gx_aload_n hx hb dX11_depth_0 rfl (lv_at hl 0 rfl) ?_
  refine gx_getI C hW F11_171 (k := 758) rfl t0 rfl dX11_depth_1 ?_
  exact gx_iret C hW (Nat.le_of_ble_eq_true rfl) (Nat.le_of_ble_eq_true rfl) rfl hw dX11_depth_4
/-! TrialStairModel.causes -/
def wX11_causes_b12 : Nat → (Nat) → (Int32) → (Int32) → Sg → (Int32 → Sg → Prop) → Prop
  | 0, _, _, _, _, _ => False
  | fu + 1, x0, x1, x2, S, Q => (if x2 ≤ 0 then Q x1 S else (if (1000 : Int32) ≤ x1 then Q x1 S else ∀ y6 : Int32, y6 = x1 + (1) → ∃ a7 : Nat, (fR S 744 x0) = some a7 ∧ tg S a7 = 13 ∧ vp_in x2 (ln S a7) ∧ ∀ y9 : Int32, y9 = (aI S a7 (x2).toNatClampNeg) → wX11_causes_b12 fu x0 y6 y9 S Q))
def wX11_causes (x0 : Nat) (S0 : Sg) (Q : Int32 → Sg → Prop) : Prop := ∃ a1 : Nat, (fR S0 744 x0) = some a1 ∧ tg S0 a1 = 13 ∧ vp_in (fI S0 752 x0) (ln S0 a1) ∧ ∀ y3 : Int32, y3 = (aI S0 a1 ((fI S0 752 x0)).toNatClampNeg) → ∃ fu10 : Nat, wX11_causes_b12 fu10 x0 (0 : Int32) y3 S0 Q
set_option maxHeartbeats 4000000 in
set_option maxRecDepth 100000 in
theorem kX11_causes_l12 {p : Program} {l : Launch} {e : Env} {s : State} {m : MethodId} {args : Array Value} {below : List Frame} {meth : Method} {c : Code} {D : va_G} {cy : Nat → ClassId} {S0 : Sg} (C : gC p s m args meth c D cy cX11_causes 3 yX11_causes.cls (some .int) yX11_causes.name) {x0 : Nat} {Q : Int32 → Sg → Prop} : ∀ (fu : Nat) (x1 : Int32) (x2 : Int32) (S : Sg) (H : Heap) (locs : List Loc) (ls : Array Slot) (hW : gW D cy (gA S0) (tg S0) s.heap S H locs) (t0 : tg S x0 = 12) (hl : lv_has ls 3 [(0, va_rf (some x0)), (1, .int x1), (2, .int x2)]) (hw : wX11_causes_b12 fu x0 x1 x2 S Q), W p l e { frames := 0, cells := 0, slots := 0, locals := 0 } s m args below meth c H locs 0 0 (MQ below (va_Qi Q (gB D cy S0) (gA S0)) args s 0 0 (gA S0)) (F0 m 12 ls []) := by
  have hx := C.1
  have hb := C.2.1
  intro fu
  induction fu with
  | zero =>
    intro x1 x2 S H locs ls hW t0 hl hw
    unfold wX11_causes_b12 at hw
    exact hw.elim
  | succ fu ih =>
    intro x1 x2 S H locs ls hW t0 hl hw
    unfold wX11_causes_b12 at hw
    refine lv_iload_n hx hb dX11_causes_12 rfl (lv_at hl 2 rfl) ?_
    refine lv_if_le (tgt := 36) hx hb dX11_causes_13 (by decide) (fun c4 => ?_) (fun c4 => ?_)
    · have hw := w_t hw c4
      refine lv_iload_n hx hb dX11_causes_36 rfl (lv_at hl 1 rfl) ?_
      exact gx_iret C hW (Nat.le_of_ble_eq_true rfl) (Nat.le_of_ble_eq_true rfl) rfl hw dX11_causes_37
    · have hw := w_f hw c4
      refine lv_iload_n hx hb dX11_causes_16 rfl (lv_at hl 1 rfl) ?_
      refine lv_sipush (v := 1000) hx hb dX11_causes_17 (by decide) ?_
      refine lv_icmp_ge (tgt := 36) hx hb dX11_causes_20 (by decide) (fun c5 => ?_) (fun c5 => ?_)
      · have hw := w_t hw c5
        refine lv_iload_n hx hb dX11_causes_36 rfl (lv_at hl 1 rfl) ?_
        exact gx_iret C hW (Nat.le_of_ble_eq_true rfl) (Nat.le_of_ble_eq_true rfl) rfl hw dX11_causes_37
      · have hw := w_f hw c5
        obtain ⟨y6, ey6⟩ : ∃ z : Int32, z = x1 + (1) := ⟨_, rfl⟩
        have hw := hw y6 ey6
        refine lv_iinc (v := y6) (lv' := [(1, .int y6), (0, va_rf (some x0)), (2, .int x2)]) hx hb dX11_causes_23 hl (k := 1) rfl (by rw [ey6]; rfl) (by decide) rfl (fun ls hl => ?_)
        refine gx_aload_n hx hb dX11_causes_26 rfl (lv_at hl 1 rfl) ?_
        refine gx_getR C hW F11_96 (k := 744) rfl t0 rfl dX11_causes_27 ?_
        refine lv_iload_n hx hb dX11_causes_30 rfl (lv_at hl 2 rfl) ?_
        obtain ⟨a7, ha7, ta7, hw⟩ := hw
        obtain ⟨i8, hw⟩ := hw
        refine gx_iald C hW ha7 ta7 i8 dX11_causes_31 ?_
        refine lv_topi (fun y9 ey9 => ?_)
        have hw := hw y9 ey9
        refine lv_istore_n (i := 2) (lv' := [(2, .int y9), (1, .int y6), (0, va_rf (some x0))]) hx hb dX11_causes_32 rfl hl (by decide) rfl (fun ls hl => ?_)
        refine lv_goto (tgt := 12) hx hb dX11_causes_33 (by decide) ?_
        exact ih _ _ _ _ _ _ hW t0 (lv_sub hl [2, 1, 0] rfl) hw
theorem kX11_causes_b12 {p : Program} {l : Launch} {e : Env} {s : State} {m : MethodId} {args : Array Value} {below : List Frame} {meth : Method} {c : Code} {D : va_G} {cy : Nat → ClassId} {S0 : Sg} (C : gC p s m args meth c D cy cX11_causes 3 yX11_causes.cls (some .int) yX11_causes.name) {H : Heap} {locs : List Loc} {ls : Array Slot} {x0 : Nat} {x1 : Int32} {x2 : Int32} {S : Sg} {Q : Int32 → Sg → Prop} (fu : Nat) (hW : gW D cy (gA S0) (tg S0) s.heap S H locs) (t0 : tg S x0 = 12) (hl : lv_has ls 3 [(0, va_rf (some x0)), (1, .int x1), (2, .int x2)]) (hw : wX11_causes_b12 fu x0 x1 x2 S Q) : W p l e { frames := 0, cells := 0, slots := 0, locals := 0 } s m args below meth c H locs 0 0 (MQ below (va_Qi Q (gB D cy S0) (gA S0)) args s 0 0 (gA S0)) (F0 m 12 ls []) := kX11_causes_l12 C fu _ _ _ _ _ _ hW t0 hl hw
set_option maxHeartbeats 4000000 in
set_option maxRecDepth 100000 in
theorem mX11_causes (l : Launch) (D : va_G) (cy : Nat → ClassId) (x0 : Nat) (S0 : Sg) (Q : Int32 → Sg → Prop) (t0 : tg S0 x0 = 12) (hw : wX11_causes x0 S0 Q) : Met l yX11_causes (.code yX11_causes cX11_causes 3 (some .int) :: wsL_law) { frames := 0, cells := 0, slots := 0, locals := 0 } (gPc D cy [va_rf (some x0)] S0) (va_Qi Q (gB D cy S0) (gA S0)) 0 0 (gA S0) := by
  refine gx_met (by decide) (Nat.le_of_ble_eq_true rfl) ?_
  intro p e s m args below meth c ls C hW hl
  have hx := C.1
  have hb := C.2.1
  have hl : lv_has ls 3 [(0, va_rf (some x0))] := hl
  unfold wX11_causes at hw
  refine lv_iconst (v := 0) hx hb dX11_causes_0 (by decide) ?_
  refine lv_istore_n (i := 1) (lv' := [(1, .int (0 : Int32)), (0, va_rf (some x0))]) hx hb dX11_causes_1 rfl hl (by decide) rfl (fun ls hl => ?_)
  refine gx_aload_n hx hb dX11_causes_2 rfl (lv_at hl 1 rfl) ?_
  refine gx_getR C hW F11_96 (k := 744) rfl t0 rfl dX11_causes_3 ?_
  refine gx_aload_n hx hb dX11_causes_6 rfl (lv_at hl 1 rfl) ?_
  refine gx_getI C hW F11_178 (k := 752) rfl t0 rfl dX11_causes_7 ?_
  obtain ⟨a1, ha1, ta1, hw⟩ := hw
  obtain ⟨i2, hw⟩ := hw
  refine gx_iald C hW ha1 ta1 i2 dX11_causes_10 ?_
  refine lv_topi (fun y3 ey3 => ?_)
  have hw := hw y3 ey3
  refine lv_istore_n (i := 2) (lv' := [(2, .int y3), (1, .int (0 : Int32)), (0, va_rf (some x0))]) hx hb dX11_causes_11 rfl hl (by decide) rfl (fun ls hl => ?_)
  obtain ⟨fu10, hw⟩ := hw
  exact kX11_causes_b12 C fu10 hW t0 (lv_sub hl [2, 1, 0] rfl) hw
/-! TrialStairModel.status -/
def wX11_status (x0 : Nat) (x1 : Int32) (S0 : Sg) (Q : Int32 → Sg → Prop) : Prop := (if x1 = 0 then Q (fI S0 708 x0) S0 else (if x1 = 1 then wX11_layOut x0  S0 (fun (S4 : Sg) => Q (fI S4 716 x0) S4) else (if x1 = 2 then Q (fI S0 749 x0) S0 else (if x1 = 3 then Q (fI S0 748 x0) S0 else (if x1 = 4 then Q (fI S0 754 x0) S0 else (if x1 = 5 then Q (fI S0 756 x0) S0 else (if x1 = 6 then wX11_causes x0  S0 (fun (r10 : Int32) (S11 : Sg) => Q r10 S11) else (if x1 = 7 then Q (fI S0 757 x0) S0 else Q (-1 : Int32) S0))))))))
set_option maxHeartbeats 4000000 in
set_option maxRecDepth 100000 in
theorem mX11_status (l : Launch) (D : va_G) (cy : Nat → ClassId) (x0 : Nat) (x1 : Int32) (S0 : Sg) (Q : Int32 → Sg → Prop) (t0 : tg S0 x0 = 12) (hw : wX11_status x0 x1 S0 Q) : Met l yX11_status (.code yX11_status cX11_status 2 (some .int) :: wsL_law) { frames := 3, cells := 0, slots := 0, locals := 71 } (gPc D cy [va_rf (some x0), .int x1] S0) (va_Qi Q (gB D cy S0) (gA S0)) 0 0 (gA S0) := by
  refine gx_met (by decide) (Nat.le_of_ble_eq_true rfl) ?_
  intro p e s m args below meth c ls C hW hl
  have hx := C.1
  have hb := C.2.1
  have hl : lv_has ls 2 [(0, va_rf (some x0)), (1, .int x1)] := hl
  unfold wX11_status at hw
  refine lv_iload_n hx hb dX11_status_0 rfl (lv_at hl 1 rfl) ?_
  by_cases c1 : x1 = (0 : Int32)
  · have hw := w_t hw c1
    refine lv_tableIn (off := 47) (tgt := 48) hx hb dX11_status_1 (by rw [c1]; decide) (by rw [c1]; decide) (by rw [c1]; rfl) (by decide) ?_
    refine gx_aload_n hx hb dX11_status_48 rfl (lv_at hl 0 rfl) ?_
    refine gx_getI C hW F11_109 (k := 708) rfl t0 rfl dX11_status_49 ?_
    exact gx_iret C hW (Nat.le_of_ble_eq_true rfl) (Nat.le_of_ble_eq_true rfl) rfl hw dX11_status_52
  · have hw := w_f hw c1
    by_cases c2 : x1 = (1 : Int32)
    · have hw := w_t hw c2
      refine lv_tableIn (off := 52) (tgt := 53) hx hb dX11_status_1 (by rw [c2]; decide) (by rw [c2]; decide) (by rw [c2]; rfl) (by decide) ?_
      refine gx_aload_n hx hb dX11_status_53 rfl (lv_at hl 0 rfl) ?_
      refine gx_cv (gx_rV C hW M11_127 (mX11_layOut l D cy _ _ _ t0 hw) rfl rfl ⟨Nat.le_of_ble_eq_true rfl, Nat.le_of_ble_eq_true rfl⟩ rfl t0 (by decide) rfl rfl hl.1 rfl (gx_room0 (n := 4) (Nat.le_of_ble_eq_true rfl)) dX11_status_54 ⟨Nat.le_of_ble_eq_true rfl, Nat.le_of_ble_eq_true rfl⟩) hW (fun S4 H locs hW hm hw => ?_)
      have t0 := hm _ _ t0
      refine gx_aload_n hx hb dX11_status_57 rfl (lv_at hl 0 rfl) ?_
      refine gx_getI C hW F11_112 (k := 716) rfl t0 rfl dX11_status_58 ?_
      exact gx_iret C hW (Nat.le_of_ble_eq_true rfl) (Nat.le_of_ble_eq_true rfl) rfl hw dX11_status_61
    · have hw := w_f hw c2
      by_cases c5 : x1 = (2 : Int32)
      · have hw := w_t hw c5
        refine lv_tableIn (off := 61) (tgt := 62) hx hb dX11_status_1 (by rw [c5]; decide) (by rw [c5]; decide) (by rw [c5]; rfl) (by decide) ?_
        refine gx_aload_n hx hb dX11_status_62 rfl (lv_at hl 0 rfl) ?_
        refine gx_getI C hW F11_130 (k := 749) rfl t0 rfl dX11_status_63 ?_
        exact gx_iret C hW (Nat.le_of_ble_eq_true rfl) (Nat.le_of_ble_eq_true rfl) rfl hw dX11_status_66
      · have hw := w_f hw c5
        by_cases c6 : x1 = (3 : Int32)
        · have hw := w_t hw c6
          refine lv_tableIn (off := 66) (tgt := 67) hx hb dX11_status_1 (by rw [c6]; decide) (by rw [c6]; decide) (by rw [c6]; rfl) (by decide) ?_
          refine gx_aload_n hx hb dX11_status_67 rfl (lv_at hl 0 rfl) ?_
          refine gx_getI C hW F11_147 (k := 748) rfl t0 rfl dX11_status_68 ?_
          exact gx_iret C hW (Nat.le_of_ble_eq_true rfl) (Nat.le_of_ble_eq_true rfl) rfl hw dX11_status_71
        · have hw := w_f hw c6
          by_cases c7 : x1 = (4 : Int32)
          · have hw := w_t hw c7
            refine lv_tableIn (off := 71) (tgt := 72) hx hb dX11_status_1 (by rw [c7]; decide) (by rw [c7]; decide) (by rw [c7]; rfl) (by decide) ?_
            refine gx_aload_n hx hb dX11_status_72 rfl (lv_at hl 0 rfl) ?_
            refine gx_getI C hW F11_162 (k := 754) rfl t0 rfl dX11_status_73 ?_
            exact gx_iret C hW (Nat.le_of_ble_eq_true rfl) (Nat.le_of_ble_eq_true rfl) rfl hw dX11_status_76
          · have hw := w_f hw c7
            by_cases c8 : x1 = (5 : Int32)
            · have hw := w_t hw c8
              refine lv_tableIn (off := 76) (tgt := 77) hx hb dX11_status_1 (by rw [c8]; decide) (by rw [c8]; decide) (by rw [c8]; rfl) (by decide) ?_
              refine gx_aload_n hx hb dX11_status_77 rfl (lv_at hl 0 rfl) ?_
              refine gx_getI C hW F11_165 (k := 756) rfl t0 rfl dX11_status_78 ?_
              exact gx_iret C hW (Nat.le_of_ble_eq_true rfl) (Nat.le_of_ble_eq_true rfl) rfl hw dX11_status_81
            · have hw := w_f hw c8
              by_cases c9 : x1 = (6 : Int32)
              · have hw := w_t hw c9
                refine lv_tableIn (off := 81) (tgt := 82) hx hb dX11_status_1 (by rw [c9]; decide) (by rw [c9]; decide) (by rw [c9]; rfl) (by decide) ?_
                refine gx_aload_n hx hb dX11_status_82 rfl (lv_at hl 0 rfl) ?_
                refine gx_ci (gx_rV C hW M11_315 (mX11_causes l D cy _ _ _ t0 hw) rfl rfl ⟨Nat.le_of_ble_eq_true rfl, Nat.le_of_ble_eq_true rfl⟩ rfl t0 (by decide) rfl rfl hl.1 rfl (gx_room0 (n := 4) (Nat.le_of_ble_eq_true rfl)) dX11_status_83 ⟨Nat.le_of_ble_eq_true rfl, Nat.le_of_ble_eq_true rfl⟩) hW (fun r10 S11 H locs hW hm hw => ?_)
                have t0 := hm _ _ t0
                exact gx_iret C hW (Nat.le_of_ble_eq_true rfl) (Nat.le_of_ble_eq_true rfl) rfl hw dX11_status_86
              · have hw := w_f hw c9
                by_cases c12 : x1 = (7 : Int32)
                · have hw := w_t hw c12
                  refine lv_tableIn (off := 86) (tgt := 87) hx hb dX11_status_1 (by rw [c12]; decide) (by rw [c12]; decide) (by rw [c12]; rfl) (by decide) ?_
                  refine gx_aload_n hx hb dX11_status_87 rfl (lv_at hl 0 rfl) ?_
                  refine gx_getI C hW F11_168 (k := 757) rfl t0 rfl dX11_status_88 ?_
                  exact gx_iret C hW (Nat.le_of_ble_eq_true rfl) (Nat.le_of_ble_eq_true rfl) rfl hw dX11_status_91
                · have hw := w_f hw c12
                  refine gx_tdef (n := 8) (tgt := 92) hx hb dX11_status_1 (by decide) (by decide) (lt_s (lt_s (lt_s (lt_s (lt_s (lt_s (lt_s (lt_s (lt_0) (fun hx9 => tb_ne c1 (by decide) hx9)) (fun hx9 => tb_ne c2 (by decide) hx9)) (fun hx9 => tb_ne c5 (by decide) hx9)) (fun hx9 => tb_ne c6 (by decide) hx9)) (fun hx9 => tb_ne c7 (by decide) hx9)) (fun hx9 => tb_ne c8 (by decide) hx9)) (fun hx9 => tb_ne c9 (by decide) hx9)) (fun hx9 => tb_ne c12 (by decide) hx9)) ?_
                  refine lv_iconst (v := -1) hx hb dX11_status_92 (by decide) ?_
                  exact gx_iret C hW (Nat.le_of_ble_eq_true rfl) (Nat.le_of_ble_eq_true rfl) rfl hw dX11_status_93
/-! TrialStairModel.number -/
def wX11_number (x0 : Nat) (x1 : Int32) (S0 : Sg) (Q : Int64 → Sg → Prop) : Prop := (if x1 < 0 then Q (0 : Int64) S0 else (if (8 : Int32) ≤ x1 then Q (0 : Int64) S0 else ∃ a3 : Nat, (fR S0 717 x0) = some a3 ∧ tg S0 a3 = 14 ∧ vp_in x1 (ln S0 a3) ∧ Q (aL S0 a3 (x1).toNatClampNeg) S0))
set_option maxHeartbeats 4000000 in
set_option maxRecDepth 100000 in
theorem mX11_number (l : Launch) (D : va_G) (cy : Nat → ClassId) (x0 : Nat) (x1 : Int32) (S0 : Sg) (Q : Int64 → Sg → Prop) (t0 : tg S0 x0 = 12) (hw : wX11_number x0 x1 S0 Q) : Met l yX11_number (.code yX11_number cX11_number 2 (some .long) :: wsL_law) { frames := 0, cells := 0, slots := 0, locals := 0 } (gPc D cy [va_rf (some x0), .int x1] S0) (va_Ql Q (gB D cy S0) (gA S0)) 0 0 (gA S0) := by
  refine gx_met (by decide) (Nat.le_of_ble_eq_true rfl) ?_
  intro p e s m args below meth c ls C hW hl
  have hx := C.1
  have hb := C.2.1
  have hl : lv_has ls 2 [(0, va_rf (some x0)), (1, .int x1)] := hl
  unfold wX11_number at hw
  refine lv_iload_n hx hb dX11_number_0 rfl (lv_at hl 1 rfl) ?_
  refine lv_if_lt (tgt := 19) hx hb dX11_number_1 (by decide) (fun c1 => ?_) (fun c1 => ?_)
  · have hw := w_t hw c1
    refine lv_lconst (v := 0) hx hb dX11_number_19 (by decide) ?_
    exact gx_lret C hW (Nat.le_of_ble_eq_true rfl) (Nat.le_of_ble_eq_true rfl) hw dX11_number_20
  · have hw := w_f hw c1
    refine lv_iload_n hx hb dX11_number_4 rfl (lv_at hl 1 rfl) ?_
    refine lv_bipush (v := 8) hx hb dX11_number_5 (by decide) ?_
    refine lv_icmp_ge (tgt := 19) hx hb dX11_number_7 (by decide) (fun c2 => ?_) (fun c2 => ?_)
    · have hw := w_t hw c2
      refine lv_lconst (v := 0) hx hb dX11_number_19 (by decide) ?_
      exact gx_lret C hW (Nat.le_of_ble_eq_true rfl) (Nat.le_of_ble_eq_true rfl) hw dX11_number_20
    · have hw := w_f hw c2
      refine gx_aload_n hx hb dX11_number_10 rfl (lv_at hl 0 rfl) ?_
      refine gx_getR C hW F11_43 (k := 717) rfl t0 rfl dX11_number_11 ?_
      refine lv_iload_n hx hb dX11_number_14 rfl (lv_at hl 1 rfl) ?_
      obtain ⟨a3, ha3, ta3, hw⟩ := hw
      obtain ⟨i4, hw⟩ := hw
      refine gx_lald C hW ha3 ta3 i4 dX11_number_15 ?_
      refine lv_goto (tgt := 20) hx hb dX11_number_16 (by decide) ?_
      exact gx_lret C hW (Nat.le_of_ble_eq_true rfl) (Nat.le_of_ble_eq_true rfl) hw dX11_number_20
/-! TrialStairModel.hand -/
def wX11_hand (x0 : Nat) (x1 : Int32) (S0 : Sg) (Q : Int32 → Sg → Prop) : Prop := (if x1 < 0 then Q (-2 : Int32) S0 else (if x1 ≤ (7 : Int32) then ∃ a3 : Nat, (fR S0 718 x0) = some a3 ∧ tg S0 a3 = 13 ∧ vp_in x1 (ln S0 a3) ∧ (if (aI S0 a3 (x1).toNatClampNeg) = 0 then Q (-1 : Int32) S0 else vp_in x1 (ln S0 a3) ∧ ∃ a7 : Nat, (fR S0 719 x0) = some a7 ∧ tg S0 a7 = 13 ∧ vp_in (aI S0 a3 (x1).toNatClampNeg) (ln S0 a7) ∧ Q (aI S0 a7 ((aI S0 a3 (x1).toNatClampNeg)).toNatClampNeg) S0) else Q (-2 : Int32) S0))
set_option maxHeartbeats 4000000 in
set_option maxRecDepth 100000 in
theorem mX11_hand (l : Launch) (D : va_G) (cy : Nat → ClassId) (x0 : Nat) (x1 : Int32) (S0 : Sg) (Q : Int32 → Sg → Prop) (t0 : tg S0 x0 = 12) (hw : wX11_hand x0 x1 S0 Q) : Met l yX11_hand (.code yX11_hand cX11_hand 2 (some .int) :: wsL_law) { frames := 0, cells := 0, slots := 0, locals := 0 } (gPc D cy [va_rf (some x0), .int x1] S0) (va_Qi Q (gB D cy S0) (gA S0)) 0 0 (gA S0) := by
  refine gx_met (by decide) (Nat.le_of_ble_eq_true rfl) ?_
  intro p e s m args below meth c ls C hW hl
  have hx := C.1
  have hb := C.2.1
  have hl : lv_has ls 2 [(0, va_rf (some x0)), (1, .int x1)] := hl
  unfold wX11_hand at hw
  refine lv_iload_n hx hb dX11_hand_0 rfl (lv_at hl 1 rfl) ?_
  refine lv_if_lt (tgt := 10) hx hb dX11_hand_1 (by decide) (fun c1 => ?_) (fun c1 => ?_)
  · have hw := w_t hw c1
    refine lv_bipush (v := -2) hx hb dX11_hand_10 (by decide) ?_
    exact gx_iret C hW (Nat.le_of_ble_eq_true rfl) (Nat.le_of_ble_eq_true rfl) rfl hw dX11_hand_12
  · have hw := w_f hw c1
    refine lv_iload_n hx hb dX11_hand_4 rfl (lv_at hl 1 rfl) ?_
    refine lv_bipush (v := 7) hx hb dX11_hand_5 (by decide) ?_
    refine lv_icmp_le (tgt := 13) hx hb dX11_hand_7 (by decide) (fun c2 => ?_) (fun c2 => ?_)
    · have hw := w_t hw c2
      refine gx_aload_n hx hb dX11_hand_13 rfl (lv_at hl 0 rfl) ?_
      refine gx_getR C hW F11_47 (k := 718) rfl t0 rfl dX11_hand_14 ?_
      refine lv_iload_n hx hb dX11_hand_17 rfl (lv_at hl 1 rfl) ?_
      obtain ⟨a3, ha3, ta3, hw⟩ := hw
      obtain ⟨i4, hw⟩ := hw
      refine gx_iald C hW ha3 ta3 i4 dX11_hand_18 ?_
      refine lv_if_ne (tgt := 26) hx hb dX11_hand_19 (by decide) (fun c5 => ?_) (fun c5 => ?_)
      · have hw := w_f hw c5
        refine gx_aload_n hx hb dX11_hand_26 rfl (lv_at hl 0 rfl) ?_
        refine gx_getR C hW F11_50 (k := 719) rfl t0 rfl dX11_hand_27 ?_
        refine gx_aload_n hx hb dX11_hand_30 rfl (lv_at hl 0 rfl) ?_
        refine gx_getR C hW F11_47 (k := 718) rfl t0 rfl dX11_hand_31 ?_
        refine lv_iload_n hx hb dX11_hand_34 rfl (lv_at hl 1 rfl) ?_
        obtain ⟨i6, hw⟩ := hw
        refine gx_iald C hW ha3 ta3 i6 dX11_hand_35 ?_
        obtain ⟨a7, ha7, ta7, hw⟩ := hw
        obtain ⟨i8, hw⟩ := hw
        refine gx_iald C hW ha7 ta7 i8 dX11_hand_36 ?_
        exact gx_iret C hW (Nat.le_of_ble_eq_true rfl) (Nat.le_of_ble_eq_true rfl) rfl hw dX11_hand_37
      · have hw := w_t hw c5
        refine lv_iconst (v := -1) hx hb dX11_hand_22 (by decide) ?_
        refine lv_goto (tgt := 37) hx hb dX11_hand_23 (by decide) ?_
        exact gx_iret C hW (Nat.le_of_ble_eq_true rfl) (Nat.le_of_ble_eq_true rfl) rfl hw dX11_hand_37
    · have hw := w_f hw c2
      refine lv_bipush (v := -2) hx hb dX11_hand_10 (by decide) ?_
      exact gx_iret C hW (Nat.le_of_ble_eq_true rfl) (Nat.le_of_ble_eq_true rfl) rfl hw dX11_hand_12
/-! TrialStairModel.mark -/
def wX11_mark (x0 : Nat) (x1 : Int32) (S0 : Sg) (Q : Int64 → Sg → Prop) : Prop := (if x1 < 0 then Q (0 : Int64) S0 else (if (8 : Int32) ≤ x1 then Q (0 : Int64) S0 else ∃ a3 : Nat, (fR S0 718 x0) = some a3 ∧ tg S0 a3 = 13 ∧ vp_in x1 (ln S0 a3) ∧ (if (aI S0 a3 (x1).toNatClampNeg) ≤ 0 then Q (0 : Int64) S0 else vp_in x1 (ln S0 a3) ∧ ∃ a7 : Nat, (fR S0 720 x0) = some a7 ∧ tg S0 a7 = 14 ∧ vp_in (aI S0 a3 (x1).toNatClampNeg) (ln S0 a7) ∧ Q (aL S0 a7 ((aI S0 a3 (x1).toNatClampNeg)).toNatClampNeg) S0)))
set_option maxHeartbeats 4000000 in
set_option maxRecDepth 100000 in
theorem mX11_mark (l : Launch) (D : va_G) (cy : Nat → ClassId) (x0 : Nat) (x1 : Int32) (S0 : Sg) (Q : Int64 → Sg → Prop) (t0 : tg S0 x0 = 12) (hw : wX11_mark x0 x1 S0 Q) : Met l yX11_mark (.code yX11_mark cX11_mark 2 (some .long) :: wsL_law) { frames := 0, cells := 0, slots := 0, locals := 0 } (gPc D cy [va_rf (some x0), .int x1] S0) (va_Ql Q (gB D cy S0) (gA S0)) 0 0 (gA S0) := by
  refine gx_met (by decide) (Nat.le_of_ble_eq_true rfl) ?_
  intro p e s m args below meth c ls C hW hl
  have hx := C.1
  have hb := C.2.1
  have hl : lv_has ls 2 [(0, va_rf (some x0)), (1, .int x1)] := hl
  unfold wX11_mark at hw
  refine lv_iload_n hx hb dX11_mark_0 rfl (lv_at hl 1 rfl) ?_
  refine lv_if_lt (tgt := 33) hx hb dX11_mark_1 (by decide) (fun c1 => ?_) (fun c1 => ?_)
  · have hw := w_t hw c1
    refine lv_lconst (v := 0) hx hb dX11_mark_33 (by decide) ?_
    exact gx_lret C hW (Nat.le_of_ble_eq_true rfl) (Nat.le_of_ble_eq_true rfl) hw dX11_mark_34
  · have hw := w_f hw c1
    refine lv_iload_n hx hb dX11_mark_4 rfl (lv_at hl 1 rfl) ?_
    refine lv_bipush (v := 8) hx hb dX11_mark_5 (by decide) ?_
    refine lv_icmp_ge (tgt := 33) hx hb dX11_mark_7 (by decide) (fun c2 => ?_) (fun c2 => ?_)
    · have hw := w_t hw c2
      refine lv_lconst (v := 0) hx hb dX11_mark_33 (by decide) ?_
      exact gx_lret C hW (Nat.le_of_ble_eq_true rfl) (Nat.le_of_ble_eq_true rfl) hw dX11_mark_34
    · have hw := w_f hw c2
      refine gx_aload_n hx hb dX11_mark_10 rfl (lv_at hl 0 rfl) ?_
      refine gx_getR C hW F11_47 (k := 718) rfl t0 rfl dX11_mark_11 ?_
      refine lv_iload_n hx hb dX11_mark_14 rfl (lv_at hl 1 rfl) ?_
      obtain ⟨a3, ha3, ta3, hw⟩ := hw
      obtain ⟨i4, hw⟩ := hw
      refine gx_iald C hW ha3 ta3 i4 dX11_mark_15 ?_
      refine lv_if_le (tgt := 33) hx hb dX11_mark_16 (by decide) (fun c5 => ?_) (fun c5 => ?_)
      · have hw := w_t hw c5
        refine lv_lconst (v := 0) hx hb dX11_mark_33 (by decide) ?_
        exact gx_lret C hW (Nat.le_of_ble_eq_true rfl) (Nat.le_of_ble_eq_true rfl) hw dX11_mark_34
      · have hw := w_f hw c5
        refine gx_aload_n hx hb dX11_mark_19 rfl (lv_at hl 0 rfl) ?_
        refine gx_getR C hW F11_53 (k := 720) rfl t0 rfl dX11_mark_20 ?_
        refine gx_aload_n hx hb dX11_mark_23 rfl (lv_at hl 0 rfl) ?_
        refine gx_getR C hW F11_47 (k := 718) rfl t0 rfl dX11_mark_24 ?_
        refine lv_iload_n hx hb dX11_mark_27 rfl (lv_at hl 1 rfl) ?_
        obtain ⟨i6, hw⟩ := hw
        refine gx_iald C hW ha3 ta3 i6 dX11_mark_28 ?_
        obtain ⟨a7, ha7, ta7, hw⟩ := hw
        obtain ⟨i8, hw⟩ := hw
        refine gx_lald C hW ha7 ta7 i8 dX11_mark_29 ?_
        refine lv_goto (tgt := 34) hx hb dX11_mark_30 (by decide) ?_
        exact gx_lret C hW (Nat.le_of_ble_eq_true rfl) (Nat.le_of_ble_eq_true rfl) hw dX11_mark_34
/-! TrialStairModel.size -/
def wX11_size (x0 : Nat) (x1 : Int32) (x2 : Int32) (S0 : Sg) (Q : Int32 → Sg → Prop) : Prop := (if x1 < 0 then Q (-2 : Int32) S0 else (if (7 : Int32) < x1 then Q (-2 : Int32) S0 else (if x2 < 0 then Q (-2 : Int32) S0 else (if x2 ≤ (7 : Int32) then ∃ a5 : Nat, (fR S0 722 x0) = some a5 ∧ tg S0 a5 = 13 ∧ vp_in (((8 : Int32) * x1) + x2) (ln S0 a5) ∧ Q (aI S0 a5 ((((8 : Int32) * x1) + x2)).toNatClampNeg) S0 else Q (-2 : Int32) S0))))
set_option maxHeartbeats 4000000 in
set_option maxRecDepth 100000 in
theorem mX11_size (l : Launch) (D : va_G) (cy : Nat → ClassId) (x0 : Nat) (x1 : Int32) (x2 : Int32) (S0 : Sg) (Q : Int32 → Sg → Prop) (t0 : tg S0 x0 = 12) (hw : wX11_size x0 x1 x2 S0 Q) : Met l yX11_size (.code yX11_size cX11_size 3 (some .int) :: wsL_law) { frames := 0, cells := 0, slots := 0, locals := 0 } (gPc D cy [va_rf (some x0), .int x1, .int x2] S0) (va_Qi Q (gB D cy S0) (gA S0)) 0 0 (gA S0) := by
  refine gx_met (by decide) (Nat.le_of_ble_eq_true rfl) ?_
  intro p e s m args below meth c ls C hW hl
  have hx := C.1
  have hb := C.2.1
  have hl : lv_has ls 3 [(0, va_rf (some x0)), (1, .int x1), (2, .int x2)] := hl
  unfold wX11_size at hw
  refine lv_iload_n hx hb dX11_size_0 rfl (lv_at hl 1 rfl) ?_
  refine lv_if_lt (tgt := 20) hx hb dX11_size_1 (by decide) (fun c1 => ?_) (fun c1 => ?_)
  · have hw := w_t hw c1
    refine lv_bipush (v := -2) hx hb dX11_size_20 (by decide) ?_
    refine lv_goto (tgt := 36) hx hb dX11_size_22 (by decide) ?_
    exact gx_iret C hW (Nat.le_of_ble_eq_true rfl) (Nat.le_of_ble_eq_true rfl) rfl hw dX11_size_36
  · have hw := w_f hw c1
    refine lv_iload_n hx hb dX11_size_4 rfl (lv_at hl 1 rfl) ?_
    refine lv_bipush (v := 7) hx hb dX11_size_5 (by decide) ?_
    refine lv_icmp_gt (tgt := 20) hx hb dX11_size_7 (by decide) (fun c2 => ?_) (fun c2 => ?_)
    · have hw := w_t hw c2
      refine lv_bipush (v := -2) hx hb dX11_size_20 (by decide) ?_
      refine lv_goto (tgt := 36) hx hb dX11_size_22 (by decide) ?_
      exact gx_iret C hW (Nat.le_of_ble_eq_true rfl) (Nat.le_of_ble_eq_true rfl) rfl hw dX11_size_36
    · have hw := w_f hw c2
      refine lv_iload_n hx hb dX11_size_10 rfl (lv_at hl 2 rfl) ?_
      refine lv_if_lt (tgt := 20) hx hb dX11_size_11 (by decide) (fun c3 => ?_) (fun c3 => ?_)
      · have hw := w_t hw c3
        refine lv_bipush (v := -2) hx hb dX11_size_20 (by decide) ?_
        refine lv_goto (tgt := 36) hx hb dX11_size_22 (by decide) ?_
        exact gx_iret C hW (Nat.le_of_ble_eq_true rfl) (Nat.le_of_ble_eq_true rfl) rfl hw dX11_size_36
      · have hw := w_f hw c3
        refine lv_iload_n hx hb dX11_size_14 rfl (lv_at hl 2 rfl) ?_
        refine lv_bipush (v := 7) hx hb dX11_size_15 (by decide) ?_
        refine lv_icmp_le (tgt := 25) hx hb dX11_size_17 (by decide) (fun c4 => ?_) (fun c4 => ?_)
        · have hw := w_t hw c4
          refine gx_aload_n hx hb dX11_size_25 rfl (lv_at hl 0 rfl) ?_
          refine gx_getR C hW F11_56 (k := 722) rfl t0 rfl dX11_size_26 ?_
          refine lv_bipush (v := 8) hx hb dX11_size_29 (by decide) ?_
          refine lv_iload_n hx hb dX11_size_31 rfl (lv_at hl 1 rfl) ?_
          refine lv_imul hx hb dX11_size_32 ?_
          refine lv_iload_n hx hb dX11_size_33 rfl (lv_at hl 2 rfl) ?_
          refine lv_iadd hx hb dX11_size_34 ?_
          obtain ⟨a5, ha5, ta5, hw⟩ := hw
          obtain ⟨i6, hw⟩ := hw
          refine gx_iald C hW ha5 ta5 i6 dX11_size_35 ?_
          exact gx_iret C hW (Nat.le_of_ble_eq_true rfl) (Nat.le_of_ble_eq_true rfl) rfl hw dX11_size_36
        · have hw := w_f hw c4
          refine lv_bipush (v := -2) hx hb dX11_size_20 (by decide) ?_
          refine lv_goto (tgt := 36) hx hb dX11_size_22 (by decide) ?_
          exact gx_iret C hW (Nat.le_of_ble_eq_true rfl) (Nat.le_of_ble_eq_true rfl) rfl hw dX11_size_36
/-! TrialStairModel.value -/
def wX11_value (x0 : Nat) (x1 : Int32) (x2 : Int32) (x3 : Int32) (S0 : Sg) (Q : Int64 → Sg → Prop) : Prop := wX11_size x0 x1 x2 S0 (fun (r1 : Int32) (S2 : Sg) => (if x3 < 0 then Q (0 : Int64) S2 else (if x3 < r1 then ∃ a5 : Nat, (fR S2 724 x0) = some a5 ∧ tg S2 a5 = 14 ∧ vp_in (((64 : Int32) * (((8 : Int32) * x1) + x2)) + x3) (ln S2 a5) ∧ ∀ y7 : Int64, y7 = (aL S2 a5 ((((64 : Int32) * (((8 : Int32) * x1) + x2)) + x3)).toNatClampNeg) → (if (7 : Int32) ≤ x1 then (if (lg_cmp y7 (0 : Int64)) = 0 then Q (-1 : Int64) S2 else ∃ a10 : Nat, (fR S2 719 x0) = some a10 ∧ tg S2 a10 = 13 ∧ vp_in ((y7).toInt32) (ln S2 a10) ∧ Q (((aI S2 a10 (((y7).toInt32)).toNatClampNeg)).toInt64) S2) else Q y7 S2) else Q (0 : Int64) S2)))
set_option maxHeartbeats 4000000 in
set_option maxRecDepth 100000 in
theorem mX11_value (l : Launch) (D : va_G) (cy : Nat → ClassId) (x0 : Nat) (x1 : Int32) (x2 : Int32) (x3 : Int32) (S0 : Sg) (Q : Int64 → Sg → Prop) (t0 : tg S0 x0 = 12) (hw : wX11_value x0 x1 x2 x3 S0 Q) : Met l yX11_value (.code yX11_value cX11_value 7 (some .long) :: wsL_law) { frames := 1, cells := 0, slots := 0, locals := 22 } (gPc D cy [va_rf (some x0), .int x1, .int x2, .int x3] S0) (va_Ql Q (gB D cy S0) (gA S0)) 0 0 (gA S0) := by
  refine gx_met (by decide) (Nat.le_of_ble_eq_true rfl) ?_
  intro p e s m args below meth c ls C hW hl
  have hx := C.1
  have hb := C.2.1
  have hl : lv_has ls 7 [(0, va_rf (some x0)), (1, .int x1), (2, .int x2), (3, .int x3)] := hl
  unfold wX11_value at hw
  refine gx_aload_n hx hb dX11_value_0 rfl (lv_at hl 0 rfl) ?_
  refine lv_iload_n hx hb dX11_value_1 rfl (lv_at hl 1 rfl) ?_
  refine lv_iload_n hx hb dX11_value_2 rfl (lv_at hl 2 rfl) ?_
  refine gx_ci (gx_rV C hW M11_318 (mX11_size l D cy _ _ _ _ _ t0 hw) rfl rfl ⟨Nat.le_of_ble_eq_true rfl, Nat.le_of_ble_eq_true rfl⟩ rfl t0 (by decide) rfl rfl hl.1 rfl (gx_room0 (n := 4) (Nat.le_of_ble_eq_true rfl)) dX11_value_3 ⟨Nat.le_of_ble_eq_true rfl, Nat.le_of_ble_eq_true rfl⟩) hW (fun r1 S2 H locs hW hm hw => ?_)
  have t0 := hm _ _ t0
  refine lv_istore (lv' := [(4, .int r1), (0, va_rf (some x0)), (1, .int x1), (2, .int x2), (3, .int x3)]) hx hb dX11_value_6 hl (by decide) rfl (fun ls hl => ?_)
  refine lv_iload_n hx hb dX11_value_8 rfl (lv_at hl 4 rfl) ?_
  refine lv_if_lt (tgt := 18) hx hb dX11_value_9 (by decide) (fun c3 => ?_) (fun c3 => ?_)
  · have hw := w_t hw c3
    refine lv_lconst (v := 0) hx hb dX11_value_18 (by decide) ?_
    exact gx_lret C hW (Nat.le_of_ble_eq_true rfl) (Nat.le_of_ble_eq_true rfl) hw dX11_value_19
  · have hw := w_f hw c3
    refine lv_iload_n hx hb dX11_value_12 rfl (lv_at hl 4 rfl) ?_
    refine lv_iload hx hb dX11_value_13 (lv_at hl 0 rfl) ?_
    refine lv_icmp_lt (tgt := 20) hx hb dX11_value_15 (by decide) (fun c4 => ?_) (fun c4 => ?_)
    · have hw := w_t hw c4
      refine gx_aload_n hx hb dX11_value_20 rfl (lv_at hl 1 rfl) ?_
      refine gx_getR C hW F11_63 (k := 724) rfl t0 rfl dX11_value_21 ?_
      refine lv_bipush (v := 64) hx hb dX11_value_24 (by decide) ?_
      refine lv_bipush (v := 8) hx hb dX11_value_26 (by decide) ?_
      refine lv_iload_n hx hb dX11_value_28 rfl (lv_at hl 2 rfl) ?_
      refine lv_imul hx hb dX11_value_29 ?_
      refine lv_iload_n hx hb dX11_value_30 rfl (lv_at hl 3 rfl) ?_
      refine lv_iadd hx hb dX11_value_31 ?_
      refine lv_imul hx hb dX11_value_32 ?_
      refine lv_iload_n hx hb dX11_value_33 rfl (lv_at hl 4 rfl) ?_
      refine lv_iadd hx hb dX11_value_34 ?_
      obtain ⟨a5, ha5, ta5, hw⟩ := hw
      obtain ⟨i6, hw⟩ := hw
      refine gx_lald C hW ha5 ta5 i6 dX11_value_35 ?_
      refine lv_topl (fun y7 ey7 => ?_)
      have hw := hw y7 ey7
      refine lv_lstore (lv' := [(5, .long y7), (4, .int r1), (0, va_rf (some x0)), (1, .int x1), (2, .int x2), (3, .int x3)]) hx hb dX11_value_36 hl (by decide) rfl (fun ls hl => ?_)
      refine lv_iload_n hx hb dX11_value_38 rfl (lv_at hl 3 rfl) ?_
      refine lv_bipush (v := 7) hx hb dX11_value_39 (by decide) ?_
      refine lv_icmp_ge (tgt := 47) hx hb dX11_value_41 (by decide) (fun c8 => ?_) (fun c8 => ?_)
      · have hw := w_t hw c8
        refine lv_lload hx hb dX11_value_47 (lv_at hl 0 rfl) ?_
        refine lv_lconst (v := 0) hx hb dX11_value_49 (by decide) ?_
        refine W.lcmp hx hb dX11_value_50 ?_
        refine lv_if_ne (tgt := 60) hx hb dX11_value_51 (by decide) (fun c9 => ?_) (fun c9 => ?_)
        · have hw := w_f hw c9
          refine gx_aload_n hx hb dX11_value_60 rfl (lv_at hl 2 rfl) ?_
          refine gx_getR C hW F11_50 (k := 719) rfl t0 rfl dX11_value_61 ?_
          refine lv_lload hx hb dX11_value_64 (lv_at hl 0 rfl) ?_
          refine lv_l2i (v := _) hx hb dX11_value_66 rfl ?_
          obtain ⟨a10, ha10, ta10, hw⟩ := hw
          obtain ⟨i11, hw⟩ := hw
          refine gx_iald C hW ha10 ta10 i11 dX11_value_67 ?_
          refine lv_i2l (v := _) hx hb dX11_value_68 rfl ?_
          exact gx_lret C hW (Nat.le_of_ble_eq_true rfl) (Nat.le_of_ble_eq_true rfl) hw dX11_value_69
        · have hw := w_t hw c9
          refine lv_ldc2 (v := -1) hx hb C.2.2.2.1 (C.2.2.2.2.1 _ (List.mem_of_getElem? (i := 637) (by decide +kernel))) dX11_value_54 ?_
          refine lv_goto (tgt := 69) hx hb dX11_value_57 (by decide) ?_
          exact gx_lret C hW (Nat.le_of_ble_eq_true rfl) (Nat.le_of_ble_eq_true rfl) hw dX11_value_69
      · have hw := w_f hw c8
        refine lv_lload hx hb dX11_value_44 (lv_at hl 0 rfl) ?_
        exact gx_lret C hW (Nat.le_of_ble_eq_true rfl) (Nat.le_of_ble_eq_true rfl) hw dX11_value_46
    · have hw := w_f hw c4
      refine lv_lconst (v := 0) hx hb dX11_value_18 (by decide) ?_
      exact gx_lret C hW (Nat.le_of_ble_eq_true rfl) (Nat.le_of_ble_eq_true rfl) hw dX11_value_19
/-! TrialStairModel.grid -/
def wX11_grid (x0 : Nat) (x1 : Int32) (x2 : Int32) (S0 : Sg) (Q : Int32 → Sg → Prop) : Prop := (if (fI S0 725 x0) = 0 then Q (0 : Int32) S0 else (if x1 < 0 then Q (0 : Int32) S0 else (if (fI S0 726 x0) ≤ x1 then Q (0 : Int32) S0 else (if x2 < 0 then Q (0 : Int32) S0 else (if (fI S0 727 x0) ≤ x2 then Q (0 : Int32) S0 else ∃ a6 : Nat, (fR S0 728 x0) = some a6 ∧ tg S0 a6 = 13 ∧ vp_in (((8 : Int32) * x1) + x2) (ln S0 a6) ∧ Q (aI S0 a6 ((((8 : Int32) * x1) + x2)).toNatClampNeg) S0)))))
set_option maxHeartbeats 4000000 in
set_option maxRecDepth 100000 in
theorem mX11_grid (l : Launch) (D : va_G) (cy : Nat → ClassId) (x0 : Nat) (x1 : Int32) (x2 : Int32) (S0 : Sg) (Q : Int32 → Sg → Prop) (t0 : tg S0 x0 = 12) (hw : wX11_grid x0 x1 x2 S0 Q) : Met l yX11_grid (.code yX11_grid cX11_grid 3 (some .int) :: wsL_law) { frames := 0, cells := 0, slots := 0, locals := 0 } (gPc D cy [va_rf (some x0), .int x1, .int x2] S0) (va_Qi Q (gB D cy S0) (gA S0)) 0 0 (gA S0) := by
  refine gx_met (by decide) (Nat.le_of_ble_eq_true rfl) ?_
  intro p e s m args below meth c ls C hW hl
  have hx := C.1
  have hb := C.2.1
  have hl : lv_has ls 3 [(0, va_rf (some x0)), (1, .int x1), (2, .int x2)] := hl
  unfold wX11_grid at hw
  refine gx_aload_n hx hb dX11_grid_0 rfl (lv_at hl 0 rfl) ?_
  refine gx_getI C hW F11_289 (k := 725) rfl t0 rfl dX11_grid_1 ?_
  refine lv_if_eq (tgt := 45) hx hb dX11_grid_4 (by decide) (fun c1 => ?_) (fun c1 => ?_)
  · have hw := w_t hw c1
    refine lv_iconst (v := 0) hx hb dX11_grid_45 (by decide) ?_
    exact gx_iret C hW (Nat.le_of_ble_eq_true rfl) (Nat.le_of_ble_eq_true rfl) rfl hw dX11_grid_46
  · have hw := w_f hw c1
    refine lv_iload_n hx hb dX11_grid_7 rfl (lv_at hl 1 rfl) ?_
    refine lv_if_lt (tgt := 45) hx hb dX11_grid_8 (by decide) (fun c2 => ?_) (fun c2 => ?_)
    · have hw := w_t hw c2
      refine lv_iconst (v := 0) hx hb dX11_grid_45 (by decide) ?_
      exact gx_iret C hW (Nat.le_of_ble_eq_true rfl) (Nat.le_of_ble_eq_true rfl) rfl hw dX11_grid_46
    · have hw := w_f hw c2
      refine lv_iload_n hx hb dX11_grid_11 rfl (lv_at hl 1 rfl) ?_
      refine gx_aload_n hx hb dX11_grid_12 rfl (lv_at hl 0 rfl) ?_
      refine gx_getI C hW F11_292 (k := 726) rfl t0 rfl dX11_grid_13 ?_
      refine lv_icmp_ge (tgt := 45) hx hb dX11_grid_16 (by decide) (fun c3 => ?_) (fun c3 => ?_)
      · have hw := w_t hw c3
        refine lv_iconst (v := 0) hx hb dX11_grid_45 (by decide) ?_
        exact gx_iret C hW (Nat.le_of_ble_eq_true rfl) (Nat.le_of_ble_eq_true rfl) rfl hw dX11_grid_46
      · have hw := w_f hw c3
        refine lv_iload_n hx hb dX11_grid_19 rfl (lv_at hl 2 rfl) ?_
        refine lv_if_lt (tgt := 45) hx hb dX11_grid_20 (by decide) (fun c4 => ?_) (fun c4 => ?_)
        · have hw := w_t hw c4
          refine lv_iconst (v := 0) hx hb dX11_grid_45 (by decide) ?_
          exact gx_iret C hW (Nat.le_of_ble_eq_true rfl) (Nat.le_of_ble_eq_true rfl) rfl hw dX11_grid_46
        · have hw := w_f hw c4
          refine lv_iload_n hx hb dX11_grid_23 rfl (lv_at hl 2 rfl) ?_
          refine gx_aload_n hx hb dX11_grid_24 rfl (lv_at hl 0 rfl) ?_
          refine gx_getI C hW F11_295 (k := 727) rfl t0 rfl dX11_grid_25 ?_
          refine lv_icmp_ge (tgt := 45) hx hb dX11_grid_28 (by decide) (fun c5 => ?_) (fun c5 => ?_)
          · have hw := w_t hw c5
            refine lv_iconst (v := 0) hx hb dX11_grid_45 (by decide) ?_
            exact gx_iret C hW (Nat.le_of_ble_eq_true rfl) (Nat.le_of_ble_eq_true rfl) rfl hw dX11_grid_46
          · have hw := w_f hw c5
            refine gx_aload_n hx hb dX11_grid_31 rfl (lv_at hl 0 rfl) ?_
            refine gx_getR C hW F11_66 (k := 728) rfl t0 rfl dX11_grid_32 ?_
            refine lv_bipush (v := 8) hx hb dX11_grid_35 (by decide) ?_
            refine lv_iload_n hx hb dX11_grid_37 rfl (lv_at hl 1 rfl) ?_
            refine lv_imul hx hb dX11_grid_38 ?_
            refine lv_iload_n hx hb dX11_grid_39 rfl (lv_at hl 2 rfl) ?_
            refine lv_iadd hx hb dX11_grid_40 ?_
            obtain ⟨a6, ha6, ta6, hw⟩ := hw
            obtain ⟨i7, hw⟩ := hw
            refine gx_iald C hW ha6 ta6 i7 dX11_grid_41 ?_
            refine lv_goto (tgt := 46) hx hb dX11_grid_42 (by decide) ?_
            exact gx_iret C hW (Nat.le_of_ble_eq_true rfl) (Nat.le_of_ble_eq_true rfl) rfl hw dX11_grid_46
