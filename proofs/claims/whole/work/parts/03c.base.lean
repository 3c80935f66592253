/-! ===== THE STATE OF A SYSTEM: kinds of addresses, lengths, and what each field and place holds, by address ===== -/
abbrev Sg : Type := (Nat → Nat) × (Nat → Nat) × (Nat → Nat → Int32) × (Nat → Nat → Int64) × (Nat → Nat → Option Nat) × (Nat → Nat → Int32) × (Nat → Nat → Int64) × (Nat → Nat → Option Nat) × Nat
def tg (σ : Sg) : Nat → Nat := σ.1
def ln (σ : Sg) : Nat → Nat := σ.2.1
def fI (σ : Sg) : Nat → Nat → Int32 := σ.2.2.1
def fL (σ : Sg) : Nat → Nat → Int64 := σ.2.2.2.1
def fR (σ : Sg) : Nat → Nat → Option Nat := σ.2.2.2.2.1
def aI (σ : Sg) : Nat → Nat → Int32 := σ.2.2.2.2.2.1
def aL (σ : Sg) : Nat → Nat → Int64 := σ.2.2.2.2.2.2.1
def aR (σ : Sg) : Nat → Nat → Option Nat := σ.2.2.2.2.2.2.2.1
def sz (σ : Sg) : Nat := σ.2.2.2.2.2.2.2.2
def g_u {α : Type} (f : Nat → Nat → α) (k a : Nat) (v : α) : Nat → Nat → α := fun k' a' => if k' = k ∧ a' = a then v else f k' a'
def sFI (σ : Sg) (k a : Nat) (v : Int32) : Sg := (tg σ, ln σ, g_u (fI σ) k a v, fL σ, fR σ, aI σ, aL σ, aR σ, sz σ)
def sFL (σ : Sg) (k a : Nat) (v : Int64) : Sg := (tg σ, ln σ, fI σ, g_u (fL σ) k a v, fR σ, aI σ, aL σ, aR σ, sz σ)
def sFR (σ : Sg) (k a : Nat) (v : Option Nat) : Sg := (tg σ, ln σ, fI σ, fL σ, g_u (fR σ) k a v, aI σ, aL σ, aR σ, sz σ)
def sAI (σ : Sg) (a i : Nat) (v : Int32) : Sg := (tg σ, ln σ, fI σ, fL σ, fR σ, g_u (aI σ) a i v, aL σ, aR σ, sz σ)
def sAL (σ : Sg) (a i : Nat) (v : Int64) : Sg := (tg σ, ln σ, fI σ, fL σ, fR σ, aI σ, g_u (aL σ) a i v, aR σ, sz σ)
def sAR (σ : Sg) (a i : Nat) (v : Option Nat) : Sg := (tg σ, ln σ, fI σ, fL σ, fR σ, aI σ, aL σ, g_u (aR σ) a i v, sz σ)
/-- a new cell of kind t, of length n where it is an array, all at its first values -/
def nw (σ : Sg) (t n : Nat) : Sg := (fun q => if q = sz σ then t else tg σ q, fun q => if q = sz σ then n else ln σ q, fun k q => if q = sz σ then 0 else fI σ k q, fun k q => if q = sz σ then 0 else fL σ k q, fun k q => if q = sz σ then none else fR σ k q,
  fun q i => if q = sz σ then 0 else aI σ q i, fun q i => if q = sz σ then 0 else aL σ q i, fun q i => if q = sz σ then none else aR σ q i, sz σ + 1)
theorem gs_FI (σ : Sg) (k a : Nat) (v : Int32) : tg (sFI σ k a v) = tg σ ∧ ln (sFI σ k a v) = ln σ ∧ fL (sFI σ k a v) = fL σ ∧ fR (sFI σ k a v) = fR σ ∧ aI (sFI σ k a v) = aI σ ∧ aL (sFI σ k a v) = aL σ ∧ aR (sFI σ k a v) = aR σ ∧ sz (sFI σ k a v) = sz σ ∧ ∀ k' a', fI (sFI σ k a v) k' a' = if k' = k ∧ a' = a then v else fI σ k' a' := ⟨rfl, rfl, rfl, rfl, rfl, rfl, rfl, rfl, fun _ _ => rfl⟩
theorem gs_FL (σ : Sg) (k a : Nat) (v : Int64) : tg (sFL σ k a v) = tg σ ∧ ln (sFL σ k a v) = ln σ ∧ fI (sFL σ k a v) = fI σ ∧ fR (sFL σ k a v) = fR σ ∧ aI (sFL σ k a v) = aI σ ∧ aL (sFL σ k a v) = aL σ ∧ aR (sFL σ k a v) = aR σ ∧ sz (sFL σ k a v) = sz σ ∧ ∀ k' a', fL (sFL σ k a v) k' a' = if k' = k ∧ a' = a then v else fL σ k' a' := ⟨rfl, rfl, rfl, rfl, rfl, rfl, rfl, rfl, fun _ _ => rfl⟩
theorem gs_FR (σ : Sg) (k a : Nat) (v : Option Nat) : tg (sFR σ k a v) = tg σ ∧ ln (sFR σ k a v) = ln σ ∧ fI (sFR σ k a v) = fI σ ∧ fL (sFR σ k a v) = fL σ ∧ aI (sFR σ k a v) = aI σ ∧ aL (sFR σ k a v) = aL σ ∧ aR (sFR σ k a v) = aR σ ∧ sz (sFR σ k a v) = sz σ ∧ ∀ k' a', fR (sFR σ k a v) k' a' = if k' = k ∧ a' = a then v else fR σ k' a' := ⟨rfl, rfl, rfl, rfl, rfl, rfl, rfl, rfl, fun _ _ => rfl⟩
theorem gs_AI (σ : Sg) (k a : Nat) (v : Int32) : tg (sAI σ k a v) = tg σ ∧ ln (sAI σ k a v) = ln σ ∧ fI (sAI σ k a v) = fI σ ∧ fL (sAI σ k a v) = fL σ ∧ fR (sAI σ k a v) = fR σ ∧ aL (sAI σ k a v) = aL σ ∧ aR (sAI σ k a v) = aR σ ∧ sz (sAI σ k a v) = sz σ ∧ ∀ k' a', aI (sAI σ k a v) k' a' = if k' = k ∧ a' = a then v else aI σ k' a' := ⟨rfl, rfl, rfl, rfl, rfl, rfl, rfl, rfl, fun _ _ => rfl⟩
theorem gs_AL (σ : Sg) (k a : Nat) (v : Int64) : tg (sAL σ k a v) = tg σ ∧ ln (sAL σ k a v) = ln σ ∧ fI (sAL σ k a v) = fI σ ∧ fL (sAL σ k a v) = fL σ ∧ fR (sAL σ k a v) = fR σ ∧ aI (sAL σ k a v) = aI σ ∧ aR (sAL σ k a v) = aR σ ∧ sz (sAL σ k a v) = sz σ ∧ ∀ k' a', aL (sAL σ k a v) k' a' = if k' = k ∧ a' = a then v else aL σ k' a' := ⟨rfl, rfl, rfl, rfl, rfl, rfl, rfl, rfl, fun _ _ => rfl⟩
theorem gs_AR (σ : Sg) (k a : Nat) (v : Option Nat) : tg (sAR σ k a v) = tg σ ∧ ln (sAR σ k a v) = ln σ ∧ fI (sAR σ k a v) = fI σ ∧ fL (sAR σ k a v) = fL σ ∧ fR (sAR σ k a v) = fR σ ∧ aI (sAR σ k a v) = aI σ ∧ aL (sAR σ k a v) = aL σ ∧ sz (sAR σ k a v) = sz σ ∧ ∀ k' a', aR (sAR σ k a v) k' a' = if k' = k ∧ a' = a then v else aR σ k' a' := ⟨rfl, rfl, rfl, rfl, rfl, rfl, rfl, rfl, fun _ _ => rfl⟩
theorem gs_nw (σ : Sg) (t n : Nat) : sz (nw σ t n) = sz σ + 1 ∧ (∀ q, tg (nw σ t n) q = if q = sz σ then t else tg σ q) ∧ (∀ q, ln (nw σ t n) q = if q = sz σ then n else ln σ q) ∧ (∀ k q, fI (nw σ t n) k q = if q = sz σ then 0 else fI σ k q) ∧ (∀ k q, fL (nw σ t n) k q = if q = sz σ then 0 else fL σ k q) ∧ (∀ k q, fR (nw σ t n) k q = if q = sz σ then none else fR σ k q) ∧
  (∀ q i, aI (nw σ t n) q i = if q = sz σ then 0 else aI σ q i) ∧ (∀ q i, aL (nw σ t n) q i = if q = sz σ then 0 else aL σ q i) ∧ (∀ q i, aR (nw σ t n) q i = if q = sz σ then none else aR σ q i) := ⟨rfl, fun _ => rfl, fun _ => rfl, fun _ _ => rfl, fun _ _ => rfl, fun _ _ => rfl, fun _ _ => rfl, fun _ _ => rfl, fun _ _ => rfl⟩
/-- the value of a field: 0 whole numbers, 1 longs, 2 references -/
def gv (σ : Sg) (a k : Nat) (t : Nat) : Value := match t with
  | 0 => .int (fI σ k a)
  | 1 => .long (fL σ k a)
  | _ => va_rf (fR σ k a)
def gfs (σ : Sg) (a ci : Nat) : List Value := (fty ci).mapIdx (fun j t => gv σ a (64 * ci + j) t)
def gar (σ : Sg) (a t : Nat) : (Nat → Int32) ⊕ (Nat → Int64) ⊕ (Nat → UInt32) ⊕ (Nat → UInt64) ⊕ (Nat → Option Nat) := match t with
  | 0 => .inl (aI σ a)
  | 1 => .inr (.inl (aL σ a))
  | 2 => .inl (aI σ a)
  | _ => .inr (.inr (.inr (.inr (aR σ a))))
def gE (cy : Nat → ClassId) (σ : Sg) (a t : Nat) : va_E := if t < 12 then .inr (t, gfs σ a t) else .inl (cy (t - 12), ln σ a, gar σ a (t - 12))
/-- the heap holds the state -/
def gH (D : va_G) (cy : Nat → ClassId) (σ : Sg) (H : Heap) : Prop := ∀ a t, tg σ a = t + 1 → va_at D vwCl (a, gE cy σ a t) H
def gT (cy : Nat → ClassId) : List (ClassId × FieldType) := [(cy 0, .int), (cy 1, .long), (cy 2, .boolean), (cy 3, .object RX5), (cy 4, .object RX7), (cy 5, .object RX8)]
def gA (σ : Sg) : Nat → Prop := fun q => tg σ q ≠ 0 ∨ sz σ ≤ q
def gW (D : va_G) (cy : Nat → ClassId) (A : Nat → Prop) (M : Nat → Nat) (H0 : Heap) (σ : Sg) (H : Heap) (locs : List Loc) : Prop := gH D cy σ H ∧ H.size = sz σ ∧ va_S A H0 H locs ∧ (∀ q, tg σ q ≠ 0 → A q) ∧ (∀ q, H0.size ≤ q → A q) ∧ ∀ q t, M q = t + 1 → tg σ q = t + 1
def gX (U : State) : Prop := va_Nw (.methodLinkNest RX10 9 yX6_init RX10) U ∧ va_Nw (.methodLinkNest RX10 18 yX3_init RX10) U ∧ va_Nw (.methodLinkNest RX3 29 yX2_init RX10) U ∧ va_Nw (.methodLinkNest RX10 25 yX4_init RX10) U ∧ va_AO RX5 U ∧ va_AO RX7 U ∧ va_AO RX8 U
def gC (p : Program) (s : State) (m : MethodId) (args : Array Value) (meth : Method) (c : Code) (D : va_G) (cy : Nat → ClassId) (cc : ByteArray) (nL : Nat) (own : String) (ret : Option FieldType) (nm : String) : Prop :=
  p.tables.exec = Jvm.exec ∧ c.code = cc ∧ c.maxLocals = nL ∧ s.vm.findClass own = some m.cls ∧ (∀ w ∈ wsL_law, w.before args s = true) ∧ meth.locks = false ∧ va_K D vwCl (gT cy) s ∧ gX s ∧ meth.sig.returnType = ret ∧ meth.name = nm
def gPc (D : va_G) (cy : Nat → ClassId) (av : List Value) (σ : Sg) : Array Value → State → Prop := va_Pc av (fun U => (gH D cy σ U.heap ∧ U.heap.size = sz σ) ∧ va_K D vwCl (gT cy) U ∧ gX U)
def gB (D : va_G) (cy : Nat → ClassId) (σ σ' : Sg) (t : State) : Prop := gH D cy σ' t.heap ∧ t.heap.size = sz σ' ∧ (∀ q, tg σ' q ≠ 0 → gA σ q) ∧ ∀ q t, tg σ q = t + 1 → tg σ' q = t + 1
theorem gT_0 (cy : Nat → ClassId) : (gT cy)[0]? = some (cy 0, .int) ∧ (gT cy)[1]? = some (cy 1, .long) ∧ (gT cy)[2]? = some (cy 2, .boolean) ∧ (gT cy)[3]? = some (cy 3, .object RX5) ∧ (gT cy)[4]? = some (cy 4, .object RX7) ∧ (gT cy)[5]? = some (cy 5, .object RX8) := ⟨rfl, rfl, rfl, rfl, rfl, rfl⟩
theorem gfs_at {σ : Sg} {a ci j t : Nat} (h : (fty ci)[j]? = some t) : (gfs σ a ci)[j]? = some (gv σ a (64 * ci + j) t) := by
  unfold gfs
  rw [List.getElem?_mapIdx, h]
  rfl
theorem gfs_len {σ : Sg} {a ci : Nat} : (gfs σ a ci).length = (fty ci).length := by unfold gfs; exact List.length_mapIdx
theorem gfs_eq {σ σ' : Sg} {a ci : Nat} (h : ∀ j t, gv σ' a (64 * ci + j) t = gv σ a (64 * ci + j) t) : gfs σ' a ci = gfs σ a ci := by
  unfold gfs
  refine congrArg (fun f => (fty ci).mapIdx f) ?_
  funext j t
  exact h j t
theorem gfs_set {σ σ' : Sg} {a ci j t0 : Nat} {v : Value} (h0 : (fty ci)[j]? = some t0) (hv : gv σ' a (64 * ci + j) t0 = v) (h : ∀ i t, (fty ci)[i]? = some t → i ≠ j → gv σ' a (64 * ci + i) t = gv σ a (64 * ci + i) t) : gfs σ' a ci = (gfs σ a ci).set j v := by
  refine List.ext_getElem? fun i => ?_
  have hj : j < (fty ci).length := (List.getElem?_eq_some_iff.mp h0).1
  by_cases e : i = j
  · subst e
    rw [gfs_at h0, List.getElem?_set_self (by rw [gfs_len]; exact hj), hv]
  · rw [List.getElem?_set_ne (Ne.symm e)]
    cases hi : (fty ci)[i]? with
    | none =>
      unfold gfs
      rw [List.getElem?_mapIdx, List.getElem?_mapIdx, hi]
      rfl
    | some t => rw [gfs_at hi, gfs_at hi, h i t hi e]
theorem gE_obj {cy : Nat → ClassId} {σ : Sg} {a t : Nat} (h : t < 12) : gE cy σ a t = .inr (t, gfs σ a t) := by unfold gE; rw [if_pos h]
theorem gE_arr {cy : Nat → ClassId} {σ : Sg} {a t : Nat} (h : ¬ t < 12) : gE cy σ a t = .inl (cy (t - 12), ln σ a, gar σ a (t - 12)) := by unfold gE; rw [if_neg h]
theorem gE_eq {cy : Nat → ClassId} {σ σ' : Sg} {a t : Nat} (h1 : ∀ k t, gv σ' a k t = gv σ a k t) (h2 : ln σ' a = ln σ a) (h3 : ∀ t, gar σ' a t = gar σ a t) : gE cy σ' a t = gE cy σ a t := by
  unfold gE
  rw [gfs_eq (fun j t => h1 _ t), h2, h3]
theorem gH_put {D : va_G} {cy : Nat → ClassId} {σ σ' : Sg} {H H1 : Heap} {a t0 : Nat} (hH : gH D cy σ H) (h0 : tg σ a = t0 + 1) (ht : tg σ' = tg σ) (hne : ∀ q t, q ≠ a → gE cy σ' q t = gE cy σ q t) (hat : va_at D vwCl (a, gE cy σ' a t0) H1) (oq : ∀ q : Nat, q ≠ a → H1[q]? = H[q]?) : gH D cy σ' H1 := by
  intro q t hq
  rw [ht] at hq
  by_cases e : q = a
  · subst e
    have : t = t0 := by omega
    subst this
    exact hat
  · rw [hne q t e]
    exact (hH q t hq).kept (oq q e)
theorem gv_FI {σ : Sg} {k a q i t : Nat} {v : Int32} (h : q ≠ a) : gv (sFI σ k a v) q i t = gv σ q i t := by
  unfold gv
  split
  · rw [(gs_FI σ k a v).2.2.2.2.2.2.2.2, if_neg (fun z => h z.2)]
  · rfl
  · rfl
theorem gv_FL {σ : Sg} {k a q i t : Nat} {v : Int64} (h : q ≠ a) : gv (sFL σ k a v) q i t = gv σ q i t := by
  unfold gv
  split
  · rfl
  · rw [(gs_FL σ k a v).2.2.2.2.2.2.2.2, if_neg (fun z => h z.2)]
  · rfl
theorem gv_FR {σ : Sg} {k a q i t : Nat} {v : Option Nat} (h : q ≠ a) : gv (sFR σ k a v) q i t = gv σ q i t := by
  unfold gv
  split
  · rfl
  · rfl
  · rw [(gs_FR σ k a v).2.2.2.2.2.2.2.2, if_neg (fun z => h z.2)]
theorem gw_FI {σ : Sg} {k a q i t : Nat} {v : Int32} (h : i ≠ k) : gv (sFI σ k a v) q i t = gv σ q i t := by
  unfold gv
  split
  · rw [(gs_FI σ k a v).2.2.2.2.2.2.2.2, if_neg (fun z => h z.1)]
  · rfl
  · rfl
theorem gw_FL {σ : Sg} {k a q i t : Nat} {v : Int64} (h : i ≠ k) : gv (sFL σ k a v) q i t = gv σ q i t := by
  unfold gv
  split
  · rfl
  · rw [(gs_FL σ k a v).2.2.2.2.2.2.2.2, if_neg (fun z => h z.1)]
  · rfl
theorem gw_FR {σ : Sg} {k a q i t : Nat} {v : Option Nat} (h : i ≠ k) : gv (sFR σ k a v) q i t = gv σ q i t := by
  unfold gv
  split
  · rfl
  · rfl
  · rw [(gs_FR σ k a v).2.2.2.2.2.2.2.2, if_neg (fun z => h z.1)]
theorem gu_row {α : Type} {f : Nat → Nat → α} {a i q : Nat} {v : α} (h : q ≠ a) : g_u f a i v q = f q := by
  funext j
  unfold g_u
  rw [if_neg (fun z => h z.1)]
theorem gu_self {f : Nat → Nat → Int32} {a i : Nat} {v : Int32} : g_u f a i v a = upd (f a) i v := by
  funext j
  unfold g_u upd
  by_cases e : j = i
  · rw [if_pos ⟨rfl, e⟩, if_pos e]
  · rw [if_neg (fun z => e z.2), if_neg e]
theorem gu_selfV {α : Type} {f : Nat → Nat → α} {a i : Nat} {v : α} {g : α → Value} : (fun j => g (g_u f a i v a j)) = updV (fun j => g (f a j)) i (g v) := by
  funext j
  unfold g_u updV
  by_cases e : j = i
  · rw [if_pos ⟨rfl, e⟩, if_pos e]
  · rw [if_neg (fun z => e z.2), if_neg e]
theorem gW_H {D : va_G} {cy : Nat → ClassId} {A : Nat → Prop} {M : Nat → Nat} {H0 H : Heap} {σ : Sg} {locs : List Loc} (h : gW D cy A M H0 σ H locs) {a t : Nat} (ht : tg σ a = t + 1) : va_at D vwCl (a, gE cy σ a t) H := h.1 a t ht
theorem gW_put {D : va_G} {cy : Nat → ClassId} {A : Nat → Prop} {M : Nat → Nat} {H0 H H1 : Heap} {σ σ' : Sg} {locs : List Loc} {a t0 k : Nat} (h : gW D cy A M H0 σ H locs) (h0 : tg σ a = t0 + 1) (ht : tg σ' = tg σ) (hz : sz σ' = sz σ) (hne : ∀ q t, q ≠ a → gE cy σ' q t = gE cy σ q t) (hat : va_at D vwCl (a, gE cy σ' a t0) H1) (z : H1.size = H.size) (oq : ∀ q : Nat, q ≠ a → H1[q]? = H[q]?) : gW D cy A M H0 σ' H1 (locs ++ [⟨a, k⟩]) :=
  ⟨gH_put h.1 h0 ht hne hat oq, by rw [z, hz]; exact h.2.1, h.2.2.1.put z oq (h.2.2.2.1 a (by omega)), fun q hq => h.2.2.2.1 q (by rw [← ht]; exact hq), h.2.2.2.2.1, fun q t hq => by rw [ht]; exact h.2.2.2.2.2 q t hq⟩
/-- a new cell at the heap's end -/
theorem gW_new {D : va_G} {cy : Nat → ClassId} {A : Nat → Prop} {M : Nat → Nat} {H0 H H1 : Heap} {σ : Sg} {locs : List Loc} {t n : Nat} (h : gW D cy A M H0 σ H locs) (hat : va_at D vwCl (H.size, gE cy (nw σ (t + 1) n) H.size t) H1) (z : H1.size = H.size + 1) (oq : ∀ q : Nat, q < H.size → H1[q]? = H[q]?) : gW D cy A M H0 (nw σ (t + 1) n) H1 locs := by
  obtain ⟨hH, hz, hS, hT, hA, hM⟩ := h
  refine ⟨fun q t' hq => ?_, by rw [z, hz]; rfl, ⟨Nat.le_trans hS.1 (by omega), fun x h1 h2 => (oq x (Nat.lt_of_lt_of_le h1 hS.1)).trans (hS.2.1 x h1 h2), hS.2.2⟩, fun q hq => ?_, hA, fun q t' hq => ?_⟩
  · rw [(gs_nw σ (t + 1) n).2.1] at hq
    by_cases e : q = sz σ
    · rw [if_pos e] at hq
      have e2 : t' = t := by omega
      have e3 : q = H.size := by rw [hz]; exact e
      subst e2
      subst e3
      exact hat
    · rw [if_neg e] at hq
      have hq0 := hH q t' hq
      have hl : q < H.size := hq0.lt
      have e2 : gE cy (nw σ (t + 1) n) q t' = gE cy σ q t' := by
        refine gE_eq (fun k t => ?_) ?_ (fun t => ?_)
        · unfold gv
          split <;> simp only [gs_nw, if_neg e]
        · simp only [gs_nw, if_neg e]
        · unfold gar
          have f1 : aI (nw σ (t' + 1) n) q = aI σ q := by funext i; exact if_neg e
          have f2 : aL (nw σ (t' + 1) n) q = aL σ q := by funext i; exact if_neg e
          have f3 : aR (nw σ (t' + 1) n) q = aR σ q := by funext i; exact if_neg e
          split
          · exact congrArg Sum.inl (by funext i; exact if_neg e)
          · exact congrArg (fun f => Sum.inr (Sum.inl f)) (by funext i; exact if_neg e)
          · exact congrArg Sum.inl (by funext i; exact if_neg e)
          · exact congrArg (fun f => Sum.inr (Sum.inr (Sum.inr (Sum.inr f)))) (by funext i; exact if_neg e)
      rw [e2]
      exact hq0.kept (oq q hl)
  · rw [(gs_nw σ (t + 1) n).2.1] at hq
    by_cases e : q = sz σ
    · exact hA q (by rw [e, ← hz]; exact hS.1)
    · rw [if_neg e] at hq
      exact hT q hq
  · have h1 := hM q t' hq
    have h2 : q < H.size := (hH q t' h1).lt
    rw [(gs_nw σ (t + 1) n).2.1, if_neg (by omega)]
    exact h1
theorem gW_keep {D : va_G} {cy : Nat → ClassId} {A : Nat → Prop} {M : Nat → Nat} {H0 H : Heap} {σ : Sg} {locs : List Loc} {t n a i : Nat} (h : gW D cy A M H0 σ H locs) (ha : tg σ a = i + 1) : tg (nw σ t n) a = i + 1 := by
  have h2 : a < H.size := (h.1 a i ha).lt
  have h3 := h.2.1
  rw [(gs_nw σ t n).2.1, if_neg (by omega)]
  exact ha
theorem nw_tg {σ : Sg} {t n : Nat} : tg (nw σ t n) (sz σ) = t := if_pos rfl
theorem gws_all : wsL_law.all goodWord = true := by decide +kernel
theorem gIn {y : MethodName} {bytes : ByteArray} {maxL : Nat} {ret : Option FieldType} (h : Cond.code y bytes maxL ret ∈ wsL_law) : GoodIn wsL_law (.code y bytes maxL ret :: wsL_law) := by
  intro w hw
  have hm : w ∈ wsL_law := by
    rcases List.mem_cons.mp hw with e | e
    · rw [e]; exact h
    · exact e
  exact ⟨hm, good_of_word (List.all_eq_true.mp gws_all w hm)⟩
theorem gX_moved {s U : State} (hW : s.WarmedH U.vm) (h : gX s) : gX U := ⟨va_Nw.warmM hW h.1, va_Nw.warmM hW h.2.1, va_Nw.warmM hW h.2.2.1, va_Nw.warmM hW h.2.2.2.1, va_AO.moved hW.alike h.2.2.2.2.1, va_AO.moved hW.alike h.2.2.2.2.2.1, va_AO.moved hW.alike h.2.2.2.2.2.2⟩
theorem gX_same {u U : State} (e : u.vm = U.vm) (h : gX u) : gX U := ⟨va_Nw.same rfl e h.1, va_Nw.same rfl e h.2.1, va_Nw.same rfl e h.2.2.1, va_Nw.same rfl e h.2.2.2.1, va_AO.moved (by rw [e]; exact Vm.Alike.refl _) h.2.2.2.2.1, va_AO.moved (by rw [e]; exact Vm.Alike.refl _) h.2.2.2.2.2.1, va_AO.moved (by rw [e]; exact Vm.Alike.refl _) h.2.2.2.2.2.2⟩
theorem gPc_blind {D : va_G} {cy : Nat → ClassId} {av : List Value} {σ : Sg} : FrameBlind (gPc D cy av σ) := by
  intro a U g mk h
  obtain ⟨h1, h2, h3, h4⟩ := h
  exact ⟨h1, h2, va_K.moved (u := U) (U := U.calling g mk a) (Vm.Alike.refl U.vm) h3, gX_same (u := U) (U := U.calling g mk a) rfl h4⟩
theorem cat_i (x : Int32) : (Value.int x).category = 1 := rfl
theorem cat_l (x : Int64) : (Value.long x).category = 2 := rfl
theorem va_rf_cat (o : Option Nat) : (va_rf o).category = 1 := by cases o <;> rfl
theorem cat_le (v : Value) : v.category ≤ 2 := by cases v <;> simp [Value.category]
theorem gx_room0 : ∀ {st : List Value} {n : Nat}, st.length ≤ n → (st.map fun v => v.category).sum ≤ 2 * n := by
  intro st
  induction st with
  | nil => intro n h; simp
  | cons v t ih =>
    intro n h
    have h1 := cat_le v
    have h2 := ih (n := n - 1) (by simp at h; omega)
    simp at h ⊢
    omega
theorem gx_room {m : MethodId} {pc : Nat} {ls : Array Slot} {s0 st : List Value} (h : st.length ≤ 4) : 2 * (F0 m pc ls s0).monitorRoom + (st.map fun v => v.category).sum ≤ 8 := lv_room (gx_room0 (n := 4) h)
section GX
variable {p : Program} {l : Launch} {e : Env} {R : Room} {s : State} {m : MethodId} {args : Array Value} {below : List Frame} {meth : Method} {c : Code} {H : Heap} {locs : List Loc} {cells slots : Nat} {Q : State → Prop}
variable {cc : ByteArray} {nL : Nat} {own nm : String} {ret : Option FieldType} {pc : Nat} {ls : Array Slot} {rest st : List Value} {D : va_G} {cy : Nat → ClassId} {A : Nat → Prop} {M : Nat → Nat} {H0 : Heap} {σ : Sg}
theorem gx_get (C : gC p s m args meth c D cy cc nL own ret nm) (hW : gW D cy A M H0 σ H locs) {index ci j a ty : Nat} {fin mine : Bool} {ft : FieldType} {o : Option Nat} (hF : gF own index ci j ty fin mine ft) (ho : o = some a) (ht : tg σ a = ci + 1) {v : Value} (hv : gv σ a (64 * ci + j) ty = v) (hdg : decode cc pc = .ok (.getfield index, 3))
    (kk : W p l e R s m args below meth c H locs cells slots Q (F0 m (pc + 3) ls (v :: rest))) : W p l e R s m args below meth c H locs cells slots Q (F0 m pc ls (va_rf o :: rest)) := by
  obtain ⟨hx, hb, hml, hown, hts, hlk, hK, hX, hr, hn⟩ := C
  obtain ⟨Cn, T, N, ty0, hci, hc, hin, hp, hd, hj, hN, hl, hty, hfi, hft, hmi⟩ := hF
  subst ho
  have hP : va_P D vwCl [(a, .inr (ci, gfs σ a ci))] H := by
    intro k q hk
    have hz : k < 1 := (List.getElem?_eq_some_iff.mp hk).1
    rw [show k = 0 by omega] at hk
    cases hk
    have := gW_H hW ht
    rw [gE_obj hci] at this
    exact this
  exact va_get hx hb hts hin hown hK hP 0 rfl hc j hj (hts _ hl) (fun _ h9 => h9) (v := v) (by rw [gfs_at hty, hv]) hdg kk
theorem gx_getI (C : gC p s m args meth c D cy cc nL own ret nm) (hW : gW D cy A M H0 σ H locs) {index ci j a k : Nat} {fin mine : Bool} {ft : FieldType} {o : Option Nat} (hF : gF own index ci j 0 fin mine ft) (ho : o = some a) (ht : tg σ a = ci + 1) (hk : 64 * ci + j = k) (hdg : decode cc pc = .ok (.getfield index, 3))
    (kk : W p l e R s m args below meth c H locs cells slots Q (F0 m (pc + 3) ls (.int (fI σ k a) :: rest))) : W p l e R s m args below meth c H locs cells slots Q (F0 m pc ls (va_rf o :: rest)) := gx_get C hW hF ho ht (v := .int (fI σ k a)) (by rw [hk]; rfl) hdg kk
theorem gx_getL (C : gC p s m args meth c D cy cc nL own ret nm) (hW : gW D cy A M H0 σ H locs) {index ci j a k : Nat} {fin mine : Bool} {ft : FieldType} {o : Option Nat} (hF : gF own index ci j 1 fin mine ft) (ho : o = some a) (ht : tg σ a = ci + 1) (hk : 64 * ci + j = k) (hdg : decode cc pc = .ok (.getfield index, 3))
    (kk : W p l e R s m args below meth c H locs cells slots Q (F0 m (pc + 3) ls (.long (fL σ k a) :: rest))) : W p l e R s m args below meth c H locs cells slots Q (F0 m pc ls (va_rf o :: rest)) := gx_get C hW hF ho ht (v := .long (fL σ k a)) (by rw [hk]; rfl) hdg kk
theorem gx_getR (C : gC p s m args meth c D cy cc nL own ret nm) (hW : gW D cy A M H0 σ H locs) {index ci j a k : Nat} {fin mine : Bool} {ft : FieldType} {o : Option Nat} (hF : gF own index ci j 2 fin mine ft) (ho : o = some a) (ht : tg σ a = ci + 1) (hk : 64 * ci + j = k) (hdg : decode cc pc = .ok (.getfield index, 3))
    (kk : W p l e R s m args below meth c H locs cells slots Q (F0 m (pc + 3) ls (va_rf (fR σ k a) :: rest))) : W p l e R s m args below meth c H locs cells slots Q (F0 m pc ls (va_rf o :: rest)) := gx_get C hW hF ho ht (v := va_rf (fR σ k a)) (by rw [hk]; rfl) hdg kk
theorem gx_put (C : gC p s m args meth c D cy cc nL own ret nm) (hW : gW D cy A M H0 σ H locs) {index ci j a ty : Nat} {fin mine : Bool} {ft : FieldType} {o : Option Nat} {v : Value} {σ' : Sg} (hF : gF own index ci j ty fin mine ft) (hfin : fin = false ∨ (fin = true ∧ mine = true ∧ nm = "<init>")) (ho : o = some a) (ht : tg σ a = ci + 1) (hn : narrow ft v = v) (hfit : fits ft v = true) (h1 : tg σ' = tg σ) (h2 : sz σ' = sz σ) (h3 : ∀ q t, q ≠ a → gE cy σ' q t = gE cy σ q t)
    (h4 : ∀ t, (fty ci)[j]? = some t → gfs σ' a ci = (gfs σ a ci).set j v) (hdg : decode cc pc = .ok (.putfield index, 3)) (kk : ∀ (H1 : Heap) (locs1 : List Loc), gW D cy A M H0 σ' H1 locs1 → W p l e R s m args below meth c H1 locs1 cells slots Q (F0 m (pc + 3) ls rest)) : W p l e R s m args below meth c H locs cells slots Q (F0 m pc ls (v :: va_rf o :: rest)) := by
  obtain ⟨hx, hb, hml, hown, hts, hlk, hK, hX, hr, hnm⟩ := C
  obtain ⟨Cn, T, N, ty0, hci, hc, hin, hp, hd, hj, hN, hl, hty, hfi, hft, hmi⟩ := hF
  subst ho
  have hat := gW_H hW ht
  rw [gE_obj hci] at hat
  obtain ⟨r, q0, cell, q1, q2, q3, q4⟩ := hat
  have hr0 : r = (Cn, T, N) := Option.some.inj (q0.symm.trans hc)
  subst hr0
  obtain ⟨hS, hfc, kC, hkC, hkind⟩ := hK.1 ci _ hc
  obtain ⟨cf, kf, fi, f, hi, hsl⟩ := hS j hj
  have hap := va_apart (own := own) hts hin ty0 hp hd hK hc
  have hst := (u_facts hfc hkC (u_lays hts hin hj) hi).1
  have hgl : j < (gfs σ a ci).length := by rw [gfs_len, ← hN]; exact hj
  have goal2 : ∀ H' : Heap, H'[a]? = some (cell.setSlot f.slot v) → H'.size = H.size → (∀ q, q ≠ a → H'[q]? = H[q]?) → W p l e R s m args below meth c H' (locs ++ [⟨a, f.slot⟩]) cells slots Q (F0 m (pc + 3) ls rest) := by
    intro H' e1 e2 e3
    rw [hsl] at e1 ⊢
    refine kk H' _ (gW_put hW ht h1 h2 h3 ?_ e2 e3)
    rw [gE_obj hci, h4 _ hty]
    exact ⟨_, hc, t_OB.to (V := updV (vp_V (gfs σ a ci)) j v) ⟨_, e1, q2, q3, t_set q4 hap hj v⟩ (fun j' _ => vp_updV_set hgl v j')⟩
  have hlay := hts _ (hin _ (u_in_lay hj))
  unfold u_lay at hlay
  rcases hfin with hf0 | ⟨hf0, hm, hi9⟩
  · rw [if_neg (by rw [hfi, hf0]; decide)] at hlay
    have h6 := u_store hfc hkC hkind hlay hi (hp j hj) (by rw [hft]; exact hn) (by rw [hft]; exact hfit)
    exact W.putK hx hb (f := f) ⟨hown, hts _ hl, ⟨_, _, _, hi⟩, hst⟩ (by rw [q2]; exact h6) q1 q3 (by rw [hsl]; exact k2_hasslot (q4 j hj)) rfl rfl hdg goal2
  · rw [if_pos (by rw [hfi, hf0])] at hlay
    have hcf : m.cls = cf := by
      obtain ⟨_, _, c', _, _, _, -, -, hf', -, -, -, hown2, -⟩ := Cond.laysFinal_spec hlay
      have e1 : c' = cf := by have := hi.symm.trans hf'; simp at this; exact this.1.symm
      rw [hmi hm] at hown2
      rw [← e1]; exact Option.some.inj (hown.symm.trans hown2)
    have h6 := u_fits hfc hkC hkind (Or.inr hlay) hi (hp j hj) (by rw [hft]; exact hn) (by rw [hft]; exact hfit)
    exact W.putFinK hx hb hown (hts _ hl) hi hst hcf (by rw [hnm]; exact hi9) (by rw [q2]; exact h6) q1 q3 (by rw [hsl]; exact k2_hasslot (q4 j hj)) rfl rfl hdg goal2
theorem gx_putI (C : gC p s m args meth c D cy cc nL own ret nm) (hW : gW D cy A M H0 σ H locs) {index ci j a k : Nat} {fin mine : Bool} {ft : FieldType} {o : Option Nat} {x : Int32} (hF : gF own index ci j 0 fin mine ft) (hfin : fin = false ∨ (fin = true ∧ mine = true ∧ nm = "<init>")) (ho : o = some a) (ht : tg σ a = ci + 1) (hk : 64 * ci + j = k) (hn : narrow ft (.int x) = .int x) (hfit : fits ft (.int x) = true)
    (hdg : decode cc pc = .ok (.putfield index, 3)) (kk : ∀ (H1 : Heap) (locs1 : List Loc) (S : Sg), S = sFI σ k a x → gW D cy A M H0 S H1 locs1 → (∀ q t, tg σ q = t + 1 → tg S q = t + 1) → W p l e R s m args below meth c H1 locs1 cells slots Q (F0 m (pc + 3) ls rest)) : W p l e R s m args below meth c H locs cells slots Q (F0 m pc ls (.int x :: va_rf o :: rest)) := by
  subst hk
  have hty : (fty ci)[j]? = some 0 := by obtain ⟨_, _, _, _, _, _, _, _, _, _, _, _, h, _⟩ := hF; exact h
  refine gx_put C hW hF hfin ho ht hn hfit (gs_FI σ _ a x).1 (gs_FI σ _ a x).2.2.2.2.2.2.2.1 (fun q t hq => gE_eq (fun k t => gv_FI hq) rfl (fun t => rfl)) (fun t _ => gfs_set hty ?_ (fun i t _ hne => gw_FI (by omega))) hdg (fun H1 locs1 h => kk H1 locs1 _ rfl h (fun _ _ h => h))
  show Value.int (fI (sFI σ (64 * ci + j) a x) (64 * ci + j) a) = .int x
  rw [(gs_FI σ _ a x).2.2.2.2.2.2.2.2, if_pos ⟨rfl, rfl⟩]
theorem gx_putL (C : gC p s m args meth c D cy cc nL own ret nm) (hW : gW D cy A M H0 σ H locs) {index ci j a k : Nat} {fin mine : Bool} {o : Option Nat} {x : Int64} (hF : gF own index ci j 1 fin mine .long) (hfin : fin = false ∨ (fin = true ∧ mine = true ∧ nm = "<init>")) (ho : o = some a) (ht : tg σ a = ci + 1) (hk : 64 * ci + j = k)
    (hdg : decode cc pc = .ok (.putfield index, 3)) (kk : ∀ (H1 : Heap) (locs1 : List Loc) (S : Sg), S = sFL σ k a x → gW D cy A M H0 S H1 locs1 → (∀ q t, tg σ q = t + 1 → tg S q = t + 1) → W p l e R s m args below meth c H1 locs1 cells slots Q (F0 m (pc + 3) ls rest)) : W p l e R s m args below meth c H locs cells slots Q (F0 m pc ls (.long x :: va_rf o :: rest)) := by
  subst hk
  have hty : (fty ci)[j]? = some 1 := by obtain ⟨_, _, _, _, _, _, _, _, _, _, _, _, h, _⟩ := hF; exact h
  refine gx_put C hW hF hfin ho ht rfl rfl (gs_FL σ _ a x).1 (gs_FL σ _ a x).2.2.2.2.2.2.2.1 (fun q t hq => gE_eq (fun k t => gv_FL hq) rfl (fun t => rfl)) (fun t _ => gfs_set hty ?_ (fun i t _ hne => gw_FL (by omega))) hdg (fun H1 locs1 h => kk H1 locs1 _ rfl h (fun _ _ h => h))
  show Value.long (fL (sFL σ (64 * ci + j) a x) (64 * ci + j) a) = .long x
  rw [(gs_FL σ _ a x).2.2.2.2.2.2.2.2, if_pos ⟨rfl, rfl⟩]
def g_isR : FieldType → Bool
  | .object _ => true
  | .array _ => true
  | _ => false
theorem g_nR {ft : FieldType} (h : g_isR ft = true) (x : Option Nat) : narrow ft (va_rf x) = va_rf x ∧ fits ft (va_rf x) = true := by
  cases ft <;> first | (cases h; done) | (cases x <;> exact ⟨rfl, rfl⟩)
theorem gx_putR (C : gC p s m args meth c D cy cc nL own ret nm) (hW : gW D cy A M H0 σ H locs) {index ci j a k : Nat} {fin mine : Bool} {ft : FieldType} {o x : Option Nat} (hF : gF own index ci j 2 fin mine ft) (hfin : fin = false ∨ (fin = true ∧ mine = true ∧ nm = "<init>")) (hft : g_isR ft = true) (ho : o = some a) (ht : tg σ a = ci + 1) (hk : 64 * ci + j = k)
    (hdg : decode cc pc = .ok (.putfield index, 3)) (kk : ∀ (H1 : Heap) (locs1 : List Loc) (S : Sg), S = sFR σ k a x → gW D cy A M H0 S H1 locs1 → (∀ q t, tg σ q = t + 1 → tg S q = t + 1) → W p l e R s m args below meth c H1 locs1 cells slots Q (F0 m (pc + 3) ls rest)) : W p l e R s m args below meth c H locs cells slots Q (F0 m pc ls (va_rf x :: va_rf o :: rest)) := by
  subst hk
  have hty : (fty ci)[j]? = some 2 := by obtain ⟨_, _, _, _, _, _, _, _, _, _, _, _, h, _⟩ := hF; exact h
  refine gx_put C hW hF hfin ho ht (g_nR hft x).1 (g_nR hft x).2 (gs_FR σ _ a x).1 (gs_FR σ _ a x).2.2.2.2.2.2.2.1 (fun q t hq => gE_eq (fun k t => gv_FR hq) rfl (fun t => rfl)) (fun t _ => gfs_set hty ?_ (fun i t _ hne => gw_FR (by omega))) hdg (fun H1 locs1 h => kk H1 locs1 _ rfl h (fun _ _ h => h))
  show va_rf (fR (sFR σ (64 * ci + j) a x) (64 * ci + j) a) = va_rf x
  rw [(gs_FR σ _ a x).2.2.2.2.2.2.2.2, if_pos ⟨rfl, rfl⟩]
-- arrays
theorem gx_cellI (hW : gW D cy A M H0 σ H locs) {a : Nat} (ht : tg σ a = 13) : H[a]? = some (arrV (cy 0) (ln σ a) (fun j => .int (aI σ a j))) := gW_H hW (t := 12) ht
theorem gx_cellL (hW : gW D cy A M H0 σ H locs) {a : Nat} (ht : tg σ a = 14) : H[a]? = some (arrV (cy 1) (ln σ a) (fun j => .long (aL σ a j))) := gW_H hW (t := 13) ht
theorem gx_cellZ (hW : gW D cy A M H0 σ H locs) {a : Nat} (ht : tg σ a = 15) : H[a]? = some (arrV (cy 2) (ln σ a) (fun j => .int (aI σ a j))) := gW_H hW (t := 14) ht
theorem gx_cell3 (hW : gW D cy A M H0 σ H locs) {a : Nat} (ht : tg σ a = 16) : H[a]? = some (arrV (cy 3) (ln σ a) (fun j => va_rf (aR σ a j))) := gW_H hW (t := 15) ht
theorem gx_cell4 (hW : gW D cy A M H0 σ H locs) {a : Nat} (ht : tg σ a = 17) : H[a]? = some (arrV (cy 4) (ln σ a) (fun j => va_rf (aR σ a j))) := gW_H hW (t := 16) ht
theorem gx_cell5 (hW : gW D cy A M H0 σ H locs) {a : Nat} (ht : tg σ a = 18) : H[a]? = some (arrV (cy 5) (ln σ a) (fun j => va_rf (aR σ a j))) := gW_H hW (t := 17) ht
theorem gx_alen (C : gC p s m args meth c D cy cc nL own ret nm) (hW : gW D cy A M H0 σ H locs) {a : Nat} {o : Option Nat} (ho : o = some a) (ht : tg σ a = 13 ∨ tg σ a = 14 ∨ tg σ a = 15 ∨ tg σ a = 16 ∨ tg σ a = 17 ∨ tg σ a = 18) (hdg : decode cc pc = .ok (.arraylength, 1))
    (kk : W p l e R s m args below meth c H locs cells slots Q (F0 m (pc + 1) ls (.int (nI (ln σ a)) :: rest))) : W p l e R s m args below meth c H locs cells slots Q (F0 m pc ls (va_rf o :: rest)) := by
  obtain ⟨hx, hb, hml, hown, hts, hlk, hK, hX, hr, hn⟩ := C
  subst ho
  rcases ht with ht | ht | ht | ht | ht | ht
  · exact W.alen (n := nI (ln σ a)) hx hb (gx_cellI hW ht) ((hK.2 0 _ rfl).1 _ _) (by rw [arrV_size]; rfl) rfl rfl hdg kk
  · exact W.alen (n := nI (ln σ a)) hx hb (gx_cellL hW ht) ((hK.2 1 _ rfl).1 _ _) (by rw [arrV_size]; rfl) rfl rfl hdg kk
  · exact W.alen (n := nI (ln σ a)) hx hb (gx_cellZ hW ht) ((hK.2 2 _ rfl).1 _ _) (by rw [arrV_size]; rfl) rfl rfl hdg kk
  · exact W.alen (n := nI (ln σ a)) hx hb (gx_cell3 hW ht) ((hK.2 3 _ rfl).1 _ _) (by rw [arrV_size]; rfl) rfl rfl hdg kk
  · exact W.alen (n := nI (ln σ a)) hx hb (gx_cell4 hW ht) ((hK.2 4 _ rfl).1 _ _) (by rw [arrV_size]; rfl) rfl rfl hdg kk
  · exact W.alen (n := nI (ln σ a)) hx hb (gx_cell5 hW ht) ((hK.2 5 _ rfl).1 _ _) (by rw [arrV_size]; rfl) rfl rfl hdg kk
theorem gx_iald (C : gC p s m args meth c D cy cc nL own ret nm) (hW : gW D cy A M H0 σ H locs) {a : Nat} {o : Option Nat} {i : Int32} (ho : o = some a) (ht : tg σ a = 13) (hin : vp_in i (ln σ a)) (hdg : decode cc pc = .ok (.iaload, 1))
    (kk : W p l e R s m args below meth c H locs cells slots Q (F0 m (pc + 1) ls (.int (aI σ a i.toNatClampNeg) :: rest))) : W p l e R s m args below meth c H locs cells slots Q (F0 m pc ls (.int i :: va_rf o :: rest)) := by
  obtain ⟨hx, hb, hml, hown, hts, hlk, hK, hX, hr, hn⟩ := C
  subst ho
  have hlt : i.toNatClampNeg < ln σ a := Nat.not_le.mp fun q => hin (Or.inr q)
  exact W.iald (v := .int (aI σ a i.toNatClampNeg)) hx hb (gx_cellI hW ht) ((hK.2 0 _ rfl).1 _ _) (fun q => by cases q) (by rw [arrV_size]; exact hin) (by rw [arrV_read _ _ hlt]) rfl rfl hdg kk
theorem gx_lald (C : gC p s m args meth c D cy cc nL own ret nm) (hW : gW D cy A M H0 σ H locs) {a : Nat} {o : Option Nat} {i : Int32} (ho : o = some a) (ht : tg σ a = 14) (hin : vp_in i (ln σ a)) (hdg : decode cc pc = .ok (.laload, 1))
    (kk : W p l e R s m args below meth c H locs cells slots Q (F0 m (pc + 1) ls (.long (aL σ a i.toNatClampNeg) :: rest))) : W p l e R s m args below meth c H locs cells slots Q (F0 m pc ls (.int i :: va_rf o :: rest)) := by
  obtain ⟨hx, hb, hml, hown, hts, hlk, hK, hX, hr, hn⟩ := C
  subst ho
  have hlt : i.toNatClampNeg < ln σ a := Nat.not_le.mp fun q => hin (Or.inr q)
  exact W.lald (v := .long (aL σ a i.toNatClampNeg)) hx hb (gx_cellL hW ht) ((hK.2 1 _ rfl).1 _ _) (fun q => by cases q) (by rw [arrV_size]; exact hin) (by rw [arrV_read _ _ hlt]) rfl rfl hdg kk
theorem gx_zald (C : gC p s m args meth c D cy cc nL own ret nm) (hW : gW D cy A M H0 σ H locs) {a : Nat} {o : Option Nat} {i : Int32} (ho : o = some a) (ht : tg σ a = 15) (hin : vp_in i (ln σ a)) (hdg : decode cc pc = .ok (.baload, 1))
    (kk : W p l e R s m args below meth c H locs cells slots Q (F0 m (pc + 1) ls (.int (aI σ a i.toNatClampNeg) :: rest))) : W p l e R s m args below meth c H locs cells slots Q (F0 m pc ls (.int i :: va_rf o :: rest)) := by
  obtain ⟨hx, hb, hml, hown, hts, hlk, hK, hX, hr, hn⟩ := C
  subst ho
  have hlt : i.toNatClampNeg < ln σ a := Nat.not_le.mp fun q => hin (Or.inr q)
  exact W.zald (v := .int (aI σ a i.toNatClampNeg)) hx hb (gx_cellZ hW ht) ((hK.2 2 _ rfl).1 _ _) (fun q => by cases q) (by rw [arrV_size]; exact hin) (by rw [arrV_read _ _ hlt]) rfl rfl hdg kk
theorem gx_aald (C : gC p s m args meth c D cy cc nL own ret nm) (hW : gW D cy A M H0 σ H locs) {a : Nat} {o : Option Nat} {i : Int32} (ho : o = some a) (ht : tg σ a = 16 ∨ tg σ a = 17 ∨ tg σ a = 18) (hin : vp_in i (ln σ a)) (hdg : decode cc pc = .ok (.aaload, 1))
    (kk : W p l e R s m args below meth c H locs cells slots Q (F0 m (pc + 1) ls (va_rf (aR σ a i.toNatClampNeg) :: rest))) : W p l e R s m args below meth c H locs cells slots Q (F0 m pc ls (.int i :: va_rf o :: rest)) := by
  obtain ⟨hx, hb, hml, hown, hts, hlk, hK, hX, hr, hn⟩ := C
  subst ho
  have hlt : i.toNatClampNeg < ln σ a := Nat.not_le.mp fun q => hin (Or.inr q)
  rcases ht with ht | ht | ht
  · exact W.aald (v := va_rf (aR σ a i.toNatClampNeg)) (ty := .object RX5) hx hb (gx_cell3 hW ht) ((hK.2 3 _ rfl).1 _ _) rfl (fun q => by cases q) (by rw [arrV_size]; exact hin) (by rw [arrV_read _ _ hlt]) rfl rfl hdg kk
  · exact W.aald (v := va_rf (aR σ a i.toNatClampNeg)) (ty := .object RX7) hx hb (gx_cell4 hW ht) ((hK.2 4 _ rfl).1 _ _) rfl (fun q => by cases q) (by rw [arrV_size]; exact hin) (by rw [arrV_read _ _ hlt]) rfl rfl hdg kk
  · exact W.aald (v := va_rf (aR σ a i.toNatClampNeg)) (ty := .object RX8) hx hb (gx_cell5 hW ht) ((hK.2 5 _ rfl).1 _ _) rfl (fun q => by cases q) (by rw [arrV_size]; exact hin) (by rw [arrV_read _ _ hlt]) rfl rfl hdg kk
theorem gE_neA {a i q t : Nat} {v : Int32} (h : q ≠ a) : gE cy (sAI σ a i v) q t = gE cy σ q t := gE_eq (fun _ _ => rfl) rfl (fun t => by
  have : aI (sAI σ a i v) q = aI σ q := gu_row h
  unfold gar; split <;> first | rfl | (rw [this]))
theorem gE_neL {a i q t : Nat} {v : Int64} (h : q ≠ a) : gE cy (sAL σ a i v) q t = gE cy σ q t := gE_eq (fun _ _ => rfl) rfl (fun t => by
  have : aL (sAL σ a i v) q = aL σ q := gu_row h
  unfold gar; split <;> first | rfl | (rw [this]))
theorem gE_neR {a i q t : Nat} {v : Option Nat} (h : q ≠ a) : gE cy (sAR σ a i v) q t = gE cy σ q t := gE_eq (fun _ _ => rfl) rfl (fun t => by
  have : aR (sAR σ a i v) q = aR σ q := gu_row h
  unfold gar; split <;> first | rfl | (rw [this]))
theorem gx_iast (C : gC p s m args meth c D cy cc nL own ret nm) (hW : gW D cy A M H0 σ H locs) {a : Nat} {o : Option Nat} {i x : Int32} (ho : o = some a) (ht : tg σ a = 13) (hin : vp_in i (ln σ a)) (hdg : decode cc pc = .ok (.iastore, 1))
    (kk : ∀ (H1 : Heap) (locs1 : List Loc) (S : Sg), S = sAI σ a i.toNatClampNeg x → gW D cy A M H0 S H1 locs1 → (∀ q t, tg σ q = t + 1 → tg S q = t + 1) → W p l e R s m args below meth c H1 locs1 cells slots Q (F0 m (pc + 1) ls rest)) : W p l e R s m args below meth c H locs cells slots Q (F0 m pc ls (.int x :: .int i :: va_rf o :: rest)) := by
  obtain ⟨hx, hb, hml, hown, hts, hlk, hK, hX, hr, hn⟩ := C
  subst ho
  refine W.iast hx hb (gx_cellI hW ht) ((hK.2 0 _ rfl).1 _ _) (fun q => by cases q) (by rw [arrV_size]; exact hin) rfl rfl hdg fun H1 e1 z oq => ?_
  refine kk H1 _ _ rfl (gW_put hW (t0 := 12) ht rfl rfl (fun q t h => gE_neA h) ?_ z oq) (fun _ _ h => h)
  show H1[a]? = some (arrV (cy 0) (ln σ a) (fun j => .int (g_u (aI σ) a i.toNatClampNeg x a j)))
  rw [e1, arrV_store, gu_selfV (g := Value.int)]
theorem gx_last (C : gC p s m args meth c D cy cc nL own ret nm) (hW : gW D cy A M H0 σ H locs) {a : Nat} {o : Option Nat} {i : Int32} {x : Int64} (ho : o = some a) (ht : tg σ a = 14) (hin : vp_in i (ln σ a)) (hdg : decode cc pc = .ok (.lastore, 1))
    (kk : ∀ (H1 : Heap) (locs1 : List Loc) (S : Sg), S = sAL σ a i.toNatClampNeg x → gW D cy A M H0 S H1 locs1 → (∀ q t, tg σ q = t + 1 → tg S q = t + 1) → W p l e R s m args below meth c H1 locs1 cells slots Q (F0 m (pc + 1) ls rest)) : W p l e R s m args below meth c H locs cells slots Q (F0 m pc ls (.long x :: .int i :: va_rf o :: rest)) := by
  obtain ⟨hx, hb, hml, hown, hts, hlk, hK, hX, hr, hn⟩ := C
  subst ho
  refine W.last hx hb (gx_cellL hW ht) ((hK.2 1 _ rfl).1 _ _) (fun q => by cases q) (by rw [arrV_size]; exact hin) rfl rfl hdg fun H1 e1 z oq => ?_
  refine kk H1 _ _ rfl (gW_put hW (t0 := 13) ht rfl rfl (fun q t h => gE_neL h) ?_ z oq) (fun _ _ h => h)
  show H1[a]? = some (arrV (cy 1) (ln σ a) (fun j => .long (g_u (aL σ) a i.toNatClampNeg x a j)))
  rw [e1, arrV_store, gu_selfV (g := Value.long)]
theorem gx_zast (C : gC p s m args meth c D cy cc nL own ret nm) (hW : gW D cy A M H0 σ H locs) {a : Nat} {o : Option Nat} {i x : Int32} (ho : o = some a) (ht : tg σ a = 15) (hin : vp_in i (ln σ a)) (hdg : decode cc pc = .ok (.bastore, 1))
    (kk : ∀ (H1 : Heap) (locs1 : List Loc) (S : Sg), S = sAI σ a i.toNatClampNeg (vp_nar .boolean x) → gW D cy A M H0 S H1 locs1 → (∀ q t, tg σ q = t + 1 → tg S q = t + 1) → W p l e R s m args below meth c H1 locs1 cells slots Q (F0 m (pc + 1) ls rest)) : W p l e R s m args below meth c H locs cells slots Q (F0 m pc ls (.int x :: .int i :: va_rf o :: rest)) := by
  obtain ⟨hx, hb, hml, hown, hts, hlk, hK, hX, hr, hn⟩ := C
  subst ho
  refine W.zast hx hb (gx_cellZ hW ht) ((hK.2 2 _ rfl).1 _ _) (fun q => by cases q) (by rw [arrV_size]; exact hin) rfl rfl hdg fun H1 e1 z oq => ?_
  refine kk H1 _ _ rfl (gW_put hW (t0 := 14) ht rfl rfl (fun q t h => gE_neA h) ?_ z oq) (fun _ _ h => h)
  show H1[a]? = some (arrV (cy 2) (ln σ a) (fun j => .int (g_u (aI σ) a i.toNatClampNeg (vp_nar .boolean x) a j)))
  rw [e1, arrV_store, gu_selfV (g := Value.int)]
  first | rfl | (congr 2; funext q; simp [updV, vp_nar])
theorem gx_aastN (C : gC p s m args meth c D cy cc nL own ret nm) (hW : gW D cy A M H0 σ H locs) {a : Nat} {o : Option Nat} {i : Int32} (ho : o = some a) (ht : tg σ a = 16 ∨ tg σ a = 17 ∨ tg σ a = 18) (hin : vp_in i (ln σ a)) (hdg : decode cc pc = .ok (.aastore, 1))
    (kk : ∀ (H1 : Heap) (locs1 : List Loc) (S : Sg), S = sAR σ a i.toNatClampNeg none → gW D cy A M H0 S H1 locs1 → (∀ q t, tg σ q = t + 1 → tg S q = t + 1) → W p l e R s m args below meth c H1 locs1 cells slots Q (F0 m (pc + 1) ls rest)) : W p l e R s m args below meth c H locs cells slots Q (F0 m pc ls (va_rf none :: .int i :: va_rf o :: rest)) := by
  obtain ⟨hx, hb, hml, hown, hts, hlk, hK, hX, hr, hn⟩ := C
  subst ho
  rcases ht with ht | ht | ht
  · refine va_WaastN (C := RX5) hx hb (gx_cell3 hW ht) ((hK.2 3 _ rfl).1 _ _) (fun q => by cases q) (by rw [arrV_size]; exact hin) rfl rfl hdg fun H1 e1 z oq => ?_
    refine kk H1 _ _ rfl (gW_put hW (t0 := 15) ht rfl rfl (fun q t h => gE_neR h) ?_ z oq) (fun _ _ h => h)
    show H1[a]? = some (arrV (cy 3) (ln σ a) (fun j => va_rf (g_u (aR σ) a i.toNatClampNeg none a j)))
    rw [e1, arrV_store, gu_selfV (g := va_rf)]
    rfl
  · refine va_WaastN (C := RX7) hx hb (gx_cell4 hW ht) ((hK.2 4 _ rfl).1 _ _) (fun q => by cases q) (by rw [arrV_size]; exact hin) rfl rfl hdg fun H1 e1 z oq => ?_
    refine kk H1 _ _ rfl (gW_put hW (t0 := 16) ht rfl rfl (fun q t h => gE_neR h) ?_ z oq) (fun _ _ h => h)
    show H1[a]? = some (arrV (cy 4) (ln σ a) (fun j => va_rf (g_u (aR σ) a i.toNatClampNeg none a j)))
    rw [e1, arrV_store, gu_selfV (g := va_rf)]
    rfl
  · refine va_WaastN (C := RX8) hx hb (gx_cell5 hW ht) ((hK.2 5 _ rfl).1 _ _) (fun q => by cases q) (by rw [arrV_size]; exact hin) rfl rfl hdg fun H1 e1 z oq => ?_
    refine kk H1 _ _ rfl (gW_put hW (t0 := 17) ht rfl rfl (fun q t h => gE_neR h) ?_ z oq) (fun _ _ h => h)
    show H1[a]? = some (arrV (cy 5) (ln σ a) (fun j => va_rf (g_u (aR σ) a i.toNatClampNeg none a j)))
    rw [e1, arrV_store, gu_selfV (g := va_rf)]
    rfl
theorem gx_aastS (hx : p.tables.exec = Jvm.exec) (hb : c.code = cc) (hK : va_K D vwCl (gT cy) s) (hW : gW D cy A M H0 σ H locs) {a v ta ci q0 : Nat} {r : vw_C} {i : Int32} (hci : ci < 12) (hc : vwCl[ci]? = some r) (hta : ¬ ta < 12) (h15 : 3 ≤ ta - 12) (ht : tg σ a = ta + 1) (hty : (gT cy)[q0]? = some (cy (ta - 12), .object r.1)) (hv : tg σ v = ci + 1) (hin : vp_in i (ln σ a)) (hdg : decode cc pc = .ok (.aastore, 1))
    (kk : ∀ (H1 : Heap) (locs1 : List Loc) (S : Sg), S = sAR σ a i.toNatClampNeg (some v) → gW D cy A M H0 S H1 locs1 → (∀ q t, tg σ q = t + 1 → tg S q = t + 1) → W p l e R s m args below meth c H1 locs1 cells slots Q (F0 m (pc + 1) ls rest)) : W p l e R s m args below meth c H locs cells slots Q (F0 m pc ls (.ref v :: .int i :: .ref a :: rest)) := by
  have hlt : i.toNatClampNeg < ln σ a := Nat.not_le.mp fun q => hin (Or.inr q)
  have h0 : ¬ i < 0 := fun q => hin (Or.inl q)
  have hg3 : ∀ σ' : Sg, gar σ' a (ta - 12) = .inr (.inr (.inr (.inr (aR σ' a)))) := by
    intro σ'
    obtain ⟨z, hz⟩ : ∃ z, ta - 12 = z + 3 := ⟨ta - 12 - 3, by omega⟩
    rw [hz]
    rfl
  have hca : H[a]? = some (arrV (cy (ta - 12)) (ln σ a) (fun j => va_rf (aR σ a j))) := by
    have h1 := gW_H hW ht
    rw [gE_arr hta, hg3] at h1
    exact h1
  have hcv := gW_H hW hv
  rw [gE_obj hci] at hcv
  obtain ⟨r', hr', cellV, g1, g2, g3, -⟩ := hcv
  have hcls := (hK.1 ci r hc).2
  obtain ⟨kA, comp, k1, k2, k3, -⟩ := (hK.2 q0 _ hty).2
  have hcomp : comp = D.1 ci := Option.some.inj (k3.symm.trans hcls.1)
  subst hcomp
  obtain ⟨kC, hkC, -⟩ := hcls.2
  refine W.aast hx hb hca (fun q h => by cases h) (fun h => by cases h) k1 k2 rfl hkC ⟨h0, by rw [arrV_size]; exact hlt⟩ g1 (fun q h => by rw [g3] at h; cases h) (by rw [g2]; exact hkC) (by rw [g2]; exact va_assign hcls) rfl rfl hdg fun H1 e1 z oq => ?_
  refine kk H1 _ _ rfl (gW_put hW (t0 := ta) ht rfl rfl (fun q t h => gE_neR h) ?_ z oq) (fun _ _ h => h)
  rw [gE_arr hta, hg3]
  show H1[a]? = some (arrV (cy (ta - 12)) (ln σ a) (fun j => va_rf (g_u (aR σ) a i.toNatClampNeg (some v) a j)))
  rw [e1, arrV_store, gu_selfV (g := va_rf)]
  rfl
theorem gx_aast3 (C : gC p s m args meth c D cy cc nL own ret nm) (hW : gW D cy A M H0 σ H locs) {a v : Nat} {o x : Option Nat} {i : Int32} (ho : o = some a) (hxv : x = some v) (ht : tg σ a = 16) (hv : tg σ v = 6) (hin : vp_in i (ln σ a)) (hdg : decode cc pc = .ok (.aastore, 1))
    (kk : ∀ (H1 : Heap) (locs1 : List Loc) (S : Sg), S = sAR σ a i.toNatClampNeg (some v) → gW D cy A M H0 S H1 locs1 → (∀ q t, tg σ q = t + 1 → tg S q = t + 1) → W p l e R s m args below meth c H1 locs1 cells slots Q (F0 m (pc + 1) ls rest)) : W p l e R s m args below meth c H locs cells slots Q (F0 m pc ls (va_rf x :: .int i :: va_rf o :: rest)) := by
  obtain ⟨hx, hb, hml, hown, hts, hlk, hK, hX, hr, hn⟩ := C
  subst ho; subst hxv
  exact gx_aastS (ta := 15) (ci := 5) (q0 := 3) (r := (RX5, TX5, 5)) hx hb hK hW (by decide) rfl (by decide) (by decide) ht rfl hv hin hdg kk
theorem gx_aast4 (C : gC p s m args meth c D cy cc nL own ret nm) (hW : gW D cy A M H0 σ H locs) {a v : Nat} {o x : Option Nat} {i : Int32} (ho : o = some a) (hxv : x = some v) (ht : tg σ a = 17) (hv : tg σ v = 8) (hin : vp_in i (ln σ a)) (hdg : decode cc pc = .ok (.aastore, 1))
    (kk : ∀ (H1 : Heap) (locs1 : List Loc) (S : Sg), S = sAR σ a i.toNatClampNeg (some v) → gW D cy A M H0 S H1 locs1 → (∀ q t, tg σ q = t + 1 → tg S q = t + 1) → W p l e R s m args below meth c H1 locs1 cells slots Q (F0 m (pc + 1) ls rest)) : W p l e R s m args below meth c H locs cells slots Q (F0 m pc ls (va_rf x :: .int i :: va_rf o :: rest)) := by
  obtain ⟨hx, hb, hml, hown, hts, hlk, hK, hX, hr, hn⟩ := C
  subst ho; subst hxv
  exact gx_aastS (ta := 16) (ci := 7) (q0 := 4) (r := (RX7, TX7, 9)) hx hb hK hW (by decide) rfl (by decide) (by decide) ht rfl hv hin hdg kk
theorem gx_aast5 (C : gC p s m args meth c D cy cc nL own ret nm) (hW : gW D cy A M H0 σ H locs) {a : Nat} {o x : Option Nat} {i : Int32} (ho : o = some a) (ht : tg σ a = 18) (hv : ∀ v, x = some v → tg σ v = 9) (hin : vp_in i (ln σ a)) (hdg : decode cc pc = .ok (.aastore, 1))
    (kk : ∀ (H1 : Heap) (locs1 : List Loc) (S : Sg), S = sAR σ a i.toNatClampNeg x → gW D cy A M H0 S H1 locs1 → (∀ q t, tg σ q = t + 1 → tg S q = t + 1) → W p l e R s m args below meth c H1 locs1 cells slots Q (F0 m (pc + 1) ls rest)) : W p l e R s m args below meth c H locs cells slots Q (F0 m pc ls (va_rf x :: .int i :: va_rf o :: rest)) := by
  cases x with
  | none => exact gx_aastN C hW ho (Or.inr (Or.inr ht)) hin hdg kk
  | some v =>
    obtain ⟨hx, hb, hml, hown, hts, hlk, hK, hX, hr, hn⟩ := C
    subst ho
    exact gx_aastS (ta := 17) (ci := 8) (q0 := 5) (r := (RX8, TX8, 2)) hx hb hK hW (by decide) rfl (by decide) (by decide) ht rfl (hv v rfl) hin hdg kk
-- new cells
theorem gx_new (C : gC p s m args meth c D cy cc nL own ret nm) (hW : gW D cy A M H0 σ H locs) {index ci n : Nat} (hN : gN own index ci n) (hcells : cells + 1 ≤ R.cells) (hslots : slots + n ≤ R.slots) (hdg : decode cc pc = .ok (.new index, 3))
    (kk : ∀ (H1 : Heap) (S : Sg), S = nw σ (ci + 1) 0 → gW D cy A M H0 S H1 locs → (∀ q t, tg σ q = t + 1 → tg S q = t + 1) → tg S (sz σ) = ci + 1 → W p l e R s m args below meth c H1 locs (cells + 1) (slots + n) Q (F0 m (pc + 3) ls (va_rf (some (sz σ)) :: rest))) : W p l e R s m args below meth c H locs cells slots Q (F0 m pc ls rest) := by
  obtain ⟨hx, hb, hml, hown, hts, hlk, hK, hX, hr, hnm⟩ := C
  obtain ⟨Cn, T, N, ty0, hci, hc, hin, hp, hcl, hins, hini, hNn, hdf⟩ := hN
  subst hNn
  have hz := hW.2.1
  have hKn := hK.1 ci _ hc
  refine W.newcK hx hb hown (hts _ hcl) (hts _ hins) (hts _ hini) rfl hdg hcells hslots hKn.2.1 rfl fun H1 kC hkC e1 z1 o1 => ?_
  rw [hz] at z1 o1 e1 ⊢
  refine kk H1 _ rfl (gW_new hW ?_ (by rw [hz]; exact z1) (by rw [hz]; exact o1)) (fun _ _ h => gW_keep hW h) nw_tg
  rw [gE_obj hci, hz]
  refine ⟨_, hc, (u_born ty0 hts hin hKn hkC e1 hp).to fun j hj => ?_⟩
  obtain ⟨t, ht, hd⟩ := hdf j hj
  show defaultValue (ty0 j) = (gfs (nw σ (ci + 1) 0) (sz σ) ci).getD j .null
  rw [hd, List.getD_eq_getElem?_getD, gfs_at ht]
  unfold gv gz
  split <;> simp [gs_nw, va_rf]
theorem gx_newa (C : gC p s m args meth c D cy cc nL own ret nm) (hW : gW D cy A M H0 σ H locs) {at0 : ArrayType} {k K N : Nat} {n : Int32} (harr : Cond.arrayClass (newarray.typeOf at0) ∈ wsL_law) (hk : (at0 = .int ∧ k = 0) ∨ (at0 = .long ∧ k = 1) ∨ (at0 = .boolean ∧ k = 2)) (hn : ¬ n < 0) (hN : n.toNatClampNeg = N) (hKn : N ≤ K) (hK8 : K ≤ 65536) (hcells : cells + 1 ≤ R.cells) (hslots : slots + K ≤ R.slots) (hdg : decode cc pc = .ok (.newarray at0, 2))
    (kk : ∀ (H1 : Heap) (S : Sg), S = nw σ (k + 13) N → gW D cy A M H0 S H1 locs → (∀ q t, tg σ q = t + 1 → tg S q = t + 1) → tg S (sz σ) = k + 13 → W p l e R s m args below meth c H1 locs (cells + 1) (slots + K) Q (F0 m (pc + 2) ls (va_rf (some (sz σ)) :: rest))) : W p l e R s m args below meth c H locs cells slots Q (F0 m pc ls (.int n :: rest)) := by
  obtain ⟨hx, hb, hml, hown, hts, hlk, hK, hX, hr, hnm⟩ := C
  have hz := hW.2.1
  subst hN
  have hbytes : n.toNatClampNeg * componentBytes (newarray.typeOf at0) ≤ 536870912 := by
    have : componentBytes (newarray.typeOf at0) ≤ 8 := by rcases hk with ⟨rfl, -⟩ | ⟨rfl, -⟩ | ⟨rfl, -⟩ <;> decide
    calc n.toNatClampNeg * componentBytes (newarray.typeOf at0) ≤ 65536 * 8 := Nat.mul_le_mul (Nat.le_trans hKn hK8) this
      _ ≤ 536870912 := by decide
  refine va_newaK hx hb (hts _ harr) rfl hdg rfl hn rfl hbytes hcells (Nat.le_trans (Nat.add_le_add_left hKn _) hslots) rfl fun H1 cA e1 z1 o1 hAr hNm => ?_
  refine W.widen (k := cells + 1) (n := slots + K) (Nat.le_refl _) (Nat.add_le_add_left hKn _) ?_
  rw [hz] at z1 o1 e1 ⊢
  refine kk H1 _ rfl ?_ (fun _ _ h => gW_keep hW h) nw_tg
  have h1 : aI (nw σ (k + 13) n.toNatClampNeg) (sz σ) = fun _ => 0 := by funext i; exact if_pos rfl
  have h2 : aL (nw σ (k + 13) n.toNatClampNeg) (sz σ) = fun _ => 0 := by funext i; exact if_pos rfl
  have h3 : ln (nw σ (k + 13) n.toNatClampNeg) (sz σ) = n.toNatClampNeg := if_pos rfl
  refine gW_new (t := k + 12) hW ?_ (by rw [hz]; exact z1) (by rw [hz]; exact o1)
  rw [gE_arr (by omega), hz]
  rcases hk with ⟨rfl, rfl⟩ | ⟨rfl, rfl⟩ | ⟨rfl, rfl⟩
  · have hc : cA = cy 0 := Option.some.inj (hNm.symm.trans (hK.2 0 _ rfl).2)
    subst hc
    show H1[sz σ]? = some (vp_cell (cy 0) (ln (nw σ (0 + 13) n.toNatClampNeg) (sz σ), .inl (aI (nw σ (0 + 13) n.toNatClampNeg) (sz σ))))
    rw [h1, h3, vp_cell_i]
    exact e1
  · have hc : cA = cy 1 := Option.some.inj (hNm.symm.trans (hK.2 1 _ rfl).2)
    subst hc
    show H1[sz σ]? = some (vp_cell (cy 1) (ln (nw σ (1 + 13) n.toNatClampNeg) (sz σ), .inr (.inl (aL (nw σ (1 + 13) n.toNatClampNeg) (sz σ)))))
    rw [h2, h3, vp_cell_l]
    exact e1
  · have hc : cA = cy 2 := Option.some.inj (hNm.symm.trans (hK.2 2 _ rfl).2)
    subst hc
    show H1[sz σ]? = some (vp_cell (cy 2) (ln (nw σ (2 + 13) n.toNatClampNeg) (sz σ), .inl (aI (nw σ (2 + 13) n.toNatClampNeg) (sz σ))))
    rw [h1, h3, vp_cell_i]
    exact e1
theorem gx_newq (C : gC p s m args meth c D cy cc nL own ret nm) (hW : gW D cy A M H0 σ H locs) {Cn : String} {index k K N : Nat} {n : Int32} (hcl : Cond.classLink own index Cn ∈ wsL_law) (hk : (Cn = RX5 ∧ k = 3) ∨ (Cn = RX7 ∧ k = 4) ∨ (Cn = RX8 ∧ k = 5)) (hn : ¬ n < 0) (hN : n.toNatClampNeg = N) (hKn : N ≤ K) (hK8 : K ≤ 65536) (hcells : cells + 1 ≤ R.cells) (hslots : slots + K ≤ R.slots) (hdg : decode cc pc = .ok (.anewarray index, 3))
    (kk : ∀ (H1 : Heap) (S : Sg), S = nw σ (k + 13) N → gW D cy A M H0 S H1 locs → (∀ q t, tg σ q = t + 1 → tg S q = t + 1) → tg S (sz σ) = k + 13 → W p l e R s m args below meth c H1 locs (cells + 1) (slots + K) Q (F0 m (pc + 3) ls (va_rf (some (sz σ)) :: rest))) : W p l e R s m args below meth c H locs cells slots Q (F0 m pc ls (.int n :: rest)) := by
  obtain ⟨hx, hb, hml, hown, hts, hlk, hK, hX, hr, hnm⟩ := C
  have hz := hW.2.1
  have hover : va_AO Cn s := by
    rcases hk with ⟨rfl, -⟩ | ⟨rfl, -⟩ | ⟨rfl, -⟩
    · exact hX.2.2.2.2.1
    · exact hX.2.2.2.2.2.1
    · exact hX.2.2.2.2.2.2
  subst hN
  have hbytes : n.toNatClampNeg * 4 ≤ 536870912 := by omega
  refine W.anew hx hb hown (hts _ hcl) (va_AO.use hover) rfl hdg rfl hn hbytes hcells (Nat.le_trans (Nat.add_le_add_left hKn _) hslots) fun cA kA comp f1 f2 f3 f4 => ?_
  generalize hH1 : H.push ({ cls := cA, slots := Array.replicate n.toNatClampNeg .null, vm := .none } : Cell) = H1
  have z1 : H1.size = H.size + 1 := by rw [← hH1, Array.size_push]
  have e1 : H1[H.size]? = some (arrV cA n.toNatClampNeg (fun _ => .null)) := by rw [← hH1, Array.getElem?_push_size, ← arrV_new]
  have o1 : ∀ q : Nat, q < H.size → H1[q]? = H[q]? := fun q hq => by rw [← hH1, Array.getElem?_push, if_neg (Nat.ne_of_lt hq)]
  refine W.widen (k := cells + 1) (n := slots + K) (Nat.le_refl _) (Nat.add_le_add_left hKn _) ?_
  rw [hz] at z1 o1 e1 ⊢
  refine kk H1 _ rfl ?_ (fun _ _ h => gW_keep hW h) nw_tg
  have h1 : aR (nw σ (k + 13) n.toNatClampNeg) (sz σ) = fun _ => none := by funext i; exact if_pos rfl
  have h3 : ln (nw σ (k + 13) n.toNatClampNeg) (sz σ) = n.toNatClampNeg := if_pos rfl
  refine gW_new (t := k + 12) hW ?_ (by rw [hz]; exact z1) (by rw [hz]; exact o1)
  have hc : cA = cy k := by
    rcases hk with ⟨rfl, rfl⟩ | ⟨rfl, rfl⟩ | ⟨rfl, rfl⟩
    · obtain ⟨kA', comp', g1, g2, g3, g4⟩ := (hK.2 3 _ rfl).2
      exact Option.some.inj (f1.symm.trans g4)
    · obtain ⟨kA', comp', g1, g2, g3, g4⟩ := (hK.2 4 _ rfl).2
      exact Option.some.inj (f1.symm.trans g4)
    · obtain ⟨kA', comp', g1, g2, g3, g4⟩ := (hK.2 5 _ rfl).2
      exact Option.some.inj (f1.symm.trans g4)
  have hg3 : gar (nw σ (k + 12 + 1) n.toNatClampNeg) (sz σ) (k + 12 - 12) = .inr (.inr (.inr (.inr (aR (nw σ (k + 13) n.toNatClampNeg) (sz σ))))) := by
    rcases hk with ⟨-, rfl⟩ | ⟨-, rfl⟩ | ⟨-, rfl⟩ <;> rfl
  rw [gE_arr (by omega), hz, hg3, h1]
  show H1[sz σ]? = some (vp_cell (cy (k + 12 - 12)) (ln (nw σ (k + 12 + 1) n.toNatClampNeg) (sz σ), .inr (.inr (.inr (.inr (fun _ => none))))))
  rw [Nat.add_sub_cancel, ← hc, vp_cell_q]
  show H1[sz σ]? = some (arrV cA (ln (nw σ (k + 13) n.toNatClampNeg) (sz σ)) _)
  rw [h3]
  exact e1
-- references
theorem gx_ifnull (hx : p.tables.exec = Jvm.exec) (hb : c.code = cc) {o : Option Nat} {off : Int} {tgt : Nat} (hdg : decode cc pc = .ok (.ifnull off, 3)) (ht : (pc : Int) + off = (tgt : Int)) (kt : o = none → W p l e R s m args below meth c H locs cells slots Q (F0 m tgt ls rest)) (kf : ¬ o = none → W p l e R s m args below meth c H locs cells slots Q (F0 m (pc + 3) ls rest)) : W p l e R s m args below meth c H locs cells slots Q (F0 m pc ls (va_rf o :: rest)) := by
  cases o with
  | none => exact lv_ifnullN hx hb hdg ht (kt rfl)
  | some a => exact lv_ifnull hx hb hdg (kf (fun h => by cases h))
theorem gx_ifnonnull (hx : p.tables.exec = Jvm.exec) (hb : c.code = cc) {o : Option Nat} {off : Int} {tgt : Nat} (hdg : decode cc pc = .ok (.ifnonnull off, 3)) (ht : (pc : Int) + off = (tgt : Int)) (kt : ¬ o = none → W p l e R s m args below meth c H locs cells slots Q (F0 m tgt ls rest)) (kf : o = none → W p l e R s m args below meth c H locs cells slots Q (F0 m (pc + 3) ls rest)) : W p l e R s m args below meth c H locs cells slots Q (F0 m pc ls (va_rf o :: rest)) := by
  cases o with
  | none => exact lv_ifnonnullN hx hb hdg (kf rfl)
  | some a => exact lv_ifnonnull hx hb hdg ht (kt (fun h => by cases h))
theorem gx_null (hx : p.tables.exec = Jvm.exec) (hb : c.code = cc) (hdg : decode cc pc = .ok (.aconst_null, 1)) (k : W p l e R s m args below meth c H locs cells slots Q (F0 m (pc + 1) ls (va_rf none :: rest))) : W p l e R s m args below meth c H locs cells slots Q (F0 m pc ls rest) := lv_null hx hb hdg k
theorem gx_aload_n (hx : p.tables.exec = Jvm.exec) (hb : c.code = cc) {k : Fin 4} {i : Nat} {o : Option Nat} (hdg : decode cc pc = .ok (.aload_n k, 1)) (hi : (k : Nat) = i) (hl : ls[i]? = some (.val (va_rf o))) (kk : W p l e R s m args below meth c H locs cells slots Q (F0 m (pc + 1) ls (va_rf o :: rest))) : W p l e R s m args below meth c H locs cells slots Q (F0 m pc ls rest) := by
  cases o with
  | none => exact lv_aload_nN hx hb hdg hi hl kk
  | some a => exact lv_aload_n hx hb hdg hi hl kk
theorem gx_aload (hx : p.tables.exec = Jvm.exec) (hb : c.code = cc) {i : Nat} {o : Option Nat} (hdg : decode cc pc = .ok (.aload i, 2)) (hl : ls[i]? = some (.val (va_rf o))) (kk : W p l e R s m args below meth c H locs cells slots Q (F0 m (pc + 2) ls (va_rf o :: rest))) : W p l e R s m args below meth c H locs cells slots Q (F0 m pc ls rest) := by
  cases o with
  | none => exact lv_aloadN hx hb hdg hl kk
  | some a => exact lv_aload hx hb hdg hl kk
theorem gx_astore_n (hx : p.tables.exec = Jvm.exec) (hb : c.code = cc) {k : Fin 4} {i nL : Nat} {o : Option Nat} {lv lv' : List (Nat × Value)} (hdg : decode cc pc = .ok (.astore_n k, 1)) (hi : (k : Nat) = i) (h : lv_has ls nL lv) (hn : i < nL) (hl : (i, va_rf o) :: lv.filter (fun q => !(q.1 == i) && !(q.1 + 1 == i && q.2.category == 2)) = lv')
    (kk : ∀ ls' : Array Slot, lv_has ls' nL lv' → W p l e R s m args below meth c H locs cells slots Q (F0 m (pc + 1) ls' rest)) : W p l e R s m args below meth c H locs cells slots Q (F0 m pc ls (va_rf o :: rest)) := by
  cases o with
  | none => exact lv_astore_nN hx hb hdg hi h hn hl kk
  | some a => exact lv_astore_n hx hb hdg hi h hn hl kk
theorem gx_astore (hx : p.tables.exec = Jvm.exec) (hb : c.code = cc) {i nL : Nat} {o : Option Nat} {lv lv' : List (Nat × Value)} (hdg : decode cc pc = .ok (.astore i, 2)) (h : lv_has ls nL lv) (hn : i < nL) (hl : (i, va_rf o) :: lv.filter (fun q => !(q.1 == i) && !(q.1 + 1 == i && q.2.category == 2)) = lv')
    (kk : ∀ ls' : Array Slot, lv_has ls' nL lv' → W p l e R s m args below meth c H locs cells slots Q (F0 m (pc + 2) ls' rest)) : W p l e R s m args below meth c H locs cells slots Q (F0 m pc ls (va_rf o :: rest)) := by
  cases o with
  | none => exact lv_astoreN hx hb hdg h hn hl kk
  | some a => exact lv_astore hx hb hdg h hn hl kk
-- calls
theorem gA_sub {σ0 : Sg} (hW : gW D cy (gA σ0) M H0 σ H locs) : ∀ q, gA σ q → gA σ0 q := by
  intro q hq
  rcases hq with h | h
  · exact hW.2.2.2.1 q h
  · exact hW.2.2.2.2.1 q (by have := hW.2.2.1.1; have := hW.2.1; omega)
theorem gx_pre (C : gC p s m args meth c D cy cc nL own ret nm) (hW : gW D cy A M H0 σ H locs) {av : List Value} : ∀ U : State, U.heap = H → s.WarmedH U.vm → gPc D cy av σ av.toArray U := by
  intro U hU hWm
  obtain ⟨hx, hb, hml, hown, hts, hlk, hK, hX, hr, hnm⟩ := C
  exact ⟨rfl, ⟨by rw [hU]; exact hW.1, by rw [hU]; exact hW.2.1⟩, va_K.moved hWm.alike hK, gX_moved hWm hX⟩
theorem gx_cB (C : gC p s m args meth c D cy cc nL own ret nm) {index n mc ms : Nat} {y : MethodName} {bytes : ByteArray} {maxL : Nat} {ret' : Option FieldType} {rm : Room} (h : gM own index y bytes maxL ret' n) (hrc : rm.cells = mc) (hrs : rm.slots = ms) (hR : rm.frames + 1 ≤ R.frames ∧ 8 + (maxL + 11) + rm.locals ≤ R.locals) : CallB R s args own index y bytes maxL ret' (.code y bytes maxL ret' :: wsL_law) rm mc ms n := by
  obtain ⟨hx, hb, hml, hown, hts, hlk, hK, hX, hr, hnm⟩ := C
  exact callB_of n hts (gIn h.2.2.1) rfl hrc hrs (hts _ h.2.1) (hts _ h.1) h.2.2.2 hR
theorem gx_fix (C : gC p s m args meth c D cy cc nL own ret nm) : CallFix p m c cc nL s args wsL_law own := ⟨C.1, C.2.1, C.2.2.1, C.2.2.2.1, C.2.2.2.2.1⟩
theorem gx_rV (C : gC p s m args meth c D cy cc nL own ret nm) (hW : gW D cy A M H0 σ H locs) {index n mc ms ci N b : Nat} {Cy : String} {T : u_T} {y : MethodName} {bytes : ByteArray} {maxL : Nat} {ret' : Option FieldType} {rm : Room} {Qc : Array Value → State → Outcome → State → Prop} {o : Option Nat} {As : List Value} (h : gMV own index Cy y bytes maxL ret' n) (hM : Met l y (.code y bytes maxL ret' :: wsL_law) rm (gPc D cy (va_rf (some b) :: As) σ) Qc mc ms (gA σ)) (hrc : rm.cells = mc) (hrs : rm.slots = ms) (hR : rm.frames + 1 ≤ R.frames ∧ 8 + (maxL + 11) + rm.locals ≤ R.locals) (ho : o = some b) (htb : tg σ b = ci + 1) (hci : ci < 12) (hcl : vwCl[ci]? = some (Cy, T, N)) (hn : As.length = n) (hsize : ls.size = nL) (hst : st = As.reverse ++ va_rf o :: rest) (hrest : (rest.map fun v => v.category).sum ≤ 8) (hdg : decode cc pc = .ok (.invokevirtual index, 3)) (hf : cells + mc ≤ R.cells ∧ slots + ms ≤ R.slots) :
    va_Run p l e R s m args below meth c H locs cells slots mc ms (F0 m pc ls st) rest (Qc (va_rf (some b) :: As).toArray) (gA σ) := by
  subst ho
  have hat := gW_H hW htb
  rw [gE_obj hci] at hat
  obtain ⟨q', h1, cell, g1, g2, g3, -⟩ := hat
  have hq : q' = (Cy, T, N) := Option.some.inj (h1.symm.trans hcl)
  subst hq
  have hts := C.2.2.2.2.1
  have hK := C.2.2.2.2.2.2.1
  exact va_runV (gx_fix C) hM ⟨gx_cB C h.1 hrc hrs hR, hts _ h.2.1, hts _ h.2.2⟩ ⟨gPc_blind, ⟨cell, g1, by rw [g3]; rfl, by rw [g2]; exact (hK.1 ci _ hcl).2.1⟩, gx_pre C hW⟩ rfl hn hsize hst (lv_room hrest) hdg hf
theorem gx_rS (C : gC p s m args meth c D cy cc nL own ret nm) (hW : gW D cy A M H0 σ H locs) {index n mc ms : Nat} {y : MethodName} {bytes : ByteArray} {maxL : Nat} {ret' : Option FieldType} {rm : Room} {Qc : Array Value → State → Outcome → State → Prop} {As : List Value} (h : gMS own index y bytes maxL ret' n) (hM : Met l y (.code y bytes maxL ret' :: wsL_law) rm (gPc D cy As σ) Qc mc ms (gA σ)) (hrc : rm.cells = mc) (hrs : rm.slots = ms) (hR : rm.frames + 1 ≤ R.frames ∧ 8 + (maxL + 11) + rm.locals ≤ R.locals) (hn : As.length = n) (hsize : ls.size = nL) (hst : st = As.reverse ++ rest) (hrest : (rest.map fun v => v.category).sum ≤ 8) (hdg : decode cc pc = .ok (.invokestatic index, 3)) (hf : cells + mc ≤ R.cells ∧ slots + ms ≤ R.slots) :
    va_Run p l e R s m args below meth c H locs cells slots mc ms (F0 m pc ls st) rest (Qc As.toArray) (gA σ) :=
  va_runS (gx_fix C) hM ⟨gx_cB C h.1 hrc hrs hR, C.2.2.2.2.1 _ h.2⟩ ⟨gPc_blind, gx_pre C hW⟩ rfl hn hsize hst (lv_room hrest) hdg hf
theorem gx_rI (C : gC p s m args meth c D cy cc nL own ret nm) (hW : gW D cy A M H0 σ H locs) {index n mc ms b : Nat} {y : MethodName} {bytes : ByteArray} {maxL : Nat} {rm : Room} {Qc : Array Value → State → Outcome → State → Prop} {o : Option Nat} {As : List Value} (h : gMI own index y bytes maxL n) (hM : Met l y (.code y bytes maxL none :: wsL_law) rm (gPc D cy (va_rf (some b) :: As) σ) Qc mc ms (gA σ)) (hrc : rm.cells = mc) (hrs : rm.slots = ms) (hR : rm.frames + 1 ≤ R.frames ∧ 8 + (maxL + 11) + rm.locals ≤ R.locals) (ho : o = some b) (hn : As.length = n) (hsize : ls.size = nL) (hst : st = As.reverse ++ va_rf o :: rest) (hrest : (rest.map fun v => v.category).sum ≤ 8) (hdg : decode cc pc = .ok (.invokespecial index, 3)) (hf : cells + mc ≤ R.cells ∧ slots + ms ≤ R.slots) :
    va_Run p l e R s m args below meth c H locs cells slots mc ms (F0 m pc ls st) rest (Qc (va_rf (some b) :: As).toArray) (gA σ) := by
  subst ho
  exact va_runI (gx_fix C) hM ⟨gx_cB C h.1 hrc hrs hR, h.2.1, C.2.2.2.2.1 _ h.2.2⟩ ⟨gPc_blind, gx_pre C hW⟩ rfl hn hsize hst (lv_room hrest) hdg hf
theorem gx_rN (C : gC p s m args meth c D cy cc nL own ret nm) (hW : gW D cy A M H0 σ H locs) {index n mc ms b : Nat} {host : String} {y : MethodName} {bytes : ByteArray} {maxL : Nat} {rm : Room} {Qc : Array Value → State → Outcome → State → Prop} {o : Option Nat} {As : List Value} (h : gMN own index y bytes maxL n) (hnest : va_Nw (.methodLinkNest own index y host) s) (hM : Met l y (.code y bytes maxL none :: wsL_law) rm (gPc D cy (va_rf (some b) :: As) σ) Qc mc ms (gA σ)) (hrc : rm.cells = mc) (hrs : rm.slots = ms) (hR : rm.frames + 1 ≤ R.frames ∧ 8 + (maxL + 11) + rm.locals ≤ R.locals) (ho : o = some b) (hn : As.length = n) (hsize : ls.size = nL) (hst : st = As.reverse ++ va_rf o :: rest) (hrest : (rest.map fun v => v.category).sum ≤ 8) (hdg : decode cc pc = .ok (.invokespecial index, 3)) (hf : cells + mc ≤ R.cells ∧ slots + ms ≤ R.slots) :
    va_Run p l e R s m args below meth c H locs cells slots mc ms (F0 m pc ls st) rest (Qc (va_rf (some b) :: As).toArray) (gA σ) := by
  subst ho
  have hts := C.2.2.2.2.1
  exact va_runIN (gx_fix C) hM ⟨va_cnB n hts (gIn h.2.1) rfl hrc hrs hnest (hts _ h.1) h.2.2.1 hR, h.2.2.2.1, hts _ h.2.2.2.2⟩ ⟨gPc_blind, gx_pre C hW⟩ rfl hn hsize hst (lv_room hrest) hdg hf
theorem gW_back {σ1 : Sg} {t : State} {H1 : Heap} {locs1 : List Loc} (hW : gW D cy A M H0 σ H locs) (hA : ∀ q, gA σ q → A q) (ht : t.heap = H1) (hB : gB D cy σ σ1 t) (hS : va_S A H0 H1 locs1) : gW D cy A M H0 σ1 H1 locs1 := by
  obtain ⟨h1, h2, h3, h4⟩ := hB
  rw [ht] at h1 h2
  exact ⟨h1, h2, hS, fun q hq => hA q (h3 q hq), hW.2.2.2.2.1, fun q t hq => h4 q t (hW.2.2.2.2.2 q t hq)⟩
theorem gA_up (hW : gW D cy A M H0 σ H locs) : ∀ q, gA σ q → A q := by
  intro q hq
  rcases hq with h | h
  · exact hW.2.2.2.1 q h
  · exact hW.2.2.2.2.1 q (by have := hW.2.2.1.1; have := hW.2.1; omega)
variable {mc ms : Nat} {a0 : Array Value} {rest st : List Value}
theorem gx_ci {post : Int32 → Sg → Prop} (hr : va_Run p l e R s m args below meth c H locs cells slots mc ms (F0 m pc ls st) rest (va_Qi post (gB D cy σ) (gA σ) a0) (gA σ)) (hW : gW D cy A M H0 σ H locs)
    (kk : ∀ (r : Int32) (σ1 : Sg) (H1 : Heap) (locs1 : List Loc), gW D cy A M H0 σ1 H1 locs1 → (∀ q t, tg σ q = t + 1 → tg σ1 q = t + 1) → post r σ1 → W p l e R s m args below meth c H1 locs1 (cells + mc) (slots + ms) Q (F0 m (pc + 3) ls (.int r :: rest))) : W p l e R s m args below meth c H locs cells slots Q (F0 m pc ls st) :=
  va_calli hr hW.2.2.1 (fun q _ h => gA_up hW q h) (gA_up hW) (fun r σ1 t H1 locs1 ht hvm hp hB hz1 hk1 hS => kk r σ1 H1 locs1 (gW_back hW (gA_up hW) ht hB hS) hB.2.2.2 hp)
theorem gx_cl {post : Int64 → Sg → Prop} (hr : va_Run p l e R s m args below meth c H locs cells slots mc ms (F0 m pc ls st) rest (va_Ql post (gB D cy σ) (gA σ) a0) (gA σ)) (hW : gW D cy A M H0 σ H locs)
    (kk : ∀ (r : Int64) (σ1 : Sg) (H1 : Heap) (locs1 : List Loc), gW D cy A M H0 σ1 H1 locs1 → (∀ q t, tg σ q = t + 1 → tg σ1 q = t + 1) → post r σ1 → W p l e R s m args below meth c H1 locs1 (cells + mc) (slots + ms) Q (F0 m (pc + 3) ls (.long r :: rest))) : W p l e R s m args below meth c H locs cells slots Q (F0 m pc ls st) :=
  va_calll hr hW.2.2.1 (fun q _ h => gA_up hW q h) (gA_up hW) (fun r σ1 t H1 locs1 ht hvm hp hB hz1 hk1 hS => kk r σ1 H1 locs1 (gW_back hW (gA_up hW) ht hB hS) hB.2.2.2 hp)
theorem gx_cq {post : Option Nat → Sg → Prop} (hr : va_Run p l e R s m args below meth c H locs cells slots mc ms (F0 m pc ls st) rest (va_Qq post (gB D cy σ) (gA σ) a0) (gA σ)) (hW : gW D cy A M H0 σ H locs)
    (kk : ∀ (r : Option Nat) (σ1 : Sg) (H1 : Heap) (locs1 : List Loc), gW D cy A M H0 σ1 H1 locs1 → (∀ q t, tg σ q = t + 1 → tg σ1 q = t + 1) → post r σ1 → W p l e R s m args below meth c H1 locs1 (cells + mc) (slots + ms) Q (F0 m (pc + 3) ls (va_rf r :: rest))) : W p l e R s m args below meth c H locs cells slots Q (F0 m pc ls st) :=
  va_callq hr hW.2.2.1 (fun q _ h => gA_up hW q h) (gA_up hW) (fun r σ1 t H1 locs1 ht hvm hp hB hz1 hk1 hS => kk r σ1 H1 locs1 (gW_back hW (gA_up hW) ht hB hS) hB.2.2.2 hp)
theorem gx_cv {post : Sg → Prop} (hr : va_Run p l e R s m args below meth c H locs cells slots mc ms (F0 m pc ls st) rest (va_Qv post (gB D cy σ) (gA σ) a0) (gA σ)) (hW : gW D cy A M H0 σ H locs)
    (kk : ∀ (σ1 : Sg) (H1 : Heap) (locs1 : List Loc), gW D cy A M H0 σ1 H1 locs1 → (∀ q t, tg σ q = t + 1 → tg σ1 q = t + 1) → post σ1 → W p l e R s m args below meth c H1 locs1 (cells + mc) (slots + ms) Q (F0 m (pc + 3) ls rest)) : W p l e R s m args below meth c H locs cells slots Q (F0 m pc ls st) :=
  va_callv hr hW.2.2.1 (fun q _ h => gA_up hW q h) (gA_up hW) (fun σ1 t H1 locs1 ht hvm hp hB hz1 hk1 hS => kk σ1 H1 locs1 (gW_back hW (gA_up hW) ht hB hS) hB.2.2.2 hp)
-- ends
variable {σ0 : Sg}
theorem gB_of {t : State} (hW : gW D cy (gA σ0) (tg σ0) s.heap σ H locs) (ht : t.heap = H) : gB D cy σ0 σ t := ⟨by rw [ht]; exact hW.1, by rw [ht]; exact hW.2.1, hW.2.2.2.1, hW.2.2.2.2.2⟩
theorem gx_iret {post : Int32 → Sg → Prop} {v : Int32} {ft : FieldType} (C : gC p s m args meth c D cy cc nL own (some ft) nm) (hW : gW D cy (gA σ0) (tg σ0) s.heap σ H locs) (hc : cells ≤ mc) (hs : slots ≤ ms) (hn : narrow ft (.int v) = .int v) (hq : post v σ) (hdg : decode cc pc = .ok (.ireturn, 1)) :
    W p l e R s m args below meth c H locs cells slots (MQ below (va_Qi post (gB D cy σ0) (gA σ0)) args s mc ms (gA σ0)) (F0 m pc ls [.int v]) := by
  obtain ⟨hx, hb, hml, hown, hts, hlk, hK, hX, hr, hnm⟩ := C
  refine W.widen (k := mc) (n := ms) hc hs ?_
  exact W.zret hx hb hr hn (fun t ht _ => ⟨⟨v, σ, rfl, hq, gB_of hW ht⟩, hW.2.2.1.F ht⟩) hW.2.2.1.2.2 hdg hlk
theorem gx_lret {post : Int64 → Sg → Prop} {v : Int64} (C : gC p s m args meth c D cy cc nL own (some .long) nm) (hW : gW D cy (gA σ0) (tg σ0) s.heap σ H locs) (hc : cells ≤ mc) (hs : slots ≤ ms) (hq : post v σ) (hdg : decode cc pc = .ok (.lreturn, 1)) :
    W p l e R s m args below meth c H locs cells slots (MQ below (va_Ql post (gB D cy σ0) (gA σ0)) args s mc ms (gA σ0)) (F0 m pc ls [.long v]) := by
  obtain ⟨hx, hb, hml, hown, hts, hlk, hK, hX, hr, hnm⟩ := C
  refine W.widen (k := mc) (n := ms) hc hs ?_
  exact W.lret hx hb hr (fun t ht _ => ⟨⟨v, σ, rfl, hq, gB_of hW ht⟩, hW.2.2.1.F ht⟩) hW.2.2.1.2.2 hdg hlk
theorem gx_vret {post : Sg → Prop} (C : gC p s m args meth c D cy cc nL own none nm) (hW : gW D cy (gA σ0) (tg σ0) s.heap σ H locs) (hc : cells ≤ mc) (hs : slots ≤ ms) (hq : post σ) (hdg : decode cc pc = .ok (.return_, 1)) :
    W p l e R s m args below meth c H locs cells slots (MQ below (va_Qv post (gB D cy σ0) (gA σ0)) args s mc ms (gA σ0)) (F0 m pc ls []) := by
  obtain ⟨hx, hb, hml, hown, hts, hlk, hK, hX, hr, hnm⟩ := C
  refine W.widen (k := mc) (n := ms) hc hs ?_
  exact W.vret hx hb hr (fun t ht _ => ⟨⟨σ, rfl, hq, gB_of hW ht⟩, hW.2.2.1.F ht⟩) hW.2.2.1.2.2 hdg hlk
theorem gx_aret {post : Option Nat → Sg → Prop} {o : Option Nat} {Cn : String} (C : gC p s m args meth c D cy cc nL own (some (.object Cn)) nm) (hW : gW D cy (gA σ0) (tg σ0) s.heap σ H locs) (hc : cells ≤ mc) (hs : slots ≤ ms) (hq : post o σ) (hdg : decode cc pc = .ok (.areturn, 1)) :
    W p l e R s m args below meth c H locs cells slots (MQ below (va_Qq post (gB D cy σ0) (gA σ0)) args s mc ms (gA σ0)) (F0 m pc ls [va_rf o]) := by
  obtain ⟨hx, hb, hml, hown, hts, hlk, hK, hX, hr, hnm⟩ := C
  refine W.widen (k := mc) (n := ms) hc hs ?_
  exact W.aret hx hb hr (Or.inl ⟨_, rfl⟩) (va_rf_or o) (fun t ht _ => ⟨⟨o, σ, rfl, hq, gB_of hW ht⟩, hW.2.2.1.F ht⟩) hW.2.2.1.2.2 hdg hlk
theorem gx_objInit (C : gC p s m args meth c D cy cc nL own ret nm) {index a : Nat} {o : Option Nat} (hl : Cond.methodLink own index objectInit ∈ wsL_law) (hi : Cond.instanceMethod objectInit ∈ wsL_law) (hcd : Cond.code objectInit ⟨#[0xb1]⟩ 1 none ∈ wsL_law) (ho : o = some a) (hsize : ls.size = nL) (hdg : decode cc pc = .ok (.invokespecial index, 3)) (hfr : 1 ≤ R.frames) (hloc : 20 ≤ R.locals) (hrest : rest.length ≤ 4)
    (kk : W p l e R s m args below meth c H locs cells slots Q (F0 m (pc + 3) ls rest)) : W p l e R s m args below meth c H locs cells slots Q (F0 m pc ls (va_rf o :: rest)) := by
  obtain ⟨hx, hb, hml, hown, hts, hlk, hK, hX, hr, hnm⟩ := C
  subst ho
  have h8 := gx_room (m := m) (pc := pc) (ls := ls) (s0 := va_rf (some a) :: rest) hrest
  exact W.objInit hx hb hown (hts _ hl) (hts _ hi) (hts _ hcd) rfl (by rw [hml]; exact hsize) rfl hdg hfr (by omega) kk
theorem gx_met {y : MethodName} {rm : Room} {av : List Value} {Qc : Array Value → State → Outcome → State → Prop} {maxL : Nat} (hy : plainName y.cls = true) (hlen : (lg_sl av).length ≤ maxL)
    (body : ∀ (p : Program) (e : Env) (s : State) (m : MethodId) (args : Array Value) (below : List Frame) (meth : Method) (c : Code) (ls : Array Slot), gC p s m args meth c D cy cc maxL y.cls ret y.name → gW D cy (gA σ) (tg σ) s.heap σ s.heap [] → lv_has ls maxL (lv_args 0 av) →
      W p l e rm s m args below meth c s.heap [] 0 0 (MQ below Qc args s mc ms (gA σ)) (F0 m 0 ls [])) : Met l y (.code y cc maxL ret :: wsL_law) rm (gPc D cy av σ) Qc mc ms (gA σ) := by
  refine Met.ofW (cc := cc) (maxL := maxL) (ret := ret) hy rfl ?_
  intro p e s m args below meth c s₁ B hml hv
  obtain ⟨rfl, ⟨hH, hz⟩, hK, hX⟩ := hv
  have hts := atoms_spec (ws := .code y cc maxL ret :: wsL_law) B.pre
  have hown : s.vm.findClass y.cls = some m.cls := findClass_of_methodNamed B.named
  have hin : meth.name = y.name := (name_of_methodNamed B.named B.method).1
  have hl := lv_entry av (n := maxL) hlen
  rw [lg_entry_eq]
  exact body p e s m av.toArray below meth c _ ⟨B.exec, B.bytes, hml, hown, fun w hw => hts w (List.mem_cons_of_mem _ hw), B.notSynchronized, hK, hX, B.returns, hin⟩ ⟨hH, hz, va_S.rf, fun q hq => Or.inl hq, fun q hq => Or.inr (by rw [← hz]; exact hq), fun _ _ h => h⟩ hl
theorem gx_topr {o : Option Nat} (k : ∀ y : Option Nat, y = o → W p l e R s m args below meth c H locs cells slots Q (F0 m pc ls (va_rf y :: rest))) : W p l e R s m args below meth c H locs cells slots Q (F0 m pc ls (va_rf o :: rest)) := k o rfl
theorem gx_mmax (C : gC p s m args meth c D cy cc nL own ret nm) {index : Nat} (hl : Cond.methodLink own index Lib.Math.max.name ∈ wsL_law) (hs : Cond.static Lib.Math.max.name ∈ wsL_law) (hi : Cond.initialized "java/lang/Math" ∈ wsL_law) (hcd : Cond.code Lib.Math.max.name Lib.Math.max.code 2 (some .int) ∈ wsL_law) (hsize : ls.size = nL) (hfr : 1 ≤ R.frames) (hloc : 21 ≤ R.locals) (hc : cells ≤ R.cells) (hs2 : slots ≤ R.slots) (hrest : rest.length ≤ 4) {x y : Int32} (hdg : decode cc pc = .ok (.invokestatic index, 3))
    (kk : W p l e R s m args below meth c H locs cells slots Q (F0 m (pc + 3) ls (.int (if x < y then y else x) :: rest))) : W p l e R s m args below meth c H locs cells slots Q (F0 m pc ls (.int y :: .int x :: rest)) := by
  obtain ⟨hx, hb, hml, hown, hts, hlk, hK, hX, hr, hnm⟩ := C
  have h8 := gx_room0 (n := 4) hrest
  exact va_mmax hx hb (by rw [hml, hsize]) hown (hts _ hl) (hts _ hs) (hts _ hi) (hts _ hcd) hfr (by omega) hc hs2 hdg kk
theorem gx_tdef (hx : p.tables.exec = Jvm.exec) (hb : c.code = cc) {dflt lo hi : Int} {offs : Array Int} {len n tgt : Nat} {x : Int32} (hdg : decode cc pc = .ok (.tableswitch dflt lo hi offs, len)) (ht : (pc : Int) + dflt = (tgt : Int)) (hn : hi = lo + (n : Int) - 1) (hg : ∀ j : Nat, j < n → x.toInt = lo + (j : Int) → offs[j]? = some dflt)
    (k : W p l e R s m args below meth c H locs cells slots Q (F0 m tgt ls rest)) : W p l e R s m args below meth c H locs cells slots Q (F0 m pc ls (.int x :: rest)) := by
  by_cases h1 : x.toInt < lo
  · exact lv_tableOut hx hb hdg (Or.inl h1) ht k
  · by_cases h2 : hi < x.toInt
    · exact lv_tableOut hx hb hdg (Or.inr h2) ht k
    · have e1 : ((x.toInt - lo).toNat : Int) = x.toInt - lo := Int.toNat_of_nonneg (by omega)
      exact lv_tableIn hx hb hdg h1 h2 (hg (x.toInt - lo).toNat (by omega) (by omega)) ht k
end GX
theorem tb_ne {x c : Int32} {z : Int} {P : Prop} (h : ¬ x = c) (hc : c.toInt = z) (hx : x.toInt = z) : P := absurd (Int32.toInt_inj.mp (hx.trans hc.symm)) h
theorem tb_nei {x c : Int32} {z : Int} (h : ¬ x = c) (hc : c.toInt = z) : ¬ z = x.toInt := fun e => h (Int32.toInt_inj.mp (e.symm.trans hc.symm))
theorem w_t {c : Prop} {dc : Decidable c} {A B : Prop} (h : @ite Prop c dc A B) (hc : c) : A := by rwa [if_pos hc] at h
theorem w_f {c : Prop} {dc : Decidable c} {A B : Prop} (h : @ite Prop c dc A B) (hc : ¬ c) : B := by rwa [if_neg hc] at h
theorem bz_n {x : Int32} (h : x = 0 ∨ x = 1) : narrow .boolean (.int x) = .int x := by rcases h with rfl | rfl <;> rfl
theorem bz_f {x : Int32} (h : x = 0 ∨ x = 1) : fits .boolean (.int x) = true := by rcases h with rfl | rfl <;> rfl
