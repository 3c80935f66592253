/-! the stack of what is open -/
abbrev FrT : Type := Nat × Nat × Option Nat × Nat
def kd (op : Nat → Int32) : Option Nat → Nat := fun o => match o with
  | none => 0
  | some k => if op k = 25 then 1 else if op k = 29 then 2 else if op k = 30 then 3 else 0
def rH (op oc : Nat → Int32) (n r : Nat) : Nat := rE n (mk_l op oc n) r
def rL (op oc : Nat → Int32) (n r : Nat) : Nat := (mk_l op oc n).getD r 0 + 1
/-- where the part at work begins and ends -/
def fS (op oc : Nat → Int32) (n : Nat) (f : FrT) : Nat := match f.2.2.1 with
  | none => rL op oc n f.2.1
  | some k => if kd op (some k) = 0 then rL op oc n f.2.1 else pS (b_at op oc n) k f.2.2.2
def fE (op oc : Nat → Int32) (n : Nat) (f : FrT) : Nat := match f.2.2.1 with
  | none => rH op oc n f.2.1
  | some k => if kd op (some k) = 0 then rH op oc n f.2.1 else pE (rH op oc n f.2.1) (b_at op oc n) k f.2.2.2
/-- what came of a part: the class's words, the reference's words -/
def CV (F : Nat) (fa : Nat → Nat) (cc : Int32) (v : Int64) (o : Option Nat) (wc : Int32) (v' : Int64) (j' : Int32) : Prop :=
  (cc = 1 ∧ wc = 0) ∨ (cc = 2 ∧ wc = 2 ∧ ∃ j, 1 ≤ j ∧ j ≤ F ∧ o = some (fa j) ∧ j' = nI j) ∨ (cc = 3 ∧ wc = 3) ∨ (cc = 4 ∧ wc = 4) ∨ (cc = 5 ∧ wc = 1 ∧ v = v')
def FR1 (x m n : Nat) (st : Nat → Nat) (op oc : Nat → Int32) (F : Nat) (fa : Nat → Nat) (i : Nat) (ar : Option Nat) (f : FrT) (S T : Sg) : Prop :=
  (tg S f.1 = 2 ∧ fR S 65 f.1 = ar ∧ fI S 66 f.1 = nI (rH op oc n f.2.1) ∧ fI S 67 f.1 = nI (fE op oc n f) ∧ fI S 68 f.1 = nI f.2.2.2) ∧
  (f.2.1 < (mk_l op oc n).length ∧ f.2.2.2 ≤ 2 ∧ aI T (m + 20) i = nI (kd op f.2.2.1) ∧ aI T (m + 23) i = nI f.2.2.2 ∧ (f.2.2.2 ≠ 0 → kd op f.2.2.1 = 1)) ∧
  (kd op f.2.2.1 = 0 → aI T (m + 22) i = nI (rH op oc n f.2.1)) ∧
  (f.2.2.1 = none → fR S 64 f.1 = some (x + 14)) ∧
  (∀ k, f.2.2.1 = some k → k < n ∧ fR S 64 f.1 = some (st k) ∧ aI T (m + 21) i = nI k ∧ (op k = 25 ∨ op k = 29 ∨ op k = 30 ∨ op k = 35) ∧ (kd op (some k) ≠ 0 → rL op oc n f.2.1 ≤ k ∧ k < rH op oc n f.2.1) ∧ (f.2.2.2 = 1 → ∃ p, (b_at op oc n).2.1 k = some p) ∧ (f.2.2.2 = 2 → ∃ q, (b_at op oc n).2.2.1 k = some q)) ∧
  (f.2.2.2 = 1 → ∃ j, 1 ≤ j ∧ j ≤ F ∧ fR S 69 f.1 = some (fa j) ∧ aI T (m + 24) i = nI j) ∧
  (f.2.2.2 = 2 → CV F fa (fI S 70 f.1) (fL S 71 f.1) (fR S 72 f.1) (aI T (m + 25) i) (aL T (m + 26) i) (aI T (m + 27) i))
/-- how a frame lies on the one below -/
def lnk (op oc : Nat → Int32) (n : Nat) (f : FrT) : List FrT → Prop
  | [] => f.2.2.1 = none
  | g :: _ => ∃ k, f.2.2.1 = some k ∧ fS op oc n g ≤ k ∧ k < fE op oc n g ∧ (kd op (some k) ≠ 0 → f.2.1 = g.2.1)
def StkR (x m n : Nat) (st : Nat → Nat) (op oc : Nat → Int32) (F : Nat) (fa : Nat → Nat) (S T : Sg) : List FrT → Prop
  | [] => True
  | f :: L => FR1 x m n st op oc F fa L.length (L.head?.map (·.1)) f S T ∧ (∀ g ∈ L, g.1 ≠ f.1) ∧ lnk op oc n f L ∧ StkR x m n st op oc F fa S T L
theorem CV_mono {F F' : Nat} {fa fa' : Nat → Nat} {cc : Int32} {v : Int64} {o : Option Nat} {wc : Int32} {v' : Int64} {j' : Int32} (hF : F ≤ F') (hfa : ∀ j, 1 ≤ j → j ≤ F → fa' j = fa j) (h : CV F fa cc v o wc v' j') : CV F' fa' cc v o wc v' j' := by
  rcases h with h | ⟨h1, h2, j, j1, j2, j3, j4⟩ | h | h | h
  · exact Or.inl h
  · exact Or.inr (Or.inl ⟨h1, h2, j, j1, by omega, by rw [hfa j j1 j2]; exact j3, j4⟩)
  · exact Or.inr (Or.inr (Or.inl h))
  · exact Or.inr (Or.inr (Or.inr (Or.inl h)))
  · exact Or.inr (Or.inr (Or.inr (Or.inr h)))
/-- the class's words of one frame are the same -/
def sameF (q : Nat) (S S' : Sg) : Prop := tg S' q = tg S q ∧ ∀ k, 64 ≤ k → k ≤ 72 → fI S' k q = fI S k q ∧ fL S' k q = fL S k q ∧ fR S' k q = fR S k q
/-- the reference's words of one index are the same -/
def sameT (m i : Nat) (T T' : Sg) : Prop := (∀ k, 20 ≤ k → k ≤ 27 → aI T' (m + k) i = aI T (m + k) i) ∧ aL T' (m + 26) i = aL T (m + 26) i
theorem FR1_keep {x m n : Nat} {st : Nat → Nat} {op oc : Nat → Int32} {F F' : Nat} {fa fa' : Nat → Nat} {i : Nat} {ar : Option Nat} {f : FrT} {S S' T T' : Sg} (hF : F ≤ F') (hfa : ∀ j, 1 ≤ j → j ≤ F → fa' j = fa j) (hs : sameF f.1 S S') (ht : sameT m i T T') (h : FR1 x m n st op oc F fa i ar f S T) : FR1 x m n st op oc F' fa' i ar f S' T' := by
  obtain ⟨s0, s1⟩ := hs
  obtain ⟨t1, t2⟩ := ht
  obtain ⟨⟨a1, a2, a3, a4, a5⟩, ⟨b1, b2, b3, b4, b5⟩, c, d, e, g, k⟩ := h
  have I : ∀ k, 64 ≤ k → k ≤ 72 → fI S' k f.1 = fI S k f.1 := fun k h1 h2 => (s1 k h1 h2).1
  have R : ∀ k, 64 ≤ k → k ≤ 72 → fR S' k f.1 = fR S k f.1 := fun k h1 h2 => (s1 k h1 h2).2.2
  refine ⟨⟨s0.trans a1, (R 65 (by omega) (by omega)).trans a2, (I 66 (by omega) (by omega)).trans a3, (I 67 (by omega) (by omega)).trans a4, (I 68 (by omega) (by omega)).trans a5⟩, ⟨b1, b2, (t1 20 (by omega) (by omega)).trans b3, (t1 23 (by omega) (by omega)).trans b4, b5⟩, fun q => (t1 22 (by omega) (by omega)).trans (c q), fun q => (R 64 (by omega) (by omega)).trans (d q), fun k' hk => ?_, fun q => ?_, fun q => ?_⟩
  · obtain ⟨e1, e2, e3, e4⟩ := e k' hk
    exact ⟨e1, (R 64 (by omega) (by omega)).trans e2, (t1 21 (by omega) (by omega)).trans e3, e4⟩
  · obtain ⟨j, j1, j2, j3, j4⟩ := g q
    exact ⟨j, j1, by omega, by rw [R 69 (by omega) (by omega), hfa j j1 j2]; exact j3, (t1 24 (by omega) (by omega)).trans j4⟩
  · rw [I 70 (by omega) (by omega), (s1 71 (by omega) (by omega)).2.1, R 72 (by omega) (by omega), t1 25 (by omega) (by omega), t2, t1 27 (by omega) (by omega)]
    exact CV_mono hF hfa (k q)
theorem StkR_keep {x m n : Nat} {st : Nat → Nat} {op oc : Nat → Int32} {F F' : Nat} {fa fa' : Nat → Nat} {S S' T T' : Sg} (hF : F ≤ F') (hfa : ∀ j, 1 ≤ j → j ≤ F → fa' j = fa j) : ∀ L : List FrT, (∀ g ∈ L, sameF g.1 S S') → (∀ i, i < L.length → sameT m i T T') → StkR x m n st op oc F fa S T L → StkR x m n st op oc F' fa' S' T' L := by
  intro L
  induction L with
  | nil => exact fun _ _ _ => trivial
  | cons f L ih =>
    intro h1 h2 h
    obtain ⟨q1, q2, q3, q4⟩ := h
    exact ⟨FR1_keep hF hfa (h1 f List.mem_cons_self) (h2 L.length (Nat.lt_succ_self _)) q1, q2, q3, ih (fun g hg => h1 g (List.mem_cons_of_mem _ hg)) (fun i hi => h2 i (Nat.lt_succ_of_lt hi)) q4⟩
theorem StkR_tg {x m n : Nat} {st : Nat → Nat} {op oc : Nat → Int32} {F : Nat} {fa : Nat → Nat} {S T : Sg} : ∀ L : List FrT, StkR x m n st op oc F fa S T L → ∀ g ∈ L, tg S g.1 = 2 := by
  intro L
  induction L with
  | nil => exact fun _ g hg => absurd hg List.not_mem_nil
  | cons f L ih =>
    intro h g hg
    rcases List.mem_cons.mp hg with q | q
    · rw [q]; exact h.1.1.1
    · exact ih h.2.2.2 g q
/-- weights and counts of a stack -/
def wt1 (op : Nat → Int32) (f : FrT) : Nat := if kd op f.2.2.1 = 1 ∧ f.2.2.2 ≤ 1 then 2 else 1
def wtL (op : Nat → Int32) : List FrT → Nat
  | [] => 0
  | f :: L => wt1 op f + wtL op L
def ctL (op : Nat → Int32) : List FrT → Nat
  | [] => 0
  | f :: L => (if kd op f.2.2.1 = 1 ∧ f.2.2.2 ≤ 1 then 1 else 0) + ctL op L
/-- the report and the counters, at the midst of a run -/
def CoR (x m took c : Nat) (S T : Sg) : Prop := fI S 258 (x + 10) = 0 ∧ fL S 259 (x + 10) = 0 ∧ fR S 260 (x + 10) = none ∧ fL T 751 m = 0 ∧ fI T 752 m = 0 ∧
  (∃ o, o ≤ 500 ∧ fI S 261 (x + 10) = nI o ∧ fI T 754 m = nI o ∧ ∀ i, i < o → aL S (x + 11) i = aL T (m + 30) i) ∧
  (∃ q, q + c ≤ took ∧ fI S 262 (x + 10) = nI q ∧ fI T 756 m = nI q ∧ ∀ i, i < q → aI S (x + 12) i = aI T (m + 31) i) ∧ fI S 263 (x + 10) = fI T 758 m ∧ fI S 264 (x + 10) = fI T 757 m
def CoC (x m nn left took d : Nat) (S T : Sg) : Prop := left + took = nn ∧ nn ≤ 1000 ∧ fI S 583 (x + 13) = nI left ∧ fI T 746 m = nI left ∧ fI T 747 m = nI took ∧ fI S 581 (x + 13) = nI d ∧ fI T 737 m = nI d ∧ d ≤ 200
def CoT (x m a nn N took : Nat) (S T : Sg) : Prop := fI S 644 x = nI a ∧ fI T 749 m = nI a ∧ a + nn ≤ 8000 ∧ N ≤ a + took ∧ fI S 645 x = fI T 748 m
def fre (S : Sg) : Prop := ∀ q, tg S q ≠ 0 → q < sz S
/-- all that holds between two turns -/
def Mid (x m n nn a : Nat) (st : Nat → Nat) (op oa ob oc : Nat → Int32) (N : Nat) (th ra rb rc : Nat → Nat) (F : Nat) (fa : Nat → Nat) (L : List FrT) (left took : Nat) (S T : Sg) : Prop :=
  St x m n st op oa ob oc S T ∧ Ho x m N th ra rb rc S T ∧ (RFa m F fa S T ∧ F ≤ took ∧ fI T 745 m = nI F) ∧ CoR x m took (ctL op L) S T ∧ CoC x m nn left took L.length S T ∧ CoT x m a nn N took S T ∧ StkR x m n st op oc F fa S T L ∧ fre S
/-- at work at place p -/
def Wk (x m : Nat) (op oc : Nat → Int32) (n : Nat) (L : List FrT) (p : Nat) (S T : Sg) : Prop := fI S 584 (x + 13) = 0 ∧ fI S 582 (x + 13) = nI p ∧ fI T 738 m = nI p ∧ fI T 739 m = 1 ∧ fR S 580 (x + 13) = L.head?.map (·.1) ∧ ∃ f L', L = f :: L' ∧ fS op oc n f ≤ p ∧ p ≤ fE op oc n f
/-- something came of the top part -/
def Cm (x m F : Nat) (fa : Nat → Nat) (L : List FrT) (S T : Sg) : Prop := CV F fa (fI S 584 (x + 13)) (fL S 585 (x + 13)) (fR S 586 (x + 13)) (fI T 740 m) (fL T 741 m) (fI T 742 m) ∧ fI T 739 m = 1 ∧ fR S 580 (x + 13) = L.head?.map (·.1) ∧ L ≠ []
/-- the run is over -/
def Ov (x m n nn a : Nat) (st : Nat → Nat) (op oa ob oc : Nat → Int32) (left took : Nat) (S T : Sg) : Prop := ∃ N th ra rb rc F fa, St x m n st op oa ob oc S T ∧ Ho x m N th ra rb rc S T ∧ RFa m F fa S T ∧ RRe x m F fa S T ∧ CoT x m a nn N took S T ∧ (left + took = nn ∧ fI S 583 (x + 13) = nI left ∧ fI T 747 m = nI took) ∧ fR S 580 (x + 13) = none ∧ fI T 739 m = 0 ∧ fre S
