/-- the fields of each class: 0 whole numbers, 1 longs, 2 references -/
def fty : Nat → List Nat
  | 0 => [0, 2]
  | 1 => [2, 2, 0, 0, 0, 2, 0, 1, 2]
  | 2 => [2, 0, 0, 0]
  | 3 => [2, 2, 2, 2]
  | 4 => [2, 2, 0, 1, 2, 0, 0, 0, 0]
  | 5 => [0, 2, 2, 0, 0]
  | 6 => [2, 2, 2, 0, 0]
  | 7 => [0, 0, 0, 0, 0, 2, 0, 0, 0]
  | 8 => [0, 1]
  | 9 => [2, 2, 2, 2, 2, 0, 0, 0, 0, 1, 2]
  | 10 => [2, 2, 2, 2, 0, 0]
  | 11 => [2, 2, 2, 2, 0, 2, 2, 2, 2, 2, 2, 2, 0, 2, 2, 2, 2, 0, 2, 2, 2, 0, 0, 0, 2, 2, 2, 2, 2, 2, 2, 2, 2, 0, 0, 0, 0, 1, 0, 2, 2, 0, 0, 0, 0, 0, 0, 1, 0, 2, 0, 2, 0, 0, 0]
  | _ => []
/-! ===== what the tables say of a field, a class, a call, once for each place in the constant pools ===== -/
def gF (own : String) (index ci j ty : Nat) (fin mine : Bool) (ft : FieldType) : Prop := ∃ (Cn : String) (T : u_T) (N : Nat) (ty0 : Nat → FieldType), ci < 12 ∧ vwCl[ci]? = some (Cn, T, N) ∧ (∀ w ∈ u_ws Cn T N, w ∈ wsL_law) ∧ (∀ k, k < N → parseFieldDescriptor (T k).2.2.1 = some (ty0 k)) ∧ (∀ a, a < N → ∀ b, b < N → a ≠ b → (T a).2.1 ≠ (T b).2.1) ∧ j < N ∧ N = (fty ci).length ∧ Cond.fieldLink own index (T j).1 (T j).2.1 (T j).2.2.1 ∈ wsL_law ∧ (fty ci)[j]? = some ty ∧ (T j).2.2.2 = fin ∧ ty0 j = ft ∧ (mine = true → (T j).1 = own)
def gz (t : Nat) : Value := match t with
  | 0 => .int 0
  | 1 => .long 0
  | _ => .null
def gN (own : String) (index ci n : Nat) : Prop := ∃ (Cn : String) (T : u_T) (N : Nat) (ty0 : Nat → FieldType), ci < 12 ∧ vwCl[ci]? = some (Cn, T, N) ∧ (∀ w ∈ u_ws Cn T N, w ∈ wsL_law) ∧ (∀ k, k < N → parseFieldDescriptor (T k).2.2.1 = some (ty0 k)) ∧ Cond.classLink own index Cn ∈ wsL_law ∧ Cond.instantiable Cn N ∈ wsL_law ∧ Cond.initialized Cn ∈ wsL_law ∧ N = n ∧ ∀ j, j < N → ∃ t, (fty ci)[j]? = some t ∧ defaultValue (ty0 j) = gz t
def gM (own : String) (index : Nat) (y : MethodName) (bytes : ByteArray) (maxL : Nat) (ret : Option FieldType) (n : Nat) : Prop := Cond.methodLink own index y ∈ wsL_law ∧ Cond.initialized y.cls ∈ wsL_law ∧ Cond.code y bytes maxL ret ∈ wsL_law ∧ (y.cls ≠ "java/lang/invoke/MethodHandle" ∧ y.cls ≠ "java/lang/invoke/VarHandle" ∧ (parseMethodDescriptor y.desc).map (fun d => d.parameters.length) = some n)
def gMV (own : String) (index : Nat) (C : String) (y : MethodName) (bytes : ByteArray) (maxL : Nat) (ret : Option FieldType) (n : Nat) : Prop := gM own index y bytes maxL ret n ∧ Cond.instanceMethod y ∈ wsL_law ∧ Cond.selects C y y ∈ wsL_law
def gMS (own : String) (index : Nat) (y : MethodName) (bytes : ByteArray) (maxL : Nat) (ret : Option FieldType) (n : Nat) : Prop := gM own index y bytes maxL ret n ∧ Cond.static y ∈ wsL_law
def gMI (own : String) (index : Nat) (y : MethodName) (bytes : ByteArray) (maxL : Nat) (n : Nat) : Prop := gM own index y bytes maxL none n ∧ y.name = "<init>" ∧ Cond.instanceMethod y ∈ wsL_law
def gMN (own : String) (index : Nat) (y : MethodName) (bytes : ByteArray) (maxL : Nat) (n : Nat) : Prop := Cond.initialized y.cls ∈ wsL_law ∧ Cond.code y bytes maxL none ∈ wsL_law ∧ (y.cls ≠ "java/lang/invoke/MethodHandle" ∧ y.cls ≠ "java/lang/invoke/VarHandle" ∧ (parseMethodDescriptor y.desc).map (fun d => d.parameters.length) = some n) ∧ y.name = "<init>" ∧ Cond.instanceMethod y ∈ wsL_law
