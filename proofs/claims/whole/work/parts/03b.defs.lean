/-- of a class by its number: its fields -/
def fT (t : Nat) : u_T := ((vwCl[t]?).map (fun q => q.2.1)).getD TX0
/-- what the tables say of a field's link -/
def FL (own : String) (idx t i : Nat) : Prop := Cond.fieldLink own idx (fT t i).1 (fT t i).2.1 (fT t i).2.2.1 ∈ TB ∨ ∃ host, Cond.fieldLinkNest own idx (fT t i).1 (fT t i).2.1 (fT t i).2.2.1 host ∈ NB
/-- what the tables say of a class: its name, its fields' words, types, names -/
def CK (t : Nat) : Prop := ∃ (C : String) (T : u_T) (N : Nat) (ty : Nat → FieldType), vwCl[t]? = some (C, T, N) ∧ N = nf t ∧ (∀ w ∈ u_ws C T N, w ∈ TB) ∧ (∀ k, k < N → parseFieldDescriptor (T k).2.2.1 = some (ty k)) ∧ (∀ a, a < N → ∀ b, b < N → a ≠ b → (T a).2.1 ≠ (T b).2.1) ∧ T = fT t
/-- what the tables say of a method that is called: by an object, or static -/
def YV (y : MethodName) (cc2 : ByteArray) (maxL : Nat) (ret : Option FieldType) (n : Nat) : Prop := Cond.code y cc2 maxL ret ∈ TB ∧ Cond.instanceMethod y ∈ TB ∧ Cond.selects y.cls y y ∈ TB ∧ Cond.initialized y.cls ∈ TB ∧ y.cls ≠ "java/lang/invoke/MethodHandle" ∧ y.cls ≠ "java/lang/invoke/VarHandle" ∧ (parseMethodDescriptor y.desc).map (fun d => d.parameters.length) = some n ∧ maxL ≤ 70
def YS (y : MethodName) (cc2 : ByteArray) (maxL : Nat) (ret : Option FieldType) (n : Nat) : Prop := Cond.code y cc2 maxL ret ∈ TB ∧ Cond.static y ∈ TB ∧ Cond.initialized y.cls ∈ TB ∧ y.cls ≠ "java/lang/invoke/MethodHandle" ∧ y.cls ≠ "java/lang/invoke/VarHandle" ∧ (parseMethodDescriptor y.desc).map (fun d => d.parameters.length) = some n ∧ maxL ≤ 70
def ML (own : String) (idx : Nat) (y : MethodName) : Prop := Cond.methodLink own idx y ∈ TB ∨ ∃ host, Cond.methodLinkNest own idx y host ∈ NB
