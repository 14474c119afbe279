/-! the law's body: a relation and a walk for each call (written by a program of mine) -/
theorem k925_initialized : Cond.initialized "HelpFileLaw" ∈ ga := ga_t 0 (by decide +kernel) rfl
abbrev LX : Type := Int32 → Nat → Nat → Bool → Int32 → Int32 → (Nat → Int32) → Int32 → Bool → (Nat → Int32) → Int32 → Bool → (Nat → Int32) → Int32 → Bool → (Nat → Int32) → Int32 → Bool → (Nat → Int32) → (Nat → Int64) → (Nat → Int32) → (Nat → Int32) → Int32 → Value → Value → Int32 → Int32 → Int32 → Int32 → Bool → Bool → Bool → Value → Value → Int32 → (Nat → Int32) → Int32 → Bool → (Nat → Int32) → Int32 → Bool → Int32 → (Nat → Int32) → (Nat → Int32) → (Nat → Int32) → Int32 → Int32 → Bool → (Nat → Int32) → Int32 → Bool → (Nat → Int32) → Int32 → Bool → (Nat → Int32) → Int32 → Int32 → (Nat → Int64) → (Nat → Int32) → (Nat → Int32) → Int32 → Bool → (Nat → Int64) → (Nat → Int32) → Int32 → (Nat → Int64) → (Nat → Int32) → Int32 → Int32 → (Nat → Int64) → (Nat → Int32) → (Nat → Int32) → Int32 → Bool → (Nat → Int64) → (Nat → Int32) → Int32 → (Nat → Int64) → (Nat → Int32) → Int32 → Int32 → Int32 → (Nat → Int32) → Int32 → Int32 → Int32 → Int32 → (Nat → Int32) → (Nat → Int32) → (Nat → Int32) → (Nat → Int32) → Int32 → (Nat → Int32) → (Nat → Int32) → (Nat → Int32) → Int32 → (Nat → Int32) → (Nat → Int32) → (Nat → Int32) → Int32 → (Nat → Int32) → (Nat → Int32) → (Nat → Int32) → (Nat → Int32) → Bool → Bool → Bool → Int32 → Int32 → (Nat → Int32) → Bool → Bool → Int32 → Int32 → Int32 → Int32 → (Nat → Int32) → Bool → Int32 → (Nat → Int32) → (Nat → Int32) → (Nat → Int32) → Int32 → (Nat → Int32) → (Nat → Int32) → (Nat → Int32) → Int32 → (Nat → Int32) → (Nat → Int32) → (Nat → Int32) → Int32 → Int32 → (Nat → Int32) → Int32 → (Nat → Int32) → Int32 → (Nat → Int32) → Int32 → (Nat → Int32) → Int32 → (Nat → Int32) → Int32 → Int32 → Int32 → (Nat → Int32) → (Nat → Int32) → Int32 → (Nat → Int32) → Int32 → (Nat → Int32) → (Nat → Int64) → Prop
/-- what holds all along the law's walk -/
def lawC (p : Program) (l : Launch) (e : Env) (s : State) (m : MethodId) (below : List Frame) (meth : Method) (c : Code) (b L : Nat) (xs : Nat → Int32) (A : Nat → Prop) (dC : Nat → ClassId) (dI : Nat → Nat → Nat) (cI cL cZ : ClassId) : Prop :=
  (∀ e : Env, l.admits e → e.platform.stackTraces = false) ∧ p.tables.exec = Jvm.exec ∧ c.code = code ∧ meth.sig.returnType = ret ∧ c.maxLocals = 7 ∧ s.vm.findClass R_Law = some m.cls ∧ meth.locks = false ∧ (∀ w ∈ Cond.tt :: ga, w.before #[Value.ref b] s = true) ∧ va_K (dC, dI) classes (Tys cI cL cZ) s ∧ nw s ∧ thS A s s.heap ∧ thT s ∧ thN s ∧ (∀ q, s.heap.size ≤ q → A q) ∧ va_X b L xs s s.heap ∧ b < s.heap.size ∧ ¬ A b
set_option maxRecDepth 100000 in
theorem fw_Law_put : FmW y_Law_put b_Law_put 4 (some .int) [(0, 9, 12, 13), (0, 9, 15, 15)] 3 := ⟨ga_t 642 rfl rfl, k925_initialized, ⟨by decide, by decide⟩, by decide +kernel⟩
set_option maxRecDepth 100000 in
theorem fw_Law_end : FmW y_Law_end b_Law_end 3 (some .int) [(0, 5, 8, 13)] 2 := ⟨ga_t 740 rfl rfl, k925_initialized, ⟨by decide, by decide⟩, by decide +kernel⟩
set_option maxRecDepth 100000 in
theorem fw_Law_at : FmW y_Law_at b_Law_at 4 (some .int) [(0, 9, 12, 24)] 3 := ⟨ga_t 749 rfl rfl, k925_initialized, ⟨by decide, by decide⟩, by decide +kernel⟩
set_option maxRecDepth 100000 in
theorem fw_Law_spoil : FmW y_Law_spoil b_Law_spoil 5 (some .int) [(0, 10, 13, 24)] 4 := ⟨ga_t 775 rfl rfl, k925_initialized, ⟨by decide, by decide⟩, by decide +kernel⟩
set_option maxRecDepth 100000 in
theorem fw_Law_jump : FmW y_Law_jump b_Law_jump 3 (some .int) [(0, 5, 8, 33), (0, 5, 11, 35)] 2 := ⟨ga_t 783 rfl rfl, k925_initialized, ⟨by decide, by decide⟩, by decide +kernel⟩
set_option maxRecDepth 100000 in
theorem fw_Law_follow : FmW y_Law_follow b_Law_follow 4 (some .int) [(0, 9, 12, 33), (0, 9, 15, 35)] 3 := ⟨ga_t 844 rfl rfl, k925_initialized, ⟨by decide, by decide⟩, by decide +kernel⟩
set_option maxRecDepth 100000 in
theorem fw_Law_go : FmW y_Law_go b_Law_go 4 (some .int) [(0, 9, 12, 33), (0, 9, 15, 35)] 3 := ⟨ga_t 860 rfl rfl, k925_initialized, ⟨by decide, by decide⟩, by decide +kernel⟩
set_option maxRecDepth 100000 in
theorem fw_Law_about : FmW y_Law_about b_Law_about 4 (some .int) [(0, 9, 12, 33), (0, 9, 15, 13)] 3 := ⟨ga_t 888 rfl rfl, k925_initialized, ⟨by decide, by decide⟩, by decide +kernel⟩
set_option maxRecDepth 100000 in
theorem fw_Law_type : FmW y_Law_type b_Law_type 4 (some .int) [(0, 9, 12, 13), (0, 9, 15, 15)] 3 := ⟨ga_t 901 rfl rfl, k925_initialized, ⟨by decide, by decide⟩, by decide +kernel⟩
set_option maxRecDepth 100000 in
theorem fw_Law_keyword : FmW y_Law_keyword b_Law_keyword 3 (some .int) [(0, 8, 11, 33)] 2 := ⟨ga_t 910 rfl rfl, k925_initialized, ⟨by decide, by decide⟩, by decide +kernel⟩
set_option maxRecDepth 100000 in
theorem fw_Law_search : FmW y_Law_search b_Law_search 3 (some .int) [(0, 8, 11, 33)] 2 := ⟨ga_t 938 rfl rfl, k925_initialized, ⟨by decide, by decide⟩, by decide +kernel⟩
set_option maxRecDepth 100000 in
theorem fw_Law_show : FmW y_Law_show b_Law_show 4 (some .int) [(0, 9, 12, 33), (0, 9, 15, 13)] 3 := ⟨ga_t 970 rfl rfl, k925_initialized, ⟨by decide, by decide⟩, by decide +kernel⟩
set_option maxRecDepth 100000 in
theorem fw_Law_sign : FmW y_Law_sign b_Law_sign 5 (some .int) [(0, 10, 13, 24)] 4 := ⟨ga_t 1016 rfl rfl, k925_initialized, ⟨by decide, by decide⟩, by decide +kernel⟩
