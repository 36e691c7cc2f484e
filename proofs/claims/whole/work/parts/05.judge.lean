/-! Words that go from a caller to a callee; the judgement V of a walk in the fixed world; a call's contract. -/
/-- ABOVE -/
def zAB (i : Nat) : Int32 := ([-1, 0, 0, 1, 2, 0] : List Int32).getD i 0
/-- private methods that are called from a nest mate -/
def zNests : List (String × Nat × MethodName) := [(RX6, 18, yX10_isArgument), (RX2, 53, yX10_has), (RX6, 28, yX10_has), (RX3, 57, yX10_has)]
def zTw : List Cond := lw_tbl.filter goodWord
theorem zTw_good : GoodIn zTw zTw := fun w hw => ⟨hw, good_of_word (List.mem_filter.mp hw).2⟩
/-- a word of the tables by its place: 1000 times the list's number, and the place there -/
def zTL (k : Nat) : List Cond := match k with
  | 1 => tables_1_1
  | 2 => tables_1_2
  | 3 => tables_1_3
  | 4 => tables_1_4
  | 5 => tables_1_5
  | 6 => tables_1_6
  | 7 => tables_1_7
  | _ => []
def zpl (n : Nat) : Option Cond := (zTL (n / 1000))[n % 1000]?
theorem zTL_in {k : Nat} {c : Cond} (h : c ∈ zTL k) : c ∈ tables_1 := by
  unfold tables_1
  simp only [List.mem_append]
  unfold zTL at h
  split at h
  · exact Or.inl h
  · exact Or.inr (Or.inl h)
  · exact Or.inr (Or.inr (Or.inl h))
  · exact Or.inr (Or.inr (Or.inr (Or.inl h)))
  · exact Or.inr (Or.inr (Or.inr (Or.inr (Or.inl h))))
  · exact Or.inr (Or.inr (Or.inr (Or.inr (Or.inr (Or.inl h)))))
  · exact Or.inr (Or.inr (Or.inr (Or.inr (Or.inr (Or.inr h)))))
  · cases h
theorem zTw_of {i : Nat} {c : Cond} (h : zpl i = some c) (hg : goodWord c = true) : c ∈ zTw := List.mem_filter.mpr ⟨List.mem_append_right _ (zTL_in (List.mem_of_getElem? h)), hg⟩
theorem zTw_ofP {i : Nat} {c : Cond} (h : (k2_sels lw_privs)[i]? = some c) (hg : goodWord c = true) : c ∈ zTw := List.mem_filter.mpr ⟨List.mem_append_left _ (List.mem_of_getElem? h), hg⟩
theorem zTw_ofL {i : Nat} {c : Cond} (h : lw_tbl[i]? = some c) (hg : goodWord c = true) : c ∈ zTw := List.mem_filter.mpr ⟨List.mem_of_getElem? h, hg⟩
theorem zTw_sub {w : Cond} (h : w ∈ zTw) : w ∈ lw_tbl := (List.mem_filter.mp h).1
/-- name, own class, bytes, locals, return type, kind (0 static, 1 by the receiver, 2 <init>), number of parameters -/
abbrev mM : Type := MethodName × String × ByteArray × Nat × Option FieldType × Nat × Nat
/-- what a caller needs of the tables -/
def zMok (M : mM) : Prop :=
  Cond.code M.1 M.2.2.1 M.2.2.2.1 M.2.2.2.2.1 ∈ zTw ∧ Cond.initialized M.1.cls ∈ zTw ∧ (M.1.cls ≠ "java/lang/invoke/MethodHandle" ∧ M.1.cls ≠ "java/lang/invoke/VarHandle" ∧ (parseMethodDescriptor M.1.desc).map (fun d => d.parameters.length) = some M.2.2.2.2.2.2) ∧ M.2.2.2.1 ≤ 44 ∧
  (M.2.2.2.2.2.1 = 0 → Cond.static M.1 ∈ zTw) ∧ (M.2.2.2.2.2.1 = 1 → Cond.instanceMethod M.1 ∈ zTw ∧ Cond.selects M.1.cls M.1 M.1 ∈ zTw)
/-- locals: by place; .retAddr 0 where nothing is known -/
def zU : Value := .retAddr 0
def zlo (Γ : mG) (lsA : Array Slot) (n : Nat) (ls : List Value) : Prop := lsA.size = n ∧ lv_wf lsA ∧ ∀ (i : Nat) (v : Value), ls[i]? = some v → v ≠ zU → lsA[i]? = some (.val (zv Γ v))
/-- what is known of the outer heap goes on -/
def zGE (Γ : mG) : Prop :=
  (∀ (s U : State) (H : Heap), s.WarmedH U.vm → gE Γ s H → gE Γ U H) ∧
  (∀ (U : State) (H H1 : Heap), (∀ a : Nat, a < H.size → ¬ zA Γ a → H1[a]? = H[a]?) → gE Γ U H → gE Γ U H1) ∧
  (∀ (u U : State) (H : Heap), U.vm = u.vm → gE Γ u H → gE Γ U H) ∧
  (∀ (s : State) (H : Heap), gE Γ s H → va_T .int (gS Γ 14) 6 (fun i => .int (zAB i)) (zA Γ) s H ∧ va_Z "LaidByArgument" "ABOVE" "[I" (.ref (gS Γ 14)) (zA Γ) s H ∧ va_X (gS Γ 15) (gN Γ) (gX Γ) s H ∧ gS Γ 15 < H.size ∧ ¬ zA Γ (gS Γ 15)) ∧
  (∀ (s : State) (H : Heap), gE Γ s H → ∀ q ∈ zNests, va_Nw (.methodLinkNest q.1 q.2.1 q.2.2 "LaidByArgument") s)
/-- a method's frame, as far as the walk asks -/
def zCf (Γ : mG) (M : mM) (d n0 mc ms : Nat) (p : Program) (R : Room) (s : State) (m : MethodId) (args : Array Value) (meth : Method) (c : Code) : Prop :=
  p.tables.exec = Jvm.exec ∧ c.code = M.2.2.1 ∧ c.maxLocals = M.2.2.2.1 ∧ meth.sig.returnType = M.2.2.2.2.1 ∧ s.vm.findClass M.2.1 = some m.cls ∧ (∀ w ∈ zTw, w.before args s = true) ∧ meth.locks = false ∧ meth.name = M.1.name ∧ va_K (gG Γ) zC (zty Γ) s ∧ gE Γ s s.heap ∧ zGE Γ ∧ s.heap.size = gB Γ + n0 ∧ (mc ≤ R.cells ∧ ms ≤ R.slots) ∧ d ≤ R.frames ∧ 64 * d ≤ R.locals
/-- where a walk ends -/
abbrev mF : Type := List Frame → Array Value → State → State → Prop
def V (Γ : mG) (M : mM) (F : mF) (d n0 mc ms : Nat) (pc : Nat) (ls st : List Value) (w : mW) (ce sl : Nat) : Prop :=
  ∀ (p : Program) (e : Env) (R : Room) (s : State) (m : MethodId) (args : Array Value) (below : List Frame) (meth : Method) (c : Code),
    zCf Γ M d n0 mc ms p R s m args meth c → ∀ (H : Heap) (locs : List Loc) (lsA : Array Slot), va_P (gG Γ) zC (zw Γ (n0 + ce) w) H → va_S (zA Γ) s.heap H locs → zlo Γ lsA M.2.2.2.1 ls →
      W p (gL Γ) e R s m args below meth c H locs ce sl (F below args s) (F0 m pc lsA (st.map (zv Γ)))
/-- what a method answers -/
def zPost (Γ : mG) (rt : Option FieldType) (nx : Nat) (Q : Value → mW → Prop) : State → Outcome → State → Prop := fun st o t => (∃ (v : Value) (w' : mW), o = .returned (match rt with | none => none | some _ => some (zv Γ v)) ∧ Q v w' ∧ t.heap.size = gB Γ + nx ∧ va_P (gG Γ) zC (zw Γ nx w') t.heap) ∧ va_F (zA Γ) st t
/-- the end of a method that answers as Q says -/
def zF (Γ : mG) (M : mM) (n0 mc ms : Nat) (Q : Value → mW → Prop) : mF := fun below args s => MQ below (fun _ st o t => zPost Γ M.2.2.2.2.1 (n0 + mc) Q st o t) args s mc ms (zA Γ)
/-- a method's words: its own code, and all tables' words that go on -/
def zws (M : mM) : List Cond := .code M.1 M.2.2.1 M.2.2.2.1 M.2.2.2.2.1 :: zTw
/-- a contract's start -/
def zPre (Γ : mG) (nx : Nat) (w : mW) : State → Prop := fun U => U.heap.size = gB Γ + nx ∧ va_P (gG Γ) zC (zw Γ nx w) U.heap ∧ va_K (gG Γ) zC (zty Γ) U ∧ gE Γ U U.heap ∧ zGE Γ
/-- the contract: from the world (nx, w), within depth d; mc cells come, ms slots at most -/
def Call (Γ : mG) (d mc ms : Nat) (M : mM) (as : List Value) (nx : Nat) (w : mW) (Q : Value → mW → Prop) : Prop :=
  zMok M ∧ ∀ rm : Room, rm.cells = mc → rm.slots = ms → d ≤ rm.frames → 64 * d ≤ rm.locals →
    Met (gL Γ) M.1 (zws M) rm (va_Pc (as.map (zv Γ)) (zPre Γ nx w)) (fun _ st o t => zPost Γ M.2.2.2.2.1 (nx + mc) Q st o t) mc ms (zA Γ)
theorem Call.mono {Γ : mG} {d mc ms : Nat} {M : mM} {as : List Value} {nx : Nat} {w : mW} {Q : Value → mW → Prop} {d' : Nat} (h : Call Γ d mc ms M as nx w Q) (hd : d ≤ d') : Call Γ d' mc ms M as nx w Q :=
  ⟨h.1, fun rm h1 h2 h3 h4 => h.2 rm h1 h2 (by omega) (by omega)⟩
theorem zPre.blind {Γ : mG} {nx : Nat} {w : mW} {as : List Value} : FrameBlind (va_Pc (as.map (zv Γ)) (zPre Γ nx w)) := fun a U g mk q => by
  obtain ⟨q0, q1, q2, q3, q4, q5⟩ := q
  exact ⟨q0, q1, q2, va_K.moved (u := U) (U := U.calling g mk a) (Vm.Alike.refl U.vm) q3, q5.2.2.1 U _ _ rfl q4, q5⟩
/-- locals at the entry -/
def zent : List Value → List Value
  | [] => []
  | v :: l => if v.category = 2 then v :: zU :: zent l else v :: zent l
theorem zv_cat {Γ : mG} (v : Value) : (zv Γ v).category = v.category := by cases v <;> rfl
theorem zent_at {Γ : mG} : ∀ (l : List Value) (k : Nat) (i : Nat) (v : Value), (zent l)[i]? = some v → v ≠ zU → (k + i, zv Γ v) ∈ lv_args k (l.map (zv Γ)) := by
  intro l
  induction l with
  | nil => intro k i v h; simp [zent] at h
  | cons a l ih =>
    intro k i v h hv
    unfold zent at h
    rw [List.map_cons, lv_args, zv_cat]
    by_cases hc : a.category = 2
    · rw [if_pos hc] at h
      match i, h with
      | 0, h => simp at h; subst h; exact List.mem_cons_self
      | 1, h => simp at h; exact absurd h.symm hv
      | j + 2, h =>
        simp at h
        rw [hc, show k + (j + 2) = (k + 2) + j by omega]
        exact List.mem_cons_of_mem _ (ih (k + 2) j v h hv)
    · rw [if_neg hc] at h
      have hc1 : a.category = 1 := (lv_cat a).resolve_right hc
      match i, h with
      | 0, h => simp at h; subst h; exact List.mem_cons_self
      | j + 1, h =>
        simp at h
        rw [hc1, show k + (j + 1) = (k + 1) + j by omega]
        exact List.mem_cons_of_mem _ (ih (k + 1) j v h hv)
