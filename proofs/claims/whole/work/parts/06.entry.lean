/-! From a walk to a contract; locals; returns. -/
def zpad (n : Nat) (l : List Value) : List Value := l ++ List.replicate (n - l.length) zU
theorem zpad_at {n i : Nat} {l : List Value} {v : Value} (h : (zpad n l)[i]? = some v) (hv : v ≠ zU) : l[i]? = some v := by
  unfold zpad at h
  rw [List.getElem?_append] at h
  by_cases hi : i < l.length
  · rw [if_pos hi] at h; exact h
  · rw [if_neg hi, List.getElem?_replicate] at h
    by_cases hk : i - l.length < n - l.length
    · rw [if_pos hk] at h; exact absurd (Option.some.inj h).symm hv
    · rw [if_neg hk] at h; cases h
theorem Call.of {Γ : mG} {d mc ms : Nat} {M : mM} {as : List Value} {nx : Nat} {w : mW} {Q : Value → mW → Prop} (hM : zMok M) (hy : plainName M.1.cls = true ∧ M.2.1 = M.1.cls) (hn : (lg_sl (as.map (zv Γ))).length ≤ M.2.2.2.1)
    (hV : V Γ M (zF Γ M nx mc ms Q) d nx mc ms 0 (zpad M.2.2.2.1 (zent as)) [] w 0 0) : Call Γ d mc ms M as nx w Q := by
  refine ⟨hM, fun rm h1 h2 h3 h4 => ?_⟩
  refine Met.ofW (cc := M.2.2.1) (maxL := M.2.2.2.1) (ret := M.2.2.2.2.1) hy.1 rfl ?_
  intro p e s m args below meth c s₁ B hml hv
  obtain ⟨rfl, hsz, hP, hK, hE, hG⟩ := hv
  have hts := atoms_spec (ws := zws M) B.pre
  have hown : s.vm.findClass M.2.1 = some m.cls := by rw [hy.2]; exact findClass_of_methodNamed B.named
  have hl := lv_entry (as.map (zv Γ)) (n := M.2.2.2.1) hn
  rw [lg_entry_eq]
  refine hV p e _ s m _ below meth c ⟨B.exec, B.bytes, hml, B.returns, hown, fun w hw => hts w (List.mem_cons_of_mem _ hw), B.notSynchronized, (name_of_methodNamed B.named B.method).1, hK, hE, hG, hsz, ⟨Nat.le_of_eq h1.symm, Nat.le_of_eq h2.symm⟩, h3, h4⟩ s.heap [] _ hP va_S.rf ⟨hl.1, hl.2.1, fun i v hi hv => ?_⟩
  have hz := zent_at (Γ := Γ) as 0 i v (zpad_at hi hv) hv
  rw [Nat.zero_add] at hz
  exact hl.2.2 _ hz
/-- storing -/
def z1 (ls : List Value) (i : Nat) (v : Value) : List Value := match i with
  | 0 => ls.set 0 v
  | j + 1 => match ls[j]? with
    | some (.long _) => (ls.set j zU).set (j + 1) v
    | some (.double _) => (ls.set j zU).set (j + 1) v
    | _ => ls.set (j + 1) v
def z2 (ls : List Value) (i : Nat) (v : Value) : List Value := (z1 ls i v).set (i + 1) zU
theorem zset_at {ls : List Value} {i j : Nat} {v u : Value} (h : (ls.set i v)[j]? = some u) : (j = i ∧ u = v) ∨ (j ≠ i ∧ ls[j]? = some u) := by
  rw [List.getElem?_set] at h
  by_cases hij : i = j
  · rw [if_pos hij] at h
    by_cases hi : i < ls.length
    · rw [if_pos hi] at h; exact Or.inl ⟨hij.symm, (Option.some.inj h).symm⟩
    · rw [if_neg hi] at h; cases h
  · rw [if_neg hij] at h; exact Or.inr ⟨fun q => hij q.symm, h⟩
theorem z1_at {ls : List Value} {i j : Nat} {v u : Value} (h : (z1 ls i v)[j]? = some u) (hu : u ≠ zU) : (j = i ∧ u = v) ∨ (j ≠ i ∧ ls[j]? = some u ∧ ¬ (j + 1 = i ∧ u.category = 2)) := by
  cases i with
  | zero =>
    rcases zset_at h with h | h
    · exact Or.inl h
    · exact Or.inr ⟨h.1, h.2, fun q => by omega⟩
  | succ k =>
    unfold z1 at h
    dsimp only at h
    have two : ∀ ls' : List Value, ls' = ls.set k zU → (ls'.set (k + 1) v)[j]? = some u → (j = k + 1 ∧ u = v) ∨ (j ≠ k + 1 ∧ ls[j]? = some u ∧ ¬ (j + 1 = k + 1 ∧ u.category = 2)) := by
      intro ls' e h
      subst e
      rcases zset_at h with h | ⟨h1, h⟩
      · exact Or.inl h
      · rcases zset_at h with ⟨h2, h3⟩ | ⟨h2, h3⟩
        · exact absurd h3 hu
        · exact Or.inr ⟨h1, h3, fun q => h2 (by omega)⟩
    have one : (∀ x, ls[k]? ≠ some (.long x)) → (∀ x, ls[k]? ≠ some (.double x)) → (ls.set (k + 1) v)[j]? = some u → (j = k + 1 ∧ u = v) ∨ (j ≠ k + 1 ∧ ls[j]? = some u ∧ ¬ (j + 1 = k + 1 ∧ u.category = 2)) := by
      intro n1 n2 h5
      rcases zset_at h5 with h6 | ⟨h1, h6⟩
      · exact Or.inl h6
      · refine Or.inr ⟨h1, h6, fun q => ?_⟩
        have hj : j = k := by omega
        subst hj
        cases u with
        | long x => exact n1 x h6
        | double x => exact n2 x h6
        | _ => simp [Value.category] at q
    cases hk : ls[k]? with
    | none =>
      simp only [hk] at h
      exact one (by rw [hk]; intro x q; cases q) (by rw [hk]; intro x q; cases q) h
    | some y =>
      simp only [hk] at h
      cases y with
      | long x => exact two _ rfl h
      | double x => exact two _ rfl h
      | _ => exact one (by rw [hk]; intro x q; cases q) (by rw [hk]; intro x q; cases q) h
/-- the known locals as pairs -/
def zlp (Γ : mG) (ls : List Value) : List (Nat × Value) := (List.range ls.length).filterMap (fun i => match ls[i]? with
  | some v => if v = zU then none else some (i, zv Γ v)
  | none => none)
theorem zlp_mem {Γ : mG} {ls : List Value} {i : Nat} {v : Value} (h : ls[i]? = some v) (hv : v ≠ zU) : (i, zv Γ v) ∈ zlp Γ ls := by
  unfold zlp
  refine List.mem_filterMap.mpr ⟨i, List.mem_range.mpr (List.getElem?_eq_some_iff.mp h).1, ?_⟩
  simp [h, hv]
theorem zlp_of {Γ : mG} {ls : List Value} {q : Nat × Value} (h : q ∈ zlp Γ ls) : ∃ v, ls[q.1]? = some v ∧ v ≠ zU ∧ q.2 = zv Γ v := by
  unfold zlp at h
  obtain ⟨i, -, hi⟩ := List.mem_filterMap.mp h
  cases hl : ls[i]? with
  | none => simp [hl] at hi
  | some v =>
    by_cases hv : v = zU
    · simp [hl, hv] at hi
    · simp [hl, hv] at hi
      subst hi
      exact ⟨v, hl, hv, rfl⟩
theorem zlo.has {Γ : mG} {lsA : Array Slot} {n : Nat} {ls : List Value} (h : zlo Γ lsA n ls) : lv_has lsA n (zlp Γ ls) := by
  refine ⟨h.1, h.2.1, fun q hq => ?_⟩
  obtain ⟨v, h1, h2, h3⟩ := zlp_of hq
  rw [h3]
  exact h.2.2 _ _ h1 h2
theorem zlo.st1 {Γ : mG} {lsA : Array Slot} {n i : Nat} {ls : List Value} {v : Value} (h : lv_has lsA n ((i, zv Γ v) :: (zlp Γ ls).filter (fun q => !(q.1 == i) && !(q.1 + 1 == i && q.2.category == 2)))) : zlo Γ lsA n (z1 ls i v) := by
  refine ⟨h.1, h.2.1, fun j u hj hu => ?_⟩
  rcases z1_at hj hu with ⟨rfl, rfl⟩ | ⟨h1, h2, h3⟩
  · exact h.2.2 _ List.mem_cons_self
  · refine h.2.2 (j, zv Γ u) (List.mem_cons_of_mem _ (List.mem_filter.mpr ⟨zlp_mem h2 hu, ?_⟩))
    have hc : (zv Γ u).category = u.category := zv_cat u
    by_cases ha : j + 1 = i
    · have : ¬ u.category = 2 := fun q => h3 ⟨ha, q⟩
      simp [h1, hc, this]
    · simp [h1, ha]
theorem zlo.st2 {Γ : mG} {lsA : Array Slot} {n i : Nat} {ls : List Value} {v : Value} (h : lv_has lsA n ((i, zv Γ v) :: (zlp Γ ls).filter (fun q => !(q.1 == i) && (!(q.1 == i + 1) && !(q.1 + 1 == i && q.2.category == 2))))) : zlo Γ lsA n (z2 ls i v) := by
  refine ⟨h.1, h.2.1, fun j u hj hu => ?_⟩
  rcases zset_at hj with ⟨-, e⟩ | ⟨hne, hj⟩
  · exact absurd e hu
  rcases z1_at hj hu with ⟨rfl, rfl⟩ | ⟨h1, h2, h3⟩
  · exact h.2.2 _ List.mem_cons_self
  · refine h.2.2 (j, zv Γ u) (List.mem_cons_of_mem _ (List.mem_filter.mpr ⟨zlp_mem h2 hu, ?_⟩))
    have hc : (zv Γ u).category = u.category := zv_cat u
    by_cases ha : j + 1 = i
    · have : ¬ u.category = 2 := fun q => h3 ⟨ha, q⟩
      simp [h1, hc, this, hne]
    · simp [h1, ha, hne]
theorem zlo.sub {Γ : mG} {lsA : Array Slot} {n : Nat} {ls ls' : List Value} (h : zlo Γ lsA n ls) (hs : ∀ (i : Nat) (v : Value), ls'[i]? = some v → v ≠ zU → ls[i]? = some v) : zlo Γ lsA n ls' := ⟨h.1, h.2.1, fun i v h1 h2 => h.2.2 i v (hs i v h1 h2) h2⟩
/-- fewer known locals -/
theorem V.sub {Γ : mG} {M : mM} {F : mF} {d n0 mc ms pc ce sl : Nat} {ls ls' st : List Value} {w : mW} (hs : ∀ (i : Nat) (v : Value), ls'[i]? = some v → v ≠ zU → ls[i]? = some v) (h : V Γ M F d n0 mc ms pc ls' st w ce sl) : V Γ M F d n0 mc ms pc ls st w ce sl :=
  fun p e R s m args below meth c0 hC H locs lsA hP hS hl => h p e R s m args below meth c0 hC H locs lsA hP hS (hl.sub hs)
theorem W.sz {p : Program} {l : Launch} {e : Env} {R : Room} {s : State} {m : MethodId} {args : Array Value} {below : List Frame} {meth : Method} {c : Code} {H : Heap} {locs : List Loc} {cells slots : Nat} {Q : State → Prop} {g : JFrame} (h : H.size ≤ s.heap.size + cells → W p l e R s m args below meth c H locs cells slots Q g) : W p l e R s m args below meth c H locs cells slots Q g := fun T hT X => h (by have := X.heapSize; rw [hT] at this; exact this) T hT X
theorem zw_size {Γ : mG} {nx : Nat} {w : mW} {H : Heap} (hP : va_P (gG Γ) zC (zw Γ nx w) H) (h : gB Γ ≤ H.size) : gB Γ + nx ≤ H.size := by
  cases nx with
  | zero => exact h
  | succ k => exact (hP k _ (zw_at (Nat.lt_succ_self k))).lt
