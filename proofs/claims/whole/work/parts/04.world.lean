/-! The world: cell a lies at base + a; what it holds is (references, ints, longs). -/
abbrev mW : Type := (Nat → Nat → Option Nat) × (Nat → Nat → Int32) × (Nat → Nat → Int64)
/-- launch, classes, row classes, base, outer addresses (Strings, ABOVE, the script), what is known of the outer heap, the script's length and ints -/
abbrev mG : Type := Launch × va_G × (Nat → ClassId) × Nat × (Nat → Nat) × (State → Heap → Prop) × Nat × (Nat → Int32)
def gL (Γ : mG) : Launch := Γ.1
def gG (Γ : mG) : va_G := Γ.2.1
def gA (Γ : mG) : Nat → ClassId := Γ.2.2.1
def gB (Γ : mG) : Nat := Γ.2.2.2.1
def gS (Γ : mG) : Nat → Nat := Γ.2.2.2.2.1
def gE (Γ : mG) : State → Heap → Prop := Γ.2.2.2.2.2.1
def gN (Γ : mG) : Nat := Γ.2.2.2.2.2.2.1
def gX (Γ : mG) : Nat → Int32 := Γ.2.2.2.2.2.2.2
/-- the address of cell a; from 4096 on: an outer one -/
def zl (Γ : mG) (a : Nat) : Nat := if a < 4096 then gB Γ + a else gS Γ (a - 4096)
def zv (Γ : mG) : Value → Value := fun v => match v with
  | .ref a => .ref (zl Γ a)
  | v => v
def zf (Γ : mG) (w : mW) (a c k : Nat) : Value := match zY c k with
  | .int => .int (w.2.1 a k)
  | .boolean => .int (w.2.1 a k)
  | .long => .long (w.2.2 a k)
  | _ => va_rf ((w.1 a k).map (zl Γ))
def ze (Γ : mG) (w : mW) (a : Nat) : va_E := if (zL a).1 < 2 then .inl (gA Γ (zL a).1, ((zL a).2, .inl (w.2.1 a))) else if (zL a).1 < 10 then .inl (gA Γ (zL a).1, ((zL a).2, .inr (.inr (.inr (.inr (fun j => (w.1 a j).map (zl Γ))))))) else .inr ((zL a).1 - 10, (List.range (zL a).2).map (zf Γ w a ((zL a).1 - 10)))
def zw (Γ : mG) (nx : Nat) (w : mW) : va_W := (List.range nx).map (fun a => (gB Γ + a, ze Γ w a))
def zty (Γ : mG) : List (ClassId × FieldType) := [(gA Γ 0, .int), (gA Γ 1, .boolean), (gA Γ 2, .object RX0), (gA Γ 3, .object RX5), (gA Γ 4, .object RX8)]
def zA (Γ : mG) : Nat → Prop := fun q => gB Γ ≤ q
theorem zw_at {Γ : mG} {nx : Nat} {w : mW} {a : Nat} (h : a < nx) : (zw Γ nx w)[a]? = some (gB Γ + a, ze Γ w a) := by
  simp [zw, h]
theorem zw_len {Γ : mG} {nx : Nat} {w : mW} : (zw Γ nx w).length = nx := by simp [zw]
theorem zw_in {Γ : mG} {nx : Nat} {w : mW} {a : Nat} {q : Nat × va_E} (h : (zw Γ nx w)[a]? = some q) : a < nx ∧ q = (gB Γ + a, ze Γ w a) := by
  have h1 : a < (zw Γ nx w).length := (List.getElem?_eq_some_iff.mp h).1
  rw [zw_len] at h1
  rw [zw_at h1] at h
  exact ⟨h1, (Option.some.inj h).symm⟩
theorem zw_D {Γ : mG} {nx : Nat} {w : mW} : va_D (zA Γ) (zw Γ nx w) := by
  refine ⟨fun i j p q hp hq e => ?_, fun k q hq => ?_⟩
  · obtain ⟨-, rfl⟩ := zw_in hp
    obtain ⟨-, rfl⟩ := zw_in hq
    dsimp only at e
    omega
  · obtain ⟨-, rfl⟩ := zw_in hq
    exact Nat.le_add_right _ _
theorem zw_upd {Γ : mG} {nx : Nat} {w w' : mW} {a : Nat} {e : va_E} (h : ∀ b, b ≠ a → ze Γ w' b = ze Γ w b) (he : ze Γ w' a = e) : (zw Γ nx w).set a (gB Γ + a, e) = zw Γ nx w' := by
  apply List.ext_getElem?
  intro i
  rw [List.getElem?_set]
  by_cases hi : a = i
  · subst hi
    rw [if_pos rfl]
    by_cases ha : a < nx
    · rw [if_pos (by rw [zw_len]; exact ha), zw_at ha, he]
    · rw [if_neg (by rw [zw_len]; exact ha), List.getElem?_eq_none (by rw [zw_len]; omega)]
  · rw [if_neg hi]
    by_cases hn : i < nx
    · rw [zw_at hn, zw_at hn, h i (fun q => hi q.symm)]
    · rw [List.getElem?_eq_none (by rw [zw_len]; omega), List.getElem?_eq_none (by rw [zw_len]; omega)]
/-- an int, a long, a reference put -/
def si (w : mW) (a k : Nat) (x : Int32) : mW := (w.1, fun b j => if b = a ∧ j = k then x else w.2.1 b j, w.2.2)
def sj (w : mW) (a k : Nat) (x : Int64) : mW := (w.1, w.2.1, fun b j => if b = a ∧ j = k then x else w.2.2 b j)
def sr (w : mW) (a k : Nat) (x : Option Nat) : mW := (fun b j => if b = a ∧ j = k then x else w.1 b j, w.2.1, w.2.2)
/-- a row's ints put, all -/
def sa (w : mW) (a : Nat) (f : Nat → Int32) : mW := (w.1, fun b j => if b = a then f j else w.2.1 b j, w.2.2)
theorem zf_congr {Γ : mG} {w w' : mW} {a c k : Nat} (h1 : w'.1 a k = w.1 a k) (h2 : w'.2.1 a k = w.2.1 a k) (h3 : w'.2.2 a k = w.2.2 a k) : zf Γ w' a c k = zf Γ w a c k := by
  unfold zf
  rw [h1, h2, h3]
theorem ze_congr {Γ : mG} {w w' : mW} {b : Nat} (h1 : ∀ j, w'.1 b j = w.1 b j) (h2 : ∀ j, w'.2.1 b j = w.2.1 b j) (h3 : ∀ j, w'.2.2 b j = w.2.2 b j) : ze Γ w' b = ze Γ w b := by
  unfold ze
  have e2 : w'.2.1 b = w.2.1 b := funext h2
  have e1 : w'.1 b = w.1 b := funext h1
  rw [e2, e1]
  have e4 : zf Γ w' b ((zL b).1 - 10) = zf Γ w b ((zL b).1 - 10) := funext fun k => zf_congr (h1 k) (h2 k) (h3 k)
  rw [e4]
theorem ze_obj {Γ : mG} {w : mW} {a c : Nat} (h : (zL a).1 = 10 + c) : ze Γ w a = .inr (c, (List.range (zL a).2).map (zf Γ w a c)) := by
  unfold ze
  rw [if_neg (by omega), if_neg (by omega), h, Nat.add_sub_cancel_left]
theorem ze_row {Γ : mG} {w : mW} {a t : Nat} (h : (zL a).1 = t) (ht : t < 2) : ze Γ w a = .inl (gA Γ t, ((zL a).2, .inl (w.2.1 a))) := by
  unfold ze
  rw [if_pos (by omega), h]
theorem ze_refs {Γ : mG} {w : mW} {a t : Nat} (h : (zL a).1 = t) (h1 : 2 ≤ t) (ht : t < 10) : ze Γ w a = .inl (gA Γ t, ((zL a).2, .inr (.inr (.inr (.inr (fun j => (w.1 a j).map (zl Γ))))))) := by
  unfold ze
  rw [if_neg (by omega), if_pos (by omega), h]
theorem zl_len : ∀ a, a < 82 → 10 ≤ (zL a).1 → (zL a).2 = zN ((zL a).1 - 10) ∧ (zL a).1 - 10 < 12 := by decide +kernel
theorem ze_fields {Γ : mG} {w : mW} {a c k N : Nat} (hk : k < N) : ((List.range N).map (zf Γ w a c))[k]? = some (zf Γ w a c k) := by
  simp [hk]
theorem ze_put {Γ : mG} {w w' : mW} {a c k N : Nat} {v : Value} (hv : zf Γ w' a c k = v) (ho : ∀ j, j ≠ k → zf Γ w' a c j = zf Γ w a c j) : ((List.range N).map (zf Γ w a c)).set k v = (List.range N).map (zf Γ w' a c) := by
  apply List.ext_getElem?
  intro i
  rw [List.getElem?_set]
  by_cases hi : k = i
  · subst hi
    rw [if_pos rfl]
    by_cases hk : k < N
    · rw [if_pos (by simp; exact hk), ze_fields hk, hv]
    · rw [if_neg (by simp; omega), List.getElem?_eq_none (by simp; omega)]
  · rw [if_neg hi]
    by_cases hk : i < N
    · rw [ze_fields hk, ze_fields hk, ho i (fun q => hi q.symm)]
    · rw [List.getElem?_eq_none (by simp; omega), List.getElem?_eq_none (by simp; omega)]
theorem zw_puti {Γ : mG} {nx : Nat} {w : mW} {a c k : Nat} {x : Int32} (h : (zL a).1 = 10 + c) (hy : zY c k = .int ∨ zY c k = .boolean) : (zw Γ nx w).set a (gB Γ + a, .inr (c, ((List.range (zL a).2).map (zf Γ w a c)).set k (.int x))) = zw Γ nx (si w a k x) := by
  refine zw_upd (fun b hb => ze_congr (fun j => rfl) (fun j => ?_) (fun j => rfl)) ?_
  · show (if b = a ∧ j = k then x else w.2.1 b j) = _
    rw [if_neg (fun q => hb q.1)]
  · rw [ze_obj h]
    congr 2
    refine (ze_put (w := w) (w' := si w a k x) ?_ (fun j hj => zf_congr rfl ?_ rfl)).symm
    · have e : (si w a k x).2.1 a k = x := if_pos ⟨rfl, rfl⟩
      unfold zf
      rcases hy with hy | hy <;> rw [hy] <;> exact congrArg Value.int e
    · show (if a = a ∧ j = k then x else w.2.1 a j) = _
      rw [if_neg (fun q => hj q.2)]
theorem zw_putj {Γ : mG} {nx : Nat} {w : mW} {a c k : Nat} {x : Int64} (h : (zL a).1 = 10 + c) (hy : zY c k = .long) : (zw Γ nx w).set a (gB Γ + a, .inr (c, ((List.range (zL a).2).map (zf Γ w a c)).set k (.long x))) = zw Γ nx (sj w a k x) := by
  refine zw_upd (fun b hb => ze_congr (fun j => rfl) (fun j => rfl) (fun j => ?_)) ?_
  · show (if b = a ∧ j = k then x else w.2.2 b j) = _
    rw [if_neg (fun q => hb q.1)]
  · rw [ze_obj h]
    congr 2
    refine (ze_put (w := w) (w' := sj w a k x) ?_ (fun j hj => zf_congr rfl rfl ?_)).symm
    · have e : (sj w a k x).2.2 a k = x := if_pos ⟨rfl, rfl⟩
      unfold zf
      rw [hy]
      exact congrArg Value.long e
    · show (if a = a ∧ j = k then x else w.2.2 a j) = _
      rw [if_neg (fun q => hj q.2)]
theorem zw_row {Γ : mG} {nx : Nat} {w : mW} {a t : Nat} {f : Nat → Int32} (h : (zL a).1 = t) (ht : t < 2) : (zw Γ nx w).set a (gB Γ + a, .inl (gA Γ t, ((zL a).2, .inl f))) = zw Γ nx (sa w a f) := by
  refine zw_upd (fun b hb => ze_congr (fun j => rfl) (fun j => ?_) (fun j => rfl)) ?_
  · show (if b = a then f j else w.2.1 b j) = _
    rw [if_neg hb]
  · have e : (sa w a f).2.1 a = f := funext fun j => if_pos rfl
    rw [ze_row h ht, e]
theorem sa_upd {w : mW} {a k : Nat} {x : Int32} : sa w a (upd (w.2.1 a) k x) = si w a k x := by
  unfold sa si upd
  congr 2
  funext b j
  by_cases hb : b = a
  · subst hb
    by_cases hj : j = k <;> simp [hj]
  · simp [hb]
