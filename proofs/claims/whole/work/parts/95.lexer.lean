/-! How bytes are split into tokens. -/
def zisL (b : Nat) : Bool := decide (97 ≤ b ∧ b ≤ 122)
def zisD (b : Nat) : Bool := decide (48 ≤ b ∧ b ≤ 57)
def zisS (b : Nat) : Bool := decide (b = 40 ∨ b = 41 ∨ b = 59 ∨ b = 43 ∨ b = 45 ∨ b = 42 ∨ b = 60 ∨ b = 61)
/-- the end of a run from a, of m at most -/
def zrl (f : Nat → Bool) : Nat → Nat → Nat
  | 0, a => a
  | m + 1, a => if f a = true then zrl f m (a + 1) else a
theorem zrl_le (f : Nat → Bool) : ∀ m a, a ≤ zrl f m a ∧ zrl f m a ≤ a + m := by
  intro m
  induction m with
  | zero => exact fun a => ⟨Nat.le_refl _, Nat.le_refl _⟩
  | succ m ih =>
    intro a
    unfold zrl
    have := ih (a + 1)
    split <;> omega
/-- the words -/
def zW (k : Nat) : List Nat := ([[112, 111, 105, 110, 116], [97, 103, 97, 105, 110, 115, 116], [104, 111, 108, 100, 115], [110, 117, 109, 98, 101, 114], [100, 97, 121], [101, 103, 103, 115], [108, 97, 121, 115], [121, 105, 101, 108, 100, 115], [100, 114, 111, 112, 115], [111, 114], [97, 110, 100], [110, 111, 116]] : List (List Nat)).getD k []
theorem zW_inj : ∀ j, j < 12 → ∀ k, k < 12 → zW j = zW k → j = k := by decide +kernel
theorem zW_sh : ∀ k, k < 12 → 2 ≤ (zW k).length ∧ (zW k).length ≤ 7 ∧ (zW k).all zisL = true := by decide +kernel
/-- the bytes from a to e -/
def zsl (B : Nat → Nat) (a e : Nat) : List Nat := (List.range (e - a)).map (fun k => B (a + k))
theorem zsl_len {B : Nat → Nat} {a e : Nat} : (zsl B a e).length = e - a := by simp [zsl]
theorem zsl_at {B : Nat → Nat} {a e k : Nat} (h : k < e - a) : (zsl B a e).getD k 0 = B (a + k) := by
  unfold zsl
  rw [List.getD_eq_getElem?_getD, List.getElem?_map, List.getElem?_range h]
  rfl
/-- which word, of the first k -/
def zwf (l : List Nat) : Nat → Option Nat
  | 0 => none
  | k + 1 => if l = zW k then some k else zwf l k
theorem zwf_some {l : List Nat} {j : Nat} : ∀ k, k ≤ 12 → (zwf l k = some j ↔ j < k ∧ l = zW j) := by
  intro k
  induction k with
  | zero => intro _; exact ⟨fun h => (by cases h), fun h => absurd h.1 (Nat.not_lt_zero _)⟩
  | succ k ih =>
    intro hk
    unfold zwf
    by_cases h : l = zW k
    · rw [if_pos h]
      constructor
      · intro q
        have := Option.some.inj q
        subst this
        exact ⟨by omega, h⟩
      · intro q
        congr 1
        exact zW_inj k (by omega) j (by omega) (h.symm.trans q.2)
    · rw [if_neg h, ih (by omega)]
      constructor
      · exact fun q => ⟨by omega, q.2⟩
      · intro q
        rcases (show j < k ∨ j = k by omega) with e | e
        · exact ⟨e, q.2⟩
        · subst e
          exact absurd q.2 h
/-- a number's worth -/
def zvn (B : Nat → Nat) : Nat → Nat → Nat → Nat
  | 0, _, v => v
  | m + 1, a, v => zvn B m (a + 1) (10 * v + B a - 48)
/-- a word's token -/
def zwt (l : List Nat) (a : Nat) : zTk := match zwf l 12 with
  | none => (15, a, 0)
  | some k => (if k < 6 then 12 else k, a, k)
/-- what is taken at a: the token, if there is one, and the place behind -/
def ztk (B : Nat → Nat) (n a : Nat) : List zTk × Nat :=
  if B a = 32 ∨ B a = 10 then ([], a + 1)
  else if zisL (B a) = true then ([zwt (zsl B a (zrl (fun i => zisL (B i)) (n - a) a)) a], zrl (fun i => zisL (B i)) (n - a) a)
  else if zisD (B a) = true then ([(if zrl (fun i => zisD (B i)) (n - a) a - a ≤ 4 then 13 else 15, a, zvn B (zrl (fun i => zisD (B i)) (n - a) a - a) a 0)], zrl (fun i => zisD (B i)) (n - a) a)
  else ([(if zisS (B a) = true then B a else 15, a, 0)], a + 1)
/-- all from a on -/
def zlx (B : Nat → Nat) (n : Nat) : Nat → Nat → List zTk
  | 0, _ => [(14, n, 0)]
  | f + 1, a => if n ≤ a then [(14, n, 0)] else (ztk B n a).1 ++ zlx B n f (ztk B n a).2
theorem zrl_pos {f : Nat → Bool} {m a : Nat} (hm : 0 < m) (h : f a = true) : a + 1 ≤ zrl f m a := by
  match m, hm with
  | m + 1, _ =>
    unfold zrl
    rw [if_pos h]
    exact (zrl_le f m (a + 1)).1
theorem ztk_2 {B : Nat → Nat} {n a : Nat} (h : a < n) : a + 1 ≤ (ztk B n a).2 ∧ (ztk B n a).2 ≤ n ∧ (ztk B n a).1.length ≤ 1 := by
  unfold ztk
  split
  · exact ⟨Nat.le_refl _, h, Nat.zero_le _⟩
  · split
    · rename_i q
      exact ⟨zrl_pos (f := fun i => zisL (B i)) (by omega) q, by have := (zrl_le (fun i => zisL (B i)) (n - a) a).2; show zrl _ _ _ ≤ n; omega, Nat.le_refl _⟩
    · split
      · rename_i q
        exact ⟨zrl_pos (f := fun i => zisD (B i)) (by omega) q, by have := (zrl_le (fun i => zisD (B i)) (n - a) a).2; show zrl _ _ _ ≤ n; omega, Nat.le_refl _⟩
      · exact ⟨Nat.le_refl _, h, Nat.le_refl _⟩
/-- more fuel changes nothing -/
theorem zlx_f {B : Nat → Nat} {n : Nat} : ∀ f g a, n < f + a → n < g + a → zlx B n f a = zlx B n g a := by
  intro f
  induction f with
  | zero =>
    intro g a h1 h2
    match g with
    | 0 => rfl
    | g + 1 =>
      unfold zlx
      rw [if_pos (by omega)]
  | succ f ih =>
    intro g a h1 h2
    match g with
    | 0 =>
      unfold zlx
      rw [if_pos (by omega)]
    | g + 1 =>
      unfold zlx
      by_cases q : n ≤ a
      · rw [if_pos q, if_pos q]
      · rw [if_neg q, if_neg q, ih g _ (by have := (ztk_2 (B := B) (show a < n by omega)).1; omega) (by have := (ztk_2 (B := B) (show a < n by omega)).1; omega)]
/-- a token's bounds -/
def ztb (t : zTk) : Prop := t.1 < 256 ∧ t.2.1 ≤ 160 ∧ (t.1 = 12 → t.2.2 < 6) ∧ (t.1 = 13 → t.2.2 < 10000)
theorem ztb_15 {a v : Nat} (h : a ≤ 160) : ztb (15, a, v) ∧ ((15, a, v) : zTk).1 ≠ 14 := ⟨⟨(by decide : 15 < 256), h, fun q => absurd q (by decide : ¬ 15 = 12), fun q => absurd q (by decide : ¬ 15 = 13)⟩, (by decide : 15 ≠ 14)⟩
theorem ztb_12 {a v : Nat} (h : a ≤ 160) (hv : v < 6) : ztb (12, a, v) ∧ ((12, a, v) : zTk).1 ≠ 14 := ⟨⟨(by decide : 12 < 256), h, fun _ => hv, fun q => absurd q (by decide : ¬ 12 = 13)⟩, (by decide : 12 ≠ 14)⟩
theorem ztb_13 {a v : Nat} (h : a ≤ 160) (hv : v < 10000) : ztb (13, a, v) ∧ ((13, a, v) : zTk).1 ≠ 14 := ⟨⟨(by decide : 13 < 256), h, fun q => absurd q (by decide : ¬ 13 = 12), fun _ => hv⟩, (by decide : 13 ≠ 14)⟩
theorem zvn_le {B : Nat → Nat} : ∀ m a v b, (∀ k, k < m → zisD (B (a + k)) = true) → v < 10 ^ b → zvn B m a v < 10 ^ (b + m) := by
  intro m
  induction m with
  | zero => intro a v b _ h; exact h
  | succ m ih =>
    intro a v b hd h
    unfold zvn
    have h0 := hd 0 (by omega)
    rw [Nat.add_zero] at h0
    have h0 := of_decide_eq_true h0
    have := ih (a + 1) (10 * v + B a - 48) (b + 1) (fun k hk => by
      have := hd (k + 1) (by omega)
      rw [show a + (k + 1) = a + 1 + k by omega] at this
      exact this) (by rw [Nat.pow_succ]; omega)
    rw [show b + (m + 1) = b + 1 + m by omega]
    exact this
theorem zrl_all {f : Nat → Bool} : ∀ m a k, k < zrl f m a - a → f (a + k) = true := by
  intro m
  induction m with
  | zero => intro a k h; unfold zrl at h; omega
  | succ m ih =>
    intro a k h
    unfold zrl at h
    by_cases q : f a = true
    · rw [if_pos q] at h
      match k with
      | 0 => exact q
      | k + 1 =>
        have := ih (a + 1) k (by omega)
        rw [show a + (k + 1) = a + 1 + k by omega]
        exact this
    · rw [if_neg q] at h
      omega
theorem ztk_b {B : Nat → Nat} {n a : Nat} (hB : ∀ i, i < n → B i < 256) (hn : n ≤ 160) (h : a < n) : ∀ t ∈ (ztk B n a).1, ztb t ∧ t.1 ≠ 14 := by
  intro t ht
  unfold ztk at ht
  split at ht
  · cases ht
  · split at ht
    · have := List.mem_singleton.mp ht
      subst this
      unfold zwt
      split
      · exact ztb_15 (by omega)
      · rename_i k e
        have := (zwf_some 12 (Nat.le_refl _)).mp e
        by_cases q : k < 6
        · rw [if_pos q]
          exact ztb_12 (by omega) q
        · rw [if_neg q]
          exact ⟨⟨by show k < 256; omega, by show a ≤ 160; omega, fun z => by have z : k = 12 := z; omega, fun z => by have z : k = 13 := z; omega⟩, by show k ≠ 14; omega⟩
    · split at ht
      · have := List.mem_singleton.mp ht
        subst this
        by_cases q : zrl (fun i => zisD (B i)) (n - a) a - a ≤ 4
        · rw [if_pos q]
          refine ztb_13 (by omega) ?_
          have := zvn_le (B := B) (zrl (fun i => zisD (B i)) (n - a) a - a) a 0 0 (fun k hk => zrl_all (f := fun i => zisD (B i)) (n - a) a k hk) (by decide)
          have h2 : 10 ^ (0 + (zrl (fun i => zisD (B i)) (n - a) a - a)) ≤ 10 ^ 4 := Nat.pow_le_pow_right (by decide) (by omega)
          omega
        · rw [if_neg q]
          exact ztb_15 (by omega)
      · have := List.mem_singleton.mp ht
        subst this
        have hb := hB a h
        by_cases q : zisS (B a) = true
        · rw [if_pos q]
          have q := of_decide_eq_true q
          exact ⟨⟨by show B a < 256; omega, by show a ≤ 160; omega, fun z => by have z : B a = 12 := z; omega, fun z => by have z : B a = 13 := z; omega⟩, by show B a ≠ 14; omega⟩
        · rw [if_neg q]
          exact ztb_15 (by omega)
