/-! Which stand: the class' rounds and the model's, purely. -/
theorem zor_tb {A : Nat → Nat} {s : Nat} : ∀ (n i : Nat), (zor A s n).testBit i = true ↔ ∃ a, a < n ∧ s.testBit a = true ∧ (A a).testBit i = true := by
  intro n
  induction n with
  | zero =>
    intro i
    constructor
    · intro h
      rw [show zor A s 0 = 0 from rfl, Nat.zero_testBit] at h
      cases h
    · rintro ⟨a, h, -⟩
      omega
  | succ n ih =>
    intro i
    unfold zor
    by_cases c : s.testBit n = true
    · rw [if_pos c, Nat.testBit_or, Bool.or_eq_true, ih]
      constructor
      · rintro (⟨a, h1, h2⟩ | h)
        · exact ⟨a, by omega, h2⟩
        · exact ⟨n, by omega, c, h⟩
      · rintro ⟨a, h1, h2, h3⟩
        by_cases e : a = n
        · rw [e] at h3; exact Or.inr h3
        · exact Or.inl ⟨a, by omega, h2, h3⟩
    · rw [if_neg c, ih]
      constructor
      · rintro ⟨a, h1, h2⟩
        exact ⟨a, by omega, h2⟩
      · rintro ⟨a, h1, h2, h3⟩
        by_cases e : a = n
        · rw [e] at h2; exact absurd h2 c
        · exact ⟨a, by omega, h2, h3⟩
/-- within -/
def zsub (s t : Nat) : Prop := ∀ i, i < 10 → s.testBit i = true → t.testBit i = true
theorem zsub.zor {A : Nat → Nat} {s t : Nat} (h : zsub s t) (i : Nat) (q : (zor A s 10).testBit i = true) : (zor A t 10).testBit i = true := by
  obtain ⟨a, h1, h2, h3⟩ := (zor_tb 10 i).mp q
  exact (zor_tb 10 i).mpr ⟨a, h1, h a h1 h2, h3⟩
theorem zdiff_0 {a b : Nat} : zdiff a b = 0 ↔ ∀ i, i < 10 → a.testBit i = true → b.testBit i = true := by
  constructor
  · intro h i hi ha
    have := zdiff_tb (a := a) (b := b) (i := i)
    rw [h, Nat.zero_testBit, ha] at this
    simp [hi] at this
    exact this
  · intro h
    apply tb_ext (zdiff_lt a b) (by decide)
    intro i hi
    rw [zdiff_tb, Nat.zero_testBit]
    cases e : a.testBit i with
    | false => simp
    | true => simp [hi, h i hi e]
theorem zdefd_tb {A : Nat → Nat} {s i : Nat} (hi : i < 10) : (zdefd A s 10).testBit i = true ↔ zdiff (zinv A i) (zor A s 10) = 0 := by
  unfold zdefd
  rw [zset_tb]
  simp [hi]
theorem zdefd_mono {A : Nat → Nat} {s t : Nat} (h : zsub s t) : zsub (zdefd A s 10) (zdefd A t 10) := by
  intro i hi q
  rw [zdefd_tb hi, zdiff_0] at q ⊢
  exact fun j hj e => h.zor j (q j hj e)
theorem zsub_eq {s t : Nat} (hs : s < 1024) (ht : t < 1024) (h : zsub s t) (hp : zpop t ≤ zpop s) : s = t := by
  have b : ∀ i, i < 10 → (if s.testBit i = true then 1 else 0) ≤ (if t.testBit i = true then 1 else 0) := fun i hi => by
    have := h i hi
    cases e : s.testBit i with
    | false => simp
    | true => rw [this e]; exact Nat.le_refl _
  have b0 := b 0 (by decide)
  have b1 := b 1 (by decide)
  have b2 := b 2 (by decide)
  have b3 := b 3 (by decide)
  have b4 := b 4 (by decide)
  have b5 := b 5 (by decide)
  have b6 := b 6 (by decide)
  have b7 := b 7 (by decide)
  have b8 := b 8 (by decide)
  have b9 := b 9 (by decide)
  unfold zpop at hp
  have q : ∀ i, i < 10 → (if s.testBit i = true then 1 else 0) = (if t.testBit i = true then 1 else 0) := fun i hi => by
    rcases (show i = 0 ∨ i = 1 ∨ i = 2 ∨ i = 3 ∨ i = 4 ∨ i = 5 ∨ i = 6 ∨ i = 7 ∨ i = 8 ∨ i = 9 by omega) with rfl | rfl | rfl | rfl | rfl | rfl | rfl | rfl | rfl | rfl <;> omega
  apply tb_ext hs ht
  intro i hi
  have := q i hi
  cases e1 : s.testBit i <;> cases e2 : t.testBit i <;> rw [e1, e2] at this <;> first | rfl | (simp at this)
theorem zsub.pop {s t : Nat} (hs : s < 1024) (ht : t < 1024) (h : zsub s t) (hne : s ≠ t) : zpop s < zpop t := by
  apply Nat.lt_of_not_le
  exact fun q => hne (zsub_eq hs ht h q)
theorem zstand_up (A : Nat → Nat) : ∀ k, zsub (zstand A k) (zstand A (k + 1)) := by
  intro k
  induction k with
  | zero =>
    intro i _ q
    rw [show zstand A 0 = 0 from rfl, Nat.zero_testBit] at q
    cases q
  | succ k ih => exact zdefd_mono ih
theorem zstand_grow (A : Nat → Nat) : ∀ k, k ≤ zpop (zstand A k) ∨ zstand A (k + 1) = zstand A k := by
  intro k
  induction k with
  | zero => exact Or.inl (Nat.zero_le _)
  | succ k ih =>
    rcases ih with h | h
    · by_cases e : zstand A k = zstand A (k + 1)
      · right
        show zdefd A (zstand A (k + 1)) 10 = zstand A (k + 1)
        rw [← e]
        exact e.symm
      · left
        have := (zstand_up A k).pop (zstand_lt A k) (zstand_lt A (k + 1)) e
        omega
    · right
      show zdefd A (zstand A (k + 1)) 10 = zstand A (k + 1)
      rw [h]
      exact h
theorem zpop_all : zpop 1023 = 10 := by decide
theorem zsub_all (s : Nat) : zsub s 1023 := fun i hi _ => by
  rcases (show i = 0 ∨ i = 1 ∨ i = 2 ∨ i = 3 ∨ i = 4 ∨ i = 5 ∨ i = 6 ∨ i = 7 ∨ i = 8 ∨ i = 9 by omega) with rfl | rfl | rfl | rfl | rfl | rfl | rfl | rfl | rfl | rfl <;> decide
/-- what stands holds all that it defends -/
theorem zstand_fix (A : Nat → Nat) : zsub (zdefd A (zstand A 10) 10) (zstand A 10) := by
  rcases zstand_grow A 10 with h | h
  · have e := zsub_eq (zstand_lt A 10) (by decide) (zsub_all _) (by rw [zpop_all]; exact h)
    rw [e]
    exact zsub_all _
  · intro i hi q
    rw [← h]
    exact q
/-- a set that holds all that it defends holds all that stands -/
theorem zstand_least {A : Nat → Nat} {s : Nat} (h : zsub (zdefd A s 10) s) : ∀ k, zsub (zstand A k) s := by
  intro k
  induction k with
  | zero =>
    intro i _ q
    rw [show zstand A 0 = 0 from rfl, Nat.zero_testBit] at q
    cases q
  | succ k ih => exact fun i hi q => h i hi (zdefd_mono ih i hi q)
theorem zor_add {A : Nat → Nat} {s k : Nat} (hA : ∀ i, i < 10 → A i < 1024) (hk : k < 10) : zor A s 10 ||| A k = zor A (s ||| 2 ^ k) 10 := by
  apply tb_ext (or_lt (zor_lt hA 10 (Nat.le_refl _)) (hA k hk)) (zor_lt hA 10 (Nat.le_refl _))
  intro i hi
  rw [Bool.eq_iff_iff, Nat.testBit_or, Bool.or_eq_true, zor_tb, zor_tb]
  constructor
  · rintro (⟨a, h1, h2, h3⟩ | h)
    · exact ⟨a, h1, by rw [Nat.testBit_or, h2]; rfl, h3⟩
    · exact ⟨k, hk, by rw [Nat.testBit_or, tb_pow]; simp, h⟩
  · rintro ⟨a, h1, h2, h3⟩
    rw [Nat.testBit_or, Bool.or_eq_true, tb_pow] at h2
    rcases h2 with h2 | h2
    · exact Or.inl ⟨a, h1, h2, h3⟩
    · have e : a = k := by simpa using h2
      rw [e] at h3
      exact Or.inr h3
/-- free, looked at one by one -/
theorem zfree_all {A : Nat → Nat} {s : Nat} : ∀ n, (zall (fun a => !(s.testBit a) || (A a &&& s == 0)) n = true) ↔ zor A s n &&& s = 0 := by
  intro n
  induction n with
  | zero => simp [zall, zor]
  | succ n ih =>
    show (zall (fun a => !(s.testBit a) || (A a &&& s == 0)) n && (!(s.testBit n) || (A n &&& s == 0))) = true ↔ _
    rw [Bool.and_eq_true, ih, show zor A s (n + 1) = (if s.testBit n = true then zor A s n ||| A n else zor A s n) from rfl]
    by_cases c : s.testBit n = true
    · rw [if_pos c, c, Nat.and_comm (zor A s n ||| A n), Nat.and_or_distrib_left, Nat.or_eq_zero_iff, Nat.and_comm s, Nat.and_comm s]
      simp
    · rw [if_neg c, Bool.eq_false_iff.mpr c]
      simp
theorem zdiff_or {x y z : Nat} : zdiff (zdiff x y) z = zdiff x (y ||| z) := by
  apply tb_ext (zdiff_lt _ _) (zdiff_lt _ _)
  intro i hi
  rw [zdiff_tb, zdiff_tb, zdiff_tb, Nat.testBit_or]
  cases x.testBit i <;> cases y.testBit i <;> cases z.testBit i <;> simp [hi]
