/-! Bits and small numbers. -/
theorem fa_lit (n : Nat) : (OfNat.ofNat n : Int32) = nI n := rfl
theorem nT {n : Nat} (h : n < 2 ^ 31) : (nI n).toNatClampNeg = n := nI_clamp h
/-- the set of those below n of which P holds -/
def zset (P : Nat → Bool) : Nat → Nat
  | 0 => 0
  | n + 1 => zset P n + (if P n then 2 ^ n else 0)
theorem zset_lt (P : Nat → Bool) : ∀ n, zset P n < 2 ^ n := by
  intro n
  induction n with
  | zero => show 0 < 1; decide
  | succ n ih =>
    unfold zset
    have : 2 ^ (n + 1) = 2 ^ n + 2 ^ n := by rw [Nat.pow_succ]; omega
    by_cases h : P n <;> simp [h] <;> omega
theorem zset_tb (P : Nat → Bool) : ∀ n i, (zset P n).testBit i = (decide (i < n) && P i) := by
  intro n
  induction n with
  | zero => intro i; simp [zset]
  | succ n ih =>
    intro i
    unfold zset
    have hlt := zset_lt P n
    by_cases hp : P n
    · simp only [hp, if_true]
      rw [Nat.add_comm]
      by_cases hi : i = n
      · subst hi
        rw [Nat.testBit_two_pow_add_eq, ih]
        simp [hp]
      · rcases Nat.lt_or_ge i n with h | h
        · rw [Nat.testBit_two_pow_add_gt h, ih]
          simp [h, Nat.lt_succ_of_lt h]
        · have h2 : n < i := by omega
          rw [Nat.testBit_lt_two_pow]
          · have : ¬ i < n + 1 := by omega
            simp [this]
          · calc 2 ^ n + zset P n < 2 ^ n + 2 ^ n := by omega
              _ = 2 ^ (n + 1) := by rw [Nat.pow_succ]; omega
              _ ≤ 2 ^ i := Nat.pow_le_pow_right (by decide) h2
    · simp only [hp]
      rw [show (zset P n + if false = true then 2 ^ n else 0) = zset P n from by simp, ih]
      by_cases hi : i = n
      · subst hi; simp [hp]
      · have : (i < n + 1) ↔ (i < n) := by omega
        simp [this]
theorem tb_big {a i : Nat} (ha : a < 1024) (hi : 10 ≤ i) : a.testBit i = false := Nat.testBit_lt_two_pow (Nat.lt_of_lt_of_le ha (by calc 1024 = 2 ^ 10 := rfl
  _ ≤ 2 ^ i := Nat.pow_le_pow_right (by decide) hi))
theorem tb_ext {a b : Nat} (ha : a < 1024) (hb : b < 1024) (h : ∀ i, i < 10 → a.testBit i = b.testBit i) : a = b := by
  apply Nat.eq_of_testBit_eq
  intro i
  rcases Nat.lt_or_ge i 10 with hi | hi
  · exact h i hi
  · rw [tb_big ha hi, tb_big hb hi]
theorem zset_self {a : Nat} (ha : a < 1024) : zset (fun i => a.testBit i) 10 = a := by
  apply tb_ext (zset_lt _ 10) ha
  intro i hi
  rw [zset_tb]
  simp [hi]
theorem zset_congr {P P' : Nat → Bool} : ∀ n, (∀ i, i < n → P i = P' i) → zset P n = zset P' n := by
  intro n
  induction n with
  | zero => intro _; rfl
  | succ n ih =>
    intro h
    unfold zset
    rw [ih (fun i hi => h i (by omega)), h n (by omega)]
/-- how many -/
def zpop (b : Nat) : Nat := (if b.testBit 0 then 1 else 0) + (if b.testBit 1 then 1 else 0) + (if b.testBit 2 then 1 else 0) + (if b.testBit 3 then 1 else 0) + (if b.testBit 4 then 1 else 0) + (if b.testBit 5 then 1 else 0) + (if b.testBit 6 then 1 else 0) + (if b.testBit 7 then 1 else 0) + (if b.testBit 8 then 1 else 0) + (if b.testBit 9 then 1 else 0)
theorem zpop_le (b : Nat) : zpop b ≤ 10 := by
  unfold zpop
  repeat' split
  all_goals omega
theorem zBC_N : ∀ b, b < 1024 → zBC (nI b) = nI (zpop b) := by decide +kernel
theorem fa_and (a b : Nat) : nI a &&& nI b = nI (a &&& b) := by
  apply Int32.toBitVec_inj.mp
  show (BitVec.ofNat 32 a) &&& (BitVec.ofNat 32 b) = BitVec.ofNat 32 (a &&& b)
  apply BitVec.eq_of_toNat_eq
  simp [Nat.and_mod_two_pow]
theorem fa_or (a b : Nat) : nI a ||| nI b = nI (a ||| b) := by
  apply Int32.toBitVec_inj.mp
  show (BitVec.ofNat 32 a) ||| (BitVec.ofNat 32 b) = BitVec.ofNat 32 (a ||| b)
  apply BitVec.eq_of_toNat_eq
  simp [Nat.or_mod_two_pow]
theorem fa_xor (a b : Nat) : nI a ^^^ nI b = nI (a ^^^ b) := by
  apply Int32.toBitVec_inj.mp
  show (BitVec.ofNat 32 a) ^^^ (BitVec.ofNat 32 b) = BitVec.ofNat 32 (a ^^^ b)
  apply BitVec.eq_of_toNat_eq
  simp [Nat.xor_mod_two_pow]
theorem zm1 : (-1 : Int32) = nI (2 ^ 32 - 1) := by decide +kernel
/-- less those -/
def zdiff (a b : Nat) : Nat := zset (fun i => a.testBit i && !b.testBit i) 10
theorem zdiff_tb {a b i : Nat} : (zdiff a b).testBit i = (decide (i < 10) && (a.testBit i && !b.testBit i)) := zset_tb _ _ _
theorem zdiff_lt (a b : Nat) : zdiff a b < 1024 := zset_lt _ 10
theorem fa_diff {a b : Nat} (ha : a < 1024) (hb : b < 1024) : nI a &&& (nI b ^^^ (-1)) = nI (zdiff a b) := by
  rw [zm1, fa_xor, fa_and]
  congr 1
  apply Nat.eq_of_testBit_eq
  intro i
  rw [Nat.testBit_and, Nat.testBit_xor, zdiff_tb, Nat.testBit_two_pow_sub_one]
  rcases Nat.lt_or_ge i 10 with hi | hi
  · simp [hi, show i < 32 by omega]
  · rw [tb_big ha hi]
    simp
theorem fa_shl : ∀ k, k < 16 → (1 : Int32) <<< (nI k &&& 31) = nI (2 ^ k) := by decide +kernel
theorem fa_smod : ∀ k, k < 32 → ((nI k &&& 31).toBitVec.smod 32).toNat = k := by decide +kernel
theorem fa_tb {s k : Nat} (hs : s < 2 ^ 31) (hk : k < 32) : ((nI s >>> (nI k &&& 31)) &&& 1 = 1) ↔ s.testBit k = true := by
  rw [pk_shrN hs _ k (fa_smod k hk), pk_andN (n := s / 2 ^ k) (Nat.lt_of_le_of_lt (Nat.div_le_self _ _) (by omega)) 1 (m := 1) rfl]
  rw [show (1 : Int32) = nI 1 from rfl, nI_eq (by omega) (by omega), Nat.testBit_eq_decide_div_mod_eq]
  simp
theorem fa_bit {s k : Nat} (hs : s < 2 ^ 31) (hk : k < 32) : (nI s >>> (nI k &&& 31)) &&& 1 = nI (if s.testBit k then 1 else 0) := by
  rw [pk_shrN hs _ k (fa_smod k hk), pk_andN (n := s / 2 ^ k) (Nat.lt_of_le_of_lt (Nat.div_le_self _ _) (by omega)) 1 (m := 1) rfl]
  rw [Nat.testBit_eq_decide_div_mod_eq]
  congr 1
  have h2 : s / 2 ^ k % 2 = 0 ∨ s / 2 ^ k % 2 = 1 := by omega
  rcases h2 with h | h <;> simp [h]
theorem and_lt {a b : Nat} (ha : a < 1024) : a &&& b < 1024 := Nat.lt_of_le_of_lt Nat.and_le_left ha
theorem or_lt {a b : Nat} (ha : a < 1024) (hb : b < 1024) : a ||| b < 1024 := Nat.or_lt_two_pow (n := 10) ha hb
/-- a counting loop -/
theorem zloop {P : Nat → Prop} {n : Nat} (hn : P n) (hs : ∀ k, k < n → P (k + 1) → P k) : ∀ k, k ≤ n → P k := by
  intro k hk
  have : ∀ j i, i + j = n → P i := by
    intro j
    induction j with
    | zero => intro i h; rw [show i = n by omega]; exact hn
    | succ j ih => intro i h; exact hs i (by omega) (ih (i + 1) (by omega))
  exact this (n - k) k (by omega)
theorem zleN (n : Nat) {x : Int32} {k : Nat} (hx : x = nI n) (hn : n < 2 ^ 31) (hk : k < 2 ^ 31) : (x ≤ nI k) ↔ n ≤ k := by rw [hx]; exact nI_leI hn hk
theorem zltN (n : Nat) {x : Int32} {k : Nat} (hx : x = nI n) (hn : n < 2 ^ 31) (hk : k < 2 ^ 31) : (x < nI k) ↔ n < k := by rw [hx]; exact nI_ltI hn hk
theorem zlt0 {k : Nat} (hk : k < 2 ^ 31) : ¬ nI k < 0 := nI_pos hk
