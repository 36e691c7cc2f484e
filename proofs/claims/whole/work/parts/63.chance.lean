/-! The calls: chance; lowest terms. -/
/-- the common divisor, as the class takes it -/
def zgc : Nat → Nat → Nat → Nat
  | 0, a, _ => a
  | n + 1, a, b => if b = 0 then a else zgc n b (a % b)
theorem zgc_eq : ∀ (n a b : Nat), b < n → zgc n a b = Nat.gcd a b := by
  intro n
  induction n with
  | zero => intro a b h; omega
  | succ n ih =>
    intro a b h
    unfold zgc
    by_cases e : b = 0
    · rw [if_pos e, e, Nat.gcd_zero_right]
    · rw [if_neg e, ih b (a % b) (by have := Nat.mod_lt a (show b > 0 by omega); omega), Nat.gcd_comm b, Nat.gcd_mod_right]
      sorry
section PUBO
variable {Γ : mG} {d : Nat} {w w' : mW} {Q : Value → mW → Prop} {σ : mS} {x y z v : Int32} {s i j n N H E K : Nat}
end PUBO
