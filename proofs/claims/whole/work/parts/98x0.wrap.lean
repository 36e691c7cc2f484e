/-! Constructors: worlds as lists of what was put; rows on them. -/
def zsrs : List (Nat × Nat × Nat) → Nat → Nat → Option Nat
  | [], _, _ => none
  | e :: l, b, j => if b = e.1 ∧ j = e.2.1 then some e.2.2 else zsrs l b j
def zsis : List (Nat × Nat × Int32) → Nat → Nat → Int32
  | [], _, _ => 0
  | e :: l, b, j => if b = e.1 ∧ j = e.2.1 then e.2.2 else zsis l b j
def zW0 (L : List (Nat × Nat × Nat)) (K : List (Nat × Nat × Int32)) : mW := (zsrs L, zsis K, fun _ _ => 0)
section WRP
variable {Γ : mG} {M : mM} {F : mF} {d n0 mc ms pc ce sl : Nat} {ls st : List Value} {w : mW} {L : List (Nat × Nat × Nat)} {K : List (Nat × Nat × Int32)}
theorem sr_z {a k x : Nat} : sr (zW0 L K) a k (some x) = zW0 ((a, k, x) :: L) K := rfl
theorem si_z {a k : Nat} {x : Int32} : si (zW0 L K) a k x = zW0 L ((a, k, x) :: K) := rfl
theorem zDef.z {a k x b : Nat} (h : zDef (zW0 L K) b) (hne : b ≠ a) : zDef (zW0 ((a, k, x) :: L) K) b := ⟨fun j => (if_neg (fun q => hne q.1)).trans (h.1 j), h.2⟩
theorem zDef.k {a k b : Nat} {x : Int32} (h : zDef (zW0 L K) b) (hne : b ≠ a) : zDef (zW0 L ((a, k, x) :: K)) b := ⟨h.1, fun j => (if_neg (fun q => hne q.1)).trans (h.2.1 j), h.2.2⟩
theorem zz_putR {i c k pl a b : Nat} (hd : decode M.2.2.1 pc = .ok (.putfield i, 3)) (hk : k < zN c) (hl0 : zpl pl = some (.fieldLink M.2.1 i (zT c k).1 (zT c k).2.1 (zT c k).2.2.1)) (hfin : (zT c k).2.2.2 = true) (hnm : M.1.name = "<init>") (hdecl : (zT c k).1 = M.2.1) (ho : zOb (n0 + ce) a c) (hb4 : b < 4096) (hn : narrow (zY c k) (.ref (gB Γ + b)) = .ref (gB Γ + b)) (hf : fits (zY c k) (.ref (gB Γ + b)) = true) (hy : ∀ (w' : mW) , zf Γ w' a c k = va_rf ((w'.1 a k).map (zl Γ)))
    (h : V Γ M F d n0 mc ms (pc + 3) ls st (zW0 ((a, k, b) :: L) K) ce sl) : V Γ M F d n0 mc ms pc ls (.ref b :: .ref a :: st) (zW0 L K) ce sl := zs_putR hd hk hl0 hfin hnm hdecl ho hb4 hn hf hy h
theorem zz_putI {i c k pl a : Nat} {x : Int32} (hd : decode M.2.2.1 pc = .ok (.putfield i, 3)) (hk : k < zN c) (hl0 : zpl pl = some (.fieldLink M.2.1 i (zT c k).1 (zT c k).2.1 (zT c k).2.2.1)) (hfin : (zT c k).2.2.2 = false) (hy : zY c k = .int) (ho : zOb (n0 + ce) a c)
    (h : V Γ M F d n0 mc ms (pc + 3) ls st (zW0 L ((a, k, x) :: K)) ce sl) : V Γ M F d n0 mc ms pc ls (.int x :: .ref a :: st) (zW0 L K) ce sl := zs_putg hd hk hl0 hfin ho (by rw [hy]; rfl) (by rw [hy]; rfl) rfl (zw_puti ho.2 (Or.inl hy)) h
theorem zz_astq {a b c t j : Nat} {i : Int32} (hnx : n0 + ce ≤ 82) (hd : decode M.2.2.1 pc = .ok (.aastore, 1)) (ho : zAr (n0 + ce) a t) (ht : (t = 2 ∧ c = 0) ∨ (t = 3 ∧ c = 5) ∨ (t = 4 ∧ c = 8)) (hob : zOb (n0 + ce) b c) (hi : vp_in i (zL a).2) (hj : i.toNatClampNeg = j)
    (h : V Γ M F d n0 mc ms (pc + 1) ls st (zW0 ((a, j, b) :: L) K) ce sl) : V Γ M F d n0 mc ms pc ls (.ref b :: .int i :: .ref a :: st) (zW0 L K) ce sl := zs_astq hnx hd ho ht hob hi (by rw [hj]; exact h)
theorem zz_alen {a t : Nat} {n : Int32} (hnx : n0 + ce ≤ 4096) (hd : decode M.2.2.1 pc = .ok (.arraylength, 1)) (ho : zAr (n0 + ce) a t) (ht : t ≤ 4) (hn : Int32.ofNat (zL a).2 = n) (h : V Γ M F d n0 mc ms (pc + 1) ls (.int n :: st) w ce sl) : V Γ M F d n0 mc ms pc ls (.ref a :: st) w ce sl := zs_alen hnx hd ho ht (by rw [hn]; exact h)
theorem zz_istore {k : Fin 4} {i : Nat} {x : Int32} {ls' : List Value} (hd : decode M.2.2.1 pc = .ok (.istore_n k, 1)) (hi : (k : Nat) = i) (hn : i < M.2.2.2.1) (hls : z1 ls i (.int x) = ls') (h : V Γ M F d n0 mc ms (pc + 1) ls' st w ce sl) : V Γ M F d n0 mc ms pc ls (.int x :: st) w ce sl := zs_istore_n hd hi hn (by rw [hls]; exact h)
theorem zz_iinc {i : Nat} {n : Int} {x v : Int32} {ls' : List Value} (hd : decode M.2.2.1 pc = .ok (.iinc i n, 3)) (hv : Int32.ofInt n = v) (hx : ls[i]? = some (.int x)) (hn : i < M.2.2.2.1) (hls : z1 ls i (.int (x + v)) = ls') (h : V Γ M F d n0 mc ms (pc + 3) ls' st w ce sl) : V Γ M F d n0 mc ms pc ls st w ce sl := zs_iinc hd hv hx hn (by rw [hls]; exact h)
end WRP
