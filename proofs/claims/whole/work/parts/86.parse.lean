/-! How a text is read: tokens, expressions, the reading. -/
abbrev zTk := Nat × Nat × Nat
/-- what is read: its steps, and what it says -/
abbrev zE := List Int32 × ((Nat → Int32) → Int32)
def zEnum (n : Nat) : zE := ([nI (100 + n)], fun _ => nI n)
def zEnam (k : Nat) : zE := ([nI k], fun g => g k)
def zEneg (e : zE) : zE := (e.1 ++ [6], fun g => -(e.2 g))
def zEnt (e : zE) : zE := (e.1 ++ [7], fun g => if e.2 g = 0 then 1 else 0)
def zEbin (o : Nat) (a b : zE) : zE := (a.1 ++ b.1 ++ [nI o], fun g => zo2 (nI o) (a.2 g) (b.2 g))
/-- a fault's place; or what is left, and what is read -/
abbrev zRs := Sum Nat (List zTk × zE)
def zmp (mk : zE → zE) : zRs → zRs
  | .inl p => .inl p
  | .inr (r, e) => .inr (r, mk e)
/-- behind it this token -/
def zcl (s : Nat) : zRs → zRs
  | .inl p => .inl p
  | .inr ([], _) => .inl 0
  | .inr (t :: r, e) => if t.1 = s then .inr (r, e) else .inl t.2.1
def zlq (f : List zTk → zRs) (sel : Nat → Nat) : Nat → zRs → zRs
  | 0, s => s
  | _ + 1, .inl p => .inl p
  | _ + 1, .inr ([], e) => .inr ([], e)
  | n + 1, .inr (t :: r, e) => if sel t.1 = 0 then .inr (t :: r, e) else (match f r with
    | .inl p => .inl p
    | .inr (r2, e2) => zlq f sel n (.inr (r2, zEbin (sel t.1) e e2)))
def zselT (s : Nat) : Nat := if s = 42 then 8 else 0
def zselS (s : Nat) : Nat := if s = 43 then 9 else if s = 45 then 10 else 0
def zselC (s : Nat) : Nat := if s = 60 then 11 else if s = 61 then 12 else 0
def zselB (s : Nat) : Nat := if s = 10 then 13 else 0
def zselE (s : Nat) : Nat := if s = 9 then 14 else 0
def zun (s d : Nat) (f g : List zTk → zRs) (mk : zE → zE) : List zTk → zRs
  | [] => g []
  | t :: r => if t.1 = s ∧ 0 < d then zmp mk (f r) else g (t :: r)
def zsm (d : Nat) (f : List zTk → zRs) : List zTk → zRs
  | [] => .inl 0
  | t :: r => if t.1 = 13 then .inr (r, zEnum t.2.2) else if t.1 = 12 then .inr (r, zEnam t.2.2) else if t.1 = 40 ∧ 0 < d then zcl 41 (f r) else .inl t.2.1
/-- the levels over those of one more open: one, term, sum, compared, truth, both, either -/
def zL1 (d : Nat) (rc : Nat → List zTk → zRs) : List zTk → zRs := zun 45 d (rc 0) (zsm d (rc 2)) zEneg
def zL2 (d : Nat) (rc : Nat → List zTk → zRs) : List zTk → zRs := fun L => zlq (zL1 d rc) zselT 160 (zL1 d rc L)
def zL3 (d : Nat) (rc : Nat → List zTk → zRs) : List zTk → zRs := fun L => zlq (zL2 d rc) zselS 160 (zL2 d rc L)
def zL4 (d : Nat) (rc : Nat → List zTk → zRs) : List zTk → zRs := fun L => zlq (zL3 d rc) zselC 1 (zL3 d rc L)
def zL5 (d : Nat) (rc : Nat → List zTk → zRs) : List zTk → zRs := zun 11 d (rc 1) (zL4 d rc) zEnt
def zL6 (d : Nat) (rc : Nat → List zTk → zRs) : List zTk → zRs := fun L => zlq (zL5 d rc) zselB 160 (zL5 d rc L)
def zL7 (d : Nat) (rc : Nat → List zTk → zRs) : List zTk → zRs := fun L => zlq (zL6 d rc) zselE 160 (zL6 d rc L)
def zlv (d : Nat) (rc : Nat → List zTk → zRs) : Nat → List zTk → zRs
  | 0 => zL1 d rc
  | 1 => zL5 d rc
  | _ => zL7 d rc
/-- by the opens that may still come -/
def zpp : Nat → Nat → List zTk → zRs
  | 0 => zlv 0 (fun _ _ => .inl 0)
  | d + 1 => zlv (d + 1) (zpp d)
def zrc : Nat → Nat → List zTk → zRs
  | 0 => fun _ _ => .inl 0
  | d + 1 => zpp d
theorem zpp_lv (d : Nat) : zpp d = zlv d (zrc d) := by cases d <;> rfl
/-- a part: its key word, either, ; -/
def zpt (key : Nat) : List zTk → zRs
  | [] => .inl 0
  | t :: r => if t.1 = key then zcl 59 (zpp 5 2 r) else .inl t.2.1
/-- the whole text: a fault's place; or its three parts -/
def zrd (L : List zTk) : Sum Nat (zE × zE × zE) := match zpt 6 L with
  | .inl p => .inl p
  | .inr (r1, e1) => (match zpt 7 r1 with
    | .inl p => .inl p
    | .inr (r2, e2) => (match zpt 8 r2 with
      | .inl p => .inl p
      | .inr ([], _) => .inl 0
      | .inr (t :: _, e3) => if t.1 = 14 then .inr (e1, e2, e3) else .inl t.2.1))
/-- steps on a list -/
def zsr (g : Nat → Int32) : List Int32 → List Int32 → List Int32
  | [], l => l
  | s :: c, l => zsr g c (zrp g s l)
theorem zsr_app (g : Nat → Int32) : ∀ (a b l : List Int32), zsr g (a ++ b) l = zsr g b (zsr g a l) := by
  intro a
  induction a with
  | nil => intro b l; rfl
  | cons s a ih => intro b l; exact ih b _
theorem zrun_sr (f g : Nat → Int32) : ∀ (c : List Int32) (i : Nat) (l : List Int32), (∀ k, k < c.length → f (i + k) = c.getD k 0) → zrun f g c.length i l = zsr g c l := by
  intro c
  induction c with
  | nil => intro i l _; rfl
  | cons s c ih =>
    intro i l h
    show zrun f g c.length (i + 1) (zrp g (f i) l) = zsr g c (zrp g s l)
    have h0 := h 0 (by simp)
    rw [show i + 0 = i from rfl] at h0
    rw [h0]
    exact ih (i + 1) _ (fun k hk => by
      have := h (k + 1) (by simp; omega)
      rw [show i + 1 + k = i + (k + 1) by omega, this]
      rfl)
theorem zrp_v {g : Nat → Int32} {s : Int32} {l : List Int32} (h : s < 6 ∨ ¬ s < 100) (hl : l.length < 160) : zrp g s l = zvl g s :: l := by
  unfold zrp
  rw [if_pos h, if_pos hl]
/-- the steps say what it says -/
def zEk (e : zE) : Prop := 0 < e.1.length ∧ ∀ (g : Nat → Int32) (l : List Int32), l.length + e.1.length ≤ 160 → zsr g e.1 l = e.2 g :: l
theorem zEk.num {n : Nat} (h : n < 10000) : zEk (zEnum n) := by
  refine ⟨Nat.zero_lt_one, fun g l hl => ?_⟩
  have hl : l.length + 1 ≤ 160 := hl
  have c : ¬ nI (100 + n) < 100 := fun c => absurd ((nI_ltI (b := 100) (by omega) (by decide)).mp c) (by omega)
  show zrp g (nI (100 + n)) l = nI n :: l
  rw [zrp_v (Or.inr c) (by omega)]
  unfold zvl
  rw [if_pos c, show (100 : Int32) = nI 100 from rfl, nI_subN (by omega)]
  rw [show 100 + n - 100 = n by omega]
theorem zEk.nam {k : Nat} (h : k < 6) : zEk (zEnam k) := by
  refine ⟨Nat.zero_lt_one, fun g l hl => ?_⟩
  have hl : l.length + 1 ≤ 160 := hl
  have c : nI k < 6 := (nI_ltI (b := 6) (by omega) (by decide)).mpr h
  have c2 : nI k < 100 := (nI_ltI (b := 100) (by omega) (by decide)).mpr (by omega)
  have c6 : ¬ (6 : Int32) ≤ nI k := fun q => absurd ((nI_leI (a := 6) (by decide) (by omega)).mp q) (by omega)
  show zrp g (nI k) l = g k :: l
  rw [zrp_v (Or.inl c) (by omega)]
  unfold zvl
  rw [if_neg (fun q => q c2), if_pos ⟨zlt0 (by omega), c6⟩, nT (by omega)]
theorem zEk.neg {e : zE} (h : zEk e) : zEk (zEneg e) := by
  refine ⟨by show 0 < (e.1 ++ [6]).length; simp, fun g l hl => ?_⟩
  have hl : l.length + (e.1 ++ [6]).length ≤ 160 := hl
  rw [List.length_append] at hl
  show zsr g (e.1 ++ [6]) l = _
  rw [zsr_app, h.2 g l (by omega)]
  rfl
theorem zEk.nt {e : zE} (h : zEk e) : zEk (zEnt e) := by
  refine ⟨by show 0 < (e.1 ++ [7]).length; simp, fun g l hl => ?_⟩
  have hl : l.length + (e.1 ++ [7]).length ≤ 160 := hl
  rw [List.length_append] at hl
  show zsr g (e.1 ++ [7]) l = _
  rw [zsr_app, h.2 g l (by omega)]
  rfl
theorem zEk.bin {o : Nat} {a b : zE} (ho : 8 ≤ o ∧ o ≤ 14) (ha : zEk a) (hb : zEk b) : zEk (zEbin o a b) := by
  refine ⟨by show 0 < (a.1 ++ b.1 ++ [nI o]).length; simp; omega, fun g l hl => ?_⟩
  have hl : l.length + (a.1 ++ b.1 ++ [nI o]).length ≤ 160 := hl
  rw [List.length_append, List.length_append] at hl
  have a0 := ha.1
  have hl : l.length + (a.1.length + b.1.length + 1) ≤ 160 := hl
  show zsr g (a.1 ++ b.1 ++ [nI o]) l = _
  rw [zsr_app, zsr_app, ha.2 g l (by omega), hb.2 g _ (by show l.length + 1 + b.1.length ≤ 160; omega)]
  show zrp g (nI o) (b.2 g :: a.2 g :: l) = zo2 (nI o) (a.2 g) (b.2 g) :: l
  unfold zrp
  have c6 : ¬ nI o < 6 := fun c => absurd ((nI_ltI (b := 6) (by omega) (by decide)).mp c) (by omega)
  have c100 : nI o < 100 := (nI_ltI (b := 100) (by omega) (by decide)).mpr (by omega)
  rw [if_neg (fun q => q.elim c6 (fun z => z c100)), if_neg (fun q => q.elim (fun z => absurd ((nI_eq (b := 6) (by omega) (by decide)).mp z) (by omega)) (fun z => absurd ((nI_eq (b := 7) (by omega) (by decide)).mp z) (by omega)))]
  rfl
