/-! The state that both hold: tables of small numbers, the sheets' items, what the texts say. -/
/-- tables: 0 against, 1 kinds, 2 numbers, 3 held, 4 eggs, 5 (day, hens, rule, texts, taped, is there, the image's day, rule, hens), 6 .. 9 the image's against, numbers, held, eggs, 10 sorts (0 missing), 11 sizes, 12 the tape -/
abbrev mS : Type := (Nat → Nat → Nat) × (Nat → Nat → Int32) × (Nat → Nat → (Nat → Int32) → Int32)
def su (σ : mS) (a k v : Nat) : mS := (fun b => if b = a then (fun j => if j = k then v else σ.1 a j) else σ.1 b, σ.2)
def sw (σ : mS) (a : Nat) (f : Nat → Nat) : mS := (fun b => if b = a then f else σ.1 b, σ.2)
theorem su_s {σ : mS} {a k v : Nat} : (su σ a k v).1 a k = v := by simp [su]
theorem su_o {σ : mS} {a k v b : Nat} (h : b ≠ a) : (su σ a k v).1 b = σ.1 b := by simp [su, h]
theorem su_k {σ : mS} {a k v j : Nat} (h : j ≠ k) : (su σ a k v).1 a j = σ.1 a j := by simp [su, h]
/-- a sheet's sort as its int -/
def zso : Nat → Int32
  | 0 => -1
  | k + 1 => nI k
def zC2 (w : mW) (σ : mS) : Prop := σ.1 5 1 ≤ 5 ∧ ∀ j, j < σ.1 5 1 → zHn w (36 + j) (σ.1 1 j) (σ.1 2 j) (σ.1 3 j) (σ.1 4 j)
def zC3 (w : mW) (σ : mS) : Prop := w.2.1 0 10 = nI (σ.1 5 0) ∧ w.2.1 0 11 = nI (σ.1 5 1) ∧ w.2.1 0 12 = nI (σ.1 5 3) ∧ w.2.1 0 13 = nI (σ.1 5 2)
def zC4 (w : mW) (σ : mS) : Prop := σ.1 5 3 ≤ 6 ∧ ∀ t, t < σ.1 5 3 → ∃ e, zTx w t e (σ.2.2 t)
def zC5 (w : mW) (σ : mS) : Prop := w.2.1 8 1 = nI (σ.1 5 4) ∧ ∀ i, i < σ.1 5 4 → w.2.1 9 i = nI (σ.1 12 i)
def zC6 (w : mW) (σ : mS) : Prop := ∀ s, s < 4 → w.2.1 (59 + 2 * s) 1 = zso (σ.1 10 s) ∧ w.2.1 (59 + 2 * s) 2 = nI (σ.1 11 s) ∧ ∀ i, i < σ.1 11 s → w.2.1 (60 + 2 * s) i = σ.2.1 s i
def zC7 (w : mW) (σ : mS) : Prop := w.2.1 25 2 = nI (σ.1 5 5) ∧ (σ.1 5 5 = 1 → (w.2.1 25 3 = nI (σ.1 5 6) ∧ w.2.1 25 4 = nI (σ.1 5 7) ∧ w.2.1 25 5 = nI (σ.1 5 8)) ∧ (∀ i, i < 10 → σ.1 6 i < 1024 ∧ w.2.1 27 i = nI (σ.1 6 i) ∧ w.2.1 28 i = nI (zinv (σ.1 6) i)) ∧ σ.1 5 8 ≤ 5 ∧ ∀ j, j < σ.1 5 8 → zHn w (30 + j) (σ.1 1 j) (σ.1 7 j) (σ.1 8 j) (σ.1 9 j))
/-- the class holds it -/
def CI (σ : mS) (w : mW) : Prop := zAtt (σ.1 0) w ∧ zC2 w σ ∧ zC3 w σ ∧ zC4 w σ ∧ zC5 w σ ∧ zC6 w σ ∧ zC7 w σ
def zM2 (w : mW) (σ : mS) : Prop := σ.1 5 1 ≤ 5 ∧ ∀ j, j < σ.1 5 1 → zMH w j (σ.1 1 j) (σ.1 2 j) (σ.1 3 j) (σ.1 4 j)
def zM3 (w : mW) (σ : mS) : Prop := w.2.1 67 7 = nI (σ.1 5 0) ∧ w.2.1 67 11 = nI (σ.1 5 1) ∧ w.2.1 67 3 = nI (σ.1 5 3) ∧ w.2.1 67 4 = nI (σ.1 5 2)
def zM4 (Γ : mG) (w : mW) (σ : mS) : Prop := σ.1 5 3 ≤ 6 ∧ ∀ t, t < σ.1 5 3 → zMT Γ w t (σ.2.2 t)
def zM5 (w : mW) (σ : mS) : Prop := w.2.1 67 6 = nI (σ.1 5 4) ∧ ∀ i, i < σ.1 5 4 → w.2.1 70 i = nI (σ.1 12 i)
def zM6 (w : mW) (σ : mS) : Prop := ∀ s, s < 4 → w.2.1 78 s = (if σ.1 10 s = 0 then 0 else 1) ∧ (σ.1 10 s ≠ 0 → w.2.1 79 s = zso (σ.1 10 s) ∧ w.2.1 80 s = nI (σ.1 11 s) ∧ ∀ i, i < σ.1 11 s → w.2.1 81 (40 * s + i) = σ.2.1 s i)
def zM7 (w : mW) (σ : mS) : Prop := w.2.1 67 39 = (if σ.1 5 5 = 1 then nI (σ.1 5 8) else -1) ∧ (σ.1 5 5 = 1 → (w.2.1 67 40 = nI (σ.1 5 6) ∧ w.2.1 67 41 = nI (σ.1 5 7)) ∧ (∀ i, i < 10 → σ.1 6 i < 1024 ∧ w.2.1 76 i = nI (σ.1 6 i)) ∧ σ.1 5 8 ≤ 5 ∧ ∀ j, j < σ.1 5 8 → (w.2.1 77 (3 * j) = nI (σ.1 7 j) ∧ w.2.1 77 (3 * j + 1) = nI (σ.1 8 j) ∧ w.2.1 77 (3 * j + 2) = nI (σ.1 9 j)) ∧ σ.1 7 j < 10 ∧ σ.1 8 j < 1024 ∧ σ.1 9 j ≤ 999)
/-- the model holds it -/
def MI (Γ : mG) (σ : mS) (w : mW) : Prop := zMA (σ.1 0) w ∧ zM2 w σ ∧ zM3 w σ ∧ zM4 Γ w σ ∧ zM5 w σ ∧ zM6 w σ ∧ zM7 w σ
/-- the state's bounds -/
def zWF (σ : mS) : Prop := (σ.1 5 0 ≤ 999 ∧ σ.1 5 1 ≤ 5 ∧ σ.1 5 2 < σ.1 5 3 ∧ σ.1 5 3 ≤ 6 ∧ σ.1 5 4 ≤ 160) ∧ (∀ i, i < σ.1 5 4 → σ.1 12 i < 256) ∧ (∀ s, s < 4 → σ.1 10 s ≤ 3 ∧ σ.1 11 s ≤ 40 ∧ (σ.1 10 s = 0 → σ.1 11 s = 0)) ∧ σ.1 5 5 ≤ 1 ∧ (σ.1 5 5 = 1 → σ.1 5 6 ≤ 999 ∧ σ.1 5 7 < σ.1 5 3 ∧ σ.1 5 8 ≤ σ.1 5 1)
section SIG
variable {Γ : mG} {w w' : mW} {σ τ : mS}
theorem zAtt.fr {A : Nat → Nat} (h : zAtt A w) (g : ∀ a k, a = 2 ∨ a = 3 → w'.2.1 a k = w.2.1 a k) : zAtt A w' := fun i hi => ⟨(h i hi).1, by rw [g 2 i (Or.inl rfl)]; exact (h i hi).2.1, by rw [g 3 i (Or.inr rfl)]; exact (h i hi).2.2⟩
theorem zHn.fr {h K N H E : Nat} (q : zHn w h K N H E) (g : ∀ k, w'.2.1 h k = w.2.1 h k) : zHn w' h K N H E := ⟨by rw [g, g, g, g]; exact q.1, q.2⟩
theorem zTx.fr {t : Nat} {e : Nat → Nat} {EV : Nat → (Nat → Int32) → Int32} (h : zTx w t e EV) (g2 : ∀ k, w'.2.1 (42 + 3 * t) k = w.2.1 (42 + 3 * t) k) (g3 : ∀ k, w'.2.1 (43 + 3 * t) k = w.2.1 (43 + 3 * t) k) : zTx w' t e EV := by
  refine ⟨fun j hj => ?_, h.2.1, ?_⟩
  · rw [g3]; exact h.1 j hj
  · rw [show w'.2.1 (42 + 3 * t) = w.2.1 (42 + 3 * t) from funext g2]; exact h.2.2
theorem zC2.fr (h : zC2 w σ) (g : ∀ a k, 36 ≤ a ∧ a ≤ 40 → w'.2.1 a k = w.2.1 a k) : zC2 w' σ := ⟨h.1, fun j hj => (h.2 j hj).fr (fun k => g _ k (by have := h.1; omega))⟩
theorem zC3.fr (h : zC3 w σ) (g : ∀ k, 10 ≤ k → w'.2.1 0 k = w.2.1 0 k) : zC3 w' σ := ⟨(g 10 (by decide)).trans h.1, (g 11 (by decide)).trans h.2.1, (g 12 (by decide)).trans h.2.2.1, (g 13 (by decide)).trans h.2.2.2⟩
theorem zC4.fr (h : zC4 w σ) (g : ∀ a k, 42 ≤ a ∧ a ≤ 58 → w'.2.1 a k = w.2.1 a k) : zC4 w' σ := ⟨h.1, fun t ht => by
  obtain ⟨e, he⟩ := h.2 t ht
  have := h.1
  exact ⟨e, he.fr (fun k => g _ k (by omega)) (fun k => g _ k (by omega))⟩⟩
theorem zC5.fr (h : zC5 w σ) (g : ∀ a k, a = 8 ∨ a = 9 → w'.2.1 a k = w.2.1 a k) : zC5 w' σ := ⟨(g 8 1 (Or.inl rfl)).trans h.1, fun i hi => (g 9 i (Or.inr rfl)).trans (h.2 i hi)⟩
theorem zC6.fr (h : zC6 w σ) (g : ∀ a k, 59 ≤ a ∧ a ≤ 66 → w'.2.1 a k = w.2.1 a k) : zC6 w' σ := fun s hs => ⟨(g _ 1 (by omega)).trans (h s hs).1, (g _ 2 (by omega)).trans (h s hs).2.1, fun i hi => (g _ i (by omega)).trans ((h s hs).2.2 i hi)⟩
theorem zC7.fr (h : zC7 w σ) (g : ∀ a k, a = 25 ∨ (27 ≤ a ∧ a ≤ 34) → w'.2.1 a k = w.2.1 a k) : zC7 w' σ := ⟨(g 25 2 (Or.inl rfl)).trans h.1, fun hh => ⟨⟨(g 25 3 (Or.inl rfl)).trans (h.2 hh).1.1, (g 25 4 (Or.inl rfl)).trans (h.2 hh).1.2.1, (g 25 5 (Or.inl rfl)).trans (h.2 hh).1.2.2⟩, fun i hi => ⟨((h.2 hh).2.1 i hi).1, (g 27 i (Or.inr (by decide))).trans ((h.2 hh).2.1 i hi).2.1, (g 28 i (Or.inr (by decide))).trans ((h.2 hh).2.1 i hi).2.2⟩, (h.2 hh).2.2.1, fun j hj => ((h.2 hh).2.2.2 j hj).fr (fun k => g _ k (Or.inr (by have := (h.2 hh).2.2.1; omega)))⟩⟩
/-- what the class holds for good lies outside these -/
def fcS (a k : Nat) : Bool := decide (a = 5 ∨ a = 6 ∨ (11 ≤ a ∧ a ≤ 17) ∨ (21 ≤ a ∧ a ≤ 24) ∨ a = 35 ∨ 67 ≤ a)
theorem CI.fr (h : CI σ w) (g : zFr fcS w w') : CI σ w' :=
  ⟨h.1.fr (fun a k ha => g.i a k (decide_eq_false (by omega))), h.2.1.fr (fun a k ha => g.i a k (decide_eq_false (by omega))), h.2.2.1.fr (fun k ha => g.i 0 k (decide_eq_false (by omega))), h.2.2.2.1.fr (fun a k ha => g.i a k (decide_eq_false (by omega))), h.2.2.2.2.1.fr (fun a k ha => g.i a k (decide_eq_false (by omega))), h.2.2.2.2.2.1.fr (fun a k ha => g.i a k (decide_eq_false (by omega))), h.2.2.2.2.2.2.fr (fun a k ha => g.i a k (decide_eq_false (by omega)))⟩
theorem zM2.fr (h : zM2 w σ) (g : ∀ a k, a = 72 ∨ a = 73 → w'.2.1 a k = w.2.1 a k) : zM2 w' σ := ⟨h.1, fun j hj => (h.2 j hj).fr (fun k => g _ k (Or.inl rfl)) (fun k => g _ k (Or.inr rfl))⟩
theorem zM3.fr (h : zM3 w σ) (g : ∀ k, k < 12 → w'.2.1 67 k = w.2.1 67 k) : zM3 w' σ := ⟨(g 7 (by decide)).trans h.1, (g 11 (by decide)).trans h.2.1, (g 3 (by decide)).trans h.2.2.1, (g 4 (by decide)).trans h.2.2.2⟩
theorem zM4.fr (h : zM4 Γ w σ) (g : ∀ a k, a = 68 ∨ a = 69 → w'.2.1 a k = w.2.1 a k) : zM4 Γ w' σ := ⟨h.1, fun t ht => (h.2 t ht).fr (fun k _ _ => g _ k (Or.inl rfl)) (g _ t (Or.inr rfl))⟩
theorem zM5.fr (h : zM5 w σ) (g6 : w'.2.1 67 6 = w.2.1 67 6) (g : ∀ k, w'.2.1 70 k = w.2.1 70 k) : zM5 w' σ := ⟨g6.trans h.1, fun i hi => (g i).trans (h.2 i hi)⟩
theorem zM6.fr (h : zM6 w σ) (g : ∀ a k, 78 ≤ a ∧ a ≤ 81 → w'.2.1 a k = w.2.1 a k) : zM6 w' σ := fun s hs => ⟨(g 78 s (by decide)).trans (h s hs).1, fun q => ⟨(g 79 s (by decide)).trans ((h s hs).2 q).1, (g 80 s (by decide)).trans ((h s hs).2 q).2.1, fun i hi => (g 81 _ (by decide)).trans (((h s hs).2 q).2.2 i hi)⟩⟩
theorem zM7.fr (h : zM7 w σ) (g : ∀ a k, (a = 67 ∧ 39 ≤ k) ∨ a = 76 ∨ a = 77 → w'.2.1 a k = w.2.1 a k) : zM7 w' σ := ⟨(g 67 39 (Or.inl ⟨rfl, by decide⟩)).trans h.1, fun hh => ⟨⟨(g 67 40 (Or.inl ⟨rfl, by decide⟩)).trans (h.2 hh).1.1, (g 67 41 (Or.inl ⟨rfl, by decide⟩)).trans (h.2 hh).1.2⟩, fun i hi => ⟨((h.2 hh).2.1 i hi).1, (g 76 i (Or.inr (Or.inl rfl))).trans ((h.2 hh).2.1 i hi).2⟩, (h.2 hh).2.2.1, fun j hj => by
  have q := (h.2 hh).2.2.2 j hj
  rw [g 77 _ (Or.inr (Or.inr rfl)), g 77 _ (Or.inr (Or.inr rfl)), g 77 _ (Or.inr (Or.inr rfl))]
  exact q⟩⟩
/-- what the model holds for good lies outside these -/
def fmS (a k : Nat) : Bool := decide ((a = 67 ∧ 12 ≤ k ∧ k ≤ 36) ∨ a = 74 ∨ a = 75 ∨ a < 67)
theorem MI.fr (h : MI Γ σ w) (g : zFr fmS w w') : MI Γ σ w' :=
  ⟨h.1.fr (fun k => g.i 71 k (decide_eq_false (by omega))), h.2.1.fr (fun a k ha => g.i a k (decide_eq_false (by omega))), h.2.2.1.fr (fun k ha => g.i 67 k (decide_eq_false (by omega))), h.2.2.2.1.fr (fun a k ha => g.i a k (decide_eq_false (by omega))), h.2.2.2.2.1.fr (g.i 67 6 (decide_eq_false (by omega))) (fun k => g.i 70 k (decide_eq_false (by omega))), h.2.2.2.2.2.1.fr (fun a k ha => g.i a k (decide_eq_false (by omega))), h.2.2.2.2.2.2.fr (fun a k ha => g.i a k (decide_eq_false (by omega)))⟩
/-- the class writes below 67 alone, the model from 67 on -/
def fC (a _k : Nat) : Bool := decide (a < 67)
def fM (a _k : Nat) : Bool := decide (67 ≤ a)
theorem CI.fM (h : CI σ w) (g : zFr fM w w') : CI σ w' := h.fr (g.mono (fun a k q => decide_eq_true (by have := of_decide_eq_true q; omega)))
theorem MI.fC (h : MI Γ σ w) (g : zFr fC w w') : MI Γ σ w' := h.fr (g.mono (fun a k q => decide_eq_true (by have := of_decide_eq_true q; omega)))
theorem zS_fm {a k : Nat} (q : zfS a k = true) : fmS a k = true := by
  unfold zfS at q
  simp at q
  exact decide_eq_true (by omega)
theorem zS_fM {a k : Nat} (q : zfS a k = true) : fM a k = true := by
  unfold zfS at q
  simp at q
  exact decide_eq_true (by omega)
theorem z56.F (g : z56 w w') : zFr (fun a _ => decide (a = 5 ∨ a = 6)) w w' := ⟨g.1, fun a k q => by
  have q := of_decide_eq_false q
  exact ⟨g.2.2 a k (by omega) (by omega), congrFun (congrFun g.2.1 a) k⟩⟩
theorem zfr.F {h : Nat} (g : zfr h w w') : zFr (fun a _ => decide (a = 5 ∨ a = 6 ∨ a = h)) w w' := ⟨g.1, fun a k q => by
  have q := of_decide_eq_false q
  exact ⟨g.2.2 a k (by omega) (by omega) (by omega), congrFun (congrFun g.2.1 a) k⟩⟩
theorem zfo.F {h : Nat} (g : zfo h w w') : zFr (fun a _ => decide (a = h)) w w' := ⟨g.1, fun a k q => by
  have q := of_decide_eq_false q
  exact ⟨g.2.2 a k (by omega), congrFun (congrFun g.2.1 a) k⟩⟩
theorem zf2.F {b c : Nat} (g : zf2 b c w w') : zFr (fun a _ => decide (a = b ∨ a = c)) w w' := ⟨g.1, fun a k q => by
  have q := of_decide_eq_false q
  exact ⟨g.2.2 a k (by omega) (by omega), congrFun (congrFun g.2.1 a) k⟩⟩
end SIG
