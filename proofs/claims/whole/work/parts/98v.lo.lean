/-! The walk with 67 cells: the model is not made yet. -/
theorem zS_obL : zOb 67 0 10 ∧ zOb 67 1 6 ∧ zOb 67 4 2 ∧ zOb 67 8 7 ∧ zOb 67 10 4 ∧ zOb 67 11 9 ∧ zOb 67 15 8 ∧ zOb 67 20 3 ∧ zOb 67 21 0 ∧ zOb 67 25 1 ∧ zOb 67 26 6 ∧ zOb 67 30 0 ∧ zOb 67 31 0 ∧ zOb 67 32 0 ∧ zOb 67 33 0 ∧ zOb 67 34 0 ∧ zOb 67 35 0 ∧ zOb 67 36 0 ∧ zOb 67 37 0 ∧ zOb 67 38 0 ∧ zOb 67 39 0 ∧ zOb 67 40 0 ∧ zOb 67 41 8 ∧ zOb 67 44 8 ∧ zOb 67 47 8 ∧ zOb 67 50 8 ∧ zOb 67 53 8 ∧ zOb 67 56 8 ∧ zOb 67 59 5 ∧ zOb 67 61 5 ∧ zOb 67 63 5 ∧ zOb 67 65 5 := ⟨zob_d rfl, zob_d rfl, zob_d rfl, zob_d rfl, zob_d rfl, zob_d rfl, zob_d rfl, zob_d rfl, zob_d rfl, zob_d rfl, zob_d rfl, zob_d rfl, zob_d rfl, zob_d rfl, zob_d rfl, zob_d rfl, zob_d rfl, zob_d rfl, zob_d rfl, zob_d rfl, zob_d rfl, zob_d rfl, zob_d rfl, zob_d rfl, zob_d rfl, zob_d rfl, zob_d rfl, zob_d rfl, zob_d rfl, zob_d rfl, zob_d rfl, zob_d rfl⟩
theorem zS_arL : zAr 67 2 0 ∧ zAr 67 3 0 ∧ zAr 67 5 0 ∧ zAr 67 6 0 ∧ zAr 67 7 2 ∧ zAr 67 9 0 ∧ zAr 67 12 0 ∧ zAr 67 13 0 ∧ zAr 67 14 0 ∧ zAr 67 16 0 ∧ zAr 67 17 0 ∧ zAr 67 18 4 ∧ zAr 67 19 3 ∧ zAr 67 22 0 ∧ zAr 67 23 0 ∧ zAr 67 24 0 ∧ zAr 67 27 0 ∧ zAr 67 28 0 ∧ zAr 67 29 2 ∧ zAr 67 42 0 ∧ zAr 67 43 0 ∧ zAr 67 45 0 ∧ zAr 67 46 0 ∧ zAr 67 48 0 ∧ zAr 67 49 0 ∧ zAr 67 51 0 ∧ zAr 67 52 0 ∧ zAr 67 54 0 ∧ zAr 67 55 0 ∧ zAr 67 57 0 ∧ zAr 67 58 0 ∧ zAr 67 60 0 ∧ zAr 67 62 0 ∧ zAr 67 64 0 ∧ zAr 67 66 0 := ⟨zar_d rfl, zar_d rfl, zar_d rfl, zar_d rfl, zar_d rfl, zar_d rfl, zar_d rfl, zar_d rfl, zar_d rfl, zar_d rfl, zar_d rfl, zar_d rfl, zar_d rfl, zar_d rfl, zar_d rfl, zar_d rfl, zar_d rfl, zar_d rfl, zar_d rfl, zar_d rfl, zar_d rfl, zar_d rfl, zar_d rfl, zar_d rfl, zar_d rfl, zar_d rfl, zar_d rfl, zar_d rfl, zar_d rfl, zar_d rfl, zar_d rfl, zar_d rfl, zar_d rfl, zar_d rfl, zar_d rfl⟩
theorem zS_textL : ∀ j, j < 6 → zr0 18 j = some (41 + 3 * j) ∧ zOb 67 (41 + 3 * j) 8 ∧ zr0 (41 + 3 * j) 0 = some (42 + 3 * j) ∧ zr0 (41 + 3 * j) 1 = some (43 + 3 * j) ∧ zAr 67 (42 + 3 * j) 0 ∧ zAr 67 (43 + 3 * j) 0 ∧ (zL (42 + 3 * j)).2 = 160 ∧ (zL (43 + 3 * j)).2 = 3 := fun j h => by
  rcases (show j = 0 ∨ j = 1 ∨ j = 2 ∨ j = 3 ∨ j = 4 ∨ j = 5 by omega) with rfl | rfl | rfl | rfl | rfl | rfl <;> exact ⟨rfl, zob_d rfl, rfl, rfl, zar_d rfl, zar_d rfl, rfl, rfl⟩
section LO1
variable {Γ : mG} {M : mM} {F : mF} {d n0 mc ms pc ce sl : Nat} {Rt : Value → mW → Prop} {ls st : List Value} {w : mW}
theorem V.runL {cs : List mE} {Q : Value → mW → Prop} {pc : Nat} (rt : Option FieldType) (hok : zok M.2.1 M.2.2.1 M.2.2.2.1 cs = true) (hrt : M.2.2.2.2.1 = rt) (h : zbl Γ M (zF Γ M 67 0 0 Q) d 67 0 0 0 0 67 rt Q (zat pc cs) ls st w) : V Γ M (zF Γ M 67 0 0 Q) (d + 1) 67 0 0 pc ls st w 0 0 :=
  V.at pc hok (by decide) ⟨Nat.le_refl _, Nat.le_refl _⟩ (zRt_m ⟨rfl, Nat.le_refl _⟩) (by rw [hrt]; exact h)
theorem V.runcL {cs : List mE} {Q : Value → mW → Prop} {pc : Nat} (h : Nat) (rt : Option FieldType) (hok : zok M.2.1 M.2.2.1 M.2.2.2.1 cs = true) (hrt : M.2.2.2.2.1 = rt) (hz : zbl Γ M (zF Γ M 67 0 0 Q) d 67 0 0 0 0 67 rt Q (zcut h (zat pc cs)) ls st w) : V Γ M (zF Γ M 67 0 0 Q) (d + 1) 67 0 0 pc ls st w 0 0 :=
  V.atc pc h hok (by decide) ⟨Nat.le_refl _, Nat.le_refl _⟩ (zRt_m ⟨rfl, Nat.le_refl _⟩) (by rw [hrt]; exact hz)
theorem Call.runcL {cs : List mE} {as : List Value} {Q : Value → mW → Prop} (h : Nat) (ml : Nat) (rt : Option FieldType) (hM : zMok M) (hy : plainName M.1.cls = true ∧ M.2.1 = M.1.cls) (hn : (lg_sl (as.map (zv Γ))).length ≤ ml) (hok : zok M.2.1 M.2.2.1 M.2.2.2.1 cs = true) (hml : M.2.2.2.1 = ml) (hrt : M.2.2.2.2.1 = rt)
    (hz : zbl Γ M (zF Γ M 67 0 0 Q) d 67 0 0 0 0 67 rt Q (zcut h (zat 0 cs)) (zpad ml (zent as)) [] w) : Call Γ (d + 1) 0 0 M as 67 w Q := by
  subst hml
  exact Call.of hM hy hn (V.runcL h rt hok hrt hz)
theorem Call.runL {Γ : mG} {d : Nat} {M : mM} {cs : List mE} {as : List Value} {w : mW} {Q : Value → mW → Prop} (ml : Nat) (rt : Option FieldType) (hM : zMok M) (hy : plainName M.1.cls = true ∧ M.2.1 = M.1.cls) (hn : (lg_sl (as.map (zv Γ))).length ≤ ml) (hok : zok M.2.1 M.2.2.1 M.2.2.2.1 cs = true) (hml : M.2.2.2.1 = ml) (hrt : M.2.2.2.2.1 = rt)
    (h : zbl Γ M (zF Γ M 67 0 0 Q) d 67 0 0 0 0 67 rt Q (zat 0 cs) (zpad ml (zent as)) [] w) : Call Γ (d + 1) 0 0 M as 67 w Q := by
  subst hml
  exact Call.of hM hy hn (V.runL rt hok hrt h)
theorem V.runEL {cs : List mE} {Q : Value → mW → Prop} {pc : Nat} (h : Nat) (rt : Option FieldType) (hok : zok M.2.1 M.2.2.1 M.2.2.2.1 cs = true ∧ zend cs h = true) (hrt : M.2.2.2.2.1 = rt) (hne : (zat pc cs).isEmpty = false) (hz : zbl Γ M (zF Γ M 67 0 0 Q) d 67 0 0 0 0 67 rt Q (zat pc cs ++ [((h, .nop, 1, h, [], 0, 0, zM0) : mE)]) ls st w) : V Γ M (zF Γ M 67 0 0 Q) (d + 1) 67 0 0 pc ls st w 0 0 := by
  cases hc : zat pc cs with
  | nil => rw [hc] at hne; cases hne
  | cons q cs' =>
    have e := zat_pc _ _ _ hc
    rw [← e]
    rw [hc] at hz
    exact zend_sound (by decide) ⟨Nat.le_refl _, Nat.le_refl _⟩ (zRt_m ⟨rfl, Nat.le_refl _⟩) _ (by rw [← hc]; exact zat_ok cs hok.1) (by rw [← hc]; exact zend_at cs hok.2) q cs' rfl ls st w (by rw [hrt]; exact hz)
theorem Call.ofLL {Q : Value → mW → Prop} {M : mM} {as : List Value} (ml : Nat) (hM : zMok M) (hy : plainName M.1.cls = true ∧ M.2.1 = M.1.cls) (hn : (lg_sl (as.map (zv Γ))).length ≤ ml) (hml : M.2.2.2.1 = ml) (hz : V Γ M (zF Γ M 67 0 0 Q) (d + 1) 67 0 0 0 (zpad ml (zent as)) [] w 0 0) : Call Γ (d + 1) 0 0 M as 67 w Q := by
  subst hml
  exact Call.of hM hy hn hz
end LO1
