/-! Each call, by both: WFs that were wanting. -/
section WFS
variable {σ : mS} {x y z u v : Int32}
theorem WF.against (hF : zWF σ) : zWF (f_against σ x y z).2 := by
  unfold f_against
  split
  · exact hF
  · exact hF
theorem WF.set (hF : zWF σ) : zWF (f_set σ x y z).2 := by
  unfold f_set
  split
  · rename_i h
    split
    · rename_i h0
      subst h0
      obtain ⟨v, hv, hv2, rfl⟩ := zu_t h.2.2
      rw [nT hv2]
      have hv : v < 1000 := hv
      exact ⟨⟨Nat.le_of_lt_succ hv, hF.1.2⟩, hF.2⟩
    · split
      · exact hF
      · split
        · exact hF
        · exact hF
  · exact hF
theorem WF.argue (hF : zWF σ) : zWF (f_argue σ x y).2 := by
  unfold f_argue
  split
  · exact hF
  · exact hF
theorem WF.night (hF : zWF σ) : zWF (f_night σ).2 := by
  unfold f_night
  split
  · rename_i h
    exact WF.nt hF h
  · exact hF
theorem WF.teach (hF : zWF σ) : zWF (f_teach σ x y).2 := by
  unfold f_teach
  split
  · split
    · exact hF
    · exact hF
  · exact hF
theorem WF.film (hF : zWF σ) : zWF (f_film σ x y).2 := by
  unfold f_film
  split
  · exact WF.fm hF
  · exact hF
theorem WF.image (hF : zWF σ) : zWF (f_image σ).2 := WF.kimg hF
theorem WF.back (hF : zWF σ) : zWF (f_back σ).2 := by
  unfold f_back
  split
  · rename_i h
    exact WF.bimg hF h
  · exact hF
theorem WF.sheet (hF : zWF σ) : zWF (f_sheet σ x y z).2 := by
  unfold f_sheet
  split
  · rename_i h
    split
    · exact WF.st hF (by decide) (by decide) (fun _ => rfl)
    · rename_i h1
      split
      · exact hF
      · rename_i h2
        split
        · exact hF
        · rename_i h3
          obtain ⟨v, hv, hv2, rfl⟩ := zu_t (h.2.resolve_left h1)
          obtain ⟨n, hn, rfl⟩ := nI_of h3
          rw [nT hv2, nT hn]
          have hn40 : ¬ 40 < n := fun q => h2 ((nI_ltI (a := 40) (by decide) hn).mpr q)
          exact WF.st hF (by omega) (by omega) (fun q => by omega)
  · exact hF
theorem WF.cell (hF : zWF σ) : zWF (f_cell σ x y z).2 := by
  unfold f_cell
  split
  · split
    · exact hF
    · split
      · exact hF
      · exact hF
  · exact hF
theorem WF.copy (hF : zWF σ) : zWF (f_copy σ x y z u v).2 := by
  unfold f_copy
  split
  · split
    · exact hF
    · split
      · split
        · exact hF
        · exact hF
      · exact hF
  · exact hF
theorem WF.hensF (hF : zWF σ) : zWF (f_hens σ x y z u).2 := by
  unfold f_hens
  split
  · split
    · exact hF
    · split
      · split
        · split
          · exact hF
          · exact hF
        · exact WF.hens _ _ _ _ _ _ hF
      · exact hF
  · exact hF
end WFS
