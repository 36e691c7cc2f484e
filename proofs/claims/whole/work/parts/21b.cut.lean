/-! A block that ends where it comes to a place h. -/
section ZH
variable {Γ : mG} {M : mM} {F : mF} {d n0 mc ms pc ce sl : Nat} {Rt : Value → mW → Prop} {ls st : List Value} {w : mW}
def zbh (Γ : mG) (M : mM) (F : mF) (d n0 mc ms ce sl nx : Nat) (rt : Option FieldType) (Rt : Value → mW → Prop) (h : Nat) : List mE → List Value → List Value → mW → Prop
  | [] => fun _ _ _ => False
  | q :: cs => fun ls st w => if q.1 = h then V Γ M F (d + 1) n0 mc ms h ls st w ce sl else zst Γ d rt q.2.1 q.2.2.2.1 q.2.2.2.2.1 q.2.2.2.2.2.1 q.2.2.2.2.2.2.1 q.2.2.2.2.2.2.2 (zbh Γ M F d n0 mc ms ce sl nx rt Rt h cs) (fun t ls st w => V Γ M F (d + 1) n0 mc ms t ls st w ce sl) Rt ls st nx w
theorem zbh_c {nx h : Nat} {rt : Option FieldType} {q : mE} {cs : List mE} : zbh Γ M F d n0 mc ms ce sl nx rt Rt h (q :: cs) ls st w = (if q.1 = h then V Γ M F (d + 1) n0 mc ms h ls st w ce sl else zst Γ d rt q.2.1 q.2.2.2.1 q.2.2.2.2.1 q.2.2.2.2.2.1 q.2.2.2.2.2.2.1 q.2.2.2.2.2.2.2 (zbh Γ M F d n0 mc ms ce sl nx rt Rt h cs) (fun t ls st w => V Γ M F (d + 1) n0 mc ms t ls st w ce sl) Rt ls st nx w) := rfl
theorem zbh_sound {h : Nat} (hnx : n0 + ce ≤ 4096) (hmc : ce ≤ mc ∧ sl ≤ ms) (hR : zRt Γ M F (d + 1) n0 mc ms ce sl Rt) : ∀ (cs : List mE), zok M.2.1 M.2.2.1 M.2.2.2.1 cs = true → ∀ (q : mE) (cs' : List mE), cs = q :: cs' → ∀ ls st w, zbh Γ M F d n0 mc ms ce sl (n0 + ce) M.2.2.2.2.1 Rt h cs ls st w → V Γ M F (d + 1) n0 mc ms q.1 ls st w ce sl := by
  intro cs
  induction cs with
  | nil => intro _ q cs' h; cases h
  | cons r cs ih =>
    intro hok q cs' he ls st w hz
    cases he
    unfold zok at hok
    obtain ⟨h1, h2⟩ := z_and hok
    obtain ⟨h1, h3⟩ := z_and h1
    obtain ⟨g1, g2, g3⟩ := zOK_dec h1
    rw [zbh_c] at hz
    by_cases hq : r.1 = h
    · rw [if_pos hq] at hz
      rw [hq]
      exact hz
    · rw [if_neg hq] at hz
      refine zst_sound (K := zbh Γ M F d n0 mc ms ce sl (n0 + ce) M.2.2.2.2.1 Rt h cs) g1 g2 g3 hnx hmc hR (fun ls st w hk => ?_) (fun t ls st w ht => ht) hz
      cases cs with
      | nil => exact hk.elim
      | cons r2 cs2 =>
        have e : r.1 + r.2.2.1 = r2.1 := z_d h3
        rw [e]
        exact ih h2 r2 cs2 rfl ls st w hk
theorem V.ath {cs : List mE} (pc h : Nat) (hok : zok M.2.1 M.2.2.1 M.2.2.2.1 cs = true) (hnx : n0 + ce ≤ 4096) (hmc : ce ≤ mc ∧ sl ≤ ms) (hR : zRt Γ M F (d + 1) n0 mc ms ce sl Rt) (hz : zbh Γ M F d n0 mc ms ce sl (n0 + ce) M.2.2.2.2.1 Rt h (zat pc cs) ls st w) : V Γ M F (d + 1) n0 mc ms pc ls st w ce sl := by
  cases hc : zat pc cs with
  | nil => rw [hc] at hz; exact hz.elim
  | cons q cs' =>
    have e := zat_pc _ _ _ hc
    rw [← e]
    rw [hc] at hz
    exact zbh_sound hnx hmc hR _ (by rw [← hc]; exact zat_ok cs hok) q cs' rfl ls st w hz
theorem V.runh {cs : List mE} {Q : Value → mW → Prop} {pc : Nat} (h : Nat) (rt : Option FieldType) (hok : zok M.2.1 M.2.2.1 M.2.2.2.1 cs = true) (hrt : M.2.2.2.2.1 = rt) (hz : zbh Γ M (zF Γ M 82 0 0 Q) d 82 0 0 0 0 82 rt Q h (zat pc cs) ls st w) : V Γ M (zF Γ M 82 0 0 Q) (d + 1) 82 0 0 pc ls st w 0 0 :=
  V.ath pc h hok (by decide) ⟨Nat.le_refl _, Nat.le_refl _⟩ (zRt_m ⟨rfl, Nat.le_refl _⟩) (by rw [hrt]; exact hz)
theorem Call.runh {cs : List mE} {as : List Value} {Q : Value → mW → Prop} (h : Nat) (ml : Nat) (rt : Option FieldType) (hM : zMok M) (hy : plainName M.1.cls = true ∧ M.2.1 = M.1.cls) (hn : (lg_sl (as.map (zv Γ))).length ≤ ml) (hok : zok M.2.1 M.2.2.1 M.2.2.2.1 cs = true) (hml : M.2.2.2.1 = ml) (hrt : M.2.2.2.2.1 = rt)
    (hz : zbh Γ M (zF Γ M 82 0 0 Q) d 82 0 0 0 0 82 rt Q h (zat 0 cs) (zpad ml (zent as)) [] w) : Call Γ (d + 1) 0 0 M as 82 w Q := by
  subst hml
  exact Call.of hM hy hn (V.runh h rt hok hrt hz)
end ZH
