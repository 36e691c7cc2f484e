/-! The same, by cutting the code: all by computation. -/
def zcut (h : Nat) : List mE → List mE
  | [] => []
  | q :: cs => if q.1 = h then [(h, .nop, 1, h, [], 0, 0, zM0)] else q :: zcut h cs
section ZH2
variable {Γ : mG} {M : mM} {F : mF} {d n0 mc ms pc ce sl : Nat} {Rt : Value → mW → Prop} {ls st : List Value} {w : mW}
theorem zcut_sound {h : Nat} (hnx : n0 + ce ≤ 4096) (hmc : ce ≤ mc ∧ sl ≤ ms) (hR : zRt Γ M F (d + 1) n0 mc ms ce sl Rt) : ∀ (cs : List mE), zok M.2.1 M.2.2.1 M.2.2.2.1 cs = true → ∀ (q : mE) (cs' : List mE), cs = q :: cs' → ∀ ls st w, zbl Γ M F d n0 mc ms ce sl (n0 + ce) M.2.2.2.2.1 Rt (zcut h cs) ls st w → V Γ M F (d + 1) n0 mc ms q.1 ls st w ce sl := by
  intro cs
  induction cs with
  | nil => intro _ q cs' h; cases h
  | cons r cs ih =>
    intro hok q cs' he ls st w hz
    cases he
    unfold zok at hok
    obtain ⟨h1, h2⟩ := z_and hok
    obtain ⟨h1, h3⟩ := z_and h1
    obtain ⟨g1, g2, g3⟩ := zOK_dec h1
    unfold zcut at hz
    by_cases hq : r.1 = h
    · rw [if_pos hq] at hz
      rw [hq]
      exact hz
    · rw [if_neg hq] at hz
      refine zst_sound (K := zbl Γ M F d n0 mc ms ce sl (n0 + ce) M.2.2.2.2.1 Rt (zcut h cs)) g1 g2 g3 hnx hmc hR (fun ls st w hk => ?_) (fun t ls st w ht => ht) hz
      cases cs with
      | nil => exact hk.elim
      | cons r2 cs2 =>
        have e : r.1 + r.2.2.1 = r2.1 := z_d h3
        rw [e]
        exact ih h2 r2 cs2 rfl ls st w hk
theorem V.atc {cs : List mE} (pc h : Nat) (hok : zok M.2.1 M.2.2.1 M.2.2.2.1 cs = true) (hnx : n0 + ce ≤ 4096) (hmc : ce ≤ mc ∧ sl ≤ ms) (hR : zRt Γ M F (d + 1) n0 mc ms ce sl Rt) (hz : zbl Γ M F d n0 mc ms ce sl (n0 + ce) M.2.2.2.2.1 Rt (zcut h (zat pc cs)) ls st w) : V Γ M F (d + 1) n0 mc ms pc ls st w ce sl := by
  cases hc : zat pc cs with
  | nil => rw [hc] at hz; exact hz.elim
  | cons q cs' =>
    have e := zat_pc _ _ _ hc
    rw [← e]
    rw [hc] at hz
    exact zcut_sound hnx hmc hR _ (by rw [← hc]; exact zat_ok cs hok) q cs' rfl ls st w hz
theorem V.runc {cs : List mE} {Q : Value → mW → Prop} {pc : Nat} (h : Nat) (rt : Option FieldType) (hok : zok M.2.1 M.2.2.1 M.2.2.2.1 cs = true) (hrt : M.2.2.2.2.1 = rt) (hz : zbl Γ M (zF Γ M 82 0 0 Q) d 82 0 0 0 0 82 rt Q (zcut h (zat pc cs)) ls st w) : V Γ M (zF Γ M 82 0 0 Q) (d + 1) 82 0 0 pc ls st w 0 0 :=
  V.atc pc h hok (by decide) ⟨Nat.le_refl _, Nat.le_refl _⟩ (zRt_m ⟨rfl, Nat.le_refl _⟩) (by rw [hrt]; exact hz)
theorem Call.runc {cs : List mE} {as : List Value} {Q : Value → mW → Prop} (h : Nat) (ml : Nat) (rt : Option FieldType) (hM : zMok M) (hy : plainName M.1.cls = true ∧ M.2.1 = M.1.cls) (hn : (lg_sl (as.map (zv Γ))).length ≤ ml) (hok : zok M.2.1 M.2.2.1 M.2.2.2.1 cs = true) (hml : M.2.2.2.1 = ml) (hrt : M.2.2.2.2.1 = rt)
    (hz : zbl Γ M (zF Γ M 82 0 0 Q) d 82 0 0 0 0 82 rt Q (zcut h (zat 0 cs)) (zpad ml (zent as)) [] w) : Call Γ (d + 1) 0 0 M as 82 w Q := by
  subst hml
  exact Call.of hM hy hn (V.runc h rt hok hrt hz)
theorem zq_nop {nx t : Nat} {rt : Option FieldType} {tg : List Nat} {v : Int32} {u : Int64} {N : mM} {K : List Value → List Value → mW → Prop} {T : Nat → List Value → List Value → mW → Prop} : zst Γ d rt .nop t tg v u N K T Rt ls st nx w = T t ls st w := rfl
end ZH2
