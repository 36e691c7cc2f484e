/-! The law: its start. -/
theorem zrM_67 (k : Nat) : zrM 67 k = none := if_neg (by decide)
section LST
variable {Γ : mG} {F : mF} {d : Nat}
theorem v_lawStart (hN : gN Γ ≤ 3072) (hR : zRt Γ kL_law F (d + 200 + 1) 0 82 7045 82 7045 (fun v _ => v = .int 1)) (hG : zGS Γ) (hI : zGI Γ) : V Γ kL_law F (d + 200 + 1) 0 82 7045 0 [.ref 4111, zU, zU, zU] [] (zW0 [] []) 0 0 := by
  refine zs_new (pc := 0) (i := 7) (c := 10) (pl := 1021) (pi := 1022) (pn := 1001) (by decide +kernel) (by decide) (by decide +kernel) (by decide +kernel) (by decide +kernel) (by decide +kernel) zdef_0 ⟨by decide, by decide⟩ ?_
  refine zs_dupr (pc := 3) (by decide +kernel) ?_
  refine zs_init (pc := 4) (i := 9) (pl := 1023) (pv := 1024) (a := 0) (mc' := 66) (ms' := 5612) (N := kX10_init) (as := []) (st' := [.ref 0]) (by decide +kernel) (by decide +kernel) (by decide +kernel) rfl rfl (by decide) (by decide) rfl ⟨by decide, by decide⟩ (c_iClass (d := d + 32) (Q := fun v w' => w'.1 = zr0 ∧ CI zσ0 w' ∧ ∀ a, 67 ≤ a → ∀ k, w'.2.1 a k = 0 ∧ w'.2.2 a k = 0) hI hG (fun w' h1 h2 h3 => ⟨h1, h2, h3⟩)) (fun x w1 q => ?_)
  obtain ⟨hw1, C1, z1⟩ := q
  refine zs_astore_n (pc := 7) (k := 1) (i := 1) (by decide +kernel) rfl (by decide) ?_
  refine V.cong (w' := (zrM, w1.2)) (fun a ha k => ⟨by rw [hw1]; exact if_pos (by omega), rfl, rfl⟩) ?_
  refine zs_new (pc := 8) (i := 10) (c := 11) (pl := 5027) (pi := 5028) (pn := 1019) (by decide +kernel) (by decide) (by decide +kernel) (by decide +kernel) (by decide +kernel) (by decide +kernel) ⟨fun k => zrM_67 k, fun k => (z1 67 (by decide) k).1, fun k => (z1 67 (by decide) k).2⟩ ⟨by decide, by decide⟩ ?_
  refine zs_dupr (pc := 11) (by decide +kernel) ?_
  refine zs_init (pc := 12) (i := 12) (pl := 5029) (pv := 5030) (a := 67) (mc' := 14) (ms' := 1373) (N := kX11_init) (as := []) (st' := [.ref 67]) (by decide +kernel) (by decide +kernel) (by decide +kernel) rfl rfl (by decide) (by decide) rfl ⟨by decide, by decide⟩ (c_iModel (d := d + 198) (w := (zrM, w1.2)) (Q := fun v w' => w'.1 = zr0 ∧ CI zσ0 w' ∧ MI Γ zσ0 w') rfl z1 (fun w' h1 h2 h3 => ⟨h1, C1.ints h2, h3⟩)) (fun x w2 q => ?_)
  obtain ⟨hw2, C2, M2⟩ := q
  refine zs_astore_n (pc := 15) (k := 2) (i := 2) (by decide +kernel) rfl (by decide) ?_
  refine zs_iconst (pc := 16) (n := 0) (v := 0) (by decide +kernel) (by decide) ?_
  refine zs_istore_n (pc := 17) (k := 3) (i := 3) (by decide +kernel) rfl (by decide) ?_
  have hF : zWF zσ0 := ⟨by decide, fun i hi => absurd hi (Nat.not_lt_zero _), fun s hs => ⟨Nat.zero_le _, Nat.zero_le _, fun _ => rfl⟩, Nat.zero_le _, fun h => absurd h (by decide)⟩
  exact v_law hN hR hG 600 0 zσ0 w2 (by omega) (by decide) hw2 C2 M2 hF
end LST
